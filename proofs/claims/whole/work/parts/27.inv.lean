section SMO
variable {p : Program} {l : Launch} {e : Env} {Rm : Room} {s : State} {m : MethodId} {args : Array Value} {below : List Frame} {meth : Method} {c : Code} {Q : State → Prop}
variable {D : va_G} {tc : Nat → ClassId} {B : Nat} {ρ0 adV : Nat → Nat} {Z : sm_G} {nL n0 x0 nf xf o d : Nat} {cc : ByteArray} {ini : Bool} {T : Nat → Instr}
variable {pc : Nat} {ls st : List Value} {n : Nat} {R : sm_R} {x : Nat} {G : sm_G} {L : sm_L}
variable {hd : Nat → Nat → Nat} {cn : sm_CN} {cx : sm_CX} {k : Nat → List Value → List Value → Nat → sm_R → Nat → sm_G → sm_L → Option sm_O} {w : sm_O}
/-- a call is made: what comes of it -/
def sm_Rn (p : Program) (l : Launch) (e : Env) (Rm : Room) (s : State) (m : MethodId) (args : Array Value) (below : List Frame) (meth : Method) (c : Code) (D : va_G) (tc : Nat → ClassId) (B : Nat) (ρ0 : Nat → Nat) (Z : sm_G) (n0 x0 : Nat) (nL pc : Nat) (as rest : List Value) (n : Nat) (R : sm_R) (x : Nat) (G : sm_G) (L : sm_L) (r : sm_Res) (S : sm_S) : Prop :=
  ∀ (ρ : Nat → Nat) (H : Heap) (locs : List Loc) (rls : Array Slot), n0 ≤ n → x0 ≤ x → sm_V D tc B ρ0 Z n0 s ρ n R G L H locs → rls.size = nL →
    ∃ a, vx_Run p l e Rm s m args below meth c H locs (sm_mc n0 x0 n x) (sm_ms n0 x0 n x) (sm_mc n x S.1 S.2.2.1) (sm_ms n x S.1 S.2.2.1) (F0 m pc rls ((as.reverse ++ rest).map (sm_cv ρ))) (rest.map (sm_cv ρ)) (sm_QC D tc Z B ρ n r S a) (sm_XC D tc Z B ρ n r S) (fun q => B ≤ q)
theorem sm_mc_le {n0 n n' nf x0 x x' xf : Nat} (h1 : n0 ≤ n) (h2 : n ≤ n') (h3 : n' ≤ nf) (g1 : x0 ≤ x) (g2 : x ≤ x') (g3 : x' ≤ xf) : sm_mc n0 x0 n x + sm_mc n x n' x' = sm_mc n0 x0 n' x' ∧ sm_mc n0 x0 n' x' ≤ sm_mc n0 x0 nf xf ∧ sm_ms n0 x0 n x + sm_ms n x n' x' = sm_ms n0 x0 n' x' ∧ sm_ms n0 x0 n' x' ≤ sm_ms n0 x0 nf xf := by
  have a1 := sm_pre_mono h1
  have a2 := sm_pre_mono h2
  have a3 := sm_pre_mono h3
  unfold sm_mc sm_ms
  refine ⟨by omega, by omega, by omega, by omega⟩
/-- every method's words stand -/
def sm_mks : Prop := ∀ j, sm_kn j = true → sm_mck j = true
theorem sm_kn_of {j : Nat} (h : sm_kn j = true) : (1 ≤ j ∧ j ≤ 2) ∨ (6 ≤ j ∧ j ≤ 333) ∨ (512 ≤ j ∧ j ≤ 530) := by
  unfold sm_kn at h
  simp only [Bool.or_eq_true, Bool.and_eq_true] at h
  rcases h with (h | h) | h
  · exact Or.inl ⟨sm_ale h.1, sm_ale h.2⟩
  · exact Or.inr (Or.inl ⟨sm_ale h.1, sm_ale h.2⟩)
  · exact Or.inr (Or.inr ⟨sm_ale h.1, sm_ale h.2⟩)
/-- the texts' members are called of texts -/
def sm_tx (cx : sm_CX) : Prop := (∀ as S o, cx 1 as S = some o → ∃ r : Nat, as = [.ref r] ∧ 4096 ≤ r ∧ r < 4096 + sm_strs.length) ∧ ∀ as S o, cx 2 as S = some o → ∃ (r : Nat) (i : Int32), as = [.ref r, .int i] ∧ 4096 ≤ r ∧ r < 4096 + sm_strs.length
theorem sm_run_call (C : sm_Cx p s m args meth c D tc B ρ0 adV Z nL o cc ini T) (hdp : sm_dp Rm d) (hrm : sm_rm Rm n0 x0 nf xf) (hcon : sm_Con D tc adV Z B l d cx) (hbi : sm_tx cx) (hmks : sm_mks)
    (hck : sm_cck o (T pc) = true) {v : Nat} (hT : T pc = .invokevirtual v ∨ (T pc = .invokespecial v ∧ Nat.mod v 1024 ≠ 1023) ∨ (T pc = .invokestatic v ∧ ¬ (3 ≤ Nat.mod v 1024 ∧ Nat.mod v 1024 ≤ 5))) {as rest : List Value} {r : sm_Res} {S : sm_S}
    (hw : sm_wsum rest ≤ 8) (hrc : sm_rcv (Nat.mod v 1024) as n = true) (hna : as.length = Nat.mod (Nat.div v 1024) 16) (hcx : cx (Nat.mod v 1024) as (n, R, x, G, L) = some (r, S)) (hS1 : S.1 ≤ nf) (hS2 : S.2.2.1 ≤ xf) :
    (n ≤ S.1 ∧ x ≤ S.2.2.1) ∧ sm_Rn p l e Rm s m args below meth c D tc B ρ0 Z n0 x0 nL pc as rest n R x G L r S := by
  obtain ⟨hx, hb, hml, hts, hSt, hown, hchk, hini⟩ := C
  obtain ⟨hr1, hr2, hr3, hr4, hr5⟩ := hrm
  obtain ⟨n', R', x', G', L'⟩ := S
  obtain ⟨hmono, hpure, hmet⟩ := hcon _ _ _ _ _ _ _ _ _ _ _ _ _ hcx
  have hS1 : n' ≤ nf := hS1
  have hS2 : x' ≤ xf := hS2
  obtain ⟨hm1, hm2⟩ := hmono (by omega)
  refine ⟨⟨hm1, hm2⟩, fun ρ H locs rls h0 h1 hV hsz => ?_⟩
  obtain ⟨c1, c2, c3, c4⟩ := sm_mc_le h0 hm1 hS1 h1 hm2 hS2
  have hroom : sm_mc n0 x0 n x + sm_mc n x n' x' ≤ Rm.cells ∧ sm_ms n0 x0 n x + sm_ms n x n' x' ≤ Rm.slots := ⟨by rw [c1]; exact Nat.le_trans c2 hr1, by rw [c3]; exact Nat.le_trans c4 hr2⟩
  have hKs := hSt.1
  have hw8 : ((rest.map (sm_cv ρ)).map fun v => v.category).sum ≤ 8 := by rw [sm_cat_sum, ← sm_wsum_eq]; exact hw
  have hmap : ∀ (as : List Value), ((as.reverse ++ rest).map (sm_cv ρ)) = (as.map (sm_cv ρ)).reverse ++ rest.map (sm_cv ρ) := fun as => by rw [List.map_append, List.map_reverse]
  rcases hT with hT | ⟨hT, hne⟩ | ⟨hT, hne⟩
  · obtain ⟨hd0, -⟩ := sm_chk_of hchk hT (by intro z; cases z)
    rw [hT] at hck
    simp only [sm_cck, Bool.and_eq_true, decide_eq_true_eq] at hck
    obtain ⟨⟨⟨⟨⟨⟨hlk, hnest⟩, hsta⟩, hnm⟩, hem⟩, hkn⟩, hnp⟩ := hck
    have hmck := hmks _ hkn
    have hkn := sm_kn_of hkn
    have hnm : sm_ki (Nat.mod v 1024) ≠ 1 := fun z => by rw [z] at hnm; cases hnm
    have hsta := Nat.eq_of_beq_eq_true hsta
    have hnest := Nat.eq_of_beq_eq_true hnest
    have hnp := Nat.eq_of_beq_eq_true hnp
    unfold sm_lk at hlk
    rw [hnest] at hlk
    have hlk := hts _ (sm_tb_m (sm_tc_of hlk) rfl)
    obtain ⟨g1, g2, g3, g4, g5, g6, g7, g8, g9, g10, g11⟩ := sm_mck_of hmck
    rw [if_neg (by omega)] at g2
    have hrecv : ∃ (r0 : Nat) (As : List Value), as = .ref r0 :: As ∧ r0 ≠ 0 ∧ ∃ cell : Cell, H[ρ r0]? = some cell ∧ cell.vm.isStatics = false ∧ s.vm.findClass (sm_y (Nat.mod v 1024)).cls = some cell.cls := by
      have hstr : ∀ r0 : Nat, 4096 ≤ r0 → r0 < 4096 + sm_strs.length → (sm_y (Nat.mod v 1024)).cls = "java/lang/String" → ∃ cell : Cell, H[ρ r0]? = some cell ∧ cell.vm.isStatics = false ∧ s.vm.findClass (sm_y (Nat.mod v 1024)).cls = some cell.cls := by
        intro r0 q1 q2 q3
        rw [q3, hV.2.2.2.1 r0 (Or.inr (by have := hV.2.2.2.2.2.1; omega))]
        have q4 := vk_recv (A := fun q => B ≤ q) (i := 0) (hSt.2.2.2.2.1 (r0 - 4096) (by omega)) (by decide) hV.2.2.1
        rw [show (4096 + (r0 - 4096)) = r0 by omega] at q4
        exact q4
      by_cases q1 : Nat.mod v 1024 = 1
      · rw [q1] at hcx
        obtain ⟨r0, e1, e2, e3⟩ := hbi.1 _ _ _ hcx
        exact ⟨r0, [], e1, by omega, hstr r0 e2 e3 (by rw [q1]; rfl)⟩
      · by_cases q2 : Nat.mod v 1024 = 2
        · rw [q2] at hcx
          obtain ⟨r0, i, e1, e2, e3⟩ := hbi.2 _ _ _ hcx
          exact ⟨r0, [.int i], e1, by omega, hstr r0 e2 e3 (by rw [q2]; rfl)⟩
        · have q3 : ¬ Nat.mod v 1024 ≤ 5 := by omega
          unfold sm_rcv at hrc
          rw [hsta, sm_ble_f q3] at hrc
          simp only [cond_false] at hrc
          rw [show Nat.beq 0 1 = false from rfl] at hrc
          simp only [cond_false] at hrc
          split at hrc
          · next r0 As =>
            have h13 : sm_own (Nat.mod v 1024) < 13 := by
              obtain ⟨z1, z2, z3⟩ := sm_is_spec hrc (by omega)
              have z4 := sm_NK r0 (by have := hV.2.2.2.2.2.1; omega) (by omega)
              rw [z1] at z4
              cases z5 : vwCl[sm_own (Nat.mod v 1024)]? with
              | none => rw [z5] at z4; cases z4
              | some q =>
                have := (List.getElem?_eq_some_iff.mp z5).1
                rw [sm_vlen] at this
                exact this
            obtain ⟨g1', g2', g0'⟩ := sm_is_spec hrc (by omega)
            refine ⟨r0, As, rfl, g0', ?_⟩
            rw [← g9]
            exact sm_recv hKs hV hrc h13
          · cases hrc
    obtain ⟨r0, As, rfl, hr0, hcell⟩ := hrecv
    have hpre : PreV s H (sm_y (Nat.mod v 1024)).cls (ρ r0) (sm_Pc D tc adV Z B ρ (.ref r0 :: As) n R G L) (As.map (sm_cv ρ)) := ⟨sm_blind, hcell, fun U hU hW => by
      have := sm_pre_of (as := .ref r0 :: As) hSt hV hU hW
      rw [sm_addr (t := 0) ρ hr0] at this
      exact this⟩
    refine ⟨((Value.ref r0 :: As).map (sm_cv ρ)).toArray, ?_⟩
    rw [hmap, sm_addr (t := 0) ρ hr0, List.reverse_cons, List.append_assoc]
    exact vx_runV (nL := nL) (n := sm_np (Nat.mod v 1024)) (C := (sm_y (Nat.mod v 1024)).cls) ⟨hx, hb, hml, hown, hts⟩ (hmet (by omega) (by omega) (by omega) ρ) ⟨sm_cb hts hdp hmck hem hlk, hts _ g2, hts _ (g4 (by omega) hnm)⟩ hpre rfl (by rw [List.length_map]; simp at hna; omega) hsz rfl (lv_room hw8) hd0 hroom
  · obtain ⟨hd0, -⟩ := sm_chk_of hchk hT (by intro z; cases z)
    rw [hT] at hck
    unfold sm_cck at hck
    dsimp only at hck
    rw [sm_beqF hne] at hck
    simp only [Bool.false_or, Bool.and_eq_true, decide_eq_true_eq] at hck
    obtain ⟨⟨⟨⟨⟨⟨hlk, hsta⟩, hki⟩, hem⟩, hkn⟩, hnp⟩, hrt⟩ := hck
    have hmck := hmks _ hkn
    have hkn := sm_kn_of hkn
    have hki := Nat.eq_of_beq_eq_true hki
    have hsta := Nat.eq_of_beq_eq_true hsta
    have hnp := Nat.eq_of_beq_eq_true hnp
    obtain ⟨g1, g2, g3, g4, g5, g6, g7, g8, g9, g10, g11⟩ := sm_mck_of hmck
    rw [if_neg (by omega)] at g2
    have hnm := g11 hki
    have q3 : ¬ Nat.mod v 1024 ≤ 5 := by
      intro z
      have z2 : Nat.mod v 1024 = 1 ∨ Nat.mod v 1024 = 2 := by omega
      rcases z2 with z2 | z2 <;> rw [z2] at hki <;> exact absurd hki (by decide)
    unfold sm_rcv at hrc
    rw [hsta, sm_ble_f q3] at hrc
    rw [show Nat.beq 0 1 = false from rfl] at hrc
    simp only [cond_false] at hrc
    split at hrc
    · next r0 As =>
      have hr0 : r0 ≠ 0 := by
        rintro rfl
        unfold sm_is at hrc
        rw [sm_K0, Bool.and_eq_true] at hrc
        have z := Nat.eq_of_beq_eq_true hrc.1
        omega
      have hpre : PreS s H (sm_Pc D tc adV Z B ρ (.ref r0 :: As) n R G L) (.ref (ρ r0) :: As.map (sm_cv ρ)) := ⟨sm_blind, fun U hU hW => by
        have := sm_pre_of (as := .ref r0 :: As) hSt hV hU hW
        rw [sm_addr (t := 0) ρ hr0] at this
        exact this⟩
      have hn2 : (As.map (sm_cv ρ)).length = sm_np (Nat.mod v 1024) := by rw [List.length_map]; simp at hna; omega
      refine ⟨((Value.ref r0 :: As).map (sm_cv ρ)).toArray, ?_⟩
      rw [hmap, sm_addr (t := 0) ρ hr0, List.reverse_cons, List.append_assoc]
      unfold sm_lk at hlk
      cases hnest : Nat.beq (Nat.div v 281474976710656) 1 with
      | false =>
        rw [hnest] at hlk
        have hlk := hts _ (sm_tb_m (sm_tc_of hlk) rfl)
        have hcb := sm_cb (mc := sm_mc n x n' x') (ms := sm_ms n x n' x') hts hdp hmck hem hlk
        rw [hrt] at hcb
        exact vx_runI (nL := nL) (n := sm_np (Nat.mod v 1024)) ⟨hx, hb, hml, hown, hts⟩ (hmet (by omega) (by omega) (by omega) ρ) ⟨hcb, hnm, hts _ g2⟩ hpre rfl hn2 hsz rfl (lv_room hw8) hd0 hroom
      | true =>
        rw [hnest] at hlk
        have hlk := va_Nw.use (A := args) rfl (hSt.2.1 _ (sm_tc_of hlk) rfl)
        have hcb := sm_cbN (mc := sm_mc n x n' x') (ms := sm_ms n x n' x') hts hdp hmck hem hlk
        rw [hrt] at hcb
        exact vx_runIN (nL := nL) (n := sm_np (Nat.mod v 1024)) ⟨hx, hb, hml, hown, hts⟩ (hmet (by omega) (by omega) (by omega) ρ) ⟨hcb, hnm, hts _ g2⟩ hpre rfl hn2 hsz rfl (lv_room hw8) hd0 hroom
    · cases hrc
  · obtain ⟨hd0, -⟩ := sm_chk_of hchk hT (by intro z; cases z)
    rw [hT] at hck
    unfold sm_cck at hck
    dsimp only at hck
    have hne2 : (Nat.ble 3 (Nat.mod v 1024) && Nat.ble (Nat.mod v 1024) 5) = false := by
      by_cases z1 : 3 ≤ Nat.mod v 1024
      · rw [sm_ble_f (show ¬ Nat.mod v 1024 ≤ 5 from fun z => hne ⟨z1, z⟩), Bool.and_false]
      · rw [sm_ble_f z1]; rfl
    rw [hne2] at hck
    simp only [cond_false, Bool.and_eq_true] at hck
    obtain ⟨⟨⟨⟨hlk, hnest⟩, hsta⟩, hkn⟩, hnp⟩ := hck
    have hmck := hmks _ hkn
    have hkn := sm_kn_of hkn
    have hsta := Nat.eq_of_beq_eq_true hsta
    have hnest := Nat.eq_of_beq_eq_true hnest
    have hnp := Nat.eq_of_beq_eq_true hnp
    unfold sm_lk at hlk
    rw [hnest] at hlk
    have hlk := hts _ (sm_tb_m (sm_tc_of hlk) rfl)
    obtain ⟨g1, g2, g3, g4, g5, g6, g7, g8, g9, g10, g11⟩ := sm_mck_of hmck
    rw [if_pos hsta] at g2
    have hpre : PreS s H (sm_Pc D tc adV Z B ρ as n R G L) (as.map (sm_cv ρ)) := ⟨sm_blind, fun U hU hW => sm_pre_of hSt hV hU hW⟩
    refine ⟨(as.map (sm_cv ρ)).toArray, ?_⟩
    rw [hmap]
    cases hem : (sm_hh (Nat.mod v 1024)).isEmpty with
    | true => exact vx_runS (nL := nL) (n := sm_np (Nat.mod v 1024)) ⟨hx, hb, hml, hown, hts⟩ (hmet (by omega) (by omega) (by omega) ρ) ⟨sm_cb hts hdp hmck hem hlk, hts _ g2⟩ hpre rfl (by rw [List.length_map, hna, hnp]) hsz rfl (lv_room hw8) hd0 hroom
    | false => exact vx_runSX (nL := nL) (n := sm_np (Nat.mod v 1024)) ⟨hx, hb, hml, hown, hts⟩ (hmet (by omega) (by omega) (by omega) ρ) (sm_cbW hts hdp hmck hem hsta hlk) hpre rfl (by rw [List.length_map, hna, hnp]) hsz rfl (lv_room hw8) hd0 hroom
end SMO
