/-! a row of rows of ints made -/
section SMO
variable {p : Program} {l : Launch} {e : Env} {Rm : Room} {s : State} {m : MethodId} {args : Array Value} {below : List Frame} {meth : Method} {c : Code} {Q : State → Prop}
variable {D : va_G} {tc : Nat → ClassId} {B : Nat} {ρ0 adV : Nat → Nat} {Z : sm_G} {nL n0 x0 nf xf o : Nat} {cc : ByteArray} {ini : Bool} {T : Nat → Instr}
variable {pc : Nat} {ls st : List Value} {n : Nat} {R : sm_R} {x : Nat} {G : sm_G} {L : sm_L}
variable {hd : Nat → Nat → Nat} {cn : sm_CN} {cx : sm_CX} {k : Nat → List Value → List Value → Nat → sm_R → Nat → sm_G → sm_L → Option sm_O} {w : sm_O}
def sm_rm2 (ρ : Nat → Nat) (n N q : Nat) (r : Nat → Nat) : Nat → Nat := fun a => if a = n + 1 then q else if n + 2 ≤ a ∧ a ≤ n + 1 + N then r (a - (n + 2)) else ρ a
theorem sm_mR_lo {R : sm_R} {n N r : Nat} (h : r ≤ n) : sm_mR R n N r = R r := by
  funext j
  unfold sm_mR
  rw [sm_beqF (show r ≠ Nat.add n 1 from by show r ≠ n + 1; omega)]
  have : Nat.blt n r = false := by
    cases e : Nat.blt n r with
    | false => rfl
    | true => have := sm_blt e; omega
  rw [this]
  rfl
theorem sm_mG_lo {α : Type} [OfNat α 0] {G : Nat → Nat → α} {n N r : Nat} (h : r ≤ n) : sm_mG G n N r = G r := by
  funext j
  unfold sm_mG
  have : Nat.blt n r = false := by
    cases e : Nat.blt n r with
    | false => rfl
    | true => have := sm_blt e; omega
  rw [this]
  rfl
theorem sm_blt_t {a b : Nat} (h : a < b) : Nat.blt a b = true := by unfold Nat.blt; exact Nat.ble_eq_true_of_le h
theorem sm_blt_f {a b : Nat} (h : ¬ a < b) : Nat.blt a b = false := by
  cases e : Nat.blt a b with
  | false => rfl
  | true => exact absurd (sm_blt e) h
theorem sm_mG_hi {α : Type} [OfNat α 0] {G : Nat → Nat → α} {n N r : Nat} (h1 : n < r) (h2 : r ≤ n + 1 + N) : sm_mG G n N r = fun _ => 0 := by
  funext j
  unfold sm_mG
  rw [sm_blt_t h1, Nat.ble_eq_true_of_le (show r ≤ Nat.add n (Nat.add 1 N) from by show r ≤ n + (1 + N); omega)]
  rfl
theorem sm_mG_up {α : Type} [OfNat α 0] {G : Nat → Nat → α} {n N r : Nat} (h2 : n + 1 + N < r) : sm_mG G n N r = G r := by
  funext j
  unfold sm_mG
  rw [sm_ble_f (show ¬ r ≤ Nat.add n (Nat.add 1 N) from by show ¬ r ≤ n + (1 + N); omega), Bool.and_false]
  rfl
theorem sm_mR_hd {R : sm_R} {n N : Nat} (j : Nat) : sm_mR R n N (n + 1) j = if j < N then n + 2 + j else 0 := by
  unfold sm_mR
  rw [show Nat.beq (n + 1) (Nat.add n 1) = true from Nat.beq_refl _]
  by_cases h : j < N
  · rw [sm_blt_t h, if_pos h]
    show n + (2 + j) = _
    omega
  · rw [sm_blt_f h, if_neg h]
    rfl
theorem sm_mR_hi {R : sm_R} {n N r : Nat} (h1 : n + 1 < r) (h2 : r ≤ n + 1 + N) : sm_mR R n N r = fun _ => 0 := by
  funext j
  unfold sm_mR
  rw [sm_beqF (show r ≠ Nat.add n 1 from by show r ≠ n + 1; omega), sm_blt_t (show n < r by omega), Nat.ble_eq_true_of_le (show r ≤ Nat.add n (Nat.add 1 N) from by show r ≤ n + (1 + N); omega)]
  rfl
theorem sm_mR_up {R : sm_R} {n N r : Nat} (h2 : n + 1 + N < r) : sm_mR R n N r = R r := by
  funext j
  unfold sm_mR
  rw [sm_beqF (show r ≠ Nat.add n 1 from by show r ≠ n + 1; omega), sm_ble_f (show ¬ r ≤ Nat.add n (Nat.add 1 N) from by show ¬ r ≤ n + (1 + N); omega), Bool.and_false]
  rfl
theorem sm_aoi : Cond.arrayClass (.array .int) = Cond.arrayClass (.array .int) := rfl
theorem sm_ok_multi (C : sm_Cx p s m args meth c D tc B ρ0 adV Z nL o cc ini T) (hrm : sm_rm Rm n0 x0 nf xf) {v : Nat} {d : Nat} (hT : T pc = .multianewarray v d)
    (hk : ∀ pc ls st n R x G L, k pc ls st n R x G L = some w → sm_Cl p l e Rm s m args below meth c Q D tc B ρ0 Z nL n0 x0 nf xf pc ls st n R x G L)
    (h : sm_step sm_rO T hd cn cx pc ls st n R x G L k = some w) : sm_Cl p l e Rm s m args below meth c Q D tc B ρ0 Z nL n0 x0 nf xf pc ls st n R x G L := by
  obtain ⟨hx, hb, hml, hts, hSt, hown, hchk, hini⟩ := C
  obtain ⟨hK, hnz, ⟨ha1, ha2, ha3, ha4⟩, hstr, hvs, hU, hN, ⟨hX, hX1, hX2, hX3⟩, hB⟩ := hSt
  obtain ⟨hr1, hr2, hr3, hr4, hr5⟩ := hrm
  unfold sm_step at h
  rw [hT] at h
  obtain ⟨hd0, hci⟩ := sm_chk_of hchk hT (by intro z; cases z)
  have hci2 : (sm_tc (Nat.div v 65536) (5, o, Nat.mod v 65536, 13, 0) && Nat.beq d 2) = true := hci
  rw [Bool.and_eq_true] at hci2
  have hd2 := Nat.eq_of_beq_eq_true hci2.2
  subst hd2
  obtain ⟨a, b, rest, rfl, h2⟩ := sm_i2_spec h
  obtain ⟨h3, h4⟩ := sm_bif h2
  rw [Bool.and_eq_true, Bool.and_eq_true] at h3
  obtain ⟨h3, h5, h6⟩ := h3
  simp only [sm_mok, Bool.and_eq_true, decide_eq_true_eq, List.all_eq_true, List.mem_range] at h3
  obtain ⟨⟨⟨⟨hK1, hNp⟩, hA⟩, hb0⟩, hall⟩ := h3
  have hKn : sm_K (n + 1) = 24 := Nat.eq_of_beq_eq_true hK1
  have hN2 := sm_Nlt (n + 1)
  obtain ⟨N, hNe⟩ : ∃ N, N = sm_N (n + 1) := ⟨_, rfl⟩
  have hA : a = Int32.ofNat (sm_N (n + 1)) := hA
  rw [← hNe] at hA hN2
  have hneg : ¬ a < 0 := by rw [hA]; exact sm_ofNat_nn hN2
  have hcl : a.toNatClampNeg = N := by rw [hA]; exact sm_ofNat_cl hN2
  have hrow : ∀ i, i < N → sm_K (n + 2 + i) = 20 ∧ sm_N (n + 2 + i) = b.toNatClampNeg := fun i hi => by
    have h8 := hall i (by show i < sm_N (n + 1); omega)
    have e1 : Nat.add n (Nat.add 2 i) = n + 2 + i := by show n + (2 + i) = _; omega
    rw [e1] at h8
    refine ⟨Nat.eq_of_beq_eq_true h8.1, ?_⟩
    rw [h8.2, sm_ofNat_cl (sm_Nlt _)]
  rw [hcl] at h4
  have hk1 := hk _ _ _ _ _ _ _ _ h4
  have e0 : Nat.add n (Nat.add 1 N) = n + 1 + N := by show n + (1 + N) = _; omega
  rw [e0] at hk1
  refine ⟨⟨by have := hk1.1.1; omega, hk1.1.2⟩, fun h0 h1 ρ H locs rls hV hl => ?_⟩
  have hn1 : n + 1 + N ≤ nf := hk1.1.1
  have hxf : x ≤ xf := hk1.1.2
  obtain ⟨K', hK'⟩ : ∃ K', K' = b.toNatClampNeg := ⟨_, rfl⟩
  rw [← hK'] at hrow
  have hNp : 1 ≤ N := by rw [hNe]; exact sm_ale hNp
  have hKlt : K' < 2048 := by
    rw [← (hrow 0 (by omega)).2]
    exact sm_Nlt _
  have hpre : ∀ i, i ≤ N → sm_pre (n + 1 + i) = sm_pre n + N + i * K' := by
    intro i
    induction i with
    | zero => intro _; show sm_pre n + sm_N (n + 1) = _; omega
    | succ i ih =>
      intro hi
      have := ih (by omega)
      have e1 : n + 1 + i + 1 = n + 2 + i := by omega
      show sm_pre (n + 1 + i) + sm_N (n + 1 + i + 1) = _
      rw [this, e1, (hrow i (by omega)).2, Nat.succ_mul]
      omega
  have hp1 := sm_pre_mono hn1
  have hp0 := sm_pre_mono h0
  have hpN := hpre N (Nat.le_refl N)
  have hbn : ¬ b < 0 := sm_nle.mpr hb0
  have hslots : sm_pre n - sm_pre n0 + 6 * (x - x0) + (N + N * K') ≤ Rm.slots := by
    have q1 : sm_pre n + N + N * K' ≤ sm_pre nf := by rw [← hpN]; exact hp1
    omega
  have e24 : (sm_tys tc)[4]? = some (tc 24, .array .int) := rfl
  have e20 : (sm_tys tc)[0]? = some (tc 20, .int) := rfl
  refine va_mna (D := D) (cl := vwCl) (tys := sm_tys tc) (A := fun q => B ≤ q) (H0 := s.heap) (X := sm_ws tc ρ n R G L) (L := []) (f := fun _ => .inl (tc 20, (0, .inl (fun _ => 0)))) (z := (K', .inl (fun _ => 0))) (ty := .int) (cy := tc 20) (n := a) (k := b) (N' := N) (K' := K') hx hb hown (hts _ (sm_tb_m (sm_tc_of hci2.1) rfl)) ha4.1 (hts _ sm_aci) (hK.2 0 _ e20).2 hK
    (by rw [show va_pl [] _ = [] from rfl, List.append_nil]; exact hV.1) (by rw [show va_pl [] _ = [] from rfl, List.append_nil]; exact hV.2.1) hV.2.2.1 (fun q hq => Nat.le_trans hB hq) hneg hbn hcl hK'.symm (by omega) (by show K' * 4 ≤ _; omega) (by omega) rfl rfl (by omega) hslots (fun c => arrV_new c K' (.int 0)) hd0 (fun q r cA H1 hinj _ hK1 a1 a2 a3 => ?_)
  have ec : cA = tc 24 := by
    have h8 : s.vm.findClass ("[" ++ (FieldType.array .int).toString) = some cA := (hK1.2 8 (cA, .array .int) rfl).2
    have h9 : s.vm.findClass ("[" ++ (FieldType.array .int).toString) = some (tc 24) := (hK.2 4 _ e24).2
    exact Option.some.inj (h8.symm.trans h9)
  subst ec
  obtain ⟨ρ', hρ'⟩ : ∃ ρ', ρ' = sm_rm2 ρ n N q r := ⟨_, rfl⟩
  have r1 : ρ' (n + 1) = q := by rw [hρ']; exact if_pos rfl
  have r2 : ∀ i, i < N → ρ' (n + 2 + i) = r i := fun i hi => by
    rw [hρ']
    unfold sm_rm2
    rw [if_neg (by omega), if_pos (by omega)]
    congr 1
    omega
  have r3 : ∀ a, a ≤ n ∨ n + 1 + N < a → ρ' a = ρ a := fun a ha => by
    rw [hρ']
    unfold sm_rm2
    rw [if_neg (by omega), if_neg (by omega)]
  have hws : sm_ws tc ρ' (n + 1 + N) (sm_mR R n N) (sm_mG G n N) (sm_mG L n N) = (sm_ws tc ρ n R G L ++ [(q, (.inl (tc 24, N, .inr (.inr (.inr (.inr (fun i => if i < N then some (r i) else none))))) : va_E))]) ++ va_pl ([] ++ (List.range N).map r) (vr_up (fun _ => .inl (tc 20, (0, .inl (fun _ => 0)))) ((List.range N).map r) (.inl (tc 20, (K', .inl (fun _ => 0))))) := by
    have h1 : sm_ws tc ρ' (n + 1 + N) (sm_mR R n N) (sm_mG G n N) (sm_mG L n N) = sm_ws tc ρ' (n + 1) (sm_mR R n N) (sm_mG G n N) (sm_mG L n N) ++ (List.range N).map (fun i => (ρ' (n + 2 + i), sm_el tc ρ' (sm_mR R n N) (sm_mG G n N) (sm_mG L n N) (n + 2 + i))) := by
      unfold sm_ws
      rw [List.range_add, List.map_append, List.map_map]
      congr 1
      apply List.map_congr_left
      intro i _
      show (ρ' (n + 1 + i + 1), _) = _
      rw [show n + 1 + i + 1 = n + 2 + i by omega]
    rw [h1, sm_ws_snoc, r1, sm_ws_old (fun r h => sm_mR_lo h) (fun r h => sm_mG_lo h) (fun r h => sm_mG_lo h) (fun r h => r3 r (Or.inl h)) hV.2.2.2.2.1]
    congr 1
    · congr 3
      rw [sm_el_r (by rw [hKn]; decide), hKn, ← hNe]
      congr 7
      funext j
      rw [sm_mR_hd]
      by_cases hj : j < N
      · rw [if_pos hj, if_pos hj]
        unfold sm_ov
        rw [sm_beqF (show n + 2 + j ≠ 0 by omega), r2 j hj]
        rfl
      · rw [if_neg hj, if_neg hj]
        rfl
    · rw [List.nil_append]
      unfold va_pl
      rw [List.map_map]
      apply List.map_congr_left
      intro i hi
      have hi := List.mem_range.mp hi
      show (_, _) = (r i, vr_up _ _ _ (r i))
      rw [r2 i hi, vr_up_in (List.mem_map.mpr ⟨i, List.mem_range.mpr hi, rfl⟩)]
      congr 1
      rw [sm_el_i (by rw [(hrow i hi).1]; decide) (by rw [(hrow i hi).1]; decide), (hrow i hi).1, (hrow i hi).2, sm_mG_hi (by omega) (by omega)]
  rw [← hws] at a1 a2
  have hsame : ∀ r, r ≤ n ∨ 4096 ≤ r → ρ' r = ρ r := fun r hr => r3 r (by omega)
  obtain ⟨-, -, -, hag, hwf, hn3, hz1, hz2⟩ := hV
  have hV1 : sm_V D tc B ρ0 Z n0 s ρ' (n + 1 + N) (sm_mR R n N) (sm_mG G n N) (sm_mG L n N) H1 locs := by
    refine ⟨a1, a2, a3, fun y hy => (r3 y (by omega)).trans (hag y (by omega)), fun y j => ?_, by omega, ?_, ?_⟩
    · by_cases y1 : y ≤ n
      · rw [sm_mR_lo y1]; exact Nat.le_trans (hwf y j) (by omega)
      · by_cases y2 : y = n + 1
        · subst y2
          rw [sm_mR_hd]
          split <;> omega
        · by_cases y3 : y ≤ n + 1 + N
          · rw [sm_mR_hi (by omega) y3]; exact Nat.zero_le _
          · rw [sm_mR_up (by omega)]; exact Nat.le_trans (hwf y j) (by omega)
    · rw [sm_mG_up (by omega)]; exact hz1
    · rw [sm_mG_up (by omega)]; exact hz2
  have kk := hk1.2 (by omega) h1 ρ' H1 locs rls hV1 (by rw [sm_lv_same 0 h6 hsame]; exact hl)
  have e9 : (Value.ref (Nat.add n 1) :: rest).map (sm_cv ρ') = .ref q :: rest.map (sm_cv ρ) := by
    rw [sm_addr (t := 0) _ (Nat.succ_ne_zero n), sm_map_same h5 hsame]
    congr 2
  rw [e9] at kk
  have c1 : n + 1 + N - n0 + (x - x0) = n - n0 + (x - x0) + 1 + N := by omega
  have c2 : sm_pre (n + 1 + N) - sm_pre n0 + 6 * (x - x0) = sm_pre n - sm_pre n0 + 6 * (x - x0) + N + N * K' := by omega
  rw [c1, c2] at kk
  exact kk
end SMO
