/-! instructions on the heap -/
def sm_hp1 (i : Instr) : Bool := match i with
  | .ldc _ => true | .getfield _ => true | .putfield _ => true
  | .iaload => true | .baload => true | .laload => true | .aaload => true | .iastore => true | .bastore => true | .lastore => true | .aastore => true | .arraylength => true
  | .new v => Nat.blt (Nat.mod v 256) 40
  | .newarray _ => true | .anewarray _ => true
  | .invokespecial v => Nat.beq (Nat.mod v 1024) 1023
  | _ => false
theorem sm_Nlt (r : Nat) : sm_N r < 2048 := Nat.mod_lt _ (by decide)
theorem sm_ofNat_nn {a : Nat} (h : a < 2048) : ¬ Int32.ofNat a < 0 := by
  rw [Int32.lt_iff_toInt_lt, Int32.toInt_ofNat_of_lt (by omega)]
  simp
theorem sm_ofNat_cl {a : Nat} (h : a < 2048) : (Int32.ofNat a).toNatClampNeg = a := by
  rw [← Int32.toNat_toInt, Int32.toInt_ofNat_of_lt (by omega)]
  simp
theorem sm_aci : Cond.arrayClass .int ∈ sm_tb := sm_tb_in1 (i := 116) (by decide +kernel) rfl
theorem sm_acb : Cond.arrayClass .byte ∈ sm_tb := sm_tb_in1 (i := 77) (by decide +kernel) rfl
theorem sm_acz : Cond.arrayClass .boolean ∈ sm_tb := sm_tb_in1 (i := 1785) (by decide +kernel) rfl
theorem sm_acl : Cond.arrayClass .long ∈ sm_tb := sm_tb_in1 (i := 2264) (by decide +kernel) rfl
theorem sm_oi1 : Cond.instanceMethod Lib.objectInit ∈ sm_tb := sm_tb_in1 (i := 37) (by decide +kernel) rfl
theorem sm_oi2 : Cond.code Lib.objectInit ⟨#[0xb1]⟩ 1 none ∈ sm_tb := sm_tb_in1 (i := 38) (by decide +kernel) rfl
theorem sm_cat_sum {ρ : Nat → Nat} : ∀ (l : List Value), ((l.map (sm_cv ρ)).map fun v => v.category).sum = (l.map fun v => v.category).sum
  | [] => rfl
  | v :: l => by
    rw [List.map_cons, List.map_cons, List.sum_cons, List.map_cons, List.sum_cons, sm_cat_sum l, sm_cv_cat]
theorem sm_wsum_eq : ∀ (l : List Value), sm_wsum l = (l.map fun v => v.category).sum
  | [] => rfl
  | v :: l => by
    rw [List.map_cons, List.sum_cons, ← sm_wsum_eq l]
    cases v <;> rfl
section SMO
variable {p : Program} {l : Launch} {e : Env} {Rm : Room} {s : State} {m : MethodId} {args : Array Value} {below : List Frame} {meth : Method} {c : Code} {Q : State → Prop}
variable {D : va_G} {tc : Nat → ClassId} {B : Nat} {ρ0 adV : Nat → Nat} {Z : sm_G} {nL n0 x0 nf xf o : Nat} {cc : ByteArray} {ini : Bool} {T : Nat → Instr}
variable {pc : Nat} {ls st : List Value} {n : Nat} {R : sm_R} {x : Nat} {G : sm_G} {L : sm_L}
variable {hd : Nat → Nat → Nat} {cn : sm_CN} {cx : sm_CX} {k : Nat → List Value → List Value → Nat → sm_R → Nat → sm_G → sm_L → Option sm_O} {w : sm_O}
/-- the room that is wanted, and is there -/
def sm_rm (Rm : Room) (n0 x0 nf xf : Nat) : Prop := nf - n0 + (xf - x0) ≤ Rm.cells ∧ sm_pre nf - sm_pre n0 + 6 * (xf - x0) ≤ Rm.slots ∧ nf ≤ 342 ∧ 1 ≤ Rm.frames ∧ 300 ≤ Rm.locals
theorem sm_vlen : vwCl.length = 13 := rfl
theorem sm_pre_sub {a b c : Nat} (h1 : a ≤ b) (h2 : b ≤ c) : sm_pre b - sm_pre a ≤ sm_pre c - sm_pre a := Nat.sub_le_sub_right (sm_pre_mono h2) _
theorem sm_addr {t : Nat} {v : Nat} {rest : List Value} (ρ : Nat → Nat) (h0 : v ≠ 0) : (Value.ref v :: rest).map (sm_cv ρ) = .ref (ρ v) :: rest.map (sm_cv ρ) := by rw [List.map_cons, sm_cv_ne h0]
theorem sm_up_same {α : Type} (G : Nat → Nat → α) (r k : Nat) (v : α) : sm_up G r k v r k = v := by unfold sm_up; simp [Nat.beq_refl]
theorem sm_beqF {a b : Nat} (h : a ≠ b) : Nat.beq a b = false := by cases e : Nat.beq a b with
  | false => rfl
  | true => exact absurd (Nat.eq_of_beq_eq_true e) h
theorem sm_up_col {α : Type} (G : Nat → Nat → α) (r k : Nat) (v : α) (j : Nat) (h : j ≠ k) : sm_up G r k v r j = G r j := by unfold sm_up; simp [sm_beqF h]
theorem sm_fvG {ρ : Nat → Nat} {R : sm_R} {G : sm_G} {L : sm_L} {r t k j : Nat} {a : Int32} (h2 : sm_F t k ≠ 2) (h1 : sm_F t k ≠ 1) : sm_fv ρ R (sm_up G r k a) L r t j = if k = j then .int a else sm_fv ρ R G L r t j := by
  by_cases e : k = j
  · subst e
    rw [if_pos rfl]
    unfold sm_fv
    rw [sm_beqF h2, sm_beqF h1, sm_up_same]
    rfl
  · rw [if_neg e]
    unfold sm_fv
    rw [sm_up_col G r k a j (fun z => e z.symm)]
theorem sm_fvL {ρ : Nat → Nat} {R : sm_R} {G : sm_G} {L : sm_L} {r t k j : Nat} {a : Int64} (h1 : sm_F t k = 1) : sm_fv ρ R G (sm_up L r k a) r t j = if k = j then .long a else sm_fv ρ R G L r t j := by
  by_cases e : k = j
  · subst e
    rw [if_pos rfl]
    unfold sm_fv
    rw [h1, sm_up_same]
    rfl
  · rw [if_neg e]
    unfold sm_fv
    rw [sm_up_col L r k a j (fun z => e z.symm)]
theorem sm_fvR {ρ : Nat → Nat} {R : sm_R} {G : sm_G} {L : sm_L} {r t k j a : Nat} (h1 : sm_F t k = 2) : sm_fv ρ (sm_up R r k a) G L r t j = if k = j then sm_cv ρ (.ref a) else sm_fv ρ R G L r t j := by
  by_cases e : k = j
  · subst e
    rw [if_pos rfl]
    unfold sm_fv
    rw [h1, sm_up_same]
    rfl
  · rw [if_neg e]
    unfold sm_fv
    rw [sm_up_col R r k a j (fun z => e z.symm)]
theorem sm_ok_heap (C : sm_Cx p s m args meth c D tc B ρ0 adV Z nL o cc ini T) (hrm : sm_rm Rm n0 x0 nf xf) (hi : sm_hp1 (T pc) = true)
    (hk : ∀ pc ls st n R x G L, k pc ls st n R x G L = some w → sm_Cl p l e Rm s m args below meth c Q D tc B ρ0 Z nL n0 x0 nf xf pc ls st n R x G L)
    (h : sm_step sm_rO T hd cn cx pc ls st n R x G L k = some w) : sm_Cl p l e Rm s m args below meth c Q D tc B ρ0 Z nL n0 x0 nf xf pc ls st n R x G L := by
  obtain ⟨hx, hb, hml, hts, hSt, hown, hchk, hini⟩ := C
  obtain ⟨hK, hnz, ⟨ha1, ha2, ha3, ha4⟩, hstr, hvs, hU, hN, ⟨hX, hX1, hX2, hX3⟩, hB⟩ := hSt
  obtain ⟨hr1, hr2, hr3, hr4, hr5⟩ := hrm
  obtain ⟨i, hT⟩ : ∃ i, T pc = i := ⟨_, rfl⟩
  rw [hT] at hi
  unfold sm_step at h
  rw [hT] at h
  have hne : i ≠ .nop := by rintro rfl; cases hi
  obtain ⟨hd0, hci⟩ := sm_chk_of hchk hT hne
  cases i <;> first | (exfalso; exact Bool.noConfusion hi) | skip
  case ldc v =>
    dsimp only at h
    unfold sm_ci at hci
    dsimp only at hci
    cases hf : Nat.beq (Nat.mod (Nat.div v 8589934592) 2) 1 with
    | true =>
      rw [hf] at h hci
      simp only [cond_true, Bool.and_eq_true] at h hci
      refine ⟨(hk _ _ _ _ _ _ _ _ h).1, fun h0 h1 ρ H locs rls hV hl => ?_⟩
      have kk := (hk _ _ _ _ _ _ _ _ h).2 h0 h1 ρ H locs rls hV hl
      have hlt := sm_blt hci.2
      have hR := hstr _ _ _ (sm_tc_of hci.1) hlt
      rw [sm_addr (t := 0) ρ (show Nat.add 4096 (Nat.mod v 8589934592) ≠ 0 from Nat.ne_of_gt (Nat.lt_of_lt_of_le (by decide) (Nat.le_add_right 4096 _)))] at kk
      have e9 : ρ (Nat.add 4096 (Nat.mod v 8589934592)) = ρ0 (4096 + Nat.mod v 8589934592) := hV.2.2.2.1 _ (Or.inr (Nat.lt_of_lt_of_le (Nat.lt_of_le_of_lt hV.2.2.2.2.2.1 (by decide)) (Nat.le_add_right 4096 _)))
      rw [e9] at kk
      exact va_ldcS hx hb hown hR hd0 kk
    | false =>
      rw [hf] at h hci
      simp only [cond_false] at h hci
      exact sm_go (hk _ _ _ _ _ _ _ _ h) (fun ρ H locs cells slots rls hl kk => lv_ldc hx hb hown (hts _ (sm_tb_m (sm_tc_of hci) rfl)) hd0 kk)
  case getfield v =>
    obtain ⟨r, rest, rfl, h2⟩ := sm_r1_spec h
    obtain ⟨h3, h4⟩ := sm_bif h2
    obtain ⟨g1, g2, g0⟩ := sm_is_spec h3 (by
      intro z
      unfold sm_ci sm_cf1 at hci
      dsimp only at hci
      rw [z] at hci
      cases hci)
    obtain ⟨hf, hF⟩ := sm_fok_v (o := o) hci
    have key : ∀ u : Value, (∀ ρ, sm_fv ρ R G L r (Nat.mod (Nat.div v 4) 64) (Nat.mod (Nat.div v 256) 256) = sm_cv ρ u) → k (pc + 3) ls (u :: rest) n R x G L = some w → sm_Cl p l e Rm s m args below meth c Q D tc B ρ0 Z nL n0 x0 nf xf pc ls (.ref r :: rest) n R x G L := by
      intro u hu h5
      refine ⟨(hk _ _ _ _ _ _ _ _ h5).1, fun h0 h1 ρ H locs rls hV hl => ?_⟩
      have kk := (hk _ _ _ _ _ _ _ _ h5).2 h0 h1 ρ H locs rls hV hl
      rw [sm_addr (t := 0) ρ g0]
      rw [List.map_cons, ← hu ρ] at kk
      exact sm_get hx hb hts hnz hown hK hf hd0 g0 g2 hV.2.2.2.2.2.1 g1 hV.1 kk
    cases e1 : Nat.beq (Nat.mod v 4) 2 with
    | true =>
      rw [e1] at h4
      exact key (.ref _) (fun ρ => by unfold sm_fv; rw [hF, e1]; rfl) h4
    | false =>
      cases e2 : Nat.beq (Nat.mod v 4) 1 with
      | true =>
        rw [e1, e2] at h4
        exact key (.long _) (fun ρ => by unfold sm_fv; rw [hF, e1, e2]; rfl) h4
      | false =>
        rw [e1, e2] at h4
        exact key (.int _) (fun ρ => by unfold sm_fv; rw [hF, e1, e2]; rfl) h4
  case iaload =>
    obtain ⟨r, i, rest, rfl, h2⟩ := sm_ri_spec h
    cases hr : sm_is r n 20 with
    | true =>
      rw [hr] at h2
      obtain ⟨h3, h4⟩ := sm_bif h2
      refine ⟨(hk _ _ _ _ _ _ _ _ h4).1, fun h0 h1 ρ H locs rls hV hl => ?_⟩
      exact sm_iald hx hb hK hr h3 hd0 hV.1 ((hk _ _ _ _ _ _ _ _ h4).2 h0 h1 ρ H locs rls hV hl)
    | false =>
      rw [hr] at h2
      obtain ⟨h3, h4⟩ := sm_bif h2
      rw [Bool.and_eq_true] at h3
      have e1 := Nat.eq_of_beq_eq_true h3.1
      subst e1
      refine ⟨(hk _ _ _ _ _ _ _ _ h4).1, fun h0 h1 ρ H locs rls hV hl => ?_⟩
      have kk := (hk _ _ _ _ _ _ _ _ h4).2 h0 h1 ρ H locs rls hV hl
      obtain ⟨hP, hDD, hS, hag, hwf, hn3, hz1, hz2⟩ := hV
      have e2 : (Value.int i :: Value.ref 8191 :: rest).map (sm_cv ρ) = .int i :: .ref (ρ0 8191) :: rest.map (sm_cv ρ) := by
        rw [List.map_cons, sm_addr (t := 0) ρ (by decide), hag 8191 (Or.inr (by omega))]; rfl
      rw [e2]
      rw [List.map_cons, hz1] at kk
      have h5 := h3.2
      rw [hz2] at h5
      exact va_sld (A := fun q => B ≤ q) (H0 := s.heap) hx hb hX hX1 (Nat.not_le.mpr hX2) hS (sm_in_vp h5) hd0 kk
  case baload =>
    obtain ⟨r, i, rest, rfl, h2⟩ := sm_ri_spec h
    obtain ⟨hr, h2⟩ := sm_bif h2
    obtain ⟨h3, h4⟩ := sm_bif h2
    exact ⟨(hk _ _ _ _ _ _ _ _ h4).1, fun h0 h1 ρ H locs rls hV hl => sm_bald hx hb hK hr h3 hd0 hV.1 ((hk _ _ _ _ _ _ _ _ h4).2 h0 h1 ρ H locs rls hV hl)⟩
  case laload =>
    obtain ⟨r, i, rest, rfl, h2⟩ := sm_ri_spec h
    obtain ⟨hr, h2⟩ := sm_bif h2
    obtain ⟨h3, h4⟩ := sm_bif h2
    exact ⟨(hk _ _ _ _ _ _ _ _ h4).1, fun h0 h1 ρ H locs rls hV hl => sm_lald hx hb hK hr h3 hd0 hV.1 ((hk _ _ _ _ _ _ _ _ h4).2 h0 h1 ρ H locs rls hV hl)⟩
  case aaload =>
    obtain ⟨r, i, rest, rfl, h2⟩ := sm_ri_spec h
    obtain ⟨hr, h2⟩ := sm_bif h2
    obtain ⟨h3, h4⟩ := sm_bif h2
    exact ⟨(hk _ _ _ _ _ _ _ _ h4).1, fun h0 h1 ρ H locs rls hV hl => sm_aald hx hb hK hr h3 hd0 hV.1 ((hk _ _ _ _ _ _ _ _ h4).2 h0 h1 ρ H locs rls hV hl)⟩
  case arraylength =>
    obtain ⟨r, rest, rfl, h2⟩ := sm_r1_spec h
    cases hr : (Nat.ble 20 (sm_K r) && Nat.ble (sm_K r) 27 && Nat.ble r n) with
    | true =>
      rw [hr] at h2
      exact ⟨(hk _ _ _ _ _ _ _ _ h2).1, fun h0 h1 ρ H locs rls hV hl => sm_alen hx hb hK hr hd0 hV.1 ((hk _ _ _ _ _ _ _ _ h2).2 h0 h1 ρ H locs rls hV hl)⟩
    | false =>
      rw [hr] at h2
      obtain ⟨h3, h4⟩ := sm_bif h2
      have e1 := Nat.eq_of_beq_eq_true h3
      subst e1
      refine ⟨(hk _ _ _ _ _ _ _ _ h4).1, fun h0 h1 ρ H locs rls hV hl => ?_⟩
      have kk := (hk _ _ _ _ _ _ _ _ h4).2 h0 h1 ρ H locs rls hV hl
      obtain ⟨hP, hDD, hS, hag, hwf, hn3, hz1, hz2⟩ := hV
      rw [sm_addr (t := 0) ρ (by decide), hag 8191 (Or.inr (by omega))]
      rw [List.map_cons, hz2, ← hX3] at kk
      exact va_slen (A := fun q => B ≤ q) (H0 := s.heap) hx hb hX hX1 (Nat.not_le.mpr hX2) hS hd0 kk
  case iastore =>
    obtain ⟨r, i, u, rest, rfl, h2⟩ := sm_rii_spec h
    obtain ⟨hr, h2⟩ := sm_bif h2
    obtain ⟨h3, h4⟩ := sm_bif h2
    exact ⟨(hk _ _ _ _ _ _ _ _ h4).1, fun h0 h1 ρ H locs rls hV hl => sm_iast hx hb hK hr h3 hd0 hV (fun H1 locs1 hV1 => (hk _ _ _ _ _ _ _ _ h4).2 h0 h1 ρ H1 locs1 rls hV1 hl)⟩
  case bastore =>
    obtain ⟨r, i, u, rest, rfl, h2⟩ := sm_rii_spec h
    cases hr : sm_is r n 21 with
    | true =>
      rw [hr] at h2
      obtain ⟨h3, h4⟩ := sm_bif h2
      exact ⟨(hk _ _ _ _ _ _ _ _ h4).1, fun h0 h1 ρ H locs rls hV hl => sm_bast hx hb hK hr h3 hd0 hV (fun H1 locs1 hV1 => (hk _ _ _ _ _ _ _ _ h4).2 h0 h1 ρ H1 locs1 rls hV1 hl)⟩
    | false =>
      rw [hr] at h2
      obtain ⟨hr2, h2⟩ := sm_bif h2
      obtain ⟨h3, h4⟩ := sm_bif h2
      by_cases hu : u &&& 1 = u
      · rw [if_pos hu] at h4
        exact ⟨(hk _ _ _ _ _ _ _ _ h4).1, fun h0 h1 ρ H locs rls hV hl => sm_zast hx hb hK hr2 h3 hu hd0 hV (fun H1 locs1 hV1 => (hk _ _ _ _ _ _ _ _ h4).2 h0 h1 ρ H1 locs1 rls hV1 hl)⟩
      · rw [if_neg hu] at h4
        cases h4
  case lastore =>
    obtain ⟨r, i, u, rest, rfl, h2⟩ := sm_ril_spec h
    obtain ⟨hr, h2⟩ := sm_bif h2
    obtain ⟨h3, h4⟩ := sm_bif h2
    exact ⟨(hk _ _ _ _ _ _ _ _ h4).1, fun h0 h1 ρ H locs rls hV hl => sm_last hx hb hK hr h3 hd0 hV (fun H1 locs1 hV1 => (hk _ _ _ _ _ _ _ _ h4).2 h0 h1 ρ H1 locs1 rls hV1 hl)⟩
  case aastore =>
    obtain ⟨r, i, u, rest, rfl, h2⟩ := sm_rir_spec h
    obtain ⟨hr, h2⟩ := sm_bif h2
    obtain ⟨h3, h4⟩ := sm_bif h2
    exact ⟨(hk _ _ _ _ _ _ _ _ h4).1, fun h0 h1 ρ H locs rls hV hl => sm_aast hx hb hK hr h3 hd0 hV (fun H1 locs1 hV1 => (hk _ _ _ _ _ _ _ _ h4).2 h0 h1 ρ H1 locs1 rls hV1 hl)⟩
  case putfield v =>
    unfold sm_ci at hci
    dsimp only at hci h
    rw [Bool.and_eq_true] at hci
    obtain ⟨hf, hF⟩ := sm_fok_v (o := o) hci.1
    have hfin := sm_ffin (meth := meth) hci.1 hci.2 hini
    have h63 : Nat.mod (Nat.div v 4) 64 ≠ 63 := by
      intro z
      have hz := hci.1
      unfold sm_cf1 at hz
      rw [z] at hz
      cases hz
    split at h
    · next a r rest =>
      obtain ⟨h3, h4⟩ := sm_bif h
      obtain ⟨g1, g2, g0⟩ := sm_is_spec h3 h63
      have key : (Nat.mod v 4 = 0 ∨ (Nat.mod v 4 = 3 ∧ a &&& 1 = a)) → k (pc + 3) ls rest n R x (sm_up G r (Nat.mod (Nat.div v 256) 256) a) L = some w → sm_Cl p l e Rm s m args below meth c Q D tc B ρ0 Z nL n0 x0 nf xf pc ls (.int a :: .ref r :: rest) n R x G L := by
        intro hs h5
        refine ⟨(hk _ _ _ _ _ _ _ _ h5).1, fun h0 h1 ρ H locs rls hV hl => ?_⟩
        rw [List.map_cons, sm_addr (t := 0) ρ g0]
        refine sm_put (v := .int a) hx hb hts hnz hown hK hf hfin hd0 g0 g2 hV.2.2.2.2.2.1 g1 ?_ (fun _ _ => rfl) (fun q hq => sm_up_row G r _ a q hq) (fun _ _ => rfl) (fun j hj => ?_) hV.2.2.2.2.1 hV (fun H1 locs1 hV1 => (hk _ _ _ _ _ _ _ _ h5).2 h0 h1 ρ H1 locs1 rls hV1 hl)
        · unfold sm_fit
          rw [hF]
          rcases hs with hs | ⟨hs, ha⟩
          · rw [hs]; exact ⟨a, rfl⟩
          · rw [hs]; exact ⟨a, rfl, ha⟩
        · rw [g1]
          exact sm_fvG (by omega) (by omega)
      cases e1 : Nat.beq (Nat.mod v 4) 0 with
      | true =>
        rw [e1] at h4
        exact key (Or.inl (Nat.eq_of_beq_eq_true e1)) h4
      | false =>
        cases e2 : Nat.beq (Nat.mod v 4) 3 with
        | true =>
          rw [e1, e2] at h4
          simp only [cond_false, cond_true] at h4
          by_cases ha : a &&& 1 = a
          · rw [if_pos ha] at h4
            exact key (Or.inr ⟨Nat.eq_of_beq_eq_true e2, ha⟩) h4
          · rw [if_neg ha] at h4
            cases h4
        | false => rw [e1, e2] at h4; cases h4
    · next a r rest =>
      obtain ⟨h3, h4⟩ := sm_bif h
      rw [Bool.and_eq_true] at h3
      obtain ⟨g1, g2, g0⟩ := sm_is_spec h3.1 h63
      have hs := Nat.eq_of_beq_eq_true h3.2
      refine ⟨(hk _ _ _ _ _ _ _ _ h4).1, fun h0 h1 ρ H locs rls hV hl => ?_⟩
      rw [List.map_cons, sm_addr (t := 0) ρ g0]
      refine sm_put (v := .long a) hx hb hts hnz hown hK hf hfin hd0 g0 g2 hV.2.2.2.2.2.1 g1 ?_ (fun _ _ => rfl) (fun _ _ => rfl) (fun q hq => sm_up_row L r _ a q hq) (fun j hj => ?_) hV.2.2.2.2.1 hV (fun H1 locs1 hV1 => (hk _ _ _ _ _ _ _ _ h4).2 h0 h1 ρ H1 locs1 rls hV1 hl)
      · unfold sm_fit
        rw [hF, hs]
        exact ⟨a, rfl⟩
      · rw [g1]
        exact sm_fvL (hF.trans hs)
    · next a r rest =>
      obtain ⟨h3, h4⟩ := sm_bif h
      rw [Bool.and_eq_true, Bool.and_eq_true] at h3
      obtain ⟨g1, g2, g0⟩ := sm_is_spec h3.1.1 h63
      have hs := Nat.eq_of_beq_eq_true h3.1.2
      refine ⟨(hk _ _ _ _ _ _ _ _ h4).1, fun h0 h1 ρ H locs rls hV hl => ?_⟩
      rw [List.map_cons, sm_addr (t := 0) ρ g0]
      refine sm_put (v := sm_cv ρ (.ref a)) hx hb hts hnz hown hK hf hfin hd0 g0 g2 hV.2.2.2.2.2.1 g1 ?_ (fun q hq => sm_up_row R r _ a q hq) (fun _ _ => rfl) (fun _ _ => rfl) (fun j hj => ?_) (fun q j => ?_) hV (fun H1 locs1 hV1 => (hk _ _ _ _ _ _ _ _ h4).2 h0 h1 ρ H1 locs1 rls hV1 hl)
      · unfold sm_fit
        rw [hF, hs]
        exact ⟨a, rfl⟩
      · rw [g1]
        exact sm_fvR (hF.trans hs)
      · unfold sm_up
        cases (Nat.beq q r && Nat.beq j (Nat.mod (Nat.div v 256) 256))
        · exact hV.2.2.2.2.1 q j
        · exact sm_ale h3.2
    · cases h
  case new v =>
    have hlt : Nat.mod v 256 < 40 := sm_blt hi
    have hb40 : Nat.ble 40 (Nat.mod v 256) = false := by
      cases e1 : Nat.ble 40 (Nat.mod v 256) with
      | false => rfl
      | true => exact absurd (sm_ale e1) (by omega)
    dsimp only at h
    unfold sm_ci at hci
    dsimp only at hci
    rw [hb40] at h hci
    simp only [cond_false] at h hci
    obtain ⟨h3, h4⟩ := sm_bif h
    simp only [Bool.and_eq_true] at h3
    obtain ⟨h3, h5, h6⟩ := h3
    have hKn : sm_K (n + 1) = Nat.mod v 256 := Nat.eq_of_beq_eq_true h3
    have hk1 := hk _ _ _ _ _ _ _ _ h4
    refine ⟨⟨Nat.le_trans (Nat.le_succ n) hk1.1.1, hk1.1.2⟩, fun h0 h1 ρ H locs rls hV hl => ?_⟩
    have hn1 : n + 1 ≤ nf := hk1.1.1
    have hxf : x ≤ xf := hk1.1.2
    rw [Bool.and_eq_true] at hci
    have h13 : Nat.mod v 256 < 13 := sm_blt hci.2
    have hqx : ∃ q, vwCl[Nat.mod v 256]? = some q := ⟨_, List.getElem?_eq_getElem (by rw [sm_vlen]; exact h13)⟩
    obtain ⟨⟨C, Tc, N⟩, hq⟩ := hqx
    have hcl5 : Cond.classLink (sm_cls o) (Nat.mod (Nat.div v 256) 65536) (sm_cln.getD (Nat.mod v 256) "") ∈ lw_tbl := sm_tc_of hci.1
    have hnm5 : sm_cln.getD (Nat.mod v 256) "" = C := (sm_vnm _ _ hq).1
    rw [hnm5] at hcl5
    · 
      obtain ⟨q0, e1, e2, e3⟩ := sm_inst _ h13
      rw [hq] at e1
      cases e1
      obtain ⟨ty, t1, t2, t3, t4⟩ := sm_kfs _ _ hq
      have hN : sm_N (n + 1) = N := sm_N_of (by omega) (by omega) (by rw [hKn]; exact hq)
      have hpre : sm_pre (n + 1) = sm_pre n + N := by show sm_pre n + sm_N (n + 1) = _; rw [hN]
      have hp1 := sm_pre_mono hn1
      have hp0 := sm_pre_mono h0
      have hs9 : sm_pre n - sm_pre n0 + 6 * (x - x0) + N ≤ Rm.slots := by
        have hp2 := sm_pre_mono (Nat.le_succ n)
        have hp3 : sm_pre n0 ≤ sm_pre n := sm_pre_mono h0
        have hp4 : sm_pre n + N ≤ sm_pre nf := by rw [← hpre]; exact hp1
        omega
      have hel : ∀ ρ', sm_el tc ρ' (sm_cl R (n + 1) 0) (sm_cl G (n + 1) 0) (sm_cl L (n + 1) 0) (n + 1) = .inr (Nat.mod v 256, sm_fs ρ' (sm_cl R (n + 1) 0) (sm_cl G (n + 1) 0) (sm_cl L (n + 1) 0) (n + 1)) := fun ρ' => by
        rw [sm_el_o (by omega), hKn]
      refine va_new (D := D) (cl := vwCl) (tys := sm_tys tc) (A := fun q => B ≤ q) (H0 := s.heap) (fs := sm_fs ρ (sm_cl R (n + 1) 0) (sm_cl G (n + 1) 0) (sm_cl L (n + 1) 0) (n + 1)) hx hb hts t3 ty t1 hown (hts _ (sm_tb_m hcl5 rfl)) (hts _ e2) (hts _ e3) hK hV.1 hV.2.1 hV.2.2.1 (fun q hq => Nat.le_trans hB hq) hq (fun j hj => ?_) (by omega) hs9 hd0 (fun q H1 a1 a2 a3 => ?_)
      · rw [show vp_V (sm_fs ρ (sm_cl R (n + 1) 0) (sm_cl G (n + 1) 0) (sm_cl L (n + 1) 0) (n + 1)) j = sm_fv ρ (sm_cl R (n + 1) 0) (sm_cl G (n + 1) 0) (sm_cl L (n + 1) 0) (n + 1) (sm_K (n + 1)) j from by
          unfold vp_V
          rw [List.getD_eq_getElem?_getD, sm_fs_get (by rw [hN]; exact hj)]
          rfl]
        have hty := sm_Fty (Nat.mod v 256) h13 j (by rw [hq]; exact hj)
        have hpd := t1 j hj
        unfold sm_fty at hty
        rw [hq] at hty
        simp only at hty hpd
        rw [hpd] at hty
        unfold sm_fv
        rw [hKn, sm_cl_at, sm_cl_at, sm_cl_at]
        split at hty
        · next q1 q2 => rw [q1, Option.some.inj q2]; rfl
        · next q1 q2 => rw [q1, Option.some.inj q2]; rfl
        · next q1 q2 => rw [q1, Option.some.inj q2]; rfl
        · next q1 q2 => rw [q1, Option.some.inj q2]; rfl
        · next q1 q2 => rw [q1, Option.some.inj q2]; rfl
        · cases hty
      · have hfs : ∀ ρ', sm_fs ρ' (sm_cl R (n + 1) 0) (sm_cl G (n + 1) 0) (sm_cl L (n + 1) 0) (n + 1) = sm_fs ρ (sm_cl R (n + 1) 0) (sm_cl G (n + 1) 0) (sm_cl L (n + 1) 0) (n + 1) := fun ρ' => by
          unfold sm_fs
          apply List.map_congr_left
          intro j _
          unfold sm_fv
          rw [sm_cl_at]
          rfl
        have hel2 : (Sum.inr (Nat.mod v 256, sm_fs ρ (sm_cl R (n + 1) 0) (sm_cl G (n + 1) 0) (sm_cl L (n + 1) 0) (n + 1)) : va_E) = sm_el tc (sm_rn ρ n q) (sm_cl R (n + 1) 0) (sm_cl G (n + 1) 0) (sm_cl L (n + 1) 0) (n + 1) := by rw [hel, hfs (sm_rn ρ n q)]
        rw [hel2] at a1 a2
        have hV1 := sm_V_new hV h0 (by omega) a1 a2 a3
        have hsame : ∀ r, r ≤ n ∨ 4096 ≤ r → sm_rn ρ n q r = ρ r := fun r hr => sm_rn_ne (by omega)
        have kk := hk1.2 (Nat.le_trans h0 (Nat.le_succ n)) h1 (sm_rn ρ n q) H1 locs rls hV1 (by rw [sm_lv_same 0 h6 hsame]; exact hl)
        have e9 : (Value.ref (Nat.add n 1) :: st).map (sm_cv (sm_rn ρ n q)) = .ref q :: st.map (sm_cv ρ) := by
          rw [sm_addr (t := 0) _ (Nat.succ_ne_zero n), sm_map_same h5 hsame]
          congr 2
          exact sm_rn_at n q
        rw [e9] at kk
        have c1 : n + 1 - n0 + (x - x0) = n - n0 + (x - x0) + 1 := by omega
        have c2 : sm_pre (n + 1) - sm_pre n0 + 6 * (x - x0) = sm_pre n - sm_pre n0 + 6 * (x - x0) + N := by omega
        rw [show Nat.add n 1 = n + 1 from rfl, c1, c2] at kk
        exact kk
  case newarray t =>
    obtain ⟨a, rest, rfl, h2⟩ := sm_i1_spec h
    obtain ⟨h3, h4⟩ := sm_bif h2
    simp only [Bool.and_eq_true, decide_eq_true_eq] at h3
    obtain ⟨⟨h3, h7⟩, h5, h6⟩ := h3
    have hk1 := hk _ _ _ _ _ _ _ _ h4
    refine ⟨⟨Nat.le_trans (Nat.le_succ n) hk1.1.1, hk1.1.2⟩, fun h0 h1 ρ H locs rls hV hl => ?_⟩
    have hn1 : n + 1 ≤ nf := hk1.1.1
    have hxf : x ≤ xf := hk1.1.2
    have hKn : sm_K (n + 1) = sm_at t := Nat.eq_of_beq_eq_true h3
    have hN2 := sm_Nlt (n + 1)
    have hneg : ¬ a < 0 := by rw [h7]; exact sm_ofNat_nn hN2
    have hcl : a.toNatClampNeg = sm_N (n + 1) := by rw [h7]; exact sm_ofNat_cl hN2
    have hpre : sm_pre (n + 1) = sm_pre n + sm_N (n + 1) := rfl
    have hp1 := sm_pre_mono hn1
    have hp0 := sm_pre_mono h0
    have key : ∀ (ty : FieldType) (t0 : Nat) (a0 : vp_A), newarray.typeOf t = ty → Cond.arrayClass ty ∈ sm_tb → (sm_tys tc)[t0]? = some (tc (sm_at t), ty) → (∀ u cA, va_RA u cA ty → u.vm.findClass ("[" ++ ty.toString) = some cA) → (∀ cA : ClassId, vp_cell cA a0 = arrV cA (sm_N (n + 1)) (fun _ => defaultValue ty)) → componentBytes ty ≤ 8 →
        (∀ ρ', sm_el tc ρ' (sm_cl R (n + 1) 0) (sm_cl G (n + 1) 0) (sm_cl L (n + 1) 0) (n + 1) = .inl (tc (sm_at t), a0)) → W p l e Rm s m args below meth c H locs (n - n0 + (x - x0)) (sm_pre n - sm_pre n0 + 6 * (x - x0)) Q (F0 m pc rls ((Value.int a :: rest).map (sm_cv ρ))) := by
      intro ty t0 a0 hty hac ht0 hra ha0 hcb hel
      refine va_newa (D := D) (cl := vwCl) (tys := sm_tys tc) (A := fun q => B ≤ q) (H0 := s.heap) (a0 := a0) hx hb (by rw [hty]; exact hts _ hac) hty hK hV.1 hV.2.1 hV.2.2.1 (fun q hq => Nat.le_trans hB hq) ha0 hneg hcl (by
        have : sm_N (n + 1) * componentBytes ty ≤ 2048 * 8 := Nat.mul_le_mul (Nat.le_of_lt hN2) hcb
        omega) (by omega) (by omega) hd0 (fun q cA H1 hK1 a1 a2 a3 => ?_)
      have e1 : cA = tc (sm_at t) := by
        have h8 := hra s cA (hK1.2 8 (cA, ty) rfl).2
        have h9 := hra s _ (hK.2 t0 _ ht0).2
        exact Option.some.inj (h8.symm.trans h9)
      subst e1
      rw [← hel (sm_rn ρ n q)] at a1 a2
      have hV1 := sm_V_new hV h0 (by omega) a1 a2 a3
      have hsame : ∀ r, r ≤ n ∨ 4096 ≤ r → sm_rn ρ n q r = ρ r := fun r hr => sm_rn_ne (by omega)
      have kk := hk1.2 (Nat.le_trans h0 (Nat.le_succ n)) h1 (sm_rn ρ n q) H1 locs rls hV1 (by rw [sm_lv_same 0 h6 hsame]; exact hl)
      have e9 : (Value.ref (Nat.add n 1) :: rest).map (sm_cv (sm_rn ρ n q)) = .ref q :: rest.map (sm_cv ρ) := by
        rw [sm_addr (t := 0) _ (Nat.succ_ne_zero n), sm_map_same h5 hsame]
        congr 2
        exact sm_rn_at n q
      rw [e9] at kk
      have c1 : n + 1 - n0 + (x - x0) = n - n0 + (x - x0) + 1 := by omega
      have c2 : sm_pre (n + 1) - sm_pre n0 + 6 * (x - x0) = sm_pre n - sm_pre n0 + 6 * (x - x0) + sm_N (n + 1) := by omega
      rw [show Nat.add n 1 = n + 1 from rfl, c1, c2] at kk
      exact kk
    cases t <;> first | (exfalso; exact Bool.noConfusion hci) | skip
    case boolean => exact key .boolean 2 (sm_N (n + 1), .inl (fun _ => 0)) rfl sm_acz rfl (fun u cA h => h) (fun _ => rfl) (by decide) (fun ρ' => by rw [sm_el_i (by rw [hKn]; decide) (by rw [hKn]; decide), hKn, sm_cl_at])
    case byte => exact key .byte 1 (sm_N (n + 1), .inl (fun _ => 0)) rfl sm_acb rfl (fun u cA h => h) (fun _ => rfl) (by decide) (fun ρ' => by rw [sm_el_i (by rw [hKn]; decide) (by rw [hKn]; decide), hKn, sm_cl_at])
    case int => exact key .int 0 (sm_N (n + 1), .inl (fun _ => 0)) rfl sm_aci rfl (fun u cA h => h) (fun _ => rfl) (by decide) (fun ρ' => by rw [sm_el_i (by rw [hKn]; decide) (by rw [hKn]; decide), hKn, sm_cl_at])
    case long => exact key .long 3 (sm_N (n + 1), .inr (.inl (fun _ => 0))) rfl sm_acl rfl (fun u cA h => h) (fun _ => rfl) (by decide) (fun ρ' => by rw [sm_el_l (by rw [hKn]; rfl), hKn, sm_cl_at])
  case anewarray v =>
    obtain ⟨a, rest, rfl, h2⟩ := sm_i1_spec h
    obtain ⟨h3, h4⟩ := sm_bif h2
    simp only [Bool.and_eq_true, decide_eq_true_eq] at h3
    obtain ⟨⟨h3, h7⟩, h5, h6⟩ := h3
    have hk1 := hk _ _ _ _ _ _ _ _ h4
    refine ⟨⟨Nat.le_trans (Nat.le_succ n) hk1.1.1, hk1.1.2⟩, fun h0 h1 ρ H locs rls hV hl => ?_⟩
    have hn1 : n + 1 ≤ nf := hk1.1.1
    have hxf : x ≤ xf := hk1.1.2
    have hKn : sm_K (n + 1) = Nat.mod v 256 := Nat.eq_of_beq_eq_true h3
    have hN2 := sm_Nlt (n + 1)
    have hneg : ¬ a < 0 := by rw [h7]; exact sm_ofNat_nn hN2
    have hcl : a.toNatClampNeg = sm_N (n + 1) := by rw [h7]; exact sm_ofNat_cl hN2
    have hpre : sm_pre (n + 1) = sm_pre n + sm_N (n + 1) := rfl
    have hp1 := sm_pre_mono hn1
    have hp0 := sm_pre_mono h0
    have key : ∀ (C : String) (t0 : Nat), (sm_tys tc)[t0]? = some (tc (Nat.mod v 256), .object C) → 24 ≤ Nat.mod v 256 → va_AO C s → Cond.classLink (sm_cls o) (Nat.mod (Nat.div v 256) 65536) C ∈ sm_tb → W p l e Rm s m args below meth c H locs (n - n0 + (x - x0)) (sm_pre n - sm_pre n0 + 6 * (x - x0)) Q (F0 m pc rls ((Value.int a :: rest).map (sm_cv ρ))) := by
      intro C t0 ht0 h24 hao hcw
      refine va_newq (D := D) (cl := vwCl) (tys := sm_tys tc) (A := fun q => B ≤ q) (H0 := s.heap) hx hb hown (hts _ hcw) hao hK hV.1 hV.2.1 hV.2.2.1 (fun q hq => Nat.le_trans hB hq) hneg hcl (by omega) (by omega) (by omega) hd0 (fun q cA H1 hK1 a1 a2 a3 => ?_)
      have e1 : cA = tc (Nat.mod v 256) := by
        obtain ⟨_, _, _, _, _, h8⟩ := (hK1.2 8 (cA, .object C) rfl).2
        obtain ⟨_, _, _, _, _, h9⟩ := (hK.2 t0 _ ht0).2
        exact Option.some.inj (h8.symm.trans h9)
      subst e1
      have hel : (Sum.inl (tc (Nat.mod v 256), sm_N (n + 1), .inr (.inr (.inr (.inr (fun _ => none))))) : va_E) = sm_el tc (sm_rn ρ n q) (sm_cl R (n + 1) 0) (sm_cl G (n + 1) 0) (sm_cl L (n + 1) 0) (n + 1) := by
        rw [sm_el_r (by rw [hKn]; exact h24), hKn, sm_cl_at]
        rfl
      rw [hel] at a1 a2
      have hV1 := sm_V_new hV h0 (by omega) a1 a2 a3
      have hsame : ∀ r, r ≤ n ∨ 4096 ≤ r → sm_rn ρ n q r = ρ r := fun r hr => sm_rn_ne (by omega)
      have kk := hk1.2 (Nat.le_trans h0 (Nat.le_succ n)) h1 (sm_rn ρ n q) H1 locs rls hV1 (by rw [sm_lv_same 0 h6 hsame]; exact hl)
      have e9 : (Value.ref (Nat.add n 1) :: rest).map (sm_cv (sm_rn ρ n q)) = .ref q :: rest.map (sm_cv ρ) := by
        rw [sm_addr (t := 0) _ (Nat.succ_ne_zero n), sm_map_same h5 hsame]
        congr 2
        exact sm_rn_at n q
      rw [e9] at kk
      have c1 : n + 1 - n0 + (x - x0) = n - n0 + (x - x0) + 1 := by omega
      have c2 : sm_pre (n + 1) - sm_pre n0 + 6 * (x - x0) = sm_pre n - sm_pre n0 + 6 * (x - x0) + sm_N (n + 1) := by omega
      rw [show Nat.add n 1 = n + 1 from rfl, c1, c2] at kk
      exact kk
    unfold sm_ci at hci
    dsimp only at hci
    cases e1 : Nat.beq (Nat.mod v 256) 25 with
    | true => rw [e1] at hci; exact key RX10 5 (by rw [Nat.eq_of_beq_eq_true e1]; rfl) (by rw [Nat.eq_of_beq_eq_true e1]; decide) ha1 (sm_tb_m (sm_tc_of hci) rfl)
    | false =>
      cases e2 : Nat.beq (Nat.mod v 256) 26 with
      | true => rw [e1, e2] at hci; exact key RX3 6 (by rw [Nat.eq_of_beq_eq_true e2]; rfl) (by rw [Nat.eq_of_beq_eq_true e2]; decide) ha2 (sm_tb_m (sm_tc_of hci) rfl)
      | false =>
        cases e3 : Nat.beq (Nat.mod v 256) 27 with
        | true => rw [e1, e2, e3] at hci; exact key RX7 7 (by rw [Nat.eq_of_beq_eq_true e3]; rfl) (by rw [Nat.eq_of_beq_eq_true e3]; decide) ha3 (sm_tb_m (sm_tc_of hci) rfl)
        | false => rw [e1, e2, e3] at hci; cases hci
  case invokespecial v =>
    have hi2 : Nat.beq (Nat.mod v 1024) 1023 = true := hi
    unfold sm_ci at hci
    dsimp only at hci h
    rw [hi2] at h hci
    simp only [cond_true] at h hci
    obtain ⟨r, rest, rfl, h2⟩ := sm_r1_spec h
    obtain ⟨hr0, h2⟩ := sm_bif h2
    rw [Bool.and_eq_true] at hr0
    have hst := sm_ale hr0.2
    have hr0 : r ≠ 0 := Nat.ne_of_gt (sm_ale hr0.1)
    refine sm_go (hk _ _ _ _ _ _ _ _ h2) (fun ρ H locs cells slots rls hl kk => ?_)
    rw [sm_addr (t := 0) ρ hr0]
    exact W.objInit hx hb hown (hts _ (sm_tb_m (sm_tc_of hci) rfl)) (hts _ sm_oi1) (hts _ sm_oi2) rfl (hl.1.trans hml.symm) rfl hd0 hr4 (by
      have e9 := sm_cat_sum (ρ := ρ) rest
      rw [sm_wsum_eq] at hst
      rw [e9]
      have e8 : 2 * (F0 m pc rls (.ref (ρ r) :: rest.map (sm_cv ρ))).monitorRoom = 0 := by simp [JFrame.monitorRoom]
      rw [e8]
      omega) kk
end SMO
