/-! arrays -/
section SMA
variable {p : Program} {l : Launch} {e : Env} {Rm : Room} {s : State} {m : MethodId} {args : Array Value} {below : List Frame} {meth : Method} {c : Code} {Q : State → Prop}
variable {D : va_G} {tc : Nat → ClassId} {B : Nat} {ρ0 : Nat → Nat} {Z : sm_G} {nL n0 x0 nf xf : Nat}
variable {pc : Nat} {n : Nat} {R : sm_R} {G : sm_G} {L : sm_L} {cc : ByteArray} {own : String}
variable {ρ : Nat → Nat} {H : Heap} {locs : List Loc} {cells slots : Nat} {rls : Array Slot} {rest : List Value}
theorem sm_in_vp {i : Int32} {m : Nat} (h : sm_in i m = true) : vp_in i m := by
  unfold sm_in at h
  rw [Bool.and_eq_true] at h
  have h1 : 0 ≤ i := of_decide_eq_true h.1
  have h2 : i.toNatClampNeg < m := by have := h.2; unfold Nat.blt at this; exact Nat.le_of_ble_eq_true this
  rintro (h3 | h3)
  · exact (sm_nle.mpr h1) h3
  · omega
theorem sm_iald (hx : p.tables.exec = Jvm.exec) (hb : c.code = cc) (hK : va_K D vwCl (sm_tys tc) s) {r : Nat} {i : Int32} (hr : sm_is r n 20 = true) (hi : sm_in i (sm_N r) = true) (hd : decode cc pc = .ok (.iaload, 1)) (hP : va_P D vwCl (sm_ws tc ρ n R G L) H)
    (kk : W p l e Rm s m args below meth c H locs cells slots Q (F0 m (pc + 1) rls (.int (G r i.toNatClampNeg) :: rest))) : W p l e Rm s m args below meth c H locs cells slots Q (F0 m pc rls (.int i :: sm_cv ρ (.ref r) :: rest)) := by
  obtain ⟨h1, h2, h0⟩ := sm_is_spec hr (by decide)
  rw [sm_cv_ne h0]
  exact va_iald (D := D) (cl := vwCl) (tys := sm_tys tc) hx hb hK hP (r - 1) 0 (by rw [sm_ws_get h0 h2, sm_el_i (by omega) (by omega), h1]) rfl (sm_in_vp hi) hd kk
theorem sm_bald (hx : p.tables.exec = Jvm.exec) (hb : c.code = cc) (hK : va_K D vwCl (sm_tys tc) s) {r : Nat} {i : Int32} (hr : (sm_is r n 21 || sm_is r n 22) = true) (hi : sm_in i (sm_N r) = true) (hd : decode cc pc = .ok (.baload, 1)) (hP : va_P D vwCl (sm_ws tc ρ n R G L) H)
    (kk : W p l e Rm s m args below meth c H locs cells slots Q (F0 m (pc + 1) rls (.int (G r i.toNatClampNeg) :: rest))) : W p l e Rm s m args below meth c H locs cells slots Q (F0 m pc rls (.int i :: sm_cv ρ (.ref r) :: rest)) := by
  rw [Bool.or_eq_true] at hr
  rcases hr with hr | hr
  · obtain ⟨h1, h2, h0⟩ := sm_is_spec hr (by decide)
    rw [sm_cv_ne h0]
    exact va_bald (D := D) (cl := vwCl) (tys := sm_tys tc) hx hb hK hP (r - 1) 1 (by rw [sm_ws_get h0 h2, sm_el_i (by omega) (by omega), h1]) rfl (sm_in_vp hi) hd kk
  · obtain ⟨h1, h2, h0⟩ := sm_is_spec hr (by decide)
    rw [sm_cv_ne h0]
    exact va_zald (D := D) (cl := vwCl) (tys := sm_tys tc) hx hb hK hP (r - 1) 2 (by rw [sm_ws_get h0 h2, sm_el_i (by omega) (by omega), h1]) rfl (sm_in_vp hi) hd kk
theorem sm_lald (hx : p.tables.exec = Jvm.exec) (hb : c.code = cc) (hK : va_K D vwCl (sm_tys tc) s) {r : Nat} {i : Int32} (hr : sm_is r n 23 = true) (hi : sm_in i (sm_N r) = true) (hd : decode cc pc = .ok (.laload, 1)) (hP : va_P D vwCl (sm_ws tc ρ n R G L) H)
    (kk : W p l e Rm s m args below meth c H locs cells slots Q (F0 m (pc + 1) rls (.long (L r i.toNatClampNeg) :: rest))) : W p l e Rm s m args below meth c H locs cells slots Q (F0 m pc rls (.int i :: sm_cv ρ (.ref r) :: rest)) := by
  obtain ⟨h1, h2, h0⟩ := sm_is_spec hr (by decide)
  rw [sm_cv_ne h0]
  exact va_lald (D := D) (cl := vwCl) (tys := sm_tys tc) hx hb hK hP (r - 1) 3 (by rw [sm_ws_get h0 h2, sm_el_l h1, h1]) rfl (sm_in_vp hi) hd kk
theorem sm_ale0 {a b : Nat} (h : Nat.ble a b = true) : a ≤ b := Nat.le_of_ble_eq_true h
theorem sm_aald (hx : p.tables.exec = Jvm.exec) (hb : c.code = cc) (hK : va_K D vwCl (sm_tys tc) s) {r : Nat} {i : Int32} (hr : (Nat.ble 24 (sm_K r) && Nat.ble (sm_K r) 27 && Nat.ble r n) = true) (hi : sm_in i (sm_N r) = true) (hd : decode cc pc = .ok (.aaload, 1)) (hP : va_P D vwCl (sm_ws tc ρ n R G L) H)
    (kk : W p l e Rm s m args below meth c H locs cells slots Q (F0 m (pc + 1) rls (sm_cv ρ (.ref (R r i.toNatClampNeg)) :: rest))) : W p l e Rm s m args below meth c H locs cells slots Q (F0 m pc rls (.int i :: sm_cv ρ (.ref r) :: rest)) := by
  rw [Bool.and_eq_true, Bool.and_eq_true] at hr
  obtain ⟨⟨h1, h2⟩, h3⟩ := hr
  have h1 := sm_ale0 h1
  have h2 := sm_ale0 h2
  have h3 := sm_ale0 h3
  have h0 : r ≠ 0 := fun q => by subst q; rw [sm_K0] at h2; omega
  rw [sm_cv_ne h0]
  have ha : (sm_ws tc ρ n R G L)[r - 1]? = some (ρ r, .inl (tc (sm_K r), sm_N r, .inr (.inr (.inr (.inr (fun j => sm_ov ρ (R r j))))))) := by rw [sm_ws_get h0 h3, sm_el_r h1]
  have hin := sm_in_vp hi
  have hlt : i.toNatClampNeg < sm_N r := Nat.not_le.mp fun q => hin (Or.inr q)
  have ht : ∃ (t0 : Nat) (ty : FieldType), (sm_tys tc)[t0]? = some (tc (sm_K r), ty) ∧ ty.isReference = true := by
    rcases (show sm_K r = 24 ∨ sm_K r = 25 ∨ sm_K r = 26 ∨ sm_K r = 27 by omega) with q | q | q | q <;> rw [q]
    · exact ⟨4, _, rfl, rfl⟩
    · exact ⟨5, _, rfl, rfl⟩
    · exact ⟨6, _, rfl, rfl⟩
    · exact ⟨7, _, rfl, rfl⟩
  obtain ⟨t0, ty, ht, hty⟩ := ht
  rw [← sm_ov_cv] at kk
  exact W.aald (v := va_rf (sm_ov ρ (R r i.toNatClampNeg))) (ty := ty) hx hb (hP (r - 1) _ ha) ((hK.2 t0 _ ht).1 (sm_N r) (fun j => va_rf (sm_ov ρ (R r j)))) hty (fun q => by cases q) (by show ¬ (i < 0 ∨ (arrV _ _ _).slots.size ≤ _); rw [arrV_size]; exact hin) (by show (arrV _ _ _).slots[_]? = _; rw [arrV_read _ _ hlt]) rfl rfl hd kk
theorem sm_alen (hx : p.tables.exec = Jvm.exec) (hb : c.code = cc) (hK : va_K D vwCl (sm_tys tc) s) {r : Nat} (hr : (Nat.ble 20 (sm_K r) && Nat.ble (sm_K r) 27 && Nat.ble r n) = true) (hd : decode cc pc = .ok (.arraylength, 1)) (hP : va_P D vwCl (sm_ws tc ρ n R G L) H)
    (kk : W p l e Rm s m args below meth c H locs cells slots Q (F0 m (pc + 1) rls (.int (Int32.ofNat (sm_N r)) :: rest))) : W p l e Rm s m args below meth c H locs cells slots Q (F0 m pc rls (sm_cv ρ (.ref r) :: rest)) := by
  rw [Bool.and_eq_true, Bool.and_eq_true] at hr
  obtain ⟨⟨h1, h2⟩, h3⟩ := hr
  have h1 := sm_ale0 h1
  have h2 := sm_ale0 h2
  have h3 := sm_ale0 h3
  have h0 : r ≠ 0 := fun q => by subst q; rw [sm_K0] at h2; omega
  rw [sm_cv_ne h0]
  have ha : ∃ z, (sm_ws tc ρ n R G L)[r - 1]? = some (ρ r, .inl (tc (sm_K r), sm_N r, z)) := by
    rw [sm_ws_get h0 h3]
    by_cases g1 : sm_K r < 23
    · exact ⟨_, by rw [sm_el_i h1 g1]⟩
    · by_cases g2 : sm_K r = 23
      · exact ⟨_, by rw [sm_el_l g2]⟩
      · exact ⟨_, by rw [sm_el_r (by omega)]⟩
  obtain ⟨z, ha⟩ := ha
  have ht : ∃ (t0 : Nat) (ty : FieldType), (sm_tys tc)[t0]? = some (tc (sm_K r), ty) := by
    rcases (show sm_K r = 20 ∨ sm_K r = 21 ∨ sm_K r = 22 ∨ sm_K r = 23 ∨ sm_K r = 24 ∨ sm_K r = 25 ∨ sm_K r = 26 ∨ sm_K r = 27 by omega) with q | q | q | q | q | q | q | q <;> rw [q]
    · exact ⟨0, _, rfl⟩
    · exact ⟨1, _, rfl⟩
    · exact ⟨2, _, rfl⟩
    · exact ⟨3, _, rfl⟩
    · exact ⟨4, _, rfl⟩
    · exact ⟨5, _, rfl⟩
    · exact ⟨6, _, rfl⟩
    · exact ⟨7, _, rfl⟩
  obtain ⟨t0, ty, ht⟩ := ht
  exact va_alen (D := D) (cl := vwCl) (tys := sm_tys tc) hx hb hK hP (r - 1) t0 ha ht rfl hd kk
/-- an int put into a row -/
theorem sm_V_up {r k : Nat} {v : Int32} (h0 : r ≠ 0) (hr : r ≤ n) (h1 : 20 ≤ sm_K r) (h2 : sm_K r < 23) : sm_ws tc ρ n R (sm_up G r k v) L = (sm_ws tc ρ n R G L).set (r - 1) (ρ r, .inl (tc (sm_K r), sm_N r, .inl (upd (G r) k v))) := by
  rw [sm_ws_set h0 hr (fun _ _ => rfl) (fun a ha => sm_up_row G r k v a ha) (fun _ _ => rfl), sm_el_i h1 h2, sm_up_at]
  rfl
theorem sm_iast (hx : p.tables.exec = Jvm.exec) (hb : c.code = cc) (hK : va_K D vwCl (sm_tys tc) s) {r : Nat} {i v : Int32} (hr : sm_is r n 20 = true) (hi : sm_in i (sm_N r) = true) (hd : decode cc pc = .ok (.iastore, 1)) (hV : sm_V D tc B ρ0 Z n0 s ρ n R G L H locs)
    (kk : ∀ (H1 : Heap) (locs1 : List Loc), sm_V D tc B ρ0 Z n0 s ρ n R (sm_up G r i.toNatClampNeg v) L H1 locs1 → W p l e Rm s m args below meth c H1 locs1 cells slots Q (F0 m (pc + 1) rls rest)) : W p l e Rm s m args below meth c H locs cells slots Q (F0 m pc rls (.int v :: .int i :: sm_cv ρ (.ref r) :: rest)) := by
  obtain ⟨hP, hDD, hS, hag, hwf, hn3, hz1, hz2⟩ := hV
  obtain ⟨h1, h2, h0⟩ := sm_is_spec hr (by decide)
  rw [sm_cv_ne h0]
  refine va_iast (D := D) (cl := vwCl) (tys := sm_tys tc) (A := fun q => B ≤ q) (H0 := s.heap) hx hb hK hP hDD hS (r - 1) 0 (cA := tc (sm_K r)) (by rw [sm_ws_get h0 h2, sm_el_i (by omega) (by omega)]) (by rw [h1]; rfl) (sm_in_vp hi) hd (fun H1 locs1 a1 a2 a3 => kk H1 locs1 ?_)
  rw [← sm_V_up h0 h2 (by omega) (by omega)] at a1 a2
  exact ⟨a1, a2, a3, hag, hwf, hn3, (sm_up_row G r _ _ 8191 (by omega)).trans hz1, (sm_up_row G r _ _ 8190 (by omega)).trans hz2⟩
theorem sm_bast (hx : p.tables.exec = Jvm.exec) (hb : c.code = cc) (hK : va_K D vwCl (sm_tys tc) s) {r : Nat} {i v : Int32} (hr : sm_is r n 21 = true) (hi : sm_in i (sm_N r) = true) (hd : decode cc pc = .ok (.bastore, 1)) (hV : sm_V D tc B ρ0 Z n0 s ρ n R G L H locs)
    (kk : ∀ (H1 : Heap) (locs1 : List Loc), sm_V D tc B ρ0 Z n0 s ρ n R (sm_up G r i.toNatClampNeg v.toInt8.toInt32) L H1 locs1 → W p l e Rm s m args below meth c H1 locs1 cells slots Q (F0 m (pc + 1) rls rest)) : W p l e Rm s m args below meth c H locs cells slots Q (F0 m pc rls (.int v :: .int i :: sm_cv ρ (.ref r) :: rest)) := by
  obtain ⟨hP, hDD, hS, hag, hwf, hn3, hz1, hz2⟩ := hV
  obtain ⟨h1, h2, h0⟩ := sm_is_spec hr (by decide)
  rw [sm_cv_ne h0]
  refine va_bast (D := D) (cl := vwCl) (tys := sm_tys tc) (A := fun q => B ≤ q) (H0 := s.heap) hx hb hK hP hDD hS (r - 1) 1 (cA := tc (sm_K r)) (by rw [sm_ws_get h0 h2, sm_el_i (by omega) (by omega)]) (by rw [h1]; rfl) (sm_in_vp hi) hd (fun H1 locs1 a1 a2 a3 => kk H1 locs1 ?_)
  rw [vp_nar_byte, ← sm_V_up h0 h2 (by omega) (by omega)] at a1 a2
  exact ⟨a1, a2, a3, hag, hwf, hn3, (sm_up_row G r _ _ 8191 (by omega)).trans hz1, (sm_up_row G r _ _ 8190 (by omega)).trans hz2⟩
theorem sm_zast (hx : p.tables.exec = Jvm.exec) (hb : c.code = cc) (hK : va_K D vwCl (sm_tys tc) s) {r : Nat} {i v : Int32} (hr : sm_is r n 22 = true) (hi : sm_in i (sm_N r) = true) (hv : v &&& 1 = v) (hd : decode cc pc = .ok (.bastore, 1)) (hV : sm_V D tc B ρ0 Z n0 s ρ n R G L H locs)
    (kk : ∀ (H1 : Heap) (locs1 : List Loc), sm_V D tc B ρ0 Z n0 s ρ n R (sm_up G r i.toNatClampNeg v) L H1 locs1 → W p l e Rm s m args below meth c H1 locs1 cells slots Q (F0 m (pc + 1) rls rest)) : W p l e Rm s m args below meth c H locs cells slots Q (F0 m pc rls (.int v :: .int i :: sm_cv ρ (.ref r) :: rest)) := by
  obtain ⟨hP, hDD, hS, hag, hwf, hn3, hz1, hz2⟩ := hV
  obtain ⟨h1, h2, h0⟩ := sm_is_spec hr (by decide)
  rw [sm_cv_ne h0]
  have hnar : vp_nar .boolean v = v := by unfold vp_nar; rw [(sm_narb hv).1]
  refine va_zast (D := D) (cl := vwCl) (tys := sm_tys tc) (A := fun q => B ≤ q) (H0 := s.heap) hx hb hK hP hDD hS (r - 1) 2 (cA := tc (sm_K r)) (by rw [sm_ws_get h0 h2, sm_el_i (by omega) (by omega)]) (by rw [h1]; rfl) (sm_in_vp hi) hd (fun H1 locs1 a1 a2 a3 => kk H1 locs1 ?_)
  rw [hnar, ← sm_V_up h0 h2 (by omega) (by omega)] at a1 a2
  exact ⟨a1, a2, a3, hag, hwf, hn3, (sm_up_row G r _ _ 8191 (by omega)).trans hz1, (sm_up_row G r _ _ 8190 (by omega)).trans hz2⟩
theorem sm_last (hx : p.tables.exec = Jvm.exec) (hb : c.code = cc) (hK : va_K D vwCl (sm_tys tc) s) {r : Nat} {i : Int32} {v : Int64} (hr : sm_is r n 23 = true) (hi : sm_in i (sm_N r) = true) (hd : decode cc pc = .ok (.lastore, 1)) (hV : sm_V D tc B ρ0 Z n0 s ρ n R G L H locs)
    (kk : ∀ (H1 : Heap) (locs1 : List Loc), sm_V D tc B ρ0 Z n0 s ρ n R G (sm_up L r i.toNatClampNeg v) H1 locs1 → W p l e Rm s m args below meth c H1 locs1 cells slots Q (F0 m (pc + 1) rls rest)) : W p l e Rm s m args below meth c H locs cells slots Q (F0 m pc rls (.long v :: .int i :: sm_cv ρ (.ref r) :: rest)) := by
  obtain ⟨hP, hDD, hS, hag, hwf, hn3, hz1, hz2⟩ := hV
  obtain ⟨h1, h2, h0⟩ := sm_is_spec hr (by decide)
  rw [sm_cv_ne h0]
  refine va_last (D := D) (cl := vwCl) (tys := sm_tys tc) (A := fun q => B ≤ q) (H0 := s.heap) hx hb hK hP hDD hS (r - 1) 3 (cA := tc (sm_K r)) (by rw [sm_ws_get h0 h2, sm_el_l h1]) (by rw [h1]; rfl) (sm_in_vp hi) hd (fun H1 locs1 a1 a2 a3 => kk H1 locs1 ?_)
  have e2 : sm_ws tc ρ n R G (sm_up L r i.toNatClampNeg v) = (sm_ws tc ρ n R G L).set (r - 1) (ρ r, .inl (tc (sm_K r), sm_N r, .inr (.inl (vp_updL (L r) i.toNatClampNeg v)))) := by
    rw [sm_ws_set h0 h2 (fun _ _ => rfl) (fun _ _ => rfl) (fun a ha => sm_up_row L r _ v a ha), sm_el_l h1, sm_up_at]
    rfl
  rw [← e2] at a1 a2
  exact ⟨a1, a2, a3, hag, hwf, hn3, hz1, hz2⟩
theorem sm_aast (hx : p.tables.exec = Jvm.exec) (hb : c.code = cc) (hK : va_K D vwCl (sm_tys tc) s) {r v : Nat} {i : Int32} (hr : (Nat.ble 25 (sm_K r) && Nat.ble (sm_K r) 27 && Nat.ble r n && sm_is v n (bif Nat.beq (sm_K r) 25 then 10 else bif Nat.beq (sm_K r) 26 then 3 else 7)) = true) (hi : sm_in i (sm_N r) = true) (hd : decode cc pc = .ok (.aastore, 1)) (hV : sm_V D tc B ρ0 Z n0 s ρ n R G L H locs)
    (kk : ∀ (H1 : Heap) (locs1 : List Loc), sm_V D tc B ρ0 Z n0 s ρ n (sm_up R r i.toNatClampNeg v) G L H1 locs1 → W p l e Rm s m args below meth c H1 locs1 cells slots Q (F0 m (pc + 1) rls rest)) : W p l e Rm s m args below meth c H locs cells slots Q (F0 m pc rls (sm_cv ρ (.ref v) :: .int i :: sm_cv ρ (.ref r) :: rest)) := by
  obtain ⟨hP, hDD, hS, hag, hwf, hn3, hz1, hz2⟩ := hV
  rw [Bool.and_eq_true, Bool.and_eq_true, Bool.and_eq_true] at hr
  obtain ⟨⟨⟨h1, h2⟩, h3⟩, h4⟩ := hr
  have h1 := sm_ale0 h1
  have h2 := sm_ale0 h2
  have h3 := sm_ale0 h3
  have h0 : r ≠ 0 := fun q => by subst q; rw [sm_K0] at h2; omega
  have ha : (sm_ws tc ρ n R G L)[r - 1]? = some (ρ r, .inl (tc (sm_K r), sm_N r, .inr (.inr (.inr (.inr (fun j => sm_ov ρ (R r j))))))) := by rw [sm_ws_get h0 h3, sm_el_r (by omega)]
  have ht : ∃ (t0 ci : Nat) (q : vw_C), (sm_tys tc)[t0]? = some (tc (sm_K r), .object q.1) ∧ vwCl[ci]? = some q ∧ sm_is v n ci = true ∧ ci < 20 := by
    rcases (show sm_K r = 25 ∨ sm_K r = 26 ∨ sm_K r = 27 by omega) with q | q | q <;> rw [q] at h4 ⊢
    · exact ⟨5, 10, _, rfl, rfl, h4, by decide⟩
    · exact ⟨6, 3, _, rfl, rfl, h4, by decide⟩
    · exact ⟨7, 7, _, rfl, rfl, h4, by decide⟩
  obtain ⟨t0, ci, q, ht, hq, hvi, h20⟩ := ht
  obtain ⟨g1, g2, g0⟩ := sm_is_spec hvi (by omega)
  rw [sm_cv_ne h0, sm_cv_ne g0]
  refine va_astq (D := D) (cl := vwCl) (tys := sm_tys tc) (A := fun q => B ≤ q) (H0 := s.heap) hx hb hK hP hDD hS (r - 1) t0 (v - 1) ci (r := q) ha ht (by rw [sm_ws_get g0 g2, sm_el_o (by omega), g1]) hq (sm_in_vp hi) hd (fun H1 locs1 a1 a2 a3 => kk H1 locs1 ?_)
  have e2 : sm_ws tc ρ n (sm_up R r i.toNatClampNeg v) G L = (sm_ws tc ρ n R G L).set (r - 1) (ρ r, .inl (tc (sm_K r), sm_N r, .inr (.inr (.inr (.inr (va_up (fun j => sm_ov ρ (R r j)) i.toNatClampNeg (some (ρ v)))))))) := by
    rw [sm_ws_set h0 h3 (fun a ha => sm_up_row R r _ v a ha) (fun _ _ => rfl) (fun _ _ => rfl), sm_el_r (by omega), sm_up_at]
    have : (fun j => sm_ov ρ ((fun j => if j = i.toNatClampNeg then v else R r j) j)) = va_up (fun j => sm_ov ρ (R r j)) i.toNatClampNeg (some (ρ v)) := by
      funext j
      unfold va_up
      by_cases hj : j = i.toNatClampNeg
      · simp only [hj, if_true]
        unfold sm_ov
        have : Nat.beq v 0 = false := by cases hz : Nat.beq v 0 with
          | false => rfl
          | true => exact absurd (Nat.eq_of_beq_eq_true hz) g0
        rw [this]
        rfl
      · simp only [hj, if_false]
    rw [this]
  rw [← e2] at a1 a2
  refine ⟨a1, a2, a3, hag, fun a j => ?_, hn3, hz1, hz2⟩
  unfold sm_up
  cases (Nat.beq a r && Nat.beq j i.toNatClampNeg)
  · exact hwf a j
  · exact g2
end SMA
