/-! wills: a step whole; steps and blocks by depth -/
theorem step_ok {h : Nat} (hh : h ≤ 6) (hB : BlockP h) : StepP h := by
  intro D E x x' V U L L' B n T w c X g st z Q hD0 hE0 hw hT hn q J hz hst hQ
  obtain ⟨d, rfl⟩ : ∃ d, D = d + 1 := ⟨D - 1, by omega⟩
  obtain ⟨e, rfl⟩ : ∃ e, E = e + 1 := ⟨E - 1, by omega⟩
  have hwl := pW_lt hw
  obtain ⟨hr, hm, x4, x5, x6, x7, g0, g1', g34, g35, g8⟩ := J
  have hcn := hr.le q
  obtain ⟨X1, a1, a2, a3⟩ := s_138 (D := d) (x := x) (V := V) (L := L) (by omega) hr
  have f2 : ∀ r j, ¬ (r = w ∧ j = 5) → sm_up X1 w 5 (X1 w 5 + i3 1) r j = X1 r j := fun r j y => sm_up_ne (by omega)
  have y5 : sm_up X1 w 5 (X1 w 5 + i3 1) w 5 = i3 (st + 1) := by rw [sm_up_same, a2 _ _ (by omega), x5, i3_add]
  rw [m_171 hw, a1, aV_o, m_239]
  generalize sm_up X1 w 5 (X1 w 5 + i3 1) = X2 at *
  have r2 : rW X2 B n (wdS B n c) := a3.keep (fun r j y => f2 r j (by omega))
  have y4 : X2 w 4 = i3 z := by rw [f2 _ _ (by omega), a2 _ _ (by omega)]; exact x4
  have y6 : X2 w 6 = i3 (sl T) := by rw [f2 _ _ (by omega), a2 _ _ (by omega)]; exact x6
  have y7 : X2 w 7 = i3 (dn T) := by rw [f2 _ _ (by omega), a2 _ _ (by omega)]; exact x7
  have fX : cW2 w z X X2 := ⟨fun r j z1 z2 => by rw [f2 _ _ (by omega), a2 _ _ (by omega)], by rw [f2 _ _ (by omega), a2 _ _ (by omega)], by rw [f2 _ _ (by omega), a2 _ _ (by omega)], fun r j z1 z2 z3 => by rw [f2 _ _ (by omega), a2 _ _ (by omega)]⟩
  have tr : ∀ (g1 X' g2 : sm_G) (c' : St), mF g g1 → jO X2 g1 X' g2 B n c c' w T h h 0 st z Q → jO X g X' g2 B n c c' w T h h 0 st z Q := fun g1 X' g2 c' f k => ⟨k.1, k.2.1, fX.tr0 k.2.2.1, f.W.tr k.2.2.2.1 (Nat.le_refl _) (Nat.le_refl _), k.2.2.2.2⟩
  have hl : ∀ ws, wl B n c.2.2 = ws → c.2.2 + ws.length ≤ we B n c.2.2 := fun ws y => by
    have h1 := wl_len (B := B) (n := n) (s := c.2.2)
    have h2 := we_ge (B := B) (n := n) (a := c.2.2)
    rw [y] at h1
    omega
  rcases swd_all (wl B n c.2.2) with hq | hq | hq | hq | hq | hq | ⟨n0, n1, n2, n3, n4, n5⟩
  · obtain ⟨eW, rw1⟩ := eY140 (D := d) (x := x) (V := V) (L := L) (by omega) q r2 t_to (by decide) hq
    have eW : sm_cv0 d 140 342 (RR V) [.ref 2, .ref 4117] (x, X2, L) = oI (i3 1) x X2 L := eW
    obtain ⟨g1, u1, u2, f1⟩ := s_240_to (E := e) (x' := x') (U := U) (L' := L') (by omega) hm q hq
    have hl := hl _ hq
    have hl2 : c.2.2 + 2 ≤ we B n c.2.2 := Nat.le_trans (Nat.add_le_add_left (by decide) _) hl
    obtain ⟨X', g2, c', k1, k2, k3, k4⟩ := st_c0 (D := d) (E := e) (x := x) (x' := x') (V := V) (U := U) (L := L) (L' := L') (T := T) hh (by omega) (by omega) hw hT hn q rw1 u2 y4 y5 y6 y7 (by rw [f1 _ _ (by omega)]; exact g0) (by rw [f1 _ _ (by omega)]; exact g1') (by rw [f1 _ _ (by omega)]; exact g34) (by rw [f1 _ _ (by omega)]; exact g35) (by rw [f1 _ _ (by omega)]; exact g8) hz hst hQ hl2
    rw [eW, aI_o, if_neg (show ¬ i3 1 = i3 0 by decide), k1, u1, aI_o, if_neg (show ¬ i3 0 = m1 by decide), k2]
    exact ⟨X', g2, c', rfl, rfl, tr g1 X' g2 c' f1 k3, k4⟩
  · have e0 : sm_cv0 d 140 342 (RR V) [.ref 2, .ref 4117] (x, X2, L) = oI (i3 0) x X2 L := eN140 (by omega) r2 t_to (by rw [hq]; decide)
    obtain ⟨eW, rw1⟩ := eY140 (D := d) (x := x) (V := V) (L := L) (by omega) q r2 t_wait (by decide) hq
    have eW : sm_cv0 d 140 342 (RR V) [.ref 2, .ref 4121] (x, X2, L) = oI (i3 1) x X2 L := eW
    obtain ⟨g1, u1, u2, f1⟩ := s_240_wait (E := e) (x' := x') (U := U) (L' := L') (by omega) hm q hq
    have hl := hl _ hq
    have hl2 : c.2.2 + 2 ≤ we B n c.2.2 := Nat.le_trans (Nat.add_le_add_left (by decide) _) hl
    obtain ⟨X', g2, c', k1, k2, k3, k4⟩ := st_c1 (D := d) (E := e) (x := x) (x' := x') (V := V) (U := U) (L := L) (L' := L') (T := T) hh (by omega) (by omega) hw hT hn q rw1 u2 y4 y5 y6 y7 (by rw [f1 _ _ (by omega)]; exact g0) (by rw [f1 _ _ (by omega)]; exact g1') (by rw [f1 _ _ (by omega)]; exact g34) (by rw [f1 _ _ (by omega)]; exact g35) (by rw [f1 _ _ (by omega)]; exact g8) hz hst hQ hl2
    rw [e0, aI_o, if_pos rfl, eW, aI_o, if_neg (show ¬ i3 1 = i3 0 by decide), k1, u1, aI_o, if_neg (show ¬ i3 1 = m1 by decide), k2]
    exact ⟨X', g2, c', rfl, rfl, tr g1 X' g2 c' f1 k3, k4⟩
  · have e0 : sm_cv0 d 140 342 (RR V) [.ref 2, .ref 4117] (x, X2, L) = oI (i3 0) x X2 L := eN140 (by omega) r2 t_to (by rw [hq]; decide)
    have e1 : sm_cv0 d 140 342 (RR V) [.ref 2, .ref 4121] (x, X2, L) = oI (i3 0) x X2 L := eN140 (by omega) r2 t_wait (by rw [hq]; decide)
    obtain ⟨eW, rw1⟩ := eY140 (D := d) (x := x) (V := V) (L := L) (by omega) q r2 t_call (by decide) hq
    have eW : sm_cv0 d 140 342 (RR V) [.ref 2, .ref 4099] (x, X2, L) = oI (i3 1) x X2 L := eW
    obtain ⟨g1, u1, u2, f1⟩ := s_240_call (E := e) (x' := x') (U := U) (L' := L') (by omega) hm q hq
    have hl := hl _ hq
    have hl2 : c.2.2 + 2 ≤ we B n c.2.2 := Nat.le_trans (Nat.add_le_add_left (by decide) _) hl
    obtain ⟨X', g2, c', k1, k2, k3, k4⟩ := st_c2 (D := d) (E := e) (x := x) (x' := x') (V := V) (U := U) (L := L) (L' := L') (T := T) hh (by omega) (by omega) hw hT hn q rw1 u2 y4 y5 y6 y7 (by rw [f1 _ _ (by omega)]; exact g0) (by rw [f1 _ _ (by omega)]; exact g1') (by rw [f1 _ _ (by omega)]; exact g34) (by rw [f1 _ _ (by omega)]; exact g35) (by rw [f1 _ _ (by omega)]; exact g8) hz hst hQ hl2
    rw [e0, aI_o, if_pos rfl, e1, aI_o, if_pos rfl, eW, aI_o, if_neg (show ¬ i3 1 = i3 0 by decide), k1, u1, aI_o, if_neg (show ¬ i3 2 = m1 by decide), k2]
    exact ⟨X', g2, c', rfl, rfl, tr g1 X' g2 c' f1 k3, k4⟩
  · have e0 : sm_cv0 d 140 342 (RR V) [.ref 2, .ref 4117] (x, X2, L) = oI (i3 0) x X2 L := eN140 (by omega) r2 t_to (by rw [hq]; decide)
    have e1 : sm_cv0 d 140 342 (RR V) [.ref 2, .ref 4121] (x, X2, L) = oI (i3 0) x X2 L := eN140 (by omega) r2 t_wait (by rw [hq]; decide)
    have e2 : sm_cv0 d 140 342 (RR V) [.ref 2, .ref 4099] (x, X2, L) = oI (i3 0) x X2 L := eN140 (by omega) r2 t_call (by rw [hq]; decide)
    obtain ⟨eW, rw1⟩ := eY140 (D := d) (x := x) (V := V) (L := L) (by omega) q r2 t_again (by decide) hq
    have eW : sm_cv0 d 140 342 (RR V) [.ref 2, .ref 4097] (x, X2, L) = oI (i3 1) x X2 L := eW
    obtain ⟨g1, u1, u2, f1⟩ := s_240_again (E := e) (x' := x') (U := U) (L' := L') (by omega) hm q hq
    have hl := hl _ hq
    have hl2 : c.2.2 + 5 ≤ we B n c.2.2 := Nat.le_trans (Nat.add_le_add_left (by decide) _) hl
    obtain ⟨X', g2, c', k1, k2, k3, k4⟩ := st_c3 (D := d) (E := e) (x := x) (x' := x') (V := V) (U := U) (L := L) (L' := L') (T := T) hh (by omega) (by omega) hw hT hn q rw1 u2 y4 y5 y6 y7 (by rw [f1 _ _ (by omega)]; exact g0) (by rw [f1 _ _ (by omega)]; exact g1') (by rw [f1 _ _ (by omega)]; exact g34) (by rw [f1 _ _ (by omega)]; exact g35) (by rw [f1 _ _ (by omega)]; exact g8) hz hst hQ hB hl2
    rw [e0, aI_o, if_pos rfl, e1, aI_o, if_pos rfl, e2, aI_o, if_pos rfl, eW, aI_o, if_neg (show ¬ i3 1 = i3 0 by decide), k1, u1, aI_o, if_neg (show ¬ i3 3 = m1 by decide), k2]
    exact ⟨X', g2, c', rfl, rfl, tr g1 X' g2 c' f1 k3, k4⟩
  · have e0 : sm_cv0 d 140 342 (RR V) [.ref 2, .ref 4117] (x, X2, L) = oI (i3 0) x X2 L := eN140 (by omega) r2 t_to (by rw [hq]; decide)
    have e1 : sm_cv0 d 140 342 (RR V) [.ref 2, .ref 4121] (x, X2, L) = oI (i3 0) x X2 L := eN140 (by omega) r2 t_wait (by rw [hq]; decide)
    have e2 : sm_cv0 d 140 342 (RR V) [.ref 2, .ref 4099] (x, X2, L) = oI (i3 0) x X2 L := eN140 (by omega) r2 t_call (by rw [hq]; decide)
    have e3 : sm_cv0 d 140 342 (RR V) [.ref 2, .ref 4097] (x, X2, L) = oI (i3 0) x X2 L := eN140 (by omega) r2 t_again (by rw [hq]; decide)
    obtain ⟨eW, rw1⟩ := eY140 (D := d) (x := x) (V := V) (L := L) (by omega) q r2 t_until (by decide) hq
    have eW : sm_cv0 d 140 342 (RR V) [.ref 2, .ref 4120] (x, X2, L) = oI (i3 1) x X2 L := eW
    obtain ⟨g1, u1, u2, f1⟩ := s_240_until (E := e) (x' := x') (U := U) (L' := L') (by omega) hm q hq
    have hl := hl _ hq
    have hl2 : c.2.2 + 5 ≤ we B n c.2.2 := Nat.le_trans (Nat.add_le_add_left (by decide) _) hl
    obtain ⟨X', g2, c', k1, k2, k3, k4⟩ := st_c4 (D := d) (E := e) (x := x) (x' := x') (V := V) (U := U) (L := L) (L' := L') (T := T) hh (by omega) (by omega) hw hT hn q rw1 u2 y4 y5 y6 y7 (by rw [f1 _ _ (by omega)]; exact g0) (by rw [f1 _ _ (by omega)]; exact g1') (by rw [f1 _ _ (by omega)]; exact g34) (by rw [f1 _ _ (by omega)]; exact g35) (by rw [f1 _ _ (by omega)]; exact g8) hz hst hQ hB hl2
    rw [e0, aI_o, if_pos rfl, e1, aI_o, if_pos rfl, e2, aI_o, if_pos rfl, e3, aI_o, if_pos rfl, eW, aI_o, if_neg (show ¬ i3 1 = i3 0 by decide), k1, u1, aI_o, if_neg (show ¬ i3 4 = m1 by decide), k2]
    exact ⟨X', g2, c', rfl, rfl, tr g1 X' g2 c' f1 k3, k4⟩
  · have e0 : sm_cv0 d 140 342 (RR V) [.ref 2, .ref 4117] (x, X2, L) = oI (i3 0) x X2 L := eN140 (by omega) r2 t_to (by rw [hq]; decide)
    have e1 : sm_cv0 d 140 342 (RR V) [.ref 2, .ref 4121] (x, X2, L) = oI (i3 0) x X2 L := eN140 (by omega) r2 t_wait (by rw [hq]; decide)
    have e2 : sm_cv0 d 140 342 (RR V) [.ref 2, .ref 4099] (x, X2, L) = oI (i3 0) x X2 L := eN140 (by omega) r2 t_call (by rw [hq]; decide)
    have e3 : sm_cv0 d 140 342 (RR V) [.ref 2, .ref 4097] (x, X2, L) = oI (i3 0) x X2 L := eN140 (by omega) r2 t_again (by rw [hq]; decide)
    have e4 : sm_cv0 d 140 342 (RR V) [.ref 2, .ref 4120] (x, X2, L) = oI (i3 0) x X2 L := eN140 (by omega) r2 t_until (by rw [hq]; decide)
    obtain ⟨eW, rw1⟩ := eY140 (D := d) (x := x) (V := V) (L := L) (by omega) q r2 t_if (by decide) hq
    have eW : sm_cv0 d 140 342 (RR V) [.ref 2, .ref 4104] (x, X2, L) = oI (i3 1) x X2 L := eW
    obtain ⟨g1, u1, u2, f1⟩ := s_240_if (E := e) (x' := x') (U := U) (L' := L') (by omega) hm q hq
    have hl := hl _ hq
    have hl2 : c.2.2 + 2 ≤ we B n c.2.2 := Nat.le_trans (Nat.add_le_add_left (by decide) _) hl
    obtain ⟨X', g2, c', k1, k2, k3, k4⟩ := st_c5 (D := d) (E := e) (x := x) (x' := x') (V := V) (U := U) (L := L) (L' := L') (T := T) hh (by omega) (by omega) hw hT hn q rw1 u2 y4 y5 y6 y7 (by rw [f1 _ _ (by omega)]; exact g0) (by rw [f1 _ _ (by omega)]; exact g1') (by rw [f1 _ _ (by omega)]; exact g34) (by rw [f1 _ _ (by omega)]; exact g35) (by rw [f1 _ _ (by omega)]; exact g8) hz hst hQ hB hl2
    rw [e0, aI_o, if_pos rfl, e1, aI_o, if_pos rfl, e2, aI_o, if_pos rfl, e3, aI_o, if_pos rfl, e4, aI_o, if_pos rfl, eW, aI_o, if_neg (show ¬ i3 1 = i3 0 by decide), k1, u1, aI_o, if_neg (show ¬ i3 5 = m1 by decide), k2]
    exact ⟨X', g2, c', rfl, rfl, tr g1 X' g2 c' f1 k3, k4⟩
  · have e0 : sm_cv0 d 140 342 (RR V) [.ref 2, .ref 4117] (x, X2, L) = oI (i3 0) x X2 L := eN140 (by omega) r2 t_to n0
    have e1 : sm_cv0 d 140 342 (RR V) [.ref 2, .ref 4121] (x, X2, L) = oI (i3 0) x X2 L := eN140 (by omega) r2 t_wait n1
    have e2 : sm_cv0 d 140 342 (RR V) [.ref 2, .ref 4099] (x, X2, L) = oI (i3 0) x X2 L := eN140 (by omega) r2 t_call n2
    have e3 : sm_cv0 d 140 342 (RR V) [.ref 2, .ref 4097] (x, X2, L) = oI (i3 0) x X2 L := eN140 (by omega) r2 t_again n3
    have e4 : sm_cv0 d 140 342 (RR V) [.ref 2, .ref 4120] (x, X2, L) = oI (i3 0) x X2 L := eN140 (by omega) r2 t_until n4
    have e5 : sm_cv0 d 140 342 (RR V) [.ref 2, .ref 4104] (x, X2, L) = oI (i3 0) x X2 L := eN140 (by omega) r2 t_if n5
    obtain ⟨g1, u1, u2, f1⟩ := s_240_none (E := e) (x' := x') (U := U) (L' := L') (by omega) hm q ⟨n0, n1, n2, n3, n4, n5⟩
    obtain ⟨X3, b1, b2, b3⟩ := s_142 (D := d) (x := x) (V := V) (L := L) (k := 1) (by omega) r2 (by omega) (by omega)
    rw [rfS_wd q] at b3
    obtain ⟨X4, d1, d2, d3⟩ := s_145 (D := d) (x := x) (V := V) (L := L) (ch := 59) (by omega) b3 (by omega)
    rw [show sgS B n 59 (1, c.2.2 + 1, c.2.2) = (1, c.2.2 + 1, c.2.2) from if_neg (by show ¬ (1 : Nat) = 0; omega)] at d3
    obtain ⟨t1, t2, _⟩ := u2.at q
    obtain ⟨e', rfl⟩ : ∃ e', e = e' + 1 := ⟨e - 1, by omega⟩
    obtain ⟨g2, v1, v2, v3, _⟩ := s_229 (d := e') (x := x') (V := U) (L := L') (k := 1) (s := c.2.2) u2.M (by omega) (by omega) t2
    rw [if_pos q] at v3
    rw [e0, aI_o, if_pos rfl, e1, aI_o, if_pos rfl, e2, aI_o, if_pos rfl, e3, aI_o, if_pos rfl, e4, aI_o, if_pos rfl, e5, aI_o, if_pos rfl, b1, aV_o, h_171_154, d1, aV_o, u1, aI_o, if_pos rfl, t1, v1, aV_o, h_239_19, v3.2.2.2.1, if_neg (show ¬ i3 1 = i3 0 by decide)]
    exact ⟨X4, g2, (1, c.2.2 + 1, c.2.2), rfl, rfl, ⟨d3, v3, fX.tr0 ((b2.W (by omega)).tr0 (d2.W (by omega))), (f1.tr v2).W, ⟨z, Nat.le_refl _, by omega, by rw [d2 _ _ (by omega), b2 _ _ (by omega)]; exact y4⟩, fun y => absurd y (by show ¬ (1 : Nat) = 0; omega)⟩, fun y => absurd y (by show ¬ (1 : Nat) = 0; omega)⟩
theorem steps_all : ∀ m h, h + m = 6 → StepP h ∧ BlockP h := by
  intro m
  induction m with
  | zero =>
    intro h hm
    have hb := block_ok (h := h) (by omega) (fun y => absurd y (by omega))
    exact ⟨step_ok (by omega) hb, hb⟩
  | succ m ih =>
    intro h hm
    have hb := block_ok (h := h) (by omega) (fun _ => (ih (h + 1) (by omega)).1)
    exact ⟨step_ok (by omega) hb, hb⟩
theorem step_0 : StepP 0 := (steps_all 6 0 rfl).1
