/-! wills: a step's parts -/
/-- kept out of sight -/
def Lz (P : Prop) : Prop := P
theorem Lz.mk {P : Prop} (h : P) : Lz P := h
theorem Lz.get {P : Prop} (h : Lz P) : P := h
theorem rW.keep {G G' : sm_G} {B : Nat → Nat} {n : Nat} {c : St} (h : rW G B n c) (f : ∀ r k, r = 2 ∨ r = 3 → G' r k = G r k) : rW G' B n c := by
  obtain ⟨h1, h2, h3, h4, h5, h6⟩ := h
  refine ⟨h1.keep (fun r k a => f r k (by omega)), h2, h3, by rw [f _ _ (by omega)]; exact h4, by rw [f _ _ (by omega)]; exact h5, fun q => ?_⟩
  rw [f 2 3 (by omega), f 2 4 (by omega), f 2 5 (by omega)]
  exact h6 q
/-- a deed put, where the row may be full -/
theorem s_172i {D x w z : Nat} {V : pV} {G : sm_G} {L : sm_L} {v1 v2 v3 : Int32} (hD0 : 1 ≤ D) (hw : pW w) (h4 : G w 4 = i3 z) (hz : z ≤ 40) : ∃ G' i, sm_cv0 D 172 342 (RR V) [.ref w, .int v1, .int v2, .int v3] (x, G, L) = oI (i3 i) x G' L ∧ i < 40 ∧ z ≤ i + 1 ∧ G' w 4 = i3 (i + 1) ∧ (z < 40 → i = z ∧ G' (w + 1) z = v1 ∧ G' (w + 2) z = v2 ∧ G' (w + 3) z = i3 0 ∧ G' (w + 4) z = v3) ∧ ∀ r k, ¬ (w < r ∧ r < w + 5 ∧ k = z) → ¬ (r = w ∧ k = 4) → G' r k = G r k := by
  by_cases q : z < 40
  · obtain ⟨G', i, e1, e2, e3, e4, e5⟩ := s_172 (D := D) (x := x) (V := V) (L := L) (v1 := v1) (v2 := v2) (v3 := v3) hD0 hw h4 hz
    exact ⟨G', i, e1, e2, by have := (e4 q).1; omega, e3, e4, e5⟩
  · obtain ⟨d, rfl⟩ : ∃ d, D = d + 1 := ⟨D - 1, by omega⟩
    have hwl := pW_lt hw
    rw [m_172 hw]
    simp only [up_o (show 0 < 1 by omega), up_o (show 0 < 2 by omega), up_o (show 0 < 3 by omega), up_o (show 0 < 4 by omega), h4]
    rw [if_neg (by rw [i3_lt (by omega) (by omega)]; exact q), i3_sub (by omega), show z - 1 = 39 by omega]
    exact ⟨G, 39, rfl, by omega, by omega, by rw [h4, show z = 39 + 1 by omega], fun y => absurd y q, fun _ _ _ _ => rfl⟩
/-- blocks that are not begun -/
theorem f_174 {D x w h : Nat} {V : pV} {X : sm_G} {L : sm_L} {B : Nat → Nat} {n : Nat} {c : St} (hD0 : 7 ≤ D) (hw : pW w) (hr : rC X B n c) (q : c.1 ≠ 0) : ∃ X', sm_cv0 D 174 342 (RR V) [.ref w, .ref 2, .int (i3 h)] (x, X, L) = oV x X' L ∧ tF X X' ∧ rC X' B n c := by
  obtain ⟨d, rfl⟩ : ∃ d, D = d + 7 := ⟨D - 7, by omega⟩
  have e5 := s_135b (d := d + 5) (x := x) (V := V) (L := L) hr.2.1 hr.2.2.2.1
  rw [if_neg q] at e5
  obtain ⟨X1, c1, c2, c3⟩ := s_145 (D := d + 6) (x := x) (V := V) (L := L) (ch := 91) (by omega) hr (by omega)
  rw [show sgS B n 91 c = c from if_neg q] at c3
  obtain ⟨X', u1, u2, u3⟩ := blkF_c (D := d + 6) (x := x) (V := V) (L := L) (h := h) (i := 0) (by omega) hw c3 q (by omega)
  rw [m_174 hw, e5, aI_o, if_neg (show ¬ i3 1 = i3 0 by decide), h_174_31 hw, c1, aV_o]
  exact ⟨X', u1, c2.tr u2, u3⟩
theorem f_243 {E x' : Nat} {U : pV} {g : sm_G} {L' : sm_L} {B : Nat → Nat} {n : Nat} {c : St} (hE0 : 7 ≤ E) (hm : rM g B n c) (q : c.1 ≠ 0) : sm_cv0 E 243 342 (RR U) [.ref 156] (x', g, L') = oV x' g L' := by
  obtain ⟨e, rfl⟩ : ∃ e, E = e + 7 := ⟨E - 7, by omega⟩
  have := hm.2.1
  rw [m_243, hm.2.2.2.1, if_neg (by rw [i3_eq (by omega) (by omega)]; exact q)]
  first | done | (rw [h_243_55, hm.2.2.2.1, if_neg (by rw [i3_eq (by omega) (by omega)]; exact q)])
/-- a block, from whatever state -/
theorem blockA {h : Nat} (hB : BlockP h) {D E x x' : Nat} {V U : pV} {L L' : sm_L} {B : Nat → Nat} {n : Nat} {T : pT} {w : Nat} {c : St} {X g : sm_G} {st z Q : Nat} (hD0 : 3 * (7 - h) + 10 ≤ D) (hE0 : 2 * (7 - h) + 11 ≤ E) (hw : pW w) (hT : okT T) (hn : n ≤ 150) (hr : rC X B n c) (hm : rM g B n c) (h4 : X w 4 = i3 z) (hz : z ≤ 40) (J : c.1 = 0 → jI X g B n c w T h st z Q ∧ 4 * z ≤ c.2.2 ∧ 4 * st ≤ c.2.2 ∧ Q ≤ st) :
    ∃ X' g' c', sm_cv0 D 174 342 (RR V) [.ref w, .ref 2, .int (i3 h)] (x, X, L) = oV x X' L ∧ sm_cv0 E 243 342 (RR U) [.ref 156] (x', g, L') = oV x' g' L' ∧ jO X g X' g' B n c c' w T (h + 1) h 2 st z Q ∧ (c'.1 = 0 → c.1 = 0 ∧ h < 6) := by
  by_cases q : c.1 = 0
  · obtain ⟨j1, j2, j3, j4⟩ := J q
    obtain ⟨X', g', c', e1, e2, e3, e4⟩ := hB D E x x' V U L L' B n T w c X g st z Q hD0 hE0 hw hT hn q j1 j2 j3 j4
    exact ⟨X', g', c', e1, e2, e3, fun y => ⟨q, e4 y⟩⟩
  · have hwl := pW_lt hw
    obtain ⟨X', u1, u2, u3⟩ := f_174 (D := D) (x := x) (V := V) (L := L) (h := h) (by omega) hw hr q
    exact ⟨X', g, c, u1, f_243 (by omega) hm q, ⟨u3, hm, u2.W (by omega), mF_o.W, ⟨z, Nat.le_refl _, hz, by rw [u2 _ _ (by omega)]; exact h4⟩, fun y => absurd y q⟩, fun y => absurd y q⟩
/-- which step a word begins -/
theorem swd_all (l : List Nat) : l = w_to ∨ l = w_wait ∨ l = w_call ∨ l = w_again ∨ l = w_until ∨ l = w_if ∨ (l ≠ w_to ∧ l ≠ w_wait ∧ l ≠ w_call ∧ l ≠ w_again ∧ l ≠ w_until ∧ l ≠ w_if) := by
  by_cases h1 : l = w_to
  · exact Or.inl h1
  by_cases h2 : l = w_wait
  · exact Or.inr (Or.inl h2)
  by_cases h3 : l = w_call
  · exact Or.inr (Or.inr (Or.inl h3))
  by_cases h4 : l = w_again
  · exact Or.inr (Or.inr (Or.inr (Or.inl h4)))
  by_cases h5 : l = w_until
  · exact Or.inr (Or.inr (Or.inr (Or.inr (Or.inl h5))))
  by_cases h6 : l = w_if
  · exact Or.inr (Or.inr (Or.inr (Or.inr (Or.inr (Or.inl h6)))))
  exact Or.inr (Or.inr (Or.inr (Or.inr (Or.inr (Or.inr ⟨h1, h2, h3, h4, h5, h6⟩)))))
/-- the model's step: the word read and the number behind it -/
theorem s_240_to {E x' : Nat} {U : pV} {g : sm_G} {L' : sm_L} {B : Nat → Nat} {n : Nat} {c : St} (hE0 : 5 ≤ E) (hm : rM g B n c) (q : c.1 = 0) (hl : wl B n c.2.2 = w_to) : ∃ g', sm_cv0 E 240 342 (RR U) [.ref 156] (x', g, L') = oI (i3 0) x' g' L' ∧ rE g' B n c ∧ mF g g' := by
  obtain ⟨e, rfl⟩ : ∃ e, E = e + 1 := ⟨E - 1, by omega⟩
  obtain ⟨g0, u0, r0, f0⟩ := s_225 (D := e) (x := x') (V := U) (L := L') (by omega) hm v_to
  rw [m_240, u0, aI_o, if_pos (⟨q, hl⟩ : c.1 = 0 ∧ wl B n c.2.2 = w_to), if_neg (show ¬ i3 1 = i3 0 by decide)]
  exact ⟨g0, rfl, r0, f0⟩
theorem s_240_wait {E x' : Nat} {U : pV} {g : sm_G} {L' : sm_L} {B : Nat → Nat} {n : Nat} {c : St} (hE0 : 5 ≤ E) (hm : rM g B n c) (q : c.1 = 0) (hl : wl B n c.2.2 = w_wait) : ∃ g', sm_cv0 E 240 342 (RR U) [.ref 156] (x', g, L') = oI (i3 1) x' g' L' ∧ rE g' B n c ∧ mF g g' := by
  obtain ⟨e, rfl⟩ : ∃ e, E = e + 1 := ⟨E - 1, by omega⟩
  obtain ⟨g0, u0, r0, f0⟩ := s_225 (D := e) (x := x') (V := U) (L := L') (by omega) hm v_to
  obtain ⟨g1, u1, r1, f1⟩ := s_225 (D := e) (x := x') (V := U) (L := L') (by omega) r0.M v_wait
  rw [m_240, u0, aI_o, if_neg (fun y : c.1 = 0 ∧ wl B n c.2.2 = w_to => absurd (hl.symm.trans y.2) (by decide)), if_pos rfl, u1, aI_o, if_pos (⟨q, hl⟩ : c.1 = 0 ∧ wl B n c.2.2 = w_wait), if_neg (show ¬ i3 1 = i3 0 by decide)]
  exact ⟨g1, rfl, r1, (f0.tr f1)⟩
theorem s_240_call {E x' : Nat} {U : pV} {g : sm_G} {L' : sm_L} {B : Nat → Nat} {n : Nat} {c : St} (hE0 : 5 ≤ E) (hm : rM g B n c) (q : c.1 = 0) (hl : wl B n c.2.2 = w_call) : ∃ g', sm_cv0 E 240 342 (RR U) [.ref 156] (x', g, L') = oI (i3 2) x' g' L' ∧ rE g' B n c ∧ mF g g' := by
  obtain ⟨e, rfl⟩ : ∃ e, E = e + 1 := ⟨E - 1, by omega⟩
  obtain ⟨g0, u0, r0, f0⟩ := s_225 (D := e) (x := x') (V := U) (L := L') (by omega) hm v_to
  obtain ⟨g1, u1, r1, f1⟩ := s_225 (D := e) (x := x') (V := U) (L := L') (by omega) r0.M v_wait
  obtain ⟨g2, u2, r2, f2⟩ := s_225 (D := e) (x := x') (V := U) (L := L') (by omega) r1.M v_call
  rw [m_240, u0, aI_o, if_neg (fun y : c.1 = 0 ∧ wl B n c.2.2 = w_to => absurd (hl.symm.trans y.2) (by decide)), if_pos rfl, u1, aI_o, if_neg (fun y : c.1 = 0 ∧ wl B n c.2.2 = w_wait => absurd (hl.symm.trans y.2) (by decide)), if_pos rfl, u2, aI_o, if_pos (⟨q, hl⟩ : c.1 = 0 ∧ wl B n c.2.2 = w_call), if_neg (show ¬ i3 1 = i3 0 by decide)]
  exact ⟨g2, rfl, r2, ((f0.tr f1).tr f2)⟩
theorem s_240_again {E x' : Nat} {U : pV} {g : sm_G} {L' : sm_L} {B : Nat → Nat} {n : Nat} {c : St} (hE0 : 5 ≤ E) (hm : rM g B n c) (q : c.1 = 0) (hl : wl B n c.2.2 = w_again) : ∃ g', sm_cv0 E 240 342 (RR U) [.ref 156] (x', g, L') = oI (i3 3) x' g' L' ∧ rE g' B n c ∧ mF g g' := by
  obtain ⟨e, rfl⟩ : ∃ e, E = e + 1 := ⟨E - 1, by omega⟩
  obtain ⟨g0, u0, r0, f0⟩ := s_225 (D := e) (x := x') (V := U) (L := L') (by omega) hm v_to
  obtain ⟨g1, u1, r1, f1⟩ := s_225 (D := e) (x := x') (V := U) (L := L') (by omega) r0.M v_wait
  obtain ⟨g2, u2, r2, f2⟩ := s_225 (D := e) (x := x') (V := U) (L := L') (by omega) r1.M v_call
  obtain ⟨g3, u3, r3, f3⟩ := s_225 (D := e) (x := x') (V := U) (L := L') (by omega) r2.M v_again
  rw [m_240, u0, aI_o, if_neg (fun y : c.1 = 0 ∧ wl B n c.2.2 = w_to => absurd (hl.symm.trans y.2) (by decide)), if_pos rfl, u1, aI_o, if_neg (fun y : c.1 = 0 ∧ wl B n c.2.2 = w_wait => absurd (hl.symm.trans y.2) (by decide)), if_pos rfl, u2, aI_o, if_neg (fun y : c.1 = 0 ∧ wl B n c.2.2 = w_call => absurd (hl.symm.trans y.2) (by decide)), if_pos rfl, u3, aI_o, if_pos (⟨q, hl⟩ : c.1 = 0 ∧ wl B n c.2.2 = w_again), if_neg (show ¬ i3 1 = i3 0 by decide)]
  exact ⟨g3, rfl, r3, (((f0.tr f1).tr f2).tr f3)⟩
theorem s_240_until {E x' : Nat} {U : pV} {g : sm_G} {L' : sm_L} {B : Nat → Nat} {n : Nat} {c : St} (hE0 : 5 ≤ E) (hm : rM g B n c) (q : c.1 = 0) (hl : wl B n c.2.2 = w_until) : ∃ g', sm_cv0 E 240 342 (RR U) [.ref 156] (x', g, L') = oI (i3 4) x' g' L' ∧ rE g' B n c ∧ mF g g' := by
  obtain ⟨e, rfl⟩ : ∃ e, E = e + 1 := ⟨E - 1, by omega⟩
  obtain ⟨g0, u0, r0, f0⟩ := s_225 (D := e) (x := x') (V := U) (L := L') (by omega) hm v_to
  obtain ⟨g1, u1, r1, f1⟩ := s_225 (D := e) (x := x') (V := U) (L := L') (by omega) r0.M v_wait
  obtain ⟨g2, u2, r2, f2⟩ := s_225 (D := e) (x := x') (V := U) (L := L') (by omega) r1.M v_call
  obtain ⟨g3, u3, r3, f3⟩ := s_225 (D := e) (x := x') (V := U) (L := L') (by omega) r2.M v_again
  obtain ⟨g4, u4, r4, f4⟩ := s_225 (D := e) (x := x') (V := U) (L := L') (by omega) r3.M v_until
  rw [m_240, u0, aI_o, if_neg (fun y : c.1 = 0 ∧ wl B n c.2.2 = w_to => absurd (hl.symm.trans y.2) (by decide)), if_pos rfl, u1, aI_o, if_neg (fun y : c.1 = 0 ∧ wl B n c.2.2 = w_wait => absurd (hl.symm.trans y.2) (by decide)), if_pos rfl, u2, aI_o, if_neg (fun y : c.1 = 0 ∧ wl B n c.2.2 = w_call => absurd (hl.symm.trans y.2) (by decide)), if_pos rfl, u3, aI_o, if_neg (fun y : c.1 = 0 ∧ wl B n c.2.2 = w_again => absurd (hl.symm.trans y.2) (by decide)), if_pos rfl, u4, aI_o, if_pos (⟨q, hl⟩ : c.1 = 0 ∧ wl B n c.2.2 = w_until), if_neg (show ¬ i3 1 = i3 0 by decide)]
  exact ⟨g4, rfl, r4, ((((f0.tr f1).tr f2).tr f3).tr f4)⟩
theorem s_240_if {E x' : Nat} {U : pV} {g : sm_G} {L' : sm_L} {B : Nat → Nat} {n : Nat} {c : St} (hE0 : 5 ≤ E) (hm : rM g B n c) (q : c.1 = 0) (hl : wl B n c.2.2 = w_if) : ∃ g', sm_cv0 E 240 342 (RR U) [.ref 156] (x', g, L') = oI (i3 5) x' g' L' ∧ rE g' B n c ∧ mF g g' := by
  obtain ⟨e, rfl⟩ : ∃ e, E = e + 1 := ⟨E - 1, by omega⟩
  obtain ⟨g0, u0, r0, f0⟩ := s_225 (D := e) (x := x') (V := U) (L := L') (by omega) hm v_to
  obtain ⟨g1, u1, r1, f1⟩ := s_225 (D := e) (x := x') (V := U) (L := L') (by omega) r0.M v_wait
  obtain ⟨g2, u2, r2, f2⟩ := s_225 (D := e) (x := x') (V := U) (L := L') (by omega) r1.M v_call
  obtain ⟨g3, u3, r3, f3⟩ := s_225 (D := e) (x := x') (V := U) (L := L') (by omega) r2.M v_again
  obtain ⟨g4, u4, r4, f4⟩ := s_225 (D := e) (x := x') (V := U) (L := L') (by omega) r3.M v_until
  obtain ⟨g5, u5, r5, f5⟩ := s_225 (D := e) (x := x') (V := U) (L := L') (by omega) r4.M v_if
  rw [m_240, u0, aI_o, if_neg (fun y : c.1 = 0 ∧ wl B n c.2.2 = w_to => absurd (hl.symm.trans y.2) (by decide)), if_pos rfl, u1, aI_o, if_neg (fun y : c.1 = 0 ∧ wl B n c.2.2 = w_wait => absurd (hl.symm.trans y.2) (by decide)), if_pos rfl, u2, aI_o, if_neg (fun y : c.1 = 0 ∧ wl B n c.2.2 = w_call => absurd (hl.symm.trans y.2) (by decide)), if_pos rfl, u3, aI_o, if_neg (fun y : c.1 = 0 ∧ wl B n c.2.2 = w_again => absurd (hl.symm.trans y.2) (by decide)), if_pos rfl, u4, aI_o, if_neg (fun y : c.1 = 0 ∧ wl B n c.2.2 = w_until => absurd (hl.symm.trans y.2) (by decide)), if_pos rfl, u5, aI_o, if_pos (⟨q, hl⟩ : c.1 = 0 ∧ wl B n c.2.2 = w_if), if_neg (show ¬ i3 1 = i3 0 by decide)]
  exact ⟨g5, rfl, r5, (((((f0.tr f1).tr f2).tr f3).tr f4).tr f5)⟩
theorem s_240_none {E x' : Nat} {U : pV} {g : sm_G} {L' : sm_L} {B : Nat → Nat} {n : Nat} {c : St} (hE0 : 5 ≤ E) (hm : rM g B n c) (q : c.1 = 0) (hl : wl B n c.2.2 ≠ w_to ∧ wl B n c.2.2 ≠ w_wait ∧ wl B n c.2.2 ≠ w_call ∧ wl B n c.2.2 ≠ w_again ∧ wl B n c.2.2 ≠ w_until ∧ wl B n c.2.2 ≠ w_if) : ∃ g', sm_cv0 E 240 342 (RR U) [.ref 156] (x', g, L') = oI m1 x' g' L' ∧ rE g' B n c ∧ mF g g' := by
  obtain ⟨e, rfl⟩ : ∃ e, E = e + 1 := ⟨E - 1, by omega⟩
  obtain ⟨n0, n1, n2, n3, n4, n5⟩ := hl
  obtain ⟨g0, u0, r0, f0⟩ := s_225 (D := e) (x := x') (V := U) (L := L') (by omega) hm v_to
  obtain ⟨g1, u1, r1, f1⟩ := s_225 (D := e) (x := x') (V := U) (L := L') (by omega) r0.M v_wait
  obtain ⟨g2, u2, r2, f2⟩ := s_225 (D := e) (x := x') (V := U) (L := L') (by omega) r1.M v_call
  obtain ⟨g3, u3, r3, f3⟩ := s_225 (D := e) (x := x') (V := U) (L := L') (by omega) r2.M v_again
  obtain ⟨g4, u4, r4, f4⟩ := s_225 (D := e) (x := x') (V := U) (L := L') (by omega) r3.M v_until
  obtain ⟨g5, u5, r5, f5⟩ := s_225 (D := e) (x := x') (V := U) (L := L') (by omega) r4.M v_if
  rw [m_240, u0, aI_o, if_neg (fun y : c.1 = 0 ∧ wl B n c.2.2 = w_to => n0 y.2), if_pos rfl, u1, aI_o, if_neg (fun y : c.1 = 0 ∧ wl B n c.2.2 = w_wait => n1 y.2), if_pos rfl, u2, aI_o, if_neg (fun y : c.1 = 0 ∧ wl B n c.2.2 = w_call => n2 y.2), if_pos rfl, u3, aI_o, if_neg (fun y : c.1 = 0 ∧ wl B n c.2.2 = w_again => n3 y.2), if_pos rfl, u4, aI_o, if_neg (fun y : c.1 = 0 ∧ wl B n c.2.2 = w_until => n4 y.2), if_pos rfl, u5, aI_o, if_neg (fun y : c.1 = 0 ∧ wl B n c.2.2 = w_if => n5 y.2), if_pos rfl]
  exact ⟨g5, rfl, r5, (((((f0.tr f1).tr f2).tr f3).tr f4).tr f5)⟩
theorem mh_0 {E x' st : Nat} {U : pV} {g : sm_G} {L' : sm_L} {B : Nat → Nat} {n : Nat} {c : St} {T : pT} (hE0 : 4 ≤ E) (hr : rE g B n c) (q : c.1 = 0) (h34 : g 156 34 = i3 st) (hst : st < 70) (hT : sl T ≤ 8) (h0 : g 160 0 = i3 (sl T)) : ∃ g', hD E 239 19 [.ref 156, .int (i3 0), .null] 342 (RR U) x' g L' = hD E 239 128 [.ref 156, .int (i3 0), .int (i3 (5 * st))] 342 (RR U) x' g' L' ∧ rM g' B n (nuS B n 0 (sl T) (0, 0, sk B n (we B n c.2.2))).2 ∧ g' 156 34 = i3 (st + 1) ∧ g' 303 (5 * st) = i3 0 ∧ g' 303 (5 * st + 1) = i3 (nuS B n 0 (sl T) (0, 0, sk B n (we B n c.2.2))).1 ∧ ∀ r j, ¬ (r = 156 ∧ ((4 ≤ j ∧ j ≤ 6) ∨ j = 34)) → ¬ (r = 303 ∧ 5 * st ≤ j) → g' r j = g r j := by
  obtain ⟨g1, e1, f1, r1⟩ := s_231 (D := E) (x := x') (V := U) (L := L') (by omega) hr q
  have h341 : g1 156 34 = i3 st := by rw [f1 _ _ (by omega)]; exact h34
  have a0 : i3 5 * i3 st = i3 (5 * st) := i3_mul 5 st
  have a1 : i3 (5 * st) + i3 1 = i3 (5 * st + 1) := i3_add _ 1
  have a2 : i3 st + i3 1 = i3 (st + 1) := i3_add st 1
  have b0 : sm_in (i3 (5 * st)) 400 = true := i3_in (by omega) (by omega)
  have b1 : sm_in (i3 (5 * st + 1)) 400 = true := i3_in (by omega) (by omega)
  have d0 : (i3 (5 * st)).toNatClampNeg = 5 * st := i3_cl (by omega)
  have d1 : (i3 (5 * st + 1)).toNatClampNeg = 5 * st + 1 := i3_cl (by omega)
  rw [h_239_19, hr.2.2.2.1, if_pos (by rw [q]), e1, aV_o, h341, a0, a1, a2, b0, b1, gd_tt, d0, d1, if_pos rfl]
  have u : ∀ r j, ¬ (r = 156 ∧ j = 34) → ¬ (r = 303 ∧ j = 5 * st) → sm_up (sm_up g1 156 34 (i3 (st + 1))) 303 (5 * st) (i3 0) r j = g1 r j := fun r j y1 y2 => by rw [sm_up_ne (by omega), sm_up_ne (by omega)]
  have u34 : sm_up (sm_up g1 156 34 (i3 (st + 1))) 303 (5 * st) (i3 0) 156 34 = i3 (st + 1) := by rw [sm_up_ne (by omega), sm_up_same]
  have u303 : sm_up (sm_up g1 156 34 (i3 (st + 1))) 303 (5 * st) (i3 0) 303 (5 * st) = i3 0 := sm_up_same _ _ _ _
  rw [u 160 0 (by omega) (by omega), f1 160 0 (by omega), h0]
  generalize sm_up (sm_up g1 156 34 (i3 (st + 1))) 303 (5 * st) (i3 0) = g2 at *
  have r2 : rM g2 B n (0, 0, sk B n (we B n c.2.2)) := r1.keep (fun r j y => u r j (by omega) (by omega))
  obtain ⟨g3, v1, v2, v3⟩ := nuM (D := E) (x := x') (V := U) (L := L') 0 (sl T) (by omega) r2 (by omega) (by omega) rfl (pre_mi3 (by omega))
  rw [v1, aI_o, gd_tt]
  refine ⟨_, rfl, v3.keep (fun r j y => sm_up_ne (by omega)), ?_, ?_, sm_up_same _ _ _ _, fun r j y1 y2 => ?_⟩
  · rw [sm_up_ne (by omega), v2 _ _ (by omega)]; exact u34
  · rw [sm_up_ne (by omega), v2 _ _ (by omega)]; exact u303
  · rw [sm_up_ne (by omega), v2 _ _ (by omega), u _ _ (by omega) (by omega)]; exact f1 r j (by omega)
theorem mh_1 {E x' st : Nat} {U : pV} {g : sm_G} {L' : sm_L} {B : Nat → Nat} {n : Nat} {c : St} (hE0 : 4 ≤ E) (hr : rE g B n c) (q : c.1 = 0) (h34 : g 156 34 = i3 st) (hst : st < 70) : ∃ g', hD E 239 19 [.ref 156, .int (i3 1), .null] 342 (RR U) x' g L' = hD E 239 128 [.ref 156, .int (i3 1), .int (i3 (5 * st))] 342 (RR U) x' g' L' ∧ rM g' B n (nuS B n 1 100 (0, 0, sk B n (we B n c.2.2))).2 ∧ g' 156 34 = i3 (st + 1) ∧ g' 303 (5 * st) = i3 1 ∧ g' 303 (5 * st + 1) = i3 (nuS B n 1 100 (0, 0, sk B n (we B n c.2.2))).1 ∧ ∀ r j, ¬ (r = 156 ∧ ((4 ≤ j ∧ j ≤ 6) ∨ j = 34)) → ¬ (r = 303 ∧ 5 * st ≤ j) → g' r j = g r j := by
  obtain ⟨g1, e1, f1, r1⟩ := s_231 (D := E) (x := x') (V := U) (L := L') (by omega) hr q
  have h341 : g1 156 34 = i3 st := by rw [f1 _ _ (by omega)]; exact h34
  have a0 : i3 5 * i3 st = i3 (5 * st) := i3_mul 5 st
  have a1 : i3 (5 * st) + i3 1 = i3 (5 * st + 1) := i3_add _ 1
  have a2 : i3 st + i3 1 = i3 (st + 1) := i3_add st 1
  have b0 : sm_in (i3 (5 * st)) 400 = true := i3_in (by omega) (by omega)
  have b1 : sm_in (i3 (5 * st + 1)) 400 = true := i3_in (by omega) (by omega)
  have d0 : (i3 (5 * st)).toNatClampNeg = 5 * st := i3_cl (by omega)
  have d1 : (i3 (5 * st + 1)).toNatClampNeg = 5 * st + 1 := i3_cl (by omega)
  rw [h_239_19, hr.2.2.2.1, if_pos (by rw [q]), e1, aV_o, h341, a0, a1, a2, b0, b1, gd_tt, d0, d1, if_neg (show ¬ i3 1 = i3 0 by decide), if_pos rfl]
  have u : ∀ r j, ¬ (r = 156 ∧ j = 34) → ¬ (r = 303 ∧ j = 5 * st) → sm_up (sm_up g1 156 34 (i3 (st + 1))) 303 (5 * st) (i3 1) r j = g1 r j := fun r j y1 y2 => by rw [sm_up_ne (by omega), sm_up_ne (by omega)]
  have u34 : sm_up (sm_up g1 156 34 (i3 (st + 1))) 303 (5 * st) (i3 1) 156 34 = i3 (st + 1) := by rw [sm_up_ne (by omega), sm_up_same]
  have u303 : sm_up (sm_up g1 156 34 (i3 (st + 1))) 303 (5 * st) (i3 1) 303 (5 * st) = i3 1 := sm_up_same _ _ _ _
  generalize sm_up (sm_up g1 156 34 (i3 (st + 1))) 303 (5 * st) (i3 1) = g2 at *
  have r2 : rM g2 B n (0, 0, sk B n (we B n c.2.2)) := r1.keep (fun r j y => u r j (by omega) (by omega))
  obtain ⟨g3, v1, v2, v3⟩ := nuM (D := E) (x := x') (V := U) (L := L') 1 100 (by omega) r2 (by omega) (by omega) rfl (mi_99)
  rw [v1, aI_o, gd_tt]
  refine ⟨_, rfl, v3.keep (fun r j y => sm_up_ne (by omega)), ?_, ?_, sm_up_same _ _ _ _, fun r j y1 y2 => ?_⟩
  · rw [sm_up_ne (by omega), v2 _ _ (by omega)]; exact u34
  · rw [sm_up_ne (by omega), v2 _ _ (by omega)]; exact u303
  · rw [sm_up_ne (by omega), v2 _ _ (by omega), u _ _ (by omega) (by omega)]; exact f1 r j (by omega)
theorem mh_2 {E x' st : Nat} {U : pV} {g : sm_G} {L' : sm_L} {B : Nat → Nat} {n : Nat} {c : St} (hE0 : 4 ≤ E) (hr : rE g B n c) (q : c.1 = 0) (h34 : g 156 34 = i3 st) (hst : st < 70) : ∃ g', hD E 239 19 [.ref 156, .int (i3 2), .null] 342 (RR U) x' g L' = hD E 239 128 [.ref 156, .int (i3 2), .int (i3 (5 * st))] 342 (RR U) x' g' L' ∧ rM g' B n (nuS B n 0 6 (0, 0, sk B n (we B n c.2.2))).2 ∧ g' 156 34 = i3 (st + 1) ∧ g' 303 (5 * st) = i3 2 ∧ g' 303 (5 * st + 1) = i3 (nuS B n 0 6 (0, 0, sk B n (we B n c.2.2))).1 ∧ ∀ r j, ¬ (r = 156 ∧ ((4 ≤ j ∧ j ≤ 6) ∨ j = 34)) → ¬ (r = 303 ∧ 5 * st ≤ j) → g' r j = g r j := by
  obtain ⟨g1, e1, f1, r1⟩ := s_231 (D := E) (x := x') (V := U) (L := L') (by omega) hr q
  have h341 : g1 156 34 = i3 st := by rw [f1 _ _ (by omega)]; exact h34
  have a0 : i3 5 * i3 st = i3 (5 * st) := i3_mul 5 st
  have a1 : i3 (5 * st) + i3 1 = i3 (5 * st + 1) := i3_add _ 1
  have a2 : i3 st + i3 1 = i3 (st + 1) := i3_add st 1
  have b0 : sm_in (i3 (5 * st)) 400 = true := i3_in (by omega) (by omega)
  have b1 : sm_in (i3 (5 * st + 1)) 400 = true := i3_in (by omega) (by omega)
  have d0 : (i3 (5 * st)).toNatClampNeg = 5 * st := i3_cl (by omega)
  have d1 : (i3 (5 * st + 1)).toNatClampNeg = 5 * st + 1 := i3_cl (by omega)
  rw [h_239_19, hr.2.2.2.1, if_pos (by rw [q]), e1, aV_o, h341, a0, a1, a2, b0, b1, gd_tt, d0, d1, if_neg (show ¬ i3 2 = i3 0 by decide), if_neg (show ¬ i3 2 = i3 1 by decide), if_pos rfl]
  have u : ∀ r j, ¬ (r = 156 ∧ j = 34) → ¬ (r = 303 ∧ j = 5 * st) → sm_up (sm_up g1 156 34 (i3 (st + 1))) 303 (5 * st) (i3 2) r j = g1 r j := fun r j y1 y2 => by rw [sm_up_ne (by omega), sm_up_ne (by omega)]
  have u34 : sm_up (sm_up g1 156 34 (i3 (st + 1))) 303 (5 * st) (i3 2) 156 34 = i3 (st + 1) := by rw [sm_up_ne (by omega), sm_up_same]
  have u303 : sm_up (sm_up g1 156 34 (i3 (st + 1))) 303 (5 * st) (i3 2) 303 (5 * st) = i3 2 := sm_up_same _ _ _ _
  generalize sm_up (sm_up g1 156 34 (i3 (st + 1))) 303 (5 * st) (i3 2) = g2 at *
  have r2 : rM g2 B n (0, 0, sk B n (we B n c.2.2)) := r1.keep (fun r j y => u r j (by omega) (by omega))
  obtain ⟨g3, v1, v2, v3⟩ := nuM (D := E) (x := x') (V := U) (L := L') 0 6 (by omega) r2 (by omega) (by omega) rfl (mi_5)
  rw [v1, aI_o, gd_tt]
  refine ⟨_, rfl, v3.keep (fun r j y => sm_up_ne (by omega)), ?_, ?_, sm_up_same _ _ _ _, fun r j y1 y2 => ?_⟩
  · rw [sm_up_ne (by omega), v2 _ _ (by omega)]; exact u34
  · rw [sm_up_ne (by omega), v2 _ _ (by omega)]; exact u303
  · rw [sm_up_ne (by omega), v2 _ _ (by omega), u _ _ (by omega) (by omega)]; exact f1 r j (by omega)
theorem mh_3 {E x' st : Nat} {U : pV} {g : sm_G} {L' : sm_L} {B : Nat → Nat} {n : Nat} {c : St} (hE0 : 4 ≤ E) (hr : rE g B n c) (q : c.1 = 0) (h34 : g 156 34 = i3 st) (hst : st < 70) : ∃ g', hD E 239 19 [.ref 156, .int (i3 3), .null] 342 (RR U) x' g L' = hD E 239 128 [.ref 156, .int (i3 3), .int (i3 (5 * st))] 342 (RR U) x' g' L' ∧ rM g' B n (nuS B n 0 21 (0, 0, sk B n (we B n c.2.2))).2 ∧ g' 156 34 = i3 (st + 1) ∧ g' 303 (5 * st) = i3 3 ∧ g' 303 (5 * st + 1) = i3 (nuS B n 0 21 (0, 0, sk B n (we B n c.2.2))).1 ∧ ∀ r j, ¬ (r = 156 ∧ ((4 ≤ j ∧ j ≤ 6) ∨ j = 34)) → ¬ (r = 303 ∧ 5 * st ≤ j) → g' r j = g r j := by
  obtain ⟨g1, e1, f1, r1⟩ := s_231 (D := E) (x := x') (V := U) (L := L') (by omega) hr q
  have h341 : g1 156 34 = i3 st := by rw [f1 _ _ (by omega)]; exact h34
  have a0 : i3 5 * i3 st = i3 (5 * st) := i3_mul 5 st
  have a1 : i3 (5 * st) + i3 1 = i3 (5 * st + 1) := i3_add _ 1
  have a2 : i3 st + i3 1 = i3 (st + 1) := i3_add st 1
  have b0 : sm_in (i3 (5 * st)) 400 = true := i3_in (by omega) (by omega)
  have b1 : sm_in (i3 (5 * st + 1)) 400 = true := i3_in (by omega) (by omega)
  have d0 : (i3 (5 * st)).toNatClampNeg = 5 * st := i3_cl (by omega)
  have d1 : (i3 (5 * st + 1)).toNatClampNeg = 5 * st + 1 := i3_cl (by omega)
  rw [h_239_19, hr.2.2.2.1, if_pos (by rw [q]), e1, aV_o, h341, a0, a1, a2, b0, b1, gd_tt, d0, d1, if_neg (show ¬ i3 3 = i3 0 by decide), if_neg (show ¬ i3 3 = i3 1 by decide), if_neg (show ¬ i3 3 = i3 2 by decide), if_pos rfl]
  have u : ∀ r j, ¬ (r = 156 ∧ j = 34) → ¬ (r = 303 ∧ j = 5 * st) → sm_up (sm_up g1 156 34 (i3 (st + 1))) 303 (5 * st) (i3 3) r j = g1 r j := fun r j y1 y2 => by rw [sm_up_ne (by omega), sm_up_ne (by omega)]
  have u34 : sm_up (sm_up g1 156 34 (i3 (st + 1))) 303 (5 * st) (i3 3) 156 34 = i3 (st + 1) := by rw [sm_up_ne (by omega), sm_up_same]
  have u303 : sm_up (sm_up g1 156 34 (i3 (st + 1))) 303 (5 * st) (i3 3) 303 (5 * st) = i3 3 := sm_up_same _ _ _ _
  generalize sm_up (sm_up g1 156 34 (i3 (st + 1))) 303 (5 * st) (i3 3) = g2 at *
  have r2 : rM g2 B n (0, 0, sk B n (we B n c.2.2)) := r1.keep (fun r j y => u r j (by omega) (by omega))
  obtain ⟨g3, v1, v2, v3⟩ := nuM (D := E) (x := x') (V := U) (L := L') 0 21 (by omega) r2 (by omega) (by omega) rfl (mi_20)
  rw [v1, aI_o, gd_tt]
  refine ⟨_, rfl, v3.keep (fun r j y => sm_up_ne (by omega)), ?_, ?_, sm_up_same _ _ _ _, fun r j y1 y2 => ?_⟩
  · rw [sm_up_ne (by omega), v2 _ _ (by omega)]; exact u34
  · rw [sm_up_ne (by omega), v2 _ _ (by omega)]; exact u303
  · rw [sm_up_ne (by omega), v2 _ _ (by omega), u _ _ (by omega) (by omega)]; exact f1 r j (by omega)
theorem mh_4 {E x' st : Nat} {U : pV} {g : sm_G} {L' : sm_L} {B : Nat → Nat} {n : Nat} {c : St} (hE0 : 4 ≤ E) (hr : rE g B n c) (q : c.1 = 0) (h34 : g 156 34 = i3 st) (hst : st < 70) : ∃ g', hD E 239 19 [.ref 156, .int (i3 4), .null] 342 (RR U) x' g L' = hD E 239 128 [.ref 156, .int (i3 4), .int (i3 (5 * st))] 342 (RR U) x' g' L' ∧ rM g' B n (0, 0, sk B n (we B n c.2.2)) ∧ g' 156 34 = i3 (st + 1) ∧ g' 303 (5 * st) = i3 4 ∧ g' 303 (5 * st + 1) = i3 0 ∧ ∀ r j, ¬ (r = 156 ∧ ((4 ≤ j ∧ j ≤ 6) ∨ j = 34)) → ¬ (r = 303 ∧ 5 * st ≤ j) → g' r j = g r j := by
  obtain ⟨g1, e1, f1, r1⟩ := s_231 (D := E) (x := x') (V := U) (L := L') (by omega) hr q
  have h341 : g1 156 34 = i3 st := by rw [f1 _ _ (by omega)]; exact h34
  have a0 : i3 5 * i3 st = i3 (5 * st) := i3_mul 5 st
  have a1 : i3 (5 * st) + i3 1 = i3 (5 * st + 1) := i3_add _ 1
  have a2 : i3 st + i3 1 = i3 (st + 1) := i3_add st 1
  have b0 : sm_in (i3 (5 * st)) 400 = true := i3_in (by omega) (by omega)
  have b1 : sm_in (i3 (5 * st + 1)) 400 = true := i3_in (by omega) (by omega)
  have d0 : (i3 (5 * st)).toNatClampNeg = 5 * st := i3_cl (by omega)
  have d1 : (i3 (5 * st + 1)).toNatClampNeg = 5 * st + 1 := i3_cl (by omega)
  rw [h_239_19, hr.2.2.2.1, if_pos (by rw [q]), e1, aV_o, h341, a0, a1, a2, b0, b1, gd_tt, d0, d1, if_neg (show ¬ i3 4 = i3 0 by decide), if_neg (show ¬ i3 4 = i3 1 by decide), if_neg (show ¬ i3 4 = i3 2 by decide), if_neg (show ¬ i3 4 = i3 3 by decide)]
  have u : ∀ r j, ¬ (r = 156 ∧ j = 34) → ¬ (r = 303 ∧ j = 5 * st) → sm_up (sm_up g1 156 34 (i3 (st + 1))) 303 (5 * st) (i3 4) r j = g1 r j := fun r j y1 y2 => by rw [sm_up_ne (by omega), sm_up_ne (by omega)]
  have u34 : sm_up (sm_up g1 156 34 (i3 (st + 1))) 303 (5 * st) (i3 4) 156 34 = i3 (st + 1) := by rw [sm_up_ne (by omega), sm_up_same]
  have u303 : sm_up (sm_up g1 156 34 (i3 (st + 1))) 303 (5 * st) (i3 4) 303 (5 * st) = i3 4 := sm_up_same _ _ _ _
  generalize sm_up (sm_up g1 156 34 (i3 (st + 1))) 303 (5 * st) (i3 4) = g2 at *
  have r2 : rM g2 B n (0, 0, sk B n (we B n c.2.2)) := r1.keep (fun r j y => u r j (by omega) (by omega))
  refine ⟨_, rfl, r2.keep (fun r j y => sm_up_ne (by omega)), ?_, ?_, sm_up_same _ _ _ _, fun r j y1 y2 => ?_⟩
  · rw [sm_up_ne (by omega)]; exact u34
  · rw [sm_up_ne (by omega)]; exact u303
  · rw [sm_up_ne (by omega), u _ _ (by omega) (by omega)]; exact f1 r j (by omega)
theorem mh_5 {E x' st : Nat} {U : pV} {g : sm_G} {L' : sm_L} {B : Nat → Nat} {n : Nat} {c : St} (hE0 : 4 ≤ E) (hr : rE g B n c) (q : c.1 = 0) (h34 : g 156 34 = i3 st) (hst : st < 70) : ∃ g', hD E 239 19 [.ref 156, .int (i3 5), .null] 342 (RR U) x' g L' = hD E 239 128 [.ref 156, .int (i3 5), .int (i3 (5 * st))] 342 (RR U) x' g' L' ∧ rM g' B n (0, 0, sk B n (we B n c.2.2)) ∧ g' 156 34 = i3 (st + 1) ∧ g' 303 (5 * st) = i3 5 ∧ g' 303 (5 * st + 1) = i3 0 ∧ ∀ r j, ¬ (r = 156 ∧ ((4 ≤ j ∧ j ≤ 6) ∨ j = 34)) → ¬ (r = 303 ∧ 5 * st ≤ j) → g' r j = g r j := by
  obtain ⟨g1, e1, f1, r1⟩ := s_231 (D := E) (x := x') (V := U) (L := L') (by omega) hr q
  have h341 : g1 156 34 = i3 st := by rw [f1 _ _ (by omega)]; exact h34
  have a0 : i3 5 * i3 st = i3 (5 * st) := i3_mul 5 st
  have a1 : i3 (5 * st) + i3 1 = i3 (5 * st + 1) := i3_add _ 1
  have a2 : i3 st + i3 1 = i3 (st + 1) := i3_add st 1
  have b0 : sm_in (i3 (5 * st)) 400 = true := i3_in (by omega) (by omega)
  have b1 : sm_in (i3 (5 * st + 1)) 400 = true := i3_in (by omega) (by omega)
  have d0 : (i3 (5 * st)).toNatClampNeg = 5 * st := i3_cl (by omega)
  have d1 : (i3 (5 * st + 1)).toNatClampNeg = 5 * st + 1 := i3_cl (by omega)
  rw [h_239_19, hr.2.2.2.1, if_pos (by rw [q]), e1, aV_o, h341, a0, a1, a2, b0, b1, gd_tt, d0, d1, if_neg (show ¬ i3 5 = i3 0 by decide), if_neg (show ¬ i3 5 = i3 1 by decide), if_neg (show ¬ i3 5 = i3 2 by decide), if_neg (show ¬ i3 5 = i3 3 by decide)]
  have u : ∀ r j, ¬ (r = 156 ∧ j = 34) → ¬ (r = 303 ∧ j = 5 * st) → sm_up (sm_up g1 156 34 (i3 (st + 1))) 303 (5 * st) (i3 5) r j = g1 r j := fun r j y1 y2 => by rw [sm_up_ne (by omega), sm_up_ne (by omega)]
  have u34 : sm_up (sm_up g1 156 34 (i3 (st + 1))) 303 (5 * st) (i3 5) 156 34 = i3 (st + 1) := by rw [sm_up_ne (by omega), sm_up_same]
  have u303 : sm_up (sm_up g1 156 34 (i3 (st + 1))) 303 (5 * st) (i3 5) 303 (5 * st) = i3 5 := sm_up_same _ _ _ _
  generalize sm_up (sm_up g1 156 34 (i3 (st + 1))) 303 (5 * st) (i3 5) = g2 at *
  have r2 : rM g2 B n (0, 0, sk B n (we B n c.2.2)) := r1.keep (fun r j y => u r j (by omega) (by omega))
  refine ⟨_, rfl, r2.keep (fun r j y => sm_up_ne (by omega)), ?_, ?_, sm_up_same _ _ _ _, fun r j y1 y2 => ?_⟩
  · rw [sm_up_ne (by omega)]; exact u34
  · rw [sm_up_ne (by omega)]; exact u303
  · rw [sm_up_ne (by omega), u _ _ (by omega) (by omega)]; exact f1 r j (by omega)
/-- the model's step: its end -/
theorem mt_195 {E x' st : Nat} {U : pV} {g : sm_G} {L' : sm_L} {B : Nat → Nat} {n : Nat} {c : St} (hE0 : 4 ≤ E) (hr : rM g B n c) (hst : st < 70) : ∃ g', hD E 239 195 [.ref 156, .null, .int (i3 (5 * st))] 342 (RR U) x' g L' = oV x' g' L' ∧ rM g' B n (sgS B n 59 c) ∧ g' 303 (5 * st + 4) = g 156 34 ∧ ∀ r j, ¬ (r = 156 ∧ 4 ≤ j ∧ j ≤ 6) → ¬ (r = 303 ∧ j = 5 * st + 4) → g' r j = g r j := by
  have a1 : i3 (5 * st) + i3 4 = i3 (5 * st + 4) := i3_add _ 4
  have b1 : sm_in (i3 (5 * st + 4)) 400 = true := i3_in (by omega) (by omega)
  have d1 : (i3 (5 * st + 4)).toNatClampNeg = 5 * st + 4 := i3_cl (by omega)
  have r1 : rM (sm_up g 303 (5 * st + 4) (g 156 34)) B n c := hr.keep (fun r j y => sm_up_ne (by omega))
  obtain ⟨g1, e1, f1, r2⟩ := s_236 (D := E) (x := x') (V := U) (L := L') (ch := 59) (by omega) r1 (by omega)
  rw [h_239_195, a1, b1, gd_tt, d1, e1, aV_o]
  exact ⟨g1, rfl, r2, by rw [f1 _ _ (by omega)]; exact sm_up_same _ _ _ _, fun r j y1 y2 => by rw [f1 _ _ (by omega), sm_up_ne (by omega)]⟩
theorem mt_158 {E x' st k : Nat} {U : pV} {g : sm_G} {L' : sm_L} {B : Nat → Nat} {n : Nat} {c : St} (hE0 : 4 ≤ E) (hr : rM g B n c) (hst : st < 70) (hk : k ≤ 4) : ∃ g', hD E 239 158 [.ref 156, .int (i3 k), .int (i3 (5 * st))] 342 (RR U) x' g L' = oV x' g' L' ∧ rM g' B n (sgS B n 59 c) ∧ g' 303 (5 * st + 3) = g 156 34 ∧ g' 303 (5 * st + 4) = g 156 34 ∧ ∀ r j, ¬ (r = 156 ∧ 4 ≤ j ∧ j ≤ 6) → ¬ (r = 303 ∧ 5 * st + 3 ≤ j ∧ j ≤ 5 * st + 4) → g' r j = g r j := by
  have a1 : i3 (5 * st) + i3 3 = i3 (5 * st + 3) := i3_add _ 3
  have b1 : sm_in (i3 (5 * st + 3)) 400 = true := i3_in (by omega) (by omega)
  have d1 : (i3 (5 * st + 3)).toNatClampNeg = 5 * st + 3 := i3_cl (by omega)
  have r1 : rM (sm_up g 303 (5 * st + 3) (g 156 34)) B n c := hr.keep (fun r j y => sm_up_ne (by omega))
  obtain ⟨g1, e1, r2, e2, f1⟩ := mt_195 (E := E) (x' := x') (U := U) (L' := L') (by omega) r1 hst
  rw [h_239_158, a1, b1, gd_tt, d1, if_neg (show ¬ i3 k = i3 5 by rw [i3_eq (by omega) (by omega)]; omega), e1]
  exact ⟨g1, rfl, r2, by rw [f1 _ _ (by omega) (by omega)]; exact sm_up_same _ _ _ _, by rw [e2, sm_up_ne (by omega)], fun r j y1 y2 => by rw [f1 _ _ (by omega) (by omega), sm_up_ne (by omega)]⟩
/-- up to the block -/
theorem mt_128 {E x' st k Q : Nat} {U : pV} {g : sm_G} {L' : sm_L} (hst : st < 70) (hk : k ≤ 3) (h35 : g 156 35 = i3 Q) : hD E 239 128 [.ref 156, .int (i3 k), .int (i3 (5 * st))] 342 (RR U) x' g L' = if k ≤ 2 then hD E 239 158 [.ref 156, .int (i3 k), .int (i3 (5 * st))] 342 (RR U) x' (sm_up g 303 (5 * st + 2) (i3 Q)) L' else sm_aV (sm_cv0 E 243 342 (RR U) [.ref 156] (x', sm_up g 303 (5 * st + 2) (i3 Q), L')) (fun x1 G1 L1 => hD E 239 158 [.ref 156, .int (i3 k), .int (i3 (5 * st))] 342 (RR U) x1 G1 L1) oX := by
  have a1 : i3 (5 * st) + i3 2 = i3 (5 * st + 2) := i3_add _ 2
  have b1 : sm_in (i3 (5 * st + 2)) 400 = true := i3_in (by omega) (by omega)
  have d1 : (i3 (5 * st + 2)).toNatClampNeg = 5 * st + 2 := i3_cl (by omega)
  rw [h_239_128, a1, b1, gd_tt, d1, h35, if_pos (show i3 k ≤ i3 3 by rw [i3_le (by omega) (by omega)]; exact hk), h_239_149]
  by_cases y : k ≤ 2
  · rw [if_pos y, if_pos (show i3 k ≤ i3 2 by rw [i3_le (by omega) (by omega)]; exact y)]
  · rw [if_neg y, if_neg (show ¬ i3 k ≤ i3 2 by rw [i3_le (by omega) (by omega)]; exact y)]
theorem mt_128q {E x' st k Q : Nat} {U : pV} {g : sm_G} {L' : sm_L} (hst : st < 70) (hk : 4 ≤ k) (hk2 : k ≤ 5) (h35 : g 156 35 = i3 Q) : hD E 239 128 [.ref 156, .int (i3 k), .int (i3 (5 * st))] 342 (RR U) x' g L' = sm_aV (sm_cv0 E 241 342 (RR U) [.ref 156] (x', sm_up g 303 (5 * st + 2) (i3 Q), L')) (fun x1 G1 L1 => hD E 239 149 [.ref 156, .int (i3 k), .int (i3 (5 * st))] 342 (RR U) x1 G1 L1) oX := by
  have a1 : i3 (5 * st) + i3 2 = i3 (5 * st + 2) := i3_add _ 2
  have b1 : sm_in (i3 (5 * st + 2)) 400 = true := i3_in (by omega) (by omega)
  have d1 : (i3 (5 * st + 2)).toNatClampNeg = 5 * st + 2 := i3_cl (by omega)
  rw [h_239_128, a1, b1, gd_tt, d1, h35, if_neg (show ¬ i3 k ≤ i3 3 by rw [i3_le (by omega) (by omega)]; omega)]
theorem mt_149 {E x' st k : Nat} {U : pV} {g : sm_G} {L' : sm_L} (hk : 4 ≤ k) (hk2 : k ≤ 5) : hD E 239 149 [.ref 156, .int (i3 k), .int (i3 (5 * st))] 342 (RR U) x' g L' = sm_aV (sm_cv0 E 243 342 (RR U) [.ref 156] (x', g, L')) (fun x1 G1 L1 => hD E 239 158 [.ref 156, .int (i3 k), .int (i3 (5 * st))] 342 (RR U) x1 G1 L1) oX := by
  rw [h_239_149, if_neg (show ¬ i3 k ≤ i3 2 by rw [i3_le (by omega) (by omega)]; omega)]
