/-! a question whole -/
theorem qJ6 {D E x x' w z Q asking : Nat} {V U : pV} {X g : sm_G} {L L' : sm_L} {B : Nat → Nat} {n : Nat} {c : St} {T : pT} (hD0 : 7 ≤ D) (hE0 : 7 ≤ E) (hw : pW w) (hz : z < 40) (q : c.1 = 0) (hr : rW X B n (wdS B n c)) (hm : rM g B n c) (h4 : X w 4 = i3 z) (hn : wl B n c.2.2 = w_not) :
    ∃ X' g' c', hD D 176 9 [.ref w, .ref 2, .int (i3 asking), .int (i3 6), .int (i3 6)] 342 (RR V) x X L = oI (i3 z) x X' L ∧ hD E 241 2 [.ref 156, .int (i3 6), .null, .null] 342 (RR U) x' g L' = oV x' g' L' ∧ qOut T w z Q asking B n c c' X X' g g' := by
  have hwl := pW_lt hw
  obtain ⟨eW, rw1⟩ := eY140 (D := D) (x := x) (V := V) (L := L) (by omega) q hr t_not (by decide) hn
  have eW : sm_cv0 D 140 342 (RR V) [.ref 2, .ref 4112] (x, X, L) = oI (i3 1) x X L := eW
  obtain ⟨X1, a1, a2, a3⟩ := s_141f (D := D) (x := x) (V := V) (L := L) (by omega) rw1
  have e3 : rfS 3 c = (3, c.2.2 + 1, c.2.2) := if_pos q
  rw [e3] at a3
  have rb : rW X1 B n (3, c.2.2 + 1, c.2.2) := a3.bad (by show (3 : Nat) ≠ 0; omega)
  have e0 : ∀ t ws, isT t ws → sm_cv0 D 140 342 (RR V) [.ref 2, .ref (4096 + t)] (x, X1, L) = oI (i3 0) x X1 L := fun t ws h => by
    rw [s_140 (by omega) rb h, if_neg (fun y => absurd y.1 (by show ¬ (3 : Nat) = 0; omega))]
  have k1 : sm_cv0 D 140 342 (RR V) [.ref 2, .ref 4105] (x, X1, L) = oI (i3 0) x X1 L := e0 9 w_in t_in
  have k2 : sm_cv0 D 140 342 (RR V) [.ref 2, .ref 4113] (x, X1, L) = oI (i3 0) x X1 L := e0 17 w_open t_open
  have k3 : sm_cv0 D 140 342 (RR V) [.ref 2, .ref 4116] (x, X1, L) = oI (i3 0) x X1 L := e0 20 w_there t_there
  have k4 : sm_cv0 D 140 342 (RR V) [.ref 2, .ref 4096] (x, X1, L) = oI (i3 0) x X1 L := e0 0 w_after t_after
  have k5 : sm_cv0 D 140 342 (RR V) [.ref 2, .ref 4106] (x, X1, L) = oI (i3 0) x X1 L := e0 10 w_met t_met
  obtain ⟨X2, c1, c2, c3⟩ := s_142 (D := D) (x := x) (V := V) (L := L) (k := 1) (by omega) rb (by omega) (by omega)
  rw [show rfS 1 (3, c.2.2 + 1, c.2.2) = (3, c.2.2 + 1, c.2.2) from if_neg (by show ¬ (3 : Nat) = 0; omega)] at c3
  obtain ⟨X3, i, p1, p2, p3, p4, p5⟩ := s_172 (D := D) (x := x) (V := V) (L := L) (v1 := i3 asking) (v2 := i3 0) (v3 := i3 (6 + 7 % 2)) (by omega) hw (show X2 w 4 = i3 z by rw [c2 _ _ (by omega), a2 _ _ (by omega)]; exact h4) (by omega)
  obtain ⟨rfl, p6, p7, p8, p9⟩ := p4 hz
  obtain ⟨g0, u0, r0, f0⟩ := s_225 (D := E) (x := x') (V := U) (L := L') (by omega) hm v_not
  obtain ⟨b0, bl, _⟩ := r0.at q
  obtain ⟨E', rfl⟩ : ∃ E', E = E' + 1 := ⟨E - 1, by omega⟩
  obtain ⟨g9, b1, b2, b3, _⟩ := s_229 (d := E') (x := x') (V := U) (L := L') (k := 3) (s := c.2.2) r0.M (by omega) (by omega) bl
  rw [if_pos q] at b3
  have hc3 : X3 w 4 = i3 (i + 1) := p3
  rw [h_176_9 hw, if_pos (by decide), eW, aI_o, if_neg (show ¬ i3 1 = i3 0 by decide), i3_add, if_neg (show ¬ i3 (6 + 1) ≤ i3 6 by decide), a1, aI_o, if_pos rfl, h_176_9 hw, if_neg (show ¬ i3 (6 + 1) ≤ i3 6 by decide), h_176_56 hw, k1, aI_o, if_pos rfl, k2, aI_o, if_pos rfl, k3, aI_o, if_pos rfl, k4, aI_o, if_pos rfl, k5, aI_o, if_pos rfl, c1, aV_o, and_1, i3_add, p1, aI_o, h_241_2, u0, aI_o, if_pos (⟨q, hn⟩ : c.1 = 0 ∧ wl B n c.2.2 = w_not), if_neg (show ¬ i3 1 = i3 0 by decide), if_pos rfl, b0, b1, aV_o, b3.2.2.2.1, if_neg (show ¬ i3 3 = i3 0 by decide)]
  exact ⟨X3, g9, (3, c.2.2 + 1, c.2.2), rfl, rfl, c3.keep (fun r j y => p5 r j (by omega) (by omega)), b3, ((a2.tr c2).W (by omega)).tr (put_W p5) (Nat.le_refl _), p3, by rw [p5 _ _ (by omega) (by omega)]; exact (a2.tr c2) _ _ (by omega), (f0.tr b2).Q, fun y => absurd y (by show ¬ (3 : Nat) = 0; omega)⟩
theorem qJ {D E x x' w z Q asking : Nat} {V U : pV} {L L' : sm_L} {B : Nat → Nat} {n : Nat} {T : pT} (hD0 : 7 ≤ D) (hE0 : 7 ≤ E) (hw : pW w) (hT : okT T) (hz : z < 40) (hQ : Q ≤ 70) (ha : asking < 10) : ∀ (m k : Nat) (c : St) (X g : sm_G), k + m = 6 → c.1 = 0 → rW X B n (wdS B n c) → rM g B n c → X w 4 = i3 z → X w 6 = i3 (sl T) → X w 7 = i3 (dn T) → g 160 0 = i3 (sl T) → g 160 1 = i3 (dn T) → g 156 35 = i3 Q →
    ∃ X' g' c', hD D 176 9 [.ref w, .ref 2, .int (i3 asking), .int (i3 k), .int (i3 k)] 342 (RR V) x X L = oI (i3 z) x X' L ∧ hD E 241 2 [.ref 156, .int (i3 k), .null, .null] 342 (RR U) x' g L' = oV x' g' L' ∧ qOut T w z Q asking B n c c' X X' g g' := by
  have hwl := pW_lt hw
  intro m
  induction m with
  | zero =>
    intro k c X g hk q hr hm h4 h6 h7 m0 m1' m35
    by_cases hn : wl B n c.2.2 = w_not
    · rw [show k = 6 by omega]
      exact qJ6 hD0 hE0 hw hz q hr hm h4 hn
    · exact qJf hD0 hE0 hw hT hz hQ ha (by omega) q hr hm h4 h6 h7 m0 m1' m35 hn
  | succ m ih =>
    intro k c X g hk q hr hm h4 h6 h7 m0 m1' m35
    by_cases hn : wl B n c.2.2 = w_not
    · obtain ⟨eW, rw1⟩ := eY140 (D := D) (x := x) (V := V) (L := L) (by omega) q hr t_not (by decide) hn
      have eW : sm_cv0 D 140 342 (RR V) [.ref 2, .ref 4112] (x, X, L) = oI (i3 1) x X L := eW
      obtain ⟨X1, a1, a2, a3⟩ := s_138 (D := D) (x := x) (V := V) (L := L) (by omega) (rw1.c0 q)
      obtain ⟨g0, u0, r0, f0⟩ := s_225 (D := E) (x := x') (V := U) (L := L') (by omega) hm v_not
      obtain ⟨g1, v1, f1, r1⟩ := s_231 (D := E) (x := x') (V := U) (L := L') (by omega) r0 q
      obtain ⟨X', g', c', e1, e2, o1, o2, o3, o4, o5, o6, o7⟩ := ih (k + 1) (0, 0, sk B n (we B n c.2.2)) X1 g1 (by omega) rfl a3 r1 (by rw [a2 _ _ (by omega)]; exact h4) (by rw [a2 _ _ (by omega)]; exact h6) (by rw [a2 _ _ (by omega)]; exact h7) (by rw [f1 _ _ (by omega), f0 _ _ (by omega)]; exact m0) (by rw [f1 _ _ (by omega), f0 _ _ (by omega)]; exact m1') (by rw [f1 _ _ (by omega), f0 _ _ (by omega)]; exact m35)
      rw [h_176_9 hw, if_pos (by rw [i3_le (by omega) (by omega)]; omega), eW, aI_o, if_neg (show ¬ i3 1 = i3 0 by decide), i3_add, if_pos (by rw [i3_le (by omega) (by omega)]; omega), s_141t (by omega) rw1, aI_o, if_pos q, if_neg (show ¬ i3 1 = i3 0 by decide), a1, aV_o, h_241_2, u0, aI_o, if_pos (⟨q, hn⟩ : c.1 = 0 ∧ wl B n c.2.2 = w_not), if_neg (show ¬ i3 1 = i3 0 by decide), if_neg (show ¬ i3 k = i3 6 by rw [i3_eq (by omega) (by omega)]; omega), r0.2.2.2.1, if_pos (by rw [q]), v1, aV_o, i3_add]
      have hs1 := we_ge (B := B) (n := n) (a := c.2.2)
      have hs2 := sk_ge (B := B) (n := n) (a := we B n c.2.2)
      refine ⟨X', g', c', e1, e2, o1, o2, (a2.W (by omega)).tr o3 (Nat.le_refl _), o4, by rw [o5]; exact a2 _ _ (by omega), (f0.tr f1).Q.tr o6, fun y => ?_⟩
      obtain ⟨t1, t2⟩ := o7 y
      have t1 : sk B n (we B n c.2.2) + 2 ≤ c'.2.2 := t1
      exact ⟨by omega, t2⟩
    · exact qJf hD0 hE0 hw hT hz hQ ha (by omega) q hr hm h4 h6 h7 m0 m1' m35 hn
theorem s_176 {D E x x' w z Q asking : Nat} {V U : pV} {X g : sm_G} {L L' : sm_L} {B : Nat → Nat} {n : Nat} {c : St} {T : pT} (hD0 : 8 ≤ D) (hE0 : 8 ≤ E) (hw : pW w) (hT : okT T) (hz : z < 40) (hQ : Q ≤ 70) (ha : asking < 10) (q : c.1 = 0) (hr : rC X B n c) (hm : rM g B n c) (h4 : X w 4 = i3 z) (h6 : X w 6 = i3 (sl T)) (h7 : X w 7 = i3 (dn T)) (m0 : g 160 0 = i3 (sl T)) (m1' : g 160 1 = i3 (dn T)) (m35 : g 156 35 = i3 Q) :
    ∃ X' g' c', sm_cv0 D 176 342 (RR V) [.ref w, .ref 2, .int (i3 asking)] (x, X, L) = oI (i3 z) x X' L ∧ sm_cv0 E 241 342 (RR U) [.ref 156] (x', g, L') = oV x' g' L' ∧ qOut T w z Q asking B n c c' X X' g g' := by
  obtain ⟨d, rfl⟩ : ∃ d, D = d + 8 := ⟨D - 8, by omega⟩
  obtain ⟨e, rfl⟩ : ∃ e, E = e + 8 := ⟨E - 8, by omega⟩
  have hwl := pW_lt hw
  obtain ⟨X1, a1, a2, a3⟩ := s_138 (D := d + 7) (x := x) (V := V) (L := L) (by omega) hr
  obtain ⟨X', g', c', e1, e2, o1, o2, o3, o4, o5, o6⟩ := qJ (D := d + 7) (E := e + 7) (x := x) (x' := x') (V := V) (U := U) (L := L) (L' := L') (by omega) (by omega) hw hT hz hQ ha 6 0 c X1 g (by omega) q a3 hm (by rw [a2 _ _ (by omega)]; exact h4) (by rw [a2 _ _ (by omega)]; exact h6) (by rw [a2 _ _ (by omega)]; exact h7) m0 m1' m35
  rw [m_176 hw, a1, aV_o, m_241]
  exact ⟨X', g', c', e1, e2, o1, o2, (a2.W (by omega)).tr o3 (Nat.le_refl _), o4, by rw [o5]; exact a2 _ _ (by omega), o6⟩
