/-! a street as it is read: the model -/
def mHr (g : sm_G) (T P : pT) : Prop := g 159 0 = i3 (sl T) ∧ g 159 1 = i3 (dn T) ∧ g 159 2 = i3 (nn P) ∧ g 159 3 = i3 (tn T) ∧ g 159 4 = i3 (dr T) ∧ g 159 5 = mi (mk T) ∧ (∀ k, k < sl T → g 161 k = mi (tp T k)) ∧ (∀ k, k < 6 → g 163 k = i3 (tu T k)) ∧
  (∀ k, k < sl T → g (166 + k) 0 = i3 (fr P k) ∧ g (166 + k) 1 = i3 (un P k) ∧ g (166 + k) 2 = i3 (wt T k)) ∧ (∀ d, d < dn T → g (184 + d) 0 = i3 (dA T d) ∧ g (184 + d) 1 = i3 (dB T d) ∧ g (184 + d) 2 = i3 (dO T d)) ∧
  (∀ i, i < nn P → g (206 + i) 0 = i3 (nm P i) ∧ g (206 + i) 1 = i3 (ns P i)) ∧ ∀ d, d < dr T → g (232 + d) 0 = i3 (cR T d) ∧ g (232 + d) 1 = i3 (cM T d)
def inR (r : Nat) : Prop := r = 159 ∨ r = 161 ∨ r = 163 ∨ (166 ≤ r ∧ r < 174) ∨ (184 ≤ r ∧ r < 194) ∨ (206 ≤ r ∧ r < 218) ∨ (232 ≤ r ∧ r < 236)
def mfS (g g' : sm_G) : Prop := ∀ r k, ¬ (r = 156 ∧ 4 ≤ k ∧ k ≤ 7) → ¬ inR r → g' r k = g r k
theorem mHr.keep {g g' : sm_G} {T P : pT} (h : mHr g T P) (hT : okT T) (hP : okP T P) (f : ∀ r k, inR r → g' r k = g r k) : mHr g' T P := by
  obtain ⟨h1, h2, h3, h4, h5, h6, h7, h8, h9, h10, h11, h12⟩ := h
  have hB := hT.gb
  have hB2 := hP.gb
  unfold inR at f
  refine ⟨by rw [f _ _ (by omega)]; exact h1, by rw [f _ _ (by omega)]; exact h2, by rw [f _ _ (by omega)]; exact h3, by rw [f _ _ (by omega)]; exact h4, by rw [f _ _ (by omega)]; exact h5, by rw [f _ _ (by omega)]; exact h6, fun k hk => by rw [f _ _ (by omega)]; exact h7 k hk, fun k hk => by rw [f _ _ (by omega)]; exact h8 k hk, fun k hk => ?_, fun k hk => ?_, fun k hk => ?_, fun k hk => ?_⟩
  · rw [f _ _ (by omega), f _ _ (by omega), f _ _ (by omega)]; exact h9 k hk
  · rw [f _ _ (by omega), f _ _ (by omega), f _ _ (by omega)]; exact h10 k hk
  · rw [f _ _ (by omega), f _ _ (by omega)]; exact h11 k hk
  · rw [f _ _ (by omega), f _ _ (by omega)]; exact h12 k hk
theorem m_end {D x k m : Nat} {V : pV} {G : sm_G} {L : sm_L} {B : Nat → Nat} {n : Nat} {c : St} (hD0 : 3 ≤ D) (hr : rM G B n c) (hk : k < 5) (h : G 159 k = i3 m) : ∃ G', hD D 223 379 [.ref 156, .int (i3 k), .null, .null] 342 (RR V) x G L = oV x G' L ∧ rM G' B n (sgS B n 59 c) ∧ (∀ r j, ¬ (r = 156 ∧ 4 ≤ j ∧ j ≤ 6) → ¬ (r = 159 ∧ j = k) → G' r j = G r j) ∧ (c.1 = 0 → G' 159 k = i3 (m + 1)) := by
  rw [h_223_379, if_pos (by rw [i3_lt (by omega) (by omega)]; exact hk), i3_in (by omega) (by omega), gd_tt, i3_cl (by omega), h, hr.2.2.2.1, i3_add, i3_add]
  by_cases q : c.1 = 0
  · obtain ⟨G2, e1, e2, e3⟩ := s_236 (D := D) (x := x) (V := V) (L := L) (G := sm_up G 159 k (i3 (m + 1))) (ch := 59) hD0 (hr.keep (fun r j w => sm_up_ne (by omega))) (by omega)
    rw [if_pos (by rw [q]), gd_tt, e1, aV_o]
    refine ⟨G2, rfl, e3, fun r j w1 w2 => by rw [e2 r j (by omega)]; exact sm_up_ne (by omega), fun _ => by rw [e2 _ _ (by omega)]; exact sm_up_same _ _ _ _⟩
  · obtain ⟨G2, e1, e2, e3⟩ := s_236 (D := D) (x := x) (V := V) (L := L) (G := sm_up G 159 k (i3 (m + 0))) (ch := 59) hD0 (hr.keep (fun r j w => sm_up_ne (by omega))) (by omega)
    rw [if_neg (by rw [i3_eq (by have := hr.2.1; omega) (by omega)]; exact q), gd_tt, e1, aV_o]
    exact ⟨G2, rfl, e3, fun r j w1 w2 => by rw [e2 r j (by omega)]; exact sm_up_ne (by omega), fun z => absurd z q⟩
theorem m_end5 {D x k : Nat} {V : pV} {G : sm_G} {L : sm_L} {B : Nat → Nat} {n : Nat} {c : St} (hD0 : 3 ≤ D) (hr : rM G B n c) (hk : 5 ≤ k) (hk2 : k < 10) : ∃ G', hD D 223 379 [.ref 156, .int (i3 k), .null, .null] 342 (RR V) x G L = oV x G' L ∧ rM G' B n (sgS B n 59 c) ∧ mF G G' := by
  obtain ⟨G2, e1, e2, e3⟩ := s_236 (D := D) (x := x) (V := V) (L := L) (G := G) (ch := 59) hD0 hr (by omega)
  rw [h_223_379, if_neg (by rw [i3_lt (by omega) (by omega)]; omega), e1, aV_o]
  exact ⟨G2, rfl, e3, e2⟩
/-- a clause begun: its word skipped, counted -/
theorem m_beg {D x cnt : Nat} {V : pV} {G : sm_G} {L : sm_L} {B : Nat → Nat} {n : Nat} {c : St} {T P : pT} (hD0 : 2 ≤ D) (hr : rE G B n c) (q : c.1 = 0) (h7 : G 156 7 = i3 cnt) (hT : okT T) (hP : okP T P) (hm : mHr G T P) : ∃ G1, sm_cv0 D 231 342 (RR V) [.ref 156] (x, G, L) = oV x G1 L ∧ G1 156 7 = i3 cnt ∧ rM (sm_up G1 156 7 (i3 (cnt + 1))) B n (0, 0, sk B n (we B n c.2.2)) ∧ mHr (sm_up G1 156 7 (i3 (cnt + 1))) T P ∧ mfS G (sm_up G1 156 7 (i3 (cnt + 1))) := by
  obtain ⟨G1, e1, e2, e3⟩ := s_231 (x := x) (V := V) (L := L) hD0 hr q
  refine ⟨G1, e1, by rw [e2 _ _ (by omega)]; exact h7, e3.keep (fun r k w => sm_up_ne (by omega)), hm.keep hT hP (fun r k w => by unfold inR at w; rw [sm_up_ne (by omega)]; exact e2 r k (by omega)), fun r k w1 w2 => by rw [sm_up_ne (by omega)]; exact e2 r k (by omega)⟩
theorem cM_0 {D x cnt : Nat} {V : pV} {G : sm_G} {L : sm_L} {B : Nat → Nat} {n : Nat} {c : St} {T P : pT} (hD0 : 5 ≤ D) (hr : rE G B n c) (q : c.1 = 0) (h7 : G 156 7 = i3 cnt) (hT : okT T) (hP : okP T P) (hm : mHr G T P) (h8 : sl T < 8) : ∃ G', hD D 223 48 [.ref 156, .int (i3 0), .null, .null] 342 (RR V) x G L = oV x G' L ∧ mfS G G' ∧ rM G' B n (slS B n (0, 0, sk B n (we B n c.2.2))).2 ∧ G' 156 7 = i3 (cnt + 1) ∧ ((slS B n (0, 0, sk B n (we B n c.2.2))).2.1 = 0 → mHr G' (tSl T (slS B n (0, 0, sk B n (we B n c.2.2))).1.2.2) (pSl T P (slS B n (0, 0, sk B n (we B n c.2.2))).1.1 (slS B n (0, 0, sk B n (we B n c.2.2))).1.2.1)) := by
  have hB := hT.gb
  have hB2 := hP.gb
  obtain ⟨G1, e1, e7, r0, m0, f0⟩ := m_beg (x := x) (V := V) (L := L) (D := D) (by omega) hr q h7 hT hP hm
  rw [h_223_48, hr.2.2.2.1, if_pos (by rw [q]), e1, aV_o, if_pos rfl, e7, i3_add]
  have e72 : sm_up G1 156 7 (i3 (cnt + 1)) 156 7 = i3 (cnt + 1) := sm_up_same _ _ _ _
  generalize sm_up G1 156 7 (i3 (cnt + 1)) = G2 at *
  generalize (0, 0, sk B n (we B n c.2.2)) = c0 at r0 ⊢
  obtain ⟨G3, u1, f1, r1⟩ := nuM (D := D) (x := x) (V := V) (L := L) 0 301 (by omega) r0 (by omega) (by omega) rfl mi_300
  have v1 : (nuS B n 0 301 c0).1 < 100000 := by rcases nuS_v (B := B) (n := n) (lo := 0) (h := 301) (c := c0) with z | z <;> omega
  rw [m0.1, i3_in (by omega) h8, gd_tt, i3_cl (by omega), rr_165 h8, kr_165 h8, nr_165 h8, u1, aI_o, gd_tt, i3_in (by omega) (by omega), gd_tt, ldr_165 h8, i3_in (by omega) (by omega), gd_tt, i3_cl (by omega), sm_up_same]
  obtain ⟨G4, u2, f2, r2⟩ := nuM (D := D) (x := x) (V := V) (L := L) (nuS B n 0 301 c0).1 301 (by omega) (r1.keep (g' := sm_up G3 (166 + sl T) 0 (i3 (nuS B n 0 301 c0).1)) (fun r k w => sm_up_ne (by omega))) v1 (by omega) rfl mi_300
  rw [u2, aI_o, gd_tt, i3_in (by omega) (by omega), gd_tt]
  obtain ⟨G5, u3, f3, r3⟩ := nuM (D := D) (x := x) (V := V) (L := L) 0 16 (by omega) (r2.keep (g' := sm_up G4 (166 + sl T) 1 (i3 (nuS B n (nuS B n 0 301 c0).1 301 (nuS B n 0 301 c0).2).1)) (fun r k w => sm_up_ne (by omega))) (by omega) (by omega) rfl mi_15
  rw [u3, aI_o, gd_tt, i3_in (by omega) (by omega), gd_tt]
  unfold slS
  generalize nuS B n 0 301 c0 = q1 at *
  generalize nuS B n q1.1 301 q1.2 = q2 at *
  generalize nuS B n 0 16 q2.2 = q3 at *
  have w9 : sm_up G5 (166 + sl T) 2 (i3 q3.1) 159 0 = i3 (sl T) := by rw [sm_up_ne (by omega), f3 _ _ (by omega), sm_up_ne (by omega), f2 _ _ (by omega), sm_up_ne (by omega), f1 _ _ (by omega)]; exact m0.1
  rw [w9, i3_in (by omega) h8, gd_tt, i3_cl (by omega)]
  obtain ⟨G6, u4, r4, f4, c4⟩ := m_end (D := D) (x := x) (V := V) (L := L) (k := 0) (m := sl T) (G := sm_up (sm_up G5 (166 + sl T) 2 (i3 q3.1)) 161 (sl T) m1) (by omega) (r3.keep (fun r k w => by rw [sm_up_ne (by omega), sm_up_ne (by omega)])) (by omega) (by rw [sm_up_ne (by omega)]; exact w9)
  have ff : ∀ r k, ¬ (r = 156 ∧ 4 ≤ k ∧ k ≤ 6) → ¬ (r = 159 ∧ k = 0) → ¬ (r = 161 ∧ k = sl T) → ¬ (r = 166 + sl T ∧ k ≤ 2) → G6 r k = G2 r k := fun r k w1 w2 w3 w4 => by
    rw [f4 r k w1 w2, sm_up_ne (by omega), sm_up_ne (by omega), f3 r k w1, sm_up_ne (by omega), f2 r k w1, sm_up_ne (by omega), f1 r k w1]
  have z0 : G6 (166 + sl T) 0 = i3 q1.1 := by rw [f4 _ _ (by omega) (by omega), sm_up_ne (by omega), sm_up_ne (by omega), f3 _ _ (by omega), sm_up_ne (by omega), f2 _ _ (by omega), sm_up_same]
  have z1 : G6 (166 + sl T) 1 = i3 q2.1 := by rw [f4 _ _ (by omega) (by omega), sm_up_ne (by omega), sm_up_ne (by omega), f3 _ _ (by omega), sm_up_same]
  have z2 : G6 (166 + sl T) 2 = i3 q3.1 := by rw [f4 _ _ (by omega) (by omega), sm_up_ne (by omega), sm_up_same]
  have z3 : G6 161 (sl T) = m1 := by rw [f4 _ _ (by omega) (by omega), sm_up_same]
  obtain ⟨a1, a2, a3, a4, a5, a6, a7, a8, a9, a10, a11, a12⟩ := m0
  refine ⟨G6, u4, fun r k w1 w2 => by unfold inR at w2; rw [ff r k (by omega) (by omega) (by omega) (by omega)]; exact f0 r k w1 (by unfold inR; exact w2), r4, by rw [ff _ _ (by omega) (by omega) (by omega) (by omega)]; exact e72, fun z => ⟨c4 (sgS_ok z).1, ?_, ?_, ?_, ?_, ?_, fun k hk => ?_, fun k hk => ?_, fun k hk => ?_, fun k hk => ?_, fun k hk => ?_, fun k hk => ?_⟩⟩
  · rw [ff _ _ (by omega) (by omega) (by omega) (by omega)]; exact a2
  · rw [ff _ _ (by omega) (by omega) (by omega) (by omega)]; exact a3
  · rw [ff _ _ (by omega) (by omega) (by omega) (by omega)]; exact a4
  · rw [ff _ _ (by omega) (by omega) (by omega) (by omega)]; exact a5
  · rw [ff _ _ (by omega) (by omega) (by omega) (by omega)]; exact a6
  · have hk : k < sl T + 1 := hk
    show _ = mi (upn (upn (upn T 0 0 (sl T + 1)) 1 (sl T) q3.1) 2 (sl T) 0 2 k)
    by_cases w : k = sl T
    · rw [w, upn_same]; exact z3
    · rw [upn_ne (by omega), upn_ne (by omega), upn_ne (by omega), ff _ _ (by omega) (by omega) (by omega) (by omega)]; exact a7 k (by omega)
  · rw [ff _ _ (by omega) (by omega) (by omega) (by omega)]; exact a8 k hk
  · have hk : k < sl T + 1 := hk
    show _ = i3 (upn (upn P 3 (sl T) q1.1) 4 (sl T) q2.1 3 k) ∧ _ = i3 (upn (upn P 3 (sl T) q1.1) 4 (sl T) q2.1 4 k) ∧ _ = i3 (upn (upn (upn T 0 0 (sl T + 1)) 1 (sl T) q3.1) 2 (sl T) 0 1 k)
    rw [upn_ne (by omega : (3 : Nat) ≠ 4 ∨ _), upn_ne (by omega : (1 : Nat) ≠ 2 ∨ _)]
    by_cases w : k = sl T
    · rw [w, upn_same, upn_same, upn_same]; exact ⟨z0, z1, z2⟩
    · rw [upn_ne (by omega), upn_ne (by omega), upn_ne (by omega), upn_ne (by omega), upn_ne (by omega), ff _ _ (by omega) (by omega) (by omega) (by omega), ff _ _ (by omega) (by omega) (by omega) (by omega), ff _ _ (by omega) (by omega) (by omega) (by omega)]; exact a9 k (by omega)
  · have hk : k < dn T := hk
    rw [ff _ _ (by omega) (by omega) (by omega) (by omega), ff _ _ (by omega) (by omega) (by omega) (by omega), ff _ _ (by omega) (by omega) (by omega) (by omega)]; exact a10 k hk
  · have hk : k < nn P := hk
    rw [ff _ _ (by omega) (by omega) (by omega) (by omega), ff _ _ (by omega) (by omega) (by omega) (by omega)]; exact a11 k hk
  · have hk : k < dr T := hk
    rw [ff _ _ (by omega) (by omega) (by omega) (by omega), ff _ _ (by omega) (by omega) (by omega) (by omega)]; exact a12 k hk
