/-! a street's text whole: the class; texts begun and ended -/
theorem s_121 {D x s : Nat} {V : pV} {G : sm_G} {L : sm_L} (hD0 : 3 ≤ D) (hs : pS s) : ∃ G', sm_cv0 D 121 342 (RR V) [.ref s] (x, G, L) = oV x G' L ∧ cSr G' s T0 T0 ∧ ∀ r k, ¬ (s ≤ r ∧ r < s + 18) → G' r k = G r k := by
  obtain ⟨d, rfl⟩ : ∃ d, D = d + 3 := ⟨D - 3, by omega⟩
  have hsl := pS_lt hs
  have e109 := m_109 (d := d + 1) (x := x) (V := V) (G := G) (L := L) (pP_s hs)
  have k15 := pS_all hs (P := fun s => (Nat.ble 20 (sm_K (s + 15)) && Nat.ble (sm_K (s + 15)) 27 && Nat.ble (s + 15) 342) = true) (by decide +kernel) (by decide +kernel)
  have k11 := pS_all hs (P := fun s => (Nat.ble 20 (sm_K (s + 11)) && Nat.ble (sm_K (s + 11)) 27 && Nat.ble (s + 11) 342) = true) (by decide +kernel) (by decide +kernel)
  have e6 := fun G => s_6 (d := d + 1) (x := x) (V := V) (G := G) (L := L) (c := s + 15) (v := i3 0) (N := 6) k15 (kS_15 hs) (nS_15 hs) (by omega)
  have e6' := fun G => s_6 (d := d + 1) (x := x) (V := V) (G := G) (L := L) (c := s + 11) (v := m1) (N := 8) k11 (kS_11 hs) (nS_11 hs) (by omega)
  rw [m_121 hs, e109, aV_o, e6, aV_o, e6', aV_o]
  have hp : ∀ r k, ¬ (r = s + 1 ∧ 8 ≤ k ∧ k ≤ 10) → sm_up (sm_up (sm_up G (s + 1) 8 (i3 0)) (s + 1) 9 (i3 0)) (s + 1) 10 (i3 0) r k = G r k := fun r k w => by rw [sm_up_ne (by omega), sm_up_ne (by omega), sm_up_ne (by omega)]
  have h8 : sm_up (sm_up (sm_up G (s + 1) 8 (i3 0)) (s + 1) 9 (i3 0)) (s + 1) 10 (i3 0) (s + 1) 8 = i3 0 := by rw [sm_up_ne (by omega), sm_up_ne (by omega), sm_up_same]
  have h9 : sm_up (sm_up (sm_up G (s + 1) 8 (i3 0)) (s + 1) 9 (i3 0)) (s + 1) 10 (i3 0) (s + 1) 9 = i3 0 := by rw [sm_up_ne (by omega), sm_up_same]
  have h10 : sm_up (sm_up (sm_up G (s + 1) 8 (i3 0)) (s + 1) 9 (i3 0)) (s + 1) 10 (i3 0) (s + 1) 10 = i3 0 := sm_up_same _ _ _ _
  generalize sm_up (sm_up (sm_up G (s + 1) 8 (i3 0)) (s + 1) 9 (i3 0)) (s + 1) 10 (i3 0) = G1 at *
  have g15 : ∀ k, k < 6 → fill (fill G1 (s + 15) 6 (fun _ => i3 0)) (s + 11) 8 (fun _ => m1) (s + 15) k = i3 0 := fun k hk => by rw [fill_ne (by omega), fill_at hk]
  have g11 : ∀ k, k < 8 → fill (fill G1 (s + 15) 6 (fun _ => i3 0)) (s + 11) 8 (fun _ => m1) (s + 11) k = m1 := fun k hk => fill_at hk
  have gf : ∀ r k, r ≠ s + 15 → r ≠ s + 11 → fill (fill G1 (s + 15) 6 (fun _ => i3 0)) (s + 11) 8 (fun _ => m1) r k = G1 r k := fun r k h1 h2 => by rw [fill_ne h2, fill_ne h1]
  generalize fill (fill G1 (s + 15) 6 (fun _ => i3 0)) (s + 11) 8 (fun _ => m1) = G2 at *
  have u : ∀ r k, ¬ (r = s ∧ 9 ≤ k ∧ k ≤ 14) → sm_up (sm_up (sm_up (sm_up (sm_up (sm_up G2 s 9 (i3 0)) s 10 (i3 0)) s 11 (i3 0)) s 12 (i3 0)) s 13 (i3 0)) s 14 m1 r k = G2 r k := fun r k w => by rw [sm_up_ne (by omega), sm_up_ne (by omega), sm_up_ne (by omega), sm_up_ne (by omega), sm_up_ne (by omega), sm_up_ne (by omega)]
  refine ⟨_, rfl, ⟨⟨?_, ?_, ?_, ?_, ?_, sm_up_same _ _ _ _, fun k h => absurd h (Nat.not_lt_zero k), fun k h => absurd h (Nat.not_lt_zero k), fun k h => absurd h (Nat.not_lt_zero k), fun k h => absurd h (Nat.not_lt_zero k), fun k h => absurd h (Nat.not_lt_zero k), fun k h => ?_, fun k h => absurd h (Nat.not_lt_zero k), fun k h => absurd h (Nat.not_lt_zero k)⟩, ⟨?_, ?_, fun k h => absurd h (Nat.not_lt_zero k), fun k h => absurd h (Nat.not_lt_zero k), fun k h => absurd h (Nat.not_lt_zero k), fun k h => absurd h (Nat.not_lt_zero k)⟩, ?_, fun j _ hj => ?_⟩, fun r k w => ?_⟩
  · rw [sm_up_ne (by omega), sm_up_ne (by omega), sm_up_ne (by omega), sm_up_ne (by omega), sm_up_ne (by omega), sm_up_same]; rfl
  · rw [sm_up_ne (by omega), sm_up_ne (by omega), sm_up_ne (by omega), sm_up_ne (by omega), sm_up_same]; rfl
  · rw [sm_up_ne (by omega), sm_up_ne (by omega), sm_up_ne (by omega), sm_up_same]; rfl
  · rw [sm_up_ne (by omega), sm_up_ne (by omega), sm_up_same]; rfl
  · rw [sm_up_ne (by omega), sm_up_same]; rfl
  · rw [u _ _ (by omega)]; exact g15 k h
  · rw [u _ _ (by omega), gf _ _ (by omega) (by omega)]; exact h8
  · rw [u _ _ (by omega), gf _ _ (by omega) (by omega)]; exact h9
  · rw [u _ _ (by omega), gf _ _ (by omega) (by omega)]; exact h10
  · rw [u _ _ (by omega)]; exact g11 j hj
  · rw [u _ _ (by omega), gf _ _ (by omega) (by omega)]; exact hp r k (by omega)
theorem s_120 {D x s : Nat} {V : pV} {G : sm_G} {L : sm_L} {B : Nat → Nat} {n : Nat} {c : St} (hD0 : 7 ≤ D) (hs : pS s) (hr : rC G B n c) : ∃ G', sm_cv0 D 120 342 (RR V) [.ref s, .ref 2] (x, G, L) = oV x G' L ∧ cfS s G G' ∧ rC G' B n (stF B n 61 c T0 T0).1 ∧ ((stF B n 61 c T0 T0).1.1 = 0 → cSr G' s (stF B n 61 c T0 T0).2.1 (stF B n 61 c T0 T0).2.2) := by
  obtain ⟨d, rfl⟩ : ∃ d, D = d + 7 := ⟨D - 7, by omega⟩
  have hsl := pS_lt hs
  obtain ⟨G1, e1, c1, f1⟩ := s_121 (D := d + 6) (x := x) (V := V) (G := G) (L := L) (by omega) hs
  obtain ⟨G2, e2, f2, r2, c2⟩ := s_120l (D := d + 6) (x := x) (V := V) (L := L) (by omega) hs 61 0 c T0 T0 G1 (by omega) (hr.keep (fun r k w => f1 r k (by omega))) (fun _ => ⟨okT_0, okP_0, c1⟩)
  rw [m_120 hs, e1, aV_o]
  exact ⟨G2, e2, fun r k w1 w2 => by rw [f2 r k w1 w2]; exact f1 r k w1, r2, c2⟩
/-- the class's text begun -/
theorem s_134 {D x n : Nat} {V : pV} {G : sm_G} {L : sm_L} {B : Nat → Nat} (hD0 : 2 ≤ D) (hn : n ≤ 600) (hB : ∀ k, k < n → B k < 256 ∧ G 3 k = i2b (i3 (B k))) : ∃ G', sm_cv0 D 134 342 (RR V) [.ref 2, .int (i3 n)] (x, G, L) = oV x G' L ∧ rC G' B n (0, 0, sk B n 0) ∧ ∀ r k, ¬ (r = 2 ∧ 2 ≤ k ∧ k ≤ 8) → G' r k = G r k := by
  obtain ⟨d, rfl⟩ : ∃ d, D = d + 2 := ⟨D - 2, by omega⟩
  have e4 := s_4 (d := d) (x := x) (V := V) (G := G) (L := L) (a := i3 n) (b := i3 600)
  have e5 := s_5 (d := d) (x := x) (V := V) (G := G) (L := L) (a := i3 0) (b := i3 n)
  rw [if_neg (by rw [i3_lt (by omega) (by omega)]; omega)] at e4
  have e5' : (if i3 0 < i3 n then i3 n else i3 0) = i3 n := by
    by_cases q : n = 0
    · rw [q]; rfl
    · rw [if_pos (by rw [i3_lt (by omega) (by omega)]; omega)]
  rw [e5'] at e5
  rw [m_134, e4, aI_o, e5, aI_o]
  have u : ∀ r k, ¬ (r = 2 ∧ (k = 2 ∨ k = 3 ∨ k = 7 ∨ k = 8)) → sm_up (sm_up (sm_up (sm_up G 2 2 (i3 n)) 2 3 (i3 0)) 2 7 (i3 0)) 2 8 m1 r k = G r k := fun r k w => by rw [sm_up_ne (by omega), sm_up_ne (by omega), sm_up_ne (by omega), sm_up_ne (by omega)]
  refine ⟨_, rfl, ⟨⟨hn, by rw [sm_up_ne (by omega), sm_up_ne (by omega), sm_up_ne (by omega), sm_up_same], fun k hk => ⟨(hB k hk).1, by rw [u _ _ (by omega)]; exact (hB k hk).2⟩⟩, by show 0 ≤ 3; omega, by show 0 ≤ n + 1; omega, by rw [sm_up_ne (by omega), sm_up_same], sm_up_same _ _ _ _, fun _ => ⟨rfl, 0, by omega, by rw [sm_up_ne (by omega), sm_up_ne (by omega), sm_up_same], rfl⟩⟩, fun r k w => u r k (by omega)⟩
/-- and ended -/
theorem s_30 {D x : Nat} {V : pV} {G : sm_G} {L : sm_L} {B : Nat → Nat} {n : Nat} {c : St} (hD0 : 2 ≤ D) (hr : rC G B n c) : ∃ G', sm_cv0 D 30 342 (RR V) [.ref 1] (x, G, L) = oI (if c.1 = 0 then i3 0 else i3 1) x G' L ∧ G' 2 1 = i3 0 ∧ G' 1 16 = mi c.2.1 ∧ ∀ r k, ¬ (r = 2 ∧ k = 1) → ¬ (r = 1 ∧ k = 16) → G' r k = G r k := by
  obtain ⟨d, rfl⟩ : ∃ d, D = d + 2 := ⟨D - 2, by omega⟩
  have e8 : sm_up G 2 1 (i3 0) 2 8 = mi c.2.1 := by rw [sm_up_ne (by omega)]; exact hr.2.2.2.2.1
  have u : ∀ r k, ¬ (r = 2 ∧ k = 1) → ¬ (r = 1 ∧ k = 16) → sm_up (sm_up G 2 1 (i3 0)) 1 16 (mi c.2.1) r k = G r k := fun r k w1 w2 => by rw [sm_up_ne (by omega), sm_up_ne (by omega)]
  have e5 := s_135b (d := d) (x := x) (V := V) (G := sm_up (sm_up G 2 1 (i3 0)) 1 16 (mi c.2.1)) (L := L) (c := c) hr.2.1 (by rw [u _ _ (by omega) (by omega)]; exact hr.2.2.2.1)
  rw [m_30, e8, e5, aI_o]
  refine ⟨_, ?_, by rw [sm_up_ne (by omega), sm_up_same], sm_up_same _ _ _ _, u⟩
  by_cases q : c.1 = 0
  · rw [if_pos q, zd_0]
  · rw [if_neg q, zd_1]
/-- the model's -/
theorem s_220 {D x n : Nat} {V : pV} {G : sm_G} {L : sm_L} {B : Nat → Nat} (hD0 : 3 ≤ D) (hn : n ≤ 600) (hB : ∀ k, k < n → B k < 256 ∧ G 157 k = i3 (B k)) : ∃ G', sm_cv0 D 220 342 (RR V) [.ref 156, .int (i3 n)] (x, G, L) = oV x G' L ∧ rE G' B n (0, 0, sk B n 0) ∧ G' 156 1 = i3 0 ∧ G' 156 7 = i3 0 ∧ G' 156 8 = i3 0 ∧ ∀ r k, ¬ (r = 156 ∧ 1 ≤ k ∧ k ≠ 3 ∧ k ≤ 8) → G' r k = G r k := by
  obtain ⟨d, rfl⟩ : ∃ d, D = d + 3 := ⟨D - 3, by omega⟩
  have u : ∀ r k, ¬ (r = 156 ∧ 1 ≤ k ∧ k ≠ 3 ∧ k ≤ 8) → sm_up (sm_up (sm_up (sm_up (sm_up (sm_up (sm_up G 156 1 (i3 0)) 156 2 (i3 n)) 156 4 (i3 0)) 156 5 (i3 0)) 156 6 m1) 156 7 (i3 0)) 156 8 (i3 0) r k = G r k := fun r k w => by rw [sm_up_ne (by omega), sm_up_ne (by omega), sm_up_ne (by omega), sm_up_ne (by omega), sm_up_ne (by omega), sm_up_ne (by omega), sm_up_ne (by omega)]
  have u1 : sm_up (sm_up (sm_up (sm_up (sm_up (sm_up (sm_up G 156 1 (i3 0)) 156 2 (i3 n)) 156 4 (i3 0)) 156 5 (i3 0)) 156 6 m1) 156 7 (i3 0)) 156 8 (i3 0) 156 1 = i3 0 := by rw [sm_up_ne (by omega), sm_up_ne (by omega), sm_up_ne (by omega), sm_up_ne (by omega), sm_up_ne (by omega), sm_up_ne (by omega), sm_up_same]
  have u2 : sm_up (sm_up (sm_up (sm_up (sm_up (sm_up (sm_up G 156 1 (i3 0)) 156 2 (i3 n)) 156 4 (i3 0)) 156 5 (i3 0)) 156 6 m1) 156 7 (i3 0)) 156 8 (i3 0) 156 2 = i3 n := by rw [sm_up_ne (by omega), sm_up_ne (by omega), sm_up_ne (by omega), sm_up_ne (by omega), sm_up_ne (by omega), sm_up_same]
  have u4 : sm_up (sm_up (sm_up (sm_up (sm_up (sm_up (sm_up G 156 1 (i3 0)) 156 2 (i3 n)) 156 4 (i3 0)) 156 5 (i3 0)) 156 6 m1) 156 7 (i3 0)) 156 8 (i3 0) 156 4 = i3 0 := by rw [sm_up_ne (by omega), sm_up_ne (by omega), sm_up_ne (by omega), sm_up_ne (by omega), sm_up_same]
  have u5 : sm_up (sm_up (sm_up (sm_up (sm_up (sm_up (sm_up G 156 1 (i3 0)) 156 2 (i3 n)) 156 4 (i3 0)) 156 5 (i3 0)) 156 6 m1) 156 7 (i3 0)) 156 8 (i3 0) 156 5 = i3 0 := by rw [sm_up_ne (by omega), sm_up_ne (by omega), sm_up_ne (by omega), sm_up_same]
  have u6 : sm_up (sm_up (sm_up (sm_up (sm_up (sm_up (sm_up G 156 1 (i3 0)) 156 2 (i3 n)) 156 4 (i3 0)) 156 5 (i3 0)) 156 6 m1) 156 7 (i3 0)) 156 8 (i3 0) 156 6 = m1 := by rw [sm_up_ne (by omega), sm_up_ne (by omega), sm_up_same]
  have u7 : sm_up (sm_up (sm_up (sm_up (sm_up (sm_up (sm_up G 156 1 (i3 0)) 156 2 (i3 n)) 156 4 (i3 0)) 156 5 (i3 0)) 156 6 m1) 156 7 (i3 0)) 156 8 (i3 0) 156 7 = i3 0 := by rw [sm_up_ne (by omega), sm_up_same]
  have u8 : sm_up (sm_up (sm_up (sm_up (sm_up (sm_up (sm_up G 156 1 (i3 0)) 156 2 (i3 n)) 156 4 (i3 0)) 156 5 (i3 0)) 156 6 m1) 156 7 (i3 0)) 156 8 (i3 0) 156 8 = i3 0 := sm_up_same _ _ _ _
  rw [m_220]
  generalize sm_up (sm_up (sm_up (sm_up (sm_up (sm_up (sm_up G 156 1 (i3 0)) 156 2 (i3 n)) 156 4 (i3 0)) 156 5 (i3 0)) 156 6 m1) 156 7 (i3 0)) 156 8 (i3 0) = G1 at *
  have hr : rM G1 B n (0, 0, sk B n 0) := ⟨⟨hn, u2, fun k hk => ⟨(hB k hk).1, by rw [u _ _ (by omega)]; exact (hB k hk).2⟩⟩, by show 0 ≤ 3; omega, by show 0 ≤ n + 1; omega, u5, u6, 0, by omega, u4, fun _ => ⟨rfl, rfl⟩⟩
  obtain ⟨G2, e1, e2, e3⟩ := s_221 (D := d + 2) (x := x) (V := V) (L := L) (by omega) hr
  rw [e1, aV_o]
  exact ⟨G2, rfl, e2, by rw [e3 _ _ (by omega)]; exact u1, by rw [e3 _ _ (by omega)]; exact u7, by rw [e3 _ _ (by omega)]; exact u8, fun r k w => by rw [e3 r k (by omega)]; exact u r k w⟩
