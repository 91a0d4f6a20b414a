/-! begun and ended -/
theorem s_213 {D x : Nat} {V : pV} {G : sm_G} {L : sm_L} {T P : pT} (hD0 : 2 ≤ D) (hT : okT T) (hP : okP T P) (hm : mHr G T P) : ∃ G', sm_cv0 D 213 342 (RR V) [.ref 156] (x, G, L) = oV x G' L ∧ mH G' T P 0 ∧ (∀ k, k < 8 → G' 305 k = i3 k) ∧ (∀ k, k < 4 → G' 241 k = i3 0) ∧ G' 156 36 = i3 0 ∧ G' 156 38 = i3 0 ∧ G' 156 39 = i3 0 ∧ ∀ r k, ¬ (r = 156 ∧ 36 ≤ k ∧ k ≤ 39) → ¬ (r = 160 ∨ r = 162 ∨ r = 164 ∨ r = 241 ∨ r = 305) → ¬ (175 ≤ r ∧ r < 183) → ¬ (195 ≤ r ∧ r < 205) → ¬ (219 ≤ r ∧ r < 231) → ¬ (237 ≤ r ∧ r < 241) → G' r k = G r k := by
  obtain ⟨d, rfl⟩ : ∃ d, D = d + 2 := ⟨D - 2, by omega⟩
  have hB := hT.gb
  have hB2 := hP.gb
  obtain ⟨a1, a2, a3, a4, a5, a6, a7, a8, a9, a10, a11, a12⟩ := hm
  -- the numbers
  have l2 : ∃ G1, hD (d + 1) 213 2 [.ref 156, .int (i3 0)] 342 (RR V) x G L = hD (d + 1) 213 28 [.ref 156, .int (i3 0)] 342 (RR V) x G1 L ∧ (∀ k, k < 6 → G1 160 k = G 159 k) ∧ ∀ r k, r ≠ 160 → G1 r k = G r k := by
    refine loopE (H := fun i (g : sm_G) => hD (d + 1) 213 2 [.ref 156, .int (i3 i)] 342 (RR V) x g L) (Q := fun o' => ∃ G1, o' = hD (d + 1) 213 28 [.ref 156, .int (i3 0)] 342 (RR V) x G1 L ∧ (∀ k, k < 6 → G1 160 k = G 159 k) ∧ ∀ r k, r ≠ 160 → G1 r k = G r k) (N := 6)
      (fun i g1 => (∀ k, k < i → g1 160 k = G 159 k) ∧ ∀ r k, r ≠ 160 → g1 r k = G r k) ?_ ?_ 6 0 G (by omega) ⟨fun j hj => by omega, fun _ _ _ => rfl⟩
    · rintro i g1 hi ⟨w1, w2⟩
      refine ⟨sm_up g1 160 i (g1 159 i), ?_, fun k hk => ?_, fun r k h => by rw [sm_up_ne (by omega)]; exact w2 r k h⟩
      · show hD (d + 1) 213 2 _ 342 (RR V) x g1 L = _
        rw [h_213_2, if_pos (by rw [i3_lt (by omega) (by omega)]; exact hi), i3_in (by omega) hi, gd_tt, gd_tt, i3_cl (by omega), i3_add]
      · by_cases q : k = i
        · subst q; rw [sm_up_same, w2 _ _ (by omega)]
        · rw [sm_up_ne (by omega)]; exact w1 k (by omega)
    · rintro g1 ⟨w1, w2⟩
      refine ⟨g1, ?_, w1, w2⟩
      show hD (d + 1) 213 2 _ 342 (RR V) x g1 L = _
      rw [h_213_2, if_neg (by decide)]
  obtain ⟨G1, b1, b2, b3⟩ := l2
  have g160 : G1 160 0 = i3 (sl T) := by rw [b2 0 (by omega)]; exact a1
  have l28 : ∃ G2, hD (d + 1) 213 28 [.ref 156, .int (i3 0)] 342 (RR V) x G1 L = hD (d + 1) 213 58 [.ref 156, .int (i3 0)] 342 (RR V) x G2 L ∧ (∀ k, k < sl T → G2 162 k = G1 161 k) ∧ ∀ r k, r ≠ 162 → G2 r k = G1 r k := by
    refine loopE (H := fun i (g : sm_G) => hD (d + 1) 213 28 [.ref 156, .int (i3 i)] 342 (RR V) x g L) (Q := fun o' => ∃ G2, o' = hD (d + 1) 213 58 [.ref 156, .int (i3 0)] 342 (RR V) x G2 L ∧ (∀ k, k < sl T → G2 162 k = G1 161 k) ∧ ∀ r k, r ≠ 162 → G2 r k = G1 r k) (N := sl T)
      (fun i g1 => (∀ k, k < i → g1 162 k = G1 161 k) ∧ ∀ r k, r ≠ 162 → g1 r k = G1 r k) ?_ ?_ (sl T) 0 G1 (by omega) ⟨fun j hj => by omega, fun _ _ _ => rfl⟩
    · rintro i g1 hi ⟨w1, w2⟩
      refine ⟨sm_up g1 162 i (g1 161 i), ?_, fun k hk => ?_, fun r k h => by rw [sm_up_ne (by omega)]; exact w2 r k h⟩
      · show hD (d + 1) 213 28 _ 342 (RR V) x g1 L = _
        rw [h_213_28, w2 _ _ (by omega), g160, if_pos (by rw [i3_lt (by omega) (by omega)]; exact hi), i3_in (by omega) (by omega), gd_tt, gd_tt, i3_cl (by omega), i3_add]
      · by_cases q : k = i
        · subst q; rw [sm_up_same, w2 _ _ (by omega)]
        · rw [sm_up_ne (by omega)]; exact w1 k (by omega)
    · rintro g1 ⟨w1, w2⟩
      refine ⟨g1, ?_, w1, w2⟩
      show hD (d + 1) 213 28 _ 342 (RR V) x g1 L = _
      rw [h_213_28, w2 _ _ (by omega), g160, if_neg (by rw [i3_lt (by omega) (by omega)]; omega)]
  obtain ⟨G2, c1, c2, c3⟩ := l28
  have l58 : ∀ (F : sm_G → Option (sm_Res × sm_D)), (∀ g : sm_G, (∀ k, k < 6 → g 164 k = G2 163 k) → (∀ r k, r ≠ 164 → g r k = G2 r k) → hD (d + 1) 213 58 [.ref 156, .int (i3 6)] 342 (RR V) x g L = F g) → ∃ G3, hD (d + 1) 213 58 [.ref 156, .int (i3 0)] 342 (RR V) x G2 L = F G3 ∧ (∀ k, k < 6 → G3 164 k = G2 163 k) ∧ ∀ r k, r ≠ 164 → G3 r k = G2 r k := by
    intro F hF
    refine loopE (H := fun i (g : sm_G) => hD (d + 1) 213 58 [.ref 156, .int (i3 i)] 342 (RR V) x g L) (Q := fun o' => ∃ G3, o' = F G3 ∧ (∀ k, k < 6 → G3 164 k = G2 163 k) ∧ ∀ r k, r ≠ 164 → G3 r k = G2 r k) (N := 6)
      (fun i g1 => (∀ k, k < i → g1 164 k = G2 163 k) ∧ ∀ r k, r ≠ 164 → g1 r k = G2 r k) ?_ ?_ 6 0 G2 (by omega) ⟨fun j hj => by omega, fun _ _ _ => rfl⟩
    · rintro i g1 hi ⟨w1, w2⟩
      refine ⟨sm_up g1 164 i (g1 163 i), ?_, fun k hk => ?_, fun r k h => by rw [sm_up_ne (by omega)]; exact w2 r k h⟩
      · show hD (d + 1) 213 58 _ 342 (RR V) x g1 L = _
        rw [h_213_58, if_pos (by rw [i3_lt (by omega) (by omega)]; exact hi), i3_in (by omega) hi, gd_tt, gd_tt, i3_cl (by omega), i3_add]
      · by_cases q : k = i
        · subst q; rw [sm_up_same, w2 _ _ (by omega)]
        · rw [sm_up_ne (by omega)]; exact w1 k (by omega)
    · rintro g1 ⟨w1, w2⟩
      exact ⟨g1, hF g1 w1 w2, w1, w2⟩
  -- the last rows
  have l172 : ∀ g : sm_G, ∃ g', hD (d + 1) 213 172 [.ref 156, .int (i3 0)] 342 (RR V) x g L = oV x g' L ∧ (∀ k, k < 8 → g' 305 k = i3 k) ∧ g' 156 36 = i3 0 ∧ g' 156 37 = i3 0 ∧ g' 156 38 = i3 0 ∧ g' 156 39 = i3 0 ∧ ∀ r k, r ≠ 305 → ¬ (r = 156 ∧ 36 ≤ k ∧ k ≤ 39) → g' r k = g r k := fun g => by
    refine loopE (H := fun i (g : sm_G) => hD (d + 1) 213 172 [.ref 156, .int (i3 i)] 342 (RR V) x g L) (Q := fun o' => ∃ g', o' = oV x g' L ∧ (∀ k, k < 8 → g' 305 k = i3 k) ∧ g' 156 36 = i3 0 ∧ g' 156 37 = i3 0 ∧ g' 156 38 = i3 0 ∧ g' 156 39 = i3 0 ∧ ∀ r k, r ≠ 305 → ¬ (r = 156 ∧ 36 ≤ k ∧ k ≤ 39) → g' r k = g r k) (N := 8)
      (fun i g1 => (∀ k, k < i → g1 305 k = i3 k) ∧ ∀ r k, r ≠ 305 → g1 r k = g r k) ?_ ?_ 8 0 g (by omega) ⟨fun j hj => by omega, fun _ _ _ => rfl⟩
    · rintro i g1 hi ⟨w1, w2⟩
      refine ⟨sm_up g1 305 i (i3 i), ?_, fun k hk => ?_, fun r k h => by rw [sm_up_ne (by omega)]; exact w2 r k h⟩
      · show hD (d + 1) 213 172 _ 342 (RR V) x g1 L = _
        rw [h_213_172, if_pos (by rw [i3_lt (by omega) (by omega)]; exact hi), i3_in (by omega) hi, gd_tt, i3_cl (by omega), i3_add]
      · by_cases q : k = i
        · subst q; exact sm_up_same _ _ _ _
        · rw [sm_up_ne (by omega)]; exact w1 k (by omega)
    · rintro g1 ⟨w1, w2⟩
      refine ⟨sm_up (sm_up (sm_up (sm_up g1 156 36 (i3 0)) 156 37 (i3 0)) 156 38 (i3 0)) 156 39 (i3 0), ?_, fun k hk => by rw [sm_up_ne (by omega), sm_up_ne (by omega), sm_up_ne (by omega), sm_up_ne (by omega)]; exact w1 k hk, ?_, ?_, ?_, sm_up_same _ _ _ _, fun r k h1 h2 => by rw [sm_up_ne (by omega), sm_up_ne (by omega), sm_up_ne (by omega), sm_up_ne (by omega)]; exact w2 r k h1⟩
      · show hD (d + 1) 213 172 _ 342 (RR V) x g1 L = _
        rw [h_213_172, if_neg (by decide)]
      · rw [sm_up_ne (by omega), sm_up_ne (by omega), sm_up_ne (by omega), sm_up_same]
      · rw [sm_up_ne (by omega), sm_up_ne (by omega), sm_up_same]
      · rw [sm_up_ne (by omega), sm_up_same]
  have l152 : ∀ g : sm_G, ∃ g', hD (d + 1) 213 152 [.ref 156, .int (i3 0)] 342 (RR V) x g L = hD (d + 1) 213 172 [.ref 156, .int (i3 0)] 342 (RR V) x g' L ∧ (∀ k, k < 4 → g' 241 k = i3 0) ∧ ∀ r k, r ≠ 241 → g' r k = g r k := fun g => by
    refine loopE (H := fun i (g : sm_G) => hD (d + 1) 213 152 [.ref 156, .int (i3 i)] 342 (RR V) x g L) (Q := fun o' => ∃ g', o' = hD (d + 1) 213 172 [.ref 156, .int (i3 0)] 342 (RR V) x g' L ∧ (∀ k, k < 4 → g' 241 k = i3 0) ∧ ∀ r k, r ≠ 241 → g' r k = g r k) (N := 4)
      (fun i g1 => (∀ k, k < i → g1 241 k = i3 0) ∧ ∀ r k, r ≠ 241 → g1 r k = g r k) ?_ ?_ 4 0 g (by omega) ⟨fun j hj => by omega, fun _ _ _ => rfl⟩
    · rintro i g1 hi ⟨w1, w2⟩
      refine ⟨sm_up g1 241 i (i3 0), ?_, fun k hk => ?_, fun r k h => by rw [sm_up_ne (by omega)]; exact w2 r k h⟩
      · show hD (d + 1) 213 152 _ 342 (RR V) x g1 L = _
        rw [h_213_152, if_pos (by rw [i3_lt (by omega) (by omega)]; exact hi), i3_in (by omega) hi, gd_tt, i3_cl (by omega), i3_add]
      · by_cases q : k = i
        · subst q; exact sm_up_same _ _ _ _
        · rw [sm_up_ne (by omega)]; exact w1 k (by omega)
    · rintro g1 ⟨w1, w2⟩
      refine ⟨g1, ?_, w1, w2⟩
      show hD (d + 1) 213 152 _ 342 (RR V) x g1 L = _
      rw [h_213_152, if_neg (by decide)]
  obtain ⟨G3, d1, d2, d3⟩ := l58 (fun g => hD (d + 1) 213 58 [.ref 156, .int (i3 6)] 342 (RR V) x g L) (fun g _ _ => rfl)
  have f3 : ∀ r k, r ≠ 160 → r ≠ 162 → r ≠ 164 → G3 r k = G r k := fun r k h1 h2 h3 => by rw [d3 r k h3, c3 r k h2, b3 r k h1]
  have g3 : ∀ k, k < 6 → G3 160 k = G 159 k := fun k hk => by rw [d3 _ _ (by omega), c3 _ _ (by omega)]; exact b2 k hk
  obtain ⟨G4, u1, u2, u3⟩ := s_214 (D := d + 1) (x := x) (V := V) (G := G3) (L := L) (r0 := 165) (r1 := 174) (a := 166) (b := 175) (M := 8) (N := 3) (m := sl T) (by omega) hB.1 (by omega) (by omega) (by omega) (fun k hk => ⟨rr_165 hk, rr_174 hk, kr_165 hk, nr_165 hk, kr_174 hk, nr_174 hk⟩) (by decide +kernel) (by decide +kernel) n_165 n_174
  obtain ⟨G5, v1, v2, v3⟩ := s_214 (D := d + 1) (x := x) (V := V) (G := G4) (L := L) (r0 := 183) (r1 := 194) (a := 184) (b := 195) (M := 10) (N := 3) (m := dn T) (by omega) hB.2.1 (by omega) (by omega) (by omega) (fun k hk => ⟨rr_183 hk, rr_194 hk, kr_183 hk, nr_183 hk, kr_194 hk, nr_194 hk⟩) (by decide +kernel) (by decide +kernel) n_183 n_194
  obtain ⟨G6, w1, w2, w3⟩ := s_214 (D := d + 1) (x := x) (V := V) (G := G5) (L := L) (r0 := 205) (r1 := 218) (a := 206) (b := 219) (M := 12) (N := 2) (m := nn P) (by omega) hB2 (by omega) (by omega) (by omega) (fun k hk => ⟨rr_205 hk, rr_218 hk, kr_205 hk, nr_205 hk, kr_218 hk, nr_218 hk⟩) (by decide +kernel) (by decide +kernel) n_205 n_218
  obtain ⟨G7, y1, y2, y3⟩ := s_214 (D := d + 1) (x := x) (V := V) (G := G6) (L := L) (r0 := 231) (r1 := 236) (a := 232) (b := 237) (M := 4) (N := 2) (m := dr T) (by omega) hB.2.2.2.1 (by omega) (by omega) (by omega) (fun k hk => ⟨rr_231 hk, rr_236 hk, kr_231 hk, nr_231 hk, kr_236 hk, nr_236 hk⟩) (by decide +kernel) (by decide +kernel) n_231 n_236
  obtain ⟨G8, z1, z2, z3⟩ := l152 G7
  obtain ⟨G9, q1, q2, q3, q4, q5, q6, q7⟩ := l172 G8
  have e0 : G3 160 0 = i3 (sl T) := by rw [g3 0 (by omega)]; exact a1
  have e1 : G4 160 1 = i3 (dn T) := by rw [u3 _ _ (by omega), g3 1 (by omega)]; exact a2
  have e2 : G5 160 2 = i3 (nn P) := by rw [v3 _ _ (by omega), u3 _ _ (by omega), g3 2 (by omega)]; exact a3
  have e4 : G6 160 4 = i3 (dr T) := by rw [w3 _ _ (by omega), v3 _ _ (by omega), u3 _ _ (by omega), g3 4 (by omega)]; exact a5
  have f9 : ∀ r k, ¬ (r = 156 ∧ 36 ≤ k ∧ k ≤ 39) → ¬ (r = 241 ∨ r = 305) → ¬ (175 ≤ r ∧ r < 183) → ¬ (195 ≤ r ∧ r < 205) → ¬ (219 ≤ r ∧ r < 231) → ¬ (237 ≤ r ∧ r < 241) → G9 r k = G3 r k := fun r k h1 h2 h3 h4 h5 h6 => by
    rw [q7 r k (by omega) h1, z3 r k (by omega), y3 r k (by omega), w3 r k (by omega), v3 r k (by omega), u3 r k (by omega)]
  have s9 : ∀ k, k < sl T → ∀ i, i < 3 → G9 (175 + k) i = G (166 + k) i := fun k hk i hi => by
    rw [q7 _ _ (by omega) (by omega), z3 _ _ (by omega), y3 _ _ (by omega), w3 _ _ (by omega), v3 _ _ (by omega), u2 k hk i hi]
    exact f3 _ _ (by omega) (by omega) (by omega)
  have t9 : ∀ k, k < dn T → ∀ i, i < 3 → G9 (195 + k) i = G (184 + k) i := fun k hk i hi => by
    rw [q7 _ _ (by omega) (by omega), z3 _ _ (by omega), y3 _ _ (by omega), w3 _ _ (by omega), v2 k hk i hi, u3 _ _ (by omega)]
    exact f3 _ _ (by omega) (by omega) (by omega)
  have n9 : ∀ k, k < nn P → ∀ i, i < 2 → G9 (219 + k) i = G (206 + k) i := fun k hk i hi => by
    rw [q7 _ _ (by omega) (by omega), z3 _ _ (by omega), y3 _ _ (by omega), w2 k hk i hi, v3 _ _ (by omega), u3 _ _ (by omega)]
    exact f3 _ _ (by omega) (by omega) (by omega)
  have d9 : ∀ k, k < dr T → ∀ i, i < 2 → G9 (237 + k) i = G (232 + k) i := fun k hk i hi => by
    rw [q7 _ _ (by omega) (by omega), z3 _ _ (by omega), y2 k hk i hi, w3 _ _ (by omega), v3 _ _ (by omega), u3 _ _ (by omega)]
    exact f3 _ _ (by omega) (by omega) (by omega)
  have k9 : ∀ k, k < 6 → G9 160 k = G 159 k := fun k hk => by rw [f9 _ _ (by omega) (by omega) (by omega) (by omega) (by omega) (by omega)]; exact g3 k hk
  refine ⟨G9, ?_, ⟨by rw [k9 0 (by omega)]; exact a1, by rw [k9 1 (by omega)]; exact a2, by rw [k9 2 (by omega)]; exact a3, by rw [k9 3 (by omega)]; exact a4, by rw [k9 4 (by omega)]; exact a5, by rw [k9 5 (by omega)]; exact a6, q4, fun k hk => ?_, fun k hk => ?_, fun k hk => by rw [s9 k hk 0 (by omega)]; exact (a9 k hk).1, fun k hk => by rw [s9 k hk 1 (by omega)]; exact (a9 k hk).2.1, fun k hk => by rw [s9 k hk 2 (by omega)]; exact (a9 k hk).2.2, fun k hk => by rw [t9 k hk 0 (by omega)]; exact (a10 k hk).1, fun k hk => by rw [t9 k hk 1 (by omega)]; exact (a10 k hk).2.1, fun k hk => by rw [t9 k hk 2 (by omega)]; exact (a10 k hk).2.2, fun k hk => by rw [n9 k hk 0 (by omega)]; exact (a11 k hk).1, fun k hk => by rw [n9 k hk 1 (by omega)]; exact (a11 k hk).2, fun k hk => by rw [d9 k hk 0 (by omega)]; exact (a12 k hk).1, fun k hk => by rw [d9 k hk 1 (by omega)]; exact (a12 k hk).2⟩, q2, fun k hk => by rw [q7 _ _ (by omega) (by omega)]; exact z2 k hk, q3, q5, q6, fun r k h1 h2 h3 h4 h5 h6 => by rw [f9 r k h1 (by omega) h3 h4 h5 h6]; exact f3 r k (by omega) (by omega) (by omega)⟩
  · rw [m_213, b1, c1, d1, h_213_58, if_neg (by decide), e0, u1, aV_o, e1, v1, aV_o, e2, w1, aV_o, e4, y1, aV_o, z1, q1]
  · rw [f9 _ _ (by omega) (by omega) (by omega) (by omega) (by omega) (by omega), d3 _ _ (by omega), c2 k hk, b3 _ _ (by omega)]
    exact a7 k hk
  · rw [f9 _ _ (by omega) (by omega) (by omega) (by omega) (by omega) (by omega), d2 k hk, c3 _ _ (by omega), b3 _ _ (by omega)]
    exact a8 k hk
