theorem block_ok {h : Nat} (hh : h ≤ 6) (hS : h < 6 → StepP (h + 1)) : BlockP h := by
  intro D E x x' V U L L' B n T w c X g st z Q hD0 hE0 hw hT hn q J hz hst hQ
  obtain ⟨d, rfl⟩ : ∃ d, D = d + 6 := ⟨D - 6, by omega⟩
  obtain ⟨e, rfl⟩ : ∃ e, E = e + 6 := ⟨E - 6, by omega⟩
  have hwl := pW_lt hw
  obtain ⟨hr, hm, x4, x5, x6, x7, g0, g1', g34, g35, g8⟩ := J
  have hcn := hr.le q
  have e5 := s_135b (d := d + 4) (x := x) (V := V) (L := L) hr.2.1 hr.2.2.2.1
  rw [if_pos q] at e5
  obtain ⟨g1, t1, t2, t3⟩ := s_221 (D := e + 5) (x := x') (V := U) (L := L') (by omega) hm
  obtain ⟨b1, b2, b3, b4⟩ := t2.at q
  have e22 := s_222 (d := e + 4) (x := x') (V := U) (L := L') (a := c.2.2) t2.1 (by omega)
  have he := bA_eq (a := c.2.2) (ch := 91) t2.1 (by omega)
  have f1 : mF g g1 := fun r k a => t3 r k (by omega)
  have h81 : g1 156 8 = i3 h := by rw [t3 _ _ (by omega)]; exact g8
  -- both in a fault
  have bad : ∀ (k : Nat) (X1 : sm_G), k ≤ 3 → k ≠ 0 → rC X1 B n (k, c.2.2 + 1, c.2.2) → tF X X1 → ∃ X' g' c', hD (d + 5) 174 39 [.ref w, .ref 2, .int (i3 h), .int (i3 0)] 342 (RR V) x X1 L = oV x X' L ∧ sm_aV (sm_cv0 (e + 5) 229 342 (RR U) [.ref 156, .int (i3 k), .int (i3 c.2.2)] (x', g1, L')) (fun x3 G3 L3 => hD (e + 5) 243 55 [.ref 156] 342 (RR U) x3 G3 L3) oX = oV x' g' L' ∧ jO X g X' g' B n c c' w T (h + 1) h 2 st z Q ∧ (c'.1 = 0 → h < 6) := by
    intro k X1 hk hk0 hr1 fX
    obtain ⟨X', u1, u2, u3⟩ := blkF_c (D := d + 5) (x := x) (V := V) (L := L) (h := h) (i := 0) (by omega) hw hr1 hk0 (by omega)
    obtain ⟨g2, v1, v2, v3, _⟩ := s_229 (d := e + 4) (x := x') (V := U) (L := L') (k := k) (s := c.2.2) t2.M hk hk0 b2
    rw [if_pos q] at v3
    refine ⟨X', g2, (k, c.2.2 + 1, c.2.2), u1, ?_, ⟨u3, v3, (fX.tr u2).W (by omega), (f1.tr v2).W, ⟨z, Nat.le_refl _, by omega, by rw [u2 _ _ (by omega), fX _ _ (by omega)]; exact x4⟩, fun y => absurd y hk0⟩, fun y => absurd y hk0⟩
    rw [v1, aV_o, h_243_55, v3.2.2.2.1, if_neg (by rw [i3_eq (by show k < _; omega) (by omega)]; exact hk0)]
  rw [m_174 hw, e5, aI_o, if_pos rfl, m_243, hm.2.2.2.1, if_pos (show i3 c.1 = i3 0 by rw [q]), t1, aV_o, b1, e22, aI_o, h81]
  by_cases y : c.2.2 < n ∧ B c.2.2 = 91
  · rw [if_pos (show bA B n c.2.2 = i3 91 by rw [he]; exact y)]
    by_cases h6 : h < 6
    · obtain ⟨X1, c1, c2, c3⟩ := s_145 (D := d + 5) (x := x) (V := V) (L := L) (ch := 91) (by omega) hr (by omega)
      have es : sgS B n 91 c = (0, 0, sk B n (c.2.2 + 1)) := by
        unfold sgS
        rw [if_pos q, if_pos y]
      rw [es] at c3
      have hs1 := sk_ge (B := B) (n := n) (a := c.2.2 + 1)
      rw [if_pos (by rw [i3_lt (by omega) (by omega)]; exact h6), h_174_31 hw, c1, aV_o, if_neg (show ¬ i3 h = i3 6 by rw [i3_eq (by omega) (by omega)]; omega), h_243_55, t2.2.2.2.1, if_pos (show i3 c.1 = i3 0 by rw [q]), h81, i3_add, sm_up_ne (by omega : (156 : Nat) ≠ 156 ∨ (4 : Nat) ≠ 8), b1, i3_add]
      have gf : ∀ r k, ¬ (r = 156 ∧ (k = 4 ∨ k = 8)) → sm_up (sm_up g1 156 8 (i3 (h + 1))) 156 4 (i3 (c.2.2 + 1)) r k = g1 r k := fun r k a => by rw [sm_up_ne (by omega), sm_up_ne (by omega)]
      have gf4 : sm_up (sm_up g1 156 8 (i3 (h + 1))) 156 4 (i3 (c.2.2 + 1)) 156 4 = i3 (c.2.2 + 1) := sm_up_same _ _ _ _
      have gf8 : sm_up (sm_up g1 156 8 (i3 (h + 1))) 156 4 (i3 (c.2.2 + 1)) 156 8 = i3 (h + 1) := by rw [sm_up_ne (by omega), sm_up_same]
      generalize sm_up (sm_up g1 156 8 (i3 (h + 1))) 156 4 (i3 (c.2.2 + 1)) = g2 at *
      have hr2 : rM g2 B n (0, 0, sk B n (c.2.2 + 1)) := ⟨t2.1.keep (fun r k a => gf r k (by omega)), by show 0 ≤ 3; omega, by show 0 ≤ n + 1; omega, by rw [gf _ _ (by omega), t2.2.2.2.1, q], by rw [gf _ _ (by omega), t2.2.2.2.2.1, b4], c.2.2 + 1, by omega, gf4, fun _ => ⟨rfl, rfl⟩⟩
      obtain ⟨g3, v1, v2, v3⟩ := s_221 (D := e + 5) (x := x') (V := U) (L := L') (by omega) hr2
      have fg : ∀ r k, ¬ (r = 156 ∧ (k = 4 ∨ k = 8)) → g3 r k = g r k := fun r k a => by rw [v3 r k (by omega), gf r k a, t3 r k (by omega)]
      rw [v1, aV_o]
      obtain ⟨X', g', c', k1, k2, r1, r2, r3, r4, r5, r6⟩ := blkL (D := d + 5) (E := e + 5) (x := x) (x' := x') (V := V) (U := U) (L := L) (L' := L') (hS h6) h6 (by omega) (by omega) hw hT hn (n + 1) (0, 0, sk B n (c.2.2 + 1)) X1 g3 st z Q 0 (by omega) rfl ⟨c3, v2.M, by rw [c2 _ _ (by omega)]; exact x4, by rw [c2 _ _ (by omega)]; exact x5, by rw [c2 _ _ (by omega)]; exact x6, by rw [c2 _ _ (by omega)]; exact x7, by rw [fg _ _ (by omega)]; exact g0, by rw [fg _ _ (by omega)]; exact g1', by rw [fg _ _ (by omega)]; exact g34, by rw [fg _ _ (by omega)]; exact g35, by rw [v3 _ _ (by omega)]; exact gf8⟩ v2 (by show 4 * z ≤ sk B n (c.2.2 + 1); omega) (by show 4 * st ≤ sk B n (c.2.2 + 1); omega) hQ (by omega)
      refine ⟨X', g', c', k1, k2, ⟨r1, r2, (c2.W (by omega)).tr r3 (Nat.le_refl _), (show mW2 st Q g g3 from fun r k a _ _ => fg r k (by omega)).tr r4 (Nat.le_refl _) (Nat.le_refl _), r5, fun u => ?_⟩, fun _ => h6⟩
      obtain ⟨w8, st2, z2, Q2, w1, w2, w3, w4, w5, w6, w7, w9⟩ := r6 u
      have w6 : sk B n (c.2.2 + 1) + 1 + 4 * z2 ≤ c'.2.2 + 4 * z := w6
      have w7 : sk B n (c.2.2 + 1) + 1 + 4 * st2 ≤ c'.2.2 + 4 * st := w7
      exact ⟨w8, st2, z2, Q2, w1, w2, w3, w4, w5, by omega, by omega, w9⟩
    · obtain ⟨X1, a1, a2, a3, a4, _⟩ := s_146 (D := d + 5) (x := x) (V := V) (L := L) (ch := 91) (by omega) hr q (by omega)
      obtain ⟨X2, p1, p2, p3⟩ := s_139 (d := d + 4) (x := x) (V := V) (L := L) (k := 3) (s := c.2.2) ⟨a3.1, a3.2.1, a3.2.2.1, a3.2.2.2.1, a3.2.2.2.2.1⟩ (by omega) (by omega) hcn
      rw [if_pos q] at p3
      obtain ⟨X3, c1, c2, c3⟩ := s_145 (D := d + 5) (x := x) (V := V) (L := L) (ch := 91) (by omega) p3 (by omega)
      rw [show sgS B n 91 (3, c.2.2 + 1, c.2.2) = (3, c.2.2 + 1, c.2.2) from if_neg (by show ¬ (3 : Nat) = 0; omega)] at c3
      rw [if_neg (by rw [i3_lt (by omega) (by omega)]; exact h6), a1, aI_o, if_pos y, if_neg (show ¬ i3 1 = i3 0 by decide), a4, p1, aV_o, h_174_31 hw, c1, aV_o, if_pos (show i3 h = i3 6 by rw [show h = 6 by omega])]
      rw [b1]
      exact bad 3 X3 (by omega) (by omega) c3 ((a2.tr p2).tr c2)
  · rw [if_neg (show ¬ bA B n c.2.2 = i3 91 by rw [he]; exact y)]
    have es : sgS B n 91 c = (1, c.2.2 + 1, c.2.2) := by
      unfold sgS
      rw [if_pos q, if_neg y]
    by_cases h6 : h < 6
    · obtain ⟨X1, c1, c2, c3⟩ := s_145 (D := d + 5) (x := x) (V := V) (L := L) (ch := 91) (by omega) hr (by omega)
      rw [es] at c3
      rw [if_pos (by rw [i3_lt (by omega) (by omega)]; exact h6), h_174_31 hw, c1, aV_o]
      rw [b1]
      exact bad 1 X1 (by omega) (by omega) c3 c2
    · obtain ⟨X0, a1, a2, a3, a4, _⟩ := s_146 (D := d + 5) (x := x) (V := V) (L := L) (ch := 91) (by omega) hr q (by omega)
      obtain ⟨X1, c1, c2, c3⟩ := s_145 (D := d + 5) (x := x) (V := V) (L := L) (ch := 91) (by omega) a3 (by omega)
      rw [es] at c3
      rw [if_neg (by rw [i3_lt (by omega) (by omega)]; exact h6), a1, aI_o, if_neg y, if_pos rfl, h_174_31 hw, c1, aV_o]
      rw [b1]
      exact bad 1 X1 (by omega) (by omega) c3 (a2.tr c2)
