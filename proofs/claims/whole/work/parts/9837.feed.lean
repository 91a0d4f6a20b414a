/-! feed -/
theorem up_32 {G : sm_G} {k j : Nat} {v : Int32} : sm_up G 3 k v 2 j = G 2 j := rfl
theorem up_157 {G : sm_G} {k j : Nat} {v : Int32} : sm_up G 157 k v 156 j = G 156 j := rfl
theorem ex_n (a : Int32) : ∃ n, a = i3 n := ⟨a.toBitVec.toNat, by
  apply Int32.toBitVec_inj.mp
  show a.toBitVec = BitVec.ofNat 32 a.toBitVec.toNat
  rw [BitVec.ofNat_toNat, BitVec.setWidth_eq]⟩
theorem and_255 (a : Int32) : ∃ b, b < 256 ∧ a &&& i3 255 = i3 b := by
  obtain ⟨n, rfl⟩ := ex_n a
  exact ⟨n &&& 255, Nat.lt_of_le_of_lt Nat.and_le_right (by decide), i3_and n 255⟩
theorem i2b_255 (a : Int32) : i2b (a &&& i3 255) = i2b a := by
  unfold i2b
  rw [Int32.toInt8_and, show (i3 255).toInt8 = -1 from rfl, Int8.and_neg_one]
theorem i2b_2 (a : Int32) : i2b (i2b a) = i2b a := by
  unfold i2b
  rw [Int8.toInt8_toInt32]
theorem shr_0 (a : Int32) : shr a (i3 0) = a := by
  unfold shr
  rw [show i3 0 &&& 31 = 0 from rfl, Int32.shiftRight_zero]
theorem s_133 {d x : Nat} {V : pV} {G : sm_G} {L : sm_L} {f : Nat} {v : Int32} (hf : G 2 1 = i3 f) (h4 : f + 4 ≤ 600) : ∃ G', sm_cv0 (d + 2) 133 342 (RR V) [.ref 2, .int v] (x, G, L) = oV x G' L ∧ (∀ r k, r ≠ 3 → ¬ (r = 2 ∧ k = 1) → G' r k = G r k) ∧ G' 2 1 = i3 (f + 4) ∧ (∀ k, k < f → G' 3 k = G 3 k) ∧ ∀ j, j < 4 → G' 3 (f + j) = i2b (shr v (i3 (24 - 8 * j))) := by
  have e132 := s_132 (d := d) (x := x) (V := V) (G := G) (L := L) (k := 4) hf (by omega) (by decide)
  refine ⟨sm_up (sm_up (sm_up (sm_up (sm_up G 3 f (i2b (shr v (i3 24)))) 3 (f + 1) (i2b (shr v (i3 16)))) 3 (f + 2) (i2b (shr v (i3 8)))) 3 (f + 3) (i2b v)) 2 1 (i3 (f + 4)), ?_, fun r k a1 a2 => ?_, sm_up_same _ _ _ _, fun k hk => ?_, fun j hj => ?_⟩
  · rw [m_133, e132, if_pos h4, aI_o, if_neg (by decide)]
    simp only [up_32, hf, i2b_2, i3_add]
    rw [i3_in (by omega) (by omega), i3_in (by omega) (by omega), i3_in (by omega) (by omega), i3_in (by omega) (by omega)]
    simp only [gd_tt]
    rw [i3_cl (by omega), i3_cl (by omega), i3_cl (by omega), i3_cl (by omega)]
  · rw [sm_up_ne (by omega), sm_up_ne (by omega), sm_up_ne (by omega), sm_up_ne (by omega), sm_up_ne (by omega)]
  · rw [sm_up_ne (by omega), sm_up_ne (by omega), sm_up_ne (by omega), sm_up_ne (by omega), sm_up_ne (by omega)]
  · rw [sm_up_ne (by omega)]
    obtain rfl | rfl | rfl | rfl : j = 0 ∨ j = 1 ∨ j = 2 ∨ j = 3 := by omega
    · rw [sm_up_ne (by omega), sm_up_ne (by omega), sm_up_ne (by omega)]
      exact sm_up_same _ _ _ _
    · rw [sm_up_ne (by omega), sm_up_ne (by omega)]
      exact sm_up_same _ _ _ _
    · rw [sm_up_ne (by omega)]
      exact sm_up_same _ _ _ _
    · rw [sm_up_same]
      show i2b v = i2b (shr v (i3 0))
      rw [shr_0]
/-- the i-th byte is of this one -/
def fvv (v1 v2 v3 v4 v5 : Int32) (i : Nat) : Int32 := if i < 4 then v1 else if i < 8 then v2 else if i < 12 then v3 else if i < 16 then v4 else v5
theorem s_11 {d x : Nat} {V : pV} {G : sm_G} {L : sm_L} {f : Nat} {v1 v2 v3 v4 v5 : Int32} (hf : G 2 1 = i3 f) (h4 : f + 20 ≤ 600) : ∃ G', sm_cv0 (d + 3) 11 342 (RR V) [.ref 1, .int v1, .int v2, .int v3, .int v4, .int v5] (x, G, L) = oI (i3 (f + 20)) x G' L ∧ (∀ r k, r ≠ 3 → ¬ (r = 2 ∧ k = 1) → G' r k = G r k) ∧ G' 2 1 = i3 (f + 20) ∧ (∀ k, k < f → G' 3 k = G 3 k) ∧ ∀ i, i < 20 → G' 3 (f + i) = i2b (shr (fvv v1 v2 v3 v4 v5 i) (i3 (24 - 8 * (i % 4)))) := by
  have e132 := s_132 (d := d + 1) (x := x) (V := V) (G := G) (L := L) (k := 20) hf (by omega) (by decide)
  obtain ⟨G1, a1, a2, a3, a4, a5⟩ := s_133 (d := d) (x := x) (V := V) (L := L) (v := v1) hf (by omega)
  obtain ⟨G2, b1, b2, b3, b4, b5⟩ := s_133 (d := d) (x := x) (V := V) (L := L) (v := v2) a3 (by omega)
  obtain ⟨G3, c1, c2, c3, c4, c5⟩ := s_133 (d := d) (x := x) (V := V) (L := L) (v := v3) b3 (by omega)
  obtain ⟨G4, d1, d2, d3, d4, d5⟩ := s_133 (d := d) (x := x) (V := V) (L := L) (v := v4) c3 (by omega)
  obtain ⟨G5, e1, e2, e3, e4, e5⟩ := s_133 (d := d) (x := x) (V := V) (L := L) (v := v5) d3 (by omega)
  refine ⟨G5, ?_, fun r k p q => ?_, e3, fun k hk => ?_, fun i hi => ?_⟩
  · rw [m_11]
    have e132' : sm_cv0 (d + 2) 132 342 (RR V) [.ref 2, .int (i3 20)] (x, G, L) = oI (if f + 20 ≤ 600 then i3 1 else i3 0) x G L := e132
    rw [e132', if_pos h4, aI_o, if_neg (by decide), a1, aV_o, b1, aV_o, c1, aV_o, d1, aV_o, e1, aV_o, e3]
  · rw [e2 r k p q, d2 r k p q, c2 r k p q, b2 r k p q, a2 r k p q]
  · rw [e4 k (by omega), d4 k (by omega), c4 k (by omega), b4 k (by omega), a4 k (by omega)]
  · unfold fvv
    by_cases q1 : i < 4
    · rw [if_pos q1, e4 _ (by omega), d4 _ (by omega), c4 _ (by omega), b4 _ (by omega), a5 i q1, Nat.mod_eq_of_lt q1]
    · rw [if_neg q1]
      by_cases q2 : i < 8
      · have := b5 (i - 4) (by omega)
        rw [if_pos q2, e4 _ (by omega), d4 _ (by omega), c4 _ (by omega), show f + i = f + 4 + (i - 4) by omega, this, show i % 4 = i - 4 by omega]
      · rw [if_neg q2]
        by_cases q3 : i < 12
        · have := c5 (i - 8) (by omega)
          rw [if_pos q3, e4 _ (by omega), d4 _ (by omega), show f + i = f + 4 + 4 + (i - 8) by omega, this, show i % 4 = i - 8 by omega]
        · rw [if_neg q3]
          by_cases q4 : i < 16
          · have := d5 (i - 12) (by omega)
            rw [if_pos q4, e4 _ (by omega), show f + i = f + 4 + 4 + 4 + (i - 12) by omega, this, show i % 4 = i - 12 by omega]
          · have := e5 (i - 16) (by omega)
            rw [if_neg q4, show f + i = f + 4 + 4 + 4 + 4 + (i - 16) by omega, this, show i % 4 = i - 16 by omega]
theorem rem4 : ∀ i, i < 20 → i3 24 - i3 8 * irem (i3 i) (i3 4) = i3 (24 - 8 * (i % 4)) := by decide +kernel
theorem l_216 {d x : Nat} {V : pV} {G : sm_G} {L : sm_L} {f : Nat} {v1 v2 v3 v4 v5 : Int32} (hf : G 156 1 = i3 f) (h4 : f + 20 ≤ 600) : ∃ G', hD d 216 23 [.ref 156, .int v1, .int v2, .int v3, .int v4, .int v5, .int (i3 0), .null] 342 (RR V) x G L = oI (i3 (f + 20)) x G' L ∧ (∀ r k, r ≠ 157 → ¬ (r = 156 ∧ k = 1) → G' r k = G r k) ∧ G' 156 1 = i3 (f + 20) ∧ (∀ k, k < f → G' 157 k = G 157 k) ∧ ∀ i, i < 20 → G' 157 (f + i) = shr (fvv v1 v2 v3 v4 v5 i) (i3 (24 - 8 * (i % 4))) &&& i3 255 := by
  refine loopE (H := fun i (g : sm_G) => hD d 216 23 [.ref 156, .int v1, .int v2, .int v3, .int v4, .int v5, .int (i3 i), .null] 342 (RR V) x g L) (Q := fun o' => ∃ G', o' = oI (i3 (f + 20)) x G' L ∧ (∀ r k, r ≠ 157 → ¬ (r = 156 ∧ k = 1) → G' r k = G r k) ∧ G' 156 1 = i3 (f + 20) ∧ (∀ k, k < f → G' 157 k = G 157 k) ∧ ∀ i, i < 20 → G' 157 (f + i) = shr (fvv v1 v2 v3 v4 v5 i) (i3 (24 - 8 * (i % 4))) &&& i3 255) (N := 20)
    (fun n g => (∀ r k, r ≠ 157 → ¬ (r = 156 ∧ k = 1) → g r k = G r k) ∧ g 156 1 = i3 (f + n) ∧ (∀ k, k < f → g 157 k = G 157 k) ∧ ∀ i, i < n → g 157 (f + i) = shr (fvv v1 v2 v3 v4 v5 i) (i3 (24 - 8 * (i % 4))) &&& i3 255) ?_ ?_ 20 0 G (by omega) ⟨fun _ _ _ _ => rfl, hf, fun _ _ => rfl, fun i hi => by omega⟩
  · rintro i g hi ⟨w1, w2, w3, w4⟩
    have t : ∀ v, hD d 216 78 [.ref 156, .int v1, .int v2, .int v3, .int v4, .int v5, .int (i3 i), .int v] 342 (RR V) x g L = hD d 216 23 [.ref 156, .int v1, .int v2, .int v3, .int v4, .int v5, .int (i3 (i + 1)), .null] 342 (RR V) x (sm_up (sm_up g 157 (f + i) (shr v (i3 (24 - 8 * (i % 4))) &&& i3 255)) 156 1 (i3 (f + i + 1))) L := fun v => by
      rw [h_216_78, up_157, w2, rem4 i hi, i3_in (by omega) (by omega), gd_tt, i3_cl (by omega), i3_add, i3_add]
    refine ⟨sm_up (sm_up g 157 (f + i) (shr (fvv v1 v2 v3 v4 v5 i) (i3 (24 - 8 * (i % 4))) &&& i3 255)) 156 1 (i3 (f + i + 1)), ?_, fun r k a1 a2 => ?_, sm_up_same _ _ _ _, fun k hk => ?_, fun k hk => ?_⟩
    · show hD d 216 23 _ 342 (RR V) x g L = _
      rw [h_216_23, if_pos (show i3 i < i3 20 by rw [i3_lt (by omega) (by omega)]; exact hi)]
      unfold fvv
      by_cases q1 : i < 4
      · rw [if_pos (show i3 i < i3 4 by rw [i3_lt (by omega) (by omega)]; exact q1), t, if_pos q1]
      · rw [if_neg (show ¬ i3 i < i3 4 by rw [i3_lt (by omega) (by omega)]; exact q1), if_neg q1]
        by_cases q2 : i < 8
        · rw [if_pos (show i3 i < i3 8 by rw [i3_lt (by omega) (by omega)]; exact q2), t, if_pos q2]
        · rw [if_neg (show ¬ i3 i < i3 8 by rw [i3_lt (by omega) (by omega)]; exact q2), if_neg q2]
          by_cases q3 : i < 12
          · rw [if_pos (show i3 i < i3 12 by rw [i3_lt (by omega) (by omega)]; exact q3), t, if_pos q3]
          · rw [if_neg (show ¬ i3 i < i3 12 by rw [i3_lt (by omega) (by omega)]; exact q3), if_neg q3]
            by_cases q4 : i < 16
            · rw [if_pos (show i3 i < i3 16 by rw [i3_lt (by omega) (by omega)]; exact q4), t, if_pos q4]
            · rw [if_neg (show ¬ i3 i < i3 16 by rw [i3_lt (by omega) (by omega)]; exact q4), t, if_neg q4]
    · rw [sm_up_ne (by omega), sm_up_ne (by omega)]; exact w1 r k a1 a2
    · rw [sm_up_ne (by omega), sm_up_ne (by omega)]; exact w3 k hk
    · rw [sm_up_ne (by omega)]
      by_cases q : k = i
      · subst q
        exact sm_up_same _ _ _ _
      · rw [sm_up_ne (by omega)]; exact w4 k (by omega)
  · rintro g ⟨w1, w2, w3, w4⟩
    refine ⟨g, ?_, w1, w2, w3, w4⟩
    show hD d 216 23 _ 342 (RR V) x g L = _
    rw [h_216_23, if_neg (show ¬ i3 20 < i3 20 by decide), w2]
theorem IvS.keepT {V : pV} {G G' : sm_G} {T : pT} {K c : Nat} {H W : Nat → pT} (h : IvS V G T K c H W) (hs : ∀ r k, ¬ sc r k → ¬ (r = 2 ∧ k = 1) → ¬ (r = 156 ∧ k = 1) → r ≠ 3 → r ≠ 157 → G' r k = G r k) (ht : ivT G') : IvS V G' T K c H W := by
  obtain ⟨h1, h2, h3, h4, h5, h6, h7, h8, h9, h10, h11, h12, h13, h14, h15⟩ := h
  have hs1 := pS_lt h1.1.1
  have hb := pB_lt h1.1.2.2.2.1
  unfold sc at hs
  refine ⟨h1, h2, h3, h4, h5.keep (fun r k a => hs r k (by unfold inC at a; omega) (by unfold inC at a; omega) (by unfold inC at a; omega) (by unfold inC at a; omega) (by unfold inC at a; omega)), h6.keep (fun r k a b => hs r k (by omega) (by omega) (by omega) (by omega) (by omega)), h7.keep h2 h3 (fun r k a => hs r k (by unfold inM at a; omega) (by unfold inM at a; omega) (by unfold inM at a; omega) (by unfold inM at a; omega) (by unfold inM at a; omega)), fun k hk => by rw [hs _ _ (by omega) (by omega) (by omega) (by omega) (by omega)]; exact h8 k hk, ht, h10.keep (fun r k a => hs r k (by omega) (by omega) (by omega) (by omega) (by omega)), h11.keep (fun r k a b => hs r k (by omega) (by omega) (by omega) (by omega) (by omega)), h12.keep h11.1 (fun r k a => hs r k (by omega) (by omega) (by omega) (by omega) (by omega)), h13.keep (fun r k a => hs r k (by omega) (by omega) (by omega) (by omega) (by omega)), h14.keep (fun r k a => hs r k (by omega) (by omega) (by omega) (by omega) (by omega)), h15.keep h1.1 (fun r k a => hs r k (by omega) (by omega) (by omega) (by omega) (by omega))⟩
theorem op_11 {d x : Nat} {V : pV} {G : sm_G} {L : sm_L} {v1 v2 v3 v4 v5 : Int32} {E : Nat → Nat} (I : Inv V G) : OpI d x V G L 11 [.ref 1, .int v1, .int v2, .int v3, .int v4, .int v5] 216 [.ref 156, .int v1, .int v2, .int v3, .int v4, .int v5] E := by
  obtain ⟨T, K, c, H, W, hS, hh, hn⟩ := I
  obtain ⟨f, hf, t1, t2, t3⟩ := hS.t
  refine OpI_0 (X := sm_cv0 (d + 60) 11 342 (RR V) [.ref 1, .int v1, .int v2, .int v3, .int v4, .int v5] (x, G, L)) rfl ?_
  by_cases q : f + 20 ≤ 600
  · obtain ⟨G1, a1, a2, a3, a4, a5⟩ := s_11 (d := d + 57) (x := x) (V := V) (L := L) (v1 := v1) (v2 := v2) (v3 := v3) (v4 := v4) (v5 := v5) t1 q
    have g1 : g00 G1 156 1 = i3 f := by rw [g00_ne (by omega), a2 _ _ (by omega) (by omega)]; exact t2
    obtain ⟨G2, b1, b2, b3, b4, b5⟩ := l_216 (d := d + 59) (x := x) (V := V) (L := L) (v1 := v1) (v2 := v2) (v3 := v3) (v4 := v4) (v5 := v5) g1 q
    have cl : ∀ r k, r ≠ 157 → ¬ (r = 156 ∧ (k = 0 ∨ k = 1)) → G2 r k = G1 r k := fun r k p1 p2 => by rw [b2 r k p1 (by omega)]; exact g00_ne (by omega)
    have fr : ∀ r k, r ≠ 157 → r ≠ 3 → ¬ (r = 2 ∧ k = 1) → ¬ (r = 156 ∧ (k = 0 ∨ k = 1)) → G2 r k = G r k := fun r k p1 p2 p3 p4 => by rw [cl r k p1 p4]; exact a2 r k p2 p3
    have hT : ivT G2 := by
      refine ⟨f + 20, q, by rw [cl _ _ (by omega) (by omega)]; exact a3, b3, fun k hk => ?_⟩
      by_cases z : k < f
      · obtain ⟨b, y1, y2, y3⟩ := t3 k z
        refine ⟨b, y1, ?_, ?_⟩
        · rw [b4 k z, g00_ne (by omega), a2 _ _ (by omega) (by omega)]; exact y2
        · rw [cl _ _ (by omega) (by omega), a4 k z]; exact y3
      · obtain ⟨i, rfl⟩ : ∃ i, k = f + i := ⟨k - f, by omega⟩
        obtain ⟨b, y1, y2⟩ := and_255 (shr (fvv v1 v2 v3 v4 v5 i) (i3 (24 - 8 * (i % 4))))
        refine ⟨b, y1, ?_, ?_⟩
        · rw [b5 i (by omega), y2]
        · rw [cl _ _ (by omega) (by omega), a5 i (by omega), ← i2b_255, y2]
    refine ⟨i3 (f + 20), G1, G2, a1, ?_, by rw [b2 _ _ (by omega) (by omega)]; exact g00_0, T, K, c, H, W, hS.keepT (fun r k p1 p2 p3 p4 p5 => fr r k p5 p4 p2 (fun z => p1 (by unfold sc; omega))) hT, hh.keep (fr _ _ (by omega) (by omega) (by omega) (by omega)) (fun r k _ _ => fr _ _ (by omega) (by omega) (by omega) (by omega)), hn.keep hS.T (fr _ _ (by omega) (by omega) (by omega) (by omega)) (fun r k _ _ => fr _ _ (by omega) (by omega) (by omega) (by omega))⟩
    have g1' : sm_up G1 156 0 (i3 0) 156 1 = i3 f := g1
    rw [m_216, g1', i3_add, if_pos (show i3 (f + 20) ≤ i3 600 by rw [i3_le (by omega) (by omega)]; exact q)]
    exact b1
  · have e132 := s_132 (d := d + 58) (x := x) (V := V) (G := G) (L := L) (k := 20) t1 (by omega) (by decide)
    have e132' : sm_cv0 (d + 59) 132 342 (RR V) [.ref 2, .int (i3 20)] (x, G, L) = oI (if f + 20 ≤ 600 then i3 1 else i3 0) x G L := e132
    refine ⟨m1, G, g00 G, ?_, ?_, g00_0, Inv_g00 hS hh hn⟩
    · rw [m_11, e132', if_neg q, aI_o, if_pos rfl]
    · have g1' : sm_up G 156 0 (i3 0) 156 1 = i3 f := by rw [sm_up_ne (by omega)]; exact t2
      rw [m_216, g1', i3_add, if_neg (show ¬ i3 (f + 20) ≤ i3 600 by rw [i3_le (by omega) (by omega)]; exact q)]
