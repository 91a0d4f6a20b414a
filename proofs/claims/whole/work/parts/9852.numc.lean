/-! the class's numbers -/
def nuS (B : Nat → Nat) (n lo h : Nat) (c : St) : Nat × St := if c.1 = 0 then (if ne B n c.2.2 = c.2.2 then (0, 1, c.2.2 + 1, c.2.2) else if lo ≤ nv B n c.2.2 ∧ nv B n c.2.2 < h then (nv B n c.2.2, 0, 0, sk B n (ne B n c.2.2)) else (0, 2, c.2.2 + 1, c.2.2)) else (0, c)
def clp (v w : Nat) : Prop := (w < 100000 ∧ v = w) ∨ (w = 100000 ∧ 100000 ≤ v ∧ v < 1000000)
theorem nval_s {B : Nat → Nat} {f a v : Nat} : nval B (f + 1) a v = nval B f (a + 1) (if v * 10 + (B a - 48) ≤ 100000 then v * 10 + (B a - 48) else 100000) := rfl
theorem s_143 {D x : Nat} {V : pV} {G : sm_G} {L : sm_L} {B : Nat → Nat} {n lo h : Nat} {c : St} (hD0 : 3 ≤ D) (hr : rC G B n c) (hlo : lo < 100000) (hh : h ≤ 100000) : ∃ G', sm_cv0 D 143 342 (RR V) [.ref 2, .int (i3 lo), .int (mi h)] (x, G, L) = oI (i3 (nuS B n lo h c).1) x G' L ∧ tF G G' ∧ rC G' B n (nuS B n lo h c).2 ∧ (c.1 = 0 → G' 2 6 = i3 c.2.2 ∧ c.2.2 ≤ n) := by
  obtain ⟨d, rfl⟩ : ∃ d, D = d + 3 := ⟨D - 3, by omega⟩
  have e5 := s_135b (d := d + 1) (x := x) (V := V) (L := L) hr.2.1 hr.2.2.2.1
  rw [m_143, e5, aI_o]
  unfold nuS
  by_cases q : c.1 = 0
  · rw [if_pos q, if_pos rfl, if_pos q]
    obtain ⟨G1, e1, e2, e3, ⟨h1, h2, h3, h4, h5, h6⟩, hs, hi⟩ := hr.skip (d := d + 1) (x := x) (V := V) (L := L) q
    have p0 := (h6 q).1
    have hn := h1.1
    rw [e1, aV_o, e2]
    have key : ∀ a, a ≤ n → ∀ (G : sm_G) (v w : Nat), tC G B n → G 2 3 = i3 a → clp v w → ∃ G' v', hD (d + 2) 143 23 [.ref 2, .int (i3 lo), .int (mi h), .int (i3 v)] 342 (RR V) x G L = hD (d + 2) 143 103 [.ref 2, .int (i3 lo), .int (mi h), .int (i3 v')] 342 (RR V) x G' L ∧ G' 2 3 = i3 (wh (dg B n) n a) ∧ clp v' (nval B (wh (dg B n) n a - a) a w) ∧ ∀ r k, ¬ (r = 2 ∧ k = 3) → G' r k = G r k := by
      refine wh_ind (q := dg B n) (n := n) dg_n ?_ ?_
      · intro a q ih ha G v w hG h3 hv
        have han := dg_n a q
        have hge := wh_ge (q := dg B n) (n := n) dg_n (a + 1)
        obtain ⟨b1, b2⟩ := hG.2.2 a han
        have q' := q
        rw [dg_t han] at q'
        have z := (cb_dg _ b1).mpr q'
        have bs := cb_sm (B a) (by omega)
        rw [wh_go han q, show wh (dg B n) n (a + 1) - a = wh (dg B n) n (a + 1) - (a + 1) + 1 by omega, nval_s]
        have hg1 : tC (sm_up G 2 3 (i3 (a + 1))) B n := hG.keep (fun r k w => sm_up_ne (by omega))
        have hg3 : sm_up G 2 3 (i3 (a + 1)) 2 3 = i3 (a + 1) := sm_up_same _ _ _ _
        have hgf : ∀ r k, ¬ (r = 2 ∧ k = 3) → sm_up G 2 3 (i3 (a + 1)) r k = G r k := fun r k w => sm_up_ne (by omega)
        have head : hD (d + 2) 143 23 [.ref 2, .int (i3 lo), .int (mi h), .int (i3 v)] 342 (RR V) x G L = if i3 v < i3 100000 then hD (d + 2) 143 23 [.ref 2, .int (i3 lo), .int (mi h), .int (i3 (v * 10 + B a) - i3 48)] 342 (RR V) x (sm_up G 2 3 (i3 (a + 1))) L else hD (d + 2) 143 23 [.ref 2, .int (i3 lo), .int (mi h), .int (i3 v)] 342 (RR V) x (sm_up G 2 3 (i3 (a + 1))) L := by
          rw [h_143_23, h3, hG.2.1, if_pos (by rw [i3_lt (by omega) (by omega)]; exact han), i3_in (by omega) (by omega), gd_tt, i3_cl (by omega), b2, if_neg z.1, gd_tt, if_pos z.2, gd_tt, bs, i3_mul, i3_add, i3_add]
        generalize sm_up G 2 3 (i3 (a + 1)) = G1 at hg1 hg3 hgf head
        rw [head]
        rcases hv with ⟨v1, rfl⟩ | ⟨v1, v2, v3⟩
        · rw [if_pos (by rw [i3_lt (by omega) (by omega)]; omega), i3_sub (by omega)]
          have hc : clp (v * 10 + B a - 48) (if v * 10 + (B a - 48) ≤ 100000 then v * 10 + (B a - 48) else 100000) := by
            unfold clp
            split <;> omega
          obtain ⟨G', v', k1, k2, k3, k4⟩ := ih (by omega) G1 _ _ hg1 hg3 hc
          exact ⟨G', v', k1, k2, k3, fun r k w => by rw [k4 r k w]; exact hgf r k w⟩
        · rw [if_neg (by rw [i3_lt (by omega) (by omega)]; omega)]
          have hc : clp v (if w * 10 + (B a - 48) ≤ 100000 then w * 10 + (B a - 48) else 100000) := by
            unfold clp
            rw [if_neg (by omega)]
            omega
          obtain ⟨G', v', k1, k2, k3, k4⟩ := ih (by omega) G1 _ _ hg1 hg3 hc
          exact ⟨G', v', k1, k2, k3, fun r k w => by rw [k4 r k w]; exact hgf r k w⟩
      · intro a q ha G v w hG h3 hv
        refine ⟨G, v, ?_, by rw [wh_st q]; exact h3, by rw [wh_st q, Nat.sub_self]; exact hv, fun _ _ _ => rfl⟩
        rw [h_143_23, h3, hG.2.1]
        by_cases han : a < n
        · obtain ⟨b1, b2⟩ := hG.2.2 a han
          have z : ¬ (¬ i2b (i3 (B a)) < i3 48 ∧ i2b (i3 (B a)) ≤ i3 57) := fun z => by
            rw [(dg_t han (B := B)).mpr ((cb_dg _ b1).mp z)] at q
            cases q
          rw [if_pos (by rw [i3_lt (by omega) (by omega)]; exact han), i3_in (by omega) (by omega), gd_tt, i3_cl (by omega), b2]
          by_cases y : i2b (i3 (B a)) < i3 48
          · rw [if_pos y]
          · rw [if_neg y, gd_tt, if_neg (fun w => z ⟨y, w⟩)]
        · rw [if_neg (by rw [i3_lt (by omega) (by omega)]; exact han)]
    obtain ⟨G2, v, k1, k2, k3, k4⟩ := key c.2.2 hs (sm_up G1 2 6 (i3 c.2.2)) 0 0 (h1.keep (fun r k w => sm_up_ne (by omega))) (by rw [sm_up_ne (by omega)]; exact e2) (Or.inl ⟨by omega, rfl⟩)
    have k2 : G2 2 3 = i3 (ne B n c.2.2) := k2
    have k3 : clp v (nv B n c.2.2) := k3
    have hwe := ne_le (B := B) hs
    have hge := ne_ge (B := B) (n := n) (a := c.2.2)
    have f6 : G2 2 6 = i3 c.2.2 := by rw [k4 _ _ (by omega)]; exact sm_up_same _ _ _ _
    have f2 : ∀ r k, ¬ (r = 2 ∧ (k = 3 ∨ k = 6)) → G2 r k = G1 r k := fun r k w => by rw [k4 r k (by omega)]; exact sm_up_ne (by omega)
    have ht : tC G2 B n := h1.keep (fun r k w => f2 r k (by omega))
    have fF : tF G G2 := fun r k w => by rw [f2 r k (by omega)]; exact e3 r k (by omega)
    have g7 : G2 2 7 = i3 c.1 := by rw [f2 _ _ (by omega)]; exact h4
    have g8 : G2 2 8 = mi c.2.1 := by rw [f2 _ _ (by omega)]; exact h5
    have bad : ∀ (G4 : sm_G) (k p : Nat), rC G4 B n (k, p, c.2.2) → k ≠ 0 → hD (d + 2) 143 140 [.ref 2, .null, .null, .int (i3 v)] 342 (RR V) x G4 L = oI (i3 0) x G4 L := fun G4 k p hr4 hk => by
      have e5 := s_135b (d := d + 1) (x := x) (V := V) (L := L) (c := (k, p, c.2.2)) hr4.2.1 hr4.2.2.2.1
      rw [h_143_140, e5, aI_o, if_neg (show ¬ (k, p, c.2.2).1 = 0 from hk), if_neg (by decide)]
    rw [k1, h_143_103, k2, f6]
    by_cases z : ne B n c.2.2 = c.2.2
    · rw [if_pos (by rw [z]), if_pos z, z]
      obtain ⟨G4, u1, u2, u3⟩ := s_139 (d := d + 1) (x := x) (V := V) (L := L) (k := 1) (s := c.2.2) ⟨ht, h2, h3, g7, g8⟩ (by omega) (by omega) hs
      rw [if_pos q] at u3
      rw [u1, aV_o, bad G4 _ _ u3 (by omega)]
      refine ⟨G4, rfl, fF.tr u2, u3, fun _ => ⟨?_, hs⟩⟩
      have e9 := m_139 (d := d + 1) (x := x) (V := V) (G := G2) (L := L) (v1 := i3 1) (v2 := i3 c.2.2)
      rw [g7, q, if_pos rfl] at e9
      rw [oV_inj (u1.symm.trans e9), sm_up_ne (by omega), sm_up_ne (by omega)]
      exact f6
    · have e144 : ∃ G4, sm_cv0 (d + 2) 144 342 (RR V) [.ref 2] (x, G2, L) = oV x G4 L ∧ tF G2 G4 ∧ rC G4 B n (2, c.2.2 + 1, c.2.2) ∧ G4 2 6 = i3 c.2.2 := by
        obtain ⟨G4, u1, u2, u3⟩ := s_139 (d := d) (x := x) (V := V) (L := L) (k := 2) (s := c.2.2) ⟨ht, h2, h3, g7, g8⟩ (by omega) (by omega) hs
        rw [if_pos q] at u3
        refine ⟨G4, by rw [m_144, f6, u1, aV_o], u2, u3, ?_⟩
        have e9 := m_139 (d := d) (x := x) (V := V) (G := G2) (L := L) (v1 := i3 2) (v2 := i3 c.2.2)
        rw [g7, q, if_pos rfl] at e9
        rw [oV_inj (u1.symm.trans e9), sm_up_ne (by omega), sm_up_ne (by omega)]
        exact f6
      have hvb : v < 1000000 := by unfold clp at k3; omega
      have hlo1 : (v < lo) = (nv B n c.2.2 < lo) := propext (by unfold clp at k3; omega)
      have hhi1 : (v < h) = (nv B n c.2.2 < h) := propext (by unfold clp at k3; omega)
      rw [if_neg (by rw [i3_eq (by omega) (by omega)]; exact z), if_neg z]
      by_cases y : nv B n c.2.2 < lo
      · obtain ⟨G4, u1, u2, u3, u4⟩ := e144
        have hno : ¬ (lo ≤ nv B n c.2.2 ∧ nv B n c.2.2 < h) := by omega
        rw [if_pos (by rw [i3_lt (by omega) (by omega), hlo1]; exact y), u1, aV_o, bad G4 _ _ u3 (by omega), if_neg hno]
        exact ⟨G4, rfl, fF.tr u2, u3, fun _ => ⟨u4, hs⟩⟩
      · rw [if_neg (by rw [i3_lt (by omega) (by omega), hlo1]; exact y)]
        by_cases w : nv B n c.2.2 < h
        · have hyes : lo ≤ nv B n c.2.2 ∧ nv B n c.2.2 < h := by omega
          have e5 := s_135b (d := d + 1) (x := x) (V := V) (L := L) h2 g7
          have hveq : v = nv B n c.2.2 := by unfold clp at k3; omega
          rw [if_pos (by rw [le_mi (by omega) (by omega), hhi1]; exact w), h_143_140, e5, aI_o, if_pos q, if_pos rfl, if_pos hyes, hveq]
          exact ⟨G2, rfl, fF, ⟨ht, by show 0 ≤ 3; omega, by show 0 ≤ n + 1; omega, by rw [g7, q], by rw [g8, p0], fun _ => ⟨rfl, _, hwe, k2, rfl⟩⟩, fun _ => ⟨f6, hs⟩⟩
        · obtain ⟨G4, u1, u2, u3, u4⟩ := e144
          have hno : ¬ (lo ≤ nv B n c.2.2 ∧ nv B n c.2.2 < h) := by omega
          rw [if_neg (by rw [le_mi (by omega) (by omega), hhi1]; exact w), u1, aV_o, bad G4 _ _ u3 (by omega), if_neg hno]
          exact ⟨G4, rfl, fF.tr u2, u3, fun _ => ⟨u4, hs⟩⟩
  · rw [if_neg q, if_neg (by decide), if_neg q]
    exact ⟨G, rfl, tF_o, hr, fun z => absurd z q⟩
