/-! the class's signs, words, numbers -/
theorem s_139f {d x : Nat} {V : pV} {G : sm_G} {L : sm_L} {c : St} {v w : Int32} (h3 : c.1 ≤ 3) (h : G 2 7 = i3 c.1) (q : c.1 ≠ 0) : sm_cv0 (d + 1) 139 342 (RR V) [.ref 2, .int v, .int w] (x, G, L) = oV x G L := by
  rw [m_139, h, if_neg (by rw [i3_eq (by omega) (by omega)]; exact q)]
def wdS (B : Nat → Nat) (n : Nat) (c : St) : St := if c.1 = 0 then (if we B n c.2.2 = c.2.2 then (1, c.2.2 + 1, c.2.2) else c) else c
theorem s_138 {D x : Nat} {V : pV} {G : sm_G} {L : sm_L} {B : Nat → Nat} {n : Nat} {c : St} (hD0 : 2 ≤ D) (hr : rC G B n c) : ∃ G', sm_cv0 D 138 342 (RR V) [.ref 2] (x, G, L) = oV x G' L ∧ tF G G' ∧ rW G' B n (wdS B n c) := by
  obtain ⟨d, rfl⟩ : ∃ d, D = d + 2 := ⟨D - 2, by omega⟩
  have e5 := s_135b (d := d) (x := x) (V := V) (L := L) hr.2.1 hr.2.2.2.1
  rw [m_138, e5, aI_o]
  unfold wdS
  by_cases q : c.1 = 0
  · rw [if_pos q, if_pos rfl, if_pos q]
    obtain ⟨G1, e1, e2, e3, ⟨h1, h2, h3, h4, h5, h6⟩, hs, hi⟩ := hr.skip (d := d) (x := x) (V := V) (L := L) q
    have p0 := (h6 q).1
    have hn := h1.1
    rw [e1, aV_o, e2]
    have key : ∀ a, a ≤ n → ∀ G : sm_G, tC G B n → G 2 3 = i3 a → ∃ G', hD (d + 1) 138 20 [.ref 2] 342 (RR V) x G L = hD (d + 1) 138 72 [.ref 2] 342 (RR V) x G' L ∧ G' 2 3 = i3 (wh (lt B n) n a) ∧ ∀ r k, ¬ (r = 2 ∧ k = 3) → G' r k = G r k := by
      refine wh_ind (q := lt B n) (n := n) lt_n ?_ ?_
      · intro a q ih ha G hG h3
        have han := lt_n a q
        obtain ⟨b1, b2⟩ := hG.2.2 a han
        obtain ⟨G', k1, k2, k3⟩ := ih (by omega) (sm_up G 2 3 (i3 a + i3 1)) (hG.keep (fun r k w => sm_up_ne (by omega))) (by rw [sm_up_same, i3_add])
        refine ⟨G', ?_, ?_, fun r k w => by rw [k3 r k w]; exact sm_up_ne (by omega)⟩
        · rw [lt_t han] at q
          have z := (cb_lt _ b1).mpr q
          rw [h_138_20, h3, hG.2.1, if_pos (by rw [i3_lt (by omega) (by omega)]; exact han), i3_in (by omega) (by omega), gd_tt, i3_cl (by omega), b2, if_neg z.1, if_pos z.2]
          exact k1
        · rw [wh_go han q]
          exact k2
      · intro a q ha G hG h3
        refine ⟨G, ?_, by rw [wh_st q]; exact h3, fun _ _ _ => rfl⟩
        rw [h_138_20, h3, hG.2.1]
        by_cases han : a < n
        · obtain ⟨b1, b2⟩ := hG.2.2 a han
          have z : ¬ (¬ i2b (i3 (B a)) < i3 97 ∧ i2b (i3 (B a)) ≤ i3 122) := fun z => by
            rw [(lt_t han (B := B)).mpr ((cb_lt _ b1).mp z)] at q
            cases q
          rw [if_pos (by rw [i3_lt (by omega) (by omega)]; exact han), i3_in (by omega) (by omega), gd_tt, i3_cl (by omega), b2]
          by_cases y : i2b (i3 (B a)) < i3 97
          · rw [if_pos y]
          · rw [if_neg y, gd_tt, if_neg (fun w => z ⟨y, w⟩)]
        · rw [if_neg (by rw [i3_lt (by omega) (by omega)]; exact han)]
    obtain ⟨G2, k1, k2, k3⟩ := key c.2.2 hs (sm_up G1 2 4 (i3 c.2.2)) (h1.keep (fun r k w => sm_up_ne (by omega))) (by rw [sm_up_ne (by omega)]; exact e2)
    have k2 : G2 2 3 = i3 (we B n c.2.2) := k2
    have hwe := we_le (B := B) hs
    have hge := we_ge (B := B) (n := n) (a := c.2.2)
    have f2 : ∀ r k, ¬ (r = 2 ∧ 3 ≤ k ∧ k ≤ 4) → G2 r k = G1 r k := fun r k w => by rw [k3 r k (by omega)]; exact sm_up_ne (by omega)
    have f4 : G2 2 4 = i3 c.2.2 := by rw [k3 _ _ (by omega)]; exact sm_up_same _ _ _ _
    have g5 : sm_up G2 2 5 (i3 (we B n c.2.2)) 2 5 = i3 (we B n c.2.2) := sm_up_same _ _ _ _
    have g : ∀ r k, ¬ (r = 2 ∧ k = 5) → sm_up G2 2 5 (i3 (we B n c.2.2)) r k = G2 r k := fun r k w => sm_up_ne (by omega)
    rw [k1, h_138_72, k2]
    generalize sm_up G2 2 5 (i3 (we B n c.2.2)) = G3 at g5 g ⊢
    have g3 : tF G G3 := fun r k w => by rw [g r k (by omega), f2 r k (by omega), e3 r k (by omega)]
    have ht : tC G3 B n := h1.keep (fun r k w => by rw [g r k (by omega), f2 r k (by omega)])
    have g7 : G3 2 7 = i3 c.1 := by rw [g _ _ (by omega), f2 _ _ (by omega)]; exact h4
    have g8 : G3 2 8 = mi c.2.1 := by rw [g _ _ (by omega), f2 _ _ (by omega)]; exact h5
    have g33 : G3 2 3 = i3 (we B n c.2.2) := by rw [g _ _ (by omega)]; exact k2
    have g34 : G3 2 4 = i3 c.2.2 := by rw [g _ _ (by omega)]; exact f4
    rw [g5, g34, g33]
    by_cases z : we B n c.2.2 = c.2.2
    · rw [if_pos (by rw [z]), if_pos z, z]
      obtain ⟨G4, u1, u2, u3⟩ := s_139 (d := d) (x := x) (V := V) (L := L) (k := 1) (s := c.2.2) ⟨ht, h2, h3, g7, g8⟩ (by omega) (by omega) hs
      rw [if_pos q] at u3
      rw [u1, aV_o]
      exact ⟨G4, rfl, g3.tr u2, u3.bad (by show (1 : Nat) ≠ 0; omega)⟩
    · rw [if_neg (by rw [i3_eq (by omega) (by omega)]; exact z), if_neg z]
      exact ⟨G3, rfl, g3, ht, h2, h3, g7, g8, fun _ => ⟨p0, by omega, hwe, g33, g34, g5⟩⟩
  · rw [if_neg q, if_neg (by decide), if_neg q]
    exact ⟨G, rfl, tF_o, hr.bad q⟩
def rfS (k : Nat) (c : St) : St := if c.1 = 0 then (k, c.2.2 + 1, c.2.2) else c
theorem s_142 {D x : Nat} {V : pV} {G : sm_G} {L : sm_L} {B : Nat → Nat} {n k : Nat} {c : St} (hD0 : 2 ≤ D) (hr : rW G B n c) (hk : k ≤ 3) (hk0 : k ≠ 0) : ∃ G', sm_cv0 D 142 342 (RR V) [.ref 2, .int (i3 k)] (x, G, L) = oV x G' L ∧ tF G G' ∧ rC G' B n (rfS k c) := by
  obtain ⟨d, rfl⟩ : ∃ d, D = d + 2 := ⟨D - 2, by omega⟩
  obtain ⟨h1, h2, h3, h4, h5, h6⟩ := hr
  unfold rfS
  by_cases q : c.1 = 0
  · obtain ⟨p0, a2, a3, a4, a5, a6⟩ := h6 q
    obtain ⟨G4, u1, u2, u3⟩ := s_139 (d := d) (x := x) (V := V) (L := L) (k := k) (s := c.2.2) ⟨h1, h2, h3, h4, h5⟩ hk hk0 (by omega)
    rw [m_142, a5, u1, aV_o]
    exact ⟨G4, rfl, u2, u3⟩
  · have e9 := s_139f (d := d) (x := x) (V := V) (L := L) (v := i3 k) (w := G 2 4) h2 h4 q
    rw [m_142, e9, aV_o, if_neg q]
    exact ⟨G, rfl, tF_o, h1, h2, h3, h4, h5, fun z => absurd z q⟩
/-- room for one more -/
theorem s_141t {D x : Nat} {V : pV} {G : sm_G} {L : sm_L} {B : Nat → Nat} {n : Nat} {c : St} (hD0 : 3 ≤ D) (hr : rW G B n c) : sm_cv0 D 141 342 (RR V) [.ref 2, .int (i3 1)] (x, G, L) = oI (if c.1 = 0 then i3 1 else i3 0) x G L := by
  obtain ⟨d, rfl⟩ : ∃ d, D = d + 3 := ⟨D - 3, by omega⟩
  have e5 := s_135b (d := d + 1) (x := x) (V := V) (L := L) hr.2.1 hr.2.2.2.1
  rw [m_141, if_neg (by decide), e5, aI_o]
  by_cases q : c.1 = 0
  · rw [if_pos q, if_pos rfl, if_pos q]
  · rw [if_neg q, if_neg (by decide), if_neg q]
theorem s_141f {D x : Nat} {V : pV} {G : sm_G} {L : sm_L} {B : Nat → Nat} {n : Nat} {c : St} (hD0 : 3 ≤ D) (hr : rW G B n c) : ∃ G', sm_cv0 D 141 342 (RR V) [.ref 2, .int (i3 0)] (x, G, L) = oI (i3 0) x G' L ∧ tF G G' ∧ rC G' B n (rfS 3 c) := by
  obtain ⟨d, rfl⟩ : ∃ d, D = d + 3 := ⟨D - 3, by omega⟩
  obtain ⟨G1, e1, e2, e3⟩ := s_142 (D := d + 2) (x := x) (V := V) (L := L) (k := 3) (by omega) hr (by omega) (by omega)
  have e5 := s_135b (d := d + 1) (x := x) (V := V) (L := L) e3.2.1 e3.2.2.2.1
  have hne : (rfS 3 c).1 ≠ 0 := by
    unfold rfS
    by_cases q : c.1 = 0
    · rw [if_pos q]; show (3 : Nat) ≠ 0; omega
    · rw [if_neg q]; exact q
  rw [m_141, if_pos rfl, e1, aV_o, e5, aI_o, if_neg hne, if_neg (by decide)]
  exact ⟨G1, rfl, e2, e3⟩
theorem s_144 {D x : Nat} {V : pV} {G : sm_G} {L : sm_L} {B : Nat → Nat} {n t : Nat} {c : St} (hD0 : 2 ≤ D) (hr : rC G B n c) (h6 : c.1 = 0 → G 2 6 = i3 t ∧ t ≤ n) : ∃ G', sm_cv0 D 144 342 (RR V) [.ref 2] (x, G, L) = oV x G' L ∧ tF G G' ∧ rC G' B n (if c.1 = 0 then (2, t + 1, c.2.2) else c) := by
  obtain ⟨d, rfl⟩ : ∃ d, D = d + 2 := ⟨D - 2, by omega⟩
  by_cases q : c.1 = 0
  · obtain ⟨a1, a2⟩ := h6 q
    obtain ⟨G4, u1, u2, u3⟩ := s_139 (d := d) (x := x) (V := V) (L := L) (k := 2) (s := t) ⟨hr.1, hr.2.1, hr.2.2.1, hr.2.2.2.1, hr.2.2.2.2.1⟩ (by omega) (by omega) a2
    rw [m_144, a1, u1, aV_o]
    exact ⟨G4, rfl, u2, u3⟩
  · have e9 := s_139f (d := d) (x := x) (V := V) (L := L) (v := i3 2) (w := G 2 6) hr.2.1 hr.2.2.2.1 q
    rw [m_144, e9, aV_o, if_neg q]
    exact ⟨G, rfl, tF_o, hr⟩
theorem s_136 {D x : Nat} {V : pV} {G : sm_G} {L : sm_L} {B : Nat → Nat} {n : Nat} {c : St} (hD0 : 2 ≤ D) (hr : rC G B n c) (q : c.1 = 0) : ∃ G', sm_cv0 D 136 342 (RR V) [.ref 2] (x, G, L) = oI (if c.2.2 < n then i3 0 else i3 1) x G' L ∧ tF G G' ∧ rC G' B n c ∧ c.2.2 ≤ n := by
  obtain ⟨d, rfl⟩ : ∃ d, D = d + 2 := ⟨D - 2, by omega⟩
  obtain ⟨G1, e1, e2, e3, e4, hs, hi⟩ := hr.skip (d := d) (x := x) (V := V) (L := L) q
  have hn := hr.1.1
  refine ⟨G1, ?_, fun r k w => e3 r k (by omega), e4, hs⟩
  rw [m_136, e1, aV_o, e2, e4.1.2.1]
  by_cases z : c.2.2 < n
  · rw [if_pos (by rw [i3_lt (by omega) (by omega)]; exact z), if_pos z]
  · rw [if_neg (by rw [i3_lt (by omega) (by omega)]; exact z), if_neg z]
theorem s_146 {D x : Nat} {V : pV} {G : sm_G} {L : sm_L} {B : Nat → Nat} {n ch : Nat} {c : St} (hD0 : 2 ≤ D) (hr : rC G B n c) (q : c.1 = 0) (hch : ch < 128) : ∃ G', sm_cv0 D 146 342 (RR V) [.ref 2, .int (i3 ch)] (x, G, L) = oI (if c.2.2 < n ∧ B c.2.2 = ch then i3 1 else i3 0) x G' L ∧ tF G G' ∧ rC G' B n c ∧ G' 2 3 = i3 c.2.2 ∧ c.2.2 ≤ n := by
  obtain ⟨d, rfl⟩ : ∃ d, D = d + 2 := ⟨D - 2, by omega⟩
  obtain ⟨G1, e1, e2, e3, e4, hs, hi⟩ := hr.skip (d := d) (x := x) (V := V) (L := L) q
  have hn := hr.1.1
  refine ⟨G1, ?_, fun r k w => e3 r k (by omega), e4, e2, hs⟩
  rw [m_146, e1, aV_o, e2, e4.1.2.1]
  by_cases z : c.2.2 < n
  · obtain ⟨b1, b2⟩ := e4.1.2.2 _ z
    rw [if_pos (by rw [i3_lt (by omega) (by omega)]; exact z), i3_in (by omega) (by omega), gd_tt, i3_cl (by omega), b2]
    by_cases y : B c.2.2 = ch
    · rw [if_pos (by rw [cb_eq b1 hch]; exact y), if_pos ⟨z, y⟩]
    · rw [if_neg (by rw [cb_eq b1 hch]; exact y), if_neg (fun w => y w.2)]
  · rw [if_neg (by rw [i3_lt (by omega) (by omega)]; exact z), if_neg (fun w => z w.1)]
def sgS (B : Nat → Nat) (n ch : Nat) (c : St) : St := if c.1 = 0 then (if c.2.2 < n ∧ B c.2.2 = ch then (0, 0, sk B n (c.2.2 + 1)) else (1, c.2.2 + 1, c.2.2)) else c
theorem s_145 {D x : Nat} {V : pV} {G : sm_G} {L : sm_L} {B : Nat → Nat} {n ch : Nat} {c : St} (hD0 : 3 ≤ D) (hr : rC G B n c) (hch : ch < 128) : ∃ G', sm_cv0 D 145 342 (RR V) [.ref 2, .int (i3 ch)] (x, G, L) = oV x G' L ∧ tF G G' ∧ rC G' B n (sgS B n ch c) := by
  obtain ⟨d, rfl⟩ : ∃ d, D = d + 3 := ⟨D - 3, by omega⟩
  have e5 := s_135b (d := d + 1) (x := x) (V := V) (L := L) hr.2.1 hr.2.2.2.1
  rw [m_145, e5, aI_o]
  unfold sgS
  by_cases q : c.1 = 0
  · obtain ⟨G1, e1, e2, e3, e4, hs⟩ := s_146 (D := d + 2) (x := x) (V := V) (L := L) (by omega) hr q hch
    rw [if_pos q, if_pos rfl, if_pos q, e1, aI_o, e4]
    by_cases z : c.2.2 < n ∧ B c.2.2 = ch
    · rw [if_pos z, if_neg (by decide), if_pos z, i3_add]
      have g3 : sm_up G1 2 3 (i3 (c.2.2 + 1)) 2 3 = i3 (c.2.2 + 1) := sm_up_same _ _ _ _
      have g : ∀ r k, ¬ (r = 2 ∧ k = 3) → sm_up G1 2 3 (i3 (c.2.2 + 1)) r k = G1 r k := fun r k w => sm_up_ne (by omega)
      refine ⟨_, rfl, fun r k w => by rw [g r k (by omega)]; exact e2 r k w, e3.1.keep (fun r k w => g r k (by omega)), by show 0 ≤ 3; omega, by show 0 ≤ n + 1; omega, by rw [g _ _ (by omega), e3.2.2.2.1, q], by rw [g _ _ (by omega), e3.2.2.2.2.1, (e3.2.2.2.2.2 q).1], fun _ => ⟨rfl, c.2.2 + 1, by omega, g3, rfl⟩⟩
    · rw [if_neg z, if_pos rfl, if_neg z]
      obtain ⟨G4, u1, u2, u3⟩ := s_139 (d := d + 1) (x := x) (V := V) (L := L) (k := 1) (s := c.2.2) ⟨e3.1, e3.2.1, e3.2.2.1, e3.2.2.2.1, e3.2.2.2.2.1⟩ (by omega) (by omega) hs
      rw [if_pos q] at u3
      rw [u1, aV_o]
      exact ⟨G4, rfl, e2.tr u2, u3⟩
  · rw [if_neg q, if_neg (by decide), if_neg q]
    exact ⟨G, rfl, tF_o, hr⟩
