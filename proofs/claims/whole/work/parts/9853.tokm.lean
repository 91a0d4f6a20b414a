/-! the model's tape -/
def tM (g : sm_G) (B : Nat → Nat) (n : Nat) : Prop := n ≤ 600 ∧ g 156 2 = i3 n ∧ ∀ k, k < n → B k < 256 ∧ g 157 k = i3 (B k)
def mF (g g' : sm_G) : Prop := ∀ r k, ¬ (r = 156 ∧ 4 ≤ k ∧ k ≤ 6) → g' r k = g r k
theorem tM.keep {g g' : sm_G} {B : Nat → Nat} {n : Nat} (h : tM g B n) (f : ∀ r k, (r = 156 ∧ k = 2) ∨ r = 157 → g' r k = g r k) : tM g' B n :=
  ⟨h.1, by rw [f _ _ (Or.inl ⟨rfl, rfl⟩)]; exact h.2.1, fun k hk => ⟨(h.2.2 k hk).1, by rw [f _ _ (Or.inr rfl)]; exact (h.2.2 k hk).2⟩⟩
theorem tM.F {g g' : sm_G} {B : Nat → Nat} {n : Nat} (h : tM g B n) (f : mF g g') : tM g' B n := h.keep (fun r k q => f r k (by omega))
theorem mF.tr {g g1 g2 : sm_G} (h1 : mF g g1) (h2 : mF g1 g2) : mF g g2 := fun r k q => by rw [h2 r k q]; exact h1 r k q
theorem mF_o {g : sm_G} : mF g g := fun _ _ _ => rfl
def rM (g : sm_G) (B : Nat → Nat) (n : Nat) (c : St) : Prop := tM g B n ∧ c.1 ≤ 3 ∧ c.2.1 ≤ n + 1 ∧ g 156 5 = i3 c.1 ∧ g 156 6 = mi c.2.1 ∧ ∃ a, a ≤ n ∧ g 156 4 = i3 a ∧ (c.1 = 0 → c.2.1 = 0 ∧ sk B n a = c.2.2)
/-- right at the sign -/
def rE (g : sm_G) (B : Nat → Nat) (n : Nat) (c : St) : Prop := tM g B n ∧ c.1 ≤ 3 ∧ c.2.1 ≤ n + 1 ∧ g 156 5 = i3 c.1 ∧ g 156 6 = mi c.2.1 ∧ ∃ a, a ≤ n ∧ g 156 4 = i3 a ∧ (c.1 = 0 → c.2.1 = 0 ∧ a = c.2.2 ∧ sk B n a = a)
theorem rE.M {g : sm_G} {B : Nat → Nat} {n : Nat} {c : St} (h : rE g B n c) : rM g B n c := by
  obtain ⟨h1, h2, h3, h4, h5, a, h6, h7, h8⟩ := h
  exact ⟨h1, h2, h3, h4, h5, a, h6, h7, fun z => ⟨(h8 z).1, by rw [(h8 z).2.2]; exact (h8 z).2.1⟩⟩
theorem rM.bad {g : sm_G} {B : Nat → Nat} {n : Nat} {c : St} (h : rM g B n c) (q : c.1 ≠ 0) : rE g B n c := by
  obtain ⟨h1, h2, h3, h4, h5, a, h6, h7, h8⟩ := h
  exact ⟨h1, h2, h3, h4, h5, a, h6, h7, fun z => absurd z q⟩
theorem rE.at {g : sm_G} {B : Nat → Nat} {n : Nat} {c : St} (h : rE g B n c) (q : c.1 = 0) : g 156 4 = i3 c.2.2 ∧ c.2.2 ≤ n ∧ sk B n c.2.2 = c.2.2 ∧ c.2.1 = 0 := by
  obtain ⟨h1, h2, h3, h4, h5, a, h6, h7, h8⟩ := h
  obtain ⟨a1, a2, a3⟩ := h8 q
  rw [← a2]
  exact ⟨h7, h6, a3, a1⟩
theorem rM.keep {g g' : sm_G} {B : Nat → Nat} {n : Nat} {c : St} (h : rM g B n c) (f : ∀ r k, (r = 156 ∧ (k = 2 ∨ k = 4 ∨ k = 5 ∨ k = 6)) ∨ r = 157 → g' r k = g r k) : rM g' B n c := by
  obtain ⟨h1, h2, h3, h4, h5, a, h6, h7, h8⟩ := h
  exact ⟨h1.keep (fun r k w => f r k (by omega)), h2, h3, by rw [f _ _ (by omega)]; exact h4, by rw [f _ _ (by omega)]; exact h5, a, h6, by rw [f _ _ (by omega)]; exact h7, h8⟩
theorem rE.keep {g g' : sm_G} {B : Nat → Nat} {n : Nat} {c : St} (h : rE g B n c) (f : ∀ r k, (r = 156 ∧ (k = 2 ∨ k = 4 ∨ k = 5 ∨ k = 6)) ∨ r = 157 → g' r k = g r k) : rE g' B n c := by
  obtain ⟨h1, h2, h3, h4, h5, a, h6, h7, h8⟩ := h
  exact ⟨h1.keep (fun r k w => f r k (by omega)), h2, h3, by rw [f _ _ (by omega)]; exact h4, by rw [f _ _ (by omega)]; exact h5, a, h6, by rw [f _ _ (by omega)]; exact h7, h8⟩
def bA (B : Nat → Nat) (n a : Nat) : Int32 := if a < n then i3 (B a) else m1
theorem s_222 {d x : Nat} {V : pV} {G : sm_G} {L : sm_L} {B : Nat → Nat} {n a : Nat} (h : tM G B n) (ha : a < 2000) : sm_cv0 (d + 1) 222 342 (RR V) [.ref 156, .int (i3 a)] (x, G, L) = oI (bA B n a) x G L := by
  have hn := h.1
  unfold bA
  rw [m_222, h.2.1]
  by_cases q : a < n
  · rw [if_pos (by rw [i3_lt (by omega) (by omega)]; exact q), if_pos q, i3_in (by omega) (by omega), gd_tt, i3_cl (by omega), (h.2.2 a q).2]
  · rw [if_neg (by rw [i3_lt (by omega) (by omega)]; exact q), if_neg q]
theorem bA_eq {B : Nat → Nat} {n a ch : Nat} {g : sm_G} (h : tM g B n) (hc : ch < 256) : (bA B n a = i3 ch) = (a < n ∧ B a = ch) := by
  unfold bA
  by_cases q : a < n
  · have := (h.2.2 a q).1
    rw [if_pos q, i3_eq (by omega) (by omega)]
    exact propext ⟨fun z => ⟨q, z⟩, fun z => z.2⟩
  · rw [if_neg q, m1_ni3 (by omega)]
    exact propext ⟨fun z => z.elim, fun z => q z.1⟩
theorem s_227 {d x : Nat} {V : pV} {G : sm_G} {L : sm_L} {B : Nat → Nat} {n a : Nat} {g : sm_G} (h : tM g B n) : sm_cv0 (d + 1) 227 342 (RR V) [.int (bA B n a)] (x, G, L) = oI (if lt B n a = true then i3 1 else i3 0) x G L := by
  rw [m_227]
  unfold bA
  by_cases q : a < n
  · have hb := (h.2.2 a q).1
    rw [if_pos q]
    by_cases z : B a < 97
    · rw [if_pos (by rw [i3_lt (by omega) (by omega)]; exact z), if_neg (fun w => by rw [lt_t q] at w; omega)]
    · rw [if_neg (by rw [i3_lt (by omega) (by omega)]; exact z)]
      by_cases w : B a ≤ 122
      · rw [if_pos (by rw [i3_le (by omega) (by omega)]; exact w), if_pos ((lt_t q).mpr ⟨by omega, w⟩)]
      · rw [if_neg (by rw [i3_le (by omega) (by omega)]; exact w), if_neg (fun y => by rw [lt_t q] at y; exact w y.2)]
  · rw [if_neg q, lt_e (by omega), if_pos (by rw [m1_lt (by omega)]; trivial), if_neg (by decide)]
theorem s_233 {d x : Nat} {V : pV} {G : sm_G} {L : sm_L} {B : Nat → Nat} {n a : Nat} {g : sm_G} (h : tM g B n) : sm_cv0 (d + 1) 233 342 (RR V) [.int (bA B n a)] (x, G, L) = oI (if dg B n a = true then i3 1 else i3 0) x G L := by
  rw [m_233]
  unfold bA
  by_cases q : a < n
  · have hb := (h.2.2 a q).1
    rw [if_pos q]
    by_cases z : B a < 48
    · rw [if_pos (by rw [i3_lt (by omega) (by omega)]; exact z), if_neg (fun w => by rw [dg_t q] at w; omega)]
    · rw [if_neg (by rw [i3_lt (by omega) (by omega)]; exact z)]
      by_cases w : B a ≤ 57
      · rw [if_pos (by rw [i3_le (by omega) (by omega)]; exact w), if_pos ((dg_t q).mpr ⟨by omega, w⟩)]
      · rw [if_neg (by rw [i3_le (by omega) (by omega)]; exact w), if_neg (fun y => by rw [dg_t q] at y; exact w y.2)]
  · rw [if_neg q, dg_e (by omega), if_pos (by rw [m1_lt (by omega)]; trivial), if_neg (by decide)]
theorem s_221 {D x : Nat} {V : pV} {G : sm_G} {L : sm_L} {B : Nat → Nat} {n : Nat} {c : St} (hD0 : 2 ≤ D) (hr : rM G B n c) : ∃ G', sm_cv0 D 221 342 (RR V) [.ref 156] (x, G, L) = oV x G' L ∧ rE G' B n c ∧ (∀ r k, ¬ (r = 156 ∧ k = 4) → G' r k = G r k) := by
  obtain ⟨d, rfl⟩ : ∃ d, D = d + 2 := ⟨D - 2, by omega⟩
  have key : ∀ a, a ≤ n → ∀ G : sm_G, tM G B n → G 156 4 = i3 a → ∃ G', hD (d + 1) 221 0 [.ref 156] 342 (RR V) x G L = oV x G' L ∧ G' 156 4 = i3 (wh (bl B n) n a) ∧ ∀ r k, ¬ (r = 156 ∧ k = 4) → G' r k = G r k := by
    refine wh_ind (q := bl B n) (n := n) bl_n ?_ ?_
    · intro a q ih ha G hG h3
      have han := bl_n a q
      have hn := hG.1
      have e2 := s_222 (d := d) (x := x) (V := V) (L := L) (a := a) hG (by omega)
      rw [bl_t han] at q
      obtain ⟨G', e1, e2', e3⟩ := ih (by omega) (sm_up G 156 4 (i3 a + i3 1)) (hG.keep (fun r k w => sm_up_ne (by omega))) (by rw [sm_up_same, i3_add])
      refine ⟨G', ?_, ?_, fun r k w => by rw [e3 r k w]; exact sm_up_ne (by omega)⟩
      · rw [h_221_0, h3, e2, aI_o, if_pos (by rw [bA_eq hG (by omega)]; exact ⟨han, q⟩), h3]
        exact e1
      · rw [wh_go han (by rw [bl_t han]; exact q)]
        exact e2'
    · intro a q ha G hG h3
      have hn := hG.1
      have e2 := s_222 (d := d) (x := x) (V := V) (L := L) (a := a) hG (by omega)
      refine ⟨G, ?_, by rw [wh_st q]; exact h3, fun _ _ _ => rfl⟩
      rw [h_221_0, h3, e2, aI_o, if_neg (by
        rw [bA_eq hG (by omega)]
        rintro ⟨z1, z2⟩
        rw [(bl_t z1 (B := B)).mpr z2] at q
        cases q)]
  obtain ⟨h1, h2, h3, h4, h5, a, h6, h7, h8⟩ := hr
  obtain ⟨G', e1, e2, e3⟩ := key a h6 G h1 h7
  rw [m_221]
  refine ⟨G', e1, ⟨h1.keep (fun r k w => e3 r k (by omega)), h2, h3, by rw [e3 _ _ (by omega)]; exact h4, by rw [e3 _ _ (by omega)]; exact h5, sk B n a, sk_le h6, e2, fun z => ⟨(h8 z).1, (h8 z).2, sk_id⟩⟩, e3⟩
theorem s_229 {d x : Nat} {V : pV} {G : sm_G} {L : sm_L} {B : Nat → Nat} {n k s : Nat} {c : St} (hr : rM G B n c) (hk : k ≤ 3) (hk0 : k ≠ 0) (hs : s ≤ n) : ∃ G', sm_cv0 (d + 1) 229 342 (RR V) [.ref 156, .int (i3 k), .int (i3 s)] (x, G, L) = oV x G' L ∧ mF G G' ∧ rM G' B n (if c.1 = 0 then (k, s + 1, c.2.2) else c) ∧ G' 156 4 = G 156 4 := by
  have hr0 := hr
  obtain ⟨h1, h2, h3, h4, h5, a, h6, h7, h8⟩ := hr
  rw [m_229, h4]
  by_cases q : c.1 = 0
  · rw [if_pos (by rw [q]), if_pos q]
    refine ⟨_, rfl, fun r j w => by rw [sm_up_ne (by omega), sm_up_ne (by omega)], ⟨h1.keep (fun r j w => by rw [sm_up_ne (by omega), sm_up_ne (by omega)]), hk, by show s + 1 ≤ n + 1; omega, by rw [sm_up_ne (by omega)]; exact sm_up_same _ _ _ _, by rw [sm_up_same]; exact (mi_succ s).symm, a, h6, by rw [sm_up_ne (by omega), sm_up_ne (by omega)]; exact h7, fun z => absurd z hk0⟩, by rw [sm_up_ne (by omega), sm_up_ne (by omega)]⟩
  · rw [if_neg (by rw [i3_eq (by omega) (by omega)]; exact q), if_neg q]
    exact ⟨G, rfl, mF_o, hr0, rfl⟩
/-- skip what is left of a word -/
theorem s_231 {D x : Nat} {V : pV} {G : sm_G} {L : sm_L} {B : Nat → Nat} {n : Nat} {c : St} (hD0 : 2 ≤ D) (hr : rE G B n c) (q : c.1 = 0) : ∃ G', sm_cv0 D 231 342 (RR V) [.ref 156] (x, G, L) = oV x G' L ∧ mF G G' ∧ rM G' B n (0, 0, sk B n (we B n c.2.2)) := by
  obtain ⟨d, rfl⟩ : ∃ d, D = d + 2 := ⟨D - 2, by omega⟩
  have key : ∀ a, a ≤ n → ∀ G : sm_G, tM G B n → G 156 4 = i3 a → ∃ G', hD (d + 1) 231 0 [.ref 156] 342 (RR V) x G L = oV x G' L ∧ G' 156 4 = i3 (wh (lt B n) n a) ∧ ∀ r k, ¬ (r = 156 ∧ k = 4) → G' r k = G r k := by
    refine wh_ind (q := lt B n) (n := n) lt_n ?_ ?_
    · intro a q ih ha G hG h3
      have han := lt_n a q
      have hn := hG.1
      have e2 := s_222 (d := d) (x := x) (V := V) (L := L) (a := a) hG (by omega)
      have e7 := s_227 (d := d) (x := x) (V := V) (G := G) (L := L) (a := a) hG
      obtain ⟨G', e1, e2', e3⟩ := ih (by omega) (sm_up G 156 4 (i3 a + i3 1)) (hG.keep (fun r k w => sm_up_ne (by omega))) (by rw [sm_up_same, i3_add])
      refine ⟨G', ?_, ?_, fun r k w => by rw [e3 r k w]; exact sm_up_ne (by omega)⟩
      · rw [h_231_0, h3, e2, aI_o, e7, aI_o, if_pos q, if_neg (by decide), h3]
        exact e1
      · rw [wh_go han q]
        exact e2'
    · intro a q ha G hG h3
      have hn := hG.1
      have e2 := s_222 (d := d) (x := x) (V := V) (L := L) (a := a) hG (by omega)
      have e7 := s_227 (d := d) (x := x) (V := V) (G := G) (L := L) (a := a) hG
      refine ⟨G, ?_, by rw [wh_st q]; exact h3, fun _ _ _ => rfl⟩
      rw [h_231_0, h3, e2, aI_o, e7, aI_o, if_neg (show ¬ lt B n a = true by rw [q]; decide), if_pos rfl]
  obtain ⟨a1, a2, a3, a4⟩ := hr.at q
  obtain ⟨G', e1, e2, e3⟩ := key c.2.2 a2 G hr.1 a1
  rw [m_231]
  exact ⟨G', e1, fun r k w => e3 r k (by omega), hr.1.keep (fun r k w => e3 r k (by omega)), by show 0 ≤ 3; omega, by show 0 ≤ n + 1; omega, by rw [e3 _ _ (by omega), hr.2.2.2.1, q], by rw [e3 _ _ (by omega), hr.2.2.2.2.1, a4], we B n c.2.2, we_le a2, e2, fun _ => ⟨rfl, rfl⟩⟩
/-- a sign -/
theorem s_236 {D x : Nat} {V : pV} {G : sm_G} {L : sm_L} {B : Nat → Nat} {n ch : Nat} {c : St} (hD0 : 3 ≤ D) (hr : rM G B n c) (hch : ch < 256) : ∃ G', sm_cv0 D 236 342 (RR V) [.ref 156, .int (i3 ch)] (x, G, L) = oV x G' L ∧ mF G G' ∧ rM G' B n (sgS B n ch c) := by
  obtain ⟨d, rfl⟩ : ∃ d, D = d + 3 := ⟨D - 3, by omega⟩
  unfold sgS
  rw [m_236, hr.2.2.2.1]
  by_cases q : c.1 = 0
  · obtain ⟨G1, e1, e2, e3⟩ := s_221 (D := d + 2) (x := x) (V := V) (L := L) (by omega) hr
    obtain ⟨a1, a2, a3, a4⟩ := e2.at q
    have hn := e2.1.1
    have e22 := s_222 (d := d + 1) (x := x) (V := V) (L := L) (a := c.2.2) e2.1 (by omega)
    have f1 : mF G G1 := fun r k w => e3 r k (by omega)
    rw [if_pos (by rw [q]), if_pos q, e1, aV_o, a1, e22, aI_o]
    by_cases z : c.2.2 < n ∧ B c.2.2 = ch
    · rw [if_pos (by rw [bA_eq e2.1 hch]; exact z), if_pos z, a1, i3_add]
      refine ⟨_, rfl, fun r k w => by rw [sm_up_ne (by omega)]; exact f1 r k w, e2.1.keep (fun r k w => sm_up_ne (by omega)), by show 0 ≤ 3; omega, by show 0 ≤ n + 1; omega, by rw [sm_up_ne (by omega), e2.2.2.2.1, q], by rw [sm_up_ne (by omega), e2.2.2.2.2.1, a4], c.2.2 + 1, by omega, sm_up_same _ _ _ _, fun _ => ⟨rfl, rfl⟩⟩
    · obtain ⟨G2, k1, k2, k3, _⟩ := s_229 (d := d + 1) (x := x) (V := V) (L := L) (k := 1) (s := c.2.2) e2.M (by omega) (by omega) a2
      rw [if_pos q] at k3
      rw [if_neg (by rw [bA_eq e2.1 hch]; exact z), if_neg z, a1, k1, aV_o]
      exact ⟨G2, rfl, f1.tr k2, k3⟩
  · rw [if_neg (by rw [i3_eq (by have := hr.2.1; omega) (by omega)]; exact q), if_neg q]
    exact ⟨G, rfl, mF_o, hr⟩
