/-! the class's tape -/
def tC (G : sm_G) (B : Nat → Nat) (n : Nat) : Prop := n ≤ 600 ∧ G 2 2 = i3 n ∧ ∀ k, k < n → B k < 256 ∧ G 3 k = i2b (i3 (B k))
def tF (G G' : sm_G) : Prop := ∀ r k, ¬ (r = 2 ∧ 3 ≤ k ∧ k ≤ 8) → G' r k = G r k
theorem tC.keep {G G' : sm_G} {B : Nat → Nat} {n : Nat} (h : tC G B n) (f : ∀ r k, (r = 2 ∧ k = 2) ∨ r = 3 → G' r k = G r k) : tC G' B n :=
  ⟨h.1, by rw [f _ _ (Or.inl ⟨rfl, rfl⟩)]; exact h.2.1, fun k hk => ⟨(h.2.2 k hk).1, by rw [f _ _ (Or.inr rfl)]; exact (h.2.2 k hk).2⟩⟩
theorem tC.F {G G' : sm_G} {B : Nat → Nat} {n : Nat} (h : tC G B n) (f : tF G G') : tC G' B n := h.keep (fun r k q => f r k (by omega))
theorem tF.tr {G G1 G2 : sm_G} (h1 : tF G G1) (h2 : tF G1 G2) : tF G G2 := fun r k q => by rw [h2 r k q]; exact h1 r k q
theorem tF_o {G : sm_G} : tF G G := fun _ _ _ => rfl
theorem tF_up {G : sm_G} {k : Nat} {v : Int32} (h : 3 ≤ k ∧ k ≤ 8) : tF G (sm_up G 2 k v) := fun r j q => sm_up_ne (by omega)
/-- a reader: the fault's kind, its place and 1, where the next sign stands -/
abbrev St : Type := Nat × Nat × Nat
def rC (G : sm_G) (B : Nat → Nat) (n : Nat) (c : St) : Prop := tC G B n ∧ c.1 ≤ 3 ∧ c.2.1 ≤ n + 1 ∧ G 2 7 = i3 c.1 ∧ G 2 8 = mi c.2.1 ∧ (c.1 = 0 → c.2.1 = 0 ∧ ∃ a, a ≤ n ∧ G 2 3 = i3 a ∧ sk B n a = c.2.2)
/-- behind a word -/
def rW (G : sm_G) (B : Nat → Nat) (n : Nat) (c : St) : Prop := tC G B n ∧ c.1 ≤ 3 ∧ c.2.1 ≤ n + 1 ∧ G 2 7 = i3 c.1 ∧ G 2 8 = mi c.2.1 ∧ (c.1 = 0 → c.2.1 = 0 ∧ c.2.2 < we B n c.2.2 ∧ we B n c.2.2 ≤ n ∧ G 2 3 = i3 (we B n c.2.2) ∧ G 2 4 = i3 c.2.2 ∧ G 2 5 = i3 (we B n c.2.2))
def wdN (B : Nat → Nat) (n : Nat) (c : St) : St := if c.1 = 0 then (0, 0, sk B n (we B n c.2.2)) else c
theorem rW.rd {G : sm_G} {B : Nat → Nat} {n : Nat} {c : St} (h : rW G B n c) : rC G B n (wdN B n c) := by
  obtain ⟨h1, h2, h3, h4, h5, h6⟩ := h
  unfold wdN
  by_cases q : c.1 = 0
  · obtain ⟨a1, a2, a3, a4, _⟩ := h6 q
    rw [if_pos q]
    exact ⟨h1, by show 0 ≤ 3; omega, by show 0 ≤ n + 1; omega, by rw [h4, q], by rw [h5, a1], fun _ => ⟨rfl, _, a3, a4, rfl⟩⟩
  · rw [if_neg q]
    exact ⟨h1, h2, h3, h4, h5, fun z => absurd z q⟩
theorem rC.bad {G : sm_G} {B : Nat → Nat} {n : Nat} {c : St} (h : rC G B n c) (q : c.1 ≠ 0) : rW G B n c := ⟨h.1, h.2.1, h.2.2.1, h.2.2.2.1, h.2.2.2.2.1, fun z => absurd z q⟩
theorem rW.bad {G : sm_G} {B : Nat → Nat} {n : Nat} {c : St} (h : rW G B n c) (q : c.1 ≠ 0) : rC G B n c := ⟨h.1, h.2.1, h.2.2.1, h.2.2.2.1, h.2.2.2.2.1, fun z => absurd z q⟩
theorem le_mi {v h : Nat} (hv : v < 2147483648) (hh : h < 2147483648) : (i3 v ≤ mi h) = (v < h) := by
  cases h with
  | zero =>
    rw [show mi 0 = m1 from rfl, le_m1 hv]
    exact propext ⟨fun z => z.elim, fun z => by omega⟩
  | succ h =>
    rw [mi_succ, i3_le hv (by omega)]
    exact propext ⟨fun z => by omega, fun z => by omega⟩
def fl (c : St) : Bool := decide (c.1 = 0)
theorem s_135 {d x : Nat} {V : pV} {G : sm_G} {L : sm_L} {B : Nat → Nat} {n : Nat} {c : St} (h3 : c.1 ≤ 3) (h : G 2 7 = i3 c.1) : sm_cv0 (d + 1) 135 342 (RR V) [.ref 2] (x, G, L) = oI (if c.1 = 0 then i3 0 else i3 1) x G L := by
  rw [m_135, h]
  by_cases q : c.1 = 0
  · rw [if_pos (by rw [q]), if_pos q]
  · rw [if_neg (by rw [i3_eq (by omega) (by omega)]; exact q), if_neg q]
theorem s_135b {d x : Nat} {V : pV} {G : sm_G} {L : sm_L} {c : St} (h3 : c.1 ≤ 3) (h : G 2 7 = i3 c.1) : sm_cv0 (d + 1) 135 342 (RR V) [.ref 2] (x, G, L) = oI (if c.1 = 0 then i3 0 else i3 1) x G L := s_135 (B := fun _ => 0) (n := 0) h3 h
theorem s_139 {d x : Nat} {V : pV} {G : sm_G} {L : sm_L} {B : Nat → Nat} {n k s : Nat} {c : St} (h : tC G B n ∧ c.1 ≤ 3 ∧ c.2.1 ≤ n + 1 ∧ G 2 7 = i3 c.1 ∧ G 2 8 = mi c.2.1) (hk : k ≤ 3) (hk0 : k ≠ 0) (hs : s ≤ n) : ∃ G', sm_cv0 (d + 1) 139 342 (RR V) [.ref 2, .int (i3 k), .int (i3 s)] (x, G, L) = oV x G' L ∧ tF G G' ∧ rC G' B n (if c.1 = 0 then (k, s + 1, c.2.2) else c) := by
  obtain ⟨h1, h2, h3, h4, h5⟩ := h
  rw [m_139, h4]
  by_cases q : c.1 = 0
  · rw [if_pos (by rw [q]), if_pos q]
    refine ⟨_, rfl, fun r j w => by rw [sm_up_ne (by omega), sm_up_ne (by omega)], h1.keep (fun r j w => by rw [sm_up_ne (by omega), sm_up_ne (by omega)]), hk, by show s + 1 ≤ n + 1; omega, by rw [sm_up_ne (by omega)]; exact sm_up_same _ _ _ _, by rw [sm_up_same]; exact (mi_succ s).symm, fun z => absurd z hk0⟩
  · rw [if_neg (by rw [i3_eq (by omega) (by omega)]; exact q), if_neg q]
    exact ⟨G, rfl, tF_o, h1, h2, h3, h4, h5, fun z => absurd z q⟩
theorem s_137 {d x : Nat} {V : pV} {L : sm_L} {B : Nat → Nat} {n : Nat} : ∀ a, a ≤ n → ∀ G : sm_G, tC G B n → G 2 3 = i3 a → ∃ G', sm_cv0 (d + 1) 137 342 (RR V) [.ref 2] (x, G, L) = oV x G' L ∧ G' 2 3 = i3 (sk B n a) ∧ ∀ r k, ¬ (r = 2 ∧ k = 3) → G' r k = G r k := by
  have key : ∀ a, a ≤ n → ∀ G : sm_G, tC G B n → G 2 3 = i3 a → ∃ G', hD d 137 0 [.ref 2] 342 (RR V) x G L = oV x G' L ∧ G' 2 3 = i3 (wh (bl B n) n a) ∧ ∀ r k, ¬ (r = 2 ∧ k = 3) → G' r k = G r k := by
    refine wh_ind (q := bl B n) (n := n) bl_n ?_ ?_
    · intro a q ih ha G hG h3
      have han := bl_n a q
      rw [bl_t han] at q
      obtain ⟨b1, b2⟩ := hG.2.2 a han
      have hn := hG.1
      obtain ⟨G', e1, e2, e3⟩ := ih (by omega) (sm_up G 2 3 (i3 a + i3 1)) (hG.keep (fun r k w => sm_up_ne (by omega))) (by rw [sm_up_same, i3_add])
      refine ⟨G', ?_, ?_, fun r k w => by rw [e3 r k w]; exact sm_up_ne (by omega)⟩
      · rw [h_137_0, h3, hG.2.1, if_pos (by rw [i3_lt (by omega) (by omega)]; exact han), i3_in (by omega) (by omega), gd_tt, i3_cl (by omega), b2, if_pos (by rw [cb_eq b1 (by decide)]; exact q)]
        exact e1
      · rw [wh_go han (by rw [bl_t han]; exact q)]
        exact e2
    · intro a q ha G hG h3
      have hn := hG.1
      refine ⟨G, ?_, by rw [wh_st q]; exact h3, fun _ _ _ => rfl⟩
      rw [h_137_0, h3, hG.2.1]
      by_cases han : a < n
      · obtain ⟨b1, b2⟩ := hG.2.2 a han
        have q2 : ¬ B a = 32 := fun z => by rw [(bl_t han (B := B)).mpr z] at q; cases q
        rw [if_pos (by rw [i3_lt (by omega) (by omega)]; exact han), i3_in (by omega) (by omega), gd_tt, i3_cl (by omega), b2, if_neg (by rw [cb_eq b1 (by decide)]; exact q2)]
      · rw [if_neg (by rw [i3_lt (by omega) (by omega)]; exact han)]
  intro a ha G hG h3
  rw [m_137]
  exact key a ha G hG h3
/-- ahead of the next sign -/
theorem rC.skip {G : sm_G} {d x : Nat} {V : pV} {L : sm_L} {B : Nat → Nat} {n : Nat} {c : St} (h : rC G B n c) (q : c.1 = 0) : ∃ G', sm_cv0 (d + 1) 137 342 (RR V) [.ref 2] (x, G, L) = oV x G' L ∧ G' 2 3 = i3 c.2.2 ∧ (∀ r k, ¬ (r = 2 ∧ k = 3) → G' r k = G r k) ∧ rC G' B n c ∧ c.2.2 ≤ n ∧ sk B n c.2.2 = c.2.2 := by
  obtain ⟨h1, h2, h3, h4, h5, h6⟩ := h
  obtain ⟨p0, a, a1, a2, a3⟩ := h6 q
  obtain ⟨G', e1, e2, e3⟩ := s_137 (d := d) (x := x) (V := V) (L := L) a a1 G h1 a2
  rw [a3] at e2
  have hs : c.2.2 ≤ n := by rw [← a3]; exact sk_le a1
  have hi : sk B n c.2.2 = c.2.2 := by rw [← a3]; exact sk_id
  exact ⟨G', e1, e2, e3, ⟨h1.keep (fun r k w => e3 r k (by omega)), h2, h3, by rw [e3 _ _ (by omega)]; exact h4, by rw [e3 _ _ (by omega)]; exact h5, fun _ => ⟨p0, _, hs, e2, hi⟩⟩, hs, hi⟩
