/-! rooms by number, single ones -/
theorem nuS_ok {B : Nat → Nat} {n lo h : Nat} {c : St} (z : (nuS B n lo h c).2.1 = 0) : c.1 = 0 ∧ lo ≤ (nuS B n lo h c).1 ∧ (nuS B n lo h c).1 < h ∧ (nuS B n lo h c).2 = (0, 0, sk B n (ne B n c.2.2)) ∧ c.2.2 < ne B n c.2.2 := by
  unfold nuS at z ⊢
  have hge := ne_ge (B := B) (n := n) (a := c.2.2)
  by_cases q : c.1 = 0
  · rw [if_pos q] at z ⊢
    by_cases y : ne B n c.2.2 = c.2.2
    · rw [if_pos y] at z
      exact absurd z (by show ¬ (1 : Nat) = 0; omega)
    · rw [if_neg y] at z ⊢
      by_cases w : lo ≤ nv B n c.2.2 ∧ nv B n c.2.2 < h
      · rw [if_pos w]
        exact ⟨q, w.1, w.2, rfl, by omega⟩
      · rw [if_neg w] at z
        exact absurd z (by show ¬ (2 : Nat) = 0; omega)
  · rw [if_neg q] at z
    exact absurd z q
theorem nuS_v {B : Nat → Nat} {n lo h : Nat} {c : St} : (nuS B n lo h c).1 < h ∨ (nuS B n lo h c).1 = 0 := by
  unfold nuS
  split
  · split
    · exact Or.inr rfl
    · split
      · next w => exact Or.inl w.2
      · exact Or.inr rfl
  · exact Or.inr rfl
def rgS (b : Bool) (c : St) (q : Nat × St) : St := if q.2.1 = 0 ∧ b = true then (2, c.2.2 + 1, q.2.2.2) else q.2
theorem s_144k {D x : Nat} {V : pV} {G G' : sm_G} {L : sm_L} (hD0 : 2 ≤ D) (h : sm_cv0 D 144 342 (RR V) [.ref 2] (x, G, L) = oV x G' L) : G' 2 6 = G 2 6 := by
  obtain ⟨d, rfl⟩ : ∃ d, D = d + 2 := ⟨D - 2, by omega⟩
  rw [m_144, m_139] at h
  by_cases q : G 2 7 = i3 0
  · rw [if_pos q, aV_o] at h
    rw [← oV_inj h, sm_up_ne (by omega), sm_up_ne (by omega)]
  · rw [if_neg q, aV_o] at h
    rw [← oV_inj h]
theorem s_144r {D x : Nat} {V : pV} {G : sm_G} {L : sm_L} {B : Nat → Nat} {n : Nat} {c : St} {q : Nat × St} (hD0 : 2 ≤ D) (hr : rC G B n q.2) (h6 : q.2.1 = 0 → G 2 6 = i3 c.2.2 ∧ c.2.2 ≤ n) : ∃ G', sm_cv0 D 144 342 (RR V) [.ref 2] (x, G, L) = oV x G' L ∧ tF G G' ∧ rC G' B n (rgS true c q) ∧ G' 2 6 = G 2 6 := by
  obtain ⟨G', e1, e2, e3⟩ := s_144 (x := x) (V := V) (L := L) (t := c.2.2) hD0 hr h6
  refine ⟨G', e1, e2, ?_, s_144k hD0 e1⟩
  unfold rgS
  by_cases z : q.2.1 = 0
  · rw [if_pos z] at e3
    rw [if_pos ⟨z, rfl⟩]
    exact e3
  · rw [if_neg z] at e3
    rw [if_neg (fun w => z w.1)]
    exact e3
theorem rgS_f {c : St} {q : Nat × St} : rgS false c q = q.2 := by
  unfold rgS
  rw [if_neg (fun w => by cases w.2)]
theorem pre_mi3 {n : Nat} (h : n < 2147483648) : i3 n - i3 1 = mi n := pre_mi h
theorem s_128 {D x s k : Nat} {V : pV} {G : sm_G} {L : sm_L} {B : Nat → Nat} {n : Nat} {c : St} {tw : Nat → Nat} (hD0 : 4 ≤ D) (hs : pS s) (hr : rC G B n c) (hk : G s 9 = i3 k) (hk8 : k ≤ 8) (ht : ∀ j, j < k → G (s + 11) j = mi (tw j) ∧ tw j ≤ 8) : ∃ G', sm_cv0 D 128 342 (RR V) [.ref s, .ref 2] (x, G, L) = oI (i3 (nuS B n 0 k c).1) x G' L ∧ tF G G' ∧ rC G' B n (rgS (decide (tw (nuS B n 0 k c).1 ≠ 0)) c (nuS B n 0 k c)) ∧ (c.1 = 0 → G' 2 6 = i3 c.2.2 ∧ c.2.2 ≤ n) := by
  obtain ⟨d, rfl⟩ : ∃ d, D = d + 4 := ⟨D - 4, by omega⟩
  have hsl := pS_lt hs
  obtain ⟨G1, e1, e2, e3, e4⟩ := s_143 (D := d + 3) (x := x) (V := V) (L := L) (lo := 0) (h := k) (by omega) hr (by omega) (by omega)
  have e5 := s_135b (d := d + 2) (x := x) (V := V) (L := L) e3.2.1 e3.2.2.2.1
  rw [m_128 hs, hk, pre_mi3 (by omega), e1, aI_o, e5, aI_o]
  by_cases q : (nuS B n 0 k c).2.1 = 0
  · obtain ⟨q0, _, q1, _⟩ := nuS_ok q
    obtain ⟨t1, t2⟩ := ht _ q1
    rw [if_pos q, if_pos rfl, i3_in (by omega) (by omega), gd_tt, i3_cl (by omega), e2 _ _ (by omega), t1]
    by_cases z : tw (nuS B n 0 k c).1 = 0
    · rw [if_pos (by rw [mi_m1 (by omega)]; exact z), decide_eq_false (fun w => w z), rgS_f]
      exact ⟨G1, rfl, e2, e3, e4⟩
    · obtain ⟨G2, k1, k2, k3, k4⟩ := s_144r (D := d + 3) (x := x) (V := V) (L := L) (c := c) (by omega) e3 (fun _ => e4 q0)
      rw [if_neg (by rw [mi_m1 (by omega)]; exact z), decide_eq_true z, k1, aV_o]
      exact ⟨G2, rfl, e2.tr k2, k3, fun _ => by rw [k4]; exact e4 q0⟩
  · rw [if_neg q, if_neg (by decide)]
    refine ⟨G1, rfl, e2, ?_, e4⟩
    unfold rgS
    rw [if_neg (fun w => q w.1)]
    exact e3
theorem s_234 {D x k : Nat} {V : pV} {G : sm_G} {L : sm_L} {B : Nat → Nat} {n : Nat} {c : St} {w : Int32} (hD0 : 4 ≤ D) (hr : rM G B n c) (hk : G 159 0 = i3 k) (hk8 : k ≤ 8) : ∃ G', sm_cv0 D 234 342 (RR V) [.ref 156, .int w] (x, G, L) = oI (i3 (nuS B n 0 k c).1) x G' L ∧ mF G G' ∧ rM G' B n (rgS (decide (i3 (nuS B n 0 k c).1 = w)) c (nuS B n 0 k c)) := by
  obtain ⟨d, rfl⟩ : ∃ d, D = d + 4 := ⟨D - 4, by omega⟩
  rw [m_234, hr.2.2.2.1]
  by_cases q0 : c.1 = 0
  · obtain ⟨G1, e1, e2, e3⟩ := s_221 (D := d + 3) (x := x) (V := V) (L := L) (by omega) hr
    obtain ⟨a1, a2, a3, a4⟩ := e2.at q0
    obtain ⟨G2, k1, k2, k3⟩ := s_232 (D := d + 3) (x := x) (V := V) (L := L) (lo := 0) (h := k) (by omega) e2.M (by omega) (by omega)
    have f1 : mF G G1 := fun r k w => e3 r k (by omega)
    rw [if_pos (by rw [q0]), e1, aV_o, e3 _ _ (by omega), hk, pre_mi3 (by omega), k1, aI_o, k3.2.2.2.1]
    by_cases q : (nuS B n 0 k c).2.1 = 0
    · rw [if_pos (by rw [q])]
      by_cases z : i3 (nuS B n 0 k c).1 = w
      · obtain ⟨G3, u1, u2, u3, _⟩ := s_229 (d := d + 2) (x := x) (V := V) (L := L) (k := 2) (s := c.2.2) k3 (by omega) (by omega) a2
        rw [if_pos z, a1, u1, aV_o, decide_eq_true z]
        refine ⟨G3, rfl, (f1.tr k2).tr u2, ?_⟩
        unfold rgS
        rw [if_pos q] at u3
        rw [if_pos ⟨q, rfl⟩]
        exact u3
      · rw [if_neg z, decide_eq_false z, rgS_f]
        exact ⟨G2, rfl, f1.tr k2, k3⟩
    · rw [if_neg (by rw [i3_eq (by have := k3.2.1; omega) (by omega)]; exact q)]
      refine ⟨G2, rfl, f1.tr k2, ?_⟩
      unfold rgS
      rw [if_neg (fun w => q w.1)]
      exact k3
  · have en : nuS B n 0 k c = (0, c) := if_neg q0
    rw [if_neg (by rw [i3_eq (by have := hr.2.1; omega) (by omega)]; exact q0), en]
    refine ⟨G, rfl, mF_o, ?_⟩
    unfold rgS
    rw [if_neg (fun w => q0 w.1)]
    exact hr
theorem s_235 {D x k : Nat} {V : pV} {G : sm_G} {L : sm_L} {B : Nat → Nat} {n : Nat} {c : St} {w : Int32} {tw : Nat → Nat} (hD0 : 5 ≤ D) (hr : rM G B n c) (hk : G 159 0 = i3 k) (hk8 : k ≤ 8) (ht : ∀ j, j < k → G 161 j = mi (tw j) ∧ tw j ≤ 8) : ∃ G', sm_cv0 D 235 342 (RR V) [.ref 156, .int w] (x, G, L) = oI (i3 (nuS B n 0 k c).1) x G' L ∧ mF G G' ∧ rM G' B n (rgS (decide (tw (nuS B n 0 k c).1 ≠ 0) || decide (i3 (nuS B n 0 k c).1 = w)) c (nuS B n 0 k c)) := by
  obtain ⟨d, rfl⟩ : ∃ d, D = d + 5 := ⟨D - 5, by omega⟩
  rw [m_235, hr.2.2.2.1]
  by_cases q0 : c.1 = 0
  · obtain ⟨G1, e1, e2, e3⟩ := s_221 (D := d + 4) (x := x) (V := V) (L := L) (by omega) hr
    obtain ⟨a1, a2, a3, a4⟩ := e2.at q0
    have f1 : mF G G1 := fun r k w => e3 r k (by omega)
    obtain ⟨G2, k1, k2, k3⟩ := s_234 (D := d + 4) (x := x) (V := V) (L := L) (w := w) (by omega) e2.M (by rw [e3 _ _ (by omega)]; exact hk) hk8
    rw [if_pos (by rw [q0]), e1, aV_o, k1, aI_o, k3.2.2.2.1]
    by_cases q : (nuS B n 0 k c).2.1 = 0
    · obtain ⟨_, _, q1, _⟩ := nuS_ok q
      obtain ⟨t1, t2⟩ := ht _ q1
      by_cases z : i3 (nuS B n 0 k c).1 = w
      · rw [decide_eq_true z] at k3 ⊢
        rw [Bool.or_true]
        have e : rgS true c (nuS B n 0 k c) = (2, c.2.2 + 1, (nuS B n 0 k c).2.2.2) := if_pos ⟨q, rfl⟩
        rw [e, if_neg (show ¬ i3 2 = i3 0 by decide)]
        rw [e] at k3
        exact ⟨G2, rfl, f1.tr k2, k3⟩
      · rw [decide_eq_false z, rgS_f] at k3 ⊢
        rw [Bool.or_false, if_pos (by rw [q]), i3_in (by omega) (by omega), gd_tt, i3_cl (by omega), k2 _ _ (by omega), f1 _ _ (by omega), t1]
        by_cases y : tw (nuS B n 0 k c).1 = 0
        · rw [if_pos (by rw [mi_m1 (by omega)]; exact y), decide_eq_false (fun w => w y), rgS_f]
          exact ⟨G2, rfl, f1.tr k2, k3⟩
        · obtain ⟨G3, u1, u2, u3, _⟩ := s_229 (d := d + 3) (x := x) (V := V) (L := L) (k := 2) (s := c.2.2) k3 (by omega) (by omega) a2
          rw [if_neg (by rw [mi_m1 (by omega)]; exact y), a1, u1, aV_o, decide_eq_true y]
          refine ⟨G3, rfl, (f1.tr k2).tr u2, ?_⟩
          unfold rgS
          rw [if_pos q] at u3
          rw [if_pos ⟨q, rfl⟩]
          exact u3
    · have e : ∀ b, rgS b c (nuS B n 0 k c) = (nuS B n 0 k c).2 := fun b => if_neg (fun w => q w.1)
      rw [e] at k3 ⊢
      rw [if_neg (by rw [i3_eq (by have := k3.2.1; omega) (by omega)]; exact q)]
      exact ⟨G2, rfl, f1.tr k2, by rw [e]; exact k3⟩
  · have en : nuS B n 0 k c = (0, c) := if_neg q0
    rw [if_neg (by rw [i3_eq (by have := hr.2.1; omega) (by omega)]; exact q0), en]
    refine ⟨G, rfl, mF_o, ?_⟩
    unfold rgS
    rw [if_neg (fun w => q0 w.1)]
    exact hr
