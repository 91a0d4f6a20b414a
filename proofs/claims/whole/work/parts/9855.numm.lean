/-! the model's numbers -/
theorem nval_le {B : Nat → Nat} : ∀ (f a v : Nat), v ≤ 100000 → nval B f a v ≤ 100000
  | 0, _, _, h => h
  | f + 1, a, v, h => by
    rw [nval_s]
    exact nval_le f (a + 1) _ (by split <;> omega)
theorem s_232 {D x : Nat} {V : pV} {G : sm_G} {L : sm_L} {B : Nat → Nat} {n lo h : Nat} {c : St} (hD0 : 3 ≤ D) (hr : rM G B n c) (hlo : lo < 100000) (hh : h ≤ 100000) : ∃ G', sm_cv0 D 232 342 (RR V) [.ref 156, .int (i3 lo), .int (mi h)] (x, G, L) = oI (i3 (nuS B n lo h c).1) x G' L ∧ mF G G' ∧ rM G' B n (nuS B n lo h c).2 := by
  obtain ⟨d, rfl⟩ : ∃ d, D = d + 3 := ⟨D - 3, by omega⟩
  unfold nuS
  rw [m_232, hr.2.2.2.1]
  by_cases q : c.1 = 0
  · obtain ⟨G1, e1, e2, e3⟩ := s_221 (D := d + 2) (x := x) (V := V) (L := L) (by omega) hr
    obtain ⟨a1, a2, a3, a4⟩ := e2.at q
    have hn := e2.1.1
    have f1 : mF G G1 := fun r k w => e3 r k (by omega)
    have e22 := s_222 (d := d + 1) (x := x) (V := V) (L := L) (a := c.2.2) e2.1 (by omega)
    have e33 := s_233 (d := d + 1) (x := x) (V := V) (G := G1) (L := L) (a := c.2.2) e2.1
    have hle := ne_le (B := B) a2
    have hge := ne_ge (B := B) (n := n) (a := c.2.2)
    have key : ∀ a, a ≤ n → ∀ (g : sm_G) (v : Nat), tM g B n → g 156 4 = i3 a → v ≤ 100000 → ∃ g', hD (d + 2) 232 44 [.ref 156, .int (i3 lo), .int (mi h), .int (i3 c.2.2), .int (i3 v)] 342 (RR V) x g L = hD (d + 2) 232 44 [.ref 156, .int (i3 lo), .int (mi h), .int (i3 c.2.2), .int (i3 (nval B (wh (dg B n) n a - a) a v))] 342 (RR V) x g' L ∧ g' 156 4 = i3 (wh (dg B n) n a) ∧ ∀ r k, ¬ (r = 156 ∧ k = 4) → g' r k = g r k := by
      refine wh_ind (q := dg B n) (n := n) dg_n ?_ ?_
      · intro a q ih ha g v hg h3 hv
        have han := dg_n a q
        have hge := wh_ge (q := dg B n) (n := n) dg_n (a + 1)
        have e22 := s_222 (d := d + 1) (x := x) (V := V) (L := L) (a := a) hg (by omega)
        have e33 := s_233 (d := d + 1) (x := x) (V := V) (G := g) (L := L) (a := a) hg
        have q' := q
        rw [dg_t han] at q'
        have hb := (hg.2.2 a han).1
        have eb : bA B n a = i3 (B a) := if_pos han
        rw [wh_go han q, show wh (dg B n) n (a + 1) - a = wh (dg B n) n (a + 1) - (a + 1) + 1 by omega, nval_s]
        obtain ⟨g', k1, k2, k3⟩ := ih (by omega) (sm_up g 156 4 (i3 (a + 1))) (if v * 10 + (B a - 48) ≤ 100000 then v * 10 + (B a - 48) else 100000) (hg.keep (fun r k w => sm_up_ne (by omega))) (sm_up_same _ _ _ _) (by split <;> omega)
        refine ⟨g', ?_, k2, fun r k w => by rw [k3 r k w]; exact sm_up_ne (by omega)⟩
        rw [h_232_44, h3, e22, aI_o, e33, aI_o, if_pos q, if_neg (by decide), h3, e22, aI_o, eb, h3, i3_mul, i3_add, i3_add, i3_sub (by omega)]
        by_cases z : v * 10 + (B a - 48) ≤ 100000
        · rw [if_pos z] at k1
          rw [if_pos (by rw [i3_le (by omega) (by omega)]; omega), if_pos z, show 10 * v + B a - 48 = v * 10 + (B a - 48) by omega]
          exact k1
        · rw [if_neg z] at k1
          rw [if_neg (by rw [i3_le (by omega) (by omega)]; omega), if_neg z]
          exact k1
      · intro a q ha g v hg h3 hv
        rw [wh_st q, Nat.sub_self]
        exact ⟨g, rfl, h3, fun _ _ _ => rfl⟩
    have hnv : nv B n c.2.2 ≤ 100000 := nval_le _ _ _ (by omega)
    have fin : ∀ (g : sm_G) (c1 : St), tM g B n → g 156 4 = i3 (ne B n c.2.2) → rM g B n c1 → ∃ g', hD (d + 2) 232 44 [.ref 156, .int (i3 lo), .int (mi h), .int (i3 c.2.2), .int (i3 (nv B n c.2.2))] 342 (RR V) x g L = oI (if c1.1 = 0 ∧ lo ≤ nv B n c.2.2 ∧ nv B n c.2.2 < h then i3 (nv B n c.2.2) else i3 0) x g' L ∧ mF g g' ∧ rM g' B n (if c1.1 = 0 ∧ ¬ (lo ≤ nv B n c.2.2 ∧ nv B n c.2.2 < h) then (2, c.2.2 + 1, c1.2.2) else c1) := by
      intro g c1 hg h4 hr1
      have e22 := s_222 (d := d + 1) (x := x) (V := V) (L := L) (a := ne B n c.2.2) hg (by omega)
      have e33 := s_233 (d := d + 1) (x := x) (V := V) (G := g) (L := L) (a := ne B n c.2.2) hg
      have hno : dg B n (ne B n c.2.2) = false := wh_no dg_n _
      have e18 := s_218 (d := d + 1) (x := x) (V := V) (G := g) (L := L) (v := i3 (nv B n c.2.2)) (a := i3 lo) (b := mi h)
      have hiff : (i3 lo ≤ i3 (nv B n c.2.2) ∧ i3 (nv B n c.2.2) ≤ mi h) = (lo ≤ nv B n c.2.2 ∧ nv B n c.2.2 < h) := by rw [i3_le (by omega) (by omega), le_mi (by omega) (by omega)]
      rw [h_232_44, h4, e22, aI_o, e33, aI_o, if_neg (show ¬ dg B n (ne B n c.2.2) = true by rw [hno]; decide), if_pos rfl]
      by_cases y : lo ≤ nv B n c.2.2 ∧ nv B n c.2.2 < h
      · rw [if_pos (show i3 lo ≤ i3 (nv B n c.2.2) ∧ i3 (nv B n c.2.2) ≤ mi h by rw [hiff]; exact y)] at e18
        rw [e18, aI_o, if_neg (by decide), hr1.2.2.2.1]
        by_cases z : c1.1 = 0
        · rw [if_pos (by rw [z]), if_pos ⟨z, y⟩, if_neg (fun w => w.2 y)]
          exact ⟨g, rfl, mF_o, hr1⟩
        · rw [if_neg (by rw [i3_eq (by have := hr1.2.1; omega) (by omega)]; exact z), if_neg (fun w => z w.1), if_neg (fun w => z w.1)]
          exact ⟨g, rfl, mF_o, hr1⟩
      · obtain ⟨g2, k1, k2, k3, _⟩ := s_229 (d := d + 1) (x := x) (V := V) (L := L) (k := 2) (s := c.2.2) hr1 (by omega) (by omega) a2
        rw [if_neg (show ¬ (i3 lo ≤ i3 (nv B n c.2.2) ∧ i3 (nv B n c.2.2) ≤ mi h) by rw [hiff]; exact y)] at e18
        rw [e18, aI_o, if_pos rfl, k1, aV_o, if_neg (fun w : c1.1 = 0 ∧ lo ≤ nv B n c.2.2 ∧ nv B n c.2.2 < h => y w.2)]
        have hne : g2 156 5 ≠ i3 0 := by
          rw [k3.2.2.2.1, Ne, i3_eq (by have := k3.2.1; omega) (by omega)]
          by_cases z : c1.1 = 0
          · rw [if_pos z]; show ¬ (2 : Nat) = 0; omega
          · rw [if_neg z]; exact z
        rw [if_neg hne]
        refine ⟨g2, rfl, k2, ?_⟩
        by_cases z : c1.1 = 0
        · rw [if_pos z] at k3
          rw [if_pos ⟨z, y⟩]
          exact k3
        · rw [if_neg z] at k3
          rw [if_neg (fun w => z w.1)]
          exact k3
    rw [if_pos (by rw [q]), if_pos q, e1, aV_o, a1, e22, aI_o, e33, aI_o]
    by_cases z : ne B n c.2.2 = c.2.2
    · have hno : dg B n c.2.2 = false := by
        have := wh_no (q := dg B n) (n := n) dg_n c.2.2
        rw [show wh (dg B n) n c.2.2 = c.2.2 from z] at this
        exact this
      obtain ⟨G2, k1, k2, k3, k4⟩ := s_229 (d := d + 1) (x := x) (V := V) (L := L) (k := 1) (s := c.2.2) e2.M (by omega) (by omega) a2
      rw [if_pos q] at k3
      obtain ⟨G3, u1, u2, u3⟩ := fin G2 _ k3.1 (by rw [k4, a1, z]) k3
      have hv0 : nv B n c.2.2 = 0 := by
        unfold nv
        rw [z, Nat.sub_self]
        rfl
      rw [hv0] at u1 u3
      rw [if_neg (show ¬ dg B n c.2.2 = true by rw [hno]; decide), if_pos rfl, a1, k1, aV_o, u1, if_pos z]
      rw [if_neg (fun w => absurd w.1 (by show ¬ (1 : Nat) = 0; omega))] at u3
      refine ⟨G3, ?_, (f1.tr k2).tr u2, u3⟩
      rw [if_neg (fun w => absurd w.1 (by show ¬ (1 : Nat) = 0; omega))]
    · have hyes : dg B n c.2.2 = true := by
        cases y : dg B n c.2.2 with
        | true => rfl
        | false => exact absurd (wh_st y) z
      obtain ⟨G2, k1, k2, k3⟩ := key c.2.2 a2 G1 0 e2.1 a1 (by omega)
      have k1 : hD (d + 2) 232 44 [.ref 156, .int (i3 lo), .int (mi h), .int (i3 c.2.2), .int (i3 0)] 342 (RR V) x G1 L = hD (d + 2) 232 44 [.ref 156, .int (i3 lo), .int (mi h), .int (i3 c.2.2), .int (i3 (nv B n c.2.2))] 342 (RR V) x G2 L := k1
      have f2 : mF G1 G2 := fun r k w => k3 r k (by omega)
      have hr2 : rM G2 B n (0, 0, sk B n (ne B n c.2.2)) := ⟨e2.1.F f2, by show 0 ≤ 3; omega, by show 0 ≤ n + 1; omega, by rw [k3 _ _ (by omega), e2.2.2.2.1, q], by rw [k3 _ _ (by omega), e2.2.2.2.2.1, a4], _, hle, k2, fun _ => ⟨rfl, rfl⟩⟩
      obtain ⟨G3, u1, u2, u3⟩ := fin G2 _ hr2.1 k2 hr2
      rw [if_pos hyes, if_neg (by decide), k1, u1, if_neg z]
      by_cases y : lo ≤ nv B n c.2.2 ∧ nv B n c.2.2 < h
      · rw [if_neg (fun w => w.2 y)] at u3
        rw [if_pos ⟨rfl, y⟩, if_pos y]
        exact ⟨G3, rfl, (f1.tr f2).tr u2, u3⟩
      · rw [if_pos ⟨rfl, y⟩] at u3
        rw [if_neg (fun w => y w.2), if_neg y]
        refine ⟨G3, rfl, (f1.tr f2).tr u2, ?_⟩
        obtain ⟨t1, t2, t3, t4, t5, a, t6, t7, t8⟩ := u3
        exact ⟨t1, t2, t3, t4, t5, a, t6, t7, fun w => absurd w (by show ¬ (2 : Nat) = 0; omega)⟩
  · rw [if_neg (by rw [i3_eq (by have := hr.2.1; omega) (by omega)]; exact q), if_neg q]
    exact ⟨G, rfl, mF_o, hr⟩
