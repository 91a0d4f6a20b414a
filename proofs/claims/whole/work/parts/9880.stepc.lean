/-! wills: the steps, one kind behind another -/
theorem nsOk {B : Nat → Nat} {n lo h a : Nat} (u : (sgS B n 59 (nuS B n lo h (0, 0, a)).2).1 = 0) : lo ≤ (nuS B n lo h (0, 0, a)).1 ∧ (nuS B n lo h (0, 0, a)).1 < h ∧ a + 2 ≤ (sgS B n 59 (nuS B n lo h (0, 0, a)).2).2.2 := by
  obtain ⟨s1, s2, s3, s4⟩ := sgS_ok u
  obtain ⟨_, t1, t2, t3, t4⟩ := nuS_ok s1
  have t4 : a < ne B n a := t4
  refine ⟨t1, t2, ?_⟩
  rw [s4, t3]
  show a + 2 ≤ sk B n (sk B n (ne B n a) + 1)
  have k1 := sk_ge (B := B) (n := n) (a := ne B n a)
  have k2 := sk_ge (B := B) (n := n) (a := sk B n (ne B n a) + 1)
  omega
theorem sgOk {B : Nat → Nat} {n : Nat} {c : St} (u : (sgS B n 59 c).1 = 0) : c.1 = 0 ∧ c.2.2 + 1 ≤ (sgS B n 59 c).2.2 := by
  obtain ⟨s1, s2, s3, s4⟩ := sgS_ok u
  refine ⟨s1, ?_⟩
  rw [s4]
  exact sk_ge
theorem nuOk {B : Nat → Nat} {n lo h a : Nat} (u : (nuS B n lo h (0, 0, a)).2.1 = 0) : lo ≤ (nuS B n lo h (0, 0, a)).1 ∧ (nuS B n lo h (0, 0, a)).1 < h ∧ a + 1 ≤ (nuS B n lo h (0, 0, a)).2.2.2 := by
  obtain ⟨_, t1, t2, t3, t4⟩ := nuS_ok u
  have t4 : a < ne B n a := t4
  refine ⟨t1, t2, ?_⟩
  rw [t3]
  show a + 1 ≤ sk B n (ne B n a)
  have k1 := sk_ge (B := B) (n := n) (a := ne B n a)
  omega
theorem st_c0 {D E x x' w h st z Q : Nat} {V U : pV} {L L' : sm_L} {B : Nat → Nat} {n : Nat} {T : pT} {c : St} {X g : sm_G} (hh : h ≤ 6) (hD0 : 3 * (7 - h) + 12 ≤ D + 1) (hE0 : 2 * (7 - h) + 12 ≤ E + 1) (hw : pW w) (hT : okT T) (hn : n ≤ 150) (q : c.1 = 0) (rw0 : rW X B n c) (re0 : rE g B n c) (x4 : X w 4 = i3 z) (x5 : X w 5 = i3 (st + 1)) (x6 : X w 6 = i3 (sl T)) (x7 : X w 7 = i3 (dn T)) (g0 : g 160 0 = i3 (sl T)) (g1' : g 160 1 = i3 (dn T)) (g34 : g 156 34 = i3 st) (g35 : g 156 35 = i3 Q) (g8 : g 156 8 = i3 h) (hz : 4 * z ≤ c.2.2) (hst : 4 * st ≤ c.2.2) (hQ : Q ≤ st) (hl : c.2.2 + 2 ≤ we B n c.2.2) : ∃ X' g' c', sm_aI (sm_cv0 D 143 342 (RR V) [.ref 2, .int (i3 0), .int (X w 6 - i3 1)] (x, X, L)) (fun a12 x12 G12 L12 => sm_aI (sm_cv0 D 172 342 (RR V) [.ref w, .int (i3 0), .int a12, .int (i3 0)] (x12, G12, L12)) (fun a13 x13 G13 L13 => hD D 171 154 [.null, .ref 2, .null] 342 (RR V) x13 G13 L13) oX) oX = oV x X' L ∧ hD E 239 19 [.ref 156, .int (i3 0), .null] 342 (RR U) x' g L' = oV x' g' L' ∧ jO X g X' g' B n c c' w T h h 0 st z Q ∧ (c'.1 = 0 → c.2.2 + 4 ≤ c'.2.2) := by
  have hwl := pW_lt hw
  have hB := hT.gb
  obtain ⟨_, _, hwn, _⟩ := rw0.2.2.2.2.2 q
  have hsk := sk_ge (B := B) (n := n) (a := we B n c.2.2)
  obtain ⟨X1, a1, a2, a3, _⟩ := nuC (D := D) (x := x) (V := V) (L := L) (vh := (X w 6 - i3 1)) 0 (sl T) (by omega) (rw0.c0 q) (by omega) (by omega) rfl ((by rw [x6]; exact pre_mi3 (by omega)))
  obtain ⟨X2, i, b1, b2, b3, b4, b5⟩ := s_172 (D := D) (x := x) (V := V) (L := L) (v1 := i3 0) (v2 := i3 (nuS B n 0 (sl T) (0, 0, sk B n (we B n c.2.2))).1) (v3 := i3 0) (by omega) hw (show X1 w 4 = i3 z by rw [a2 _ _ (by omega)]; exact x4) (by omega)
  obtain ⟨ei, b6, b7, b8, b9⟩ := b4 (by omega)
  rw [ei] at b1 b3
  obtain ⟨X3, e1, e2, e3⟩ := s_145 (D := D) (x := x) (V := V) (L := L) (ch := 59) (by omega) (a3.keep (fun r j y => b5 r j (by omega) (by omega))) (by omega)
  obtain ⟨m1, p1, p2, p3, p4, p5, p6⟩ := mh_0 (E := E) (x' := x') (U := U) (L' := L') (T := T) (by omega) re0 q g34 (by omega) (by omega) g0
  have h35 : m1 156 35 = i3 Q := by rw [p6 _ _ (by omega) (by omega)]; exact g35
  have p2' : rM (sm_up m1 303 (5 * st + 2) (i3 Q)) B n (nuS B n 0 (sl T) (0, 0, sk B n (we B n c.2.2))).2 := p2.keep (fun r j y => sm_up_ne (by omega))
  obtain ⟨m2, q1, q2, q3, q4, q5⟩ := mt_158 (E := E) (x' := x') (st := st) (k := 0) (U := U) (L' := L') (by omega) p2' (by omega) (by omega)
  rw [sm_up_ne (by omega)] at q3 q4
  rw [a1, aI_o, b1, aI_o, h_171_154, e1, aV_o, p1, mt_128 (by omega) (by omega) h35, if_pos (by omega), q1]
  refine ⟨X3, m2, sgS B n 59 (nuS B n 0 (sl T) (0, 0, sk B n (we B n c.2.2))).2, rfl, rfl, ⟨e3, q2, (a2.W (by omega)).tr ((put_W b5).tr (e2.W (by omega)) (Nat.le_refl _)) (Nat.le_refl _), fun r j y1 y2 y3 => by rw [q5 r j (by omega) (by omega), sm_up_ne (by omega), p6 r j (by omega) (by omega)], ⟨z + 1, by omega, by omega, by rw [e2 _ _ (by omega)]; exact b3⟩, fun u => ?_⟩, fun u => ?_⟩
  · obtain ⟨t1, t2, t3⟩ := nsOk u
    have t4 := e3.le u
    refine ⟨by rw [q5 _ _ (by omega) (by omega), sm_up_ne (by omega), p6 _ _ (by omega) (by omega)]; exact g8, st + 1, z + 1, Q, by rw [e2 _ _ (by omega)]; exact b3, by rw [e2 _ _ (by omega), b5 _ _ (by omega) (by omega), a2 _ _ (by omega)]; exact x5, by rw [q5 _ _ (by omega) (by omega), sm_up_ne (by omega)]; exact p3, by rw [q5 _ _ (by omega) (by omega), sm_up_ne (by omega)]; exact h35, seg_0 (k := 0) (v := (nuS B n 0 (sl T) (0, 0, sk B n (we B n c.2.2))).1) ⟨by rw [e2 _ _ (by omega)]; exact b6, by rw [e2 _ _ (by omega)]; exact b7, by rw [e2 _ _ (by omega)]; exact b8, by rw [e2 _ _ (by omega)]; exact b9⟩ ⟨by rw [q5 _ _ (by omega) (by omega), sm_up_ne (by omega)]; exact p4, by rw [q5 _ _ (by omega) (by omega), sm_up_ne (by omega)]; exact p5, by rw [q5 _ _ (by omega) (by omega)]; exact sm_up_same _ _ _ _, by rw [q3]; exact p3, by rw [q4]; exact p3⟩ (by rw [q5 _ _ (by omega) (by omega), sm_up_ne (by omega)]; exact h35) (by omega) (by omega) (by omega) (by omega) (by omega), by omega, by omega, by omega, t4⟩
  · obtain ⟨t1, t2, t3⟩ := nsOk u
    omega
theorem st_c1 {D E x x' w h st z Q : Nat} {V U : pV} {L L' : sm_L} {B : Nat → Nat} {n : Nat} {T : pT} {c : St} {X g : sm_G} (hh : h ≤ 6) (hD0 : 3 * (7 - h) + 12 ≤ D + 1) (hE0 : 2 * (7 - h) + 12 ≤ E + 1) (hw : pW w) (hT : okT T) (hn : n ≤ 150) (q : c.1 = 0) (rw0 : rW X B n c) (re0 : rE g B n c) (x4 : X w 4 = i3 z) (x5 : X w 5 = i3 (st + 1)) (x6 : X w 6 = i3 (sl T)) (x7 : X w 7 = i3 (dn T)) (g0 : g 160 0 = i3 (sl T)) (g1' : g 160 1 = i3 (dn T)) (g34 : g 156 34 = i3 st) (g35 : g 156 35 = i3 Q) (g8 : g 156 8 = i3 h) (hz : 4 * z ≤ c.2.2) (hst : 4 * st ≤ c.2.2) (hQ : Q ≤ st) (hl : c.2.2 + 2 ≤ we B n c.2.2) : ∃ X' g' c', sm_aI (sm_cv0 D 143 342 (RR V) [.ref 2, .int (i3 1), .int (i3 99)] (x, X, L)) (fun a12 x12 G12 L12 => sm_aI (sm_cv0 D 172 342 (RR V) [.ref w, .int (i3 1), .int a12, .int (i3 0)] (x12, G12, L12)) (fun a13 x13 G13 L13 => hD D 171 154 [.null, .ref 2, .null] 342 (RR V) x13 G13 L13) oX) oX = oV x X' L ∧ hD E 239 19 [.ref 156, .int (i3 1), .null] 342 (RR U) x' g L' = oV x' g' L' ∧ jO X g X' g' B n c c' w T h h 0 st z Q ∧ (c'.1 = 0 → c.2.2 + 4 ≤ c'.2.2) := by
  have hwl := pW_lt hw
  have hB := hT.gb
  obtain ⟨_, _, hwn, _⟩ := rw0.2.2.2.2.2 q
  have hsk := sk_ge (B := B) (n := n) (a := we B n c.2.2)
  obtain ⟨X1, a1, a2, a3, _⟩ := nuC (D := D) (x := x) (V := V) (L := L) (vh := (i3 99)) 1 100 (by omega) (rw0.c0 q) (by omega) (by omega) rfl (mi_99)
  obtain ⟨X2, i, b1, b2, b3, b4, b5⟩ := s_172 (D := D) (x := x) (V := V) (L := L) (v1 := i3 1) (v2 := i3 (nuS B n 1 100 (0, 0, sk B n (we B n c.2.2))).1) (v3 := i3 0) (by omega) hw (show X1 w 4 = i3 z by rw [a2 _ _ (by omega)]; exact x4) (by omega)
  obtain ⟨ei, b6, b7, b8, b9⟩ := b4 (by omega)
  rw [ei] at b1 b3
  obtain ⟨X3, e1, e2, e3⟩ := s_145 (D := D) (x := x) (V := V) (L := L) (ch := 59) (by omega) (a3.keep (fun r j y => b5 r j (by omega) (by omega))) (by omega)
  obtain ⟨m1, p1, p2, p3, p4, p5, p6⟩ := mh_1 (E := E) (x' := x') (U := U) (L' := L') (by omega) re0 q g34 (by omega)
  have h35 : m1 156 35 = i3 Q := by rw [p6 _ _ (by omega) (by omega)]; exact g35
  have p2' : rM (sm_up m1 303 (5 * st + 2) (i3 Q)) B n (nuS B n 1 100 (0, 0, sk B n (we B n c.2.2))).2 := p2.keep (fun r j y => sm_up_ne (by omega))
  obtain ⟨m2, q1, q2, q3, q4, q5⟩ := mt_158 (E := E) (x' := x') (st := st) (k := 1) (U := U) (L' := L') (by omega) p2' (by omega) (by omega)
  rw [sm_up_ne (by omega)] at q3 q4
  rw [a1, aI_o, b1, aI_o, h_171_154, e1, aV_o, p1, mt_128 (by omega) (by omega) h35, if_pos (by omega), q1]
  refine ⟨X3, m2, sgS B n 59 (nuS B n 1 100 (0, 0, sk B n (we B n c.2.2))).2, rfl, rfl, ⟨e3, q2, (a2.W (by omega)).tr ((put_W b5).tr (e2.W (by omega)) (Nat.le_refl _)) (Nat.le_refl _), fun r j y1 y2 y3 => by rw [q5 r j (by omega) (by omega), sm_up_ne (by omega), p6 r j (by omega) (by omega)], ⟨z + 1, by omega, by omega, by rw [e2 _ _ (by omega)]; exact b3⟩, fun u => ?_⟩, fun u => ?_⟩
  · obtain ⟨t1, t2, t3⟩ := nsOk u
    have t4 := e3.le u
    refine ⟨by rw [q5 _ _ (by omega) (by omega), sm_up_ne (by omega), p6 _ _ (by omega) (by omega)]; exact g8, st + 1, z + 1, Q, by rw [e2 _ _ (by omega)]; exact b3, by rw [e2 _ _ (by omega), b5 _ _ (by omega) (by omega), a2 _ _ (by omega)]; exact x5, by rw [q5 _ _ (by omega) (by omega), sm_up_ne (by omega)]; exact p3, by rw [q5 _ _ (by omega) (by omega), sm_up_ne (by omega)]; exact h35, seg_0 (k := 1) (v := (nuS B n 1 100 (0, 0, sk B n (we B n c.2.2))).1) ⟨by rw [e2 _ _ (by omega)]; exact b6, by rw [e2 _ _ (by omega)]; exact b7, by rw [e2 _ _ (by omega)]; exact b8, by rw [e2 _ _ (by omega)]; exact b9⟩ ⟨by rw [q5 _ _ (by omega) (by omega), sm_up_ne (by omega)]; exact p4, by rw [q5 _ _ (by omega) (by omega), sm_up_ne (by omega)]; exact p5, by rw [q5 _ _ (by omega) (by omega)]; exact sm_up_same _ _ _ _, by rw [q3]; exact p3, by rw [q4]; exact p3⟩ (by rw [q5 _ _ (by omega) (by omega), sm_up_ne (by omega)]; exact h35) (by omega) (by omega) (by omega) (by omega) (by omega), by omega, by omega, by omega, t4⟩
  · obtain ⟨t1, t2, t3⟩ := nsOk u
    omega
theorem st_c2 {D E x x' w h st z Q : Nat} {V U : pV} {L L' : sm_L} {B : Nat → Nat} {n : Nat} {T : pT} {c : St} {X g : sm_G} (hh : h ≤ 6) (hD0 : 3 * (7 - h) + 12 ≤ D + 1) (hE0 : 2 * (7 - h) + 12 ≤ E + 1) (hw : pW w) (hT : okT T) (hn : n ≤ 150) (q : c.1 = 0) (rw0 : rW X B n c) (re0 : rE g B n c) (x4 : X w 4 = i3 z) (x5 : X w 5 = i3 (st + 1)) (x6 : X w 6 = i3 (sl T)) (x7 : X w 7 = i3 (dn T)) (g0 : g 160 0 = i3 (sl T)) (g1' : g 160 1 = i3 (dn T)) (g34 : g 156 34 = i3 st) (g35 : g 156 35 = i3 Q) (g8 : g 156 8 = i3 h) (hz : 4 * z ≤ c.2.2) (hst : 4 * st ≤ c.2.2) (hQ : Q ≤ st) (hl : c.2.2 + 2 ≤ we B n c.2.2) : ∃ X' g' c', sm_aI (sm_cv0 D 143 342 (RR V) [.ref 2, .int (i3 0), .int (i3 5)] (x, X, L)) (fun a12 x12 G12 L12 => sm_aI (sm_cv0 D 172 342 (RR V) [.ref w, .int (i3 2), .int a12, .int (i3 0)] (x12, G12, L12)) (fun a13 x13 G13 L13 => hD D 171 154 [.null, .ref 2, .null] 342 (RR V) x13 G13 L13) oX) oX = oV x X' L ∧ hD E 239 19 [.ref 156, .int (i3 2), .null] 342 (RR U) x' g L' = oV x' g' L' ∧ jO X g X' g' B n c c' w T h h 0 st z Q ∧ (c'.1 = 0 → c.2.2 + 4 ≤ c'.2.2) := by
  have hwl := pW_lt hw
  have hB := hT.gb
  obtain ⟨_, _, hwn, _⟩ := rw0.2.2.2.2.2 q
  have hsk := sk_ge (B := B) (n := n) (a := we B n c.2.2)
  obtain ⟨X1, a1, a2, a3, _⟩ := nuC (D := D) (x := x) (V := V) (L := L) (vh := (i3 5)) 0 6 (by omega) (rw0.c0 q) (by omega) (by omega) rfl (mi_5)
  obtain ⟨X2, i, b1, b2, b3, b4, b5⟩ := s_172 (D := D) (x := x) (V := V) (L := L) (v1 := i3 2) (v2 := i3 (nuS B n 0 6 (0, 0, sk B n (we B n c.2.2))).1) (v3 := i3 0) (by omega) hw (show X1 w 4 = i3 z by rw [a2 _ _ (by omega)]; exact x4) (by omega)
  obtain ⟨ei, b6, b7, b8, b9⟩ := b4 (by omega)
  rw [ei] at b1 b3
  obtain ⟨X3, e1, e2, e3⟩ := s_145 (D := D) (x := x) (V := V) (L := L) (ch := 59) (by omega) (a3.keep (fun r j y => b5 r j (by omega) (by omega))) (by omega)
  obtain ⟨m1, p1, p2, p3, p4, p5, p6⟩ := mh_2 (E := E) (x' := x') (U := U) (L' := L') (by omega) re0 q g34 (by omega)
  have h35 : m1 156 35 = i3 Q := by rw [p6 _ _ (by omega) (by omega)]; exact g35
  have p2' : rM (sm_up m1 303 (5 * st + 2) (i3 Q)) B n (nuS B n 0 6 (0, 0, sk B n (we B n c.2.2))).2 := p2.keep (fun r j y => sm_up_ne (by omega))
  obtain ⟨m2, q1, q2, q3, q4, q5⟩ := mt_158 (E := E) (x' := x') (st := st) (k := 2) (U := U) (L' := L') (by omega) p2' (by omega) (by omega)
  rw [sm_up_ne (by omega)] at q3 q4
  rw [a1, aI_o, b1, aI_o, h_171_154, e1, aV_o, p1, mt_128 (by omega) (by omega) h35, if_pos (by omega), q1]
  refine ⟨X3, m2, sgS B n 59 (nuS B n 0 6 (0, 0, sk B n (we B n c.2.2))).2, rfl, rfl, ⟨e3, q2, (a2.W (by omega)).tr ((put_W b5).tr (e2.W (by omega)) (Nat.le_refl _)) (Nat.le_refl _), fun r j y1 y2 y3 => by rw [q5 r j (by omega) (by omega), sm_up_ne (by omega), p6 r j (by omega) (by omega)], ⟨z + 1, by omega, by omega, by rw [e2 _ _ (by omega)]; exact b3⟩, fun u => ?_⟩, fun u => ?_⟩
  · obtain ⟨t1, t2, t3⟩ := nsOk u
    have t4 := e3.le u
    refine ⟨by rw [q5 _ _ (by omega) (by omega), sm_up_ne (by omega), p6 _ _ (by omega) (by omega)]; exact g8, st + 1, z + 1, Q, by rw [e2 _ _ (by omega)]; exact b3, by rw [e2 _ _ (by omega), b5 _ _ (by omega) (by omega), a2 _ _ (by omega)]; exact x5, by rw [q5 _ _ (by omega) (by omega), sm_up_ne (by omega)]; exact p3, by rw [q5 _ _ (by omega) (by omega), sm_up_ne (by omega)]; exact h35, seg_0 (k := 2) (v := (nuS B n 0 6 (0, 0, sk B n (we B n c.2.2))).1) ⟨by rw [e2 _ _ (by omega)]; exact b6, by rw [e2 _ _ (by omega)]; exact b7, by rw [e2 _ _ (by omega)]; exact b8, by rw [e2 _ _ (by omega)]; exact b9⟩ ⟨by rw [q5 _ _ (by omega) (by omega), sm_up_ne (by omega)]; exact p4, by rw [q5 _ _ (by omega) (by omega), sm_up_ne (by omega)]; exact p5, by rw [q5 _ _ (by omega) (by omega)]; exact sm_up_same _ _ _ _, by rw [q3]; exact p3, by rw [q4]; exact p3⟩ (by rw [q5 _ _ (by omega) (by omega), sm_up_ne (by omega)]; exact h35) (by omega) (by omega) (by omega) (by omega) (by omega), by omega, by omega, by omega, t4⟩
  · obtain ⟨t1, t2, t3⟩ := nsOk u
    omega
theorem st_c3 {D E x x' w h st z Q : Nat} {V U : pV} {L L' : sm_L} {B : Nat → Nat} {n : Nat} {T : pT} {c : St} {X g : sm_G} (hh : h ≤ 6) (hD0 : 3 * (7 - h) + 12 ≤ D + 1) (hE0 : 2 * (7 - h) + 12 ≤ E + 1) (hw : pW w) (hT : okT T) (hn : n ≤ 150) (q : c.1 = 0) (rw0 : rW X B n c) (re0 : rE g B n c) (x4 : X w 4 = i3 z) (x5 : X w 5 = i3 (st + 1)) (x6 : X w 6 = i3 (sl T)) (x7 : X w 7 = i3 (dn T)) (g0 : g 160 0 = i3 (sl T)) (g1' : g 160 1 = i3 (dn T)) (g34 : g 156 34 = i3 st) (g35 : g 156 35 = i3 Q) (g8 : g 156 8 = i3 h) (hz : 4 * z ≤ c.2.2) (hst : 4 * st ≤ c.2.2) (hQ : Q ≤ st) (hB : BlockP h) (hl : c.2.2 + 5 ≤ we B n c.2.2) : ∃ X' g' c', sm_aV (sm_cv0 D 173 342 (RR V) [.ref w, .ref 2, .int (i3 h)] (x, X, L)) (fun x11 G11 L11 => hD D 171 154 [.null, .ref 2, .null] 342 (RR V) x11 G11 L11) oX = oV x X' L ∧ hD E 239 19 [.ref 156, .int (i3 3), .null] 342 (RR U) x' g L' = oV x' g' L' ∧ jO X g X' g' B n c c' w T h h 0 st z Q ∧ (c'.1 = 0 → c.2.2 + 4 ≤ c'.2.2) := by
  have hwl := pW_lt hw
  have hTb := hT.gb
  obtain ⟨d, rfl⟩ : ∃ d, D = d + 1 := ⟨D - 1, by omega⟩
  obtain ⟨_, _, hwn, _⟩ := rw0.2.2.2.2.2 q
  have hsk := sk_ge (B := B) (n := n) (a := we B n c.2.2)
  obtain ⟨X1, a1, a2, a3, _⟩ := nuC (D := d) (x := x) (V := V) (L := L) 0 21 (by omega) (rw0.c0 q) (by omega) (by omega) rfl mi_20
  obtain ⟨X2, i0, b1, b2, b3, b4, b5⟩ := s_172 (D := d) (x := x) (V := V) (L := L) (v1 := i3 3) (v2 := i3 (nuS B n 0 21 (0, 0, sk B n (we B n c.2.2))).1) (v3 := i3 h) (by omega) hw (show X1 w 4 = i3 z by rw [a2 _ _ (by omega)]; exact x4) (by omega)
  obtain ⟨ei, b6, b7, b8, b9⟩ := b4 (by omega)
  rw [ei] at b1 b3
  have rx2 : rC X2 B n (nuS B n 0 21 (0, 0, sk B n (we B n c.2.2))).2 := a3.keep (fun r j y => b5 r j (by omega) (by omega))
  obtain ⟨m1, p1, p2, p3, p4, p5, p6⟩ := mh_3 (E := E) (x' := x') (U := U) (L' := L') (by omega) re0 q g34 (by omega)
  have h35 : m1 156 35 = i3 Q := by rw [p6 _ _ (by omega) (by omega)]; exact g35
  have p2' : rM (sm_up m1 303 (5 * st + 2) (i3 Q)) B n (nuS B n 0 21 (0, 0, sk B n (we B n c.2.2))).2 := p2.keep (fun r j y => sm_up_ne (by omega))
  obtain ⟨X3, m3, c4, k1, k2, ⟨o1, o2, o3, o4, ⟨zz, z0, z1, z2⟩, o6⟩, o7⟩ := blockA hB (D := d) (E := E) (x := x) (x' := x') (V := V) (U := U) (L := L) (L' := L') (T := T) (st := st + 1) (Q := Q) (by omega) (by omega) hw hT hn rx2 p2' b3 (by omega) (fun y => by
    obtain ⟨t1, t2, t3⟩ := nuOk y
    refine ⟨⟨rx2, p2', b3, by rw [b5 _ _ (by omega) (by omega), a2 _ _ (by omega)]; exact x5, by rw [b5 _ _ (by omega) (by omega), a2 _ _ (by omega)]; exact x6, by rw [b5 _ _ (by omega) (by omega), a2 _ _ (by omega)]; exact x7, by rw [sm_up_ne (by omega), p6 _ _ (by omega) (by omega)]; exact g0, by rw [sm_up_ne (by omega), p6 _ _ (by omega) (by omega)]; exact g1', by rw [sm_up_ne (by omega)]; exact p3, by rw [sm_up_ne (by omega)]; exact h35, by rw [sm_up_ne (by omega), p6 _ _ (by omega) (by omega)]; exact g8⟩, by omega, by omega, by omega⟩)
  replace o6 := Lz.mk o6
  obtain ⟨X4, i, d1, d2, d3, d4, d5, d6⟩ := s_172i (D := d) (x := x) (V := V) (L := L) (v1 := i3 4) (v2 := i3 0) (v3 := i3 h) (by omega) hw z2 z1
  have ex : ∀ r j, ¬ (r = w + 3 ∧ (j = i ∨ j = z)) → sm_up (sm_up X4 (w + 3) i (i3 z + i3 1)) (w + 3) z (i3 (i + 1)) r j = X4 r j := fun r j y => by rw [sm_up_ne (by omega), sm_up_ne (by omega)]
  have ez : sm_up (sm_up X4 (w + 3) i (i3 z + i3 1)) (w + 3) z (i3 (i + 1)) (w + 3) z = i3 (i + 1) := sm_up_same _ _ _ _
  have ei2 : i ≠ z → sm_up (sm_up X4 (w + 3) i (i3 z + i3 1)) (w + 3) z (i3 (i + 1)) (w + 3) i = i3 (z + 1) := fun y => by rw [sm_up_ne (by omega), sm_up_same, i3_add]
  have eq0 : sm_up X4 (w + 3) i (i3 z + i3 1) w 4 = i3 (i + 1) := by rw [sm_up_ne (by omega)]; exact d4
  rw [m_173 hw, a1, aI_o, b1, aI_o, k1, aV_o, d1, aI_o, i3_in (by omega) d2, gd_tt, i3_in (by omega) (by omega), gd_tt, i3_cl (show i < 2147483648 by omega), i3_cl (show z < 2147483648 by omega), eq0, aV_o]
  generalize sm_up (sm_up X4 (w + 3) i (i3 z + i3 1)) (w + 3) z (i3 (i + 1)) = X5 at *
  have r5 : rC X5 B n c4 := o1.keep (fun r j y => by rw [ex r j (by omega), d6 r j (by omega) (by omega)])
  obtain ⟨X6, e1, e2, e3⟩ := s_145 (D := d + 1) (x := x) (V := V) (L := L) (ch := 59) (by omega) r5 (by omega)
  obtain ⟨m4, q1, q2, q3, q4, q5⟩ := mt_158 (E := E) (x' := x') (st := st) (k := 3) (U := U) (L' := L') (by omega) o2 (by omega) (by omega)
  rw [h_171_154, e1, aV_o, p1, mt_128 (by omega) (by omega) h35, if_neg (by omega), k2, aV_o, q1]
  have fX5 : cW2 w z X4 X5 := ⟨fun r j y1 y2 => ex r j (by omega), ex _ _ (by omega), ex _ _ (by omega), fun r j y1 y2 y3 => ex _ _ (by omega)⟩
  have fX : cW2 w z X X6 := (a2.W (by omega)).tr0 ((put_W b5).tr0 ((o3.dn (by omega)).tr0 (((put_W d6).dn (by omega)).tr0 (fX5.tr0 (e2.W (by omega))))))
  refine ⟨X6, m4, sgS B n 59 c4, rfl, rfl, ⟨e3, q2, fX, fun r j y1 y2 y3 => by rw [q5 r j (by omega) (by omega), o4 r j (by omega) (by omega) (by omega), sm_up_ne (by omega), p6 r j (by omega) (by omega)], ⟨i + 1, by omega, by omega, by rw [e2 _ _ (by omega), ex _ _ (by omega)]; exact d4⟩, fun u => ?_⟩, fun u => ?_⟩
  · obtain ⟨u1, u2⟩ := sgOk u
    obtain ⟨v8, st', z', Q', v1, v2, v3, v4, S, v6, v7, v9, v10⟩ := o6.get u1
    obtain ⟨y1, y2⟩ := o7 u1
    obtain ⟨t1, t2, t3⟩ := nuOk y1
    have t4 := e3.le u
    obtain rfl : z' = zz := by
      have y := v1.symm.trans z2
      rw [i3_eq (by omega) (by omega)] at y
      exact y
    obtain ⟨n1, n2, n3, n4, n5⟩ := d5 (by omega)
    have ex2 := ei2 (by omega)
    rw [n1] at ez ex2 d4
    have S0 := S
    obtain ⟨_, _, l3, l4, l5, _, _⟩ := S0
    have S2 : seg X6 m4 w T (h + 1) (st + 1) st' (z + 1) z' Q Q' := S.kp (fun r j y1 y2 y3 y4 => by rw [e2 _ _ (by omega), ex _ _ (by omega), d6 _ _ (by omega) (by omega)]) (fun j y1 y2 => q5 _ _ (by omega) (by omega)) (fun j y1 => q5 _ _ (by omega) (by omega)) (by rw [q5 _ _ (by omega) (by omega)]; exact v4) (by omega)
    have kz : ∀ r, w < r → r < w + 5 → r ≠ w + 3 → X6 r z = X2 r z := fun r y1 y2 y3 => by rw [e2 _ _ (by omega), ex _ _ (by omega), d6 _ _ (by omega) (by omega), o3.2.2.2 _ _ (by omega) (by omega) (by omega)]
    have kz2 : ∀ r, w < r → r < w + 5 → r ≠ w + 3 → X6 r z' = X4 r z' := fun r y1 y2 y3 => by rw [e2 _ _ (by omega), ex _ _ (by omega)]
    have ks : ∀ j, j < 5 * st + 3 → m4 303 j = sm_up m1 303 (5 * st + 2) (i3 Q) 303 j := fun j y => by rw [q5 _ _ (by omega) (by omega), o4 _ _ (by omega) (by omega) (by omega)]
    refine ⟨by rw [q5 _ _ (by omega) (by omega)]; exact v8, st', z' + 1, Q', by rw [e2 _ _ (by omega), ex _ _ (by omega)]; exact d4, by rw [e2 _ _ (by omega), ex _ _ (by omega), d6 _ _ (by omega) (by omega)]; exact v2, by rw [q5 _ _ (by omega) (by omega)]; exact v3, by rw [q5 _ _ (by omega) (by omega)]; exact v4, seg_3 (v := (nuS B n 0 21 (0, 0, sk B n (we B n c.2.2))).1) S2 ⟨by rw [kz _ (by omega) (by omega) (by omega)]; exact b6, by rw [kz _ (by omega) (by omega) (by omega)]; exact b7, by rw [e2 _ _ (by omega)]; exact ez, by rw [kz _ (by omega) (by omega) (by omega)]; exact b9⟩ ⟨by rw [kz2 _ (by omega) (by omega) (by omega)]; exact n2, by rw [kz2 _ (by omega) (by omega) (by omega)]; exact n3, by rw [e2 _ _ (by omega)]; exact ex2, by rw [kz2 _ (by omega) (by omega) (by omega)]; exact n5⟩ ⟨by rw [ks _ (by omega), sm_up_ne (by omega)]; exact p4, by rw [ks _ (by omega), sm_up_ne (by omega)]; exact p5, by rw [ks _ (by omega)]; exact sm_up_same _ _ _ _, by rw [q3]; exact v3, by rw [q4]; exact v3⟩ y2 (by omega) (by omega), by omega, by omega, by omega, t4⟩
  · obtain ⟨u1, u2⟩ := sgOk u
    obtain ⟨v8, st', z', Q', v1, v2, v3, v4, S, v6, v7, v9, v10⟩ := o6.get u1
    obtain ⟨y1, y2⟩ := o7 u1
    obtain ⟨t1, t2, t3⟩ := nuOk y1
    have l4 := S.2.2.2.1
    omega
