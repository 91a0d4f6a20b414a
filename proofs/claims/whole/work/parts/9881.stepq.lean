/-! wills: until, if -/
theorem st_c4 {D E x x' w h st z Q : Nat} {V U : pV} {L L' : sm_L} {B : Nat → Nat} {n : Nat} {T : pT} {c : St} {X g : sm_G} (hh : h ≤ 6) (hD0 : 3 * (7 - h) + 12 ≤ D + 1) (hE0 : 2 * (7 - h) + 12 ≤ E + 1) (hw : pW w) (hT : okT T) (hn : n ≤ 150) (q : c.1 = 0) (rw0 : rW X B n c) (re0 : rE g B n c) (x4 : X w 4 = i3 z) (x5 : X w 5 = i3 (st + 1)) (x6 : X w 6 = i3 (sl T)) (x7 : X w 7 = i3 (dn T)) (g0 : g 160 0 = i3 (sl T)) (g1' : g 160 1 = i3 (dn T)) (g34 : g 156 34 = i3 st) (g35 : g 156 35 = i3 Q) (g8 : g 156 8 = i3 h) (hz : 4 * z ≤ c.2.2) (hst : 4 * st ≤ c.2.2) (hQ : Q ≤ st) (hB : BlockP h) (hl : c.2.2 + 5 ≤ we B n c.2.2) : ∃ X' g' c', sm_aV (sm_cv0 D 175 342 (RR V) [.ref w, .ref 2, .int (i3 h)] (x, X, L)) (fun x10 G10 L10 => hD D 171 154 [.null, .ref 2, .null] 342 (RR V) x10 G10 L10) oX = oV x X' L ∧ hD E 239 19 [.ref 156, .int (i3 4), .null] 342 (RR U) x' g L' = oV x' g' L' ∧ jO X g X' g' B n c c' w T h h 0 st z Q ∧ (c'.1 = 0 → c.2.2 + 4 ≤ c'.2.2) := by
  have hwl := pW_lt hw
  have hTb := hT.gb
  obtain ⟨d, rfl⟩ : ∃ d, D = d + 1 := ⟨D - 1, by omega⟩
  obtain ⟨_, _, hwn, _⟩ := rw0.2.2.2.2.2 q
  have hsk := sk_ge (B := B) (n := n) (a := we B n c.2.2)
  have rc := rw0.c0 q
  obtain ⟨m1, p1, p2, p3, p4, p5, p6⟩ := mh_4 (E := E) (x' := x') (U := U) (L' := L') (by omega) re0 q g34 (by omega)
  have h35 : m1 156 35 = i3 Q := by rw [p6 _ _ (by omega) (by omega)]; exact g35
  have p2' : rM (sm_up m1 303 (5 * st + 2) (i3 Q)) B n (0, 0, sk B n (we B n c.2.2)) := p2.keep (fun r j y => sm_up_ne (by omega))
  obtain ⟨X2, m2, c2, b1, b2, ⟨r1, r2, r3, r4, r5, r6, r7⟩⟩ := s_176 (D := d) (E := E) (x := x) (x' := x') (V := V) (U := U) (L := L) (L' := L') (T := T) (z := z) (Q := Q) (asking := 5) (by omega) (by omega) hw hT (by omega) (by omega) (by omega) rfl rc p2' x4 x6 x7 (by rw [sm_up_ne (by omega), p6 _ _ (by omega) (by omega)]; exact g0) (by rw [sm_up_ne (by omega), p6 _ _ (by omega) (by omega)]; exact g1') (by rw [sm_up_ne (by omega)]; exact h35)
  replace r7 : c2.1 = 0 → sk B n (we B n c.2.2) + 2 ≤ c2.2.2 ∧ m2 156 35 = i3 (Q + 1) ∧ ∃ kind num neg, kind ≤ 4 ∧ neg ≤ 1 ∧ num < 1000 ∧ X2 (w + 1) z = i3 5 ∧ X2 (w + 2) z = i3 num ∧ X2 (w + 3) z = i3 0 ∧ X2 (w + 4) z = i3 (2 * kind + neg) ∧ m2 304 (3 * Q) = i3 kind ∧ m2 304 (3 * Q + 1) = i3 num ∧ m2 304 (3 * Q + 2) = i3 neg ∧ (if kind = 1 then num < dn T else if kind = 3 then num = 0 else if kind = 4 then num ≤ 300 else num < sl T) := r7
  have g2f : ∀ r j, ¬ (r = 156 ∧ ((4 ≤ j ∧ j ≤ 6) ∨ j = 34 ∨ j = 35)) → ¬ (r = 304 ∧ 3 * Q ≤ j) → ¬ (r = 303 ∧ 5 * st ≤ j) → m2 r j = g r j := fun r j y1 y2 y3 => by rw [r6 r j (by omega) y2, sm_up_ne (by omega), p6 r j (by omega) (by omega)]
  have g234 : m2 156 34 = i3 (st + 1) := by rw [r6 _ _ (by omega) (by omega), sm_up_ne (by omega)]; exact p3
  obtain ⟨X3, m3, c3, k1, k2, ⟨o1, o2, o3, o4, ⟨zz, z0, z1, z2⟩, o6⟩, o7⟩ := blockA hB (D := d) (E := E) (x := x) (x' := x') (V := V) (U := U) (L := L) (L' := L') (T := T) (st := st + 1) (Q := Q + 1) (by omega) (by omega) hw hT hn r1 r2 r4 (by omega) (fun y => by
    obtain ⟨t1, t2, _⟩ := r7 y
    refine ⟨⟨r1, r2, r4, by rw [r5]; exact x5, by rw [r3.2.1]; exact x6, by rw [r3.2.2.1]; exact x7, by rw [g2f _ _ (by omega) (by omega) (by omega)]; exact g0, by rw [g2f _ _ (by omega) (by omega) (by omega)]; exact g1', g234, t2, by rw [g2f _ _ (by omega) (by omega) (by omega)]; exact g8⟩, by omega, by omega, by omega⟩)
  replace o6 := Lz.mk o6
  replace r7 := Lz.mk r7
  have gs : ∀ j, j < 5 * st + 3 → m3 303 j = sm_up m1 303 (5 * st + 2) (i3 Q) 303 j := fun j y => by rw [o4 _ _ (by omega) (by omega) (by omega), r6 _ _ (by omega) (by omega)]
  obtain ⟨X4, i, d1, d2, d3, d4, d5, d6⟩ := s_172i (D := d) (x := x) (V := V) (L := L) (v1 := i3 7) (v2 := i3 0) (v3 := i3 0) (by omega) hw z2 z1
  have ex : ∀ r j, ¬ (r = w + 3 ∧ (j = i ∨ j = z)) → sm_up (sm_up X4 (w + 3) i (i3 z)) (w + 3) z (i3 (i + 1)) r j = X4 r j := fun r j y => by rw [sm_up_ne (by omega), sm_up_ne (by omega)]
  have ez : sm_up (sm_up X4 (w + 3) i (i3 z)) (w + 3) z (i3 (i + 1)) (w + 3) z = i3 (i + 1) := sm_up_same _ _ _ _
  have ei2 : i ≠ z → sm_up (sm_up X4 (w + 3) i (i3 z)) (w + 3) z (i3 (i + 1)) (w + 3) i = i3 z := fun y => by rw [sm_up_ne (by omega), sm_up_same]
  have eq0 : sm_up X4 (w + 3) i (i3 z) w 4 = i3 (i + 1) := by rw [sm_up_ne (by omega)]; exact d4
  rw [m_175 hw, b1, aI_o, k1, aV_o, d1, aI_o, i3_in (by omega) d2, gd_tt, i3_in (by omega) (by omega), gd_tt, i3_cl (show i < 2147483648 by omega), i3_cl (show z < 2147483648 by omega), eq0, aV_o]
  generalize sm_up (sm_up X4 (w + 3) i (i3 z)) (w + 3) z (i3 (i + 1)) = X5 at *
  have r5' : rC X5 B n c3 := o1.keep (fun r j y => by rw [ex r j (by omega), d6 r j (by omega) (by omega)])
  obtain ⟨X6, e1, e2, e3⟩ := s_145 (D := d + 1) (x := x) (V := V) (L := L) (ch := 59) (by omega) r5' (by omega)
  obtain ⟨m4, q1, q2, q3, q4, q5⟩ := mt_158 (E := E) (x' := x') (st := st) (k := 4) (U := U) (L' := L') (by omega) o2 (by omega) (by omega)
  rw [h_171_154, e1, aV_o, p1, mt_128q (by omega) (by omega) (by omega) h35, b2, aV_o, mt_149 (by omega) (by omega), k2, aV_o, q1]
  have fX5 : cW2 w z X4 X5 := ⟨fun r j y1 y2 => ex r j (by omega), ex _ _ (by omega), ex _ _ (by omega), fun r j y1 y2 y3 => ex _ _ (by omega)⟩
  have fX : cW2 w z X X6 := r3.tr0 ((o3.dn (by omega)).tr0 (((put_W d6).dn (by omega)).tr0 (fX5.tr0 (e2.W (by omega)))))
  refine ⟨X6, m4, sgS B n 59 c3, rfl, rfl, ⟨e3, q2, fX, fun r j y1 y2 y3 => by rw [q5 r j (by omega) (by omega), o4 r j (by omega) (by omega) (by omega), g2f r j (by omega) (by omega) (by omega)], ⟨i + 1, by omega, by omega, by rw [e2 _ _ (by omega), ex _ _ (by omega)]; exact d4⟩, fun u => ?_⟩, fun u => ?_⟩
  · obtain ⟨u1, u2⟩ := sgOk u
    obtain ⟨v8, st', z', Q', v1, v2, v3, v4, S, v6, v7, v9, v10⟩ := o6.get u1
    obtain ⟨y1, y2⟩ := o7 u1
    obtain ⟨t1, t2, kind, num, neg, f1, f2, f3, f4, f5, f6, f7, f8, f9, f10, f11⟩ := r7.get y1
    have t4 := e3.le u
    obtain rfl : z' = zz := by
      have y := v1.symm.trans z2
      rw [i3_eq (by omega) (by omega)] at y
      exact y
    obtain ⟨n1, n2, n3, n4, n5⟩ := d5 (by omega)
    have ex2 := ei2 (by omega)
    rw [n1] at ez ex2 d4
    have S0 := S
    obtain ⟨_, _, l3, l4, l5, _, _⟩ := S0
    have S2 : seg X6 m4 w T (h + 1) (st + 1) st' (z + 1) z' (Q + 1) Q' := S.kp (fun r j y1 y2 y3 y4 => by rw [e2 _ _ (by omega), ex _ _ (by omega), d6 _ _ (by omega) (by omega)]) (fun j y1 y2 => q5 _ _ (by omega) (by omega)) (fun j y1 => q5 _ _ (by omega) (by omega)) (by rw [q5 _ _ (by omega) (by omega)]; exact v4) (by omega)
    have kz : ∀ r, w < r → r < w + 5 → r ≠ w + 3 → X6 r z = X2 r z := fun r y1 y2 y3 => by rw [e2 _ _ (by omega), ex _ _ (by omega), d6 _ _ (by omega) (by omega), o3.2.2.2 _ _ (by omega) (by omega) (by omega)]
    have kz2 : ∀ r, w < r → r < w + 5 → r ≠ w + 3 → X6 r z' = X4 r z' := fun r y1 y2 y3 => by rw [e2 _ _ (by omega), ex _ _ (by omega)]
    have ks : ∀ j, j < 5 * st + 3 → m4 303 j = sm_up m1 303 (5 * st + 2) (i3 Q) 303 j := fun j y => by rw [q5 _ _ (by omega) (by omega), gs _ y]
    have kt : ∀ j, j < 3 * Q + 3 → m4 304 j = m2 304 j := fun j y => by rw [q5 _ _ (by omega) (by omega), o4 _ _ (by omega) (by omega) (by omega)]
    refine ⟨by rw [q5 _ _ (by omega) (by omega)]; exact v8, st', z' + 1, Q', by rw [e2 _ _ (by omega), ex _ _ (by omega)]; exact d4, by rw [e2 _ _ (by omega), ex _ _ (by omega), d6 _ _ (by omega) (by omega)]; exact v2, by rw [q5 _ _ (by omega) (by omega)]; exact v3, by rw [q5 _ _ (by omega) (by omega)]; exact v4, seg_4 (kind := kind) (num := num) (neg := neg) S2 ⟨by rw [kz _ (by omega) (by omega) (by omega)]; exact f4, by rw [kz _ (by omega) (by omega) (by omega)]; exact f5, by rw [e2 _ _ (by omega)]; exact ez, by rw [kz _ (by omega) (by omega) (by omega)]; exact f7⟩ ⟨by rw [kz2 _ (by omega) (by omega) (by omega)]; exact n2, by rw [kz2 _ (by omega) (by omega) (by omega)]; exact n3, by rw [e2 _ _ (by omega)]; exact ex2, by rw [kz2 _ (by omega) (by omega) (by omega)]; exact n5⟩ ⟨by rw [ks _ (by omega), sm_up_ne (by omega)]; exact p4, by rw [ks _ (by omega), sm_up_ne (by omega)]; exact p5, by rw [ks _ (by omega)]; exact sm_up_same _ _ _ _, by rw [q3]; exact v3, by rw [q4]; exact v3⟩ ⟨f1, f2, f3, by rw [kt _ (by omega)]; exact f8, by rw [kt _ (by omega)]; exact f9, by rw [kt _ (by omega)]; exact f10, f11⟩ y2 (by omega), by omega, by omega, by omega, t4⟩
  · obtain ⟨u1, u2⟩ := sgOk u
    obtain ⟨v8, st', z', Q', v1, v2, v3, v4, S, v6, v7, v9, v10⟩ := o6.get u1
    obtain ⟨y1, y2⟩ := o7 u1
    obtain ⟨t1, t2, _⟩ := r7.get y1
    have l4 := S.2.2.2.1
    omega
theorem st_c5 {D E x x' w h st z Q : Nat} {V U : pV} {L L' : sm_L} {B : Nat → Nat} {n : Nat} {T : pT} {c : St} {X g : sm_G} (hh : h ≤ 6) (hD0 : 3 * (7 - h) + 12 ≤ D + 1) (hE0 : 2 * (7 - h) + 12 ≤ E + 1) (hw : pW w) (hT : okT T) (hn : n ≤ 150) (q : c.1 = 0) (rw0 : rW X B n c) (re0 : rE g B n c) (x4 : X w 4 = i3 z) (x5 : X w 5 = i3 (st + 1)) (x6 : X w 6 = i3 (sl T)) (x7 : X w 7 = i3 (dn T)) (g0 : g 160 0 = i3 (sl T)) (g1' : g 160 1 = i3 (dn T)) (g34 : g 156 34 = i3 st) (g35 : g 156 35 = i3 Q) (g8 : g 156 8 = i3 h) (hz : 4 * z ≤ c.2.2) (hst : 4 * st ≤ c.2.2) (hQ : Q ≤ st) (hB : BlockP h) (hl : c.2.2 + 2 ≤ we B n c.2.2) : ∃ X' g' c', sm_aV (sm_cv0 D 177 342 (RR V) [.ref w, .ref 2, .int (i3 h)] (x, X, L)) (fun x9 G9 L9 => hD D 171 154 [.null, .ref 2, .null] 342 (RR V) x9 G9 L9) oX = oV x X' L ∧ hD E 239 19 [.ref 156, .int (i3 5), .null] 342 (RR U) x' g L' = oV x' g' L' ∧ jO X g X' g' B n c c' w T h h 0 st z Q ∧ (c'.1 = 0 → c.2.2 + 4 ≤ c'.2.2) := by
  have hwl := pW_lt hw
  have hTb := hT.gb
  obtain ⟨d, rfl⟩ : ∃ d, D = d + 1 := ⟨D - 1, by omega⟩
  obtain ⟨_, _, hwn, _⟩ := rw0.2.2.2.2.2 q
  have hsk := sk_ge (B := B) (n := n) (a := we B n c.2.2)
  have rc := rw0.c0 q
  obtain ⟨m1, p1, p2, p3, p4, p5, p6⟩ := mh_5 (E := E) (x' := x') (U := U) (L' := L') (by omega) re0 q g34 (by omega)
  have h35 : m1 156 35 = i3 Q := by rw [p6 _ _ (by omega) (by omega)]; exact g35
  have p2' : rM (sm_up m1 303 (5 * st + 2) (i3 Q)) B n (0, 0, sk B n (we B n c.2.2)) := p2.keep (fun r j y => sm_up_ne (by omega))
  obtain ⟨X2, m2, c2, b1, b2, ⟨r1, r2, r3, r4, r5, r6, r7⟩⟩ := s_176 (D := d) (E := E) (x := x) (x' := x') (V := V) (U := U) (L := L) (L' := L') (T := T) (z := z) (Q := Q) (asking := 6) (by omega) (by omega) hw hT (by omega) (by omega) (by omega) rfl rc p2' x4 x6 x7 (by rw [sm_up_ne (by omega), p6 _ _ (by omega) (by omega)]; exact g0) (by rw [sm_up_ne (by omega), p6 _ _ (by omega) (by omega)]; exact g1') (by rw [sm_up_ne (by omega)]; exact h35)
  replace r7 : c2.1 = 0 → sk B n (we B n c.2.2) + 2 ≤ c2.2.2 ∧ m2 156 35 = i3 (Q + 1) ∧ ∃ kind num neg, kind ≤ 4 ∧ neg ≤ 1 ∧ num < 1000 ∧ X2 (w + 1) z = i3 6 ∧ X2 (w + 2) z = i3 num ∧ X2 (w + 3) z = i3 0 ∧ X2 (w + 4) z = i3 (2 * kind + neg) ∧ m2 304 (3 * Q) = i3 kind ∧ m2 304 (3 * Q + 1) = i3 num ∧ m2 304 (3 * Q + 2) = i3 neg ∧ (if kind = 1 then num < dn T else if kind = 3 then num = 0 else if kind = 4 then num ≤ 300 else num < sl T) := r7
  have g2f : ∀ r j, ¬ (r = 156 ∧ ((4 ≤ j ∧ j ≤ 6) ∨ j = 34 ∨ j = 35)) → ¬ (r = 304 ∧ 3 * Q ≤ j) → ¬ (r = 303 ∧ 5 * st ≤ j) → m2 r j = g r j := fun r j y1 y2 y3 => by rw [r6 r j (by omega) y2, sm_up_ne (by omega), p6 r j (by omega) (by omega)]
  have g234 : m2 156 34 = i3 (st + 1) := by rw [r6 _ _ (by omega) (by omega), sm_up_ne (by omega)]; exact p3
  obtain ⟨X3, m3, c3, k1, k2, ⟨o1, o2, o3, o4, ⟨zz, z0, z1, z2⟩, o6⟩, o7⟩ := blockA hB (D := d) (E := E) (x := x) (x' := x') (V := V) (U := U) (L := L) (L' := L') (T := T) (st := st + 1) (Q := Q + 1) (by omega) (by omega) hw hT hn r1 r2 r4 (by omega) (fun y => by
    obtain ⟨t1, t2, _⟩ := r7 y
    refine ⟨⟨r1, r2, r4, by rw [r5]; exact x5, by rw [r3.2.1]; exact x6, by rw [r3.2.2.1]; exact x7, by rw [g2f _ _ (by omega) (by omega) (by omega)]; exact g0, by rw [g2f _ _ (by omega) (by omega) (by omega)]; exact g1', g234, t2, by rw [g2f _ _ (by omega) (by omega) (by omega)]; exact g8⟩, by omega, by omega, by omega⟩)
  replace o6 := Lz.mk o6
  replace r7 := Lz.mk r7
  have gs : ∀ j, j < 5 * st + 3 → m3 303 j = sm_up m1 303 (5 * st + 2) (i3 Q) 303 j := fun j y => by rw [o4 _ _ (by omega) (by omega) (by omega), r6 _ _ (by omega) (by omega)]
  obtain ⟨X4, d1, d2, d3⟩ := s_147 (D := d) (x := x) (V := V) (L := L) (by omega) o1 t_else (by decide)
  have d1 : sm_cv0 d 147 342 (RR V) [.ref 2, .ref 4102] (x, X3, L) = oI (if c3.1 = 0 ∧ wl B n c3.2.2 = w_else then i3 1 else i3 0) x X4 L := d1
  have a3 : i3 (5 * st) + i3 3 = i3 (5 * st + 3) := i3_add _ 3
  have a3b : sm_in (i3 (5 * st + 3)) 400 = true := i3_in (by omega) (by omega)
  have a3c : (i3 (5 * st + 3)).toNatClampNeg = 5 * st + 3 := i3_cl (by omega)
  have o2' : rM (sm_up m3 303 (5 * st + 3) (m3 156 34)) B n c3 := o2.keep (fun r j y => sm_up_ne (by omega))
  obtain ⟨m4, s1, s2, _, s4⟩ := s_242 (D := E) (x := x') (V := U) (L := L') (by omega) o2' v_else
  have x44 : X4 w 4 = i3 zz := by rw [d2 _ _ (by omega)]; exact z2
  rw [m_177 hw, b1, aI_o, k1, aV_o, d1, aI_o, p1, mt_128q (by omega) (by omega) (by omega) h35, b2, aV_o, mt_149 (by omega) (by omega), k2, aV_o, h_239_158, a3, a3b, gd_tt, a3c, if_pos rfl, s1, aI_o, x44, i3_in (show z < 2147483648 by omega) (by omega), gd_tt, i3_cl (show z < 2147483648 by omega)]
  by_cases e : c3.1 = 0 ∧ wl B n c3.2.2 = w_else
  · rw [if_pos e] at d3 s2
    rw [if_pos e, if_neg (show ¬ i3 1 = i3 0 by decide), if_neg (show ¬ i3 1 = i3 0 by decide)]
    obtain ⟨e1, e2⟩ := e
    obtain ⟨v8, st', z', Q', v1, v2, v3, v4, S, v6, v7, v9, v10⟩ := o6.get e1
    obtain ⟨y1, y2⟩ := o7 e1
    obtain ⟨t1, t2, kind, num, neg, f1, f2, f3, f4, f5, f6, f7, f8, f9, f10, f11⟩ := r7.get y1
    have hlen : c3.2.2 + 4 ≤ we B n c3.2.2 := by
      have h1 := wl_len (B := B) (n := n) (s := c3.2.2)
      have h2 := we_ge (B := B) (n := n) (a := c3.2.2)
      rw [e2] at h1
      have h1 : 4 = we B n c3.2.2 - c3.2.2 := h1
      omega
    have hsk2 := sk_ge (B := B) (n := n) (a := we B n c3.2.2)
    have hle := d3.le rfl
    have hle : sk B n (we B n c3.2.2) ≤ n := hle
    obtain rfl : z' = zz := by
      have y := v1.symm.trans z2
      rw [i3_eq (by omega) (by omega)] at y
      exact y
    obtain ⟨X5, i, w1, w2, w3, w4, w5, w6⟩ := s_172i (D := d) (x := x) (V := V) (L := L) (v1 := i3 7) (v2 := i3 0) (v3 := i3 0) (by omega) hw x44 z1
    obtain ⟨n1, n2, n3, n4, n5⟩ := w5 (by omega)
    rw [n1] at w1 w4
    have S0 := S
    obtain ⟨_, _, l3, l4, l5, _, _⟩ := S0
    rw [w1, aI_o, w4]
    have ex : ∀ r j, ¬ (r = w + 3 ∧ j = z) → sm_up X5 (w + 3) z (i3 (z' + 1)) r j = X5 r j := fun r j y => sm_up_ne (by omega)
    have ez : sm_up X5 (w + 3) z (i3 (z' + 1)) (w + 3) z = i3 (z' + 1) := sm_up_same _ _ _ _
    generalize sm_up X5 (w + 3) z (i3 (z' + 1)) = X6 at *
    have r6' : rC X6 B n (0, 0, sk B n (we B n c3.2.2)) := d3.keep (fun r j y => by rw [ex r j (by omega), w6 r j (by omega) (by omega)])
    have x64 : X6 w 4 = i3 (z' + 1) := by rw [ex _ _ (by omega)]; exact w4
    have fX6 : cW2 w z X5 X6 := ⟨fun r j y1 y2 => ex r j (by omega), ex _ _ (by omega), ex _ _ (by omega), fun r j y1 y2 y3 => ex _ _ (by omega)⟩
    have fXa : cW2 w z X X6 := r3.tr0 ((o3.dn (by omega)).tr0 ((d2.W (by omega)).tr0 (((put_W w6).dn (by omega)).tr0 fX6)))
    have m4f : ∀ r j, ¬ (r = 156 ∧ 4 ≤ j ∧ j ≤ 6) → ¬ (r = 303 ∧ j = 5 * st + 3) → m4 r j = m3 r j := fun r j y1 y2 => by rw [s4 r j y1, sm_up_ne (by omega)]
    have m43 : m4 303 (5 * st + 3) = i3 st' := by rw [s4 _ _ (by omega), sm_up_same]; exact v3
    have gg : ∀ r j, ¬ (r = 156 ∧ ((4 ≤ j ∧ j ≤ 6) ∨ j = 34 ∨ j = 35 ∨ j = 8)) → r ≠ 303 → r ≠ 304 → m4 r j = g r j := fun r j y1 y2 y3 => by rw [m4f r j (by omega) (by omega), o4 r j (by omega) (by omega) (by omega), g2f r j (by omega) (by omega) (by omega)]
    obtain ⟨X7, m5, c5, h1, h2, ⟨j1, j2, j3, j4, ⟨zy, j50, j51, j52⟩, j6⟩, j7⟩ := blockA hB (D := d) (E := E) (x := x) (x' := x') (V := V) (U := U) (L := L) (L' := L') (T := T) (st := st') (Q := Q') (by omega) (by omega) hw hT hn r6' s2 x64 (by omega) (fun _ => by
      refine ⟨⟨r6', s2, x64, by rw [ex _ _ (by omega), w6 _ _ (by omega) (by omega), d2 _ _ (by omega)]; exact v2, by rw [fXa.2.1]; exact x6, by rw [fXa.2.2.1]; exact x7, by rw [gg _ _ (by omega) (by omega) (by omega)]; exact g0, by rw [gg _ _ (by omega) (by omega) (by omega)]; exact g1', by rw [m4f _ _ (by omega) (by omega)]; exact v3, by rw [m4f _ _ (by omega) (by omega)]; exact v4, by rw [m4f _ _ (by omega) (by omega)]; exact v8⟩, ?_, ?_, by omega⟩
      · show 4 * (z' + 1) ≤ sk B n (we B n c3.2.2)
        omega
      · show 4 * st' ≤ sk B n (we B n c3.2.2)
        omega)
    replace j6 := Lz.mk j6
    obtain ⟨m6, q1, q2, q3, q5⟩ := mt_195 (E := E) (x' := x') (st := st) (U := U) (L' := L') (by omega) j2 (by omega)
    rw [h1, aV_o, i3_in (show z' < 2147483648 by omega) (by omega), gd_tt, i3_cl (show z' < 2147483648 by omega), gd_tt, aV_o, j52, h_171_154, h2, aV_o, q1]
    have ex8 : ∀ r j, ¬ (r = w + 3 ∧ j = z') → sm_up X7 (w + 3) z' (i3 zy) r j = X7 r j := fun r j y => sm_up_ne (by omega)
    have ez8 : sm_up X7 (w + 3) z' (i3 zy) (w + 3) z' = i3 zy := sm_up_same _ _ _ _
    generalize sm_up X7 (w + 3) z' (i3 zy) = X8 at *
    obtain ⟨X9, e3, e4, e5⟩ := s_145 (D := d + 1) (x := x) (V := V) (L := L) (ch := 59) (by omega) (j1.keep (fun r j y => ex8 r j (by omega)) : rC X8 B n c5) (by omega)
    rw [e3, aV_o]
    have fX8 : cW2 w z X7 X8 := ⟨fun r j y1 y2 => ex8 r j (by omega), ex8 _ _ (by omega), ex8 _ _ (by omega), fun r j y1 y2 y3 => ex8 _ _ (by omega)⟩
    refine ⟨X9, m6, sgS B n 59 c5, rfl, rfl, ⟨e5, q2, fXa.tr0 ((j3.dn (by omega)).tr0 (fX8.tr0 (e4.W (by omega)))), fun r j y1 y2 y3 => by rw [q5 r j (by omega) (by omega), j4 r j (by omega) (by omega) (by omega), m4f r j (by omega) (by omega), o4 r j (by omega) (by omega) (by omega), g2f r j (by omega) (by omega) (by omega)], ⟨zy, by omega, by omega, by rw [e4 _ _ (by omega), ex8 _ _ (by omega)]; exact j52⟩, fun u => ?_⟩, fun u => ?_⟩
    · obtain ⟨u1, u2⟩ := sgOk u
      obtain ⟨i8, st2, z3, Q2, i1, i2, i3', i4, S3, i6', i7, i9, i10⟩ := j6.get u1
      have t4 := e5.le u
      have i6' : sk B n (we B n c3.2.2) + 2 + 4 * z3 ≤ c5.2.2 + 4 * (z' + 1) := i6'
      have i7 : sk B n (we B n c3.2.2) + 2 + 4 * st2 ≤ c5.2.2 + 4 * st' := i7
      obtain rfl : z3 = zy := by
        have y := i1.symm.trans j52
        rw [i3_eq (by omega) (by omega)] at y
        exact y
      have S4 := S3
      obtain ⟨_, _, l6, l7, l8, _, _⟩ := S4
      have q535 : m6 156 35 = i3 Q2 := by rw [q5 _ _ (by omega) (by omega)]; exact i4
      have S5 : seg X9 m6 w T (h + 1) st' st2 (z' + 1) z3 Q' Q2 := S3.kp (fun r j y1 y2 y3 y4 => by rw [e4 _ _ (by omega), ex8 _ _ (by omega)]) (fun j y1 y2 => q5 _ _ (by omega) (by omega)) (fun j y1 => q5 _ _ (by omega) (by omega)) q535 (by omega)
      have kx : ∀ r j, w < r → r < w + 5 → j < z' + 1 → ¬ (r = w + 3 ∧ j = z') → X9 r j = X6 r j := fun r j y1 y2 y3 y4 => by rw [e4 _ _ (by omega), ex8 _ _ (by omega), j3.2.2.2 _ _ (by omega) (by omega) (by omega)]
      have kg : ∀ j, j < 5 * st' → ¬ (5 * st + 3 ≤ j ∧ j ≤ 5 * st + 4) → m6 303 j = m3 303 j := fun j y y2 => by rw [q5 _ _ (by omega) (by omega), j4 _ _ (by omega) (by omega) (by omega), m4f _ _ (by omega) (by omega)]
      have kt : ∀ j, j < 3 * Q' → m6 304 j = m3 304 j := fun j y => by rw [q5 _ _ (by omega) (by omega), j4 _ _ (by omega) (by omega) (by omega), m4f _ _ (by omega) (by omega)]
      have kt2 : ∀ j, j < 3 * Q + 3 → m6 304 j = m2 304 j := fun j y => by rw [kt _ (by omega), o4 _ _ (by omega) (by omega) (by omega)]
      have S1 := S.kq (X' := X9) (g' := m6) (q2 := Q2) (fun r j y1 y2 y3 y4 => by rw [kx _ _ y1 y2 (by omega) (by omega), ex _ _ (by omega), w6 _ _ (by omega) (by omega), d2 _ _ (by omega)]) (fun j y1 y2 => kg _ (by omega) (by omega)) (fun j y1 => kt _ y1) q535 (by omega) (by omega)
      have kz : ∀ r, w < r → r < w + 5 → r ≠ w + 3 → X9 r z = X2 r z := fun r y1 y2 y3 => by rw [kx _ _ y1 y2 (by omega) (by omega), ex _ _ (by omega), w6 _ _ (by omega) (by omega), d2 _ _ (by omega), o3.2.2.2 _ _ (by omega) (by omega) (by omega)]
      have ky : ∀ r, w < r → r < w + 5 → r ≠ w + 3 → X9 r z' = X5 r z' := fun r y1 y2 y3 => by rw [kx _ _ y1 y2 (by omega) (by omega), ex _ _ (by omega)]
      refine ⟨by rw [q5 _ _ (by omega) (by omega)]; exact i8, st2, z3, Q2, by rw [e4 _ _ (by omega), ex8 _ _ (by omega)]; exact i1, by rw [e4 _ _ (by omega), ex8 _ _ (by omega)]; exact i2, by rw [q5 _ _ (by omega) (by omega)]; exact i3', q535, seg_6 (kind := kind) (num := num) (neg := neg) S1 ⟨l3, l4, l5⟩ S5 ⟨by rw [kz _ (by omega) (by omega) (by omega)]; exact f4, by rw [kz _ (by omega) (by omega) (by omega)]; exact f5, by rw [kx _ _ (by omega) (by omega) (by omega) (by omega)]; exact ez, by rw [kz _ (by omega) (by omega) (by omega)]; exact f7⟩ ⟨by rw [ky _ (by omega) (by omega) (by omega)]; exact n2, by rw [ky _ (by omega) (by omega) (by omega)]; exact n3, by rw [e4 _ _ (by omega)]; exact ez8, by rw [ky _ (by omega) (by omega) (by omega)]; exact n5⟩ ⟨by rw [kg _ (by omega) (by omega), gs _ (by omega), sm_up_ne (by omega)]; exact p4, by rw [kg _ (by omega) (by omega), gs _ (by omega), sm_up_ne (by omega)]; exact p5, by rw [kg _ (by omega) (by omega), gs _ (by omega)]; exact sm_up_same _ _ _ _, by rw [q5 _ _ (by omega) (by omega), j4 _ _ (by omega) (by omega) (by omega)]; exact m43, by rw [q3]; exact i3'⟩ ⟨f1, f2, f3, by rw [kt2 _ (by omega)]; exact f8, by rw [kt2 _ (by omega)]; exact f9, by rw [kt2 _ (by omega)]; exact f10, f11⟩ y2 (by omega), by omega, by omega, by omega, t4⟩
    · obtain ⟨u1, u2⟩ := sgOk u
      obtain ⟨i8, st2, z3, Q2, i1, i2, i3', i4, S3, i6', i7, i9, i10⟩ := j6.get u1
      have i6' : sk B n (we B n c3.2.2) + 2 + 4 * z3 ≤ c5.2.2 + 4 * (z' + 1) := i6'
      have l7 := S3.2.2.2.1
      omega
  · rw [if_neg e] at d3 s2
    rw [if_neg e, if_pos rfl, if_pos rfl, aV_o]
    have ex : ∀ r j, ¬ (r = w + 3 ∧ j = z) → sm_up X4 (w + 3) z (i3 zz) r j = X4 r j := fun r j y => sm_up_ne (by omega)
    have ez : sm_up X4 (w + 3) z (i3 zz) (w + 3) z = i3 zz := sm_up_same _ _ _ _
    generalize sm_up X4 (w + 3) z (i3 zz) = X5 at *
    obtain ⟨X6, e1, e2, e3⟩ := s_145 (D := d + 1) (x := x) (V := V) (L := L) (ch := 59) (by omega) (d3.keep (fun r j y => ex r j (by omega)) : rC X5 B n c3) (by omega)
    obtain ⟨m5, q1, q2, q3, q5⟩ := mt_195 (E := E) (x' := x') (st := st) (U := U) (L' := L') (by omega) s2 (by omega)
    rw [h_171_154, e1, aV_o, q1]
    have fX5 : cW2 w z X4 X5 := ⟨fun r j y1 y2 => ex r j (by omega), ex _ _ (by omega), ex _ _ (by omega), fun r j y1 y2 y3 => ex _ _ (by omega)⟩
    have m5f : ∀ r j, ¬ (r = 156 ∧ 4 ≤ j ∧ j ≤ 6) → ¬ (r = 303 ∧ 5 * st + 3 ≤ j ∧ j ≤ 5 * st + 4) → m5 r j = m3 r j := fun r j y1 y2 => by rw [q5 r j y1 (by omega), s4 r j y1, sm_up_ne (by omega)]
    refine ⟨X6, m5, sgS B n 59 c3, rfl, rfl, ⟨e3, q2, r3.tr0 ((o3.dn (by omega)).tr0 ((d2.W (by omega)).tr0 (fX5.tr0 (e2.W (by omega))))), fun r j y1 y2 y3 => by rw [m5f r j (by omega) (by omega), o4 r j (by omega) (by omega) (by omega), g2f r j (by omega) (by omega) (by omega)], ⟨zz, by omega, by omega, by rw [e2 _ _ (by omega), ex _ _ (by omega)]; exact x44⟩, fun u => ?_⟩, fun u => ?_⟩
    · obtain ⟨u1, u2⟩ := sgOk u
      obtain ⟨v8, st', z', Q', v1, v2, v3, v4, S, v6, v7, v9, v10⟩ := o6.get u1
      obtain ⟨y1, y2⟩ := o7 u1
      obtain ⟨t1, t2, kind, num, neg, f1, f2, f3, f4, f5, f6, f7, f8, f9, f10, f11⟩ := r7.get y1
      have t4 := e3.le u
      obtain rfl : z' = zz := by
        have y := v1.symm.trans z2
        rw [i3_eq (by omega) (by omega)] at y
        exact y
      have S0 := S
      obtain ⟨_, _, l3, l4, l5, _, _⟩ := S0
      have q535 : m5 156 35 = i3 Q' := by rw [m5f _ _ (by omega) (by omega)]; exact v4
      have S2 : seg X6 m5 w T (h + 1) (st + 1) st' (z + 1) z' (Q + 1) Q' := S.kp (fun r j y1 y2 y3 y4 => by rw [e2 _ _ (by omega), ex _ _ (by omega), d2 _ _ (by omega)]) (fun j y1 y2 => m5f _ _ (by omega) (by omega)) (fun j y1 => m5f _ _ (by omega) (by omega)) q535 (by omega)
      have kz : ∀ r, w < r → r < w + 5 → r ≠ w + 3 → X6 r z = X2 r z := fun r y1 y2 y3 => by rw [e2 _ _ (by omega), ex _ _ (by omega), d2 _ _ (by omega), o3.2.2.2 _ _ (by omega) (by omega) (by omega)]
      have ks : ∀ j, j < 5 * st + 3 → m5 303 j = sm_up m1 303 (5 * st + 2) (i3 Q) 303 j := fun j y => by rw [m5f _ _ (by omega) (by omega), gs _ y]
      have kt : ∀ j, j < 3 * Q + 3 → m5 304 j = m2 304 j := fun j y => by rw [m5f _ _ (by omega) (by omega), o4 _ _ (by omega) (by omega) (by omega)]
      refine ⟨by rw [m5f _ _ (by omega) (by omega)]; exact v8, st', z', Q', by rw [e2 _ _ (by omega), ex _ _ (by omega)]; exact x44, by rw [e2 _ _ (by omega), ex _ _ (by omega), d2 _ _ (by omega)]; exact v2, by rw [m5f _ _ (by omega) (by omega)]; exact v3, q535, seg_5 (kind := kind) (num := num) (neg := neg) S2 ⟨by rw [kz _ (by omega) (by omega) (by omega)]; exact f4, by rw [kz _ (by omega) (by omega) (by omega)]; exact f5, by rw [e2 _ _ (by omega)]; exact ez, by rw [kz _ (by omega) (by omega) (by omega)]; exact f7⟩ ⟨by rw [ks _ (by omega), sm_up_ne (by omega)]; exact p4, by rw [ks _ (by omega), sm_up_ne (by omega)]; exact p5, by rw [ks _ (by omega)]; exact sm_up_same _ _ _ _, by rw [q5 _ _ (by omega) (by omega), s4 _ _ (by omega), sm_up_same]; exact v3, by rw [q3, s4 _ _ (by omega), sm_up_ne (by omega)]; exact v3⟩ ⟨f1, f2, f3, by rw [kt _ (by omega)]; exact f8, by rw [kt _ (by omega)]; exact f9, by rw [kt _ (by omega)]; exact f10, f11⟩ y2 (by omega), by omega, by omega, by omega, t4⟩
    · obtain ⟨u1, u2⟩ := sgOk u
      obtain ⟨v8, st', z', Q', v1, v2, v3, v4, S, v6, v7, v9, v10⟩ := o6.get u1
      obtain ⟨y1, y2⟩ := o7 u1
      obtain ⟨t1, t2, _⟩ := r7.get y1
      have l4 := S.2.2.2.1
      omega
