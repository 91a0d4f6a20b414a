/-! will -/
theorem c_514 {d x : Nat} {V : pV} {G : sm_G} {L : sm_L} {v w : Int32} {r n : Nat} (hV : okV V) (hr : G V.1 12 = i3 r) (hn : G 2 1 = i3 n) : ((¬ v < i3 0 ∧ v < i3 r) → bkC w n → sm_cw (d + 60) 514 [.ref 1, .int v, .int w] (342, RR V, x, G, L) = hW (d + 59) 514 43 [.ref 1, .int v, .int w, .null] 342 (RR V) x G L) ∧ ((¬ v < i3 0 ∧ v < i3 r) → ¬ bkC w n → sm_cw (d + 60) 514 [.ref 1, .int v, .int w] (342, RR V, x, G, L) = wX 342 (RR V) 2 (x + 1) (sm_up G 4 2 (G 4 2 + i3 1)) L) ∧ (¬ (¬ v < i3 0 ∧ v < i3 r) → sm_cw (d + 60) 514 [.ref 1, .int v, .int w] (342, RR V, x, G, L) = wX 342 (RR V) 1 (x + 1) (sm_up G 4 1 (G 4 1 + i3 1)) L) := by
  have e1 := s_29 (d := d + 58) (x := x) (V := V) (G := G) (L := L) (b := true)
  have e0 := s_29 (d := d + 58) (x := x) (V := V) (G := G) (L := L) (b := false)
  rw [if_pos rfl] at e1
  rw [if_neg (by decide)] at e0
  have e1 : sm_cv0 (d + 59) 29 342 (RR V) [.ref 1, .int (i3 1)] (x, G, L) = oV x G L := e1
  have e0 : sm_cv0 (d + 59) 29 342 (RR V) [.ref 1, .int (i3 0)] (x, G, L) = oX 2 (x + 1) (sm_up G 4 2 (G 4 2 + i3 1)) L := e0
  have e31 := s_31 (d := d + 58) (x := x) (V := V) (G := G) (L := L) (v := v) (n := i3 r)
  have q0 : RR V 1 0 = 2 := q_1_0 V
  have q10 : RR V 1 10 = V.1 := q_1_10 V
  have ks := kS_0 hV.1
  rw [rm_514, q0, q10, ks, gd_tt, hr, e31]
  unfold bkC
  by_cases h1 : ¬ v < i3 0 ∧ v < i3 r
  · rw [if_pos h1, aV_o, k_2, gd_tt, hn, e0, e1, aV_o, aV_x]
    refine ⟨fun _ y => ?_, fun _ y => ?_, fun y => absurd h1 y⟩
    · rw [if_neg y.1, if_pos y.2.1, if_pos y.2.2]
    · by_cases z1 : w < i3 0
      · rw [if_pos z1]
        try rfl
      · rw [if_neg z1]
        by_cases z2 : w ≤ i3 n
        · rw [if_pos z2, if_neg (fun z3 => y ⟨z1, z2, z3⟩)]
          try rfl
        · rw [if_neg z2]
          try rfl
  · rw [if_neg h1, aV_x]
    exact ⟨fun y => absurd y h1, fun y => absurd y h1, fun _ => rfl⟩
theorem c_237 {d x : Nat} {V : pV} {G : sm_G} {L : sm_L} {v w : Int32} {r n : Nat} (hr : G 160 4 = i3 r) (hr4 : r < 1000) (hn : G 156 1 = i3 n) : ((¬ v < i3 0 ∧ v < i3 r) → bkC w n → sm_cv0 (d + 60) 237 342 (RR V) [.ref 156, .int v, .int w] (x, G, L) = hD (d + 59) 237 62 [.ref 156, .int v, .int w, .null] 342 (RR V) x (g00 G) L) ∧ ((¬ v < i3 0 ∧ v < i3 r) → ¬ bkC w n → sm_cv0 (d + 60) 237 342 (RR V) [.ref 156, .int v, .int w] (x, G, L) = oI (i3 0) x (noted G 2 2) L) ∧ (¬ (¬ v < i3 0 ∧ v < i3 r) → sm_cv0 (d + 60) 237 342 (RR V) [.ref 156, .int v, .int w] (x, G, L) = oI (i3 0) x (noted G 1 1) L) := by
  have e11 := s_219b (d := d + 58) (x := x) (V := V) (G := g00 G) (L := L) (a := 1) (k := 1) (by decide) (by decide) (by decide) g00_0
  have e01 := s_219o (d := d + 58) (x := x) (V := V) (G := g00 G) (L := L) (v2 := i3 1) (v3 := i3 1) g00_0
  have e12 := s_219b (d := d + 58) (x := x) (V := V) (G := g00 G) (L := L) (a := 2) (k := 2) (by decide) (by decide) (by decide) g00_0
  have e02 := s_219o (d := d + 58) (x := x) (V := V) (G := g00 G) (L := L) (v2 := i3 2) (v3 := i3 2) g00_0
  have e8 := s_218c (d := d + 58) (x := x) (V := V) (G := g00 G) (L := L) (v := w) (n := i3 n)
  have e38 := s_238 (d := d + 57) (x := x) (V := V) (G := g00 G) (L := L) (v := v) (n := r) (by rw [g00_ne (by omega)]; exact hr) hr4
  have en : g00 G 156 1 = i3 n := by rw [g00_ne (by omega)]; exact hn
  rw [m_237, e38, aI_o, e11, e01, aI_o, aI_o, if_pos rfl, if_neg (show ¬ i3 1 = i3 0 by decide), h_237_27, en, e8, aI_o, e12, e02, aI_o, aI_o, if_pos rfl, if_neg (show ¬ i3 1 = i3 0 by decide)]
  unfold bkC
  by_cases h1 : ¬ v < i3 0 ∧ v < i3 r
  · rw [decide_eq_true h1, if_neg (show ¬ bi true = i3 0 by decide)]
    refine ⟨fun _ y => ?_, fun _ y => ?_, fun y => absurd h1 y⟩
    · rw [decide_eq_true (⟨y.1, y.2.1⟩ : ¬ w < i3 0 ∧ w ≤ i3 n), if_neg (show ¬ bi true = i3 0 by decide), if_pos y.2.2]
    · by_cases z1 : ¬ w < i3 0 ∧ w ≤ i3 n
      · rw [decide_eq_true z1, if_neg (show ¬ bi true = i3 0 by decide), if_neg (fun z3 => y ⟨z1.1, z1.2, z3⟩)]
        rfl
      · rw [decide_eq_false z1, if_pos (show bi false = i3 0 by decide)]
        rfl
  · rw [decide_eq_false h1, if_pos (show bi false = i3 0 by decide)]
    exact ⟨fun y => absurd y h1, fun y => absurd y h1, fun _ => rfl⟩
/-- what the model does with a will that was read -/
theorem m_wend {E x e st Q : Nat} {U : pV} {g : sm_G} {L : sm_L} (he : e < 4) (h5 : g 156 5 = i3 0) (h34 : g 156 34 = i3 st) (h35 : g 156 35 = i3 Q) (hst : st ≤ 37) (hQ : Q ≤ 37) : ∃ g', hD E 237 106 [.ref 156, .int (i3 e), .null, .null] 342 (RR U) x g L = oI (i3 st) x g' L ∧ g' 156 3 = g 156 6 ∧ g' 241 e = i3 st ∧ (∀ i, i < 5 * st → g' (243 + e) i = g 303 i) ∧ (∀ i, i < 3 * Q → g' (248 + e) i = g 304 i) ∧ ∀ r j, ¬ (r = 156 ∧ j = 3) → ¬ (r = 241 ∧ j = e) → r ≠ 243 + e → r ≠ 248 + e → g' r j = g r j := by
  have a5 : i3 5 * i3 st = i3 (5 * st) := i3_mul 5 st
  have a3 : i3 3 * i3 Q = i3 (3 * Q) := i3_mul 3 Q
  have second : ∀ g1 : sm_G, g1 156 34 = i3 st → g1 156 35 = i3 Q → ∃ g', hD E 237 173 [.ref 156, .int (i3 e), .null, .int (i3 0)] 342 (RR U) x g1 L = oI (i3 st) x g' L ∧ (∀ i, i < 3 * Q → g' (248 + e) i = g1 304 i) ∧ ∀ r j, r ≠ 248 + e → g' r j = g1 r j := by
    intro g1 k34 k35
    refine loopE (H := fun i (g : sm_G) => hD E 237 173 [.ref 156, .int (i3 e), .null, .int (i3 i)] 342 (RR U) x g L) (Q := fun o' => ∃ g', o' = oI (i3 st) x g' L ∧ (∀ i, i < 3 * Q → g' (248 + e) i = g1 304 i) ∧ ∀ r j, r ≠ 248 + e → g' r j = g1 r j) (N := 3 * Q)
      (fun i g2 => (∀ j, j < i → g2 (248 + e) j = g1 304 j) ∧ ∀ r j, r ≠ 248 + e → g2 r j = g1 r j) ?_ ?_ (3 * Q) 0 g1 (by omega) ⟨fun j hj => by omega, fun _ _ _ => rfl⟩
    · rintro i g2 hi ⟨w1, w2⟩
      refine ⟨sm_up g2 (248 + e) i (g2 304 i), ?_, fun j hj => ?_, fun r j hj => by rw [sm_up_ne (by omega)]; exact w2 r j hj⟩
      · show hD E 237 173 _ 342 (RR U) x g2 L = _
        rw [h_237_173, w2 156 35 (by omega), k35, a3, if_pos (by rw [i3_lt (by omega) (by omega)]; exact hi), i3_in (by omega) he, gd_tt, i3_in (by omega) (by omega), gd_tt, i3_cl (show e < 2147483648 by omega), rr_247 he, kr_247 he, gd_tt, nr_247 he, i3_in (by omega) (by omega), gd_tt, i3_cl (by omega), i3_add]
      · by_cases q : j = i
        · rw [q, sm_up_same, w2 _ _ (by omega)]
        · rw [sm_up_ne (by omega)]
          exact w1 j (by omega)
    · rintro g2 ⟨w1, w2⟩
      refine ⟨g2, ?_, w1, w2⟩
      show hD E 237 173 _ 342 (RR U) x g2 L = _
      rw [h_237_173, w2 156 35 (by omega), k35, a3, if_neg (by rw [i3_lt (by omega) (by omega)]; omega), w2 156 34 (by omega), k34]
  have first : ∀ g1 : sm_G, g1 156 34 = i3 st → g1 156 35 = i3 Q → ∃ g', hD E 237 141 [.ref 156, .int (i3 e), .null, .int (i3 0)] 342 (RR U) x g1 L = hD E 237 173 [.ref 156, .int (i3 e), .null, .int (i3 0)] 342 (RR U) x g' L ∧ (∀ i, i < 5 * st → g' (243 + e) i = g1 303 i) ∧ ∀ r j, r ≠ 243 + e → g' r j = g1 r j := by
    intro g1 k34 k35
    refine loopE (H := fun i (g : sm_G) => hD E 237 141 [.ref 156, .int (i3 e), .null, .int (i3 i)] 342 (RR U) x g L) (Q := fun o' => ∃ g', o' = hD E 237 173 [.ref 156, .int (i3 e), .null, .int (i3 0)] 342 (RR U) x g' L ∧ (∀ i, i < 5 * st → g' (243 + e) i = g1 303 i) ∧ ∀ r j, r ≠ 243 + e → g' r j = g1 r j) (N := 5 * st)
      (fun i g2 => (∀ j, j < i → g2 (243 + e) j = g1 303 j) ∧ ∀ r j, r ≠ 243 + e → g2 r j = g1 r j) ?_ ?_ (5 * st) 0 g1 (by omega) ⟨fun j hj => by omega, fun _ _ _ => rfl⟩
    · rintro i g2 hi ⟨w1, w2⟩
      refine ⟨sm_up g2 (243 + e) i (g2 303 i), ?_, fun j hj => ?_, fun r j hj => by rw [sm_up_ne (by omega)]; exact w2 r j hj⟩
      · show hD E 237 141 _ 342 (RR U) x g2 L = _
        rw [h_237_141, w2 156 34 (by omega), k34, a5, if_pos (by rw [i3_lt (by omega) (by omega)]; exact hi), i3_in (by omega) he, gd_tt, i3_in (by omega) (by omega), gd_tt, i3_cl (show e < 2147483648 by omega), rr_242 he, kr_242 he, gd_tt, nr_242 he, i3_in (by omega) (by omega), gd_tt, i3_cl (by omega), i3_add]
      · by_cases q : j = i
        · rw [q, sm_up_same, w2 _ _ (by omega)]
        · rw [sm_up_ne (by omega)]
          exact w1 j (by omega)
    · rintro g2 ⟨w1, w2⟩
      refine ⟨g2, ?_, w1, w2⟩
      show hD E 237 141 _ 342 (RR U) x g2 L = _
      rw [h_237_141, w2 156 34 (by omega), k34, a5, if_neg (by rw [i3_lt (by omega) (by omega)]; omega)]
  have s34 : sm_up g 156 3 (g 156 6) 156 34 = i3 st := by rw [sm_up_ne (by omega)]; exact h34
  have s5 : sm_up g 156 3 (g 156 6) 156 5 = i3 0 := by rw [sm_up_ne (by omega)]; exact h5
  rw [h_237_106, s5, if_pos rfl, i3_in (by omega) he, gd_tt, i3_cl (by omega), s34]
  have u : ∀ r j, ¬ (r = 156 ∧ j = 3) → ¬ (r = 241 ∧ j = e) → sm_up (sm_up g 156 3 (g 156 6)) 241 e (i3 st) r j = g r j := fun r j y1 y2 => by rw [sm_up_ne (by omega), sm_up_ne (by omega)]
  have u1 : sm_up (sm_up g 156 3 (g 156 6)) 241 e (i3 st) 156 3 = g 156 6 := by rw [sm_up_ne (by omega), sm_up_same]
  have u2 : sm_up (sm_up g 156 3 (g 156 6)) 241 e (i3 st) 241 e = i3 st := sm_up_same _ _ _ _
  generalize sm_up (sm_up g 156 3 (g 156 6)) 241 e (i3 st) = g1 at *
  obtain ⟨g2, p1, p2, p3⟩ := first g1 (by rw [u _ _ (by omega) (by omega)]; exact h34) (by rw [u _ _ (by omega) (by omega)]; exact h35)
  obtain ⟨g3, r1, r2, r3⟩ := second g2 (by rw [p3 _ _ (by omega), u _ _ (by omega) (by omega)]; exact h34) (by rw [p3 _ _ (by omega), u _ _ (by omega) (by omega)]; exact h35)
  rw [p1, r1]
  refine ⟨g3, rfl, ?_, ?_, fun i hi => ?_, fun i hi => ?_, fun r j y1 y2 y3 y4 => ?_⟩
  · rw [r3 _ _ (by omega), p3 _ _ (by omega)]; exact u1
  · rw [r3 _ _ (by omega), p3 _ _ (by omega)]; exact u2
  · rw [r3 _ _ (by omega), p2 i hi, u _ _ (by omega) (by omega)]
  · rw [r2 i hi, p3 _ _ (by omega), u _ _ (by omega) (by omega)]
  · rw [r3 _ _ y4, p3 _ _ y3, u _ _ y1 y2]
/-- class and model, from whatever store the model begins -/
theorem s_170m {D E x x' w k : Nat} {V U : pV} {L L' : sm_L} {B : Nat → Nat} {T : pT} {vd : Int32} {X Xs : sm_G} (hD0 : 34 ≤ D) (hE0 : 26 ≤ E) (hw : pW w) (hT : okT T) (hk : k ≤ 150) (hr : rC X B k (0, 0, sk B k 0)) (hB : ∀ j, j < k → B j < 256 ∧ Xs 157 j = i3 (B j)) (m0 : Xs 160 0 = i3 (sl T)) (m1' : Xs 160 1 = i3 (dn T)) :
    ∃ X' g' c', sm_cv0 D 170 342 (RR V) [.ref w, .ref 2, .int (i3 (sl T)), .int (i3 (dn T))] (x, X, L) = oV x X' L ∧ hD E 237 62 [.ref 156, .int vd, .int (i3 k), .null] 342 (RR U) x' (g00 Xs) L' = hD E 237 106 [.ref 156, .int vd, .null, .null] 342 (RR U) x' g' L' ∧ rC X' B k c' ∧ rM g' B k c' ∧ (∀ r j, ¬ (w ≤ r ∧ r < w + 5) → ¬ (r = 2 ∧ 3 ≤ j ∧ j ≤ 8) → X' r j = X r j) ∧ (∀ r j, ¬ (r = 156 ∧ (j ≤ 8 ∨ j = 34 ∨ j = 35)) → r ≠ 303 → r ≠ 304 → g' r j = Xs r j) ∧ g' 156 0 = i3 0 ∧ g' 156 1 = i3 0 ∧ (c'.1 = 0 → ∃ st z Q, X' w 4 = i3 z ∧ X' w 5 = i3 st ∧ g' 156 34 = i3 st ∧ g' 156 35 = i3 Q ∧ seg X' g' w T 0 0 st 0 z 0 Q ∧ z ≤ 37 ∧ st ≤ 37 ∧ Q ≤ st) := by
  obtain ⟨g1, u1, u2, u3, u4, u5, u6⟩ := s_220 (D := E) (x := x') (V := U) (G := g00 Xs) (L := L') (n := k) (B := B) (by omega) (by omega) (fun j hj => ⟨(hB j hj).1, by rw [g00_ne (by omega)]; exact (hB j hj).2⟩)
  have u : ∀ r j, ¬ (r = 156 ∧ (j = 34 ∨ j = 35)) → sm_up (sm_up g1 156 34 (i3 0)) 156 35 (i3 0) r j = g1 r j := fun r j y => by rw [sm_up_ne (by omega), sm_up_ne (by omega)]
  have u34 : sm_up (sm_up g1 156 34 (i3 0)) 156 35 (i3 0) 156 34 = i3 0 := by rw [sm_up_ne (by omega), sm_up_same]
  have u35 : sm_up (sm_up g1 156 34 (i3 0)) 156 35 (i3 0) 156 35 = i3 0 := sm_up_same _ _ _ _
  rw [h_237_62, u1, aV_o]
  generalize sm_up (sm_up g1 156 34 (i3 0)) 156 35 (i3 0) = g2 at *
  have f2 : ∀ r j, ¬ (r = 156 ∧ (j ≤ 8 ∨ j = 34 ∨ j = 35)) → g2 r j = Xs r j := fun r j y => by rw [u r j (by omega), u6 r j (by omega), g00_ne (by omega)]
  obtain ⟨X', g', c', e1, e2, o1, o2, o3, o4, o5⟩ := s_170 (D := D) (E := E) (x := x) (x' := x') (w := w) (V := V) (U := U) (L := L) (L' := L') (vd := vd) (T := T) hD0 hE0 hw hT hk hr (u2.keep (fun r j y => u r j (by omega))) (by rw [f2 _ _ (by omega)]; exact m0) (by rw [f2 _ _ (by omega)]; exact m1') u34 u35 (by rw [u _ _ (by omega)]; exact u5)
  refine ⟨X', g', c', e1, e2, o1, o2, o3, fun r j y1 y2 y3 => by rw [o4 r j (by omega) (by omega) (by omega)]; exact f2 r j y1, ?_, ?_, o5⟩
  · rw [o4 _ _ (by omega) (by omega) (by omega), u _ _ (by omega), u6 _ _ (by omega)]
    exact g00_0
  · rw [o4 _ _ (by omega) (by omega) (by omega), u _ _ (by omega)]
    exact u3
theorem op_514 {d x : Nat} {V : pV} {G : sm_G} {L : sm_L} {v w : Int32} (I : Inv V G) : OpW d x V G L 514 [.ref 1, .int v, .int w] 237 [.ref 156, .int v, .int w] eN := by
  have I0 := I
  obtain ⟨T, K, c, H, W, hS, hh, hn⟩ := I
  obtain ⟨nT, B, t1, t2, t3, t4⟩ := hS.t.B
  have hV := hS.1.1
  have hT := hS.T
  have hTb := hT.gb
  have hbk := pB_two hV.2.2.2.1 hV.2.2.2.2.1 hS.1.2.2.1
  have hs1 := pS_two hV.1 hV.2.1 hS.1.2.1
  have hwp := pW_lt hV.2.2.1
  have m0 : G 160 0 = i3 (sl T) := hS.m.1
  have m1' : G 160 1 = i3 (dn T) := hS.m.2.1
  obtain ⟨ec1, ec2, ec3⟩ := c_514 (d := d) (x := x) (V := V) (G := G) (L := L) (v := v) (w := w) (r := dr T) (n := nT) hV hS.c.2.2.2.1 t2
  by_cases h1 : ¬ v < i3 0 ∧ v < i3 (dr T)
  · by_cases hC : bkC w nT
    · have ec := ec1 h1 hC
      obtain ⟨e, rfl, he⟩ := rng (by omega) h1
      obtain ⟨k, rfl, hk⟩ := rngl (by omega) ⟨hC.1, hC.2.1⟩
      have he4 : e < 4 := by omega
      have hk150 : k ≤ 150 := by
        have := hC.2.2
        rw [i3_le (by omega) (by omega)] at this
        exact this
      have hwe := hV.2.2.2.2.2 e he4
      have hwel := pW_lt hwe
      obtain ⟨X1, a1, a2, a3⟩ := s_134 (D := d + 59) (x := x) (V := V) (G := G) (L := L) (n := k) (B := B) (by omega) (by omega) (fun j hj => ⟨(t4 j (by omega)).1, (t4 j (by omega)).2.2⟩)
      obtain ⟨X2, _, c2, b1, -, b3, -, b5, -⟩ := s_170m (D := d + 59) (E := d + 59) (x := x) (x' := x) (w := V.2.2.1) (V := V) (U := V) (L := L) (L' := L) (T := T) (vd := i3 e) (Xs := G) (by omega) (by omega) hV.2.2.1 hT hk150 a2 (fun j hj => ⟨(t4 j (by omega)).1, (t4 j (by omega)).2.1⟩) m0 m1'
      obtain ⟨X3, e1, e2, e3, e4⟩ := s_30 (D := d + 59) (x := x) (V := V) (L := L) (by omega) b3
      have fX : ∀ r j, ¬ (r = 2) → ¬ (r = 1 ∧ j = 16) → ¬ (V.2.2.1 ≤ r ∧ r < V.2.2.1 + 5) → X3 r j = G r j := fun r j y1 y2 y3 => by
        rw [e4 r j (by omega) y2, b5 r j y3 (by omega), a3 r j (by omega)]
      have h7 : X3 2 7 = i3 c2.1 := by rw [e4 _ _ (by omega) (by omega)]; exact b3.2.2.2.1
      have hf3 := b3.2.1
      have q0 := q_1_0 V
      have q10 := q_1_10 V
      have q12 := q_1_12 V
      have q2 := q_1_2 V
      have ks := kS_0 hV.1
      have kw := kW_0 hV.2.2.1
      have x9 : X1 V.1 9 = i3 (sl T) := by rw [a3 _ _ (by omega)]; exact hS.c.1
      have x10 : X1 V.1 10 = i3 (dn T) := by rw [a3 _ _ (by omega)]; exact hS.c.2.1
      have k5a : (Nat.ble 24 (sm_K 5) && Nat.ble (sm_K 5) 27 && Nat.ble 5 342) = true := by decide +kernel
      have n5 : sm_N 5 = 4 := by decide +kernel
      have k5b : (Nat.ble 25 (sm_K 5) && Nat.ble (sm_K 5) 27 && Nat.ble 5 342 && sm_is V.2.2.1 342 (bif Nat.beq (sm_K 5) 25 then 10 else bif Nat.beq (sm_K 5) 26 then 3 else 7)) = true := by
        rw [show (bif Nat.beq (sm_K 5) 25 then 10 else bif Nat.beq (sm_K 5) 26 then 3 else 7) = 10 by decide +kernel, kw]
        decide +kernel
      have lw : Nat.ble (V.2.2.2.2.2 e) 342 = true := by rw [Nat.ble_eq]; omega
      rw [rh_514_43, q0, k_2, gd_tt, a1, aV_o, q10, ks, gd_tt, gd_tt, q12, kw, gd_tt, x9, x10, b1, aV_o, e1, aI_o, h7, q2, k5a, gd_tt, n5, i3_in (by omega) he4, gd_tt, k5b, gd_tt, gd_tt, i3_cl (show e < 2147483648 by omega), rr_5 he4, lw, gd_tt, RR_wl he4, s_23, aV_o] at ec
      by_cases q : c2.1 = 0
      · rw [if_pos q, if_pos rfl] at ec
        have fU : ∀ r j, ¬ (r = 1 ∧ (j = 17 ∨ j = 18)) → sm_up (sm_up X3 1 17 (i3 1)) 1 18 (i3 1) r j = X3 r j := fun r j y => by rw [sm_up_ne (by omega), sm_up_ne (by omega)]
        have f18 : sm_up (sm_up X3 1 17 (i3 1)) 1 18 (i3 1) 1 18 = i3 1 := sm_up_same _ _ _ _
        have f17 : sm_up (sm_up X3 1 17 (i3 1)) 1 18 (i3 1) 1 17 = i3 1 := by rw [sm_up_ne (by omega), sm_up_same]
        generalize sm_up (sm_up X3 1 17 (i3 1)) 1 18 (i3 1) = X4 at *
        have f4 : ∀ r j, ¬ (r = 2) → ¬ (r = 1 ∧ 16 ≤ j ∧ j ≤ 18) → ¬ (V.2.2.1 ≤ r ∧ r < V.2.2.1 + 5) → X4 r j = G r j := fun r j y1 y2 y3 => by
          rw [fU r j (by omega), fX r j y1 (by omega) y3]
        obtain ⟨X2', g, c', b1', b2', b3', b4', b5', b6', b7', b8', b9'⟩ := s_170m (D := d + 59) (E := d + 59) (x := x) (x' := x) (w := V.2.2.1) (V := V) (U := vWl V e) (L := L) (L' := L) (T := T) (vd := i3 e) (Xs := X4) (by omega) (by omega) hV.2.2.1 hT hk150 a2 (fun j hj => ⟨(t4 j (by omega)).1, by rw [f4 _ _ (by omega) (by omega) (by omega)]; exact (t4 j (by omega)).2.1⟩) (by rw [f4 _ _ (by omega) (by omega) (by omega)]; exact m0) (by rw [f4 _ _ (by omega) (by omega) (by omega)]; exact m1')
        replace b9' := Lz.mk b9'
        obtain rfl : X2 = X2' := oV_inj (b1.symm.trans b1')
        have hc' : c'.1 = 0 := by
          have y := b3.2.2.2.1.symm.trans b3'.2.2.2.1
          have := b3'.2.1
          rw [i3_eq (by omega) (by omega)] at y
          omega
        obtain ⟨st, z, Q, o1, o2, o3, o4, S, o6, o7, o8⟩ := b9'.get hc'
        obtain ⟨g', p1, p2, p3, p4, p5, p6⟩ := m_wend (E := d + 59) (x := x) (U := vWl V e) (L := L) he4 (by rw [b4'.2.2.2.1, hc']) o3 o4 (by omega) (by omega)
        have hx5 : X4 V.2.2.1 5 = i3 st := by rw [fU _ _ (by omega), e4 _ _ (by omega) (by omega)]; exact o2
        have q2' := q_1_2 (vWl V e)
        have r5' : RR (vWl V e) 5 e = V.2.2.1 := by
          rw [rr_5 he4]
          show (if e = e then V.2.2.1 else V.2.2.2.2.2 e) = V.2.2.1
          rw [if_pos rfl]
        unfold wTs at ec
        rw [q2', k5a, gd_tt, n5, i3_in (by omega) he4, gd_tt, i3_cl (show e < 2147483648 by omega), r5', kw, gd_tt, hx5] at ec
        have em := (c_237 (d := d) (x := x) (V := vWl V e) (G := X4) (L := L) (v := i3 e) (w := i3 k) (r := dr T) (n := nT) (by rw [f4 _ _ (by omega) (by omega) (by omega)]; exact hS.m.2.2.2.2.1) (by omega) (by rw [f4 _ _ (by omega) (by omega) (by omega)]; exact t3)).1 h1 hC
        rw [b2', p1] at em
        have fG : ∀ r j, ¬ scF V r j → ¬ (r = 241 ∨ (243 ≤ r ∧ r < 247) ∨ (248 ≤ r ∧ r < 252)) → g' r j = G r j := fun r j y1 y2 => by
          unfold scF at y1
          rw [p6 r j (by omega) (by omega) (by omega) (by omega), b6' r j (by omega) (by omega) (by omega), f4 r j (by omega) (by omega) (by omega)]
        have fB : ∀ r j, r < 156 → g' r j = X4 r j := fun r j y => by
          rw [p6 r j (by omega) (by omega) (by omega) (by omega), b6' r j (by omega) (by omega) (by omega)]
        refine Or.inl ⟨_, vWl V e, X4, g', ec, em, by rw [p6 _ _ (by omega) (by omega) (by omega) (by omega)]; exact b7', T, K, c, H, fun i => if i = e then Wof X2 g V.2.2.1 else W i, ?_, Or.inl (by rw [fB _ _ (by omega)]; exact f17), Or.inl (by rw [fB _ _ (by omega)]; exact f18)⟩
        obtain ⟨s1, s2, s3, s4, s5, s6, s7⟩ := hS.parts fG
        have s8 := hS.partB fG
        have fG2 := fG
        unfold scF at fG2
        obtain ⟨k1, k2, k3, k4⟩ := S.okW o1 o3 o6 o7 o8
        have kc := S.cWl o1 o2 o3 o6 o7 o8
        have hX2 : ∀ r j, V.2.2.1 ≤ r → r < V.2.2.1 + 5 → g' r j = X2 r j := fun r j y1 y2 => by
          rw [fB r j (by omega), fU r j (by omega), e4 r j (by omega) (by omega)]
        refine ⟨okV2_wl hS.1 he4, hT, hS.P, hS.K, s1, s2, s3, s4, ⟨0, by omega, by rw [fB _ _ (by omega), fU _ _ (by omega)]; exact e2, by rw [p6 _ _ (by omega) (by omega) (by omega) (by omega)]; exact b8', fun j hj => absurd hj (Nat.not_lt_zero j)⟩, ⟨fun j hj => by rw [fG2 4 j (by omega) (by omega), fG2 158 j (by omega) (by omega)]; exact hS.r.1 j hj, ?_⟩, s5, s6, s7, s8, fun i hi => ?_⟩
        · rw [fB _ _ (by omega), fU _ _ (by omega), e3, p2, b4'.2.2.2.2.1]
          have y1 := b3.2.2.2.2.1
          have y2 := b3'.2.2.2.2.1
          rw [← y1, ← y2]
        · show okW T (if i = e then Wof X2 g V.2.2.1 else W i) ∧ cWl g' (if i = e then V.2.2.1 else V.2.2.2.2.2 i) (if i = e then Wof X2 g V.2.2.1 else W i) ∧ mWl g' i (if i = e then Wof X2 g V.2.2.1 else W i)
          by_cases qi : i = e
          · rw [if_pos qi, if_pos qi, qi]
            refine ⟨k1, kc.keep (fun r j y1 y2 => hX2 r j y1 y2), ?_, fun j hj => ?_, fun j hj => ?_⟩
            · rw [k2]; exact p3
            · rw [k2] at hj
              rw [p4 j hj]
              exact (nn1_v (S.2.1.1 j (by omega) hj)).1
            · rw [k4] at hj
              rw [p5 j hj]
              exact (nn1_v (S.2.1.2 j (by omega) hj)).1
          · rw [if_neg qi, if_neg qi]
            obtain ⟨w1, w2, w3⟩ := hS.wl i hi
            have hwi := pW_lt (hV.2.2.2.2.2 i hi)
            have hwd := pW_two (hV.2.2.2.2.2 i hi) hV.2.2.1 (hS.1.2.2.2.1 i hi)
            have p6' : ∀ r j, ¬ (r = 241 ∧ j = e) → r ≠ 243 + e → r ≠ 248 + e → (r = 241 ∨ (243 ≤ r ∧ r < 247) ∨ (248 ≤ r ∧ r < 252)) → g' r j = G r j := fun r j y1 y2 y3 y4 => by
              rw [p6 r j (by omega) y1 y2 y3, b6' r j (by omega) (by omega) (by omega), f4 r j (by omega) (by omega) (by omega)]
            obtain ⟨v1, v2, v3⟩ := w3
            exact ⟨w1, w2.keep (fun r j y1 y2 => fG2 r j (by omega) (by omega)), by rw [p6' _ _ (by omega) (by omega) (by omega) (by omega)]; exact v1, fun j hj => by rw [p6' _ _ (by omega) (by omega) (by omega) (by omega)]; exact v2 j hj, fun j hj => by rw [p6' _ _ (by omega) (by omega) (by omega) (by omega)]; exact v3 j hj⟩
      · rw [if_neg q, if_neg (show ¬ i3 1 = i3 0 by decide), gd_tt] at ec
        obtain ⟨X2', g, c', b1', b2', b3', b4', b5', b6', b7', b8', b9'⟩ := s_170m (D := d + 59) (E := d + 59) (x := x) (x' := x) (w := V.2.2.1) (V := V) (U := V) (L := L) (L' := L) (T := T) (vd := i3 e) (Xs := X3) (by omega) (by omega) hV.2.2.1 hT hk150 a2 (fun j hj => ⟨(t4 j (by omega)).1, by rw [fX _ _ (by omega) (by omega) (by omega)]; exact (t4 j (by omega)).2.1⟩) (by rw [fX _ _ (by omega) (by omega) (by omega)]; exact m0) (by rw [fX _ _ (by omega) (by omega) (by omega)]; exact m1')
        replace b9' := Lz.mk b9'
        obtain rfl : X2 = X2' := oV_inj (b1.symm.trans b1')
        have hc' : c2.1 = c'.1 := by
          have y := b3.2.2.2.1.symm.trans b3'.2.2.2.1
          have := b3'.2.1
          rw [i3_eq (by omega) (by omega)] at y
          exact y
        have em := (c_237 (d := d) (x := x) (V := V) (G := X3) (L := L) (v := i3 e) (w := i3 k) (r := dr T) (n := nT) (by rw [fX _ _ (by omega) (by omega) (by omega)]; exact hS.m.2.2.2.2.1) (by omega) (by rw [fX _ _ (by omega) (by omega) (by omega)]; exact t3)).1 h1 hC
        rw [b2', h_237_106, sm_up_ne (by omega : (156 : Nat) ≠ 156 ∨ (5 : Nat) ≠ 3), b4'.2.2.2.1, if_neg (by rw [i3_eq (by omega) (by omega), ← hc']; exact q), ← hc'] at em
        have fG : ∀ r j, ¬ scF V r j → sm_up g 156 3 (g 156 6) r j = G r j := fun r j y1 => by
          unfold scF at y1
          rw [sm_up_ne (by omega), b6' r j (by omega) (by omega) (by omega), fX r j (by omega) (by omega) (by omega)]
        have fB : ∀ r j, r < 156 → sm_up g 156 3 (g 156 6) r j = X3 r j := fun r j y => by
          rw [sm_up_ne (by omega), b6' r j (by omega) (by omega) (by omega)]
        have f17 : ∀ j, 17 ≤ j → sm_up g 156 3 (g 156 6) 1 j = G 1 j := fun j y => by rw [fB _ _ (by omega), fX _ _ (by omega) (by omega) (by omega)]
        refine Or.inl ⟨_, V, X3, _, ec, em, by rw [sm_up_ne (by omega)]; exact b7', Inv_bad hS hh hn fG (f17 17 (by omega)) (f17 18 (by omega)) ⟨by rw [fB _ _ (by omega)]; exact e2, by rw [sm_up_ne (by omega)]; exact b8'⟩ ?_⟩
        rw [fB _ _ (by omega), e3, sm_up_same, b4'.2.2.2.2.1]
        have y1 := b3.2.2.2.2.1
        have y2 := b3'.2.2.2.2.1
        rw [← y1, ← y2]
    · have ec := ec2 h1 hC
      have em := (c_237 (d := d) (x := x + 1) (V := V) (G := sm_up G 4 2 (G 4 2 + i3 1)) (L := L) (v := v) (w := w) (r := dr T) (n := nT) (by rw [sm_up_ne (by omega)]; exact hS.m.2.2.2.2.1) (by omega) (by rw [sm_up_ne (by omega)]; exact t3)).2.1 h1 hC
      exact Or.inr ⟨2, _, _, _, ec, em, noted_0, by decide, by decide, by decide, Inv_noted I0 (by decide)⟩
  · have ec := ec3 h1
    have em := (c_237 (d := d) (x := x + 1) (V := V) (G := sm_up G 4 1 (G 4 1 + i3 1)) (L := L) (v := v) (w := w) (r := dr T) (n := nT) (by rw [sm_up_ne (by omega)]; exact hS.m.2.2.2.2.1) (by omega) (by rw [sm_up_ne (by omega)]; exact t3)).2.2 h1
    exact Or.inr ⟨1, _, _, _, ec, em, noted_0, by decide, by decide, by decide, Inv_noted I0 (by decide)⟩
