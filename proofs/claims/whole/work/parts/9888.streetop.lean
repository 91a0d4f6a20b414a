/-! street -/
theorem c_513 {d x : Nat} {V : pV} {G : sm_G} {L : sm_L} {v : Int32} {n : Nat} (hn : G 2 1 = i3 n) : ((¬ v < i3 0 ∧ v ≤ i3 n) → sm_cw (d + 60) 513 [.ref 1, .int v] (342, RR V, x, G, L) = hW (d + 59) 513 24 [.ref 1, .int v, .null, .null] 342 (RR V) x G L) ∧ (¬ (¬ v < i3 0 ∧ v ≤ i3 n) → sm_cw (d + 60) 513 [.ref 1, .int v] (342, RR V, x, G, L) = wX 342 (RR V) 2 (x + 1) (sm_up G 4 2 (G 4 2 + i3 1)) L) := by
  have e1 := s_29 (d := d + 58) (x := x) (V := V) (G := G) (L := L) (b := true)
  have e0 := s_29 (d := d + 58) (x := x) (V := V) (G := G) (L := L) (b := false)
  rw [if_pos rfl] at e1
  rw [if_neg (by decide)] at e0
  have e1 : sm_cv0 (d + 59) 29 342 (RR V) [.ref 1, .int (i3 1)] (x, G, L) = oV x G L := e1
  have e0 : sm_cv0 (d + 59) 29 342 (RR V) [.ref 1, .int (i3 0)] (x, G, L) = oX 2 (x + 1) (sm_up G 4 2 (G 4 2 + i3 1)) L := e0
  have e2 : RR V 1 0 = 2 := q_1_0 V
  rw [rm_513, e2, k_2, gd_tt, hn, e0, e1, aV_o, aV_x]
  by_cases h1 : v < i3 0
  · rw [if_pos h1]
    exact ⟨fun y => absurd h1 y.1, fun _ => rfl⟩
  · rw [if_neg h1]
    by_cases h2 : v ≤ i3 n
    · rw [if_pos h2]
      exact ⟨fun _ => rfl, fun y => absurd ⟨h1, h2⟩ y⟩
    · rw [if_neg h2]
      exact ⟨fun y => absurd y.2 h2, fun _ => rfl⟩
theorem c_217 {d x : Nat} {V : pV} {G : sm_G} {L : sm_L} {v : Int32} {n : Nat} (hn : G 156 1 = i3 n) : ((¬ v < i3 0 ∧ v ≤ i3 n) → sm_cv0 (d + 60) 217 342 (RR V) [.ref 156, .int v] (x, G, L) = sm_aV (sm_cv0 (d + 59) 220 342 (RR V) [.ref 156, .int v] (x, g00 G, L)) (fun x3 G3 L3 => sm_aV (sm_cv0 (d + 59) 212 342 (RR V) [.ref 156] (x3, G3, L3)) (fun x4 G4 L4 => hD (d + 59) 217 42 [.ref 156, .null] 342 (RR V) x4 G4 L4) oX) oX) ∧ (¬ (¬ v < i3 0 ∧ v ≤ i3 n) → sm_cv0 (d + 60) 217 342 (RR V) [.ref 156, .int v] (x, G, L) = oI (i3 0) x (noted G 1 2) L) := by
  have e1 := s_219b (d := d + 58) (x := x) (V := V) (G := g00 G) (L := L) (a := 1) (k := 2) (by decide) (by decide) (by decide) g00_0
  have e0 := s_219o (d := d + 58) (x := x) (V := V) (G := g00 G) (L := L) (v2 := i3 1) (v3 := i3 2) g00_0
  have e8 := s_218c (d := d + 58) (x := x) (V := V) (G := g00 G) (L := L) (v := v) (n := i3 n)
  have en : sm_up G 156 0 (i3 0) 156 1 = i3 n := by rw [sm_up_ne (by omega)]; exact hn
  rw [m_217, en, e8, aI_o, e1, e0, aI_o, aI_o, if_pos rfl, if_neg (show ¬ i3 1 = i3 0 by decide)]
  by_cases h1 : ¬ v < i3 0 ∧ v ≤ i3 n
  · rw [decide_eq_true h1, if_neg (show ¬ bi true = i3 0 by decide)]
    exact ⟨fun _ => rfl, fun y => absurd h1 y⟩
  · rw [decide_eq_false h1, if_pos (show bi false = i3 0 by decide)]
    exact ⟨fun y => absurd y h1, fun _ => rfl⟩
theorem m_street {d x k nT : Nat} {V : pV} {X : sm_G} {L : sm_L} {B : Nat → Nat} (hn : X 156 1 = i3 nT) (hC : ¬ i3 k < i3 0 ∧ i3 k ≤ i3 nT) (hk : k ≤ 600) (hB : ∀ j, j < k → B j < 256 ∧ X 157 j = i3 (B j)) :
    ∃ g, sm_cv0 (d + 60) 217 342 (RR V) [.ref 156, .int (i3 k)] (x, X, L) = oI (if (stF B k 61 (0, 0, sk B k 0) T0 T0).1.1 = 0 then i3 (sl (stF B k 61 (0, 0, sk B k 0) T0 T0).2.1) else i3 (stF B k 61 (0, 0, sk B k 0) T0 T0).1.1 - i3 10) x g L ∧ g 156 0 = i3 0 ∧ g 156 1 = i3 0 ∧ g 156 3 = mi (stF B k 61 (0, 0, sk B k 0) T0 T0).1.2.1 ∧
      ((stF B k 61 (0, 0, sk B k 0) T0 T0).1.1 = 0 → mH g (stF B k 61 (0, 0, sk B k 0) T0 T0).2.1 (stF B k 61 (0, 0, sk B k 0) T0 T0).2.2 0 ∧ (∀ j, j < 8 → g 305 j = i3 j) ∧ (∀ j, j < 4 → g 241 j = i3 0) ∧ g 156 36 = i3 0 ∧ g 156 38 = i3 0 ∧ g 156 39 = i3 0) ∧
      ((stF B k 61 (0, 0, sk B k 0) T0 T0).1.1 ≠ 0 → ∀ r j, ¬ (r = 156 ∧ j ≤ 8) → ¬ inR r → g r j = X r j) ∧ ∀ r j, r < 156 ∨ r = 158 → g r j = X r j := by
  obtain ⟨g1, u1, u2, u3, u4, u5, u6⟩ := s_220 (D := d + 59) (x := x) (V := V) (G := g00 X) (L := L) (n := k) (B := B) (by omega) (by omega) (fun j hj => ⟨(hB j hj).1, by rw [g00_ne (by omega)]; exact (hB j hj).2⟩)
  obtain ⟨g2, v1, v2, v3⟩ := s_212 (D := d + 59) (x := x) (V := V) (G := g1) (L := L) (by omega)
  obtain ⟨g3, w1, w2, w3, w4⟩ := s_217l (D := d + 59) (x := x) (V := V) (L := L) (B := B) (n := k) (by omega) 61 0 (0, 0, sk B k 0) T0 T0 g2 (by omega) (u2.keep (fun r j y => v3 r j (by omega) (by omega))) (fun h => absurd h (by omega)) (fun _ => ⟨okT_0, okP_0, v2, by rw [v3 _ _ (by omega) (by omega)]; exact u4⟩)
  have ok := stF_ok (B := B) (n := k) 61 (0, 0, sk B k 0) T0 T0 (fun _ => ⟨okT_0, okP_0⟩)
  have hc3 := w3.2.1
  have f6 := w3.2.2.2.2.1
  have f5 := w3.2.2.2.1
  have nR : ∀ r, (r ≤ 158) → ¬ inR r := fun r y z => by unfold inR at z; omega
  have f0 : g3 156 0 = i3 0 := by rw [w2 _ _ (by omega) (nR _ (by omega)), v3 _ _ (by omega) (by omega), u6 _ _ (by omega)]; exact g00_0
  have f1 : g3 156 1 = i3 0 := by rw [w2 _ _ (by omega) (nR _ (by omega)), v3 _ _ (by omega) (by omega)]; exact u3
  have ff : ∀ r j, ¬ (r = 156 ∧ j ≤ 8) → ¬ inR r → g3 r j = X r j := fun r j y1 y2 => by
    have y3 : r ≠ 159 ∧ r ≠ 163 := ⟨fun z => y2 (by unfold inR; omega), fun z => y2 (by unfold inR; omega)⟩
    rw [w2 _ _ (by omega) y2, v3 _ _ y3.1 y3.2, u6 _ _ (by omega), g00_ne (by omega)]
  generalize stF B k 61 (0, 0, sk B k 0) T0 T0 = F at *
  rw [(c_217 hn).1 hC, u1, aV_o, v1, aV_o, w1, h_217_71, sm_up_ne (by omega : (156 : Nat) ≠ 156 ∨ (5 : Nat) ≠ 3), f5, f6]
  by_cases q : F.1.1 = 0
  · obtain ⟨o1, o2⟩ := ok q
    rw [if_pos (show i3 F.1.1 = i3 0 by rw [q]), if_pos q]
    obtain ⟨g4, t1, t2, t3, t4, t5, t6, t7, t8⟩ := s_213 (D := d + 59) (x := x) (V := V) (G := sm_up g3 156 3 (mi F.1.2.1)) (L := L) (by omega) o1 o2 ((w4 q).keep o1 o2 (fun r j y => sm_up_ne (Or.inl (fun z => nR r (by omega) y))))
    rw [t1, aV_o, t2.1]
    refine ⟨g4, rfl, ?_, ?_, ?_, fun _ => ⟨t2, t3, t4, t5, t6, t7⟩, fun y => absurd q y, fun r j y => ?_⟩
    · rw [t8 _ _ (by omega) (by omega) (by omega) (by omega) (by omega) (by omega), sm_up_ne (by omega)]; exact f0
    · rw [t8 _ _ (by omega) (by omega) (by omega) (by omega) (by omega) (by omega), sm_up_ne (by omega)]; exact f1
    · rw [t8 _ _ (by omega) (by omega) (by omega) (by omega) (by omega) (by omega), sm_up_same]
    · rw [t8 _ _ (by omega) (by omega) (by omega) (by omega) (by omega) (by omega), sm_up_ne (by omega)]; exact ff r j (by omega) (nR _ (by omega))
  · rw [if_neg (show ¬ i3 F.1.1 = i3 0 by rw [i3_eq (by omega) (by omega)]; exact q), if_neg q]
    refine ⟨_, rfl, ?_, ?_, sm_up_same _ _ _ _, fun y => absurd y q, fun _ r j y1 y2 => ?_, fun r j y => ?_⟩
    · rw [sm_up_ne (by omega)]; exact f0
    · rw [sm_up_ne (by omega)]; exact f1
    · rw [sm_up_ne (by omega)]; exact ff r j y1 y2
    · rw [sm_up_ne (by omega)]; exact ff r j (by omega) (nR _ (by omega))
/-- the class, once a street stands -/
theorem s_513n {d x i : Nat} {V : pV} {G : sm_G} {L : sm_L} (hV : okV V) (hi : i < 4) : hW (d + 1) 513 81 [.ref 1, .null, .null, .int (i3 i)] 342 (RR V) x G L = hW (d + 1) 513 81 [.ref 1, .null, .null, .int (i3 (i + 1))] 342 (RR V) x (sm_up (sm_up G (V.2.2.2.2.2 i) 4 (i3 0)) (V.2.2.2.2.2 i) 5 (i3 0)) L := by
  have k5a : (Nat.ble 24 (sm_K 5) && Nat.ble (sm_K 5) 27 && Nat.ble 5 342) = true := by decide +kernel
  have n5 : sm_N 5 = 4 := by decide +kernel
  have q2 := q_1_2 V
  have hw := hV.2.2.2.2.2 i hi
  rw [rh_513_81, if_pos (by rw [i3_lt (by omega) (by omega)]; exact hi), q2, k5a, gd_tt, n5, i3_in (by omega) hi, gd_tt, i3_cl (by omega), rr_5 hi, kW_0 hw, gd_tt, m_169 hw, aV_o, i3_add]
theorem s_513e {d x : Nat} {V : pV} {G : sm_G} {L : sm_L} (hV : okV V) : hW (d + 1) 513 81 [.ref 1, .null, .null, .int (i3 4)] 342 (RR V) x G L = wI (sm_up (sm_up (sm_up (sm_up G V.2.2.2.1 2 (i3 0)) 1 15 (i3 0)) 1 17 (i3 1)) 1 18 (i3 1) V.1 9) 342 (RR V) x (sm_up (sm_up (sm_up (sm_up G V.2.2.2.1 2 (i3 0)) 1 15 (i3 0)) 1 17 (i3 1)) 1 18 (i3 1)) L := by
  have q13 := q_1_13 V
  have q10 := q_1_10 V
  rw [rh_513_81, if_neg (by decide), q13, kB_0 hV.2.2.2.1, gd_tt, m_75 hV.2.2.2.1, aV_o, s_23, aV_o, q10, kS_0 hV.1, gd_tt]
theorem s_513l {d x : Nat} {V : pV} {G : sm_G} {L : sm_L} (hV : okV2 V) : ∃ G', hW (d + 1) 513 81 [.ref 1, .null, .null, .int (i3 0)] 342 (RR V) x G L = wI (G V.1 9) 342 (RR V) x G' L ∧ (∀ i, i < 4 → G' (V.2.2.2.2.2 i) 4 = i3 0 ∧ G' (V.2.2.2.2.2 i) 5 = i3 0) ∧ G' V.2.2.2.1 2 = i3 0 ∧ G' 1 15 = i3 0 ∧ G' 1 17 = i3 1 ∧ G' 1 18 = i3 1 ∧ ∀ r j, ¬ ((6 ≤ r ∧ r ≤ 21) ∨ r = 145) → ¬ (r = V.2.2.2.1 ∧ j = 2) → ¬ (r = 1 ∧ (j = 15 ∨ j = 17 ∨ j = 18)) → G' r j = G r j := by
  have hb := pB_lt hV.1.2.2.2.1
  have hs := pS_lt hV.1.1
  have hw0 := pW_lt (hV.1.2.2.2.2.2 0 (by omega))
  have hw1 := pW_lt (hV.1.2.2.2.2.2 1 (by omega))
  have hw2 := pW_lt (hV.1.2.2.2.2.2 2 (by omega))
  have hw3 := pW_lt (hV.1.2.2.2.2.2 3 (by omega))
  have d01 := hV.2.2.2.2 0 1 (by omega) (by omega) (by omega)
  have d02 := hV.2.2.2.2 0 2 (by omega) (by omega) (by omega)
  have d03 := hV.2.2.2.2 0 3 (by omega) (by omega) (by omega)
  have d12 := hV.2.2.2.2 1 2 (by omega) (by omega) (by omega)
  have d13 := hV.2.2.2.2 1 3 (by omega) (by omega) (by omega)
  have d23 := hV.2.2.2.2 2 3 (by omega) (by omega) (by omega)
  have key : ∀ (G : sm_G) (w : Nat), ((sm_up (sm_up G w 4 (i3 0)) w 5 (i3 0)) w 4 = i3 0 ∧ (sm_up (sm_up G w 4 (i3 0)) w 5 (i3 0)) w 5 = i3 0) ∧ ∀ r j, r ≠ w → (sm_up (sm_up G w 4 (i3 0)) w 5 (i3 0)) r j = G r j := fun G w => ⟨⟨by rw [sm_up_ne (by omega), sm_up_same], sm_up_same _ _ _ _⟩, fun r j y => by rw [sm_up_ne (by omega), sm_up_ne (by omega)]⟩
  rw [s_513n hV.1 (by omega), s_513n hV.1 (by omega), s_513n hV.1 (by omega), s_513n hV.1 (by omega), s_513e hV.1]
  have k0 := key G (V.2.2.2.2.2 0)
  generalize sm_up (sm_up G (V.2.2.2.2.2 0) 4 (i3 0)) (V.2.2.2.2.2 0) 5 (i3 0) = G0 at *
  have k1 := key G0 (V.2.2.2.2.2 (0 + 1))
  generalize sm_up (sm_up G0 (V.2.2.2.2.2 (0 + 1)) 4 (i3 0)) (V.2.2.2.2.2 (0 + 1)) 5 (i3 0) = G1 at *
  have k2 := key G1 (V.2.2.2.2.2 (0 + 1 + 1))
  generalize sm_up (sm_up G1 (V.2.2.2.2.2 (0 + 1 + 1)) 4 (i3 0)) (V.2.2.2.2.2 (0 + 1 + 1)) 5 (i3 0) = G2 at *
  have k3 := key G2 (V.2.2.2.2.2 (0 + 1 + 1 + 1))
  generalize sm_up (sm_up G2 (V.2.2.2.2.2 (0 + 1 + 1 + 1)) 4 (i3 0)) (V.2.2.2.2.2 (0 + 1 + 1 + 1)) 5 (i3 0) = G3 at *
  obtain ⟨a0, b0⟩ := k0
  obtain ⟨a1, b1⟩ := k1
  obtain ⟨a2, b2⟩ := k2
  obtain ⟨a3, b3⟩ := k3
  have hu : ∀ r j, ¬ (r = V.2.2.2.1 ∧ j = 2) → ¬ (r = 1 ∧ (j = 15 ∨ j = 17 ∨ j = 18)) → sm_up (sm_up (sm_up (sm_up G3 V.2.2.2.1 2 (i3 0)) 1 15 (i3 0)) 1 17 (i3 1)) 1 18 (i3 1) r j = G3 r j := fun r j y1 y2 => by rw [sm_up_ne (by omega), sm_up_ne (by omega), sm_up_ne (by omega), sm_up_ne (by omega)]
  have h3 : ∀ r j, ¬ ((6 ≤ r ∧ r ≤ 21) ∨ r = 145) → G3 r j = G r j := fun r j y => by
    rw [b3 r j (fun z => y (by rw [z]; exact hw3)), b2 r j (fun z => y (by rw [z]; exact hw2)), b1 r j (fun z => y (by rw [z]; exact hw1)), b0 r j (fun z => y (by rw [z]; exact hw0))]
  refine ⟨_, by rw [hu V.1 9 (by omega) (by omega), h3 _ _ (by omega)], fun i hi => ?_, ?_, ?_, ?_, sm_up_same _ _ _ _, fun r j y1 y2 y3 => by rw [hu r j y2 y3]; exact h3 r j y1⟩
  · have hwi := pW_lt (hV.1.2.2.2.2.2 i hi)
    rw [hu _ 4 (by omega) (by omega), hu _ 5 (by omega) (by omega)]
    have : i = 0 ∨ i = 0 + 1 ∨ i = 0 + 1 + 1 ∨ i = 0 + 1 + 1 + 1 := by omega
    rcases this with rfl | rfl | rfl | rfl
    · rw [b3 _ 4 d03, b3 _ 5 d03, b2 _ 4 d02, b2 _ 5 d02, b1 _ 4 d01, b1 _ 5 d01]; exact a0
    · rw [b3 _ 4 d13, b3 _ 5 d13, b2 _ 4 d12, b2 _ 5 d12]; exact a1
    · rw [b3 _ 4 d23, b3 _ 5 d23]; exact a2
    · exact a3
  · rw [sm_up_ne (by omega), sm_up_ne (by omega), sm_up_ne (by omega), sm_up_same]
  · rw [sm_up_ne (by omega), sm_up_ne (by omega), sm_up_same]
  · rw [sm_up_ne (by omega), sm_up_same]
theorem op_513 {d x : Nat} {V : pV} {G : sm_G} {L : sm_L} {v : Int32} (I : Inv V G) : OpW d x V G L 513 [.ref 1, .int v] 217 [.ref 156, .int v] eA := by
  have I0 := I
  obtain ⟨T, K, c, H, W, hS, hh, hn⟩ := I
  obtain ⟨nT, B, t1, t2, t3, t4⟩ := hS.t.B
  have hV := hS.1.1
  have hbk := pB_two hV.2.2.2.1 hV.2.2.2.2.1 hS.1.2.2.1
  have hs1 := pS_two hV.1 hV.2.1 hS.1.2.1
  have hwp := pW_lt hV.2.2.1
  obtain ⟨ec1, ec2⟩ := c_513 (d := d) (x := x) (V := V) (L := L) (v := v) t2
  by_cases hC : ¬ v < i3 0 ∧ v ≤ i3 nT
  · have ec := ec1 hC
    obtain ⟨k, rfl, hk⟩ := rngl (by omega) hC
    obtain ⟨X1, a1, a2, a3⟩ := s_134 (D := d + 59) (x := x) (V := V) (G := G) (L := L) (n := k) (B := B) (by omega) (by omega) (fun j hj => ⟨(t4 j (by omega)).1, (t4 j (by omega)).2.2⟩)
    obtain ⟨X2, b1, b2, b3, b4⟩ := s_120 (D := d + 59) (x := x) (V := V) (L := L) (B := B) (n := k) (s := V.2.1) (by omega) hV.2.1 a2
    obtain ⟨X3, e1, e2, e3, e4⟩ := s_30 (D := d + 59) (x := x) (V := V) (L := L) (by omega) b3
    have fX : ∀ r j, ¬ (r = 2) → ¬ (r = 1 ∧ j = 16) → ¬ (V.2.1 ≤ r ∧ r < V.2.1 + 18) → X3 r j = G r j := fun r j y1 y2 y3 => by
      rw [e4 r j (by omega) y2, b2 r j y3 (by omega), a3 r j (by omega)]
    have h7 : X3 2 7 = i3 (stF B k 61 (0, 0, sk B k 0) T0 T0).1.1 := by rw [e4 _ _ (by omega) (by omega)]; exact b3.2.2.2.1
    have hf3 := b3.2.1
    have q0 := q_1_0 V
    have q10 := q_1_10 V
    have q11 := q_1_11 V
    have ks := kS_0 hV.2.1
    have l1 : Nat.ble V.2.1 342 = true := by rw [Nat.ble_eq]; omega
    have l2 : Nat.ble V.1 342 = true := by rw [Nat.ble_eq]; omega
    rw [rh_513_24, q0, k_2, gd_tt, a1, aV_o, q11, ks, gd_tt, b1, aV_o, e1, aI_o, h7, q10, l1, gd_tt, l2, gd_tt, gd_tt, RR_st] at ec
    have ok := stF_ok (B := B) (n := k) 61 (0, 0, sk B k 0) T0 T0 (fun _ => ⟨okT_0, okP_0⟩)
    by_cases q : (stF B k 61 (0, 0, sk B k 0) T0 T0).1.1 = 0
    · obtain ⟨c1, c2, c3, c4⟩ := b4 q
      obtain ⟨o1, o2⟩ := ok q
      obtain ⟨X4, w1, w2, w3, w4, w5, w6, w7⟩ := s_513l (d := d + 58) (x := x) (V := vSt V) (G := X3) (L := L) (okV2_st hS.1)
      have f4 : ∀ r j, ¬ (r = 2) → ¬ (r = 1 ∧ 15 ≤ j) → ¬ (V.2.1 ≤ r ∧ r < V.2.1 + 18) → ¬ ((6 ≤ r ∧ r ≤ 21) ∨ r = 145) → ¬ (r = V.2.2.2.1 ∧ j = 2) → X4 r j = G r j := fun r j y1 y2 y3 y4 y5 => by
        rw [w7 r j y4 y5 (by omega), fX r j y1 (by omega) y3]
      obtain ⟨g, m1', m2, m3, m4, m5, m6, m7⟩ := m_street (d := d) (x := x) (V := vSt V) (X := X4) (L := L) (B := B) (nT := nT) (k := k) (by rw [f4 _ _ (by omega) (by omega) (by omega) (by omega) (by omega)]; exact t3) hC (by omega) (fun j hj => ⟨(t4 j (by omega)).1, by rw [f4 _ _ (by omega) (by omega) (by omega) (by omega) (by omega)]; exact (t4 j (by omega)).2.1⟩)
      rw [if_pos q] at m1'
      obtain ⟨p1, p2, p3, p4, p5, p6⟩ := m5 q
      have hx9 : X3 V.2.1 9 = i3 (sl (stF B k 61 (0, 0, sk B k 0) T0 T0).2.1) := by rw [e4 _ _ (by omega) (by omega)]; exact c1.1
      rw [if_pos q, if_pos rfl] at ec
      have w1 : hW (d + 59) 513 81 [.ref 1, .null, .null, .int (i3 0)] 342 (RR (vSt V)) x X3 L = wI (X3 V.2.1 9) 342 (RR (vSt V)) x X4 L := w1
      rw [w1, hx9] at ec
      have fs : ∀ r j, V.2.1 ≤ r → r < V.2.1 + 18 → g r j = X2 r j := fun r j y1 y2 => by
        rw [m7 r j (by omega), w7 r j (by omega) (by show ¬ (r = V.2.2.2.1 ∧ j = 2); omega) (by omega), e4 r j (by omega) (by omega)]
      refine Or.inl ⟨_, vSt V, X4, g, ec, m1', m2, (stF B k 61 (0, 0, sk B k 0) T0 T0).2.1, 0, 0, fun _ => (stF B k 61 (0, 0, sk B k 0) T0 T0).2.2, fun _ => T0, ?_, Or.inl (by rw [m7 _ _ (by omega)]; exact w5), Or.inl (by rw [m7 _ _ (by omega)]; exact w6)⟩
      refine ⟨okV2_st hS.1, o1, o2, Nat.two_pow_pos _, c1.keep (fun r j y => fs r j (by unfold inC at y; exact y.1) (by unfold inC at y; exact y.2)), c2.keep (fun r j y1 y2 => fs r j (by omega) (by omega)), p1, p2, ⟨0, by omega, ?_, m3, fun j hj => absurd hj (Nat.not_lt_zero j)⟩, ⟨fun j hj => ?_, ?_⟩, ⟨by omega, ?_, fun _ _ => o2, fun j hj => absurd hj (Nat.not_lt_zero j)⟩, ⟨p5, fun j hj => absurd hj (Nat.not_lt_zero j)⟩, ⟨0, by omega, ?_, p6, fun j hj => absurd hj (Nat.not_lt_zero j)⟩, ⟨0, by omega, ?_, p4, fun j hj => absurd hj (Nat.not_lt_zero j)⟩, fun e he => ⟨⟨Nat.zero_le 37, Nat.zero_le 40, Nat.zero_le 80, 0, cor_nil 0⟩, ⟨?_, ?_, fun j hj => absurd hj (Nat.not_lt_zero j)⟩, ⟨p3 e he, fun j hj => absurd hj (Nat.not_lt_zero j), fun j hj => absurd hj (Nat.not_lt_zero j)⟩⟩⟩
      · rw [m7 _ _ (by omega), w7 _ _ (by omega) (by show ¬ (2 = V.2.2.2.1 ∧ _); omega) (by omega)]; exact e2
      · rw [m7 _ _ (by omega), m7 _ _ (by omega), f4 _ _ (by omega) (by omega) (by omega) (by omega) (by omega), f4 _ _ (by omega) (by omega) (by omega) (by omega) (by omega)]
        exact hS.r.1 j hj
      · rw [m7 _ _ (by omega), w7 _ _ (by omega) (by show ¬ (1 = V.2.2.2.1 ∧ _); omega) (by omega), e3, m4]
      · show g (V.2.1 + 1) 10 = i3 0
        rw [fs _ _ (by omega) (by omega)]
        exact c3
      · rw [m7 _ _ (by omega)]; exact w4
      · show g V.2.2.2.1 2 = i3 0
        rw [m7 _ _ (by omega)]; exact w3
      · have hwe := pW_lt (hV.2.2.2.2.2 e he)
        show g (V.2.2.2.2.2 e) 4 = i3 0
        rw [m7 _ _ (by omega)]; exact (w2 e he).1
      · have hwe := pW_lt (hV.2.2.2.2.2 e he)
        show g (V.2.2.2.2.2 e) 5 = i3 0
        rw [m7 _ _ (by omega)]; exact (w2 e he).2
    · obtain ⟨g, m1', m2, m3, m4, m5, m6, m7⟩ := m_street (d := d) (x := x) (V := V) (X := X3) (L := L) (B := B) (nT := nT) (k := k) (by rw [fX _ _ (by omega) (by omega) (by omega)]; exact t3) hC (by omega) (fun j hj => ⟨(t4 j (by omega)).1, by rw [fX _ _ (by omega) (by omega) (by omega)]; exact (t4 j (by omega)).2.1⟩)
      rw [if_neg q] at m1'
      rw [if_neg q, if_neg (show ¬ i3 1 = i3 0 by decide)] at ec
      have fG : ∀ r j, ¬ scF V r j → g r j = G r j := fun r j y1 => by
        unfold scF at y1
        rw [m6 q r j (by omega) (by unfold inR; omega), fX r j (by omega) (by omega) (by omega)]
      have f17 : ∀ j, 17 ≤ j → g 1 j = G 1 j := fun j y => by rw [m7 _ _ (by omega), fX _ _ (by omega) (by omega) (by omega)]
      exact Or.inl ⟨_, V, X3, g, ec, m1', m2, Inv_bad hS hh hn fG (f17 17 (by omega)) (f17 18 (by omega)) ⟨by rw [m7 _ _ (by omega)]; exact e2, m3⟩ (by rw [m7 _ _ (by omega), e3, m4])⟩
  · have ec := ec2 hC
    have em := (c_217 (d := d) (x := x + 1) (V := V) (G := sm_up G 4 2 (G 4 2 + i3 1)) (L := L) (v := v) (n := nT) (by rw [sm_up_ne (by omega)]; exact t3)).2 hC
    exact Or.inr ⟨2, _, _, _, ec, em, noted_0, by decide, by decide, by decide, Inv_noted I0 (by decide)⟩
