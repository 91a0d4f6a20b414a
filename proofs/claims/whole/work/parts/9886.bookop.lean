/-! book -/
def bkC (v : Int32) (n : Nat) : Prop := ¬ v < i3 0 ∧ v ≤ i3 n ∧ v ≤ i3 150
theorem c_515 {d x : Nat} {V : pV} {G : sm_G} {L : sm_L} {v : Int32} {n : Nat} (hn : G 2 1 = i3 n) : (bkC v n → sm_cw (d + 60) 515 [.ref 1, .int v] (342, RR V, x, G, L) = hW (d + 59) 515 31 [.ref 1, .int v, .null] 342 (RR V) x G L) ∧ (¬ bkC v n → sm_cw (d + 60) 515 [.ref 1, .int v] (342, RR V, x, G, L) = wX 342 (RR V) 2 (x + 1) (sm_up G 4 2 (G 4 2 + i3 1)) L) := by
  have e1 := s_29 (d := d + 58) (x := x) (V := V) (G := G) (L := L) (b := true)
  have e0 := s_29 (d := d + 58) (x := x) (V := V) (G := G) (L := L) (b := false)
  rw [if_pos rfl] at e1
  rw [if_neg (by decide)] at e0
  have e1 : sm_cv0 (d + 59) 29 342 (RR V) [.ref 1, .int (i3 1)] (x, G, L) = oV x G L := e1
  have e0 : sm_cv0 (d + 59) 29 342 (RR V) [.ref 1, .int (i3 0)] (x, G, L) = oX 2 (x + 1) (sm_up G 4 2 (G 4 2 + i3 1)) L := e0
  have e2 : RR V 1 0 = 2 := q_1_0 V
  rw [rm_515, e2, k_2, gd_tt, hn, e0, e1, aV_o, aV_x]
  unfold bkC
  by_cases h1 : v < i3 0
  · rw [if_pos h1]
    exact ⟨fun y => absurd h1 y.1, fun _ => rfl⟩
  · rw [if_neg h1]
    by_cases h2 : v ≤ i3 n
    · rw [if_pos h2]
      by_cases h3 : v ≤ i3 150
      · rw [if_pos h3]
        exact ⟨fun _ => rfl, fun y => absurd ⟨h1, h2, h3⟩ y⟩
      · rw [if_neg h3]
        exact ⟨fun y => absurd y.2.2 h3, fun _ => rfl⟩
    · rw [if_neg h2]
      exact ⟨fun y => absurd y.2.1 h2, fun _ => rfl⟩
theorem c_244 {d x : Nat} {V : pV} {G : sm_G} {L : sm_L} {v : Int32} {n : Nat} (hn : G 156 1 = i3 n) : (bkC v n → sm_cv0 (d + 60) 244 342 (RR V) [.ref 156, .int v] (x, G, L) = sm_aV (sm_cv0 (d + 59) 220 342 (RR V) [.ref 156, .int v] (x, g00 G, L)) (fun x3 G3 L3 => hD (d + 59) 244 47 [.ref 156, .null, .int (i3 0), .null] 342 (RR V) x3 G3 L3) oX) ∧ (¬ bkC v n → sm_cv0 (d + 60) 244 342 (RR V) [.ref 156, .int v] (x, G, L) = oI (i3 0) x (noted G 1 2) L) := by
  have e1 := s_219b (d := d + 58) (x := x) (V := V) (G := g00 G) (L := L) (a := 1) (k := 2) (by decide) (by decide) (by decide) g00_0
  have e0 := s_219o (d := d + 58) (x := x) (V := V) (G := g00 G) (L := L) (v2 := i3 1) (v3 := i3 2) g00_0
  have e8 := s_218c (d := d + 58) (x := x) (V := V) (G := g00 G) (L := L) (v := v) (n := i3 n)
  have en : sm_up G 156 0 (i3 0) 156 1 = i3 n := by rw [sm_up_ne (by omega)]; exact hn
  rw [m_244, en, e8, aI_o, e1, e0, aI_o, aI_o, if_pos rfl, if_neg (show ¬ i3 1 = i3 0 by decide)]
  unfold bkC
  by_cases h1 : ¬ v < i3 0 ∧ v ≤ i3 n
  · rw [decide_eq_true h1, if_neg (show ¬ bi true = i3 0 by decide)]
    by_cases h3 : v ≤ i3 150
    · rw [if_pos h3]
      exact ⟨fun _ => rfl, fun y => absurd ⟨h1.1, h1.2, h3⟩ y⟩
    · rw [if_neg h3]
      exact ⟨fun y => absurd y.2.2 h3, fun _ => rfl⟩
  · rw [decide_eq_false h1, if_pos (show bi false = i3 0 by decide)]
    exact ⟨fun y => absurd ⟨y.1, y.2.1⟩ h1, fun _ => rfl⟩
theorem okBk_0 : okBk T0 0 := ⟨by omega, fun k h => absurd h (Nat.not_lt_zero k)⟩
theorem fM0 {X G : sm_G} (f : ∀ r j, 156 ≤ r → X r j = G r j) : ∀ r j, 156 ≤ r → g00 X r j = g00 G r j := fun r j y => by
  by_cases q : r = 156 ∧ j = 0
  · rw [q.1, q.2, g00_0, g00_0]
  · rw [g00_ne q, g00_ne q, f r j y]
theorem m_book {d x k nT : Nat} {V : pV} {X : sm_G} {L : sm_L} {B : Nat → Nat} (hn : X 156 1 = i3 nT) (hC : bkC (i3 k) nT) (hk : k ≤ 150) (hB : ∀ j, j < k → B j < 256 ∧ X 157 j = i3 (B j)) :
    ∃ g, sm_cv0 (d + 60) 244 342 (RR V) [.ref 156, .int (i3 k)] (x, X, L) = oI (if (bkF B k 13 0 (0, 0, sk B k 0) T0).2.1.1 = 0 then i3 (bkF B k 13 0 (0, 0, sk B k 0) T0).1 else i3 (bkF B k 13 0 (0, 0, sk B k 0) T0).2.1.1 - i3 10) x g L ∧ g 156 0 = i3 0 ∧ g 156 1 = i3 0 ∧ g 156 3 = mi (bkF B k 13 0 (0, 0, sk B k 0) T0).2.1.2.1 ∧
      ((bkF B k 13 0 (0, 0, sk B k 0) T0).2.1.1 = 0 → g 156 36 = i3 (bkF B k 13 0 (0, 0, sk B k 0) T0).1 ∧ ∀ i, i < (bkF B k 13 0 (0, 0, sk B k 0) T0).1 → g (253 + i) 1 = i3 ((bkF B k 13 0 (0, 0, sk B k 0) T0).2.2 1 i) ∧ g (253 + i) 0 = i3 ((bkF B k 13 0 (0, 0, sk B k 0) T0).2.2 2 i)) ∧
      ((bkF B k 13 0 (0, 0, sk B k 0) T0).2.1.1 ≠ 0 → ∀ r j, (r = 156 ∧ j = 36) ∨ (253 ≤ r ∧ r < 265) → g r j = X r j) ∧ ∀ r j, ¬ (r = 156 ∧ (j ≤ 8 ∨ j = 36)) → ¬ ((253 ≤ r ∧ r < 265) ∨ (266 ≤ r ∧ r < 278)) → g r j = X r j := by
  obtain ⟨g1, u1, u2, u3, u4, u5, u6⟩ := s_220 (D := d + 59) (x := x) (V := V) (G := g00 X) (L := L) (n := k) (B := B) (by omega) (by omega) (fun j hj => ⟨(hB j hj).1, by rw [g00_ne (by omega)]; exact (hB j hj).2⟩)
  obtain ⟨g2, z', w1, w2, w3, w4⟩ := s_244l (D := d + 59) (x := x) (V := V) (L := L) (B := B) (n := k) (by omega) 13 0 (0, 0, sk B k 0) T0 g1 (by omega) u2 (fun h => absurd h (by omega)) (fun _ => ⟨okBk_0, fun j h => absurd h (Nat.not_lt_zero j)⟩)
  have ok := bkF_ok (B := B) (n := k) 13 0 (0, 0, sk B k 0) T0 (fun _ => okBk_0)
  have hc3 := w3.2.1
  have f6 := w3.2.2.2.2.1
  have f5 := w3.2.2.2.1
  have f0 : g2 156 0 = i3 0 := by rw [w2 _ _ (by omega) (by omega), u6 _ _ (by omega)]; exact g00_0
  have f1 : g2 156 1 = i3 0 := by rw [w2 _ _ (by omega) (by omega)]; exact u3
  have ff : ∀ r j, ¬ (r = 156 ∧ j ≤ 8) → ¬ (266 ≤ r ∧ r < 278) → g2 r j = X r j := fun r j y1 y2 => by rw [w2 _ _ (by omega) y2, u6 _ _ (by omega), g00_ne (by omega)]
  generalize bkF B k 13 0 (0, 0, sk B k 0) T0 = F at *
  rw [(c_244 hn).1 hC, u1, aV_o, w1, h_244_195, sm_up_ne (by omega : (156 : Nat) ≠ 156 ∨ (5 : Nat) ≠ 3), f5, f6]
  by_cases q : F.2.1.1 = 0
  · obtain ⟨v1, v2⟩ := w4 q
    obtain ⟨hz, _⟩ := ok q
    rw [if_pos (show i3 F.2.1.1 = i3 0 by rw [q]), if_pos q, v1]
    rw [v1] at v2
    obtain ⟨g3, t1, t2, t3⟩ := s_214b (D := d + 59) (x := x) (V := V) (G := sm_up (sm_up g2 156 3 (mi F.2.1.2.1)) 156 36 (i3 F.1)) (L := L) (r0 := 265) (r1 := 252) (a := 266) (b := 253) (M := 12) (N := 2) (m := F.1) (by omega) hz (by omega) (by omega) (by omega) (fun k hk => ⟨rr_265 hk, rr_252 hk, kr_265 hk, nr_265 hk, kr_252 hk, nr_252 hk⟩) (by decide +kernel) (by decide +kernel) (by decide +kernel) (by decide +kernel)
    rw [t1, aV_o]
    refine ⟨g3, rfl, ?_, ?_, ?_, fun _ => ⟨?_, fun i hi => ⟨?_, ?_⟩⟩, fun y => absurd q y, fun r j y1 y2 => ?_⟩
    · rw [t3 _ _ (by omega), sm_up_ne (by omega), sm_up_ne (by omega)]; exact f0
    · rw [t3 _ _ (by omega), sm_up_ne (by omega), sm_up_ne (by omega)]; exact f1
    · rw [t3 _ _ (by omega), sm_up_ne (by omega), sm_up_same]
    · rw [t3 _ _ (by omega), sm_up_same]
    · rw [t2 i hi 1 (by omega), sm_up_ne (by omega), sm_up_ne (by omega)]; exact (v2 i hi).1
    · rw [t2 i hi 0 (by omega), sm_up_ne (by omega), sm_up_ne (by omega)]; exact (v2 i hi).2
    · rw [t3 _ _ (by omega), sm_up_ne (by omega), sm_up_ne (by omega)]; exact ff r j (by omega) (by omega)
  · rw [if_neg (show ¬ i3 F.2.1.1 = i3 0 by rw [i3_eq (by omega) (by omega)]; exact q), if_neg q]
    refine ⟨_, rfl, ?_, ?_, sm_up_same _ _ _ _, fun y => absurd y q, fun _ r j y => ?_, fun r j y1 y2 => ?_⟩
    · rw [sm_up_ne (by omega)]; exact f0
    · rw [sm_up_ne (by omega)]; exact f1
    · rw [sm_up_ne (by omega)]; exact ff r j (by omega) (by omega)
    · rw [sm_up_ne (by omega)]; exact ff r j (by omega) (by omega)
theorem op_515 {d x : Nat} {V : pV} {G : sm_G} {L : sm_L} {v : Int32} (I : Inv V G) : OpW d x V G L 515 [.ref 1, .int v] 244 [.ref 156, .int v] eA := by
  have I0 := I
  obtain ⟨T, K, c, H, W, hS, hh, hn⟩ := I
  obtain ⟨nT, B, t1, t2, t3, t4⟩ := hS.t.B
  have hV := hS.1.1
  have hbk := pB_two hV.2.2.2.1 hV.2.2.2.2.1 hS.1.2.2.1
  have hs1 := pS_two hV.1 hV.2.1 hS.1.2.1
  have hwp := pW_lt hV.2.2.1
  obtain ⟨ec1, ec2⟩ := c_515 (d := d) (x := x) (V := V) (L := L) (v := v) t2
  by_cases hC : bkC v nT
  · have ec := ec1 hC
    obtain ⟨k, rfl, hk⟩ := rngl (by omega) ⟨hC.1, hC.2.1⟩
    have hk150 : k ≤ 150 := by
      have := hC.2.2
      rw [i3_le (by omega) (by omega)] at this
      exact this
    obtain ⟨X1, a1, a2, a3⟩ := s_134 (D := d + 59) (x := x) (V := V) (G := G) (L := L) (n := k) (B := B) (by omega) (by omega) (fun j hj => ⟨(t4 j (by omega)).1, (t4 j (by omega)).2.2⟩)
    have r1 : rC (sm_up X1 V.2.2.2.2.1 2 (i3 0)) B k (0, 0, sk B k 0) := a2.keep (fun r j y => sm_up_ne (by omega))
    obtain ⟨X2, b1, b2, b3, b4⟩ := s_76l (D := d + 58) (x := x) (V := V) (L := L) (B := B) (n := k) (b := V.2.2.2.2.1) (by omega) hV.2.2.2.2.1 13 0 (0, 0, sk B k 0) T0 _ (by omega) r1 (fun _ => ⟨okBk_0, sm_up_same _ _ _ _, fun j h => absurd h (Nat.not_lt_zero j)⟩)
    obtain ⟨X3, e1, e2, e3, e4⟩ := s_30 (D := d + 59) (x := x) (V := V) (L := L) (by omega) b3
    have m76 : sm_cv0 (d + 59) 76 342 (RR V) [.ref V.2.2.2.2.1, .ref 2] (x, X1, L) = oV x X2 L := by
      rw [m_76 hV.2.2.2.2.1, m_75 hV.2.2.2.2.1, aV_o, b1]
    have fX : ∀ r j, ¬ (r = 2) → ¬ (r = 1 ∧ j = 16) → ¬ (V.2.2.2.2.1 ≤ r ∧ r < V.2.2.2.2.1 + 3) → X3 r j = G r j := fun r j y1 y2 y3 => by
      rw [e4 r j (by omega) y2, b2 r j y3 (by omega), sm_up_ne (by omega), a3 r j (by omega)]
    have h7 : X3 2 7 = i3 (bkF B k 13 0 (0, 0, sk B k 0) T0).2.1.1 := by rw [e4 _ _ (by omega) (by omega)]; exact b3.2.2.2.1
    have hf3 := b3.2.1
    have q0 := q_1_0 V
    have q14 := q_1_14 V
    have q13 := q_1_13 V
    have kb := kB_0 hV.2.2.2.2.1
    have hx1 : X3 156 1 = i3 nT := by rw [fX _ _ (by omega) (by omega) (by omega)]; exact t3
    rw [rh_515_31, q0, k_2, gd_tt, a1, aV_o, q14, kb, gd_tt, m76, aV_o, e1, aI_o, h7, q13] at ec
    obtain ⟨g, m1', m2, m3, m4, m5, m6, m7⟩ := m_book (d := d) (x := x) (V := if (bkF B k 13 0 (0, 0, sk B k 0) T0).2.1.1 = 0 then vBk V else V) (L := L) (B := B) hx1 hC hk150 (fun j hj => ⟨(t4 j (by omega)).1, by rw [fX _ _ (by omega) (by omega) (by omega)]; exact (t4 j (by omega)).2.1⟩)
    have ok := bkF_ok (B := B) (n := k) 13 0 (0, 0, sk B k 0) T0 (fun _ => okBk_0)
    generalize bkF B k 13 0 (0, 0, sk B k 0) T0 = F at *
    have g16 : g 1 16 = g 156 3 := by rw [m7 _ _ (by omega) (by omega), e3, m4]
    have f17 : ∀ j, 17 ≤ j → g 1 j = G 1 j := fun j y => by rw [m7 _ _ (by omega) (by omega), fX _ _ (by omega) (by omega) (by omega)]
    have g21 : g 2 1 = i3 0 := by rw [m7 _ _ (by omega) (by omega), e2]
    by_cases q : F.2.1.1 = 0
    · rw [if_pos q] at ec m1'
      rw [if_pos q] at m1'
      have l1 : Nat.ble V.2.2.2.2.1 342 = true := by rw [Nat.ble_eq]; omega
      have l2 : Nat.ble V.2.2.2.1 342 = true := by rw [Nat.ble_eq]; omega
      obtain ⟨c1, c2⟩ := b4 q
      obtain ⟨p1, p2⟩ := m5 q
      obtain ⟨o1, o2⟩ := ok q
      have hx2 : X3 V.2.2.2.2.1 2 = i3 F.1 := by rw [e4 _ _ (by omega) (by omega)]; exact c1
      rw [if_pos rfl, l1, gd_tt, l2, gd_tt, gd_tt, RR_bk, hx2] at ec
      have fG : ∀ r j, ¬ scF V r j → ¬ (r = 156 ∧ j = 36) → ¬ (253 ≤ r ∧ r < 265) → g r j = G r j := fun r j y1 y2 y3 => by
        unfold scF at y1
        rw [m7 r j (by omega) (by omega), fX r j (by omega) (by omega) (by omega)]
      refine Or.inl ⟨_, vBk V, X3, g, ec, m1', m2, T, K, c, H, W, ?_, ?_, ?_⟩
      · obtain ⟨h1, h2, h3, h4, h5, h6, h7', h8, h9, h10, h11, h12, h13, h14, h15⟩ := hS
        have fG2 := fG
        unfold scF at fG2
        have fW : ivW g V T W := by
          intro e he
          obtain ⟨w1, w2, w3⟩ := h15 e he
          have hwe := pW_lt (hV.2.2.2.2.2 e he)
          have hwd := pW_two (hV.2.2.2.2.2 e he) hV.2.2.1 (h1.2.2.2.1 e he)
          exact ⟨w1, w2.keep (fun r k a b => fG2 r k (by omega) (by omega) (by omega)), w3.keep he (fun r k a => fG2 r k (by omega) (by omega) (by omega))⟩
        refine ⟨okV2_bk h1, h2, h3, h4, h5.keep (fun r k a => fG2 r k (by unfold inC at a; omega) (by unfold inC at a; omega) (by unfold inC at a; omega)), h6.keep (fun r k a b => fG2 r k (by omega) (by omega) (by omega)), h7'.keep h2 h3 (fun r k a => fG2 r k (by unfold inM at a; omega) (by unfold inM at a; omega) (by unfold inM at a; omega)), fun k hk => by rw [fG2 _ _ (by omega) (by omega) (by omega)]; exact h8 k hk, ⟨0, by omega, g21, m3, fun k hk => absurd hk (Nat.not_lt_zero k)⟩, ⟨fun k hk => by rw [fG2 4 k (by omega) (by omega) (by omega), fG2 158 k (by omega) (by omega) (by omega)]; exact h10.1 k hk, g16⟩, h11.keep (fun r k a b => fG2 r k (by omega) (by omega) (by omega)), h12.keep h11.1 (fun r k a => fG2 r k (by omega) (by omega) (by omega)), h13.keep (fun r k a => fG2 r k (by omega) (by omega) (by omega)), ⟨F.1, o1, ?_, p1, fun i hi => ⟨F.2.2 1 i, F.2.2 2 i, (o2 i hi).1, (o2 i hi).2, ?_, ?_, (p2 i hi).1, (p2 i hi).2⟩⟩, fW⟩
        · show g V.2.2.2.2.1 2 = i3 F.1
          rw [m7 _ _ (by omega) (by omega)]
          exact hx2
        · show g (V.2.2.2.2.1 + 1) i = _
          rw [m7 _ _ (by omega) (by omega), e4 _ _ (by omega) (by omega)]
          exact (c2 i hi).1
        · show g (V.2.2.2.2.1 + 2) i = _
          rw [m7 _ _ (by omega) (by omega), e4 _ _ (by omega) (by omega)]
          exact (c2 i hi).2
      · unfold scF at fG
        exact hh.keep (f17 17 (by omega)) (fun r k a b => fG r k (by omega) (by omega) (by omega))
      · unfold scF at fG
        exact hn.keep hS.2.1 (f17 18 (by omega)) (fun r k a b => fG r k (by omega) (by omega) (by omega))
    · rw [if_neg q] at ec m1'
      rw [if_neg q] at m1'
      rw [if_neg (show ¬ i3 1 = i3 0 by decide), gd_tt] at ec
      have fG : ∀ r j, ¬ scF V r j → g r j = G r j := fun r j y1 => by
        unfold scF at y1
        by_cases y : (r = 156 ∧ j = 36) ∨ (253 ≤ r ∧ r < 265)
        · rw [m6 q r j y, fX r j (by omega) (by omega) (by omega)]
        · rw [m7 r j (by omega) (by omega), fX r j (by omega) (by omega) (by omega)]
      exact Or.inl ⟨_, V, X3, g, ec, m1', m2, Inv_bad hS hh hn fG (f17 17 (by omega)) (f17 18 (by omega)) ⟨g21, m3⟩ g16⟩
  · have ec := ec2 hC
    have em := (c_244 (d := d) (x := x + 1) (V := V) (G := sm_up G 4 2 (G 4 2 + i3 1)) (L := L) (v := v) (n := nT) (by rw [sm_up_ne (by omega)]; exact t3)).2 hC
    exact Or.inr ⟨2, _, _, _, ec, em, noted_0, by decide, by decide, by decide, Inv_noted I0 (by decide)⟩
