/-! a street as it is read, the model: the other clauses -/
theorem dec_sw {a b : Nat} (ha : a < 2147483648) (hb : b < 2147483648) : decide (i3 a = i3 b) = decide (b = a) := by
  by_cases q : b = a
  · rw [decide_eq_true q, decide_eq_true (by rw [q])]
  · rw [decide_eq_false q, decide_eq_false (by rw [i3_eq ha hb]; omega)]
theorem dec_m1 {a : Nat} (ha : a < 2147483648) : decide (i3 a = m1) = false := decide_eq_false (by rw [i3_nm1 ha]; exact not_false)
theorem cM_5 {D x cnt : Nat} {V : pV} {G : sm_G} {L : sm_L} {B : Nat → Nat} {n : Nat} {c : St} {T P : pT} (hD0 : 6 ≤ D) (hr : rE G B n c) (q : c.1 = 0) (h7 : G 156 7 = i3 cnt) (hT : okT T) (hP : okP T P) (hm : mHr G T P) : ∃ G', hD D 223 48 [.ref 156, .int (i3 5), .null, .null] 342 (RR V) x G L = oV x G' L ∧ mfS G G' ∧ rM G' B n (mkS B n (0, 0, sk B n (we B n c.2.2))).2 ∧ G' 156 7 = i3 (cnt + 1) ∧ ((mkS B n (0, 0, sk B n (we B n c.2.2))).2.1 = 0 → mHr G' (tMi T (mkS B n (0, 0, sk B n (we B n c.2.2))).1) P) := by
  have hB := hT.gb
  have hB2 := hP.gb
  obtain ⟨G1, e1, e7, r0, m0, f0⟩ := m_beg (x := x) (V := V) (L := L) (D := D) (by omega) hr q h7 hT hP hm
  rw [h_223_48, hr.2.2.2.1, if_pos (by rw [q]), e1, aV_o, if_neg (show ¬ i3 5 = i3 0 by decide), if_neg (show ¬ i3 5 = i3 1 by decide), if_neg (show ¬ i3 5 = i3 2 by decide), if_neg (show ¬ i3 5 = i3 3 by decide), if_neg (show ¬ i3 5 = i3 4 by decide), if_pos rfl, e7, i3_add]
  have e72 : sm_up G1 156 7 (i3 (cnt + 1)) 156 7 = i3 (cnt + 1) := sm_up_same _ _ _ _
  generalize sm_up G1 156 7 (i3 (cnt + 1)) = G2 at *
  generalize (0, 0, sk B n (we B n c.2.2)) = c0 at r0 ⊢
  obtain ⟨G3, u1, f1, r1⟩ := nuM (D := D) (x := x) (V := V) (L := L) 0 301 (by omega) r0 (by omega) (by omega) rfl mi_300
  rw [u1, aI_o]
  unfold mkS
  generalize nuS B n 0 301 c0 = q1 at *
  obtain ⟨G6, u4, r4, f4⟩ := m_end5 (D := D) (x := x) (V := V) (L := L) (k := 5) (G := sm_up G3 159 5 (i3 q1.1)) (by omega) (r1.keep (fun r k w => sm_up_ne (by omega))) (by omega) (by omega)
  have ff : ∀ r k, ¬ (r = 156 ∧ 4 ≤ k ∧ k ≤ 6) → ¬ (r = 159 ∧ k = 5) → G6 r k = G2 r k := fun r k w1 w2 => by
    rw [f4 r k w1, sm_up_ne (by omega), f1 r k w1]
  have z0 : G6 159 5 = i3 q1.1 := by rw [f4 _ _ (by omega), sm_up_same]
  obtain ⟨a1, a2, a3, a4, a5, a6, a7, a8, a9, a10, a11, a12⟩ := m0
  refine ⟨G6, u4, fun r k w1 w2 => by unfold inR at w2; rw [ff r k (by omega) (by omega)]; exact f0 r k w1 (by unfold inR; exact w2), r4, by rw [ff _ _ (by omega) (by omega)]; exact e72, fun z => ⟨by rw [ff _ _ (by omega) (by omega)]; exact a1, ?_, ?_, ?_, ?_, ?_, fun k hk => ?_, fun k hk => ?_, fun k hk => ?_, fun k hk => ?_, fun k hk => ?_, fun k hk => ?_⟩⟩
  · rw [ff _ _ (by omega) (by omega)]; exact a2
  · rw [ff _ _ (by omega) (by omega)]; exact a3
  · rw [ff _ _ (by omega) (by omega)]; exact a4
  · rw [ff _ _ (by omega) (by omega)]; exact a5
  · rw [z0]; exact (mi_succ q1.1).symm
  · rw [ff _ _ (by omega) (by omega)]; exact a7 k hk
  · rw [ff _ _ (by omega) (by omega)]; exact a8 k hk
  · have hk : k < sl T := hk
    rw [ff _ _ (by omega) (by omega), ff _ _ (by omega) (by omega), ff _ _ (by omega) (by omega)]; exact a9 k hk
  · have hk : k < dn T := hk
    rw [ff _ _ (by omega) (by omega), ff _ _ (by omega) (by omega), ff _ _ (by omega) (by omega)]; exact a10 k hk
  · have hk : k < nn P := hk
    rw [ff _ _ (by omega) (by omega), ff _ _ (by omega) (by omega)]; exact a11 k hk
  · have hk : k < dr T := hk
    rw [ff _ _ (by omega) (by omega), ff _ _ (by omega) (by omega)]; exact a12 k hk
theorem cM_6 {D x cnt : Nat} {V : pV} {G : sm_G} {L : sm_L} {B : Nat → Nat} {n : Nat} {c : St} {T P : pT} (hD0 : 6 ≤ D) (hr : rE G B n c) (q : c.1 = 0) (h7 : G 156 7 = i3 cnt) (hT : okT T) (hP : okP T P) (hm : mHr G T P) : ∃ G', hD D 223 48 [.ref 156, .int (i3 6), .null, .null] 342 (RR V) x G L = oV x G' L ∧ mfS G G' ∧ rM G' B n (tuS B n (dn T) (0, 0, sk B n (we B n c.2.2))).2 ∧ G' 156 7 = i3 (cnt + 1) ∧ ((tuS B n (dn T) (0, 0, sk B n (we B n c.2.2))).2.1 = 0 → mHr G' (tTu T (tuS B n (dn T) (0, 0, sk B n (we B n c.2.2))).1.1 (tuS B n (dn T) (0, 0, sk B n (we B n c.2.2))).1.2) P) := by
  have hB := hT.gb
  have hB2 := hP.gb
  obtain ⟨G1, e1, e7, r0, m0, f0⟩ := m_beg (x := x) (V := V) (L := L) (D := D) (by omega) hr q h7 hT hP hm
  rw [h_223_48, hr.2.2.2.1, if_pos (by rw [q]), e1, aV_o, if_neg (show ¬ i3 6 = i3 0 by decide), if_neg (show ¬ i3 6 = i3 1 by decide), if_neg (show ¬ i3 6 = i3 2 by decide), if_neg (show ¬ i3 6 = i3 3 by decide), if_neg (show ¬ i3 6 = i3 4 by decide), if_neg (show ¬ i3 6 = i3 5 by decide), e7, i3_add]
  have e72 : sm_up G1 156 7 (i3 (cnt + 1)) 156 7 = i3 (cnt + 1) := sm_up_same _ _ _ _
  generalize sm_up G1 156 7 (i3 (cnt + 1)) = G2 at *
  generalize (0, 0, sk B n (we B n c.2.2)) = c0 at r0 ⊢
  obtain ⟨G3, u1, f1, r1⟩ := nuM (D := D) (x := x) (V := V) (L := L) 0 6 (by omega) r0 (by omega) (by omega) rfl mi_5
  have h10 : G3 159 1 = i3 (dn T) := by rw [f1 _ _ (by omega)]; exact m0.2.1
  obtain ⟨G4, u2, f2, r2⟩ := nuM (D := D) (x := x) (V := V) (L := L) 0 (dn T) (by omega) r1 (by omega) (by omega) rfl (pre_mi3 (by omega))
  have b1 : (nuS B n 0 6 c0).1 < 6 := by rcases nuS_v (B := B) (n := n) (lo := 0) (h := 6) (c := c0) with z | z <;> omega
  have b2 : (nuS B n 0 (dn T) (nuS B n 0 6 c0).2).1 < 10 := by rcases nuS_v (B := B) (n := n) (lo := 0) (h := dn T) (c := (nuS B n 0 6 c0).2) with z | z <;> omega
  rw [u1, aI_o, h10, u2, aI_o, r2.2.2.2.1]
  unfold tuS
  generalize nuS B n 0 6 c0 = q1 at *
  generalize nuS B n 0 (dn T) q1.2 = q2 at *
  have fq : ∀ r k, ¬ (r = 156 ∧ 4 ≤ k ∧ k ≤ 6) → G4 r k = G2 r k := fun r k w => by rw [f2 r k w, f1 r k w]
  by_cases y : q2.2.1 = 0
  · have etu : G4 163 q1.1 = i3 (tu T q1.1) := by rw [fq _ _ (by omega)]; exact m0.2.2.2.2.2.2.2.1 _ b1
    rw [if_pos (by rw [y]), i3_in (by omega) b1, gd_tt, gd_tt, i3_cl (by omega), etu, i3_shl (by omega), i3_or]
    obtain ⟨G6, u4, r4, f4⟩ := m_end5 (D := D) (x := x) (V := V) (L := L) (k := 6) (G := sm_up G4 163 q1.1 (i3 (tu T q1.1 ||| 1 <<< q2.1))) (by omega) (r2.keep (fun r k w => sm_up_ne (by omega))) (by omega) (by omega)
    have ff : ∀ r k, ¬ (r = 156 ∧ 4 ≤ k ∧ k ≤ 6) → ¬ (r = 163 ∧ k = q1.1) → G6 r k = G2 r k := fun r k w1 w2 => by
      rw [f4 r k w1, sm_up_ne (by omega), fq r k w1]
    have z0 : G6 163 q1.1 = i3 (tu T q1.1 ||| 1 <<< q2.1) := by rw [f4 _ _ (by omega), sm_up_same]
    obtain ⟨a1, a2, a3, a4, a5, a6, a7, a8, a9, a10, a11, a12⟩ := m0
    refine ⟨G6, u4, fun r k w1 w2 => by unfold inR at w2; rw [ff r k (by omega) (by omega)]; exact f0 r k w1 (by unfold inR; exact w2), r4, by rw [ff _ _ (by omega) (by omega)]; exact e72, fun z => ⟨by rw [ff _ _ (by omega) (by omega)]; exact a1, ?_, ?_, ?_, ?_, ?_, fun k hk => ?_, fun k hk => ?_, fun k hk => ?_, fun k hk => ?_, fun k hk => ?_, fun k hk => ?_⟩⟩
    · rw [ff _ _ (by omega) (by omega)]; exact a2
    · rw [ff _ _ (by omega) (by omega)]; exact a3
    · rw [ff _ _ (by omega) (by omega)]; exact a4
    · rw [ff _ _ (by omega) (by omega)]; exact a5
    · rw [ff _ _ (by omega) (by omega)]; exact a6
    · rw [ff _ _ (by omega) (by omega)]; exact a7 k hk
    · show _ = i3 (upn T 6 q1.1 (tu T q1.1 ||| 1 <<< q2.1) 6 k)
      by_cases w : k = q1.1
      · rw [w, upn_same]; exact z0
      · rw [upn_ne (by omega), ff _ _ (by omega) (by omega)]; exact a8 k hk
    · have hk : k < sl T := hk
      rw [ff _ _ (by omega) (by omega), ff _ _ (by omega) (by omega), ff _ _ (by omega) (by omega)]; exact a9 k hk
    · have hk : k < dn T := hk
      rw [ff _ _ (by omega) (by omega), ff _ _ (by omega) (by omega), ff _ _ (by omega) (by omega)]; exact a10 k hk
    · have hk : k < nn P := hk
      rw [ff _ _ (by omega) (by omega), ff _ _ (by omega) (by omega)]; exact a11 k hk
    · have hk : k < dr T := hk
      rw [ff _ _ (by omega) (by omega), ff _ _ (by omega) (by omega)]; exact a12 k hk
  · obtain ⟨G6, u4, r4, f4⟩ := m_end5 (D := D) (x := x) (V := V) (L := L) (k := 6) (G := G4) (by omega) r2 (by omega) (by omega)
    rw [if_neg (by rw [i3_eq (by have := r2.2.1; omega) (by omega)]; exact y)]
    refine ⟨G6, u4, fun r k w1 w2 => by rw [f4 r k (by omega), fq r k (by omega)]; exact f0 r k w1 w2, r4, by rw [f4 _ _ (by omega), fq _ _ (by omega)]; exact e72, fun z => absurd (sgS_ok z).1 y⟩
theorem cM_2 {D x cnt : Nat} {V : pV} {G : sm_G} {L : sm_L} {B : Nat → Nat} {n : Nat} {c : St} {T P : pT} (hD0 : 6 ≤ D) (hr : rE G B n c) (q : c.1 = 0) (h7 : G 156 7 = i3 cnt) (hT : okT T) (hP : okP T P) (hm : mHr G T P) (h12 : nn P < 12) : ∃ G', hD D 223 48 [.ref 156, .int (i3 2), .null, .null] 342 (RR V) x G L = oV x G' L ∧ mfS G G' ∧ rM G' B n (noS B n (0, 0, sk B n (we B n c.2.2))).2 ∧ G' 156 7 = i3 (cnt + 1) ∧ ((noS B n (0, 0, sk B n (we B n c.2.2))).2.1 = 0 → mHr G' T (pNo P (noS B n (0, 0, sk B n (we B n c.2.2))).1.1 (noS B n (0, 0, sk B n (we B n c.2.2))).1.2)) := by
  have hB := hT.gb
  have hB2 := hP.gb
  obtain ⟨G1, e1, e7, r0, m0, f0⟩ := m_beg (x := x) (V := V) (L := L) (D := D) (by omega) hr q h7 hT hP hm
  rw [h_223_48, hr.2.2.2.1, if_pos (by rw [q]), e1, aV_o, if_neg (show ¬ i3 2 = i3 0 by decide), if_neg (show ¬ i3 2 = i3 1 by decide), if_pos rfl, e7, i3_add]
  have e72 : sm_up G1 156 7 (i3 (cnt + 1)) 156 7 = i3 (cnt + 1) := sm_up_same _ _ _ _
  generalize sm_up G1 156 7 (i3 (cnt + 1)) = G2 at *
  generalize (0, 0, sk B n (we B n c.2.2)) = c0 at r0 ⊢
  obtain ⟨G3, u1, f1, r1⟩ := nuM (D := D) (x := x) (V := V) (L := L) 0 301 (by omega) r0 (by omega) (by omega) rfl mi_300
  rw [m0.2.2.1, i3_in (by omega) h12, gd_tt, i3_cl (by omega), rr_205 h12, kr_205 h12, nr_205 h12, u1, aI_o, gd_tt, i3_in (by omega) (by omega), gd_tt]
  obtain ⟨G4, u2, f2, r2⟩ := nuM (D := D) (x := x) (V := V) (L := L) 0 6 (by omega) (r1.keep (g' := sm_up G3 (206 + nn P) 0 (i3 (nuS B n 0 301 c0).1)) (fun r k w => sm_up_ne (by omega))) (by omega) (by omega) rfl mi_5
  rw [u2, aI_o, gd_tt, i3_in (by omega) (by omega), gd_tt]
  unfold noS
  generalize nuS B n 0 301 c0 = q1 at *
  generalize nuS B n 0 6 q1.2 = q2 at *
  obtain ⟨G6, u4, r4, f4, c4⟩ := m_end (D := D) (x := x) (V := V) (L := L) (k := 2) (m := nn P) (G := sm_up G4 (206 + nn P) 1 (i3 q2.1)) (by omega) (r2.keep (fun r k w => sm_up_ne (by omega))) (by omega) (by rw [sm_up_ne (by omega), f2 _ _ (by omega), sm_up_ne (by omega), f1 _ _ (by omega)]; exact m0.2.2.1)
  have ff : ∀ r k, ¬ (r = 156 ∧ 4 ≤ k ∧ k ≤ 6) → ¬ ((r = 159 ∧ k = 2) ∨ (r = 206 + nn P ∧ k ≤ 1)) → G6 r k = G2 r k := fun r k w1 w2 => by
    rw [f4 r k w1 (by omega), sm_up_ne (by omega), f2 r k w1, sm_up_ne (by omega), f1 r k w1]
  have z0 : G6 (206 + nn P) 0 = i3 q1.1 := by rw [f4 _ _ (by omega) (by omega), sm_up_ne (by omega), f2 _ _ (by omega), sm_up_same]
  have z1 : G6 (206 + nn P) 1 = i3 q2.1 := by rw [f4 _ _ (by omega) (by omega), sm_up_same]
  obtain ⟨a1, a2, a3, a4, a5, a6, a7, a8, a9, a10, a11, a12⟩ := m0
  refine ⟨G6, u4, fun r k w1 w2 => by unfold inR at w2; rw [ff r k (by omega) (by omega)]; exact f0 r k w1 (by unfold inR; exact w2), r4, by rw [ff _ _ (by omega) (by omega)]; exact e72, fun z => ⟨by rw [ff _ _ (by omega) (by omega)]; exact a1, ?_, ?_, ?_, ?_, ?_, fun k hk => ?_, fun k hk => ?_, fun k hk => ?_, fun k hk => ?_, fun k hk => ?_, fun k hk => ?_⟩⟩
  · rw [ff _ _ (by omega) (by omega)]; exact a2
  · exact c4 (sgS_ok z).1
  · rw [ff _ _ (by omega) (by omega)]; exact a4
  · rw [ff _ _ (by omega) (by omega)]; exact a5
  · rw [ff _ _ (by omega) (by omega)]; exact a6
  · rw [ff _ _ (by omega) (by omega)]; exact a7 k hk
  · rw [ff _ _ (by omega) (by omega)]; exact a8 k hk
  · have hk : k < sl T := hk
    rw [ff _ _ (by omega) (by omega), ff _ _ (by omega) (by omega), ff _ _ (by omega) (by omega)]; exact a9 k hk
  · have hk : k < dn T := hk
    rw [ff _ _ (by omega) (by omega), ff _ _ (by omega) (by omega), ff _ _ (by omega) (by omega)]; exact a10 k hk
  · have hk : k < nn P + 1 := hk
    show _ = i3 (upn (upn (upn P 0 0 (nn P + 1)) 1 (nn P) q1.1) 2 (nn P) q2.1 1 k) ∧ _ = i3 (upn (upn (upn P 0 0 (nn P + 1)) 1 (nn P) q1.1) 2 (nn P) q2.1 2 k)
    rw [upn_ne (by omega : (1 : Nat) ≠ 2 ∨ _)]
    by_cases w : k = nn P
    · rw [w, upn_same, upn_same]; exact ⟨z0, z1⟩
    · rw [upn_ne (by omega), upn_ne (by omega), upn_ne (by omega), upn_ne (by omega), upn_ne (by omega), ff _ _ (by omega) (by omega), ff _ _ (by omega) (by omega)]; exact a11 k (by omega)
  · have hk : k < dr T := hk
    rw [ff _ _ (by omega) (by omega), ff _ _ (by omega) (by omega)]; exact a12 k hk
theorem cM_4 {D x cnt : Nat} {V : pV} {G : sm_G} {L : sm_L} {B : Nat → Nat} {n : Nat} {c : St} {T P : pT} (hD0 : 6 ≤ D) (hr : rE G B n c) (q : c.1 = 0) (h7 : G 156 7 = i3 cnt) (hT : okT T) (hP : okP T P) (hm : mHr G T P) (h4 : dr T < 4) : ∃ G', hD D 223 48 [.ref 156, .int (i3 4), .null, .null] 342 (RR V) x G L = oV x G' L ∧ mfS G G' ∧ rM G' B n (drS B n (sl T) (0, 0, sk B n (we B n c.2.2))).2 ∧ G' 156 7 = i3 (cnt + 1) ∧ ((drS B n (sl T) (0, 0, sk B n (we B n c.2.2))).2.1 = 0 → mHr G' (tDr T (drS B n (sl T) (0, 0, sk B n (we B n c.2.2))).1.1 (drS B n (sl T) (0, 0, sk B n (we B n c.2.2))).1.2) P) := by
  have hB := hT.gb
  have hB2 := hP.gb
  obtain ⟨G1, e1, e7, r0, m0, f0⟩ := m_beg (x := x) (V := V) (L := L) (D := D) (by omega) hr q h7 hT hP hm
  rw [h_223_48, hr.2.2.2.1, if_pos (by rw [q]), e1, aV_o, if_neg (show ¬ i3 4 = i3 0 by decide), if_neg (show ¬ i3 4 = i3 1 by decide), if_neg (show ¬ i3 4 = i3 2 by decide), if_neg (show ¬ i3 4 = i3 3 by decide), if_pos rfl, e7, i3_add]
  have e72 : sm_up G1 156 7 (i3 (cnt + 1)) 156 7 = i3 (cnt + 1) := sm_up_same _ _ _ _
  generalize sm_up G1 156 7 (i3 (cnt + 1)) = G2 at *
  generalize (0, 0, sk B n (we B n c.2.2)) = c0 at r0 ⊢
  obtain ⟨G3, u1, f1, r1⟩ := s_234 (D := D) (x := x) (V := V) (L := L) (w := m1) (by omega) r0 m0.1 hB.1
  have b1 : (nuS B n 0 (sl T) c0).1 < 9 := by rcases nuS_v (B := B) (n := n) (lo := 0) (h := sl T) (c := c0) with z | z <;> omega
  rw [dec_m1 (by omega), rgS_f] at r1
  rw [m0.2.2.2.2.1, i3_in (by omega) h4, gd_tt, i3_cl (by omega), rr_231 h4, kr_231 h4, nr_231 h4, u1, aI_o, gd_tt, i3_in (by omega) (by omega), gd_tt]
  obtain ⟨G4, u2, f2, r2⟩ := nuM (D := D) (x := x) (V := V) (L := L) 0 301 (by omega) (r1.keep (g' := sm_up G3 (232 + dr T) 0 (i3 (nuS B n 0 (sl T) c0).1)) (fun r k w => sm_up_ne (by omega))) (by omega) (by omega) rfl mi_300
  rw [u2, aI_o, gd_tt, i3_in (by omega) (by omega), gd_tt]
  unfold drS
  generalize nuS B n 0 (sl T) c0 = q1 at *
  generalize nuS B n 0 301 q1.2 = q2 at *
  obtain ⟨G6, u4, r4, f4, c4⟩ := m_end (D := D) (x := x) (V := V) (L := L) (k := 4) (m := dr T) (G := sm_up G4 (232 + dr T) 1 (i3 q2.1)) (by omega) (r2.keep (fun r k w => sm_up_ne (by omega))) (by omega) (by rw [sm_up_ne (by omega), f2 _ _ (by omega), sm_up_ne (by omega), f1 _ _ (by omega)]; exact m0.2.2.2.2.1)
  have ff : ∀ r k, ¬ (r = 156 ∧ 4 ≤ k ∧ k ≤ 6) → ¬ ((r = 159 ∧ k = 4) ∨ (r = 232 + dr T ∧ k ≤ 1)) → G6 r k = G2 r k := fun r k w1 w2 => by
    rw [f4 r k w1 (by omega), sm_up_ne (by omega), f2 r k w1, sm_up_ne (by omega), f1 r k w1]
  have z0 : G6 (232 + dr T) 0 = i3 q1.1 := by rw [f4 _ _ (by omega) (by omega), sm_up_ne (by omega), f2 _ _ (by omega), sm_up_same]
  have z1 : G6 (232 + dr T) 1 = i3 q2.1 := by rw [f4 _ _ (by omega) (by omega), sm_up_same]
  obtain ⟨a1, a2, a3, a4, a5, a6, a7, a8, a9, a10, a11, a12⟩ := m0
  refine ⟨G6, u4, fun r k w1 w2 => by unfold inR at w2; rw [ff r k (by omega) (by omega)]; exact f0 r k w1 (by unfold inR; exact w2), r4, by rw [ff _ _ (by omega) (by omega)]; exact e72, fun z => ⟨by rw [ff _ _ (by omega) (by omega)]; exact a1, ?_, ?_, ?_, ?_, ?_, fun k hk => ?_, fun k hk => ?_, fun k hk => ?_, fun k hk => ?_, fun k hk => ?_, fun k hk => ?_⟩⟩
  · rw [ff _ _ (by omega) (by omega)]; exact a2
  · rw [ff _ _ (by omega) (by omega)]; exact a3
  · rw [ff _ _ (by omega) (by omega)]; exact a4
  · exact c4 (sgS_ok z).1
  · rw [ff _ _ (by omega) (by omega)]; exact a6
  · rw [ff _ _ (by omega) (by omega)]; exact a7 k hk
  · rw [ff _ _ (by omega) (by omega)]; exact a8 k hk
  · have hk : k < sl T := hk
    rw [ff _ _ (by omega) (by omega), ff _ _ (by omega) (by omega), ff _ _ (by omega) (by omega)]; exact a9 k hk
  · have hk : k < dn T := hk
    rw [ff _ _ (by omega) (by omega), ff _ _ (by omega) (by omega), ff _ _ (by omega) (by omega)]; exact a10 k hk
  · have hk : k < nn P := hk
    rw [ff _ _ (by omega) (by omega), ff _ _ (by omega) (by omega)]; exact a11 k hk
  · have hk : k < dr T + 1 := hk
    show _ = i3 (upn (upn (upn T 0 3 (dr T + 1)) 7 (dr T) q1.1) 8 (dr T) q2.1 7 k) ∧ _ = i3 (upn (upn (upn T 0 3 (dr T + 1)) 7 (dr T) q1.1) 8 (dr T) q2.1 8 k)
    rw [upn_ne (by omega : (7 : Nat) ≠ 8 ∨ _)]
    by_cases w : k = dr T
    · rw [w, upn_same, upn_same]; exact ⟨z0, z1⟩
    · rw [upn_ne (by omega), upn_ne (by omega), upn_ne (by omega), upn_ne (by omega), upn_ne (by omega), ff _ _ (by omega) (by omega), ff _ _ (by omega) (by omega)]; exact a12 k (by omega)
theorem cM_1 {D x cnt : Nat} {V : pV} {G : sm_G} {L : sm_L} {B : Nat → Nat} {n : Nat} {c : St} {T P : pT} (hD0 : 6 ≤ D) (hr : rE G B n c) (q : c.1 = 0) (h7 : G 156 7 = i3 cnt) (hT : okT T) (hP : okP T P) (hm : mHr G T P) (h10 : dn T < 10) : ∃ G', hD D 223 48 [.ref 156, .int (i3 1), .null, .null] 342 (RR V) x G L = oV x G' L ∧ mfS G G' ∧ rM G' B n (doS B n (sl T) (0, 0, sk B n (we B n c.2.2))).2 ∧ G' 156 7 = i3 (cnt + 1) ∧ ((doS B n (sl T) (0, 0, sk B n (we B n c.2.2))).2.1 = 0 → mHr G' (tDo T (doS B n (sl T) (0, 0, sk B n (we B n c.2.2))).1.1 (doS B n (sl T) (0, 0, sk B n (we B n c.2.2))).1.2.1 (doS B n (sl T) (0, 0, sk B n (we B n c.2.2))).1.2.2) P) := by
  have hB := hT.gb
  have hB2 := hP.gb
  obtain ⟨G1, e1, e7, r0, m0, f0⟩ := m_beg (x := x) (V := V) (L := L) (D := D) (by omega) hr q h7 hT hP hm
  rw [h_223_48, hr.2.2.2.1, if_pos (by rw [q]), e1, aV_o, if_neg (show ¬ i3 1 = i3 0 by decide), if_pos rfl, e7, i3_add]
  have e72 : sm_up G1 156 7 (i3 (cnt + 1)) 156 7 = i3 (cnt + 1) := sm_up_same _ _ _ _
  generalize sm_up G1 156 7 (i3 (cnt + 1)) = G2 at *
  generalize (0, 0, sk B n (we B n c.2.2)) = c0 at r0 ⊢
  obtain ⟨G3, u1, f1, r1⟩ := s_234 (D := D) (x := x) (V := V) (L := L) (w := m1) (by omega) r0 m0.1 hB.1
  have b1 : (nuS B n 0 (sl T) c0).1 < 9 := by rcases nuS_v (B := B) (n := n) (lo := 0) (h := sl T) (c := c0) with z | z <;> omega
  rw [dec_m1 (by omega), rgS_f] at r1
  rw [m0.2.1, i3_in (by omega) h10, gd_tt, i3_cl (by omega), rr_183 h10, kr_183 h10, nr_183 h10, u1, aI_o, gd_tt, i3_in (by omega) (by omega), gd_tt, ldr_183 h10, i3_in (by omega) (by omega), gd_tt, i3_cl (by omega), sm_up_same]
  obtain ⟨G4, u2, f2, r2⟩ := s_234 (D := D) (x := x) (V := V) (L := L) (k := sl T) (w := i3 (nuS B n 0 (sl T) c0).1) (G := sm_up G3 (184 + dn T) 0 (i3 (nuS B n 0 (sl T) c0).1)) (by omega) (r1.keep (fun r k w => sm_up_ne (by omega))) (by rw [sm_up_ne (by omega), f1 _ _ (by omega)]; exact m0.1) hB.1
  have b2 : (nuS B n 0 (sl T) (nuS B n 0 (sl T) c0).2).1 < 9 := by rcases nuS_v (B := B) (n := n) (lo := 0) (h := sl T) (c := (nuS B n 0 (sl T) c0).2) with z | z <;> omega
  rw [dec_sw (by omega) (by omega)] at r2
  rw [u2, aI_o, gd_tt, i3_in (by omega) (by omega), gd_tt]
  obtain ⟨G5, u3, f3, r3⟩ := nuM (D := D) (x := x) (V := V) (L := L) 0 2 (by omega) (r2.keep (g' := sm_up G4 (184 + dn T) 1 (i3 (nuS B n 0 (sl T) (nuS B n 0 (sl T) c0).2).1)) (fun r k w => sm_up_ne (by omega))) (by omega) (by omega) rfl mi_1
  rw [u3, aI_o, gd_tt, i3_in (by omega) (by omega), gd_tt]
  unfold doS
  generalize nuS B n 0 (sl T) c0 = q1 at *
  generalize nuS B n 0 (sl T) q1.2 = q2 at *
  generalize nuS B n 0 2 (rgS (decide (q1.1 = q2.1)) q1.2 q2) = q4 at *
  obtain ⟨G6, u4, r4, f4, c4⟩ := m_end (D := D) (x := x) (V := V) (L := L) (k := 1) (m := dn T) (G := sm_up G5 (184 + dn T) 2 (i3 q4.1)) (by omega) (r3.keep (fun r k w => sm_up_ne (by omega))) (by omega) (by rw [sm_up_ne (by omega), f3 _ _ (by omega), sm_up_ne (by omega), f2 _ _ (by omega), sm_up_ne (by omega), f1 _ _ (by omega)]; exact m0.2.1)
  have ff : ∀ r k, ¬ (r = 156 ∧ 4 ≤ k ∧ k ≤ 6) → ¬ ((r = 159 ∧ k = 1) ∨ (r = 184 + dn T ∧ k ≤ 2)) → G6 r k = G2 r k := fun r k w1 w2 => by
    rw [f4 r k w1 (by omega), sm_up_ne (by omega), f3 r k w1, sm_up_ne (by omega), f2 r k w1, sm_up_ne (by omega), f1 r k w1]
  have z0 : G6 (184 + dn T) 0 = i3 q1.1 := by rw [f4 _ _ (by omega) (by omega), sm_up_ne (by omega), f3 _ _ (by omega), sm_up_ne (by omega), f2 _ _ (by omega), sm_up_same]
  have z1 : G6 (184 + dn T) 1 = i3 q2.1 := by rw [f4 _ _ (by omega) (by omega), sm_up_ne (by omega), f3 _ _ (by omega), sm_up_same]
  have z2 : G6 (184 + dn T) 2 = i3 q4.1 := by rw [f4 _ _ (by omega) (by omega), sm_up_same]
  obtain ⟨a1, a2, a3, a4, a5, a6, a7, a8, a9, a10, a11, a12⟩ := m0
  refine ⟨G6, u4, fun r k w1 w2 => by unfold inR at w2; rw [ff r k (by omega) (by omega)]; exact f0 r k w1 (by unfold inR; exact w2), r4, by rw [ff _ _ (by omega) (by omega)]; exact e72, fun z => ⟨by rw [ff _ _ (by omega) (by omega)]; exact a1, ?_, ?_, ?_, ?_, ?_, fun k hk => ?_, fun k hk => ?_, fun k hk => ?_, fun k hk => ?_, fun k hk => ?_, fun k hk => ?_⟩⟩
  · exact c4 (sgS_ok z).1
  · rw [ff _ _ (by omega) (by omega)]; exact a3
  · rw [ff _ _ (by omega) (by omega)]; exact a4
  · rw [ff _ _ (by omega) (by omega)]; exact a5
  · rw [ff _ _ (by omega) (by omega)]; exact a6
  · rw [ff _ _ (by omega) (by omega)]; exact a7 k hk
  · rw [ff _ _ (by omega) (by omega)]; exact a8 k hk
  · have hk : k < sl T := hk
    rw [ff _ _ (by omega) (by omega), ff _ _ (by omega) (by omega), ff _ _ (by omega) (by omega)]; exact a9 k hk
  · have hk : k < dn T + 1 := hk
    show _ = i3 (upn (upn (upn (upn T 0 1 (dn T + 1)) 3 (dn T) q1.1) 4 (dn T) q2.1) 5 (dn T) q4.1 3 k) ∧ _ = i3 (upn (upn (upn (upn T 0 1 (dn T + 1)) 3 (dn T) q1.1) 4 (dn T) q2.1) 5 (dn T) q4.1 4 k) ∧ _ = i3 (upn (upn (upn (upn T 0 1 (dn T + 1)) 3 (dn T) q1.1) 4 (dn T) q2.1) 5 (dn T) q4.1 5 k)
    rw [upn_ne (by omega : (3 : Nat) ≠ 5 ∨ _), upn_ne (by omega : (3 : Nat) ≠ 4 ∨ _), upn_ne (by omega : (4 : Nat) ≠ 5 ∨ _)]
    by_cases w : k = dn T
    · rw [w, upn_same, upn_same, upn_same]; exact ⟨z0, z1, z2⟩
    · rw [upn_ne (by omega), upn_ne (by omega), upn_ne (by omega), upn_ne (by omega), upn_ne (by omega), upn_ne (by omega), upn_ne (by omega), upn_ne (by omega), upn_ne (by omega), ff _ _ (by omega) (by omega), ff _ _ (by omega) (by omega), ff _ _ (by omega) (by omega)]; exact a10 k (by omega)
  · have hk : k < nn P := hk
    rw [ff _ _ (by omega) (by omega), ff _ _ (by omega) (by omega)]; exact a11 k hk
  · have hk : k < dr T := hk
    rw [ff _ _ (by omega) (by omega), ff _ _ (by omega) (by omega)]; exact a12 k hk
theorem cM_3 {D x cnt : Nat} {V : pV} {G : sm_G} {L : sm_L} {B : Nat → Nat} {n : Nat} {c : St} {T P : pT} (hD0 : 6 ≤ D) (hr : rE G B n c) (q : c.1 = 0) (h7 : G 156 7 = i3 cnt) (hT : okT T) (hP : okP T P) (hm : mHr G T P) (h3 : tn T < 3) : ∃ G', hD D 223 48 [.ref 156, .int (i3 3), .null, .null] 342 (RR V) x G L = oV x G' L ∧ mfS G G' ∧ rM G' B n (twS B n (sl T) (tp T) (0, 0, sk B n (we B n c.2.2))).2 ∧ G' 156 7 = i3 (cnt + 1) ∧ ((twS B n (sl T) (tp T) (0, 0, sk B n (we B n c.2.2))).2.1 = 0 → mHr G' (tTw T (twS B n (sl T) (tp T) (0, 0, sk B n (we B n c.2.2))).1.1 (twS B n (sl T) (tp T) (0, 0, sk B n (we B n c.2.2))).1.2) P) := by
  have hB := hT.gb
  have hB2 := hP.gb
  obtain ⟨G1, e1, e7, r0, m0, f0⟩ := m_beg (x := x) (V := V) (L := L) (D := D) (by omega) hr q h7 hT hP hm
  rw [h_223_48, hr.2.2.2.1, if_pos (by rw [q]), e1, aV_o, if_neg (show ¬ i3 3 = i3 0 by decide), if_neg (show ¬ i3 3 = i3 1 by decide), if_neg (show ¬ i3 3 = i3 2 by decide), if_pos rfl, e7, i3_add]
  have e72 : sm_up G1 156 7 (i3 (cnt + 1)) 156 7 = i3 (cnt + 1) := sm_up_same _ _ _ _
  generalize sm_up G1 156 7 (i3 (cnt + 1)) = G2 at *
  generalize (0, 0, sk B n (we B n c.2.2)) = c0 at r0 ⊢
  obtain ⟨G3, u1, f1, r1⟩ := s_235 (D := D) (x := x) (V := V) (L := L) (w := m1) (tw := tp T) (by omega) r0 m0.1 hB.1 (fun j hj => ⟨m0.2.2.2.2.2.2.1 j hj, by have := hT.gtp j hj; omega⟩)
  have b1 : (nuS B n 0 (sl T) c0).1 < sl T ∨ (nuS B n 0 (sl T) c0).1 = 0 := nuS_v
  rw [dec_m1 (by omega), Bool.or_false] at r1
  obtain ⟨G4, u2, f2, r2⟩ := s_235 (D := D) (x := x) (V := V) (L := L) (w := i3 (nuS B n 0 (sl T) c0).1) (tw := tp T) (by omega) r1 (by rw [f1 _ _ (by omega)]; exact m0.1) hB.1 (fun j hj => ⟨by rw [f1 _ _ (by omega)]; exact m0.2.2.2.2.2.2.1 j hj, by have := hT.gtp j hj; omega⟩)
  rw [u1, aI_o, u2, aI_o, r2.2.2.2.1]
  unfold twS
  have b2 : (nuS B n 0 (sl T) (rgS (decide (tp T (nuS B n 0 (sl T) c0).1 ≠ 0)) c0 (nuS B n 0 (sl T) c0))).1 < sl T ∨ (nuS B n 0 (sl T) (rgS (decide (tp T (nuS B n 0 (sl T) c0).1 ≠ 0)) c0 (nuS B n 0 (sl T) c0))).1 = 0 := nuS_v
  rw [dec_sw (by omega) (by omega)] at r2 ⊢
  generalize nuS B n 0 (sl T) c0 = q1 at *
  generalize rgS (decide (tp T q1.1 ≠ 0)) c0 q1 = c1 at *
  generalize nuS B n 0 (sl T) c1 = q2 at *
  have fq : ∀ r k, ¬ (r = 156 ∧ 4 ≤ k ∧ k ≤ 6) → G4 r k = G2 r k := fun r k w => by rw [f2 r k w, f1 r k w]
  by_cases y : (rgS (decide (tp T q2.1 ≠ 0) || decide (q1.1 = q2.1)) c1 q2).1 = 0
  · rw [if_pos (by rw [y]), i3_in (by omega) (show q1.1 < 8 by omega), gd_tt, i3_in (by omega) (show q2.1 < 8 by omega), gd_tt, i3_cl (by omega), i3_cl (by omega)]
    obtain ⟨G6, u4, r4, f4, c4⟩ := m_end (D := D) (x := x) (V := V) (L := L) (k := 3) (m := tn T) (G := sm_up (sm_up G4 161 q1.1 (i3 q2.1)) 161 q2.1 (i3 q1.1)) (by omega) (r2.keep (fun r k w => by rw [sm_up_ne (by omega), sm_up_ne (by omega)])) (by omega) (by rw [sm_up_ne (by omega), sm_up_ne (by omega), fq _ _ (by omega)]; exact m0.2.2.2.1)
    have ff : ∀ r k, ¬ (r = 156 ∧ 4 ≤ k ∧ k ≤ 6) → ¬ ((r = 159 ∧ k = 3) ∨ (r = 161 ∧ (k = q1.1 ∨ k = q2.1))) → G6 r k = G2 r k := fun r k w1 w2 => by
      rw [f4 r k w1 (by omega), sm_up_ne (by omega), sm_up_ne (by omega), fq r k w1]
    obtain ⟨hq2, hb, _⟩ := rgS_ok y
    have hne : q1.1 ≠ q2.1 := fun w => by
      rw [decide_eq_true w, Bool.or_true] at hb
      cases hb
    have z0 : G6 161 q2.1 = i3 q1.1 := by rw [f4 _ _ (by omega) (by omega), sm_up_same]
    have z1 : G6 161 q1.1 = i3 q2.1 := by rw [f4 _ _ (by omega) (by omega), sm_up_ne (by omega), sm_up_same]
    obtain ⟨a1, a2, a3, a4, a5, a6, a7, a8, a9, a10, a11, a12⟩ := m0
    refine ⟨G6, u4, fun r k w1 w2 => by unfold inR at w2; rw [ff r k (by omega) (by omega)]; exact f0 r k w1 (by unfold inR; exact w2), r4, by rw [ff _ _ (by omega) (by omega)]; exact e72, fun z => ⟨by rw [ff _ _ (by omega) (by omega)]; exact a1, ?_, ?_, ?_, ?_, ?_, fun k hk => ?_, fun k hk => ?_, fun k hk => ?_, fun k hk => ?_, fun k hk => ?_, fun k hk => ?_⟩⟩
    · rw [ff _ _ (by omega) (by omega)]; exact a2
    · rw [ff _ _ (by omega) (by omega)]; exact a3
    · exact c4 (sgS_ok z).1
    · rw [ff _ _ (by omega) (by omega)]; exact a5
    · rw [ff _ _ (by omega) (by omega)]; exact a6
    · show _ = mi (upn (upn (upn (upn (upn T 0 2 (tn T + 1)) 2 q1.1 (q2.1 + 1)) 2 q2.1 (q1.1 + 1)) 9 (tn T) q1.1) 10 (tn T) q2.1 2 k)
      rw [upn_ne (by omega), upn_ne (by omega)]
      by_cases w : k = q2.1
      · rw [w, upn_same, mi_succ]; exact z0
      · rw [upn_ne (by omega)]
        by_cases y : k = q1.1
        · rw [y, upn_same, mi_succ]; exact z1
        · rw [upn_ne (by omega), upn_ne (by omega), ff _ _ (by omega) (by omega)]; exact a7 k hk
    · rw [ff _ _ (by omega) (by omega)]; exact a8 k hk
    · have hk : k < sl T := hk
      rw [ff _ _ (by omega) (by omega), ff _ _ (by omega) (by omega), ff _ _ (by omega) (by omega)]; exact a9 k hk
    · have hk : k < dn T := hk
      rw [ff _ _ (by omega) (by omega), ff _ _ (by omega) (by omega), ff _ _ (by omega) (by omega)]; exact a10 k hk
    · have hk : k < nn P := hk
      rw [ff _ _ (by omega) (by omega), ff _ _ (by omega) (by omega)]; exact a11 k hk
    · have hk : k < dr T := hk
      rw [ff _ _ (by omega) (by omega), ff _ _ (by omega) (by omega)]; exact a12 k hk
  · obtain ⟨G6, u4, r4, f4, c4⟩ := m_end (D := D) (x := x) (V := V) (L := L) (k := 3) (m := tn T) (G := G4) (by omega) r2 (by omega) (by rw [fq _ _ (by omega)]; exact m0.2.2.2.1)
    rw [if_neg (by rw [i3_eq (by have := r2.2.1; omega) (by omega)]; exact y)]
    refine ⟨G6, u4, fun r k w1 w2 => by unfold inR at w2; rw [f4 r k (by omega) (by omega), fq r k (by omega)]; exact f0 r k w1 (by unfold inR; exact w2), r4, by rw [f4 _ _ (by omega) (by omega), fq _ _ (by omega)]; exact e72, fun z => absurd (sgS_ok z).1 y⟩
