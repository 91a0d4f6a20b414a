/-! what takes his minute -/
section TAKES
variable {d x d' x' b s wl e : Nat} {V U : pV} {G g : sm_G} {L L' : sm_L} {T P W : pT} {K : Nat} {ρ : Nat → Nat} {m t o u h st p : Nat}
theorem a_take0 (H : aPre G g b s wl e T P W K ρ m t o u h st p) (hb : pN b) (hs : pS s) (hl : pW wl) (hT : okT T) (hP : okP T P) (he : e < dr T) (hρ : ρ e ≤ sl T) (hρ0 : ρ e ≠ 0) (ho : o < 1024) (ht : t < 1024) (hm : m ≤ 300) (hS : wS W ≤ 37) (hst : st < wS W)
    (hk : wt2 W (5 * st) = 0) {v : Nat} (hv : wt2 W (5 * st + 1) = v) (hv8 : v < sl T) (hc : ∃ n f q, cor T W n h (st + 1) f (p + 1) q ∧ stkE G g T W (b + 5 + 4 * e) e h f q) :
    ∃ G' g', sm_cv0 (d + 4) 91 342 (RR V) [.ref b, .ref s, .ref (b + 5 + 4 * e), .int (i3 0), .int (i3 v)] (x, G, L) = oV x G' L ∧ hD (d' + 4) 267 104 [.ref 156, .int (i3 e), .null, .null, .null, .null] 342 (RR U) x' g L' = oV x' g' L' ∧ aPost b e T W (ρ e) t G g G' g' := by
  have hB := hT.gb
  have hbl := pN_lt hb
  have hw := kw_b (k := e) hb (by omega)
  obtain ⟨⟨a1, a2, a3, a4⟩, ⟨b1, b2, b3, b4⟩, c1, ⟨d1, d2⟩, ⟨e1, e2, e3, e4, e5⟩, ⟨f1, f2, f3⟩, ⟨g1, g2⟩, _, h1, h2, h3, h4, _⟩ := H
  have er : ρ e = (ρ e - 1) + 1 := by omega
  have r1 := (c1 e he).1
  have r2 := (c1 e he).2
  rw [er, mi_succ] at r1 r2
  obtain ⟨G1, k1, k2, k3, k4, k5⟩ := s_92 (d := d + 1) (x := x) (L := L) (V := V) (v := v) hb hs hw (by omega) a1 hT r1 (by omega) (by omega) d1 ho b1 ht
  have gg : ∀ r j, ¬ (r = 326 ∧ j = e) → sm_up g 326 e (i3 (st + 1)) r j = g r j := fun r j h => sm_up_ne (by omega)
  have gs : sm_up g 326 e (i3 (st + 1)) 326 e = i3 (st + 1) := sm_up_same _ _ _ _
  have l104 := fun G' hz => l_104_0 (d := d') (x := x') (G := g) (L := L') (V := U) (G' := G') (by omega) h2 hst hS a4 hk hv hz
  generalize sm_up g 326 e (i3 (st + 1)) = gx at gg gs l104
  have m2 : mH gx T P K := a2.keep hT hP (fun r k q => gg r k (by unfold inM at q; omega))
  obtain ⟨g', q1, q2, q3, q4, q5⟩ := s_270 (d := d' + 2) (x := x') (L := L') (V := U) (e := e) (v := v) (r := ρ e - 1) (o := o) (t := t) (m := m) m2 hT (by omega) (by rw [gg _ _ (by omega)]; exact r2) (by omega) (by omega) (by rw [gg _ _ (by omega)]; exact d2) ho (by rw [gg _ _ (by omega)]; exact b3) hm (by rw [gg _ _ (by omega)]; exact b4) ht
  have hz : sm_up G1 (b + 5 + 4 * e) 7 (G1 (b + 5 + 4 * e) 7 + i3 1) (b + 5 + 4 * e) 7 = i3 (p + 1) := by rw [sm_up_same, k2 _ _ (by omega), h1, i3_add]
  have hG : ∀ r k, ¬ (r = b + 5 + 4 * e ∧ (k = 1 ∨ k = 3 ∨ k = 4 ∨ k = 7)) → sm_up G1 (b + 5 + 4 * e) 7 (G1 (b + 5 + 4 * e) 7 + i3 1) r k = G r k := fun r k q => by rw [sm_up_ne (by omega)]; exact k2 r k (by omega)
  have hG1 : ∀ k, k ≠ 7 → sm_up G1 (b + 5 + 4 * e) 7 (G1 (b + 5 + 4 * e) 7 + i3 1) (b + 5 + 4 * e) k = G1 (b + 5 + 4 * e) k := fun k q => sm_up_ne (by omega)
  refine ⟨sm_up G1 (b + 5 + 4 * e) 7 (G1 (b + 5 + 4 * e) 7 + i3 1), g', ?_, l104 g' q1, ?_⟩
  · rw [m_91 hb hs hw]
    simp (disch := omega) only [i3_add, i3_mul, i3_sub, i3_m1, i3_lt, i3_le, i3_eq, m1_lt, lt_m1, m1_le, le_m1, i3_nm1, m1_ni3, i3_cl, i3_in, i3_or, i3_and, i3_xor, i3_shl, i3_shr, sh_tb, tb_eq0, gd_tt, aI_o, aV_o, aL_o, aR_o, zd_0, zd_1, if_true, if_false, ite_self, eq_self, Bool.true_eq_false, Bool.false_eq_true, bi_0, bi_1, bi_zd, Nat.not_lt_zero, k1, h_91_57 hw]
  · generalize sm_up G1 (b + 5 + 4 * e) 7 (G1 (b + 5 + 4 * e) 7 + i3 1) = G' at hz hG hG1
    have hg : ∀ r k, ¬ (r = 326 ∧ k = e) → ¬ (r = 325 ∧ k = e) → ¬ (r = 315 + e ∧ (k = 1 ∨ k = 2)) → g' r k = g r k := fun r k q q0 q00 => by rw [q2 r k (by omega) (by omega)]; exact gg r k (by omega)
    refine ⟨⟨fun r k a1 a2 a3 => hG r k (by omega), fun r k a1 a2 a3 a4 => hg r k (by omega) (by omega) (by omega), hG _ _ (by omega)⟩, ⟨o, ho, by rw [hG _ _ (by omega)]; exact d1, by rw [hg _ _ (by omega) (by omega) (by omega)]; exact d2⟩, (if canGo T (ρ e - 1) v o t = true then v else ρ e - 1) + 1, ?_, by omega, ?_, ?_, ?_, ⟨?_, ?_, ?_, ?_, ?_⟩, ⟨0, by decide, ?_, ?_, ?_⟩, ⟨0, by decide, ?_, ?_, fun _ => rfl⟩, p + 1, st + 1, h, hz, ?_, ?_, h4, ?_⟩
    · by_cases z : canGo T (ρ e - 1) v o t = true
      · rw [if_pos z]
        unfold canGo at z
        rw [Bool.and_eq_true] at z
        exact Or.inr z.2
      · rw [if_neg z]
        left
        omega
    · rw [hG1 _ (by omega), k3, mi_succ]
    · rw [q3, mi_succ]
    · split <;> omega
    · rw [hG _ _ (by omega), hg _ _ (by omega) (by omega) (by omega)]; exact e1
    · rw [hG1 _ (by omega), k4, q4, gg _ _ (by omega), e2]
    · rw [hG1 _ (by omega), k5, q5, gg _ _ (by omega), e3]
    · rw [hG _ _ (by omega), hg _ _ (by omega) (by omega) (by omega)]; exact e4
    · rw [hG _ _ (by omega), hg _ _ (by omega) (by omega) (by omega)]; exact e5
    · rw [hG _ _ (by omega)]; exact f1
    · rw [hg _ _ (by omega) (by omega) (by omega)]; exact f2
    · rw [hg _ _ (by omega) (by omega) (by omega)]; exact f3
    · rw [hG _ _ (by omega)]; exact g1
    · rw [hg _ _ (by omega) (by omega) (by omega)]; exact g2
    · rw [q2 _ _ (by omega) (by omega)]; exact gs
    · rw [hg _ _ (by omega) (by omega) (by omega)]; exact h3
    · obtain ⟨n, f, q, hc1, hc2⟩ := hc
      exact ⟨n, f, q, hc1, hc2.keep (fun k _ => hG _ _ (by omega)) (fun j _ => hg _ _ (by omega) (by omega) (by omega))⟩
theorem a_take1 (H : aPre G g b s wl e T P W K ρ m t o u h st p) (hb : pN b) (hs : pS s) (hl : pW wl) (hT : okT T) (hP : okP T P) (he : e < dr T) (hρ : ρ e ≤ sl T) (hρ0 : ρ e ≠ 0) (ho : o < 1024) (hS : wS W ≤ 37) (hst : st < wS W)
    (hk : wt2 W (5 * st) = 1) {v : Nat} (hv : wt2 W (5 * st + 1) = v + 1) (hv8 : v ≤ 98) (hc : ∃ n f q, cor T W n h (st + 1) f (p + 1) q ∧ stkE G g T W (b + 5 + 4 * e) e h f q) :
    ∃ G' g', sm_cv0 (d + 4) 91 342 (RR V) [.ref b, .ref s, .ref (b + 5 + 4 * e), .int (i3 1), .int (i3 (v + 1))] (x, G, L) = oV x G' L ∧ hD (d' + 4) 267 104 [.ref 156, .int (i3 e), .null, .null, .null, .null] 342 (RR U) x' g L' = oV x' g' L' ∧ aPost b e T W (ρ e) t G g G' g' := by
  have hB := hT.gb
  have hbl := pN_lt hb
  have hw := kw_b (k := e) hb (by omega)
  obtain ⟨⟨a1, a2, a3, a4⟩, ⟨b1, b2, b3, b4⟩, c1, ⟨d1, d2⟩, ⟨e1, e2, e3, e4, e5⟩, ⟨f1, f2, f3⟩, ⟨g1, g2⟩, _, h1, h2, h3, h4, _⟩ := H
  have l104 := l_104_1 (d := d') (x := x') (G := g) (L := L') (V := U) (by omega) h2 hst hS a4 hk hv
  have v1 : i3 (v + 1) - i3 1 = i3 v := by rw [i3_sub (by omega)]; rfl
  have c7 : sm_up G (b + 5 + 4 * e) 8 (i3 v) (b + 5 + 4 * e) 7 = i3 p := by rw [sm_up_ne (by omega)]; exact h1
  refine ⟨sm_up (sm_up G (b + 5 + 4 * e) 8 (i3 v)) (b + 5 + 4 * e) 7 (i3 (p + 1)), sm_up (sm_up g 326 e (i3 (st + 1))) 328 e (i3 v), ?_, l104, ?_⟩
  · rw [m_91 hb hs hw]
    simp (disch := omega) only [i3_add, i3_mul, i3_sub, i3_m1, i3_lt, i3_le, i3_eq, m1_lt, lt_m1, m1_le, le_m1, i3_nm1, m1_ni3, i3_cl, i3_in, i3_or, i3_and, i3_xor, i3_shl, i3_shr, sh_tb, tb_eq0, gd_tt, aI_o, aV_o, aL_o, aR_o, zd_0, zd_1, if_true, if_false, ite_self, eq_self, Bool.true_eq_false, Bool.false_eq_true, bi_0, bi_1, bi_zd, Nat.not_lt_zero, Nat.reduceEqDiff, Nat.reduceLeDiff, Nat.reduceLT, v1, h_91_57 hw, c7]
  · have hG : ∀ r k, ¬ (r = b + 5 + 4 * e ∧ (k = 7 ∨ k = 8)) → sm_up (sm_up G (b + 5 + 4 * e) 8 (i3 v)) (b + 5 + 4 * e) 7 (i3 (p + 1)) r k = G r k := fun r k q => by rw [sm_up_ne (by omega), sm_up_ne (by omega)]
    have hz : sm_up (sm_up G (b + 5 + 4 * e) 8 (i3 v)) (b + 5 + 4 * e) 7 (i3 (p + 1)) (b + 5 + 4 * e) 7 = i3 (p + 1) := sm_up_same _ _ _ _
    have hz2 : sm_up (sm_up G (b + 5 + 4 * e) 8 (i3 v)) (b + 5 + 4 * e) 7 (i3 (p + 1)) (b + 5 + 4 * e) 8 = i3 v := by rw [sm_up_ne (by omega), sm_up_same]
    generalize sm_up (sm_up G (b + 5 + 4 * e) 8 (i3 v)) (b + 5 + 4 * e) 7 (i3 (p + 1)) = G' at *
    have hg : ∀ r k, ¬ ((r = 326 ∨ r = 328) ∧ k = e) → sm_up (sm_up g 326 e (i3 (st + 1))) 328 e (i3 v) r k = g r k := fun r k q => by rw [sm_up_ne (by omega), sm_up_ne (by omega)]
    have hy : sm_up (sm_up g 326 e (i3 (st + 1))) 328 e (i3 v) 326 e = i3 (st + 1) := by rw [sm_up_ne (by omega), sm_up_same]
    have hy2 : sm_up (sm_up g 326 e (i3 (st + 1))) 328 e (i3 v) 328 e = i3 v := sm_up_same _ _ _ _
    generalize sm_up (sm_up g 326 e (i3 (st + 1))) 328 e (i3 v) = g' at *
    refine ⟨⟨fun r k a1 a2 a3 => hG r k (by omega), fun r k a1 a2 a3 a4 => hg r k (by omega), hG _ _ (by omega)⟩, ⟨o, ho, by rw [hG _ _ (by omega)]; exact d1, by rw [hg _ _ (by omega)]; exact d2⟩, ρ e, Or.inl rfl, hρ0, ?_, ?_, hρ, ⟨?_, ?_, ?_, ?_, ?_⟩, ⟨0, by decide, ?_, ?_, ?_⟩, ⟨v, hv8, hz2, hy2, ?_⟩, p + 1, st + 1, h, hz, hy, ?_, h4, ?_⟩
    · rw [hG _ _ (by omega)]; exact (c1 e he).1
    · rw [hg _ _ (by omega)]; exact (c1 e he).2
    · rw [hG _ _ (by omega), hg _ _ (by omega)]; exact e1
    · rw [hG _ _ (by omega), hg _ _ (by omega)]; exact e2
    · rw [hG _ _ (by omega), hg _ _ (by omega)]; exact e3
    · rw [hG _ _ (by omega), hg _ _ (by omega)]; exact e4
    · rw [hG _ _ (by omega), hg _ _ (by omega)]; exact e5
    · rw [hG _ _ (by omega)]; exact f1
    · rw [hg _ _ (by omega)]; exact f2
    · rw [hg _ _ (by omega)]; exact f3
    · rw [hg _ _ (by omega), f2]; intro z; exact absurd z (by decide)
    · rw [hg _ _ (by omega)]; exact h3
    · obtain ⟨n, f, q, hc1, hc2⟩ := hc
      exact ⟨n, f, q, hc1, hc2.keep (fun k _ => hG _ _ (by omega)) (fun j _ => hg _ _ (by omega))⟩
theorem a_take2 (H : aPre G g b s wl e T P W K ρ m t o u h st p) (hb : pN b) (hs : pS s) (hl : pW wl) (hT : okT T) (hP : okP T P) (he : e < dr T) (hρ : ρ e ≤ sl T) (hρ0 : ρ e ≠ 0) (ho : o < 1024) (hS : wS W ≤ 37) (hst : st < wS W)
    (hk : wt2 W (5 * st) = 2) {v : Nat} (hv : wt2 W (5 * st + 1) = v) (hv6 : v < 6) (hc : ∃ n f q, cor T W n h (st + 1) f (p + 1) q ∧ stkE G g T W (b + 5 + 4 * e) e h f q) :
    ∃ G' g', sm_cv0 (d + 4) 91 342 (RR V) [.ref b, .ref s, .ref (b + 5 + 4 * e), .int (i3 2), .int (i3 v)] (x, G, L) = oV x G' L ∧ hD (d' + 4) 267 104 [.ref 156, .int (i3 e), .null, .null, .null, .null] 342 (RR U) x' g L' = oV x' g' L' ∧ aPost b e T W (ρ e) t G g G' g' := by
  have hB := hT.gb
  have hbl := pN_lt hb
  have hsl := pS_lt hs
  have hw := kw_b (k := e) hb (by omega)
  obtain ⟨⟨a1, a2, a3, a4⟩, ⟨b1, b2, b3, b4⟩, c1, ⟨d1, d2⟩, ⟨e1, e2, e3, e4, e5⟩, ⟨f1, f2, f3⟩, ⟨g1, g2⟩, _, h1, h2, h3, h4, _⟩ := H
  have l104 := l_104_2 (d := d') (x := x') (G := g) (L := L') (V := U) (by omega) h2 hst hS a4 hk hv hv6
  have t1 := a1.gtu v hv6
  have t2 := a2.gtu v hv6
  have t3 := hT.tu1 v hv6
  have ho' : o ^^^ tu T v < 1024 := Nat.xor_lt_two_pow (n := 10) ho t3
  rw [d2, t2, i3_xor] at l104
  have x1 : sm_up G b 4 (i3 (o ^^^ tu T v)) (b + 5 + 4 * e) 5 = G (b + 5 + 4 * e) 5 := sm_up_ne (by omega)
  have x2 : ∀ z, sm_up (sm_up G b 4 (i3 (o ^^^ tu T v))) (b + 5 + 4 * e) 5 z (b + 5 + 4 * e) 7 = i3 p := fun z => by rw [sm_up_ne (by omega), sm_up_ne (by omega)]; exact h1
  refine ⟨sm_up (sm_up (sm_up G b 4 (i3 (o ^^^ tu T v))) (b + 5 + 4 * e) 5 (G (b + 5 + 4 * e) 5 + i3 1)) (b + 5 + 4 * e) 7 (i3 (p + 1)), sm_up (sm_up (sm_up g 326 e (i3 (st + 1))) 156 56 (i3 (o ^^^ tu T v))) (315 + e) 3 (g (315 + e) 3 + i3 1), ?_, l104, ?_⟩
  · rw [m_91 hb hs hw]
    simp (disch := omega) only [i3_add, i3_mul, i3_sub, i3_m1, i3_lt, i3_le, i3_eq, m1_lt, lt_m1, m1_le, le_m1, i3_nm1, m1_ni3, i3_cl, i3_in, i3_or, i3_and, i3_xor, i3_shl, i3_shr, sh_tb, tb_eq0, gd_tt, aI_o, aV_o, aL_o, aR_o, zd_0, zd_1, if_true, if_false, ite_self, eq_self, Bool.true_eq_false, Bool.false_eq_true, bi_0, bi_1, bi_zd, Nat.not_lt_zero, Nat.reduceEqDiff, Nat.reduceLeDiff, Nat.reduceLT, d1, t1, x1, h_91_57 hw, x2]
  · have hG : ∀ r k, ¬ (r = b + 5 + 4 * e ∧ (k = 7 ∨ k = 5)) → ¬ (r = b ∧ k = 4) → sm_up (sm_up (sm_up G b 4 (i3 (o ^^^ tu T v))) (b + 5 + 4 * e) 5 (G (b + 5 + 4 * e) 5 + i3 1)) (b + 5 + 4 * e) 7 (i3 (p + 1)) r k = G r k := fun r k q q2 => by rw [sm_up_ne (by omega), sm_up_ne (by omega), sm_up_ne (by omega)]
    have hz : sm_up (sm_up (sm_up G b 4 (i3 (o ^^^ tu T v))) (b + 5 + 4 * e) 5 (G (b + 5 + 4 * e) 5 + i3 1)) (b + 5 + 4 * e) 7 (i3 (p + 1)) (b + 5 + 4 * e) 7 = i3 (p + 1) := sm_up_same _ _ _ _
    have hz2 : sm_up (sm_up (sm_up G b 4 (i3 (o ^^^ tu T v))) (b + 5 + 4 * e) 5 (G (b + 5 + 4 * e) 5 + i3 1)) (b + 5 + 4 * e) 7 (i3 (p + 1)) (b + 5 + 4 * e) 5 = G (b + 5 + 4 * e) 5 + i3 1 := by rw [sm_up_ne (by omega), sm_up_same]
    have hz3 : sm_up (sm_up (sm_up G b 4 (i3 (o ^^^ tu T v))) (b + 5 + 4 * e) 5 (G (b + 5 + 4 * e) 5 + i3 1)) (b + 5 + 4 * e) 7 (i3 (p + 1)) b 4 = i3 (o ^^^ tu T v) := by rw [sm_up_ne (by omega), sm_up_ne (by omega), sm_up_same]
    generalize sm_up (sm_up (sm_up G b 4 (i3 (o ^^^ tu T v))) (b + 5 + 4 * e) 5 (G (b + 5 + 4 * e) 5 + i3 1)) (b + 5 + 4 * e) 7 (i3 (p + 1)) = G' at *
    have hg : ∀ r k, ¬ (r = 326 ∧ k = e) → ¬ (r = 156 ∧ k = 56) → ¬ (r = 315 + e ∧ k = 3) → sm_up (sm_up (sm_up g 326 e (i3 (st + 1))) 156 56 (i3 (o ^^^ tu T v))) (315 + e) 3 (g (315 + e) 3 + i3 1) r k = g r k := fun r k q q2 q3 => by rw [sm_up_ne (by omega), sm_up_ne (by omega), sm_up_ne (by omega)]
    have hy : sm_up (sm_up (sm_up g 326 e (i3 (st + 1))) 156 56 (i3 (o ^^^ tu T v))) (315 + e) 3 (g (315 + e) 3 + i3 1) 326 e = i3 (st + 1) := by rw [sm_up_ne (by omega), sm_up_ne (by omega), sm_up_same]
    have hy2 : sm_up (sm_up (sm_up g 326 e (i3 (st + 1))) 156 56 (i3 (o ^^^ tu T v))) (315 + e) 3 (g (315 + e) 3 + i3 1) (315 + e) 3 = g (315 + e) 3 + i3 1 := sm_up_same _ _ _ _
    have hy3 : sm_up (sm_up (sm_up g 326 e (i3 (st + 1))) 156 56 (i3 (o ^^^ tu T v))) (315 + e) 3 (g (315 + e) 3 + i3 1) 156 56 = i3 (o ^^^ tu T v) := by rw [sm_up_ne (by omega), sm_up_same]
    generalize sm_up (sm_up (sm_up g 326 e (i3 (st + 1))) 156 56 (i3 (o ^^^ tu T v))) (315 + e) 3 (g (315 + e) 3 + i3 1) = g' at *
    refine ⟨⟨fun r k a1 a2 a3 => hG r k (by omega) (by omega), fun r k a1 a2 a3 a4 => hg r k (by omega) (by omega) (by omega), hG _ _ (by omega) (by omega)⟩, ⟨o ^^^ tu T v, ho', hz3, hy3⟩, ρ e, Or.inl rfl, hρ0, ?_, ?_, hρ, ⟨?_, ?_, ?_, ?_, ?_⟩, ⟨0, by decide, ?_, ?_, ?_⟩, ⟨0, by decide, ?_, ?_, fun _ => rfl⟩, p + 1, st + 1, h, hz, hy, ?_, h4, ?_⟩
    · rw [hG _ _ (by omega) (by omega)]; exact (c1 e he).1
    · rw [hg _ _ (by omega) (by omega) (by omega)]; exact (c1 e he).2
    · rw [hG _ _ (by omega) (by omega), hg _ _ (by omega) (by omega) (by omega)]; exact e1
    · rw [hG _ _ (by omega) (by omega), hg _ _ (by omega) (by omega) (by omega)]; exact e2
    · rw [hG _ _ (by omega) (by omega), hg _ _ (by omega) (by omega) (by omega)]; exact e3
    · rw [hz2, hy2, e4]
    · rw [hG _ _ (by omega) (by omega), hg _ _ (by omega) (by omega) (by omega)]; exact e5
    · rw [hG _ _ (by omega) (by omega)]; exact f1
    · rw [hg _ _ (by omega) (by omega) (by omega)]; exact f2
    · rw [hg _ _ (by omega) (by omega) (by omega)]; exact f3
    · rw [hG _ _ (by omega) (by omega)]; exact g1
    · rw [hg _ _ (by omega) (by omega) (by omega)]; exact g2
    · rw [hg _ _ (by omega) (by omega) (by omega)]; exact h3
    · obtain ⟨n, f, q, hc1, hc2⟩ := hc
      exact ⟨n, f, q, hc1, hc2.keep (fun k _ => hG _ _ (by omega) (by omega)) (fun j _ => hg _ _ (by omega) (by omega) (by omega))⟩
end TAKES
