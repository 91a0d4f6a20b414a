/-! nights gone through in full -/
theorem bs_congr {f f' : Nat → Bool} : ∀ {n : Nat}, (∀ e, e < n → f e = f' e) → bs f n = bs f' n
  | 0, _ => rfl
  | n + 1, h => by
    show bs f n ||| (if f n = true then 1 <<< n else 0) = bs f' n ||| (if f' n = true then 1 <<< n else 0)
    rw [bs_congr (fun e he => h e (by omega)), h n (by omega)]
theorem oV_inj {x : Nat} {G G' : sm_G} {L : sm_L} (h : oV x G L = oV x G' L) : G = G' := by
  unfold oV at h
  cases h
  rfl
section FRESH
variable {d x d' x' b s : Nat} {V U : pV} {L L' : sm_L} {T P : pT} {K : Nat} {W : Nat → pT} {r4 : Nat}
theorem wR_new {G g : sm_G} {f : Nat} (hW : okW T (W f)) (h1 : G (b + 5 + 4 * f) 1 = m1 ∧ G (b + 5 + 4 * f) 2 = m1 ∧ ∀ k, 3 ≤ k → k ≤ 10 → G (b + 5 + 4 * f) k = i3 0) (h2 : g 325 f = m1 ∧ g 326 f = i3 0 ∧ g 327 f = i3 0 ∧ g 328 f = i3 0 ∧ g 330 f = i3 0 ∧ g (315 + f) 0 = m1 ∧ ∀ k, 1 ≤ k → k < 6 → g (315 + f) k = i3 0) : wR G g b f T (W f) 0 := by
  obtain ⟨a1, a2, a3⟩ := h1
  obtain ⟨c1, c2, c3, c4, c5, c6, c7⟩ := h2
  obtain ⟨_, _, _, n, hn⟩ := hW
  exact ⟨a1, c1, Nat.zero_le _, ⟨a2.trans c6.symm, (a3 3 (by omega) (by omega)).trans (c7 1 (by omega) (by omega)).symm, (a3 4 (by omega) (by omega)).trans (c7 2 (by omega) (by omega)).symm, (a3 5 (by omega) (by omega)).trans (c7 3 (by omega) (by omega)).symm, (a3 6 (by omega) (by omega)).trans (c7 4 (by omega) (by omega)).symm⟩, ⟨0, by omega, a3 10 (by omega) (by omega), c5, c7 5 (by omega) (by omega)⟩, ⟨0, by omega, a3 8 (by omega) (by omega), c4, fun _ => rfl⟩, 0, 0, 0, a3 7 (by omega) (by omega), c2, c3, by omega, n, wS (W f), wZ (W f), hn, rfl, rfl⟩
/-- what the model's nights may change -/
def nFr2 (G G' : sm_G) : Prop := ∀ r k, ¬ (309 ≤ r ∧ r ≤ 330) → ¬ (r = 156 ∧ (k = 56 ∨ k = 57)) → G' r k = G r k
theorem play0 {G g : sm_G} {tt t0 : Nat → Nat} {ex : Nat} (hV : okV V) (hb : pN b) (hs : pS s) (hT : okT T) (hP : okP T P) (hC : nCx V G g b s T P K W) (kr : sm_is r4 342 20 = true) (nr : sm_N r4 = 301) (hr4 : r4 = 56 ∨ r4 = 58) (b4 : G b 4 = i3 (fo T))
    (hw : ∀ f, f < 4 → G (b + 5 + 4 * f) 1 = m1 ∧ G (b + 5 + 4 * f) 2 = m1 ∧ ∀ k, 3 ≤ k → k ≤ 10 → G (b + 5 + 4 * f) k = i3 0) (hrow : ∀ j, j < 301 → g 307 j = i3 (tt j) ∧ tt j < 1024 ∧ G r4 j = i3 (t0 j) ∧ t0 j ||| ex = tt j) (hh : ∀ j, j < 301 → G 57 j = i3 (dat T P j)) :
    ∃ G' g', sm_cv0 (d + 7) 88 342 (RR V) [.ref b, .ref s, .ref 5, .ref 54, .ref r4, .int (i3 ex), .int (i3 0), .int (i3 300)] (x, G, L) = oV x G' L ∧ sm_cv0 (d' + 7) 264 342 (RR U) [.ref 156] (x', g, L') = oI (i3 (lostB G' b (dr T))) x' g' L' ∧ FCa b 0 300 G G' ∧ nFr2 g g' ∧ nMat G' g' b T := by
  have hB := hT.gb
  have hbl := pN_lt hb
  have hsl := pS_lt hs
  have e260 := s_260 (d := d' + 5) (x := x') (L := L') (V := U) hC.2.1 hT
  have gx : ∀ r k, ¬ (r = 156 ∧ k = 56) → sm_up g 156 56 (i3 (fo T)) r k = g r k := fun r k q => sm_up_ne (by omega)
  have g56 : sm_up g 156 56 (i3 (fo T)) 156 56 = i3 (fo T) := sm_up_same _ _ _ _
  have c0 : sm_cv0 (d' + 7) 264 342 (RR U) [.ref 156] (x', g, L') = hD (d' + 6) 264 12 [.ref 156, .int (i3 0), .int (i3 0), .null] 342 (RR U) x' (sm_up g 156 56 (i3 (fo T))) L' := by
    rw [m_264, e260]
    rfl
  generalize sm_up g 156 56 (i3 (fo T)) = g0 at *
  obtain ⟨g1, q1, q2, q3, q4⟩ := l_init (d' := d' + 6) (x' := x') (L' := L') (U := U) (v1 := i3 0) hT hP (hC.2.1.keep hT hP (fun r k q => gx r k (by unfold inM at q; omega)))
  have gg : ∀ r k, ¬ (315 ≤ r ∧ r < 319) → ¬ (325 ≤ r ∧ r ≤ 330) → ¬ (r = 156 ∧ (k = 56 ∨ k = 57)) → g1 r k = g r k := fun r k a1 a2 a3 => by rw [q2 r k a1 a2 (by omega)]; exact gx r k (by omega)
  have hC1 : nCx V G g1 b s T P K W := hC.keep hV hs hT hP (fun _ _ _ => rfl) (fun r k a1 a2 => gg r k (by omega) (by omega) a2)
  obtain ⟨G', g', ρ', o', e1, e2, e3, e4, e5, e6, e7, e8, e9, e10, _⟩ := l_play (d := d + 1) (x := x) (L := L) (V := V) (d' := d' + 1) (x' := x') (L' := L') (U := U) (v1 := i3 0) (ex := ex) tt t0 (fun _ _ _ => True) hV hb hs hT hP (Nat.le_refl 300) kr nr hr4 (fun _ _ _ _ _ _ _ _ => trivial) 301 0 G g1 (fun _ => 0) (fo T) rfl hC1 (fun f hf => ⟨wR_new (hC1.2.2 f (by omega)).1 (hw f (by omega)) (q4 f hf), fun z => absurd rfl z⟩) (fo_lt hT) b4 (by rw [q2 _ _ (by omega) (by omega) (by omega)]; exact g56) q3 (fun j _ hj => by
      rw [gg _ _ (by omega) (by omega) (by omega)]; exact hrow j (by omega)) hh trivial
  have hm' : mH g' T P K := hC1.2.1.keep hT hP (fun r k q => e4 r k (by unfold inM at q; omega) (by unfold inM at q; omega) (by unfold inM at q; omega) (by unfold inM at q; omega) (by unfold inM at q; omega) (by unfold inM at q; omega))
  refine ⟨G', g', ?_, ?_, e3, fun r k a1 a2 => ?_, fun e he => ?_, fun m hm => e10 m (Nat.zero_le _) (by omega)⟩
  · rw [m_88 hb hs, s_5]
    simp (disch := omega) only [i3_add, i3_mul, i3_sub, i3_m1, i3_lt, i3_le, i3_eq, m1_lt, lt_m1, m1_le, le_m1, i3_nm1, m1_ni3, i3_cl, i3_in, i3_or, i3_and, i3_xor, i3_shl, i3_shr, sh_tb, tb_eq0, gd_tt, aI_o, aV_o, aL_o, aR_o, zd_0, zd_1, if_true, if_false, ite_self, eq_self, Bool.true_eq_false, Bool.false_eq_true, bi_0, bi_1, bi_zd, Nat.not_lt_zero, ite_self]
    exact e1
  · have e289 := l_289 (d' := d' + 6) (x' := x') (L' := L') (U := U) hm'.gdr (by omega)
    rw [c0, q1, e2, h_264_99, e9]
    simp (disch := omega) only [i3_add, i3_mul, i3_sub, i3_m1, i3_lt, i3_le, i3_eq, m1_lt, lt_m1, m1_le, le_m1, i3_nm1, m1_ni3, i3_cl, i3_in, i3_or, i3_and, i3_xor, i3_shl, i3_shr, sh_tb, tb_eq0, gd_tt, aI_o, aV_o, aL_o, aR_o, zd_0, zd_1, if_true, if_false, ite_self, eq_self, Bool.true_eq_false, Bool.false_eq_true, bi_0, bi_1, bi_zd, Nat.not_lt_zero, Nat.reduceEqDiff, Nat.reduceLeDiff, Nat.reduceLT, Nat.lt_irrefl]
    rw [e289]
    congr 2
    unfold lostB
    apply bs_congr
    intro e he
    have := (e5 e he).1.2.2.2.1.1
    simp only [this]
  · rw [e4 r k (by omega) (by omega) (by omega) (by omega) (by omega) (by omega)]
    exact gg r k (by omega) (by omega) a2
  · obtain ⟨_, _, _, ⟨a1, a2, a3, a4, a5⟩, ⟨z, z1, z2, z3, z4⟩, _⟩ := (e5 e he).1
    refine ⟨a1, a2, a3, a4, a5, z2.trans z4.symm, ?_⟩
    have hz : z = 0 ∨ z = 1 := by omega
    rcases hz with rfl | rfl
    · exact Or.inl z4
    · exact Or.inr z4
/-- the night as told, class's: and what the model's is then -/
theorem s_14 {G : sm_G} {c : Nat} {H : Nat → pT} (hS : IvS V G T K c H W) (hh : hHr G T (H c) K) (hn : nHr G T (H c) K W) :
    ∃ G', sm_cv0 (d + 12) 14 342 (RR V) [.ref 1] (x, G, L) = oR 63 x G' L ∧ (∀ r k, ¬ (55 ≤ r ∧ r < 84) → ¬ (r = 1 ∧ (k = 17 ∨ k = 18)) → G' r k = G r k) ∧ hHr G' T (H c) K ∧ nHr G' T (H c) K W ∧ G' 1 18 = i3 0 ∧ (G 1 17 = i3 0 → G' 1 17 = i3 0) := by
  rcases hn with h18 | ⟨h18, hn⟩
  · have hT := hS.T
    have hP := hS.P
    have hV := hS.V
    have hB := hT.gb
    have hs := hV1 hV
    have hsl := pS_lt hs
    obtain ⟨G1, f1, f2, f3, f4, f5⟩ := s_15 (d := d + 7) (x := x) (L := L) (V := V) hV hS.c hS.p hT hP hS.K hh
    obtain ⟨G2, g1, g2, g3, g4⟩ := s_87 (d := d + 8) (x := x) (L := L) (V := V) (G := G1) (b := 63) (s := V.1) (Or.inl rfl) hs
    have fr : ∀ r k, r < 55 ∨ 83 < r → ¬ (r = 1 ∧ k = 17) → G2 r k = G r k := fun r k a1 a2 => by
      rw [g2 r k (fun f hf => by omega) (by omega)]; exact f2 r k (by omega) a2
    have hC : ∀ g : sm_G, nIn g T (H c) K W → nCx V G2 g 63 V.1 T (H c) K W := fun g hg => ⟨hS.c.keep (fun r k q => by unfold inC at q; exact fr r k (by omega) (by omega)), hg.1, fun e he => ⟨(hS.wl e he).1, (hS.wl e he).2.1.keep (fun r k q1 q2 => fr r k (by have := pW_lt (hV.2.2.2.2.2 e he); omega) (by have := pW_lt (hV.2.2.2.2.2 e he); omega)), hg.2.2 e he⟩⟩
    have b4 : G2 63 4 = i3 (fo T) := by rw [g3, f2 _ _ (by omega) (by omega)]; exact hS.c.gfo
    have h57 : ∀ j, j < 301 → G2 57 j = i3 (dat T (H c) j) := fun j hj => by rw [g2 _ _ (fun f hf => by omega) (by omega)]; exact (f5 j hj).2.2
    have h56 : ∀ j, j < 301 → G2 56 j = i3 (tB T (H c) K j) := fun j hj => by rw [g2 _ _ (fun f hf => by omega) (by omega)]; exact (f5 j hj).2.1
    -- for any model's store
    have key : ∀ (d0 x0 : Nat) (V0 : pV) (g : sm_G) (L0 : sm_L), nIn g T (H c) K W → ∃ G' g', sm_cv0 (d + 11) 88 342 (RR V) [.ref 63, .ref V.1, .ref 5, .ref 54, .ref 56, .int (i3 0), .int (i3 0), .int (i3 300)] (x, G2, L) = oV x G' L ∧ sm_cv0 (d0 + 40) 263 342 (RR V0) [.ref 156] (x0, g, L0) = oI (i3 (lostB G' 63 (dr T))) x0 g' L0 ∧ FCa 63 0 300 G2 G' ∧ nFr g g' ∧ nMat G' g' 63 T ∧ mW g' (tB T (H c) K) (dat T (H c)) := by
      intro d0 x0 V0 g L0 hg
      obtain ⟨g1, k1, k2, k3, k4, k5⟩ := s_257 (d := d0 + 36) (x := x0) (L := L0) (V := V0) hg.1 hT hP hS.K8 (fun k hk => hg.2.1 k (by omega))
      have hg1 : nIn g1 T (H c) K W := ⟨hg.1.keep hT hP (fun r k q => k2 r k (by unfold inM at q; omega) (by unfold inM at q; omega) (by unfold inM at q; omega) (by unfold inM at q; omega)), fun k hk => by rw [k2 _ _ (by omega) (by omega) (by omega) (by omega)]; exact hg.2.1 k hk, fun e he => (hg.2.2 e he).keep he (fun r k q => k2 r k (by omega) (by omega) (by omega) (by omega))⟩
      obtain ⟨G', g', m1', m2', m3', m4', m5'⟩ := play0 (d := d + 4) (x := x) (L := L) (V := V) (d' := d0 + 32) (x' := x0) (L' := L0) (U := V0) (r4 := 56) (ex := 0) (tt := tB T (H c) K) (t0 := tB T (H c) K) hV (Or.inl rfl) hs hT hP (hC g1 hg1) k_56 n_56 (Or.inl rfl) b4 g4 (fun j hj => ⟨(k3 j hj).1, by have := (k3 j hj).2.2.1; omega, h56 j hj, Nat.or_zero _⟩) h57
      refine ⟨G', g', m1', ?_, m3', fun r k a1 a2 => ?_, m5', fun m hm => by rw [m4' _ _ (by omega) (by omega), m4' _ _ (by omega) (by omega)]; exact k3 m hm⟩
      · have e263 := m_263 (d := d0 + 39) (x := x0) (G := g) (L := L0) (V := V0)
        rw [k1] at e263
        simp only [aV_o] at e263
        rw [m2'] at e263
        exact e263
      · rw [m4' r k (by omega) (by omega)]
        exact k2 r k (by omega) (by omega) (by omega) (by omega)
    obtain ⟨G3, _, a1, _, a3, _, _, _⟩ := key 0 x V G L ⟨hS.m, hS.w, fun e he => (hS.wl e he).2.2⟩
    refine ⟨sm_up G3 1 18 (i3 0), ?_, fun r k q1 q2 => ?_, Or.inr ⟨?_, fun m hm => ?_⟩, Or.inr ⟨sm_up_same _ _ _ _, fun d0 x0 V0 g L0 hg => ?_⟩, sm_up_same _ _ _ _, fun _ => ?_⟩
    · rw [m_14, h18, f1]
      simp (disch := omega) only [i3_add, i3_mul, i3_sub, i3_m1, i3_lt, i3_le, i3_eq, m1_lt, lt_m1, m1_le, le_m1, i3_nm1, m1_ni3, i3_cl, i3_in, i3_or, i3_and, i3_xor, i3_shl, i3_shr, sh_tb, tb_eq0, gd_tt, aI_o, aV_o, aL_o, aR_o, zd_0, zd_1, if_true, if_false, ite_self, eq_self, Bool.true_eq_false, Bool.false_eq_true, bi_0, bi_1, bi_zd, Nat.not_lt_zero, Nat.reduceEqDiff, Nat.reduceLeDiff, Nat.reduceLT, g1, a1, k_54, q_54_1 V]
    · rw [sm_up_ne (by omega), a3 _ _ (by omega) (fun f hf => by omega) (by omega)]
      exact fr r k (by omega) (by omega)
    · rw [sm_up_ne (by omega), a3 _ _ (by omega) (fun f hf => by omega) (by omega), g2 _ _ (fun f hf => by omega) (by omega)]; exact f4
    · rw [sm_up_ne (by omega), sm_up_ne (by omega), sm_up_ne (by omega), a3 _ _ (by omega) (fun f hf => by omega) (by omega), a3 _ _ (by omega) (fun f hf => by omega) (by omega), a3 _ _ (by omega) (fun f hf => by omega) (by omega), g2 _ _ (fun f hf => by omega) (by omega), g2 _ _ (fun f hf => by omega) (by omega), g2 _ _ (fun f hf => by omega) (by omega)]
      exact f5 m hm
    · obtain ⟨G4, g', p1, p2, p3, p4, p5, p6⟩ := key d0 x0 V0 g L0 hg
      have : G4 = G3 := oV_inj (p1.symm.trans a1)
      subst this
      refine ⟨g', ?_, p4, p5.keep hT (fun r k q1 q2 => sm_up_ne (by omega)), p6⟩
      rw [lostB_keep hT.gb.2.2.2.1 (fun r k q1 q2 => sm_up_ne (by omega))]
      exact p2
    · rw [sm_up_ne (by omega), a3 _ _ (by omega) (fun f hf => by omega) (by omega), g2 _ _ (fun f hf => by omega) (by omega)]; exact f4
  · refine ⟨G, ?_, fun _ _ _ _ => rfl, hh, Or.inr ⟨h18, hn⟩, h18, fun z => z⟩
    rw [m_14, h18]
    simp (disch := omega) only [i3_add, i3_mul, i3_sub, i3_m1, i3_lt, i3_le, i3_eq, m1_lt, lt_m1, m1_le, le_m1, i3_nm1, m1_ni3, i3_cl, i3_in, i3_or, i3_and, i3_xor, i3_shl, i3_shr, sh_tb, tb_eq0, gd_tt, aI_o, aV_o, aL_o, aR_o, zd_0, zd_1, if_true, if_false, ite_self, eq_self, Bool.true_eq_false, Bool.false_eq_true, bi_0, bi_1, bi_zd, Nat.not_lt_zero]
end FRESH
