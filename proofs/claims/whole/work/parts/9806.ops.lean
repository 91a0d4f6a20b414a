/-! ways, counts -/
theorem mway {C1 C2 : Prop} [Decidable C1] [Decidable C2] {x : Nat} {G G1 G2 : sm_G} {L : sm_L} {F : Nat → sm_G → sm_L → Option (sm_Res × sm_D)} : sm_aI (if C1 then (if C2 then oI (i3 0) x G L else oI (i3 1) x G1 L) else oI (i3 1) x G2 L) (fun a1 x1 G1 L1 => if a1 = i3 0 then F x1 G1 L1 else oI (i3 0) x1 G1 L1) oX = if C1 then (if C2 then F x G L else oI (i3 0) x G1 L) else oI (i3 0) x G2 L := by
  split
  · split
    · rfl
    · rfl
  · rfl
theorem e29_0 {d x : Nat} {V : pV} {G : sm_G} {L : sm_L} : sm_cv0 (d + 1) 29 342 (RR V) [.ref 1, .int (i3 0)] (x, G, L) = rfC 2 x G L := by
  have e := s_29 (d := d) (x := x) (G := G) (L := L) (V := V) (b := false)
  rw [if_neg (by decide)] at e
  exact e
theorem e29_1 {d x : Nat} {V : pV} {G : sm_G} {L : sm_L} : sm_cv0 (d + 1) 29 342 (RR V) [.ref 1, .int (i3 1)] (x, G, L) = oV x G L := by
  have e := s_29 (d := d) (x := x) (G := G) (L := L) (V := V) (b := true)
  rw [if_pos rfl] at e
  exact e
theorem op_54 {d x : Nat} {V : pV} {G : sm_G} {L : sm_L} {v w u : Int32} (I : Inv V G) : OpI d x V G L 54 [.ref 1, .int v, .int w, .int u] 294 [.ref 156, .int v, .int w, .int u] eI := by
  have I0 := I
  obtain ⟨T, K, c, H, W, hS, hh, hn⟩ := I
  have hB := hS.T.gb
  have ec := m_54 (d := d + 59) (x := x) (G := G) (L := L) (V := V) (v1 := v) (v2 := w) (v3 := u)
  rw [s_47 hS.c.gsl hS.V, aV_if, s_38, aV_if] at ec
  refine OpI_2 (Y := ?Y) I0 ec ?_ (by decide) (by decide) ?_
  rotate_left
  · intro x1 G1 hs
    have hm := hS.m.sM hS.T hS.P hs
    rw [m_294, s_282 hm.gsl (by omega) g00_0, mway]
    rfl
  · intro h1 h2
    obtain ⟨a, rfl, ha⟩ := rng (by omega) h1.1
    obtain ⟨b, rfl, hb⟩ := rng (by omega) h1.2
    obtain ⟨m, rfl, hm⟩ := rngl (by omega) h2
    obtain ⟨G1, a1, hS1, hh1, hn1, hs1, hO⟩ := hS.s15 (d := d + 55) (x := x) (L := L) hh hn
    obtain ⟨g2, b1, b2, b3, b5, b6, b7, b8⟩ := hS1.lays (d := d + 56) (x := x) (L := L) hh1 hn1
    have e166 := s_166 (d := d + 56) (x := x) (G := G1) (L := L) (V := V) (E := 0) (a := a) (b := b) (m := m) (hV1 hS.V) hS1.c hS.T (hO.cw hS.T hS.P) (by omega) (by omega) (by omega) (by omega)
    simp only [Nat.or_zero] at e166
    have e292 := s_292 (d := d + 57) (x := x) (L := L) (V := V) (a := a) (b := b) (m := m) b3 hS.T b2 (by omega) (by omega) (by omega)
    refine ⟨mi (tg T (tB T (H c) K) (dat T (H c)) (301 - m) m (1 <<< a &&& tB T (H c) K m) (1 <<< b &&& tB T (H c) K m)), G1, g2, ?_, hs1, ?_, b5, b6⟩
    · rw [a1]
      simp (disch := omega) only [i3_add, i3_mul, i3_sub, i3_m1, i3_lt, i3_le, i3_eq, m1_lt, lt_m1, m1_le, le_m1, i3_nm1, m1_ni3, i3_cl, i3_in, i3_or, i3_and, i3_xor, i3_shl, i3_shr, sh_tb, tb_eq0, gd_tt, aI_o, aV_o, aL_o, aR_o, zd_0, zd_1, if_true, if_false, ite_self, eq_self, Bool.true_eq_false, Bool.false_eq_true, bi_0, bi_1, bi_zd, Nat.not_lt_zero, k_54, e166]
    · rw [b1]
      simp (disch := omega) only [i3_add, i3_mul, i3_sub, i3_m1, i3_lt, i3_le, i3_eq, m1_lt, lt_m1, m1_le, le_m1, i3_nm1, m1_ni3, i3_cl, i3_in, i3_or, i3_and, i3_xor, i3_shl, i3_shr, sh_tb, tb_eq0, gd_tt, aI_o, aV_o, aL_o, aR_o, zd_0, zd_1, if_true, if_false, ite_self, eq_self, Bool.true_eq_false, Bool.false_eq_true, bi_0, bi_1, bi_zd, Nat.not_lt_zero, e292]
theorem op_52 {d x : Nat} {V : pV} {G : sm_G} {L : sm_L} {v w u : Int32} (I : Inv V G) : OpI d x V G L 52 [.ref 1, .int v, .int w, .int u] 289 [.ref 156, .int v, .int w, .int u] eI := by
  have I0 := I
  obtain ⟨T, K, c, H, W, hS, hh, hn⟩ := I
  have hB := hS.T.gb
  have ec := m_52 (d := d + 59) (x := x) (G := G) (L := L) (V := V) (v1 := v) (v2 := w) (v3 := u)
  rw [s_47 hS.c.gsl hS.V, aV_if, s_38, aV_if] at ec
  refine OpI_2 (Y := ?Y) I0 ec ?_ (by decide) (by decide) ?_
  rotate_left
  · intro x1 G1 hs
    have hm := hS.m.sM hS.T hS.P hs
    rw [m_289, s_282 hm.gsl (by omega) g00_0, mway]
    rfl
  · intro h1 h2
    obtain ⟨a, rfl, ha⟩ := rng (by omega) h1.1
    obtain ⟨b, rfl, hb⟩ := rng (by omega) h1.2
    obtain ⟨m, rfl, hm⟩ := rngl (by omega) h2
    have hdl : ∀ m, dat T (H c) m < 1024 := dat_lt hS.T hS.P
    obtain ⟨G1, a1, hS1, hh1, hn1, hs1, hO⟩ := hS.s15 (d := d + 55) (x := x) (L := L) hh hn
    obtain ⟨g2, b1, b2, b3, b5, b6, b7, b8⟩ := hS1.lays (d := d + 55) (x := x) (L := L) hh1 hn1
    have e164 := s_164 (d := d + 54) (x := x) (G := G1) (L := L) (V := V) (a := a) (b := b) (m := m) (both := false) (hV1 hS.V) hS1.c hS1.p hS.T (hO.cw hS.T hS.P) hS.K (by omega) (by omega) (by omega)
    rw [least_eq hS.T hS.K] at e164
    obtain ⟨g3, q1, q2⟩ := l_290 (d := d + 56) (x := x) (G := g2) (L := L) (V := V) (a := a) (b := b) (m := m) (dm := dat T (H c)) (both := false) b3 hS.T hS.P hS.K (fun k hk => (b7 k (by omega)).2) (fun k hk => (b7 k (by omega)).1) (fun m hm => ⟨(b2 m hm).2.1, hdl m⟩) (by omega) (by omega) (by omega) (2 ^ sl T) 0 0 g2 (by omega) (Nat.le_refl _) (fun _ _ _ _ => rfl)
    rw [mi_zero] at q1
    refine ⟨mi (itr (mst (fun E => wk T (tB T (H c) E) (dat T (H c)) a b m false) K) 0 (2 ^ sl T) 0), G1, g3, ?_, hs1, ?_, by rw [q2 _ _ (by omega) (by omega)]; exact b5, Inv_q hS1 (fun _ _ _ => rfl) hh1 hn1 (fun r k a => by rw [q2 r k (by unfold sc at a; omega) (by unfold sc at a; omega)]; exact b8 r k (by unfold sc at a; omega) (by unfold sc at a; omega))⟩
    · rw [a1]
      rw [show bi false = i3 0 from rfl] at e164
      simp (disch := omega) only [i3_add, i3_mul, i3_sub, i3_m1, i3_lt, i3_le, i3_eq, m1_lt, lt_m1, m1_le, le_m1, i3_nm1, m1_ni3, i3_cl, i3_in, i3_or, i3_and, i3_xor, i3_shl, i3_shr, sh_tb, tb_eq0, gd_tt, aI_o, aV_o, aL_o, aR_o, zd_0, zd_1, if_true, if_false, ite_self, eq_self, Bool.true_eq_false, Bool.false_eq_true, bi_0, bi_1, bi_zd, Nat.not_lt_zero, k_54, e164]
    · rw [m_290, b1]
      rw [show bi false = i3 0 from rfl] at q1
      simp only [aV_o]
      rw [q1]
      rfl
theorem op_53 {d x : Nat} {V : pV} {G : sm_G} {L : sm_L} {v w u : Int32} (I : Inv V G) : OpI d x V G L 53 [.ref 1, .int v, .int w, .int u] 293 [.ref 156, .int v, .int w, .int u] eI := by
  have I0 := I
  obtain ⟨T, K, c, H, W, hS, hh, hn⟩ := I
  have hB := hS.T.gb
  have ec := m_53 (d := d + 59) (x := x) (G := G) (L := L) (V := V) (v1 := v) (v2 := w) (v3 := u)
  rw [s_47 hS.c.gsl hS.V, aV_if, s_38, aV_if] at ec
  refine OpI_2 (Y := ?Y) I0 ec ?_ (by decide) (by decide) ?_
  rotate_left
  · intro x1 G1 hs
    have hm := hS.m.sM hS.T hS.P hs
    rw [m_293, s_282 hm.gsl (by omega) g00_0, mway]
    rfl
  · intro h1 h2
    obtain ⟨a, rfl, ha⟩ := rng (by omega) h1.1
    obtain ⟨b, rfl, hb⟩ := rng (by omega) h1.2
    obtain ⟨m, rfl, hm⟩ := rngl (by omega) h2
    have hdl : ∀ m, dat T (H c) m < 1024 := dat_lt hS.T hS.P
    obtain ⟨G1, a1, hS1, hh1, hn1, hs1, hO⟩ := hS.s15 (d := d + 55) (x := x) (L := L) hh hn
    obtain ⟨g2, b1, b2, b3, b5, b6, b7, b8⟩ := hS1.lays (d := d + 55) (x := x) (L := L) hh1 hn1
    have e164 := s_164 (d := d + 54) (x := x) (G := G1) (L := L) (V := V) (a := a) (b := b) (m := m) (both := true) (hV1 hS.V) hS1.c hS1.p hS.T (hO.cw hS.T hS.P) hS.K (by omega) (by omega) (by omega)
    rw [least_eq hS.T hS.K] at e164
    obtain ⟨g3, q1, q2⟩ := l_290 (d := d + 56) (x := x) (G := g2) (L := L) (V := V) (a := a) (b := b) (m := m) (dm := dat T (H c)) (both := true) b3 hS.T hS.P hS.K (fun k hk => (b7 k (by omega)).2) (fun k hk => (b7 k (by omega)).1) (fun m hm => ⟨(b2 m hm).2.1, hdl m⟩) (by omega) (by omega) (by omega) (2 ^ sl T) 0 0 g2 (by omega) (Nat.le_refl _) (fun _ _ _ _ => rfl)
    rw [mi_zero] at q1
    refine ⟨mi (itr (mst (fun E => wk T (tB T (H c) E) (dat T (H c)) a b m true) K) 0 (2 ^ sl T) 0), G1, g3, ?_, hs1, ?_, by rw [q2 _ _ (by omega) (by omega)]; exact b5, Inv_q hS1 (fun _ _ _ => rfl) hh1 hn1 (fun r k a => by rw [q2 r k (by unfold sc at a; omega) (by unfold sc at a; omega)]; exact b8 r k (by unfold sc at a; omega) (by unfold sc at a; omega))⟩
    · rw [a1]
      rw [show bi true = i3 1 from rfl] at e164
      simp (disch := omega) only [i3_add, i3_mul, i3_sub, i3_m1, i3_lt, i3_le, i3_eq, m1_lt, lt_m1, m1_le, le_m1, i3_nm1, m1_ni3, i3_cl, i3_in, i3_or, i3_and, i3_xor, i3_shl, i3_shr, sh_tb, tb_eq0, gd_tt, aI_o, aV_o, aL_o, aR_o, zd_0, zd_1, if_true, if_false, ite_self, eq_self, Bool.true_eq_false, Bool.false_eq_true, bi_0, bi_1, bi_zd, Nat.not_lt_zero, k_54, e164]
    · rw [m_290, b1]
      rw [show bi true = i3 1 from rfl] at q1
      simp only [aV_o]
      rw [q1]
      rfl
theorem op_48 {d x : Nat} {V : pV} {G : sm_G} {L : sm_L} {v w u y : Int32} (I : Inv V G) : OpI d x V G L 48 [.ref 1, .int v, .int w, .int u, .int y] 285 [.ref 156, .int v, .int w, .int u, .int y] eI := by
  have I0 := I
  obtain ⟨T, K, c, H, W, hS, hh, hn⟩ := I
  have hB := hS.T.gb
  have ec := m_48 (d := d + 59) (x := x) (G := G) (L := L) (V := V) (v1 := v) (v2 := w) (v3 := u) (v4 := y)
  have hc2 : sm_cv0 (d + 60) 48 342 (RR V) [.ref 1, .int v, .int w, .int u, .int y] (x, G, L) = if (¬ v < i3 0 ∧ v < i3 (sl T)) ∧ (¬ u < i3 0 ∧ u < i3 (sl T)) then (if (¬ w < i3 0 ∧ w ≤ i3 300) ∧ (¬ y < i3 0 ∧ y ≤ i3 300) then hD (d + 59) 48 30 [.ref 1, .int v, .int w, .int u, .int y] 342 (RR V) x G L else rfC 2 x G L) else rfC 0 x G L := by
    rw [ec, s_47 hS.c.gsl hS.V, aV_if]
    by_cases h1 : (¬ v < i3 0 ∧ v < i3 (sl T)) ∧ (¬ u < i3 0 ∧ u < i3 (sl T))
    · rw [if_pos h1, if_pos h1, s_39]
      simp only [aI_o]
      by_cases h2 : ¬ w < i3 0 ∧ w ≤ i3 300
      · rw [decide_eq_true h2, if_neg (by decide), s_39]
        simp only [aI_o]
        by_cases h3 : ¬ y < i3 0 ∧ y ≤ i3 300
        · rw [decide_eq_true h3, if_neg (by decide), if_pos ⟨h2, h3⟩, e29_1]; rfl
        · rw [decide_eq_false h3, if_pos (by decide), if_neg (fun z => h3 z.2), e29_0]; rfl
      · rw [decide_eq_false h2, if_pos (by decide), if_neg (fun z => h2 z.1), e29_0]; rfl
    · rw [if_neg h1, if_neg h1]
  refine OpI_2 (Y := fun x1 G1 => hD (d + 59) 285 59 [.ref 156, .int v, .int w, .int u, .int y, .null, .null, .null, .null] 342 (RR V) x1 (g00 G1) L) I0 hc2 ?_ (by decide) (by decide) ?_
  · intro x1 G1 hs
    have hm := hS.m.sM hS.T hS.P hs
    have b0 := s_219b (d := d + 58) (x := x1) (L := L) (V := V) (G := g00 G1) (a := 2) (k := 2) (by decide) (by decide) (by decide) g00_0
    have o0 := s_219o (d := d + 58) (x := x1) (L := L) (V := V) (G := g00 G1) (v2 := i3 2) (v3 := i3 2) g00_0
    rw [m_285, s_283 hm.gsl (by omega)]
    simp only [aI_o]
    rw [mbad g00_0 (by decide) (by decide) (by decide), h_285_28, s_253]
    simp only [aI_o]
    by_cases h1 : (¬ v < i3 0 ∧ v < i3 (sl T)) ∧ (¬ u < i3 0 ∧ u < i3 (sl T))
    · rw [if_pos h1, if_pos h1]
      by_cases h2 : ¬ w < i3 0 ∧ w ≤ i3 300
      · rw [decide_eq_true h2, if_neg (by decide), s_253]
        simp only [aI_o]
        by_cases h3 : ¬ y < i3 0 ∧ y ≤ i3 300
        · rw [decide_eq_true h3, if_neg (by decide), if_pos ⟨h2, h3⟩, o0]; rfl
        · rw [decide_eq_false h3, if_pos (by decide), if_neg (fun z => h3 z.2), b0]; rfl
      · rw [decide_eq_false h2, if_pos (by decide), if_neg (fun z => h2 z.1), b0]; rfl
    · rw [if_neg h1, if_neg h1]; rfl
  · intro h1 h2
    obtain ⟨a, rfl, ha⟩ := rng (by omega) h1.1
    obtain ⟨b, rfl, hb⟩ := rng (by omega) h1.2
    obtain ⟨m, rfl, hm⟩ := rngl (by omega) h2.1
    obtain ⟨m2, rfl, hm2⟩ := rngl (by omega) h2.2
    obtain ⟨G1, a1, hS1, hh1, hn1, hs1, hO⟩ := hS.s15 (d := d + 55) (x := x) (L := L) hh hn
    obtain ⟨G2, q1, q2⟩ := s_161 (d := d + 55) (x := x) (G := G1) (L := L) (V := V) (a := a) (b := b) (m := m) (m2 := m2) (hV1 hS.V) hS1.c hS.T (hO.cw hS.T hS.P) (by omega) (by omega) (by omega) (by omega)
    have hS2 := hS1.keep (fun r k a => q2 r k (by unfold sc at a; omega))
    have hm0 := hS2.m.sM hS.T hS.P (sM_o (G := G2))
    obtain ⟨g3, p1, p2⟩ := l_285 (d := d + 56) (x := x) (G := g00 G2) (L := L) (V := V) (a := a) (b := b) (m := m) (m2 := m2) hm0 hS.T hS.P hS.K8 (fun k hk => by rw [g00_ne (by omega)]; exact hS2.w k (by omega)) (by omega) (by omega) (by omega) (by omega)
    refine ⟨mi (way T (tB T (H c) K) (dat T (H c)) a m b m2), G2, g3, ?_, fun r k a => (q2 r k (by omega)).trans (hs1 r k a), p1, by rw [p2 _ _ (by omega) (by omega) (by omega) (by omega) (by omega)]; exact g00_0, Inv_q hS2 (fun _ _ _ => rfl) (hh1.keep (q2 _ _ (by omega)) (fun r k _ _ => q2 r k (by omega))) (hn1.keep hS.T (q2 _ _ (by omega)) (fun r k _ _ => q2 r k (by omega))) (fun r k a => by rw [p2 r k (by unfold sc at a; omega) (by unfold sc at a; omega) (by unfold sc at a; omega) (by unfold sc at a; omega) (by unfold sc at a; omega)]; exact g00_ne (by unfold sc at a; omega))⟩
    rw [h_48_30, a1]
    simp (disch := omega) only [i3_add, i3_mul, i3_sub, i3_m1, i3_lt, i3_le, i3_eq, m1_lt, lt_m1, m1_le, le_m1, i3_nm1, m1_ni3, i3_cl, i3_in, i3_or, i3_and, i3_xor, i3_shl, i3_shr, sh_tb, tb_eq0, gd_tt, aI_o, aV_o, aL_o, aR_o, zd_0, zd_1, if_true, if_false, ite_self, eq_self, Bool.true_eq_false, Bool.false_eq_true, bi_0, bi_1, bi_zd, Nat.not_lt_zero, k_54, q1]
theorem op_66 {d x : Nat} {V : pV} {G : sm_G} {L : sm_L} {v w u : Int32} (I : Inv V G) : OpI d x V G L 66 [.ref 1, .int v, .int w, .int u] 311 [.ref 156, .int v, .int w, .int u] eI := by
  have I0 := I
  obtain ⟨T, K, c, H, W, hS, hh, hn⟩ := I
  have hB := hS.T.gb
  have ec := m_66 (d := d + 59) (x := x) (G := G) (L := L) (V := V) (v1 := v) (v2 := w) (v3 := u)
  have hc2 : sm_cv0 (d + 60) 66 342 (RR V) [.ref 1, .int v, .int w, .int u] (x, G, L) = if ¬ v < i3 0 ∧ v < i3 (sl T) then (if (¬ w < i3 0 ∧ w ≤ i3 300) ∧ (¬ u < i3 0 ∧ u ≤ i3 300) ∧ w ≤ u then hD (d + 59) 66 33 [.ref 1, .int v, .int w, .int u] 342 (RR V) x G L else rfC 2 x G L) else rfC 0 x G L := by
    rw [ec, s_41 hS.c.gsl hS.V, aV_if]
    by_cases h1 : ¬ v < i3 0 ∧ v < i3 (sl T)
    · rw [if_pos h1, if_pos h1, s_39]
      simp only [aI_o]
      by_cases h2 : ¬ w < i3 0 ∧ w ≤ i3 300
      · rw [decide_eq_true h2, if_neg (by decide), s_39]
        simp only [aI_o]
        by_cases h3 : ¬ u < i3 0 ∧ u ≤ i3 300
        · rw [decide_eq_true h3, if_neg (by decide)]
          by_cases h4 : w ≤ u
          · rw [if_pos h4, if_pos ⟨h2, h3, h4⟩, e29_1]; rfl
          · rw [if_neg h4, if_neg (fun z => h4 z.2.2), e29_0]; rfl
        · rw [decide_eq_false h3, if_pos (by decide), if_neg (fun z => h3 z.2.1), e29_0]; rfl
      · rw [decide_eq_false h2, if_pos (by decide), if_neg (fun z => h2 z.1), e29_0]; rfl
    · rw [if_neg h1, if_neg h1]
  refine OpI_2 (Y := fun x1 G1 => hD (d + 59) 311 62 [.ref 156, .int v, .int w, .int u] 342 (RR V) x1 (g00 G1) L) I0 hc2 ?_ (by decide) (by decide) ?_
  · intro x1 G1 hs
    have hm := hS.m.sM hS.T hS.P hs
    have b0 := s_219b (d := d + 58) (x := x1) (L := L) (V := V) (G := g00 G1) (a := 2) (k := 2) (by decide) (by decide) (by decide) g00_0
    have o0 := s_219o (d := d + 58) (x := x1) (L := L) (V := V) (G := g00 G1) (v2 := i3 2) (v3 := i3 2) g00_0
    rw [m_311, s_248 hm.gsl (by omega)]
    simp only [aI_o]
    rw [mbad g00_0 (by decide) (by decide) (by decide), h_311_27, s_253]
    simp only [aI_o]
    by_cases h1 : ¬ v < i3 0 ∧ v < i3 (sl T)
    · rw [if_pos h1, if_pos h1]
      by_cases h2 : ¬ w < i3 0 ∧ w ≤ i3 300
      · rw [decide_eq_true h2, if_neg (by decide), s_253]
        simp only [aI_o]
        by_cases h3 : ¬ u < i3 0 ∧ u ≤ i3 300
        · rw [decide_eq_true h3, if_neg (by decide)]
          by_cases h4 : w ≤ u
          · rw [if_neg (Int32.not_lt.mpr h4), if_pos ⟨h2, h3, h4⟩, o0]; rfl
          · rw [if_pos (Int32.not_le.mp h4), if_neg (fun z => h4 z.2.2), b0]; rfl
        · rw [decide_eq_false h3, if_pos (by decide), if_neg (fun z => h3 z.2.1), b0]; rfl
      · rw [decide_eq_false h2, if_pos (by decide), if_neg (fun z => h2 z.1), b0]; rfl
    · rw [if_neg h1, if_neg h1]; rfl
  · intro h1 h2
    obtain ⟨a, rfl, ha⟩ := rng (by omega) h1
    obtain ⟨m, rfl, hm⟩ := rngl (by omega) h2.1
    obtain ⟨e, rfl, he⟩ := rngl (by omega) h2.2.1
    have hme := h2.2.2
    rw [i3_le (by omega) (by omega)] at hme
    obtain ⟨G1, a1, hS1, hh1, hn1, hs1, hO⟩ := hS.s15 (d := d + 55) (x := x) (L := L) hh hn
    obtain ⟨g2, b1, b2, b3, b5, b6, b7, b8⟩ := hS1.lays (d := d + 56) (x := x) (L := L) hh1 hn1
    have e167 := s_167 (d := d + 56) (x := x) (G := G1) (L := L) (V := V) (a := a) (m := m) (e := e) (hV1 hS.V) hS1.c hS.T (hO.cw hS.T hS.P) (by omega) (by omega) (by omega) hme
    have e312 := s_312 (d := d + 57) (x := x) (G := g2) (L := L) (V := V) (A := 1 <<< a) (m := m) (e := e) b3 hS.T b2 (by omega) (by omega) hme
    refine ⟨i3 (rch T (tB T (H c) K) (dat T (H c)) (e - m) m (1 <<< a &&& tB T (H c) K m)), G1, g2, ?_, hs1, ?_, b5, b6⟩
    · rw [h_66_33, a1]
      simp (disch := omega) only [i3_add, i3_mul, i3_sub, i3_m1, i3_lt, i3_le, i3_eq, m1_lt, lt_m1, m1_le, le_m1, i3_nm1, m1_ni3, i3_cl, i3_in, i3_or, i3_and, i3_xor, i3_shl, i3_shr, sh_tb, tb_eq0, gd_tt, aI_o, aV_o, aL_o, aR_o, zd_0, zd_1, if_true, if_false, ite_self, eq_self, Bool.true_eq_false, Bool.false_eq_true, bi_0, bi_1, bi_zd, Nat.not_lt_zero, k_54, e167]
    · rw [h_311_62, b1]
      simp (disch := omega) only [i3_add, i3_mul, i3_sub, i3_m1, i3_lt, i3_le, i3_eq, m1_lt, lt_m1, m1_le, le_m1, i3_nm1, m1_ni3, i3_cl, i3_in, i3_or, i3_and, i3_xor, i3_shl, i3_shr, sh_tb, tb_eq0, gd_tt, aI_o, aV_o, aL_o, aR_o, zd_0, zd_1, if_true, if_false, ite_self, eq_self, Bool.true_eq_false, Bool.false_eq_true, bi_0, bi_1, bi_zd, Nat.not_lt_zero, e312]
theorem op_71 {d x : Nat} {V : pV} {G : sm_G} {L : sm_L} {v : Int32} (I : Inv V G) : OpI d x V G L 71 [.ref 1, .int v] 321 [.ref 156, .int v] eA := by
  have I0 := I
  obtain ⟨T, K, c, H, W, hS, hh, hn⟩ := I
  have hB := hS.T.gb
  have ec := m_71 (d := d + 59) (x := x) (G := G) (L := L) (V := V) (v1 := v)
  rw [s_38, aV_if] at ec
  refine OpI_1 (Y := ?Y) I0 ec ?_ (by decide) ?_
  rotate_left
  · intro x1 G1 hs
    have hm := hS.m.sM hS.T hS.P hs
    rw [m_321, s_253]
    simp only [aI_o]
    rw [mbad g00_0 (by decide) (by decide) (by decide)]
    rfl
  · intro h1
    obtain ⟨m, rfl, hm⟩ := rngl (by omega) h1
    obtain ⟨G1, a1, hS1, hh1, hn1, hs1, hO⟩ := hS.s15 (d := d + 55) (x := x) (L := L) hh hn
    obtain ⟨G2, q1, q2⟩ := s_168 (d := d + 56) (x := x) (G := G1) (L := L) (V := V) (m := m) (hV1 hS.V) hS1.c hS.T (hO.cw hS.T hS.P) (by omega)
    have hS2 := hS1.keep (fun r k a => q2 r k (by unfold sc at a; omega))
    have hh2 : hHr G2 T (H c) K := hh1.keep (q2 _ _ (by omega)) (fun r k _ _ => q2 r k (by omega))
    have hn2 : nHr G2 T (H c) K W := hn1.keep hS.T (q2 _ _ (by omega)) (fun r k _ _ => q2 r k (by omega))
    obtain ⟨g2, b1, b2, b3, b5, b6, b7, b8⟩ := hS2.lays (d := d + 56) (x := x) (L := L) hh2 hn2
    have e321 := l_321 (d := d + 57) (x := x) (G := g2) (L := L) (V := V) (m := m) b3 hS.T b2 (by omega) (bs_lt _ _)
    refine ⟨i3 (tB T (H c) K m ^^^ (tB T (H c) K m &&& gbk T (tB T (H c) K) (dat T (H c)) (tB T (H c) K 300) 0 300 (300 - m))), G2, g2, ?_, fun r k a => (q2 r k (by omega)).trans (hs1 r k a), ?_, b5, b6⟩
    · rw [a1]
      simp (disch := omega) only [i3_add, i3_mul, i3_sub, i3_m1, i3_lt, i3_le, i3_eq, m1_lt, lt_m1, m1_le, le_m1, i3_nm1, m1_ni3, i3_cl, i3_in, i3_or, i3_and, i3_xor, i3_shl, i3_shr, sh_tb, tb_eq0, gd_tt, aI_o, aV_o, aL_o, aR_o, zd_0, zd_1, if_true, if_false, ite_self, eq_self, Bool.true_eq_false, Bool.false_eq_true, bi_0, bi_1, bi_zd, Nat.not_lt_zero, k_54, q1]
    · rw [b1]
      simp only [aV_o]
      exact e321
