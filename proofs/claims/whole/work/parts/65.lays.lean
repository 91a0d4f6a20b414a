theorem fo_lt {T : pT} (hT : okT T) : fo T < 1024 := Nat.lt_of_lt_of_le (bs_lt _ _) (show 2 ^ dn T ≤ 2 ^ 10 from Nat.pow_le_pow_right (by decide) hT.gb.2.1)
theorem nx_lt {T P : pT} (hT : okT T) (hP : okP T P) (m : Nat) {a : Nat} (ha : a < 1024) : nx T P m a < 1024 := by
  unfold nx
  have key : ∀ n, n ≤ nn P → itr (fun i a => if nm P i = m then a ^^^ tu T (ns P i) else a) 0 n a < 1024 := by
    intro n
    induction n with
    | zero => intro _; exact ha
    | succ n ih =>
      intro hn
      rw [itr_succ, Nat.zero_add]
      have h := ih (by omega)
      have h2 := hT.gtu (ns P n) (hP.gnz n (by omega)).2
      have h3 : 2 ^ dn T ≤ 2 ^ 10 := Nat.pow_le_pow_right (by decide) hT.gb.2.1
      split
      · exact Nat.xor_lt_two_pow (n := 10) h (by omega)
      · exact h
  exact key _ (Nat.le_refl _)
theorem dat_lt {T P : pT} (hT : okT T) (hP : okP T P) : ∀ m, dat T P m < 1024
  | 0 => nx_lt hT hP 0 (fo_lt hT)
  | m + 1 => nx_lt hT hP (m + 1) (dat_lt hT hP m)
theorem s_257 {d x : Nat} {V : pV} {G : sm_G} {L : sm_L} {T P : pT} {K : Nat} (hm : mH G T P K) (hT : okT T) (hP : okP T P) (hK : K < 1024) (hw : ∀ k, k < sl T → G 305 k = i3 k) :
    ∃ G', sm_cv0 (d + 3) 257 342 (RR V) [.ref 156] (x, G, L) = oV x G' L ∧ (∀ r k, r ≠ 306 → r ≠ 307 → r ≠ 308 → ¬ (r = 156 ∧ k = 41) → G' r k = G r k) ∧ mW G' (tB T P K) (dat T P) ∧ (∀ k, k < 8 → G' 306 k = i3 1000) ∧ G' 156 41 = i3 K := by
  have hB := hT.gb
  have f1 : ∀ r k, r ≠ 306 → fill G 306 8 (fun _ => i3 1000) r k = G r k := fun r k h => fill_ne h
  have f2 : ∀ k, k < 8 → fill G 306 8 (fun _ => i3 1000) 306 k = i3 1000 := fun k h => fill_at h
  rw [m_257, s_254]
  simp only [aV_o]
  generalize fill G 306 8 (fun _ => i3 1000) = g1 at f1 f2 ⊢
  have hm1 : mH g1 T P K := hm.keep hT hP (fun r k h => f1 r k (by unfold inM at h; omega))
  have e258 := s_258 (d := d) (x := x) (L := L) (V := V) (w := fun k => k) (e := fun _ => 1000) hm1 hT hP hK (fun k hk => ⟨by rw [f1 305 k (by decide)]; exact hw k hk, by omega⟩) (fun k hk => ⟨f2 k (by omega), Nat.le_refl _⟩)
  rw [hm1.gkp, e258]
  simp only [aV_o]
  have g1' : ∀ r k, r ≠ 307 → ¬ (r = 156 ∧ k = 41) → fill (sm_up g1 156 41 (i3 K)) 307 301 (fun m => i3 (rmB T (fun k => slp T P (fun k => k) (fun _ => 1000) K k m))) r k = g1 r k := fun r k h1 h2 => by rw [fill_ne h1, sm_up_ne (by omega)]
  have g2' : ∀ m, m < 301 → fill (sm_up g1 156 41 (i3 K)) 307 301 (fun m => i3 (rmB T (fun k => slp T P (fun k => k) (fun _ => 1000) K k m))) 307 m = i3 (tB T P K m) := fun m hm => fill_at hm
  have g3' : fill (sm_up g1 156 41 (i3 K)) 307 301 (fun m => i3 (rmB T (fun k => slp T P (fun k => k) (fun _ => 1000) K k m))) 156 41 = i3 K := by rw [fill_ne (by decide), sm_up_same]
  generalize fill (sm_up g1 156 41 (i3 K)) 307 301 (fun m => i3 (rmB T (fun k => slp T P (fun k => k) (fun _ => 1000) K k m))) = g2 at g1' g2' g3' ⊢
  have hm2 : mH g2 T P K := hm1.keep hT hP (fun r k h => g1' r k (by unfold inM at h; omega) (by unfold inM at h; omega))
  rw [s_259 hm2 hT hP]
  simp only [aV_o]
  refine ⟨_, rfl, fun r k h1 h2 h3 h4 => ?_, fun m hm => ?_, fun k hk => ?_, ?_⟩
  · rw [fill_ne h3, g1' r k h2 h4, f1 r k h1]
  · refine ⟨?_, fill_at hm, rmB_lt T hT _, dat_lt hT hP m⟩
    rw [fill_ne (by decide)]
    exact g2' m hm
  · rw [fill_ne (by decide), g1' 306 k (by decide) (by omega)]
    exact f2 k hk
  · rw [fill_ne (by decide)]
    exact g3'
theorem l_285 {d x : Nat} {V : pV} {G : sm_G} {L : sm_L} {T P : pT} {K a b m m2 : Nat} (hm : mH G T P K) (hT : okT T) (hP : okP T P) (hK : K < 1024) (hw : ∀ k, k < sl T → G 305 k = i3 k) (ha : a < 8) (hb : b < 8) (hmm : m < 301) (hm2 : m2 < 301) :
    ∃ G', hD (d + 3) 285 59 [.ref 156, .int (i3 a), .int (i3 m), .int (i3 b), .int (i3 m2), .null, .null, .null, .null] 342 (RR V) x G L = oI (mi (way T (tB T P K) (dat T P) a m b m2)) x G' L ∧ ∀ r k, r ≠ 306 → r ≠ 307 → r ≠ 308 → r ≠ 331 → ¬ (r = 156 ∧ k = 41) → G' r k = G r k := by
  obtain ⟨g, f1, f2, hW, _, _⟩ := s_257 (d := d) (x := x) (L := L) (V := V) hm hT hP hK hw
  have hm1 : mH g T P K := hm.keep hT hP (fun r k h => f2 r k (by unfold inM at h; omega) (by unfold inM at h; omega) (by unfold inM at h; omega) (by unfold inM at h; omega))
  have e284 := s_284 (d := d + 1) (x := x) (L := L) (V := V) (e := 300) hm1 hT hW ha hb hmm (by decide)
  have e284 : sm_cv0 (d + 3) 284 342 (RR V) [.ref 156, .int (i3 a), .int (i3 m), .int (i3 b), .int (i3 300)] (x, g, L) = oI (mi (fs T (tB T P K) (dat T P) b (301 - m) m (1 <<< a &&& tB T P K m))) x g L := e284
  have hf := fs_le T (tB T P K) (dat T P) b (301 - m) m (1 <<< a &&& tB T P K m)
  rw [h_285_59, f1]
  unfold way
  cases q : fs T (tB T P K) (dat T P) b (301 - m) m (1 <<< a &&& tB T P K m) with
  | zero =>
    refine ⟨g, ?_, fun r k h1 h2 h3 _ h5 => f2 r k h1 h2 h3 h5⟩
    simp (disch := omega) only [i3_add, i3_mul, i3_sub, i3_m1, i3_lt, i3_le, i3_eq, m1_lt, lt_m1, m1_le, le_m1, i3_nm1, m1_ni3, i3_cl, i3_in, i3_or, i3_and, i3_xor, i3_shl, i3_shr, sh_tb, tb_eq0, gd_tt, aI_o, aV_o, aL_o, aR_o, zd_0, zd_1, if_true, if_false, ite_self, eq_self, Bool.true_eq_false, Bool.false_eq_true, bi_0, bi_1, bi_zd, Nat.not_lt_zero, e284, q, mi_zero]
  | succ l =>
    have w0 := way_0 q
    by_cases q2 : m2 < m
    · refine ⟨g, ?_, fun r k h1 h2 h3 _ h5 => f2 r k h1 h2 h3 h5⟩
      simp (disch := omega) only [i3_add, i3_mul, i3_sub, i3_m1, i3_lt, i3_le, i3_eq, m1_lt, lt_m1, m1_le, le_m1, i3_nm1, m1_ni3, i3_cl, i3_in, i3_or, i3_and, i3_xor, i3_shl, i3_shr, sh_tb, tb_eq0, gd_tt, aI_o, aV_o, aL_o, aR_o, zd_0, zd_1, if_true, if_false, ite_self, eq_self, Bool.true_eq_false, Bool.false_eq_true, bi_0, bi_1, bi_zd, Nat.not_lt_zero, e284, q, mi_succ, mi_zero, q2, Nat.succ_ne_zero]
    · by_cases q3 : m2 < l
      · obtain ⟨n, hn⟩ : ∃ n, l = m + n + 1 := ⟨l - m - 1, by omega⟩
        have hlast : gB T (tB T P K) (dat T P) b l l = 1 <<< b := by
          have hl := (fs_rch T (tB T P K) (dat T P) b _ _ _ _ q).2.2
          show gbk T (tB T P K) (dat T P) (1 <<< b) 0 l (l - l) = 1 <<< b
          rw [Nat.sub_self]
          show 1 <<< b &&& tB T P K l = 1 <<< b
          have hsub : ∀ n m R, R &&& tB T P K m = R → (rch T (tB T P K) (dat T P) n m R) &&& tB T P K (m + n) = rch T (tB T P K) (dat T P) n m R := by
            intro n
            induction n with
            | zero => intro m R h; exact h
            | succ n ih =>
              intro m R h
              have := ih (m + 1) (nxt T (tB T P K) (dat T P) R (m + 1)) (by unfold nxt; rw [Nat.and_assoc, Nat.and_self])
              rw [show m + 1 + n = m + (n + 1) by omega] at this
              exact this
          have h9 := hsub (l - m) m (1 <<< a &&& tB T P K m) (by rw [Nat.and_assoc, Nat.and_self])
          rw [show m + (l - m) = l by omega] at h9
          have h8 := and_sub h9 b hl
          apply eqb
          intro k
          rw [Nat.testBit_and, one_shl_tb]
          by_cases e : b = k
          · subst e; rw [h8, Bool.and_true]
          · rw [decide_eq_false e, Bool.false_and]
        have hm3 : mH (sm_up g 331 l (i3 (1 <<< b))) T P K := hm1.keep hT hP (fun r k h => sm_up_ne (by unfold inM at h; omega))
        have hW3 : mW (sm_up g 331 l (i3 (1 <<< b))) (tB T P K) (dat T P) := fun m hm => by rw [sm_up_ne (by omega), sm_up_ne (by omega)]; exact hW m hm
        obtain ⟨G', k1, k2⟩ := l_114 (d := d + 2) (x := x) (L := L) (V := V) (a := a) (m2 := m2) hm3 hT hP hW3 (show l < 301 by omega) (fun j _ => bs_lt _ _) ha (by omega) q3 w0.2.2 (l - m) (sm_up g 331 l (i3 (1 <<< b))) (by omega) (fun _ _ _ => rfl) (fun j h1 h2 => by
          have : j = l := by omega
          subst this
          rw [hlast]
          exact sm_up_same _ _ _ _)
        refine ⟨G', ?_, fun r k h1 h2 h3 h4 h5 => by rw [k2 r k h4, sm_up_ne (by omega)]; exact f2 r k h1 h2 h3 h5⟩
        rw [show m + (l - m) = l by omega, mi_s (by omega)] at k1
        simp (disch := omega) only [i3_add, i3_mul, i3_sub, i3_m1, i3_lt, i3_le, i3_eq, m1_lt, lt_m1, m1_le, le_m1, i3_nm1, m1_ni3, i3_cl, i3_in, i3_or, i3_and, i3_xor, i3_shl, i3_shr, sh_tb, tb_eq0, gd_tt, aI_o, aV_o, aL_o, aR_o, zd_0, zd_1, if_true, if_false, ite_self, eq_self, Bool.true_eq_false, Bool.false_eq_true, bi_0, bi_1, bi_zd, Nat.not_lt_zero, e284, q, mi_succ, q2, q3, Nat.succ_ne_zero, show m2 + 1 < l + 1 by omega, k1, Nat.add_sub_cancel]
      · refine ⟨g, ?_, fun r k h1 h2 h3 _ h5 => f2 r k h1 h2 h3 h5⟩
        simp (disch := omega) only [i3_add, i3_mul, i3_sub, i3_m1, i3_lt, i3_le, i3_eq, m1_lt, lt_m1, m1_le, le_m1, i3_nm1, m1_ni3, i3_cl, i3_in, i3_or, i3_and, i3_xor, i3_shl, i3_shr, sh_tb, tb_eq0, gd_tt, aI_o, aV_o, aL_o, aR_o, zd_0, zd_1, if_true, if_false, ite_self, eq_self, Bool.true_eq_false, Bool.false_eq_true, bi_0, bi_1, bi_zd, Nat.not_lt_zero, e284, q, mi_succ, q2, q3, Nat.succ_ne_zero, show ¬ m2 + 1 < l + 1 by omega]
