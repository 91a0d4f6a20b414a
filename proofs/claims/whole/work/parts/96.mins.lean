/-! the loops over the dreamers -/
section MINS
variable {d x d' x' b s : Nat} {V U : pV} {L L' : sm_L} {T P : pT} {K m t : Nat} {W : Nat → pT} {ρ : Nat → Nat} {v1 v5 v7 : Int32} {r4 : Nat}
/-- rooms behind coming and losing -/
def ρc (T : pT) (t m : Nat) (ρ : Nat → Nat) (f : Nat) : Nat := if gone t (arr T m f (ρ f)) = true then 0 else arr T m f (ρ f)
theorem l_comes {G g : sm_G} (hb : pN b) (hs : pS s) (hT : okT T) (hP : okP T P) (hc : cS G s T) (hmH : mH g T P K) (hρ : ∀ f, f < dr T → ρ f ≠ 0 → cM T f < m) (ht : t < 1024) (hm : m ≤ 300) (b7 : G b 7 = i3 t) (b6 : G b 6 = i3 m) (m57 : g 156 57 = i3 m) (m307 : g 307 m = i3 t) :
    ∀ (k i : Nat) (G1 g1 : sm_G), i + k = dr T → (∀ r k, (∀ f, f < 4 → ¬ (r = b + 5 + 4 * f ∧ (k = 1 ∨ k = 2))) → G1 r k = G r k) → (∀ r k, r ≠ 325 → ¬ (315 ≤ r ∧ r < 319 ∧ k = 0) → g1 r k = g r k) →
      (∀ f, f < dr T → wR G1 g1 b f T (W f) (if f < i then ρc T t m ρ f else ρ f) ∧ g1 (315 + f) 0 = if f < i ∧ gone t (arr T m f (ρ f)) = true then i3 m else g (315 + f) 0) →
      ∃ G' g', hD (d + 2) 88 60 [.ref b, .ref s, .ref 5, .ref 54, .ref r4, .int v5, .null, .int v7, .int (i3 m), .int (i3 i)] 342 (RR V) x G1 L = hD (d + 2) 88 103 [.ref b, .ref s, .ref 5, .ref 54, .ref r4, .int v5, .null, .int v7, .int (i3 m), .int (i3 0)] 342 (RR V) x G' L ∧
        hD (d' + 2) 264 127 [.ref 156, .int v1, .int (i3 i), .null] 342 (RR U) x' g1 L' = hD (d' + 2) 264 150 [.ref 156, .int v1, .int (i3 0), .null] 342 (RR U) x' g' L' ∧
        (∀ r k, (∀ f, f < 4 → ¬ (r = b + 5 + 4 * f ∧ (k = 1 ∨ k = 2))) → G' r k = G r k) ∧ (∀ r k, r ≠ 325 → ¬ (315 ≤ r ∧ r < 319 ∧ k = 0) → g' r k = g r k) ∧
        (∀ f, f < dr T → wR G' g' b f T (W f) (ρc T t m ρ f) ∧ g' (315 + f) 0 = if gone t (arr T m f (ρ f)) = true then i3 m else g (315 + f) 0)
  | 0, i, G1, g1, hi, h1, h2, h3 => by
    have hB := hT.gb
    have hbl := pN_lt hb
    have hsl := pS_lt hs
    have hc1 : cS G1 s T := hc.keep (fun r k q => h1 r k (fun f hf => by unfold inC at q; omega))
    have hm1 : mH g1 T P K := hmH.keep hT hP (fun r k q => h2 r k (by unfold inM at q; omega) (by unfold inM at q; omega))
    refine ⟨G1, g1, ?_, ?_, h1, h2, fun f hf => ?_⟩
    · rw [h_88_60 hb hs, hc1.gdr]
      simp (disch := omega) only [i3_add, i3_mul, i3_sub, i3_m1, i3_lt, i3_le, i3_eq, m1_lt, lt_m1, m1_le, le_m1, i3_nm1, m1_ni3, i3_cl, i3_in, i3_or, i3_and, i3_xor, i3_shl, i3_shr, sh_tb, tb_eq0, gd_tt, aI_o, aV_o, aL_o, aR_o, zd_0, zd_1, if_true, if_false, ite_self, eq_self, Bool.true_eq_false, Bool.false_eq_true, bi_0, bi_1, bi_zd, Nat.not_lt_zero, show ¬ i < dr T by omega]
    · rw [h_264_127, hm1.gdr]
      simp (disch := omega) only [i3_add, i3_mul, i3_sub, i3_m1, i3_lt, i3_le, i3_eq, m1_lt, lt_m1, m1_le, le_m1, i3_nm1, m1_ni3, i3_cl, i3_in, i3_or, i3_and, i3_xor, i3_shl, i3_shr, sh_tb, tb_eq0, gd_tt, aI_o, aV_o, aL_o, aR_o, zd_0, zd_1, if_true, if_false, ite_self, eq_self, Bool.true_eq_false, Bool.false_eq_true, bi_0, bi_1, bi_zd, Nat.not_lt_zero, show ¬ i < dr T by omega]
    · obtain ⟨a1, a2⟩ := h3 f hf
      rw [if_pos (by omega)] at a1
      refine ⟨a1, ?_⟩
      rw [a2]
      by_cases q : gone t (arr T m f (ρ f)) = true
      · rw [if_pos q, if_pos ⟨by omega, q⟩]
      · rw [if_neg q, if_neg (fun z => q z.2)]
  | k + 1, i, G1, g1, hi, h1, h2, h3 => by
    have hB := hT.gb
    have hbl := pN_lt hb
    have hsl := pS_lt hs
    have hc1 : cS G1 s T := hc.keep (fun r k q => h1 r k (fun f hf => by unfold inC at q; omega))
    have hm1 : mH g1 T P K := hmH.keep hT hP (fun r k q => h2 r k (by unfold inM at q; omega) (by unfold inM at q; omega))
    have hid : i < dr T := by omega
    obtain ⟨w1, w2⟩ := h3 i hid
    rw [if_neg (by omega)] at w1
    rw [if_neg (by omega)] at w2
    have e1 := rw_b (V := V) (k := i) hb (by omega)
    have e2 := hc1.gcR i hid
    have e3 := hc1.gcM i hid
    obtain ⟨G2, g2, k1, k2, k3, k4, k5, k6⟩ := s_come (d := d) (x := x) (L := L) (V := V) (d' := d') (x' := x') (L' := L') (U := U) hb hT hid w1 (hρ i hid) ht hm (by rw [h1 _ _ (fun f hf => by omega)]; exact b7) (by rw [h1 _ _ (fun f hf => by omega)]; exact b6) (by rw [h2 _ _ (by omega) (by omega)]; exact m57) (by rw [h2 _ _ (by omega) (by omega)]; exact m307) (hm1.gcR i hid) (hm1.gcM i hid)
    obtain ⟨G', g', r1, r2, r3⟩ := l_comes hb hs hT hP hc hmH hρ ht hm b7 b6 m57 m307 k (i + 1) G2 g2 (by omega) (fun r k q => by rw [k3 r k (q i (by omega))]; exact h1 r k q) (fun r k q q2 => by rw [k4 r k (by omega) (by omega)]; exact h2 r k q q2) (fun f hf => by
      by_cases q : f = i
      · subst q
        rw [if_pos (by omega)]
        refine ⟨k5, ?_⟩
        rw [k6, w2]
        by_cases q2 : gone t (arr T m f (ρ f)) = true
        · rw [if_pos q2, if_pos ⟨by omega, q2⟩]
        · rw [if_neg q2, if_neg (fun z => q2 z.2)]
      · obtain ⟨a1, a2⟩ := h3 f hf
        have e : (if f < i + 1 then ρc T t m ρ f else ρ f) = if f < i then ρc T t m ρ f else ρ f := by
          by_cases z : f < i
          · rw [if_pos z, if_pos (by omega)]
          · rw [if_neg z, if_neg (by omega)]
        rw [e]
        refine ⟨a1.keep (fun a k q2 => k3 a k (by omega)) (fun a k q2 => k4 a k (by omega) (by omega)), ?_⟩
        rw [k4 _ _ (by omega) (by omega), a2]
        by_cases z : f < i ∧ gone t (arr T m f (ρ f)) = true
        · rw [if_pos z, if_pos ⟨by omega, z.2⟩]
        · rw [if_neg z, if_neg (fun y => z ⟨by omega, y.2⟩)])
    refine ⟨G', g', ?_, ?_, r3⟩
    · rw [← r1, h_88_60 hb hs, hc1.gdr]
      simp (disch := omega) only [i3_add, i3_mul, i3_sub, i3_m1, i3_lt, i3_le, i3_eq, m1_lt, lt_m1, m1_le, le_m1, i3_nm1, m1_ni3, i3_cl, i3_in, i3_or, i3_and, i3_xor, i3_shl, i3_shr, sh_tb, tb_eq0, gd_tt, aI_o, aV_o, aL_o, aR_o, zd_0, zd_1, if_true, if_false, ite_self, eq_self, Bool.true_eq_false, Bool.false_eq_true, bi_0, bi_1, bi_zd, Nat.not_lt_zero, hid, e1, e2, e3, k1]
    · rw [← r2, h_264_127, hm1.gdr]
      simp (disch := omega) only [i3_add, i3_mul, i3_sub, i3_m1, i3_lt, i3_le, i3_eq, m1_lt, lt_m1, m1_le, le_m1, i3_nm1, m1_ni3, i3_cl, i3_in, i3_or, i3_and, i3_xor, i3_shl, i3_shr, sh_tb, tb_eq0, gd_tt, aI_o, aV_o, aL_o, aR_o, zd_0, zd_1, if_true, if_false, ite_self, eq_self, Bool.true_eq_false, Bool.false_eq_true, bi_0, bi_1, bi_zd, Nat.not_lt_zero, hid, k2]
theorem l_acts {G g : sm_G} {ρ1 : Nat → Nat} (hV : okV V) (hb : pN b) (hs : pS s) (hT : okT T) (hP : okP T P) (hC : nCx V G g b s T P K W) (hρ : ∀ f, f < dr T → ρ1 f ≠ 0 → cM T f ≤ m) (ht : t < 1024) (hm : m ≤ 300) (b7 : G b 7 = i3 t) (b6 : G b 6 = i3 m) (m57 : g 156 57 = i3 m) (m307 : g 307 m = i3 t) :
    ∀ (k i : Nat) (G1 g1 : sm_G) (ρ2 : Nat → Nat) (o : Nat), i + k = dr T → o < 1024 → G1 b 4 = i3 o → g1 156 56 = i3 o →
      (∀ r k, (∀ f, f < dr T → r ≠ b + 5 + 4 * f ∧ r ≠ b + 6 + 4 * f) → ¬ (r = b ∧ k = 4) → G1 r k = G r k) → (∀ r k, ¬ (315 ≤ r ∧ r < 319) → ¬ (320 ≤ r ∧ r < 324) → ¬ (325 ≤ r ∧ r ≤ 330) → ¬ (r = 156 ∧ k = 56) → g1 r k = g r k) →
      (∀ f, f < dr T → wR G1 g1 b f T (W f) (ρ2 f) ∧ g1 (315 + f) 0 = g (315 + f) 0 ∧ (ρ2 f = 0 ↔ ρ1 f = 0) ∧ (ρ2 f = ρ1 f ∨ t.testBit (ρ2 f - 1) = true) ∧ (i ≤ f → ρ2 f = ρ1 f)) →
      ∃ (G' g' : sm_G) (ρ' : Nat → Nat) (o' : Nat), hD (d + 5) 88 103 [.ref b, .ref s, .ref 5, .ref 54, .ref r4, .int v5, .null, .int v7, .int (i3 m), .int (i3 i)] 342 (RR V) x G1 L = hD (d + 5) 88 103 [.ref b, .ref s, .ref 5, .ref 54, .ref r4, .int v5, .null, .int v7, .int (i3 m), .int (i3 (dr T))] 342 (RR V) x G' L ∧
        hD (d' + 5) 264 150 [.ref 156, .int v1, .int (i3 i), .null] 342 (RR U) x' g1 L' = hD (d' + 5) 264 150 [.ref 156, .int v1, .int (i3 (dr T)), .null] 342 (RR U) x' g' L' ∧ o' < 1024 ∧ G' b 4 = i3 o' ∧ g' 156 56 = i3 o' ∧
        (∀ r k, (∀ f, f < dr T → r ≠ b + 5 + 4 * f ∧ r ≠ b + 6 + 4 * f) → ¬ (r = b ∧ k = 4) → G' r k = G r k) ∧ (∀ r k, ¬ (315 ≤ r ∧ r < 319) → ¬ (320 ≤ r ∧ r < 324) → ¬ (325 ≤ r ∧ r ≤ 330) → ¬ (r = 156 ∧ k = 56) → g' r k = g r k) ∧
        (∀ f, f < dr T → wR G' g' b f T (W f) (ρ' f) ∧ g' (315 + f) 0 = g (315 + f) 0 ∧ (ρ' f = 0 ↔ ρ1 f = 0) ∧ (ρ' f = ρ1 f ∨ t.testBit (ρ' f - 1) = true))
  | 0, i, G1, g1, ρ2, o, hi, ho, ho1, ho2, h1, h2, h3 => by
    have : i = dr T := by omega
    subst this
    exact ⟨G1, g1, ρ2, o, rfl, rfl, ho, ho1, ho2, h1, h2, fun f hf => ⟨(h3 f hf).1, (h3 f hf).2.1, (h3 f hf).2.2.1, (h3 f hf).2.2.2.1⟩⟩
  | k + 1, i, G1, g1, ρ2, o, hi, ho, ho1, ho2, h1, h2, h3 => by
    have hB := hT.gb
    have hbl := pN_lt hb
    have hsl := pS_lt hs
    have hid : i < dr T := by omega
    have hC1 : nCx V G1 g1 b s T P K W := hC.keep hV hs hT hP (fun r k q => h1 r k (fun f hf => by omega) (by omega)) (fun r k q q2 => h2 r k (by omega) (by omega) (by omega) (by omega))
    have b71 : G1 b 7 = i3 t := by rw [h1 _ _ (fun f hf => by omega) (by omega)]; exact b7
    have b61 : G1 b 6 = i3 m := by rw [h1 _ _ (fun f hf => by omega) (by omega)]; exact b6
    have m571 : g1 156 57 = i3 m := by rw [h2 _ _ (by omega) (by omega) (by omega) (by omega)]; exact m57
    have m3071 : g1 307 m = i3 t := by rw [h2 _ _ (by omega) (by omega) (by omega) (by omega)]; exact m307
    have e1 := rw_b (V := V) (k := i) hb (by omega)
    have e2 := iw_K (kw_b (k := i) hb (by omega))
    have e5 := rr_5 (V := V) (k := i) (by omega)
    obtain ⟨w1, w2, w3, w4, w5⟩ := h3 i hid
    have w5 := w5 (Nat.le_refl _)
    have er1 := w1.1
    have er2 := w1.2.1
    have er8 := w1.2.2.1
    have e266 := s_266 (d := d' + 4) (x := x') (L := L') (V := U) (G := g1) (e := i) (by omega) er2 (by omega)
    have ecM := hC1.1.gcM i hid
    have ecm := hC1.2.1.gcM i hid
    have hd := hT.gdm i hid
    have skip : (hD (d + 5) 88 103 [.ref b, .ref s, .ref 5, .ref 54, .ref r4, .int v5, .null, .int v7, .int (i3 m), .int (i3 i)] 342 (RR V) x G1 L = hD (d + 5) 88 103 [.ref b, .ref s, .ref 5, .ref 54, .ref r4, .int v5, .null, .int v7, .int (i3 m), .int (i3 (i + 1))] 342 (RR V) x G1 L) → (hD (d' + 5) 264 150 [.ref 156, .int v1, .int (i3 i), .null] 342 (RR U) x' g1 L' = hD (d' + 5) 264 150 [.ref 156, .int v1, .int (i3 (i + 1)), .null] 342 (RR U) x' g1 L') → _ := fun a1 a2 =>
      (⟨a1, a2, l_acts hV hb hs hT hP hC hρ ht hm b7 b6 m57 m307 k (i + 1) G1 g1 ρ2 o (by omega) ho ho1 ho2 h1 h2 (fun f hf => ⟨(h3 f hf).1, (h3 f hf).2.1, (h3 f hf).2.2.1, (h3 f hf).2.2.2.1, fun q => (h3 f hf).2.2.2.2 (by omega)⟩)⟩ : _ ∧ _ ∧ _)
    by_cases q0 : ρ2 i = 0
    · have s1 : hD (d + 5) 88 103 [.ref b, .ref s, .ref 5, .ref 54, .ref r4, .int v5, .null, .int v7, .int (i3 m), .int (i3 i)] 342 (RR V) x G1 L = hD (d + 5) 88 103 [.ref b, .ref s, .ref 5, .ref 54, .ref r4, .int v5, .null, .int v7, .int (i3 m), .int (i3 (i + 1))] 342 (RR V) x G1 L := by
        rw [h_88_103 hb hs, hC1.1.gdr]
        simp (disch := omega) only [i3_add, i3_mul, i3_sub, i3_m1, i3_lt, i3_le, i3_eq, m1_lt, lt_m1, m1_le, le_m1, i3_nm1, m1_ni3, i3_cl, i3_in, i3_or, i3_and, i3_xor, i3_shl, i3_shr, sh_tb, tb_eq0, gd_tt, aI_o, aV_o, aL_o, aR_o, zd_0, zd_1, if_true, if_false, ite_self, eq_self, Bool.true_eq_false, Bool.false_eq_true, bi_0, bi_1, bi_zd, Nat.not_lt_zero, hid, e1, e2, er1, mi_m1, q0]
      have s2 : hD (d' + 5) 264 150 [.ref 156, .int v1, .int (i3 i), .null] 342 (RR U) x' g1 L' = hD (d' + 5) 264 150 [.ref 156, .int v1, .int (i3 (i + 1)), .null] 342 (RR U) x' g1 L' := by
        rw [decide_eq_false (fun z => z q0), show bi false = i3 0 from rfl] at e266
        rw [h_264_150, hC1.2.1.gdr]
        simp (disch := omega) only [i3_add, i3_mul, i3_sub, i3_m1, i3_lt, i3_le, i3_eq, m1_lt, lt_m1, m1_le, le_m1, i3_nm1, m1_ni3, i3_cl, i3_in, i3_or, i3_and, i3_xor, i3_shl, i3_shr, sh_tb, tb_eq0, gd_tt, aI_o, aV_o, aL_o, aR_o, zd_0, zd_1, if_true, if_false, ite_self, eq_self, Bool.true_eq_false, Bool.false_eq_true, bi_0, bi_1, bi_zd, Nat.not_lt_zero, hid, e266]
      obtain ⟨_, _, G', g', ρ', o', a1, a2, a3⟩ := skip s1 s2
      exact ⟨G', g', ρ', o', s1.trans a1, s2.trans a2, a3⟩
    · rw [decide_eq_true q0, show bi true = i3 1 from rfl] at e266
      have hle := hρ i hid (by rw [← w5]; exact q0)
      by_cases q1 : cM T i = m
      · have s1 : hD (d + 5) 88 103 [.ref b, .ref s, .ref 5, .ref 54, .ref r4, .int v5, .null, .int v7, .int (i3 m), .int (i3 i)] 342 (RR V) x G1 L = hD (d + 5) 88 103 [.ref b, .ref s, .ref 5, .ref 54, .ref r4, .int v5, .null, .int v7, .int (i3 m), .int (i3 (i + 1))] 342 (RR V) x G1 L := by
          rw [h_88_103 hb hs, hC1.1.gdr]
          simp (disch := omega) only [i3_add, i3_mul, i3_sub, i3_m1, i3_lt, i3_le, i3_eq, m1_lt, lt_m1, m1_le, le_m1, i3_nm1, m1_ni3, i3_cl, i3_in, i3_or, i3_and, i3_xor, i3_shl, i3_shr, sh_tb, tb_eq0, gd_tt, aI_o, aV_o, aL_o, aR_o, zd_0, zd_1, if_true, if_false, ite_self, eq_self, Bool.true_eq_false, Bool.false_eq_true, bi_0, bi_1, bi_zd, Nat.not_lt_zero, hid, e1, e2, er1, mi_m1, q0, ecM, q1]
        have s2 : hD (d' + 5) 264 150 [.ref 156, .int v1, .int (i3 i), .null] 342 (RR U) x' g1 L' = hD (d' + 5) 264 150 [.ref 156, .int v1, .int (i3 (i + 1)), .null] 342 (RR U) x' g1 L' := by
          rw [h_264_150, hC1.2.1.gdr, m571]
          simp (disch := omega) only [i3_add, i3_mul, i3_sub, i3_m1, i3_lt, i3_le, i3_eq, m1_lt, lt_m1, m1_le, le_m1, i3_nm1, m1_ni3, i3_cl, i3_in, i3_or, i3_and, i3_xor, i3_shl, i3_shr, sh_tb, tb_eq0, gd_tt, aI_o, aV_o, aL_o, aR_o, zd_0, zd_1, if_true, if_false, ite_self, eq_self, Bool.true_eq_false, Bool.false_eq_true, bi_0, bi_1, bi_zd, Nat.not_lt_zero, Nat.reduceEqDiff, Nat.reduceLeDiff, Nat.reduceLT, rr_165, ldr_165, kr_165, nr_165, rr_174, ldr_174, kr_174, nr_174, rr_183, ldr_183, kr_183, nr_183, rr_194, ldr_194, kr_194, nr_194, rr_205, ldr_205, kr_205, nr_205, rr_218, ldr_218, kr_218, nr_218, rr_231, ldr_231, kr_231, nr_231, rr_236, ldr_236, kr_236, nr_236, rr_242, ldr_242, kr_242, nr_242, rr_247, ldr_247, kr_247, nr_247, rr_252, ldr_252, kr_252, nr_252, rr_265, ldr_265, kr_265, nr_265, rr_278, ldr_278, kr_278, nr_278, rr_282, ldr_282, kr_282, nr_282, rr_309, ldr_309, kr_309, nr_309, rr_314, ldr_314, kr_314, nr_314, rr_319, ldr_319, kr_319, nr_319, rr_332, ldr_332, kr_332, nr_332, hid, e266, ecm, q1, m571, Nat.lt_irrefl]
        obtain ⟨_, _, G', g', ρ', o', a1, a2, a3⟩ := skip s1 s2
        exact ⟨G', g', ρ', o', s1.trans a1, s2.trans a2, a3⟩
      · obtain ⟨G2, g2, k1, k2, ⟨f1, f2, f3⟩, ⟨o2, o3, o4, o5⟩, r', k5, k6, k7⟩ := s_act (d := d) (x := x) (L := L) (V := V) (d' := d') (x' := x') (L' := L') (U := U) hV hb hs hT hP hid hC1 (fun f hf => (h3 f hf).1) q0 ht hm ho ho1 b71 b61 ho2 m571 m3071
        have s1 : hD (d + 5) 88 103 [.ref b, .ref s, .ref 5, .ref 54, .ref r4, .int v5, .null, .int v7, .int (i3 m), .int (i3 i)] 342 (RR V) x G1 L = hD (d + 5) 88 103 [.ref b, .ref s, .ref 5, .ref 54, .ref r4, .int v5, .null, .int v7, .int (i3 m), .int (i3 (i + 1))] 342 (RR V) x G2 L := by
          rw [h_88_103 hb hs, hC1.1.gdr]
          simp (disch := omega) only [i3_add, i3_mul, i3_sub, i3_m1, i3_lt, i3_le, i3_eq, m1_lt, lt_m1, m1_le, le_m1, i3_nm1, m1_ni3, i3_cl, i3_in, i3_or, i3_and, i3_xor, i3_shl, i3_shr, sh_tb, tb_eq0, gd_tt, aI_o, aV_o, aL_o, aR_o, zd_0, zd_1, if_true, if_false, ite_self, eq_self, Bool.true_eq_false, Bool.false_eq_true, bi_0, bi_1, bi_zd, Nat.not_lt_zero, hid, e1, e2, e5, er1, mi_m1, q0, ecM, q1, k1]
        have s2 : hD (d' + 5) 264 150 [.ref 156, .int v1, .int (i3 i), .null] 342 (RR U) x' g1 L' = hD (d' + 5) 264 150 [.ref 156, .int v1, .int (i3 (i + 1)), .null] 342 (RR U) x' g2 L' := by
          rw [h_264_150, hC1.2.1.gdr]
          simp (disch := omega) only [i3_add, i3_mul, i3_sub, i3_m1, i3_lt, i3_le, i3_eq, m1_lt, lt_m1, m1_le, le_m1, i3_nm1, m1_ni3, i3_cl, i3_in, i3_or, i3_and, i3_xor, i3_shl, i3_shr, sh_tb, tb_eq0, gd_tt, aI_o, aV_o, aL_o, aR_o, zd_0, zd_1, if_true, if_false, ite_self, eq_self, Bool.true_eq_false, Bool.false_eq_true, bi_0, bi_1, bi_zd, Nat.not_lt_zero, Nat.reduceEqDiff, Nat.reduceLeDiff, Nat.reduceLT, rr_165, ldr_165, kr_165, nr_165, rr_174, ldr_174, kr_174, nr_174, rr_183, ldr_183, kr_183, nr_183, rr_194, ldr_194, kr_194, nr_194, rr_205, ldr_205, kr_205, nr_205, rr_218, ldr_218, kr_218, nr_218, rr_231, ldr_231, kr_231, nr_231, rr_236, ldr_236, kr_236, nr_236, rr_242, ldr_242, kr_242, nr_242, rr_247, ldr_247, kr_247, nr_247, rr_252, ldr_252, kr_252, nr_252, rr_265, ldr_265, kr_265, nr_265, rr_278, ldr_278, kr_278, nr_278, rr_282, ldr_282, kr_282, nr_282, rr_309, ldr_309, kr_309, nr_309, rr_314, ldr_314, kr_314, nr_314, rr_319, ldr_319, kr_319, nr_319, rr_332, ldr_332, kr_332, nr_332, hid, e266, ecm, m571, show cM T i < m by omega, k2]
        obtain ⟨G', g', ρ', o', a1, a2, a3⟩ := l_acts hV hb hs hT hP hC hρ ht hm b7 b6 m57 m307 k (i + 1) G2 g2 (fun f => if f = i then r' else ρ2 f) o2 (by omega) o3 o4 o5 (fun r k q q2 => by rw [f1 r k (q i (by omega)).1 (by have := (q i (by omega)).2; omega) q2]; exact h1 r k q q2) (fun r k q q2 q3 q4 => by rw [f2 r k (by omega) (by omega) (by omega) q4]; exact h2 r k q q2 q3 q4) (fun f hf => by
          by_cases q : f = i
          · subst q
            try dsimp only
            rw [if_pos rfl]
            refine ⟨k7, ?_, ⟨fun z => absurd z k6, fun z => absurd (w3.mpr z) q0⟩, ?_, fun z => by omega⟩
            · have e := k7.2.2.2.1.1
              rw [← e, f3, w1.2.2.2.1.1]
              exact w2
            · rcases k5 with k5 | k5
              · exact Or.inl (k5.trans w5)
              · exact Or.inr k5
          · obtain ⟨a1, a2, a3, a4, a5⟩ := h3 f hf
            try dsimp only
            rw [if_neg q]
            exact ⟨a1.keep (fun a k q2 => f1 a k (by omega) (by omega) (by omega)) (fun a k q2 => f2 a k (by omega) (by omega) (by omega) (by omega)), by rw [f2 _ _ (by omega) (by omega) (by omega) (by omega)]; exact a2, a3, a4, fun z => a5 (by omega)⟩)
        exact ⟨G', g', ρ', o', s1.trans a1, s2.trans a2, a3⟩
end MINS
