/-! going through a door -/
def canGo (T : pT) (r v o t : Nat) : Bool := (bhi T (1 <<< r) o 0).testBit v && t.testBit v
theorem shl_lt8 {r : Nat} (h : r < 8) : 1 <<< r < 256 := by
  rw [Nat.one_shiftLeft]
  exact Nat.lt_of_lt_of_le (Nat.pow_lt_pow_right (by decide) h) (Nat.le_refl _)
theorem and3_0 (a t v : Nat) : (a &&& t &&& 1 <<< v = 0) ↔ ((a.testBit v && t.testBit v) = false) := by
  constructor
  · intro h
    have := congrArg (fun z => z.testBit v) h
    try dsimp only at this
    rw [Nat.testBit_and, Nat.testBit_and, one_shl_tb, Nat.zero_testBit] at this
    simpa using this
  · intro h
    apply eqb
    intro k
    rw [Nat.testBit_and, Nat.testBit_and, one_shl_tb, Nat.zero_testBit]
    by_cases q : v = k
    · subst q
      rw [h, Bool.false_and]
    · rw [decide_eq_false q, Bool.and_false]
theorem bhi_lt {T : pT} (hT : okT T) {r o : Nat} : bhi T r o 0 < 256 := by
  refine Nat.lt_of_lt_of_le ?_ (show 2 ^ sl T ≤ 2 ^ 8 from Nat.pow_le_pow_right (by decide) hT.gb.1)
  apply Nat.lt_pow_two_of_testBit
  intro k hk
  cases q : (bhi T r o 0).testBit k with
  | false => rfl
  | true =>
    rw [bhi_tb, Nat.zero_testBit] at q
    rcases q with q | ⟨e, h1, _, h3⟩
    · cases q
    · have := hT.gdr e h1
      omega
theorem s_92 {d x : Nat} {V : pV} {G : sm_G} {L : sm_L} {b s w v r o t : Nat} {T : pT} (hb : pN b) (hs : pS s) (hw : pK w) (hbw : b < w) (hc : cS G s T) (hT : okT T) (h1 : G w 1 = i3 r) (hr : r < 8) (hv : v < 8) (ho : G b 4 = i3 o) (ho2 : o < 1024) (ht : G b 7 = i3 t) (ht2 : t < 1024) :
    ∃ G', sm_cv0 (d + 2) 92 342 (RR V) [.ref b, .ref s, .ref w, .int (i3 v)] (x, G, L) = oV x G' L ∧ (∀ a k, ¬ (a = w ∧ (k = 1 ∨ k = 3 ∨ k = 4)) → G' a k = G a k) ∧ G' w 1 = i3 (if canGo T r v o t = true then v else r) ∧ G' w 3 = G w 3 + bi (canGo T r v o t) ∧ G' w 4 = G w 4 + bi (!canGo T r v o t) := by
  have e119 := s_119 (d := d) (x := x) (L := L) (V := V) hs hc hT (show 1 <<< r < 1024 by have := shl_lt8 hr; omega) ho2
  have hbl := bhi_lt hT (r := 1 <<< r) (o := o)
  have hv8 := shl_lt8 hv
  have hx := and3_0 (bhi T (1 <<< r) o 0) t v
  have hx2 : bhi T (1 <<< r) o 0 &&& t &&& 1 <<< v < 2147483648 := by
    have : bhi T (1 <<< r) o 0 &&& t &&& 1 <<< v ≤ 1 <<< v := Nat.and_le_right
    omega
  rw [m_92 hb hs hw, h1, ho]
  cases q : canGo T r v o t
  · have q2 : (bhi T (1 <<< r) o 0 &&& t &&& 1 <<< v = 0) = True := eq_true (hx.mpr q)
    refine ⟨sm_up G w 4 (G w 4 + i3 1), ?_, fun a k h => sm_up_ne (by omega), ?_, ?_, ?_⟩
    · simp (disch := omega) only [i3_add, i3_mul, i3_sub, i3_m1, i3_lt, i3_le, i3_eq, m1_lt, lt_m1, m1_le, le_m1, i3_nm1, m1_ni3, i3_cl, i3_in, i3_or, i3_and, i3_xor, i3_shl, i3_shr, sh_tb, tb_eq0, gd_tt, aI_o, aV_o, aL_o, aR_o, zd_0, zd_1, if_true, if_false, ite_self, eq_self, Bool.true_eq_false, Bool.false_eq_true, bi_0, bi_1, bi_zd, Nat.not_lt_zero, e119, ht, q2]
    · rw [sm_up_ne (by omega), h1]; rfl
    · rw [sm_up_ne (by omega), show bi false = i3 0 from rfl]; exact (Int32.add_zero _).symm
    · rw [sm_up_same]; rfl
  · have q2 : (bhi T (1 <<< r) o 0 &&& t &&& 1 <<< v = 0) = False := eq_false (fun z => by
      have := hx.mp z
      unfold canGo at q
      rw [q] at this
      cases this)
    have e3 : sm_up G w 1 (i3 v) w 3 = G w 3 := sm_up_ne (by omega)
    refine ⟨sm_up (sm_up G w 1 (i3 v)) w 3 (G w 3 + i3 1), ?_, fun a k h => by rw [sm_up_ne (by omega), sm_up_ne (by omega)], ?_, ?_, ?_⟩
    · simp (disch := omega) only [i3_add, i3_mul, i3_sub, i3_m1, i3_lt, i3_le, i3_eq, m1_lt, lt_m1, m1_le, le_m1, i3_nm1, m1_ni3, i3_cl, i3_in, i3_or, i3_and, i3_xor, i3_shl, i3_shr, sh_tb, tb_eq0, gd_tt, aI_o, aV_o, aL_o, aR_o, zd_0, zd_1, if_true, if_false, ite_self, eq_self, Bool.true_eq_false, Bool.false_eq_true, bi_0, bi_1, bi_zd, Nat.not_lt_zero, e119, ht, q2, e3]
    · rw [sm_up_ne (by omega), sm_up_same]; rfl
    · rw [sm_up_same]; rfl
    · rw [sm_up_ne (by omega), sm_up_ne (by omega), show bi (!true) = i3 0 from rfl]; exact (Int32.add_zero _).symm
/-- a door between two rooms -/
def btw (T : pT) (i a b : Nat) : Bool := decide ((dA T i = a ∧ dB T i = b) ∨ (dA T i = b ∧ dB T i = a))
theorem s_271 {d x : Nat} {V : pV} {G : sm_G} {L : sm_L} {i a b K : Nat} {T P : pT} (hm : mH G T P K) (hT : okT T) (hi : i < dn T) (ha : a < 1000) (hb : b < 1000) : sm_cv0 (d + 1) 271 342 (RR V) [.ref 156, .int (i3 i), .int (i3 a), .int (i3 b)] (x, G, L) = oI (bi (btw T i a b)) x G L := by
  have hB := hT.gb
  have hd := hT.gdr i hi
  have e1 := hm.gdA i hi
  have e2 := hm.gdB i hi
  rw [m_271]
  simp (disch := omega) only [i3_add, i3_mul, i3_sub, i3_m1, i3_lt, i3_le, i3_eq, m1_lt, lt_m1, m1_le, le_m1, i3_nm1, m1_ni3, i3_cl, i3_in, i3_or, i3_and, i3_xor, i3_shl, i3_shr, sh_tb, tb_eq0, gd_tt, aI_o, aV_o, aL_o, aR_o, zd_0, zd_1, if_true, if_false, ite_self, eq_self, Bool.true_eq_false, Bool.false_eq_true, bi_0, bi_1, bi_zd, Nat.not_lt_zero, rr_194, ldr_194, e1, e2]
  rw [h_271_24]
  simp (disch := omega) only [i3_add, i3_mul, i3_sub, i3_m1, i3_lt, i3_le, i3_eq, m1_lt, lt_m1, m1_le, le_m1, i3_nm1, m1_ni3, i3_cl, i3_in, i3_or, i3_and, i3_xor, i3_shl, i3_shr, sh_tb, tb_eq0, gd_tt, aI_o, aV_o, aL_o, aR_o, zd_0, zd_1, if_true, if_false, ite_self, eq_self, Bool.true_eq_false, Bool.false_eq_true, bi_0, bi_1, bi_zd, Nat.not_lt_zero, rr_194, ldr_194, e1, e2]
  unfold btw
  by_cases q1 : dA T i = a
  · by_cases q2 : dB T i = b
    · rw [if_pos q1, if_pos q2, decide_eq_true (Or.inl ⟨q1, q2⟩)]; rfl
    · rw [if_pos q1, if_neg q2]
      by_cases q3 : dA T i = b
      · by_cases q4 : dB T i = a
        · rw [if_pos q3, if_pos q4, decide_eq_true (Or.inr ⟨q3, q4⟩)]; rfl
        · rw [if_pos q3, if_neg q4, decide_eq_false (fun z => z.elim (fun z => q2 z.2) (fun z => q4 z.2))]; rfl
      · rw [if_neg q3, decide_eq_false (fun z => z.elim (fun z => q2 z.2) (fun z => q3 z.1))]; rfl
  · rw [if_neg q1]
    by_cases q3 : dA T i = b
    · by_cases q4 : dB T i = a
      · rw [if_pos q3, if_pos q4, decide_eq_true (Or.inr ⟨q3, q4⟩)]; rfl
      · rw [if_pos q3, if_neg q4, decide_eq_false (fun z => z.elim (fun z => q1 z.1) (fun z => q4 z.2))]; rfl
    · rw [if_neg q3, decide_eq_false (fun z => z.elim (fun z => q1 z.1) (fun z => q3 z.1))]; rfl
theorem btw_it (T : pT) (hT : okT T) (r v o : Nat) : itr (fun i z => z || (o.testBit i && btw T i r v)) 0 (dn T) false = (bhi T (1 <<< r) o 0).testBit v := by
  have key : ∀ n, n ≤ dn T → ((itr (fun i z => z || (o.testBit i && btw T i r v)) 0 n false) = true ↔ ∃ i, i < n ∧ o.testBit i = true ∧ btw T i r v = true) := by
    intro n
    induction n with
    | zero => intro _; exact ⟨fun h => (by cases h), fun ⟨i, h, _⟩ => absurd h (Nat.not_lt_zero i)⟩
    | succ n ih =>
      intro hn
      rw [itr_succ, Nat.zero_add, Bool.or_eq_true, Bool.and_eq_true, ih (by omega)]
      constructor
      · rintro (⟨i, h1, h2⟩ | h)
        · exact ⟨i, by omega, h2⟩
        · exact ⟨n, by omega, h⟩
      · rintro ⟨i, h1, h2⟩
        by_cases q : i = n
        · subst q; exact Or.inr h2
        · exact Or.inl ⟨i, by omega, h2⟩
  rw [Bool.eq_iff_iff, key _ (Nat.le_refl _), bhi_tb, Nat.zero_testBit]
  constructor
  · rintro ⟨i, h1, h2, h3⟩
    refine Or.inr ⟨i, h1, h2, ?_⟩
    unfold btw at h3
    rw [decide_eq_true_eq] at h3
    rw [one_shl_tb, one_shl_tb, decide_eq_true_eq, decide_eq_true_eq]
    rcases h3 with ⟨a, b⟩ | ⟨a, b⟩
    · exact Or.inl ⟨b, a.symm⟩
    · exact Or.inr ⟨a, b.symm⟩
  · rintro (h | ⟨i, h1, h2, h3⟩)
    · cases h
    · refine ⟨i, h1, h2, ?_⟩
      unfold btw
      rw [decide_eq_true_eq]
      rw [one_shl_tb, one_shl_tb, decide_eq_true_eq, decide_eq_true_eq] at h3
      rcases h3 with ⟨a, b⟩ | ⟨a, b⟩
      · exact Or.inl ⟨b.symm, a⟩
      · exact Or.inr ⟨a, b.symm⟩
theorem s_270 {d x : Nat} {V : pV} {G : sm_G} {L : sm_L} {e v r o t m K : Nat} {T P : pT} (hm : mH G T P K) (hT : okT T) (he : e < 4) (h1 : G 325 e = i3 r) (hr : r < 8) (hv : v < 8) (ho : G 156 56 = i3 o) (ho2 : o < 1024) (hmm : G 156 57 = i3 m) (hm3 : m ≤ 300) (ht : G 307 m = i3 t) (ht2 : t < 1024) :
    ∃ G', sm_cv0 (d + 2) 270 342 (RR V) [.ref 156, .int (i3 e), .int (i3 v)] (x, G, L) = oV x G' L ∧ (∀ a k, ¬ (a = 325 ∧ k = e) → ¬ (a = 315 + e ∧ (k = 1 ∨ k = 2)) → G' a k = G a k) ∧ G' 325 e = i3 (if canGo T r v o t = true then v else r) ∧ G' (315 + e) 1 = G (315 + e) 1 + bi (canGo T r v o t) ∧ G' (315 + e) 2 = G (315 + e) 2 + bi (!canGo T r v o t) := by
  have hB := hT.gb
  have b0 : bi false = i3 0 := rfl
  have b1 : bi true = i3 1 := rfl
  have key := loop0 (H := fun i (z : Bool) => hD (d + 1) 270 5 [.ref 156, .int (i3 e), .int (i3 v), .int (bi z), .int (i3 i)] 342 (RR V) x G L) (out := fun z => hD (d + 1) 270 88 [.ref 156, .int (i3 e), .int (i3 v), .int (bi (z && t.testBit v)), .null] 342 (RR V) x G L) (N := dn T) (step := fun i z => z || (o.testBit i && btw T i r v)) ?_ ?_ false
  · rw [btw_it T hT] at key
    rw [m_270]
    have key2 : hD (d + 1) 270 5 [.ref 156, .int (i3 e), .int (i3 v), .int (i3 0), .int (i3 0)] 342 (RR V) x G L = hD (d + 1) 270 88 [.ref 156, .int (i3 e), .int (i3 v), .int (bi (canGo T r v o t)), .null] 342 (RR V) x G L := key
    rw [key2, h_270_88]
    cases q : canGo T r v o t
    · have e1 : sm_up G (315 + e) 2 (G (315 + e) 2 + i3 1) 325 e = G 325 e := sm_up_ne (by omega)
      refine ⟨sm_up (sm_up G (315 + e) 2 (G (315 + e) 2 + i3 1)) 325 e (G 325 e), ?_, fun a k q1 q2 => by rw [sm_up_ne (by omega), sm_up_ne (by omega)], ?_, ?_, ?_⟩
      · rw [b0]
        simp (disch := omega) only [i3_add, i3_mul, i3_sub, i3_m1, i3_lt, i3_le, i3_eq, m1_lt, lt_m1, m1_le, le_m1, i3_nm1, m1_ni3, i3_cl, i3_in, i3_or, i3_and, i3_xor, i3_shl, i3_shr, sh_tb, tb_eq0, gd_tt, aI_o, aV_o, aL_o, aR_o, zd_0, zd_1, if_true, if_false, ite_self, eq_self, Bool.true_eq_false, Bool.false_eq_true, bi_0, bi_1, bi_zd, Nat.not_lt_zero, rr_165, ldr_165, kr_165, nr_165, rr_174, ldr_174, kr_174, nr_174, rr_183, ldr_183, kr_183, nr_183, rr_194, ldr_194, kr_194, nr_194, rr_205, ldr_205, kr_205, nr_205, rr_218, ldr_218, kr_218, nr_218, rr_231, ldr_231, kr_231, nr_231, rr_236, ldr_236, kr_236, nr_236, rr_242, ldr_242, kr_242, nr_242, rr_247, ldr_247, kr_247, nr_247, rr_252, ldr_252, kr_252, nr_252, rr_265, ldr_265, kr_265, nr_265, rr_278, ldr_278, kr_278, nr_278, rr_282, ldr_282, kr_282, nr_282, rr_309, ldr_309, kr_309, nr_309, rr_314, ldr_314, kr_314, nr_314, rr_319, ldr_319, kr_319, nr_319, rr_332, ldr_332, kr_332, nr_332, h_270_108, e1]
      · rw [sm_up_same, h1]; rfl
      · rw [sm_up_ne (by omega), sm_up_ne (by omega), b0]; exact (Int32.add_zero _).symm
      · rw [sm_up_ne (by omega), sm_up_same]; rfl
    · refine ⟨sm_up (sm_up G (315 + e) 1 (G (315 + e) 1 + i3 1)) 325 e (i3 v), ?_, fun a k q1 q2 => by rw [sm_up_ne (by omega), sm_up_ne (by omega)], ?_, ?_, ?_⟩
      · rw [b1]
        simp (disch := omega) only [i3_add, i3_mul, i3_sub, i3_m1, i3_lt, i3_le, i3_eq, m1_lt, lt_m1, m1_le, le_m1, i3_nm1, m1_ni3, i3_cl, i3_in, i3_or, i3_and, i3_xor, i3_shl, i3_shr, sh_tb, tb_eq0, gd_tt, aI_o, aV_o, aL_o, aR_o, zd_0, zd_1, if_true, if_false, ite_self, eq_self, Bool.true_eq_false, Bool.false_eq_true, bi_0, bi_1, bi_zd, Nat.not_lt_zero, rr_165, ldr_165, kr_165, nr_165, rr_174, ldr_174, kr_174, nr_174, rr_183, ldr_183, kr_183, nr_183, rr_194, ldr_194, kr_194, nr_194, rr_205, ldr_205, kr_205, nr_205, rr_218, ldr_218, kr_218, nr_218, rr_231, ldr_231, kr_231, nr_231, rr_236, ldr_236, kr_236, nr_236, rr_242, ldr_242, kr_242, nr_242, rr_247, ldr_247, kr_247, nr_247, rr_252, ldr_252, kr_252, nr_252, rr_265, ldr_265, kr_265, nr_265, rr_278, ldr_278, kr_278, nr_278, rr_282, ldr_282, kr_282, nr_282, rr_309, ldr_309, kr_309, nr_309, rr_314, ldr_314, kr_314, nr_314, rr_319, ldr_319, kr_319, nr_319, rr_332, ldr_332, kr_332, nr_332, h_270_108, show ¬ (1 : Nat) = 0 by decide]
      · rw [sm_up_same]; rfl
      · rw [sm_up_ne (by omega), sm_up_same]; rfl
      · rw [sm_up_ne (by omega), sm_up_ne (by omega), show bi (!true) = i3 0 from rfl]; exact (Int32.add_zero _).symm
  · intro i z hi
    have e271 := s_271 (d := d) (x := x) (L := L) (V := V) (a := r) (b := v) hm hT hi (by omega) (by omega)
    try dsimp only
    rw [h_270_5, hm.gdn, ho]
    cases z
    · cases q : o.testBit i
      · simp (disch := omega) only [i3_add, i3_mul, i3_sub, i3_m1, i3_lt, i3_le, i3_eq, m1_lt, lt_m1, m1_le, le_m1, i3_nm1, m1_ni3, i3_cl, i3_in, i3_or, i3_and, i3_xor, i3_shl, i3_shr, sh_tb, tb_eq0, gd_tt, aI_o, aV_o, aL_o, aR_o, zd_0, zd_1, if_true, if_false, ite_self, eq_self, Bool.true_eq_false, Bool.false_eq_true, bi_0, bi_1, bi_zd, Nat.not_lt_zero, tb_eq1, hi, h1, e271, q, Bool.false_or, Bool.false_and, b0]
      · cases q2 : btw T i r v
        · simp (disch := omega) only [i3_add, i3_mul, i3_sub, i3_m1, i3_lt, i3_le, i3_eq, m1_lt, lt_m1, m1_le, le_m1, i3_nm1, m1_ni3, i3_cl, i3_in, i3_or, i3_and, i3_xor, i3_shl, i3_shr, sh_tb, tb_eq0, gd_tt, aI_o, aV_o, aL_o, aR_o, zd_0, zd_1, if_true, if_false, ite_self, eq_self, Bool.true_eq_false, Bool.false_eq_true, bi_0, bi_1, bi_zd, Nat.not_lt_zero, tb_eq1, hi, h1, e271, q, q2, Bool.false_or, Bool.true_and, b0]
        · simp (disch := omega) only [i3_add, i3_mul, i3_sub, i3_m1, i3_lt, i3_le, i3_eq, m1_lt, lt_m1, m1_le, le_m1, i3_nm1, m1_ni3, i3_cl, i3_in, i3_or, i3_and, i3_xor, i3_shl, i3_shr, sh_tb, tb_eq0, gd_tt, aI_o, aV_o, aL_o, aR_o, zd_0, zd_1, if_true, if_false, ite_self, eq_self, Bool.true_eq_false, Bool.false_eq_true, bi_0, bi_1, bi_zd, Nat.not_lt_zero, tb_eq1, hi, h1, e271, q, q2, Bool.false_or, Bool.true_and, b0, b1, show ¬ (1 : Nat) = 0 by decide]
    · simp (disch := omega) only [i3_add, i3_mul, i3_sub, i3_m1, i3_lt, i3_le, i3_eq, m1_lt, lt_m1, m1_le, le_m1, i3_nm1, m1_ni3, i3_cl, i3_in, i3_or, i3_and, i3_xor, i3_shl, i3_shr, sh_tb, tb_eq0, gd_tt, aI_o, aV_o, aL_o, aR_o, zd_0, zd_1, if_true, if_false, ite_self, eq_self, Bool.true_eq_false, Bool.false_eq_true, bi_0, bi_1, bi_zd, Nat.not_lt_zero, hi, Bool.true_or, b1, show ¬ (1 : Nat) = 0 by decide]
  · intro z
    try dsimp only
    rw [h_270_5, hm.gdn, hmm]
    cases z
    · simp (disch := omega) only [i3_add, i3_mul, i3_sub, i3_m1, i3_lt, i3_le, i3_eq, m1_lt, lt_m1, m1_le, le_m1, i3_nm1, m1_ni3, i3_cl, i3_in, i3_or, i3_and, i3_xor, i3_shl, i3_shr, sh_tb, tb_eq0, gd_tt, aI_o, aV_o, aL_o, aR_o, zd_0, zd_1, if_true, if_false, ite_self, eq_self, Bool.true_eq_false, Bool.false_eq_true, bi_0, bi_1, bi_zd, Nat.not_lt_zero, Nat.lt_irrefl, Bool.false_and, b0]
    · cases q : t.testBit v
      · simp (disch := omega) only [i3_add, i3_mul, i3_sub, i3_m1, i3_lt, i3_le, i3_eq, m1_lt, lt_m1, m1_le, le_m1, i3_nm1, m1_ni3, i3_cl, i3_in, i3_or, i3_and, i3_xor, i3_shl, i3_shr, sh_tb, tb_eq0, gd_tt, aI_o, aV_o, aL_o, aR_o, zd_0, zd_1, if_true, if_false, ite_self, eq_self, Bool.true_eq_false, Bool.false_eq_true, bi_0, bi_1, bi_zd, Nat.not_lt_zero, tb_eq1, Nat.lt_irrefl, ht, q, Bool.true_and, b0, b1, show ¬ (1 : Nat) = 0 by decide]
      · simp (disch := omega) only [i3_add, i3_mul, i3_sub, i3_m1, i3_lt, i3_le, i3_eq, m1_lt, lt_m1, m1_le, le_m1, i3_nm1, m1_ni3, i3_cl, i3_in, i3_or, i3_and, i3_xor, i3_shl, i3_shr, sh_tb, tb_eq0, gd_tt, aI_o, aV_o, aL_o, aR_o, zd_0, zd_1, if_true, if_false, ite_self, eq_self, Bool.true_eq_false, Bool.false_eq_true, bi_0, bi_1, bi_zd, Nat.not_lt_zero, tb_eq1, Nat.lt_irrefl, ht, q, Bool.true_and, b0, b1, show ¬ (1 : Nat) = 0 by decide]
