/-! dreamers: their objects; company -/
theorem rw_b {V : pV} {b k : Nat} (hb : pN b) (hk : k < 4) : RR V (b + 1) k = b + 5 + 4 * k := by
  have h1 : ∀ k, k < 4 → pR0 64 k = 63 + 5 + 4 * k := by decide +kernel
  have h2 : ∀ k, k < 4 → pR0 85 k = 84 + 5 + 4 * k := by decide +kernel
  rcases hb with rfl | rfl
  · rw [RR_q rfl rfl]; exact h1 k hk
  · rw [RR_q rfl rfl]; exact h2 k hk
theorem rs_b {V : pV} {b k : Nat} (hb : pN b) (hk : k < 4) : RR V (b + 2) k = b + 7 + 4 * k := by
  have h1 : ∀ k, k < 4 → pR0 65 k = 63 + 7 + 4 * k := by decide +kernel
  have h2 : ∀ k, k < 4 → pR0 86 k = 84 + 7 + 4 * k := by decide +kernel
  rcases hb with rfl | rfl
  · rw [RR_q rfl rfl]; exact h1 k hk
  · rw [RR_q rfl rfl]; exact h2 k hk
theorem kw_b {b k : Nat} (hb : pN b) (hk : k < 4) : pK (b + 5 + 4 * k) := by
  have : k = 0 ∨ k = 1 ∨ k = 2 ∨ k = 3 := by omega
  unfold pK
  rcases hb with rfl | rfl <;> omega
theorem ks_b {b k : Nat} (hb : pN b) (hk : k < 4) : pK (b + 7 + 4 * k) := by
  unfold pK
  rcases hb with rfl | rfl <;> omega
theorem iw_K {w : Nat} (h : pK w) : sm_is w 342 7 = true := pK_all (P := fun w => sm_is w 342 7 = true) h rfl rfl rfl rfl rfl rfl rfl rfl rfl rfl rfl rfl rfl rfl rfl rfl
theorem rr_5 {V : pV} {k : Nat} (hk : k < 4) : RR V 5 k = V.2.2.2.2.2 k := by
  unfold RR
  rw [show Nat.beq 5 1 = false from rfl, show Nat.beq 5 5 = true from rfl, sm_blt_t hk]
  rfl
theorem mi_in {n : Nat} (h : n < 1000) : mi n = m1 ∨ ∃ k, mi n = i3 k ∧ n = k + 1 := by
  cases n with
  | zero => exact Or.inl mi_zero
  | succ n => exact Or.inr ⟨n, mi_succ n, rfl⟩
/-- how many are where e is -/
def cnt (ρ : Nat → Nat) (e n : Nat) : Nat := itr (fun i a => if ρ i = ρ e then a + 1 else a) 0 n 0
theorem cnt_succ (ρ : Nat → Nat) (e n : Nat) : cnt ρ e (n + 1) = if ρ n = ρ e then cnt ρ e n + 1 else cnt ρ e n := by
  unfold cnt
  rw [itr_succ, Nat.zero_add]
theorem cnt_ge (ρ : Nat → Nat) (e : Nat) : ∀ n, (e < n → 1 ≤ cnt ρ e n) ∧ cnt ρ e n ≤ n
  | 0 => ⟨fun h => by omega, Nat.le_refl _⟩
  | n + 1 => by
    have ih := cnt_ge ρ e n
    rw [cnt_succ]
    refine ⟨fun h => ?_, by split <;> omega⟩
    by_cases q : e = n
    · subst q
      rw [if_pos rfl]
      omega
    · have := ih.1 (by omega)
      split <;> omega
/-- somebody else is where e is -/
def oth (ρ : Nat → Nat) (e n : Nat) : Prop := ∃ f, f < n ∧ f ≠ e ∧ ρ f = ρ e
theorem cnt_oth (ρ : Nat → Nat) (e : Nat) : ∀ n, (e < n → (1 < cnt ρ e n ↔ oth ρ e n)) ∧ (n ≤ e → (0 < cnt ρ e n ↔ oth ρ e n))
  | 0 => ⟨fun h => by omega, fun _ => ⟨fun h => absurd h (Nat.lt_irrefl 0), fun ⟨f, h, _⟩ => absurd h (Nat.not_lt_zero f)⟩⟩
  | n + 1 => by
    have ih := cnt_oth ρ e n
    have hs : ∀ q : ρ n = ρ e → False, (oth ρ e (n + 1) ↔ oth ρ e n) := fun q => by
      constructor
      · rintro ⟨f, h1, h2, h3⟩
        have : f ≠ n := fun z => by subst z; exact q h3
        exact ⟨f, by omega, h2, h3⟩
      · rintro ⟨f, h1, h2, h3⟩
        exact ⟨f, by omega, h2, h3⟩
    rw [cnt_succ]
    constructor
    · intro h
      by_cases q : e = n
      · subst q
        rw [if_pos rfl]
        have i2 := ih.2 (Nat.le_refl _)
        constructor
        · intro z
          obtain ⟨f, h1, h2, h3⟩ := i2.mp (by omega)
          exact ⟨f, by omega, h2, h3⟩
        · rintro ⟨f, h1, h2, h3⟩
          have := i2.mpr ⟨f, by omega, h2, h3⟩
          omega
      · have i1 := ih.1 (by omega)
        have g1 := (cnt_ge ρ e n).1 (by omega)
        by_cases q2 : ρ n = ρ e
        · rw [if_pos q2]
          exact ⟨fun _ => ⟨n, by omega, fun z => q z.symm, q2⟩, fun _ => by omega⟩
        · rw [if_neg q2, hs (fun z => q2 z)]
          exact i1
    · intro h
      have i2 := ih.2 (by omega)
      by_cases q2 : ρ n = ρ e
      · rw [if_pos q2]
        exact ⟨fun _ => ⟨n, by omega, by omega, q2⟩, fun _ => by omega⟩
      · rw [if_neg q2, hs (fun z => q2 z)]
        exact i2
def comp (ρ : Nat → Nat) (n e : Nat) : Bool := decide (ρ e ≠ 0) && decide (1 < cnt ρ e n)
theorem loopI {α ρ : Type} {H : Nat → α → ρ} {out : α → ρ} {N : Nat} {step : Nat → α → α} (P : Nat → α → Prop) (a : α) (h0 : P 0 a) (h1 : ∀ i a, i < N → P i a → H i a = H (i + 1) (step i a) ∧ P (i + 1) (step i a)) (h2 : ∀ a, P N a → H N a = out a) : H 0 a = out (itr step 0 N a) := (loopP P h1 h2 N 0 a (by omega) h0).1
theorem s_95 {d x : Nat} {V : pV} {G : sm_G} {L : sm_L} {b s e n : Nat} {ρ : Nat → Nat} (hb : pN b) (hs : pS s) (hc : G s 12 = i3 n) (hn : n ≤ 4) (hr : ∀ e, e < n → G (b + 5 + 4 * e) 1 = mi (ρ e) ∧ ρ e ≤ 8) (he : e < n) : sm_cv0 (d + 1) 95 342 (RR V) [.ref b, .ref s, .ref (b + 5 + 4 * e)] (x, G, L) = oI (bi (comp ρ n e)) x G L := by
  have hK := kw_b (k := e) hb (by omega)
  have he1 := hr e he
  rw [m_95 hb hs hK]
  have key := loopI (H := fun i a => hD d 95 5 [.ref b, .ref s, .ref (b + 5 + 4 * e), .int (i3 a), .int (i3 i)] 342 (RR V) x G L) (out := fun a => oI (bi (decide (ρ e ≠ 0) && decide (1 < a))) x G L) (N := n) (step := fun i a => if ρ i = ρ e then a + 1 else a) (fun i a => a ≤ i) 0 (Nat.le_refl _) ?_ ?_
  · exact key
  · intro i a hi ha
    have hi1 := hr i hi
    have e1 := rw_b (V := V) (k := i) hb (by omega)
    have e2 := iw_K (kw_b (k := i) hb (by omega))
    rw [h_95_5 hb hs hK, hc]
    by_cases q : ρ i = ρ e
    · simp (disch := omega) only [i3_add, i3_mul, i3_sub, i3_m1, i3_lt, i3_le, i3_eq, m1_lt, lt_m1, m1_le, le_m1, i3_nm1, m1_ni3, i3_cl, i3_in, i3_or, i3_and, i3_xor, i3_shl, i3_shr, sh_tb, tb_eq0, gd_tt, aI_o, aV_o, aL_o, aR_o, zd_0, zd_1, if_true, if_false, ite_self, eq_self, Bool.true_eq_false, Bool.false_eq_true, bi_0, bi_1, bi_zd, Nat.not_lt_zero, hi, e1, e2, hi1.1, he1.1, q]
      exact ⟨trivial, by omega⟩
    · simp (disch := omega) only [i3_add, i3_mul, i3_sub, i3_m1, i3_lt, i3_le, i3_eq, m1_lt, lt_m1, m1_le, le_m1, i3_nm1, m1_ni3, i3_cl, i3_in, i3_or, i3_and, i3_xor, i3_shl, i3_shr, sh_tb, tb_eq0, gd_tt, aI_o, aV_o, aL_o, aR_o, zd_0, zd_1, if_true, if_false, ite_self, eq_self, Bool.true_eq_false, Bool.false_eq_true, bi_0, bi_1, bi_zd, Nat.not_lt_zero, hi, e1, e2, hi1.1, he1.1, mi_inj, q, Nat.add_zero]
      exact ⟨trivial, by omega⟩
  · intro a ha
    rw [h_95_5 hb hs hK, hc, he1.1]
    by_cases q : ρ e = 0
    · simp (disch := omega) only [i3_add, i3_mul, i3_sub, i3_m1, i3_lt, i3_le, i3_eq, m1_lt, lt_m1, m1_le, le_m1, i3_nm1, m1_ni3, i3_cl, i3_in, i3_or, i3_and, i3_xor, i3_shl, i3_shr, sh_tb, tb_eq0, gd_tt, aI_o, aV_o, aL_o, aR_o, zd_0, zd_1, if_true, if_false, ite_self, eq_self, Bool.true_eq_false, Bool.false_eq_true, bi_0, bi_1, bi_zd, Nat.not_lt_zero, Nat.lt_irrefl, mi_m1, q, ne_eq, not_true, decide_false, Bool.false_and]
      rfl
    · by_cases q2 : a ≤ 1
      · simp (disch := omega) only [i3_add, i3_mul, i3_sub, i3_m1, i3_lt, i3_le, i3_eq, m1_lt, lt_m1, m1_le, le_m1, i3_nm1, m1_ni3, i3_cl, i3_in, i3_or, i3_and, i3_xor, i3_shl, i3_shr, sh_tb, tb_eq0, gd_tt, aI_o, aV_o, aL_o, aR_o, zd_0, zd_1, if_true, if_false, ite_self, eq_self, Bool.true_eq_false, Bool.false_eq_true, bi_0, bi_1, bi_zd, Nat.not_lt_zero, Nat.lt_irrefl, mi_m1, q, ne_eq, not_false_iff, decide_true, Bool.true_and, q2, show ¬ 1 < a by omega, decide_false]
        rfl
      · simp (disch := omega) only [i3_add, i3_mul, i3_sub, i3_m1, i3_lt, i3_le, i3_eq, m1_lt, lt_m1, m1_le, le_m1, i3_nm1, m1_ni3, i3_cl, i3_in, i3_or, i3_and, i3_xor, i3_shl, i3_shr, sh_tb, tb_eq0, gd_tt, aI_o, aV_o, aL_o, aR_o, zd_0, zd_1, if_true, if_false, ite_self, eq_self, Bool.true_eq_false, Bool.false_eq_true, bi_0, bi_1, bi_zd, Nat.not_lt_zero, Nat.lt_irrefl, mi_m1, q, ne_eq, not_false_iff, decide_true, Bool.true_and, q2, show 1 < a by omega]
        rfl
/-! the model's -/
theorem s_266 {d x : Nat} {V : pV} {G : sm_G} {L : sm_L} {e r : Nat} (he : e < 4) (h : G 325 e = mi r) (hr : r < 1000) : sm_cv0 (d + 1) 266 342 (RR V) [.ref 156, .int (i3 e)] (x, G, L) = oI (bi (decide (r ≠ 0))) x G L := by
  rw [m_266]
  by_cases q : r = 0
  · simp (disch := omega) only [i3_add, i3_mul, i3_sub, i3_m1, i3_lt, i3_le, i3_eq, m1_lt, lt_m1, m1_le, le_m1, i3_nm1, m1_ni3, i3_cl, i3_in, i3_or, i3_and, i3_xor, i3_shl, i3_shr, sh_tb, tb_eq0, gd_tt, aI_o, aV_o, aL_o, aR_o, zd_0, zd_1, if_true, if_false, ite_self, eq_self, Bool.true_eq_false, Bool.false_eq_true, bi_0, bi_1, bi_zd, Nat.not_lt_zero, h, mi_m1, q, ne_eq, not_true, decide_false]
    rfl
  · simp (disch := omega) only [i3_add, i3_mul, i3_sub, i3_m1, i3_lt, i3_le, i3_eq, m1_lt, lt_m1, m1_le, le_m1, i3_nm1, m1_ni3, i3_cl, i3_in, i3_or, i3_and, i3_xor, i3_shl, i3_shr, sh_tb, tb_eq0, gd_tt, aI_o, aV_o, aL_o, aR_o, zd_0, zd_1, if_true, if_false, ite_self, eq_self, Bool.true_eq_false, Bool.false_eq_true, bi_0, bi_1, bi_zd, Nat.not_lt_zero, h, mi_m1, q, ne_eq, not_false_iff, decide_true]
    rfl
theorem l_275 {d x : Nat} {V : pV} {G : sm_G} {L : sm_L} {e n : Nat} {ρ : Nat → Nat} (hn0 : G 160 4 = i3 n) (hn : n ≤ 4) (hr : ∀ e, e < n → G 325 e = mi (ρ e) ∧ ρ e ≤ 8) (he : e < n) : ∀ k i, i + k = n → (∃ z : Bool, hD (d + 1) 275 2 [.ref 156, .int (i3 e), .int (i3 i)] 342 (RR V) x G L = oI (bi z) x G L ∧ (z = true ↔ ∃ f, i ≤ f ∧ f < n ∧ f ≠ e ∧ ρ f ≠ 0 ∧ ρ f = ρ e))
  | 0, i, h => by
    refine ⟨false, ?_, fun z => (by cases z), fun ⟨f, h1, h2, _⟩ => by omega⟩
    rw [h_275_2, hn0]
    simp (disch := omega) only [i3_add, i3_mul, i3_sub, i3_m1, i3_lt, i3_le, i3_eq, m1_lt, lt_m1, m1_le, le_m1, i3_nm1, m1_ni3, i3_cl, i3_in, i3_or, i3_and, i3_xor, i3_shl, i3_shr, sh_tb, tb_eq0, gd_tt, aI_o, aV_o, aL_o, aR_o, zd_0, zd_1, if_true, if_false, ite_self, eq_self, Bool.true_eq_false, Bool.false_eq_true, bi_0, bi_1, bi_zd, Nat.not_lt_zero, show ¬ i < n by omega]
    rfl
  | k + 1, i, h => by
    obtain ⟨z, ih1, ih2⟩ := l_275 (d := d) (x := x) (L := L) (V := V) hn0 hn hr he k (i + 1) (by omega)
    have hi := hr i (by omega)
    have hee := hr e he
    have hskip : (i = e ∨ ρ i = 0 ∨ ρ i ≠ ρ e) → (z = true ↔ ∃ f, i ≤ f ∧ f < n ∧ f ≠ e ∧ ρ f ≠ 0 ∧ ρ f = ρ e) := fun q => by
      rw [ih2]
      constructor
      · rintro ⟨f, h1, h2, h3⟩
        exact ⟨f, by omega, h2, h3⟩
      · rintro ⟨f, h1, h2, h3, h4, h5⟩
        have : f ≠ i := fun z => by
          subst z
          rcases q with q | q | q
          · exact h3 q
          · exact h4 q
          · exact q h5
        exact ⟨f, by omega, h2, h3, h4, h5⟩
    have e266 := s_266 (d := d) (x := x) (L := L) (V := V) (e := i) (by omega) hi.1 (by omega)
    by_cases q1 : i = e
    · refine ⟨z, ?_, hskip (Or.inl q1)⟩
      rw [h_275_2, hn0]
      simp (disch := omega) only [i3_add, i3_mul, i3_sub, i3_m1, i3_lt, i3_le, i3_eq, m1_lt, lt_m1, m1_le, le_m1, i3_nm1, m1_ni3, i3_cl, i3_in, i3_or, i3_and, i3_xor, i3_shl, i3_shr, sh_tb, tb_eq0, gd_tt, aI_o, aV_o, aL_o, aR_o, zd_0, zd_1, if_true, if_false, ite_self, eq_self, Bool.true_eq_false, Bool.false_eq_true, bi_0, bi_1, bi_zd, Nat.not_lt_zero, show i < n by omega, eq_true q1]
      exact ih1
    · by_cases q2 : ρ i = 0
      · refine ⟨z, ?_, hskip (Or.inr (Or.inl q2))⟩
        rw [h_275_2, hn0, e266]
        simp (disch := omega) only [i3_add, i3_mul, i3_sub, i3_m1, i3_lt, i3_le, i3_eq, m1_lt, lt_m1, m1_le, le_m1, i3_nm1, m1_ni3, i3_cl, i3_in, i3_or, i3_and, i3_xor, i3_shl, i3_shr, sh_tb, tb_eq0, gd_tt, aI_o, aV_o, aL_o, aR_o, zd_0, zd_1, if_true, if_false, ite_self, eq_self, Bool.true_eq_false, Bool.false_eq_true, bi_0, bi_1, bi_zd, Nat.not_lt_zero, show i < n by omega, q1, q2, ne_eq, not_true, decide_false]
        exact ih1
      · by_cases q3 : ρ i = ρ e
        · refine ⟨true, ?_, fun _ => ⟨i, Nat.le_refl _, by omega, q1, q2, q3⟩, fun _ => rfl⟩
          rw [h_275_2, hn0, e266]
          have q4 : ¬ ρ e = 0 := fun z => q2 (q3.trans z)
          simp (disch := omega) only [i3_add, i3_mul, i3_sub, i3_m1, i3_lt, i3_le, i3_eq, m1_lt, lt_m1, m1_le, le_m1, i3_nm1, m1_ni3, i3_cl, i3_in, i3_or, i3_and, i3_xor, i3_shl, i3_shr, sh_tb, tb_eq0, gd_tt, aI_o, aV_o, aL_o, aR_o, zd_0, zd_1, if_true, if_false, ite_self, eq_self, Bool.true_eq_false, Bool.false_eq_true, bi_0, bi_1, bi_zd, Nat.not_lt_zero, show i < n by omega, q1, q2, ne_eq, not_false_iff, decide_true, hi.1, hee.1, mi_inj, q3, q4]
          rfl
        · refine ⟨z, ?_, hskip (Or.inr (Or.inr q3))⟩
          rw [h_275_2, hn0, e266]
          simp (disch := omega) only [i3_add, i3_mul, i3_sub, i3_m1, i3_lt, i3_le, i3_eq, m1_lt, lt_m1, m1_le, le_m1, i3_nm1, m1_ni3, i3_cl, i3_in, i3_or, i3_and, i3_xor, i3_shl, i3_shr, sh_tb, tb_eq0, gd_tt, aI_o, aV_o, aL_o, aR_o, zd_0, zd_1, if_true, if_false, ite_self, eq_self, Bool.true_eq_false, Bool.false_eq_true, bi_0, bi_1, bi_zd, Nat.not_lt_zero, show i < n by omega, q1, q2, ne_eq, not_false_iff, decide_true, hi.1, hee.1, mi_inj, q3]
          exact ih1
theorem s_275 {d x : Nat} {V : pV} {G : sm_G} {L : sm_L} {e n : Nat} {ρ : Nat → Nat} (hn0 : G 160 4 = i3 n) (hn : n ≤ 4) (hr : ∀ e, e < n → G 325 e = mi (ρ e) ∧ ρ e ≤ 8) (he : e < n) : sm_cv0 (d + 2) 275 342 (RR V) [.ref 156, .int (i3 e)] (x, G, L) = oI (bi (comp ρ n e)) x G L := by
  obtain ⟨z, h1, h2⟩ := l_275 (d := d) (x := x) (L := L) (V := V) hn0 hn hr he n 0 (by omega)
  rw [m_275, h1]
  congr 2
  rw [Bool.eq_iff_iff, h2]
  unfold comp
  rw [Bool.and_eq_true, decide_eq_true_eq, decide_eq_true_eq, (cnt_oth ρ e n).1 he]
  constructor
  · rintro ⟨f, _, h3, h4, h5, h6⟩
    exact ⟨by rw [← h6]; exact h5, f, h3, h4, h6⟩
  · rintro ⟨h0, f, h3, h4, h6⟩
    exact ⟨f, Nat.zero_le _, h3, h4, by rw [h6]; exact h0, h6⟩
