/-! rooms, doors, noises: by both -/
theorem and2_0 (b x y : Nat) : (b &&& (1 <<< x ||| 1 <<< y) = 0) ↔ (b.testBit x = false ∧ b.testBit y = false) := by
  constructor
  · intro h
    have h1 : ∀ k, (b &&& (1 <<< x ||| 1 <<< y)).testBit k = false := fun k => by rw [h]; exact Nat.zero_testBit k
    refine ⟨?_, ?_⟩
    · have := h1 x
      rw [Nat.testBit_and, Nat.testBit_or, one_shl_tb, one_shl_tb] at this
      simpa using this
    · have := h1 y
      rw [Nat.testBit_and, Nat.testBit_or, one_shl_tb, one_shl_tb] at this
      simpa using this
  · rintro ⟨h1, h2⟩
    apply eqb
    intro k
    rw [Nat.testBit_and, Nat.testBit_or, one_shl_tb, one_shl_tb, Nat.zero_testBit]
    by_cases e1 : x = k
    · subst e1; simp [h1]
    · by_cases e2 : y = k
      · subst e2; simp [h2]
      · simp [e1, e2]
/-- the rooms that are there while these sleep -/
def rmB (T : pT) (s : Nat → Bool) : Nat := bs (fun r => s r || (decide (tp T r ≠ 0) && s (tp T r - 1))) (sl T)
theorem rm_itb (T : pT) (b : Nat) : ∀ (n k : Nat), (itr (fun i a => if b &&& (1 <<< ta T i ||| 1 <<< tc2 T i) = 0 then a else a ||| (1 <<< ta T i ||| 1 <<< tc2 T i)) 0 n b).testBit k = true ↔ b.testBit k = true ∨ ∃ i, i < n ∧ (b.testBit (ta T i) = true ∨ b.testBit (tc2 T i) = true) ∧ (k = ta T i ∨ k = tc2 T i)
  | 0, k => by
    show b.testBit k = true ↔ _
    constructor
    · exact Or.inl
    · rintro (h | ⟨i, hi, _⟩)
      · exact h
      · omega
  | n + 1, k => by
    rw [itr_succ, Nat.zero_add]
    have ih := rm_itb T b n k
    generalize itr (fun i a => if b &&& (1 <<< ta T i ||| 1 <<< tc2 T i) = 0 then a else a ||| (1 <<< ta T i ||| 1 <<< tc2 T i)) 0 n b = z at ih ⊢
    have e : ∀ q : Prop, (q ∨ ∃ i, i < n + 1 ∧ (b.testBit (ta T i) = true ∨ b.testBit (tc2 T i) = true) ∧ (k = ta T i ∨ k = tc2 T i)) ↔ ((q ∨ ∃ i, i < n ∧ (b.testBit (ta T i) = true ∨ b.testBit (tc2 T i) = true) ∧ (k = ta T i ∨ k = tc2 T i)) ∨ ((b.testBit (ta T n) = true ∨ b.testBit (tc2 T n) = true) ∧ (k = ta T n ∨ k = tc2 T n))) := by
      intro q
      constructor
      · rintro (h | ⟨i, hi, h⟩)
        · exact Or.inl (Or.inl h)
        · by_cases hn : i = n
          · subst hn; exact Or.inr h
          · exact Or.inl (Or.inr ⟨i, by omega, h⟩)
      · rintro ((h | ⟨i, hi, h⟩) | h)
        · exact Or.inl h
        · exact Or.inr ⟨i, by omega, h⟩
        · exact Or.inr ⟨n, by omega, h⟩
    rw [e, ← ih]
    by_cases q : b &&& (1 <<< ta T n ||| 1 <<< tc2 T n) = 0
    · rw [if_pos q]
      obtain ⟨q1, q2⟩ := (and2_0 _ _ _).mp q
      rw [q1, q2]
      simp
    · rw [if_neg q]
      rw [and2_0] at q
      rw [Nat.testBit_or, Nat.testBit_or, one_shl_tb, one_shl_tb]
      have q3 : b.testBit (ta T n) = true ∨ b.testBit (tc2 T n) = true := by
        cases h1 : b.testBit (ta T n) <;> cases h2 : b.testBit (tc2 T n) <;> simp_all
      simp only [q3, true_and, Bool.or_eq_true, decide_eq_true_eq]
      constructor
      · rintro (h | h | h)
        · exact Or.inl h
        · exact Or.inr (Or.inl h.symm)
        · exact Or.inr (Or.inr h.symm)
      · rintro (h | h | h)
        · exact Or.inl h
        · exact Or.inr (Or.inl h.symm)
        · exact Or.inr (Or.inr h.symm)
theorem tb_ge {b n k : Nat} (hb : b < 2 ^ n) (hk : n ≤ k) : b.testBit k = false := Nat.testBit_lt_two_pow (Nat.lt_of_lt_of_le hb (Nat.pow_le_pow_right (by decide) hk))
theorem rm_it {T : pT} {b : Nat} (hT : okT T) (hb : b < 2 ^ sl T) : itr (fun i a => if b &&& (1 <<< ta T i ||| 1 <<< tc2 T i) = 0 then a else a ||| (1 <<< ta T i ||| 1 <<< tc2 T i)) 0 (tn T) b = rmB T b.testBit := by
  apply eqb
  intro k
  rw [Bool.eq_iff_iff, rm_itb]
  unfold rmB
  rw [bs_tb]
  simp only [Bool.and_eq_true, Bool.or_eq_true, decide_eq_true_eq]
  constructor
  · rintro (h | ⟨i, hi, h1, h2⟩)
    · refine ⟨Nat.lt_of_not_le (fun z => ?_), Or.inl h⟩
      rw [tb_ge hb z] at h
      cases h
    · obtain ⟨g1, g2, g3⟩ := hT.gtw i hi
      rcases h2 with rfl | rfl
      · refine ⟨g1, ?_⟩
        have := (hT.gtq _ g1 (tc2 T i)).mpr ⟨i, hi, Or.inl ⟨rfl, rfl⟩⟩
        rcases h1 with h1 | h1
        · exact Or.inl h1
        · exact Or.inr ⟨by omega, by rw [this]; exact h1⟩
      · refine ⟨g2, ?_⟩
        have := (hT.gtq _ g2 (ta T i)).mpr ⟨i, hi, Or.inr ⟨rfl, rfl⟩⟩
        rcases h1 with h1 | h1
        · exact Or.inr ⟨by omega, by rw [this]; exact h1⟩
        · exact Or.inl h1
  · rintro ⟨hk, h | ⟨h1, h2⟩⟩
    · exact Or.inl h
    · obtain ⟨i, hi, h3⟩ := (hT.gtq k hk (tp T k - 1)).mp (by omega)
      refine Or.inr ⟨i, hi, ?_⟩
      rcases h3 with ⟨e1, e2⟩ | ⟨e1, e2⟩
      · exact ⟨Or.inr (by rw [e2]; exact h2), Or.inl e1.symm⟩
      · exact ⟨Or.inl (by rw [e1]; exact h2), Or.inr e2.symm⟩
theorem s_118 {d x : Nat} {V : pV} {G : sm_G} {L : sm_L} {s b : Nat} {T : pT} (hs : pS s) (hc : cS G s T) (hT : okT T) (hb : b < 2 ^ sl T) (hb2 : b < 1024) : sm_cv0 (d + 1) 118 342 (RR V) [.ref s, .int (i3 b)] (x, G, L) = oI (i3 (rmB T b.testBit)) x G L := by
  have hB := hT.gb
  rw [m_118 hs, ← rm_it hT hb]
  refine loop0 (H := fun i a => hD d 118 4 [.ref s, .int (i3 b), .int (i3 a), .int (i3 i)] 342 (RR V) x G L) (out := fun a => oI (i3 a) x G L) ?_ ?_ b
  · intro i a hi
    have h1 : b &&& (1 <<< ta T i ||| 1 <<< tc2 T i) ≤ b := Nat.and_le_left
    rw [h_118_4 hs, hc.gtn]
    by_cases q : (b &&& (1 <<< ta T i ||| 1 <<< tc2 T i)) = 0
    · simp (disch := omega) only [i3_add, i3_mul, i3_sub, i3_m1, i3_lt, i3_le, i3_eq, m1_lt, lt_m1, m1_le, le_m1, i3_nm1, m1_ni3, i3_cl, i3_in, i3_or, i3_and, i3_xor, i3_shl, i3_shr, sh_tb, tb_eq0, gd_tt, aI_o, aV_o, aL_o, aR_o, zd_0, zd_1, if_true, if_false, ite_self, eq_self, Bool.true_eq_false, Bool.false_eq_true, bi_0, bi_1, bi_zd, Nat.not_lt_zero, hc.gtw, hi, q]
    · simp (disch := omega) only [i3_add, i3_mul, i3_sub, i3_m1, i3_lt, i3_le, i3_eq, m1_lt, lt_m1, m1_le, le_m1, i3_nm1, m1_ni3, i3_cl, i3_in, i3_or, i3_and, i3_xor, i3_shl, i3_shr, sh_tb, tb_eq0, gd_tt, aI_o, aV_o, aL_o, aR_o, zd_0, zd_1, if_true, if_false, ite_self, eq_self, Bool.true_eq_false, Bool.false_eq_true, bi_0, bi_1, bi_zd, Nat.not_lt_zero, hc.gtw, hi, q]
  · intro a
    rw [h_118_4 hs, hc.gtn]
    simp (disch := omega) only [i3_add, i3_mul, i3_sub, i3_m1, i3_lt, i3_le, i3_eq, m1_lt, lt_m1, m1_le, le_m1, i3_nm1, m1_ni3, i3_cl, i3_in, i3_or, i3_and, i3_xor, i3_shl, i3_shr, sh_tb, tb_eq0, gd_tt, aI_o, aV_o, aL_o, aR_o, zd_0, zd_1, if_true, if_false, ite_self, eq_self, Bool.true_eq_false, Bool.false_eq_true, bi_0, bi_1, bi_zd, Nat.not_lt_zero, Nat.lt_irrefl]
