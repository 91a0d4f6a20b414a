theorem i3_andn (a b : Nat) : i3 a &&& (i3 b ^^^ m1) = i3 (a ^^^ (a &&& b)) := by
  rw [← i3_xor, ← i3_and]
  apply Int32.toBitVec_inj.mp
  rw [Int32.toBitVec_and, Int32.toBitVec_xor, Int32.toBitVec_xor, Int32.toBitVec_and]
  apply BitVec.eq_of_getLsbD_eq
  intro i hi
  have h1 : m1.toBitVec = BitVec.allOnes 32 := by decide
  rw [h1, BitVec.getLsbD_and, BitVec.getLsbD_xor, BitVec.getLsbD_xor, BitVec.getLsbD_and, BitVec.getLsbD_allOnes, decide_eq_true hi]
  cases (i3 a).toBitVec.getLsbD i <;> cases (i3 b).toBitVec.getLsbD i <;> rfl
theorem ndf_tb (a b k : Nat) : (a ^^^ (a &&& b)).testBit k = (a.testBit k && !b.testBit k) := by
  rw [Nat.testBit_xor, Nat.testBit_and]
  cases a.testBit k <;> cases b.testBit k <;> rfl
/-- all that is reached within a minute -/
def wit (T : pT) (t dm : Nat → Nat) (m R : Nat) : Nat := itr (fun _ R => nxt T t dm R m) 0 8 R
theorem s_157 {d x : Nat} {V : pV} {G : sm_G} {L : sm_L} {s : Nat} {T : pT} {t dm : Nat → Nat} {a m : Nat} (hs : pS s) (hc : cS G s T) (hT : okT T) (hw : cW G t dm) (ha : a < 8) (hm : m < 301) :
    sm_cv0 (d + 3) 157 342 (RR V) [.ref 61, .ref s, .ref 54, .int (i3 a), .int (i3 m)] (x, G, L) = oI (i3 (t m ^^^ (t m &&& wit T t dm m (1 <<< a &&& t m)))) x G L := by
  rw [m_157 hs, s_158 hw (show (0 : Nat) < 256 by decide) ha hm]
  simp only [aI_o, Nat.or_zero]
  have hR : 1 <<< a &&& t m < 256 := Nat.lt_of_le_of_lt Nat.and_le_right (hw m hm).2.2.1
  have key := loopP (H := fun i R => hD (d + 2) 157 13 [.null, .ref s, .ref 54, .null, .int (i3 m), .int (i3 R), .int (i3 i)] 342 (RR V) x G L) (out := fun R => oI (i3 (t m ^^^ (t m &&& R))) x G L) (N := 8) (step := fun _ R => nxt T t dm R m) (fun _ R => R < 256) ?_ ?_ 8 0 _ (by omega) hR
  · exact key.1
  · intro i R hi h3
    have e1 := s_159 (d := d) (x := x) (L := L) (V := V) hs hc hT hw (show (0 : Nat) < 256 by decide) h3 hm
    simp only [Nat.or_zero] at e1
    refine ⟨?_, Nat.lt_of_le_of_lt (nxt_le _ _ _ _ _) (hw m hm).2.2.1⟩
    rw [h_157_13 hs]
    simp (disch := omega) only [i3_add, i3_mul, i3_sub, i3_m1, i3_lt, i3_le, i3_eq, m1_lt, lt_m1, m1_le, le_m1, i3_nm1, m1_ni3, i3_cl, i3_in, i3_or, i3_and, i3_xor, i3_shl, i3_shr, sh_tb, tb_eq0, gd_tt, aI_o, aV_o, aL_o, aR_o, zd_0, zd_1, if_true, if_false, ite_self, eq_self, Bool.true_eq_false, Bool.false_eq_true, bi_0, bi_1, bi_zd, Nat.not_lt_zero, hi, e1]
  · intro R _
    rw [h_157_13 hs]
    simp (disch := omega) only [i3_add, i3_mul, i3_sub, i3_m1, i3_lt, i3_le, i3_eq, m1_lt, lt_m1, m1_le, le_m1, i3_nm1, m1_ni3, i3_cl, i3_in, i3_or, i3_and, i3_xor, i3_shl, i3_shr, sh_tb, tb_eq0, gd_tt, aI_o, aV_o, aL_o, aR_o, zd_0, zd_1, if_true, if_false, ite_self, eq_self, Bool.true_eq_false, Bool.false_eq_true, bi_0, bi_1, bi_zd, Nat.not_lt_zero, Nat.lt_irrefl, (hw m hm).1, i3_andn]
/-- looking back: who can come to R, k minutes ahead of the last -/
def gbk (T : pT) (t dm : Nat → Nat) (R also last : Nat) : Nat → Nat
  | 0 => R &&& t last
  | k + 1 => (bhi T (gbk T t dm R also last k) (dm (last - k)) (gbk T t dm R also last k) ||| also) &&& t (last - k - 1)
theorem gbk_lt {T : pT} {t dm : Nat → Nat} {R also last : Nat} (ht : ∀ m, m < 301 → t m < 256) (hl : last < 301) : ∀ k, gbk T t dm R also last k < 256
  | 0 => Nat.lt_of_le_of_lt Nat.and_le_right (ht last hl)
  | k + 1 => Nat.lt_of_le_of_lt Nat.and_le_right (ht _ (by omega))
theorem s_162 {d x : Nat} {V : pV} {G : sm_G} {L : sm_L} {s : Nat} {T : pT} {t dm : Nat → Nat} {R also last m : Nat} (hs : pS s) (hc : cS G s T) (hT : okT T) (hw : cW G t dm) (hR : R < 256) (hA : also < 256) (hl : last < 301) (hm : m ≤ last) :
    ∃ G', sm_cv0 (d + 2) 162 342 (RR V) [.ref 61, .ref s, .ref 54, .int (i3 R), .int (i3 also), .int (i3 last), .int (i3 m)] (x, G, L) = oV x G' L ∧ (∀ r k, r ≠ 62 → G' r k = G r k) ∧ ∀ k, k ≤ last - m → G' 62 (last - k) = i3 (gbk T t dm R also last k) := by
  rw [m_162 hs]
  have hlt := fun k => gbk_lt (T := T) (R := R) (also := also) (dm := dm) (fun m hm => (hw m hm).2.2.1) hl k
  have main : ∀ n k (g : sm_G), k + n = last - m → (∀ r j, r ≠ 62 → g r j = G r j) → (∀ j, j ≤ k → g 62 (last - j) = i3 (gbk T t dm R also last j)) → ∃ G', hD (d + 1) 162 22 [.ref 61, .ref s, .ref 54, .null, .int (i3 also), .null, .int (i3 m), .int (i3 (last - k) - i3 1)] 342 (RR V) x g L = oV x G' L ∧ (∀ r k, r ≠ 62 → G' r k = G r k) ∧ ∀ k, k ≤ last - m → G' 62 (last - k) = i3 (gbk T t dm R also last k) := by
    intro n
    induction n with
    | zero =>
      intro k g h1 h2 h3
      refine ⟨g, ?_, h2, fun j hj => h3 j (by omega)⟩
      have hk : last - k = m := by omega
      rw [h_162_22 hs, hk]
      by_cases q : m = 0
      · subst q
        rw [show i3 0 - i3 1 = m1 from rfl]
        simp (disch := omega) only [i3_add, i3_mul, i3_sub, i3_m1, i3_lt, i3_le, i3_eq, m1_lt, lt_m1, m1_le, le_m1, i3_nm1, m1_ni3, i3_cl, i3_in, i3_or, i3_and, i3_xor, i3_shl, i3_shr, sh_tb, tb_eq0, gd_tt, aI_o, aV_o, aL_o, aR_o, zd_0, zd_1, if_true, if_false, ite_self, eq_self, Bool.true_eq_false, Bool.false_eq_true, bi_0, bi_1, bi_zd, Nat.not_lt_zero]
      · simp (disch := omega) only [i3_add, i3_mul, i3_sub, i3_m1, i3_lt, i3_le, i3_eq, m1_lt, lt_m1, m1_le, le_m1, i3_nm1, m1_ni3, i3_cl, i3_in, i3_or, i3_and, i3_xor, i3_shl, i3_shr, sh_tb, tb_eq0, gd_tt, aI_o, aV_o, aL_o, aR_o, zd_0, zd_1, if_true, if_false, ite_self, eq_self, Bool.true_eq_false, Bool.false_eq_true, bi_0, bi_1, bi_zd, Nat.not_lt_zero, show m - 1 < m by omega]
    | succ n ih =>
      intro k g h1 h2 h3
      have hkl : k + 1 ≤ last := by omega
      obtain ⟨j, hj⟩ : ∃ j, last - k = j + 1 := ⟨last - k - 1, by omega⟩
      have hc' : cS g s T := hc.keep (fun r k h => h2 r k (by unfold inC at h; have := pS_lt hs; omega))
      have e62 : g 62 (j + 1) = i3 (gbk T t dm R also last k) := by rw [← hj]; exact h3 k (Nat.le_refl _)
      have e57 : g 57 (j + 1) = i3 (dm (j + 1)) := by rw [h2 57 _ (by decide)]; exact (hw (j + 1) (by omega)).2.1
      have e56 : g 56 j = i3 (t j) := by rw [h2 56 _ (by decide)]; exact (hw j (by omega)).1
      have e119 := s_119 (d := d) (x := x) (L := L) (V := V) (G := g) hs hc' hT (show gbk T t dm R also last k < 1024 by have := hlt k; omega) (hw (j + 1) (by omega)).2.2.2
      have hstep : ((gbk T t dm R also last k ||| bhi T (gbk T t dm R also last k) (dm (j + 1)) 0) ||| also) &&& t j = gbk T t dm R also last (k + 1) := by
        rw [← bhi_or]
        show _ = (bhi T (gbk T t dm R also last k) (dm (last - k)) (gbk T t dm R also last k) ||| also) &&& t (last - k - 1)
        rw [hj]
        rfl
      obtain ⟨G', f1, f2, f3⟩ := ih (k + 1) (sm_up g 62 j (i3 (gbk T t dm R also last (k + 1)))) (by omega) (fun r i h => by rw [sm_up_ne (Or.inl h)]; exact h2 r i h) (fun i hi => by
        by_cases q : i = k + 1
        · subst q
          rw [show last - (k + 1) = j by omega]
          exact sm_up_same _ _ _ _
        · rw [sm_up_ne (Or.inr (by omega))]
          exact h3 i (by omega))
      refine ⟨G', ?_, f2, f3⟩
      rw [← f1, h_162_22 hs, hj, show last - (k + 1) = j by omega]
      have e1 : i3 (j + 1) - i3 1 = i3 j := by rw [i3_sub (by omega)]; rfl
      have e2 : i3 j - i3 1 = i3 j + m1 := by
        rw [Int32.sub_eq_add_neg]
        rfl
      rw [e1, e2]
      simp (disch := omega) only [i3_add, i3_mul, i3_sub, i3_m1, i3_lt, i3_le, i3_eq, m1_lt, lt_m1, m1_le, le_m1, i3_nm1, m1_ni3, i3_cl, i3_in, i3_or, i3_and, i3_xor, i3_shl, i3_shr, sh_tb, tb_eq0, gd_tt, aI_o, aV_o, aL_o, aR_o, zd_0, zd_1, if_true, if_false, ite_self, eq_self, Bool.true_eq_false, Bool.false_eq_true, bi_0, bi_1, bi_zd, Nat.not_lt_zero, show ¬ j < m by omega, e62, e57, e119, e56, hstep]
  obtain ⟨G', f1, f2, f3⟩ := main (last - m) 0 (sm_up G 62 last (i3 (gbk T t dm R also last 0))) (by omega) (fun r j h => sm_up_ne (Or.inl h)) (fun j hj => by
    have : j = 0 := by omega
    subst this
    exact sm_up_same _ _ _ _)
  refine ⟨G', ?_, f2, f3⟩
  rw [← f1]
  have e0 : gbk T t dm R also last 0 = R &&& t last := rfl
  rw [e0, Nat.sub_zero]
  have e56 := (hw last hl).1
  have e3 : (sm_in (i3 last) 301) = true := i3_in (by omega) hl
  simp only [e3, gd_tt, i3_cl (show last < 2147483648 by omega), e56, i3_and]
/-- doors go both ways -/
theorem bhi_sym (T : pT) (A B o : Nat) : (bhi T A o A &&& B = 0) ↔ (A &&& bhi T B o B = 0) := by
  have one : ∀ A B : Nat, (A &&& bhi T B o B = 0) → (bhi T A o A &&& B = 0) := by
    intro A B h
    have h1 : ∀ k, A.testBit k = true → (bhi T B o B).testBit k = true → False := fun k p q => by
      have : (A &&& bhi T B o B).testBit k = false := by rw [h]; exact Nat.zero_testBit k
      rw [Nat.testBit_and, p, q] at this
      cases this
    apply eqb
    intro k
    rw [Nat.zero_testBit, Nat.testBit_and]
    cases q1 : (bhi T A o A).testBit k with
    | false => rfl
    | true =>
      cases q2 : B.testBit k with
      | false => rfl
      | true =>
        exfalso
        rw [bhi_tb] at q1
        rcases q1 with q1 | ⟨e, he, ho, h3⟩
        · exact h1 k q1 ((bhi_tb _ _ _ _ _).mpr (Or.inl q2))
        · rcases h3 with ⟨h3, h4⟩ | ⟨h3, h4⟩
          · exact h1 (dA T e) h4 ((bhi_tb _ _ _ _ _).mpr (Or.inr ⟨e, he, ho, Or.inr ⟨rfl, by rw [h3]; exact q2⟩⟩))
          · exact h1 (dB T e) h4 ((bhi_tb _ _ _ _ _).mpr (Or.inr ⟨e, he, ho, Or.inl ⟨rfl, by rw [h3]; exact q2⟩⟩))
  constructor
  · intro h
    have := one B A (by rw [Nat.and_comm]; exact h)
    rw [Nat.and_comm]
    exact this
  · exact one A B
theorem and_sub {A B : Nat} (h : A &&& B = A) (k : Nat) (hk : A.testBit k = true) : B.testBit k = true := by
  have : (A &&& B).testBit k = true := by rw [h]; exact hk
  rw [Nat.testBit_and, hk] at this
  simpa using this
theorem one_and (R b : Nat) : (R &&& 1 <<< b = 0) ↔ R.testBit b = false := by
  constructor
  · intro h
    have : (R &&& 1 <<< b).testBit b = false := by rw [h]; exact Nat.zero_testBit b
    rw [Nat.testBit_and, one_shl_tb] at this
    simpa using this
  · intro h
    apply eqb
    intro k
    rw [Nat.testBit_and, one_shl_tb, Nat.zero_testBit]
    by_cases e : b = k
    · subst e; simp [h]
    · simp [e]
theorem or_0 (A B : Nat) : (A ||| B = 0) ↔ (A = 0 ∧ B = 0) := by
  constructor
  · intro h
    have h1 : ∀ k, (A ||| B).testBit k = false := fun k => by rw [h]; exact Nat.zero_testBit k
    refine ⟨eqb (fun k => ?_), eqb (fun k => ?_)⟩
    · have := h1 k
      rw [Nat.testBit_or, Bool.or_eq_false_iff] at this
      rw [this.1, Nat.zero_testBit]
    · have := h1 k
      rw [Nat.testBit_or, Bool.or_eq_false_iff] at this
      rw [this.2, Nat.zero_testBit]
  · rintro ⟨rfl, rfl⟩; rfl
/-- one comes somewhere by the last minute just where looking back says so -/
theorem rch_back (T : pT) (t dm : Nat → Nat) (last : Nat) : ∀ n m R, m + n = last → R &&& t m = R → (rch T t dm n m R = 0 ↔ R &&& gbk T t dm (t last) 0 last n = 0)
  | 0, m, R, h, hR => by
    have : m = last := by omega
    subst this
    show R = 0 ↔ R &&& (t m &&& t m) = 0
    rw [Nat.and_self, hR]
  | n + 1, m, R, h, hR => by
    show rch T t dm n (m + 1) (nxt T t dm R (m + 1)) = 0 ↔ _
    rw [rch_back T t dm last n (m + 1) _ (by omega) (by unfold nxt; rw [Nat.and_assoc, Nat.and_self])]
    have e1 : last - n = m + 1 := by omega
    show nxt T t dm R (m + 1) &&& gbk T t dm (t last) 0 last n = 0 ↔ R &&& ((bhi T (gbk T t dm (t last) 0 last n) (dm (last - n)) (gbk T t dm (t last) 0 last n) ||| 0) &&& t (last - n - 1)) = 0
    rw [e1, Nat.or_zero, show m + 1 - 1 = m from rfl]
    have hg : gbk T t dm (t last) 0 last n &&& t (m + 1) = gbk T t dm (t last) 0 last n := by
      cases n with
      | zero =>
        have : m + 1 = last := by omega
        subst this
        show (t (m + 1) &&& t (m + 1)) &&& t (m + 1) = t (m + 1) &&& t (m + 1)
        rw [Nat.and_self, Nat.and_self]
      | succ n =>
        show ((bhi T (gbk T t dm (t last) 0 last n) (dm (last - n)) (gbk T t dm (t last) 0 last n) ||| 0) &&& t (last - n - 1)) &&& t (m + 1) = _
        rw [show last - n - 1 = m + 1 by omega, Nat.and_assoc, Nat.and_self]
        show _ = (bhi T (gbk T t dm (t last) 0 last n) (dm (last - n)) (gbk T t dm (t last) 0 last n) ||| 0) &&& t (last - n - 1)
        rw [show last - n - 1 = m + 1 by omega]
    generalize gbk T t dm (t last) 0 last n = A at hg ⊢
    unfold nxt
    rw [Nat.and_assoc, Nat.and_comm (t (m + 1)) A, hg, bhi_sym]
    rw [Nat.and_comm (bhi T A (dm (m + 1)) A) (t m), ← Nat.and_assoc, hR]
/-- and comes to b by then -/
theorem fs_back (T : pT) (t dm : Nat → Nat) (b last : Nat) : ∀ n m R, m + n = last → R &&& t m = R → (fs T t dm b (n + 1) m R = 0 ↔ R &&& gbk T t dm (1 <<< b) (1 <<< b) last n = 0)
  | 0, m, R, h, hR => by
    have : m = last := by omega
    subst this
    show (if R.testBit b = true then m + 1 else 0) = 0 ↔ R &&& (1 <<< b &&& t m) = 0
    rw [Nat.and_comm (1 <<< b), ← Nat.and_assoc, hR]
    rw [show (R &&& 1 <<< b = 0) ↔ R.testBit b = false from one_and R b]
    cases R.testBit b <;> simp
  | n + 1, m, R, h, hR => by
    show (if R.testBit b = true then m + 1 else fs T t dm b (n + 1) (m + 1) (nxt T t dm R (m + 1))) = 0 ↔ _
    have ih := fs_back T t dm b last n (m + 1) (nxt T t dm R (m + 1)) (by omega) (by unfold nxt; rw [Nat.and_assoc, Nat.and_self])
    have e1 : last - n = m + 1 := by omega
    show _ ↔ R &&& ((bhi T (gbk T t dm (1 <<< b) (1 <<< b) last n) (dm (last - n)) (gbk T t dm (1 <<< b) (1 <<< b) last n) ||| 1 <<< b) &&& t (last - n - 1)) = 0
    rw [e1, show m + 1 - 1 = m from rfl]
    have hg : gbk T t dm (1 <<< b) (1 <<< b) last n &&& t (m + 1) = gbk T t dm (1 <<< b) (1 <<< b) last n := by
      cases n with
      | zero =>
        have : m + 1 = last := by omega
        subst this
        show (1 <<< b &&& t (m + 1)) &&& t (m + 1) = 1 <<< b &&& t (m + 1)
        rw [Nat.and_assoc, Nat.and_self]
      | succ n =>
        show ((bhi T (gbk T t dm (1 <<< b) (1 <<< b) last n) (dm (last - n)) (gbk T t dm (1 <<< b) (1 <<< b) last n) ||| 1 <<< b) &&& t (last - n - 1)) &&& t (m + 1) = _
        rw [show last - n - 1 = m + 1 by omega, Nat.and_assoc, Nat.and_self]
        show _ = (bhi T (gbk T t dm (1 <<< b) (1 <<< b) last n) (dm (last - n)) (gbk T t dm (1 <<< b) (1 <<< b) last n) ||| 1 <<< b) &&& t (last - n - 1)
        rw [show last - n - 1 = m + 1 by omega]
    generalize gbk T t dm (1 <<< b) (1 <<< b) last n = A at hg ih ⊢
    have e2 : (R &&& ((bhi T A (dm (m + 1)) A ||| 1 <<< b) &&& t m) = 0) ↔ (R &&& bhi T A (dm (m + 1)) A = 0 ∧ R.testBit b = false) := by
      rw [Nat.and_comm _ (t m), ← Nat.and_assoc, hR, Nat.and_or_distrib_left, ← one_and R b]
      exact or_0 _ _
    rw [e2]
    cases q : R.testBit b
    · simp only [Bool.false_eq_true, if_false, and_true]
      rw [ih]
      unfold nxt
      rw [Nat.and_assoc, Nat.and_comm (t (m + 1)) A, hg, bhi_sym]
    · simp
