/-- the rooms there with more kept asleep -/
theorem tB_or {T P : pT} {K E : Nat} (h : E &&& K = K) (m : Nat) : tB T P K m ||| rmB T E.testBit = tB T P E m := by
  have hs : ∀ k, K.testBit k = true → E.testBit k = true := and_sub (by rw [Nat.and_comm]; exact h)
  apply eqb
  intro k
  unfold tB rmB slp0 slp
  rw [Nat.testBit_or, bs_tb, bs_tb, bs_tb]
  dsimp only
  have h1 := hs k
  have h2 := hs (tp T k - 1)
  generalize (decide (fr P k ≤ m) && decide (m < un P k) && (decide (mk T = 0) || decide (m + 1 < mk T + k)) && decide (m < 1000)) = c
  generalize (decide (fr P (tp T k - 1) ≤ m) && decide (m < un P (tp T k - 1)) && (decide (mk T = 0) || decide (m + 1 < mk T + (tp T k - 1))) && decide (m < 1000)) = c'
  generalize decide (tp T k ≠ 0) = p
  generalize decide (k < sl T) = q
  generalize K.testBit k = a at h1 ⊢
  generalize E.testBit k = b at h1 ⊢
  generalize K.testBit (tp T k - 1) = a' at h2 ⊢
  generalize E.testBit (tp T k - 1) = b' at h2 ⊢
  revert h1 h2
  cases a <;> cases b <;> cases a' <;> cases b' <;> cases c <;> cases c' <;> cases p <;> cases q <;> decide
def sub (A B : Nat) : Prop := ∀ k, A.testBit k = true → B.testBit k = true
theorem bhi_sub (T : pT) {A B : Nat} (h : sub A B) (o : Nat) : sub (bhi T A o A) (bhi T B o B) := fun k hk => by
  rw [bhi_tb] at hk ⊢
  rcases hk with hk | ⟨e, h1, h2, h3⟩
  · exact Or.inl (h k hk)
  · refine Or.inr ⟨e, h1, h2, ?_⟩
    rcases h3 with ⟨h3, h4⟩ | ⟨h3, h4⟩
    · exact Or.inl ⟨h3, h _ h4⟩
    · exact Or.inr ⟨h3, h _ h4⟩
theorem and_mono {A B C D : Nat} (h : sub A B) (h2 : sub C D) : sub (A &&& C) (B &&& D) := fun k hk => by
  rw [Nat.testBit_and, Bool.and_eq_true] at hk ⊢
  exact ⟨h k hk.1, h2 k hk.2⟩
theorem nxt_sub (T : pT) {t t' dm : Nat → Nat} (ht : ∀ m, sub (t m) (t' m)) {R R' : Nat} (h : sub R R') (m : Nat) : sub (nxt T t dm R m) (nxt T t' dm R' m) := and_mono (bhi_sub T h _) (ht m)
theorem fs_sub (T : pT) {t t' dm : Nat → Nat} (ht : ∀ m, sub (t m) (t' m)) (b : Nat) : ∀ n m R R', sub R R' → fs T t dm b n m R ≠ 0 → fs T t' dm b n m R' ≠ 0
  | 0, _, _, _, _, h => h
  | n + 1, m, R, R', hR, h => by
    show (if R'.testBit b = true then m + 1 else fs T t' dm b n (m + 1) (nxt T t' dm R' (m + 1))) ≠ 0
    have h : (if R.testBit b = true then m + 1 else fs T t dm b n (m + 1) (nxt T t dm R (m + 1))) ≠ 0 := h
    by_cases q : R'.testBit b = true
    · rw [if_pos q]; omega
    · rw [if_neg q]
      rw [if_neg (fun z => q (hR b z))] at h
      exact fs_sub T ht b n (m + 1) _ _ (nxt_sub T ht hR _) h
theorem tg_sub (T : pT) {t t' dm : Nat → Nat} (ht : ∀ m, sub (t m) (t' m)) : ∀ n m R R' S S', sub R R' → sub S S' → tg T t dm n m R S ≠ 0 → tg T t' dm n m R' S' ≠ 0
  | 0, _, _, _, _, _, _, _, h => h
  | n + 1, m, R, R', S, S', hR, hS, h => by
    show (if R' &&& S' = 0 then tg T t' dm n (m + 1) (nxt T t' dm R' (m + 1)) (nxt T t' dm S' (m + 1)) else m + 1) ≠ 0
    have h : (if R &&& S = 0 then tg T t dm n (m + 1) (nxt T t dm R (m + 1)) (nxt T t dm S (m + 1)) else m + 1) ≠ 0 := h
    by_cases q : R' &&& S' = 0
    · rw [if_pos q]
      have q2 : R &&& S = 0 := eqb (fun k => by
        cases z : (R &&& S).testBit k with
        | false => rw [Nat.zero_testBit]
        | true =>
          have := and_mono hR hS k z
          rw [q, Nat.zero_testBit] at this
          cases this)
      rw [if_pos q2] at h
      exact tg_sub T ht n (m + 1) _ _ _ _ (nxt_sub T ht hR _) (nxt_sub T ht hS _) h
    · rw [if_neg q]; omega
/-- whether it comes to pass with these kept asleep -/
def wk (T : pT) (t dm : Nat → Nat) (a b m : Nat) (both : Bool) : Bool :=
  if both then decide (tg T t dm (301 - m) m (1 <<< a &&& t m) (1 <<< b &&& t m) ≠ 0) else decide (fs T t dm b (301 - m) m (1 <<< a &&& t m) ≠ 0)
theorem wk_sub (T : pT) {t t' dm : Nat → Nat} (ht : ∀ m, sub (t m) (t' m)) (a b m : Nat) (both : Bool) (h : wk T t dm a b m both = true) : wk T t' dm a b m both = true := by
  unfold wk at h ⊢
  have hh : ∀ c : Nat, sub (1 <<< c &&& t m) (1 <<< c &&& t' m) := fun c => and_mono (fun _ z => z) (ht m)
  cases both
  · simp only [Bool.false_eq_true, if_false, decide_eq_true_eq] at h ⊢
    exact fs_sub T ht b _ _ _ _ (hh a) h
  · simp only [if_true, decide_eq_true_eq] at h ⊢
    exact tg_sub T ht _ _ _ _ _ _ (hh a) (hh b) h
theorem rmB_lt (T : pT) (hT : okT T) (s : Nat → Bool) : rmB T s < 256 := pw8 hT (bs_lt _ _)
theorem fs_le (T : pT) (t dm : Nat → Nat) (b : Nat) : ∀ k m R, fs T t dm b k m R ≤ k + m
  | 0, _, _ => Nat.zero_le _
  | k + 1, m, R => by
    show (if R.testBit b = true then m + 1 else fs T t dm b k (m + 1) (nxt T t dm R (m + 1))) ≤ k + 1 + m
    have := fs_le T t dm b k (m + 1) (nxt T t dm R (m + 1))
    split <;> omega
theorem tg_le (T : pT) (t dm : Nat → Nat) : ∀ k m R S, tg T t dm k m R S ≤ k + m
  | 0, _, _, _ => Nat.zero_le _
  | k + 1, m, R, S => by
    show (if R &&& S = 0 then tg T t dm k (m + 1) (nxt T t dm R (m + 1)) (nxt T t dm S (m + 1)) else m + 1) ≤ k + 1 + m
    have := tg_le T t dm k (m + 1) (nxt T t dm R (m + 1)) (nxt T t dm S (m + 1))
    split <;> omega
theorem s_165 {d x : Nat} {V : pV} {G : sm_G} {L : sm_L} {s : Nat} {T : pT} {t dm : Nat → Nat} {E a b m : Nat} {both : Bool} (hs : pS s) (hc : cS G s T) (hT : okT T) (hw : cW G t dm) (hE : E < 2 ^ sl T) (ha : a < 8) (hb : b < 8) (hm : m < 301) :
    sm_cv0 (d + 4) 165 342 (RR V) [.ref 61, .ref s, .ref 54, .int (i3 E), .int (i3 a), .int (i3 b), .int (i3 m), .int (bi both)] (x, G, L) = oI (bi (wk T (fun m => t m ||| rmB T E.testBit) dm a b m both)) x G L := by
  have hE2 := pw8 hT hE
  have hr := rmB_lt T hT E.testBit
  have h118 := s_118 (d := d + 2) (x := x) (L := L) (V := V) hs hc hT hE (by omega)
  have h160 := s_160 (d := d) (x := x) (L := L) (V := V) hs hc hT hw hr ha hb hm
  have h166 := s_166 (d := d) (x := x) (L := L) (V := V) hs hc hT hw hr ha hb hm
  have hf := fs_le T (fun m => t m ||| rmB T E.testBit) dm b (301 - m) m (1 <<< a &&& (t m ||| rmB T E.testBit))
  have hg := tg_le T (fun m => t m ||| rmB T E.testBit) dm (301 - m) m (1 <<< a &&& (t m ||| rmB T E.testBit)) (1 <<< b &&& (t m ||| rmB T E.testBit))
  rw [m_165 hs, h118]
  have c0 : bi false = i3 0 := rfl
  have c1 : bi true = i3 1 := rfl
  unfold wk
  cases both
  · by_cases q : fs T (fun m => t m ||| rmB T E.testBit) dm b (301 - m) m (1 <<< a &&& (t m ||| rmB T E.testBit)) = 0
    · simp (disch := omega) only [i3_add, i3_mul, i3_sub, i3_m1, i3_lt, i3_le, i3_eq, m1_lt, lt_m1, m1_le, le_m1, i3_nm1, m1_ni3, i3_cl, i3_in, i3_or, i3_and, i3_xor, i3_shl, i3_shr, sh_tb, tb_eq0, gd_tt, aI_o, aV_o, aL_o, aR_o, zd_0, zd_1, if_true, if_false, ite_self, eq_self, Bool.true_eq_false, Bool.false_eq_true, bi_0, bi_1, bi_zd, Nat.not_lt_zero, h160, mi_m1, q, ne_eq, not_true, decide_false, c0]
    · simp (disch := omega) only [i3_add, i3_mul, i3_sub, i3_m1, i3_lt, i3_le, i3_eq, m1_lt, lt_m1, m1_le, le_m1, i3_nm1, m1_ni3, i3_cl, i3_in, i3_or, i3_and, i3_xor, i3_shl, i3_shr, sh_tb, tb_eq0, gd_tt, aI_o, aV_o, aL_o, aR_o, zd_0, zd_1, if_true, if_false, ite_self, eq_self, Bool.true_eq_false, Bool.false_eq_true, bi_0, bi_1, bi_zd, Nat.not_lt_zero, h160, mi_m1, q, ne_eq, not_false_iff, decide_true, c1, show ¬ (1 : Nat) = 0 by decide]
  · by_cases q : tg T (fun m => t m ||| rmB T E.testBit) dm (301 - m) m (1 <<< a &&& (t m ||| rmB T E.testBit)) (1 <<< b &&& (t m ||| rmB T E.testBit)) = 0
    · simp (disch := omega) only [i3_add, i3_mul, i3_sub, i3_m1, i3_lt, i3_le, i3_eq, m1_lt, lt_m1, m1_le, le_m1, i3_nm1, m1_ni3, i3_cl, i3_in, i3_or, i3_and, i3_xor, i3_shl, i3_shr, sh_tb, tb_eq0, gd_tt, aI_o, aV_o, aL_o, aR_o, zd_0, zd_1, if_true, if_false, ite_self, eq_self, Bool.true_eq_false, Bool.false_eq_true, bi_0, bi_1, bi_zd, Nat.not_lt_zero, h166, mi_m1, q, ne_eq, not_true, decide_false, c0]
    · simp (disch := omega) only [i3_add, i3_mul, i3_sub, i3_m1, i3_lt, i3_le, i3_eq, m1_lt, lt_m1, m1_le, le_m1, i3_nm1, m1_ni3, i3_cl, i3_in, i3_or, i3_and, i3_xor, i3_shl, i3_shr, sh_tb, tb_eq0, gd_tt, aI_o, aV_o, aL_o, aR_o, zd_0, zd_1, if_true, if_false, ite_self, eq_self, Bool.true_eq_false, Bool.false_eq_true, bi_0, bi_1, bi_zd, Nat.not_lt_zero, h166, mi_m1, q, ne_eq, not_false_iff, decide_true, c1, show ¬ (1 : Nat) = 0 by decide]
