/-! small numbers among the ints, bits, loops -/
theorem i3_add (a b : Nat) : i3 a + i3 b = i3 (a + b) := (Int32.ofNat_add a b).symm
theorem i3_mul (a b : Nat) : i3 a * i3 b = i3 (a * b) := (Int32.ofNat_mul a b).symm
theorem i3_sub {a b : Nat} (h : b ≤ a) : i3 a - i3 b = i3 (a - b) := by
  obtain ⟨c, rfl⟩ : ∃ c, a = c + b := ⟨a - b, by omega⟩
  rw [← i3_add, Int32.add_sub_cancel, Nat.add_sub_cancel]
theorem i3_m1 (n : Nat) : i3 (n + 1) + m1 = i3 n := by
  rw [← i3_add, Int32.add_assoc, show i3 1 + m1 = 0 from rfl, Int32.add_zero]
theorem i3_toInt {a : Nat} (h : a < 2147483648) : (i3 a).toInt = (a : Int) := Int32.toInt_ofNat_of_lt h
theorem i3_lt {a b : Nat} (ha : a < 2147483648) (hb : b < 2147483648) : (i3 a < i3 b) = (a < b) := by
  rw [Int32.lt_iff_toInt_lt, i3_toInt ha, i3_toInt hb]
  exact propext Int.ofNat_lt
theorem i3_le {a b : Nat} (ha : a < 2147483648) (hb : b < 2147483648) : (i3 a ≤ i3 b) = (a ≤ b) := by
  rw [Int32.le_iff_toInt_le, i3_toInt ha, i3_toInt hb]
  exact propext Int.ofNat_le
theorem i3_eq {a b : Nat} (ha : a < 2147483648) (hb : b < 2147483648) : (i3 a = i3 b) = (a = b) := by
  refine propext ⟨fun h => ?_, fun h => by rw [h]⟩
  have h := congrArg Int32.toInt h
  rw [i3_toInt ha, i3_toInt hb] at h
  omega
theorem m1_toInt : m1.toInt = -1 := by decide
theorem m1_lt {a : Nat} (ha : a < 2147483648) : (m1 < i3 a) = True := by
  rw [Int32.lt_iff_toInt_lt, i3_toInt ha, m1_toInt]
  exact eq_true (by omega)
theorem lt_m1 {a : Nat} (ha : a < 2147483648) : (i3 a < m1) = False := by
  rw [Int32.lt_iff_toInt_lt, i3_toInt ha, m1_toInt]
  exact eq_false (by omega)
theorem m1_le {a : Nat} (ha : a < 2147483648) : (m1 ≤ i3 a) = True := by
  rw [Int32.le_iff_toInt_le, i3_toInt ha, m1_toInt]
  exact eq_true (by omega)
theorem le_m1 {a : Nat} (ha : a < 2147483648) : (i3 a ≤ m1) = False := by
  rw [Int32.le_iff_toInt_le, i3_toInt ha, m1_toInt]
  exact eq_false (by omega)
theorem i3_nm1 {a : Nat} (ha : a < 2147483648) : (i3 a = m1) = False := by
  refine eq_false (fun h => ?_)
  have h := congrArg Int32.toInt h
  rw [i3_toInt ha, m1_toInt] at h
  omega
theorem m1_ni3 {a : Nat} (ha : a < 2147483648) : (m1 = i3 a) = False := by
  refine eq_false (fun h => ?_)
  have h := congrArg Int32.toInt h
  rw [i3_toInt ha, m1_toInt] at h
  omega
theorem i3_cl {a : Nat} (h : a < 2147483648) : (i3 a).toNatClampNeg = a := by
  show (i3 a).toInt.toNat = a
  rw [i3_toInt h]
  rfl
theorem i3_in {a n : Nat} (ha : a < 2147483648) (h : a < n) : sm_in (i3 a) n = true := by
  unfold sm_in
  rw [i3_cl ha, Bool.and_eq_true]
  refine ⟨decide_eq_true ?_, sm_blt_t h⟩
  show i3 0 ≤ i3 a
  rw [i3_le (by decide) ha]
  exact Nat.zero_le _
theorem i3_or (a b : Nat) : i3 a ||| i3 b = i3 (a ||| b) := by
  apply Int32.toBitVec_inj.mp
  rw [Int32.toBitVec_or]
  show BitVec.ofNat 32 a ||| BitVec.ofNat 32 b = BitVec.ofNat 32 (a ||| b)
  apply BitVec.eq_of_toNat_eq
  rw [BitVec.toNat_or, BitVec.toNat_ofNat, BitVec.toNat_ofNat, BitVec.toNat_ofNat]
  exact Nat.or_mod_two_pow.symm
theorem i3_and (a b : Nat) : i3 a &&& i3 b = i3 (a &&& b) := by
  apply Int32.toBitVec_inj.mp
  rw [Int32.toBitVec_and]
  show BitVec.ofNat 32 a &&& BitVec.ofNat 32 b = BitVec.ofNat 32 (a &&& b)
  apply BitVec.eq_of_toNat_eq
  rw [BitVec.toNat_and, BitVec.toNat_ofNat, BitVec.toNat_ofNat, BitVec.toNat_ofNat]
  exact Nat.and_mod_two_pow.symm
theorem i3_xor (a b : Nat) : i3 a ^^^ i3 b = i3 (a ^^^ b) := by
  apply Int32.toBitVec_inj.mp
  rw [Int32.toBitVec_xor]
  show BitVec.ofNat 32 a ^^^ BitVec.ofNat 32 b = BitVec.ofNat 32 (a ^^^ b)
  apply BitVec.eq_of_toNat_eq
  rw [BitVec.toNat_xor, BitVec.toNat_ofNat, BitVec.toNat_ofNat, BitVec.toNat_ofNat]
  exact Nat.xor_mod_two_pow.symm
theorem i3_s31 : ∀ k, k < 32 → ((i3 k &&& 31).toBitVec.smod 32).toNat = k := by decide +kernel
theorem i3_shl {a k : Nat} (hk : k < 32) : shl (i3 a) (i3 k) = i3 (a <<< k) := by
  unfold shl
  apply Int32.toBitVec_inj.mp
  rw [Int32.toBitVec_shiftLeft]
  show BitVec.ofNat 32 a <<< ((i3 k &&& 31).toBitVec.smod 32) = BitVec.ofNat 32 (a <<< k)
  apply BitVec.eq_of_toNat_eq
  rw [BitVec.shiftLeft_eq', i3_s31 k hk, BitVec.toNat_shiftLeft, BitVec.toNat_ofNat, BitVec.toNat_ofNat, Nat.shiftLeft_eq, Nat.shiftLeft_eq, Nat.mod_mul_mod]
theorem i3_shr {a k : Nat} (ha : a < 2147483648) (hk : k < 32) : shr (i3 a) (i3 k) = i3 (a >>> k) := by
  unfold shr
  apply Int32.toInt_inj.mp
  have hs : a >>> k ≤ a := by rw [Nat.shiftRight_eq_div_pow]; exact Nat.div_le_self _ _
  rw [i3_toInt (by omega)]
  show ((i3 a).toBitVec.sshiftRight' ((i3 k &&& 31).toBitVec.smod 32)).toInt = _
  rw [BitVec.sshiftRight', i3_s31 k hk, BitVec.toInt_sshiftRight]
  show (i3 a).toInt >>> k = _
  rw [i3_toInt ha]
  rfl
/-- a bit as a number -/
def tb (a k : Nat) : Nat := if a.testBit k then 1 else 0
theorem tb_lt (a k : Nat) : tb a k < 2 := by unfold tb; split <;> decide
theorem tb_t {a k : Nat} (h : a.testBit k = true) : tb a k = 1 := if_pos h
theorem tb_f {a k : Nat} (h : a.testBit k = false) : tb a k = 0 := if_neg (by rw [h]; exact Bool.false_ne_true)
theorem sh_tb (a k : Nat) : a >>> k &&& 1 = tb a k := by
  unfold tb
  rw [Nat.and_one_is_mod]
  have h := Nat.testBit_eq_decide_div_mod_eq (x := a) (i := k)
  rw [Nat.shiftRight_eq_div_pow, h]
  by_cases q : a / 2 ^ k % 2 = 1
  · rw [q]; rfl
  · rw [decide_eq_false q, if_neg Bool.false_ne_true]
    omega
theorem tb_eq0 (a k : Nat) : (i3 (tb a k) = i3 0) = (a.testBit k = false) := by
  rw [i3_eq (Nat.lt_trans (tb_lt a k) (by decide)) (by decide)]
  unfold tb
  cases a.testBit k <;> simp
theorem tb_eq1 (a k : Nat) : (i3 (tb a k) = i3 1) = (a.testBit k = true) := by
  rw [i3_eq (Nat.lt_trans (tb_lt a k) (by decide)) (by decide)]
  unfold tb
  cases a.testBit k <;> simp
theorem and1_0 (a : Nat) : (i3 a &&& i3 1) = i3 (tb a 0) := by
  rw [i3_and, ← sh_tb]
  rfl
/-- step by step -/
def itr {α : Type} (step : Nat → α → α) : Nat → Nat → α → α
  | _, 0, a => a
  | i, n + 1, a => itr step (i + 1) n (step i a)
theorem itr_succ {α : Type} (step : Nat → α → α) : ∀ (n i : Nat) (a : α), itr step i (n + 1) a = step (i + n) (itr step i n a)
  | 0, i, a => rfl
  | n + 1, i, a => by
    show itr step (i + 1) (n + 1) (step i a) = _
    rw [itr_succ step n (i + 1)]
    show step (i + 1 + n) (itr step (i + 1) n (step i a)) = step (i + (n + 1)) (itr step (i + 1) n (step i a))
    rw [show i + 1 + n = i + (n + 1) by omega]
/-- a loop that counts up, with what holds in it -/
theorem loopP {α ρ : Type} {H : Nat → α → ρ} {out : α → ρ} {N : Nat} {step : Nat → α → α} (P : Nat → α → Prop) (h1 : ∀ i a, i < N → P i a → H i a = H (i + 1) (step i a) ∧ P (i + 1) (step i a)) (h2 : ∀ a, P N a → H N a = out a) : ∀ (n i : Nat) (a : α), i + n = N → P i a → H i a = out (itr step i n a) ∧ P N (itr step i n a)
  | 0, i, a, h, hp => by
    have : i = N := by omega
    subst this
    exact ⟨h2 a hp, hp⟩
  | n + 1, i, a, h, hp => by
    obtain ⟨e, hp2⟩ := h1 i a (by omega) hp
    rw [e]
    exact loopP P h1 h2 n (i + 1) _ (by omega) hp2
theorem loop0 {α ρ : Type} {H : Nat → α → ρ} {out : α → ρ} {N : Nat} {step : Nat → α → α} (h1 : ∀ i a, i < N → H i a = H (i + 1) (step i a)) (h2 : ∀ a, H N a = out a) (a : α) : H 0 a = out (itr step 0 N a) :=
  (loopP (fun _ _ => True) (fun i a hi _ => ⟨h1 i a hi, trivial⟩) (fun a _ => h2 a) N 0 a (by omega) trivial).1
/-- a row of bits -/
def bs (f : Nat → Bool) : Nat → Nat
  | 0 => 0
  | n + 1 => bs f n ||| (if f n then 1 <<< n else 0)
theorem one_shl_tb (n k : Nat) : (1 <<< n).testBit k = decide (n = k) := by
  rw [Nat.one_shiftLeft, Nat.testBit_two_pow]
theorem bs_tb (f : Nat → Bool) : ∀ (n k : Nat), (bs f n).testBit k = (decide (k < n) && f k)
  | 0, k => by simp [bs]
  | n + 1, k => by
    show (bs f n ||| (if f n then 1 <<< n else 0)).testBit k = _
    rw [Nat.testBit_or, bs_tb f n k]
    by_cases h : k = n
    · subst h
      cases hf : f k
      · simp
      · simp
    · have h2 : (if f n then 1 <<< n else 0).testBit k = false := by
        cases f n
        · simp
        · simp only [if_true, one_shl_tb]
          exact decide_eq_false (fun e => h e.symm)
      rw [h2, Bool.or_false]
      by_cases h3 : k < n
      · rw [decide_eq_true h3, decide_eq_true (show k < n + 1 by omega)]
      · rw [decide_eq_false h3, decide_eq_false (show ¬ k < n + 1 by omega)]
theorem bs_lt (f : Nat → Bool) (n : Nat) : bs f n < 2 ^ n := by
  apply Nat.lt_pow_two_of_testBit
  intro i hi
  rw [bs_tb, decide_eq_false (by omega)]
  rfl
theorem bs_itr (f : Nat → Bool) (n : Nat) : itr (fun i a => if f i then a ||| 1 <<< i else a) 0 n 0 = bs f n := by
  induction n with
  | zero => rfl
  | succ n ih =>
    rw [itr_succ, ih, Nat.zero_add]
    show (if f n then bs f n ||| 1 <<< n else bs f n) = bs f n ||| (if f n then 1 <<< n else 0)
    cases f n
    · simp
    · simp
theorem eqb {a b : Nat} (h : ∀ k, a.testBit k = b.testBit k) : a = b := Nat.eq_of_testBit_eq h
