/-! small numbers among the longs -/
theorem i6_add (a b : Nat) : i6 a + i6 b = i6 (a + b) := (Int64.ofNat_add a b).symm
theorem i6_mul (a b : Nat) : i6 a * i6 b = i6 (a * b) := (Int64.ofNat_mul a b).symm
theorem i6_sub {a b : Nat} (h : b ≤ a) : i6 a - i6 b = i6 (a - b) := by
  obtain ⟨c, rfl⟩ : ∃ c, a = c + b := ⟨a - b, by omega⟩
  rw [← i6_add, Int64.add_sub_cancel, Nat.add_sub_cancel]
theorem i6_toInt {a : Nat} (h : a < 9223372036854775808) : (i6 a).toInt = (a : Int) := Int64.toInt_ofNat_of_lt h
theorem i6_lt {a b : Nat} (ha : a < 9223372036854775808) (hb : b < 9223372036854775808) : (i6 a < i6 b) = (a < b) := by
  rw [Int64.lt_iff_toInt_lt, i6_toInt ha, i6_toInt hb]
  exact propext Int.ofNat_lt
theorem i6_eq {a b : Nat} (ha : a < 9223372036854775808) (hb : b < 9223372036854775808) : (i6 a = i6 b) = (a = b) := by
  refine propext ⟨fun h => ?_, fun h => by rw [h]⟩
  have h := congrArg Int64.toInt h
  rw [i6_toInt ha, i6_toInt hb] at h
  omega
theorem i6_of {a : Nat} (h : a < 2147483648) : Int32.toInt64 (i3 a) = i6 a := by
  apply Int64.toInt_inj.mp
  rw [Int32.toInt_toInt64, i3_toInt h, i6_toInt (by omega)]
theorem i6_div {a b : Nat} (ha : a < 9223372036854775808) (hb : b < 9223372036854775808) : i6 a / i6 b = i6 (a / b) := by
  have h1 : a / b ≤ a := Nat.div_le_self _ _
  apply Int64.toInt_inj.mp
  rw [Int64.toInt_div, i6_toInt ha, i6_toInt hb, i6_toInt (by omega)]
  rw [show (a : Int).tdiv (b : Int) = ((a / b : Nat) : Int) from rfl]
  generalize a / b = q at h1 ⊢
  rw [Int.bmod_eq_of_le (by omega) (by omega)]
theorem i6_rem {a b : Nat} (ha : a < 9223372036854775808) (hb : b < 9223372036854775808) : lrem (i6 a) (i6 b) = i6 (a % b) := by
  have h1 : a / b * b ≤ a := Nat.div_mul_le_self _ _
  unfold lrem
  rw [i6_div ha hb, i6_mul, i6_sub h1]
  congr 1
  have := Nat.div_add_mod a b
  rw [Nat.mul_comm] at this
  omega
theorem i6_s63 : ∀ k, k < 64 → (((i3 k).toInt64 &&& 63).toBitVec.smod 64).toNat = k := by decide +kernel
theorem i6_shl {a k : Nat} (hk : k < 64) : lshl (i6 a) (i3 k) = i6 (a * 2 ^ k) := by
  unfold lshl
  apply Int64.toBitVec_inj.mp
  rw [Int64.toBitVec_shiftLeft]
  show BitVec.ofNat 64 a <<< (((i3 k).toInt64 &&& 63).toBitVec.smod 64) = BitVec.ofNat 64 (a * 2 ^ k)
  apply BitVec.eq_of_toNat_eq
  rw [BitVec.shiftLeft_eq', i6_s63 k hk, BitVec.toNat_shiftLeft, BitVec.toNat_ofNat, BitVec.toNat_ofNat, Nat.shiftLeft_eq, Nat.mod_mul_mod]
theorem i6_shr {a k : Nat} (ha : a < 9223372036854775808) (hk : k < 64) : lshr (i6 a) (i3 k) = i6 (a / 2 ^ k) := by
  unfold lshr
  apply Int64.toInt_inj.mp
  have hs : a / 2 ^ k ≤ a := Nat.div_le_self _ _
  rw [i6_toInt (by omega)]
  show ((i6 a).toBitVec.sshiftRight' (((i3 k).toInt64 &&& 63).toBitVec.smod 64)).toInt = _
  rw [BitVec.sshiftRight', i6_s63 k hk, BitVec.toInt_sshiftRight]
  show (i6 a).toInt >>> k = _
  rw [i6_toInt ha, ← Nat.shiftRight_eq_div_pow]
  rfl
theorem i6_to3 (a : Nat) : Int64.toInt32 (i6 a) = i3 a := Int64.toInt32_ofNat
/-! the zeros behind -/
def nz (v : Int32) : Int32 :=
  let f62 := fun (v0 v1 : Int32) => if v0 ≤ i3 4 then v1 + ushr v0 (i3 1) else (v1 + i3 2) + ushr (ushr v0 (i3 2)) (i3 1)
  let f49 := fun (v0 v1 : Int32) => if v0 ≤ i3 16 then f62 v0 v1 else f62 (ushr v0 (i3 4)) (v1 + i3 4)
  let f44 := fun (v0 v1 : Int32) => f49 (ushr v0 (i3 8)) v1
  let f29 := fun (v0 v1 : Int32) => if ushr v0 (i3 16) ≤ i3 256 then f49 (ushr v0 (i3 16)) v1 else f44 (ushr v0 (i3 16)) (v1 + i3 8)
  if v ≤ i3 0 then v &&& i3 32 else if v ≤ i3 65536 then (if v ≤ i3 256 then f49 v (i3 1) else f44 v (i3 1 + i3 8)) else f29 v (i3 1 + i3 16)
theorem nz_ok : ∀ k, k < 32 → nz (i3 (2 ^ k - 1)) = i3 k := by decide +kernel
theorem s_9n {d x : Nat} {V : pV} {G : sm_G} {L : sm_L} {v : Int32} : sm_cv0 (d + 1) 9 342 (RR V) [.int v] (x, G, L) = oI (nz ((v ^^^ m1) &&& (v - i3 1))) x G L := by
  have f62 : ∀ v0 v1 : Int32, hD d 9 62 [.int v0, .int v1] 342 (RR V) x G L = oI (if v0 ≤ i3 4 then v1 + ushr v0 (i3 1) else (v1 + i3 2) + ushr (ushr v0 (i3 2)) (i3 1)) x G L := fun v0 v1 => by rw [h_9_62]; split <;> rfl
  rw [m_9]
  unfold nz
  generalize (v ^^^ m1) &&& (v - i3 1) = w
  simp only [h_9_29, h_9_44, h_9_49, f62]
  split
  · rfl
  · split
    · split
      · split <;> rfl
      · split <;> rfl
    · split
      · split <;> rfl
      · split <;> rfl
theorem low_k {c k : Nat} : ((2 * c + 1) * 2 ^ k - 1) ^^^ (((2 * c + 1) * 2 ^ k - 1) &&& ((2 * c + 1) * 2 ^ k)) = 2 ^ k - 1 := by
  have hp : 0 < 2 ^ k := Nat.two_pow_pos k
  have e1 : (2 * c + 1) * 2 ^ k = 2 ^ (k + 1) * c + 2 ^ k := by rw [Nat.add_mul, Nat.one_mul, Nat.pow_succ, Nat.mul_comm 2 c, Nat.mul_assoc, Nat.mul_comm (2 ^ k) 2, Nat.mul_comm (2 * 2 ^ k)]
  have e2 : (2 * c + 1) * 2 ^ k - 1 = 2 ^ (k + 1) * c + (2 ^ k - 1) := by omega
  have hlt : 2 ^ k < 2 ^ (k + 1) := by rw [Nat.pow_succ]; omega
  rw [e2, e1]
  apply Nat.eq_of_testBit_eq
  intro i
  rw [Nat.testBit_xor, Nat.testBit_and, Nat.testBit_two_pow_mul_add c (by omega) i, Nat.testBit_two_pow_mul_add c hlt i, Nat.testBit_two_pow_sub_one]
  by_cases q : i < k + 1
  · rw [if_pos q, if_pos q, Nat.testBit_two_pow]
    by_cases q2 : i < k
    · rw [decide_eq_true q2, decide_eq_false (by omega : ¬ k = i)]
      rfl
    · rw [decide_eq_false q2]
      rfl
  · rw [if_neg q, if_neg q, decide_eq_false (by omega : ¬ i < k)]
    cases c.testBit (i - (k + 1)) <;> rfl
theorem odd_pow : ∀ (n P : Nat), P ≤ n → 0 < P → ∃ c k, P = (2 * c + 1) * 2 ^ k
  | 0, P, h, h0 => by omega
  | n + 1, P, h, h0 => by
    by_cases q : P % 2 = 1
    · exact ⟨P / 2, 0, by omega⟩
    · obtain ⟨c, k, e⟩ := odd_pow n (P / 2) (by omega) (by omega)
      refine ⟨c, k + 1, ?_⟩
      rw [Nat.pow_succ, ← Nat.mul_assoc, ← e]
      omega
theorem s_10 {d x : Nat} {V : pV} {G : sm_G} {L : sm_L} {c k : Nat} (hk : (2 * c + 1) * 2 ^ k ≤ 4294967296) : sm_cv0 (d + 2) 10 342 (RR V) [.long (i6 ((2 * c + 1) * 2 ^ k))] (x, G, L) = oI (i3 k) x G L := by
  have hp : 0 < 2 ^ k := Nat.two_pow_pos k
  have hle : 2 ^ k ≤ (2 * c + 1) * 2 ^ k := Nat.le_mul_of_pos_left _ (by omega)
  have h0 : 0 < (2 * c + 1) * 2 ^ k := by omega
  have k32 : k ≤ 32 := by
    apply Nat.le_of_not_lt
    intro h
    have := Nat.pow_le_pow_right (n := 2) (by decide) (show 33 ≤ k by omega)
    omega
  rw [m_10, i6_to3]
  by_cases q : (2 * c + 1) * 2 ^ k = 4294967296
  · have ek : k = 32 := by
      by_cases z : k = 32
      · exact z
      · have hh : k ≤ 31 := by omega
        obtain ⟨j, hj⟩ : ∃ j, 31 = k + j := ⟨31 - k, by omega⟩
        have e : (4294967296 : Nat) = 2 * 2 ^ j * 2 ^ k := by
          rw [Nat.mul_assoc, ← Nat.pow_add, Nat.add_comm j k, ← hj]
        rw [e] at q
        have := Nat.eq_of_mul_eq_mul_right hp q
        omega
    subst ek
    rw [q, if_pos (by decide +kernel)]
    rw [show Int64.toInt32 (lushr (i6 4294967296) (i3 32)) = i3 1 by decide +kernel, s_9n]
    simp only [aI_o]
    rw [show i3 32 + nz ((i3 1 ^^^ m1) &&& (i3 1 - i3 1)) = i3 32 by decide +kernel]
  · have k31 : k < 32 := by
      apply Nat.lt_of_not_le
      intro h
      have : k = 32 := by omega
      subst this
      omega
    have hn : ¬ i3 ((2 * c + 1) * 2 ^ k) = i3 0 := fun e => by
      have e := congrArg Int32.toNatClampNeg e
      have e2 := congrArg (fun v : Int32 => v.toBitVec.toNat) (show i3 ((2 * c + 1) * 2 ^ k) = i3 0 by assumption)
      simp only [Int32.toBitVec_ofNat', BitVec.toNat_ofNat] at e2
      omega
    rw [if_neg hn, s_9n]
    simp only [aI_o]
    rw [i3_sub h0, Int32.and_comm, i3_andn, low_k, nz_ok k k31]
