/-! the JDK's small ones -/
def bi (b : Bool) : Int32 := if b = true then i3 1 else i3 0
theorem bi_0 {b : Bool} : (bi b = i3 0) = (b = false) := by cases b <;> simp [bi] <;> decide
theorem bi_1 {b : Bool} : (bi b = i3 1) = (b = true) := by cases b <;> simp [bi] <;> decide
theorem bi_zd {β : Type} {b : Bool} {o : Option β} : zd (bi b) o = o := by cases b <;> rfl
/-- how many bits -/
def pc (a : Nat) : Nat → Nat
  | 0 => 0
  | n + 1 => pc a n + tb a n
def bcx (v0 : Int32) : Int32 :=
  let a := v0 - ((ushr v0 (i3 1)) &&& (i3 1431655765))
  let b := (a &&& (i3 858993459)) + ((ushr a (i3 2)) &&& (i3 858993459))
  let c := (b + (ushr b (i3 4))) &&& (i3 252645135)
  let e := c + (ushr c (i3 8))
  (e + (ushr e (i3 16))) &&& (i3 63)
theorem bcx_ok : ∀ a, a < 1024 → bcx (i3 a) = i3 (pc a 10) := by decide +kernel
theorem s_7 {d x : Nat} {V : pV} {G : sm_G} {L : sm_L} {a : Nat} (h : a < 1024) : sm_cv0 (d + 1) 7 342 (RR V) [.int (i3 a)] (x, G, L) = oI (i3 (pc a 10)) x G L := by
  rw [m_7, h_7_34, ← bcx_ok a h]
  rfl
/-- the least bit's place -/
def lb (a : Nat) : Nat → Nat
  | 0 => 0
  | n + 1 => if (List.range n).any (fun k => a.testBit k) then lb a n else n
def low1 (a : Nat) : Nat := bif Nat.beq (a % 2) 1 then 0 else bif Nat.beq (a / 2 % 2) 1 then 1 else bif Nat.beq (a / 4 % 2) 1 then 2 else bif Nat.beq (a / 8 % 2) 1 then 3 else bif Nat.beq (a / 16 % 2) 1 then 4 else bif Nat.beq (a / 32 % 2) 1 then 5 else bif Nat.beq (a / 64 % 2) 1 then 6 else 7
theorem low1_ok : ∀ a, a < 256 → 0 < a → (i3 a &&& -(i3 a)) = i3 (1 <<< low1 a) := by decide +kernel
theorem s_8 {d x : Nat} {V : pV} {G : sm_G} {L : sm_L} {a : Nat} (h : a < 256) (h0 : 0 < a) : sm_cv0 (d + 1) 8 342 (RR V) [.int (i3 a)] (x, G, L) = oI (i3 (1 <<< low1 a)) x G L := by
  rw [m_8, low1_ok a h h0]
theorem low1_t : ∀ a, a < 256 → 0 < a → a.testBit (low1 a) = true ∧ ∀ k, k < low1 a → a.testBit k = false := by decide +kernel
/-! the doors and rooms of a street -/
theorem s_132 {d x : Nat} {V : pV} {G : sm_G} {L : sm_L} {f k : Nat} (hf : G 2 1 = i3 f) (h : f < 1000) (hk : k < 1000) : sm_cv0 (d + 1) 132 342 (RR V) [.ref 2, .int (i3 k)] (x, G, L) = oI (if f + k ≤ 600 then i3 1 else i3 0) x G L := by
  rw [m_132, hf]
  simp (disch := omega) only [i3_add, i3_mul, i3_sub, i3_m1, i3_lt, i3_le, i3_eq, m1_lt, lt_m1, m1_le, le_m1, i3_nm1, m1_ni3, i3_cl, i3_in, i3_or, i3_and, i3_xor, i3_shl, i3_shr, sh_tb, tb_eq0, gd_tt, aI_o, aV_o, aL_o, aR_o, zd_0, zd_1, if_true, if_false, ite_self, eq_self, Bool.true_eq_false, Bool.false_eq_true, bi_0, bi_1, bi_zd, Nat.not_lt_zero]
  split <;> rfl
