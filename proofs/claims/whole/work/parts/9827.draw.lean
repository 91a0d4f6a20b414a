/-! the draws -/
def rnd (v : Int32) : Int32 := v * i3 1103515245 + i3 12345
def rdv (v : Int32) : Int32 := shr v (i3 16) &&& i3 1023
theorem mask_hi : ∀ i, i < 32 → 10 ≤ i → (BitVec.ofNat 32 1023).getLsbD i = false := by decide +kernel
theorem ush_shr (v : Int32) : ushr v (i3 16) &&& i3 1023 = rdv v := by
  unfold rdv ushr shr
  apply Int32.toBitVec_inj.mp
  rw [Int32.toBitVec_and, Int32.toBitVec_and]
  apply BitVec.eq_of_getLsbD_eq
  intro i hi
  rw [BitVec.getLsbD_and, BitVec.getLsbD_and]
  by_cases q : 10 ≤ i
  · show (_ && (BitVec.ofNat 32 1023).getLsbD i) = (_ && (BitVec.ofNat 32 1023).getLsbD i)
    rw [mask_hi i hi q, Bool.and_false, Bool.and_false]
  · congr 1
    show (v.toBitVec >>> (((i3 16).toUInt32 &&& Int32.toUInt32 31).toBitVec % 32)).getLsbD i = (v.toBitVec.sshiftRight' ((i3 16 &&& 31).toBitVec.smod 32)).getLsbD i
    rw [BitVec.sshiftRight', i3_s31 16 (by decide), show (((i3 16).toUInt32 &&& Int32.toUInt32 31).toBitVec % 32) = 16#32 by decide +kernel, BitVec.ushiftRight_eq', BitVec.getLsbD_ushiftRight, BitVec.getLsbD_sshiftRight]
    rw [show (16#32).toNat = 16 from rfl, if_pos (by omega : 16 + i < 32), decide_eq_false (by omega : ¬ 32 ≤ i), Bool.not_false, Bool.true_and]
/-- one sleeper at one minute: who has woken when, and the number drawn last -/
def dst (T P : pT) (K m k : Nat) (s : (Nat → Nat) × Int32) : (Nat → Nat) × Int32 := if K.testBit k = false ∧ slp T P (fun k => k) s.1 K k m = true then (if rdv (rnd s.2) < i3 (wt T k) then (fun j => if j = k then m else s.1 j, rnd s.2) else (s.1, rnd s.2)) else s
def dmn (T P : pT) (K m : Nat) (s : (Nat → Nat) × Int32) : (Nat → Nat) × Int32 := itr (dst T P K m) 0 (sl T) s
def drw (T P : pT) (K : Nat) (r : Int32) : (Nat → Nat) × Int32 := itr (dmn T P K) 0 301 (fun _ => 1000, r)
/-- before minute m nothing later is drawn -/
def dok (m : Nat) (e : Nat → Nat) : Prop := ∀ k, e k = 1000 ∨ e k < m
/-- the lost, as bits -/
def lstB (T : pT) (e : Nat → Nat) : Nat := bs (fun k => decide (e k ≠ 1000)) (sl T)
