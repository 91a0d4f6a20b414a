/-! THE PURE SIDE: what the two programs do, as plain functions of the stores -/
/-- which objects stand where they may change: the street now, the spare one, the spare will, the book, the spare book, the dreamers' wills -/
abbrev pV : Type := Nat × Nat × Nat × Nat × Nat × (Nat → Nat)
/-- which cells a cell names, nothing where it holds numbers -/
def pR0 (r k : Nat) : Nat := bif Nat.ble (sm_K r) 12 || Nat.ble 24 (sm_K r) then sm_R0 r k else 0
def RR (V : pV) : sm_R := fun r k => bif Nat.beq r 1 then (bif Nat.beq k 10 then V.1 else bif Nat.beq k 11 then V.2.1 else bif Nat.beq k 12 then V.2.2.1 else bif Nat.beq k 13 then V.2.2.2.1 else bif Nat.beq k 14 then V.2.2.2.2.1 else pR0 1 k) else bif Nat.beq r 5 then (bif Nat.blt k 4 then V.2.2.2.2.2 k else 0) else pR0 r k
abbrev i3 (k : Nat) : Int32 := Int32.ofNat k
def m1 : Int32 := -1
def n3 (k : Nat) : Int32 := Int32.ofInt (-(k : Int))
abbrev i6 (k : Nat) : Int64 := Int64.ofNat k
def n6 (k : Nat) : Int64 := Int64.ofInt (-(k : Int))
def shl (a b : Int32) : Int32 := a <<< (b &&& 31)
def shr (a b : Int32) : Int32 := a >>> (b &&& 31)
def ushr (a b : Int32) : Int32 := (a.toUInt32 >>> (b.toUInt32 &&& Int32.toUInt32 31)).toInt32
def lshl (a : Int64) (b : Int32) : Int64 := a <<< (b.toInt64 &&& 63)
def lshr (a : Int64) (b : Int32) : Int64 := a >>> (b.toInt64 &&& 63)
def lushr (a : Int64) (b : Int32) : Int64 := (a.toUInt64 >>> (b.toInt64.toUInt64 &&& Int64.toUInt64 63)).toInt64
def irem (a b : Int32) : Int32 := a - a / b * b
def lrem (a b : Int64) : Int64 := a - a / b * b
def i2b (a : Int32) : Int32 := a.toInt8.toInt32
def gd {β : Type} (b : Bool) (o : Option β) : Option β := bif b then o else none
def zd {β : Type} (a : Int32) (o : Option β) : Option β := if a &&& 1 = a then o else none
/-- an int of a row, or of the script -/
def ldi {β : Type} (r : Nat) (i : Int32) (G : sm_G) (f : Int32 → Option β) : Option β := bif sm_is r 342 20 then (bif sm_in i (sm_N r) then f (G r i.toNatClampNeg) else none) else (bif Nat.beq r 8191 && sm_in i (G 8190 0).toNatClampNeg then f (G 8191 i.toNatClampNeg) else none)
def bst {β : Type} (r : Nat) (i v : Int32) (G : sm_G) (f : sm_G → Option β) : Option β := bif sm_is r 342 21 then (bif sm_in i (sm_N r) then f (sm_up G r i.toNatClampNeg (i2b v)) else none) else bif sm_is r 342 22 then (bif sm_in i (sm_N r) then (if v &&& 1 = v then f (sm_up G r i.toNatClampNeg v) else none) else none) else none
def aln {β : Type} (r : Nat) (G : sm_G) (f : Int32 → Option β) : Option β := bif Nat.ble 20 (sm_K r) && Nat.ble (sm_K r) 27 && Nat.ble r 342 then f (i3 (sm_N r)) else (bif Nat.beq r 8191 then f (G 8190 0) else none)
def oV (x : Nat) (G : sm_G) (L : sm_L) : Option (sm_Res × sm_D) := some (.inl none, x, G, L)
def oI (a : Int32) (x : Nat) (G : sm_G) (L : sm_L) : Option (sm_Res × sm_D) := some (.inl (some (.int a)), x, G, L)
def oL (a : Int64) (x : Nat) (G : sm_G) (L : sm_L) : Option (sm_Res × sm_D) := some (.inl (some (.long a)), x, G, L)
def oR (a : Nat) (x : Nat) (G : sm_G) (L : sm_L) : Option (sm_Res × sm_D) := some (.inl (some (.ref a)), x, G, L)
def oX (e x : Nat) (G : sm_G) (L : sm_L) : Option (sm_Res × sm_D) := some (.inr e, x, G, L)
section PU
variable {β : Type} {x e : Nat} {G : sm_G} {L : sm_L} {fx : Nat → Nat → sm_G → sm_L → Option β}
theorem aV_o {f : Nat → sm_G → sm_L → Option β} : sm_aV (oV x G L) f fx = f x G L := rfl
theorem aI_o {a : Int32} {f : Int32 → Nat → sm_G → sm_L → Option β} : sm_aI (oI a x G L) f fx = f a x G L := rfl
theorem aL_o {a : Int64} {f : Int64 → Nat → sm_G → sm_L → Option β} : sm_aL (oL a x G L) f fx = f a x G L := rfl
theorem aR_o {a : Nat} {f : Nat → Nat → sm_G → sm_L → Option β} : sm_aR (oR a x G L) f fx = f a x G L := rfl
theorem aV_x {f : Nat → sm_G → sm_L → Option β} : sm_aV (oX e x G L) f fx = fx e x G L := rfl
theorem aI_x {f : Int32 → Nat → sm_G → sm_L → Option β} : sm_aI (oX e x G L) f fx = fx e x G L := rfl
theorem aL_x {f : Int64 → Nat → sm_G → sm_L → Option β} : sm_aL (oX e x G L) f fx = fx e x G L := rfl
theorem aR_x {f : Nat → Nat → sm_G → sm_L → Option β} : sm_aR (oX e x G L) f fx = fx e x G L := rfl
theorem gd_t {o : Option β} {b : Bool} (h : b = true) : gd b o = o := by rw [h]; rfl
theorem gd_tt {o : Option β} : gd true o = o := rfl
end PU
/-- a run from a place, its ends as a call has them -/
noncomputable def hD (d j pc : Nat) (ls : List Value) (n : Nat) (R : sm_R) (x : Nat) (G : sm_G) (L : sm_L) : Option (sm_Res × sm_D) := sm_dr (sm_rl (sm_T j) (sm_ct j) (sm_hd j) (sm_cv0 d) (sm_cw d) pc ls n R x G L)
theorem sm_dr_b (o : Option (sm_Res × sm_S)) : sm_dr o = o.bind (fun q => some (q.1, q.2.2.2)) := by
  cases o with
  | none => rfl
  | some q => rfl
theorem hD_eq {d j pc : Nat} {ls : List Value} {n : Nat} {R : sm_R} {x : Nat} {G : sm_G} {L : sm_L} : hD d j pc ls n R x G L = sm_blk (fun r _ _ x G L => some (r, x, G, L)) (fun pc ls n R x G L => hD d j pc ls n R x G L) (sm_T j) (sm_ct j) (sm_hd j) (sm_cv0 d) (sm_cw d) pc ls n R x G L := by
  unfold hD
  rw [sm_rl_eq, sm_dr_b]
  unfold sm_blk
  rw [sm_step_b]
  congr 1
  funext pc ls st n R x G L
  rw [sm_ev_b]
  congr 1
  funext pc ls n R x G L
  rw [sm_dr_b]
theorem cv_eq {d j : Nat} {as : List Value} {n : Nat} {R : sm_R} {x : Nat} {G : sm_G} {L : sm_L} (h5 : Nat.ble j 5 = false) (hl : Nat.ble (sm_lay0 as).length (sm_ml j) = true) : sm_cv0 (d + 1) j n R as (x, G, L) = hD d j 0 (sm_lay (sm_ml j) as) n R x G L := by
  unfold sm_cv0 hD
  rw [sm_cw_succ, h5, hl]
  rfl
