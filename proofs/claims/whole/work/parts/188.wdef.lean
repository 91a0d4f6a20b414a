/-! the words of the tables that are used, coded in numbers -/
def sm_cls (o : Nat) : String := sm_cl0.getD o ""
def sm_vc (ci : Nat) : vw_C := vwCl.getD ci ("", fun _ => ("", "", "", false), 0)
def sm_cw0 (j : Nat) : Cond := bif (sm_hh j).isEmpty then Cond.code (sm_y j) (sm_b j) (sm_ml j) (sm_rt j) else Cond.codeWith (sm_y j) (sm_b j) (sm_ml j) (sm_rt j) (sm_hh j)
def sm_Wd (c : Nat × Nat × Nat × Nat × Nat) : Cond := match c with
  | (k, o, a, b, d) => bif Nat.beq k 1 then .fieldLink (sm_cls o) a (sm_vc b).1 ((sm_vc b).2.1 d).2.1 ((sm_vc b).2.1 d).2.2.1
    else bif Nat.beq k 2 then .fieldLinkNest (sm_cls o) a (sm_vc b).1 ((sm_vc b).2.1 d).2.1 ((sm_vc b).2.1 d).2.2.1 "StreetDreams"
    else bif Nat.beq k 3 then .methodLink (sm_cls o) a (sm_y b)
    else bif Nat.beq k 4 then .methodLinkNest (sm_cls o) a (sm_y b) "StreetDreams"
    else bif Nat.beq k 5 then .classLink (sm_cls o) a (sm_cln.getD b "")
    else bif Nat.beq k 6 then sm_cw0 o
    else bif Nat.beq k 7 then .static (sm_y o)
    else bif Nat.beq k 8 then .instanceMethod (sm_y o)
    else bif Nat.beq k 9 then .initialized (sm_cls o)
    else bif Nat.beq k 10 then .constant (sm_cls o) a (Int32.ofInt (Int.sub b 2147483648))
    else bif Nat.beq k 11 then .constantLong (sm_cls o) a (Int64.ofInt (Int.sub b 9223372036854775808))
    else bif Nat.beq k 12 then .stringRef (sm_cls o) a (sm_txts.getD b "")
    else bif Nat.beq k 13 then .selects (sm_y o).cls (sm_y o) (sm_y o)
    else bif Nat.beq k 14 then .methodLink (sm_cls o) a Lib.objectInit
    else bif Nat.beq b 2 then .methodLink (sm_cls o) a arraycopyName
    else bif Nat.beq b 3 then .methodLink (sm_cls o) a Lib.Math.min.name
    else .methodLink (sm_cls o) a Lib.Math.max.name
def sm_wok : List Cond → List (Nat × Nat × Nat × Nat × Nat) → Prop
  | _, [] => True
  | [], _ :: _ => False
  | w :: ws, c :: l => (c = (0, 0, 0, 0, 0) ∨ w = sm_Wd c) ∧ sm_wok ws l
theorem sm_ale {a b : Nat} (h : Nat.ble a b = true) : a ≤ b := Nat.le_of_ble_eq_true h
theorem sm_blt {a b : Nat} (h : Nat.blt a b = true) : a < b := by unfold Nat.blt at h; exact Nat.le_of_ble_eq_true h
theorem sm_ble_f {a b : Nat} (h : ¬ a ≤ b) : Nat.ble a b = false := by
  cases e : Nat.ble a b with
  | false => rfl
  | true => exact absurd (sm_ale e) h
