/-! constructors, by the program wip/gen/gen10.py -/
/-- what making cells does: 0 a new cell, 1 a name written, 2 a row of rows, 3 the number 1 written, 4 the number -1 written -/
abbrev ce : Type := Nat × Nat × Nat × Nat
def apR : List ce → sm_R → sm_R
  | [], R => R
  | (q, r, k, v) :: l, R => bif Nat.beq q 0 then sm_cl (apR l R) r 0 else bif Nat.beq q 1 then sm_up (apR l R) r k v else bif Nat.beq q 2 then sm_mR (apR l R) r k else apR l R
def apG : List ce → sm_G → sm_G
  | [], G => G
  | (q, r, k, _) :: l, G => bif Nat.beq q 0 then sm_cl (apG l G) r 0 else bif Nat.beq q 1 then apG l G else bif Nat.beq q 2 then sm_mG (apG l G) r k else bif Nat.beq q 3 then sm_up (apG l G) r k (i3 1) else sm_up (apG l G) r k m1
def apL : List ce → sm_L → sm_L
  | [], L => L
  | (q, r, k, _) :: l, L => bif Nat.beq q 0 then sm_cl (apL l L) r 0 else bif Nat.beq q 2 then sm_mG (apL l L) r k else apL l L
theorem apR_app {b : List ce} {R : sm_R} : ∀ a : List ce, apR (a ++ b) R = apR a (apR b R)
  | [] => rfl
  | (q, r, k, v) :: l => by
    show (bif Nat.beq q 0 then sm_cl (apR (l ++ b) R) r 0 else bif Nat.beq q 1 then sm_up (apR (l ++ b) R) r k v else bif Nat.beq q 2 then sm_mR (apR (l ++ b) R) r k else apR (l ++ b) R) = _
    rw [apR_app l]
    rfl
theorem apG_app {b : List ce} {G : sm_G} : ∀ a : List ce, apG (a ++ b) G = apG a (apG b G)
  | [] => rfl
  | (q, r, k, v) :: l => by
    show (bif Nat.beq q 0 then sm_cl (apG (l ++ b) G) r 0 else bif Nat.beq q 1 then apG (l ++ b) G else bif Nat.beq q 2 then sm_mG (apG (l ++ b) G) r k else bif Nat.beq q 3 then sm_up (apG (l ++ b) G) r k (i3 1) else sm_up (apG (l ++ b) G) r k m1) = _
    rw [apG_app l]
    rfl
theorem apL_app {b : List ce} {L : sm_L} : ∀ a : List ce, apL (a ++ b) L = apL a (apL b L)
  | [] => rfl
  | (q, r, k, v) :: l => by
    show (bif Nat.beq q 0 then sm_cl (apL (l ++ b) L) r 0 else bif Nat.beq q 2 then sm_mG (apL (l ++ b) L) r k else apL (l ++ b) L) = _
    rw [apL_app l]
    rfl
def cOk (n : Nat) (l : List ce) (R : sm_R) (x : Nat) (G : sm_G) (L : sm_L) : Option (sm_Res × sm_S) := some (.inl none, n, apR l R, x, apG l G, apL l L)
theorem cOk_app {n : Nat} {a b : List ce} {R : sm_R} {x : Nat} {G : sm_G} {L : sm_L} : cOk n a (apR b R) x (apG b G) (apL b L) = cOk n (a ++ b) R x G L := by
  unfold cOk
  rw [apR_app, apG_app, apL_app]
theorem bV_ok {β : Type} {n x : Nat} {l : List ce} {R : sm_R} {G : sm_G} {L : sm_L} {f : Option Value → sm_S → Option β} {g : Nat → sm_S → Option β} : sm_bV (cOk n l R x G L) f g = f none (n, apR l R, x, apG l G, apL l L) := rfl
/-- what a name is, by the list alone -/
def lkR : List ce → Nat → Nat → Option Nat
  | [], _, _ => none
  | (q, r, k, v) :: l, a, j => bif Nat.beq q 0 then (bif Nat.beq a r then none else lkR l a j) else bif Nat.beq q 1 then (bif Nat.beq a r && Nat.beq j k then some v else lkR l a j) else bif Nat.beq q 2 then none else lkR l a j
theorem lkR_e {R : sm_R} : ∀ (l : List ce) (a j w : Nat), lkR l a j = some w → apR l R a j = w
  | [], _, _, _, h => by cases h
  | (q, r, k, v) :: l, a, j, w, h => by
    unfold lkR at h
    unfold apR
    cases q0 : Nat.beq q 0 with
    | true =>
      rw [q0, cond_true] at h
      show sm_cl (apR l R) r 0 a j = w
      unfold sm_cl
      cases q3 : Nat.beq a r with
      | true => rw [q3, cond_true] at h; cases h
      | false => rw [q3, cond_false] at h; exact lkR_e l a j w h
    | false =>
    rw [q0, cond_false] at h
    cases q1 : Nat.beq q 1 with
    | true =>
      rw [q1, cond_true] at h
      show sm_up (apR l R) r k v a j = w
      unfold sm_up
      cases q3 : Nat.beq a r && Nat.beq j k with
      | true => rw [q3, cond_true] at h; cases h; rfl
      | false => rw [q3, cond_false] at h; exact lkR_e l a j w h
    | false =>
    rw [q1, cond_false] at h
    cases q2 : Nat.beq q 2 with
    | true => rw [q2, cond_true] at h; cases h
    | false => rw [q2, cond_false] at h; exact lkR_e l a j w h
theorem upi {R : sm_R} {r k v : Nat} (h : R r k = v) : R = sm_up R r k v := by
  funext a j
  unfold sm_up
  cases q : Nat.beq a r && Nat.beq j k with
  | false => rfl
  | true =>
    rw [Bool.and_eq_true] at q
    rw [Nat.eq_of_beq_eq_true q.1, Nat.eq_of_beq_eq_true q.2, h]
    rfl
def s_522_2_0 : List ce := (1, 2, 0, 3)::(0, 3, 0, 0)::[]
theorem c_522_2 {d x : Nat} {R : sm_R} {G : sm_G} {L : sm_L} : sm_cw (d + 1) 522 [.ref 2] (2, R, x, G, L) = cOk 3 s_522_2_0 R x G L := by
  refine (cw_eq rfl rfl).trans (hW_eq.trans ?_)
  exact (show sm_blk _ _ _ _ _ _ _ _ _ _ _ _ _ _ = cOk 3 s_522_2_0 R x G L from rfl)
def s_526_6_0 : List ce := (1, 6, 3, 10)::(0, 10, 0, 0)::(1, 6, 2, 9)::(0, 9, 0, 0)::(1, 6, 1, 8)::(0, 8, 0, 0)::(1, 6, 0, 7)::(0, 7, 0, 0)::[]
theorem c_526_6 {d x : Nat} {R : sm_R} {G : sm_G} {L : sm_L} : sm_cw (d + 1) 526 [.ref 6] (6, R, x, G, L) = cOk 10 s_526_6_0 R x G L := by
  refine (cw_eq rfl rfl).trans (hW_eq.trans ?_)
  exact (show sm_blk _ _ _ _ _ _ _ _ _ _ _ _ _ _ = cOk 10 s_526_6_0 R x G L from rfl)
def s_526_11_0 : List ce := (1, 11, 3, 15)::(0, 15, 0, 0)::(1, 11, 2, 14)::(0, 14, 0, 0)::(1, 11, 1, 13)::(0, 13, 0, 0)::(1, 11, 0, 12)::(0, 12, 0, 0)::[]
theorem c_526_11 {d x : Nat} {R : sm_R} {G : sm_G} {L : sm_L} : sm_cw (d + 1) 526 [.ref 11] (11, R, x, G, L) = cOk 15 s_526_11_0 R x G L := by
  refine (cw_eq rfl rfl).trans (hW_eq.trans ?_)
  exact (show sm_blk _ _ _ _ _ _ _ _ _ _ _ _ _ _ = cOk 15 s_526_11_0 R x G L from rfl)
def s_526_16_0 : List ce := (1, 16, 3, 20)::(0, 20, 0, 0)::(1, 16, 2, 19)::(0, 19, 0, 0)::(1, 16, 1, 18)::(0, 18, 0, 0)::(1, 16, 0, 17)::(0, 17, 0, 0)::[]
theorem c_526_16 {d x : Nat} {R : sm_R} {G : sm_G} {L : sm_L} : sm_cw (d + 1) 526 [.ref 16] (16, R, x, G, L) = cOk 20 s_526_16_0 R x G L := by
  refine (cw_eq rfl rfl).trans (hW_eq.trans ?_)
  exact (show sm_blk _ _ _ _ _ _ _ _ _ _ _ _ _ _ = cOk 20 s_526_16_0 R x G L from rfl)
def s_526_21_0 : List ce := (1, 21, 3, 25)::(0, 25, 0, 0)::(1, 21, 2, 24)::(0, 24, 0, 0)::(1, 21, 1, 23)::(0, 23, 0, 0)::(1, 21, 0, 22)::(0, 22, 0, 0)::[]
theorem c_526_21 {d x : Nat} {R : sm_R} {G : sm_G} {L : sm_L} : sm_cw (d + 1) 526 [.ref 21] (21, R, x, G, L) = cOk 25 s_526_21_0 R x G L := by
  refine (cw_eq rfl rfl).trans (hW_eq.trans ?_)
  exact (show sm_blk _ _ _ _ _ _ _ _ _ _ _ _ _ _ = cOk 25 s_526_21_0 R x G L from rfl)
def s_519_27_0 : List ce := (1, 27, 7, 35)::(0, 35, 0, 0)::(1, 27, 6, 34)::(0, 34, 0, 0)::(1, 27, 5, 33)::(0, 33, 0, 0)::(1, 27, 4, 32)::(0, 32, 0, 0)::(1, 27, 3, 31)::(0, 31, 0, 0)::(1, 27, 2, 30)::(0, 30, 0, 0)::(1, 27, 1, 29)::(0, 29, 0, 0)::(1, 27, 0, 28)::(0, 28, 0, 0)::[]
theorem c_519_27 {d x : Nat} {R : sm_R} {G : sm_G} {L : sm_L} : sm_cw (d + 1) 519 [.ref 27] (27, R, x, G, L) = cOk 35 s_519_27_0 R x G L := by
  refine (cw_eq rfl rfl).trans (hW_eq.trans ?_)
  exact (show sm_blk _ _ _ _ _ _ _ _ _ _ _ _ _ _ = cOk 35 s_519_27_0 R x G L from rfl)
def s_519_36_0 : List ce := (1, 36, 7, 44)::(0, 44, 0, 0)::(1, 36, 6, 43)::(0, 43, 0, 0)::(1, 36, 5, 42)::(0, 42, 0, 0)::(1, 36, 4, 41)::(0, 41, 0, 0)::(1, 36, 3, 40)::(0, 40, 0, 0)::(1, 36, 2, 39)::(0, 39, 0, 0)::(1, 36, 1, 38)::(0, 38, 0, 0)::(1, 36, 0, 37)::(0, 37, 0, 0)::[]
theorem c_519_36 {d x : Nat} {R : sm_R} {G : sm_G} {L : sm_L} : sm_cw (d + 1) 519 [.ref 36] (36, R, x, G, L) = cOk 44 s_519_36_0 R x G L := by
  refine (cw_eq rfl rfl).trans (hW_eq.trans ?_)
  exact (show sm_blk _ _ _ _ _ _ _ _ _ _ _ _ _ _ = cOk 44 s_519_36_0 R x G L from rfl)
def s_519_45_0 : List ce := (1, 45, 7, 53)::(0, 53, 0, 0)::(1, 45, 6, 52)::(0, 52, 0, 0)::(1, 45, 5, 51)::(0, 51, 0, 0)::(1, 45, 4, 50)::(0, 50, 0, 0)::(1, 45, 3, 49)::(0, 49, 0, 0)::(1, 45, 2, 48)::(0, 48, 0, 0)::(1, 45, 1, 47)::(0, 47, 0, 0)::(1, 45, 0, 46)::(0, 46, 0, 0)::[]
theorem c_519_45 {d x : Nat} {R : sm_R} {G : sm_G} {L : sm_L} : sm_cw (d + 1) 519 [.ref 45] (45, R, x, G, L) = cOk 53 s_519_45_0 R x G L := by
  refine (cw_eq rfl rfl).trans (hW_eq.trans ?_)
  exact (show sm_blk _ _ _ _ _ _ _ _ _ _ _ _ _ _ = cOk 53 s_519_45_0 R x G L from rfl)
def s_517_54_0 : List ce := (1, 54, 5, 60)::(0, 60, 0, 0)::(1, 54, 4, 59)::(0, 59, 0, 0)::(1, 54, 3, 58)::(0, 58, 0, 0)::(1, 54, 2, 57)::(0, 57, 0, 0)::(1, 54, 1, 56)::(0, 56, 0, 0)::(1, 54, 0, 55)::(0, 55, 0, 0)::[]
theorem c_517_54 {d x : Nat} {R : sm_R} {G : sm_G} {L : sm_L} : sm_cw (d + 1) 517 [.ref 54] (54, R, x, G, L) = cOk 60 s_517_54_0 R x G L := by
  refine (cw_eq rfl rfl).trans (hW_eq.trans ?_)
  exact (show sm_blk _ _ _ _ _ _ _ _ _ _ _ _ _ _ = cOk 60 s_517_54_0 R x G L from rfl)
def s_525_61_0 : List ce := (1, 61, 0, 62)::(0, 62, 0, 0)::[]
theorem c_525_61 {d x : Nat} {R : sm_R} {G : sm_G} {L : sm_L} : sm_cw (d + 1) 525 [.ref 61] (61, R, x, G, L) = cOk 62 s_525_61_0 R x G L := by
  refine (cw_eq rfl rfl).trans (hW_eq.trans ?_)
  exact (show sm_blk _ _ _ _ _ _ _ _ _ _ _ _ _ _ = cOk 62 s_525_61_0 R x G L from rfl)
def s_523_68_0 : List ce := (1, 68, 0, 69)::(0, 69, 0, 0)::[]
theorem c_523_68 {d x : Nat} {R : sm_R} {G : sm_G} {L : sm_L} : sm_cw (d + 1) 523 [.ref 68] (68, R, x, G, L) = cOk 69 s_523_68_0 R x G L := by
  refine (cw_eq rfl rfl).trans (hW_eq.trans ?_)
  exact (show sm_blk _ _ _ _ _ _ _ _ _ _ _ _ _ _ = cOk 69 s_523_68_0 R x G L from rfl)
def s_523_70_0 : List ce := (1, 70, 0, 71)::(0, 71, 0, 0)::[]
theorem c_523_70 {d x : Nat} {R : sm_R} {G : sm_G} {L : sm_L} : sm_cw (d + 1) 523 [.ref 70] (70, R, x, G, L) = cOk 71 s_523_70_0 R x G L := by
  refine (cw_eq rfl rfl).trans (hW_eq.trans ?_)
  exact (show sm_blk _ _ _ _ _ _ _ _ _ _ _ _ _ _ = cOk 71 s_523_70_0 R x G L from rfl)
def s_523_72_0 : List ce := (1, 72, 0, 73)::(0, 73, 0, 0)::[]
theorem c_523_72 {d x : Nat} {R : sm_R} {G : sm_G} {L : sm_L} : sm_cw (d + 1) 523 [.ref 72] (72, R, x, G, L) = cOk 73 s_523_72_0 R x G L := by
  refine (cw_eq rfl rfl).trans (hW_eq.trans ?_)
  exact (show sm_blk _ _ _ _ _ _ _ _ _ _ _ _ _ _ = cOk 73 s_523_72_0 R x G L from rfl)
def s_523_74_0 : List ce := (1, 74, 0, 75)::(0, 75, 0, 0)::[]
theorem c_523_74 {d x : Nat} {R : sm_R} {G : sm_G} {L : sm_L} : sm_cw (d + 1) 523 [.ref 74] (74, R, x, G, L) = cOk 75 s_523_74_0 R x G L := by
  refine (cw_eq rfl rfl).trans (hW_eq.trans ?_)
  exact (show sm_blk _ _ _ _ _ _ _ _ _ _ _ _ _ _ = cOk 75 s_523_74_0 R x G L from rfl)
def s_523_76_0 : List ce := (1, 76, 0, 77)::(0, 77, 0, 0)::[]
theorem c_523_76 {d x : Nat} {R : sm_R} {G : sm_G} {L : sm_L} : sm_cw (d + 1) 523 [.ref 76] (76, R, x, G, L) = cOk 77 s_523_76_0 R x G L := by
  refine (cw_eq rfl rfl).trans (hW_eq.trans ?_)
  exact (show sm_blk _ _ _ _ _ _ _ _ _ _ _ _ _ _ = cOk 77 s_523_76_0 R x G L from rfl)
def s_523_78_0 : List ce := (1, 78, 0, 79)::(0, 79, 0, 0)::[]
theorem c_523_78 {d x : Nat} {R : sm_R} {G : sm_G} {L : sm_L} : sm_cw (d + 1) 523 [.ref 78] (78, R, x, G, L) = cOk 79 s_523_78_0 R x G L := by
  refine (cw_eq rfl rfl).trans (hW_eq.trans ?_)
  exact (show sm_blk _ _ _ _ _ _ _ _ _ _ _ _ _ _ = cOk 79 s_523_78_0 R x G L from rfl)
def s_523_80_0 : List ce := (1, 80, 0, 81)::(0, 81, 0, 0)::[]
theorem c_523_80 {d x : Nat} {R : sm_R} {G : sm_G} {L : sm_L} : sm_cw (d + 1) 523 [.ref 80] (80, R, x, G, L) = cOk 81 s_523_80_0 R x G L := by
  refine (cw_eq rfl rfl).trans (hW_eq.trans ?_)
  exact (show sm_blk _ _ _ _ _ _ _ _ _ _ _ _ _ _ = cOk 81 s_523_80_0 R x G L from rfl)
def s_523_82_0 : List ce := (1, 82, 0, 83)::(0, 83, 0, 0)::[]
theorem c_523_82 {d x : Nat} {R : sm_R} {G : sm_G} {L : sm_L} : sm_cw (d + 1) 523 [.ref 82] (82, R, x, G, L) = cOk 83 s_523_82_0 R x G L := by
  refine (cw_eq rfl rfl).trans (hW_eq.trans ?_)
  exact (show sm_blk _ _ _ _ _ _ _ _ _ _ _ _ _ _ = cOk 83 s_523_82_0 R x G L from rfl)
def s_518_63_0 : List ce := (1, 63, 3, 67)::(0, 67, 0, 0)::(1, 63, 2, 66)::(0, 66, 0, 0)::(1, 63, 1, 65)::(0, 65, 0, 0)::(1, 63, 0, 64)::(0, 64, 0, 0)::[]
def s_518_63_1 : List ce := (0, 68, 0, 0)::s_518_63_0
def s_518_63_2 : List ce := (0, 70, 0, 0)::(1, 64, 0, 68)::(s_523_68_0 ++ s_518_63_1)
def s_518_63_3 : List ce := (1, 65, 0, 70)::(s_523_70_0 ++ s_518_63_2)
def s_518_63_4 : List ce := (0, 72, 0, 0)::s_518_63_3
def s_518_63_5 : List ce := (0, 74, 0, 0)::(1, 64, 1, 72)::(s_523_72_0 ++ s_518_63_4)
def s_518_63_6 : List ce := (1, 65, 1, 74)::(s_523_74_0 ++ s_518_63_5)
def s_518_63_7 : List ce := (0, 76, 0, 0)::s_518_63_6
def s_518_63_8 : List ce := (0, 78, 0, 0)::(1, 64, 2, 76)::(s_523_76_0 ++ s_518_63_7)
def s_518_63_9 : List ce := (1, 65, 2, 78)::(s_523_78_0 ++ s_518_63_8)
def s_518_63_10 : List ce := (0, 80, 0, 0)::s_518_63_9
def s_518_63_11 : List ce := (0, 82, 0, 0)::(1, 64, 3, 80)::(s_523_80_0 ++ s_518_63_10)
def s_518_63_12 : List ce := (1, 65, 3, 82)::(s_523_82_0 ++ s_518_63_11)
def s_518_63_13 : List ce := s_518_63_12
theorem c_518_63 {d x : Nat} {R : sm_R} {G : sm_G} {L : sm_L} : sm_cw (d + 2) 518 [.ref 63] (63, R, x, G, L) = cOk 83 s_518_63_13 R x G L := by
  refine (cw_eq rfl rfl).trans (hW_eq.trans ?_)
  refine (show sm_blk _ _ _ _ _ _ _ _ _ _ _ _ _ _ = hW (d + 1) 518 40 [.ref 63, .int (i3 0)] 67 (apR s_518_63_0 R) x (apG s_518_63_0 G) (apL s_518_63_0 L) from rfl).trans ?_
  refine hW_eq.trans ?_
  generalize hR : apR s_518_63_0 R = R1
  generalize hG : apG s_518_63_0 G = G1
  generalize hL : apL s_518_63_0 L = L1
  have u : R1 = sm_up R1 63 0 64 := upi (by rw [← hR]; exact lkR_e _ _ _ _ (by decide +kernel))
  rw [u]
  refine (show sm_blk _ _ _ _ _ _ _ _ _ 67 (sm_up R1 63 0 64) _ G1 L1 = sm_bV (sm_cw (d + 1) 523 [.ref 68] (68, (sm_cl (sm_up R1 63 0 64) 68 0), x, (sm_cl (G1) 68 0), (sm_cl (L1) 68 0))) (fun o S => sm_ev _ _ _ _ _ _ _ _ _ _ (o.toList ++ [.ref 68, .int (i3 0), .ref 64]) S.fst S.snd.fst S.snd.snd.fst S.snd.snd.snd.fst S.snd.snd.snd.snd) _ from rfl).trans ?_
  rw [← u]
  clear u
  subst hR hG hL
  rw [show ∀ (l : List ce) (Y : sm_R), (sm_cl (apR l Y) 68 0) = apR ((0, 68, 0, 0)::l) Y from fun _ _ => rfl]
  rw [show ∀ (l : List ce) (Y : sm_G), (sm_cl (apG l Y) 68 0) = apG ((0, 68, 0, 0)::l) Y from fun _ _ => rfl]
  rw [show ∀ (l : List ce) (Y : sm_L), (sm_cl (apL l Y) 68 0) = apL ((0, 68, 0, 0)::l) Y from fun _ _ => rfl]
  rw [show ((0, 68, 0, 0)::s_518_63_0 : List ce) = s_518_63_1 from rfl]
  rw [c_523_68, cOk_app, bV_ok]
  show sm_ev _ _ _ _ _ _ _ _ _ _ [.ref 68, .int (i3 0), .ref 64] 69 (apR (s_523_68_0 ++ s_518_63_1) R) x (apG (s_523_68_0 ++ s_518_63_1) G) (apL (s_523_68_0 ++ s_518_63_1) L) = _
  generalize hR : apR (s_523_68_0 ++ s_518_63_1) R = R1
  generalize hG : apG (s_523_68_0 ++ s_518_63_1) G = G1
  generalize hL : apL (s_523_68_0 ++ s_518_63_1) L = L1
  have u : R1 = sm_up R1 63 1 65 := upi (by rw [← hR]; exact lkR_e _ _ _ _ (by decide +kernel))
  rw [u]
  refine (show sm_ev _ _ _ _ _ _ _ _ _ _ [.ref 68, .int (i3 0), .ref 64] 69 (sm_up R1 63 1 65) x G1 L1 = sm_bV (sm_cw (d + 1) 523 [.ref 70] (70, (sm_cl (sm_up (sm_up R1 63 1 65) 64 0 68) 70 0), x, (sm_cl (G1) 70 0), (sm_cl (L1) 70 0))) (fun o S => sm_ev _ _ _ _ _ _ _ _ _ _ (o.toList ++ [.ref 70, .int (i3 0), .ref 65]) S.fst S.snd.fst S.snd.snd.fst S.snd.snd.snd.fst S.snd.snd.snd.snd) _ from rfl).trans ?_
  rw [← u]
  clear u
  subst hR hG hL
  rw [show ∀ (l : List ce) (Y : sm_R), (sm_cl (sm_up (apR l Y) 64 0 68) 70 0) = apR ((0, 70, 0, 0)::(1, 64, 0, 68)::l) Y from fun _ _ => rfl]
  rw [show ∀ (l : List ce) (Y : sm_G), (sm_cl (apG l Y) 70 0) = apG ((0, 70, 0, 0)::(1, 64, 0, 68)::l) Y from fun _ _ => rfl]
  rw [show ∀ (l : List ce) (Y : sm_L), (sm_cl (apL l Y) 70 0) = apL ((0, 70, 0, 0)::(1, 64, 0, 68)::l) Y from fun _ _ => rfl]
  rw [show ((0, 70, 0, 0)::(1, 64, 0, 68)::(s_523_68_0 ++ s_518_63_1) : List ce) = s_518_63_2 from rfl]
  rw [c_523_70, cOk_app, bV_ok]
  show sm_ev _ _ _ _ _ _ _ _ _ _ [.ref 70, .int (i3 0), .ref 65] 71 (apR (s_523_70_0 ++ s_518_63_2) R) x (apG (s_523_70_0 ++ s_518_63_2) G) (apL (s_523_70_0 ++ s_518_63_2) L) = _
  generalize hR : apR (s_523_70_0 ++ s_518_63_2) R = R1
  generalize hG : apG (s_523_70_0 ++ s_518_63_2) G = G1
  generalize hL : apL (s_523_70_0 ++ s_518_63_2) L = L1
  refine (show sm_ev _ _ _ _ _ _ _ _ _ _ [.ref 70, .int (i3 0), .ref 65] 71 (R1) x G1 L1 = hW (d + 1) 518 40 [.ref 63, .int (i3 1)] 71 (sm_up (R1) 65 0 70) x (G1) (L1) from rfl).trans ?_
  subst hR hG hL
  rw [show ∀ (l : List ce) (Y : sm_R), (sm_up (apR l Y) 65 0 70) = apR ((1, 65, 0, 70)::l) Y from fun _ _ => rfl]
  rw [show ∀ (l : List ce) (Y : sm_G), (apG l Y) = apG ((1, 65, 0, 70)::l) Y from fun _ _ => rfl]
  rw [show ∀ (l : List ce) (Y : sm_L), (apL l Y) = apL ((1, 65, 0, 70)::l) Y from fun _ _ => rfl]
  rw [show ((1, 65, 0, 70)::(s_523_70_0 ++ s_518_63_2) : List ce) = s_518_63_3 from rfl]
  refine hW_eq.trans ?_
  generalize hR : apR s_518_63_3 R = R1
  generalize hG : apG s_518_63_3 G = G1
  generalize hL : apL s_518_63_3 L = L1
  have u : R1 = sm_up R1 63 0 64 := upi (by rw [← hR]; exact lkR_e _ _ _ _ (by decide +kernel))
  rw [u]
  refine (show sm_blk _ _ _ _ _ _ _ _ _ 71 (sm_up R1 63 0 64) _ G1 L1 = sm_bV (sm_cw (d + 1) 523 [.ref 72] (72, (sm_cl (sm_up R1 63 0 64) 72 0), x, (sm_cl (G1) 72 0), (sm_cl (L1) 72 0))) (fun o S => sm_ev _ _ _ _ _ _ _ _ _ _ (o.toList ++ [.ref 72, .int (i3 1), .ref 64]) S.fst S.snd.fst S.snd.snd.fst S.snd.snd.snd.fst S.snd.snd.snd.snd) _ from rfl).trans ?_
  rw [← u]
  clear u
  subst hR hG hL
  rw [show ∀ (l : List ce) (Y : sm_R), (sm_cl (apR l Y) 72 0) = apR ((0, 72, 0, 0)::l) Y from fun _ _ => rfl]
  rw [show ∀ (l : List ce) (Y : sm_G), (sm_cl (apG l Y) 72 0) = apG ((0, 72, 0, 0)::l) Y from fun _ _ => rfl]
  rw [show ∀ (l : List ce) (Y : sm_L), (sm_cl (apL l Y) 72 0) = apL ((0, 72, 0, 0)::l) Y from fun _ _ => rfl]
  rw [show ((0, 72, 0, 0)::s_518_63_3 : List ce) = s_518_63_4 from rfl]
  rw [c_523_72, cOk_app, bV_ok]
  show sm_ev _ _ _ _ _ _ _ _ _ _ [.ref 72, .int (i3 1), .ref 64] 73 (apR (s_523_72_0 ++ s_518_63_4) R) x (apG (s_523_72_0 ++ s_518_63_4) G) (apL (s_523_72_0 ++ s_518_63_4) L) = _
  generalize hR : apR (s_523_72_0 ++ s_518_63_4) R = R1
  generalize hG : apG (s_523_72_0 ++ s_518_63_4) G = G1
  generalize hL : apL (s_523_72_0 ++ s_518_63_4) L = L1
  have u : R1 = sm_up R1 63 1 65 := upi (by rw [← hR]; exact lkR_e _ _ _ _ (by decide +kernel))
  rw [u]
  refine (show sm_ev _ _ _ _ _ _ _ _ _ _ [.ref 72, .int (i3 1), .ref 64] 73 (sm_up R1 63 1 65) x G1 L1 = sm_bV (sm_cw (d + 1) 523 [.ref 74] (74, (sm_cl (sm_up (sm_up R1 63 1 65) 64 1 72) 74 0), x, (sm_cl (G1) 74 0), (sm_cl (L1) 74 0))) (fun o S => sm_ev _ _ _ _ _ _ _ _ _ _ (o.toList ++ [.ref 74, .int (i3 1), .ref 65]) S.fst S.snd.fst S.snd.snd.fst S.snd.snd.snd.fst S.snd.snd.snd.snd) _ from rfl).trans ?_
  rw [← u]
  clear u
  subst hR hG hL
  rw [show ∀ (l : List ce) (Y : sm_R), (sm_cl (sm_up (apR l Y) 64 1 72) 74 0) = apR ((0, 74, 0, 0)::(1, 64, 1, 72)::l) Y from fun _ _ => rfl]
  rw [show ∀ (l : List ce) (Y : sm_G), (sm_cl (apG l Y) 74 0) = apG ((0, 74, 0, 0)::(1, 64, 1, 72)::l) Y from fun _ _ => rfl]
  rw [show ∀ (l : List ce) (Y : sm_L), (sm_cl (apL l Y) 74 0) = apL ((0, 74, 0, 0)::(1, 64, 1, 72)::l) Y from fun _ _ => rfl]
  rw [show ((0, 74, 0, 0)::(1, 64, 1, 72)::(s_523_72_0 ++ s_518_63_4) : List ce) = s_518_63_5 from rfl]
  rw [c_523_74, cOk_app, bV_ok]
  show sm_ev _ _ _ _ _ _ _ _ _ _ [.ref 74, .int (i3 1), .ref 65] 75 (apR (s_523_74_0 ++ s_518_63_5) R) x (apG (s_523_74_0 ++ s_518_63_5) G) (apL (s_523_74_0 ++ s_518_63_5) L) = _
  generalize hR : apR (s_523_74_0 ++ s_518_63_5) R = R1
  generalize hG : apG (s_523_74_0 ++ s_518_63_5) G = G1
  generalize hL : apL (s_523_74_0 ++ s_518_63_5) L = L1
  refine (show sm_ev _ _ _ _ _ _ _ _ _ _ [.ref 74, .int (i3 1), .ref 65] 75 (R1) x G1 L1 = hW (d + 1) 518 40 [.ref 63, .int (i3 2)] 75 (sm_up (R1) 65 1 74) x (G1) (L1) from rfl).trans ?_
  subst hR hG hL
  rw [show ∀ (l : List ce) (Y : sm_R), (sm_up (apR l Y) 65 1 74) = apR ((1, 65, 1, 74)::l) Y from fun _ _ => rfl]
  rw [show ∀ (l : List ce) (Y : sm_G), (apG l Y) = apG ((1, 65, 1, 74)::l) Y from fun _ _ => rfl]
  rw [show ∀ (l : List ce) (Y : sm_L), (apL l Y) = apL ((1, 65, 1, 74)::l) Y from fun _ _ => rfl]
  rw [show ((1, 65, 1, 74)::(s_523_74_0 ++ s_518_63_5) : List ce) = s_518_63_6 from rfl]
  refine hW_eq.trans ?_
  generalize hR : apR s_518_63_6 R = R1
  generalize hG : apG s_518_63_6 G = G1
  generalize hL : apL s_518_63_6 L = L1
  have u : R1 = sm_up R1 63 0 64 := upi (by rw [← hR]; exact lkR_e _ _ _ _ (by decide +kernel))
  rw [u]
  refine (show sm_blk _ _ _ _ _ _ _ _ _ 75 (sm_up R1 63 0 64) _ G1 L1 = sm_bV (sm_cw (d + 1) 523 [.ref 76] (76, (sm_cl (sm_up R1 63 0 64) 76 0), x, (sm_cl (G1) 76 0), (sm_cl (L1) 76 0))) (fun o S => sm_ev _ _ _ _ _ _ _ _ _ _ (o.toList ++ [.ref 76, .int (i3 2), .ref 64]) S.fst S.snd.fst S.snd.snd.fst S.snd.snd.snd.fst S.snd.snd.snd.snd) _ from rfl).trans ?_
  rw [← u]
  clear u
  subst hR hG hL
  rw [show ∀ (l : List ce) (Y : sm_R), (sm_cl (apR l Y) 76 0) = apR ((0, 76, 0, 0)::l) Y from fun _ _ => rfl]
  rw [show ∀ (l : List ce) (Y : sm_G), (sm_cl (apG l Y) 76 0) = apG ((0, 76, 0, 0)::l) Y from fun _ _ => rfl]
  rw [show ∀ (l : List ce) (Y : sm_L), (sm_cl (apL l Y) 76 0) = apL ((0, 76, 0, 0)::l) Y from fun _ _ => rfl]
  rw [show ((0, 76, 0, 0)::s_518_63_6 : List ce) = s_518_63_7 from rfl]
  rw [c_523_76, cOk_app, bV_ok]
  show sm_ev _ _ _ _ _ _ _ _ _ _ [.ref 76, .int (i3 2), .ref 64] 77 (apR (s_523_76_0 ++ s_518_63_7) R) x (apG (s_523_76_0 ++ s_518_63_7) G) (apL (s_523_76_0 ++ s_518_63_7) L) = _
  generalize hR : apR (s_523_76_0 ++ s_518_63_7) R = R1
  generalize hG : apG (s_523_76_0 ++ s_518_63_7) G = G1
  generalize hL : apL (s_523_76_0 ++ s_518_63_7) L = L1
  have u : R1 = sm_up R1 63 1 65 := upi (by rw [← hR]; exact lkR_e _ _ _ _ (by decide +kernel))
  rw [u]
  refine (show sm_ev _ _ _ _ _ _ _ _ _ _ [.ref 76, .int (i3 2), .ref 64] 77 (sm_up R1 63 1 65) x G1 L1 = sm_bV (sm_cw (d + 1) 523 [.ref 78] (78, (sm_cl (sm_up (sm_up R1 63 1 65) 64 2 76) 78 0), x, (sm_cl (G1) 78 0), (sm_cl (L1) 78 0))) (fun o S => sm_ev _ _ _ _ _ _ _ _ _ _ (o.toList ++ [.ref 78, .int (i3 2), .ref 65]) S.fst S.snd.fst S.snd.snd.fst S.snd.snd.snd.fst S.snd.snd.snd.snd) _ from rfl).trans ?_
  rw [← u]
  clear u
  subst hR hG hL
  rw [show ∀ (l : List ce) (Y : sm_R), (sm_cl (sm_up (apR l Y) 64 2 76) 78 0) = apR ((0, 78, 0, 0)::(1, 64, 2, 76)::l) Y from fun _ _ => rfl]
  rw [show ∀ (l : List ce) (Y : sm_G), (sm_cl (apG l Y) 78 0) = apG ((0, 78, 0, 0)::(1, 64, 2, 76)::l) Y from fun _ _ => rfl]
  rw [show ∀ (l : List ce) (Y : sm_L), (sm_cl (apL l Y) 78 0) = apL ((0, 78, 0, 0)::(1, 64, 2, 76)::l) Y from fun _ _ => rfl]
  rw [show ((0, 78, 0, 0)::(1, 64, 2, 76)::(s_523_76_0 ++ s_518_63_7) : List ce) = s_518_63_8 from rfl]
  rw [c_523_78, cOk_app, bV_ok]
  show sm_ev _ _ _ _ _ _ _ _ _ _ [.ref 78, .int (i3 2), .ref 65] 79 (apR (s_523_78_0 ++ s_518_63_8) R) x (apG (s_523_78_0 ++ s_518_63_8) G) (apL (s_523_78_0 ++ s_518_63_8) L) = _
  generalize hR : apR (s_523_78_0 ++ s_518_63_8) R = R1
  generalize hG : apG (s_523_78_0 ++ s_518_63_8) G = G1
  generalize hL : apL (s_523_78_0 ++ s_518_63_8) L = L1
  refine (show sm_ev _ _ _ _ _ _ _ _ _ _ [.ref 78, .int (i3 2), .ref 65] 79 (R1) x G1 L1 = hW (d + 1) 518 40 [.ref 63, .int (i3 3)] 79 (sm_up (R1) 65 2 78) x (G1) (L1) from rfl).trans ?_
  subst hR hG hL
  rw [show ∀ (l : List ce) (Y : sm_R), (sm_up (apR l Y) 65 2 78) = apR ((1, 65, 2, 78)::l) Y from fun _ _ => rfl]
  rw [show ∀ (l : List ce) (Y : sm_G), (apG l Y) = apG ((1, 65, 2, 78)::l) Y from fun _ _ => rfl]
  rw [show ∀ (l : List ce) (Y : sm_L), (apL l Y) = apL ((1, 65, 2, 78)::l) Y from fun _ _ => rfl]
  rw [show ((1, 65, 2, 78)::(s_523_78_0 ++ s_518_63_8) : List ce) = s_518_63_9 from rfl]
  refine hW_eq.trans ?_
  generalize hR : apR s_518_63_9 R = R1
  generalize hG : apG s_518_63_9 G = G1
  generalize hL : apL s_518_63_9 L = L1
  have u : R1 = sm_up R1 63 0 64 := upi (by rw [← hR]; exact lkR_e _ _ _ _ (by decide +kernel))
  rw [u]
  refine (show sm_blk _ _ _ _ _ _ _ _ _ 79 (sm_up R1 63 0 64) _ G1 L1 = sm_bV (sm_cw (d + 1) 523 [.ref 80] (80, (sm_cl (sm_up R1 63 0 64) 80 0), x, (sm_cl (G1) 80 0), (sm_cl (L1) 80 0))) (fun o S => sm_ev _ _ _ _ _ _ _ _ _ _ (o.toList ++ [.ref 80, .int (i3 3), .ref 64]) S.fst S.snd.fst S.snd.snd.fst S.snd.snd.snd.fst S.snd.snd.snd.snd) _ from rfl).trans ?_
  rw [← u]
  clear u
  subst hR hG hL
  rw [show ∀ (l : List ce) (Y : sm_R), (sm_cl (apR l Y) 80 0) = apR ((0, 80, 0, 0)::l) Y from fun _ _ => rfl]
  rw [show ∀ (l : List ce) (Y : sm_G), (sm_cl (apG l Y) 80 0) = apG ((0, 80, 0, 0)::l) Y from fun _ _ => rfl]
  rw [show ∀ (l : List ce) (Y : sm_L), (sm_cl (apL l Y) 80 0) = apL ((0, 80, 0, 0)::l) Y from fun _ _ => rfl]
  rw [show ((0, 80, 0, 0)::s_518_63_9 : List ce) = s_518_63_10 from rfl]
  rw [c_523_80, cOk_app, bV_ok]
  show sm_ev _ _ _ _ _ _ _ _ _ _ [.ref 80, .int (i3 3), .ref 64] 81 (apR (s_523_80_0 ++ s_518_63_10) R) x (apG (s_523_80_0 ++ s_518_63_10) G) (apL (s_523_80_0 ++ s_518_63_10) L) = _
  generalize hR : apR (s_523_80_0 ++ s_518_63_10) R = R1
  generalize hG : apG (s_523_80_0 ++ s_518_63_10) G = G1
  generalize hL : apL (s_523_80_0 ++ s_518_63_10) L = L1
  have u : R1 = sm_up R1 63 1 65 := upi (by rw [← hR]; exact lkR_e _ _ _ _ (by decide +kernel))
  rw [u]
  refine (show sm_ev _ _ _ _ _ _ _ _ _ _ [.ref 80, .int (i3 3), .ref 64] 81 (sm_up R1 63 1 65) x G1 L1 = sm_bV (sm_cw (d + 1) 523 [.ref 82] (82, (sm_cl (sm_up (sm_up R1 63 1 65) 64 3 80) 82 0), x, (sm_cl (G1) 82 0), (sm_cl (L1) 82 0))) (fun o S => sm_ev _ _ _ _ _ _ _ _ _ _ (o.toList ++ [.ref 82, .int (i3 3), .ref 65]) S.fst S.snd.fst S.snd.snd.fst S.snd.snd.snd.fst S.snd.snd.snd.snd) _ from rfl).trans ?_
  rw [← u]
  clear u
  subst hR hG hL
  rw [show ∀ (l : List ce) (Y : sm_R), (sm_cl (sm_up (apR l Y) 64 3 80) 82 0) = apR ((0, 82, 0, 0)::(1, 64, 3, 80)::l) Y from fun _ _ => rfl]
  rw [show ∀ (l : List ce) (Y : sm_G), (sm_cl (apG l Y) 82 0) = apG ((0, 82, 0, 0)::(1, 64, 3, 80)::l) Y from fun _ _ => rfl]
  rw [show ∀ (l : List ce) (Y : sm_L), (sm_cl (apL l Y) 82 0) = apL ((0, 82, 0, 0)::(1, 64, 3, 80)::l) Y from fun _ _ => rfl]
  rw [show ((0, 82, 0, 0)::(1, 64, 3, 80)::(s_523_80_0 ++ s_518_63_10) : List ce) = s_518_63_11 from rfl]
  rw [c_523_82, cOk_app, bV_ok]
  show sm_ev _ _ _ _ _ _ _ _ _ _ [.ref 82, .int (i3 3), .ref 65] 83 (apR (s_523_82_0 ++ s_518_63_11) R) x (apG (s_523_82_0 ++ s_518_63_11) G) (apL (s_523_82_0 ++ s_518_63_11) L) = _
  generalize hR : apR (s_523_82_0 ++ s_518_63_11) R = R1
  generalize hG : apG (s_523_82_0 ++ s_518_63_11) G = G1
  generalize hL : apL (s_523_82_0 ++ s_518_63_11) L = L1
  refine (show sm_ev _ _ _ _ _ _ _ _ _ _ [.ref 82, .int (i3 3), .ref 65] 83 (R1) x G1 L1 = hW (d + 1) 518 40 [.ref 63, .int (i3 4)] 83 (sm_up (R1) 65 3 82) x (G1) (L1) from rfl).trans ?_
  subst hR hG hL
  rw [show ∀ (l : List ce) (Y : sm_R), (sm_up (apR l Y) 65 3 82) = apR ((1, 65, 3, 82)::l) Y from fun _ _ => rfl]
  rw [show ∀ (l : List ce) (Y : sm_G), (apG l Y) = apG ((1, 65, 3, 82)::l) Y from fun _ _ => rfl]
  rw [show ∀ (l : List ce) (Y : sm_L), (apL l Y) = apL ((1, 65, 3, 82)::l) Y from fun _ _ => rfl]
  rw [show ((1, 65, 3, 82)::(s_523_82_0 ++ s_518_63_11) : List ce) = s_518_63_12 from rfl]
  refine hW_eq.trans ?_
  generalize hR : apR s_518_63_12 R = R1
  generalize hG : apG s_518_63_12 G = G1
  generalize hL : apL s_518_63_12 L = L1
  refine (show sm_blk _ _ _ _ _ _ _ _ _ 83 (R1) _ G1 L1 = some (.inl none, 83, (R1), x, (G1), (L1)) from rfl).trans ?_
  subst hR hG hL
  show _ = _
  rfl
def s_523_89_0 : List ce := (1, 89, 0, 90)::(0, 90, 0, 0)::[]
theorem c_523_89 {d x : Nat} {R : sm_R} {G : sm_G} {L : sm_L} : sm_cw (d + 1) 523 [.ref 89] (89, R, x, G, L) = cOk 90 s_523_89_0 R x G L := by
  refine (cw_eq rfl rfl).trans (hW_eq.trans ?_)
  exact (show sm_blk _ _ _ _ _ _ _ _ _ _ _ _ _ _ = cOk 90 s_523_89_0 R x G L from rfl)
def s_523_91_0 : List ce := (1, 91, 0, 92)::(0, 92, 0, 0)::[]
theorem c_523_91 {d x : Nat} {R : sm_R} {G : sm_G} {L : sm_L} : sm_cw (d + 1) 523 [.ref 91] (91, R, x, G, L) = cOk 92 s_523_91_0 R x G L := by
  refine (cw_eq rfl rfl).trans (hW_eq.trans ?_)
  exact (show sm_blk _ _ _ _ _ _ _ _ _ _ _ _ _ _ = cOk 92 s_523_91_0 R x G L from rfl)
def s_523_93_0 : List ce := (1, 93, 0, 94)::(0, 94, 0, 0)::[]
theorem c_523_93 {d x : Nat} {R : sm_R} {G : sm_G} {L : sm_L} : sm_cw (d + 1) 523 [.ref 93] (93, R, x, G, L) = cOk 94 s_523_93_0 R x G L := by
  refine (cw_eq rfl rfl).trans (hW_eq.trans ?_)
  exact (show sm_blk _ _ _ _ _ _ _ _ _ _ _ _ _ _ = cOk 94 s_523_93_0 R x G L from rfl)
def s_523_95_0 : List ce := (1, 95, 0, 96)::(0, 96, 0, 0)::[]
theorem c_523_95 {d x : Nat} {R : sm_R} {G : sm_G} {L : sm_L} : sm_cw (d + 1) 523 [.ref 95] (95, R, x, G, L) = cOk 96 s_523_95_0 R x G L := by
  refine (cw_eq rfl rfl).trans (hW_eq.trans ?_)
  exact (show sm_blk _ _ _ _ _ _ _ _ _ _ _ _ _ _ = cOk 96 s_523_95_0 R x G L from rfl)
def s_523_97_0 : List ce := (1, 97, 0, 98)::(0, 98, 0, 0)::[]
theorem c_523_97 {d x : Nat} {R : sm_R} {G : sm_G} {L : sm_L} : sm_cw (d + 1) 523 [.ref 97] (97, R, x, G, L) = cOk 98 s_523_97_0 R x G L := by
  refine (cw_eq rfl rfl).trans (hW_eq.trans ?_)
  exact (show sm_blk _ _ _ _ _ _ _ _ _ _ _ _ _ _ = cOk 98 s_523_97_0 R x G L from rfl)
def s_523_99_0 : List ce := (1, 99, 0, 100)::(0, 100, 0, 0)::[]
theorem c_523_99 {d x : Nat} {R : sm_R} {G : sm_G} {L : sm_L} : sm_cw (d + 1) 523 [.ref 99] (99, R, x, G, L) = cOk 100 s_523_99_0 R x G L := by
  refine (cw_eq rfl rfl).trans (hW_eq.trans ?_)
  exact (show sm_blk _ _ _ _ _ _ _ _ _ _ _ _ _ _ = cOk 100 s_523_99_0 R x G L from rfl)
def s_523_101_0 : List ce := (1, 101, 0, 102)::(0, 102, 0, 0)::[]
theorem c_523_101 {d x : Nat} {R : sm_R} {G : sm_G} {L : sm_L} : sm_cw (d + 1) 523 [.ref 101] (101, R, x, G, L) = cOk 102 s_523_101_0 R x G L := by
  refine (cw_eq rfl rfl).trans (hW_eq.trans ?_)
  exact (show sm_blk _ _ _ _ _ _ _ _ _ _ _ _ _ _ = cOk 102 s_523_101_0 R x G L from rfl)
def s_523_103_0 : List ce := (1, 103, 0, 104)::(0, 104, 0, 0)::[]
theorem c_523_103 {d x : Nat} {R : sm_R} {G : sm_G} {L : sm_L} : sm_cw (d + 1) 523 [.ref 103] (103, R, x, G, L) = cOk 104 s_523_103_0 R x G L := by
  refine (cw_eq rfl rfl).trans (hW_eq.trans ?_)
  exact (show sm_blk _ _ _ _ _ _ _ _ _ _ _ _ _ _ = cOk 104 s_523_103_0 R x G L from rfl)
def s_518_84_0 : List ce := (1, 84, 3, 88)::(0, 88, 0, 0)::(1, 84, 2, 87)::(0, 87, 0, 0)::(1, 84, 1, 86)::(0, 86, 0, 0)::(1, 84, 0, 85)::(0, 85, 0, 0)::[]
def s_518_84_1 : List ce := (0, 89, 0, 0)::s_518_84_0
def s_518_84_2 : List ce := (0, 91, 0, 0)::(1, 85, 0, 89)::(s_523_89_0 ++ s_518_84_1)
def s_518_84_3 : List ce := (1, 86, 0, 91)::(s_523_91_0 ++ s_518_84_2)
def s_518_84_4 : List ce := (0, 93, 0, 0)::s_518_84_3
def s_518_84_5 : List ce := (0, 95, 0, 0)::(1, 85, 1, 93)::(s_523_93_0 ++ s_518_84_4)
def s_518_84_6 : List ce := (1, 86, 1, 95)::(s_523_95_0 ++ s_518_84_5)
def s_518_84_7 : List ce := (0, 97, 0, 0)::s_518_84_6
def s_518_84_8 : List ce := (0, 99, 0, 0)::(1, 85, 2, 97)::(s_523_97_0 ++ s_518_84_7)
def s_518_84_9 : List ce := (1, 86, 2, 99)::(s_523_99_0 ++ s_518_84_8)
def s_518_84_10 : List ce := (0, 101, 0, 0)::s_518_84_9
def s_518_84_11 : List ce := (0, 103, 0, 0)::(1, 85, 3, 101)::(s_523_101_0 ++ s_518_84_10)
def s_518_84_12 : List ce := (1, 86, 3, 103)::(s_523_103_0 ++ s_518_84_11)
def s_518_84_13 : List ce := s_518_84_12
theorem c_518_84 {d x : Nat} {R : sm_R} {G : sm_G} {L : sm_L} : sm_cw (d + 2) 518 [.ref 84] (84, R, x, G, L) = cOk 104 s_518_84_13 R x G L := by
  refine (cw_eq rfl rfl).trans (hW_eq.trans ?_)
  refine (show sm_blk _ _ _ _ _ _ _ _ _ _ _ _ _ _ = hW (d + 1) 518 40 [.ref 84, .int (i3 0)] 88 (apR s_518_84_0 R) x (apG s_518_84_0 G) (apL s_518_84_0 L) from rfl).trans ?_
  refine hW_eq.trans ?_
  generalize hR : apR s_518_84_0 R = R1
  generalize hG : apG s_518_84_0 G = G1
  generalize hL : apL s_518_84_0 L = L1
  have u : R1 = sm_up R1 84 0 85 := upi (by rw [← hR]; exact lkR_e _ _ _ _ (by decide +kernel))
  rw [u]
  refine (show sm_blk _ _ _ _ _ _ _ _ _ 88 (sm_up R1 84 0 85) _ G1 L1 = sm_bV (sm_cw (d + 1) 523 [.ref 89] (89, (sm_cl (sm_up R1 84 0 85) 89 0), x, (sm_cl (G1) 89 0), (sm_cl (L1) 89 0))) (fun o S => sm_ev _ _ _ _ _ _ _ _ _ _ (o.toList ++ [.ref 89, .int (i3 0), .ref 85]) S.fst S.snd.fst S.snd.snd.fst S.snd.snd.snd.fst S.snd.snd.snd.snd) _ from rfl).trans ?_
  rw [← u]
  clear u
  subst hR hG hL
  rw [show ∀ (l : List ce) (Y : sm_R), (sm_cl (apR l Y) 89 0) = apR ((0, 89, 0, 0)::l) Y from fun _ _ => rfl]
  rw [show ∀ (l : List ce) (Y : sm_G), (sm_cl (apG l Y) 89 0) = apG ((0, 89, 0, 0)::l) Y from fun _ _ => rfl]
  rw [show ∀ (l : List ce) (Y : sm_L), (sm_cl (apL l Y) 89 0) = apL ((0, 89, 0, 0)::l) Y from fun _ _ => rfl]
  rw [show ((0, 89, 0, 0)::s_518_84_0 : List ce) = s_518_84_1 from rfl]
  rw [c_523_89, cOk_app, bV_ok]
  show sm_ev _ _ _ _ _ _ _ _ _ _ [.ref 89, .int (i3 0), .ref 85] 90 (apR (s_523_89_0 ++ s_518_84_1) R) x (apG (s_523_89_0 ++ s_518_84_1) G) (apL (s_523_89_0 ++ s_518_84_1) L) = _
  generalize hR : apR (s_523_89_0 ++ s_518_84_1) R = R1
  generalize hG : apG (s_523_89_0 ++ s_518_84_1) G = G1
  generalize hL : apL (s_523_89_0 ++ s_518_84_1) L = L1
  have u : R1 = sm_up R1 84 1 86 := upi (by rw [← hR]; exact lkR_e _ _ _ _ (by decide +kernel))
  rw [u]
  refine (show sm_ev _ _ _ _ _ _ _ _ _ _ [.ref 89, .int (i3 0), .ref 85] 90 (sm_up R1 84 1 86) x G1 L1 = sm_bV (sm_cw (d + 1) 523 [.ref 91] (91, (sm_cl (sm_up (sm_up R1 84 1 86) 85 0 89) 91 0), x, (sm_cl (G1) 91 0), (sm_cl (L1) 91 0))) (fun o S => sm_ev _ _ _ _ _ _ _ _ _ _ (o.toList ++ [.ref 91, .int (i3 0), .ref 86]) S.fst S.snd.fst S.snd.snd.fst S.snd.snd.snd.fst S.snd.snd.snd.snd) _ from rfl).trans ?_
  rw [← u]
  clear u
  subst hR hG hL
  rw [show ∀ (l : List ce) (Y : sm_R), (sm_cl (sm_up (apR l Y) 85 0 89) 91 0) = apR ((0, 91, 0, 0)::(1, 85, 0, 89)::l) Y from fun _ _ => rfl]
  rw [show ∀ (l : List ce) (Y : sm_G), (sm_cl (apG l Y) 91 0) = apG ((0, 91, 0, 0)::(1, 85, 0, 89)::l) Y from fun _ _ => rfl]
  rw [show ∀ (l : List ce) (Y : sm_L), (sm_cl (apL l Y) 91 0) = apL ((0, 91, 0, 0)::(1, 85, 0, 89)::l) Y from fun _ _ => rfl]
  rw [show ((0, 91, 0, 0)::(1, 85, 0, 89)::(s_523_89_0 ++ s_518_84_1) : List ce) = s_518_84_2 from rfl]
  rw [c_523_91, cOk_app, bV_ok]
  show sm_ev _ _ _ _ _ _ _ _ _ _ [.ref 91, .int (i3 0), .ref 86] 92 (apR (s_523_91_0 ++ s_518_84_2) R) x (apG (s_523_91_0 ++ s_518_84_2) G) (apL (s_523_91_0 ++ s_518_84_2) L) = _
  generalize hR : apR (s_523_91_0 ++ s_518_84_2) R = R1
  generalize hG : apG (s_523_91_0 ++ s_518_84_2) G = G1
  generalize hL : apL (s_523_91_0 ++ s_518_84_2) L = L1
  refine (show sm_ev _ _ _ _ _ _ _ _ _ _ [.ref 91, .int (i3 0), .ref 86] 92 (R1) x G1 L1 = hW (d + 1) 518 40 [.ref 84, .int (i3 1)] 92 (sm_up (R1) 86 0 91) x (G1) (L1) from rfl).trans ?_
  subst hR hG hL
  rw [show ∀ (l : List ce) (Y : sm_R), (sm_up (apR l Y) 86 0 91) = apR ((1, 86, 0, 91)::l) Y from fun _ _ => rfl]
  rw [show ∀ (l : List ce) (Y : sm_G), (apG l Y) = apG ((1, 86, 0, 91)::l) Y from fun _ _ => rfl]
  rw [show ∀ (l : List ce) (Y : sm_L), (apL l Y) = apL ((1, 86, 0, 91)::l) Y from fun _ _ => rfl]
  rw [show ((1, 86, 0, 91)::(s_523_91_0 ++ s_518_84_2) : List ce) = s_518_84_3 from rfl]
  refine hW_eq.trans ?_
  generalize hR : apR s_518_84_3 R = R1
  generalize hG : apG s_518_84_3 G = G1
  generalize hL : apL s_518_84_3 L = L1
  have u : R1 = sm_up R1 84 0 85 := upi (by rw [← hR]; exact lkR_e _ _ _ _ (by decide +kernel))
  rw [u]
  refine (show sm_blk _ _ _ _ _ _ _ _ _ 92 (sm_up R1 84 0 85) _ G1 L1 = sm_bV (sm_cw (d + 1) 523 [.ref 93] (93, (sm_cl (sm_up R1 84 0 85) 93 0), x, (sm_cl (G1) 93 0), (sm_cl (L1) 93 0))) (fun o S => sm_ev _ _ _ _ _ _ _ _ _ _ (o.toList ++ [.ref 93, .int (i3 1), .ref 85]) S.fst S.snd.fst S.snd.snd.fst S.snd.snd.snd.fst S.snd.snd.snd.snd) _ from rfl).trans ?_
  rw [← u]
  clear u
  subst hR hG hL
  rw [show ∀ (l : List ce) (Y : sm_R), (sm_cl (apR l Y) 93 0) = apR ((0, 93, 0, 0)::l) Y from fun _ _ => rfl]
  rw [show ∀ (l : List ce) (Y : sm_G), (sm_cl (apG l Y) 93 0) = apG ((0, 93, 0, 0)::l) Y from fun _ _ => rfl]
  rw [show ∀ (l : List ce) (Y : sm_L), (sm_cl (apL l Y) 93 0) = apL ((0, 93, 0, 0)::l) Y from fun _ _ => rfl]
  rw [show ((0, 93, 0, 0)::s_518_84_3 : List ce) = s_518_84_4 from rfl]
  rw [c_523_93, cOk_app, bV_ok]
  show sm_ev _ _ _ _ _ _ _ _ _ _ [.ref 93, .int (i3 1), .ref 85] 94 (apR (s_523_93_0 ++ s_518_84_4) R) x (apG (s_523_93_0 ++ s_518_84_4) G) (apL (s_523_93_0 ++ s_518_84_4) L) = _
  generalize hR : apR (s_523_93_0 ++ s_518_84_4) R = R1
  generalize hG : apG (s_523_93_0 ++ s_518_84_4) G = G1
  generalize hL : apL (s_523_93_0 ++ s_518_84_4) L = L1
  have u : R1 = sm_up R1 84 1 86 := upi (by rw [← hR]; exact lkR_e _ _ _ _ (by decide +kernel))
  rw [u]
  refine (show sm_ev _ _ _ _ _ _ _ _ _ _ [.ref 93, .int (i3 1), .ref 85] 94 (sm_up R1 84 1 86) x G1 L1 = sm_bV (sm_cw (d + 1) 523 [.ref 95] (95, (sm_cl (sm_up (sm_up R1 84 1 86) 85 1 93) 95 0), x, (sm_cl (G1) 95 0), (sm_cl (L1) 95 0))) (fun o S => sm_ev _ _ _ _ _ _ _ _ _ _ (o.toList ++ [.ref 95, .int (i3 1), .ref 86]) S.fst S.snd.fst S.snd.snd.fst S.snd.snd.snd.fst S.snd.snd.snd.snd) _ from rfl).trans ?_
  rw [← u]
  clear u
  subst hR hG hL
  rw [show ∀ (l : List ce) (Y : sm_R), (sm_cl (sm_up (apR l Y) 85 1 93) 95 0) = apR ((0, 95, 0, 0)::(1, 85, 1, 93)::l) Y from fun _ _ => rfl]
  rw [show ∀ (l : List ce) (Y : sm_G), (sm_cl (apG l Y) 95 0) = apG ((0, 95, 0, 0)::(1, 85, 1, 93)::l) Y from fun _ _ => rfl]
  rw [show ∀ (l : List ce) (Y : sm_L), (sm_cl (apL l Y) 95 0) = apL ((0, 95, 0, 0)::(1, 85, 1, 93)::l) Y from fun _ _ => rfl]
  rw [show ((0, 95, 0, 0)::(1, 85, 1, 93)::(s_523_93_0 ++ s_518_84_4) : List ce) = s_518_84_5 from rfl]
  rw [c_523_95, cOk_app, bV_ok]
  show sm_ev _ _ _ _ _ _ _ _ _ _ [.ref 95, .int (i3 1), .ref 86] 96 (apR (s_523_95_0 ++ s_518_84_5) R) x (apG (s_523_95_0 ++ s_518_84_5) G) (apL (s_523_95_0 ++ s_518_84_5) L) = _
  generalize hR : apR (s_523_95_0 ++ s_518_84_5) R = R1
  generalize hG : apG (s_523_95_0 ++ s_518_84_5) G = G1
  generalize hL : apL (s_523_95_0 ++ s_518_84_5) L = L1
  refine (show sm_ev _ _ _ _ _ _ _ _ _ _ [.ref 95, .int (i3 1), .ref 86] 96 (R1) x G1 L1 = hW (d + 1) 518 40 [.ref 84, .int (i3 2)] 96 (sm_up (R1) 86 1 95) x (G1) (L1) from rfl).trans ?_
  subst hR hG hL
  rw [show ∀ (l : List ce) (Y : sm_R), (sm_up (apR l Y) 86 1 95) = apR ((1, 86, 1, 95)::l) Y from fun _ _ => rfl]
  rw [show ∀ (l : List ce) (Y : sm_G), (apG l Y) = apG ((1, 86, 1, 95)::l) Y from fun _ _ => rfl]
  rw [show ∀ (l : List ce) (Y : sm_L), (apL l Y) = apL ((1, 86, 1, 95)::l) Y from fun _ _ => rfl]
  rw [show ((1, 86, 1, 95)::(s_523_95_0 ++ s_518_84_5) : List ce) = s_518_84_6 from rfl]
  refine hW_eq.trans ?_
  generalize hR : apR s_518_84_6 R = R1
  generalize hG : apG s_518_84_6 G = G1
  generalize hL : apL s_518_84_6 L = L1
  have u : R1 = sm_up R1 84 0 85 := upi (by rw [← hR]; exact lkR_e _ _ _ _ (by decide +kernel))
  rw [u]
  refine (show sm_blk _ _ _ _ _ _ _ _ _ 96 (sm_up R1 84 0 85) _ G1 L1 = sm_bV (sm_cw (d + 1) 523 [.ref 97] (97, (sm_cl (sm_up R1 84 0 85) 97 0), x, (sm_cl (G1) 97 0), (sm_cl (L1) 97 0))) (fun o S => sm_ev _ _ _ _ _ _ _ _ _ _ (o.toList ++ [.ref 97, .int (i3 2), .ref 85]) S.fst S.snd.fst S.snd.snd.fst S.snd.snd.snd.fst S.snd.snd.snd.snd) _ from rfl).trans ?_
  rw [← u]
  clear u
  subst hR hG hL
  rw [show ∀ (l : List ce) (Y : sm_R), (sm_cl (apR l Y) 97 0) = apR ((0, 97, 0, 0)::l) Y from fun _ _ => rfl]
  rw [show ∀ (l : List ce) (Y : sm_G), (sm_cl (apG l Y) 97 0) = apG ((0, 97, 0, 0)::l) Y from fun _ _ => rfl]
  rw [show ∀ (l : List ce) (Y : sm_L), (sm_cl (apL l Y) 97 0) = apL ((0, 97, 0, 0)::l) Y from fun _ _ => rfl]
  rw [show ((0, 97, 0, 0)::s_518_84_6 : List ce) = s_518_84_7 from rfl]
  rw [c_523_97, cOk_app, bV_ok]
  show sm_ev _ _ _ _ _ _ _ _ _ _ [.ref 97, .int (i3 2), .ref 85] 98 (apR (s_523_97_0 ++ s_518_84_7) R) x (apG (s_523_97_0 ++ s_518_84_7) G) (apL (s_523_97_0 ++ s_518_84_7) L) = _
  generalize hR : apR (s_523_97_0 ++ s_518_84_7) R = R1
  generalize hG : apG (s_523_97_0 ++ s_518_84_7) G = G1
  generalize hL : apL (s_523_97_0 ++ s_518_84_7) L = L1
  have u : R1 = sm_up R1 84 1 86 := upi (by rw [← hR]; exact lkR_e _ _ _ _ (by decide +kernel))
  rw [u]
  refine (show sm_ev _ _ _ _ _ _ _ _ _ _ [.ref 97, .int (i3 2), .ref 85] 98 (sm_up R1 84 1 86) x G1 L1 = sm_bV (sm_cw (d + 1) 523 [.ref 99] (99, (sm_cl (sm_up (sm_up R1 84 1 86) 85 2 97) 99 0), x, (sm_cl (G1) 99 0), (sm_cl (L1) 99 0))) (fun o S => sm_ev _ _ _ _ _ _ _ _ _ _ (o.toList ++ [.ref 99, .int (i3 2), .ref 86]) S.fst S.snd.fst S.snd.snd.fst S.snd.snd.snd.fst S.snd.snd.snd.snd) _ from rfl).trans ?_
  rw [← u]
  clear u
  subst hR hG hL
  rw [show ∀ (l : List ce) (Y : sm_R), (sm_cl (sm_up (apR l Y) 85 2 97) 99 0) = apR ((0, 99, 0, 0)::(1, 85, 2, 97)::l) Y from fun _ _ => rfl]
  rw [show ∀ (l : List ce) (Y : sm_G), (sm_cl (apG l Y) 99 0) = apG ((0, 99, 0, 0)::(1, 85, 2, 97)::l) Y from fun _ _ => rfl]
  rw [show ∀ (l : List ce) (Y : sm_L), (sm_cl (apL l Y) 99 0) = apL ((0, 99, 0, 0)::(1, 85, 2, 97)::l) Y from fun _ _ => rfl]
  rw [show ((0, 99, 0, 0)::(1, 85, 2, 97)::(s_523_97_0 ++ s_518_84_7) : List ce) = s_518_84_8 from rfl]
  rw [c_523_99, cOk_app, bV_ok]
  show sm_ev _ _ _ _ _ _ _ _ _ _ [.ref 99, .int (i3 2), .ref 86] 100 (apR (s_523_99_0 ++ s_518_84_8) R) x (apG (s_523_99_0 ++ s_518_84_8) G) (apL (s_523_99_0 ++ s_518_84_8) L) = _
  generalize hR : apR (s_523_99_0 ++ s_518_84_8) R = R1
  generalize hG : apG (s_523_99_0 ++ s_518_84_8) G = G1
  generalize hL : apL (s_523_99_0 ++ s_518_84_8) L = L1
  refine (show sm_ev _ _ _ _ _ _ _ _ _ _ [.ref 99, .int (i3 2), .ref 86] 100 (R1) x G1 L1 = hW (d + 1) 518 40 [.ref 84, .int (i3 3)] 100 (sm_up (R1) 86 2 99) x (G1) (L1) from rfl).trans ?_
  subst hR hG hL
  rw [show ∀ (l : List ce) (Y : sm_R), (sm_up (apR l Y) 86 2 99) = apR ((1, 86, 2, 99)::l) Y from fun _ _ => rfl]
  rw [show ∀ (l : List ce) (Y : sm_G), (apG l Y) = apG ((1, 86, 2, 99)::l) Y from fun _ _ => rfl]
  rw [show ∀ (l : List ce) (Y : sm_L), (apL l Y) = apL ((1, 86, 2, 99)::l) Y from fun _ _ => rfl]
  rw [show ((1, 86, 2, 99)::(s_523_99_0 ++ s_518_84_8) : List ce) = s_518_84_9 from rfl]
  refine hW_eq.trans ?_
  generalize hR : apR s_518_84_9 R = R1
  generalize hG : apG s_518_84_9 G = G1
  generalize hL : apL s_518_84_9 L = L1
  have u : R1 = sm_up R1 84 0 85 := upi (by rw [← hR]; exact lkR_e _ _ _ _ (by decide +kernel))
  rw [u]
  refine (show sm_blk _ _ _ _ _ _ _ _ _ 100 (sm_up R1 84 0 85) _ G1 L1 = sm_bV (sm_cw (d + 1) 523 [.ref 101] (101, (sm_cl (sm_up R1 84 0 85) 101 0), x, (sm_cl (G1) 101 0), (sm_cl (L1) 101 0))) (fun o S => sm_ev _ _ _ _ _ _ _ _ _ _ (o.toList ++ [.ref 101, .int (i3 3), .ref 85]) S.fst S.snd.fst S.snd.snd.fst S.snd.snd.snd.fst S.snd.snd.snd.snd) _ from rfl).trans ?_
  rw [← u]
  clear u
  subst hR hG hL
  rw [show ∀ (l : List ce) (Y : sm_R), (sm_cl (apR l Y) 101 0) = apR ((0, 101, 0, 0)::l) Y from fun _ _ => rfl]
  rw [show ∀ (l : List ce) (Y : sm_G), (sm_cl (apG l Y) 101 0) = apG ((0, 101, 0, 0)::l) Y from fun _ _ => rfl]
  rw [show ∀ (l : List ce) (Y : sm_L), (sm_cl (apL l Y) 101 0) = apL ((0, 101, 0, 0)::l) Y from fun _ _ => rfl]
  rw [show ((0, 101, 0, 0)::s_518_84_9 : List ce) = s_518_84_10 from rfl]
  rw [c_523_101, cOk_app, bV_ok]
  show sm_ev _ _ _ _ _ _ _ _ _ _ [.ref 101, .int (i3 3), .ref 85] 102 (apR (s_523_101_0 ++ s_518_84_10) R) x (apG (s_523_101_0 ++ s_518_84_10) G) (apL (s_523_101_0 ++ s_518_84_10) L) = _
  generalize hR : apR (s_523_101_0 ++ s_518_84_10) R = R1
  generalize hG : apG (s_523_101_0 ++ s_518_84_10) G = G1
  generalize hL : apL (s_523_101_0 ++ s_518_84_10) L = L1
  have u : R1 = sm_up R1 84 1 86 := upi (by rw [← hR]; exact lkR_e _ _ _ _ (by decide +kernel))
  rw [u]
  refine (show sm_ev _ _ _ _ _ _ _ _ _ _ [.ref 101, .int (i3 3), .ref 85] 102 (sm_up R1 84 1 86) x G1 L1 = sm_bV (sm_cw (d + 1) 523 [.ref 103] (103, (sm_cl (sm_up (sm_up R1 84 1 86) 85 3 101) 103 0), x, (sm_cl (G1) 103 0), (sm_cl (L1) 103 0))) (fun o S => sm_ev _ _ _ _ _ _ _ _ _ _ (o.toList ++ [.ref 103, .int (i3 3), .ref 86]) S.fst S.snd.fst S.snd.snd.fst S.snd.snd.snd.fst S.snd.snd.snd.snd) _ from rfl).trans ?_
  rw [← u]
  clear u
  subst hR hG hL
  rw [show ∀ (l : List ce) (Y : sm_R), (sm_cl (sm_up (apR l Y) 85 3 101) 103 0) = apR ((0, 103, 0, 0)::(1, 85, 3, 101)::l) Y from fun _ _ => rfl]
  rw [show ∀ (l : List ce) (Y : sm_G), (sm_cl (apG l Y) 103 0) = apG ((0, 103, 0, 0)::(1, 85, 3, 101)::l) Y from fun _ _ => rfl]
  rw [show ∀ (l : List ce) (Y : sm_L), (sm_cl (apL l Y) 103 0) = apL ((0, 103, 0, 0)::(1, 85, 3, 101)::l) Y from fun _ _ => rfl]
  rw [show ((0, 103, 0, 0)::(1, 85, 3, 101)::(s_523_101_0 ++ s_518_84_10) : List ce) = s_518_84_11 from rfl]
  rw [c_523_103, cOk_app, bV_ok]
  show sm_ev _ _ _ _ _ _ _ _ _ _ [.ref 103, .int (i3 3), .ref 86] 104 (apR (s_523_103_0 ++ s_518_84_11) R) x (apG (s_523_103_0 ++ s_518_84_11) G) (apL (s_523_103_0 ++ s_518_84_11) L) = _
  generalize hR : apR (s_523_103_0 ++ s_518_84_11) R = R1
  generalize hG : apG (s_523_103_0 ++ s_518_84_11) G = G1
  generalize hL : apL (s_523_103_0 ++ s_518_84_11) L = L1
  refine (show sm_ev _ _ _ _ _ _ _ _ _ _ [.ref 103, .int (i3 3), .ref 86] 104 (R1) x G1 L1 = hW (d + 1) 518 40 [.ref 84, .int (i3 4)] 104 (sm_up (R1) 86 3 103) x (G1) (L1) from rfl).trans ?_
  subst hR hG hL
  rw [show ∀ (l : List ce) (Y : sm_R), (sm_up (apR l Y) 86 3 103) = apR ((1, 86, 3, 103)::l) Y from fun _ _ => rfl]
  rw [show ∀ (l : List ce) (Y : sm_G), (apG l Y) = apG ((1, 86, 3, 103)::l) Y from fun _ _ => rfl]
  rw [show ∀ (l : List ce) (Y : sm_L), (apL l Y) = apL ((1, 86, 3, 103)::l) Y from fun _ _ => rfl]
  rw [show ((1, 86, 3, 103)::(s_523_103_0 ++ s_518_84_11) : List ce) = s_518_84_12 from rfl]
  refine hW_eq.trans ?_
  generalize hR : apR s_518_84_12 R = R1
  generalize hG : apG s_518_84_12 G = G1
  generalize hL : apL s_518_84_12 L = L1
  refine (show sm_blk _ _ _ _ _ _ _ _ _ 104 (R1) _ G1 L1 = some (.inl none, 104, (R1), x, (G1), (L1)) from rfl).trans ?_
  subst hR hG hL
  show _ = _
  rfl
def s_520_105_0 : List ce := (1, 105, 1, 107)::(0, 107, 0, 0)::(1, 105, 0, 106)::(0, 106, 0, 0)::[]
theorem c_520_105 {d x : Nat} {R : sm_R} {G : sm_G} {L : sm_L} : sm_cw (d + 1) 520 [.ref 105] (105, R, x, G, L) = cOk 107 s_520_105_0 R x G L := by
  refine (cw_eq rfl rfl).trans (hW_eq.trans ?_)
  exact (show sm_blk _ _ _ _ _ _ _ _ _ _ _ _ _ _ = cOk 107 s_520_105_0 R x G L from rfl)
def s_524_108_0 : List ce := []
theorem c_524_108 {d x : Nat} {R : sm_R} {G : sm_G} {L : sm_L} : sm_cw (d + 1) 524 [.ref 108] (108, R, x, G, L) = cOk 108 s_524_108_0 R x G L := by
  refine (cw_eq rfl rfl).trans (hW_eq.trans ?_)
  exact (show sm_blk _ _ _ _ _ _ _ _ _ _ _ _ _ _ = cOk 108 s_524_108_0 R x G L from rfl)
def s_519_110_0 : List ce := (1, 110, 7, 118)::(0, 118, 0, 0)::(1, 110, 6, 117)::(0, 117, 0, 0)::(1, 110, 5, 116)::(0, 116, 0, 0)::(1, 110, 4, 115)::(0, 115, 0, 0)::(1, 110, 3, 114)::(0, 114, 0, 0)::(1, 110, 2, 113)::(0, 113, 0, 0)::(1, 110, 1, 112)::(0, 112, 0, 0)::(1, 110, 0, 111)::(0, 111, 0, 0)::[]
theorem c_519_110 {d x : Nat} {R : sm_R} {G : sm_G} {L : sm_L} : sm_cw (d + 1) 519 [.ref 110] (110, R, x, G, L) = cOk 118 s_519_110_0 R x G L := by
  refine (cw_eq rfl rfl).trans (hW_eq.trans ?_)
  exact (show sm_blk _ _ _ _ _ _ _ _ _ _ _ _ _ _ = cOk 118 s_519_110_0 R x G L from rfl)
def s_521_109_0 : List ce := (0, 110, 0, 0)::[]
def s_521_109_1 : List ce := (4, 109, 14, 0)::(1, 109, 8, 126)::(0, 126, 0, 0)::(1, 109, 7, 125)::(0, 125, 0, 0)::(1, 109, 6, 124)::(0, 124, 0, 0)::(1, 109, 5, 123)::(0, 123, 0, 0)::(1, 109, 4, 122)::(0, 122, 0, 0)::(1, 109, 3, 121)::(0, 121, 0, 0)::(1, 109, 2, 120)::(0, 120, 0, 0)::(1, 109, 1, 119)::(0, 119, 0, 0)::(1, 109, 0, 110)::(s_519_110_0 ++ s_521_109_0)
theorem c_521_109 {d x : Nat} {R : sm_R} {G : sm_G} {L : sm_L} : sm_cw (d + 2) 521 [.ref 109] (109, R, x, G, L) = cOk 126 s_521_109_1 R x G L := by
  refine (cw_eq rfl rfl).trans (hW_eq.trans ?_)
  refine (show sm_blk _ _ _ _ _ _ _ _ _ _ _ _ _ _ = sm_bV (sm_cw (d + 1) 519 [.ref 110] (110, (apR s_521_109_0 R), x, (apG s_521_109_0 G), (apL s_521_109_0 L))) (fun o S => sm_ev _ _ _ _ _ _ _ _ _ _ (o.toList ++ [.ref 110, .ref 109]) S.fst S.snd.fst S.snd.snd.fst S.snd.snd.snd.fst S.snd.snd.snd.snd) _ from rfl).trans ?_
  rw [c_519_110, cOk_app, bV_ok]
  show sm_ev _ _ _ _ _ _ _ _ _ _ [.ref 110, .ref 109] 118 (apR (s_519_110_0 ++ s_521_109_0) R) x (apG (s_519_110_0 ++ s_521_109_0) G) (apL (s_519_110_0 ++ s_521_109_0) L) = _
  generalize hR : apR (s_519_110_0 ++ s_521_109_0) R = R1
  generalize hG : apG (s_519_110_0 ++ s_521_109_0) G = G1
  generalize hL : apL (s_519_110_0 ++ s_521_109_0) L = L1
  refine (show sm_ev _ _ _ _ _ _ _ _ _ _ [.ref 110, .ref 109] 118 (R1) x G1 L1 = some (.inl none, 126, (sm_up (sm_cl (sm_up (sm_cl (sm_up (sm_cl (sm_up (sm_cl (sm_up (sm_cl (sm_up (sm_cl (sm_up (sm_cl (sm_up (sm_cl (sm_up (R1) 109 0 110) 119 0) 109 1 119) 120 0) 109 2 120) 121 0) 109 3 121) 122 0) 109 4 122) 123 0) 109 5 123) 124 0) 109 6 124) 125 0) 109 7 125) 126 0) 109 8 126), x, (sm_up (sm_cl (sm_cl (sm_cl (sm_cl (sm_cl (sm_cl (sm_cl (sm_cl (G1) 119 0) 120 0) 121 0) 122 0) 123 0) 124 0) 125 0) 126 0) 109 14 m1), (sm_cl (sm_cl (sm_cl (sm_cl (sm_cl (sm_cl (sm_cl (sm_cl (L1) 119 0) 120 0) 121 0) 122 0) 123 0) 124 0) 125 0) 126 0)) from rfl).trans ?_
  subst hR hG hL
  rw [show ∀ (l : List ce) (Y : sm_R), (sm_up (sm_cl (sm_up (sm_cl (sm_up (sm_cl (sm_up (sm_cl (sm_up (sm_cl (sm_up (sm_cl (sm_up (sm_cl (sm_up (sm_cl (sm_up (apR l Y) 109 0 110) 119 0) 109 1 119) 120 0) 109 2 120) 121 0) 109 3 121) 122 0) 109 4 122) 123 0) 109 5 123) 124 0) 109 6 124) 125 0) 109 7 125) 126 0) 109 8 126) = apR ((4, 109, 14, 0)::(1, 109, 8, 126)::(0, 126, 0, 0)::(1, 109, 7, 125)::(0, 125, 0, 0)::(1, 109, 6, 124)::(0, 124, 0, 0)::(1, 109, 5, 123)::(0, 123, 0, 0)::(1, 109, 4, 122)::(0, 122, 0, 0)::(1, 109, 3, 121)::(0, 121, 0, 0)::(1, 109, 2, 120)::(0, 120, 0, 0)::(1, 109, 1, 119)::(0, 119, 0, 0)::(1, 109, 0, 110)::l) Y from fun _ _ => rfl]
  rw [show ∀ (l : List ce) (Y : sm_G), (sm_up (sm_cl (sm_cl (sm_cl (sm_cl (sm_cl (sm_cl (sm_cl (sm_cl (apG l Y) 119 0) 120 0) 121 0) 122 0) 123 0) 124 0) 125 0) 126 0) 109 14 m1) = apG ((4, 109, 14, 0)::(1, 109, 8, 126)::(0, 126, 0, 0)::(1, 109, 7, 125)::(0, 125, 0, 0)::(1, 109, 6, 124)::(0, 124, 0, 0)::(1, 109, 5, 123)::(0, 123, 0, 0)::(1, 109, 4, 122)::(0, 122, 0, 0)::(1, 109, 3, 121)::(0, 121, 0, 0)::(1, 109, 2, 120)::(0, 120, 0, 0)::(1, 109, 1, 119)::(0, 119, 0, 0)::(1, 109, 0, 110)::l) Y from fun _ _ => rfl]
  rw [show ∀ (l : List ce) (Y : sm_L), (sm_cl (sm_cl (sm_cl (sm_cl (sm_cl (sm_cl (sm_cl (sm_cl (apL l Y) 119 0) 120 0) 121 0) 122 0) 123 0) 124 0) 125 0) 126 0) = apL ((4, 109, 14, 0)::(1, 109, 8, 126)::(0, 126, 0, 0)::(1, 109, 7, 125)::(0, 125, 0, 0)::(1, 109, 6, 124)::(0, 124, 0, 0)::(1, 109, 5, 123)::(0, 123, 0, 0)::(1, 109, 4, 122)::(0, 122, 0, 0)::(1, 109, 3, 121)::(0, 121, 0, 0)::(1, 109, 2, 120)::(0, 120, 0, 0)::(1, 109, 1, 119)::(0, 119, 0, 0)::(1, 109, 0, 110)::l) Y from fun _ _ => rfl]
  rw [show ((4, 109, 14, 0)::(1, 109, 8, 126)::(0, 126, 0, 0)::(1, 109, 7, 125)::(0, 125, 0, 0)::(1, 109, 6, 124)::(0, 124, 0, 0)::(1, 109, 5, 123)::(0, 123, 0, 0)::(1, 109, 4, 122)::(0, 122, 0, 0)::(1, 109, 3, 121)::(0, 121, 0, 0)::(1, 109, 2, 120)::(0, 120, 0, 0)::(1, 109, 1, 119)::(0, 119, 0, 0)::(1, 109, 0, 110)::(s_519_110_0 ++ s_521_109_0) : List ce) = s_521_109_1 from rfl]
  rfl
def s_519_128_0 : List ce := (1, 128, 7, 136)::(0, 136, 0, 0)::(1, 128, 6, 135)::(0, 135, 0, 0)::(1, 128, 5, 134)::(0, 134, 0, 0)::(1, 128, 4, 133)::(0, 133, 0, 0)::(1, 128, 3, 132)::(0, 132, 0, 0)::(1, 128, 2, 131)::(0, 131, 0, 0)::(1, 128, 1, 130)::(0, 130, 0, 0)::(1, 128, 0, 129)::(0, 129, 0, 0)::[]
theorem c_519_128 {d x : Nat} {R : sm_R} {G : sm_G} {L : sm_L} : sm_cw (d + 1) 519 [.ref 128] (128, R, x, G, L) = cOk 136 s_519_128_0 R x G L := by
  refine (cw_eq rfl rfl).trans (hW_eq.trans ?_)
  exact (show sm_blk _ _ _ _ _ _ _ _ _ _ _ _ _ _ = cOk 136 s_519_128_0 R x G L from rfl)
def s_521_127_0 : List ce := (0, 128, 0, 0)::[]
def s_521_127_1 : List ce := (4, 127, 14, 0)::(1, 127, 8, 144)::(0, 144, 0, 0)::(1, 127, 7, 143)::(0, 143, 0, 0)::(1, 127, 6, 142)::(0, 142, 0, 0)::(1, 127, 5, 141)::(0, 141, 0, 0)::(1, 127, 4, 140)::(0, 140, 0, 0)::(1, 127, 3, 139)::(0, 139, 0, 0)::(1, 127, 2, 138)::(0, 138, 0, 0)::(1, 127, 1, 137)::(0, 137, 0, 0)::(1, 127, 0, 128)::(s_519_128_0 ++ s_521_127_0)
theorem c_521_127 {d x : Nat} {R : sm_R} {G : sm_G} {L : sm_L} : sm_cw (d + 2) 521 [.ref 127] (127, R, x, G, L) = cOk 144 s_521_127_1 R x G L := by
  refine (cw_eq rfl rfl).trans (hW_eq.trans ?_)
  refine (show sm_blk _ _ _ _ _ _ _ _ _ _ _ _ _ _ = sm_bV (sm_cw (d + 1) 519 [.ref 128] (128, (apR s_521_127_0 R), x, (apG s_521_127_0 G), (apL s_521_127_0 L))) (fun o S => sm_ev _ _ _ _ _ _ _ _ _ _ (o.toList ++ [.ref 128, .ref 127]) S.fst S.snd.fst S.snd.snd.fst S.snd.snd.snd.fst S.snd.snd.snd.snd) _ from rfl).trans ?_
  rw [c_519_128, cOk_app, bV_ok]
  show sm_ev _ _ _ _ _ _ _ _ _ _ [.ref 128, .ref 127] 136 (apR (s_519_128_0 ++ s_521_127_0) R) x (apG (s_519_128_0 ++ s_521_127_0) G) (apL (s_519_128_0 ++ s_521_127_0) L) = _
  generalize hR : apR (s_519_128_0 ++ s_521_127_0) R = R1
  generalize hG : apG (s_519_128_0 ++ s_521_127_0) G = G1
  generalize hL : apL (s_519_128_0 ++ s_521_127_0) L = L1
  refine (show sm_ev _ _ _ _ _ _ _ _ _ _ [.ref 128, .ref 127] 136 (R1) x G1 L1 = some (.inl none, 144, (sm_up (sm_cl (sm_up (sm_cl (sm_up (sm_cl (sm_up (sm_cl (sm_up (sm_cl (sm_up (sm_cl (sm_up (sm_cl (sm_up (sm_cl (sm_up (R1) 127 0 128) 137 0) 127 1 137) 138 0) 127 2 138) 139 0) 127 3 139) 140 0) 127 4 140) 141 0) 127 5 141) 142 0) 127 6 142) 143 0) 127 7 143) 144 0) 127 8 144), x, (sm_up (sm_cl (sm_cl (sm_cl (sm_cl (sm_cl (sm_cl (sm_cl (sm_cl (G1) 137 0) 138 0) 139 0) 140 0) 141 0) 142 0) 143 0) 144 0) 127 14 m1), (sm_cl (sm_cl (sm_cl (sm_cl (sm_cl (sm_cl (sm_cl (sm_cl (L1) 137 0) 138 0) 139 0) 140 0) 141 0) 142 0) 143 0) 144 0)) from rfl).trans ?_
  subst hR hG hL
  rw [show ∀ (l : List ce) (Y : sm_R), (sm_up (sm_cl (sm_up (sm_cl (sm_up (sm_cl (sm_up (sm_cl (sm_up (sm_cl (sm_up (sm_cl (sm_up (sm_cl (sm_up (sm_cl (sm_up (apR l Y) 127 0 128) 137 0) 127 1 137) 138 0) 127 2 138) 139 0) 127 3 139) 140 0) 127 4 140) 141 0) 127 5 141) 142 0) 127 6 142) 143 0) 127 7 143) 144 0) 127 8 144) = apR ((4, 127, 14, 0)::(1, 127, 8, 144)::(0, 144, 0, 0)::(1, 127, 7, 143)::(0, 143, 0, 0)::(1, 127, 6, 142)::(0, 142, 0, 0)::(1, 127, 5, 141)::(0, 141, 0, 0)::(1, 127, 4, 140)::(0, 140, 0, 0)::(1, 127, 3, 139)::(0, 139, 0, 0)::(1, 127, 2, 138)::(0, 138, 0, 0)::(1, 127, 1, 137)::(0, 137, 0, 0)::(1, 127, 0, 128)::l) Y from fun _ _ => rfl]
  rw [show ∀ (l : List ce) (Y : sm_G), (sm_up (sm_cl (sm_cl (sm_cl (sm_cl (sm_cl (sm_cl (sm_cl (sm_cl (apG l Y) 137 0) 138 0) 139 0) 140 0) 141 0) 142 0) 143 0) 144 0) 127 14 m1) = apG ((4, 127, 14, 0)::(1, 127, 8, 144)::(0, 144, 0, 0)::(1, 127, 7, 143)::(0, 143, 0, 0)::(1, 127, 6, 142)::(0, 142, 0, 0)::(1, 127, 5, 141)::(0, 141, 0, 0)::(1, 127, 4, 140)::(0, 140, 0, 0)::(1, 127, 3, 139)::(0, 139, 0, 0)::(1, 127, 2, 138)::(0, 138, 0, 0)::(1, 127, 1, 137)::(0, 137, 0, 0)::(1, 127, 0, 128)::l) Y from fun _ _ => rfl]
  rw [show ∀ (l : List ce) (Y : sm_L), (sm_cl (sm_cl (sm_cl (sm_cl (sm_cl (sm_cl (sm_cl (sm_cl (apL l Y) 137 0) 138 0) 139 0) 140 0) 141 0) 142 0) 143 0) 144 0) = apL ((4, 127, 14, 0)::(1, 127, 8, 144)::(0, 144, 0, 0)::(1, 127, 7, 143)::(0, 143, 0, 0)::(1, 127, 6, 142)::(0, 142, 0, 0)::(1, 127, 5, 141)::(0, 141, 0, 0)::(1, 127, 4, 140)::(0, 140, 0, 0)::(1, 127, 3, 139)::(0, 139, 0, 0)::(1, 127, 2, 138)::(0, 138, 0, 0)::(1, 127, 1, 137)::(0, 137, 0, 0)::(1, 127, 0, 128)::l) Y from fun _ _ => rfl]
  rw [show ((4, 127, 14, 0)::(1, 127, 8, 144)::(0, 144, 0, 0)::(1, 127, 7, 143)::(0, 143, 0, 0)::(1, 127, 6, 142)::(0, 142, 0, 0)::(1, 127, 5, 141)::(0, 141, 0, 0)::(1, 127, 4, 140)::(0, 140, 0, 0)::(1, 127, 3, 139)::(0, 139, 0, 0)::(1, 127, 2, 138)::(0, 138, 0, 0)::(1, 127, 1, 137)::(0, 137, 0, 0)::(1, 127, 0, 128)::(s_519_128_0 ++ s_521_127_0) : List ce) = s_521_127_1 from rfl]
  rfl
def s_526_145_0 : List ce := (1, 145, 3, 149)::(0, 149, 0, 0)::(1, 145, 2, 148)::(0, 148, 0, 0)::(1, 145, 1, 147)::(0, 147, 0, 0)::(1, 145, 0, 146)::(0, 146, 0, 0)::[]
theorem c_526_145 {d x : Nat} {R : sm_R} {G : sm_G} {L : sm_L} : sm_cw (d + 1) 526 [.ref 145] (145, R, x, G, L) = cOk 149 s_526_145_0 R x G L := by
  refine (cw_eq rfl rfl).trans (hW_eq.trans ?_)
  exact (show sm_blk _ _ _ _ _ _ _ _ _ _ _ _ _ _ = cOk 149 s_526_145_0 R x G L from rfl)
def s_516_150_0 : List ce := (1, 150, 1, 152)::(0, 152, 0, 0)::(1, 150, 0, 151)::(0, 151, 0, 0)::[]
theorem c_516_150 {d x : Nat} {R : sm_R} {G : sm_G} {L : sm_L} : sm_cw (d + 1) 516 [.ref 150] (150, R, x, G, L) = cOk 152 s_516_150_0 R x G L := by
  refine (cw_eq rfl rfl).trans (hW_eq.trans ?_)
  exact (show sm_blk _ _ _ _ _ _ _ _ _ _ _ _ _ _ = cOk 152 s_516_150_0 R x G L from rfl)
def s_516_153_0 : List ce := (1, 153, 1, 155)::(0, 155, 0, 0)::(1, 153, 0, 154)::(0, 154, 0, 0)::[]
theorem c_516_153 {d x : Nat} {R : sm_R} {G : sm_G} {L : sm_L} : sm_cw (d + 1) 516 [.ref 153] (153, R, x, G, L) = cOk 155 s_516_153_0 R x G L := by
  refine (cw_eq rfl rfl).trans (hW_eq.trans ?_)
  exact (show sm_blk _ _ _ _ _ _ _ _ _ _ _ _ _ _ = cOk 155 s_516_153_0 R x G L from rfl)
def s_512_1_0 : List ce := (0, 2, 0, 0)::[]
def s_512_1_1 : List ce := (1, 1, 2, 5)::(0, 5, 0, 0)::(1, 1, 1, 4)::(0, 4, 0, 0)::(1, 1, 0, 2)::(s_522_2_0 ++ s_512_1_0)
def s_512_1_2 : List ce := (0, 6, 0, 0)::s_512_1_1
def s_512_1_3 : List ce := (1, 5, 0, 6)::(s_526_6_0 ++ s_512_1_2)
def s_512_1_4 : List ce := (0, 11, 0, 0)::s_512_1_3
def s_512_1_5 : List ce := (1, 5, 1, 11)::(s_526_11_0 ++ s_512_1_4)
def s_512_1_6 : List ce := (0, 16, 0, 0)::s_512_1_5
def s_512_1_7 : List ce := (1, 5, 2, 16)::(s_526_16_0 ++ s_512_1_6)
def s_512_1_8 : List ce := (0, 21, 0, 0)::s_512_1_7
def s_512_1_9 : List ce := (1, 5, 3, 21)::(s_526_21_0 ++ s_512_1_8)
def s_512_1_10 : List ce := (1, 1, 3, 26)::(0, 26, 0, 0)::s_512_1_9
def s_512_1_11 : List ce := (0, 27, 0, 0)::s_512_1_10
def s_512_1_12 : List ce := (1, 26, 0, 27)::(s_519_27_0 ++ s_512_1_11)
def s_512_1_13 : List ce := (0, 36, 0, 0)::s_512_1_12
def s_512_1_14 : List ce := (1, 26, 1, 36)::(s_519_36_0 ++ s_512_1_13)
def s_512_1_15 : List ce := (0, 45, 0, 0)::s_512_1_14
def s_512_1_16 : List ce := (1, 26, 2, 45)::(s_519_45_0 ++ s_512_1_15)
def s_512_1_17 : List ce := (0, 54, 0, 0)::s_512_1_16
def s_512_1_18 : List ce := (0, 61, 0, 0)::(1, 1, 4, 54)::(s_517_54_0 ++ s_512_1_17)
def s_512_1_19 : List ce := (0, 63, 0, 0)::(1, 1, 5, 61)::(s_525_61_0 ++ s_512_1_18)
def s_512_1_20 : List ce := (0, 84, 0, 0)::(1, 1, 6, 63)::(s_518_63_13 ++ s_512_1_19)
def s_512_1_21 : List ce := (0, 105, 0, 0)::(1, 1, 7, 84)::(s_518_84_13 ++ s_512_1_20)
def s_512_1_22 : List ce := (0, 108, 0, 0)::(1, 1, 8, 105)::(s_520_105_0 ++ s_512_1_21)
def s_512_1_23 : List ce := (0, 109, 0, 0)::(1, 1, 9, 108)::(s_524_108_0 ++ s_512_1_22)
def s_512_1_24 : List ce := (0, 127, 0, 0)::(1, 1, 10, 109)::(s_521_109_1 ++ s_512_1_23)
def s_512_1_25 : List ce := (0, 145, 0, 0)::(1, 1, 11, 127)::(s_521_127_1 ++ s_512_1_24)
def s_512_1_26 : List ce := (0, 150, 0, 0)::(1, 1, 12, 145)::(s_526_145_0 ++ s_512_1_25)
def s_512_1_27 : List ce := (0, 153, 0, 0)::(1, 1, 13, 150)::(s_516_150_0 ++ s_512_1_26)
def s_512_1_28 : List ce := (3, 1, 18, 0)::(3, 1, 17, 0)::(4, 1, 16, 0)::(1, 1, 14, 153)::(s_516_153_0 ++ s_512_1_27)
theorem c_512_1 {d x : Nat} {R : sm_R} {G : sm_G} {L : sm_L} : sm_cw (d + 3) 512 [.ref 1] (1, R, x, G, L) = cOk 155 s_512_1_28 R x G L := by
  refine (cw_eq rfl rfl).trans (hW_eq.trans ?_)
  refine (show sm_blk _ _ _ _ _ _ _ _ _ _ _ _ _ _ = sm_bV (sm_cw (d + 2) 522 [.ref 2] (2, (apR s_512_1_0 R), x, (apG s_512_1_0 G), (apL s_512_1_0 L))) (fun o S => sm_ev _ _ _ _ _ _ _ _ _ _ (o.toList ++ [.ref 2, .ref 1]) S.fst S.snd.fst S.snd.snd.fst S.snd.snd.snd.fst S.snd.snd.snd.snd) _ from rfl).trans ?_
  rw [c_522_2, cOk_app, bV_ok]
  show sm_ev _ _ _ _ _ _ _ _ _ _ [.ref 2, .ref 1] 3 (apR (s_522_2_0 ++ s_512_1_0) R) x (apG (s_522_2_0 ++ s_512_1_0) G) (apL (s_522_2_0 ++ s_512_1_0) L) = _
  generalize hR : apR (s_522_2_0 ++ s_512_1_0) R = R1
  generalize hG : apG (s_522_2_0 ++ s_512_1_0) G = G1
  generalize hL : apL (s_522_2_0 ++ s_512_1_0) L = L1
  refine (show sm_ev _ _ _ _ _ _ _ _ _ _ [.ref 2, .ref 1] 3 (R1) x G1 L1 = hW (d + 2) 512 32 [.ref 1, .int (i3 0)] 5 (sm_up (sm_cl (sm_up (sm_cl (sm_up (R1) 1 0 2) 4 0) 1 1 4) 5 0) 1 2 5) x (sm_cl (sm_cl (G1) 4 0) 5 0) (sm_cl (sm_cl (L1) 4 0) 5 0) from rfl).trans ?_
  subst hR hG hL
  rw [show ∀ (l : List ce) (Y : sm_R), (sm_up (sm_cl (sm_up (sm_cl (sm_up (apR l Y) 1 0 2) 4 0) 1 1 4) 5 0) 1 2 5) = apR ((1, 1, 2, 5)::(0, 5, 0, 0)::(1, 1, 1, 4)::(0, 4, 0, 0)::(1, 1, 0, 2)::l) Y from fun _ _ => rfl]
  rw [show ∀ (l : List ce) (Y : sm_G), (sm_cl (sm_cl (apG l Y) 4 0) 5 0) = apG ((1, 1, 2, 5)::(0, 5, 0, 0)::(1, 1, 1, 4)::(0, 4, 0, 0)::(1, 1, 0, 2)::l) Y from fun _ _ => rfl]
  rw [show ∀ (l : List ce) (Y : sm_L), (sm_cl (sm_cl (apL l Y) 4 0) 5 0) = apL ((1, 1, 2, 5)::(0, 5, 0, 0)::(1, 1, 1, 4)::(0, 4, 0, 0)::(1, 1, 0, 2)::l) Y from fun _ _ => rfl]
  rw [show ((1, 1, 2, 5)::(0, 5, 0, 0)::(1, 1, 1, 4)::(0, 4, 0, 0)::(1, 1, 0, 2)::(s_522_2_0 ++ s_512_1_0) : List ce) = s_512_1_1 from rfl]
  refine hW_eq.trans ?_
  generalize hR : apR s_512_1_1 R = R1
  generalize hG : apG s_512_1_1 G = G1
  generalize hL : apL s_512_1_1 L = L1
  have u : R1 = sm_up R1 1 2 5 := upi (by rw [← hR]; exact lkR_e _ _ _ _ (by decide +kernel))
  rw [u]
  refine (show sm_blk _ _ _ _ _ _ _ _ _ 5 (sm_up R1 1 2 5) _ G1 L1 = sm_bV (sm_cw (d + 2) 526 [.ref 6] (6, (sm_cl (sm_up R1 1 2 5) 6 0), x, (sm_cl (G1) 6 0), (sm_cl (L1) 6 0))) (fun o S => sm_ev _ _ _ _ _ _ _ _ _ _ (o.toList ++ [.ref 6, .int (i3 0), .ref 5]) S.fst S.snd.fst S.snd.snd.fst S.snd.snd.snd.fst S.snd.snd.snd.snd) _ from rfl).trans ?_
  rw [← u]
  clear u
  subst hR hG hL
  rw [show ∀ (l : List ce) (Y : sm_R), (sm_cl (apR l Y) 6 0) = apR ((0, 6, 0, 0)::l) Y from fun _ _ => rfl]
  rw [show ∀ (l : List ce) (Y : sm_G), (sm_cl (apG l Y) 6 0) = apG ((0, 6, 0, 0)::l) Y from fun _ _ => rfl]
  rw [show ∀ (l : List ce) (Y : sm_L), (sm_cl (apL l Y) 6 0) = apL ((0, 6, 0, 0)::l) Y from fun _ _ => rfl]
  rw [show ((0, 6, 0, 0)::s_512_1_1 : List ce) = s_512_1_2 from rfl]
  rw [c_526_6, cOk_app, bV_ok]
  show sm_ev _ _ _ _ _ _ _ _ _ _ [.ref 6, .int (i3 0), .ref 5] 10 (apR (s_526_6_0 ++ s_512_1_2) R) x (apG (s_526_6_0 ++ s_512_1_2) G) (apL (s_526_6_0 ++ s_512_1_2) L) = _
  generalize hR : apR (s_526_6_0 ++ s_512_1_2) R = R1
  generalize hG : apG (s_526_6_0 ++ s_512_1_2) G = G1
  generalize hL : apL (s_526_6_0 ++ s_512_1_2) L = L1
  refine (show sm_ev _ _ _ _ _ _ _ _ _ _ [.ref 6, .int (i3 0), .ref 5] 10 (R1) x G1 L1 = hW (d + 2) 512 32 [.ref 1, .int (i3 1)] 10 (sm_up (R1) 5 0 6) x (G1) (L1) from rfl).trans ?_
  subst hR hG hL
  rw [show ∀ (l : List ce) (Y : sm_R), (sm_up (apR l Y) 5 0 6) = apR ((1, 5, 0, 6)::l) Y from fun _ _ => rfl]
  rw [show ∀ (l : List ce) (Y : sm_G), (apG l Y) = apG ((1, 5, 0, 6)::l) Y from fun _ _ => rfl]
  rw [show ∀ (l : List ce) (Y : sm_L), (apL l Y) = apL ((1, 5, 0, 6)::l) Y from fun _ _ => rfl]
  rw [show ((1, 5, 0, 6)::(s_526_6_0 ++ s_512_1_2) : List ce) = s_512_1_3 from rfl]
  refine hW_eq.trans ?_
  generalize hR : apR s_512_1_3 R = R1
  generalize hG : apG s_512_1_3 G = G1
  generalize hL : apL s_512_1_3 L = L1
  have u : R1 = sm_up R1 1 2 5 := upi (by rw [← hR]; exact lkR_e _ _ _ _ (by decide +kernel))
  rw [u]
  refine (show sm_blk _ _ _ _ _ _ _ _ _ 10 (sm_up R1 1 2 5) _ G1 L1 = sm_bV (sm_cw (d + 2) 526 [.ref 11] (11, (sm_cl (sm_up R1 1 2 5) 11 0), x, (sm_cl (G1) 11 0), (sm_cl (L1) 11 0))) (fun o S => sm_ev _ _ _ _ _ _ _ _ _ _ (o.toList ++ [.ref 11, .int (i3 1), .ref 5]) S.fst S.snd.fst S.snd.snd.fst S.snd.snd.snd.fst S.snd.snd.snd.snd) _ from rfl).trans ?_
  rw [← u]
  clear u
  subst hR hG hL
  rw [show ∀ (l : List ce) (Y : sm_R), (sm_cl (apR l Y) 11 0) = apR ((0, 11, 0, 0)::l) Y from fun _ _ => rfl]
  rw [show ∀ (l : List ce) (Y : sm_G), (sm_cl (apG l Y) 11 0) = apG ((0, 11, 0, 0)::l) Y from fun _ _ => rfl]
  rw [show ∀ (l : List ce) (Y : sm_L), (sm_cl (apL l Y) 11 0) = apL ((0, 11, 0, 0)::l) Y from fun _ _ => rfl]
  rw [show ((0, 11, 0, 0)::s_512_1_3 : List ce) = s_512_1_4 from rfl]
  rw [c_526_11, cOk_app, bV_ok]
  show sm_ev _ _ _ _ _ _ _ _ _ _ [.ref 11, .int (i3 1), .ref 5] 15 (apR (s_526_11_0 ++ s_512_1_4) R) x (apG (s_526_11_0 ++ s_512_1_4) G) (apL (s_526_11_0 ++ s_512_1_4) L) = _
  generalize hR : apR (s_526_11_0 ++ s_512_1_4) R = R1
  generalize hG : apG (s_526_11_0 ++ s_512_1_4) G = G1
  generalize hL : apL (s_526_11_0 ++ s_512_1_4) L = L1
  refine (show sm_ev _ _ _ _ _ _ _ _ _ _ [.ref 11, .int (i3 1), .ref 5] 15 (R1) x G1 L1 = hW (d + 2) 512 32 [.ref 1, .int (i3 2)] 15 (sm_up (R1) 5 1 11) x (G1) (L1) from rfl).trans ?_
  subst hR hG hL
  rw [show ∀ (l : List ce) (Y : sm_R), (sm_up (apR l Y) 5 1 11) = apR ((1, 5, 1, 11)::l) Y from fun _ _ => rfl]
  rw [show ∀ (l : List ce) (Y : sm_G), (apG l Y) = apG ((1, 5, 1, 11)::l) Y from fun _ _ => rfl]
  rw [show ∀ (l : List ce) (Y : sm_L), (apL l Y) = apL ((1, 5, 1, 11)::l) Y from fun _ _ => rfl]
  rw [show ((1, 5, 1, 11)::(s_526_11_0 ++ s_512_1_4) : List ce) = s_512_1_5 from rfl]
  refine hW_eq.trans ?_
  generalize hR : apR s_512_1_5 R = R1
  generalize hG : apG s_512_1_5 G = G1
  generalize hL : apL s_512_1_5 L = L1
  have u : R1 = sm_up R1 1 2 5 := upi (by rw [← hR]; exact lkR_e _ _ _ _ (by decide +kernel))
  rw [u]
  refine (show sm_blk _ _ _ _ _ _ _ _ _ 15 (sm_up R1 1 2 5) _ G1 L1 = sm_bV (sm_cw (d + 2) 526 [.ref 16] (16, (sm_cl (sm_up R1 1 2 5) 16 0), x, (sm_cl (G1) 16 0), (sm_cl (L1) 16 0))) (fun o S => sm_ev _ _ _ _ _ _ _ _ _ _ (o.toList ++ [.ref 16, .int (i3 2), .ref 5]) S.fst S.snd.fst S.snd.snd.fst S.snd.snd.snd.fst S.snd.snd.snd.snd) _ from rfl).trans ?_
  rw [← u]
  clear u
  subst hR hG hL
  rw [show ∀ (l : List ce) (Y : sm_R), (sm_cl (apR l Y) 16 0) = apR ((0, 16, 0, 0)::l) Y from fun _ _ => rfl]
  rw [show ∀ (l : List ce) (Y : sm_G), (sm_cl (apG l Y) 16 0) = apG ((0, 16, 0, 0)::l) Y from fun _ _ => rfl]
  rw [show ∀ (l : List ce) (Y : sm_L), (sm_cl (apL l Y) 16 0) = apL ((0, 16, 0, 0)::l) Y from fun _ _ => rfl]
  rw [show ((0, 16, 0, 0)::s_512_1_5 : List ce) = s_512_1_6 from rfl]
  rw [c_526_16, cOk_app, bV_ok]
  show sm_ev _ _ _ _ _ _ _ _ _ _ [.ref 16, .int (i3 2), .ref 5] 20 (apR (s_526_16_0 ++ s_512_1_6) R) x (apG (s_526_16_0 ++ s_512_1_6) G) (apL (s_526_16_0 ++ s_512_1_6) L) = _
  generalize hR : apR (s_526_16_0 ++ s_512_1_6) R = R1
  generalize hG : apG (s_526_16_0 ++ s_512_1_6) G = G1
  generalize hL : apL (s_526_16_0 ++ s_512_1_6) L = L1
  refine (show sm_ev _ _ _ _ _ _ _ _ _ _ [.ref 16, .int (i3 2), .ref 5] 20 (R1) x G1 L1 = hW (d + 2) 512 32 [.ref 1, .int (i3 3)] 20 (sm_up (R1) 5 2 16) x (G1) (L1) from rfl).trans ?_
  subst hR hG hL
  rw [show ∀ (l : List ce) (Y : sm_R), (sm_up (apR l Y) 5 2 16) = apR ((1, 5, 2, 16)::l) Y from fun _ _ => rfl]
  rw [show ∀ (l : List ce) (Y : sm_G), (apG l Y) = apG ((1, 5, 2, 16)::l) Y from fun _ _ => rfl]
  rw [show ∀ (l : List ce) (Y : sm_L), (apL l Y) = apL ((1, 5, 2, 16)::l) Y from fun _ _ => rfl]
  rw [show ((1, 5, 2, 16)::(s_526_16_0 ++ s_512_1_6) : List ce) = s_512_1_7 from rfl]
  refine hW_eq.trans ?_
  generalize hR : apR s_512_1_7 R = R1
  generalize hG : apG s_512_1_7 G = G1
  generalize hL : apL s_512_1_7 L = L1
  have u : R1 = sm_up R1 1 2 5 := upi (by rw [← hR]; exact lkR_e _ _ _ _ (by decide +kernel))
  rw [u]
  refine (show sm_blk _ _ _ _ _ _ _ _ _ 20 (sm_up R1 1 2 5) _ G1 L1 = sm_bV (sm_cw (d + 2) 526 [.ref 21] (21, (sm_cl (sm_up R1 1 2 5) 21 0), x, (sm_cl (G1) 21 0), (sm_cl (L1) 21 0))) (fun o S => sm_ev _ _ _ _ _ _ _ _ _ _ (o.toList ++ [.ref 21, .int (i3 3), .ref 5]) S.fst S.snd.fst S.snd.snd.fst S.snd.snd.snd.fst S.snd.snd.snd.snd) _ from rfl).trans ?_
  rw [← u]
  clear u
  subst hR hG hL
  rw [show ∀ (l : List ce) (Y : sm_R), (sm_cl (apR l Y) 21 0) = apR ((0, 21, 0, 0)::l) Y from fun _ _ => rfl]
  rw [show ∀ (l : List ce) (Y : sm_G), (sm_cl (apG l Y) 21 0) = apG ((0, 21, 0, 0)::l) Y from fun _ _ => rfl]
  rw [show ∀ (l : List ce) (Y : sm_L), (sm_cl (apL l Y) 21 0) = apL ((0, 21, 0, 0)::l) Y from fun _ _ => rfl]
  rw [show ((0, 21, 0, 0)::s_512_1_7 : List ce) = s_512_1_8 from rfl]
  rw [c_526_21, cOk_app, bV_ok]
  show sm_ev _ _ _ _ _ _ _ _ _ _ [.ref 21, .int (i3 3), .ref 5] 25 (apR (s_526_21_0 ++ s_512_1_8) R) x (apG (s_526_21_0 ++ s_512_1_8) G) (apL (s_526_21_0 ++ s_512_1_8) L) = _
  generalize hR : apR (s_526_21_0 ++ s_512_1_8) R = R1
  generalize hG : apG (s_526_21_0 ++ s_512_1_8) G = G1
  generalize hL : apL (s_526_21_0 ++ s_512_1_8) L = L1
  refine (show sm_ev _ _ _ _ _ _ _ _ _ _ [.ref 21, .int (i3 3), .ref 5] 25 (R1) x G1 L1 = hW (d + 2) 512 32 [.ref 1, .int (i3 4)] 25 (sm_up (R1) 5 3 21) x (G1) (L1) from rfl).trans ?_
  subst hR hG hL
  rw [show ∀ (l : List ce) (Y : sm_R), (sm_up (apR l Y) 5 3 21) = apR ((1, 5, 3, 21)::l) Y from fun _ _ => rfl]
  rw [show ∀ (l : List ce) (Y : sm_G), (apG l Y) = apG ((1, 5, 3, 21)::l) Y from fun _ _ => rfl]
  rw [show ∀ (l : List ce) (Y : sm_L), (apL l Y) = apL ((1, 5, 3, 21)::l) Y from fun _ _ => rfl]
  rw [show ((1, 5, 3, 21)::(s_526_21_0 ++ s_512_1_8) : List ce) = s_512_1_9 from rfl]
  refine hW_eq.trans ?_
  generalize hR : apR s_512_1_9 R = R1
  generalize hG : apG s_512_1_9 G = G1
  generalize hL : apL s_512_1_9 L = L1
  refine (show sm_blk _ _ _ _ _ _ _ _ _ 25 (R1) _ G1 L1 = hW (d + 2) 512 66 [.ref 1, .int (i3 0)] 26 (sm_up (sm_cl (R1) 26 0) 1 3 26) x (sm_cl (G1) 26 0) (sm_cl (L1) 26 0) from rfl).trans ?_
  subst hR hG hL
  rw [show ∀ (l : List ce) (Y : sm_R), (sm_up (sm_cl (apR l Y) 26 0) 1 3 26) = apR ((1, 1, 3, 26)::(0, 26, 0, 0)::l) Y from fun _ _ => rfl]
  rw [show ∀ (l : List ce) (Y : sm_G), (sm_cl (apG l Y) 26 0) = apG ((1, 1, 3, 26)::(0, 26, 0, 0)::l) Y from fun _ _ => rfl]
  rw [show ∀ (l : List ce) (Y : sm_L), (sm_cl (apL l Y) 26 0) = apL ((1, 1, 3, 26)::(0, 26, 0, 0)::l) Y from fun _ _ => rfl]
  rw [show ((1, 1, 3, 26)::(0, 26, 0, 0)::s_512_1_9 : List ce) = s_512_1_10 from rfl]
  refine hW_eq.trans ?_
  generalize hR : apR s_512_1_10 R = R1
  generalize hG : apG s_512_1_10 G = G1
  generalize hL : apL s_512_1_10 L = L1
  have u : R1 = sm_up R1 1 3 26 := upi (by rw [← hR]; exact lkR_e _ _ _ _ (by decide +kernel))
  rw [u]
  refine (show sm_blk _ _ _ _ _ _ _ _ _ 26 (sm_up R1 1 3 26) _ G1 L1 = sm_bV (sm_cw (d + 2) 519 [.ref 27] (27, (sm_cl (sm_up R1 1 3 26) 27 0), x, (sm_cl (G1) 27 0), (sm_cl (L1) 27 0))) (fun o S => sm_ev _ _ _ _ _ _ _ _ _ _ (o.toList ++ [.ref 27, .int (i3 0), .ref 26]) S.fst S.snd.fst S.snd.snd.fst S.snd.snd.snd.fst S.snd.snd.snd.snd) _ from rfl).trans ?_
  rw [← u]
  clear u
  subst hR hG hL
  rw [show ∀ (l : List ce) (Y : sm_R), (sm_cl (apR l Y) 27 0) = apR ((0, 27, 0, 0)::l) Y from fun _ _ => rfl]
  rw [show ∀ (l : List ce) (Y : sm_G), (sm_cl (apG l Y) 27 0) = apG ((0, 27, 0, 0)::l) Y from fun _ _ => rfl]
  rw [show ∀ (l : List ce) (Y : sm_L), (sm_cl (apL l Y) 27 0) = apL ((0, 27, 0, 0)::l) Y from fun _ _ => rfl]
  rw [show ((0, 27, 0, 0)::s_512_1_10 : List ce) = s_512_1_11 from rfl]
  rw [c_519_27, cOk_app, bV_ok]
  show sm_ev _ _ _ _ _ _ _ _ _ _ [.ref 27, .int (i3 0), .ref 26] 35 (apR (s_519_27_0 ++ s_512_1_11) R) x (apG (s_519_27_0 ++ s_512_1_11) G) (apL (s_519_27_0 ++ s_512_1_11) L) = _
  generalize hR : apR (s_519_27_0 ++ s_512_1_11) R = R1
  generalize hG : apG (s_519_27_0 ++ s_512_1_11) G = G1
  generalize hL : apL (s_519_27_0 ++ s_512_1_11) L = L1
  refine (show sm_ev _ _ _ _ _ _ _ _ _ _ [.ref 27, .int (i3 0), .ref 26] 35 (R1) x G1 L1 = hW (d + 2) 512 66 [.ref 1, .int (i3 1)] 35 (sm_up (R1) 26 0 27) x (G1) (L1) from rfl).trans ?_
  subst hR hG hL
  rw [show ∀ (l : List ce) (Y : sm_R), (sm_up (apR l Y) 26 0 27) = apR ((1, 26, 0, 27)::l) Y from fun _ _ => rfl]
  rw [show ∀ (l : List ce) (Y : sm_G), (apG l Y) = apG ((1, 26, 0, 27)::l) Y from fun _ _ => rfl]
  rw [show ∀ (l : List ce) (Y : sm_L), (apL l Y) = apL ((1, 26, 0, 27)::l) Y from fun _ _ => rfl]
  rw [show ((1, 26, 0, 27)::(s_519_27_0 ++ s_512_1_11) : List ce) = s_512_1_12 from rfl]
  refine hW_eq.trans ?_
  generalize hR : apR s_512_1_12 R = R1
  generalize hG : apG s_512_1_12 G = G1
  generalize hL : apL s_512_1_12 L = L1
  have u : R1 = sm_up R1 1 3 26 := upi (by rw [← hR]; exact lkR_e _ _ _ _ (by decide +kernel))
  rw [u]
  refine (show sm_blk _ _ _ _ _ _ _ _ _ 35 (sm_up R1 1 3 26) _ G1 L1 = sm_bV (sm_cw (d + 2) 519 [.ref 36] (36, (sm_cl (sm_up R1 1 3 26) 36 0), x, (sm_cl (G1) 36 0), (sm_cl (L1) 36 0))) (fun o S => sm_ev _ _ _ _ _ _ _ _ _ _ (o.toList ++ [.ref 36, .int (i3 1), .ref 26]) S.fst S.snd.fst S.snd.snd.fst S.snd.snd.snd.fst S.snd.snd.snd.snd) _ from rfl).trans ?_
  rw [← u]
  clear u
  subst hR hG hL
  rw [show ∀ (l : List ce) (Y : sm_R), (sm_cl (apR l Y) 36 0) = apR ((0, 36, 0, 0)::l) Y from fun _ _ => rfl]
  rw [show ∀ (l : List ce) (Y : sm_G), (sm_cl (apG l Y) 36 0) = apG ((0, 36, 0, 0)::l) Y from fun _ _ => rfl]
  rw [show ∀ (l : List ce) (Y : sm_L), (sm_cl (apL l Y) 36 0) = apL ((0, 36, 0, 0)::l) Y from fun _ _ => rfl]
  rw [show ((0, 36, 0, 0)::s_512_1_12 : List ce) = s_512_1_13 from rfl]
  rw [c_519_36, cOk_app, bV_ok]
  show sm_ev _ _ _ _ _ _ _ _ _ _ [.ref 36, .int (i3 1), .ref 26] 44 (apR (s_519_36_0 ++ s_512_1_13) R) x (apG (s_519_36_0 ++ s_512_1_13) G) (apL (s_519_36_0 ++ s_512_1_13) L) = _
  generalize hR : apR (s_519_36_0 ++ s_512_1_13) R = R1
  generalize hG : apG (s_519_36_0 ++ s_512_1_13) G = G1
  generalize hL : apL (s_519_36_0 ++ s_512_1_13) L = L1
  refine (show sm_ev _ _ _ _ _ _ _ _ _ _ [.ref 36, .int (i3 1), .ref 26] 44 (R1) x G1 L1 = hW (d + 2) 512 66 [.ref 1, .int (i3 2)] 44 (sm_up (R1) 26 1 36) x (G1) (L1) from rfl).trans ?_
  subst hR hG hL
  rw [show ∀ (l : List ce) (Y : sm_R), (sm_up (apR l Y) 26 1 36) = apR ((1, 26, 1, 36)::l) Y from fun _ _ => rfl]
  rw [show ∀ (l : List ce) (Y : sm_G), (apG l Y) = apG ((1, 26, 1, 36)::l) Y from fun _ _ => rfl]
  rw [show ∀ (l : List ce) (Y : sm_L), (apL l Y) = apL ((1, 26, 1, 36)::l) Y from fun _ _ => rfl]
  rw [show ((1, 26, 1, 36)::(s_519_36_0 ++ s_512_1_13) : List ce) = s_512_1_14 from rfl]
  refine hW_eq.trans ?_
  generalize hR : apR s_512_1_14 R = R1
  generalize hG : apG s_512_1_14 G = G1
  generalize hL : apL s_512_1_14 L = L1
  have u : R1 = sm_up R1 1 3 26 := upi (by rw [← hR]; exact lkR_e _ _ _ _ (by decide +kernel))
  rw [u]
  refine (show sm_blk _ _ _ _ _ _ _ _ _ 44 (sm_up R1 1 3 26) _ G1 L1 = sm_bV (sm_cw (d + 2) 519 [.ref 45] (45, (sm_cl (sm_up R1 1 3 26) 45 0), x, (sm_cl (G1) 45 0), (sm_cl (L1) 45 0))) (fun o S => sm_ev _ _ _ _ _ _ _ _ _ _ (o.toList ++ [.ref 45, .int (i3 2), .ref 26]) S.fst S.snd.fst S.snd.snd.fst S.snd.snd.snd.fst S.snd.snd.snd.snd) _ from rfl).trans ?_
  rw [← u]
  clear u
  subst hR hG hL
  rw [show ∀ (l : List ce) (Y : sm_R), (sm_cl (apR l Y) 45 0) = apR ((0, 45, 0, 0)::l) Y from fun _ _ => rfl]
  rw [show ∀ (l : List ce) (Y : sm_G), (sm_cl (apG l Y) 45 0) = apG ((0, 45, 0, 0)::l) Y from fun _ _ => rfl]
  rw [show ∀ (l : List ce) (Y : sm_L), (sm_cl (apL l Y) 45 0) = apL ((0, 45, 0, 0)::l) Y from fun _ _ => rfl]
  rw [show ((0, 45, 0, 0)::s_512_1_14 : List ce) = s_512_1_15 from rfl]
  rw [c_519_45, cOk_app, bV_ok]
  show sm_ev _ _ _ _ _ _ _ _ _ _ [.ref 45, .int (i3 2), .ref 26] 53 (apR (s_519_45_0 ++ s_512_1_15) R) x (apG (s_519_45_0 ++ s_512_1_15) G) (apL (s_519_45_0 ++ s_512_1_15) L) = _
  generalize hR : apR (s_519_45_0 ++ s_512_1_15) R = R1
  generalize hG : apG (s_519_45_0 ++ s_512_1_15) G = G1
  generalize hL : apL (s_519_45_0 ++ s_512_1_15) L = L1
  refine (show sm_ev _ _ _ _ _ _ _ _ _ _ [.ref 45, .int (i3 2), .ref 26] 53 (R1) x G1 L1 = hW (d + 2) 512 66 [.ref 1, .int (i3 3)] 53 (sm_up (R1) 26 2 45) x (G1) (L1) from rfl).trans ?_
  subst hR hG hL
  rw [show ∀ (l : List ce) (Y : sm_R), (sm_up (apR l Y) 26 2 45) = apR ((1, 26, 2, 45)::l) Y from fun _ _ => rfl]
  rw [show ∀ (l : List ce) (Y : sm_G), (apG l Y) = apG ((1, 26, 2, 45)::l) Y from fun _ _ => rfl]
  rw [show ∀ (l : List ce) (Y : sm_L), (apL l Y) = apL ((1, 26, 2, 45)::l) Y from fun _ _ => rfl]
  rw [show ((1, 26, 2, 45)::(s_519_45_0 ++ s_512_1_15) : List ce) = s_512_1_16 from rfl]
  refine hW_eq.trans ?_
  generalize hR : apR s_512_1_16 R = R1
  generalize hG : apG s_512_1_16 G = G1
  generalize hL : apL s_512_1_16 L = L1
  refine (show sm_blk _ _ _ _ _ _ _ _ _ 53 (R1) _ G1 L1 = sm_bV (sm_cw (d + 2) 517 [.ref 54] (54, (sm_cl (R1) 54 0), x, (sm_cl (G1) 54 0), (sm_cl (L1) 54 0))) (fun o S => sm_ev _ _ _ _ _ _ _ _ _ _ (o.toList ++ [.ref 54, .ref 1]) S.fst S.snd.fst S.snd.snd.fst S.snd.snd.snd.fst S.snd.snd.snd.snd) _ from rfl).trans ?_
  subst hR hG hL
  rw [show ∀ (l : List ce) (Y : sm_R), (sm_cl (apR l Y) 54 0) = apR ((0, 54, 0, 0)::l) Y from fun _ _ => rfl]
  rw [show ∀ (l : List ce) (Y : sm_G), (sm_cl (apG l Y) 54 0) = apG ((0, 54, 0, 0)::l) Y from fun _ _ => rfl]
  rw [show ∀ (l : List ce) (Y : sm_L), (sm_cl (apL l Y) 54 0) = apL ((0, 54, 0, 0)::l) Y from fun _ _ => rfl]
  rw [show ((0, 54, 0, 0)::s_512_1_16 : List ce) = s_512_1_17 from rfl]
  rw [c_517_54, cOk_app, bV_ok]
  show sm_ev _ _ _ _ _ _ _ _ _ _ [.ref 54, .ref 1] 60 (apR (s_517_54_0 ++ s_512_1_17) R) x (apG (s_517_54_0 ++ s_512_1_17) G) (apL (s_517_54_0 ++ s_512_1_17) L) = _
  generalize hR : apR (s_517_54_0 ++ s_512_1_17) R = R1
  generalize hG : apG (s_517_54_0 ++ s_512_1_17) G = G1
  generalize hL : apL (s_517_54_0 ++ s_512_1_17) L = L1
  refine (show sm_ev _ _ _ _ _ _ _ _ _ _ [.ref 54, .ref 1] 60 (R1) x G1 L1 = sm_bV (sm_cw (d + 2) 525 [.ref 61] (61, (sm_cl (sm_up (R1) 1 4 54) 61 0), x, (sm_cl (G1) 61 0), (sm_cl (L1) 61 0))) (fun o S => sm_ev _ _ _ _ _ _ _ _ _ _ (o.toList ++ [.ref 61, .ref 1]) S.fst S.snd.fst S.snd.snd.fst S.snd.snd.snd.fst S.snd.snd.snd.snd) _ from rfl).trans ?_
  subst hR hG hL
  rw [show ∀ (l : List ce) (Y : sm_R), (sm_cl (sm_up (apR l Y) 1 4 54) 61 0) = apR ((0, 61, 0, 0)::(1, 1, 4, 54)::l) Y from fun _ _ => rfl]
  rw [show ∀ (l : List ce) (Y : sm_G), (sm_cl (apG l Y) 61 0) = apG ((0, 61, 0, 0)::(1, 1, 4, 54)::l) Y from fun _ _ => rfl]
  rw [show ∀ (l : List ce) (Y : sm_L), (sm_cl (apL l Y) 61 0) = apL ((0, 61, 0, 0)::(1, 1, 4, 54)::l) Y from fun _ _ => rfl]
  rw [show ((0, 61, 0, 0)::(1, 1, 4, 54)::(s_517_54_0 ++ s_512_1_17) : List ce) = s_512_1_18 from rfl]
  rw [c_525_61, cOk_app, bV_ok]
  show sm_ev _ _ _ _ _ _ _ _ _ _ [.ref 61, .ref 1] 62 (apR (s_525_61_0 ++ s_512_1_18) R) x (apG (s_525_61_0 ++ s_512_1_18) G) (apL (s_525_61_0 ++ s_512_1_18) L) = _
  generalize hR : apR (s_525_61_0 ++ s_512_1_18) R = R1
  generalize hG : apG (s_525_61_0 ++ s_512_1_18) G = G1
  generalize hL : apL (s_525_61_0 ++ s_512_1_18) L = L1
  refine (show sm_ev _ _ _ _ _ _ _ _ _ _ [.ref 61, .ref 1] 62 (R1) x G1 L1 = sm_bV (sm_cw (d + 2) 518 [.ref 63] (63, (sm_cl (sm_up (R1) 1 5 61) 63 0), x, (sm_cl (G1) 63 0), (sm_cl (L1) 63 0))) (fun o S => sm_ev _ _ _ _ _ _ _ _ _ _ (o.toList ++ [.ref 63, .ref 1]) S.fst S.snd.fst S.snd.snd.fst S.snd.snd.snd.fst S.snd.snd.snd.snd) _ from rfl).trans ?_
  subst hR hG hL
  rw [show ∀ (l : List ce) (Y : sm_R), (sm_cl (sm_up (apR l Y) 1 5 61) 63 0) = apR ((0, 63, 0, 0)::(1, 1, 5, 61)::l) Y from fun _ _ => rfl]
  rw [show ∀ (l : List ce) (Y : sm_G), (sm_cl (apG l Y) 63 0) = apG ((0, 63, 0, 0)::(1, 1, 5, 61)::l) Y from fun _ _ => rfl]
  rw [show ∀ (l : List ce) (Y : sm_L), (sm_cl (apL l Y) 63 0) = apL ((0, 63, 0, 0)::(1, 1, 5, 61)::l) Y from fun _ _ => rfl]
  rw [show ((0, 63, 0, 0)::(1, 1, 5, 61)::(s_525_61_0 ++ s_512_1_18) : List ce) = s_512_1_19 from rfl]
  rw [c_518_63, cOk_app, bV_ok]
  show sm_ev _ _ _ _ _ _ _ _ _ _ [.ref 63, .ref 1] 83 (apR (s_518_63_13 ++ s_512_1_19) R) x (apG (s_518_63_13 ++ s_512_1_19) G) (apL (s_518_63_13 ++ s_512_1_19) L) = _
  generalize hR : apR (s_518_63_13 ++ s_512_1_19) R = R1
  generalize hG : apG (s_518_63_13 ++ s_512_1_19) G = G1
  generalize hL : apL (s_518_63_13 ++ s_512_1_19) L = L1
  refine (show sm_ev _ _ _ _ _ _ _ _ _ _ [.ref 63, .ref 1] 83 (R1) x G1 L1 = sm_bV (sm_cw (d + 2) 518 [.ref 84] (84, (sm_cl (sm_up (R1) 1 6 63) 84 0), x, (sm_cl (G1) 84 0), (sm_cl (L1) 84 0))) (fun o S => sm_ev _ _ _ _ _ _ _ _ _ _ (o.toList ++ [.ref 84, .ref 1]) S.fst S.snd.fst S.snd.snd.fst S.snd.snd.snd.fst S.snd.snd.snd.snd) _ from rfl).trans ?_
  subst hR hG hL
  rw [show ∀ (l : List ce) (Y : sm_R), (sm_cl (sm_up (apR l Y) 1 6 63) 84 0) = apR ((0, 84, 0, 0)::(1, 1, 6, 63)::l) Y from fun _ _ => rfl]
  rw [show ∀ (l : List ce) (Y : sm_G), (sm_cl (apG l Y) 84 0) = apG ((0, 84, 0, 0)::(1, 1, 6, 63)::l) Y from fun _ _ => rfl]
  rw [show ∀ (l : List ce) (Y : sm_L), (sm_cl (apL l Y) 84 0) = apL ((0, 84, 0, 0)::(1, 1, 6, 63)::l) Y from fun _ _ => rfl]
  rw [show ((0, 84, 0, 0)::(1, 1, 6, 63)::(s_518_63_13 ++ s_512_1_19) : List ce) = s_512_1_20 from rfl]
  rw [c_518_84, cOk_app, bV_ok]
  show sm_ev _ _ _ _ _ _ _ _ _ _ [.ref 84, .ref 1] 104 (apR (s_518_84_13 ++ s_512_1_20) R) x (apG (s_518_84_13 ++ s_512_1_20) G) (apL (s_518_84_13 ++ s_512_1_20) L) = _
  generalize hR : apR (s_518_84_13 ++ s_512_1_20) R = R1
  generalize hG : apG (s_518_84_13 ++ s_512_1_20) G = G1
  generalize hL : apL (s_518_84_13 ++ s_512_1_20) L = L1
  refine (show sm_ev _ _ _ _ _ _ _ _ _ _ [.ref 84, .ref 1] 104 (R1) x G1 L1 = sm_bV (sm_cw (d + 2) 520 [.ref 105] (105, (sm_cl (sm_up (R1) 1 7 84) 105 0), x, (sm_cl (G1) 105 0), (sm_cl (L1) 105 0))) (fun o S => sm_ev _ _ _ _ _ _ _ _ _ _ (o.toList ++ [.ref 105, .ref 1]) S.fst S.snd.fst S.snd.snd.fst S.snd.snd.snd.fst S.snd.snd.snd.snd) _ from rfl).trans ?_
  subst hR hG hL
  rw [show ∀ (l : List ce) (Y : sm_R), (sm_cl (sm_up (apR l Y) 1 7 84) 105 0) = apR ((0, 105, 0, 0)::(1, 1, 7, 84)::l) Y from fun _ _ => rfl]
  rw [show ∀ (l : List ce) (Y : sm_G), (sm_cl (apG l Y) 105 0) = apG ((0, 105, 0, 0)::(1, 1, 7, 84)::l) Y from fun _ _ => rfl]
  rw [show ∀ (l : List ce) (Y : sm_L), (sm_cl (apL l Y) 105 0) = apL ((0, 105, 0, 0)::(1, 1, 7, 84)::l) Y from fun _ _ => rfl]
  rw [show ((0, 105, 0, 0)::(1, 1, 7, 84)::(s_518_84_13 ++ s_512_1_20) : List ce) = s_512_1_21 from rfl]
  rw [c_520_105, cOk_app, bV_ok]
  show sm_ev _ _ _ _ _ _ _ _ _ _ [.ref 105, .ref 1] 107 (apR (s_520_105_0 ++ s_512_1_21) R) x (apG (s_520_105_0 ++ s_512_1_21) G) (apL (s_520_105_0 ++ s_512_1_21) L) = _
  generalize hR : apR (s_520_105_0 ++ s_512_1_21) R = R1
  generalize hG : apG (s_520_105_0 ++ s_512_1_21) G = G1
  generalize hL : apL (s_520_105_0 ++ s_512_1_21) L = L1
  refine (show sm_ev _ _ _ _ _ _ _ _ _ _ [.ref 105, .ref 1] 107 (R1) x G1 L1 = sm_bV (sm_cw (d + 2) 524 [.ref 108] (108, (sm_cl (sm_up (R1) 1 8 105) 108 0), x, (sm_cl (G1) 108 0), (sm_cl (L1) 108 0))) (fun o S => sm_ev _ _ _ _ _ _ _ _ _ _ (o.toList ++ [.ref 108, .ref 1]) S.fst S.snd.fst S.snd.snd.fst S.snd.snd.snd.fst S.snd.snd.snd.snd) _ from rfl).trans ?_
  subst hR hG hL
  rw [show ∀ (l : List ce) (Y : sm_R), (sm_cl (sm_up (apR l Y) 1 8 105) 108 0) = apR ((0, 108, 0, 0)::(1, 1, 8, 105)::l) Y from fun _ _ => rfl]
  rw [show ∀ (l : List ce) (Y : sm_G), (sm_cl (apG l Y) 108 0) = apG ((0, 108, 0, 0)::(1, 1, 8, 105)::l) Y from fun _ _ => rfl]
  rw [show ∀ (l : List ce) (Y : sm_L), (sm_cl (apL l Y) 108 0) = apL ((0, 108, 0, 0)::(1, 1, 8, 105)::l) Y from fun _ _ => rfl]
  rw [show ((0, 108, 0, 0)::(1, 1, 8, 105)::(s_520_105_0 ++ s_512_1_21) : List ce) = s_512_1_22 from rfl]
  rw [c_524_108, cOk_app, bV_ok]
  show sm_ev _ _ _ _ _ _ _ _ _ _ [.ref 108, .ref 1] 108 (apR (s_524_108_0 ++ s_512_1_22) R) x (apG (s_524_108_0 ++ s_512_1_22) G) (apL (s_524_108_0 ++ s_512_1_22) L) = _
  generalize hR : apR (s_524_108_0 ++ s_512_1_22) R = R1
  generalize hG : apG (s_524_108_0 ++ s_512_1_22) G = G1
  generalize hL : apL (s_524_108_0 ++ s_512_1_22) L = L1
  refine (show sm_ev _ _ _ _ _ _ _ _ _ _ [.ref 108, .ref 1] 108 (R1) x G1 L1 = sm_bV (sm_cw (d + 2) 521 [.ref 109] (109, (sm_cl (sm_up (R1) 1 9 108) 109 0), x, (sm_cl (G1) 109 0), (sm_cl (L1) 109 0))) (fun o S => sm_ev _ _ _ _ _ _ _ _ _ _ (o.toList ++ [.ref 109, .ref 1]) S.fst S.snd.fst S.snd.snd.fst S.snd.snd.snd.fst S.snd.snd.snd.snd) _ from rfl).trans ?_
  subst hR hG hL
  rw [show ∀ (l : List ce) (Y : sm_R), (sm_cl (sm_up (apR l Y) 1 9 108) 109 0) = apR ((0, 109, 0, 0)::(1, 1, 9, 108)::l) Y from fun _ _ => rfl]
  rw [show ∀ (l : List ce) (Y : sm_G), (sm_cl (apG l Y) 109 0) = apG ((0, 109, 0, 0)::(1, 1, 9, 108)::l) Y from fun _ _ => rfl]
  rw [show ∀ (l : List ce) (Y : sm_L), (sm_cl (apL l Y) 109 0) = apL ((0, 109, 0, 0)::(1, 1, 9, 108)::l) Y from fun _ _ => rfl]
  rw [show ((0, 109, 0, 0)::(1, 1, 9, 108)::(s_524_108_0 ++ s_512_1_22) : List ce) = s_512_1_23 from rfl]
  rw [c_521_109, cOk_app, bV_ok]
  show sm_ev _ _ _ _ _ _ _ _ _ _ [.ref 109, .ref 1] 126 (apR (s_521_109_1 ++ s_512_1_23) R) x (apG (s_521_109_1 ++ s_512_1_23) G) (apL (s_521_109_1 ++ s_512_1_23) L) = _
  generalize hR : apR (s_521_109_1 ++ s_512_1_23) R = R1
  generalize hG : apG (s_521_109_1 ++ s_512_1_23) G = G1
  generalize hL : apL (s_521_109_1 ++ s_512_1_23) L = L1
  refine (show sm_ev _ _ _ _ _ _ _ _ _ _ [.ref 109, .ref 1] 126 (R1) x G1 L1 = sm_bV (sm_cw (d + 2) 521 [.ref 127] (127, (sm_cl (sm_up (R1) 1 10 109) 127 0), x, (sm_cl (G1) 127 0), (sm_cl (L1) 127 0))) (fun o S => sm_ev _ _ _ _ _ _ _ _ _ _ (o.toList ++ [.ref 127, .ref 1]) S.fst S.snd.fst S.snd.snd.fst S.snd.snd.snd.fst S.snd.snd.snd.snd) _ from rfl).trans ?_
  subst hR hG hL
  rw [show ∀ (l : List ce) (Y : sm_R), (sm_cl (sm_up (apR l Y) 1 10 109) 127 0) = apR ((0, 127, 0, 0)::(1, 1, 10, 109)::l) Y from fun _ _ => rfl]
  rw [show ∀ (l : List ce) (Y : sm_G), (sm_cl (apG l Y) 127 0) = apG ((0, 127, 0, 0)::(1, 1, 10, 109)::l) Y from fun _ _ => rfl]
  rw [show ∀ (l : List ce) (Y : sm_L), (sm_cl (apL l Y) 127 0) = apL ((0, 127, 0, 0)::(1, 1, 10, 109)::l) Y from fun _ _ => rfl]
  rw [show ((0, 127, 0, 0)::(1, 1, 10, 109)::(s_521_109_1 ++ s_512_1_23) : List ce) = s_512_1_24 from rfl]
  rw [c_521_127, cOk_app, bV_ok]
  show sm_ev _ _ _ _ _ _ _ _ _ _ [.ref 127, .ref 1] 144 (apR (s_521_127_1 ++ s_512_1_24) R) x (apG (s_521_127_1 ++ s_512_1_24) G) (apL (s_521_127_1 ++ s_512_1_24) L) = _
  generalize hR : apR (s_521_127_1 ++ s_512_1_24) R = R1
  generalize hG : apG (s_521_127_1 ++ s_512_1_24) G = G1
  generalize hL : apL (s_521_127_1 ++ s_512_1_24) L = L1
  refine (show sm_ev _ _ _ _ _ _ _ _ _ _ [.ref 127, .ref 1] 144 (R1) x G1 L1 = sm_bV (sm_cw (d + 2) 526 [.ref 145] (145, (sm_cl (sm_up (R1) 1 11 127) 145 0), x, (sm_cl (G1) 145 0), (sm_cl (L1) 145 0))) (fun o S => sm_ev _ _ _ _ _ _ _ _ _ _ (o.toList ++ [.ref 145, .ref 1]) S.fst S.snd.fst S.snd.snd.fst S.snd.snd.snd.fst S.snd.snd.snd.snd) _ from rfl).trans ?_
  subst hR hG hL
  rw [show ∀ (l : List ce) (Y : sm_R), (sm_cl (sm_up (apR l Y) 1 11 127) 145 0) = apR ((0, 145, 0, 0)::(1, 1, 11, 127)::l) Y from fun _ _ => rfl]
  rw [show ∀ (l : List ce) (Y : sm_G), (sm_cl (apG l Y) 145 0) = apG ((0, 145, 0, 0)::(1, 1, 11, 127)::l) Y from fun _ _ => rfl]
  rw [show ∀ (l : List ce) (Y : sm_L), (sm_cl (apL l Y) 145 0) = apL ((0, 145, 0, 0)::(1, 1, 11, 127)::l) Y from fun _ _ => rfl]
  rw [show ((0, 145, 0, 0)::(1, 1, 11, 127)::(s_521_127_1 ++ s_512_1_24) : List ce) = s_512_1_25 from rfl]
  rw [c_526_145, cOk_app, bV_ok]
  show sm_ev _ _ _ _ _ _ _ _ _ _ [.ref 145, .ref 1] 149 (apR (s_526_145_0 ++ s_512_1_25) R) x (apG (s_526_145_0 ++ s_512_1_25) G) (apL (s_526_145_0 ++ s_512_1_25) L) = _
  generalize hR : apR (s_526_145_0 ++ s_512_1_25) R = R1
  generalize hG : apG (s_526_145_0 ++ s_512_1_25) G = G1
  generalize hL : apL (s_526_145_0 ++ s_512_1_25) L = L1
  refine (show sm_ev _ _ _ _ _ _ _ _ _ _ [.ref 145, .ref 1] 149 (R1) x G1 L1 = sm_bV (sm_cw (d + 2) 516 [.ref 150] (150, (sm_cl (sm_up (R1) 1 12 145) 150 0), x, (sm_cl (G1) 150 0), (sm_cl (L1) 150 0))) (fun o S => sm_ev _ _ _ _ _ _ _ _ _ _ (o.toList ++ [.ref 150, .ref 1]) S.fst S.snd.fst S.snd.snd.fst S.snd.snd.snd.fst S.snd.snd.snd.snd) _ from rfl).trans ?_
  subst hR hG hL
  rw [show ∀ (l : List ce) (Y : sm_R), (sm_cl (sm_up (apR l Y) 1 12 145) 150 0) = apR ((0, 150, 0, 0)::(1, 1, 12, 145)::l) Y from fun _ _ => rfl]
  rw [show ∀ (l : List ce) (Y : sm_G), (sm_cl (apG l Y) 150 0) = apG ((0, 150, 0, 0)::(1, 1, 12, 145)::l) Y from fun _ _ => rfl]
  rw [show ∀ (l : List ce) (Y : sm_L), (sm_cl (apL l Y) 150 0) = apL ((0, 150, 0, 0)::(1, 1, 12, 145)::l) Y from fun _ _ => rfl]
  rw [show ((0, 150, 0, 0)::(1, 1, 12, 145)::(s_526_145_0 ++ s_512_1_25) : List ce) = s_512_1_26 from rfl]
  rw [c_516_150, cOk_app, bV_ok]
  show sm_ev _ _ _ _ _ _ _ _ _ _ [.ref 150, .ref 1] 152 (apR (s_516_150_0 ++ s_512_1_26) R) x (apG (s_516_150_0 ++ s_512_1_26) G) (apL (s_516_150_0 ++ s_512_1_26) L) = _
  generalize hR : apR (s_516_150_0 ++ s_512_1_26) R = R1
  generalize hG : apG (s_516_150_0 ++ s_512_1_26) G = G1
  generalize hL : apL (s_516_150_0 ++ s_512_1_26) L = L1
  refine (show sm_ev _ _ _ _ _ _ _ _ _ _ [.ref 150, .ref 1] 152 (R1) x G1 L1 = sm_bV (sm_cw (d + 2) 516 [.ref 153] (153, (sm_cl (sm_up (R1) 1 13 150) 153 0), x, (sm_cl (G1) 153 0), (sm_cl (L1) 153 0))) (fun o S => sm_ev _ _ _ _ _ _ _ _ _ _ (o.toList ++ [.ref 153, .ref 1]) S.fst S.snd.fst S.snd.snd.fst S.snd.snd.snd.fst S.snd.snd.snd.snd) _ from rfl).trans ?_
  subst hR hG hL
  rw [show ∀ (l : List ce) (Y : sm_R), (sm_cl (sm_up (apR l Y) 1 13 150) 153 0) = apR ((0, 153, 0, 0)::(1, 1, 13, 150)::l) Y from fun _ _ => rfl]
  rw [show ∀ (l : List ce) (Y : sm_G), (sm_cl (apG l Y) 153 0) = apG ((0, 153, 0, 0)::(1, 1, 13, 150)::l) Y from fun _ _ => rfl]
  rw [show ∀ (l : List ce) (Y : sm_L), (sm_cl (apL l Y) 153 0) = apL ((0, 153, 0, 0)::(1, 1, 13, 150)::l) Y from fun _ _ => rfl]
  rw [show ((0, 153, 0, 0)::(1, 1, 13, 150)::(s_516_150_0 ++ s_512_1_26) : List ce) = s_512_1_27 from rfl]
  rw [c_516_153, cOk_app, bV_ok]
  show sm_ev _ _ _ _ _ _ _ _ _ _ [.ref 153, .ref 1] 155 (apR (s_516_153_0 ++ s_512_1_27) R) x (apG (s_516_153_0 ++ s_512_1_27) G) (apL (s_516_153_0 ++ s_512_1_27) L) = _
  generalize hR : apR (s_516_153_0 ++ s_512_1_27) R = R1
  generalize hG : apG (s_516_153_0 ++ s_512_1_27) G = G1
  generalize hL : apL (s_516_153_0 ++ s_512_1_27) L = L1
  refine (show sm_ev _ _ _ _ _ _ _ _ _ _ [.ref 153, .ref 1] 155 (R1) x G1 L1 = some (.inl none, 155, (sm_up (R1) 1 14 153), x, (sm_up (sm_up (sm_up (G1) 1 16 m1) 1 17 (i3 1)) 1 18 (i3 1)), (L1)) from rfl).trans ?_
  subst hR hG hL
  rw [show ∀ (l : List ce) (Y : sm_R), (sm_up (apR l Y) 1 14 153) = apR ((3, 1, 18, 0)::(3, 1, 17, 0)::(4, 1, 16, 0)::(1, 1, 14, 153)::l) Y from fun _ _ => rfl]
  rw [show ∀ (l : List ce) (Y : sm_G), (sm_up (sm_up (sm_up (apG l Y) 1 16 m1) 1 17 (i3 1)) 1 18 (i3 1)) = apG ((3, 1, 18, 0)::(3, 1, 17, 0)::(4, 1, 16, 0)::(1, 1, 14, 153)::l) Y from fun _ _ => rfl]
  rw [show ∀ (l : List ce) (Y : sm_L), (apL l Y) = apL ((3, 1, 18, 0)::(3, 1, 17, 0)::(4, 1, 16, 0)::(1, 1, 14, 153)::l) Y from fun _ _ => rfl]
  rw [show ((3, 1, 18, 0)::(3, 1, 17, 0)::(4, 1, 16, 0)::(1, 1, 14, 153)::(s_516_153_0 ++ s_512_1_27) : List ce) = s_512_1_28 from rfl]
  rfl
