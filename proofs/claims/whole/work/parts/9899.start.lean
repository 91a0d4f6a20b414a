/-! the start: what stands when all objects are made -/
def V0 : pV := (109, 127, 145, 150, 153, fun i => 6 + 5 * i)
def LA : List ce := s_530_156_0 ++ ((0, 156, 0, 0) :: (s_512_1_28 ++ [(0, 1, 0, 0)]))
def R00 : sm_R := fun _ _ => 0
def rfK (r : Nat) : Bool := Nat.ble (sm_K r) 12 || Nat.ble 24 (sm_K r)
def inR0 (r k : Nat) : Bool := Nat.ble r 342 && (rfK r && Nat.blt k (sm_N r))
/-- each name written is in its place -/
def okE (e : ce) : Bool := bif Nat.beq e.1 1 then inR0 e.2.1 e.2.2.1 else bif Nat.beq e.1 2 then Nat.ble (e.2.1 + 1) 342 && (rfK (e.2.1 + 1) && Nat.ble e.2.2.1 (sm_N (e.2.1 + 1))) else true
theorem beq_t {a b : Nat} (h : Nat.beq a b = true) : a = b := Nat.eq_of_beq_eq_true h
theorem apR_z : ∀ (l : List ce), l.all okE = true → ∀ r k, inR0 r k = false → apR l R00 r k = 0
  | [], _, _, _, _ => rfl
  | (q, a, b, v) :: l, h, r, k, z => by
    rw [List.all_cons, Bool.and_eq_true] at h
    have ih := apR_z l h.2 r k z
    have h1 := h.1
    unfold okE at h1
    unfold apR
    cases q0 : Nat.beq q 0 with
    | true =>
      show sm_cl (apR l R00) a 0 r k = 0
      unfold sm_cl
      cases Nat.beq r a with
      | true => rfl
      | false => exact ih
    | false =>
    cases q1 : Nat.beq q 1 with
    | true =>
      show sm_up (apR l R00) a b v r k = 0
      dsimp only at h1
      rw [q1, cond_true] at h1
      unfold sm_up
      cases q2 : Nat.beq r a with
      | false => rw [Bool.false_and]; exact ih
      | true =>
        cases q3 : Nat.beq k b with
        | false => rw [Bool.and_false]; exact ih
        | true =>
          rw [beq_t q2, beq_t q3, h1] at z
          cases z
    | false =>
    cases q2 : Nat.beq q 2 with
    | true =>
      show sm_mR (apR l R00) a b r k = 0
      dsimp only at h1
      rw [q1, q2, cond_false, cond_true] at h1
      unfold sm_mR
      cases q3 : Nat.beq r (Nat.add a 1) with
      | true =>
        rw [cond_true]
        cases q4 : Nat.blt k b with
        | false => rfl
        | true =>
          exfalso
          have e := beq_t q3
          have e' : r = a + 1 := e
          rw [Bool.and_eq_true, Bool.and_eq_true] at h1
          unfold inR0 at z
          rw [e', h1.1, h1.2.1] at z
          have q5 : k < b := by rw [Nat.blt_eq] at q4; exact q4
          have q6 : b ≤ sm_N (a + 1) := by have := h1.2.2; rw [Nat.ble_eq] at this; exact this
          have q7 : Nat.blt k (sm_N (a + 1)) = true := by rw [Nat.blt_eq]; omega
          rw [q7] at z
          cases z
      | false =>
        rw [cond_false]
        cases (Nat.blt a r && Nat.ble r (Nat.add a (Nat.add 1 b))) with
        | true => rfl
        | false => exact ih
    | false => exact ih
theorem N_hi {r : Nat} (h : 342 < r) : sm_N r = 0 := by
  have e : Nat.shiftRight sm_nt (Nat.mul 11 r) = 0 := by
    show sm_nt >>> (11 * r) = 0
    rw [Nat.shiftRight_eq_div_pow]
    refine Nat.div_eq_of_lt (Nat.lt_of_lt_of_le (show sm_nt < 2 ^ (11 * 343) by decide +kernel) (Nat.pow_le_pow_right (by decide) (by omega)))
  unfold sm_N
  rw [e]
theorem pR0_z {r k : Nat} (h : inR0 r k = false) : pR0 r k = 0 := by
  unfold pR0
  cases q : Nat.ble (sm_K r) 12 || Nat.ble 24 (sm_K r) with
  | false => rfl
  | true =>
    show sm_R0 r k = 0
    unfold inR0 rfK at h
    rw [q, Bool.true_and] at h
    unfold sm_R0
    cases q1 : Nat.blt k (sm_N r) with
    | false => rfl
    | true =>
      rw [q1, Bool.and_true] at h
      have h3 : ¬ r ≤ 342 := fun y => by
        have : Nat.ble r 342 = true := by rw [Nat.ble_eq]; exact y
        rw [this] at h
        cases h
      rw [N_hi (by omega)] at q1
      cases q1
theorem RR_z {r k : Nat} (h : inR0 r k = false) : RR V0 r k = 0 := by
  by_cases h1 : r = 1
  · subst h1
    have e : sm_N 1 = 19 := by decide +kernel
    have hk : 19 ≤ k := by
      unfold inR0 at h
      rw [show Nat.ble 1 342 = true from rfl, show rfK 1 = true by decide +kernel, e, Bool.true_and, Bool.true_and] at h
      rcases Nat.lt_or_ge k 19 with y | y
      · have : Nat.blt k 19 = true := by rw [Nat.blt_eq]; exact y
        rw [this] at h
        cases h
      · exact y
    rw [RR_1k, if_neg (by omega), if_neg (by omega), if_neg (by omega), if_neg (by omega), if_neg (by omega)]
    exact pR0_z h
  · by_cases h5 : r = 5
    · subst h5
      have e : sm_N 5 = 4 := by decide +kernel
      rw [RR_5k, if_neg]
      intro y
      have : Nat.blt k 4 = true := by rw [Nat.blt_eq]; exact y
      unfold inR0 at h
      rw [show Nat.ble 5 342 = true from rfl, show rfK 5 = true by decide +kernel, e, this] at h
      cases h
    · rw [RR_r h1 h5]
      exact pR0_z h
def ckNm : Bool := (List.range 343).all fun r => bif rfK r then (List.range (sm_N r)).all fun k => Nat.beq (apR LA R00 r k) (RR V0 r k) else true
theorem ckNm_t : ckNm = true := by decide +kernel
theorem LA_ok : LA.all okE = true := by decide +kernel
theorem LA_R : apR LA R00 = RR V0 := by
  funext r k
  cases q : inR0 r k with
  | false => rw [apR_z LA LA_ok r k q, RR_z q]
  | true =>
    unfold inR0 at q
    rw [Bool.and_eq_true, Bool.and_eq_true, Nat.ble_eq, Nat.blt_eq] at q
    have h := ckNm_t
    unfold ckNm at h
    rw [List.all_eq_true] at h
    have h1 := h r (by rw [List.mem_range]; omega)
    rw [q.2.1, cond_true, List.all_eq_true] at h1
    exact beq_t (h1 k (by rw [List.mem_range]; exact q.2.2))
/-! the numbers at the start -/
def lk : List ce → Nat → Nat → Option Nat
  | [], _, _ => none
  | (q, a, b, _) :: l, r, k => bif Nat.beq q 0 then (bif Nat.beq r a then some 0 else lk l r k) else bif Nat.beq q 1 then lk l r k else bif Nat.beq q 2 then (bif Nat.blt a r && Nat.ble r (Nat.add a (Nat.add 1 b)) then some 0 else lk l r k) else bif Nat.beq r a && Nat.beq k b then some (bif Nat.beq q 3 then 1 else 2) else lk l r k
def lv (n : Nat) : Int32 := bif Nat.beq n 0 then i3 0 else bif Nat.beq n 1 then i3 1 else m1
theorem apG_lk {G : sm_G} {n : Nat} : ∀ (l : List ce) (r k : Nat), lk l r k = some n → apG l G r k = lv n
  | [], _, _, h => by cases h
  | (q, a, b, v) :: l, r, k, h => by
    unfold lk at h
    unfold apG
    cases q0 : Nat.beq q 0 with
    | true =>
      rw [q0, cond_true] at h
      show sm_cl (apG l G) a 0 r k = lv n
      unfold sm_cl
      cases q3 : Nat.beq r a with
      | true =>
        rw [q3, cond_true] at h
        cases h
        rfl
      | false =>
        rw [q3, cond_false] at h
        exact apG_lk l r k h
    | false =>
    rw [q0, cond_false] at h
    cases q1 : Nat.beq q 1 with
    | true =>
      rw [q1, cond_true] at h
      exact apG_lk l r k h
    | false =>
    rw [q1, cond_false] at h
    cases q2 : Nat.beq q 2 with
    | true =>
      rw [q2, cond_true] at h
      show sm_mG (apG l G) a b r k = lv n
      unfold sm_mG
      cases q3 : (Nat.blt a r && Nat.ble r (Nat.add a (Nat.add 1 b))) with
      | true =>
        rw [q3, cond_true] at h
        cases h
        rfl
      | false =>
        rw [q3, cond_false] at h
        exact apG_lk l r k h
    | false =>
    rw [q2, cond_false] at h
    have up : ∀ w : Int32, (Nat.beq r a && Nat.beq k b) = true ∧ w = lv n ∨ (Nat.beq r a && Nat.beq k b) = false ∧ lk l r k = some n → sm_up (apG l G) a b w r k = lv n := fun w y => by
      unfold sm_up
      rcases y with ⟨y1, y2⟩ | ⟨y1, y2⟩
      · rw [y1]; exact y2
      · rw [y1]; exact apG_lk l r k y2
    cases q4 : (Nat.beq r a && Nat.beq k b) with
    | true =>
      rw [q4, cond_true] at h
      cases q3 : Nat.beq q 3 with
      | true =>
        rw [q3] at h
        cases h
        exact up (i3 1) (Or.inl ⟨q4, rfl⟩)
      | false =>
        rw [q3] at h
        cases h
        exact up m1 (Or.inl ⟨q4, rfl⟩)
    | false =>
      rw [q4, cond_false] at h
      cases q3 : Nat.beq q 3 with
      | true => exact up (i3 1) (Or.inr ⟨q4, h⟩)
      | false => exact up m1 (Or.inr ⟨q4, h⟩)
def hiE (e : ce) : Bool := Nat.ble e.2.1 342 && (Nat.beq e.1 0 || Nat.beq e.1 1 || (Nat.beq e.1 2 && Nat.ble (e.2.1 + (1 + e.2.2.1)) 342) || Nat.blt 2 e.1)
theorem apG_hi {G : sm_G} {r : Nat} (hr : 342 < r) : ∀ (l : List ce), l.all hiE = true → apG l G r = G r
  | [], _ => rfl
  | (q, a, b, v) :: l, h => by
    rw [List.all_cons, Bool.and_eq_true] at h
    have ih := apG_hi (G := G) hr l h.2
    have h1 := h.1
    unfold hiE at h1
    dsimp only at h1
    rw [Bool.and_eq_true, Nat.ble_eq] at h1
    have hra : Nat.beq r a = false := beq_f (by omega)
    unfold apG
    funext k
    have ihk := congrFun ih k
    cases q0 : Nat.beq q 0 with
    | true =>
      show sm_cl (apG l G) a 0 r k = G r k
      unfold sm_cl
      rw [hra]
      exact ihk
    | false =>
    cases q1 : Nat.beq q 1 with
    | true => exact ihk
    | false =>
    cases q2 : Nat.beq q 2 with
    | true =>
      show sm_mG (apG l G) a b r k = G r k
      unfold sm_mG
      have h2 := h1.2
      have q3 : Nat.blt 2 q = false := by
        rw [beq_t q2]
        rfl
      rw [q0, q1, q2, q3, Bool.true_and, Bool.or_false, Bool.false_or, Bool.false_or, Nat.ble_eq] at h2
      have q4 : Nat.ble r (Nat.add a (Nat.add 1 b)) = false := by
        cases y : Nat.ble r (Nat.add a (Nat.add 1 b)) with
        | false => rfl
        | true =>
          rw [Nat.ble_eq] at y
          have y' : r ≤ a + (1 + b) := y
          omega
      rw [q4, Bool.and_false]
      exact ihk
    | false =>
    cases q3 : Nat.beq q 3 with
    | true =>
      show sm_up (apG l G) a b (i3 1) r k = G r k
      unfold sm_up
      rw [hra]
      exact ihk
    | false =>
      show sm_up (apG l G) a b m1 r k = G r k
      unfold sm_up
      rw [hra]
      exact ihk
theorem LA_hi : LA.all hiE = true := by decide +kernel
