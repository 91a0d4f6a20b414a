/-! cells and exceptions only grow; what a method without new cells leaves as it was -/
def sm_pu (i : Instr) : Bool := match i with
  | .new v => Nat.ble 40 (Nat.mod v 256)
  | .newarray _ => false
  | .anewarray _ => false
  | .multianewarray _ _ => false
  | .aastore => false
  | .putfield v => !Nat.beq (Nat.mod v 4) 2
  | .invokevirtual v => !Nat.ble 512 (Nat.mod v 1024)
  | .invokespecial v => Nat.beq (Nat.mod v 1024) 1023
  | .invokestatic v => !Nat.ble 512 (Nat.mod v 1024)
  | _ => true
section SMM
variable {nf xf : Nat} {Rf : sm_R} {pu : Bool} {T : Nat → Instr} {hd : Nat → Nat → Nat} {cn : sm_CN} {cx : sm_CX} {k : Nat → List Value → List Value → Nat → sm_R → Nat → sm_G → sm_L → Option sm_O} {w : sm_O}
variable {pc : Nat} {ls st : List Value} {n : Nat} {R : sm_R} {x : Nat} {G : sm_G} {L : sm_L}
def sm_Gr (nf xf : Nat) (Rf : sm_R) (pu : Bool) (n : Nat) (R : sm_R) (x : Nat) : Prop := n ≤ nf ∧ x ≤ xf ∧ (pu = true → n = nf ∧ R = Rf)
/-- what calls keep -/
def sm_CG (cx : sm_CX) : Prop := ∀ j as n R x G L r n' R' x' G' L', cx j as (n, R, x, G, L) = some (r, n', R', x', G', L') → n ≤ n' ∧ x ≤ x' ∧ (j < 512 → n' = n ∧ R' = R)
theorem sm_exc_g {ex : Nat} (hk : ∀ pc ls st n R x G L, k pc ls st n R x G L = some w → sm_Gr nf xf Rf pu n R x) (hw : ∀ r n R x G L, w = .inl (r, n, R, x, G, L) → sm_Gr nf xf Rf pu n R x) (h : sm_exc sm_rO hd pc ls n R k ex x G L = some w) : sm_Gr nf xf Rf pu n R x := by
  unfold sm_exc at h
  cases hz : Nat.beq (hd pc ex) 0 with
  | true => rw [hz] at h; exact hw _ _ _ _ _ _ (Option.some.inj h).symm
  | false =>
    rw [hz] at h
    simp only [cond_false] at h
    cases hy : Nat.beq (hd pc ex) 1 with
    | true => rw [hy] at h; cases h
    | false => rw [hy] at h; exact hk _ _ _ _ _ _ _ _ h
theorem sm_inv_g {v : Nat} (hcx : sm_CG cx) (hcn : cn = fun j n R as D => sm_dr (cx j as (n, R, D))) (hpu : pu = true → Nat.ble 512 (Nat.mod v 1024) = false) (hk : ∀ pc ls st n R x G L, k pc ls st n R x G L = some w → sm_Gr nf xf Rf pu n R x) (hw : ∀ r n R x G L, w = .inl (r, n, R, x, G, L) → sm_Gr nf xf Rf pu n R x)
    (h : sm_inv sm_rO hd cn cx pc ls v st n R x G L k = some w) : sm_Gr nf xf Rf pu n R x := by
  unfold sm_inv at h
  split at h
  · cases h
  · next as rest hargs =>
    obtain ⟨h1, h2⟩ := sm_bif h
    have key : ∀ (r : sm_Res) (S : sm_S), cx (Nat.mod v 1024) as (n, R, x, G, L) = some (r, S) → sm_Gr nf xf Rf pu S.1 S.2.1 S.2.2.1 → sm_Gr nf xf Rf pu n R x := by
      intro r S h3 h4
      obtain ⟨n', R', x', G', L'⟩ := S
      obtain ⟨g1, g2, g3⟩ := hcx _ _ _ _ _ _ _ _ _ _ _ _ _ h3
      obtain ⟨f1, f2, f3⟩ := h4
      refine ⟨Nat.le_trans g1 f1, Nat.le_trans g2 f2, fun hp => ?_⟩
      have hlt : Nat.mod v 1024 < 512 := by
        have := hpu hp
        by_cases q : 512 ≤ Nat.mod v 1024
        · rw [Nat.ble_eq_true_of_le q] at this; cases this
        · omega
      obtain ⟨e1, e2⟩ := g3 hlt
      obtain ⟨e3, e4⟩ := f3 hp
      exact ⟨e1.symm.trans e3, e2.symm.trans e4⟩
    cases hj : Nat.ble 512 (Nat.mod v 1024) with
    | true =>
      rw [hj] at h2
      simp only [cond_true] at h2
      obtain ⟨h3, h4⟩ := sm_bif h2
      cases hc : cx (Nat.mod v 1024) as (n, R, x, G, L) with
      | none => rw [hc] at h4; cases h4
      | some o =>
        obtain ⟨r, S⟩ := o
        rw [hc] at h4
        refine key r S hc ?_
        cases r with
        | inl u => exact hk _ _ _ _ _ _ _ _ h4
        | inr ex => exact sm_exc_g hk hw h4
    | false =>
      rw [hj] at h2
      simp only [cond_false] at h2
      rw [hcn] at h2
      simp only at h2
      cases hc : cx (Nat.mod v 1024) as (n, R, x, G, L) with
      | none =>
        exfalso
        rw [hc] at h2
        revert h2
        cases Nat.beq (Nat.mod (Nat.div v 16384) 4) 0 <;> cases Nat.beq (Nat.mod (Nat.div v 16384) 4) 1 <;> cases Nat.beq (Nat.mod (Nat.div v 16384) 4) 2 <;> intro h2 <;> cases h2
      | some o =>
        obtain ⟨r, n', R', x', G', L'⟩ := o
        have hlt : Nat.mod v 1024 < 512 := by
          by_cases q : 512 ≤ Nat.mod v 1024
          · rw [Nat.ble_eq_true_of_le q] at hj; cases hj
          · omega
        obtain ⟨g1, g2, g3⟩ := hcx _ _ _ _ _ _ _ _ _ _ _ _ _ hc
        obtain ⟨e1, e2⟩ := g3 hlt
        subst e1
        subst e2
        rw [hc] at h2
        refine key r _ hc ?_
        cases r with
        | inl u =>
          have h5 : ∃ st', k (pc + 3) ls st' n' R' x' G' L' = some w := by
            revert h2
            cases Nat.beq (Nat.mod (Nat.div v 16384) 4) 0 <;> cases Nat.beq (Nat.mod (Nat.div v 16384) 4) 1 <;> cases Nat.beq (Nat.mod (Nat.div v 16384) 4) 2 <;> intro h2 <;> (cases u with
              | none => first | exact ⟨_, h2⟩ | cases h2
              | some y => cases y <;> first | exact ⟨_, h2⟩ | cases h2)
          obtain ⟨st', h5⟩ := h5
          exact hk _ _ _ _ _ _ _ _ h5
        | inr ex =>
          refine sm_exc_g (pc := pc) (ls := ls) (hd := hd) hk hw (ex := ex) (G := G') (L := L') ?_
          revert h2
          cases Nat.beq (Nat.mod (Nat.div v 16384) 4) 0 <;> cases Nat.beq (Nat.mod (Nat.div v 16384) 4) 1 <;> cases Nat.beq (Nat.mod (Nat.div v 16384) 4) 2 <;> intro h2 <;> exact h2
theorem sm_sw_in {a : Int32} {d : Option sm_O} {w : sm_O} : ∀ (l : List (Option sm_O)) (z : Int), sm_sw a d z l = some w → d = some w ∨ some w ∈ l
  | [], _, h => Or.inl h
  | t :: r, z, h => by
    have h1 : (if a = Int32.ofInt z then t else sm_sw a d (z + 1) r) = some w := h
    split at h1
    · exact Or.inr (by rw [← h1]; exact List.mem_cons_self)
    · rcases sm_sw_in r _ h1 with q | q
      · exact Or.inl q
      · exact Or.inr (List.mem_cons_of_mem _ q)
theorem sm_lsw_in {a : Int32} {d : Option sm_O} {w : sm_O} : ∀ (l : List (Int × Option sm_O)), sm_lsw a d l = some w → d = some w ∨ ∃ q ∈ l, q.2 = some w
  | [], h => Or.inl h
  | (v, t) :: r, h => by
    have h1 : (if a = Int32.ofInt v then t else sm_lsw a d r) = some w := h
    split at h1
    · exact Or.inr ⟨(v, t), List.mem_cons_self, h1⟩
    · rcases sm_lsw_in r h1 with q | ⟨q, q1, q2⟩
      · exact Or.inl q
      · exact Or.inr ⟨q, List.mem_cons_of_mem _ q1, q2⟩
theorem sm_step_g (hcx : sm_CG cx) (hcn : cn = fun j n R as D => sm_dr (cx j as (n, R, D))) (hpu : pu = true → sm_pu (T pc) = true) (hk : ∀ pc ls st n R x G L, k pc ls st n R x G L = some w → sm_Gr nf xf Rf pu n R x) (hw : ∀ r n R x G L, w = .inl (r, n, R, x, G, L) → sm_Gr nf xf Rf pu n R x)
    (h : sm_step sm_rO T hd cn cx pc ls st n R x G L k = some w) : sm_Gr nf xf Rf pu n R x := by
  unfold sm_step at h
  generalize T pc = i at h hpu
  have up : ∀ {n' : Nat} {R' : sm_R} {x' : Nat}, n ≤ n' → x ≤ x' → (pu = true → False) → sm_Gr nf xf Rf pu n' R' x' → sm_Gr nf xf Rf pu n R x := fun g1 g2 g3 g4 => ⟨Nat.le_trans g1 g4.1, Nat.le_trans g2 g4.2.1, fun hp => (g3 hp).elim⟩
  cases i
  case ifCond c t => cases c <;> (obtain ⟨a, r, rfl, h2⟩ := sm_i1_spec h; split at h2 <;> exact hk _ _ _ _ _ _ _ _ h2)
  case if_icmp c t => cases c <;> (obtain ⟨a, b, r, rfl, h2⟩ := sm_i2_spec h; split at h2 <;> exact hk _ _ _ _ _ _ _ _ h2)
  case tableswitch d lo hh ts =>
    obtain ⟨a, r, rfl, h2⟩ := sm_i1_spec h
    rcases sm_sw_in _ _ h2 with q | q
    · exact hk _ _ _ _ _ _ _ _ q
    · obtain ⟨t, -, q2⟩ := List.mem_map.mp q
      exact hk _ _ _ _ _ _ _ _ q2
  case lookupswitch d ps =>
    obtain ⟨a, r, rfl, h2⟩ := sm_i1_spec h
    rcases sm_lsw_in _ h2 with q | ⟨q, q1, q2⟩
    · exact hk _ _ _ _ _ _ _ _ q
    · obtain ⟨t, -, q3⟩ := List.mem_map.mp q1
      subst q3
      exact hk _ _ _ _ _ _ _ _ q2
  case invokevirtual v => exact sm_inv_g hcx hcn (fun hp => by have := hpu hp; simp only [sm_pu, Bool.not_eq_true'] at this; exact this) hk hw h
  case invokestatic v => exact sm_inv_g hcx hcn (fun hp => by have := hpu hp; simp only [sm_pu, Bool.not_eq_true'] at this; exact this) hk hw h
  case invokespecial v =>
    dsimp only at h
    cases hv : Nat.beq (Nat.mod v 1024) 1023 with
    | true =>
      rw [hv] at h
      obtain ⟨r, rest, rfl, h2⟩ := sm_r1_spec h
      exact hk _ _ _ _ _ _ _ _ (sm_bif h2).2
    | false =>
      rw [hv] at h
      exact sm_inv_g hcx hcn (fun hp => by have := hpu hp; simp only [sm_pu] at this; rw [this] at hv; cases hv) hk hw h
  case new v =>
    dsimp only at h
    cases hv : Nat.ble 40 (Nat.mod v 256) with
    | true =>
      rw [hv] at h
      have := hw _ _ _ _ _ _ (Option.some.inj (sm_bif h).2).symm
      exact ⟨this.1, Nat.le_trans (Nat.le_succ x) this.2.1, this.2.2⟩
    | false =>
      rw [hv] at h
      exact up (Nat.le_succ n) (Nat.le_refl x) (fun hp => by have := hpu hp; simp only [sm_pu] at this; rw [this] at hv; cases hv) (hk _ _ _ _ _ _ _ _ (sm_bif h).2)
  case newarray t => obtain ⟨a, r, rfl, h2⟩ := sm_i1_spec h; exact up (Nat.le_succ n) (Nat.le_refl x) (fun hp => by have := hpu hp; cases this) (hk _ _ _ _ _ _ _ _ (sm_bif h2).2)
  case anewarray t => obtain ⟨a, r, rfl, h2⟩ := sm_i1_spec h; exact up (Nat.le_succ n) (Nat.le_refl x) (fun hp => by have := hpu hp; cases this) (hk _ _ _ _ _ _ _ _ (sm_bif h2).2)
  case multianewarray t u => obtain ⟨a, b, r, rfl, h2⟩ := sm_i2_spec h; exact up (Nat.le_add_right n _) (Nat.le_refl x) (fun hp => by have := hpu hp; cases this) (hk _ _ _ _ _ _ _ _ (sm_bif h2).2)
  case aastore => obtain ⟨r, i, u, rest, rfl, h2⟩ := sm_rir_spec h; exact up (Nat.le_refl n) (Nat.le_refl x) (fun hp => by have := hpu hp; cases this) (hk _ _ _ _ _ _ _ _ (sm_bif (sm_bif h2).2).2)
  case putfield v =>
    dsimp only at h
    split at h
    · have h2 := (sm_bif h).2
      cases h0 : Nat.beq (Nat.mod v 4) 0 with
      | true => rw [h0] at h2; exact hk _ _ _ _ _ _ _ _ h2
      | false =>
        rw [h0] at h2
        simp only [cond_false] at h2
        have h3 := (sm_bif h2).2
        split at h3
        · exact hk _ _ _ _ _ _ _ _ h3
        · cases h3
    · exact hk _ _ _ _ _ _ _ _ (sm_bif h).2
    · obtain ⟨h3, h4⟩ := sm_bif h
      rw [Bool.and_eq_true, Bool.and_eq_true] at h3
      exact up (Nat.le_refl n) (Nat.le_refl x) (fun hp => by have := hpu hp; simp only [sm_pu] at this; rw [h3.1.2] at this; cases this) (hk _ _ _ _ _ _ _ _ h4)
    · cases h
  case getfield v =>
    obtain ⟨r, rest, rfl, h2⟩ := sm_r1_spec h
    have h3 := (sm_bif h2).2
    cases h0 : Nat.beq (Nat.mod v 4) 2 with
    | true => rw [h0] at h3; exact hk _ _ _ _ _ _ _ _ h3
    | false =>
      rw [h0] at h3
      cases h1 : Nat.beq (Nat.mod v 4) 1 with
      | true => rw [h1] at h3; exact hk _ _ _ _ _ _ _ _ h3
      | false => rw [h1] at h3; exact hk _ _ _ _ _ _ _ _ h3
  case ldc v =>
    dsimp only at h
    cases h0 : Nat.beq (Nat.mod (Nat.div v 8589934592) 2) 1 with
    | true => rw [h0] at h; exact hk _ _ _ _ _ _ _ _ h
    | false => rw [h0] at h; exact hk _ _ _ _ _ _ _ _ h
  case iaload =>
    obtain ⟨r, i, rest, rfl, h2⟩ := sm_ri_spec h
    cases h0 : sm_is r n 20 with
    | true => rw [h0] at h2; exact hk _ _ _ _ _ _ _ _ (sm_bif h2).2
    | false => rw [h0] at h2; exact hk _ _ _ _ _ _ _ _ (sm_bif h2).2
  case arraylength =>
    obtain ⟨r, rest, rfl, h2⟩ := sm_r1_spec h
    cases h0 : (Nat.ble 20 (sm_K r) && Nat.ble (sm_K r) 27 && Nat.ble r n) with
    | true => rw [h0] at h2; exact hk _ _ _ _ _ _ _ _ h2
    | false => rw [h0] at h2; exact hk _ _ _ _ _ _ _ _ (sm_bif h2).2
  case bastore =>
    obtain ⟨r, i, u, rest, rfl, h2⟩ := sm_rii_spec h
    cases h0 : sm_is r n 21 with
    | true => rw [h0] at h2; exact hk _ _ _ _ _ _ _ _ (sm_bif h2).2
    | false =>
      rw [h0] at h2
      have h3 := (sm_bif (sm_bif h2).2).2
      split at h3
      · exact hk _ _ _ _ _ _ _ _ h3
      · cases h3
  all_goals first
    | exact hk _ _ _ _ _ _ _ _ h
    | (cases h; done)
    | (obtain ⟨a, r, rfl, h2⟩ := sm_i1_spec h; exact hk _ _ _ _ _ _ _ _ h2)
    | (obtain ⟨a, r, rfl, h2⟩ := sm_l1_spec h; exact hk _ _ _ _ _ _ _ _ h2)
    | (obtain ⟨a, r, rfl, h2⟩ := sm_r1_spec h; exact hk _ _ _ _ _ _ _ _ h2)
    | (obtain ⟨a, h1, h2⟩ := sm_one h; exact hk _ _ _ _ _ _ _ _ h2)
    | (obtain ⟨a, h1, h2⟩ := sm_onel h; exact hk _ _ _ _ _ _ _ _ h2)
    | (obtain ⟨a, h1, h2⟩ := sm_oner h; exact hk _ _ _ _ _ _ _ _ h2)
    | (obtain ⟨a, b, r, rfl, h2⟩ := sm_i2_spec h; exact hk _ _ _ _ _ _ _ _ h2)
    | (obtain ⟨a, b, r, rfl, h2⟩ := sm_l2_spec h; exact hk _ _ _ _ _ _ _ _ h2)
    | (obtain ⟨a, b, r, rfl, h2⟩ := sm_li_spec h; exact hk _ _ _ _ _ _ _ _ h2)
    | (obtain ⟨a, b, r, rfl, h2⟩ := sm_ri_spec h; exact hk _ _ _ _ _ _ _ _ h2)
    | (obtain ⟨a, b, r, rfl, h2⟩ := sm_ri_spec h; exact hk _ _ _ _ _ _ _ _ (sm_bif (sm_bif h2).2).2)
    | (obtain ⟨a, b, c, r, rfl, h2⟩ := sm_rii_spec h; exact hk _ _ _ _ _ _ _ _ (sm_bif (sm_bif h2).2).2)
    | (obtain ⟨a, b, c, r, rfl, h2⟩ := sm_ril_spec h; exact hk _ _ _ _ _ _ _ _ (sm_bif (sm_bif h2).2).2)
    | (obtain ⟨a, b, r, rfl, h2⟩ := sm_i2_spec h; split at h2; · cases h2
       · exact hk _ _ _ _ _ _ _ _ h2)
    | (obtain ⟨a, b, r, rfl, h2⟩ := sm_l2_spec h; split at h2; · cases h2
       · exact hk _ _ _ _ _ _ _ _ h2)
    | (obtain ⟨a, b, r, rfl, h2⟩ := sm_l2_spec h; split at h2; · exact hk _ _ _ _ _ _ _ _ h2
       · split at h2 <;> exact hk _ _ _ _ _ _ _ _ h2)
    | (dsimp only at h; split at h <;> first | exact hw _ _ _ _ _ _ (Option.some.inj (sm_bif h).2).symm | exact hk _ _ _ _ _ _ _ _ h | exact hw _ _ _ _ _ _ (Option.some.inj h).symm | (cases h; done))
    | (dsimp only at h; split at h
       · split at h
         · exact hw _ _ _ _ _ _ (Option.some.inj h).symm
         · cases h
       · cases h)
end SMM
