/-! the answer's row stays as it is while the model asks its surest way -/
def lf2 (j : Nat) : Bool := lf j || Nat.beq j 301 || Nat.beq j 302
def lok2 (i : Instr) : Bool := match i with
  | .lastore => false
  | .putfield v => !Nat.beq (Nat.mod (Nat.div v 4) 64) 23
  | .new v => Nat.ble 40 (Nat.mod v 256)
  | .newarray _ => false
  | .anewarray _ => false
  | .multianewarray _ _ => false
  | .invokevirtual v => lf2 (Nat.mod v 1024)
  | .invokestatic v => lf2 (Nat.mod v 1024)
  | .invokespecial v => Nat.beq (Nat.mod v 1024) 1023 || lf2 (Nat.mod v 1024)
  | _ => true
theorem lf2_lt {j : Nat} (h : lf2 j = true) : Nat.ble 512 j = false := by
  unfold lf2 at h
  rw [Bool.or_eq_true, Bool.or_eq_true] at h
  rcases h with (h | h) | h
  · exact lf_lt h
  · rw [Nat.eq_of_beq_eq_true h]
    rfl
  · rw [Nat.eq_of_beq_eq_true h]
    rfl
def pl (L0 : sm_L) (o : Option (sm_Res × sm_S)) : Prop := ∀ r n R x G L', o = some (r, n, R, x, G, L') → L' 342 = L0 342
def pe (L0 : sm_L) (o : Option (sm_Res × sm_D)) : Prop := ∀ r x G L', o = some (r, x, G, L') → L' 342 = L0 342
theorem pl_n {L0 : sm_L} : pl L0 none := fun _ _ _ _ _ _ h => by cases h
theorem is_K {r n t : Nat} (h : sm_is r n t = true) : sm_K r = t := by
  unfold sm_is at h
  rw [Bool.and_eq_true] at h
  exact Nat.eq_of_beq_eq_true h.1
section PLL
variable {L0 : sm_L} {rt : sm_Res → Nat → sm_R → Nat → sm_G → sm_L → Option (sm_Res × sm_S)} {k : Nat → List Value → List Value → Nat → sm_R → Nat → sm_G → sm_L → Option (sm_Res × sm_S)} {hd : Nat → Nat → Nat} {cn : sm_CN} {cx : sm_CX}
theorem pl_aV {o : Option (sm_Res × sm_D)} {f : Nat → sm_G → sm_L → Option (sm_Res × sm_S)} {fx : Nat → Nat → sm_G → sm_L → Option (sm_Res × sm_S)} (h : pe L0 o) (h1 : ∀ x G L, L 342 = L0 342 → pl L0 (f x G L)) (h2 : ∀ e x G L, L 342 = L0 342 → pl L0 (fx e x G L)) : pl L0 (sm_aV o f fx) := by
  unfold sm_aV
  split
  · exact h1 _ _ _ (h _ _ _ _ rfl)
  · exact h2 _ _ _ _ (h _ _ _ _ rfl)
  · exact pl_n
theorem pl_aI {o : Option (sm_Res × sm_D)} {f : Int32 → Nat → sm_G → sm_L → Option (sm_Res × sm_S)} {fx : Nat → Nat → sm_G → sm_L → Option (sm_Res × sm_S)} (h : pe L0 o) (h1 : ∀ a x G L, L 342 = L0 342 → pl L0 (f a x G L)) (h2 : ∀ e x G L, L 342 = L0 342 → pl L0 (fx e x G L)) : pl L0 (sm_aI o f fx) := by
  unfold sm_aI
  split
  · exact h1 _ _ _ _ (h _ _ _ _ rfl)
  · exact h2 _ _ _ _ (h _ _ _ _ rfl)
  · exact pl_n
theorem pl_aL {o : Option (sm_Res × sm_D)} {f : Int64 → Nat → sm_G → sm_L → Option (sm_Res × sm_S)} {fx : Nat → Nat → sm_G → sm_L → Option (sm_Res × sm_S)} (h : pe L0 o) (h1 : ∀ a x G L, L 342 = L0 342 → pl L0 (f a x G L)) (h2 : ∀ e x G L, L 342 = L0 342 → pl L0 (fx e x G L)) : pl L0 (sm_aL o f fx) := by
  unfold sm_aL
  split
  · exact h1 _ _ _ _ (h _ _ _ _ rfl)
  · exact h2 _ _ _ _ (h _ _ _ _ rfl)
  · exact pl_n
theorem pl_aR {o : Option (sm_Res × sm_D)} {f : Nat → Nat → sm_G → sm_L → Option (sm_Res × sm_S)} {fx : Nat → Nat → sm_G → sm_L → Option (sm_Res × sm_S)} (h : pe L0 o) (h1 : ∀ a x G L, L 342 = L0 342 → pl L0 (f a x G L)) (h2 : ∀ e x G L, L 342 = L0 342 → pl L0 (fx e x G L)) : pl L0 (sm_aR o f fx) := by
  unfold sm_aR
  split
  · exact h1 _ _ _ _ (h _ _ _ _ rfl)
  · exact h2 _ _ _ _ (h _ _ _ _ rfl)
  · exact pl_n
theorem pl_exc (hr : ∀ r n R x G L, L 342 = L0 342 → pl L0 (rt r n R x G L)) (hk : ∀ pc ls st n R x G L, L 342 = L0 342 → pl L0 (k pc ls st n R x G L)) {pc : Nat} {ls : List Value} {n : Nat} {R : sm_R} {e x : Nat} {G : sm_G} {L : sm_L} (hz : L 342 = L0 342) : pl L0 (sm_exc rt hd pc ls n R k e x G L) := by
  unfold sm_exc
  exact pr_cond (fun _ => hr _ _ _ _ _ _ hz) (fun _ => pr_cond (fun _ => pl_n) (fun _ => hk _ _ _ _ _ _ _ _ hz))
theorem pl_inv (hr : ∀ r n R x G L, L 342 = L0 342 → pl L0 (rt r n R x G L)) (hk : ∀ pc ls st n R x G L, L 342 = L0 342 → pl L0 (k pc ls st n R x G L)) (hcn : ∀ j n R as x G L, lf2 j = true → L 342 = L0 342 → pe L0 (cn j n R as (x, G, L))) {pc : Nat} {ls : List Value} {v : Nat} (hv : lf2 (Nat.mod v 1024) = true) {st : List Value} {n : Nat} {R : sm_R} {x : Nat} {G : sm_G} {L : sm_L} (hz : L 342 = L0 342) : pl L0 (sm_inv rt hd cn cx pc ls v st n R x G L k) := by
  unfold sm_inv
  split
  · exact pl_n
  · refine pr_cond (fun _ => pr_cond (fun h => by rw [lf2_lt hv] at h; cases h) (fun _ => pr_cond (fun _ => pl_aV (hcn _ _ _ _ _ _ _ hv hz) (fun _ _ _ b => hk _ _ _ _ _ _ _ _ b) (fun _ _ _ _ b => pl_exc hr hk b)) (fun _ => pr_cond (fun _ => pl_aI (hcn _ _ _ _ _ _ _ hv hz) (fun _ _ _ _ b => hk _ _ _ _ _ _ _ _ b) (fun _ _ _ _ b => pl_exc hr hk b)) (fun _ => pr_cond (fun _ => pl_aL (hcn _ _ _ _ _ _ _ hv hz) (fun _ _ _ _ b => hk _ _ _ _ _ _ _ _ b) (fun _ _ _ _ b => pl_exc hr hk b)) (fun _ => pl_aR (hcn _ _ _ _ _ _ _ hv hz) (fun _ _ _ _ b => hk _ _ _ _ _ _ _ _ b) (fun _ _ _ _ b => pl_exc hr hk b)))))) (fun _ => pl_n)
theorem pl_step (T : Nat → Instr) (hT : ∀ pc, lok2 (T pc) = true) (hr : ∀ r n R x G L, L 342 = L0 342 → pl L0 (rt r n R x G L)) (hk : ∀ pc ls st n R x G L, L 342 = L0 342 → pl L0 (k pc ls st n R x G L)) (hcn : ∀ j n R as x G L, lf2 j = true → L 342 = L0 342 → pe L0 (cn j n R as (x, G, L))) (pc : Nat) (ls st : List Value) (n : Nat) (R : sm_R) (x : Nat) (G : sm_G) (L : sm_L) (hz : L 342 = L0 342) : pl L0 (sm_step rt T hd cn cx pc ls st n R x G L k) := by
  have hi := hT pc
  unfold sm_step
  generalize T pc = i at *
  have K : ∀ pc ls st n R x G, pl L0 (k pc ls st n R x G L) := fun _ _ _ _ _ _ _ => hk _ _ _ _ _ _ _ _ hz
  cases i
  case ifCond c t => cases c <;> exact pr_i1 pl_n (fun _ _ => pr_ite (K _ _ _ _ _ _ _) (K _ _ _ _ _ _ _))
  case if_icmp c t => cases c <;> exact pr_i2 pl_n (fun _ _ _ => pr_ite (K _ _ _ _ _ _ _) (K _ _ _ _ _ _ _))
  case tableswitch d lo hi ts => exact pr_i1 pl_n (fun _ _ => pr_sw (K _ _ _ _ _ _ _) (fun _ => K _ _ _ _ _ _ _) _ _)
  case lookupswitch d ps => exact pr_i1 pl_n (fun _ _ => pr_lsw (K _ _ _ _ _ _ _) (fun _ => K _ _ _ _ _ _ _) _)
  case lastore => exact Bool.noConfusion (show false = true from hi)
  case newarray t => exact Bool.noConfusion (show false = true from hi)
  case anewarray v => exact Bool.noConfusion (show false = true from hi)
  case multianewarray v w => exact Bool.noConfusion (show false = true from hi)
  case new v =>
    have hi : Nat.ble 40 (Nat.mod v 256) = true := hi
    refine pr_cond (fun _ => pr_cond (fun _ => hr _ _ _ _ _ _ hz) (fun _ => pl_n)) (fun h => ?_)
    rw [hi] at h
    cases h
  case putfield v =>
    have hi : (!Nat.beq (Nat.mod (Nat.div v 4) 64) 23) = true := hi
    rw [Bool.not_eq_true'] at hi
    dsimp only
    split
    · exact pr_cond (fun _ => pr_cond (fun _ => K _ _ _ _ _ _ _) (fun _ => pr_cond (fun _ => pr_ite (K _ _ _ _ _ _ _) pl_n) (fun _ => pl_n))) (fun _ => pl_n)
    · rename_i a r st'
      refine pr_cond (fun h => ?_) (fun _ => pl_n)
      rw [Bool.and_eq_true] at h
      have h1 := is_K h.1
      refine hk _ _ _ _ _ _ _ _ ?_
      have hne : r ≠ 342 := fun q => by
        rw [q, show sm_K 342 = 23 by decide +kernel] at h1
        rw [← h1] at hi
        exact absurd hi (by decide)
      exact (sm_up_row L r _ a 342 (fun q => hne q.symm)).trans hz
    · exact pr_cond (fun _ => K _ _ _ _ _ _ _) (fun _ => pl_n)
    · exact pl_n
  case invokevirtual v => exact pl_inv hr hk hcn hi hz
  case invokestatic v => exact pl_inv hr hk hcn hi hz
  case invokespecial v =>
    have hi : (Nat.beq (Nat.mod v 1024) 1023 || lf2 (Nat.mod v 1024)) = true := hi
    refine pr_cond (fun _ => pr_r1 pl_n (fun _ _ => pr_cond (fun _ => K _ _ _ _ _ _ _) (fun _ => pl_n))) (fun h => pl_inv hr hk hcn ?_ hz)
    rw [h, Bool.false_or] at hi
    exact hi
  all_goals try dsimp only
  all_goals first
    | exact pl_n
    | exact K _ _ _ _ _ _ _
    | exact pr_i1 pl_n (fun _ _ => K _ _ _ _ _ _ _)
    | exact pr_i2 pl_n (fun _ _ _ => K _ _ _ _ _ _ _)
    | exact pr_l1 pl_n (fun _ _ => K _ _ _ _ _ _ _)
    | exact pr_l2 pl_n (fun _ _ _ => K _ _ _ _ _ _ _)
    | exact pr_li pl_n (fun _ _ _ => K _ _ _ _ _ _ _)
    | exact pr_r1 pl_n (fun _ _ => K _ _ _ _ _ _ _)
    | exact pr_ri pl_n (fun _ _ _ => K _ _ _ _ _ _ _)
    | exact pr_i2 pl_n (fun _ _ _ => pr_ite pl_n (K _ _ _ _ _ _ _))
    | exact pr_l2 pl_n (fun _ _ _ => pr_ite pl_n (K _ _ _ _ _ _ _))
    | exact pr_l2 pl_n (fun _ _ _ => pr_ite (K _ _ _ _ _ _ _) (pr_ite (K _ _ _ _ _ _ _) (K _ _ _ _ _ _ _)))
    | exact pr_cond (fun _ => K _ _ _ _ _ _ _) (fun _ => K _ _ _ _ _ _ _)
    | exact pr_r1 pl_n (fun _ _ => pr_cond (fun _ => pr_cond (fun _ => K _ _ _ _ _ _ _) (fun _ => pr_cond (fun _ => K _ _ _ _ _ _ _) (fun _ => K _ _ _ _ _ _ _))) (fun _ => pl_n))
    | exact pr_ri pl_n (fun _ _ _ => pr_cond (fun _ => pr_cond (fun _ => K _ _ _ _ _ _ _) (fun _ => pl_n)) (fun _ => pr_cond (fun _ => K _ _ _ _ _ _ _) (fun _ => pl_n)))
    | exact pr_ri pl_n (fun _ _ _ => pr_cond (fun _ => pr_cond (fun _ => K _ _ _ _ _ _ _) (fun _ => pl_n)) (fun _ => pl_n))
    | exact pr_rii pl_n (fun _ _ _ _ => pr_cond (fun _ => pr_cond (fun _ => K _ _ _ _ _ _ _) (fun _ => pl_n)) (fun _ => pl_n))
    | exact pr_rii pl_n (fun _ _ _ _ => pr_cond (fun _ => pr_cond (fun _ => K _ _ _ _ _ _ _) (fun _ => pl_n)) (fun _ => pr_cond (fun _ => pr_cond (fun _ => pr_ite (K _ _ _ _ _ _ _) pl_n) (fun _ => pl_n)) (fun _ => pl_n)))
    | exact pr_rir pl_n (fun _ _ _ _ => pr_cond (fun _ => pr_cond (fun _ => K _ _ _ _ _ _ _) (fun _ => pl_n)) (fun _ => pl_n))
    | exact pr_r1 pl_n (fun _ _ => pr_cond (fun _ => K _ _ _ _ _ _ _) (fun _ => pr_cond (fun _ => K _ _ _ _ _ _ _) (fun _ => pl_n)))
    | (split <;> first | exact pl_n | exact K _ _ _ _ _ _ _ | exact hr _ _ _ _ _ _ hz | exact pr_ite (hr _ _ _ _ _ _ hz) pl_n | exact pr_cond (fun _ => hr _ _ _ _ _ _ hz) (fun _ => pl_n))
theorem pl_ev {kc : Nat → List Value → Nat → sm_R → Nat → sm_G → sm_L → Option (sm_Res × sm_S)} (hc : ∀ pc ls n R x G L, L 342 = L0 342 → pl L0 (kc pc ls n R x G L)) (T : Nat → Instr) (ct : Nat → Nat) (hT : ∀ pc, lok2 (T pc) = true) (hr : ∀ r n R x G L, L 342 = L0 342 → pl L0 (rt r n R x G L)) (hcn : ∀ j n R as x G L, lf2 j = true → L 342 = L0 342 → pe L0 (cn j n R as (x, G, L))) : ∀ (F pc : Nat) (ls st : List Value) (n : Nat) (R : sm_R) (x : Nat) (G : sm_G) (L : sm_L), L 342 = L0 342 → pl L0 (sm_ev rt kc T ct hd cn cx F pc ls st n R x G L)
  | 0, _, _, _, _, _, _, _, _, _ => pl_n
  | F + 1, pc, ls, st, n, R, x, G, L, hz => by
    have ih := pl_ev hc T ct hT hr hcn F
    unfold sm_ev
    refine pr_cond (fun _ => pl_step T hT hr ih hcn _ _ _ _ _ _ _ _ hz) (fun _ => ?_)
    split
    · exact hc _ _ _ _ _ _ _ hz
    · exact pl_step T hT hr ih hcn _ _ _ _ _ _ _ _ hz
theorem pl_run (T : Nat → Instr) (ct : Nat → Nat) (hT : ∀ pc, lok2 (T pc) = true) (hcn : ∀ j n R as x G L, lf2 j = true → L 342 = L0 342 → pe L0 (cn j n R as (x, G, L))) : ∀ (F pc : Nat) (ls : List Value) (n : Nat) (R : sm_R) (x : Nat) (G : sm_G) (L : sm_L), L 342 = L0 342 → pl L0 (sm_run T ct hd cn cx F pc ls n R x G L)
  | 0, _, _, _, _, _, _, _, _ => pl_n
  | F + 1, pc, ls, n, R, x, G, L, hz => by
    show pl L0 (sm_blk sm_rS (sm_run T ct hd cn cx F) T ct hd cn cx pc ls n R x G L)
    unfold sm_blk
    have hr : ∀ r n R x G L, L 342 = L0 342 → pl L0 (sm_rS r n R x G L) := fun r n R x G L hz r' n' R' x' G' L' h => by
      cases h
      exact hz
    exact pl_step T hT hr (pl_ev (pl_run T ct hT hcn F) T ct hT hr hcn 2000) hcn _ _ _ _ _ _ _ _ hz
end PLL
def lfk2 (j : Nat) : Bool := (List.range (sm_la j + 1)).all fun pc => lok2 (sm_T j pc)
set_option maxRecDepth 100000 in
theorem lfk2_a : lfk2 301 = true ∧ lfk2 302 = true := by decide +kernel
theorem lok2_T {j : Nat} (h : j = 301 ∨ j = 302) : ∀ pc, lok2 (sm_T j pc) = true := by
  have hk : lfk2 j = true := by
    rcases h with rfl | rfl
    · exact lfk2_a.1
    · exact lfk2_a.2
  intro pc
  by_cases hp : pc ≤ sm_la j
  · exact List.all_eq_true.mp hk pc (List.mem_range.mpr (by omega))
  · have hn : sm_T j pc = .nop := sm_nopA (by omega) (sm_kn_m (by omega) (by omega)) pc (by omega)
    rw [hn]
    rfl
theorem pl_cw {L0 : sm_L} : ∀ (d j : Nat) (as : List Value) (n : Nat) (R : sm_R) (x : Nat) (G : sm_G) (L : sm_L), lf2 j = true → L 342 = L0 342 → pl L0 (sm_cw d j as (n, R, x, G, L))
  | 0, _, _, _, _, _, _, _, _, _ => pl_n
  | d + 1, j, as, n, R, x, G, L, hj, hz => by
    by_cases q : lf j = true
    · intro r n' R' x' G' L' h
      obtain ⟨h1, _⟩ := lr_cw (L2 := L) (d + 1) j as n R x G q _ _ _ _ _ _ h
      rw [h1]
      exact hz
    · have hj2 : j = 301 ∨ j = 302 := by
        unfold lf2 at hj
        rw [Bool.or_eq_true, Bool.or_eq_true] at hj
        rcases hj with (h | h) | h
        · exact absurd h q
        · exact Or.inl (Nat.eq_of_beq_eq_true h)
        · exact Or.inr (Nat.eq_of_beq_eq_true h)
      rw [sm_cw_succ]
      have hb : Nat.ble j 5 = false := by rcases hj2 with rfl | rfl <;> rfl
      rw [hb, cond_false]
      refine pr_cond (fun _ => ?_) (fun _ => pl_n)
      intro r n' R' x' G' L' h
      obtain ⟨F, h1⟩ := sm_lim_of h
      refine pl_run (sm_T j) (sm_ct j) (lok2_T hj2) (fun j n R as x G L hj hz r x' G' L' e => ?_) F 0 _ n R x G L hz r n' R' x' G' L' h1
      cases q : sm_cw d j as (n, R, x, G, L) with
      | none =>
        rw [q] at e
        cases e
      | some w =>
        rw [q] at e
        obtain ⟨r1, n1, R1, x1, G1, L1⟩ := w
        have := pl_cw d j as n R x G L hj hz _ _ _ _ _ _ q
        cases e
        exact this
theorem kl_cv {d j n : Nat} {R : sm_R} {as : List Value} {x x' : Nat} {G G' : sm_G} {L L' : sm_L} {r : sm_Res} (hj : lf2 j = true) (h : sm_cv0 d j n R as (x, G, L) = some (r, x', G', L')) : L' 342 = L 342 := by
  unfold sm_cv0 at h
  cases q : sm_cw d j as (n, R, x, G, L) with
  | none =>
    rw [q] at h
    cases h
  | some w =>
    rw [q] at h
    obtain ⟨r1, n1, R1, x1, G1, L1⟩ := w
    have := pl_cw (L0 := L) d j as n R x G L hj rfl _ _ _ _ _ _ q
    cases h
    exact this
