/-! what never looks at longs answers alike, whatever they are -/
def lf (j : Nat) : Bool := Nat.ble j 5 || (Nat.ble 212 j && Nat.ble j 333 && !(Nat.beq j 301) && !(Nat.beq j 302))
def lok (i : Instr) : Bool := match i with
  | .laload => false
  | .lastore => false
  | .getfield v => !Nat.beq (Nat.mod v 4) 1
  | .putfield v => !Nat.beq (Nat.mod v 4) 1
  | .new v => Nat.ble 40 (Nat.mod v 256)
  | .newarray _ => false
  | .anewarray _ => false
  | .multianewarray _ _ => false
  | .invokevirtual v => lf (Nat.mod v 1024)
  | .invokestatic v => lf (Nat.mod v 1024)
  | .invokespecial v => Nat.beq (Nat.mod v 1024) 1023 || lf (Nat.mod v 1024)
  | _ => true
theorem lf_lt {j : Nat} (h : lf j = true) : Nat.ble 512 j = false := by
  unfold lf at h
  cases q : Nat.ble 512 j with
  | false => rfl
  | true =>
    have q := Nat.le_of_ble_eq_true q
    rw [Bool.or_eq_true, Bool.and_eq_true, Bool.and_eq_true, Bool.and_eq_true] at h
    rcases h with h | h
    · have := Nat.le_of_ble_eq_true h
      omega
    · have := Nat.le_of_ble_eq_true h.1.1.2
      omega
def lr (L0 L2 : sm_L) (o o2 : Option (sm_Res × sm_S)) : Prop := ∀ r n R x G L', o = some (r, n, R, x, G, L') → L' = L0 ∧ o2 = some (r, n, R, x, G, L2)
def ld (L0 L2 : sm_L) (o o2 : Option (sm_Res × sm_D)) : Prop := ∀ r x G L', o = some (r, x, G, L') → L' = L0 ∧ o2 = some (r, x, G, L2)
section LRR
variable {L0 L2 : sm_L}
theorem lr_n {b : Option (sm_Res × sm_S)} : lr L0 L2 none b := fun _ _ _ _ _ _ h => by cases h
theorem lr_ite {P : Prop} [Decidable P] {a b a' b' : Option (sm_Res × sm_S)} (h1 : lr L0 L2 a a') (h2 : lr L0 L2 b b') : lr L0 L2 (if P then a else b) (if P then a' else b') := by
  split
  · exact h1
  · exact h2
theorem lr_cond {c : Bool} {a b a' b' : Option (sm_Res × sm_S)} (h1 : c = true → lr L0 L2 a a') (h2 : c = false → lr L0 L2 b b') : lr L0 L2 (bif c then a else b) (bif c then a' else b') := by
  cases c
  · exact h2 rfl
  · exact h1 rfl
theorem lr_i1 {st : List Value} {f g : Int32 → List Value → Option (sm_Res × sm_S)} (h : ∀ a r, lr L0 L2 (f a r) (g a r)) : lr L0 L2 (sm_i1 st f) (sm_i1 st g) := by
  unfold sm_i1
  split
  · exact h _ _
  · exact lr_n
theorem lr_i2 {st : List Value} {f g : Int32 → Int32 → List Value → Option (sm_Res × sm_S)} (h : ∀ a b r, lr L0 L2 (f a b r) (g a b r)) : lr L0 L2 (sm_i2 st f) (sm_i2 st g) := by
  unfold sm_i2
  split
  · exact h _ _ _
  · exact lr_n
theorem lr_l1 {st : List Value} {f g : Int64 → List Value → Option (sm_Res × sm_S)} (h : ∀ a r, lr L0 L2 (f a r) (g a r)) : lr L0 L2 (sm_l1 st f) (sm_l1 st g) := by
  unfold sm_l1
  split
  · exact h _ _
  · exact lr_n
theorem lr_l2 {st : List Value} {f g : Int64 → Int64 → List Value → Option (sm_Res × sm_S)} (h : ∀ a b r, lr L0 L2 (f a b r) (g a b r)) : lr L0 L2 (sm_l2 st f) (sm_l2 st g) := by
  unfold sm_l2
  split
  · exact h _ _ _
  · exact lr_n
theorem lr_li {st : List Value} {f g : Int64 → Int32 → List Value → Option (sm_Res × sm_S)} (h : ∀ a b r, lr L0 L2 (f a b r) (g a b r)) : lr L0 L2 (sm_li st f) (sm_li st g) := by
  unfold sm_li
  split
  · exact h _ _ _
  · exact lr_n
theorem lr_r1 {st : List Value} {f g : Nat → List Value → Option (sm_Res × sm_S)} (h : ∀ a r, lr L0 L2 (f a r) (g a r)) : lr L0 L2 (sm_r1 st f) (sm_r1 st g) := by
  unfold sm_r1
  split
  · exact h _ _
  · exact lr_n
theorem lr_ri {st : List Value} {f g : Nat → Int32 → List Value → Option (sm_Res × sm_S)} (h : ∀ a b r, lr L0 L2 (f a b r) (g a b r)) : lr L0 L2 (sm_ri st f) (sm_ri st g) := by
  unfold sm_ri
  split
  · exact h _ _ _
  · exact lr_n
theorem lr_rii {st : List Value} {f g : Nat → Int32 → Int32 → List Value → Option (sm_Res × sm_S)} (h : ∀ a b c r, lr L0 L2 (f a b c r) (g a b c r)) : lr L0 L2 (sm_rii st f) (sm_rii st g) := by
  unfold sm_rii
  split
  · exact h _ _ _ _
  · exact lr_n
theorem lr_ril {st : List Value} {f g : Nat → Int32 → Int64 → List Value → Option (sm_Res × sm_S)} (h : ∀ a b c r, lr L0 L2 (f a b c r) (g a b c r)) : lr L0 L2 (sm_ril st f) (sm_ril st g) := by
  unfold sm_ril
  split
  · exact h _ _ _ _
  · exact lr_n
theorem lr_rir {st : List Value} {f g : Nat → Int32 → Nat → List Value → Option (sm_Res × sm_S)} (h : ∀ a b c r, lr L0 L2 (f a b c r) (g a b c r)) : lr L0 L2 (sm_rir st f) (sm_rir st g) := by
  unfold sm_rir
  split
  · exact h _ _ _ _
  · exact lr_n
theorem lr_sw {α : Type} {a : Int32} {d d' : Option (sm_Res × sm_S)} {f g : α → Option (sm_Res × sm_S)} (h1 : lr L0 L2 d d') (h2 : ∀ t, lr L0 L2 (f t) (g t)) : ∀ (l : List α) (z : Int), lr L0 L2 (sm_sw a d z (l.map f)) (sm_sw a d' z (l.map g))
  | [], _ => h1
  | t :: r, z => by
    show lr L0 L2 (if a = Int32.ofInt z then f t else sm_sw a d (z + 1) (r.map f)) (if a = Int32.ofInt z then g t else sm_sw a d' (z + 1) (r.map g))
    exact lr_ite (h2 t) (lr_sw h1 h2 r (z + 1))
theorem lr_lsw {α : Type} {a : Int32} {d d' : Option (sm_Res × sm_S)} {k : α → Int} {f g : α → Option (sm_Res × sm_S)} (h1 : lr L0 L2 d d') (h2 : ∀ t, lr L0 L2 (f t) (g t)) : ∀ (l : List α), lr L0 L2 (sm_lsw a d (l.map fun t => (k t, f t))) (sm_lsw a d' (l.map fun t => (k t, g t)))
  | [] => h1
  | t :: r => by
    show lr L0 L2 (if a = Int32.ofInt (k t) then f t else sm_lsw a d (r.map fun t => (k t, f t))) (if a = Int32.ofInt (k t) then g t else sm_lsw a d' (r.map fun t => (k t, g t)))
    exact lr_ite (h2 t) (lr_lsw h1 h2 r)
theorem lr_aV {o o' : Option (sm_Res × sm_D)} {f : Nat → sm_G → sm_L → Option (sm_Res × sm_S)} {fx : Nat → Nat → sm_G → sm_L → Option (sm_Res × sm_S)} (h : ld L0 L2 o o') (h1 : ∀ x G, lr L0 L2 (f x G L0) (f x G L2)) (h2 : ∀ e x G, lr L0 L2 (fx e x G L0) (fx e x G L2)) : lr L0 L2 (sm_aV o f fx) (sm_aV o' f fx) := by
  cases o with
  | none => exact lr_n
  | some w =>
    obtain ⟨r, x, G, L'⟩ := w
    obtain ⟨rfl, h9⟩ := h _ _ _ _ rfl
    rw [h9]
    cases r with
    | inr e => exact h2 _ _ _
    | inl v =>
      cases v with
      | none => exact h1 _ _
      | some v => exact lr_n
theorem lr_aI {o o' : Option (sm_Res × sm_D)} {f : Int32 → Nat → sm_G → sm_L → Option (sm_Res × sm_S)} {fx : Nat → Nat → sm_G → sm_L → Option (sm_Res × sm_S)} (h : ld L0 L2 o o') (h1 : ∀ a x G, lr L0 L2 (f a x G L0) (f a x G L2)) (h2 : ∀ e x G, lr L0 L2 (fx e x G L0) (fx e x G L2)) : lr L0 L2 (sm_aI o f fx) (sm_aI o' f fx) := by
  cases o with
  | none => exact lr_n
  | some w =>
    obtain ⟨r, x, G, L'⟩ := w
    obtain ⟨rfl, h9⟩ := h _ _ _ _ rfl
    rw [h9]
    cases r with
    | inr e => exact h2 _ _ _
    | inl v =>
      cases v with
      | none => exact lr_n
      | some v =>
        cases v with
        | int a => exact h1 _ _ _
        | _ => exact lr_n
theorem lr_aL {o o' : Option (sm_Res × sm_D)} {f : Int64 → Nat → sm_G → sm_L → Option (sm_Res × sm_S)} {fx : Nat → Nat → sm_G → sm_L → Option (sm_Res × sm_S)} (h : ld L0 L2 o o') (h1 : ∀ a x G, lr L0 L2 (f a x G L0) (f a x G L2)) (h2 : ∀ e x G, lr L0 L2 (fx e x G L0) (fx e x G L2)) : lr L0 L2 (sm_aL o f fx) (sm_aL o' f fx) := by
  cases o with
  | none => exact lr_n
  | some w =>
    obtain ⟨r, x, G, L'⟩ := w
    obtain ⟨rfl, h9⟩ := h _ _ _ _ rfl
    rw [h9]
    cases r with
    | inr e => exact h2 _ _ _
    | inl v =>
      cases v with
      | none => exact lr_n
      | some v =>
        cases v with
        | long a => exact h1 _ _ _
        | _ => exact lr_n
theorem lr_aR {o o' : Option (sm_Res × sm_D)} {f : Nat → Nat → sm_G → sm_L → Option (sm_Res × sm_S)} {fx : Nat → Nat → sm_G → sm_L → Option (sm_Res × sm_S)} (h : ld L0 L2 o o') (h1 : ∀ a x G, lr L0 L2 (f a x G L0) (f a x G L2)) (h2 : ∀ e x G, lr L0 L2 (fx e x G L0) (fx e x G L2)) : lr L0 L2 (sm_aR o f fx) (sm_aR o' f fx) := by
  cases o with
  | none => exact lr_n
  | some w =>
    obtain ⟨r, x, G, L'⟩ := w
    obtain ⟨rfl, h9⟩ := h _ _ _ _ rfl
    rw [h9]
    cases r with
    | inr e => exact h2 _ _ _
    | inl v =>
      cases v with
      | none => exact lr_n
      | some v =>
        cases v with
        | ref a => exact h1 _ _ _
        | _ => exact lr_n
variable {rt : sm_Res → Nat → sm_R → Nat → sm_G → sm_L → Option (sm_Res × sm_S)} {k : Nat → List Value → List Value → Nat → sm_R → Nat → sm_G → sm_L → Option (sm_Res × sm_S)} {hd : Nat → Nat → Nat} {cn : sm_CN} {cx : sm_CX}
theorem lr_exc (hr : ∀ r n R x G, lr L0 L2 (rt r n R x G L0) (rt r n R x G L2)) (hk : ∀ pc ls st n R x G, lr L0 L2 (k pc ls st n R x G L0) (k pc ls st n R x G L2)) {pc : Nat} {ls : List Value} {n : Nat} {R : sm_R} {e x : Nat} {G : sm_G} : lr L0 L2 (sm_exc rt hd pc ls n R k e x G L0) (sm_exc rt hd pc ls n R k e x G L2) := by
  unfold sm_exc
  exact lr_cond (fun _ => hr _ _ _ _ _) (fun _ => lr_cond (fun _ => lr_n) (fun _ => hk _ _ _ _ _ _ _))
theorem lr_inv (hr : ∀ r n R x G, lr L0 L2 (rt r n R x G L0) (rt r n R x G L2)) (hk : ∀ pc ls st n R x G, lr L0 L2 (k pc ls st n R x G L0) (k pc ls st n R x G L2)) (hn : ∀ j n R as x G, lf j = true → ld L0 L2 (cn j n R as (x, G, L0)) (cn j n R as (x, G, L2))) {pc : Nat} {ls : List Value} {v : Nat} (hv : lf (Nat.mod v 1024) = true) {st : List Value} {n : Nat} {R : sm_R} {x : Nat} {G : sm_G} : lr L0 L2 (sm_inv rt hd cn cx pc ls v st n R x G L0 k) (sm_inv rt hd cn cx pc ls v st n R x G L2 k) := by
  unfold sm_inv
  split
  · exact lr_n
  · refine lr_cond (fun _ => lr_cond (fun h => by rw [lf_lt hv] at h; cases h) (fun _ => lr_cond (fun _ => lr_aV (hn _ _ _ _ _ _ hv) (fun _ _ => hk _ _ _ _ _ _ _) (fun _ _ _ => lr_exc hr hk)) (fun _ => lr_cond (fun _ => lr_aI (hn _ _ _ _ _ _ hv) (fun _ _ _ => hk _ _ _ _ _ _ _) (fun _ _ _ => lr_exc hr hk)) (fun _ => lr_cond (fun _ => lr_aL (hn _ _ _ _ _ _ hv) (fun _ _ _ => hk _ _ _ _ _ _ _) (fun _ _ _ => lr_exc hr hk)) (fun _ => lr_aR (hn _ _ _ _ _ _ hv) (fun _ _ _ => hk _ _ _ _ _ _ _) (fun _ _ _ => lr_exc hr hk)))))) (fun _ => lr_n)
theorem lr_step (T : Nat → Instr) (hT : ∀ pc, lok (T pc) = true) (hr : ∀ r n R x G, lr L0 L2 (rt r n R x G L0) (rt r n R x G L2)) (hk : ∀ pc ls st n R x G, lr L0 L2 (k pc ls st n R x G L0) (k pc ls st n R x G L2)) (hn : ∀ j n R as x G, lf j = true → ld L0 L2 (cn j n R as (x, G, L0)) (cn j n R as (x, G, L2))) (pc : Nat) (ls st : List Value) (n : Nat) (R : sm_R) (x : Nat) (G : sm_G) : lr L0 L2 (sm_step rt T hd cn cx pc ls st n R x G L0 k) (sm_step rt T hd cn cx pc ls st n R x G L2 k) := by
  have hi := hT pc
  unfold sm_step
  generalize T pc = i at *
  have K := hk
  cases i
  case ifCond c t => cases c <;> exact lr_i1 (fun _ _ => lr_ite (K _ _ _ _ _ _ _) (K _ _ _ _ _ _ _))
  case if_icmp c t => cases c <;> exact lr_i2 (fun _ _ _ => lr_ite (K _ _ _ _ _ _ _) (K _ _ _ _ _ _ _))
  case tableswitch d lo hi ts => exact lr_i1 (fun _ _ => lr_sw (K _ _ _ _ _ _ _) (fun _ => K _ _ _ _ _ _ _) _ _)
  case lookupswitch d ps => exact lr_i1 (fun _ _ => lr_lsw (K _ _ _ _ _ _ _) (fun _ => K _ _ _ _ _ _ _) _)
  case laload => exact absurd hi (by decide)
  case lastore => exact absurd hi (by decide)
  case newarray t => exact Bool.noConfusion (show false = true from hi)
  case anewarray v => exact Bool.noConfusion (show false = true from hi)
  case multianewarray v w => exact Bool.noConfusion (show false = true from hi)
  case new v =>
    have hi : Nat.ble 40 (Nat.mod v 256) = true := hi
    refine lr_cond (fun _ => lr_cond (fun _ => hr _ _ _ _ _) (fun _ => lr_n)) (fun h => ?_)
    rw [hi] at h
    cases h
  case getfield v =>
    have hi : (!Nat.beq (Nat.mod v 4) 1) = true := hi
    rw [Bool.not_eq_true'] at hi
    exact lr_r1 (fun _ _ => lr_cond (fun _ => lr_cond (fun _ => K _ _ _ _ _ _ _) (fun _ => lr_cond (fun h => by rw [hi] at h; cases h) (fun _ => K _ _ _ _ _ _ _))) (fun _ => lr_n))
  case putfield v =>
    have hi : (!Nat.beq (Nat.mod v 4) 1) = true := hi
    rw [Bool.not_eq_true'] at hi
    dsimp only
    split
    · exact lr_cond (fun _ => lr_cond (fun _ => K _ _ _ _ _ _ _) (fun _ => lr_cond (fun _ => lr_ite (K _ _ _ _ _ _ _) lr_n) (fun _ => lr_n))) (fun _ => lr_n)
    · exact lr_cond (fun h => by rw [hi, Bool.and_false] at h; cases h) (fun _ => lr_n)
    · exact lr_cond (fun _ => K _ _ _ _ _ _ _) (fun _ => lr_n)
    · exact lr_n
  case invokevirtual v => exact lr_inv hr hk hn hi
  case invokestatic v => exact lr_inv hr hk hn hi
  case invokespecial v =>
    have hi : (Nat.beq (Nat.mod v 1024) 1023 || lf (Nat.mod v 1024)) = true := hi
    refine lr_cond (fun _ => lr_r1 (fun _ _ => lr_cond (fun _ => K _ _ _ _ _ _ _) (fun _ => lr_n))) (fun h => lr_inv hr hk hn ?_)
    rw [h, Bool.false_or] at hi
    exact hi
  all_goals try dsimp only
  all_goals first
    | exact lr_n
    | exact K _ _ _ _ _ _ _
    | exact lr_i1 (fun _ _ => K _ _ _ _ _ _ _)
    | exact lr_i2 (fun _ _ _ => K _ _ _ _ _ _ _)
    | exact lr_l1 (fun _ _ => K _ _ _ _ _ _ _)
    | exact lr_l2 (fun _ _ _ => K _ _ _ _ _ _ _)
    | exact lr_li (fun _ _ _ => K _ _ _ _ _ _ _)
    | exact lr_r1 (fun _ _ => K _ _ _ _ _ _ _)
    | exact lr_ri (fun _ _ _ => K _ _ _ _ _ _ _)
    | exact lr_i2 (fun _ _ _ => lr_ite lr_n (K _ _ _ _ _ _ _))
    | exact lr_l2 (fun _ _ _ => lr_ite lr_n (K _ _ _ _ _ _ _))
    | exact lr_l2 (fun _ _ _ => lr_ite (K _ _ _ _ _ _ _) (lr_ite (K _ _ _ _ _ _ _) (K _ _ _ _ _ _ _)))
    | exact lr_cond (fun _ => K _ _ _ _ _ _ _) (fun _ => K _ _ _ _ _ _ _)
    | exact lr_ri (fun _ _ _ => lr_cond (fun _ => lr_cond (fun _ => K _ _ _ _ _ _ _) (fun _ => lr_n)) (fun _ => lr_cond (fun _ => K _ _ _ _ _ _ _) (fun _ => lr_n)))
    | exact lr_ri (fun _ _ _ => lr_cond (fun _ => lr_cond (fun _ => K _ _ _ _ _ _ _) (fun _ => lr_n)) (fun _ => lr_n))
    | exact lr_rii (fun _ _ _ _ => lr_cond (fun _ => lr_cond (fun _ => K _ _ _ _ _ _ _) (fun _ => lr_n)) (fun _ => lr_n))
    | exact lr_rii (fun _ _ _ _ => lr_cond (fun _ => lr_cond (fun _ => K _ _ _ _ _ _ _) (fun _ => lr_n)) (fun _ => lr_cond (fun _ => lr_cond (fun _ => lr_ite (K _ _ _ _ _ _ _) lr_n) (fun _ => lr_n)) (fun _ => lr_n)))
    | exact lr_rir (fun _ _ _ _ => lr_cond (fun _ => lr_cond (fun _ => K _ _ _ _ _ _ _) (fun _ => lr_n)) (fun _ => lr_n))
    | exact lr_r1 (fun _ _ => lr_cond (fun _ => K _ _ _ _ _ _ _) (fun _ => lr_cond (fun _ => K _ _ _ _ _ _ _) (fun _ => lr_n)))
    | (split <;> first | exact lr_n | exact K _ _ _ _ _ _ _ | exact hr _ _ _ _ _ | exact lr_ite (hr _ _ _ _ _) lr_n | exact lr_cond (fun _ => hr _ _ _ _ _) (fun _ => lr_n))
theorem lr_ev {kc : Nat → List Value → Nat → sm_R → Nat → sm_G → sm_L → Option (sm_Res × sm_S)} (hc : ∀ pc ls n R x G, lr L0 L2 (kc pc ls n R x G L0) (kc pc ls n R x G L2)) (T : Nat → Instr) (ct : Nat → Nat) (hT : ∀ pc, lok (T pc) = true) (hr : ∀ r n R x G, lr L0 L2 (rt r n R x G L0) (rt r n R x G L2)) (hn : ∀ j n R as x G, lf j = true → ld L0 L2 (cn j n R as (x, G, L0)) (cn j n R as (x, G, L2))) : ∀ (F pc : Nat) (ls st : List Value) (n : Nat) (R : sm_R) (x : Nat) (G : sm_G), lr L0 L2 (sm_ev rt kc T ct hd cn cx F pc ls st n R x G L0) (sm_ev rt kc T ct hd cn cx F pc ls st n R x G L2)
  | 0, _, _, _, _, _, _, _ => lr_n
  | F + 1, pc, ls, st, n, R, x, G => by
    have ih := lr_ev hc T ct hT hr hn F
    unfold sm_ev
    refine lr_cond (fun _ => lr_step T hT hr ih hn _ _ _ _ _ _ _) (fun _ => ?_)
    split
    · exact hc _ _ _ _ _ _
    · exact lr_step T hT hr ih hn _ _ _ _ _ _ _
theorem lr_run (T : Nat → Instr) (ct : Nat → Nat) (hT : ∀ pc, lok (T pc) = true) (hn : ∀ j n R as x G, lf j = true → ld L0 L2 (cn j n R as (x, G, L0)) (cn j n R as (x, G, L2))) : ∀ (F pc : Nat) (ls : List Value) (n : Nat) (R : sm_R) (x : Nat) (G : sm_G), lr L0 L2 (sm_run T ct hd cn cx F pc ls n R x G L0) (sm_run T ct hd cn cx F pc ls n R x G L2)
  | 0, _, _, _, _, _, _ => lr_n
  | F + 1, pc, ls, n, R, x, G => by
    show lr L0 L2 (sm_blk sm_rS (sm_run T ct hd cn cx F) T ct hd cn cx pc ls n R x G L0) (sm_blk sm_rS (sm_run T ct hd cn cx F) T ct hd cn cx pc ls n R x G L2)
    unfold sm_blk
    have hr : ∀ r n R x G, lr L0 L2 (sm_rS r n R x G L0) (sm_rS r n R x G L2) := fun r n R x G r' n' R' x' G' L' h => by
      cases h
      exact ⟨rfl, rfl⟩
    exact lr_step T hT hr (lr_ev (lr_run T ct hT hn F) T ct hT hr hn 2000) hn _ _ _ _ _ _ _
end LRR
def lfk (j : Nat) : Bool := (List.range (sm_la j + 1)).all fun pc => lok (sm_T j pc)
set_option maxRecDepth 100000 in
theorem lfk_212 : (List.range' 212 12).all lfk = true := by decide +kernel
set_option maxRecDepth 100000 in
theorem lfk_224 : (List.range' 224 12).all lfk = true := by decide +kernel
set_option maxRecDepth 100000 in
theorem lfk_236 : (List.range' 236 12).all lfk = true := by decide +kernel
set_option maxRecDepth 100000 in
theorem lfk_248 : (List.range' 248 12).all lfk = true := by decide +kernel
set_option maxRecDepth 100000 in
theorem lfk_260 : (List.range' 260 12).all lfk = true := by decide +kernel
set_option maxRecDepth 100000 in
theorem lfk_272 : (List.range' 272 12).all lfk = true := by decide +kernel
set_option maxRecDepth 100000 in
theorem lfk_284 : (List.range' 284 12).all lfk = true := by decide +kernel
set_option maxRecDepth 100000 in
theorem lfk_296 : (List.range' 296 5).all lfk = true := by decide +kernel
set_option maxRecDepth 100000 in
theorem lfk_303 : (List.range' 303 8).all lfk = true := by decide +kernel
set_option maxRecDepth 100000 in
theorem lfk_311 : (List.range' 311 12).all lfk = true := by decide +kernel
set_option maxRecDepth 100000 in
theorem lfk_323 : (List.range' 323 11).all lfk = true := by decide +kernel
theorem sm_kn_m {j : Nat} (h1 : 212 ≤ j) (h2 : j ≤ 333) : sm_kn j = true := by
  unfold sm_kn
  rw [Nat.ble_eq_true_of_le (show 6 ≤ j by omega), Nat.ble_eq_true_of_le h2]
  simp
theorem lok_T {j : Nat} (h5 : 5 < j) (h : lf j = true) : ∀ pc, lok (sm_T j pc) = true := by
  unfold lf at h
  rw [Bool.or_eq_true, Bool.and_eq_true, Bool.and_eq_true, Bool.and_eq_true] at h
  have h1 : 212 ≤ j ∧ j ≤ 333 ∧ j ≠ 301 ∧ j ≠ 302 := by
    rcases h with h | ⟨⟨⟨h1, h2⟩, h3⟩, h4⟩
    · have := Nat.le_of_ble_eq_true h
      omega
    · refine ⟨Nat.le_of_ble_eq_true h1, Nat.le_of_ble_eq_true h2, fun q => ?_, fun q => ?_⟩
      · rw [q] at h3
        exact absurd h3 (by decide)
      · rw [q] at h4
        exact absurd h4 (by decide)
  have hk : lfk j = true := by
    by_cases q212 : 212 ≤ j ∧ j ≤ 223
    · exact List.all_eq_true.mp lfk_212 j (List.mem_range'_1.mpr (by omega))
    by_cases q224 : 224 ≤ j ∧ j ≤ 235
    · exact List.all_eq_true.mp lfk_224 j (List.mem_range'_1.mpr (by omega))
    by_cases q236 : 236 ≤ j ∧ j ≤ 247
    · exact List.all_eq_true.mp lfk_236 j (List.mem_range'_1.mpr (by omega))
    by_cases q248 : 248 ≤ j ∧ j ≤ 259
    · exact List.all_eq_true.mp lfk_248 j (List.mem_range'_1.mpr (by omega))
    by_cases q260 : 260 ≤ j ∧ j ≤ 271
    · exact List.all_eq_true.mp lfk_260 j (List.mem_range'_1.mpr (by omega))
    by_cases q272 : 272 ≤ j ∧ j ≤ 283
    · exact List.all_eq_true.mp lfk_272 j (List.mem_range'_1.mpr (by omega))
    by_cases q284 : 284 ≤ j ∧ j ≤ 295
    · exact List.all_eq_true.mp lfk_284 j (List.mem_range'_1.mpr (by omega))
    by_cases q296 : 296 ≤ j ∧ j ≤ 300
    · exact List.all_eq_true.mp lfk_296 j (List.mem_range'_1.mpr (by omega))
    by_cases q303 : 303 ≤ j ∧ j ≤ 310
    · exact List.all_eq_true.mp lfk_303 j (List.mem_range'_1.mpr (by omega))
    by_cases q311 : 311 ≤ j ∧ j ≤ 322
    · exact List.all_eq_true.mp lfk_311 j (List.mem_range'_1.mpr (by omega))
    exact List.all_eq_true.mp lfk_323 j (List.mem_range'_1.mpr (by omega))
  intro pc
  by_cases hp : pc ≤ sm_la j
  · exact List.all_eq_true.mp hk pc (List.mem_range.mpr (by omega))
  · have hn : sm_T j pc = .nop := sm_nopA h5 (sm_kn_m h1.1 h1.2.1) pc (by omega)
    rw [hn]
    rfl
theorem lr_bi {L0 L2 : sm_L} {j : Nat} {as : List Value} {n : Nat} {R : sm_R} {x : Nat} {G : sm_G} : lr L0 L2 (sm_bi j as (n, R, x, G, L0)) (sm_bi j as (n, R, x, G, L2)) := by
  have hr : ∀ (r : sm_Res) (n : Nat) (R : sm_R) (x : Nat) (G : sm_G), lr L0 L2 (some (r, n, R, x, G, L0)) (some (r, n, R, x, G, L2)) := fun r n R x G r' n' R' x' G' L' h => by
    cases h
    exact ⟨rfl, rfl⟩
  unfold sm_bi
  refine lr_cond (fun _ => ?_) (fun _ => lr_cond (fun _ => ?_) (fun _ => lr_cond (fun _ => ?_) (fun _ => lr_cond (fun _ => ?_) (fun _ => ?_))))
  all_goals
    try dsimp only
    split
    · first | exact hr _ _ _ _ _ | exact lr_cond (fun _ => hr _ _ _ _ _) (fun _ => lr_n)
    · exact lr_n
theorem lr_cw {L0 L2 : sm_L} : ∀ (d j : Nat) (as : List Value) (n : Nat) (R : sm_R) (x : Nat) (G : sm_G), lf j = true → lr L0 L2 (sm_cw d j as (n, R, x, G, L0)) (sm_cw d j as (n, R, x, G, L2))
  | 0, _, _, _, _, _, _, _ => lr_n
  | d + 1, j, as, n, R, x, G, hj => by
    rw [sm_cw_succ, sm_cw_succ]
    refine lr_cond (fun _ => lr_bi) (fun hb => lr_cond (fun _ => ?_) (fun _ => lr_n))
    have h5 : 5 < j := by
      rcases Nat.lt_or_ge 5 j with q | q
      · exact q
      · rw [Nat.ble_eq_true_of_le q] at hb
        cases hb
    intro r n' R' x' G' L' h
    obtain ⟨F, h1⟩ := sm_lim_of h
    have hn : ∀ j n R as x G, lf j = true → ld L0 L2 (sm_dr (sm_cw d j as (n, R, x, G, L0))) (sm_dr (sm_cw d j as (n, R, x, G, L2))) := fun j n R as x G hj r x' G' L' e => by
      cases q : sm_cw d j as (n, R, x, G, L0) with
      | none =>
        rw [q] at e
        cases e
      | some w =>
        rw [q] at e
        obtain ⟨r1, n1, R1, x1, G1, L1⟩ := w
        obtain ⟨h2, h3⟩ := lr_cw d j as n R x G hj _ _ _ _ _ _ q
        cases e
        exact ⟨h2, by rw [h3]; rfl⟩
    obtain ⟨h2, h3⟩ := lr_run (sm_T j) (sm_ct j) (lok_T h5 hj) hn F 0 _ n R x G r n' R' x' G' L' h1
    exact ⟨h2, sm_rl_of (sm_T j) (sm_ct j) (sm_hd j) _ _ (F := F) h3⟩
/-- a call of the model answers alike, whatever the longs are -/
theorem cv_L {d j n : Nat} {R : sm_R} {as : List Value} {x x' : Nat} {G G' : sm_G} {L L' : sm_L} {r : sm_Res} (hj : lf j = true) (h : sm_cv0 d j n R as (x, G, L) = some (r, x', G', L')) (L2 : sm_L) : sm_cv0 d j n R as (x, G, L2) = some (r, x', G', L2) := by
  unfold sm_cv0 at h ⊢
  cases q : sm_cw d j as (n, R, x, G, L) with
  | none =>
    rw [q] at h
    cases h
  | some w =>
    rw [q] at h
    obtain ⟨r1, n1, R1, x1, G1, L1⟩ := w
    obtain ⟨h2, h3⟩ := lr_cw (L2 := L2) d j as n R x G hj _ _ _ _ _ _ q
    cases h
    rw [h3]
    rfl
