/-! more calls one in another change no answer -/
def ole {β : Type} (a b : Option β) : Prop := ∀ o, a = some o → b = some o
section OLE
variable {β : Type}
theorem ole_r {a : Option β} : ole a a := fun _ h => h
theorem ole_n {b : Option β} : ole none b := fun _ h => by cases h
theorem ole_ite {P : Prop} [Decidable P] {a b a' b' : Option β} (h1 : ole a a') (h2 : ole b b') : ole (if P then a else b) (if P then a' else b') := by
  split
  · exact h1
  · exact h2
theorem ole_cond {c : Bool} {a b a' b' : Option β} (h1 : ole a a') (h2 : ole b b') : ole (bif c then a else b) (bif c then a' else b') := by
  cases c
  · exact h2
  · exact h1
theorem ole_i1 {st : List Value} {f g : Int32 → List Value → Option β} (h : ∀ a r, ole (f a r) (g a r)) : ole (sm_i1 st f) (sm_i1 st g) := by
  unfold sm_i1
  split
  · exact h _ _
  · exact ole_n
theorem ole_i2 {st : List Value} {f g : Int32 → Int32 → List Value → Option β} (h : ∀ a b r, ole (f a b r) (g a b r)) : ole (sm_i2 st f) (sm_i2 st g) := by
  unfold sm_i2
  split
  · exact h _ _ _
  · exact ole_n
theorem ole_l1 {st : List Value} {f g : Int64 → List Value → Option β} (h : ∀ a r, ole (f a r) (g a r)) : ole (sm_l1 st f) (sm_l1 st g) := by
  unfold sm_l1
  split
  · exact h _ _
  · exact ole_n
theorem ole_l2 {st : List Value} {f g : Int64 → Int64 → List Value → Option β} (h : ∀ a b r, ole (f a b r) (g a b r)) : ole (sm_l2 st f) (sm_l2 st g) := by
  unfold sm_l2
  split
  · exact h _ _ _
  · exact ole_n
theorem ole_li {st : List Value} {f g : Int64 → Int32 → List Value → Option β} (h : ∀ a b r, ole (f a b r) (g a b r)) : ole (sm_li st f) (sm_li st g) := by
  unfold sm_li
  split
  · exact h _ _ _
  · exact ole_n
theorem ole_r1 {st : List Value} {f g : Nat → List Value → Option β} (h : ∀ a r, ole (f a r) (g a r)) : ole (sm_r1 st f) (sm_r1 st g) := by
  unfold sm_r1
  split
  · exact h _ _
  · exact ole_n
theorem ole_ri {st : List Value} {f g : Nat → Int32 → List Value → Option β} (h : ∀ a b r, ole (f a b r) (g a b r)) : ole (sm_ri st f) (sm_ri st g) := by
  unfold sm_ri
  split
  · exact h _ _ _
  · exact ole_n
theorem ole_rii {st : List Value} {f g : Nat → Int32 → Int32 → List Value → Option β} (h : ∀ a b c r, ole (f a b c r) (g a b c r)) : ole (sm_rii st f) (sm_rii st g) := by
  unfold sm_rii
  split
  · exact h _ _ _ _
  · exact ole_n
theorem ole_ril {st : List Value} {f g : Nat → Int32 → Int64 → List Value → Option β} (h : ∀ a b c r, ole (f a b c r) (g a b c r)) : ole (sm_ril st f) (sm_ril st g) := by
  unfold sm_ril
  split
  · exact h _ _ _ _
  · exact ole_n
theorem ole_rir {st : List Value} {f g : Nat → Int32 → Nat → List Value → Option β} (h : ∀ a b c r, ole (f a b c r) (g a b c r)) : ole (sm_rir st f) (sm_rir st g) := by
  unfold sm_rir
  split
  · exact h _ _ _ _
  · exact ole_n
theorem ole_aV {o o' : Option (sm_Res × sm_D)} {f g : Nat → sm_G → sm_L → Option β} {fx gx : Nat → Nat → sm_G → sm_L → Option β} (h : ole o o') (h1 : ∀ x G L, ole (f x G L) (g x G L)) (h2 : ∀ e x G L, ole (fx e x G L) (gx e x G L)) : ole (sm_aV o f fx) (sm_aV o' g gx) := by
  cases o with
  | none => exact ole_n
  | some q =>
    rw [h q rfl]
    unfold sm_aV
    split
    · exact h1 _ _ _
    · exact h2 _ _ _ _
    · exact ole_n
theorem ole_aI {o o' : Option (sm_Res × sm_D)} {f g : Int32 → Nat → sm_G → sm_L → Option β} {fx gx : Nat → Nat → sm_G → sm_L → Option β} (h : ole o o') (h1 : ∀ a x G L, ole (f a x G L) (g a x G L)) (h2 : ∀ e x G L, ole (fx e x G L) (gx e x G L)) : ole (sm_aI o f fx) (sm_aI o' g gx) := by
  cases o with
  | none => exact ole_n
  | some q =>
    rw [h q rfl]
    unfold sm_aI
    split
    · exact h1 _ _ _ _
    · exact h2 _ _ _ _
    · exact ole_n
theorem ole_aL {o o' : Option (sm_Res × sm_D)} {f g : Int64 → Nat → sm_G → sm_L → Option β} {fx gx : Nat → Nat → sm_G → sm_L → Option β} (h : ole o o') (h1 : ∀ a x G L, ole (f a x G L) (g a x G L)) (h2 : ∀ e x G L, ole (fx e x G L) (gx e x G L)) : ole (sm_aL o f fx) (sm_aL o' g gx) := by
  cases o with
  | none => exact ole_n
  | some q =>
    rw [h q rfl]
    unfold sm_aL
    split
    · exact h1 _ _ _ _
    · exact h2 _ _ _ _
    · exact ole_n
theorem ole_aR {o o' : Option (sm_Res × sm_D)} {f g : Nat → Nat → sm_G → sm_L → Option β} {fx gx : Nat → Nat → sm_G → sm_L → Option β} (h : ole o o') (h1 : ∀ a x G L, ole (f a x G L) (g a x G L)) (h2 : ∀ e x G L, ole (fx e x G L) (gx e x G L)) : ole (sm_aR o f fx) (sm_aR o' g gx) := by
  cases o with
  | none => exact ole_n
  | some q =>
    rw [h q rfl]
    unfold sm_aR
    split
    · exact h1 _ _ _ _
    · exact h2 _ _ _ _
    · exact ole_n
theorem ole_bV {o o' : Option (sm_Res × sm_S)} {f g : Option Value → sm_S → Option β} {fx gx : Nat → sm_S → Option β} (h : ole o o') (h1 : ∀ a S, ole (f a S) (g a S)) (h2 : ∀ e S, ole (fx e S) (gx e S)) : ole (sm_bV o f fx) (sm_bV o' g gx) := by
  cases o with
  | none => exact ole_n
  | some q =>
    rw [h q rfl]
    unfold sm_bV
    split
    · exact h1 _ _
    · exact h2 _ _
    · exact ole_n
theorem ole_sw {α : Type} {a : Int32} {d d' : Option β} {f g : α → Option β} (h1 : ole d d') (h2 : ∀ t, ole (f t) (g t)) : ∀ (l : List α) (z : Int), ole (sm_sw a d z (l.map f)) (sm_sw a d' z (l.map g))
  | [], _ => h1
  | t :: r, z => by
    show ole (if a = Int32.ofInt z then f t else sm_sw a d (z + 1) (r.map f)) (if a = Int32.ofInt z then g t else sm_sw a d' (z + 1) (r.map g))
    exact ole_ite (h2 t) (ole_sw h1 h2 r (z + 1))
theorem ole_lsw {α : Type} {a : Int32} {d d' : Option β} {k : α → Int} {f g : α → Option β} (h1 : ole d d') (h2 : ∀ t, ole (f t) (g t)) : ∀ (l : List α), ole (sm_lsw a d (l.map fun t => (k t, f t))) (sm_lsw a d' (l.map fun t => (k t, g t)))
  | [] => h1
  | t :: r => by
    show ole (if a = Int32.ofInt (k t) then f t else sm_lsw a d (r.map fun t => (k t, f t))) (if a = Int32.ofInt (k t) then g t else sm_lsw a d' (r.map fun t => (k t, g t)))
    exact ole_ite (h2 t) (ole_lsw h1 h2 r)
variable {rt : sm_Res → Nat → sm_R → Nat → sm_G → sm_L → Option β} {k k' : Nat → List Value → List Value → Nat → sm_R → Nat → sm_G → sm_L → Option β} {hd : Nat → Nat → Nat} {cn cn' : sm_CN} {cx cx' : sm_CX}
theorem ole_exc (hk : ∀ pc ls st n R x G L, ole (k pc ls st n R x G L) (k' pc ls st n R x G L)) {pc : Nat} {ls : List Value} {n : Nat} {R : sm_R} {e x : Nat} {G : sm_G} {L : sm_L} : ole (sm_exc rt hd pc ls n R k e x G L) (sm_exc rt hd pc ls n R k' e x G L) := by
  unfold sm_exc
  exact ole_cond ole_r (ole_cond ole_r (hk _ _ _ _ _ _ _ _))
theorem ole_inv (hk : ∀ pc ls st n R x G L, ole (k pc ls st n R x G L) (k' pc ls st n R x G L)) (hn : ∀ j n R as D, ole (cn j n R as D) (cn' j n R as D)) (hx : ∀ j as S, ole (cx j as S) (cx' j as S)) {pc : Nat} {ls : List Value} {v : Nat} {st : List Value} {n : Nat} {R : sm_R} {x : Nat} {G : sm_G} {L : sm_L} : ole (sm_inv rt hd cn cx pc ls v st n R x G L k) (sm_inv rt hd cn' cx' pc ls v st n R x G L k') := by
  unfold sm_inv
  split
  · exact ole_n
  · refine ole_cond (ole_cond (ole_cond (ole_bV (hx _ _ _) (fun _ _ => hk _ _ _ _ _ _ _ _) (fun _ _ => ole_exc hk)) ole_n) (ole_cond (ole_aV (hn _ _ _ _ _) (fun _ _ _ => hk _ _ _ _ _ _ _ _) (fun _ _ _ _ => ole_exc hk)) (ole_cond (ole_aI (hn _ _ _ _ _) (fun _ _ _ _ => hk _ _ _ _ _ _ _ _) (fun _ _ _ _ => ole_exc hk)) (ole_cond (ole_aL (hn _ _ _ _ _) (fun _ _ _ _ => hk _ _ _ _ _ _ _ _) (fun _ _ _ _ => ole_exc hk)) (ole_aR (hn _ _ _ _ _) (fun _ _ _ _ => hk _ _ _ _ _ _ _ _) (fun _ _ _ _ => ole_exc hk)))))) ole_n
theorem ole_step (hk : ∀ pc ls st n R x G L, ole (k pc ls st n R x G L) (k' pc ls st n R x G L)) (hn : ∀ j n R as D, ole (cn j n R as D) (cn' j n R as D)) (hx : ∀ j as S, ole (cx j as S) (cx' j as S)) (T : Nat → Instr) (pc : Nat) (ls st : List Value) (n : Nat) (R : sm_R) (x : Nat) (G : sm_G) (L : sm_L) : ole (sm_step rt T hd cn cx pc ls st n R x G L k) (sm_step rt T hd cn' cx' pc ls st n R x G L k') := by
  unfold sm_step
  generalize T pc = i
  cases i
  case ifCond c t => cases c <;> exact ole_i1 (fun _ _ => ole_ite (hk _ _ _ _ _ _ _ _) (hk _ _ _ _ _ _ _ _))
  case if_icmp c t => cases c <;> exact ole_i2 (fun _ _ _ => ole_ite (hk _ _ _ _ _ _ _ _) (hk _ _ _ _ _ _ _ _))
  case tableswitch d lo hi ts => exact ole_i1 (fun _ _ => ole_sw (hk _ _ _ _ _ _ _ _) (fun _ => hk _ _ _ _ _ _ _ _) _ _)
  case lookupswitch d ps => exact ole_i1 (fun _ _ => ole_lsw (hk _ _ _ _ _ _ _ _) (fun _ => hk _ _ _ _ _ _ _ _) _)
  all_goals try dsimp only
  all_goals first
    | exact ole_n
    | exact ole_r
    | exact hk _ _ _ _ _ _ _ _
    | exact ole_inv hk hn hx
    | exact ole_i1 (fun _ _ => hk _ _ _ _ _ _ _ _)
    | exact ole_i2 (fun _ _ _ => hk _ _ _ _ _ _ _ _)
    | exact ole_l1 (fun _ _ => hk _ _ _ _ _ _ _ _)
    | exact ole_l2 (fun _ _ _ => hk _ _ _ _ _ _ _ _)
    | exact ole_li (fun _ _ _ => hk _ _ _ _ _ _ _ _)
    | exact ole_r1 (fun _ _ => hk _ _ _ _ _ _ _ _)
    | exact ole_ri (fun _ _ _ => hk _ _ _ _ _ _ _ _)
    | exact ole_i2 (fun _ _ _ => ole_ite ole_n (hk _ _ _ _ _ _ _ _))
    | exact ole_l2 (fun _ _ _ => ole_ite ole_n (hk _ _ _ _ _ _ _ _))
    | exact ole_l2 (fun _ _ _ => ole_ite (hk _ _ _ _ _ _ _ _) (ole_ite (hk _ _ _ _ _ _ _ _) (hk _ _ _ _ _ _ _ _)))
    | exact ole_cond (hk _ _ _ _ _ _ _ _) (hk _ _ _ _ _ _ _ _)
    | exact ole_r1 (fun _ _ => ole_cond (ole_cond (hk _ _ _ _ _ _ _ _) (ole_cond (hk _ _ _ _ _ _ _ _) (hk _ _ _ _ _ _ _ _))) ole_n)
    | exact ole_ri (fun _ _ _ => ole_cond (ole_cond (hk _ _ _ _ _ _ _ _) ole_n) (ole_cond (hk _ _ _ _ _ _ _ _) ole_n))
    | exact ole_ri (fun _ _ _ => ole_cond (ole_cond (hk _ _ _ _ _ _ _ _) ole_n) ole_n)
    | exact ole_rii (fun _ _ _ _ => ole_cond (ole_cond (hk _ _ _ _ _ _ _ _) ole_n) ole_n)
    | exact ole_rii (fun _ _ _ _ => ole_cond (ole_cond (hk _ _ _ _ _ _ _ _) ole_n) (ole_cond (ole_cond (ole_ite (hk _ _ _ _ _ _ _ _) ole_n) ole_n) ole_n))
    | exact ole_ril (fun _ _ _ _ => ole_cond (ole_cond (hk _ _ _ _ _ _ _ _) ole_n) ole_n)
    | exact ole_rir (fun _ _ _ _ => ole_cond (ole_cond (hk _ _ _ _ _ _ _ _) ole_n) ole_n)
    | exact ole_r1 (fun _ _ => ole_cond (hk _ _ _ _ _ _ _ _) (ole_cond (hk _ _ _ _ _ _ _ _) ole_n))
    | exact ole_i1 (fun _ _ => ole_cond (hk _ _ _ _ _ _ _ _) ole_n)
    | exact ole_i2 (fun _ _ _ => ole_cond (hk _ _ _ _ _ _ _ _) ole_n)
    | exact ole_cond (ole_cond ole_r ole_n) (ole_cond (hk _ _ _ _ _ _ _ _) ole_n)
    | exact ole_cond (ole_r1 (fun _ _ => ole_cond (hk _ _ _ _ _ _ _ _) ole_n)) (ole_inv hk hn hx)
    | (split <;> first | exact ole_n | exact ole_r | exact hk _ _ _ _ _ _ _ _ | exact ole_cond (ole_cond (hk _ _ _ _ _ _ _ _) (ole_cond (ole_ite (hk _ _ _ _ _ _ _ _) ole_n) ole_n)) ole_n | exact ole_cond (hk _ _ _ _ _ _ _ _) ole_n)
theorem ole_ev {kc kc' : Nat → List Value → Nat → sm_R → Nat → sm_G → sm_L → Option β} (hc : ∀ pc ls n R x G L, ole (kc pc ls n R x G L) (kc' pc ls n R x G L)) (hn : ∀ j n R as D, ole (cn j n R as D) (cn' j n R as D)) (hx : ∀ j as S, ole (cx j as S) (cx' j as S)) (T : Nat → Instr) (ct : Nat → Nat) : ∀ (F pc : Nat) (ls st : List Value) (n : Nat) (R : sm_R) (x : Nat) (G : sm_G) (L : sm_L), ole (sm_ev rt kc T ct hd cn cx F pc ls st n R x G L) (sm_ev rt kc' T ct hd cn' cx' F pc ls st n R x G L)
  | 0, _, _, _, _, _, _, _, _ => ole_n
  | F + 1, pc, ls, st, n, R, x, G, L => by
    have ih := ole_ev hc hn hx T ct F
    unfold sm_ev
    refine ole_cond (ole_step ih hn hx _ _ _ _ _ _ _ _ _) ?_
    split
    · exact hc _ _ _ _ _ _ _
    · exact ole_step ih hn hx _ _ _ _ _ _ _ _ _
theorem ole_blk {kc kc' : Nat → List Value → Nat → sm_R → Nat → sm_G → sm_L → Option β} (hc : ∀ pc ls n R x G L, ole (kc pc ls n R x G L) (kc' pc ls n R x G L)) (hn : ∀ j n R as D, ole (cn j n R as D) (cn' j n R as D)) (hx : ∀ j as S, ole (cx j as S) (cx' j as S)) (T : Nat → Instr) (ct : Nat → Nat) (pc : Nat) (ls : List Value) (n : Nat) (R : sm_R) (x : Nat) (G : sm_G) (L : sm_L) : ole (sm_blk rt kc T ct hd cn cx pc ls n R x G L) (sm_blk rt kc' T ct hd cn' cx' pc ls n R x G L) := by
  unfold sm_blk
  exact ole_step (ole_ev hc hn hx T ct 2000) hn hx _ _ _ _ _ _ _ _ _
end OLE
theorem ole_run {T : Nat → Instr} {ct : Nat → Nat} {hd : Nat → Nat → Nat} {cn cn' : sm_CN} {cx cx' : sm_CX} (hn : ∀ j n R as D, ole (cn j n R as D) (cn' j n R as D)) (hx : ∀ j as S, ole (cx j as S) (cx' j as S)) : ∀ (F pc : Nat) (ls : List Value) (n : Nat) (R : sm_R) (x : Nat) (G : sm_G) (L : sm_L), ole (sm_run T ct hd cn cx F pc ls n R x G L) (sm_run T ct hd cn' cx' F pc ls n R x G L)
  | 0, _, _, _, _, _, _, _ => ole_n
  | F + 1, pc, ls, n, R, x, G, L => ole_blk (ole_run hn hx F) hn hx T ct pc ls n R x G L
theorem ole_rl {T : Nat → Instr} {ct : Nat → Nat} {hd : Nat → Nat → Nat} {cn cn' : sm_CN} {cx cx' : sm_CX} (hn : ∀ j n R as D, ole (cn j n R as D) (cn' j n R as D)) (hx : ∀ j as S, ole (cx j as S) (cx' j as S)) (pc : Nat) (ls : List Value) (n : Nat) (R : sm_R) (x : Nat) (G : sm_G) (L : sm_L) : ole (sm_rl T ct hd cn cx pc ls n R x G L) (sm_rl T ct hd cn' cx' pc ls n R x G L) := by
  intro o h
  obtain ⟨F, h1⟩ := sm_lim_of h
  exact sm_rl_of T ct hd cn' cx' (F := F) (ole_run hn hx F pc ls n R x G L o h1)
theorem ole_dr {o o' : Option (sm_Res × sm_S)} (h : ole o o') : ole (sm_dr o) (sm_dr o') := by
  cases o with
  | none => exact ole_n
  | some q =>
    rw [h q rfl]
    exact ole_r
theorem ole_cw : ∀ (d j : Nat) (as : List Value) (S : sm_S), ole (sm_cw d j as S) (sm_cw (d + 1) j as S)
  | 0, _, _, _ => ole_n
  | d + 1, j, as, S => by
    rw [sm_cw_succ, sm_cw_succ (d + 1)]
    refine ole_cond ole_r (ole_cond (ole_rl (fun j n R as D => ole_dr (ole_cw d j as (n, R, D))) (fun j as S => ole_cw d j as S) _ _ _ _ _ _ _) ole_n)
theorem cw_up {d j : Nat} {as : List Value} {S : sm_S} {o : sm_Res × sm_S} (h : sm_cw d j as S = some o) : ∀ k, sm_cw (d + k) j as S = some o
  | 0 => h
  | k + 1 => ole_cw _ _ _ _ _ (cw_up h k)
theorem cv_up {d j n : Nat} {R : sm_R} {as : List Value} {D : sm_D} {o : sm_Res × sm_D} (h : sm_cv0 d j n R as D = some o) : ∀ k, sm_cv0 (d + k) j n R as D = some o
  | 0 => h
  | k + 1 => ole_dr (ole_cw _ _ _ _) _ (cv_up h k)
