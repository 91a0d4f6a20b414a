/-! the small machine's methods: runs, calls by depth, limits -/
/-! a block with ends of another kind -/
section SMN
variable {β γ : Type} (f : β → Option γ)
theorem sm_i1_b {st : List Value} {g : Int32 → List Value → Option β} : (sm_i1 st g).bind f = sm_i1 st (fun a r => (g a r).bind f) := by unfold sm_i1; split <;> rfl
theorem sm_i2_b {st : List Value} {g : Int32 → Int32 → List Value → Option β} : (sm_i2 st g).bind f = sm_i2 st (fun a b r => (g a b r).bind f) := by unfold sm_i2; split <;> rfl
theorem sm_l1_b {st : List Value} {g : Int64 → List Value → Option β} : (sm_l1 st g).bind f = sm_l1 st (fun a r => (g a r).bind f) := by unfold sm_l1; split <;> rfl
theorem sm_l2_b {st : List Value} {g : Int64 → Int64 → List Value → Option β} : (sm_l2 st g).bind f = sm_l2 st (fun a b r => (g a b r).bind f) := by unfold sm_l2; split <;> rfl
theorem sm_li_b {st : List Value} {g : Int64 → Int32 → List Value → Option β} : (sm_li st g).bind f = sm_li st (fun a b r => (g a b r).bind f) := by unfold sm_li; split <;> rfl
theorem sm_r1_b {st : List Value} {g : Nat → List Value → Option β} : (sm_r1 st g).bind f = sm_r1 st (fun a r => (g a r).bind f) := by unfold sm_r1; split <;> rfl
theorem sm_ri_b {st : List Value} {g : Nat → Int32 → List Value → Option β} : (sm_ri st g).bind f = sm_ri st (fun a i r => (g a i r).bind f) := by unfold sm_ri; split <;> rfl
theorem sm_rii_b {st : List Value} {g : Nat → Int32 → Int32 → List Value → Option β} : (sm_rii st g).bind f = sm_rii st (fun a i v r => (g a i v r).bind f) := by unfold sm_rii; split <;> rfl
theorem sm_ril_b {st : List Value} {g : Nat → Int32 → Int64 → List Value → Option β} : (sm_ril st g).bind f = sm_ril st (fun a i v r => (g a i v r).bind f) := by unfold sm_ril; split <;> rfl
theorem sm_rir_b {st : List Value} {g : Nat → Int32 → Nat → List Value → Option β} : (sm_rir st g).bind f = sm_rir st (fun a i v r => (g a i v r).bind f) := by unfold sm_rir; split <;> rfl
theorem sm_ite_b {P : Prop} [Decidable P] {a b : Option β} : (if P then a else b).bind f = if P then a.bind f else b.bind f := by split <;> rfl
theorem sm_cond_b {b : Bool} {x y : Option β} : (bif b then x else y).bind f = bif b then x.bind f else y.bind f := by cases b <;> rfl
theorem sm_aV_b {o : Option (sm_Res × sm_D)} {g : Nat → sm_G → sm_L → Option β} {h : Nat → Nat → sm_G → sm_L → Option β} : (sm_aV o g h).bind f = sm_aV o (fun x G L => (g x G L).bind f) (fun e x G L => (h e x G L).bind f) := by unfold sm_aV; split <;> rfl
theorem sm_aI_b {o : Option (sm_Res × sm_D)} {g : Int32 → Nat → sm_G → sm_L → Option β} {h : Nat → Nat → sm_G → sm_L → Option β} : (sm_aI o g h).bind f = sm_aI o (fun a x G L => (g a x G L).bind f) (fun e x G L => (h e x G L).bind f) := by unfold sm_aI; split <;> rfl
theorem sm_aL_b {o : Option (sm_Res × sm_D)} {g : Int64 → Nat → sm_G → sm_L → Option β} {h : Nat → Nat → sm_G → sm_L → Option β} : (sm_aL o g h).bind f = sm_aL o (fun a x G L => (g a x G L).bind f) (fun e x G L => (h e x G L).bind f) := by unfold sm_aL; split <;> rfl
theorem sm_aR_b {o : Option (sm_Res × sm_D)} {g : Nat → Nat → sm_G → sm_L → Option β} {h : Nat → Nat → sm_G → sm_L → Option β} : (sm_aR o g h).bind f = sm_aR o (fun a x G L => (g a x G L).bind f) (fun e x G L => (h e x G L).bind f) := by unfold sm_aR; split <;> rfl
theorem sm_bV_b {o : Option (sm_Res × sm_S)} {g : Option Value → sm_S → Option β} {h : Nat → sm_S → Option β} : (sm_bV o g h).bind f = sm_bV o (fun a S => (g a S).bind f) (fun e S => (h e S).bind f) := by unfold sm_bV; split <;> rfl
theorem sm_sw_b {a : Int32} {d : Option β} : ∀ (l : List (Option β)) (z : Int), (sm_sw a d z l).bind f = sm_sw a (d.bind f) z (l.map (fun o => o.bind f))
  | [], _ => rfl
  | t :: r, z => by
    show (if a = Int32.ofInt z then t else sm_sw a d (z + 1) r).bind f = if a = Int32.ofInt z then t.bind f else sm_sw a (d.bind f) (z + 1) (r.map (fun o => o.bind f))
    rw [sm_ite_b, sm_sw_b r]
theorem sm_lsw_b {a : Int32} {d : Option β} : ∀ (l : List (Int × Option β)), (sm_lsw a d l).bind f = sm_lsw a (d.bind f) (l.map (fun q => (q.1, q.2.bind f)))
  | [] => rfl
  | (v, t) :: r => by
    show (if a = Int32.ofInt v then t else sm_lsw a d r).bind f = if a = Int32.ofInt v then t.bind f else sm_lsw a (d.bind f) (r.map (fun q => (q.1, q.2.bind f)))
    rw [sm_ite_b, sm_lsw_b r]
variable (rt : sm_Res → Nat → sm_R → Nat → sm_G → sm_L → Option β) (k : Nat → List Value → List Value → Nat → sm_R → Nat → sm_G → sm_L → Option β) (hd : Nat → Nat → Nat) (cn : sm_CN) (cx : sm_CX)
theorem sm_exc_b (pc : Nat) (ls : List Value) (n : Nat) (R : sm_R) (e x : Nat) (G : sm_G) (L : sm_L) : (sm_exc rt hd pc ls n R k e x G L).bind f = sm_exc (fun r n R x G L => (rt r n R x G L).bind f) hd pc ls n R (fun pc ls st n R x G L => (k pc ls st n R x G L).bind f) e x G L := by
  unfold sm_exc
  rw [sm_cond_b, sm_cond_b]
  rfl
theorem sm_inv_b (pc : Nat) (ls : List Value) (v : Nat) (st : List Value) (n : Nat) (R : sm_R) (x : Nat) (G : sm_G) (L : sm_L) : (sm_inv rt hd cn cx pc ls v st n R x G L k).bind f = sm_inv (fun r n R x G L => (rt r n R x G L).bind f) hd cn cx pc ls v st n R x G L (fun pc ls st n R x G L => (k pc ls st n R x G L).bind f) := by
  unfold sm_inv
  split
  · rfl
  · simp only [sm_cond_b, sm_aV_b, sm_aI_b, sm_aL_b, sm_aR_b, sm_bV_b, sm_exc_b, Option.bind_none]
theorem sm_step_b (T : Nat → Instr) (pc : Nat) (ls st : List Value) (n : Nat) (R : sm_R) (x : Nat) (G : sm_G) (L : sm_L) : (sm_step rt T hd cn cx pc ls st n R x G L k).bind f = sm_step (fun r n R x G L => (rt r n R x G L).bind f) T hd cn cx pc ls st n R x G L (fun pc ls st n R x G L => (k pc ls st n R x G L).bind f) := by
  unfold sm_step
  generalize T pc = i
  cases i
  case ifCond c t => cases c <;> simp only [sm_i1_b, sm_ite_b]
  case if_icmp c t => cases c <;> simp only [sm_i2_b, sm_ite_b]
  case tableswitch d lo hi ts => simp only [sm_i1_b, sm_sw_b, List.map_map, Function.comp_def]
  case lookupswitch d ps => simp only [sm_i1_b, sm_lsw_b, List.map_map, Function.comp_def]
  all_goals try dsimp only
  all_goals first
    | rfl
    | (simp only [sm_i1_b, sm_i2_b, sm_l1_b, sm_l2_b, sm_li_b, sm_r1_b, sm_ri_b, sm_rii_b, sm_ril_b, sm_rir_b, sm_ite_b, sm_cond_b, sm_inv_b, Option.bind_none]; done)
    | (split <;> first | rfl | (simp only [sm_ite_b, sm_cond_b, Option.bind_none]; done))
theorem sm_ev_b (kc : Nat → List Value → Nat → sm_R → Nat → sm_G → sm_L → Option β) (T : Nat → Instr) (ct : Nat → Nat) : ∀ (F pc : Nat) (ls st : List Value) (n : Nat) (R : sm_R) (x : Nat) (G : sm_G) (L : sm_L), (sm_ev rt kc T ct hd cn cx F pc ls st n R x G L).bind f = sm_ev (fun r n R x G L => (rt r n R x G L).bind f) (fun pc ls n R x G L => (kc pc ls n R x G L).bind f) T ct hd cn cx F pc ls st n R x G L
  | 0, _, _, _, _, _, _, _, _ => rfl
  | F + 1, pc, ls, st, n, R, x, G, L => by
    have ih : (fun pc ls st n R x G L => (sm_ev rt kc T ct hd cn cx F pc ls st n R x G L).bind f) = sm_ev (fun r n R x G L => (rt r n R x G L).bind f) (fun pc ls n R x G L => (kc pc ls n R x G L).bind f) T ct hd cn cx F := by
      funext pc ls st n R x G L
      exact sm_ev_b kc T ct F pc ls st n R x G L
    unfold sm_ev
    rw [sm_cond_b, sm_step_b, ih]
    congr 1
    split
    · rfl
    · rw [sm_step_b, ih]
end SMN
abbrev sm_rO : sm_Res → Nat → sm_R → Nat → sm_G → sm_L → Option sm_O := fun r n R x G L => some (.inl (r, n, R, x, G, L))
abbrev sm_kO : Nat → List Value → Nat → sm_R → Nat → sm_G → sm_L → Option sm_O := fun pc ls n R x G L => some (.inr (pc, ls, n, R, x, G, L))
def sm_oo {β : Type} (rt : sm_Res → Nat → sm_R → Nat → sm_G → sm_L → Option β) (kc : Nat → List Value → Nat → sm_R → Nat → sm_G → sm_L → Option β) : sm_O → Option β
  | .inl (r, n, R, x, G, L) => rt r n R x G L
  | .inr (pc, ls, n, R, x, G, L) => kc pc ls n R x G L
theorem sm_blk_b {β : Type} (rt : sm_Res → Nat → sm_R → Nat → sm_G → sm_L → Option β) (kc : Nat → List Value → Nat → sm_R → Nat → sm_G → sm_L → Option β) (T : Nat → Instr) (ct : Nat → Nat) (hd : Nat → Nat → Nat) (cn : sm_CN) (cx : sm_CX) (pc : Nat) (ls : List Value) (n : Nat) (R : sm_R) (x : Nat) (G : sm_G) (L : sm_L) :
    sm_blk rt kc T ct hd cn cx pc ls n R x G L = (sm_blk sm_rO sm_kO T ct hd cn cx pc ls n R x G L).bind (sm_oo rt kc) := by
  unfold sm_blk
  rw [sm_step_b]
  congr 1
  funext pc ls st n R x G L
  rw [sm_ev_b]
  rfl
/-! calls -/
def sm_lay0 : List Value → List Value
  | [] => []
  | .long a :: r => .long a :: .null :: sm_lay0 r
  | .double a :: r => .double a :: .null :: sm_lay0 r
  | v :: r => v :: sm_lay0 r
/-- a method's locals at its entry -/
def sm_lay (ml : Nat) (as : List Value) : List Value := sm_lay0 as ++ List.replicate (ml - (sm_lay0 as).length) .null
def sm_acp (G : sm_G) (a sp b dp n : Nat) : sm_G := fun r k => bif Nat.beq r b then (if dp ≤ k ∧ k < dp + n then G a (sp + (k - dp)) else G b k) else G r k
/-- a text's length, its char at a place, and rows of ints copied -/
def sm_bi (j : Nat) (as : List Value) (S : sm_S) : Option (sm_Res × sm_S) :=
  bif Nat.beq j 1 then (match as with
    | [.ref r] => bif Nat.ble 4096 r && Nat.blt r (4096 + sm_strs.length) then some (.inl (some (.int (Int32.ofNat (sm_strs.getD (r - 4096) []).length))), S) else none
    | _ => none)
  else bif Nat.beq j 2 then (match as with
    | [.ref r, .int i] => bif Nat.ble 4096 r && Nat.blt r (4096 + sm_strs.length) && sm_in i (sm_strs.getD (r - 4096) []).length then some (.inl (some (.int ((sm_strs.getD (r - 4096) []).getD i.toNatClampNeg 0))), S) else none
    | _ => none)
  else bif Nat.beq j 4 then (match as with
    | [.int x, .int y] => some (.inl (some (.int (if y < x then y else x))), S)
    | _ => none)
  else bif Nat.beq j 5 then (match as with
    | [.int x, .int y] => some (.inl (some (.int (if x < y then y else x))), S)
    | _ => none)
  else match as with
    | [.ref a, .int sp, .ref b, .int dp, .int n] => bif sm_is a S.1 20 && sm_is b S.1 20 && decide (0 ≤ sp) && decide (0 ≤ dp) && decide (0 ≤ n) && Nat.ble (sp.toNatClampNeg + n.toNatClampNeg) (sm_N a) && Nat.ble (dp.toNatClampNeg + n.toNatClampNeg) (sm_N b) then
        some (.inl none, S.1, S.2.1, S.2.2.1, sm_acp S.2.2.2.1 a sp.toNatClampNeg b dp.toNatClampNeg n.toNatClampNeg, S.2.2.2.2) else none
    | _ => none
def sm_dr (o : Option (sm_Res × sm_S)) : Option (sm_Res × sm_D) := match o with
  | some (r, _, _, D) => some (r, D)
  | none => none
abbrev sm_rS : sm_Res → Nat → sm_R → Nat → sm_G → sm_L → Option (sm_Res × sm_S) := fun r n R x G L => some (r, n, R, x, G, L)
def sm_run (T : Nat → Instr) (ct : Nat → Nat) (hd : Nat → Nat → Nat) (cn : sm_CN) (cx : sm_CX) : Nat → Nat → List Value → Nat → sm_R → Nat → sm_G → sm_L → Option (sm_Res × sm_S)
  | 0, _, _, _, _, _, _, _ => none
  | F + 1, pc, ls, n, R, x, G, L => sm_blk sm_rS (sm_run T ct hd cn cx F) T ct hd cn cx pc ls n R x G L
def sm_cf (F : Nat) : Nat → sm_CX
  | 0, _, _, _ => none
  | d + 1, j, as, S => bif Nat.ble j 5 then sm_bi j as S else bif Nat.ble (sm_lay0 as).length (sm_ml j) then sm_run (sm_T j) (sm_ct j) (sm_hd j) (fun j n R as D => sm_dr (sm_cf F d j as (n, R, D))) (sm_cf F d) F 0 (sm_lay (sm_ml j) as) S.1 S.2.1 S.2.2.1 S.2.2.2.1 S.2.2.2.2 else none
noncomputable def sm_lim {β : Type} (f : Nat → Option β) : Option β := by
  classical
  exact if h : ∃ F, (f F).isSome = true then f h.choose else none
theorem sm_lim_of {β : Type} {f : Nat → Option β} {r : β} (h : sm_lim f = some r) : ∃ F, f F = some r := by
  unfold sm_lim at h
  split at h
  · exact ⟨_, h⟩
  · cases h
theorem sm_lim_eq {β : Type} {f : Nat → Option β} (hm : ∀ F F' r, F ≤ F' → f F = some r → f F' = some r) {F : Nat} {r : β} (h : f F = some r) : sm_lim f = some r := by
  unfold sm_lim
  have h1 : ∃ F, (f F).isSome = true := ⟨F, by rw [h]; rfl⟩
  rw [dif_pos h1]
  obtain ⟨r', h2⟩ := Option.isSome_iff_exists.mp h1.choose_spec
  rw [h2]
  rcases Nat.le_total F h1.choose with q | q
  · rw [hm _ _ _ q h] at h2
    exact h2.symm
  · rw [hm _ _ _ q h2] at h
    exact h
section SMR2
variable (T : Nat → Instr) (ct : Nat → Nat) (hd : Nat → Nat → Nat) (cn : sm_CN) (cx : sm_CX)
theorem sm_run_up : ∀ (F pc : Nat) (ls : List Value) (n : Nat) (R : sm_R) (x : Nat) (G : sm_G) (L : sm_L) (r : sm_Res × sm_S), sm_run T ct hd cn cx F pc ls n R x G L = some r → sm_run T ct hd cn cx (F + 1) pc ls n R x G L = some r
  | 0, _, _, _, _, _, _, _, _, h => by cases h
  | F + 1, pc, ls, n, R, x, G, L, r, h => by
    have h1 : (sm_blk sm_rO sm_kO T ct hd cn cx pc ls n R x G L).bind (sm_oo sm_rS (sm_run T ct hd cn cx F)) = some r := by rw [← sm_blk_b]; exact h
    show sm_blk sm_rS (sm_run T ct hd cn cx (F + 1)) T ct hd cn cx pc ls n R x G L = some r
    rw [sm_blk_b]
    cases hb : sm_blk sm_rO sm_kO T ct hd cn cx pc ls n R x G L with
    | none => rw [hb] at h1; cases h1
    | some o =>
      rw [hb] at h1
      rcases o with ⟨r', n', R', x', G', L'⟩ | ⟨pc', ls', n', R', x', G', L'⟩
      · exact h1
      · exact sm_run_up F _ _ _ _ _ _ _ _ h1
theorem sm_run_mono {F F' pc : Nat} {ls : List Value} {n : Nat} {R : sm_R} {x : Nat} {G : sm_G} {L : sm_L} {r : sm_Res × sm_S} (hF : F ≤ F') (h : sm_run T ct hd cn cx F pc ls n R x G L = some r) : sm_run T ct hd cn cx F' pc ls n R x G L = some r := by
  induction hF with
  | refl => exact h
  | step _ ih => exact sm_run_up T ct hd cn cx _ _ _ _ _ _ _ _ _ ih
/-- a run, however long -/
noncomputable def sm_rl (pc : Nat) (ls : List Value) (n : Nat) (R : sm_R) (x : Nat) (G : sm_G) (L : sm_L) : Option (sm_Res × sm_S) := sm_lim (fun F => sm_run T ct hd cn cx F pc ls n R x G L)
theorem sm_rl_of {F pc : Nat} {ls : List Value} {n : Nat} {R : sm_R} {x : Nat} {G : sm_G} {L : sm_L} {r : sm_Res × sm_S} (h : sm_run T ct hd cn cx F pc ls n R x G L = some r) : sm_rl T ct hd cn cx pc ls n R x G L = some r :=
  sm_lim_eq (f := fun F => sm_run T ct hd cn cx F pc ls n R x G L) (fun F F' r hF h => sm_run_mono T ct hd cn cx hF h) h
theorem sm_rl_eq (pc : Nat) (ls : List Value) (n : Nat) (R : sm_R) (x : Nat) (G : sm_G) (L : sm_L) : sm_rl T ct hd cn cx pc ls n R x G L = sm_blk sm_rS (sm_rl T ct hd cn cx) T ct hd cn cx pc ls n R x G L := by
  have key : ∀ r, sm_rl T ct hd cn cx pc ls n R x G L = some r ↔ sm_blk sm_rS (sm_rl T ct hd cn cx) T ct hd cn cx pc ls n R x G L = some r := by
    intro r
    rw [sm_blk_b]
    constructor
    · intro h
      obtain ⟨F, h1⟩ := sm_lim_of h
      cases F with
      | zero => cases h1
      | succ F =>
        have h2 : (sm_blk sm_rO sm_kO T ct hd cn cx pc ls n R x G L).bind (sm_oo sm_rS (sm_run T ct hd cn cx F)) = some r := by rw [← sm_blk_b]; exact h1
        cases hb : sm_blk sm_rO sm_kO T ct hd cn cx pc ls n R x G L with
        | none => rw [hb] at h2; cases h2
        | some o =>
          rw [hb] at h2
          rcases o with ⟨r', n', R', x', G', L'⟩ | ⟨pc', ls', n', R', x', G', L'⟩
          · exact h2
          · exact sm_rl_of T ct hd cn cx (F := F) h2
    · intro h
      cases hb : sm_blk sm_rO sm_kO T ct hd cn cx pc ls n R x G L with
      | none => rw [hb] at h; cases h
      | some o =>
        rw [hb] at h
        rcases o with ⟨r', n', R', x', G', L'⟩ | ⟨pc', ls', n', R', x', G', L'⟩
        · refine sm_rl_of T ct hd cn cx (F := 1) ?_
          show sm_blk sm_rS (sm_run T ct hd cn cx 0) T ct hd cn cx pc ls n R x G L = some r
          rw [sm_blk_b, hb]
          exact h
        · obtain ⟨F, h1⟩ := sm_lim_of (show sm_rl T ct hd cn cx pc' ls' n' R' x' G' L' = some r from h)
          refine sm_rl_of T ct hd cn cx (F := F + 1) ?_
          show sm_blk sm_rS (sm_run T ct hd cn cx F) T ct hd cn cx pc ls n R x G L = some r
          rw [sm_blk_b, hb]
          exact h1
  cases h1 : sm_rl T ct hd cn cx pc ls n R x G L with
  | some r => exact ((key r).mp h1).symm
  | none =>
    cases h2 : sm_blk sm_rS (sm_rl T ct hd cn cx) T ct hd cn cx pc ls n R x G L with
    | none => rfl
    | some r => rw [(key r).mpr h2] at h1; cases h1
end SMR2
/-- a call of method j with d more calls one in another -/
noncomputable def sm_cw : Nat → sm_CX
  | 0, _, _, _ => none
  | d + 1, j, as, S => bif Nat.ble j 5 then sm_bi j as S else bif Nat.ble (sm_lay0 as).length (sm_ml j) then sm_rl (sm_T j) (sm_ct j) (sm_hd j) (fun j n R as D => sm_dr (sm_cw d j as (n, R, D))) (sm_cw d) 0 (sm_lay (sm_ml j) as) S.1 S.2.1 S.2.2.1 S.2.2.2.1 S.2.2.2.2 else none
noncomputable def sm_cv0 (d : Nat) : sm_CN := fun j n R as D => sm_dr (sm_cw d j as (n, R, D))
