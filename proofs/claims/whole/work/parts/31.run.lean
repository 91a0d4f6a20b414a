/-! a run of a method -/
section SMM
variable {nf xf : Nat} {Rf : sm_R} {pu : Bool} {T : Nat → Instr} {ct : Nat → Nat} {hd : Nat → Nat → Nat} {cn : sm_CN} {cx : sm_CX} {w : sm_O}
def sm_kR (T : Nat → Instr) (ct : Nat → Nat) (hd : Nat → Nat → Nat) (cn : sm_CN) (cx : sm_CX) (F : Nat) : Nat → List Value → Nat → sm_R → Nat → sm_G → sm_L → Option sm_O := fun pc ls n R x G L => (sm_run T ct hd cn cx F pc ls n R x G L).bind (fun q => some (.inl q))
theorem sm_run_O {F pc : Nat} {ls : List Value} {n : Nat} {R : sm_R} {x : Nat} {G : sm_G} {L : sm_L} {r : sm_Res × sm_S} (h : sm_run T ct hd cn cx (F + 1) pc ls n R x G L = some r) : sm_step sm_rO T hd cn cx pc ls [] n R x G L (sm_ev sm_rO (sm_kR T ct hd cn cx F) T ct hd cn cx 2000) = some (.inl r) := by
  have h1 : (sm_blk sm_rS (sm_run T ct hd cn cx F) T ct hd cn cx pc ls n R x G L).bind (fun q => some (Sum.inl q : sm_O)) = some (.inl r) := by
    show (sm_run T ct hd cn cx (F + 1) pc ls n R x G L).bind _ = _
    rw [h]
    rfl
  rw [← h1]
  unfold sm_blk
  rw [sm_step_b]
  congr 1
  funext pc ls st n R x G L
  rw [sm_ev_b]
  rfl
theorem sm_ev_g {kc : Nat → List Value → Nat → sm_R → Nat → sm_G → sm_L → Option sm_O} (hcx : sm_CG cx) (hcn : cn = fun j n R as D => sm_dr (cx j as (n, R, D))) (hpu : pu = true → ∀ pc, sm_pu (T pc) = true) (hk : ∀ pc ls n R x G L, kc pc ls n R x G L = some w → sm_Gr nf xf Rf pu n R x) (hw : ∀ r n R x G L, w = .inl (r, n, R, x, G, L) → sm_Gr nf xf Rf pu n R x) :
    ∀ (F pc : Nat) (ls st : List Value) (n : Nat) (R : sm_R) (x : Nat) (G : sm_G) (L : sm_L), sm_ev sm_rO kc T ct hd cn cx F pc ls st n R x G L = some w → sm_Gr nf xf Rf pu n R x
  | 0, _, _, _, _, _, _, _, _, h => by cases h
  | F + 1, pc, ls, st, n, R, x, G, L, h => by
    have ih := sm_ev_g hcx hcn hpu hk hw F
    unfold sm_ev at h
    cases hc : Nat.beq (ct pc) 0 with
    | true =>
      rw [hc] at h
      exact sm_step_g hcx hcn (fun hp => hpu hp pc) ih hw h
    | false =>
      rw [hc] at h
      simp only [cond_false] at h
      split at h
      · exact hk _ _ _ _ _ _ _ h
      · exact sm_step_g hcx hcn (fun hp => hpu hp pc) ih hw h
theorem sm_run_g (hcx : sm_CG cx) (hcn : cn = fun j n R as D => sm_dr (cx j as (n, R, D))) (hpu : pu = true → ∀ pc, sm_pu (T pc) = true) {r : sm_Res} {G' : sm_G} {L' : sm_L} :
    ∀ (F pc : Nat) (ls : List Value) (n : Nat) (R : sm_R) (x : Nat) (G : sm_G) (L : sm_L), sm_run T ct hd cn cx F pc ls n R x G L = some (r, nf, Rf, xf, G', L') → sm_Gr nf xf Rf pu n R x
  | 0, _, _, _, _, _, _, _, h => by cases h
  | F + 1, pc, ls, n, R, x, G, L, h => by
    have ih := sm_run_g hcx hcn hpu (r := r) (G' := G') (L' := L') F
    have h1 := sm_run_O h
    have hw : ∀ r' n R x G L, (Sum.inl (r, nf, Rf, xf, G', L') : sm_O) = .inl (r', n, R, x, G, L) → sm_Gr nf xf Rf pu n R x := by
      intro r' n R x G L e
      cases e
      exact ⟨Nat.le_refl _, Nat.le_refl _, fun _ => ⟨rfl, rfl⟩⟩
    refine sm_step_g hcx hcn (fun hp => hpu hp pc) (sm_ev_g hcx hcn hpu (fun pc ls n R x G L hk => ?_) hw 2000) hw h1
    unfold sm_kR at hk
    cases h2 : sm_run T ct hd cn cx F pc ls n R x G L with
    | none => rw [h2] at hk; cases hk
    | some q =>
      rw [h2] at hk
      have e1 : q = (r, nf, Rf, xf, G', L') := by
        have := Option.some.inj hk
        exact Sum.inl.inj this
      subst e1
      exact ih _ _ _ _ _ _ _ h2
end SMM
section SMO
variable {p : Program} {l : Launch} {e : Env} {Rm : Room} {s : State} {m : MethodId} {args : Array Value} {below : List Frame} {meth : Method} {c : Code} {Q : State → Prop}
variable {D : va_G} {tc : Nat → ClassId} {B : Nat} {ρ0 adV : Nat → Nat} {Z : sm_G} {nL n0 x0 nf xf o d : Nat} {cc : ByteArray} {ini : Bool} {T : Nat → Instr} {ct : Nat → Nat}
variable {hd : Nat → Nat → Nat} {cn : sm_CN} {cx : sm_CX}
/-- what a method's ends and throws must give -/
def sm_End (p : Program) (l : Launch) (e : Env) (Rm : Room) (s : State) (m : MethodId) (args : Array Value) (below : List Frame) (meth : Method) (c : Code) (Q : State → Prop) (D : va_G) (tc : Nat → ClassId) (B : Nat) (ρ0 : Nat → Nat) (Z : sm_G) (nL n0 x0 nf xf : Nat) (T : Nat → Instr) (hd : Nat → Nat → Nat) (w : sm_O) : Prop :=
  (∀ pc, sm_Xh p l e Rm s m args below meth c Q D tc B ρ0 Z nL n0 x0 nf xf hd w pc) ∧
  (∀ pc v ex rest n R x G L ls, T pc = .new v → 40 ≤ Nat.mod v 256 → ex = Nat.sub (Nat.mod v 256) 40 → sm_wsum rest ≤ 8 → w = .inl (.inr ex, n, R, x + 1, G, L) → sm_Cl p l e Rm s m args below meth c Q D tc B ρ0 Z nL n0 x0 nf xf pc ls rest n R x G L) ∧
  (∀ pc u st n R x G L ls, w = .inl (.inl u, n, R, x, G, L) → ((T pc = .ireturn ∧ ∃ a, u = some (.int a) ∧ st = [.int a]) ∨ (T pc = .freturn ∧ ∃ a : Int32, u = some (.int a) ∧ st = [.int a] ∧ a &&& 1 = a) ∨ (T pc = .lreturn ∧ ∃ a, u = some (.long a) ∧ st = [.long a]) ∨ (T pc = .areturn ∧ ∃ a : Nat, u = some (.ref a) ∧ st = [.ref a] ∧ a ≠ 0) ∨ (T pc = .return_ ∧ u = none ∧ st = [])) → sm_Cl p l e Rm s m args below meth c Q D tc B ρ0 Z nL n0 x0 nf xf pc ls st n R x G L)
theorem sm_ev_ok {kc : Nat → List Value → Nat → sm_R → Nat → sm_G → sm_L → Option sm_O} {w : sm_O} (C : sm_Cx p s m args meth c D tc B ρ0 adV Z nL o cc ini T) (hdp : sm_dp Rm d) (hrm : sm_rm Rm n0 x0 nf xf) (hcon : sm_Con D tc adV Z B l d cx) (hbi : sm_tx cx) (hmks : sm_mks) (hb3 : ∀ j as S u, 3 ≤ j → j ≤ 5 → cx j as S = some u → sm_bi j as S = some u)
    (hck : ∀ pc, sm_cck o (T pc) = true) (hcn : cn = fun j n R as D => sm_dr (cx j as (n, R, D))) (hw : ∀ r n R x G L, w = .inl (r, n, R, x, G, L) → n ≤ nf ∧ x ≤ xf) (hE : sm_End p l e Rm s m args below meth c Q D tc B ρ0 Z nL n0 x0 nf xf T hd w)
    (hk : ∀ pc ls n R x G L, kc pc ls n R x G L = some w → sm_Cl p l e Rm s m args below meth c Q D tc B ρ0 Z nL n0 x0 nf xf pc ls [] n R x G L) :
    ∀ (F pc : Nat) (ls st : List Value) (n : Nat) (R : sm_R) (x : Nat) (G : sm_G) (L : sm_L), sm_ev sm_rO kc T ct hd cn cx F pc ls st n R x G L = some w → sm_Cl p l e Rm s m args below meth c Q D tc B ρ0 Z nL n0 x0 nf xf pc ls st n R x G L
  | 0, _, _, _, _, _, _, _, _, h => by cases h
  | F + 1, pc, ls, st, n, R, x, G, L, h => by
    have ih := sm_ev_ok C hdp hrm hcon hbi hmks hb3 hck hcn hw hE hk F
    unfold sm_ev at h
    cases hc : Nat.beq (ct pc) 0 with
    | true =>
      rw [hc] at h
      exact sm_step_ok C hdp hrm hcon hbi hmks hb3 hck hcn ih hw hE.1 (hE.2.1 pc) (hE.2.2 pc) h
    | false =>
      rw [hc] at h
      simp only [cond_false] at h
      split at h
      · have h1 := hk _ _ _ _ _ _ _ h
        exact ⟨h1.1, fun a0 a1 ρ H locs rls hV hl => h1.2 a0 a1 ρ H locs rls hV (sm_has_sub hl (sm_mask_sub _ _ 0))⟩
      · exact sm_step_ok C hdp hrm hcon hbi hmks hb3 hck hcn ih hw hE.1 (hE.2.1 pc) (hE.2.2 pc) h
theorem sm_run_ok {r : sm_Res} {Rf : sm_R} {G' : sm_G} {L' : sm_L} (C : sm_Cx p s m args meth c D tc B ρ0 adV Z nL o cc ini T) (hdp : sm_dp Rm d) (hrm : sm_rm Rm n0 x0 nf xf) (hcon : sm_Con D tc adV Z B l d cx) (hbi : sm_tx cx) (hmks : sm_mks) (hb3 : ∀ j as S u, 3 ≤ j → j ≤ 5 → cx j as S = some u → sm_bi j as S = some u)
    (hck : ∀ pc, sm_cck o (T pc) = true) (hcn : cn = fun j n R as D => sm_dr (cx j as (n, R, D))) (hE : sm_End p l e Rm s m args below meth c Q D tc B ρ0 Z nL n0 x0 nf xf T hd (.inl (r, nf, Rf, xf, G', L'))) :
    ∀ (F pc : Nat) (ls : List Value) (n : Nat) (R : sm_R) (x : Nat) (G : sm_G) (L : sm_L), sm_run T ct hd cn cx F pc ls n R x G L = some (r, nf, Rf, xf, G', L') → sm_Cl p l e Rm s m args below meth c Q D tc B ρ0 Z nL n0 x0 nf xf pc ls [] n R x G L
  | 0, _, _, _, _, _, _, _, h => by cases h
  | F + 1, pc, ls, n, R, x, G, L, h => by
    have ih := sm_run_ok C hdp hrm hcon hbi hmks hb3 hck hcn hE F
    have h1 := sm_run_O h
    have hw : ∀ r' n R x G L, (Sum.inl (r, nf, Rf, xf, G', L') : sm_O) = .inl (r', n, R, x, G, L) → n ≤ nf ∧ x ≤ xf := by
      intro r' n R x G L e
      cases e
      exact ⟨Nat.le_refl _, Nat.le_refl _⟩
    refine sm_step_ok C hdp hrm hcon hbi hmks hb3 hck hcn (sm_ev_ok C hdp hrm hcon hbi hmks hb3 hck hcn hw hE (fun pc ls n R x G L hk => ?_) 2000) hw hE.1 (hE.2.1 pc) (hE.2.2 pc) h1
    unfold sm_kR at hk
    cases h2 : sm_run T ct hd cn cx F pc ls n R x G L with
    | none => rw [h2] at hk; cases hk
    | some q =>
      rw [h2] at hk
      have e1 : q = (r, nf, Rf, xf, G', L') := by
        have := Option.some.inj hk
        exact Sum.inl.inj this
      subst e1
      exact ih _ _ _ _ _ _ _ h2
end SMO
