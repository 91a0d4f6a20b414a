section SMO
variable {p : Program} {l : Launch} {e : Env} {Rm : Room} {s : State} {m : MethodId} {args : Array Value} {below : List Frame} {meth : Method} {c : Code} {Q : State → Prop}
variable {D : va_G} {tc : Nat → ClassId} {B : Nat} {ρ0 adV : Nat → Nat} {Z : sm_G} {nL n0 x0 nf xf o d : Nat} {cc : ByteArray} {ini : Bool} {T : Nat → Instr}
variable {pc : Nat} {ls st : List Value} {n : Nat} {R : sm_R} {x : Nat} {G : sm_G} {L : sm_L}
variable {hd : Nat → Nat → Nat} {cn : sm_CN} {cx : sm_CX} {k : Nat → List Value → List Value → Nat → sm_R → Nat → sm_G → sm_L → Option sm_O} {w : sm_O}
/-- the world behind a call -/
theorem sm_V_call {ρ ρ' : Nat → Nat} {S : sm_S} {H H1 : Heap} {locs locs1 : List Loc} {t : State} (hV : sm_V D tc B ρ0 Z n0 s ρ n R G L H locs) (h0 : n0 ≤ n) (hn : n ≤ S.1) (hb : sm_BB D tc Z B ρ n S ρ' t) (ht : t.heap = H1) (hS : va_S (fun q => B ≤ q) s.heap H1 locs1) :
    sm_V D tc B ρ0 Z n0 s ρ' S.1 S.2.1 S.2.2.2.1 S.2.2.2.2 H1 locs1 := by
  obtain ⟨h1, g1, g2, g3, g4, g5, g6⟩ := hb
  exact ⟨by rw [← ht]; exact g1, g2, hS, fun r hr => (h1 r (by omega)).trans (hV.2.2.2.1 r (by omega)), g3, g4, g5, g6⟩
/-- what is thrown from pc on is caught here, or goes on to the caller -/
def sm_Xh (p : Program) (l : Launch) (e : Env) (Rm : Room) (s : State) (m : MethodId) (args : Array Value) (below : List Frame) (meth : Method) (c : Code) (Q : State → Prop) (D : va_G) (tc : Nat → ClassId) (B : Nat) (ρ0 : Nat → Nat) (Z : sm_G) (nL n0 x0 nf xf : Nat) (hd : Nat → Nat → Nat) (w : sm_O) (pc : Nat) : Prop :=
  ∀ (ex : Nat) (H : Heap) (locs : List Loc) (rls : Array Slot) (rest : List Value) (q : Addr) (ce : Cell), H[q]? = some ce → ce.vm = .none → s.vm.findClass (sm_xn ex) = some ce.cls →
    (hd pc ex = 0 → ∀ (ρ : Nat → Nat) (n : Nat) (R : sm_R) (x : Nat) (G : sm_G) (L : sm_L), w = .inl (.inr ex, n, R, x, G, L) → n0 ≤ n → x0 ≤ x → sm_V D tc B ρ0 Z n0 s ρ n R G L H locs → vx_W p l e Rm s m args below meth c H locs (sm_mc n0 x0 n x) (sm_ms n0 x0 n x) Q (F0 m pc rls rest) q) ∧
    (hd pc ex ≠ 0 → hd pc ex ≠ 1 → ∀ (ρ : Nat → Nat) (ls : List Value) (cells slots : Nat), lv_has rls nL (sm_lv ρ 0 ls) → (∀ rls' : Array Slot, lv_has rls' nL (sm_lv ρ 0 (sm_set ls (Nat.div (hd pc ex) 65536) .null)) → W p l e Rm s m args below meth c H locs cells slots Q (F0 m (Nat.mod (hd pc ex) 65536) rls' [])) → vx_W p l e Rm s m args below meth c H locs cells slots Q (F0 m pc rls rest) q)
theorem sm_Cl_exc {ex : Nat} (hk : ∀ pc ls st n R x G L, k pc ls st n R x G L = some w → sm_Cl p l e Rm s m args below meth c Q D tc B ρ0 Z nL n0 x0 nf xf pc ls st n R x G L) (hw : ∀ r n R x G L, w = .inl (r, n, R, x, G, L) → n ≤ nf ∧ x ≤ xf) (hX : sm_Xh p l e Rm s m args below meth c Q D tc B ρ0 Z nL n0 x0 nf xf hd w pc)
    (h : sm_exc sm_rO hd pc ls n R k ex x G L = some w) : (n ≤ nf ∧ x ≤ xf) ∧ (n0 ≤ n → x0 ≤ x → ∀ (ρ : Nat → Nat) (H : Heap) (locs : List Loc) (rls : Array Slot) (rest : List Value) (q : Addr) (ce : Cell), sm_V D tc B ρ0 Z n0 s ρ n R G L H locs → lv_has rls nL (sm_lv ρ 0 ls) → H[q]? = some ce → ce.vm = .none → s.vm.findClass (sm_xn ex) = some ce.cls → vx_W p l e Rm s m args below meth c H locs (sm_mc n0 x0 n x) (sm_ms n0 x0 n x) Q (F0 m pc rls rest) q) := by
  unfold sm_exc at h
  cases hz : Nat.beq (hd pc ex) 0 with
  | true =>
    rw [hz] at h
    have e1 : w = .inl (.inr ex, n, R, x, G, L) := (Option.some.inj h).symm
    refine ⟨hw _ _ _ _ _ _ e1, fun h0 h1 ρ H locs rls rest q ce hV hl g1 g2 g3 => ?_⟩
    exact (hX ex H locs rls rest q ce g1 g2 g3).1 (Nat.eq_of_beq_eq_true hz) ρ n R x G L e1 h0 h1 hV
  | false =>
    rw [hz] at h
    simp only [cond_false] at h
    cases hy : Nat.beq (hd pc ex) 1 with
    | true => rw [hy] at h; cases h
    | false =>
    rw [hy] at h
    have hk1 := hk _ _ _ _ _ _ _ _ h
    refine ⟨hk1.1, fun h0 h1 ρ H locs rls rest q ce hV hl g1 g2 g3 => ?_⟩
    exact (hX ex H locs rls rest q ce g1 g2 g3).2 (fun z => by rw [z] at hz; cases hz) (fun z => by rw [z] at hy; cases hy) ρ ls _ _ hl (fun rls' hl' => hk1.2 h0 h1 ρ H locs rls' hV hl')
/-- from what comes of a call to the instruction behind it -/
theorem sm_after {as rest : List Value} {r : sm_Res} {S : sm_S} (hB : B ≤ s.heap.size) (hn : n ≤ S.1 ∧ x ≤ S.2.2.1) (hrn : sm_Rn p l e Rm s m args below meth c D tc B ρ0 Z n0 x0 nL pc as rest n R x G L r S)
    (hlo : S.1 = n ∨ (sm_lo n rest = true ∧ sm_lo n ls = true))
    (hv : ∀ v, r = .inl v → sm_Cl p l e Rm s m args below meth c Q D tc B ρ0 Z nL n0 x0 nf xf (pc + 3) ls (v.toList ++ rest) S.1 S.2.1 S.2.2.1 S.2.2.2.1 S.2.2.2.2)
    (hx : ∀ ex, r = .inr ex → (S.1 ≤ nf ∧ S.2.2.1 ≤ xf) ∧ (n0 ≤ S.1 → x0 ≤ S.2.2.1 → ∀ (ρ : Nat → Nat) (H : Heap) (locs : List Loc) (rls : Array Slot) (rest : List Value) (q : Addr) (ce : Cell), sm_V D tc B ρ0 Z n0 s ρ S.1 S.2.1 S.2.2.2.1 S.2.2.2.2 H locs → lv_has rls nL (sm_lv ρ 0 ls) → H[q]? = some ce → ce.vm = .none → s.vm.findClass (sm_xn ex) = some ce.cls → vx_W p l e Rm s m args below meth c H locs (sm_mc n0 x0 S.1 S.2.2.1) (sm_ms n0 x0 S.1 S.2.2.1) Q (F0 m pc rls rest) q))
    (hf : S.1 ≤ nf ∧ S.2.2.1 ≤ xf) :
    sm_Cl p l e Rm s m args below meth c Q D tc B ρ0 Z nL n0 x0 nf xf pc ls (as.reverse ++ rest) n R x G L := by
  refine ⟨⟨Nat.le_trans hn.1 hf.1, Nat.le_trans hn.2 hf.2⟩, fun h0 h1 ρ H locs rls hV hl => ?_⟩
  obtain ⟨a, hrun⟩ := hrn ρ H locs rls h0 h1 hV hl.1
  have hsame : ∀ ρ' t, sm_BB D tc Z B ρ n S ρ' t → sm_lv ρ' 0 ls = sm_lv ρ 0 ls ∧ rest.map (sm_cv ρ') = rest.map (sm_cv ρ) := by
    intro ρ' t hb
    rcases hlo with q | ⟨q1, q2⟩
    · have e : ρ' = ρ := by
        funext r
        exact hb.1 r (by omega)
      rw [e]
      exact ⟨rfl, rfl⟩
    · have h342 : S.1 ≤ 342 := hb.2.2.2.2.1
      have e : ∀ r, r ≤ n ∨ 4096 ≤ r → ρ' r = ρ r := fun r hr => hb.1 r (by omega)
      exact ⟨sm_lv_same 0 q2 e, sm_map_same q1 e⟩
  obtain ⟨c1, c2, c3, c4⟩ := sm_mc_le h0 hn.1 hf.1 h1 hn.2 hf.2
  have hkx : ∀ (E : String) (ce : Cell) (q9 : Addr) (u : Nat → Nat) (t : State) (H1 : Heap) (locs1 : List Loc), t.heap = H1 → ((∃ ex, r = .inr ex ∧ E = sm_xn ex) ∧ sm_BB D tc Z B ρ n S u t) → va_S (fun q => B ≤ q) s.heap H1 locs1 → H1[q9]? = some ce → ce.vm = .none → s.vm.findClass E = some ce.cls → vx_W p l e Rm s m args below meth c H1 locs1 (sm_mc n0 x0 n x + sm_mc n x S.1 S.2.2.1) (sm_ms n0 x0 n x + sm_ms n x S.1 S.2.2.1) Q (F0 m pc rls (rest.map (sm_cv ρ))) q9 := by
    intro E ce q9 u t H1 locs1 e1 ⟨⟨ex, e2, e3⟩, e4⟩ e5 e6 e7 e8
    subst e3
    rw [c1, c3]
    exact (hx ex e2).2 (Nat.le_trans h0 hn.1) (Nat.le_trans h1 hn.2) u H1 locs1 rls _ q9 ce (sm_V_call hV h0 hn.1 e4 e1 e5) (by rw [(hsame u t e4).1]; exact hl) e6 e7 e8
  have hkk : ∀ (v : Option Value) (u : Nat → Nat) (t : State) (H1 : Heap) (locs1 : List Loc), r = .inl v → t.heap = H1 → sm_BB D tc Z B ρ n S u t → va_S (fun q => B ≤ q) s.heap H1 locs1 → W p l e Rm s m args below meth c H1 locs1 (sm_mc n0 x0 n x + sm_mc n x S.1 S.2.2.1) (sm_ms n0 x0 n x + sm_ms n x S.1 S.2.2.1) Q (F0 m (pc + 3) rls ((v.toList).map (sm_cv u) ++ rest.map (sm_cv ρ))) := by
    intro v u t H1 locs1 e1 e2 e3 e4
    rw [c1, c3]
    have := (hv v e1).2 (Nat.le_trans h0 hn.1) (Nat.le_trans h1 hn.2) u H1 locs1 rls (sm_V_call hV h0 hn.1 e3 e2 e4) (by rw [(hsame u t e3).1]; exact hl)
    rw [List.map_append, (hsame u t e3).2] at this
    exact this
  have hA : ∀ q : Nat, q < H.size → (fun q => B ≤ q) q → (fun q => B ≤ q) q := fun _ _ h => h
  have hA2 : ∀ q, (fun q => B ≤ q) q → (fun q => B ≤ q) q := fun _ h => h
  have hno : ∀ (v : Option Value), r = .inl v → ∀ (E : String) (u : Nat → Nat) (t : State), ((∃ ex, r = .inr ex ∧ E = sm_xn ex) ∧ sm_BB D tc Z B ρ n S u t) → False := by
    intro v e1 E u t ⟨⟨ex, e2, _⟩, _⟩
    rw [e1] at e2
    cases e2
  unfold sm_XC at hrun
  cases r with
  | inr ex =>
    have hrun2 : vx_Run p l e Rm s m args below meth c H locs (sm_mc n0 x0 n x) (sm_ms n0 x0 n x) (sm_mc n x S.1 S.2.2.1) (sm_ms n x S.1 S.2.2.1) (F0 m pc rls ((as.reverse ++ rest).map (sm_cv ρ))) (rest.map (sm_cv ρ)) (va_Qv (S := Nat → Nat) (fun _ => False) (sm_BB D tc Z B ρ n S) (fun q => B ≤ q) a) (vx_X (fun _ : Nat → Nat => True) (fun E ρ' t => (∃ e, (Sum.inr ex : sm_Res) = .inr e ∧ E = sm_xn e) ∧ sm_BB D tc Z B ρ n S ρ' t) (fun q => B ≤ q)) (fun q => B ≤ q) := by
      intro T hT X
      rcases hrun T hT X with ⟨v, st₀, t, T', L, a1, a2, a3, a4, a5, a6, a7⟩ | h9
      · exact False.elim a6
      · exact Or.inr h9
    exact vx_callv hrun2 hV.2.2.1 hA hA2 hA (fun E ce q9 u t H1 locs1 e1 _ _ e4 _ _ e7 e8 e9 e10 => hkx E ce q9 u t H1 locs1 e1 e4 e7 e8 e9 e10) (fun u t H1 locs1 _ _ e3 _ _ _ _ => False.elim e3)
  | inl v =>
    cases v with
    | none => exact vx_callv (a := a) hrun hV.2.2.1 hA hA2 hA (fun E ce q9 u t H1 locs1 e1 _ _ e4 _ _ e7 e8 e9 e10 => False.elim (hno _ rfl E u t e4)) (fun u t H1 locs1 e1 _ _ e4 _ _ e7 => hkk none u t H1 locs1 rfl e1 e4 e7)
    | some v =>
      cases v with
      | int z => exact vx_calli (a := a) hrun hV.2.2.1 hA hA2 hA (fun E ce q9 u t H1 locs1 e1 _ _ e4 _ _ e7 e8 e9 e10 => False.elim (hno _ rfl E u t e4)) (fun b u t H1 locs1 e1 _ e3 e4 _ _ e7 => by subst e3; exact hkk (some (.int _)) u t H1 locs1 rfl e1 e4 e7)
      | long z => exact vx_calll (a := a) hrun hV.2.2.1 hA hA2 hA (fun E ce q9 u t H1 locs1 e1 _ _ e4 _ _ e7 e8 e9 e10 => False.elim (hno _ rfl E u t e4)) (fun b u t H1 locs1 e1 _ e3 e4 _ _ e7 => by subst e3; exact hkk (some (.long _)) u t H1 locs1 rfl e1 e4 e7)
      | ref z =>
        refine vx_callr (a := a) hrun hV.2.2.1 hA hA2 hA (fun E ce q9 u t H1 locs1 e1 _ _ e4 _ _ e7 e8 e9 e10 => False.elim (hno _ rfl E u t e4)) (fun b u t H1 locs1 e1 _ _ e4 _ _ e7 => ?_)
        obtain ⟨⟨g0, g1⟩, e4⟩ := e4
        have := hkk (some (.ref z)) u t H1 locs1 rfl e1 e4 e7
        rw [g1, ← sm_cv_ne g0]
        exact this
      | _ =>
        intro T hT X
        exfalso
        rcases hrun T hT X with ⟨v, st₀, t, T', L, a1, a2, a3, a4, a5, a6, a7⟩ | ⟨q, st₀, t, T', L, E, ce, b1, b2, b3, b4, b5, ⟨u, _, b6, _⟩, _⟩
        · exact a6
        · exact hno _ rfl E u t b6
/-- a call: what a program has checked of it, and the contracts -/
theorem sm_inv_ok (C : sm_Cx p s m args meth c D tc B ρ0 adV Z nL o cc ini T) (hdp : sm_dp Rm d) (hrm : sm_rm Rm n0 x0 nf xf) (hcon : sm_Con D tc adV Z B l d cx) (hbi : sm_tx cx) (hmks : sm_mks)
    (hck : sm_cck o (T pc) = true) {v : Nat} (hT : T pc = .invokevirtual v ∨ (T pc = .invokespecial v ∧ Nat.mod v 1024 ≠ 1023) ∨ (T pc = .invokestatic v ∧ ¬ (3 ≤ Nat.mod v 1024 ∧ Nat.mod v 1024 ≤ 5))) (hcn : cn = fun j n R as D => sm_dr (cx j as (n, R, D)))
    (hk : ∀ pc ls st n R x G L, k pc ls st n R x G L = some w → sm_Cl p l e Rm s m args below meth c Q D tc B ρ0 Z nL n0 x0 nf xf pc ls st n R x G L) (hw : ∀ r n R x G L, w = .inl (r, n, R, x, G, L) → n ≤ nf ∧ x ≤ xf) (hX : sm_Xh p l e Rm s m args below meth c Q D tc B ρ0 Z nL n0 x0 nf xf hd w pc)
    (h : sm_inv sm_rO hd cn cx pc ls v st n R x G L k = some w) : sm_Cl p l e Rm s m args below meth c Q D tc B ρ0 Z nL n0 x0 nf xf pc ls st n R x G L := by
  have hB := C.2.2.2.2.1.2.2.2.2.2.2.2.2
  have hnf : nf ≤ 342 := hrm.2.2.1
  unfold sm_inv at h
  split at h
  · cases h
  · next as rest hargs =>
    obtain ⟨vs, hv1, hv2, hv3⟩ := sm_args_spec _ _ _ _ _ hargs
    have hst : st = as.reverse ++ rest := by rw [hv2, hv3]; simp
    have hlen : as.length = Nat.mod (Nat.div v 1024) 16 := by rw [hv3]; simp [hv1]
    obtain ⟨h1, h2⟩ := sm_bif h
    rw [Bool.and_eq_true] at h1
    have hws := sm_ale h1.1
    rw [hst]
    -- all that the ways have in common
    have key : ∀ (r : sm_Res) (S : sm_S), cx (Nat.mod v 1024) as (n, R, x, G, L) = some (r, S) → ((Nat.mod v 1024 < 512 ∧ S.1 = n ∧ S.2.1 = R) ∨ (sm_lo n rest = true ∧ sm_lo n ls = true)) →
        (∀ v, r = .inl v → k (pc + 3) ls (v.toList ++ rest) S.1 S.2.1 S.2.2.1 S.2.2.2.1 S.2.2.2.2 = some w) → (∀ ex, r = .inr ex → sm_exc sm_rO hd pc ls S.1 S.2.1 k ex S.2.2.1 S.2.2.2.1 S.2.2.2.2 = some w) →
        sm_Cl p l e Rm s m args below meth c Q D tc B ρ0 Z nL n0 x0 nf xf pc ls (as.reverse ++ rest) n R x G L := by
      intro r S hcx hlo hv hx
      have hx2 := fun ex e1 => sm_Cl_exc hk hw hX (hx ex e1)
      have hf : S.1 ≤ nf ∧ S.2.2.1 ≤ xf := by
        cases r with
        | inl v => exact (hk _ _ _ _ _ _ _ _ (hv v rfl)).1
        | inr ex => exact (hx2 ex rfl).1
      obtain ⟨r1, r2⟩ := sm_run_call (below := below) (e := e) (n0 := n0) (x0 := x0) C hdp hrm hcon hbi hmks hck hT hws h1.2 hlen hcx hf.1 hf.2
      exact sm_after hB r1 r2 (by rcases hlo with q | q; exact Or.inl q.2.1; exact Or.inr q) (fun v e1 => hk _ _ _ _ _ _ _ _ (hv v e1)) hx2 hf
    cases hj : Nat.ble 512 (Nat.mod v 1024) with
    | true =>
      rw [hj] at h2
      simp only [cond_true] at h2
      obtain ⟨h3, h4⟩ := sm_bif h2
      rw [Bool.and_eq_true] at h3
      cases hcx : cx (Nat.mod v 1024) as (n, R, x, G, L) with
      | none => rw [hcx] at h4; cases h4
      | some o =>
        obtain ⟨r, S⟩ := o
        rw [hcx] at h4
        refine key r S hcx (Or.inr h3) (fun v e1 => ?_) (fun ex e1 => ?_)
        · subst e1; exact h4
        · subst e1; exact h4
    | false =>
      rw [hj] at h2
      simp only [cond_false] at h2
      have hj2 : Nat.mod v 1024 < 512 := by
        by_cases q : 512 ≤ Nat.mod v 1024
        · rw [Nat.ble_eq_true_of_le q] at hj; cases hj
        · omega
      rw [hcn] at h2
      simp only at h2
      cases hcx : cx (Nat.mod v 1024) as (n, R, x, G, L) with
      | none =>
        exfalso
        rw [hcx] at h2
        revert h2
        cases Nat.beq (Nat.mod (Nat.div v 16384) 4) 0 <;> cases Nat.beq (Nat.mod (Nat.div v 16384) 4) 1 <;> cases Nat.beq (Nat.mod (Nat.div v 16384) 4) 2 <;> intro h2 <;> cases h2
      | some o =>
        obtain ⟨r, n', R', x', G', L'⟩ := o
        obtain ⟨_, hpure, _⟩ := hcon _ _ _ _ _ _ _ _ _ _ _ _ _ hcx
        obtain ⟨e1, e2⟩ := hpure hj2
        subst e1
        subst e2
        rw [hcx] at h2
        refine key r _ hcx (Or.inl ⟨hj2, rfl, rfl⟩) (fun u e1 => ?_) (fun ex e1 => ?_)
        · subst e1
          revert h2
          cases Nat.beq (Nat.mod (Nat.div v 16384) 4) 0 <;> cases Nat.beq (Nat.mod (Nat.div v 16384) 4) 1 <;> cases Nat.beq (Nat.mod (Nat.div v 16384) 4) 2 <;> intro h2 <;> (cases u with
            | none => first | exact h2 | cases h2
            | some y => cases y <;> first | exact h2 | cases h2)
        · subst e1
          revert h2
          cases Nat.beq (Nat.mod (Nat.div v 16384) 4) 0 <;> cases Nat.beq (Nat.mod (Nat.div v 16384) 4) 1 <;> cases Nat.beq (Nat.mod (Nat.div v 16384) 4) 2 <;> intro h2 <;> exact h2
end SMO
