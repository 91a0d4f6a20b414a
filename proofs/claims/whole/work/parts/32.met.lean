/-! the contract of a method out of its run -/
theorem sm_lay_in {ρ : Nat → Nat} : ∀ (as : List Value) (i : Nat) (q : Nat × Value), q ∈ sm_lv ρ i (sm_lay0 as) → q ∈ lv_args i (as.map (sm_cv ρ))
  | [], i, q, h => by cases h
  | v :: as, i, q, h => by
    have e : lv_args i ((v :: as).map (sm_cv ρ)) = (i, sm_cv ρ v) :: lv_args (if v.category = 2 then i + 2 else i + 1) (as.map (sm_cv ρ)) := by
      show (i, sm_cv ρ v) :: lv_args (if (sm_cv ρ v).category = 2 then i + 2 else i + 1) (as.map (sm_cv ρ)) = _
      rw [sm_cv_cat]
    rw [e]
    cases v <;> simp only [sm_lay0, sm_lv, List.mem_cons, Value.category] at h ⊢
    all_goals first
      | (rcases h with h | h
         · exact Or.inl h
         · exact Or.inr (sm_lay_in as _ q h))
      | exact Or.inr (sm_lay_in as _ q h)
theorem sm_lv_null {ρ : Nat → Nat} : ∀ (l : List Value) (k i : Nat), sm_lv ρ i (l ++ List.replicate k .null) = sm_lv ρ i l
  | [], 0, i => rfl
  | [], k + 1, i => by
    show sm_lv ρ (i + 1) (List.replicate k .null) = []
    have := sm_lv_null (ρ := ρ) [] k (i + 1)
    exact this
  | v :: l, k, i => by
    have ih := sm_lv_null (ρ := ρ) l k (i + 1)
    cases v <;> simp only [List.cons_append, sm_lv, ih]
theorem sm_sl_len {ρ : Nat → Nat} : ∀ (as : List Value), (lg_sl (as.map (sm_cv ρ))).length = (sm_lay0 as).length
  | [] => rfl
  | v :: as => by
    have ih := sm_sl_len (ρ := ρ) as
    unfold lg_sl at ih ⊢
    rw [List.map_cons, List.flatMap_cons, List.length_append, ih, sm_cv_cat]
    cases v <;> simp [sm_lay0, Value.category] <;> omega
/-- a method's ends are of its kind -/
def sm_rck (j : Nat) (i : Instr) : Bool := match i with
  | .ireturn => decide (sm_rt j = some .int)
  | .freturn => decide (sm_rt j = some .boolean)
  | .lreturn => decide (sm_rt j = some .long)
  | .areturn => (match sm_rt j with
    | some (.object _) => true
    | _ => false)
  | .return_ => decide (sm_rt j = none)
  | _ => true
def sm_ini (j : Nat) : Bool := Nat.beq (sm_ki j) 1
/-- all that a program checks of a method's instructions -/
def sm_ick (j : Nat) : Prop := ∀ pc, sm_chk (sm_own j) (sm_ml j) (sm_b j) (sm_ini j) pc (sm_T j pc) ∧ sm_cck (sm_own j) (sm_T j pc) = true ∧ sm_rck j (sm_T j pc) = true ∧ (j < 512 → sm_pu (sm_T j pc) = true)
/-- what stays to be said of a method: its throws, and what it catches -/
def sm_Thr (l : Launch) (D : va_G) (tc : Nat → ClassId) (adV : Nat → Nat) (Z : sm_G) (B : Nat) (j : Nat) : Prop := ∀ (p : Program) (e : Env) (Rm : Room) (s : State) (m : MethodId) (args : Array Value) (below : List Frame) (meth : Method) (c : Code) (ρ0 : Nat → Nat) (n0 x0 nf xf : Nat) (r : sm_Res) (R' : sm_R) (G' : sm_G) (L' : sm_L),
  sm_Cx p s m args meth c D tc B ρ0 adV Z (sm_ml j) (sm_own j) (sm_b j) (sm_ini j) (sm_T j) → sm_rm Rm n0 x0 nf xf → 20 ≤ Rm.frames → meth.locks = false → c.exceptionTable.toList = tableOf (sm_hh j) → n0 ≤ nf → x0 ≤ xf →
  (∀ pc, sm_Xh p l e Rm s m args below meth c (vx_MQ below (sm_QC D tc Z B ρ0 n0 r (nf, R', xf, G', L')) (sm_XC D tc Z B ρ0 n0 r (nf, R', xf, G', L')) args s (sm_mc n0 x0 nf xf) (sm_ms n0 x0 nf xf) (fun q => B ≤ q)) D tc B ρ0 Z (sm_ml j) n0 x0 nf xf (sm_hd j) (.inl (r, nf, R', xf, G', L')) pc) ∧
  (∀ pc v ex rest n R x G L ls, sm_T j pc = .new v → 40 ≤ Nat.mod v 256 → ex = Nat.sub (Nat.mod v 256) 40 → sm_wsum rest ≤ 8 → (Sum.inl (r, nf, R', xf, G', L') : sm_O) = .inl (.inr ex, n, R, x + 1, G, L) → sm_Cl p l e Rm s m args below meth c (vx_MQ below (sm_QC D tc Z B ρ0 n0 r (nf, R', xf, G', L')) (sm_XC D tc Z B ρ0 n0 r (nf, R', xf, G', L')) args s (sm_mc n0 x0 nf xf) (sm_ms n0 x0 nf xf) (fun q => B ≤ q)) D tc B ρ0 Z (sm_ml j) n0 x0 nf xf pc ls rest n R x G L)
theorem sm_cw_succ (d j : Nat) (as : List Value) (S : sm_S) : sm_cw (d + 1) j as S = (bif Nat.ble j 5 then sm_bi j as S else bif Nat.ble (sm_lay0 as).length (sm_ml j) then sm_rl (sm_T j) (sm_ct j) (sm_hd j) (fun j n R as D => sm_dr (sm_cw d j as (n, R, D))) (sm_cw d) 0 (sm_lay (sm_ml j) as) S.1 S.2.1 S.2.2.1 S.2.2.2.1 S.2.2.2.2 else none) := by rw [sm_cw]
theorem sm_cw_run {d j : Nat} {as : List Value} {S : sm_S} {r : sm_Res × sm_S} (hj : 5 < j) (h : sm_cw (d + 1) j as S = some r) : (sm_lay0 as).length ≤ sm_ml j ∧ ∃ F, sm_run (sm_T j) (sm_ct j) (sm_hd j) (fun j n R as D => sm_dr (sm_cw d j as (n, R, D))) (sm_cw d) F 0 (sm_lay (sm_ml j) as) S.1 S.2.1 S.2.2.1 S.2.2.2.1 S.2.2.2.2 = some r := by
  have h1 := h
  rw [sm_cw_succ] at h1
  rw [sm_ble_f (Nat.not_le.mpr hj)] at h1
  simp only [cond_false] at h1
  obtain ⟨h2, h3⟩ : Nat.ble (sm_lay0 as).length (sm_ml j) = true ∧ sm_rl (sm_T j) (sm_ct j) (sm_hd j) (fun j n R as D => sm_dr (sm_cw d j as (n, R, D))) (sm_cw d) 0 (sm_lay (sm_ml j) as) S.1 S.2.1 S.2.2.1 S.2.2.2.1 S.2.2.2.2 = some r := by
    cases hb : Nat.ble (sm_lay0 as).length (sm_ml j) with
    | true => rw [hb] at h1; exact ⟨rfl, h1⟩
    | false => rw [hb] at h1; cases h1
  exact ⟨sm_ale h2, sm_lim_of h3⟩
theorem sm_bif2 {β : Type} {b : Bool} {f : Option β} {o : β} (h : (bif b then f else none) = some o) : b = true := (sm_bif h).1
theorem sm_cw_tx (d : Nat) : sm_tx (sm_cw d) ∧ ∀ j as S u, 3 ≤ j → j ≤ 5 → sm_cw d j as S = some u → sm_bi j as S = some u := by
  unfold sm_tx
  cases d with
  | zero => exact ⟨⟨fun as S o h => (by cases h), fun as S o h => (by cases h)⟩, fun j as S o _ _ h => (by cases h)⟩
  | succ d =>
    refine ⟨⟨fun as S u h => ?_, fun as S u h => ?_⟩, fun j as S u h3 h5 h => ?_⟩
    · have h1 := h
      rw [sm_cw_succ, show Nat.ble 1 5 = true from rfl, cond_true] at h1
      unfold sm_bi at h1
      rw [show Nat.beq 1 1 = true from rfl] at h1
      simp only [cond_true] at h1
      split at h1
      · next r =>
        have h2 := sm_bif2 h1
        rw [Bool.and_eq_true] at h2
        exact ⟨r, rfl, sm_ale h2.1, sm_blt h2.2⟩
      · cases h1
    · have h1 := h
      rw [sm_cw_succ, show Nat.ble 2 5 = true from rfl, cond_true] at h1
      unfold sm_bi at h1
      rw [show Nat.beq 2 1 = false from rfl, show Nat.beq 2 2 = true from rfl] at h1
      simp only [cond_false, cond_true] at h1
      split at h1
      · next r i =>
        have h2 := sm_bif2 h1
        rw [Bool.and_eq_true, Bool.and_eq_true] at h2
        exact ⟨r, i, rfl, sm_ale h2.1.1, sm_blt h2.1.2⟩
      · cases h1
    · have h1 := h
      rw [sm_cw_succ] at h1
      rw [Nat.ble_eq_true_of_le h5] at h1
      exact h1
theorem sm_narz {a : Int32} (h : a &&& 1 = a) : narrow .boolean (.int a) = .int a := (sm_narb h).1
/-- the contract of a method, its callees' given -/
theorem sm_met {l : Launch} {D : va_G} {tc : Nat → ClassId} {adV : Nat → Nat} {Z : sm_G} {B d j : Nat} (hcon : sm_Con D tc adV Z B l d (sm_cw d)) (hj : 5 < j) (hmks : sm_mks) (hmck : sm_mck j = true) (hick : sm_ick j) (hthr : sm_Thr l D tc adV Z B j)
    {as : List Value} {n : Nat} {R : sm_R} {x : Nat} {G : sm_G} {L : sm_L} {r : sm_Res} {n' : Nat} {R' : sm_R} {x' : Nat} {G' : sm_G} {L' : sm_L} (h : sm_cw (d + 1) j as (n, R, x, G, L) = some (r, n', R', x', G', L')) (hn' : n' ≤ 342) (hgr : n ≤ n' ∧ x ≤ x') (ρ : Nat → Nat) :
    vx_Met l (sm_y j) (sm_wd j) (sm_rmd (d + 1) (sm_mc n x n' x') (sm_ms n x n' x')) (sm_Pc D tc adV Z B ρ as n R G L) (sm_QC D tc Z B ρ n r (n', R', x', G', L')) (sm_XC D tc Z B ρ n r (n', R', x', G', L')) (sm_mc n x n' x') (sm_ms n x n' x') (fun q => B ≤ q) := by
  obtain ⟨g1, g2, g3, g4, g5, g6, g7, g8, g9, g10, g11⟩ := sm_mck_of hmck
  obtain ⟨hlen, F, hF⟩ := sm_cw_run hj h
  have hrm : sm_rm (sm_rmd (d + 1) (sm_mc n x n' x') (sm_ms n x n' x')) n x n' x' := ⟨Nat.le_refl _, Nat.le_refl _, hn', by show 1 ≤ d + 1 + 20; omega, by show 300 ≤ 64 * (d + 1) + 400; omega⟩
  have hdp : sm_dp (sm_rmd (d + 1) (sm_mc n x n' x') (sm_ms n x n' x')) d := ⟨by show d + 21 ≤ d + 1 + 20; omega, by show 64 * d + 464 ≤ 64 * (d + 1) + 400; omega⟩
  have body : ∀ p e s m args below meth c s₁, BodyLoose p l (sm_y j) (headSpec (sm_wd j) (sm_rmd (d + 1) (sm_mc n x n' x') (sm_ms n x n' x'))) (sm_b j) (sm_ml j) (sm_rt j) e s m args below meth c s₁ → c.maxLocals = sm_ml j → c.exceptionTable.toList = tableOf (sm_hh j) → sm_Pc D tc adV Z B ρ as n R G L args s →
      W p l e (headSpec (sm_wd j) (sm_rmd (d + 1) (sm_mc n x n' x') (sm_ms n x n' x'))).room s m args below meth c s.heap [] 0 0 (vx_MQ below (sm_QC D tc Z B ρ n r (n', R', x', G', L')) (sm_XC D tc Z B ρ n r (n', R', x', G', L')) args s (sm_mc n x n' x') (sm_ms n x n' x') (fun q => B ≤ q)) (entryFrame m args (sm_ml j)) := by
    intro p e s m args below meth c s₁ Bd hml htab hv
    obtain ⟨rfl, hUw, hSt⟩ := hv
    have hts0 := atoms_spec (ws := sm_wd j) Bd.pre
    have hts : ∀ w ∈ sm_tb, w.before (as.map (sm_cv ρ)).toArray s = true := fun w hw => hts0 w (List.mem_cons_of_mem _ hw)
    have hown : s.vm.findClass (sm_cls (sm_own j)) = some m.cls := by rw [g9]; exact findClass_of_methodNamed Bd.named
    have hnm : meth.name = (sm_y j).name := (name_of_methodNamed Bd.named Bd.method).1
    have hlocks := Bd.notSynchronized
    have C : sm_Cx p s m (as.map (sm_cv ρ)).toArray meth c D tc B ρ adV Z (sm_ml j) (sm_own j) (sm_b j) (sm_ini j) (sm_T j) := ⟨Bd.exec, Bd.bytes, hml, hts, hSt, hown, fun pc => (hick pc).1, fun q => by rw [hnm]; exact g11 (Nat.eq_of_beq_eq_true q)⟩
    have hth := hthr p e (sm_rmd (d + 1) (sm_mc n x n' x') (sm_ms n x n' x')) s m _ below meth c ρ n x n' x' r R' G' L' C hrm (by show 20 ≤ d + 1 + 20; omega) hlocks htab hgr.1 hgr.2
    have hE : sm_End p l e (sm_rmd (d + 1) (sm_mc n x n' x') (sm_ms n x n' x')) s m (as.map (sm_cv ρ)).toArray below meth c (vx_MQ below (sm_QC D tc Z B ρ n r (n', R', x', G', L')) (sm_XC D tc Z B ρ n r (n', R', x', G', L')) (as.map (sm_cv ρ)).toArray s (sm_mc n x n' x') (sm_ms n x n' x') (fun q => B ≤ q)) D tc B ρ Z (sm_ml j) n x n' x' (sm_T j) (sm_hd j) (.inl (r, n', R', x', G', L')) := by
      refine ⟨hth.1, hth.2, fun pc u st n1 R1 x1 G1 L1 ls1 ew hre => ?_⟩
      cases ew
      refine ⟨⟨Nat.le_refl _, Nat.le_refl _⟩, fun _ _ ρ1 H locs rls hV hl => ?_⟩
      obtain ⟨v1, v2, v3, v4, v5, v6, v7, v8⟩ := hV
      have hF9 : ∀ t : State, t.heap = H → va_F (fun q => B ≤ q) s t := fun t ht => ⟨by rw [ht]; exact v3.1, fun q q1 q2 => by rw [ht]; exact v3.2.1 q q1 q2⟩
      have hBB : ∀ t : State, t.heap = H → sm_BB D tc Z B ρ n (n', R', x', G', L') ρ1 t := fun t ht => ⟨v4, by rw [ht]; exact v1, v2, v5, v6, v7, v8⟩
      have hlocs : ∀ q ∈ locs, B ≤ q.base := v3.2.2
      refine vx_ret ?_
      rcases hre with ⟨hT, a, rfl, rfl⟩ | ⟨hT, a, rfl, rfl, ha⟩ | ⟨hT, a, rfl, rfl⟩ | ⟨hT, a, rfl, rfl, h0⟩ | ⟨hT, rfl, rfl⟩
      · have hr := (hick pc).2.2.1
        rw [hT] at hr
        obtain ⟨hd0, -⟩ := sm_chk_of C.2.2.2.2.2.2.1 hT (by intro z; cases z)
        exact W.iret Bd.exec Bd.bytes (Bd.returns.trans (of_decide_eq_true hr)) (fun t ht _ => ⟨⟨a, ρ1, rfl, rfl, hBB t ht⟩, hF9 t ht⟩) hlocs hd0 hlocks
      · have hr := (hick pc).2.2.1
        rw [hT] at hr
        obtain ⟨hd0, -⟩ := sm_chk_of C.2.2.2.2.2.2.1 hT (by intro z; cases z)
        exact W.zret Bd.exec Bd.bytes (Bd.returns.trans (of_decide_eq_true hr)) (sm_narz ha) (fun t ht _ => ⟨⟨a, ρ1, rfl, rfl, hBB t ht⟩, hF9 t ht⟩) hlocs hd0 hlocks
      · have hr := (hick pc).2.2.1
        rw [hT] at hr
        obtain ⟨hd0, -⟩ := sm_chk_of C.2.2.2.2.2.2.1 hT (by intro z; cases z)
        exact W.lret Bd.exec Bd.bytes (Bd.returns.trans (of_decide_eq_true hr)) (fun t ht _ => ⟨⟨a, ρ1, rfl, rfl, hBB t ht⟩, hF9 t ht⟩) hlocs hd0 hlocks
      · have hr := (hick pc).2.2.1
        rw [hT] at hr
        obtain ⟨hd0, -⟩ := sm_chk_of C.2.2.2.2.2.2.1 hT (by intro z; cases z)
        unfold sm_rck at hr
        dsimp only at hr
        split at hr
        · next nm hnm9 =>
          show W p l e _ s m _ below meth c H locs _ _ _ (F0 m pc rls [sm_cv ρ1 (.ref a)])
          rw [sm_cv_ne h0]
          exact W.aret (v := .ref (ρ1 a)) Bd.exec Bd.bytes (Bd.returns.trans hnm9) (Or.inl ⟨nm, rfl⟩) (Or.inr ⟨ρ1 a, rfl⟩) (fun t ht _ => ⟨⟨ρ1, ρ1 a, rfl, trivial, ⟨h0, rfl⟩, hBB t ht⟩, hF9 t ht⟩) hlocs hd0 hlocks
        · cases hr
      · have hr := (hick pc).2.2.1
        rw [hT] at hr
        obtain ⟨hd0, -⟩ := sm_chk_of C.2.2.2.2.2.2.1 hT (by intro z; cases z)
        exact W.vret Bd.exec Bd.bytes (Bd.returns.trans (of_decide_eq_true hr)) (fun t ht _ => ⟨⟨ρ1, rfl, trivial, hBB t ht⟩, hF9 t ht⟩) hlocs hd0 hlocks
    have hrun := sm_run_ok (cn := fun j n R as D => sm_dr (sm_cw d j as (n, R, D))) C hdp hrm hcon (sm_cw_tx d).1 hmks (sm_cw_tx d).2 (fun pc => (hick pc).2.1) rfl hE F 0 _ _ _ _ _ _ hF
    have hV0 : sm_V D tc B ρ Z n s ρ n R G L s.heap [] := ⟨hUw.1, hUw.2.1, va_S.rf, fun _ _ => rfl, hUw.2.2.1, hUw.2.2.2.1, hUw.2.2.2.2.1, hUw.2.2.2.2.2⟩
    rw [lg_entry_eq]
    have hl := lv_entry (as.map (sm_cv ρ)) (n := sm_ml j) (by rw [sm_sl_len]; exact hlen)
    have hl2 : lv_has ((lg_sl (as.map (sm_cv ρ)) ++ List.replicate (sm_ml j - (lg_sl (as.map (sm_cv ρ))).length) Slot.unset).toArray) (sm_ml j) (sm_lv ρ 0 (sm_lay (sm_ml j) as)) := by
      refine sm_has_sub hl (fun q hq => ?_)
      unfold sm_lay at hq
      rw [sm_lv_null] at hq
      exact sm_lay_in as 0 q hq
    have := hrun.2 (Nat.le_refl _) (Nat.le_refl _) ρ s.heap [] _ hV0 hl2
    rw [Nat.sub_self, Nat.sub_self, Nat.sub_self] at this
    exact this
  cases hem : (sm_hh j).isEmpty with
  | true =>
    have hnil : sm_hh j = [] := List.isEmpty_iff.mp hem
    refine vx_ofW (cc := sm_b j) (maxL := sm_ml j) (ret := sm_rt j) (ws' := sm_tb) g6 (by unfold sm_wd sm_cw0; rw [hem]; rfl) (fun p e s m args below meth c s₁ Bd hml ht hv => body p e s m args below meth c s₁ Bd hml ?_ hv)
    rw [hnil]
    exact List.eq_nil_iff_forall_not_mem.mpr ht
  | false =>
    refine vx_ofWH (cc := sm_b j) (maxL := sm_ml j) (ret := sm_rt j) (hh := sm_hh j) (ws' := sm_tb) g6 (by unfold sm_wd sm_cw0; rw [hem]; rfl) (fun p e s m args below meth c s₁ Bd hml hv => body p e s m args below meth c s₁ Bd hml ?_ hv)
    have hts0 := atoms_spec (ws := sm_wd j) Bd.pre
    have h1 := hts0 (sm_cw0 j) List.mem_cons_self
    unfold sm_cw0 at h1
    rw [hem] at h1
    exact vx_table (x := sm_y j) Bd h1
