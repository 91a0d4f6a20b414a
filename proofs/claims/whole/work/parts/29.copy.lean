section SMO
variable {p : Program} {l : Launch} {e : Env} {Rm : Room} {s : State} {m : MethodId} {args : Array Value} {below : List Frame} {meth : Method} {c : Code} {Q : State → Prop}
variable {D : va_G} {tc : Nat → ClassId} {B : Nat} {ρ0 adV : Nat → Nat} {Z : sm_G} {nL n0 x0 nf xf o d : Nat} {cc : ByteArray} {ini : Bool} {T : Nat → Instr}
variable {pc : Nat} {ls st : List Value} {n : Nat} {R : sm_R} {x : Nat} {G : sm_G} {L : sm_L}
variable {hd : Nat → Nat → Nat} {cn : sm_CN} {cx : sm_CX} {k : Nat → List Value → List Value → Nat → sm_R → Nat → sm_G → sm_L → Option sm_O} {w : sm_O}
theorem sm_arr0 : Cond.native arraycopyName ∈ sm_tb ∧ Cond.static arraycopyName ∈ sm_tb ∧ Cond.initialized "java/lang/System" ∈ sm_tb := ⟨sm_tb_in1 (i := 697) (by decide +kernel) rfl, sm_tb_in1 (i := 696) (by decide +kernel) rfl, sm_tb_in1 (i := 28) (by decide +kernel) rfl⟩
theorem sm_nfw : nativeFrameWords "java/lang/System" "arraycopy" 5 ≤ 200 := by decide +kernel
/-- rows of ints copied -/
theorem sm_copy_ok (C : sm_Cx p s m args meth c D tc B ρ0 adV Z nL o cc ini T) (hrm : sm_rm Rm n0 x0 nf xf) (hb3 : ∀ j as S u, 3 ≤ j → j ≤ 5 → cx j as S = some u → sm_bi j as S = some u)
    (hck : sm_cck o (T pc) = true) {v : Nat} (hT : T pc = .invokestatic v) (hv3 : Nat.mod v 1024 = 3) (hcn : cn = fun j n R as D => sm_dr (cx j as (n, R, D)))
    (hk : ∀ pc ls st n R x G L, k pc ls st n R x G L = some w → sm_Cl p l e Rm s m args below meth c Q D tc B ρ0 Z nL n0 x0 nf xf pc ls st n R x G L)
    (h : sm_inv sm_rO hd cn cx pc ls v st n R x G L k = some w) : sm_Cl p l e Rm s m args below meth c Q D tc B ρ0 Z nL n0 x0 nf xf pc ls st n R x G L := by
  obtain ⟨hx, hb, hml, hts, hSt, hown, hchk, hini⟩ := C
  obtain ⟨hK, hnz, ⟨ha1, ha2, ha3, ha4⟩, hstr, hvs, hU, hN, ⟨hX, hX1, hX2, hX3⟩, hB⟩ := hSt
  obtain ⟨hr1, hr2, hr3, hr4, hr5⟩ := hrm
  obtain ⟨hd0, -⟩ := sm_chk_of hchk hT (by intro z; cases z)
  rw [hT] at hck
  unfold sm_cck at hck
  dsimp only at hck
  rw [hv3] at hck
  simp only [show (Nat.ble 3 3 && Nat.ble 3 5) = true from rfl, show Nat.beq 3 3 = true from rfl, cond_true, Bool.and_eq_true] at hck
  have hlk : (Cond.methodLink (sm_cls o) (Nat.mod (Nat.div v 65536) 65536) arraycopyName).before args s = true := hts _ (sm_tb_m (sm_tc_of hck.1) rfl)
  have hna := Nat.eq_of_beq_eq_true hck.2
  unfold sm_inv at h
  rw [hna] at h
  split at h
  · cases h
  · next as rest hargs =>
    obtain ⟨vs, hv1, hv2, hv3'⟩ := sm_args_spec _ _ _ _ _ hargs
    have hst : st = as.reverse ++ rest := by rw [hv2, hv3']; simp
    obtain ⟨h1, h2⟩ := sm_bif h
    rw [Bool.and_eq_true] at h1
    have hws := sm_ale h1.1
    rw [hv3] at h2
    rw [show Nat.ble 512 3 = false from rfl] at h2
    simp only [cond_false] at h2
    rw [hcn] at h2
    simp only at h2
    cases hcx : cx 3 as (n, R, x, G, L) with
    | none =>
      exfalso
      rw [hcx] at h2
      revert h2
      cases Nat.beq (Nat.mod (Nat.div v 16384) 4) 0 <;> cases Nat.beq (Nat.mod (Nat.div v 16384) 4) 1 <;> cases Nat.beq (Nat.mod (Nat.div v 16384) 4) 2 <;> intro h2 <;> cases h2
    | some u =>
      have hbi := hb3 3 _ _ _ (Nat.le_refl 3) (by decide) hcx
      rw [hcx] at h2
      unfold sm_bi at hbi
      rw [show Nat.beq 3 1 = false from rfl, show Nat.beq 3 2 = false from rfl, show Nat.beq 3 4 = false from rfl, show Nat.beq 3 5 = false from rfl] at hbi
      simp only [cond_false] at hbi
      split at hbi
      · next a sp b dp nn =>
        obtain ⟨g1, g2⟩ := sm_bif hbi
        have e1 := (Option.some.inj g2).symm
        subst e1
        simp only [Bool.and_eq_true, decide_eq_true_eq] at g1
        obtain ⟨⟨⟨⟨⟨⟨k1, k2⟩, k3⟩, k4⟩, k5⟩, k6⟩, k7⟩ := g1
        have h3 : k (pc + 3) ls rest n R x (sm_acp G a sp.toNatClampNeg b dp.toNatClampNeg nn.toNatClampNeg) L = some w := by
          revert h2
          cases Nat.beq (Nat.mod (Nat.div v 16384) 4) 0 <;> cases Nat.beq (Nat.mod (Nat.div v 16384) 4) 1 <;> cases Nat.beq (Nat.mod (Nat.div v 16384) 4) 2 <;> intro h2 <;> first | exact h2 | cases h2
        have hk1 := hk _ _ _ _ _ _ _ _ h3
        refine ⟨hk1.1, fun h0 h1' ρ H locs rls hV hl => ?_⟩
        obtain ⟨z1, z2, z0⟩ := sm_is_spec k1 (by decide)
        obtain ⟨y1, y2, y0⟩ := sm_is_spec k2 (by decide)
        rw [hst]
        have em : (([Value.ref a, .int sp, .ref b, .int dp, .int nn].reverse ++ rest).map (sm_cv ρ)) = .int nn :: .int dp :: .ref (ρ b) :: .int sp :: .ref (ρ a) :: rest.map (sm_cv ρ) := by
          simp only [List.reverse_cons, List.reverse_nil, List.nil_append, List.cons_append, List.map_cons, sm_cv_ne z0, sm_cv_ne y0]
          rfl
        rw [em]
        have hV0 := hV
        obtain ⟨hP, hDD, hS, hag, hwf, hn3, hz1, hz2⟩ := hV
        have ga : (sm_ws tc ρ n R G L)[a - 1]? = some (ρ a, .inl (tc 20, sm_N a, .inl (G a))) := by rw [sm_ws_get z0 z2, sm_el_i (by omega) (by omega), z1]
        have gb : (sm_ws tc ρ n R G L)[b - 1]? = some (ρ b, .inl (tc 20, sm_N b, .inl (G b))) := by rw [sm_ws_get y0 y2, sm_el_i (by omega) (by omega), y1]
        refine va_copyi (D := D) (cl := vwCl) (tys := sm_tys tc) (A := fun q => B ≤ q) (H0 := s.heap) hx hb (hml.trans hl.1.symm) hown hlk (hts _ sm_arr0.1) (hts _ sm_arr0.2.1) (hts _ sm_arr0.2.2) hK hP hDD hS (a - 1) (b - 1) 0 0 ga gb rfl rfl rfl (sm_nle.mpr k3) (sm_nle.mpr k4) (sm_nle.mpr k5) (sm_ale k6) (sm_ale k7) (fun i _ => rfl) hr4 ?_ hd0 (fun H1 locs1 a1 a2 a3 => ?_)
        · rw [sm_cat_sum, ← sm_wsum_eq]
          have := sm_nfw
          omega
        · have e2 : sm_ws tc ρ n R (sm_acp G a sp.toNatClampNeg b dp.toNatClampNeg nn.toNatClampNeg) L = (sm_ws tc ρ n R G L).set (b - 1) (ρ b, .inl (tc 20, sm_N b, .inl (va_cpy (G a) (G b) sp.toNatClampNeg dp.toNatClampNeg nn.toNatClampNeg))) := by
            have r1 : ∀ q, q ≠ b → sm_acp G a sp.toNatClampNeg b dp.toNatClampNeg nn.toNatClampNeg q = G q := fun q hq => by
              funext j
              unfold sm_acp
              rw [sm_beqF hq]
              rfl
            have r2 : sm_acp G a sp.toNatClampNeg b dp.toNatClampNeg nn.toNatClampNeg b = va_cpy (G a) (G b) sp.toNatClampNeg dp.toNatClampNeg nn.toNatClampNeg := by
              funext j
              unfold sm_acp
              rw [Nat.beq_refl]
              rfl
            rw [sm_ws_set y0 y2 (fun _ _ => rfl) r1 (fun _ _ => rfl), sm_el_i (by omega) (by omega), y1, r2]
          rw [← e2] at a1 a2
          have r3 : ∀ q, b < q → sm_acp G a sp.toNatClampNeg b dp.toNatClampNeg nn.toNatClampNeg q = G q := fun q hq => by
            funext j
            unfold sm_acp
            rw [sm_beqF (Nat.ne_of_gt hq)]
            rfl
          exact hk1.2 h0 h1' ρ H1 locs1 rls ⟨a1, a2, a3, hag, hwf, hn3, (r3 8191 (Nat.lt_of_le_of_lt (Nat.le_trans y2 hn3) (by decide))).trans hz1, (r3 8190 (Nat.lt_of_le_of_lt (Nat.le_trans y2 hn3) (by decide))).trans hz2⟩ hl
      · cases hbi
theorem sm_mmw : Cond.static Lib.Math.min.name ∈ sm_tb ∧ Cond.code Lib.Math.min.name Lib.Math.min.code 2 (some .int) ∈ sm_tb ∧ Cond.static Lib.Math.max.name ∈ sm_tb ∧ Cond.code Lib.Math.max.name Lib.Math.max.code 2 (some .int) ∈ sm_tb ∧ Cond.initialized "java/lang/Math" ∈ sm_tb :=
  ⟨sm_tb_in1 (i := 546) (by decide +kernel) rfl, sm_tb_in1 (i := 547) (by decide +kernel) rfl, sm_tb_in1 (i := 570) (by decide +kernel) rfl, sm_tb_in1 (i := 571) (by decide +kernel) rfl, sm_tb_in1 (i := 18) (by decide +kernel) rfl⟩
/-- the lesser, the greater of two ints -/
theorem sm_mm_ok (C : sm_Cx p s m args meth c D tc B ρ0 adV Z nL o cc ini T) (hrm : sm_rm Rm n0 x0 nf xf) (hb3 : ∀ j as S u, 3 ≤ j → j ≤ 5 → cx j as S = some u → sm_bi j as S = some u)
    (hck : sm_cck o (T pc) = true) {v : Nat} (hT : T pc = .invokestatic v) (hv : Nat.mod v 1024 = 4 ∨ Nat.mod v 1024 = 5) (hcn : cn = fun j n R as D => sm_dr (cx j as (n, R, D)))
    (hk : ∀ pc ls st n R x G L, k pc ls st n R x G L = some w → sm_Cl p l e Rm s m args below meth c Q D tc B ρ0 Z nL n0 x0 nf xf pc ls st n R x G L)
    (h : sm_inv sm_rO hd cn cx pc ls v st n R x G L k = some w) : sm_Cl p l e Rm s m args below meth c Q D tc B ρ0 Z nL n0 x0 nf xf pc ls st n R x G L := by
  obtain ⟨hx, hb, hml, hts, hSt, hown, hchk, hini⟩ := C
  obtain ⟨hr1, hr2, hr3, hr4, hr5⟩ := hrm
  obtain ⟨hd0, -⟩ := sm_chk_of hchk hT (by intro z; cases z)
  rw [hT] at hck
  unfold sm_cck at hck
  dsimp only at hck
  obtain ⟨j, hj⟩ : ∃ j, j = Nat.mod v 1024 := ⟨_, rfl⟩
  have h35 : (Nat.ble 3 (Nat.mod v 1024) && Nat.ble (Nat.mod v 1024) 5) = true := by rcases hv with q | q <;> rw [q] <;> rfl
  have hb33 : Nat.beq (Nat.mod v 1024) 3 = false := by rcases hv with q | q <;> rw [q] <;> rfl
  rw [h35, hb33] at hck
  simp only [cond_true, cond_false, Bool.and_eq_true] at hck
  have hna := Nat.eq_of_beq_eq_true hck.2
  have hj512 : Nat.ble 512 (Nat.mod v 1024) = false := by rcases hv with q | q <;> rw [q] <;> rfl
  unfold sm_inv at h
  rw [hna] at h
  split at h
  · cases h
  · next as rest hargs =>
    obtain ⟨vs, hv1, hv2, hv3'⟩ := sm_args_spec _ _ _ _ _ hargs
    have hst : st = as.reverse ++ rest := by rw [hv2, hv3']; simp
    obtain ⟨h1, h2⟩ := sm_bif h
    rw [Bool.and_eq_true] at h1
    have hws := sm_ale h1.1
    rw [hj512] at h2
    simp only [cond_false] at h2
    rw [hcn] at h2
    simp only at h2
    cases hcx : cx (Nat.mod v 1024) as (n, R, x, G, L) with
    | none =>
      exfalso
      rw [hcx] at h2
      revert h2
      cases Nat.beq (Nat.mod (Nat.div v 16384) 4) 0 <;> cases Nat.beq (Nat.mod (Nat.div v 16384) 4) 1 <;> cases Nat.beq (Nat.mod (Nat.div v 16384) 4) 2 <;> intro h2 <;> cases h2
    | some u =>
      have hbi := hb3 _ _ _ _ (by omega) (by omega) hcx
      rw [hcx] at h2
      have key : ∃ (a b r : Int32), as = [.int a, .int b] ∧ u = (.inl (some (.int r)), (n, R, x, G, L)) ∧ ((Nat.mod v 1024 = 4 ∧ r = if b < a then b else a) ∨ (Nat.mod v 1024 = 5 ∧ r = if a < b then b else a)) := by
        unfold sm_bi at hbi
        rcases hv with q | q
        · rw [q] at hbi
          rw [show Nat.beq 4 1 = false from rfl, show Nat.beq 4 2 = false from rfl, show Nat.beq 4 4 = true from rfl] at hbi
          simp only [cond_false, cond_true] at hbi
          split at hbi
          · next a b => exact ⟨a, b, _, rfl, (Option.some.inj hbi).symm, Or.inl ⟨q, rfl⟩⟩
          · cases hbi
        · rw [q] at hbi
          rw [show Nat.beq 5 1 = false from rfl, show Nat.beq 5 2 = false from rfl, show Nat.beq 5 4 = false from rfl, show Nat.beq 5 5 = true from rfl] at hbi
          simp only [cond_false, cond_true] at hbi
          split at hbi
          · next a b => exact ⟨a, b, _, rfl, (Option.some.inj hbi).symm, Or.inr ⟨q, rfl⟩⟩
          · cases hbi
      obtain ⟨a, b, r, rfl, rfl, hr⟩ := key
      have h3 : k (pc + 3) ls (.int r :: rest) n R x G L = some w := by
        revert h2
        cases Nat.beq (Nat.mod (Nat.div v 16384) 4) 0 <;> cases Nat.beq (Nat.mod (Nat.div v 16384) 4) 1 <;> cases Nat.beq (Nat.mod (Nat.div v 16384) 4) 2 <;> intro h2 <;> first | exact h2 | cases h2
      have hk1 := hk _ _ _ _ _ _ _ _ h3
      refine ⟨hk1.1, fun h0 h1' ρ H locs rls hV hl => ?_⟩
      have kk := hk1.2 h0 h1' ρ H locs rls hV hl
      rw [hst]
      have hroom := sm_mc_le h0 (Nat.le_refl n) hk1.1.1 h1' (Nat.le_refl x) hk1.1.2
      have hloc : ((rest.map (sm_cv ρ)).map fun v => v.category).sum + 13 ≤ Rm.locals := by
        rw [sm_cat_sum, ← sm_wsum_eq]
        omega
      have hc9 : n - n0 + (x - x0) ≤ Rm.cells := Nat.le_trans hroom.2.1 hr1
      have hs9 : sm_pre n - sm_pre n0 + 6 * (x - x0) ≤ Rm.slots := Nat.le_trans hroom.2.2.2 hr2
      rcases hr with ⟨q, rfl⟩ | ⟨q, rfl⟩
      · have hlk : (Cond.methodLink (sm_cls o) (Nat.mod (Nat.div v 65536) 65536) Lib.Math.min.name).before args s = true := by
          have := hck.1
          rw [q] at this
          exact hts _ (sm_tb_m (sm_tc_of this) rfl)
        exact va_mmin hx hb (hml.trans hl.1.symm) hown hlk (hts _ sm_mmw.1) (hts _ sm_mmw.2.2.2.2) (hts _ sm_mmw.2.1) hr4 hloc hc9 hs9 hd0 kk
      · have hlk : (Cond.methodLink (sm_cls o) (Nat.mod (Nat.div v 65536) 65536) Lib.Math.max.name).before args s = true := by
          have := hck.1
          rw [q] at this
          exact hts _ (sm_tb_m (sm_tc_of this) rfl)
        exact va_mmax hx hb (hml.trans hl.1.symm) hown hlk (hts _ sm_mmw.2.2.1) (hts _ sm_mmw.2.2.2.2) (hts _ sm_mmw.2.2.2.1) hr4 hloc hc9 hs9 hd0 kk
/-- one instruction -/
theorem sm_step_ok (C : sm_Cx p s m args meth c D tc B ρ0 adV Z nL o cc ini T) (hdp : sm_dp Rm d) (hrm : sm_rm Rm n0 x0 nf xf) (hcon : sm_Con D tc adV Z B l d cx) (hbi : sm_tx cx) (hmks : sm_mks) (hb3 : ∀ j as S u, 3 ≤ j → j ≤ 5 → cx j as S = some u → sm_bi j as S = some u)
    (hck : ∀ pc, sm_cck o (T pc) = true) (hcn : cn = fun j n R as D => sm_dr (cx j as (n, R, D)))
    (hk : ∀ pc ls st n R x G L, k pc ls st n R x G L = some w → sm_Cl p l e Rm s m args below meth c Q D tc B ρ0 Z nL n0 x0 nf xf pc ls st n R x G L) (hw : ∀ r n R x G L, w = .inl (r, n, R, x, G, L) → n ≤ nf ∧ x ≤ xf) (hX : ∀ pc, sm_Xh p l e Rm s m args below meth c Q D tc B ρ0 Z nL n0 x0 nf xf hd w pc)
    (hth : ∀ v ex rest n R x G L ls, T pc = .new v → 40 ≤ Nat.mod v 256 → ex = Nat.sub (Nat.mod v 256) 40 → sm_wsum rest ≤ 8 → w = .inl (.inr ex, n, R, x + 1, G, L) → sm_Cl p l e Rm s m args below meth c Q D tc B ρ0 Z nL n0 x0 nf xf pc ls rest n R x G L)
    (hre : ∀ u st n R x G L ls, w = .inl (.inl u, n, R, x, G, L) → ((T pc = .ireturn ∧ ∃ a, u = some (.int a) ∧ st = [.int a]) ∨ (T pc = .freturn ∧ ∃ a : Int32, u = some (.int a) ∧ st = [.int a] ∧ a &&& 1 = a) ∨ (T pc = .lreturn ∧ ∃ a, u = some (.long a) ∧ st = [.long a]) ∨ (T pc = .areturn ∧ ∃ a : Nat, u = some (.ref a) ∧ st = [.ref a] ∧ a ≠ 0) ∨ (T pc = .return_ ∧ u = none ∧ st = [])) → sm_Cl p l e Rm s m args below meth c Q D tc B ρ0 Z nL n0 x0 nf xf pc ls st n R x G L)
    (h : sm_step sm_rO T hd cn cx pc ls st n R x G L k = some w) : sm_Cl p l e Rm s m args below meth c Q D tc B ρ0 Z nL n0 x0 nf xf pc ls st n R x G L := by
  cases h1 : sm_go1 (T pc) with
  | true => exact sm_ok_go C h1 hk h
  | false =>
    cases h2 : sm_hp1 (T pc) with
    | true => exact sm_ok_heap C hrm h2 hk h
    | false =>
      obtain ⟨i, hT⟩ : ∃ i, T pc = i := ⟨_, rfl⟩
      rw [hT] at h1 h2
      have h0 := h
      unfold sm_step at h
      rw [hT] at h
      cases i <;> first | (exfalso; exact Bool.noConfusion h1) | (exfalso; exact Bool.noConfusion h2) | (exfalso; cases h; done) | skip
      case multianewarray v dd => exact sm_ok_multi C hrm hT hk h0
      case new v =>
        have hlt : ¬ Nat.mod v 256 < 40 := fun z => by
          have : sm_hp1 (.new v) = true := sm_blt_t z
          rw [this] at h2; cases h2
        dsimp only at h
        rw [Nat.ble_eq_true_of_le (by omega : 40 ≤ Nat.mod v 256)] at h
        simp only [cond_true] at h
        obtain ⟨g1, g2⟩ := sm_bif h
        exact hth v _ st n R x G L ls hT (by omega) rfl (sm_ale g1) (Option.some.inj g2).symm
      case invokevirtual v => exact sm_inv_ok C hdp hrm hcon hbi hmks (hck pc) (Or.inl hT) hcn hk hw (hX pc) h
      case invokespecial v =>
        have hne : Nat.mod v 1024 ≠ 1023 := fun z => by
          have : sm_hp1 (.invokespecial v) = true := by show Nat.beq (Nat.mod v 1024) 1023 = true; rw [z]; rfl
          rw [this] at h2; cases h2
        dsimp only at h
        rw [sm_beqF hne] at h
        exact sm_inv_ok C hdp hrm hcon hbi hmks (hck pc) (Or.inr (Or.inl ⟨hT, hne⟩)) hcn hk hw (hX pc) h
      case invokestatic v =>
        by_cases hne : 3 ≤ Nat.mod v 1024 ∧ Nat.mod v 1024 ≤ 5
        · by_cases h3 : Nat.mod v 1024 = 3
          · exact sm_copy_ok C hrm hb3 (hck pc) hT h3 hcn hk h
          · exact sm_mm_ok C hrm hb3 (hck pc) hT (by omega) hcn hk h
        · exact sm_inv_ok C hdp hrm hcon hbi hmks (hck pc) (Or.inr (Or.inr ⟨hT, hne⟩)) hcn hk hw (hX pc) h
      case ireturn =>
        dsimp only at h
        split at h
        · next a => exact hre (some (.int a)) _ n R x G L ls (Option.some.inj h).symm (Or.inl ⟨hT, a, rfl, rfl⟩)
        · cases h
      case freturn =>
        dsimp only at h
        split at h
        · next a =>
          by_cases ha : a &&& 1 = a
          · rw [if_pos ha] at h
            exact hre (some (.int a)) _ n R x G L ls (Option.some.inj h).symm (Or.inr (Or.inl ⟨hT, a, rfl, rfl, ha⟩))
          · rw [if_neg ha] at h; cases h
        · cases h
      case lreturn =>
        dsimp only at h
        split at h
        · next a => exact hre (some (.long a)) _ n R x G L ls (Option.some.inj h).symm (Or.inr (Or.inr (Or.inl ⟨hT, a, rfl, rfl⟩)))
        · cases h
      case areturn =>
        dsimp only at h
        split at h
        · next a =>
          obtain ⟨g1, g2⟩ := sm_bif h
          exact hre (some (.ref a)) _ n R x G L ls (Option.some.inj g2).symm (Or.inr (Or.inr (Or.inr (Or.inl ⟨hT, a, rfl, rfl, Nat.ne_of_gt (sm_ale g1)⟩))))
        · cases h
      case return_ =>
        dsimp only at h
        split at h
        · exact hre none _ n R x G L ls (Option.some.inj h).symm (Or.inr (Or.inr (Or.inr (Or.inr ⟨hT, rfl, rfl⟩))))
        · cases h
end SMO
