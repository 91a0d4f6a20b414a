section SMO
variable {p : Program} {l : Launch} {e : Env} {Rm : Room} {s : State} {m : MethodId} {args : Array Value} {below : List Frame} {meth : Method} {c : Code} {Q : State → Prop}
variable {D : va_G} {tc : Nat → ClassId} {B : Nat} {ρ0 adV : Nat → Nat} {Z : sm_G} {nL n0 x0 nf xf o : Nat} {cc : ByteArray} {ini : Bool} {T : Nat → Instr}
variable {pc : Nat} {ls st : List Value} {n : Nat} {R : sm_R} {x : Nat} {G : sm_G} {L : sm_L}
variable {hd : Nat → Nat → Nat} {cn : sm_CN} {cx : sm_CX} {k : Nat → List Value → List Value → Nat → sm_R → Nat → sm_G → sm_L → Option sm_O} {w : sm_O}
theorem sm_ok_go (C : sm_Cx p s m args meth c D tc B ρ0 adV Z nL o cc ini T) (hi : sm_go1 (T pc) = true)
    (hk : ∀ pc ls st n R x G L, k pc ls st n R x G L = some w → sm_Cl p l e Rm s m args below meth c Q D tc B ρ0 Z nL n0 x0 nf xf pc ls st n R x G L)
    (h : sm_step sm_rO T hd cn cx pc ls st n R x G L k = some w) : sm_Cl p l e Rm s m args below meth c Q D tc B ρ0 Z nL n0 x0 nf xf pc ls st n R x G L := by
  obtain ⟨hx, hb, hml, hts, hSt, hown, hchk, -⟩ := C
  have hT : ∃ i, T pc = i := ⟨_, rfl⟩
  obtain ⟨i, hT⟩ := hT
  rw [hT] at hi
  unfold sm_step at h
  rw [hT] at h
  have hne : i ≠ .nop := by rintro rfl; cases hi
  obtain ⟨hd0, hci⟩ := sm_chk_of hchk hT hne
  cases i <;> first | (exfalso; exact Bool.noConfusion hi) | skip
  case iconst v => exact sm_go (hk _ _ _ _ _ _ _ _ h) (fun ρ H locs cells slots rls hl kk => lv_iconst hx hb hd0 rfl kk)
  case bipush v => exact sm_go (hk _ _ _ _ _ _ _ _ h) (fun ρ H locs cells slots rls hl kk => lv_bipush hx hb hd0 (of_decide_eq_true hci) kk)
  case sipush v => exact sm_go (hk _ _ _ _ _ _ _ _ h) (fun ρ H locs cells slots rls hl kk => lv_sipush hx hb hd0 (of_decide_eq_true hci) kk)
  case lconst v => exact sm_go (hk _ _ _ _ _ _ _ _ h) (fun ρ H locs cells slots rls hl kk => lv_lconst hx hb hd0 rfl kk)
  case ldc_w v => exact sm_go (hk _ _ _ _ _ _ _ _ h) (fun ρ H locs cells slots rls hl kk => lv_ldcw hx hb hown (hts _ (sm_tb_m (sm_tc_of hci) rfl)) hd0 kk)
  case ldc2_w v => exact sm_go (hk _ _ _ _ _ _ _ _ h) (fun ρ H locs cells slots rls hl kk => lv_ldc2 hx hb hown (hts _ (sm_tb_m (sm_tc_of hci) rfl)) hd0 kk)
  case iload i =>
    obtain ⟨a, h1, h2⟩ := sm_one h
    exact sm_go (hk _ _ _ _ _ _ _ _ h2) (fun ρ H locs cells slots rls hl kk => lv_iload hx hb hd0 (sm_has_get hl h1 (by simp)) kk)
  case iload_n i =>
    obtain ⟨a, h1, h2⟩ := sm_one h
    exact sm_go (hk _ _ _ _ _ _ _ _ h2) (fun ρ H locs cells slots rls hl kk => lv_iload_n hx hb hd0 rfl (sm_has_get hl h1 (by simp)) kk)
  case lload i =>
    obtain ⟨a, h1, h2⟩ := sm_onel h
    exact sm_go (hk _ _ _ _ _ _ _ _ h2) (fun ρ H locs cells slots rls hl kk => lv_lload hx hb hd0 (sm_has_get hl h1 (by simp)) kk)
  case lload_n i =>
    obtain ⟨a, h1, h2⟩ := sm_onel h
    exact sm_go (hk _ _ _ _ _ _ _ _ h2) (fun ρ H locs cells slots rls hl kk => lv_lload_n hx hb hd0 rfl (sm_has_get hl h1 (by simp)) kk)
  case aload i =>
    obtain ⟨a, h1, h2⟩ := sm_oner h
    refine sm_go (hk _ _ _ _ _ _ _ _ h2) (fun ρ H locs cells slots rls hl kk => ?_)
    have h3 := sm_has_get hl h1 (by simp)
    by_cases ha : a = 0
    · subst ha
      exact lv_aloadN hx hb hd0 h3 kk
    · rw [sm_cv_ne ha] at h3
      rw [List.map_cons, sm_cv_ne ha] at kk
      exact lv_aload hx hb hd0 h3 kk
  case aload_n i =>
    obtain ⟨a, h1, h2⟩ := sm_oner h
    refine sm_go (hk _ _ _ _ _ _ _ _ h2) (fun ρ H locs cells slots rls hl kk => ?_)
    have h3 := sm_has_get hl h1 (by simp)
    by_cases ha : a = 0
    · subst ha
      exact lv_aload_nN hx hb hd0 rfl h3 kk
    · rw [sm_cv_ne ha] at h3
      rw [List.map_cons, sm_cv_ne ha] at kk
      exact lv_aload_n hx hb hd0 rfl h3 kk
  case istore i =>
    obtain ⟨a, r, rfl, h2⟩ := sm_i1_spec h
    exact sm_st (hk _ _ _ _ _ _ _ _ h2) (fun ρ H locs cells slots rls hl kk => lv_istore hx hb hd0 hl (sm_blt hci) rfl (fun rls' hl' => kk rls' (sm_set_has hl')))
  case istore_n i =>
    obtain ⟨a, r, rfl, h2⟩ := sm_i1_spec h
    exact sm_st (hk _ _ _ _ _ _ _ _ h2) (fun ρ H locs cells slots rls hl kk => lv_istore_n hx hb hd0 rfl hl (sm_blt hci) rfl (fun rls' hl' => kk rls' (sm_set_has hl')))
  case lstore i =>
    obtain ⟨a, r, rfl, h2⟩ := sm_l1_spec h
    exact sm_st (hk _ _ _ _ _ _ _ _ h2) (fun ρ H locs cells slots rls hl kk => lv_lstore hx hb hd0 hl (sm_blt hci) rfl (fun rls' hl' => kk rls' (sm_setl_has hl')))
  case lstore_n i =>
    obtain ⟨a, r, rfl, h2⟩ := sm_l1_spec h
    exact sm_st (hk _ _ _ _ _ _ _ _ h2) (fun ρ H locs cells slots rls hl kk => lv_lstore_n hx hb hd0 rfl hl (sm_blt hci) rfl (fun rls' hl' => kk rls' (sm_setl_has hl')))
  case astore i =>
    obtain ⟨a, r, rfl, h2⟩ := sm_r1_spec h
    refine sm_st (hk _ _ _ _ _ _ _ _ h2) (fun ρ H locs cells slots rls hl kk => ?_)
    by_cases ha : a = 0
    · subst ha
      exact lv_astoreN hx hb hd0 hl (sm_blt hci) rfl (fun rls' hl' => kk rls' (sm_set_has (v := .ref 0) hl'))
    · rw [List.map_cons, sm_cv_ne ha]
      exact lv_astore hx hb hd0 hl (sm_blt hci) rfl (fun rls' hl' => kk rls' (sm_set_has (v := .ref a) (by rw [sm_cv_ne ha]; exact hl')))
  case astore_n i =>
    obtain ⟨a, r, rfl, h2⟩ := sm_r1_spec h
    refine sm_st (hk _ _ _ _ _ _ _ _ h2) (fun ρ H locs cells slots rls hl kk => ?_)
    by_cases ha : a = 0
    · subst ha
      exact lv_astore_nN hx hb hd0 rfl hl (sm_blt hci) rfl (fun rls' hl' => kk rls' (sm_set_has (v := .ref 0) hl'))
    · rw [List.map_cons, sm_cv_ne ha]
      exact lv_astore_n hx hb hd0 rfl hl (sm_blt hci) rfl (fun rls' hl' => kk rls' (sm_set_has (v := .ref a) (by rw [sm_cv_ne ha]; exact hl')))
  case iinc i v =>
    obtain ⟨a, h1, h2⟩ := sm_one h
    refine sm_st (hk _ _ _ _ _ _ _ _ h2) (fun ρ H locs cells slots rls hl kk => ?_)
    have hg : ls[i]? = some (.int a) := by
      rw [List.getD_eq_getElem?_getD] at h1
      cases e9 : ls[i]? with
      | none => rw [e9] at h1; cases h1
      | some u => rw [e9] at h1; exact congrArg some h1
    have hm : (i, Value.int a) ∈ sm_lv ρ 0 ls := (sm_lv_mem ls 0).mpr ⟨i, .int a, hg, by simp, by simp [sm_cv]⟩
    obtain ⟨kk9, hk9⟩ := List.getElem?_of_mem hm
    exact lv_iinc hx hb hd0 hl hk9 rfl (sm_blt hci) rfl (fun rls' hl' => kk rls' (sm_set_has hl'))
  case iadd => obtain ⟨a, b, r, rfl, h2⟩ := sm_i2_spec h; exact sm_go (hk _ _ _ _ _ _ _ _ h2) (fun ρ H locs cells slots rls hl kk => lv_iadd hx hb hd0 kk)
  case isub => obtain ⟨a, b, r, rfl, h2⟩ := sm_i2_spec h; exact sm_go (hk _ _ _ _ _ _ _ _ h2) (fun ρ H locs cells slots rls hl kk => lv_isub hx hb hd0 kk)
  case imul => obtain ⟨a, b, r, rfl, h2⟩ := sm_i2_spec h; exact sm_go (hk _ _ _ _ _ _ _ _ h2) (fun ρ H locs cells slots rls hl kk => lv_imul hx hb hd0 kk)
  case iand => obtain ⟨a, b, r, rfl, h2⟩ := sm_i2_spec h; exact sm_go (hk _ _ _ _ _ _ _ _ h2) (fun ρ H locs cells slots rls hl kk => lv_iand hx hb hd0 kk)
  case ior => obtain ⟨a, b, r, rfl, h2⟩ := sm_i2_spec h; exact sm_go (hk _ _ _ _ _ _ _ _ h2) (fun ρ H locs cells slots rls hl kk => lv_ior hx hb hd0 kk)
  case ixor => obtain ⟨a, b, r, rfl, h2⟩ := sm_i2_spec h; exact sm_go (hk _ _ _ _ _ _ _ _ h2) (fun ρ H locs cells slots rls hl kk => lv_ixor hx hb hd0 kk)
  case ishl => obtain ⟨a, b, r, rfl, h2⟩ := sm_i2_spec h; exact sm_go (hk _ _ _ _ _ _ _ _ h2) (fun ρ H locs cells slots rls hl kk => lv_ishl hx hb hd0 kk)
  case ishr => obtain ⟨a, b, r, rfl, h2⟩ := sm_i2_spec h; exact sm_go (hk _ _ _ _ _ _ _ _ h2) (fun ρ H locs cells slots rls hl kk => lv_ishr hx hb hd0 kk)
  case iushr => obtain ⟨a, b, r, rfl, h2⟩ := sm_i2_spec h; exact sm_go (hk _ _ _ _ _ _ _ _ h2) (fun ρ H locs cells slots rls hl kk => lv_iushr hx hb hd0 rfl kk)
  case idiv =>
    obtain ⟨a, b, r, rfl, h2⟩ := sm_i2_spec h
    by_cases h0 : b = 0
    · rw [if_pos h0] at h2; cases h2
    · rw [if_neg h0] at h2
      exact sm_go (hk _ _ _ _ _ _ _ _ h2) (fun ρ H locs cells slots rls hl kk => lv_idiv hx hb hd0 h0 kk)
  case irem =>
    obtain ⟨a, b, r, rfl, h2⟩ := sm_i2_spec h
    by_cases h0 : b = 0
    · rw [if_pos h0] at h2; cases h2
    · rw [if_neg h0] at h2
      exact sm_go (hk _ _ _ _ _ _ _ _ h2) (fun ρ H locs cells slots rls hl kk => lv_irem hx hb hd0 h0 kk)
  case ineg => obtain ⟨a, r, rfl, h2⟩ := sm_i1_spec h; exact sm_go (hk _ _ _ _ _ _ _ _ h2) (fun ρ H locs cells slots rls hl kk => lv_ineg hx hb hd0 kk)
  case ladd => obtain ⟨a, b, r, rfl, h2⟩ := sm_l2_spec h; exact sm_go (hk _ _ _ _ _ _ _ _ h2) (fun ρ H locs cells slots rls hl kk => lv_ladd hx hb hd0 kk)
  case lsub => obtain ⟨a, b, r, rfl, h2⟩ := sm_l2_spec h; exact sm_go (hk _ _ _ _ _ _ _ _ h2) (fun ρ H locs cells slots rls hl kk => lv_lsub hx hb hd0 kk)
  case lmul => obtain ⟨a, b, r, rfl, h2⟩ := sm_l2_spec h; exact sm_go (hk _ _ _ _ _ _ _ _ h2) (fun ρ H locs cells slots rls hl kk => lv_lmul hx hb hd0 kk)
  case ldiv =>
    obtain ⟨a, b, r, rfl, h2⟩ := sm_l2_spec h
    by_cases h0 : b = 0
    · rw [if_pos h0] at h2; cases h2
    · rw [if_neg h0] at h2
      exact sm_go (hk _ _ _ _ _ _ _ _ h2) (fun ρ H locs cells slots rls hl kk => lv_ldiv hx hb hd0 h0 kk)
  case lrem =>
    obtain ⟨a, b, r, rfl, h2⟩ := sm_l2_spec h
    by_cases h0 : b = 0
    · rw [if_pos h0] at h2; cases h2
    · rw [if_neg h0] at h2
      exact sm_go (hk _ _ _ _ _ _ _ _ h2) (fun ρ H locs cells slots rls hl kk => lv_lrem hx hb hd0 h0 kk)
  case lshl => obtain ⟨a, b, r, rfl, h2⟩ := sm_li_spec h; exact sm_go (hk _ _ _ _ _ _ _ _ h2) (fun ρ H locs cells slots rls hl kk => lv_lshl hx hb hd0 rfl kk)
  case lshr => obtain ⟨a, b, r, rfl, h2⟩ := sm_li_spec h; exact sm_go (hk _ _ _ _ _ _ _ _ h2) (fun ρ H locs cells slots rls hl kk => lv_lshr hx hb hd0 rfl kk)
  case lushr => obtain ⟨a, b, r, rfl, h2⟩ := sm_li_spec h; exact sm_go (hk _ _ _ _ _ _ _ _ h2) (fun ρ H locs cells slots rls hl kk => lv_lushr hx hb hd0 rfl kk)
  case lcmp =>
    obtain ⟨a, b, r, rfl, h2⟩ := sm_l2_spec h
    have h3 : k (pc + 1) ls (.int (lg_cmp a b) :: r) n R x G L = some w := by
      rw [← h2]
      unfold lg_cmp
      by_cases q1 : a < b
      · have q3 : ¬ a > b := by
          intro z
          have z : b < a := z
          rw [Int64.lt_iff_toInt_lt] at q1 z
          omega
        have q4 : ¬ a = b := by
          intro z
          rw [Int64.lt_iff_toInt_lt, z] at q1
          omega
        rw [if_pos q1, if_neg q3, if_neg q4]
      · by_cases q2 : a = b
        · have q3 : ¬ a > b := by
            intro z
            have z : b < a := z
            rw [Int64.lt_iff_toInt_lt, q2] at z
            omega
          rw [if_neg q1, if_pos q2, if_neg q3, if_pos q2]
        · have q3 : a > b := by
            show b < a
            rw [Int64.lt_iff_toInt_lt] at q1 ⊢
            have : a.toInt ≠ b.toInt := fun z => q2 (Int64.toInt_inj.mp z)
            omega
          simp only [q1, q2, q3, if_true, if_false]
    exact sm_go (hk _ _ _ _ _ _ _ _ h3) (fun ρ H locs cells slots rls hl kk => W.lcmp hx hb hd0 kk)
  case i2l => obtain ⟨a, r, rfl, h2⟩ := sm_i1_spec h; exact sm_go (hk _ _ _ _ _ _ _ _ h2) (fun ρ H locs cells slots rls hl kk => lv_i2l hx hb hd0 rfl kk)
  case l2i => obtain ⟨a, r, rfl, h2⟩ := sm_l1_spec h; exact sm_go (hk _ _ _ _ _ _ _ _ h2) (fun ρ H locs cells slots rls hl kk => lv_l2i hx hb hd0 rfl kk)
  case i2b => obtain ⟨a, r, rfl, h2⟩ := sm_i1_spec h; exact sm_go (hk _ _ _ _ _ _ _ _ h2) (fun ρ H locs cells slots rls hl kk => lv_i2b hx hb hd0 rfl kk)
  case dup =>
    dsimp only at h
    split at h
    · exact sm_go (hk _ _ _ _ _ _ _ _ h) (fun ρ H locs cells slots rls hl kk => lv_dup hx hb hd0 rfl kk)
    · exact sm_go (hk _ _ _ _ _ _ _ _ h) (fun ρ H locs cells slots rls hl kk => lv_dup hx hb hd0 (sm_cv_cat ρ _) kk)
    · cases h
  case pop =>
    dsimp only at h
    split at h
    · exact sm_go (hk _ _ _ _ _ _ _ _ h) (fun ρ H locs cells slots rls hl kk => lv_pop hx hb hd0 rfl kk)
    · exact sm_go (hk _ _ _ _ _ _ _ _ h) (fun ρ H locs cells slots rls hl kk => lv_pop hx hb hd0 (sm_cv_cat ρ _) kk)
    · cases h
  case dup2 => obtain ⟨a, i, r, rfl, h2⟩ := sm_ri_spec h; exact sm_go (hk _ _ _ _ _ _ _ _ h2) (fun ρ H locs cells slots rls hl kk => lv_dup2_11 hx hb hd0 rfl (sm_cv_cat ρ _) kk)
  case goto t => exact sm_go (hk _ _ _ _ _ _ _ _ h) (fun ρ H locs cells slots rls hl kk => lv_goto hx hb hd0 (sm_tgt (of_decide_eq_true hci)) kk)
  case ifCond cd t =>
    have ht := sm_tgt (pc := pc) (of_decide_eq_true hci)
    cases cd
    · obtain ⟨a, r, rfl, h2⟩ := sm_i1_spec h; exact sm_br h2 (fun q => hk _ _ _ _ _ _ _ _ q) (fun q => hk _ _ _ _ _ _ _ _ q) (fun ρ H locs cells slots rls k1 k2 => lv_if_eq hx hb hd0 ht k1 k2)
    · obtain ⟨a, r, rfl, h2⟩ := sm_i1_spec h; exact sm_br h2 (fun q => hk _ _ _ _ _ _ _ _ q) (fun q => hk _ _ _ _ _ _ _ _ q) (fun ρ H locs cells slots rls k1 k2 => lv_if_ne hx hb hd0 ht (fun z => k2 z) (fun z => k1 z))
    · obtain ⟨a, r, rfl, h2⟩ := sm_i1_spec h; exact sm_br h2 (fun q => hk _ _ _ _ _ _ _ _ q) (fun q => hk _ _ _ _ _ _ _ _ q) (fun ρ H locs cells slots rls k1 k2 => lv_if_lt hx hb hd0 ht k1 k2)
    · obtain ⟨a, r, rfl, h2⟩ := sm_i1_spec h; exact sm_br h2 (fun q => hk _ _ _ _ _ _ _ _ q) (fun q => hk _ _ _ _ _ _ _ _ q) (fun ρ H locs cells slots rls k1 k2 => lv_if_ge hx hb hd0 ht (fun z => k2 (sm_nle.mpr z)) (fun z => k1 (Decidable.not_not.mp (fun y => z (sm_nle.mp y)))))
    · obtain ⟨a, r, rfl, h2⟩ := sm_i1_spec h; exact sm_br h2 (fun q => hk _ _ _ _ _ _ _ _ q) (fun q => hk _ _ _ _ _ _ _ _ q) (fun ρ H locs cells slots rls k1 k2 => lv_if_gt hx hb hd0 ht (fun z => k2 (sm_nlt.mpr z)) (fun z => k1 (Decidable.not_not.mp (fun y => z (sm_nlt.mp y)))))
    · obtain ⟨a, r, rfl, h2⟩ := sm_i1_spec h; exact sm_br h2 (fun q => hk _ _ _ _ _ _ _ _ q) (fun q => hk _ _ _ _ _ _ _ _ q) (fun ρ H locs cells slots rls k1 k2 => lv_if_le hx hb hd0 ht k1 k2)
  case if_icmp cd t =>
    have ht := sm_tgt (pc := pc) (of_decide_eq_true hci)
    cases cd
    · obtain ⟨a, b, r, rfl, h2⟩ := sm_i2_spec h; exact sm_br h2 (fun q => hk _ _ _ _ _ _ _ _ q) (fun q => hk _ _ _ _ _ _ _ _ q) (fun ρ H locs cells slots rls k1 k2 => lv_icmp_eq hx hb hd0 ht k1 k2)
    · obtain ⟨a, b, r, rfl, h2⟩ := sm_i2_spec h; exact sm_br h2 (fun q => hk _ _ _ _ _ _ _ _ q) (fun q => hk _ _ _ _ _ _ _ _ q) (fun ρ H locs cells slots rls k1 k2 => lv_icmp_ne hx hb hd0 ht (fun z => k2 z) (fun z => k1 z))
    · obtain ⟨a, b, r, rfl, h2⟩ := sm_i2_spec h; exact sm_br h2 (fun q => hk _ _ _ _ _ _ _ _ q) (fun q => hk _ _ _ _ _ _ _ _ q) (fun ρ H locs cells slots rls k1 k2 => lv_icmp_lt hx hb hd0 ht k1 k2)
    · obtain ⟨a, b, r, rfl, h2⟩ := sm_i2_spec h; exact sm_br h2 (fun q => hk _ _ _ _ _ _ _ _ q) (fun q => hk _ _ _ _ _ _ _ _ q) (fun ρ H locs cells slots rls k1 k2 => lv_icmp_ge hx hb hd0 ht (fun z => k2 (sm_nle.mpr z)) (fun z => k1 (Decidable.not_not.mp (fun y => z (sm_nle.mp y)))))
    · obtain ⟨a, b, r, rfl, h2⟩ := sm_i2_spec h; exact sm_br h2 (fun q => hk _ _ _ _ _ _ _ _ q) (fun q => hk _ _ _ _ _ _ _ _ q) (fun ρ H locs cells slots rls k1 k2 => lv_icmp_gt hx hb hd0 ht (fun z => k2 (sm_nlt.mpr z)) (fun z => k1 (Decidable.not_not.mp (fun y => z (sm_nlt.mp y)))))
    · obtain ⟨a, b, r, rfl, h2⟩ := sm_i2_spec h; exact sm_br h2 (fun q => hk _ _ _ _ _ _ _ _ q) (fun q => hk _ _ _ _ _ _ _ _ q) (fun ρ H locs cells slots rls k1 k2 => lv_icmp_le hx hb hd0 ht k1 k2)
  case tableswitch d lo hh ts =>
    obtain ⟨a, r, rfl, h2⟩ := sm_i1_spec h
    simp only [sm_ci, Bool.and_eq_true, decide_eq_true_eq, List.all_eq_true] at hci
    obtain ⟨⟨⟨⟨c1, c2⟩, c3⟩, c4⟩, c5⟩ := hci
    have hsz : (ts.toList.map fun t => k t.toNat ls r n R x G L).length = ts.size := by simp
    have hsw := sm_sw_ok (x := a) (d := k d.toNat ls r n R x G L) (ts.toList.map fun t => k t.toNat ls r n R x G L) lo c4 (by rw [hsz]; omega)
    by_cases q : a.toInt < lo ∨ hh < a.toInt
    · have h3 : k d.toNat ls r n R x G L = some w := by rw [← hsw.1 (by rw [hsz]; omega)]; exact h2
      exact sm_go (hk _ _ _ _ _ _ _ _ h3) (fun ρ H locs cells slots rls hl kk => lv_tableOut hx hb hd0 q (sm_tgt c1) kk)
    · have q1 : ¬ a.toInt < lo := fun z => q (Or.inl z)
      have q2 : ¬ hh < a.toInt := fun z => q (Or.inr z)
      have hlt : (a.toInt - lo).toNat < ts.size := by omega
      have e1 : ts[(a.toInt - lo).toNat]? = some ts[(a.toInt - lo).toNat] := Array.getElem?_eq_getElem hlt
      have h3 : k (ts[(a.toInt - lo).toNat]).toNat ls r n R x G L = some w := by
        rw [← hsw.2 (by omega) (k (ts[(a.toInt - lo).toNat]).toNat ls r n R x G L) (by rw [List.getElem?_map, Array.getElem?_toList, e1]; rfl)]
        exact h2
      have ht : 0 ≤ ts[(a.toInt - lo).toNat] := c2 _ (by simp)
      exact sm_go (hk _ _ _ _ _ _ _ _ h3) (fun ρ H locs cells slots rls hl kk => lv_tableIn (off := ts[(a.toInt - lo).toNat] - (pc : Int)) hx hb hd0 q1 q2 (by rw [Array.getElem?_map, e1]; rfl) (sm_tgt ht) kk)
  case lookupswitch d ps =>
    obtain ⟨a, r, rfl, h2⟩ := sm_i1_spec h
    simp only [sm_ci, Bool.and_eq_true, decide_eq_true_eq, List.all_eq_true] at hci
    obtain ⟨⟨c1, c2⟩, c3⟩ := hci
    have e1 : sm_lsw a (k d.toNat ls r n R x G L) (ps.toList.map fun q => (q.1, k q.2.toNat ls r n R x G L)) = k (Op.lookupswitch.offset ps.toList d a.toInt).toNat ls r n R x G L :=
      sm_lsw_ok (off := fun t => k t.toNat ls r n R x G L) ps.toList (fun q hq => ⟨(c2 q hq).1.2, (c2 q hq).2⟩) d rfl
    have h3 : k (Op.lookupswitch.offset ps.toList d a.toInt).toNat ls r n R x G L = some w := by rw [← e1]; exact h2
    have h0 : ∀ (l : List (Int × Int)), (∀ q ∈ l, (0 : Int) ≤ q.2) → 0 ≤ Op.lookupswitch.offset l d a.toInt := by
      intro l
      induction l with
      | nil => intro _; exact c1
      | cons q t ih =>
        intro hq
        obtain ⟨v, u⟩ := q
        rw [Op.lookupswitch.offset_cons]
        split
        · exact hq (v, u) List.mem_cons_self
        · exact ih (fun z hz => hq z (List.mem_cons_of_mem _ hz))
    have h4 : ∀ (l : List (Int × Int)), Op.lookupswitch.offset (l.map fun q => (q.1, q.2 - (pc : Int))) (d - (pc : Int)) a.toInt = Op.lookupswitch.offset l d a.toInt - (pc : Int) := by
      intro l
      induction l with
      | nil => rfl
      | cons q t ih =>
        obtain ⟨v, u⟩ := q
        rw [List.map_cons, Op.lookupswitch.offset_cons, Op.lookupswitch.offset_cons, ih]
        split <;> rfl
    have h5 : ((ps.map fun q => (q.1, q.2 - (pc : Int))).toList.zip ((ps.map fun q => (q.1, q.2 - (pc : Int))).toList.drop 1)).all (fun (a, next) => a.1 < next.1) = true := by
      rw [Array.toList_map, ← List.map_drop, List.zip_map, List.all_map, List.all_eq_true]
      intro q hq
      have := c3 q hq
      simpa using this
    exact sm_go (hk _ _ _ _ _ _ _ _ h3) (fun ρ H locs cells slots rls hl kk => lv_lookup hx hb hd0 h5 (by rw [Array.toList_map]; exact h4 ps.toList) (sm_tgt (h0 _ (fun q hq => (c2 q hq).1.1))) kk)
end SMO
