/-! the texts' members keep their contracts -/
theorem st_s1 : sm_strs.all (fun t => Nat.blt t.length 1000 && t.all (fun b => decide (((b &&& 255).toUInt32 % 65536).toInt32 = b))) = true := by decide +kernel
theorem st_s2 {i : Nat} (h : i < sm_strs.length) : (sm_strs.getD i []).length < 1000 ∧ ∀ k, ((((sm_strs.getD i []).getD k 0) &&& 255).toUInt32 % 65536).toInt32 = (sm_strs.getD i []).getD k 0 := by
  have h1 : sm_strs.getD i [] ∈ sm_strs := by
    rw [List.getD_eq_getElem?_getD, List.getElem?_eq_getElem h]
    exact List.getElem_mem h
  have h2 := List.all_eq_true.mp st_s1 _ h1
  rw [Bool.and_eq_true] at h2
  refine ⟨sm_blt h2.1, fun k => ?_⟩
  by_cases hk : k < (sm_strs.getD i []).length
  · rw [List.getD_eq_getElem?_getD (l := sm_strs.getD i []), List.getElem?_eq_getElem hk]
    exact of_decide_eq_true (List.all_eq_true.mp h2.2 _ (List.getElem_mem hk))
  · rw [List.getD_eq_getElem?_getD (l := sm_strs.getD i []), List.getElem?_eq_none (by omega)]
    decide
theorem st_in {i : Int32} {k : Nat} (hk : k < 1000) (h : sm_in i k = true) : ¬ i < 0 ∧ i.toNatClampNeg < k ∧ i < Int32.ofNat k := by
  unfold sm_in at h
  rw [Bool.and_eq_true, decide_eq_true_eq] at h
  have h1 := sm_blt h.2
  have h0 : (0 : Int) ≤ i.toInt := by simpa using Int32.le_iff_toInt_le.mp h.1
  have e : (Int32.ofNat k).toInt = (k : Int) := Int32.toInt_ofNat_of_lt (by omega)
  have e2 : i.toNatClampNeg = i.toInt.toNat := rfl
  refine ⟨fun q => ?_, h1, ?_⟩
  · have := Int32.lt_iff_toInt_lt.mp q
    simp at this
    omega
  · rw [Int32.lt_iff_toInt_lt, e]
    omega
section STR
variable {l : Launch} {D : va_G} {tc : Nat → ClassId} {adV : Nat → Nat} {Z : sm_G} {B : Nat}
theorem st_of {ρ : Nat → Nat} {U : State} (h : sm_St D tc ρ adV Z B U) {i : Nat} (hi : i < sm_strs.length) : st_T (ρ (4096 + i)) (adV i) (sm_strs.getD i []).length (sm_strs.getD i []) U := by
  obtain ⟨hK, hnz, ha, hs, hvs, hU, hN, hX, hB⟩ := h
  obtain ⟨⟨g1, g2, g3, g4⟩, -⟩ : (_ ∧ _ ∧ _ ∧ _) ∧ True := ⟨(hvs i hi).1 0 (by decide), trivial⟩
  exact ⟨g1.narrow (fun _ z => False.elim z), g2.narrow (fun _ z => False.elim z), g3.narrow (fun _ z => False.elim z), g4.narrow (fun _ z => False.elim z), hN.2.1.narrow (fun _ z => False.elim z), hN.2.2.narrow (fun _ z => False.elim z)⟩
theorem st_U {ρ : Nat → Nat} {n : Nat} {R : sm_R} {x : Nat} {G : sm_G} {L : sm_L} {s t : State} (h : sm_U D tc Z B ρ n R G L s) (hk : ∀ q : Nat, q < s.heap.size → t.heap[q]? = s.heap[q]?) : sm_BB D tc Z B ρ n (n, R, x, G, L) ρ t :=
  ⟨fun _ _ => rfl, h.1.kept (fun k q hq => hk q.1 (h.1 k q hq).lt), h.2⟩
theorem st_F {H : Heap} {locs : List Loc} {s t : State} (hS : va_S st_0 s.heap H locs) (ht : t.heap = H) : va_F (fun q => B ≤ q) s t := ⟨by rw [ht]; exact hS.1, fun q a _ => by rw [ht]; exact hS.2.1 q a id⟩
theorem sm_txcA : sm_Txc l D tc adV Z B := by
  intro d j as n R x G L r S hj hbi ρ
  have hmc : sm_mc n x n x = 0 := by unfold sm_mc; omega
  have hms : sm_ms n x n x = 0 := by unfold sm_ms; omega
  rw [hmc, hms]
  rcases hj with rfl | rfl
  · unfold sm_bi at hbi
    rw [show Nat.beq 1 1 = true from rfl] at hbi
    simp only [cond_true] at hbi
    split at hbi
    · next r0 =>
      obtain ⟨hc, hr⟩ := sm_bif hbi
      cases hr
      rw [Bool.and_eq_true] at hc
      have hlo := sm_ale hc.1
      have hhi := sm_blt hc.2
      obtain ⟨i, rfl⟩ : ∃ i, r0 = 4096 + i := ⟨r0 - 4096, (Nat.add_sub_of_le hlo).symm⟩
      have hi : i < sm_strs.length := Nat.add_lt_add_iff_left.mp hhi
      rw [Nat.add_sub_cancel_left] at *
      refine vx_ofW (cc := sm_b 1) (maxL := sm_ml 1) (ret := sm_rt 1) (ws' := sm_tb) (by decide +kernel) rfl ?_
      intro p e s m args below meth c s₁ Bd hml ht hv
      obtain ⟨rfl, hUw, hSt⟩ := hv
      have hT := st_of hSt hi
      have hT0 := hT
      obtain ⟨h1, h2, h3, h4, h5, h6⟩ := hT
      have hcv : [Value.ref (4096 + i)].map (sm_cv ρ) = [.ref (ρ (4096 + i))] := by
        show [sm_cv ρ (.ref (4096 + i))] = _
        rw [sm_cv_ne (by omega)]
      have hts0 := atoms_spec Bd.pre
      have hts : ∀ w ∈ sm_tb, w.before ([.ref (ρ (4096 + i))] : List Value).toArray s = true := fun w hw => by
        have h9 := hts0 w (List.mem_cons_of_mem _ hw)
        rw [hcv] at h9
        exact h9
      have hown : s.vm.findClass "java/lang/String" = some m.cls := findClass_of_methodNamed Bd.named
      rw [hcv, lg_entry_eq]
      have hl := lv_entry [.ref (ρ (4096 + i))] (n := sm_ml 1) (Nat.le_of_ble_eq_true rfl)
      generalize (lg_sl [.ref (ρ (4096 + i))] ++ List.replicate (sm_ml 1 - (lg_sl [.ref (ρ (4096 + i))]).length) Slot.unset).toArray = rls at hl
      refine lv_aload_n Bd.exec Bd.bytes (k := 0) (i := 0) (by decide +kernel) rfl (lv_at hl 0 rfl) ?_
      refine vk_getf (index := 9) Bd.exec Bd.bytes h3 va_S.rf hown (hts _ (st_m 2285 (by decide +kernel) rfl)) (fun _ h => h) (by decide +kernel) ?_
      refine va_tlen Bd.exec Bd.bytes h4 va_S.rf rfl (by decide +kernel) ?_
      refine lv_aload_n Bd.exec Bd.bytes (k := 0) (i := 0) (by decide +kernel) rfl (lv_at hl 0 rfl) ?_
      obtain ⟨cell, g1, g2, g3, -⟩ := h1
      refine va_calli (A0 := st_0) (A1 := st_0) (free := st_0) (va_runV (index := 335) (C := "java/lang/String") (As := []) (rest := [.int (Int32.ofNat (sm_strs.getD i []).length)]) ⟨Bd.exec, Bd.bytes, hml, hown, hts⟩ (st_coder (a := ρ (4096 + i)) (b := adV i) (len := (sm_strs.getD i []).length) (byt := sm_strs.getD i []))
        (cwV 0 hts (st_gi (fun w hw => by
          simp only [wsV, List.mem_append, List.mem_cons, List.not_mem_nil, or_false] at hw
          rcases hw with (rfl | rfl | rfl | rfl) | rfl | hw
          · exact st_m 843 (by decide +kernel) rfl
          · exact st_m 844 (by decide +kernel) rfl
          · exact st_m 845 (by decide +kernel) rfl
          · exact st_m 20 (by decide +kernel) rfl
          · exact st_m 846 (by decide +kernel) rfl
          · exact hw)) rfl rfl rfl (by decide +kernel) ⟨by show 1 + 1 ≤ d + 1 + 20; omega, by show 8 + (1 + 11) + 50 * 1 ≤ 64 * (d + 1) + 400; omega⟩)
        ⟨st_bl, ⟨cell, g1, g2, g3⟩, fun U h7 h8 => ⟨rfl, st_T.moved h8.alike (fun q _ => by rw [h7]) hT0⟩⟩ rfl rfl hl.1 rfl (Nat.le_of_ble_eq_true rfl) (show decode (sm_b 1) 6 = Except.ok (.invokevirtual 335, 3) by decide +kernel) ⟨Nat.zero_le _, Nat.zero_le _⟩) va_S.rf (fun _ _ h => h) (fun _ h => h) (fun r u t H1 locs1 e1 e2 hr _ hz1 hk hS => ?_)
      subst hr
      refine lv_ishr Bd.exec Bd.bytes (by decide +kernel) ?_
      refine lv_topi (fun y hy => ?_)
      have hy : y = Int32.ofNat (sm_strs.getD i []).length := by
        rw [hy]
        exact Int32.shiftRight_zero
      subst hy
      refine vx_ret ?_
      exact W.iret Bd.exec Bd.bytes (Bd.returns.trans (by decide +kernel)) (fun t ht _ => ⟨⟨_, ρ, rfl, rfl, st_U hUw (fun q q1 => by rw [ht]; exact hk q q1 id)⟩, st_F hS ht⟩) (fun q h => False.elim (hS.2.2 q h)) (by decide +kernel)
    · cases hbi
  · unfold sm_bi at hbi
    rw [show Nat.beq 2 1 = false from rfl, show Nat.beq 2 2 = true from rfl] at hbi
    simp only [cond_true, cond_false] at hbi
    split at hbi
    · next r0 i0 =>
      obtain ⟨hc, hr⟩ := sm_bif hbi
      cases hr
      rw [Bool.and_eq_true, Bool.and_eq_true] at hc
      have hlo := sm_ale hc.1.1
      have hhi := sm_blt hc.1.2
      have hin := hc.2
      obtain ⟨i, rfl⟩ : ∃ i, r0 = 4096 + i := ⟨r0 - 4096, (Nat.add_sub_of_le hlo).symm⟩
      have hi : i < sm_strs.length := Nat.add_lt_add_iff_left.mp hhi
      rw [Nat.add_sub_cancel_left] at *
      obtain ⟨w1, w2⟩ := st_s2 hi
      obtain ⟨i1, i2, i3⟩ := st_in w1 hin
      refine vx_ofW (cc := sm_b 2) (maxL := sm_ml 2) (ret := sm_rt 2) (ws' := sm_tb) (by decide +kernel) rfl ?_
      intro p e s m args below meth c s₁ Bd hml ht hv
      obtain ⟨rfl, hUw, hSt⟩ := hv
      have hT := st_of hSt hi
      have hT0 := hT
      obtain ⟨h1, h2, h3, h4, h5, h6⟩ := hT
      have hcv : [Value.ref (4096 + i), Value.int i0].map (sm_cv ρ) = [.ref (ρ (4096 + i)), .int i0] := by
        show [sm_cv ρ (.ref (4096 + i)), .int i0] = _
        rw [sm_cv_ne (by omega)]
      have hts0 := atoms_spec Bd.pre
      have hts : ∀ w ∈ sm_tb, w.before ([.ref (ρ (4096 + i)), .int i0] : List Value).toArray s = true := fun w hw => by
        have h9 := hts0 w (List.mem_cons_of_mem _ hw)
        rw [hcv] at h9
        exact h9
      have hown : s.vm.findClass "java/lang/String" = some m.cls := findClass_of_methodNamed Bd.named
      rw [hcv, lg_entry_eq]
      have hl := lv_entry [.ref (ρ (4096 + i)), .int i0] (n := sm_ml 2) (Nat.le_of_ble_eq_true rfl)
      generalize (lg_sl [.ref (ρ (4096 + i)), .int i0] ++ List.replicate (sm_ml 2 - (lg_sl [.ref (ρ (4096 + i)), .int i0]).length) Slot.unset).toArray = rls at hl
      refine lv_aload_n Bd.exec Bd.bytes (k := 0) (i := 0) (by decide +kernel) rfl (lv_at hl 0 rfl) ?_
      obtain ⟨cell, g1, g2, g3, -⟩ := h1
      refine va_calli (A0 := st_0) (A1 := st_0) (free := st_0) (va_runV (index := 492) (C := "java/lang/String") (As := []) (rest := []) ⟨Bd.exec, Bd.bytes, hml, hown, hts⟩ (st_latin (a := ρ (4096 + i)) (b := adV i) (len := (sm_strs.getD i []).length) (byt := sm_strs.getD i []))
        (cwV 0 hts (st_gi (fun w hw => by
          simp only [wsV, List.mem_append, List.mem_cons, List.not_mem_nil, or_false] at hw
          rcases hw with (rfl | rfl | rfl | rfl) | rfl | hw
          · exact st_m 853 (by decide +kernel) rfl
          · exact st_m 854 (by decide +kernel) rfl
          · exact st_m 855 (by decide +kernel) rfl
          · exact st_m 20 (by decide +kernel) rfl
          · exact st_m 856 (by decide +kernel) rfl
          · exact hw)) rfl rfl rfl (by decide +kernel) ⟨by show 1 + 1 ≤ d + 1 + 20; omega, by show 8 + (1 + 11) + 50 * 1 ≤ 64 * (d + 1) + 400; omega⟩)
        ⟨st_bl, ⟨cell, g1, g2, g3⟩, fun U h7 h8 => ⟨rfl, st_T.moved h8.alike (fun q _ => by rw [h7]) hT0⟩⟩ rfl rfl hl.1 rfl (Nat.le_of_ble_eq_true rfl) (show decode (sm_b 2) 1 = Except.ok (.invokevirtual 492, 3) by decide +kernel) ⟨Nat.zero_le _, Nat.zero_le _⟩) va_S.rf (fun _ _ h => h) (fun _ h => h) (fun r u t H1 locs1 e1 e2 hr _ hz1 hk hS => ?_)
      subst hr
      refine lv_if_eq Bd.exec Bd.bytes (off := 12) (tgt := 16) (by decide +kernel) (by decide) (fun h => absurd h (by decide)) (fun _ => ?_)
      refine lv_aload_n Bd.exec Bd.bytes (k := 0) (i := 0) (by decide +kernel) rfl (lv_at hl 0 rfl) ?_
      refine vk_getf (index := 9) Bd.exec Bd.bytes h3 hS hown (hts _ (st_m 2285 (by decide +kernel) rfl)) (fun _ h => h) (by decide +kernel) ?_
      refine lv_iload_n Bd.exec Bd.bytes (k := 1) (i := 1) (by decide +kernel) rfl (lv_at hl 1 rfl) ?_
      refine va_calli (A0 := st_0) (A1 := st_0) (free := st_0) (va_runS (index := 495) (As := [.ref (adV i), .int i0]) (rest := []) ⟨Bd.exec, Bd.bytes, hml, hown, hts⟩ (st_lch (a := ρ (4096 + i)) (b := adV i) (len := (sm_strs.getD i []).length) (byt := sm_strs.getD i []) i1 (by omega) i2 i3) ⟨callB_of 2 hts (st_gi (fun w hw => by
          rcases List.mem_cons.mp hw with rfl | hw
          · exact st_m 859 (by decide +kernel) rfl
          · exact hw)) rfl rfl rfl (hts _ (st_m 21 (by decide +kernel) rfl)) (hts _ (st_m 857 (by decide +kernel) rfl)) (by decide +kernel) ⟨by show 3 + 1 ≤ d + 1 + 20; omega, by show 8 + (2 + 11) + 50 * 3 ≤ 64 * (d + 1) + 400; omega⟩, hts _ (st_m 858 (by decide +kernel) rfl)⟩
        ⟨st_bl, fun U h7 h8 => ⟨rfl, st_T.moved h8.alike (fun q q1 => by rw [h7]; exact hk q q1 id) hT0⟩⟩ rfl rfl hl.1 rfl (Nat.le_of_ble_eq_true rfl) (show decode (sm_b 2) 12 = Except.ok (.invokestatic 495, 3) by decide +kernel) ⟨Nat.zero_le _, Nat.zero_le _⟩) hS (fun _ _ h => h) (fun _ h => h) (fun r u t2 H2 locs2 e3 e4 hr _ hz2 hk2 hS2 => ?_)
      have hr : r = _ := hr
      have hnr : narrow .char (.int r) = .int r := by rw [hr]; exact st_nar _
      rw [w2] at hr
      subst hr
      refine vx_ret ?_
      exact W.zret Bd.exec Bd.bytes (Bd.returns.trans (show sm_rt 2 = some .char by decide +kernel)) hnr (fun t ht _ => ⟨⟨_, ρ, rfl, rfl, st_U hUw (fun q q1 => by rw [ht]; exact hS2.2.1 q q1 id)⟩, st_F hS2 ht⟩) (fun q h => False.elim (hS2.2.2 q h)) (by decide +kernel)
    · cases hbi
end STR
