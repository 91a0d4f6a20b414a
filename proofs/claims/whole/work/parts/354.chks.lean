/-! all checks together -/
theorem sm_ckaA {j : Nat} (h5 : 5 < j) (hk : sm_kn j = true) : sm_cka j = true := by
  have h := sm_kn_of hk
  by_cases h0 : j ≤ 31
  · exact List.all_eq_true.mp sm_kc0 j (List.mem_range'_1.mpr (by omega))
  by_cases h1 : j ≤ 54
  · exact List.all_eq_true.mp sm_kc1 j (List.mem_range'_1.mpr (by omega))
  by_cases h2 : j ≤ 65
  · exact List.all_eq_true.mp sm_kc2 j (List.mem_range'_1.mpr (by omega))
  by_cases h3 : j ≤ 80
  · exact List.all_eq_true.mp sm_kc3 j (List.mem_range'_1.mpr (by omega))
  by_cases h4 : j ≤ 92
  · exact List.all_eq_true.mp sm_kc4 j (List.mem_range'_1.mpr (by omega))
  by_cases h5 : j ≤ 105
  · exact List.all_eq_true.mp sm_kc5 j (List.mem_range'_1.mpr (by omega))
  by_cases h6 : j ≤ 119
  · exact List.all_eq_true.mp sm_kc6 j (List.mem_range'_1.mpr (by omega))
  by_cases h7 : j ≤ 132
  · exact List.all_eq_true.mp sm_kc7 j (List.mem_range'_1.mpr (by omega))
  by_cases h8 : j ≤ 150
  · exact List.all_eq_true.mp sm_kc8 j (List.mem_range'_1.mpr (by omega))
  by_cases h9 : j ≤ 167
  · exact List.all_eq_true.mp sm_kc9 j (List.mem_range'_1.mpr (by omega))
  by_cases h10 : j ≤ 187
  · exact List.all_eq_true.mp sm_kc10 j (List.mem_range'_1.mpr (by omega))
  by_cases h11 : j ≤ 216
  · exact List.all_eq_true.mp sm_kc11 j (List.mem_range'_1.mpr (by omega))
  by_cases h12 : j ≤ 227
  · exact List.all_eq_true.mp sm_kc12 j (List.mem_range'_1.mpr (by omega))
  by_cases h13 : j ≤ 239
  · exact List.all_eq_true.mp sm_kc13 j (List.mem_range'_1.mpr (by omega))
  by_cases h14 : j ≤ 248
  · exact List.all_eq_true.mp sm_kc14 j (List.mem_range'_1.mpr (by omega))
  by_cases h15 : j ≤ 263
  · exact List.all_eq_true.mp sm_kc15 j (List.mem_range'_1.mpr (by omega))
  by_cases h16 : j ≤ 268
  · exact List.all_eq_true.mp sm_kc16 j (List.mem_range'_1.mpr (by omega))
  by_cases h17 : j ≤ 283
  · exact List.all_eq_true.mp sm_kc17 j (List.mem_range'_1.mpr (by omega))
  by_cases h18 : j ≤ 297
  · exact List.all_eq_true.mp sm_kc18 j (List.mem_range'_1.mpr (by omega))
  by_cases h19 : j ≤ 303
  · exact List.all_eq_true.mp sm_kc19 j (List.mem_range'_1.mpr (by omega))
  by_cases h20 : j ≤ 312
  · exact List.all_eq_true.mp sm_kc20 j (List.mem_range'_1.mpr (by omega))
  by_cases h21 : j ≤ 323
  · exact List.all_eq_true.mp sm_kc21 j (List.mem_range'_1.mpr (by omega))
  by_cases h22 : j ≤ 333
  · exact List.all_eq_true.mp sm_kc22 j (List.mem_range'_1.mpr (by omega))
  by_cases h23 : j ≤ 527
  · exact List.all_eq_true.mp sm_kc23 j (List.mem_range'_1.mpr (by omega))
  by_cases h24 : j ≤ 530
  · exact List.all_eq_true.mp sm_kc24 j (List.mem_range'_1.mpr (by omega))
  · omega
theorem sm_ckaB {j : Nat} (h5 : 5 < j) (hk : sm_kn j = true) : (sm_mck j = true ∧ (sm_hz j).all (sm_hrck j) = true) ∧ ∀ pc, (sm_chk (sm_own j) (sm_ml j) (sm_b j) (sm_ini j) pc (sm_T j pc) ∧ sm_cck (sm_own j) (sm_T j pc) = true ∧ sm_rck j (sm_T j pc) = true ∧ (Nat.ble 512 j = false → sm_pu (sm_T j pc) = true)) ∧ ∀ v, sm_T j pc = .new v → j ≠ 29 → j ≠ 31 → j ≠ 41 → j ≠ 60 → Nat.mod v 256 < 40 := by
  have h := sm_ckaA h5 hk
  unfold sm_cka at h
  simp only [Bool.and_eq_true] at h
  exact ⟨h.1.1, fun pc => sm_fw_all h.1.2 h.2 (sm_nopA h5 hk) pc⟩
theorem sm_ickA {j : Nat} (h5 : 5 < j) (hk : sm_kn j = true) : sm_ick j := fun pc => by
  obtain ⟨h1, h2, h3, h4⟩ := ((sm_ckaB h5 hk).2 pc).1
  exact ⟨h1, h2, h3, fun q => h4 (sm_ble_f (by omega))⟩
theorem sm_ickL (pc : Nat) : sm_chk (sm_own 531) (sm_ml 531) code (sm_ini 531) pc (sm_T 531 pc) ∧ sm_cck (sm_own 531) (sm_T 531 pc) = true ∧ sm_rck 531 (sm_T 531 pc) = true := by
  obtain ⟨h1, h2, h3, h4⟩ := (sm_fw_all sm_klawl sm_klaw sm_nopL pc).1
  exact ⟨h1, h2, h3⟩
theorem sm_mk1 : sm_mck 1 = true := by decide +kernel
theorem sm_mk2 : sm_mck 2 = true := by decide +kernel
theorem sm_mksA : sm_mks := fun j hk => by
  have h := sm_kn_of hk
  by_cases h5 : 5 < j
  · exact (sm_ckaB h5 hk).1.1
  · rcases (show j = 1 ∨ j = 2 by omega) with rfl | rfl
    · exact sm_mk1
    · exact sm_mk2
set_option maxRecDepth 100000 in
theorem sm_gap : (List.range' 334 178).all (fun j => decide (sm_T j 0 = .nop)) = true := by decide +kernel
theorem sm_CksA : sm_Cks := ⟨sm_mksA, fun j h5 hk => sm_ickA h5 hk, fun j h5 hj hk => by
  by_cases h : j ≤ 531
  · have h1 : 334 ≤ j ∧ j < 512 := by
      constructor
      · refine Nat.lt_of_not_le (fun z => ?_)
        unfold sm_kn at hk
        rw [Nat.ble_eq_true_of_le (show 6 ≤ j by omega), Nat.ble_eq_true_of_le z] at hk
        simp at hk
      · refine Nat.lt_of_not_le (fun z => ?_)
        unfold sm_kn at hk
        rw [Nat.ble_eq_true_of_le z, Nat.ble_eq_true_of_le (show j ≤ 530 by omega)] at hk
        simp at hk
    exact of_decide_eq_true (List.all_eq_true.mp sm_gap j (List.mem_range'_1.mpr (by omega)))
  · have e : sm_T j = fun _ => .nop := by
      unfold sm_T
      rw [sm_ble_f h]
      rfl
    rw [e], fun _ => Or.inr trivial⟩
section SMO
variable {l : Launch} {D : va_G} {tc : Nat → ClassId} {adV : Nat → Nat} {Z : sm_G} {B : Nat}
theorem sm_thrA (h29 : sm_Thr l D tc adV Z B 29) (h31 : sm_Thr l D tc adV Z B 31) (h41 : sm_Thr l D tc adV Z B 41) (h60 : sm_Thr l D tc adV Z B 60) : ∀ j, 5 < j → sm_kn j = true → sm_Thr l D tc adV Z B j := fun j h5 hk => by
  by_cases q1 : j = 29
  · rw [q1]; exact h29
  by_cases q2 : j = 31
  · rw [q2]; exact h31
  by_cases q3 : j = 41
  · rw [q3]; exact h41
  by_cases q4 : j = 60
  · rw [q4]; exact h60
  obtain ⟨h1, h2⟩ := sm_ckaB h5 hk
  exact sm_thr_plain h1.2 (fun pc v e => (h2 pc).2 v e q1 q2 q3 q4)
end SMO
