/-! the four throwers, each -/
def sm_mem (w : Cond) : Bool := tables_1.any (fun x => decide (x = w)) || (k2_sels lw_privs).any (fun x => decide (x = w))
theorem sm_mem_of {w : Cond} (h : sm_mem w = true) : w ∈ lw_tbl := by
  unfold sm_mem at h
  simp only [Bool.or_eq_true, List.any_eq_true, decide_eq_true_eq] at h
  rcases h with ⟨x, g1, g2⟩ | ⟨x, g1, g2⟩
  · rw [← g2]; exact List.mem_append_right _ g1
  · rw [← g2]; exact List.mem_append_left _ g1
set_option maxRecDepth 100000 in
theorem sm_w29a : (sm_mem (Cond.initialized "java/lang/IllegalArgumentException") && sm_mem (Cond.stringRef "StreetDreams" 128 "an argument that is none such")) = true := by decide +kernel
theorem sm_np29 (pc : Nat) (h : sm_la 29 < pc) : sm_T 29 pc = .nop := by
  have h2 : sm_la 29 = 24 := by decide +kernel
  rw [h2] at h
  show T_S_needThat pc = .nop
  unfold T_S_needThat
  rw [sm_ble_f (show ¬ pc ≤ 24 by omega)]
  rfl
section SMO
variable {l : Launch} {D : va_G} {tc : Nat → ClassId} {adV : Nat → Nat} {Z : sm_G} {B : Nat}
set_option maxRecDepth 100000 in
theorem sm_Thr29 (hst : l.stackTraces = false) : sm_Thr l D tc adV Z B 29 := by
  have ha := sm_w29a
  rw [Bool.and_eq_true] at ha
  have hc : sm_cls (sm_own 29) = "StreetDreams" := by decide +kernel
  refine sm_thr1 (pc0 := 14) (v0 := 34393325098) (ic := 130) (is := 128) (sid := 2) (ex := 2) hst (by decide +kernel) sm_np29 (by decide +kernel) (by decide) (by decide) (by decide) (by decide +kernel) (by decide +kernel) (sm_tb_m (sm_mem_of ha.1) rfl) ?_ ?_ (by decide +kernel) (by decide +kernel) (Or.inl ⟨by decide +kernel, by decide +kernel, by decide +kernel⟩)
  · rw [hc]; exact sm_mem_of ha.2
  · rw [hc]; exact sm_ws29
end SMO
