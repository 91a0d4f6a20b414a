/-! a thrower -/
set_option maxRecDepth 100000 in
theorem sm_w41a : (sm_mem (Cond.initialized "java/lang/IndexOutOfBoundsException") && sm_mem (Cond.stringRef "StreetDreams" 112 "no such room")) = true := by decide +kernel
set_option maxRecDepth 100000 in
theorem sm_ws41 : (vx_atS "StreetDreams" 114 "java/lang/IndexOutOfBoundsException" sm_sup).all sm_wchk = true := by decide +kernel
theorem sm_np41 (pc : Nat) (h : sm_la 41 < pc) : sm_T 41 pc = .nop := by
  have h2 : sm_la 41 = 35 := by decide +kernel
  rw [h2] at h
  show T_S_needRoom pc = .nop
  unfold T_S_needRoom
  rw [sm_ble_f (show ¬ pc ≤ 35 by omega)]
  rfl
section SMO
variable {l : Launch} {D : va_G} {tc : Nat → ClassId} {adV : Nat → Nat} {Z : sm_G} {B : Nat}
set_option maxRecDepth 100000 in
theorem sm_Thr41 (hst : l.stackTraces = false) : sm_Thr l D tc adV Z B 41 := by
  have ha := sm_w41a
  rw [Bool.and_eq_true] at ha
  have hc : sm_cls (sm_own 41) = "StreetDreams" := by decide +kernel
  refine sm_thr1 (pc0 := 25) (v0 := 46036708904) (ic := 114) (is := 112) (sid := 13) (ex := 0) hst (by decide +kernel) sm_np41 (by decide +kernel) (by decide) (by decide) (by decide) (by decide +kernel) (by decide +kernel) (sm_tb_m (sm_mem_of ha.1) rfl) ?_ ?_ (by decide +kernel) (by decide +kernel) (Or.inl ⟨by decide +kernel, by decide +kernel, by decide +kernel⟩)
  · rw [hc]; exact sm_mem_of ha.2
  · rw [hc]; exact sm_ws41
end SMO
