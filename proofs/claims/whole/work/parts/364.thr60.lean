/-! a thrower -/
set_option maxRecDepth 100000 in
theorem sm_w60a : (sm_mem (Cond.initialized "java/lang/IllegalStateException") && sm_mem (Cond.stringRef "StreetDreams" 408 "more than six sleepers")) = true := by decide +kernel
set_option maxRecDepth 100000 in
theorem sm_ws60 : (vx_atS "StreetDreams" 410 "java/lang/IllegalStateException" sm_sup).all sm_wchk = true := by decide +kernel
theorem sm_np60 (pc : Nat) (h : sm_la 60 < pc) : sm_T 60 pc = .nop := by
  have h2 : sm_la 60 = 61 := by decide +kernel
  rw [h2] at h
  show T_S_round pc = .nop
  unfold T_S_round
  rw [sm_ble_f (show ¬ pc ≤ 61 by omega)]
  rfl
section SMO
variable {l : Launch} {D : va_G} {tc : Nat → ClassId} {adV : Nat → Nat} {Z : sm_G} {B : Nat}
set_option maxRecDepth 100000 in
theorem sm_Thr60 (hst : l.stackTraces = false) : sm_Thr l D tc adV Z B 60 := by
  have ha := sm_w60a
  rw [Bool.and_eq_true] at ha
  have hc : sm_cls (sm_own 60) = "StreetDreams" := by decide +kernel
  refine sm_thr1 (pc0 := 28) (v0 := 54945486379) (ic := 410) (is := 408) (sid := 12) (ex := 3) hst (by decide +kernel) sm_np60 (by decide +kernel) (by decide) (by decide) (by decide) (by decide +kernel) (by decide +kernel) (sm_tb_m (sm_mem_of ha.1) rfl) ?_ ?_ (by decide +kernel) (by decide +kernel) (Or.inr ⟨by decide +kernel, by decide +kernel, by decide +kernel⟩)
  · rw [hc]; exact sm_mem_of ha.2
  · rw [hc]; exact sm_ws60
end SMO
