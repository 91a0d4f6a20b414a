/-! a thrower -/
def sm_rx : ByteArray := ⟨#[0x2a, 0x2b, 0xb7, 0x00, 0x0d, 0xb1]⟩
set_option maxRecDepth 100000 in
theorem sm_w31a : (sm_mem (Cond.initialized "java/util/NoSuchElementException") && sm_mem (Cond.stringRef "StreetDreams" 123 "no such sleeper, door or dreamer")) = true := by decide +kernel
set_option maxRecDepth 100000 in
theorem sm_ws31 : (vx_atX "StreetDreams" 125 "java/util/NoSuchElementException" 13 sm_rx sm_sup).all sm_wchk = true := by decide +kernel
theorem sm_np31 (pc : Nat) (h : sm_la 31 < pc) : sm_T 31 pc = .nop := by
  have h2 : sm_la 31 = 29 := by decide +kernel
  rw [h2] at h
  show T_S_needOne pc = .nop
  unfold T_S_needOne
  rw [sm_ble_f (show ¬ pc ≤ 29 by omega)]
  rfl
section SMO
variable {l : Launch} {D : va_G} {tc : Nat → ClassId} {adV : Nat → Nat} {Z : sm_G} {B : Nat}
set_option maxRecDepth 100000 in
theorem sm_Thr31 (hst : l.stackTraces = false) : sm_Thr l D tc adV Z B 31 := by
  have ha := sm_w31a
  rw [Bool.and_eq_true] at ha
  have hc : sm_cls (sm_own 31) = "StreetDreams" := by decide +kernel
  refine sm_thr1X (pc0 := 19) (v0 := 43251693865) (ic := 125) (is := 123) (sid := 14) (ex := 1) hst (ix := 13) (rx := sm_rx) (by decide +kernel) (by decide +kernel) (by decide +kernel) (by decide +kernel) (by decide +kernel) sm_np31 (by decide +kernel) (by decide) (by decide) (by decide) (by decide +kernel) (by decide +kernel) (sm_tb_m (sm_mem_of ha.1) rfl) ?_ ?_ (by decide +kernel) (by decide +kernel) (by decide +kernel) (by decide +kernel) (by decide +kernel)
  · rw [hc]; exact sm_mem_of ha.2
  · rw [hc]; exact sm_ws31
end SMO
