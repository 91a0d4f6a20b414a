/-! the four throws -/
def sm_wchk (w : Cond) : Bool := (tables_1.any (fun x => decide (x = w)) || (k2_sels lw_privs).any (fun x => decide (x = w))) && (goodWord w || sm_nzw w) && vx_ot w
def sm_sup : List String := ["java/lang/RuntimeException", "java/lang/Exception"]
theorem sm_wchk_of {w : Cond} (h : sm_wchk w = true) : w ∈ lw_tbl ∧ (goodWord w = true ∨ sm_nzw w = true) ∧ vx_ot w = true := by
  unfold sm_wchk at h
  simp only [Bool.and_eq_true, Bool.or_eq_true, List.any_eq_true, decide_eq_true_eq] at h
  obtain ⟨⟨h1, h2⟩, h3⟩ := h
  refine ⟨?_, h2, h3⟩
  rcases h1 with ⟨x, g1, g2⟩ | ⟨x, g1, g2⟩
  · rw [← g2]; exact List.mem_append_right _ g1
  · rw [← g2]; exact List.mem_append_left _ g1
set_option maxRecDepth 100000 in
theorem sm_ws29 : (vx_atS "StreetDreams" 130 "java/lang/IllegalArgumentException" sm_sup).all sm_wchk = true := by decide +kernel
section SMO
variable {l : Launch} {D : va_G} {tc : Nat → ClassId} {adV : Nat → Nat} {Z : sm_G} {B : Nat}
/-- a throw with a text: new; dup; ldc; invokespecial; athrow -/
theorem sm_throw1 {p : Program} {e : Env} {Rm : Room} {s : State} {m : MethodId} {args : Array Value} {below : List Frame} {meth : Method} {c : Code} {ρ0 : Nat → Nat} {n0 x0 nf xf nL o : Nat} {cc : ByteArray} {ini : Bool} {T : Nat → Instr} {r : sm_Res} {R' : sm_R} {G' : sm_G} {L' : sm_L}
    (hst : l.stackTraces = false) (C : sm_Cx p s m args meth c D tc B ρ0 adV Z nL o cc ini T) (hrm : sm_rm Rm n0 x0 nf xf) (hfr : 20 ≤ Rm.frames) (hlocks : meth.locks = false) (htab : c.exceptionTable.toList = [])
    {pc ik is ic ex sid : Nat} (hex : ex < 4) (hsid : sid < sm_txts.length) (hfit : Bundle.fit (sm_xn ex) = true) (hk : Cond.classLink (sm_cls o) ik (sm_xn ex) ∈ sm_tb) (hini : Cond.initialized (sm_xn ex) ∈ sm_tb) (hstr : Cond.stringRef (sm_cls o) is (sm_txts.getD sid "") ∈ lw_tbl) (hws : (vx_atS (sm_cls o) ic (sm_xn ex) sm_sup).all sm_wchk = true)
    (d0 : decode cc pc = .ok (.new ik, 3)) (d3 : decode cc (pc + 3) = .ok (.dup, 1)) (d4 : (decode cc (pc + 4) = .ok (.ldc is, 2) ∧ decode cc (pc + 6) = .ok (.invokespecial ic, 3) ∧ decode cc (pc + 9) = .ok (.athrow, 1)) ∨ (decode cc (pc + 4) = .ok (.ldc_w is, 3) ∧ decode cc (pc + 7) = .ok (.invokespecial ic, 3) ∧ decode cc (pc + 10) = .ok (.athrow, 1)))
    {rest : List Value} {n : Nat} {R : sm_R} {x : Nat} {G : sm_G} {L : sm_L} {ls : List Value} (hw : sm_wsum rest ≤ 8) (hr : (Sum.inl (r, nf, R', xf, G', L') : sm_O) = .inl (.inr ex, n, R, x + 1, G, L)) :
    sm_Cl p l e Rm s m args below meth c (vx_MQ below (sm_QC D tc Z B ρ0 n0 r (nf, R', xf, G', L')) (sm_XC D tc Z B ρ0 n0 r (nf, R', xf, G', L')) args s (sm_mc n0 x0 nf xf) (sm_ms n0 x0 nf xf) (fun q => B ≤ q)) D tc B ρ0 Z nL n0 x0 nf xf pc ls rest n R x G L := by
  cases hr
  obtain ⟨hx, hb, hml, hts, hSt, hown, hchk, hini9⟩ := C
  obtain ⟨hK, hnz, ha, hs, hvs, hU, hN, hX, hB⟩ := hSt
  obtain ⟨hr1, hr2, hr3, hr4, hr5⟩ := hrm
  have hall := List.all_eq_true.mp hws
  refine ⟨⟨Nat.le_refl _, Nat.le_succ _⟩, fun h0 h1 ρ H locs rls hV hl => ?_⟩
  obtain ⟨v1, v2, v3, v4, v5, v6, v7, v8⟩ := hV
  have hat : ∀ w ∈ vx_atS (sm_cls o) ic (sm_xn ex) sm_sup, w.before args s = true := fun w hw => by
    obtain ⟨g1, g2, g3⟩ := sm_wchk_of (hall w hw)
    rcases g2 with g2 | g2
    · exact hts w (sm_tb_m g1 g2)
    · have h9 := hnz w g1 g2
      unfold va_Nw at h9
      cases w <;> simp [sm_nzw] at g2 <;> first | exact va_Nw.use rfl h9
  have hgood : ∀ w ∈ Cond.classLink (sm_cls o) ik (sm_xn ex) :: Cond.initialized (sm_xn ex) :: vx_atS (sm_cls o) ic (sm_xn ex) sm_sup, vx_ot w = true := fun w hw => by
    rcases List.mem_cons.mp hw with rfl | hw
    · rfl
    · rcases List.mem_cons.mp hw with rfl | hw
      · rfl
      · exact (sm_wchk_of (hall w hw)).2.2
  have hnames : ∀ n ∈ sm_sup, Bundle.fit n = true := by decide +kernel
  have hm1 := sm_pre_mono h0
  have hrl : ((rest.map (sm_cv ρ)).map fun v => v.category).sum + (13 * (sm_sup.length + 1) + 43) ≤ Rm.locals := by
    rw [sm_cat_sum, ← sm_wsum_eq]
    show sm_wsum rest + (13 * (2 + 1) + 43) ≤ Rm.locals
    omega
  have hc1 : nf - n0 + (x - x0) + 1 ≤ sm_mc n0 x0 nf (x + 1) := by unfold sm_mc; omega
  have hs1 : sm_pre nf - sm_pre n0 + 6 * (x - x0) + 6 ≤ sm_ms n0 x0 nf (x + 1) := by unfold sm_ms; omega
  have hx9 : ∀ t : State, s.vm.Alike t.vm → H.size ≤ t.heap.size → (∀ q : Nat, q < H.size → t.heap[q]? = H[q]?) → sm_XC D tc Z B ρ0 n0 (.inr ex) (nf, R', x + 1, G', L') (sm_xn ex) s t := fun t _ hz hq =>
    ⟨ρ, trivial, ⟨⟨ex, rfl, rfl⟩, v4, v1.kept (fun k q hk => hq q.1 ((v1 k q hk).lt)), v2, v5, v6, v7, v8⟩, Nat.le_trans v3.1 hz, fun q q1 q2 => (hq q (Nat.lt_of_lt_of_le q1 v3.1)).trans (v3.2.1 q q1 q2)⟩
  rcases d4 with ⟨d4, d6, d9⟩ | ⟨d4, d7, d10⟩
  · exact vx_throwS (A := fun q => B ≤ q) (names := sm_sup) (sa := ρ0 (4096 + sid)) hx hb hst hown hfit hnames (hts _ hk) (hts _ hini) (hs _ _ _ hstr hsid) hat hgood hU hN.1 v3 (hl.1.trans hml.symm) d0 d3 d4 d6 d9 (fun x hx => by rw [htab] at hx; cases hx) (by show 2 + 3 < Rm.frames; omega) hrl (Nat.le_trans hc1 hr1) (Nat.le_trans hs1 hr2) hlocks hx9 v3.2.2 hc1 hs1
  · exact vx_throwSW (A := fun q => B ≤ q) (names := sm_sup) (sa := ρ0 (4096 + sid)) hx hb hst hown hfit hnames (hts _ hk) (hts _ hini) (hs _ _ _ hstr hsid) hat hgood hU hN.1 v3 (hl.1.trans hml.symm) d0 d3 d4 d7 d10 (fun x hx => by rw [htab] at hx; cases hx) (by show 2 + 3 < Rm.frames; omega) hrl (Nat.le_trans hc1 hr1) (Nat.le_trans hs1 hr2) hlocks hx9 v3.2.2 hc1 hs1
/-- where a method throws: at this place alone -/
def sm_1new (j pc0 v0 : Nat) : Bool := (List.range (sm_la j + 1)).all fun pc => match sm_T j pc with
  | .new v => Nat.blt (Nat.mod v 256) 40 || (Nat.beq pc pc0 && Nat.beq v v0)
  | _ => true
theorem sm_1new_of {j pc0 v0 : Nat} (h : sm_1new j pc0 v0 = true) (h1 : ∀ pc, sm_la j < pc → sm_T j pc = .nop) {pc v : Nat} (hT : sm_T j pc = .new v) (h40 : 40 ≤ Nat.mod v 256) : pc = pc0 ∧ v = v0 := by
  by_cases q : pc ≤ sm_la j
  · have h2 := List.all_eq_true.mp h pc (List.mem_range.mpr (by omega))
    rw [hT] at h2
    simp only [Bool.or_eq_true, Bool.and_eq_true] at h2
    rcases h2 with h2 | h2
    · have := sm_blt h2; omega
    · exact ⟨Nat.eq_of_beq_eq_true h2.1, Nat.eq_of_beq_eq_true h2.2⟩
  · rw [h1 pc (by omega)] at hT
    cases hT
theorem sm_thr1 (hst : l.stackTraces = false) {j pc0 v0 ic is sid ex : Nat} (hz : sm_hz j = []) (h1 : ∀ pc, sm_la j < pc → sm_T j pc = .nop) (hn : sm_1new j pc0 v0 = true) (hex : ex < 4) (hv : Nat.sub (Nat.mod v0 256) 40 = ex) (hsid : sid < sm_txts.length) (hfit : Bundle.fit (sm_xn ex) = true)
    (hk : sm_tc (Nat.div v0 16777216) (5, sm_own j, Nat.mod (Nat.div v0 256) 65536, 14 + ex, 0) = true) (hini : Cond.initialized (sm_xn ex) ∈ sm_tb) (hstr : Cond.stringRef (sm_cls (sm_own j)) is (sm_txts.getD sid "") ∈ lw_tbl) (hws : (vx_atS (sm_cls (sm_own j)) ic (sm_xn ex) sm_sup).all sm_wchk = true)
    (d0 : decode (sm_b j) pc0 = .ok (.new (Nat.mod (Nat.div v0 256) 65536), 3)) (d3 : decode (sm_b j) (pc0 + 3) = .ok (.dup, 1)) (d4 : (decode (sm_b j) (pc0 + 4) = .ok (.ldc is, 2) ∧ decode (sm_b j) (pc0 + 6) = .ok (.invokespecial ic, 3) ∧ decode (sm_b j) (pc0 + 9) = .ok (.athrow, 1)) ∨ (decode (sm_b j) (pc0 + 4) = .ok (.ldc_w is, 3) ∧ decode (sm_b j) (pc0 + 7) = .ok (.invokespecial ic, 3) ∧ decode (sm_b j) (pc0 + 10) = .ok (.athrow, 1))) : sm_Thr l D tc adV Z B j := by
  refine sm_thr_gen (by rw [hz]; rfl) (fun p e Rm s m args below meth c ρ0 n0 x0 nf xf r R' G' L' C hrm hfr hlocks htab pc v ex' rest n R x G L ls hT h40 he hw hr => ?_)
  obtain ⟨e1, e2⟩ := sm_1new_of hn h1 hT h40
  subst e1
  subst e2
  rw [hv] at he
  subst he
  have htab2 : c.exceptionTable.toList = [] := by
    rw [htab]
    unfold sm_hh
    rw [hz]
    rfl
  exact sm_throw1 hst C hrm hfr hlocks htab2 hex hsid hfit (sm_hlk hk hex) hini hstr hws d0 d3 d4 hw hr
end SMO
