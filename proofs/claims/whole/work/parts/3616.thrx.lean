/-! the throw by such a constructor, and the thrower -/
section Ends
variable {p : Program} {l : Launch} {e : Env} {R : Room} {s : State} {m : MethodId} {args : Array Value} {below : List Frame} {meth : Method} {c : Code} {H : Heap} {locs : List Loc} {cells slots : Nat} {Q : State → Prop}
variable {mc ms : Nat} {free : Addr → Prop} {A0 A1 : Nat → Prop} {H0 : Heap} {a : Array Value} {ls : Array Slot} {st0 rest : List Value}
variable {Qc : Array Value → State → Outcome → State → Prop} {XC : String → State → State → Prop}
theorem vx_throwX {cc : ByteArray} {pc : Nat} (hexec : p.tables.exec = Jvm.exec) (hb : c.code = cc) (hl : l.stackTraces = false) {own cls text : String} {names : List String} {ik is ic mc ms sa ix : Nat} {rx : ByteArray} (y0 : decode rx 0 = .ok (.aload_n 0, 1)) (y1 : decode rx 1 = .ok (.aload_n 1, 1)) (y2 : decode rx 2 = .ok (.invokespecial ix, 3)) (y5 : decode rx 5 = .ok (.return_, 1)) {A : Nat → Prop}
    (hown : s.vm.findClass own = some m.cls) (hcls : Bundle.fit cls = true) (hnames : ∀ n ∈ names, Bundle.fit n = true)
    (hk : (Cond.classLink own ik cls).before args s = true) (hini : (Cond.initialized cls).before args s = true) (hstr : vk_R own is text sa s) (hat : ∀ w ∈ vx_atX own ic cls ix rx names, w.before args s = true)
    (hgood : ∀ w ∈ Cond.classLink own ik cls :: Cond.initialized cls :: vx_atX own ic cls ix rx names, vx_ot w = true)
    (hU : vx_Zq Bundle.tN "UNASSIGNED_STACK" Bundle.steD A s s.heap) (hN : vx_Zq Bundle.tN "SUPPRESSED_SENTINEL" Bundle.listD A s s.heap) (hS : va_S A s.heap H locs) (hsize : ls.size = c.maxLocals)
    (d0 : decode cc pc = .ok (.new ik, 3)) (d3 : decode cc (pc + 3) = .ok (.dup, 1)) (d4 : decode cc (pc + 4) = .ok (.ldc is, 2)) (d6 : decode cc (pc + 6) = .ok (.invokespecial ic, 3)) (d9 : decode cc (pc + 9) = .ok (.athrow, 1))
    (hout : ∀ x ∈ c.exceptionTable.toList, covers x (pc + 9) = false)
    (hRframes : names.length + 3 < R.frames) (hRlocals : (rest.map fun v => v.category).sum + (13 * (names.length + 1) + 43) ≤ R.locals) (hRcells : cells + 1 ≤ R.cells) (hRslots : slots + 6 ≤ R.slots) (hlocks : meth.locks = false)
    (hx : ∀ t : State, s.vm.Alike t.vm → H.size ≤ t.heap.size → (∀ q : Nat, q < H.size → t.heap[q]? = H[q]?) → XC cls s t)
    (hf : ∀ z ∈ locs, free z.base) (hc : cells + 1 ≤ mc) (hs : slots + 6 ≤ ms) :
    W p l e R s m args below meth c H locs cells slots (vx_MQ below Qc XC args s mc ms free) (F0 m pc ls rest) := by
  intro T hT X
  have htr : e.platform.stackTraces = false := (show e.platform.stackTraces = l.stackTraces by rw [X.admits.platform]).trans hl
  have Y := vx_rebase X (R' := { frames := R.frames, locals := R.locals, cells := 1, slots := 6 }) (Nat.le_refl _) (Nat.le_refl _) hRcells hRslots
  obtain ⟨s', hA⟩ : ∃ z, z = (T.setVm s.vm).setFrames (.invoking m args :: below) := ⟨_, rfl⟩
  rw [← hA] at Y
  have hvm : s'.vm = s.vm := by rw [hA]; rfl
  have hhp : s'.heap = H := by rw [hA]; exact hT
  have hW0 : s.WarmedH s'.vm := by rw [hvm]; exact State.WarmedH.refl s
  have hat' : ∀ w ∈ vx_atX own ic cls ix rx names, w.before args s' = true := fun w hw => vx_ot_at hW0 hvm.symm (hgood w (List.mem_cons_of_mem _ (List.mem_cons_of_mem _ hw))) (hat w hw)
  have hk' : (Cond.classLink own ik cls).before args s' = true := vx_ot_at hW0 hvm.symm (hgood _ List.mem_cons_self) hk
  have hini' : (Cond.initialized cls).before args s' = true := vx_ot_at hW0 hvm.symm (hgood _ (List.mem_cons_of_mem _ List.mem_cons_self)) hini
  have hU' : vx_Zq Bundle.tN "UNASSIGNED_STACK" Bundle.steD A s' s'.heap := by rw [hhp]; exact vx_Zq.moved hW0.alike (hU.kept hS.2.1)
  have hN' : vx_Zq Bundle.tN "SUPPRESSED_SENTINEL" Bundle.listD A s' s'.heap := by rw [hhp]; exact vx_Zq.moved hW0.alike (hN.kept hS.2.1)
  have h : ∀ w ∈ vx_owX own ic cls ix rx names, w.before args s' = true := vx_own hat' (vx_isRefq hU'.1) (vx_isRefq hN'.1) hU'.2.word hN'.2.word
  have hown' : s'.vm.findClass own = some m.cls := by rw [hvm]; exact hown
  have hins : (Cond.instantiable cls 6).before args s' = true := h _ (by simp [vx_owX])
  obtain ⟨vm₁, cX, kX, hfX, hkX, -, -, X₁, st1⟩ := Y.newCold hexec (own := own) (C := cls) (index := ik) (n := 6) hown' hk' hins hini'
    (g := F0 m pc ls rest) rfl (by rw [hb]; exact d0) (Nat.le_refl _) (Nat.le_refl _)
  generalize hT1 : (T.setVm vm₁).pushCell { cls := cX, slots := kX.instanceTypes.map defaultValue, vm := .none } = T1 at X₁ st1
  have hcat : (Value.ref T.heap.size).category = 1 := rfl
  have hcellA : T1.heap[T.heap.size]? = some (freshCell cX kX) := by rw [← hT1]; exact State.heap_pushCell_size _ _
  have d3' : decode c.code (pc + 3) = .ok (.dup, 1) := by rw [hb]; exact d3
  have d4' : decode c.code (pc + 4) = .ok (.ldc is, 2) := by rw [hb]; exact d4
  have hstr' : vk_R own is text sa s' := vk_R.warm hW0 hstr
  obtain ⟨U, hsteps, hrun, hend, hW, hsame, ce, hce, h9, hv9⟩ := vx_ctorX X₁ hexec htr y0 y1 y2 y5 (own := own) (cls := cls) (names := names) (ic := ic) hown' hcls hnames h (fun x hx => nomatch hx) hfX hkX hcellA (by rw [hhp, hT]; exact Nat.le_refl _) (msg := .ref sa) rfl
    (g := { method := m, pc := pc + 6, locals := ls, stack := .ref sa :: .ref T.heap.size :: .ref T.heap.size :: rest, locked := none }) rfl hsize rfl rfl (rest := rest) rfl
    (by rw [hb]; exact d6) (by rw [hb]; exact d9) hout hRframes (by simp only [List.map_cons, List.sum_cons, hcat]; omega) hlocks
  obtain ⟨f1, f2⟩ := vx_frame hsame
  rw [hhp] at f1 f2
  have hWs : s.WarmedH U.vm := State.WarmedH.trans hW0 hW
  have hcl : s.vm.findClass cls = some ce.cls := by
    rw [hvm] at h9
    exact h9
  have hall : s.sameButNew ({ U with vm := s.vm } : State) locs mc ms := by
    subst hA
    obtain ⟨e1, e2⟩ := hsame
    rw [State.setFrames_setFrames] at e1
    have h2 : (T.setVm s.vm).sameButNew ({ U with vm := s.vm } : State) [] (0 + 1) (0 + 6) := ⟨e1, e2⟩
    have h3 := X.same.trans h2
    rw [List.append_nil] at h3
    exact h3.mono hc hs
  refine ⟨U, ?_, .threw T.heap.size, hrun, hend, Or.inr ⟨T.heap.size, rfl, cls, ce, locs, hx U hWs.alike f1 (fun q hq => f2 q hq (fun z hz => nomatch hz)), hce, hv9, hcl, hWs, hall, hf⟩⟩
  refine st1 _ ?_
  show Steps p.tables e below (T1.setTop { method := m, pc := pc + 3, locals := ls, stack := .ref T.heap.size :: rest, locked := none }) _
  jvm_step X₁.here [X₁.here.top, hexec, d3', Value.category]
  exact X₁.ldcString hexec (own := own) (text := text) (index := is) (a := sa) hown' hstr'.1 hstr'.2
    (g := { method := m, pc := pc + 4, locals := ls, stack := .ref T.heap.size :: .ref T.heap.size :: rest, locked := none }) rfl d4' _ hsteps
end Ends
section SMO
variable {l : Launch} {D : va_G} {tc : Nat → ClassId} {adV : Nat → Nat} {Z : sm_G} {B : Nat}
/-- a throw with a text: new; dup; ldc; invokespecial; athrow -/
theorem sm_throw1X {p : Program} {e : Env} {Rm : Room} {s : State} {m : MethodId} {args : Array Value} {below : List Frame} {meth : Method} {c : Code} {ρ0 : Nat → Nat} {n0 x0 nf xf nL o : Nat} {cc : ByteArray} {ini : Bool} {T : Nat → Instr} {r : sm_Res} {R' : sm_R} {G' : sm_G} {L' : sm_L}
    (hst : l.stackTraces = false) (C : sm_Cx p s m args meth c D tc B ρ0 adV Z nL o cc ini T) (hrm : sm_rm Rm n0 x0 nf xf) (hfr : 20 ≤ Rm.frames) (hlocks : meth.locks = false) (htab : c.exceptionTable.toList = [])
    {pc ik is ic ex sid ix : Nat} {rx : ByteArray} (y0 : decode rx 0 = .ok (.aload_n 0, 1)) (y1 : decode rx 1 = .ok (.aload_n 1, 1)) (y2 : decode rx 2 = .ok (.invokespecial ix, 3)) (y5 : decode rx 5 = .ok (.return_, 1)) (hex : ex < 4) (hsid : sid < sm_txts.length) (hfit : Bundle.fit (sm_xn ex) = true) (hk : Cond.classLink (sm_cls o) ik (sm_xn ex) ∈ sm_tb) (hini : Cond.initialized (sm_xn ex) ∈ sm_tb) (hstr : Cond.stringRef (sm_cls o) is (sm_txts.getD sid "") ∈ lw_tbl) (hws : (vx_atX (sm_cls o) ic (sm_xn ex) ix rx sm_sup).all sm_wchk = true)
    (d0 : decode cc pc = .ok (.new ik, 3)) (d3 : decode cc (pc + 3) = .ok (.dup, 1)) (d4 : decode cc (pc + 4) = .ok (.ldc is, 2)) (d6 : decode cc (pc + 6) = .ok (.invokespecial ic, 3)) (d9 : decode cc (pc + 9) = .ok (.athrow, 1))
    {rest : List Value} {n : Nat} {R : sm_R} {x : Nat} {G : sm_G} {L : sm_L} {ls : List Value} (hw : sm_wsum rest ≤ 8) (hr : (Sum.inl (r, nf, R', xf, G', L') : sm_O) = .inl (.inr ex, n, R, x + 1, G, L)) :
    sm_Cl p l e Rm s m args below meth c (vx_MQ below (sm_QC D tc Z B ρ0 n0 r (nf, R', xf, G', L')) (sm_XC D tc Z B ρ0 n0 r (nf, R', xf, G', L')) args s (sm_mc n0 x0 nf xf) (sm_ms n0 x0 nf xf) (fun q => B ≤ q)) D tc B ρ0 Z nL n0 x0 nf xf pc ls rest n R x G L := by
  cases hr
  obtain ⟨hx, hb, hml, hts, hSt, hown, hchk, hini9⟩ := C
  obtain ⟨hK, hnz, ha, hs, hvs, hU, hN, hX, hB⟩ := hSt
  obtain ⟨hr1, hr2, hr3, hr4, hr5⟩ := hrm
  have hall := List.all_eq_true.mp hws
  refine ⟨⟨Nat.le_refl _, Nat.le_succ _⟩, fun h0 h1 ρ H locs rls hV hl => ?_⟩
  obtain ⟨v1, v2, v3, v4, v5, v6, v7, v8⟩ := hV
  have hat : ∀ w ∈ vx_atX (sm_cls o) ic (sm_xn ex) ix rx sm_sup, w.before args s = true := fun w hw => by
    obtain ⟨g1, g2, g3⟩ := sm_wchk_of (hall w hw)
    rcases g2 with g2 | g2
    · exact hts w (sm_tb_m g1 g2)
    · have h9 := hnz w g1 g2
      unfold va_Nw at h9
      cases w <;> simp [sm_nzw] at g2 <;> first | exact va_Nw.use rfl h9
  have hgood : ∀ w ∈ Cond.classLink (sm_cls o) ik (sm_xn ex) :: Cond.initialized (sm_xn ex) :: vx_atX (sm_cls o) ic (sm_xn ex) ix rx sm_sup, vx_ot w = true := fun w hw => by
    rcases List.mem_cons.mp hw with rfl | hw
    · rfl
    · rcases List.mem_cons.mp hw with rfl | hw
      · rfl
      · exact (sm_wchk_of (hall w hw)).2.2
  have hnames : ∀ n ∈ sm_sup, Bundle.fit n = true := by decide +kernel
  have hm1 := sm_pre_mono h0
  have hrl : ((rest.map (sm_cv ρ)).map fun v => v.category).sum + (13 * (sm_sup.length + 1) + 43) ≤ Rm.locals := by
    rw [sm_cat_sum, ← sm_wsum_eq]
    show sm_wsum rest + (13 * (2 + 1) + 43) ≤ Rm.locals
    omega
  have hc1 : nf - n0 + (x - x0) + 1 ≤ sm_mc n0 x0 nf (x + 1) := by unfold sm_mc; omega
  have hs1 : sm_pre nf - sm_pre n0 + 6 * (x - x0) + 6 ≤ sm_ms n0 x0 nf (x + 1) := by unfold sm_ms; omega
  have hx9 : ∀ t : State, s.vm.Alike t.vm → H.size ≤ t.heap.size → (∀ q : Nat, q < H.size → t.heap[q]? = H[q]?) → sm_XC D tc Z B ρ0 n0 (.inr ex) (nf, R', x + 1, G', L') (sm_xn ex) s t := fun t _ hz hq =>
    ⟨ρ, trivial, ⟨⟨ex, rfl, rfl⟩, v4, v1.kept (fun k q hk => hq q.1 ((v1 k q hk).lt)), v2, v5, v6, v7, v8⟩, Nat.le_trans v3.1 hz, fun q q1 q2 => (hq q (Nat.lt_of_lt_of_le q1 v3.1)).trans (v3.2.1 q q1 q2)⟩
  exact vx_throwX (A := fun q => B ≤ q) (names := sm_sup) (sa := ρ0 (4096 + sid)) (rx := rx) hx hb hst y0 y1 y2 y5 hown hfit hnames (hts _ hk) (hts _ hini) (hs _ _ _ hstr hsid) hat hgood hU hN.1 v3 (hl.1.trans hml.symm) d0 d3 d4 d6 d9 (fun x hx => by rw [htab] at hx; cases hx) (by show 2 + 3 < Rm.frames; omega) hrl (Nat.le_trans hc1 hr1) (Nat.le_trans hs1 hr2) hlocks hx9 v3.2.2 hc1 hs1
theorem sm_thr1X (hst : l.stackTraces = false) {j pc0 v0 ic is sid ex ix : Nat} {rx : ByteArray} (y0 : decode rx 0 = .ok (.aload_n 0, 1)) (y1 : decode rx 1 = .ok (.aload_n 1, 1)) (y2 : decode rx 2 = .ok (.invokespecial ix, 3)) (y5 : decode rx 5 = .ok (.return_, 1)) (hz : sm_hz j = []) (h1 : ∀ pc, sm_la j < pc → sm_T j pc = .nop) (hn : sm_1new j pc0 v0 = true) (hex : ex < 4) (hv : Nat.sub (Nat.mod v0 256) 40 = ex) (hsid : sid < sm_txts.length) (hfit : Bundle.fit (sm_xn ex) = true)
    (hk : sm_tc (Nat.div v0 16777216) (5, sm_own j, Nat.mod (Nat.div v0 256) 65536, 14 + ex, 0) = true) (hini : Cond.initialized (sm_xn ex) ∈ sm_tb) (hstr : Cond.stringRef (sm_cls (sm_own j)) is (sm_txts.getD sid "") ∈ lw_tbl) (hws : (vx_atX (sm_cls (sm_own j)) ic (sm_xn ex) ix rx sm_sup).all sm_wchk = true)
    (d0 : decode (sm_b j) pc0 = .ok (.new (Nat.mod (Nat.div v0 256) 65536), 3)) (d3 : decode (sm_b j) (pc0 + 3) = .ok (.dup, 1)) (d4 : decode (sm_b j) (pc0 + 4) = .ok (.ldc is, 2)) (d6 : decode (sm_b j) (pc0 + 6) = .ok (.invokespecial ic, 3)) (d9 : decode (sm_b j) (pc0 + 9) = .ok (.athrow, 1)) : sm_Thr l D tc adV Z B j := by
  refine sm_thr_gen (by rw [hz]; rfl) (fun p e Rm s m args below meth c ρ0 n0 x0 nf xf r R' G' L' C hrm hfr hlocks htab pc v ex' rest n R x G L ls hT h40 he hw hr => ?_)
  obtain ⟨e1, e2⟩ := sm_1new_of hn h1 hT h40
  subst e1
  subst e2
  rw [hv] at he
  subst he
  have htab2 : c.exceptionTable.toList = [] := by
    rw [htab]
    unfold sm_hh
    rw [hz]
    rfl
  exact sm_throw1X hst C hrm hfr hlocks htab2 y0 y1 y2 y5 hex hsid hfit (sm_hlk hk hex) hini hstr hws d0 d3 d4 d6 d9 hw hr
end SMO
