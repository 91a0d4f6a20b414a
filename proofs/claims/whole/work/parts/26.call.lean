/-! calls -/
/-- what a program checks of each method -/
def sm_mck (j : Nat) : Bool := sm_tc (sm_cp j) (6, j, 0, 0, 0) && (bif Nat.beq (sm_sta j) 1 then sm_tc (sm_sp j) (7, j, 0, 0, 0) else sm_tc (sm_sp j) (8, j, 0, 0, 0)) && sm_tc (sm_inp j) (9, sm_own j, 0, 0, 0) &&
  (bif Nat.beq (sm_sta j) 1 || Nat.beq (sm_ki j) 1 then true else sm_tc (sm_slp j) (13, j, 0, 0, 0)) && decide ((sm_y j).cls ≠ "java/lang/invoke/MethodHandle") && decide ((sm_y j).cls ≠ "java/lang/invoke/VarHandle") && plainName (sm_y j).cls &&
  decide ((parseMethodDescriptor (sm_y j).desc).map (fun d => d.parameters.length) = some (sm_np j)) && Nat.ble (sm_ml j) 40 && (decide (sm_cls (sm_own j) = (sm_y j).cls)) && Nat.blt (sm_own j) 20 && (decide ((sm_y j).name = "<init>") == Nat.beq (sm_ki j) 1)
/-- the methods that there are -/
def sm_kn (j : Nat) : Bool := (Nat.ble 1 j && Nat.ble j 2) || (Nat.ble 6 j && Nat.ble j 333) || (Nat.ble 512 j && Nat.ble j 530)
/-- what a program checks of each call: v is nest * 2^48 + place * 2^32 + entry * 65536 + .. -/
def sm_lk (o v : Nat) : Bool := bif Nat.beq (Nat.div v 281474976710656) 1 then sm_tc (Nat.mod (Nat.div v 4294967296) 65536) (4, o, Nat.mod (Nat.div v 65536) 65536, Nat.mod v 1024, 0)
  else sm_tc (Nat.mod (Nat.div v 4294967296) 65536) (3, o, Nat.mod (Nat.div v 65536) 65536, Nat.mod v 1024, 0)
def sm_cck (o : Nat) (i : Instr) : Bool := match i with
  | .invokevirtual v => sm_lk o v && Nat.beq (Nat.div v 281474976710656) 0 && Nat.beq (sm_sta (Nat.mod v 1024)) 0 && !Nat.beq (sm_ki (Nat.mod v 1024)) 1 && (sm_hh (Nat.mod v 1024)).isEmpty && sm_kn (Nat.mod v 1024) && Nat.beq (Nat.mod (Nat.div v 1024) 16) (sm_np (Nat.mod v 1024) + 1)
  | .invokespecial v => Nat.beq (Nat.mod v 1024) 1023 || (sm_lk o v && Nat.beq (sm_sta (Nat.mod v 1024)) 0 && Nat.beq (sm_ki (Nat.mod v 1024)) 1 && (sm_hh (Nat.mod v 1024)).isEmpty && sm_kn (Nat.mod v 1024) && Nat.beq (Nat.mod (Nat.div v 1024) 16) (sm_np (Nat.mod v 1024) + 1) && decide (sm_rt (Nat.mod v 1024) = none))
  | .invokestatic v => bif Nat.ble 3 (Nat.mod v 1024) && Nat.ble (Nat.mod v 1024) 5 then sm_tc (Nat.mod (Nat.div v 4294967296) 65536) (15, o, Nat.mod (Nat.div v 65536) 65536, Nat.sub (Nat.mod v 1024) 1, 0) && Nat.beq (Nat.mod (Nat.div v 1024) 16) (bif Nat.beq (Nat.mod v 1024) 3 then 5 else 2)
      else (sm_lk o v && Nat.beq (Nat.div v 281474976710656) 0 && Nat.beq (sm_sta (Nat.mod v 1024)) 1 && sm_kn (Nat.mod v 1024) && Nat.beq (Nat.mod (Nat.div v 1024) 16) (sm_np (Nat.mod v 1024)))
  | _ => true
theorem sm_good_cw (j : Nat) : goodWord (sm_cw0 j) = true := by
  unfold sm_cw0
  cases (sm_hh j).isEmpty <;> rfl
theorem sm_wd_good {j : Nat} (h : sm_cw0 j ∈ sm_tb) : GoodIn sm_tb (sm_wd j) := fun w hw => by
  have h1 : w ∈ sm_tb := by
    rcases List.mem_cons.mp hw with rfl | h2
    · exact h
    · exact h2
  exact ⟨h1, good_of_word (List.mem_filter.mp h1).2⟩
section SMO
variable {p : Program} {l : Launch} {e : Env} {Rm : Room} {s : State} {m : MethodId} {args : Array Value} {below : List Frame} {meth : Method} {c : Code} {Q : State → Prop}
variable {D : va_G} {tc : Nat → ClassId} {B : Nat} {ρ0 adV : Nat → Nat} {Z : sm_G} {nL n0 x0 nf xf o d : Nat} {cc : ByteArray} {ini : Bool} {T : Nat → Instr}
variable {pc : Nat} {ls st : List Value} {n : Nat} {R : sm_R} {x : Nat} {G : sm_G} {L : sm_L}
variable {hd : Nat → Nat → Nat} {cn : sm_CN} {cx : sm_CX} {k : Nat → List Value → List Value → Nat → sm_R → Nat → sm_G → sm_L → Option sm_O} {w : sm_O}
/-- what the program's check of a method says -/
theorem sm_mck_of {j : Nat} (h : sm_mck j = true) : sm_cw0 j ∈ sm_tb ∧ (if sm_sta j = 1 then Cond.static (sm_y j) ∈ sm_tb else Cond.instanceMethod (sm_y j) ∈ sm_tb) ∧ Cond.initialized (sm_y j).cls ∈ sm_tb ∧
    (sm_sta j ≠ 1 → sm_ki j ≠ 1 → Cond.selects (sm_y j).cls (sm_y j) (sm_y j) ∈ sm_tb) ∧ ((sm_y j).cls ≠ "java/lang/invoke/MethodHandle" ∧ (sm_y j).cls ≠ "java/lang/invoke/VarHandle") ∧ plainName (sm_y j).cls = true ∧
    (∀ sig, parseMethodDescriptor (sm_y j).desc = some sig → sm_np j = sig.parameters.length) ∧ sm_ml j ≤ 40 ∧ sm_cls (sm_own j) = (sm_y j).cls ∧ sm_own j < 20 ∧ (sm_ki j = 1 → (sm_y j).name = "<init>") := by
  unfold sm_mck at h
  simp only [Bool.and_eq_true, decide_eq_true_eq] at h
  obtain ⟨⟨⟨⟨⟨⟨⟨⟨⟨⟨⟨h1, h2⟩, h3⟩, h4⟩, h5⟩, h6⟩, h7⟩, h8⟩, h9⟩, h10⟩, h11⟩, h12⟩ := h
  have h3' : Cond.initialized (sm_cls (sm_own j)) ∈ lw_tbl := sm_tc_of h3
  rw [h10] at h3'
  refine ⟨sm_tb_m (sm_tc_of h1) (sm_good_cw j), ?_, sm_tb_m h3' rfl, fun g1 g2 => ?_, ⟨h5, h6⟩, h7, fun sig hs => ?_, sm_ale h9, h10, sm_blt h11, fun hk => ?_⟩
  · by_cases q : sm_sta j = 1
    · rw [if_pos q]
      rw [q] at h2
      exact sm_tb_m (sm_tc_of h2) rfl
    · rw [if_neg q]
      rw [sm_beqF q] at h2
      exact sm_tb_m (sm_tc_of h2) rfl
  · rw [sm_beqF g1, sm_beqF g2] at h4
    exact sm_tb_m (sm_tc_of h4) rfl
  · rw [hs] at h8
    exact (Option.some.inj h8).symm
  · rw [hk] at h12
    simpa using h12
/-- the room that the calls of depth d want -/
def sm_dp (Rm : Room) (d : Nat) : Prop := d + 21 ≤ Rm.frames ∧ 64 * d + 464 ≤ Rm.locals
theorem sm_pay {j : Nat} (hts : ∀ w ∈ sm_tb, w.before args s = true) (h : sm_cw0 j ∈ sm_tb) : ∀ w ∈ sm_wd j, ∀ (a' : Array Value) (U : State), s.WarmedH U.vm → w.before a' U = true := pay_in hts (sm_wd_good h)
set_option maxRecDepth 10000 in
theorem sm_loc {a c d : Nat} (h : 64 * d + 464 ≤ c) (h2 : a ≤ 40) : 8 + (a + 11) + (64 * d + 400) ≤ c := by omega
theorem sm_cb (hts : ∀ w ∈ sm_tb, w.before args s = true) (hdp : sm_dp Rm d) {j idx mc ms : Nat} {own : String} (hck : sm_mck j = true) (hem : (sm_hh j).isEmpty = true) (hl : (Cond.methodLink own idx (sm_y j)).before args s = true) :
    CallB Rm s args own idx (sm_y j) (sm_b j) (sm_ml j) (sm_rt j) (sm_wd j) (sm_rmd d mc ms) mc ms (sm_np j) := by
  obtain ⟨h1, h2, h3, h4, h5, h6, h7, h8, h9, h10, h11⟩ := sm_mck_of hck
  have hcw : sm_cw0 j = Cond.code (sm_y j) (sm_b j) (sm_ml j) (sm_rt j) := by unfold sm_cw0; rw [hem]; rfl
  refine ⟨rfl, rfl, ?_, ?_, sm_pay hts h1, ?_, ?_, hts _ h3, h5, h7, hl⟩
  · have := hdp.1; simp only [sm_rmd]; omega
  · exact sm_loc hdp.2 h8
  · rw [← hcw]; exact List.mem_cons_self
  · rw [← hcw]; exact hts _ h1
theorem sm_cbN (hts : ∀ w ∈ sm_tb, w.before args s = true) (hdp : sm_dp Rm d) {j idx mc ms : Nat} {own : String} (hck : sm_mck j = true) (hem : (sm_hh j).isEmpty = true) (hl : (Cond.methodLinkNest own idx (sm_y j) "StreetDreams").before args s = true) :
    va_CN Rm s args own idx (sm_y j) "StreetDreams" (sm_b j) (sm_ml j) (sm_rt j) (sm_wd j) (sm_rmd d mc ms) mc ms (sm_np j) := by
  obtain ⟨h1, h2, h3, h4, h5, h6, h7, h8, h9, h10, h11⟩ := sm_mck_of hck
  have hcw : sm_cw0 j = Cond.code (sm_y j) (sm_b j) (sm_ml j) (sm_rt j) := by unfold sm_cw0; rw [hem]; rfl
  refine ⟨⟨rfl, rfl, ?_, ?_, sm_pay hts h1, ?_⟩, ?_, hts _ h3, h5, h7, hl⟩
  · have := hdp.1; simp only [sm_rmd]; omega
  · exact sm_loc hdp.2 h8
  · rw [← hcw]; exact List.mem_cons_self
  · rw [← hcw]; exact hts _ h1
theorem sm_cbW (hts : ∀ w ∈ sm_tb, w.before args s = true) (hdp : sm_dp Rm d) {j idx mc ms : Nat} {own : String} (hck : sm_mck j = true) (hem : (sm_hh j).isEmpty = false) (hst : sm_sta j = 1) (hl : (Cond.methodLink own idx (sm_y j)).before args s = true) :
    vx_CSW Rm s args own idx (sm_y j) (sm_b j) (sm_ml j) (sm_rt j) (sm_hh j) (sm_wd j) (sm_rmd d mc ms) mc ms (sm_np j) := by
  obtain ⟨h1, h2, h3, h4, h5, h6, h7, h8, h9, h10, h11⟩ := sm_mck_of hck
  have hcw : sm_cw0 j = Cond.codeWith (sm_y j) (sm_b j) (sm_ml j) (sm_rt j) (sm_hh j) := by unfold sm_cw0; rw [hem]; rfl
  rw [if_pos hst] at h2
  refine ⟨⟨rfl, rfl, ?_, ?_, sm_pay hts h1, ?_⟩, ?_, hts _ h3, h5, h7, hl, hts _ h2⟩
  · have := hdp.1; simp only [sm_rmd]; omega
  · exact sm_loc hdp.2 h8
  · rw [← hcw]; exact List.mem_cons_self
  · rw [← hcw]; exact hts _ h1
/-- the world at a call is one a callee can begin in -/
theorem sm_pre_of {ρ : Nat → Nat} {H : Heap} {locs : List Loc} {as : List Value} {U : State} (hSt : sm_St D tc ρ0 adV Z B s) (hV : sm_V D tc B ρ0 Z n0 s ρ n R G L H locs) (hU : U.heap = H) (hW : s.WarmedH U.vm) : sm_Pc D tc adV Z B ρ as n R G L (as.map (sm_cv ρ)).toArray U := by
  obtain ⟨h1, h2, h3, h4, h5, h6, h7, h8⟩ := hV
  refine ⟨rfl, ⟨by rw [hU]; exact h1, h2, h5, h6, h7, h8⟩, sm_St.moved hW (fun r hr => h4 r (Or.inr (by omega))) (fun q hq => ?_) ?_ hSt⟩
  · rw [hU]
    exact h3.2.1 q (Nat.lt_of_lt_of_le hq hSt.2.2.2.2.2.2.2.2) (Nat.not_le.mpr hq)
  · rw [hU]
    exact Nat.le_trans hSt.2.2.2.2.2.2.2.2 h3.1
/-- the object that the method is called of -/
theorem sm_recv {ρ : Nat → Nat} {H : Heap} {locs : List Loc} {r t : Nat} (hK : va_K D vwCl (sm_tys tc) s) (hV : sm_V D tc B ρ0 Z n0 s ρ n R G L H locs) (hr : sm_is r n t = true) (ht : t < 13) : ∃ cell : Cell, H[ρ r]? = some cell ∧ cell.vm.isStatics = false ∧ s.vm.findClass (sm_cls t) = some cell.cls := by
  obtain ⟨g1, g2, g0⟩ := sm_is_spec hr (by omega)
  have hq : ∃ q : vw_C, vwCl[t]? = some q ∧ q.1 = sm_cls t := by
    rcases (show t = 0 ∨ t = 1 ∨ t = 2 ∨ t = 3 ∨ t = 4 ∨ t = 5 ∨ t = 6 ∨ t = 7 ∨ t = 8 ∨ t = 9 ∨ t = 10 ∨ t = 11 ∨ t = 12 by omega) with h | h | h | h | h | h | h | h | h | h | h | h | h <;> subst h <;> exact ⟨_, rfl, rfl⟩
  obtain ⟨q, hq, he⟩ := hq
  rw [← he]
  exact va_recv hK hV.1 (ci := t) (q0 := r - 1) hq (by rw [sm_ws_get g0 g2, sm_el_o (by omega), g1])
theorem sm_args_spec : ∀ (na : Nat) (acc st as rest : List Value), sm_args na acc st = some (as, rest) → ∃ vs : List Value, vs.length = na ∧ st = vs ++ rest ∧ as = vs.reverse ++ acc
  | 0, acc, st, as, rest, h => by
    cases h
    exact ⟨[], rfl, rfl, rfl⟩
  | na + 1, acc, [], as, rest, h => by cases h
  | na + 1, acc, v :: st, as, rest, h => by
    obtain ⟨vs, h1, h2, h3⟩ := sm_args_spec na (v :: acc) st as rest h
    exact ⟨v :: vs, by simp [h1], by rw [h2]; rfl, by rw [h3]; simp⟩
end SMO
