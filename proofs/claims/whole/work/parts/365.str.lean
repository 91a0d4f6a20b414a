/-! a text's length and its char at a place, as the JDK has them -/
theorem st_m {w : Cond} (i : Nat) (h : tables_1[i]? = some w) (hg : goodWord w = true) : w ∈ sm_tb := sm_tb_m (List.mem_append_right _ (List.mem_of_getElem? h)) hg
theorem st_gi {L : List Cond} (h : ∀ w ∈ L, w ∈ sm_tb) : GoodIn sm_tb L := fun w hw => ⟨h w hw, good_of_word (List.mem_filter.mp (h w hw)).2⟩
theorem st_al2 {a b : Cond} {L : List Cond} (h1 : a ∈ L) (h2 : b ∈ L) : ∀ w ∈ [a, b], w ∈ L := fun w h => by
  simp only [List.mem_cons, List.not_mem_nil, or_false] at h
  rcases h with rfl | rfl <;> assumption
def st_0 : Nat → Prop := fun _ => False
/-- a text, as its own members find it -/
def st_T (a b len : Nat) (byt : List Int32) (U : State) : Prop := va_O "java/lang/String" a st_0 U U.heap ∧ va_OF "java/lang/String" "coder" "B" (.int 0) a st_0 U U.heap ∧ va_OF "java/lang/String" "value" "[B" (.ref b) a st_0 U U.heap ∧ va_T .byte b len (fun j => .int (byt.getD j 0)) st_0 U U.heap ∧
  va_Z "java/lang/String" "COMPACT_STRINGS" "Z" (.int 1) st_0 U U.heap ∧ va_Zq "jdk/internal/util/Preconditions" "SIOOBE_FORMATTER" "Ljava/util/function/BiFunction;" st_0 U U.heap
theorem st_T.moved {a b len : Nat} {byt : List Int32} {u U : State} (hvm : u.vm.Alike U.vm) (hh : ∀ q, q < u.heap.size → U.heap[q]? = u.heap[q]?) (h : st_T a b len byt u) : st_T a b len byt U := by
  obtain ⟨h1, h2, h3, h4, h5, h6⟩ := h
  exact ⟨(va_O.moved hvm h1).kept (fun q q1 _ => hh q q1), (va_OF.moved hvm h2).kept (fun q q1 _ => hh q q1), (va_OF.moved hvm h3).kept (fun q q1 _ => hh q q1), (va_T.moved hvm h4).kept (fun q q1 _ => hh q q1), (va_Z.moved hvm h5).kept (fun q q1 _ => hh q q1), (va_Zq.moved hvm h6).kept (fun q q1 _ => hh q q1)⟩
def st_rm (k : Nat) : Room := { frames := k, cells := 0, slots := 0, locals := 50 * k }
def st_Q (v : Int32) : Array Value → State → Outcome → State → Prop := va_Qi (fun (r : Int32) (_ : Unit) => r = v) (fun _ _ => True) st_0
def st_P (as : List Value) (a b len : Nat) (byt : List Int32) : Array Value → State → Prop := fun ar U => ar = as.toArray ∧ st_T a b len byt U
theorem st_bl {as : List Value} {a b len : Nat} {byt : List Int32} : FrameBlind (st_P as a b len byt) := by
  intro ar U g mk h
  exact ⟨h.1, st_T.moved (U := U.calling g mk ar) (State.WarmedH.refl U).alike (fun _ _ => rfl) h.2⟩
theorem st_nar (x : Int32) : narrow .char (.int (x.toUInt32 % 65536).toInt32) = .int (x.toUInt32 % 65536).toInt32 := by
  have e : x.toUInt32 % 65536 % 65536 = x.toUInt32 % 65536 := UInt32.toNat_inj.mp (by rw [UInt32.toNat_mod, UInt32.toNat_mod]; exact Nat.mod_mod _ _)
  simp [narrow, e]
section STR
variable {l : Launch} {a b len : Nat} {byt : List Int32}
theorem st_coder : Met l ⟨"java/lang/String", "coder", "()B"⟩ (Cond.code ⟨"java/lang/String", "coder", "()B"⟩ prog_27_method_152_code 1 (some .byte) :: sm_tb) (st_rm 1) (st_P [.ref a] a b len byt) (st_Q 0) 0 0 st_0 := by
  refine Met.ofW (cc := prog_27_method_152_code) (maxL := 1) (ret := some .byte) (by decide +kernel) rfl ?_
  intro p e s m args below meth c s₁ Bd hml hv
  obtain ⟨rfl, h1, h2, h3, h4, h5, h6⟩ := hv
  have hts0 := atoms_spec Bd.pre
  have hts : ∀ w ∈ sm_tb, w.before ([.ref a] : List Value).toArray s = true := fun w hw => hts0 w (List.mem_cons_of_mem _ hw)
  have hown : s.vm.findClass "java/lang/String" = some m.cls := findClass_of_methodNamed Bd.named
  rw [lg_entry_eq]
  have hl := lv_entry [.ref a] (n := 1) (Nat.le_of_ble_eq_true rfl)
  generalize (lg_sl [.ref a] ++ List.replicate (1 - (lg_sl [.ref a]).length) Slot.unset).toArray = rls at hl
  refine va_gets (index := 38) Bd.exec Bd.bytes h5 va_S.rf hown (hts _ (st_m 847 (by decide +kernel) rfl)) (fun _ h => h) (by decide +kernel) ?_
  refine lv_if_eq Bd.exec Bd.bytes (off := 10) (tgt := 13) (by decide +kernel) (by decide) (fun h => absurd h (by decide)) (fun _ => ?_)
  refine lv_aload_n Bd.exec Bd.bytes (k := 0) (i := 0) (by decide +kernel) rfl (lv_at hl 0 rfl) ?_
  refine vk_getf (index := 15) Bd.exec Bd.bytes h2 va_S.rf hown (hts _ (st_m 2286 (by decide +kernel) rfl)) (fun _ h => h) (by decide +kernel) ?_
  refine lv_goto Bd.exec Bd.bytes (off := 4) (tgt := 14) (by decide +kernel) (by decide) ?_
  exact W.zret (v := 0) Bd.exec Bd.bytes Bd.returns (by decide +kernel) (fun t ht _ => ⟨⟨0, (), rfl, rfl, trivial⟩, va_S.F va_S.rf ht⟩) (fun _ h => by cases h) (by decide +kernel)
theorem st_latin : Met l ⟨"java/lang/String", "isLatin1", "()Z"⟩ (Cond.code ⟨"java/lang/String", "isLatin1", "()Z"⟩ prog_27_method_154_code 1 (some .boolean) :: sm_tb) (st_rm 1) (st_P [.ref a] a b len byt) (st_Q 1) 0 0 st_0 := by
  refine Met.ofW (cc := prog_27_method_154_code) (maxL := 1) (ret := some .boolean) (by decide +kernel) rfl ?_
  intro p e s m args below meth c s₁ Bd hml hv
  obtain ⟨rfl, h1, h2, h3, h4, h5, h6⟩ := hv
  have hts0 := atoms_spec Bd.pre
  have hts : ∀ w ∈ sm_tb, w.before ([.ref a] : List Value).toArray s = true := fun w hw => hts0 w (List.mem_cons_of_mem _ hw)
  have hown : s.vm.findClass "java/lang/String" = some m.cls := findClass_of_methodNamed Bd.named
  rw [lg_entry_eq]
  have hl := lv_entry [.ref a] (n := 1) (Nat.le_of_ble_eq_true rfl)
  generalize (lg_sl [.ref a] ++ List.replicate (1 - (lg_sl [.ref a]).length) Slot.unset).toArray = rls at hl
  refine va_gets (index := 38) Bd.exec Bd.bytes h5 va_S.rf hown (hts _ (st_m 847 (by decide +kernel) rfl)) (fun _ h => h) (by decide +kernel) ?_
  refine lv_if_eq Bd.exec Bd.bytes (off := 14) (tgt := 17) (by decide +kernel) (by decide) (fun h => absurd h (by decide)) (fun _ => ?_)
  refine lv_aload_n Bd.exec Bd.bytes (k := 0) (i := 0) (by decide +kernel) rfl (lv_at hl 0 rfl) ?_
  refine vk_getf (index := 15) Bd.exec Bd.bytes h2 va_S.rf hown (hts _ (st_m 2286 (by decide +kernel) rfl)) (fun _ h => h) (by decide +kernel) ?_
  refine lv_if_ne Bd.exec Bd.bytes (off := 7) (tgt := 17) (by decide +kernel) (by decide) (fun h => absurd rfl h) (fun _ => ?_)
  refine lv_iconst Bd.exec Bd.bytes (n := 1) (v := 1) (by decide +kernel) rfl ?_
  refine lv_goto Bd.exec Bd.bytes (off := 4) (tgt := 18) (by decide +kernel) (by decide) ?_
  exact W.zret (v := 1) Bd.exec Bd.bytes Bd.returns (by decide +kernel) (fun t ht _ => ⟨⟨1, (), rfl, rfl, trivial⟩, va_S.F va_S.rf ht⟩) (fun _ h => by cases h) (by decide +kernel)
theorem st_pci {i n : Int32} {v : Value} (hv : v = .null ∨ ∃ q : Nat, v = .ref q) (h0 : ¬ i < 0) (hn : i < n) : Met l ⟨"jdk/internal/util/Preconditions", "checkIndex", "(IILjava/util/function/BiFunction;)I"⟩ (Cond.code ⟨"jdk/internal/util/Preconditions", "checkIndex", "(IILjava/util/function/BiFunction;)I"⟩ prog_36_method_11_code 3 (some .int) :: sm_tb) (st_rm 1) (fun ar _ => ar = ([.int i, .int n, v] : List Value).toArray) (st_Q i) 0 0 st_0 := by
  refine Met.ofW (cc := prog_36_method_11_code) (maxL := 3) (ret := some .int) (by decide +kernel) rfl ?_
  intro p e s m args below meth c s₁ Bd hml hv2
  subst hv2
  have hts0 := atoms_spec Bd.pre
  rw [lg_entry_eq]
  have hlen : (lg_sl [.int i, .int n, v]).length ≤ 3 := by
    rcases hv with rfl | ⟨q, rfl⟩ <;> simp [lg_sl, Value.category]
  have hl := lv_entry [.int i, .int n, v] (n := 3) hlen
  generalize (lg_sl [.int i, .int n, v] ++ List.replicate (3 - (lg_sl [.int i, .int n, v]).length) Slot.unset).toArray = rls at hl
  refine lv_iload_n Bd.exec Bd.bytes (k := 0) (i := 0) (by decide +kernel) rfl (lv_at hl 0 rfl) ?_
  refine lv_if_lt Bd.exec Bd.bytes (off := 8) (tgt := 9) (by decide +kernel) (by decide) (fun h => absurd h h0) (fun _ => ?_)
  refine lv_iload_n Bd.exec Bd.bytes (k := 0) (i := 0) (by decide +kernel) rfl (lv_at hl 0 rfl) ?_
  refine lv_iload_n Bd.exec Bd.bytes (k := 1) (i := 1) (by decide +kernel) rfl (lv_at hl 1 rfl) ?_
  refine lv_icmp_lt Bd.exec Bd.bytes (off := 10) (tgt := 16) (by decide +kernel) (by decide) (fun _ => ?_) (fun h => absurd hn h)
  refine lv_iload_n Bd.exec Bd.bytes (k := 0) (i := 0) (by decide +kernel) rfl (lv_at hl 0 rfl) ?_
  exact W.iret (v := i) Bd.exec Bd.bytes Bd.returns (fun t ht _ => ⟨⟨i, (), rfl, rfl, trivial⟩, va_S.F va_S.rf ht⟩) (fun _ h => by cases h) (by decide +kernel)
theorem st_cki {i n : Int32} (h0 : ¬ i < 0) (hn : i < n) : Met l ⟨"java/lang/String", "checkIndex", "(II)V"⟩ (Cond.code ⟨"java/lang/String", "checkIndex", "(II)V"⟩ prog_27_method_155_code 2 none :: sm_tb) (st_rm 2) (st_P [.int i, .int n] a b len byt) (va_Qv (fun _ : Unit => True) (fun _ _ => True) st_0) 0 0 st_0 := by
  refine Met.ofW (cc := prog_27_method_155_code) (maxL := 2) (ret := none) (by decide +kernel) rfl ?_
  intro p e s m args below meth c s₁ Bd hml hv
  obtain ⟨rfl, h1, h2, h3, h4, h5, h6⟩ := hv
  have hts0 := atoms_spec Bd.pre
  have hts : ∀ w ∈ sm_tb, w.before ([.int i, .int n] : List Value).toArray s = true := fun w hw => hts0 w (List.mem_cons_of_mem _ hw)
  have hown : s.vm.findClass "java/lang/String" = some m.cls := findClass_of_methodNamed Bd.named
  rw [lg_entry_eq]
  have hl := lv_entry [.int i, .int n] (n := 2) (Nat.le_of_ble_eq_true rfl)
  generalize (lg_sl [.int i, .int n] ++ List.replicate (2 - (lg_sl [.int i, .int n]).length) Slot.unset).toArray = rls at hl
  have key : ∀ v : Value, (v = .null ∨ ∃ q : Nat, v = .ref q) → va_Z "jdk/internal/util/Preconditions" "SIOOBE_FORMATTER" "Ljava/util/function/BiFunction;" v st_0 s s.heap → W p l e (st_rm 2) s m ([.int i, .int n] : List Value).toArray below meth c s.heap [] 0 0 (MQ below (va_Qv (fun _ : Unit => True) (fun _ _ => True) st_0) ([.int i, .int n] : List Value).toArray s 0 0 st_0) (F0 m 0 rls []) := by
    intro v hv hz
    refine lv_iload_n Bd.exec Bd.bytes (k := 0) (i := 0) (by decide +kernel) rfl (lv_at hl 0 rfl) ?_
    refine lv_iload_n Bd.exec Bd.bytes (k := 1) (i := 1) (by decide +kernel) rfl (lv_at hl 1 rfl) ?_
    refine va_gets (index := 1053) Bd.exec Bd.bytes hz va_S.rf hown (hts _ (st_m 863 (by decide +kernel) rfl)) (fun _ h => h) (by decide +kernel) ?_
    refine va_calli (A0 := st_0) (A1 := st_0) (free := st_0) (va_runS (index := 1059) (As := [.int i, .int n, v]) (rest := []) ⟨Bd.exec, Bd.bytes, hml, hown, hts⟩ (st_pci hv h0 hn) ⟨callB_of 3 hts (st_gi (fun w hw => by
    rcases List.mem_cons.mp hw with rfl | hw
    · exact st_m 867 (by decide +kernel) rfl
    · exact hw)) rfl rfl rfl (hts _ (st_m 22 (by decide +kernel) rfl)) (hts _ (st_m 865 (by decide +kernel) rfl)) (by decide +kernel) (by decide), hts _ (st_m 866 (by decide +kernel) rfl)⟩ ⟨fun _ _ _ _ h => h, fun U _ _ => rfl⟩ rfl rfl hl.1 rfl (Nat.le_of_ble_eq_true rfl) (show decode prog_27_method_155_code 5 = Except.ok (.invokestatic 1059, 3) by decide +kernel) ⟨Nat.le_refl _, Nat.le_refl _⟩) va_S.rf (fun _ _ h => h) (fun _ h => h) (fun r u t H1 locs1 e1 e2 hr _ hz1 hk hS => ?_)
    refine lv_pop Bd.exec Bd.bytes (va := .int r) (by decide +kernel) rfl ?_
    exact W.vret Bd.exec Bd.bytes Bd.returns (fun t ht _ => ⟨⟨(), rfl, trivial, trivial⟩, va_S.F hS ht⟩) hS.2.2 (by decide +kernel)
  rcases h6 with h6 | ⟨q, h6⟩
  · exact key _ (Or.inl rfl) h6
  · exact key _ (Or.inr ⟨q, rfl⟩) h6
theorem st_lch {i : Int32} (h0 : ¬ i < 0) (hlen : len < 2 ^ 31) (hn : i.toNatClampNeg < len) (hn2 : i < Int32.ofNat len) : Met l ⟨"java/lang/StringLatin1", "charAt", "([BI)C"⟩ (Cond.code ⟨"java/lang/StringLatin1", "charAt", "([BI)C"⟩ prog_28_method_2_code 2 (some .char) :: sm_tb) (st_rm 3) (st_P [.ref b, .int i] a b len byt) (st_Q ((byt.getD i.toNatClampNeg 0 &&& 255).toUInt32 % 65536).toInt32) 0 0 st_0 := by
  refine Met.ofW (cc := prog_28_method_2_code) (maxL := 2) (ret := some .char) (by decide +kernel) rfl ?_
  intro p e s m args below meth c s₁ Bd hml hv
  obtain ⟨rfl, hT⟩ := hv
  have hT0 := hT
  obtain ⟨h1, h2, h3, h4, h5, h6⟩ := hT
  have hts0 := atoms_spec Bd.pre
  have hts : ∀ w ∈ sm_tb, w.before ([.ref b, .int i] : List Value).toArray s = true := fun w hw => hts0 w (List.mem_cons_of_mem _ hw)
  have hown : s.vm.findClass "java/lang/StringLatin1" = some m.cls := findClass_of_methodNamed Bd.named
  rw [lg_entry_eq]
  have hl := lv_entry [.ref b, .int i] (n := 2) (Nat.le_of_ble_eq_true rfl)
  generalize (lg_sl [.ref b, .int i] ++ List.replicate (2 - (lg_sl [.ref b, .int i]).length) Slot.unset).toArray = rls at hl
  refine lv_iload_n Bd.exec Bd.bytes (k := 1) (i := 1) (by decide +kernel) rfl (lv_at hl 1 rfl) ?_
  refine lv_aload_n Bd.exec Bd.bytes (k := 0) (i := 0) (by decide +kernel) rfl (lv_at hl 0 rfl) ?_
  refine va_tlen Bd.exec Bd.bytes h4 va_S.rf rfl (by decide +kernel) ?_
  refine va_callv (A0 := st_0) (A1 := st_0) (free := st_0) (va_runS (index := 9) (As := [.int i, .int (Int32.ofNat len)]) (rest := []) ⟨Bd.exec, Bd.bytes, hml, hown, hts⟩ (st_cki (a := a) (b := b) (len := len) (byt := byt) h0 hn2) ⟨callB_of 2 hts (st_gi (fun w hw => by
    rcases List.mem_cons.mp hw with rfl | hw
    · exact st_m 862 (by decide +kernel) rfl
    · exact hw)) rfl rfl rfl (hts _ (st_m 20 (by decide +kernel) rfl)) (hts _ (st_m 860 (by decide +kernel) rfl)) (by decide +kernel) (by decide), hts _ (st_m 861 (by decide +kernel) rfl)⟩ ⟨st_bl, fun U h7 h8 => ⟨rfl, st_T.moved h8.alike (fun q _ => by rw [h7]) hT0⟩⟩ rfl rfl hl.1 rfl (Nat.le_of_ble_eq_true rfl) (show decode prog_28_method_2_code 3 = Except.ok (.invokestatic 9, 3) by decide +kernel) ⟨Nat.le_refl _, Nat.le_refl _⟩) va_S.rf (fun _ _ h => h) (fun _ h => h) (fun u t H1 locs1 e1 e2 _ _ hz1 hk hS => ?_)
  refine lv_aload_n Bd.exec Bd.bytes (k := 0) (i := 0) (by decide +kernel) rfl (lv_at hl 0 rfl) ?_
  refine lv_iload_n Bd.exec Bd.bytes (k := 1) (i := 1) (by decide +kernel) rfl (lv_at hl 1 rfl) ?_
  refine va_tb Bd.exec Bd.bytes h4 hS (i := i) (fun h => by rcases h with h | h; exact h0 h; omega) rfl (by decide +kernel) ?_
  refine lv_sipush Bd.exec Bd.bytes (n := 255) (v := 255) (by decide +kernel) (by decide) ?_
  refine lv_iand Bd.exec Bd.bytes (by decide +kernel) ?_
  refine lv_i2c Bd.exec Bd.bytes (by decide +kernel) rfl ?_
  exact W.zret Bd.exec Bd.bytes Bd.returns (st_nar _) (fun t ht _ => ⟨⟨_, (), rfl, rfl, trivial⟩, va_S.F hS ht⟩) hS.2.2 (by decide +kernel)
end STR
