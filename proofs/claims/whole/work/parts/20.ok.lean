/-! an instruction of the small machine is the machine's -/
def sm_xn (e : Nat) : String := match e with
  | 0 => "java/lang/IndexOutOfBoundsException"
  | 1 => "java/util/NoSuchElementException"
  | 2 => "java/lang/IllegalArgumentException"
  | _ => "java/lang/IllegalStateException"
/-- what holds of the state a method begins in, whatever the method -/
def sm_St (D : va_G) (tc : Nat → ClassId) (ρs adV : Nat → Nat) (Z : sm_G) (B : Nat) (U : State) : Prop :=
  va_K D vwCl (sm_tys tc) U ∧ sm_nz U ∧ (va_AO RX10 U ∧ va_AO RX3 U ∧ va_AO RX7 U ∧ va_AOA .int U ∧ ∀ a b, a < 4 → b < 4 → a ≠ b → va_Nc (sm_xn a) (sm_xn b) U) ∧
  (∀ (own : String) (k i : Nat), Cond.stringRef own k (sm_txts.getD i "") ∈ lw_tbl → i < sm_txts.length → vk_R own k (sm_txts.getD i "") (ρs (4096 + i)) U) ∧
  (∀ i, i < sm_strs.length → vk_S 1 [(sm_strs.getD i []).length] [sm_strs.getD i []] (fun _ => ρs (4096 + i)) (fun _ => adV i) (fun q => B ≤ q) U U.heap) ∧
  vx_Zq Bundle.tN "UNASSIGNED_STACK" Bundle.steD (fun q => B ≤ q) U U.heap ∧ (vx_Zq Bundle.tN "SUPPRESSED_SENTINEL" Bundle.listD (fun q => B ≤ q) U U.heap ∧ va_Z "java/lang/String" "COMPACT_STRINGS" "Z" (.int 1) (fun q => B ≤ q) U U.heap ∧ va_Zq "jdk/internal/util/Preconditions" "SIOOBE_FORMATTER" "Ljava/util/function/BiFunction;" (fun q => B ≤ q) U U.heap) ∧
  (va_X (ρs 8191) (Z 8190 0).toNatClampNeg (Z 8191) U U.heap ∧ ρs 8191 < U.heap.size ∧ ρs 8191 < B ∧ Int32.ofNat (Z 8190 0).toNatClampNeg = Z 8190 0) ∧ B ≤ U.heap.size
def sm_Cx (p : Program) (s : State) (m : MethodId) (args : Array Value) (meth : Method) (c : Code) (D : va_G) (tc : Nat → ClassId) (B : Nat) (ρ0 adV : Nat → Nat) (Z : sm_G) (nL o : Nat) (cc : ByteArray) (ini : Bool) (T : Nat → Instr) : Prop :=
  p.tables.exec = Jvm.exec ∧ c.code = cc ∧ c.maxLocals = nL ∧ (∀ w ∈ sm_tb, w.before args s = true) ∧ sm_St D tc ρ0 adV Z B s ∧ s.vm.findClass (sm_cls o) = some m.cls ∧ (∀ pc, sm_chk o nL cc ini pc (T pc)) ∧ (ini = true → meth.name = "<init>")
theorem sm_txs : sm_txts.length = sm_strs.length := by decide +kernel
section SMO
variable {p : Program} {l : Launch} {e : Env} {Rm : Room} {s : State} {m : MethodId} {args : Array Value} {below : List Frame} {meth : Method} {c : Code} {Q : State → Prop}
variable {D : va_G} {tc : Nat → ClassId} {B : Nat} {ρ0 adV : Nat → Nat} {Z : sm_G} {nL n0 x0 nf xf o : Nat} {cc : ByteArray} {ini : Bool} {T : Nat → Instr}
variable {pc : Nat} {ls st : List Value} {n : Nat} {R : sm_R} {x : Nat} {G : sm_G} {L : sm_L}
variable {hd : Nat → Nat → Nat} {cn : sm_CN} {cx : sm_CX} {k : Nat → List Value → List Value → Nat → sm_R → Nat → sm_G → sm_L → Option sm_O} {w : sm_O}
theorem sm_pc {t : Int} (h : 0 ≤ t) : ∃ q : Nat, t = (q : Int) ∧ t.toNat = q := ⟨t.toNat, by omega, rfl⟩
theorem sm_tgt {t : Int} {pc : Nat} (h : 0 ≤ t) : (pc : Int) + (t - (pc : Int)) = ((t.toNat : Nat) : Int) := by omega
theorem sm_set_has {ρ : Nat → Nat} {rls : Array Slot} {i : Nat} {v : Value} (h : lv_has rls nL ((i, sm_cv ρ v) :: (sm_lv ρ 0 ls).filter (fun q => !(q.1 == i) && !(q.1 + 1 == i && q.2.category == 2)))) : lv_has rls nL (sm_lv ρ 0 (sm_set ls i v)) := sm_has_sub h (fun q hq => sm_set_mem q hq)
theorem sm_setl_has {ρ : Nat → Nat} {rls : Array Slot} {i : Nat} {v : Value} (h : lv_has rls nL ((i, sm_cv ρ v) :: (sm_lv ρ 0 ls).filter (fun q => !(q.1 == i) && (!(q.1 == i + 1) && !(q.1 + 1 == i && q.2.category == 2))))) : lv_has rls nL (sm_lv ρ 0 (sm_setl ls i v)) := sm_has_sub h (fun q hq => sm_setl_mem q hq)
theorem sm_one {i : Nat} {f : Int32 → List Value → Option sm_O} (h : sm_i1 [ls.getD i .null] f = some w) : ∃ a, ls.getD i .null = .int a ∧ f a [] = some w := by
  obtain ⟨a, r, h1, h2⟩ := sm_i1_spec h
  have h3 := List.cons.inj h1
  obtain ⟨h3, h4⟩ := h3
  subst h4
  exact ⟨a, h3, h2⟩
theorem sm_onel {i : Nat} {f : Int64 → List Value → Option sm_O} (h : sm_l1 [ls.getD i .null] f = some w) : ∃ a, ls.getD i .null = .long a ∧ f a [] = some w := by
  obtain ⟨a, r, h1, h2⟩ := sm_l1_spec h
  obtain ⟨h3, h4⟩ := List.cons.inj h1
  subst h4
  exact ⟨a, h3, h2⟩
theorem sm_oner {i : Nat} {f : Nat → List Value → Option sm_O} (h : sm_r1 [ls.getD i .null] f = some w) : ∃ a, ls.getD i .null = .ref a ∧ f a [] = some w := by
  obtain ⟨a, r, h1, h2⟩ := sm_r1_spec h
  obtain ⟨h3, h4⟩ := List.cons.inj h1
  subst h4
  exact ⟨a, h3, h2⟩
/-- the rows that don't touch the heap -/
def sm_go1 (i : Instr) : Bool := match i with
  | .iconst _ => true | .bipush _ => true | .sipush _ => true | .lconst _ => true
  | .iload _ => true | .iload_n _ => true | .lload _ => true | .lload_n _ => true | .aload _ => true | .aload_n _ => true
  | .istore _ => true | .istore_n _ => true | .lstore _ => true | .lstore_n _ => true | .astore _ => true | .astore_n _ => true | .iinc _ _ => true
  | .iadd => true | .isub => true | .imul => true | .iand => true | .ior => true | .ixor => true | .idiv => true | .irem => true | .ineg => true | .ishl => true | .ishr => true | .iushr => true
  | .ladd => true | .lsub => true | .lmul => true | .ldiv => true | .lrem => true | .lshl => true | .lshr => true | .lushr => true | .lcmp => true | .i2l => true | .l2i => true | .i2b => true
  | .dup => true | .pop => true | .dup2 => true | .goto _ => true | .ifCond _ _ => true | .if_icmp _ _ => true | .tableswitch _ _ _ _ => true | .lookupswitch _ _ => true
  | .ldc_w _ => true | .ldc2_w _ => true
  | _ => false
theorem sm_lsw_ok {off : Int → Option sm_O} {x : Int32} {d : Option sm_O} : ∀ (ps : List (Int × Int)), (∀ q ∈ ps, (-2147483648 : Int) ≤ q.1 ∧ q.1 < 2147483648) → ∀ (dd : Int), d = off dd → sm_lsw x d (ps.map fun q => (q.1, off q.2)) = off (Op.lookupswitch.offset ps dd x.toInt)
  | [], _, dd, h => by
    rw [h]; rfl
  | (v, t) :: r, hr, dd, h => by
    show (if x = Int32.ofInt v then off t else sm_lsw x d (r.map fun q => (q.1, off q.2))) = off (Op.lookupswitch.offset ((v, t) :: r) dd x.toInt)
    have hv := hr (v, t) List.mem_cons_self
    have e : x = Int32.ofInt v ↔ v = x.toInt := by
      have h1 : (Int32.ofInt v).toInt = v := Int32.toInt_ofInt_of_le (by simpa using hv.1) (by simpa using hv.2)
      constructor
      · intro q; rw [q, h1]
      · intro q; apply Int32.toInt_inj.mp; rw [h1, q]
    rw [Op.lookupswitch.offset_cons]
    by_cases q : v = x.toInt
    · rw [if_pos (e.mpr q), if_pos q]
    · rw [if_neg (fun z => q (e.mp z)), if_neg q]
      exact sm_lsw_ok r (fun q hq => hr q (List.mem_cons_of_mem _ hq)) dd h
theorem sm_sw_ok {x : Int32} {d : Option sm_O} : ∀ (l : List (Option sm_O)) (lo : Int), (-2147483648 : Int) ≤ lo → lo + l.length ≤ 2147483648 → (x.toInt < lo ∨ lo + l.length ≤ x.toInt → sm_sw x d lo l = d) ∧ (lo ≤ x.toInt → ∀ t, l[(x.toInt - lo).toNat]? = some t → sm_sw x d lo l = t)
  | [], lo, _, _ => ⟨fun _ => rfl, fun _ t h => by simp at h⟩
  | t :: r, lo, h1, h2 => by
    have h2' : lo + (r.length + 1 : Nat) ≤ 2147483648 := by simpa using h2
    have e : x = Int32.ofInt lo ↔ lo = x.toInt := by
      have h3 : (Int32.ofInt lo).toInt = lo := Int32.toInt_ofInt_of_le (by simpa using h1) (by simp; omega)
      constructor
      · intro q; rw [q, h3]
      · intro q; apply Int32.toInt_inj.mp; rw [h3, q]
    have ih := sm_sw_ok (x := x) (d := d) r (lo + 1) (by omega) (by omega)
    have e2 : sm_sw x d lo (t :: r) = if x = Int32.ofInt lo then t else sm_sw x d (lo + 1) r := rfl
    refine ⟨fun h => ?_, fun h u hu => ?_⟩
    · have hn : ¬ lo = x.toInt := by
        intro q
        rcases h with h | h
        · omega
        · simp at h; omega
      rw [e2, if_neg (fun z => hn (e.mp z))]
      apply ih.1
      rcases h with h | h
      · left; omega
      · simp at h
        by_cases q : x.toInt < lo + 1
        · left; exact q
        · right; omega
    · by_cases q : lo = x.toInt
      · rw [e2, if_pos (e.mpr q)]
        have : (x.toInt - lo).toNat = 0 := by omega
        rw [this] at hu
        simpa using hu
      · rw [e2, if_neg (fun z => q (e.mp z))]
        apply ih.2 (by omega)
        have : (x.toInt - lo).toNat = (x.toInt - (lo + 1)).toNat + 1 := by omega
        rw [this] at hu
        simpa using hu
end SMO
