/-! the small machine's instructions are the machine's -/
/-- the instruction as it stands in the code, and its length -/
def sm_real (i : Instr) (pc : Nat) : Instr × Nat := match i with
  | .iconst v => (.iconst v, 1)
  | .bipush v => (.bipush v, 2)
  | .sipush v => (.sipush v, 3)
  | .ldc v => (.ldc (Nat.mod (Nat.div v 17179869184) 65536), 2)
  | .ldc_w v => (.ldc_w (Nat.mod (Nat.div v 17179869184) 65536), 3)
  | .ldc2_w v => (.ldc2_w (Nat.mod (Nat.div v 36893488147419103232) 65536), 3)
  | .lconst v => (.lconst v, 1)
  | .iload i => (.iload i, 2)
  | .iload_n i => (.iload_n i, 1)
  | .lload i => (.lload i, 2)
  | .lload_n i => (.lload_n i, 1)
  | .aload i => (.aload i, 2)
  | .aload_n i => (.aload_n i, 1)
  | .istore i => (.istore i, 2)
  | .istore_n i => (.istore_n i, 1)
  | .lstore i => (.lstore i, 2)
  | .lstore_n i => (.lstore_n i, 1)
  | .astore i => (.astore i, 2)
  | .astore_n i => (.astore_n i, 1)
  | .iinc i v => (.iinc i v, 3)
  | .goto t => (.goto (t - pc), 3)
  | .ifCond cd t => (.ifCond cd (t - pc), 3)
  | .if_icmp cd t => (.if_icmp cd (t - pc), 3)
  | .tableswitch d lo hi ts => (.tableswitch (d - pc) lo hi (ts.map fun t => t - pc), 16 - pc % 4 + 4 * ts.size)
  | .lookupswitch d ps => (.lookupswitch (d - pc) (ps.map fun q => (q.1, q.2 - pc)), 12 - pc % 4 + 8 * ps.size)
  | .getfield v => (.getfield (Nat.mod (Nat.div v 65536) 65536), 3)
  | .putfield v => (.putfield (Nat.mod (Nat.div v 65536) 65536), 3)
  | .new v => (.new (Nat.mod (Nat.div v 256) 65536), 3)
  | .newarray t => (.newarray t, 2)
  | .anewarray v => (.anewarray (Nat.mod (Nat.div v 256) 65536), 3)
  | .multianewarray v d => (.multianewarray (Nat.mod v 65536) d, 4)
  | .invokevirtual v => (.invokevirtual (Nat.mod (Nat.div v 65536) 65536), 3)
  | .invokespecial v => (.invokespecial (Nat.mod (Nat.div v 65536) 65536), 3)
  | .invokestatic v => (.invokestatic (Nat.mod (Nat.div v 65536) 65536), 3)
  | .freturn => (.ireturn, 1)
  | i => (i, 1)
/-- cells and their places up to n -/
def sm_pre : Nat → Nat
  | 0 => 0
  | n + 1 => sm_pre n + sm_N (n + 1)
theorem sm_pre_mono {a b : Nat} (h : a ≤ b) : sm_pre a ≤ sm_pre b := by
  induction b with
  | zero => have : a = 0 := by omega
            subst this; exact Nat.le_refl _
  | succ b ih =>
    by_cases e : a = b + 1
    · subst e; exact Nat.le_refl _
    · exact Nat.le_trans (ih (by omega)) (Nat.le_add_right _ _)
theorem sm_i1_spec {β : Type} {st : List Value} {f : Int32 → List Value → Option β} {o : β} (h : sm_i1 st f = some o) : ∃ a r, st = .int a :: r ∧ f a r = some o := by
  unfold sm_i1 at h
  split at h
  · exact ⟨_, _, rfl, h⟩
  · cases h
theorem sm_i2_spec {β : Type} {st : List Value} {f : Int32 → Int32 → List Value → Option β} {o : β} (h : sm_i2 st f = some o) : ∃ a b r, st = .int b :: .int a :: r ∧ f a b r = some o := by
  unfold sm_i2 at h
  split at h
  · exact ⟨_, _, _, rfl, h⟩
  · cases h
theorem sm_l1_spec {β : Type} {st : List Value} {f : Int64 → List Value → Option β} {o : β} (h : sm_l1 st f = some o) : ∃ a r, st = .long a :: r ∧ f a r = some o := by
  unfold sm_l1 at h
  split at h
  · exact ⟨_, _, rfl, h⟩
  · cases h
theorem sm_l2_spec {β : Type} {st : List Value} {f : Int64 → Int64 → List Value → Option β} {o : β} (h : sm_l2 st f = some o) : ∃ a b r, st = .long b :: .long a :: r ∧ f a b r = some o := by
  unfold sm_l2 at h
  split at h
  · exact ⟨_, _, _, rfl, h⟩
  · cases h
theorem sm_li_spec {β : Type} {st : List Value} {f : Int64 → Int32 → List Value → Option β} {o : β} (h : sm_li st f = some o) : ∃ a b r, st = .int b :: .long a :: r ∧ f a b r = some o := by
  unfold sm_li at h
  split at h
  · exact ⟨_, _, _, rfl, h⟩
  · cases h
theorem sm_r1_spec {β : Type} {st : List Value} {f : Nat → List Value → Option β} {o : β} (h : sm_r1 st f = some o) : ∃ a r, st = .ref a :: r ∧ f a r = some o := by
  unfold sm_r1 at h
  split at h
  · exact ⟨_, _, rfl, h⟩
  · cases h
theorem sm_ri_spec {β : Type} {st : List Value} {f : Nat → Int32 → List Value → Option β} {o : β} (h : sm_ri st f = some o) : ∃ a i r, st = .int i :: .ref a :: r ∧ f a i r = some o := by
  unfold sm_ri at h
  split at h
  · exact ⟨_, _, _, rfl, h⟩
  · cases h
theorem sm_rii_spec {β : Type} {st : List Value} {f : Nat → Int32 → Int32 → List Value → Option β} {o : β} (h : sm_rii st f = some o) : ∃ a i v r, st = .int v :: .int i :: .ref a :: r ∧ f a i v r = some o := by
  unfold sm_rii at h
  split at h
  · exact ⟨_, _, _, _, rfl, h⟩
  · cases h
theorem sm_ril_spec {β : Type} {st : List Value} {f : Nat → Int32 → Int64 → List Value → Option β} {o : β} (h : sm_ril st f = some o) : ∃ a i v r, st = .long v :: .int i :: .ref a :: r ∧ f a i v r = some o := by
  unfold sm_ril at h
  split at h
  · exact ⟨_, _, _, _, rfl, h⟩
  · cases h
theorem sm_rir_spec {β : Type} {st : List Value} {f : Nat → Int32 → Nat → List Value → Option β} {o : β} (h : sm_rir st f = some o) : ∃ a i v r, st = .ref v :: .int i :: .ref a :: r ∧ f a i v r = some o := by
  unfold sm_rir at h
  split at h
  · exact ⟨_, _, _, _, rfl, h⟩
  · cases h
theorem sm_bif {β : Type} {b : Bool} {f : Option β} {o : β} (h : (bif b then f else none) = some o) : b = true ∧ f = some o := by
  cases b with
  | true => exact ⟨rfl, h⟩
  | false => cases h
/-- the world between two instructions of a method that began in s with the cells up to n0 at ρ0 -/
def sm_V (D : va_G) (tc : Nat → ClassId) (B : Nat) (ρ0 : Nat → Nat) (Z : sm_G) (n0 : Nat) (s : State) (ρ : Nat → Nat) (n : Nat) (R : sm_R) (G : sm_G) (L : sm_L) (H : Heap) (locs : List Loc) : Prop :=
  va_P D vwCl (sm_ws tc ρ n R G L) H ∧ va_D (fun q => B ≤ q) (sm_ws tc ρ n R G L) ∧ va_S (fun q => B ≤ q) s.heap H locs ∧ (∀ r, r ≤ n0 ∨ n < r → ρ r = ρ0 r) ∧ (∀ r k, R r k ≤ n) ∧ n ≤ 342 ∧ G 8191 = Z 8191 ∧ G 8190 = Z 8190
section SMS
variable (p : Program) (l : Launch) (e : Env) (Rm : Room) (s : State) (m : MethodId) (args : Array Value) (below : List Frame) (meth : Method) (c : Code) (Q : State → Prop)
variable (D : va_G) (tc : Nat → ClassId) (B : Nat) (ρ0 : Nat → Nat) (Z : sm_G) (nL n0 x0 nf xf : Nat)
def sm_Cl (pc : Nat) (ls st : List Value) (n : Nat) (R : sm_R) (x : Nat) (G : sm_G) (L : sm_L) : Prop :=
  (n ≤ nf ∧ x ≤ xf) ∧ (n0 ≤ n → x0 ≤ x → ∀ (ρ : Nat → Nat) (H : Heap) (locs : List Loc) (rls : Array Slot), sm_V D tc B ρ0 Z n0 s ρ n R G L H locs → lv_has rls nL (sm_lv ρ 0 ls) →
    W p l e Rm s m args below meth c H locs (n - n0 + (x - x0)) (sm_pre n - sm_pre n0 + 6 * (x - x0)) Q (F0 m pc rls (st.map (sm_cv ρ))))
end SMS
section SMR
variable {p : Program} {l : Launch} {e : Env} {Rm : Room} {s : State} {m : MethodId} {args : Array Value} {below : List Frame} {meth : Method} {c : Code} {Q : State → Prop}
variable {D : va_G} {tc : Nat → ClassId} {B : Nat} {ρ0 : Nat → Nat} {Z : sm_G} {nL n0 x0 nf xf : Nat}
variable {pc pc' : Nat} {ls ls' st st' : List Value} {n : Nat} {R : sm_R} {x : Nat} {G : sm_G} {L : sm_L} {cc : ByteArray}
/-- nothing but the frame changes -/
theorem sm_go (hk : sm_Cl p l e Rm s m args below meth c Q D tc B ρ0 Z nL n0 x0 nf xf pc' ls st' n R x G L)
    (row : ∀ (ρ : Nat → Nat) (H : Heap) (locs : List Loc) (cells slots : Nat) (rls : Array Slot), lv_has rls nL (sm_lv ρ 0 ls) → W p l e Rm s m args below meth c H locs cells slots Q (F0 m pc' rls (st'.map (sm_cv ρ))) → W p l e Rm s m args below meth c H locs cells slots Q (F0 m pc rls (st.map (sm_cv ρ)))) :
    sm_Cl p l e Rm s m args below meth c Q D tc B ρ0 Z nL n0 x0 nf xf pc ls st n R x G L :=
  ⟨hk.1, fun h0 h1 ρ H locs rls hV hl => row ρ H locs _ _ rls hl (hk.2 h0 h1 ρ H locs rls hV hl)⟩
/-- two ways on -/
theorem sm_br {P : Prop} [Decidable P] {f g : Option sm_O} {o : sm_O} (h : (if P then f else g) = some o) {pa pb : Nat} 
    (hf : f = some o → sm_Cl p l e Rm s m args below meth c Q D tc B ρ0 Z nL n0 x0 nf xf pa ls st' n R x G L) (hg : g = some o → sm_Cl p l e Rm s m args below meth c Q D tc B ρ0 Z nL n0 x0 nf xf pb ls st' n R x G L)
    (row : ∀ (ρ : Nat → Nat) (H : Heap) (locs : List Loc) (cells slots : Nat) (rls : Array Slot), (P → W p l e Rm s m args below meth c H locs cells slots Q (F0 m pa rls (st'.map (sm_cv ρ)))) → (¬ P → W p l e Rm s m args below meth c H locs cells slots Q (F0 m pb rls (st'.map (sm_cv ρ)))) → W p l e Rm s m args below meth c H locs cells slots Q (F0 m pc rls (st.map (sm_cv ρ)))) :
    sm_Cl p l e Rm s m args below meth c Q D tc B ρ0 Z nL n0 x0 nf xf pc ls st n R x G L := by
  by_cases hP : P
  · rw [if_pos hP] at h
    have hk := hf h
    exact ⟨hk.1, fun h0 h1 ρ H locs rls hV hl => row ρ H locs _ _ rls (fun _ => hk.2 h0 h1 ρ H locs rls hV hl) (fun q => absurd hP q)⟩
  · rw [if_neg hP] at h
    have hk := hg h
    exact ⟨hk.1, fun h0 h1 ρ H locs rls hV hl => row ρ H locs _ _ rls (fun q => absurd q hP) (fun _ => hk.2 h0 h1 ρ H locs rls hV hl)⟩
/-- one of the locals changes -/
theorem sm_st (hk : sm_Cl p l e Rm s m args below meth c Q D tc B ρ0 Z nL n0 x0 nf xf pc' ls' st' n R x G L)
    (row : ∀ (ρ : Nat → Nat) (H : Heap) (locs : List Loc) (cells slots : Nat) (rls : Array Slot), lv_has rls nL (sm_lv ρ 0 ls) → (∀ rls' : Array Slot, lv_has rls' nL (sm_lv ρ 0 ls') → W p l e Rm s m args below meth c H locs cells slots Q (F0 m pc' rls' (st'.map (sm_cv ρ)))) → W p l e Rm s m args below meth c H locs cells slots Q (F0 m pc rls (st.map (sm_cv ρ)))) :
    sm_Cl p l e Rm s m args below meth c Q D tc B ρ0 Z nL n0 x0 nf xf pc ls st n R x G L :=
  ⟨hk.1, fun h0 h1 ρ H locs rls hV hl => row ρ H locs _ _ rls hl (fun rls' hl' => hk.2 h0 h1 ρ H locs rls' hV hl')⟩
end SMR
theorem sm_cv_cat (ρ : Nat → Nat) (v : Value) : (sm_cv ρ v).category = v.category := by
  cases v with
  | ref r =>
    unfold sm_cv
    cases h : Nat.beq r 0 <;> simp [h, Value.category]
  | _ => rfl
theorem sm_set_mem {ρ : Nat → Nat} {ls : List Value} {i : Nat} {v : Value} : ∀ q ∈ sm_lv ρ 0 (sm_set ls i v), q ∈ (i, sm_cv ρ v) :: (sm_lv ρ 0 ls).filter (fun q => !(q.1 == i) && !(q.1 + 1 == i && q.2.category == 2)) := by
  intro q hq
  obtain ⟨k, u, h1, h2, rfl⟩ := (sm_lv_mem _ 0).mp hq
  rw [Nat.zero_add]
  by_cases hki : k = i
  · subst hki
    have : u = v := by
      unfold sm_set at h1
      cases k with
      | zero =>
        simp only [List.getElem?_set] at h1
        split at h1 <;> simp_all
      | succ k =>
        simp only at h1
        split at h1 <;> simp only [List.getElem?_set] at h1 <;> split at h1 <;> simp_all
    rw [this]
    exact List.mem_cons_self
  · refine List.mem_cons_of_mem _ (List.mem_filter.mpr ⟨?_, ?_⟩)
    · refine (sm_lv_mem _ 0).mpr ⟨k, u, ?_, h2, by simp⟩
      unfold sm_set at h1
      cases i with
      | zero => simpa [List.getElem?_set, Ne.symm hki] using h1
      | succ i =>
        simp only at h1
        split at h1 <;> simp only [List.getElem?_set, Ne.symm hki, if_false] at h1 <;> try exact h1
        all_goals
          split at h1
          · split at h1
            · exact absurd (Option.some.inj h1).symm h2
            · cases h1
          · exact h1
    · have e1 : (k == i) = false := by simpa using hki
      rw [e1]
      simp only [Bool.not_false, Bool.true_and, Bool.not_eq_true', Bool.and_eq_false_iff]
      by_cases e2 : k + 1 = i
      · right
        subst e2
        unfold sm_set at h1
        simp only at h1
        have hcat : ∀ w : Value, w.category = 2 → (∃ a, w = .long a) ∨ ∃ a, w = .double a := by
          intro w hw
          cases w <;> simp [Value.category] at hw <;> simp
        have hg : ∀ w, u = w → ((∃ a, w = .long a) ∨ ∃ a, w = .double a) → False := by
          intro w hw h3
          subst hw
          split at h1
          · rw [List.getElem?_set, if_neg (by omega), List.getElem?_set, if_pos rfl] at h1
            split at h1
            · exact h2 (Option.some.inj h1).symm
            · cases h1
          · rw [List.getElem?_set, if_neg (by omega), List.getElem?_set, if_pos rfl] at h1
            split at h1
            · exact h2 (Option.some.inj h1).symm
            · cases h1
          · next g1 g2 =>
            rw [List.getElem?_set, if_neg (by omega)] at h1
            have h4 : ls.getD k .null = u := by rw [List.getD_eq_getElem?_getD, h1]; rfl
            rcases h3 with ⟨a, ha⟩ | ⟨a, ha⟩
            · exact g1 a (h4.trans ha)
            · exact g2 a (h4.trans ha)
        cases hc : ((sm_cv ρ u).category == 2) with
        | false => rfl
        | true =>
          exfalso
          have hc2 : u.category = 2 := by rw [← sm_cv_cat ρ u]; simpa using hc
          exact hg u rfl (hcat u hc2)
      · left
        simpa using e2
theorem sm_setl_mem {ρ : Nat → Nat} {ls : List Value} {i : Nat} {v : Value} : ∀ q ∈ sm_lv ρ 0 (sm_setl ls i v), q ∈ (i, sm_cv ρ v) :: (sm_lv ρ 0 ls).filter (fun q => !(q.1 == i) && (!(q.1 == i + 1) && !(q.1 + 1 == i && q.2.category == 2))) := by
  intro q hq
  obtain ⟨k, u, h1, h2, rfl⟩ := (sm_lv_mem _ 0).mp hq
  unfold sm_setl at h1
  rw [List.getElem?_set] at h1
  by_cases hk : i + 1 = k
  · rw [if_pos hk] at h1
    split at h1
    · exact absurd (Option.some.inj h1).symm h2
    · cases h1
  · rw [if_neg hk] at h1
    have h3 := sm_set_mem (ρ := ρ) (0 + k, sm_cv ρ u) ((sm_lv_mem _ 0).mpr ⟨k, u, h1, h2, rfl⟩)
    rcases List.mem_cons.mp h3 with h4 | h4
    · rw [h4]; exact List.mem_cons_self
    · obtain ⟨h5, h6⟩ := List.mem_filter.mp h4
      refine List.mem_cons_of_mem _ (List.mem_filter.mpr ⟨h5, ?_⟩)
      simp only [Bool.and_eq_true] at h6 ⊢
      refine ⟨h6.1, ?_, h6.2⟩
      simp
      omega
theorem sm_del_mem {ρ : Nat → Nat} {ls : List Value} {i : Nat} : ∀ q ∈ sm_lv ρ 0 (ls.set i .null), q ∈ sm_lv ρ 0 ls ∧ q.1 ≠ i := by
  intro q hq
  obtain ⟨k, u, h1, h2, rfl⟩ := (sm_lv_mem _ 0).mp hq
  rw [List.getElem?_set] at h1
  by_cases hk : i = k
  · rw [if_pos hk] at h1
    split at h1
    · exact absurd (Option.some.inj h1).symm h2
    · cases h1
  · rw [if_neg hk] at h1
    exact ⟨(sm_lv_mem _ 0).mpr ⟨k, u, h1, h2, rfl⟩, by simp; omega⟩
theorem sm_nle {a b : Int32} : ¬ a < b ↔ b ≤ a := by rw [Int32.lt_iff_toInt_lt, Int32.le_iff_toInt_le]; omega
theorem sm_nlt {a b : Int32} : ¬ a ≤ b ↔ b < a := by rw [Int32.lt_iff_toInt_lt, Int32.le_iff_toInt_le]; omega
theorem sm_tg {t : Int} {pc : Nat} (h : 0 ≤ t) : (pc : Int) + (t - pc) = (t.toNat : Int) := by omega
/-- the good words of the tables -/
def sm_tb : List Cond := lw_tbl.filter goodWord
theorem sm_tb_in {w : Cond} {i : Nat} (h : lw_tbl[i]? = some w) (hg : goodWord w = true) : w ∈ sm_tb := List.mem_filter.mpr ⟨List.mem_of_getElem? h, hg⟩
theorem sm_tb_in1 {w : Cond} {i : Nat} (h : tables_1[i]? = some w) (hg : goodWord w = true) : w ∈ sm_tb := List.mem_filter.mpr ⟨List.mem_append_right _ (List.mem_of_getElem? h), hg⟩
/-- words that are not good but hold as the tables warm up -/
def sm_nzw : Cond → Bool
  | .fieldLinkNest .. => true
  | .methodLinkNest .. => true
  | .castable .. => true
  | .declares _ => true
  | _ => false
def sm_nz (U : State) : Prop := ∀ w ∈ lw_tbl, sm_nzw w = true → va_Nw w U
theorem sm_nz.warm {s U : State} (hW : s.WarmedH U.vm) (h : sm_nz s) : sm_nz U := by
  intro w hw hz
  have h1 := h w hw hz
  cases w <;> simp [sm_nzw] at hz
  · exact va_Nw.warmM hW h1
  · exact va_Nw.warmF hW h1
  · exact va_Nw.warmD hW h1
  · exact va_Nw.warmC hW h1
