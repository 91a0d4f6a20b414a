/-! what a program checks of each instruction -/
def sm_ceq (c d : Nat × Nat × Nat × Nat × Nat) : Bool := Nat.beq c.1 d.1 && Nat.beq c.2.1 d.2.1 && Nat.beq c.2.2.1 d.2.2.1 && Nat.beq c.2.2.2.1 d.2.2.2.1 && Nat.beq c.2.2.2.2 d.2.2.2.2
/-- a word at its place: 512 * list + place in it -/
def sm_tc (p : Nat) (c : Nat × Nat × Nat × Nat × Nat) : Bool := sm_ceq ((sm_wq (Nat.div p 512)).getD (Nat.mod p 512) (0, 0, 0, 0, 0)) c && Nat.ble 1 c.1
theorem sm_wok_get : ∀ (ws : List Cond) (l : List (Nat × Nat × Nat × Nat × Nat)) (i : Nat), sm_wok ws l → 1 ≤ (l.getD i (0, 0, 0, 0, 0)).1 → sm_Wd (l.getD i (0, 0, 0, 0, 0)) ∈ ws
  | _, [], i, _, h => by simp at h
  | [], _ :: _, _, h, _ => False.elim h
  | w :: ws, c :: l, 0, h, h2 => by
    have h2 : 1 ≤ c.1 := h2
    rcases h.1 with h3 | h3
    · rw [h3] at h2; exact absurd h2 (by decide)
    · show sm_Wd c ∈ w :: ws
      rw [← h3]
      exact List.mem_cons_self
  | w :: ws, c :: l, i + 1, h, h2 => List.mem_cons_of_mem _ (sm_wok_get ws l i h.2 h2)
theorem sm_tc_of {p : Nat} {c : Nat × Nat × Nat × Nat × Nat} (h : sm_tc p c = true) : sm_Wd c ∈ lw_tbl := by
  unfold sm_tc at h
  rw [Bool.and_eq_true] at h
  obtain ⟨h1, h2⟩ := h
  have e : (sm_wq (Nat.div p 512)).getD (Nat.mod p 512) (0, 0, 0, 0, 0) = c := by
    unfold sm_ceq at h1
    simp only [Bool.and_eq_true] at h1
    obtain ⟨⟨⟨⟨a1, a2⟩, a3⟩, a4⟩, a5⟩ := h1
    generalize (sm_wq (Nat.div p 512)).getD (Nat.mod p 512) (0, 0, 0, 0, 0) = z at a1 a2 a3 a4 a5 ⊢
    obtain ⟨z1, z2, z3, z4, z5⟩ := z
    obtain ⟨c1, c2, c3, c4, c5⟩ := c
    have a1 := Nat.eq_of_beq_eq_true a1
    have a2 := Nat.eq_of_beq_eq_true a2
    have a3 := Nat.eq_of_beq_eq_true a3
    have a4 := Nat.eq_of_beq_eq_true a4
    have a5 := Nat.eq_of_beq_eq_true a5
    simp only at a1 a2 a3 a4 a5
    rw [a1, a2, a3, a4, a5]
  obtain ⟨l, g1, g2⟩ := sm_wall (Nat.div p 512)
  have h3 := sm_wok_get l _ (Nat.mod p 512) g1 (by rw [e]; exact sm_ale h2)
  rw [e] at h3
  exact g2 _ h3
theorem sm_tb_m {w : Cond} (h : w ∈ lw_tbl) (hg : goodWord w = true) : w ∈ sm_tb := List.mem_filter.mpr ⟨h, hg⟩
theorem sm_vc_of {ci : Nat} {q : vw_C} (h : vwCl[ci]? = some q) : sm_vc ci = q := by
  unfold sm_vc
  rw [List.getD_eq_getElem?_getD, h]
  rfl
theorem sm_vnm : ∀ (ci : Nat) (q : vw_C), vwCl[ci]? = some q → sm_cln.getD ci "" = q.1 ∧ sm_cls ci = q.1
  | 0, _, h => by cases h; exact ⟨rfl, rfl⟩
  | 1, _, h => by cases h; exact ⟨rfl, rfl⟩
  | 2, _, h => by cases h; exact ⟨rfl, rfl⟩
  | 3, _, h => by cases h; exact ⟨rfl, rfl⟩
  | 4, _, h => by cases h; exact ⟨rfl, rfl⟩
  | 5, _, h => by cases h; exact ⟨rfl, rfl⟩
  | 6, _, h => by cases h; exact ⟨rfl, rfl⟩
  | 7, _, h => by cases h; exact ⟨rfl, rfl⟩
  | 8, _, h => by cases h; exact ⟨rfl, rfl⟩
  | 9, _, h => by cases h; exact ⟨rfl, rfl⟩
  | 10, _, h => by cases h; exact ⟨rfl, rfl⟩
  | 11, _, h => by cases h; exact ⟨rfl, rfl⟩
  | 12, _, h => by cases h; exact ⟨rfl, rfl⟩
  | _ + 13, _, h => by cases h
/-- a field's link: v is nest * 2^48 + place * 2^32 + entry * 65536 + slot * 256 + kind * 4 + sort -/
def sm_cf1 (o : Nat) (v : Nat) : Bool := match vwCl[Nat.mod (Nat.div v 4) 64]? with
  | some (_, _, N) => Nat.blt (Nat.mod (Nat.div v 256) 256) N && Nat.beq (sm_F (Nat.mod (Nat.div v 4) 64) (Nat.mod (Nat.div v 256) 256)) (Nat.mod v 4) &&
      bif Nat.beq (Nat.div v 281474976710656) 1 then sm_tc (Nat.mod (Nat.div v 4294967296) 65536) (2, o, Nat.mod (Nat.div v 65536) 65536, Nat.mod (Nat.div v 4) 64, Nat.mod (Nat.div v 256) 256)
      else sm_tc (Nat.mod (Nat.div v 4294967296) 65536) (1, o, Nat.mod (Nat.div v 65536) 65536, Nat.mod (Nat.div v 4) 64, Nat.mod (Nat.div v 256) 256)
  | none => false
/-- putfield: not final, or in the class's own constructor -/
def sm_cf2 (o : Nat) (ini : Bool) (v : Nat) : Bool := match vwCl[Nat.mod (Nat.div v 4) 64]? with
  | some (_, T, _) => bif (T (Nat.mod (Nat.div v 256) 256)).2.2.2 then ini && Nat.beq o (Nat.mod (Nat.div v 4) 64) && Nat.beq (Nat.div v 281474976710656) 0 else true
  | none => false
def sm_ci (o : Nat) (nL : Nat) (ini : Bool) (i : Instr) : Bool := match i with
  | .bipush v => decide ((Int8.ofInt v).toInt32 = Int32.ofInt v)
  | .sipush v => decide ((Int16.ofInt v).toInt32 = Int32.ofInt v)
  | .istore i => Nat.blt i nL
  | .istore_n i => Nat.blt i.val nL
  | .astore i => Nat.blt i nL
  | .astore_n i => Nat.blt i.val nL
  | .lstore i => Nat.blt (i + 1) nL
  | .lstore_n i => Nat.blt (i.val + 1) nL
  | .iinc i _ => Nat.blt i nL
  | .goto t => decide (0 ≤ t)
  | .ifCond _ t => decide (0 ≤ t)
  | .if_icmp _ t => decide (0 ≤ t)
  | .tableswitch d lo hi ts => decide (0 ≤ d) && ts.toList.all (fun t => decide (0 ≤ t)) && decide (lo + ts.size = hi + 1) && decide (-2147483648 ≤ lo) && decide (hi < 2147483648)
  | .lookupswitch d ps => decide (0 ≤ d) && ps.toList.all (fun q => decide (0 ≤ q.2) && decide (-2147483648 ≤ q.1) && decide (q.1 < 2147483648)) && (ps.toList.zip (ps.toList.drop 1)).all (fun (a, next) => decide (a.1 < next.1))
  | .ldc v => bif Nat.beq (Nat.mod (Nat.div v 8589934592) 2) 1 then sm_tc (Nat.div v 1125899906842624) (12, o, Nat.mod (Nat.div v 17179869184) 65536, Nat.mod v 8589934592, 0) && Nat.blt (Nat.mod v 8589934592) sm_txts.length
      else sm_tc (Nat.div v 1125899906842624) (10, o, Nat.mod (Nat.div v 17179869184) 65536, Nat.mod v 8589934592, 0)
  | .ldc_w v => sm_tc (Nat.div v 1125899906842624) (10, o, Nat.mod (Nat.div v 17179869184) 65536, Nat.mod v 8589934592, 0)
  | .ldc2_w v => sm_tc (Nat.div v 2417851639229258349412352) (11, o, Nat.mod (Nat.div v 36893488147419103232) 65536, Nat.mod v 36893488147419103232, 0)
  | .getfield v => sm_cf1 o v
  | .putfield v => sm_cf1 o v && sm_cf2 o ini v
  | .new v => bif Nat.ble 40 (Nat.mod v 256) then true else sm_tc (Nat.div v 16777216) (5, o, Nat.mod (Nat.div v 256) 65536, Nat.mod v 256, 0) && Nat.blt (Nat.mod v 256) 13
  | .newarray t => (match t with
    | .int => true
    | .byte => true
    | .boolean => true
    | .long => true
    | _ => false)
  | .anewarray v => bif Nat.beq (Nat.mod v 256) 25 then sm_tc (Nat.div v 16777216) (5, o, Nat.mod (Nat.div v 256) 65536, 10, 0)
      else bif Nat.beq (Nat.mod v 256) 26 then sm_tc (Nat.div v 16777216) (5, o, Nat.mod (Nat.div v 256) 65536, 3, 0)
      else bif Nat.beq (Nat.mod v 256) 27 then sm_tc (Nat.div v 16777216) (5, o, Nat.mod (Nat.div v 256) 65536, 7, 0) else false
  | .multianewarray v d => sm_tc (Nat.div v 65536) (5, o, Nat.mod v 65536, 13, 0) && Nat.beq d 2
  | .invokespecial v => bif Nat.beq (Nat.mod v 1024) 1023 then sm_tc (Nat.mod (Nat.div v 4294967296) 65536) (14, o, Nat.mod (Nat.div v 65536) 65536, 0, 0) else true
  | _ => true
/-- an instruction of our tables stands in the code, and is linked as we say -/
def sm_chk (o : Nat) (nL : Nat) (cc : ByteArray) (ini : Bool) (pc : Nat) (i : Instr) : Prop := i = .nop ∨ (decode cc pc = .ok (sm_real i pc) ∧ sm_ci o nL ini i = true)
theorem sm_chk_of {o nL : Nat} {cc : ByteArray} {ini : Bool} {T : Nat → Instr} {pc : Nat} {i : Instr} (h : ∀ pc, sm_chk o nL cc ini pc (T pc)) (hT : T pc = i) (hn : i ≠ .nop) : decode cc pc = .ok (sm_real i pc) ∧ sm_ci o nL ini i = true := by
  rcases h pc with h | h
  · exact absurd (hT.symm.trans h) hn
  · rw [hT] at h; exact h
theorem sm_fok_v {o : Nat} {v : Nat} (h : sm_cf1 o v = true) : sm_fok (sm_cls o) (Nat.mod (Nat.div v 65536) 65536) (Nat.mod (Nat.div v 4) 64) (Nat.mod (Nat.div v 256) 256) ∧ sm_F (Nat.mod (Nat.div v 4) 64) (Nat.mod (Nat.div v 256) 256) = Nat.mod v 4 := by
  unfold sm_cf1 at h
  split at h
  · next C T N hq =>
    rw [Bool.and_eq_true, Bool.and_eq_true] at h
    obtain ⟨⟨h1, h2⟩, h3⟩ := h
    have hvc := sm_vc_of hq
    refine ⟨⟨C, T, N, hq, by unfold Nat.blt at h1; exact Nat.le_of_ble_eq_true h1, ?_⟩, Nat.eq_of_beq_eq_true h2⟩
    cases hb : Nat.beq (Nat.div v 281474976710656) 1 with
    | true =>
      rw [hb] at h3
      have h4 : Cond.fieldLinkNest (sm_cls o) (Nat.mod (Nat.div v 65536) 65536) (sm_vc (Nat.mod (Nat.div v 4) 64)).1 ((sm_vc (Nat.mod (Nat.div v 4) 64)).2.1 (Nat.mod (Nat.div v 256) 256)).2.1 ((sm_vc (Nat.mod (Nat.div v 4) 64)).2.1 (Nat.mod (Nat.div v 256) 256)).2.2.1 "StreetDreams" ∈ lw_tbl := sm_tc_of h3
      rw [hvc] at h4
      exact Or.inr h4
    | false =>
      rw [hb] at h3
      have h4 : Cond.fieldLink (sm_cls o) (Nat.mod (Nat.div v 65536) 65536) (sm_vc (Nat.mod (Nat.div v 4) 64)).1 ((sm_vc (Nat.mod (Nat.div v 4) 64)).2.1 (Nat.mod (Nat.div v 256) 256)).2.1 ((sm_vc (Nat.mod (Nat.div v 4) 64)).2.1 (Nat.mod (Nat.div v 256) 256)).2.2.1 ∈ lw_tbl := sm_tc_of h3
      rw [hvc] at h4
      exact Or.inl (sm_tb_m h4 rfl)
  · cases h
theorem sm_ffin {o : Nat} {ini : Bool} {v : Nat} (h1 : sm_cf1 o v = true) (h : sm_cf2 o ini v = true) {meth : Method} (hm : ini = true → meth.name = "<init>") : (∀ C T N, vwCl[Nat.mod (Nat.div v 4) 64]? = some (C, T, N) → (T (Nat.mod (Nat.div v 256) 256)).2.2.2 = false) ∨ (meth.name = "<init>" ∧ (∀ C T N, vwCl[Nat.mod (Nat.div v 4) 64]? = some (C, T, N) → (T (Nat.mod (Nat.div v 256) 256)).2.2.2 = true ∧ C = sm_cls o ∧ Cond.fieldLink (sm_cls o) (Nat.mod (Nat.div v 65536) 65536) C (T (Nat.mod (Nat.div v 256) 256)).2.1 (T (Nat.mod (Nat.div v 256) 256)).2.2.1 ∈ sm_tb)) := by
  unfold sm_cf2 at h
  split at h
  · next C T N hq =>
    cases hf : (T (Nat.mod (Nat.div v 256) 256)).2.2.2 with
    | false =>
      left
      intro C1 T1 N1 h1
      rw [hq] at h1
      cases h1
      exact hf
    | true =>
      right
      rw [hf] at h
      simp only [cond_true, Bool.and_eq_true] at h
      refine ⟨hm h.1.1, fun C1 T1 N1 h2 => ?_⟩
      rw [hq] at h2
      cases h2
      have hoe := Nat.eq_of_beq_eq_true h.1.2
      refine ⟨hf, by rw [hoe]; exact ((sm_vnm _ _ hq).2).symm, ?_⟩
      have hvc := sm_vc_of hq
      unfold sm_cf1 at h1
      rw [hq] at h1
      simp only [Bool.and_eq_true] at h1
      have h3 := h1.2
      have h4 : Nat.beq (Nat.div v 281474976710656) 1 = false := by
        have := Nat.eq_of_beq_eq_true h.2
        rw [this]; rfl
      rw [h4] at h3
      have h5 : Cond.fieldLink (sm_cls o) (Nat.mod (Nat.div v 65536) 65536) (sm_vc (Nat.mod (Nat.div v 4) 64)).1 ((sm_vc (Nat.mod (Nat.div v 4) 64)).2.1 (Nat.mod (Nat.div v 256) 256)).2.1 ((sm_vc (Nat.mod (Nat.div v 4) 64)).2.1 (Nat.mod (Nat.div v 256) 256)).2.2.1 ∈ lw_tbl := sm_tc_of h3
      rw [hvc] at h5
      exact sm_tb_m h5 rfl
  · cases h
