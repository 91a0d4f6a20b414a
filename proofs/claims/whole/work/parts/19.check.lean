/-! what a program checks of each instruction -/
def sm_cls (o : Nat) : String := sm_cl0.getD o ""
/-- a word at its place among the tables -/
def sm_tw (p : Nat) (w : Cond) : Bool := decide (tables_1[p]? = some w)
/-- a field's link: v is nest * 2^48 + place * 2^32 + entry * 65536 + slot * 256 + kind * 4 + sort -/
def sm_cf1 (own : String) (v : Nat) : Bool := match vwCl[Nat.mod (Nat.div v 4) 64]? with
  | some (C, T, N) => Nat.blt (Nat.mod (Nat.div v 256) 256) N && Nat.beq (sm_F (Nat.mod (Nat.div v 4) 64) (Nat.mod (Nat.div v 256) 256)) (Nat.mod v 4) &&
      bif Nat.beq (Nat.div v 281474976710656) 1 then sm_tw (Nat.mod (Nat.div v 4294967296) 65536) (.fieldLinkNest own (Nat.mod (Nat.div v 65536) 65536) C (T (Nat.mod (Nat.div v 256) 256)).2.1 (T (Nat.mod (Nat.div v 256) 256)).2.2.1 "StreetDreams")
      else sm_tw (Nat.mod (Nat.div v 4294967296) 65536) (.fieldLink own (Nat.mod (Nat.div v 65536) 65536) C (T (Nat.mod (Nat.div v 256) 256)).2.1 (T (Nat.mod (Nat.div v 256) 256)).2.2.1)
  | none => false
/-- putfield: not final, or in the class's own constructor -/
def sm_cf2 (own : String) (ini : Bool) (v : Nat) : Bool := match vwCl[Nat.mod (Nat.div v 4) 64]? with
  | some (C, T, _) => bif (T (Nat.mod (Nat.div v 256) 256)).2.2.2 then ini && decide (C = own) && Nat.beq (Nat.div v 281474976710656) 0 else true
  | none => false
def sm_ci (o : Nat) (nL : Nat) (ini : Bool) (i : Instr) : Bool := match i with
  | .bipush v => decide ((Int8.ofInt v).toInt32 = Int32.ofInt v)
  | .sipush v => decide ((Int16.ofInt v).toInt32 = Int32.ofInt v)
  | .istore i => Nat.blt i nL
  | .istore_n i => Nat.blt i.val nL
  | .astore i => Nat.blt i nL
  | .astore_n i => Nat.blt i.val nL
  | .lstore i => Nat.blt (i + 1) nL
  | .lstore_n i => Nat.blt (i.val + 1) nL
  | .iinc i _ => Nat.blt i nL
  | .goto t => decide (0 ≤ t)
  | .ifCond _ t => decide (0 ≤ t)
  | .if_icmp _ t => decide (0 ≤ t)
  | .tableswitch d lo hi ts => decide (0 ≤ d) && ts.toList.all (fun t => decide (0 ≤ t)) && decide (lo + ts.size = hi + 1) && decide (-2147483648 ≤ lo) && decide (hi < 2147483648)
  | .lookupswitch d ps => decide (0 ≤ d) && ps.toList.all (fun q => decide (0 ≤ q.2) && decide (-2147483648 ≤ q.1) && decide (q.1 < 2147483648)) && (ps.toList.zip (ps.toList.drop 1)).all (fun (a, next) => decide (a.1 < next.1))
  | .ldc v => bif Nat.beq (Nat.mod (Nat.div v 8589934592) 2) 1 then sm_tw (Nat.div v 1125899906842624) (.stringRef (sm_cls o) (Nat.mod (Nat.div v 17179869184) 65536) (sm_txts.getD (Nat.mod v 8589934592) "")) && Nat.blt (Nat.mod v 8589934592) sm_txts.length
      else sm_tw (Nat.div v 1125899906842624) (.constant (sm_cls o) (Nat.mod (Nat.div v 17179869184) 65536) (Int32.ofInt (Int.sub (Nat.mod v 8589934592) 2147483648)))
  | .ldc_w v => sm_tw (Nat.div v 1125899906842624) (.constant (sm_cls o) (Nat.mod (Nat.div v 17179869184) 65536) (Int32.ofInt (Int.sub (Nat.mod v 8589934592) 2147483648)))
  | .ldc2_w v => sm_tw (Nat.div v 2417851639229258349412352) (.constantLong (sm_cls o) (Nat.mod (Nat.div v 36893488147419103232) 65536) (Int64.ofInt (Int.sub (Nat.mod v 36893488147419103232) 9223372036854775808)))
  | .getfield v => sm_cf1 (sm_cls o) v
  | .putfield v => sm_cf1 (sm_cls o) v && sm_cf2 (sm_cls o) ini v
  | .new v => bif Nat.ble 40 (Nat.mod v 256) then true else (match vwCl[Nat.mod v 256]? with
    | some (C, _, _) => sm_tw (Nat.div v 16777216) (.classLink (sm_cls o) (Nat.mod (Nat.div v 256) 65536) C)
    | none => false)
  | .newarray t => (match t with
    | .int => true
    | .byte => true
    | .boolean => true
    | .long => true
    | _ => false)
  | .anewarray v => bif Nat.beq (Nat.mod v 256) 25 then sm_tw (Nat.div v 16777216) (.classLink (sm_cls o) (Nat.mod (Nat.div v 256) 65536) RX10)
      else bif Nat.beq (Nat.mod v 256) 26 then sm_tw (Nat.div v 16777216) (.classLink (sm_cls o) (Nat.mod (Nat.div v 256) 65536) RX3)
      else bif Nat.beq (Nat.mod v 256) 27 then sm_tw (Nat.div v 16777216) (.classLink (sm_cls o) (Nat.mod (Nat.div v 256) 65536) RX7) else false
  | .multianewarray v d => sm_tw (Nat.div v 65536) (.classLink (sm_cls o) (Nat.mod v 65536) "[[I") && Nat.beq d 2
  | .invokespecial v => bif Nat.beq (Nat.mod v 1024) 1023 then sm_tw (Nat.mod (Nat.div v 4294967296) 65536) (.methodLink (sm_cls o) (Nat.mod (Nat.div v 65536) 65536) Lib.objectInit) else true
  | _ => true
/-- an instruction of our tables stands in the code, and is linked as we say -/
def sm_chk (o : Nat) (nL : Nat) (cc : ByteArray) (ini : Bool) (pc : Nat) (i : Instr) : Prop := i = .nop ∨ (decode cc pc = .ok (sm_real i pc) ∧ sm_ci o nL ini i = true)
theorem sm_chk_of {o nL : Nat} {cc : ByteArray} {ini : Bool} {T : Nat → Instr} {pc : Nat} {i : Instr} (h : ∀ pc, sm_chk o nL cc ini pc (T pc)) (hT : T pc = i) (hn : i ≠ .nop) : decode cc pc = .ok (sm_real i pc) ∧ sm_ci o nL ini i = true := by
  rcases h pc with h | h
  · exact absurd (hT.symm.trans h) hn
  · rw [hT] at h; exact h
theorem sm_tw_of {p : Nat} {w : Cond} (h : sm_tw p w = true) : tables_1[p]? = some w := of_decide_eq_true h
theorem sm_fok_v {own : String} {v : Nat} (h : sm_cf1 own v = true) : sm_fok own (Nat.mod (Nat.div v 65536) 65536) (Nat.mod (Nat.div v 4) 64) (Nat.mod (Nat.div v 256) 256) ∧ sm_F (Nat.mod (Nat.div v 4) 64) (Nat.mod (Nat.div v 256) 256) = Nat.mod v 4 := by
  unfold sm_cf1 at h
  split at h
  · next C T N hq =>
    rw [Bool.and_eq_true, Bool.and_eq_true] at h
    obtain ⟨⟨h1, h2⟩, h3⟩ := h
    refine ⟨⟨C, T, N, hq, by unfold Nat.blt at h1; exact Nat.le_of_ble_eq_true h1, ?_⟩, Nat.eq_of_beq_eq_true h2⟩
    cases hb : Nat.beq (Nat.div v 281474976710656) 1 with
    | true => rw [hb] at h3; exact Or.inr (List.mem_append_right _ (List.mem_of_getElem? (sm_tw_of h3)))
    | false => rw [hb] at h3; exact Or.inl (sm_tb_in1 (sm_tw_of h3) rfl)
  · cases h
theorem sm_ffin {own : String} {ini : Bool} {v : Nat} (h1 : sm_cf1 own v = true) (h : sm_cf2 own ini v = true) {meth : Method} (hm : ini = true → meth.name = "<init>") : (∀ C T N, vwCl[Nat.mod (Nat.div v 4) 64]? = some (C, T, N) → (T (Nat.mod (Nat.div v 256) 256)).2.2.2 = false) ∨ (meth.name = "<init>" ∧ (∀ C T N, vwCl[Nat.mod (Nat.div v 4) 64]? = some (C, T, N) → (T (Nat.mod (Nat.div v 256) 256)).2.2.2 = true ∧ C = own ∧ Cond.fieldLink own (Nat.mod (Nat.div v 65536) 65536) C (T (Nat.mod (Nat.div v 256) 256)).2.1 (T (Nat.mod (Nat.div v 256) 256)).2.2.1 ∈ sm_tb)) := by
  unfold sm_cf2 at h
  split at h
  · next C T N hq =>
    cases hf : (T (Nat.mod (Nat.div v 256) 256)).2.2.2 with
    | false =>
      left
      intro C1 T1 N1 h1
      rw [hq] at h1
      cases h1
      exact hf
    | true =>
      right
      rw [hf] at h
      simp only [cond_true, Bool.and_eq_true, decide_eq_true_eq] at h
      refine ⟨hm h.1.1, fun C1 T1 N1 h2 => ?_⟩
      rw [hq] at h2
      cases h2
      refine ⟨hf, h.1.2, ?_⟩
      unfold sm_cf1 at h1
      rw [hq] at h1
      simp only [Bool.and_eq_true] at h1
      have h3 := h1.2
      have h4 : Nat.beq (Nat.div v 281474976710656) 1 = false := by
        have := Nat.eq_of_beq_eq_true h.2
        rw [this]; rfl
      rw [h4] at h3
      exact sm_tb_in1 (sm_tw_of h3) rfl
  · cases h
