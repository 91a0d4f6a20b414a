/-! decoding by the bytes that stand there -/
theorem dk_u1 {c : ByteArray} {p : Nat} (h : p < c.size) : (Reader.u1 : Decoder Nat) c p = Except.ok (c[p].toNat, p + 1) := by
  unfold Reader.u1
  show (dite (p < c.size) (fun h => _) (fun h => _) : Decoder Nat) c p = _
  rw [dif_pos h]
  rfl
theorem dk_dec {c : ByteArray} {pc q : Nat} {i : Instr} (h : (Decoder.instr pc) c pc = Except.ok (i, q)) : decode c pc = Except.ok (i, q - pc) := by
  unfold decode Reader.runAt
  show (Except.bind ((Decoder.instr pc) c pc) fun r => Except.ok (r.1, r.2 - pc)) = _
  rw [h]
  rfl
theorem dk_bind {α β : Type} {r : Decoder α} {f : α → Decoder β} {c : ByteArray} {p p' : Nat} {a : α} (h : r c p = Except.ok (a, p')) : (r >>= f) c p = f a c p' := by
  show (Except.bind (r c p) fun q => f q.1 c q.2) = _
  rw [h]
  rfl
theorem dk_u2 {c : ByteArray} {p : Nat} (h1 : p < c.size) (h2 : p + 1 < c.size) : (Reader.u2 : Decoder Nat) c p = Except.ok (c[p].toNat * 256 + c[p + 1].toNat, p + 1 + 1) := by
  unfold Reader.u2
  exact (dk_bind (dk_u1 h1)).trans ((dk_bind (dk_u1 h2)).trans rfl)
theorem dk_map {α β : Type} {r : Decoder α} {f : α → β} {c : ByteArray} {p p' : Nat} {a : α} (h : r c p = Except.ok (a, p')) : (f <$> r) c p = Except.ok (f a, p') := by
  show (Except.bind (r c p) fun q => Except.ok (f q.1, q.2)) = _
  rw [h]
  rfl
theorem dk_s1 {c : ByteArray} {p : Nat} (h : p < c.size) : (Reader.s1 : Decoder Int) c p = Except.ok (Reader.signed 8 c[p].toNat, p + 1) := dk_map (dk_u1 h)
theorem dk_s2 {c : ByteArray} {p : Nat} (h1 : p < c.size) (h2 : p + 1 < c.size) : (Reader.s2 : Decoder Int) c p = Except.ok (Reader.signed 16 (c[p].toNat * 256 + c[p + 1].toNat), p + 1 + 1) := dk_map (dk_u2 h1 h2)
set_option maxRecDepth 20000 in
theorem dk_2 {c : ByteArray} {pc : Nat} (h : pc < c.size) (hb : c[pc].toNat = 2) : decode c pc = Except.ok (.iconst (-1), 1) := by
  have e := dk_u1 h
  rw [hb] at e
  have e3 : (Decoder.instr pc) c pc = Except.ok (.iconst (-1), pc + 1) := by
    unfold Decoder.instr
    exact (dk_bind e).trans (rfl)
  rw [dk_dec e3, Nat.add_sub_cancel_left]
set_option maxRecDepth 20000 in
theorem dk_3 {c : ByteArray} {pc : Nat} (h : pc < c.size) (hb : c[pc].toNat = 3) : decode c pc = Except.ok (.iconst 0, 1) := by
  have e := dk_u1 h
  rw [hb] at e
  have e3 : (Decoder.instr pc) c pc = Except.ok (.iconst 0, pc + 1) := by
    unfold Decoder.instr
    exact (dk_bind e).trans (rfl)
  rw [dk_dec e3, Nat.add_sub_cancel_left]
set_option maxRecDepth 20000 in
theorem dk_4 {c : ByteArray} {pc : Nat} (h : pc < c.size) (hb : c[pc].toNat = 4) : decode c pc = Except.ok (.iconst 1, 1) := by
  have e := dk_u1 h
  rw [hb] at e
  have e3 : (Decoder.instr pc) c pc = Except.ok (.iconst 1, pc + 1) := by
    unfold Decoder.instr
    exact (dk_bind e).trans (rfl)
  rw [dk_dec e3, Nat.add_sub_cancel_left]
set_option maxRecDepth 20000 in
theorem dk_5 {c : ByteArray} {pc : Nat} (h : pc < c.size) (hb : c[pc].toNat = 5) : decode c pc = Except.ok (.iconst 2, 1) := by
  have e := dk_u1 h
  rw [hb] at e
  have e3 : (Decoder.instr pc) c pc = Except.ok (.iconst 2, pc + 1) := by
    unfold Decoder.instr
    exact (dk_bind e).trans (rfl)
  rw [dk_dec e3, Nat.add_sub_cancel_left]
set_option maxRecDepth 20000 in
theorem dk_6 {c : ByteArray} {pc : Nat} (h : pc < c.size) (hb : c[pc].toNat = 6) : decode c pc = Except.ok (.iconst 3, 1) := by
  have e := dk_u1 h
  rw [hb] at e
  have e3 : (Decoder.instr pc) c pc = Except.ok (.iconst 3, pc + 1) := by
    unfold Decoder.instr
    exact (dk_bind e).trans (rfl)
  rw [dk_dec e3, Nat.add_sub_cancel_left]
set_option maxRecDepth 20000 in
theorem dk_7 {c : ByteArray} {pc : Nat} (h : pc < c.size) (hb : c[pc].toNat = 7) : decode c pc = Except.ok (.iconst 4, 1) := by
  have e := dk_u1 h
  rw [hb] at e
  have e3 : (Decoder.instr pc) c pc = Except.ok (.iconst 4, pc + 1) := by
    unfold Decoder.instr
    exact (dk_bind e).trans (rfl)
  rw [dk_dec e3, Nat.add_sub_cancel_left]
set_option maxRecDepth 20000 in
theorem dk_8 {c : ByteArray} {pc : Nat} (h : pc < c.size) (hb : c[pc].toNat = 8) : decode c pc = Except.ok (.iconst 5, 1) := by
  have e := dk_u1 h
  rw [hb] at e
  have e3 : (Decoder.instr pc) c pc = Except.ok (.iconst 5, pc + 1) := by
    unfold Decoder.instr
    exact (dk_bind e).trans (rfl)
  rw [dk_dec e3, Nat.add_sub_cancel_left]
set_option maxRecDepth 20000 in
theorem dk_9 {c : ByteArray} {pc : Nat} (h : pc < c.size) (hb : c[pc].toNat = 9) : decode c pc = Except.ok (.lconst 0, 1) := by
  have e := dk_u1 h
  rw [hb] at e
  have e3 : (Decoder.instr pc) c pc = Except.ok (.lconst 0, pc + 1) := by
    unfold Decoder.instr
    exact (dk_bind e).trans (rfl)
  rw [dk_dec e3, Nat.add_sub_cancel_left]
set_option maxRecDepth 20000 in
theorem dk_10 {c : ByteArray} {pc : Nat} (h : pc < c.size) (hb : c[pc].toNat = 10) : decode c pc = Except.ok (.lconst 1, 1) := by
  have e := dk_u1 h
  rw [hb] at e
  have e3 : (Decoder.instr pc) c pc = Except.ok (.lconst 1, pc + 1) := by
    unfold Decoder.instr
    exact (dk_bind e).trans (rfl)
  rw [dk_dec e3, Nat.add_sub_cancel_left]
set_option maxRecDepth 20000 in
theorem dk_16 {c : ByteArray} {pc : Nat} (h : pc < c.size) (hb : c[pc].toNat = 16) (h1 : pc + 1 < c.size) : decode c pc = Except.ok (.bipush (Reader.signed 8 c[pc + 1].toNat), 2) := by
  have e := dk_u1 h
  rw [hb] at e
  have e3 : (Decoder.instr pc) c pc = Except.ok (.bipush (Reader.signed 8 c[pc + 1].toNat), pc + 2) := by
    unfold Decoder.instr
    exact (dk_bind e).trans ((dk_bind (dk_s1 h1)).trans rfl)
  rw [dk_dec e3, Nat.add_sub_cancel_left]
set_option maxRecDepth 20000 in
theorem dk_17 {c : ByteArray} {pc : Nat} (h : pc < c.size) (hb : c[pc].toNat = 17) (h1 : pc + 1 < c.size) (h2 : pc + 1 + 1 < c.size) : decode c pc = Except.ok (.sipush (Reader.signed 16 (c[pc + 1].toNat * 256 + c[pc + 1 + 1].toNat)), 3) := by
  have e := dk_u1 h
  rw [hb] at e
  have e3 : (Decoder.instr pc) c pc = Except.ok (.sipush (Reader.signed 16 (c[pc + 1].toNat * 256 + c[pc + 1 + 1].toNat)), pc + 3) := by
    unfold Decoder.instr
    exact (dk_bind e).trans ((dk_bind (dk_s2 h1 h2)).trans rfl)
  rw [dk_dec e3, Nat.add_sub_cancel_left]
set_option maxRecDepth 20000 in
theorem dk_18 {c : ByteArray} {pc : Nat} (h : pc < c.size) (hb : c[pc].toNat = 18) (h1 : pc + 1 < c.size) : decode c pc = Except.ok (.ldc c[pc + 1].toNat, 2) := by
  have e := dk_u1 h
  rw [hb] at e
  have e3 : (Decoder.instr pc) c pc = Except.ok (.ldc c[pc + 1].toNat, pc + 2) := by
    unfold Decoder.instr
    exact (dk_bind e).trans ((dk_bind (dk_u1 h1)).trans rfl)
  rw [dk_dec e3, Nat.add_sub_cancel_left]
set_option maxRecDepth 20000 in
theorem dk_19 {c : ByteArray} {pc : Nat} (h : pc < c.size) (hb : c[pc].toNat = 19) (h1 : pc + 1 < c.size) (h2 : pc + 1 + 1 < c.size) : decode c pc = Except.ok (.ldc_w (c[pc + 1].toNat * 256 + c[pc + 1 + 1].toNat), 3) := by
  have e := dk_u1 h
  rw [hb] at e
  have e3 : (Decoder.instr pc) c pc = Except.ok (.ldc_w (c[pc + 1].toNat * 256 + c[pc + 1 + 1].toNat), pc + 3) := by
    unfold Decoder.instr
    exact (dk_bind e).trans ((dk_bind (dk_u2 h1 h2)).trans rfl)
  rw [dk_dec e3, Nat.add_sub_cancel_left]
set_option maxRecDepth 20000 in
theorem dk_20 {c : ByteArray} {pc : Nat} (h : pc < c.size) (hb : c[pc].toNat = 20) (h1 : pc + 1 < c.size) (h2 : pc + 1 + 1 < c.size) : decode c pc = Except.ok (.ldc2_w (c[pc + 1].toNat * 256 + c[pc + 1 + 1].toNat), 3) := by
  have e := dk_u1 h
  rw [hb] at e
  have e3 : (Decoder.instr pc) c pc = Except.ok (.ldc2_w (c[pc + 1].toNat * 256 + c[pc + 1 + 1].toNat), pc + 3) := by
    unfold Decoder.instr
    exact (dk_bind e).trans ((dk_bind (dk_u2 h1 h2)).trans rfl)
  rw [dk_dec e3, Nat.add_sub_cancel_left]
set_option maxRecDepth 20000 in
theorem dk_21 {c : ByteArray} {pc : Nat} (h : pc < c.size) (hb : c[pc].toNat = 21) (h1 : pc + 1 < c.size) : decode c pc = Except.ok (.iload c[pc + 1].toNat, 2) := by
  have e := dk_u1 h
  rw [hb] at e
  have e3 : (Decoder.instr pc) c pc = Except.ok (.iload c[pc + 1].toNat, pc + 2) := by
    unfold Decoder.instr
    exact (dk_bind e).trans ((dk_bind (dk_u1 h1)).trans rfl)
  rw [dk_dec e3, Nat.add_sub_cancel_left]
set_option maxRecDepth 20000 in
theorem dk_22 {c : ByteArray} {pc : Nat} (h : pc < c.size) (hb : c[pc].toNat = 22) (h1 : pc + 1 < c.size) : decode c pc = Except.ok (.lload c[pc + 1].toNat, 2) := by
  have e := dk_u1 h
  rw [hb] at e
  have e3 : (Decoder.instr pc) c pc = Except.ok (.lload c[pc + 1].toNat, pc + 2) := by
    unfold Decoder.instr
    exact (dk_bind e).trans ((dk_bind (dk_u1 h1)).trans rfl)
  rw [dk_dec e3, Nat.add_sub_cancel_left]
set_option maxRecDepth 20000 in
theorem dk_25 {c : ByteArray} {pc : Nat} (h : pc < c.size) (hb : c[pc].toNat = 25) (h1 : pc + 1 < c.size) : decode c pc = Except.ok (.aload c[pc + 1].toNat, 2) := by
  have e := dk_u1 h
  rw [hb] at e
  have e3 : (Decoder.instr pc) c pc = Except.ok (.aload c[pc + 1].toNat, pc + 2) := by
    unfold Decoder.instr
    exact (dk_bind e).trans ((dk_bind (dk_u1 h1)).trans rfl)
  rw [dk_dec e3, Nat.add_sub_cancel_left]
set_option maxRecDepth 20000 in
theorem dk_26 {c : ByteArray} {pc : Nat} (h : pc < c.size) (hb : c[pc].toNat = 26) : decode c pc = Except.ok (.iload_n 0, 1) := by
  have e := dk_u1 h
  rw [hb] at e
  have e3 : (Decoder.instr pc) c pc = Except.ok (.iload_n 0, pc + 1) := by
    unfold Decoder.instr
    exact (dk_bind e).trans (rfl)
  rw [dk_dec e3, Nat.add_sub_cancel_left]
set_option maxRecDepth 20000 in
theorem dk_27 {c : ByteArray} {pc : Nat} (h : pc < c.size) (hb : c[pc].toNat = 27) : decode c pc = Except.ok (.iload_n 1, 1) := by
  have e := dk_u1 h
  rw [hb] at e
  have e3 : (Decoder.instr pc) c pc = Except.ok (.iload_n 1, pc + 1) := by
    unfold Decoder.instr
    exact (dk_bind e).trans (rfl)
  rw [dk_dec e3, Nat.add_sub_cancel_left]
set_option maxRecDepth 20000 in
theorem dk_28 {c : ByteArray} {pc : Nat} (h : pc < c.size) (hb : c[pc].toNat = 28) : decode c pc = Except.ok (.iload_n 2, 1) := by
  have e := dk_u1 h
  rw [hb] at e
  have e3 : (Decoder.instr pc) c pc = Except.ok (.iload_n 2, pc + 1) := by
    unfold Decoder.instr
    exact (dk_bind e).trans (rfl)
  rw [dk_dec e3, Nat.add_sub_cancel_left]
set_option maxRecDepth 20000 in
theorem dk_29 {c : ByteArray} {pc : Nat} (h : pc < c.size) (hb : c[pc].toNat = 29) : decode c pc = Except.ok (.iload_n 3, 1) := by
  have e := dk_u1 h
  rw [hb] at e
  have e3 : (Decoder.instr pc) c pc = Except.ok (.iload_n 3, pc + 1) := by
    unfold Decoder.instr
    exact (dk_bind e).trans (rfl)
  rw [dk_dec e3, Nat.add_sub_cancel_left]
set_option maxRecDepth 20000 in
theorem dk_30 {c : ByteArray} {pc : Nat} (h : pc < c.size) (hb : c[pc].toNat = 30) : decode c pc = Except.ok (.lload_n 0, 1) := by
  have e := dk_u1 h
  rw [hb] at e
  have e3 : (Decoder.instr pc) c pc = Except.ok (.lload_n 0, pc + 1) := by
    unfold Decoder.instr
    exact (dk_bind e).trans (rfl)
  rw [dk_dec e3, Nat.add_sub_cancel_left]
set_option maxRecDepth 20000 in
theorem dk_31 {c : ByteArray} {pc : Nat} (h : pc < c.size) (hb : c[pc].toNat = 31) : decode c pc = Except.ok (.lload_n 1, 1) := by
  have e := dk_u1 h
  rw [hb] at e
  have e3 : (Decoder.instr pc) c pc = Except.ok (.lload_n 1, pc + 1) := by
    unfold Decoder.instr
    exact (dk_bind e).trans (rfl)
  rw [dk_dec e3, Nat.add_sub_cancel_left]
set_option maxRecDepth 20000 in
theorem dk_32 {c : ByteArray} {pc : Nat} (h : pc < c.size) (hb : c[pc].toNat = 32) : decode c pc = Except.ok (.lload_n 2, 1) := by
  have e := dk_u1 h
  rw [hb] at e
  have e3 : (Decoder.instr pc) c pc = Except.ok (.lload_n 2, pc + 1) := by
    unfold Decoder.instr
    exact (dk_bind e).trans (rfl)
  rw [dk_dec e3, Nat.add_sub_cancel_left]
set_option maxRecDepth 20000 in
theorem dk_33 {c : ByteArray} {pc : Nat} (h : pc < c.size) (hb : c[pc].toNat = 33) : decode c pc = Except.ok (.lload_n 3, 1) := by
  have e := dk_u1 h
  rw [hb] at e
  have e3 : (Decoder.instr pc) c pc = Except.ok (.lload_n 3, pc + 1) := by
    unfold Decoder.instr
    exact (dk_bind e).trans (rfl)
  rw [dk_dec e3, Nat.add_sub_cancel_left]
set_option maxRecDepth 20000 in
theorem dk_42 {c : ByteArray} {pc : Nat} (h : pc < c.size) (hb : c[pc].toNat = 42) : decode c pc = Except.ok (.aload_n 0, 1) := by
  have e := dk_u1 h
  rw [hb] at e
  have e3 : (Decoder.instr pc) c pc = Except.ok (.aload_n 0, pc + 1) := by
    unfold Decoder.instr
    exact (dk_bind e).trans (rfl)
  rw [dk_dec e3, Nat.add_sub_cancel_left]
set_option maxRecDepth 20000 in
theorem dk_43 {c : ByteArray} {pc : Nat} (h : pc < c.size) (hb : c[pc].toNat = 43) : decode c pc = Except.ok (.aload_n 1, 1) := by
  have e := dk_u1 h
  rw [hb] at e
  have e3 : (Decoder.instr pc) c pc = Except.ok (.aload_n 1, pc + 1) := by
    unfold Decoder.instr
    exact (dk_bind e).trans (rfl)
  rw [dk_dec e3, Nat.add_sub_cancel_left]
set_option maxRecDepth 20000 in
theorem dk_44 {c : ByteArray} {pc : Nat} (h : pc < c.size) (hb : c[pc].toNat = 44) : decode c pc = Except.ok (.aload_n 2, 1) := by
  have e := dk_u1 h
  rw [hb] at e
  have e3 : (Decoder.instr pc) c pc = Except.ok (.aload_n 2, pc + 1) := by
    unfold Decoder.instr
    exact (dk_bind e).trans (rfl)
  rw [dk_dec e3, Nat.add_sub_cancel_left]
set_option maxRecDepth 20000 in
theorem dk_45 {c : ByteArray} {pc : Nat} (h : pc < c.size) (hb : c[pc].toNat = 45) : decode c pc = Except.ok (.aload_n 3, 1) := by
  have e := dk_u1 h
  rw [hb] at e
  have e3 : (Decoder.instr pc) c pc = Except.ok (.aload_n 3, pc + 1) := by
    unfold Decoder.instr
    exact (dk_bind e).trans (rfl)
  rw [dk_dec e3, Nat.add_sub_cancel_left]
set_option maxRecDepth 20000 in
theorem dk_46 {c : ByteArray} {pc : Nat} (h : pc < c.size) (hb : c[pc].toNat = 46) : decode c pc = Except.ok (.iaload, 1) := by
  have e := dk_u1 h
  rw [hb] at e
  have e3 : (Decoder.instr pc) c pc = Except.ok (.iaload, pc + 1) := by
    unfold Decoder.instr
    exact (dk_bind e).trans (rfl)
  rw [dk_dec e3, Nat.add_sub_cancel_left]
set_option maxRecDepth 20000 in
theorem dk_47 {c : ByteArray} {pc : Nat} (h : pc < c.size) (hb : c[pc].toNat = 47) : decode c pc = Except.ok (.laload, 1) := by
  have e := dk_u1 h
  rw [hb] at e
  have e3 : (Decoder.instr pc) c pc = Except.ok (.laload, pc + 1) := by
    unfold Decoder.instr
    exact (dk_bind e).trans (rfl)
  rw [dk_dec e3, Nat.add_sub_cancel_left]
set_option maxRecDepth 20000 in
theorem dk_50 {c : ByteArray} {pc : Nat} (h : pc < c.size) (hb : c[pc].toNat = 50) : decode c pc = Except.ok (.aaload, 1) := by
  have e := dk_u1 h
  rw [hb] at e
  have e3 : (Decoder.instr pc) c pc = Except.ok (.aaload, pc + 1) := by
    unfold Decoder.instr
    exact (dk_bind e).trans (rfl)
  rw [dk_dec e3, Nat.add_sub_cancel_left]
set_option maxRecDepth 20000 in
theorem dk_51 {c : ByteArray} {pc : Nat} (h : pc < c.size) (hb : c[pc].toNat = 51) : decode c pc = Except.ok (.baload, 1) := by
  have e := dk_u1 h
  rw [hb] at e
  have e3 : (Decoder.instr pc) c pc = Except.ok (.baload, pc + 1) := by
    unfold Decoder.instr
    exact (dk_bind e).trans (rfl)
  rw [dk_dec e3, Nat.add_sub_cancel_left]
set_option maxRecDepth 20000 in
theorem dk_54 {c : ByteArray} {pc : Nat} (h : pc < c.size) (hb : c[pc].toNat = 54) (h1 : pc + 1 < c.size) : decode c pc = Except.ok (.istore c[pc + 1].toNat, 2) := by
  have e := dk_u1 h
  rw [hb] at e
  have e3 : (Decoder.instr pc) c pc = Except.ok (.istore c[pc + 1].toNat, pc + 2) := by
    unfold Decoder.instr
    exact (dk_bind e).trans ((dk_bind (dk_u1 h1)).trans rfl)
  rw [dk_dec e3, Nat.add_sub_cancel_left]
set_option maxRecDepth 20000 in
theorem dk_55 {c : ByteArray} {pc : Nat} (h : pc < c.size) (hb : c[pc].toNat = 55) (h1 : pc + 1 < c.size) : decode c pc = Except.ok (.lstore c[pc + 1].toNat, 2) := by
  have e := dk_u1 h
  rw [hb] at e
  have e3 : (Decoder.instr pc) c pc = Except.ok (.lstore c[pc + 1].toNat, pc + 2) := by
    unfold Decoder.instr
    exact (dk_bind e).trans ((dk_bind (dk_u1 h1)).trans rfl)
  rw [dk_dec e3, Nat.add_sub_cancel_left]
set_option maxRecDepth 20000 in
theorem dk_58 {c : ByteArray} {pc : Nat} (h : pc < c.size) (hb : c[pc].toNat = 58) (h1 : pc + 1 < c.size) : decode c pc = Except.ok (.astore c[pc + 1].toNat, 2) := by
  have e := dk_u1 h
  rw [hb] at e
  have e3 : (Decoder.instr pc) c pc = Except.ok (.astore c[pc + 1].toNat, pc + 2) := by
    unfold Decoder.instr
    exact (dk_bind e).trans ((dk_bind (dk_u1 h1)).trans rfl)
  rw [dk_dec e3, Nat.add_sub_cancel_left]
set_option maxRecDepth 20000 in
theorem dk_59 {c : ByteArray} {pc : Nat} (h : pc < c.size) (hb : c[pc].toNat = 59) : decode c pc = Except.ok (.istore_n 0, 1) := by
  have e := dk_u1 h
  rw [hb] at e
  have e3 : (Decoder.instr pc) c pc = Except.ok (.istore_n 0, pc + 1) := by
    unfold Decoder.instr
    exact (dk_bind e).trans (rfl)
  rw [dk_dec e3, Nat.add_sub_cancel_left]
set_option maxRecDepth 20000 in
theorem dk_60 {c : ByteArray} {pc : Nat} (h : pc < c.size) (hb : c[pc].toNat = 60) : decode c pc = Except.ok (.istore_n 1, 1) := by
  have e := dk_u1 h
  rw [hb] at e
  have e3 : (Decoder.instr pc) c pc = Except.ok (.istore_n 1, pc + 1) := by
    unfold Decoder.instr
    exact (dk_bind e).trans (rfl)
  rw [dk_dec e3, Nat.add_sub_cancel_left]
set_option maxRecDepth 20000 in
theorem dk_61 {c : ByteArray} {pc : Nat} (h : pc < c.size) (hb : c[pc].toNat = 61) : decode c pc = Except.ok (.istore_n 2, 1) := by
  have e := dk_u1 h
  rw [hb] at e
  have e3 : (Decoder.instr pc) c pc = Except.ok (.istore_n 2, pc + 1) := by
    unfold Decoder.instr
    exact (dk_bind e).trans (rfl)
  rw [dk_dec e3, Nat.add_sub_cancel_left]
set_option maxRecDepth 20000 in
theorem dk_62 {c : ByteArray} {pc : Nat} (h : pc < c.size) (hb : c[pc].toNat = 62) : decode c pc = Except.ok (.istore_n 3, 1) := by
  have e := dk_u1 h
  rw [hb] at e
  have e3 : (Decoder.instr pc) c pc = Except.ok (.istore_n 3, pc + 1) := by
    unfold Decoder.instr
    exact (dk_bind e).trans (rfl)
  rw [dk_dec e3, Nat.add_sub_cancel_left]
set_option maxRecDepth 20000 in
theorem dk_63 {c : ByteArray} {pc : Nat} (h : pc < c.size) (hb : c[pc].toNat = 63) : decode c pc = Except.ok (.lstore_n 0, 1) := by
  have e := dk_u1 h
  rw [hb] at e
  have e3 : (Decoder.instr pc) c pc = Except.ok (.lstore_n 0, pc + 1) := by
    unfold Decoder.instr
    exact (dk_bind e).trans (rfl)
  rw [dk_dec e3, Nat.add_sub_cancel_left]
set_option maxRecDepth 20000 in
theorem dk_64 {c : ByteArray} {pc : Nat} (h : pc < c.size) (hb : c[pc].toNat = 64) : decode c pc = Except.ok (.lstore_n 1, 1) := by
  have e := dk_u1 h
  rw [hb] at e
  have e3 : (Decoder.instr pc) c pc = Except.ok (.lstore_n 1, pc + 1) := by
    unfold Decoder.instr
    exact (dk_bind e).trans (rfl)
  rw [dk_dec e3, Nat.add_sub_cancel_left]
set_option maxRecDepth 20000 in
theorem dk_65 {c : ByteArray} {pc : Nat} (h : pc < c.size) (hb : c[pc].toNat = 65) : decode c pc = Except.ok (.lstore_n 2, 1) := by
  have e := dk_u1 h
  rw [hb] at e
  have e3 : (Decoder.instr pc) c pc = Except.ok (.lstore_n 2, pc + 1) := by
    unfold Decoder.instr
    exact (dk_bind e).trans (rfl)
  rw [dk_dec e3, Nat.add_sub_cancel_left]
set_option maxRecDepth 20000 in
theorem dk_66 {c : ByteArray} {pc : Nat} (h : pc < c.size) (hb : c[pc].toNat = 66) : decode c pc = Except.ok (.lstore_n 3, 1) := by
  have e := dk_u1 h
  rw [hb] at e
  have e3 : (Decoder.instr pc) c pc = Except.ok (.lstore_n 3, pc + 1) := by
    unfold Decoder.instr
    exact (dk_bind e).trans (rfl)
  rw [dk_dec e3, Nat.add_sub_cancel_left]
set_option maxRecDepth 20000 in
theorem dk_75 {c : ByteArray} {pc : Nat} (h : pc < c.size) (hb : c[pc].toNat = 75) : decode c pc = Except.ok (.astore_n 0, 1) := by
  have e := dk_u1 h
  rw [hb] at e
  have e3 : (Decoder.instr pc) c pc = Except.ok (.astore_n 0, pc + 1) := by
    unfold Decoder.instr
    exact (dk_bind e).trans (rfl)
  rw [dk_dec e3, Nat.add_sub_cancel_left]
set_option maxRecDepth 20000 in
theorem dk_76 {c : ByteArray} {pc : Nat} (h : pc < c.size) (hb : c[pc].toNat = 76) : decode c pc = Except.ok (.astore_n 1, 1) := by
  have e := dk_u1 h
  rw [hb] at e
  have e3 : (Decoder.instr pc) c pc = Except.ok (.astore_n 1, pc + 1) := by
    unfold Decoder.instr
    exact (dk_bind e).trans (rfl)
  rw [dk_dec e3, Nat.add_sub_cancel_left]
set_option maxRecDepth 20000 in
theorem dk_77 {c : ByteArray} {pc : Nat} (h : pc < c.size) (hb : c[pc].toNat = 77) : decode c pc = Except.ok (.astore_n 2, 1) := by
  have e := dk_u1 h
  rw [hb] at e
  have e3 : (Decoder.instr pc) c pc = Except.ok (.astore_n 2, pc + 1) := by
    unfold Decoder.instr
    exact (dk_bind e).trans (rfl)
  rw [dk_dec e3, Nat.add_sub_cancel_left]
set_option maxRecDepth 20000 in
theorem dk_78 {c : ByteArray} {pc : Nat} (h : pc < c.size) (hb : c[pc].toNat = 78) : decode c pc = Except.ok (.astore_n 3, 1) := by
  have e := dk_u1 h
  rw [hb] at e
  have e3 : (Decoder.instr pc) c pc = Except.ok (.astore_n 3, pc + 1) := by
    unfold Decoder.instr
    exact (dk_bind e).trans (rfl)
  rw [dk_dec e3, Nat.add_sub_cancel_left]
set_option maxRecDepth 20000 in
theorem dk_79 {c : ByteArray} {pc : Nat} (h : pc < c.size) (hb : c[pc].toNat = 79) : decode c pc = Except.ok (.iastore, 1) := by
  have e := dk_u1 h
  rw [hb] at e
  have e3 : (Decoder.instr pc) c pc = Except.ok (.iastore, pc + 1) := by
    unfold Decoder.instr
    exact (dk_bind e).trans (rfl)
  rw [dk_dec e3, Nat.add_sub_cancel_left]
set_option maxRecDepth 20000 in
theorem dk_80 {c : ByteArray} {pc : Nat} (h : pc < c.size) (hb : c[pc].toNat = 80) : decode c pc = Except.ok (.lastore, 1) := by
  have e := dk_u1 h
  rw [hb] at e
  have e3 : (Decoder.instr pc) c pc = Except.ok (.lastore, pc + 1) := by
    unfold Decoder.instr
    exact (dk_bind e).trans (rfl)
  rw [dk_dec e3, Nat.add_sub_cancel_left]
set_option maxRecDepth 20000 in
theorem dk_83 {c : ByteArray} {pc : Nat} (h : pc < c.size) (hb : c[pc].toNat = 83) : decode c pc = Except.ok (.aastore, 1) := by
  have e := dk_u1 h
  rw [hb] at e
  have e3 : (Decoder.instr pc) c pc = Except.ok (.aastore, pc + 1) := by
    unfold Decoder.instr
    exact (dk_bind e).trans (rfl)
  rw [dk_dec e3, Nat.add_sub_cancel_left]
set_option maxRecDepth 20000 in
theorem dk_84 {c : ByteArray} {pc : Nat} (h : pc < c.size) (hb : c[pc].toNat = 84) : decode c pc = Except.ok (.bastore, 1) := by
  have e := dk_u1 h
  rw [hb] at e
  have e3 : (Decoder.instr pc) c pc = Except.ok (.bastore, pc + 1) := by
    unfold Decoder.instr
    exact (dk_bind e).trans (rfl)
  rw [dk_dec e3, Nat.add_sub_cancel_left]
set_option maxRecDepth 20000 in
theorem dk_87 {c : ByteArray} {pc : Nat} (h : pc < c.size) (hb : c[pc].toNat = 87) : decode c pc = Except.ok (.pop, 1) := by
  have e := dk_u1 h
  rw [hb] at e
  have e3 : (Decoder.instr pc) c pc = Except.ok (.pop, pc + 1) := by
    unfold Decoder.instr
    exact (dk_bind e).trans (rfl)
  rw [dk_dec e3, Nat.add_sub_cancel_left]
set_option maxRecDepth 20000 in
theorem dk_89 {c : ByteArray} {pc : Nat} (h : pc < c.size) (hb : c[pc].toNat = 89) : decode c pc = Except.ok (.dup, 1) := by
  have e := dk_u1 h
  rw [hb] at e
  have e3 : (Decoder.instr pc) c pc = Except.ok (.dup, pc + 1) := by
    unfold Decoder.instr
    exact (dk_bind e).trans (rfl)
  rw [dk_dec e3, Nat.add_sub_cancel_left]
set_option maxRecDepth 20000 in
theorem dk_92 {c : ByteArray} {pc : Nat} (h : pc < c.size) (hb : c[pc].toNat = 92) : decode c pc = Except.ok (.dup2, 1) := by
  have e := dk_u1 h
  rw [hb] at e
  have e3 : (Decoder.instr pc) c pc = Except.ok (.dup2, pc + 1) := by
    unfold Decoder.instr
    exact (dk_bind e).trans (rfl)
  rw [dk_dec e3, Nat.add_sub_cancel_left]
set_option maxRecDepth 20000 in
theorem dk_96 {c : ByteArray} {pc : Nat} (h : pc < c.size) (hb : c[pc].toNat = 96) : decode c pc = Except.ok (.iadd, 1) := by
  have e := dk_u1 h
  rw [hb] at e
  have e3 : (Decoder.instr pc) c pc = Except.ok (.iadd, pc + 1) := by
    unfold Decoder.instr
    exact (dk_bind e).trans (rfl)
  rw [dk_dec e3, Nat.add_sub_cancel_left]
set_option maxRecDepth 20000 in
theorem dk_97 {c : ByteArray} {pc : Nat} (h : pc < c.size) (hb : c[pc].toNat = 97) : decode c pc = Except.ok (.ladd, 1) := by
  have e := dk_u1 h
  rw [hb] at e
  have e3 : (Decoder.instr pc) c pc = Except.ok (.ladd, pc + 1) := by
    unfold Decoder.instr
    exact (dk_bind e).trans (rfl)
  rw [dk_dec e3, Nat.add_sub_cancel_left]
set_option maxRecDepth 20000 in
theorem dk_100 {c : ByteArray} {pc : Nat} (h : pc < c.size) (hb : c[pc].toNat = 100) : decode c pc = Except.ok (.isub, 1) := by
  have e := dk_u1 h
  rw [hb] at e
  have e3 : (Decoder.instr pc) c pc = Except.ok (.isub, pc + 1) := by
    unfold Decoder.instr
    exact (dk_bind e).trans (rfl)
  rw [dk_dec e3, Nat.add_sub_cancel_left]
set_option maxRecDepth 20000 in
theorem dk_101 {c : ByteArray} {pc : Nat} (h : pc < c.size) (hb : c[pc].toNat = 101) : decode c pc = Except.ok (.lsub, 1) := by
  have e := dk_u1 h
  rw [hb] at e
  have e3 : (Decoder.instr pc) c pc = Except.ok (.lsub, pc + 1) := by
    unfold Decoder.instr
    exact (dk_bind e).trans (rfl)
  rw [dk_dec e3, Nat.add_sub_cancel_left]
set_option maxRecDepth 20000 in
theorem dk_104 {c : ByteArray} {pc : Nat} (h : pc < c.size) (hb : c[pc].toNat = 104) : decode c pc = Except.ok (.imul, 1) := by
  have e := dk_u1 h
  rw [hb] at e
  have e3 : (Decoder.instr pc) c pc = Except.ok (.imul, pc + 1) := by
    unfold Decoder.instr
    exact (dk_bind e).trans (rfl)
  rw [dk_dec e3, Nat.add_sub_cancel_left]
set_option maxRecDepth 20000 in
theorem dk_105 {c : ByteArray} {pc : Nat} (h : pc < c.size) (hb : c[pc].toNat = 105) : decode c pc = Except.ok (.lmul, 1) := by
  have e := dk_u1 h
  rw [hb] at e
  have e3 : (Decoder.instr pc) c pc = Except.ok (.lmul, pc + 1) := by
    unfold Decoder.instr
    exact (dk_bind e).trans (rfl)
  rw [dk_dec e3, Nat.add_sub_cancel_left]
set_option maxRecDepth 20000 in
theorem dk_108 {c : ByteArray} {pc : Nat} (h : pc < c.size) (hb : c[pc].toNat = 108) : decode c pc = Except.ok (.idiv, 1) := by
  have e := dk_u1 h
  rw [hb] at e
  have e3 : (Decoder.instr pc) c pc = Except.ok (.idiv, pc + 1) := by
    unfold Decoder.instr
    exact (dk_bind e).trans (rfl)
  rw [dk_dec e3, Nat.add_sub_cancel_left]
set_option maxRecDepth 20000 in
theorem dk_109 {c : ByteArray} {pc : Nat} (h : pc < c.size) (hb : c[pc].toNat = 109) : decode c pc = Except.ok (.ldiv, 1) := by
  have e := dk_u1 h
  rw [hb] at e
  have e3 : (Decoder.instr pc) c pc = Except.ok (.ldiv, pc + 1) := by
    unfold Decoder.instr
    exact (dk_bind e).trans (rfl)
  rw [dk_dec e3, Nat.add_sub_cancel_left]
set_option maxRecDepth 20000 in
theorem dk_112 {c : ByteArray} {pc : Nat} (h : pc < c.size) (hb : c[pc].toNat = 112) : decode c pc = Except.ok (.irem, 1) := by
  have e := dk_u1 h
  rw [hb] at e
  have e3 : (Decoder.instr pc) c pc = Except.ok (.irem, pc + 1) := by
    unfold Decoder.instr
    exact (dk_bind e).trans (rfl)
  rw [dk_dec e3, Nat.add_sub_cancel_left]
set_option maxRecDepth 20000 in
theorem dk_113 {c : ByteArray} {pc : Nat} (h : pc < c.size) (hb : c[pc].toNat = 113) : decode c pc = Except.ok (.lrem, 1) := by
  have e := dk_u1 h
  rw [hb] at e
  have e3 : (Decoder.instr pc) c pc = Except.ok (.lrem, pc + 1) := by
    unfold Decoder.instr
    exact (dk_bind e).trans (rfl)
  rw [dk_dec e3, Nat.add_sub_cancel_left]
set_option maxRecDepth 20000 in
theorem dk_116 {c : ByteArray} {pc : Nat} (h : pc < c.size) (hb : c[pc].toNat = 116) : decode c pc = Except.ok (.ineg, 1) := by
  have e := dk_u1 h
  rw [hb] at e
  have e3 : (Decoder.instr pc) c pc = Except.ok (.ineg, pc + 1) := by
    unfold Decoder.instr
    exact (dk_bind e).trans (rfl)
  rw [dk_dec e3, Nat.add_sub_cancel_left]
set_option maxRecDepth 20000 in
theorem dk_120 {c : ByteArray} {pc : Nat} (h : pc < c.size) (hb : c[pc].toNat = 120) : decode c pc = Except.ok (.ishl, 1) := by
  have e := dk_u1 h
  rw [hb] at e
  have e3 : (Decoder.instr pc) c pc = Except.ok (.ishl, pc + 1) := by
    unfold Decoder.instr
    exact (dk_bind e).trans (rfl)
  rw [dk_dec e3, Nat.add_sub_cancel_left]
set_option maxRecDepth 20000 in
theorem dk_121 {c : ByteArray} {pc : Nat} (h : pc < c.size) (hb : c[pc].toNat = 121) : decode c pc = Except.ok (.lshl, 1) := by
  have e := dk_u1 h
  rw [hb] at e
  have e3 : (Decoder.instr pc) c pc = Except.ok (.lshl, pc + 1) := by
    unfold Decoder.instr
    exact (dk_bind e).trans (rfl)
  rw [dk_dec e3, Nat.add_sub_cancel_left]
set_option maxRecDepth 20000 in
theorem dk_122 {c : ByteArray} {pc : Nat} (h : pc < c.size) (hb : c[pc].toNat = 122) : decode c pc = Except.ok (.ishr, 1) := by
  have e := dk_u1 h
  rw [hb] at e
  have e3 : (Decoder.instr pc) c pc = Except.ok (.ishr, pc + 1) := by
    unfold Decoder.instr
    exact (dk_bind e).trans (rfl)
  rw [dk_dec e3, Nat.add_sub_cancel_left]
set_option maxRecDepth 20000 in
theorem dk_123 {c : ByteArray} {pc : Nat} (h : pc < c.size) (hb : c[pc].toNat = 123) : decode c pc = Except.ok (.lshr, 1) := by
  have e := dk_u1 h
  rw [hb] at e
  have e3 : (Decoder.instr pc) c pc = Except.ok (.lshr, pc + 1) := by
    unfold Decoder.instr
    exact (dk_bind e).trans (rfl)
  rw [dk_dec e3, Nat.add_sub_cancel_left]
set_option maxRecDepth 20000 in
theorem dk_124 {c : ByteArray} {pc : Nat} (h : pc < c.size) (hb : c[pc].toNat = 124) : decode c pc = Except.ok (.iushr, 1) := by
  have e := dk_u1 h
  rw [hb] at e
  have e3 : (Decoder.instr pc) c pc = Except.ok (.iushr, pc + 1) := by
    unfold Decoder.instr
    exact (dk_bind e).trans (rfl)
  rw [dk_dec e3, Nat.add_sub_cancel_left]
set_option maxRecDepth 20000 in
theorem dk_125 {c : ByteArray} {pc : Nat} (h : pc < c.size) (hb : c[pc].toNat = 125) : decode c pc = Except.ok (.lushr, 1) := by
  have e := dk_u1 h
  rw [hb] at e
  have e3 : (Decoder.instr pc) c pc = Except.ok (.lushr, pc + 1) := by
    unfold Decoder.instr
    exact (dk_bind e).trans (rfl)
  rw [dk_dec e3, Nat.add_sub_cancel_left]
set_option maxRecDepth 20000 in
theorem dk_126 {c : ByteArray} {pc : Nat} (h : pc < c.size) (hb : c[pc].toNat = 126) : decode c pc = Except.ok (.iand, 1) := by
  have e := dk_u1 h
  rw [hb] at e
  have e3 : (Decoder.instr pc) c pc = Except.ok (.iand, pc + 1) := by
    unfold Decoder.instr
    exact (dk_bind e).trans (rfl)
  rw [dk_dec e3, Nat.add_sub_cancel_left]
set_option maxRecDepth 20000 in
theorem dk_128 {c : ByteArray} {pc : Nat} (h : pc < c.size) (hb : c[pc].toNat = 128) : decode c pc = Except.ok (.ior, 1) := by
  have e := dk_u1 h
  rw [hb] at e
  have e3 : (Decoder.instr pc) c pc = Except.ok (.ior, pc + 1) := by
    unfold Decoder.instr
    exact (dk_bind e).trans (rfl)
  rw [dk_dec e3, Nat.add_sub_cancel_left]
set_option maxRecDepth 20000 in
theorem dk_130 {c : ByteArray} {pc : Nat} (h : pc < c.size) (hb : c[pc].toNat = 130) : decode c pc = Except.ok (.ixor, 1) := by
  have e := dk_u1 h
  rw [hb] at e
  have e3 : (Decoder.instr pc) c pc = Except.ok (.ixor, pc + 1) := by
    unfold Decoder.instr
    exact (dk_bind e).trans (rfl)
  rw [dk_dec e3, Nat.add_sub_cancel_left]
set_option maxRecDepth 20000 in
theorem dk_132 {c : ByteArray} {pc : Nat} (h : pc < c.size) (hb : c[pc].toNat = 132) (h1 : pc + 1 < c.size) (h2 : pc + 1 + 1 < c.size) : decode c pc = Except.ok (.iinc c[pc + 1].toNat (Reader.signed 8 c[pc + 1 + 1].toNat), 3) := by
  have e := dk_u1 h
  rw [hb] at e
  have e3 : (Decoder.instr pc) c pc = Except.ok (.iinc c[pc + 1].toNat (Reader.signed 8 c[pc + 1 + 1].toNat), pc + 3) := by
    unfold Decoder.instr
    exact (dk_bind e).trans ((dk_bind (dk_u1 h1)).trans ((dk_bind (dk_s1 h2)).trans rfl))
  rw [dk_dec e3, Nat.add_sub_cancel_left]
set_option maxRecDepth 20000 in
theorem dk_133 {c : ByteArray} {pc : Nat} (h : pc < c.size) (hb : c[pc].toNat = 133) : decode c pc = Except.ok (.i2l, 1) := by
  have e := dk_u1 h
  rw [hb] at e
  have e3 : (Decoder.instr pc) c pc = Except.ok (.i2l, pc + 1) := by
    unfold Decoder.instr
    exact (dk_bind e).trans (rfl)
  rw [dk_dec e3, Nat.add_sub_cancel_left]
set_option maxRecDepth 20000 in
theorem dk_136 {c : ByteArray} {pc : Nat} (h : pc < c.size) (hb : c[pc].toNat = 136) : decode c pc = Except.ok (.l2i, 1) := by
  have e := dk_u1 h
  rw [hb] at e
  have e3 : (Decoder.instr pc) c pc = Except.ok (.l2i, pc + 1) := by
    unfold Decoder.instr
    exact (dk_bind e).trans (rfl)
  rw [dk_dec e3, Nat.add_sub_cancel_left]
set_option maxRecDepth 20000 in
theorem dk_145 {c : ByteArray} {pc : Nat} (h : pc < c.size) (hb : c[pc].toNat = 145) : decode c pc = Except.ok (.i2b, 1) := by
  have e := dk_u1 h
  rw [hb] at e
  have e3 : (Decoder.instr pc) c pc = Except.ok (.i2b, pc + 1) := by
    unfold Decoder.instr
    exact (dk_bind e).trans (rfl)
  rw [dk_dec e3, Nat.add_sub_cancel_left]
set_option maxRecDepth 20000 in
theorem dk_148 {c : ByteArray} {pc : Nat} (h : pc < c.size) (hb : c[pc].toNat = 148) : decode c pc = Except.ok (.lcmp, 1) := by
  have e := dk_u1 h
  rw [hb] at e
  have e3 : (Decoder.instr pc) c pc = Except.ok (.lcmp, pc + 1) := by
    unfold Decoder.instr
    exact (dk_bind e).trans (rfl)
  rw [dk_dec e3, Nat.add_sub_cancel_left]
set_option maxRecDepth 20000 in
theorem dk_153 {c : ByteArray} {pc : Nat} (h : pc < c.size) (hb : c[pc].toNat = 153) (h1 : pc + 1 < c.size) (h2 : pc + 1 + 1 < c.size) : decode c pc = Except.ok (.ifCond .eq (Reader.signed 16 (c[pc + 1].toNat * 256 + c[pc + 1 + 1].toNat)), 3) := by
  have e := dk_u1 h
  rw [hb] at e
  have e3 : (Decoder.instr pc) c pc = Except.ok (.ifCond .eq (Reader.signed 16 (c[pc + 1].toNat * 256 + c[pc + 1 + 1].toNat)), pc + 3) := by
    unfold Decoder.instr
    exact (dk_bind e).trans ((dk_bind (dk_s2 h1 h2)).trans rfl)
  rw [dk_dec e3, Nat.add_sub_cancel_left]
set_option maxRecDepth 20000 in
theorem dk_154 {c : ByteArray} {pc : Nat} (h : pc < c.size) (hb : c[pc].toNat = 154) (h1 : pc + 1 < c.size) (h2 : pc + 1 + 1 < c.size) : decode c pc = Except.ok (.ifCond .ne (Reader.signed 16 (c[pc + 1].toNat * 256 + c[pc + 1 + 1].toNat)), 3) := by
  have e := dk_u1 h
  rw [hb] at e
  have e3 : (Decoder.instr pc) c pc = Except.ok (.ifCond .ne (Reader.signed 16 (c[pc + 1].toNat * 256 + c[pc + 1 + 1].toNat)), pc + 3) := by
    unfold Decoder.instr
    exact (dk_bind e).trans ((dk_bind (dk_s2 h1 h2)).trans rfl)
  rw [dk_dec e3, Nat.add_sub_cancel_left]
set_option maxRecDepth 20000 in
theorem dk_155 {c : ByteArray} {pc : Nat} (h : pc < c.size) (hb : c[pc].toNat = 155) (h1 : pc + 1 < c.size) (h2 : pc + 1 + 1 < c.size) : decode c pc = Except.ok (.ifCond .lt (Reader.signed 16 (c[pc + 1].toNat * 256 + c[pc + 1 + 1].toNat)), 3) := by
  have e := dk_u1 h
  rw [hb] at e
  have e3 : (Decoder.instr pc) c pc = Except.ok (.ifCond .lt (Reader.signed 16 (c[pc + 1].toNat * 256 + c[pc + 1 + 1].toNat)), pc + 3) := by
    unfold Decoder.instr
    exact (dk_bind e).trans ((dk_bind (dk_s2 h1 h2)).trans rfl)
  rw [dk_dec e3, Nat.add_sub_cancel_left]
set_option maxRecDepth 20000 in
theorem dk_156 {c : ByteArray} {pc : Nat} (h : pc < c.size) (hb : c[pc].toNat = 156) (h1 : pc + 1 < c.size) (h2 : pc + 1 + 1 < c.size) : decode c pc = Except.ok (.ifCond .ge (Reader.signed 16 (c[pc + 1].toNat * 256 + c[pc + 1 + 1].toNat)), 3) := by
  have e := dk_u1 h
  rw [hb] at e
  have e3 : (Decoder.instr pc) c pc = Except.ok (.ifCond .ge (Reader.signed 16 (c[pc + 1].toNat * 256 + c[pc + 1 + 1].toNat)), pc + 3) := by
    unfold Decoder.instr
    exact (dk_bind e).trans ((dk_bind (dk_s2 h1 h2)).trans rfl)
  rw [dk_dec e3, Nat.add_sub_cancel_left]
set_option maxRecDepth 20000 in
theorem dk_157 {c : ByteArray} {pc : Nat} (h : pc < c.size) (hb : c[pc].toNat = 157) (h1 : pc + 1 < c.size) (h2 : pc + 1 + 1 < c.size) : decode c pc = Except.ok (.ifCond .gt (Reader.signed 16 (c[pc + 1].toNat * 256 + c[pc + 1 + 1].toNat)), 3) := by
  have e := dk_u1 h
  rw [hb] at e
  have e3 : (Decoder.instr pc) c pc = Except.ok (.ifCond .gt (Reader.signed 16 (c[pc + 1].toNat * 256 + c[pc + 1 + 1].toNat)), pc + 3) := by
    unfold Decoder.instr
    exact (dk_bind e).trans ((dk_bind (dk_s2 h1 h2)).trans rfl)
  rw [dk_dec e3, Nat.add_sub_cancel_left]
set_option maxRecDepth 20000 in
theorem dk_158 {c : ByteArray} {pc : Nat} (h : pc < c.size) (hb : c[pc].toNat = 158) (h1 : pc + 1 < c.size) (h2 : pc + 1 + 1 < c.size) : decode c pc = Except.ok (.ifCond .le (Reader.signed 16 (c[pc + 1].toNat * 256 + c[pc + 1 + 1].toNat)), 3) := by
  have e := dk_u1 h
  rw [hb] at e
  have e3 : (Decoder.instr pc) c pc = Except.ok (.ifCond .le (Reader.signed 16 (c[pc + 1].toNat * 256 + c[pc + 1 + 1].toNat)), pc + 3) := by
    unfold Decoder.instr
    exact (dk_bind e).trans ((dk_bind (dk_s2 h1 h2)).trans rfl)
  rw [dk_dec e3, Nat.add_sub_cancel_left]
set_option maxRecDepth 20000 in
theorem dk_159 {c : ByteArray} {pc : Nat} (h : pc < c.size) (hb : c[pc].toNat = 159) (h1 : pc + 1 < c.size) (h2 : pc + 1 + 1 < c.size) : decode c pc = Except.ok (.if_icmp .eq (Reader.signed 16 (c[pc + 1].toNat * 256 + c[pc + 1 + 1].toNat)), 3) := by
  have e := dk_u1 h
  rw [hb] at e
  have e3 : (Decoder.instr pc) c pc = Except.ok (.if_icmp .eq (Reader.signed 16 (c[pc + 1].toNat * 256 + c[pc + 1 + 1].toNat)), pc + 3) := by
    unfold Decoder.instr
    exact (dk_bind e).trans ((dk_bind (dk_s2 h1 h2)).trans rfl)
  rw [dk_dec e3, Nat.add_sub_cancel_left]
set_option maxRecDepth 20000 in
theorem dk_160 {c : ByteArray} {pc : Nat} (h : pc < c.size) (hb : c[pc].toNat = 160) (h1 : pc + 1 < c.size) (h2 : pc + 1 + 1 < c.size) : decode c pc = Except.ok (.if_icmp .ne (Reader.signed 16 (c[pc + 1].toNat * 256 + c[pc + 1 + 1].toNat)), 3) := by
  have e := dk_u1 h
  rw [hb] at e
  have e3 : (Decoder.instr pc) c pc = Except.ok (.if_icmp .ne (Reader.signed 16 (c[pc + 1].toNat * 256 + c[pc + 1 + 1].toNat)), pc + 3) := by
    unfold Decoder.instr
    exact (dk_bind e).trans ((dk_bind (dk_s2 h1 h2)).trans rfl)
  rw [dk_dec e3, Nat.add_sub_cancel_left]
set_option maxRecDepth 20000 in
theorem dk_161 {c : ByteArray} {pc : Nat} (h : pc < c.size) (hb : c[pc].toNat = 161) (h1 : pc + 1 < c.size) (h2 : pc + 1 + 1 < c.size) : decode c pc = Except.ok (.if_icmp .lt (Reader.signed 16 (c[pc + 1].toNat * 256 + c[pc + 1 + 1].toNat)), 3) := by
  have e := dk_u1 h
  rw [hb] at e
  have e3 : (Decoder.instr pc) c pc = Except.ok (.if_icmp .lt (Reader.signed 16 (c[pc + 1].toNat * 256 + c[pc + 1 + 1].toNat)), pc + 3) := by
    unfold Decoder.instr
    exact (dk_bind e).trans ((dk_bind (dk_s2 h1 h2)).trans rfl)
  rw [dk_dec e3, Nat.add_sub_cancel_left]
set_option maxRecDepth 20000 in
theorem dk_162 {c : ByteArray} {pc : Nat} (h : pc < c.size) (hb : c[pc].toNat = 162) (h1 : pc + 1 < c.size) (h2 : pc + 1 + 1 < c.size) : decode c pc = Except.ok (.if_icmp .ge (Reader.signed 16 (c[pc + 1].toNat * 256 + c[pc + 1 + 1].toNat)), 3) := by
  have e := dk_u1 h
  rw [hb] at e
  have e3 : (Decoder.instr pc) c pc = Except.ok (.if_icmp .ge (Reader.signed 16 (c[pc + 1].toNat * 256 + c[pc + 1 + 1].toNat)), pc + 3) := by
    unfold Decoder.instr
    exact (dk_bind e).trans ((dk_bind (dk_s2 h1 h2)).trans rfl)
  rw [dk_dec e3, Nat.add_sub_cancel_left]
set_option maxRecDepth 20000 in
theorem dk_163 {c : ByteArray} {pc : Nat} (h : pc < c.size) (hb : c[pc].toNat = 163) (h1 : pc + 1 < c.size) (h2 : pc + 1 + 1 < c.size) : decode c pc = Except.ok (.if_icmp .gt (Reader.signed 16 (c[pc + 1].toNat * 256 + c[pc + 1 + 1].toNat)), 3) := by
  have e := dk_u1 h
  rw [hb] at e
  have e3 : (Decoder.instr pc) c pc = Except.ok (.if_icmp .gt (Reader.signed 16 (c[pc + 1].toNat * 256 + c[pc + 1 + 1].toNat)), pc + 3) := by
    unfold Decoder.instr
    exact (dk_bind e).trans ((dk_bind (dk_s2 h1 h2)).trans rfl)
  rw [dk_dec e3, Nat.add_sub_cancel_left]
set_option maxRecDepth 20000 in
theorem dk_164 {c : ByteArray} {pc : Nat} (h : pc < c.size) (hb : c[pc].toNat = 164) (h1 : pc + 1 < c.size) (h2 : pc + 1 + 1 < c.size) : decode c pc = Except.ok (.if_icmp .le (Reader.signed 16 (c[pc + 1].toNat * 256 + c[pc + 1 + 1].toNat)), 3) := by
  have e := dk_u1 h
  rw [hb] at e
  have e3 : (Decoder.instr pc) c pc = Except.ok (.if_icmp .le (Reader.signed 16 (c[pc + 1].toNat * 256 + c[pc + 1 + 1].toNat)), pc + 3) := by
    unfold Decoder.instr
    exact (dk_bind e).trans ((dk_bind (dk_s2 h1 h2)).trans rfl)
  rw [dk_dec e3, Nat.add_sub_cancel_left]
set_option maxRecDepth 20000 in
theorem dk_167 {c : ByteArray} {pc : Nat} (h : pc < c.size) (hb : c[pc].toNat = 167) (h1 : pc + 1 < c.size) (h2 : pc + 1 + 1 < c.size) : decode c pc = Except.ok (.goto (Reader.signed 16 (c[pc + 1].toNat * 256 + c[pc + 1 + 1].toNat)), 3) := by
  have e := dk_u1 h
  rw [hb] at e
  have e3 : (Decoder.instr pc) c pc = Except.ok (.goto (Reader.signed 16 (c[pc + 1].toNat * 256 + c[pc + 1 + 1].toNat)), pc + 3) := by
    unfold Decoder.instr
    exact (dk_bind e).trans ((dk_bind (dk_s2 h1 h2)).trans rfl)
  rw [dk_dec e3, Nat.add_sub_cancel_left]
set_option maxRecDepth 20000 in
theorem dk_172 {c : ByteArray} {pc : Nat} (h : pc < c.size) (hb : c[pc].toNat = 172) : decode c pc = Except.ok (.ireturn, 1) := by
  have e := dk_u1 h
  rw [hb] at e
  have e3 : (Decoder.instr pc) c pc = Except.ok (.ireturn, pc + 1) := by
    unfold Decoder.instr
    exact (dk_bind e).trans (rfl)
  rw [dk_dec e3, Nat.add_sub_cancel_left]
set_option maxRecDepth 20000 in
theorem dk_173 {c : ByteArray} {pc : Nat} (h : pc < c.size) (hb : c[pc].toNat = 173) : decode c pc = Except.ok (.lreturn, 1) := by
  have e := dk_u1 h
  rw [hb] at e
  have e3 : (Decoder.instr pc) c pc = Except.ok (.lreturn, pc + 1) := by
    unfold Decoder.instr
    exact (dk_bind e).trans (rfl)
  rw [dk_dec e3, Nat.add_sub_cancel_left]
set_option maxRecDepth 20000 in
theorem dk_176 {c : ByteArray} {pc : Nat} (h : pc < c.size) (hb : c[pc].toNat = 176) : decode c pc = Except.ok (.areturn, 1) := by
  have e := dk_u1 h
  rw [hb] at e
  have e3 : (Decoder.instr pc) c pc = Except.ok (.areturn, pc + 1) := by
    unfold Decoder.instr
    exact (dk_bind e).trans (rfl)
  rw [dk_dec e3, Nat.add_sub_cancel_left]
set_option maxRecDepth 20000 in
theorem dk_177 {c : ByteArray} {pc : Nat} (h : pc < c.size) (hb : c[pc].toNat = 177) : decode c pc = Except.ok (.return_, 1) := by
  have e := dk_u1 h
  rw [hb] at e
  have e3 : (Decoder.instr pc) c pc = Except.ok (.return_, pc + 1) := by
    unfold Decoder.instr
    exact (dk_bind e).trans (rfl)
  rw [dk_dec e3, Nat.add_sub_cancel_left]
set_option maxRecDepth 20000 in
theorem dk_180 {c : ByteArray} {pc : Nat} (h : pc < c.size) (hb : c[pc].toNat = 180) (h1 : pc + 1 < c.size) (h2 : pc + 1 + 1 < c.size) : decode c pc = Except.ok (.getfield (c[pc + 1].toNat * 256 + c[pc + 1 + 1].toNat), 3) := by
  have e := dk_u1 h
  rw [hb] at e
  have e3 : (Decoder.instr pc) c pc = Except.ok (.getfield (c[pc + 1].toNat * 256 + c[pc + 1 + 1].toNat), pc + 3) := by
    unfold Decoder.instr
    exact (dk_bind e).trans ((dk_bind (dk_u2 h1 h2)).trans rfl)
  rw [dk_dec e3, Nat.add_sub_cancel_left]
set_option maxRecDepth 20000 in
theorem dk_181 {c : ByteArray} {pc : Nat} (h : pc < c.size) (hb : c[pc].toNat = 181) (h1 : pc + 1 < c.size) (h2 : pc + 1 + 1 < c.size) : decode c pc = Except.ok (.putfield (c[pc + 1].toNat * 256 + c[pc + 1 + 1].toNat), 3) := by
  have e := dk_u1 h
  rw [hb] at e
  have e3 : (Decoder.instr pc) c pc = Except.ok (.putfield (c[pc + 1].toNat * 256 + c[pc + 1 + 1].toNat), pc + 3) := by
    unfold Decoder.instr
    exact (dk_bind e).trans ((dk_bind (dk_u2 h1 h2)).trans rfl)
  rw [dk_dec e3, Nat.add_sub_cancel_left]
set_option maxRecDepth 20000 in
theorem dk_182 {c : ByteArray} {pc : Nat} (h : pc < c.size) (hb : c[pc].toNat = 182) (h1 : pc + 1 < c.size) (h2 : pc + 1 + 1 < c.size) : decode c pc = Except.ok (.invokevirtual (c[pc + 1].toNat * 256 + c[pc + 1 + 1].toNat), 3) := by
  have e := dk_u1 h
  rw [hb] at e
  have e3 : (Decoder.instr pc) c pc = Except.ok (.invokevirtual (c[pc + 1].toNat * 256 + c[pc + 1 + 1].toNat), pc + 3) := by
    unfold Decoder.instr
    exact (dk_bind e).trans ((dk_bind (dk_u2 h1 h2)).trans rfl)
  rw [dk_dec e3, Nat.add_sub_cancel_left]
set_option maxRecDepth 20000 in
theorem dk_183 {c : ByteArray} {pc : Nat} (h : pc < c.size) (hb : c[pc].toNat = 183) (h1 : pc + 1 < c.size) (h2 : pc + 1 + 1 < c.size) : decode c pc = Except.ok (.invokespecial (c[pc + 1].toNat * 256 + c[pc + 1 + 1].toNat), 3) := by
  have e := dk_u1 h
  rw [hb] at e
  have e3 : (Decoder.instr pc) c pc = Except.ok (.invokespecial (c[pc + 1].toNat * 256 + c[pc + 1 + 1].toNat), pc + 3) := by
    unfold Decoder.instr
    exact (dk_bind e).trans ((dk_bind (dk_u2 h1 h2)).trans rfl)
  rw [dk_dec e3, Nat.add_sub_cancel_left]
set_option maxRecDepth 20000 in
theorem dk_184 {c : ByteArray} {pc : Nat} (h : pc < c.size) (hb : c[pc].toNat = 184) (h1 : pc + 1 < c.size) (h2 : pc + 1 + 1 < c.size) : decode c pc = Except.ok (.invokestatic (c[pc + 1].toNat * 256 + c[pc + 1 + 1].toNat), 3) := by
  have e := dk_u1 h
  rw [hb] at e
  have e3 : (Decoder.instr pc) c pc = Except.ok (.invokestatic (c[pc + 1].toNat * 256 + c[pc + 1 + 1].toNat), pc + 3) := by
    unfold Decoder.instr
    exact (dk_bind e).trans ((dk_bind (dk_u2 h1 h2)).trans rfl)
  rw [dk_dec e3, Nat.add_sub_cancel_left]
set_option maxRecDepth 20000 in
theorem dk_187 {c : ByteArray} {pc : Nat} (h : pc < c.size) (hb : c[pc].toNat = 187) (h1 : pc + 1 < c.size) (h2 : pc + 1 + 1 < c.size) : decode c pc = Except.ok (.new (c[pc + 1].toNat * 256 + c[pc + 1 + 1].toNat), 3) := by
  have e := dk_u1 h
  rw [hb] at e
  have e3 : (Decoder.instr pc) c pc = Except.ok (.new (c[pc + 1].toNat * 256 + c[pc + 1 + 1].toNat), pc + 3) := by
    unfold Decoder.instr
    exact (dk_bind e).trans ((dk_bind (dk_u2 h1 h2)).trans rfl)
  rw [dk_dec e3, Nat.add_sub_cancel_left]
set_option maxRecDepth 20000 in
theorem dk_189 {c : ByteArray} {pc : Nat} (h : pc < c.size) (hb : c[pc].toNat = 189) (h1 : pc + 1 < c.size) (h2 : pc + 1 + 1 < c.size) : decode c pc = Except.ok (.anewarray (c[pc + 1].toNat * 256 + c[pc + 1 + 1].toNat), 3) := by
  have e := dk_u1 h
  rw [hb] at e
  have e3 : (Decoder.instr pc) c pc = Except.ok (.anewarray (c[pc + 1].toNat * 256 + c[pc + 1 + 1].toNat), pc + 3) := by
    unfold Decoder.instr
    exact (dk_bind e).trans ((dk_bind (dk_u2 h1 h2)).trans rfl)
  rw [dk_dec e3, Nat.add_sub_cancel_left]
set_option maxRecDepth 20000 in
theorem dk_190 {c : ByteArray} {pc : Nat} (h : pc < c.size) (hb : c[pc].toNat = 190) : decode c pc = Except.ok (.arraylength, 1) := by
  have e := dk_u1 h
  rw [hb] at e
  have e3 : (Decoder.instr pc) c pc = Except.ok (.arraylength, pc + 1) := by
    unfold Decoder.instr
    exact (dk_bind e).trans (rfl)
  rw [dk_dec e3, Nat.add_sub_cancel_left]
set_option maxRecDepth 20000 in
theorem dk_188_4 {c : ByteArray} {pc : Nat} (h : pc < c.size) (hb : c[pc].toNat = 188) (h1 : pc + 1 < c.size) (hb1 : c[pc + 1].toNat = 4) : decode c pc = Except.ok (.newarray .boolean, 2) := by
  have e := dk_u1 h
  rw [hb] at e
  have e1 := dk_u1 h1
  rw [hb1] at e1
  have e3 : (Decoder.instr pc) c pc = Except.ok (.newarray .boolean, pc + 2) := by
    unfold Decoder.instr
    refine (dk_bind e).trans ?_
    show (Decoder.newarray pc) c (pc + 1) = _
    unfold Decoder.newarray
    exact (dk_bind e1).trans rfl
  rw [dk_dec e3, Nat.add_sub_cancel_left]
set_option maxRecDepth 20000 in
theorem dk_188_8 {c : ByteArray} {pc : Nat} (h : pc < c.size) (hb : c[pc].toNat = 188) (h1 : pc + 1 < c.size) (hb1 : c[pc + 1].toNat = 8) : decode c pc = Except.ok (.newarray .byte, 2) := by
  have e := dk_u1 h
  rw [hb] at e
  have e1 := dk_u1 h1
  rw [hb1] at e1
  have e3 : (Decoder.instr pc) c pc = Except.ok (.newarray .byte, pc + 2) := by
    unfold Decoder.instr
    refine (dk_bind e).trans ?_
    show (Decoder.newarray pc) c (pc + 1) = _
    unfold Decoder.newarray
    exact (dk_bind e1).trans rfl
  rw [dk_dec e3, Nat.add_sub_cancel_left]
set_option maxRecDepth 20000 in
theorem dk_188_10 {c : ByteArray} {pc : Nat} (h : pc < c.size) (hb : c[pc].toNat = 188) (h1 : pc + 1 < c.size) (hb1 : c[pc + 1].toNat = 10) : decode c pc = Except.ok (.newarray .int, 2) := by
  have e := dk_u1 h
  rw [hb] at e
  have e1 := dk_u1 h1
  rw [hb1] at e1
  have e3 : (Decoder.instr pc) c pc = Except.ok (.newarray .int, pc + 2) := by
    unfold Decoder.instr
    refine (dk_bind e).trans ?_
    show (Decoder.newarray pc) c (pc + 1) = _
    unfold Decoder.newarray
    exact (dk_bind e1).trans rfl
  rw [dk_dec e3, Nat.add_sub_cancel_left]
set_option maxRecDepth 20000 in
theorem dk_188_11 {c : ByteArray} {pc : Nat} (h : pc < c.size) (hb : c[pc].toNat = 188) (h1 : pc + 1 < c.size) (hb1 : c[pc + 1].toNat = 11) : decode c pc = Except.ok (.newarray .long, 2) := by
  have e := dk_u1 h
  rw [hb] at e
  have e1 := dk_u1 h1
  rw [hb1] at e1
  have e3 : (Decoder.instr pc) c pc = Except.ok (.newarray .long, pc + 2) := by
    unfold Decoder.instr
    refine (dk_bind e).trans ?_
    show (Decoder.newarray pc) c (pc + 1) = _
    unfold Decoder.newarray
    exact (dk_bind e1).trans rfl
  rw [dk_dec e3, Nat.add_sub_cancel_left]
def dk_cd (cd : _root_.Jvm.ClassFile.Cond) : Nat := match cd with
  | .eq => 0
  | .ne => 1
  | .lt => 2
  | .ge => 3
  | .gt => 4
  | .le => 5
/-- the bytes are those of the instruction -/
def dk_chk (b0 b1 b2 pc : Nat) (i : Instr) : Bool := match i with
  | .iconst v => Nat.ble 2 b0 && Nat.ble b0 8 && decide (v = Int.sub (Int.ofNat b0) 3)
  | .lconst v => Nat.beq b0 (9 + v.val)
  | .bipush v => Nat.beq b0 16 && decide (v = Reader.signed 8 b1)
  | .sipush v => Nat.beq b0 17 && decide (v = Reader.signed 16 (b1 * 256 + b2))
  | .ldc v => Nat.beq b0 18 && Nat.beq (Nat.mod (Nat.div v 17179869184) 65536) b1
  | .ldc_w v => Nat.beq b0 19 && Nat.beq (Nat.mod (Nat.div v 17179869184) 65536) (b1 * 256 + b2)
  | .ldc2_w v => Nat.beq b0 20 && Nat.beq (Nat.mod (Nat.div v 36893488147419103232) 65536) (b1 * 256 + b2)
  | .iload v => Nat.beq b0 21 && Nat.beq v b1
  | .lload v => Nat.beq b0 22 && Nat.beq v b1
  | .aload v => Nat.beq b0 25 && Nat.beq v b1
  | .istore v => Nat.beq b0 54 && Nat.beq v b1
  | .lstore v => Nat.beq b0 55 && Nat.beq v b1
  | .astore v => Nat.beq b0 58 && Nat.beq v b1
  | .iload_n v => Nat.beq b0 (26 + v.val)
  | .lload_n v => Nat.beq b0 (30 + v.val)
  | .aload_n v => Nat.beq b0 (42 + v.val)
  | .istore_n v => Nat.beq b0 (59 + v.val)
  | .lstore_n v => Nat.beq b0 (63 + v.val)
  | .astore_n v => Nat.beq b0 (75 + v.val)
  | .iaload => Nat.beq b0 46
  | .laload => Nat.beq b0 47
  | .aaload => Nat.beq b0 50
  | .baload => Nat.beq b0 51
  | .iastore => Nat.beq b0 79
  | .lastore => Nat.beq b0 80
  | .aastore => Nat.beq b0 83
  | .bastore => Nat.beq b0 84
  | .pop => Nat.beq b0 87
  | .dup => Nat.beq b0 89
  | .dup2 => Nat.beq b0 92
  | .iadd => Nat.beq b0 96
  | .ladd => Nat.beq b0 97
  | .isub => Nat.beq b0 100
  | .lsub => Nat.beq b0 101
  | .imul => Nat.beq b0 104
  | .lmul => Nat.beq b0 105
  | .idiv => Nat.beq b0 108
  | .ldiv => Nat.beq b0 109
  | .irem => Nat.beq b0 112
  | .lrem => Nat.beq b0 113
  | .ineg => Nat.beq b0 116
  | .ishl => Nat.beq b0 120
  | .lshl => Nat.beq b0 121
  | .ishr => Nat.beq b0 122
  | .lshr => Nat.beq b0 123
  | .iushr => Nat.beq b0 124
  | .lushr => Nat.beq b0 125
  | .iand => Nat.beq b0 126
  | .ior => Nat.beq b0 128
  | .ixor => Nat.beq b0 130
  | .i2l => Nat.beq b0 133
  | .l2i => Nat.beq b0 136
  | .i2b => Nat.beq b0 145
  | .lcmp => Nat.beq b0 148
  | .ireturn => Nat.beq b0 172
  | .lreturn => Nat.beq b0 173
  | .areturn => Nat.beq b0 176
  | .return_ => Nat.beq b0 177
  | .arraylength => Nat.beq b0 190
  | .freturn => Nat.beq b0 172
  | .ifCond cd v => Nat.beq b0 (153 + dk_cd cd) && decide (Int.sub v (Int.ofNat pc) = Reader.signed 16 (b1 * 256 + b2))
  | .if_icmp cd v => Nat.beq b0 (159 + dk_cd cd) && decide (Int.sub v (Int.ofNat pc) = Reader.signed 16 (b1 * 256 + b2))
  | .goto v => Nat.beq b0 167 && decide (Int.sub v (Int.ofNat pc) = Reader.signed 16 (b1 * 256 + b2))
  | .getfield v => Nat.beq b0 180 && Nat.beq (Nat.mod (Nat.div v 65536) 65536) (b1 * 256 + b2)
  | .putfield v => Nat.beq b0 181 && Nat.beq (Nat.mod (Nat.div v 65536) 65536) (b1 * 256 + b2)
  | .invokevirtual v => Nat.beq b0 182 && Nat.beq (Nat.mod (Nat.div v 65536) 65536) (b1 * 256 + b2)
  | .invokespecial v => Nat.beq b0 183 && Nat.beq (Nat.mod (Nat.div v 65536) 65536) (b1 * 256 + b2)
  | .invokestatic v => Nat.beq b0 184 && Nat.beq (Nat.mod (Nat.div v 65536) 65536) (b1 * 256 + b2)
  | .new v => Nat.beq b0 187 && Nat.beq (Nat.mod (Nat.div v 256) 65536) (b1 * 256 + b2)
  | .anewarray v => Nat.beq b0 189 && Nat.beq (Nat.mod (Nat.div v 256) 65536) (b1 * 256 + b2)
  | .iinc v z => Nat.beq b0 132 && Nat.beq v b1 && decide (z = Reader.signed 8 b2)
  | .newarray t => Nat.beq b0 188 && (match t with
    | .boolean => Nat.beq b1 4
    | .byte => Nat.beq b1 8
    | .int => Nat.beq b1 10
    | .long => Nat.beq b1 11
    | _ => false)
  | _ => false
theorem dk_of {c : ByteArray} {b0 b1 b2 pc : Nat} {i : Instr} (h : dk_chk b0 b1 b2 pc i = true) (q0 : ∃ h : pc < c.size, c[pc].toNat = b0) (q1 : 2 ≤ (sm_real i pc).2 → ∃ h : pc + 1 < c.size, c[pc + 1].toNat = b1) (q2 : 3 ≤ (sm_real i pc).2 → ∃ h : pc + 1 + 1 < c.size, c[pc + 1 + 1].toNat = b2) : decode c pc = Except.ok (sm_real i pc) := by
  obtain ⟨q0, hb⟩ := q0
  cases i
  case iconst v =>
    simp only [dk_chk, Bool.and_eq_true, decide_eq_true_eq] at h
    obtain ⟨⟨h1, h2⟩, h3⟩ := h
    have h1 := Nat.le_of_ble_eq_true h1
    have h2 := Nat.le_of_ble_eq_true h2
    rcases (show b0 = 2 ∨ b0 = 3 ∨ b0 = 4 ∨ b0 = 5 ∨ b0 = 6 ∨ b0 = 7 ∨ b0 = 8 by omega) with rfl | rfl | rfl | rfl | rfl | rfl | rfl
    · rw [show v = (-1) from h3]; exact dk_2 q0 hb
    · rw [show v = 0 from h3]; exact dk_3 q0 hb
    · rw [show v = 1 from h3]; exact dk_4 q0 hb
    · rw [show v = 2 from h3]; exact dk_5 q0 hb
    · rw [show v = 3 from h3]; exact dk_6 q0 hb
    · rw [show v = 4 from h3]; exact dk_7 q0 hb
    · rw [show v = 5 from h3]; exact dk_8 q0 hb
  case lconst v =>
    have h := Nat.eq_of_beq_eq_true h
    rcases v with ⟨v, hv⟩
    rcases (show v = 0 ∨ v = 1 by omega) with rfl | rfl
    · exact dk_9 q0 (hb.trans h)
    · exact dk_10 q0 (hb.trans h)
  case bipush v =>
    simp only [dk_chk, Bool.and_eq_true, decide_eq_true_eq] at h
    obtain ⟨h1, h2⟩ := h
    obtain ⟨q1, c1⟩ := q1 (by show 2 ≤ 2; omega)
    rw [← c1] at h2
    show _ = Except.ok (Instr.bipush (v), 2)
    rw [h2]
    exact dk_16 q0 (hb.trans (Nat.eq_of_beq_eq_true h1)) q1
  case sipush v =>
    simp only [dk_chk, Bool.and_eq_true, decide_eq_true_eq] at h
    obtain ⟨h1, h2⟩ := h
    obtain ⟨q1, c1⟩ := q1 (by show 2 ≤ 3; omega)
    obtain ⟨q2, c2⟩ := q2 (by show 3 ≤ 3; omega)
    rw [← c1, ← c2] at h2
    show _ = Except.ok (Instr.sipush (v), 3)
    rw [h2]
    exact dk_17 q0 (hb.trans (Nat.eq_of_beq_eq_true h1)) q1 q2
  case ldc v =>
    simp only [dk_chk, Bool.and_eq_true, decide_eq_true_eq] at h
    obtain ⟨h1, h2⟩ := h
    obtain ⟨q1, c1⟩ := q1 (by show 2 ≤ 2; omega)
    rw [← c1] at h2
    have h2 := Nat.eq_of_beq_eq_true h2
    show _ = Except.ok (Instr.ldc (Nat.mod (Nat.div v 17179869184) 65536), 2)
    rw [h2]
    exact dk_18 q0 (hb.trans (Nat.eq_of_beq_eq_true h1)) q1
  case ldc_w v =>
    simp only [dk_chk, Bool.and_eq_true, decide_eq_true_eq] at h
    obtain ⟨h1, h2⟩ := h
    obtain ⟨q1, c1⟩ := q1 (by show 2 ≤ 3; omega)
    obtain ⟨q2, c2⟩ := q2 (by show 3 ≤ 3; omega)
    rw [← c1, ← c2] at h2
    have h2 := Nat.eq_of_beq_eq_true h2
    show _ = Except.ok (Instr.ldc_w (Nat.mod (Nat.div v 17179869184) 65536), 3)
    rw [h2]
    exact dk_19 q0 (hb.trans (Nat.eq_of_beq_eq_true h1)) q1 q2
  case ldc2_w v =>
    simp only [dk_chk, Bool.and_eq_true, decide_eq_true_eq] at h
    obtain ⟨h1, h2⟩ := h
    obtain ⟨q1, c1⟩ := q1 (by show 2 ≤ 3; omega)
    obtain ⟨q2, c2⟩ := q2 (by show 3 ≤ 3; omega)
    rw [← c1, ← c2] at h2
    have h2 := Nat.eq_of_beq_eq_true h2
    show _ = Except.ok (Instr.ldc2_w (Nat.mod (Nat.div v 36893488147419103232) 65536), 3)
    rw [h2]
    exact dk_20 q0 (hb.trans (Nat.eq_of_beq_eq_true h1)) q1 q2
  case iload v =>
    simp only [dk_chk, Bool.and_eq_true, decide_eq_true_eq] at h
    obtain ⟨h1, h2⟩ := h
    obtain ⟨q1, c1⟩ := q1 (by show 2 ≤ 2; omega)
    rw [← c1] at h2
    have h2 := Nat.eq_of_beq_eq_true h2
    show _ = Except.ok (Instr.iload (v), 2)
    rw [h2]
    exact dk_21 q0 (hb.trans (Nat.eq_of_beq_eq_true h1)) q1
  case lload v =>
    simp only [dk_chk, Bool.and_eq_true, decide_eq_true_eq] at h
    obtain ⟨h1, h2⟩ := h
    obtain ⟨q1, c1⟩ := q1 (by show 2 ≤ 2; omega)
    rw [← c1] at h2
    have h2 := Nat.eq_of_beq_eq_true h2
    show _ = Except.ok (Instr.lload (v), 2)
    rw [h2]
    exact dk_22 q0 (hb.trans (Nat.eq_of_beq_eq_true h1)) q1
  case aload v =>
    simp only [dk_chk, Bool.and_eq_true, decide_eq_true_eq] at h
    obtain ⟨h1, h2⟩ := h
    obtain ⟨q1, c1⟩ := q1 (by show 2 ≤ 2; omega)
    rw [← c1] at h2
    have h2 := Nat.eq_of_beq_eq_true h2
    show _ = Except.ok (Instr.aload (v), 2)
    rw [h2]
    exact dk_25 q0 (hb.trans (Nat.eq_of_beq_eq_true h1)) q1
  case istore v =>
    simp only [dk_chk, Bool.and_eq_true, decide_eq_true_eq] at h
    obtain ⟨h1, h2⟩ := h
    obtain ⟨q1, c1⟩ := q1 (by show 2 ≤ 2; omega)
    rw [← c1] at h2
    have h2 := Nat.eq_of_beq_eq_true h2
    show _ = Except.ok (Instr.istore (v), 2)
    rw [h2]
    exact dk_54 q0 (hb.trans (Nat.eq_of_beq_eq_true h1)) q1
  case lstore v =>
    simp only [dk_chk, Bool.and_eq_true, decide_eq_true_eq] at h
    obtain ⟨h1, h2⟩ := h
    obtain ⟨q1, c1⟩ := q1 (by show 2 ≤ 2; omega)
    rw [← c1] at h2
    have h2 := Nat.eq_of_beq_eq_true h2
    show _ = Except.ok (Instr.lstore (v), 2)
    rw [h2]
    exact dk_55 q0 (hb.trans (Nat.eq_of_beq_eq_true h1)) q1
  case astore v =>
    simp only [dk_chk, Bool.and_eq_true, decide_eq_true_eq] at h
    obtain ⟨h1, h2⟩ := h
    obtain ⟨q1, c1⟩ := q1 (by show 2 ≤ 2; omega)
    rw [← c1] at h2
    have h2 := Nat.eq_of_beq_eq_true h2
    show _ = Except.ok (Instr.astore (v), 2)
    rw [h2]
    exact dk_58 q0 (hb.trans (Nat.eq_of_beq_eq_true h1)) q1
  case iload_n v =>
    have h := Nat.eq_of_beq_eq_true h
    rcases v with ⟨v, hv⟩
    rcases (show v = 0 ∨ v = 1 ∨ v = 2 ∨ v = 3 by omega) with rfl | rfl | rfl | rfl
    · exact dk_26 q0 (hb.trans h)
    · exact dk_27 q0 (hb.trans h)
    · exact dk_28 q0 (hb.trans h)
    · exact dk_29 q0 (hb.trans h)
  case lload_n v =>
    have h := Nat.eq_of_beq_eq_true h
    rcases v with ⟨v, hv⟩
    rcases (show v = 0 ∨ v = 1 ∨ v = 2 ∨ v = 3 by omega) with rfl | rfl | rfl | rfl
    · exact dk_30 q0 (hb.trans h)
    · exact dk_31 q0 (hb.trans h)
    · exact dk_32 q0 (hb.trans h)
    · exact dk_33 q0 (hb.trans h)
  case aload_n v =>
    have h := Nat.eq_of_beq_eq_true h
    rcases v with ⟨v, hv⟩
    rcases (show v = 0 ∨ v = 1 ∨ v = 2 ∨ v = 3 by omega) with rfl | rfl | rfl | rfl
    · exact dk_42 q0 (hb.trans h)
    · exact dk_43 q0 (hb.trans h)
    · exact dk_44 q0 (hb.trans h)
    · exact dk_45 q0 (hb.trans h)
  case istore_n v =>
    have h := Nat.eq_of_beq_eq_true h
    rcases v with ⟨v, hv⟩
    rcases (show v = 0 ∨ v = 1 ∨ v = 2 ∨ v = 3 by omega) with rfl | rfl | rfl | rfl
    · exact dk_59 q0 (hb.trans h)
    · exact dk_60 q0 (hb.trans h)
    · exact dk_61 q0 (hb.trans h)
    · exact dk_62 q0 (hb.trans h)
  case lstore_n v =>
    have h := Nat.eq_of_beq_eq_true h
    rcases v with ⟨v, hv⟩
    rcases (show v = 0 ∨ v = 1 ∨ v = 2 ∨ v = 3 by omega) with rfl | rfl | rfl | rfl
    · exact dk_63 q0 (hb.trans h)
    · exact dk_64 q0 (hb.trans h)
    · exact dk_65 q0 (hb.trans h)
    · exact dk_66 q0 (hb.trans h)
  case astore_n v =>
    have h := Nat.eq_of_beq_eq_true h
    rcases v with ⟨v, hv⟩
    rcases (show v = 0 ∨ v = 1 ∨ v = 2 ∨ v = 3 by omega) with rfl | rfl | rfl | rfl
    · exact dk_75 q0 (hb.trans h)
    · exact dk_76 q0 (hb.trans h)
    · exact dk_77 q0 (hb.trans h)
    · exact dk_78 q0 (hb.trans h)
  case iaload =>
    exact dk_46 q0 (hb.trans (Nat.eq_of_beq_eq_true h))
  case laload =>
    exact dk_47 q0 (hb.trans (Nat.eq_of_beq_eq_true h))
  case aaload =>
    exact dk_50 q0 (hb.trans (Nat.eq_of_beq_eq_true h))
  case baload =>
    exact dk_51 q0 (hb.trans (Nat.eq_of_beq_eq_true h))
  case iastore =>
    exact dk_79 q0 (hb.trans (Nat.eq_of_beq_eq_true h))
  case lastore =>
    exact dk_80 q0 (hb.trans (Nat.eq_of_beq_eq_true h))
  case aastore =>
    exact dk_83 q0 (hb.trans (Nat.eq_of_beq_eq_true h))
  case bastore =>
    exact dk_84 q0 (hb.trans (Nat.eq_of_beq_eq_true h))
  case pop =>
    exact dk_87 q0 (hb.trans (Nat.eq_of_beq_eq_true h))
  case dup =>
    exact dk_89 q0 (hb.trans (Nat.eq_of_beq_eq_true h))
  case dup2 =>
    exact dk_92 q0 (hb.trans (Nat.eq_of_beq_eq_true h))
  case iadd =>
    exact dk_96 q0 (hb.trans (Nat.eq_of_beq_eq_true h))
  case ladd =>
    exact dk_97 q0 (hb.trans (Nat.eq_of_beq_eq_true h))
  case isub =>
    exact dk_100 q0 (hb.trans (Nat.eq_of_beq_eq_true h))
  case lsub =>
    exact dk_101 q0 (hb.trans (Nat.eq_of_beq_eq_true h))
  case imul =>
    exact dk_104 q0 (hb.trans (Nat.eq_of_beq_eq_true h))
  case lmul =>
    exact dk_105 q0 (hb.trans (Nat.eq_of_beq_eq_true h))
  case idiv =>
    exact dk_108 q0 (hb.trans (Nat.eq_of_beq_eq_true h))
  case ldiv =>
    exact dk_109 q0 (hb.trans (Nat.eq_of_beq_eq_true h))
  case irem =>
    exact dk_112 q0 (hb.trans (Nat.eq_of_beq_eq_true h))
  case lrem =>
    exact dk_113 q0 (hb.trans (Nat.eq_of_beq_eq_true h))
  case ineg =>
    exact dk_116 q0 (hb.trans (Nat.eq_of_beq_eq_true h))
  case ishl =>
    exact dk_120 q0 (hb.trans (Nat.eq_of_beq_eq_true h))
  case lshl =>
    exact dk_121 q0 (hb.trans (Nat.eq_of_beq_eq_true h))
  case ishr =>
    exact dk_122 q0 (hb.trans (Nat.eq_of_beq_eq_true h))
  case lshr =>
    exact dk_123 q0 (hb.trans (Nat.eq_of_beq_eq_true h))
  case iushr =>
    exact dk_124 q0 (hb.trans (Nat.eq_of_beq_eq_true h))
  case lushr =>
    exact dk_125 q0 (hb.trans (Nat.eq_of_beq_eq_true h))
  case iand =>
    exact dk_126 q0 (hb.trans (Nat.eq_of_beq_eq_true h))
  case ior =>
    exact dk_128 q0 (hb.trans (Nat.eq_of_beq_eq_true h))
  case ixor =>
    exact dk_130 q0 (hb.trans (Nat.eq_of_beq_eq_true h))
  case i2l =>
    exact dk_133 q0 (hb.trans (Nat.eq_of_beq_eq_true h))
  case l2i =>
    exact dk_136 q0 (hb.trans (Nat.eq_of_beq_eq_true h))
  case i2b =>
    exact dk_145 q0 (hb.trans (Nat.eq_of_beq_eq_true h))
  case lcmp =>
    exact dk_148 q0 (hb.trans (Nat.eq_of_beq_eq_true h))
  case ireturn =>
    exact dk_172 q0 (hb.trans (Nat.eq_of_beq_eq_true h))
  case lreturn =>
    exact dk_173 q0 (hb.trans (Nat.eq_of_beq_eq_true h))
  case areturn =>
    exact dk_176 q0 (hb.trans (Nat.eq_of_beq_eq_true h))
  case return_ =>
    exact dk_177 q0 (hb.trans (Nat.eq_of_beq_eq_true h))
  case arraylength =>
    exact dk_190 q0 (hb.trans (Nat.eq_of_beq_eq_true h))
  case freturn =>
    exact dk_172 q0 (hb.trans (Nat.eq_of_beq_eq_true h))
  case ifCond cd v =>
    simp only [dk_chk, Bool.and_eq_true, decide_eq_true_eq] at h
    obtain ⟨h1, h2⟩ := h
    have h1 := Nat.eq_of_beq_eq_true h1
    obtain ⟨w1, c1⟩ := q1 (by show 2 ≤ 3; omega)
    obtain ⟨w2, c2⟩ := q2 (by show 3 ≤ 3; omega)
    rw [← c1, ← c2] at h2
    have h2 : v - (pc : Int) = Reader.signed 16 (c[pc + 1].toNat * 256 + c[pc + 1 + 1].toNat) := h2
    clear q1 q2
    cases cd
    · show _ = Except.ok (Instr.ifCond .eq (v - (pc : Int)), 3)
      rw [h2]
      exact dk_153 q0 (hb.trans h1) w1 w2
    · show _ = Except.ok (Instr.ifCond .ne (v - (pc : Int)), 3)
      rw [h2]
      exact dk_154 q0 (hb.trans h1) w1 w2
    · show _ = Except.ok (Instr.ifCond .lt (v - (pc : Int)), 3)
      rw [h2]
      exact dk_155 q0 (hb.trans h1) w1 w2
    · show _ = Except.ok (Instr.ifCond .ge (v - (pc : Int)), 3)
      rw [h2]
      exact dk_156 q0 (hb.trans h1) w1 w2
    · show _ = Except.ok (Instr.ifCond .gt (v - (pc : Int)), 3)
      rw [h2]
      exact dk_157 q0 (hb.trans h1) w1 w2
    · show _ = Except.ok (Instr.ifCond .le (v - (pc : Int)), 3)
      rw [h2]
      exact dk_158 q0 (hb.trans h1) w1 w2
  case if_icmp cd v =>
    simp only [dk_chk, Bool.and_eq_true, decide_eq_true_eq] at h
    obtain ⟨h1, h2⟩ := h
    have h1 := Nat.eq_of_beq_eq_true h1
    obtain ⟨w1, c1⟩ := q1 (by show 2 ≤ 3; omega)
    obtain ⟨w2, c2⟩ := q2 (by show 3 ≤ 3; omega)
    rw [← c1, ← c2] at h2
    have h2 : v - (pc : Int) = Reader.signed 16 (c[pc + 1].toNat * 256 + c[pc + 1 + 1].toNat) := h2
    clear q1 q2
    cases cd
    · show _ = Except.ok (Instr.if_icmp .eq (v - (pc : Int)), 3)
      rw [h2]
      exact dk_159 q0 (hb.trans h1) w1 w2
    · show _ = Except.ok (Instr.if_icmp .ne (v - (pc : Int)), 3)
      rw [h2]
      exact dk_160 q0 (hb.trans h1) w1 w2
    · show _ = Except.ok (Instr.if_icmp .lt (v - (pc : Int)), 3)
      rw [h2]
      exact dk_161 q0 (hb.trans h1) w1 w2
    · show _ = Except.ok (Instr.if_icmp .ge (v - (pc : Int)), 3)
      rw [h2]
      exact dk_162 q0 (hb.trans h1) w1 w2
    · show _ = Except.ok (Instr.if_icmp .gt (v - (pc : Int)), 3)
      rw [h2]
      exact dk_163 q0 (hb.trans h1) w1 w2
    · show _ = Except.ok (Instr.if_icmp .le (v - (pc : Int)), 3)
      rw [h2]
      exact dk_164 q0 (hb.trans h1) w1 w2
  case goto v =>
    simp only [dk_chk, Bool.and_eq_true, decide_eq_true_eq] at h
    obtain ⟨h1, h2⟩ := h
    obtain ⟨q1, c1⟩ := q1 (by show 2 ≤ 3; omega)
    obtain ⟨q2, c2⟩ := q2 (by show 3 ≤ 3; omega)
    rw [← c1, ← c2] at h2
    have h2 : v - (pc : Int) = Reader.signed 16 (c[pc + 1].toNat * 256 + c[pc + 1 + 1].toNat) := h2
    show _ = Except.ok (Instr.goto (v - (pc : Int)), 3)
    rw [h2]
    exact dk_167 q0 (hb.trans (Nat.eq_of_beq_eq_true h1)) q1 q2
  case getfield v =>
    simp only [dk_chk, Bool.and_eq_true, decide_eq_true_eq] at h
    obtain ⟨h1, h2⟩ := h
    obtain ⟨q1, c1⟩ := q1 (by show 2 ≤ 3; omega)
    obtain ⟨q2, c2⟩ := q2 (by show 3 ≤ 3; omega)
    rw [← c1, ← c2] at h2
    have h2 := Nat.eq_of_beq_eq_true h2
    show _ = Except.ok (Instr.getfield (Nat.mod (Nat.div v 65536) 65536), 3)
    rw [h2]
    exact dk_180 q0 (hb.trans (Nat.eq_of_beq_eq_true h1)) q1 q2
  case putfield v =>
    simp only [dk_chk, Bool.and_eq_true, decide_eq_true_eq] at h
    obtain ⟨h1, h2⟩ := h
    obtain ⟨q1, c1⟩ := q1 (by show 2 ≤ 3; omega)
    obtain ⟨q2, c2⟩ := q2 (by show 3 ≤ 3; omega)
    rw [← c1, ← c2] at h2
    have h2 := Nat.eq_of_beq_eq_true h2
    show _ = Except.ok (Instr.putfield (Nat.mod (Nat.div v 65536) 65536), 3)
    rw [h2]
    exact dk_181 q0 (hb.trans (Nat.eq_of_beq_eq_true h1)) q1 q2
  case invokevirtual v =>
    simp only [dk_chk, Bool.and_eq_true, decide_eq_true_eq] at h
    obtain ⟨h1, h2⟩ := h
    obtain ⟨q1, c1⟩ := q1 (by show 2 ≤ 3; omega)
    obtain ⟨q2, c2⟩ := q2 (by show 3 ≤ 3; omega)
    rw [← c1, ← c2] at h2
    have h2 := Nat.eq_of_beq_eq_true h2
    show _ = Except.ok (Instr.invokevirtual (Nat.mod (Nat.div v 65536) 65536), 3)
    rw [h2]
    exact dk_182 q0 (hb.trans (Nat.eq_of_beq_eq_true h1)) q1 q2
  case invokespecial v =>
    simp only [dk_chk, Bool.and_eq_true, decide_eq_true_eq] at h
    obtain ⟨h1, h2⟩ := h
    obtain ⟨q1, c1⟩ := q1 (by show 2 ≤ 3; omega)
    obtain ⟨q2, c2⟩ := q2 (by show 3 ≤ 3; omega)
    rw [← c1, ← c2] at h2
    have h2 := Nat.eq_of_beq_eq_true h2
    show _ = Except.ok (Instr.invokespecial (Nat.mod (Nat.div v 65536) 65536), 3)
    rw [h2]
    exact dk_183 q0 (hb.trans (Nat.eq_of_beq_eq_true h1)) q1 q2
  case invokestatic v =>
    simp only [dk_chk, Bool.and_eq_true, decide_eq_true_eq] at h
    obtain ⟨h1, h2⟩ := h
    obtain ⟨q1, c1⟩ := q1 (by show 2 ≤ 3; omega)
    obtain ⟨q2, c2⟩ := q2 (by show 3 ≤ 3; omega)
    rw [← c1, ← c2] at h2
    have h2 := Nat.eq_of_beq_eq_true h2
    show _ = Except.ok (Instr.invokestatic (Nat.mod (Nat.div v 65536) 65536), 3)
    rw [h2]
    exact dk_184 q0 (hb.trans (Nat.eq_of_beq_eq_true h1)) q1 q2
  case new v =>
    simp only [dk_chk, Bool.and_eq_true, decide_eq_true_eq] at h
    obtain ⟨h1, h2⟩ := h
    obtain ⟨q1, c1⟩ := q1 (by show 2 ≤ 3; omega)
    obtain ⟨q2, c2⟩ := q2 (by show 3 ≤ 3; omega)
    rw [← c1, ← c2] at h2
    have h2 := Nat.eq_of_beq_eq_true h2
    show _ = Except.ok (Instr.new (Nat.mod (Nat.div v 256) 65536), 3)
    rw [h2]
    exact dk_187 q0 (hb.trans (Nat.eq_of_beq_eq_true h1)) q1 q2
  case anewarray v =>
    simp only [dk_chk, Bool.and_eq_true, decide_eq_true_eq] at h
    obtain ⟨h1, h2⟩ := h
    obtain ⟨q1, c1⟩ := q1 (by show 2 ≤ 3; omega)
    obtain ⟨q2, c2⟩ := q2 (by show 3 ≤ 3; omega)
    rw [← c1, ← c2] at h2
    have h2 := Nat.eq_of_beq_eq_true h2
    show _ = Except.ok (Instr.anewarray (Nat.mod (Nat.div v 256) 65536), 3)
    rw [h2]
    exact dk_189 q0 (hb.trans (Nat.eq_of_beq_eq_true h1)) q1 q2
  case iinc v z =>
    simp only [dk_chk, Bool.and_eq_true, decide_eq_true_eq] at h
    obtain ⟨⟨h1, h2⟩, h3⟩ := h
    have h2 := Nat.eq_of_beq_eq_true h2
    obtain ⟨q1, c1⟩ := q1 (by show 2 ≤ 3; omega)
    obtain ⟨q2, c2⟩ := q2 (by show 3 ≤ 3; omega)
    rw [← c1] at h2
    rw [← c2] at h3
    show _ = Except.ok (Instr.iinc v z, 3)
    rw [h2, h3]
    exact dk_132 q0 (hb.trans (Nat.eq_of_beq_eq_true h1)) q1 q2
  case newarray t =>
    simp only [dk_chk, Bool.and_eq_true] at h
    obtain ⟨h1, h2⟩ := h
    obtain ⟨w1, c1⟩ := q1 (by show 2 ≤ 2; omega)
    have hb := hb.trans (Nat.eq_of_beq_eq_true h1)
    clear q1 q2 h1
    cases t
    all_goals first | exact dk_188_4 q0 hb w1 (c1.trans (Nat.eq_of_beq_eq_true h2)) | exact dk_188_8 q0 hb w1 (c1.trans (Nat.eq_of_beq_eq_true h2)) | exact dk_188_10 q0 hb w1 (c1.trans (Nat.eq_of_beq_eq_true h2)) | exact dk_188_11 q0 hb w1 (c1.trans (Nat.eq_of_beq_eq_true h2)) | exact absurd h2 Bool.false_ne_true
  all_goals cases h
