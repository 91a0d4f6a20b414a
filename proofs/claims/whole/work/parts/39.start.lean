/-! the law's start -/
theorem sm_arrOa {args : Array Value} {s : State} {t : FieldType} (h : va_AOA t s) : ∃ c, ArrOfT s c (.array t) ∧ va_RA s c (.array t) := by
  unfold va_AOA Cond.before at h
  simp only [Cond.holds, Cond.value, beq_iff_eq] at h
  cases hc : s.vm.findClass (FieldType.array t).toString with
  | none => simp [hc] at h
  | some comp =>
    simp only [hc, Option.bind_some, Option.bind_eq_some_iff, Option.map_eq_some_iff] at h
    obtain ⟨c, hi, k, hk, hb⟩ := h
    obtain ⟨hlt, hp, -⟩ := Array.findIdx?_eq_some_iff_getElem.mp hi
    have hkk : s.vm.classes[c] = k := (Array.getElem?_eq_some_iff.mp hk).2
    rw [hkk] at hp
    cases hkind : k.kind with
    | array component ty =>
      rw [hkind] at hb hp
      simp at hb hp
      exact ⟨c, fun n z => ⟨fun k h => (by cases h), k, hk, comp, by rw [hkind, hp, hb.1]⟩, hb.2⟩
    | _ => rw [hkind] at hb; simp at hb
theorem st_cl {L : Nat} (h : L ≤ 3072) : (Int32.ofNat L).toNatClampNeg = L := by
  show (Int32.ofNat L).toInt.toNat = L
  rw [Int32.toInt_ofNat_of_lt (by omega)]
  rfl
theorem st_t (i : Nat) {w : Cond} (h : tables_1[i]? = some w) : w ∈ lw_tbl := List.mem_append_right _ (List.mem_of_getElem? h)
theorem st_nc {args : Array Value} {s : State} (hg : ∀ w ∈ st_fl, w.before args s = true) : ∀ a b, a < 4 → b < 4 → a ≠ b → va_Nc (sm_xn a) (sm_xn b) s := by
  intro a b ha hb hab
  have key : ∀ x y : Nat, (x = 0 ∨ x = 1 ∨ x = 2 ∨ x = 3) → (y = 0 ∨ y = 1 ∨ y = 2 ∨ y = 3) → x ≠ y → va_Nc (sm_xn x) (sm_xn y) s := by
    intro x y hx hy hxy
    rcases hx with rfl | rfl | rfl | rfl <;> rcases hy with rfl | rfl | rfl | rfl
    · exact absurd rfl hxy
    · exact va_Nc.of (hg _ (List.mem_of_getElem? (i := 41) rfl))
    · exact va_Nc.of (hg _ (List.mem_of_getElem? (i := 25) rfl))
    · exact va_Nc.of (hg _ (List.mem_of_getElem? (i := 74) rfl))
    · exact va_Nc.of (hg _ (List.mem_of_getElem? (i := 57) rfl))
    · exact absurd rfl hxy
    · exact va_Nc.of (hg _ (List.mem_of_getElem? (i := 24) rfl))
    · exact va_Nc.of (hg _ (List.mem_of_getElem? (i := 73) rfl))
    · exact va_Nc.of (hg _ (List.mem_of_getElem? (i := 56) rfl))
    · exact va_Nc.of (hg _ (List.mem_of_getElem? (i := 40) rfl))
    · exact absurd rfl hxy
    · exact va_Nc.of (hg _ (List.mem_of_getElem? (i := 72) rfl))
    · exact va_Nc.of (hg _ (List.mem_of_getElem? (i := 58) rfl))
    · exact va_Nc.of (hg _ (List.mem_of_getElem? (i := 42) rfl))
    · exact va_Nc.of (hg _ (List.mem_of_getElem? (i := 26) rfl))
    · exact absurd rfl hxy
  exact key a b (by omega) (by omega) hab
theorem st_start {p : Program} {s : State} {m : MethodId} {meth : Method} {c : Code} {b L : Nat} {xs : Nat → Int32} (hL : L ≤ 3072) (C0 : lw_At p s m meth c b L xs) : ∃ (D : va_G) (tc : Nat → ClassId) (ρs adV : Nat → Nat), sm_St D tc ρs adV (sm_Z xs L) s.heap.size s ∧ ρs 8191 = b := by
  obtain ⟨hx, hb, hr, hml, hown, hts, hX, hbl, hlocks, hgv⟩ := C0
  have hg : ∀ w ∈ st_fl, w.before #[Value.ref b] s = true := flat_of_before _ hgv
  have hA : ∀ a : Nat, a < s.heap.size → ¬ (fun q : Nat => s.heap.size ≤ q) a := fun a h => Nat.not_le.mpr h
  obtain ⟨D, hD⟩ := st_kn hts
  obtain ⟨c20, a20, b20⟩ : ∃ c, s.vm.findClass ("[" ++ FieldType.int.toString) = some c ∧ ArrOfT s c .int := sm_arrOf (hts _ (st_t 116 (by decide +kernel)))
  obtain ⟨c21, a21, b21⟩ : ∃ c, s.vm.findClass ("[" ++ FieldType.byte.toString) = some c ∧ ArrOfT s c .byte := sm_arrOf (hts _ (st_t 77 (by decide +kernel)))
  obtain ⟨c22, a22, b22⟩ : ∃ c, s.vm.findClass ("[" ++ FieldType.boolean.toString) = some c ∧ ArrOfT s c .boolean := sm_arrOf (hts _ (st_t 1785 (by decide +kernel)))
  obtain ⟨c23, a23, b23⟩ : ∃ c, s.vm.findClass ("[" ++ FieldType.long.toString) = some c ∧ ArrOfT s c .long := sm_arrOf (hts _ (st_t 2264 (by decide +kernel)))
  have hoA0 : (Cond.arrayOver (.array .int)).before #[Value.ref b] s = true := hts _ (st_t 1571 (by decide +kernel))
  have hoA : va_AOA .int s := hoA0
  have ho10 : va_AO RX10 s := va_AO.of (hts _ (st_t 79 (by decide +kernel)))
  have ho3 : va_AO RX3 s := va_AO.of (hts _ (st_t 118 (by decide +kernel)))
  have ho7 : va_AO RX7 s := va_AO.of (hts _ (st_t 223 (by decide +kernel)))
  obtain ⟨c24, b24, a24⟩ := sm_arrOa (args := #[]) hoA
  obtain ⟨c25, b25, a25⟩ := sm_arrOv (args := #[]) ho10
  obtain ⟨c26, b26, a26⟩ := sm_arrOv (args := #[]) ho3
  obtain ⟨c27, b27, a27⟩ := sm_arrOv (args := #[]) ho7
  have hch : ∀ i : Nat, ∃ x : Nat × Nat, i < 26 → vk_S 1 [(sm_strs.getD i []).length] [sm_strs.getD i []] (fun _ => x.1) (fun _ => x.2) (fun q : Nat => s.heap.size ≤ q) s s.heap ∧ ∀ q ∈ st_L, q.2.2 = i → (Term.string q.1 q.2.1).eval #[Value.ref b] s none [] s = some (.ref x.1) := by
    intro i
    by_cases hi : i < 26
    · obtain ⟨x, hx⟩ := st_one hg hA hi
      exact ⟨x, fun _ => hx⟩
    · exact ⟨(0, 0), fun h => absurd h hi⟩
  obtain ⟨f, hf⟩ := Classical.axiomOfChoice hch
  have hρ : ∀ i, i < 26 → (fun r : Nat => if r = 8191 then b else (f (r - 4096)).1) (4096 + i) = (f i).1 := by
    intro i hi
    show (if 4096 + i = 8191 then b else (f (4096 + i - 4096)).1) = (f i).1
    rw [if_neg (by omega), Nat.add_sub_cancel_left]
  refine ⟨D, fun t => if t = 20 then c20 else if t = 21 then c21 else if t = 22 then c22 else if t = 23 then c23 else if t = 24 then c24 else if t = 25 then c25 else if t = 26 then c26 else c27, fun r => if r = 8191 then b else (f (r - 4096)).1, fun i => (f i).2, ?_, if_pos rfl⟩
  refine ⟨⟨hD, fun k q hq => ?_⟩, fun w hw hz => ?_, ⟨ho10, ho3, ho7, hoA, st_nc hg⟩, fun own k i hw hi => ?_, fun i hi => ?_, ?_, ⟨?_, ?_, ?_⟩, ⟨?_, ?_, ?_, ?_⟩, Nat.le_refl _⟩
  · match k, hq with
    | 0, hq => cases hq; exact ⟨b20, a20⟩
    | 1, hq => cases hq; exact ⟨b21, a21⟩
    | 2, hq => cases hq; exact ⟨b22, a22⟩
    | 3, hq => cases hq; exact ⟨b23, a23⟩
    | 4, hq => cases hq; exact ⟨b24, a24⟩
    | 5, hq => cases hq; exact ⟨b25, a25⟩
    | 6, hq => cases hq; exact ⟨b26, a26⟩
    | 7, hq => cases hq; exact ⟨b27, a27⟩
    | k + 8, hq => cases hq
  · refine va_Nw.of ?_ (hts w hw)
    cases w <;> first | rfl | (cases hz; done)
  · have h1 := List.all_eq_true.mp st_refs _ hw
    have h1 : st_L.any (fun q => decide (q.1 = own) && Nat.beq q.2.1 k && decide (sm_txts.getD q.2.2 "" = sm_txts.getD i "")) = true := h1
    obtain ⟨q, hq, h2⟩ := List.any_eq_true.mp h1
    rw [Bool.and_eq_true, Bool.and_eq_true, decide_eq_true_eq, decide_eq_true_eq] at h2
    obtain ⟨⟨e1, e2⟩, e3⟩ := h2
    have e2 := Nat.eq_of_beq_eq_true e2
    rw [sm_txs, st_len] at hi
    have hq26 := sm_blt (List.all_eq_true.mp st_L26 q hq)
    have e4 : q.2.2 = i := by
      have h3 := List.all_eq_true.mp (List.all_eq_true.mp st_inj q.2.2 (List.mem_range.mpr hq26)) i (List.mem_range.mpr hi)
      rw [Bool.or_eq_true] at h3
      rcases h3 with h3 | h3
      · exact Nat.eq_of_beq_eq_true h3
      · rw [e3] at h3
        simp at h3
    have h5 := (hf i hi).2 q hq e4
    rw [e1, e2] at h5
    rw [hρ i hi]
    exact vk_R.of (hts _ hw) h5
  · rw [st_len] at hi
    rw [hρ i hi]
    exact (hf i hi).1
  · exact vx_Zqof (hts _ (st_t 749 (by decide +kernel))) (hts _ (st_t 14 (by decide +kernel))) (hg _ (List.mem_of_getElem? (i := 4) rfl)) hA
  · exact vx_Zqof (hts _ (st_t 751 (by decide +kernel))) (hts _ (st_t 14 (by decide +kernel))) (hg _ (List.mem_of_getElem? (i := 5) rfl)) hA
  · exact va_Zof (hts _ (st_t 848 (by decide +kernel))) (hts _ (st_t 20 (by decide +kernel))) (va_eqt (hg _ (List.mem_of_getElem? (i := 6) rfl))) hA
  · exact va_Zqof (hts _ (st_t 864 (by decide +kernel))) (hts _ (st_t 22 (by decide +kernel))) (hg _ (List.mem_of_getElem? (i := 7) rfl)) hA
  · have e1 : (sm_Z xs L 8190 0).toNatClampNeg = L := st_cl hL
    rw [e1]
    exact hX
  · exact hbl
  · exact hbl
  · have e1 : (sm_Z xs L 8190 0).toNatClampNeg = L := st_cl hL
    rw [e1]
    rfl
