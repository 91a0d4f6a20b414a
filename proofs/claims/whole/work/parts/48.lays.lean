/-! stores told as functions -/
/-- a row's first n places hold f -/
def fill (G : sm_G) (c n : Nat) (f : Nat → Int32) : sm_G := fun r k => if r = c ∧ k < n then f k else G r k
theorem sm_up_ne {G : sm_G} {r k : Nat} {v : Int32} {a j : Nat} (h : a ≠ r ∨ j ≠ k) : sm_up G r k v a j = G a j := by
  unfold sm_up
  have e : (Nat.beq a r && Nat.beq j k) = false := by
    rcases h with h | h
    · rw [sm_beqF h]; rfl
    · rw [sm_beqF h, Bool.and_false]
  rw [e]
  rfl
theorem fill_0 (G : sm_G) (c : Nat) (f : Nat → Int32) : fill G c 0 f = G := by
  funext r k
  unfold fill
  rw [if_neg (by omega)]
theorem fill_up (G : sm_G) (c n : Nat) (f : Nat → Int32) : sm_up (fill G c n f) c n (f n) = fill G c (n + 1) f := by
  funext r k
  by_cases h : r = c ∧ k = n
  · obtain ⟨rfl, rfl⟩ := h
    rw [sm_up_same]
    unfold fill
    rw [if_pos ⟨rfl, by omega⟩]
  · rw [sm_up_ne (by omega)]
    unfold fill
    by_cases h2 : r = c ∧ k < n
    · rw [if_pos h2, if_pos ⟨h2.1, by omega⟩]
    · rw [if_neg h2, if_neg (by omega)]
theorem fill_at {G : sm_G} {c n : Nat} {f : Nat → Int32} {k : Nat} (h : k < n) : fill G c n f c k = f k := by
  unfold fill
  rw [if_pos ⟨rfl, h⟩]
theorem fill_ne {G : sm_G} {c n : Nat} {f : Nat → Int32} {r k : Nat} (h : r ≠ c) : fill G c n f r k = G r k := by
  unfold fill
  rw [if_neg (fun q => h q.1)]
theorem fill_ge {G : sm_G} {c n : Nat} {f : Nat → Int32} {r k : Nat} (h : n ≤ k) : fill G c n f r k = G r k := by
  unfold fill
  rw [if_neg (by omega)]
/-- the same at these cells -/
def same (G G' : sm_G) (S : Nat → Nat → Prop) : Prop := ∀ r k, S r k → G' r k = G r k
theorem s_4 {d x : Nat} {V : pV} {G : sm_G} {L : sm_L} {a b : Int32} : sm_cv0 (d + 1) 4 342 (RR V) [.int a, .int b] (x, G, L) = oI (if b < a then b else a) x G L := by
  unfold sm_cv0
  rw [sm_cw_succ]
  rfl
theorem s_5 {d x : Nat} {V : pV} {G : sm_G} {L : sm_L} {a b : Int32} : sm_cv0 (d + 1) 5 342 (RR V) [.int a, .int b] (x, G, L) = oI (if a < b then b else a) x G L := by
  unfold sm_cv0
  rw [sm_cw_succ]
  rfl
theorem s_6 {d x : Nat} {V : pV} {G : sm_G} {L : sm_L} {c : Nat} {v : Int32} (h1 : (Nat.ble 20 (sm_K c) && Nat.ble (sm_K c) 27 && Nat.ble c 342) = true) (h2 : sm_is c 342 20 = true) {N : Nat} (hN : sm_N c = N) (h3 : N < 2000) : sm_cv0 (d + 1) 6 342 (RR V) [.ref c, .int v] (x, G, L) = oV x (fill G c N (fun _ => v)) L := by
  rw [m_6, aln_e h1 hN]
  have key := (loopP (H := fun i (g : sm_G) => hD d 6 5 [.ref c, .int v, .int (i3 i), .int (i3 N)] 342 (RR V) x g L) (out := fun g => oV x g L) (N := N) (step := fun i g => sm_up g c i v) (fun i g => g = fill G c i (fun _ => v)) ?_ ?_ N 0 G (by omega) (fill_0 G c _).symm)
  · rw [key.1]
    have := key.2
    rw [this]
  · intro i g hi hg
    refine ⟨?_, by rw [hg]; exact fill_up G c i (fun _ => v)⟩
    rw [h_6_5]
    simp (disch := omega) only [i3_add, i3_mul, i3_sub, i3_m1, i3_lt, i3_le, i3_eq, m1_lt, lt_m1, m1_le, le_m1, i3_nm1, m1_ni3, i3_cl, i3_in, i3_or, i3_and, i3_xor, i3_shl, i3_shr, sh_tb, tb_eq0, gd_tt, aI_o, aV_o, aL_o, aR_o, zd_0, zd_1, if_true, if_false, ite_self, eq_self, Bool.true_eq_false, Bool.false_eq_true, bi_0, bi_1, bi_zd, Nat.not_lt_zero, hi, h2, hN]
  · intro g _
    rw [h_6_5]
    simp (disch := omega) only [i3_add, i3_mul, i3_sub, i3_m1, i3_lt, i3_le, i3_eq, m1_lt, lt_m1, m1_le, le_m1, i3_nm1, m1_ni3, i3_cl, i3_in, i3_or, i3_and, i3_xor, i3_shl, i3_shr, sh_tb, tb_eq0, gd_tt, aI_o, aV_o, aL_o, aR_o, zd_0, zd_1, if_true, if_false, ite_self, eq_self, Bool.true_eq_false, Bool.false_eq_true, bi_0, bi_1, bi_zd, Nat.not_lt_zero, Nat.lt_irrefl]
/-! the model's rooms and doors by minutes -/
theorem s_254 {d x : Nat} {V : pV} {G : sm_G} {L : sm_L} : sm_cv0 (d + 1) 254 342 (RR V) [.ref 156] (x, G, L) = oV x (fill G 306 8 (fun _ => i3 1000)) L := by
  rw [m_254]
  have key := (loopP (H := fun i (g : sm_G) => hD d 254 2 [.ref 156, .int (i3 i)] 342 (RR V) x g L) (out := fun g => oV x g L) (N := 8) (step := fun i g => sm_up g 306 i (i3 1000)) (fun i g => g = fill G 306 i (fun _ => i3 1000)) ?_ ?_ 8 0 G (by omega) (fill_0 G 306 _).symm)
  · rw [key.1]
    have := key.2
    rw [this]
  · intro i g hi hg
    refine ⟨?_, by rw [hg]; exact fill_up G 306 i (fun _ => i3 1000)⟩
    rw [h_254_2]
    simp (disch := omega) only [i3_add, i3_mul, i3_sub, i3_m1, i3_lt, i3_le, i3_eq, m1_lt, lt_m1, m1_le, le_m1, i3_nm1, m1_ni3, i3_cl, i3_in, i3_or, i3_and, i3_xor, i3_shl, i3_shr, sh_tb, tb_eq0, gd_tt, aI_o, aV_o, aL_o, aR_o, zd_0, zd_1, if_true, if_false, ite_self, eq_self, Bool.true_eq_false, Bool.false_eq_true, bi_0, bi_1, bi_zd, Nat.not_lt_zero, hi]
  · intro g _
    rw [h_254_2]
    simp (disch := omega) only [i3_add, i3_mul, i3_sub, i3_m1, i3_lt, i3_le, i3_eq, m1_lt, lt_m1, m1_le, le_m1, i3_nm1, m1_ni3, i3_cl, i3_in, i3_or, i3_and, i3_xor, i3_shl, i3_shr, sh_tb, tb_eq0, gd_tt, aI_o, aV_o, aL_o, aR_o, zd_0, zd_1, if_true, if_false, ite_self, eq_self, Bool.true_eq_false, Bool.false_eq_true, bi_0, bi_1, bi_zd, Nat.not_lt_zero, Nat.lt_irrefl]
/-- twins as the model has them -/
theorem rmM_it {T : pT} (hT : okT T) (s : Nat → Bool) : itr (fun k a => if s k = false then a else a ||| ((1 <<< k) ||| (if tp T k = 0 then 0 else 1 <<< (tp T k - 1)))) 0 (sl T) 0 = rmB T s := by
  have key : ∀ n, n ≤ sl T → ∀ r, (itr (fun k a => if s k = false then a else a ||| ((1 <<< k) ||| (if tp T k = 0 then 0 else 1 <<< (tp T k - 1)))) 0 n 0).testBit r = true ↔ ∃ k, k < n ∧ s k = true ∧ (r = k ∨ tp T k = r + 1) := by
    intro n
    induction n with
    | zero => intro _ r; constructor
              · intro h; rw [show itr _ 0 0 0 = 0 from rfl, Nat.zero_testBit] at h; cases h
              · rintro ⟨k, hk, _⟩; omega
    | succ n ih =>
      intro hn r
      rw [itr_succ, Nat.zero_add]
      have ih := ih (by omega) r
      generalize itr (fun k a => if s k = false then a else a ||| ((1 <<< k) ||| (if tp T k = 0 then 0 else 1 <<< (tp T k - 1)))) 0 n 0 = z at ih ⊢
      have e : (∃ k, k < n + 1 ∧ s k = true ∧ (r = k ∨ tp T k = r + 1)) ↔ ((∃ k, k < n ∧ s k = true ∧ (r = k ∨ tp T k = r + 1)) ∨ (s n = true ∧ (r = n ∨ tp T n = r + 1))) := by
        constructor
        · rintro ⟨k, hk, h⟩
          by_cases hkn : k = n
          · subst hkn; exact Or.inr h
          · exact Or.inl ⟨k, by omega, h⟩
        · rintro (⟨k, hk, h⟩ | h)
          · exact ⟨k, by omega, h⟩
          · exact ⟨n, by omega, h⟩
      rw [e, ← ih]
      cases q : s n
      · simp
      · have h2 : ((1 <<< n) ||| (if tp T n = 0 then 0 else 1 <<< (tp T n - 1))).testBit r = true ↔ (r = n ∨ tp T n = r + 1) := by
          rw [Nat.testBit_or, one_shl_tb, Bool.or_eq_true, decide_eq_true_eq]
          by_cases h0 : tp T n = 0
          · rw [if_pos h0, Nat.zero_testBit, h0]
            constructor
            · rintro (h | h)
              · exact Or.inl h.symm
              · cases h
            · rintro (h | h)
              · exact Or.inl h.symm
              · omega
          · rw [if_neg h0, one_shl_tb, decide_eq_true_eq]
            constructor
            · rintro (h | h)
              · exact Or.inl h.symm
              · exact Or.inr (by omega)
            · rintro (h | h)
              · exact Or.inl h.symm
              · exact Or.inr (by omega)
        simp only [Bool.true_eq_false, if_false]
        rw [Nat.testBit_or, Bool.or_eq_true, h2]
        simp
  apply eqb
  intro r
  rw [Bool.eq_iff_iff, key _ (Nat.le_refl _)]
  unfold rmB
  rw [bs_tb]
  simp only [Bool.and_eq_true, Bool.or_eq_true, decide_eq_true_eq]
  constructor
  · rintro ⟨k, hk, h1, h2⟩
    rcases h2 with rfl | h2
    · exact ⟨hk, Or.inl h1⟩
    · obtain ⟨i, hi, h3⟩ := (hT.gtq k hk r).mp h2
      have hr : r < sl T := by
        obtain ⟨g1, g2, g3⟩ := hT.gtw i hi
        rcases h3 with ⟨e1, e2⟩ | ⟨e1, e2⟩ <;> omega
      have h4 := (hT.gtq r hr k).mpr ⟨i, hi, by rcases h3 with ⟨e1, e2⟩ | ⟨e1, e2⟩; exact Or.inr ⟨e1, e2⟩; exact Or.inl ⟨e1, e2⟩⟩
      exact ⟨hr, Or.inr ⟨by omega, by rw [h4]; exact h1⟩⟩
  · rintro ⟨hr, h | ⟨h1, h2⟩⟩
    · exact ⟨r, hr, h, Or.inl rfl⟩
    · obtain ⟨i, hi, h3⟩ := (hT.gtq r hr (tp T r - 1)).mp (by omega)
      have hk : tp T r - 1 < sl T := by have := hT.gtp r hr; omega
      have h4 := (hT.gtq _ hk r).mpr ⟨i, hi, by rcases h3 with ⟨e1, e2⟩ | ⟨e1, e2⟩; exact Or.inr ⟨e1, e2⟩; exact Or.inl ⟨e1, e2⟩⟩
      exact ⟨_, hk, h2, Or.inr h4⟩
