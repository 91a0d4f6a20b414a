/-! the class's orders -/
def oH (G : sm_G) (o : List Nat) : Prop := o.length = 6 ∧ (∀ k, k < 6 → o.getD k 0 < 6) ∧ ∀ k, k < 6 → G 60 k = i3 (o.getD k 0)
theorem ids_d : ∀ k, k < 6 → ids6.getD k 0 = k := by decide
theorem s_82 {d x : Nat} {V : pV} {G : sm_G} {L : sm_L} : ∃ G', sm_cv0 (d + 1) 82 342 (RR V) [.ref 54] (x, G, L) = oV x G' L ∧ (∀ r k, r ≠ 60 → G' r k = G r k) ∧ oH G' ids6 := by
  refine ⟨fill G 60 6 (fun k => i3 k), ?_, fun r k h => fill_ne h, rfl, by decide, fun k hk => by rw [fill_at hk, ids_d k hk]⟩
  rw [m_82]
  have key := (loopP (H := fun i (g : sm_G) => hD d 82 2 [.ref 54, .int (i3 i)] 342 (RR V) x g L) (out := fun g => oV x g L) (N := 6) (step := fun i g => sm_up g 60 i (i3 i)) (fun i g => g = fill G 60 i (fun k => i3 k)) ?_ ?_ 6 0 G (by omega) (fill_0 G 60 _).symm)
  · rw [key.1]
    have := key.2
    rw [this]
  · intro i g hi hg
    refine ⟨?_, by rw [hg]; exact fill_up G 60 i (fun k => i3 k)⟩
    rw [h_82_2]
    simp (disch := omega) only [i3_add, i3_mul, i3_sub, i3_m1, i3_lt, i3_le, i3_eq, m1_lt, lt_m1, m1_le, le_m1, i3_nm1, m1_ni3, i3_cl, i3_in, i3_or, i3_and, i3_xor, i3_shl, i3_shr, sh_tb, tb_eq0, gd_tt, aI_o, aV_o, aL_o, aR_o, zd_0, zd_1, if_true, if_false, ite_self, eq_self, Bool.true_eq_false, Bool.false_eq_true, bi_0, bi_1, bi_zd, Nat.not_lt_zero, hi]
  · intro g _
    rw [h_82_2]
    simp (disch := omega) only [i3_add, i3_mul, i3_sub, i3_m1, i3_lt, i3_le, i3_eq, m1_lt, lt_m1, m1_le, le_m1, i3_nm1, m1_ni3, i3_cl, i3_in, i3_or, i3_and, i3_xor, i3_shl, i3_shr, sh_tb, tb_eq0, gd_tt, aI_o, aV_o, aL_o, aR_o, zd_0, zd_1, if_true, if_false, ite_self, eq_self, Bool.true_eq_false, Bool.false_eq_true, bi_0, bi_1, bi_zd, Nat.not_lt_zero, Nat.lt_irrefl]
theorem dgs_s {o : List Nat} {i : Nat} (h : i < o.length) : dgs (o.take (i + 1)) = dgs (o.take i) * 10 + o.getD i 0 := by
  unfold dgs
  rw [List.take_succ, List.foldl_append, List.getElem?_eq_getElem h, List.getD_eq_getElem?_getD, List.getElem?_eq_getElem h]
  rfl
theorem s_83 {d x : Nat} {V : pV} {G : sm_G} {L : sm_L} {n : Nat} {o : List Nat} (ho : oH G o) (hn : n ≤ 6) : sm_cv0 (d + 1) 83 342 (RR V) [.ref 54, .int (i3 n)] (x, G, L) = oI (i3 (dgs (o.take n))) x G L := by
  have key : ∀ i, i ≤ n → hD d 83 4 [.ref 54, .int (i3 n), .int (i3 0), .int (i3 0)] 342 (RR V) x G L = hD d 83 4 [.ref 54, .int (i3 n), .int (i3 (dgs (o.take i))), .int (i3 i)] 342 (RR V) x G L := by
    intro i
    induction i with
    | zero => intro _; rfl
    | succ i ih =>
      intro hi
      rw [ih (by omega), h_83_4, if_pos (show i3 i < i3 n by rw [i3_lt (by omega) (by omega)]; omega), if_pos (show i3 i < i3 6 by rw [i3_lt (by omega) (by omega)]; omega), i3_in (by omega) (by omega), gd_tt, i3_cl (by omega), ho.2.2 i (by omega), i3_mul, i3_add, i3_add, dgs_s (by rw [ho.1]; omega)]
  rw [m_83, key n (Nat.le_refl _), h_83_4, if_neg (show ¬ i3 n < i3 n by rw [i3_lt (by omega) (by omega)]; omega)]
theorem getD_set {o : List Nat} {a k v : Nat} (ha : a < o.length) : (o.set a v).getD k 0 = if k = a then v else o.getD k 0 := by
  rw [List.getD_eq_getElem?_getD, List.getElem?_set]
  by_cases q : a = k
  · subst q
    rw [if_pos rfl, if_pos ha, if_pos rfl]
    rfl
  · rw [if_neg q, if_neg (fun z => q z.symm), List.getD_eq_getElem?_getD]
theorem swp_d {o : List Nat} {a b k : Nat} (ha : a < o.length) (hb : b < o.length) : (swp o a b).getD k 0 = if k = b then o.getD a 0 else if k = a then o.getD b 0 else o.getD k 0 := by
  unfold swp
  rw [getD_set (by rw [List.length_set]; exact hb), getD_set ha]
theorem s_86 {d x : Nat} {V : pV} {G : sm_G} {L : sm_L} {a b : Nat} {o : List Nat} (ho : oH G o) (ha : a < 6) (hb : b < 6) : ∃ G', sm_cv0 (d + 1) 86 342 (RR V) [.ref 54, .int (i3 a), .int (i3 b)] (x, G, L) = oV x G' L ∧ (∀ r k, r ≠ 60 → G' r k = G r k) ∧ oH G' (swp o a b) := by
  obtain ⟨h1, h2, h3⟩ := ho
  refine ⟨sm_up (sm_up G 60 a (G 60 b)) 60 b (G 60 a), ?_, fun r k h => by rw [sm_up_ne (by omega), sm_up_ne (by omega)], ?_, fun k hk => ?_, fun k hk => ?_⟩
  · rw [m_86, i3_in (by omega) ha, i3_in (by omega) hb, gd_tt, gd_tt, gd_tt, gd_tt, i3_cl (by omega), i3_cl (by omega)]
  · unfold swp
    rw [List.length_set, List.length_set, h1]
  · rw [swp_d (by omega) (by omega)]
    have := h2 a ha
    have := h2 b hb
    have := h2 k hk
    split
    · assumption
    · split <;> assumption
  · rw [swp_d (by omega) (by omega)]
    by_cases q : k = b
    · subst q
      rw [sm_up_same, if_pos rfl, h3 a ha]
    · rw [sm_up_ne (by omega), if_neg q]
      by_cases q2 : k = a
      · subst q2
        rw [sm_up_same, if_pos rfl, h3 b hb]
      · rw [sm_up_ne (by omega), if_neg q2, h3 k hk]
theorem nxi_le (o : List Nat) : ∀ k, nxi o k ≤ k
  | 0 => Nat.le_refl _
  | k + 1 => by
    have := nxi_le o k
    unfold nxi
    split <;> omega
theorem nxk_le (o : List Nat) (i : Nat) : ∀ k, nxk o i k ≤ k
  | 0 => Nat.le_refl _
  | k + 1 => by
    have := nxk_le o i k
    unfold nxk
    split
    · omega
    · split <;> omega
theorem s_4n {d x : Nat} {V : pV} {G : sm_G} {L : sm_L} {n : Nat} (hn : n ≤ 6) : sm_cv0 (d + 1) 4 342 (RR V) [.int (i3 n), .int (i3 6)] (x, G, L) = oI (i3 n) x G L := by
  rw [s_4, if_neg (by rw [i3_lt (by omega) (by omega)]; omega)]
theorem l_85_9 {d x : Nat} {V : pV} {G : sm_G} {L : sm_L} {n m : Nat} {o : List Nat} (ho : oH G o) (hn : n ≤ 6) (hm : n = m + 1) : ∀ k, k ≤ m → hD (d + 1) 85 9 [.ref 54, .int (i3 n), .int (mi k), .null, .null, .null] 342 (RR V) x G L = if nxi o k = 0 then oI (i3 0) x G L else hD (d + 1) 85 51 [.ref 54, .int (i3 n), .int (i3 (nxi o k - 1)), .int (i3 m), .null, .null] 342 (RR V) x G L := by
  intro k
  induction k with
  | zero => intro _; rw [h_85_9, if_pos (show mi 0 < i3 0 by decide), if_pos (show mi 0 < i3 0 by decide)]; rfl
  | succ k ih =>
    intro hk
    have e := ho.2.2
    have b := ho.2.1
    have b0 := b k (by omega)
    have b1 := b (k + 1) (by omega)
    rw [mi_succ, h_85_9, if_neg (show ¬ i3 k < i3 0 by rw [i3_lt (by omega) (by omega)]; omega), i3_add, i3_in (by omega) (by omega), gd_tt, i3_in (by omega) (by omega), gd_tt, i3_cl (by omega), i3_cl (by omega), e k (by omega), e (k + 1) (by omega), s_4n hn, aI_o, i3_sub (by omega), show n - 1 = m by omega]
    unfold nxi
    by_cases q : o.getD k 0 ≤ o.getD (k + 1) 0
    · rw [if_pos (by rw [i3_le (by omega) (by omega)]; exact q), if_neg (show ¬ i3 k < i3 0 by rw [i3_lt (by omega) (by omega)]; omega), if_pos q, if_neg (by omega)]
      rfl
    · have e2 : i3 k + m1 = mi k := by
        cases k with
        | zero => decide
        | succ k => rw [mi_succ, i3_m1]
      rw [if_neg (by rw [i3_le (by omega) (by omega)]; exact q), if_neg q, e2]
      exact ih (by omega)
theorem l_85_51 {d x : Nat} {V : pV} {G : sm_G} {L : sm_L} {n i : Nat} {o : List Nat} (ho : oH G o) (hi : i < 6) : ∀ k, k < 6 → hD d 85 51 [.ref 54, .int (i3 n), .int (i3 i), .int (i3 k), .null, .null] 342 (RR V) x G L = hD d 85 77 [.ref 54, .int (i3 n), .int (i3 i), .int (i3 (nxk o i k)), .null, .null] 342 (RR V) x G L := by
  intro k
  induction k with
  | zero => intro _; rw [h_85_51, if_pos (by rw [i3_le (by omega) (by omega)]; omega)]; rfl
  | succ k ih =>
    intro hk
    have e := ho.2.2
    have b := ho.2.1
    have b0 := b i (by omega)
    have b1 := b (k + 1) (by omega)
    rw [h_85_51]
    unfold nxk
    by_cases q : k + 1 ≤ i
    · rw [if_pos (by rw [i3_le (by omega) (by omega)]; exact q), if_pos q]
    · rw [if_neg (by rw [i3_le (by omega) (by omega)]; exact q), if_neg q, i3_in (by omega) hk, gd_tt, i3_in (by omega) hi, gd_tt, i3_cl (by omega), i3_cl (by omega), e i hi, e (k + 1) hk]
      by_cases q2 : o.getD (k + 1) 0 < o.getD i 0
      · rw [if_pos (by rw [i3_lt (by omega) (by omega)]; exact q2), if_pos q2, i3_m1, ih (by omega)]
      · rw [if_neg (by rw [i3_lt (by omega) (by omega)]; exact q2), if_neg q2]
theorem l_85_98 {d x : Nat} {V : pV} {L : sm_L} : ∀ (f a b : Nat) (G : sm_G) (o : List Nat), oH G o → a ≤ 6 → b < 6 → b ≤ a + 2 * f → ∃ G', hD (d + 1) 85 98 [.ref 54, .null, .null, .null, .int (i3 b), .int (i3 a)] 342 (RR V) x G L = oI (i3 1) x G' L ∧ (∀ r k, r ≠ 60 → G' r k = G r k) ∧ oH G' (rvs f o a b)
  | 0, a, b, G, o, ho, ha, hb, h => by
    refine ⟨G, ?_, fun _ _ _ => rfl, ho⟩
    rw [h_85_98, if_neg (by rw [i3_lt (by omega) (by omega)]; omega)]
  | f + 1, a, b, G, o, ho, ha, hb, h => by
    unfold rvs
    by_cases q : a < b
    · obtain ⟨G1, e1, e2, e3⟩ := s_86 (d := d) (x := x) (V := V) (L := L) ho (a := a) (b := b) (by omega) hb
      obtain ⟨G2, f1, f2, f3⟩ := l_85_98 (d := d) (x := x) (V := V) (L := L) f (a + 1) (b - 1) G1 (swp o a b) e3 (by omega) (by omega) (by omega)
      obtain ⟨c, rfl⟩ : ∃ c, b = c + 1 := ⟨b - 1, by omega⟩
      refine ⟨G2, ?_, fun r k hr => by rw [f2 r k hr]; exact e2 r k hr, by rw [if_pos q]; exact f3⟩
      rw [h_85_98, if_pos (by rw [i3_lt (by omega) (by omega)]; exact q), e1, aV_o, i3_m1, i3_add]
      exact f1
    · refine ⟨G, ?_, fun _ _ _ => rfl, by rw [if_neg q]; exact ho⟩
      rw [h_85_98, if_neg (by rw [i3_lt (by omega) (by omega)]; omega)]
theorem s_85 {d x : Nat} {V : pV} {G : sm_G} {L : sm_L} {n : Nat} {o : List Nat} (ho : oH G o) (hn : n ≤ 6) : ∃ G', sm_cv0 (d + 2) 85 342 (RR V) [.ref 54, .int (i3 n)] (x, G, L) = oI (bi (nxo n o).isSome) x G' L ∧ (∀ r k, r ≠ 60 → G' r k = G r k) ∧ ∀ o', nxo n o = some o' → oH G' o' := by
  have e4 := s_4n (d := d) (x := x) (V := V) (G := G) (L := L) hn
  cases n with
  | zero =>
    refine ⟨G, ?_, fun _ _ _ => rfl, fun o' e => by cases e⟩
    rw [m_85, e4, aI_o, h_85_9, if_pos (by decide), if_pos (by decide)]
    rfl
  | succ m =>
    have e1 : i3 (m + 1) - i3 2 = mi m := by
      cases m with
      | zero => decide
      | succ m => rw [mi_succ, i3_sub (by omega)]; rfl
    have hle := nxi_le o m
    have h9 := l_85_9 (d := d) (x := x) (V := V) (G := G) (L := L) (n := m + 1) (m := m) ho hn rfl m (Nat.le_refl _)
    rw [m_85, e4, aI_o, e1, h9]
    unfold nxo
    cases hi : nxi o m with
    | zero =>
      refine ⟨G, ?_, fun _ _ _ => rfl, fun o' e => by simp only [hi] at e; cases e⟩
      rw [if_pos rfl]
      simp only [hi]
      rfl
    | succ i =>
      rw [hi] at hle
      have hk := nxk_le o i m
      obtain ⟨G1, a1, a2, a3⟩ := s_86 (d := d) (x := x) (V := V) (G := G) (L := L) ho (a := i) (b := nxk o i m) (by omega) (by omega)
      obtain ⟨G2, b1, b2, b3⟩ := l_85_98 (d := d) (x := x) (V := V) (L := L) 6 (i + 1) m G1 _ a3 (by omega) (by omega) (by omega)
      have e4' := s_4n (d := d) (x := x) (V := V) (G := G1) (L := L) hn
      refine ⟨G2, ?_, fun r k hr => by rw [b2 r k hr]; exact a2 r k hr, fun o' e => ?_⟩
      · rw [if_neg (by omega), Nat.add_sub_cancel, l_85_51 ho (by omega) m (by omega), h_85_77, a1, aV_o, e4', aI_o, i3_sub (by omega), i3_add, Nat.add_sub_cancel, b1]
        simp only [hi]
        rfl
      · simp only [hi] at e
        injection e with e
        rw [← e]
        exact b3
