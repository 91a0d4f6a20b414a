/-! round -/
theorem i3_div {a b : Nat} (ha : a < 2147483648) (hb : b < 2147483648) : i3 a / i3 b = i3 (a / b) := by
  have hle : a / b ≤ a := Nat.div_le_self a b
  apply Int32.toInt_inj.mp
  rw [Int32.toInt_div_of_ne_right _ _ (fun h => by
    have h2 : i3 b = m1 := h
    rw [i3_nm1 hb] at h2
    exact h2), i3_toInt ha, i3_toInt hb, i3_toInt (by omega)]
  rfl
def cN (V : pV) (Gs : sm_G) (o : List Nat) (N : Nat) : Prop := ∀ (d x : Nat) (X : sm_G) (L : sm_L), cfR Gs X → oH X o → ∃ X', sm_cv0 (d + 7) 62 342 (RR V) [.ref 1, .ref 54] (x, X, L) = oI (i3 N) x X' L ∧ cfR Gs X' ∧ oH X' o
theorem ens_s {n f : Nat} {o : List Nat} : ens n (f + 1) o = o :: (match nxo n o with
    | none => []
    | some o' => ens n f o') := rfl
theorem l_61 {d x n : Nat} {V : pV} {L : sm_L} {Gs : sm_G} (N : List Nat → Nat) (hV : okV V) (hs9 : Gs V.1 9 = i3 n) (hn : n ≤ 6) : ∀ (f i b : Nat) (o : List Nat) (X : sm_G), i + f = 720 → (∀ q, q ∈ ens n f o → dgs (q.take n) < 1000000 ∧ N (q.take n) ≤ 4 ∧ cN V Gs q (N (q.take n))) → cfR Gs X → oH X o → b ≤ 5000000 → ∃ X', hD (d + 7) 61 108 [.ref 1, .ref 54, .int (i3 b), .int (i3 1), .int (i3 i)] 342 (RR V) x X L = oI (i3 (((ens n f o).map (List.take n)).foldl (cmn N) b)) x X' L ∧ cfR Gs X' := by
  have hsl := pS_lt (hV1 hV)
  intro f
  induction f with
  | zero =>
    intro i b o X hi hq hX hO hb
    refine ⟨X, ?_, hX⟩
    rw [h_61_108 hV, if_neg (by rw [i3_lt (by omega) (by omega)]; omega)]
    rfl
  | succ f ih =>
    intro i b o X hi hq hX hO hb
    obtain ⟨q1, q2, q3⟩ := hq o (by rw [ens_s]; exact List.mem_cons_self ..)
    obtain ⟨X1, a1, a2, a3⟩ := q3 d x X L hX hO
    have e9 : ∀ Y, cfR Gs Y → Y V.1 9 = i3 n := fun Y hY => by rw [hY _ _ (by omega) (by omega) (by omega)]; exact hs9
    have e83 := s_83 (d := d + 6) (x := x) (V := V) (G := X1) (L := L) a3 hn
    obtain ⟨X2, b1, b2, b3⟩ := s_85 (d := d + 5) (x := x) (V := V) (G := X1) (L := L) a3 hn
    have b1' : sm_cv0 (d + 7) 85 342 (RR V) [.ref 54, .int (i3 n)] (x, X1, L) = oI (bi (nxo n o).isSome) x X2 L := b1
    have e83' : sm_cv0 (d + 7) 83 342 (RR V) [.ref 54, .int (i3 n)] (x, X1, L) = oI (i3 (dgs (o.take n))) x X1 L := e83
    have e4 := s_4 (d := d + 6) (x := x) (V := V) (G := X1) (L := L) (a := i3 b) (b := i3 (N (o.take n) * 1000000 + dgs (o.take n)))
    have eb : (if i3 (N (o.take n) * 1000000 + dgs (o.take n)) < i3 b then i3 (N (o.take n) * 1000000 + dgs (o.take n)) else i3 b) = i3 (cmn N b (o.take n)) := by
      unfold cmn
      by_cases q : N (o.take n) * 1000000 + dgs (o.take n) < b
      · rw [if_pos (by rw [i3_lt (by omega) (by omega)]; exact q), if_pos q]
      · rw [if_neg (by rw [i3_lt (by omega) (by omega)]; exact q), if_neg q]
    rw [eb] at e4
    have e4' : sm_cv0 (d + 7) 4 342 (RR V) [.int (i3 b), .int (i3 (N (o.take n) * 1000000 + dgs (o.take n)))] (x, X1, L) = oI (i3 (cmn N b (o.take n))) x X1 L := e4
    have hb2 : cmn N b (o.take n) ≤ 5000000 := by
      unfold cmn
      split <;> omega
    have hX2 : cfR Gs X2 := fun r k c1 c2 c3 => by rw [b2 r k c2]; exact a2 r k c1 c2 c3
    rw [h_61_108 hV, if_pos (show i3 i < i3 720 by rw [i3_lt (by omega) (by omega)]; omega), if_neg (by decide), a1, aI_o, e9 X1 a2, e83', aI_o, i3_mul, i3_add, e4', aI_o, e9 X1 a2, b1', aI_o, h_61_161, i3_add, ens_s]
    show ∃ X', _ = oI (i3 (((match nxo n o with | none => [] | some o' => ens n f o').map (List.take n)).foldl (cmn N) (cmn N b (o.take n)))) x X' L ∧ _
    have hq2 : ∀ q, q ∈ (match nxo n o with | none => [] | some o' => ens n f o') → q ∈ ens n (f + 1) o := fun q h => by
      rw [ens_s]
      exact List.mem_cons_of_mem _ h
    cases hx : nxo n o with
    | none =>
      refine ⟨X2, ?_, hX2⟩
      show hD (d + 7) 61 108 [.ref 1, .ref 54, .int (i3 (cmn N b (o.take n))), .int (i3 0), .int (i3 (i + 1))] 342 (RR V) x X2 L = oI (i3 (cmn N b (o.take n))) x X2 L
      rw [h_61_108 hV, if_pos rfl]
      split <;> rfl
    | some o' =>
      rw [hx] at hq2
      exact ih (i + 1) (cmn N b (o.take n)) o' X2 (by omega) (fun q h => hq q (hq2 q h)) hX2 (b3 o' hx) hb2
/-- the milkman's orders stay when the night is laid -/
theorem s_14f {d x : Nat} {V : pV} {L : sm_L} {T : pT} {K : Nat} {W : Nat → pT} {G : sm_G} {c : Nat} {H : Nat → pT} (hS : IvS V G T K c H W) (hh : hHr G T (H c) K) (hn : nHr G T (H c) K W) :
    ∃ G', sm_cv0 (d + 12) 14 342 (RR V) [.ref 1] (x, G, L) = oR 63 x G' L ∧ ∀ k, G' 60 k = G 60 k := by
  rcases hn with h18 | ⟨h18, hn⟩
  · have hT := hS.T
    have hP := hS.P
    have hV := hS.V
    have hB := hT.gb
    have hs := hV1 hV
    have hsl := pS_lt hs
    obtain ⟨G1, f1, f2, f3, f4, f5⟩ := s_15 (d := d + 7) (x := x) (L := L) (V := V) hV hS.c hS.p hT hP hS.K hh
    obtain ⟨G2, g1, g2, g3, g4⟩ := s_87 (d := d + 8) (x := x) (L := L) (V := V) (G := G1) (b := 63) (s := V.1) (Or.inl rfl) hs
    have fr : ∀ r k, r < 55 ∨ 83 < r → ¬ (r = 1 ∧ k = 17) → G2 r k = G r k := fun r k a1 a2 => by
      rw [g2 r k (fun f hf => by omega) (by omega)]; exact f2 r k (by omega) a2
    have hC : ∀ g : sm_G, mOk g T (H c) K W → nCx V G2 g 63 V.1 T (H c) K W := fun g hg => ⟨hS.c.keep (fun r k q => by unfold inC at q; exact fr r k (by omega) (by omega)), hg.1, fun e he => ⟨(hS.wl e he).1, (hS.wl e he).2.1.keep (fun r k q1 q2 => fr r k (by have := pW_lt (hV.2.2.2.2.2 e he); omega) (by have := pW_lt (hV.2.2.2.2.2 e he); omega)), hg.2 e he⟩⟩
    have b4 : G2 63 4 = i3 (fo T) := by rw [g3, f2 _ _ (by omega) (by omega)]; exact hS.c.gfo
    have h57 : ∀ j, j < 301 → G2 57 j = i3 (dat T (H c) j) := fun j hj => by rw [g2 _ _ (fun f hf => by omega) (by omega)]; exact (f5 j hj).2.2
    have h56 : ∀ j, j < 301 → G2 56 j = i3 (tB T (H c) K j) := fun j hj => by rw [g2 _ _ (fun f hf => by omega) (by omega)]; exact (f5 j hj).2.1
    have hgb : mOk (fill G 307 301 (fun m => i3 (tB T (H c) K m))) T (H c) K W := ⟨hS.m.keep hT hP (fun r k q => fill_ne (by unfold inM at q; omega)), fun e he => (hS.wl e he).2.2.keep he (fun r k q => fill_ne (by omega))⟩
    obtain ⟨G', g', m1', m2', m3', m4', m5'⟩ := play0 (d := d + 4) (x := x) (L := L) (V := V) (d' := 0) (x' := x) (L' := L) (U := V) (r4 := 56) (ex := 0) (tt := tB T (H c) K) (t0 := tB T (H c) K) hV (Or.inl rfl) hs hT hP (hC _ hgb) k_56 n_56 (Or.inl rfl) b4 g4 (fun j hj => ⟨fill_at hj, Nat.lt_of_lt_of_le (rmB_lt T hT _) (by decide), h56 j hj, Nat.or_zero _⟩) h57
    refine ⟨sm_up G' 1 18 (i3 0), ?_, fun k => ?_⟩
    · rw [m_14, h18, f1]
      simp (disch := omega) only [i3_add, i3_mul, i3_sub, i3_m1, i3_lt, i3_le, i3_eq, m1_lt, lt_m1, m1_le, le_m1, i3_nm1, m1_ni3, i3_cl, i3_in, i3_or, i3_and, i3_xor, i3_shl, i3_shr, sh_tb, tb_eq0, gd_tt, aI_o, aV_o, aL_o, aR_o, zd_0, zd_1, if_true, if_false, ite_self, eq_self, Bool.true_eq_false, Bool.false_eq_true, bi_0, bi_1, bi_zd, Nat.not_lt_zero, Nat.reduceEqDiff, Nat.reduceLeDiff, Nat.reduceLT, g1, m1', k_54, q_54_1 V]
    · rw [sm_up_ne (by omega), m3' _ _ (by omega) (fun f hf => by omega) (by omega), g2 _ _ (fun f hf => by omega) (by omega)]
      exact f2 _ _ (by omega) (by omega)
  · refine ⟨G, ?_, fun _ => rfl⟩
    rw [m_14, h18]
    simp (disch := omega) only [i3_add, i3_mul, i3_sub, i3_m1, i3_lt, i3_le, i3_eq, m1_lt, lt_m1, m1_le, le_m1, i3_nm1, m1_ni3, i3_cl, i3_in, i3_or, i3_and, i3_xor, i3_shl, i3_shr, sh_tb, tb_eq0, gd_tt, aI_o, aV_o, aL_o, aR_o, zd_0, zd_1, if_true, if_false, ite_self, eq_self, Bool.true_eq_false, Bool.false_eq_true, bi_0, bi_1, bi_zd, Nat.not_lt_zero]
theorem oR_inj {a b x : Nat} {G G' : sm_G} {L : sm_L} (h : oR a x G L = oR b x G' L) : G = G' := by
  unfold oR at h
  cases h
  rfl
