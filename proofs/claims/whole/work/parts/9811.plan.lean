/-! plans changed -/
def mkP (P : pT) (m s : Nat) : pT := fun i k => if i = 0 ∧ k = 0 then nn P + 1 else if i = 1 ∧ k = nn P then m else if i = 2 ∧ k = nn P then s else P i k
def huP (P : pT) (q : Nat) : pT := fun i k => if i = 0 ∧ k = 0 then nn P - 1 else if (i = 1 ∨ i = 2) ∧ q ≤ k then P i (k + 1) else P i k
def slP (P : pT) (q a b : Nat) : pT := fun i k => if i = 3 ∧ k = q then a else if i = 4 ∧ k = q then b else P i k
def pushH (H : Nat → pT) (c : Nat) (P : pT) : Nat → pT := fun i => if i = c + 1 then P else H i
theorem pushH_n {H : Nat → pT} {c : Nat} {P : pT} : pushH H c P (c + 1) = P := if_pos rfl
theorem pushH_o {H : Nat → pT} {c i : Nat} {P : pT} (h : i ≤ c) : pushH H c P i = H i := if_neg (by omega)
theorem cS.keep2 {G G' : sm_G} {s : Nat} {T : pT} (h : cS G s T) (h1 : ∀ k, 9 ≤ k → k ≤ 14 → G' s k = G s k) (h2 : ∀ r k, s + 10 ≤ r → r < s + 18 → G' r k = G r k) : cS G' s T := by
  obtain ⟨a1, a2, a3, a4, a5, a6, a7, a8, a9, a10, a11, a12, a13, a14⟩ := h
  exact ⟨by rw [h1 _ (by omega) (by omega)]; exact a1, by rw [h1 _ (by omega) (by omega)]; exact a2, by rw [h1 _ (by omega) (by omega)]; exact a3, by rw [h1 _ (by omega) (by omega)]; exact a4, by rw [h1 _ (by omega) (by omega)]; exact a5, by rw [h1 _ (by omega) (by omega)]; exact a6, fun k hk => by rw [h2 _ _ (by omega) (by omega)]; exact a7 k hk, fun k hk => by rw [h2 _ _ (by omega) (by omega)]; exact a8 k hk, fun k hk => by rw [h2 _ _ (by omega) (by omega)]; exact a9 k hk, fun k hk => by rw [h2 _ _ (by omega) (by omega)]; exact a10 k hk, fun k hk => by rw [h2 _ _ (by omega) (by omega)]; exact a11 k hk, fun k hk => by rw [h2 _ _ (by omega) (by omega)]; exact a12 k hk, fun k hk => by rw [h2 _ _ (by omega) (by omega)]; exact a13 k hk, fun k hk => by rw [h2 _ _ (by omega) (by omega)]; exact a14 k hk⟩
theorem chn.push {G G' : sm_G} {p c : Nat} {T P' : pT} {H : Nat → pT} (h : chn G p T c H) (h20 : c < 20) (h10 : G' p 10 = i3 (c + 1)) (hs : ∀ r k, p + 5 ≤ r → r < p + 9 → k < c → G' r k = G r k) (he : ent G' p c T (H c) P') (hP : okP T P') : chn G' p T (c + 1) (pushH H c P') := by
  obtain ⟨h1, h2, h3, h4⟩ := h
  refine ⟨by omega, h10, fun i hi => ?_, fun i hi => ?_⟩
  · by_cases q : i = c + 1
    · subst q; rw [pushH_n]; exact hP
    · rw [pushH_o (by omega)]; exact h3 i (by omega)
  · by_cases q : i = c
    · subst q; rw [pushH_n, pushH_o (Nat.le_refl _)]; exact he
    · rw [pushH_o (by omega), pushH_o (by omega)]
      have := h4 i (by omega)
      unfold ent at this ⊢
      rw [hs (p + 5) i (by omega) (by omega) (by omega), hs (p + 6) i (by omega) (by omega) (by omega), hs (p + 7) i (by omega) (by omega) (by omega), hs (p + 8) i (by omega) (by omega) (by omega)]
      exact this
theorem chM.push {G G' : sm_G} {c : Nat} {T P' : pT} {H : Nat → pT} (h : chM G T c H) (h38 : G' 156 38 = i3 (c + 1)) (hs : ∀ i k, i < c → G' (283 + i) k = G (283 + i) k) (hn : snp G' (283 + c) 0 T (H c)) : chM G' T (c + 1) (pushH H c P') := by
  refine ⟨h38, fun i hi => ?_⟩
  by_cases q : i = c
  · subst q; rw [pushH_o (Nat.le_refl _)]; exact hn
  · rw [pushH_o (by omega)]
    exact (h.2 i (by omega)).keep (fun k => hs i k (by omega))
/-- the plan of a street changed, the rest as it was -/
theorem IvS.plan {V : pV} {G G2 : sm_G} {T : pT} {K K' c c' : Nat} {H H' W : Nat → pT} (h : IvS V G T K c H W) (hs : ∀ r k, ¬ sc r k → ¬ (V.1 + 1 ≤ r ∧ r < V.1 + 10) → ¬ (r = 156 ∧ (k = 37 ∨ k = 38)) → ¬ (r = 160 ∧ k = 2) → ¬ (175 ≤ r ∧ r < 183) → ¬ (219 ≤ r ∧ r < 231) → ¬ (283 ≤ r ∧ r < 303) → G2 r k = G r k) (hP : okP T (H' c')) (hK : K' < 2 ^ sl T) (hp : cP G2 (V.1 + 1) T (H' c') K') (hm : mH G2 T (H' c') K') (hc : chn G2 (V.1 + 1) T c' H') (hcm : chM G2 T c' H') : IvS V G2 T K' c' H' W := by
  obtain ⟨h1, h2, h3, h4, h5, h6, h7, h8, h9, h10, h11, h12, h13, h14, h15⟩ := h
  have hs1 := pS_lt h1.1.1
  have hb := pB_lt h1.1.2.2.2.1
  unfold sc at hs
  refine ⟨h1, h2, hP, hK, h5.keep2 (fun k a b => hs _ _ (by omega) (by omega) (by omega) (by omega) (by omega) (by omega) (by omega)) (fun r k a b => hs r k (by omega) (by omega) (by omega) (by omega) (by omega) (by omega) (by omega)), hp, hm, fun k hk => by rw [hs _ _ (by omega) (by omega) (by omega) (by omega) (by omega) (by omega) (by omega)]; exact h8 k hk, h9.keep (fun r k a => hs r k (by omega) (by omega) (by omega) (by omega) (by omega) (by omega) (by omega)), h10.keep (fun r k a => hs r k (by omega) (by omega) (by omega) (by omega) (by omega) (by omega) (by omega)), hc, hcm, h13.keep (fun r k a => hs r k (by omega) (by omega) (by omega) (by omega) (by omega) (by omega) (by omega)), h14.keep (fun r k a => hs r k (by omega) (by omega) (by omega) (by omega) (by omega) (by omega) (by omega)), h15.keep h1.1 (fun r k a => hs r k (by omega) (by omega) (by omega) (by omega) (by omega) (by omega) (by omega))⟩
theorem s_323 {d x : Nat} {V : pV} {G : sm_G} {L : sm_L} {T P : pT} {K c : Nat} (hm : mH G T P K) (hT : okT T) (hP : okP T P) (hc : G 156 38 = i3 c) (h20 : c < 20) : ∃ G', sm_cv0 (d + 3) 323 342 (RR V) [.ref 156] (x, G, L) = oV x G' L ∧ (∀ a k, a ≠ 283 + c → ¬ (a = 156 ∧ (k = 38 ∨ k = 40)) → G' a k = G a k) ∧ G' 156 38 = i3 (c + 1) ∧ snp G' (283 + c) 0 T P := by
  have hB := hT.gb
  have hP1 := hP.gb
  have e0 : sm_up G 156 40 (i3 0) 156 38 = i3 c := by rw [sm_up_ne (by omega)]; exact hc
  obtain ⟨G1, f1, f2, f3, f4, f5, f6, f7⟩ := s_324s (d := d) (x := x) (V := V) (L := L) (G := sm_up G 156 40 (i3 0)) (r := 283 + c) (o := 0) (kr_282 (k := c) h20) (nr_282 (k := c) h20) (by omega) (by omega) (by omega) (sm_up_same _ _ _ _)
  have e1 : G1 156 38 = i3 c := by rw [f2 _ _ (by omega) (by omega)]; exact e0
  have fr : ∀ a k, a ≠ 283 + c → ¬ (a = 156 ∧ (k = 38 ∨ k = 40)) → G1 a k = G a k := fun a k h1 h2 => by rw [f2 a k h1 (by omega), sm_up_ne (by omega)]
  refine ⟨sm_up G1 156 38 (i3 (c + 1)), ?_, fun a k h1 h2 => by rw [sm_up_ne (by omega)]; exact fr a k h1 h2, sm_up_same _ _ _ _, ?_, fun i hi => ?_, fun k hk => ?_⟩
  · rw [m_323, e0]
    simp (disch := omega) only [i3_add, i3_mul, i3_sub, i3_m1, i3_lt, i3_le, i3_eq, m1_lt, lt_m1, m1_le, le_m1, i3_nm1, m1_ni3, i3_cl, i3_in, i3_or, i3_and, i3_xor, i3_shl, i3_shr, sh_tb, tb_eq0, gd_tt, aI_o, aV_o, aL_o, aR_o, zd_0, zd_1, if_true, if_false, ite_self, eq_self, Bool.true_eq_false, Bool.false_eq_true, bi_0, bi_1, bi_zd, Nat.not_lt_zero, rr_282, f1, e1]
  · rw [sm_up_ne (by omega), f5, sm_up_ne (by omega)]; exact hm.gnn
  · rw [sm_up_ne (by omega), sm_up_ne (by omega), (f6 i (by omega)).1, (f6 i (by omega)).2, sm_up_ne (by omega), sm_up_ne (by omega)]
    exact ⟨hm.gnm i hi, hm.gns i hi⟩
  · rw [sm_up_ne (by omega), sm_up_ne (by omega), (f7 k (by omega)).1, (f7 k (by omega)).2, sm_up_ne (by omega), sm_up_ne (by omega)]
    exact ⟨hm.gfr k hk, hm.gun k hk⟩
/-- behind a change -/
theorem Inv_ch {V : pV} {G2 : sm_G} {T : pT} {K c : Nat} {H W : Nat → pT} (h : IvS V G2 T K c H W) (h17 : G2 1 17 = i3 1) (h18 : G2 1 18 = i3 1) : Inv V G2 := ⟨T, K, c, H, W, h, Or.inl h17, Or.inl h18⟩
theorem s_23 {d x : Nat} {V : pV} {G : sm_G} {L : sm_L} : sm_cv0 (d + 1) 23 342 (RR V) [.ref 1] (x, G, L) = oV x (sm_up (sm_up G 1 17 (i3 1)) 1 18 (i3 1)) L := by rw [m_23]
def chg (G : sm_G) : sm_G := sm_up (sm_up G 1 17 (i3 1)) 1 18 (i3 1)
theorem chg_ne {G : sm_G} {r k : Nat} (h : ¬ (r = 1 ∧ (k = 17 ∨ k = 18))) : chg G r k = G r k := by
  unfold chg
  rw [sm_up_ne (by omega), sm_up_ne (by omega)]
theorem chg_17 {G : sm_G} : chg G 1 17 = i3 1 := by
  unfold chg
  rw [sm_up_ne (by omega), sm_up_same]
theorem chg_18 {G : sm_G} : chg G 1 18 = i3 1 := sm_up_same _ _ _ _
theorem chn.keep2 {G G' : sm_G} {p c : Nat} {T : pT} {H : Nat → pT} (h : chn G p T c H) (h10 : G' p 10 = G p 10) (hs : ∀ r k, p < r → r < p + 9 → G' r k = G r k) : chn G' p T c H := by
  obtain ⟨h1, h2, h3, h4⟩ := h
  exact ⟨h1, by rw [h10]; exact h2, h3, fun i hi => (h4 i hi).keep hs⟩
theorem cP.keep3 {G G' : sm_G} {p K : Nat} {T P : pT} (h : cP G p T P K) (h1 : ∀ k, G' p k = G p k) (hs : ∀ r k, p < r → r < p + 5 → G' r k = G r k) : cP G' p T P K := h.keep (fun r k a b => by
  by_cases q : r = p
  · subst q; exact h1 k
  · exact hs r k (by omega) b)
theorem ent.keep5 {G G' : sm_G} {p i : Nat} {T P Q : pT} (h : ent G p i T P Q) (hs : ∀ r, p + 5 ≤ r → r < p + 9 → G' r i = G r i) : ent G' p i T P Q := by
  unfold ent at h ⊢
  rw [hs (p + 5) (by omega) (by omega), hs (p + 6) (by omega) (by omega), hs (p + 7) (by omega) (by omega), hs (p + 8) (by omega) (by omega)]
  exact h
