/-! the best round, the class -/
def cmn (N : List Nat → Nat) (b : Nat) (p : List Nat) : Nat := if N p * 1000000 + dgs p < b then N p * 1000000 + dgs p else b
theorem asc_drop {r a : Nat} {l : List Nat} (h : asc (r :: a :: l) = true) : asc (r :: l) = true ∧ asc (a :: l) = true ∧ r < a := by
  have h : (Nat.blt r a && asc (a :: l)) = true := h
  rw [Bool.and_eq_true] at h
  have h1 := sm_blt h.1
  refine ⟨?_, h.2, h1⟩
  cases l with
  | nil => rfl
  | cons b l =>
    have h2 : (Nat.blt a b && asc (b :: l)) = true := h.2
    rw [Bool.and_eq_true] at h2
    have h3 := sm_blt h2.1
    show (Nat.blt r b && asc (b :: l)) = true
    rw [h2.2, Bool.and_true]
    exact sm_blt_t (by omega)
theorem fold_eq {N : List Nat → Nat} : ∀ (l : List (List Nat)) (b r : Nat), asc (r :: l.map dgs) = true → r < 1000000 → (∀ p, p ∈ l → dgs p < 1000000) → ∃ b' r', b' ≤ b ∧ r' < 1000000 ∧ l.foldl (mrd N) (some (b, r)) = some (b', r') ∧ l.foldl (cmn N) (b * 1000000 + r) = b' * 1000000 + r'
  | [], b, r, _, hr, _ => ⟨b, r, Nat.le_refl b, hr, rfl, rfl⟩
  | p :: l, b, r, h, hr, hp => by
    obtain ⟨h1, h2, h3⟩ := asc_drop h
    have hd := hp p (List.mem_cons_self ..)
    show ∃ b' r', b' ≤ b ∧ r' < 1000000 ∧ l.foldl (mrd N) (if N p < b then some (N p, dgs p) else some (b, r)) = some (b', r') ∧ l.foldl (cmn N) (if N p * 1000000 + dgs p < b * 1000000 + r then N p * 1000000 + dgs p else b * 1000000 + r) = b' * 1000000 + r'
    by_cases q : N p < b
    · rw [if_pos q, if_pos (by omega)]
      obtain ⟨b', r', k0, k⟩ := fold_eq l (N p) (dgs p) h2 hd (fun p hp' => hp p (List.mem_cons_of_mem _ hp'))
      exact ⟨b', r', by omega, k⟩
    · rw [if_neg q, if_neg (by omega)]
      exact fold_eq l b r h1 hr (fun p hp' => hp p (List.mem_cons_of_mem _ hp'))
theorem fold_all {N : List Nat → Nat} {n : Nat} (hn : n < 7) (hN : ∀ p, p ∈ lvs n n [] → N p ≤ 4) : ∃ b r, b ≤ 4 ∧ r < 1000000 ∧ (lvs n n []).foldl (mrd N) none = some (b, r) ∧ (lvs n n []).foldl (cmn N) 5000000 = b * 1000000 + r := by
  have h1 := lvs_asc n hn
  have h2 := lvs_dgs n hn
  have h3 := lvs_hd n hn
  generalize lvs n n [] = l at h1 h2 h3 hN ⊢
  cases l with
  | nil => cases h3
  | cons p l =>
    have hd := sm_blt (List.all_eq_true.mp h2 p (List.mem_cons_self ..))
    have h4 := hN p (List.mem_cons_self ..)
    show ∃ b r, b ≤ 4 ∧ r < 1000000 ∧ l.foldl (mrd N) (some (N p, dgs p)) = some (b, r) ∧ l.foldl (cmn N) (if N p * 1000000 + dgs p < 5000000 then N p * 1000000 + dgs p else 5000000) = b * 1000000 + r
    rw [if_pos (by omega)]
    obtain ⟨b', r', k0, k⟩ := fold_eq l (N p) (dgs p) h1 hd (fun q hq => sm_blt (List.all_eq_true.mp h2 q (List.mem_cons_of_mem _ hq)))
    exact ⟨b', r', by omega, k⟩
theorem mk_eq {w : Nat → Nat} {T P : pT} {K k m : Nat} (h : mk T = 0) : slp T P w (fun _ => 1000) K k m = slp0 T P K k m := by
  unfold slp0 slp
  try dsimp only
  rw [decide_eq_true h, Bool.true_or, Bool.true_or]
/-- the night as the model plays it when nothing changes its rooms -/
theorem rn0 {V : pV} {G g0 : sm_G} {T : pT} {K c : Nat} {H W : Nat → pT} (hS : IvS V G T K c H W) (hok : hOk G T (H c) K) (hg0 : mOk g0 T (H c) K W) : ∃ n, n < 2 ^ dr T ∧ ∀ (d' x' : Nat) (g : sm_G) (L' : sm_L), mOk g T (H c) K W → (∀ m, m < 301 → g 307 m = i3 (tB T (H c) K m)) → ∃ g', sm_cv0 (d' + 7) 264 342 (RR V) [.ref 156] (x', g, L') = oI (i3 n) x' g' L' ∧ nFr2 g g' := by
  have hsl := pS_lt (hV1 hS.V)
  obtain ⟨G1, a1, a2, a3, a4⟩ := s_87 (d := 0) (x := 0) (L := fun _ _ => 0) (V := V) (G := G) (b := 84) (s := V.1) (Or.inr rfl) (hV1 hS.V)
  have fr : ∀ r k, r < 84 ∨ 105 ≤ r → G1 r k = G r k := fun r k h => a2 r k (fun f hf => by omega) (by omega)
  have both : ∀ (d' x' : Nat) (g : sm_G) (L' : sm_L), mOk g T (H c) K W → (∀ m, m < 301 → g 307 m = i3 (tB T (H c) K m)) → ∃ G' g', sm_cv0 (0 + 7) 88 342 (RR V) [.ref 84, .ref V.1, .ref 5, .ref 54, .ref 56, .int (i3 0), .int (i3 0), .int (i3 300)] (0, G1, fun _ _ => 0) = oV 0 G' (fun _ _ => 0) ∧ sm_cv0 (d' + 7) 264 342 (RR V) [.ref 156] (x', g, L') = oI (i3 (lostB G' 84 (dr T))) x' g' L' ∧ nFr2 g g' := by
    intro d' x' g L' hg hrow
    obtain ⟨G', g', e1, e2, _, e4, _⟩ := play0 (d := 0) (x := 0) (L := fun _ _ => 0) (V := V) (d' := d') (x' := x') (L' := L') (U := V) (G := G1) (g := g) (b := 84) (s := V.1) (r4 := 56) (K := K) (W := W) (tt := tB T (H c) K) (t0 := tB T (H c) K) (ex := 0) hS.V (Or.inr rfl) (hV1 hS.V) hS.T hS.P ⟨hS.c.keep (fun r k q => fr r k (by unfold inC at q; omega)), hg.1, fun e he => ⟨(hS.wl e he).1, (hS.wl e he).2.1.keep (fun r k y1 y2 => fr r k (by have := pW_lt (hS.V.2.2.2.2.2 e he); omega)), hg.2 e he⟩⟩ k_56 n_56 (Or.inl rfl) (by rw [a3]; exact hS.c.gfo) a4 (fun j hj => ⟨hrow j hj, Nat.lt_of_lt_of_le (rmB_lt T hS.T _) (by decide), by rw [fr _ _ (by omega)]; exact (hok j hj).2.1, Nat.or_zero _⟩) (fun j hj => by rw [fr _ _ (by omega)]; exact (hok j hj).2.2)
    exact ⟨G', g', e1, e2, e4⟩
  have hgb : mOk (fill g0 307 301 (fun m => i3 (tB T (H c) K m))) T (H c) K W := hg0.keep hS.T hS.P (fun r k y1 y2 => fill_ne (by omega))
  obtain ⟨G', _, q1, _, _⟩ := both 0 0 _ (fun _ _ => 0) hgb (fun m hm => fill_at hm)
  refine ⟨lostB G' 84 (dr T), bs_lt _ _, fun d' x' g L' hg hrow => ?_⟩
  obtain ⟨G2, g', p1, p2, p3⟩ := both d' x' g L' hg hrow
  obtain rfl := oV_inj (q1.symm.trans p1)
  exact ⟨g', p2, p3⟩
/-- a round of nobody -/
theorem rl0 {V : pV} {Gs X : sm_G} {T : pT} {K c M d x : Nat} {H W : Nat → pT} {o : List Nat} {L : sm_L} (hS : IvS V Gs T K c H W) (hM : M ≤ 300) (hmk : mk T = M + 1) (h0 : sl T = 0) (hz : ∀ f, f < 4 → Gs (91 + 4 * f) 10 = i3 0 ∨ Gs (91 + 4 * f) 10 = i3 1) (hX : cfR Gs X) (hO : oH X o) : ∃ X', sm_cv0 (d + 7) 62 342 (RR V) [.ref 1, .ref 54] (x, X, L) = oI (i3 0) x X' L ∧ cfR Gs X' ∧ oH X' o := by
  have hT := hS.T
  have hB := hT.gb
  have hV := hS.V
  have hs := hV1 hV
  have hsl := pS_lt hs
  have hd0 : dr T = 0 := by
    apply Nat.eq_zero_of_not_pos
    intro z
    have := (hT.gdm 0 z).1
    omega
  have hSX := hS.keep (G' := X) (fun r k a => hX r k (by unfold sc at a; omega) (by unfold sc at a; omega) (by unfold sc at a; omega))
  have e84 : sm_cv0 (d + 6) 84 342 (RR V) [.ref 54, .ref V.1] (x, X, L) = oV x X L := by
    rw [m_84 hs, h_84_2 hs, hSX.c.gsl, h0, if_neg (by decide)]
  obtain ⟨X2, b1, b2, b3, b4⟩ := s_100 (d := d + 3) (x := x) (V := V) (G := X) (L := L) (b := 84) (Or.inr rfl) (fun f hf => by
    have := hz f hf
    rw [show 84 + 7 + 4 * f = 91 + 4 * f by omega, hX _ _ (by omega) (by omega) (by omega)]
    exact this)
  have fr : ∀ r k, (r < 84 ∨ 105 ≤ r ∨ (r = 84 ∧ k = 5) ∨ (91 ≤ r ∧ r ≤ 92) ∨ (95 ≤ r ∧ r ≤ 96) ∨ (99 ≤ r ∧ r ≤ 100) ∨ (103 ≤ r ∧ r ≤ 104)) → X2 r k = X r k := fun r k y => b2 r k (fun f hf => by omega) (by omega)
  have eM : ∀ Y : sm_G, (∀ r k, r < 54 ∨ 108 < r → Y r k = Gs r k) → Y V.1 14 = i3 M := fun Y hY => by rw [hY _ _ (by omega), hS.c.gmk, hmk, mi_succ]
  have hX2 : ∀ r k, r < 54 ∨ 108 < r → X2 r k = Gs r k := fun r k y => by rw [fr r k (by omega)]; exact hX r k (by omega) (by omega) (by omega)
  have e4' : sm_cv0 (d + 6) 4 342 (RR V) [.int (i3 300), .int (i3 M + i3 0 - i3 1)] (x, X, L) = oI (mi M) x X L := by
    rw [s_4, i3_add, Nat.add_zero, i3_pr]
    rw [if_pos (by
      cases M with
      | zero => decide
      | succ M => rw [mi_succ, i3_lt (by omega) (by omega)]; omega)]
  have e88 : sm_cv0 (d + 6) 88 342 (RR V) [.ref 84, .ref V.1, .ref 5, .ref 54, .ref 58, .int (i3 0), .int (i3 M), .int (mi M)] (x, X2, L) = oV x X2 L := by
    rw [m_88 (Or.inr rfl) hs, s_5, if_neg (show ¬ i3 M < i3 0 by rw [i3_lt (by omega) (by omega)]; omega), aI_o, h_88_8 (Or.inr rfl) hs, if_neg (by
      cases M with
      | zero => decide
      | succ M => rw [mi_succ, i3_le (by omega) (by omega)]; omega)]
  have hc2 : cS X2 V.1 T := hS.c.keep (fun r k q => hX2 r k (by unfold inC at q; omega))
  have e97 := s_97 (d := d + 5) (x := x) (V := V) (L := L) (G := X2) (b := 84) (s := V.1) (Or.inr rfl) hs hc2.gdr hB.2.2.2.1
  have e118 := s_118 (d := d + 5) (x := x) (V := V) (G := X2) (L := L) hs hc2 hT hS.K hS.K8
  have eK : X2 (V.1 + 1) 9 = i3 K := by rw [hX2 _ _ (by omega)]; exact hS.p.gkp
  have b1' : sm_cv0 (d + 6) 100 342 (RR V) [.ref 84] (x, X, L) = oV x X2 L := b1
  have e97' : sm_cv0 (d + 6) 97 342 (RR V) [.ref 84, .ref V.1] (x, X2, L) = oI (i3 (lostB X2 84 (dr T))) x X2 L := e97
  have e118' : sm_cv0 (d + 6) 118 342 (RR V) [.ref V.1, .int (i3 K)] (x, X2, L) = oI (i3 (rmB T K.testBit)) x X2 L := e118
  have e7 := s_7 (d := d + 5) (x := x) (V := V) (G := X2) (L := L) (a := 0) (by decide)
  refine ⟨X2, ?_, fun r k y1 y2 y3 => by rw [fr r k y3]; exact hX r k y1 y2 y3, hO.1, hO.2.1, fun k hk => by rw [fr _ _ (by omega)]; exact hO.2.2 k hk⟩
  have e7' : sm_cv0 (d + 6) 7 342 (RR V) [.int (i3 0)] (x, X2, L) = oI (i3 0) x X2 L := e7
  rw [m_62 hV, eM X (fun r k y => hX r k (by omega) (by omega) (by omega)), hSX.c.gsl, h0, e4', aI_o, e84, aV_o, b1', aV_o, eM X2 hX2, e88, aV_o, e97', aI_o, eK, e118', aI_o, h_62_99, h_62_102 hV, hc2.gdr, hd0, if_neg (by decide)]
  show sm_aI (sm_cv0 (d + 6) 7 342 (RR V) [.int (i3 (lostB X2 84 0))] (x, X2, L)) _ _ = _
  rw [show lostB X2 84 0 = 0 from rfl, e7', aI_o]
