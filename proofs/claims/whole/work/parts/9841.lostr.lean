/-! a round's night -/
theorem wR.keep2 {G g G' g' : sm_G} {b e r : Nat} {T W : pT} (h : wR G g b e T W r) (hG : ∀ k, 1 ≤ k → k ≤ 10 → G' (b + 5 + 4 * e) k = G (b + 5 + 4 * e) k) (hG2 : ∀ k, k < 6 → G' (b + 5 + 4 * e + 1) k = G (b + 5 + 4 * e + 1) k) (hg : ∀ a k, (325 ≤ a ∧ a ≤ 330 ∧ k = e) ∨ a = 315 + e ∨ a = 320 + e → g' a k = g a k) : wR G' g' b e T W r := by
  obtain ⟨h1, h2, h3, ⟨a1, a2, a3, a4, a5⟩, ⟨z, b1, b2, b3, b4⟩, ⟨n, c1, c2, c3, c4⟩, p, st, h, d1, d2, d3, d4, n2, f, q, e1, e2⟩ := h
  refine ⟨by rw [hG _ (by omega) (by omega)]; exact h1, by rw [hg _ _ (by omega)]; exact h2, h3, ⟨?_, ?_, ?_, ?_, ?_⟩, ⟨z, b1, ?_, ?_, ?_⟩, ⟨n, c1, ?_, ?_, ?_⟩, p, st, h, ?_, ?_, ?_, d4, n2, f, q, e1, e2.keep (fun k hk => hG2 k (by omega)) (fun j _ => hg _ _ (by omega))⟩
  · rw [hG _ (by omega) (by omega), hg _ _ (by omega)]; exact a1
  · rw [hG _ (by omega) (by omega), hg _ _ (by omega)]; exact a2
  · rw [hG _ (by omega) (by omega), hg _ _ (by omega)]; exact a3
  · rw [hG _ (by omega) (by omega), hg _ _ (by omega)]; exact a4
  · rw [hG _ (by omega) (by omega), hg _ _ (by omega)]; exact a5
  · rw [hG _ (by omega) (by omega)]; exact b2
  · rw [hg _ _ (by omega)]; exact b3
  · rw [hg _ _ (by omega)]; exact b4
  · rw [hG _ (by omega) (by omega)]; exact c2
  · rw [hg _ _ (by omega)]; exact c3
  · rw [hg _ _ (by omega)]; exact c4
  · rw [hG _ (by omega) (by omega)]; exact d1
  · rw [hg _ _ (by omega)]; exact d2
  · rw [hg _ _ (by omega)]; exact d3
/-- the model's beginning of a night -/
def nIni (g : sm_G) (T : pT) : Prop := g 156 56 = i3 (fo T) ∧ g 156 57 = i3 0 ∧ ∀ f, f < dr T → g 325 f = m1 ∧ g 326 f = i3 0 ∧ g 327 f = i3 0 ∧ g 328 f = i3 0 ∧ g 330 f = i3 0 ∧ g (315 + f) 0 = m1 ∧ ∀ k, 1 ≤ k → k < 6 → g (315 + f) k = i3 0
def mOk (g : sm_G) (T P : pT) (K : Nat) (W : Nat → pT) : Prop := mH g T P K ∧ ∀ e, e < 4 → mWl g e (W e)
theorem mOk.keep {g g' : sm_G} {T P : pT} {K : Nat} {W : Nat → pT} (h : mOk g T P K W) (hT : okT T) (hP : okP T P) (f : ∀ r k, ¬ (305 ≤ r) → ¬ (r = 156 ∧ (k = 0 ∨ 39 < k)) → g' r k = g r k) : mOk g' T P K W :=
  ⟨h.1.keep hT hP (fun r k q => f r k (by unfold inM at q; omega) (by unfold inM at q; omega)), fun e he => (h.2 e he).keep he (fun r k q => f r k (by omega) (by omega))⟩
/-- the night before the milkman: what the class has of it, and the model -/
def rPre (T P : pT) (K : Nat) (W : Nat → pT) (M : Nat) (Gp : sm_G) : Prop := (∀ f, f < 4 → Gp (89 + 4 * f) 10 = i3 0 ∨ Gp (89 + 4 * f) 10 = i3 1) ∧ ∀ (d' x' : Nat) (U : pV) (v1 : Int32) (g : sm_G) (L' : sm_L), mOk g T P K W → nIni g T → (∀ j, j < M → g 307 j = i3 (tB T P K j)) → ∃ (g' : sm_G) (ρ : Nat → Nat) (o : Nat), hD (d' + 5) 264 99 [.ref 156, .int v1, .null, .null] 342 (RR U) x' g L' = hD (d' + 5) 264 99 [.ref 156, .int v1, .null, .null] 342 (RR U) x' g' L' ∧ nFr2 g g' ∧ (∀ f, f < dr T → wR Gp g' 84 f T (W f) (ρ f) ∧ (ρ f ≠ 0 → cM T f < M)) ∧ o < 1024 ∧ Gp 84 4 = i3 o ∧ g' 156 56 = i3 o ∧ g' 156 57 = i3 M
theorem i3_pr (M : Nat) : i3 M - i3 1 = mi M := by
  cases M with
  | zero => decide
  | succ M => rw [mi_succ, i3_sub (by omega)]; rfl
/-- the night before the milkman comes -/
theorem s_pre {d x : Nat} {L : sm_L} {V : pV} {G g0 : sm_G} {T : pT} {K c M : Nat} {H W : Nat → pT} (hS : IvS V G T K c H W) (hok : hOk G T (H c) K) (hM : M ≤ 300) (b4 : G 84 4 = i3 (fo T)) (hw : ∀ f, f < 4 → G (89 + 4 * f) 1 = m1 ∧ G (89 + 4 * f) 2 = m1 ∧ ∀ k, 3 ≤ k → k ≤ 10 → G (89 + 4 * f) k = i3 0) (hg0 : mOk g0 T (H c) K W) : ∃ Gp, sm_cv0 (d + 7) 88 342 (RR V) [.ref 84, .ref V.1, .ref 5, .ref 54, .ref 56, .int (i3 0), .int (i3 0), .int (mi M)] (x, G, L) = oV x Gp L ∧ (∀ r k, ¬ (84 ≤ r ∧ r < 105) → Gp r k = G r k) ∧ rPre T (H c) K W M Gp := by
  have hT := hS.T
  have hP := hS.P
  have hV := hS.V
  have hB := hT.gb
  have hs := hV1 hV
  have hsl := pS_lt hs
  have hC : ∀ g, mOk g T (H c) K W → nCx V G g 84 V.1 T (H c) K W := fun g hg => ⟨hS.c, hg.1, fun e he => ⟨(hS.wl e he).1, (hS.wl e he).2.1, hg.2 e he⟩⟩
  have h57 : ∀ j, j < 301 → G 57 j = i3 (dat T (H c) j) := fun j hj => (hok j hj).2.2
  have e88 : ∀ (w : Int32), sm_cv0 (d + 7) 88 342 (RR V) [.ref 84, .ref V.1, .ref 5, .ref 54, .ref 56, .int (i3 0), .int (i3 0), .int w] (x, G, L) = hD (d + 1 + 5) 88 8 [.ref 84, .ref V.1, .ref 5, .ref 54, .ref 56, .int (i3 0), .null, .int w, .int (i3 0), .null] 342 (RR V) x G L := fun w => by
    rw [m_88 (Or.inr rfl) hs, s_5]
    simp (disch := omega) only [i3_add, i3_mul, i3_sub, i3_m1, i3_lt, i3_le, i3_eq, m1_lt, lt_m1, m1_le, le_m1, i3_nm1, m1_ni3, i3_cl, i3_in, i3_or, i3_and, i3_xor, i3_shl, i3_shr, sh_tb, tb_eq0, gd_tt, aI_o, aV_o, aL_o, aR_o, zd_0, zd_1, if_true, if_false, ite_self, eq_self, Bool.true_eq_false, Bool.false_eq_true, bi_0, bi_1, bi_zd, Nat.not_lt_zero, ite_self]
  cases M with
  | zero =>
    refine ⟨G, ?_, fun _ _ _ => rfl, fun f hf => Or.inl ((hw f hf).2.2 10 (by omega) (by omega)), fun d' x' U v1 g L' hg hi hr => ?_⟩
    · rw [e88, h_88_8 (Or.inr rfl) hs, if_neg (show ¬ i3 0 ≤ mi 0 by decide)]
    · refine ⟨g, fun _ => 0, fo T, rfl, fun _ _ _ _ => rfl, fun f hf => ⟨wR_new (hS.wl f (by omega)).1 (hw f (by omega)) (hi.2.2 f hf), fun z => absurd rfl z⟩, fo_lt hT, b4, hi.1, hi.2.1⟩
  | succ M =>
    have both : ∀ (d' x' : Nat) (L' : sm_L) (U : pV) (v1 : Int32) (g : sm_G), mOk g T (H c) K W → nIni g T → (∀ j, j < M + 1 → g 307 j = i3 (tB T (H c) K j)) → ∃ (Gp g' : sm_G) (ρ : Nat → Nat) (o : Nat), sm_cv0 (d + 7) 88 342 (RR V) [.ref 84, .ref V.1, .ref 5, .ref 54, .ref 56, .int (i3 0), .int (i3 0), .int (i3 M)] (x, G, L) = oV x Gp L ∧ (∀ r k, ¬ (84 ≤ r ∧ r < 105) → Gp r k = G r k) ∧ (∀ f, f < 4 → Gp (89 + 4 * f) 10 = i3 0 ∨ Gp (89 + 4 * f) 10 = i3 1) ∧ hD (d' + 5) 264 99 [.ref 156, .int v1, .null, .null] 342 (RR U) x' g L' = hD (d' + 5) 264 99 [.ref 156, .int v1, .null, .null] 342 (RR U) x' g' L' ∧ nFr2 g g' ∧ (∀ f, f < dr T → wR Gp g' 84 f T (W f) (ρ f) ∧ (ρ f ≠ 0 → cM T f < M + 1)) ∧ o < 1024 ∧ Gp 84 4 = i3 o ∧ g' 156 56 = i3 o ∧ g' 156 57 = i3 (M + 1) := by
      intro d' x' L' U v1 g hg hi hr
      obtain ⟨Gp, g', ρ', o', e1, e2, e3, e4, e5, e6, e7, e8, e9, e10, _, e12⟩ := l_play (d := d + 1) (x := x) (L := L) (V := V) (d' := d') (x' := x') (L' := L') (U := U) (v1 := v1) (r4 := 56) (ex := 0) (z := M) (tB T (H c) K) (tB T (H c) K) (fun _ _ _ => True) hV (Or.inr rfl) hs hT hP (by omega) k_56 n_56 (Or.inl rfl) (fun _ _ _ _ _ _ _ _ => trivial) (M + 1) 0 G g (fun _ => 0) (fo T) (by omega) (hC g hg) (fun f hf => ⟨wR_new (hS.wl f (by omega)).1 (hw f (by omega)) (hi.2.2 f hf), fun z => absurd rfl z⟩) (fo_lt hT) b4 hi.1 hi.2.1 (fun j _ hj => ⟨hr j (by omega), Nat.lt_of_lt_of_le (rmB_lt T hT _) (by decide), (hok j (by omega)).2.1, Nat.or_zero _⟩) h57 trivial
      refine ⟨Gp, g', ρ', o', (e88 (i3 M)).trans e1, fun r k a => e3 r k (by omega) (fun f hf => by omega) (by omega), fun f hf => ?_, e2, fun r k a1 a2 => e4 r k (by omega) (by omega) (by omega) (by omega) (by omega) (by omega), e5, e6, e7, e8, e9⟩
      by_cases q : f < dr T
      · obtain ⟨z, z1, z2, _⟩ := (e5 f q).1.2.2.2.2.1
        rw [show 89 + 4 * f = 84 + 5 + 4 * f by omega, z2]
        obtain rfl | rfl : z = 0 ∨ z = 1 := by omega
        · exact Or.inl rfl
        · exact Or.inr rfl
      · have := e12 f (by omega) hf
        rw [show 89 + 4 * f = 84 + 5 + 4 * f by omega, this]
        exact Or.inl ((hw f hf).2.2 10 (by omega) (by omega))
    -- a store of the model to begin with
    have hb : ∃ gb, mOk gb T (H c) K W ∧ nIni gb T ∧ ∀ j, j < M + 1 → gb 307 j = i3 (tB T (H c) K j) := by
      have x0 : ∀ r k, ¬ (r = 156 ∧ k = 56) → sm_up g0 156 56 (i3 (fo T)) r k = g0 r k := fun r k q => sm_up_ne (by omega)
      have x56 : sm_up g0 156 56 (i3 (fo T)) 156 56 = i3 (fo T) := sm_up_same _ _ _ _
      generalize sm_up g0 156 56 (i3 (fo T)) = g1 at x0 x56
      obtain ⟨g2, _, q2, q3, q4⟩ := l_init (d' := 0) (x' := 0) (L' := fun _ _ => 0) (U := V) (v1 := i3 0) hT hP ((hg0.keep hT hP (g' := g1) (fun r k a1 a2 => x0 r k (by omega))).1)
      refine ⟨fill g2 307 301 (fun m => i3 (tB T (H c) K m)), hg0.keep hT hP (fun r k a1 a2 => by rw [fill_ne (by omega), q2 r k (by omega) (by omega) (by omega)]; exact x0 r k (by omega)), ⟨?_, ?_, fun f hf => ?_⟩, fun j hj => fill_at (by omega)⟩
      · rw [fill_ne (by omega), q2 _ _ (by omega) (by omega) (by omega)]; exact x56
      · rw [fill_ne (by omega)]; exact q3
      · obtain ⟨c1, c2, c3, c4, c5, c6, c7⟩ := q4 f hf
        refine ⟨?_, ?_, ?_, ?_, ?_, ?_, fun k k1 k2 => ?_⟩
        · rw [fill_ne (by omega)]; exact c1
        · rw [fill_ne (by omega)]; exact c2
        · rw [fill_ne (by omega)]; exact c3
        · rw [fill_ne (by omega)]; exact c4
        · rw [fill_ne (by omega)]; exact c5
        · rw [fill_ne (by omega)]; exact c6
        · rw [fill_ne (by omega)]; exact c7 k k1 k2
    obtain ⟨gb, y1, y2, y3⟩ := hb
    obtain ⟨Gp, _, _, _, p1, p2, p3, _⟩ := both 0 0 (fun _ _ => 0) V (i3 0) gb y1 y2 y3
    refine ⟨Gp, by rw [mi_succ]; exact p1, p2, p3, fun d' x' U v1 g L' hg hi hr => ?_⟩
    obtain ⟨Gq, g', ρ, o, r1, r2, r3, r4, r5, r6, r7, r8, r9, r10⟩ := both d' x' L' U v1 g hg hi hr
    obtain rfl := oV_inj (p1.symm.trans r1)
    exact ⟨g', ρ, o, r4, r5, r6, r7, r8, r9, r10⟩
