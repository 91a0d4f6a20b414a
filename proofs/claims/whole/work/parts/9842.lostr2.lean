/-! who is lost in a round -/
theorem slp_pre {T P : pT} {K k m M : Nat} {w : Nat → Nat} (hmk : mk T = M + 1) (hm : m < M) : slp T P w (fun _ => 1000) K k m = slp0 T P K k m := by
  unfold slp0 slp
  try dsimp only
  rw [hmk, decide_eq_true (show m + 1 < M + 1 + w k by omega), decide_eq_true (show m + 1 < M + 1 + k by omega)]
theorem slp_post {T P : pT} {K k m M n : Nat} {w : Nat → Nat} (hmk : mk T = M + 1) (hw : w k < n) (hm : M + n ≤ m + 1) : slp T P w (fun _ => 1000) K k m = K.testBit k := by
  unfold slp
  try dsimp only
  rw [hmk, decide_eq_false (show ¬ m + 1 < M + 1 + w k by omega), decide_eq_false (show ¬ M + 1 = 0 by omega)]
  cases K.testBit k <;> simp
theorem rmB_congr {T : pT} {s s' : Nat → Bool} (hT : okT T) (h : ∀ k, k < sl T → s k = s' k) : rmB T s = rmB T s' := by
  unfold rmB
  refine bs_congr (fun r hr => ?_)
  have ht := hT.gtp r hr
  rw [h r hr]
  by_cases q : tp T r = 0
  · rw [decide_eq_false (by omega : ¬ tp T r ≠ 0), Bool.false_and, Bool.false_and]
  · rw [h (tp T r - 1) (by omega)]
/-- the class's store between two tries of a round -/
def cfR (Gs X : sm_G) : Prop := ∀ r k, r ≠ 58 → r ≠ 60 → (r < 84 ∨ 105 ≤ r ∨ (r = 84 ∧ k = 5) ∨ (91 ≤ r ∧ r ≤ 92) ∨ (95 ≤ r ∧ r ≤ 96) ∨ (99 ≤ r ∧ r ≤ 100) ∨ (103 ≤ r ∧ r ≤ 104)) → X r k = Gs r k
def tlB (T : pT) (C R0 : Nat) (f : Nat) : Bool := decide (C < cM T f) && !R0.testBit (cR T f)
theorem l_62 {d x C A R0 : Nat} {V : pV} {L : sm_L} {T : pT} {G : sm_G} (hV : okV V) (hc : cS G V.1 T) (hT : okT T) (hC : C ≤ 300) (hR : R0 < 256) (hA : A < 2 ^ dr T) : hD (d + 1) 62 99 [.ref 1, .null, .int (i3 C), .int (i3 A), .int (i3 R0), .null] 342 (RR V) x G L = oI (i3 (pc (A ||| bs (tlB T C R0) (dr T)) 10)) x G L := by
  have hB := hT.gb
  have key : ∀ i, i ≤ dr T → hD (d + 1) 62 102 [.ref 1, .null, .int (i3 C), .int (i3 A), .int (i3 R0), .int (i3 0)] 342 (RR V) x G L = hD (d + 1) 62 102 [.ref 1, .null, .int (i3 C), .int (i3 (A ||| bs (tlB T C R0) i)), .int (i3 R0), .int (i3 i)] 342 (RR V) x G L := by
    intro i
    induction i with
    | zero => intro _; rw [show A ||| bs (tlB T C R0) 0 = A from Nat.or_zero A]
    | succ i ih =>
      intro hi
      have hd := hT.gdm i (by omega)
      have e1 := hc.gcM i (by omega)
      have e2 := hc.gcR i (by omega)
      rw [ih (by omega), h_62_102 hV, hc.gdr, if_pos (show i3 i < i3 (dr T) by rw [i3_lt (by omega) (by omega)]; omega), i3_in (by omega) (by omega), gd_tt, gd_tt, i3_cl (by omega), e1, e2, i3_shr (by omega) (by omega), i3_and, sh_tb, i3_shl (by omega), i3_or, i3_add]
      show _ = hD (d + 1) 62 102 [.ref 1, .null, .int (i3 C), .int (i3 (A ||| (bs (tlB T C R0) i ||| (if tlB T C R0 i then 1 <<< i else 0)))), .int (i3 R0), .int (i3 (i + 1))] 342 (RR V) x G L
      unfold tlB
      by_cases q : cM T i ≤ C
      · rw [if_pos (by rw [i3_le (by omega) (by omega)]; exact q), decide_eq_false (show ¬ C < cM T i by omega), Bool.false_and, if_neg (by decide), Nat.or_zero]
      · rw [if_neg (by rw [i3_le (by omega) (by omega)]; exact q), decide_eq_true (show C < cM T i by omega), Bool.true_and]
        cases h : R0.testBit (cR T i) with
        | true => rw [if_neg (by rw [tb_eq0, h]; decide), if_neg (by decide), Nat.or_zero]
        | false => rw [if_pos (by rw [tb_eq0]; exact h), if_pos (by decide), Nat.or_assoc]
  have hl : A ||| bs (tlB T C R0) (dr T) < 2 ^ dr T := Nat.or_lt_two_pow hA (bs_lt _ _)
  have h16 : 2 ^ dr T ≤ 2 ^ 4 := Nat.pow_le_pow_right (by decide) hB.2.2.2.1
  have e7 := s_7 (d := d) (x := x) (V := V) (G := G) (L := L) (show A ||| bs (tlB T C R0) (dr T) < 1024 by omega)
  rw [h_62_99, key (dr T) (Nat.le_refl _), h_62_102 hV, hc.gdr, if_neg (show ¬ i3 (dr T) < i3 (dr T) by rw [i3_lt (by omega) (by omega)]; omega), e7, aI_o]
theorem rl1 {V : pV} {Gs gb Gp : sm_G} {T : pT} {K c M : Nat} {H W : Nat → pT} {o : List Nat} (hS : IvS V Gs T K c H W) (hok : hOk Gs T (H c) K) (hM : M ≤ 300) (hmk : mk T = M + 1) (h6 : sl T ≤ 6) (h1 : 1 ≤ sl T) (hp : rPre T (H c) K W M Gp) (hs5 : Gs 84 5 = Gp 84 4) (hcp : ∀ f, f < 4 → cpy Gs Gp (91 + 4 * f) (89 + 4 * f)) (hoO : okO (sl T) o = true) (hgb : mOk gb T (H c) K W) :
    ∃ N, N ≤ 4 ∧ (∀ (d x : Nat) (X : sm_G) (L : sm_L), cfR Gs X → oH X o → ∃ X', sm_cv0 (d + 7) 62 342 (RR V) [.ref 1, .ref 54] (x, X, L) = oI (i3 N) x X' L ∧ cfR Gs X' ∧ oH X' o) ∧
      ∀ (d' x' : Nat) (g : sm_G) (L' : sm_L), mOk g T (H c) K W → (∀ m, m < 301 → g 307 m = i3 (rmB T (fun k => slp T (H c) (wps (sl T) o) (fun _ => 1000) K k m))) → ∃ g' n, n < 16 ∧ pc n 10 = N ∧ sm_cv0 (d' + 7) 264 342 (RR V) [.ref 156] (x', g, L') = oI (i3 n) x' g' L' ∧ nFr2 g g' := by
  have hT := hS.T
  have hP := hS.P
  have hV := hS.V
  have hB := hT.gb
  have hs := hV1 hV
  have hsl := pS_lt hs
  have hK8 : 2 ^ sl T ≤ 2 ^ 8 := Nat.pow_le_pow_right (by decide) hB.1
  have hKb := hS.K
  have hR0 : rmB T K.testBit < 256 := rmB_lt T hT _
  obtain ⟨C, hC⟩ : ∃ C, (C = M + sl T - 1 ∧ C < 300) ∨ (C = 300 ∧ 300 ≤ M + sl T - 1) := by
    by_cases q : M + sl T - 1 < 300
    · exact ⟨_, Or.inl ⟨rfl, q⟩⟩
    · exact ⟨300, Or.inr ⟨rfl, by omega⟩⟩
  have both : ∀ (d x d' x' : Nat) (X g : sm_G) (L L' : sm_L), cfR Gs X → oH X o → mOk g T (H c) K W → (∀ m, m < 301 → g 307 m = i3 (rmB T (fun k => slp T (H c) (wps (sl T) o) (fun _ => 1000) K k m))) → ∃ X' g' N, N < 16 ∧ sm_cv0 (d + 7) 62 342 (RR V) [.ref 1, .ref 54] (x, X, L) = oI (i3 (pc N 10)) x X' L ∧ cfR Gs X' ∧ oH X' o ∧ sm_cv0 (d' + 7) 264 342 (RR V) [.ref 156] (x', g, L') = oI (i3 N) x' g' L' ∧ nFr2 g g' := by
    intro d x d' x' X g L L' hX hO hg hrow
    have hSX := hS.keep (G' := X) (fun r k a => hX r k (by unfold sc at a; omega) (by unfold sc at a; omega) (by unfold sc at a; omega))
    have hwn : ∀ k, k < sl T → wps (sl T) o k < sl T := fun k hk => ((okO.all hoO).2.2.2 k hk).1
    -- the class up to its play
    obtain ⟨X1, a1, a2, a3⟩ := s_84 (d := d + 4) (x := x) (V := V) (L := L) (s := V.1) (M := M) (o := o) hs hT hP hKb h6 hoO hmk (sl T) 0 X (by omega) hSX.c hSX.p hO
    have e84 : sm_cv0 (d + 6) 84 342 (RR V) [.ref 54, .ref V.1] (x, X, L) = oV x X1 L := by rw [m_84 hs]; exact a1
    have sv : ∀ f, f < 4 → (∀ k, 1 ≤ k → k ≤ 10 → X1 (84 + 7 + 4 * f) k = Gp (84 + 5 + 4 * f) k) ∧ ∀ k, k < 6 → X1 (84 + 7 + 4 * f + 1) k = Gp (84 + 5 + 4 * f + 1) k := fun f hf => by
      obtain ⟨c1, c2⟩ := hcp f hf
      refine ⟨fun k k1 k2 => ?_, fun k hk => ?_⟩
      · rw [a2 _ _ (by omega), hX _ _ (by omega) (by omega) (by omega), show 84 + 7 + 4 * f = 91 + 4 * f by omega, show 84 + 5 + 4 * f = 89 + 4 * f by omega]
        exact c1 k k1 k2
      · rw [a2 _ _ (by omega), hX _ _ (by omega) (by omega) (by omega), show 84 + 7 + 4 * f + 1 = 91 + 4 * f + 1 by omega, show 84 + 5 + 4 * f + 1 = 89 + 4 * f + 1 by omega]
        exact c2 k hk
    obtain ⟨X2, b1, b2, b3, b4⟩ := s_100 (d := d + 3) (x := x) (V := V) (G := X1) (L := L) (b := 84) (Or.inr rfl) (fun f hf => by
      rw [(sv f hf).1 10 (by omega) (by omega), show 84 + 5 + 4 * f = 89 + 4 * f by omega]
      exact hp.1 f hf)
    -- the model up to the milkman's minute
    have e260 := s_260 (d := d' + 5) (x := x') (L := L') (V := V) hg.1 hT
    have gx : ∀ r k, ¬ (r = 156 ∧ k = 56) → sm_up g 156 56 (i3 (fo T)) r k = g r k := fun r k q => sm_up_ne (by omega)
    have g56 : sm_up g 156 56 (i3 (fo T)) 156 56 = i3 (fo T) := sm_up_same _ _ _ _
    have c0 : sm_cv0 (d' + 7) 264 342 (RR V) [.ref 156] (x', g, L') = hD (d' + 6) 264 12 [.ref 156, .int (i3 0), .int (i3 0), .null] 342 (RR V) x' (sm_up g 156 56 (i3 (fo T))) L' := by
      rw [m_264, e260]
      rfl
    generalize sm_up g 156 56 (i3 (fo T)) = g0 at *
    obtain ⟨g1, q1, q2, q3, q4⟩ := l_init (d' := d' + 6) (x' := x') (L' := L') (U := V) (v1 := i3 0) hT hP (hg.1.keep hT hP (fun r k q => gx r k (by unfold inM at q; omega)))
    have gg : ∀ r k, ¬ (309 ≤ r ∧ r ≤ 330) → ¬ (r = 156 ∧ (k = 56 ∨ k = 57)) → g1 r k = g r k := fun r k y1 y2 => by rw [q2 r k (by omega) (by omega) (by omega)]; exact gx r k (by omega)
    have hg1 : mOk g1 T (H c) K W := hg.keep hT hP (fun r k y1 y2 => gg r k (by omega) (by omega))
    obtain ⟨g2, ρ2, o2, p1, p2, p3, p4, p5, p6, p7⟩ := hp.2 (d' + 1) x' V (i3 0) g1 L' hg1 ⟨by rw [q2 _ _ (by omega) (by omega) (by omega)]; exact g56, q3, q4⟩ (fun j hj => by
      rw [gg _ _ (by omega) (by omega), hrow j (by omega)]
      congr 1
      exact rmB_congr hT (fun k hk => slp_pre hmk hj))
    have hg2 : mOk g2 T (H c) K W := hg1.keep hT hP (fun r k y1 y2 => p2 r k (by omega) (by omega))
    have gg2 : ∀ r k, ¬ (309 ≤ r ∧ r ≤ 330) → ¬ (r = 156 ∧ (k = 56 ∨ k = 57)) → g2 r k = g r k := fun r k y1 y2 => by rw [p2 r k y1 y2]; exact gg r k y1 y2
    -- both from the milkman's minute on
    have x2 : ∀ r k, (r < 84 ∨ 105 ≤ r ∨ (r = 84 ∧ k = 5) ∨ (91 ≤ r ∧ r ≤ 92) ∨ (95 ≤ r ∧ r ≤ 96) ∨ (99 ≤ r ∧ r ≤ 100) ∨ (103 ≤ r ∧ r ≤ 104)) → X2 r k = X1 r k := fun r k y => b2 r k (fun f hf => by
      obtain rfl | rfl | rfl | rfl : f = 0 ∨ f = 1 ∨ f = 2 ∨ f = 3 := by omega
      all_goals omega) (by omega)
    have w2 : ∀ f, f < dr T → wR X2 g2 84 f T (W f) (ρ2 f) ∧ (ρ2 f ≠ 0 → cM T f < M) := fun f hf => ⟨(p3 f hf).1.keep2 (fun k k1 k2 => by rw [(b4 f (by omega)).1 k k1 k2]; exact (sv f (by omega)).1 k k1 k2) (fun k hk => by rw [(b4 f (by omega)).2 k hk]; exact (sv f (by omega)).2 k hk) (fun _ _ _ => rfl), (p3 f hf).2⟩
    have x84 : X2 84 4 = i3 o2 := by
      rw [b3, a2 _ _ (by omega), hX _ _ (by omega) (by omega) (by omega), hs5]
      exact p5
    have cx : ∀ (Y y : sm_G), (∀ r k, r < 54 ∨ 108 < r → Y r k = Gs r k) → mOk y T (H c) K W → nCx V Y y 84 V.1 T (H c) K W := fun Y y hY hy => ⟨hS.c.keep (fun r k q => hY r k (by unfold inC at q; omega)), hy.1, fun e he => ⟨(hS.wl e he).1, (hS.wl e he).2.1.keep (fun r k y1 y2 => hY r k (by have := pW_lt (hV.2.2.2.2.2 e he); omega)), hy.2 e he⟩⟩
    have hY2 : ∀ r k, r < 54 ∨ 108 < r → X2 r k = Gs r k := fun r k y => by rw [x2 r k (by omega), a2 r k (by omega)]; exact hX r k (by omega) (by omega) (by omega)
    have h57 : ∀ j, j < 301 → X2 57 j = i3 (dat T (H c) j) := fun j hj => by rw [x2 _ _ (by omega), a2 _ _ (by omega), hX _ _ (by omega) (by omega) (by omega)]; exact (hok j hj).2.2
    obtain ⟨X3, g3, ρ3, o3, e1, e2, e3, e4, e5, e6, e7, e8, e9, _, e11, _⟩ := l_play (d := d) (x := x) (L := L) (V := V) (d' := d' + 1) (x' := x') (L' := L') (U := V) (v1 := i3 0) (r4 := 58) (ex := 0) (z := C) (fun m => rmB T (fun k => slp T (H c) (wps (sl T) o) (fun _ => 1000) K k m)) (fun m => rmB T (fun k => slp T (H c) (wps (sl T) o) (fun _ => 1000) K k m)) (fun m ρ _ => m = M ∨ ∀ f, f < dr T → ρ f ≠ 0 → (rmB T (fun k => slp T (H c) (wps (sl T) o) (fun _ => 1000) K k (m - 1))).testBit (ρ f - 1) = true) hV (Or.inr rfl) hs hT hP (by omega) k_58 n_58 (Or.inr rfl) (fun m ρ ρ' g g' _ _ hmn => Or.inr (fun f hf h0 => (hmn f hf).2.2 h0)) (C + 1 - M) M X2 g2 ρ2 o2 (by omega) (cx X2 g2 hY2 hg2) w2 p4 x84 p6 p7 (fun j j1 j2 => by
      refine ⟨by rw [gg2 _ _ (by omega) (by omega)]; exact hrow j (by omega), Nat.lt_of_lt_of_le (rmB_lt T hT _) (by decide), ?_, Nat.or_zero _⟩
      rw [x2 _ _ (by omega)]
      have := a3 (j - M) (by omega) (by omega) (by omega)
      rw [show M + (j - M) = j by omega] at this
      exact this) h57 (Or.inl rfl)
    have hg3 : mOk g3 T (H c) K W := hg2.keep hT hP (fun r k y1 y2 => e4 r k (by omega) (by omega) (by omega) (by omega) (by omega) (by omega))
    have x3 : ∀ r k, (r < 84 ∨ 105 ≤ r ∨ (r = 84 ∧ k = 5) ∨ (91 ≤ r ∧ r ≤ 92) ∨ (95 ≤ r ∧ r ≤ 96) ∨ (99 ≤ r ∧ r ≤ 100) ∨ (103 ≤ r ∧ r ≤ 104)) → X3 r k = X1 r k := fun r k y => by
      rw [e3 r k (by omega) (fun f hf => by
        obtain rfl | rfl | rfl | rfl : f = 0 ∨ f = 1 ∨ f = 2 ∨ f = 3 := by omega
        all_goals omega) (by omega)]
      exact x2 r k y
    have hY3 : ∀ r k, r < 54 ∨ 108 < r → X3 r k = Gs r k := fun r k y => by rw [x3 r k (by omega), a2 r k (by omega)]; exact hX r k (by omega) (by omega) (by omega)
    have f3 : ∀ f, f < dr T → X3 (84 + 5 + 4 * f) 2 = g3 (315 + f) 0 := fun f hf => (e5 f hf).1.2.2.2.1.1
    -- the model to the night's end
    have post : ∃ g4, hD (d' + 1 + 5) 264 99 [.ref 156, .int (i3 0), .null, .null] 342 (RR V) x' g3 L' = hD (d' + 1 + 5) 264 99 [.ref 156, .int (i3 0), .null, .null] 342 (RR V) x' g4 L' ∧ nFr2 g3 g4 ∧ g4 156 57 = i3 301 ∧ ∀ f, f < dr T → (g4 (315 + f) 0 ≠ m1 ↔ (g3 (315 + f) 0 ≠ m1 ∨ (C < cM T f ∧ (rmB T K.testBit).testBit (cR T f) = false))) := by
      rcases hC with ⟨hC1, hC2⟩ | ⟨hC1, hC2⟩
      · have yn : ∀ r k, r ≠ 58 → (fun r k => if r = 58 ∧ C < k then i3 (rmB T K.testBit) else X3 r k : sm_G) r k = X3 r k := fun r k h => if_neg (fun z => h z.1)
        have y8 : ∀ k, C < k → (fun r k => if r = 58 ∧ C < k then i3 (rmB T K.testBit) else X3 r k : sm_G) 58 k = i3 (rmB T K.testBit) := fun k h => if_pos ⟨rfl, h⟩
        generalize (fun r k => if r = 58 ∧ C < k then i3 (rmB T K.testBit) else X3 r k : sm_G) = Y at yn y8
        have rend : ∀ j, M + sl T ≤ j + 1 → rmB T (fun k => slp T (H c) (wps (sl T) o) (fun _ => 1000) K k j) = rmB T K.testBit := fun j hj => rmB_congr hT (fun k hk => slp_post hmk (hwn k hk) hj)
        obtain ⟨_, g4, ρ4, _, _, k2, _, k4, _, _, _, _, k9, _, k11, _⟩ := l_play (d := d) (x := x) (L := L) (V := V) (d' := d' + 1) (x' := x') (L' := L') (U := V) (v1 := i3 0) (r4 := 58) (ex := 0) (z := 300) (fun _ => rmB T K.testBit) (fun _ => rmB T K.testBit) (fun m ρ g => C < m ∧ (∀ f, f < dr T → (g (315 + f) 0 ≠ m1 ↔ (g3 (315 + f) 0 ≠ m1 ∨ (C < cM T f ∧ cM T f < m ∧ (rmB T K.testBit).testBit (cR T f) = false)))) ∧ ∀ f, f < dr T → ρ f ≠ 0 → (rmB T K.testBit).testBit (ρ f - 1) = true) hV (Or.inr rfl) hs hT hP (Nat.le_refl _) k_58 n_58 (Or.inr rfl) (fun m ρ ρ' g g' hm3 hJ hmn => by
          obtain ⟨j0, j1, j2⟩ := hJ
          refine ⟨by omega, fun f hf => ?_, fun f hf h0 => (hmn f hf).2.2 h0⟩
          obtain ⟨n1, _, _⟩ := hmn f hf
          rw [n1]
          have j1f := j1 f hf
          unfold arr
          by_cases q : cM T f = m
          · rw [if_pos q]
            cases hb : (rmB T K.testBit).testBit (cR T f) with
            | false =>
              rw [if_pos (gone_t (by omega) hb)]
              refine ⟨fun _ => Or.inr ⟨by omega, by omega, rfl⟩, fun _ => ?_⟩
              rw [Ne, i3_nm1 (by omega)]
              exact not_false
            | true =>
              rw [if_neg (by rw [gone_f (Or.inr (by rw [Nat.add_sub_cancel]; exact hb))]; decide)]
              rw [hb] at j1f
              rw [j1f]
              simp
          · rw [if_neg q]
            have hng : gone (rmB T K.testBit) (ρ f) = false := by
              by_cases z : ρ f = 0
              · exact gone_f (Or.inl z)
              · exact gone_f (Or.inr (j2 f hf z))
            rw [hng, if_neg (by decide), j1f]
            have : cM T f < m ↔ cM T f < m + 1 := by omega
            rw [this]) (300 - C) (C + 1) Y g3 ρ3 o3 (by omega) (cx Y g3 (fun r k y => by rw [yn r k (by omega)]; exact hY3 r k y) hg3) (fun f hf => ⟨(e5 f hf).1.keep (fun a k y => yn a k (by omega)) (fun _ _ _ => rfl), (e5 f hf).2⟩) e6 (by rw [yn _ _ (by omega)]; exact e7) e8 e9 (fun j j1 j2 => by
            refine ⟨?_, Nat.lt_of_lt_of_le hR0 (by decide), y8 j (by omega), Nat.or_zero _⟩
            rw [e4 _ _ (by omega) (by omega) (by omega) (by omega) (by omega) (by omega), gg2 _ _ (by omega) (by omega), hrow j (by omega), rend j (by omega)]) (fun j hj => by
            rw [yn _ _ (by omega), x3 _ _ (by omega), a2 _ _ (by omega), hX _ _ (by omega) (by omega) (by omega)]; exact (hok j hj).2.2) ⟨by omega, fun f hf => ⟨fun z => Or.inl z, fun z => z.elim id (fun z => by omega)⟩, fun f hf h0 => by
            rcases e11 with z | z
            · omega
            · have := z f hf h0
              rw [Nat.add_sub_cancel, rend C (by omega)] at this
              exact this⟩
        refine ⟨g4, k2, fun r k y1 y2 => k4 r k (by omega) (by omega) (by omega) (by omega) (by omega) (by omega), k9, fun f hf => ?_⟩
        rw [k11.2.1 f hf]
        have := (hT.gdm f hf).2
        have e : cM T f < 300 + 1 := by omega
        simp only [e, true_and]
      · refine ⟨g3, rfl, fun _ _ _ _ => rfl, by rw [e9, hC1], fun f hf => ⟨fun z => Or.inl z, fun z => z.elim id (fun z => ?_)⟩⟩
        have := (hT.gdm f hf).2
        omega
    obtain ⟨g4, k1, k2, k3, k4⟩ := post
    have hA : lostB X3 84 (dr T) < 2 ^ dr T := bs_lt _ _
    have h16 : 2 ^ dr T ≤ 2 ^ 4 := Nat.pow_le_pow_right (by decide) hB.2.2.2.1
    have hN : lostB X3 84 (dr T) ||| bs (tlB T C (rmB T K.testBit)) (dr T) < 2 ^ dr T := Nat.or_lt_two_pow hA (bs_lt _ _)
    have hc3 : cS X3 V.1 T := (cx X3 g3 hY3 hg3).1
    refine ⟨X3, g4, lostB X3 84 (dr T) ||| bs (tlB T C (rmB T K.testBit)) (dr T), by omega, ?_, fun r k r1 r2 r3 => by rw [x3 r k r3, a2 r k (by omega)]; exact hX r k r1 r2 r3, ⟨hO.1, hO.2.1, fun k hk => by rw [x3 _ _ (by omega), a2 _ _ (by omega)]; exact hO.2.2 k hk⟩, ?_, fun r k y1 y2 => ?_⟩
    · have eM : X V.1 14 = i3 M := by rw [hSX.c.gmk, hmk, mi_succ]
      have eM2 : X2 V.1 14 = i3 M := by rw [hY2 _ _ (by omega), hS.c.gmk, hmk, mi_succ]
      have e4' : sm_cv0 (d + 6) 4 342 (RR V) [.int (i3 300), .int (i3 M + i3 (sl T) - i3 1)] (x, X, L) = oI (i3 C) x X L := by
        rw [s_4, i3_add, i3_sub (by omega)]
        rcases hC with ⟨hC1, hC2⟩ | ⟨hC1, hC2⟩
        · rw [if_pos (by rw [i3_lt (by omega) (by omega)]; omega), hC1]
        · rw [if_neg (by rw [i3_lt (by omega) (by omega)]; omega), hC1]
      have e88 : sm_cv0 (d + 6) 88 342 (RR V) [.ref 84, .ref V.1, .ref 5, .ref 54, .ref 58, .int (i3 0), .int (i3 M), .int (i3 C)] (x, X2, L) = oV x X3 L := by
        rw [m_88 (Or.inr rfl) hs, s_5, if_neg (show ¬ i3 M < i3 0 by rw [i3_lt (by omega) (by omega)]; omega), aI_o]
        exact e1
      have e97 := s_97 (d := d + 5) (x := x) (V := V) (L := L) (G := X3) (b := 84) (s := V.1) (Or.inr rfl) hs (by rw [hY3 _ _ (by omega)]; exact hS.c.gdr) hB.2.2.2.1
      have e118 := s_118 (d := d + 5) (x := x) (V := V) (G := X3) (L := L) hs hc3 hT hKb (by omega)
      have eK : X3 (V.1 + 1) 9 = i3 K := by rw [hY3 _ _ (by omega)]; exact hS.p.gkp
      have b1' : sm_cv0 (d + 6) 100 342 (RR V) [.ref 84] (x, X1, L) = oV x X2 L := b1
      have e97' : sm_cv0 (d + 6) 97 342 (RR V) [.ref 84, .ref V.1] (x, X3, L) = oI (i3 (lostB X3 84 (dr T))) x X3 L := e97
      have e118' : sm_cv0 (d + 6) 118 342 (RR V) [.ref V.1, .int (i3 K)] (x, X3, L) = oI (i3 (rmB T K.testBit)) x X3 L := e118
      rw [m_62 hV, eM, hSX.c.gsl, e4', aI_o, e84, aV_o, b1', aV_o, eM2, e88, aV_o, e97', aI_o, eK, e118', aI_o]
      exact l_62 (d := d + 5) hV hc3 hT (by omega) hR0 hA
    · have hm4 : g4 160 4 = i3 (dr T) := by rw [k2 _ _ (by omega) (by omega)]; exact hg3.1.gdr
      have e289 := l_289 (d' := d' + 6) (x' := x') (L' := L') (U := V) hm4 (by omega)
      rw [c0, q1]
      have p1' : hD (d' + 6) 264 99 [.ref 156, .int (i3 0), .null, .null] 342 (RR V) x' g1 L' = hD (d' + 6) 264 99 [.ref 156, .int (i3 0), .null, .null] 342 (RR V) x' g2 L' := p1
      have e2' : hD (d' + 6) 264 99 [.ref 156, .int (i3 0), .null, .null] 342 (RR V) x' g2 L' = hD (d' + 6) 264 99 [.ref 156, .int (i3 0), .null, .null] 342 (RR V) x' g3 L' := e2
      have k1' : hD (d' + 6) 264 99 [.ref 156, .int (i3 0), .null, .null] 342 (RR V) x' g3 L' = hD (d' + 6) 264 99 [.ref 156, .int (i3 0), .null, .null] 342 (RR V) x' g4 L' := k1
      rw [p1', e2', k1', h_264_99, k3, if_neg (by decide), e289]
      congr 2
      apply eqb
      intro f
      unfold lostB
      rw [Nat.testBit_or, bs_tb, bs_tb, bs_tb]
      by_cases q : f < dr T
      · rw [decide_eq_true q, Bool.true_and, Bool.true_and, Bool.true_and, f3 f q]
        have h4 := k4 f q
        unfold tlB
        rw [Bool.eq_iff_iff]
        simp only [Bool.or_eq_true, Bool.and_eq_true, decide_eq_true_eq, Bool.not_eq_true']
        exact h4
      · rw [decide_eq_false q, Bool.false_and, Bool.false_and, Bool.false_and]
        rfl
    · rw [k2 r k y1 y2, e4 r k (by omega) (by omega) (by omega) (by omega) (by omega) (by omega)]
      exact (p2 r k y1 y2).trans (q2 r k (by omega) (by omega) (by omega)) |>.trans (gx r k (by omega))
  -- the same number from both sides, whatever the other store
  have hgb2 : mOk (fill gb 307 301 (fun m => i3 (rmB T (fun k => slp T (H c) (wps (sl T) o) (fun _ => 1000) K k m)))) T (H c) K W := hgb.keep hT hP (fun r k y1 y2 => fill_ne (by omega))
  have hXb : cfR Gs (fun r k => if r = 60 then i3 (o.getD k 0) else Gs r k) := fun r k r1 r2 _ => if_neg r2
  have hOb : oH (fun r k => if r = 60 then i3 (o.getD k 0) else Gs r k) o := ⟨(okO.all hoO).1, (okO.all hoO).2.1, fun k _ => if_pos rfl⟩
  obtain ⟨Xb, gb', N, n0, n1, n2, n3, n4, n5⟩ := both 0 0 0 0 _ _ (fun _ _ => 0) (fun _ _ => 0) hXb hOb hgb2 (fun m hm => fill_at hm)
  refine ⟨pc N 10, pc16 N n0, fun d x X L hX hO => ?_, fun d' x' g L' hg hrow => ?_⟩
  · obtain ⟨X', g', N', m0, m1', m2, m3, m4, m5⟩ := both d x 0 0 X _ L (fun _ _ => 0) hX hO hgb2 (fun m hm => fill_at hm)
    obtain ⟨e, _⟩ := oI_inj (n4.symm.trans m4)
    rw [i3_eq (by omega) (by omega)] at e
    subst e
    exact ⟨X', m1', m2, m3⟩
  · obtain ⟨X', g', N', m0, m1', m2, m3, m4, m5⟩ := both 0 0 d' x' _ g (fun _ _ => 0) L' hXb hOb hg hrow
    obtain ⟨e, _⟩ := oI_inj (n1.symm.trans m1')
    have p1 := pc16 N n0
    have p2 := pc16 N' m0
    rw [i3_eq (by omega) (by omega)] at e
    exact ⟨g', N', m0, e.symm, m4, m5⟩
