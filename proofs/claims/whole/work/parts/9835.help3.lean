/-! help, the model; the operation -/
def ec0 (b : Option (Nat × Nat)) : Int32 := match b with
  | none => i3 0
  | some cy => i3 cy.2
theorem nIn.keep2 {g g' : sm_G} {T P : pT} {K : Nat} {W : Nat → pT} (h : nIn g T P K W) (hT : okT T) (hP : okP T P) (f : ∀ r k, ¬ (306 ≤ r) → ¬ (r = 156 ∧ (k = 0 ∨ 39 < k)) → g' r k = g r k) : nIn g' T P K W :=
  ⟨h.1.keep hT hP (fun r k q => f r k (by unfold inM at q; omega) (by unfold inM at q; omega)), fun k hk => by rw [f _ _ (by omega) (by omega)]; exact h.2.1 k hk, fun e he => (h.2.2 e he).keep he (fun r k q => f r k (by omega) (by omega))⟩
theorem l_320 {d x c : Nat} {V : pV} {L : sm_L} {T : pT} {K : Nat} {H W : Nat → pT} {g : sm_G} (nf : Nat → Nat) (hT : okT T) (hP : okP T (H c)) (hK : K < 2 ^ sl T) (hg : nIn g T (H c) K W) (hn : ∀ k, nf k < 16)
    (h264 : ∀ k, k < sl T → ∀ (d x : Nat) (g : sm_G) (L : sm_L), nIn g T (H c) K W → (∀ m, m < 301 → g 307 m = i3 (tB T (H c) (K ||| 1 <<< k) m)) → ∃ g', sm_cv0 (d + 7) 264 342 (RR V) [.ref 156] (x, g, L) = oI (i3 (nf k)) x g' L ∧ nFr2 g g') :
    ∃ g', hD (d + 8) 320 11 [.ref 156, .int m1, .int (i3 0), .int (i3 0), .null] 342 (RR V) x g L = oI (ecl (itr (hst (fun k => pc (nf k) 10) K) 0 (sl T) none)) x g' L ∧ (∀ r k, ¬ (306 ≤ r ∧ r ≤ 330) → ¬ (r = 156 ∧ (k = 41 ∨ k = 56 ∨ k = 57)) → g' r k = g r k) := by
  have hB := hT.gb
  have hN : ∀ k, pc (nf k) 10 ≤ 4 := fun k => pc16 _ (hn k)
  refine loopE (H := fun k (g : sm_G) => hD (d + 8) 320 11 [.ref 156, .int (ecl (itr (hst (fun k => pc (nf k) 10) K) 0 k none)), .int (ec0 (itr (hst (fun k => pc (nf k) 10) K) 0 k none)), .int (i3 k), .null] 342 (RR V) x g L) (Q := fun o' => ∃ g', o' = oI (ecl (itr (hst (fun k => pc (nf k) 10) K) 0 (sl T) none)) x g' L ∧ (∀ r k, ¬ (306 ≤ r ∧ r ≤ 330) → ¬ (r = 156 ∧ (k = 41 ∨ k = 56 ∨ k = 57)) → g' r k = g r k)) (N := sl T)
    (fun k g1 => (∀ r k, ¬ (306 ≤ r ∧ r ≤ 330) → ¬ (r = 156 ∧ (k = 41 ∨ k = 56 ∨ k = 57)) → g1 r k = g r k) ∧ hok2 k (itr (hst (fun k => pc (nf k) 10) K) 0 k none)) ?_ ?_ (sl T) 0 g (by omega) ⟨fun _ _ _ _ => rfl, fun c y e => by cases e⟩
  · rintro k g1 hk ⟨w1, w2⟩
    have es : itr (hst (fun k => pc (nf k) 10) K) 0 (k + 1) none = hst (fun k => pc (nf k) 10) K k (itr (hst (fun k => pc (nf k) 10) K) 0 k none) := by rw [itr_succ, Nat.zero_add]
    rw [es]
    have w3 := hok2_s (K := K) hN w2
    generalize itr (hst (fun k => pc (nf k) 10) K) 0 k none = b at w2 w3 ⊢
    have hg1 : nIn g1 T (H c) K W := hg.keep2 hT hP (fun r k a a2 => w1 r k (by omega) (by omega))
    have gs := hg1.1.gsl
    have gK := hg1.1.gkp
    have hK8 : 2 ^ sl T ≤ 2 ^ 8 := Nat.pow_le_pow_right (by decide) hB.1
    show ∃ a', hD (d + 8) 320 11 [.ref 156, .int (ecl b), .int (ec0 b), .int (i3 k), .null] 342 (RR V) x g1 L = _ ∧ _
    rw [h_320_11, gs, if_pos (show i3 k < i3 (sl T) by rw [i3_lt (by omega) (by omega)]; exact hk), gK, i3_shr (by omega) (by omega), i3_and, sh_tb]
    cases hb : K.testBit k with
    | true =>
      have eh : hst (fun k => pc (nf k) 10) K k b = b := if_pos hb
      rw [eh] at w3 ⊢
      rw [if_pos (by rw [tb_1]; exact hb), h_320_80, i3_add]
      exact ⟨g1, rfl, w1, w3⟩
    | false =>
      have h1k : 1 <<< k < 2 ^ sl T := by rw [Nat.one_shiftLeft]; exact Nat.pow_lt_pow_right (by decide) hk
      have hK2 : K ||| 1 <<< k < 2 ^ sl T := Nat.or_lt_two_pow hK h1k
      have e254 := s_254 (d := d + 7) (x := x) (V := V) (G := g1) (L := L)
      have hg2 : nIn (fill g1 306 8 (fun _ => i3 1000)) T (H c) K W := hg1.keep2 hT hP (fun r k a a2 => fill_ne (by omega))
      have e258 := s_258 (d := d + 6) (x := x) (V := V) (G := fill g1 306 8 (fun _ => i3 1000)) (L := L) (K := K ||| 1 <<< k) (w := fun k => k) (e := fun _ => 1000) hg2.1 hT hP (by omega) (fun j hj => ⟨hg2.2.1 j (by omega), by omega⟩) (fun j hj => ⟨fill_at (by omega), by omega⟩)
      have u37 : fill g1 306 8 (fun _ => i3 1000) 156 37 = i3 K := by rw [fill_ne (by omega)]; exact gK
      have hg3 : nIn (fill (sm_up (fill g1 306 8 (fun _ => i3 1000)) 156 41 (i3 (K ||| 1 <<< k))) 307 301 (fun m => i3 (rmB T (fun k' => slp T (H c) (fun k => k) (fun _ => 1000) (K ||| 1 <<< k) k' m)))) T (H c) K W := hg2.keep2 hT hP (fun r k a a2 => by rw [fill_ne (by omega), sm_up_ne (by omega)])
      obtain ⟨g4, q1, q2⟩ := h264 k hk (d + 1) x _ L hg3 (fun m hm => fill_at hm)
      have q1' : sm_cv0 (d + 8) 264 342 (RR V) [.ref 156] (x, fill (sm_up (fill g1 306 8 (fun _ => i3 1000)) 156 41 (i3 (K ||| 1 <<< k))) 307 301 (fun m => i3 (rmB T (fun k' => slp T (H c) (fun k => k) (fun _ => 1000) (K ||| 1 <<< k) k' m))), L) = oI (i3 (nf k)) x g4 L := q1
      have e291 := s_291 (d := d + 7) (x := x) (V := V) (G := g4) (L := L) (show nf k < 1024 by have := hn k; omega)
      have hNk := hN k
      have fr : ∀ r k, ¬ (306 ≤ r ∧ r ≤ 330) → ¬ (r = 156 ∧ (k = 41 ∨ k = 56 ∨ k = 57)) → g4 r k = g r k := fun r j a1 a2 => by
        rw [q2 r j (by omega) (by omega), fill_ne (by omega), sm_up_ne (by omega), fill_ne (by omega)]
        exact w1 r j a1 a2
      rw [if_neg (by rw [tb_1, hb]; decide), e254, aV_o, u37, i3_shl (by omega), i3_or, e258, aV_o, q1', aI_o, e291, aI_o]
      cases b with
      | none =>
        rw [hst_n hb] at w3 ⊢
        refine ⟨g4, ?_, fr, w3⟩
        show (if m1 = m1 then _ else _) = _
        rw [if_pos rfl, h_320_80, i3_add]
        try rfl
      | some cy =>
        obtain ⟨c1, y⟩ := cy
        obtain ⟨u1, u2⟩ := w2 c1 y rfl
        rw [hst_c hb] at w3 ⊢
        refine ⟨g4, ?_, fr, w3⟩
        show (if i3 c1 = m1 then _ else if i3 (pc (nf k) 10) < i3 y then _ else _) = _
        rw [if_neg (by rw [i3_nm1 (by omega)]; exact not_false)]
        by_cases z : pc (nf k) 10 < y
        · rw [if_pos (by rw [i3_lt (by omega) (by omega)]; exact z), if_pos z, h_320_80, i3_add]
          try rfl
        · rw [if_neg (by rw [i3_lt (by omega) (by omega)]; exact z), if_neg z, h_320_80, i3_add]
          try rfl
  · rintro g1 ⟨w1, _⟩
    have hg1 : nIn g1 T (H c) K W := hg.keep2 hT hP (fun r k a a2 => w1 r k (by omega) (by omega))
    refine ⟨g1, ?_, w1⟩
    show hD (d + 8) 320 11 _ 342 (RR V) x g1 L = _
    rw [h_320_11, hg1.1.gsl, if_neg (show ¬ i3 (sl T) < i3 (sl T) by rw [i3_lt (by omega) (by omega)]; omega)]
theorem op_20 {d x : Nat} {V : pV} {G : sm_G} {L : sm_L} {E : Nat → Nat} (I : Inv V G) : OpI d x V G L 20 [.ref 1] 320 [.ref 156] E := by
  obtain ⟨T, K, c, H, W, hS, hh, hn⟩ := I
  have hB := hS.T.gb
  refine OpI_0 (X := sm_cv0 (d + 60) 20 342 (RR V) [.ref 1] (x, G, L)) rfl ?_
  obtain ⟨G1, a0, hS1, hh1, hn1, hs1, hO1, h17⟩ := hS.s15b (d := d + 55) (x := x) (L := L) hh hn
  have hg0 : ∀ X, sM G X → nIn (g00 X) T (H c) K W := fun X hX => ⟨hS.m.sM hS.T hS.P hX, fun k hk => by rw [g00_ne (by omega), hX _ _ (by omega)]; exact hS.w k hk, fun e he => (hS.wl e he).2.2.keep he (fun r k q => by rw [g00_ne (by omega), hX _ _ (by omega)])⟩
  have one : ∀ k, ∃ n, n < 16 ∧ (∀ (d x : Nat) (X : sm_G) (L : sm_L), (∀ r k, ¬ (84 ≤ r ∧ r < 105) → X r k = G1 r k) → ∃ X', sm_cv0 (d + 12) 21 342 (RR V) [.ref 1, .ref 56, .int (i3 (rmB T (1 <<< k).testBit))] (x, X, L) = oI (i3 n) x X' L ∧ ∀ r k, ¬ (84 ≤ r ∧ r < 105) → X' r k = G1 r k) ∧ ∀ (d' x' : Nat) (g : sm_G) (L' : sm_L), nIn g T (H c) K W → (∀ m, m < 301 → g 307 m = i3 (tB T (H c) (K ||| 1 <<< k) m)) → ∃ g', sm_cv0 (d' + 7) 264 342 (RR V) [.ref 156] (x', g, L') = oI (i3 n) x' g' L' ∧ nFr2 g g' := fun k => hlp1 (k := k) hS1 h17 hO1 (hg0 G1 hs1)
  obtain ⟨nf, hnf⟩ := Classical.axiomOfChoice one
  obtain ⟨G2, b1, b2⟩ := l_20 (d := d + 47) (x := x) (L := L) nf hS1.V hS1.c hS1.p hS1.T hS1.K8 (fun k => (hnf k).1) (fun k _ => (hnf k).2.1)
  have hs2 : sM G G2 := fun r k a => by rw [b2 r k (by omega)]; exact hs1 r k a
  obtain ⟨g3, c1, c2⟩ := l_320 (d := d + 51) (x := x) (L := L) (V := V) nf hS.T hS.P hS.K (hg0 G2 hs2) (fun k => (hnf k).1) (fun k _ => (hnf k).2.2)
  refine ⟨ecl (itr (hst (fun k => pc (nf k) 10) K) 0 (sl T) none), G2, g3, ?_, ?_, ?_, Inv_q (G1 := G2) hS1 (fun r k a => b2 r k (by unfold sc at a; omega)) (hh1.keep (b2 _ _ (by omega)) (fun r k p q => b2 _ _ (by omega))) (hn1.keep hS.T (b2 _ _ (by omega)) (fun r k p q => b2 _ _ (by omega))) (fun r k a => by rw [c2 r k (by unfold sc at a; omega) (by unfold sc at a; omega)]; exact g00_ne (by unfold sc at a; omega))⟩
  · have a0' : sm_cv0 (d + 59) 15 342 (RR V) [.ref 1] (x, G, L) = oR 54 x G1 L := a0
    rw [m_20, a0', aR_o]
    exact b1
  · rw [m_320]
    exact c1
  · rw [c2 _ _ (by omega) (by omega)]
    exact g00_0
