/-! a dreamer's minute -/
theorem aPost.tr {b e : Nat} {T W : pT} {ρ t : Nat} {G g G1 g1 G' g' : sm_G} (h : aPost b e T W ρ t G1 g1 G' g') (hf : aFr b e G g G1 g1) : aPost b e T W ρ t G g G' g' := ⟨hf.tr h.1, h.2⟩
section ACT
variable {d x d' x' b s wl e : Nat} {V U : pV} {L L' : sm_L} {T P W : pT} {K : Nat} {ρ : Nat → Nat} {m t : Nat}
theorem ask_z {G g : sm_G} {o u h st p : Nat} (H : aPre G g b s wl e T P W K ρ m t o u h st p) (hb : pN b) (hs : pS s) (hl : pW wl) (hT : okT T) (hP : okP T P) (he : e < dr T) (hρ : ∀ f, f < dr T → ρ f ≤ sl T) (ho : o < 1024) (ht : t < 1024) (hm : m ≤ 300) (hZ : wZ W ≤ 40) (hQ : wQ W ≤ 80) (hp : p < wZ W) (ha : ask T W st p) :
    ∃ (z : Bool) (t' : Nat), wt2 W (5 * st + 2) = t' ∧ sm_cv0 (d + 3) 94 342 (RR V) [.ref b, .ref s, .ref (b + 5 + 4 * e), .ref wl] (x, sm_up G (b + 5 + 4 * e) 9 (i3 (u + 1)), L) = oI (bi z) x (sm_up G (b + 5 + 4 * e) 9 (i3 (u + 1))) L ∧
      sm_cv0 (d' + 4) 274 342 (RR U) [.ref 156, .int (i3 e), .int (i3 t')] (x', sm_up g 329 e (i3 (u + 1)), L') = oI (bi z) x' (sm_up g 329 e (i3 (u + 1))) L' := by
  have hB := hT.gb
  have hbl := pN_lt hb
  have hsl := pS_lt hs
  have hwl := pW_lt hl
  obtain ⟨⟨s1, s2, s3, s4⟩, ⟨b1, b2, b3, b4⟩, c1, ⟨d1, d2⟩, _, _, _, _, h1, h2, h3, h4, _⟩ := H
  obtain ⟨t', a1, a2, a3, a4, a5, a6, a7⟩ := ha
  obtain ⟨k1, k2, k3, k4⟩ := s3.2.2 p hp
  have hG : ∀ r k, ¬ (r = b + 5 + 4 * e ∧ k = 9) → sm_up G (b + 5 + 4 * e) 9 (i3 (u + 1)) r k = G r k := fun r k q => sm_up_ne (by omega)
  have hg : ∀ r k, ¬ (r = 329 ∧ k = e) → sm_up g 329 e (i3 (u + 1)) r k = g r k := fun r k q => sm_up_ne (by omega)
  generalize sm_up G (b + 5 + 4 * e) 9 (i3 (u + 1)) = G1 at hG ⊢
  generalize sm_up g 329 e (i3 (u + 1)) = g1 at hg ⊢
  have hv : wT W (3 * t' + 1) ≤ 300 ∧ (wT W (3 * t') = 1 ∨ wT W (3 * t') = 2 → wT W (3 * t' + 1) < 32) := by
    by_cases q1 : wT W (3 * t') = 1
    · rw [if_pos q1] at a7; omega
    · rw [if_neg q1] at a7
      by_cases q3 : wT W (3 * t') = 3
      · rw [if_pos q3] at a7; omega
      · rw [if_neg q3] at a7
        by_cases q4 : wT W (3 * t') = 4
        · rw [if_pos q4] at a7; omega
        · rw [if_neg q4] at a7; omega
  rw [a5] at k2
  rw [a6] at k4
  refine ⟨soB (wT W (3 * t')) (wT W (3 * t' + 1)) ρ (dr T) e o t m != decide (wT W (3 * t' + 2) = 1), t', a2, ?_, ?_⟩
  · exact s_94 (d := d + 1) (n := dr T) (p := p) (D := 2 * wT W (3 * t') + wT W (3 * t' + 2)) hb hs hl (by rw [hG _ _ (by omega)]; exact s1.gdr) (by omega) (fun f hf => ⟨by rw [hG _ _ (by omega)]; exact (c1 f hf).1, by have := hρ f hf; omega⟩) he (by rw [hG _ _ (by omega)]; exact h1) (by omega) (by rw [hG _ _ (by omega)]; exact k4) (by rw [hG _ _ (by omega)]; exact k2) (by rw [Nat.shiftRight_eq_div_pow]; omega) (by rw [Nat.and_one_is_mod]; omega) a3 a4 (by omega) hv.1 hv.2 (by rw [hG _ _ (by omega)]; exact d1) ho (by rw [hG _ _ (by omega)]; exact b1) ht (by rw [hG _ _ (by omega)]; exact b2) hm
  · exact s_274 (d := d' + 1) (n := dr T) (by rw [hg _ _ (by omega)]; exact s2.gdr) (by omega) (fun f hf => ⟨by rw [hg _ _ (by omega)]; exact (c1 f hf).2, by have := hρ f hf; omega⟩) he (by omega) (by rw [hg _ _ (by omega)]; exact s4.2.2 _ (by omega)) (by rw [hg _ _ (by omega)]; exact s4.2.2 _ (by omega)) (by rw [hg _ _ (by omega)]; exact s4.2.2 _ (by omega)) a3 a4 hv.1 hv.2 (by rw [hg _ _ (by omega)]; exact d2) ho (by rw [hg _ _ (by omega)]; exact b3) hm (by rw [hg _ _ (by omega)]; exact b4) ht
/-- the model opens a block -/
abbrev opn (g : sm_G) (e u h st f0 F tm : Nat) : sm_G := sm_up (sm_up (sm_up (sm_up (sm_up (sm_up (sm_up g 329 e (i3 (u + 1))) 327 e (i3 (h + 1))) (320 + e) (4 * h) (i3 st)) (320 + e) (4 * h + 1) (i3 f0)) (320 + e) (4 * h + 2) (i3 F)) (320 + e) (4 * h + 3) (i3 tm)) 326 e (i3 f0)
theorem a_open {G g G1 : sm_G} {o u h st p f0 F tm p1 n q n2 f2 q2 s2 p2 : Nat} (H : aPre G g b s wl e T P W K ρ m t o u h st p) (hb : pN b) (hs : pS s) (hl : pW wl) (hT : okT T) (hP : okP T P) (he : e < dr T) (hh : h < 6) (hG1 : ∀ r k, ¬ (r = b + 5 + 4 * e ∧ (k = 7 ∨ k = 9)) → ¬ (r = b + 5 + 4 * e + 1 ∧ k = h) → G1 r k = G r k) (h9 : G1 (b + 5 + 4 * e) 9 = i3 (u + 1)) (h7 : G1 (b + 5 + 4 * e) 7 = i3 p1) (hu : u < 60)
    (hst : st < wS W) (htm : tm ≤ 20) (hF : F ≤ wS W) (hq : q ≤ wZ W) (hc : cor T W n (h + 1) f0 F p1 q) (hc2 : cor T W n2 h s2 f2 p2 q2) (hs2 : stkE G g T W (b + 5 + 4 * e) e h f2 q2)
    (hk : (wt2 W (5 * st) = 3 ∧ 1 ≤ tm ∧ G1 (b + 5 + 4 * e + 1) h = i3 tm ∧ q < wZ W ∧ wD W q = 4 ∧ wE W q = h ∧ (∃ n2, cor T W n2 (h + 1) f0 F (wG W q) q) ∧ s2 = wt2 W (5 * st + 4) ∧ p2 = q + 1) ∨
     (wt2 W (5 * st) = 4 ∧ q < wZ W ∧ wD W q = 7 ∧ s2 = st ∧ p2 = wG W q) ∨
     (wt2 W (5 * st) = 5 ∧ q < wZ W ∧ wD W q = 7 ∧ s2 = wt2 W (5 * st + 4) ∧ p2 = wG W q) ∨
     (wt2 W (5 * st) = 5 ∧ s2 = wt2 W (5 * st + 4) ∧ p2 = q)) :
    aPre G1 (opn g e u h st f0 F tm) b s wl e T P W K ρ m t o (u + 1) (h + 1) f0 p1 ∧ aFr b e G g G1 (opn g e u h st f0 F tm) := by
  have hB := hT.gb
  have hg : ∀ r k, ¬ ((r = 329 ∨ r = 327 ∨ r = 326) ∧ k = e) → ¬ (r = 320 + e ∧ 4 * h ≤ k ∧ k ≤ 4 * h + 3) → opn g e u h st f0 F tm r k = g r k := fun r k a1 a2 => by
    unfold opn
    rw [sm_up_ne (by omega), sm_up_ne (by omega), sm_up_ne (by omega), sm_up_ne (by omega), sm_up_ne (by omega), sm_up_ne (by omega), sm_up_ne (by omega)]
  have x0 : opn g e u h st f0 F tm (320 + e) (4 * h) = i3 st := by unfold opn; rw [sm_up_ne (by omega), sm_up_ne (by omega), sm_up_ne (by omega), sm_up_ne (by omega), sm_up_same]
  have x1 : opn g e u h st f0 F tm (320 + e) (4 * h + 1) = i3 f0 := by unfold opn; rw [sm_up_ne (by omega), sm_up_ne (by omega), sm_up_ne (by omega), sm_up_same]
  have x2 : opn g e u h st f0 F tm (320 + e) (4 * h + 2) = i3 F := by unfold opn; rw [sm_up_ne (by omega), sm_up_ne (by omega), sm_up_same]
  have x3 : opn g e u h st f0 F tm (320 + e) (4 * h + 3) = i3 tm := by unfold opn; rw [sm_up_ne (by omega), sm_up_same]
  have x9 : opn g e u h st f0 F tm 329 e = i3 (u + 1) := by unfold opn; rw [sm_up_ne (by omega), sm_up_ne (by omega), sm_up_ne (by omega), sm_up_ne (by omega), sm_up_ne (by omega), sm_up_ne (by omega), sm_up_same]
  have x7 : opn g e u h st f0 F tm 327 e = i3 (h + 1) := by unfold opn; rw [sm_up_ne (by omega), sm_up_ne (by omega), sm_up_ne (by omega), sm_up_ne (by omega), sm_up_ne (by omega), sm_up_same]
  have x6 : opn g e u h st f0 F tm 326 e = i3 f0 := sm_up_same _ _ _ _
  generalize opn g e u h st f0 F tm = g1 at *
  exact H.up hb hs hl hT hP he (fun r k a1 a2 => hG1 r k a1 (by omega)) (fun r k a1 a2 => hg r k (by omega) (by omega)) ⟨h9, x9⟩ (by omega) h7 x6 x7 (by omega)
    ⟨n, F, q, hc, hh, hF, hq, st, f0, tm, x0, x1, x2, x3, hst, htm, n2, f2, q2, s2, p2, hc2, hs2.keep (fun k hk => hG1 _ _ (by omega) (by omega)) (fun j hj => hg _ _ (by omega) (by omega)), hk⟩
theorem l_act (hb : pN b) (hs : pS s) (hl : pW wl) (hT : okT T) (hP : okP T P) (he : e < dr T) (hρ : ∀ f, f < dr T → ρ f ≤ sl T) (hρ0 : ρ e ≠ 0) (ht : t < 1024) (hm : m ≤ 300) (hS : wS W ≤ 37) (hZ : wZ W ≤ 40) (hQ : wQ W ≤ 80) :
    ∀ (N : Nat) (G g : sm_G) (i o u h st p : Nat), aPre G g b s wl e T P W K ρ m t o u h st p → o < 1024 → 9 * (60 - u) + h < N → i + N ≤ 10000 →
    ∃ G' g', hD (d + 4) 90 34 [.ref b, .ref s, .ref (b + 5 + 4 * e), .ref wl, .int (i3 i), .null] 342 (RR V) x G L = oV x G' L ∧ hD (d' + 4) 267 27 [.ref 156, .int (i3 e), .null, .null, .null, .null] 342 (RR U) x' g L' = oV x' g' L' ∧ aPost b e T W (ρ e) t G g G' g'
  | 0, _, _, _, _, _, _, _, _, _, _, hN, _ => by omega
  | N + 1, G, g, i, o, u, h, st, p, H, ho, hN, hi => by
    have hB := hT.gb
    have hbl := pN_lt hb
    have hsl := pS_lt hs
    have hwl := pW_lt hl
    have hw := kw_b (k := e) hb (by omega)
    have he4 : e < 4 := by omega
    have hwl9 : wl + 9 < b + 5 + 4 * e ∨ b + 5 + 4 * e + 9 < wl := by omega
    have ih := l_act hb hs hl hT hP he hρ hρ0 ht hm hS hZ hQ N
    have H0 := H
    obtain ⟨⟨s1, s2, s3, s4⟩, ⟨b1, b2, b3, b4⟩, c1, ⟨d1, d2⟩, es, ⟨f1, f2, f3⟩, ⟨g1, g2⟩, ⟨u1, u2, u3⟩, h1, h2, h3, h4, n, f, q, hc, hst⟩ := H0
    have hle := hst.le
    have hcl := cor_le hc
    have up1 := fun (G1 g1 : sm_G) (u1 h1 st1 p1 : Nat) => H.up (G1 := G1) (g1 := g1) (u1 := u1) (h1 := h1) (st1 := st1) (p1 := p1) hb hs hl hT hP he
    by_cases hsf : st = f
    · have hpq : p = q := cor_same (by rw [hsf] at hc; exact hc)
      cases h with
      | zero =>
        obtain ⟨e1, e2⟩ := hst
        exact ⟨G, g, l_90_end hb hs hw hl (by omega) h1 (by omega) s3.1 hZ (by omega), l_267_end he4 f2 h3 h2 (by rw [s4.1, hsf, e1]), H.stop ho he (hρ e he) hρ0⟩
      | succ k =>
        obtain ⟨k6, kf, kq, fs, f0, tm, a0, a1, a2, a3, a4, a5, n2, fe, qe, s2', p2', hc2, hst2, hcase⟩ := hst
        have a2' : g (320 + e) (4 * k + 2) = i3 st := by rw [a2, hsf]
        rcases hcase with ⟨kk, tm1, hleft, hqz, hd, hE, ⟨n3, hc3⟩, hs2, hp2⟩ | ⟨kk, hqz, hd, hs2, hp2⟩ | ⟨kk, hqz, hd, hs2, hp2⟩ | ⟨kk, hs2, hp2⟩
        · obtain ⟨tm, rfl⟩ : ∃ z, tm = z + 1 := ⟨tm - 1, by omega⟩
          have e268 := s_268_3 (d := d' + 2) (x := x') (L := L') (V := U) he4 h3 k6 s4 hS a4 a0 a1 a3 (by omega) kk u2 u3
          have e267 := fun G' hz => l_267_268 (d := d' + 4) (x := x') (L := L') (V := U) (G' := G') he4 f2 h3 k6 h2 (by omega) a2' hz
          by_cases hu60 : u = 60
          · rw [if_pos hu60] at e268
            rw [hu60] at u1
            refine ⟨_, _, l_90_stuck hb hs hw hl (by omega) h1 s3 hZ (by omega) (by rw [hpq, hd]; decide) (by rw [hpq, hd]; decide) u1, (e267 _ e268).trans (l_267_over he4 ?_), H.stuck hb hT ho he (hρ e he) hρ0⟩
            rw [sm_up_ne (by omega), sm_up_same]
          · rw [if_neg hu60] at e268
            have e93 := s_93_4 (d := d + 1) (x := x) (L := L) (V := V) (u := tm) hb hs hw hl h1 (by omega) u1 s3 (by omega) hwl9 (by rw [hpq]; exact hd) (by rw [hpq]; exact hE) k6 hleft (by omega)
            have e90 := l_90_turn (d := d + 4) (x := x) (L := L) (V := V) (i := i) hb hs hw hl (by omega) h1 s3 hZ (by omega) (by rw [hpq, hd]; decide) (by rw [hpq, hd]; decide) u1 (by omega) e93
            by_cases htm : tm = 0
            · rw [if_pos htm] at e268 e90
              obtain ⟨H1, F1⟩ := up1 (sm_up (sm_up (sm_up G (b + 5 + 4 * e) 9 (i3 (u + 1))) (b + 5 + 4 * e + 1) k (i3 tm)) (b + 5 + 4 * e) 7 (i3 (p + 1))) (sm_up (sm_up (sm_up (sm_up g 329 e (i3 (u + 1))) (320 + e) (4 * k + 3) (i3 tm)) 327 e (i3 k)) 326 e (i3 (wt2 W (5 * fs + 4)))) (u + 1) k (wt2 W (5 * fs + 4)) (p + 1)
                (fun r k a1 a2 => by rw [sm_up_ne (by omega), sm_up_ne (by omega), sm_up_ne (by omega)]) (fun r k a1 a2 => by rw [sm_up_ne (by omega), sm_up_ne (by omega), sm_up_ne (by omega), sm_up_ne (by omega)])
                ⟨by rw [sm_up_ne (by omega), sm_up_ne (by omega), sm_up_same], by rw [sm_up_ne (by omega), sm_up_ne (by omega), sm_up_ne (by omega), sm_up_same]⟩ (by omega) (sm_up_same _ _ _ _) (sm_up_same _ _ _ _) (by rw [sm_up_ne (by omega), sm_up_same]) (by omega)
                ⟨n2, fe, qe, by rw [hpq, ← hp2, ← hs2]; exact hc2, hst2.keep (fun j hj => by rw [sm_up_ne (by omega), sm_up_ne (by omega), sm_up_ne (by omega)]) (fun j hj => by rw [sm_up_ne (by omega), sm_up_ne (by omega), sm_up_ne (by omega), sm_up_ne (by omega)])⟩
              obtain ⟨G', g', r1, r2, r3⟩ := ih _ _ (i + 1) o _ _ _ _ H1 ho (by omega) (by omega)
              exact ⟨G', g', e90.trans r1, (e267 _ e268).trans r2, r3.tr F1⟩
            · rw [if_neg htm] at e268 e90
              obtain ⟨H1, F1⟩ := up1 (sm_up (sm_up (sm_up G (b + 5 + 4 * e) 9 (i3 (u + 1))) (b + 5 + 4 * e + 1) k (i3 tm)) (b + 5 + 4 * e) 7 (i3 (wG W p))) (sm_up (sm_up (sm_up g 329 e (i3 (u + 1))) (320 + e) (4 * k + 3) (i3 tm)) 326 e (i3 f0)) (u + 1) (k + 1) f0 (wG W p)
                (fun r k a1 a2 => by rw [sm_up_ne (by omega), sm_up_ne (by omega), sm_up_ne (by omega)]) (fun r k a1 a2 => by rw [sm_up_ne (by omega), sm_up_ne (by omega), sm_up_ne (by omega)])
                ⟨by rw [sm_up_ne (by omega), sm_up_ne (by omega), sm_up_same], by rw [sm_up_ne (by omega), sm_up_ne (by omega), sm_up_same]⟩ (by omega) (sm_up_same _ _ _ _) (sm_up_same _ _ _ _) (by rw [sm_up_ne (by omega), sm_up_ne (by omega), sm_up_ne (by omega)]; exact h3) (by omega)
                ⟨n3, f, q, by rw [hpq]; exact hc3, k6, kf, kq, fs, f0, tm, by rw [sm_up_ne (by omega), sm_up_ne (by omega), sm_up_ne (by omega)]; exact a0, by rw [sm_up_ne (by omega), sm_up_ne (by omega), sm_up_ne (by omega)]; exact a1, by rw [sm_up_ne (by omega), sm_up_ne (by omega), sm_up_ne (by omega)]; exact a2, by rw [sm_up_ne (by omega), sm_up_same], a4, by omega, n2, fe, qe, s2', p2', hc2, hst2.keep (fun j hj => by rw [sm_up_ne (by omega), sm_up_ne (by omega), sm_up_ne (by omega)]) (fun j hj => by rw [sm_up_ne (by omega), sm_up_ne (by omega), sm_up_ne (by omega)]), Or.inl ⟨kk, by omega, by rw [sm_up_ne (by omega), sm_up_same], hqz, hd, hE, ⟨n3, hc3⟩, hs2, hp2⟩⟩
              obtain ⟨G', g', r1, r2, r3⟩ := ih _ _ (i + 1) o _ _ _ _ H1 ho (by omega) (by omega)
              exact ⟨G', g', e90.trans r1, (e267 _ e268).trans r2, r3.tr F1⟩
        · have e268 := s_268_4 (d := d' + 2) (x := x') (L := L') (V := U) he4 h3 k6 s4 hS a4 a0 kk
          have e267 := l_267_268 (d := d' + 4) (x := x') (L := L') (V := U) he4 f2 h3 k6 h2 (by omega) a2' e268
          have e93 := s_93_7 (d := d + 1) (x := x) (L := L) (V := V) hb hs hw hl h1 (by omega) u1 s3 (by omega) hwl9 (by rw [hpq]; exact hd)
          have e90 := l_90_jump (d := d + 4) (x := x) (L := L) (V := V) (i := i) hb hs hw hl (by omega) h1 s3 hZ (by omega) (by rw [hpq]; exact hd) e93
          obtain ⟨H1, F1⟩ := up1 (sm_up (sm_up G (b + 5 + 4 * e) 9 (i3 u)) (b + 5 + 4 * e) 7 (i3 (wG W p))) (sm_up (sm_up g 327 e (i3 k)) 326 e (i3 fs)) u k fs (wG W p)
            (fun r k a1 a2 => by rw [sm_up_ne (by omega), sm_up_ne (by omega)]) (fun r k a1 a2 => by rw [sm_up_ne (by omega), sm_up_ne (by omega)])
            ⟨by rw [sm_up_ne (by omega), sm_up_same], by rw [sm_up_ne (by omega), sm_up_ne (by omega)]; exact u2⟩ u3 (sm_up_same _ _ _ _) (sm_up_same _ _ _ _) (by rw [sm_up_ne (by omega), sm_up_same]) (by omega)
            ⟨n2, fe, qe, by rw [hpq, ← hp2, ← hs2]; exact hc2, hst2.keep (fun j hj => by rw [sm_up_ne (by omega), sm_up_ne (by omega)]) (fun j hj => by rw [sm_up_ne (by omega), sm_up_ne (by omega)])⟩
          obtain ⟨G', g', r1, r2, r3⟩ := ih _ _ (i + 1) o _ _ _ _ H1 ho (by omega) (by omega)
          exact ⟨G', g', e90.trans r1, e267.trans r2, r3.tr F1⟩
        · have e268 := s_268_5 (d := d' + 2) (x := x') (L := L') (V := U) he4 h3 k6 s4 hS a4 a0 kk
          have e267 := l_267_268 (d := d' + 4) (x := x') (L := L') (V := U) he4 f2 h3 k6 h2 (by omega) a2' e268
          have e93 := s_93_7 (d := d + 1) (x := x) (L := L) (V := V) hb hs hw hl h1 (by omega) u1 s3 (by omega) hwl9 (by rw [hpq]; exact hd)
          have e90 := l_90_jump (d := d + 4) (x := x) (L := L) (V := V) (i := i) hb hs hw hl (by omega) h1 s3 hZ (by omega) (by rw [hpq]; exact hd) e93
          obtain ⟨H1, F1⟩ := up1 (sm_up (sm_up G (b + 5 + 4 * e) 9 (i3 u)) (b + 5 + 4 * e) 7 (i3 (wG W p))) (sm_up (sm_up g 327 e (i3 k)) 326 e (i3 (wt2 W (5 * fs + 4)))) u k (wt2 W (5 * fs + 4)) (wG W p)
            (fun r k a1 a2 => by rw [sm_up_ne (by omega), sm_up_ne (by omega)]) (fun r k a1 a2 => by rw [sm_up_ne (by omega), sm_up_ne (by omega)])
            ⟨by rw [sm_up_ne (by omega), sm_up_same], by rw [sm_up_ne (by omega), sm_up_ne (by omega)]; exact u2⟩ u3 (sm_up_same _ _ _ _) (sm_up_same _ _ _ _) (by rw [sm_up_ne (by omega), sm_up_same]) (by omega)
            ⟨n2, fe, qe, by rw [hpq, ← hp2, ← hs2]; exact hc2, hst2.keep (fun j hj => by rw [sm_up_ne (by omega), sm_up_ne (by omega)]) (fun j hj => by rw [sm_up_ne (by omega), sm_up_ne (by omega)])⟩
          obtain ⟨G', g', r1, r2, r3⟩ := ih _ _ (i + 1) o _ _ _ _ H1 ho (by omega) (by omega)
          exact ⟨G', g', e90.trans r1, e267.trans r2, r3.tr F1⟩
        · have e268 := s_268_5 (d := d' + 2) (x := x') (L := L') (V := U) he4 h3 k6 s4 hS a4 a0 kk
          have e267 := l_267_268 (d := d' + 4) (x := x') (L := L') (V := U) he4 f2 h3 k6 h2 (by omega) a2' e268
          obtain ⟨H1, F1⟩ := up1 G (sm_up (sm_up g 327 e (i3 k)) 326 e (i3 (wt2 W (5 * fs + 4)))) u k (wt2 W (5 * fs + 4)) p
            (fun r k a1 a2 => rfl) (fun r k a1 a2 => by rw [sm_up_ne (by omega), sm_up_ne (by omega)])
            ⟨u1, by rw [sm_up_ne (by omega), sm_up_ne (by omega)]; exact u2⟩ u3 h1 (sm_up_same _ _ _ _) (by rw [sm_up_ne (by omega), sm_up_same]) (by omega)
            ⟨n2, fe, qe, by rw [hpq, ← hp2, ← hs2]; exact hc2, hst2.keep (fun j hj => rfl) (fun j hj => by rw [sm_up_ne (by omega), sm_up_ne (by omega)])⟩
          obtain ⟨G', g', r1, r2, r3⟩ := ih _ _ i o _ _ _ _ H1 ho (by omega) (by omega)
          exact ⟨G', g', r1, e267.trans r2, r3.tr F1⟩
    · have hc0 := hc
      obtain ⟨n', rfl⟩ := cor_step hc hsf
      rcases hc with ⟨hx, _⟩ | ⟨hlt, hpq, alts⟩
      · exact absurd hx hsf
      have hst37 : st < wS W := by omega
      have hpz : p < wZ W := by omega
      have hSf : if h = 0 then g 241 e = i3 f else g (320 + e) (4 * h - 2) = i3 f := by
        cases h with
        | zero => rw [if_pos rfl, s4.1, hst.1]
        | succ k =>
          rw [if_neg (by omega)]
          obtain ⟨_, _, _, fs, f0, tm, _, _, a2, _⟩ := hst
          rw [show 4 * (k + 1) - 2 = 4 * k + 2 by omega]
          exact a2
      have e27 := l_267_104 (d := d' + 4) (x := x') (L := L') (V := U) he4 f2 h3 h4 h2 (by omega) (by omega) hsf hSf
      have stk1 : 3 ≤ wt2 W (5 * st) → wt2 W (5 * st) ≤ 5 → 3 ≤ wD W p → wD W p ≤ 6 → u = 60 → ∃ G' g', hD (d + 4) 90 34 [.ref b, .ref s, .ref (b + 5 + 4 * e), .ref wl, .int (i3 i), .null] 342 (RR V) x G L = oV x G' L ∧ hD (d' + 4) 267 27 [.ref 156, .int (i3 e), .null, .null, .null, .null] 342 (RR U) x' g L' = oV x' g' L' ∧ aPost b e T W (ρ e) t G g G' g' := fun k1 k2 k3 k4 hu60 => by
        rw [hu60] at u1 u2
        exact ⟨_, _, l_90_stuck hb hs hw hl (by omega) h1 s3 hZ hpz k3 k4 u1, e27.trans (l_104_stuck he4 h2 hst37 hS s4 k1 k2 u2), H.stuck hb hT ho he (hρ e he) hρ0⟩
      have w9 : ∀ v1 v2, sm_up (sm_up G (b + 5 + 4 * e) 9 v1) (b + 5 + 4 * e) 7 v2 (b + 5 + 4 * e) 9 = v1 := fun v1 v2 => by rw [sm_up_ne (by omega), sm_up_same]
      have w7 : ∀ v1 v2, sm_up (sm_up G (b + 5 + 4 * e) 9 v1) (b + 5 + 4 * e) 7 v2 (b + 5 + 4 * e) 7 = v2 := fun v1 v2 => sm_up_same _ _ _ _
      have wf : ∀ v1 v2 r k, ¬ (r = b + 5 + 4 * e ∧ (k = 7 ∨ k = 9)) → sm_up (sm_up G (b + 5 + 4 * e) 9 v1) (b + 5 + 4 * e) 7 v2 r k = G r k := fun v1 v2 r k a1 => by rw [sm_up_ne (by omega), sm_up_ne (by omega)]
      have gf : ∀ v1 v2 r k, ¬ ((r = 329 ∨ r = 326) ∧ k = e) → sm_up (sm_up g 329 e v1) 326 e v2 r k = g r k := fun v1 v2 r k a1 => by rw [sm_up_ne (by omega), sm_up_ne (by omega)]
      have g9 : ∀ v1 v2, sm_up (sm_up g 329 e v1) 326 e v2 329 e = v1 := fun v1 v2 => by rw [sm_up_ne (by omega), sm_up_same]
      rcases alts with ⟨kk, kd, kn, kv0, kv1, kv2, kc⟩ | ⟨kk, kh, kd, kn, kn2, ke, F, p2, m3, m4, kc, hp2, hF, dd2, tt2, ee2, tp, kc2⟩ | ⟨kk, kh, kd, ka, F, p2, m3, m4, kc, hp2, hF, dd2, tt2, ee2, tp, kc2⟩ | ⟨kk, kh, kd, ka, F, p2, m3, m4, kc, hp2, hF, tp, kc2⟩ | ⟨kk, kh, kd, ka, F, F2, p2, p3, m3, m4, kc, hp2, hF, hF2, dd2, ee2, tt2, tp, kc3, hp3, kc2⟩
      · have hcc : ∃ n f q, cor T W n h (st + 1) f (p + 1) q ∧ stkE G g T W (b + 5 + 4 * e) e h f q := ⟨n', f, q, kc, hst⟩
        have h90 := fun G' h91 => l_90_take (d := d + 4) (x := x) (L := L) (V := V) (i := i) (G' := G') hb hs hw hl (by omega) h1 s3 hZ hpz (by omega) h91
        have h012 : wt2 W (5 * st) = 0 ∨ wt2 W (5 * st) = 1 ∨ wt2 W (5 * st) = 2 := by omega
        rcases h012 with k0 | k1 | k2
        · obtain ⟨G', g', r1, r2, r3⟩ := a_take0 (d := d) (x := x) (L := L) (V := V) (d' := d') (x' := x') (L' := L') (U := U) H hb hs hl hT hP he (hρ e he) hρ0 ho ht hm hS hst37 k0 kn.symm (kv0 k0) hcc
          exact ⟨G', g', h90 G' (by rw [kd, k0]; exact r1), e27.trans r2, r3⟩
        · obtain ⟨q1, q2⟩ := kv1 k1
          have ev : wN W p = (wN W p - 1) + 1 := by omega
          obtain ⟨G', g', r1, r2, r3⟩ := a_take1 (d := d) (x := x) (L := L) (V := V) (d' := d') (x' := x') (L' := L') (U := U) H hb hs hl hT hP he (hρ e he) hρ0 ho hS hst37 k1 (v := wN W p - 1) (by rw [← kn]; exact ev) (by omega) hcc
          exact ⟨G', g', h90 G' (by rw [kd, k1, ev]; exact r1), e27.trans r2, r3⟩
        · obtain ⟨G', g', r1, r2, r3⟩ := a_take2 (d := d) (x := x) (L := L) (V := V) (d' := d') (x' := x') (L' := L') (U := U) H hb hs hl hT hP he (hρ e he) hρ0 ho hS hst37 k2 kn.symm (kv2 k2) hcc
          exact ⟨G', g', h90 G' (by rw [kd, k2]; exact r1), e27.trans r2, r3⟩
      · by_cases hu60 : u = 60
        · exact stk1 (by omega) (by omega) (by omega) (by omega) hu60
        · have e93 := s_93_3 (d := d + 1) (x := x) (L := L) (V := V) hb hs hw hl h1 (by omega) u1 s3 hpz hwl9 kd ke kh rfl kn2
          have e90 := l_90_turn (d := d + 4) (x := x) (L := L) (V := V) (i := i) hb hs hw hl (by omega) h1 s3 hZ hpz (by omega) (by omega) u1 (by omega) e93
          by_cases hv : wN W p = 0
          · rw [if_pos hv] at e90
            have e104 := l_104_3z (d := d') (x := x') (L := L') (V := U) he4 h2 hst37 hS s4 kk (by rw [← kn]; exact hv) u2 (by omega)
            rw [m4] at e104
            obtain ⟨H1, F1⟩ := up1 (sm_up (sm_up (sm_up G (b + 5 + 4 * e) 9 (i3 (u + 1))) (b + 5 + 4 * e + 1) h (i3 (wN W p))) (b + 5 + 4 * e) 7 (i3 (wG W p))) (sm_up (sm_up g 329 e (i3 (u + 1))) 326 e (i3 F)) (u + 1) h F (wG W p)
              (fun r k a1 a2 => by rw [sm_up_ne (by omega), sm_up_ne (by omega), sm_up_ne (by omega)]) (fun r k a1 a2 => gf _ _ r k (by omega))
              ⟨by rw [sm_up_ne (by omega), sm_up_ne (by omega), sm_up_same], g9 _ _⟩ (by omega) (sm_up_same _ _ _ _) (sm_up_same _ _ _ _) (by rw [gf _ _ _ _ (by omega)]; exact h3) h4
              ⟨n', f, q, by rw [tp]; exact kc2, hst.keep (fun j hj => by rw [sm_up_ne (by omega), sm_up_ne (by omega), sm_up_ne (by omega)]) (fun j hj => gf _ _ _ _ (by omega))⟩
            obtain ⟨G', g', r1, r2, r3⟩ := ih _ _ (i + 1) o _ _ _ _ H1 ho (by omega) (by omega)
            exact ⟨G', g', e90.trans r1, (e27.trans e104).trans r2, r3.tr F1⟩
          · rw [if_neg hv] at e90
            have e104 := l_104_3p (d := d') (x := x') (L := L') (V := U) he4 h2 hst37 hS s4 kk kn.symm (by omega) (by omega) u2 (by omega) h3 (by omega)
            rw [m3] at e104
            obtain ⟨H1, F1⟩ := a_open (G1 := sm_up (sm_up (sm_up G (b + 5 + 4 * e) 9 (i3 (u + 1))) (b + 5 + 4 * e + 1) h (i3 (wN W p))) (b + 5 + 4 * e) 7 (i3 (p + 1))) (f0 := st + 1) (F := F) (tm := wN W p) (p1 := p + 1) (q := p2) (s2 := F) (p2 := p2 + 1) H hb hs hl hT hP he kh
              (fun r k a1 a2 => by rw [sm_up_ne (by omega), sm_up_ne (by omega), sm_up_ne (by omega)]) (by rw [sm_up_ne (by omega), sm_up_ne (by omega), sm_up_same]) (sm_up_same _ _ _ _) (by omega) hst37 kn2 (by omega) (by omega) kc kc2 hst
              (Or.inl ⟨kk, by omega, by rw [sm_up_ne (by omega), sm_up_same], by omega, dd2, ee2, ⟨n', by rw [tt2]; exact kc⟩, m4.symm, rfl⟩)
            obtain ⟨G', g', r1, r2, r3⟩ := ih _ _ (i + 1) o _ _ _ _ H1 ho (by omega) (by omega)
            exact ⟨G', g', e90.trans r1, (e27.trans e104).trans r2, r3.tr F1⟩
      · by_cases hu60 : u = 60
        · exact stk1 (by omega) (by omega) (by omega) (by omega) hu60
        · obtain ⟨z, t', ha, hz1, hz2⟩ := ask_z (d := d) (x := x) (L := L) (V := V) (d' := d') (x' := x') (L' := L') (U := U) H hb hs hl hT hP he hρ ho ht hm hZ hQ hpz ka
          have e93 := s_93_5 (d := d + 1) (x := x) (L := L) (V := V) hb hs hw hl h1 (by omega) u1 s3 hpz hwl9 kd hz1
          have e90 := l_90_turn (d := d + 4) (x := x) (L := L) (V := V) (i := i) hb hs hw hl (by omega) h1 s3 hZ hpz (by omega) (by omega) u1 (by omega) e93
          have e104 := l_104_4 (d := d') (x := x') (L := L') (V := U) he4 h2 hst37 hS s4 kk ha u2 (by omega) h3 (by omega) hz2
          rw [m3, m4] at e104
          cases z
          · rw [if_neg (by decide)] at e90 e104
            obtain ⟨H1, F1⟩ := a_open (G1 := sm_up (sm_up G (b + 5 + 4 * e) 9 (i3 (u + 1))) (b + 5 + 4 * e) 7 (i3 (p + 1))) (f0 := st + 1) (F := F) (tm := 0) (p1 := p + 1) (q := p2) (s2 := st) (p2 := p) H hb hs hl hT hP he kh
              (fun r k a1 a2 => wf _ _ r k a1) (w9 _ _) (w7 _ _) (by omega) hst37 (by omega) (by omega) (by omega) kc hc0 hst
              (Or.inr (Or.inl ⟨kk, by omega, dd2, rfl, tt2.symm⟩))
            obtain ⟨G', g', r1, r2, r3⟩ := ih _ _ (i + 1) o _ _ _ _ H1 ho (by omega) (by omega)
            exact ⟨G', g', e90.trans r1, (e27.trans e104).trans r2, r3.tr F1⟩
          · rw [if_pos rfl] at e90 e104
            obtain ⟨H1, F1⟩ := up1 (sm_up (sm_up G (b + 5 + 4 * e) 9 (i3 (u + 1))) (b + 5 + 4 * e) 7 (i3 (wG W p))) (sm_up (sm_up g 329 e (i3 (u + 1))) 326 e (i3 F)) (u + 1) h F (wG W p)
              (fun r k a1 a2 => wf _ _ r k a1) (fun r k a1 a2 => gf _ _ r k (by omega))
              ⟨w9 _ _, g9 _ _⟩ (by omega) (sm_up_same _ _ _ _) (sm_up_same _ _ _ _) (by rw [gf _ _ _ _ (by omega)]; exact h3) h4
              ⟨n', f, q, by rw [tp]; exact kc2, hst.keep (fun j hj => wf _ _ _ _ (by omega)) (fun j hj => gf _ _ _ _ (by omega))⟩
            obtain ⟨G', g', r1, r2, r3⟩ := ih _ _ (i + 1) o _ _ _ _ H1 ho (by omega) (by omega)
            exact ⟨G', g', e90.trans r1, (e27.trans e104).trans r2, r3.tr F1⟩
      · by_cases hu60 : u = 60
        · exact stk1 (by omega) (by omega) (by omega) (by omega) hu60
        · obtain ⟨z, t', ha, hz1, hz2⟩ := ask_z (d := d) (x := x) (L := L) (V := V) (d' := d') (x' := x') (L' := L') (U := U) H hb hs hl hT hP he hρ ho ht hm hZ hQ hpz ka
          have e93 := s_93_6 (d := d + 1) (x := x) (L := L) (V := V) hb hs hw hl h1 (by omega) u1 s3 hpz hwl9 kd hz1
          have e90 := l_90_turn (d := d + 4) (x := x) (L := L) (V := V) (i := i) hb hs hw hl (by omega) h1 s3 hZ hpz (by omega) (by omega) u1 (by omega) e93
          have e104 := l_104_5 (d := d') (x := x') (L := L') (V := U) he4 h2 hst37 hS s4 kk ha u2 (by omega) h3 (by omega) hz2
          rw [m3, m4] at e104
          cases z
          · rw [if_neg (by decide)] at e90 e104
            rw [tp] at e90
            obtain ⟨H1, F1⟩ := a_open (G1 := sm_up (sm_up G (b + 5 + 4 * e) 9 (i3 (u + 1))) (b + 5 + 4 * e) 7 (i3 p2)) (f0 := F) (F := F) (tm := 0) (p1 := p2) (q := p2) (n := 0) (s2 := F) (p2 := p2) H hb hs hl hT hP he kh
              (fun r k a1 a2 => wf _ _ r k a1) (w9 _ _) (w7 _ _) (by omega) hst37 (by omega) (by omega) (by omega) ⟨rfl, rfl⟩ kc2 hst
              (Or.inr (Or.inr (Or.inr ⟨kk, m4.symm, rfl⟩)))
            obtain ⟨G', g', r1, r2, r3⟩ := ih _ _ (i + 1) o _ _ _ _ H1 ho (by omega) (by omega)
            exact ⟨G', g', e90.trans r1, (e27.trans e104).trans r2, r3.tr F1⟩
          · rw [if_pos rfl] at e90 e104
            obtain ⟨H1, F1⟩ := a_open (G1 := sm_up (sm_up G (b + 5 + 4 * e) 9 (i3 (u + 1))) (b + 5 + 4 * e) 7 (i3 (p + 1))) (f0 := st + 1) (F := F) (tm := 0) (p1 := p + 1) (q := p2) (s2 := F) (p2 := p2) H hb hs hl hT hP he kh
              (fun r k a1 a2 => wf _ _ r k a1) (w9 _ _) (w7 _ _) (by omega) hst37 (by omega) (by omega) (by omega) kc kc2 hst
              (Or.inr (Or.inr (Or.inr ⟨kk, m4.symm, rfl⟩)))
            obtain ⟨G', g', r1, r2, r3⟩ := ih _ _ (i + 1) o _ _ _ _ H1 ho (by omega) (by omega)
            exact ⟨G', g', e90.trans r1, (e27.trans e104).trans r2, r3.tr F1⟩
      · by_cases hu60 : u = 60
        · exact stk1 (by omega) (by omega) (by omega) (by omega) hu60
        · obtain ⟨z, t', ha, hz1, hz2⟩ := ask_z (d := d) (x := x) (L := L) (V := V) (d' := d') (x' := x') (L' := L') (U := U) H hb hs hl hT hP he hρ ho ht hm hZ hQ hpz ka
          have e93 := s_93_6 (d := d + 1) (x := x) (L := L) (V := V) hb hs hw hl h1 (by omega) u1 s3 hpz hwl9 kd hz1
          have e90 := l_90_turn (d := d + 4) (x := x) (L := L) (V := V) (i := i) hb hs hw hl (by omega) h1 s3 hZ hpz (by omega) (by omega) u1 (by omega) e93
          have e104 := l_104_5 (d := d') (x := x') (L := L') (V := U) he4 h2 hst37 hS s4 kk ha u2 (by omega) h3 (by omega) hz2
          rw [m3, m4] at e104
          cases z
          · rw [if_neg (by decide)] at e90 e104
            rw [tp] at e90
            obtain ⟨H1, F1⟩ := a_open (G1 := sm_up (sm_up G (b + 5 + 4 * e) 9 (i3 (u + 1))) (b + 5 + 4 * e) 7 (i3 (p2 + 1))) (f0 := F) (F := F2) (tm := 0) (p1 := p2 + 1) (q := p3) (s2 := F2) (p2 := p3) H hb hs hl hT hP he kh
              (fun r k a1 a2 => wf _ _ r k a1) (w9 _ _) (w7 _ _) (by omega) hst37 (by omega) (by omega) (by omega) kc3 kc2 hst
              (Or.inr (Or.inr (Or.inr ⟨kk, m4.symm, rfl⟩)))
            obtain ⟨G', g', r1, r2, r3⟩ := ih _ _ (i + 1) o _ _ _ _ H1 ho (by omega) (by omega)
            exact ⟨G', g', e90.trans r1, (e27.trans e104).trans r2, r3.tr F1⟩
          · rw [if_pos rfl] at e90 e104
            obtain ⟨H1, F1⟩ := a_open (G1 := sm_up (sm_up G (b + 5 + 4 * e) 9 (i3 (u + 1))) (b + 5 + 4 * e) 7 (i3 (p + 1))) (f0 := st + 1) (F := F) (tm := 0) (p1 := p + 1) (q := p2) (s2 := F2) (p2 := p3) H hb hs hl hT hP he kh
              (fun r k a1 a2 => wf _ _ r k a1) (w9 _ _) (w7 _ _) (by omega) hst37 (by omega) (by omega) (by omega) kc kc2 hst
              (Or.inr (Or.inr (Or.inl ⟨kk, by omega, dd2, m4.symm, tt2.symm⟩)))
            obtain ⟨G', g', r1, r2, r3⟩ := ih _ _ (i + 1) o _ _ _ _ H1 ho (by omega) (by omega)
            exact ⟨G', g', e90.trans r1, (e27.trans e104).trans r2, r3.tr F1⟩
end ACT
