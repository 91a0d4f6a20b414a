/-! round, the operation -/
theorem l_73 {d x : Nat} {V : pV} {G : sm_G} {L : sm_L} {v : Int32} : ∃ G', hD d 306 73 [.ref 156, .int v, .int (i3 0)] 342 (RR V) x G L = (if v = i3 0 then oI (G 156 65) x G' L else oI (G 156 66) x G' L) ∧ (∀ r k, ¬ (r = 305 ∧ k < 8) → G' r k = G r k) ∧ ∀ k, k < 8 → G' 305 k = i3 k := by
  refine loopE (H := fun i (g : sm_G) => hD d 306 73 [.ref 156, .int v, .int (i3 i)] 342 (RR V) x g L) (Q := fun o' => ∃ G', o' = (if v = i3 0 then oI (G 156 65) x G' L else oI (G 156 66) x G' L) ∧ (∀ r k, ¬ (r = 305 ∧ k < 8) → G' r k = G r k) ∧ ∀ k, k < 8 → G' 305 k = i3 k) (N := 8)
    (fun i g => (∀ r k, ¬ (r = 305 ∧ k < 8) → g r k = G r k) ∧ ∀ k, k < i → g 305 k = i3 k) ?_ ?_ 8 0 G (by omega) ⟨fun _ _ _ => rfl, fun k hk => by omega⟩
  · rintro i g hi ⟨w1, w2⟩
    refine ⟨sm_up g 305 i (i3 i), ?_, fun r k h => by rw [sm_up_ne (by omega)]; exact w1 r k h, fun k hk => ?_⟩
    · show hD d 306 73 _ 342 (RR V) x g L = _
      rw [h_306_73, if_pos (show i3 i < i3 8 by rw [i3_lt (by omega) (by omega)]; exact hi), i3_in (by omega) hi, gd_tt, i3_cl (by omega), i3_add]
    · by_cases q : k = i
      · subst q
        exact sm_up_same _ _ _ _
      · rw [sm_up_ne (by omega)]
        exact w2 k (by omega)
  · rintro g ⟨w1, w2⟩
    refine ⟨g, ?_, w1, w2⟩
    show hD d 306 73 _ 342 (RR V) x g L = _
    rw [h_306_73, if_neg (by decide), w1 _ _ (by omega), w1 _ _ (by omega)]
theorem op_60 {d x : Nat} {V : pV} {G : sm_G} {L : sm_L} {v : Int32} (I : Inv V G) : OpI d x V G L 60 [.ref 1, .int v] 306 [.ref 156, .int v] eS := by
  have I0 := I
  obtain ⟨T, K, c, H, W, hS, hh, hn⟩ := I
  have hB := hS.T.gb
  have hV := hS.V
  refine OpI_2 (C1 := ¬ v < i3 0 ∧ v ≤ i3 1) (C2 := sl T ≤ 6) (k1 := 2) (k2 := 3) (X := sm_aI (sm_cv0 (d + 59) 61 342 (RR V) [.ref 1] (x, G, L)) (fun a2 x2 G2 L2 => if v = i3 0 then oI (a2 / i3 1000000) x2 G2 L2 else oI (irem a2 (i3 1000000)) x2 G2 L2) oX) (Y := fun x1 G1 => hD (d + 59) 306 55 [.ref 156, .int v, .null] 342 (RR V) x1 (g00 G1) L) I0 ?_ ?_ (by decide) (by decide) ?_
  · rw [m_60 hV, s_33, aV_if]
    by_cases h1 : ¬ v < i3 0 ∧ v ≤ i3 1
    · rw [if_pos h1, if_pos h1, hS.c.gsl]
      by_cases h2 : sl T ≤ 6
      · rw [if_pos (show i3 (sl T) ≤ i3 6 by rw [i3_le (by omega) (by omega)]; exact h2), if_pos h2]
      · rw [if_neg (show ¬ i3 (sl T) ≤ i3 6 by rw [i3_le (by omega) (by omega)]; exact h2), if_neg h2]
    · rw [if_neg h1, if_neg h1]
  · intro x1 G1 hs
    have eg : g00 G1 160 0 = i3 (sl T) := by rw [g00_ne (by omega), hs _ _ (by omega)]; exact hS.m.gsl
    rw [m_306, s_218c, aI_o, mbad g00_0 (by decide) (by decide) (by decide)]
    by_cases h1 : ¬ v < i3 0 ∧ v ≤ i3 1
    · rw [if_pos h1, if_pos h1, h_306_28, eg]
      by_cases h2 : sl T ≤ 6
      · rw [if_pos (show i3 (sl T) ≤ i3 6 by rw [i3_le (by omega) (by omega)]; exact h2), if_pos h2, s_219o g00_0, aI_o, if_pos rfl]
      · rw [if_neg (show ¬ i3 (sl T) ≤ i3 6 by rw [i3_le (by omega) (by omega)]; exact h2), if_neg h2, s_219b (by decide) (by decide) (by decide) g00_0, aI_o, if_neg (by decide)]
        rfl
    · rw [if_neg h1, if_neg h1]
      rfl
  · intro h1 h2
    have hT := hS.T
    have hP := hS.P
    obtain ⟨N, B, R, G1, k1, k2, k3, hlf, c1, hS1, hh1, hn1, hs1⟩ := rd60 (d := d) (x := x) (L := L) hS hh hn h2
    have e254 := s_254 (d := d + 58) (x := x) (V := V) (G := sm_up (g00 G1) 156 65 m1) (L := L)
    have fg : ∀ r k, r ≠ 306 → ¬ (r = 156 ∧ (k = 0 ∨ k = 65)) → fill (sm_up (g00 G1) 156 65 m1) 306 8 (fun _ => i3 1000) r k = G1 r k := fun r k a1 a2 => by
      rw [fill_ne a1, sm_up_ne (by omega)]
      exact g00_ne (by omega)
    have f306 : ∀ k, k < 8 → fill (sm_up (g00 G1) 156 65 m1) 306 8 (fun _ => i3 1000) 306 k = i3 1000 := fun k hk => fill_at hk
    have f65 : fill (sm_up (g00 G1) 156 65 m1) 306 8 (fun _ => i3 1000) 156 65 = m1 := by
      rw [fill_ne (by omega)]
      exact sm_up_same _ _ _ _
    have f0 : fill (sm_up (g00 G1) 156 65 m1) 306 8 (fun _ => i3 1000) 156 0 = i3 0 := by
      rw [fill_ne (by omega), sm_up_ne (by omega)]
      exact g00_0
    have e254' : sm_cv0 (d + 59) 254 342 (RR V) [.ref 156] (x, sm_up (g00 G1) 156 65 m1, L) = oV x (fill (sm_up (g00 G1) 156 65 m1) 306 8 (fun _ => i3 1000)) L := e254
    generalize fill (sm_up (g00 G1) 156 65 m1) 306 8 (fun _ => i3 1000) = g2 at fg f306 f65 f0 e254'
    have hmo : mOk g2 T (H c) K W := ⟨hS1.m.keep hT hP (fun r k q => fg r k (by unfold inM at q; omega) (by unfold inM at q; omega)), fun e he => (hS1.wl e he).2.2.keep he (fun r k q => fg r k (by omega) (by omega))⟩
    obtain ⟨g3, p1, p2, p3⟩ := l_307 N hT hP hS.K hS.K8 h2 hlf (sl T) (d + 50 - sl T) x L [] g2 none (by simp) (fun k hk => by cases hk) (fun q hq => hq) hmo (fun k hk => f306 k (by omega)) (fun k hk => by cases hk) f65
    rw [show d + 50 - sl T + sl T + 9 = d + 59 by omega] at p1
    have p1' : sm_cv0 (d + 59) 307 342 (RR V) [.ref 156, .int (i3 0), .int (i3 0), .int (i3 0)] (x, g2, L) = oV x g3 L := p1
    rw [k3] at p2
    obtain ⟨u1, u2, u3⟩ := p2
    obtain ⟨g4, q1, q2, q3⟩ := l_73 (d := d + 59) (x := x) (V := V) (G := g3) (L := L) (v := v)
    rw [u1, u2] at q1
    have ff : ∀ r k, r < 156 ∨ ¬ sc r k → g4 r k = G1 r k := fun r k a => by
      by_cases z : r = 305 ∧ k < 8
      · obtain ⟨rfl, z2⟩ := z
        rw [q3 k z2]
        exact (hS1.w k z2).symm
      · unfold sc at a
        rw [q2 r k z, p3 r k (by omega) (by omega) (by omega)]
        exact fg r k (by omega) (by omega)
    refine ⟨if v = i3 0 then i3 B else i3 R, G1, g4, ?_, hs1, ?_, ?_, Inv_q (G1 := G1) hS1 (fun _ _ _ => rfl) hh1 hn1 ff⟩
    · rw [c1, aI_o, i3_div (by omega) (by omega), show (B * 1000000 + R) / 1000000 = B by omega]
      unfold irem
      rw [i3_div (by omega) (by omega), show (B * 1000000 + R) / 1000000 = B by omega, i3_mul, i3_sub (by omega), show B * 1000000 + R - B * 1000000 = R by omega]
      split <;> rfl
    · show hD (d + 59) 306 55 [.ref 156, .int v, .null] 342 (RR V) x (g00 G1) L = _
      rw [h_306_55, e254', aV_o, p1', aV_o, q1]
      split <;> rfl
    · rw [q2 _ _ (by omega), p3 _ _ (by omega) (by omega) (by omega)]
      exact f0
