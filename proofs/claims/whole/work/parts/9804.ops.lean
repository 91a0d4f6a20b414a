/-! questions whose answers were worked out before -/
section OPV
variable {d x : Nat} {V : pV} {G : sm_G} {L : sm_L} {j k : Nat} {as bs : List Value} {E : Nat → Nat} {T : pT} {K c : Nat} {H W : Nat → pT}
theorem OpI_2v {C1 C2 : Prop} [Decidable C1] [Decidable C2] {k1 k2 : Nat} {val : Int32} (I : Inv V G)
    (hc : ∃ G1, sm_cv0 (d + 60) j 342 (RR V) as (x, G, L) = (if C1 then (if C2 then oI val x G1 L else rfC k2 x G L) else rfC k1 x G L) ∧ sM G G1 ∧ IvS V G1 T K c H W ∧ hHr G1 T (H c) K ∧ nHr G1 T (H c) K W)
    (em : ∀ x1 G1, sM G G1 → ∃ G2, sm_cv0 (d + 60) k 342 (RR V) bs (x1, G1, L) = (if C1 then (if C2 then oI val x1 G2 L else oI (i3 0) x1 (noted G1 (E k2) k2) L) else oI (i3 0) x1 (noted G1 (E k1) k1) L) ∧ (∀ r k, ¬ (306 ≤ r ∧ r ≤ 341) → ¬ (r = 156 ∧ (k = 0 ∨ k = 40 ∨ k = 41 ∨ 56 ≤ k)) → G2 r k = G1 r k) ∧ G2 156 0 = i3 0)
    (hE : k1 < 4 ∧ 0 < E k1 ∧ E k1 ≤ 2) (hE2 : k2 < 4 ∧ 0 < E k2 ∧ E k2 ≤ 2) : OpI d x V G L j as k bs E := by
  obtain ⟨G1, ec, b2, h1, h2, h3⟩ := hc
  by_cases h1' : C1
  · by_cases h2' : C2
    · obtain ⟨G2, em, b3, b4⟩ := em x G1 b2
      rw [if_pos h1', if_pos h2'] at ec em
      exact Or.inl ⟨val, G1, G2, ec, em, b4, Inv_q h1 (fun _ _ _ => rfl) h2 h3 (fun r k a => b3 r k (by unfold sc at a; omega) (by unfold sc at a; omega))⟩
    · obtain ⟨G2, em, b3, b4⟩ := em (x + 1) _ (sM_r (G := G) (k := k2) (v := G 4 k2 + i3 1))
      rw [if_pos h1', if_neg h2'] at ec em
      exact Or.inr ⟨k2, _, _, _, ec, em, noted_0, hE2.1, hE2.2.1, hE2.2.2, Inv_noted I hE2.1⟩
  · obtain ⟨G2, em, b3, b4⟩ := em (x + 1) _ (sM_r (G := G) (k := k1) (v := G 4 k1 + i3 1))
    rw [if_neg h1'] at ec em
    exact Or.inr ⟨k1, _, _, _, ec, em, noted_0, hE.1, hE.2.1, hE.2.2, Inv_noted I hE.1⟩
end OPV
theorem mHsM0 {G G1 : sm_G} {T P : pT} {K : Nat} (h : mH G T P K) (hT : okT T) (hP : okP T P) (hs : sM G G1) : mH G1 T P K := h.keep hT hP (fun r k a => hs r k (by unfold inM at a; omega))
theorem op_37 {d x : Nat} {V : pV} {G : sm_G} {L : sm_L} {v w : Int32} (I : Inv V G) : OpI d x V G L 37 [.ref 1, .int v, .int w] 252 [.ref 156, .int v, .int w] eN := by
  have I0 := I
  obtain ⟨T, K, c, H, W, hS, hh, hn⟩ := I
  have hB := hS.T.gb
  obtain ⟨G1, e1, e2, e3, e4⟩ := s_37 (d := d + 55) (x := x) (L := L) (V := V) (v := v) (w := w) hS.V hS.c hS.p hS.T hS.P hS.K hh
  have ev : ∀ k m, k < sl T → (aB T (H c) K m).testBit k = slp0 T (H c) K k m := fun k m hk => by rw [aB_tb, decide_eq_true hk, Bool.true_and]
  have hval : ∀ (A B : Option (sm_Res × sm_D)) x G', (if ¬ v < i3 0 ∧ v < i3 (sl T) then (if ¬ w < i3 0 ∧ w ≤ i3 300 then oI (bi ((aB T (H c) K w.toNatClampNeg).testBit v.toNatClampNeg)) x G' L else A) else B) = (if ¬ v < i3 0 ∧ v < i3 (sl T) then (if ¬ w < i3 0 ∧ w ≤ i3 300 then oI (bi (slp0 T (H c) K v.toNatClampNeg w.toNatClampNeg)) x G' L else A) else B) := fun A B x G' => by
    by_cases h : ¬ v < i3 0 ∧ v < i3 (sl T)
    · obtain ⟨i, rfl, hi⟩ := rng (by omega) h
      rw [if_pos h, if_pos h, i3_cl (by omega), ev _ _ hi]
    · rw [if_neg h, if_neg h]
  rw [hval] at e1
  refine OpI_2v (T := T) (K := K) (c := c) (H := H) (W := W) I0 ⟨G1, e1, fun r k a => e2 r k (by omega) (by omega), hS.keep (fun r k a => e2 r k (by unfold sc at a; omega) (by unfold sc at a; omega)), e4, hn.keep hS.T (e2 _ _ (by omega) (by omega)) (fun r k a b => e2 r k (by omega) (by omega))⟩ (fun x1 G1 hs => ?_) (by decide) (by decide)
  obtain ⟨G2, f1, f2, f3⟩ := s_252 (d := d + 57) (x := x1) (G := G1) (L := L) (V := V) (v := v) (w := w) (mHsM0 hS.m hS.T hS.P hs) hS.T hS.P hS.K8 (fun k hk => by rw [hs _ _ (by omega)]; exact hS.w k (by omega))
  exact ⟨G2, f1, fun r k a b => f2 r k (by omega) (by omega), f3⟩
theorem op_40 {d x : Nat} {V : pV} {G : sm_G} {L : sm_L} {v w : Int32} (I : Inv V G) : OpI d x V G L 40 [.ref 1, .int v, .int w] 256 [.ref 156, .int v, .int w] eI := by
  have I0 := I
  obtain ⟨T, K, c, H, W, hS, hh, hn⟩ := I
  have hB := hS.T.gb
  obtain ⟨G1, e1, e2, e3, e4⟩ := s_40 (d := d + 55) (x := x) (L := L) (V := V) (v := v) (w := w) hS.V hS.c hS.p hS.T hS.P hS.K hh
  refine OpI_2v (T := T) (K := K) (c := c) (H := H) (W := W) I0 ⟨G1, e1, fun r k a => e2 r k (by omega) (by omega), hS.keep (fun r k a => e2 r k (by unfold sc at a; omega) (by unfold sc at a; omega)), e4, hn.keep hS.T (e2 _ _ (by omega) (by omega)) (fun r k a b => e2 r k (by omega) (by omega))⟩ (fun x1 G1 hs => ?_) (by decide) (by decide)
  obtain ⟨G2, f1, f2, f3⟩ := s_256 (d := d + 56) (x := x1) (G := G1) (L := L) (V := V) (v := v) (w := w) (mHsM0 hS.m hS.T hS.P hs) hS.T hS.P hS.K8 (fun k hk => by rw [hs _ _ (by omega)]; exact hS.w k (by omega))
  exact ⟨G2, f1, fun r k a b => f2 r k (by omega) (by omega) (by omega) (by omega), f3⟩
theorem op_45 {d x : Nat} {V : pV} {G : sm_G} {L : sm_L} {v w : Int32} (I : Inv V G) : OpI d x V G L 45 [.ref 1, .int v, .int w] 279 [.ref 156, .int v, .int w] eI := by
  have I0 := I
  obtain ⟨T, K, c, H, W, hS, hh, hn⟩ := I
  have hB := hS.T.gb
  obtain ⟨G1, e1, e2, e3, e4⟩ := s_45 (d := d + 55) (x := x) (L := L) (V := V) (v := v) (w := w) hS.V hS.c hS.p hS.T hS.P hS.K hh
  refine OpI_2v (T := T) (K := K) (c := c) (H := H) (W := W) I0 ⟨G1, e1, fun r k a => e2 r k (by omega) (by omega), hS.keep (fun r k a => e2 r k (by unfold sc at a; omega) (by unfold sc at a; omega)), e4, hn.keep hS.T (e2 _ _ (by omega) (by omega)) (fun r k a b => e2 r k (by omega) (by omega))⟩ (fun x1 G1 hs => ?_) (by decide) (by decide)
  obtain ⟨G2, f1, f2, f3⟩ := s_279 (d := d + 56) (x := x1) (G := G1) (L := L) (V := V) (v := v) (w := w) (mHsM0 hS.m hS.T hS.P hs) hS.T hS.P hS.K8 (fun k hk => by rw [hs _ _ (by omega)]; exact hS.w k (by omega))
  exact ⟨G2, f1, fun r k a b => f2 r k (by omega) (by omega) (by omega) (by omega), f3⟩
theorem op_46 {d x : Nat} {V : pV} {G : sm_G} {L : sm_L} {v w u : Int32} (I : Inv V G) : OpI d x V G L 46 [.ref 1, .int v, .int w, .int u] 281 [.ref 156, .int v, .int w, .int u] eI := by
  have I0 := I
  obtain ⟨T, K, c, H, W, hS, hh, hn⟩ := I
  have hB := hS.T.gb
  obtain ⟨G1, e1, e2, e3, e4⟩ := s_46 (d := d + 55) (x := x) (L := L) (V := V) (v := v) (w := w) (u := u) hS.V hS.c hS.p hS.T hS.P hS.K hh
  refine OpI_2v (T := T) (K := K) (c := c) (H := H) (W := W) I0 ⟨G1, e1, fun r k a => e2 r k (by omega) (by omega), hS.keep (fun r k a => e2 r k (by unfold sc at a; omega) (by unfold sc at a; omega)), e4, hn.keep hS.T (e2 _ _ (by omega) (by omega)) (fun r k a b => e2 r k (by omega) (by omega))⟩ (fun x1 G1 hs => ?_) (by decide) (by decide)
  obtain ⟨G2, f1, f2, f3⟩ := s_281 (d := d + 55) (x := x1) (G := G1) (L := L) (V := V) (v := v) (w := w) (u := u) (mHsM0 hS.m hS.T hS.P hs) hS.T hS.P hS.K8 (fun k hk => by rw [hs _ _ (by omega)]; exact hS.w k (by omega))
  exact ⟨G2, f1, fun r k a b => f2 r k (by omega) (by omega) (by omega) (by omega), f3⟩
theorem op_49 {d x : Nat} {V : pV} {G : sm_G} {L : sm_L} {v w u : Int32} (I : Inv V G) : OpI d x V G L 49 [.ref 1, .int v, .int w, .int u] 286 [.ref 156, .int v, .int w, .int u] eI := by
  have I0 := I
  obtain ⟨T, K, c, H, W, hS, hh, hn⟩ := I
  have hB := hS.T.gb
  obtain ⟨G1, e1, e2, e3, e4⟩ := s_49 (d := d + 55) (x := x) (L := L) (V := V) (v := v) (w := w) (u := u) hS.V hS.c hS.p hS.T hS.P hS.K hh
  refine OpI_2v (T := T) (K := K) (c := c) (H := H) (W := W) I0 ⟨G1, e1, fun r k a => e2 r k (by omega) (by omega) (by omega), hS.keep (fun r k a => e2 r k (by unfold sc at a; omega) (by unfold sc at a; omega) (by unfold sc at a; omega)), e4, hn.keep hS.T (e2 _ _ (by omega) (by omega) (by omega)) (fun r k a b => e2 r k (by omega) (by omega) (by omega))⟩ (fun x1 G1 hs => ?_) (by decide) (by decide)
  obtain ⟨G2, f1, f2, f3⟩ := s_286 (d := d + 55) (x := x1) (G := G1) (L := L) (V := V) (v := v) (w := w) (u := u) (mHsM0 hS.m hS.T hS.P hs) hS.T hS.P hS.K8 (fun k hk => by rw [hs _ _ (by omega)]; exact hS.w k (by omega))
  exact ⟨G2, f1, fun r k a b => f2 r k (by omega) (by omega) (by omega) (by omega), f3⟩
