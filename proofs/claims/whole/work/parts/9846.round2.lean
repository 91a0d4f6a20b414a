theorem lf_u {V : pV} {T P : pT} {K N N' : Nat} {W : Nat → pT} {p : List Nat} {g0 : sm_G} (hT : okT T) (hP : okP T P) (hg0 : mOk g0 T P K W) (h : lfN V T P K W p N) (h' : lfN V T P K W p N') : N = N' := by
  have hgb : mOk (fill g0 307 301 (fun m => i3 (rmB T (fun k => slp T P (fun k => p.idxOf k) (fun _ => 1000) K k m)))) T P K W := hg0.keep hT hP (fun r k y1 y2 => fill_ne (by omega))
  obtain ⟨_, n, a1, a2, a3, _⟩ := h.2 0 0 _ (fun _ _ => 0) hgb (fun m hm => fill_at hm)
  obtain ⟨_, n', b1, b2, b3, _⟩ := h'.2 0 0 _ (fun _ _ => 0) hgb (fun m hm => fill_at hm)
  obtain ⟨e, _⟩ := oI_inj (a3.symm.trans b3)
  rw [i3_eq (by omega) (by omega)] at e
  rw [← a2, ← b2, e]
theorem fold_cst {N0 r : Nat} : ∀ (l : List (List Nat)), l.foldl (mrd (fun _ => N0)) (some (N0, r)) = some (N0, r)
  | [] => rfl
  | p :: l => by
    show l.foldl (mrd (fun _ => N0)) (if N0 < N0 then some (N0, dgs p) else some (N0, r)) = _
    rw [if_neg (Nat.lt_irrefl _)]
    exact fold_cst l
theorem ids_rg : ∀ n, n < 7 → ids6.take n = List.range n := by decide
theorem rd60 {d x : Nat} {V : pV} {G : sm_G} {L : sm_L} {T : pT} {K c : Nat} {H W : Nat → pT} (hS : IvS V G T K c H W) (hh : hHr G T (H c) K) (hn : nHr G T (H c) K W) (h6 : sl T ≤ 6) : ∃ (N : List Nat → Nat) (B R : Nat) (G1 : sm_G), B ≤ 4 ∧ R < 1000000 ∧ (lvs (sl T) (sl T) []).foldl (mrd N) none = some (B, R) ∧ (∀ p, p ∈ lvs (sl T) (sl T) [] → lfN V T (H c) K W p (N p)) ∧ sm_cv0 (d + 59) 61 342 (RR V) [.ref 1] (x, G, L) = oI (i3 (B * 1000000 + R)) x G1 L ∧ IvS V G1 T K c H W ∧ hHr G1 T (H c) K ∧ nHr G1 T (H c) K W ∧ sM G G1 := by
  have hT := hS.T
  have hP := hS.P
  have hV := hS.V
  have hB := hT.gb
  have hs := hV1 hV
  have hsl := pS_lt hs
  have hmo : mOk G T (H c) K W := ⟨hS.m, fun e he => (hS.wl e he).2.2⟩
  have h16 : 2 ^ dr T ≤ 2 ^ 4 := Nat.pow_le_pow_right (by decide) hB.2.2.2.1
  obtain ⟨G1, a0, hS1, hh1, hn1, hs1, hO1, h17⟩ := hS.s15b (d := d + 54) (x := x) (L := L) hh hn
  obtain ⟨G2, b1, b2, b3⟩ := s_82 (d := d + 57) (x := x) (V := V) (G := G1) (L := L)
  have hS2 := hS1.keep (G' := G2) (fun r k a => b2 r k (by unfold sc at a; omega))
  have hok2 : hOk G2 T (H c) K := fun m hm => by
    rw [b2 _ _ (by omega), b2 _ _ (by omega), b2 _ _ (by omega)]
    exact hO1 m hm
  have h17' : G2 1 17 = i3 0 := by rw [b2 _ _ (by omega)]; exact h17
  have hn2 := hn1.keep (G' := G2) hT (b2 _ _ (by omega)) (fun r k q1 q2 => b2 _ _ (by omega))
  have hs2 : sM G G2 := fun r k a => by rw [b2 _ _ (by omega)]; exact hs1 r k a
  have a0' : sm_cv0 (d + 58) 15 342 (RR V) [.ref 1] (x, G, L) = oR 54 x G1 L := a0
  have b1' : sm_cv0 (d + 58) 82 342 (RR V) [.ref 54] (x, G1, L) = oV x G2 L := b1
  obtain ⟨n0, n1, n2⟩ := rn0 hS2 hok2 hmo
  have hpc := pc16 n0 (by omega)
  by_cases hz : mk T = 0
  · obtain ⟨G3, c1, c2, c3, c4, c5, c6⟩ := hS2.s14 (d := d + 46) (x := x) (L := L) (Or.inr ⟨h17', hok2⟩) hn2
    obtain ⟨G3', z1, z2⟩ := s_14f (d := d + 46) (x := x) (L := L) hS2 (Or.inr ⟨h17', hok2⟩) hn2
    obtain rfl := oR_inj (c1.symm.trans z1)
    have hlt : lostB G3 63 (dr T) < 2 ^ dr T := bs_lt _ _
    have eL : lostB G3 63 (dr T) = n0 := by
      obtain ⟨g', p1, _⟩ := c6 0 0 V G (fun _ _ => 0) ⟨hS.m, hS.w, fun e he => (hS.wl e he).2.2⟩
      obtain ⟨g1, k1, k2, k3, k4, k5⟩ := s_257 (d := 36) (x := 0) (L := fun _ _ => 0) (V := V) hS.m hT hP hS.K8 (fun k hk => hS.w k (by omega))
      obtain ⟨g2, q1, _⟩ := n2 32 0 g1 (fun _ _ => 0) (hmo.keep hT hP (fun r k y1 y2 => k2 r k (by omega) (by omega) (by omega) (by omega))) (fun m hm => (k3 m hm).1)
      have e263 := m_263 (d := 39) (x := 0) (G := G) (L := fun _ _ => 0) (V := V)
      rw [k1] at e263
      simp only [aV_o] at e263
      rw [q1] at e263
      simp only [aI_o] at e263
      obtain ⟨e, _⟩ := oI_inj (p1.symm.trans e263)
      rw [i3_eq (by omega) (by omega)] at e
      exact e
    have hd := lvs_hd (sl T) (by omega)
    have hdg := lvs_dgs (sl T) (by omega)
    have c1' : sm_cv0 (d + 58) 14 342 (RR V) [.ref 1] (x, G2, L) = oR 63 x G3 L := c1
    have e97 := s_97 (d := d + 57) (x := x) (V := V) (L := L) (G := G3) (b := 63) (s := V.1) (Or.inl rfl) hs c2.c.gdr hB.2.2.2.1
    have e97' : sm_cv0 (d + 58) 97 342 (RR V) [.ref 63, .ref V.1] (x, G3, L) = oI (i3 n0) x G3 L := by rw [← eL]; exact e97
    have e7 := s_7 (d := d + 57) (x := x) (V := V) (G := G3) (L := L) (a := n0) (by omega)
    have e7' : sm_cv0 (d + 58) 7 342 (RR V) [.int (i3 n0)] (x, G3, L) = oI (i3 (pc n0 10)) x G3 L := e7
    have e83 := s_83 (d := d + 57) (x := x) (V := V) (G := G3) (L := L) (o := ids6) (n := sl T) ⟨b3.1, b3.2.1, fun k hk => by rw [z2]; exact b3.2.2 k hk⟩ h6
    rw [ids_rg (sl T) (by omega)] at e83
    have e83' : sm_cv0 (d + 58) 83 342 (RR V) [.ref 54, .int (i3 (sl T))] (x, G3, L) = oI (i3 (dgs (List.range (sl T)))) x G3 L := e83
    refine ⟨fun _ => pc n0 10, pc n0 10, dgs (List.range (sl T)), G3, hpc, ?_, ?_, ?_, ?_, c2, c3, c4, fun r k a => by rw [c5 r k a]; exact hs2 r k a⟩
    · generalize lvs (sl T) (sl T) [] = l at hd hdg
      cases l with
      | nil => cases hd
      | cons p l =>
        have : p = List.range (sl T) := by
          have h : some p = some (List.range (sl T)) := hd
          cases h
          rfl
        rw [← this]
        exact sm_blt (List.all_eq_true.mp hdg p (List.mem_cons_self ..))
    · generalize lvs (sl T) (sl T) [] = l at hd hdg
      cases l with
      | nil => cases hd
      | cons p l =>
        have : p = List.range (sl T) := by
          have h : some p = some (List.range (sl T)) := hd
          cases h
          rfl
        rw [← this]
        exact fold_cst l
    · intro p _
      refine ⟨hpc, fun d' x' g L' hg hrow => ?_⟩
      obtain ⟨g', q1, q2⟩ := n2 d' x' g L' hg (fun m hm => by
        rw [hrow m hm]
        congr 1
        exact rmB_congr hT (fun k hk => mk_eq hz))
      exact ⟨g', n0, by omega, rfl, q1, q2⟩
    · have eM : G2 V.1 14 = m1 := by rw [hS2.c.gmk, mi_0 hz]
      rw [m_61 hV, a0', aR_o, k_54, gd_tt, b1', aV_o, eM, if_pos (by decide), c1', aR_o, k_63, gd_tt, e97', aI_o, e7', aI_o, gd_tt, c2.c.gsl, e83', aI_o, i3_mul, i3_add]
  · obtain ⟨M, hmk⟩ : ∃ M, mk T = M + 1 := ⟨mk T - 1, by omega⟩
    have hM : M ≤ 300 := by omega
    have eM : ∀ Y : sm_G, (∀ r k, r < 54 ∨ 108 < r → Y r k = G2 r k) → Y V.1 14 = i3 M := fun Y hY => by rw [hY _ _ (by omega), hS2.c.gmk, hmk, mi_succ]
    obtain ⟨G3, c1, c2, c3, c4⟩ := s_87 (d := d + 55) (x := x) (L := L) (V := V) (G := G2) (b := 84) (s := V.1) (Or.inr rfl) hs
    have f3 : ∀ r k, r < 84 ∨ 105 ≤ r → G3 r k = G2 r k := fun r k h => c2 r k (fun f hf => by omega) (by omega)
    have hS3 := hS2.keep (G' := G3) (fun r k a => f3 r k (by unfold sc at a; omega))
    have hok3 : hOk G3 T (H c) K := fun m hm => by
      rw [f3 _ _ (by omega), f3 _ _ (by omega), f3 _ _ (by omega)]
      exact hok2 m hm
    obtain ⟨Gp, p1, p2, p3⟩ := s_pre (d := d + 51) (x := x) (L := L) hS3 hok3 hM (by rw [c3]; exact hS2.c.gfo) (fun f hf => by
      have := c4 f hf
      rw [show 84 + 5 + 4 * f = 89 + 4 * f by omega] at this
      exact this) hmo
    obtain ⟨Gs, q1, q2, q3, q4⟩ := s_99 (d := d + 55) (x := x) (V := V) (G := Gp) (L := L) (b := 84) (Or.inr rfl) (fun f hf => by
      rw [show 84 + 5 + 4 * f = 89 + 4 * f by omega]
      exact p3.1 f hf)
    have hcp : ∀ f, f < 4 → cpy Gs Gp (91 + 4 * f) (89 + 4 * f) := fun f hf => by
      have := q4 f hf
      rw [show 84 + 7 + 4 * f = 91 + 4 * f by omega, show 84 + 5 + 4 * f = 89 + 4 * f by omega] at this
      exact this
    have fs : ∀ r k, r < 84 ∨ 105 ≤ r → Gs r k = G2 r k := fun r k h => by rw [q2 r k (fun f hf => by omega) (by omega), p2 r k (by omega)]; exact f3 r k h
    have hSs := hS2.keep (G' := Gs) (fun r k a => fs r k (by unfold sc at a; omega))
    have hoks : hOk Gs T (H c) K := fun m hm => by
      rw [fs _ _ (by omega), fs _ _ (by omega), fs _ _ (by omega)]
      exact hok2 m hm
    have one : ∀ o, okO (sl T) o = true → ∃ N, N ≤ 4 ∧ cN V Gs o N ∧ lfN V T (H c) K W (o.take (sl T)) N := by
      intro o ho
      by_cases h0 : sl T = 0
      · have hd0 : dr T = 0 := by
          apply Nat.eq_zero_of_not_pos
          intro z
          have := (hT.gdm 0 z).1
          omega
        rw [hd0] at n1
        have hn0 : n0 = 0 := by omega
        refine ⟨0, by omega, fun d x X L hX hO => rl0 hSs hM hmk h0 (fun f hf => by rw [(hcp f hf).1 10 (by omega) (by omega)]; exact p3.1 f hf) hX hO, by omega, fun d' x' g L' hg hrow => ?_⟩
        obtain ⟨g', r1, r2⟩ := n2 d' x' g L' hg (fun m hm => by
          rw [hrow m hm]
          congr 1
          exact rmB_congr hT (fun k hk => by omega))
        exact ⟨g', n0, by omega, by rw [hn0]; rfl, r1, r2⟩
      · obtain ⟨N, r0, r1, r2⟩ := rl1 hSs hoks hM hmk h6 (by omega) p3 q3 hcp ho hmo
        exact ⟨N, r0, fun d x X L hX hO => r1 d x X L hX hO, r0, fun d' x' g L' hg hrow => r2 d' x' g L' hg hrow⟩
    have two : ∀ p : List Nat, ∃ N, (∃ o, okO (sl T) o = true ∧ o.take (sl T) = p) → lfN V T (H c) K W p N := by
      intro p
      by_cases h : ∃ o, okO (sl T) o = true ∧ o.take (sl T) = p
      · obtain ⟨o, h1, h2⟩ := h
        obtain ⟨N, _, _, h3⟩ := one o h1
        exact ⟨N, fun _ => by rw [← h2]; exact h3⟩
      · exact ⟨0, fun z => absurd z h⟩
    obtain ⟨N, hN⟩ := Classical.axiomOfChoice two
    have hens : ∀ q, q ∈ ens (sl T) 720 ids6 → okO (sl T) q = true := fun q hq => List.all_eq_true.mp (ens_ok (sl T) (by omega)) q hq
    have hlv : ∀ p, p ∈ lvs (sl T) (sl T) [] ↔ ∃ q, q ∈ ens (sl T) 720 ids6 ∧ q.take (sl T) = p := fun p => by
      rw [← ens_lvs (sl T) (by omega), List.mem_map]
    have hlf : ∀ p, p ∈ lvs (sl T) (sl T) [] → lfN V T (H c) K W p (N p) := fun p hp => by
      obtain ⟨q, h1, h2⟩ := (hlv p).mp hp
      exact hN p ⟨q, hens q h1, h2⟩
    obtain ⟨B, R, k1, k2, k3, k4⟩ := fold_all (N := N) (n := sl T) (by omega) (fun p hp => (hlf p hp).1)
    obtain ⟨G4, u1, u2⟩ := l_61 (d := d + 51) (x := x) (L := L) (Gs := Gs) (n := sl T) N hV hSs.c.gsl h6 720 0 5000000 ids6 Gs (by omega) (fun q hq => by
      have h1 := hens q hq
      have hp := (hlv (q.take (sl T))).mpr ⟨q, hq, rfl⟩
      obtain ⟨N', v1, v2, v3⟩ := one q h1
      have e := lf_u hT hP hmo v3 (hlf _ hp)
      exact ⟨sm_blt (List.all_eq_true.mp (lvs_dgs (sl T) (by omega)) _ hp), (hlf _ hp).1, by rw [← e]; exact v2⟩) (fun _ _ _ _ _ => rfl) ⟨b3.1, b3.2.1, fun k hk => by rw [fs _ _ (by omega)]; exact b3.2.2 k hk⟩ (by omega)
    rw [ens_lvs (sl T) (by omega), k4] at u1
    have f4 : ∀ r k, r ≠ 58 → r ≠ 60 → r < 84 ∨ 105 ≤ r → G4 r k = G2 r k := fun r k h1 h2 h3 => by rw [u2 r k h1 h2 (by omega)]; exact fs r k h3
    refine ⟨N, B, R, G4, k1, k2, k3, hlf, ?_, hS2.keep (fun r k a => f4 r k (by unfold sc at a; omega) (by unfold sc at a; omega) (by unfold sc at a; omega)), Or.inr ⟨by rw [f4 _ _ (by omega) (by omega) (by omega)]; exact h17', fun m hm => by rw [f4 _ _ (by omega) (by omega) (by omega), f4 _ _ (by omega) (by omega) (by omega), f4 _ _ (by omega) (by omega) (by omega)]; exact hok2 m hm⟩, hn2.keep hT (f4 _ _ (by omega) (by omega) (by omega)) (fun r k q1 q2 => f4 _ _ (by omega) (by omega) (by omega)), fun r k a => by rw [f4 _ _ (by omega) (by omega) (by omega)]; exact hs2 r k a⟩
    have c1' : sm_cv0 (d + 58) 87 342 (RR V) [.ref 84, .ref V.1] (x, G2, L) = oV x G3 L := c1
    have p1' : sm_cv0 (d + 58) 88 342 (RR V) [.ref 84, .ref V.1, .ref 5, .ref 54, .ref 56, .int (i3 0), .int (i3 0), .int (mi M)] (x, G3, L) = oV x Gp L := p1
    have q1' : sm_cv0 (d + 58) 99 342 (RR V) [.ref 84] (x, Gp, L) = oV x Gs L := q1
    rw [m_61 hV, a0', aR_o, k_54, gd_tt, b1', aV_o, eM G2 (fun _ _ _ => rfl), if_neg (by rw [i3_lt (by omega) (by omega)]; omega), c1', aV_o, gd_tt, q_54_1 V, eM G3 (fun r k y => f3 r k (by omega)), i3_pr, p1', aV_o, q1', aV_o, h_61_105]
    exact u1
