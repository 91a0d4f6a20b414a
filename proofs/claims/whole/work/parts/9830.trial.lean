/-! a night tried -/
theorem s_21 {d x d' x' c : Nat} {V U : pV} {L L' : sm_L} {T : pT} {K : Nat} {H W : Nat → pT} {r4 ex : Nat} {tt t0 : Nat → Nat} {G g : sm_G} (hS : IvS V G T K c H W) (h17 : G 1 17 = i3 0) (hok : hOk G T (H c) K) (hg : nIn g T (H c) K W) (hr4 : r4 = 56 ∨ r4 = 58) (hrow : ∀ j, j < 301 → g 307 j = i3 (tt j) ∧ tt j < 1024 ∧ G r4 j = i3 (t0 j) ∧ t0 j ||| ex = tt j) :
    ∃ G' g' n, n < 16 ∧ sm_cv0 (d + 12) 21 342 (RR V) [.ref 1, .ref r4, .int (i3 ex)] (x, G, L) = oI (i3 n) x G' L ∧ sm_cv0 (d' + 7) 264 342 (RR U) [.ref 156] (x', g, L') = oI (i3 n) x' g' L' ∧ (∀ r k, ¬ (84 ≤ r ∧ r < 105) → G' r k = G r k) ∧ nFr2 g g' := by
  have hT := hS.T
  have hP := hS.P
  have hV := hS.V
  have hB := hT.gb
  have hs := hV1 hV
  have hsl := pS_lt hs
  obtain ⟨G2, g1, g2, g3, g4⟩ := s_87 (d := d + 8) (x := x) (L := L) (V := V) (G := G) (b := 84) (s := V.1) (Or.inr rfl) hs
  have fr : ∀ r k, ¬ (84 ≤ r ∧ r < 105) → G2 r k = G r k := fun r k a1 => g2 r k (fun f hf => by omega) (by omega)
  have hC : nCx V G2 g 84 V.1 T (H c) K W := ⟨hS.c.keep (fun r k q => by unfold inC at q; exact fr r k (by omega)), hg.1, fun e he => ⟨(hS.wl e he).1, (hS.wl e he).2.1.keep (fun r k q1 q2 => fr r k (by have := pW_lt (hV.2.2.2.2.2 e he); omega)), hg.2.2 e he⟩⟩
  have b4 : G2 84 4 = i3 (fo T) := by rw [g3]; exact hS.c.gfo
  have h57 : ∀ j, j < 301 → G2 57 j = i3 (dat T (H c) j) := fun j hj => by rw [fr _ _ (by omega)]; exact (hok j hj).2.2
  have kr : sm_is r4 342 20 = true := by rcases hr4 with rfl | rfl <;> decide +kernel
  have nr : sm_N r4 = 301 := by rcases hr4 with rfl | rfl <;> decide +kernel
  obtain ⟨G', g', m1', m2', m3', m4', m5'⟩ := play0 (d := d + 4) (x := x) (L := L) (V := V) (d' := d') (x' := x') (L' := L') (U := U) (r4 := r4) (ex := ex) (tt := tt) (t0 := t0) hV (Or.inr rfl) hs hT hP hC kr nr hr4 b4 g4 (fun j hj => ⟨(hrow j hj).1, (hrow j hj).2.1, by rw [fr _ _ (by omega)]; exact (hrow j hj).2.2.1, (hrow j hj).2.2.2⟩) h57
  have fr3 : ∀ r k, ¬ (84 ≤ r ∧ r < 105) → G' r k = G r k := fun r k a => by rw [m3' r k (by omega) (fun f hf => by omega) (by omega)]; exact fr r k a
  have e97 := s_97 (d := d + 10) (x := x) (V := V) (L := L) (G := G') (b := 84) (s := V.1) (Or.inr rfl) hs (by rw [fr3 _ _ (by omega)]; exact hS.c.gdr) hB.2.2.2.1
  have e15 : sm_cv0 (d + 11) 15 342 (RR V) [.ref 1] (x, G2, L) = oR 54 x G2 L := by
    rw [m_15, fr _ _ (by omega), h17, if_pos rfl]
    try rfl
  have hn : lostB G' 84 (dr T) < 16 := Nat.lt_of_lt_of_le (bs_lt _ _) (show 2 ^ dr T ≤ 2 ^ 4 from Nat.pow_le_pow_right (by decide) hB.2.2.2.1)
  refine ⟨G', g', lostB G' 84 (dr T), hn, ?_, m2', fr3, m4'⟩
  have e87 : sm_cv0 (d + 11) 87 342 (RR V) [.ref 84, .ref V.1] (x, G, L) = oV x G2 L := g1
  have e88 : sm_cv0 (d + 11) 88 342 (RR V) [.ref 84, .ref V.1, .ref 5, .ref 54, .ref r4, .int (i3 ex), .int (i3 0), .int (i3 300)] (x, G2, L) = oV x G' L := m1'
  have e97' : sm_cv0 (d + 11) 97 342 (RR V) [.ref 84, .ref V.1] (x, G', L) = oI (i3 (lostB G' 84 (dr T))) x G' L := e97
  rw [m_21, e87, aV_o, e15, aR_o, e88, aV_o, e97', aI_o]
