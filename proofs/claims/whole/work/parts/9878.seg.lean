/-! wills: a step's piece -/
theorem seg.kq {X X' g g' : sm_G} {w : Nat} {T : pT} {h s s' z z' q q' q2 : Nat} (S : seg X g w T h s s' z z' q q') (kC : ∀ r i, w < r → r < w + 5 → z ≤ i → i < z' → X' r i = X r i) (kM : ∀ i, 5 * s ≤ i → i < 5 * s' → g' 303 i = g 303 i) (kT : ∀ i, i < 3 * q' → g' 304 i = g 304 i) (h2 : g' 156 35 = i3 q2) (hq : q' ≤ q2) (hq2 : q2 < 100000) : regC X' w z z' ∧ regM g' s s' q q' ∧ ∃ n, cor T (Wof X' g' w) n h s s' z z' := by
  obtain ⟨a1, a2, a3, a4, a5, a6, n, a7⟩ := S
  refine ⟨fun i i1 i2 => ?_, ⟨fun i i1 i2 => ?_, fun i i1 i2 => ?_⟩, n, cor_congr ?_ ?_ n h s s' z z' a7 ?_ ?_⟩
  · rw [kC _ i (by omega) (by omega) i1 i2, kC _ i (by omega) (by omega) i1 i2, kC _ i (by omega) (by omega) i1 i2, kC _ i (by omega) (by omega) i1 i2]
    exact a1 i i1 i2
  · rw [kM _ i1 i2]
    exact a2.1 i i1 i2
  · rw [kT _ i2]
    exact a2.2 i i1 i2
  · intro i hi
    have hi : i < 3 * (g 156 35).toNatClampNeg := hi
    rw [a6, i3_cl (by omega)] at hi
    show (g' 304 i).toNatClampNeg = (g 304 i).toNatClampNeg
    rw [kT _ hi]
  · show (g 156 35).toNatClampNeg ≤ (g' 156 35).toNatClampNeg
    rw [a6, h2, i3_cl (by omega), i3_cl (by omega)]
    exact hq
  · intro i i1 i2
    show (g' 303 i).toNatClampNeg = (g 303 i).toNatClampNeg
    rw [kM _ i1 i2]
  · intro i i1 i2
    show (X' (w + 1) i).toNatClampNeg = (X (w + 1) i).toNatClampNeg ∧ (X' (w + 2) i).toNatClampNeg = (X (w + 2) i).toNatClampNeg ∧ (X' (w + 3) i).toNatClampNeg = (X (w + 3) i).toNatClampNeg ∧ (X' (w + 4) i).toNatClampNeg = (X (w + 4) i).toNatClampNeg
    rw [kC _ i (by omega) (by omega) i1 i2, kC _ i (by omega) (by omega) i1 i2, kC _ i (by omega) (by omega) i1 i2, kC _ i (by omega) (by omega) i1 i2]
    exact ⟨rfl, rfl, rfl, rfl⟩
theorem seg.kp {X X' g g' : sm_G} {w : Nat} {T : pT} {h s s' z z' q q' : Nat} (S : seg X g w T h s s' z z' q q') (kC : ∀ r i, w < r → r < w + 5 → z ≤ i → i < z' → X' r i = X r i) (kM : ∀ i, 5 * s ≤ i → i < 5 * s' → g' 303 i = g 303 i) (kT : ∀ i, i < 3 * q' → g' 304 i = g 304 i) (h2 : g' 156 35 = i3 q') (hq2 : q' < 100000) : seg X' g' w T h s s' z z' q q' := by
  obtain ⟨b1, b2, b3⟩ := S.kq kC kM kT h2 (Nat.le_refl _) hq2
  exact ⟨b1, b2, S.2.2.1, S.2.2.2.1, S.2.2.2.2.1, h2, b3⟩
theorem cW2.dn {w z z2 : Nat} {X X' : sm_G} (h : cW2 w z2 X X') (hz : z ≤ z2) : cW2 w z X X' := ⟨h.1, h.2.1, h.2.2.1, fun r i a b c => h.2.2.2 r i a b (by omega)⟩
theorem cW2.tr0 {w z : Nat} {X X1 X2 : sm_G} (h1 : cW2 w z X X1) (h2 : cW2 w z X1 X2) : cW2 w z X X2 := h1.tr h2 (Nat.le_refl _)
/-- a deed's row, a step's row, a question's row -/
def dRow (X : sm_G) (w p d v t e : Nat) : Prop := X (w + 1) p = i3 d ∧ X (w + 2) p = i3 v ∧ X (w + 3) p = i3 t ∧ X (w + 4) p = i3 e
def sRow (g : sm_G) (s a b c d e : Nat) : Prop := g 303 (5 * s) = i3 a ∧ g 303 (5 * s + 1) = i3 b ∧ g 303 (5 * s + 2) = i3 c ∧ g 303 (5 * s + 3) = i3 d ∧ g 303 (5 * s + 4) = i3 e
def aRow (g : sm_G) (T : pT) (Q kind num neg : Nat) : Prop := kind ≤ 4 ∧ neg ≤ 1 ∧ num < 1000 ∧ g 304 (3 * Q) = i3 kind ∧ g 304 (3 * Q + 1) = i3 num ∧ g 304 (3 * Q + 2) = i3 neg ∧ (if kind = 1 then num < dn T else if kind = 3 then num = 0 else if kind = 4 then num ≤ 300 else num < sl T)
theorem dRow.W {X g : sm_G} {w p d v t e : Nat} (h : dRow X w p d v t e) (b : d < 1000 ∧ v < 1000 ∧ t < 1000 ∧ e < 1000) : wD (Wof X g w) p = d ∧ wN (Wof X g w) p = v ∧ wG (Wof X g w) p = t ∧ wE (Wof X g w) p = e := by
  obtain ⟨h1, h2, h3, h4⟩ := h
  show (X (w + 1) p).toNatClampNeg = d ∧ (X (w + 2) p).toNatClampNeg = v ∧ (X (w + 3) p).toNatClampNeg = t ∧ (X (w + 4) p).toNatClampNeg = e
  rw [h1, h2, h3, h4, i3_cl (by omega), i3_cl (by omega), i3_cl (by omega), i3_cl (by omega)]
  exact ⟨rfl, rfl, rfl, rfl⟩
theorem dRow.n {X : sm_G} {w p d v t e : Nat} (h : dRow X w p d v t e) (b : d < 1000 ∧ v < 1000 ∧ t < 1000 ∧ e < 1000) : nn1 (X (w + 1) p) ∧ nn1 (X (w + 2) p) ∧ nn1 (X (w + 3) p) ∧ nn1 (X (w + 4) p) := by
  obtain ⟨h1, h2, h3, h4⟩ := h
  rw [h1, h2, h3, h4]
  exact ⟨nn1_i (by omega), nn1_i (by omega), nn1_i (by omega), nn1_i (by omega)⟩
theorem sRow.W {X g : sm_G} {w s a b c d e : Nat} (h : sRow g s a b c d e) (k : a < 1000 ∧ b < 1000 ∧ c < 1000 ∧ d < 1000 ∧ e < 1000) : wt2 (Wof X g w) (5 * s) = a ∧ wt2 (Wof X g w) (5 * s + 1) = b ∧ wt2 (Wof X g w) (5 * s + 2) = c ∧ wt2 (Wof X g w) (5 * s + 3) = d ∧ wt2 (Wof X g w) (5 * s + 4) = e := by
  obtain ⟨h1, h2, h3, h4, h5⟩ := h
  show (g 303 (5 * s)).toNatClampNeg = a ∧ (g 303 (5 * s + 1)).toNatClampNeg = b ∧ (g 303 (5 * s + 2)).toNatClampNeg = c ∧ (g 303 (5 * s + 3)).toNatClampNeg = d ∧ (g 303 (5 * s + 4)).toNatClampNeg = e
  rw [h1, h2, h3, h4, h5, i3_cl (by omega), i3_cl (by omega), i3_cl (by omega), i3_cl (by omega), i3_cl (by omega)]
  exact ⟨rfl, rfl, rfl, rfl, rfl⟩
theorem sRow.n {g : sm_G} {s a b c d e : Nat} (h : sRow g s a b c d e) (k : a < 1000 ∧ b < 1000 ∧ c < 1000 ∧ d < 1000 ∧ e < 1000) : ∀ i, 5 * s ≤ i → i < 5 * s + 5 → nn1 (g 303 i) := by
  obtain ⟨h1, h2, h3, h4, h5⟩ := h
  intro i i1 i2
  have : i = 5 * s ∨ i = 5 * s + 1 ∨ i = 5 * s + 2 ∨ i = 5 * s + 3 ∨ i = 5 * s + 4 := by omega
  rcases this with rfl | rfl | rfl | rfl | rfl
  · rw [h1]; exact nn1_i (by omega)
  · rw [h2]; exact nn1_i (by omega)
  · rw [h3]; exact nn1_i (by omega)
  · rw [h4]; exact nn1_i (by omega)
  · rw [h5]; exact nn1_i (by omega)
theorem aRow.n {g : sm_G} {T : pT} {Q kind num neg : Nat} (h : aRow g T Q kind num neg) : ∀ i, 3 * Q ≤ i → i < 3 * Q + 3 → nn1 (g 304 i) := by
  obtain ⟨b1, b2, b3, h1, h2, h3, _⟩ := h
  intro i i1 i2
  have : i = 3 * Q ∨ i = 3 * Q + 1 ∨ i = 3 * Q + 2 := by omega
  rcases this with rfl | rfl | rfl
  · rw [h1]; exact nn1_i (by omega)
  · rw [h2]; exact nn1_i (by omega)
  · rw [h3]; exact nn1_i (by omega)
theorem aRow.ask {X g : sm_G} {T : pT} {w s p Q Q' kind num neg d t a b e f : Nat} (h : aRow g T Q kind num neg) (hd : dRow X w p d num t (2 * kind + neg)) (hs : sRow g s a b Q e f) (h35 : g 156 35 = i3 Q') (hQ : Q < Q') (hQ' : Q' < 1000) (k : d < 1000 ∧ t < 1000 ∧ a < 1000 ∧ b < 1000 ∧ e < 1000 ∧ f < 1000) : ask T (Wof X g w) s p := by
  obtain ⟨b1, b2, b3, h1, h2, h3, h4⟩ := h
  obtain ⟨d1, d2, d3, d4⟩ := hd.W (g := g) (by omega)
  obtain ⟨s1, s2, s3, s4, s5⟩ := hs.W (X := X) (w := w) (by omega)
  have t0 : wT (Wof X g w) (3 * Q) = kind := by
    show (g 304 (3 * Q)).toNatClampNeg = kind
    rw [h1, i3_cl (by omega)]
  have t1 : wT (Wof X g w) (3 * Q + 1) = num := by
    show (g 304 (3 * Q + 1)).toNatClampNeg = num
    rw [h2, i3_cl (by omega)]
  have t2 : wT (Wof X g w) (3 * Q + 2) = neg := by
    show (g 304 (3 * Q + 2)).toNatClampNeg = neg
    rw [h3, i3_cl (by omega)]
  refine ⟨Q, ?_, s3, ?_⟩
  · show Q < (g 156 35).toNatClampNeg
    rw [h35, i3_cl (by omega)]
    exact hQ
  · rw [t0, t1, t2, d2, d4]
    exact ⟨b1, b2, rfl, rfl, h4⟩
theorem seg_0 {X g : sm_G} {w : Nat} {T : pT} {h s z Q k v : Nat} (hd : dRow X w z k v 0 0) (hs : sRow g s k v Q (s + 1) (s + 1)) (h35 : g 156 35 = i3 Q) (hk : k ≤ 2) (hv0 : k = 0 → v < sl T) (hv1 : k = 1 → 1 ≤ v ∧ v ≤ 99) (hv2 : k = 2 → v < 6) (b : v < 500 ∧ s < 500 ∧ Q < 500) : seg X g w T h s (s + 1) z (z + 1) Q Q := by
  obtain ⟨d1, d2, d3, d4⟩ := hd.W (g := g) (by omega)
  obtain ⟨s1, s2, s3, s4, s5⟩ := hs.W (X := X) (w := w) (by omega)
  refine ⟨fun i i1 i2 => ?_, ⟨fun i i1 i2 => hs.n (by omega) i i1 (by omega), fun i i1 i2 => by omega⟩, by omega, by omega, Nat.le_refl _, h35, 0 + 1, Or.inr ⟨by omega, by omega, Or.inl ?_⟩⟩
  · rw [show i = z by omega]
    exact hd.n (by omega)
  · rw [s1, s2, d1, d2]
    exact ⟨hk, rfl, rfl, hv0, hv1, hv2, cor_nil 0⟩
theorem seg_3 {X g : sm_G} {w : Nat} {T : pT} {h s f z p2 Q Q' v : Nat} (S : seg X g w T (h + 1) (s + 1) f (z + 1) p2 Q Q') (hd : dRow X w z 3 v (p2 + 1) h) (he : dRow X w p2 4 0 (z + 1) h) (hs : sRow g s 3 v Q f f) (hh : h < 6) (hv : v ≤ 20) (b : f < 500 ∧ p2 < 500 ∧ Q < 500) : seg X g w T h s f z (p2 + 1) Q Q' := by
  obtain ⟨c1, c2, c3, c4, c5, c6, n, c7⟩ := S
  obtain ⟨d1, d2, d3, d4⟩ := hd.W (g := g) (by omega)
  obtain ⟨e1, e2, e3, e4⟩ := he.W (g := g) (by omega)
  obtain ⟨s1, s2, s3, s4, s5⟩ := hs.W (X := X) (w := w) (by omega)
  refine ⟨fun i i1 i2 => ?_, ⟨fun i i1 i2 => ?_, c2.2⟩, by omega, by omega, c5, c6, n + 1, Or.inr ⟨by omega, by omega, Or.inr (Or.inl ?_)⟩⟩
  · by_cases y : i = z
    · rw [y]; exact hd.n (by omega)
    by_cases y2 : i = p2
    · rw [y2]; exact he.n (by omega)
    exact c1 i (by omega) (by omega)
  · by_cases y : i < 5 * s + 5
    · exact hs.n (by omega) i i1 y
    · exact c2.1 i (by omega) i2
  · rw [s1, s2, s4, s5, d1, d2, d3, d4]
    exact ⟨rfl, hh, rfl, rfl, hv, rfl, f, p2, rfl, rfl, c7, by omega, Nat.le_refl _, e1, e3, e4, rfl, cor_nil n⟩
theorem seg_4 {X g : sm_G} {w : Nat} {T : pT} {h s f z p2 Q Q' kind num neg : Nat} (S : seg X g w T (h + 1) (s + 1) f (z + 1) p2 (Q + 1) Q') (hd : dRow X w z 5 num (p2 + 1) (2 * kind + neg)) (he : dRow X w p2 7 0 z 0) (hs : sRow g s 4 0 Q f f) (ha : aRow g T Q kind num neg) (hh : h < 6) (b : f < 500 ∧ p2 < 500 ∧ Q' < 500) : seg X g w T h s f z (p2 + 1) Q Q' := by
  obtain ⟨c1, c2, c3, c4, c5, c6, n, c7⟩ := S
  have hb := ha
  obtain ⟨b1, b2, b3, _⟩ := hb
  have hk := ha.ask hd hs c6 (by omega) (by omega) (by omega)
  obtain ⟨d1, d2, d3, d4⟩ := hd.W (g := g) (by omega)
  obtain ⟨e1, e2, e3, e4⟩ := he.W (g := g) (by omega)
  obtain ⟨s1, s2, s3, s4, s5⟩ := hs.W (X := X) (w := w) (by omega)
  refine ⟨fun i i1 i2 => ?_, ⟨fun i i1 i2 => ?_, fun i i1 i2 => ?_⟩, by omega, by omega, by omega, c6, n + 1, Or.inr ⟨by omega, by omega, Or.inr (Or.inr (Or.inl ?_))⟩⟩
  · by_cases y : i = z
    · rw [y]; exact hd.n (by omega)
    by_cases y2 : i = p2
    · rw [y2]; exact he.n (by omega)
    exact c1 i (by omega) (by omega)
  · by_cases y : i < 5 * s + 5
    · exact hs.n (by omega) i i1 y
    · exact c2.1 i (by omega) i2
  · by_cases y : i < 3 * Q + 3
    · exact ha.n i i1 y
    · exact c2.2 i (by omega) i2
  · rw [s1, s4, s5, d1, d3]
    exact ⟨rfl, hh, rfl, hk, f, p2, rfl, rfl, c7, by omega, Nat.le_refl _, e1, e3, e4, rfl, cor_nil n⟩
theorem seg_5 {X g : sm_G} {w : Nat} {T : pT} {h s f z p2 Q Q' kind num neg : Nat} (S : seg X g w T (h + 1) (s + 1) f (z + 1) p2 (Q + 1) Q') (hd : dRow X w z 6 num p2 (2 * kind + neg)) (hs : sRow g s 5 0 Q f f) (ha : aRow g T Q kind num neg) (hh : h < 6) (b : f < 500 ∧ p2 < 500 ∧ Q' < 500) : seg X g w T h s f z p2 Q Q' := by
  obtain ⟨c1, c2, c3, c4, c5, c6, n, c7⟩ := S
  have hb := ha
  obtain ⟨b1, b2, b3, _⟩ := hb
  have hk := ha.ask hd hs c6 (by omega) (by omega) (by omega)
  obtain ⟨d1, d2, d3, d4⟩ := hd.W (g := g) (by omega)
  obtain ⟨s1, s2, s3, s4, s5⟩ := hs.W (X := X) (w := w) (by omega)
  refine ⟨fun i i1 i2 => ?_, ⟨fun i i1 i2 => ?_, fun i i1 i2 => ?_⟩, by omega, by omega, by omega, c6, n + 1, Or.inr ⟨by omega, by omega, Or.inr (Or.inr (Or.inr (Or.inl ?_)))⟩⟩
  · by_cases y : i = z
    · rw [y]; exact hd.n (by omega)
    exact c1 i (by omega) (by omega)
  · by_cases y : i < 5 * s + 5
    · exact hs.n (by omega) i i1 y
    · exact c2.1 i (by omega) i2
  · by_cases y : i < 3 * Q + 3
    · exact ha.n i i1 y
    · exact c2.2 i (by omega) i2
  · rw [s1, s4, s5, d1, d3]
    exact ⟨rfl, hh, rfl, hk, f, p2, rfl, rfl, c7, Nat.le_refl _, Nat.le_refl _, rfl, cor_nil n⟩
theorem seg_6 {X g : sm_G} {w : Nat} {T : pT} {h s f f2 z p2 p3 Q Q1 Q' kind num neg : Nat} (S1 : regC X w (z + 1) p2 ∧ regM g (s + 1) f (Q + 1) Q1 ∧ ∃ n, cor T (Wof X g w) n (h + 1) (s + 1) f (z + 1) p2) (l1 : s + 1 ≤ f ∧ z + 1 ≤ p2 ∧ Q + 1 ≤ Q1) (S : seg X g w T (h + 1) f f2 (p2 + 1) p3 Q1 Q') (hd : dRow X w z 6 num (p2 + 1) (2 * kind + neg)) (he : dRow X w p2 7 0 p3 0) (hs : sRow g s 5 0 Q f f2) (ha : aRow g T Q kind num neg) (hh : h < 6) (b : f2 < 500 ∧ p3 < 500 ∧ Q' < 500) : seg X g w T h s f2 z p3 Q Q' := by
  obtain ⟨a1, a2, m, a3⟩ := S1
  obtain ⟨c1, c2, c3, c4, c5, c6, n, c7⟩ := S
  have hb := ha
  obtain ⟨b1, b2, b3, _⟩ := hb
  have hk := ha.ask hd hs c6 (by omega) (by omega) (by omega)
  obtain ⟨d1, d2, d3, d4⟩ := hd.W (g := g) (by omega)
  obtain ⟨e1, e2, e3, e4⟩ := he.W (g := g) (by omega)
  obtain ⟨s1, s2, s3, s4, s5⟩ := hs.W (X := X) (w := w) (by omega)
  refine ⟨fun i i1 i2 => ?_, ⟨fun i i1 i2 => ?_, fun i i1 i2 => ?_⟩, by omega, by omega, by omega, c6, m + n + 1, Or.inr ⟨by omega, by omega, Or.inr (Or.inr (Or.inr (Or.inr ?_)))⟩⟩
  · by_cases y : i = z
    · rw [y]; exact hd.n (by omega)
    by_cases y2 : i = p2
    · rw [y2]; exact he.n (by omega)
    by_cases y3 : i < p2
    · exact a1 i (by omega) y3
    · exact c1 i (by omega) (by omega)
  · by_cases y : i < 5 * s + 5
    · exact hs.n (by omega) i i1 y
    by_cases y3 : i < 5 * f
    · exact a2.1 i (by omega) y3
    · exact c2.1 i (by omega) i2
  · by_cases y : i < 3 * Q + 3
    · exact ha.n i i1 y
    by_cases y3 : i < 3 * Q1
    · exact a2.2 i (by omega) y3
    · exact c2.2 i (by omega) i2
  · rw [s1, s4, s5, d1, d3]
    have c8 := cor_mono c7 m
    rw [show n + m = m + n by omega] at c8
    exact ⟨rfl, hh, rfl, hk, f, f2, p2, p3, rfl, rfl, cor_mono a3 n, by omega, by omega, Nat.le_refl _, e1, e4, e3, rfl, c8, Nat.le_refl _, cor_nil _⟩
