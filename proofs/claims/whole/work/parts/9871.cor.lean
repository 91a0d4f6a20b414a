/-! wills: steps and deeds, put together -/
theorem cor_nil {T W : pT} {h s p : Nat} : ∀ n, cor T W n h s s p p
  | 0 => ⟨rfl, rfl⟩
  | n + 1 => Or.inl ⟨rfl, rfl⟩
theorem cor_up {T W : pT} : ∀ (n h s e p q : Nat), cor T W n h s e p q → cor T W (n + 1) h s e p q
  | 0, h, s, e, p, q, c => by
    obtain ⟨rfl, rfl⟩ := c
    exact Or.inl ⟨rfl, rfl⟩
  | n + 1, h, s, e, p, q, c => by
    rcases c with c | ⟨c1, c2, c⟩
    · exact Or.inl c
    · refine Or.inr ⟨c1, c2, ?_⟩
      rcases c with ⟨a1, a2, a3, a4, a5, a6, a7⟩ | ⟨a1, a2, a3, a4, a5, a6, f, p2, b1, b2, b3, b4, b5, b6, b7, b8, b9, b10⟩ | ⟨a1, a2, a3, a4, f, p2, b1, b2, b3, b4, b5, b6, b7, b8, b9, b10⟩ | ⟨a1, a2, a3, a4, f, p2, b1, b2, b3, b4, b5, b6, b7⟩ | ⟨a1, a2, a3, a4, f, f2, p2, p3, b1, b2, b3, b4, b5, b6, b7, b8, b9, b10, b11, b12, b13⟩
      · exact Or.inl ⟨a1, a2, a3, a4, a5, a6, cor_up n _ _ _ _ _ a7⟩
      · exact Or.inr (Or.inl ⟨a1, a2, a3, a4, a5, a6, f, p2, b1, b2, cor_up n _ _ _ _ _ b3, b4, b5, b6, b7, b8, b9, cor_up n _ _ _ _ _ b10⟩)
      · exact Or.inr (Or.inr (Or.inl ⟨a1, a2, a3, a4, f, p2, b1, b2, cor_up n _ _ _ _ _ b3, b4, b5, b6, b7, b8, b9, cor_up n _ _ _ _ _ b10⟩))
      · exact Or.inr (Or.inr (Or.inr (Or.inl ⟨a1, a2, a3, a4, f, p2, b1, b2, cor_up n _ _ _ _ _ b3, b4, b5, b6, cor_up n _ _ _ _ _ b7⟩)))
      · exact Or.inr (Or.inr (Or.inr (Or.inr ⟨a1, a2, a3, a4, f, f2, p2, p3, b1, b2, cor_up n _ _ _ _ _ b3, b4, b5, b6, b7, b8, b9, b10, cor_up n _ _ _ _ _ b11, b12, cor_up n _ _ _ _ _ b13⟩)))
theorem cor_mono {T W : pT} {n h s e p q : Nat} (c : cor T W n h s e p q) : ∀ m, cor T W (n + m) h s e p q
  | 0 => c
  | m + 1 => cor_up _ _ _ _ _ _ (cor_mono c m)
theorem cor_app {T W : pT} {m h e' q' : Nat} : ∀ (n s e p q : Nat), cor T W n h s e p q → cor T W m h e e' q q' → cor T W (n + m) h s e' p q'
  | 0, s, e, p, q, c, c2 => by
    obtain ⟨rfl, rfl⟩ := c
    rw [Nat.zero_add]
    exact c2
  | n + 1, s, e, p, q, c, c2 => by
    obtain ⟨l1, l2⟩ := cor_le c2
    rw [show n + 1 + m = n + m + 1 by omega]
    rcases c with ⟨rfl, rfl⟩ | ⟨c1, c2', c⟩
    · have := cor_mono c2 (n + 1)
      rw [show m + (n + 1) = n + m + 1 by omega] at this
      exact this
    · refine Or.inr ⟨by omega, by omega, ?_⟩
      rcases c with ⟨a1, a2, a3, a4, a5, a6, a7⟩ | ⟨a1, a2, a3, a4, a5, a6, f, p2, b1, b2, b3, b4, b5, b6, b7, b8, b9, b10⟩ | ⟨a1, a2, a3, a4, f, p2, b1, b2, b3, b4, b5, b6, b7, b8, b9, b10⟩ | ⟨a1, a2, a3, a4, f, p2, b1, b2, b3, b4, b5, b6, b7⟩ | ⟨a1, a2, a3, a4, f, f2, p2, p3, b1, b2, b3, b4, b5, b6, b7, b8, b9, b10, b11, b12, b13⟩
      · exact Or.inl ⟨a1, a2, a3, a4, a5, a6, cor_app n _ _ _ _ a7 c2⟩
      · exact Or.inr (Or.inl ⟨a1, a2, a3, a4, a5, a6, f, p2, b1, b2, cor_mono b3 m, by omega, by omega, b6, b7, b8, b9, cor_app n _ _ _ _ b10 c2⟩)
      · exact Or.inr (Or.inr (Or.inl ⟨a1, a2, a3, a4, f, p2, b1, b2, cor_mono b3 m, by omega, by omega, b6, b7, b8, b9, cor_app n _ _ _ _ b10 c2⟩))
      · exact Or.inr (Or.inr (Or.inr (Or.inl ⟨a1, a2, a3, a4, f, p2, b1, b2, cor_mono b3 m, by omega, by omega, b6, cor_app n _ _ _ _ b7 c2⟩)))
      · exact Or.inr (Or.inr (Or.inr (Or.inr ⟨a1, a2, a3, a4, f, f2, p2, p3, b1, b2, cor_mono b3 m, by omega, by omega, by omega, b7, b8, b9, b10, cor_mono b11 m, by omega, cor_app n _ _ _ _ b13 c2⟩)))
theorem ask_congr {T W W' : pT} {s p : Nat} (a : ask T W s p) (h1 : wt2 W' (5 * s + 2) = wt2 W (5 * s + 2)) (h2 : wN W' p = wN W p) (h3 : wE W' p = wE W p) (h4 : ∀ i, i < 3 * wQ W → wT W' i = wT W i) (h5 : wQ W ≤ wQ W') : ask T W' s p := by
  obtain ⟨t, t1, t2, t3, t4, t5, t6, t7⟩ := a
  refine ⟨t, by omega, by rw [h1]; exact t2, ?_⟩
  rw [h4 (3 * t) (by omega), h4 (3 * t + 1) (by omega), h4 (3 * t + 2) (by omega), h2, h3]
  exact ⟨t3, t4, t5, t6, t7⟩
theorem cor_congr {T W W' : pT} (h4 : ∀ i, i < 3 * wQ W → wT W' i = wT W i) (h5 : wQ W ≤ wQ W') : ∀ (n h s e p q : Nat), cor T W n h s e p q → (∀ i, 5 * s ≤ i → i < 5 * e → wt2 W' i = wt2 W i) → (∀ i, p ≤ i → i < q → wD W' i = wD W i ∧ wN W' i = wN W i ∧ wG W' i = wG W i ∧ wE W' i = wE W i) → cor T W' n h s e p q
  | 0, h, s, e, p, q, c, _, _ => c
  | n + 1, h, s, e, p, q, c, k1, k2 => by
    rcases c with c | ⟨c1, c2, c⟩
    · exact Or.inl c
    · refine Or.inr ⟨c1, c2, ?_⟩
      obtain ⟨d1, d2, d3, d4⟩ := k2 p (Nat.le_refl p) c2
      have s0 := k1 (5 * s) (by omega) (by omega)
      have s1 := k1 (5 * s + 1) (by omega) (by omega)
      have s2 := k1 (5 * s + 2) (by omega) (by omega)
      have s3 := k1 (5 * s + 3) (by omega) (by omega)
      have s4 := k1 (5 * s + 4) (by omega) (by omega)
      rw [s0, s1, s3, s4, d1, d2, d3, d4]
      rcases c with ⟨a1, a2, a3, a4, a5, a6, a7⟩ | ⟨a1, a2, a3, a4, a5, a6, f, p2, b1, b2, b3, b4, b5, b6, b7, b8, b9, b10⟩ | ⟨a1, a2, a3, a4, f, p2, b1, b2, b3, b4, b5, b6, b7, b8, b9, b10⟩ | ⟨a1, a2, a3, a4, f, p2, b1, b2, b3, b4, b5, b6, b7⟩ | ⟨a1, a2, a3, a4, f, f2, p2, p3, b1, b2, b3, b4, b5, b6, b7, b8, b9, b10, b11, b12, b13⟩
      · exact Or.inl ⟨a1, a2, a3, a4, a5, a6, cor_congr h4 h5 n _ _ _ _ _ a7 (fun i i1 i2 => k1 i (by omega) i2) (fun i i1 i2 => k2 i (by omega) i2)⟩
      · obtain ⟨l1, l2⟩ := cor_le b3
        obtain ⟨e1, e2, e3, e4⟩ := k2 p2 (by omega) b4
        rw [← e1] at b6
        rw [← e3] at b7
        rw [← e4] at b8
        exact Or.inr (Or.inl ⟨a1, a2, a3, a4, a5, a6, f, p2, b1, b2, cor_congr h4 h5 n _ _ _ _ _ b3 (fun i i1 i2 => k1 i (by omega) (by omega)) (fun i i1 i2 => k2 i (by omega) (by omega)), b4, b5, b6, b7, b8, b9, cor_congr h4 h5 n _ _ _ _ _ b10 (fun i i1 i2 => k1 i (by omega) (by omega)) (fun i i1 i2 => k2 i (by omega) (by omega))⟩)
      · obtain ⟨l1, l2⟩ := cor_le b3
        obtain ⟨e1, e2, e3, e4⟩ := k2 p2 (by omega) b4
        rw [← e1] at b6
        rw [← e3] at b7
        rw [← e4] at b8
        exact Or.inr (Or.inr (Or.inl ⟨a1, a2, a3, ask_congr a4 s2 d2 d4 h4 h5, f, p2, b1, b2, cor_congr h4 h5 n _ _ _ _ _ b3 (fun i i1 i2 => k1 i (by omega) (by omega)) (fun i i1 i2 => k2 i (by omega) (by omega)), b4, b5, b6, b7, b8, b9, cor_congr h4 h5 n _ _ _ _ _ b10 (fun i i1 i2 => k1 i (by omega) (by omega)) (fun i i1 i2 => k2 i (by omega) (by omega))⟩))
      · obtain ⟨l1, l2⟩ := cor_le b3
        exact Or.inr (Or.inr (Or.inr (Or.inl ⟨a1, a2, a3, ask_congr a4 s2 d2 d4 h4 h5, f, p2, b1, b2, cor_congr h4 h5 n _ _ _ _ _ b3 (fun i i1 i2 => k1 i (by omega) (by omega)) (fun i i1 i2 => k2 i (by omega) (by omega)), b4, b5, b6, cor_congr h4 h5 n _ _ _ _ _ b7 (fun i i1 i2 => k1 i (by omega) (by omega)) (fun i i1 i2 => k2 i (by omega) (by omega))⟩)))
      · obtain ⟨l1, l2⟩ := cor_le b3
        obtain ⟨l3, l4⟩ := cor_le b11
        obtain ⟨e1, e2, e3, e4⟩ := k2 p2 (by omega) b4
        rw [← e1] at b7
        rw [← e4] at b8
        rw [← e3] at b9
        exact Or.inr (Or.inr (Or.inr (Or.inr ⟨a1, a2, a3, ask_congr a4 s2 d2 d4 h4 h5, f, f2, p2, p3, b1, b2, cor_congr h4 h5 n _ _ _ _ _ b3 (fun i i1 i2 => k1 i (by omega) (by omega)) (fun i i1 i2 => k2 i (by omega) (by omega)), b4, b5, b6, b7, b8, b9, b10, cor_congr h4 h5 n _ _ _ _ _ b11 (fun i i1 i2 => k1 i (by omega) (by omega)) (fun i i1 i2 => k2 i (by omega) (by omega)), b12, cor_congr h4 h5 n _ _ _ _ _ b13 (fun i i1 i2 => k1 i (by omega) (by omega)) (fun i i1 i2 => k2 i (by omega) (by omega))⟩)))
/-- a will as the stores hold it while it is read -/
def Wof (X g : sm_G) (w : Nat) : pT := fun r k => match r with
  | 0 => if k = 0 then (g 156 34).toNatClampNeg else if k = 1 then (X w 4).toNatClampNeg else (g 156 35).toNatClampNeg
  | 1 => (g 303 k).toNatClampNeg
  | 2 => (g 304 k).toNatClampNeg
  | 3 => (X (w + 1) k).toNatClampNeg
  | 4 => (X (w + 2) k).toNatClampNeg
  | 5 => (X (w + 3) k).toNatClampNeg
  | _ => (X (w + 4) k).toNatClampNeg
def nn1 (v : Int32) : Prop := ∃ k, k < 100000 ∧ v = i3 k
theorem nn1_i {k : Nat} (h : k < 100000) : nn1 (i3 k) := ⟨k, h, rfl⟩
theorem nn1_v {v : Int32} (h : nn1 v) : v = i3 v.toNatClampNeg ∧ v.toNatClampNeg < 100000 := by
  obtain ⟨k, hk, rfl⟩ := h
  rw [i3_cl (by omega)]
  exact ⟨rfl, hk⟩
def regC (X : sm_G) (w z z' : Nat) : Prop := ∀ i, z ≤ i → i < z' → nn1 (X (w + 1) i) ∧ nn1 (X (w + 2) i) ∧ nn1 (X (w + 3) i) ∧ nn1 (X (w + 4) i)
def regM (g : sm_G) (s s' q q' : Nat) : Prop := (∀ i, 5 * s ≤ i → i < 5 * s' → nn1 (g 303 i)) ∧ ∀ i, 3 * q ≤ i → i < 3 * q' → nn1 (g 304 i)
/-- what a piece of a will gives -/
def seg (X g : sm_G) (w : Nat) (T : pT) (h s s' z z' q q' : Nat) : Prop := regC X w z z' ∧ regM g s s' q q' ∧ s ≤ s' ∧ z ≤ z' ∧ q ≤ q' ∧ g 156 35 = i3 q' ∧ ∃ n, cor T (Wof X g w) n h s s' z z'
def cW2 (w z : Nat) (X X' : sm_G) : Prop := (∀ r k, ¬ (w ≤ r ∧ r < w + 5) → ¬ (r = 2 ∧ 3 ≤ k ∧ k ≤ 8) → X' r k = X r k) ∧ X' w 6 = X w 6 ∧ X' w 7 = X w 7 ∧ ∀ r i, w < r → r < w + 5 → i < z → X' r i = X r i
def mW2 (s q : Nat) (g g' : sm_G) : Prop := ∀ r k, ¬ (r = 156 ∧ ((4 ≤ k ∧ k ≤ 6) ∨ k = 8 ∨ k = 34 ∨ k = 35)) → ¬ (r = 303 ∧ 5 * s ≤ k) → ¬ (r = 304 ∧ 3 * q ≤ k) → g' r k = g r k
theorem cW2.tr {w z z2 : Nat} {X X1 X2 : sm_G} (h1 : cW2 w z X X1) (h2 : cW2 w z2 X1 X2) (hz : z ≤ z2) : cW2 w z X X2 :=
  ⟨fun r k a b => by rw [h2.1 r k a b]; exact h1.1 r k a b, by rw [h2.2.1]; exact h1.2.1, by rw [h2.2.2.1]; exact h1.2.2.1, fun r i a b c => by rw [h2.2.2.2 r i a b (by omega)]; exact h1.2.2.2 r i a b c⟩
theorem mW2.tr {s s2 q q2 : Nat} {g g1 g2 : sm_G} (h1 : mW2 s q g g1) (h2 : mW2 s2 q2 g1 g2) (hs : s ≤ s2) (hq : q ≤ q2) : mW2 s q g g2 := fun r k a b c => by
  rw [h2 r k a (by omega) (by omega)]
  exact h1 r k a b c
theorem tF.W {w z : Nat} {X X' : sm_G} (f : tF X X') (hw : 3 ≤ w) : cW2 w z X X' := ⟨fun r k _ b => f r k b, f _ _ (by omega), f _ _ (by omega), fun r i a b _ => f _ _ (by omega)⟩
theorem mF.W {s q : Nat} {g g' : sm_G} (f : mF g g') : mW2 s q g g' := fun r k a _ _ => f r k (by omega)
/-- the first piece is as it was -/
theorem seg.keep {X X' g g' : sm_G} {w : Nat} {T : pT} {h s s' z z' q q' q2 : Nat} (S : seg X g w T h s s' z z' q q') (fC : cW2 w z' X X') (fM : mW2 s' q' g g') (h2 : g' 156 35 = i3 q2) (hq : q' ≤ q2) (hq2 : q2 < 100000) : regC X' w z z' ∧ regM g' s s' q q' ∧ ∃ n, cor T (Wof X' g' w) n h s s' z z' := by
  obtain ⟨a1, a2, a3, a4, a5, a6, n, a7⟩ := S
  refine ⟨fun i i1 i2 => ?_, ⟨fun i i1 i2 => ?_, fun i i1 i2 => ?_⟩, n, cor_congr ?_ ?_ n h s s' z z' a7 ?_ ?_⟩
  · rw [fC.2.2.2 _ i (by omega) (by omega) i2, fC.2.2.2 _ i (by omega) (by omega) i2, fC.2.2.2 _ i (by omega) (by omega) i2, fC.2.2.2 _ i (by omega) (by omega) i2]
    exact a1 i i1 i2
  · rw [fM _ _ (by omega) (by omega) (by omega)]
    exact a2.1 i i1 i2
  · rw [fM _ _ (by omega) (by omega) (by omega)]
    exact a2.2 i i1 i2
  · intro i hi
    have hi : i < 3 * (g 156 35).toNatClampNeg := hi
    rw [a6, i3_cl (by omega)] at hi
    show (g' 304 i).toNatClampNeg = (g 304 i).toNatClampNeg
    rw [fM _ _ (by omega) (by omega) (by omega)]
  · show (g 156 35).toNatClampNeg ≤ (g' 156 35).toNatClampNeg
    rw [a6, h2, i3_cl (by omega), i3_cl (by omega)]
    exact hq
  · intro i i1 i2
    show (g' 303 i).toNatClampNeg = (g 303 i).toNatClampNeg
    rw [fM _ _ (by omega) (by omega) (by omega)]
  · intro i i1 i2
    show (X' (w + 1) i).toNatClampNeg = (X (w + 1) i).toNatClampNeg ∧ (X' (w + 2) i).toNatClampNeg = (X (w + 2) i).toNatClampNeg ∧ (X' (w + 3) i).toNatClampNeg = (X (w + 3) i).toNatClampNeg ∧ (X' (w + 4) i).toNatClampNeg = (X (w + 4) i).toNatClampNeg
    rw [fC.2.2.2 _ i (by omega) (by omega) i2, fC.2.2.2 _ i (by omega) (by omega) i2, fC.2.2.2 _ i (by omega) (by omega) i2, fC.2.2.2 _ i (by omega) (by omega) i2]
    exact ⟨rfl, rfl, rfl, rfl⟩
/-- two pieces, one behind the other -/
theorem seg.app {X X' g g' : sm_G} {w : Nat} {T : pT} {h s s' s2 z z' z2 q q' q2 : Nat} (S : seg X g w T h s s' z z' q q') (fC : cW2 w z' X X') (fM : mW2 s' q' g g') (S2 : seg X' g' w T h s' s2 z' z2 q' q2) (hq2 : q2 < 100000) : seg X' g' w T h s s2 z z2 q q2 := by
  obtain ⟨b1, b2, b3, b4, b5, b6, m, b7⟩ := S2
  obtain ⟨a1, a2, n, a3⟩ := S.keep fC fM b6 b5 hq2
  obtain ⟨_, _, c3, c4, c5, _⟩ := S
  refine ⟨fun i i1 i2 => ?_, ⟨fun i i1 i2 => ?_, fun i i1 i2 => ?_⟩, by omega, by omega, by omega, b6, n + m, cor_app n _ _ _ _ a3 b7⟩
  · by_cases y : i < z'
    · exact a1 i i1 y
    · exact b1 i (by omega) i2
  · by_cases y : i < 5 * s'
    · exact a2.1 i i1 y
    · exact b2.1 i (by omega) i2
  · by_cases y : i < 3 * q'
    · exact a2.2 i i1 y
    · exact b2.2 i (by omega) i2
theorem seg_nil {X g : sm_G} {w : Nat} {T : pT} {h s z q : Nat} (hq : g 156 35 = i3 q) : seg X g w T h s s z z q q := ⟨fun i a b => by omega, ⟨fun i a b => by omega, fun i a b => by omega⟩, Nat.le_refl _, Nat.le_refl _, Nat.le_refl _, hq, 0, cor_nil 0⟩
