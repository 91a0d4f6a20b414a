/-! what holds between calls -/
theorem pW_lt {w : Nat} (h : pW w) : (6 ≤ w ∧ w ≤ 21) ∨ w = 145 := by rcases h with rfl | rfl | rfl | rfl | rfl <;> omega
theorem pB_lt {w : Nat} (h : pB w) : 150 ≤ w ∧ w ≤ 153 := by rcases h with rfl | rfl <;> omega
def okV2 (V : pV) : Prop := okV V ∧ V.1 ≠ V.2.1 ∧ V.2.2.2.1 ≠ V.2.2.2.2.1 ∧ (∀ i, i < 4 → V.2.2.2.2.2 i ≠ V.2.2.1) ∧ ∀ i j, i < 4 → j < 4 → i ≠ j → V.2.2.2.2.2 i ≠ V.2.2.2.2.2 j
/-- the bytes fed -/
def ivT (G : sm_G) : Prop := ∃ n, n ≤ 600 ∧ G 2 1 = i3 n ∧ G 156 1 = i3 n ∧ ∀ k, k < n → ∃ b, b < 256 ∧ G 157 k = i3 b ∧ G 3 k = i2b (i3 b)
/-- refusals, the last fault's place -/
def ivR (G : sm_G) : Prop := (∀ k, k < 4 → G 4 k = G 158 k) ∧ G 1 16 = G 156 3
/-- a plan as the model keeps it, from o on -/
def snp (G : sm_G) (r o : Nat) (T P : pT) : Prop := G r o = i3 (nn P) ∧ (∀ i, i < nn P → G r (o + 1 + 2 * i) = i3 (nm P i) ∧ G r (o + 2 + 2 * i) = i3 (ns P i)) ∧ ∀ k, k < sl T → G r (o + 25 + 2 * k) = i3 (fr P k) ∧ G r (o + 26 + 2 * k) = i3 (un P k)
/-- the i-th change, as the class keeps it: P before it, Q behind it -/
def ent (G : sm_G) (p i : Nat) (T P Q : pT) : Prop :=
  (G (p + 5) i = i3 0 ∧ G (p + 6) i = i3 (nn P) ∧ nn Q = nn P + 1 ∧ (∀ j, j < nn P → nm Q j = nm P j ∧ ns Q j = ns P j) ∧ (∀ k, k < sl T → fr Q k = fr P k ∧ un Q k = un P k)) ∨
  (∃ q, q < nn P ∧ G (p + 5) i = i3 1 ∧ G (p + 6) i = i3 q ∧ G (p + 7) i = i3 (nm P q) ∧ G (p + 8) i = i3 (ns P q) ∧ nn Q + 1 = nn P ∧ (∀ j, j < q → nm Q j = nm P j ∧ ns Q j = ns P j) ∧ (∀ j, q ≤ j → j < nn Q → nm Q j = nm P (j + 1) ∧ ns Q j = ns P (j + 1)) ∧ (∀ k, k < sl T → fr Q k = fr P k ∧ un Q k = un P k)) ∨
  (∃ q, q < sl T ∧ G (p + 5) i = i3 2 ∧ G (p + 6) i = i3 q ∧ G (p + 7) i = i3 (fr P q) ∧ G (p + 8) i = i3 (un P q) ∧ nn Q = nn P ∧ (∀ j, j < nn P → nm Q j = nm P j ∧ ns Q j = ns P j) ∧ (∀ k, k < sl T → k ≠ q → fr Q k = fr P k ∧ un Q k = un P k))
/-- the changes of a plan that can be undone: H c is the plan now -/
def chn (G : sm_G) (p : Nat) (T : pT) (c : Nat) (H : Nat → pT) : Prop := c ≤ 20 ∧ G p 10 = i3 c ∧ (∀ i, i ≤ c → okP T (H i)) ∧ ∀ i, i < c → ent G p i T (H i) (H (i + 1))
def chM (G : sm_G) (T : pT) (c : Nat) (H : Nat → pT) : Prop := G 156 38 = i3 c ∧ ∀ i, i < c → snp G (283 + i) 0 T (H i)
/-- an image -/
def img (G : sm_G) (j : Nat) (T : pT) : Prop := ∃ (K c : Nat) (H : Nat → pT), K < 2 ^ sl T ∧ cP G (27 + 9 * j) T (H c) K ∧ chn G (27 + 9 * j) T c H ∧ snp G (279 + j) 0 T (H c) ∧ G (279 + j) 41 = i3 K ∧ G (279 + j) 42 = i3 c ∧ ∀ i, i < c → snp G (279 + j) (43 + 41 * i) T (H i)
def ivI (G : sm_G) (T : pT) : Prop := ∃ n, n ≤ 3 ∧ G 1 15 = i3 n ∧ G 156 39 = i3 n ∧ ∀ j, j < n → img G j T
/-- the book -/
def ivB (G : sm_G) (b : Nat) : Prop := ∃ n, n ≤ 12 ∧ G b 2 = i3 n ∧ G 156 36 = i3 n ∧ ∀ i, i < n → ∃ m s, m ≤ 300 ∧ s ≤ 1 ∧ G (b + 1) i = i3 m ∧ G (b + 2) i = i3 s ∧ G (253 + i) 1 = i3 m ∧ G (253 + i) 0 = i3 s
/-- a will: steps and tests as the model has them, deeds as the class has them -/
abbrev wS (W : pT) : Nat := W 0 0
abbrev wt2 (W : pT) (i : Nat) : Nat := W 1 i
abbrev wT (W : pT) (i : Nat) : Nat := W 2 i
abbrev wZ (W : pT) : Nat := W 0 1
abbrev wD (W : pT) (i : Nat) : Nat := W 3 i
abbrev wN (W : pT) (i : Nat) : Nat := W 4 i
abbrev wG (W : pT) (i : Nat) : Nat := W 5 i
abbrev wE (W : pT) (i : Nat) : Nat := W 6 i
/-- the number of tests -/
abbrev wQ (W : pT) : Nat := W 0 2
def cWl (G : sm_G) (w : Nat) (W : pT) : Prop := G w 4 = i3 (wZ W) ∧ G w 5 = i3 (wS W) ∧ ∀ i, i < wZ W → G (w + 1) i = i3 (wD W i) ∧ G (w + 2) i = i3 (wN W i) ∧ G (w + 3) i = i3 (wG W i) ∧ G (w + 4) i = i3 (wE W i)
def mWl (G : sm_G) (e : Nat) (W : pT) : Prop := G 241 e = i3 (wS W) ∧ (∀ i, i < 5 * wS W → G (243 + e) i = i3 (wt2 W i)) ∧ ∀ i, i < 3 * wQ W → G (248 + e) i = i3 (wT W i)
/-- step s of these is this question's deed -/
def ask (T W : pT) (s p : Nat) : Prop := ∃ t, t < wQ W ∧ wt2 W (5 * s + 2) = t ∧ wT W (3 * t) ≤ 4 ∧ wT W (3 * t + 2) ≤ 1 ∧ wN W p = wT W (3 * t + 1) ∧ wE W p = 2 * wT W (3 * t) + wT W (3 * t + 2) ∧ (if wT W (3 * t) = 1 then wT W (3 * t + 1) < dn T else if wT W (3 * t) = 3 then wT W (3 * t + 1) = 0 else if wT W (3 * t) = 4 then wT W (3 * t + 1) ≤ 300 else wT W (3 * t + 1) < sl T)
/-- steps s to e are the deeds p to q, h blocks stand round them -/
def cor (T W : pT) : Nat → Nat → Nat → Nat → Nat → Nat → Prop
  | 0, _, s, e, p, q => s = e ∧ p = q
  | n + 1, h, s, e, p, q => (s = e ∧ p = q) ∨ (s < e ∧ p < q ∧ (
      (wt2 W (5 * s) ≤ 2 ∧ wD W p = wt2 W (5 * s) ∧ wN W p = wt2 W (5 * s + 1) ∧ (wt2 W (5 * s) = 0 → wN W p < sl T) ∧ (wt2 W (5 * s) = 1 → 1 ≤ wN W p ∧ wN W p ≤ 99) ∧ (wt2 W (5 * s) = 2 → wN W p < 6) ∧ cor T W n h (s + 1) e (p + 1) q) ∨
      (wt2 W (5 * s) = 3 ∧ h < 6 ∧ wD W p = 3 ∧ wN W p = wt2 W (5 * s + 1) ∧ wN W p ≤ 20 ∧ wE W p = h ∧ ∃ f p2, wt2 W (5 * s + 3) = f ∧ wt2 W (5 * s + 4) = f ∧ cor T W n (h + 1) (s + 1) f (p + 1) p2 ∧ p2 < q ∧ f ≤ e ∧ wD W p2 = 4 ∧ wG W p2 = p + 1 ∧ wE W p2 = h ∧ wG W p = p2 + 1 ∧ cor T W n h f e (p2 + 1) q) ∨
      (wt2 W (5 * s) = 4 ∧ h < 6 ∧ wD W p = 5 ∧ ask T W s p ∧ ∃ f p2, wt2 W (5 * s + 3) = f ∧ wt2 W (5 * s + 4) = f ∧ cor T W n (h + 1) (s + 1) f (p + 1) p2 ∧ p2 < q ∧ f ≤ e ∧ wD W p2 = 7 ∧ wG W p2 = p ∧ wE W p2 = 0 ∧ wG W p = p2 + 1 ∧ cor T W n h f e (p2 + 1) q) ∨
      (wt2 W (5 * s) = 5 ∧ h < 6 ∧ wD W p = 6 ∧ ask T W s p ∧ ∃ f p2, wt2 W (5 * s + 3) = f ∧ wt2 W (5 * s + 4) = f ∧ cor T W n (h + 1) (s + 1) f (p + 1) p2 ∧ p2 ≤ q ∧ f ≤ e ∧ wG W p = p2 ∧ cor T W n h f e p2 q) ∨
      (wt2 W (5 * s) = 5 ∧ h < 6 ∧ wD W p = 6 ∧ ask T W s p ∧ ∃ f f2 p2 p3, wt2 W (5 * s + 3) = f ∧ wt2 W (5 * s + 4) = f2 ∧ cor T W n (h + 1) (s + 1) f (p + 1) p2 ∧ p2 < q ∧ f ≤ e ∧ f2 ≤ e ∧ wD W p2 = 7 ∧ wE W p2 = 0 ∧ wG W p2 = p3 ∧ wG W p = p2 + 1 ∧ cor T W n (h + 1) f f2 (p2 + 1) p3 ∧ p3 ≤ q ∧ cor T W n h f2 e p3 q)))
def okW (T W : pT) : Prop := wS W ≤ 37 ∧ wZ W ≤ 40 ∧ wQ W ≤ 80 ∧ ∃ n, cor T W n 0 0 (wS W) 0 (wZ W)
def ivW (G : sm_G) (V : pV) (T : pT) (W : Nat → pT) : Prop := ∀ e, e < 4 → okW T (W e) ∧ cWl G (V.2.2.2.2.2 e) (W e) ∧ mWl G e (W e)
/-- all that stands from call to call -/
def IvS (V : pV) (G : sm_G) (T : pT) (K c : Nat) (H W : Nat → pT) : Prop := okV2 V ∧ okT T ∧ okP T (H c) ∧ K < 2 ^ sl T ∧ cS G V.1 T ∧ cP G (V.1 + 1) T (H c) K ∧ mH G T (H c) K ∧ (∀ k, k < 8 → G 305 k = i3 k) ∧ ivT G ∧ ivR G ∧ chn G (V.1 + 1) T c H ∧ chM G T c H ∧ ivI G T ∧ ivB G V.2.2.2.1 ∧ ivW G V T W
/-- where calls that only ask write -/
def sc (r k : Nat) : Prop := (54 ≤ r ∧ r ≤ 108) ∨ (r = 1 ∧ (k = 17 ∨ k = 18)) ∨ (306 ≤ r ∧ r ≤ 341) ∨ (r = 156 ∧ (k = 0 ∨ k = 40 ∨ k = 41 ∨ 56 ≤ k)) ∨ (r = 2 ∧ 2 ≤ k)
theorem snp.keep {G G' : sm_G} {r o : Nat} {T P : pT} (h : snp G r o T P) (hs : ∀ k, G' r k = G r k) : snp G' r o T P := by
  obtain ⟨h1, h2, h3⟩ := h
  refine ⟨by rw [hs]; exact h1, fun i hi => by rw [hs, hs]; exact h2 i hi, fun k hk => by rw [hs, hs]; exact h3 k hk⟩
theorem ent.keep {G G' : sm_G} {p i : Nat} {T P Q : pT} (h : ent G p i T P Q) (hs : ∀ r k, p < r → r < p + 9 → G' r k = G r k) : ent G' p i T P Q := by
  unfold ent at h ⊢
  rw [hs (p + 5) i (by omega) (by omega), hs (p + 6) i (by omega) (by omega), hs (p + 7) i (by omega) (by omega), hs (p + 8) i (by omega) (by omega)]
  exact h
theorem chn.keep {G G' : sm_G} {p c : Nat} {T : pT} {H : Nat → pT} (h : chn G p T c H) (hs : ∀ r k, p ≤ r → r < p + 9 → G' r k = G r k) : chn G' p T c H := by
  obtain ⟨h1, h2, h3, h4⟩ := h
  exact ⟨h1, by rw [hs _ _ (by omega) (by omega)]; exact h2, h3, fun i hi => (h4 i hi).keep (fun r k a b => hs r k (by omega) b)⟩
theorem chM.keep {G G' : sm_G} {c : Nat} {T : pT} {H : Nat → pT} (h : chM G T c H) (h20 : c ≤ 20) (hs : ∀ r k, (r = 156 ∧ k = 38) ∨ (283 ≤ r ∧ r < 303) → G' r k = G r k) : chM G' T c H := by
  obtain ⟨h1, h2⟩ := h
  exact ⟨by rw [hs _ _ (Or.inl ⟨rfl, rfl⟩)]; exact h1, fun i hi => (h2 i hi).keep (fun k => hs _ _ (Or.inr (by omega)))⟩
theorem img.keep {G G' : sm_G} {j : Nat} {T : pT} (h : img G j T) (hj : j < 3) (hs : ∀ r k, (27 ≤ r ∧ r < 54) ∨ (279 ≤ r ∧ r < 282) → G' r k = G r k) : img G' j T := by
  obtain ⟨K, c, H, h1, h2, h3, h4, h5, h6, h7⟩ := h
  refine ⟨K, c, H, h1, h2.keep (fun r k a b => hs r k (by omega)), h3.keep (fun r k a b => hs r k (by omega)), h4.keep (fun k => hs _ _ (by omega)), by rw [hs _ _ (by omega)]; exact h5, by rw [hs _ _ (by omega)]; exact h6, fun i hi => (h7 i hi).keep (fun k => hs _ _ (by omega))⟩
theorem ivI.keep {G G' : sm_G} {T : pT} (h : ivI G T) (hs : ∀ r k, (r = 1 ∧ k = 15) ∨ (r = 156 ∧ k = 39) ∨ (27 ≤ r ∧ r < 54) ∨ (279 ≤ r ∧ r < 282) → G' r k = G r k) : ivI G' T := by
  obtain ⟨n, h1, h2, h3, h4⟩ := h
  exact ⟨n, h1, by rw [hs _ _ (by omega)]; exact h2, by rw [hs _ _ (by omega)]; exact h3, fun j hj => (h4 j hj).keep (by omega) (fun r k a => hs r k (by omega))⟩
theorem ivB.keep {G G' : sm_G} {b : Nat} (h : ivB G b) (hs : ∀ r k, (b ≤ r ∧ r < b + 3) ∨ (r = 156 ∧ k = 36) ∨ (253 ≤ r ∧ r < 265) → G' r k = G r k) : ivB G' b := by
  obtain ⟨n, h1, h2, h3, h4⟩ := h
  refine ⟨n, h1, by rw [hs _ _ (by omega)]; exact h2, by rw [hs _ _ (by omega)]; exact h3, fun j hj => ?_⟩
  obtain ⟨m, s, a1, a2, a3, a4, a5, a6⟩ := h4 j hj
  exact ⟨m, s, a1, a2, by rw [hs _ _ (by omega)]; exact a3, by rw [hs _ _ (by omega)]; exact a4, by rw [hs _ _ (by omega)]; exact a5, by rw [hs _ _ (by omega)]; exact a6⟩
theorem ivT.keep {G G' : sm_G} (h : ivT G) (hs : ∀ r k, (r = 2 ∧ k = 1) ∨ (r = 156 ∧ k = 1) ∨ r = 3 ∨ r = 157 → G' r k = G r k) : ivT G' := by
  obtain ⟨n, h1, h2, h3, h4⟩ := h
  refine ⟨n, h1, by rw [hs _ _ (by omega)]; exact h2, by rw [hs _ _ (by omega)]; exact h3, fun k hk => ?_⟩
  rw [hs 157 k (by omega), hs 3 k (by omega)]
  exact h4 k hk
theorem ivR.keep {G G' : sm_G} (h : ivR G) (hs : ∀ r k, (r = 1 ∧ k = 16) ∨ (r = 156 ∧ k = 3) ∨ r = 4 ∨ r = 158 → G' r k = G r k) : ivR G' := by
  obtain ⟨h1, h2⟩ := h
  exact ⟨fun k hk => by rw [hs 4 k (by omega), hs 158 k (by omega)]; exact h1 k hk, by rw [hs 1 16 (by omega), hs 156 3 (by omega)]; exact h2⟩
theorem cWl.keep {G G' : sm_G} {w : Nat} {W : pT} (h : cWl G w W) (hs : ∀ r k, w ≤ r → r < w + 5 → G' r k = G r k) : cWl G' w W := by
  obtain ⟨h1, h2, h3⟩ := h
  refine ⟨by rw [hs _ _ (by omega) (by omega)]; exact h1, by rw [hs _ _ (by omega) (by omega)]; exact h2, fun i hi => ?_⟩
  rw [hs (w + 1) i (by omega) (by omega), hs (w + 2) i (by omega) (by omega), hs (w + 3) i (by omega) (by omega), hs (w + 4) i (by omega) (by omega)]
  exact h3 i hi
theorem mWl.keep {G G' : sm_G} {e : Nat} {W : pT} (h : mWl G e W) (he : e < 4) (hs : ∀ r k, r = 241 ∨ (243 ≤ r ∧ r < 247) ∨ (248 ≤ r ∧ r < 252) → G' r k = G r k) : mWl G' e W := by
  obtain ⟨h1, h2, h3⟩ := h
  exact ⟨by rw [hs _ _ (by omega)]; exact h1, fun i hi => by rw [hs _ _ (by omega)]; exact h2 i hi, fun i hi => by rw [hs _ _ (by omega)]; exact h3 i hi⟩
theorem ivW.keep {G G' : sm_G} {V : pV} {T : pT} {W : Nat → pT} (h : ivW G V T W) (hV : okV V) (hs : ∀ r k, (6 ≤ r ∧ r < 26) ∨ (145 ≤ r ∧ r < 150) ∨ r = 241 ∨ (243 ≤ r ∧ r < 247) ∨ (248 ≤ r ∧ r < 252) → G' r k = G r k) : ivW G' V T W := by
  intro e he
  obtain ⟨h1, h2, h3⟩ := h e he
  have hw := pW_lt (hV.2.2.2.2.2 e he)
  exact ⟨h1, h2.keep (fun r k a b => hs r k (by omega)), h3.keep he (fun r k a => hs r k (by omega))⟩
theorem IvS.keep {V : pV} {G G' : sm_G} {T : pT} {K c : Nat} {H W : Nat → pT} (h : IvS V G T K c H W) (hs : ∀ r k, ¬ sc r k → G' r k = G r k) : IvS V G' T K c H W := by
  obtain ⟨h1, h2, h3, h4, h5, h6, h7, h8, h9, h10, h11, h12, h13, h14, h15⟩ := h
  have hs1 := pS_lt h1.1.1
  have hb := pB_lt h1.1.2.2.2.1
  unfold sc at hs
  refine ⟨h1, h2, h3, h4, h5.keep (fun r k a => hs r k (by unfold inC at a; omega)), h6.keep (fun r k a b => hs r k (by omega)), h7.keep h2 h3 (fun r k a => hs r k (by unfold inM at a; omega)), fun k hk => by rw [hs _ _ (by omega)]; exact h8 k hk, h9.keep (fun r k a => hs r k (by omega)), h10.keep (fun r k a => hs r k (by omega)), h11.keep (fun r k a b => hs r k (by omega)), h12.keep h11.1 (fun r k a => hs r k (by omega)), h13.keep (fun r k a => hs r k (by omega)), h14.keep (fun r k a => hs r k (by omega)), h15.keep h1.1 (fun r k a => hs r k (by omega))⟩
/-! the night, held ready -/
def lostB (G : sm_G) (b n : Nat) : Nat := bs (fun e => decide (G (b + 5 + 4 * e) 2 ≠ m1)) n
/-- places by fours of bits -/
def pk (f : Nat → Nat) : Nat → Nat
  | 0 => 0
  | n + 1 => pk f n ||| f n <<< (4 * n)
def nIn (G : sm_G) (T P : pT) (K : Nat) (W : Nat → pT) : Prop := mH G T P K ∧ (∀ k, k < 8 → G 305 k = i3 k) ∧ ∀ e, e < 4 → mWl G e (W e)
def nFr (G G' : sm_G) : Prop := ∀ r k, ¬ (306 ≤ r ∧ r ≤ 330) → ¬ (r = 156 ∧ (k = 41 ∨ k = 56 ∨ k = 57)) → G' r k = G r k
/-- what the class has of a night at b, and the model -/
def nMat (G G' : sm_G) (b : Nat) (T : pT) : Prop := (∀ e, e < dr T → G (b + 5 + 4 * e) 2 = G' (315 + e) 0 ∧ G (b + 5 + 4 * e) 3 = G' (315 + e) 1 ∧ G (b + 5 + 4 * e) 4 = G' (315 + e) 2 ∧ G (b + 5 + 4 * e) 5 = G' (315 + e) 3 ∧ G (b + 5 + 4 * e) 6 = G' (315 + e) 4 ∧ G (b + 5 + 4 * e) 10 = G' (315 + e) 5 ∧ (G' (315 + e) 5 = i3 0 ∨ G' (315 + e) 5 = i3 1)) ∧
  ∀ m, m < 301 → (∃ o, o < 1024 ∧ G (b + 4) m = i3 o ∧ G' 324 m = i3 o) ∧ ∃ pl : Nat → Nat, G (b + 3) m = i3 (pk pl (dr T)) ∧ ∀ e, e < dr T → pl e ≤ 8 ∧ G' (310 + e) m = mi (pl e)
def nHr (G : sm_G) (T P : pT) (K : Nat) (W : Nat → pT) : Prop := G 1 18 = i3 1 ∨ (G 1 18 = i3 0 ∧ ∀ (d x : Nat) (V : pV) (g : sm_G) (L : sm_L), nIn g T P K W → ∃ g', sm_cv0 (d + 40) 263 342 (RR V) [.ref 156] (x, g, L) = oI (i3 (lostB G 63 (dr T))) x g' L ∧ nFr g g' ∧ nMat G g' 63 T ∧ mW g' (tB T P K) (dat T P))
def Inv (V : pV) (G : sm_G) : Prop := ∃ (T : pT) (K c : Nat) (H W : Nat → pT), IvS V G T K c H W ∧ hHr G T (H c) K ∧ nHr G T (H c) K W
theorem nMat.keep {G G2 G' : sm_G} {b : Nat} {T : pT} (h : nMat G G' b T) (hT : okT T) (hs : ∀ r k, b ≤ r → r < b + 20 → G2 r k = G r k) : nMat G2 G' b T := by
  obtain ⟨h1, h2⟩ := h
  have hB := hT.gb
  refine ⟨fun e he => ?_, fun m hm => ?_⟩
  · rw [hs _ 2 (by omega) (by omega), hs _ 3 (by omega) (by omega), hs _ 4 (by omega) (by omega), hs _ 5 (by omega) (by omega), hs _ 6 (by omega) (by omega), hs _ 10 (by omega) (by omega)]
    exact h1 e he
  · rw [hs (b + 4) m (by omega) (by omega), hs (b + 3) m (by omega) (by omega)]
    exact h2 m hm
theorem lostB_keep {G G2 : sm_G} {b n : Nat} (hn : n ≤ 4) (hs : ∀ r k, b ≤ r → r < b + 20 → G2 r k = G r k) : lostB G2 b n = lostB G b n := by
  unfold lostB
  have key : ∀ j, j ≤ n → bs (fun e => decide (G2 (b + 5 + 4 * e) 2 ≠ m1)) j = bs (fun e => decide (G (b + 5 + 4 * e) 2 ≠ m1)) j := by
    intro j
    induction j with
    | zero => intro _; rfl
    | succ j ih =>
      intro hj
      show bs _ j ||| _ = bs _ j ||| _
      rw [ih (by omega)]
      have e2 := hs (b + 5 + 4 * j) 2 (by omega) (by omega)
      simp only [e2]
  exact key n (Nat.le_refl _)
theorem nHr.keep {G G' : sm_G} {T P : pT} {K : Nat} {W : Nat → pT} (h : nHr G T P K W) (hT : okT T) (h18 : G' 1 18 = G 1 18) (hs : ∀ r k, 63 ≤ r → r < 83 → G' r k = G r k) : nHr G' T P K W := by
  rcases h with h | ⟨h1, h2⟩
  · exact Or.inl (by rw [h18]; exact h)
  · refine Or.inr ⟨by rw [h18]; exact h1, fun d x V g L hg => ?_⟩
    obtain ⟨g', a1, a2, a3, a4⟩ := h2 d x V g L hg
    refine ⟨g', ?_, a2, a3.keep hT hs, a4⟩
    rw [lostB_keep hT.gb.2.2.2.1 hs]
    exact a1
theorem hHr.keep {G G' : sm_G} {T P : pT} {K : Nat} (h : hHr G T P K) (h17 : G' 1 17 = G 1 17) (hs : ∀ r k, 55 ≤ r → r < 58 → G' r k = G r k) : hHr G' T P K := by
  rcases h with h | ⟨h1, h2⟩
  · exact Or.inl (by rw [h17]; exact h)
  · refine Or.inr ⟨by rw [h17]; exact h1, fun m hm => ?_⟩
    rw [hs 55 m (by omega) (by omega), hs 56 m (by omega) (by omega), hs 57 m (by omega) (by omega)]
    exact h2 m hm
