/-! a dreamer, as the class has him and as the model has him -/
def stkE (G g : sm_G) (T W : pT) (w e : Nat) : Nat → Nat → Nat → Prop
  | 0, f, q => f = wS W ∧ q = wZ W
  | k + 1, f, q => k < 6 ∧ f ≤ wS W ∧ q ≤ wZ W ∧ ∃ fs f0 tm, g (320 + e) (4 * k) = i3 fs ∧ g (320 + e) (4 * k + 1) = i3 f0 ∧ g (320 + e) (4 * k + 2) = i3 f ∧ g (320 + e) (4 * k + 3) = i3 tm ∧ fs < wS W ∧ tm ≤ 20 ∧ ∃ n f2 q2 s2 p2, cor T W n k s2 f2 p2 q2 ∧ stkE G g T W w e k f2 q2 ∧ (
     (wt2 W (5 * fs) = 3 ∧ 1 ≤ tm ∧ G (w + 1) k = i3 tm ∧ q < wZ W ∧ wD W q = 4 ∧ wE W q = k ∧ (∃ n2, cor T W n2 (k + 1) f0 f (wG W q) q) ∧ s2 = wt2 W (5 * fs + 4) ∧ p2 = q + 1) ∨
     (wt2 W (5 * fs) = 4 ∧ q < wZ W ∧ wD W q = 7 ∧ s2 = fs ∧ p2 = wG W q) ∨
     (wt2 W (5 * fs) = 5 ∧ q < wZ W ∧ wD W q = 7 ∧ s2 = wt2 W (5 * fs + 4) ∧ p2 = wG W q) ∨
     (wt2 W (5 * fs) = 5 ∧ s2 = wt2 W (5 * fs + 4) ∧ p2 = q))
theorem stkE.keep {G g G' g' : sm_G} {T W : pT} {w e : Nat} : ∀ {h f q : Nat}, stkE G g T W w e h f q → (∀ k, k < h → G' (w + 1) k = G (w + 1) k) → (∀ j, j < 4 * h → g' (320 + e) j = g (320 + e) j) → stkE G' g' T W w e h f q
  | 0, f, q, h, _, _ => h
  | k + 1, f, q, h, hG, hg => by
    obtain ⟨h1, h2, h3, fs, f0, tm, a0, a1, a2, a3, a4, a5, n, f2, q2, s2, p2, b1, b2, b3⟩ := h
    refine ⟨h1, h2, h3, fs, f0, tm, by rw [hg _ (by omega)]; exact a0, by rw [hg _ (by omega)]; exact a1, by rw [hg _ (by omega)]; exact a2, by rw [hg _ (by omega)]; exact a3, a4, a5, n, f2, q2, s2, p2, b1, stkE.keep b2 (fun j hj => hG j (by omega)) (fun j hj => hg j (by omega)), ?_⟩
    rw [hG k (by omega)]
    exact b3
theorem stkE.le {G g : sm_G} {T W : pT} {w e : Nat} : ∀ {h f q : Nat}, stkE G g T W w e h f q → f ≤ wS W ∧ q ≤ wZ W
  | 0, f, q, h => ⟨Nat.le_of_eq h.1, Nat.le_of_eq h.2⟩
  | k + 1, f, q, h => ⟨h.2.1, h.2.2.1⟩
theorem cor_le {T W : pT} : ∀ {n h s e p q : Nat}, cor T W n h s e p q → s ≤ e ∧ p ≤ q
  | 0, _, s, e, p, q, h => ⟨Nat.le_of_eq h.1, Nat.le_of_eq h.2⟩
  | n + 1, _, s, e, p, q, h => by
    rcases h with ⟨h1, h2⟩ | ⟨h1, h2, _⟩
    · exact ⟨Nat.le_of_eq h1, Nat.le_of_eq h2⟩
    · exact ⟨Nat.le_of_lt h1, Nat.le_of_lt h2⟩
theorem cor_same {T W : pT} : ∀ {n h s p q : Nat}, cor T W n h s s p q → p = q
  | 0, _, s, p, q, h => h.2
  | n + 1, _, s, p, q, h => by
    rcases h with ⟨_, h2⟩ | ⟨h1, _⟩
    · exact h2
    · omega
theorem cor_step {T W : pT} {n h s e p q : Nat} (hc : cor T W n h s e p q) (hse : s ≠ e) : ∃ n', n = n' + 1 := by
  cases n with
  | zero => exact absurd hc.1 hse
  | succ n => exact ⟨n, rfl⟩
/-- a dreamer at rest between minutes: r his room and 1 -/
def wR (G g : sm_G) (b e : Nat) (T W : pT) (r : Nat) : Prop := G (b + 5 + 4 * e) 1 = mi r ∧ g 325 e = mi r ∧ r ≤ sl T ∧ (G (b + 5 + 4 * e) 2 = g (315 + e) 0 ∧ G (b + 5 + 4 * e) 3 = g (315 + e) 1 ∧ G (b + 5 + 4 * e) 4 = g (315 + e) 2 ∧ G (b + 5 + 4 * e) 5 = g (315 + e) 3 ∧ G (b + 5 + 4 * e) 6 = g (315 + e) 4) ∧
  (∃ z, z ≤ 1 ∧ G (b + 5 + 4 * e) 10 = i3 z ∧ g 330 e = i3 z ∧ g (315 + e) 5 = i3 z) ∧ (∃ n, n ≤ 98 ∧ G (b + 5 + 4 * e) 8 = i3 n ∧ g 328 e = i3 n ∧ (g 330 e = i3 1 → n = 0)) ∧
  ∃ p st h, G (b + 5 + 4 * e) 7 = i3 p ∧ g 326 e = i3 st ∧ g 327 e = i3 h ∧ h ≤ 6 ∧ ∃ n f q, cor T W n h st f p q ∧ stkE G g T W (b + 5 + 4 * e) e h f q
theorem wR.keep {G g G' g' : sm_G} {b e r : Nat} {T W : pT} (h : wR G g b e T W r) (hG : ∀ a k, a = b + 5 + 4 * e ∨ a = b + 6 + 4 * e → G' a k = G a k) (hg : ∀ a k, (325 ≤ a ∧ a ≤ 330 ∧ k = e) ∨ a = 315 + e ∨ a = 320 + e → g' a k = g a k) : wR G' g' b e T W r := by
  obtain ⟨h1, h2, h3, ⟨a1, a2, a3, a4, a5⟩, ⟨z, b1, b2, b3, b4⟩, ⟨n, c1, c2, c3, c4⟩, p, st, h, d1, d2, d3, d4, n2, f, q, e1, e2⟩ := h
  refine ⟨by rw [hG _ _ (Or.inl rfl)]; exact h1, by rw [hg _ _ (by omega)]; exact h2, h3, ⟨?_, ?_, ?_, ?_, ?_⟩, ⟨z, b1, ?_, ?_, ?_⟩, ⟨n, c1, ?_, ?_, ?_⟩, p, st, h, ?_, ?_, ?_, d4, n2, f, q, e1, e2.keep (fun k _ => hG _ _ (by omega)) (fun j _ => hg _ _ (by omega))⟩
  · rw [hG _ _ (Or.inl rfl), hg _ _ (by omega)]; exact a1
  · rw [hG _ _ (Or.inl rfl), hg _ _ (by omega)]; exact a2
  · rw [hG _ _ (Or.inl rfl), hg _ _ (by omega)]; exact a3
  · rw [hG _ _ (Or.inl rfl), hg _ _ (by omega)]; exact a4
  · rw [hG _ _ (Or.inl rfl), hg _ _ (by omega)]; exact a5
  · rw [hG _ _ (Or.inl rfl)]; exact b2
  · rw [hg _ _ (by omega)]; exact b3
  · rw [hg _ _ (by omega)]; exact b4
  · rw [hG _ _ (Or.inl rfl)]; exact c2
  · rw [hg _ _ (by omega)]; exact c3
  · rw [hg _ _ (by omega)]; exact c4
  · rw [hG _ _ (Or.inl rfl)]; exact d1
  · rw [hg _ _ (by omega)]; exact d2
  · rw [hg _ _ (by omega)]; exact d3
/-- what he may change in his minute -/
def aFr (b e : Nat) (G g G' g' : sm_G) : Prop := (∀ r k, r ≠ b + 5 + 4 * e → r ≠ b + 5 + 4 * e + 1 → ¬ (r = b ∧ k = 4) → G' r k = G r k) ∧ (∀ r k, ¬ (325 ≤ r ∧ r ≤ 330 ∧ k = e) → r ≠ 315 + e → r ≠ 320 + e → ¬ (r = 156 ∧ k = 56) → g' r k = g r k) ∧ G' (b + 5 + 4 * e) 2 = G (b + 5 + 4 * e) 2
theorem aFr.rf {b e : Nat} {G g : sm_G} : aFr b e G g G g := ⟨fun _ _ _ _ _ => rfl, fun _ _ _ _ _ _ => rfl, rfl⟩
theorem aFr.tr {b e : Nat} {G g G1 g1 G' g' : sm_G} (h1 : aFr b e G g G1 g1) (h2 : aFr b e G1 g1 G' g') : aFr b e G g G' g' :=
  ⟨fun r k a1 a2 a3 => (h2.1 r k a1 a2 a3).trans (h1.1 r k a1 a2 a3), fun r k a1 a2 a3 a4 => (h2.2.1 r k a1 a2 a3 a4).trans (h1.2.1 r k a1 a2 a3 a4), h2.2.2.trans h1.2.2⟩
/-- how he comes out of it -/
def aPost (b e : Nat) (T W : pT) (ρ t : Nat) (G g G' g' : sm_G) : Prop := aFr b e G g G' g' ∧ (∃ o, o < 1024 ∧ G' b 4 = i3 o ∧ g' 156 56 = i3 o) ∧ ∃ r, (r = ρ ∨ t.testBit (r - 1) = true) ∧ r ≠ 0 ∧ wR G' g' b e T W r
/-- in his minute, u turns taken, at step st and deed p, h blocks open -/
def aPre (G g : sm_G) (b s wl e : Nat) (T P W : pT) (K : Nat) (ρ : Nat → Nat) (m t o u h st p : Nat) : Prop :=
  (cS G s T ∧ mH g T P K ∧ cWl G wl W ∧ mWl g e W) ∧ (G b 7 = i3 t ∧ G b 6 = i3 m ∧ g 156 57 = i3 m ∧ g 307 m = i3 t) ∧ (∀ f, f < dr T → G (b + 5 + 4 * f) 1 = mi (ρ f) ∧ g 325 f = mi (ρ f)) ∧ (G b 4 = i3 o ∧ g 156 56 = i3 o) ∧
  (G (b + 5 + 4 * e) 2 = g (315 + e) 0 ∧ G (b + 5 + 4 * e) 3 = g (315 + e) 1 ∧ G (b + 5 + 4 * e) 4 = g (315 + e) 2 ∧ G (b + 5 + 4 * e) 5 = g (315 + e) 3 ∧ G (b + 5 + 4 * e) 6 = g (315 + e) 4) ∧
  (G (b + 5 + 4 * e) 10 = i3 0 ∧ g 330 e = i3 0 ∧ g (315 + e) 5 = i3 0) ∧ (G (b + 5 + 4 * e) 8 = i3 0 ∧ g 328 e = i3 0) ∧ (G (b + 5 + 4 * e) 9 = i3 u ∧ g 329 e = i3 u ∧ u ≤ 60) ∧
  G (b + 5 + 4 * e) 7 = i3 p ∧ g 326 e = i3 st ∧ g 327 e = i3 h ∧ h ≤ 6 ∧ ∃ n f q, cor T W n h st f p q ∧ stkE G g T W (b + 5 + 4 * e) e h f q
theorem pN_lt {b : Nat} (h : pN b) : 63 ≤ b ∧ b ≤ 84 ∧ (b ≤ 63 ∨ 84 ≤ b) := by rcases h with rfl | rfl <;> omega
theorem aPre.up {G g G1 g1 : sm_G} {b s wl e : Nat} {T P W : pT} {K : Nat} {ρ : Nat → Nat} {m t o u h st p u1 h1 st1 p1 : Nat} (H : aPre G g b s wl e T P W K ρ m t o u h st p) (hb : pN b) (hs : pS s) (hl : pW wl) (hT : okT T) (hP : okP T P) (he : e < dr T)
    (hG : ∀ r k, ¬ (r = b + 5 + 4 * e ∧ (k = 7 ∨ k = 9)) → r ≠ b + 5 + 4 * e + 1 → G1 r k = G r k) (hg : ∀ r k, ¬ (326 ≤ r ∧ r ≤ 329 ∧ r ≠ 328 ∧ k = e) → r ≠ 320 + e → g1 r k = g r k)
    (hu : G1 (b + 5 + 4 * e) 9 = i3 u1 ∧ g1 329 e = i3 u1) (hu1 : u1 ≤ 60) (hp : G1 (b + 5 + 4 * e) 7 = i3 p1) (hst : g1 326 e = i3 st1) (hh : g1 327 e = i3 h1) (hh6 : h1 ≤ 6) (hc : ∃ n f q, cor T W n h1 st1 f p1 q ∧ stkE G1 g1 T W (b + 5 + 4 * e) e h1 f q) :
    aPre G1 g1 b s wl e T P W K ρ m t o u1 h1 st1 p1 ∧ aFr b e G g G1 g1 := by
  have hB := hT.gb
  have hbl := pN_lt hb
  have hsl := pS_lt hs
  have hwl := pW_lt hl
  obtain ⟨⟨a1, a2, a3, a4⟩, ⟨b1, b2, b3, b4⟩, c1, ⟨d1, d2⟩, ⟨e1, e2, e3, e4, e5⟩, ⟨f1, f2, f3⟩, ⟨g1', g2'⟩, _⟩ := H
  refine ⟨⟨⟨a1.keep (fun r k q => hG r k (by unfold inC at q; omega) (by unfold inC at q; omega)), a2.keep hT hP (fun r k q => hg r k (by unfold inM at q; omega) (by unfold inM at q; omega)), a3.keep (fun r k q1 q2 => hG r k (by omega) (by omega)), a4.keep (by omega) (fun r k q => hg r k (by omega) (by omega))⟩, ⟨?_, ?_, ?_, ?_⟩, fun f hf => ?_, ⟨?_, ?_⟩, ⟨?_, ?_, ?_, ?_, ?_⟩, ⟨?_, ?_, ?_⟩, ⟨?_, ?_⟩, ⟨hu.1, hu.2, hu1⟩, hp, hst, hh, hh6, hc⟩, fun r k q1 q2 q3 => hG r k (by omega) q2, fun r k q1 q2 q3 q4 => hg r k (by omega) q3, hG _ _ (by omega) (by omega)⟩
  · rw [hG _ _ (by omega) (by omega)]; exact b1
  · rw [hG _ _ (by omega) (by omega)]; exact b2
  · rw [hg _ _ (by omega) (by omega)]; exact b3
  · rw [hg _ _ (by omega) (by omega)]; exact b4
  · rw [hG _ _ (by omega) (by omega), hg _ _ (by omega) (by omega)]; exact c1 f hf
  · rw [hG _ _ (by omega) (by omega)]; exact d1
  · rw [hg _ _ (by omega) (by omega)]; exact d2
  · rw [hG _ _ (by omega) (by omega), hg _ _ (by omega) (by omega)]; exact e1
  · rw [hG _ _ (by omega) (by omega), hg _ _ (by omega) (by omega)]; exact e2
  · rw [hG _ _ (by omega) (by omega), hg _ _ (by omega) (by omega)]; exact e3
  · rw [hG _ _ (by omega) (by omega), hg _ _ (by omega) (by omega)]; exact e4
  · rw [hG _ _ (by omega) (by omega), hg _ _ (by omega) (by omega)]; exact e5
  · rw [hG _ _ (by omega) (by omega)]; exact f1
  · rw [hg _ _ (by omega) (by omega)]; exact f2
  · rw [hg _ _ (by omega) (by omega)]; exact f3
  · rw [hG _ _ (by omega) (by omega)]; exact g1'
  · rw [hg _ _ (by omega) (by omega)]; exact g2'
/-- he stops -/
theorem aPre.stop {G g : sm_G} {b s wl e : Nat} {T P W : pT} {K : Nat} {ρ : Nat → Nat} {m t o u h st p : Nat} (H : aPre G g b s wl e T P W K ρ m t o u h st p) (ho : o < 1024) (he : e < dr T) (hρ : ρ e ≤ sl T) (hρ0 : ρ e ≠ 0) : aPost b e T W (ρ e) t G g G g := by
  obtain ⟨_, _, c1, d1, e1, ⟨f1, f2, f3⟩, ⟨g1, g2⟩, _, h1, h2, h3, h4, h5⟩ := H
  exact ⟨aFr.rf, ⟨o, ho, d1⟩, ρ e, Or.inl rfl, hρ0, (c1 e he).1, (c1 e he).2, hρ, e1, ⟨0, by decide, f1, f2, f3⟩, ⟨0, by decide, g1, g2, fun _ => rfl⟩, p, st, h, h1, h2, h3, h4, h5⟩
/-- he is stuck -/
theorem aPre.stuck {G g : sm_G} {b s wl e : Nat} {T P W : pT} {K : Nat} {ρ : Nat → Nat} {m t o u h st p : Nat} (H : aPre G g b s wl e T P W K ρ m t o u h st p) (hb : pN b) (hT : okT T) (ho : o < 1024) (he : e < dr T) (hρ : ρ e ≤ sl T) (hρ0 : ρ e ≠ 0) : aPost b e T W (ρ e) t G g (sm_up G (b + 5 + 4 * e) 10 (i3 1)) (sm_up (sm_up g 330 e (i3 1)) (315 + e) 5 (i3 1)) := by
  have hB := hT.gb
  have hbl := pN_lt hb
  have hG : ∀ r k, ¬ (r = b + 5 + 4 * e ∧ k = 10) → sm_up G (b + 5 + 4 * e) 10 (i3 1) r k = G r k := fun r k h => sm_up_ne (by omega)
  have hg : ∀ r k, ¬ (r = 330 ∧ k = e) → ¬ (r = 315 + e ∧ k = 5) → sm_up (sm_up g 330 e (i3 1)) (315 + e) 5 (i3 1) r k = g r k := fun r k h1 h2 => by rw [sm_up_ne (by omega), sm_up_ne (by omega)]
  have z1 : sm_up G (b + 5 + 4 * e) 10 (i3 1) (b + 5 + 4 * e) 10 = i3 1 := sm_up_same _ _ _ _
  have z2 : sm_up (sm_up g 330 e (i3 1)) (315 + e) 5 (i3 1) 330 e = i3 1 := by rw [sm_up_ne (by omega), sm_up_same]
  have z3 : sm_up (sm_up g 330 e (i3 1)) (315 + e) 5 (i3 1) (315 + e) 5 = i3 1 := sm_up_same _ _ _ _
  generalize sm_up G (b + 5 + 4 * e) 10 (i3 1) = G' at *
  generalize sm_up (sm_up g 330 e (i3 1)) (315 + e) 5 (i3 1) = g' at *
  obtain ⟨_, _, c1, ⟨d1, d2⟩, ⟨e1, e2, e3, e4, e5⟩, _, ⟨g1, g2⟩, _, h1, h2, h3, h4, n, f, q, h5, h6⟩ := H
  refine ⟨⟨fun r k a1 a2 a3 => hG r k (by omega), fun r k a1 a2 a3 a4 => hg r k (by omega) (by omega), hG _ _ (by omega)⟩, ⟨o, ho, by rw [hG _ _ (by omega)]; exact d1, by rw [hg _ _ (by omega) (by omega)]; exact d2⟩, ρ e, Or.inl rfl, hρ0, ?_, ?_, hρ, ⟨?_, ?_, ?_, ?_, ?_⟩, ⟨1, by decide, z1, z2, z3⟩, ⟨0, by decide, ?_, ?_, fun _ => rfl⟩, p, st, h, ?_, ?_, ?_, h4, n, f, q, h5, h6.keep (fun k _ => hG _ _ (by omega)) (fun j _ => hg _ _ (by omega) (by omega))⟩
  · rw [hG _ _ (by omega)]; exact (c1 e he).1
  · rw [hg _ _ (by omega) (by omega)]; exact (c1 e he).2
  · rw [hG _ _ (by omega), hg _ _ (by omega) (by omega)]; exact e1
  · rw [hG _ _ (by omega), hg _ _ (by omega) (by omega)]; exact e2
  · rw [hG _ _ (by omega), hg _ _ (by omega) (by omega)]; exact e3
  · rw [hG _ _ (by omega), hg _ _ (by omega) (by omega)]; exact e4
  · rw [hG _ _ (by omega), hg _ _ (by omega) (by omega)]; exact e5
  · rw [hG _ _ (by omega)]; exact g1
  · rw [hg _ _ (by omega) (by omega)]; exact g2
  · rw [hG _ _ (by omega)]; exact h1
  · rw [hg _ _ (by omega) (by omega)]; exact h2
  · rw [hg _ _ (by omega) (by omega)]; exact h3
