/-! where texts write -/
def scF (V : pV) (r k : Nat) : Prop := r = 2 ∨ (r = 1 ∧ 16 ≤ k) ∨ (V.2.1 ≤ r ∧ r < V.2.1 + 18) ∨ (V.2.2.1 ≤ r ∧ r < V.2.2.1 + 5) ∨ (V.2.2.2.2.1 ≤ r ∧ r < V.2.2.2.2.1 + 3) ∨ (r = 156 ∧ (k ≤ 8 ∨ k = 34 ∨ k = 35)) ∨ r = 159 ∨ r = 161 ∨ r = 163 ∨ (166 ≤ r ∧ r < 174) ∨ (184 ≤ r ∧ r < 194) ∨ (206 ≤ r ∧ r < 218) ∨ (232 ≤ r ∧ r < 236) ∨ (266 ≤ r ∧ r < 278) ∨ r = 303 ∨ r = 304
theorem pS_two {a b : Nat} (ha : pS a) (hb : pS b) (h : a ≠ b) : (a = 109 ∧ b = 127) ∨ (a = 127 ∧ b = 109) := by
  rcases ha with rfl | rfl <;> rcases hb with rfl | rfl <;> omega
theorem pB_two {a b : Nat} (ha : pB a) (hb : pB b) (h : a ≠ b) : (a = 150 ∧ b = 153) ∨ (a = 153 ∧ b = 150) := by
  rcases ha with rfl | rfl <;> rcases hb with rfl | rfl <;> omega
theorem pW_two {a b : Nat} (ha : pW a) (hb : pW b) (h : a ≠ b) : a + 5 ≤ b ∨ b + 5 ≤ a := by
  rcases ha with rfl | rfl | rfl | rfl | rfl <;> rcases hb with rfl | rfl | rfl | rfl | rfl <;> omega
/-- all that stands but the tape, the refusals, the wills -/
theorem IvS.parts {V : pV} {G G' : sm_G} {T : pT} {K c : Nat} {H W : Nat → pT} (h : IvS V G T K c H W) (hs : ∀ r k, ¬ scF V r k → ¬ (r = 241 ∨ (243 ≤ r ∧ r < 247) ∨ (248 ≤ r ∧ r < 252)) → G' r k = G r k) : cS G' V.1 T ∧ cP G' (V.1 + 1) T (H c) K ∧ mH G' T (H c) K ∧ (∀ k, k < 8 → G' 305 k = i3 k) ∧ chn G' (V.1 + 1) T c H ∧ chM G' T c H ∧ ivI G' T := by
  obtain ⟨h1, h2, h3, h4, h5, h6, h7, h8, h9, h10, h11, h12, h13, h14, h15⟩ := h
  have hs1 := pS_two h1.1.1 h1.1.2.1 h1.2.1
  have hb := pB_two h1.1.2.2.2.1 h1.1.2.2.2.2.1 h1.2.2.1
  have hw := pW_lt h1.1.2.2.1
  unfold scF at hs
  exact ⟨h5.keep (fun r k a => hs r k (by unfold inC at a; omega) (by unfold inC at a; omega)), h6.keep (fun r k a b => hs r k (by omega) (by omega)), h7.keep h2 h3 (fun r k a => hs r k (by unfold inM at a; omega) (by unfold inM at a; omega)), fun k hk => by rw [hs _ _ (by omega) (by omega)]; exact h8 k hk, h11.keep (fun r k a b => hs r k (by omega) (by omega)), h12.keep h11.1 (fun r k a => hs r k (by omega) (by omega)), h13.keep (fun r k a => hs r k (by omega) (by omega))⟩
theorem IvS.partB {V : pV} {G G' : sm_G} {T : pT} {K c : Nat} {H W : Nat → pT} (h : IvS V G T K c H W) (hs : ∀ r k, ¬ scF V r k → ¬ (r = 241 ∨ (243 ≤ r ∧ r < 247) ∨ (248 ≤ r ∧ r < 252)) → G' r k = G r k) : ivB G' V.2.2.2.1 := by
  obtain ⟨h1, h2, h3, h4, h5, h6, h7, h8, h9, h10, h11, h12, h13, h14, h15⟩ := h
  have hs1 := pS_two h1.1.1 h1.1.2.1 h1.2.1
  have hb := pB_two h1.1.2.2.2.1 h1.1.2.2.2.2.1 h1.2.2.1
  have hw := pW_lt h1.1.2.2.1
  unfold scF at hs
  exact h14.keep (fun r k a => hs r k (by omega) (by omega))
theorem IvS.partW {V : pV} {G G' : sm_G} {T : pT} {K c : Nat} {H W : Nat → pT} (h : IvS V G T K c H W) (hs : ∀ r k, ¬ scF V r k → G' r k = G r k) : ivW G' V T W := by
  obtain ⟨h1, h2, h3, h4, h5, h6, h7, h8, h9, h10, h11, h12, h13, h14, h15⟩ := h
  have hs1 := pS_two h1.1.1 h1.1.2.1 h1.2.1
  have hb := pB_two h1.1.2.2.2.1 h1.1.2.2.2.2.1 h1.2.2.1
  have hw := pW_lt h1.1.2.2.1
  unfold scF at hs
  intro e he
  obtain ⟨a1, a2, a3⟩ := h15 e he
  have hwe := pW_lt (h1.1.2.2.2.2.2 e he)
  have hwd := pW_two (h1.1.2.2.2.2.2 e he) h1.1.2.2.1 (h1.2.2.2.1 e he)
  exact ⟨a1, a2.keep (fun r k a b => hs r k (by omega)), a3.keep he (fun r k a => hs r k (by omega))⟩
/-- a text that was refused -/
theorem Inv_bad {V : pV} {G G' : sm_G} {T : pT} {K c : Nat} {H W : Nat → pT} (h : IvS V G T K c H W) (hh : hHr G T (H c) K) (hn : nHr G T (H c) K W) (hs : ∀ r k, ¬ scF V r k → G' r k = G r k) (f17 : G' 1 17 = G 1 17) (f18 : G' 1 18 = G 1 18) (ht : G' 2 1 = i3 0 ∧ G' 156 1 = i3 0) (hr : G' 1 16 = G' 156 3) : Inv V G' := by
  have hb := h.1.1
  have hs1 := pS_two hb.1 hb.2.1 h.1.2.1
  have hbk := pB_two hb.2.2.2.1 hb.2.2.2.2.1 h.1.2.2.1
  have hw := pW_lt hb.2.2.1
  obtain ⟨p1, p2, p3, p4, p5, p6, p7⟩ := h.parts (G' := G') (fun r k a _ => hs r k a)
  have p8 := h.partB (G' := G') (fun r k a _ => hs r k a)
  have p9 := h.partW hs
  unfold scF at hs
  refine ⟨T, K, c, H, W, ⟨h.1, h.2.1, h.2.2.1, h.2.2.2.1, p1, p2, p3, p4, ⟨0, by omega, ht.1, ht.2, fun k hk => absurd hk (Nat.not_lt_zero k)⟩, ⟨fun k hk => ?_, hr⟩, p5, p6, p7, p8, p9⟩, hh.keep f17 (fun r k a b => hs r k (by omega)), hn.keep h.2.1 f18 (fun r k a b => hs r k (by omega))⟩
  rw [hs 4 k (by omega), hs 158 k (by omega)]
  exact h.2.2.2.2.2.2.2.2.2.1.1 k hk
/-- the bytes fed, by a function -/
theorem ivT.B {G : sm_G} (h : ivT G) : ∃ (n : Nat) (B : Nat → Nat), n ≤ 600 ∧ G 2 1 = i3 n ∧ G 156 1 = i3 n ∧ ∀ k, k < n → B k < 256 ∧ G 157 k = i3 (B k) ∧ G 3 k = i2b (i3 (B k)) := by
  obtain ⟨n, h1, h2, h3, h4⟩ := h
  classical
  refine ⟨n, fun k => if q : k < n then (h4 k q).choose else 0, h1, h2, h3, fun k hk => ?_⟩
  have e : (if q : k < n then (h4 k q).choose else 0) = (h4 k hk).choose := dif_pos hk
  show (if q : k < n then (h4 k q).choose else 0) < 256 ∧ G 157 k = i3 (if q : k < n then (h4 k q).choose else 0) ∧ G 3 k = i2b (i3 (if q : k < n then (h4 k q).choose else 0))
  rw [e]
  exact (h4 k hk).choose_spec
/-- an operation that may change which objects stand where -/
def OpW (d x : Nat) (V : pV) (G : sm_G) (L : sm_L) (j : Nat) (as : List Value) (k : Nat) (bs : List Value) (E : Nat → Nat) : Prop :=
  (∃ a V' G1 G2, sm_cw (d + 60) j as (342, RR V, x, G, L) = wI a 342 (RR V') x G1 L ∧ sm_cv0 (d + 60) k 342 (RR V') bs (x, G1, L) = oI a x G2 L ∧ G2 156 0 = i3 0 ∧ Inv V' G2) ∨
  (∃ e G1 z G2, sm_cw (d + 60) j as (342, RR V, x, G, L) = wX 342 (RR V) e (x + 1) G1 L ∧ sm_cv0 (d + 60) k 342 (RR V) bs (x + 1, G1, L) = oI z (x + 1) G2 L ∧ G2 156 0 = i3 (E e) ∧ e < 4 ∧ 0 < E e ∧ E e ≤ 2 ∧ Inv V G2)
