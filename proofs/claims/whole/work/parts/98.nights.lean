/-! a night -/
section NIGHTS
variable {d x d' x' b s : Nat} {V U : pV} {L L' : sm_L} {T P : pT} {K : Nat} {W : Nat → pT} {v1 : Int32} {r4 : Nat}
/-- what both have written of a minute -/
def rwM (T : pT) (b j : Nat) (G g : sm_G) : Prop := (∃ o, o < 1024 ∧ G (b + 4) j = i3 o ∧ g 324 j = i3 o) ∧ ∃ pl : Nat → Nat, G (b + 3) j = i3 (pk pl (dr T)) ∧ ∀ f, f < dr T → pl f ≤ 8 ∧ g (310 + f) j = mi (pl f)
def FCa (b a z : Nat) (G G' : sm_G) : Prop := ∀ r k, ¬ (r = b ∧ (k = 4 ∨ k = 6 ∨ k = 7)) → (∀ f, f < 4 → r ≠ b + 5 + 4 * f ∧ r ≠ b + 6 + 4 * f) → ¬ ((r = b + 3 ∨ r = b + 4) ∧ a ≤ k ∧ k ≤ z) → G' r k = G r k
def FMa (a z : Nat) (g g' : sm_G) : Prop := ∀ r k, ¬ (310 ≤ r ∧ r < 314 ∧ a ≤ k ∧ k ≤ z) → ¬ (315 ≤ r ∧ r < 319) → ¬ (320 ≤ r ∧ r < 324) → ¬ (r = 324 ∧ a ≤ k ∧ k ≤ z) → ¬ (325 ≤ r ∧ r ≤ 330) → ¬ (r = 156 ∧ (k = 56 ∨ k = 57)) → g' r k = g r k
theorem l_play (tt t0 : Nat → Nat) (J : Nat → (Nat → Nat) → sm_G → Prop) {z ex : Nat} (hV : okV V) (hb : pN b) (hs : pS s) (hT : okT T) (hP : okP T P) (hz : z ≤ 300) (kr : sm_is r4 342 20 = true) (nr : sm_N r4 = 301) (hr4 : r4 = 56 ∨ r4 = 58)
    (hJ : ∀ (m : Nat) (ρ ρ' : Nat → Nat) (g g' : sm_G), m ≤ z → J m ρ g → mnF T (tt m) m ρ ρ' g g' → J (m + 1) ρ' g') :
    ∀ (n a : Nat) (G g : sm_G) (ρ : Nat → Nat) (o : Nat), a + n = z + 1 → nCx V G g b s T P K W → (∀ f, f < dr T → wR G g b f T (W f) (ρ f) ∧ (ρ f ≠ 0 → cM T f < a)) → o < 1024 → G b 4 = i3 o → g 156 56 = i3 o → g 156 57 = i3 a → (∀ j, a ≤ j → j ≤ z → g 307 j = i3 (tt j) ∧ tt j < 1024 ∧ G r4 j = i3 (t0 j) ∧ t0 j ||| ex = tt j) → (∀ j, j < 301 → G 57 j = i3 (dat T P j)) → J a ρ g →
      ∃ (G' g' : sm_G) (ρ' : Nat → Nat) (o' : Nat), hD (d + 5) 88 8 [.ref b, .ref s, .ref 5, .ref 54, .ref r4, .int (i3 ex), .null, .int (i3 z), .int (i3 a), .null] 342 (RR V) x G L = oV x G' L ∧ hD (d' + 5) 264 99 [.ref 156, .int v1, .null, .null] 342 (RR U) x' g L' = hD (d' + 5) 264 99 [.ref 156, .int v1, .null, .null] 342 (RR U) x' g' L' ∧ FCa b a z G G' ∧ FMa a z g g' ∧
        (∀ f, f < dr T → wR G' g' b f T (W f) (ρ' f) ∧ (ρ' f ≠ 0 → cM T f < z + 1)) ∧ o' < 1024 ∧ G' b 4 = i3 o' ∧ g' 156 56 = i3 o' ∧ g' 156 57 = i3 (z + 1) ∧ (∀ j, a ≤ j → j ≤ z → rwM T b j G' g') ∧ J (z + 1) ρ' g' ∧ ∀ f, dr T ≤ f → f < 4 → G' (b + 5 + 4 * f) 10 = G (b + 5 + 4 * f) 10
  | 0, a, G, g, ρ, o, ha, hC, hR, ho, b4, m56, m57, hrow, hh, hj => by
    have : a = z + 1 := by omega
    subst this
    refine ⟨G, g, ρ, o, ?_, rfl, fun _ _ _ _ _ => rfl, fun _ _ _ _ _ _ _ _ => rfl, hR, ho, b4, m56, m57, fun j h1 h2 => by omega, hj, fun _ _ _ => rfl⟩
    rw [h_88_8 hb hs]
    simp (disch := omega) only [i3_add, i3_mul, i3_sub, i3_m1, i3_lt, i3_le, i3_eq, m1_lt, lt_m1, m1_le, le_m1, i3_nm1, m1_ni3, i3_cl, i3_in, i3_or, i3_and, i3_xor, i3_shl, i3_shr, sh_tb, tb_eq0, gd_tt, aI_o, aV_o, aL_o, aR_o, zd_0, zd_1, if_true, if_false, ite_self, eq_self, Bool.true_eq_false, Bool.false_eq_true, bi_0, bi_1, bi_zd, Nat.not_lt_zero, show ¬ z + 1 ≤ z by omega]
  | n + 1, a, G, g, ρ, o, ha, hC, hR, ho, b4, m56, m57, hrow, hh, hj => by
    have hB := hT.gb
    have hbl := pN_lt hb
    have hsl := pS_lt hs
    obtain ⟨q1, q2, q3, q4⟩ := hrow a (Nat.le_refl _) (by omega)
    obtain ⟨G1, g1, ρ1, o1, c1, c2, c3, c4, c5, c6, c7, c8, c9, c10, c11, c12, c13, c14, c15⟩ := l_min (d := d) (x := x) (L := L) (V := V) (d' := d') (x' := x') (L' := L') (U := U) (v1 := v1) (m := a) (z := z) hV hb hs hT hP hC hR (by omega) hz ho b4 m56 m57 q1 q2 hh kr nr hr4 q3 q4
    have hC1 : nCx V G1 g1 b s T P K W := hC.keep hV hs hT hP (fun r k q => c3 r k (by omega) (fun f hf => by omega) (by omega)) (fun r k q q2 => c4 r k (by omega) (by omega) (by omega) (by omega) (by omega) (by omega))
    obtain ⟨G', g', ρ', o', e1, e2, e3, e4, e5, e6, e7, e8, e9, e10, e11, e12⟩ := l_play tt t0 J hV hb hs hT hP hz kr nr hr4 hJ n (a + 1) G1 g1 ρ1 o1 (by omega) hC1 c5 c6 c7 c8 c9 (fun j h1 h2 => by
      obtain ⟨p1, p2, p3, p4⟩ := hrow j (by omega) h2
      exact ⟨by rw [c4 _ _ (by omega) (by omega) (by omega) (by omega) (by omega) (by omega)]; exact p1, p2, by rw [c3 _ _ (by omega) (fun f hf => by omega) (by omega)]; exact p3, p4⟩) (fun j hj => by rw [c3 _ _ (by omega) (fun f hf => by omega) (by omega)]; exact hh j hj) (hJ a ρ ρ1 g g1 (by omega) hj c14)
    refine ⟨G', g', ρ', o', c1.trans e1, c2.trans e2, fun r k p1 p2 p3 => by rw [e3 r k p1 p2 (by omega)]; exact c3 r k p1 p2 (by omega), fun r k p1 p2 p3 p4 p5 p6 => by rw [e4 r k (by omega) p2 p3 (by omega) p5 p6]; exact c4 r k (by omega) p2 p3 (by omega) p5 p6, e5, e6, e7, e8, e9, fun j h1 h2 => ?_, e11, fun f h1 h2 => (e12 f h1 h2).trans (c15 f h1 h2)⟩
    by_cases q : j = a
    · subst q
      refine ⟨⟨o1, c6, ?_, ?_⟩, ρ1, ?_, fun f hf => ⟨by have := (c5 f hf).1.2.2.1; omega, ?_⟩⟩
      · rw [e3 _ _ (by omega) (fun f hf => by omega) (by omega)]; exact c10
      · rw [e4 _ _ (by omega) (by omega) (by omega) (by omega) (by omega) (by omega)]; exact c11
      · rw [e3 _ _ (by omega) (fun f hf => by omega) (by omega)]; exact c12
      · rw [e4 _ _ (by omega) (by omega) (by omega) (by omega) (by omega) (by omega)]; exact c13 f hf
    · exact e10 j (by omega) h2
/-! the class's beginning, who is lost -/
def clrW (G : sm_G) (w : Nat) : sm_G := sm_up (sm_up (sm_up (sm_up (sm_up (sm_up (sm_up (sm_up (sm_up (sm_up (fill G (w + 1) 6 (fun _ => i3 0)) w 1 m1) w 2 m1) w 3 (i3 0)) w 4 (i3 0)) w 5 (i3 0)) w 6 (i3 0)) w 7 (i3 0)) w 8 (i3 0)) w 9 (i3 0)) w 10 (i3 0)
theorem clrW_ne {G : sm_G} {w r k : Nat} (h1 : r ≠ w) (h2 : r ≠ w + 1) : clrW G w r k = G r k := by
  unfold clrW
  rw [sm_up_ne (by omega), sm_up_ne (by omega), sm_up_ne (by omega), sm_up_ne (by omega), sm_up_ne (by omega), sm_up_ne (by omega), sm_up_ne (by omega), sm_up_ne (by omega), sm_up_ne (by omega), sm_up_ne (by omega), fill_ne (by omega)]
theorem clrW_12 {G : sm_G} {w : Nat} : clrW G w w 1 = m1 ∧ clrW G w w 2 = m1 := by
  unfold clrW
  refine ⟨?_, ?_⟩
  · rw [sm_up_ne (by omega), sm_up_ne (by omega), sm_up_ne (by omega), sm_up_ne (by omega), sm_up_ne (by omega), sm_up_ne (by omega), sm_up_ne (by omega), sm_up_ne (by omega), sm_up_ne (by omega), sm_up_same]
  · rw [sm_up_ne (by omega), sm_up_ne (by omega), sm_up_ne (by omega), sm_up_ne (by omega), sm_up_ne (by omega), sm_up_ne (by omega), sm_up_ne (by omega), sm_up_ne (by omega), sm_up_same]
theorem clrW_k {G : sm_G} {w k : Nat} (k1 : 3 ≤ k) (k2 : k ≤ 10) : clrW G w w k = i3 0 := by
  unfold clrW
  have hk : k = 3 ∨ k = 4 ∨ k = 5 ∨ k = 6 ∨ k = 7 ∨ k = 8 ∨ k = 9 ∨ k = 10 := by omega
  rcases hk with rfl | rfl | rfl | rfl | rfl | rfl | rfl | rfl
  · rw [sm_up_ne (by omega), sm_up_ne (by omega), sm_up_ne (by omega), sm_up_ne (by omega), sm_up_ne (by omega), sm_up_ne (by omega), sm_up_ne (by omega), sm_up_same]
  · rw [sm_up_ne (by omega), sm_up_ne (by omega), sm_up_ne (by omega), sm_up_ne (by omega), sm_up_ne (by omega), sm_up_ne (by omega), sm_up_same]
  · rw [sm_up_ne (by omega), sm_up_ne (by omega), sm_up_ne (by omega), sm_up_ne (by omega), sm_up_ne (by omega), sm_up_same]
  · rw [sm_up_ne (by omega), sm_up_ne (by omega), sm_up_ne (by omega), sm_up_ne (by omega), sm_up_same]
  · rw [sm_up_ne (by omega), sm_up_ne (by omega), sm_up_ne (by omega), sm_up_same]
  · rw [sm_up_ne (by omega), sm_up_ne (by omega), sm_up_same]
  · rw [sm_up_ne (by omega), sm_up_same]
  · rw [sm_up_same]
theorem s_148 {G : sm_G} {w : Nat} (hw : pK w) : sm_cv0 (d + 2) 148 342 (RR V) [.ref w] (x, G, L) = oV x (clrW G w) L := by
  have e6 := s_6 (d := d) (x := x) (L := L) (V := V) (G := G) (c := w + 1) (v := i3 0) (N := 6) (pK_all (P := fun w => (Nat.ble 20 (sm_K (w + 1)) && Nat.ble (sm_K (w + 1)) 27 && Nat.ble (w + 1) 342) = true) hw (by decide +kernel) (by decide +kernel) (by decide +kernel) (by decide +kernel) (by decide +kernel) (by decide +kernel) (by decide +kernel) (by decide +kernel) (by decide +kernel) (by decide +kernel) (by decide +kernel) (by decide +kernel) (by decide +kernel) (by decide +kernel) (by decide +kernel) (by decide +kernel)) (pK_all (P := fun w => sm_is (w + 1) 342 20 = true) hw rfl rfl rfl rfl rfl rfl rfl rfl rfl rfl rfl rfl rfl rfl rfl rfl) (pK_all (P := fun w => sm_N (w + 1) = 6) hw (by decide +kernel) (by decide +kernel) (by decide +kernel) (by decide +kernel) (by decide +kernel) (by decide +kernel) (by decide +kernel) (by decide +kernel) (by decide +kernel) (by decide +kernel) (by decide +kernel) (by decide +kernel) (by decide +kernel) (by decide +kernel) (by decide +kernel) (by decide +kernel)) (by decide)
  rw [m_148 hw, e6]
  rfl
theorem s_87 {G : sm_G} (hb : pN b) (hs : pS s) : ∃ G', sm_cv0 (d + 3) 87 342 (RR V) [.ref b, .ref s] (x, G, L) = oV x G' L ∧ (∀ r k, (∀ f, f < 4 → r ≠ b + 5 + 4 * f ∧ r ≠ b + 6 + 4 * f) → ¬ (r = b ∧ k = 4) → G' r k = G r k) ∧ G' b 4 = G s 13 ∧ ∀ f, f < 4 → G' (b + 5 + 4 * f) 1 = m1 ∧ G' (b + 5 + 4 * f) 2 = m1 ∧ ∀ k, 3 ≤ k → k ≤ 10 → G' (b + 5 + 4 * f) k = i3 0 := by
  have hbl := pN_lt hb
  have hsl := pS_lt hs
  rw [m_87 hb hs]
  refine loopE (H := fun i (g : sm_G) => hD (d + 2) 87 2 [.ref b, .ref s, .int (i3 i)] 342 (RR V) x g L) (Q := fun o' => ∃ G', o' = oV x G' L ∧ (∀ r k, (∀ f, f < 4 → r ≠ b + 5 + 4 * f ∧ r ≠ b + 6 + 4 * f) → ¬ (r = b ∧ k = 4) → G' r k = G r k) ∧ G' b 4 = G s 13 ∧ ∀ f, f < 4 → G' (b + 5 + 4 * f) 1 = m1 ∧ G' (b + 5 + 4 * f) 2 = m1 ∧ ∀ k, 3 ≤ k → k ≤ 10 → G' (b + 5 + 4 * f) k = i3 0) (N := 4)
    (fun i g => (∀ r k, (∀ f, f < 4 → r ≠ b + 5 + 4 * f ∧ r ≠ b + 6 + 4 * f) → g r k = G r k) ∧ ∀ f, f < i → g (b + 5 + 4 * f) 1 = m1 ∧ g (b + 5 + 4 * f) 2 = m1 ∧ ∀ k, 3 ≤ k → k ≤ 10 → g (b + 5 + 4 * f) k = i3 0) ?_ ?_ 4 0 G (by omega) ⟨fun _ _ _ => rfl, fun f hf => by omega⟩
  · rintro i g hi ⟨h1, h2⟩
    have hw := kw_b (k := i) hb (by omega)
    have e1 := rw_b (V := V) (k := i) hb (by omega)
    have e2 := iw_K hw
    have e148 := s_148 (d := d) (x := x) (L := L) (V := V) (G := g) hw
    refine ⟨clrW g (b + 5 + 4 * i), ?_, fun r k q => by rw [clrW_ne (q i hi).1 (by have := (q i hi).2; omega)]; exact h1 r k q, fun f hf => ?_⟩
    · rw [h_87_2 hb hs]
      simp (disch := omega) only [i3_add, i3_mul, i3_sub, i3_m1, i3_lt, i3_le, i3_eq, m1_lt, lt_m1, m1_le, le_m1, i3_nm1, m1_ni3, i3_cl, i3_in, i3_or, i3_and, i3_xor, i3_shl, i3_shr, sh_tb, tb_eq0, gd_tt, aI_o, aV_o, aL_o, aR_o, zd_0, zd_1, if_true, if_false, ite_self, eq_self, Bool.true_eq_false, Bool.false_eq_true, bi_0, bi_1, bi_zd, Nat.not_lt_zero, hi, e1, e2, e148]
    · by_cases q : f = i
      · subst q
        exact ⟨clrW_12.1, clrW_12.2, fun k k1 k2 => clrW_k k1 k2⟩
      · rw [clrW_ne (by omega) (by omega), clrW_ne (by omega) (by omega)]
        obtain ⟨a1, a2, a3⟩ := h2 f (by omega)
        exact ⟨a1, a2, fun k k1 k2 => by rw [clrW_ne (by omega) (by omega)]; exact a3 k k1 k2⟩
  · rintro g ⟨h1, h2⟩
    refine ⟨sm_up g b 4 (g s 13), ?_, fun r k q q2 => by rw [sm_up_ne (by omega)]; exact h1 r k q, by rw [sm_up_same]; exact h1 _ _ (fun f hf => by omega), fun f hf => ?_⟩
    · rw [h_87_2 hb hs]
      simp (disch := omega) only [i3_add, i3_mul, i3_sub, i3_m1, i3_lt, i3_le, i3_eq, m1_lt, lt_m1, m1_le, le_m1, i3_nm1, m1_ni3, i3_cl, i3_in, i3_or, i3_and, i3_xor, i3_shl, i3_shr, sh_tb, tb_eq0, gd_tt, aI_o, aV_o, aL_o, aR_o, zd_0, zd_1, if_true, if_false, ite_self, eq_self, Bool.true_eq_false, Bool.false_eq_true, bi_0, bi_1, bi_zd, Nat.not_lt_zero, Nat.lt_irrefl]
    · rw [sm_up_ne (by omega), sm_up_ne (by omega)]
      obtain ⟨a1, a2, a3⟩ := h2 f hf
      exact ⟨a1, a2, fun k k1 k2 => by rw [sm_up_ne (by omega)]; exact a3 k k1 k2⟩
theorem s_97 {G : sm_G} {n : Nat} (hb : pN b) (hs : pS s) (hn : G s 12 = i3 n) (hn4 : n ≤ 4) : sm_cv0 (d + 1) 97 342 (RR V) [.ref b, .ref s] (x, G, L) = oI (i3 (lostB G b n)) x G L := by
  have hbl := pN_lt hb
  rw [m_97 hb hs]
  unfold lostB
  rw [← bs_itr]
  refine loop0 (H := fun i a => hD d 97 4 [.ref b, .ref s, .int (i3 a), .int (i3 i)] 342 (RR V) x G L) (out := fun a => oI (i3 a) x G L) (N := n) ?_ ?_ 0
  · intro i a hi
    have e1 := rw_b (V := V) (k := i) hb (by omega)
    have e2 := iw_K (kw_b (k := i) hb (by omega))
    rw [h_97_4 hb hs, hn]
    by_cases q : G (b + 5 + 4 * i) 2 = m1
    · simp (disch := omega) only [i3_add, i3_mul, i3_sub, i3_m1, i3_lt, i3_le, i3_eq, m1_lt, lt_m1, m1_le, le_m1, i3_nm1, m1_ni3, i3_cl, i3_in, i3_or, i3_and, i3_xor, i3_shl, i3_shr, sh_tb, tb_eq0, gd_tt, aI_o, aV_o, aL_o, aR_o, zd_0, zd_1, if_true, if_false, ite_self, eq_self, Bool.true_eq_false, Bool.false_eq_true, bi_0, bi_1, bi_zd, Nat.not_lt_zero, hi, e1, e2, q, ne_eq, not_true, decide_false, Nat.or_zero]
    · simp (disch := omega) only [i3_add, i3_mul, i3_sub, i3_m1, i3_lt, i3_le, i3_eq, m1_lt, lt_m1, m1_le, le_m1, i3_nm1, m1_ni3, i3_cl, i3_in, i3_or, i3_and, i3_xor, i3_shl, i3_shr, sh_tb, tb_eq0, gd_tt, aI_o, aV_o, aL_o, aR_o, zd_0, zd_1, if_true, if_false, ite_self, eq_self, Bool.true_eq_false, Bool.false_eq_true, bi_0, bi_1, bi_zd, Nat.not_lt_zero, hi, e1, e2, q, ne_eq, not_false_iff, decide_true]
  · intro a
    rw [h_97_4 hb hs, hn]
    simp (disch := omega) only [i3_add, i3_mul, i3_sub, i3_m1, i3_lt, i3_le, i3_eq, m1_lt, lt_m1, m1_le, le_m1, i3_nm1, m1_ni3, i3_cl, i3_in, i3_or, i3_and, i3_xor, i3_shl, i3_shr, sh_tb, tb_eq0, gd_tt, aI_o, aV_o, aL_o, aR_o, zd_0, zd_1, if_true, if_false, ite_self, eq_self, Bool.true_eq_false, Bool.false_eq_true, bi_0, bi_1, bi_zd, Nat.not_lt_zero, Nat.lt_irrefl]
theorem l_289 {g : sm_G} {n : Nat} (hn : g 160 4 = i3 n) (hn4 : n ≤ 4) : hD d' 264 289 [.ref 156, .int (i3 0), .int (i3 0), .null] 342 (RR U) x' g L' = oI (i3 (bs (fun e => decide (g (315 + e) 0 ≠ m1)) n)) x' g L' := by
  rw [← bs_itr]
  refine loop0 (H := fun i a => hD d' 264 289 [.ref 156, .int (i3 a), .int (i3 i), .null] 342 (RR U) x' g L') (out := fun a => oI (i3 a) x' g L') (N := n) ?_ ?_ 0
  · intro i a hi
    rw [h_264_289, hn]
    by_cases q : g (315 + i) 0 = m1
    · simp (disch := omega) only [i3_add, i3_mul, i3_sub, i3_m1, i3_lt, i3_le, i3_eq, m1_lt, lt_m1, m1_le, le_m1, i3_nm1, m1_ni3, i3_cl, i3_in, i3_or, i3_and, i3_xor, i3_shl, i3_shr, sh_tb, tb_eq0, gd_tt, aI_o, aV_o, aL_o, aR_o, zd_0, zd_1, if_true, if_false, ite_self, eq_self, Bool.true_eq_false, Bool.false_eq_true, bi_0, bi_1, bi_zd, Nat.not_lt_zero, hi, rr_314, ldr_314, q, ne_eq, not_true, decide_false, Nat.or_zero]
    · simp (disch := omega) only [i3_add, i3_mul, i3_sub, i3_m1, i3_lt, i3_le, i3_eq, m1_lt, lt_m1, m1_le, le_m1, i3_nm1, m1_ni3, i3_cl, i3_in, i3_or, i3_and, i3_xor, i3_shl, i3_shr, sh_tb, tb_eq0, gd_tt, aI_o, aV_o, aL_o, aR_o, zd_0, zd_1, if_true, if_false, ite_self, eq_self, Bool.true_eq_false, Bool.false_eq_true, bi_0, bi_1, bi_zd, Nat.not_lt_zero, hi, rr_314, ldr_314, q, ne_eq, not_false_iff, decide_true]
  · intro a
    rw [h_264_289, hn]
    simp (disch := omega) only [i3_add, i3_mul, i3_sub, i3_m1, i3_lt, i3_le, i3_eq, m1_lt, lt_m1, m1_le, le_m1, i3_nm1, m1_ni3, i3_cl, i3_in, i3_or, i3_and, i3_xor, i3_shl, i3_shr, sh_tb, tb_eq0, gd_tt, aI_o, aV_o, aL_o, aR_o, zd_0, zd_1, if_true, if_false, ite_self, eq_self, Bool.true_eq_false, Bool.false_eq_true, bi_0, bi_1, bi_zd, Nat.not_lt_zero, Nat.lt_irrefl]
theorem l_init {g : sm_G} (hT : okT T) (hP : okP T P) (hm : mH g T P K) : ∃ g', hD d' 264 12 [.ref 156, .int v1, .int (i3 0), .null] 342 (RR U) x' g L' = hD d' 264 99 [.ref 156, .int v1, .null, .null] 342 (RR U) x' g' L' ∧ (∀ r k, ¬ (315 ≤ r ∧ r < 319) → ¬ (325 ≤ r ∧ r ≤ 330) → ¬ (r = 156 ∧ k = 57) → g' r k = g r k) ∧ g' 156 57 = i3 0 ∧ ∀ f, f < dr T → g' 325 f = m1 ∧ g' 326 f = i3 0 ∧ g' 327 f = i3 0 ∧ g' 328 f = i3 0 ∧ g' 330 f = i3 0 ∧ g' (315 + f) 0 = m1 ∧ ∀ k, 1 ≤ k → k < 6 → g' (315 + f) k = i3 0 := by
  have hB := hT.gb
  refine loopE (H := fun i (g1 : sm_G) => hD d' 264 12 [.ref 156, .int v1, .int (i3 i), .null] 342 (RR U) x' g1 L') (Q := fun o' => ∃ g', o' = hD d' 264 99 [.ref 156, .int v1, .null, .null] 342 (RR U) x' g' L' ∧ (∀ r k, ¬ (315 ≤ r ∧ r < 319) → ¬ (325 ≤ r ∧ r ≤ 330) → ¬ (r = 156 ∧ k = 57) → g' r k = g r k) ∧ g' 156 57 = i3 0 ∧ ∀ f, f < dr T → g' 325 f = m1 ∧ g' 326 f = i3 0 ∧ g' 327 f = i3 0 ∧ g' 328 f = i3 0 ∧ g' 330 f = i3 0 ∧ g' (315 + f) 0 = m1 ∧ ∀ k, 1 ≤ k → k < 6 → g' (315 + f) k = i3 0) (N := dr T)
    (fun i g1 => (∀ r k, ¬ (315 ≤ r ∧ r < 319) → ¬ (325 ≤ r ∧ r ≤ 330) → g1 r k = g r k) ∧ ∀ f, f < i → g1 325 f = m1 ∧ g1 326 f = i3 0 ∧ g1 327 f = i3 0 ∧ g1 328 f = i3 0 ∧ g1 330 f = i3 0 ∧ g1 (315 + f) 0 = m1 ∧ ∀ k, 1 ≤ k → k < 6 → g1 (315 + f) k = i3 0) ?_ ?_ (dr T) 0 g (by omega) ⟨fun _ _ _ _ => rfl, fun f hf => by omega⟩
  · rintro i g1 hi ⟨h1, h2⟩
    have hm1 : mH g1 T P K := hm.keep hT hP (fun r k q => h1 r k (by unfold inM at q; omega) (by unfold inM at q; omega))
    have gx : ∀ r k, ¬ (325 ≤ r ∧ r ≤ 330 ∧ k = i) → sm_up (sm_up (sm_up (sm_up (sm_up g1 325 i m1) 326 i (i3 0)) 327 i (i3 0)) 328 i (i3 0)) 330 i (i3 0) r k = g1 r k := fun r k q => by rw [sm_up_ne (by omega), sm_up_ne (by omega), sm_up_ne (by omega), sm_up_ne (by omega), sm_up_ne (by omega)]
    have y1 : sm_up (sm_up (sm_up (sm_up (sm_up g1 325 i m1) 326 i (i3 0)) 327 i (i3 0)) 328 i (i3 0)) 330 i (i3 0) 325 i = m1 := by rw [sm_up_ne (by omega), sm_up_ne (by omega), sm_up_ne (by omega), sm_up_ne (by omega), sm_up_same]
    have y2 : sm_up (sm_up (sm_up (sm_up (sm_up g1 325 i m1) 326 i (i3 0)) 327 i (i3 0)) 328 i (i3 0)) 330 i (i3 0) 326 i = i3 0 := by rw [sm_up_ne (by omega), sm_up_ne (by omega), sm_up_ne (by omega), sm_up_same]
    have y3 : sm_up (sm_up (sm_up (sm_up (sm_up g1 325 i m1) 326 i (i3 0)) 327 i (i3 0)) 328 i (i3 0)) 330 i (i3 0) 327 i = i3 0 := by rw [sm_up_ne (by omega), sm_up_ne (by omega), sm_up_same]
    have y4 : sm_up (sm_up (sm_up (sm_up (sm_up g1 325 i m1) 326 i (i3 0)) 327 i (i3 0)) 328 i (i3 0)) 330 i (i3 0) 328 i = i3 0 := by rw [sm_up_ne (by omega), sm_up_same]
    have y5 : sm_up (sm_up (sm_up (sm_up (sm_up g1 325 i m1) 326 i (i3 0)) 327 i (i3 0)) 328 i (i3 0)) 330 i (i3 0) 330 i = i3 0 := sm_up_same _ _ _ _
    have step : hD d' 264 12 [.ref 156, .int v1, .int (i3 i), .null] 342 (RR U) x' g1 L' = hD d' 264 59 [.ref 156, .int v1, .int (i3 i), .int (i3 0)] 342 (RR U) x' (sm_up (sm_up (sm_up (sm_up (sm_up g1 325 i m1) 326 i (i3 0)) 327 i (i3 0)) 328 i (i3 0)) 330 i (i3 0)) L' := by
      rw [h_264_12, hm1.gdr]
      simp (disch := omega) only [i3_add, i3_mul, i3_sub, i3_m1, i3_lt, i3_le, i3_eq, m1_lt, lt_m1, m1_le, le_m1, i3_nm1, m1_ni3, i3_cl, i3_in, i3_or, i3_and, i3_xor, i3_shl, i3_shr, sh_tb, tb_eq0, gd_tt, aI_o, aV_o, aL_o, aR_o, zd_0, zd_1, if_true, if_false, ite_self, eq_self, Bool.true_eq_false, Bool.false_eq_true, bi_0, bi_1, bi_zd, Nat.not_lt_zero, hi]
    generalize sm_up (sm_up (sm_up (sm_up (sm_up g1 325 i m1) 326 i (i3 0)) 327 i (i3 0)) 328 i (i3 0)) 330 i (i3 0) = g2 at *
    obtain ⟨g3, e1, e2, e3, e4⟩ : ∃ g3, hD d' 264 59 [.ref 156, .int v1, .int (i3 i), .int (i3 0)] 342 (RR U) x' g2 L' = hD d' 264 12 [.ref 156, .int v1, .int (i3 (i + 1)), .null] 342 (RR U) x' g3 L' ∧ (∀ r k, r ≠ 315 + i → g3 r k = g2 r k) ∧ g3 (315 + i) 0 = m1 ∧ ∀ k, 1 ≤ k → k < 6 → g3 (315 + i) k = i3 0 := by
      refine loopE (H := fun k (g3 : sm_G) => hD d' 264 59 [.ref 156, .int v1, .int (i3 i), .int (i3 k)] 342 (RR U) x' g3 L') (Q := fun o' => ∃ g3, o' = hD d' 264 12 [.ref 156, .int v1, .int (i3 (i + 1)), .null] 342 (RR U) x' g3 L' ∧ (∀ r k, r ≠ 315 + i → g3 r k = g2 r k) ∧ g3 (315 + i) 0 = m1 ∧ ∀ k, 1 ≤ k → k < 6 → g3 (315 + i) k = i3 0) (N := 6)
        (fun k g3 => (∀ r k, r ≠ 315 + i → g3 r k = g2 r k) ∧ (0 < k → g3 (315 + i) 0 = m1) ∧ ∀ j, 1 ≤ j → j < k → g3 (315 + i) j = i3 0) ?_ ?_ 6 0 g2 (by omega) ⟨fun _ _ _ => rfl, fun z => by omega, fun j _ z => by omega⟩
      · rintro k g3 hk ⟨q1, q2, q3⟩
        by_cases k0 : k = 0
        · subst k0
          refine ⟨sm_up g3 (315 + i) 0 m1, ?_, fun r k q => by rw [sm_up_ne (by omega)]; exact q1 r k q, fun _ => sm_up_same _ _ _ _, fun j a1 a2 => by omega⟩
          rw [h_264_59]
          simp (disch := omega) only [i3_add, i3_mul, i3_sub, i3_m1, i3_lt, i3_le, i3_eq, m1_lt, lt_m1, m1_le, le_m1, i3_nm1, m1_ni3, i3_cl, i3_in, i3_or, i3_and, i3_xor, i3_shl, i3_shr, sh_tb, tb_eq0, gd_tt, aI_o, aV_o, aL_o, aR_o, zd_0, zd_1, if_true, if_false, ite_self, eq_self, Bool.true_eq_false, Bool.false_eq_true, bi_0, bi_1, bi_zd, Nat.not_lt_zero, rr_165, ldr_165, kr_165, nr_165, rr_174, ldr_174, kr_174, nr_174, rr_183, ldr_183, kr_183, nr_183, rr_194, ldr_194, kr_194, nr_194, rr_205, ldr_205, kr_205, nr_205, rr_218, ldr_218, kr_218, nr_218, rr_231, ldr_231, kr_231, nr_231, rr_236, ldr_236, kr_236, nr_236, rr_242, ldr_242, kr_242, nr_242, rr_247, ldr_247, kr_247, nr_247, rr_252, ldr_252, kr_252, nr_252, rr_265, ldr_265, kr_265, nr_265, rr_278, ldr_278, kr_278, nr_278, rr_282, ldr_282, kr_282, nr_282, rr_309, ldr_309, kr_309, nr_309, rr_314, ldr_314, kr_314, nr_314, rr_319, ldr_319, kr_319, nr_319, rr_332, ldr_332, kr_332, nr_332, show (0 : Nat) < 6 by omega]
        · refine ⟨sm_up g3 (315 + i) k (i3 0), ?_, fun r j q => by rw [sm_up_ne (by omega)]; exact q1 r j q, fun _ => by rw [sm_up_ne (by omega)]; exact q2 (by omega), fun j a1 a2 => ?_⟩
          · rw [h_264_59]
            simp (disch := omega) only [i3_add, i3_mul, i3_sub, i3_m1, i3_lt, i3_le, i3_eq, m1_lt, lt_m1, m1_le, le_m1, i3_nm1, m1_ni3, i3_cl, i3_in, i3_or, i3_and, i3_xor, i3_shl, i3_shr, sh_tb, tb_eq0, gd_tt, aI_o, aV_o, aL_o, aR_o, zd_0, zd_1, if_true, if_false, ite_self, eq_self, Bool.true_eq_false, Bool.false_eq_true, bi_0, bi_1, bi_zd, Nat.not_lt_zero, rr_165, ldr_165, kr_165, nr_165, rr_174, ldr_174, kr_174, nr_174, rr_183, ldr_183, kr_183, nr_183, rr_194, ldr_194, kr_194, nr_194, rr_205, ldr_205, kr_205, nr_205, rr_218, ldr_218, kr_218, nr_218, rr_231, ldr_231, kr_231, nr_231, rr_236, ldr_236, kr_236, nr_236, rr_242, ldr_242, kr_242, nr_242, rr_247, ldr_247, kr_247, nr_247, rr_252, ldr_252, kr_252, nr_252, rr_265, ldr_265, kr_265, nr_265, rr_278, ldr_278, kr_278, nr_278, rr_282, ldr_282, kr_282, nr_282, rr_309, ldr_309, kr_309, nr_309, rr_314, ldr_314, kr_314, nr_314, rr_319, ldr_319, kr_319, nr_319, rr_332, ldr_332, kr_332, nr_332, hk, k0]
          · by_cases q : j = k
            · subst q; exact sm_up_same _ _ _ _
            · rw [sm_up_ne (by omega)]; exact q3 j a1 (by omega)
      · rintro g3 ⟨q1, q2, q3⟩
        refine ⟨g3, ?_, q1, q2 (by omega), q3⟩
        rw [h_264_59]
        simp (disch := omega) only [i3_add, i3_mul, i3_sub, i3_m1, i3_lt, i3_le, i3_eq, m1_lt, lt_m1, m1_le, le_m1, i3_nm1, m1_ni3, i3_cl, i3_in, i3_or, i3_and, i3_xor, i3_shl, i3_shr, sh_tb, tb_eq0, gd_tt, aI_o, aV_o, aL_o, aR_o, zd_0, zd_1, if_true, if_false, ite_self, eq_self, Bool.true_eq_false, Bool.false_eq_true, bi_0, bi_1, bi_zd, Nat.not_lt_zero, Nat.lt_irrefl]
    refine ⟨g3, step.trans e1, fun r k a1 a2 => by rw [e2 r k (by omega), gx r k (by omega)]; exact h1 r k a1 a2, fun f hf => ?_⟩
    by_cases q : f = i
    · subst q
      refine ⟨?_, ?_, ?_, ?_, ?_, e3, e4⟩
      · rw [e2 _ _ (by omega)]; exact y1
      · rw [e2 _ _ (by omega)]; exact y2
      · rw [e2 _ _ (by omega)]; exact y3
      · rw [e2 _ _ (by omega)]; exact y4
      · rw [e2 _ _ (by omega)]; exact y5
    · obtain ⟨a1, a2, a3, a4, a5, a6, a7⟩ := h2 f (by omega)
      refine ⟨?_, ?_, ?_, ?_, ?_, ?_, fun k k1 k2 => ?_⟩
      · rw [e2 _ _ (by omega), gx _ _ (by omega)]; exact a1
      · rw [e2 _ _ (by omega), gx _ _ (by omega)]; exact a2
      · rw [e2 _ _ (by omega), gx _ _ (by omega)]; exact a3
      · rw [e2 _ _ (by omega), gx _ _ (by omega)]; exact a4
      · rw [e2 _ _ (by omega), gx _ _ (by omega)]; exact a5
      · rw [e2 _ _ (by omega), gx _ _ (by omega)]; exact a6
      · rw [e2 _ _ (by omega), gx _ _ (by omega)]; exact a7 k k1 k2
  · rintro g1 ⟨h1, h2⟩
    have hm1 : mH g1 T P K := hm.keep hT hP (fun r k q => h1 r k (by unfold inM at q; omega) (by unfold inM at q; omega))
    refine ⟨sm_up g1 156 57 (i3 0), ?_, fun r k a1 a2 a3 => by rw [sm_up_ne (by omega)]; exact h1 r k a1 a2, sm_up_same _ _ _ _, fun f hf => ?_⟩
    · rw [h_264_12, hm1.gdr]
      simp (disch := omega) only [i3_add, i3_mul, i3_sub, i3_m1, i3_lt, i3_le, i3_eq, m1_lt, lt_m1, m1_le, le_m1, i3_nm1, m1_ni3, i3_cl, i3_in, i3_or, i3_and, i3_xor, i3_shl, i3_shr, sh_tb, tb_eq0, gd_tt, aI_o, aV_o, aL_o, aR_o, zd_0, zd_1, if_true, if_false, ite_self, eq_self, Bool.true_eq_false, Bool.false_eq_true, bi_0, bi_1, bi_zd, Nat.not_lt_zero, Nat.lt_irrefl]
    · obtain ⟨a1, a2, a3, a4, a5, a6, a7⟩ := h2 f hf
      refine ⟨?_, ?_, ?_, ?_, ?_, ?_, fun k k1 k2 => ?_⟩
      · rw [sm_up_ne (by omega)]; exact a1
      · rw [sm_up_ne (by omega)]; exact a2
      · rw [sm_up_ne (by omega)]; exact a3
      · rw [sm_up_ne (by omega)]; exact a4
      · rw [sm_up_ne (by omega)]; exact a5
      · rw [sm_up_ne (by omega)]; exact a6
      · rw [sm_up_ne (by omega)]; exact a7 k k1 k2
end NIGHTS
