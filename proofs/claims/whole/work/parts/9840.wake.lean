/-! the milkman wakes in an order -/
/-- when one wakes in an order -/
def wps (n : Nat) (o : List Nat) (k : Nat) : Nat := (o.take n).idxOf k
/-- who sleeps on, as far as known at place l -/
def wkB (T P : pT) (K : Nat) (w : Nat → Nat) (m i l : Nat) : Nat := bs (fun k => K.testBit k || (decide (i < w k) && decide (w k < l) && decide (fr P k ≤ m) && decide (m < un P k))) (sl T)
theorem wkB_0 {T P : pT} {K m i : Nat} {w : Nat → Nat} (hK : K < 2 ^ sl T) : wkB T P K w m i (i + 1) = K := by
  apply Nat.eq_of_testBit_eq
  intro j
  unfold wkB
  rw [bs_tb]
  have : (decide (i < w j) && decide (w j < i + 1)) = false := by
    by_cases q : i < w j
    · rw [decide_eq_false (show ¬ w j < i + 1 by omega), Bool.and_false]
    · rw [decide_eq_false q, Bool.false_and]
  rw [this, Bool.false_and, Bool.false_and, Bool.or_false]
  by_cases q : j < sl T
  · rw [decide_eq_true q, Bool.true_and]
  · rw [decide_eq_false q, Bool.false_and, tb_big hK (by omega)]
theorem wkB_s {T P : pT} {K m i l k : Nat} {w : Nat → Nat} (hk : k < sl T) (hil : i < l) (hw : w k = l) (hu : ∀ j, j < sl T → w j = l → j = k) : wkB T P K w m i (l + 1) = if fr P k ≤ m ∧ m < un P k then wkB T P K w m i l ||| 1 <<< k else wkB T P K w m i l := by
  have key : ∀ j, (wkB T P K w m i (l + 1)).testBit j = ((wkB T P K w m i l).testBit j || (decide (k = j) && (decide (fr P k ≤ m) && decide (m < un P k)))) := by
    intro j
    unfold wkB
    rw [bs_tb, bs_tb]
    by_cases q1 : j < sl T
    · rw [decide_eq_true q1, Bool.true_and, Bool.true_and]
      by_cases q2 : w j = l
      · have := hu j q1 q2
        subst this
        rw [hw, decide_eq_true hil, decide_eq_true (show l < l + 1 by omega), decide_eq_false (show ¬ l < l by omega), decide_eq_true rfl]
        cases K.testBit j <;> simp
      · rw [decide_eq_false (show ¬ k = j from fun z => q2 (by rw [← z]; exact hw)), Bool.false_and, Bool.or_false]
        by_cases q3 : w j < l
        · rw [decide_eq_true q3, decide_eq_true (show w j < l + 1 by omega)]
        · rw [decide_eq_false q3, decide_eq_false (show ¬ w j < l + 1 by omega)]
    · rw [decide_eq_false q1, Bool.false_and, Bool.false_and, decide_eq_false (show ¬ k = j by omega)]
      rfl
  apply Nat.eq_of_testBit_eq
  intro j
  rw [key j]
  by_cases q : fr P k ≤ m ∧ m < un P k
  · rw [if_pos q, decide_eq_true q.1, decide_eq_true q.2, Bool.and_true, Bool.and_true, tb_add]
  · rw [if_neg q]
    have : (decide (fr P k ≤ m) && decide (m < un P k)) = false := by
      by_cases a : fr P k ≤ m
      · rw [decide_eq_false (fun z => q ⟨a, z⟩), Bool.and_false]
      · rw [decide_eq_false a, Bool.false_and]
    rw [this, Bool.and_false, Bool.or_false]
theorem wkB_end {T P : pT} {K M i : Nat} {w : Nat → Nat} (hT : okT T) (hmk : mk T = M + 1) (hi : M + i < 301) (hw : ∀ k, k < sl T → w k < sl T) : rmB T (wkB T P K w (M + i) i (sl T)).testBit = rmB T (fun k => slp T P w (fun _ => 1000) K k (M + i)) := by
  have hb : ∀ j, j < sl T → (wkB T P K w (M + i) i (sl T)).testBit j = slp T P w (fun _ => 1000) K j (M + i) := fun j hj => by
    unfold wkB slp
    rw [bs_tb, decide_eq_true hj, Bool.true_and, hmk, decide_eq_true (hw j hj), decide_eq_true (show M + i < 1000 by omega), decide_eq_false (show ¬ M + 1 = 0 by omega)]
    have : decide (M + i + 1 < M + 1 + w j) = decide (i < w j) := by
      by_cases q : i < w j
      · rw [decide_eq_true q, decide_eq_true (by omega)]
      · rw [decide_eq_false q, decide_eq_false (by omega)]
    rw [this]
    cases K.testBit j <;> cases decide (i < w j) <;> cases decide (fr P j ≤ M + i) <;> cases decide (M + i < un P j) <;> rfl
  unfold rmB
  refine bs_congr (fun r hr => ?_)
  have ht := hT.gtp r hr
  rw [hb r hr]
  by_cases q : tp T r = 0
  · rw [decide_eq_false (by omega : ¬ tp T r ≠ 0), Bool.false_and, Bool.false_and]
  · rw [hb (tp T r - 1) (by omega)]
theorem l_84_49 {d x : Nat} {V : pV} {G : sm_G} {L : sm_L} {s m i : Nat} {T P : pT} {K : Nat} {o : List Nat} (hs : pS s) (hc : cS G s T) (hp : cP G (s + 1) T P K) (hT : okT T) (hP : okP T P) (hK : K < 2 ^ sl T) (h6 : sl T ≤ 6) (ho : oH G o) (hok : okO (sl T) o = true) (hm : m < 301) (hi : i < sl T) : hD d 84 49 [.ref 54, .ref s, .int (i3 i), .int (i3 m), .int (i3 K), .int (i3 (i + 1)), .null] 342 (RR V) x G L = hD d 84 49 [.ref 54, .ref s, .int (i3 i), .int (i3 m), .int (i3 (wkB T P K (wps (sl T) o) m i (sl T))), .int (i3 (sl T)), .null] 342 (RR V) x G L := by
  obtain ⟨_, _, a3, a4⟩ := okO.all hok
  have key : ∀ n l, l + n = sl T → i < l → hD d 84 49 [.ref 54, .ref s, .int (i3 i), .int (i3 m), .int (i3 (wkB T P K (wps (sl T) o) m i l)), .int (i3 l), .null] 342 (RR V) x G L = hD d 84 49 [.ref 54, .ref s, .int (i3 i), .int (i3 m), .int (i3 (wkB T P K (wps (sl T) o) m i (sl T))), .int (i3 (sl T)), .null] 342 (RR V) x G L := by
    intro n
    induction n with
    | zero => intro l hl _; rw [show l = sl T by omega]
    | succ n ih =>
      intro l hl hil
      obtain ⟨b1, b2⟩ := a3 l (by omega) h6
      have eo := ho.2.2 l (by omega)
      have e1 := hp.gfr _ b1
      have e2 := hp.gun _ b1
      rw [show s + 1 + 3 = s + 4 by omega] at e1
      rw [show s + 1 + 4 = s + 5 by omega] at e2
      have hb := hP.gsp _ b1
      have hstep := wkB_s (T := T) (P := P) (K := K) (m := m) (i := i) (l := l) (k := o.getD l 0) (w := wps (sl T) o) b1 hil b2 (fun j hj z => by
        have := (a4 j hj).2
        rw [show (List.take (sl T) o).idxOf j = l from z] at this
        exact this.symm)
      rw [← ih (l + 1) (by omega) (by omega), hstep]
      generalize o.getD l 0 = k at *
      generalize wkB T P K (wps (sl T) o) m i l = A
      rw [h_84_49 hs, hc.gsl, if_pos (show i3 l < i3 (sl T) by rw [i3_lt (by omega) (by omega)]; omega), if_pos (show i3 l < i3 6 by rw [i3_lt (by omega) (by omega)]; omega), i3_in (by omega) (by omega), gd_tt, i3_cl (by omega), eo, i3_in (by omega) (by omega), gd_tt, gd_tt, i3_cl (by omega), e1, e2, i3_shl (by omega), i3_or, i3_add, h_84_114 hs, h_84_114 hs]
      by_cases q1 : fr P k ≤ m
      · rw [if_pos (by rw [i3_le (by omega) (by omega)]; exact q1)]
        by_cases q2 : m < un P k
        · rw [if_pos (by rw [i3_lt (by omega) (by omega)]; exact q2), if_pos ⟨q1, q2⟩]
        · rw [if_neg (by rw [i3_lt (by omega) (by omega)]; exact q2), if_neg (fun z => q2 z.2)]
      · rw [if_neg (by rw [i3_le (by omega) (by omega)]; exact q1), if_neg (fun z => q1 z.1)]
  have := key (sl T - (i + 1)) (i + 1) (by omega) (by omega)
  rw [wkB_0 hK] at this
  exact this
theorem s_84 {d x : Nat} {V : pV} {L : sm_L} {s M : Nat} {T P : pT} {K : Nat} {o : List Nat} (hs : pS s) (hT : okT T) (hP : okP T P) (hK : K < 2 ^ sl T) (h6 : sl T ≤ 6) (hok : okO (sl T) o = true) (hmk : mk T = M + 1) : ∀ (r i : Nat) (G : sm_G), i + r = sl T → cS G s T → cP G (s + 1) T P K → oH G o → ∃ G', hD (d + 1) 84 2 [.ref 54, .ref s, .int (i3 i), .null, .null, .null, .null] 342 (RR V) x G L = oV x G' L ∧ (∀ r k, ¬ (r = 58 ∧ M + i ≤ k) → G' r k = G r k) ∧ ∀ j, i ≤ j → j < sl T → M + j < 301 → G' 58 (M + j) = i3 (rmB T (fun k => slp T P (wps (sl T) o) (fun _ => 1000) K k (M + j)))
  | 0, i, G, hi, hc, hp, ho => by
    refine ⟨G, ?_, fun _ _ _ => rfl, fun j h1 h2 => by omega⟩
    rw [h_84_2 hs, hc.gsl, if_neg (by rw [i3_lt (by omega) (by omega)]; omega)]
  | r + 1, i, G, hi, hc, hp, ho => by
    have hB := hT.gb
    have hsl := pS_lt hs
    have eM : G s 14 = i3 M := by rw [hc.gmk, hmk, mi_succ]
    have h8 : 2 ^ sl T ≤ 2 ^ 8 := Nat.pow_le_pow_right (by decide) hB.1
    by_cases q : M + i < 301
    · have l49 := l_84_49 (d := d + 1) (x := x) (V := V) (G := G) (L := L) (s := s) (m := M + i) (i := i) hs hc hp hT hP hK h6 ho hok q (by omega)
      have hlt : wkB T P K (wps (sl T) o) (M + i) i (sl T) < 2 ^ sl T := bs_lt _ _
      have e118 := s_118 (d := d) (x := x) (V := V) (G := G) (L := L) hs hc hT hlt (by omega)
      rw [wkB_end (w := wps (sl T) o) hT hmk q (fun k hk => ((okO.all hok).2.2.2 k hk).1)] at e118
      have fr : ∀ r k, r ≠ 58 → sm_up G 58 (M + i) (i3 (rmB T (fun k => slp T P (wps (sl T) o) (fun _ => 1000) K k (M + i)))) r k = G r k := fun r k a => sm_up_ne (by omega)
      obtain ⟨G2, f1, f2, f3⟩ := s_84 (d := d) (x := x) (V := V) (L := L) hs hT hP hK h6 hok hmk r (i + 1) _ (by omega) (hc.keep (fun r k a => fr r k (by unfold inC at a; omega))) (hp.keep (fun r k a b => fr r k (by omega))) ⟨ho.1, ho.2.1, fun k hk => by rw [fr _ _ (by omega)]; exact ho.2.2 k hk⟩
      refine ⟨G2, ?_, fun r k a => by rw [f2 r k (by omega)]; exact sm_up_ne (by omega), fun j h1 h2 h3 => ?_⟩
      · rw [h_84_2 hs, hc.gsl, if_pos (by rw [i3_lt (by omega) (by omega)]; omega), if_pos (by rw [i3_lt (by omega) (by omega)]; omega), eM, i3_add, if_pos (by rw [i3_lt (by omega) (by omega)]; exact q), hp.gkp, i3_add, l49, h_84_49 hs, hc.gsl, if_neg (by rw [i3_lt (by omega) (by omega)]; omega), e118, aI_o, i3_in (by omega) q, gd_tt, i3_cl (by omega), i3_add]
        exact f1
      · by_cases z : j = i
        · subst z
          rw [f2 _ _ (by omega), sm_up_same]
        · exact f3 j (by omega) h2 h3
    · refine ⟨G, ?_, fun _ _ _ => rfl, fun j h1 h2 h3 => by omega⟩
      rw [h_84_2 hs, hc.gsl, if_pos (by rw [i3_lt (by omega) (by omega)]; omega), if_pos (by rw [i3_lt (by omega) (by omega)]; omega), eM, i3_add, if_neg (by rw [i3_lt (by omega) (by omega)]; exact q)]
/-! a night saved and brought back -/
theorem up_r {G : sm_G} {r s k j : Nat} {v : Int32} (h : s ≠ r) : sm_up G r k v s j = G s j := sm_up_ne (Or.inl h)
theorem s_149 {d x : Nat} {V : pV} {G : sm_G} {L : sm_L} {w u : Nat} (hw : pK w) (hu : pK u) (hd : w + 2 ≤ u ∨ u + 2 ≤ w) (hz : G u 10 = i3 0 ∨ G u 10 = i3 1) : ∃ G', sm_cv0 (d + 2) 149 342 (RR V) [.ref w, .ref u] (x, G, L) = oV x G' L ∧ (∀ r k, r ≠ w → r ≠ w + 1 → G' r k = G r k) ∧ (∀ k, 1 ≤ k → k ≤ 10 → G' w k = G u k) ∧ ∀ k, k < 6 → G' (w + 1) k = G (u + 1) k := by
  have kk : ∀ w, pK w → sm_is (w + 1) 342 20 = true := fun w hw => pK_all (P := fun w => sm_is (w + 1) 342 20 = true) hw rfl rfl rfl rfl rfl rfl rfl rfl rfl rfl rfl rfl rfl rfl rfl rfl
  have nk : ∀ w, pK w → sm_N (w + 1) = 6 := fun w hw => pK_all (P := fun w => sm_N (w + 1) = 6) hw (by decide +kernel) (by decide +kernel) (by decide +kernel) (by decide +kernel) (by decide +kernel) (by decide +kernel) (by decide +kernel) (by decide +kernel) (by decide +kernel) (by decide +kernel) (by decide +kernel) (by decide +kernel) (by decide +kernel) (by decide +kernel) (by decide +kernel) (by decide +kernel)
  have e3 := s_3 (d := d) (x := x) (V := V) (G := G) (L := L) (a := u + 1) (b := w + 1) (n := 6) (kk u hu) (kk w hw) (by decide) (by rw [nk u hu]; decide) (by rw [nk w hw]; decide)
  have hne : u ≠ w := by omega
  rw [m_149 hw hu, e3, aV_o]
  simp only [up_r hne]
  have a1 : ∀ r k, r ≠ w + 1 → sm_acp G (u + 1) 0 (w + 1) 0 6 r k = G r k := fun r k h => acp_ne (Or.inl h)
  have a2 : ∀ k, k < 6 → sm_acp G (u + 1) 0 (w + 1) 0 6 (w + 1) k = G (u + 1) k := fun k hk => acp_at hk
  generalize sm_acp G (u + 1) 0 (w + 1) 0 6 = X at a1 a2 ⊢
  have az : zd (X u 10) = fun (o : Option (sm_Res × sm_D)) => o := by
    funext o
    rw [a1 _ _ (by omega)]
    rcases hz with h | h <;> rw [h] <;> rfl
  rw [az]
  refine ⟨_, rfl, fun r k h1 h2 => ?_, fun k k1 k2 => ?_, fun k hk => ?_⟩
  · rw [sm_up_ne (by omega), sm_up_ne (by omega), sm_up_ne (by omega), sm_up_ne (by omega), sm_up_ne (by omega), sm_up_ne (by omega), sm_up_ne (by omega), sm_up_ne (by omega), sm_up_ne (by omega), sm_up_ne (by omega)]
    exact a1 r k h2
  · rw [← a1 u k (by omega)]
    obtain rfl | rfl | rfl | rfl | rfl | rfl | rfl | rfl | rfl | rfl : k = 1 ∨ k = 2 ∨ k = 3 ∨ k = 4 ∨ k = 5 ∨ k = 6 ∨ k = 7 ∨ k = 8 ∨ k = 9 ∨ k = 10 := by omega
    all_goals
      repeat (first | rw [sm_up_same] | rw [sm_up_ne (by omega)])
  · rw [sm_up_ne (by omega), sm_up_ne (by omega), sm_up_ne (by omega), sm_up_ne (by omega), sm_up_ne (by omega), sm_up_ne (by omega), sm_up_ne (by omega), sm_up_ne (by omega), sm_up_ne (by omega), sm_up_ne (by omega)]
    exact a2 k hk
/-- the cells of one dreamer at w are those at u -/
def cpy (G' G : sm_G) (w u : Nat) : Prop := (∀ k, 1 ≤ k → k ≤ 10 → G' w k = G u k) ∧ ∀ k, k < 6 → G' (w + 1) k = G (u + 1) k
theorem s_99 {d x : Nat} {V : pV} {G : sm_G} {L : sm_L} {b : Nat} (hb : pN b) (hz : ∀ f, f < 4 → G (b + 5 + 4 * f) 10 = i3 0 ∨ G (b + 5 + 4 * f) 10 = i3 1) : ∃ G', sm_cv0 (d + 3) 99 342 (RR V) [.ref b] (x, G, L) = oV x G' L ∧ (∀ r k, (∀ f, f < 4 → r ≠ b + 7 + 4 * f ∧ r ≠ b + 8 + 4 * f) → ¬ (r = b ∧ k = 5) → G' r k = G r k) ∧ G' b 5 = G b 4 ∧ ∀ f, f < 4 → cpy G' G (b + 7 + 4 * f) (b + 5 + 4 * f) := by
  have hbl := pN_lt hb
  rw [m_99 hb]
  refine loopE (H := fun i (g : sm_G) => hD (d + 2) 99 2 [.ref b, .int (i3 i)] 342 (RR V) x g L) (Q := fun o' => ∃ G', o' = oV x G' L ∧ (∀ r k, (∀ f, f < 4 → r ≠ b + 7 + 4 * f ∧ r ≠ b + 8 + 4 * f) → ¬ (r = b ∧ k = 5) → G' r k = G r k) ∧ G' b 5 = G b 4 ∧ ∀ f, f < 4 → cpy G' G (b + 7 + 4 * f) (b + 5 + 4 * f)) (N := 4)
    (fun i g => (∀ r k, (∀ f, f < i → r ≠ b + 7 + 4 * f ∧ r ≠ b + 8 + 4 * f) → g r k = G r k) ∧ ∀ f, f < i → cpy g G (b + 7 + 4 * f) (b + 5 + 4 * f)) ?_ ?_ 4 0 G (by omega) ⟨fun _ _ _ => rfl, fun f h => by omega⟩
  · rintro i g hi ⟨w1, w2⟩
    obtain ⟨g', a1, a2, a3, a4⟩ := s_149 (d := d) (x := x) (V := V) (G := g) (L := L) (ks_b hb hi) (kw_b hb hi) (by omega) (by rw [w1 _ _ (fun f hf => by omega)]; exact hz i hi)
    refine ⟨g', ?_, fun r k a => by rw [a2 r k (by have := (a i (by omega)).1; omega) (by have := (a i (by omega)).2; omega)]; exact w1 r k (fun f hf => a f (by omega)), fun f hf => ?_⟩
    · show hD (d + 2) 99 2 _ 342 (RR V) x g L = _
      rw [h_99_2 hb, if_pos (show i3 i < i3 4 by rw [i3_lt (by omega) (by omega)]; exact hi), i3_in (by omega) hi, gd_tt, gd_tt, i3_cl (by omega), rs_b hb hi, rw_b hb hi, iw_K (ks_b hb hi), gd_tt, a1, aV_o, i3_add]
    · by_cases q : f = i
      · subst q
        refine ⟨fun k k1 k2 => ?_, fun k hk => ?_⟩
        · rw [a3 k k1 k2]; exact w1 _ _ (fun f hf => by omega)
        · rw [a4 k hk]; exact w1 _ _ (fun f hf => by omega)
      · obtain ⟨c1, c2⟩ := w2 f (by omega)
        refine ⟨fun k k1 k2 => ?_, fun k hk => ?_⟩
        · rw [a2 _ _ (by omega) (by omega)]; exact c1 k k1 k2
        · rw [a2 _ _ (by omega) (by omega)]; exact c2 k hk
  · rintro g ⟨w1, w2⟩
    refine ⟨sm_up g b 5 (g b 4), ?_, fun r k h1 h2 => by rw [sm_up_ne (by omega)]; exact w1 r k h1, by rw [sm_up_same]; exact w1 _ _ (fun f hf => by omega), fun f hf => ⟨fun k k1 k2 => ?_, fun k hk => ?_⟩⟩
    · show hD (d + 2) 99 2 _ 342 (RR V) x g L = _
      rw [h_99_2 hb, if_neg (by decide)]
    · rw [sm_up_ne (by omega)]; exact (w2 f hf).1 k k1 k2
    · rw [sm_up_ne (by omega)]; exact (w2 f hf).2 k hk
theorem s_100 {d x : Nat} {V : pV} {G : sm_G} {L : sm_L} {b : Nat} (hb : pN b) (hz : ∀ f, f < 4 → G (b + 7 + 4 * f) 10 = i3 0 ∨ G (b + 7 + 4 * f) 10 = i3 1) : ∃ G', sm_cv0 (d + 3) 100 342 (RR V) [.ref b] (x, G, L) = oV x G' L ∧ (∀ r k, (∀ f, f < 4 → r ≠ b + 5 + 4 * f ∧ r ≠ b + 6 + 4 * f) → ¬ (r = b ∧ k = 4) → G' r k = G r k) ∧ G' b 4 = G b 5 ∧ ∀ f, f < 4 → cpy G' G (b + 5 + 4 * f) (b + 7 + 4 * f) := by
  have hbl := pN_lt hb
  rw [m_100 hb]
  refine loopE (H := fun i (g : sm_G) => hD (d + 2) 100 2 [.ref b, .int (i3 i)] 342 (RR V) x g L) (Q := fun o' => ∃ G', o' = oV x G' L ∧ (∀ r k, (∀ f, f < 4 → r ≠ b + 5 + 4 * f ∧ r ≠ b + 6 + 4 * f) → ¬ (r = b ∧ k = 4) → G' r k = G r k) ∧ G' b 4 = G b 5 ∧ ∀ f, f < 4 → cpy G' G (b + 5 + 4 * f) (b + 7 + 4 * f)) (N := 4)
    (fun i g => (∀ r k, (∀ f, f < i → r ≠ b + 5 + 4 * f ∧ r ≠ b + 6 + 4 * f) → g r k = G r k) ∧ ∀ f, f < i → cpy g G (b + 5 + 4 * f) (b + 7 + 4 * f)) ?_ ?_ 4 0 G (by omega) ⟨fun _ _ _ => rfl, fun f h => by omega⟩
  · rintro i g hi ⟨w1, w2⟩
    obtain ⟨g', a1, a2, a3, a4⟩ := s_149 (d := d) (x := x) (V := V) (G := g) (L := L) (kw_b hb hi) (ks_b hb hi) (by omega) (by rw [w1 _ _ (fun f hf => by omega)]; exact hz i hi)
    refine ⟨g', ?_, fun r k a => by rw [a2 r k (by have := (a i (by omega)).1; omega) (by have := (a i (by omega)).2; omega)]; exact w1 r k (fun f hf => a f (by omega)), fun f hf => ?_⟩
    · show hD (d + 2) 100 2 _ 342 (RR V) x g L = _
      rw [h_100_2 hb, if_pos (show i3 i < i3 4 by rw [i3_lt (by omega) (by omega)]; exact hi), i3_in (by omega) hi, gd_tt, gd_tt, i3_cl (by omega), rs_b hb hi, rw_b hb hi, iw_K (kw_b hb hi), gd_tt, a1, aV_o, i3_add]
    · by_cases q : f = i
      · subst q
        refine ⟨fun k k1 k2 => ?_, fun k hk => ?_⟩
        · rw [a3 k k1 k2]; exact w1 _ _ (fun f hf => by omega)
        · rw [a4 k hk]; exact w1 _ _ (fun f hf => by omega)
      · obtain ⟨c1, c2⟩ := w2 f (by omega)
        refine ⟨fun k k1 k2 => ?_, fun k hk => ?_⟩
        · rw [a2 _ _ (by omega) (by omega)]; exact c1 k k1 k2
        · rw [a2 _ _ (by omega) (by omega)]; exact c2 k hk
  · rintro g ⟨w1, w2⟩
    refine ⟨sm_up g b 4 (g b 5), ?_, fun r k h1 h2 => by rw [sm_up_ne (by omega)]; exact w1 r k h1, by rw [sm_up_same]; exact w1 _ _ (fun f hf => by omega), fun f hf => ⟨fun k k1 k2 => ?_, fun k hk => ?_⟩⟩
    · show hD (d + 2) 100 2 _ 342 (RR V) x g L = _
      rw [h_100_2 hb, if_neg (by decide)]
    · rw [sm_up_ne (by omega)]; exact (w2 f hf).1 k k1 k2
    · rw [sm_up_ne (by omega)]; exact (w2 f hf).2 k hk
