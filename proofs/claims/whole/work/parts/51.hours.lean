/-- when one wakes at the latest -/
def en (T P : pT) (k : Nat) : Nat := if mk T = 0 then un P k else (if mk T - 1 + k < un P k then mk T - 1 + k else un P k)
theorem slp0_en {T P : pT} {K k m : Nat} (hm : m < 1000) : slp0 T P K k m = (K.testBit k || decide (fr P k ≤ m ∧ m < en T P k)) := by
  unfold slp0 slp en
  congr 1
  rw [Bool.eq_iff_iff]
  simp only [Bool.and_eq_true, Bool.or_eq_true, decide_eq_true_eq]
  split
  · next h => constructor
              · rintro ⟨⟨⟨a, b⟩, c⟩, e⟩; exact ⟨a, b⟩
              · rintro ⟨a, b⟩; exact ⟨⟨⟨a, b⟩, Or.inl h⟩, hm⟩
  · next h =>
    split
    · constructor
      · rintro ⟨⟨⟨a, b⟩, c⟩, e⟩; omega
      · rintro ⟨a, b⟩; exact ⟨⟨⟨a, by omega⟩, Or.inr (by omega)⟩, hm⟩
    · constructor
      · rintro ⟨⟨⟨a, b⟩, c⟩, e⟩; exact ⟨a, b⟩
      · rintro ⟨a, b⟩; exact ⟨⟨⟨a, b⟩, Or.inr (by omega)⟩, hm⟩
theorem aB_en {T P : pT} {K m : Nat} (hK : K < 2 ^ sl T) (hm : m < 1000) : aB T P K m = K ||| bs (fun j => decide (fr P j ≤ m ∧ m < en T P j)) (sl T) := by
  apply eqb
  intro k
  rw [aB_tb, Nat.testBit_or, bs_tb, slp0_en hm]
  by_cases hk : k < sl T
  · rw [decide_eq_true hk, Bool.true_and, Bool.true_and]
  · rw [decide_eq_false hk, Bool.false_and, Bool.false_and, tb_ge hK (by omega)]
    rfl
theorem s_78 {d x : Nat} {V : pV} {G : sm_G} {L : sm_L} {s K : Nat} {T P : pT} (hs : pS s) (hc : cS G s T) (hp : cP G (s + 1) T P K) (hT : okT T) (hP : okP T P) (hK : K < 2 ^ sl T) : ∃ G', sm_cv0 (d + 3) 78 342 (RR V) [.ref 54, .ref s] (x, G, L) = oV x G' L ∧ (∀ r k, r < 55 ∨ 59 < r → G' r k = G r k) ∧ (∀ k, G' 58 k = G 58 k) ∧ (∀ m, m < 301 → G' 55 m = i3 (aB T P K m)) ∧ (∀ m, m < 301 → G' 56 m = i3 (tB T P K m)) ∧ ∀ m, m < 301 → G' 57 m = i3 (dat T P m) := by
  have hB := hT.gb
  have hB2 := hP.gb
  have hsl := pS_lt hs
  have hK2 : K < 1024 := Nat.lt_of_lt_of_le hK (show 2 ^ sl T ≤ 2 ^ 10 from Nat.pow_le_pow_right (by decide) (by omega))
  rw [m_78 hs, hp.gkp, s_6 (c := 55) (N := 301) rfl rfl rfl (by omega)]
  simp only [aV_o]
  refine loopE (H := fun i (g : sm_G) => hD (d + 2) 78 16 [.ref 54, .ref s, .int (i3 i), .null] 342 (RR V) x g L) (Q := fun o => ∃ G', o = oV x G' L ∧ (∀ r k, r < 55 ∨ 59 < r → G' r k = G r k) ∧ (∀ k, G' 58 k = G 58 k) ∧ (∀ m, m < 301 → G' 55 m = i3 (aB T P K m)) ∧ (∀ m, m < 301 → G' 56 m = i3 (tB T P K m)) ∧ ∀ m, m < 301 → G' 57 m = i3 (dat T P m)) (N := sl T)
    (fun i g => (∀ r k, r ≠ 55 → r ≠ 59 → g r k = G r k) ∧ ∀ m, m < 301 → g 55 m = i3 (K ||| bs (fun j => decide (fr P j ≤ m ∧ m < en T P j)) i)) ?_ ?_ (sl T) 0 _ (by omega) ⟨fun r k h _ => fill_ne h, fun m hm => by rw [fill_at hm]; show i3 K = i3 (K ||| 0); rw [Nat.or_zero]⟩
  · rintro k g hk ⟨hg, hg2⟩
    have hgk : ∀ r j, s ≤ r → g r j = G r j := fun r j h => hg r j (by omega) (by omega)
    have hc' : cS g s T := hc.keep (fun r k h => hgk r k (by unfold inC at h; omega))
    have hp' : cP g (s + 1) T P K := hp.keep (fun r k h1 h2 => hgk r k (by omega))
    have hsp := hP.gsp k hk
    have e1 := hp'.gfr k hk
    have e2 := hp'.gun k hk
    rw [show s + 1 + 3 = s + 4 by omega] at e1
    rw [show s + 1 + 4 = s + 5 by omega] at e2
    have hen : en T P k ≤ 700 := by unfold en; split; omega; split <;> omega
    -- the row's own loop
    have inner : ∀ g1 : sm_G, (∀ r j, r ≠ 59 → g1 r j = g r j) → g1 59 k = i3 (en T P k) → ∃ g2, hD (d + 2) 78 77 [.ref 54, .ref s, .int (i3 k), .int (i3 (fr P k))] 342 (RR V) x g1 L = hD (d + 2) 78 16 [.ref 54, .ref s, .int (i3 (k + 1)), .null] 342 (RR V) x g2 L ∧ (∀ r j, r ≠ 55 → r ≠ 59 → g2 r j = G r j) ∧ ∀ m, m < 301 → g2 55 m = i3 (K ||| bs (fun j => decide (fr P j ≤ m ∧ m < en T P j)) (k + 1)) := by
      intro g1 h1 h59
      have hend : ∀ (g2 : sm_G) (i : Nat), (∀ r j, r ≠ 55 → g2 r j = g1 r j) → i < 1000 → ¬ (i < en T P k ∧ i < 301) → hD (d + 2) 78 77 [.ref 54, .ref s, .int (i3 k), .int (i3 i)] 342 (RR V) x g2 L = hD (d + 2) 78 16 [.ref 54, .ref s, .int (i3 (k + 1)), .null] 342 (RR V) x g2 L := by
        intro g2 i h2 hi hn
        have e59 : g2 59 k = i3 (en T P k) := by rw [h2 59 k (by decide)]; exact h59
        rw [h_78_77 hs]
        by_cases q : i < en T P k
        · simp (disch := omega) only [i3_add, i3_mul, i3_sub, i3_m1, i3_lt, i3_le, i3_eq, m1_lt, lt_m1, m1_le, le_m1, i3_nm1, m1_ni3, i3_cl, i3_in, i3_or, i3_and, i3_xor, i3_shl, i3_shr, sh_tb, tb_eq0, gd_tt, aI_o, aV_o, aL_o, aR_o, zd_0, zd_1, if_true, if_false, ite_self, eq_self, Bool.true_eq_false, Bool.false_eq_true, bi_0, bi_1, bi_zd, Nat.not_lt_zero, e59, q, show ¬ i < 301 from fun z => hn ⟨q, z⟩]
        · simp (disch := omega) only [i3_add, i3_mul, i3_sub, i3_m1, i3_lt, i3_le, i3_eq, m1_lt, lt_m1, m1_le, le_m1, i3_nm1, m1_ni3, i3_cl, i3_in, i3_or, i3_and, i3_xor, i3_shl, i3_shr, sh_tb, tb_eq0, gd_tt, aI_o, aV_o, aL_o, aR_o, zd_0, zd_1, if_true, if_false, ite_self, eq_self, Bool.true_eq_false, Bool.false_eq_true, bi_0, bi_1, bi_zd, Nat.not_lt_zero, e59, q]
      have fin : ∀ g2 : sm_G, (∀ r j, r ≠ 55 → g2 r j = g1 r j) → (∀ m, m < 301 → g2 55 m = i3 ((K ||| bs (fun j => decide (fr P j ≤ m ∧ m < en T P j)) k) ||| if fr P k ≤ m ∧ m < en T P k then 1 <<< k else 0)) → (∀ r j, r ≠ 55 → r ≠ 59 → g2 r j = G r j) ∧ ∀ m, m < 301 → g2 55 m = i3 (K ||| bs (fun j => decide (fr P j ≤ m ∧ m < en T P j)) (k + 1)) := by
        intro g2 h2 h3
        refine ⟨fun r j q1 q2 => by rw [h2 r j q1, h1 r j q2]; exact hg r j q1 q2, fun m hm => ?_⟩
        rw [h3 m hm, Nat.or_assoc]
        congr 2
        show _ = bs (fun j => decide (fr P j ≤ m ∧ m < en T P j)) k ||| (if decide (fr P k ≤ m ∧ m < en T P k) = true then 1 <<< k else 0)
        simp only [decide_eq_true_eq]
      by_cases hfe : fr P k < en T P k ∧ fr P k < 301
      · have hE : ∃ E, (E = en T P k ∨ E = 301) ∧ fr P k < E ∧ E ≤ 301 ∧ E ≤ en T P k := by
          by_cases z : en T P k ≤ 301
          · exact ⟨_, Or.inl rfl, hfe.1, z, Nat.le_refl _⟩
          · exact ⟨301, Or.inr rfl, hfe.2, Nat.le_refl _, by omega⟩
        obtain ⟨E, hE1, hE2, hE3, hE4⟩ := hE
        refine loopE (H := fun i (g2 : sm_G) => hD (d + 2) 78 77 [.ref 54, .ref s, .int (i3 k), .int (i3 i)] 342 (RR V) x g2 L) (Q := fun o => ∃ g2, o = hD (d + 2) 78 16 [.ref 54, .ref s, .int (i3 (k + 1)), .null] 342 (RR V) x g2 L ∧ (∀ r j, r ≠ 55 → r ≠ 59 → g2 r j = G r j) ∧ ∀ m, m < 301 → g2 55 m = i3 (K ||| bs (fun j => decide (fr P j ≤ m ∧ m < en T P j)) (k + 1))) (N := E)
          (fun i g2 => fr P k ≤ i ∧ (∀ r j, r ≠ 55 → g2 r j = g1 r j) ∧ ∀ m, m < 301 → g2 55 m = i3 ((K ||| bs (fun j => decide (fr P j ≤ m ∧ m < en T P j)) k) ||| if fr P k ≤ m ∧ m < i then 1 <<< k else 0)) ?_ ?_ (E - fr P k) (fr P k) g1 (by omega) ⟨Nat.le_refl _, fun _ _ _ => rfl, fun m hm => by rw [if_neg (by omega), Nat.or_zero, h1 55 m (by decide)]; exact hg2 m hm⟩
        · rintro i g2 hi ⟨hif, h2, h3⟩
          · have e59 : g2 59 k = i3 (en T P k) := by rw [h2 59 k (by decide)]; exact h59
            have e55 := h3 i (by omega)
            rw [if_neg (by omega), Nat.or_zero] at e55
            refine ⟨sm_up g2 55 i (i3 ((K ||| bs (fun j => decide (fr P j ≤ i ∧ i < en T P j)) k) ||| 1 <<< k)), ?_, by omega, fun r j h => by rw [sm_up_ne (Or.inl h)]; exact h2 r j h, fun m hm => ?_⟩
            · rw [h_78_77 hs]
              simp (disch := omega) only [i3_add, i3_mul, i3_sub, i3_m1, i3_lt, i3_le, i3_eq, m1_lt, lt_m1, m1_le, le_m1, i3_nm1, m1_ni3, i3_cl, i3_in, i3_or, i3_and, i3_xor, i3_shl, i3_shr, sh_tb, tb_eq0, gd_tt, aI_o, aV_o, aL_o, aR_o, zd_0, zd_1, if_true, if_false, ite_self, eq_self, Bool.true_eq_false, Bool.false_eq_true, bi_0, bi_1, bi_zd, Nat.not_lt_zero, e59, e55, show i < en T P k by omega, show i < 301 by omega]
            · by_cases q : m = i
              · subst q
                rw [sm_up_same, if_pos (by omega)]
              · rw [sm_up_ne (Or.inr q), h3 m hm]
                by_cases q2 : fr P k ≤ m ∧ m < i
                · rw [if_pos q2, if_pos (by omega)]
                · rw [if_neg q2, if_neg (by omega)]
        · rintro g2 ⟨_, h2, h3⟩
          refine ⟨g2, hend g2 E h2 (by omega) (by omega), fin g2 h2 (fun m hm => ?_)⟩
          rw [h3 m hm]
          by_cases q : fr P k ≤ m ∧ m < E
          · rw [if_pos q, if_pos (by omega)]
          · rw [if_neg q, if_neg (by omega)]
      · refine ⟨g1, hend g1 (fr P k) (fun _ _ _ => rfl) (by omega) hfe, fin g1 (fun _ _ _ => rfl) (fun m hm => ?_)⟩
        rw [if_neg (by omega), Nat.or_zero, h1 55 m (by decide)]
        exact hg2 m hm
    have hmk := hc'.gmk
    obtain ⟨g2, i1, i2⟩ := inner (sm_up g 59 k (i3 (en T P k))) (fun r j h => sm_up_ne (Or.inl h)) (sm_up_same g 59 k _)
    refine ⟨g2, ?_, i2⟩
    rw [← i1, h_78_16 hs, hc'.gsl, hmk]
    have e4 : (sm_up g 59 k (i3 (en T P k))) (s + 4) k = i3 (fr P k) := by rw [sm_up_ne (Or.inl (by omega))]; exact e1
    by_cases q : mk T = 0
    · have hen2 : en T P k = un P k := if_pos q
      rw [hen2] at e4 ⊢
      simp (disch := omega) only [i3_add, i3_mul, i3_sub, i3_m1, i3_lt, i3_le, i3_eq, m1_lt, lt_m1, m1_le, le_m1, i3_nm1, m1_ni3, i3_cl, i3_in, i3_or, i3_and, i3_xor, i3_shl, i3_shr, sh_tb, tb_eq0, gd_tt, aI_o, aV_o, aL_o, aR_o, zd_0, zd_1, if_true, if_false, ite_self, eq_self, Bool.true_eq_false, Bool.false_eq_true, bi_0, bi_1, bi_zd, Nat.not_lt_zero, hk, mi_lt0, q, e2, e4]
    · have hen2 : en T P k = if mk T - 1 + k < un P k then mk T - 1 + k else un P k := if_neg q
      by_cases q2 : mk T - 1 + k < un P k
      · rw [if_pos q2] at hen2
        rw [hen2] at e4 ⊢
        simp (disch := omega) only [i3_add, i3_mul, i3_sub, i3_m1, i3_lt, i3_le, i3_eq, m1_lt, lt_m1, m1_le, le_m1, i3_nm1, m1_ni3, i3_cl, i3_in, i3_or, i3_and, i3_xor, i3_shl, i3_shr, sh_tb, tb_eq0, gd_tt, aI_o, aV_o, aL_o, aR_o, zd_0, zd_1, if_true, if_false, ite_self, eq_self, Bool.true_eq_false, Bool.false_eq_true, bi_0, bi_1, bi_zd, Nat.not_lt_zero, hk, mi_lt0, q, mi_s, e2, s_4, q2, e4]
      · rw [if_neg q2] at hen2
        rw [hen2] at e4 ⊢
        simp (disch := omega) only [i3_add, i3_mul, i3_sub, i3_m1, i3_lt, i3_le, i3_eq, m1_lt, lt_m1, m1_le, le_m1, i3_nm1, m1_ni3, i3_cl, i3_in, i3_or, i3_and, i3_xor, i3_shl, i3_shr, sh_tb, tb_eq0, gd_tt, aI_o, aV_o, aL_o, aR_o, zd_0, zd_1, if_true, if_false, ite_self, eq_self, Bool.true_eq_false, Bool.false_eq_true, bi_0, bi_1, bi_zd, Nat.not_lt_zero, hk, mi_lt0, q, mi_s, e2, s_4, q2, e4]
  · rintro g ⟨hg, hg2⟩
    have hgk : ∀ r j, s ≤ r → g r j = G r j := fun r j h => hg r j (by omega) (by omega)
    have hc' : cS g s T := hc.keep (fun r k h => hgk r k (by unfold inC at h; omega))
    rw [h_78_16 hs, hc'.gsl]
    simp (disch := omega) only [i3_add, i3_mul, i3_sub, i3_m1, i3_lt, i3_le, i3_eq, m1_lt, lt_m1, m1_le, le_m1, i3_nm1, m1_ni3, i3_cl, i3_in, i3_or, i3_and, i3_xor, i3_shl, i3_shr, sh_tb, tb_eq0, gd_tt, aI_o, aV_o, aL_o, aR_o, zd_0, zd_1, if_true, if_false, ite_self, eq_self, Bool.true_eq_false, Bool.false_eq_true, bi_0, bi_1, bi_zd, Nat.not_lt_zero, Nat.lt_irrefl]
    refine loopE (H := fun i (g2 : sm_G) => hD (d + 2) 78 120 [.ref 54, .ref s, .int (i3 i), .null] 342 (RR V) x g2 L) (Q := fun o => ∃ G', o = oV x G' L ∧ (∀ r k, r < 55 ∨ 59 < r → G' r k = G r k) ∧ (∀ k, G' 58 k = G 58 k) ∧ (∀ m, m < 301 → G' 55 m = i3 (aB T P K m)) ∧ (∀ m, m < 301 → G' 56 m = i3 (tB T P K m)) ∧ ∀ m, m < 301 → G' 57 m = i3 (dat T P m)) (N := 301)
      (fun i g2 => (∀ r j, r ≠ 56 → g2 r j = g r j) ∧ ∀ m, m < i → g2 56 m = i3 (tB T P K m)) ?_ ?_ 301 0 g (by omega) ⟨fun _ _ _ => rfl, fun m hm => absurd hm (Nat.not_lt_zero m)⟩
    · rintro m g2 hm ⟨h2, h3⟩
      have hc2 : cS g2 s T := hc'.keep (fun r k h => h2 r k (by unfold inC at h; omega))
      have e55 : g2 55 m = i3 (aB T P K m) := by rw [h2 55 m (by decide), hg2 m hm, aB_en hK (by omega)]
      have hab : aB T P K m < 2 ^ sl T := bs_lt _ _
      have hab2 : aB T P K m < 1024 := Nat.lt_of_lt_of_le hab (show 2 ^ sl T ≤ 2 ^ 10 from Nat.pow_le_pow_right (by decide) (by omega))
      have hrm : rmB T (aB T P K m).testBit = tB T P K m := by
        unfold rmB tB rmB
        apply eqb
        intro r
        rw [bs_tb, bs_tb]
        by_cases hr : r < sl T
        · rw [aB_tb, aB_tb, decide_eq_true hr]
          by_cases h0 : tp T r = 0
          · simp [h0]
          · have := hT.gtp r hr
            rw [decide_eq_true (show tp T r - 1 < sl T by omega)]
            simp
        · rw [decide_eq_false hr, Bool.false_and, Bool.false_and]
      refine ⟨sm_up g2 56 m (i3 (tB T P K m)), ?_, fun r j h => by rw [sm_up_ne (Or.inl h)]; exact h2 r j h, fun j hj => ?_⟩
      · rw [h_78_120 hs]
        simp (disch := omega) only [i3_add, i3_mul, i3_sub, i3_m1, i3_lt, i3_le, i3_eq, m1_lt, lt_m1, m1_le, le_m1, i3_nm1, m1_ni3, i3_cl, i3_in, i3_or, i3_and, i3_xor, i3_shl, i3_shr, sh_tb, tb_eq0, gd_tt, aI_o, aV_o, aL_o, aR_o, zd_0, zd_1, if_true, if_false, ite_self, eq_self, Bool.true_eq_false, Bool.false_eq_true, bi_0, bi_1, bi_zd, Nat.not_lt_zero, hm, e55, s_118 hs hc2 hT hab hab2, hrm]
      · by_cases q : j = m
        · subst q; exact sm_up_same _ _ _ _
        · rw [sm_up_ne (Or.inr q)]
          exact h3 j (by omega)
    · rintro g2 ⟨h2, h3⟩
      have hgk2 : ∀ r j, s ≤ r → g2 r j = G r j := fun r j h => by rw [h2 r j (by omega)]; exact hgk r j h
      have hc2 : cS g2 s T := hc.keep (fun r k h => hgk2 r k (by unfold inC at h; omega))
      have hp2 : cP g2 (s + 1) T P K := hp.keep (fun r k h1 h2 => hgk2 r k (by omega))
      obtain ⟨G', f1, f2, f3⟩ := s_79 (d := d) (x := x) (L := L) (V := V) hs hc2 hp2 hT hP
      refine ⟨G', ?_, fun r k h => ?_, fun k => ?_, fun m hm => ?_, fun m hm => ?_, f3⟩
      · rw [h_78_120 hs, f1]
        simp (disch := omega) only [i3_add, i3_mul, i3_sub, i3_m1, i3_lt, i3_le, i3_eq, m1_lt, lt_m1, m1_le, le_m1, i3_nm1, m1_ni3, i3_cl, i3_in, i3_or, i3_and, i3_xor, i3_shl, i3_shr, sh_tb, tb_eq0, gd_tt, aI_o, aV_o, aL_o, aR_o, zd_0, zd_1, if_true, if_false, ite_self, eq_self, Bool.true_eq_false, Bool.false_eq_true, bi_0, bi_1, bi_zd, Nat.not_lt_zero, Nat.lt_irrefl]
      · rw [f2 r k (by omega), h2 r k (by omega)]
        exact hg r k (by omega) (by omega)
      · rw [f2 58 k (by omega), h2 58 k (by omega)]
        exact hg 58 k (by omega) (by omega)
      · rw [f2 55 m (by omega), h2 55 m (by omega), hg2 m hm, aB_en hK (by omega)]
      · rw [f2 56 m (by omega)]
        exact h3 m hm
