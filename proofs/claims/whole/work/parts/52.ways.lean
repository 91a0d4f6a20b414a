/-! ways -/
theorem mi_succ (m : Nat) : mi (m + 1) = i3 m := by
  unfold mi
  rw [if_neg (by omega)]
  rfl
theorem mi_zero : mi 0 = m1 := rfl
theorem pw8 {T : pT} (hT : okT T) {a : Nat} (h : a < 2 ^ sl T) : a < 256 := Nat.lt_of_lt_of_le h (show 2 ^ sl T ≤ 2 ^ 8 from Nat.pow_le_pow_right (by decide) hT.gb.1)
theorem bhi_or (T : pT) (r o a : Nat) : bhi T r o a = a ||| bhi T r o 0 := by
  unfold bhi
  have key : ∀ n a, itr (fun d a => if o.testBit d = false then a else (a ||| tb r (dA T d) <<< dB T d) ||| tb r (dB T d) <<< dA T d) 0 n a = a ||| itr (fun d a => if o.testBit d = false then a else (a ||| tb r (dA T d) <<< dB T d) ||| tb r (dB T d) <<< dA T d) 0 n 0 := by
    intro n
    induction n with
    | zero => intro a; exact (Nat.or_zero a).symm
    | succ n ih =>
      intro a
      rw [itr_succ, itr_succ, ih a]
      split
      · rfl
      · rw [Nat.or_assoc, Nat.or_assoc, Nat.or_assoc]
  exact key _ _
theorem tb_shl (a x y k : Nat) : (tb a x <<< y).testBit k = (decide (k = y) && a.testBit x) := by
  unfold tb
  cases a.testBit x
  · simp
  · simp only [if_true, Bool.and_true]
    rw [one_shl_tb]
    by_cases h : y = k
    · rw [decide_eq_true h, decide_eq_true h.symm]
    · rw [decide_eq_false h, decide_eq_false (fun z => h z.symm)]
theorem bhi_tb (T : pT) (r o k : Nat) : ∀ a, (bhi T r o a).testBit k = true ↔ a.testBit k = true ∨ ∃ d, d < dn T ∧ o.testBit d = true ∧ ((dB T d = k ∧ r.testBit (dA T d) = true) ∨ (dA T d = k ∧ r.testBit (dB T d) = true)) := by
  unfold bhi
  have key : ∀ n a, (itr (fun d a => if o.testBit d = false then a else (a ||| tb r (dA T d) <<< dB T d) ||| tb r (dB T d) <<< dA T d) 0 n a).testBit k = true ↔ a.testBit k = true ∨ ∃ d, d < n ∧ o.testBit d = true ∧ ((dB T d = k ∧ r.testBit (dA T d) = true) ∨ (dA T d = k ∧ r.testBit (dB T d) = true)) := by
    intro n
    induction n with
    | zero =>
      intro a
      constructor
      · exact Or.inl
      · rintro (h | ⟨d, hd, _⟩)
        · exact h
        · omega
    | succ n ih =>
      intro a
      rw [itr_succ, Nat.zero_add]
      have ih := ih a
      generalize itr (fun d a => if o.testBit d = false then a else (a ||| tb r (dA T d) <<< dB T d) ||| tb r (dB T d) <<< dA T d) 0 n a = z at ih ⊢
      have e : ∀ q : Prop, (q ∨ ∃ d, d < n + 1 ∧ o.testBit d = true ∧ ((dB T d = k ∧ r.testBit (dA T d) = true) ∨ (dA T d = k ∧ r.testBit (dB T d) = true))) ↔ ((q ∨ ∃ d, d < n ∧ o.testBit d = true ∧ ((dB T d = k ∧ r.testBit (dA T d) = true) ∨ (dA T d = k ∧ r.testBit (dB T d) = true))) ∨ (o.testBit n = true ∧ ((dB T n = k ∧ r.testBit (dA T n) = true) ∨ (dA T n = k ∧ r.testBit (dB T n) = true)))) := by
        intro q
        constructor
        · rintro (h | ⟨d, hd, h⟩)
          · exact Or.inl (Or.inl h)
          · by_cases hn : d = n
            · subst hn; exact Or.inr h
            · exact Or.inl (Or.inr ⟨d, by omega, h⟩)
        · rintro ((h | ⟨d, hd, h⟩) | h)
          · exact Or.inl h
          · exact Or.inr ⟨d, by omega, h⟩
          · exact Or.inr ⟨n, by omega, h⟩
      rw [e, ← ih]
      cases q : o.testBit n
      · simp
      · simp only [Bool.true_eq_false, if_false]
        rw [Nat.testBit_or, Nat.testBit_or, tb_shl, tb_shl, Bool.or_eq_true, Bool.or_eq_true, Bool.and_eq_true, Bool.and_eq_true, decide_eq_true_eq, decide_eq_true_eq]
        constructor
        · rintro ((h | ⟨h1, h2⟩) | ⟨h1, h2⟩)
          · exact Or.inl h
          · exact Or.inr ⟨trivial, Or.inl ⟨h1.symm, h2⟩⟩
          · exact Or.inr ⟨trivial, Or.inr ⟨h1.symm, h2⟩⟩
        · rintro (h | ⟨_, ⟨h1, h2⟩ | ⟨h1, h2⟩⟩)
          · exact Or.inl (Or.inl h)
          · exact Or.inl (Or.inr ⟨h1.symm, h2⟩)
          · exact Or.inr ⟨h1.symm, h2⟩
  exact key _
/-- a minute on: where one can be -/
def nxt (T : pT) (th dm : Nat → Nat) (R m : Nat) : Nat := bhi T R (dm m) R &&& th m
theorem nxt_0 (T : pT) (th dm : Nat → Nat) (m : Nat) : nxt T th dm 0 m = 0 := by
  apply eqb
  intro k
  unfold nxt
  rw [Nat.testBit_and, Nat.zero_testBit]
  have : (bhi T 0 (dm m) 0).testBit k = false := by
    cases h : (bhi T 0 (dm m) 0).testBit k with
    | false => rfl
    | true =>
      rw [bhi_tb] at h
      simp at h
  rw [this]
  rfl
theorem nxt_le (T : pT) (th dm : Nat → Nat) (R m : Nat) : nxt T th dm R m ≤ th m := Nat.and_le_right
/-- the first minute, and 1, in which b is among them -/
def fs (T : pT) (th dm : Nat → Nat) (b : Nat) : Nat → Nat → Nat → Nat
  | 0, _, _ => 0
  | n + 1, m, R => if R.testBit b = true then m + 1 else fs T th dm b n (m + 1) (nxt T th dm R (m + 1))
theorem fs_0 (T : pT) (th dm : Nat → Nat) (b : Nat) : ∀ n m, fs T th dm b n m 0 = 0
  | 0, _ => rfl
  | n + 1, m => by
    show (if (0 : Nat).testBit b = true then m + 1 else fs T th dm b n (m + 1) (nxt T th dm 0 (m + 1))) = 0
    rw [Nat.zero_testBit, nxt_0]
    exact fs_0 T th dm b n (m + 1)
/-- rooms and doors by minutes, as the class has them -/
def cW (G : sm_G) (t dm : Nat → Nat) : Prop := ∀ m, m < 301 → G 56 m = i3 (t m) ∧ G 57 m = i3 (dm m) ∧ t m < 256 ∧ dm m < 1024
def mW (G : sm_G) (t dm : Nat → Nat) : Prop := ∀ m, m < 301 → G 307 m = i3 (t m) ∧ G 308 m = i3 (dm m) ∧ t m < 256 ∧ dm m < 1024
theorem or_lt {a b n : Nat} (ha : a < 2 ^ n) (hb : b < 2 ^ n) : a ||| b < 2 ^ n := Nat.or_lt_two_pow ha hb
theorem s_158 {d x : Nat} {V : pV} {G : sm_G} {L : sm_L} {t dm : Nat → Nat} {E a m : Nat} (hw : cW G t dm) (hE : E < 256) (ha : a < 8) (hm : m < 301) : sm_cv0 (d + 1) 158 342 (RR V) [.ref 54, .int (i3 E), .int (i3 a), .int (i3 m)] (x, G, L) = oI (i3 (1 <<< a &&& (t m ||| E))) x G L := by
  rw [m_158]
  simp (disch := omega) only [i3_add, i3_mul, i3_sub, i3_m1, i3_lt, i3_le, i3_eq, m1_lt, lt_m1, m1_le, le_m1, i3_nm1, m1_ni3, i3_cl, i3_in, i3_or, i3_and, i3_xor, i3_shl, i3_shr, sh_tb, tb_eq0, gd_tt, aI_o, aV_o, aL_o, aR_o, zd_0, zd_1, if_true, if_false, ite_self, eq_self, Bool.true_eq_false, Bool.false_eq_true, bi_0, bi_1, bi_zd, Nat.not_lt_zero, (hw m hm).1]
theorem s_159 {d x : Nat} {V : pV} {G : sm_G} {L : sm_L} {s : Nat} {T : pT} {t dm : Nat → Nat} {E R m : Nat} (hs : pS s) (hc : cS G s T) (hT : okT T) (hw : cW G t dm) (hE : E < 256) (hR : R < 256) (hm : m < 301) : sm_cv0 (d + 2) 159 342 (RR V) [.ref s, .ref 54, .int (i3 E), .int (i3 R), .int (i3 m)] (x, G, L) = oI (i3 (nxt T (fun m => t m ||| E) dm R m)) x G L := by
  obtain ⟨h1, h2, h3, h4⟩ := hw m hm
  rw [m_159 hs]
  simp (disch := omega) only [i3_add, i3_mul, i3_sub, i3_m1, i3_lt, i3_le, i3_eq, m1_lt, lt_m1, m1_le, le_m1, i3_nm1, m1_ni3, i3_cl, i3_in, i3_or, i3_and, i3_xor, i3_shl, i3_shr, sh_tb, tb_eq0, gd_tt, aI_o, aV_o, aL_o, aR_o, zd_0, zd_1, if_true, if_false, ite_self, eq_self, Bool.true_eq_false, Bool.false_eq_true, bi_0, bi_1, bi_zd, Nat.not_lt_zero, h1, h2, s_119 hs hc hT (show R < 1024 by omega) h4]
  rw [← bhi_or]
  rfl
theorem s_280 {d x : Nat} {V : pV} {G : sm_G} {L : sm_L} {T P : pT} {K : Nat} {t dm : Nat → Nat} {R m : Nat} (hm : mH G T P K) (hT : okT T) (hw : mW G t dm) (hR : R < 256) (hmm : m < 301) : sm_cv0 (d + 1) 280 342 (RR V) [.ref 156, .int (i3 R), .int (i3 m)] (x, G, L) = oI (i3 (nxt T t dm R m)) x G L := by
  have hB := hT.gb
  obtain ⟨h1, h2, h3, h4⟩ := hw m hmm
  rw [m_280]
  unfold nxt bhi
  refine loop0 (H := fun i a => hD d 280 5 [.ref 156, .int (i3 R), .int (i3 m), .int (i3 a), .int (i3 i)] 342 (RR V) x G L) (out := fun a => oI (i3 (a &&& t m)) x G L) ?_ ?_ _
  · intro i a hi
    have h5 := hT.gdr i hi
    rw [h_280_5, hm.gdn]
    cases q : (dm m).testBit i
    · simp (disch := omega) only [i3_add, i3_mul, i3_sub, i3_m1, i3_lt, i3_le, i3_eq, m1_lt, lt_m1, m1_le, le_m1, i3_nm1, m1_ni3, i3_cl, i3_in, i3_or, i3_and, i3_xor, i3_shl, i3_shr, sh_tb, tb_eq0, gd_tt, aI_o, aV_o, aL_o, aR_o, zd_0, zd_1, if_true, if_false, ite_self, eq_self, Bool.true_eq_false, Bool.false_eq_true, bi_0, bi_1, bi_zd, Nat.not_lt_zero, hi, h2, q, h_280_88]
    · simp (disch := omega) only [i3_add, i3_mul, i3_sub, i3_m1, i3_lt, i3_le, i3_eq, m1_lt, lt_m1, m1_le, le_m1, i3_nm1, m1_ni3, i3_cl, i3_in, i3_or, i3_and, i3_xor, i3_shl, i3_shr, sh_tb, tb_eq0, gd_tt, aI_o, aV_o, aL_o, aR_o, zd_0, zd_1, if_true, if_false, ite_self, eq_self, Bool.true_eq_false, Bool.false_eq_true, bi_0, bi_1, bi_zd, Nat.not_lt_zero, hi, h2, q, h_280_88, rr_194, ldr_194, hm.gdA, hm.gdB]
  · intro a
    rw [h_280_5, hm.gdn]
    simp (disch := omega) only [i3_add, i3_mul, i3_sub, i3_m1, i3_lt, i3_le, i3_eq, m1_lt, lt_m1, m1_le, le_m1, i3_nm1, m1_ni3, i3_cl, i3_in, i3_or, i3_and, i3_xor, i3_shl, i3_shr, sh_tb, tb_eq0, gd_tt, aI_o, aV_o, aL_o, aR_o, zd_0, zd_1, if_true, if_false, ite_self, eq_self, Bool.true_eq_false, Bool.false_eq_true, bi_0, bi_1, bi_zd, Nat.not_lt_zero, Nat.lt_irrefl, h1]
theorem th_lt {t : Nat → Nat} {E m : Nat} (h : t m < 256) (hE : E < 256) : t m ||| E < 256 := or_lt (n := 8) h hE
/-- the class's first -/
theorem s_160 {d x : Nat} {V : pV} {G : sm_G} {L : sm_L} {s : Nat} {T : pT} {t dm : Nat → Nat} {E a b m : Nat} (hs : pS s) (hc : cS G s T) (hT : okT T) (hw : cW G t dm) (hE : E < 256) (ha : a < 8) (hb : b < 8) (hm : m < 301) :
    sm_cv0 (d + 3) 160 342 (RR V) [.ref 61, .ref s, .ref 54, .int (i3 E), .int (i3 a), .int (i3 m), .int (i3 b)] (x, G, L) = oI (mi (fs T (fun m => t m ||| E) dm b (301 - m) m (1 <<< a &&& (t m ||| E)))) x G L := by
  rw [m_160 hs, s_158 hw hE ha hm]
  simp only [aI_o]
  have later : ∀ n i R, i + n = 301 → m < i → R < 256 → hD (d + 2) 160 15 [.null, .ref s, .ref 54, .int (i3 E), .null, .int (i3 m), .int (i3 b), .int (i3 R), .int (i3 i)] 342 (RR V) x G L = oI (mi (fs T (fun m => t m ||| E) dm b n i (nxt T (fun m => t m ||| E) dm R i))) x G L := by
    intro n
    induction n with
    | zero =>
      intro i R h1 h2 h3
      rw [h_160_15 hs]
      simp (disch := omega) only [i3_add, i3_mul, i3_sub, i3_m1, i3_lt, i3_le, i3_eq, m1_lt, lt_m1, m1_le, le_m1, i3_nm1, m1_ni3, i3_cl, i3_in, i3_or, i3_and, i3_xor, i3_shl, i3_shr, sh_tb, tb_eq0, gd_tt, aI_o, aV_o, aL_o, aR_o, zd_0, zd_1, if_true, if_false, ite_self, eq_self, Bool.true_eq_false, Bool.false_eq_true, bi_0, bi_1, bi_zd, Nat.not_lt_zero, show ¬ i ≤ 300 by omega]
      rfl
    | succ n ih =>
      intro i R h1 h2 h3
      rw [h_160_15 hs]
      by_cases q : R = 0
      · simp (disch := omega) only [i3_add, i3_mul, i3_sub, i3_m1, i3_lt, i3_le, i3_eq, m1_lt, lt_m1, m1_le, le_m1, i3_nm1, m1_ni3, i3_cl, i3_in, i3_or, i3_and, i3_xor, i3_shl, i3_shr, sh_tb, tb_eq0, gd_tt, aI_o, aV_o, aL_o, aR_o, zd_0, zd_1, if_true, if_false, ite_self, eq_self, Bool.true_eq_false, Bool.false_eq_true, bi_0, bi_1, bi_zd, Nat.not_lt_zero, show i ≤ 300 by omega, q, nxt_0, fs_0]
        rfl
      · have hlt : nxt T (fun m => t m ||| E) dm R i < 256 := Nat.lt_of_le_of_lt (nxt_le _ _ _ _ _) (th_lt (hw i (by omega)).2.2.1 hE)
        have e := s_159 (d := d) (x := x) (L := L) (V := V) hs hc hT hw hE h3 (show i < 301 by omega)
        have ih := ih (i + 1) _ (by omega) (by omega) hlt
        show _ = oI (mi (if (nxt T (fun m => t m ||| E) dm R i).testBit b = true then i + 1 else fs T (fun m => t m ||| E) dm b n (i + 1) (nxt T (fun m => t m ||| E) dm (nxt T (fun m => t m ||| E) dm R i) (i + 1)))) x G L
        cases q2 : (nxt T (fun m => t m ||| E) dm R i).testBit b
        · simp (disch := omega) only [i3_add, i3_mul, i3_sub, i3_m1, i3_lt, i3_le, i3_eq, m1_lt, lt_m1, m1_le, le_m1, i3_nm1, m1_ni3, i3_cl, i3_in, i3_or, i3_and, i3_xor, i3_shl, i3_shr, sh_tb, tb_eq0, gd_tt, aI_o, aV_o, aL_o, aR_o, zd_0, zd_1, if_true, if_false, ite_self, eq_self, Bool.true_eq_false, Bool.false_eq_true, bi_0, bi_1, bi_zd, Nat.not_lt_zero, show i ≤ 300 by omega, q, show ¬ i ≤ m by omega, e, q2, ih]
        · simp (disch := omega) only [i3_add, i3_mul, i3_sub, i3_m1, i3_lt, i3_le, i3_eq, m1_lt, lt_m1, m1_le, le_m1, i3_nm1, m1_ni3, i3_cl, i3_in, i3_or, i3_and, i3_xor, i3_shl, i3_shr, sh_tb, tb_eq0, gd_tt, aI_o, aV_o, aL_o, aR_o, zd_0, zd_1, if_true, if_false, ite_self, eq_self, Bool.true_eq_false, Bool.false_eq_true, bi_0, bi_1, bi_zd, Nat.not_lt_zero, show i ≤ 300 by omega, q, show ¬ i ≤ m by omega, e, q2, mi_succ]
  have hR : 1 <<< a &&& (t m ||| E) < 256 := Nat.lt_of_le_of_lt Nat.and_le_right (th_lt (hw m hm).2.2.1 hE)
  obtain ⟨n, hn⟩ : ∃ n, 301 - m = n + 1 := ⟨300 - m, by omega⟩
  rw [hn, h_160_15 hs]
  generalize 1 <<< a &&& (t m ||| E) = R at hR ⊢
  by_cases q : R = 0
  · simp (disch := omega) only [i3_add, i3_mul, i3_sub, i3_m1, i3_lt, i3_le, i3_eq, m1_lt, lt_m1, m1_le, le_m1, i3_nm1, m1_ni3, i3_cl, i3_in, i3_or, i3_and, i3_xor, i3_shl, i3_shr, sh_tb, tb_eq0, gd_tt, aI_o, aV_o, aL_o, aR_o, zd_0, zd_1, if_true, if_false, ite_self, eq_self, Bool.true_eq_false, Bool.false_eq_true, bi_0, bi_1, bi_zd, Nat.not_lt_zero, show m ≤ 300 by omega, q, fs_0]
    rfl
  · have ih := later n (m + 1) R (by omega) (by omega) hR
    show _ = oI (mi (if R.testBit b = true then m + 1 else fs T (fun m => t m ||| E) dm b n (m + 1) (nxt T (fun m => t m ||| E) dm R (m + 1)))) x G L
    cases q2 : R.testBit b
    · simp (disch := omega) only [i3_add, i3_mul, i3_sub, i3_m1, i3_lt, i3_le, i3_eq, m1_lt, lt_m1, m1_le, le_m1, i3_nm1, m1_ni3, i3_cl, i3_in, i3_or, i3_and, i3_xor, i3_shl, i3_shr, sh_tb, tb_eq0, gd_tt, aI_o, aV_o, aL_o, aR_o, zd_0, zd_1, if_true, if_false, ite_self, eq_self, Bool.true_eq_false, Bool.false_eq_true, bi_0, bi_1, bi_zd, Nat.not_lt_zero, show m ≤ 300 by omega, q, Nat.le_refl, q2, ih]
    · simp (disch := omega) only [i3_add, i3_mul, i3_sub, i3_m1, i3_lt, i3_le, i3_eq, m1_lt, lt_m1, m1_le, le_m1, i3_nm1, m1_ni3, i3_cl, i3_in, i3_or, i3_and, i3_xor, i3_shl, i3_shr, sh_tb, tb_eq0, gd_tt, aI_o, aV_o, aL_o, aR_o, zd_0, zd_1, if_true, if_false, ite_self, eq_self, Bool.true_eq_false, Bool.false_eq_true, bi_0, bi_1, bi_zd, Nat.not_lt_zero, show m ≤ 300 by omega, q, Nat.le_refl, q2, mi_succ]
/-- the model's -/
theorem s_284 {d x : Nat} {V : pV} {G : sm_G} {L : sm_L} {T P : pT} {K : Nat} {t dm : Nat → Nat} {a b m e : Nat} (hm : mH G T P K) (hT : okT T) (hw : mW G t dm) (ha : a < 8) (hb : b < 8) (hmm : m < 301) (he : e < 301) :
    sm_cv0 (d + 2) 284 342 (RR V) [.ref 156, .int (i3 a), .int (i3 m), .int (i3 b), .int (i3 e)] (x, G, L) = oI (mi (fs T t dm b (e + 1 - m) m (1 <<< a &&& t m))) x G L := by
  obtain ⟨h1, h2, h3, h4⟩ := hw m hmm
  rw [m_284]
  simp (disch := omega) only [i3_add, i3_mul, i3_sub, i3_m1, i3_lt, i3_le, i3_eq, m1_lt, lt_m1, m1_le, le_m1, i3_nm1, m1_ni3, i3_cl, i3_in, i3_or, i3_and, i3_xor, i3_shl, i3_shr, sh_tb, tb_eq0, gd_tt, aI_o, aV_o, aL_o, aR_o, zd_0, zd_1, if_true, if_false, ite_self, eq_self, Bool.true_eq_false, Bool.false_eq_true, bi_0, bi_1, bi_zd, Nat.not_lt_zero, h1]
  have later : ∀ n i R, i + n = e + 1 → m < i → R < 256 → hD (d + 1) 284 15 [.ref 156, .null, .int (i3 m), .int (i3 b), .int (i3 e), .int (i3 R), .int (i3 i)] 342 (RR V) x G L = oI (mi (fs T t dm b n i (nxt T t dm R i))) x G L := by
    intro n
    induction n with
    | zero =>
      intro i R h1 h2 h3
      rw [h_284_15]
      simp (disch := omega) only [i3_add, i3_mul, i3_sub, i3_m1, i3_lt, i3_le, i3_eq, m1_lt, lt_m1, m1_le, le_m1, i3_nm1, m1_ni3, i3_cl, i3_in, i3_or, i3_and, i3_xor, i3_shl, i3_shr, sh_tb, tb_eq0, gd_tt, aI_o, aV_o, aL_o, aR_o, zd_0, zd_1, if_true, if_false, ite_self, eq_self, Bool.true_eq_false, Bool.false_eq_true, bi_0, bi_1, bi_zd, Nat.not_lt_zero, show ¬ i ≤ e by omega]
      rfl
    | succ n ih =>
      intro i R h1 h2 h3
      have hlt : nxt T t dm R i < 256 := Nat.lt_of_le_of_lt (nxt_le _ _ _ _ _) (hw i (by omega)).2.2.1
      have e1 := s_280 (d := d) (x := x) (L := L) (V := V) hm hT hw h3 (show i < 301 by omega)
      have ih := ih (i + 1) _ (by omega) (by omega) hlt
      rw [h_284_15]
      show _ = oI (mi (if (nxt T t dm R i).testBit b = true then i + 1 else fs T t dm b n (i + 1) (nxt T t dm (nxt T t dm R i) (i + 1)))) x G L
      cases q2 : (nxt T t dm R i).testBit b
      · simp (disch := omega) only [i3_add, i3_mul, i3_sub, i3_m1, i3_lt, i3_le, i3_eq, m1_lt, lt_m1, m1_le, le_m1, i3_nm1, m1_ni3, i3_cl, i3_in, i3_or, i3_and, i3_xor, i3_shl, i3_shr, sh_tb, tb_eq0, gd_tt, aI_o, aV_o, aL_o, aR_o, zd_0, zd_1, if_true, if_false, ite_self, eq_self, Bool.true_eq_false, Bool.false_eq_true, bi_0, bi_1, bi_zd, Nat.not_lt_zero, tb_eq1, show i ≤ e by omega, show ¬ i = m by omega, e1, q2, ih]
      · simp (disch := omega) only [i3_add, i3_mul, i3_sub, i3_m1, i3_lt, i3_le, i3_eq, m1_lt, lt_m1, m1_le, le_m1, i3_nm1, m1_ni3, i3_cl, i3_in, i3_or, i3_and, i3_xor, i3_shl, i3_shr, sh_tb, tb_eq0, gd_tt, aI_o, aV_o, aL_o, aR_o, zd_0, zd_1, if_true, if_false, ite_self, eq_self, Bool.true_eq_false, Bool.false_eq_true, bi_0, bi_1, bi_zd, Nat.not_lt_zero, tb_eq1, show i ≤ e by omega, show ¬ i = m by omega, e1, q2, mi_succ]
  have hR : 1 <<< a &&& t m < 256 := Nat.lt_of_le_of_lt Nat.and_le_right h3
  by_cases hem : m ≤ e
  · obtain ⟨n, hn⟩ : ∃ n, e + 1 - m = n + 1 := ⟨e - m, by omega⟩
    rw [hn, h_284_15]
    generalize 1 <<< a &&& t m = R at hR ⊢
    have ih := later n (m + 1) R (by omega) (by omega) hR
    show _ = oI (mi (if R.testBit b = true then m + 1 else fs T t dm b n (m + 1) (nxt T t dm R (m + 1)))) x G L
    cases q2 : R.testBit b
    · simp (disch := omega) only [i3_add, i3_mul, i3_sub, i3_m1, i3_lt, i3_le, i3_eq, m1_lt, lt_m1, m1_le, le_m1, i3_nm1, m1_ni3, i3_cl, i3_in, i3_or, i3_and, i3_xor, i3_shl, i3_shr, sh_tb, tb_eq0, gd_tt, aI_o, aV_o, aL_o, aR_o, zd_0, zd_1, if_true, if_false, ite_self, eq_self, Bool.true_eq_false, Bool.false_eq_true, bi_0, bi_1, bi_zd, Nat.not_lt_zero, tb_eq1, hem, q2, ih]
    · simp (disch := omega) only [i3_add, i3_mul, i3_sub, i3_m1, i3_lt, i3_le, i3_eq, m1_lt, lt_m1, m1_le, le_m1, i3_nm1, m1_ni3, i3_cl, i3_in, i3_or, i3_and, i3_xor, i3_shl, i3_shr, sh_tb, tb_eq0, gd_tt, aI_o, aV_o, aL_o, aR_o, zd_0, zd_1, if_true, if_false, ite_self, eq_self, Bool.true_eq_false, Bool.false_eq_true, bi_0, bi_1, bi_zd, Nat.not_lt_zero, tb_eq1, hem, q2, mi_succ]
  · rw [show e + 1 - m = 0 by omega, h_284_15]
    simp (disch := omega) only [i3_add, i3_mul, i3_sub, i3_m1, i3_lt, i3_le, i3_eq, m1_lt, lt_m1, m1_le, le_m1, i3_nm1, m1_ni3, i3_cl, i3_in, i3_or, i3_and, i3_xor, i3_shl, i3_shr, sh_tb, tb_eq0, gd_tt, aI_o, aV_o, aL_o, aR_o, zd_0, zd_1, if_true, if_false, ite_self, eq_self, Bool.true_eq_false, Bool.false_eq_true, bi_0, bi_1, bi_zd, Nat.not_lt_zero, hem]
    rfl
