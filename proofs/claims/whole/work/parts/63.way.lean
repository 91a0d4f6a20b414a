/-- the model's way: the least bit -/
theorem l_251 {d x : Nat} {V : pV} {G : sm_G} {L : sm_L} {v j m2 : Nat} (hv : v < 256) (h0 : 0 < v) : ∀ n i, i + n = low1 v → hD d 285 251 [.ref 156, .null, .null, .null, .int (i3 m2), .null, .int (i3 i), .int (i3 j), .int (i3 v)] 342 (RR V) x G L = hD d 285 221 [.ref 156, .null, .null, .null, .int (i3 m2), .null, .int (i3 (low1 v)), .int (i3 (j + 1)), .null] 342 (RR V) x G L := by
  obtain ⟨b1, b2⟩ := low1_t v hv h0
  have h8 := tb_lt8 hv b1
  intro n
  induction n with
  | zero =>
    intro i hi
    have : i = low1 v := by omega
    subst this
    rw [h_285_251]
    simp (disch := omega) only [i3_add, i3_mul, i3_sub, i3_m1, i3_lt, i3_le, i3_eq, m1_lt, lt_m1, m1_le, le_m1, i3_nm1, m1_ni3, i3_cl, i3_in, i3_or, i3_and, i3_xor, i3_shl, i3_shr, sh_tb, tb_eq0, gd_tt, aI_o, aV_o, aL_o, aR_o, zd_0, zd_1, if_true, if_false, ite_self, eq_self, Bool.true_eq_false, Bool.false_eq_true, bi_0, bi_1, bi_zd, Nat.not_lt_zero, b1]
  | succ n ih =>
    intro i hi
    have b3 := b2 i (by omega)
    rw [h_285_251]
    simp (disch := omega) only [i3_add, i3_mul, i3_sub, i3_m1, i3_lt, i3_le, i3_eq, m1_lt, lt_m1, m1_le, le_m1, i3_nm1, m1_ni3, i3_cl, i3_in, i3_or, i3_and, i3_xor, i3_shl, i3_shr, sh_tb, tb_eq0, gd_tt, aI_o, aV_o, aL_o, aR_o, zd_0, zd_1, if_true, if_false, ite_self, eq_self, Bool.true_eq_false, Bool.false_eq_true, bi_0, bi_1, bi_zd, Nat.not_lt_zero, b3, ih (i + 1) (by omega)]
theorem l_221 {d x : Nat} {V : pV} {G : sm_G} {L : sm_L} {T P : pT} {K : Nat} {t dm : Nat → Nat} {b last m2 m : Nat} (hm : mH G T P K) (hT : okT T) (hw : mW G t dm) (hl : last < 301) (h2 : m2 < last) (hg : ∀ j, m ≤ j → j ≤ last → G 331 j = i3 (gB T t dm b last j)) :
    ∀ n i c, i + n = m2 → m ≤ i → c < 8 → (gB T t dm b last i).testBit c = true → hD (d + 1) 285 221 [.ref 156, .null, .null, .null, .int (i3 m2), .null, .int (i3 c), .int (i3 (i + 1)), .null] 342 (RR V) x G L = oI (i3 (wlk T t dm (gB T t dm b last) n (i + 1) c)) x G L := by
  intro n
  induction n with
  | zero =>
    intro i c h3 h4 h5 h6
    rw [h_285_221]
    simp (disch := omega) only [i3_add, i3_mul, i3_sub, i3_m1, i3_lt, i3_le, i3_eq, m1_lt, lt_m1, m1_le, le_m1, i3_nm1, m1_ni3, i3_cl, i3_in, i3_or, i3_and, i3_xor, i3_shl, i3_shr, sh_tb, tb_eq0, gd_tt, aI_o, aV_o, aL_o, aR_o, zd_0, zd_1, if_true, if_false, ite_self, eq_self, Bool.true_eq_false, Bool.false_eq_true, bi_0, bi_1, bi_zd, Nat.not_lt_zero, show ¬ i + 1 ≤ m2 by omega]
    rfl
  | succ n ih =>
    intro i c h3 h4 h5 h6
    obtain ⟨o1, o2, o3⟩ := one9 c h5
    obtain ⟨w1, w2, w3, w4⟩ := way_on (T := T) (dm := dm) (b := b) (c := c) (fun m hm => (hw m hm).2.2.1) hl (show i < last by omega) h6
    have e280 := s_280 (d := d) (x := x) (L := L) (V := V) (m := i + 1) hm hT hw o1 (by omega)
    have e331 : G 331 (i + 1) = i3 (gB T t dm b last (i + 1)) := hg (i + 1) (by omega) (by omega)
    have e251 := l_251 (d := d + 1) (x := x) (L := L) (V := V) (G := G) (j := i + 1) (m2 := m2) w2 w1 _ 0 (Nat.zero_add _)
    have ih := ih (i + 1) _ (by omega) (by omega) w3 w4
    rw [h_285_221]
    unfold stp at ih
    simp (disch := omega) only [i3_add, i3_mul, i3_sub, i3_m1, i3_lt, i3_le, i3_eq, m1_lt, lt_m1, m1_le, le_m1, i3_nm1, m1_ni3, i3_cl, i3_in, i3_or, i3_and, i3_xor, i3_shl, i3_shr, sh_tb, tb_eq0, gd_tt, aI_o, aV_o, aL_o, aR_o, zd_0, zd_1, if_true, if_false, ite_self, eq_self, Bool.true_eq_false, Bool.false_eq_true, bi_0, bi_1, bi_zd, Nat.not_lt_zero, show i + 1 ≤ m2 by omega, e280, e331, e251, ih]
    rfl
/-- one minute back -/
def wf (T : pT) (t dm : Nat → Nat) (b last j i : Nat) : Bool := (t j).testBit i && decide (nxt T t dm (1 <<< i) (j + 1) &&& gB T t dm b last (j + 1) ≠ 0)
theorem wf_ok {T : pT} {t dm : Nat → Nat} {b last j : Nat} (hj : j < last) (ht : t j < 2 ^ sl T) : bs (wf T t dm b last j) (sl T) = gB T t dm b last j := by
  apply eqb
  intro k
  have hn : last - j = (last - (j + 1)) + 1 := by omega
  have e1 : last - (last - (j + 1)) = j + 1 := by omega
  have hg := gbk_sub T t dm (1 <<< b) 0 last (last - (j + 1))
  rw [e1] at hg
  rw [bs_tb]
  show _ = (gbk T t dm (1 <<< b) 0 last (last - j)).testBit k
  rw [hn]
  show _ = ((bhi T (gbk T t dm (1 <<< b) 0 last (last - (j + 1))) (dm (last - (last - (j + 1)))) (gbk T t dm (1 <<< b) 0 last (last - (j + 1))) ||| 0) &&& t (last - (last - (j + 1)) - 1)).testBit k
  rw [e1, Nat.or_zero, show j + 1 - 1 = j from rfl, Nat.testBit_and]
  unfold wf nxt
  show (decide (k < sl T) && ((t j).testBit k && decide (bhi T (1 <<< k) (dm (j + 1)) (1 <<< k) &&& t (j + 1) &&& gbk T t dm (1 <<< b) 0 last (last - (j + 1)) ≠ 0))) = _
  rw [Nat.and_assoc, hg]
  generalize gbk T t dm (1 <<< b) 0 last (last - (j + 1)) = A
  have hs := bhi_sym T (1 <<< k) A (dm (j + 1))
  rw [Nat.and_comm (1 <<< k), one_and] at hs
  cases q : (t j).testBit k
  · simp
  · have hk : k < sl T := by
      cases Nat.lt_or_ge k (sl T) with
      | inl h => exact h
      | inr h =>
        rw [Nat.testBit_lt_two_pow (Nat.lt_of_lt_of_le ht (Nat.pow_le_pow_right (by decide) h))] at q
        cases q
    rw [decide_eq_true hk, Bool.true_and, Bool.true_and, Bool.and_true]
    cases q2 : (bhi T A (dm (j + 1)) A).testBit k
    · exact decide_eq_false (fun z => z (hs.mpr q2))
    · exact decide_eq_true (fun z => by rw [hs.mp z] at q2; cases q2)
theorem l_131 {d x : Nat} {V : pV} {G : sm_G} {L : sm_L} {T P : pT} {K : Nat} {t dm : Nat → Nat} {a m b last m2 j : Nat} (hm : mH G T P K) (hT : okT T) (hP : okP T P) (hw : mW G t dm) (hl : last < 301) (hj : j < last) (ht : t j < 2 ^ sl T) (hg : G 331 (j + 1) = i3 (gB T t dm b last (j + 1))) :
    ∀ n i g, i + n = sl T → (∀ r k, ¬ (r = 331 ∧ k = j) → g r k = G r k) → g 331 j = i3 (bs (wf T t dm b last j) i) → ∃ G', hD (d + 1) 285 131 [.ref 156, .int (i3 a), .int (i3 m), .null, .int (i3 m2), .null, .int (i3 j), .int (i3 i), .null] 342 (RR V) x g L = hD (d + 1) 285 114 [.ref 156, .int (i3 a), .int (i3 m), .null, .int (i3 m2), .null, .int (mi j), .null, .null] 342 (RR V) x G' L ∧ (∀ r k, ¬ (r = 331 ∧ k = j) → G' r k = G r k) ∧ G' 331 j = i3 (gB T t dm b last j) := by
  have hB := hT.gb
  intro n
  induction n with
  | zero =>
    intro i g h1 h2 h3
    have : i = sl T := by omega
    subst this
    have hm' : mH g T P K := hm.keep hT hP (fun r k h => h2 r k (by unfold inM at h; omega))
    refine ⟨g, ?_, h2, by rw [h3, wf_ok hj ht]⟩
    rw [h_285_131, hm'.gsl]
    simp (disch := omega) only [i3_add, i3_mul, i3_sub, i3_m1, i3_lt, i3_le, i3_eq, m1_lt, lt_m1, m1_le, le_m1, i3_nm1, m1_ni3, i3_cl, i3_in, i3_or, i3_and, i3_xor, i3_shl, i3_shr, sh_tb, tb_eq0, gd_tt, aI_o, aV_o, aL_o, aR_o, zd_0, zd_1, if_true, if_false, ite_self, eq_self, Bool.true_eq_false, Bool.false_eq_true, bi_0, bi_1, bi_zd, Nat.not_lt_zero, Nat.lt_irrefl, mi_pre]
  | succ n ih =>
    intro i g h1 h2 h3
    have hm' : mH g T P K := hm.keep hT hP (fun r k h => h2 r k (by unfold inM at h; omega))
    have hw' : mW g t dm := fun m hm => by rw [h2 307 _ (by omega), h2 308 _ (by omega)]; exact hw m hm
    have h5 := (hw' j (by omega)).2.2.1
    have e307 := (hw' j (by omega)).1
    obtain ⟨o1, o2, o3⟩ := one9 i (by omega)
    have e280 := s_280 (d := d) (x := x) (L := L) (V := V) (m := j + 1) hm' hT hw' o1 (by omega)
    have e331 : g 331 (j + 1) = i3 (gB T t dm b last (j + 1)) := by rw [h2 331 _ (by omega)]; exact hg
    have hx : nxt T t dm (1 <<< i) (j + 1) &&& gB T t dm b last (j + 1) < 2147483648 := by
      have := nxt_le T t dm (1 <<< i) (j + 1)
      have h7 := (hw' (j + 1) (by omega)).2.2.1
      exact Nat.lt_of_le_of_lt Nat.and_le_left (by omega)
    have hbs : bs (wf T t dm b last j) (i + 1) = bs (wf T t dm b last j) i ||| (if wf T t dm b last j i then 1 <<< i else 0) := rfl
    obtain ⟨G', f1, f2, f3⟩ := ih (i + 1) (sm_up g 331 j (i3 (bs (wf T t dm b last j) (i + 1)))) (by omega) (fun r k h => by rw [sm_up_ne (by omega)]; exact h2 r k h) (sm_up_same _ _ _ _)
    refine ⟨G', ?_, f2, f3⟩
    rw [← f1, h_285_131, hm'.gsl, hbs]
    unfold wf at *
    cases q : (t j).testBit i
    · simp (disch := omega) only [i3_add, i3_mul, i3_sub, i3_m1, i3_lt, i3_le, i3_eq, m1_lt, lt_m1, m1_le, le_m1, i3_nm1, m1_ni3, i3_cl, i3_in, i3_or, i3_and, i3_xor, i3_shl, i3_shr, sh_tb, tb_eq0, gd_tt, aI_o, aV_o, aL_o, aR_o, zd_0, zd_1, if_true, if_false, ite_self, eq_self, Bool.true_eq_false, Bool.false_eq_true, bi_0, bi_1, bi_zd, Nat.not_lt_zero, tb_eq1, show i < sl T by omega, e307, q, h3, Bool.false_and]
    · by_cases q2 : nxt T t dm (1 <<< i) (j + 1) &&& gB T t dm b last (j + 1) = 0
      · simp (disch := omega) only [i3_add, i3_mul, i3_sub, i3_m1, i3_lt, i3_le, i3_eq, m1_lt, lt_m1, m1_le, le_m1, i3_nm1, m1_ni3, i3_cl, i3_in, i3_or, i3_and, i3_xor, i3_shl, i3_shr, sh_tb, tb_eq0, gd_tt, aI_o, aV_o, aL_o, aR_o, zd_0, zd_1, if_true, if_false, ite_self, eq_self, Bool.true_eq_false, Bool.false_eq_true, bi_0, bi_1, bi_zd, Nat.not_lt_zero, tb_eq1, show i < sl T by omega, e307, q, h3, e280, e331, q2, Bool.true_and, ne_eq, not_true, decide_false]
      · simp (disch := omega) only [i3_add, i3_mul, i3_sub, i3_m1, i3_lt, i3_le, i3_eq, m1_lt, lt_m1, m1_le, le_m1, i3_nm1, m1_ni3, i3_cl, i3_in, i3_or, i3_and, i3_xor, i3_shl, i3_shr, sh_tb, tb_eq0, gd_tt, aI_o, aV_o, aL_o, aR_o, zd_0, zd_1, if_true, if_false, ite_self, eq_self, Bool.true_eq_false, Bool.false_eq_true, bi_0, bi_1, bi_zd, Nat.not_lt_zero, tb_eq1, show i < sl T by omega, e307, q, h3, e280, e331, q2, Bool.true_and, ne_eq, not_false_iff, decide_true]
