/-! the surest way -/
abbrev bT : Type := Option (Nat × Nat × Nat)
def scl (P l : Nat) : Nat := P * 2 ^ (4 * (8 - l))
def upS (b : bT) (P l m : Nat) : bT := match b with
  | none => some (P, l, m)
  | some (P', l', m') => if scl P l < scl P' l' then some (P', l', m') else if scl P l = scl P' l' then (if l < l' then some (P, l, m) else some (P', l', m')) else some (P, l, m)
def okC (P l m : Nat) : Prop := 1 ≤ P ∧ P ≤ 16 ^ l ∧ l ≤ 8 ∧ m < 10 ^ l
def okB (b : bT) : Prop := match b with
  | none => True
  | some (P, l, m) => okC P l m ∧ 1 ≤ l
theorem scl_le {P l m : Nat} (h : okC P l m) : 1 ≤ scl P l ∧ scl P l ≤ 4294967296 := by
  obtain ⟨h1, h2, h3, h4⟩ := h
  have h0 : 0 < 2 ^ (4 * (8 - l)) := Nat.two_pow_pos _
  have e : 16 ^ l * 2 ^ (4 * (8 - l)) = 4294967296 := by
    rw [show (16 : Nat) = 2 ^ 4 from rfl, ← Nat.pow_mul, ← Nat.pow_add, show 4 * l + 4 * (8 - l) = 32 by omega]
  refine ⟨Nat.mul_pos h1 h0, ?_⟩
  rw [← e]
  exact Nat.mul_le_mul_right _ h2
theorem okC_b {P l m : Nat} (h : okC P l m) : P ≤ 4294967296 ∧ m < 100000000 := by
  obtain ⟨h1, h2, h3, h4⟩ := h
  have a := Nat.pow_le_pow_right (n := 16) (by decide) h3
  have b := Nat.pow_le_pow_right (n := 10) (by decide) h3
  omega
theorem upS_ok {b : bT} {P l m : Nat} (hb : okB b) (h : okC P l m) (hl : 1 ≤ l) : okB (upS b P l m) := by
  cases b with
  | none => exact ⟨h, hl⟩
  | some c =>
    obtain ⟨P', l', m'⟩ := c
    unfold upS
    simp only
    split
    · exact hb
    · split
      · split
        · exact ⟨h, hl⟩
        · exact hb
      · exact ⟨h, hl⟩
def cEn (g : sm_G) (L : sm_L) (b : bT) : Prop := match b with
  | none => g 108 2 = i3 0 ∧ L 108 0 = i6 0
  | some (P, l, m) => g 108 2 = i3 l ∧ g 108 3 = i3 m ∧ L 108 0 = i6 (scl P l) ∧ L 108 1 = i6 P
def mEn (g : sm_G) (L : sm_L) (b : bT) : Prop := match b with
  | none => g 156 64 = m1
  | some (P, l, m) => g 156 64 = i3 l ∧ L 156 62 = i6 (scl P l) ∧ L 156 63 = i6 m
theorem s_152 {d x : Nat} {V : pV} {G : sm_G} {L : sm_L} {b : bT} {P l m : Nat} (hb : okB b) (h : okC P l m) (hl : 1 ≤ l) (he : cEn G L b) : ∃ g' L', sm_cv0 (d + 1) 152 342 (RR V) [.ref 108, .int (i3 l), .long (i6 P), .int (i3 m)] (x, G, L) = oV x g' L' ∧ (∀ r k, r ≠ 108 → g' r k = G r k) ∧ cEn g' L' (upS b P l m) := by
  obtain ⟨s1, s2⟩ := scl_le h
  have hl8 := h.2.2.1
  have e1 : lshl (i6 P) (i3 4 * (i3 8 - i3 l)) = i6 (scl P l) := by
    rw [i3_sub hl8, i3_mul, i6_shl (by omega)]
    rfl
  have new : ∃ g' L', hD d 152 38 [.ref 108, .int (i3 l), .long (i6 P), .null, .int (i3 m), .long (i6 (scl P l)), .null] 342 (RR V) x G L = oV x g' L' ∧ (∀ r k, r ≠ 108 → g' r k = G r k) ∧ cEn g' L' (some (P, l, m)) := by
    refine ⟨_, _, h_152_38, fun r k a => by rw [sm_up_ne (by omega), sm_up_ne (by omega)], by rw [sm_up_ne (by omega), sm_up_same], sm_up_same _ _ _ _, ?_, ?_⟩
    · unfold sm_up
      rfl
    · unfold sm_up
      rfl
  rw [m_152, e1]
  cases b with
  | none =>
    obtain ⟨h1, h2⟩ := he
    rw [h2]
    rw [if_neg (by rw [i6_lt (by omega) (by omega)]; omega), if_neg (by rw [i6_eq (by omega) (by omega)]; omega)]
    exact new
  | some c =>
    obtain ⟨P', l', m'⟩ := c
    have hs' := scl_le hb.1
    have hl' := hb.1.2.2.1
    have he0 := he
    obtain ⟨h1, h2, h3, h4⟩ := he
    rw [h3, h1]
    simp (disch := omega) only [i6_lt, i6_eq, i3_lt]
    unfold upS
    simp only
    by_cases q1 : scl P l < scl P' l'
    · simp only [if_pos q1]
      exact ⟨G, L, rfl, fun _ _ _ => rfl, he0⟩
    · simp only [if_neg q1]
      by_cases q2 : scl P l = scl P' l'
      · simp only [if_pos q2]
        by_cases q3 : l < l'
        · simp only [if_pos q3]
          exact new
        · simp only [if_neg q3]
          exact ⟨G, L, rfl, fun _ _ _ => rfl, he0⟩
      · simp only [if_neg q2]
        exact new
def srch (T : pT) (b : Nat) : Nat → Nat → Nat → Nat → Nat → Nat → bT → bT
  | 0, _, _, _, _, _, z => z
  | n + 1, vis, v, l, P, m, z => if v = b then upS z (P * (16 - wt T v)) (l + 1) (m * 10 + v) else itr (fun j z => if ((bhi T (1 <<< v) (fo T) 0).testBit j && !(vis ||| 1 <<< v).testBit j) = true then srch T b n (vis ||| 1 <<< v) j (l + 1) (P * (16 - wt T v)) (m * 10 + v) z else z) 0 (sl T) z
theorem vis_ok : ∀ vis, vis < 256 → ∀ v, v < 8 → vis.testBit v = false → pc vis 10 ≤ 7 ∧ pc (vis ||| 1 <<< v) 10 = pc vis 10 + 1 ∧ (vis ||| 1 <<< v) < 256 := by decide +kernel
theorem okC_s {P l m w v : Nat} (h : okC P l m) (hl : l < 8) (hw : w ≤ 15) (hv : v < 8) : okC (P * (16 - w)) (l + 1) (m * 10 + v) := by
  obtain ⟨h1, h2, h3, h4⟩ := h
  refine ⟨Nat.mul_pos h1 (by omega), ?_, by omega, ?_⟩
  · rw [Nat.pow_succ]
    exact Nat.mul_le_mul h2 (by omega)
  · rw [Nat.pow_succ]
    omega
theorem s_151 {T : pT} {b : Nat} {V : pV} (hV : okV V) (hT : okT T) (hb8 : b < 8) : ∀ (n d x : Nat) (g : sm_G) (L : sm_L) (vis v l P m : Nat) (z : bT), n + l = 8 → pc vis 10 = l → vis < 256 → vis.testBit v = false → v < sl T → okC P l m → okB z → cS g V.1 T → cEn g L z → ∃ g' L', sm_cv0 (d + n + 1) 151 342 (RR V) [.ref 108, .ref V.1, .int (i3 v), .int (i3 b), .int (i3 l), .int (i3 vis), .long (i6 P), .int (i3 m)] (x, g, L) = oV x g' L' ∧ (∀ r k, r ≠ 108 → g' r k = g r k) ∧ cEn g' L' (srch T b n vis v l P m z) ∧ okB (srch T b n vis v l P m z) := by
  have hB := hT.gb
  have hsl := pS_lt hV.1
  intro n
  induction n with
  | zero =>
    intro d x g L vis v l P m z hn hpc hvis htb hv _ _ _ _
    have := (vis_ok vis hvis v (by omega) htb).1
    omega
  | succ n ih =>
    intro d x g L vis v l P m z hn hpc hvis htb hv hC hz hS hE
    obtain ⟨a1, a2, a3⟩ := vis_ok vis hvis v (by omega) htb
    have hw := hT.gwt v hv
    have hC2 := okC_s hC (by omega) hw (show v < 8 by omega)
    obtain ⟨bP, bm⟩ := okC_b hC
    obtain ⟨bP2, bm2⟩ := okC_b hC2
    have ew := hS.gwt v hv
    have e1 : i6 P * Int32.toInt64 (i3 (16 - wt T v)) = i6 (P * (16 - wt T v)) := by rw [i6_of (by omega), i6_mul]
    show ∃ g' L', sm_cv0 (d + (n + 1) + 1) 151 _ _ _ _ = _ ∧ _ ∧ cEn g' L' (if v = b then upS z (P * (16 - wt T v)) (l + 1) (m * 10 + v) else itr (fun j z => if ((bhi T (1 <<< v) (fo T) 0).testBit j && !(vis ||| 1 <<< v).testBit j) = true then srch T b n (vis ||| 1 <<< v) j (l + 1) (P * (16 - wt T v)) (m * 10 + v) z else z) 0 (sl T) z) ∧ okB (if v = b then upS z (P * (16 - wt T v)) (l + 1) (m * 10 + v) else itr (fun j z => if ((bhi T (1 <<< v) (fo T) 0).testBit j && !(vis ||| 1 <<< v).testBit j) = true then srch T b n (vis ||| 1 <<< v) j (l + 1) (P * (16 - wt T v)) (m * 10 + v) z else z) 0 (sl T) z)
    rw [m_151 hV.1]
    simp (disch := omega) only [i3_add, i3_mul, i3_sub, i3_m1, i3_lt, i3_le, i3_eq, m1_lt, lt_m1, m1_le, le_m1, i3_nm1, m1_ni3, i3_cl, i3_in, i3_or, i3_and, i3_xor, i3_shl, i3_shr, sh_tb, tb_eq0, gd_tt, aI_o, aV_o, aL_o, aR_o, zd_0, zd_1, if_true, if_false, ite_self, eq_self, Bool.true_eq_false, Bool.false_eq_true, bi_0, bi_1, bi_zd, Nat.not_lt_zero, ew, e1, show l < 8 by omega, show v < 8 by omega]
    rw [h_151_41 hV.1]
    simp (disch := omega) only [i3_add, i3_mul, i3_sub, i3_m1, i3_lt, i3_le, i3_eq, m1_lt, lt_m1, m1_le, le_m1, i3_nm1, m1_ni3, i3_cl, i3_in, i3_or, i3_and, i3_xor, i3_shl, i3_shr, sh_tb, tb_eq0, gd_tt, aI_o, aV_o, aL_o, aR_o, zd_0, zd_1, if_true, if_false, ite_self, eq_self, Bool.true_eq_false, Bool.false_eq_true, bi_0, bi_1, bi_zd, Nat.not_lt_zero]
    by_cases q : v = b
    · obtain ⟨g', L', k1, k2, k3⟩ := s_152 (d := d + n) (x := x) (V := V) (m := m * 10 + v) hz hC2 (by omega) hE
      simp only [if_pos q]
      refine ⟨g', L', ?_, k2, k3, upS_ok hz hC2 (by omega)⟩
      have k1' : sm_cv0 (d + (n + 1)) 152 342 (RR V) [.ref 108, .int (i3 (l + 1)), .long (i6 (P * (16 - wt T v))), .int (i3 (m * 10 + v))] (x, g, L) = oV x g' L' := k1
      rw [k1']
      rfl
    · simp only [if_neg q]
      have hbl := bhi_lt hT (r := 1 <<< v) (o := fo T)
      have hfo : fo T < 1024 := Nat.lt_of_lt_of_le (bs_lt _ _) (Nat.pow_le_pow_right (n := 2) (by decide) hB.2.1)
      have h1v : 1 <<< v < 1024 := by
        rw [Nat.one_shiftLeft]
        exact Nat.lt_of_lt_of_le (Nat.pow_lt_pow_right (by decide) (show v < 9 by omega)) (by decide)
      have e119 := s_119 (d := d + n) (x := x) (V := V) (G := g) (L := L) hV.1 hS hT h1v hfo
      have e119' : sm_cv0 (d + (n + 1)) 119 342 (RR V) [.ref V.1, .int (i3 (1 <<< v)), .int (i3 (fo T))] (x, g, L) = oI (i3 (bhi T (1 <<< v) (fo T) 0)) x g L := e119
      rw [hS.gfo, e119']
      simp only [aI_o]
      rw [i3_andn]
      have hcand : ∀ j, (bhi T (1 <<< v) (fo T) 0 ^^^ (bhi T (1 <<< v) (fo T) 0 &&& (vis ||| 1 <<< v))).testBit j = ((bhi T (1 <<< v) (fo T) 0).testBit j && !(vis ||| 1 <<< v).testBit j) := fun j => by
        rw [Nat.testBit_xor, Nat.testBit_and]
        cases (bhi T (1 <<< v) (fo T) 0).testBit j <;> cases (vis ||| 1 <<< v).testBit j <;> rfl
      have hbl2 : bhi T (1 <<< v) (fo T) 0 < 2 ^ 8 := hbl
      have hcl : bhi T (1 <<< v) (fo T) 0 ^^^ (bhi T (1 <<< v) (fo T) 0 &&& (vis ||| 1 <<< v)) < 2 ^ 8 := Nat.xor_lt_two_pow (n := 8) hbl2 (Nat.lt_of_le_of_lt Nat.and_le_left hbl2)
      generalize bhi T (1 <<< v) (fo T) 0 ^^^ (bhi T (1 <<< v) (fo T) 0 &&& (vis ||| 1 <<< v)) = cand at hcand hcl
      generalize hf : (fun j z => if ((bhi T (1 <<< v) (fo T) 0).testBit j && !(vis ||| 1 <<< v).testBit j) = true then srch T b n (vis ||| 1 <<< v) j (l + 1) (P * (16 - wt T v)) (m * 10 + v) z else z) = step
      have hstep : ∀ j z, step j z = if cand.testBit j = true then srch T b n (vis ||| 1 <<< v) j (l + 1) (P * (16 - wt T v)) (m * 10 + v) z else z := fun j z => by rw [← hf, hcand]
      have := loopE (H := fun j (s : sm_G × sm_L × bT) => hD (d + (n + 1)) 151 89 [.ref 108, .ref V.1, .null, .int (i3 b), .int (i3 l), .null, .null, .null, .null, .int (i3 (vis ||| 1 <<< v)), .long (i6 (P * (16 - wt T v))), .null, .int (i3 (m * 10 + v)), .int (i3 cand), .int (i3 j)] 342 (RR V) x s.1 s.2.1) (Q := fun o' => ∃ g' L', o' = oV x g' L' ∧ (∀ r k, r ≠ 108 → g' r k = g r k) ∧ cEn g' L' (itr step 0 (sl T) z) ∧ okB (itr step 0 (sl T) z)) (N := sl T)
        (fun j s => (∀ r k, r ≠ 108 → s.1 r k = g r k) ∧ cEn s.1 s.2.1 (itr step 0 j z) ∧ okB (itr step 0 j z)) ?_ ?_ (sl T) 0 (g, L, none) (by omega) ⟨fun _ _ _ => rfl, hE, hz⟩
      · exact this
      · rintro j ⟨gj, Lj, _⟩ hj ⟨w1, w2, w3⟩
        have hSj : cS gj V.1 T := hS.keep (fun r k a => w1 r k (by unfold inC at a; omega))
        have es : itr step 0 (j + 1) z = step j (itr step 0 j z) := by rw [itr_succ, Nat.zero_add]
        rw [hstep] at es
        cases hc : cand.testBit j with
        | false =>
          rw [hc, if_neg (by decide)] at es
          refine ⟨(gj, Lj, none), ?_, w1, by rw [es]; exact w2, by rw [es]; exact w3⟩
          show hD (d + (n + 1)) 151 89 _ 342 (RR V) x gj Lj = _
          rw [h_151_89 hV.1, hSj.gsl]
          simp (disch := omega) only [i3_add, i3_mul, i3_sub, i3_m1, i3_lt, i3_le, i3_eq, m1_lt, lt_m1, m1_le, le_m1, i3_nm1, m1_ni3, i3_cl, i3_in, i3_or, i3_and, i3_xor, i3_shl, i3_shr, sh_tb, tb_eq0, gd_tt, aI_o, aV_o, aL_o, aR_o, zd_0, zd_1, if_true, if_false, ite_self, eq_self, Bool.true_eq_false, Bool.false_eq_true, bi_0, bi_1, bi_zd, Nat.not_lt_zero, hj, hc]
        | true =>
          rw [hc, if_pos rfl] at es
          have hx : (vis ||| 1 <<< v).testBit j = false := by
            have := hcand j
            rw [hc] at this
            cases h : (vis ||| 1 <<< v).testBit j with
            | false => rfl
            | true => rw [h, Bool.not_true, Bool.and_false] at this; cases this
          obtain ⟨g', L', k1, k2, k3, k4⟩ := ih d x gj Lj (vis ||| 1 <<< v) j (l + 1) (P * (16 - wt T v)) (m * 10 + v) (itr step 0 j z) (by omega) (by omega) a3 hx hj hC2 w3 hSj w2
          refine ⟨(g', L', none), ?_, fun r k a => (k2 r k a).trans (w1 r k a), by rw [es]; exact k3, by rw [es]; exact k4⟩
          show hD (d + (n + 1)) 151 89 _ 342 (RR V) x gj Lj = _
          have k1' : sm_cv0 (d + (n + 1)) 151 342 (RR V) [.ref 108, .ref V.1, .int (i3 j), .int (i3 b), .int (i3 (l + 1)), .int (i3 (vis ||| 1 <<< v)), .long (i6 (P * (16 - wt T v))), .int (i3 (m * 10 + v))] (x, gj, Lj) = oV x g' L' := k1
          rw [h_151_89 hV.1, hSj.gsl]
          simp (disch := omega) only [i3_add, i3_mul, i3_sub, i3_m1, i3_lt, i3_le, i3_eq, m1_lt, lt_m1, m1_le, le_m1, i3_nm1, m1_ni3, i3_cl, i3_in, i3_or, i3_and, i3_xor, i3_shl, i3_shr, sh_tb, tb_eq0, gd_tt, aI_o, aV_o, aL_o, aR_o, zd_0, zd_1, if_true, if_false, ite_self, eq_self, Bool.true_eq_false, Bool.false_eq_true, bi_0, bi_1, bi_zd, Nat.not_lt_zero, hj, hc, k1']
      · rintro ⟨gj, Lj, _⟩ ⟨w1, w2, w3⟩
        have hSj : cS gj V.1 T := hS.keep (fun r k a => w1 r k (by unfold inC at a; omega))
        refine ⟨gj, Lj, ?_, w1, w2, w3⟩
        show hD (d + (n + 1)) 151 89 _ 342 (RR V) x gj Lj = _
        rw [h_151_89 hV.1, hSj.gsl]
        simp (disch := omega) only [i3_add, i3_mul, i3_sub, i3_m1, i3_lt, i3_le, i3_eq, m1_lt, lt_m1, m1_le, le_m1, i3_nm1, m1_ni3, i3_cl, i3_in, i3_or, i3_and, i3_xor, i3_shl, i3_shr, sh_tb, tb_eq0, gd_tt, aI_o, aV_o, aL_o, aR_o, zd_0, zd_1, if_true, if_false, ite_self, eq_self, Bool.true_eq_false, Bool.false_eq_true, bi_0, bi_1, bi_zd, Nat.not_lt_zero, Nat.lt_irrefl]
