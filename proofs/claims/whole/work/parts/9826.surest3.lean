/-! an operation that answers a long -/
def OpL (d x : Nat) (V : pV) (G : sm_G) (L : sm_L) (j : Nat) (as : List Value) (k : Nat) (bs : List Value) (E : Nat → Nat) : Prop :=
  (∃ G1 L1, ∀ Lx, ∃ a G2 L2, sm_cv0 (d + 60) j 342 (RR V) as (x, G, L) = oL a x G1 L1 ∧ sm_cv0 (d + 60) k 342 (RR V) bs (x, G1, Lx) = oL a x G2 L2 ∧ G2 156 0 = i3 0 ∧ Inv V G2) ∨
  (∃ e G1 z G2, sm_cv0 (d + 60) j 342 (RR V) as (x, G, L) = oX e (x + 1) G1 L ∧ sm_cv0 (d + 60) k 342 (RR V) bs (x + 1, G1, L) = oL z (x + 1) G2 L ∧ G2 156 0 = i3 (E e) ∧ e < 4 ∧ 0 < E e ∧ E e ≤ 2 ∧ Inv V G2)
theorem OpL_2 {d x : Nat} {V : pV} {G : sm_G} {L : sm_L} {j k : Nat} {as bs : List Value} {E : Nat → Nat} {C1 C2 : Prop} [Decidable C1] [Decidable C2] {k1 k2 : Nat} {X : Option (sm_Res × sm_D)} {Y : Nat → sm_G → sm_L → Option (sm_Res × sm_D)} (I : Inv V G)
    (ec : sm_cv0 (d + 60) j 342 (RR V) as (x, G, L) = if C1 then (if C2 then X else rfC k2 x G L) else rfC k1 x G L)
    (em : ∀ x1 G1 L1, sM G G1 → sm_cv0 (d + 60) k 342 (RR V) bs (x1, G1, L1) = if C1 then (if C2 then Y x1 G1 L1 else oL (i6 0) x1 (noted G1 (E k2) k2) L1) else oL (i6 0) x1 (noted G1 (E k1) k1) L1)
    (hE : k1 < 4 ∧ 0 < E k1 ∧ E k1 ≤ 2) (hE2 : k2 < 4 ∧ 0 < E k2 ∧ E k2 ≤ 2)
    (hb : C1 → C2 → ∃ G1 L1, sM G G1 ∧ ∀ Lx, ∃ a G2 L2, X = oL a x G1 L1 ∧ Y x G1 Lx = oL a x G2 L2 ∧ G2 156 0 = i3 0 ∧ Inv V G2) : OpL d x V G L j as k bs E := by
  by_cases h1 : C1
  · by_cases h2 : C2
    · obtain ⟨G1, L1, b2, hb⟩ := hb h1 h2
      rw [if_pos h1, if_pos h2] at ec
      refine Or.inl ⟨G1, L1, fun Lx => ?_⟩
      obtain ⟨a, G2, L2, b1, b3, b4, b5⟩ := hb Lx
      have em := em x G1 Lx b2
      rw [if_pos h1, if_pos h2] at em
      exact ⟨a, G2, L2, ec.trans b1, em.trans b3, b4, b5⟩
    · rw [if_pos h1, if_neg h2] at ec
      have em := em (x + 1) _ L (sM_r (G := G) (k := k2) (v := G 4 k2 + i3 1))
      rw [if_pos h1, if_neg h2] at em
      exact Or.inr ⟨k2, _, _, _, ec, em, noted_0, hE2.1, hE2.2.1, hE2.2.2, Inv_noted I hE2.1⟩
  · rw [if_neg h1] at ec
    have em := em (x + 1) _ L (sM_r (G := G) (k := k1) (v := G 4 k1 + i3 1))
    rw [if_neg h1] at em
    exact Or.inr ⟨k1, _, _, _, ec, em, noted_0, hE.1, hE.2.1, hE.2.2, Inv_noted I hE.1⟩
theorem mbadL {d x a k : Nat} {V : pV} {G : sm_G} {L : sm_L} {C : Prop} [Decidable C] {F : Nat → sm_G → sm_L → Option (sm_Res × sm_D)} (h0 : G 156 0 = i3 0) (ha : 0 < a) (ha2 : a < 100) (hk : k < 4) :
    (if bi (decide C) = i3 0 then sm_aI (sm_cv0 (d + 1) 219 342 (RR V) [.ref 156, .int (i3 1), .int (i3 a), .int (i3 k)] (x, G, L)) (fun a2 x2 G2 L2 => if a2 = i3 0 then F x2 G2 L2 else oL (i6 0) x2 G2 L2) oX
     else sm_aI (sm_cv0 (d + 1) 219 342 (RR V) [.ref 156, .int (i3 0), .int (i3 a), .int (i3 k)] (x, G, L)) (fun a2 x2 G2 L2 => if a2 = i3 0 then F x2 G2 L2 else oL (i6 0) x2 G2 L2) oX)
    = if C then F x G L else oL (i6 0) x (sm_up (sm_up G 156 0 (i3 a)) 158 k (G 158 k + i3 1)) L := by
  by_cases h : C
  · rw [decide_eq_true h, if_pos h, if_neg (by decide), s_219o h0]
    rfl
  · rw [decide_eq_false h, if_neg h, if_pos (by decide), s_219b ha ha2 hk h0]
    rfl
theorem s_154 {d x : Nat} {V : pV} {G : sm_G} {L : sm_L} {c k l : Nat} (hP : (2 * c + 1) * 2 ^ k ≤ 16 ^ l) (hl : l ≤ 8) (h1 : L 108 1 = i6 ((2 * c + 1) * 2 ^ k)) (h2 : G 108 2 = i3 l) : k ≤ 4 * l ∧ sm_cv0 (d + 3) 154 342 (RR V) [.ref 108] (x, G, L) = oI (i3 k) x G L := by
  have hle : 2 ^ k ≤ (2 * c + 1) * 2 ^ k := Nat.le_mul_of_pos_left _ (by omega)
  have e16 : 16 ^ l = 2 ^ (4 * l) := by rw [show (16 : Nat) = 2 ^ 4 from rfl, ← Nat.pow_mul]
  have hk : k ≤ 4 * l := (Nat.pow_le_pow_iff_right (by decide : 1 < 2)).mp (by omega)
  have h16 : 16 ^ l ≤ 16 ^ 8 := Nat.pow_le_pow_right (by decide) hl
  refine ⟨hk, ?_⟩
  rw [m_154, h1, s_10 (by omega)]
  simp only [aI_o]
  rw [h2, i3_mul, s_4]
  simp (disch := omega) only [i3_add, i3_mul, i3_sub, i3_m1, i3_lt, i3_le, i3_eq, m1_lt, lt_m1, m1_le, le_m1, i3_nm1, m1_ni3, i3_cl, i3_in, i3_or, i3_and, i3_xor, i3_shl, i3_shr, sh_tb, tb_eq0, gd_tt, aI_o, aV_o, aL_o, aR_o, zd_0, zd_1, if_true, if_false, ite_self, eq_self, Bool.true_eq_false, Bool.false_eq_true, bi_0, bi_1, bi_zd, Nat.not_lt_zero]
  rw [if_neg (by omega)]
theorem l_301 {V : pV} {d x v : Nat} {G : sm_G} {L : sm_L} : ∀ (n A B : Nat), B ≤ n → 0 < A → A < 9223372036854775808 → B < 9223372036854775808 → hD d 301 116 [.ref 156, .null, .null, .int (i3 v), .long (i6 A), .null, .long (i6 B), .null, .null, .null] 342 (RR V) x G L = if i3 v = i3 0 then oL (L 156 62 / i6 (Nat.gcd A B)) x G L else oL (i6 4294967296 / i6 (Nat.gcd A B)) x G L := by
  intro n
  induction n with
  | zero =>
    intro A B hn hA hA2 hB
    obtain rfl : B = 0 := by omega
    have hA0 : ¬ i6 A = (0 : Int64) := fun e => by
      have e : i6 A = i6 0 := e
      rw [i6_eq hA2 (by omega)] at e
      omega
    rw [h_301_116, Nat.gcd_zero_right, if_neg (by rw [i6_lt (by omega) (by omega)]; omega), if_pos rfl, if_neg hA0, if_neg hA0]
  | succ n ih =>
    intro A B hn hA hA2 hB
    by_cases q : B = 0
    · exact ih A B (by omega) hA hA2 hB
    · have hB0 : ¬ i6 B = (0 : Int64) := fun e => by
        have e : i6 B = i6 0 := e
        rw [i6_eq hB (by omega)] at e
        omega
      have hlt : A % B < B := Nat.mod_lt _ (by omega)
      rw [h_301_116, if_neg (by rw [i6_lt (by omega) (by omega)]; omega), if_neg hB0, if_neg (show ¬ i6 B = i6 0 from hB0), i6_rem hA2 hB, h_301_134, ih B (A % B) (by omega) (by omega) hB (by omega), Nat.gcd_comm A B, Nat.gcd_comm B (A % B), ← Nat.gcd_rec]
theorem op_57 {d x : Nat} {V : pV} {G : sm_G} {L : sm_L} {v w y : Int32} (I : Inv V G) : OpL d x V G L 57 [.ref 1, .int v, .int w, .int y] 301 [.ref 156, .int v, .int w, .int y] eI := by
  have I0 := I
  obtain ⟨T, K, c, H, W, hS, hh, hn⟩ := I
  have hB := hS.T.gb
  have ec := m_57 (d := d + 59) (x := x) (G := G) (L := L) (V := V) (v1 := v) (v2 := w) (v3 := y)
  rw [s_47 hS.c.gsl hS.V, aV_if, s_33, aV_if] at ec
  refine OpL_2 (Y := ?Y) I0 ec ?_ (by decide) (by decide) ?_
  rotate_left
  · intro x1 G1 L1 hs
    have hm := hS.m.sM hS.T hS.P hs
    rw [m_301, s_283 hm.gsl (by omega)]
    simp only [aI_o]
    rw [mbadL g00_0 (by decide) (by decide) (by decide)]
    simp only [h_301_28, s_218c, aI_o]
    rw [mbadL g00_0 (by decide) (by decide) (by decide)]
    rfl
  · intro h1 h2
    obtain ⟨a, rfl, ha⟩ := rng (by omega) h1.1
    obtain ⟨b, rfl, hb⟩ := rng (by omega) h1.2
    obtain ⟨j, rfl, hj⟩ := rngl (by omega) h2
    have hm0 := hS.m.sM hS.T hS.P (sM_o (G := G))
    -- the class's search
    have hc0 : cS (sm_up (sm_up G 108 2 (i3 0)) 108 3 (i3 0)) V.1 T := hS.c.keep (fun r k z => by
      have := pS_lt hS.V.1
      unfold inC at z
      rw [sm_up_ne (by omega), sm_up_ne (by omega)])
    have hv0 : (0 : Nat).testBit a = false := Nat.zero_testBit a
    have hC0 : okC 1 0 0 := ⟨Nat.le_refl _, Nat.le_refl _, by omega, by decide⟩
    obtain ⟨Gc, Lc, c1, c2, c3, c4⟩ := s_151 (T := T) (b := b) (V := V) hS.V hS.T (by omega) 8 (d + 49) x (sm_up (sm_up G 108 2 (i3 0)) 108 3 (i3 0)) (sm_up (sm_up L 108 0 (i6 0)) 108 1 (i6 0)) 0 a 0 1 0 none (by omega) rfl (by omega) hv0 ha hC0 trivial hc0 ⟨by rw [sm_up_ne (by omega), sm_up_same], by unfold sm_up; rfl⟩
    have ec150 : sm_cv0 (d + 59) 150 342 (RR V) [.ref 108, .ref V.1, .int (i3 a), .int (i3 b)] (x, G, L) = oV x Gc Lc := by
      rw [m_150 hS.V.1]
      have c1' : sm_cv0 (d + 58) 151 342 (RR V) [.ref 108, .ref V.1, .int (i3 a), .int (i3 b), .int (i3 0), .int (i3 0), .long (i6 1), .int (i3 0)] (x, sm_up (sm_up G 108 2 (i3 0)) 108 3 (i3 0), sm_up (sm_up L 108 0 (i6 0)) 108 1 (i6 0)) = oV x Gc Lc := c1
      rw [c1']
      rfl
    have cG : ∀ r k, r ≠ 108 → Gc r k = G r k := fun r k z => by rw [c2 r k z, sm_up_ne (by omega), sm_up_ne (by omega)]
    have hs1 : sM G Gc := fun r k z => cG r k (by omega)
    have hm := hS.m.sM hS.T hS.P hs1
    have hm1 : mH (sm_up (g00 Gc) 156 64 m1) T (H c) K := hm.keep hS.T hS.P (fun r k z => by unfold inM at z; exact sm_up_ne (by omega))
    -- the model's
    refine ⟨Gc, Lc, hs1, fun Lx => ?_⟩
    obtain ⟨Gm, Lm, d1, d2, d3, d4⟩ := s_302 (T := T) (Pn := H c) (K := K) (b := b) (V := V) hS.T hS.P (by omega) 8 (d + 50) x (sm_up (g00 Gc) 156 64 m1) Lx 0 a 0 1 0 none (by omega) rfl (by omega) hv0 ha hC0 trivial hm1 (sm_up_same _ _ _ _)
    have d1' : sm_cv0 (d + 59) 302 342 (RR V) [.ref 156, .int (i3 a), .int (i3 b), .int (i3 (1 <<< a)), .int (i3 0), .long (i6 1), .long (i6 0)] (x, sm_up (g00 Gc) 156 64 m1, Lx) = oV x Gm Lm := by
      have := d1
      rw [Nat.zero_or] at this
      exact this
    have mG : ∀ r k, ¬ (r = 156 ∧ (k = 0 ∨ k = 64)) → Gm r k = Gc r k := fun r k z => by rw [d2 r k (by omega), sm_up_ne (by omega), g00_ne (by omega)]
    have e0 : Gm 156 0 = i3 0 := by rw [d2 _ _ (by omega), sm_up_ne (by omega)]; exact g00_0
    have IV : Inv V Gm := Inv_q (G1 := Gc) hS (fun r k z => cG r k (fun e => z (by unfold sc; omega))) (hh.keep (cG _ _ (by omega)) (fun r k _ _ => cG r k (by omega))) (hn.keep hS.T (cG _ _ (by omega)) (fun r k _ _ => cG r k (by omega))) (fun r k z => mG r k (by unfold sc at z; omega))
    have eY : hD (d + 59) 301 53 [.ref 156, .int (i3 a), .int (i3 b), .int (i3 j), .null, .null, .null, .null, .null, .null] 342 (RR V) x (g00 Gc) Lx = if Gm 156 64 = m1 then oL (n6 1) x Gm Lm else (if j ≤ 1 then hD (d + 59) 301 116 [.ref 156, .null, .null, .int (i3 j), .long (i6 4294967296), .null, .long (Lm 156 62), .null, .null, .null] 342 (RR V) x Gm Lm else (if j = 2 then oL (Int32.toInt64 (Gm 156 64)) x Gm Lm else oL (Lm 156 63) x Gm Lm)) := by
      rw [h_301_53]
      simp (disch := omega) only [i3_add, i3_mul, i3_sub, i3_m1, i3_lt, i3_le, i3_eq, m1_lt, lt_m1, m1_le, le_m1, i3_nm1, m1_ni3, i3_cl, i3_in, i3_or, i3_and, i3_xor, i3_shl, i3_shr, sh_tb, tb_eq0, gd_tt, aI_o, aV_o, aL_o, aR_o, zd_0, zd_1, if_true, if_false, ite_self, eq_self, Bool.true_eq_false, Bool.false_eq_true, bi_0, bi_1, bi_zd, Nat.not_lt_zero, d1']
    generalize srch T b 8 0 a 0 1 0 none = best at c3 c4 d3 d4
    have fin : ∀ z, (if Gc 108 2 = i3 0 then oL (n6 1) x Gc Lc else (if i3 j = i3 0 then (sm_aL (sm_cv0 (d + 59) 153 342 (RR V) [.ref 108] (x, Gc, Lc)) (fun b4 x4 G4 L4 => oL b4 x4 G4 L4) oX) else if i3 j = i3 1 then (sm_aL (sm_cv0 (d + 59) 155 342 (RR V) [.ref 108] (x, Gc, Lc)) (fun b5 x5 G5 L5 => oL b5 x5 G5 L5) oX) else if i3 j = i3 2 then oL (Int32.toInt64 (Gc 108 2)) x Gc Lc else oL (Int32.toInt64 (Gc 108 3)) x Gc Lc)) = oL z x Gc Lc → hD (d + 59) 301 53 [.ref 156, .int (i3 a), .int (i3 b), .int (i3 j), .null, .null, .null, .null, .null, .null] 342 (RR V) x (g00 Gc) Lx = oL z x Gm Lm → ∃ z G2 L2, sm_aV (sm_cv0 (d + 59) 150 342 (RR V) [.ref 108, .ref V.1, .int (i3 a), .int (i3 b)] (x, G, L)) (fun x3 G3 L3 => if G3 108 2 = i3 0 then oL (n6 1) x3 G3 L3 else (if i3 j = i3 0 then (sm_aL (sm_cv0 (d + 59) 153 342 (RR V) [.ref 108] (x3, G3, L3)) (fun b4 x4 G4 L4 => oL b4 x4 G4 L4) oX) else if i3 j = i3 1 then (sm_aL (sm_cv0 (d + 59) 155 342 (RR V) [.ref 108] (x3, G3, L3)) (fun b5 x5 G5 L5 => oL b5 x5 G5 L5) oX) else if i3 j = i3 2 then oL (Int32.toInt64 (G3 108 2)) x3 G3 L3 else oL (Int32.toInt64 (G3 108 3)) x3 G3 L3)) oX = oL z x Gc Lc ∧ hD (d + 59) 301 53 [.ref 156, .int (i3 a), .int (i3 b), .int (i3 j), .null, .null, .null, .null, .null, .null] 342 (RR V) x (g00 Gc) Lx = oL z x G2 L2 ∧ G2 156 0 = i3 0 ∧ Inv V G2 := fun z q1 q2 => ⟨z, Gm, Lm, by rw [ec150]; exact q1, q2, e0, IV⟩
    cases best with
    | none =>
      obtain ⟨t1, t2⟩ := c3
      have t3 : Gm 156 64 = m1 := d3
      exact fin (n6 1) (by rw [t1, if_pos rfl]) (by rw [eY, t3, if_pos rfl])
    | some cc =>
      obtain ⟨P, l, m⟩ := cc
      obtain ⟨t1, t2, t3, t4⟩ := c3
      obtain ⟨u1, u2, u3⟩ := d3
      obtain ⟨hC, hl1⟩ := c4
      have hsc := scl_le hC
      obtain ⟨bP, bm⟩ := okC_b hC
      obtain ⟨p1, p2, p3, p4⟩ := hC
      obtain ⟨cc, k, eP⟩ := odd_pow P P (Nat.le_refl _) (by omega)
      rw [eP] at t4
      obtain ⟨k4, e154⟩ := s_154 (d := d + 55) (x := x) (V := V) (by rw [← eP]; exact p2) p3 t4 t1
      have cl : ¬ Gc 108 2 = i3 0 := by
        rw [t1, i3_eq (by omega) (by omega)]
        omega
      have ml : ¬ Gm 156 64 = m1 := by rw [u1]; exact nm1 (by omega)
      have hp : 0 < 2 ^ k := Nat.two_pow_pos k
      -- what is common
      have esc : scl P l = 2 ^ (k + 4 * (8 - l)) * (2 * cc + 1) := by
        unfold scl
        rw [eP, Nat.mul_assoc, ← Nat.pow_add, Nat.mul_comm]
      have e32 : 4294967296 = 2 ^ (k + 4 * (8 - l)) * 2 ^ (4 * l - k) := by
        rw [← Nat.pow_add, show k + 4 * (8 - l) + (4 * l - k) = 32 by omega]
      have egcd : Nat.gcd 4294967296 (scl P l) = 2 ^ (k + 4 * (8 - l)) := by
        have cop : Nat.gcd (2 ^ (4 * l - k)) (2 * cc + 1) = 1 := by
          refine Nat.Coprime.pow_left _ ?_
          show Nat.gcd 2 (2 * cc + 1) = 1
          rw [Nat.gcd_rec, show (2 * cc + 1) % 2 = 1 by omega, Nat.gcd_one_left]
        rw [esc]
        conv => lhs; arg 1; rw [e32]
        rw [Nat.gcd_mul_left, cop, Nat.mul_one]
      have hq : 0 < 2 ^ (k + 4 * (8 - l)) := Nat.two_pow_pos _
      have hle : 2 ^ (k + 4 * (8 - l)) ≤ 4294967296 := by
        conv => rhs; rw [e32]
        exact Nat.le_mul_of_pos_right _ (Nat.two_pow_pos _)
      have v0 : scl P l / 2 ^ (k + 4 * (8 - l)) = 2 * cc + 1 := by rw [esc, Nat.mul_div_cancel_left _ hq]
      have v1 : 4294967296 / 2 ^ (k + 4 * (8 - l)) = 2 ^ (4 * l - k) := by
        conv => lhs; arg 1; rw [e32]
        rw [Nat.mul_div_cancel_left _ hq]
      have el : ∀ j, hD (d + 59) 301 116 [.ref 156, .null, .null, .int (i3 j), .long (i6 4294967296), .null, .long (Lm 156 62), .null, .null, .null] 342 (RR V) x Gm Lm = if i3 j = i3 0 then oL (i6 (2 * cc + 1)) x Gm Lm else oL (i6 (2 ^ (4 * l - k))) x Gm Lm := fun j => by
        rw [u2, l_301 (scl P l) 4294967296 (scl P l) (Nat.le_refl _) (by omega) (by omega) (by omega), egcd, u2, i6_div (by omega) (by omega), i6_div (by omega) (by omega), v0, v1]
      obtain rfl | rfl | rfl | rfl : j = 0 ∨ j = 1 ∨ j = 2 ∨ j = 3 := by omega
      · refine fin (i6 (2 * cc + 1)) ?_ ?_
        · rw [if_neg cl, if_pos rfl, m_153, e154]
          simp only [aI_o, aL_o]
          rw [t4, i6_shr (by omega) (by omega), Nat.mul_div_cancel _ hp]
        · rw [eY, if_neg ml, if_pos (by omega), el, if_pos rfl]
      · refine fin (i6 (2 ^ (4 * l - k))) ?_ ?_
        · rw [if_neg cl, if_neg (by decide), if_pos rfl, m_155, e154]
          simp only [aI_o, aL_o]
          rw [t1, i3_mul, i3_sub k4, i6_shl (by omega), Nat.one_mul]
        · rw [eY, if_neg ml, if_pos (by omega), el, if_neg (by decide)]
      · refine fin (i6 l) ?_ ?_
        · rw [if_neg cl, if_neg (by decide), if_neg (by decide), if_pos rfl, t1, i6_of (by omega)]
        · rw [eY, if_neg ml, if_neg (by omega), if_pos rfl, u1, i6_of (by omega)]
      · refine fin (i6 m) ?_ ?_
        · rw [if_neg cl, if_neg (by decide), if_neg (by decide), if_neg (by decide), t2, i6_of (by omega)]
        · rw [eY, if_neg ml, if_neg (by omega), if_neg (by omega), u3]
