/-! the two callers -/
def bwt (T : pT) (mx : Bool) (f : Nat → Nat) (v : Nat) (b : Option (Nat × Nat)) : Option (Nat × Nat) := if tu T v = 0 then b else match b with
  | none => some (v, f v)
  | some (c, y) => if (if mx = true then y < f v else f v < y) then some (v, f v) else some (c, y)
def bv (T : pT) (mx : Bool) (f : Nat → Nat) : Option (Nat × Nat) := itr (bwt T mx f) 0 6 none
/-- how many doors stand open, r calls left of n -/
def wv (T : pT) (n : Nat) : Nat → Nat → Nat
  | 0, D => pc D 10
  | r + 1, D => match bv T (decide ((n - (r + 1)) % 2 = 0)) (fun v => wv T n r (D ^^^ tu T v)) with
    | none => pc D 10
    | some (_, y) => y
def bok (T : pT) (mx : Bool) (f : Nat → Nat) (n : Nat) (b : Option (Nat × Nat)) : Prop := match b with
  | none => ∀ v, v < n → tu T v = 0
  | some (c, y) => c < n ∧ tu T c ≠ 0 ∧ y = f c ∧ ∀ v, v < n → tu T v ≠ 0 → (if mx = true then f v ≤ y ∧ (v < c → f v < y) else y ≤ f v ∧ (v < c → y < f v))
theorem bok_s {T : pT} {mx : Bool} {f : Nat → Nat} {n : Nat} {b : Option (Nat × Nat)} (h : bok T mx f n b) : bok T mx f (n + 1) (bwt T mx f n b) := by
  have sn : ∀ v, v < n + 1 → v < n ∨ v = n := fun v hv => by omega
  unfold bwt
  by_cases q : tu T n = 0
  · rw [if_pos q]
    cases b with
    | none => exact fun v hv => (sn v hv).elim (h v) (fun e => by rw [e]; exact q)
    | some cy =>
      obtain ⟨h1, h2, h3, h4⟩ := h
      exact ⟨by omega, h2, h3, fun v hv ht => (sn v hv).elim (fun h => h4 v h ht) (fun e => by rw [e] at ht; exact absurd q ht)⟩
  · rw [if_neg q]
    cases b with
    | none =>
      refine ⟨by omega, q, rfl, fun v hv ht => ?_⟩
      rcases sn v hv with h' | rfl
      · exact absurd (h v h') ht
      · split <;> exact ⟨Nat.le_refl _, fun h => by omega⟩
    | some cy =>
      obtain ⟨c, y⟩ := cy
      obtain ⟨h1, h2, h3, h4⟩ := h
      simp only
      by_cases q2 : (if mx = true then y < f n else f n < y)
      · rw [if_pos q2]
        refine ⟨by omega, q, rfl, fun v hv ht => ?_⟩
        rcases sn v hv with h' | rfl
        · have := h4 v h' ht
          split at q2 <;> rename_i hm
          · rw [if_pos hm] at this ⊢; omega
          · rw [if_neg hm] at this ⊢; omega
        · split <;> exact ⟨Nat.le_refl _, fun h => by omega⟩
      · rw [if_neg q2]
        refine ⟨by omega, h2, h3, fun v hv ht => ?_⟩
        rcases sn v hv with h' | rfl
        · exact h4 v h' ht
        · split at q2 <;> rename_i hm
          · rw [if_pos hm]; omega
          · rw [if_neg hm]; omega
theorem bv_ok (T : pT) (mx : Bool) (f : Nat → Nat) : bok T mx f 6 (bv T mx f) := by
  have key : ∀ n, bok T mx f n (itr (bwt T mx f) 0 n none) := by
    intro n
    induction n with
    | zero => exact fun v hv => by omega
    | succ n ih => rw [itr_succ, Nat.zero_add]; exact bok_s ih
  exact key 6
theorem bv_none {T : pT} {mx : Bool} {f : Nat → Nat} (h : bv T mx f = none) : ∀ v, v < 6 → tu T v = 0 := by
  have := bv_ok T mx f
  rw [h] at this
  exact this
theorem bv_n {T : pT} (h : ∀ v, v < 6 → tu T v = 0) (mx : Bool) (f : Nat → Nat) : bv T mx f = none := by
  have := bv_ok T mx f
  cases e : bv T mx f with
  | none => rfl
  | some cy =>
    rw [e] at this
    exact absurd (h _ this.1) this.2.1
theorem bst_congr {T : pT} {mx : Bool} {f g : Nat → Nat} (h : ∀ v, v < 6 → f v = g v) : bv T mx f = bv T mx g := by
  have key : ∀ n, n ≤ 6 → itr (bwt T mx f) 0 n none = itr (bwt T mx g) 0 n none := by
    intro n
    induction n with
    | zero => intro _; rfl
    | succ n ih =>
      intro hn
      rw [itr_succ, itr_succ, ih (by omega), Nat.zero_add]
      unfold bwt
      rw [h n (by omega)]
  exact key 6 (Nat.le_refl _)
theorem wv_none {T : pT} (h : ∀ v, v < 6 → tu T v = 0) (n : Nat) : ∀ r D, wv T n r D = pc D 10
  | 0, D => rfl
  | r + 1, D => by
    show (match bv T (decide ((n - (r + 1)) % 2 = 0)) (fun v => wv T n r (D ^^^ tu T v)) with
    | none => pc D 10
    | some (_, y) => y) = _
    rw [bv_n h]
theorem wv_le (T : pT) (n : Nat) : ∀ r D, wv T n r D ≤ 10
  | 0, D => pc_le D 10
  | r + 1, D => by
    show (match bv T (decide ((n - (r + 1)) % 2 = 0)) (fun v => wv T n r (D ^^^ tu T v)) with
    | none => pc D 10
    | some (_, y) => y) ≤ _
    have hk := bv_ok T (decide ((n - (r + 1)) % 2 = 0)) (fun v => wv T n r (D ^^^ tu T v))
    generalize bv T (decide ((n - (r + 1)) % 2 = 0)) (fun v => wv T n r (D ^^^ tu T v)) = b at hk
    cases b with
    | none => exact pc_le D 10
    | some cy =>
      obtain ⟨h1, h2, h3, h4⟩ := hk
      show cy.2 ≤ 10
      rw [h3]
      exact wv_le T n r _
theorem dby_flip {T : pT} {S v : Nat} (hv : v < 6) : dby T (S ^^^ 1 <<< v) = dby T S ^^^ tu T v := by
  have key : ∀ n, itr (fun k a => if (S ^^^ 1 <<< v).testBit k = false then a else a ^^^ tu T k) 0 n (fo T) = itr (fun k a => if S.testBit k = false then a else a ^^^ tu T k) 0 n (fo T) ^^^ (if v < n then tu T v else 0) := by
    intro n
    induction n with
    | zero => rw [if_neg (by omega)]; exact (Nat.xor_zero _).symm
    | succ n ih =>
      rw [itr_succ, itr_succ, ih, Nat.zero_add, Nat.testBit_xor, Nat.one_shiftLeft, Nat.testBit_two_pow]
      generalize itr (fun k a => if S.testBit k = false then a else a ^^^ tu T k) 0 n (fo T) = A
      by_cases q : v < n
      · rw [if_pos q, if_pos (by omega : v < n + 1), decide_eq_false (by omega : ¬ v = n), Bool.xor_false]
        cases S.testBit n
        · rfl
        · show A ^^^ tu T v ^^^ tu T n = A ^^^ tu T n ^^^ tu T v
          rw [Nat.xor_assoc, Nat.xor_comm (tu T v), ← Nat.xor_assoc]
      · by_cases q2 : v = n
        · subst q2
          rw [if_neg q, if_pos (by omega : v < v + 1), decide_eq_true rfl]
          cases S.testBit v
          · show A ^^^ 0 ^^^ tu T v = A ^^^ tu T v
            rw [Nat.xor_zero]
          · show A ^^^ 0 = A ^^^ tu T v ^^^ tu T v
            rw [Nat.xor_assoc, Nat.xor_self]
        · rw [if_neg q, if_neg (by omega : ¬ v < n + 1), decide_eq_false q2, Bool.xor_false, Nat.xor_zero, Nat.xor_zero]
  have := key 6
  rw [if_pos hv] at this
  exact this
theorem flip_lt : ∀ S, S < 64 → ∀ v, v < 6 → (S ^^^ 1 <<< v) < 64 := by decide +kernel
theorem irem2 : ∀ a, a < 10 → (irem (i3 a) (i3 2) = i3 0) = (a % 2 = 0) := by
  have h : ∀ a, a < 10 → decide (irem (i3 a) (i3 2) = i3 0) = decide (a % 2 = 0) := by decide +kernel
  intro a ha
  exact propext (decide_eq_decide.mp (h a ha))
def ecl (b : Option (Nat × Nat)) : Int32 := match b with
  | none => m1
  | some cy => i3 cy.1
def ecv (b : Option (Nat × Nat)) : Int32 := match b with
  | none => i3 0
  | some cy => i3 cy.2
def ecm (b : Option (Nat × Nat)) : Int32 := match b with
  | none => m1
  | some cy => i3 cy.2
theorem s_117 {d x : Nat} {V : pV} {G : sm_G} {L : sm_L} {T : pT} {S : Nat} {mx : Bool} {w : Nat → Nat} (hV : okV V) (hc : cS G V.1 T) (hT : okT T) (hS : S < 64) (h107 : ∀ S', S' < 64 → G 107 S' = i3 (w S')) (hw : ∀ S', w S' < 1000) : sm_cv0 (d + 1) 117 342 (RR V) [.ref 105, .ref V.1, .int (i3 S), .int (bi mx)] (x, G, L) = oI (ecl (bv T mx (fun v => w (S ^^^ 1 <<< v)))) x G L := by
  rw [m_117 hV.1]
  refine (loopP (H := fun i b => hD d 117 9 [.ref 105, .ref V.1, .int (i3 S), .int (bi mx), .int (ecl b), .int (ecv b), .int (i3 i), .null] 342 (RR V) x G L) (out := fun b => oI (ecl b) x G L) (N := 6) (step := bwt T mx (fun v => w (S ^^^ 1 <<< v))) (bok T mx (fun v => w (S ^^^ 1 <<< v))) ?_ ?_ 6 0 none (by omega) (fun v hv => by omega)).1
  · intro v b hv hb
    refine ⟨?_, bok_s hb⟩
    have et := hc.gtu v hv
    have htv := hT.tu1 v hv
    have hfl := flip_lt S hS v hv
    have e107 := h107 _ hfl
    have hwv := hw (S ^^^ 1 <<< v)
    rw [h_117_9 hV.1]
    unfold bwt
    by_cases q : tu T v = 0
    · simp (disch := omega) only [i3_add, i3_mul, i3_sub, i3_m1, i3_lt, i3_le, i3_eq, m1_lt, lt_m1, m1_le, le_m1, i3_nm1, m1_ni3, i3_cl, i3_in, i3_or, i3_and, i3_xor, i3_shl, i3_shr, sh_tb, tb_eq0, gd_tt, aI_o, aV_o, aL_o, aR_o, zd_0, zd_1, if_true, if_false, ite_self, eq_self, Bool.true_eq_false, Bool.false_eq_true, bi_0, bi_1, bi_zd, Nat.not_lt_zero, hv, et, q, h_117_74 hV.1]
    · cases b with
      | none =>
        simp (disch := omega) only [i3_add, i3_mul, i3_sub, i3_m1, i3_lt, i3_le, i3_eq, m1_lt, lt_m1, m1_le, le_m1, i3_nm1, m1_ni3, i3_cl, i3_in, i3_or, i3_and, i3_xor, i3_shl, i3_shr, sh_tb, tb_eq0, gd_tt, aI_o, aV_o, aL_o, aR_o, zd_0, zd_1, if_true, if_false, ite_self, eq_self, Bool.true_eq_false, Bool.false_eq_true, bi_0, bi_1, bi_zd, Nat.not_lt_zero, hv, et, q, e107, show ecl none = m1 from rfl, h_117_74 hV.1]
        rfl
      | some cy =>
        obtain ⟨c, y⟩ := cy
        obtain ⟨b1, b2, b3, b4⟩ := hb
        have hy : y < 1000 := by rw [b3]; exact hw _
        cases mx with
        | true =>
          simp (disch := omega) only [i3_add, i3_mul, i3_sub, i3_m1, i3_lt, i3_le, i3_eq, m1_lt, lt_m1, m1_le, le_m1, i3_nm1, m1_ni3, i3_cl, i3_in, i3_or, i3_and, i3_xor, i3_shl, i3_shr, sh_tb, tb_eq0, gd_tt, aI_o, aV_o, aL_o, aR_o, zd_0, zd_1, if_true, if_false, ite_self, eq_self, Bool.true_eq_false, Bool.false_eq_true, bi_0, bi_1, bi_zd, Nat.not_lt_zero, hv, et, q, e107, show ecl (some (c, y)) = i3 c from rfl, show ecv (some (c, y)) = i3 y from rfl, h_117_74 hV.1]
          by_cases q2 : w (S ^^^ 1 <<< v) ≤ y
          · rw [if_pos q2, if_neg (by omega)]
            rfl
          · rw [if_neg q2, if_pos (by omega)]
            rfl
        | false =>
          simp (disch := omega) only [i3_add, i3_mul, i3_sub, i3_m1, i3_lt, i3_le, i3_eq, m1_lt, lt_m1, m1_le, le_m1, i3_nm1, m1_ni3, i3_cl, i3_in, i3_or, i3_and, i3_xor, i3_shl, i3_shr, sh_tb, tb_eq0, gd_tt, aI_o, aV_o, aL_o, aR_o, zd_0, zd_1, if_true, if_false, ite_self, eq_self, Bool.true_eq_false, Bool.false_eq_true, bi_0, bi_1, bi_zd, Nat.not_lt_zero, hv, et, q, e107, show ecl (some (c, y)) = i3 c from rfl, show ecv (some (c, y)) = i3 y from rfl, h_117_74 hV.1]
          by_cases q2 : w (S ^^^ 1 <<< v) < y
          · rw [if_pos q2, if_pos q2]
            rfl
          · rw [if_neg q2, if_neg q2]
            rfl
  · intro b _
    rw [h_117_9 hV.1]
    simp (disch := omega) only [i3_add, i3_mul, i3_sub, i3_m1, i3_lt, i3_le, i3_eq, m1_lt, lt_m1, m1_le, le_m1, i3_nm1, m1_ni3, i3_cl, i3_in, i3_or, i3_and, i3_xor, i3_shl, i3_shr, sh_tb, tb_eq0, gd_tt, aI_o, aV_o, aL_o, aR_o, zd_0, zd_1, if_true, if_false, ite_self, eq_self, Bool.true_eq_false, Bool.false_eq_true, bi_0, bi_1, bi_zd, Nat.not_lt_zero, Nat.lt_irrefl]
/-- the first call, t of n calls gone -/
def fcl (T : pT) (n t : Nat) : Option (Nat × Nat) := if n ≤ t then none else bv T (decide (t % 2 = 0)) (fun v => wv T n (n - (t + 1)) (fo T ^^^ tu T v))
theorem wv_s {T : pT} {n t D : Nat} (h : t < n) : wv T n (n - t) D = match bv T (decide (t % 2 = 0)) (fun v => wv T n (n - (t + 1)) (D ^^^ tu T v)) with
    | none => pc D 10
    | some (_, y) => y := by
  obtain ⟨r, hr⟩ : ∃ r, n - t = r + 1 := ⟨n - t - 1, by omega⟩
  have e1 : n - (t + 1) = r := by omega
  have e2 : n - (r + 1) = t := by omega
  rw [hr, e1]
  show (match bv T (decide ((n - (r + 1)) % 2 = 0)) (fun v => wv T n r (D ^^^ tu T v)) with
    | none => pc D 10
    | some (_, y) => y) = _
  rw [e2]
theorem s_116 {d x : Nat} {V : pV} {G : sm_G} {L : sm_L} {T : pT} {n : Nat} (hV : okV V) (hc : cS G V.1 T) (hT : okT T) (hn : n ≤ 8) : ∃ G', sm_cv0 (d + 3) 116 342 (RR V) [.ref 105, .ref V.1, .int (i3 n)] (x, G, L) = oV x G' L ∧ (∀ r k, r ≠ 105 → r ≠ 106 → r ≠ 107 → G' r k = G r k) ∧ G' 105 2 = i3 (wv T n n (fo T)) ∧ G' 105 3 = ecl (fcl T n 0) := by
  have hsl := pS_lt hV.1
  rw [m_116 hV.1]
  -- one call
  have one : ∀ t g, t < n → (∀ r k, r ≠ 105 → r ≠ 106 → r ≠ 107 → g r k = G r k) → (∀ S, S < 64 → g 107 S = i3 (wv T n (n - (t + 1)) (dby T S))) → ∃ g', hD (d + 2) 116 59 [.ref 105, .ref V.1, .null, .int (i3 t), .int (i3 0), .null] 342 (RR V) x g L = hD (d + 2) 116 37 [.ref 105, .ref V.1, .null, .int (mi t), .null, .null] 342 (RR V) x g' L ∧ (∀ r k, r ≠ 105 → r ≠ 106 → r ≠ 107 → g' r k = G r k) ∧ (∀ S, S < 64 → g' 106 S = i3 (wv T n (n - t) (dby T S))) ∧ g' 105 3 = ecl (fcl T n t) := by
    intro t g ht hfr h107
    refine loopE (H := fun S (g : sm_G) => hD (d + 2) 116 59 [.ref 105, .ref V.1, .null, .int (i3 t), .int (i3 S), .null] 342 (RR V) x g L) (Q := fun o' => ∃ g', o' = hD (d + 2) 116 37 [.ref 105, .ref V.1, .null, .int (mi t), .null, .null] 342 (RR V) x g' L ∧ (∀ r k, r ≠ 105 → r ≠ 106 → r ≠ 107 → g' r k = G r k) ∧ (∀ S, S < 64 → g' 106 S = i3 (wv T n (n - t) (dby T S))) ∧ g' 105 3 = ecl (fcl T n t)) (N := 64)
      (fun S g => (∀ r k, r ≠ 105 → r ≠ 106 → r ≠ 107 → g r k = G r k) ∧ (∀ S, S < 64 → g 107 S = i3 (wv T n (n - (t + 1)) (dby T S))) ∧ (∀ S', S' < S → g 106 S' = i3 (wv T n (n - t) (dby T S'))) ∧ (0 < S → g 105 3 = ecl (fcl T n t))) ?_ ?_ 64 0 g (by omega) ⟨hfr, h107, fun S' h => by omega, fun h => by omega⟩
    · rintro S g hS ⟨w1, w2, w3, w4⟩
      have hcg : cS g V.1 T := hc.keep (fun r k a => w1 r k (by unfold inC at a; omega) (by unfold inC at a; omega) (by unfold inC at a; omega))
      have e117 := s_117 (d := d + 1) (x := x) (V := V) (G := g) (L := L) (mx := decide (t % 2 = 0)) (w := fun S => wv T n (n - (t + 1)) (dby T S)) hV hcg hT hS w2 (fun S' => by have := wv_le T n (n - (t + 1)) (dby T S'); omega)
      have ebv : bv T (decide (t % 2 = 0)) (fun v => wv T n (n - (t + 1)) (dby T (S ^^^ 1 <<< v))) = bv T (decide (t % 2 = 0)) (fun v => wv T n (n - (t + 1)) (dby T S ^^^ tu T v)) := bst_congr (fun v hv => by rw [dby_flip hv])
      rw [ebv] at e117
      have ecall : hD (d + 2) 116 59 [.ref 105, .ref V.1, .null, .int (i3 t), .int (i3 S), .null] 342 (RR V) x g L = hD (d + 2) 116 86 [.ref 105, .ref V.1, .null, .int (i3 t), .int (i3 S), .int (ecl (bv T (decide (t % 2 = 0)) (fun v => wv T n (n - (t + 1)) (dby T S ^^^ tu T v))))] 342 (RR V) x g L := by
        rw [h_116_59 hV.1]
        simp (disch := omega) only [i3_add, i3_mul, i3_sub, i3_m1, i3_lt, i3_le, i3_eq, m1_lt, lt_m1, m1_le, le_m1, i3_nm1, m1_ni3, i3_cl, i3_in, i3_or, i3_and, i3_xor, i3_shl, i3_shr, sh_tb, tb_eq0, gd_tt, aI_o, aV_o, aL_o, aR_o, zd_0, zd_1, if_true, if_false, ite_self, eq_self, Bool.true_eq_false, Bool.false_eq_true, bi_0, bi_1, bi_zd, Nat.not_lt_zero, hS, irem2]
        by_cases q : t % 2 = 0
        · rw [decide_eq_true q] at e117 ⊢
          have e117 : sm_cv0 (d + 2) 117 342 (RR V) [.ref 105, .ref V.1, .int (i3 S), .int (i3 1)] (x, g, L) = _ := e117
          rw [if_pos q, e117]
          rfl
        · rw [decide_eq_false q] at e117 ⊢
          have e117 : sm_cv0 (d + 2) 117 342 (RR V) [.ref 105, .ref V.1, .int (i3 S), .int (i3 0)] (x, g, L) = _ := e117
          rw [if_neg q, e117]
          rfl
      have hbk := bv_ok T (decide (t % 2 = 0)) (fun v => wv T n (n - (t + 1)) (dby T S ^^^ tu T v))
      have hws := wv_s (T := T) (D := dby T S) ht
      have f0 : S = 0 → fcl T n t = bv T (decide (t % 2 = 0)) (fun v => wv T n (n - (t + 1)) (dby T S ^^^ tu T v)) := fun h => by
        subst h
        unfold fcl
        rw [if_neg (by omega)]
        rfl
      show ∃ a', hD (d + 2) 116 59 [.ref 105, .ref V.1, .null, .int (i3 t), .int (i3 S), .null] 342 (RR V) x g L = _ ∧ _
      rw [ecall]
      -- the new value
      have newv : ∃ q, q < 64 ∧ i3 (wv T n (n - t) (dby T S)) = g 107 q ∧ ∀ g2 : sm_G, g2 = (if S = 0 then sm_up (sm_up g 106 S (g 107 q)) 105 3 (ecl (bv T (decide (t % 2 = 0)) (fun v => wv T n (n - (t + 1)) (dby T S ^^^ tu T v)))) else sm_up g 106 S (g 107 q)) → hD (d + 2) 116 86 [.ref 105, .ref V.1, .null, .int (i3 t), .int (i3 S), .int (ecl (bv T (decide (t % 2 = 0)) (fun v => wv T n (n - (t + 1)) (dby T S ^^^ tu T v))))] 342 (RR V) x g L = hD (d + 2) 116 59 [.ref 105, .ref V.1, .null, .int (i3 t), .int (i3 (S + 1)), .null] 342 (RR V) x g2 L := by
        generalize bv T (decide (t % 2 = 0)) (fun v => wv T n (n - (t + 1)) (dby T S ^^^ tu T v)) = b at hbk hws ⊢
        cases b with
        | none =>
          refine ⟨S, hS, by rw [w2 S hS, hws, wv_none hbk], fun g2 hg2 => ?_⟩
          rw [h_116_86 hV.1]
          simp (disch := omega) only [i3_add, i3_mul, i3_sub, i3_m1, i3_lt, i3_le, i3_eq, m1_lt, lt_m1, m1_le, le_m1, i3_nm1, m1_ni3, i3_cl, i3_in, i3_or, i3_and, i3_xor, i3_shl, i3_shr, sh_tb, tb_eq0, gd_tt, aI_o, aV_o, aL_o, aR_o, zd_0, zd_1, if_true, if_false, ite_self, eq_self, Bool.true_eq_false, Bool.false_eq_true, bi_0, bi_1, bi_zd, Nat.not_lt_zero, show ecl none = m1 from rfl]
          by_cases q : S = 0
          · rw [if_pos q, hg2, if_pos q]
            rfl
          · rw [if_neg q, hg2, if_neg q]
        | some cy =>
          obtain ⟨c, y⟩ := cy
          obtain ⟨b1, b2, b3, b4⟩ := hbk
          have hfl := flip_lt S hS c b1
          refine ⟨S ^^^ 1 <<< c, hfl, by rw [w2 _ hfl, hws, dby_flip b1]; show i3 y = _; rw [b3], fun g2 hg2 => ?_⟩
          rw [h_116_86 hV.1]
          simp (disch := omega) only [i3_add, i3_mul, i3_sub, i3_m1, i3_lt, i3_le, i3_eq, m1_lt, lt_m1, m1_le, le_m1, i3_nm1, m1_ni3, i3_cl, i3_in, i3_or, i3_and, i3_xor, i3_shl, i3_shr, sh_tb, tb_eq0, gd_tt, aI_o, aV_o, aL_o, aR_o, zd_0, zd_1, if_true, if_false, ite_self, eq_self, Bool.true_eq_false, Bool.false_eq_true, bi_0, bi_1, bi_zd, Nat.not_lt_zero, show ecl (some (c, y)) = i3 c from rfl]
          by_cases q : S = 0
          · rw [if_pos q, hg2, if_pos q]
            rfl
          · rw [if_neg q, hg2, if_neg q]
      obtain ⟨q, hq, v1, v2⟩ := newv
      refine ⟨_, v2 _ rfl, fun r k a b c => ?_, fun S' h' => ?_, fun S' h' => ?_, fun _ => ?_⟩
      · split
        · rw [sm_up_ne (by omega), sm_up_ne (by omega)]; exact w1 r k a b c
        · rw [sm_up_ne (by omega)]; exact w1 r k a b c
      · split
        · rw [sm_up_ne (by omega), sm_up_ne (by omega)]; exact w2 S' h'
        · rw [sm_up_ne (by omega)]; exact w2 S' h'
      · have e : ∀ S', S' < S + 1 → sm_up g 106 S (g 107 q) 106 S' = i3 (wv T n (n - t) (dby T S')) := fun S' h' => by
          by_cases z : S' = S
          · subst z; rw [sm_up_same, v1]
          · rw [sm_up_ne (by omega)]; exact w3 S' (by omega)
        split
        · rw [sm_up_ne (by omega)]; exact e S' h'
        · exact e S' h'
      · split
        · rename_i z
          rw [sm_up_same, f0 z]
        · rw [sm_up_ne (by omega)]; exact w4 (by omega)
    · rintro g ⟨w1, w2, w3, w4⟩
      refine ⟨g, ?_, w1, w3, w4 (by omega)⟩
      have em : i3 t + m1 = mi t := by
        cases t with
        | zero => rw [mi_0 rfl]; rfl
        | succ t => rw [i3_m1, mi_s (by omega)]; rfl
      show hD (d + 2) 116 59 [.ref 105, .ref V.1, .null, .int (i3 t), .int (i3 64), .null] 342 (RR V) x g L = _
      rw [h_116_59 hV.1, em]
      simp (disch := omega) only [i3_add, i3_mul, i3_sub, i3_m1, i3_lt, i3_le, i3_eq, m1_lt, lt_m1, m1_le, le_m1, i3_nm1, m1_ni3, i3_cl, i3_in, i3_or, i3_and, i3_xor, i3_shl, i3_shr, sh_tb, tb_eq0, gd_tt, aI_o, aV_o, aL_o, aR_o, zd_0, zd_1, if_true, if_false, ite_self, eq_self, Bool.true_eq_false, Bool.false_eq_true, bi_0, bi_1, bi_zd, Nat.not_lt_zero, Nat.lt_irrefl]
  -- the calls from the last on
  have calls : ∀ t g, t ≤ n → (∀ r k, r ≠ 105 → r ≠ 106 → r ≠ 107 → g r k = G r k) → (∀ S, S < 64 → g 106 S = i3 (wv T n (n - t) (dby T S))) → g 105 3 = ecl (fcl T n t) → ∃ G', hD (d + 2) 116 37 [.ref 105, .ref V.1, .null, .int (mi t), .null, .null] 342 (RR V) x g L = oV x G' L ∧ (∀ r k, r ≠ 105 → r ≠ 106 → r ≠ 107 → G' r k = G r k) ∧ G' 105 2 = i3 (wv T n n (fo T)) ∧ G' 105 3 = ecl (fcl T n 0) := by
    intro t
    induction t with
    | zero =>
      intro g _ hfr h106 h3
      refine ⟨sm_up g 105 2 (g 106 0), ?_, fun r k a b c => by rw [sm_up_ne (by omega)]; exact hfr r k a b c, by rw [sm_up_same]; exact h106 0 (by omega), by rw [sm_up_ne (by omega)]; exact h3⟩
      rw [h_116_37 hV.1, if_pos (by rw [mi_lt0 (by omega)])]
    | succ t ih =>
      intro g ht hfr h106 h3
      obtain ⟨g', o1, o2, o3, o4⟩ := one t (sm_acp g 106 0 107 0 64) (by omega) (fun r k a b c => by rw [acp_ne (by omega)]; exact hfr r k a b c) (fun S hS => by rw [acp_at hS]; exact h106 S hS)
      obtain ⟨G', k1, k2⟩ := ih g' (by omega) o2 o3 o4
      refine ⟨G', ?_, k2⟩
      have e3 := s_3 (d := d + 1) (x := x) (V := V) (L := L) (G := g) (a := 106) (b := 107) (n := 64) (by decide +kernel) (by decide +kernel) (by omega) (by decide +kernel) (by decide +kernel)
      have e4 : mi (t + 1) = i3 t := mi_s (by omega)
      rw [h_116_37 hV.1, e4]
      simp (disch := omega) only [i3_add, i3_mul, i3_sub, i3_m1, i3_lt, i3_le, i3_eq, m1_lt, lt_m1, m1_le, le_m1, i3_nm1, m1_ni3, i3_cl, i3_in, i3_or, i3_and, i3_xor, i3_shl, i3_shr, sh_tb, tb_eq0, gd_tt, aI_o, aV_o, aL_o, aR_o, zd_0, zd_1, if_true, if_false, ite_self, eq_self, Bool.true_eq_false, Bool.false_eq_true, bi_0, bi_1, bi_zd, Nat.not_lt_zero, e3, o1, k1]
  -- how it stands with no call left
  have fill : ∃ g, hD (d + 2) 116 2 [.ref 105, .ref V.1, .int (i3 n), .int (i3 0), .null, .null] 342 (RR V) x G L = hD (d + 2) 116 37 [.ref 105, .ref V.1, .null, .int (mi n), .null, .null] 342 (RR V) x g L ∧ (∀ r k, r ≠ 105 → r ≠ 106 → r ≠ 107 → g r k = G r k) ∧ (∀ S, S < 64 → g 106 S = i3 (wv T n 0 (dby T S))) ∧ g 105 3 = m1 := by
    refine loopE (H := fun S (g : sm_G) => hD (d + 2) 116 2 [.ref 105, .ref V.1, .int (i3 n), .int (i3 S), .null, .null] 342 (RR V) x g L) (Q := fun o' => ∃ g, o' = hD (d + 2) 116 37 [.ref 105, .ref V.1, .null, .int (mi n), .null, .null] 342 (RR V) x g L ∧ (∀ r k, r ≠ 105 → r ≠ 106 → r ≠ 107 → g r k = G r k) ∧ (∀ S, S < 64 → g 106 S = i3 (wv T n 0 (dby T S))) ∧ g 105 3 = m1) (N := 64)
      (fun S g => (∀ r k, r ≠ 105 → r ≠ 106 → r ≠ 107 → g r k = G r k) ∧ ∀ S', S' < S → g 106 S' = i3 (wv T n 0 (dby T S'))) ?_ ?_ 64 0 G (by omega) ⟨fun _ _ _ _ _ => rfl, fun S' h => by omega⟩
    · rintro S g hS ⟨w1, w2⟩
      have hcg : cS g V.1 T := hc.keep (fun r k a => w1 r k (by unfold inC at a; omega) (by unfold inC at a; omega) (by unfold inC at a; omega))
      have e1 := fun x => s_113 (d := d + 1) (x := x) (V := V) (L := L) hV.1 hcg (show S < 1024 by omega)
      have e2 := fun x => s_7 (d := d + 1) (x := x) (V := V) (G := g) (L := L) (dby_lt (S := S) hT)
      refine ⟨sm_up g 106 S (i3 (pc (dby T S) 10)), ?_, fun r k a b c => by rw [sm_up_ne (by omega)]; exact w1 r k a b c, fun S' h' => ?_⟩
      · rw [h_116_2 hV.1]
        simp (disch := omega) only [i3_add, i3_mul, i3_sub, i3_m1, i3_lt, i3_le, i3_eq, m1_lt, lt_m1, m1_le, le_m1, i3_nm1, m1_ni3, i3_cl, i3_in, i3_or, i3_and, i3_xor, i3_shl, i3_shr, sh_tb, tb_eq0, gd_tt, aI_o, aV_o, aL_o, aR_o, zd_0, zd_1, if_true, if_false, ite_self, eq_self, Bool.true_eq_false, Bool.false_eq_true, bi_0, bi_1, bi_zd, Nat.not_lt_zero, hS, e1, e2]
      · by_cases z : S' = S
        · subst z; rw [sm_up_same]; rfl
        · rw [sm_up_ne (by omega)]; exact w2 S' (by omega)
    · rintro g ⟨w1, w2⟩
      refine ⟨sm_up g 105 3 m1, ?_, fun r k a b c => by rw [sm_up_ne (by omega)]; exact w1 r k a b c, fun S hS => by rw [sm_up_ne (by omega)]; exact w2 S hS, sm_up_same _ _ _ _⟩
      show hD (d + 2) 116 2 [.ref 105, .ref V.1, .int (i3 n), .int (i3 64), .null, .null] 342 (RR V) x g L = _
      rw [h_116_2 hV.1, pre_mi (by omega)]
      simp (disch := omega) only [i3_add, i3_mul, i3_sub, i3_m1, i3_lt, i3_le, i3_eq, m1_lt, lt_m1, m1_le, le_m1, i3_nm1, m1_ni3, i3_cl, i3_in, i3_or, i3_and, i3_xor, i3_shl, i3_shr, sh_tb, tb_eq0, gd_tt, aI_o, aV_o, aL_o, aR_o, zd_0, zd_1, if_true, if_false, ite_self, eq_self, Bool.true_eq_false, Bool.false_eq_true, bi_0, bi_1, bi_zd, Nat.not_lt_zero, Nat.lt_irrefl]
  obtain ⟨g, f1, f2, f3, f4⟩ := fill
  obtain ⟨G', k1, k2⟩ := calls n g (Nat.le_refl _) f2 (fun S hS => by rw [Nat.sub_self]; exact f3 S hS) (by rw [f4]; unfold fcl; rw [if_pos (Nat.le_refl _)]; rfl)
  exact ⟨G', f1.trans k1, k2⟩
