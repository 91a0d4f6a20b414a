/-! the fewest sorts: class and model -/
theorem sub_le0 : ∀ a, a < 11 → ∀ b, b < 11 → ((i3 a - i3 b ≤ i3 0) = (a ≤ b)) ∧ ((i3 a - i3 b = i3 0) = (a = b)) := by
  have h : ∀ a, a < 11 → ∀ b, b < 11 → (decide (i3 a - i3 b ≤ i3 0) = decide (a ≤ b)) ∧ (decide (i3 a - i3 b = i3 0) = decide (a = b)) := by decide +kernel
  intro a ha b hb
  obtain ⟨h1, h2⟩ := h a ha b hb
  exact ⟨propext (decide_eq_decide.mp h1), propext (decide_eq_decide.mp h2)⟩
theorem nm1 {n : Nat} (h : n < 2147483648) : ¬ i3 n = m1 := fun e => by rw [i3_nm1 h] at e; exact e
theorem and_lt {a b n : Nat} (h : a < n) : a &&& b < n := Nat.lt_of_le_of_lt Nat.and_le_left h
def eb : Option Nat → Int32
  | none => m1
  | some S => i3 S
theorem s_114 {d x : Nat} {V : pV} {G : sm_G} {L : sm_L} {S : Nat} {b : Option Nat} (hS : S < 64) (hb : ∀ B, b = some B → B < 64) : sm_cv0 (d + 2) 114 342 (RR V) [.int (i3 S), .int (eb b)] (x, G, L) = oI (bi (decide (∀ B, b = some B → pc1 S < pc1 B ∨ (pc1 S = pc1 B ∧ dgt S < dgt B)))) x G L := by
  rw [m_114]
  cases b with
  | none =>
    show (if m1 = m1 then _ else _) = _
    rw [if_pos rfl, decide_eq_true (fun B h => by cases h)]
    rfl
  | some B =>
    have hB := hb B rfl
    obtain ⟨p1, p2⟩ := set_lt S hS
    obtain ⟨p3, p4⟩ := set_lt B hB
    obtain ⟨u1, u2⟩ := sub_le0 (pc1 B) (by omega) (pc1 S) (by omega)
    have hd : (∀ B', some B = some B' → pc1 S < pc1 B' ∨ (pc1 S = pc1 B' ∧ dgt S < dgt B')) ↔ (pc1 S < pc1 B ∨ (pc1 S = pc1 B ∧ dgt S < dgt B)) := ⟨fun h => h B rfl, fun h B' e => by cases e; exact h⟩
    show (if i3 B = m1 then _ else sm_aI (sm_cv0 (d + 1) 7 342 (RR V) [.int (i3 B)] (x, G, L)) _ _) = _
    rw [if_neg (nm1 (by omega)), s_7 (by omega)]
    simp only [aI_o]
    rw [s_7 (by omega)]
    simp only [aI_o]
    simp only [show pc B 10 = pc1 B from rfl, show pc S 10 = pc1 S from rfl, u1, u2]
    have eB : eb (some B) = i3 B := rfl
    by_cases q : pc1 B ≤ pc1 S
    · rw [if_pos q]
      by_cases q2 : pc1 B = pc1 S
      · rw [if_pos q2, s_115 (by omega)]
        simp only [aI_o]
        rw [eB, s_115 (by omega)]
        simp only [aI_o]
        simp (disch := omega) only [i3_lt]
        by_cases q3 : dgt S < dgt B
        · rw [if_pos q3, decide_eq_true (hd.mpr (Or.inr ⟨q2.symm, q3⟩))]
          rfl
        · rw [if_neg q3, decide_eq_false (fun h => by have := hd.mp h; omega)]
          rfl
      · rw [if_neg q2, decide_eq_false (fun h => by have := hd.mp h; omega)]
        rfl
    · rw [if_neg q, decide_eq_true (hd.mpr (Or.inl (by omega)))]
      rfl
/-- these doors open, those shut -/
def dfe (T : pT) (o s S : Nat) : Bool := decide (dby T S &&& o = o ∧ dby T S &&& s = 0)
theorem s_112 {d x : Nat} {V : pV} {G : sm_G} {L : sm_L} {T : pT} {o s : Nat} (hV : okV V) (hc : cS G V.1 T) (hT : okT T) (ho : o < 1024) (hs : s < 1024) : sm_cv0 (d + 4) 112 342 (RR V) [.ref 105, .ref V.1, .int (i3 o), .int (i3 s)] (x, G, L) = oI (eb (itr (fun S b => updC (dfe T o s) b S) 0 64 none)) x G L := by
  rw [m_112 hV.1]
  refine (loopP (H := fun i b => hD (d + 3) 112 6 [.null, .ref V.1, .int (i3 o), .int (i3 s), .int (eb b), .int (i3 i), .null] 342 (RR V) x G L) (out := fun b => oI (eb b) x G L) (N := 64) (step := fun S b => updC (dfe T o s) b S) (fun i b => ∀ B, b = some B → B < 64) ?_ ?_ 64 0 none (by omega) (fun B h => by cases h)).1
  · intro S b hS hb
    have hl := dby_lt (S := S) hT
    have l1 := and_lt (b := o) hl
    have l2 := and_lt (b := s) hl
    have ha : ∀ (b' : Option Nat) , updC (dfe T o s) b S = b' → (∀ B, b' = some B → B < 64) ∧ hD (d + 3) 112 6 [.null, .ref V.1, .int (i3 o), .int (i3 s), .int (eb b), .int (i3 S), .null] 342 (RR V) x G L = hD (d + 3) 112 6 [.null, .ref V.1, .int (i3 o), .int (i3 s), .int (eb b'), .int (i3 (S + 1)), .null] 342 (RR V) x G L := by
      intro b' hb'
      subst hb'
      rw [h_112_6 hV.1, s_113 hV.1 hc (by omega)]
      simp (disch := omega) only [i3_add, i3_mul, i3_sub, i3_m1, i3_lt, i3_le, i3_eq, m1_lt, lt_m1, m1_le, le_m1, i3_nm1, m1_ni3, i3_cl, i3_in, i3_or, i3_and, i3_xor, i3_shl, i3_shr, sh_tb, tb_eq0, gd_tt, aI_o, aV_o, aL_o, aR_o, zd_0, zd_1, if_true, if_false, ite_self, eq_self, Bool.true_eq_false, Bool.false_eq_true, bi_0, bi_1, bi_zd, Nat.not_lt_zero, hS]
      by_cases q1 : dby T S &&& o = o
      · by_cases q2 : dby T S &&& s = 0
        · have hf : dfe T o s S = true := decide_eq_true ⟨q1, q2⟩
          rw [if_pos q1, if_pos q2, s_114 hS hb]
          simp only [aI_o]
          unfold updC
          rw [hf, if_pos rfl]
          cases b with
          | none =>
            rw [decide_eq_true (fun B h => by cases h), if_neg (by decide), h_112_53 hV.1]
            exact ⟨fun B h => by cases h; exact hS, rfl⟩
          | some B =>
            have hd : (∀ B', some B = some B' → pc1 S < pc1 B' ∨ (pc1 S = pc1 B' ∧ dgt S < dgt B')) ↔ (pc1 S < pc1 B ∨ (pc1 S = pc1 B ∧ dgt S < dgt B)) := ⟨fun h => h B rfl, fun h B' e => by cases e; exact h⟩
            by_cases q3 : pc1 S < pc1 B ∨ (pc1 S = pc1 B ∧ dgt S < dgt B)
            · rw [decide_eq_true (hd.mpr q3), if_neg (by decide), h_112_53 hV.1]
              simp only [if_pos q3]
              exact ⟨fun B h => by cases h; exact hS, rfl⟩
            · rw [decide_eq_false (fun h => q3 (hd.mp h)), if_pos (by decide), h_112_53 hV.1]
              simp only [if_neg q3]
              exact ⟨hb, by trivial⟩
        · have hf : dfe T o s S = false := decide_eq_false (fun h => q2 h.2)
          rw [if_pos q1, if_neg q2, h_112_53 hV.1]
          unfold updC
          rw [hf, if_neg (by decide)]
          exact ⟨hb, rfl⟩
      · have hf : dfe T o s S = false := decide_eq_false (fun h => q1 h.1)
        rw [if_neg q1, h_112_53 hV.1]
        unfold updC
        rw [hf, if_neg (by decide)]
        exact ⟨hb, rfl⟩
    obtain ⟨a1, a2⟩ := ha _ rfl
    exact ⟨a2, a1⟩
  · intro b _
    rw [h_112_6 hV.1]
    simp (disch := omega) only [i3_add, i3_mul, i3_sub, i3_m1, i3_lt, i3_le, i3_eq, m1_lt, lt_m1, m1_le, le_m1, i3_nm1, m1_ni3, i3_cl, i3_in, i3_or, i3_and, i3_xor, i3_shl, i3_shr, sh_tb, tb_eq0, gd_tt, aI_o, aV_o, aL_o, aR_o, zd_0, zd_1, if_true, if_false, ite_self, eq_self, Bool.true_eq_false, Bool.false_eq_true, bi_0, bi_1, bi_zd, Nat.not_lt_zero, Nat.lt_irrefl]
/-- the model's best so far -/
def enc (g : sm_G) (b : Option Nat) : Prop := match b with
  | none => g 156 59 = m1
  | some S => S < 64 ∧ g 156 59 = i3 (pc1 S) ∧ g 156 60 = i3 (dgt S)
theorem s_297n {d x : Nat} {V : pV} {g : sm_G} {L : sm_L} {T : pT} {o s f S : Nat} {b : Option Nat} (hT : okT T) (ho : o < 1024) (hs : s < 1024) (hf : f ≤ 6) (hS : S < 64) (hb : enc g b) : ∃ g', sm_cv0 (d + 1) 297 342 (RR V) [.ref 156, .int (i3 f), .int (i3 (dby T S)), .int (i3 o), .int (i3 s), .int (i3 (pc1 S)), .int (i3 (dgt S))] (x, g, L) = hD d 297 46 [.ref 156, .null, .int (i3 (dby T S)), .int (i3 o), .int (i3 s), .int (i3 (pc1 S)), .int (i3 (dgt S)), .int (i3 f)] 342 (RR V) x g' L ∧ (∀ r k, ¬ (r = 156 ∧ (k = 59 ∨ k = 60)) → g' r k = g r k) ∧ enc g' (updM (dfe T o s) b S) := by
  have hl := dby_lt (S := S) hT
  obtain ⟨p1, p2⟩ := set_lt S hS
  have l1 := and_lt (b := o) hl
  have l2 := and_lt (b := s) hl
  have new : ∀ r k, ¬ (r = 156 ∧ (k = 59 ∨ k = 60)) → sm_up (sm_up g 156 59 (i3 (pc1 S))) 156 60 (i3 (dgt S)) r k = g r k := fun r k h => by rw [sm_up_ne (by omega), sm_up_ne (by omega)]
  have nenc : enc (sm_up (sm_up g 156 59 (i3 (pc1 S))) 156 60 (i3 (dgt S))) (some S) := ⟨hS, by rw [sm_up_ne (by omega), sm_up_same], sm_up_same _ _ _ _⟩
  rw [m_297]
  simp (disch := omega) only [i3_add, i3_mul, i3_sub, i3_m1, i3_lt, i3_le, i3_eq, m1_lt, lt_m1, m1_le, le_m1, i3_nm1, m1_ni3, i3_cl, i3_in, i3_or, i3_and, i3_xor, i3_shl, i3_shr, sh_tb, tb_eq0, gd_tt, aI_o, aV_o, aL_o, aR_o, zd_0, zd_1, if_true, if_false, ite_self, eq_self, Bool.true_eq_false, Bool.false_eq_true, bi_0, bi_1, bi_zd, Nat.not_lt_zero]
  unfold updM
  by_cases q1 : dby T S &&& o = o
  · by_cases q2 : dby T S &&& s = 0
    · have hf : dfe T o s S = true := decide_eq_true ⟨q1, q2⟩
      rw [if_pos q1, if_pos q2, hf, if_pos rfl]
      cases b with
      | none =>
        have hb : g 156 59 = m1 := hb
        rw [if_pos hb]
        exact ⟨_, rfl, new, nenc⟩
      | some B =>
        obtain ⟨b1, b2, b3⟩ := hb
        obtain ⟨p3, p4⟩ := set_lt B b1
        rw [b2, if_neg (nm1 (by omega))]
        simp (disch := omega) only [i3_lt]
        by_cases q3 : pc1 S < pc1 B
        · simp only [if_pos q3]
          exact ⟨_, rfl, new, nenc⟩
        · simp only [if_neg q3]
          exact ⟨g, rfl, fun _ _ _ => rfl, b1, b2, b3⟩
    · have hf : dfe T o s S = false := decide_eq_false (fun h => q2 h.2)
      rw [if_pos q1, if_neg q2, hf, if_neg (by decide)]
      exact ⟨g, rfl, fun _ _ _ => rfl, hb⟩
  · have hf : dfe T o s S = false := decide_eq_false (fun h => q1 h.1)
    rw [if_neg q1, hf, if_neg (by decide)]
    exact ⟨g, rfl, fun _ _ _ => rfl, hb⟩
theorem s_297l {V : pV} {L : sm_L} {T : pT} {o s : Nat} (hT : okT T) (ho : o < 1024) (hs : s < 1024) : ∀ (n d x f S : Nat) (g : sm_G) (b : Option Nat), f + n = 6 → S < 2 ^ f → (∀ v, v < 6 → g 164 v = i3 (tu T v)) → enc g b → ∃ g', hD (d + n) 297 46 [.ref 156, .null, .int (i3 (dby T S)), .int (i3 o), .int (i3 s), .int (i3 (pc1 S)), .int (i3 (dgt S)), .int (i3 f)] 342 (RR V) x g L = oV x g' L ∧ (∀ r k, ¬ (r = 156 ∧ (k = 59 ∨ k = 60)) → g' r k = g r k) ∧ enc g' ((lpz (fun v => decide (tu T v = 0)) n f S).foldl (updM (dfe T o s)) b) := by
  intro n
  induction n with
  | zero =>
    intro d x f S g b hf hS ht hb
    obtain rfl : f = 6 := by omega
    refine ⟨g, ?_, fun _ _ _ => rfl, hb⟩
    rw [h_297_46]
    simp (disch := omega) only [i3_add, i3_mul, i3_sub, i3_m1, i3_lt, i3_le, i3_eq, m1_lt, lt_m1, m1_le, le_m1, i3_nm1, m1_ni3, i3_cl, i3_in, i3_or, i3_and, i3_xor, i3_shl, i3_shr, sh_tb, tb_eq0, gd_tt, aI_o, aV_o, aL_o, aR_o, zd_0, zd_1, if_true, if_false, ite_self, eq_self, Bool.true_eq_false, Bool.false_eq_true, bi_0, bi_1, bi_zd, Nat.not_lt_zero, Nat.lt_irrefl]
  | succ n ih =>
    intro d x f S g b hf hS ht hb
    have hf6 : f < 6 := by omega
    have hl := dby_lt (S := S) hT
    have htf := hT.tu1 f hf6
    have hS64 : S < 64 := Nat.lt_of_lt_of_le hS (show 2 ^ f ≤ 2 ^ 6 from Nat.pow_le_pow_right (by decide) (by omega))
    obtain ⟨p1, p2⟩ := set_lt S hS64
    obtain ⟨a1, a2, a3⟩ := set_add f hf6 S hS64 hS
    have e2 : 2 ^ (f + 1) = 2 ^ f + 2 ^ f := by rw [Nat.pow_succ]; omega
    have ed : d + 1 + n = d + (n + 1) := by omega
    have h64 : (S ||| 1 <<< f) < 64 := Nat.lt_of_lt_of_le (show (S ||| 1 <<< f) < 2 ^ (f + 1) by omega) (show 2 ^ (f + 1) ≤ 2 ^ 6 from Nat.pow_le_pow_right (by decide) (by omega))
    show ∃ g', _ ∧ _ ∧ enc g' (((if decide (tu T f = 0) = true then [] else (S ||| 1 <<< f) :: lpz (fun v => decide (tu T v = 0)) n (f + 1) (S ||| 1 <<< f)) ++ lpz (fun v => decide (tu T v = 0)) n (f + 1) S).foldl (updM (dfe T o s)) b)
    rw [List.foldl_append, h_297_46]
    by_cases q : tu T f = 0
    · obtain ⟨g1, i1, i2, i3'⟩ := ih (d + 1) x (f + 1) S g b (by omega) (by omega) ht hb
      rw [ed] at i1
      refine ⟨g1, ?_, i2, ?_⟩
      · have e0 : g 164 f = i3 0 := by rw [ht f hf6, q]
        simp (disch := omega) only [i3_add, i3_mul, i3_sub, i3_m1, i3_lt, i3_le, i3_eq, m1_lt, lt_m1, m1_le, le_m1, i3_nm1, m1_ni3, i3_cl, i3_in, i3_or, i3_and, i3_xor, i3_shl, i3_shr, sh_tb, tb_eq0, gd_tt, aI_o, aV_o, aL_o, aR_o, zd_0, zd_1, if_true, if_false, ite_self, eq_self, Bool.true_eq_false, Bool.false_eq_true, bi_0, bi_1, bi_zd, Nat.not_lt_zero, hf6, e0, i1]
      · rw [decide_eq_true q, if_pos rfl]
        exact i3'
    · have e0 := ht f hf6
      obtain ⟨g0, j1, j2, j3⟩ := s_297n (d := d + n) (x := x) (V := V) (L := L) (f := f + 1) (S := S ||| 1 <<< f) hT ho hs (by omega) h64 hb
      obtain ⟨g1, i1, i2, i3'⟩ := ih d x (f + 1) (S ||| 1 <<< f) g0 _ (by omega) (by omega) (fun v hv => by rw [j2 _ _ (by omega)]; exact ht v hv) j3
      obtain ⟨g2, k1, k2, k3⟩ := ih (d + 1) x (f + 1) S g1 _ (by omega) (by omega) (fun v hv => by rw [i2 _ _ (by omega), j2 _ _ (by omega)]; exact ht v hv) i3'
      rw [ed] at k1
      refine ⟨g2, ?_, fun r k h => by rw [k2 r k h, i2 r k h, j2 r k h], ?_⟩
      · have j1' := j1.trans i1
        rw [dby_add hS hf6, a2, a3] at j1'
        have j2' : sm_cv0 (d + (n + 1)) 297 342 (RR V) [.ref 156, .int (i3 (f + 1)), .int (i3 (dby T S ^^^ tu T f)), .int (i3 o), .int (i3 s), .int (i3 (pc1 S + 1)), .int (i3 (10 * dgt S + f))] (x, g, L) = oV x g1 L := j1'
        simp (disch := omega) only [i3_add, i3_mul, i3_sub, i3_m1, i3_lt, i3_le, i3_eq, m1_lt, lt_m1, m1_le, le_m1, i3_nm1, m1_ni3, i3_cl, i3_in, i3_or, i3_and, i3_xor, i3_shl, i3_shr, sh_tb, tb_eq0, gd_tt, aI_o, aV_o, aL_o, aR_o, zd_0, zd_1, if_true, if_false, ite_self, eq_self, Bool.true_eq_false, Bool.false_eq_true, bi_0, bi_1, bi_zd, Nat.not_lt_zero, hf6, e0, q, j2', k1]
      · rw [decide_eq_false q, if_neg (by decide), List.foldl_cons]
        exact k3
theorem op_55 {d x : Nat} {V : pV} {G : sm_G} {L : sm_L} {v w y : Int32} (I : Inv V G) : OpI d x V G L 55 [.ref 1, .int v, .int w, .int y] 295 [.ref 156, .int v, .int w, .int y] eA := by
  have I0 := I
  obtain ⟨T, K, c, H, W, hS, hh, hn⟩ := I
  have hB := hS.T.gb
  have hd10 := hB.2.1
  have gdn := hS.c.gdn
  refine OpI_1 (C1 := (¬ v < i3 0 ∧ v < i3 (2 ^ dn T)) ∧ (¬ w < i3 0 ∧ w < i3 (2 ^ dn T)) ∧ v &&& w = i3 0 ∧ ¬ y < i3 0 ∧ y ≤ i3 1) (k1 := 2) (X := sm_aI (sm_cv0 (d + 59) 112 342 (RR V) [.ref 105, .ref V.1, .int v, .int w] (x, G, L)) (fun a2 x2 G2 L2 =>
      if a2 = m1 then (oI m1 x2 G2 L2)
      else (if y = (i3 0) then (sm_aI (sm_cv0 (d + 59) 7 342 (RR V) [.int a2] (x2, G2, L2)) (fun a3 x3 G3 L3 => oI a3 x3 G3 L3) oX)
        else (sm_aI (sm_cv0 (d + 59) 115 342 (RR V) [.int a2] (x2, G2, L2)) (fun a4 x4 G4 L4 => oI a4 x4 G4 L4) oX))) oX) (Y := fun x1 G1 => hD (d + 59) 295 52 [.ref 156, .int v, .int w, .int y] 342 (RR V) x1 (g00 G1) L) I0 ?_ ?_ (by decide) ?_
  · have e29 : ∀ x, sm_cv0 (d + 59) 29 342 (RR V) [.ref 1, .int (i3 0)] (x, G, L) = rfC 2 x G L := fun x => s_29 (b := false)
    have e29' : ∀ x, sm_cv0 (d + 59) 29 342 (RR V) [.ref 1, .int (i3 1)] (x, G, L) = oV x G L := fun x => s_29 (b := true)
    rw [m_55 hS.V, gdn, s_51 hd10]
    simp only [aI_o]
    by_cases h1 : ¬ v < i3 0 ∧ v < i3 (2 ^ dn T)
    · rw [decide_eq_true h1, if_neg (by decide), gdn, s_51 hd10]
      simp only [aI_o]
      by_cases h2 : ¬ w < i3 0 ∧ w < i3 (2 ^ dn T)
      · rw [decide_eq_true h2, if_neg (by decide)]
        by_cases h3 : v &&& w = i3 0
        · rw [if_pos h3, e29']
          simp only [aV_o]
          rw [h_55_43, s_33, aV_if]
          by_cases h4 : ¬ y < i3 0 ∧ y ≤ i3 1
          · rw [if_pos h4, if_pos ⟨h1, h2, h3, h4⟩]
          · rw [if_neg h4, if_neg (fun z => h4 z.2.2.2)]
        · rw [if_neg h3, e29, if_neg (fun z => h3 z.2.2.1)]
          rfl
      · rw [decide_eq_false h2, if_pos (by decide), e29, if_neg (fun z => h2 z.2.1)]
        rfl
    · rw [decide_eq_false h1, if_pos (by decide), e29, if_neg (fun z => h1 z.1)]
      rfl
  · intro x1 G1 hs
    have hm := hS.m.sM hS.T hS.P hs
    have bad : ∀ (F : Nat → sm_G → sm_L → Option (sm_Res × sm_D)), sm_aI (sm_cv0 (d + 59) 219 342 (RR V) [.ref 156, .int (i3 1), .int (i3 1), .int (i3 2)] (x1, g00 G1, L)) (fun a2 x2 G2 L2 => if a2 = i3 0 then F x2 G2 L2 else oI (i3 0) x2 G2 L2) oX = oI (i3 0) x1 (noted G1 1 2) L := fun F => by
      rw [s_219b (by decide) (by decide) (by decide) g00_0]
      rfl
    rw [m_295, s_296 hm.gdn hd10]
    simp only [aI_o]
    by_cases h1 : ¬ v < i3 0 ∧ v < i3 (2 ^ dn T)
    · rw [decide_eq_true h1, if_neg (by decide), s_296 hm.gdn hd10]
      simp only [aI_o]
      by_cases h2 : ¬ w < i3 0 ∧ w < i3 (2 ^ dn T)
      · rw [decide_eq_true h2, if_neg (by decide)]
        by_cases h3 : v &&& w = i3 0
        · rw [if_pos h3, s_218c]
          simp only [aI_o]
          rw [mbad g00_0 (by decide) (by decide) (by decide)]
          by_cases h4 : ¬ y < i3 0 ∧ y ≤ i3 1
          · rw [if_pos h4, if_pos ⟨h1, h2, h3, h4⟩]
          · rw [if_neg h4, if_neg (fun z => h4 z.2.2.2)]
            rfl
        · rw [if_neg h3, bad, if_neg (fun z => h3 z.2.2.1)]
          rfl
      · rw [decide_eq_false h2, if_pos (by decide), bad, if_neg (fun z => h2 z.2.1)]
        rfl
    · rw [decide_eq_false h1, if_pos (by decide), bad, if_neg (fun z => h1 z.1)]
      rfl
  · rintro ⟨h1, h2, h3, h4⟩
    have h10 : 2 ^ dn T ≤ 1024 := Nat.pow_le_pow_right (by decide) hd10
    obtain ⟨o, rfl, ho⟩ := rng (by omega) h1
    obtain ⟨s, rfl, hs⟩ := rng (by omega) h2
    have hm := hS.m.sM hS.T hS.P (sM_o (G := G))
    have ho2 : o < 1024 := by omega
    have hs2 : s < 1024 := by omega
    have u59 : ∀ r k, ¬ (r = 156 ∧ k = 59) → sm_up (g00 G) 156 59 m1 r k = g00 G r k := fun r k h => sm_up_ne (by omega)
    have e59 : sm_up (g00 G) 156 59 m1 156 59 = m1 := sm_up_same _ _ _ _
    have hm2 : mH (sm_up (g00 G) 156 59 m1) T (H c) K := hm.keep hS.T hS.P (fun r k a => u59 r k (by unfold inM at a; omega))
    have e260 := fun x => s_260 (d := d + 58) (x := x) (L := L) (V := V) hm2 hS.T
    rw [s_112 hS.V hS.c hS.T ho2 hs2]
    simp only [aI_o]
    obtain ⟨g1, n1, n2, n3⟩ := s_297n (d := d + 58) (x := x) (V := V) (L := L) (g := sm_up (g00 G) 156 59 m1) (f := 0) (S := 0) (b := none) hS.T ho2 hs2 (by omega) (by omega) e59
    obtain ⟨g2, k1, k2, k3⟩ := s_297l (V := V) (L := L) hS.T ho2 hs2 6 (d + 52) x 0 0 g1 _ (by omega) (by omega) (fun v hv => by rw [n2 _ _ (by omega)]; exact hm2.gtu v hv) n3
    have k1' := n1.trans k1
    have z1 : dby T 0 = fo T := rfl
    have z2 : pc1 0 = 0 := rfl
    have z3 : dgt 0 = 0 := rfl
    rw [z1, z2, z3] at k1'
    have fr : ∀ r k, ¬ (r = 156 ∧ (k = 59 ∨ k = 60)) → g2 r k = g00 G r k := fun r k h => by rw [k2 r k h, n2 r k h]; exact u59 r k (by omega)
    have e0 : g2 156 0 = i3 0 := by rw [fr _ _ (by omega)]; exact g00_0
    have IV : Inv V g2 := Inv_q (G1 := G) hS (fun _ _ _ => rfl) hh hn (fun r k a => by unfold sc at a; rw [fr r k (by omega), g00_ne (by omega)])
    have em : ∀ (F : Nat → sm_G → sm_L → Option (sm_Res × sm_D)) , sm_aI (sm_cv0 (d + 59) 260 342 (RR V) [.ref 156] (x, sm_up (g00 G) 156 59 m1, L)) (fun a1 x1 G1 L1 => sm_aV (sm_cv0 (d + 59) 297 342 (RR V) [.ref 156, .int (i3 0), .int a1, .int (i3 o), .int (i3 s), .int (i3 0), .int (i3 0)] (x1, G1, L1)) F oX) oX = F x g2 L := fun F => by
      rw [e260]
      simp only [aI_o]
      rw [k1']
      rfl
    have eY : hD (d + 59) 295 52 [.ref 156, .int (i3 o), .int (i3 s), .int y] 342 (RR V) x (g00 G) L = if y = i3 0 then oI (g2 156 59) x g2 L else if g2 156 59 = m1 then oI (g2 156 59) x g2 L else oI (g2 156 60) x g2 L := by
      rw [h_295_52, em]
    have k3' : enc g2 ((0 :: lpz (fun v => decide (tu T v = 0)) 6 0 0).foldl (updM (dfe T o s)) none) := k3
    have hp : ∀ A B, dby T A = dby T B → dfe T o s A = dfe T o s B := fun A B h => by unfold dfe; rw [h]
    rcases bestE hp with ⟨b1, b2⟩ | ⟨B, B', b1, b2, b3, b4, b5, b6⟩
    · rw [b2] at k3'
      have k3' : g2 156 59 = m1 := k3'
      rw [b1]
      refine ⟨m1, G, g2, ?_, sM_o, ?_, e0, IV⟩
      · show (if m1 = m1 then _ else _) = _
        rw [if_pos rfl]
      · show hD _ _ _ _ _ _ _ _ _ = _
        rw [eY, k3', if_pos rfl, ite_self]
    · rw [b2] at k3'
      obtain ⟨t1, t2, t3⟩ := k3'
      rw [b1]
      obtain ⟨p1, p2⟩ := set_lt B b3
      obtain ⟨p3, p4⟩ := set_lt B' b4
      refine ⟨if y = i3 0 then i3 (pc1 B) else i3 (dgt B), G, g2, ?_, sM_o, ?_, e0, IV⟩
      · show (if i3 B = m1 then _ else (if y = i3 0 then (sm_aI (sm_cv0 (d + 59) 7 342 (RR V) [.int (i3 B)] (x, G, L)) (fun a3 x3 G3 L3 => oI a3 x3 G3 L3) oX) else (sm_aI (sm_cv0 (d + 59) 115 342 (RR V) [.int (i3 B)] (x, G, L)) (fun a4 x4 G4 L4 => oI a4 x4 G4 L4) oX))) = _
        rw [if_neg (nm1 (by omega)), s_7 (by omega), s_115 (by omega)]
        simp only [aI_o]
        split <;> rfl
      · show hD _ _ _ _ _ _ _ _ _ = _
        rw [eY, t2, t3, if_neg (nm1 (by omega)), ← b5, ← b6]
        split <;> rfl
