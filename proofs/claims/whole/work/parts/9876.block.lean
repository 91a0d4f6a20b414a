/-! blocks: class and model together -/
def jI (X g : sm_G) (B : Nat → Nat) (n : Nat) (c : St) (w : Nat) (T : pT) (h st z Q : Nat) : Prop := rC X B n c ∧ rM g B n c ∧ X w 4 = i3 z ∧ X w 5 = i3 st ∧ X w 6 = i3 (sl T) ∧ X w 7 = i3 (dn T) ∧ g 160 0 = i3 (sl T) ∧ g 160 1 = i3 (dn T) ∧ g 156 34 = i3 st ∧ g 156 35 = i3 Q ∧ g 156 8 = i3 h
/-- the end of a piece: e bytes at least stand besides those of its deeds -/
def jO (X g X' g' : sm_G) (B : Nat → Nat) (n : Nat) (c c' : St) (w : Nat) (T : pT) (h h2 e st z Q : Nat) : Prop := rC X' B n c' ∧ rM g' B n c' ∧ cW2 w z X X' ∧ mW2 st Q g g' ∧ (∃ zz, z ≤ zz ∧ zz ≤ 40 ∧ X' w 4 = i3 zz) ∧ (c'.1 = 0 → g' 156 8 = i3 h2 ∧ ∃ st' z' Q', X' w 4 = i3 z' ∧ X' w 5 = i3 st' ∧ g' 156 34 = i3 st' ∧ g' 156 35 = i3 Q' ∧ seg X' g' w T h st st' z z' Q Q' ∧ c.2.2 + e + 4 * z' ≤ c'.2.2 + 4 * z ∧ c.2.2 + e + 4 * st' ≤ c'.2.2 + 4 * st ∧ Q' + st ≤ st' + Q ∧ c'.2.2 ≤ n)
theorem rC.le {X : sm_G} {B : Nat → Nat} {n : Nat} {c : St} (hr : rC X B n c) (q : c.1 = 0) : c.2.2 ≤ n := by
  obtain ⟨_, _, _, _, _, h6⟩ := hr
  obtain ⟨_, a, a1, _, a3⟩ := h6 q
  rw [← a3]
  exact sk_le a1
def StepP (h : Nat) : Prop := ∀ (D E x x' : Nat) (V U : pV) (L L' : sm_L) (B : Nat → Nat) (n : Nat) (T : pT) (w : Nat) (c : St) (X g : sm_G) (st z Q : Nat), 3 * (7 - h) + 12 ≤ D → 2 * (7 - h) + 12 ≤ E → pW w → okT T → n ≤ 150 → c.1 = 0 → jI X g B n c w T h st z Q → 4 * z ≤ c.2.2 → 4 * st ≤ c.2.2 → Q ≤ st →
  ∃ X' g' c', sm_cv0 D 171 342 (RR V) [.ref w, .ref 2, .int (i3 h)] (x, X, L) = oV x X' L ∧ sm_cv0 E 239 342 (RR U) [.ref 156] (x', g, L') = oV x' g' L' ∧ jO X g X' g' B n c c' w T h h 0 st z Q ∧ (c'.1 = 0 → c.2.2 + 4 ≤ c'.2.2)
def BlockP (h : Nat) : Prop := ∀ (D E x x' : Nat) (V U : pV) (L L' : sm_L) (B : Nat → Nat) (n : Nat) (T : pT) (w : Nat) (c : St) (X g : sm_G) (st z Q : Nat), 3 * (7 - h) + 10 ≤ D → 2 * (7 - h) + 11 ≤ E → pW w → okT T → n ≤ 150 → c.1 = 0 → jI X g B n c w T h st z Q → 4 * z ≤ c.2.2 → 4 * st ≤ c.2.2 → Q ≤ st →
  ∃ X' g' c', sm_cv0 D 174 342 (RR V) [.ref w, .ref 2, .int (i3 h)] (x, X, L) = oV x X' L ∧ sm_cv0 E 243 342 (RR U) [.ref 156] (x', g, L') = oV x' g' L' ∧ jO X g X' g' B n c c' w T (h + 1) h 2 st z Q ∧ (c'.1 = 0 → h < 6)
/-- a block that is not begun, or ends in a fault -/
theorem blkF_c {D x w i : Nat} {V : pV} {X : sm_G} {L : sm_L} {B : Nat → Nat} {n h : Nat} {c : St} (hD0 : 4 ≤ D) (hw : pW w) (hr : rC X B n c) (q : c.1 ≠ 0) (hi : i ≤ 150) : ∃ X', hD D 174 39 [.ref w, .ref 2, .int (i3 h), .int (i3 i)] 342 (RR V) x X L = oV x X' L ∧ tF X X' ∧ rC X' B n c := by
  obtain ⟨d, rfl⟩ : ∃ d, D = d + 4 := ⟨D - 4, by omega⟩
  obtain ⟨X1, e1, f1, r1⟩ := s_145 (D := d + 4) (x := x) (V := V) (L := L) (ch := 93) (by omega) hr (by omega)
  rw [show sgS B n 93 c = c from if_neg q] at r1
  have e5 := s_135b (d := d + 3) (x := x) (V := V) (L := L) hr.2.1 hr.2.2.2.1
  rw [if_neg q] at e5
  refine ⟨X1, ?_, f1, r1⟩
  rw [h_174_39 hw]
  by_cases y : i < 150
  · rw [if_pos (by rw [i3_lt (by omega) (by omega)]; exact y), e5, aI_o, if_neg (show ¬ i3 1 = i3 0 by decide), e1, aV_o]
  · rw [if_neg (by rw [i3_lt (by omega) (by omega)]; exact y), e1, aV_o]
theorem blkF_m {E x' : Nat} {U : pV} {g : sm_G} {L' : sm_L} {B : Nat → Nat} {n : Nat} {c : St} (hE0 : 4 ≤ E) (hm : rM g B n c) (q : c.1 ≠ 0) : ∃ g', hD E 243 87 [.ref 156] 342 (RR U) x' g L' = oV x' g' L' ∧ (∀ r k, ¬ (r = 156 ∧ ((4 ≤ k ∧ k ≤ 6) ∨ k = 8)) → g' r k = g r k) ∧ rM g' B n c := by
  obtain ⟨g1, e1, f1, r1⟩ := s_236 (D := E) (x := x') (V := U) (L := L') (ch := 93) (by omega) hm (by omega)
  rw [show sgS B n 93 c = c from if_neg q] at r1
  rw [h_243_87, hm.2.2.2.1, if_neg (by rw [i3_eq (by have := hm.2.1; omega) (by omega)]; exact q), e1, aV_o]
  exact ⟨_, rfl, fun r k a => by rw [sm_up_ne (by omega)]; exact f1 r k (by omega), r1.keep (fun r k a => sm_up_ne (by omega))⟩
theorem blkL {D E x x' w h : Nat} {V U : pV} {L L' : sm_L} {B : Nat → Nat} {n : Nat} {T : pT} (hS : StepP (h + 1)) (hh : h < 6) (hD0 : 3 * (6 - h) + 12 ≤ D) (hE0 : 2 * (6 - h) + 12 ≤ E) (hw : pW w) (hT : okT T) (hn : n ≤ 150) : ∀ (f : Nat) (c : St) (X g : sm_G) (st z Q i : Nat), n - c.2.2 < f → c.1 = 0 → jI X g B n c w T (h + 1) st z Q → rE g B n c → 4 * z ≤ c.2.2 → 4 * st ≤ c.2.2 → Q ≤ st → 4 * i ≤ c.2.2 →
    ∃ X' g' c', hD D 174 39 [.ref w, .ref 2, .int (i3 h), .int (i3 i)] 342 (RR V) x X L = oV x X' L ∧ hD E 243 87 [.ref 156] 342 (RR U) x' g L' = oV x' g' L' ∧ jO X g X' g' B n c c' w T (h + 1) h 1 st z Q := by
  have hwl := pW_lt hw
  intro f
  induction f with
  | zero => intro c X g st z Q i hf; omega
  | succ f ih =>
    intro c X g st z Q i hf q J rE0 hz hst hQ hi
    obtain ⟨d, rfl⟩ : ∃ d, D = d + 4 := ⟨D - 4, by omega⟩
    obtain ⟨hr, hm, x4, x5, x6, x7, g0, g1', g34, g35, g8⟩ := J
    have hcn := hr.le q
    have e5 := s_135b (d := d + 3) (x := x) (V := V) (L := L) hr.2.1 hr.2.2.2.1
    rw [if_pos q] at e5
    obtain ⟨X1, a1, a2, a3, _⟩ := s_146 (D := d + 4) (x := x) (V := V) (L := L) (ch := 93) (by omega) hr q (by omega)
    obtain ⟨b1, b2, b3, b4⟩ := rE0.at q
    obtain ⟨e, rfl⟩ : ∃ e, E = e + 1 := ⟨E - 1, by omega⟩
    have e22 := s_222 (d := e) (x := x') (V := U) (L := L') (a := c.2.2) rE0.1 (by omega)
    have he := bA_eq (a := c.2.2) (ch := 93) rE0.1 (by omega)
    rw [h_174_39 hw, if_pos (by rw [i3_lt (by omega) (by omega)]; omega), e5, aI_o, if_pos rfl, a1, aI_o, h_243_87, rE0.2.2.2.1, if_pos (show i3 c.1 = i3 0 by rw [q]), b1, e22, aI_o]
    by_cases y : c.2.2 < n ∧ B c.2.2 = 93
    · obtain ⟨X2, c1, c2, c3⟩ := s_145 (D := d + 4) (x := x) (V := V) (L := L) (ch := 93) (by omega) a3 (by omega)
      obtain ⟨g2, d1, d2, d3⟩ := s_236 (D := e + 1) (x := x') (V := U) (L := L') (ch := 93) (by omega) hm (by omega)
      have es : sgS B n 93 c = (0, 0, sk B n (c.2.2 + 1)) := by
        unfold sgS
        rw [if_pos q, if_pos y]
      rw [es] at c3 d3
      have h82 : g2 156 8 = i3 (h + 1) := by rw [d2 _ _ (by omega)]; exact g8
      rw [if_pos y, if_neg (show ¬ i3 1 = i3 0 by decide), c1, aV_o, if_pos (by rw [he]; exact y), d1, aV_o, h82, i3_sub (by omega), show h + 1 - 1 = h by omega]
      have hs1 := sk_ge (B := B) (n := n) (a := c.2.2 + 1)
      have hs2 := sk_le (B := B) (n := n) (a := c.2.2 + 1) (by omega)
      have fX : tF X X2 := a2.tr c2
      refine ⟨X2, _, (0, 0, sk B n (c.2.2 + 1)), rfl, rfl, c3, d3.keep (fun r k a => sm_up_ne (by omega)), fX.W (by omega), fun r k a b c' => by rw [sm_up_ne (by omega)]; exact d2 r k (by omega), ⟨z, Nat.le_refl _, by omega, by rw [fX _ _ (by omega)]; exact x4⟩, fun _ => ⟨sm_up_same _ _ _ _, st, z, Q, by rw [fX _ _ (by omega)]; exact x4, by rw [fX _ _ (by omega)]; exact x5, by rw [sm_up_ne (by omega), d2 _ _ (by omega)]; exact g34, by rw [sm_up_ne (by omega), d2 _ _ (by omega)]; exact g35, seg_nil (by rw [sm_up_ne (by omega), d2 _ _ (by omega)]; exact g35), ?_, ?_, by omega, hs2⟩⟩
      · show c.2.2 + 1 + 4 * z ≤ sk B n (c.2.2 + 1) + 4 * z
        omega
      · show c.2.2 + 1 + 4 * st ≤ sk B n (c.2.2 + 1) + 4 * st
        omega
    · obtain ⟨X2, g2, c', s1, s2, ⟨o1, o2, o3, o4, o5, o6⟩, s3⟩ := hS (d + 4) (e + 1) x x' V U L L' B n T w c X1 g st z Q (by omega) (by omega) hw hT hn q ⟨a3, hm, by rw [a2 _ _ (by omega)]; exact x4, by rw [a2 _ _ (by omega)]; exact x5, by rw [a2 _ _ (by omega)]; exact x6, by rw [a2 _ _ (by omega)]; exact x7, g0, g1', g34, g35, g8⟩ hz hst hQ
      have fX : cW2 w z X X2 := (a2.W (by omega)).tr o3 (Nat.le_refl _)
      obtain ⟨g3, t1, t2, t3⟩ := s_221 (D := e + 1) (x := x') (V := U) (L := L') (by omega) o2
      have fg : mW2 st Q g g3 := o4.tr (show mW2 st Q g2 g3 from fun r k a _ _ => t3 r k (by omega)) (Nat.le_refl _) (Nat.le_refl _)
      rw [if_neg y, if_pos rfl, i3_add, s1, aV_o, if_neg (by rw [he]; exact y), s2, aV_o, t1, aV_o, i3_add]
      by_cases v : c'.1 = 0
      · obtain ⟨p8, st', z', Q', p1, p2, p3, p4, p5, p6, p7, p9, p10⟩ := o6 v
        have h4 := s3 v
        obtain ⟨X', g', c2, k1, k2, r1, r2, r3, r4, r5, r6⟩ := ih c' X2 g3 st' z' Q' (i + 1) (by omega) v ⟨o1, t2.M, p1, p2, by rw [o3.2.1, a2 _ _ (by omega)]; exact x6, by rw [o3.2.2.1, a2 _ _ (by omega)]; exact x7, by rw [fg _ _ (by omega) (by omega) (by omega)]; exact g0, by rw [fg _ _ (by omega) (by omega) (by omega)]; exact g1', by rw [t3 _ _ (by omega)]; exact p3, by rw [t3 _ _ (by omega)]; exact p4, by rw [t3 _ _ (by omega)]; exact p8⟩ t2 (by omega) (by omega) (by omega) (by omega)
        obtain ⟨l1, l2, l3, l4, l5, l6, l7⟩ := p5
        have S3 : seg X2 g3 w T (h + 1) st st' z z' Q Q' := by
          obtain ⟨m1', m2', m3'⟩ := seg.keep (q2 := Q') (X' := X2) (g' := g3) ⟨l1, l2, l3, l4, l5, l6, l7⟩ ⟨fun _ _ _ _ => rfl, rfl, rfl, fun _ _ _ _ _ => rfl⟩ (fun r k a _ _ => t3 r k (by omega)) (by rw [t3 _ _ (by omega)]; exact p4) (Nat.le_refl _) (by omega)
          exact ⟨m1', m2', l3, l4, l5, by rw [t3 _ _ (by omega)]; exact p4, m3'⟩
        refine ⟨X', g', c2, k1, k2, r1, r2, fX.tr r3 l4, fg.tr r4 l3 l5, (by obtain ⟨zz, z0, z1, z2⟩ := r5; exact ⟨zz, by omega, z1, z2⟩), fun u => ?_⟩
        obtain ⟨w8, st2, z2, Q2, w1, w2, w3, w4, w5, w6, w7, w9, w10⟩ := r6 u
        exact ⟨w8, st2, z2, Q2, w1, w2, w3, w4, S3.app r3 r4 w5 (by omega), by omega, by omega, by omega, w10⟩
      · obtain ⟨X', u1, u2, u3⟩ := blkF_c (D := d + 4) (x := x) (V := V) (L := L) (h := h) (i := i + 1) (by omega) hw o1 v (by omega)
        obtain ⟨g', v1, v2, v3⟩ := blkF_m (E := e + 1) (x' := x') (U := U) (L' := L') (by omega) t2.M v
        rw [u1, v1]
        obtain ⟨zz, z0, z1, z2⟩ := o5
        exact ⟨X', g', c', rfl, rfl, u3, v3, fX.tr (u2.W (by omega)) (Nat.le_refl _), fg.tr (show mW2 st Q g3 g' from fun r k a _ _ => v2 r k (by omega)) (Nat.le_refl _) (Nat.le_refl _), ⟨zz, z0, z1, by rw [u2 _ _ (by omega)]; exact z2⟩, fun z => absurd z v⟩
