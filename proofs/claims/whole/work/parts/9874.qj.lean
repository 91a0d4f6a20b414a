/-! a question: class and model together -/
def qOut (T : pT) (w z Q asking : Nat) (B : Nat → Nat) (n : Nat) (c c' : St) (X X' g g' : sm_G) : Prop := rC X' B n c' ∧ rM g' B n c' ∧ cW2 w z X X' ∧ X' w 4 = i3 (z + 1) ∧ X' w 5 = X w 5 ∧ qM Q g g' ∧ (c'.1 = 0 → c.2.2 + 2 ≤ c'.2.2 ∧ g' 156 35 = i3 (Q + 1) ∧ ∃ kind num neg, kind ≤ 4 ∧ neg ≤ 1 ∧ num < 1000 ∧ X' (w + 1) z = i3 asking ∧ X' (w + 2) z = i3 num ∧ X' (w + 3) z = i3 0 ∧ X' (w + 4) z = i3 (2 * kind + neg) ∧ g' 304 (3 * Q) = i3 kind ∧ g' 304 (3 * Q + 1) = i3 num ∧ g' 304 (3 * Q + 2) = i3 neg ∧ (if kind = 1 then num < dn T else if kind = 3 then num = 0 else if kind = 4 then num ≤ 300 else num < sl T))
theorem wl_len {B : Nat → Nat} {n s : Nat} : (wl B n s).length = we B n s - s := wr_len _
theorem eN140 {D x : Nat} {V : pV} {X : sm_G} {L : sm_L} {B : Nat → Nat} {n t : Nat} {c : St} {ws : List Nat} (hD0 : 2 ≤ D) (hr : rW X B n (wdS B n c)) (h : isT t ws) (z : wl B n c.2.2 ≠ ws) : sm_cv0 D 140 342 (RR V) [.ref 2, .ref (4096 + t)] (x, X, L) = oI (i3 0) x X L := by
  rw [s_140 hD0 hr h, if_neg (fun w => z (by rw [← wdS_s (c := c)]; exact w.2))]
theorem eY140 {D x : Nat} {V : pV} {X : sm_G} {L : sm_L} {B : Nat → Nat} {n t : Nat} {c : St} {ws : List Nat} (hD0 : 2 ≤ D) (q : c.1 = 0) (hr : rW X B n (wdS B n c)) (h : isT t ws) (h0 : ws ≠ []) (z : wl B n c.2.2 = ws) : sm_cv0 D 140 342 (RR V) [.ref 2, .ref (4096 + t)] (x, X, L) = oI (i3 1) x X L ∧ rW X B n c := by
  have r2 := hr
  rw [wdS_w (by rw [z]; exact h0)] at r2
  rw [s_140 hD0 r2 h, if_pos ⟨q, z⟩]
  exact ⟨rfl, r2⟩
theorem rfS_wd {B : Nat → Nat} {n : Nat} {c : St} (q : c.1 = 0) : rfS 1 (wdS B n c) = (1, c.2.2 + 1, c.2.2) := by
  unfold rfS wdS
  rw [if_pos q]
  by_cases y : we B n c.2.2 = c.2.2
  · rw [if_pos y, if_neg (by show ¬ (1 : Nat) = 0; omega)]
  · rw [if_neg y, if_pos q]
theorem q_all (l : List Nat) : l = w_in ∨ l = w_open ∨ l = w_there ∨ l = w_after ∨ l = w_met ∨ (l ≠ w_in ∧ l ≠ w_open ∧ l ≠ w_there ∧ l ≠ w_after ∧ l ≠ w_met) := by
  by_cases h1 : l = w_in
  · exact Or.inl h1
  by_cases h2 : l = w_open
  · exact Or.inr (Or.inl h2)
  by_cases h3 : l = w_there
  · exact Or.inr (Or.inr (Or.inl h3))
  by_cases h4 : l = w_after
  · exact Or.inr (Or.inr (Or.inr (Or.inl h4)))
  by_cases h5 : l = w_met
  · exact Or.inr (Or.inr (Or.inr (Or.inr (Or.inl h5))))
  exact Or.inr (Or.inr (Or.inr (Or.inr (Or.inr ⟨h1, h2, h3, h4, h5⟩))))
theorem qJf {D E x x' w z Q asking k : Nat} {V U : pV} {X g : sm_G} {L L' : sm_L} {B : Nat → Nat} {n : Nat} {c : St} {T : pT} (hD0 : 7 ≤ D) (hE0 : 7 ≤ E) (hw : pW w) (hT : okT T) (hz : z < 40) (hQ : Q ≤ 70) (ha : asking < 10) (hk : k ≤ 6) (q : c.1 = 0) (hr : rW X B n (wdS B n c)) (hm : rM g B n c) (h4 : X w 4 = i3 z) (h6 : X w 6 = i3 (sl T)) (h7 : X w 7 = i3 (dn T)) (m0 : g 160 0 = i3 (sl T)) (m1' : g 160 1 = i3 (dn T)) (m35 : g 156 35 = i3 Q) (hn : wl B n c.2.2 ≠ w_not) :
    ∃ X' g' c', hD D 176 9 [.ref w, .ref 2, .int (i3 asking), .int (i3 k), .int (i3 k)] 342 (RR V) x X L = oI (i3 z) x X' L ∧ hD E 241 2 [.ref 156, .int (i3 k), .null, .null] 342 (RR U) x' g L' = oV x' g' L' ∧ qOut T w z Q asking B n c c' X X' g g' := by
  have hB := hT.gb
  have hwl := pW_lt hw
  have hkm : k % 2 ≤ 1 := by omega
  have e0 : sm_cv0 D 140 342 (RR V) [.ref 2, .ref 4112] (x, X, L) = oI (i3 0) x X L := eN140 (by omega) hr t_not hn
  obtain ⟨g0, u0, r0, f0⟩ := s_225 (D := E) (x := x') (V := U) (L := L') (by omega) hm v_not
  rw [h_176_9 hw, if_pos (by rw [i3_le (by omega) (by omega)]; exact hk), e0, aI_o, if_pos rfl, h_176_56 hw, h_241_2, u0, aI_o, if_neg (show ¬ (c.1 = 0 ∧ wl B n c.2.2 = w_not) from fun y => hn y.2), if_pos rfl, r0.2.2.2.1, if_pos (by rw [q])]
  have hlen : ∀ ws, wl B n c.2.2 = ws → c.2.2 + ws.length ≤ we B n c.2.2 := fun ws y => by
    have h1 := wl_len (B := B) (n := n) (s := c.2.2)
    have h2 := we_ge (B := B) (n := n) (a := c.2.2)
    rw [y] at h1
    omega
  rcases q_all (wl B n c.2.2) with hq | hq | hq | hq | hq | ⟨n1, n2, n3, n4, n5⟩
  · obtain ⟨eW, rw1⟩ := eY140 (D := D) (x := x) (V := V) (L := L) (by omega) q hr t_in (by decide) hq
    have eW : sm_cv0 D 140 342 (RR V) [.ref 2, .ref 4105] (x, X, L) = oI (i3 1) x X L := eW
    rw [eW, aI_o, if_neg (show ¬ i3 1 = i3 0 by decide)]
    obtain ⟨g1, u1, s1, r1, f1⟩ := s_242 (D := E) (x := x') (V := U) (L := L') (by omega) r0.M v_in
    rw [if_pos (⟨q, hq⟩ : c.1 = 0 ∧ wl B n c.2.2 = w_in)] at s1
    rw [u1, aI_o, if_pos (⟨q, hq⟩ : c.1 = 0 ∧ wl B n c.2.2 = w_in), if_neg (show ¬ i3 1 = i3 0 by decide)]
    have ff : mF g g1 := (f0.tr f1)
    have rc := rw1.c0 q
    have hl := hlen _ hq
    have hsk := sk_ge (B := B) (n := n) (a := we B n c.2.2)
    obtain ⟨X1, a1, a2, a3, _⟩ := nuC (D := D) (x := x) (V := V) (L := L) 0 (sl T) (by omega) rc (by omega) (by omega) rfl (pre_mi3 (by omega))
    obtain ⟨g9, b1, b2, b3, b4, b5, b6, b7⟩ := qM_1 (D := E) (x := x') (V := U) (L := L') (k := k) (kind := 0) (h := sl T) (T := T) (Q := Q) (by omega) s1 rfl hT hQ (by rw [ff _ _ (by omega)]; exact m35) (by omega) (by rw [ff _ _ (by omega)]; exact m0) (by rw [ff _ _ (by omega)]; exact m1') (Or.inl ⟨rfl, rfl⟩)
    have hv := nuS_v (B := B) (n := n) (lo := 0) (h := sl T) (c := (0, 0, sk B n (we B n c.2.2)))
    have hok := fun z => nuS_ok (B := B) (n := n) (lo := 0) (h := sl T) (c := (0, 0, sk B n (we B n c.2.2))) z
    rw [h6, a1, aI_o, and_1, i3_add, b1]
    generalize nuS B n 0 (sl T) (0, 0, sk B n (we B n c.2.2)) = q1 at *
    obtain ⟨X2, i, p1, p2, p3, p4, p5⟩ := s_172 (D := D) (x := x) (V := V) (L := L) (v1 := i3 asking) (v2 := i3 q1.1) (v3 := i3 (0 + k % 2)) (by omega) hw (show X1 w 4 = i3 z by rw [a2 _ _ (by omega)]; exact h4) (by omega)
    obtain ⟨rfl, p6, p7, p8, p9⟩ := p4 hz
    rw [p1, aI_o]
    refine ⟨X2, g9, q1.2, rfl, rfl, a3.keep (fun r j y => p5 r j (by omega) (by omega)), b2, (a2.W (by omega)).tr (put_W p5) (Nat.le_refl _), p3, by rw [p5 _ _ (by omega) (by omega)]; exact a2 _ _ (by omega), ff.Q.tr b3, fun y => ?_⟩
    obtain ⟨_, _, y1, y2, y3⟩ := hok y
    refine ⟨?_, b4, 0, q1.1, k % 2, by omega, hkm, by omega, p6, p7, p8, p9, b5, b6, b7, y1⟩
    have y3 : sk B n (we B n c.2.2) < ne B n (sk B n (we B n c.2.2)) := y3
    have y4 := sk_ge (B := B) (n := n) (a := ne B n (sk B n (we B n c.2.2)))
    rw [y2]
    have hl : c.2.2 + 2 ≤ we B n c.2.2 := hl
    show c.2.2 + 2 ≤ sk B n (ne B n (sk B n (we B n c.2.2)))
    omega
  · have e_in : sm_cv0 D 140 342 (RR V) [.ref 2, .ref 4105] (x, X, L) = oI (i3 0) x X L := eN140 (by omega) hr t_in (by rw [hq]; decide)
    rw [e_in, aI_o, if_pos rfl]
    obtain ⟨eW, rw1⟩ := eY140 (D := D) (x := x) (V := V) (L := L) (by omega) q hr t_open (by decide) hq
    have eW : sm_cv0 D 140 342 (RR V) [.ref 2, .ref 4113] (x, X, L) = oI (i3 1) x X L := eW
    rw [eW, aI_o, if_neg (show ¬ i3 1 = i3 0 by decide)]
    obtain ⟨g1, u1, s1, r1, f1⟩ := s_242 (D := E) (x := x') (V := U) (L := L') (by omega) r0.M v_in
    have y1 : ¬ (c.1 = 0 ∧ wl B n c.2.2 = w_in) := fun y => absurd y.2 (by rw [hq]; decide)
    have r1 := r1 y1
    rw [u1, aI_o, if_neg y1, if_pos (show i3 0 = i3 0 from rfl)]
    obtain ⟨g2, u2, s2, r2, f2⟩ := s_242 (D := E) (x := x') (V := U) (L := L') (by omega) r1.M v_open
    rw [if_pos (⟨q, hq⟩ : c.1 = 0 ∧ wl B n c.2.2 = w_open)] at s2
    rw [u2, aI_o, if_pos (⟨q, hq⟩ : c.1 = 0 ∧ wl B n c.2.2 = w_open), if_neg (show ¬ i3 1 = i3 0 by decide)]
    have ff : mF g g2 := ((f0.tr f1).tr f2)
    have rc := rw1.c0 q
    have hl := hlen _ hq
    have hsk := sk_ge (B := B) (n := n) (a := we B n c.2.2)
    obtain ⟨X1, a1, a2, a3, _⟩ := nuC (D := D) (x := x) (V := V) (L := L) 0 (dn T) (by omega) rc (by omega) (by omega) rfl (pre_mi3 (by omega))
    obtain ⟨g9, b1, b2, b3, b4, b5, b6, b7⟩ := qM_1 (D := E) (x := x') (V := U) (L := L') (k := k) (kind := 1) (h := dn T) (T := T) (Q := Q) (by omega) s2 rfl hT hQ (by rw [ff _ _ (by omega)]; exact m35) (by omega) (by rw [ff _ _ (by omega)]; exact m0) (by rw [ff _ _ (by omega)]; exact m1') (Or.inr (Or.inl ⟨rfl, rfl⟩))
    have hv := nuS_v (B := B) (n := n) (lo := 0) (h := dn T) (c := (0, 0, sk B n (we B n c.2.2)))
    have hok := fun z => nuS_ok (B := B) (n := n) (lo := 0) (h := dn T) (c := (0, 0, sk B n (we B n c.2.2))) z
    rw [h7, a1, aI_o, and_1, i3_add, b1]
    generalize nuS B n 0 (dn T) (0, 0, sk B n (we B n c.2.2)) = q1 at *
    obtain ⟨X2, i, p1, p2, p3, p4, p5⟩ := s_172 (D := D) (x := x) (V := V) (L := L) (v1 := i3 asking) (v2 := i3 q1.1) (v3 := i3 (2 + k % 2)) (by omega) hw (show X1 w 4 = i3 z by rw [a2 _ _ (by omega)]; exact h4) (by omega)
    obtain ⟨rfl, p6, p7, p8, p9⟩ := p4 hz
    rw [p1, aI_o]
    refine ⟨X2, g9, q1.2, rfl, rfl, a3.keep (fun r j y => p5 r j (by omega) (by omega)), b2, (a2.W (by omega)).tr (put_W p5) (Nat.le_refl _), p3, by rw [p5 _ _ (by omega) (by omega)]; exact a2 _ _ (by omega), ff.Q.tr b3, fun y => ?_⟩
    obtain ⟨_, _, y1, y2, y3⟩ := hok y
    refine ⟨?_, b4, 1, q1.1, k % 2, by omega, hkm, by omega, p6, p7, p8, p9, b5, b6, b7, y1⟩
    have y3 : sk B n (we B n c.2.2) < ne B n (sk B n (we B n c.2.2)) := y3
    have y4 := sk_ge (B := B) (n := n) (a := ne B n (sk B n (we B n c.2.2)))
    rw [y2]
    have hl : c.2.2 + 4 ≤ we B n c.2.2 := hl
    show c.2.2 + 2 ≤ sk B n (ne B n (sk B n (we B n c.2.2)))
    omega
  · have e_in : sm_cv0 D 140 342 (RR V) [.ref 2, .ref 4105] (x, X, L) = oI (i3 0) x X L := eN140 (by omega) hr t_in (by rw [hq]; decide)
    rw [e_in, aI_o, if_pos rfl]
    have e_open : sm_cv0 D 140 342 (RR V) [.ref 2, .ref 4113] (x, X, L) = oI (i3 0) x X L := eN140 (by omega) hr t_open (by rw [hq]; decide)
    rw [e_open, aI_o, if_pos rfl]
    obtain ⟨eW, rw1⟩ := eY140 (D := D) (x := x) (V := V) (L := L) (by omega) q hr t_there (by decide) hq
    have eW : sm_cv0 D 140 342 (RR V) [.ref 2, .ref 4116] (x, X, L) = oI (i3 1) x X L := eW
    rw [eW, aI_o, if_neg (show ¬ i3 1 = i3 0 by decide)]
    obtain ⟨g1, u1, s1, r1, f1⟩ := s_242 (D := E) (x := x') (V := U) (L := L') (by omega) r0.M v_in
    have y1 : ¬ (c.1 = 0 ∧ wl B n c.2.2 = w_in) := fun y => absurd y.2 (by rw [hq]; decide)
    have r1 := r1 y1
    rw [u1, aI_o, if_neg y1, if_pos (show i3 0 = i3 0 from rfl)]
    obtain ⟨g2, u2, s2, r2, f2⟩ := s_242 (D := E) (x := x') (V := U) (L := L') (by omega) r1.M v_open
    have y2 : ¬ (c.1 = 0 ∧ wl B n c.2.2 = w_open) := fun y => absurd y.2 (by rw [hq]; decide)
    have r2 := r2 y2
    rw [u2, aI_o, if_neg y2, if_pos (show i3 0 = i3 0 from rfl)]
    obtain ⟨g3, u3, s3, r3, f3⟩ := s_242 (D := E) (x := x') (V := U) (L := L') (by omega) r2.M v_there
    rw [if_pos (⟨q, hq⟩ : c.1 = 0 ∧ wl B n c.2.2 = w_there)] at s3
    rw [u3, aI_o, if_pos (⟨q, hq⟩ : c.1 = 0 ∧ wl B n c.2.2 = w_there), if_neg (show ¬ i3 1 = i3 0 by decide)]
    have ff : mF g g3 := (((f0.tr f1).tr f2).tr f3)
    have rc := rw1.c0 q
    have hl := hlen _ hq
    have hsk := sk_ge (B := B) (n := n) (a := we B n c.2.2)
    obtain ⟨X1, a1, a2, a3, _⟩ := nuC (D := D) (x := x) (V := V) (L := L) 0 (sl T) (by omega) rc (by omega) (by omega) rfl (pre_mi3 (by omega))
    obtain ⟨g9, b1, b2, b3, b4, b5, b6, b7⟩ := qM_1 (D := E) (x := x') (V := U) (L := L') (k := k) (kind := 2) (h := sl T) (T := T) (Q := Q) (by omega) s3 rfl hT hQ (by rw [ff _ _ (by omega)]; exact m35) (by omega) (by rw [ff _ _ (by omega)]; exact m0) (by rw [ff _ _ (by omega)]; exact m1') (Or.inr (Or.inr (Or.inl ⟨rfl, rfl⟩)))
    have hv := nuS_v (B := B) (n := n) (lo := 0) (h := sl T) (c := (0, 0, sk B n (we B n c.2.2)))
    have hok := fun z => nuS_ok (B := B) (n := n) (lo := 0) (h := sl T) (c := (0, 0, sk B n (we B n c.2.2))) z
    rw [h6, a1, aI_o, and_1, i3_add, b1]
    generalize nuS B n 0 (sl T) (0, 0, sk B n (we B n c.2.2)) = q1 at *
    obtain ⟨X2, i, p1, p2, p3, p4, p5⟩ := s_172 (D := D) (x := x) (V := V) (L := L) (v1 := i3 asking) (v2 := i3 q1.1) (v3 := i3 (4 + k % 2)) (by omega) hw (show X1 w 4 = i3 z by rw [a2 _ _ (by omega)]; exact h4) (by omega)
    obtain ⟨rfl, p6, p7, p8, p9⟩ := p4 hz
    rw [p1, aI_o]
    refine ⟨X2, g9, q1.2, rfl, rfl, a3.keep (fun r j y => p5 r j (by omega) (by omega)), b2, (a2.W (by omega)).tr (put_W p5) (Nat.le_refl _), p3, by rw [p5 _ _ (by omega) (by omega)]; exact a2 _ _ (by omega), ff.Q.tr b3, fun y => ?_⟩
    obtain ⟨_, _, y1, y2, y3⟩ := hok y
    refine ⟨?_, b4, 2, q1.1, k % 2, by omega, hkm, by omega, p6, p7, p8, p9, b5, b6, b7, y1⟩
    have y3 : sk B n (we B n c.2.2) < ne B n (sk B n (we B n c.2.2)) := y3
    have y4 := sk_ge (B := B) (n := n) (a := ne B n (sk B n (we B n c.2.2)))
    rw [y2]
    have hl : c.2.2 + 5 ≤ we B n c.2.2 := hl
    show c.2.2 + 2 ≤ sk B n (ne B n (sk B n (we B n c.2.2)))
    omega
  · have e_in : sm_cv0 D 140 342 (RR V) [.ref 2, .ref 4105] (x, X, L) = oI (i3 0) x X L := eN140 (by omega) hr t_in (by rw [hq]; decide)
    rw [e_in, aI_o, if_pos rfl]
    have e_open : sm_cv0 D 140 342 (RR V) [.ref 2, .ref 4113] (x, X, L) = oI (i3 0) x X L := eN140 (by omega) hr t_open (by rw [hq]; decide)
    rw [e_open, aI_o, if_pos rfl]
    have e_there : sm_cv0 D 140 342 (RR V) [.ref 2, .ref 4116] (x, X, L) = oI (i3 0) x X L := eN140 (by omega) hr t_there (by rw [hq]; decide)
    rw [e_there, aI_o, if_pos rfl]
    obtain ⟨eW, rw1⟩ := eY140 (D := D) (x := x) (V := V) (L := L) (by omega) q hr t_after (by decide) hq
    have eW : sm_cv0 D 140 342 (RR V) [.ref 2, .ref 4096] (x, X, L) = oI (i3 1) x X L := eW
    rw [eW, aI_o, if_neg (show ¬ i3 1 = i3 0 by decide)]
    obtain ⟨g1, u1, s1, r1, f1⟩ := s_242 (D := E) (x := x') (V := U) (L := L') (by omega) r0.M v_in
    have y1 : ¬ (c.1 = 0 ∧ wl B n c.2.2 = w_in) := fun y => absurd y.2 (by rw [hq]; decide)
    have r1 := r1 y1
    rw [u1, aI_o, if_neg y1, if_pos (show i3 0 = i3 0 from rfl)]
    obtain ⟨g2, u2, s2, r2, f2⟩ := s_242 (D := E) (x := x') (V := U) (L := L') (by omega) r1.M v_open
    have y2 : ¬ (c.1 = 0 ∧ wl B n c.2.2 = w_open) := fun y => absurd y.2 (by rw [hq]; decide)
    have r2 := r2 y2
    rw [u2, aI_o, if_neg y2, if_pos (show i3 0 = i3 0 from rfl)]
    obtain ⟨g3, u3, s3, r3, f3⟩ := s_242 (D := E) (x := x') (V := U) (L := L') (by omega) r2.M v_there
    have y3 : ¬ (c.1 = 0 ∧ wl B n c.2.2 = w_there) := fun y => absurd y.2 (by rw [hq]; decide)
    have r3 := r3 y3
    rw [u3, aI_o, if_neg y3, if_pos (show i3 0 = i3 0 from rfl)]
    obtain ⟨g4, u4, s4, r4, f4⟩ := s_242 (D := E) (x := x') (V := U) (L := L') (by omega) r3.M v_met
    have y4 : ¬ (c.1 = 0 ∧ wl B n c.2.2 = w_met) := fun y => absurd y.2 (by rw [hq]; decide)
    have r4 := r4 y4
    rw [u4, aI_o, if_neg y4, if_pos (show i3 0 = i3 0 from rfl)]
    obtain ⟨g5, u5, s5, r5, f5⟩ := s_242 (D := E) (x := x') (V := U) (L := L') (by omega) r4.M v_after
    rw [if_pos (⟨q, hq⟩ : c.1 = 0 ∧ wl B n c.2.2 = w_after)] at s5
    rw [u5, aI_o, if_pos (⟨q, hq⟩ : c.1 = 0 ∧ wl B n c.2.2 = w_after), if_neg (show ¬ i3 1 = i3 0 by decide)]
    have ff : mF g g5 := (((((f0.tr f1).tr f2).tr f3).tr f4).tr f5)
    have rc := rw1.c0 q
    have hl := hlen _ hq
    have hsk := sk_ge (B := B) (n := n) (a := we B n c.2.2)
    obtain ⟨X1, a1, a2, a3, _⟩ := nuC (D := D) (x := x) (V := V) (L := L) 0 (301) (by omega) rc (by omega) (by omega) rfl mi_300
    obtain ⟨g9, b1, b2, b3, b4, b5, b6, b7⟩ := qM_1 (D := E) (x := x') (V := U) (L := L') (k := k) (kind := 4) (h := 301) (T := T) (Q := Q) (by omega) s5 rfl hT hQ (by rw [ff _ _ (by omega)]; exact m35) (by omega) (by rw [ff _ _ (by omega)]; exact m0) (by rw [ff _ _ (by omega)]; exact m1') (Or.inr (Or.inr (Or.inr ⟨rfl, rfl⟩)))
    have hv := nuS_v (B := B) (n := n) (lo := 0) (h := 301) (c := (0, 0, sk B n (we B n c.2.2)))
    have hok := fun z => nuS_ok (B := B) (n := n) (lo := 0) (h := 301) (c := (0, 0, sk B n (we B n c.2.2))) z
    rw [a1, aI_o, and_1, i3_add, b1]
    generalize nuS B n 0 (301) (0, 0, sk B n (we B n c.2.2)) = q1 at *
    obtain ⟨X2, i, p1, p2, p3, p4, p5⟩ := s_172 (D := D) (x := x) (V := V) (L := L) (v1 := i3 asking) (v2 := i3 q1.1) (v3 := i3 (8 + k % 2)) (by omega) hw (show X1 w 4 = i3 z by rw [a2 _ _ (by omega)]; exact h4) (by omega)
    obtain ⟨rfl, p6, p7, p8, p9⟩ := p4 hz
    rw [p1, aI_o]
    refine ⟨X2, g9, q1.2, rfl, rfl, a3.keep (fun r j y => p5 r j (by omega) (by omega)), b2, (a2.W (by omega)).tr (put_W p5) (Nat.le_refl _), p3, by rw [p5 _ _ (by omega) (by omega)]; exact a2 _ _ (by omega), ff.Q.tr b3, fun y => ?_⟩
    obtain ⟨_, _, y1, y2, y3⟩ := hok y
    refine ⟨?_, b4, 4, q1.1, k % 2, by omega, hkm, by omega, p6, p7, p8, p9, b5, b6, b7, Nat.le_of_lt_succ y1⟩
    have y3 : sk B n (we B n c.2.2) < ne B n (sk B n (we B n c.2.2)) := y3
    have y4 := sk_ge (B := B) (n := n) (a := ne B n (sk B n (we B n c.2.2)))
    rw [y2]
    have hl : c.2.2 + 5 ≤ we B n c.2.2 := hl
    show c.2.2 + 2 ≤ sk B n (ne B n (sk B n (we B n c.2.2)))
    omega
  · have e_in : sm_cv0 D 140 342 (RR V) [.ref 2, .ref 4105] (x, X, L) = oI (i3 0) x X L := eN140 (by omega) hr t_in (by rw [hq]; decide)
    rw [e_in, aI_o, if_pos rfl]
    have e_open : sm_cv0 D 140 342 (RR V) [.ref 2, .ref 4113] (x, X, L) = oI (i3 0) x X L := eN140 (by omega) hr t_open (by rw [hq]; decide)
    rw [e_open, aI_o, if_pos rfl]
    have e_there : sm_cv0 D 140 342 (RR V) [.ref 2, .ref 4116] (x, X, L) = oI (i3 0) x X L := eN140 (by omega) hr t_there (by rw [hq]; decide)
    rw [e_there, aI_o, if_pos rfl]
    have e_after : sm_cv0 D 140 342 (RR V) [.ref 2, .ref 4096] (x, X, L) = oI (i3 0) x X L := eN140 (by omega) hr t_after (by rw [hq]; decide)
    rw [e_after, aI_o, if_pos rfl]
    obtain ⟨eW, rw1⟩ := eY140 (D := D) (x := x) (V := V) (L := L) (by omega) q hr t_met (by decide) hq
    have eW : sm_cv0 D 140 342 (RR V) [.ref 2, .ref 4106] (x, X, L) = oI (i3 1) x X L := eW
    rw [eW, aI_o, if_neg (show ¬ i3 1 = i3 0 by decide)]
    obtain ⟨g1, u1, s1, r1, f1⟩ := s_242 (D := E) (x := x') (V := U) (L := L') (by omega) r0.M v_in
    have y1 : ¬ (c.1 = 0 ∧ wl B n c.2.2 = w_in) := fun y => absurd y.2 (by rw [hq]; decide)
    have r1 := r1 y1
    rw [u1, aI_o, if_neg y1, if_pos (show i3 0 = i3 0 from rfl)]
    obtain ⟨g2, u2, s2, r2, f2⟩ := s_242 (D := E) (x := x') (V := U) (L := L') (by omega) r1.M v_open
    have y2 : ¬ (c.1 = 0 ∧ wl B n c.2.2 = w_open) := fun y => absurd y.2 (by rw [hq]; decide)
    have r2 := r2 y2
    rw [u2, aI_o, if_neg y2, if_pos (show i3 0 = i3 0 from rfl)]
    obtain ⟨g3, u3, s3, r3, f3⟩ := s_242 (D := E) (x := x') (V := U) (L := L') (by omega) r2.M v_there
    have y3 : ¬ (c.1 = 0 ∧ wl B n c.2.2 = w_there) := fun y => absurd y.2 (by rw [hq]; decide)
    have r3 := r3 y3
    rw [u3, aI_o, if_neg y3, if_pos (show i3 0 = i3 0 from rfl)]
    obtain ⟨g4, u4, s4, r4, f4⟩ := s_242 (D := E) (x := x') (V := U) (L := L') (by omega) r3.M v_met
    rw [if_pos (⟨q, hq⟩ : c.1 = 0 ∧ wl B n c.2.2 = w_met)] at s4
    rw [u4, aI_o, if_pos (⟨q, hq⟩ : c.1 = 0 ∧ wl B n c.2.2 = w_met), if_neg (show ¬ i3 1 = i3 0 by decide)]
    have ff : mF g g4 := ((((f0.tr f1).tr f2).tr f3).tr f4)
    have rc := rw1.c0 q
    have hl := hlen _ hq
    have hsk := sk_ge (B := B) (n := n) (a := we B n c.2.2)
    obtain ⟨g9, b1, b2, b3, b4, b5, b6, b7⟩ := qM_3 (D := E) (x := x') (V := U) (L := L') (k := k) (Q := Q) s4 rfl hQ (by rw [ff _ _ (by omega)]; exact m35) (by omega)
    obtain ⟨X2, i, p1, p2, p3, p4, p5⟩ := s_172 (D := D) (x := x) (V := V) (L := L) (v1 := i3 asking) (v2 := i3 0) (v3 := i3 (6 + k % 2)) (by omega) hw h4 (by omega)
    obtain ⟨rfl, p6, p7, p8, p9⟩ := p4 hz
    rw [and_1, i3_add, p1, aI_o, b1]
    refine ⟨X2, g9, (0, 0, sk B n (we B n c.2.2)), rfl, rfl, rc.keep (fun r j y => p5 r j (by omega) (by omega)), b2, put_W p5, p3, p5 _ _ (by omega) (by omega), ff.Q.tr b3, fun y => ⟨?_, b4, 3, 0, k % 2, by omega, hkm, by omega, p6, p7, p8, p9, b5, b6, b7, rfl⟩⟩
    have hl : c.2.2 + 3 ≤ we B n c.2.2 := hl
    show c.2.2 + 2 ≤ sk B n (we B n c.2.2)
    omega
  · have e_in : sm_cv0 D 140 342 (RR V) [.ref 2, .ref 4105] (x, X, L) = oI (i3 0) x X L := eN140 (by omega) hr t_in n1
    rw [e_in, aI_o, if_pos rfl]
    have e_open : sm_cv0 D 140 342 (RR V) [.ref 2, .ref 4113] (x, X, L) = oI (i3 0) x X L := eN140 (by omega) hr t_open n2
    rw [e_open, aI_o, if_pos rfl]
    have e_there : sm_cv0 D 140 342 (RR V) [.ref 2, .ref 4116] (x, X, L) = oI (i3 0) x X L := eN140 (by omega) hr t_there n3
    rw [e_there, aI_o, if_pos rfl]
    have e_after : sm_cv0 D 140 342 (RR V) [.ref 2, .ref 4096] (x, X, L) = oI (i3 0) x X L := eN140 (by omega) hr t_after n4
    rw [e_after, aI_o, if_pos rfl]
    have e_met : sm_cv0 D 140 342 (RR V) [.ref 2, .ref 4106] (x, X, L) = oI (i3 0) x X L := eN140 (by omega) hr t_met n5
    rw [e_met, aI_o, if_pos rfl]
    obtain ⟨g1, u1, s1, r1, f1⟩ := s_242 (D := E) (x := x') (V := U) (L := L') (by omega) r0.M v_in
    have y1 : ¬ (c.1 = 0 ∧ wl B n c.2.2 = w_in) := fun y => absurd y.2 n1
    have r1 := r1 y1
    rw [u1, aI_o, if_neg y1, if_pos (show i3 0 = i3 0 from rfl)]
    obtain ⟨g2, u2, s2, r2, f2⟩ := s_242 (D := E) (x := x') (V := U) (L := L') (by omega) r1.M v_open
    have y2 : ¬ (c.1 = 0 ∧ wl B n c.2.2 = w_open) := fun y => absurd y.2 n2
    have r2 := r2 y2
    rw [u2, aI_o, if_neg y2, if_pos (show i3 0 = i3 0 from rfl)]
    obtain ⟨g3, u3, s3, r3, f3⟩ := s_242 (D := E) (x := x') (V := U) (L := L') (by omega) r2.M v_there
    have y3 : ¬ (c.1 = 0 ∧ wl B n c.2.2 = w_there) := fun y => absurd y.2 n3
    have r3 := r3 y3
    rw [u3, aI_o, if_neg y3, if_pos (show i3 0 = i3 0 from rfl)]
    obtain ⟨g4, u4, s4, r4, f4⟩ := s_242 (D := E) (x := x') (V := U) (L := L') (by omega) r3.M v_met
    have y4 : ¬ (c.1 = 0 ∧ wl B n c.2.2 = w_met) := fun y => absurd y.2 n5
    have r4 := r4 y4
    rw [u4, aI_o, if_neg y4, if_pos (show i3 0 = i3 0 from rfl)]
    obtain ⟨g5, u5, s5, r5, f5⟩ := s_242 (D := E) (x := x') (V := U) (L := L') (by omega) r4.M v_after
    have y5 : ¬ (c.1 = 0 ∧ wl B n c.2.2 = w_after) := fun y => absurd y.2 n4
    have r5 := r5 y5
    rw [u5, aI_o, if_neg y5, if_pos (show i3 0 = i3 0 from rfl)]
    have ff : mF g g5 := (((((f0.tr f1).tr f2).tr f3).tr f4).tr f5)
    obtain ⟨X1, a1, a2, a3⟩ := s_142 (D := D) (x := x) (V := V) (L := L) (k := 1) (by omega) hr (by omega) (by omega)
    rw [rfS_wd q] at a3
    obtain ⟨X2, i, p1, p2, p3, p4, p5⟩ := s_172 (D := D) (x := x) (V := V) (L := L) (v1 := i3 asking) (v2 := i3 0) (v3 := i3 (6 + k % 2)) (by omega) hw (show X1 w 4 = i3 z by rw [a2 _ _ (by omega)]; exact h4) (by omega)
    obtain ⟨rfl, p6, p7, p8, p9⟩ := p4 hz
    obtain ⟨b0, bl, _⟩ := r5.at q
    obtain ⟨E', rfl⟩ : ∃ E', E = E' + 1 := ⟨E - 1, by omega⟩
    obtain ⟨g9, b1, b2, b3, _⟩ := s_229 (d := E') (x := x') (V := U) (L := L') (k := 1) (s := c.2.2) r5.M (by omega) (by omega) bl
    rw [if_pos q] at b3
    rw [a1, aV_o, and_1, i3_add, p1, aI_o, h_241_165, if_pos rfl, b0, b1, aV_o, h_241_179, b3.2.2.2.1, if_neg (show ¬ i3 1 = i3 0 by decide)]
    exact ⟨X2, g9, (1, c.2.2 + 1, c.2.2), rfl, rfl, a3.keep (fun r j y => p5 r j (by omega) (by omega)), b3, (a2.W (by omega)).tr (put_W p5) (Nat.le_refl _), p3, by rw [p5 _ _ (by omega) (by omega)]; exact a2 _ _ (by omega), (ff.tr b2).Q, fun y => absurd y (by show ¬ (1 : Nat) = 0; omega)⟩
