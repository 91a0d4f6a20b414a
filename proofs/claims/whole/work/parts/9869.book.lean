/-! a book's text -/
def cBk (G : sm_G) (b : Nat) (K : pT) (z : Nat) : Prop := G b 2 = i3 z ∧ ∀ k, k < z → G (b + 1) k = i3 (K 1 k) ∧ G (b + 2) k = i3 (K 2 k)
def mBk (g : sm_G) (K : pT) (z : Nat) : Prop := ∀ k, k < z → g (266 + k) 1 = i3 (K 1 k) ∧ g (266 + k) 0 = i3 (K 2 k)
def okBk (K : pT) (z : Nat) : Prop := z ≤ 12 ∧ ∀ k, k < z → K 1 k ≤ 300 ∧ K 2 k ≤ 1
def cfB (b : Nat) (X X' : sm_G) : Prop := ∀ r k, ¬ (b ≤ r ∧ r < b + 3) → ¬ (r = 2 ∧ 3 ≤ k ∧ k ≤ 8) → X' r k = X r k
def mfB (g g' : sm_G) : Prop := ∀ r k, ¬ (r = 156 ∧ 4 ≤ k ∧ k ≤ 6) → ¬ (266 ≤ r ∧ r < 278) → g' r k = g r k
def lnF (B : Nat → Nat) (n z : Nat) (K : pT) (c : St) : St × pT :=
  if wl B n c.2.2 = w_seen ∨ wl B n c.2.2 = w_gone then (if z < 12 then (sgS B n 59 (nuS B n 0 301 (0, 0, sk B n (we B n c.2.2))).2, upn (upn K 1 z (nuS B n 0 301 (0, 0, sk B n (we B n c.2.2))).1) 2 z (if wl B n c.2.2 = w_seen then 1 else 0)) else ((3, c.2.2 + 1, c.2.2), K)) else ((1, c.2.2 + 1, c.2.2), K)
theorem lnF_ok {B : Nat → Nat} {n z : Nat} {K : pT} {c : St} (hK : okBk K z) (h : (lnF B n z K c).1.1 = 0) : okBk (lnF B n z K c).2 (z + 1) := by
  unfold lnF at h ⊢
  by_cases h1 : wl B n c.2.2 = w_seen ∨ wl B n c.2.2 = w_gone
  · rw [if_pos h1] at h ⊢
    by_cases h2 : z < 12
    · rw [if_pos h2] at h ⊢
      have h3 := nuS_ok (sgS_ok h).1
      refine ⟨h2, fun k hk => ?_⟩
      show upn (upn K 1 z (nuS B n 0 301 (0, 0, sk B n (we B n c.2.2))).1) 2 z (if wl B n c.2.2 = w_seen then 1 else 0) 1 k ≤ 300 ∧ upn (upn K 1 z (nuS B n 0 301 (0, 0, sk B n (we B n c.2.2))).1) 2 z (if wl B n c.2.2 = w_seen then 1 else 0) 2 k ≤ 1
      rw [upn_ne (by omega : (1 : Nat) ≠ 2 ∨ _)]
      by_cases q : k = z
      · rw [q, upn_same, upn_same]
        exact ⟨Nat.le_of_lt_succ h3.2.2.1, by split <;> omega⟩
      · rw [upn_ne (by omega), upn_ne (by omega), upn_ne (by omega)]
        exact hK.2 k (by omega)
    · rw [if_neg h2] at h
      exact absurd h (by show ¬ (3 : Nat) = 0; omega)
  · rw [if_neg h1] at h
    exact absurd h (by show ¬ (1 : Nat) = 0; omega)
theorem s_77 {D x b z : Nat} {V : pV} {G : sm_G} {L : sm_L} {B : Nat → Nat} {n : Nat} {c : St} {K : pT} (hD0 : 6 ≤ D) (hb : pB b) (hr : rC G B n c) (q : c.1 = 0) (hz : z ≤ 12) (hc : cBk G b K z) : ∃ G', sm_cv0 D 77 342 (RR V) [.ref b, .ref 2] (x, G, L) = oV x G' L ∧ cfB b G G' ∧ rC G' B n (lnF B n z K c).1 ∧ ((lnF B n z K c).1.1 = 0 → cBk G' b (lnF B n z K c).2 (z + 1)) := by
  obtain ⟨d, rfl⟩ : ∃ d, D = d + 6 := ⟨D - 6, by omega⟩
  have hbl := pB_lt hb
  obtain ⟨G1, e1, f1, r1⟩ := s_138 (D := d + 5) (x := x) (V := V) (L := L) (by omega) hr
  have hB1 : tF G G1 → ∀ Y, tF G1 Y → cBk Y b K z := fun f Y g => ⟨by rw [g _ _ (by omega), f _ _ (by omega)]; exact hc.1, fun k hk => by rw [g _ _ (by omega), g _ _ (by omega), f _ _ (by omega), f _ _ (by omega)]; exact hc.2 k hk⟩
  have hb2 : G1 b 2 = i3 z := (hB1 f1 G1 tF_o).1
  have tb : ∀ {X Y : sm_G}, tF X Y → cfB b X Y := fun f r k _ w => f r k w
  have eN : ∀ t ws, isT t ws → wl B n c.2.2 ≠ ws → sm_cv0 (d + 5) 140 342 (RR V) [.ref 2, .ref (4096 + t)] (x, G1, L) = oI (i3 0) x G1 L := fun t ws h y => by
    rw [s_140 (by omega) r1 h, if_neg (fun w => y (by rw [← wdS_s (c := c)]; exact w.2))]
  have eY : ∀ t ws, isT t ws → ws ≠ [] → wl B n c.2.2 = ws → sm_cv0 (d + 5) 140 342 (RR V) [.ref 2, .ref (4096 + t)] (x, G1, L) = oI (i3 1) x G1 L ∧ rW G1 B n c := fun t ws h h0 y => by
    have r2 := r1
    rw [wdS_w (by rw [y]; exact h0)] at r2
    rw [s_140 (by omega) r2 h, if_pos ⟨q, y⟩]
    exact ⟨rfl, r2⟩
  -- behind a word that is one of the two
  have rest : ∀ saw : Nat, rW G1 B n c → (wl B n c.2.2 = w_seen ∨ wl B n c.2.2 = w_gone) → (if wl B n c.2.2 = w_seen then 1 else 0) = saw → ∃ G', hD (d + 5) 77 37 [.ref b, .ref 2, .int (i3 saw), .null] 342 (RR V) x G1 L = oV x G' L ∧ cfB b G G' ∧ rC G' B n (lnF B n z K c).1 ∧ ((lnF B n z K c).1.1 = 0 → cBk G' b (lnF B n z K c).2 (z + 1)) := by
    intro saw rw1 hw hsaw
    unfold lnF
    rw [if_pos hw, hsaw, h_77_37 hb, hb2]
    by_cases h12 : z < 12
    · have r0 := rw1.c0 q
      rw [if_pos (by rw [i3_lt (by omega) (by omega)]; exact h12), s_141t (by omega) rw1, aI_o, if_pos q, if_neg (by decide), if_pos h12, h_77_59 hb]
      generalize (0, 0, sk B n (we B n c.2.2)) = c0 at r0 ⊢
      obtain ⟨G2, e2, f2, r2, _⟩ := nuC (D := d + 5) (x := x) (V := V) (L := L) 0 301 (by omega) r0 (by omega) (by omega) rfl mi_300
      rw [e2, aI_o]
      generalize nuS B n 0 301 c0 = q1 at *
      obtain ⟨G9, e9, f9, r9⟩ := s_145 (D := d + 5) (x := x) (V := V) (L := L) (ch := 59) (by omega) r2 (by omega)
      have e95 := s_135b (d := d + 4) (x := x) (V := V) (L := L) r9.2.1 r9.2.2.2.1
      rw [e9, aV_o, e95, aI_o]
      by_cases y : (sgS B n 59 q1.2).1 = 0
      · obtain ⟨c1, c2⟩ := hB1 f1 G9 (f2.tr f9)
        rw [if_pos y, if_pos rfl]
        simp only [up_o (show 0 < 1 by omega), up_o (show 0 < 2 by omega), c1]
        rw [i3_in (by omega) h12, gd_tt, gd_tt, i3_cl (by omega), i3_add]
        have g : ∀ r k, ¬ ((r = b + 1 ∨ r = b + 2) ∧ k = z) → ¬ (r = b ∧ k = 2) → sm_up (sm_up (sm_up G9 (b + 1) z (i3 q1.1)) (b + 2) z (i3 saw)) b 2 (i3 (z + 1)) r k = G9 r k := fun r k w1 w2 => by rw [sm_up_ne (by omega), sm_up_ne (by omega), sm_up_ne (by omega)]
        have g0 : sm_up (sm_up (sm_up G9 (b + 1) z (i3 q1.1)) (b + 2) z (i3 saw)) b 2 (i3 (z + 1)) b 2 = i3 (z + 1) := sm_up_same _ _ _ _
        have g2 : sm_up (sm_up (sm_up G9 (b + 1) z (i3 q1.1)) (b + 2) z (i3 saw)) b 2 (i3 (z + 1)) (b + 2) z = i3 saw := by rw [sm_up_ne (by omega), sm_up_same]
        have g1 : sm_up (sm_up (sm_up G9 (b + 1) z (i3 q1.1)) (b + 2) z (i3 saw)) b 2 (i3 (z + 1)) (b + 1) z = i3 q1.1 := by rw [sm_up_ne (by omega), sm_up_ne (by omega), sm_up_same]
        generalize sm_up (sm_up (sm_up G9 (b + 1) z (i3 q1.1)) (b + 2) z (i3 saw)) b 2 (i3 (z + 1)) = G5 at *
        refine ⟨G5, rfl, fun r k w1 w2 => by rw [g r k (by omega) (by omega)]; exact ((f1.tr f2).tr f9) r k w2, r9.keep (fun r k w => g r k (by omega) (by omega)), fun _ => ⟨g0, fun k hk => ?_⟩⟩
        show _ = i3 (upn (upn K 1 z q1.1) 2 z saw 1 k) ∧ _ = i3 (upn (upn K 1 z q1.1) 2 z saw 2 k)
        rw [upn_ne (by omega : (1 : Nat) ≠ 2 ∨ _)]
        by_cases w : k = z
        · rw [w, upn_same, upn_same]; exact ⟨g1, g2⟩
        · rw [upn_ne (by omega), upn_ne (by omega), upn_ne (by omega), g _ _ (by omega) (by omega), g _ _ (by omega) (by omega)]; exact c2 k (by omega)
      · rw [if_neg y, if_neg (by decide)]
        exact ⟨G9, rfl, tb ((f1.tr f2).tr f9), r9, fun w => absurd w y⟩
    · obtain ⟨G2, k1, k2, k3⟩ := s_141f (D := d + 5) (x := x) (V := V) (L := L) (by omega) rw1
      unfold rfS at k3
      rw [if_pos q] at k3
      rw [if_neg (by rw [i3_lt (by omega) (by omega)]; exact h12), k1, aI_o, if_pos rfl, if_neg h12]
      exact ⟨G2, rfl, tb (f1.tr k2), k3, fun w => absurd w (by show ¬ (3 : Nat) = 0; omega)⟩
  rw [m_77 hb, e1, aV_o]
  by_cases hs : wl B n c.2.2 = w_seen
  · obtain ⟨k1, k2⟩ := eY 18 w_seen t_seen (by decide) hs
    have k1 : sm_cv0 (d + 5) 140 342 (RR V) [.ref 2, .ref 4114] (x, G1, L) = oI (i3 1) x G1 L := k1
    rw [k1, aI_o, if_neg (by decide)]
    exact rest 1 k2 (Or.inl hs) (if_pos hs)
  · have k0 : sm_cv0 (d + 5) 140 342 (RR V) [.ref 2, .ref 4114] (x, G1, L) = oI (i3 0) x G1 L := eN 18 w_seen t_seen hs
    rw [k0, aI_o, if_pos rfl]
    by_cases hg : wl B n c.2.2 = w_gone
    · obtain ⟨k1, k2⟩ := eY 7 w_gone t_gone (by decide) hg
      have k1 : sm_cv0 (d + 5) 140 342 (RR V) [.ref 2, .ref 4103] (x, G1, L) = oI (i3 1) x G1 L := k1
      rw [k1, aI_o, if_neg (by decide)]
      exact rest 0 k2 (Or.inr hg) (if_neg hs)
    · have k1 : sm_cv0 (d + 5) 140 342 (RR V) [.ref 2, .ref 4103] (x, G1, L) = oI (i3 0) x G1 L := eN 7 w_gone t_gone hg
      obtain ⟨G2, u1, u2, u3⟩ := s_142 (D := d + 5) (x := x) (V := V) (L := L) (k := 1) (by omega) r1 (by omega) (by omega)
      have e8 : rfS 1 (wdS B n c) = (1, c.2.2 + 1, c.2.2) := by
        unfold rfS wdS
        rw [if_pos q]
        by_cases y : we B n c.2.2 = c.2.2
        · rw [if_pos y, if_neg (by show ¬ (1 : Nat) = 0; omega)]
        · rw [if_neg y, if_pos q]
      rw [e8] at u3
      have rb : rW G2 B n (1, c.2.2 + 1, c.2.2) := u3.bad (by show (1 : Nat) ≠ 0; omega)
      have el : lnF B n z K c = ((1, c.2.2 + 1, c.2.2), K) := by
        unfold lnF
        rw [if_neg (fun w => w.elim hs hg)]
      rw [k1, aI_o, if_pos rfl, u1, aV_o, h_77_37 hb, (hB1 f1 G2 u2).1, el]
      by_cases h12 : z < 12
      · rw [if_pos (by rw [i3_lt (by omega) (by omega)]; exact h12), s_141t (by omega) rb, aI_o, if_neg (show ¬ (1, c.2.2 + 1, c.2.2).1 = 0 by show ¬ (1 : Nat) = 0; omega), if_pos rfl]
        exact ⟨G2, rfl, tb (f1.tr u2), u3, fun w => absurd w (by show ¬ (1 : Nat) = 0; omega)⟩
      · obtain ⟨G3, v1, v2, v3⟩ := s_141f (D := d + 5) (x := x) (V := V) (L := L) (by omega) rb
        have e9 : rfS 3 (1, c.2.2 + 1, c.2.2) = (1, c.2.2 + 1, c.2.2) := if_neg (by show ¬ (1 : Nat) = 0; omega)
        rw [e9] at v3
        rw [if_neg (by rw [i3_lt (by omega) (by omega)]; exact h12), v1, aI_o, if_pos rfl]
        exact ⟨G3, rfl, tb ((f1.tr u2).tr v2), v3, fun w => absurd w (by show ¬ (1 : Nat) = 0; omega)⟩
def bkF (B : Nat → Nat) (n : Nat) : Nat → Nat → St → pT → Nat × St × pT
  | 0, z, c, K => (z, c, K)
  | f + 1, z, c, K => if c.1 = 0 ∧ c.2.2 < n then bkF B n f (z + 1) (lnF B n z K c).1 (lnF B n z K c).2 else (z, c, K)
theorem bkF_ok {B : Nat → Nat} {n : Nat} : ∀ (f z : Nat) (c : St) (K : pT), (c.1 = 0 → okBk K z) → (bkF B n f z c K).2.1.1 = 0 → okBk (bkF B n f z c K).2.2 (bkF B n f z c K).1
  | 0, z, c, K, h, y => h y
  | f + 1, z, c, K, h, y => by
    unfold bkF at y ⊢
    by_cases q : c.1 = 0 ∧ c.2.2 < n
    · rw [if_pos q] at y ⊢
      exact bkF_ok f _ _ _ (fun w => lnF_ok (h q.1) w) y
    · rw [if_neg q] at y ⊢
      exact h y
theorem s_76l {D x b : Nat} {V : pV} {L : sm_L} {B : Nat → Nat} {n : Nat} (hD0 : 6 ≤ D) (hb : pB b) : ∀ (f z : Nat) (c : St) (K : pT) (G : sm_G), z + f = 13 → rC G B n c → (c.1 = 0 → okBk K z ∧ cBk G b K z) → ∃ G', hD D 76 6 [.ref b, .ref 2, .int (i3 z)] 342 (RR V) x G L = oV x G' L ∧ cfB b G G' ∧ rC G' B n (bkF B n f z c K).2.1 ∧ ((bkF B n f z c K).2.1.1 = 0 → cBk G' b (bkF B n f z c K).2.2 (bkF B n f z c K).1)
  | 0, z, c, K, G, hi, hr, h => by
    refine ⟨G, ?_, fun _ _ _ _ => rfl, hr, fun y => (h y).2⟩
    rw [h_76_6 hb, if_neg (by rw [i3_le (by omega) (by omega)]; omega)]
  | f + 1, z, c, K, G, hi, hr, h => by
    obtain ⟨d, rfl⟩ : ∃ d, D = d + 6 := ⟨D - 6, by omega⟩
    have hbl := pB_lt hb
    have e5 := s_135b (d := d + 5) (x := x) (V := V) (L := L) hr.2.1 hr.2.2.2.1
    rw [h_76_6 hb, if_pos (by rw [i3_le (by omega) (by omega)]; omega), e5, aI_o]
    unfold bkF
    by_cases q : c.1 = 0
    · obtain ⟨G1, e6, f6, r6, hle⟩ := s_136 (D := d + 6) (x := x) (V := V) (L := L) (by omega) hr q
      obtain ⟨hK, hc⟩ := h q
      have hc1 : cBk G1 b K z := ⟨by rw [f6 _ _ (by omega)]; exact hc.1, fun k hk => by rw [f6 _ _ (by omega), f6 _ _ (by omega)]; exact hc.2 k hk⟩
      have f6b : cfB b G G1 := fun r k _ w => f6 r k w
      rw [if_pos q, if_pos rfl, e6, aI_o]
      by_cases y : c.2.2 < n
      · obtain ⟨G2, k1, k2, k3, k4⟩ := s_77 (D := d + 6) (x := x) (V := V) (L := L) (by omega) hb r6 q hK.1 hc1
        obtain ⟨G3, u1, u2, u3, u4⟩ := s_76l (D := d + 6) (x := x) (V := V) (L := L) (B := B) (n := n) (by omega) hb f (z + 1) _ _ G2 (by omega) k3 (fun w => ⟨lnF_ok hK w, k4 w⟩)
        rw [if_pos y, if_pos rfl, k1, aV_o, i3_add, if_pos (⟨q, y⟩ : c.1 = 0 ∧ c.2.2 < n)]
        exact ⟨G3, u1, fun r k w1 w2 => by rw [u2 r k w1 w2, k2 r k w1 w2]; exact f6b r k w1 w2, u3, u4⟩
      · rw [if_neg y, if_neg (by decide), if_neg (fun w : c.1 = 0 ∧ c.2.2 < n => y w.2)]
        exact ⟨G1, rfl, f6b, r6, fun _ => hc1⟩
    · rw [if_neg q, if_neg (by decide), if_neg (fun w : c.1 = 0 ∧ c.2.2 < n => q w.1)]
      exact ⟨G, rfl, fun _ _ _ _ => rfl, hr, fun y => absurd y q⟩
