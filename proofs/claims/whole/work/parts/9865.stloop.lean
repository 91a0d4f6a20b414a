/-! all clauses of a street -/
theorem ckR_ok {B : Nat → Nat} {n k : Nat} {T P : pT} {c : St} (hk : k < 7) (hT : okT T) (hP : okP T P) (hf : kfull T P k = true) (z : (ckR B n T P c k).1.1 = 0) : okT (ckR B n T P c k).2.1 ∧ okP (ckR B n T P c k).2.1 (ckR B n T P c k).2.2 := by
  obtain rfl | rfl | rfl | rfl | rfl | rfl | rfl : k = 0 ∨ k = 1 ∨ k = 2 ∨ k = 3 ∨ k = 4 ∨ k = 5 ∨ k = 6 := by omega
  · have z : (sgS B n 59 (nuS B n 0 16 (nuS B n (nuS B n 0 301 c).1 301 (nuS B n 0 301 c).2).2).2).1 = 0 := z
    have h3 := nuS_ok (sgS_ok z).1
    have h2 := nuS_ok h3.1
    have h1 := nuS_ok h2.1
    exact ⟨okT_Sl hT (of_decide_eq_true hf) (Nat.le_of_lt_succ h3.2.2.1), okP_Sl hP (Nat.le_of_lt_succ h1.2.2.1) (Nat.le_of_lt_succ h2.2.2.1)⟩
  · have z : (sgS B n 59 (nuS B n 0 2 (rgS (decide ((nuS B n 0 (sl T) c).1 = (nuS B n 0 (sl T) (nuS B n 0 (sl T) c).2).1)) (nuS B n 0 (sl T) c).2 (nuS B n 0 (sl T) (nuS B n 0 (sl T) c).2))).2).1 = 0 := z
    have h4 := nuS_ok (sgS_ok z).1
    have h3 := rgS_ok h4.1
    have h2 := nuS_ok h3.1
    have h1 := nuS_ok h2.1
    exact ⟨okT_Do hT (of_decide_eq_true hf) h1.2.2.1 h2.2.2.1 (Nat.le_of_lt_succ h4.2.2.1), okP_T hP rfl⟩
  · have z : (sgS B n 59 (nuS B n 0 6 (nuS B n 0 301 c).2).2).1 = 0 := z
    have h2 := nuS_ok (sgS_ok z).1
    have h1 := nuS_ok h2.1
    exact ⟨hT, okP_No hP (of_decide_eq_true hf) (Nat.le_of_lt_succ h1.2.2.1) h2.2.2.1⟩
  · have z : (sgS B n 59 (rgS (decide (tp T (nuS B n 0 (sl T) (rgS (decide (tp T (nuS B n 0 (sl T) c).1 ≠ 0)) c (nuS B n 0 (sl T) c))).1 ≠ 0) || decide ((nuS B n 0 (sl T) c).1 = (nuS B n 0 (sl T) (rgS (decide (tp T (nuS B n 0 (sl T) c).1 ≠ 0)) c (nuS B n 0 (sl T) c))).1)) (rgS (decide (tp T (nuS B n 0 (sl T) c).1 ≠ 0)) c (nuS B n 0 (sl T) c)) (nuS B n 0 (sl T) (rgS (decide (tp T (nuS B n 0 (sl T) c).1 ≠ 0)) c (nuS B n 0 (sl T) c))))).1 = 0 := z
    obtain ⟨g1, g2, _⟩ := rgS_ok (sgS_ok z).1
    have h2 := nuS_ok g1
    obtain ⟨g3, g4, _⟩ := rgS_ok h2.1
    have h1 := nuS_ok g3
    rw [Bool.or_eq_false_iff] at g2
    exact ⟨okT_Tw hT (of_decide_eq_true hf) h1.2.2.1 h2.2.2.1 (of_decide_eq_false g2.2) (Decidable.of_not_not (of_decide_eq_false g4)) (Decidable.of_not_not (of_decide_eq_false g2.1)), okP_T hP rfl⟩
  · have z : (sgS B n 59 (nuS B n 0 301 (nuS B n 0 (sl T) c).2).2).1 = 0 := z
    have h2 := nuS_ok (sgS_ok z).1
    have h1 := nuS_ok h2.1
    exact ⟨okT_Dr hT (of_decide_eq_true hf) h1.2.2.1 (Nat.le_of_lt_succ h2.2.2.1), okP_T hP rfl⟩
  · have z : (sgS B n 59 (nuS B n 0 301 c).2).1 = 0 := z
    have h1 := nuS_ok (sgS_ok z).1
    exact ⟨okT_Mi hT (Nat.le_of_lt_succ h1.2.2.1), okP_T hP rfl⟩
  · have z : (sgS B n 59 (nuS B n 0 (dn T) (nuS B n 0 6 c).2).2).1 = 0 := z
    have h2 := nuS_ok (sgS_ok z).1
    have h1 := nuS_ok h2.1
    exact ⟨okT_Tu hT h2.2.2.1, okP_T hP rfl⟩
theorem clF_ok {B : Nat → Nat} {n : Nat} {T P : pT} {c : St} {room : Bool} (hT : okT T) (hP : okP T P) (z : (clF B n room T P c).1.1 = 0) : room = true ∧ okT (clF B n room T P c).2.1 ∧ okP (clF B n room T P c).2.1 (clF B n room T P c).2.2 := by
  unfold clF clK at z ⊢
  have hk8 : kd (wl B n c.2.2) ≤ 7 := by
    unfold kd
    repeat' split
    all_goals omega
  generalize kd (wl B n c.2.2) = k at *
  by_cases h7 : k = 7
  · rw [if_pos h7] at z
    exact absurd z (by show ¬ (1 : Nat) = 0; omega)
  · rw [if_neg h7] at z ⊢
    by_cases h : (room && kfull T P k) = true
    · rw [if_pos h] at z ⊢
      have h' := h
      rw [Bool.and_eq_true] at h'
      exact ⟨h'.1, ckR_ok (by omega) hT hP h'.2 z⟩
    · rw [if_neg h] at z
      exact absurd z (by show ¬ (3 : Nat) = 0; omega)
def stF (B : Nat → Nat) (n : Nat) : Nat → St → pT → pT → St × pT × pT
  | 0, c, T, P => (c, T, P)
  | f + 1, c, T, P => if c.1 = 0 ∧ c.2.2 < n then stF B n f (clF B n (decide (f ≠ 0)) T P c).1 (clF B n (decide (f ≠ 0)) T P c).2.1 (clF B n (decide (f ≠ 0)) T P c).2.2 else (c, T, P)
theorem stF_ok {B : Nat → Nat} {n : Nat} : ∀ (f : Nat) (c : St) (T P : pT), (c.1 = 0 → okT T ∧ okP T P) → (stF B n f c T P).1.1 = 0 → okT (stF B n f c T P).2.1 ∧ okP (stF B n f c T P).2.1 (stF B n f c T P).2.2
  | 0, c, T, P, h, z => h z
  | f + 1, c, T, P, h, z => by
    unfold stF at z ⊢
    by_cases q : c.1 = 0 ∧ c.2.2 < n
    · rw [if_pos q] at z ⊢
      obtain ⟨h1, h2⟩ := h q.1
      exact stF_ok f _ _ _ (fun y => (clF_ok h1 h2 y).2) z
    · rw [if_neg q] at z ⊢
      exact h z
theorem s_120l {D x s : Nat} {V : pV} {L : sm_L} {B : Nat → Nat} {n : Nat} (hD0 : 6 ≤ D) (hs : pS s) : ∀ (f i : Nat) (c : St) (T P : pT) (G : sm_G), i + f = 61 → rC G B n c → (c.1 = 0 → okT T ∧ okP T P ∧ cSr G s T P) → ∃ G', hD D 120 6 [.ref s, .ref 2, .int (i3 i)] 342 (RR V) x G L = oV x G' L ∧ cfS s G G' ∧ rC G' B n (stF B n f c T P).1 ∧ ((stF B n f c T P).1.1 = 0 → cSr G' s (stF B n f c T P).2.1 (stF B n f c T P).2.2)
  | 0, i, c, T, P, G, hi, hr, h => by
    refine ⟨G, ?_, fun _ _ _ _ => rfl, hr, fun z => (h z).2.2⟩
    rw [h_120_6 hs, if_neg (by rw [i3_le (by omega) (by omega)]; omega)]
  | f + 1, i, c, T, P, G, hi, hr, h => by
    obtain ⟨d, rfl⟩ : ∃ d, D = d + 6 := ⟨D - 6, by omega⟩
    have e5 := s_135b (d := d + 5) (x := x) (V := V) (L := L) hr.2.1 hr.2.2.2.1
    rw [h_120_6 hs, if_pos (by rw [i3_le (by omega) (by omega)]; omega), e5, aI_o]
    unfold stF
    by_cases q : c.1 = 0
    · obtain ⟨G1, e6, f6, r6, hle⟩ := s_136 (D := d + 6) (x := x) (V := V) (L := L) (by omega) hr q
      obtain ⟨hT, hP, hc⟩ := h q
      rw [if_pos q, if_pos rfl, e6, aI_o]
      by_cases z : c.2.2 < n
      · obtain ⟨G2, k1, k2, k3, k4⟩ := s_122 (D := d + 6) (x := x) (V := V) (L := L) (decide (f ≠ 0)) (by omega) hs r6 q hT hP (hc.F hs f6)
        obtain ⟨G3, u1, u2, u3, u4⟩ := s_120l (D := d + 6) (x := x) (V := V) (L := L) (B := B) (n := n) (by omega) hs f (i + 1) _ _ _ G2 (by omega) k3 (fun y => ⟨(clF_ok hT hP y).2.1, (clF_ok hT hP y).2.2, k4 y⟩)
        have e122 : (if i3 i < i3 60 then sm_aV (sm_cv0 (d + 6) 122 342 (RR V) [.ref s, .ref 2, .int (i3 1)] (x, G1, L)) (fun x3 G3 L3 => hD (d + 6) 120 6 [.ref s, .ref 2, .int (i3 i + i3 1)] 342 (RR V) x3 G3 L3) oX else sm_aV (sm_cv0 (d + 6) 122 342 (RR V) [.ref s, .ref 2, .int (i3 0)] (x, G1, L)) (fun x4 G4 L4 => hD (d + 6) 120 6 [.ref s, .ref 2, .int (i3 i + i3 1)] 342 (RR V) x4 G4 L4) oX) = hD (d + 6) 120 6 [.ref s, .ref 2, .int (i3 (i + 1))] 342 (RR V) x G2 L := by
          by_cases y : f = 0
          · rw [decide_eq_false (fun w => w y)] at k1
            have k1 : sm_cv0 (d + 6) 122 342 (RR V) [.ref s, .ref 2, .int (i3 0)] (x, G1, L) = oV x G2 L := k1
            rw [if_neg (by rw [i3_lt (by omega) (by omega)]; omega), k1, aV_o, i3_add]
          · rw [decide_eq_true y] at k1
            have k1 : sm_cv0 (d + 6) 122 342 (RR V) [.ref s, .ref 2, .int (i3 1)] (x, G1, L) = oV x G2 L := k1
            rw [if_pos (by rw [i3_lt (by omega) (by omega)]; omega), k1, aV_o, i3_add]
        rw [if_pos z, if_pos rfl, e122, if_pos (⟨q, z⟩ : c.1 = 0 ∧ c.2.2 < n)]
        exact ⟨G3, u1, (f6.S.tr k2).tr u2, u3, u4⟩
      · rw [if_neg z, if_neg (by decide), if_neg (fun w : c.1 = 0 ∧ c.2.2 < n => z w.2)]
        exact ⟨G1, rfl, f6.S, r6, fun _ => hc.F hs f6⟩
    · rw [if_neg q, if_neg (by decide), if_neg (fun w : c.1 = 0 ∧ c.2.2 < n => q w.1)]
      exact ⟨G, rfl, fun _ _ _ _ => rfl, hr, fun z => absurd z q⟩
theorem s_217l {D x : Nat} {V : pV} {L : sm_L} {B : Nat → Nat} {n : Nat} (hD0 : 7 ≤ D) : ∀ (f i : Nat) (c : St) (T P : pT) (G : sm_G), i + f = 61 → rE G B n c → (f = 0 → c.1 ≠ 0) → (c.1 = 0 → okT T ∧ okP T P ∧ mHr G T P ∧ G 156 7 = i3 i) → ∃ G', hD D 217 42 [.ref 156, .null] 342 (RR V) x G L = hD D 217 71 [.ref 156, .null] 342 (RR V) x G' L ∧ mfS G G' ∧ rE G' B n (stF B n f c T P).1 ∧ ((stF B n f c T P).1.1 = 0 → mHr G' (stF B n f c T P).2.1 (stF B n f c T P).2.2)
  | 0, i, c, T, P, G, hi, hr, h0, h => by
    refine ⟨G, ?_, fun _ _ _ _ => rfl, hr, fun z => absurd z (h0 rfl)⟩
    rw [h_217_42, hr.2.2.2.1, if_neg (by rw [i3_eq (by have := hr.2.1; omega) (by omega)]; exact h0 rfl)]
  | f + 1, i, c, T, P, G, hi, hr, h0, h => by
    unfold stF
    rw [h_217_42, hr.2.2.2.1]
    by_cases q : c.1 = 0
    · obtain ⟨a1, a2, a3, a4⟩ := hr.at q
      obtain ⟨hT, hP, hm, h7⟩ := h q
      have hn := hr.1.1
      rw [if_pos (by rw [q]), a1, hr.1.2.1]
      by_cases z : c.2.2 < n
      · obtain ⟨G2, k1, k2, k3, k4⟩ := s_223 (D := D) (x := x) (V := V) (L := L) (cnt := i) (by omega) hr.M q h7 (by omega) hT hP hm
        have er : decide (i ≠ 60) = decide (f ≠ 0) := by
          by_cases y : f = 0
          · rw [decide_eq_false (show ¬ i ≠ 60 from fun w => w (by omega)), decide_eq_false (show ¬ f ≠ 0 from fun w => w y)]
          · rw [decide_eq_true (show i ≠ 60 by omega), decide_eq_true (show f ≠ 0 from y)]
        rw [er] at k3 k4
        obtain ⟨G3, v1, v2, v3⟩ := s_221 (D := D) (x := x) (V := V) (L := L) (by omega) k3
        have fv : mfS G2 G3 := fun r j w1 w2 => v3 r j (by omega)
        obtain ⟨G4, u1, u2, u3, u4⟩ := s_217l (D := D) (x := x) (V := V) (L := L) (B := B) (n := n) hD0 f (i + 1) _ _ _ G3 (by omega) v2 (fun y w => by
          have := (clF_ok hT hP w).1
          rw [y] at this
          cases this) (fun y => by
          obtain ⟨w1, w2⟩ := clF_ok hT hP y
          obtain ⟨w3, w4⟩ := k4 y
          exact ⟨w2.1, w2.2, w3.keep w2.1 w2.2 (fun r j w => v3 r j (by unfold inR at w; omega)), by rw [v3 _ _ (by omega)]; exact w4⟩)
        rw [if_pos (by rw [i3_lt (by omega) (by omega)]; exact z), k1, aV_o, v1, aV_o, if_pos (⟨q, z⟩ : c.1 = 0 ∧ c.2.2 < n)]
        exact ⟨G4, u1, fun r j w1 w2 => by rw [u2 r j w1 w2, fv r j w1 w2]; exact k2 r j w1 w2, u3, u4⟩
      · rw [if_neg (by rw [i3_lt (by omega) (by omega)]; exact z), if_neg (fun w : c.1 = 0 ∧ c.2.2 < n => z w.2)]
        exact ⟨G, rfl, fun _ _ _ _ => rfl, hr, fun _ => hm⟩
    · rw [if_neg (by rw [i3_eq (by have := hr.2.1; omega) (by omega)]; exact q), if_neg (fun w : c.1 = 0 ∧ c.2.2 < n => q w.1)]
      exact ⟨G, rfl, fun _ _ _ _ => rfl, hr, fun z => absurd z q⟩
