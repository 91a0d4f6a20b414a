/-! a clause, the class -/
def kd (l : List Nat) : Nat := if l = w_sleeper then 0 else if l = w_door then 1 else if l = w_noise then 2 else if l = w_twin then 3 else if l = w_dreamer then 4 else if l = w_milk then 5 else if l = w_turns then 6 else 7
theorem kd_sleeper : kd w_sleeper = 0 := by decide
theorem kd_door : kd w_door = 1 := by decide
theorem kd_noise : kd w_noise = 2 := by decide
theorem kd_twin : kd w_twin = 3 := by decide
theorem kd_dreamer : kd w_dreamer = 4 := by decide
theorem kd_milk : kd w_milk = 5 := by decide
theorem kd_turns : kd w_turns = 6 := by decide
theorem kd_all (l : List Nat) : l = w_sleeper ∨ l = w_door ∨ l = w_noise ∨ l = w_twin ∨ l = w_dreamer ∨ l = w_milk ∨ l = w_turns ∨ (kd l = 7 ∧ l ≠ w_sleeper ∧ l ≠ w_door ∧ l ≠ w_noise ∧ l ≠ w_twin ∧ l ≠ w_dreamer ∧ l ≠ w_milk ∧ l ≠ w_turns) := by
  by_cases h0 : l = w_sleeper
  · exact Or.inl h0
  by_cases h1 : l = w_door
  · exact Or.inr (Or.inl h1)
  by_cases h2 : l = w_noise
  · exact Or.inr (Or.inr (Or.inl h2))
  by_cases h3 : l = w_twin
  · exact Or.inr (Or.inr (Or.inr (Or.inl h3)))
  by_cases h4 : l = w_dreamer
  · exact Or.inr (Or.inr (Or.inr (Or.inr (Or.inl h4))))
  by_cases h5 : l = w_milk
  · exact Or.inr (Or.inr (Or.inr (Or.inr (Or.inr (Or.inl h5)))))
  by_cases h6 : l = w_turns
  · exact Or.inr (Or.inr (Or.inr (Or.inr (Or.inr (Or.inr (Or.inl h6))))))
  exact Or.inr (Or.inr (Or.inr (Or.inr (Or.inr (Or.inr (Or.inr (⟨by unfold kd; rw [if_neg h0, if_neg h1, if_neg h2, if_neg h3, if_neg h4, if_neg h5, if_neg h6], h0, h1, h2, h3, h4, h5, h6⟩)))))))
def kfull (T P : pT) : Nat → Bool
  | 0 => decide (sl T < 8)
  | 1 => decide (dn T < 10)
  | 2 => decide (nn P < 12)
  | 3 => decide (tn T < 3)
  | 4 => decide (dr T < 4)
  | _ => true
def ckR (B : Nat → Nat) (n : Nat) (T P : pT) (c : St) : Nat → St × pT × pT
  | 0 => ((slS B n c).2, tSl T (slS B n c).1.2.2, pSl T P (slS B n c).1.1 (slS B n c).1.2.1)
  | 1 => ((doS B n (sl T) c).2, tDo T (doS B n (sl T) c).1.1 (doS B n (sl T) c).1.2.1 (doS B n (sl T) c).1.2.2, P)
  | 2 => ((noS B n c).2, T, pNo P (noS B n c).1.1 (noS B n c).1.2)
  | 3 => ((twS B n (sl T) (tp T) c).2, tTw T (twS B n (sl T) (tp T) c).1.1 (twS B n (sl T) (tp T) c).1.2, P)
  | 4 => ((drS B n (sl T) c).2, tDr T (drS B n (sl T) c).1.1 (drS B n (sl T) c).1.2, P)
  | 5 => ((mkS B n c).2, tMi T (mkS B n c).1, P)
  | _ => ((tuS B n (dn T) c).2, tTu T (tuS B n (dn T) c).1.1 (tuS B n (dn T) c).1.2, P)
def clK (B : Nat → Nat) (n : Nat) (room : Bool) (T P : pT) (c : St) (k : Nat) : St × pT × pT := if k = 7 then ((1, c.2.2 + 1, c.2.2), T, P) else if (room && kfull T P k) = true then ckR B n T P (0, 0, sk B n (we B n c.2.2)) k else ((3, c.2.2 + 1, c.2.2), T, P)
def clF (B : Nat → Nat) (n : Nat) (room : Bool) (T P : pT) (c : St) : St × pT × pT := clK B n room T P c (kd (wl B n c.2.2))
theorem f_123 {D x s : Nat} {V : pV} {G : sm_G} {L : sm_L} {B : Nat → Nat} {n : Nat} {c : St} (hD0 : 5 ≤ D) (hs : pS s) (hr : rW G B n c) : ∃ G', sm_cv0 D 123 342 (RR V) [.ref s, .ref 2, .int (i3 0)] (x, G, L) = oV x G' L ∧ tF G G' ∧ rC G' B n (rfS 3 c) := by
  obtain ⟨d, rfl⟩ : ∃ d, D = d + 5 := ⟨D - 5, by omega⟩
  obtain ⟨G1, e1, e2, e3⟩ := s_141f (D := d + 4) (x := x) (V := V) (L := L) (by omega) hr
  rw [m_123 hs, e1, aI_o, if_pos rfl]
  exact ⟨G1, rfl, e2, e3⟩
theorem f_124 {D x s : Nat} {V : pV} {G : sm_G} {L : sm_L} {B : Nat → Nat} {n : Nat} {c : St} (hD0 : 5 ≤ D) (hs : pS s) (hr : rW G B n c) : ∃ G', sm_cv0 D 124 342 (RR V) [.ref s, .ref 2, .int (i3 0)] (x, G, L) = oV x G' L ∧ tF G G' ∧ rC G' B n (rfS 3 c) := by
  obtain ⟨d, rfl⟩ : ∃ d, D = d + 5 := ⟨D - 5, by omega⟩
  obtain ⟨G1, e1, e2, e3⟩ := s_141f (D := d + 4) (x := x) (V := V) (L := L) (by omega) hr
  rw [m_124 hs, e1, aI_o, if_pos rfl]
  exact ⟨G1, rfl, e2, e3⟩
theorem f_125 {D x s : Nat} {V : pV} {G : sm_G} {L : sm_L} {B : Nat → Nat} {n : Nat} {c : St} (hD0 : 5 ≤ D) (hs : pS s) (hr : rW G B n c) : ∃ G', sm_cv0 D 125 342 (RR V) [.ref s, .ref 2, .int (i3 0)] (x, G, L) = oV x G' L ∧ tF G G' ∧ rC G' B n (rfS 3 c) := by
  obtain ⟨d, rfl⟩ : ∃ d, D = d + 5 := ⟨D - 5, by omega⟩
  obtain ⟨G1, e1, e2, e3⟩ := s_141f (D := d + 4) (x := x) (V := V) (L := L) (by omega) hr
  rw [m_125 hs, e1, aI_o, if_pos rfl]
  exact ⟨G1, rfl, e2, e3⟩
theorem f_126 {D x s : Nat} {V : pV} {G : sm_G} {L : sm_L} {B : Nat → Nat} {n : Nat} {c : St} (hD0 : 5 ≤ D) (hs : pS s) (hr : rW G B n c) : ∃ G', sm_cv0 D 126 342 (RR V) [.ref s, .ref 2, .int (i3 0)] (x, G, L) = oV x G' L ∧ tF G G' ∧ rC G' B n (rfS 3 c) := by
  obtain ⟨d, rfl⟩ : ∃ d, D = d + 5 := ⟨D - 5, by omega⟩
  obtain ⟨G1, e1, e2, e3⟩ := s_141f (D := d + 4) (x := x) (V := V) (L := L) (by omega) hr
  rw [m_126 hs, e1, aI_o, if_pos rfl]
  exact ⟨G1, rfl, e2, e3⟩
theorem f_127 {D x s : Nat} {V : pV} {G : sm_G} {L : sm_L} {B : Nat → Nat} {n : Nat} {c : St} (hD0 : 5 ≤ D) (hs : pS s) (hr : rW G B n c) : ∃ G', sm_cv0 D 127 342 (RR V) [.ref s, .ref 2, .int (i3 0)] (x, G, L) = oV x G' L ∧ tF G G' ∧ rC G' B n (rfS 3 c) := by
  obtain ⟨d, rfl⟩ : ∃ d, D = d + 5 := ⟨D - 5, by omega⟩
  obtain ⟨G1, e1, e2, e3⟩ := s_141f (D := d + 4) (x := x) (V := V) (L := L) (by omega) hr
  rw [m_127 hs, e1, aI_o, if_pos rfl]
  exact ⟨G1, rfl, e2, e3⟩
theorem f_129 {D x s : Nat} {V : pV} {G : sm_G} {L : sm_L} {B : Nat → Nat} {n : Nat} {c : St} (hD0 : 5 ≤ D) (hs : pS s) (hr : rW G B n c) : ∃ G', sm_cv0 D 129 342 (RR V) [.ref s, .ref 2, .int (i3 0)] (x, G, L) = oV x G' L ∧ tF G G' ∧ rC G' B n (rfS 3 c) := by
  obtain ⟨d, rfl⟩ : ∃ d, D = d + 5 := ⟨D - 5, by omega⟩
  obtain ⟨G1, e1, e2, e3⟩ := s_141f (D := d + 4) (x := x) (V := V) (L := L) (by omega) hr
  rw [m_129 hs, e1, aI_o, if_pos rfl]
  exact ⟨G1, rfl, e2, e3⟩
theorem f_130 {D x s : Nat} {V : pV} {G : sm_G} {L : sm_L} {B : Nat → Nat} {n : Nat} {c : St} (hD0 : 5 ≤ D) (hs : pS s) (hr : rW G B n c) : ∃ G', sm_cv0 D 130 342 (RR V) [.ref s, .ref 2, .int (i3 0)] (x, G, L) = oV x G' L ∧ tF G G' ∧ rC G' B n (rfS 3 c) := by
  obtain ⟨d, rfl⟩ : ∃ d, D = d + 5 := ⟨D - 5, by omega⟩
  obtain ⟨G1, e1, e2, e3⟩ := s_141f (D := d + 4) (x := x) (V := V) (L := L) (by omega) hr
  rw [m_130 hs, e1, aI_o, if_pos rfl]
  exact ⟨G1, rfl, e2, e3⟩
theorem wdS_s {B : Nat → Nat} {n : Nat} {c : St} : (wdS B n c).2.2 = c.2.2 := by
  unfold wdS
  split
  · split <;> rfl
  · rfl
theorem wdS_w {B : Nat → Nat} {n : Nat} {c : St} (h : wl B n c.2.2 ≠ []) : wdS B n c = c := by
  have : we B n c.2.2 ≠ c.2.2 := fun z => h (by unfold wl; rw [z, Nat.sub_self]; rfl)
  unfold wdS
  rw [if_neg this, ite_self]
theorem s_122 {D x s : Nat} {V : pV} {G : sm_G} {L : sm_L} {B : Nat → Nat} {n : Nat} {c : St} {T P : pT} (room : Bool) (hD0 : 6 ≤ D) (hs : pS s) (hr : rC G B n c) (q : c.1 = 0) (hT : okT T) (hP : okP T P) (hc : cSr G s T P) : ∃ G', sm_cv0 D 122 342 (RR V) [.ref s, .ref 2, .int (bi room)] (x, G, L) = oV x G' L ∧ cfS s G G' ∧ rC G' B n (clF B n room T P c).1 ∧ ((clF B n room T P c).1.1 = 0 → cSr G' s (clF B n room T P c).2.1 (clF B n room T P c).2.2) := by
  obtain ⟨d, rfl⟩ : ∃ d, D = d + 6 := ⟨D - 6, by omega⟩
  have hB := hT.gb
  have hB2 := hP.gb
  obtain ⟨G1, e1, f1, r1⟩ := s_138 (D := d + 5) (x := x) (V := V) (L := L) (by omega) hr
  have hc1 := hc.F hs f1
  have eN : ∀ t ws, isT t ws → wl B n c.2.2 ≠ ws → sm_cv0 (d + 5) 140 342 (RR V) [.ref 2, .ref (4096 + t)] (x, G1, L) = oI (i3 0) x G1 L := fun t ws h z => by
    rw [s_140 (by omega) r1 h, if_neg (fun w => z (by rw [← wdS_s (c := c)]; exact w.2))]
  have eY : ∀ t ws, isT t ws → ws ≠ [] → wl B n c.2.2 = ws → sm_cv0 (d + 5) 140 342 (RR V) [.ref 2, .ref (4096 + t)] (x, G1, L) = oI (i3 1) x G1 L ∧ rW G1 B n c := fun t ws h h0 z => by
    have r2 := r1
    rw [wdS_w (by rw [z]; exact h0)] at r2
    rw [s_140 (by omega) r2 h, if_pos ⟨q, z⟩]
    exact ⟨rfl, r2⟩
  have bad : ∀ G2, rC G2 B n (rfS 3 c) → rC G2 B n (3, c.2.2 + 1, c.2.2) := fun G2 h => by
    unfold rfS at h
    rw [if_pos q] at h
    exact h
  have no : ∀ k, k ≠ 7 → (room && kfull T P k) = false → clK B n room T P c k = ((3, c.2.2 + 1, c.2.2), T, P) := fun k h1 h2 => by
    unfold clK
    rw [if_neg h1, h2, if_neg (by decide)]
  have ye : ∀ k, k ≠ 7 → (room && kfull T P k) = true → clK B n room T P c k = ckR B n T P (0, 0, sk B n (we B n c.2.2)) k := fun k h1 h2 => by
    unfold clK
    rw [if_neg h1, if_pos h2]
  unfold clF
  rw [m_122 hs, e1, aV_o]
  rcases kd_all (wl B n c.2.2) with hw | hw | hw | hw | hw | hw | hw | ⟨hk, n0, n1, n2, n3, n4, n5, n6⟩
  · obtain ⟨eW, rw1⟩ := eY 19 w_sleeper t_sleeper (by decide) hw
    have eW : sm_cv0 (d + 5) 140 342 (RR V) [.ref 2, .ref 4115] (x, G1, L) = oI (i3 1) x G1 L := eW
    rw [eW, aI_o, if_neg (show ¬ i3 1 = i3 0 by decide)]
    rw [hw, kd_sleeper]
    cases room with
    | false =>
      rw [if_pos (show bi false = i3 0 from rfl)]
      obtain ⟨G2, k1, k2, k3⟩ := f_123 (D := d + 5) (x := x) (V := V) (L := L) (by omega) hs rw1
      rw [k1, aV_o, h_122_221, no 0 (by decide) rfl]
      exact ⟨G2, rfl, (f1.tr k2).S, bad G2 k3, fun z => absurd z (by show ¬ (3 : Nat) = 0; omega)⟩
    | true =>
      rw [if_neg (show ¬ bi true = i3 0 by decide), hc1.1.gsl]
      by_cases hcap : sl T < 8
      · rw [if_pos (by rw [i3_lt (by omega) (by omega)]; exact hcap)]
        obtain ⟨G2, k1, k2, k3, k4⟩ := s_123 (D := d + 5) (x := x) (V := V) (L := L) (by omega) hs rw1 q hc1 hcap
        rw [k1, aV_o, h_122_221, ye 0 (by decide) (by show (true && decide (sl T < 8)) = true; rw [decide_eq_true hcap]; rfl)]
        exact ⟨G2, rfl, f1.S.tr k2, k3, k4⟩
      · rw [if_neg (by rw [i3_lt (by omega) (by omega)]; exact hcap)]
        obtain ⟨G2, k1, k2, k3⟩ := f_123 (D := d + 5) (x := x) (V := V) (L := L) (by omega) hs rw1
        rw [k1, aV_o, h_122_221, no 0 (by decide) (by show (true && decide (sl T < 8)) = false; rw [decide_eq_false hcap]; rfl)]
        exact ⟨G2, rfl, (f1.tr k2).S, bad G2 k3, fun z => absurd z (by show ¬ (3 : Nat) = 0; omega)⟩
  · have e_sleeper : sm_cv0 (d + 5) 140 342 (RR V) [.ref 2, .ref 4115] (x, G1, L) = oI (i3 0) x G1 L := eN 19 w_sleeper t_sleeper (by rw [hw]; decide)
    rw [e_sleeper, aI_o, if_pos rfl]
    obtain ⟨eW, rw1⟩ := eY 4 w_door t_door (by decide) hw
    have eW : sm_cv0 (d + 5) 140 342 (RR V) [.ref 2, .ref 4100] (x, G1, L) = oI (i3 1) x G1 L := eW
    rw [eW, aI_o, if_neg (show ¬ i3 1 = i3 0 by decide)]
    rw [hw, kd_door]
    cases room with
    | false =>
      rw [if_pos (show bi false = i3 0 from rfl)]
      obtain ⟨G2, k1, k2, k3⟩ := f_124 (D := d + 5) (x := x) (V := V) (L := L) (by omega) hs rw1
      rw [k1, aV_o, h_122_221, no 1 (by decide) rfl]
      exact ⟨G2, rfl, (f1.tr k2).S, bad G2 k3, fun z => absurd z (by show ¬ (3 : Nat) = 0; omega)⟩
    | true =>
      rw [if_neg (show ¬ bi true = i3 0 by decide), hc1.1.gdn]
      by_cases hcap : dn T < 10
      · rw [if_pos (by rw [i3_lt (by omega) (by omega)]; exact hcap)]
        obtain ⟨G2, k1, k2, k3, k4⟩ := s_124 (D := d + 5) (x := x) (V := V) (L := L) (by omega) hs rw1 q hT hP hc1 hcap
        rw [k1, aV_o, h_122_221, ye 1 (by decide) (by show (true && decide (dn T < 10)) = true; rw [decide_eq_true hcap]; rfl)]
        exact ⟨G2, rfl, f1.S.tr k2, k3, k4⟩
      · rw [if_neg (by rw [i3_lt (by omega) (by omega)]; exact hcap)]
        obtain ⟨G2, k1, k2, k3⟩ := f_124 (D := d + 5) (x := x) (V := V) (L := L) (by omega) hs rw1
        rw [k1, aV_o, h_122_221, no 1 (by decide) (by show (true && decide (dn T < 10)) = false; rw [decide_eq_false hcap]; rfl)]
        exact ⟨G2, rfl, (f1.tr k2).S, bad G2 k3, fun z => absurd z (by show ¬ (3 : Nat) = 0; omega)⟩
  · have e_sleeper : sm_cv0 (d + 5) 140 342 (RR V) [.ref 2, .ref 4115] (x, G1, L) = oI (i3 0) x G1 L := eN 19 w_sleeper t_sleeper (by rw [hw]; decide)
    rw [e_sleeper, aI_o, if_pos rfl]
    have e_door : sm_cv0 (d + 5) 140 342 (RR V) [.ref 2, .ref 4100] (x, G1, L) = oI (i3 0) x G1 L := eN 4 w_door t_door (by rw [hw]; decide)
    rw [e_door, aI_o, if_pos rfl]
    have e_turns : sm_cv0 (d + 5) 140 342 (RR V) [.ref 2, .ref 4118] (x, G1, L) = oI (i3 0) x G1 L := eN 22 w_turns t_turns (by rw [hw]; decide)
    rw [e_turns, aI_o, if_pos rfl]
    obtain ⟨eW, rw1⟩ := eY 15 w_noise t_noise (by decide) hw
    have eW : sm_cv0 (d + 5) 140 342 (RR V) [.ref 2, .ref 4111] (x, G1, L) = oI (i3 1) x G1 L := eW
    rw [eW, aI_o, if_neg (show ¬ i3 1 = i3 0 by decide)]
    rw [hw, kd_noise]
    cases room with
    | false =>
      rw [if_pos (show bi false = i3 0 from rfl)]
      obtain ⟨G2, k1, k2, k3⟩ := f_126 (D := d + 5) (x := x) (V := V) (L := L) (by omega) hs rw1
      rw [k1, aV_o, h_122_221, no 2 (by decide) rfl]
      exact ⟨G2, rfl, (f1.tr k2).S, bad G2 k3, fun z => absurd z (by show ¬ (3 : Nat) = 0; omega)⟩
    | true =>
      rw [if_neg (show ¬ bi true = i3 0 by decide), hc1.2.1.gnn]
      by_cases hcap : nn P < 12
      · rw [if_pos (by rw [i3_lt (by omega) (by omega)]; exact hcap)]
        obtain ⟨G2, k1, k2, k3, k4⟩ := s_126 (D := d + 5) (x := x) (V := V) (L := L) (by omega) hs rw1 q hT hP hc1 hcap
        rw [k1, aV_o, h_122_221, ye 2 (by decide) (by show (true && decide (nn P < 12)) = true; rw [decide_eq_true hcap]; rfl)]
        exact ⟨G2, rfl, f1.S.tr k2, k3, k4⟩
      · rw [if_neg (by rw [i3_lt (by omega) (by omega)]; exact hcap)]
        obtain ⟨G2, k1, k2, k3⟩ := f_126 (D := d + 5) (x := x) (V := V) (L := L) (by omega) hs rw1
        rw [k1, aV_o, h_122_221, no 2 (by decide) (by show (true && decide (nn P < 12)) = false; rw [decide_eq_false hcap]; rfl)]
        exact ⟨G2, rfl, (f1.tr k2).S, bad G2 k3, fun z => absurd z (by show ¬ (3 : Nat) = 0; omega)⟩
  · have e_sleeper : sm_cv0 (d + 5) 140 342 (RR V) [.ref 2, .ref 4115] (x, G1, L) = oI (i3 0) x G1 L := eN 19 w_sleeper t_sleeper (by rw [hw]; decide)
    rw [e_sleeper, aI_o, if_pos rfl]
    have e_door : sm_cv0 (d + 5) 140 342 (RR V) [.ref 2, .ref 4100] (x, G1, L) = oI (i3 0) x G1 L := eN 4 w_door t_door (by rw [hw]; decide)
    rw [e_door, aI_o, if_pos rfl]
    have e_turns : sm_cv0 (d + 5) 140 342 (RR V) [.ref 2, .ref 4118] (x, G1, L) = oI (i3 0) x G1 L := eN 22 w_turns t_turns (by rw [hw]; decide)
    rw [e_turns, aI_o, if_pos rfl]
    have e_noise : sm_cv0 (d + 5) 140 342 (RR V) [.ref 2, .ref 4111] (x, G1, L) = oI (i3 0) x G1 L := eN 15 w_noise t_noise (by rw [hw]; decide)
    rw [e_noise, aI_o, if_pos rfl]
    obtain ⟨eW, rw1⟩ := eY 23 w_twin t_twin (by decide) hw
    have eW : sm_cv0 (d + 5) 140 342 (RR V) [.ref 2, .ref 4119] (x, G1, L) = oI (i3 1) x G1 L := eW
    rw [eW, aI_o, if_neg (show ¬ i3 1 = i3 0 by decide)]
    rw [hw, kd_twin]
    cases room with
    | false =>
      rw [if_pos (show bi false = i3 0 from rfl)]
      obtain ⟨G2, k1, k2, k3⟩ := f_127 (D := d + 5) (x := x) (V := V) (L := L) (by omega) hs rw1
      rw [k1, aV_o, h_122_221, no 3 (by decide) rfl]
      exact ⟨G2, rfl, (f1.tr k2).S, bad G2 k3, fun z => absurd z (by show ¬ (3 : Nat) = 0; omega)⟩
    | true =>
      rw [if_neg (show ¬ bi true = i3 0 by decide), hc1.1.gtn]
      by_cases hcap : tn T < 3
      · rw [if_pos (by rw [i3_lt (by omega) (by omega)]; exact hcap)]
        obtain ⟨G2, k1, k2, k3, k4⟩ := s_127 (D := d + 5) (x := x) (V := V) (L := L) (by omega) hs rw1 q hT hP hc1 hcap
        rw [k1, aV_o, h_122_221, ye 3 (by decide) (by show (true && decide (tn T < 3)) = true; rw [decide_eq_true hcap]; rfl)]
        exact ⟨G2, rfl, f1.S.tr k2, k3, k4⟩
      · rw [if_neg (by rw [i3_lt (by omega) (by omega)]; exact hcap)]
        obtain ⟨G2, k1, k2, k3⟩ := f_127 (D := d + 5) (x := x) (V := V) (L := L) (by omega) hs rw1
        rw [k1, aV_o, h_122_221, no 3 (by decide) (by show (true && decide (tn T < 3)) = false; rw [decide_eq_false hcap]; rfl)]
        exact ⟨G2, rfl, (f1.tr k2).S, bad G2 k3, fun z => absurd z (by show ¬ (3 : Nat) = 0; omega)⟩
  · have e_sleeper : sm_cv0 (d + 5) 140 342 (RR V) [.ref 2, .ref 4115] (x, G1, L) = oI (i3 0) x G1 L := eN 19 w_sleeper t_sleeper (by rw [hw]; decide)
    rw [e_sleeper, aI_o, if_pos rfl]
    have e_door : sm_cv0 (d + 5) 140 342 (RR V) [.ref 2, .ref 4100] (x, G1, L) = oI (i3 0) x G1 L := eN 4 w_door t_door (by rw [hw]; decide)
    rw [e_door, aI_o, if_pos rfl]
    have e_turns : sm_cv0 (d + 5) 140 342 (RR V) [.ref 2, .ref 4118] (x, G1, L) = oI (i3 0) x G1 L := eN 22 w_turns t_turns (by rw [hw]; decide)
    rw [e_turns, aI_o, if_pos rfl]
    have e_noise : sm_cv0 (d + 5) 140 342 (RR V) [.ref 2, .ref 4111] (x, G1, L) = oI (i3 0) x G1 L := eN 15 w_noise t_noise (by rw [hw]; decide)
    rw [e_noise, aI_o, if_pos rfl]
    have e_twin : sm_cv0 (d + 5) 140 342 (RR V) [.ref 2, .ref 4119] (x, G1, L) = oI (i3 0) x G1 L := eN 23 w_twin t_twin (by rw [hw]; decide)
    rw [e_twin, aI_o, if_pos rfl]
    obtain ⟨eW, rw1⟩ := eY 5 w_dreamer t_dreamer (by decide) hw
    have eW : sm_cv0 (d + 5) 140 342 (RR V) [.ref 2, .ref 4101] (x, G1, L) = oI (i3 1) x G1 L := eW
    rw [eW, aI_o, if_neg (show ¬ i3 1 = i3 0 by decide)]
    rw [hw, kd_dreamer]
    cases room with
    | false =>
      rw [if_pos (show bi false = i3 0 from rfl)]
      obtain ⟨G2, k1, k2, k3⟩ := f_129 (D := d + 5) (x := x) (V := V) (L := L) (by omega) hs rw1
      rw [k1, aV_o, h_122_221, no 4 (by decide) rfl]
      exact ⟨G2, rfl, (f1.tr k2).S, bad G2 k3, fun z => absurd z (by show ¬ (3 : Nat) = 0; omega)⟩
    | true =>
      rw [if_neg (show ¬ bi true = i3 0 by decide), hc1.1.gdr]
      by_cases hcap : dr T < 4
      · rw [if_pos (by rw [i3_lt (by omega) (by omega)]; exact hcap)]
        obtain ⟨G2, k1, k2, k3, k4⟩ := s_129 (D := d + 5) (x := x) (V := V) (L := L) (by omega) hs rw1 q hT hP hc1 hcap
        rw [k1, aV_o, h_122_221, ye 4 (by decide) (by show (true && decide (dr T < 4)) = true; rw [decide_eq_true hcap]; rfl)]
        exact ⟨G2, rfl, f1.S.tr k2, k3, k4⟩
      · rw [if_neg (by rw [i3_lt (by omega) (by omega)]; exact hcap)]
        obtain ⟨G2, k1, k2, k3⟩ := f_129 (D := d + 5) (x := x) (V := V) (L := L) (by omega) hs rw1
        rw [k1, aV_o, h_122_221, no 4 (by decide) (by show (true && decide (dr T < 4)) = false; rw [decide_eq_false hcap]; rfl)]
        exact ⟨G2, rfl, (f1.tr k2).S, bad G2 k3, fun z => absurd z (by show ¬ (3 : Nat) = 0; omega)⟩
  · have e_sleeper : sm_cv0 (d + 5) 140 342 (RR V) [.ref 2, .ref 4115] (x, G1, L) = oI (i3 0) x G1 L := eN 19 w_sleeper t_sleeper (by rw [hw]; decide)
    rw [e_sleeper, aI_o, if_pos rfl]
    have e_door : sm_cv0 (d + 5) 140 342 (RR V) [.ref 2, .ref 4100] (x, G1, L) = oI (i3 0) x G1 L := eN 4 w_door t_door (by rw [hw]; decide)
    rw [e_door, aI_o, if_pos rfl]
    have e_turns : sm_cv0 (d + 5) 140 342 (RR V) [.ref 2, .ref 4118] (x, G1, L) = oI (i3 0) x G1 L := eN 22 w_turns t_turns (by rw [hw]; decide)
    rw [e_turns, aI_o, if_pos rfl]
    have e_noise : sm_cv0 (d + 5) 140 342 (RR V) [.ref 2, .ref 4111] (x, G1, L) = oI (i3 0) x G1 L := eN 15 w_noise t_noise (by rw [hw]; decide)
    rw [e_noise, aI_o, if_pos rfl]
    have e_twin : sm_cv0 (d + 5) 140 342 (RR V) [.ref 2, .ref 4119] (x, G1, L) = oI (i3 0) x G1 L := eN 23 w_twin t_twin (by rw [hw]; decide)
    rw [e_twin, aI_o, if_pos rfl]
    have e_dreamer : sm_cv0 (d + 5) 140 342 (RR V) [.ref 2, .ref 4101] (x, G1, L) = oI (i3 0) x G1 L := eN 5 w_dreamer t_dreamer (by rw [hw]; decide)
    rw [e_dreamer, aI_o, if_pos rfl]
    obtain ⟨eW, rw1⟩ := eY 11 w_milk t_milk (by decide) hw
    have eW : sm_cv0 (d + 5) 140 342 (RR V) [.ref 2, .ref 4107] (x, G1, L) = oI (i3 1) x G1 L := eW
    rw [eW, aI_o, if_neg (show ¬ i3 1 = i3 0 by decide)]
    rw [hw, kd_milk]
    cases room with
    | false =>
      rw [show bi false = i3 0 from rfl]
      obtain ⟨G2, k1, k2, k3⟩ := f_130 (D := d + 5) (x := x) (V := V) (L := L) (by omega) hs rw1
      rw [k1, aV_o, h_122_221, no 5 (by decide) rfl]
      exact ⟨G2, rfl, (f1.tr k2).S, bad G2 k3, fun z => absurd z (by show ¬ (3 : Nat) = 0; omega)⟩
    | true =>
      rw [show bi true = i3 1 from rfl]
      obtain ⟨G2, k1, k2, k3, k4⟩ := s_130 (D := d + 5) (x := x) (V := V) (L := L) (by omega) hs rw1 q hT hP hc1
      rw [k1, aV_o, h_122_221, ye 5 (by decide) rfl]
      exact ⟨G2, rfl, f1.S.tr k2, k3, k4⟩
  · have e_sleeper : sm_cv0 (d + 5) 140 342 (RR V) [.ref 2, .ref 4115] (x, G1, L) = oI (i3 0) x G1 L := eN 19 w_sleeper t_sleeper (by rw [hw]; decide)
    rw [e_sleeper, aI_o, if_pos rfl]
    have e_door : sm_cv0 (d + 5) 140 342 (RR V) [.ref 2, .ref 4100] (x, G1, L) = oI (i3 0) x G1 L := eN 4 w_door t_door (by rw [hw]; decide)
    rw [e_door, aI_o, if_pos rfl]
    obtain ⟨eW, rw1⟩ := eY 22 w_turns t_turns (by decide) hw
    have eW : sm_cv0 (d + 5) 140 342 (RR V) [.ref 2, .ref 4118] (x, G1, L) = oI (i3 1) x G1 L := eW
    rw [eW, aI_o, if_neg (show ¬ i3 1 = i3 0 by decide)]
    rw [hw, kd_turns]
    cases room with
    | false =>
      rw [show bi false = i3 0 from rfl]
      obtain ⟨G2, k1, k2, k3⟩ := f_125 (D := d + 5) (x := x) (V := V) (L := L) (by omega) hs rw1
      rw [k1, aV_o, h_122_221, no 6 (by decide) rfl]
      exact ⟨G2, rfl, (f1.tr k2).S, bad G2 k3, fun z => absurd z (by show ¬ (3 : Nat) = 0; omega)⟩
    | true =>
      rw [show bi true = i3 1 from rfl]
      obtain ⟨G2, k1, k2, k3, k4⟩ := s_125 (D := d + 5) (x := x) (V := V) (L := L) (by omega) hs rw1 q hT hP hc1
      rw [k1, aV_o, h_122_221, ye 6 (by decide) rfl]
      exact ⟨G2, rfl, f1.S.tr k2, k3, k4⟩
  · have e_sleeper : sm_cv0 (d + 5) 140 342 (RR V) [.ref 2, .ref 4115] (x, G1, L) = oI (i3 0) x G1 L := eN 19 w_sleeper t_sleeper n0
    rw [e_sleeper, aI_o, if_pos rfl]
    have e_door : sm_cv0 (d + 5) 140 342 (RR V) [.ref 2, .ref 4100] (x, G1, L) = oI (i3 0) x G1 L := eN 4 w_door t_door n1
    rw [e_door, aI_o, if_pos rfl]
    have e_turns : sm_cv0 (d + 5) 140 342 (RR V) [.ref 2, .ref 4118] (x, G1, L) = oI (i3 0) x G1 L := eN 22 w_turns t_turns n6
    rw [e_turns, aI_o, if_pos rfl]
    have e_noise : sm_cv0 (d + 5) 140 342 (RR V) [.ref 2, .ref 4111] (x, G1, L) = oI (i3 0) x G1 L := eN 15 w_noise t_noise n2
    rw [e_noise, aI_o, if_pos rfl]
    have e_twin : sm_cv0 (d + 5) 140 342 (RR V) [.ref 2, .ref 4119] (x, G1, L) = oI (i3 0) x G1 L := eN 23 w_twin t_twin n3
    rw [e_twin, aI_o, if_pos rfl]
    have e_dreamer : sm_cv0 (d + 5) 140 342 (RR V) [.ref 2, .ref 4101] (x, G1, L) = oI (i3 0) x G1 L := eN 5 w_dreamer t_dreamer n4
    rw [e_dreamer, aI_o, if_pos rfl]
    have e_milk : sm_cv0 (d + 5) 140 342 (RR V) [.ref 2, .ref 4107] (x, G1, L) = oI (i3 0) x G1 L := eN 11 w_milk t_milk n5
    rw [e_milk, aI_o, if_pos rfl]
    obtain ⟨G2, k1, k2, k3⟩ := s_142 (D := d + 5) (x := x) (V := V) (L := L) (k := 1) (by omega) r1 (by omega) (by omega)
    rw [k1, aV_o, h_122_221, hk]
    have e7 : clK B n room T P c 7 = ((1, c.2.2 + 1, c.2.2), T, P) := if_pos rfl
    rw [e7]
    refine ⟨G2, rfl, (f1.tr k2).S, ?_, fun z => absurd z (by show ¬ (1 : Nat) = 0; omega)⟩
    have e8 : rfS 1 (wdS B n c) = (1, c.2.2 + 1, c.2.2) := by
      unfold rfS wdS
      rw [if_pos q]
      by_cases y : we B n c.2.2 = c.2.2
      · rw [if_pos y, if_neg (by show ¬ (1 : Nat) = 0; omega)]
      · rw [if_neg y, if_pos q]
    rw [e8] at k3
    exact k3
