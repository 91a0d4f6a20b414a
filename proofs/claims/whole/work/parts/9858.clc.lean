/-! a street as it is read: the class -/
def cSr (G : sm_G) (s : Nat) (T P : pT) : Prop := cS G s T ∧ cP G (s + 1) T P 0 ∧ G (s + 1) 10 = i3 0 ∧ ∀ j, sl T ≤ j → j < 8 → G (s + 11) j = m1
def cfS (s : Nat) (X X' : sm_G) : Prop := ∀ r k, ¬ (s ≤ r ∧ r < s + 18) → ¬ (r = 2 ∧ 3 ≤ k ∧ k ≤ 8) → X' r k = X r k
theorem cSr.F {G G' : sm_G} {s : Nat} {T P : pT} (h : cSr G s T P) (hs : pS s) (f : tF G G') : cSr G' s T P := by
  have hsl := pS_lt hs
  obtain ⟨h1, h2, h3, h4⟩ := h
  exact ⟨h1.keep (fun r k q => f r k (by unfold inC at q; omega)), h2.keep (fun r k q1 q2 => f r k (by omega)), by rw [f _ _ (by omega)]; exact h3, fun j j1 j2 => by rw [f _ _ (by omega)]; exact h4 j j1 j2⟩
theorem tF.S {s : Nat} {G G' : sm_G} (f : tF G G') : cfS s G G' := fun r k _ q => f r k q
theorem cfS.tr {s : Nat} {G G1 G2 : sm_G} (h1 : cfS s G G1) (h2 : cfS s G1 G2) : cfS s G G2 := fun r k q w => by rw [h2 r k q w]; exact h1 r k q w
theorem rC.keep {G G' : sm_G} {B : Nat → Nat} {n : Nat} {c : St} (h : rC G B n c) (f : ∀ r k, r = 2 ∨ r = 3 → G' r k = G r k) : rC G' B n c := by
  obtain ⟨h1, h2, h3, h4, h5, h6⟩ := h
  exact ⟨h1.keep (fun r k w => f r k (by omega)), h2, h3, by rw [f _ _ (Or.inl rfl)]; exact h4, by rw [f _ _ (Or.inl rfl)]; exact h5, fun z => by
    obtain ⟨p0, a, a1, a2, a3⟩ := h6 z
    exact ⟨p0, a, a1, by rw [f _ _ (Or.inl rfl)]; exact a2, a3⟩⟩
theorem rW.c0 {G : sm_G} {B : Nat → Nat} {n : Nat} {c : St} (hr : rW G B n c) (q : c.1 = 0) : rC G B n (0, 0, sk B n (we B n c.2.2)) := by
  have h := hr.rd
  unfold wdN at h
  rw [if_pos q] at h
  exact h
/-- stores into other rows -/
theorem up_o {G : sm_G} {s e k j : Nat} {v : Int32} (h : 0 < e) : sm_up G (s + e) k v s j = G s j := sm_up_ne (by omega)
def slS (B : Nat → Nat) (n : Nat) (c : St) : (Nat × Nat × Nat) × St :=
  ((((nuS B n 0 301 c).1, (nuS B n (nuS B n 0 301 c).1 301 (nuS B n 0 301 c).2).1, (nuS B n 0 16 (nuS B n (nuS B n 0 301 c).1 301 (nuS B n 0 301 c).2).2).1)), sgS B n 59 (nuS B n 0 16 (nuS B n (nuS B n 0 301 c).1 301 (nuS B n 0 301 c).2).2).2)
theorem s_123 {D x s : Nat} {V : pV} {G : sm_G} {L : sm_L} {B : Nat → Nat} {n : Nat} {c : St} {T P : pT} (hD0 : 5 ≤ D) (hs : pS s) (hr : rW G B n c) (q : c.1 = 0) (hc : cSr G s T P) (h8 : sl T < 8) : ∃ G', sm_cv0 D 123 342 (RR V) [.ref s, .ref 2, .int (i3 1)] (x, G, L) = oV x G' L ∧ cfS s G G' ∧ rC G' B n (slS B n (0, 0, sk B n (we B n c.2.2))).2 ∧ ((slS B n (0, 0, sk B n (we B n c.2.2))).2.1 = 0 → cSr G' s (tSl T (slS B n (0, 0, sk B n (we B n c.2.2))).1.2.2) (pSl T P (slS B n (0, 0, sk B n (we B n c.2.2))).1.1 (slS B n (0, 0, sk B n (we B n c.2.2))).1.2.1)) := by
  obtain ⟨d, rfl⟩ : ∃ d, D = d + 5 := ⟨D - 5, by omega⟩
  have hsl := pS_lt hs
  have hr0 := hr.c0 q
  rw [m_123 hs, s_141t (by omega) hr, aI_o, if_pos q, if_neg (by decide)]
  generalize (0, 0, sk B n (we B n c.2.2)) = c0 at hr0 ⊢
  obtain ⟨G1, e1, f1, r1, _⟩ := nuC (D := d + 4) (x := x) (V := V) (L := L) 0 301 (by omega) hr0 (by omega) (by omega) rfl mi_300
  have v1 : (nuS B n 0 301 c0).1 < 100000 := by rcases nuS_v (B := B) (n := n) (lo := 0) (h := 301) (c := c0) with z | z <;> omega
  obtain ⟨G2, e2, f2, r2, _⟩ := nuC (D := d + 4) (x := x) (V := V) (L := L) (nuS B n 0 301 c0).1 301 (by omega) r1 v1 (by omega) rfl mi_300
  obtain ⟨G3, e3, f3, r3, _⟩ := nuC (D := d + 4) (x := x) (V := V) (L := L) 0 16 (by omega) r2 (by omega) (by omega) rfl mi_15
  rw [e1, aI_o, e2, aI_o, e3, aI_o, h_123_37 hs]
  unfold slS
  generalize nuS B n 0 301 c0 = q1 at *
  generalize nuS B n q1.1 301 q1.2 = q2 at *
  generalize nuS B n 0 16 q2.2 = q3 at *
  obtain ⟨G4, e4, f4, r4⟩ := s_145 (D := d + 4) (x := x) (V := V) (L := L) (ch := 59) (by omega) r3 (by omega)
  have e5 := s_135b (d := d + 3) (x := x) (V := V) (L := L) r4.2.1 r4.2.2.2.1
  have fF : tF G G4 := ((f1.tr f2).tr f3).tr f4
  rw [e4, aV_o, e5, aI_o]
  by_cases z : (sgS B n 59 q3.2).1 = 0
  · obtain ⟨hc1, hc2, hc3, hc4⟩ := hc.F hs fF
    have e9 := hc1.gsl
    rw [if_pos z, if_pos rfl]
    simp only [up_o (show 0 < 4 by omega), up_o (show 0 < 5 by omega), up_o (show 0 < 10 by omega), e9]
    rw [i3_in (by omega) h8, gd_tt, gd_tt, gd_tt, i3_cl (by omega), i3_add]
    have g : ∀ r k, ¬ ((r = s + 4 ∨ r = s + 5 ∨ r = s + 10) ∧ k = sl T) → ¬ (r = s ∧ k = 9) → sm_up (sm_up (sm_up (sm_up G4 (s + 4) (sl T) (i3 q1.1)) (s + 5) (sl T) (i3 q2.1)) (s + 10) (sl T) (i3 q3.1)) s 9 (i3 (sl T + 1)) r k = G4 r k := fun r k w1 w2 => by
      rw [sm_up_ne (by omega), sm_up_ne (by omega), sm_up_ne (by omega), sm_up_ne (by omega)]
    have g9 : sm_up (sm_up (sm_up (sm_up G4 (s + 4) (sl T) (i3 q1.1)) (s + 5) (sl T) (i3 q2.1)) (s + 10) (sl T) (i3 q3.1)) s 9 (i3 (sl T + 1)) s 9 = i3 (sl T + 1) := sm_up_same _ _ _ _
    have g10 : sm_up (sm_up (sm_up (sm_up G4 (s + 4) (sl T) (i3 q1.1)) (s + 5) (sl T) (i3 q2.1)) (s + 10) (sl T) (i3 q3.1)) s 9 (i3 (sl T + 1)) (s + 10) (sl T) = i3 q3.1 := by rw [sm_up_ne (by omega), sm_up_same]
    have g5 : sm_up (sm_up (sm_up (sm_up G4 (s + 4) (sl T) (i3 q1.1)) (s + 5) (sl T) (i3 q2.1)) (s + 10) (sl T) (i3 q3.1)) s 9 (i3 (sl T + 1)) (s + 5) (sl T) = i3 q2.1 := by rw [sm_up_ne (by omega), sm_up_ne (by omega), sm_up_same]
    have g4 : sm_up (sm_up (sm_up (sm_up G4 (s + 4) (sl T) (i3 q1.1)) (s + 5) (sl T) (i3 q2.1)) (s + 10) (sl T) (i3 q3.1)) s 9 (i3 (sl T + 1)) (s + 4) (sl T) = i3 q1.1 := by rw [sm_up_ne (by omega), sm_up_ne (by omega), sm_up_ne (by omega), sm_up_same]
    generalize sm_up (sm_up (sm_up (sm_up G4 (s + 4) (sl T) (i3 q1.1)) (s + 5) (sl T) (i3 q2.1)) (s + 10) (sl T) (i3 q3.1)) s 9 (i3 (sl T + 1)) = G5 at *
    refine ⟨G5, rfl, fun r k w1 w2 => by rw [g r k (by omega) (by omega)]; exact fF r k w2, r4.keep (fun r k w => g r k (by omega) (by omega)), fun _ => ⟨⟨g9, ?_, ?_, ?_, ?_, ?_, fun k hk => ?_, fun k hk => ?_, fun k hk => ?_, fun k hk => ?_, fun k hk => ?_, fun k hk => ?_, fun k hk => ?_, fun k hk => ?_⟩, ⟨?_, ?_, fun k hk => ?_, fun k hk => ?_, fun k hk => ?_, fun k hk => ?_⟩, ?_, fun j j1 j2 => ?_⟩⟩
    · rw [g _ _ (by omega) (by omega)]; exact hc1.gdn
    · rw [g _ _ (by omega) (by omega)]; exact hc1.gtn
    · rw [g _ _ (by omega) (by omega)]; exact hc1.gdr
    · rw [g _ _ (by omega) (by omega)]; exact hc1.gfo
    · rw [g _ _ (by omega) (by omega)]; exact hc1.gmk
    · have hk : k < sl T + 1 := hk
      show _ = i3 (upn (upn (upn T 0 0 (sl T + 1)) 1 (sl T) q3.1) 2 (sl T) 0 1 k)
      rw [upn_ne (by omega)]
      by_cases w : k = sl T
      · rw [w, upn_same]; exact g10
      · rw [upn_ne (by omega), upn_ne (by omega), g _ _ (by omega) (by omega)]; exact hc1.gwt k (by omega)
    · have hk : k < sl T + 1 := hk
      show _ = mi (upn (upn (upn T 0 0 (sl T + 1)) 1 (sl T) q3.1) 2 (sl T) 0 2 k)
      rw [g _ _ (by omega) (by omega)]
      by_cases w : k = sl T
      · rw [w, upn_same]; exact hc4 (sl T) (Nat.le_refl _) h8
      · rw [upn_ne (by omega), upn_ne (by omega), upn_ne (by omega)]; exact hc1.gtp k (by omega)
    · rw [g _ _ (by omega) (by omega)]; exact hc1.gtw k hk
    · rw [g _ _ (by omega) (by omega)]; exact hc1.gdA k hk
    · rw [g _ _ (by omega) (by omega)]; exact hc1.gdB k hk
    · rw [g _ _ (by omega) (by omega)]; exact hc1.gtu k hk
    · rw [g _ _ (by omega) (by omega)]; exact hc1.gcR k hk
    · rw [g _ _ (by omega) (by omega)]; exact hc1.gcM k hk
    · rw [g _ _ (by omega) (by omega)]; exact hc2.gnn
    · rw [g _ _ (by omega) (by omega)]; exact hc2.gkp
    · rw [g _ _ (by omega) (by omega)]; exact hc2.gnm k hk
    · rw [g _ _ (by omega) (by omega)]; exact hc2.gns k hk
    · have hk : k < sl T + 1 := hk
      show _ = i3 (upn (upn P 3 (sl T) q1.1) 4 (sl T) q2.1 3 k)
      rw [upn_ne (by omega), show s + 1 + 3 = s + 4 by omega]
      by_cases w : k = sl T
      · rw [w, upn_same]; exact g4
      · have := hc2.gfr k (by omega)
        rw [upn_ne (by omega), g _ _ (by omega) (by omega)]; exact this
    · have hk : k < sl T + 1 := hk
      show _ = i3 (upn (upn P 3 (sl T) q1.1) 4 (sl T) q2.1 4 k)
      rw [show s + 1 + 4 = s + 5 by omega]
      by_cases w : k = sl T
      · rw [w, upn_same]; exact g5
      · have := hc2.gun k (by omega)
        rw [upn_ne (by omega), upn_ne (by omega), g _ _ (by omega) (by omega)]; exact this
    · rw [g _ _ (by omega) (by omega)]; exact hc3
    · have j1 : sl T + 1 ≤ j := j1
      rw [g _ _ (by omega) (by omega)]; exact hc4 j (by omega) j2
  · rw [if_neg z, if_neg (by decide)]
    exact ⟨G4, rfl, fF.S, r4, fun w => absurd w z⟩
