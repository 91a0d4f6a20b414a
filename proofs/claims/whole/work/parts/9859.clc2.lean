/-! a street as it is read, the class: doors, turns, noises, twins, dreamers, the milkman -/
theorem pP_s {s : Nat} (h : pS s) : pP (s + 1) := by
  rcases h with rfl | rfl
  · exact Or.inr (Or.inr (Or.inr (Or.inl rfl)))
  · exact Or.inr (Or.inr (Or.inr (Or.inr rfl)))
def mkS (B : Nat → Nat) (n : Nat) (c : St) : Nat × St := ((nuS B n 0 301 c).1, sgS B n 59 (nuS B n 0 301 c).2)
theorem s_130 {D x s : Nat} {V : pV} {G : sm_G} {L : sm_L} {B : Nat → Nat} {n : Nat} {c : St} {T P : pT} (hD0 : 5 ≤ D) (hs : pS s) (hr : rW G B n c) (q : c.1 = 0) (hT : okT T) (hP : okP T P) (hc : cSr G s T P) : ∃ G', sm_cv0 D 130 342 (RR V) [.ref s, .ref 2, .int (i3 1)] (x, G, L) = oV x G' L ∧ cfS s G G' ∧ rC G' B n (mkS B n (0, 0, sk B n (we B n c.2.2))).2 ∧ ((mkS B n (0, 0, sk B n (we B n c.2.2))).2.1 = 0 → cSr G' s (tMi T (mkS B n (0, 0, sk B n (we B n c.2.2))).1) P) := by
  obtain ⟨d, rfl⟩ : ∃ d, D = d + 5 := ⟨D - 5, by omega⟩
  have hsl := pS_lt hs
  have hB := hT.gb
  have hr0 := hr.c0 q
  rw [m_130 hs, s_141t (by omega) hr, aI_o, if_pos q, if_neg (by decide)]
  generalize (0, 0, sk B n (we B n c.2.2)) = c0 at hr0 ⊢
  obtain ⟨G1, e1, f1, r1, _⟩ := nuC (D := d + 4) (x := x) (V := V) (L := L) 0 301 (by omega) hr0 (by omega) (by omega) rfl mi_300
  rw [e1, aI_o]
  unfold mkS
  generalize nuS B n 0 301 c0 = q1 at *
  obtain ⟨G9, e9, f9, r9⟩ := s_145 (D := d + 4) (x := x) (V := V) (L := L) (ch := 59) (by omega) r1 (by omega)
  have e95 := s_135b (d := d + 3) (x := x) (V := V) (L := L) r9.2.1 r9.2.2.2.1
  have fF : tF G G9 := f1.tr f9
  rw [e9, aV_o, e95, aI_o]
  by_cases z : (sgS B n 59 q1.2).1 = 0
  · obtain ⟨hc1, hc2, hc3, hc4⟩ := hc.F hs fF
    rw [if_pos z, if_pos rfl]
    have g : ∀ r k, True → ¬ (r = s ∧ k = 14) → sm_up G9 s 14 (i3 q1.1) r k = G9 r k := fun r k _ w => sm_up_ne (by omega)
    have g14 : sm_up G9 s 14 (i3 q1.1) s 14 = i3 q1.1 := sm_up_same _ _ _ _
    generalize sm_up G9 s 14 (i3 q1.1) = G5 at *
    refine ⟨G5, rfl, fun r k w1 w2 => by rw [g r k trivial (by omega)]; exact fF r k w2, r9.keep (fun r k w => g r k trivial (by omega)), fun _ => ⟨⟨?_, ?_, ?_, ?_, ?_, ?_, fun k hk => ?_, fun k hk => ?_, fun k hk => ?_, fun k hk => ?_, fun k hk => ?_, fun k hk => ?_, fun k hk => ?_, fun k hk => ?_⟩, ⟨?_, ?_, fun k hk => ?_, fun k hk => ?_, fun k hk => ?_, fun k hk => ?_⟩, ?_, fun j j1 j2 => ?_⟩⟩
    · rw [g _ _ trivial (by omega)]; exact hc1.gsl
    · rw [g _ _ trivial (by omega)]; exact hc1.gdn
    · rw [g _ _ trivial (by omega)]; exact hc1.gtn
    · rw [g _ _ trivial (by omega)]; exact hc1.gdr
    · rw [g _ _ trivial (by omega)]; exact hc1.gfo
    · rw [g14]
      exact (mi_succ q1.1).symm
    · rw [g _ _ trivial (by omega)]; exact hc1.gwt k hk
    · rw [g _ _ trivial (by omega)]; exact hc1.gtp k hk
    · rw [g _ _ trivial (by omega)]; exact hc1.gtw k hk
    · rw [g _ _ trivial (by omega)]; exact hc1.gdA k hk
    · rw [g _ _ trivial (by omega)]; exact hc1.gdB k hk
    · rw [g _ _ trivial (by omega)]; exact hc1.gtu k hk
    · rw [g _ _ trivial (by omega)]; exact hc1.gcR k hk
    · rw [g _ _ trivial (by omega)]; exact hc1.gcM k hk
    · rw [g _ _ trivial (by omega)]; exact hc2.gnn
    · rw [g _ _ trivial (by omega)]; exact hc2.gkp
    · rw [g _ _ trivial (by omega)]; exact hc2.gnm k hk
    · rw [g _ _ trivial (by omega)]; exact hc2.gns k hk
    · rw [g _ _ trivial (by omega)]; exact hc2.gfr k hk
    · rw [g _ _ trivial (by omega)]; exact hc2.gun k hk
    · rw [g _ _ trivial (by omega)]; exact hc3
    · rw [g _ _ trivial (by omega)]; exact hc4 j j1 j2
  · rw [if_neg z, if_neg (by decide)]
    exact ⟨G9, rfl, fF.S, r9, fun w => absurd w z⟩
def drS (B : Nat → Nat) (n k : Nat) (c : St) : (Nat × Nat) × St := (((nuS B n 0 k c).1, (nuS B n 0 301 (nuS B n 0 k c).2).1), sgS B n 59 (nuS B n 0 301 (nuS B n 0 k c).2).2)
theorem s_129 {D x s : Nat} {V : pV} {G : sm_G} {L : sm_L} {B : Nat → Nat} {n : Nat} {c : St} {T P : pT} (hD0 : 5 ≤ D) (hs : pS s) (hr : rW G B n c) (q : c.1 = 0) (hT : okT T) (hP : okP T P) (hc : cSr G s T P) (h4 : dr T < 4) : ∃ G', sm_cv0 D 129 342 (RR V) [.ref s, .ref 2, .int (i3 1)] (x, G, L) = oV x G' L ∧ cfS s G G' ∧ rC G' B n (drS B n (sl T) (0, 0, sk B n (we B n c.2.2))).2 ∧ ((drS B n (sl T) (0, 0, sk B n (we B n c.2.2))).2.1 = 0 → cSr G' s (tDr T (drS B n (sl T) (0, 0, sk B n (we B n c.2.2))).1.1 (drS B n (sl T) (0, 0, sk B n (we B n c.2.2))).1.2) P) := by
  obtain ⟨d, rfl⟩ : ∃ d, D = d + 5 := ⟨D - 5, by omega⟩
  have hsl := pS_lt hs
  have hB := hT.gb
  have hr0 := hr.c0 q
  rw [m_129 hs, s_141t (by omega) hr, aI_o, if_pos q, if_neg (by decide)]
  generalize (0, 0, sk B n (we B n c.2.2)) = c0 at hr0 ⊢
  obtain ⟨G1, e1, f1, r1, _⟩ := nuC (D := d + 4) (x := x) (V := V) (L := L) 0 (sl T) (by omega) hr0 (by omega) (by omega) rfl (pre_mi3 (by omega))
  obtain ⟨G2, e2, f2, r2, _⟩ := nuC (D := d + 4) (x := x) (V := V) (L := L) 0 301 (by omega) r1 (by omega) (by omega) rfl mi_300
  rw [hc.1.gsl, e1, aI_o, e2, aI_o]
  unfold drS
  generalize nuS B n 0 (sl T) c0 = q1 at *
  generalize nuS B n 0 301 q1.2 = q2 at *
  obtain ⟨G9, e9, f9, r9⟩ := s_145 (D := d + 4) (x := x) (V := V) (L := L) (ch := 59) (by omega) r2 (by omega)
  have e95 := s_135b (d := d + 3) (x := x) (V := V) (L := L) r9.2.1 r9.2.2.2.1
  have fF : tF G G9 := (f1.tr f2).tr f9
  rw [e9, aV_o, e95, aI_o]
  by_cases z : (sgS B n 59 q2.2).1 = 0
  · obtain ⟨hc1, hc2, hc3, hc4⟩ := hc.F hs fF
    rw [if_pos z, if_pos rfl]
    simp only [up_o (show 0 < 16 by omega), up_o (show 0 < 17 by omega), hc1.gdr]
    rw [i3_in (by omega) h4, gd_tt, gd_tt, i3_cl (by omega), i3_add]
    have g : ∀ r k, ¬ ((r = s + 16 ∨ r = s + 17) ∧ k = dr T) → ¬ (r = s ∧ k = 12) → sm_up (sm_up (sm_up G9 (s + 16) (dr T) (i3 q1.1)) (s + 17) (dr T) (i3 q2.1)) s 12 (i3 (dr T + 1)) r k = G9 r k := fun r k w1 w2 => by rw [sm_up_ne (by omega), sm_up_ne (by omega), sm_up_ne (by omega)]
    have g12 : sm_up (sm_up (sm_up G9 (s + 16) (dr T) (i3 q1.1)) (s + 17) (dr T) (i3 q2.1)) s 12 (i3 (dr T + 1)) s 12 = i3 (dr T + 1) := sm_up_same _ _ _ _
    have g17 : sm_up (sm_up (sm_up G9 (s + 16) (dr T) (i3 q1.1)) (s + 17) (dr T) (i3 q2.1)) s 12 (i3 (dr T + 1)) (s + 17) (dr T) = i3 q2.1 := by rw [sm_up_ne (by omega), sm_up_same]
    have g16 : sm_up (sm_up (sm_up G9 (s + 16) (dr T) (i3 q1.1)) (s + 17) (dr T) (i3 q2.1)) s 12 (i3 (dr T + 1)) (s + 16) (dr T) = i3 q1.1 := by rw [sm_up_ne (by omega), sm_up_ne (by omega), sm_up_same]
    generalize sm_up (sm_up (sm_up G9 (s + 16) (dr T) (i3 q1.1)) (s + 17) (dr T) (i3 q2.1)) s 12 (i3 (dr T + 1)) = G5 at *
    refine ⟨G5, rfl, fun r k w1 w2 => by rw [g r k (by omega) (by omega)]; exact fF r k w2, r9.keep (fun r k w => g r k (by omega) (by omega)), fun _ => ⟨⟨?_, ?_, ?_, ?_, ?_, ?_, fun k hk => ?_, fun k hk => ?_, fun k hk => ?_, fun k hk => ?_, fun k hk => ?_, fun k hk => ?_, fun k hk => ?_, fun k hk => ?_⟩, ⟨?_, ?_, fun k hk => ?_, fun k hk => ?_, fun k hk => ?_, fun k hk => ?_⟩, ?_, fun j j1 j2 => ?_⟩⟩
    · rw [g _ _ (by omega) (by omega)]; exact hc1.gsl
    · rw [g _ _ (by omega) (by omega)]; exact hc1.gdn
    · rw [g _ _ (by omega) (by omega)]; exact hc1.gtn
    · exact g12
    · rw [g _ _ (by omega) (by omega)]; exact hc1.gfo
    · rw [g _ _ (by omega) (by omega)]; exact hc1.gmk
    · rw [g _ _ (by omega) (by omega)]; exact hc1.gwt k hk
    · rw [g _ _ (by omega) (by omega)]; exact hc1.gtp k hk
    · rw [g _ _ (by omega) (by omega)]; exact hc1.gtw k hk
    · rw [g _ _ (by omega) (by omega)]; exact hc1.gdA k hk
    · rw [g _ _ (by omega) (by omega)]; exact hc1.gdB k hk
    · rw [g _ _ (by omega) (by omega)]; exact hc1.gtu k hk
    · have hk : k < dr T + 1 := hk
      show _ = i3 (upn (upn (upn T 0 3 (dr T + 1)) 7 (dr T) q1.1) 8 (dr T) q2.1 7 k)
      rw [upn_ne (by omega)]
      by_cases w : k = dr T
      · rw [w, upn_same]; exact g16
      · rw [upn_ne (by omega), upn_ne (by omega), g _ _ (by omega) (by omega)]; exact hc1.gcR k (by omega)
    · have hk : k < dr T + 1 := hk
      show _ = i3 (upn (upn (upn T 0 3 (dr T + 1)) 7 (dr T) q1.1) 8 (dr T) q2.1 8 k)
      by_cases w : k = dr T
      · rw [w, upn_same]; exact g17
      · rw [upn_ne (by omega), upn_ne (by omega), upn_ne (by omega), g _ _ (by omega) (by omega)]; exact hc1.gcM k (by omega)
    · rw [g _ _ (by omega) (by omega)]; exact hc2.gnn
    · rw [g _ _ (by omega) (by omega)]; exact hc2.gkp
    · rw [g _ _ (by omega) (by omega)]; exact hc2.gnm k hk
    · rw [g _ _ (by omega) (by omega)]; exact hc2.gns k hk
    · rw [g _ _ (by omega) (by omega)]; exact hc2.gfr k hk
    · rw [g _ _ (by omega) (by omega)]; exact hc2.gun k hk
    · rw [g _ _ (by omega) (by omega)]; exact hc3
    · rw [g _ _ (by omega) (by omega)]; exact hc4 j j1 j2
  · rw [if_neg z, if_neg (by decide)]
    exact ⟨G9, rfl, fF.S, r9, fun w => absurd w z⟩
def tuS (B : Nat → Nat) (n k : Nat) (c : St) : (Nat × Nat) × St := (((nuS B n 0 6 c).1, (nuS B n 0 k (nuS B n 0 6 c).2).1), sgS B n 59 (nuS B n 0 k (nuS B n 0 6 c).2).2)
theorem s_125 {D x s : Nat} {V : pV} {G : sm_G} {L : sm_L} {B : Nat → Nat} {n : Nat} {c : St} {T P : pT} (hD0 : 5 ≤ D) (hs : pS s) (hr : rW G B n c) (q : c.1 = 0) (hT : okT T) (hP : okP T P) (hc : cSr G s T P) : ∃ G', sm_cv0 D 125 342 (RR V) [.ref s, .ref 2, .int (i3 1)] (x, G, L) = oV x G' L ∧ cfS s G G' ∧ rC G' B n (tuS B n (dn T) (0, 0, sk B n (we B n c.2.2))).2 ∧ ((tuS B n (dn T) (0, 0, sk B n (we B n c.2.2))).2.1 = 0 → cSr G' s (tTu T (tuS B n (dn T) (0, 0, sk B n (we B n c.2.2))).1.1 (tuS B n (dn T) (0, 0, sk B n (we B n c.2.2))).1.2) P) := by
  obtain ⟨d, rfl⟩ : ∃ d, D = d + 5 := ⟨D - 5, by omega⟩
  have hsl := pS_lt hs
  have hB := hT.gb
  have hr0 := hr.c0 q
  rw [m_125 hs, s_141t (by omega) hr, aI_o, if_pos q, if_neg (by decide)]
  generalize (0, 0, sk B n (we B n c.2.2)) = c0 at hr0 ⊢
  obtain ⟨G1, e1, f1, r1, _⟩ := nuC (D := d + 4) (x := x) (V := V) (L := L) 0 6 (by omega) hr0 (by omega) (by omega) rfl mi_5
  obtain ⟨G2, e2, f2, r2, _⟩ := nuC (D := d + 4) (x := x) (V := V) (L := L) 0 (dn T) (by omega) r1 (by omega) (by omega) rfl (pre_mi3 (by omega))
  have h10 : G1 s 10 = i3 (dn T) := by rw [f1 _ _ (by omega)]; exact hc.1.gdn
  rw [e1, aI_o, h10, e2, aI_o]
  have b1 : (nuS B n 0 6 c0).1 < 6 := by rcases nuS_v (B := B) (n := n) (lo := 0) (h := 6) (c := c0) with z | z <;> omega
  have b2 : (nuS B n 0 (dn T) (nuS B n 0 6 c0).2).1 < 10 := by rcases nuS_v (B := B) (n := n) (lo := 0) (h := dn T) (c := (nuS B n 0 6 c0).2) with z | z <;> omega
  unfold tuS
  generalize nuS B n 0 6 c0 = q1 at *
  generalize nuS B n 0 (dn T) q1.2 = q2 at *
  obtain ⟨G9, e9, f9, r9⟩ := s_145 (D := d + 4) (x := x) (V := V) (L := L) (ch := 59) (by omega) r2 (by omega)
  have e95 := s_135b (d := d + 3) (x := x) (V := V) (L := L) r9.2.1 r9.2.2.2.1
  have fF : tF G G9 := (f1.tr f2).tr f9
  rw [e9, aV_o, e95, aI_o]
  by_cases z : (sgS B n 59 q2.2).1 = 0
  · obtain ⟨hc1, hc2, hc3, hc4⟩ := hc.F hs fF
    rw [if_pos z, if_pos rfl]
    rw [i3_in (by omega) b1, gd_tt, gd_tt, i3_cl (by omega), hc1.gtu _ b1, i3_shl (by omega), i3_or]
    have g : ∀ r k, ¬ (r = s + 15 ∧ k = q1.1) → True → sm_up G9 (s + 15) q1.1 (i3 (tu T q1.1 ||| 1 <<< q2.1)) r k = G9 r k := fun r k w1 _ => sm_up_ne (by omega)
    have g15 : sm_up G9 (s + 15) q1.1 (i3 (tu T q1.1 ||| 1 <<< q2.1)) (s + 15) q1.1 = i3 (tu T q1.1 ||| 1 <<< q2.1) := sm_up_same _ _ _ _
    generalize sm_up G9 (s + 15) q1.1 (i3 (tu T q1.1 ||| 1 <<< q2.1)) = G5 at *
    refine ⟨G5, rfl, fun r k w1 w2 => by rw [g r k (by omega) trivial]; exact fF r k w2, r9.keep (fun r k w => g r k (by omega) trivial), fun _ => ⟨⟨?_, ?_, ?_, ?_, ?_, ?_, fun k hk => ?_, fun k hk => ?_, fun k hk => ?_, fun k hk => ?_, fun k hk => ?_, fun k hk => ?_, fun k hk => ?_, fun k hk => ?_⟩, ⟨?_, ?_, fun k hk => ?_, fun k hk => ?_, fun k hk => ?_, fun k hk => ?_⟩, ?_, fun j j1 j2 => ?_⟩⟩
    · rw [g _ _ (by omega) trivial]; exact hc1.gsl
    · rw [g _ _ (by omega) trivial]; exact hc1.gdn
    · rw [g _ _ (by omega) trivial]; exact hc1.gtn
    · rw [g _ _ (by omega) trivial]; exact hc1.gdr
    · rw [g _ _ (by omega) trivial]; exact hc1.gfo
    · rw [g _ _ (by omega) trivial]; exact hc1.gmk
    · rw [g _ _ (by omega) trivial]; exact hc1.gwt k hk
    · rw [g _ _ (by omega) trivial]; exact hc1.gtp k hk
    · rw [g _ _ (by omega) trivial]; exact hc1.gtw k hk
    · rw [g _ _ (by omega) trivial]; exact hc1.gdA k hk
    · rw [g _ _ (by omega) trivial]; exact hc1.gdB k hk
    · show _ = i3 (upn T 6 q1.1 (tu T q1.1 ||| 1 <<< q2.1) 6 k)
      by_cases w : k = q1.1
      · rw [w, upn_same]; exact g15
      · rw [upn_ne (by omega), g _ _ (by omega) trivial]; exact hc1.gtu k hk
    · rw [g _ _ (by omega) trivial]; exact hc1.gcR k hk
    · rw [g _ _ (by omega) trivial]; exact hc1.gcM k hk
    · rw [g _ _ (by omega) trivial]; exact hc2.gnn
    · rw [g _ _ (by omega) trivial]; exact hc2.gkp
    · rw [g _ _ (by omega) trivial]; exact hc2.gnm k hk
    · rw [g _ _ (by omega) trivial]; exact hc2.gns k hk
    · rw [g _ _ (by omega) trivial]; exact hc2.gfr k hk
    · rw [g _ _ (by omega) trivial]; exact hc2.gun k hk
    · rw [g _ _ (by omega) trivial]; exact hc3
    · rw [g _ _ (by omega) trivial]; exact hc4 j j1 j2
  · rw [if_neg z, if_neg (by decide)]
    exact ⟨G9, rfl, fF.S, r9, fun w => absurd w z⟩
def noS (B : Nat → Nat) (n : Nat) (c : St) : (Nat × Nat) × St := (((nuS B n 0 301 c).1, (nuS B n 0 6 (nuS B n 0 301 c).2).1), sgS B n 59 (nuS B n 0 6 (nuS B n 0 301 c).2).2)
theorem s_126 {D x s : Nat} {V : pV} {G : sm_G} {L : sm_L} {B : Nat → Nat} {n : Nat} {c : St} {T P : pT} (hD0 : 5 ≤ D) (hs : pS s) (hr : rW G B n c) (q : c.1 = 0) (hT : okT T) (hP : okP T P) (hc : cSr G s T P) (h12 : nn P < 12) : ∃ G', sm_cv0 D 126 342 (RR V) [.ref s, .ref 2, .int (i3 1)] (x, G, L) = oV x G' L ∧ cfS s G G' ∧ rC G' B n (noS B n (0, 0, sk B n (we B n c.2.2))).2 ∧ ((noS B n (0, 0, sk B n (we B n c.2.2))).2.1 = 0 → cSr G' s T (pNo P (noS B n (0, 0, sk B n (we B n c.2.2))).1.1 (noS B n (0, 0, sk B n (we B n c.2.2))).1.2)) := by
  obtain ⟨d, rfl⟩ : ∃ d, D = d + 5 := ⟨D - 5, by omega⟩
  have hsl := pS_lt hs
  have hB := hT.gb
  have hr0 := hr.c0 q
  rw [m_126 hs, s_141t (by omega) hr, aI_o, if_pos q, if_neg (by decide)]
  generalize (0, 0, sk B n (we B n c.2.2)) = c0 at hr0 ⊢
  obtain ⟨G1, e1, f1, r1, _⟩ := nuC (D := d + 4) (x := x) (V := V) (L := L) 0 301 (by omega) hr0 (by omega) (by omega) rfl mi_300
  obtain ⟨G2, e2, f2, r2, _⟩ := nuC (D := d + 4) (x := x) (V := V) (L := L) 0 6 (by omega) r1 (by omega) (by omega) rfl mi_5
  rw [e1, aI_o, e2, aI_o]
  unfold noS
  generalize nuS B n 0 301 c0 = q1 at *
  generalize nuS B n 0 6 q1.2 = q2 at *
  obtain ⟨G9, e9, f9, r9⟩ := s_145 (D := d + 4) (x := x) (V := V) (L := L) (ch := 59) (by omega) r2 (by omega)
  have e95 := s_135b (d := d + 3) (x := x) (V := V) (L := L) r9.2.1 r9.2.2.2.1
  have fF : tF G G9 := (f1.tr f2).tr f9
  rw [e9, aV_o, e95, aI_o]
  by_cases z : (sgS B n 59 q2.2).1 = 0
  · obtain ⟨hc1, hc2, hc3, hc4⟩ := hc.F hs fF
    rw [if_pos z, if_pos rfl]
    obtain ⟨G5, k1, k2, k3, k4, k5, k6, _⟩ := s_107 (d := d + 3) (x := x) (V := V) (L := L) (G := G9) (p := s + 1) (n := nn P) (q := nn P) (a := i3 q1.1) (b := i3 q2.1) (pP_s hs) hc2.gnn h12 (Nat.le_refl _)
    have k1' : sm_cv0 (d + 4) 107 342 (RR V) [.ref (s + 1), .int (i3 (nn P)), .int (i3 q1.1), .int (i3 q2.1)] (x, G9, L) = oV x G5 L := k1
    rw [hc2.gnn, k1', aV_o]
    have g : ∀ r k, ¬ (r = s + 1 + 1 ∨ r = s + 1 + 2) → ¬ (r = s + 1 ∧ k = 8) → G5 r k = G9 r k := fun r k w1 w2 => k2 r k (by omega) (by omega) w2
    refine ⟨G5, rfl, fun r k w1 w2 => by rw [g r k (by omega) (by omega)]; exact fF r k w2, r9.keep (fun r k w => g r k (by omega) (by omega)), fun _ => ⟨⟨?_, ?_, ?_, ?_, ?_, ?_, fun k hk => ?_, fun k hk => ?_, fun k hk => ?_, fun k hk => ?_, fun k hk => ?_, fun k hk => ?_, fun k hk => ?_, fun k hk => ?_⟩, ⟨?_, ?_, fun k hk => ?_, fun k hk => ?_, fun k hk => ?_, fun k hk => ?_⟩, ?_, fun j j1 j2 => ?_⟩⟩
    · rw [g _ _ (by omega) (by omega)]; exact hc1.gsl
    · rw [g _ _ (by omega) (by omega)]; exact hc1.gdn
    · rw [g _ _ (by omega) (by omega)]; exact hc1.gtn
    · rw [g _ _ (by omega) (by omega)]; exact hc1.gdr
    · rw [g _ _ (by omega) (by omega)]; exact hc1.gfo
    · rw [g _ _ (by omega) (by omega)]; exact hc1.gmk
    · rw [g _ _ (by omega) (by omega)]; exact hc1.gwt k hk
    · rw [g _ _ (by omega) (by omega)]; exact hc1.gtp k hk
    · rw [g _ _ (by omega) (by omega)]; exact hc1.gtw k hk
    · rw [g _ _ (by omega) (by omega)]; exact hc1.gdA k hk
    · rw [g _ _ (by omega) (by omega)]; exact hc1.gdB k hk
    · rw [g _ _ (by omega) (by omega)]; exact hc1.gtu k hk
    · rw [g _ _ (by omega) (by omega)]; exact hc1.gcR k hk
    · rw [g _ _ (by omega) (by omega)]; exact hc1.gcM k hk
    · exact k3
    · rw [g _ _ (by omega) (by omega)]; exact hc2.gkp
    · have hk : k < nn P + 1 := hk
      show _ = i3 (upn (upn (upn P 0 0 (nn P + 1)) 1 (nn P) q1.1) 2 (nn P) q2.1 1 k)
      rw [upn_ne (by omega)]
      by_cases w : k = nn P
      · rw [w, upn_same]; exact k5
      · rw [upn_ne (by omega), upn_ne (by omega), (k4 k (by omega)).1]; exact hc2.gnm k (by omega)
    · have hk : k < nn P + 1 := hk
      show _ = i3 (upn (upn (upn P 0 0 (nn P + 1)) 1 (nn P) q1.1) 2 (nn P) q2.1 2 k)
      by_cases w : k = nn P
      · rw [w, upn_same]; exact k6
      · rw [upn_ne (by omega), upn_ne (by omega), upn_ne (by omega), (k4 k (by omega)).2]; exact hc2.gns k (by omega)
    · rw [g _ _ (by omega) (by omega)]; exact hc2.gfr k hk
    · rw [g _ _ (by omega) (by omega)]; exact hc2.gun k hk
    · rw [g _ _ (by omega) (by omega)]; exact hc3
    · rw [g _ _ (by omega) (by omega)]; exact hc4 j j1 j2
  · rw [if_neg z, if_neg (by decide)]
    exact ⟨G9, rfl, fF.S, r9, fun w => absurd w z⟩
