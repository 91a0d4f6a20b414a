/-! a street as it is read, the class: doors and twins -/
theorem rgS_2 {b1 b2 : Bool} {c : St} {q : Nat × St} {v : Nat} : rgS b2 c (v, rgS b1 c q) = rgS (b1 || b2) c q := by
  show (if (rgS b1 c q).1 = 0 ∧ b2 = true then (2, c.2.2 + 1, (rgS b1 c q).2.2) else rgS b1 c q) = rgS (b1 || b2) c q
  by_cases z : q.2.1 = 0 ∧ b1 = true
  · have e : rgS b1 c q = (2, c.2.2 + 1, q.2.2.2) := if_pos z
    rw [e, if_neg (fun w => absurd w.1 (by show ¬ (2 : Nat) = 0; omega))]
    unfold rgS
    rw [if_pos ⟨z.1, by rw [z.2]; rfl⟩]
  · have e : rgS b1 c q = q.2 := if_neg z
    rw [e]
    unfold rgS
    by_cases y : q.2.1 = 0 ∧ b2 = true
    · rw [if_pos y, if_pos ⟨y.1, by rw [y.2, Bool.or_true]⟩]
    · rw [if_neg y, if_neg (fun u => by
        cases h1 : b1 with
        | true => exact z ⟨u.1, h1⟩
        | false =>
          have := u.2
          rw [h1, Bool.false_or] at this
          exact y ⟨u.1, this⟩)]
theorem rgS_ok {b : Bool} {c : St} {q : Nat × St} (z : (rgS b c q).1 = 0) : q.2.1 = 0 ∧ b = false ∧ rgS b c q = q.2 := by
  unfold rgS at z ⊢
  by_cases w : q.2.1 = 0 ∧ b = true
  · rw [if_pos w] at z
    exact absurd z (by show ¬ (2 : Nat) = 0; omega)
  · rw [if_neg w] at z ⊢
    refine ⟨z, ?_, rfl⟩
    cases b with
    | false => rfl
    | true => exact absurd ⟨z, rfl⟩ w
theorem sgS_ok {B : Nat → Nat} {n ch : Nat} {c : St} (z : (sgS B n ch c).1 = 0) : c.1 = 0 ∧ c.2.2 < n ∧ B c.2.2 = ch ∧ sgS B n ch c = (0, 0, sk B n (c.2.2 + 1)) := by
  unfold sgS at z ⊢
  by_cases q : c.1 = 0
  · rw [if_pos q] at z ⊢
    by_cases y : c.2.2 < n ∧ B c.2.2 = ch
    · rw [if_pos y]
      exact ⟨q, y.1, y.2, rfl⟩
    · rw [if_neg y] at z
      exact absurd z (by show ¬ (1 : Nat) = 0; omega)
  · rw [if_neg q] at z
    exact absurd z q
def doS (B : Nat → Nat) (n k : Nat) (c : St) : (Nat × Nat × Nat) × St := (((nuS B n 0 k c).1, (nuS B n 0 k (nuS B n 0 k c).2).1, (nuS B n 0 2 (rgS (decide ((nuS B n 0 k c).1 = (nuS B n 0 k (nuS B n 0 k c).2).1)) (nuS B n 0 k c).2 (nuS B n 0 k (nuS B n 0 k c).2))).1), sgS B n 59 (nuS B n 0 2 (rgS (decide ((nuS B n 0 k c).1 = (nuS B n 0 k (nuS B n 0 k c).2).1)) (nuS B n 0 k c).2 (nuS B n 0 k (nuS B n 0 k c).2))).2)
theorem s_124 {D x s : Nat} {V : pV} {G : sm_G} {L : sm_L} {B : Nat → Nat} {n : Nat} {c : St} {T P : pT} (hD0 : 5 ≤ D) (hs : pS s) (hr : rW G B n c) (q : c.1 = 0) (hT : okT T) (hP : okP T P) (hc : cSr G s T P) (h10 : dn T < 10) : ∃ G', sm_cv0 D 124 342 (RR V) [.ref s, .ref 2, .int (i3 1)] (x, G, L) = oV x G' L ∧ cfS s G G' ∧ rC G' B n (doS B n (sl T) (0, 0, sk B n (we B n c.2.2))).2 ∧ ((doS B n (sl T) (0, 0, sk B n (we B n c.2.2))).2.1 = 0 → cSr G' s (tDo T (doS B n (sl T) (0, 0, sk B n (we B n c.2.2))).1.1 (doS B n (sl T) (0, 0, sk B n (we B n c.2.2))).1.2.1 (doS B n (sl T) (0, 0, sk B n (we B n c.2.2))).1.2.2) P) := by
  obtain ⟨d, rfl⟩ : ∃ d, D = d + 5 := ⟨D - 5, by omega⟩
  have hsl := pS_lt hs
  have hB := hT.gb
  have hr0 := hr.c0 q
  rw [m_124 hs, s_141t (by omega) hr, aI_o, if_pos q, if_neg (by decide)]
  generalize (0, 0, sk B n (we B n c.2.2)) = c0 at hr0 ⊢
  obtain ⟨G1, e1, f1, r1, _⟩ := nuC (D := d + 4) (x := x) (V := V) (L := L) 0 (sl T) (by omega) hr0 (by omega) (by omega) rfl (pre_mi3 (by omega))
  obtain ⟨G2, e2, f2, r2, g26⟩ := nuC (D := d + 4) (x := x) (V := V) (L := L) 0 (sl T) (by omega) r1 (by omega) (by omega) rfl (pre_mi3 (by omega))
  have h9 : G1 s 9 = i3 (sl T) := by rw [f1 _ _ (by omega)]; exact hc.1.gsl
  rw [hc.1.gsl, e1, aI_o, h9, e2, aI_o]
  have b1 : (nuS B n 0 (sl T) c0).1 < 9 := by rcases nuS_v (B := B) (n := n) (lo := 0) (h := sl T) (c := c0) with z | z <;> omega
  have b2 : (nuS B n 0 (sl T) (nuS B n 0 (sl T) c0).2).1 < 9 := by rcases nuS_v (B := B) (n := n) (lo := 0) (h := sl T) (c := (nuS B n 0 (sl T) c0).2) with z | z <;> omega
  have b6 : (nuS B n 0 (sl T) (nuS B n 0 (sl T) c0).2).2.1 = 0 → G2 2 6 = i3 (nuS B n 0 (sl T) c0).2.2.2 ∧ (nuS B n 0 (sl T) c0).2.2.2 ≤ n := fun z => g26 (nuS_ok z).1
  unfold doS
  generalize nuS B n 0 (sl T) c0 = q1 at *
  generalize nuS B n 0 (sl T) q1.2 = q2 at *
  have hmid : ∃ G3, (if i3 q1.1 = i3 q2.1 then sm_aV (sm_cv0 (d + 4) 144 342 (RR V) [.ref 2] (x, G2, L)) (fun x4 G4 L4 => hD (d + 4) 124 44 [.ref s, .ref 2, .null, .int (i3 q1.1), .int (i3 q2.1), .null] 342 (RR V) x4 G4 L4) oX else hD (d + 4) 124 44 [.ref s, .ref 2, .null, .int (i3 q1.1), .int (i3 q2.1), .null] 342 (RR V) x G2 L) = hD (d + 4) 124 44 [.ref s, .ref 2, .null, .int (i3 q1.1), .int (i3 q2.1), .null] 342 (RR V) x G3 L ∧ tF G2 G3 ∧ rC G3 B n (rgS (decide (q1.1 = q2.1)) q1.2 q2) := by
    by_cases w : q1.1 = q2.1
    · obtain ⟨G3, k1, k2, k3, _⟩ := s_144r (D := d + 4) (x := x) (V := V) (L := L) (c := q1.2) (by omega) r2 b6
      rw [if_pos (by rw [w]), k1, aV_o, decide_eq_true w]
      exact ⟨G3, rfl, k2, k3⟩
    · rw [if_neg (by rw [i3_eq (by omega) (by omega)]; exact w), decide_eq_false w, rgS_f]
      exact ⟨G2, rfl, tF_o, r2⟩
  obtain ⟨G3, e3, f3, r3⟩ := hmid
  obtain ⟨G4, e4, f4, r4, _⟩ := nuC (D := d + 4) (x := x) (V := V) (L := L) 0 2 (by omega) r3 (by omega) (by omega) rfl mi_1
  have b4 : (nuS B n 0 2 (rgS (decide (q1.1 = q2.1)) q1.2 q2)).1 < 2 := by rcases nuS_v (B := B) (n := n) (lo := 0) (h := 2) (c := rgS (decide (q1.1 = q2.1)) q1.2 q2) with z | z <;> omega
  rw [e3, h_124_44 hs, e4, aI_o]
  generalize nuS B n 0 2 (rgS (decide (q1.1 = q2.1)) q1.2 q2) = q4 at *
  obtain ⟨G9, e9, f9, r9⟩ := s_145 (D := d + 4) (x := x) (V := V) (L := L) (ch := 59) (by omega) r4 (by omega)
  have e95 := s_135b (d := d + 3) (x := x) (V := V) (L := L) r9.2.1 r9.2.2.2.1
  have fF : tF G G9 := (((f1.tr f2).tr f3).tr f4).tr f9
  rw [e9, aV_o, e95, aI_o]
  by_cases z : (sgS B n 59 q4.2).1 = 0
  · obtain ⟨hc1, hc2, hc3, hc4⟩ := hc.F hs fF
    rw [if_pos z, if_pos rfl]
    have u13 : ∀ (Y : sm_G) (v : Int32) (j : Nat), j ≠ 13 → sm_up Y s 13 v s j = Y s j := fun Y v j h => sm_up_ne (by omega)
    simp only [u13 _ _ 10 (by omega), up_o (show 0 < 13 by omega), up_o (show 0 < 14 by omega), hc1.gdn, hc1.gfo]
    rw [i3_in (by omega) h10, gd_tt, gd_tt, i3_cl (by omega), i3_shl (by omega), i3_or, i3_add]
    have g : ∀ r k, ¬ ((r = s + 13 ∨ r = s + 14) ∧ k = dn T) → ¬ (r = s ∧ (k = 10 ∨ k = 13)) → sm_up (sm_up (sm_up (sm_up G9 (s + 13) (dn T) (i3 q1.1)) (s + 14) (dn T) (i3 q2.1)) s 13 (i3 (fo T ||| q4.1 <<< dn T))) s 10 (i3 (dn T + 1)) r k = G9 r k := fun r k w1 w2 => by rw [sm_up_ne (by omega), sm_up_ne (by omega), sm_up_ne (by omega), sm_up_ne (by omega)]
    have g10 : sm_up (sm_up (sm_up (sm_up G9 (s + 13) (dn T) (i3 q1.1)) (s + 14) (dn T) (i3 q2.1)) s 13 (i3 (fo T ||| q4.1 <<< dn T))) s 10 (i3 (dn T + 1)) s 10 = i3 (dn T + 1) := sm_up_same _ _ _ _
    have g13 : sm_up (sm_up (sm_up (sm_up G9 (s + 13) (dn T) (i3 q1.1)) (s + 14) (dn T) (i3 q2.1)) s 13 (i3 (fo T ||| q4.1 <<< dn T))) s 10 (i3 (dn T + 1)) s 13 = i3 (fo T ||| q4.1 <<< dn T) := by rw [sm_up_ne (by omega), sm_up_same]
    have gB : sm_up (sm_up (sm_up (sm_up G9 (s + 13) (dn T) (i3 q1.1)) (s + 14) (dn T) (i3 q2.1)) s 13 (i3 (fo T ||| q4.1 <<< dn T))) s 10 (i3 (dn T + 1)) (s + 14) (dn T) = i3 q2.1 := by rw [sm_up_ne (by omega), sm_up_ne (by omega), sm_up_same]
    have gA : sm_up (sm_up (sm_up (sm_up G9 (s + 13) (dn T) (i3 q1.1)) (s + 14) (dn T) (i3 q2.1)) s 13 (i3 (fo T ||| q4.1 <<< dn T))) s 10 (i3 (dn T + 1)) (s + 13) (dn T) = i3 q1.1 := by rw [sm_up_ne (by omega), sm_up_ne (by omega), sm_up_ne (by omega), sm_up_same]
    generalize sm_up (sm_up (sm_up (sm_up G9 (s + 13) (dn T) (i3 q1.1)) (s + 14) (dn T) (i3 q2.1)) s 13 (i3 (fo T ||| q4.1 <<< dn T))) s 10 (i3 (dn T + 1)) = G5 at *
    refine ⟨G5, rfl, fun r k w1 w2 => by rw [g r k (by omega) (by omega)]; exact fF r k w2, r9.keep (fun r k w => g r k (by omega) (by omega)), fun _ => ⟨⟨?_, ?_, ?_, ?_, ?_, ?_, fun k hk => ?_, fun k hk => ?_, fun k hk => ?_, fun k hk => ?_, fun k hk => ?_, fun k hk => ?_, fun k hk => ?_, fun k hk => ?_⟩, ⟨?_, ?_, fun k hk => ?_, fun k hk => ?_, fun k hk => ?_, fun k hk => ?_⟩, ?_, fun j j1 j2 => ?_⟩⟩
    · rw [g _ _ (by omega) (by omega)]; exact hc1.gsl
    · exact g10
    · rw [g _ _ (by omega) (by omega)]; exact hc1.gtn
    · rw [g _ _ (by omega) (by omega)]; exact hc1.gdr
    · rw [g13]
      congr 1
      show _ = bs (fun d => decide (upn (upn (upn (upn T 0 1 (dn T + 1)) 3 (dn T) q1.1) 4 (dn T) q2.1) 5 (dn T) q4.1 5 d = 1)) (dn T) ||| (if decide (upn (upn (upn (upn T 0 1 (dn T + 1)) 3 (dn T) q1.1) 4 (dn T) q2.1) 5 (dn T) q4.1 5 (dn T) = 1) = true then 1 <<< dn T else 0)
      rw [upn_same]
      have e1 : bs (fun d => decide (upn (upn (upn (upn T 0 1 (dn T + 1)) 3 (dn T) q1.1) 4 (dn T) q2.1) 5 (dn T) q4.1 5 d = 1)) (dn T) = fo T := bs_congr (fun d hd => by
        rw [upn_ne (by omega), upn_ne (by omega), upn_ne (by omega), upn_ne (by omega)])
      rw [e1]
      congr 1
      by_cases w : q4.1 = 1
      · rw [w, decide_eq_true rfl, if_pos rfl]
      · rw [decide_eq_false w, if_neg (by decide), show q4.1 = 0 by omega, Nat.zero_shiftLeft]
    · rw [g _ _ (by omega) (by omega)]; exact hc1.gmk
    · rw [g _ _ (by omega) (by omega)]; exact hc1.gwt k hk
    · rw [g _ _ (by omega) (by omega)]; exact hc1.gtp k hk
    · rw [g _ _ (by omega) (by omega)]; exact hc1.gtw k hk
    · have hk : k < dn T + 1 := hk
      show _ = i3 (upn (upn (upn (upn T 0 1 (dn T + 1)) 3 (dn T) q1.1) 4 (dn T) q2.1) 5 (dn T) q4.1 3 k)
      rw [upn_ne (by omega), upn_ne (by omega)]
      by_cases w : k = dn T
      · rw [w, upn_same]; exact gA
      · rw [upn_ne (by omega), upn_ne (by omega), g _ _ (by omega) (by omega)]; exact hc1.gdA k (by omega)
    · have hk : k < dn T + 1 := hk
      show _ = i3 (upn (upn (upn (upn T 0 1 (dn T + 1)) 3 (dn T) q1.1) 4 (dn T) q2.1) 5 (dn T) q4.1 4 k)
      rw [upn_ne (by omega)]
      by_cases w : k = dn T
      · rw [w, upn_same]; exact gB
      · rw [upn_ne (by omega), upn_ne (by omega), upn_ne (by omega), g _ _ (by omega) (by omega)]; exact hc1.gdB k (by omega)
    · rw [g _ _ (by omega) (by omega)]; exact hc1.gtu k hk
    · rw [g _ _ (by omega) (by omega)]; exact hc1.gcR k hk
    · rw [g _ _ (by omega) (by omega)]; exact hc1.gcM k hk
    · rw [g _ _ (by omega) (by omega)]; exact hc2.gnn
    · rw [g _ _ (by omega) (by omega)]; exact hc2.gkp
    · rw [g _ _ (by omega) (by omega)]; exact hc2.gnm k hk
    · rw [g _ _ (by omega) (by omega)]; exact hc2.gns k hk
    · rw [g _ _ (by omega) (by omega)]; exact hc2.gfr k hk
    · rw [g _ _ (by omega) (by omega)]; exact hc2.gun k hk
    · rw [g _ _ (by omega) (by omega)]; exact hc3
    · rw [g _ _ (by omega) (by omega)]; exact hc4 j j1 j2
  · rw [if_neg z, if_neg (by decide)]
    exact ⟨G9, rfl, fF.S, r9, fun w => absurd w z⟩
def twS (B : Nat → Nat) (n k : Nat) (tw : Nat → Nat) (c : St) : (Nat × Nat) × St := (((nuS B n 0 k c).1, (nuS B n 0 k (rgS (decide (tw (nuS B n 0 k c).1 ≠ 0)) c (nuS B n 0 k c))).1), sgS B n 59 (rgS (decide (tw (nuS B n 0 k (rgS (decide (tw (nuS B n 0 k c).1 ≠ 0)) c (nuS B n 0 k c))).1 ≠ 0) || decide ((nuS B n 0 k c).1 = (nuS B n 0 k (rgS (decide (tw (nuS B n 0 k c).1 ≠ 0)) c (nuS B n 0 k c))).1)) (rgS (decide (tw (nuS B n 0 k c).1 ≠ 0)) c (nuS B n 0 k c)) (nuS B n 0 k (rgS (decide (tw (nuS B n 0 k c).1 ≠ 0)) c (nuS B n 0 k c)))))
theorem s_127 {D x s : Nat} {V : pV} {G : sm_G} {L : sm_L} {B : Nat → Nat} {n : Nat} {c : St} {T P : pT} (hD0 : 5 ≤ D) (hs : pS s) (hr : rW G B n c) (q : c.1 = 0) (hT : okT T) (hP : okP T P) (hc : cSr G s T P) (h3 : tn T < 3) : ∃ G', sm_cv0 D 127 342 (RR V) [.ref s, .ref 2, .int (i3 1)] (x, G, L) = oV x G' L ∧ cfS s G G' ∧ rC G' B n (twS B n (sl T) (tp T) (0, 0, sk B n (we B n c.2.2))).2 ∧ ((twS B n (sl T) (tp T) (0, 0, sk B n (we B n c.2.2))).2.1 = 0 → cSr G' s (tTw T (twS B n (sl T) (tp T) (0, 0, sk B n (we B n c.2.2))).1.1 (twS B n (sl T) (tp T) (0, 0, sk B n (we B n c.2.2))).1.2) P) := by
  obtain ⟨d, rfl⟩ : ∃ d, D = d + 5 := ⟨D - 5, by omega⟩
  have hsl := pS_lt hs
  have hB := hT.gb
  have hr0 := hr.c0 q
  rw [m_127 hs, s_141t (by omega) hr, aI_o, if_pos q, if_neg (by decide)]
  generalize (0, 0, sk B n (we B n c.2.2)) = c0 at hr0 ⊢
  have htp : ∀ (Y : sm_G), tF G Y → Y s 9 = i3 (sl T) ∧ ∀ j, j < sl T → Y (s + 11) j = mi (tp T j) ∧ tp T j ≤ 8 := fun Y f => ⟨by rw [f _ _ (by omega)]; exact hc.1.gsl, fun j hj => ⟨by rw [f _ _ (by omega)]; exact hc.1.gtp j hj, by have := hT.gtp j hj; omega⟩⟩
  obtain ⟨G1, e1, f1, r1, _⟩ := s_128 (D := d + 4) (x := x) (V := V) (L := L) (by omega) hs hr0 (htp G tF_o).1 hB.1 (htp G tF_o).2
  obtain ⟨G2, e2, f2, r2, g26⟩ := s_128 (D := d + 4) (x := x) (V := V) (L := L) (by omega) hs r1 (htp G1 f1).1 hB.1 (htp G1 f1).2
  rw [e1, aI_o, e2, aI_o]
  have b1 : (nuS B n 0 (sl T) c0).1 < sl T ∨ (nuS B n 0 (sl T) c0).1 = 0 := nuS_v
  have b2 : (nuS B n 0 (sl T) (rgS (decide (tp T (nuS B n 0 (sl T) c0).1 ≠ 0)) c0 (nuS B n 0 (sl T) c0))).1 < sl T ∨ (nuS B n 0 (sl T) (rgS (decide (tp T (nuS B n 0 (sl T) c0).1 ≠ 0)) c0 (nuS B n 0 (sl T) c0))).1 = 0 := nuS_v
  have b6 : (rgS (decide (tp T (nuS B n 0 (sl T) (rgS (decide (tp T (nuS B n 0 (sl T) c0).1 ≠ 0)) c0 (nuS B n 0 (sl T) c0))).1 ≠ 0)) (rgS (decide (tp T (nuS B n 0 (sl T) c0).1 ≠ 0)) c0 (nuS B n 0 (sl T) c0)) (nuS B n 0 (sl T) (rgS (decide (tp T (nuS B n 0 (sl T) c0).1 ≠ 0)) c0 (nuS B n 0 (sl T) c0)))).1 = 0 → G2 2 6 = i3 (rgS (decide (tp T (nuS B n 0 (sl T) c0).1 ≠ 0)) c0 (nuS B n 0 (sl T) c0)).2.2 ∧ (rgS (decide (tp T (nuS B n 0 (sl T) c0).1 ≠ 0)) c0 (nuS B n 0 (sl T) c0)).2.2 ≤ n := fun z => g26 (nuS_ok (rgS_ok z).1).1
  unfold twS
  generalize nuS B n 0 (sl T) c0 = q1 at *
  generalize rgS (decide (tp T q1.1 ≠ 0)) c0 q1 = c1 at *
  generalize nuS B n 0 (sl T) c1 = q2 at *
  have hmid : ∃ G3, (if i3 q1.1 = i3 q2.1 then sm_aV (sm_cv0 (d + 4) 144 342 (RR V) [.ref 2] (x, G2, L)) (fun x4 G4 L4 => hD (d + 4) 127 32 [.ref s, .ref 2, .null, .int (i3 q1.1), .int (i3 q2.1)] 342 (RR V) x4 G4 L4) oX else hD (d + 4) 127 32 [.ref s, .ref 2, .null, .int (i3 q1.1), .int (i3 q2.1)] 342 (RR V) x G2 L) = hD (d + 4) 127 32 [.ref s, .ref 2, .null, .int (i3 q1.1), .int (i3 q2.1)] 342 (RR V) x G3 L ∧ tF G2 G3 ∧ rC G3 B n (rgS (decide (tp T q2.1 ≠ 0) || decide (q1.1 = q2.1)) c1 q2) := by
    by_cases w : q1.1 = q2.1
    · obtain ⟨G3, k1, k2, k3, _⟩ := s_144r (D := d + 4) (x := x) (V := V) (L := L) (c := c1) (q := (0, rgS (decide (tp T q2.1 ≠ 0)) c1 q2)) (by omega) r2 b6
      rw [rgS_2] at k3
      rw [if_pos (by rw [w]), k1, aV_o, decide_eq_true w]
      exact ⟨G3, rfl, k2, k3⟩
    · rw [if_neg (by rw [i3_eq (by omega) (by omega)]; exact w), decide_eq_false w, Bool.or_false]
      exact ⟨G2, rfl, tF_o, r2⟩
  obtain ⟨G3, e3, f3, r3⟩ := hmid
  rw [e3, h_127_32 hs]
  obtain ⟨G9, e9, f9, r9⟩ := s_145 (D := d + 4) (x := x) (V := V) (L := L) (ch := 59) (by omega) r3 (by omega)
  have e95 := s_135b (d := d + 3) (x := x) (V := V) (L := L) r9.2.1 r9.2.2.2.1
  have fF : tF G G9 := ((f1.tr f2).tr f3).tr f9
  rw [e9, aV_o, e95, aI_o]
  by_cases z : (sgS B n 59 (rgS (decide (tp T q2.1 ≠ 0) || decide (q1.1 = q2.1)) c1 q2)).1 = 0
  · obtain ⟨hc1, hc2, hc3, hc4⟩ := hc.F hs fF
    rw [if_pos z, if_pos rfl]
    simp only [up_o (show 0 < 11 by omega), up_o (show 0 < 12 by omega), hc1.gtn]
    rw [i3_in (by omega) (show q1.1 < 8 by omega), gd_tt, i3_in (by omega) (show q2.1 < 8 by omega), gd_tt, i3_in (by omega) h3, gd_tt, i3_cl (by omega), i3_cl (by omega), i3_cl (by omega), i3_shl (by omega), i3_shl (by omega), i3_or, i3_add]
    have g : ∀ r k, ¬ ((r = s + 11 ∧ (k = q1.1 ∨ k = q2.1)) ∨ (r = s + 12 ∧ k = tn T)) → ¬ (r = s ∧ k = 11) → sm_up (sm_up (sm_up (sm_up G9 (s + 11) q1.1 (i3 q2.1)) (s + 11) q2.1 (i3 q1.1)) (s + 12) (tn T) (i3 (1 <<< q1.1 ||| 1 <<< q2.1))) s 11 (i3 (tn T + 1)) r k = G9 r k := fun r k w1 w2 => by rw [sm_up_ne (by omega), sm_up_ne (by omega), sm_up_ne (by omega), sm_up_ne (by omega)]
    have g11 : sm_up (sm_up (sm_up (sm_up G9 (s + 11) q1.1 (i3 q2.1)) (s + 11) q2.1 (i3 q1.1)) (s + 12) (tn T) (i3 (1 <<< q1.1 ||| 1 <<< q2.1))) s 11 (i3 (tn T + 1)) s 11 = i3 (tn T + 1) := sm_up_same _ _ _ _
    have g12 : sm_up (sm_up (sm_up (sm_up G9 (s + 11) q1.1 (i3 q2.1)) (s + 11) q2.1 (i3 q1.1)) (s + 12) (tn T) (i3 (1 <<< q1.1 ||| 1 <<< q2.1))) s 11 (i3 (tn T + 1)) (s + 12) (tn T) = i3 (1 <<< q1.1 ||| 1 <<< q2.1) := by rw [sm_up_ne (by omega), sm_up_same]
    have gB : sm_up (sm_up (sm_up (sm_up G9 (s + 11) q1.1 (i3 q2.1)) (s + 11) q2.1 (i3 q1.1)) (s + 12) (tn T) (i3 (1 <<< q1.1 ||| 1 <<< q2.1))) s 11 (i3 (tn T + 1)) (s + 11) q2.1 = i3 q1.1 := by rw [sm_up_ne (by omega), sm_up_ne (by omega), sm_up_same]
    have gA : q1.1 ≠ q2.1 → sm_up (sm_up (sm_up (sm_up G9 (s + 11) q1.1 (i3 q2.1)) (s + 11) q2.1 (i3 q1.1)) (s + 12) (tn T) (i3 (1 <<< q1.1 ||| 1 <<< q2.1))) s 11 (i3 (tn T + 1)) (s + 11) q1.1 = i3 q2.1 := fun w => by rw [sm_up_ne (by omega), sm_up_ne (by omega), sm_up_ne (by omega), sm_up_same]
    generalize sm_up (sm_up (sm_up (sm_up G9 (s + 11) q1.1 (i3 q2.1)) (s + 11) q2.1 (i3 q1.1)) (s + 12) (tn T) (i3 (1 <<< q1.1 ||| 1 <<< q2.1))) s 11 (i3 (tn T + 1)) = G5 at *
    obtain ⟨hq2, hb, _⟩ := rgS_ok (sgS_ok z).1
    have hne : q1.1 ≠ q2.1 := fun w => by
      rw [decide_eq_true w, Bool.or_true] at hb
      cases hb
    have bl : q1.1 < sl T ∧ q2.1 < sl T := by
      rcases b1 with w | w <;> rcases b2 with y | y <;> omega
    refine ⟨G5, rfl, fun r k w1 w2 => by rw [g r k (by omega) (by omega)]; exact fF r k w2, r9.keep (fun r k w => g r k (by omega) (by omega)), fun _ => ⟨⟨?_, ?_, ?_, ?_, ?_, ?_, fun k hk => ?_, fun k hk => ?_, fun k hk => ?_, fun k hk => ?_, fun k hk => ?_, fun k hk => ?_, fun k hk => ?_, fun k hk => ?_⟩, ⟨?_, ?_, fun k hk => ?_, fun k hk => ?_, fun k hk => ?_, fun k hk => ?_⟩, ?_, fun j j1 j2 => ?_⟩⟩
    · rw [g _ _ (by omega) (by omega)]; exact hc1.gsl
    · rw [g _ _ (by omega) (by omega)]; exact hc1.gdn
    · exact g11
    · rw [g _ _ (by omega) (by omega)]; exact hc1.gdr
    · rw [g _ _ (by omega) (by omega)]; exact hc1.gfo
    · rw [g _ _ (by omega) (by omega)]; exact hc1.gmk
    · rw [g _ _ (by omega) (by omega)]; exact hc1.gwt k hk
    · show _ = mi (upn (upn (upn (upn (upn T 0 2 (tn T + 1)) 2 q1.1 (q2.1 + 1)) 2 q2.1 (q1.1 + 1)) 9 (tn T) q1.1) 10 (tn T) q2.1 2 k)
      rw [upn_ne (by omega), upn_ne (by omega)]
      by_cases w : k = q2.1
      · rw [w, upn_same, mi_succ]; exact gB
      · rw [upn_ne (by omega)]
        by_cases y : k = q1.1
        · rw [y, upn_same, mi_succ]; exact gA hne
        · rw [upn_ne (by omega), upn_ne (by omega), g _ _ (by omega) (by omega)]; exact hc1.gtp k hk
    · have hk : k < tn T + 1 := hk
      show _ = i3 (1 <<< upn (upn (upn (upn (upn T 0 2 (tn T + 1)) 2 q1.1 (q2.1 + 1)) 2 q2.1 (q1.1 + 1)) 9 (tn T) q1.1) 10 (tn T) q2.1 9 k ||| 1 <<< upn (upn (upn (upn (upn T 0 2 (tn T + 1)) 2 q1.1 (q2.1 + 1)) 2 q2.1 (q1.1 + 1)) 9 (tn T) q1.1) 10 (tn T) q2.1 10 k)
      rw [upn_ne (by omega : (9 : Nat) ≠ 10 ∨ _)]
      by_cases w : k = tn T
      · rw [w, upn_same, upn_same]; exact g12
      · rw [upn_ne (by omega), upn_ne (by omega), upn_ne (by omega), upn_ne (by omega), upn_ne (by omega), upn_ne (by omega), upn_ne (by omega), upn_ne (by omega), upn_ne (by omega), g _ _ (by omega) (by omega)]; exact hc1.gtw k (by omega)
    · rw [g _ _ (by omega) (by omega)]; exact hc1.gdA k hk
    · rw [g _ _ (by omega) (by omega)]; exact hc1.gdB k hk
    · rw [g _ _ (by omega) (by omega)]; exact hc1.gtu k hk
    · rw [g _ _ (by omega) (by omega)]; exact hc1.gcR k hk
    · rw [g _ _ (by omega) (by omega)]; exact hc1.gcM k hk
    · rw [g _ _ (by omega) (by omega)]; exact hc2.gnn
    · rw [g _ _ (by omega) (by omega)]; exact hc2.gkp
    · rw [g _ _ (by omega) (by omega)]; exact hc2.gnm k hk
    · rw [g _ _ (by omega) (by omega)]; exact hc2.gns k hk
    · rw [g _ _ (by omega) (by omega)]; exact hc2.gfr k hk
    · rw [g _ _ (by omega) (by omega)]; exact hc2.gun k hk
    · rw [g _ _ (by omega) (by omega)]; exact hc3
    · rw [g _ _ (by have j1 : sl T ≤ j := j1; omega) (by omega)]; exact hc4 j j1 j2
  · rw [if_neg z, if_neg (by decide)]
    exact ⟨G9, rfl, fF.S, r9, fun w => absurd w z⟩
