/-! a clause, the model -/
def kv (k : Nat) : Int32 := if k = 7 then m1 else i3 k
theorem s_224 {D x : Nat} {V : pV} {G : sm_G} {L : sm_L} {B : Nat → Nat} {n : Nat} {c : St} (hD0 : 5 ≤ D) (hr : rM G B n c) (q : c.1 = 0) : ∃ G', sm_cv0 D 224 342 (RR V) [.ref 156] (x, G, L) = oI (kv (kd (wl B n c.2.2))) x G' L ∧ rE G' B n c ∧ mF G G' := by
  obtain ⟨d, rfl⟩ : ∃ d, D = d + 5 := ⟨D - 5, by omega⟩
  rw [m_224]
  rcases kd_all (wl B n c.2.2) with hw | hw | hw | hw | hw | hw | hw | ⟨hk, n0, n1, n2, n3, n4, n5, n6⟩
  · obtain ⟨g1, e1, r1, f1⟩ := s_225 (D := d + 4) (x := x) (V := V) (L := L) (by omega) hr v_sleeper
    rw [e1, aI_o, if_pos (⟨q, hw⟩ : c.1 = 0 ∧ wl B n c.2.2 = w_sleeper), if_neg (show ¬ i3 1 = i3 0 by decide), hw, kd_sleeper]
    exact ⟨g1, rfl, r1, f1⟩
  · obtain ⟨g1, e1, r1, f1⟩ := s_225 (D := d + 4) (x := x) (V := V) (L := L) (by omega) hr v_sleeper
    rw [e1, aI_o, if_neg (show ¬ (c.1 = 0 ∧ wl B n c.2.2 = w_sleeper) from (fun z => absurd z.2 (by rw [hw]; decide))), if_pos (show i3 0 = i3 0 from rfl)]
    obtain ⟨g2, e2, r2, f2⟩ := s_225 (D := d + 4) (x := x) (V := V) (L := L) (by omega) r1.M v_door
    rw [e2, aI_o, if_pos (⟨q, hw⟩ : c.1 = 0 ∧ wl B n c.2.2 = w_door), if_neg (show ¬ i3 1 = i3 0 by decide), hw, kd_door]
    exact ⟨g2, rfl, r2, (f1.tr f2)⟩
  · obtain ⟨g1, e1, r1, f1⟩ := s_225 (D := d + 4) (x := x) (V := V) (L := L) (by omega) hr v_sleeper
    rw [e1, aI_o, if_neg (show ¬ (c.1 = 0 ∧ wl B n c.2.2 = w_sleeper) from (fun z => absurd z.2 (by rw [hw]; decide))), if_pos (show i3 0 = i3 0 from rfl)]
    obtain ⟨g2, e2, r2, f2⟩ := s_225 (D := d + 4) (x := x) (V := V) (L := L) (by omega) r1.M v_door
    rw [e2, aI_o, if_neg (show ¬ (c.1 = 0 ∧ wl B n c.2.2 = w_door) from (fun z => absurd z.2 (by rw [hw]; decide))), if_pos (show i3 0 = i3 0 from rfl)]
    obtain ⟨g3, e3, r3, f3⟩ := s_225 (D := d + 4) (x := x) (V := V) (L := L) (by omega) r2.M v_noise
    rw [e3, aI_o, if_pos (⟨q, hw⟩ : c.1 = 0 ∧ wl B n c.2.2 = w_noise), if_neg (show ¬ i3 1 = i3 0 by decide), hw, kd_noise]
    exact ⟨g3, rfl, r3, ((f1.tr f2).tr f3)⟩
  · obtain ⟨g1, e1, r1, f1⟩ := s_225 (D := d + 4) (x := x) (V := V) (L := L) (by omega) hr v_sleeper
    rw [e1, aI_o, if_neg (show ¬ (c.1 = 0 ∧ wl B n c.2.2 = w_sleeper) from (fun z => absurd z.2 (by rw [hw]; decide))), if_pos (show i3 0 = i3 0 from rfl)]
    obtain ⟨g2, e2, r2, f2⟩ := s_225 (D := d + 4) (x := x) (V := V) (L := L) (by omega) r1.M v_door
    rw [e2, aI_o, if_neg (show ¬ (c.1 = 0 ∧ wl B n c.2.2 = w_door) from (fun z => absurd z.2 (by rw [hw]; decide))), if_pos (show i3 0 = i3 0 from rfl)]
    obtain ⟨g3, e3, r3, f3⟩ := s_225 (D := d + 4) (x := x) (V := V) (L := L) (by omega) r2.M v_noise
    rw [e3, aI_o, if_neg (show ¬ (c.1 = 0 ∧ wl B n c.2.2 = w_noise) from (fun z => absurd z.2 (by rw [hw]; decide))), if_pos (show i3 0 = i3 0 from rfl)]
    obtain ⟨g4, e4, r4, f4⟩ := s_225 (D := d + 4) (x := x) (V := V) (L := L) (by omega) r3.M v_twin
    rw [e4, aI_o, if_pos (⟨q, hw⟩ : c.1 = 0 ∧ wl B n c.2.2 = w_twin), if_neg (show ¬ i3 1 = i3 0 by decide), hw, kd_twin]
    exact ⟨g4, rfl, r4, (((f1.tr f2).tr f3).tr f4)⟩
  · obtain ⟨g1, e1, r1, f1⟩ := s_225 (D := d + 4) (x := x) (V := V) (L := L) (by omega) hr v_sleeper
    rw [e1, aI_o, if_neg (show ¬ (c.1 = 0 ∧ wl B n c.2.2 = w_sleeper) from (fun z => absurd z.2 (by rw [hw]; decide))), if_pos (show i3 0 = i3 0 from rfl)]
    obtain ⟨g2, e2, r2, f2⟩ := s_225 (D := d + 4) (x := x) (V := V) (L := L) (by omega) r1.M v_door
    rw [e2, aI_o, if_neg (show ¬ (c.1 = 0 ∧ wl B n c.2.2 = w_door) from (fun z => absurd z.2 (by rw [hw]; decide))), if_pos (show i3 0 = i3 0 from rfl)]
    obtain ⟨g3, e3, r3, f3⟩ := s_225 (D := d + 4) (x := x) (V := V) (L := L) (by omega) r2.M v_noise
    rw [e3, aI_o, if_neg (show ¬ (c.1 = 0 ∧ wl B n c.2.2 = w_noise) from (fun z => absurd z.2 (by rw [hw]; decide))), if_pos (show i3 0 = i3 0 from rfl)]
    obtain ⟨g4, e4, r4, f4⟩ := s_225 (D := d + 4) (x := x) (V := V) (L := L) (by omega) r3.M v_twin
    rw [e4, aI_o, if_neg (show ¬ (c.1 = 0 ∧ wl B n c.2.2 = w_twin) from (fun z => absurd z.2 (by rw [hw]; decide))), if_pos (show i3 0 = i3 0 from rfl)]
    obtain ⟨g5, e5, r5, f5⟩ := s_225 (D := d + 4) (x := x) (V := V) (L := L) (by omega) r4.M v_dreamer
    rw [e5, aI_o, if_pos (⟨q, hw⟩ : c.1 = 0 ∧ wl B n c.2.2 = w_dreamer), if_neg (show ¬ i3 1 = i3 0 by decide), hw, kd_dreamer]
    exact ⟨g5, rfl, r5, ((((f1.tr f2).tr f3).tr f4).tr f5)⟩
  · obtain ⟨g1, e1, r1, f1⟩ := s_225 (D := d + 4) (x := x) (V := V) (L := L) (by omega) hr v_sleeper
    rw [e1, aI_o, if_neg (show ¬ (c.1 = 0 ∧ wl B n c.2.2 = w_sleeper) from (fun z => absurd z.2 (by rw [hw]; decide))), if_pos (show i3 0 = i3 0 from rfl)]
    obtain ⟨g2, e2, r2, f2⟩ := s_225 (D := d + 4) (x := x) (V := V) (L := L) (by omega) r1.M v_door
    rw [e2, aI_o, if_neg (show ¬ (c.1 = 0 ∧ wl B n c.2.2 = w_door) from (fun z => absurd z.2 (by rw [hw]; decide))), if_pos (show i3 0 = i3 0 from rfl)]
    obtain ⟨g3, e3, r3, f3⟩ := s_225 (D := d + 4) (x := x) (V := V) (L := L) (by omega) r2.M v_noise
    rw [e3, aI_o, if_neg (show ¬ (c.1 = 0 ∧ wl B n c.2.2 = w_noise) from (fun z => absurd z.2 (by rw [hw]; decide))), if_pos (show i3 0 = i3 0 from rfl)]
    obtain ⟨g4, e4, r4, f4⟩ := s_225 (D := d + 4) (x := x) (V := V) (L := L) (by omega) r3.M v_twin
    rw [e4, aI_o, if_neg (show ¬ (c.1 = 0 ∧ wl B n c.2.2 = w_twin) from (fun z => absurd z.2 (by rw [hw]; decide))), if_pos (show i3 0 = i3 0 from rfl)]
    obtain ⟨g5, e5, r5, f5⟩ := s_225 (D := d + 4) (x := x) (V := V) (L := L) (by omega) r4.M v_dreamer
    rw [e5, aI_o, if_neg (show ¬ (c.1 = 0 ∧ wl B n c.2.2 = w_dreamer) from (fun z => absurd z.2 (by rw [hw]; decide))), if_pos (show i3 0 = i3 0 from rfl)]
    obtain ⟨g6, e6, r6, f6⟩ := s_225 (D := d + 4) (x := x) (V := V) (L := L) (by omega) r5.M v_milk
    rw [e6, aI_o, if_pos (⟨q, hw⟩ : c.1 = 0 ∧ wl B n c.2.2 = w_milk), if_neg (show ¬ i3 1 = i3 0 by decide), hw, kd_milk]
    exact ⟨g6, rfl, r6, (((((f1.tr f2).tr f3).tr f4).tr f5).tr f6)⟩
  · obtain ⟨g1, e1, r1, f1⟩ := s_225 (D := d + 4) (x := x) (V := V) (L := L) (by omega) hr v_sleeper
    rw [e1, aI_o, if_neg (show ¬ (c.1 = 0 ∧ wl B n c.2.2 = w_sleeper) from (fun z => absurd z.2 (by rw [hw]; decide))), if_pos (show i3 0 = i3 0 from rfl)]
    obtain ⟨g2, e2, r2, f2⟩ := s_225 (D := d + 4) (x := x) (V := V) (L := L) (by omega) r1.M v_door
    rw [e2, aI_o, if_neg (show ¬ (c.1 = 0 ∧ wl B n c.2.2 = w_door) from (fun z => absurd z.2 (by rw [hw]; decide))), if_pos (show i3 0 = i3 0 from rfl)]
    obtain ⟨g3, e3, r3, f3⟩ := s_225 (D := d + 4) (x := x) (V := V) (L := L) (by omega) r2.M v_noise
    rw [e3, aI_o, if_neg (show ¬ (c.1 = 0 ∧ wl B n c.2.2 = w_noise) from (fun z => absurd z.2 (by rw [hw]; decide))), if_pos (show i3 0 = i3 0 from rfl)]
    obtain ⟨g4, e4, r4, f4⟩ := s_225 (D := d + 4) (x := x) (V := V) (L := L) (by omega) r3.M v_twin
    rw [e4, aI_o, if_neg (show ¬ (c.1 = 0 ∧ wl B n c.2.2 = w_twin) from (fun z => absurd z.2 (by rw [hw]; decide))), if_pos (show i3 0 = i3 0 from rfl)]
    obtain ⟨g5, e5, r5, f5⟩ := s_225 (D := d + 4) (x := x) (V := V) (L := L) (by omega) r4.M v_dreamer
    rw [e5, aI_o, if_neg (show ¬ (c.1 = 0 ∧ wl B n c.2.2 = w_dreamer) from (fun z => absurd z.2 (by rw [hw]; decide))), if_pos (show i3 0 = i3 0 from rfl)]
    obtain ⟨g6, e6, r6, f6⟩ := s_225 (D := d + 4) (x := x) (V := V) (L := L) (by omega) r5.M v_milk
    rw [e6, aI_o, if_neg (show ¬ (c.1 = 0 ∧ wl B n c.2.2 = w_milk) from (fun z => absurd z.2 (by rw [hw]; decide))), if_pos (show i3 0 = i3 0 from rfl)]
    obtain ⟨g7, e7, r7, f7⟩ := s_225 (D := d + 4) (x := x) (V := V) (L := L) (by omega) r6.M v_turns
    rw [e7, aI_o, if_pos (⟨q, hw⟩ : c.1 = 0 ∧ wl B n c.2.2 = w_turns), if_neg (show ¬ i3 1 = i3 0 by decide), hw, kd_turns]
    exact ⟨g7, rfl, r7, ((((((f1.tr f2).tr f3).tr f4).tr f5).tr f6).tr f7)⟩
  · obtain ⟨g1, e1, r1, f1⟩ := s_225 (D := d + 4) (x := x) (V := V) (L := L) (by omega) hr v_sleeper
    rw [e1, aI_o, if_neg (show ¬ (c.1 = 0 ∧ wl B n c.2.2 = w_sleeper) from (fun z => n0 z.2)), if_pos (show i3 0 = i3 0 from rfl)]
    obtain ⟨g2, e2, r2, f2⟩ := s_225 (D := d + 4) (x := x) (V := V) (L := L) (by omega) r1.M v_door
    rw [e2, aI_o, if_neg (show ¬ (c.1 = 0 ∧ wl B n c.2.2 = w_door) from (fun z => n1 z.2)), if_pos (show i3 0 = i3 0 from rfl)]
    obtain ⟨g3, e3, r3, f3⟩ := s_225 (D := d + 4) (x := x) (V := V) (L := L) (by omega) r2.M v_noise
    rw [e3, aI_o, if_neg (show ¬ (c.1 = 0 ∧ wl B n c.2.2 = w_noise) from (fun z => n2 z.2)), if_pos (show i3 0 = i3 0 from rfl)]
    obtain ⟨g4, e4, r4, f4⟩ := s_225 (D := d + 4) (x := x) (V := V) (L := L) (by omega) r3.M v_twin
    rw [e4, aI_o, if_neg (show ¬ (c.1 = 0 ∧ wl B n c.2.2 = w_twin) from (fun z => n3 z.2)), if_pos (show i3 0 = i3 0 from rfl)]
    obtain ⟨g5, e5, r5, f5⟩ := s_225 (D := d + 4) (x := x) (V := V) (L := L) (by omega) r4.M v_dreamer
    rw [e5, aI_o, if_neg (show ¬ (c.1 = 0 ∧ wl B n c.2.2 = w_dreamer) from (fun z => n4 z.2)), if_pos (show i3 0 = i3 0 from rfl)]
    obtain ⟨g6, e6, r6, f6⟩ := s_225 (D := d + 4) (x := x) (V := V) (L := L) (by omega) r5.M v_milk
    rw [e6, aI_o, if_neg (show ¬ (c.1 = 0 ∧ wl B n c.2.2 = w_milk) from (fun z => n5 z.2)), if_pos (show i3 0 = i3 0 from rfl)]
    obtain ⟨g7, e7, r7, f7⟩ := s_225 (D := d + 4) (x := x) (V := V) (L := L) (by omega) r6.M v_turns
    rw [e7, aI_o, if_neg (show ¬ (c.1 = 0 ∧ wl B n c.2.2 = w_turns) from (fun z => n6 z.2)), if_pos (show i3 0 = i3 0 from rfl)]
    rw [hk]
    exact ⟨g7, rfl, r7, ((((((f1.tr f2).tr f3).tr f4).tr f5).tr f6).tr f7)⟩
theorem s_230 {D x k : Nat} {V : pV} {G : sm_G} {L : sm_L} {T P : pT} (hD0 : 1 ≤ D) (hk : k < 7) (hT : okT T) (hP : okP T P) (hm : mHr G T P) : sm_cv0 D 230 342 (RR V) [.ref 156, .int (i3 k)] (x, G, L) = oI (if kfull T P k = true then i3 0 else i3 1) x G L := by
  obtain ⟨d, rfl⟩ : ∃ d, D = d + 1 := ⟨D - 1, by omega⟩
  have hB := hT.gb
  have hB2 := hP.gb
  obtain ⟨a1, a2, a3, a4, a5, _⟩ := hm
  obtain rfl | rfl | rfl | rfl | rfl | rfl | rfl : k = 0 ∨ k = 1 ∨ k = 2 ∨ k = 3 ∨ k = 4 ∨ k = 5 ∨ k = 6 := by omega
  · rw [m_230, if_pos rfl, a1]
    by_cases z : sl T < 8
    · rw [if_neg (by rw [i3_eq (by omega) (by omega)]; omega), if_pos (show kfull T P 0 = true from decide_eq_true z), h_230_15, if_neg (show ¬ i3 0 = i3 1 by decide), h_230_31, if_neg (show ¬ i3 0 = i3 2 by decide), h_230_47, if_neg (show ¬ i3 0 = i3 3 by decide), h_230_62, if_neg (show ¬ i3 0 = i3 4 by decide)]
    · rw [if_pos (by rw [show sl T = 8 by omega]), if_neg (show ¬ kfull T P 0 = true by rw [show kfull T P 0 = false from decide_eq_false z]; decide)]
  · rw [m_230, if_neg (show ¬ i3 1 = i3 0 by decide), h_230_15, if_pos rfl, a2]
    by_cases z : dn T < 10
    · rw [if_neg (by rw [i3_eq (by omega) (by omega)]; omega), if_pos (show kfull T P 1 = true from decide_eq_true z), h_230_31, if_neg (show ¬ i3 1 = i3 2 by decide), h_230_47, if_neg (show ¬ i3 1 = i3 3 by decide), h_230_62, if_neg (show ¬ i3 1 = i3 4 by decide)]
    · rw [if_pos (by rw [show dn T = 10 by omega]), if_neg (show ¬ kfull T P 1 = true by rw [show kfull T P 1 = false from decide_eq_false z]; decide)]
  · rw [m_230, if_neg (show ¬ i3 2 = i3 0 by decide), h_230_15, if_neg (show ¬ i3 2 = i3 1 by decide), h_230_31, if_pos rfl, a3]
    by_cases z : nn P < 12
    · rw [if_neg (by rw [i3_eq (by omega) (by omega)]; omega), if_pos (show kfull T P 2 = true from decide_eq_true z), h_230_47, if_neg (show ¬ i3 2 = i3 3 by decide), h_230_62, if_neg (show ¬ i3 2 = i3 4 by decide)]
    · rw [if_pos (by rw [show nn P = 12 by omega]), if_neg (show ¬ kfull T P 2 = true by rw [show kfull T P 2 = false from decide_eq_false z]; decide)]
  · rw [m_230, if_neg (show ¬ i3 3 = i3 0 by decide), h_230_15, if_neg (show ¬ i3 3 = i3 1 by decide), h_230_31, if_neg (show ¬ i3 3 = i3 2 by decide), h_230_47, if_pos rfl, a4]
    by_cases z : tn T < 3
    · rw [if_neg (by rw [i3_eq (by omega) (by omega)]; omega), if_pos (show kfull T P 3 = true from decide_eq_true z), h_230_62, if_neg (show ¬ i3 3 = i3 4 by decide)]
    · rw [if_pos (by rw [show tn T = 3 by omega]), if_neg (show ¬ kfull T P 3 = true by rw [show kfull T P 3 = false from decide_eq_false z]; decide)]
  · rw [m_230, if_neg (show ¬ i3 4 = i3 0 by decide), h_230_15, if_neg (show ¬ i3 4 = i3 1 by decide), h_230_31, if_neg (show ¬ i3 4 = i3 2 by decide), h_230_47, if_neg (show ¬ i3 4 = i3 3 by decide), h_230_62, if_pos rfl, a5]
    by_cases z : dr T < 4
    · rw [if_neg (by rw [i3_eq (by omega) (by omega)]; omega), if_pos (show kfull T P 4 = true from decide_eq_true z)]
    · rw [if_pos (by rw [show dr T = 4 by omega]), if_neg (show ¬ kfull T P 4 = true by rw [show kfull T P 4 = false from decide_eq_false z]; decide)]
  · rw [m_230, if_neg (show ¬ i3 5 = i3 0 by decide), h_230_15, if_neg (show ¬ i3 5 = i3 1 by decide), h_230_31, if_neg (show ¬ i3 5 = i3 2 by decide), h_230_47, if_neg (show ¬ i3 5 = i3 3 by decide), h_230_62, if_neg (show ¬ i3 5 = i3 4 by decide), if_pos (show kfull T P 5 = true from rfl)]
  · rw [m_230, if_neg (show ¬ i3 6 = i3 0 by decide), h_230_15, if_neg (show ¬ i3 6 = i3 1 by decide), h_230_31, if_neg (show ¬ i3 6 = i3 2 by decide), h_230_47, if_neg (show ¬ i3 6 = i3 3 by decide), h_230_62, if_neg (show ¬ i3 6 = i3 4 by decide), if_pos (show kfull T P 6 = true from rfl)]
theorem s_223 {D x cnt : Nat} {V : pV} {G : sm_G} {L : sm_L} {B : Nat → Nat} {n : Nat} {c : St} {T P : pT} (hD0 : 7 ≤ D) (hr : rM G B n c) (q : c.1 = 0) (h7 : G 156 7 = i3 cnt) (hc60 : cnt ≤ 60) (hT : okT T) (hP : okP T P) (hm : mHr G T P) : ∃ G', sm_cv0 D 223 342 (RR V) [.ref 156] (x, G, L) = oV x G' L ∧ mfS G G' ∧ rM G' B n (clF B n (decide (cnt ≠ 60)) T P c).1 ∧ ((clF B n (decide (cnt ≠ 60)) T P c).1.1 = 0 → mHr G' (clF B n (decide (cnt ≠ 60)) T P c).2.1 (clF B n (decide (cnt ≠ 60)) T P c).2.2 ∧ G' 156 7 = i3 (cnt + 1)) := by
  obtain ⟨d, rfl⟩ : ∃ d, D = d + 7 := ⟨D - 7, by omega⟩
  obtain ⟨G1, e1, r1, f1⟩ := s_224 (D := d + 6) (x := x) (V := V) (L := L) (by omega) hr q
  obtain ⟨a1, a2, a3, a4⟩ := r1.at q
  have hm1 := hm.keep hT hP (g' := G1) (fun r k w => f1 r k (by unfold inR at w; omega))
  have h71 : G1 156 7 = i3 cnt := by rw [f1 _ _ (by omega)]; exact h7
  have fS : mfS G G1 := fun r k w1 w2 => f1 r k (by omega)
  -- a fault at the word's place
  have bad : ∀ (k : Nat) (v : Int32), k ≤ 3 → k ≠ 0 → ∃ G2, sm_aV (sm_cv0 (d + 6) 229 342 (RR V) [.ref 156, .int (i3 k), .int (i3 c.2.2)] (x, G1, L)) (fun x2 G2 L2 => hD (d + 6) 223 48 [.ref 156, .int v, .null, .null] 342 (RR V) x2 G2 L2) oX = oV x G2 L ∧ mfS G G2 ∧ rM G2 B n (k, c.2.2 + 1, c.2.2) := fun k v hk hk0 => by
    obtain ⟨G2, u1, u2, u3, _⟩ := s_229 (d := d + 5) (x := x) (V := V) (L := L) (k := k) (s := c.2.2) r1.M hk hk0 a2
    rw [if_pos q] at u3
    refine ⟨G2, ?_, fun r j w1 w2 => by rw [u2 r j (by omega)]; exact fS r j w1 w2, u3⟩
    rw [u1, aV_o, h_223_48, u3.2.2.2.1, if_neg (by rw [i3_eq (by show k < _; omega) (by omega)]; exact hk0)]
  unfold clF
  rw [m_223, e1, aI_o, a1]
  by_cases h77 : kd (wl B n c.2.2) = 7
  · obtain ⟨G2, k1, k2, k3⟩ := bad 1 m1 (by omega) (by omega)
    rw [h77, show kv 7 = m1 from rfl, if_pos rfl, k1, show clK B n (decide (cnt ≠ 60)) T P c 7 = ((1, c.2.2 + 1, c.2.2), T, P) from if_pos rfl]
    exact ⟨G2, rfl, k2, k3, fun z => absurd z (by show ¬ (1 : Nat) = 0; omega)⟩
  · have hk7 : kd (wl B n c.2.2) < 7 := by
      have : kd (wl B n c.2.2) ≤ 7 := by
        unfold kd
        repeat' split
        all_goals omega
      omega
    have ekv : kv (kd (wl B n c.2.2)) = i3 (kd (wl B n c.2.2)) := if_neg h77
    rw [ekv, if_neg (by rw [i3_nm1 (by omega)]; exact not_false), h71]
    generalize kd (wl B n c.2.2) = k at hk7 h77 ⊢
    by_cases hc : cnt = 60
    · obtain ⟨G2, k1, k2, k3⟩ := bad 3 (i3 k) (by omega) (by omega)
      have e : clK B n (decide (cnt ≠ 60)) T P c k = ((3, c.2.2 + 1, c.2.2), T, P) := by
        unfold clK
        rw [if_neg h77, decide_eq_false (fun w => w hc), Bool.false_and, if_neg (by decide)]
      rw [if_pos (by rw [hc]), k1, e]
      exact ⟨G2, rfl, k2, k3, fun z => absurd z (by show ¬ (3 : Nat) = 0; omega)⟩
    · have e30 := s_230 (D := d + 6) (x := x) (V := V) (L := L) (by omega) hk7 hT hP hm1
      rw [if_neg (by rw [i3_eq (by omega) (by omega)]; exact hc), e30, aI_o]
      by_cases hf : kfull T P k = true
      · have e : clK B n (decide (cnt ≠ 60)) T P c k = ckR B n T P (0, 0, sk B n (we B n c.2.2)) k := by
          unfold clK
          rw [if_neg h77, decide_eq_true hc, Bool.true_and, if_pos hf]
        have go : ∃ G2, hD (d + 6) 223 48 [.ref 156, .int (i3 k), .null, .null] 342 (RR V) x G1 L = oV x G2 L ∧ mfS G1 G2 ∧ rM G2 B n (ckR B n T P (0, 0, sk B n (we B n c.2.2)) k).1 ∧ G2 156 7 = i3 (cnt + 1) ∧ ((ckR B n T P (0, 0, sk B n (we B n c.2.2)) k).1.1 = 0 → mHr G2 (ckR B n T P (0, 0, sk B n (we B n c.2.2)) k).2.1 (ckR B n T P (0, 0, sk B n (we B n c.2.2)) k).2.2) := by
          obtain rfl | rfl | rfl | rfl | rfl | rfl | rfl : k = 0 ∨ k = 1 ∨ k = 2 ∨ k = 3 ∨ k = 4 ∨ k = 5 ∨ k = 6 := by omega
          · exact cM_0 (D := d + 6) (x := x) (V := V) (L := L) (by omega) r1 q h71 hT hP hm1 (of_decide_eq_true hf)
          · exact cM_1 (D := d + 6) (x := x) (V := V) (L := L) (by omega) r1 q h71 hT hP hm1 (of_decide_eq_true hf)
          · exact cM_2 (D := d + 6) (x := x) (V := V) (L := L) (by omega) r1 q h71 hT hP hm1 (of_decide_eq_true hf)
          · exact cM_3 (D := d + 6) (x := x) (V := V) (L := L) (by omega) r1 q h71 hT hP hm1 (of_decide_eq_true hf)
          · exact cM_4 (D := d + 6) (x := x) (V := V) (L := L) (by omega) r1 q h71 hT hP hm1 (of_decide_eq_true hf)
          · exact cM_5 (D := d + 6) (x := x) (V := V) (L := L) (by omega) r1 q h71 hT hP hm1
          · exact cM_6 (D := d + 6) (x := x) (V := V) (L := L) (by omega) r1 q h71 hT hP hm1
        obtain ⟨G2, k1, k2, k3, k4, k5⟩ := go
        rw [if_pos hf, if_pos rfl, k1, e]
        exact ⟨G2, rfl, fun r j w1 w2 => by rw [k2 r j w1 w2]; exact fS r j w1 w2, k3, fun z => ⟨k5 z, k4⟩⟩
      · obtain ⟨G2, k1, k2, k3⟩ := bad 3 (i3 k) (by omega) (by omega)
        have e : clK B n (decide (cnt ≠ 60)) T P c k = ((3, c.2.2 + 1, c.2.2), T, P) := by
          unfold clK
          rw [if_neg h77, if_neg (fun w => by
            rw [Bool.and_eq_true] at w
            exact hf w.2)]
        rw [if_neg hf, if_neg (by decide), a1, k1, e]
        exact ⟨G2, rfl, k2, k3, fun z => absurd z (by show ¬ (3 : Nat) = 0; omega)⟩
