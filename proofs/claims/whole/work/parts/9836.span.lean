/-! span -/
theorem spn1 {V : pV} {G g0 : sm_G} {T : pT} {K c : Nat} {H W : Nat → pT} (r : Int32) (hS : IvS V G T K c H W) (h17 : G 1 17 = i3 0) (hok : hOk G T (H c) K) (hg0 : nIn g0 T (H c) K W) : ∃ n, n < 16 ∧ (∀ (d x : Nat) (X : sm_G) (L : sm_L), (∀ r k, r ≠ 58 → ¬ (84 ≤ r ∧ r < 105) → X r k = G r k) → ∃ X1 X' z, sm_cv0 (d + 12) 81 342 (RR V) [.ref 54, .ref V.1, .int r] (x, X, L) = oI z x X1 L ∧ sm_cv0 (d + 12) 21 342 (RR V) [.ref 1, .ref 58, .int (i3 0)] (x, X1, L) = oI (i3 n) x X' L ∧ ∀ r k, r ≠ 58 → ¬ (84 ≤ r ∧ r < 105) → X' r k = G r k) ∧ ∀ (d x : Nat) (g : sm_G) (L : sm_L), nIn g T (H c) K W → ∃ g', sm_cv0 (d + 8) 304 342 (RR V) [.ref 156, .int r] (x, g, L) = oI (i3 n) x g' L ∧ ∀ r k, ¬ (306 ≤ r ∧ r ≤ 330) → ¬ (r = 156 ∧ (k = 41 ∨ k = 56 ∨ k = 57)) → g' r k = g r k := by
  have hsl := pS_lt (hV1 hS.V)
  have both : ∀ (d x d' x' : Nat) (X g : sm_G) (L L' : sm_L), (∀ r k, r ≠ 58 → ¬ (84 ≤ r ∧ r < 105) → X r k = G r k) → nIn g T (H c) K W → ∃ X1 X' z g' n, n < 16 ∧ sm_cv0 (d + 12) 81 342 (RR V) [.ref 54, .ref V.1, .int r] (x, X, L) = oI z x X1 L ∧ sm_cv0 (d + 12) 21 342 (RR V) [.ref 1, .ref 58, .int (i3 0)] (x, X1, L) = oI (i3 n) x X' L ∧ (∀ r k, r ≠ 58 → ¬ (84 ≤ r ∧ r < 105) → X' r k = G r k) ∧ sm_cv0 (d' + 8) 304 342 (RR V) [.ref 156, .int r] (x', g, L') = oI (i3 n) x' g' L' ∧ ∀ r k, ¬ (306 ≤ r ∧ r ≤ 330) → ¬ (r = 156 ∧ (k = 41 ∨ k = 56 ∨ k = 57)) → g' r k = g r k := by
    intro d x d' x' X g L L' hX hg
    have hSX := hS.keep (G' := X) (fun r k a => hX r k (by unfold sc at a; omega) (by unfold sc at a; omega))
    have hoX : hOk X T (H c) K := fun m hm => by rw [hX _ _ (by omega) (by omega), hX _ _ (by omega) (by omega), hX _ _ (by omega) (by omega)]; exact hok m hm
    obtain ⟨X1, b1, b2, b3⟩ := s_81 (d := d + 10) (x := x) (L := L) (V := V) (r := r) hSX.V hSX.c hSX.p hSX.T hSX.P hSX.K hoX
    have hS2 := hSX.keep (G' := X1) (fun r k a => b2 r k (by unfold sc at a; omega))
    have hok2 : hOk X1 T (H c) K := fun m hm => by rw [b2 _ _ (by omega), b2 _ _ (by omega), b2 _ _ (by omega)]; exact hoX m hm
    obtain ⟨G3, g', n, n1, n2, n3, n4, n5, n6, n7⟩ := s_304 (d := d) (x := x) (L := L) (V := V) (d0 := d') (x0 := x') (L0 := L') (r := r) hS2 (by rw [b2 _ _ (by omega), hX _ _ (by omega) (by omega)]; exact h17) hok2 hg b3
    exact ⟨X1, G3, _, g', n, n1, b1, n2, fun r k a1 a2 => by rw [n4 r k a2, b2 r k a1]; exact hX r k a1 a2, n3, n5⟩
  obtain ⟨X1, X0, z0, g0', n, q0, q1, q2, q3, q4, q5⟩ := both 0 0 0 0 G g0 (fun _ _ => 0) (fun _ _ => 0) (fun _ _ _ _ => rfl) hg0
  refine ⟨n, q0, fun d x X L hX => ?_, fun d' x' g L' hg => ?_⟩
  · obtain ⟨Y1, Y0, z, g', n', p0, p1, p2, p3, p4, p5⟩ := both d x 0 0 X g0 L (fun _ _ => 0) hX hg0
    obtain ⟨e, _⟩ := oI_inj (q4.symm.trans p4)
    exact ⟨Y1, Y0, z, p1, by rw [e]; exact p2, p3⟩
  · obtain ⟨Y1, Y0, z, g', n', p0, p1, p2, p3, p4, p5⟩ := both 0 0 d' x' G g (fun _ _ => 0) L' (fun _ _ _ _ => rfl) hg
    obtain ⟨_, e1⟩ := oI_inj (q1.symm.trans p1)
    rw [← e1] at p2
    obtain ⟨e, _⟩ := oI_inj (q2.symm.trans p2)
    exact ⟨g', by rw [e]; exact p4, p5⟩
/-- least, most, how often none -/
def spS (N : Nat → Nat) (k : Nat) (s : Nat × Nat × Nat) : Nat × Nat × Nat := (if N k < s.1 then N k else s.1, if s.2.1 < N k then N k else s.2.1, s.2.2 + if N k = 0 then 1 else 0)
def spI (N : Nat → Nat) (k : Nat) : Nat × Nat × Nat := itr (spS N) 0 k (4, 0, 0)
theorem spI_s (N : Nat → Nat) (k : Nat) : spI N (k + 1) = spS N k (spI N k) := by
  unfold spI
  rw [itr_succ, Nat.zero_add]
theorem spI_ok {N : Nat → Nat} (hN : ∀ k, N k ≤ 4) : ∀ k, (spI N k).1 ≤ 4 ∧ (spI N k).2.1 ≤ 4 ∧ (spI N k).2.2 ≤ k
  | 0 => ⟨Nat.le_refl 4, by show 0 ≤ 4; omega, Nat.le_refl 0⟩
  | k + 1 => by
    have ih := spI_ok hN k
    have h := hN k
    rw [spI_s]
    unfold spS
    refine ⟨?_, ?_, ?_⟩
    · show (if _ then _ else _) ≤ 4; split <;> omega
    · show (if _ then _ else _) ≤ 4; split <;> omega
    · show _ + (if _ then _ else _) ≤ _; split <;> omega
theorem l_59 {d x n : Nat} {V : pV} {L : sm_L} {v y : Int32} {G : sm_G} (nf N : Nat → Nat) (hV : okV V) (hn : ∀ k, nf k < 16) (hNf : ∀ k, pc (nf k) 10 = N k) (h20 : n ≤ 20) (h21 : ∀ k (d x : Nat) (X : sm_G) (L : sm_L), (∀ r k, r ≠ 58 → ¬ (84 ≤ r ∧ r < 105) → X r k = G r k) → ∃ X1 X' z, sm_cv0 (d + 12) 81 342 (RR V) [.ref 54, .ref V.1, .int (v + i3 k)] (x, X, L) = oI z x X1 L ∧ sm_cv0 (d + 12) 21 342 (RR V) [.ref 1, .ref 58, .int (i3 0)] (x, X1, L) = oI (i3 (nf k)) x X' L ∧ ∀ r k, r ≠ 58 → ¬ (84 ≤ r ∧ r < 105) → X' r k = G r k) :
    ∃ G', hD (d + 12) 59 44 [.ref 1, .int v, .int (i3 n), .int y, .ref 54, .int (i3 4), .int (i3 0), .int (i3 0), .int (i3 0), .null] 342 (RR V) x G L = (if y = i3 0 then oI (i3 (spI N n).1) x G' L else if y = i3 1 then oI (i3 (spI N n).2.1) x G' L else oI (i3 (spI N n).2.2) x G' L) ∧ ∀ r k, r ≠ 58 → ¬ (84 ≤ r ∧ r < 105) → G' r k = G r k := by
  have hN : ∀ k, N k ≤ 4 := fun k => by rw [← hNf]; exact pc16 _ (hn k)
  refine loopE (H := fun k (g : sm_G) => hD (d + 12) 59 44 [.ref 1, .int v, .int (i3 n), .int y, .ref 54, .int (i3 (spI N k).1), .int (i3 (spI N k).2.1), .int (i3 (spI N k).2.2), .int (i3 k), .null] 342 (RR V) x g L) (Q := fun o' => ∃ G', o' = (if y = i3 0 then oI (i3 (spI N n).1) x G' L else if y = i3 1 then oI (i3 (spI N n).2.1) x G' L else oI (i3 (spI N n).2.2) x G' L) ∧ ∀ r k, r ≠ 58 → ¬ (84 ≤ r ∧ r < 105) → G' r k = G r k) (N := n)
    (fun k g => ∀ r k, r ≠ 58 → ¬ (84 ≤ r ∧ r < 105) → g r k = G r k) ?_ ?_ n 0 G (by omega) (fun _ _ _ _ => rfl)
  · intro k g hk w1
    obtain ⟨X1, X', z, q1, q2, q3⟩ := h21 k d x g L w1
    have hi := spI_ok hN k
    have hNk := hN k
    have e7 := s_7 (d := d + 11) (x := x) (V := V) (G := X') (L := L) (show nf k < 1024 by have := hn k; omega)
    refine ⟨X', ?_, q3⟩
    show hD (d + 12) 59 44 _ 342 (RR V) x g L = hD (d + 12) 59 44 [.ref 1, .int v, .int (i3 n), .int y, .ref 54, .int (i3 (spI N (k + 1)).1), .int (i3 (spI N (k + 1)).2.1), .int (i3 (spI N (k + 1)).2.2), .int (i3 (k + 1)), .null] 342 (RR V) x X' L
    rw [spI_s]
    generalize spI N k = s at hi ⊢
    rw [h_59_44, if_pos (show i3 k < i3 n by rw [i3_lt (by omega) (by omega)]; exact hk), q1, aI_o, q2, aI_o, e7, aI_o, hNf, s_4, aI_o, s_5, aI_o, h_59_97, i3_add, i3_add, i3_add]
    unfold spS
    dsimp only
    generalize N k = m at hNk ⊢
    have e1 : (if i3 m < i3 s.1 then i3 m else i3 s.1) = i3 (if m < s.1 then m else s.1) := by
      by_cases q : m < s.1
      · rw [if_pos (by rw [i3_lt (by omega) (by omega)]; exact q), if_pos q]
      · rw [if_neg (by rw [i3_lt (by omega) (by omega)]; exact q), if_neg q]
    have e2 : (if i3 s.2.1 < i3 m then i3 m else i3 s.2.1) = i3 (if s.2.1 < m then m else s.2.1) := by
      by_cases q : s.2.1 < m
      · rw [if_pos (by rw [i3_lt (by omega) (by omega)]; exact q), if_pos q]
      · rw [if_neg (by rw [i3_lt (by omega) (by omega)]; exact q), if_neg q]
    rw [e1, e2]
    by_cases q : m = 0
    · rw [if_pos (show i3 m = i3 0 by rw [q]), if_pos q]
    · rw [if_neg (by rw [i3_eq (by omega) (by omega)]; exact q), if_neg q]
  · intro g w1
    refine ⟨g, ?_, w1⟩
    show hD (d + 12) 59 44 _ 342 (RR V) x g L = _
    rw [h_59_44, if_neg (show ¬ i3 n < i3 n by rw [i3_lt (by omega) (by omega)]; omega)]
theorem l_305 {d x n c : Nat} {V : pV} {L : sm_L} {T : pT} {K : Nat} {H W : Nat → pT} {v y : Int32} {g : sm_G} (nf N : Nat → Nat) (hT : okT T) (hP : okP T (H c)) (hg : nIn g T (H c) K W) (hn : ∀ k, nf k < 16) (hNf : ∀ k, pc (nf k) 10 = N k) (h1 : 1 ≤ n) (h20 : n ≤ 20) (h304 : ∀ k (d x : Nat) (g : sm_G) (L : sm_L), nIn g T (H c) K W → ∃ g', sm_cv0 (d + 8) 304 342 (RR V) [.ref 156, .int (v + i3 k)] (x, g, L) = oI (i3 (nf k)) x g' L ∧ ∀ r k, ¬ (306 ≤ r ∧ r ≤ 330) → ¬ (r = 156 ∧ (k = 41 ∨ k = 56 ∨ k = 57)) → g' r k = g r k) :
    ∃ g', hD (d + 8) 305 49 [.ref 156, .int v, .int (i3 n), .int y, .int m1, .int m1, .int (i3 0), .null, .null] 342 (RR V) x g L = (if y = i3 0 then oI (i3 (spI N n).1) x g' L else if y = i3 1 then oI (i3 (spI N n).2.1) x g' L else oI (i3 (spI N n).2.2) x g' L) ∧ ∀ r k, ¬ (306 ≤ r ∧ r ≤ 330) → ¬ (r = 156 ∧ (k = 41 ∨ k = 56 ∨ k = 57)) → g' r k = g r k := by
  have hN : ∀ k, N k ≤ 4 := fun k => by rw [← hNf]; exact pc16 _ (hn k)
  rw [h_305_49]
  refine loopE (H := fun k (g : sm_G) => hD (d + 8) 305 52 [.ref 156, .int v, .int (i3 n), .int y, .int (if k = 0 then m1 else i3 (spI N k).1), .int (if k = 0 then m1 else i3 (spI N k).2.1), .int (i3 (spI N k).2.2), .int (i3 k), .null] 342 (RR V) x g L) (Q := fun o' => ∃ g', o' = (if y = i3 0 then oI (i3 (spI N n).1) x g' L else if y = i3 1 then oI (i3 (spI N n).2.1) x g' L else oI (i3 (spI N n).2.2) x g' L) ∧ ∀ r k, ¬ (306 ≤ r ∧ r ≤ 330) → ¬ (r = 156 ∧ (k = 41 ∨ k = 56 ∨ k = 57)) → g' r k = g r k) (N := n)
    (fun k g1 => ∀ r k, ¬ (306 ≤ r ∧ r ≤ 330) → ¬ (r = 156 ∧ (k = 41 ∨ k = 56 ∨ k = 57)) → g1 r k = g r k) ?_ ?_ n 0 g (by omega) (fun _ _ _ _ => rfl)
  · intro k g1 hk w1
    have hg1 : nIn g1 T (H c) K W := hg.keep2 hT hP (fun r k a a2 => w1 r k (by omega) (by omega))
    obtain ⟨g', q1, q2⟩ := h304 k d x g1 L hg1
    have hi := spI_ok hN k
    have hNk := hN k
    have e291 := s_291 (d := d + 7) (x := x) (V := V) (G := g') (L := L) (show nf k < 1024 by have := hn k; omega)
    refine ⟨g', ?_, fun r k a1 a2 => by rw [q2 r k a1 a2]; exact w1 r k a1 a2⟩
    show hD (d + 8) 305 52 _ 342 (RR V) x g1 L = hD (d + 8) 305 52 [.ref 156, .int v, .int (i3 n), .int y, .int (i3 (spI N (k + 1)).1), .int (i3 (spI N (k + 1)).2.1), .int (i3 (spI N (k + 1)).2.2), .int (i3 (k + 1)), .null] 342 (RR V) x g' L
    have tail : ∀ (A B C : Int32), hD (d + 8) 305 109 [.ref 156, .int v, .int (i3 n), .int y, .int A, .int B, .int C, .int (i3 k), .int (i3 (N k))] 342 (RR V) x g' L = hD (d + 8) 305 52 [.ref 156, .int v, .int (i3 n), .int y, .int A, .int B, .int (C + i3 (if N k = 0 then 1 else 0)), .int (i3 (k + 1)), .null] 342 (RR V) x g' L := fun A B C => by
      rw [h_305_109, i3_add]
      by_cases q : N k = 0
      · rw [if_pos (show i3 (N k) = i3 0 by rw [q]), if_pos q]
      · rw [if_neg (by rw [i3_eq (by omega) (by omega)]; exact q), if_neg q]
    rw [spI_s, h_305_52, if_pos (show i3 k < i3 n by rw [i3_lt (by omega) (by omega)]; exact hk), q1, aI_o, e291, aI_o, hNf]
    by_cases k0 : k = 0
    · subst k0
      rw [if_pos rfl, if_pos rfl, if_pos rfl, h_305_93, if_neg (show ¬ i3 (N 0) ≤ m1 by rw [le_m1 (by omega)]; exact not_false), tail, i3_add]
      have e : spS N 0 (spI N 0) = (N 0, N 0, 0 + if N 0 = 0 then 1 else 0) := by
        show (if N 0 < 4 then N 0 else 4, if 0 < N 0 then N 0 else 0, 0 + if N 0 = 0 then 1 else 0) = _
        congr 1
        · split <;> omega
        · congr 1
          split <;> omega
      rw [e]
      rfl
    · rw [if_neg k0, if_neg k0]
      generalize spI N k = s at hi ⊢
      rw [if_neg (show ¬ i3 s.1 = m1 by rw [i3_nm1 (by omega)]; exact not_false)]
      unfold spS
      dsimp only
      generalize N k = m at hNk tail ⊢
      have e2 : ∀ A, hD (d + 8) 305 93 [.ref 156, .int v, .int (i3 n), .int y, .int A, .int (i3 s.2.1), .int (i3 s.2.2), .int (i3 k), .int (i3 m)] 342 (RR V) x g' L = hD (d + 8) 305 52 [.ref 156, .int v, .int (i3 n), .int y, .int A, .int (i3 (if s.2.1 < m then m else s.2.1)), .int (i3 (s.2.2 + if m = 0 then 1 else 0)), .int (i3 (k + 1)), .null] 342 (RR V) x g' L := fun A => by
        rw [h_305_93]
        by_cases q : s.2.1 < m
        · rw [if_neg (by rw [i3_le (by omega) (by omega)]; omega), if_pos q, tail, i3_add]
        · rw [if_pos (by rw [i3_le (by omega) (by omega)]; omega), if_neg q, tail, i3_add]
      by_cases q : m < s.1
      · rw [if_pos (by rw [i3_lt (by omega) (by omega)]; exact q), if_pos q, e2]
      · rw [if_neg (by rw [i3_lt (by omega) (by omega)]; exact q), if_neg q, e2]
  · intro g1 w1
    refine ⟨g1, ?_, w1⟩
    show hD (d + 8) 305 52 _ 342 (RR V) x g1 L = _
    rw [h_305_52, if_neg (show ¬ i3 n < i3 n by rw [i3_lt (by omega) (by omega)]; omega), if_neg (show ¬ n = 0 by omega), if_neg (show ¬ n = 0 by omega)]
theorem op_59 {d x : Nat} {V : pV} {G : sm_G} {L : sm_L} {v w y : Int32} (I : Inv V G) : OpI d x V G L 59 [.ref 1, .int v, .int w, .int y] 305 [.ref 156, .int v, .int w, .int y] eA := by
  have I0 := I
  obtain ⟨T, K, c, H, W, hS, hh, hn⟩ := I
  have hB := hS.T.gb
  refine OpI_1 (C1 := (¬ w < i3 1 ∧ w ≤ i3 20) ∧ ¬ y < i3 0 ∧ y ≤ i3 2) (k1 := 2) (X := sm_aR (sm_cv0 (d + 59) 15 342 (RR V) [.ref 1] (x, G, L)) (fun p2 x2 G2 L2 => hD (d + 59) 59 38 [.ref 1, .int v, .int w, .int y, .ref p2, .int (i3 4), .int (i3 0), .null, .null, .null] 342 (RR V) x2 G2 L2) oX) (Y := fun x1 G1 => hD (d + 59) 305 40 [.ref 156, .int v, .int w, .int y, .null, .null, .null, .null, .null] 342 (RR V) x1 (g00 G1) L) I0 ?_ ?_ (by decide) ?_
  · have e29 : ∀ x, sm_cv0 (d + 59) 29 342 (RR V) [.ref 1, .int (i3 0)] (x, G, L) = rfC 2 x G L := fun x => s_29 (b := false)
    have e29' : ∀ x, sm_cv0 (d + 59) 29 342 (RR V) [.ref 1, .int (i3 1)] (x, G, L) = oV x G L := fun x => s_29 (b := true)
    rw [m_59]
    by_cases h1 : w < i3 1
    · rw [if_pos h1, e29, if_neg (fun z => z.1.1 h1)]
      rfl
    · rw [if_neg h1]
      by_cases h2 : w ≤ i3 20
      · rw [if_pos h2, e29', aV_o, h_59_20, s_33, aV_if]
        by_cases h4 : ¬ y < i3 0 ∧ y ≤ i3 2
        · rw [if_pos h4, if_pos ⟨⟨h1, h2⟩, h4⟩]
        · rw [if_neg h4, if_neg (fun z => h4 z.2)]
      · rw [if_neg h2, e29, if_neg (fun z => h2 z.1.2)]
        rfl
  · intro x1 G1 hs
    have bad : ∀ (F : Nat → sm_G → sm_L → Option (sm_Res × sm_D)), sm_aI (sm_cv0 (d + 59) 219 342 (RR V) [.ref 156, .int (i3 1), .int (i3 1), .int (i3 2)] (x1, g00 G1, L)) (fun a2 x2 G2 L2 => if a2 = i3 0 then F x2 G2 L2 else oI (i3 0) x2 G2 L2) oX = oI (i3 0) x1 (noted G1 1 2) L := fun F => by
      rw [s_219b (by decide) (by decide) (by decide) g00_0]
      rfl
    rw [m_305, s_218]
    by_cases h1 : i3 1 ≤ w ∧ w ≤ i3 20
    · rw [if_pos h1, aI_o, if_neg (by decide), s_218c]
      simp only [aI_o]
      rw [mbad g00_0 (by decide) (by decide) (by decide)]
      by_cases h4 : ¬ y < i3 0 ∧ y ≤ i3 2
      · rw [if_pos h4, if_pos ⟨⟨Int32.not_lt.mpr h1.1, h1.2⟩, h4⟩]
      · rw [if_neg h4, if_neg (fun z => h4 z.2)]
        rfl
    · rw [if_neg h1, aI_o, if_pos rfl, bad, if_neg (fun z => h1 ⟨Int32.not_lt.mp z.1.1, z.1.2⟩)]
      rfl
  · rintro ⟨⟨h1, h2⟩, h3⟩
    obtain ⟨n, rfl, hn20⟩ : ∃ n, w = i3 n ∧ n ≤ 20 := rngl (by decide) ⟨fun z => h1 (Int32.lt_of_lt_of_le z (by decide)), h2⟩
    have hn1 : 1 ≤ n := by
      rw [i3_lt (by omega) (by omega)] at h1
      omega
    obtain ⟨G1, a0, hS1, hh1, hn1', hs1, hO1, h17⟩ := hS.s15b (d := d + 55) (x := x) (L := L) hh hn
    have hg0 : ∀ X, sM G X → nIn (g00 X) T (H c) K W := fun X hX => ⟨hS.m.sM hS.T hS.P hX, fun k hk => by rw [g00_ne (by omega), hX _ _ (by omega)]; exact hS.w k hk, fun e he => (hS.wl e he).2.2.keep he (fun r k q => by rw [g00_ne (by omega), hX _ _ (by omega)])⟩
    have one := fun k : Nat => spn1 (v + i3 k) hS1 h17 hO1 (hg0 G1 hs1)
    obtain ⟨nf, hnf⟩ := Classical.axiomOfChoice one
    obtain ⟨G2, b1, b2⟩ := l_59 (d := d + 47) (x := x) (L := L) (v := v) (y := y) nf (fun k => pc (nf k) 10) hS1.V (fun k => (hnf k).1) (fun _ => rfl) hn20 (fun k => (hnf k).2.1)
    have hs2 : sM G G2 := fun r k a => by rw [b2 r k (by omega) (by omega)]; exact hs1 r k a
    obtain ⟨g3, c1, c2⟩ := l_305 (d := d + 51) (x := x) (L := L) (V := V) (v := v) (y := y) nf (fun k => pc (nf k) 10) hS.T hS.P (hg0 G2 hs2) (fun k => (hnf k).1) (fun _ => rfl) hn1 hn20 (fun k => (hnf k).2.2)
    have a0' : sm_cv0 (d + 59) 15 342 (RR V) [.ref 1] (x, G, L) = oR 54 x G1 L := a0
    have fin : g3 156 0 = i3 0 ∧ Inv V g3 := ⟨by rw [c2 _ _ (by omega) (by omega)]; exact g00_0, Inv_q (G1 := G2) hS1 (fun r k a => b2 r k (by unfold sc at a; omega) (by unfold sc at a; omega)) (hh1.keep (b2 _ _ (by omega) (by omega)) (fun r k p q => b2 _ _ (by omega) (by omega))) (hn1'.keep hS.T (b2 _ _ (by omega) (by omega)) (fun r k p q => b2 _ _ (by omega) (by omega))) (fun r k a => by rw [c2 r k (by unfold sc at a; omega) (by unfold sc at a; omega)]; exact g00_ne (by unfold sc at a; omega))⟩
    rw [a0', aR_o, h_59_38]
    simp only [h_305_40]
    by_cases y0 : y = i3 0
    · rw [if_pos y0] at b1 c1
      exact ⟨_, G2, g3, b1, hs2, c1, fin.1, fin.2⟩
    · rw [if_neg y0] at b1 c1
      by_cases y1 : y = i3 1
      · rw [if_pos y1] at b1 c1
        exact ⟨_, G2, g3, b1, hs2, c1, fin.1, fin.2⟩
      · rw [if_neg y1] at b1 c1
        exact ⟨_, G2, g3, b1, hs2, c1, fin.1, fin.2⟩
