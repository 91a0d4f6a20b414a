theorem oI_inj {a b : Int32} {x : Nat} {G G' : sm_G} {L : sm_L} (h : oI a x G L = oI b x G' L) : a = b ∧ G = G' := by
  unfold oI at h
  injection h with h
  injection h with h1 h2
  injection h2 with h3 h4
  injection h4 with h5 h6
  injection h1 with h7
  injection h7 with h8
  injection h8 with h9
  exact ⟨h9, h5⟩
theorem op_58 {d x : Nat} {V : pV} {G : sm_G} {L : sm_L} {v w : Int32} (I : Inv V G) : OpI d x V G L 58 [.ref 1, .int v, .int w] 303 [.ref 156, .int v, .int w] eA := by
  have I0 := I
  obtain ⟨T, K, c, H, W, hS, hh, hn⟩ := I
  have hB := hS.T.gb
  have ec := m_58 (d := d + 59) (x := x) (G := G) (L := L) (V := V) (v1 := v) (v2 := w) hS.V
  rw [s_33, aV_if] at ec
  refine OpI_1 (Y := ?Y) I0 ec ?_ (by decide) ?_
  rotate_left
  · intro x1 G1 hs
    rw [m_303, s_218c]
    simp only [aI_o]
    rw [mbad g00_0 (by decide) (by decide) (by decide)]
    rfl
  · intro h1
    obtain ⟨j, rfl, hj⟩ := rngl (by omega) h1
    obtain ⟨G1, a1, a2, a3, a4, a5⟩ := s_15 (d := d + 55) (x := x) (L := L) (V := V) hS.V hS.c hS.p hS.T hS.P hS.K hh
    have hsl := pS_lt (hV1 hS.V)
    have f1 : ∀ r k, ¬ sc r k → G1 r k = G r k := fun r k a => a2 r k (by unfold sc at a; omega) (by unfold sc at a; omega)
    have hS1 := hS.keep f1
    obtain ⟨G2, b1, b2, b3⟩ := s_81 (d := d + 57) (x := x) (L := L) (V := V) (r := v) hS1.V hS1.c hS1.p hS1.T hS1.P hS1.K a5
    have hS2 := hS1.keep (G' := G2) (fun r k a => b2 r k (by unfold sc at a; omega))
    have h17 : G2 1 17 = i3 0 := by rw [b2 _ _ (by omega)]; exact a4
    have hok : hOk G2 T (H c) K := fun m hm => by
      rw [b2 _ _ (by omega), b2 _ _ (by omega), b2 _ _ (by omega)]
      exact a5 m hm
    have hn2 : nHr G2 T (H c) K W := hn.keep hS.T (by rw [b2 _ _ (by omega), a2 _ _ (by omega) (by omega)]) (fun r k p q => by rw [b2 _ _ (by omega), a2 _ _ (by omega) (by omega)])
    have s2 : sM G G2 := fun r k a => by rw [b2 _ _ (by omega), a2 _ _ (by omega) (by omega)]
    have nI : ∀ X, sM G X → nIn (g00 X) T (H c) K W := fun X hX => ⟨hS.m.sM hS.T hS.P hX, fun k hk => by rw [g00_ne (by omega), hX _ _ (by omega)]; exact hS.w k hk, fun e he => (hS.wl e he).2.2.keep he (fun r k q => by rw [g00_ne (by omega), hX _ _ (by omega)])⟩
    have h0 := drw_ok (T := T) (P := H c) (K := K) (r := v) 301 (by omega)
    have he : ∀ k, (drw T (H c) K v).1 k ≤ 1000 := fun k => by
      have a := h0 k
      have b : (drw T (H c) K v).1 k = 1000 ∨ (drw T (H c) K v).1 k < 301 := a
      omega
    have md : ∀ X, sM G X → ∃ g' n, n < 16 ∧ (∃ G3, sm_cv0 (d + 59) 21 342 (RR V) [.ref 1, .ref 58, .int (i3 0)] (x, G2, L) = oI (i3 n) x G3 L ∧ ∀ r k, ¬ (84 ≤ r ∧ r < 105) → G3 r k = G2 r k) ∧ (∀ y, sm_aI (sm_cv0 (d + 59) 304 342 (RR V) [.ref 156, .int v] (x, g00 X, L)) (fun a3 x3 G3 L3 => hD (d + 59) 303 42 [.ref 156, .null, .int y, .int a3, .int (i3 0), .int (i3 0), .null] 342 (RR V) x3 G3 L3) oX = if y = i3 0 then oI (i3 n) x g' L else if y = i3 1 then oI (i3 (lst (fun m => rmB T (fun k => slp T (H c) (fun k => k) (drw T (H c) K v).1 K k m)))) x g' L else oI (i3 (cntb (fun k => decide ((drw T (H c) K v).1 k = 1000)) (sl T))) x g' L) ∧ ∀ r k, ¬ (306 ≤ r ∧ r ≤ 330) → ¬ (r = 156 ∧ (k = 41 ∨ k = 56 ∨ k = 57)) → g' r k = g00 X r k := by
      intro X hX
      obtain ⟨G3, g', n, n1, n2, n3, n4, n5, n6, n7⟩ := s_304 (d := d + 47) (x := x) (L := L) (V := V) (d0 := d + 51) (x0 := x) (L0 := L) (r := v) hS2 h17 hok (nI X hX) b3
      have hmg : mH g' T (H c) K := (nI X hX).1.keep hS.T hS.P (fun r k q => n5 r k (by unfold inM at q; omega) (by unfold inM at q; omega))
      refine ⟨g', n, n1, ⟨G3, n2, n4⟩, fun y => ?_, n5⟩
      have n3' : sm_cv0 (d + 59) 304 342 (RR V) [.ref 156, .int v] (x, g00 X, L) = oI (i3 n) x g' L := n3
      rw [n3', aI_o, l_303 hmg hS.T (fun k hk => ⟨n6 k hk, he k⟩) (fun m hm => ⟨n7 m hm, Nat.lt_of_lt_of_le (rmB_lt T hS.T _) (by decide)⟩)]
    have e15 : ∀ (F : Nat → Nat → sm_G → sm_L → Option (sm_Res × sm_D)), sm_aR (sm_cv0 (d + 59) 15 342 (RR V) [.ref 1] (x, G, L)) F oX = F 54 x G1 L := fun F => by
      have a1' : sm_cv0 (d + 59) 15 342 (RR V) [.ref 1] (x, G, L) = oR 54 x G1 L := a1
      rw [a1', aR_o]
    have b1' : sm_cv0 (d + 59) 81 342 (RR V) [.ref 54, .ref V.1, .int v] (x, G1, L) = oI (i3 (lstB T (drw T (H c) K v).1)) x G2 L := b1
    have z0 : ∀ (g' X : sm_G), (∀ r k, ¬ (306 ≤ r ∧ r ≤ 330) → ¬ (r = 156 ∧ (k = 41 ∨ k = 56 ∨ k = 57)) → g' r k = g00 X r k) → g' 156 0 = i3 0 := fun g' X h => by rw [h _ _ (by omega) (by omega)]; exact g00_0
    have fin : ∀ (g' X : sm_G), (∀ r k, ¬ (306 ≤ r ∧ r ≤ 330) → ¬ (r = 156 ∧ (k = 41 ∨ k = 56 ∨ k = 57)) → g' r k = g00 X r k) → (∀ r k, ¬ (84 ≤ r ∧ r < 105) → X r k = G2 r k) → Inv V g' := fun g' X h h' => Inv_q (G1 := X) hS2 (fun r k a => h' r k (by unfold sc at a; omega)) (Or.inr ⟨by rw [h' _ _ (by omega)]; exact h17, fun m hm => by rw [h' _ _ (by omega), h' _ _ (by omega), h' _ _ (by omega)]; exact hok m hm⟩) (hn2.keep hS.T (h' _ _ (by omega)) (fun r k p q => h' _ _ (by omega))) (fun r k a => by rw [h r k (by unfold sc at a; omega) (by unfold sc at a; omega)]; exact g00_ne (by unfold sc at a; omega))
    obtain ⟨g2, n, n1, ⟨G3, n2, n3⟩, n4, n5⟩ := md G2 s2
    obtain rfl | rfl | rfl : j = 0 ∨ j = 1 ∨ j = 2 := by omega
    · have s3 : sM G G3 := fun r k a => by rw [n3 r k (by omega)]; exact s2 r k a
      obtain ⟨g3, n', m1', ⟨G4, m2', m3'⟩, m4', m5'⟩ := md G3 s3
      obtain ⟨q1, q2⟩ := oI_inj (n2.symm.trans m2')
      refine ⟨i3 n, G3, g3, ?_, s3, ?_, z0 g3 G3 m5', fin g3 G3 m5' n3⟩
      · rw [e15, show sm_is 54 342 1 = true by decide +kernel, gd_tt, b1', aI_o, if_pos rfl, gd_tt, q_54_3 V, n2, aI_o]
      · show sm_aI (sm_cv0 (d + 59) 304 342 (RR V) [.ref 156, .int v] (x, g00 G3, L)) _ oX = _
        rw [m4', if_pos rfl, q1]
    · have hr58 : ∀ m, m < 301 → G2 58 m = i3 ((fun m => rmB T (fun k => slp T (H c) (fun k => k) (drw T (H c) K v).1 K k m)) m) ∧ (fun m => rmB T (fun k => slp T (H c) (fun k => k) (drw T (H c) K v).1 K k m)) m < 1024 := fun m hm => ⟨b3 m hm, Nat.lt_of_lt_of_le (rmB_lt T hS.T _) (by decide)⟩
      have e19 := s_19 (d := d + 58) (x := x) (V := V) (L := L) (Or.inr rfl) hr58
      have el := lst_le (fun m => rmB T (fun k => slp T (H c) (fun k => k) (drw T (H c) K v).1 K k m))
      have em : ∀ n, mi n + i3 1 = i3 n := fun n => by
        cases n with
        | zero => rw [mi_0 rfl]; decide
        | succ n => rw [mi_s (by omega), i3_add]; rfl
      refine ⟨i3 (lst (fun m => rmB T (fun k => slp T (H c) (fun k => k) (drw T (H c) K v).1 K k m))), G2, g2, ?_, s2, ?_, z0 g2 G2 n5, fin g2 G2 n5 (fun _ _ _ => rfl)⟩
      · rw [e15, show sm_is 54 342 1 = true by decide +kernel, gd_tt, b1', aI_o, if_neg (by decide), if_pos rfl, gd_tt, q_54_3 V, e19, aI_o, em]
      · show sm_aI (sm_cv0 (d + 59) 304 342 (RR V) [.ref 156, .int v] (x, g00 G2, L)) _ oX = _
        rw [n4, if_neg (by decide), if_pos rfl]
    · have hll : lstB T (drw T (H c) K v).1 < 1024 := Nat.lt_of_lt_of_le (bs_lt _ _) (show 2 ^ sl T ≤ 2 ^ 10 from Nat.pow_le_pow_right (by decide) (by omega))
      have e7 := s_7 (d := d + 58) (x := x) (V := V) (G := G2) (L := L) hll
      have epc : pc (lstB T (drw T (H c) K v).1) 10 = cntb (fun k => decide ((drw T (H c) K v).1 k ≠ 1000)) (sl T) := by
        unfold lstB
        rw [pc_bs]
        by_cases q : 10 ≤ sl T
        · omega
        · rw [if_neg q]
      have ecn := cnt_n (fun k => decide ((drw T (H c) K v).1 k ≠ 1000)) (sl T)
      have efn : (fun k => !decide ((drw T (H c) K v).1 k ≠ 1000)) = (fun k => decide ((drw T (H c) K v).1 k = 1000)) := by
        funext k
        by_cases q : (drw T (H c) K v).1 k = 1000
        · rw [decide_eq_true q, decide_eq_false (fun z => z q)]; rfl
        · rw [decide_eq_false q, decide_eq_true q]; rfl
      rw [efn] at ecn
      refine ⟨i3 (cntb (fun k => decide ((drw T (H c) K v).1 k = 1000)) (sl T)), G2, g2, ?_, s2, ?_, z0 g2 G2 n5, fin g2 G2 n5 (fun _ _ _ => rfl)⟩
      · rw [e15, show sm_is 54 342 1 = true by decide +kernel, gd_tt, b1', aI_o, if_neg (by decide), if_neg (by decide), e7, aI_o, hS2.c.gsl, i3_sub (by omega), epc]
        congr 2
        omega
      · show sm_aI (sm_cv0 (d + 59) 304 342 (RR V) [.ref 156, .int v] (x, g00 G2, L)) _ oX = _
        rw [n4, if_neg (by decide), if_neg (by decide)]
