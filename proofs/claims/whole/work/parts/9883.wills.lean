/-! wills: a text whole -/
theorem wlL {D E x x' w : Nat} {V U : pV} {L L' : sm_L} {B : Nat → Nat} {n : Nat} {T : pT} {vd : Int32} (hD0 : 33 ≤ D) (hE0 : 26 ≤ E) (hw : pW w) (hT : okT T) (hn : n ≤ 150) : ∀ (f : Nat) (c : St) (X g : sm_G) (st z Q i : Nat), n - c.2.2 < f → c.1 = 0 → jI X g B n c w T 0 st z Q → rE g B n c → 4 * z ≤ c.2.2 → 4 * st ≤ c.2.2 → Q ≤ st → 4 * i ≤ c.2.2 →
    ∃ X' g' c', hD D 170 17 [.ref w, .ref 2, .null, .null, .int (i3 i)] 342 (RR V) x X L = oV x X' L ∧ hD E 237 77 [.ref 156, .int vd, .null, .null] 342 (RR U) x' g L' = hD E 237 106 [.ref 156, .int vd, .null, .null] 342 (RR U) x' g' L' ∧ jO X g X' g' B n c c' w T 0 0 0 st z Q := by
  have hwl := pW_lt hw
  intro f
  induction f with
  | zero => intro c X g st z Q i hf; omega
  | succ f ih =>
    intro c X g st z Q i hf q J rE0 hz hst hQ hi
    obtain ⟨d, rfl⟩ : ∃ d, D = d + 4 := ⟨D - 4, by omega⟩
    obtain ⟨hr, hm, x4, x5, x6, x7, g0, g1', g34, g35, g8⟩ := J
    have hcn := hr.le q
    have e5 := s_135b (d := d + 3) (x := x) (V := V) (L := L) hr.2.1 hr.2.2.2.1
    rw [if_pos q] at e5
    obtain ⟨X1, a1, a2, a3, _⟩ := s_136 (D := d + 4) (x := x) (V := V) (L := L) (by omega) hr q
    obtain ⟨b1, b2, b3, b4⟩ := rE0.at q
    rw [h_170_17 hw, if_pos (by rw [i3_lt (by omega) (by omega)]; omega), e5, aI_o, if_pos rfl, a1, aI_o, h_237_77, rE0.2.2.2.1, if_pos (show i3 c.1 = i3 0 by rw [q]), b1, rE0.1.2.1]
    by_cases y : c.2.2 < n
    · obtain ⟨X2, g2, c', s1, s2, ⟨o1, o2, o3, o4, o5, o6⟩, s3⟩ := step_0 (d + 4) E x x' V U L L' B n T w c X1 g st z Q (by omega) (by omega) hw hT hn q ⟨a3, hm, by rw [a2 _ _ (by omega)]; exact x4, by rw [a2 _ _ (by omega)]; exact x5, by rw [a2 _ _ (by omega)]; exact x6, by rw [a2 _ _ (by omega)]; exact x7, g0, g1', g34, g35, g8⟩ hz hst hQ
      have fX : cW2 w z X X2 := (a2.W (by omega)).tr o3 (Nat.le_refl _)
      obtain ⟨g3, t1, t2, t3⟩ := s_221 (D := E) (x := x') (V := U) (L := L') (by omega) o2
      have fg : mW2 st Q g g3 := o4.tr (show mW2 st Q g2 g3 from fun r k a _ _ => t3 r k (by omega)) (Nat.le_refl _) (Nat.le_refl _)
      rw [if_pos y, if_pos rfl, i3_add, s1, aV_o, if_pos (by rw [i3_lt (by omega) (by omega)]; exact y), s2, aV_o, t1, aV_o]
      by_cases v : c'.1 = 0
      · obtain ⟨p8, st', z', Q', p1, p2, p3, p4, p5, p6, p7, p9, p10⟩ := o6 v
        have h4 := s3 v
        obtain ⟨X', g', c2, k1, k2, r1, r2, r3, r4, r5, r6⟩ := ih c' X2 g3 st' z' Q' (i + 1) (by omega) v ⟨o1, t2.M, p1, p2, by rw [o3.2.1, a2 _ _ (by omega)]; exact x6, by rw [o3.2.2.1, a2 _ _ (by omega)]; exact x7, by rw [fg _ _ (by omega) (by omega) (by omega)]; exact g0, by rw [fg _ _ (by omega) (by omega) (by omega)]; exact g1', by rw [t3 _ _ (by omega)]; exact p3, by rw [t3 _ _ (by omega)]; exact p4, by rw [t3 _ _ (by omega)]; exact p8⟩ t2 (by omega) (by omega) (by omega) (by omega)
        obtain ⟨l1, l2, l3, l4, l5, l6, l7⟩ := p5
        have S3 : seg X2 g3 w T 0 st st' z z' Q Q' := seg.kp ⟨l1, l2, l3, l4, l5, l6, l7⟩ (fun _ _ _ _ _ _ => rfl) (fun j _ _ => t3 _ _ (by omega)) (fun j _ => t3 _ _ (by omega)) (by rw [t3 _ _ (by omega)]; exact p4) (by omega)
        refine ⟨X', g', c2, k1, k2, r1, r2, fX.tr r3 l4, fg.tr r4 l3 l5, (by obtain ⟨zz, z0, z1, z2⟩ := r5; exact ⟨zz, by omega, z1, z2⟩), fun u => ?_⟩
        obtain ⟨w8, st2, z2, Q2, w1, w2, w3, w4, w5, w6, w7, w9, w10⟩ := r6 u
        exact ⟨w8, st2, z2, Q2, w1, w2, w3, w4, S3.app r3 r4 w5 (by omega), by omega, by omega, by omega, w10⟩
      · have e6 := s_135b (d := d + 3) (x := x) (V := V) (L := L) o1.2.1 o1.2.2.2.1
        rw [if_neg v] at e6
        have hk := t2.2.1
        rw [h_170_17 hw, if_pos (by rw [i3_lt (by omega) (by omega)]; omega), e6, aI_o, if_neg (show ¬ i3 1 = i3 0 by decide), h_237_77, t2.2.2.2.1, if_neg (by rw [i3_eq (by omega) (by omega)]; exact v)]
        exact ⟨X2, g3, c', rfl, rfl, o1, t2.M, fX, fg, o5, fun z => absurd z v⟩
    · rw [if_neg y, if_neg (show ¬ i3 1 = i3 0 by decide), if_neg (by rw [i3_lt (by omega) (by omega)]; exact y)]
      refine ⟨X1, g, c, rfl, rfl, a3, hm, a2.W (by omega), mF_o.W, ⟨z, Nat.le_refl _, by omega, by rw [a2 _ _ (by omega)]; exact x4⟩, fun _ => ⟨g8, st, z, Q, by rw [a2 _ _ (by omega)]; exact x4, by rw [a2 _ _ (by omega)]; exact x5, g34, g35, seg_nil g35, by omega, by omega, by omega, hcn⟩⟩
theorem s_170 {D E x x' w : Nat} {V U : pV} {L L' : sm_L} {B : Nat → Nat} {n : Nat} {T : pT} {vd : Int32} {X g : sm_G} (hD0 : 34 ≤ D) (hE0 : 26 ≤ E) (hw : pW w) (hT : okT T) (hn : n ≤ 150) (hr : rC X B n (0, 0, sk B n 0)) (hm : rE g B n (0, 0, sk B n 0)) (g0 : g 160 0 = i3 (sl T)) (g1' : g 160 1 = i3 (dn T)) (g34 : g 156 34 = i3 0) (g35 : g 156 35 = i3 0) (g8 : g 156 8 = i3 0) :
    ∃ X' g' c', sm_cv0 D 170 342 (RR V) [.ref w, .ref 2, .int (i3 (sl T)), .int (i3 (dn T))] (x, X, L) = oV x X' L ∧ hD E 237 77 [.ref 156, .int vd, .null, .null] 342 (RR U) x' g L' = hD E 237 106 [.ref 156, .int vd, .null, .null] 342 (RR U) x' g' L' ∧ rC X' B n c' ∧ rM g' B n c' ∧ (∀ r k, ¬ (w ≤ r ∧ r < w + 5) → ¬ (r = 2 ∧ 3 ≤ k ∧ k ≤ 8) → X' r k = X r k) ∧ mW2 0 0 g g' ∧ (c'.1 = 0 → ∃ st z Q, X' w 4 = i3 z ∧ X' w 5 = i3 st ∧ g' 156 34 = i3 st ∧ g' 156 35 = i3 Q ∧ seg X' g' w T 0 0 st 0 z 0 Q ∧ z ≤ 37 ∧ st ≤ 37 ∧ Q ≤ st) := by
  obtain ⟨d, rfl⟩ : ∃ d, D = d + 2 := ⟨D - 2, by omega⟩
  have hwl := pW_lt hw
  rw [m_170 hw, m_169 hw, aV_o]
  have u : ∀ r k, ¬ (r = w ∧ 4 ≤ k ∧ k ≤ 7) → sm_up (sm_up (sm_up (sm_up X w 4 (i3 0)) w 5 (i3 0)) w 6 (i3 (sl T))) w 7 (i3 (dn T)) r k = X r k := fun r k y => by rw [sm_up_ne (by omega), sm_up_ne (by omega), sm_up_ne (by omega), sm_up_ne (by omega)]
  have u4 : sm_up (sm_up (sm_up (sm_up X w 4 (i3 0)) w 5 (i3 0)) w 6 (i3 (sl T))) w 7 (i3 (dn T)) w 4 = i3 0 := by rw [sm_up_ne (by omega), sm_up_ne (by omega), sm_up_ne (by omega), sm_up_same]
  have u5 : sm_up (sm_up (sm_up (sm_up X w 4 (i3 0)) w 5 (i3 0)) w 6 (i3 (sl T))) w 7 (i3 (dn T)) w 5 = i3 0 := by rw [sm_up_ne (by omega), sm_up_ne (by omega), sm_up_same]
  have u6 : sm_up (sm_up (sm_up (sm_up X w 4 (i3 0)) w 5 (i3 0)) w 6 (i3 (sl T))) w 7 (i3 (dn T)) w 6 = i3 (sl T) := by rw [sm_up_ne (by omega), sm_up_same]
  have u7 : sm_up (sm_up (sm_up (sm_up X w 4 (i3 0)) w 5 (i3 0)) w 6 (i3 (sl T))) w 7 (i3 (dn T)) w 7 = i3 (dn T) := sm_up_same _ _ _ _
  generalize sm_up (sm_up (sm_up (sm_up X w 4 (i3 0)) w 5 (i3 0)) w 6 (i3 (sl T))) w 7 (i3 (dn T)) = X1 at *
  have hr1 : rC X1 B n (0, 0, sk B n 0) := hr.keep (fun r k y => u r k (by omega))
  obtain ⟨X', g', c', e1, e2, o1, o2, o3, o4, _, o6⟩ := wlL (D := d + 1) (E := E) (x := x) (x' := x') (V := V) (U := U) (L := L) (L' := L') (vd := vd) (by omega) hE0 hw hT hn (n + 1) (0, 0, sk B n 0) X1 g 0 0 0 0 (by omega) rfl ⟨hr1, hm.M, u4, u5, u6, u7, g0, g1', g34, g35, g8⟩ hm (by omega) (by omega) (by omega) (by omega)
  refine ⟨X', g', c', e1, e2, o1, o2, fun r k y1 y2 => by rw [o3.1 r k y1 y2]; exact u r k (by omega), o4, fun y => ?_⟩
  obtain ⟨_, st, z, Q, p1, p2, p3, p4, p5, p6, p7, p8, p9⟩ := o6 y
  exact ⟨st, z, Q, p1, p2, p3, p4, p5, by omega, by omega, by omega⟩
/-- what a piece that is a whole will says -/
theorem seg.okW {X g : sm_G} {w : Nat} {T : pT} {st z Q : Nat} (S : seg X g w T 0 0 st 0 z 0 Q) (h4 : X w 4 = i3 z) (h34 : g 156 34 = i3 st) (hz : z ≤ 37) (hst : st ≤ 37) (hQ : Q ≤ st) : okW T (Wof X g w) ∧ wS (Wof X g w) = st ∧ wZ (Wof X g w) = z ∧ wQ (Wof X g w) = Q := by
  obtain ⟨a1, a2, a3, a4, a5, a6, n, a7⟩ := S
  have e1 : wS (Wof X g w) = st := by
    show (g 156 34).toNatClampNeg = st
    rw [h34, i3_cl (by omega)]
  have e2 : wZ (Wof X g w) = z := by
    show (X w 4).toNatClampNeg = z
    rw [h4, i3_cl (by omega)]
  have e3 : wQ (Wof X g w) = Q := by
    show (g 156 35).toNatClampNeg = Q
    rw [a6, i3_cl (by omega)]
  refine ⟨⟨by rw [e1]; exact hst, by rw [e2]; omega, by rw [e3]; omega, n, ?_⟩, e1, e2, e3⟩
  rw [e1, e2]
  exact a7
theorem seg.cWl {X g : sm_G} {w : Nat} {T : pT} {st z Q : Nat} (S : seg X g w T 0 0 st 0 z 0 Q) (h4 : X w 4 = i3 z) (h5 : X w 5 = i3 st) (h34 : g 156 34 = i3 st) (hz : z ≤ 37) (hst : st ≤ 37) (hQ : Q ≤ st) : cWl X w (Wof X g w) := by
  obtain ⟨_, e1, e2, _⟩ := S.okW h4 h34 hz hst hQ
  refine ⟨by rw [e2]; exact h4, by rw [e1]; exact h5, fun i hi => ?_⟩
  rw [e2] at hi
  obtain ⟨n1, n2, n3, n4⟩ := S.1 i (by omega) hi
  exact ⟨(nn1_v n1).1, (nn1_v n2).1, (nn1_v n3).1, (nn1_v n4).1⟩
