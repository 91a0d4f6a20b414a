/-! minute by minute -/
theorem dat_x (T P : pT) (m : Nat) : (dat T P m ^^^ if m = 0 then fo T else dat T P (m - 1)) = nx T P m 0 := by
  have key : ∀ p, (nx T P m p) ^^^ p = nx T P m 0 := fun p => by
    rw [nx_xor, Nat.xor_comm p, Nat.xor_assoc, Nat.xor_self, Nat.xor_zero]
  cases m with
  | zero => exact key _
  | succ m => exact key _
section PLAY
variable {d x d' x' b s : Nat} {V U : pV} {L L' : sm_L} {T P : pT} {K m t : Nat} {W : Nat → pT} {ρ : Nat → Nat} {v1 : Int32} {r4 : Nat}
/-- what the class changes in a minute, and the model -/
def FC (b m : Nat) (G G' : sm_G) : Prop := ∀ r k, ¬ (r = b ∧ (k = 4 ∨ k = 6 ∨ k = 7)) → (∀ f, f < 4 → r ≠ b + 5 + 4 * f ∧ r ≠ b + 6 + 4 * f) → ¬ ((r = b + 3 ∨ r = b + 4) ∧ k = m) → G' r k = G r k
def FM (m : Nat) (g g' : sm_G) : Prop := ∀ r k, ¬ (310 ≤ r ∧ r < 314 ∧ k = m) → ¬ (315 ≤ r ∧ r < 319) → ¬ (320 ≤ r ∧ r < 324) → ¬ (r = 324 ∧ k = m) → ¬ (325 ≤ r ∧ r ≤ 330) → ¬ (r = 156 ∧ (k = 56 ∨ k = 57)) → g' r k = g r k
/-- what becomes of the dreamers in a minute -/
def mnF (T : pT) (t m : Nat) (ρ ρ' : Nat → Nat) (g g' : sm_G) : Prop := ∀ f, f < dr T → g' (315 + f) 0 = (if gone t (arr T m f (ρ f)) = true then i3 m else g (315 + f) 0) ∧ (ρ' f = 0 ↔ (arr T m f (ρ f) = 0 ∨ gone t (arr T m f (ρ f)) = true)) ∧ (ρ' f ≠ 0 → t.testBit (ρ' f - 1) = true)
theorem wR.com {G g G' g' : sm_G} {b e r : Nat} {T W : pT} {c : Int32} (h : wR G g b e T W r) (he : e < 4) (hG : ∀ a k, (a = b + 5 + 4 * e ∧ k ≠ 6) ∨ a = b + 6 + 4 * e → G' a k = G a k) (hg : ∀ a k, (325 ≤ a ∧ a ≤ 330) ∨ (a = 315 + e ∧ k ≠ 4) ∨ a = 320 + e → g' a k = g a k) (h1 : G' (b + 5 + 4 * e) 6 = G (b + 5 + 4 * e) 6 + c) (h2 : g' (315 + e) 4 = g (315 + e) 4 + c) : wR G' g' b e T W r := by
  obtain ⟨r1, r2, r3, ⟨a1, a2, a3, a4, a5⟩, ⟨z, b1, b2, b3, b4⟩, ⟨n, c1, c2, c3, c4⟩, p, st, h, d1, d2, d3, d4, n2, f, q, e1, e2⟩ := h
  refine ⟨?_, ?_, r3, ⟨?_, ?_, ?_, ?_, ?_⟩, ⟨z, b1, ?_, ?_, ?_⟩, ⟨n, c1, ?_, ?_, ?_⟩, p, st, h, ?_, ?_, ?_, d4, n2, f, q, e1, e2.keep (fun k _ => hG _ _ (by omega)) (fun j _ => hg _ _ (by omega))⟩
  · rw [hG _ _ (by omega)]; exact r1
  · rw [hg _ _ (by omega)]; exact r2
  · rw [hG _ _ (by omega), hg _ _ (by omega)]; exact a1
  · rw [hG _ _ (by omega), hg _ _ (by omega)]; exact a2
  · rw [hG _ _ (by omega), hg _ _ (by omega)]; exact a3
  · rw [hG _ _ (by omega), hg _ _ (by omega)]; exact a4
  · rw [h1, h2, a5]
  · rw [hG _ _ (by omega)]; exact b2
  · rw [hg _ _ (by omega)]; exact b3
  · rw [hg _ _ (by omega)]; exact b4
  · rw [hG _ _ (by omega)]; exact c2
  · rw [hg _ _ (by omega)]; exact c3
  · rw [hg _ _ (by omega)]; exact c4
  · rw [hG _ _ (by omega)]; exact d1
  · rw [hg _ _ (by omega)]; exact d2
  · rw [hg _ _ (by omega)]; exact d3
theorem l_min {G g : sm_G} {o z t0 ex : Nat} (hV : okV V) (hb : pN b) (hs : pS s) (hT : okT T) (hP : okP T P) (hC : nCx V G g b s T P K W) (hR : ∀ f, f < dr T → wR G g b f T (W f) (ρ f) ∧ (ρ f ≠ 0 → cM T f < m)) (hm : m ≤ z) (hz : z ≤ 300) (ho : o < 1024) (b4 : G b 4 = i3 o) (m56 : g 156 56 = i3 o) (m57 : g 156 57 = i3 m) (m307 : g 307 m = i3 t) (ht : t < 1024)
    (hh : ∀ j, j < 301 → G 57 j = i3 (dat T P j)) (kr : sm_is r4 342 20 = true) (nr : sm_N r4 = 301) (hr4 : r4 = 56 ∨ r4 = 58) (hrow : G r4 m = i3 t0) (hex : t0 ||| ex = t) :
    ∃ (G' g' : sm_G) (ρ' : Nat → Nat) (o' : Nat), hD (d + 5) 88 8 [.ref b, .ref s, .ref 5, .ref 54, .ref r4, .int (i3 ex), .null, .int (i3 z), .int (i3 m), .null] 342 (RR V) x G L = hD (d + 5) 88 8 [.ref b, .ref s, .ref 5, .ref 54, .ref r4, .int (i3 ex), .null, .int (i3 z), .int (i3 (m + 1)), .null] 342 (RR V) x G' L ∧
      hD (d' + 5) 264 99 [.ref 156, .int v1, .null, .null] 342 (RR U) x' g L' = hD (d' + 5) 264 99 [.ref 156, .int v1, .null, .null] 342 (RR U) x' g' L' ∧ FC b m G G' ∧ FM m g g' ∧ (∀ f, f < dr T → wR G' g' b f T (W f) (ρ' f) ∧ (ρ' f ≠ 0 → cM T f < m + 1)) ∧ o' < 1024 ∧ G' b 4 = i3 o' ∧ g' 156 56 = i3 o' ∧ g' 156 57 = i3 (m + 1) ∧
      G' (b + 4) m = i3 o' ∧ g' 324 m = i3 o' ∧ G' (b + 3) m = i3 (pk ρ' (dr T)) ∧ (∀ f, f < dr T → g' (310 + f) m = mi (ρ' f)) ∧ mnF T t m ρ ρ' g g' ∧ ∀ f, dr T ≤ f → f < 4 → G' (b + 5 + 4 * f) 10 = G (b + 5 + 4 * f) 10 := by
  have hB := hT.gb
  have hbl := pN_lt hb
  have hsl := pS_lt hs
  have hnx : nx T P m o < 1024 := nx_lt hT hP m ho
  -- the class comes to its first loop
  have Gx : ∀ r k, ¬ (r = b ∧ (k = 4 ∨ k = 6 ∨ k = 7)) → sm_up (sm_up (sm_up G b 6 (i3 m)) b 7 (i3 t)) b 4 (i3 (nx T P m o)) r k = G r k := fun r k q => by rw [sm_up_ne (by omega), sm_up_ne (by omega), sm_up_ne (by omega)]
  have G4 : sm_up (sm_up (sm_up G b 6 (i3 m)) b 7 (i3 t)) b 4 (i3 (nx T P m o)) b 4 = i3 (nx T P m o) := sm_up_same _ _ _ _
  have G6 : sm_up (sm_up (sm_up G b 6 (i3 m)) b 7 (i3 t)) b 4 (i3 (nx T P m o)) b 6 = i3 m := by rw [sm_up_ne (by omega), sm_up_ne (by omega), sm_up_same]
  have G7 : sm_up (sm_up (sm_up G b 6 (i3 m)) b 7 (i3 t)) b 4 (i3 (nx T P m o)) b 7 = i3 t := by rw [sm_up_ne (by omega), sm_up_same]
  have c1 : hD (d + 5) 88 8 [.ref b, .ref s, .ref 5, .ref 54, .ref r4, .int (i3 ex), .null, .int (i3 z), .int (i3 m), .null] 342 (RR V) x G L = hD (d + 5) 88 60 [.ref b, .ref s, .ref 5, .ref 54, .ref r4, .int (i3 ex), .null, .int (i3 z), .int (i3 m), .int (i3 0)] 342 (RR V) x (sm_up (sm_up (sm_up G b 6 (i3 m)) b 7 (i3 t)) b 4 (i3 (nx T P m o))) L := by
    have e80 := s_80 (d := d + 4) (x := x) (L := L) (V := V) (G := sm_up (sm_up G b 6 (i3 m)) b 7 (i3 t)) (s := s) (m := m) (T := T) (P := P) hs (hC.1.keep (fun r k q => by unfold inC at q; rw [sm_up_ne (by omega), sm_up_ne (by omega)])) (fun j hj => by rw [sm_up_ne (by omega), sm_up_ne (by omega)]; exact hh j hj) (by omega)
    have ee : (i3 (dat T P m) ^^^ if m = 0 then i3 (fo T) else i3 (dat T P (m - 1))) = i3 (nx T P m 0) := by
      rw [← dat_x]
      split <;> exact i3_xor _ _
    rw [ee] at e80
    have x4 : sm_up (sm_up G b 6 (i3 m)) b 7 (i3 t) b 4 = i3 o := by rw [sm_up_ne (by omega), sm_up_ne (by omega)]; exact b4
    have xr : sm_up G b 6 (i3 m) r4 m = i3 t0 := by rw [sm_up_ne (by omega)]; exact hrow
    rw [h_88_8 hb hs, ldi_e kr nr]
    simp (disch := omega) only [i3_add, i3_mul, i3_sub, i3_m1, i3_lt, i3_le, i3_eq, m1_lt, lt_m1, m1_le, le_m1, i3_nm1, m1_ni3, i3_cl, i3_in, i3_or, i3_and, i3_xor, i3_shl, i3_shr, sh_tb, tb_eq0, gd_tt, aI_o, aV_o, aL_o, aR_o, zd_0, zd_1, if_true, if_false, ite_self, eq_self, Bool.true_eq_false, Bool.false_eq_true, bi_0, bi_1, bi_zd, Nat.not_lt_zero, hm, xr, hex, e80, x4, ← nx_xor, show m < 301 by omega]
  -- the model
  have gx : ∀ r k, ¬ (r = 156 ∧ k = 56) → sm_up g 156 56 (i3 (nx T P m o)) r k = g r k := fun r k q => sm_up_ne (by omega)
  have g56 : sm_up g 156 56 (i3 (nx T P m o)) 156 56 = i3 (nx T P m o) := sm_up_same _ _ _ _
  have c2 : hD (d' + 5) 264 99 [.ref 156, .int v1, .null, .null] 342 (RR U) x' g L' = hD (d' + 5) 264 127 [.ref 156, .int v1, .int (i3 0), .null] 342 (RR U) x' (sm_up g 156 56 (i3 (nx T P m o))) L' := by
    have e261 := s_261 (d := d' + 4) (x := x') (L := L') (V := U) (a := o) hC.2.1 hT hP (show m < 400 by omega)
    rw [h_264_99, m57, m56]
    simp (disch := omega) only [i3_add, i3_mul, i3_sub, i3_m1, i3_lt, i3_le, i3_eq, m1_lt, lt_m1, m1_le, le_m1, i3_nm1, m1_ni3, i3_cl, i3_in, i3_or, i3_and, i3_xor, i3_shl, i3_shr, sh_tb, tb_eq0, gd_tt, aI_o, aV_o, aL_o, aR_o, zd_0, zd_1, if_true, if_false, ite_self, eq_self, Bool.true_eq_false, Bool.false_eq_true, bi_0, bi_1, bi_zd, Nat.not_lt_zero, e261, show m < 301 by omega]
  generalize sm_up (sm_up (sm_up G b 6 (i3 m)) b 7 (i3 t)) b 4 (i3 (nx T P m o)) = G1 at *
  generalize sm_up g 156 56 (i3 (nx T P m o)) = g1 at *
  have hC1 : nCx V G1 g1 b s T P K W := hC.keep hV hs hT hP (fun r k q => Gx r k (by omega)) (fun r k q q2 => gx r k (by omega))
  obtain ⟨G2, g2, a1, a2, a3, a4, a5⟩ := l_comes (d := d + 3) (x := x) (L := L) (V := V) (d' := d' + 3) (x' := x') (L' := L') (U := U) (W := W) (ρ := ρ) (v1 := v1) (v5 := i3 ex) (v7 := i3 z) (r4 := r4) hb hs hT hP hC1.1 hC1.2.1 (fun f hf => (hR f hf).2) ht (by omega) G7 G6 (by rw [gx _ _ (by omega)]; exact m57) (by rw [gx _ _ (by omega)]; exact m307) (dr T) 0 G1 g1 (by omega) (fun _ _ _ => rfl) (fun _ _ _ _ => rfl) (fun f hf => ⟨by rw [if_neg (by omega)]; exact (hR f hf).1.keep (fun a k q => Gx a k (by omega)) (fun a k q => gx a k (by omega)), by rw [if_neg (by omega)]⟩)
  have hC2 : nCx V G2 g2 b s T P K W := hC1.keep hV hs hT hP (fun r k q => a3 r k (fun f hf => by omega)) (fun r k q q2 => a4 r k (by omega) (by omega))
  have hρc : ∀ f, f < dr T → ρc T t m ρ f ≠ 0 → cM T f ≤ m := fun f hf q => by
    unfold ρc at q
    by_cases z : gone t (arr T m f (ρ f)) = true
    · rw [if_pos z] at q; exact absurd rfl q
    · rw [if_neg z] at q
      unfold arr at q
      by_cases y : cM T f = m
      · omega
      · rw [if_neg y] at q
        have := (hR f hf).2 q
        omega
  obtain ⟨G3, g3, ρ', o', e1, e2, e3, e4, e5, e6, e7, e8⟩ := l_acts (d := d) (x := x) (L := L) (V := V) (d' := d') (x' := x') (L' := L') (U := U) (W := W) (v1 := v1) (v5 := i3 ex) (v7 := i3 z) (r4 := r4) hV hb hs hT hP hC2 hρc ht (show m ≤ 300 by omega) (by rw [a3 _ _ (fun f hf => by omega)]; exact G7) (by rw [a3 _ _ (fun f hf => by omega)]; exact G6) (by rw [a4 _ _ (by omega) (by omega), gx _ _ (by omega)]; exact m57) (by rw [a4 _ _ (by omega) (by omega), gx _ _ (by omega)]; exact m307) (dr T) 0 G2 g2 (ρc T t m ρ) (nx T P m o) (by omega) hnx (by rw [a3 _ _ (fun f hf => by omega)]; exact G4) (by rw [a4 _ _ (by omega) (by omega)]; exact g56) (fun _ _ _ _ => rfl) (fun _ _ _ _ _ _ => rfl) (fun f hf => ⟨(a5 f hf).1, rfl, Iff.rfl, Or.inl rfl, fun _ => rfl⟩)
  have hC3 : nCx V G3 g3 b s T P K W := hC2.keep hV hs hT hP (fun r k q => e6 r k (fun f hf => by omega) (by omega)) (fun r k q q2 => e7 r k (by omega) (by omega) (by omega) (by omega))
  obtain ⟨G5, k1, k2, k3, k4, k5⟩ := l_96 (d := d + 3) (x := x) (L := L) (V := V) (m := m) (o := o') (ρ := ρ') hb hs hT hC3.1 (show m ≤ 300 by omega) (by rw [e6 _ _ (fun f hf => by omega) (by omega), a3 _ _ (fun f hf => by omega)]; exact G6) (fun f hf => ⟨(e8 f hf).1.1, by have := (e8 f hf).1.2.2.1; omega⟩) e4
  have y57 : g3 156 57 = i3 m := by rw [e7 _ _ (by omega) (by omega) (by omega) (by omega), a4 _ _ (by omega) (by omega), gx _ _ (by omega)]; exact m57
  have gy : ∀ r k, ¬ (r = 324 ∧ k = m) → sm_up g3 324 m (i3 o') r k = g3 r k := fun r k q => sm_up_ne (by omega)
  have gy4 : sm_up g3 324 m (i3 o') 324 m = i3 o' := sm_up_same _ _ _ _
  have c3 : hD (d' + 5) 264 150 [.ref 156, .int v1, .int (i3 (dr T)), .null] 342 (RR U) x' g3 L' = hD (d' + 5) 264 209 [.ref 156, .int v1, .int (i3 0), .null] 342 (RR U) x' (sm_up g3 324 m (i3 o')) L' := by
    rw [h_264_150, hC3.2.1.gdr, y57, e5]
    simp (disch := omega) only [i3_add, i3_mul, i3_sub, i3_m1, i3_lt, i3_le, i3_eq, m1_lt, lt_m1, m1_le, le_m1, i3_nm1, m1_ni3, i3_cl, i3_in, i3_or, i3_and, i3_xor, i3_shl, i3_shr, sh_tb, tb_eq0, gd_tt, aI_o, aV_o, aL_o, aR_o, zd_0, zd_1, if_true, if_false, ite_self, eq_self, Bool.true_eq_false, Bool.false_eq_true, bi_0, bi_1, bi_zd, Nat.not_lt_zero, Nat.lt_irrefl]
  generalize sm_up g3 324 m (i3 o') = g4 at *
  obtain ⟨g5, q1, q2, q3, q4⟩ := l_209 (d' := d' + 2) (x' := x') (L' := L') (U := U) (v1 := v1) (ρ := ρ') (m := m) hT hP (hC3.2.1.keep hT hP (fun r k q => gy r k (by unfold inM at q; omega))) (show m ≤ 300 by omega) (by rw [gy _ _ (by omega)]; exact y57) (fun f hf => ⟨by rw [gy _ _ (by omega)]; exact (e8 f hf).1.2.1, by have := (e8 f hf).1.2.2.1; omega⟩)
  refine ⟨G5, g5, ρ', o', ?_, (((c2.trans a2).trans e2).trans c3).trans q1, fun r k p1 p2 p3 => ?_, fun r k p1 p2 p3 p4 p5 p6 => ?_, fun f hf => ?_, e3, ?_, ?_, q4, k5, ?_, k4, fun f hf => (q3 f hf).1, fun f hf => ?_, fun f hf hf4 => by rw [k2 _ _ (fun f' hf' => by omega) (by omega), e6 _ _ (fun f' hf' => by omega) (by omega), a3 _ _ (fun f' hf' => by omega), Gx _ _ (by omega)]⟩
  · rw [c1, a1, e1, h_88_103 hb hs, hC3.1.gdr]
    simp (disch := omega) only [i3_add, i3_mul, i3_sub, i3_m1, i3_lt, i3_le, i3_eq, m1_lt, lt_m1, m1_le, le_m1, i3_nm1, m1_ni3, i3_cl, i3_in, i3_or, i3_and, i3_xor, i3_shl, i3_shr, sh_tb, tb_eq0, gd_tt, aI_o, aV_o, aL_o, aR_o, zd_0, zd_1, if_true, if_false, ite_self, eq_self, Bool.true_eq_false, Bool.false_eq_true, bi_0, bi_1, bi_zd, Nat.not_lt_zero, Nat.lt_irrefl, k1]
  · rw [k2 r k (fun f hf => by have := p2 f hf; omega) p3, e6 r k (fun f hf => p2 f (by omega)) (by omega), a3 r k (fun f hf => by have := p2 f hf; omega), Gx r k p1]
  · rw [q2 r k p1 (by omega) (by omega), gy r k p4, e7 r k p2 p3 p5 (by omega), a4 r k (by omega) (by omega), gx r k (by omega)]
  · obtain ⟨w1, w2, w3, w4⟩ := e8 f hf
    refine ⟨w1.com (by omega) (fun a k q => k2 a k (fun f' hf' => by omega) (by omega)) (fun a k q => by rw [q2 a k (by omega) (by omega) (by omega), gy a k (by omega)]) (k3 f hf) (by rw [(q3 f hf).2, gy _ _ (by omega)]), fun q => ?_⟩
    have := hρc f hf (fun z => q (w3.mpr z))
    omega
  · rw [k2 _ _ (fun f hf => by omega) (by omega)]; exact e4
  · rw [q2 _ _ (by omega) (by omega) (by omega), gy _ _ (by omega)]; exact e5
  · rw [q2 _ _ (by omega) (by omega) (by omega)]; exact gy4
  · obtain ⟨w1, w2, w3, w4⟩ := e8 f hf
    refine ⟨?_, ?_, fun q => ?_⟩
    · rw [q2 _ _ (by omega) (by omega) (by omega), gy _ _ (by omega), w2, (a5 f hf).2, gx _ _ (by omega)]
    · rw [w3]
      unfold ρc
      by_cases z : gone t (arr T m f (ρ f)) = true
      · rw [if_pos z]; exact ⟨fun _ => Or.inr z, fun _ => rfl⟩
      · rw [if_neg z]; exact ⟨fun y => Or.inl y, fun y => y.elim id (fun y => absurd y z)⟩
    · rcases w4 with w4 | w4
      · rw [w4] at q ⊢
        unfold ρc at q ⊢
        by_cases z : gone t (arr T m f (ρ f)) = true
        · rw [if_pos z] at q; exact absurd rfl q
        · rw [if_neg z] at q ⊢
          cases y : t.testBit (arr T m f (ρ f) - 1)
          · exact absurd (gone_t q y) z
          · rfl
      · exact w4
end PLAY
