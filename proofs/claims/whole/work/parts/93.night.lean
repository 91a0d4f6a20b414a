/-! one minute's acts, as calls -/
section NIGHT
variable {d x d' x' b s e : Nat} {V U : pV} {L L' : sm_L} {T P : pT} {K : Nat} {ρ : Nat → Nat} {m t o : Nat} {W : Nat → pT} {G g : sm_G}
/-- what stands while a night is gone through -/
def nCx (V : pV) (G g : sm_G) (b s : Nat) (T P : pT) (K : Nat) (W : Nat → pT) : Prop := cS G s T ∧ mH g T P K ∧ ∀ e, e < 4 → okW T (W e) ∧ cWl G (V.2.2.2.2.2 e) (W e) ∧ mWl g e (W e)
theorem nCx.keep {G' g' : sm_G} (h : nCx V G g b s T P K W) (hV : okV V) (hs : pS s) (hT : okT T) (hP : okP T P) (hG : ∀ r k, r < 54 ∨ 104 < r → G' r k = G r k) (hg : ∀ r k, r < 309 → ¬ (r = 156 ∧ (k = 56 ∨ k = 57)) → g' r k = g r k) : nCx V G' g' b s T P K W := by
  obtain ⟨h1, h2, h3⟩ := h
  have hsl := pS_lt hs
  refine ⟨h1.keep (fun r k q => hG r k (by unfold inC at q; omega)), h2.keep hT hP (fun r k q => hg r k (by unfold inM at q; omega) (by unfold inM at q; omega)), fun e he => ?_⟩
  obtain ⟨a1, a2, a3⟩ := h3 e he
  have hw := pW_lt (hV.2.2.2.2.2 e he)
  exact ⟨a1, a2.keep (fun r k q1 q2 => hG r k (by omega)), a3.keep he (fun r k q => hg r k (by omega) (by omega))⟩
theorem s_act (hV : okV V) (hb : pN b) (hs : pS s) (hT : okT T) (hP : okP T P) (he : e < dr T) (hC : nCx V G g b s T P K W) (hR : ∀ f, f < dr T → wR G g b f T (W f) (ρ f)) (hρ0 : ρ e ≠ 0) (ht : t < 1024) (hm : m ≤ 300) (ho : o < 1024)
    (b4 : G b 4 = i3 o) (b7 : G b 7 = i3 t) (b6 : G b 6 = i3 m) (m56 : g 156 56 = i3 o) (m57 : g 156 57 = i3 m) (m307 : g 307 m = i3 t) :
    ∃ G' g', sm_cv0 (d + 5) 90 342 (RR V) [.ref b, .ref s, .ref (b + 5 + 4 * e), .ref (V.2.2.2.2.2 e)] (x, G, L) = oV x G' L ∧ sm_cv0 (d' + 5) 267 342 (RR U) [.ref 156, .int (i3 e)] (x', g, L') = oV x' g' L' ∧ aPost b e T (W e) (ρ e) t G g G' g' := by
  have hB := hT.gb
  have hbl := pN_lt hb
  have hw := kw_b (k := e) hb (by omega)
  have hl := hV.2.2.2.2.2 e (by omega)
  obtain ⟨c1, c2, c3⟩ := hC
  obtain ⟨k1, k2, k3⟩ := c3 e (by omega)
  obtain ⟨r1, r2, r3, es, ⟨z, z1, z2, z3, z4⟩, ⟨n, n1, n2, n3, n4⟩, p, st, h, p1, p2, p3, p4, p5⟩ := hR e he
  have gx : ∀ r k, ¬ (r = 329 ∧ k = e) → sm_up g 329 e (i3 0) r k = g r k := fun r k q => sm_up_ne (by omega)
  have g9 : sm_up g 329 e (i3 0) 329 e = i3 0 := sm_up_same _ _ _ _
  have hz : z = 0 ∨ z = 1 := by omega
  rw [m_90 hb hs hw hl, m_267]
  have gn := gx 328 e (by omega)
  rcases hz with rfl | rfl
  · by_cases hn : n = 0
    · subst hn
      have Gx : ∀ r k, ¬ (r = b + 5 + 4 * e ∧ k = 9) → sm_up G (b + 5 + 4 * e) 9 (i3 0) r k = G r k := fun r k q => sm_up_ne (by omega)
      have G9 : sm_up G (b + 5 + 4 * e) 9 (i3 0) (b + 5 + 4 * e) 9 = i3 0 := sm_up_same _ _ _ _
      simp (disch := omega) only [i3_add, i3_mul, i3_sub, i3_m1, i3_lt, i3_le, i3_eq, m1_lt, lt_m1, m1_le, le_m1, i3_nm1, m1_ni3, i3_cl, i3_in, i3_or, i3_and, i3_xor, i3_shl, i3_shr, sh_tb, tb_eq0, gd_tt, aI_o, aV_o, aL_o, aR_o, zd_0, zd_1, if_true, if_false, ite_self, eq_self, Bool.true_eq_false, Bool.false_eq_true, bi_0, bi_1, bi_zd, Nat.not_lt_zero, z2, n2, gn, n3, Nat.le_refl]
      generalize sm_up g 329 e (i3 0) = g1 at *
      generalize sm_up G (b + 5 + 4 * e) 9 (i3 0) = G1 at *
      have hsl := pS_lt hs
      have hwl := pW_lt hl
      have H : aPre G1 g1 b s (V.2.2.2.2.2 e) e T P (W e) K ρ m t o 0 h st p := by
        obtain ⟨e1, e2, e3, e4, e5⟩ := es
        obtain ⟨n', f, q, q1, q2⟩ := p5
        refine ⟨⟨c1.keep (fun r k q => Gx r k (by unfold inC at q; omega)), c2.keep hT hP (fun r k q => gx r k (by unfold inM at q; omega)), k2.keep (fun r k q1 q2 => Gx r k (by omega)), k3.keep (by omega) (fun r k q => gx r k (by omega))⟩, ⟨?_, ?_, ?_, ?_⟩, fun f hf => ?_, ⟨?_, ?_⟩, ⟨?_, ?_, ?_, ?_, ?_⟩, ⟨?_, ?_, ?_⟩, ⟨?_, ?_⟩, ⟨G9, g9, by decide⟩, ?_, ?_, ?_, p4, n', f, q, q1, q2.keep (fun k _ => Gx _ _ (by omega)) (fun j _ => gx _ _ (by omega))⟩
        · rw [Gx _ _ (by omega)]; exact b7
        · rw [Gx _ _ (by omega)]; exact b6
        · rw [gx _ _ (by omega)]; exact m57
        · rw [gx _ _ (by omega)]; exact m307
        · rw [Gx _ _ (by omega), gx _ _ (by omega)]; exact ⟨(hR f hf).1, (hR f hf).2.1⟩
        · rw [Gx _ _ (by omega)]; exact b4
        · rw [gx _ _ (by omega)]; exact m56
        · rw [Gx _ _ (by omega), gx _ _ (by omega)]; exact e1
        · rw [Gx _ _ (by omega), gx _ _ (by omega)]; exact e2
        · rw [Gx _ _ (by omega), gx _ _ (by omega)]; exact e3
        · rw [Gx _ _ (by omega), gx _ _ (by omega)]; exact e4
        · rw [Gx _ _ (by omega), gx _ _ (by omega)]; exact e5
        · rw [Gx _ _ (by omega)]; exact z2
        · rw [gx _ _ (by omega)]; exact z3
        · rw [gx _ _ (by omega)]; exact z4
        · rw [Gx _ _ (by omega)]; exact n2
        · rw [gx _ _ (by omega)]; exact n3
        · rw [Gx _ _ (by omega)]; exact p1
        · rw [gx _ _ (by omega)]; exact p2
        · rw [gx _ _ (by omega)]; exact p3
      obtain ⟨G', g', h1, h2, h3⟩ := l_act (d := d) (x := x) (L := L) (V := V) (d' := d') (x' := x') (L' := L') (U := U) hb hs hl hT hP he (fun f hf => (hR f hf).2.2.1) hρ0 ht hm k1.1 k1.2.1 k1.2.2.1 600 G1 g1 0 o 0 h st p H ho (by omega) (by omega)
      exact ⟨G', g', h1, h2, h3.tr ⟨fun r k q1 q2 q3 => Gx r k (by omega), fun r k q1 q2 q3 q4 => gx r k (by omega), Gx _ _ (by omega)⟩⟩
    · have e1 : i3 n - i3 1 = i3 (n - 1) := i3_sub (by omega)
      refine ⟨sm_up G (b + 5 + 4 * e) 8 (i3 (n - 1)), sm_up (sm_up g 329 e (i3 0)) 328 e (i3 (n - 1)), ?_, ?_, ?_⟩
      · simp (disch := omega) only [i3_add, i3_mul, i3_sub, i3_m1, i3_lt, i3_le, i3_eq, m1_lt, lt_m1, m1_le, le_m1, i3_nm1, m1_ni3, i3_cl, i3_in, i3_or, i3_and, i3_xor, i3_shl, i3_shr, sh_tb, tb_eq0, gd_tt, aI_o, aV_o, aL_o, aR_o, zd_0, zd_1, if_true, if_false, ite_self, eq_self, Bool.true_eq_false, Bool.false_eq_true, bi_0, bi_1, bi_zd, Nat.not_lt_zero, z2, n2, show ¬ n ≤ 0 by omega]
      · simp (disch := omega) only [i3_add, i3_mul, i3_sub, i3_m1, i3_lt, i3_le, i3_eq, m1_lt, lt_m1, m1_le, le_m1, i3_nm1, m1_ni3, i3_cl, i3_in, i3_or, i3_and, i3_xor, i3_shl, i3_shr, sh_tb, tb_eq0, gd_tt, aI_o, aV_o, aL_o, aR_o, zd_0, zd_1, if_true, if_false, ite_self, eq_self, Bool.true_eq_false, Bool.false_eq_true, bi_0, bi_1, bi_zd, Nat.not_lt_zero, gn, n3, show ¬ n ≤ 0 by omega]
      · have Gx : ∀ r k, ¬ (r = b + 5 + 4 * e ∧ k = 8) → sm_up G (b + 5 + 4 * e) 8 (i3 (n - 1)) r k = G r k := fun r k q => sm_up_ne (by omega)
        have G8 : sm_up G (b + 5 + 4 * e) 8 (i3 (n - 1)) (b + 5 + 4 * e) 8 = i3 (n - 1) := sm_up_same _ _ _ _
        have gy : ∀ r k, ¬ ((r = 329 ∨ r = 328) ∧ k = e) → sm_up (sm_up g 329 e (i3 0)) 328 e (i3 (n - 1)) r k = g r k := fun r k q => by rw [sm_up_ne (by omega), sm_up_ne (by omega)]
        have g8 : sm_up (sm_up g 329 e (i3 0)) 328 e (i3 (n - 1)) 328 e = i3 (n - 1) := sm_up_same _ _ _ _
        generalize sm_up G (b + 5 + 4 * e) 8 (i3 (n - 1)) = G1 at *
        generalize sm_up (sm_up g 329 e (i3 0)) 328 e (i3 (n - 1)) = g1 at *
        obtain ⟨e1, e2, e3, e4, e5⟩ := es
        obtain ⟨n', f, q, q1, q2⟩ := p5
        refine ⟨⟨fun r k q1 q2 q3 => Gx r k (by omega), fun r k q1 q2 q3 q4 => gy r k (by omega), Gx _ _ (by omega)⟩, ⟨o, ho, by rw [Gx _ _ (by omega)]; exact b4, by rw [gy _ _ (by omega)]; exact m56⟩, ρ e, Or.inl rfl, hρ0, ?_, ?_, r3, ⟨?_, ?_, ?_, ?_, ?_⟩, ⟨0, by decide, ?_, ?_, ?_⟩, ⟨n - 1, by omega, G8, g8, ?_⟩, p, st, h, ?_, ?_, ?_, p4, n', f, q, q1, q2.keep (fun k _ => Gx _ _ (by omega)) (fun j _ => gy _ _ (by omega))⟩
        · rw [Gx _ _ (by omega)]; exact r1
        · rw [gy _ _ (by omega)]; exact r2
        · rw [Gx _ _ (by omega), gy _ _ (by omega)]; exact e1
        · rw [Gx _ _ (by omega), gy _ _ (by omega)]; exact e2
        · rw [Gx _ _ (by omega), gy _ _ (by omega)]; exact e3
        · rw [Gx _ _ (by omega), gy _ _ (by omega)]; exact e4
        · rw [Gx _ _ (by omega), gy _ _ (by omega)]; exact e5
        · rw [Gx _ _ (by omega)]; exact z2
        · rw [gy _ _ (by omega)]; exact z3
        · rw [gy _ _ (by omega)]; exact z4
        · rw [gy _ _ (by omega), z3]; intro z; exact absurd z (by decide)
        · rw [Gx _ _ (by omega)]; exact p1
        · rw [gy _ _ (by omega)]; exact p2
        · rw [gy _ _ (by omega)]; exact p3
  · have hn := n4 z3
    subst hn
    have z3' : sm_up g 329 e (i3 0) 330 e = i3 1 := by rw [gx _ _ (by omega)]; exact z3
    refine ⟨G, sm_up g 329 e (i3 0), ?_, ?_, ?_⟩
    · simp (disch := omega) only [i3_add, i3_mul, i3_sub, i3_m1, i3_lt, i3_le, i3_eq, m1_lt, lt_m1, m1_le, le_m1, i3_nm1, m1_ni3, i3_cl, i3_in, i3_or, i3_and, i3_xor, i3_shl, i3_shr, sh_tb, tb_eq0, gd_tt, aI_o, aV_o, aL_o, aR_o, zd_0, zd_1, if_true, if_false, ite_self, eq_self, Bool.true_eq_false, Bool.false_eq_true, bi_0, bi_1, bi_zd, Nat.not_lt_zero, Nat.reduceEqDiff, Nat.reduceLeDiff, Nat.reduceLT, z2]
    · simp (disch := omega) only [i3_add, i3_mul, i3_sub, i3_m1, i3_lt, i3_le, i3_eq, m1_lt, lt_m1, m1_le, le_m1, i3_nm1, m1_ni3, i3_cl, i3_in, i3_or, i3_and, i3_xor, i3_shl, i3_shr, sh_tb, tb_eq0, gd_tt, aI_o, aV_o, aL_o, aR_o, zd_0, zd_1, if_true, if_false, ite_self, eq_self, Bool.true_eq_false, Bool.false_eq_true, bi_0, bi_1, bi_zd, Nat.not_lt_zero, gn, n3, Nat.le_refl]
      exact l_267_over (by omega) z3'
    · exact ⟨⟨fun _ _ _ _ _ => rfl, fun r k q1 q2 q3 q4 => gx r k (by omega), rfl⟩, ⟨o, ho, b4, by rw [gx _ _ (by omega)]; exact m56⟩, ρ e, Or.inl rfl, hρ0, (hR e he).1, by rw [gx _ _ (by omega)]; exact r2, r3, ⟨by rw [gx _ _ (by omega)]; exact es.1, by rw [gx _ _ (by omega)]; exact es.2.1, by rw [gx _ _ (by omega)]; exact es.2.2.1, by rw [gx _ _ (by omega)]; exact es.2.2.2.1, by rw [gx _ _ (by omega)]; exact es.2.2.2.2⟩, ⟨1, by decide, z2, by rw [gx _ _ (by omega)]; exact z3, by rw [gx _ _ (by omega)]; exact z4⟩, ⟨0, by decide, n2, by rw [gx _ _ (by omega)]; exact n3, fun _ => rfl⟩, p, st, h, p1, by rw [gx _ _ (by omega)]; exact p2, by rw [gx _ _ (by omega)]; exact p3, p4, by
        obtain ⟨n', f, q, q1, q2⟩ := p5
        exact ⟨n', f, q, q1, q2.keep (fun k _ => rfl) (fun j _ => gx _ _ (by omega))⟩⟩
end NIGHT
