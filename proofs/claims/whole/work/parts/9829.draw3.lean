/-! the model's draws -/
theorem tb_1 {a k : Nat} : (i3 (tb a k) = i3 1) = (a.testBit k = true) := by
  rw [i3_eq (Nat.lt_trans (tb_lt a k) (by decide)) (by decide)]
  unfold tb
  cases a.testBit k <;> simp
theorem s_304d {d x : Nat} {V : pV} {G : sm_G} {L : sm_L} {T P : pT} {K : Nat} {r : Int32} (hm : mH G T P K) (hT : okT T) (hP : okP T P) (hK : K < 1024) (hw : ∀ k, k < 8 → G 305 k = i3 k) : ∃ G', sm_cv0 (d + 3) 304 342 (RR V) [.ref 156, .int r] (x, G, L) = sm_aI (sm_cv0 (d + 2) 264 342 (RR V) [.ref 156] (x, G', L)) (fun a2 x2 G2 L2 => oI a2 x2 G2 L2) oX ∧ (∀ r k, r ≠ 306 → r ≠ 307 → ¬ (r = 156 ∧ k = 41) → G' r k = G r k) ∧ (∀ k, k < 8 → G' 306 k = i3 ((drw T P K r).1 k)) ∧ G' 156 41 = i3 K ∧ ∀ m, m < 301 → G' 307 m = i3 (rmB T (fun k => slp T P (fun k => k) (drw T P K r).1 K k m)) := by
  have hB := hT.gb
  have e254 := s_254 (d := d + 1) (x := x) (V := V) (G := G) (L := L)
  have g37 := hm.gkp
  have u37 : fill G 306 8 (fun _ => i3 1000) 156 37 = i3 K := by rw [fill_ne (by omega)]; exact g37
  rw [m_304, e254]
  simp only [aV_o]
  rw [u37]
  have a0 : ∀ r k, r ≠ 306 → ¬ (r = 156 ∧ k = 41) → sm_up (fill G 306 8 (fun _ => i3 1000)) 156 41 (i3 K) r k = G r k := fun r k h1 h2 => by rw [sm_up_ne (by omega), fill_ne h1]
  have a1 : sm_up (fill G 306 8 (fun _ => i3 1000)) 156 41 (i3 K) 156 41 = i3 K := sm_up_same _ _ _ _
  have a2 : ∀ k, k < 8 → sm_up (fill G 306 8 (fun _ => i3 1000)) 156 41 (i3 K) 306 k = i3 1000 := fun k hk => by rw [sm_up_ne (by omega), fill_at hk]
  generalize sm_up (fill G 306 8 (fun _ => i3 1000)) 156 41 (i3 K) = G0 at a0 a1 a2 ⊢
  refine loopE (H := fun m (g : sm_G) => hD (d + 2) 304 16 [.ref 156, .null, .int (itr (dmn T P K) 0 m (fun _ => 1000, r)).2, .int (i3 m), .null] 342 (RR V) x g L) (Q := fun o' => ∃ G', o' = sm_aI (sm_cv0 (d + 2) 264 342 (RR V) [.ref 156] (x, G', L)) (fun a2 x2 G2 L2 => oI a2 x2 G2 L2) oX ∧ (∀ r k, r ≠ 306 → r ≠ 307 → ¬ (r = 156 ∧ k = 41) → G' r k = G r k) ∧ (∀ k, k < 8 → G' 306 k = i3 ((drw T P K r).1 k)) ∧ G' 156 41 = i3 K ∧ ∀ m, m < 301 → G' 307 m = i3 (rmB T (fun k => slp T P (fun k => k) (drw T P K r).1 K k m))) (N := 301)
    (fun m g => (∀ r k, r ≠ 306 → ¬ (r = 156 ∧ k = 41) → g r k = G r k) ∧ g 156 41 = i3 K ∧ ∀ k, k < 8 → g 306 k = i3 ((itr (dmn T P K) 0 m (fun _ => 1000, r)).1 k)) ?_ ?_ 301 0 G0 (by omega) ⟨a0, a1, a2⟩
  · rintro m g hm3 ⟨w1, w2, w3⟩
    have h0 := drw_ok (T := T) (P := P) (K := K) (r := r) m (by omega)
    have es : itr (dmn T P K) 0 (m + 1) (fun _ => 1000, r) = dmn T P K m (itr (dmn T P K) 0 m (fun _ => 1000, r)) := by rw [itr_succ, Nat.zero_add]
    rw [es]
    generalize itr (dmn T P K) 0 m (fun _ => 1000, r) = s at h0 w3 ⊢
    have key : ∀ n, n ≤ sl T → ∃ g', hD (d + 2) 304 26 [.ref 156, .null, .int s.2, .int (i3 m), .int (i3 0)] 342 (RR V) x g L = hD (d + 2) 304 26 [.ref 156, .null, .int (itr (dst T P K m) 0 n s).2, .int (i3 m), .int (i3 n)] 342 (RR V) x g' L ∧ (∀ r k, r ≠ 306 → ¬ (r = 156 ∧ k = 41) → g' r k = G r k) ∧ g' 156 41 = i3 K ∧ ∀ k, k < 8 → g' 306 k = i3 ((itr (dst T P K m) 0 n s).1 k) := by
      intro n
      induction n with
      | zero => intro _; exact ⟨g, rfl, w1, w2, w3⟩
      | succ k ih =>
        intro hk
        obtain ⟨g', i1, i2, i3', i4⟩ := ih (by omega)
        have hi := itr_fst T P K m s h0 k
        have et : itr (dst T P K m) 0 (k + 1) s = dst T P K m k (itr (dst T P K m) 0 k s) := by rw [itr_succ, Nat.zero_add]
        rw [et, i1]
        generalize itr (dst T P K m) 0 k s = t at hi i4 ⊢
        have he : ∀ j, t.1 j ≤ 1000 := fun j => by
          have a := h0 j
          have b := (hi j).1
          omega
        have hmg : mH g' T P K := hm.keep hT hP (fun r k a => i2 r k (by unfold inM at a; omega) (by unfold inM at a; omega))
        have hwt := hT.gwt k (by omega)
        have ew := hmg.gwt k (by omega)
        have e255 := s_255 (d := d + 1) (x := x) (V := V) (G := g') (L := L) (k := k) (m := m) (w := fun k => k) (e := t.1) hmg hT hP i3' hK (fun j hj => ⟨by rw [i2 _ _ (by omega) (by omega)]; exact hw j (by omega), by omega⟩) (fun j hj => ⟨i4 j (by omega), he j⟩) (by omega) (by omega)
        have e255' : sm_cv0 (d + 2) 255 342 (RR V) [.ref 156, .int (i3 k), .int (i3 m)] (x, g', L) = oI (bi (slp T P (fun k => k) t.1 K k m)) x g' L := e255
        rw [h_304_26, hmg.gsl, if_pos (show i3 k < i3 (sl T) by rw [i3_lt (by omega) (by omega)]; omega), hmg.gkp, i3_shr (by omega) (by omega), i3_and, sh_tb]
        unfold dst
        cases hKk : K.testBit k with
        | true =>
          rw [if_pos (by rw [tb_1]; exact hKk), i3_add, if_neg (fun z : true = false ∧ slp T P (fun k => k) t.1 K k m = true => by cases z.1)]
          exact ⟨g', rfl, i2, i3', i4⟩
        | false =>
          rw [if_neg (by rw [tb_1, hKk]; decide), e255', aI_o]
          cases hs : slp T P (fun k => k) t.1 K k m with
          | false =>
            rw [if_pos (show bi false = i3 0 from rfl), i3_add, if_neg (fun z : false = false ∧ false = true => by cases z.2)]
            exact ⟨g', rfl, i2, i3', i4⟩
          | true =>
            rw [if_neg (by decide), i3_in (by omega) (by omega), gd_tt, i3_cl (by omega), rr_174 (by omega), ldr_174 (by omega), i3_in (by omega) (by omega), gd_tt, i3_cl (show 2 < 2147483648 by omega), ew, gd_tt, if_pos (show false = false ∧ true = true from ⟨rfl, rfl⟩)]
            show ∃ g'', (if rdv (rnd t.2) < i3 (wt T k) then _ else _) = _ ∧ _
            by_cases q2 : rdv (rnd t.2) < i3 (wt T k)
            · rw [if_pos q2, if_pos q2, i3_add]
              refine ⟨sm_up g' 306 k (i3 m), rfl, fun r j h1 h2 => by rw [sm_up_ne (by omega)]; exact i2 r j h1 h2, by rw [sm_up_ne (by omega)]; exact i3', fun j hj => ?_⟩
              show _ = i3 (if j = k then m else t.1 j)
              by_cases z : j = k
              · subst z
                rw [sm_up_same, if_pos rfl]
              · rw [sm_up_ne (by omega), if_neg z]
                exact i4 j hj
            · rw [if_neg q2, if_neg q2, i3_add, up_id rfl]
              exact ⟨g', rfl, i2, i3', i4⟩
    obtain ⟨g', k1, k2, k3, k4⟩ := key (sl T) (Nat.le_refl _)
    have hmg : mH g' T P K := hm.keep hT hP (fun r k a => k2 r k (by unfold inM at a; omega) (by unfold inM at a; omega))
    refine ⟨g', ?_, k2, k3, k4⟩
    show hD (d + 2) 304 16 _ 342 (RR V) x g L = _
    rw [h_304_16, if_pos (show i3 m < i3 301 by rw [i3_lt (by omega) (by omega)]; omega), k1, h_304_26, hmg.gsl, if_neg (show ¬ i3 (sl T) < i3 (sl T) by rw [i3_lt (by omega) (by omega)]; omega), i3_add]
    rfl
  · rintro g ⟨w1, w2, w3⟩
    have hmg : mH g T P K := hm.keep hT hP (fun r k a => w1 r k (by unfold inM at a; omega) (by unfold inM at a; omega))
    have h0 := drw_ok (T := T) (P := P) (K := K) (r := r) 301 (by omega)
    have he : ∀ j, (drw T P K r).1 j ≤ 1000 := fun j => by
      have a := h0 j
      have b : (drw T P K r).1 j = 1000 ∨ (drw T P K r).1 j < 301 := a
      omega
    have e258 := s_258 (d := d) (x := x) (V := V) (G := g) (L := L) (w := fun k => k) (e := (drw T P K r).1) hmg hT hP hK (fun j hj => ⟨by rw [w1 _ _ (by omega) (by omega)]; exact hw j (by omega), by omega⟩) (fun j hj => ⟨w3 j (by omega), he j⟩)
    refine ⟨fill (sm_up g 156 41 (i3 K)) 307 301 (fun m => i3 (rmB T (fun k => slp T P (fun k => k) (drw T P K r).1 K k m))), ?_, fun r k h1 h2 h3 => ?_, fun k hk => ?_, ?_, fun m hm => fill_at hm⟩
    · show hD (d + 2) 304 16 _ 342 (RR V) x g L = _
      rw [h_304_16, if_neg (show ¬ i3 301 < i3 301 by decide), hmg.gkp, e258, aV_o]
    · rw [fill_ne h2, sm_up_ne (by omega)]; exact w1 r k h1 h3
    · rw [fill_ne (by omega), sm_up_ne (by omega)]; exact w3 k hk
    · rw [fill_ne (by omega), sm_up_same]
