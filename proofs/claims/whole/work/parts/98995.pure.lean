/-! the two objects made, what stands then, the law from its start to its end -/
theorem made {d x : Nat} {R : sm_R} {G : sm_G} {L : sm_L} (hR : apR s_530_156_0 R = RR V0) : ∃ G' L', sm_cw (d + 4) 530 [.ref 156] (156, R, x, G, L) = some (.inl none, 341, RR V0, x, G', L') ∧ mH G' T0 T0 0 ∧ (∀ k, k < 8 → G' 305 k = i3 k) ∧ (∀ k, k < 4 → G' 241 k = i3 0) ∧ G' 156 36 = i3 0 ∧ G' 156 38 = i3 0 ∧ G' 156 39 = i3 0 ∧
    ∀ r k, (r < 156 ∨ (r = 156 ∧ k < 36) ∨ r = 158 ∨ 342 < r) → G' r k = apG s_530_156_0 G r k := by
  obtain ⟨G1, a1, a2, a3⟩ := s_212n (D := d + 3) (x := x) (V := V0) (G := apG s_530_156_0 G) (L := apL s_530_156_0 L) (by omega)
  obtain ⟨G2, b1, b2, b3, b4, b5, b6, b7, b8⟩ := s_213n (D := d + 3) (x := x) (V := V0) (G := G1) (L := apL s_530_156_0 L) (by omega) okT_0 okP_0 a2
  refine ⟨G2, apL s_530_156_0 L, ?_, b2, b3, b4, b5, b6, b7, fun r k h => ?_⟩
  · rw [m_530, hR, a1, aV_o, b1, aV_o]
  · rw [b8 r k (by omega) (by omega) (by omega) (by omega) (by omega) (by omega), a3 r k (by omega) (by omega)]
theorem V0_ok : okV2 V0 := by
  refine ⟨⟨Or.inl rfl, Or.inr rfl, Or.inr (Or.inr (Or.inr (Or.inr rfl))), Or.inl rfl, Or.inr rfl, fun i hi => ?_⟩, by decide, by decide, fun i hi => ?_, fun i j hi hj hij => ?_⟩
  · show pW (6 + 5 * i)
    unfold pW
    omega
  · show 6 + 5 * i ≠ 145
    omega
  · show 6 + 5 * i ≠ 6 + 5 * j
    omega
theorem Inv_0 {G1 G : sm_G} (h1 : mH G T0 T0 0) (h2 : ∀ k, k < 8 → G 305 k = i3 k) (h3 : ∀ k, k < 4 → G 241 k = i3 0) (h4 : G 156 36 = i3 0) (h5 : G 156 38 = i3 0) (h6 : G 156 39 = i3 0) (h7 : ∀ r k, (r < 156 ∨ (r = 156 ∧ k < 36) ∨ r = 158 ∨ 342 < r) → G r k = apG LA G1 r k) : Inv V0 G := by
  have f0 : ∀ r k, (r < 156 ∨ (r = 156 ∧ k < 36) ∨ r = 158 ∨ 342 < r) → lk LA r k = some 0 → G r k = i3 0 := fun r k y z => (h7 r k y).trans (apG_lk LA r k z)
  have f1 : ∀ r k, (r < 156 ∨ (r = 156 ∧ k < 36) ∨ r = 158 ∨ 342 < r) → lk LA r k = some 1 → G r k = i3 1 := fun r k y z => (h7 r k y).trans (apG_lk LA r k z)
  have f2 : ∀ r k, (r < 156 ∨ (r = 156 ∧ k < 36) ∨ r = 158 ∨ 342 < r) → lk LA r k = some 2 → G r k = m1 := fun r k y z => (h7 r k y).trans (apG_lk LA r k z)
  have nz : ∀ {P : Nat → Prop} (j : Nat), j < 0 → P j := fun j h => absurd h (Nat.not_lt_zero j)
  refine ⟨T0, 0, 0, fun _ => T0, fun _ => T0, ?_, Or.inl (f1 1 17 (by omega) (by decide +kernel)), Or.inl (f1 1 18 (by omega) (by decide +kernel))⟩
  refine ⟨V0_ok, okT_0, okP_0, Nat.two_pow_pos _, ?_, ?_, h1, h2, ⟨0, by omega, f0 2 1 (by omega) (by decide +kernel), f0 156 1 (by omega) (by decide +kernel), nz⟩, ⟨fun j hj => ?_, ?_⟩, ⟨by omega, f0 110 10 (by omega) (by decide +kernel), fun _ _ => okP_0, nz⟩, ⟨h5, nz⟩, ⟨0, by omega, f0 1 15 (by omega) (by decide +kernel), h6, nz⟩, ⟨0, by omega, f0 150 2 (by omega) (by decide +kernel), h4, nz⟩, fun e he => ⟨⟨Nat.zero_le 37, Nat.zero_le 40, Nat.zero_le 80, 0, cor_nil 0⟩, ⟨?_, ?_, nz⟩, ⟨h3 e he, nz, nz⟩⟩⟩
  · refine ⟨f0 109 9 (by omega) (by decide +kernel), f0 109 10 (by omega) (by decide +kernel), f0 109 11 (by omega) (by decide +kernel), f0 109 12 (by omega) (by decide +kernel), f0 109 13 (by omega) (by decide +kernel), f2 109 14 (by omega) (by decide +kernel), nz, nz, nz, nz, nz, fun k hk => ?_, nz, nz⟩
    rcases (show k = 0 ∨ k = 1 ∨ k = 2 ∨ k = 3 ∨ k = 4 ∨ k = 5 by omega) with rfl | rfl | rfl | rfl | rfl | rfl <;> exact f0 124 _ (by omega) (by decide +kernel)
  · exact ⟨f0 110 8 (by omega) (by decide +kernel), f0 110 9 (by omega) (by decide +kernel), nz, nz, nz, nz⟩
  · rcases (show j = 0 ∨ j = 1 ∨ j = 2 ∨ j = 3 by omega) with rfl | rfl | rfl | rfl
    · exact (f0 4 0 (by omega) (by decide +kernel)).trans (f0 158 0 (by omega) (by decide +kernel)).symm
    · exact (f0 4 1 (by omega) (by decide +kernel)).trans (f0 158 1 (by omega) (by decide +kernel)).symm
    · exact (f0 4 2 (by omega) (by decide +kernel)).trans (f0 158 2 (by omega) (by decide +kernel)).symm
    · exact (f0 4 3 (by omega) (by decide +kernel)).trans (f0 158 3 (by omega) (by decide +kernel)).symm
  · exact (f2 1 16 (by omega) (by decide +kernel)).trans (f2 156 3 (by omega) (by decide +kernel)).symm
  · rcases (show e = 0 ∨ e = 1 ∨ e = 2 ∨ e = 3 by omega) with rfl | rfl | rfl | rfl
    · exact f0 6 4 (by omega) (by decide +kernel)
    · exact f0 11 4 (by omega) (by decide +kernel)
    · exact f0 16 4 (by omega) (by decide +kernel)
    · exact f0 21 4 (by omega) (by decide +kernel)
  · rcases (show e = 0 ∨ e = 1 ∨ e = 2 ∨ e = 3 by omega) with rfl | rfl | rfl | rfl
    · exact f0 6 5 (by omega) (by decide +kernel)
    · exact f0 11 5 (by omega) (by decide +kernel)
    · exact f0 16 5 (by omega) (by decide +kernel)
    · exact f0 21 5 (by omega) (by decide +kernel)
theorem cl_ne {α : Type} {G : Nat → Nat → α} {a r k : Nat} {v : α} (h : r ≠ a) : sm_cl G a v r k = G r k := by
  unfold sm_cl
  rw [beq_f h]
  rfl
theorem R_342 : sm_cl (RR V0) 342 0 = RR V0 := by
  funext r k
  by_cases h : r = 342
  · subst h
    have e : sm_cl (RR V0) 342 0 342 k = 0 := by
      unfold sm_cl
      rfl
    rw [e, RR_z]
    unfold inR0
    rw [show rfK 342 = false by decide +kernel, Bool.false_and, Bool.and_false]
  · exact cl_ne h
theorem bV_s {β : Type} {o : Option Value} {S : sm_S} {f : Option Value → sm_S → Option β} {g : Nat → sm_S → Option β} : sm_bV (some (.inl o, S)) f g = f o S := rfl
theorem law_start {d Ln : Nat} {xs : Nat → Int32} {L : sm_L} (h3 : Ln ≤ 3072) : ∃ V' x' G' L', hW (d + 61) 531 0 (sm_lay 8 [.ref 8191]) 0 R00 0 (sm_Z xs Ln) L = wI (i3 1) 342 (RR V') x' G' L' ∧ x' ≤ Ln / 6 := by
  have hR : apR s_530_156_0 (apR ((0, 156, 0, 0) :: (s_512_1_28 ++ [(0, 1, 0, 0)])) R00) = RR V0 := by
    rw [← apR_app]
    exact LA_R
  obtain ⟨G1, L1, a1, a2, a3, a4, a5, a6, a7, a8⟩ := made (d := d + 57) (x := 0) (G := apG ((0, 156, 0, 0) :: (s_512_1_28 ++ [(0, 1, 0, 0)])) (sm_Z xs Ln)) (L := apL ((0, 156, 0, 0) :: (s_512_1_28 ++ [(0, 1, 0, 0)])) L) hR
  have a8' : ∀ r k, (r < 156 ∨ (r = 156 ∧ k < 36) ∨ r = 158 ∨ 342 < r) → G1 r k = apG LA (sm_Z xs Ln) r k := fun r k h => by
    rw [a8 r k h, ← apG_app]
    rfl
  have e1 : hW (d + 61) 531 0 (sm_lay 8 [.ref 8191]) 0 R00 0 (sm_Z xs Ln) L = hW (d + 61) 531 20 [.ref 8191, .ref 1, .ref 156, .ref 342, .null, .null, .null, .null] 342 (sm_cl (RR V0) 342 0) 0 (sm_cl G1 342 0) (sm_cl L1 342 0) := by
    refine hW_eq.trans ?_
    refine (show sm_blk _ _ _ _ _ _ _ _ _ _ _ _ _ _ = sm_bV (sm_cw (d + 61) 512 [.ref 1] (1, apR [(0, 1, 0, 0)] R00, 0, apG [(0, 1, 0, 0)] (sm_Z xs Ln), apL [(0, 1, 0, 0)] L)) _ _ from rfl).trans ?_
    rw [c_512_1, cOk_app, bV_ok]
    show sm_ev _ _ _ _ _ _ _ _ _ _ [.ref 1] 155 (apR (s_512_1_28 ++ [(0, 1, 0, 0)]) R00) 0 (apG (s_512_1_28 ++ [(0, 1, 0, 0)]) (sm_Z xs Ln)) (apL (s_512_1_28 ++ [(0, 1, 0, 0)]) L) = _
    generalize hR2 : apR (s_512_1_28 ++ [(0, 1, 0, 0)]) R00 = R2
    generalize hG2 : apG (s_512_1_28 ++ [(0, 1, 0, 0)]) (sm_Z xs Ln) = G2
    generalize hL2 : apL (s_512_1_28 ++ [(0, 1, 0, 0)]) L = L2
    refine (show sm_ev _ _ _ _ _ _ _ _ _ _ [.ref 1] 155 R2 0 G2 L2 = sm_bV (sm_cw (d + 61) 530 [.ref 156] (156, sm_cl R2 156 0, 0, sm_cl G2 156 0, sm_cl L2 156 0)) (fun o S => sm_ev _ _ _ _ _ _ _ _ _ _ (o.toList ++ [.ref 156]) S.fst S.snd.fst S.snd.snd.fst S.snd.snd.snd.fst S.snd.snd.snd.snd) _ from rfl).trans ?_
    subst hR2 hG2 hL2
    rw [show ∀ (l : List ce) (Y : sm_R), sm_cl (apR l Y) 156 0 = apR ((0, 156, 0, 0) :: l) Y from fun _ _ => rfl]
    rw [show ∀ (l : List ce) (Y : sm_G), sm_cl (apG l Y) 156 0 = apG ((0, 156, 0, 0) :: l) Y from fun _ _ => rfl]
    rw [show ∀ (l : List ce) (Y : sm_L), sm_cl (apL l Y) 156 0 = apL ((0, 156, 0, 0) :: l) Y from fun _ _ => rfl]
    rw [a1, bV_s]
    show sm_ev _ _ _ _ _ _ _ _ _ _ [.ref 156] 341 (RR V0) 0 G1 L1 = _
    generalize RR V0 = RV
    rfl
  rw [R_342] at e1
  have e2 : hW (d + 61) 531 20 [.ref 8191, .ref 1, .ref 156, .ref 342, .null, .null, .null, .null] 342 (RR V0) 0 (sm_cl G1 342 0) (sm_cl L1 342 0) = hW (d + 61) 531 23 [.ref 8191, .ref 1, .ref 156, .ref 342, .int (i3 (6 * 0)), .null, .null, .null] 342 (RR V0) 0 (sm_cl G1 342 0) (sm_cl L1 342 0) := hW_eq.trans rfl
  have I : Inv V0 (sm_cl G1 342 0) := by
    refine Inv_0 (G1 := sm_Z xs Ln) (a2.keep okT_0 okP_0 (fun r k h => ?_)) (fun k hk => ?_) (fun k hk => ?_) ?_ ?_ ?_ (fun r k h => ?_)
    · rw [cl_ne (by unfold inM at h; omega)]
    · rw [cl_ne (by omega)]; exact a3 k hk
    · rw [cl_ne (by omega)]; exact a4 k hk
    · rw [cl_ne (by omega)]; exact a5
    · rw [cl_ne (by omega)]; exact a6
    · rw [cl_ne (by omega)]; exact a7
    · rw [cl_ne (by omega)]; exact a8' r k h
  have hL : sm_cl G1 342 0 8190 0 = i3 Ln := by
    rw [cl_ne (by omega), a8' _ _ (by omega), apG_hi (by omega) LA LA_hi]
    rfl
  obtain ⟨V', x', G', L', b1, b2⟩ := law_loop (d := d) (Ln := Ln) h3 (Ln / 6) 0 0 V0 (sm_cl G1 342 0) (sm_cl L1 342 0) (by omega) (by omega) I hL
  exact ⟨V', x', G', L', e1.trans (e2.trans b1), by omega⟩
theorem sm_pureA (xs : Nat → Int32) {L : Nat} (hL : L ≤ 3072) : sm_Pure xs L := by
  obtain ⟨V', x', G', L', h1, h2⟩ := law_start (d := 0) (xs := xs) (L := fun _ _ => 0) hL
  obtain ⟨F, h3⟩ := sm_lim_of (f := fun F => sm_run (sm_T 531) (sm_ct 531) (sm_hd 531) (sm_cv0 (0 + 61)) (sm_cw (0 + 61)) F 0 (sm_lay 8 [.ref 8191]) 0 R00 0 (sm_Z xs L) (fun _ _ => 0)) (show sm_lim _ = some (.inl (some (.int (i3 1))), 342, RR V', x', G', L') from h1)
  exact ⟨61, F, x', RR V', G', L', by omega, by omega, h3⟩
