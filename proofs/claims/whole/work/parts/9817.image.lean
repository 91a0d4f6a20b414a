/-! the images: a whole plan kept and brought back -/
theorem s_3 {d x : Nat} {V : pV} {G : sm_G} {L : sm_L} {a b n : Nat} (ha : sm_is a 342 20 = true) (hb : sm_is b 342 20 = true) (hn : n < 1000) (h1 : n ≤ sm_N a) (h2 : n ≤ sm_N b) : sm_cv0 (d + 1) 3 342 (RR V) [.ref a, .int (i3 0), .ref b, .int (i3 0), .int (i3 n)] (x, G, L) = oV x (sm_acp G a 0 b 0 n) L := by
  have e : sm_cv0 (d + 1) 3 342 (RR V) [.ref a, .int (i3 0), .ref b, .int (i3 0), .int (i3 n)] (x, G, L) = sm_dr (sm_bi 3 [.ref a, .int (i3 0), .ref b, .int (i3 0), .int (i3 n)] (342, RR V, x, G, L)) := rfl
  rw [e]
  have t : (sm_is a 342 20 && sm_is b 342 20 && decide ((0 : Int32) ≤ i3 0) && decide ((0 : Int32) ≤ i3 0) && decide ((0 : Int32) ≤ i3 n) && Nat.ble ((i3 0).toNatClampNeg + (i3 n).toNatClampNeg) (sm_N a) && Nat.ble ((i3 0).toNatClampNeg + (i3 n).toNatClampNeg) (sm_N b)) = true := by
    have z : ∀ k, k < 1000 → decide ((0 : Int32) ≤ i3 k) = true := fun k hk => decide_eq_true (show i3 0 ≤ i3 k by rw [i3_le (by omega) (by omega)]; exact Nat.zero_le _)
    rw [ha, hb, z 0 (by omega), z n hn, i3_cl (by omega), i3_cl (by omega), Nat.zero_add, Nat.ble_eq_true_of_le h1, Nat.ble_eq_true_of_le h2]
    rfl
  show sm_dr (bif (sm_is a 342 20 && sm_is b 342 20 && decide ((0 : Int32) ≤ i3 0) && decide ((0 : Int32) ≤ i3 0) && decide ((0 : Int32) ≤ i3 n) && Nat.ble ((i3 0).toNatClampNeg + (i3 n).toNatClampNeg) (sm_N a) && Nat.ble ((i3 0).toNatClampNeg + (i3 n).toNatClampNeg) (sm_N b)) then some (.inl none, 342, RR V, x, sm_acp G a (i3 0).toNatClampNeg b (i3 0).toNatClampNeg (i3 n).toNatClampNeg, L) else none) = _
  rw [t, i3_cl (by omega), i3_cl (by omega)]
  rfl
theorem acp_ne {G : sm_G} {a b n r k : Nat} (h : r ≠ b ∨ n ≤ k) : sm_acp G a 0 b 0 n r k = G r k := by
  unfold sm_acp
  by_cases q : r = b
  · subst q
    rw [Nat.beq_refl]
    exact if_neg (by omega)
  · rw [show Nat.beq r b = false from by
      cases h : Nat.beq r b with
      | false => rfl
      | true => exact absurd (Nat.eq_of_beq_eq_true h) q]
    rfl
theorem acp_at {G : sm_G} {a b n k : Nat} (h : k < n) : sm_acp G a 0 b 0 n b k = G a k := by
  unfold sm_acp
  rw [Nat.beq_refl]
  show (if 0 ≤ k ∧ k < 0 + n then G a (0 + (k - 0)) else G b k) = _
  rw [if_pos (by omega)]
  congr 1
  omega
theorem nP_i {p i : Nat} (h : pP p) (hi : 1 ≤ i) (hi2 : i ≤ 8) : (if i ≤ 2 then 12 else if i ≤ 4 then 8 else 20) ≤ sm_N (p + i) := by
  have key : ∀ p, (List.range 9).all (fun i => Nat.beq i 0 || Nat.ble (if i ≤ 2 then 12 else if i ≤ 4 then 8 else 20) (sm_N (p + i))) = true → (if i ≤ 2 then 12 else if i ≤ 4 then 8 else 20) ≤ sm_N (p + i) := fun p hp => by
    have := List.all_eq_true.mp hp i (List.mem_range.mpr (by omega))
    rw [Bool.or_eq_true] at this
    exact Nat.le_of_ble_eq_true (this.resolve_left (fun z => by have := Nat.eq_of_beq_eq_true z; omega))
  rcases h with rfl | rfl | rfl | rfl | rfl <;> exact key _ (by decide +kernel)
theorem s_108 {d x : Nat} {V : pV} {G : sm_G} {L : sm_L} {p q : Nat} (hp : pP p) (hq : pP q) (hd : p + 10 ≤ q + 1 ∨ q + 10 ≤ p + 1) : ∃ G', sm_cv0 (d + 2) 108 342 (RR V) [.ref p, .ref q] (x, G, L) = oV x G' L ∧ (∀ r k, ¬ (p + 1 ≤ r ∧ r < p + 9) → ¬ (r = p ∧ (k = 8 ∨ k = 9 ∨ k = 10)) → G' r k = G r k) ∧ (∀ k, k = 8 ∨ k = 9 ∨ k = 10 → G' p k = G q k) ∧ ∀ i k, 1 ≤ i → i ≤ 8 → (k < if i ≤ 2 then 12 else if i ≤ 4 then 8 else 20) → G' (p + i) k = G (q + i) k := by
  have cp : ∀ (i n : Nat) (g : sm_G) (x : Nat) (L : sm_L), 1 ≤ i → i ≤ 8 → (n = if i ≤ 2 then 12 else if i ≤ 4 then 8 else 20) → sm_cv0 (d + 1) 3 342 (RR V) [.ref (q + i), .int (i3 0), .ref (p + i), .int (i3 0), .int (i3 n)] (x, g, L) = oV x (sm_acp g (q + i) 0 (p + i) 0 n) L := fun i n g x L h1 h2 h3 => by
    have a1 := nP_i hp h1 h2
    have a2 := nP_i hq h1 h2
    rw [← h3] at a1 a2
    have hn : n < 1000 := by
      have : (if i ≤ 2 then 12 else if i ≤ 4 then 8 else 20) ≤ 20 := by split; omega; split <;> omega
      omega
    exact s_3 (kP_i hq h1 h2) (kP_i hp h1 h2) hn a2 a1
  rw [m_108 hp hq, cp 1 12 _ _ _ (by omega) (by omega) rfl]
  simp only [aV_o]
  rw [cp 2 12 _ _ _ (by omega) (by omega) rfl]
  simp only [aV_o]
  rw [cp 3 8 _ _ _ (by omega) (by omega) rfl]
  simp only [aV_o]
  rw [cp 4 8 _ _ _ (by omega) (by omega) rfl]
  simp only [aV_o]
  rw [cp 5 20 _ _ _ (by omega) (by omega) rfl]
  simp only [aV_o]
  rw [cp 6 20 _ _ _ (by omega) (by omega) rfl]
  simp only [aV_o]
  rw [cp 7 20 _ _ _ (by omega) (by omega) rfl]
  simp only [aV_o]
  rw [cp 8 20 _ _ _ (by omega) (by omega) rfl]
  simp only [aV_o]
  have F : ∀ r k, ¬ (p + 1 ≤ r ∧ r < p + 9) → sm_acp (sm_acp (sm_acp (sm_acp (sm_acp (sm_acp (sm_acp (sm_acp G (q + 1) 0 (p + 1) 0 12) (q + 2) 0 (p + 2) 0 12) (q + 3) 0 (p + 3) 0 8) (q + 4) 0 (p + 4) 0 8) (q + 5) 0 (p + 5) 0 20) (q + 6) 0 (p + 6) 0 20) (q + 7) 0 (p + 7) 0 20) (q + 8) 0 (p + 8) 0 20 r k = G r k := fun r k h => by
    rw [acp_ne (by omega), acp_ne (by omega), acp_ne (by omega), acp_ne (by omega), acp_ne (by omega), acp_ne (by omega), acp_ne (by omega), acp_ne (by omega)]
  have A : ∀ i k, 1 ≤ i → i ≤ 8 → (k < if i ≤ 2 then 12 else if i ≤ 4 then 8 else 20) → sm_acp (sm_acp (sm_acp (sm_acp (sm_acp (sm_acp (sm_acp (sm_acp G (q + 1) 0 (p + 1) 0 12) (q + 2) 0 (p + 2) 0 12) (q + 3) 0 (p + 3) 0 8) (q + 4) 0 (p + 4) 0 8) (q + 5) 0 (p + 5) 0 20) (q + 6) 0 (p + 6) 0 20) (q + 7) 0 (p + 7) 0 20) (q + 8) 0 (p + 8) 0 20 (p + i) k = G (q + i) k := fun i k h1 h2 h3 => by
    obtain rfl | rfl | rfl | rfl | rfl | rfl | rfl | rfl : i = 1 ∨ i = 2 ∨ i = 3 ∨ i = 4 ∨ i = 5 ∨ i = 6 ∨ i = 7 ∨ i = 8 := by omega
    · have h3 : k < 12 := h3
      rw [acp_ne (by omega), acp_ne (by omega), acp_ne (by omega), acp_ne (by omega), acp_ne (by omega), acp_ne (by omega), acp_ne (by omega), acp_at h3]
    · have h3 : k < 12 := h3
      rw [acp_ne (by omega), acp_ne (by omega), acp_ne (by omega), acp_ne (by omega), acp_ne (by omega), acp_ne (by omega), acp_at h3, acp_ne (by omega)]
    · have h3 : k < 8 := h3
      rw [acp_ne (by omega), acp_ne (by omega), acp_ne (by omega), acp_ne (by omega), acp_ne (by omega), acp_at h3, acp_ne (by omega), acp_ne (by omega)]
    · have h3 : k < 8 := h3
      rw [acp_ne (by omega), acp_ne (by omega), acp_ne (by omega), acp_ne (by omega), acp_at h3, acp_ne (by omega), acp_ne (by omega), acp_ne (by omega)]
    · have h3 : k < 20 := h3
      rw [acp_ne (by omega), acp_ne (by omega), acp_ne (by omega), acp_at h3, acp_ne (by omega), acp_ne (by omega), acp_ne (by omega), acp_ne (by omega)]
    · have h3 : k < 20 := h3
      rw [acp_ne (by omega), acp_ne (by omega), acp_at h3, acp_ne (by omega), acp_ne (by omega), acp_ne (by omega), acp_ne (by omega), acp_ne (by omega)]
    · have h3 : k < 20 := h3
      rw [acp_ne (by omega), acp_at h3, acp_ne (by omega), acp_ne (by omega), acp_ne (by omega), acp_ne (by omega), acp_ne (by omega), acp_ne (by omega)]
    · have h3 : k < 20 := h3
      rw [acp_at h3, acp_ne (by omega), acp_ne (by omega), acp_ne (by omega), acp_ne (by omega), acp_ne (by omega), acp_ne (by omega), acp_ne (by omega)]
  generalize sm_acp (sm_acp (sm_acp (sm_acp (sm_acp (sm_acp (sm_acp (sm_acp G (q + 1) 0 (p + 1) 0 12) (q + 2) 0 (p + 2) 0 12) (q + 3) 0 (p + 3) 0 8) (q + 4) 0 (p + 4) 0 8) (q + 5) 0 (p + 5) 0 20) (q + 6) 0 (p + 6) 0 20) (q + 7) 0 (p + 7) 0 20) (q + 8) 0 (p + 8) 0 20 = g at F A ⊢
  refine ⟨_, rfl, fun r k h1 h2 => by rw [sm_up_ne (by omega), sm_up_ne (by omega), sm_up_ne (by omega)]; exact F r k h1, fun k hk => ?_, fun i k h1 h2 h3 => by rw [sm_up_ne (by omega), sm_up_ne (by omega), sm_up_ne (by omega)]; exact A i k h1 h2 h3⟩
  rcases hk with rfl | rfl | rfl
  · rw [sm_up_ne (by omega), sm_up_ne (by omega), sm_up_same]
    exact F _ _ (by omega)
  · rw [sm_up_ne (by omega), sm_up_same, sm_up_ne (by omega)]
    exact F _ _ (by omega)
  · rw [sm_up_same, sm_up_ne (by omega), sm_up_ne (by omega)]
    exact F _ _ (by omega)
theorem cP.copy {G G' : sm_G} {p q K : Nat} {T P : pT} (h : cP G q T P K) (hT : okT T) (hP : okP T P) (h1 : ∀ k, k = 8 ∨ k = 9 ∨ k = 10 → G' p k = G q k) (h2 : ∀ i k, 1 ≤ i → i ≤ 8 → (k < if i ≤ 2 then 12 else if i ≤ 4 then 8 else 20) → G' (p + i) k = G (q + i) k) : cP G' p T P K := by
  have hB := hT.gb
  have hnn := hP.gb
  obtain ⟨b1, b2, b3, b4, b5, b6⟩ := h
  refine ⟨by rw [h1 _ (by omega)]; exact b1, by rw [h1 _ (by omega)]; exact b2, fun i hi => ?_, fun i hi => ?_, fun k hk => ?_, fun k hk => ?_⟩
  · rw [h2 1 i (by omega) (by omega) (show i < 12 by omega)]; exact b3 i hi
  · rw [h2 2 i (by omega) (by omega) (show i < 12 by omega)]; exact b4 i hi
  · rw [h2 3 k (by omega) (by omega) (show k < 8 by omega)]; exact b5 k hk
  · rw [h2 4 k (by omega) (by omega) (show k < 8 by omega)]; exact b6 k hk
theorem chn.copy {G G' : sm_G} {p q c : Nat} {T : pT} {H : Nat → pT} (h : chn G q T c H) (h1 : ∀ k, k = 8 ∨ k = 9 ∨ k = 10 → G' p k = G q k) (h2 : ∀ i k, 1 ≤ i → i ≤ 8 → (k < if i ≤ 2 then 12 else if i ≤ 4 then 8 else 20) → G' (p + i) k = G (q + i) k) : chn G' p T c H := by
  obtain ⟨c1, c2, c3, c4⟩ := h
  refine ⟨c1, by rw [h1 _ (by omega)]; exact c2, c3, fun i hi => ?_⟩
  have := c4 i hi
  unfold ent at this ⊢
  rw [h2 5 i (by omega) (by omega) (show i < 20 by omega), h2 6 i (by omega) (by omega) (show i < 20 by omega), h2 7 i (by omega) (by omega) (show i < 20 by omega), h2 8 i (by omega) (by omega) (show i < 20 by omega)]
  exact this
theorem IvS.imgs {V : pV} {G G2 : sm_G} {T : pT} {K c : Nat} {H W : Nat → pT} (h : IvS V G T K c H W) (hs : ∀ r k, ¬ sc r k → ¬ (r = 1 ∧ k = 15) → ¬ (r = 156 ∧ k = 39) → ¬ (27 ≤ r ∧ r < 54) → ¬ (279 ≤ r ∧ r < 282) → G2 r k = G r k) (hi : ivI G2 T) : IvS V G2 T K c H W := by
  obtain ⟨h1, h2, h3, h4, h5, h6, h7, h8, h9, h10, h11, h12, h13, h14, h15⟩ := h
  have hs1 := pS_lt h1.1.1
  have hb := pB_lt h1.1.2.2.2.1
  unfold sc at hs
  refine ⟨h1, h2, h3, h4, h5.keep (fun r k a => hs r k (by unfold inC at a; omega) (by unfold inC at a; omega) (by unfold inC at a; omega) (by unfold inC at a; omega) (by unfold inC at a; omega)), h6.keep (fun r k a b => hs r k (by omega) (by omega) (by omega) (by omega) (by omega)), h7.keep h2 h3 (fun r k a => hs r k (by unfold inM at a; omega) (by unfold inM at a; omega) (by unfold inM at a; omega) (by unfold inM at a; omega) (by unfold inM at a; omega)), fun k hk => by rw [hs _ _ (by omega) (by omega) (by omega) (by omega) (by omega)]; exact h8 k hk, h9.keep (fun r k a => hs r k (by omega) (by omega) (by omega) (by omega) (by omega)), h10.keep (fun r k a => hs r k (by omega) (by omega) (by omega) (by omega) (by omega)), h11.keep (fun r k a b => hs r k (by omega) (by omega) (by omega) (by omega) (by omega)), h12.keep h11.1 (fun r k a => hs r k (by omega) (by omega) (by omega) (by omega) (by omega)), hi, h14.keep (fun r k a => hs r k (by omega) (by omega) (by omega) (by omega) (by omega)), h15.keep h1.1 (fun r k a => hs r k (by omega) (by omega) (by omega) (by omega) (by omega))⟩
theorem s_330s {d x : Nat} {V : pV} {G : sm_G} {L : sm_L} {j : Nat} (hj : j < 3) : ∃ G', sm_cv0 (d + 3) 330 342 (RR V) [.ref 156, .ref (279 + j), .int (i3 0)] (x, G, L) = oV x G' L ∧ (∀ a k, a ≠ 279 + j → ¬ (a = 156 ∧ k = 40) → G' a k = G a k) ∧ G' (279 + j) 0 = G 160 2 ∧ (∀ i, i < 12 → G' (279 + j) (0 + 1 + 2 * i) = G (219 + i) 0 ∧ G' (279 + j) (0 + 2 + 2 * i) = G (219 + i) 1) ∧ (∀ k, k < 8 → G' (279 + j) (0 + 25 + 2 * k) = G (175 + k) 0 ∧ G' (279 + j) (0 + 26 + 2 * k) = G (175 + k) 1) ∧ G' (279 + j) 41 = G 156 37 ∧ G' (279 + j) 42 = G 156 38 ∧ ∀ i k, i < 20 → k < 41 → G' (279 + j) (43 + 41 * i + k) = G (283 + i) k := by
  have hr := kr_278 hj
  have hN := nr_278 hj
  have e0 : sm_up G 156 40 (i3 0) 156 40 = i3 0 := sm_up_same _ _ _ _
  obtain ⟨G1, f1, f2, f3, f4, f5, f6, f7⟩ := s_324s (d := d) (x := x) (V := V) (L := L) (G := sm_up G 156 40 (i3 0)) (r := 279 + j) (o := 0) hr hN (by omega) (by omega) (by omega) e0
  have one : ∀ (g : sm_G) (s : Nat) (v : Int32), s < 863 → g 156 40 = i3 s → sm_cv0 (d + 2) 325 342 (RR V) [.ref 156, .ref (279 + j), .int v, .int (i3 0)] (x, g, L) = oI v x (sm_up (sm_up g (279 + j) s v) 156 40 (i3 (s + 1))) L := fun g s v h1 h2 => s_325s (d := d + 1) hr hN h1 (by omega) (by omega) h2
  have u2 : ∀ (g : sm_G) (s : Nat) (v : Int32) (a k : Nat), a ≠ 279 + j → ¬ (a = 156 ∧ k = 40) → sm_up (sm_up g (279 + j) s v) 156 40 (i3 (s + 1)) a k = g a k := fun g s v a k h1 h2 => by rw [sm_up_ne (by omega), sm_up_ne (by omega)]
  have u3 : ∀ (g : sm_G) (s : Nat) (v : Int32) (k : Nat), k ≠ s → sm_up (sm_up g (279 + j) s v) 156 40 (i3 (s + 1)) (279 + j) k = g (279 + j) k := fun g s v k h1 => by rw [sm_up_ne (by omega), sm_up_ne (by omega)]
  have u4 : ∀ (g : sm_G) (s : Nat) (v : Int32), sm_up (sm_up g (279 + j) s v) 156 40 (i3 (s + 1)) (279 + j) s = v := fun g s v => by rw [sm_up_ne (by omega), sm_up_same]
  have u5 : ∀ (g : sm_G) (s : Nat) (v : Int32), sm_up (sm_up g (279 + j) s v) 156 40 (i3 (s + 1)) 156 40 = i3 (s + 1) := fun g s v => sm_up_same _ _ _ _
  have u6 : ∀ (g : sm_G) (s : Nat) (v : Int32) (a k : Nat), a ≠ 279 + j → ¬ (a = 156 ∧ k = 40) → v = g a k → sm_up (sm_up (sm_up g (279 + j) s v) 156 40 (i3 (s + 1))) a k v = sm_up (sm_up g (279 + j) s v) 156 40 (i3 (s + 1)) := fun g s v a k h1 h2 h3 => up_id (by rw [u2 _ _ _ _ _ h1 h2]; exact h3)
  rw [m_330, f1]
  simp only [aV_o]
  rw [one G1 41 (G1 156 37) (by omega) f4]
  simp only [aI_o]
  rw [u6 G1 41 (G1 156 37) 156 37 (by omega) (by omega) rfl]
  have z1 := u2 G1 41 (G1 156 37)
  have z2 := u3 G1 41 (G1 156 37)
  have z3 := u4 G1 41 (G1 156 37)
  have z4 := u5 G1 41 (G1 156 37)
  generalize sm_up (sm_up G1 (279 + j) 41 (G1 156 37)) 156 40 (i3 (41 + 1)) = G2 at z1 z2 z3 z4 ⊢
  rw [one G2 42 (G2 156 38) (by omega) z4]
  simp only [aI_o]
  rw [u6 G2 42 (G2 156 38) 156 38 (by omega) (by omega) rfl]
  have y1 := u2 G2 42 (G2 156 38)
  have y2 := u3 G2 42 (G2 156 38)
  have y3 := u4 G2 42 (G2 156 38)
  have y4 := u5 G2 42 (G2 156 38)
  generalize sm_up (sm_up G2 (279 + j) 42 (G2 156 38)) 156 40 (i3 (42 + 1)) = G3 at y1 y2 y3 y4 ⊢
  have fr3 : ∀ a k, a ≠ 279 + j → ¬ (a = 156 ∧ k = 40) → G3 a k = G a k := fun a k h1 h2 => by rw [y1 _ _ h1 h2, z1 _ _ h1 h2, f2 _ _ h1 h2, sm_up_ne (by omega)]
  have low3 : ∀ k, k < 41 → G3 (279 + j) k = G1 (279 + j) k := fun k hk => by rw [y2 _ (by omega), z2 _ (by omega)]
  have f5' : G1 (279 + j) 0 = G 160 2 := by rw [f5, sm_up_ne (by omega)]
  have f6' : ∀ i, i < 12 → G1 (279 + j) (0 + 1 + 2 * i) = G (219 + i) 0 ∧ G1 (279 + j) (0 + 2 + 2 * i) = G (219 + i) 1 := fun i hi => by rw [(f6 i hi).1, (f6 i hi).2, sm_up_ne (by omega), sm_up_ne (by omega)]; exact ⟨rfl, rfl⟩
  have f7' : ∀ k, k < 8 → G1 (279 + j) (0 + 25 + 2 * k) = G (175 + k) 0 ∧ G1 (279 + j) (0 + 26 + 2 * k) = G (175 + k) 1 := fun k hk => by rw [(f7 k hk).1, (f7 k hk).2, sm_up_ne (by omega), sm_up_ne (by omega)]; exact ⟨rfl, rfl⟩
  have a41 : G3 (279 + j) 41 = G 156 37 := by rw [y2 _ (by omega), z3, f2 _ _ (by omega) (by omega), sm_up_ne (by omega)]
  have a42 : G3 (279 + j) 42 = G 156 38 := by rw [y3, z1 _ _ (by omega) (by omega), f2 _ _ (by omega) (by omega), sm_up_ne (by omega)]
  -- one row of changes
  have row : ∀ i g, i < 20 → g 156 40 = i3 (43 + 41 * i) → (∀ a k, a ≠ 279 + j → ¬ (a = 156 ∧ k = 40) → g a k = G a k) → ∃ g', hD (d + 2) 330 50 [.ref 156, .ref (279 + j), .int (i3 0), .int (i3 i), .int (i3 0)] 342 (RR V) x g L = hD (d + 2) 330 41 [.ref 156, .ref (279 + j), .int (i3 0), .int (i3 (i + 1)), .null] 342 (RR V) x g' L ∧ (∀ a k, a ≠ 279 + j → ¬ (a = 156 ∧ k = 40) → g' a k = G a k) ∧ g' 156 40 = i3 (43 + 41 * (i + 1)) ∧ (∀ k, k < 43 + 41 * i → g' (279 + j) k = g (279 + j) k) ∧ ∀ k, k < 41 → g' (279 + j) (43 + 41 * i + k) = G (283 + i) k := by
    intro i g hi h40 hfr
    refine loopE (H := fun k (g : sm_G) => hD (d + 2) 330 50 [.ref 156, .ref (279 + j), .int (i3 0), .int (i3 i), .int (i3 k)] 342 (RR V) x g L) (Q := fun o' => ∃ g', o' = hD (d + 2) 330 41 [.ref 156, .ref (279 + j), .int (i3 0), .int (i3 (i + 1)), .null] 342 (RR V) x g' L ∧ (∀ a k, a ≠ 279 + j → ¬ (a = 156 ∧ k = 40) → g' a k = G a k) ∧ g' 156 40 = i3 (43 + 41 * (i + 1)) ∧ (∀ k, k < 43 + 41 * i → g' (279 + j) k = g (279 + j) k) ∧ ∀ k, k < 41 → g' (279 + j) (43 + 41 * i + k) = G (283 + i) k) (N := 41)
      (fun k u => (∀ a k, a ≠ 279 + j → ¬ (a = 156 ∧ k = 40) → u a k = G a k) ∧ u 156 40 = i3 (43 + 41 * i + k) ∧ (∀ k, k < 43 + 41 * i → u (279 + j) k = g (279 + j) k) ∧ ∀ m, m < k → u (279 + j) (43 + 41 * i + m) = G (283 + i) m) ?_ ?_ 41 0 g (by omega) ⟨hfr, h40, fun _ _ => rfl, fun m hm => by omega⟩
    · rintro k u hk ⟨w1, w2, w3, w4⟩
      have w2' : u 156 40 = i3 (43 + 41 * i + k) := w2
      have t1 := one u (43 + 41 * i + k) (u (283 + i) k) (by omega) w2'
      have t2 := u6 u (43 + 41 * i + k) (u (283 + i) k) (283 + i) k (by omega) (by omega) rfl
      refine ⟨sm_up (sm_up u (279 + j) (43 + 41 * i + k) (u (283 + i) k)) 156 40 (i3 (43 + 41 * i + k + 1)), ?_, fun a k' h1 h2 => by rw [u2 _ _ _ _ _ h1 h2]; exact w1 a k' h1 h2, u5 _ _ _, fun k' hk' => by rw [u3 _ _ _ _ (by omega)]; exact w3 k' hk', fun m hm => ?_⟩
      · rw [h_330_50]
        simp (disch := omega) only [i3_add, i3_mul, i3_sub, i3_m1, i3_lt, i3_le, i3_eq, m1_lt, lt_m1, m1_le, le_m1, i3_nm1, m1_ni3, i3_cl, i3_in, i3_or, i3_and, i3_xor, i3_shl, i3_shr, sh_tb, tb_eq0, gd_tt, aI_o, aV_o, aL_o, aR_o, zd_0, zd_1, if_true, if_false, ite_self, eq_self, Bool.true_eq_false, Bool.false_eq_true, bi_0, bi_1, bi_zd, Nat.not_lt_zero, hk, hi, rr_282, ldi_e (kr_282 hi) (nr_282 hi), kr_282 hi, nr_282 hi, t1, t2]
      · by_cases q : m = k
        · subst q
          rw [u4]
          exact w1 _ _ (by omega) (by omega)
        · rw [u3 _ _ _ _ (by omega)]
          exact w4 m (by omega)
    · rintro u ⟨w1, w2, w3, w4⟩
      refine ⟨u, ?_, w1, by rw [w2]; congr 1, w3, w4⟩
      rw [h_330_50]
      simp (disch := omega) only [i3_add, i3_mul, i3_sub, i3_m1, i3_lt, i3_le, i3_eq, m1_lt, lt_m1, m1_le, le_m1, i3_nm1, m1_ni3, i3_cl, i3_in, i3_or, i3_and, i3_xor, i3_shl, i3_shr, sh_tb, tb_eq0, gd_tt, aI_o, aV_o, aL_o, aR_o, zd_0, zd_1, if_true, if_false, ite_self, eq_self, Bool.true_eq_false, Bool.false_eq_true, bi_0, bi_1, bi_zd, Nat.not_lt_zero, Nat.lt_irrefl]
  refine loopE (H := fun i (g : sm_G) => hD (d + 2) 330 41 [.ref 156, .ref (279 + j), .int (i3 0), .int (i3 i), .null] 342 (RR V) x g L) (Q := fun o' => ∃ G', o' = oV x G' L ∧ (∀ a k, a ≠ 279 + j → ¬ (a = 156 ∧ k = 40) → G' a k = G a k) ∧ G' (279 + j) 0 = G 160 2 ∧ (∀ i, i < 12 → G' (279 + j) (0 + 1 + 2 * i) = G (219 + i) 0 ∧ G' (279 + j) (0 + 2 + 2 * i) = G (219 + i) 1) ∧ (∀ k, k < 8 → G' (279 + j) (0 + 25 + 2 * k) = G (175 + k) 0 ∧ G' (279 + j) (0 + 26 + 2 * k) = G (175 + k) 1) ∧ G' (279 + j) 41 = G 156 37 ∧ G' (279 + j) 42 = G 156 38 ∧ ∀ i k, i < 20 → k < 41 → G' (279 + j) (43 + 41 * i + k) = G (283 + i) k) (N := 20)
    (fun i g => g 156 40 = i3 (43 + 41 * i) ∧ (∀ a k, a ≠ 279 + j → ¬ (a = 156 ∧ k = 40) → g a k = G a k) ∧ (∀ k, k < 43 → g (279 + j) k = G3 (279 + j) k) ∧ ∀ i' k, i' < i → k < 41 → g (279 + j) (43 + 41 * i' + k) = G (283 + i') k) ?_ ?_ 20 0 G3 (by omega) ⟨y4, fr3, fun _ _ => rfl, fun i' k h _ => by omega⟩
  · rintro i g hi ⟨w1, w2, w3, w4⟩
    obtain ⟨g', t1, t2, t3, t4, t5⟩ := row i g hi w1 w2
    refine ⟨g', ?_, t3, t2, fun k hk => by rw [t4 k (by omega)]; exact w3 k hk, fun i' k h1 h2 => ?_⟩
    · show hD (d + 2) 330 41 _ 342 (RR V) x g L = _
      rw [h_330_41]
      simp (disch := omega) only [i3_add, i3_mul, i3_sub, i3_m1, i3_lt, i3_le, i3_eq, m1_lt, lt_m1, m1_le, le_m1, i3_nm1, m1_ni3, i3_cl, i3_in, i3_or, i3_and, i3_xor, i3_shl, i3_shr, sh_tb, tb_eq0, gd_tt, aI_o, aV_o, aL_o, aR_o, zd_0, zd_1, if_true, if_false, ite_self, eq_self, Bool.true_eq_false, Bool.false_eq_true, bi_0, bi_1, bi_zd, Nat.not_lt_zero, hi, t1]
    · by_cases q : i' = i
      · subst q; exact t5 k h2
      · rw [t4 _ (by omega)]
        exact w4 i' k (by omega) h2
  · rintro g ⟨w1, w2, w3, w4⟩
    refine ⟨g, ?_, w2, by rw [w3 _ (by omega), low3 _ (by omega)]; exact f5', fun i hi => by rw [w3 _ (by omega), w3 _ (by omega), low3 _ (by omega), low3 _ (by omega)]; exact f6' i hi, fun k hk => by rw [w3 _ (by omega), w3 _ (by omega), low3 _ (by omega), low3 _ (by omega)]; exact f7' k hk, by rw [w3 _ (by omega)]; exact a41, by rw [w3 _ (by omega)]; exact a42, w4⟩
    show hD (d + 2) 330 41 _ 342 (RR V) x g L = _
    rw [h_330_41]
    simp (disch := omega) only [i3_add, i3_mul, i3_sub, i3_m1, i3_lt, i3_le, i3_eq, m1_lt, lt_m1, m1_le, le_m1, i3_nm1, m1_ni3, i3_cl, i3_in, i3_or, i3_and, i3_xor, i3_shl, i3_shr, sh_tb, tb_eq0, gd_tt, aI_o, aV_o, aL_o, aR_o, zd_0, zd_1, if_true, if_false, ite_self, eq_self, Bool.true_eq_false, Bool.false_eq_true, bi_0, bi_1, bi_zd, Nat.not_lt_zero, Nat.lt_irrefl]
