/-! the class's words, held against texts -/
theorem s_1 {d x : Nat} {V : pV} {G : sm_G} {L : sm_L} {t k : Nat} {w : List Int32} (ht : t < sm_strs.length) (hw : sm_strs.getD t [] = w) (hk : w.length = k) : sm_cv0 (d + 1) 1 342 (RR V) [.ref (4096 + t)] (x, G, L) = oI (i3 k) x G L := by
  unfold sm_cv0
  rw [sm_cw_succ]
  show sm_dr (sm_bi 1 [.ref (4096 + t)] _) = _
  show sm_dr (bif Nat.ble 4096 (4096 + t) && Nat.blt (4096 + t) (4096 + sm_strs.length) then some (.inl (some (.int (Int32.ofNat (sm_strs.getD (4096 + t - 4096) []).length))), _) else none) = _
  rw [Nat.ble_eq_true_of_le (Nat.le_add_right 4096 t), sm_blt_t (by omega : 4096 + t < 4096 + sm_strs.length), Nat.add_sub_cancel_left, hw, hk]
  rfl
theorem s_2 {d x : Nat} {V : pV} {G : sm_G} {L : sm_L} {t k : Nat} {w : List Int32} (ht : t < sm_strs.length) (hw : sm_strs.getD t [] = w) (hk : k < w.length) (hl : w.length < 1000) : sm_cv0 (d + 1) 2 342 (RR V) [.ref (4096 + t), .int (i3 k)] (x, G, L) = oI (w.getD k 0) x G L := by
  unfold sm_cv0
  rw [sm_cw_succ]
  show sm_dr (bif Nat.ble 4096 (4096 + t) && Nat.blt (4096 + t) (4096 + sm_strs.length) && sm_in (i3 k) (sm_strs.getD (4096 + t - 4096) []).length then some (.inl (some (.int ((sm_strs.getD (4096 + t - 4096) []).getD (i3 k).toNatClampNeg 0))), _) else none) = _
  rw [Nat.ble_eq_true_of_le (Nat.le_add_right 4096 t), sm_blt_t (by omega : 4096 + t < 4096 + sm_strs.length), Nat.add_sub_cancel_left, hw, i3_in (by omega) hk, i3_cl (by omega)]
  rfl
/-- text t of the class is this word, the last letter first -/
def isT (t : Nat) (ws : List Nat) : Prop := t < sm_strs.length ∧ sm_strs.getD t [] = ws.reverse.map (fun c => i3 (96 + c)) ∧ ws.length < 20 ∧ ws.all (fun c => Nat.ble 1 c && Nat.ble c 26) = true
theorem isT_c {t : Nat} {ws : List Nat} (h : isT t ws) : ∀ c, c ∈ ws → 1 ≤ c ∧ c ≤ 26 := fun c hc => by
  have := List.all_eq_true.mp h.2.2.2 c hc
  rw [Bool.and_eq_true] at this
  exact ⟨Nat.le_of_ble_eq_true this.1, Nat.le_of_ble_eq_true this.2⟩
theorem gd_l {l : List Nat} {c j : Nat} (h : j < l.length) : (l ++ [c]).getD j 0 = l.getD j 0 := by
  rw [List.getD_eq_getElem?_getD, List.getD_eq_getElem?_getD, List.getElem?_append_left h]
theorem gd_r {l : List Nat} {c : Nat} : (l ++ [c]).getD l.length 0 = c := by
  rw [List.getD_eq_getElem?_getD, List.getElem?_append_right (Nat.le_refl _), Nat.sub_self]
  rfl
theorem wr_eq {B : Nat → Nat} {s : Nat} : ∀ (m : Nat) (ws : List Nat), (∀ j, j < m → 97 ≤ B (s + j)) → (wr B s m = ws ↔ ws.length = m ∧ ∀ j, j < m → B (s + j) = 96 + ws.reverse.getD j 0)
  | 0, [], _ => ⟨fun _ => ⟨rfl, fun j hj => by omega⟩, fun _ => rfl⟩
  | 0, c :: ws, _ => ⟨fun h => (nomatch h), fun h => absurd h.1 (by simp)⟩
  | m + 1, [], _ => ⟨fun h => (nomatch h), fun h => absurd h.1 (by simp)⟩
  | m + 1, c :: ws, hl => by
    have ih := wr_eq m ws (fun j hj => hl j (by omega))
    have hm := hl m (by omega)
    show (B (s + m) - 96) :: wr B s m = c :: ws ↔ _
    rw [List.cons.injEq, ih, List.length_cons, List.reverse_cons]
    constructor
    · rintro ⟨h1, h2, h3⟩
      refine ⟨by omega, fun j hj => ?_⟩
      by_cases q : j < m
      · rw [h3 j q, gd_l (by rw [List.length_reverse]; omega)]
      · have e : j = ws.reverse.length := by rw [List.length_reverse]; omega
        rw [e, gd_r, List.length_reverse, h2]
        omega
    · rintro ⟨h1, h2⟩
      have h1 : ws.length = m := by omega
      refine ⟨?_, h1, fun j hj => ?_⟩
      · have := h2 ws.reverse.length (by rw [List.length_reverse]; omega)
        rw [gd_r, List.length_reverse, h1] at this
        omega
      · have := h2 j (by omega)
        rw [gd_l (by rw [List.length_reverse]; omega)] at this
        exact this
theorem s_140 {D x : Nat} {V : pV} {G : sm_G} {L : sm_L} {B : Nat → Nat} {n t : Nat} {c : St} {ws : List Nat} (hD0 : 2 ≤ D) (hr : rW G B n c) (hT : isT t ws) : sm_cv0 D 140 342 (RR V) [.ref 2, .ref (4096 + t)] (x, G, L) = oI (if c.1 = 0 ∧ wl B n c.2.2 = ws then i3 1 else i3 0) x G L := by
  obtain ⟨d, rfl⟩ : ∃ d, D = d + 2 := ⟨D - 2, by omega⟩
  obtain ⟨h1, h2, h3, h4, h5, h6⟩ := hr
  have e5 := s_135b (d := d) (x := x) (V := V) (L := L) h2 h4
  rw [m_140, e5, aI_o]
  by_cases q : c.1 = 0
  · obtain ⟨p0, a2, a3, a4, a5, a6⟩ := h6 q
    have hn := h1.1
    have hlen : (ws.reverse.map (fun c => i3 (96 + c))).length = ws.length := by rw [List.length_map, List.length_reverse]
    have el := s_1 (d := d) (x := x) (V := V) (G := G) (L := L) hT.1 hT.2.1 hlen
    have h20 := hT.2.2.1
    have hlt : ∀ j, j < we B n c.2.2 - c.2.2 → 97 ≤ B (c.2.2 + j) := fun j hj => by
      have := wh_in (q := lt B n) (n := n) lt_n c.2.2 (c.2.2 + j) (by omega) (by unfold we at hj; omega)
      rw [lt_t (lt_n _ this)] at this
      exact this.1
    have hwr := wr_eq (B := B) (s := c.2.2) (we B n c.2.2 - c.2.2) ws hlt
    rw [if_pos q, if_pos rfl, el, aI_o, a5, a6, i3_sub (by omega)]
    by_cases z : we B n c.2.2 - c.2.2 = ws.length
    · have key : ∀ k i, i + k = ws.length → ((∀ j, i ≤ j → j < ws.length → B (c.2.2 + j) = 96 + ws.reverse.getD j 0) → hD (d + 1) 140 27 [.ref 2, .ref (4096 + t), .int (i3 i)] 342 (RR V) x G L = oI (i3 1) x G L) ∧ (¬ (∀ j, i ≤ j → j < ws.length → B (c.2.2 + j) = 96 + ws.reverse.getD j 0) → hD (d + 1) 140 27 [.ref 2, .ref (4096 + t), .int (i3 i)] 342 (RR V) x G L = oI (i3 0) x G L) := by
        intro k
        induction k with
        | zero =>
          intro i hi
          refine ⟨fun _ => ?_, fun w => absurd (fun j j1 j2 => by omega) w⟩
          rw [h_140_27, el, aI_o, if_neg (by rw [i3_lt (by omega) (by omega)]; omega)]
        | succ k ih =>
          intro i hi
          have e2 := s_2 (d := d) (x := x) (V := V) (G := G) (L := L) (k := i) hT.1 hT.2.1 (by rw [hlen]; omega) (by rw [hlen]; omega)
          have hil : i < ws.reverse.length := by rw [List.length_reverse]; omega
          have eg : (ws.reverse.map (fun c => i3 (96 + c))).getD i 0 = i3 (96 + ws.reverse.getD i 0) := by
            rw [List.getD_eq_getElem?_getD, List.getElem?_map, List.getD_eq_getElem?_getD, List.getElem?_eq_getElem hil]
            rfl
          have hc : ws.reverse.getD i 0 ≤ 26 := by
            rw [List.getD_eq_getElem?_getD, List.getElem?_eq_getElem hil]
            exact (isT_c hT _ (List.mem_reverse.mp (List.getElem_mem hil))).2
          obtain ⟨b1, b2⟩ := h1.2.2 (c.2.2 + i) (by omega)
          obtain ⟨ih1, ih2⟩ := ih (i + 1) (by omega)
          rw [h_140_27, el, aI_o, if_pos (by rw [i3_lt (by omega) (by omega)]; omega), a5, i3_add, i3_in (by omega) (by omega), gd_tt, e2, aI_o, i3_cl (by omega), b2, eg]
          by_cases y : B (c.2.2 + i) = 96 + ws.reverse.getD i 0
          · rw [if_pos (by rw [cb_eq b1 (by omega)]; exact y), i3_add]
            refine ⟨fun w => ih1 (fun j j1 j2 => w j (by omega) j2), fun w => ih2 (fun u => w (fun j j1 j2 => ?_))⟩
            by_cases v : j = i
            · rw [v]; exact y
            · exact u j (by omega) j2
          · rw [if_neg (by rw [cb_eq b1 (by omega)]; exact y)]
            exact ⟨fun w => absurd (w i (Nat.le_refl i) (by omega)) y, fun _ => rfl⟩
      obtain ⟨k1, k2⟩ := key ws.length 0 (by omega)
      rw [if_pos (by rw [z])]
      have this : (∀ j, 0 ≤ j → j < ws.length → B (c.2.2 + j) = 96 + ws.reverse.getD j 0) ↔ (c.1 = 0 ∧ wl B n c.2.2 = ws) := by
        unfold wl
        rw [hwr]
        constructor
        · intro u
          exact ⟨q, z.symm, fun j hj => u j (Nat.zero_le j) (by omega)⟩
        · rintro ⟨_, _, u⟩ j _ hj
          exact u j (by omega)
      by_cases w : c.1 = 0 ∧ wl B n c.2.2 = ws
      · rw [if_pos w]
        exact k1 (this.mpr w)
      · rw [if_neg w]
        exact k2 (fun u => w (this.mp u))
    · rw [if_neg (by rw [i3_eq (by omega) (by omega)]; exact z), if_neg (fun u => z (by
        have := u.2
        unfold wl at this
        rw [hwr] at this
        exact this.1.symm))]
  · rw [if_neg q, if_neg (by decide), if_neg (fun z => q z.1)]
/-- a word that may stand next -/
theorem s_147 {D x : Nat} {V : pV} {G : sm_G} {L : sm_L} {B : Nat → Nat} {n t : Nat} {c : St} {ws : List Nat} (hD0 : 4 ≤ D) (hr : rC G B n c) (hT : isT t ws) (hne : ws ≠ []) : ∃ G', sm_cv0 D 147 342 (RR V) [.ref 2, .ref (4096 + t)] (x, G, L) = oI (if c.1 = 0 ∧ wl B n c.2.2 = ws then i3 1 else i3 0) x G' L ∧ tF G G' ∧ rC G' B n (if c.1 = 0 ∧ wl B n c.2.2 = ws then (0, 0, sk B n (we B n c.2.2)) else c) := by
  obtain ⟨d, rfl⟩ : ∃ d, D = d + 4 := ⟨D - 4, by omega⟩
  have e5 := s_135b (d := d + 2) (x := x) (V := V) (L := L) hr.2.1 hr.2.2.2.1
  rw [m_147, e5, aI_o]
  by_cases q : c.1 = 0
  · obtain ⟨G1, e1, e2, e3, e4, hs, hi⟩ := hr.skip (d := d + 2) (x := x) (V := V) (L := L) q
    have hn := hr.1.1
    have f1 : tF G G1 := fun r k w => e3 r k (by omega)
    rw [if_pos q, if_pos rfl, e1, aV_o, e2, e4.1.2.1]
    have no : lt B n c.2.2 = false → wl B n c.2.2 ≠ ws := fun h z => by
      unfold wl at z
      rw [show we B n c.2.2 = c.2.2 from wh_st h, Nat.sub_self] at z
      exact hne z.symm
    by_cases z : c.2.2 < n
    · obtain ⟨b1, b2⟩ := e4.1.2.2 _ z
      rw [if_pos (by rw [i3_lt (by omega) (by omega)]; exact z), i3_in (by omega) (by omega), gd_tt, i3_cl (by omega), b2]
      cases y : lt B n c.2.2 with
      | false =>
        have w : ¬ (¬ i2b (i3 (B c.2.2)) < i3 97 ∧ i2b (i3 (B c.2.2)) ≤ i3 122) := fun w => by
          rw [(lt_t z (B := B)).mpr ((cb_lt _ b1).mp w)] at y
          cases y
        have hno : ¬ (c.1 = 0 ∧ wl B n c.2.2 = ws) := fun u => no y u.2
        rw [if_neg hno, if_neg hno]
        by_cases u : i2b (i3 (B c.2.2)) < i3 97
        · rw [if_pos u]
          exact ⟨G1, rfl, f1, e4⟩
        · rw [if_neg u, gd_tt, if_neg (fun v => w ⟨u, v⟩)]
          exact ⟨G1, rfl, f1, e4⟩
      | true =>
        have w := (cb_lt _ b1).mpr ((lt_t z (B := B)).mp y)
        obtain ⟨G2, k1, k2, k3⟩ := s_138 (D := d + 3) (x := x) (V := V) (L := L) (by omega) e4
        have hwe : we B n c.2.2 ≠ c.2.2 := by
          have h1 : we B n c.2.2 = we B n (c.2.2 + 1) := wh_go z y
          have h2 := we_ge (B := B) (n := n) (a := c.2.2 + 1)
          omega
        have hwd : wdS B n c = c := by
          unfold wdS
          rw [if_pos q, if_neg hwe]
        rw [hwd] at k3
        have e140 := s_140 (D := d + 3) (x := x) (V := V) (L := L) (by omega) k3 hT
        rw [if_neg w.1, gd_tt, if_pos w.2, k1, aV_o, e140, aI_o]
        by_cases u : c.1 = 0 ∧ wl B n c.2.2 = ws
        · rw [if_pos u, if_neg (by decide), if_pos u]
          have := k3.rd
          unfold wdN at this
          rw [if_pos q] at this
          exact ⟨G2, rfl, f1.tr k2, this⟩
        · rw [if_neg u, if_pos rfl, if_neg u]
          refine ⟨_, rfl, (f1.tr k2).tr (tF_up (by omega)), k3.1.keep (fun r k v => sm_up_ne (by omega)), hr.2.1, hr.2.2.1, by rw [sm_up_ne (by omega)]; exact k3.2.2.2.1, by rw [sm_up_ne (by omega)]; exact k3.2.2.2.2.1, fun _ => ⟨(k3.2.2.2.2.2 q).1, c.2.2, hs, sm_up_same _ _ _ _, hi⟩⟩
    · rw [if_neg (by rw [i3_lt (by omega) (by omega)]; exact z), if_neg (fun u => no (lt_e (by omega)) u.2), if_neg (fun u => no (lt_e (by omega)) u.2)]
      exact ⟨G1, rfl, f1, e4⟩
  · rw [if_neg q, if_neg (by decide), if_neg (fun u => q u.1), if_neg (fun u => q u.1)]
    exact ⟨G, rfl, tF_o, hr⟩
