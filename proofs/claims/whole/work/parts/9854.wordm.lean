/-! the model's words -/
theorem s_226 {D x : Nat} {V : pV} {G : sm_G} {L : sm_L} {B : Nat → Nat} {n : Nat} {c : St} (hD0 : 3 ≤ D) (hr : rM G B n c) (q : c.1 = 0) : ∃ G', sm_cv0 D 226 342 (RR V) [.ref 156] (x, G, L) = oL (if we B n c.2.2 - c.2.2 ≤ 7 then i6 (cdr (wl B n c.2.2)) else n6 1) x G' L ∧ rE G' B n c ∧ mF G G' := by
  obtain ⟨d, rfl⟩ : ∃ d, D = d + 3 := ⟨D - 3, by omega⟩
  obtain ⟨G1, e1, e2, e3⟩ := s_221 (D := d + 2) (x := x) (V := V) (L := L) (by omega) hr
  obtain ⟨a1, a2, a3, a4⟩ := e2.at q
  have hn := e2.1.1
  have hge := we_ge (B := B) (n := n) (a := c.2.2)
  have hle := we_le (B := B) a2
  have key : ∀ j k, k + j = we B n c.2.2 - c.2.2 → ∀ w : Int64, (k ≤ 8 → w = i6 (cdr (wr B c.2.2 k))) → hD (d + 2) 226 8 [.ref 156, .long w, .null, .int (i3 k)] 342 (RR V) x G1 L = oL (if we B n c.2.2 - c.2.2 ≤ 7 then i6 (cdr (wl B n c.2.2)) else n6 1) x G1 L := by
    intro j
    induction j with
    | zero =>
      intro k hk w hw
      have e22 := s_222 (d := d + 1) (x := x) (V := V) (L := L) (a := c.2.2 + k) e2.1 (by omega)
      have e27 := s_227 (d := d + 1) (x := x) (V := V) (G := G1) (L := L) (a := c.2.2 + k) e2.1
      have hend : lt B n (c.2.2 + k) = false := by
        rw [show c.2.2 + k = we B n c.2.2 by omega]
        exact wh_no lt_n _
      rw [h_226_8, a1, i3_add, e22, aI_o, e27, aI_o, if_neg (show ¬ lt B n (c.2.2 + k) = true by rw [hend]; decide), if_pos rfl]
      have hk' : k = we B n c.2.2 - c.2.2 := by omega
      by_cases z : we B n c.2.2 - c.2.2 ≤ 7
      · rw [if_pos (by rw [i3_le (by omega) (by omega)]; omega), if_pos z, hw (by omega), hk']
        rfl
      · rw [if_neg (by rw [i3_le (by omega) (by omega)]; omega), if_neg z]
    | succ j ih =>
      intro k hk w hw
      have e22 := s_222 (d := d + 1) (x := x) (V := V) (L := L) (a := c.2.2 + k) e2.1 (by omega)
      have e27 := s_227 (d := d + 1) (x := x) (V := V) (G := G1) (L := L) (a := c.2.2 + k) e2.1
      have hin : lt B n (c.2.2 + k) = true := wh_in (q := lt B n) (n := n) lt_n c.2.2 (c.2.2 + k) (by omega) (by unfold we at hk; omega)
      have hkn := lt_n _ hin
      have hb := (e2.1.2.2 _ hkn).1
      have hin' := hin
      rw [lt_t hkn] at hin'
      rw [h_226_8, a1, i3_add, e22, aI_o, e27, aI_o, if_pos hin, if_neg (by decide), a1, i3_add, e22, aI_o, i3_add]
      by_cases z : k < 8
      · have eb : bA B n (c.2.2 + k) = i3 (B (c.2.2 + k)) := if_pos hkn
        rw [if_pos (by rw [i3_lt (by omega) (by omega)]; exact z), h_226_61, hw (by omega), eb, i6_of (by omega), i6_mul, i6_add, i6_sub (by omega), i6_add]
        refine ih (k + 1) (by omega) _ (fun _ => ?_)
        congr 1
        show _ = 27 * cdr (wr B c.2.2 k) + (B (c.2.2 + k) - 96)
        omega
      · rw [if_neg (by rw [i3_lt (by omega) (by omega)]; exact z), h_226_61]
        exact ih (k + 1) (by omega) _ (fun y => by omega)
  rw [m_226, e1, aV_o, key (we B n c.2.2 - c.2.2) 0 (by omega) (i6 0) (fun _ => rfl)]
  exact ⟨G1, rfl, e2, fun r k w => e3 r k (by omega)⟩
def svp (v c : Nat) : Nat := if c = 0 then v else 27 * v + c
def sev (a b c d e f g : Nat) : Nat := svp (svp (svp (svp (svp (27 * a + b) c) d) e) f) g
theorem s_228 {d x : Nat} {V : pV} {G : sm_G} {L : sm_L} {v0 v1 v2 v3 v4 v5 v6 : Nat} (h : v0 < 100 ∧ v1 < 100 ∧ v2 < 100 ∧ v3 < 100 ∧ v4 < 100 ∧ v5 < 100 ∧ v6 < 100) : sm_cv0 (d + 1) 228 342 (RR V) [.int (i3 v0), .int (i3 v1), .int (i3 v2), .int (i3 v3), .int (i3 v4), .int (i3 v5), .int (i3 v6)] (x, G, L) = oL (i6 (sev v0 v1 v2 v3 v4 v5 v6)) x G L := by
  obtain ⟨h0, h1, h2, h3, h4, h5, h6⟩ := h
  have t73 : ∀ w : Nat, hD d 228 73 [.null, .null, .null, .null, .null, .int (i3 v5), .int (i3 v6), .long (i6 w), .null] 342 (RR V) x G L = oL (i6 (svp (svp w v5) v6)) x G L := fun w => by
    rw [h_228_73, i6_of (by omega), i6_of (by omega)]
    simp only [i6_mul, i6_add]
    by_cases q : v5 = 0
    · rw [if_pos (by rw [q]), show svp w v5 = w from if_pos q]
      by_cases q6 : v6 = 0
      · rw [if_pos (by rw [q6]), show svp w v6 = w from if_pos q6]
      · rw [if_neg (by rw [i3_eq (by omega) (by omega)]; exact q6), show svp w v6 = 27 * w + v6 from if_neg q6]
    · rw [if_neg (by rw [i3_eq (by omega) (by omega)]; exact q), show svp w v5 = 27 * w + v5 from if_neg q]
      by_cases q6 : v6 = 0
      · rw [if_pos (by rw [q6]), show svp (27 * w + v5) v6 = 27 * w + v5 from if_pos q6]
      · rw [if_neg (by rw [i3_eq (by omega) (by omega)]; exact q6), show svp (27 * w + v5) v6 = 27 * (27 * w + v5) + v6 from if_neg q6]
  have t51 : ∀ w : Nat, hD d 228 51 [.null, .null, .null, .null, .int (i3 v4), .int (i3 v5), .int (i3 v6), .long (i6 w), .null] 342 (RR V) x G L = oL (i6 (svp (svp (svp w v4) v5) v6)) x G L := fun w => by
    rw [h_228_51, i6_of (by omega), i6_mul, i6_add]
    by_cases q : v4 = 0
    · rw [if_pos (by rw [q]), t73, show svp w v4 = w from if_pos q]
    · rw [if_neg (by rw [i3_eq (by omega) (by omega)]; exact q), t73, show svp w v4 = 27 * w + v4 from if_neg q]
  have t31 : ∀ w : Nat, hD d 228 31 [.null, .null, .null, .int (i3 v3), .int (i3 v4), .int (i3 v5), .int (i3 v6), .long (i6 w), .null] 342 (RR V) x G L = oL (i6 (svp (svp (svp (svp w v3) v4) v5) v6)) x G L := fun w => by
    rw [h_228_31, i6_of (by omega), i6_mul, i6_add]
    by_cases q : v3 = 0
    · rw [if_pos (by rw [q]), t51, show svp w v3 = w from if_pos q]
    · rw [if_neg (by rw [i3_eq (by omega) (by omega)]; exact q), t51, show svp w v3 = 27 * w + v3 from if_neg q]
  unfold sev
  rw [m_228, i6_of (by omega), i6_of (by omega), i6_of (by omega), i6_mul, i6_add, i6_mul, i6_add]
  by_cases q : v2 = 0
  · rw [if_pos (by rw [q]), t31, show svp (27 * v0 + v1) v2 = 27 * v0 + v1 from if_pos q]
  · rw [if_neg (by rw [i3_eq (by omega) (by omega)]; exact q), t31, show svp (27 * v0 + v1) v2 = 27 * (27 * v0 + v1) + v2 from if_neg q]
theorem n6_lt {a : Nat} (h : a < 9223372036854775808) : n6 1 < i6 a := by
  rw [Int64.lt_iff_toInt_lt, i6_toInt h, show (n6 1).toInt = -1 by decide]
  omega
/-- a word of the model by the numbers of its letters -/
def isW (v0 v1 v2 v3 v4 v5 v6 : Nat) (ws : List Nat) : Prop := (v0 < 100 ∧ v1 < 100 ∧ v2 < 100 ∧ v3 < 100 ∧ v4 < 100 ∧ v5 < 100 ∧ v6 < 100) ∧ sev v0 v1 v2 v3 v4 v5 v6 = cdr ws ∧ ws.length ≤ 7 ∧ ws.all (fun c => Nat.ble 1 c && Nat.ble c 26) = true
theorem s_225 {D x : Nat} {V : pV} {G : sm_G} {L : sm_L} {B : Nat → Nat} {n v0 v1 v2 v3 v4 v5 v6 : Nat} {c : St} {ws : List Nat} (hD0 : 4 ≤ D) (hr : rM G B n c) (hW : isW v0 v1 v2 v3 v4 v5 v6 ws) : ∃ G', sm_cv0 D 225 342 (RR V) [.ref 156, .int (i3 v0), .int (i3 v1), .int (i3 v2), .int (i3 v3), .int (i3 v4), .int (i3 v5), .int (i3 v6)] (x, G, L) = oI (if c.1 = 0 ∧ wl B n c.2.2 = ws then i3 1 else i3 0) x G' L ∧ rE G' B n c ∧ mF G G' := by
  obtain ⟨d, rfl⟩ : ∃ d, D = d + 4 := ⟨D - 4, by omega⟩
  obtain ⟨hv, hs, hl, hc⟩ := hW
  have hc' : ∀ c, c ∈ ws → 1 ≤ c ∧ c ≤ 26 := fun c h => by
    have := List.all_eq_true.mp hc c h
    rw [Bool.and_eq_true] at this
    exact ⟨Nat.le_of_ble_eq_true this.1, Nat.le_of_ble_eq_true this.2⟩
  have hwl := cdr_lt ws hc'
  have p7 : ∀ k, k ≤ 7 → 27 ^ k ≤ 10460353203 := fun k hk => Nat.le_trans (Nat.pow_le_pow_right (by decide) hk) (by decide)
  have hw7 := p7 _ hl
  rw [m_225, hr.2.2.2.1]
  by_cases q : c.1 = 0
  · obtain ⟨G1, e1, e2, e3⟩ := s_226 (D := d + 3) (x := x) (V := V) (L := L) (by omega) hr q
    have e28 := s_228 (d := d + 2) (x := x) (V := V) (G := G1) (L := L) hv
    rw [if_pos (by rw [q]), e1, aL_o, e28, aL_o, hs]
    refine ⟨G1, ?_, e2, e3⟩
    have hlen : (wl B n c.2.2).length = we B n c.2.2 - c.2.2 := wr_len _
    have hok := wr_ok (B := B) (n := n) (s := c.2.2) (we B n c.2.2 - c.2.2) (Nat.le_refl _)
    by_cases z : we B n c.2.2 - c.2.2 ≤ 7
    · have hx := cdr_lt (wl B n c.2.2) hok
      rw [hlen] at hx
      have hx7 := p7 _ z
      have hiff : (cdr (wl B n c.2.2) = cdr ws) ↔ (c.1 = 0 ∧ wl B n c.2.2 = ws) := ⟨fun y => ⟨q, cdr_inj _ _ hok hc' y⟩, fun y => by rw [y.2]⟩
      rw [if_pos z]
      by_cases y : c.1 = 0 ∧ wl B n c.2.2 = ws
      · rw [if_neg (by rw [i6_lt (by omega) (by omega), hiff.mpr y]; omega), if_pos (by rw [hiff.mpr y]), if_pos y]
      · have y2 : ¬ cdr (wl B n c.2.2) = cdr ws := fun w => y (hiff.mp w)
        rw [if_neg y, if_neg (show ¬ i6 (cdr (wl B n c.2.2)) = i6 (cdr ws) by rw [i6_eq (by omega) (by omega)]; exact y2)]
        split <;> rfl
    · have y : ¬ (c.1 = 0 ∧ wl B n c.2.2 = ws) := fun y => z (by rw [← hlen, y.2]; exact hl)
      rw [if_neg z, if_pos (n6_lt (by omega)), if_neg y]
  · rw [if_neg (by rw [i3_eq (by have := hr.2.1; omega) (by omega)]; exact q), if_neg (fun z => q z.1)]
    exact ⟨G, rfl, hr.bad q, mF_o⟩
theorem s_242 {D x : Nat} {V : pV} {G : sm_G} {L : sm_L} {B : Nat → Nat} {n v0 v1 v2 v3 v4 v5 v6 : Nat} {c : St} {ws : List Nat} (hD0 : 5 ≤ D) (hr : rM G B n c) (hW : isW v0 v1 v2 v3 v4 v5 v6 ws) : ∃ G', sm_cv0 D 242 342 (RR V) [.ref 156, .int (i3 v0), .int (i3 v1), .int (i3 v2), .int (i3 v3), .int (i3 v4), .int (i3 v5), .int (i3 v6)] (x, G, L) = oI (if c.1 = 0 ∧ wl B n c.2.2 = ws then i3 1 else i3 0) x G' L ∧ rM G' B n (if c.1 = 0 ∧ wl B n c.2.2 = ws then (0, 0, sk B n (we B n c.2.2)) else c) ∧ (¬ (c.1 = 0 ∧ wl B n c.2.2 = ws) → rE G' B n c) ∧ mF G G' := by
  obtain ⟨d, rfl⟩ : ∃ d, D = d + 5 := ⟨D - 5, by omega⟩
  obtain ⟨G1, e1, e2, e3⟩ := s_225 (D := d + 4) (x := x) (V := V) (L := L) (by omega) hr hW
  rw [m_242, e1, aI_o]
  by_cases q : c.1 = 0 ∧ wl B n c.2.2 = ws
  · obtain ⟨G2, k1, k2, k3⟩ := s_231 (D := d + 4) (x := x) (V := V) (L := L) (by omega) e2 q.1
    rw [if_pos q, if_neg (by decide), k1, aV_o, zd_1, if_pos q]
    exact ⟨G2, rfl, k3, fun z => absurd q z, e3.tr k2⟩
  · rw [if_neg q, if_pos rfl, zd_0, if_neg q]
    exact ⟨G1, rfl, e2.M, fun _ => e2, e3⟩
