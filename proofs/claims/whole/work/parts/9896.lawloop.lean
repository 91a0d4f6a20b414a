/-! the law's loop -/
theorem le_len {a b : Nat} (ha : a < 10000) (hb : b < 10000) : (i3 a ≤ i3 b - i3 6) = (a + 6 ≤ b) := by
  by_cases h : 6 ≤ b
  · rw [i3_sub h, i3_le (by omega) (by omega)]
    exact propext ⟨fun _ => by omega, fun _ => by omega⟩
  · have h1 : i3 b - i3 6 ≤ m1 := by
      have : b = 0 ∨ b = 1 ∨ b = 2 ∨ b = 3 ∨ b = 4 ∨ b = 5 := by omega
      rcases this with rfl | rfl | rfl | rfl | rfl | rfl <;> decide
    have h2 : ¬ i3 a ≤ i3 b - i3 6 := fun q => by
      have q2 := Int32.le_trans q h1
      rw [le_m1 (by omega)] at q2
      exact q2
    exact propext ⟨fun q => absurd q h2, fun q => by omega⟩
theorem law_one {d x t Ln : Nat} {V : pV} {G : sm_G} {L : sm_L} (I : Inv V G) (hL : G 8190 0 = i3 Ln) (h3 : Ln ≤ 3072) (ht : 6 * t + 6 ≤ Ln) : LawOk d x V G L 23 (i3 (6 * t)) := by
  have eq := lw_23 (d := d + 61) (x := x) (R := RR V) (G := G) (L := L) (v4 := i3 (6 * t))
  rw [if_pos (show i3 (6 * t) ≤ G 8190 0 - i3 6 by rw [hL, le_len (by omega) (by omega)]; omega), ldi_z zz_o hL (by omega) h3] at eq
  generalize G 8191 (6 * t) &&& i3 63 = y at eq
  have go : ∀ P, LawOk d x V G L P (i3 (6 * t)) → hW (d + 61) 531 23 [.ref 8191, .ref 1, .ref 156, .ref 342, .int (i3 (6 * t)), .null, .null, .null] 342 (RR V) x G L = hW (d + 61) 531 P [.ref 8191, .ref 1, .ref 156, .ref 342, .int (i3 (6 * t)), .null, .null, .null] 342 (RR V) x G L → LawOk d x V G L 23 (i3 (6 * t)) := fun P h e => by
    obtain ⟨V', x', G', L', h1, h2⟩ := h
    exact ⟨V', x', G', L', e.trans h1, h2⟩
  by_cases c0 : y = i3 0
  · exact go 256 (cs_256 I hL h3 ht) (eq.trans (if_pos c0))
  rw [if_neg c0] at eq
  by_cases c1 : y = i3 1
  · exact go 329 (cs_329 I hL h3 ht) (eq.trans (if_pos c1))
  rw [if_neg c1] at eq
  by_cases c2 : y = i3 2
  · exact go 385 (cs_385 I hL h3 ht) (eq.trans (if_pos c2))
  rw [if_neg c2] at eq
  by_cases c3 : y = i3 3
  · exact go 453 (cs_453 I hL h3 ht) (eq.trans (if_pos c3))
  rw [if_neg c3] at eq
  by_cases c4 : y = i3 4
  · exact go 509 (cs_509 I hL h3 ht) (eq.trans (if_pos c4))
  rw [if_neg c4] at eq
  by_cases c5 : y = i3 5
  · exact go 522 (cs_522 I hL h3 ht) (eq.trans (if_pos c5))
  rw [if_neg c5] at eq
  by_cases c6 : y = i3 6
  · exact go 578 (cs_578 I hL h3 ht) (eq.trans (if_pos c6))
  rw [if_neg c6] at eq
  by_cases c7 : y = i3 7
  · exact go 646 (cs_646 I hL h3 ht) (eq.trans (if_pos c7))
  rw [if_neg c7] at eq
  by_cases c8 : y = i3 8
  · exact go 714 (cs_714 I hL h3 ht) (eq.trans (if_pos c8))
  rw [if_neg c8] at eq
  by_cases c9 : y = i3 9
  · exact go 782 (cs_782 I hL h3 ht) (eq.trans (if_pos c9))
  rw [if_neg c9] at eq
  by_cases c10 : y = i3 10
  · exact go 857 (cs_857 I hL h3 ht) (eq.trans (if_pos c10))
  rw [if_neg c10] at eq
  by_cases c11 : y = i3 11
  · exact go 932 (cs_932 I hL h3 ht) (eq.trans (if_pos c11))
  rw [if_neg c11] at eq
  by_cases c12 : y = i3 12
  · exact go 1007 (cs_1007 I hL h3 ht) (eq.trans (if_pos c12))
  rw [if_neg c12] at eq
  by_cases c13 : y = i3 13
  · exact go 1075 (cs_1075 I hL h3 ht) (eq.trans (if_pos c13))
  rw [if_neg c13] at eq
  by_cases c14 : y = i3 14
  · exact go 1143 (cs_1143 I hL h3 ht) (eq.trans (if_pos c14))
  rw [if_neg c14] at eq
  by_cases c15 : y = i3 15
  · exact go 1156 (cs_1156 I hL h3 ht) (eq.trans (if_pos c15))
  rw [if_neg c15] at eq
  by_cases c16 : y = i3 16
  · exact go 1224 (cs_1224 I hL h3 ht) (eq.trans (if_pos c16))
  rw [if_neg c16] at eq
  by_cases c17 : y = i3 17
  · exact go 1304 (cs_1304 I hL h3 ht) (eq.trans (if_pos c17))
  rw [if_neg c17] at eq
  by_cases c18 : y = i3 18
  · exact go 1396 (cs_1396 I hL h3 ht) (eq.trans (if_pos c18))
  rw [if_neg c18] at eq
  by_cases c19 : y = i3 19
  · exact go 1476 (cs_1476 I hL h3 ht) (eq.trans (if_pos c19))
  rw [if_neg c19] at eq
  by_cases c20 : y = i3 20
  · exact go 1532 (cs_1532 I hL h3 ht) (eq.trans (if_pos c20))
  rw [if_neg c20] at eq
  by_cases c21 : y = i3 21
  · exact go 1612 (cs_1612 I hL h3 ht) (eq.trans (if_pos c21))
  rw [if_neg c21] at eq
  by_cases c22 : y = i3 22
  · exact go 1692 (cs_1692 I hL h3 ht) (eq.trans (if_pos c22))
  rw [if_neg c22] at eq
  by_cases c23 : y = i3 23
  · exact go 1772 (cs_1772 I hL h3 ht) (eq.trans (if_pos c23))
  rw [if_neg c23] at eq
  by_cases c24 : y = i3 24
  · exact go 1852 (cs_1852 I hL h3 ht) (eq.trans (if_pos c24))
  rw [if_neg c24] at eq
  by_cases c25 : y = i3 25
  · exact go 1865 (cs_1865 I hL h3 ht) (eq.trans (if_pos c25))
  rw [if_neg c25] at eq
  by_cases c26 : y = i3 26
  · exact go 1933 (cs_1933 I hL h3 ht) (eq.trans (if_pos c26))
  rw [if_neg c26] at eq
  by_cases c27 : y = i3 27
  · exact go 2012 (cs_2012 I hL h3 ht) (eq.trans (if_pos c27))
  rw [if_neg c27] at eq
  by_cases c28 : y = i3 28
  · exact go 2080 (cs_2080 I hL h3 ht) (eq.trans (if_pos c28))
  rw [if_neg c28] at eq
  by_cases c29 : y = i3 29
  · exact go 2160 (cs_2160 I hL h3 ht) (eq.trans (if_pos c29))
  rw [if_neg c29] at eq
  by_cases c30 : y = i3 30
  · exact go 2216 (cs_2216 I hL h3 ht) (eq.trans (if_pos c30))
  rw [if_neg c30] at eq
  by_cases c31 : y = i3 31
  · exact go 2272 (cs_2272 I hL h3 ht) (eq.trans (if_pos c31))
  rw [if_neg c31] at eq
  by_cases c32 : y = i3 32
  · exact go 2328 (cs_2328 I hL h3 ht) (eq.trans (if_pos c32))
  rw [if_neg c32] at eq
  by_cases c33 : y = i3 33
  · exact go 2396 (cs_2396 I hL h3 ht) (eq.trans (if_pos c33))
  rw [if_neg c33] at eq
  by_cases c34 : y = i3 34
  · exact go 2476 (cs_2476 I hL h3 ht) (eq.trans (if_pos c34))
  rw [if_neg c34] at eq
  by_cases c35 : y = i3 35
  · exact go 2544 (cs_2544 I hL h3 ht) (eq.trans (if_pos c35))
  rw [if_neg c35] at eq
  by_cases c36 : y = i3 36
  · exact go 2557 (cs_2557 I hL h3 ht) (eq.trans (if_pos c36))
  rw [if_neg c36] at eq
  by_cases c37 : y = i3 37
  · exact go 2613 (cs_2613 I hL h3 ht) (eq.trans (if_pos c37))
  rw [if_neg c37] at eq
  by_cases c38 : y = i3 38
  · exact go 2626 (cs_2626 I hL h3 ht) (eq.trans (if_pos c38))
  rw [if_neg c38] at eq
  by_cases c39 : y = i3 39
  · exact go 2682 (cs_2682 I hL h3 ht) (eq.trans (if_pos c39))
  rw [if_neg c39] at eq
  by_cases c40 : y = i3 40
  · exact go 2738 (cs_2738 I hL h3 ht) (eq.trans (if_pos c40))
  rw [if_neg c40] at eq
  by_cases c41 : y = i3 41
  · exact go 2751 (cs_2751 I hL h3 ht) (eq.trans (if_pos c41))
  rw [if_neg c41] at eq
  by_cases c42 : y = i3 42
  · exact go 2807 (cs_2807 I hL h3 ht) (eq.trans (if_pos c42))
  rw [if_neg c42] at eq
  by_cases c43 : y = i3 43
  · exact go 2875 (cs_2875 I hL h3 ht) (eq.trans (if_pos c43))
  rw [if_neg c43] at eq
  by_cases c44 : y = i3 44
  · exact go 2900 (cs_2900 I hL h3 ht) (eq.trans (if_pos c44))
  rw [if_neg c44] at eq
  by_cases c45 : y = i3 45
  · exact go 2980 (cs_2980 I hL h3 ht) (eq.trans (if_pos c45))
  rw [if_neg c45] at eq
  by_cases c46 : y = i3 46
  · exact go 2993 (cs_2993 I hL h3 ht) (eq.trans (if_pos c46))
  rw [if_neg c46] at eq
  by_cases c47 : y = i3 47
  · exact go 3006 (cs_3006 I hL h3 ht) (eq.trans (if_pos c47))
  rw [if_neg c47] at eq
  by_cases c48 : y = i3 48
  · exact go 3019 (cs_3019 I hL h3 ht) (eq.trans (if_pos c48))
  rw [if_neg c48] at eq
  by_cases c49 : y = i3 49
  · exact go 3044 (cs_3044 I hL h3 ht) (eq.trans (if_pos c49))
  rw [if_neg c49] at eq
  exact ⟨V, x, G, L, eq, by omega, I, zz_o⟩
theorem law_loop {d Ln : Nat} (h3 : Ln ≤ 3072) : ∀ (m t x : Nat) (V : pV) (G : sm_G) (L : sm_L), 6 * (t + m) ≤ Ln → Ln < 6 * (t + m) + 6 → Inv V G → G 8190 0 = i3 Ln → ∃ V' x' G' L', hW (d + 61) 531 23 [.ref 8191, .ref 1, .ref 156, .ref 342, .int (i3 (6 * t)), .null, .null, .null] 342 (RR V) x G L = wI (i3 1) 342 (RR V') x' G' L' ∧ x' ≤ x + m := by
  intro m
  induction m with
  | zero =>
    intro t x V G L h1 h2 I hL
    have eq := lw_23 (d := d + 61) (x := x) (R := RR V) (G := G) (L := L) (v4 := i3 (6 * t))
    rw [if_neg (show ¬ i3 (6 * t) ≤ G 8190 0 - i3 6 by rw [hL, le_len (by omega) (by omega)]; omega)] at eq
    exact ⟨V, x, G, L, eq, by omega⟩
  | succ m ih =>
    intro t x V G L h1 h2 I hL
    obtain ⟨V', x', G', L', e1, e2, e3, e4⟩ := law_one (d := d) (x := x) (t := t) (L := L) I hL h3 (by omega)
    obtain ⟨V2, x2, G2, L2, f1, f2⟩ := ih (t + 1) x' V' G' L' (by omega) (by omega) e3 (by rw [e4.1]; exact hL)
    refine ⟨V2, x2, G2, L2, ?_, by omega⟩
    rw [e1, lw_3069, i3_add]
    exact f1
