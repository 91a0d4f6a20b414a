/-! a deed put -/
theorem s_172 {D x w z : Nat} {V : pV} {G : sm_G} {L : sm_L} {v1 v2 v3 : Int32} (hD0 : 1 ≤ D) (hw : pW w) (h4 : G w 4 = i3 z) (hz : z ≤ 40) : ∃ G' i, sm_cv0 D 172 342 (RR V) [.ref w, .int v1, .int v2, .int v3] (x, G, L) = oI (i3 i) x G' L ∧ i < 40 ∧ G' w 4 = i3 (i + 1) ∧ (z < 40 → i = z ∧ G' (w + 1) z = v1 ∧ G' (w + 2) z = v2 ∧ G' (w + 3) z = i3 0 ∧ G' (w + 4) z = v3) ∧ ∀ r k, ¬ (w < r ∧ r < w + 5 ∧ k = z) → ¬ (r = w ∧ k = 4) → G' r k = G r k := by
  obtain ⟨d, rfl⟩ : ∃ d, D = d + 1 := ⟨D - 1, by omega⟩
  have hwl := pW_lt hw
  rw [m_172 hw]
  simp only [up_o (show 0 < 1 by omega), up_o (show 0 < 2 by omega), up_o (show 0 < 3 by omega), up_o (show 0 < 4 by omega), h4]
  by_cases q : z < 40
  · rw [if_pos (by rw [i3_lt (by omega) (by omega)]; exact q), i3_in (by omega) q, gd_tt, gd_tt, gd_tt, gd_tt, i3_cl (by omega), sm_up_same, i3_add, i3_sub (by omega), show z + 1 - 1 = z by omega]
    refine ⟨_, z, rfl, q, sm_up_same _ _ _ _, fun _ => ⟨rfl, ?_, ?_, ?_, ?_⟩, fun r k a b => ?_⟩
    · rw [sm_up_ne (by omega), sm_up_ne (by omega), sm_up_ne (by omega), sm_up_ne (by omega), sm_up_same]
    · rw [sm_up_ne (by omega), sm_up_ne (by omega), sm_up_ne (by omega), sm_up_same]
    · rw [sm_up_ne (by omega), sm_up_same]
    · rw [sm_up_ne (by omega), sm_up_ne (by omega), sm_up_same]
    · rw [sm_up_ne (by omega), sm_up_ne (by omega), sm_up_ne (by omega), sm_up_ne (by omega), sm_up_ne (by omega)]
  · rw [if_neg (by rw [i3_lt (by omega) (by omega)]; exact q), i3_sub (by omega), show z - 1 = 39 by omega]
    exact ⟨G, 39, rfl, by omega, by rw [h4, show z = 39 + 1 by omega], fun y => absurd y q, fun _ _ _ _ => rfl⟩
theorem put_W {w z : Nat} {G G' : sm_G} (h : ∀ r k, ¬ (w < r ∧ r < w + 5 ∧ k = z) → ¬ (r = w ∧ k = 4) → G' r k = G r k) : cW2 w z G G' :=
  ⟨fun r k a b => h r k (by omega) (by omega), h _ _ (by omega) (by omega), h _ _ (by omega) (by omega), fun r i a b c => h r i (by omega) (by omega)⟩
theorem irem_2 {k : Nat} (h : k < 1000) : irem (i3 k) (i3 2) = i3 (k % 2) := by
  unfold irem
  rw [i3_div (by omega) (by omega), i3_mul, i3_sub (by omega)]
  congr 1
  omega
theorem and_1 (k : Nat) : i3 k &&& i3 1 = i3 (k % 2) := by rw [i3_and, Nat.and_one_is_mod]
