/-! a book's text: the model -/
theorem s_244l {D x : Nat} {V : pV} {L : sm_L} {B : Nat → Nat} {n : Nat} (hD0 : 6 ≤ D) : ∀ (f z : Nat) (c : St) (K : pT) (G : sm_G), z + f = 13 → rE G B n c → (f = 0 → c.1 ≠ 0) → (c.1 = 0 → okBk K z ∧ mBk G K z) → ∃ G' z', hD D 244 47 [.ref 156, .null, .int (i3 z), .null] 342 (RR V) x G L = hD D 244 195 [.ref 156, .null, .int (i3 z'), .null] 342 (RR V) x G' L ∧ mfB G G' ∧ rE G' B n (bkF B n f z c K).2.1 ∧ ((bkF B n f z c K).2.1.1 = 0 → z' = (bkF B n f z c K).1 ∧ mBk G' (bkF B n f z c K).2.2 z')
  | 0, z, c, K, G, hi, hr, h0, h => by
    refine ⟨G, z, ?_, fun _ _ _ _ => rfl, hr, fun y => absurd y (h0 rfl)⟩
    rw [h_244_47, hr.2.2.2.1, if_neg (by rw [i3_eq (by have := hr.2.1; omega) (by omega)]; exact h0 rfl)]
  | f + 1, z, c, K, G, hi, hr, h0, h => by
    unfold bkF
    rw [h_244_47, hr.2.2.2.1]
    by_cases q : c.1 = 0
    · obtain ⟨a1, a2, a3, a4⟩ := hr.at q
      obtain ⟨hK, hm⟩ := h q
      have hn := hr.1.1
      have hz := hK.1
      rw [if_pos (by rw [q]), a1, hr.1.2.1]
      by_cases y : c.2.2 < n
      · rw [if_pos (by rw [i3_lt (by omega) (by omega)]; exact y), if_pos (⟨q, y⟩ : c.1 = 0 ∧ c.2.2 < n)]
        -- a fault at the word's place
        have bad : ∀ (k : Nat) (v : Int32) (G1 : sm_G), rE G1 B n c → mF G G1 → k ≤ 3 → k ≠ 0 → ∃ G2, sm_aV (sm_cv0 D 229 342 (RR V) [.ref 156, .int (i3 k), .int (i3 c.2.2)] (x, G1, L)) (fun x2 G2 L2 => hD D 244 140 [.ref 156, .null, .int (i3 z), .int v] 342 (RR V) x2 G2 L2) oX = hD D 244 195 [.ref 156, .null, .int (i3 z), .null] 342 (RR V) x G2 L ∧ mfB G G2 ∧ rE G2 B n (k, c.2.2 + 1, c.2.2) := fun k v G1 r1 f1 hk hk0 => by
          obtain ⟨d, rfl⟩ : ∃ d, D = d + 1 := ⟨D - 1, by omega⟩
          obtain ⟨G2, u1, u2, u3, _⟩ := s_229 (d := d) (x := x) (V := V) (L := L) (k := k) (s := c.2.2) r1.M hk hk0 a2
          rw [if_pos q] at u3
          refine ⟨G2, ?_, fun r j w1 w2 => by rw [u2 r j w1]; exact f1 r j w1, u3.bad hk0⟩
          rw [u1, aV_o, h_244_140, u3.2.2.2.1, if_neg (by rw [i3_eq (by show k < _; omega) (by omega)]; exact hk0)]
        have stop : ∀ (k : Nat) (G2 : sm_G), k ≠ 0 → rE G2 B n (k, c.2.2 + 1, c.2.2) → (bkF B n f (z + 1) (k, c.2.2 + 1, c.2.2) K).2.1 = (k, c.2.2 + 1, c.2.2) := fun k G2 hk _ => by
          cases f with
          | zero => rfl
          | succ f =>
            unfold bkF
            rw [if_neg (fun w => hk w.1)]
        -- one of the two words
        have rest : ∀ (saw : Nat) (G1 : sm_G), rE G1 B n c → mF G G1 → (wl B n c.2.2 = w_seen ∨ wl B n c.2.2 = w_gone) → (if wl B n c.2.2 = w_seen then 1 else 0) = saw → saw ≤ 1 → ∃ G' z', hD D 244 108 [.ref 156, .null, .int (i3 z), .int (i3 saw)] 342 (RR V) x G1 L = hD D 244 195 [.ref 156, .null, .int (i3 z'), .null] 342 (RR V) x G' L ∧ mfB G G' ∧ rE G' B n (bkF B n f (z + 1) (lnF B n z K c).1 (lnF B n z K c).2).2.1 ∧ ((bkF B n f (z + 1) (lnF B n z K c).1 (lnF B n z K c).2).2.1.1 = 0 → z' = (bkF B n f (z + 1) (lnF B n z K c).1 (lnF B n z K c).2).1 ∧ mBk G' (bkF B n f (z + 1) (lnF B n z K c).1 (lnF B n z K c).2).2.2 z') := by
          intro saw G1 r1 f1 hw hsaw hs1
          obtain ⟨b1, b2, b3, b4⟩ := r1.at q
          rw [h_244_108, if_neg (show ¬ i3 saw = m1 by rw [i3_nm1 (by omega)]; exact not_false)]
          by_cases h12 : z < 12
          · have el : lnF B n z K c = (sgS B n 59 (nuS B n 0 301 (0, 0, sk B n (we B n c.2.2))).2, upn (upn K 1 z (nuS B n 0 301 (0, 0, sk B n (we B n c.2.2))).1) 2 z saw) := by
              unfold lnF
              rw [if_pos hw, if_pos h12, hsaw]
            obtain ⟨G2, u1, u2, u3⟩ := s_231 (D := D) (x := x) (V := V) (L := L) (by omega) r1 q
            rw [if_neg (by rw [i3_eq (by omega) (by omega)]; omega), h_244_140, r1.2.2.2.1, if_pos (by rw [q]), u1, aV_o, i3_in (by omega) h12, gd_tt, i3_cl (by omega), rr_265 h12, kr_265 h12, nr_265 h12, gd_tt, i3_in (by omega) (by omega), gd_tt, gd_tt]
            generalize hc0 : (0, 0, sk B n (we B n c.2.2)) = c0 at *
            obtain ⟨G3, v1, v2, v3⟩ := nuM (D := D) (x := x) (V := V) (L := L) (G := sm_up G2 (266 + z) 0 (i3 saw)) 0 301 (by omega) (u3.keep (fun r k w => sm_up_ne (by omega))) (by omega) (by omega) rfl mi_300
            rw [v1, aI_o, gd_tt, i3_in (by omega) (by omega), gd_tt]
            generalize hq1 : nuS B n 0 301 c0 = q1 at *
            obtain ⟨G4, t1, t2, t3⟩ := s_236 (D := D) (x := x) (V := V) (L := L) (G := sm_up G3 (266 + z) 1 (i3 q1.1)) (ch := 59) (by omega) (v3.keep (fun r k w => sm_up_ne (by omega))) (by omega)
            obtain ⟨G5, s1, s2, s3⟩ := s_221 (D := D) (x := x) (V := V) (L := L) (by omega) t3
            rw [t1, aV_o, s1, aV_o, i3_add, el]
            have ff : ∀ r k, ¬ (r = 156 ∧ 4 ≤ k ∧ k ≤ 6) → ¬ (r = 266 + z ∧ k ≤ 1) → G5 r k = G r k := fun r k w1 w2 => by
              rw [s3 r k (by omega), t2 r k w1, sm_up_ne (by omega), v2 r k w1, sm_up_ne (by omega), u2 r k w1, f1 r k w1]
            have z0 : G5 (266 + z) 0 = i3 saw := by rw [s3 _ _ (by omega), t2 _ _ (by omega), sm_up_ne (by omega), v2 _ _ (by omega), sm_up_same]
            have z1 : G5 (266 + z) 1 = i3 q1.1 := by rw [s3 _ _ (by omega), t2 _ _ (by omega), sm_up_same]
            have hok := lnF_ok (B := B) (n := n) (c := c) hK
            rw [el] at hok
            have hm' : mBk G5 (upn (upn K 1 z q1.1) 2 z saw) (z + 1) := fun k hk => by
              show _ = i3 (upn (upn K 1 z q1.1) 2 z saw 1 k) ∧ _ = i3 (upn (upn K 1 z q1.1) 2 z saw 2 k)
              rw [upn_ne (by omega : (1 : Nat) ≠ 2 ∨ _)]
              by_cases w : k = z
              · rw [w, upn_same, upn_same]; exact ⟨z1, z0⟩
              · rw [upn_ne (by omega), upn_ne (by omega), upn_ne (by omega), ff _ _ (by omega) (by omega), ff _ _ (by omega) (by omega)]; exact hm k (by omega)
            obtain ⟨G6, z', k1, k2, k3, k4⟩ := s_244l (D := D) (x := x) (V := V) (L := L) (B := B) (n := n) hD0 f (z + 1) _ (upn (upn K 1 z q1.1) 2 z saw) G5 (by omega) s2 (fun w => by omega) (fun w => ⟨hok w, hm'⟩)
            exact ⟨G6, z', k1, fun r k w1 w2 => by rw [k2 r k w1 w2]; exact ff r k w1 (by omega), k3, k4⟩
          · have el : lnF B n z K c = ((3, c.2.2 + 1, c.2.2), K) := by
              unfold lnF
              rw [if_pos hw, if_neg h12]
            obtain ⟨G2, k1, k2, k3⟩ := bad 3 (i3 saw) G1 r1 f1 (by omega) (by omega)
            rw [if_pos (by rw [show z = 12 by omega]), b1, k1, el]
            refine ⟨G2, z, rfl, k2, ?_, fun w => ?_⟩
            · rw [stop 3 G2 (by omega) k3]; exact k3
            · rw [stop 3 G2 (by omega) k3] at w
              exact absurd w (by show ¬ (3 : Nat) = 0; omega)
        obtain ⟨G1, e1, r1, f1⟩ := s_225 (D := D) (x := x) (V := V) (L := L) (by omega) hr.M v_seen
        by_cases hs : wl B n c.2.2 = w_seen
        · rw [e1, aI_o, if_pos (⟨q, hs⟩ : c.1 = 0 ∧ wl B n c.2.2 = w_seen), if_neg (show ¬ i3 1 = i3 0 by decide)]
          exact rest 1 G1 r1 f1 (Or.inl hs) (if_pos hs) (by omega)
        · obtain ⟨G2, e2, r2, f2⟩ := s_225 (D := D) (x := x) (V := V) (L := L) (by omega) r1.M v_gone
          rw [e1, aI_o, if_neg (show ¬ (c.1 = 0 ∧ wl B n c.2.2 = w_seen) from fun w => hs w.2), if_pos rfl, e2, aI_o]
          by_cases hg : wl B n c.2.2 = w_gone
          · rw [if_pos (⟨q, hg⟩ : c.1 = 0 ∧ wl B n c.2.2 = w_gone), if_neg (show ¬ i3 1 = i3 0 by decide)]
            exact rest 0 G2 r2 (f1.tr f2) (Or.inr hg) (if_neg hs) (by omega)
          · have el : lnF B n z K c = ((1, c.2.2 + 1, c.2.2), K) := by
              unfold lnF
              rw [if_neg (fun w => w.elim hs hg)]
            obtain ⟨G3, k1, k2, k3⟩ := bad 1 m1 G2 r2 (f1.tr f2) (by omega) (by omega)
            rw [if_neg (show ¬ (c.1 = 0 ∧ wl B n c.2.2 = w_gone) from fun w => hg w.2), if_pos rfl, h_244_108, if_pos rfl, (r2.at q).1, k1, el]
            refine ⟨G3, z, rfl, k2, ?_, fun w => ?_⟩
            · rw [stop 1 G3 (by omega) k3]; exact k3
            · rw [stop 1 G3 (by omega) k3] at w
              exact absurd w (by show ¬ (1 : Nat) = 0; omega)
      · rw [if_neg (by rw [i3_lt (by omega) (by omega)]; exact y), if_neg (fun w : c.1 = 0 ∧ c.2.2 < n => y w.2)]
        exact ⟨G, z, rfl, fun _ _ _ _ => rfl, hr, fun _ => ⟨rfl, hm⟩⟩
    · rw [if_neg (by rw [i3_eq (by have := hr.2.1; omega) (by omega)]; exact q), if_neg (fun w : c.1 = 0 ∧ c.2.2 < n => q w.1)]
      exact ⟨G, z, rfl, fun _ _ _ _ => rfl, hr, fun y => absurd y q⟩
