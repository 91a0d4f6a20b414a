/-! one more kept asleep: how many are lost then, whoever plays it -/
theorem hlp1 {V : pV} {G g0 : sm_G} {T : pT} {K c k : Nat} {H W : Nat → pT} (hS : IvS V G T K c H W) (h17 : G 1 17 = i3 0) (hok : hOk G T (H c) K) (hg0 : nIn g0 T (H c) K W) : ∃ n, n < 16 ∧ (∀ (d x : Nat) (X : sm_G) (L : sm_L), (∀ r k, ¬ (84 ≤ r ∧ r < 105) → X r k = G r k) → ∃ X', sm_cv0 (d + 12) 21 342 (RR V) [.ref 1, .ref 56, .int (i3 (rmB T (1 <<< k).testBit))] (x, X, L) = oI (i3 n) x X' L ∧ ∀ r k, ¬ (84 ≤ r ∧ r < 105) → X' r k = G r k) ∧ ∀ (d' x' : Nat) (g : sm_G) (L' : sm_L), nIn g T (H c) K W → (∀ m, m < 301 → g 307 m = i3 (tB T (H c) (K ||| 1 <<< k) m)) → ∃ g', sm_cv0 (d' + 7) 264 342 (RR V) [.ref 156] (x', g, L') = oI (i3 n) x' g' L' ∧ nFr2 g g' := by
  have both : ∀ (d x d' x' : Nat) (X g : sm_G) (L L' : sm_L), (∀ r k, ¬ (84 ≤ r ∧ r < 105) → X r k = G r k) → nIn g T (H c) K W → (∀ m, m < 301 → g 307 m = i3 (tB T (H c) (K ||| 1 <<< k) m)) → ∃ X' g' n, n < 16 ∧ sm_cv0 (d + 12) 21 342 (RR V) [.ref 1, .ref 56, .int (i3 (rmB T (1 <<< k).testBit))] (x, X, L) = oI (i3 n) x X' L ∧ sm_cv0 (d' + 7) 264 342 (RR V) [.ref 156] (x', g, L') = oI (i3 n) x' g' L' ∧ (∀ r k, ¬ (84 ≤ r ∧ r < 105) → X' r k = G r k) ∧ nFr2 g g' := by
    intro d x d' x' X g L L' hX hg h307
    have hor : ∀ j, tB T (H c) K j ||| rmB T (1 <<< k).testBit = tB T (H c) (K ||| 1 <<< k) j := fun j => by
      apply Nat.eq_of_testBit_eq
      intro i
      show (rmB T (fun k => slp0 T (H c) K k j) ||| rmB T (1 <<< k).testBit).testBit i = (rmB T (fun k' => slp0 T (H c) (K ||| 1 <<< k) k' j)).testBit i
      have hsl : ∀ q, slp0 T (H c) (K ||| 1 <<< k) q j = (slp0 T (H c) K q j || (1 <<< k).testBit q) := fun q => by
        unfold slp0 slp
        rw [Nat.testBit_or]
        cases K.testBit q <;> cases (1 <<< k).testBit q <;> simp
      unfold rmB
      rw [Nat.testBit_or, bs_tb, bs_tb, bs_tb]
      simp only [hsl]
      generalize slp0 T (H c) K (tp T i - 1) j = a1
      generalize (1 <<< k).testBit (tp T i - 1) = a2
      cases decide (i < sl T) <;> cases slp0 T (H c) K i j <;> cases (1 <<< k).testBit i <;> cases decide (tp T i ≠ 0) <;> cases a1 <;> cases a2 <;> rfl
    have hSX := hS.keep (G' := X) (fun r k a => hX r k (by unfold sc at a; omega))
    obtain ⟨X', g', n, q0, q1, q2, q3, q4⟩ := s_21 (d := d) (x := x) (L := L) (d' := d') (x' := x') (U := V) (L' := L') (r4 := 56) (ex := rmB T (1 <<< k).testBit) (tt := tB T (H c) (K ||| 1 <<< k)) (t0 := tB T (H c) K) hSX (by rw [hX _ _ (by omega)]; exact h17) (fun m hm => by rw [hX _ _ (by omega), hX _ _ (by omega), hX _ _ (by omega)]; exact hok m hm) hg (Or.inl rfl) (fun j hj => ⟨h307 j hj, Nat.lt_of_lt_of_le (rmB_lt T hS.T _) (by decide), by rw [hX _ _ (by omega)]; exact (hok j hj).2.1, hor j⟩)
    exact ⟨X', g', n, q0, q1, q2, fun r k a => by rw [q3 r k a]; exact hX r k a, q4⟩
  have hg1 : nIn (fill g0 307 301 (fun m => i3 (tB T (H c) (K ||| 1 <<< k) m))) T (H c) K W := ⟨hg0.1.keep hS.T hS.P (fun r k q => fill_ne (by unfold inM at q; omega)), fun k hk => by rw [fill_ne (by omega)]; exact hg0.2.1 k hk, fun e he => (hg0.2.2 e he).keep he (fun r k q => fill_ne (by omega))⟩
  obtain ⟨X0, g0', n, q0, q1, q2, q3, q4⟩ := both 0 0 0 0 G _ (fun _ _ => 0) (fun _ _ => 0) (fun _ _ _ => rfl) hg1 (fun m hm => fill_at hm)
  refine ⟨n, q0, fun d x X L hX => ?_, fun d' x' g L' hg h307 => ?_⟩
  · obtain ⟨X', g', n', p0, p1, p2, p3, p4⟩ := both d x 0 0 X _ L (fun _ _ => 0) hX hg1 (fun m hm => fill_at hm)
    obtain ⟨e, _⟩ := oI_inj (q2.symm.trans p2)
    exact ⟨X', by rw [e]; exact p1, p3⟩
  · obtain ⟨X', g', n', p0, p1, p2, p3, p4⟩ := both 0 0 d' x' G g (fun _ _ => 0) L' (fun _ _ _ => rfl) hg h307
    obtain ⟨e, _⟩ := oI_inj (q1.symm.trans p1)
    exact ⟨g', by rw [e]; exact p2, p4⟩
