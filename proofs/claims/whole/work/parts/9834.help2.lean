/-- help's best so far: whom, and how many are lost then -/
def hst (N : Nat → Nat) (K k : Nat) (b : Option (Nat × Nat)) : Option (Nat × Nat) := if K.testBit k = true then b else match b with
  | none => some (k, N k)
  | some (c, y) => if N k < y then some (k, N k) else some (c, y)
def hok2 (n : Nat) (b : Option (Nat × Nat)) : Prop := ∀ c y, b = some (c, y) → c < n ∧ y ≤ 4
theorem hok2_s {N : Nat → Nat} {K n : Nat} {b : Option (Nat × Nat)} (hN : ∀ k, N k ≤ 4) (h : hok2 n b) : hok2 (n + 1) (hst N K n b) := by
  intro c y e
  unfold hst at e
  split at e
  · have := h c y e; omega
  · cases b with
    | none => cases e; exact ⟨by omega, hN _⟩
    | some cy =>
      obtain ⟨c0, y0⟩ := cy
      have h0 := h c0 y0 rfl
      simp only at e
      split at e
      · cases e; exact ⟨by omega, hN _⟩
      · cases e; omega
theorem pc16 : ∀ n, n < 16 → pc n 10 ≤ 4 := by decide +kernel
theorem hst_n {N : Nat → Nat} {K k : Nat} (h : K.testBit k = false) : hst N K k none = some (k, N k) := by unfold hst; rw [h]; rfl
theorem hst_c {N : Nat → Nat} {K k c y : Nat} (h : K.testBit k = false) : hst N K k (some (c, y)) = if N k < y then some (k, N k) else some (c, y) := by unfold hst; rw [h]; rfl
def ec5 (b : Option (Nat × Nat)) : Int32 := match b with
  | none => i3 5
  | some cy => i3 cy.2
theorem l_20 {d x : Nat} {V : pV} {L : sm_L} {T P : pT} {K : Nat} {G : sm_G} (nf : Nat → Nat) (hV : okV V) (hc : cS G V.1 T) (hp : cP G (V.1 + 1) T P K) (hT : okT T) (hK : K < 1024) (hn : ∀ k, nf k < 16) (h21 : ∀ k, k < sl T → ∀ (d x : Nat) (X : sm_G) (L : sm_L), (∀ r k, ¬ (84 ≤ r ∧ r < 105) → X r k = G r k) → ∃ X', sm_cv0 (d + 12) 21 342 (RR V) [.ref 1, .ref 56, .int (i3 (rmB T (1 <<< k).testBit))] (x, X, L) = oI (i3 (nf k)) x X' L ∧ ∀ r k, ¬ (84 ≤ r ∧ r < 105) → X' r k = G r k) : ∃ G', hD (d + 12) 20 9 [.ref 1, .ref 54, .int m1, .int (i3 5), .null, .null] 342 (RR V) x G L = oI (ecl (itr (hst (fun k => pc (nf k) 10) K) 0 (sl T) none)) x G' L ∧ ∀ r k, ¬ (84 ≤ r ∧ r < 105) → G' r k = G r k := by
  have hB := hT.gb
  have hsl := pS_lt hV.1
  have hN : ∀ k, pc (nf k) 10 ≤ 4 := fun k => pc16 _ (hn k)
  rw [h_20_9]
  refine loopE (H := fun k (g : sm_G) => hD (d + 12) 20 12 [.ref 1, .ref 54, .int (ecl (itr (hst (fun k => pc (nf k) 10) K) 0 k none)), .int (ec5 (itr (hst (fun k => pc (nf k) 10) K) 0 k none)), .int (i3 k), .null] 342 (RR V) x g L) (Q := fun o' => ∃ G', o' = oI (ecl (itr (hst (fun k => pc (nf k) 10) K) 0 (sl T) none)) x G' L ∧ ∀ r k, ¬ (84 ≤ r ∧ r < 105) → G' r k = G r k) (N := sl T)
    (fun k g => (∀ r k, ¬ (84 ≤ r ∧ r < 105) → g r k = G r k) ∧ hok2 k (itr (hst (fun k => pc (nf k) 10) K) 0 k none)) ?_ ?_ (sl T) 0 G (by omega) ⟨fun _ _ _ => rfl, fun c y e => by cases e⟩
  · rintro k g hk ⟨w1, w2⟩
    have es : itr (hst (fun k => pc (nf k) 10) K) 0 (k + 1) none = hst (fun k => pc (nf k) 10) K k (itr (hst (fun k => pc (nf k) 10) K) 0 k none) := by rw [itr_succ, Nat.zero_add]
    rw [es]
    have w3 := hok2_s (K := K) hN w2
    generalize itr (hst (fun k => pc (nf k) 10) K) 0 k none = b at w2 w3 ⊢
    have hcg : cS g V.1 T := hc.keep (fun r k a => w1 r k (by unfold inC at a; omega))
    have gK : g (V.1 + 1) 9 = i3 K := by rw [w1 _ _ (by omega)]; exact hp.gkp
    show ∃ a', hD (d + 12) 20 12 [.ref 1, .ref 54, .int (ecl b), .int (ec5 b), .int (i3 k), .null] 342 (RR V) x g L = _ ∧ _
    rw [h_20_12 hV, hcg.gsl, if_pos (show i3 k < i3 (sl T) by rw [i3_lt (by omega) (by omega)]; exact hk), gK, i3_shr (by omega) (by omega), i3_and, sh_tb]
    cases hb : K.testBit k with
    | true =>
      have eh : hst (fun k => pc (nf k) 10) K k b = b := if_pos hb
      rw [eh] at w3 ⊢
      rw [if_neg (by rw [tb_eq0, hb]; decide), h_20_78, i3_add]
      exact ⟨g, rfl, w1, w3⟩
    | false =>
      obtain ⟨X', q1, q2⟩ := h21 k hk d x g L w1
      have h1k : 1 <<< k < 2 ^ sl T := by rw [Nat.one_shiftLeft]; exact Nat.pow_lt_pow_right (by decide) hk
      have h1024 : 2 ^ sl T ≤ 2 ^ 8 := Nat.pow_le_pow_right (by decide) hB.1
      have e118 := s_118 (d := d + 11) (x := x) (V := V) (G := g) (L := L) hV.1 hcg hT h1k (by omega)
      have e7 := s_7 (d := d + 11) (x := x) (V := V) (G := X') (L := L) (show nf k < 1024 by have := hn k; omega)
      have hNk := hN k
      rw [if_pos (by rw [tb_eq0]; exact hb), i3_shl (by omega), e118, aI_o, q1, aI_o, e7, aI_o, h_20_78, h_20_78, i3_add]
      cases b with
      | none =>
        rw [hst_n hb] at w3 ⊢
        refine ⟨X', ?_, q2, w3⟩
        show (if i3 (pc (nf k) 10) < i3 5 then _ else _) = _
        rw [if_pos (by rw [i3_lt (by omega) (by omega)]; omega)]
        rfl
      | some cy =>
        obtain ⟨c, y⟩ := cy
        obtain ⟨u1, u2⟩ := w2 c y rfl
        rw [hst_c hb] at w3 ⊢
        refine ⟨X', ?_, q2, w3⟩
        show (if i3 (pc (nf k) 10) < i3 y then _ else _) = _
        by_cases z : pc (nf k) 10 < y
        · rw [if_pos (by rw [i3_lt (by omega) (by omega)]; exact z), if_pos z]
          rfl
        · rw [if_neg (by rw [i3_lt (by omega) (by omega)]; exact z), if_neg z]
  · rintro g ⟨w1, _⟩
    have hcg : cS g V.1 T := hc.keep (fun r k a => w1 r k (by unfold inC at a; omega))
    refine ⟨g, ?_, w1⟩
    rw [h_20_12 hV, hcg.gsl, if_neg (show ¬ i3 (sl T) < i3 (sl T) by rw [i3_lt (by omega) (by omega)]; omega)]
