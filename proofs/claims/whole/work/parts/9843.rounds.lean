/-! the milk round, put in the best order: the model -/
def mrd (N : List Nat → Nat) (st : Option (Nat × Nat)) (p : List Nat) : Option (Nat × Nat) := match st with
  | none => some (N p, dgs p)
  | some br => if N p < br.1 then some (N p, dgs p) else some br
def rst (g : sm_G) (st : Option (Nat × Nat)) : Prop := match st with
  | none => g 156 65 = m1
  | some br => g 156 65 = i3 br.1 ∧ g 156 66 = i3 br.2 ∧ br.1 ≤ 4
theorem rst.keep {g g' : sm_G} {st : Option (Nat × Nat)} (h : rst g st) (f : ∀ k, k = 65 ∨ k = 66 → g' 156 k = g 156 k) : rst g' st := by
  cases st with
  | none =>
    show g' 156 65 = m1
    rw [f 65 (Or.inl rfl)]
    exact h
  | some br =>
    obtain ⟨h1, h2, h3⟩ := h
    exact ⟨by rw [f 65 (Or.inl rfl)]; exact h1, by rw [f 66 (Or.inr rfl)]; exact h2, h3⟩
def lfN (V : pV) (T P : pT) (K : Nat) (W : Nat → pT) (p : List Nat) (N : Nat) : Prop := N ≤ 4 ∧ ∀ (d' x' : Nat) (g : sm_G) (L' : sm_L), mOk g T P K W → (∀ m, m < 301 → g 307 m = i3 (rmB T (fun k => slp T P (fun k => p.idxOf k) (fun _ => 1000) K k m))) → ∃ g' n, n < 16 ∧ pc n 10 = N ∧ sm_cv0 (d' + 7) 264 342 (RR V) [.ref 156] (x', g, L') = oI (i3 n) x' g' L' ∧ nFr2 g g'
def usd (p : List Nat) : Nat := p.foldl (fun a k => a ||| 1 <<< k) 0
theorem usd_s {p : List Nat} {k : Nat} : usd (p ++ [k]) = usd p ||| 1 <<< k := by
  unfold usd
  rw [List.foldl_append]
  rfl
theorem usd_tb {j : Nat} : ∀ (p : List Nat) (a : Nat), (p.foldl (fun a k => a ||| 1 <<< k) a).testBit j = (a.testBit j || p.contains j)
  | [], a => by simp
  | k :: p, a => by
    show (p.foldl _ (a ||| 1 <<< k)).testBit j = _
    rw [usd_tb p, Nat.testBit_or, one_shl_tb, List.contains_cons, Bool.or_assoc]
    congr 2
    by_cases q : k = j
    · rw [decide_eq_true q, q]; simp
    · rw [decide_eq_false q]
      have : (j == k) = false := by simp; omega
      rw [this]
theorem usd_lt {p : List Nat} (h : ∀ k, k ∈ p → k < 8) : usd p < 256 := by
  apply Nat.lt_pow_two_of_testBit (n := 8)
  intro i hi
  unfold usd
  rw [usd_tb, Nat.zero_testBit, Bool.false_or, List.contains_eq_mem]
  exact decide_eq_false (fun z => by have := h i z; omega)
theorem dgs_s2 {p : List Nat} {k : Nat} : dgs (p ++ [k]) = dgs p * 10 + k := by
  unfold dgs
  rw [List.foldl_append]
  rfl
/-- what the model's rounds may change -/
def rFr (g g' : sm_G) (p : List Nat) : Prop := ∀ r k, ¬ (307 ≤ r ∧ r ≤ 330) → ¬ (r = 305 ∧ k < 8 ∧ k ∉ p) → ¬ (r = 156 ∧ (k = 41 ∨ k = 56 ∨ k = 57 ∨ k = 65 ∨ k = 66)) → g' r k = g r k
theorem lvs_s {n f : Nat} {p : List Nat} : lvs n (f + 1) p = (List.range' 0 n).flatMap (fun k => if p.contains k then [] else lvs n f (p ++ [k])) := by
  rw [← List.range_eq_range']
  rfl
theorem lvs_all : ∀ n, n < 7 → (lvs n n []).all (fun q => (List.range n).all (fun k => q.contains k)) = true := by decide +kernel
theorem l_307 {T P : pT} {K : Nat} {W : Nat → pT} {V : pV} (N : List Nat → Nat) (hT : okT T) (hP : okP T P) (hK : K < 2 ^ sl T) (hK8 : K < 1024) (h6 : sl T ≤ 6) (hN : ∀ p, p ∈ lvs (sl T) (sl T) [] → lfN V T P K W p (N p)) :
    ∀ (f d x : Nat) (L : sm_L) (p : List Nat) (g : sm_G) (st : Option (Nat × Nat)), p.length + f = sl T → (∀ k, k ∈ p → k < sl T) → (∀ q, q ∈ lvs (sl T) f p → q ∈ lvs (sl T) (sl T) []) → mOk g T P K W → (∀ k, k < sl T → g 306 k = i3 1000) → (∀ k, k ∈ p → g 305 k = i3 (p.idxOf k)) → rst g st →
      ∃ g', sm_cv0 (d + f + 9) 307 342 (RR V) [.ref 156, .int (i3 (usd p)), .int (i3 p.length), .int (i3 (dgs p))] (x, g, L) = oV x g' L ∧ rst g' ((lvs (sl T) f p).foldl (mrd N) st) ∧ rFr g g' p := by
  have usp : ∀ (p : List Nat) (k : Nat), (usd p).testBit k = p.contains k := fun p k => by
    unfold usd
    rw [usd_tb, Nat.zero_testBit, Bool.false_or]
  have hB := hT.gb
  intro f
  induction f with
  | zero =>
    intro d x L p g st hl hp hq hg h306 h305 hst
    have hall : ∀ k, k < sl T → k ∈ p := fun k hk => by
      have := List.all_eq_true.mp (List.all_eq_true.mp (lvs_all (sl T) (by omega)) p (hq p (List.mem_singleton.mpr rfl))) k (List.mem_range.mpr hk)
      rw [List.contains_eq_mem] at this
      exact of_decide_eq_true this
    obtain ⟨n4, hlf⟩ := hN p (hq p (List.mem_singleton.mpr rfl))
    have gs := hg.1.gsl
    have gK := hg.1.gkp
    have e71 : hD (d + 8) 307 3 [.ref 156, .int (i3 (usd p)), .int (i3 p.length), .int (i3 (dgs p)), .int (i3 0)] 342 (RR V) x g L = hD (d + 8) 307 71 [.ref 156, .null, .int (i3 p.length), .int (i3 (dgs p)), .null] 342 (RR V) x g L := by
      rw [h_307_3, gs]
      by_cases q : 0 < sl T
      · rw [if_pos (by rw [i3_lt (by omega) (by omega)]; exact q), if_neg (by rw [i3_lt (by omega) (by omega)]; omega)]
      · rw [if_neg (by rw [i3_lt (by omega) (by omega)]; exact q)]
    have e258 := s_258 (d := d + 6) (x := x) (V := V) (G := g) (L := L) (K := K) (w := fun k => p.idxOf k) (e := fun _ => 1000) hg.1 hT hP hK8 (fun k hk => ⟨h305 k (hall k hk), by have := List.idxOf_lt_length_of_mem (hall k hk); omega⟩) (fun k hk => ⟨h306 k hk, by omega⟩)
    have hg2 : mOk (fill (sm_up g 156 41 (i3 K)) 307 301 (fun m => i3 (rmB T (fun k => slp T P (fun k => p.idxOf k) (fun _ => 1000) K k m)))) T P K W := hg.keep hT hP (fun r k a1 a2 => by rw [fill_ne (by omega), sm_up_ne (by omega)])
    obtain ⟨g4, n, c1, c2, c3, c4⟩ := hlf (d + 1) x _ L hg2 (fun m hm => fill_at hm)
    have e291 := s_291 (d := d + 7) (x := x) (V := V) (G := g4) (L := L) (show n < 1024 by omega)
    have c3' : sm_cv0 (d + 8) 264 342 (RR V) [.ref 156] (x, fill (sm_up g 156 41 (i3 K)) 307 301 (fun m => i3 (rmB T (fun k => slp T P (fun k => p.idxOf k) (fun _ => 1000) K k m))), L) = oI (i3 n) x g4 L := c3
    have fr : ∀ r k, ¬ (307 ≤ r ∧ r ≤ 330) → ¬ (r = 156 ∧ (k = 41 ∨ k = 56 ∨ k = 57)) → g4 r k = g r k := fun r k a1 a2 => by
      rw [c4 r k (by omega) (by omega), fill_ne (by omega), sm_up_ne (by omega)]
    have hst4 : rst g4 st := hst.keep (fun k hk => fr _ _ (by omega) (by omega))
    show ∃ g', sm_cv0 (d + 8 + 1) 307 342 (RR V) _ (x, g, L) = _ ∧ _
    rw [m_307, e71, h_307_71, gs, if_neg (show ¬ i3 p.length < i3 (sl T) by rw [i3_lt (by omega) (by omega)]; omega), gK, e258, aV_o, c3', aI_o, e291, aI_o, c2]
    have put : ∃ g', oV x (sm_up (sm_up g4 156 65 (i3 (N p))) 156 66 (i3 (dgs p))) L = oV x g' L ∧ (g' 156 65 = i3 (N p) ∧ g' 156 66 = i3 (dgs p) ∧ N p ≤ 4) ∧ rFr g g' p := ⟨_, rfl, ⟨by rw [sm_up_ne (by omega)]; exact sm_up_same _ _ _ _, sm_up_same _ _ _ _, n4⟩, fun r k a1 a2 a3 => by rw [sm_up_ne (by omega), sm_up_ne (by omega)]; exact fr r k a1 (by omega)⟩
    cases st with
    | none =>
      rw [if_pos (show g4 156 65 = m1 from hst4)]
      exact put
    | some br =>
      obtain ⟨u1, u2, u3⟩ := hst4
      rw [u1, if_neg (show ¬ i3 br.1 = m1 by rw [i3_nm1 (by omega)]; exact not_false)]
      show ∃ g', _ ∧ rst g' (if N p < br.1 then some (N p, dgs p) else some br) ∧ _
      by_cases z : N p < br.1
      · rw [if_pos (by rw [i3_lt (by omega) (by omega)]; exact z), if_pos z]
        exact put
      · rw [if_neg (by rw [i3_lt (by omega) (by omega)]; exact z), if_neg z]
        exact ⟨g4, rfl, ⟨u1, u2, u3⟩, fun r k a1 a2 a3 => fr r k a1 (by omega)⟩
  | succ f ih =>
    intro d x L p g st hl hp hq hg h306 h305 hst
    have hu := usd_lt (p := p) (fun k hk => by have := hp k hk; omega)
    have key : ∀ (j k : Nat), k + j = sl T → ∀ (g : sm_G) (st : Option (Nat × Nat)), mOk g T P K W → (∀ k, k < sl T → g 306 k = i3 1000) → (∀ k, k ∈ p → g 305 k = i3 (p.idxOf k)) → rst g st → ∃ g', hD (d + f + 9) 307 3 [.ref 156, .int (i3 (usd p)), .int (i3 p.length), .int (i3 (dgs p)), .int (i3 k)] 342 (RR V) x g L = oV x g' L ∧ rst g' (((List.range' k j).flatMap (fun k => if p.contains k then [] else lvs (sl T) f (p ++ [k]))).foldl (mrd N) st) ∧ rFr g g' p := by
      intro j
      induction j with
      | zero =>
        intro k hk g st hg h306 h305 hst
        refine ⟨g, ?_, hst, fun _ _ _ _ _ => rfl⟩
        rw [h_307_3, hg.1.gsl, if_neg (by rw [i3_lt (by omega) (by omega)]; omega), h_307_71, hg.1.gsl, if_pos (by rw [i3_lt (by omega) (by omega)]; omega)]
      | succ j jh =>
        intro k hk g st hg h306 h305 hst
        rw [List.range'_succ, List.flatMap_cons, List.foldl_append, h_307_3, hg.1.gsl, if_pos (by rw [i3_lt (by omega) (by omega)]; omega), if_pos (by rw [i3_lt (by omega) (by omega)]; omega), i3_shr (by omega) (by omega), i3_and, sh_tb]
        cases c : p.contains k with
        | true =>
          rw [if_pos (by rw [tb_1, usp]; exact c), if_pos rfl, i3_add]
          exact jh (k + 1) (by omega) g st hg h306 h305 hst
        | false =>
          have ck : k ∉ p := fun z => by
            rw [List.contains_eq_mem, decide_eq_true z] at c
            cases c
          have g1f : ∀ r i, ¬ (r = 305 ∧ i = k) → sm_up g 305 k (i3 p.length) r i = g r i := fun r i h => sm_up_ne (by omega)
          have g1k : sm_up g 305 k (i3 p.length) 305 k = i3 p.length := sm_up_same _ _ _ _
          rw [if_neg (by rw [tb_1, usp, c]; decide), i3_in (by omega) (by omega), gd_tt, i3_cl (by omega), i3_shl (by omega), i3_or, i3_add, i3_mul, i3_add, i3_add]
          generalize sm_up g 305 k (i3 p.length) = g1 at g1f g1k ⊢
          obtain ⟨g2, e1, e2, e3⟩ := ih d x L (p ++ [k]) g1 st (by rw [List.length_append]; show p.length + 1 + f = _; omega) (fun i hi => by
            rcases List.mem_append.mp hi with h | h
            · exact hp i h
            · rw [List.mem_singleton.mp h]; omega) (fun q hqq => hq q (by
            rw [lvs_s, List.mem_flatMap]
            refine ⟨k, ?_, ?_⟩
            · rw [← List.range_eq_range', List.mem_range]; omega
            · rw [c]; exact hqq)) (hg.keep hT hP (fun r i a1 a2 => g1f r i (by omega))) (fun i hi => by rw [g1f _ _ (by omega)]; exact h306 i hi) (fun i hi => by
            rw [List.idxOf_append]
            by_cases z : i ∈ p
            · rw [if_pos z, g1f _ _ (by rintro ⟨_, rfl⟩; exact ck z)]
              exact h305 i z
            · rw [if_neg z]
              have zi : i = k := by
                rcases List.mem_append.mp hi with h | h
                · exact absurd h z
                · exact List.mem_singleton.mp h
              subst zi
              rw [g1k, List.idxOf_cons_self, Nat.zero_add]) (hst.keep (fun i hi => g1f _ _ (by omega)))
          rw [usd_s, dgs_s2, List.length_append] at e1
          rw [show 10 * dgs p + k = dgs p * 10 + k by omega]
          have e1' : sm_cv0 (d + f + 9) 307 342 (RR V) [.ref 156, .int (i3 (usd p ||| 1 <<< k)), .int (i3 (p.length + 1)), .int (i3 (dgs p * 10 + k))] (x, g1, L) = oV x g2 L := e1
          have fr2 : rFr g g2 p := fun r i a1 a2 a3 => by
            rw [e3 r i a1 (by
              rintro ⟨z1, z0, z2⟩
              exact a2 ⟨z1, z0, fun z => z2 (List.mem_append.mpr (Or.inl z))⟩) a3]
            refine g1f r i ?_
            rintro ⟨z1, rfl⟩
            exact a2 ⟨z1, by omega, ck⟩
          obtain ⟨g3, k1, k2, k3⟩ := jh (k + 1) (by omega) g2 _ (hg.keep hT hP (fun r i a1 a2 => fr2 r i (by omega) (by omega) (by omega))) (fun i hi => by rw [fr2 _ _ (by omega) (by omega) (by omega)]; exact h306 i hi) (fun i hi => by
            rw [fr2 _ _ (by omega) (fun z => z.2.2 hi) (by omega)]
            exact h305 i hi) e2
          rw [e1', aV_o]
          refine ⟨g3, k1, ?_, fun r i a1 a2 a3 => by rw [k3 r i a1 a2 a3]; exact fr2 r i a1 a2 a3⟩
          rw [if_neg (by decide)]
          exact k2
    obtain ⟨g', k1, k2, k3⟩ := key (sl T) 0 (by omega) g st hg h306 h305 hst
    rw [show d + (f + 1) + 9 = d + f + 9 + 1 by omega, m_307, lvs_s]
    exact ⟨g', k1, k2, k3⟩
