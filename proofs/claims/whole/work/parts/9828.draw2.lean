theorem slp_e {T P : pT} {K k m : Nat} {e : Nat → Nat} (hm : m < 1000) (hK : K.testBit k = false) : slp T P (fun k => k) e K k m = (slp0 T P K k m && decide (m < e k)) := by
  unfold slp0 slp
  rw [hK, decide_eq_true hm, Bool.false_or, Bool.false_or, Bool.and_true]
theorem dst_1 {T P : pT} {K m k : Nat} {s : (Nat → Nat) × Int32} : ∀ j, (dst T P K m k s).1 j = s.1 j ∨ (j = k ∧ s.1 j = 1000 ∧ (dst T P K m k s).1 j = m) ∨ (j = k ∧ m < s.1 j ∧ (dst T P K m k s).1 j = m) := by
  intro j
  unfold dst
  split
  · rename_i h
    split
    · by_cases q : j = k
      · subst q
        refine Or.inr (Or.inr ⟨rfl, ?_, if_pos rfl⟩)
        have h2 := h.2
        unfold slp at h2
        rw [h.1, Bool.false_or, Bool.and_eq_true] at h2
        exact of_decide_eq_true h2.2
      · exact Or.inl (if_neg q)
    · exact Or.inl rfl
  · exact Or.inl rfl
/-- in minute m, from sleeper k on -/
def dmi (m k : Nat) (e0 e : Nat → Nat) : Prop := ∀ j, (e j = e0 j ∨ (j < k ∧ e0 j = 1000 ∧ e j = m)) ∧ (k ≤ j → e j = e0 j)
theorem dmi_s {T P : pT} {K m k : Nat} {e0 : Nat → Nat} {s : (Nat → Nat) × Int32} (h0 : dok m e0) (h : dmi m k e0 s.1) : dmi m (k + 1) e0 (dst T P K m k s).1 := by
  intro j
  have hj := h j
  have h0j := h0 j
  rcases dst_1 (T := T) (P := P) (K := K) (m := m) (k := k) (s := s) j with e | ⟨rfl, e1, e2⟩ | ⟨rfl, e1, e2⟩
  · rw [e]
    refine ⟨?_, fun hk => hj.2 (by omega)⟩
    rcases hj.1 with a | ⟨a, b⟩
    · exact Or.inl a
    · exact Or.inr ⟨by omega, b⟩
  · have := hj.2 (Nat.le_refl _)
    exact ⟨Or.inr ⟨by omega, by omega, e2⟩, fun hk => by omega⟩
  · have := hj.2 (Nat.le_refl _)
    exact ⟨Or.inr ⟨by omega, by omega, e2⟩, fun hk => by omega⟩
/-- who sleeps at minute m, as far as known at sleeper k -/
def slB (T P : pT) (K m k : Nat) (e : Nat → Nat) : Nat := bs (fun j => K.testBit j || (decide (j < k) && slp T P (fun k => k) e K j m)) (sl T)
theorem slB_0 {T P : pT} {K m : Nat} {e : Nat → Nat} (hK : K < 2 ^ sl T) : slB T P K m 0 e = K := by
  apply Nat.eq_of_testBit_eq
  intro i
  unfold slB
  rw [bs_tb, decide_eq_false (Nat.not_lt_zero i), Bool.false_and, Bool.or_false]
  by_cases q : i < sl T
  · rw [decide_eq_true q, Bool.true_and]
  · rw [decide_eq_false q, Bool.false_and, tb_big hK (by omega)]
theorem slB_s {T P : pT} {K m k : Nat} {e e' : Nat → Nat} (hk : k < sl T) (h : ∀ j, j < k → e' j = e j) : slB T P K m (k + 1) e' = if slp T P (fun k => k) e' K k m = true then slB T P K m k e ||| 1 <<< k else slB T P K m k e := by
  have key : ∀ i, (slB T P K m (k + 1) e').testBit i = ((slB T P K m k e).testBit i || (decide (k = i) && slp T P (fun k => k) e' K k m)) := by
    intro i
    unfold slB
    rw [bs_tb, bs_tb]
    by_cases q1 : i < sl T
    · rw [decide_eq_true q1, Bool.true_and, Bool.true_and]
      by_cases q2 : i < k
      · rw [decide_eq_true q2, decide_eq_true (by omega : i < k + 1), decide_eq_false (by omega : ¬ k = i), Bool.false_and, Bool.or_false]
        have : slp T P (fun k => k) e' K i m = slp T P (fun k => k) e K i m := by
          unfold slp
          rw [h i q2]
        rw [this]
      · by_cases q3 : k = i
        · subst q3
          rw [decide_eq_false q2, decide_eq_true (by omega : k < k + 1), decide_eq_true rfl, Bool.true_and, Bool.false_and, Bool.or_false]
        · simp only [decide_eq_false q2, decide_eq_false (by omega : ¬ i < k + 1), decide_eq_false q3, Bool.false_and, Bool.or_false]
    · rw [decide_eq_false q1, Bool.false_and, Bool.false_and, decide_eq_false (by omega : ¬ k = i)]
      rfl
  apply Nat.eq_of_testBit_eq
  intro i
  rw [key i]
  split
  · rename_i hs
    rw [hs, Bool.and_true, tb_add]
  · rename_i hs
    rw [Bool.not_eq_true] at hs
    rw [hs, Bool.and_false, Bool.or_false]
theorem lst_s {T : pT} {k m : Nat} {e : Nat → Nat} (hk : k < sl T) (hm : m < 1000) : lstB T (fun j => if j = k then m else e j) = lstB T e ||| 1 <<< k := by
  apply Nat.eq_of_testBit_eq
  intro i
  unfold lstB
  rw [tb_add, bs_tb, bs_tb]
  by_cases q : k = i
  · subst q
    rw [decide_eq_true hk, Bool.true_and, decide_eq_true rfl, Bool.or_true]
    exact decide_eq_true (show (if k = k then m else e k) ≠ 1000 by rw [if_pos rfl]; omega)
  · rw [decide_eq_false q, Bool.or_false]
    show (decide (i < sl T) && decide ((if i = k then m else e i) ≠ 1000)) = _
    rw [if_neg (fun z : i = k => q z.symm)]
theorem itr_fst (T P : pT) (K m : Nat) (s : (Nat → Nat) × Int32) (h0 : dok m s.1) : ∀ n, dmi m n s.1 (itr (dst T P K m) 0 n s).1 := by
  intro n
  induction n with
  | zero => exact fun j => ⟨Or.inl rfl, fun _ => rfl⟩
  | succ n ih => rw [itr_succ, Nat.zero_add]; exact dmi_s h0 ih
theorem dmn_ok {T P : pT} {K m : Nat} {s : (Nat → Nat) × Int32} (h0 : dok m s.1) : dok (m + 1) (dmn T P K m s).1 ∧ ∀ j, (dmn T P K m s).1 j = s.1 j ∨ (s.1 j = 1000 ∧ (dmn T P K m s).1 j = m) := by
  have h := itr_fst T P K m s h0 (sl T)
  refine ⟨fun j => ?_, fun j => ?_⟩
  · have a := h0 j
    have b := (h j).1
    unfold dmn
    omega
  · rcases (h j).1 with a | ⟨_, a, b⟩
    · exact Or.inl a
    · exact Or.inr ⟨a, b⟩
theorem drw_ok {T P : pT} {K : Nat} {r : Int32} : ∀ n, n ≤ 301 → dok n (itr (dmn T P K) 0 n (fun _ => 1000, r)).1 := by
  intro n
  induction n with
  | zero => exact fun _ j => Or.inl rfl
  | succ n ih => intro h; rw [itr_succ, Nat.zero_add]; exact (dmn_ok (ih (by omega))).1
theorem slB_end {T P : pT} {K m : Nat} {e : Nat → Nat} (hT : okT T) : rmB T (slB T P K m (sl T) e).testBit = rmB T (fun k => slp T P (fun k => k) e K k m) := by
  have hb : ∀ j, j < sl T → (slB T P K m (sl T) e).testBit j = slp T P (fun k => k) e K j m := fun j hj => by
    unfold slB
    rw [bs_tb, decide_eq_true hj, Bool.true_and, Bool.true_and]
    unfold slp
    cases K.testBit j <;> simp
  unfold rmB
  refine bs_congr (fun r hr => ?_)
  have ht := hT.gtp r hr
  rw [hb r hr]
  by_cases q : tp T r = 0
  · rw [decide_eq_false (by omega : ¬ tp T r ≠ 0), Bool.false_and, Bool.false_and]
  · rw [hb (tp T r - 1) (by omega)]
theorem s_81 {d x : Nat} {V : pV} {G : sm_G} {L : sm_L} {T P : pT} {K : Nat} {r : Int32} (hV : okV V) (hc : cS G V.1 T) (hp : cP G (V.1 + 1) T P K) (hT : okT T) (hP : okP T P) (hK : K < 2 ^ sl T) (hh : hOk G T P K) : ∃ G', sm_cv0 (d + 2) 81 342 (RR V) [.ref 54, .ref V.1, .int r] (x, G, L) = oI (i3 (lstB T (drw T P K r).1)) x G' L ∧ (∀ r k, r ≠ 58 → G' r k = G r k) ∧ ∀ m, m < 301 → G' 58 m = i3 (rmB T (fun k => slp T P (fun k => k) (drw T P K r).1 K k m)) := by
  have hB := hT.gb
  have hsl := pS_lt hV.1
  have h256 : 2 ^ sl T ≤ 2 ^ 8 := Nat.pow_le_pow_right (by decide) hB.1
  have l8 : ∀ f : Nat → Bool, bs f (sl T) < 256 := fun f => Nat.lt_of_lt_of_le (bs_lt _ _) h256
  have z0 : lstB T (fun _ => 1000) = 0 := by
    apply Nat.eq_of_testBit_eq
    intro i
    unfold lstB
    rw [bs_tb, Nat.zero_testBit, decide_eq_false (by omega : ¬ (1000 : Nat) ≠ 1000), Bool.and_false]
  have e0 : sm_cv0 (d + 2) 81 342 (RR V) [.ref 54, .ref V.1, .int r] (x, G, L) = hD (d + 1) 81 8 [.ref 54, .ref V.1, .null, .int (i3 (lstB T (itr (dmn T P K) 0 0 (fun _ => 1000, r)).1)), .int (itr (dmn T P K) 0 0 (fun _ => 1000, r)).2, .int (i3 0), .null, .null, .null] 342 (RR V) x G L := by
    rw [m_81 hV.1]
    show _ = hD (d + 1) 81 8 [.ref 54, .ref V.1, .null, .int (i3 (lstB T (fun _ => 1000))), .int r, .int (i3 0), .null, .null, .null] 342 (RR V) x G L
    rw [z0]
  rw [e0]
  refine loopE (H := fun m (s : sm_G) => hD (d + 1) 81 8 [.ref 54, .ref V.1, .null, .int (i3 (lstB T (itr (dmn T P K) 0 m (fun _ => 1000, r)).1)), .int (itr (dmn T P K) 0 m (fun _ => 1000, r)).2, .int (i3 m), .null, .null, .null] 342 (RR V) x s L) (Q := fun o' => ∃ G', o' = oI (i3 (lstB T (drw T P K r).1)) x G' L ∧ (∀ r k, r ≠ 58 → G' r k = G r k) ∧ ∀ m, m < 301 → G' 58 m = i3 (rmB T (fun k => slp T P (fun k => k) (drw T P K r).1 K k m))) (N := 301)
    (fun m g => (∀ r k, r ≠ 58 → g r k = G r k) ∧ ∀ m', m' < m → g 58 m' = i3 (rmB T (fun k => slp T P (fun k => k) (itr (dmn T P K) 0 m (fun _ => 1000, r)).1 K k m'))) ?_ ?_ 301 0 G (by omega) ⟨fun _ _ _ => rfl, fun m' h => by omega⟩
  · rintro m g hm ⟨w1, w2⟩
    have h0 := drw_ok (T := T) (P := P) (K := K) (r := r) m (by omega)
    have es : itr (dmn T P K) 0 (m + 1) (fun _ => 1000, r) = dmn T P K m (itr (dmn T P K) 0 m (fun _ => 1000, r)) := by rw [itr_succ, Nat.zero_add]
    rw [es]
    generalize itr (dmn T P K) 0 m (fun _ => 1000, r) = s at h0 w2 ⊢
    have hcg : cS g V.1 T := hc.keep (fun r k a => w1 r k (by unfold inC at a; omega))
    have gK : g (V.1 + 1) 9 = i3 K := by rw [w1 _ _ (by omega)]; exact hp.gkp
    have g55 : g 55 m = i3 (aB T P K m) := by rw [w1 _ _ (by omega)]; exact (hh m hm).1
    obtain ⟨k1, k2⟩ := dmn_ok (T := T) (P := P) (K := K) h0
    have hla := l8 (fun k => slp0 T P K k m)
    -- the sleepers of this minute
    have inner : hD (d + 1) 81 28 [.ref 54, .ref V.1, .null, .int (i3 (lstB T s.1)), .int s.2, .int (i3 m), .int (i3 K), .int (i3 0), .null] 342 (RR V) x g L = hD (d + 1) 81 28 [.ref 54, .ref V.1, .null, .int (i3 (lstB T (dmn T P K m s).1)), .int (dmn T P K m s).2, .int (i3 m), .int (i3 (slB T P K m (sl T) (dmn T P K m s).1)), .int (i3 (sl T)), .null] 342 (RR V) x g L := by
      have key : ∀ n, n ≤ sl T → hD (d + 1) 81 28 [.ref 54, .ref V.1, .null, .int (i3 (lstB T s.1)), .int s.2, .int (i3 m), .int (i3 K), .int (i3 0), .null] 342 (RR V) x g L = hD (d + 1) 81 28 [.ref 54, .ref V.1, .null, .int (i3 (lstB T (itr (dst T P K m) 0 n s).1)), .int (itr (dst T P K m) 0 n s).2, .int (i3 m), .int (i3 (slB T P K m n (itr (dst T P K m) 0 n s).1)), .int (i3 n), .null] 342 (RR V) x g L := by
        intro n
        induction n with
        | zero => intro _; rw [slB_0 hK]; rfl
        | succ k ih =>
          intro hk
          rw [ih (by omega)]
          have hi := itr_fst T P K m s h0 k
          have et : itr (dst T P K m) 0 (k + 1) s = dst T P K m k (itr (dst T P K m) 0 k s) := by rw [itr_succ, Nat.zero_add]
          rw [et]
          generalize itr (dst T P K m) 0 k s = t at hi ⊢
          have hek : t.1 k = 1000 ∨ t.1 k < m := by rw [(hi k).2 (Nat.le_refl _)]; exact h0 k
          have ew := hcg.gwt k (by omega)
          have hw := hT.gwt k (by omega)
          have ll := l8 (fun k => decide (t.1 k ≠ 1000))
          have l2 := l8 (fun j => K.testBit j || (decide (j < k) && slp T P (fun k => k) t.1 K j m))
          have ll : lstB T t.1 < 256 := ll
          have l2 : slB T P K m k t.1 < 256 := l2
          have hcnd : ((((aB T P K m ^^^ (aB T P K m &&& K)) ^^^ ((aB T P K m ^^^ (aB T P K m &&& K)) &&& lstB T t.1)) &&& 1 <<< k) = 0) ↔ ¬ (K.testBit k = false ∧ slp T P (fun k => k) t.1 K k m = true) := by
            rw [one_and, Nat.testBit_xor, Nat.testBit_and, Nat.testBit_xor, Nat.testBit_and, aB_tb, decide_eq_true (by omega : k < sl T), Bool.true_and]
            have hl : (lstB T t.1).testBit k = decide (t.1 k ≠ 1000) := by
              unfold lstB
              rw [bs_tb, decide_eq_true (by omega : k < sl T), Bool.true_and]
            rw [hl]
            cases hKk : K.testBit k with
            | true => cases slp0 T P K k m <;> simp
            | false =>
              rw [slp_e (by omega) hKk]
              rcases hek with e | e
              · rw [decide_eq_false (by omega : ¬ t.1 k ≠ 1000), decide_eq_true (by omega : m < t.1 k)]
                cases slp0 T P K k m <;> simp
              · rw [decide_eq_true (by omega : t.1 k ≠ 1000), decide_eq_false (by omega : ¬ m < t.1 k)]
                cases slp0 T P K k m <;> simp
          rw [h_81_28 hV.1, hcg.gsl]
          rw [if_pos (show i3 k < i3 (sl T) by rw [i3_lt (by omega) (by omega)]; omega), i3_cl (show m < 2147483648 by omega), g55, gK, i3_andn, i3_andn, i3_shl (by omega), i3_and, i3_in (by omega) hm, gd_tt]
          have hX : (aB T P K m ^^^ (aB T P K m &&& K)) ^^^ ((aB T P K m ^^^ (aB T P K m &&& K)) &&& lstB T t.1) < 2 ^ 8 := by
            have a1 : aB T P K m < 2 ^ 8 := hla
            have a2 : aB T P K m ^^^ (aB T P K m &&& K) < 2 ^ 8 := Nat.xor_lt_two_pow a1 (Nat.lt_of_le_of_lt Nat.and_le_left a1)
            exact Nat.xor_lt_two_pow a2 (Nat.lt_of_le_of_lt Nat.and_le_left a2)
          have hXk := Nat.lt_of_le_of_lt (Nat.and_le_left (m := 1 <<< k)) hX
          unfold dst
          by_cases q : K.testBit k = false ∧ slp T P (fun k => k) t.1 K k m = true
          · rw [if_neg (fun z => (hcnd.mp (by rw [i3_eq (by omega) (by omega)] at z; exact z)) q), i3_in (by omega) (by omega), gd_tt, i3_cl (by omega), ew, ush_shr, if_pos q]
            show (if rdv (rnd t.2) < i3 (wt T k) then _ else _) = _
            by_cases q2 : rdv (rnd t.2) < i3 (wt T k)
            · rw [if_pos q2, if_pos q2, h_81_105 hV.1, h_81_115 hV.1, i3_or, i3_add]
              show _ = hD (d + 1) 81 28 [.ref 54, .ref V.1, .null, .int (i3 (lstB T (fun j => if j = k then m else t.1 j))), .int (rnd t.2), .int (i3 m), .int (i3 (slB T P K m (k + 1) (fun j => if j = k then m else t.1 j))), .int (i3 (k + 1)), .null] 342 (RR V) x g L
              have hf : slp T P (fun k => k) (fun j => if j = k then m else t.1 j) K k m = false := by
                rw [slp_e (by omega) q.1, decide_eq_false (show ¬ m < (if k = k then m else t.1 k) by rw [if_pos rfl]; omega), Bool.and_false]
              rw [lst_s (by omega) (by omega), slB_s (e := t.1) (by omega) (fun j hj => if_neg (by omega)), hf, if_neg (by decide)]
              rfl
            · rw [if_neg q2, if_neg q2, h_81_115 hV.1, i3_or, i3_add]
              show _ = hD (d + 1) 81 28 [.ref 54, .ref V.1, .null, .int (i3 (lstB T t.1)), .int (rnd t.2), .int (i3 m), .int (i3 (slB T P K m (k + 1) t.1)), .int (i3 (k + 1)), .null] 342 (RR V) x g L
              rw [slB_s (e := t.1) (by omega) (fun j hj => rfl), if_pos q.2]
              rfl
          · rw [if_pos (show i3 _ = i3 0 by rw [hcnd.mpr q]), h_81_115 hV.1, i3_add, if_neg q]
            have hs : slB T P K m (k + 1) t.1 = slB T P K m k t.1 := by
              rw [slB_s (e := t.1) (by omega) (fun j hj => rfl)]
              split
              · rename_i hs
                have hKt : K.testBit k = true := by
                  cases h : K.testBit k with
                  | true => rfl
                  | false => exact absurd ⟨h, hs⟩ q
                apply Nat.eq_of_testBit_eq
                intro i
                rw [tb_add]
                by_cases z : k = i
                · subst z
                  unfold slB
                  rw [bs_tb, decide_eq_true (by omega : k < sl T), hKt]
                  rfl
                · rw [decide_eq_false z, Bool.or_false]
              · rfl
            rw [hs]
      exact key (sl T) (Nat.le_refl _)
    have lend : slB T P K m (sl T) (dmn T P K m s).1 < 2 ^ sl T := bs_lt _ _
    have hcg2 : cS g V.1 T := hcg
    have e118 := s_118 (d := d) (x := x) (V := V) (G := g) (L := L) hV.1 hcg hT lend (by omega)
    rw [slB_end hT] at e118
    refine ⟨sm_up g 58 m (i3 (rmB T (fun k => slp T P (fun k => k) (dmn T P K m s).1 K k m))), ?_, fun r k a => by rw [sm_up_ne (by omega)]; exact w1 r k a, fun m' hm' => ?_⟩
    · show hD (d + 1) 81 8 _ 342 (RR V) x g L = _
      rw [h_81_8 hV.1, if_pos (show i3 m < i3 301 by rw [i3_lt (by omega) (by omega)]; omega), gK, inner, h_81_28 hV.1, hcg.gsl, if_neg (show ¬ i3 (sl T) < i3 (sl T) by rw [i3_lt (by omega) (by omega)]; omega), e118, aI_o, i3_in (by omega) hm, gd_tt, i3_cl (by omega), i3_add]
    · by_cases q : m' = m
      · subst q
        rw [sm_up_same]
      · rw [sm_up_ne (by omega), w2 m' (by omega)]
        congr 2
        funext j
        unfold slp
        have : decide (m' < s.1 j) = decide (m' < (dmn T P K m s).1 j) := by
          rcases k2 j with e | ⟨e1, e2⟩
          · rw [e]
          · rw [e1, e2, decide_eq_true (by omega : m' < 1000), decide_eq_true (by omega : m' < m)]
        rw [this]
  · rintro g ⟨w1, w2⟩
    refine ⟨g, ?_, w1, w2⟩
    show hD (d + 1) 81 8 _ 342 (RR V) x g L = _
    rw [h_81_8 hV.1, if_neg (by rw [i3_lt (by omega) (by omega)]; omega)]
    rfl
