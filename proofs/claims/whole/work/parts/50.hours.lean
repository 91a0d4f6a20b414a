/-! the class's hours -/
theorem loopE {α ρ : Type} {H : Nat → α → ρ} {Q : ρ → Prop} {N : Nat} (Inv : Nat → α → Prop) (h1 : ∀ i a, i < N → Inv i a → ∃ a', H i a = H (i + 1) a' ∧ Inv (i + 1) a') (h2 : ∀ a, Inv N a → Q (H N a)) : ∀ (n i : Nat) (a : α), i + n = N → Inv i a → Q (H i a)
  | 0, i, a, h, hp => by
    have : i = N := by omega
    subst this
    exact h2 a hp
  | n + 1, i, a, h, hp => by
    obtain ⟨a', e, hp2⟩ := h1 i a (by omega) hp
    rw [e]
    exact loopE Inv h1 h2 n (i + 1) a' (by omega) hp2
/-- as it is, nothing drawn, the milkman's own order -/
def slp0 (T P : pT) (K k m : Nat) : Bool := slp T P (fun k => k) (fun _ => 1000) K k m
/-- who sleeps, as bits -/
def aB (T P : pT) (K m : Nat) : Nat := bs (fun k => slp0 T P K k m) (sl T)
/-- which rooms are there -/
def tB (T P : pT) (K m : Nat) : Nat := rmB T (fun k => slp0 T P K k m)
theorem aB_tb (T P : pT) (K m k : Nat) : (aB T P K m).testBit k = (decide (k < sl T) && slp0 T P K k m) := bs_tb _ _ _
/-- the class's plan lies at s + 1 of the street at s -/
def inC (s : Nat) (r _k : Nat) : Prop := s ≤ r ∧ r < s + 18
theorem cS.keep {G G' : sm_G} {s : Nat} {T : pT} (h : cS G s T) (hs : same G G' (inC s)) : cS G' s T := by
  obtain ⟨h1, h2, h3, h4, h5, h6, h7, h8, h9, h10, h11, h12, h13, h14⟩ := h
  unfold same inC at hs
  refine ⟨?_, ?_, ?_, ?_, ?_, ?_, fun k hk => ?_, fun k hk => ?_, fun k hk => ?_, fun k hk => ?_, fun k hk => ?_, fun k hk => ?_, fun k hk => ?_, fun k hk => ?_⟩
  all_goals rw [hs _ _ (by omega)]
  all_goals first | assumption | (apply_assumption; assumption)
theorem cP.keep {G G' : sm_G} {p K : Nat} {T P : pT} (h : cP G p T P K) (hs : ∀ r k, p ≤ r → r < p + 5 → G' r k = G r k) : cP G' p T P K := by
  obtain ⟨h1, h2, h3, h4, h5, h6⟩ := h
  refine ⟨?_, ?_, fun k hk => ?_, fun k hk => ?_, fun k hk => ?_, fun k hk => ?_⟩
  all_goals rw [hs _ _ (by omega) (by omega)]
  all_goals first | assumption | (apply_assumption; assumption)
theorem pS_lt {s : Nat} (h : pS s) : 109 ≤ s ∧ s ≤ 127 := by rcases h with rfl | rfl <;> omega
theorem s_80 {d x : Nat} {V : pV} {G : sm_G} {L : sm_L} {s m : Nat} {T P : pT} (hs : pS s) (hc : cS G s T) (hd : ∀ m, m < 301 → G 57 m = i3 (dat T P m)) (hm : m < 301) : sm_cv0 (d + 1) 80 342 (RR V) [.ref 54, .ref s, .int (i3 m)] (x, G, L) = oI (i3 (dat T P m) ^^^ (if m = 0 then i3 (fo T) else i3 (dat T P (m - 1)))) x G L := by
  rw [m_80 hs, hc.gfo]
  by_cases q : m = 0
  · simp (disch := omega) only [i3_add, i3_mul, i3_sub, i3_m1, i3_lt, i3_le, i3_eq, m1_lt, lt_m1, m1_le, le_m1, i3_nm1, m1_ni3, i3_cl, i3_in, i3_or, i3_and, i3_xor, i3_shl, i3_shr, sh_tb, tb_eq0, gd_tt, aI_o, aV_o, aL_o, aR_o, zd_0, zd_1, if_true, if_false, ite_self, eq_self, Bool.true_eq_false, Bool.false_eq_true, bi_0, bi_1, bi_zd, Nat.not_lt_zero, hd, q]
  · have h1 : 1 ≤ m := by omega
    simp (disch := omega) only [i3_add, i3_mul, i3_sub, i3_m1, i3_lt, i3_le, i3_eq, m1_lt, lt_m1, m1_le, le_m1, i3_nm1, m1_ni3, i3_cl, i3_in, i3_or, i3_and, i3_xor, i3_shl, i3_shr, sh_tb, tb_eq0, gd_tt, aI_o, aV_o, aL_o, aR_o, zd_0, zd_1, if_true, if_false, ite_self, eq_self, Bool.true_eq_false, Bool.false_eq_true, bi_0, bi_1, bi_zd, Nat.not_lt_zero, hd, q]
/-- noises of one minute, from nothing -/
theorem nx_xor (T P : pT) (m a : Nat) : nx T P m a = a ^^^ nx T P m 0 := by
  unfold nx
  have key : ∀ n a, itr (fun i a => if nm P i = m then a ^^^ tu T (ns P i) else a) 0 n a = a ^^^ itr (fun i a => if nm P i = m then a ^^^ tu T (ns P i) else a) 0 n 0 := by
    intro n
    induction n with
    | zero => intro a; exact (Nat.xor_zero a).symm
    | succ n ih =>
      intro a
      rw [itr_succ, itr_succ, ih a]
      split
      · rw [Nat.xor_assoc]
      · rfl
  exact key _ _
theorem s_79 {d x : Nat} {V : pV} {G : sm_G} {L : sm_L} {s K : Nat} {T P : pT} (hs : pS s) (hc : cS G s T) (hp : cP G (s + 1) T P K) (hT : okT T) (hP : okP T P) : ∃ G', sm_cv0 (d + 2) 79 342 (RR V) [.ref 54, .ref s] (x, G, L) = oV x G' L ∧ (∀ r k, r ≠ 57 → G' r k = G r k) ∧ ∀ m, m < 301 → G' 57 m = i3 (dat T P m) := by
  have hB := hT.gb
  have hB2 := hP.gb
  have hsl := pS_lt hs
  rw [m_79 hs, s_6 (c := 57) (N := 301) rfl rfl rfl (by omega)]
  simp only [aV_o]
  refine loopE (H := fun i (g : sm_G) => hD (d + 1) 79 10 [.ref 54, .ref s, .int (i3 i), .null] 342 (RR V) x g L) (Q := fun o => ∃ G', o = oV x G' L ∧ (∀ r k, r ≠ 57 → G' r k = G r k) ∧ ∀ m, m < 301 → G' 57 m = i3 (dat T P m)) (N := nn P)
    (fun i g => (∀ r k, r ≠ 57 → g r k = G r k) ∧ ∀ m, m < 301 → g 57 m = i3 (itr (fun i a => if nm P i = m then a ^^^ tu T (ns P i) else a) 0 i 0)) ?_ ?_ (nn P) 0 _ (by omega) ⟨fun r k h => fill_ne h, fun m hm => by rw [fill_at hm]; rfl⟩
  · rintro i g hi ⟨hg, hg2⟩
    have hc' : cS g s T := hc.keep (fun r k h => hg r k (by unfold inC at h; omega))
    have hp' : cP g (s + 1) T P K := hp.keep (fun r k h1 h2 => hg r k (by omega))
    have hn := hP.gnz i hi
    refine ⟨sm_up g 57 (nm P i) (g 57 (nm P i) ^^^ i3 (tu T (ns P i))), ?_, fun r k h => by rw [sm_up_ne (Or.inl h)]; exact hg r k h, fun m hm => ?_⟩
    · have e1 := hp'.gnm i hi
      have e2 := hp'.gns i hi
      rw [show s + 1 + 1 = s + 2 by omega] at e1
      rw [show s + 1 + 2 = s + 3 by omega] at e2
      rw [h_79_10 hs, hp'.gnn]
      simp (disch := omega) only [i3_add, i3_mul, i3_sub, i3_m1, i3_lt, i3_le, i3_eq, m1_lt, lt_m1, m1_le, le_m1, i3_nm1, m1_ni3, i3_cl, i3_in, i3_or, i3_and, i3_xor, i3_shl, i3_shr, sh_tb, tb_eq0, gd_tt, aI_o, aV_o, aL_o, aR_o, zd_0, zd_1, if_true, if_false, ite_self, eq_self, Bool.true_eq_false, Bool.false_eq_true, bi_0, bi_1, bi_zd, Nat.not_lt_zero, hi, e1, e2, hc'.gtu]
    · rw [itr_succ, Nat.zero_add]
      by_cases q : nm P i = m
      · rw [q, sm_up_same, hg2 m hm, i3_xor, if_pos rfl]
      · rw [sm_up_ne (Or.inr (fun z => q z.symm)), hg2 m hm, if_neg q]
  · rintro g ⟨hg, hg2⟩
    have hc' : cS g s T := hc.keep (fun r k h => hg r k (by unfold inC at h; omega))
    have hp' : cP g (s + 1) T P K := hp.keep (fun r k h1 h2 => hg r k (by omega))
    rw [h_79_10 hs, hp'.gnn, hc'.gfo]
    simp (disch := omega) only [i3_add, i3_mul, i3_sub, i3_m1, i3_lt, i3_le, i3_eq, m1_lt, lt_m1, m1_le, le_m1, i3_nm1, m1_ni3, i3_cl, i3_in, i3_or, i3_and, i3_xor, i3_shl, i3_shr, sh_tb, tb_eq0, gd_tt, aI_o, aV_o, aL_o, aR_o, zd_0, zd_1, if_true, if_false, ite_self, eq_self, Bool.true_eq_false, Bool.false_eq_true, bi_0, bi_1, bi_zd, Nat.not_lt_zero, Nat.lt_irrefl]
    refine loopE (H := fun i (ag : Nat × sm_G) => hD (d + 1) 79 65 [.ref 54, .null, .int (i3 ag.1), .int (i3 i)] 342 (RR V) x ag.2 L) (Q := fun o => ∃ G', o = oV x G' L ∧ (∀ r k, r ≠ 57 → G' r k = G r k) ∧ ∀ m, m < 301 → G' 57 m = i3 (dat T P m)) (N := 301)
      (fun i ag => (∀ r k, r ≠ 57 → ag.2 r k = G r k) ∧ (ag.1 = if i = 0 then fo T else dat T P (i - 1)) ∧ ∀ m, m < 301 → ag.2 57 m = if m < i then i3 (dat T P m) else i3 (nx T P m 0)) ?_ ?_ 301 0 (fo T, g) (by omega) ⟨hg, rfl, fun m hm => by rw [if_neg (by omega)]; exact hg2 m hm⟩
    · rintro m ⟨a, g⟩ hi ⟨h1, h2, h3⟩
      have h2 : a = if m = 0 then fo T else dat T P (m - 1) := h2
      have h3 : ∀ j, j < 301 → g 57 j = if j < m then i3 (dat T P j) else i3 (nx T P j 0) := h3
      have e3 : g 57 m = i3 (nx T P m 0) := by rw [h3 m hi, if_neg (Nat.lt_irrefl m)]
      have hd : a ^^^ nx T P m 0 = dat T P m := by
        rw [← nx_xor, h2]
        cases m with
        | zero => rfl
        | succ m => rfl
      refine ⟨(dat T P m, sm_up g 57 m (i3 (dat T P m))), ?_, fun r k h => ?_, ?_, fun j hj => ?_⟩
      · show hD (d + 1) 79 65 [.ref 54, .null, .int (i3 a), .int (i3 m)] 342 (RR V) x g L = hD (d + 1) 79 65 [.ref 54, .null, .int (i3 (dat T P m)), .int (i3 (m + 1))] 342 (RR V) x (sm_up g 57 m (i3 (dat T P m))) L
        rw [h_79_65]
        simp (disch := omega) only [i3_add, i3_mul, i3_sub, i3_m1, i3_lt, i3_le, i3_eq, m1_lt, lt_m1, m1_le, le_m1, i3_nm1, m1_ni3, i3_cl, i3_in, i3_or, i3_and, i3_xor, i3_shl, i3_shr, sh_tb, tb_eq0, gd_tt, aI_o, aV_o, aL_o, aR_o, zd_0, zd_1, if_true, if_false, ite_self, eq_self, Bool.true_eq_false, Bool.false_eq_true, bi_0, bi_1, bi_zd, Nat.not_lt_zero, hi, e3, hd]
      · show sm_up g 57 m (i3 (dat T P m)) r k = G r k
        rw [sm_up_ne (Or.inl h)]
        exact h1 r k h
      · show dat T P m = _
        rw [if_neg (by omega)]
        rfl
      · show sm_up g 57 m (i3 (dat T P m)) 57 j = _
        by_cases q : j = m
        · subst q
          rw [sm_up_same, if_pos (by omega)]
        · rw [sm_up_ne (Or.inr q), h3 j hj]
          by_cases q2 : j < m
          · rw [if_pos q2, if_pos (by omega)]
          · rw [if_neg q2, if_neg (by omega)]
    · rintro ⟨a, g⟩ ⟨h1, h2, h3⟩
      refine ⟨g, ?_, h1, fun m hm => ?_⟩
      · show hD (d + 1) 79 65 [.ref 54, .null, .int (i3 a), .int (i3 301)] 342 (RR V) x g L = _
        rw [h_79_65]
        simp (disch := omega) only [i3_add, i3_mul, i3_sub, i3_m1, i3_lt, i3_le, i3_eq, m1_lt, lt_m1, m1_le, le_m1, i3_nm1, m1_ni3, i3_cl, i3_in, i3_or, i3_and, i3_xor, i3_shl, i3_shr, sh_tb, tb_eq0, gd_tt, aI_o, aV_o, aL_o, aR_o, zd_0, zd_1, if_true, if_false, ite_self, eq_self, Bool.true_eq_false, Bool.false_eq_true, bi_0, bi_1, bi_zd, Nat.not_lt_zero, Nat.lt_irrefl]
      · have := h3 m hm
        rw [if_pos hm] at this
        exact this
