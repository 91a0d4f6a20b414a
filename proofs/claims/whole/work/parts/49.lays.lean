/-! the model's rooms and doors by minutes, all -/
def inM (r k : Nat) : Prop := (r = 156 ∧ k = 37) ∨ r = 160 ∨ r = 162 ∨ r = 164 ∨ (175 ≤ r ∧ r < 183) ∨ (195 ≤ r ∧ r < 205) ∨ (219 ≤ r ∧ r < 231) ∨ (237 ≤ r ∧ r < 241)
theorem mH.keep {G G' : sm_G} {T P : pT} {K : Nat} (h : mH G T P K) (hT : okT T) (hP : okP T P) (hs : same G G' inM) : mH G' T P K := by
  have hB := hT.gb
  have hP1 := hP.gb
  obtain ⟨h1, h2, h3, h4, h5, h6, h7, h8, h9, h10, h11, h12, h13, h14, h15, h16, h17, h18, h19⟩ := h
  unfold same inM at hs
  refine ⟨?_, ?_, ?_, ?_, ?_, ?_, ?_, fun k hk => ?_, fun k hk => ?_, fun k hk => ?_, fun k hk => ?_, fun k hk => ?_, fun k hk => ?_, fun k hk => ?_, fun k hk => ?_, fun k hk => ?_, fun k hk => ?_, fun k hk => ?_, fun k hk => ?_⟩
  all_goals rw [hs _ _ (by omega)]
  all_goals first | assumption | (apply_assumption; assumption)
theorem same_up {G : sm_G} {r k : Nat} {v : Int32} {S : Nat → Nat → Prop} (h : ¬ S r k) : ∀ a j, S a j → sm_up G r k v a j = G a j := fun a j hs => sm_up_ne (by
  by_cases e : a = r
  · right
    intro z
    rw [e, z] at hs
    exact h hs
  · exact Or.inl e)
theorem s_258 {d x : Nat} {V : pV} {G : sm_G} {L : sm_L} {T P : pT} {K0 K : Nat} {w e : Nat → Nat} (hm : mH G T P K0) (hT : okT T) (hP : okP T P) (hK : K < 1024) (hw : ∀ k, k < sl T → G 305 k = i3 (w k) ∧ w k < 8) (he : ∀ k, k < sl T → G 306 k = i3 (e k) ∧ e k ≤ 1000) :
    sm_cv0 (d + 2) 258 342 (RR V) [.ref 156, .int (i3 K)] (x, G, L) = oV x (fill (sm_up G 156 41 (i3 K)) 307 301 (fun m => i3 (rmB T (fun k => slp T P w e K k m)))) L := by
  have hB := hT.gb
  rw [m_258]
  have key := (loopP (H := fun i (g : sm_G) => hD (d + 1) 258 7 [.ref 156, .null, .int (i3 i), .null, .null] 342 (RR V) x g L) (out := fun g => oV x g L) (N := 301) (step := fun i g => sm_up g 307 i (i3 (rmB T (fun k => slp T P w e K k i)))) (fun i g => g = fill (sm_up G 156 41 (i3 K)) 307 i (fun m => i3 (rmB T (fun k => slp T P w e K k m)))) ?_ ?_ 301 0 (sm_up G 156 41 (i3 K)) (by omega) (fill_0 _ 307 _).symm)
  · rw [key.1, key.2]
  · intro m g hi hg
    refine ⟨?_, by rw [hg]; exact fill_up _ 307 m (fun m => i3 (rmB T (fun k => slp T P w e K k m)))⟩
    have hgr : ∀ r k, r ≠ 307 → ¬ (r = 156 ∧ k = 41) → g r k = G r k := fun r k h1 h2 => by
      rw [hg, fill_ne h1, sm_up_ne (by omega)]
    have hm' : mH g T P K0 := hm.keep hT hP (fun r k h => hgr r k (by unfold inM at h; omega) (by unfold inM at h; omega))
    have h41 : g 156 41 = i3 K := by rw [hg, fill_ne (by decide), sm_up_same]
    have hw' : ∀ k, k < sl T → g 305 k = i3 (w k) ∧ w k < 8 := fun k hk => by rw [hgr 305 k (by decide) (by omega)]; exact hw k hk
    have he' : ∀ k, k < sl T → g 306 k = i3 (e k) ∧ e k ≤ 1000 := fun k hk => by rw [hgr 306 k (by decide) (by omega)]; exact he k hk
    rw [h_258_7]
    simp (disch := omega) only [i3_add, i3_mul, i3_sub, i3_m1, i3_lt, i3_le, i3_eq, m1_lt, lt_m1, m1_le, le_m1, i3_nm1, m1_ni3, i3_cl, i3_in, i3_or, i3_and, i3_xor, i3_shl, i3_shr, sh_tb, tb_eq0, gd_tt, aI_o, aV_o, aL_o, aR_o, zd_0, zd_1, if_true, if_false, ite_self, eq_self, Bool.true_eq_false, Bool.false_eq_true, bi_0, bi_1, bi_zd, Nat.not_lt_zero, hi]
    rw [← rmM_it hT (fun k => slp T P w e K k m)]
    refine loop0 (H := fun i a => hD (d + 1) 258 19 [.ref 156, .null, .int (i3 m), .int (i3 a), .int (i3 i)] 342 (RR V) x g L) (out := fun a => hD (d + 1) 258 7 [.ref 156, .null, .int (i3 (m + 1)), .null, .null] 342 (RR V) x (sm_up g 307 m (i3 a)) L) (N := sl T) ?_ ?_ 0
    · intro i a hi2
      have e255 := s_255 (d := d) (x := x) (L := L) (V := V) hm' hT hP h41 hK hw' he' hi2 (show m < 400 by omega)
      have htp := hm'.gtp i hi2
      have htp2 := hT.gtp i hi2
      rw [h_258_19, hm'.gsl, e255]
      cases q : slp T P w e K i m
      · simp (disch := omega) only [i3_add, i3_mul, i3_sub, i3_m1, i3_lt, i3_le, i3_eq, m1_lt, lt_m1, m1_le, le_m1, i3_nm1, m1_ni3, i3_cl, i3_in, i3_or, i3_and, i3_xor, i3_shl, i3_shr, sh_tb, tb_eq0, gd_tt, aI_o, aV_o, aL_o, aR_o, zd_0, zd_1, if_true, if_false, ite_self, eq_self, Bool.true_eq_false, Bool.false_eq_true, bi_0, bi_1, bi_zd, Nat.not_lt_zero, hi2, q]
      · by_cases q2 : tp T i = 0
        · simp (disch := omega) only [i3_add, i3_mul, i3_sub, i3_m1, i3_lt, i3_le, i3_eq, m1_lt, lt_m1, m1_le, le_m1, i3_nm1, m1_ni3, i3_cl, i3_in, i3_or, i3_and, i3_xor, i3_shl, i3_shr, sh_tb, tb_eq0, gd_tt, aI_o, aV_o, aL_o, aR_o, zd_0, zd_1, if_true, if_false, ite_self, eq_self, Bool.true_eq_false, Bool.false_eq_true, bi_0, bi_1, bi_zd, Nat.not_lt_zero, hi2, q, htp, mi_m1, q2, Nat.or_zero]
        · simp (disch := omega) only [i3_add, i3_mul, i3_sub, i3_m1, i3_lt, i3_le, i3_eq, m1_lt, lt_m1, m1_le, le_m1, i3_nm1, m1_ni3, i3_cl, i3_in, i3_or, i3_and, i3_xor, i3_shl, i3_shr, sh_tb, tb_eq0, gd_tt, aI_o, aV_o, aL_o, aR_o, zd_0, zd_1, if_true, if_false, ite_self, eq_self, Bool.true_eq_false, Bool.false_eq_true, bi_0, bi_1, bi_zd, Nat.not_lt_zero, hi2, q, htp, mi_m1, q2, mi_s]
    · intro a
      rw [h_258_19, hm'.gsl]
      simp (disch := omega) only [i3_add, i3_mul, i3_sub, i3_m1, i3_lt, i3_le, i3_eq, m1_lt, lt_m1, m1_le, le_m1, i3_nm1, m1_ni3, i3_cl, i3_in, i3_or, i3_and, i3_xor, i3_shl, i3_shr, sh_tb, tb_eq0, gd_tt, aI_o, aV_o, aL_o, aR_o, zd_0, zd_1, if_true, if_false, ite_self, eq_self, Bool.true_eq_false, Bool.false_eq_true, bi_0, bi_1, bi_zd, Nat.not_lt_zero, Nat.lt_irrefl]
  · intro g _
    rw [h_258_7]
    simp (disch := omega) only [i3_add, i3_mul, i3_sub, i3_m1, i3_lt, i3_le, i3_eq, m1_lt, lt_m1, m1_le, le_m1, i3_nm1, m1_ni3, i3_cl, i3_in, i3_or, i3_and, i3_xor, i3_shl, i3_shr, sh_tb, tb_eq0, gd_tt, aI_o, aV_o, aL_o, aR_o, zd_0, zd_1, if_true, if_false, ite_self, eq_self, Bool.true_eq_false, Bool.false_eq_true, bi_0, bi_1, bi_zd, Nat.not_lt_zero, Nat.lt_irrefl]
/-- the doors behind the noises told of all minutes till m -/
def dat (T P : pT) : Nat → Nat
  | 0 => nx T P 0 (fo T)
  | m + 1 => nx T P (m + 1) (dat T P m)
theorem s_259 {d x : Nat} {V : pV} {G : sm_G} {L : sm_L} {T P : pT} {K : Nat} (hm : mH G T P K) (hT : okT T) (hP : okP T P) : sm_cv0 (d + 2) 259 342 (RR V) [.ref 156] (x, G, L) = oV x (fill G 308 301 (fun m => i3 (dat T P m))) L := by
  rw [m_259, s_260 hm hT]
  simp only [aI_o]
  have key := (loopP (H := fun i (ag : Nat × sm_G) => hD (d + 1) 259 7 [.ref 156, .int (i3 ag.1), .int (i3 i)] 342 (RR V) x ag.2 L) (out := fun ag => oV x ag.2 L) (N := 301) (step := fun i ag => (nx T P i ag.1, sm_up ag.2 308 i (i3 (nx T P i ag.1)))) (fun i ag => ag.2 = fill G 308 i (fun m => i3 (dat T P m)) ∧ (ag.1 = if i = 0 then fo T else dat T P (i - 1))) ?_ ?_ 301 0 (fo T, G) (by omega) ⟨(fill_0 _ 308 _).symm, rfl⟩)
  · rw [key.1, key.2.1]
  · rintro m ⟨a, g⟩ hi ⟨hg, ha⟩
    have hg : g = fill G 308 m (fun m => i3 (dat T P m)) := hg
    have ha : a = if m = 0 then fo T else dat T P (m - 1) := ha
    have hd : nx T P m a = dat T P m := by
      rw [ha]
      cases m with
      | zero => rfl
      | succ m => rfl
    have hm' : mH g T P K := hm.keep hT hP (fun r k h => by rw [hg]; exact fill_ne (by unfold inM at h; omega))
    refine ⟨?_, ?_, ?_⟩
    · show hD (d + 1) 259 7 [.ref 156, .int (i3 a), .int (i3 m)] 342 (RR V) x g L = hD (d + 1) 259 7 [.ref 156, .int (i3 (nx T P m a)), .int (i3 (m + 1))] 342 (RR V) x (sm_up g 308 m (i3 (nx T P m a))) L
      rw [h_259_7, s_261 hm' hT hP (show m < 400 by omega)]
      simp (disch := omega) only [i3_add, i3_mul, i3_sub, i3_m1, i3_lt, i3_le, i3_eq, m1_lt, lt_m1, m1_le, le_m1, i3_nm1, m1_ni3, i3_cl, i3_in, i3_or, i3_and, i3_xor, i3_shl, i3_shr, sh_tb, tb_eq0, gd_tt, aI_o, aV_o, aL_o, aR_o, zd_0, zd_1, if_true, if_false, ite_self, eq_self, Bool.true_eq_false, Bool.false_eq_true, bi_0, bi_1, bi_zd, Nat.not_lt_zero, hi]
    · show sm_up g 308 m (i3 (nx T P m a)) = _
      rw [hd, hg]
      exact fill_up G 308 m (fun m => i3 (dat T P m))
    · show nx T P m a = _
      rw [hd, if_neg (by omega)]
      rfl
  · rintro ⟨a, g⟩ _
    show hD (d + 1) 259 7 [.ref 156, .int (i3 a), .int (i3 301)] 342 (RR V) x g L = _
    rw [h_259_7]
    simp (disch := omega) only [i3_add, i3_mul, i3_sub, i3_m1, i3_lt, i3_le, i3_eq, m1_lt, lt_m1, m1_le, le_m1, i3_nm1, m1_ni3, i3_cl, i3_in, i3_or, i3_and, i3_xor, i3_shl, i3_shr, sh_tb, tb_eq0, gd_tt, aI_o, aV_o, aL_o, aR_o, zd_0, zd_1, if_true, if_false, ite_self, eq_self, Bool.true_eq_false, Bool.false_eq_true, bi_0, bi_1, bi_zd, Nat.not_lt_zero, Nat.lt_irrefl]
