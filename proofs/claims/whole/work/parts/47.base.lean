/-- rooms behind doors of these that are open -/
def bhi (T : pT) (rooms open_ a : Nat) : Nat := itr (fun d a => if open_.testBit d = false then a else (a ||| tb rooms (dA T d) <<< dB T d) ||| tb rooms (dB T d) <<< dA T d) 0 (dn T) a
theorem s_119 {d x : Nat} {V : pV} {G : sm_G} {L : sm_L} {s rooms open_ : Nat} {T : pT} (hs : pS s) (hc : cS G s T) (hT : okT T) (hr : rooms < 1024) (ho : open_ < 1024) : sm_cv0 (d + 1) 119 342 (RR V) [.ref s, .int (i3 rooms), .int (i3 open_)] (x, G, L) = oI (i3 (bhi T rooms open_ 0)) x G L := by
  have hB := hT.gb
  rw [m_119 hs]
  refine loop0 (H := fun i a => hD d 119 5 [.ref s, .int (i3 rooms), .int (i3 open_), .int (i3 a), .int (i3 i)] 342 (RR V) x G L) (out := fun a => oI (i3 a) x G L) ?_ ?_ 0
  · intro i a hi
    have h1 := hT.gdr i hi
    rw [h_119_5 hs, hc.gdn]
    cases q : open_.testBit i
    · simp (disch := omega) only [i3_add, i3_mul, i3_sub, i3_m1, i3_lt, i3_le, i3_eq, m1_lt, lt_m1, m1_le, le_m1, i3_nm1, m1_ni3, i3_cl, i3_in, i3_or, i3_and, i3_xor, i3_shl, i3_shr, sh_tb, tb_eq0, gd_tt, aI_o, aV_o, aL_o, aR_o, zd_0, zd_1, if_true, if_false, ite_self, eq_self, Bool.true_eq_false, Bool.false_eq_true, bi_0, bi_1, bi_zd, Nat.not_lt_zero, hc.gdA, hc.gdB, q, hi, h_119_70 hs]
    · simp (disch := omega) only [i3_add, i3_mul, i3_sub, i3_m1, i3_lt, i3_le, i3_eq, m1_lt, lt_m1, m1_le, le_m1, i3_nm1, m1_ni3, i3_cl, i3_in, i3_or, i3_and, i3_xor, i3_shl, i3_shr, sh_tb, tb_eq0, gd_tt, aI_o, aV_o, aL_o, aR_o, zd_0, zd_1, if_true, if_false, ite_self, eq_self, Bool.true_eq_false, Bool.false_eq_true, bi_0, bi_1, bi_zd, Nat.not_lt_zero, hc.gdA, hc.gdB, q, hi, h_119_70 hs]
  · intro a
    rw [h_119_5 hs, hc.gdn]
    simp (disch := omega) only [i3_add, i3_mul, i3_sub, i3_m1, i3_lt, i3_le, i3_eq, m1_lt, lt_m1, m1_le, le_m1, i3_nm1, m1_ni3, i3_cl, i3_in, i3_or, i3_and, i3_xor, i3_shl, i3_shr, sh_tb, tb_eq0, gd_tt, aI_o, aV_o, aL_o, aR_o, zd_0, zd_1, if_true, if_false, ite_self, eq_self, Bool.true_eq_false, Bool.false_eq_true, bi_0, bi_1, bi_zd, Nat.not_lt_zero, Nat.lt_irrefl]
def sorts (T : pT) (e : Nat) : Nat := itr (fun k a => a ||| tb (tu T k) e <<< k) 0 6 0
theorem okT.tu1 {T : pT} (h : okT T) : ∀ k, k < 6 → tu T k < 1024 := fun k hk => Nat.lt_of_lt_of_le (h.gtu k hk) (show 2 ^ dn T ≤ 2 ^ 10 from Nat.pow_le_pow_right (by decide) h.gb.2.1)
theorem s_131 {d x : Nat} {V : pV} {G : sm_G} {L : sm_L} {s e : Nat} {T : pT} (hs : pS s) (hc : cS G s T) (hT : okT T) (he : e < 10) : sm_cv0 (d + 1) 131 342 (RR V) [.ref s, .int (i3 e)] (x, G, L) = oI (i3 (sorts T e)) x G L := by
  rw [m_131 hs]
  refine loop0 (H := fun i a => hD d 131 4 [.ref s, .int (i3 e), .int (i3 a), .int (i3 i)] 342 (RR V) x G L) (out := fun a => oI (i3 a) x G L) (N := 6) ?_ ?_ 0
  · intro i a hi
    have h1 := hT.tu1 i hi
    rw [h_131_4 hs]
    simp (disch := omega) only [i3_add, i3_mul, i3_sub, i3_m1, i3_lt, i3_le, i3_eq, m1_lt, lt_m1, m1_le, le_m1, i3_nm1, m1_ni3, i3_cl, i3_in, i3_or, i3_and, i3_xor, i3_shl, i3_shr, sh_tb, tb_eq0, gd_tt, aI_o, aV_o, aL_o, aR_o, zd_0, zd_1, if_true, if_false, ite_self, eq_self, Bool.true_eq_false, Bool.false_eq_true, bi_0, bi_1, bi_zd, Nat.not_lt_zero, hc.gtu, hi]
  · intro a
    rw [h_131_4 hs]
    simp (disch := omega) only [i3_add, i3_mul, i3_sub, i3_m1, i3_lt, i3_le, i3_eq, m1_lt, lt_m1, m1_le, le_m1, i3_nm1, m1_ni3, i3_cl, i3_in, i3_or, i3_and, i3_xor, i3_shl, i3_shr, sh_tb, tb_eq0, gd_tt, aI_o, aV_o, aL_o, aR_o, zd_0, zd_1, if_true, if_false, ite_self, eq_self, Bool.true_eq_false, Bool.false_eq_true, bi_0, bi_1, bi_zd, Nat.not_lt_zero, Nat.lt_irrefl]
/-- the doors behind noises of these sorts -/
def dby (T : pT) (set : Nat) : Nat := itr (fun k a => if set.testBit k = false then a else a ^^^ tu T k) 0 6 (fo T)
theorem s_113 {d x : Nat} {V : pV} {G : sm_G} {L : sm_L} {s set : Nat} {T : pT} (hs : pS s) (hc : cS G s T) (h : set < 1024) : sm_cv0 (d + 1) 113 342 (RR V) [.ref s, .int (i3 set)] (x, G, L) = oI (i3 (dby T set)) x G L := by
  rw [m_113 hs, hc.gfo]
  refine loop0 (H := fun i a => hD d 113 7 [.ref s, .int (i3 set), .int (i3 a), .int (i3 i)] 342 (RR V) x G L) (out := fun a => oI (i3 a) x G L) (N := 6) ?_ ?_ _
  · intro i a hi
    rw [h_113_7 hs]
    cases q : set.testBit i
    · simp (disch := omega) only [i3_add, i3_mul, i3_sub, i3_m1, i3_lt, i3_le, i3_eq, m1_lt, lt_m1, m1_le, le_m1, i3_nm1, m1_ni3, i3_cl, i3_in, i3_or, i3_and, i3_xor, i3_shl, i3_shr, sh_tb, tb_eq0, gd_tt, aI_o, aV_o, aL_o, aR_o, zd_0, zd_1, if_true, if_false, ite_self, eq_self, Bool.true_eq_false, Bool.false_eq_true, bi_0, bi_1, bi_zd, Nat.not_lt_zero, hc.gtu, q, hi]
    · simp (disch := omega) only [i3_add, i3_mul, i3_sub, i3_m1, i3_lt, i3_le, i3_eq, m1_lt, lt_m1, m1_le, le_m1, i3_nm1, m1_ni3, i3_cl, i3_in, i3_or, i3_and, i3_xor, i3_shl, i3_shr, sh_tb, tb_eq0, gd_tt, aI_o, aV_o, aL_o, aR_o, zd_0, zd_1, if_true, if_false, ite_self, eq_self, Bool.true_eq_false, Bool.false_eq_true, bi_0, bi_1, bi_zd, Nat.not_lt_zero, hc.gtu, q, hi]
  · intro a
    rw [h_113_7 hs]
    simp (disch := omega) only [i3_add, i3_mul, i3_sub, i3_m1, i3_lt, i3_le, i3_eq, m1_lt, lt_m1, m1_le, le_m1, i3_nm1, m1_ni3, i3_cl, i3_in, i3_or, i3_and, i3_xor, i3_shl, i3_shr, sh_tb, tb_eq0, gd_tt, aI_o, aV_o, aL_o, aR_o, zd_0, zd_1, if_true, if_false, ite_self, eq_self, Bool.true_eq_false, Bool.false_eq_true, bi_0, bi_1, bi_zd, Nat.not_lt_zero, Nat.lt_irrefl]
/-- sorts as a row of digits -/
def dgt (set : Nat) : Nat := itr (fun k a => if set.testBit k = false then a else a * 10 + k) 0 6 0
theorem s_115 {d x : Nat} {V : pV} {G : sm_G} {L : sm_L} {set : Nat} (h : set < 1024) : sm_cv0 (d + 1) 115 342 (RR V) [.int (i3 set)] (x, G, L) = oI (i3 (dgt set)) x G L := by
  rw [m_115]
  refine loop0 (H := fun i a => hD d 115 4 [.int (i3 set), .int (i3 a), .int (i3 i)] 342 (RR V) x G L) (out := fun a => oI (i3 a) x G L) (N := 6) ?_ ?_ _
  · intro i a hi
    rw [h_115_4]
    cases q : set.testBit i
    · simp (disch := omega) only [i3_add, i3_mul, i3_sub, i3_m1, i3_lt, i3_le, i3_eq, m1_lt, lt_m1, m1_le, le_m1, i3_nm1, m1_ni3, i3_cl, i3_in, i3_or, i3_and, i3_xor, i3_shl, i3_shr, sh_tb, tb_eq0, gd_tt, aI_o, aV_o, aL_o, aR_o, zd_0, zd_1, if_true, if_false, ite_self, eq_self, Bool.true_eq_false, Bool.false_eq_true, bi_0, bi_1, bi_zd, Nat.not_lt_zero, q, hi]
    · simp (disch := omega) only [i3_add, i3_mul, i3_sub, i3_m1, i3_lt, i3_le, i3_eq, m1_lt, lt_m1, m1_le, le_m1, i3_nm1, m1_ni3, i3_cl, i3_in, i3_or, i3_and, i3_xor, i3_shl, i3_shr, sh_tb, tb_eq0, gd_tt, aI_o, aV_o, aL_o, aR_o, zd_0, zd_1, if_true, if_false, ite_self, eq_self, Bool.true_eq_false, Bool.false_eq_true, bi_0, bi_1, bi_zd, Nat.not_lt_zero, q, hi]
  · intro a
    rw [h_115_4]
    simp (disch := omega) only [i3_add, i3_mul, i3_sub, i3_m1, i3_lt, i3_le, i3_eq, m1_lt, lt_m1, m1_le, le_m1, i3_nm1, m1_ni3, i3_cl, i3_in, i3_or, i3_and, i3_xor, i3_shl, i3_shr, sh_tb, tb_eq0, gd_tt, aI_o, aV_o, aL_o, aR_o, zd_0, zd_1, if_true, if_false, ite_self, eq_self, Bool.true_eq_false, Bool.false_eq_true, bi_0, bi_1, bi_zd, Nat.not_lt_zero, Nat.lt_irrefl]
/-! the model's -/
theorem s_218 {d x : Nat} {V : pV} {G : sm_G} {L : sm_L} {v a b : Int32} : sm_cv0 (d + 1) 218 342 (RR V) [.int v, .int a, .int b] (x, G, L) = oI (if a ≤ v ∧ v ≤ b then i3 1 else i3 0) x G L := by
  rw [m_218]
  by_cases h : v < a
  · rw [if_pos h, if_neg (fun q => absurd h (Int32.not_lt.mpr q.1))]
  · rw [if_neg h]
    by_cases h2 : v ≤ b
    · rw [if_pos h2, if_pos ⟨Int32.not_lt.mp h, h2⟩]
    · rw [if_neg h2, if_neg (fun q => h2 q.2)]
theorem fo_it {T : pT} (hT : okT T) : itr (fun d a => a ||| dO T d <<< d) 0 (dn T) 0 = fo T := by
  unfold fo
  rw [← bs_itr]
  have key : ∀ n, n ≤ dn T → itr (fun d a => a ||| dO T d <<< d) 0 n 0 = itr (fun i a => if decide (dO T i = 1) then a ||| 1 <<< i else a) 0 n 0 := by
    intro n
    induction n with
    | zero => intro _; rfl
    | succ n ih =>
      intro hn
      rw [itr_succ, itr_succ, ih (by omega), Nat.zero_add]
      have := (hT.gdr n (by omega)).2.2
      by_cases h : dO T n = 1
      · simp [h]
      · have h0 : dO T n = 0 := by omega
        simp [h0]
  exact key _ (Nat.le_refl _)
theorem s_260 {d x : Nat} {V : pV} {G : sm_G} {L : sm_L} {T P : pT} {K : Nat} (hm : mH G T P K) (hT : okT T) : sm_cv0 (d + 1) 260 342 (RR V) [.ref 156] (x, G, L) = oI (i3 (fo T)) x G L := by
  have hB := hT.gb
  rw [m_260, ← fo_it hT]
  refine loop0 (H := fun i a => hD d 260 4 [.ref 156, .int (i3 a), .int (i3 i)] 342 (RR V) x G L) (out := fun a => oI (i3 a) x G L) ?_ ?_ _
  · intro i a hi
    rw [h_260_4, hm.gdn]
    simp (disch := omega) only [i3_add, i3_mul, i3_sub, i3_m1, i3_lt, i3_le, i3_eq, m1_lt, lt_m1, m1_le, le_m1, i3_nm1, m1_ni3, i3_cl, i3_in, i3_or, i3_and, i3_xor, i3_shl, i3_shr, sh_tb, tb_eq0, gd_tt, aI_o, aV_o, aL_o, aR_o, zd_0, zd_1, if_true, if_false, ite_self, eq_self, Bool.true_eq_false, Bool.false_eq_true, bi_0, bi_1, bi_zd, Nat.not_lt_zero, rr_194, ldr_194, hm.gdO, hi]
  · intro a
    rw [h_260_4, hm.gdn]
    simp (disch := omega) only [i3_add, i3_mul, i3_sub, i3_m1, i3_lt, i3_le, i3_eq, m1_lt, lt_m1, m1_le, le_m1, i3_nm1, m1_ni3, i3_cl, i3_in, i3_or, i3_and, i3_xor, i3_shl, i3_shr, sh_tb, tb_eq0, gd_tt, aI_o, aV_o, aL_o, aR_o, zd_0, zd_1, if_true, if_false, ite_self, eq_self, Bool.true_eq_false, Bool.false_eq_true, bi_0, bi_1, bi_zd, Nat.not_lt_zero, Nat.lt_irrefl]
/-- the doors behind a minute's noises -/
def nx (T P : pT) (m a : Nat) : Nat := itr (fun i a => if nm P i = m then a ^^^ tu T (ns P i) else a) 0 (nn P) a
theorem s_261 {d x : Nat} {V : pV} {G : sm_G} {L : sm_L} {T P : pT} {K m a : Nat} (hm : mH G T P K) (hT : okT T) (hP : okP T P) (hmm : m < 400) : sm_cv0 (d + 1) 261 342 (RR V) [.ref 156, .int (i3 a), .int (i3 m)] (x, G, L) = oI (i3 (nx T P m a)) x G L := by
  have hB := hP.gb
  rw [m_261]
  refine loop0 (H := fun i a => hD d 261 5 [.ref 156, .null, .int (i3 m), .int (i3 a), .int (i3 i)] 342 (RR V) x G L) (out := fun a => oI (i3 a) x G L) ?_ ?_ _
  · intro i a hi
    have h1 := hP.gnz i hi
    rw [h_261_5, hm.gnn]
    by_cases q : nm P i = m
    · simp (disch := omega) only [i3_add, i3_mul, i3_sub, i3_m1, i3_lt, i3_le, i3_eq, m1_lt, lt_m1, m1_le, le_m1, i3_nm1, m1_ni3, i3_cl, i3_in, i3_or, i3_and, i3_xor, i3_shl, i3_shr, sh_tb, tb_eq0, gd_tt, aI_o, aV_o, aL_o, aR_o, zd_0, zd_1, if_true, if_false, ite_self, eq_self, Bool.true_eq_false, Bool.false_eq_true, bi_0, bi_1, bi_zd, Nat.not_lt_zero, rr_218, ldr_218, hm.gnm, hm.gns, hm.gtu, hi, q]
    · simp (disch := omega) only [i3_add, i3_mul, i3_sub, i3_m1, i3_lt, i3_le, i3_eq, m1_lt, lt_m1, m1_le, le_m1, i3_nm1, m1_ni3, i3_cl, i3_in, i3_or, i3_and, i3_xor, i3_shl, i3_shr, sh_tb, tb_eq0, gd_tt, aI_o, aV_o, aL_o, aR_o, zd_0, zd_1, if_true, if_false, ite_self, eq_self, Bool.true_eq_false, Bool.false_eq_true, bi_0, bi_1, bi_zd, Nat.not_lt_zero, rr_218, ldr_218, hm.gnm, hm.gns, hm.gtu, hi, q, Nat.xor_zero]
  · intro a
    rw [h_261_5, hm.gnn]
    simp (disch := omega) only [i3_add, i3_mul, i3_sub, i3_m1, i3_lt, i3_le, i3_eq, m1_lt, lt_m1, m1_le, le_m1, i3_nm1, m1_ni3, i3_cl, i3_in, i3_or, i3_and, i3_xor, i3_shl, i3_shr, sh_tb, tb_eq0, gd_tt, aI_o, aV_o, aL_o, aR_o, zd_0, zd_1, if_true, if_false, ite_self, eq_self, Bool.true_eq_false, Bool.false_eq_true, bi_0, bi_1, bi_zd, Nat.not_lt_zero, Nat.lt_irrefl]
/-- whether one sleeps: w his place in the round, e his drawn end -/
def slp (T P : pT) (w e : Nat → Nat) (K k m : Nat) : Bool := K.testBit k || (decide (fr P k ≤ m) && decide (m < un P k) && (decide (mk T = 0) || decide (m + 1 < mk T + w k)) && decide (m < e k))
theorem s_255 {d x : Nat} {V : pV} {G : sm_G} {L : sm_L} {T P : pT} {K K0 k m : Nat} {w e : Nat → Nat} (hm : mH G T P K0) (hT : okT T) (hP : okP T P) (h41 : G 156 41 = i3 K) (hK : K < 1024) (hw : ∀ k, k < sl T → G 305 k = i3 (w k) ∧ w k < 8) (he : ∀ k, k < sl T → G 306 k = i3 (e k) ∧ e k ≤ 1000) (hk : k < sl T) (hmm : m < 400) : sm_cv0 (d + 1) 255 342 (RR V) [.ref 156, .int (i3 k), .int (i3 m)] (x, G, L) = oI (bi (slp T P w e K k m)) x G L := by
  have hB := hT.gb
  have h1 := hP.gsp k hk
  obtain ⟨hw1, hw2⟩ := hw k hk
  obtain ⟨he1, he2⟩ := he k hk
  have hmk := hm.gmk
  rw [m_255, h41]
  unfold slp bi
  cases q1 : K.testBit k
  · by_cases q2 : m < fr P k
    · have : ¬ fr P k ≤ m := by omega
      simp (disch := omega) only [i3_add, i3_mul, i3_sub, i3_m1, i3_lt, i3_le, i3_eq, m1_lt, lt_m1, m1_le, le_m1, i3_nm1, m1_ni3, i3_cl, i3_in, i3_or, i3_and, i3_xor, i3_shl, i3_shr, sh_tb, tb_eq0, gd_tt, aI_o, aV_o, aL_o, aR_o, zd_0, zd_1, if_true, if_false, ite_self, eq_self, Bool.true_eq_false, Bool.false_eq_true, bi_0, bi_1, bi_zd, Nat.not_lt_zero, tb_eq1, rr_174, ldr_174, hm.gfr, hm.gun, q1, q2, this, decide_false, Bool.false_and, Bool.or_false]
    · have q2' : fr P k ≤ m := by omega
      by_cases q3 : m < un P k
      · by_cases q4 : mk T = 0
        · have e5 : G 160 5 = m1 := by rw [hmk, mi_0 q4]
          by_cases q5 : m < e k
          · simp (disch := omega) only [i3_add, i3_mul, i3_sub, i3_m1, i3_lt, i3_le, i3_eq, m1_lt, lt_m1, m1_le, le_m1, i3_nm1, m1_ni3, i3_cl, i3_in, i3_or, i3_and, i3_xor, i3_shl, i3_shr, sh_tb, tb_eq0, gd_tt, aI_o, aV_o, aL_o, aR_o, zd_0, zd_1, if_true, if_false, ite_self, eq_self, Bool.true_eq_false, Bool.false_eq_true, bi_0, bi_1, bi_zd, Nat.not_lt_zero, tb_eq1, rr_174, ldr_174, hm.gfr, hm.gun, q1, q2, q2', q3, q4, q5, e5, he1, decide_true, Bool.true_and, Bool.true_or, Bool.or_true]
          · simp (disch := omega) only [i3_add, i3_mul, i3_sub, i3_m1, i3_lt, i3_le, i3_eq, m1_lt, lt_m1, m1_le, le_m1, i3_nm1, m1_ni3, i3_cl, i3_in, i3_or, i3_and, i3_xor, i3_shl, i3_shr, sh_tb, tb_eq0, gd_tt, aI_o, aV_o, aL_o, aR_o, zd_0, zd_1, if_true, if_false, ite_self, eq_self, Bool.true_eq_false, Bool.false_eq_true, bi_0, bi_1, bi_zd, Nat.not_lt_zero, tb_eq1, rr_174, ldr_174, hm.gfr, hm.gun, q1, q2, q2', q3, q4, q5, e5, he1, decide_true, decide_false, Bool.and_false, Bool.false_or]
        · have e5 : G 160 5 = i3 (mk T - 1) := by rw [hmk, mi_s q4]
          by_cases q6 : m + 1 < mk T + w k
          · have q6' : m < mk T - 1 + w k := by omega
            by_cases q5 : m < e k
            · simp (disch := omega) only [i3_add, i3_mul, i3_sub, i3_m1, i3_lt, i3_le, i3_eq, m1_lt, lt_m1, m1_le, le_m1, i3_nm1, m1_ni3, i3_cl, i3_in, i3_or, i3_and, i3_xor, i3_shl, i3_shr, sh_tb, tb_eq0, gd_tt, aI_o, aV_o, aL_o, aR_o, zd_0, zd_1, if_true, if_false, ite_self, eq_self, Bool.true_eq_false, Bool.false_eq_true, bi_0, bi_1, bi_zd, Nat.not_lt_zero, tb_eq1, rr_174, ldr_174, hm.gfr, hm.gun, q1, q2, q2', q3, q4, q5, q6, q6', e5, hw1, he1, decide_true, decide_false, Bool.true_and, Bool.true_or, Bool.or_true]
            · simp (disch := omega) only [i3_add, i3_mul, i3_sub, i3_m1, i3_lt, i3_le, i3_eq, m1_lt, lt_m1, m1_le, le_m1, i3_nm1, m1_ni3, i3_cl, i3_in, i3_or, i3_and, i3_xor, i3_shl, i3_shr, sh_tb, tb_eq0, gd_tt, aI_o, aV_o, aL_o, aR_o, zd_0, zd_1, if_true, if_false, ite_self, eq_self, Bool.true_eq_false, Bool.false_eq_true, bi_0, bi_1, bi_zd, Nat.not_lt_zero, tb_eq1, rr_174, ldr_174, hm.gfr, hm.gun, q1, q2, q2', q3, q4, q5, q6, q6', e5, hw1, he1, decide_true, decide_false, Bool.and_false, Bool.false_or]
          · have q6' : ¬ m < mk T - 1 + w k := by omega
            simp (disch := omega) only [i3_add, i3_mul, i3_sub, i3_m1, i3_lt, i3_le, i3_eq, m1_lt, lt_m1, m1_le, le_m1, i3_nm1, m1_ni3, i3_cl, i3_in, i3_or, i3_and, i3_xor, i3_shl, i3_shr, sh_tb, tb_eq0, gd_tt, aI_o, aV_o, aL_o, aR_o, zd_0, zd_1, if_true, if_false, ite_self, eq_self, Bool.true_eq_false, Bool.false_eq_true, bi_0, bi_1, bi_zd, Nat.not_lt_zero, tb_eq1, rr_174, ldr_174, hm.gfr, hm.gun, q1, q2, q2', q3, q4, q6, q6', e5, hw1, decide_true, decide_false, Bool.and_false, Bool.false_or, Bool.false_and]
      · simp (disch := omega) only [i3_add, i3_mul, i3_sub, i3_m1, i3_lt, i3_le, i3_eq, m1_lt, lt_m1, m1_le, le_m1, i3_nm1, m1_ni3, i3_cl, i3_in, i3_or, i3_and, i3_xor, i3_shl, i3_shr, sh_tb, tb_eq0, gd_tt, aI_o, aV_o, aL_o, aR_o, zd_0, zd_1, if_true, if_false, ite_self, eq_self, Bool.true_eq_false, Bool.false_eq_true, bi_0, bi_1, bi_zd, Nat.not_lt_zero, tb_eq1, rr_174, ldr_174, hm.gfr, hm.gun, q1, q2, q2', q3, decide_true, decide_false, Bool.and_false, Bool.false_and, Bool.false_or]
  · simp (disch := omega) only [i3_add, i3_mul, i3_sub, i3_m1, i3_lt, i3_le, i3_eq, m1_lt, lt_m1, m1_le, le_m1, i3_nm1, m1_ni3, i3_cl, i3_in, i3_or, i3_and, i3_xor, i3_shl, i3_shr, sh_tb, tb_eq0, gd_tt, aI_o, aV_o, aL_o, aR_o, zd_0, zd_1, if_true, if_false, ite_self, eq_self, Bool.true_eq_false, Bool.false_eq_true, bi_0, bi_1, bi_zd, Nat.not_lt_zero, tb_eq1, q1, Bool.true_or]
theorem s_291 {d x : Nat} {V : pV} {G : sm_G} {L : sm_L} {a : Nat} (h : a < 1024) : sm_cv0 (d + 1) 291 342 (RR V) [.int (i3 a)] (x, G, L) = oI (i3 (pc a 10)) x G L := by
  rw [m_291]
  have e : pc a 10 = itr (fun k n => n + tb a k) 0 10 0 := rfl
  rw [e]
  refine loop0 (H := fun i n => hD d 291 4 [.int (i3 a), .int (i3 n), .int (i3 i)] 342 (RR V) x G L) (out := fun a => oI (i3 a) x G L) (N := 10) ?_ ?_ _
  · intro i n hi
    rw [h_291_4]
    simp (disch := omega) only [i3_add, i3_mul, i3_sub, i3_m1, i3_lt, i3_le, i3_eq, m1_lt, lt_m1, m1_le, le_m1, i3_nm1, m1_ni3, i3_cl, i3_in, i3_or, i3_and, i3_xor, i3_shl, i3_shr, sh_tb, tb_eq0, gd_tt, aI_o, aV_o, aL_o, aR_o, zd_0, zd_1, if_true, if_false, ite_self, eq_self, Bool.true_eq_false, Bool.false_eq_true, bi_0, bi_1, bi_zd, Nat.not_lt_zero, hi]
  · intro n
    rw [h_291_4]
    simp (disch := omega) only [i3_add, i3_mul, i3_sub, i3_m1, i3_lt, i3_le, i3_eq, m1_lt, lt_m1, m1_le, le_m1, i3_nm1, m1_ni3, i3_cl, i3_in, i3_or, i3_and, i3_xor, i3_shl, i3_shr, sh_tb, tb_eq0, gd_tt, aI_o, aV_o, aL_o, aR_o, zd_0, zd_1, if_true, if_false, ite_self, eq_self, Bool.true_eq_false, Bool.false_eq_true, bi_0, bi_1, bi_zd, Nat.not_lt_zero, Nat.lt_irrefl]
