theorem s_9 {d x : Nat} {V : pV} {G : sm_G} {L : sm_L} {c : Nat} (h : c < 8) : sm_cv0 (d + 1) 9 342 (RR V) [.int (i3 (1 <<< c))] (x, G, L) = oI (i3 c) x G L := by
  rw [m_9]
  simp only [h_9_49, h_9_62]
  match c, h with
  | 0, _ => rw [if_pos (by decide +kernel)]; exact congrArg (fun v => oI v x G L) (by decide +kernel)
  | 1, _ | 2, _ | 3, _ | 4, _ | 5, _ | 6, _ | 7, _ =>
    rw [if_neg (by decide +kernel), if_pos (by decide +kernel), if_pos (by decide +kernel)]
    repeat (first | rw [if_pos (by decide +kernel)] | rw [if_neg (by decide +kernel)])
    exact congrArg (fun v => oI v x G L) (by decide +kernel)
/-- the class's walk -/
theorem l_161 {d x : Nat} {V : pV} {G : sm_G} {L : sm_L} {s : Nat} {T : pT} {t dm : Nat → Nat} {b last m2 : Nat} (hs : pS s) (hc : cS G s T) (hT : okT T) (hw : cW G t dm) (hl : last < 301) (h2 : m2 < last) (m : Nat) (hg : ∀ k, k ≤ last - m → G 62 (last - k) = i3 (gbk T t dm (1 <<< b) 0 last k)) :
    ∀ n i c, i + n = m2 → m ≤ i → c < 8 → (gB T t dm b last i).testBit c = true → hD (d + 2) 161 65 [.ref 61, .ref s, .ref 54, .null, .null, .null, .int (i3 m2), .null, .int (i3 (1 <<< c)), .int (i3 (i + 1))] 342 (RR V) x G L = oI (i3 (wlk T t dm (gB T t dm b last) n (i + 1) c)) x G L := by
  intro n
  induction n with
  | zero =>
    intro i c h3 h4 h5 h6
    have e9 := s_9 (d := d + 1) (x := x) (G := G) (L := L) (V := V) h5
    rw [h_161_65 hs]
    simp (disch := omega) only [i3_add, i3_mul, i3_sub, i3_m1, i3_lt, i3_le, i3_eq, m1_lt, lt_m1, m1_le, le_m1, i3_nm1, m1_ni3, i3_cl, i3_in, i3_or, i3_and, i3_xor, i3_shl, i3_shr, sh_tb, tb_eq0, gd_tt, aI_o, aV_o, aL_o, aR_o, zd_0, zd_1, if_true, if_false, ite_self, eq_self, Bool.true_eq_false, Bool.false_eq_true, bi_0, bi_1, bi_zd, Nat.not_lt_zero, show ¬ i + 1 ≤ m2 by omega, e9]
    rfl
  | succ n ih =>
    intro i c h3 h4 h5 h6
    obtain ⟨o1, o2, o3⟩ := one9 c h5
    obtain ⟨w1, w2, w3, w4⟩ := way_on (T := T) (dm := dm) (b := b) (c := c) (fun m hm => (hw m hm).2.2.1) hl (show i < last by omega) h6
    have e159 := s_159 (d := d) (x := x) (L := L) (V := V) (m := i + 1) hs hc hT hw (show (0 : Nat) < 256 by decide) o1 (by omega)
    simp only [Nat.or_zero] at e159
    have e62 := hg (last - (i + 1)) (by omega)
    rw [show last - (last - (i + 1)) = i + 1 by omega] at e62
    have e8 := s_8 (d := d + 1) (x := x) (L := L) (V := V) (G := G) w2 w1
    have ih := ih (i + 1) _ (by omega) (by omega) w3 w4
    rw [h_161_65 hs]
    have e62 : G 62 (i + 1) = i3 (gB T t dm b last (i + 1)) := e62
    unfold stp at ih
    simp (disch := omega) only [i3_add, i3_mul, i3_sub, i3_m1, i3_lt, i3_le, i3_eq, m1_lt, lt_m1, m1_le, le_m1, i3_nm1, m1_ni3, i3_cl, i3_in, i3_or, i3_and, i3_xor, i3_shl, i3_shr, sh_tb, tb_eq0, gd_tt, aI_o, aV_o, aL_o, aR_o, zd_0, zd_1, if_true, if_false, ite_self, eq_self, Bool.true_eq_false, Bool.false_eq_true, bi_0, bi_1, bi_zd, Nat.not_lt_zero, show i + 1 ≤ m2 by omega, e159, e62, e8, ih]
    rfl
