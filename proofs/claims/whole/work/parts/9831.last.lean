/-! what the drawn night is asked -/
theorem s_304 {d x d0 x0 c : Nat} {V : pV} {L L0 : sm_L} {T : pT} {K : Nat} {H W : Nat → pT} {r : Int32} {G g : sm_G} (hS : IvS V G T K c H W) (h17 : G 1 17 = i3 0) (hok : hOk G T (H c) K) (hg : nIn g T (H c) K W) (h58 : ∀ m, m < 301 → G 58 m = i3 (rmB T (fun k => slp T (H c) (fun k => k) (drw T (H c) K r).1 K k m))) :
    ∃ G' g' n, n < 16 ∧ sm_cv0 (d + 12) 21 342 (RR V) [.ref 1, .ref 58, .int (i3 0)] (x, G, L) = oI (i3 n) x G' L ∧ sm_cv0 (d0 + 8) 304 342 (RR V) [.ref 156, .int r] (x0, g, L0) = oI (i3 n) x0 g' L0 ∧ (∀ r k, ¬ (84 ≤ r ∧ r < 105) → G' r k = G r k) ∧ (∀ r k, ¬ (306 ≤ r ∧ r ≤ 330) → ¬ (r = 156 ∧ (k = 41 ∨ k = 56 ∨ k = 57)) → g' r k = g r k) ∧ (∀ k, k < 8 → g' 306 k = i3 ((drw T (H c) K r).1 k)) ∧ ∀ m, m < 301 → g' 307 m = i3 (rmB T (fun k => slp T (H c) (fun k => k) (drw T (H c) K r).1 K k m)) := by
  obtain ⟨g1, k1, k2, k3, k4, k5⟩ := s_304d (d := d0 + 5) (x := x0) (L := L0) (V := V) (r := r) hg.1 hS.T hS.P hS.K8 hg.2.1
  have hg1 : nIn g1 T (H c) K W := ⟨hg.1.keep hS.T hS.P (fun r k q => k2 r k (by unfold inM at q; omega) (by unfold inM at q; omega) (by unfold inM at q; omega)), fun k hk => by rw [k2 _ _ (by omega) (by omega) (by omega)]; exact hg.2.1 k hk, fun e he => (hg.2.2 e he).keep he (fun r k q => k2 r k (by omega) (by omega) (by omega))⟩
  obtain ⟨G', g', n, n1, n2, n3, n4, n5⟩ := s_21 (d := d) (x := x) (L := L) (d' := d0) (x' := x0) (U := V) (L' := L0) (r4 := 58) (ex := 0) (tt := fun m => rmB T (fun k => slp T (H c) (fun k => k) (drw T (H c) K r).1 K k m)) (t0 := fun m => rmB T (fun k => slp T (H c) (fun k => k) (drw T (H c) K r).1 K k m)) hS h17 hok hg1 (Or.inr rfl) (fun j hj => ⟨k5 j hj, Nat.lt_of_lt_of_le (rmB_lt T hS.T _) (by decide), h58 j hj, Nat.or_zero _⟩)
  refine ⟨G', g', n, n1, n2, ?_, n4, fun r k a1 a2 => ?_, fun k hk => ?_, fun m hm => ?_⟩
  · have n3' : sm_cv0 (d0 + 7) 264 342 (RR V) [.ref 156] (x0, g1, L0) = oI (i3 n) x0 g' L0 := n3
    have k1' : sm_cv0 (d0 + 8) 304 342 (RR V) [.ref 156, .int r] (x0, g, L0) = _ := k1
    rw [k1']
    show sm_aI (sm_cv0 (d0 + 7) 264 342 (RR V) [.ref 156] (x0, g1, L0)) _ oX = _
    rw [n3', aI_o]
  · rw [n5 r k (by omega) (by omega)]
    exact k2 r k (by omega) (by omega) (by omega)
  · rw [n5 _ _ (by omega) (by omega)]; exact k3 k hk
  · rw [n5 _ _ (by omega) (by omega)]; exact k5 m hm
/-- how many of n -/
def cntb (f : Nat → Bool) : Nat → Nat
  | 0 => 0
  | n + 1 => cntb f n + (if f n = true then 1 else 0)
theorem pc_bs (f : Nat → Bool) (n : Nat) : ∀ m, pc (bs f n) m = cntb f (if m ≤ n then m else n)
  | 0 => by rw [if_pos (Nat.zero_le _)]; rfl
  | m + 1 => by
    show pc (bs f n) m + tb (bs f n) m = _
    rw [pc_bs f n m]
    unfold tb
    rw [bs_tb]
    by_cases q : m < n
    · rw [decide_eq_true q, Bool.true_and, if_pos (by omega : m ≤ n), if_pos (by omega : m + 1 ≤ n)]
      rfl
    · rw [decide_eq_false q, Bool.false_and, if_neg (by omega : ¬ m + 1 ≤ n)]
      by_cases q2 : m ≤ n
      · rw [if_pos q2, show m = n by omega]; rfl
      · rw [if_neg q2]; rfl
theorem cnt_n (f : Nat → Bool) : ∀ n, cntb (fun k => !f k) n + cntb f n = n
  | 0 => rfl
  | n + 1 => by
    have := cnt_n f n
    unfold cntb
    cases f n <;> simp <;> omega
theorem l_303 {d x n : Nat} {V : pV} {L : sm_L} {T P : pT} {K : Nat} {G : sm_G} {y : Int32} {e f : Nat → Nat} (hm : mH G T P K) (hT : okT T) (he : ∀ k, k < 8 → G 306 k = i3 (e k) ∧ e k ≤ 1000) (hf : ∀ m, m < 301 → G 307 m = i3 (f m) ∧ f m < 1024) : hD d 303 42 [.ref 156, .null, .int y, .int (i3 n), .int (i3 0), .int (i3 0), .null] 342 (RR V) x G L = if y = i3 0 then oI (i3 n) x G L else if y = i3 1 then oI (i3 (lst f)) x G L else oI (i3 (cntb (fun k => decide (e k = 1000)) (sl T))) x G L := by
  have hB := hT.gb
  have e1 := loop0 (H := fun m a => hD d 303 45 [.ref 156, .null, .int y, .int (i3 n), .int (i3 a), .int (i3 0), .int (i3 m)] 342 (RR V) x G L) (out := fun a => hD d 303 83 [.ref 156, .null, .int y, .int (i3 n), .int (i3 a), .int (i3 0), .int (i3 0)] 342 (RR V) x G L) (N := 301) (step := fun m a => if f m = 0 then a else m + 1) ?_ ?_ 0
  · have key : ∀ k, k ≤ sl T → hD d 303 83 [.ref 156, .null, .int y, .int (i3 n), .int (i3 (lst f)), .int (i3 0), .int (i3 0)] 342 (RR V) x G L = hD d 303 83 [.ref 156, .null, .int y, .int (i3 n), .int (i3 (lst f)), .int (i3 (cntb (fun k => decide (e k = 1000)) k)), .int (i3 k)] 342 (RR V) x G L := by
      intro k
      induction k with
      | zero => intro _; rfl
      | succ k ih =>
        intro hk
        obtain ⟨h1, h2⟩ := he k (by omega)
        rw [ih (by omega), h_303_83, hm.gsl, if_pos (show i3 k < i3 (sl T) by rw [i3_lt (by omega) (by omega)]; omega), i3_in (by omega) (by omega), gd_tt, i3_cl (by omega), h1, i3_add, i3_add, i3_add]
        show _ = hD d 303 83 [.ref 156, .null, .int y, .int (i3 n), .int (i3 (lst f)), .int (i3 (cntb (fun k => decide (e k = 1000)) k + (if decide (e k = 1000) = true then 1 else 0))), .int (i3 (k + 1))] 342 (RR V) x G L
        by_cases q : e k = 1000
        · rw [if_pos (by rw [q]), if_pos (decide_eq_true q)]
        · rw [if_neg (by rw [i3_eq (by omega) (by omega)]; exact q), if_neg (by rw [decide_eq_false q]; decide)]
    rw [h_303_42]
    have e1' : hD d 303 45 [.ref 156, .null, .int y, .int (i3 n), .int (i3 0), .int (i3 0), .int (i3 0)] 342 (RR V) x G L = hD d 303 83 [.ref 156, .null, .int y, .int (i3 n), .int (i3 (lst f)), .int (i3 0), .int (i3 0)] 342 (RR V) x G L := e1
    rw [e1', key (sl T) (Nat.le_refl _), h_303_83, hm.gsl, if_neg (show ¬ i3 (sl T) < i3 (sl T) by rw [i3_lt (by omega) (by omega)]; omega)]
  · intro m a hm3
    obtain ⟨h1, h2⟩ := hf m hm3
    rw [h_303_45, if_pos (show i3 m < i3 301 by rw [i3_lt (by omega) (by omega)]; omega), i3_in (by omega) hm3, gd_tt, i3_cl (by omega), h1, i3_add]
    by_cases q : f m = 0
    · rw [if_pos (by rw [q]), if_pos q]
    · rw [if_neg (by rw [i3_eq (by omega) (by omega)]; exact q), if_neg q]
  · intro a
    rw [h_303_45, if_neg (show ¬ i3 301 < i3 301 by decide)]
