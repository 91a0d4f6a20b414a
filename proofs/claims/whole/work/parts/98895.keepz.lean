/-! the script stays as it is -/
def zz (G G0 : sm_G) : Prop := G 8190 = G0 8190 ∧ G 8191 = G0 8191
theorem zz_o {G : sm_G} : zz G G := ⟨rfl, rfl⟩
theorem zz_tr {G G1 G2 : sm_G} (h1 : zz G1 G) (h2 : zz G2 G1) : zz G2 G := ⟨h2.1.trans h1.1, h2.2.trans h1.2⟩
theorem zz_up {G G0 : sm_G} {r k : Nat} {v : Int32} (h : zz G G0) (hr : r ≤ 342) : zz (sm_up G r k v) G0 := ⟨(sm_up_row G r k v 8190 (by omega)).trans h.1, (sm_up_row G r k v 8191 (by omega)).trans h.2⟩
theorem zz_row {G G0 G' : sm_G} {r : Nat} (h : zz G G0) (hr : r ≤ 342) (f : ∀ a, a ≠ r → G' a = G a) : zz G' G0 := ⟨(f 8190 (by omega)).trans h.1, (f 8191 (by omega)).trans h.2⟩
theorem is_le {r n t : Nat} (h : sm_is r n t = true) : r ≤ n := by
  unfold sm_is at h
  rw [Bool.and_eq_true] at h
  exact Nat.le_of_ble_eq_true h.2
theorem K_mid : ∀ r, r < 403 → 342 < r → sm_K r = 63 := by decide +kernel
theorem kt_lt : sm_kt < 2 ^ 2418 := by decide +kernel
theorem K_far {r : Nat} (h : 403 ≤ r) : sm_K r = 0 := by
  have h1 : sm_kt < 2 ^ (6 * r) := Nat.lt_of_lt_of_le kt_lt (Nat.pow_le_pow_right (by decide) (by omega))
  have h2 : Nat.shiftRight sm_kt (6 * r) = 0 := (Nat.shiftRight_eq_div_pow sm_kt (6 * r)).trans (Nat.div_eq_of_lt h1)
  unfold sm_K
  show Nat.mod (Nat.shiftRight sm_kt (6 * r)) 64 = 0
  rw [h2]
  try rfl
theorem K_20 {r : Nat} (h : sm_K r = 20) : r ≤ 342 := by
  by_cases q : r ≤ 342
  · exact q
  · by_cases q2 : r < 403
    · rw [K_mid r q2 (by omega)] at h
      omega
    · rw [K_far (by omega)] at h
      omega
theorem K_next {n : Nat} (hn : n ≤ 342) (h : sm_K (n + 1) ≠ 63) : n + 1 ≤ 342 := by
  by_cases q : n + 1 ≤ 342
  · exact q
  · exact absurd (K_mid (n + 1) (by omega) (by omega)) h
section PRD
variable {β : Type} {A : Option β → Prop}
theorem pr_ite {P : Prop} [Decidable P] {a b : Option β} (h1 : A a) (h2 : A b) : A (if P then a else b) := by
  split
  · exact h1
  · exact h2
theorem pr_cond {c : Bool} {a b : Option β} (h1 : c = true → A a) (h2 : c = false → A b) : A (bif c then a else b) := by
  cases c
  · exact h2 rfl
  · exact h1 rfl
theorem pr_i1 {st : List Value} {f : Int32 → List Value → Option β} (hN : A none) (h : ∀ a r, A (f a r)) : A (sm_i1 st f) := by
  unfold sm_i1
  split
  · exact h _ _
  · exact hN
theorem pr_i2 {st : List Value} {f : Int32 → Int32 → List Value → Option β} (hN : A none) (h : ∀ a b r, A (f a b r)) : A (sm_i2 st f) := by
  unfold sm_i2
  split
  · exact h _ _ _
  · exact hN
theorem pr_l1 {st : List Value} {f : Int64 → List Value → Option β} (hN : A none) (h : ∀ a r, A (f a r)) : A (sm_l1 st f) := by
  unfold sm_l1
  split
  · exact h _ _
  · exact hN
theorem pr_l2 {st : List Value} {f : Int64 → Int64 → List Value → Option β} (hN : A none) (h : ∀ a b r, A (f a b r)) : A (sm_l2 st f) := by
  unfold sm_l2
  split
  · exact h _ _ _
  · exact hN
theorem pr_li {st : List Value} {f : Int64 → Int32 → List Value → Option β} (hN : A none) (h : ∀ a b r, A (f a b r)) : A (sm_li st f) := by
  unfold sm_li
  split
  · exact h _ _ _
  · exact hN
theorem pr_r1 {st : List Value} {f : Nat → List Value → Option β} (hN : A none) (h : ∀ a r, A (f a r)) : A (sm_r1 st f) := by
  unfold sm_r1
  split
  · exact h _ _
  · exact hN
theorem pr_ri {st : List Value} {f : Nat → Int32 → List Value → Option β} (hN : A none) (h : ∀ a b r, A (f a b r)) : A (sm_ri st f) := by
  unfold sm_ri
  split
  · exact h _ _ _
  · exact hN
theorem pr_rii {st : List Value} {f : Nat → Int32 → Int32 → List Value → Option β} (hN : A none) (h : ∀ a b c r, A (f a b c r)) : A (sm_rii st f) := by
  unfold sm_rii
  split
  · exact h _ _ _ _
  · exact hN
theorem pr_ril {st : List Value} {f : Nat → Int32 → Int64 → List Value → Option β} (hN : A none) (h : ∀ a b c r, A (f a b c r)) : A (sm_ril st f) := by
  unfold sm_ril
  split
  · exact h _ _ _ _
  · exact hN
theorem pr_rir {st : List Value} {f : Nat → Int32 → Nat → List Value → Option β} (hN : A none) (h : ∀ a b c r, A (f a b c r)) : A (sm_rir st f) := by
  unfold sm_rir
  split
  · exact h _ _ _ _
  · exact hN
theorem pr_sw {α : Type} {a : Int32} {d : Option β} {f : α → Option β} (h1 : A d) (h2 : ∀ t, A (f t)) : ∀ (l : List α) (z : Int), A (sm_sw a d z (l.map f))
  | [], _ => h1
  | t :: r, z => by
    show A (if a = Int32.ofInt z then f t else sm_sw a d (z + 1) (r.map f))
    exact pr_ite (h2 t) (pr_sw h1 h2 r (z + 1))
theorem pr_lsw {α : Type} {a : Int32} {d : Option β} {k : α → Int} {f : α → Option β} (h1 : A d) (h2 : ∀ t, A (f t)) : ∀ (l : List α), A (sm_lsw a d (l.map fun t => (k t, f t)))
  | [] => h1
  | t :: r => by
    show A (if a = Int32.ofInt (k t) then f t else sm_lsw a d (r.map fun t => (k t, f t)))
    exact pr_ite (h2 t) (pr_lsw h1 h2 r)
end PRD
def pz (G0 : sm_G) (o : Option (sm_Res × sm_S)) : Prop := ∀ r S, o = some (r, S) → S.1 ≤ 342 ∧ zz S.2.2.2.1 G0
theorem pz_n {G0 : sm_G} : pz G0 none := fun _ _ h => by cases h
def pd (G0 : sm_G) (o : Option (sm_Res × sm_D)) : Prop := ∀ r D, o = some (r, D) → zz D.2.1 G0
section PZ
variable {G0 : sm_G} {rt : sm_Res → Nat → sm_R → Nat → sm_G → sm_L → Option (sm_Res × sm_S)} {k : Nat → List Value → List Value → Nat → sm_R → Nat → sm_G → sm_L → Option (sm_Res × sm_S)} {hd : Nat → Nat → Nat} {cn : sm_CN} {cx : sm_CX}
theorem pz_aV {o : Option (sm_Res × sm_D)} {f : Nat → sm_G → sm_L → Option (sm_Res × sm_S)} {fx : Nat → Nat → sm_G → sm_L → Option (sm_Res × sm_S)} (h : pd G0 o) (h1 : ∀ x G L, zz G G0 → pz G0 (f x G L)) (h2 : ∀ e x G L, zz G G0 → pz G0 (fx e x G L)) : pz G0 (sm_aV o f fx) := by
  unfold sm_aV
  split
  · exact h1 _ _ _ (h _ _ rfl)
  · exact h2 _ _ _ _ (h _ _ rfl)
  · exact pz_n
theorem pz_aI {o : Option (sm_Res × sm_D)} {f : Int32 → Nat → sm_G → sm_L → Option (sm_Res × sm_S)} {fx : Nat → Nat → sm_G → sm_L → Option (sm_Res × sm_S)} (h : pd G0 o) (h1 : ∀ a x G L, zz G G0 → pz G0 (f a x G L)) (h2 : ∀ e x G L, zz G G0 → pz G0 (fx e x G L)) : pz G0 (sm_aI o f fx) := by
  unfold sm_aI
  split
  · exact h1 _ _ _ _ (h _ _ rfl)
  · exact h2 _ _ _ _ (h _ _ rfl)
  · exact pz_n
theorem pz_aL {o : Option (sm_Res × sm_D)} {f : Int64 → Nat → sm_G → sm_L → Option (sm_Res × sm_S)} {fx : Nat → Nat → sm_G → sm_L → Option (sm_Res × sm_S)} (h : pd G0 o) (h1 : ∀ a x G L, zz G G0 → pz G0 (f a x G L)) (h2 : ∀ e x G L, zz G G0 → pz G0 (fx e x G L)) : pz G0 (sm_aL o f fx) := by
  unfold sm_aL
  split
  · exact h1 _ _ _ _ (h _ _ rfl)
  · exact h2 _ _ _ _ (h _ _ rfl)
  · exact pz_n
theorem pz_aR {o : Option (sm_Res × sm_D)} {f : Nat → Nat → sm_G → sm_L → Option (sm_Res × sm_S)} {fx : Nat → Nat → sm_G → sm_L → Option (sm_Res × sm_S)} (h : pd G0 o) (h1 : ∀ a x G L, zz G G0 → pz G0 (f a x G L)) (h2 : ∀ e x G L, zz G G0 → pz G0 (fx e x G L)) : pz G0 (sm_aR o f fx) := by
  unfold sm_aR
  split
  · exact h1 _ _ _ _ (h _ _ rfl)
  · exact h2 _ _ _ _ (h _ _ rfl)
  · exact pz_n
theorem pz_bV {o : Option (sm_Res × sm_S)} {f : Option Value → sm_S → Option (sm_Res × sm_S)} {fx : Nat → sm_S → Option (sm_Res × sm_S)} (h : pz G0 o) (h1 : ∀ a S, S.1 ≤ 342 → zz S.2.2.2.1 G0 → pz G0 (f a S)) (h2 : ∀ e S, S.1 ≤ 342 → zz S.2.2.2.1 G0 → pz G0 (fx e S)) : pz G0 (sm_bV o f fx) := by
  unfold sm_bV
  split
  · exact h1 _ _ (h _ _ rfl).1 (h _ _ rfl).2
  · exact h2 _ _ (h _ _ rfl).1 (h _ _ rfl).2
  · exact pz_n
theorem pz_exc (hr : ∀ r n R x G L, n ≤ 342 → zz G G0 → pz G0 (rt r n R x G L)) (hk : ∀ pc ls st n R x G L, n ≤ 342 → zz G G0 → pz G0 (k pc ls st n R x G L)) {pc : Nat} {ls : List Value} {n : Nat} {R : sm_R} {e x : Nat} {G : sm_G} {L : sm_L} (hn : n ≤ 342) (hz : zz G G0) : pz G0 (sm_exc rt hd pc ls n R k e x G L) := by
  unfold sm_exc
  exact pr_cond (fun _ => hr _ _ _ _ _ _ hn hz) (fun _ => pr_cond (fun _ => pz_n) (fun _ => hk _ _ _ _ _ _ _ _ hn hz))
theorem pz_inv (hr : ∀ r n R x G L, n ≤ 342 → zz G G0 → pz G0 (rt r n R x G L)) (hk : ∀ pc ls st n R x G L, n ≤ 342 → zz G G0 → pz G0 (k pc ls st n R x G L)) (hcn : ∀ j n R as x G L, n ≤ 342 → zz G G0 → pd G0 (cn j n R as (x, G, L))) (hcx : ∀ j as n R x G L, n ≤ 342 → zz G G0 → pz G0 (cx j as (n, R, x, G, L))) {pc : Nat} {ls : List Value} {v : Nat} {st : List Value} {n : Nat} {R : sm_R} {x : Nat} {G : sm_G} {L : sm_L} (hn : n ≤ 342) (hz : zz G G0) : pz G0 (sm_inv rt hd cn cx pc ls v st n R x G L k) := by
  unfold sm_inv
  split
  · exact pz_n
  · refine pr_cond (fun _ => pr_cond (fun _ => pr_cond (fun _ => pz_bV (hcx _ _ _ _ _ _ _ hn hz) (fun _ _ a b => hk _ _ _ _ _ _ _ _ a b) (fun _ _ a b => pz_exc hr hk a b)) (fun _ => pz_n)) (fun _ => pr_cond (fun _ => pz_aV (hcn _ _ _ _ _ _ _ hn hz) (fun _ _ _ b => hk _ _ _ _ _ _ _ _ hn b) (fun _ _ _ _ b => pz_exc hr hk hn b)) (fun _ => pr_cond (fun _ => pz_aI (hcn _ _ _ _ _ _ _ hn hz) (fun _ _ _ _ b => hk _ _ _ _ _ _ _ _ hn b) (fun _ _ _ _ b => pz_exc hr hk hn b)) (fun _ => pr_cond (fun _ => pz_aL (hcn _ _ _ _ _ _ _ hn hz) (fun _ _ _ _ b => hk _ _ _ _ _ _ _ _ hn b) (fun _ _ _ _ b => pz_exc hr hk hn b)) (fun _ => pz_aR (hcn _ _ _ _ _ _ _ hn hz) (fun _ _ _ _ b => hk _ _ _ _ _ _ _ _ hn b) (fun _ _ _ _ b => pz_exc hr hk hn b)))))) (fun _ => pz_n)
theorem pz_step (T : Nat → Instr) (hA : ∀ pc v, T pc = .anewarray v → Nat.mod v 256 ≠ 63) (hr : ∀ r n R x G L, n ≤ 342 → zz G G0 → pz G0 (rt r n R x G L)) (hk : ∀ pc ls st n R x G L, n ≤ 342 → zz G G0 → pz G0 (k pc ls st n R x G L)) (hcn : ∀ j n R as x G L, n ≤ 342 → zz G G0 → pd G0 (cn j n R as (x, G, L))) (hcx : ∀ j as n R x G L, n ≤ 342 → zz G G0 → pz G0 (cx j as (n, R, x, G, L))) (pc : Nat) (ls st : List Value) (n : Nat) (R : sm_R) (x : Nat) (G : sm_G) (L : sm_L) (hn : n ≤ 342) (hz : zz G G0) : pz G0 (sm_step rt T hd cn cx pc ls st n R x G L k) := by
  have hA' := hA pc
  unfold sm_step
  generalize T pc = i at *
  have K : ∀ pc ls st R x L, pz G0 (k pc ls st n R x G L) := fun _ _ _ _ _ _ => hk _ _ _ _ _ _ _ _ hn hz
  have KU : ∀ pc ls st R x L r j v, r ≤ n → pz G0 (k pc ls st n R x (sm_up G r j v) L) := fun _ _ _ _ _ _ _ _ _ h => hk _ _ _ _ _ _ _ _ hn (zz_up hz (by omega))
  have KN : ∀ pc ls st R x L, n + 1 ≤ 342 → pz G0 (k pc ls st (Nat.add n 1) R x (sm_cl G (Nat.add n 1) 0) L) := fun _ _ _ _ _ _ h => hk _ _ _ _ _ _ _ _ h ⟨(sm_cl_row G (n + 1) 0 8190 (by omega)).trans hz.1, (sm_cl_row G (n + 1) 0 8191 (by omega)).trans hz.2⟩
  cases i
  case ifCond c t => cases c <;> exact pr_i1 pz_n (fun _ _ => pr_ite (K _ _ _ _ _ _) (K _ _ _ _ _ _))
  case if_icmp c t => cases c <;> exact pr_i2 pz_n (fun _ _ _ => pr_ite (K _ _ _ _ _ _) (K _ _ _ _ _ _))
  case tableswitch d lo hi ts => exact pr_i1 pz_n (fun _ _ => pr_sw (K _ _ _ _ _ _) (fun _ => K _ _ _ _ _ _) _ _)
  case lookupswitch d ps => exact pr_i1 pz_n (fun _ _ => pr_lsw (K _ _ _ _ _ _) (fun _ => K _ _ _ _ _ _) _)
  case new v =>
    refine pr_cond (fun _ => pr_cond (fun _ => hr _ _ _ _ _ _ hn hz) (fun _ => pz_n)) (fun h40 => pr_cond (fun h => ?_) (fun _ => pz_n))
    rw [Bool.and_eq_true] at h
    have h1 := Nat.eq_of_beq_eq_true h.1
    refine KN _ _ _ _ _ _ (K_next hn (fun q => ?_))
    rw [show n + 1 = Nat.add n 1 from rfl, h1] at q
    rw [q] at h40
    exact absurd h40 (by decide)
  case newarray t =>
    refine pr_i1 pz_n (fun a _ => pr_cond (fun h => ?_) (fun _ => pz_n))
    rw [Bool.and_eq_true, Bool.and_eq_true] at h
    have h1 := Nat.eq_of_beq_eq_true h.1.1
    refine KN _ _ _ _ _ _ (K_next hn (fun q => ?_))
    rw [show n + 1 = Nat.add n 1 from rfl, h1] at q
    cases t <;> exact absurd q (by decide)
  case anewarray v =>
    refine pr_i1 pz_n (fun a _ => pr_cond (fun h => ?_) (fun _ => pz_n))
    rw [Bool.and_eq_true, Bool.and_eq_true] at h
    have h1 := Nat.eq_of_beq_eq_true h.1.1
    refine KN _ _ _ _ _ _ (K_next hn (fun q => ?_))
    rw [show n + 1 = Nat.add n 1 from rfl, h1] at q
    exact hA' v rfl q
  case multianewarray v w =>
    refine pr_i2 pz_n (fun a b _ => pr_cond (fun h => ?_) (fun _ => pz_n))
    rw [Bool.and_eq_true] at h
    have h1 := h.1
    unfold sm_mok at h1
    simp only [Bool.and_eq_true, decide_eq_true_eq] at h1
    obtain ⟨⟨⟨⟨h2, h3⟩, h4⟩, h5⟩, h6⟩ := h1
    have hN : sm_N (n + 1) < 2048 := Nat.mod_lt _ (by decide)
    have ha : a.toNatClampNeg = sm_N (n + 1) := by
      rw [h4]
      exact i3_cl (by show sm_N (n + 1) < 2147483648; omega)
    have h7 : n + 1 + sm_N (n + 1) ≤ 342 := by
      have h3 : 1 ≤ sm_N (n + 1) := Nat.le_of_ble_eq_true h3
      have h8 := List.all_eq_true.mp h6 (sm_N (n + 1) - 1) (List.mem_range.mpr (by show sm_N (n + 1) - 1 < sm_N (n + 1); omega))
      rw [Bool.and_eq_true] at h8
      have h9 := K_20 (Nat.eq_of_beq_eq_true h8.1)
      have h9 : n + (2 + (sm_N (n + 1) - 1)) ≤ 342 := h9
      omega
    rw [ha]
    exact hk _ _ _ _ _ _ _ _ (by show n + (1 + sm_N (n + 1)) ≤ 342; omega) ⟨(sm_mG_up (n := n) (N := sm_N (n + 1)) (r := 8190) (by omega)).trans hz.1, (sm_mG_up (n := n) (N := sm_N (n + 1)) (r := 8191) (by omega)).trans hz.2⟩
  case putfield v =>
    dsimp only
    split
    · exact pr_cond (fun h => pr_cond (fun _ => KU _ _ _ _ _ _ _ _ _ (is_le h)) (fun _ => pr_cond (fun _ => pr_ite (KU _ _ _ _ _ _ _ _ _ (is_le h)) pz_n) (fun _ => pz_n))) (fun _ => pz_n)
    · exact pr_cond (fun h => K _ _ _ _ _ _) (fun _ => pz_n)
    · exact pr_cond (fun h => K _ _ _ _ _ _) (fun _ => pz_n)
    · exact pz_n
  all_goals try dsimp only
  all_goals first
    | exact pz_n
    | exact K _ _ _ _ _ _
    | exact pz_inv hr hk hcn hcx hn hz
    | exact pr_i1 pz_n (fun _ _ => K _ _ _ _ _ _)
    | exact pr_i2 pz_n (fun _ _ _ => K _ _ _ _ _ _)
    | exact pr_l1 pz_n (fun _ _ => K _ _ _ _ _ _)
    | exact pr_l2 pz_n (fun _ _ _ => K _ _ _ _ _ _)
    | exact pr_li pz_n (fun _ _ _ => K _ _ _ _ _ _)
    | exact pr_r1 pz_n (fun _ _ => K _ _ _ _ _ _)
    | exact pr_ri pz_n (fun _ _ _ => K _ _ _ _ _ _)
    | exact pr_i2 pz_n (fun _ _ _ => pr_ite pz_n (K _ _ _ _ _ _))
    | exact pr_l2 pz_n (fun _ _ _ => pr_ite pz_n (K _ _ _ _ _ _))
    | exact pr_l2 pz_n (fun _ _ _ => pr_ite (K _ _ _ _ _ _) (pr_ite (K _ _ _ _ _ _) (K _ _ _ _ _ _)))
    | exact pr_cond (fun _ => K _ _ _ _ _ _) (fun _ => K _ _ _ _ _ _)
    | exact pr_r1 pz_n (fun _ _ => pr_cond (fun _ => pr_cond (fun _ => K _ _ _ _ _ _) (fun _ => pr_cond (fun _ => K _ _ _ _ _ _) (fun _ => K _ _ _ _ _ _))) (fun _ => pz_n))
    | exact pr_ri pz_n (fun _ _ _ => pr_cond (fun _ => pr_cond (fun _ => K _ _ _ _ _ _) (fun _ => pz_n)) (fun _ => pr_cond (fun _ => K _ _ _ _ _ _) (fun _ => pz_n)))
    | exact pr_ri pz_n (fun _ _ _ => pr_cond (fun _ => pr_cond (fun _ => K _ _ _ _ _ _) (fun _ => pz_n)) (fun _ => pz_n))
    | exact pr_rii pz_n (fun _ _ _ _ => pr_cond (fun h => pr_cond (fun _ => KU _ _ _ _ _ _ _ _ _ (is_le h)) (fun _ => pz_n)) (fun _ => pz_n))
    | exact pr_rii pz_n (fun _ _ _ _ => pr_cond (fun h => pr_cond (fun _ => KU _ _ _ _ _ _ _ _ _ (is_le h)) (fun _ => pz_n)) (fun _ => pr_cond (fun h => pr_cond (fun _ => pr_ite (KU _ _ _ _ _ _ _ _ _ (is_le h)) pz_n) (fun _ => pz_n)) (fun _ => pz_n)))
    | exact pr_ril pz_n (fun _ _ _ _ => pr_cond (fun _ => pr_cond (fun _ => K _ _ _ _ _ _) (fun _ => pz_n)) (fun _ => pz_n))
    | exact pr_rir pz_n (fun _ _ _ _ => pr_cond (fun _ => pr_cond (fun _ => K _ _ _ _ _ _) (fun _ => pz_n)) (fun _ => pz_n))
    | exact pr_r1 pz_n (fun _ _ => pr_cond (fun _ => K _ _ _ _ _ _) (fun _ => pr_cond (fun _ => K _ _ _ _ _ _) (fun _ => pz_n)))
    | exact pr_cond (fun _ => pr_r1 pz_n (fun _ _ => pr_cond (fun _ => K _ _ _ _ _ _) (fun _ => pz_n))) (fun _ => pz_inv hr hk hcn hcx hn hz)
    | (split <;> first | exact pz_n | exact K _ _ _ _ _ _ | exact hr _ _ _ _ _ _ hn hz | exact pr_ite (hr _ _ _ _ _ _ hn hz) pz_n | exact pr_cond (fun _ => hr _ _ _ _ _ _ hn hz) (fun _ => pz_n))
theorem pz_ev {kc : Nat → List Value → Nat → sm_R → Nat → sm_G → sm_L → Option (sm_Res × sm_S)} (hc : ∀ pc ls n R x G L, n ≤ 342 → zz G G0 → pz G0 (kc pc ls n R x G L)) (T : Nat → Instr) (ct : Nat → Nat) (hA : ∀ pc v, T pc = .anewarray v → Nat.mod v 256 ≠ 63) (hr : ∀ r n R x G L, n ≤ 342 → zz G G0 → pz G0 (rt r n R x G L)) (hcn : ∀ j n R as x G L, n ≤ 342 → zz G G0 → pd G0 (cn j n R as (x, G, L))) (hcx : ∀ j as n R x G L, n ≤ 342 → zz G G0 → pz G0 (cx j as (n, R, x, G, L))) : ∀ (F pc : Nat) (ls st : List Value) (n : Nat) (R : sm_R) (x : Nat) (G : sm_G) (L : sm_L), n ≤ 342 → zz G G0 → pz G0 (sm_ev rt kc T ct hd cn cx F pc ls st n R x G L)
  | 0, _, _, _, _, _, _, _, _, _, _ => pz_n
  | F + 1, pc, ls, st, n, R, x, G, L, hn, hz => by
    have ih := pz_ev hc T ct hA hr hcn hcx F
    unfold sm_ev
    refine pr_cond (fun _ => pz_step T hA hr ih hcn hcx _ _ _ _ _ _ _ _ hn hz) (fun _ => ?_)
    split
    · exact hc _ _ _ _ _ _ _ hn hz
    · exact pz_step T hA hr ih hcn hcx _ _ _ _ _ _ _ _ hn hz
theorem pz_run (T : Nat → Instr) (ct : Nat → Nat) (hA : ∀ pc v, T pc = .anewarray v → Nat.mod v 256 ≠ 63) (hcn : ∀ j n R as x G L, n ≤ 342 → zz G G0 → pd G0 (cn j n R as (x, G, L))) (hcx : ∀ j as n R x G L, n ≤ 342 → zz G G0 → pz G0 (cx j as (n, R, x, G, L))) : ∀ (F pc : Nat) (ls : List Value) (n : Nat) (R : sm_R) (x : Nat) (G : sm_G) (L : sm_L), n ≤ 342 → zz G G0 → pz G0 (sm_run T ct hd cn cx F pc ls n R x G L)
  | 0, _, _, _, _, _, _, _, _, _ => pz_n
  | F + 1, pc, ls, n, R, x, G, L, hn, hz => by
    show pz G0 (sm_blk sm_rS (sm_run T ct hd cn cx F) T ct hd cn cx pc ls n R x G L)
    unfold sm_blk
    have hr : ∀ r n R x G L, n ≤ 342 → zz G G0 → pz G0 (sm_rS r n R x G L) := fun r n R x G L hn hz r' S' h => by
      cases h
      exact ⟨hn, hz⟩
    exact pz_step T hA hr (pz_ev (pz_run T ct hA hcn hcx F) T ct hA hr hcn hcx 2000) hcn hcx _ _ _ _ _ _ _ _ hn hz
end PZ
theorem pz_bi {j : Nat} {as : List Value} {n : Nat} {R : sm_R} {x : Nat} {G G0 : sm_G} {L : sm_L} (hn : n ≤ 342) (hz : zz G G0) : pz G0 (sm_bi j as (n, R, x, G, L)) := by
  intro r S h
  have key : ∀ r0 : sm_Res, some (r0, n, R, x, G, L) = some (r, S) → S.1 ≤ 342 ∧ zz S.2.2.2.1 G0 := fun r0 h => by
    cases h
    exact ⟨hn, hz⟩
  unfold sm_bi at h
  cases b1 : Nat.beq j 1 with
  | true =>
    rw [b1] at h
    simp only [cond_true] at h
    split at h
    · revert h
      exact pr_cond (A := fun o => o = some (r, S) → _) (fun _ h => key _ h) (fun _ h => by cases h)
    · cases h
  | false =>
    rw [b1] at h
    simp only [cond_false] at h
    cases b2 : Nat.beq j 2 with
    | true =>
      rw [b2] at h
      simp only [cond_true] at h
      split at h
      · revert h
        exact pr_cond (A := fun o => o = some (r, S) → _) (fun _ h => key _ h) (fun _ h => by cases h)
      · cases h
    | false =>
      rw [b2] at h
      simp only [cond_false] at h
      cases b4 : Nat.beq j 4 with
      | true =>
        rw [b4] at h
        simp only [cond_true] at h
        split at h
        · exact key _ h
        · cases h
      | false =>
        rw [b4] at h
        simp only [cond_false] at h
        cases b5 : Nat.beq j 5 with
        | true =>
          rw [b5] at h
          simp only [cond_true] at h
          split at h
          · exact key _ h
          · cases h
        | false =>
          rw [b5] at h
          simp only [cond_false] at h
          split at h
          · rename_i a sp b dp m
            revert h
            refine pr_cond (A := fun o => o = some (r, S) → _) (fun hc h => ?_) (fun _ h => by cases h)
            simp only [Bool.and_eq_true] at hc
            have hb : b ≤ 342 := Nat.le_trans (is_le hc.1.1.1.1.1.2) hn
            cases h
            refine ⟨hn, ?_⟩
            show zz (sm_acp G a sp.toNatClampNeg b dp.toNatClampNeg m.toNatClampNeg) G0
            refine zz_row hz hb (fun q hq => ?_)
            funext k
            unfold sm_acp
            rw [beq_f hq]
            rfl
          · cases h
theorem hA_531 (pc v : Nat) (h : sm_T 531 pc = .anewarray v) : Nat.mod v 256 ≠ 63 := by
  intro q
  rcases (sm_ickL pc).1 with h1 | h1
  · rw [h] at h1
    cases h1
  · have h2 := h1.2
    rw [h] at h2
    unfold sm_ci at h2
    dsimp only at h2
    rw [q] at h2
    exact Bool.noConfusion (show false = true from h2)
theorem hA_j {j : Nat} (h5 : 5 < j) (hk : sm_kn j = true) (pc v : Nat) (h : sm_T j pc = .anewarray v) : Nat.mod v 256 ≠ 63 := by
  intro q
  rcases (sm_CksA.2.1 j h5 hk pc).1 with h1 | h1
  · rw [h] at h1
    cases h1
  · have h2 := h1.2
    rw [h] at h2
    unfold sm_ci at h2
    dsimp only at h2
    rw [q] at h2
    exact Bool.noConfusion (show false = true from h2)
theorem pz_cw {G0 : sm_G} : ∀ (d j : Nat) (as : List Value) (n : Nat) (R : sm_R) (x : Nat) (G : sm_G) (L : sm_L), n ≤ 342 → zz G G0 → pz G0 (sm_cw d j as (n, R, x, G, L))
  | 0, _, _, _, _, _, _, _, _, _ => pz_n
  | d + 1, j, as, n, R, x, G, L, hn, hz => by
    rw [sm_cw_succ]
    refine pr_cond (fun _ => pz_bi hn hz) (fun hj => pr_cond (fun _ => ?_) (fun _ => pz_n))
    have h5 : 5 < j := by
      rcases Nat.lt_or_ge 5 j with q | q
      · exact q
      · rw [Nat.ble_eq_true_of_le q] at hj
        cases hj
    have go : (∀ pc v, sm_T j pc = .anewarray v → Nat.mod v 256 ≠ 63) → pz G0 (sm_rl (sm_T j) (sm_ct j) (sm_hd j) (fun j n R as D => sm_dr (sm_cw d j as (n, R, D))) (sm_cw d) 0 (sm_lay (sm_ml j) as) n R x G L) := fun hA r S h => by
      obtain ⟨F, h1⟩ := sm_lim_of h
      refine pz_run (sm_T j) (sm_ct j) hA (fun j n R as x G L a b r D e => ?_) (fun j as n R x G L a b => pz_cw d j as n R x G L a b) F 0 _ n R x G L hn hz r S h1
      cases q : sm_cw d j as (n, R, x, G, L) with
      | none =>
        rw [q] at e
        cases e
      | some w =>
        rw [q] at e
        obtain ⟨r1, n1, R1, D1⟩ := w
        have := (pz_cw d j as n R x G L a b _ _ q).2
        cases e
        exact this
    by_cases hk : sm_kn j = true
    · exact go (hA_j h5 hk)
    · by_cases h531 : j = 531
      · subst h531
        exact go hA_531
      · have hT := sm_CksA.2.2.1 j h5 h531 (by cases q : sm_kn j with | true => exact absurd q hk | false => rfl)
        rw [sm_rl_eq]
        unfold sm_blk sm_step
        rw [hT]
        exact pz_n
theorem zz_cw {d j : Nat} {as : List Value} {n : Nat} {R : sm_R} {x : Nat} {G : sm_G} {L : sm_L} {r : sm_Res} {S : sm_S} (hn : n ≤ 342) (h : sm_cw d j as (n, R, x, G, L) = some (r, S)) : zz S.2.2.2.1 G := (pz_cw d j as n R x G L hn zz_o r S h).2
theorem zz_cv {d j : Nat} {as : List Value} {n : Nat} {R : sm_R} {x : Nat} {G : sm_G} {L : sm_L} {r : sm_Res} {D : sm_D} (hn : n ≤ 342) (h : sm_cv0 d j n R as (x, G, L) = some (r, D)) : zz D.2.1 G := by
  unfold sm_cv0 at h
  cases q : sm_cw d j as (n, R, x, G, L) with
  | none =>
    rw [q] at h
    cases h
  | some w =>
    rw [q] at h
    obtain ⟨r1, n1, R1, D1⟩ := w
    have := zz_cw hn q
    cases h
    exact this
