/-! every call keeps its contract -/
theorem sm_ick_of {j : Nat} (h1 : ∀ pc, sm_la j < pc → sm_T j pc = .nop) (h2 : ∀ pc, pc ≤ sm_la j → sm_chk (sm_own j) (sm_ml j) (sm_b j) (sm_ini j) pc (sm_T j pc) ∧ sm_cck (sm_own j) (sm_T j pc) = true ∧ sm_rck j (sm_T j pc) = true ∧ (j < 512 → sm_pu (sm_T j pc) = true)) : sm_ick j := by
  intro pc
  by_cases h : pc ≤ sm_la j
  · exact h2 pc h
  · rw [h1 pc (by omega)]
    exact ⟨Or.inl rfl, rfl, rfl, fun _ => rfl⟩
/-- the check of one instruction, as a program does it -/
def sm_ckb (j pc : Nat) : Bool := (decide (sm_T j pc = .nop) || (decide (decode (sm_b j) pc = .ok (sm_real (sm_T j pc) pc)) && sm_ci (sm_own j) (sm_ml j) (sm_ini j) (sm_T j pc))) && sm_cck (sm_own j) (sm_T j pc) && sm_rck j (sm_T j pc) && (Nat.ble 512 j || sm_pu (sm_T j pc))
def sm_ckm (j : Nat) : Bool := sm_mck j && (sm_hz j).all (sm_hrck j) && (List.range (sm_la j + 1)).all (sm_ckb j)
theorem sm_ckm_ick {j : Nat} (h : sm_ckm j = true) (h1 : ∀ pc, sm_la j < pc → sm_T j pc = .nop) : sm_ick j := by
  unfold sm_ckm at h
  rw [Bool.and_eq_true] at h
  refine sm_ick_of h1 (fun pc hpc => ?_)
  have h2 := List.all_eq_true.mp h.2 pc (List.mem_range.mpr (by omega))
  unfold sm_ckb at h2
  rw [Bool.and_eq_true, Bool.and_eq_true, Bool.and_eq_true, Bool.or_eq_true, Bool.and_eq_true, Bool.or_eq_true] at h2
  obtain ⟨⟨⟨a, b⟩, c⟩, d⟩ := h2
  refine ⟨?_, b, c, fun hj => ?_⟩
  · rcases a with a | ⟨a1, a2⟩
    · exact Or.inl (of_decide_eq_true a)
    · exact Or.inr ⟨of_decide_eq_true a1, a2⟩
  · rcases d with d | d
    · have := sm_ale d; omega
    · exact d
/-- the checks, all done -/
def sm_Cks : Prop := sm_mks ∧ (∀ j, 5 < j → sm_kn j = true → sm_ick j) ∧ (∀ j, 5 < j → j ≠ 531 → sm_kn j = false → sm_T j 0 = .nop) ∧ (∀ pc, sm_pu (sm_T 531 pc) = true ∨ True)
theorem sm_bi_g {j : Nat} {as : List Value} {S : sm_S} {r : sm_Res} {S' : sm_S} (h : sm_bi j as S = some (r, S')) : S'.1 = S.1 ∧ S'.2.1 = S.2.1 ∧ S'.2.2.1 = S.2.2.1 := by
  unfold sm_bi at h
  cases h1 : Nat.beq j 1 with
  | true =>
    rw [h1] at h
    simp only [cond_true] at h
    split at h
    · have := (sm_bif h).2
      cases this
      exact ⟨rfl, rfl, rfl⟩
    · cases h
  | false =>
    rw [h1] at h
    simp only [cond_false] at h
    cases h2 : Nat.beq j 2 with
    | true =>
      rw [h2] at h
      simp only [cond_true] at h
      split at h
      · have := (sm_bif h).2
        cases this
        exact ⟨rfl, rfl, rfl⟩
      · cases h
    | false =>
      rw [h2] at h
      simp only [cond_false] at h
      cases h3 : Nat.beq j 4 with
      | true =>
        rw [h3] at h
        simp only [cond_true] at h
        split at h
        · cases h
          exact ⟨rfl, rfl, rfl⟩
        · cases h
      | false =>
        rw [h3] at h
        simp only [cond_false] at h
        cases h4 : Nat.beq j 5 with
        | true =>
          rw [h4] at h
          simp only [cond_true] at h
          split at h
          · cases h
            exact ⟨rfl, rfl, rfl⟩
          · cases h
        | false =>
          rw [h4] at h
          simp only [cond_false] at h
          split at h
          · have := (sm_bif h).2
            cases this
            exact ⟨rfl, rfl, rfl⟩
          · cases h
theorem sm_cw_lo {d j : Nat} {as : List Value} {S : sm_S} {u : sm_Res × sm_S} (hj : j ≤ 5) (h : sm_cw (d + 1) j as S = some u) : sm_bi j as S = some u := by
  have h1 := h
  rw [sm_cw_succ, Nat.ble_eq_true_of_le hj, cond_true] at h1
  exact h1
theorem sm_run_nop {T : Nat → Instr} {ct : Nat → Nat} {hd : Nat → Nat → Nat} {cn : sm_CN} {cx : sm_CX} {F : Nat} {ls : List Value} {n : Nat} {R : sm_R} {x : Nat} {G : sm_G} {L : sm_L} (h : T 0 = .nop) : sm_run T ct hd cn cx F 0 ls n R x G L = none := by
  cases F with
  | zero => rfl
  | succ F =>
    show sm_step sm_rS T hd cn cx 0 ls [] n R x G L _ = none
    unfold sm_step
    rw [h]
theorem sm_CGs (hc : sm_Cks) : ∀ d, sm_CG (sm_cw d)
  | 0 => fun j as n R x G L r n' R' x' G' L' h => by cases h
  | d + 1 => fun j as n R x G L r n' R' x' G' L' h => by
    have ih := sm_CGs hc d
    by_cases hj : j ≤ 5
    · obtain ⟨g1, g2, g3⟩ := sm_bi_g (sm_cw_lo hj h)
      have g1 : n' = n := g1
      have g2 : R' = R := g2
      have g3 : x' = x := g3
      exact ⟨Nat.le_of_eq g1.symm, Nat.le_of_eq g3.symm, fun _ => ⟨g1, g2⟩⟩
    · obtain ⟨hlen, F, hF⟩ := sm_cw_run (by omega) h
      have hkn : j = 531 ∨ sm_kn j = true := by
        by_cases q : j = 531
        · exact Or.inl q
        · right
          cases hk : sm_kn j with
          | true => rfl
          | false =>
            exfalso
            rw [sm_run_nop (hc.2.2.1 j (by omega) q hk)] at hF
            cases hF
      have hg := sm_run_g (pu := decide (j < 512)) (cn := fun j n R as D => sm_dr (sm_cw d j as (n, R, D))) ih rfl (fun hp pc => by
        have hlt : j < 512 := of_decide_eq_true hp
        rcases hkn with q | q
        · omega
        · exact (hc.2.1 j (by omega) q pc).2.2.2 hlt) F 0 _ _ _ _ _ _ hF
      exact ⟨hg.1, hg.2.1, fun hlt => by
        obtain ⟨e1, e2⟩ := hg.2.2 (decide_eq_true hlt)
        exact ⟨e1.symm, e2.symm⟩⟩
/-- the texts' members keep their contracts -/
def sm_Txc (l : Launch) (D : va_G) (tc : Nat → ClassId) (adV : Nat → Nat) (Z : sm_G) (B : Nat) : Prop := ∀ (d j : Nat) (as : List Value) (n : Nat) (R : sm_R) (x : Nat) (G : sm_G) (L : sm_L) (r : sm_Res) (S : sm_S), (j = 1 ∨ j = 2) → sm_bi j as (n, R, x, G, L) = some (r, S) → ∀ ρ, vx_Met l (sm_y j) (sm_wd j) (sm_rmd (d + 1) (sm_mc n x n x) (sm_ms n x n x)) (sm_Pc D tc adV Z B ρ as n R G L) (sm_QC D tc Z B ρ n r (n, R, x, G, L)) (sm_XC D tc Z B ρ n r (n, R, x, G, L)) (sm_mc n x n x) (sm_ms n x n x) (fun q => B ≤ q)
theorem sm_bi12 {j : Nat} {as : List Value} {S : sm_S} {r : sm_Res} {S' : sm_S} (hj : j = 1 ∨ j = 2) (h : sm_bi j as S = some (r, S')) : S' = S := by
  rcases hj with rfl | rfl
  · unfold sm_bi at h
    rw [show Nat.beq 1 1 = true from rfl] at h
    simp only [cond_true] at h
    split at h
    · have := (sm_bif h).2
      cases this
      rfl
    · cases h
  · unfold sm_bi at h
    rw [show Nat.beq 2 1 = false from rfl, show Nat.beq 2 2 = true from rfl] at h
    simp only [cond_true, cond_false] at h
    split at h
    · have := (sm_bif h).2
      cases this
      rfl
    · cases h
/-- every call of every depth keeps its contract -/
theorem sm_Cons {l : Launch} {D : va_G} {tc : Nat → ClassId} {adV : Nat → Nat} {Z : sm_G} {B : Nat} (hc : sm_Cks) (hthr : ∀ j, 5 < j → sm_kn j = true → sm_Thr l D tc adV Z B j) (htx : sm_Txc l D tc adV Z B) : ∀ d, sm_Con D tc adV Z B l d (sm_cw d)
  | 0 => fun j as n R x G L r n' R' x' G' L' h => by cases h
  | d + 1 => fun j as n R x G L r n' R' x' G' L' h => by
    have ih := sm_Cons hc hthr htx d
    have hg := sm_CGs hc (d + 1) _ _ _ _ _ _ _ _ _ _ _ _ _ h
    refine ⟨fun _ => ⟨hg.1, hg.2.1⟩, hg.2.2, fun hn hj5 hj1 ρ => ?_⟩
    by_cases hj : j ≤ 5
    · have hb := sm_cw_lo hj h
      have h12 : j = 1 ∨ j = 2 := by omega
      have e := sm_bi12 h12 hb
      cases e
      exact htx d j as _ _ _ _ _ r _ h12 hb ρ
    · have hkn : sm_kn j = true := by
        cases hk : sm_kn j with
        | true => rfl
        | false =>
          exfalso
          obtain ⟨hlen, F, hF⟩ := sm_cw_run (by omega) h
          rw [sm_run_nop (hc.2.2.1 j (by omega) hj1 hk)] at hF
          cases hF
      exact sm_met ih (by omega) hc.1 (hc.1 j hkn) (hc.2.1 j (by omega) hkn) (hthr j (by omega) hkn) h hn ⟨hg.1, hg.2.1⟩ ρ
