/-! cells made -/
section SMN
variable {s : State} {D : va_G} {tc : Nat → ClassId} {B : Nat} {ρ0 : Nat → Nat} {Z : sm_G} {n0 : Nat}
variable {n : Nat} {R : sm_R} {G : sm_G} {L : sm_L} {ρ : Nat → Nat} {H : Heap} {locs : List Loc}
def sm_rn (ρ : Nat → Nat) (n q : Nat) : Nat → Nat := fun r => if r = n + 1 then q else ρ r
theorem sm_rn_at (n q : Nat) : sm_rn ρ n q (n + 1) = q := if_pos rfl
theorem sm_rn_ne {n q r : Nat} (h : r ≠ n + 1) : sm_rn ρ n q r = ρ r := if_neg h
theorem sm_cv_same {ρ ρ' : Nat → Nat} {v : Value} (h : ∀ r, v = .ref r → ρ' r = ρ r) : sm_cv ρ' v = sm_cv ρ v := by
  cases v with
  | ref r =>
    simp only [sm_cv, h r rfl]
  | _ => rfl
theorem sm_lo_of {n : Nat} : ∀ {l : List Value}, sm_lo n l = true → ∀ r, Value.ref r ∈ l → r ≤ n ∨ 4096 ≤ r
  | [], _, r, h => by cases h
  | v :: l, h, r, hm => by
    rcases List.mem_cons.mp hm with e | e
    · subst e
      simp only [sm_lo, Bool.and_eq_true, Bool.or_eq_true] at h
      rcases h.1 with q | q
      · exact Or.inl (sm_ale q)
      · exact Or.inr (sm_ale q)
    · have : sm_lo n l = true := by
        cases v <;> simp only [sm_lo, Bool.and_eq_true] at h <;> first | exact h | exact h.2
      exact sm_lo_of this r e
theorem sm_map_same {ρ ρ' : Nat → Nat} {n : Nat} {l : List Value} (h : sm_lo n l = true) (hρ : ∀ r, r ≤ n ∨ 4096 ≤ r → ρ' r = ρ r) : l.map (sm_cv ρ') = l.map (sm_cv ρ) :=
  List.map_congr_left (fun v hv => sm_cv_same (fun r e => hρ r (sm_lo_of h r (e ▸ hv))))
theorem sm_lv_same {ρ ρ' : Nat → Nat} {n : Nat} : ∀ {l : List Value} (i : Nat), sm_lo n l = true → (∀ r, r ≤ n ∨ 4096 ≤ r → ρ' r = ρ r) → sm_lv ρ' i l = sm_lv ρ i l
  | [], _, _, _ => rfl
  | v :: l, i, h, hρ => by
    have h1 : sm_lo n l = true := by
      cases v <;> simp only [sm_lo, Bool.and_eq_true] at h <;> first | exact h | exact h.2
    have ih := sm_lv_same (i + 1) h1 hρ
    have e : sm_cv ρ' v = sm_cv ρ v := sm_cv_same (fun r e => hρ r (sm_lo_of h r (by rw [e]; exact List.mem_cons_self)))
    cases v <;> simp only [sm_lv, ih, e]
theorem sm_ws_old {ρ' : Nat → Nat} {R' : sm_R} {G' : sm_G} {L' : sm_L} (hR : ∀ r, r ≤ n → R' r = R r) (hG : ∀ r, r ≤ n → G' r = G r) (hL : ∀ r, r ≤ n → L' r = L r) (hρ : ∀ r, r ≤ n → ρ' r = ρ r) (hwf : ∀ r k, R r k ≤ n) : sm_ws tc ρ' n R' G' L' = sm_ws tc ρ n R G L := by
  unfold sm_ws
  apply List.map_congr_left
  intro i hi
  have h1 : i + 1 ≤ n := by have := List.mem_range.mp hi; omega
  rw [hρ _ h1, sm_el_congr (hR _ h1) (hG _ h1) (hL _ h1) (fun k _ _ => hρ _ (hwf _ _)) (fun k _ _ _ => hρ _ (hwf _ _))]
theorem sm_ws_snoc {ρ' : Nat → Nat} {R' : sm_R} {G' : sm_G} {L' : sm_L} : sm_ws tc ρ' (n + 1) R' G' L' = sm_ws tc ρ' n R' G' L' ++ [(ρ' (n + 1), sm_el tc ρ' R' G' L' (n + 1))] := by
  unfold sm_ws
  rw [List.range_succ, List.map_append]
  rfl
theorem sm_V_new {q : Nat} {H1 : Heap} {locs1 : List Loc} (hV : sm_V D tc B ρ0 Z n0 s ρ n R G L H locs) (h0 : n0 ≤ n) (hn : n + 1 ≤ 342)
    (hP : va_P D vwCl (sm_ws tc ρ n R G L ++ [(q, sm_el tc (sm_rn ρ n q) (sm_cl R (n + 1) 0) (sm_cl G (n + 1) 0) (sm_cl L (n + 1) 0) (n + 1))]) H1)
    (hD : va_D (fun q => B ≤ q) (sm_ws tc ρ n R G L ++ [(q, sm_el tc (sm_rn ρ n q) (sm_cl R (n + 1) 0) (sm_cl G (n + 1) 0) (sm_cl L (n + 1) 0) (n + 1))])) (hS : va_S (fun q => B ≤ q) s.heap H1 locs1) :
    sm_V D tc B ρ0 Z n0 s (sm_rn ρ n q) (n + 1) (sm_cl R (n + 1) 0) (sm_cl G (n + 1) 0) (sm_cl L (n + 1) 0) H1 locs1 := by
  obtain ⟨-, -, -, hag, hwf, hn3, hz1, hz2⟩ := hV
  have e : sm_ws tc (sm_rn ρ n q) (n + 1) (sm_cl R (n + 1) 0) (sm_cl G (n + 1) 0) (sm_cl L (n + 1) 0) = sm_ws tc ρ n R G L ++ [(q, sm_el tc (sm_rn ρ n q) (sm_cl R (n + 1) 0) (sm_cl G (n + 1) 0) (sm_cl L (n + 1) 0) (n + 1))] := by
    rw [sm_ws_snoc, sm_rn_at, sm_ws_old (fun r h => sm_cl_row R _ _ r (by omega)) (fun r h => sm_cl_row G _ _ r (by omega)) (fun r h => sm_cl_row L _ _ r (by omega)) (fun r h => sm_rn_ne (by omega)) hwf]
  refine ⟨by rw [e]; exact hP, by rw [e]; exact hD, hS, fun r hr => ?_, fun r k => ?_, hn, ?_, ?_⟩
  · rw [sm_rn_ne (by omega)]
    exact hag r (by omega)
  · unfold sm_cl
    cases Nat.beq r (n + 1)
    · exact Nat.le_succ_of_le (hwf r k)
    · exact Nat.zero_le _
  · rw [sm_cl_row G _ _ 8191 (by omega)]; exact hz1
  · rw [sm_cl_row G _ _ 8190 (by omega)]; exact hz2
end SMN
theorem sm_inst0 : ∀ ci, ci < 13 → ∃ (i j : Nat), (∃ q : vw_C, vwCl[ci]? = some q ∧ tables_1[i]? = some (Cond.instantiable q.1 q.2.2) ∧ tables_1[j]? = some (Cond.initialized q.1)) ∧ True
  | 0, _ => ⟨435, 12, ⟨_, rfl, by decide +kernel, by decide +kernel⟩, trivial⟩
  | 1, _ => ⟨176, 5, ⟨_, rfl, by decide +kernel, by decide +kernel⟩, trivial⟩
  | 2, _ => ⟨217, 7, ⟨_, rfl, by decide +kernel, by decide +kernel⟩, trivial⟩
  | 3, _ => ⟨119, 4, ⟨_, rfl, by decide +kernel, by decide +kernel⟩, trivial⟩
  | 4, _ => ⟨308, 9, ⟨_, rfl, by decide +kernel, by decide +kernel⟩, trivial⟩
  | 5, _ => ⟨350, 11, ⟨_, rfl, by decide +kernel, by decide +kernel⟩, trivial⟩
  | 6, _ => ⟨40, 2, ⟨_, rfl, by decide +kernel, by decide +kernel⟩, trivial⟩
  | 7, _ => ⟨224, 8, ⟨_, rfl, by decide +kernel, by decide +kernel⟩, trivial⟩
  | 8, _ => ⟨329, 10, ⟨_, rfl, by decide +kernel, by decide +kernel⟩, trivial⟩
  | 9, _ => ⟨207, 6, ⟨_, rfl, by decide +kernel, by decide +kernel⟩, trivial⟩
  | 10, _ => ⟨80, 3, ⟨_, rfl, by decide +kernel, by decide +kernel⟩, trivial⟩
  | 11, _ => ⟨32, 1, ⟨_, rfl, by decide +kernel, by decide +kernel⟩, trivial⟩
  | 12, _ => ⟨1565, 13, ⟨_, rfl, by decide +kernel, by decide +kernel⟩, trivial⟩
  | _ + 13, h => absurd h (by omega)
theorem sm_inst : ∀ ci, ci < 13 → ∃ q : vw_C, vwCl[ci]? = some q ∧ Cond.instantiable q.1 q.2.2 ∈ sm_tb ∧ Cond.initialized q.1 ∈ sm_tb := by
  have h : ∀ q : vw_C × Nat × Nat, tables_1[q.2.1]? = some (Cond.instantiable q.1.1 q.1.2.2) → tables_1[q.2.2]? = some (Cond.initialized q.1.1) → Cond.instantiable q.1.1 q.1.2.2 ∈ sm_tb ∧ Cond.initialized q.1.1 ∈ sm_tb :=
    fun q h1 h2 => ⟨sm_tb_in1 h1 rfl, sm_tb_in1 h2 rfl⟩
  intro ci hci
  obtain ⟨i, j, h1, h2⟩ : ∃ (i j : Nat), (∃ q : vw_C, vwCl[ci]? = some q ∧ tables_1[i]? = some (Cond.instantiable q.1 q.2.2) ∧ tables_1[j]? = some (Cond.initialized q.1)) ∧ True := sm_inst0 ci hci
  obtain ⟨q, g1, g2, g3⟩ := h1
  exact ⟨q, g1, h (q, i, j) g2 g3⟩
