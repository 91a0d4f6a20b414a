/-! fields and rows of numbers: the machine's rows over the small machine's world -/
section SMH
variable {p : Program} {l : Launch} {e : Env} {Rm : Room} {s : State} {m : MethodId} {args : Array Value} {below : List Frame} {meth : Method} {c : Code} {Q : State → Prop}
variable {D : va_G} {tc : Nat → ClassId} {B : Nat} {ρ0 : Nat → Nat} {Z : sm_G} {nL n0 x0 nf xf : Nat}
variable {pc : Nat} {n : Nat} {R : sm_R} {G : sm_G} {L : sm_L} {cc : ByteArray} {own : String}
variable {ρ : Nat → Nat} {H : Heap} {locs : List Loc} {cells slots : Nat} {rls : Array Slot} {rest : List Value}
theorem sm_el_o {r : Nat} (h : sm_K r < 20) : sm_el tc ρ R G L r = .inr (sm_K r, sm_fs ρ R G L r) := if_pos h
theorem sm_el_i {r : Nat} (h : 20 ≤ sm_K r) (h2 : sm_K r < 23) : sm_el tc ρ R G L r = .inl (tc (sm_K r), sm_N r, .inl (G r)) := by
  unfold sm_el
  rw [if_neg (by omega), if_pos h2]
theorem sm_el_l {r : Nat} (h : sm_K r = 23) : sm_el tc ρ R G L r = .inl (tc (sm_K r), sm_N r, .inr (.inl (L r))) := by
  unfold sm_el
  rw [if_neg (by omega), if_neg (by omega), if_pos h]
theorem sm_el_r {r : Nat} (h : 24 ≤ sm_K r) : sm_el tc ρ R G L r = .inl (tc (sm_K r), sm_N r, .inr (.inr (.inr (.inr (fun j => sm_ov ρ (R r j)))))) := by
  unfold sm_el
  rw [if_neg (by omega), if_neg (by omega), if_neg (by omega)]
theorem sm_N_of {r : Nat} (hn : r ≤ 342) (h : sm_K r < 20) {C : String} {T : u_T} {N : Nat} (hq : vwCl[sm_K r]? = some (C, T, N)) : sm_N r = N := by
  have h1 := sm_NK r (by omega) h
  rw [hq] at h1
  exact (Option.some.inj h1).symm
theorem sm_fs_get {r k : Nat} (hk : k < sm_N r) : (sm_fs ρ R G L r)[k]? = some (sm_fv ρ R G L r (sm_K r) k) := by
  unfold sm_fs
  rw [List.getElem?_map, List.getElem?_range hk]
  rfl
theorem sm_get (hx : p.tables.exec = Jvm.exec) (hb : c.code = cc) (hts : ∀ w ∈ sm_tb, w.before args s = true) (hnz : sm_nz s) (hown : s.vm.findClass own = some m.cls) (hK : va_K D vwCl (sm_tys tc) s)
    {cp ci k r : Nat} (hf : sm_fok own cp ci k) (hd : decode cc pc = .ok (.getfield cp, 3)) (h0 : r ≠ 0) (hr : r ≤ n) (hn : n ≤ 342) (hk : sm_K r = ci) (hP : va_P D vwCl (sm_ws tc ρ n R G L) H)
    (kk : W p l e Rm s m args below meth c H locs cells slots Q (F0 m (pc + 3) rls (sm_fv ρ R G L r ci k :: rest))) : W p l e Rm s m args below meth c H locs cells slots Q (F0 m pc rls (.ref (ρ r) :: rest)) := by
  obtain ⟨C, T, N, hq, hkN, hl⟩ := hf
  obtain ⟨ty, h1, h2, h3, h4⟩ := sm_kfs ci _ hq
  subst hk
  have h20 : sm_K r < 20 := by
    have : sm_K r < vwCl.length := (List.getElem?_eq_some_iff.mp hq).1
    simp [vwCl] at this
    omega
  have hN := sm_N_of (Nat.le_trans hr hn) h20 hq
  have he : (sm_ws tc ρ n R G L)[r - 1]? = some (ρ r, .inr (sm_K r, sm_fs ρ R G L r)) := by rw [sm_ws_get h0 hr, sm_el_o h20]
  have hC : (T k).1 = C := h4 k hkN
  rcases hl with hl | hl
  · exact va_get (D := D) (cl := vwCl) (tys := sm_tys tc) hx hb hts h3 hown hK hP (r - 1) he hq k hkN (hts _ hl) (fun x h => by rw [hC] at h; exact h) (sm_fs_get (by rw [hN]; exact hkN)) hd kk
  · exact va_getN (D := D) (cl := vwCl) (tys := sm_tys tc) hx hb hts h3 hown hK hP (r - 1) he hq k hkN (va_Nw.use rfl (hnz _ hl rfl)) (fun x h => by rw [hC] at h; exact h) (sm_fs_get (by rw [hN]; exact hkN)) hd kk
/-- what a field's sort asks of the value put there -/
def sm_fit (ρ : Nat → Nat) (t k : Nat) (v : Value) : Prop := match sm_F t k with
  | 0 => ∃ a, v = .int a
  | 1 => ∃ a, v = .long a
  | 2 => ∃ a, v = sm_cv ρ (.ref a)
  | _ => ∃ a : Int32, v = .int a ∧ a &&& 1 = a
def sm_fty (t k : Nat) : Bool := match vwCl[t]? with
  | some (_, T, _) => match sm_F t k, parseFieldDescriptor (T k).2.2.1 with
    | 0, some .int => true
    | 1, some .long => true
    | 2, some (.object _) => true
    | 2, some (.array _) => true
    | 3, some .boolean => true
    | _, _ => false
  | none => false
theorem sm_Fty : ∀ t, t < 13 → ∀ k, k < ((vwCl[t]?).map (fun q => q.2.2)).getD 0 → sm_fty t k = true := by decide +kernel
theorem sm_narb {a : Int32} (h : a &&& 1 = a) : narrow .boolean (.int a) = .int a ∧ fits .boolean (.int a) = true := by
  have hb : a = 0 ∨ a = 1 := by
    have h2 : (a.toBitVec &&& 1#32).toNat = a.toBitVec.toNat := congrArg (fun z : Int32 => z.toBitVec.toNat) h
    rw [BitVec.toNat_and] at h2
    have h3 : a.toBitVec.toNat % 2 = a.toBitVec.toNat := by rw [← Nat.and_one_is_mod]; exact h2
    have h4 : a.toBitVec.toNat = 0 ∨ a.toBitVec.toNat = 1 := by omega
    rcases h4 with h4 | h4
    · left; exact Int32.toBitVec_inj.mp (BitVec.eq_of_toNat_eq h4)
    · right; exact Int32.toBitVec_inj.mp (BitVec.eq_of_toNat_eq h4)
  rcases hb with rfl | rfl <;> exact ⟨rfl, rfl⟩
theorem sm_fs_set {ρ : Nat → Nat} {R R' : sm_R} {G G' : sm_G} {L L' : sm_L} {r k : Nat} {v : Value} (h : ∀ j, j < sm_N r → sm_fv ρ R' G' L' r (sm_K r) j = if k = j then v else sm_fv ρ R G L r (sm_K r) j) : sm_fs ρ R' G' L' r = (sm_fs ρ R G L r).set k v := by
  apply List.ext_getElem?
  intro j
  rw [List.getElem?_set]
  by_cases hj : j < sm_N r
  · rw [sm_fs_get hj, sm_fs_get hj, h j hj]
    have : (sm_fs ρ R G L r).length = sm_N r := by simp [sm_fs]
    by_cases e : k = j
    · simp [e, this, hj]
    · simp [e]
  · have l1 : (sm_fs ρ R' G' L' r)[j]? = none := by simp [sm_fs]; omega
    have l2 : (sm_fs ρ R G L r)[j]? = none := by simp [sm_fs]; omega
    rw [l1, l2]
    have : (sm_fs ρ R G L r).length = sm_N r := by simp [sm_fs]
    by_cases e : k = j
    · simp [e, this, hj]
    · simp [e]
/-- a field written: the stores R', G', L' are as before but there -/
theorem sm_put (hx : p.tables.exec = Jvm.exec) (hb : c.code = cc) (hts : ∀ w ∈ sm_tb, w.before args s = true) (hnz : sm_nz s) (hown : s.vm.findClass own = some m.cls) (hK : va_K D vwCl (sm_tys tc) s)
    {cp ci k r : Nat} {R' : sm_R} {G' : sm_G} {L' : sm_L} {v : Value} (hf : sm_fok own cp ci k) (hfin : (∀ C T N, vwCl[ci]? = some (C, T, N) → (T k).2.2.2 = false) ∨ (meth.name = "<init>" ∧ (∀ C T N, vwCl[ci]? = some (C, T, N) → (T k).2.2.2 = true ∧ C = own ∧ Cond.fieldLink own cp C (T k).2.1 (T k).2.2.1 ∈ sm_tb))) (hd : decode cc pc = .ok (.putfield cp, 3)) (h0 : r ≠ 0) (hr : r ≤ n) (hn : n ≤ 342) (hk : sm_K r = ci)
    (hfit : sm_fit ρ ci k v) (hR : ∀ a, a ≠ r → R' a = R a) (hG : ∀ a, a ≠ r → G' a = G a) (hL : ∀ a, a ≠ r → L' a = L a) (hv : ∀ j, j < sm_N r → sm_fv ρ R' G' L' r (sm_K r) j = if k = j then v else sm_fv ρ R G L r (sm_K r) j)
    (hwf : ∀ a j, R' a j ≤ n) (hV : sm_V D tc B ρ0 Z n0 s ρ n R G L H locs)
    (kk : ∀ (H1 : Heap) (locs1 : List Loc), sm_V D tc B ρ0 Z n0 s ρ n R' G' L' H1 locs1 → W p l e Rm s m args below meth c H1 locs1 cells slots Q (F0 m (pc + 3) rls rest)) : W p l e Rm s m args below meth c H locs cells slots Q (F0 m pc rls (v :: .ref (ρ r) :: rest)) := by
  obtain ⟨hP, hDD, hS, hag, -, hn3, hz1, hz2⟩ := hV
  obtain ⟨C, T, N, hq, hkN, hl⟩ := hf
  obtain ⟨ty, h1, h2, h3, h4⟩ := sm_kfs ci _ hq
  subst hk
  have h13 : sm_K r < 13 := by
    have : sm_K r < vwCl.length := (List.getElem?_eq_some_iff.mp hq).1
    simpa [vwCl] using this
  have h20 : sm_K r < 20 := by omega
  have hN := sm_N_of (Nat.le_trans hr hn) h20 hq
  have he : (sm_ws tc ρ n R G L)[r - 1]? = some (ρ r, .inr (sm_K r, sm_fs ρ R G L r)) := by rw [sm_ws_get h0 hr, sm_el_o h20]
  have hC : (T k).1 = C := h4 k hkN
  have hty := sm_Fty (sm_K r) h13 k (by rw [hq]; exact hkN)
  have hpd := h1 k hkN
  unfold sm_fty at hty
  rw [hq] at hty
  simp only at hty
  have hnf : narrow (ty k) v = v ∧ fits (ty k) v = true := by
    have hv2 : ∀ a, sm_cv ρ (.ref a) = .null ∨ ∃ q, sm_cv ρ (.ref a) = .ref q := by
      intro a
      cases hz : Nat.beq a 0
      · exact Or.inr ⟨ρ a, by simp [sm_cv, hz]⟩
      · exact Or.inl (by simp [sm_cv, hz])
    unfold sm_fit at hfit
    rw [hpd] at hty
    split at hty
    · next e1 e2 =>
      rw [e1] at hfit
      obtain ⟨a, rfl⟩ := hfit
      rw [Option.some.inj e2]
      exact ⟨rfl, rfl⟩
    · next e1 e2 =>
      rw [e1] at hfit
      obtain ⟨a, rfl⟩ := hfit
      rw [Option.some.inj e2]
      exact ⟨rfl, rfl⟩
    · next e1 e2 =>
      rw [e1] at hfit
      obtain ⟨a, rfl⟩ := hfit
      rw [Option.some.inj e2]
      rcases hv2 a with h | ⟨q, h⟩ <;> rw [h] <;> exact ⟨rfl, rfl⟩
    · next e1 e2 =>
      rw [e1] at hfit
      obtain ⟨a, rfl⟩ := hfit
      rw [Option.some.inj e2]
      rcases hv2 a with h | ⟨q, h⟩ <;> rw [h] <;> exact ⟨rfl, rfl⟩
    · next e1 e2 =>
      rw [e1] at hfit
      obtain ⟨a, rfl, ha⟩ := hfit
      rw [Option.some.inj e2]
      exact sm_narb ha
    · cases hty
  have hlen : k < (sm_fs ρ R G L r).length := by simp [sm_fs, hN]; exact hkN
  have hws : sm_ws tc ρ n R' G' L' = (sm_ws tc ρ n R G L).set (r - 1) (ρ r, .inr (sm_K r, (sm_fs ρ R G L r).set k v)) := by
    rw [sm_ws_set h0 hr hR hG hL, sm_el_o h20, sm_fs_set hv]
  have kk2 : ∀ (H1 : Heap) (locs1 : List Loc), va_P D vwCl ((sm_ws tc ρ n R G L).set (r - 1) (ρ r, .inr (sm_K r, (sm_fs ρ R G L r).set k v))) H1 → va_D (fun q => B ≤ q) ((sm_ws tc ρ n R G L).set (r - 1) (ρ r, .inr (sm_K r, (sm_fs ρ R G L r).set k v))) → va_S (fun q => B ≤ q) s.heap H1 locs1 → W p l e Rm s m args below meth c H1 locs1 cells slots Q (F0 m (pc + 3) rls rest) := by
    intro H1 locs1 a1 a2 a3
    rw [← hws] at a1 a2
    exact kk H1 locs1 ⟨a1, a2, a3, hag, hwf, hn3, (hG 8191 (by omega)).trans hz1, (hG 8190 (by omega)).trans hz2⟩
  rcases hfin with hfin | ⟨hin, hfin⟩
  · rcases hl with hl | hl
    · exact va_put (D := D) (cl := vwCl) (tys := sm_tys tc) (A := fun q => B ≤ q) (H0 := s.heap) hx hb hts h3 ty h1 h2 hown hK hP hDD hS (r - 1) he hq k hkN (hts _ hl) (fun x h => by rw [hC] at h; exact h) (hfin _ _ _ hq) hpd hnf.1 hnf.2 hlen hd kk2
    · exact va_putN (D := D) (cl := vwCl) (tys := sm_tys tc) (A := fun q => B ≤ q) (H0 := s.heap) hx hb hts h3 ty h1 h2 hown hK hP hDD hS (r - 1) he hq k hkN (va_Nw.use rfl (hnz _ hl rfl)) (fun x h => by rw [hC] at h; exact h) (hfin _ _ _ hq) hpd hnf.1 hnf.2 hlen hd kk2
  · obtain ⟨g1, g2, g3⟩ := hfin _ _ _ hq
    exact va_putF (D := D) (cl := vwCl) (tys := sm_tys tc) (A := fun q => B ≤ q) (H0 := s.heap) hx hb hts h3 ty h1 h2 hown hK hP hDD hS (r - 1) he hq k hkN (hts _ g3) (fun x h => by rw [hC] at h; exact h) g1 hin (by rw [hC]; exact g2) hpd hnf.1 hnf.2 hlen hd kk2
end SMH
