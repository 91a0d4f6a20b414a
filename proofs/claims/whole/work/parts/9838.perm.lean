/-! orders of the milk round: how the class steps from one to the next, how the model builds them -/
def nxi (o : List Nat) : Nat → Nat
  | 0 => 0
  | k + 1 => if o.getD k 0 ≤ o.getD (k + 1) 0 then k + 1 else nxi o k
def nxk (o : List Nat) (i : Nat) : Nat → Nat
  | 0 => 0
  | k + 1 => if k + 1 ≤ i then k + 1 else if o.getD (k + 1) 0 < o.getD i 0 then nxk o i k else k + 1
def swp (o : List Nat) (a b : Nat) : List Nat := (o.set a (o.getD b 0)).set b (o.getD a 0)
def rvs : Nat → List Nat → Nat → Nat → List Nat
  | 0, o, _, _ => o
  | f + 1, o, a, b => if a < b then rvs f (swp o a b) (a + 1) (b - 1) else o
def nxo (n : Nat) (o : List Nat) : Option (List Nat) := match n with
  | 0 => none
  | m + 1 => match nxi o m with
    | 0 => none
    | i + 1 => some (rvs 6 (swp o i (nxk o i m)) (i + 1) m)
def ens (n : Nat) : Nat → List Nat → List (List Nat)
  | 0, _ => []
  | f + 1, o => o :: match nxo n o with
    | none => []
    | some o' => ens n f o'
def ids6 : List Nat := [0, 1, 2, 3, 4, 5]
def lvs (n : Nat) : Nat → List Nat → List (List Nat)
  | 0, p => [p]
  | f + 1, p => (List.range n).flatMap (fun k => if p.contains k then [] else lvs n f (p ++ [k]))
def dgs (p : List Nat) : Nat := p.foldl (fun a k => a * 10 + k) 0
def okO (n : Nat) (o : List Nat) : Bool := Nat.beq o.length 6 && o.all (fun k => Nat.blt k 6) && (o.take n).all (fun k => Nat.blt k n) && (List.range n).all (fun i => Nat.beq ((o.take n).idxOf (o.getD i 0)) i) && (List.range n).all (fun k => Nat.blt ((o.take n).idxOf k) n && Nat.beq (o.getD ((o.take n).idxOf k) 0) k)
def asc : List Nat → Bool
  | [] => true
  | a :: l => match l with
    | [] => true
    | b :: _ => Nat.blt a b && asc l
theorem ens_lvs : ∀ n, n < 7 → (ens n 720 ids6).map (List.take n) = lvs n n [] := by decide +kernel
theorem ens_ok : ∀ n, n < 7 → (ens n 720 ids6).all (okO n) = true := by decide +kernel
theorem lvs_asc : ∀ n, n < 7 → asc ((lvs n n []).map dgs) = true := by decide +kernel
theorem lvs_dgs : ∀ n, n < 7 → (lvs n n []).all (fun p => Nat.blt (dgs p) 1000000) = true := by decide +kernel
theorem lvs_hd : ∀ n, n < 7 → (lvs n n []).head? = some ((List.range n)) := by decide +kernel
theorem okO.all {n : Nat} {o : List Nat} (h : okO n o = true) : o.length = 6 ∧ (∀ k, k < 6 → o.getD k 0 < 6) ∧ (∀ i, i < n → n ≤ 6 → o.getD i 0 < n ∧ (o.take n).idxOf (o.getD i 0) = i) ∧ ∀ k, k < n → (o.take n).idxOf k < n ∧ o.getD ((o.take n).idxOf k) 0 = k := by
  unfold okO at h
  rw [Bool.and_eq_true, Bool.and_eq_true, Bool.and_eq_true, Bool.and_eq_true] at h
  obtain ⟨⟨⟨⟨h1, h2⟩, h3⟩, h4⟩, h5⟩ := h
  have l6 := Nat.eq_of_beq_eq_true h1
  have ge : ∀ k, k < 6 → ∃ h : k < o.length, o.getD k 0 = o[k] := fun k hk => ⟨by omega, by rw [List.getD_eq_getElem?_getD, List.getElem?_eq_getElem (by omega)]; rfl⟩
  refine ⟨l6, fun k hk => ?_, fun i hi hn => ⟨?_, ?_⟩, fun k hk => ?_⟩
  · obtain ⟨q, e⟩ := ge k hk
    rw [e]
    exact sm_blt (List.all_eq_true.mp h2 _ (List.getElem_mem q))
  · obtain ⟨q, e⟩ := ge i (by omega)
    have hl : i < (o.take n).length := by rw [List.length_take]; omega
    have := List.all_eq_true.mp h3 _ (List.getElem_mem hl)
    rw [List.getElem_take] at this
    rw [e]
    exact sm_blt this
  · exact Nat.eq_of_beq_eq_true (List.all_eq_true.mp h4 i (List.mem_range.mpr hi))
  · have := List.all_eq_true.mp h5 k (List.mem_range.mpr hk)
    rw [Bool.and_eq_true] at this
    exact ⟨sm_blt this.1, Nat.eq_of_beq_eq_true this.2⟩
