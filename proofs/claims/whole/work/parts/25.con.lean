/-! what a call promises, by the small machine's answer -/
section Rows
variable {p : Program} {l : Launch} {e : Env} {R : Room} {s : State} {m : MethodId} {args : Array Value} {below : List Frame} {meth : Method} {c : Code} {H : Heap} {locs : List Loc} {cells slots : Nat} {Q : State → Prop}
variable {mc ms : Nat} {free : Addr → Prop} {A0 A1 : Nat → Prop} {H0 : Heap} {a : Array Value} {pc : Nat} {ls : Array Slot} {st0 rest : List Value}
theorem vx_callr {S SX : Type} {post : S → Prop} {px : SX → Prop} {B : S → Nat → State → Prop} {BX : String → SX → State → Prop} {AX : Nat → Prop} (hr : vx_Run p l e R s m args below meth c H locs cells slots mc ms (F0 m pc ls st0) rest (va_Qr post B A1 a) (vx_X px BX AX) free) (hS : va_S A0 H0 H locs) (hA : ∀ q, q < H.size → A1 q → A0 q) (hf : ∀ q, free q → A0 q) (hAX : ∀ q, q < H.size → AX q → A0 q)
    (kx : ∀ (E : String) (ce : Cell) (q9 : Addr) (u : SX) (t : State) (H1 : Heap) (locs1 : List Loc), t.heap = H1 → s.vm.Alike t.vm → px u → BX E u t → H.size ≤ H1.size → (∀ q : Nat, q < H.size → ¬ AX q → H1[q]? = H[q]?) → va_S A0 H0 H1 locs1 → H1[q9]? = some ce → ce.vm = .none → s.vm.findClass E = some ce.cls → vx_W p l e R s m args below meth c H1 locs1 (cells + mc) (slots + ms) Q (F0 m pc ls rest) q9)
    (kk : ∀ (r : Nat) (u : S) (t : State) (H1 : Heap) (locs1 : List Loc), t.heap = H1 → s.vm.Alike t.vm → post u → B u r t → H.size ≤ H1.size → (∀ q : Nat, q < H.size → ¬ A1 q → H1[q]? = H[q]?) → va_S A0 H0 H1 locs1 → W p l e R s m args below meth c H1 locs1 (cells + mc) (slots + ms) Q (F0 m (pc + 3) ls (.ref r :: rest))) : W p l e R s m args below meth c H locs cells slots Q (F0 m pc ls st0) := by
  intro T hT X
  rcases hr T hT X with ⟨v, st₀, t, T', L, h0, X', hL, e1, e2, ⟨⟨u, r, hv, hp, hb⟩, hF⟩, st⟩ | ⟨q, st₀, t, T', L, E, ce, h0, X', hL, e1, e2, ⟨u, hp, hb, hF⟩, hce, hcv, hcl, st⟩
  · cases hv
    obtain ⟨k1, k2, k3⟩ := vx_keep h0 e1 hS hA hf hL hF
    obtain ⟨t2, a1, b1⟩ := kk r u t T'.heap (locs ++ L) e1.symm (by rw [← e2]; exact X'.warmed.alike) hp hb k1 k2 k3 T' rfl X'
    exact ⟨t2, st t2 a1, b1⟩
  · obtain ⟨k1, k2, k3⟩ := vx_keep h0 e1 hS hAX hf hL hF
    obtain ⟨t2, a1, b1⟩ := kx E ce q u t T'.heap (locs ++ L) e1.symm (by rw [← e2]; exact X'.warmed.alike) hp hb k1 k2 k3 (by rw [e1]; exact hce) hcv hcl T' rfl X'
    exact ⟨t2, st.trans a1, b1⟩
end Rows
section SMC
variable (D : va_G) (tc : Nat → ClassId) (adV : Nat → Nat) (Z : sm_G) (B : Nat)
/-- the world as a callee finds it, or leaves it -/
def sm_U (ρ : Nat → Nat) (n : Nat) (R : sm_R) (G : sm_G) (L : sm_L) (U : State) : Prop :=
  va_P D vwCl (sm_ws tc ρ n R G L) U.heap ∧ va_D (fun q => B ≤ q) (sm_ws tc ρ n R G L) ∧ (∀ r k, R r k ≤ n) ∧ n ≤ 342 ∧ G 8191 = Z 8191 ∧ G 8190 = Z 8190
def sm_Pc (ρ : Nat → Nat) (as : List Value) (n : Nat) (R : sm_R) (G : sm_G) (L : sm_L) : Array Value → State → Prop := fun a U => a = (as.map (sm_cv ρ)).toArray ∧ sm_U D tc Z B ρ n R G L U ∧ sm_St D tc ρ adV Z B U
/-- the world behind the call, its cells at ρ' -/
def sm_BB (ρ : Nat → Nat) (n : Nat) (S : sm_S) (ρ' : Nat → Nat) (t : State) : Prop := (∀ r, r ≤ n ∨ S.1 < r → ρ' r = ρ r) ∧ sm_U D tc Z B ρ' S.1 S.2.1 S.2.2.2.1 S.2.2.2.2 t
def sm_QC (ρ : Nat → Nat) (n : Nat) (r : sm_Res) (S : sm_S) : Array Value → State → Outcome → State → Prop := match r with
  | .inl none => va_Qv (fun _ : Nat → Nat => True) (sm_BB D tc Z B ρ n S) (fun q => B ≤ q)
  | .inl (some (.int a)) => va_Qi (fun (b : Int32) (_ : Nat → Nat) => b = a) (sm_BB D tc Z B ρ n S) (fun q => B ≤ q)
  | .inl (some (.long a)) => va_Ql (fun (b : Int64) (_ : Nat → Nat) => b = a) (sm_BB D tc Z B ρ n S) (fun q => B ≤ q)
  | .inl (some (.ref a)) => va_Qr (fun _ : Nat → Nat => True) (fun ρ' q t => (a ≠ 0 ∧ q = ρ' a) ∧ sm_BB D tc Z B ρ n S ρ' t) (fun q => B ≤ q)
  | _ => fun _ _ _ _ => False
def sm_XC (ρ : Nat → Nat) (n : Nat) (r : sm_Res) (S : sm_S) : String → State → State → Prop := vx_X (fun _ : Nat → Nat => True) (fun E ρ' t => (∃ e, r = .inr e ∧ E = sm_xn e) ∧ sm_BB D tc Z B ρ n S ρ' t) (fun q => B ≤ q)
/-- the words that each method's proof asks: its own code's, and all good ones -/
def sm_wd (j : Nat) : List Cond := sm_cw0 j :: sm_tb
def sm_mc (n x n' x' : Nat) : Nat := n' - n + (x' - x)
def sm_ms (n x n' x' : Nat) : Nat := sm_pre n' - sm_pre n + 6 * (x' - x)
def sm_rmd (d mc ms : Nat) : Room := { frames := d + 20, cells := mc, slots := ms, locals := 64 * d + 400 }
/-- every call of depth d keeps its contract -/
def sm_Con (l : Launch) (d : Nat) (cx : sm_CX) : Prop := ∀ (j : Nat) (as : List Value) (n : Nat) (R : sm_R) (x : Nat) (G : sm_G) (L : sm_L) (r : sm_Res) (n' : Nat) (R' : sm_R) (x' : Nat) (G' : sm_G) (L' : sm_L),
  cx j as (n, R, x, G, L) = some (r, n', R', x', G', L') → (n' ≤ 342 → n ≤ n' ∧ x ≤ x') ∧ (j < 512 → n' = n ∧ R' = R) ∧ (n' ≤ 342 → (j = 1 ∨ j = 2 ∨ 5 < j) → j ≠ 531 → ∀ ρ, vx_Met l (sm_y j) (sm_wd j) (sm_rmd d (sm_mc n x n' x') (sm_ms n x n' x')) (sm_Pc D tc adV Z B ρ as n R G L) (sm_QC D tc Z B ρ n r (n', R', x', G', L')) (sm_XC D tc Z B ρ n r (n', R', x', G', L')) (sm_mc n x n' x') (sm_ms n x n' x') (fun q => B ≤ q))
variable {D tc adV Z B}
theorem sm_AOA.moved {t : FieldType} {u U : State} (hvm : u.vm.Alike U.vm) (h : va_AOA t u) : va_AOA t U := by
  have hsp : ∃ comp c k, u.vm.findClass (FieldType.array t).toString = some comp ∧ (u.vm.classes.findIdx? fun (x : Class) => match x.kind with | .array component _ => component == comp | _ => false) = some c ∧ u.vm.classes[c]? = some k ∧ k.kind = .array comp (.array t) ∧ u.vm.findClass ("[" ++ (FieldType.array t).toString) = some c := by
    unfold va_AOA Cond.before at h
    simp only [Cond.holds, Cond.value, beq_iff_eq] at h
    cases hc : u.vm.findClass (FieldType.array t).toString with
    | none => simp [hc] at h
    | some comp =>
      simp only [hc, Option.bind_some, Option.bind_eq_some_iff, Option.map_eq_some_iff] at h
      obtain ⟨c, hi, k, hk, hb⟩ := h
      obtain ⟨hlt, hp, -⟩ := Array.findIdx?_eq_some_iff_getElem.mp hi
      have hkk : u.vm.classes[c] = k := (Array.getElem?_eq_some_iff.mp hk).2
      rw [hkk] at hp
      cases hkind : k.kind with
      | array component ty =>
        rw [hkind] at hb hp
        simp at hb hp
        exact ⟨comp, c, k, rfl, hi, hk, by rw [hkind, hp, hb.1], hb.2⟩
      | _ => rw [hkind] at hb; simp at hb
  obtain ⟨comp, c, k, h1, h2, h3, h4, h5⟩ := hsp
  obtain ⟨k', hk', he⟩ := hvm.2.2 _ _ h3
  have hi : (U.vm.classes.findIdx? fun (x : Class) => match x.kind with | .array component _ => component == comp | _ => false) = some c := by
    have e1 := va_idx_bare u.vm comp
    have e2 := va_idx_bare U.vm comp
    have e3 : U.vm.bare = u.vm.bare := by first | exact hvm.bare_eq | exact hvm.bare_eq.symm
    rw [e3] at e2
    exact e2.symm.trans (e1.trans h2)
  have hkind : k'.kind = .array comp (.array t) := by rw [he]; exact h4
  have f1 : U.vm.findClass (FieldType.array t).toString = some comp := by rw [hvm.findClass]; exact h1
  have f2 : U.vm.findClass ("[" ++ (FieldType.array t).toString) = some c := by rw [hvm.findClass]; exact h5
  unfold va_AOA Cond.before Cond.holds
  simp only [Cond.value]
  rw [f1, Option.bind_some]
  refine (congrArg (fun o : Option Nat => (o.bind (fun c => (U.vm.classes[c]?).map fun (k : Class) => match k.kind with | .array _ ty => decide (ty = FieldType.array t) && decide (U.vm.findClass ("[" ++ (FieldType.array t).toString) = some c) | _ => false) == some true)) hi).trans ?_
  simp [hk', hkind, f2]
theorem sm_St.moved {ρ ρ' : Nat → Nat} {s U : State} (hW : s.WarmedH U.vm) (hρ : ∀ r, 4096 ≤ r → ρ' r = ρ r) (hh : ∀ q, q < B → U.heap[q]? = s.heap[q]?) (hB : B ≤ U.heap.size) (h : sm_St D tc ρ adV Z B s) : sm_St D tc ρ' adV Z B U := by
  obtain ⟨hK, hnz, ⟨ha1, ha2, ha3, ha4, ha5⟩, hstr, hvs, hU, hN, ⟨hX, hX1, hX2, hX3⟩, hB0⟩ := h
  have ha := hW.alike
  have hq : ∀ a : Nat, a < s.heap.size → ¬ B ≤ a → U.heap[a]? = s.heap[a]? := fun a _ h2 => hh a (Nat.not_le.mp h2)
  refine ⟨va_K.moved ha hK, sm_nz.warm hW hnz, ⟨va_AO.moved ha ha1, va_AO.moved ha ha2, va_AO.moved ha ha3, sm_AOA.moved ha ha4, fun a b g1 g2 g3 => va_Nc.moved ha (ha5 a b g1 g2 g3)⟩, fun own k i h1 h2 => ?_, fun i hi => ?_, (vx_Zq.moved ha hU).kept hq, ⟨(vx_Zq.moved ha hN.1).kept hq, (va_Z.moved ha hN.2.1).kept hq, (va_Zq.moved ha hN.2.2).kept hq⟩, ⟨?_, ?_, ?_, hX3⟩, hB⟩
  · rw [hρ _ (Nat.le_add_right _ _)]
    exact vk_R.warm hW (hstr own k i h1 h2)
  · rw [hρ _ (Nat.le_add_right _ _)]
    exact (vk_S.moved ha (hvs i hi)).kept hq
  · rw [hρ 8191 (by decide)]
    exact (va_X.moved ha hX).kept (hh _ hX2)
  · rw [hρ 8191 (by decide)]
    exact Nat.lt_of_lt_of_le hX2 hB
  · rw [hρ 8191 (by decide)]
    exact hX2
theorem sm_blind {ρ : Nat → Nat} {as : List Value} {n : Nat} {R : sm_R} {G : sm_G} {L : sm_L} : FrameBlind (sm_Pc D tc adV Z B ρ as n R G L) := by
  intro a U g mk h
  obtain ⟨h1, h2, h3⟩ := h
  exact ⟨h1, h2, sm_St.moved (U := U.calling g mk a) (State.WarmedH.refl U) (fun _ _ => rfl) (fun _ _ => rfl) h3.2.2.2.2.2.2.2.2 h3⟩
end SMC
