/-- the way: looking back from b in the last minute -/
theorem rch_one (T : pT) (t dm : Nat → Nat) (b last : Nat) : ∀ n m R, m + n = last → R &&& t m = R → (rch T t dm n m R &&& 1 <<< b = 0 ↔ R &&& gbk T t dm (1 <<< b) 0 last n = 0)
  | 0, m, R, h, hR => by
    have : m = last := by omega
    subst this
    show R &&& 1 <<< b = 0 ↔ R &&& (1 <<< b &&& t m) = 0
    rw [Nat.and_comm (1 <<< b), ← Nat.and_assoc, hR]
  | n + 1, m, R, h, hR => by
    show rch T t dm n (m + 1) (nxt T t dm R (m + 1)) &&& 1 <<< b = 0 ↔ _
    rw [rch_one T t dm b last n (m + 1) _ (by omega) (by unfold nxt; rw [Nat.and_assoc, Nat.and_self])]
    have e1 : last - n = m + 1 := by omega
    show nxt T t dm R (m + 1) &&& gbk T t dm (1 <<< b) 0 last n = 0 ↔ R &&& ((bhi T (gbk T t dm (1 <<< b) 0 last n) (dm (last - n)) (gbk T t dm (1 <<< b) 0 last n) ||| 0) &&& t (last - n - 1)) = 0
    have hg := gbk_sub T t dm (1 <<< b) 0 last n
    rw [e1] at hg
    rw [e1, Nat.or_zero, show m + 1 - 1 = m from rfl]
    generalize gbk T t dm (1 <<< b) 0 last n = A at hg ⊢
    unfold nxt
    rw [Nat.and_assoc, hg, bhi_sym]
    rw [Nat.and_comm (bhi T A (dm (m + 1)) A) (t m), ← Nat.and_assoc, hR]
theorem fs_rch (T : pT) (t dm : Nat → Nat) (b : Nat) : ∀ n m R e, fs T t dm b n m R = e + 1 → m ≤ e ∧ e < m + n ∧ (rch T t dm (e - m) m R).testBit b = true
  | 0, _, _, _, h => by cases h
  | n + 1, m, R, e, h => by
    have h : (if R.testBit b = true then m + 1 else fs T t dm b n (m + 1) (nxt T t dm R (m + 1))) = e + 1 := h
    by_cases q : R.testBit b = true
    · rw [if_pos q] at h
      have : m = e := by omega
      subst this
      refine ⟨Nat.le_refl _, by omega, ?_⟩
      rw [Nat.sub_self]
      exact q
    · rw [if_neg q] at h
      obtain ⟨h1, h2, h3⟩ := fs_rch T t dm b n (m + 1) _ e h
      refine ⟨by omega, by omega, ?_⟩
      rw [show e - m = (e - (m + 1)) + 1 by omega]
      exact h3
/-- where the walk goes on -/
def stp (T : pT) (t dm B : Nat → Nat) (i c : Nat) : Nat := low1 (nxt T t dm (1 <<< c) i &&& B i)
def wlk (T : pT) (t dm B : Nat → Nat) : Nat → Nat → Nat → Nat
  | 0, _, c => c
  | n + 1, i, c => wlk T t dm B n (i + 1) (stp T t dm B i c)
abbrev gB (T : pT) (t dm : Nat → Nat) (b last i : Nat) : Nat := gbk T t dm (1 <<< b) 0 last (last - i)
theorem tb_lt8 {a k : Nat} (h : a < 256) (hk : a.testBit k = true) : k < 8 := by
  cases Nat.lt_or_ge k 8 with
  | inl h => exact h
  | inr h2 =>
    rw [Nat.testBit_lt_two_pow (Nat.lt_of_lt_of_le h (show 2 ^ 8 ≤ 2 ^ k from Nat.pow_le_pow_right (by decide) h2))] at hk
    cases hk
theorem way_on {T : pT} {t dm : Nat → Nat} {b last i c : Nat} (ht : ∀ m, m < 301 → t m < 256) (hl : last < 301) (hi : i < last) (hc : (gB T t dm b last i).testBit c = true) :
    0 < nxt T t dm (1 <<< c) (i + 1) &&& gB T t dm b last (i + 1) ∧ nxt T t dm (1 <<< c) (i + 1) &&& gB T t dm b last (i + 1) < 256 ∧ stp T t dm (gB T t dm b last) (i + 1) c < 8 ∧ (gB T t dm b last (i + 1)).testBit (stp T t dm (gB T t dm b last) (i + 1) c) = true := by
  have hn : last - i = (last - (i + 1)) + 1 := by omega
  have e1 : last - (last - (i + 1)) = i + 1 := by omega
  have hc : (gbk T t dm (1 <<< b) 0 last (last - i)).testBit c = true := hc
  rw [hn] at hc
  have hc : ((bhi T (gbk T t dm (1 <<< b) 0 last (last - (i + 1))) (dm (last - (last - (i + 1)))) (gbk T t dm (1 <<< b) 0 last (last - (i + 1))) ||| 0) &&& t (last - (last - (i + 1)) - 1)).testBit c = true := hc
  rw [e1, Nat.or_zero, Nat.testBit_and, Bool.and_eq_true] at hc
  have hg := gbk_sub T t dm (1 <<< b) 0 last (last - (i + 1))
  rw [e1] at hg
  have hlt := gbk_lt (T := T) (R := 1 <<< b) (also := 0) (dm := dm) ht hl (last - (i + 1))
  have hne : nxt T t dm (1 <<< c) (i + 1) &&& gB T t dm b last (i + 1) ≠ 0 := by
    show nxt T t dm (1 <<< c) (i + 1) &&& gbk T t dm (1 <<< b) 0 last (last - (i + 1)) ≠ 0
    unfold nxt
    rw [Nat.and_assoc, hg]
    intro h
    rw [bhi_sym, Nat.and_comm, one_and] at h
    rw [h] at hc
    exact Bool.false_ne_true hc.1
  have h256 : nxt T t dm (1 <<< c) (i + 1) &&& gB T t dm b last (i + 1) < 256 := Nat.lt_of_le_of_lt Nat.and_le_right hlt
  have hb := (low1_t _ h256 (by omega)).1
  refine ⟨by omega, h256, tb_lt8 h256 hb, ?_⟩
  have hb2 : (nxt T t dm (1 <<< c) (i + 1) &&& gB T t dm b last (i + 1)).testBit (stp T t dm (gB T t dm b last) (i + 1) c) = true := hb
  rw [Nat.testBit_and, Bool.and_eq_true] at hb2
  exact hb2.2
theorem one9 : ∀ c, c < 8 → 1 <<< c < 256 ∧ 0 < 1 <<< c ∧ (1 <<< c) < 1024 := by decide
