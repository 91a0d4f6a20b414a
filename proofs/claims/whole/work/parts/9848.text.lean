/-! texts: bytes, and how far a run of a kind goes -/
def wfu (q : Nat → Bool) : Nat → Nat → Nat
  | 0, a => a
  | f + 1, a => if q a = true then wfu q f (a + 1) else a
def wh (q : Nat → Bool) (n a : Nat) : Nat := wfu q (n - a) a
theorem wh_go {q : Nat → Bool} {n a : Nat} (ha : a < n) (h : q a = true) : wh q n a = wh q n (a + 1) := by
  unfold wh
  rw [show n - a = n - (a + 1) + 1 by omega]
  show (if q a = true then _ else _) = _
  rw [if_pos h]
theorem wh_st {q : Nat → Bool} {n a : Nat} (h : q a = false) : wh q n a = a := by
  unfold wh
  cases n - a with
  | zero => rfl
  | succ f =>
    show (if q a = true then _ else a) = a
    rw [h]
    rfl
theorem wh_end {q : Nat → Bool} {n a : Nat} (h : n ≤ a) : wh q n a = a := by
  unfold wh
  rw [show n - a = 0 by omega]
  rfl
theorem wh_ind {q : Nat → Bool} {n : Nat} (hq : ∀ a, q a = true → a < n) {P : Nat → Prop} (h1 : ∀ a, q a = true → P (a + 1) → P a) (h0 : ∀ a, q a = false → P a) : ∀ a, P a := by
  have key : ∀ k a, n ≤ a + k → P a := by
    intro k
    induction k with
    | zero =>
      intro a h
      refine h0 a ?_
      cases c : q a with
      | false => rfl
      | true => have := hq a c; omega
    | succ k ih =>
      intro a h
      cases c : q a with
      | false => exact h0 a c
      | true => exact h1 a c (ih (a + 1) (by omega))
  exact fun a => key n a (by omega)
theorem wh_ge {q : Nat → Bool} {n : Nat} (hq : ∀ a, q a = true → a < n) : ∀ a, a ≤ wh q n a :=
  wh_ind hq (P := fun a => a ≤ wh q n a) (fun a h1 h2 => by rw [wh_go (hq a h1) h1]; omega) (fun a h => by rw [wh_st h]; exact Nat.le_refl a)
theorem wh_le {q : Nat → Bool} {n : Nat} (hq : ∀ a, q a = true → a < n) : ∀ a, a ≤ n → wh q n a ≤ n :=
  wh_ind hq (P := fun a => a ≤ n → wh q n a ≤ n) (fun a h1 h2 h3 => by rw [wh_go (hq a h1) h1]; exact h2 (hq a h1)) (fun a h h3 => by rw [wh_st h]; exact h3)
theorem wh_no {q : Nat → Bool} {n : Nat} (hq : ∀ a, q a = true → a < n) : ∀ a, q (wh q n a) = false :=
  wh_ind hq (P := fun a => q (wh q n a) = false) (fun a h1 h2 => by rw [wh_go (hq a h1) h1]; exact h2) (fun a h => by rw [wh_st h]; exact h)
theorem wh_in {q : Nat → Bool} {n : Nat} (hq : ∀ a, q a = true → a < n) : ∀ a k, a ≤ k → k < wh q n a → q k = true :=
  wh_ind hq (P := fun a => ∀ k, a ≤ k → k < wh q n a → q k = true) (fun a h1 h2 k k1 k2 => by
    rw [wh_go (hq a h1) h1] at k2
    by_cases z : k = a
    · rw [z]; exact h1
    · exact h2 k (by omega) k2) (fun a h k k1 k2 => by rw [wh_st h] at k2; omega)
/-- blanks, letters, digits -/
def bl (B : Nat → Nat) (n a : Nat) : Bool := decide (a < n) && decide (B a = 32)
def lt (B : Nat → Nat) (n a : Nat) : Bool := decide (a < n) && (decide (97 ≤ B a) && decide (B a ≤ 122))
def dg (B : Nat → Nat) (n a : Nat) : Bool := decide (a < n) && (decide (48 ≤ B a) && decide (B a ≤ 57))
theorem bl_n {B : Nat → Nat} {n : Nat} (a : Nat) (h : bl B n a = true) : a < n := by
  unfold bl at h
  rw [Bool.and_eq_true] at h
  exact of_decide_eq_true h.1
theorem lt_n {B : Nat → Nat} {n : Nat} (a : Nat) (h : lt B n a = true) : a < n := by
  unfold lt at h
  rw [Bool.and_eq_true] at h
  exact of_decide_eq_true h.1
theorem dg_n {B : Nat → Nat} {n : Nat} (a : Nat) (h : dg B n a = true) : a < n := by
  unfold dg at h
  rw [Bool.and_eq_true] at h
  exact of_decide_eq_true h.1
theorem bl_t {B : Nat → Nat} {n a : Nat} (h : a < n) : (bl B n a = true) = (B a = 32) := by
  unfold bl
  rw [decide_eq_true h, Bool.true_and, decide_eq_true_eq]
theorem lt_t {B : Nat → Nat} {n a : Nat} (h : a < n) : (lt B n a = true) = (97 ≤ B a ∧ B a ≤ 122) := by
  unfold lt
  rw [decide_eq_true h, Bool.true_and, Bool.and_eq_true, decide_eq_true_eq, decide_eq_true_eq]
theorem dg_t {B : Nat → Nat} {n a : Nat} (h : a < n) : (dg B n a = true) = (48 ≤ B a ∧ B a ≤ 57) := by
  unfold dg
  rw [decide_eq_true h, Bool.true_and, Bool.and_eq_true, decide_eq_true_eq, decide_eq_true_eq]
theorem bl_e {B : Nat → Nat} {n a : Nat} (h : n ≤ a) : bl B n a = false := by
  unfold bl
  rw [decide_eq_false (by omega), Bool.false_and]
theorem lt_e {B : Nat → Nat} {n a : Nat} (h : n ≤ a) : lt B n a = false := by
  unfold lt
  rw [decide_eq_false (by omega), Bool.false_and]
theorem dg_e {B : Nat → Nat} {n a : Nat} (h : n ≤ a) : dg B n a = false := by
  unfold dg
  rw [decide_eq_false (by omega), Bool.false_and]
def sk (B : Nat → Nat) (n a : Nat) : Nat := wh (bl B n) n a
def we (B : Nat → Nat) (n a : Nat) : Nat := wh (lt B n) n a
def ne (B : Nat → Nat) (n a : Nat) : Nat := wh (dg B n) n a
theorem sk_id {B : Nat → Nat} {n a : Nat} : sk B n (sk B n a) = sk B n a := wh_st (wh_no bl_n a)
theorem sk_le {B : Nat → Nat} {n a : Nat} (h : a ≤ n) : sk B n a ≤ n := wh_le bl_n a h
theorem sk_ge {B : Nat → Nat} {n a : Nat} : a ≤ sk B n a := wh_ge bl_n a
theorem we_le {B : Nat → Nat} {n a : Nat} (h : a ≤ n) : we B n a ≤ n := wh_le lt_n a h
theorem we_ge {B : Nat → Nat} {n a : Nat} : a ≤ we B n a := wh_ge lt_n a
theorem ne_le {B : Nat → Nat} {n a : Nat} (h : a ≤ n) : ne B n a ≤ n := wh_le dg_n a h
theorem ne_ge {B : Nat → Nat} {n a : Nat} : a ≤ ne B n a := wh_ge dg_n a
/-- the bytes as the class holds them -/
theorem cb_lt : ∀ b, b < 256 → (¬ i2b (i3 b) < i3 97 ∧ i2b (i3 b) ≤ i3 122 ↔ 97 ≤ b ∧ b ≤ 122) := by decide +kernel
theorem cb_dg : ∀ b, b < 256 → (¬ i2b (i3 b) < i3 48 ∧ i2b (i3 b) ≤ i3 57 ↔ 48 ≤ b ∧ b ≤ 57) := by decide +kernel
theorem cb_sm : ∀ b, b < 128 → i2b (i3 b) = i3 b := by decide +kernel
theorem cb_ng : ∀ b, b < 256 → 128 ≤ b → i2b (i3 b) < i3 0 := by decide +kernel
theorem cb_eq {b c : Nat} (hb : b < 256) (hc : c < 128) : (i2b (i3 b) = i3 c) = (b = c) := by
  by_cases h : b < 128
  · rw [cb_sm b h, i3_eq (by omega) (by omega)]
  · refine propext ⟨fun z => ?_, fun z => by omega⟩
    have h1 := cb_ng b hb (by omega)
    rw [z, i3_lt (by omega) (by omega)] at h1
    omega
/-- the value of digits from a on, e of them are read -/
def nval (B : Nat → Nat) : Nat → Nat → Nat → Nat
  | 0, _, v => v
  | f + 1, a, v => nval B f (a + 1) (if v * 10 + (B a - 48) ≤ 100000 then v * 10 + (B a - 48) else 100000)
def nv (B : Nat → Nat) (n s : Nat) : Nat := nval B (ne B n s - s) s 0
/-- a word's letters, the last first -/
def wr (B : Nat → Nat) (s : Nat) : Nat → List Nat
  | 0 => []
  | m + 1 => (B (s + m) - 96) :: wr B s m
def wl (B : Nat → Nat) (n s : Nat) : List Nat := wr B s (we B n s - s)
def cdr : List Nat → Nat
  | [] => 0
  | c :: l => 27 * cdr l + c
theorem cdr_inj : ∀ (l l' : List Nat), (∀ c, c ∈ l → 1 ≤ c ∧ c ≤ 26) → (∀ c, c ∈ l' → 1 ≤ c ∧ c ≤ 26) → cdr l = cdr l' → l = l'
  | [], [], _, _, _ => rfl
  | [], c :: l, _, h, e => by
    have := h c (List.mem_cons_self ..)
    have e : 0 = 27 * cdr l + c := e
    omega
  | c :: l, [], h, _, e => by
    have := h c (List.mem_cons_self ..)
    have e : 27 * cdr l + c = 0 := e
    omega
  | c :: l, c' :: l', h, h', e => by
    have a := h c (List.mem_cons_self ..)
    have a' := h' c' (List.mem_cons_self ..)
    have e : 27 * cdr l + c = 27 * cdr l' + c' := e
    have e1 : c = c' := by omega
    have e2 : cdr l = cdr l' := by omega
    rw [e1, cdr_inj l l' (fun c hc => h c (List.mem_cons_of_mem _ hc)) (fun c hc => h' c (List.mem_cons_of_mem _ hc)) e2]
theorem wr_len {B : Nat → Nat} {s : Nat} : ∀ m, (wr B s m).length = m
  | 0 => rfl
  | m + 1 => by
    show (wr B s m).length + 1 = _
    rw [wr_len m]
theorem wr_ok {B : Nat → Nat} {n s : Nat} : ∀ m, m ≤ we B n s - s → ∀ c, c ∈ wr B s m → 1 ≤ c ∧ c ≤ 26
  | 0, _, c, h => by cases h
  | m + 1, hm, c, h => by
    rcases List.mem_cons.mp h with rfl | h
    · have h1 := wh_in (q := lt B n) (n := n) lt_n s (s + m) (by omega) (by unfold we at hm; omega)
      rw [lt_t (lt_n _ h1)] at h1
      omega
    · exact wr_ok (n := n) m (by omega) c h
theorem cdr_lt : ∀ (l : List Nat), (∀ c, c ∈ l → 1 ≤ c ∧ c ≤ 26) → cdr l < 27 ^ l.length
  | [], _ => by decide
  | c :: l, h => by
    have a := h c (List.mem_cons_self ..)
    have ih := cdr_lt l (fun c hc => h c (List.mem_cons_of_mem _ hc))
    show 27 * cdr l + c < 27 ^ (l.length + 1)
    rw [Nat.pow_succ]
    omega
