/-! the words -/
abbrev w_seen : List Nat := [14, 5, 5, 19]
theorem t_seen : isT 18 w_seen := ⟨by decide, by decide, by decide, by decide⟩
theorem v_seen : isW 19 5 5 14 0 0 0 w_seen := ⟨by decide, by decide, by decide, by decide⟩
abbrev w_gone : List Nat := [5, 14, 15, 7]
theorem t_gone : isT 7 w_gone := ⟨by decide, by decide, by decide, by decide⟩
theorem v_gone : isW 7 15 14 5 0 0 0 w_gone := ⟨by decide, by decide, by decide, by decide⟩
abbrev w_sleeper : List Nat := [18, 5, 16, 5, 5, 12, 19]
theorem t_sleeper : isT 19 w_sleeper := ⟨by decide, by decide, by decide, by decide⟩
theorem v_sleeper : isW 19 12 5 5 16 5 18 w_sleeper := ⟨by decide, by decide, by decide, by decide⟩
abbrev w_door : List Nat := [18, 15, 15, 4]
theorem t_door : isT 4 w_door := ⟨by decide, by decide, by decide, by decide⟩
theorem v_door : isW 4 15 15 18 0 0 0 w_door := ⟨by decide, by decide, by decide, by decide⟩
abbrev w_turns : List Nat := [19, 14, 18, 21, 20]
theorem t_turns : isT 22 w_turns := ⟨by decide, by decide, by decide, by decide⟩
theorem v_turns : isW 20 21 18 14 19 0 0 w_turns := ⟨by decide, by decide, by decide, by decide⟩
abbrev w_noise : List Nat := [5, 19, 9, 15, 14]
theorem t_noise : isT 15 w_noise := ⟨by decide, by decide, by decide, by decide⟩
theorem v_noise : isW 14 15 9 19 5 0 0 w_noise := ⟨by decide, by decide, by decide, by decide⟩
abbrev w_twin : List Nat := [14, 9, 23, 20]
theorem t_twin : isT 23 w_twin := ⟨by decide, by decide, by decide, by decide⟩
theorem v_twin : isW 20 23 9 14 0 0 0 w_twin := ⟨by decide, by decide, by decide, by decide⟩
abbrev w_dreamer : List Nat := [18, 5, 13, 1, 5, 18, 4]
theorem t_dreamer : isT 5 w_dreamer := ⟨by decide, by decide, by decide, by decide⟩
theorem v_dreamer : isW 4 18 5 1 13 5 18 w_dreamer := ⟨by decide, by decide, by decide, by decide⟩
abbrev w_milk : List Nat := [11, 12, 9, 13]
theorem t_milk : isT 11 w_milk := ⟨by decide, by decide, by decide, by decide⟩
theorem v_milk : isW 13 9 12 11 0 0 0 w_milk := ⟨by decide, by decide, by decide, by decide⟩
abbrev w_to : List Nat := [15, 20]
theorem t_to : isT 21 w_to := ⟨by decide, by decide, by decide, by decide⟩
theorem v_to : isW 20 15 0 0 0 0 0 w_to := ⟨by decide, by decide, by decide, by decide⟩
abbrev w_wait : List Nat := [20, 9, 1, 23]
theorem t_wait : isT 25 w_wait := ⟨by decide, by decide, by decide, by decide⟩
theorem v_wait : isW 23 1 9 20 0 0 0 w_wait := ⟨by decide, by decide, by decide, by decide⟩
abbrev w_call : List Nat := [12, 12, 1, 3]
theorem t_call : isT 3 w_call := ⟨by decide, by decide, by decide, by decide⟩
theorem v_call : isW 3 1 12 12 0 0 0 w_call := ⟨by decide, by decide, by decide, by decide⟩
abbrev w_again : List Nat := [14, 9, 1, 7, 1]
theorem t_again : isT 1 w_again := ⟨by decide, by decide, by decide, by decide⟩
theorem v_again : isW 1 7 1 9 14 0 0 w_again := ⟨by decide, by decide, by decide, by decide⟩
abbrev w_until : List Nat := [12, 9, 20, 14, 21]
theorem t_until : isT 24 w_until := ⟨by decide, by decide, by decide, by decide⟩
theorem v_until : isW 21 14 20 9 12 0 0 w_until := ⟨by decide, by decide, by decide, by decide⟩
abbrev w_if : List Nat := [6, 9]
theorem t_if : isT 8 w_if := ⟨by decide, by decide, by decide, by decide⟩
theorem v_if : isW 9 6 0 0 0 0 0 w_if := ⟨by decide, by decide, by decide, by decide⟩
abbrev w_not : List Nat := [20, 15, 14]
theorem t_not : isT 16 w_not := ⟨by decide, by decide, by decide, by decide⟩
theorem v_not : isW 14 15 20 0 0 0 0 w_not := ⟨by decide, by decide, by decide, by decide⟩
abbrev w_in : List Nat := [14, 9]
theorem t_in : isT 9 w_in := ⟨by decide, by decide, by decide, by decide⟩
theorem v_in : isW 9 14 0 0 0 0 0 w_in := ⟨by decide, by decide, by decide, by decide⟩
abbrev w_open : List Nat := [14, 5, 16, 15]
theorem t_open : isT 17 w_open := ⟨by decide, by decide, by decide, by decide⟩
theorem v_open : isW 15 16 5 14 0 0 0 w_open := ⟨by decide, by decide, by decide, by decide⟩
abbrev w_there : List Nat := [5, 18, 5, 8, 20]
theorem t_there : isT 20 w_there := ⟨by decide, by decide, by decide, by decide⟩
theorem v_there : isW 20 8 5 18 5 0 0 w_there := ⟨by decide, by decide, by decide, by decide⟩
abbrev w_after : List Nat := [18, 5, 20, 6, 1]
theorem t_after : isT 0 w_after := ⟨by decide, by decide, by decide, by decide⟩
theorem v_after : isW 1 6 20 5 18 0 0 w_after := ⟨by decide, by decide, by decide, by decide⟩
abbrev w_met : List Nat := [20, 5, 13]
theorem t_met : isT 10 w_met := ⟨by decide, by decide, by decide, by decide⟩
theorem v_met : isW 13 5 20 0 0 0 0 w_met := ⟨by decide, by decide, by decide, by decide⟩
abbrev w_else : List Nat := [5, 19, 12, 5]
theorem t_else : isT 6 w_else := ⟨by decide, by decide, by decide, by decide⟩
theorem v_else : isW 5 12 19 5 0 0 0 w_else := ⟨by decide, by decide, by decide, by decide⟩
theorem nuC {D x : Nat} {V : pV} {G : sm_G} {L : sm_L} {B : Nat → Nat} {n : Nat} {c : St} {vl vh : Int32} (lo h : Nat) (hD0 : 3 ≤ D) (hr : rC G B n c) (hlo : lo < 100000) (hh : h ≤ 100000) (el : vl = i3 lo) (eh : vh = mi h) : ∃ G', sm_cv0 D 143 342 (RR V) [.ref 2, .int vl, .int vh] (x, G, L) = oI (i3 (nuS B n lo h c).1) x G' L ∧ tF G G' ∧ rC G' B n (nuS B n lo h c).2 ∧ (c.1 = 0 → G' 2 6 = i3 c.2.2 ∧ c.2.2 ≤ n) := by
  rw [el, eh]
  exact s_143 hD0 hr hlo hh
theorem nuM {D x : Nat} {V : pV} {G : sm_G} {L : sm_L} {B : Nat → Nat} {n : Nat} {c : St} {vl vh : Int32} (lo h : Nat) (hD0 : 3 ≤ D) (hr : rM G B n c) (hlo : lo < 100000) (hh : h ≤ 100000) (el : vl = i3 lo) (eh : vh = mi h) : ∃ G', sm_cv0 D 232 342 (RR V) [.ref 156, .int vl, .int vh] (x, G, L) = oI (i3 (nuS B n lo h c).1) x G' L ∧ mF G G' ∧ rM G' B n (nuS B n lo h c).2 := by
  rw [el, eh]
  exact s_232 hD0 hr hlo hh
theorem mi_300 : i3 300 = mi 301 := (mi_succ 300).symm
theorem mi_15 : i3 15 = mi 16 := (mi_succ 15).symm
theorem mi_1 : i3 1 = mi 2 := (mi_succ 1).symm
theorem mi_5 : i3 5 = mi 6 := (mi_succ 5).symm
theorem mi_99 : i3 99 = mi 100 := (mi_succ 99).symm
theorem mi_20 : i3 20 = mi 21 := (mi_succ 20).symm
/-! what a clause adds to a street -/
def upn (T : pT) (r k v : Nat) : pT := fun a j => if a = r ∧ j = k then v else T a j
theorem upn_ne {T : pT} {r k v a j : Nat} (h : a ≠ r ∨ j ≠ k) : upn T r k v a j = T a j := by
  unfold upn
  rw [if_neg (by omega)]
theorem upn_same {T : pT} {r k v : Nat} : upn T r k v r k = v := by
  unfold upn
  rw [if_pos ⟨rfl, rfl⟩]
def tSl (T : pT) (w : Nat) : pT := upn (upn (upn T 0 0 (sl T + 1)) 1 (sl T) w) 2 (sl T) 0
def pSl (T P : pT) (f u : Nat) : pT := upn (upn P 3 (sl T) f) 4 (sl T) u
def tDo (T : pT) (a b o : Nat) : pT := upn (upn (upn (upn T 0 1 (dn T + 1)) 3 (dn T) a) 4 (dn T) b) 5 (dn T) o
def pNo (P : pT) (m s : Nat) : pT := upn (upn (upn P 0 0 (nn P + 1)) 1 (nn P) m) 2 (nn P) s
def tTw (T : pT) (a b : Nat) : pT := upn (upn (upn (upn (upn T 0 2 (tn T + 1)) 2 a (b + 1)) 2 b (a + 1)) 9 (tn T) a) 10 (tn T) b
def tDr (T : pT) (r m : Nat) : pT := upn (upn (upn T 0 3 (dr T + 1)) 7 (dr T) r) 8 (dr T) m
def tMi (T : pT) (m : Nat) : pT := upn T 0 4 (m + 1)
def tTu (T : pT) (s d : Nat) : pT := upn T 6 s (tu T s ||| 1 <<< d)
theorem okT_Sl {T : pT} {w : Nat} (h : okT T) (h8 : sl T < 8) (hw : w ≤ 15) : okT (tSl T w) := by
  obtain ⟨⟨b1, b2, b3, b4, b5⟩, h2, h3, h4, h5, h6, h7, h9⟩ := h
  have e0 : sl (tSl T w) = sl T + 1 := rfl
  have e1 : ∀ k, wt (tSl T w) k = if k = sl T then w else wt T k := fun k => by
    show upn (upn (upn T 0 0 (sl T + 1)) 1 (sl T) w) 2 (sl T) 0 1 k = _
    rw [upn_ne (by omega)]
    by_cases q : k = sl T
    · rw [q, upn_same, if_pos rfl]
    · rw [upn_ne (by omega), upn_ne (by omega), if_neg q]
  have e2 : ∀ k, tp (tSl T w) k = if k = sl T then 0 else tp T k := fun k => by
    show upn (upn (upn T 0 0 (sl T + 1)) 1 (sl T) w) 2 (sl T) 0 2 k = _
    by_cases q : k = sl T
    · rw [q, upn_same, if_pos rfl]
    · rw [upn_ne (by omega), upn_ne (by omega), upn_ne (by omega), if_neg q]
  refine ⟨⟨by omega, b2, b3, b4, b5⟩, fun k hk => ?_, fun k hk => ?_, fun d hd => ?_, h5, fun d hd => ?_, fun i hi => ?_, fun k hk j => ?_⟩
  · rw [e1]
    split
    · exact hw
    · exact h2 k (by omega)
  · rw [e2, e0]
    split
    · omega
    · have := h3 k (by omega); omega
  · have := h4 d hd
    exact ⟨by rw [e0]; exact Nat.lt_succ_of_lt this.1, by rw [e0]; exact Nat.lt_succ_of_lt this.2.1, this.2.2⟩
  · have := h6 d hd
    exact ⟨by rw [e0]; exact Nat.lt_succ_of_lt this.1, this.2⟩
  · have := h7 i hi
    exact ⟨by rw [e0]; exact Nat.lt_succ_of_lt this.1, by rw [e0]; exact Nat.lt_succ_of_lt this.2.1, this.2.2⟩
  · rw [e2]
    by_cases q : k = sl T
    · rw [if_pos q]
      constructor
      · intro z; omega
      · rintro ⟨i, hi, z⟩
        have := h7 i hi
        have z : (ta T i = k ∧ tc2 T i = j) ∨ (ta T i = j ∧ tc2 T i = k) := z
        omega
    · rw [if_neg q]
      exact h9 k (by omega) j
theorem okP_Sl {T P : pT} {w f u : Nat} (h : okP T P) (hf : f ≤ 300) (hu : u ≤ 300) : okP (tSl T w) (pSl T P f u) := by
  obtain ⟨h1, h2, h3⟩ := h
  refine ⟨h1, h2, fun k hk => ?_⟩
  have hk : k < sl T + 1 := hk
  show upn (upn P 3 (sl T) f) 4 (sl T) u 3 k ≤ 300 ∧ upn (upn P 3 (sl T) f) 4 (sl T) u 4 k ≤ 300
  rw [upn_ne (by omega)]
  by_cases q : k = sl T
  · rw [q, upn_same, upn_same]
    exact ⟨hf, hu⟩
  · rw [upn_ne (by omega), upn_ne (by omega), upn_ne (by omega)]
    exact h3 k (by omega)
theorem okP_T {T T' P : pT} (h : okP T P) (e : sl T' = sl T) : okP T' P := ⟨h.1, h.2.1, fun k hk => h.2.2 k (by rw [← e]; exact hk)⟩
theorem okT_Do {T : pT} {a b o : Nat} (h : okT T) (h10 : dn T < 10) (ha : a < sl T) (hb : b < sl T) (ho : o ≤ 1) : okT (tDo T a b o) := by
  obtain ⟨⟨b1, b2, b3, b4, b5⟩, h2, h3, h4, h5, h6, h7, h9⟩ := h
  refine ⟨⟨b1, by show dn T + 1 ≤ 10; omega, b3, b4, b5⟩, h2, h3, fun d hd => ?_, fun k hk => ?_, h6, h7, h9⟩
  · have hd : d < dn T + 1 := hd
    show upn (upn (upn (upn T 0 1 (dn T + 1)) 3 (dn T) a) 4 (dn T) b) 5 (dn T) o 3 d < sl T ∧ upn (upn (upn (upn T 0 1 (dn T + 1)) 3 (dn T) a) 4 (dn T) b) 5 (dn T) o 4 d < sl T ∧ upn (upn (upn (upn T 0 1 (dn T + 1)) 3 (dn T) a) 4 (dn T) b) 5 (dn T) o 5 d ≤ 1
    by_cases q : d = dn T
    · rw [q, upn_ne (by omega), upn_ne (by omega), upn_same, upn_ne (by omega), upn_same, upn_same]
      exact ⟨ha, hb, ho⟩
    · rw [upn_ne (by omega), upn_ne (by omega), upn_ne (by omega), upn_ne (by omega), upn_ne (by omega), upn_ne (by omega), upn_ne (by omega), upn_ne (by omega), upn_ne (by omega), upn_ne (by omega), upn_ne (by omega), upn_ne (by omega)]
      exact h4 d (by omega)
  · have := h5 k hk
    show tu T k < 2 ^ (dn T + 1)
    rw [Nat.pow_succ]
    omega
theorem okP_No {T P : pT} {m s : Nat} (h : okP T P) (h12 : nn P < 12) (hm : m ≤ 300) (hs : s < 6) : okP T (pNo P m s) := by
  obtain ⟨h1, h2, h3⟩ := h
  refine ⟨by show nn P + 1 ≤ 12; omega, fun i hi => ?_, h3⟩
  have hi : i < nn P + 1 := hi
  show upn (upn (upn P 0 0 (nn P + 1)) 1 (nn P) m) 2 (nn P) s 1 i ≤ 300 ∧ upn (upn (upn P 0 0 (nn P + 1)) 1 (nn P) m) 2 (nn P) s 2 i < 6
  by_cases q : i = nn P
  · rw [q, upn_ne (by omega), upn_same, upn_same]
    exact ⟨hm, hs⟩
  · rw [upn_ne (by omega), upn_ne (by omega), upn_ne (by omega), upn_ne (by omega), upn_ne (by omega), upn_ne (by omega)]
    exact h2 i (by omega)
theorem okT_Dr {T : pT} {r m : Nat} (h : okT T) (h4 : dr T < 4) (hr : r < sl T) (hm : m ≤ 300) : okT (tDr T r m) := by
  obtain ⟨⟨b1, b2, b3, b4, b5⟩, h2, h3, h4', h5, h6, h7, h9⟩ := h
  refine ⟨⟨b1, b2, b3, by show dr T + 1 ≤ 4; omega, b5⟩, h2, h3, h4', h5, fun d hd => ?_, h7, h9⟩
  have hd : d < dr T + 1 := hd
  show upn (upn (upn T 0 3 (dr T + 1)) 7 (dr T) r) 8 (dr T) m 7 d < sl T ∧ upn (upn (upn T 0 3 (dr T + 1)) 7 (dr T) r) 8 (dr T) m 8 d ≤ 300
  by_cases q : d = dr T
  · rw [q, upn_ne (by omega), upn_same, upn_same]
    exact ⟨hr, hm⟩
  · rw [upn_ne (by omega), upn_ne (by omega), upn_ne (by omega), upn_ne (by omega), upn_ne (by omega), upn_ne (by omega)]
    exact h6 d (by omega)
theorem okT_Mi {T : pT} {m : Nat} (h : okT T) (hm : m ≤ 300) : okT (tMi T m) := by
  obtain ⟨⟨b1, b2, b3, b4, b5⟩, h2⟩ := h
  exact ⟨⟨b1, b2, b3, b4, by show m + 1 ≤ 301; omega⟩, h2⟩
theorem okT_Tu {T : pT} {s d : Nat} (h : okT T) (hd : d < dn T) : okT (tTu T s d) := by
  obtain ⟨h1, h2, h3, h4, h5, h6⟩ := h
  refine ⟨h1, h2, h3, h4, fun k hk => ?_, h6⟩
  show upn T 6 s (tu T s ||| 1 <<< d) 6 k < 2 ^ dn T
  by_cases q : k = s
  · rw [q, upn_same]
    refine Nat.or_lt_two_pow (h5 s (by omega)) ?_
    rw [Nat.one_shiftLeft]
    exact Nat.pow_lt_pow_right (by decide) hd
  · rw [upn_ne (by omega)]
    exact h5 k hk
theorem okT_Tw {T : pT} {a b : Nat} (h : okT T) (h3 : tn T < 3) (ha : a < sl T) (hb : b < sl T) (hab : a ≠ b) (ta0 : tp T a = 0) (tb0 : tp T b = 0) : okT (tTw T a b) := by
  obtain ⟨⟨b1, b2, b3, b4, b5⟩, h2, h3', h4, h5, h6, h7, h9⟩ := h
  have e2 : ∀ k, tp (tTw T a b) k = if k = b then a + 1 else if k = a then b + 1 else tp T k := fun k => by
    show upn (upn (upn (upn (upn T 0 2 (tn T + 1)) 2 a (b + 1)) 2 b (a + 1)) 9 (tn T) a) 10 (tn T) b 2 k = _
    rw [upn_ne (by omega), upn_ne (by omega)]
    by_cases q : k = b
    · rw [q, upn_same, if_pos rfl]
    · rw [upn_ne (by omega), if_neg q]
      by_cases q2 : k = a
      · rw [q2, upn_same, if_pos rfl]
      · rw [upn_ne (by omega), upn_ne (by omega), if_neg q2]
  have e9 : ∀ i, ta (tTw T a b) i = if i = tn T then a else ta T i := fun i => by
    show upn (upn (upn (upn (upn T 0 2 (tn T + 1)) 2 a (b + 1)) 2 b (a + 1)) 9 (tn T) a) 10 (tn T) b 9 i = _
    rw [upn_ne (by omega)]
    by_cases q : i = tn T
    · rw [q, upn_same, if_pos rfl]
    · rw [upn_ne (by omega), upn_ne (by omega), upn_ne (by omega), upn_ne (by omega), if_neg q]
  have e10 : ∀ i, tc2 (tTw T a b) i = if i = tn T then b else tc2 T i := fun i => by
    show upn (upn (upn (upn (upn T 0 2 (tn T + 1)) 2 a (b + 1)) 2 b (a + 1)) 9 (tn T) a) 10 (tn T) b 10 i = _
    by_cases q : i = tn T
    · rw [q, upn_same, if_pos rfl]
    · rw [upn_ne (by omega), upn_ne (by omega), upn_ne (by omega), upn_ne (by omega), upn_ne (by omega), if_neg q]
  refine ⟨⟨b1, b2, by show tn T + 1 ≤ 3; omega, b4, b5⟩, h2, fun k hk => ?_, h4, h5, h6, fun i hi => ?_, fun k hk j => ?_⟩
  · have := h3' k hk
    rw [e2]
    show _ ≤ sl T
    split
    · omega
    · split
      · omega
      · exact this
  · have hi : i < tn T + 1 := hi
    rw [e9, e10]
    show _ < sl T ∧ _ < sl T ∧ _
    by_cases q : i = tn T
    · rw [if_pos q, if_pos q]
      exact ⟨ha, hb, hab⟩
    · rw [if_neg q, if_neg q]
      exact h7 i (by omega)
  · have h9k := h9 k hk j
    have hold : ∀ i, i < tn T → (ta T i = a ∨ tc2 T i = a ∨ ta T i = b ∨ tc2 T i = b) → False := fun i hi z => by
      obtain ⟨g1, g2, g3⟩ := h7 i hi
      rcases z with z | z | z | z
      · have := (h9 a ha (tc2 T i)).mpr ⟨i, hi, Or.inl ⟨z, rfl⟩⟩; omega
      · have := (h9 a ha (ta T i)).mpr ⟨i, hi, Or.inr ⟨rfl, z⟩⟩; omega
      · have := (h9 b hb (tc2 T i)).mpr ⟨i, hi, Or.inl ⟨z, rfl⟩⟩; omega
      · have := (h9 b hb (ta T i)).mpr ⟨i, hi, Or.inr ⟨rfl, z⟩⟩; omega
    rw [e2]
    constructor
    · intro z
      by_cases q : k = b
      · rw [if_pos q] at z
        exact ⟨tn T, by show tn T < tn T + 1; omega, Or.inr ⟨by rw [e9, if_pos rfl]; omega, by rw [e10, if_pos rfl]; omega⟩⟩
      · rw [if_neg q] at z
        by_cases q2 : k = a
        · rw [if_pos q2] at z
          exact ⟨tn T, by show tn T < tn T + 1; omega, Or.inl ⟨by rw [e9, if_pos rfl]; omega, by rw [e10, if_pos rfl]; omega⟩⟩
        · rw [if_neg q2] at z
          obtain ⟨i, hi, y⟩ := h9k.mp z
          exact ⟨i, by show i < tn T + 1; omega, by rw [e9, e10, if_neg (by omega), if_neg (by omega)]; exact y⟩
    · rintro ⟨i, hi, y⟩
      have hi : i < tn T + 1 := hi
      rw [e9, e10] at y
      by_cases q : i = tn T
      · rw [if_pos q, if_pos q] at y
        by_cases qb : k = b
        · rw [if_pos qb]; omega
        · rw [if_neg qb, if_pos (by omega)]; omega
      · rw [if_neg q, if_neg q] at y
        have hk : k ≠ b ∧ k ≠ a := ⟨fun z => hold i (by omega) (by omega), fun z => hold i (by omega) (by omega)⟩
        rw [if_neg hk.1, if_neg hk.2]
        exact h9k.mpr ⟨i, by omega, y⟩
