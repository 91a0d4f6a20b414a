/-! an operation: the class's answer and the model's -/
def OpI (d x : Nat) (V : pV) (G : sm_G) (L : sm_L) (j : Nat) (as : List Value) (k : Nat) (bs : List Value) (E : Nat → Nat) : Prop :=
  (∃ a G1 G2, sm_cv0 (d + 60) j 342 (RR V) as (x, G, L) = oI a x G1 L ∧ sm_cv0 (d + 60) k 342 (RR V) bs (x, G1, L) = oI a x G2 L ∧ G2 156 0 = i3 0 ∧ Inv V G2) ∨
  (∃ e G1 z G2, sm_cv0 (d + 60) j 342 (RR V) as (x, G, L) = oX e (x + 1) G1 L ∧ sm_cv0 (d + 60) k 342 (RR V) bs (x + 1, G1, L) = oI z (x + 1) G2 L ∧ G2 156 0 = i3 (E e) ∧ e < 4 ∧ 0 < E e ∧ E e ≤ 2 ∧ Inv V G2)
theorem IvS.keepR {V : pV} {G G' : sm_G} {T : pT} {K c : Nat} {H W : Nat → pT} (h : IvS V G T K c H W) (hs : ∀ r k, ¬ sc r k → r ≠ 4 → r ≠ 158 → G' r k = G r k) (hr : ivR G') : IvS V G' T K c H W := by
  obtain ⟨h1, h2, h3, h4, h5, h6, h7, h8, h9, h10, h11, h12, h13, h14, h15⟩ := h
  have hs1 := pS_lt h1.1.1
  have hb := pB_lt h1.1.2.2.2.1
  unfold sc at hs
  refine ⟨h1, h2, h3, h4, h5.keep (fun r k a => hs r k (by unfold inC at a; omega) (by unfold inC at a; omega) (by unfold inC at a; omega)), h6.keep (fun r k a b => hs r k (by omega) (by omega) (by omega)), h7.keep h2 h3 (fun r k a => hs r k (by unfold inM at a; omega) (by unfold inM at a; omega) (by unfold inM at a; omega)), fun k hk => by rw [hs _ _ (by omega) (by omega) (by omega)]; exact h8 k hk, h9.keep (fun r k a => hs r k (by omega) (by omega) (by omega)), hr, h11.keep (fun r k a b => hs r k (by omega) (by omega) (by omega)), h12.keep h11.1 (fun r k a => hs r k (by omega) (by omega) (by omega)), h13.keep (fun r k a => hs r k (by omega) (by omega) (by omega)), h14.keep (fun r k a => hs r k (by omega) (by omega) (by omega)), h15.keep h1.1 (fun r k a => hs r k (by omega) (by omega) (by omega))⟩
theorem noted_ne {G : sm_G} {a k r j : Nat} (h1 : ¬ (r = 156 ∧ j = 0)) (h2 : ¬ (r = 158 ∧ j = k)) : noted G a k r j = G r j := by
  unfold noted
  rw [sm_up_ne (by omega), sm_up_ne (by omega), sm_up_ne (by omega)]
theorem noted_0 {G : sm_G} {a k : Nat} : noted G a k 156 0 = i3 a := by
  unfold noted
  rw [sm_up_ne (by omega), sm_up_same]
theorem noted_k {G : sm_G} {a k : Nat} : noted G a k 158 k = G 158 k + i3 1 := by
  unfold noted
  rw [sm_up_same, sm_up_ne (by omega)]
theorem Inv_noted {V : pV} {G : sm_G} (I : Inv V G) {a k : Nat} (hk : k < 4) : Inv V (noted (sm_up G 4 k (G 4 k + i3 1)) a k) := by
  obtain ⟨T, K, c, H, W, hS, hh, hn⟩ := I
  have f : ∀ r j, ¬ (r = 156 ∧ j = 0) → ¬ (r = 158 ∧ j = k) → ¬ (r = 4 ∧ j = k) → noted (sm_up G 4 k (G 4 k + i3 1)) a k r j = G r j := fun r j h1 h2 h3 => by
    rw [noted_ne h1 h2, sm_up_ne (by omega)]
  refine ⟨T, K, c, H, W, hS.keepR (fun r j h1 h2 h3 => f r j (fun z => h1 (by unfold sc; omega)) (by omega) (by omega)) ⟨fun j hj => ?_, ?_⟩, hh.keep (f _ _ (by omega) (by omega) (by omega)) (fun r j _ _ => f _ _ (by omega) (by omega) (by omega)), hn.keep hS.2.1 (f _ _ (by omega) (by omega) (by omega)) (fun r j _ _ => f _ _ (by omega) (by omega) (by omega))⟩
  · have hR := hS.2.2.2.2.2.2.2.2.2.1.1 j hj
    by_cases q : j = k
    · subst q
      rw [noted_k, noted_ne (by omega) (by omega), sm_up_same, sm_up_ne (by omega), hR]
    · rw [f 4 j (by omega) (by omega) (by omega), f 158 j (by omega) (by omega) (by omega), hR]
  · have hR := hS.2.2.2.2.2.2.2.2.2.1.2
    rw [f 1 16 (by omega) (by omega) (by omega), f 156 3 (by omega) (by omega) (by omega), hR]
theorem aV_if {C : Prop} [Decidable C] {x x' e : Nat} {G G' : sm_G} {L L' : sm_L} {F : Nat → sm_G → sm_L → Option (sm_Res × sm_D)} : sm_aV (if C then oV x G L else oX e x' G' L') F oX = if C then F x G L else oX e x' G' L' := by
  split <;> rfl
theorem mbad {d x a k : Nat} {V : pV} {G : sm_G} {L : sm_L} {C : Prop} [Decidable C] {F : Nat → sm_G → sm_L → Option (sm_Res × sm_D)} (h0 : G 156 0 = i3 0) (ha : 0 < a) (ha2 : a < 100) (hk : k < 4) :
    (if bi (decide C) = i3 0 then sm_aI (sm_cv0 (d + 1) 219 342 (RR V) [.ref 156, .int (i3 1), .int (i3 a), .int (i3 k)] (x, G, L)) (fun a2 x2 G2 L2 => if a2 = i3 0 then F x2 G2 L2 else oI (i3 0) x2 G2 L2) oX
     else sm_aI (sm_cv0 (d + 1) 219 342 (RR V) [.ref 156, .int (i3 0), .int (i3 a), .int (i3 k)] (x, G, L)) (fun a2 x2 G2 L2 => if a2 = i3 0 then F x2 G2 L2 else oI (i3 0) x2 G2 L2) oX)
    = if C then F x G L else oI (i3 0) x (sm_up (sm_up G 156 0 (i3 a)) 158 k (G 158 k + i3 1)) L := by
  by_cases h : C
  · rw [decide_eq_true h, if_pos h, if_neg (by decide), s_219o h0]
    rfl
  · rw [decide_eq_false h, if_neg h, if_pos (by decide), s_219b ha ha2 hk h0]
    rfl
/-- the store that the model's calls begin from -/
abbrev g00 (G : sm_G) : sm_G := sm_up G 156 0 (i3 0)
theorem g00_0 {G : sm_G} : g00 G 156 0 = i3 0 := sm_up_same _ _ _ _
theorem g00_ne {G : sm_G} {r k : Nat} (h : ¬ (r = 156 ∧ k = 0)) : g00 G r k = G r k := sm_up_ne (by omega)
theorem noted_e {G : sm_G} {a k : Nat} : sm_up (sm_up (g00 G) 156 0 (i3 a)) 158 k (g00 G 158 k + i3 1) = noted G a k := rfl
/-- the model's part of it is as it was -/
def sM (G G1 : sm_G) : Prop := ∀ r k, 156 ≤ r → G1 r k = G r k
theorem sM_r {G : sm_G} {k : Nat} {v : Int32} : sM G (sm_up G 4 k v) := fun r j h => sm_up_ne (by omega)
theorem sM_o {G : sm_G} : sM G G := fun _ _ _ => rfl
section OPI
variable {d x : Nat} {V : pV} {G : sm_G} {L : sm_L} {j k : Nat} {as bs : List Value} {E : Nat → Nat}
theorem OpI_0 {X : Option (sm_Res × sm_D)}
    (ec : sm_cv0 (d + 60) j 342 (RR V) as (x, G, L) = X)
    (hb : ∃ a G1 G2, X = oI a x G1 L ∧ sm_cv0 (d + 60) k 342 (RR V) bs (x, G1, L) = oI a x G2 L ∧ G2 156 0 = i3 0 ∧ Inv V G2) : OpI d x V G L j as k bs E := by
  obtain ⟨a, G1, G2, h1, h3, h4, h5⟩ := hb
  exact Or.inl ⟨a, G1, G2, ec.trans h1, h3, h4, h5⟩
theorem OpI_1 {C1 : Prop} [Decidable C1] {k1 : Nat} {X : Option (sm_Res × sm_D)} {Y : Nat → sm_G → Option (sm_Res × sm_D)} (I : Inv V G)
    (ec : sm_cv0 (d + 60) j 342 (RR V) as (x, G, L) = if C1 then X else rfC k1 x G L)
    (em : ∀ x1 G1, sM G G1 → sm_cv0 (d + 60) k 342 (RR V) bs (x1, G1, L) = if C1 then Y x1 G1 else oI (i3 0) x1 (noted G1 (E k1) k1) L)
    (hE : k1 < 4 ∧ 0 < E k1 ∧ E k1 ≤ 2)
    (hb : C1 → ∃ a G1 G2, X = oI a x G1 L ∧ sM G G1 ∧ Y x G1 = oI a x G2 L ∧ G2 156 0 = i3 0 ∧ Inv V G2) : OpI d x V G L j as k bs E := by
  by_cases h1 : C1
  · obtain ⟨a, G1, G2, b1, b2, b3, b4, b5⟩ := hb h1
    rw [if_pos h1] at ec
    have em := em x G1 b2
    rw [if_pos h1] at em
    exact Or.inl ⟨a, G1, G2, ec.trans b1, em.trans b3, b4, b5⟩
  · rw [if_neg h1] at ec
    have em := em (x + 1) _ (sM_r (G := G) (k := k1) (v := G 4 k1 + i3 1))
    rw [if_neg h1] at em
    exact Or.inr ⟨k1, _, _, _, ec, em, noted_0, hE.1, hE.2.1, hE.2.2, Inv_noted I hE.1⟩
theorem OpI_2 {C1 C2 : Prop} [Decidable C1] [Decidable C2] {k1 k2 : Nat} {X : Option (sm_Res × sm_D)} {Y : Nat → sm_G → Option (sm_Res × sm_D)} (I : Inv V G)
    (ec : sm_cv0 (d + 60) j 342 (RR V) as (x, G, L) = if C1 then (if C2 then X else rfC k2 x G L) else rfC k1 x G L)
    (em : ∀ x1 G1, sM G G1 → sm_cv0 (d + 60) k 342 (RR V) bs (x1, G1, L) = if C1 then (if C2 then Y x1 G1 else oI (i3 0) x1 (noted G1 (E k2) k2) L) else oI (i3 0) x1 (noted G1 (E k1) k1) L)
    (hE : k1 < 4 ∧ 0 < E k1 ∧ E k1 ≤ 2) (hE2 : k2 < 4 ∧ 0 < E k2 ∧ E k2 ≤ 2)
    (hb : C1 → C2 → ∃ a G1 G2, X = oI a x G1 L ∧ sM G G1 ∧ Y x G1 = oI a x G2 L ∧ G2 156 0 = i3 0 ∧ Inv V G2) : OpI d x V G L j as k bs E := by
  by_cases h1 : C1
  · by_cases h2 : C2
    · obtain ⟨a, G1, G2, b1, b2, b3, b4, b5⟩ := hb h1 h2
      rw [if_pos h1, if_pos h2] at ec
      have em := em x G1 b2
      rw [if_pos h1, if_pos h2] at em
      exact Or.inl ⟨a, G1, G2, ec.trans b1, em.trans b3, b4, b5⟩
    · rw [if_pos h1, if_neg h2] at ec
      have em := em (x + 1) _ (sM_r (G := G) (k := k2) (v := G 4 k2 + i3 1))
      rw [if_pos h1, if_neg h2] at em
      exact Or.inr ⟨k2, _, _, _, ec, em, noted_0, hE2.1, hE2.2.1, hE2.2.2, Inv_noted I hE2.1⟩
  · rw [if_neg h1] at ec
    have em := em (x + 1) _ (sM_r (G := G) (k := k1) (v := G 4 k1 + i3 1))
    rw [if_neg h1] at em
    exact Or.inr ⟨k1, _, _, _, ec, em, noted_0, hE.1, hE.2.1, hE.2.2, Inv_noted I hE.1⟩
end OPI
/-- what the model's own calls may change -/
theorem Inv_q {V : pV} {G G1 G2 : sm_G} {T : pT} {K c : Nat} {H W : Nat → pT} (hS : IvS V G T K c H W) (f1 : ∀ r k, ¬ sc r k → G1 r k = G r k) (hh : hHr G1 T (H c) K) (hn : nHr G1 T (H c) K W) (f2 : ∀ r k, r < 156 ∨ ¬ sc r k → G2 r k = G1 r k) : Inv V G2 :=
  ⟨T, K, c, H, W, (hS.keep f1).keep (fun r k h => f2 r k (Or.inr h)), hh.keep (f2 _ _ (by omega)) (fun r k _ _ => f2 r k (by omega)), hn.keep hS.2.1 (f2 _ _ (by omega)) (fun r k _ _ => f2 r k (by omega))⟩
theorem IvS.V {V : pV} {G : sm_G} {T : pT} {K c : Nat} {H W : Nat → pT} (h : IvS V G T K c H W) : okV V := h.1.1
theorem IvS.T {V : pV} {G : sm_G} {T : pT} {K c : Nat} {H W : Nat → pT} (h : IvS V G T K c H W) : okT T := h.2.1
theorem IvS.P {V : pV} {G : sm_G} {T : pT} {K c : Nat} {H W : Nat → pT} (h : IvS V G T K c H W) : okP T (H c) := h.2.2.1
theorem IvS.K {V : pV} {G : sm_G} {T : pT} {K c : Nat} {H W : Nat → pT} (h : IvS V G T K c H W) : K < 2 ^ sl T := h.2.2.2.1
theorem IvS.c {V : pV} {G : sm_G} {T : pT} {K c : Nat} {H W : Nat → pT} (h : IvS V G T K c H W) : cS G V.1 T := h.2.2.2.2.1
theorem IvS.p {V : pV} {G : sm_G} {T : pT} {K c : Nat} {H W : Nat → pT} (h : IvS V G T K c H W) : cP G (V.1 + 1) T (H c) K := h.2.2.2.2.2.1
theorem IvS.m {V : pV} {G : sm_G} {T : pT} {K c : Nat} {H W : Nat → pT} (h : IvS V G T K c H W) : mH G T (H c) K := h.2.2.2.2.2.2.1
theorem IvS.w {V : pV} {G : sm_G} {T : pT} {K c : Nat} {H W : Nat → pT} (h : IvS V G T K c H W) : ∀ k, k < 8 → G 305 k = i3 k := h.2.2.2.2.2.2.2.1
theorem IvS.t {V : pV} {G : sm_G} {T : pT} {K c : Nat} {H W : Nat → pT} (h : IvS V G T K c H W) : ivT G := h.2.2.2.2.2.2.2.2.1
theorem IvS.r {V : pV} {G : sm_G} {T : pT} {K c : Nat} {H W : Nat → pT} (h : IvS V G T K c H W) : ivR G := h.2.2.2.2.2.2.2.2.2.1
theorem IvS.h {V : pV} {G : sm_G} {T : pT} {K c : Nat} {H W : Nat → pT} (h : IvS V G T K c H W) : chn G (V.1 + 1) T c H := h.2.2.2.2.2.2.2.2.2.2.1
theorem IvS.hm {V : pV} {G : sm_G} {T : pT} {K c : Nat} {H W : Nat → pT} (h : IvS V G T K c H W) : chM G T c H := h.2.2.2.2.2.2.2.2.2.2.2.1
theorem IvS.i {V : pV} {G : sm_G} {T : pT} {K c : Nat} {H W : Nat → pT} (h : IvS V G T K c H W) : ivI G T := h.2.2.2.2.2.2.2.2.2.2.2.2.1
theorem IvS.b {V : pV} {G : sm_G} {T : pT} {K c : Nat} {H W : Nat → pT} (h : IvS V G T K c H W) : ivB G V.2.2.2.1 := h.2.2.2.2.2.2.2.2.2.2.2.2.2.1
theorem IvS.wl {V : pV} {G : sm_G} {T : pT} {K c : Nat} {H W : Nat → pT} (h : IvS V G T K c H W) : ivW G V T W := h.2.2.2.2.2.2.2.2.2.2.2.2.2.2
theorem IvS.K8 {V : pV} {G : sm_G} {T : pT} {K c : Nat} {H W : Nat → pT} (h : IvS V G T K c H W) : K < 1024 := Nat.lt_of_lt_of_le h.K (show 2 ^ sl T ≤ 2 ^ 10 from Nat.pow_le_pow_right (by decide) (by have := h.T.gb; omega))
theorem mH.sM {G G1 : sm_G} {T P : pT} {K : Nat} (h : mH G T P K) (hT : okT T) (hP : okP T P) (hs : sM G G1) : mH (g00 G1) T P K := h.keep hT hP (fun r k a => by rw [g00_ne (by unfold inM at a; omega)]; exact hs r k (by unfold inM at a; omega))
