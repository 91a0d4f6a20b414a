/-! a street, a plan of it; how the class and the model hold them -/
abbrev pT : Type := Nat → Nat → Nat
abbrev sl (T : pT) : Nat := T 0 0
abbrev dn (T : pT) : Nat := T 0 1
abbrev tn (T : pT) : Nat := T 0 2
abbrev dr (T : pT) : Nat := T 0 3
/-- the milkman's minute and 1, or 0 -/
abbrev mk (T : pT) : Nat := T 0 4
abbrev wt (T : pT) (k : Nat) : Nat := T 1 k
/-- the twin's room and 1, or 0 -/
abbrev tp (T : pT) (k : Nat) : Nat := T 2 k
abbrev dA (T : pT) (d : Nat) : Nat := T 3 d
abbrev dB (T : pT) (d : Nat) : Nat := T 4 d
abbrev dO (T : pT) (d : Nat) : Nat := T 5 d
abbrev tu (T : pT) (k : Nat) : Nat := T 6 k
abbrev cR (T : pT) (d : Nat) : Nat := T 7 d
abbrev cM (T : pT) (d : Nat) : Nat := T 8 d
abbrev ta (T : pT) (i : Nat) : Nat := T 9 i
abbrev tc2 (T : pT) (i : Nat) : Nat := T 10 i
abbrev nn (P : pT) : Nat := P 0 0
abbrev nm (P : pT) (i : Nat) : Nat := P 1 i
abbrev ns (P : pT) (i : Nat) : Nat := P 2 i
abbrev fr (P : pT) (k : Nat) : Nat := P 3 k
abbrev un (P : pT) (k : Nat) : Nat := P 4 k
/-- none or one less -/
def mi (n : Nat) : Int32 := if n = 0 then m1 else i3 (n - 1)
theorem mi_0 {n : Nat} (h : n = 0) : mi n = m1 := if_pos h
theorem mi_s {n : Nat} (h : n ≠ 0) : mi n = i3 (n - 1) := if_neg h
theorem mi_lt0 {n : Nat} (h : n < 1000) : (mi n < i3 0) = (n = 0) := by
  unfold mi
  split
  · next q => exact propext ⟨fun _ => q, fun _ => by decide⟩
  · next q =>
    rw [i3_lt (by omega) (by omega)]
    exact propext ⟨fun z => by omega, fun z => absurd z q⟩
theorem mi_m1 {n : Nat} (h : n < 1000) : (mi n = m1) = (n = 0) := by
  unfold mi
  split
  · next q => exact propext ⟨fun _ => q, fun _ => rfl⟩
  · next q =>
    rw [i3_nm1 (by omega)]
    exact propext ⟨fun z => False.elim z, fun z => q z⟩
theorem mi_inj {a b : Nat} (ha : a < 1000) (hb : b < 1000) : (mi a = mi b) = (a = b) := by
  refine propext ⟨fun h => ?_, fun h => by rw [h]⟩
  unfold mi at h
  split at h <;> split at h
  · omega
  · rw [m1_ni3 (by omega)] at h; exact h.elim
  · rw [i3_nm1 (by omega)] at h; exact h.elim
  · rw [i3_eq (by omega) (by omega)] at h; omega
/-- a street as it can be told -/
def okT (T : pT) : Prop := (sl T ≤ 8 ∧ dn T ≤ 10 ∧ tn T ≤ 3 ∧ dr T ≤ 4 ∧ mk T ≤ 301) ∧ (∀ k, k < sl T → wt T k ≤ 15) ∧ (∀ k, k < sl T → tp T k ≤ sl T) ∧ (∀ d, d < dn T → dA T d < sl T ∧ dB T d < sl T ∧ dO T d ≤ 1) ∧
  (∀ k, k < 6 → tu T k < 2 ^ dn T) ∧ (∀ d, d < dr T → cR T d < sl T ∧ cM T d ≤ 300) ∧ (∀ i, i < tn T → ta T i < sl T ∧ tc2 T i < sl T ∧ ta T i ≠ tc2 T i) ∧
  (∀ k, k < sl T → ∀ j, tp T k = j + 1 ↔ ∃ i, i < tn T ∧ ((ta T i = k ∧ tc2 T i = j) ∨ (ta T i = j ∧ tc2 T i = k)))
def okP (T P : pT) : Prop := nn P ≤ 12 ∧ (∀ i, i < nn P → nm P i ≤ 300 ∧ ns P i < 6) ∧ (∀ k, k < sl T → fr P k ≤ 300 ∧ un P k ≤ 300)
def fo (T : pT) : Nat := bs (fun d => decide (dO T d = 1)) (dn T)
/-- the class's street at s -/
def cS (G : sm_G) (s : Nat) (T : pT) : Prop := G s 9 = i3 (sl T) ∧ G s 10 = i3 (dn T) ∧ G s 11 = i3 (tn T) ∧ G s 12 = i3 (dr T) ∧ G s 13 = i3 (fo T) ∧ G s 14 = mi (mk T) ∧ (∀ k, k < sl T → G (s + 10) k = i3 (wt T k)) ∧ (∀ k, k < sl T → G (s + 11) k = mi (tp T k)) ∧
  (∀ i, i < tn T → G (s + 12) i = i3 (1 <<< ta T i ||| 1 <<< tc2 T i)) ∧ (∀ d, d < dn T → G (s + 13) d = i3 (dA T d)) ∧ (∀ d, d < dn T → G (s + 14) d = i3 (dB T d)) ∧ (∀ k, k < 6 → G (s + 15) k = i3 (tu T k)) ∧ (∀ d, d < dr T → G (s + 16) d = i3 (cR T d)) ∧ (∀ d, d < dr T → G (s + 17) d = i3 (cM T d))
/-- the class's plan at p -/
def cP (G : sm_G) (p : Nat) (T P : pT) (K : Nat) : Prop := G p 8 = i3 (nn P) ∧ G p 9 = i3 K ∧ (∀ i, i < nn P → G (p + 1) i = i3 (nm P i)) ∧ (∀ i, i < nn P → G (p + 2) i = i3 (ns P i)) ∧ (∀ k, k < sl T → G (p + 3) k = i3 (fr P k)) ∧ (∀ k, k < sl T → G (p + 4) k = i3 (un P k))
/-- the model's -/
def mH (G : sm_G) (T P : pT) (K : Nat) : Prop := G 160 0 = i3 (sl T) ∧ G 160 1 = i3 (dn T) ∧ G 160 2 = i3 (nn P) ∧ G 160 3 = i3 (tn T) ∧ G 160 4 = i3 (dr T) ∧ G 160 5 = mi (mk T) ∧ G 156 37 = i3 K ∧ (∀ k, k < sl T → G 162 k = mi (tp T k)) ∧ (∀ k, k < 6 → G 164 k = i3 (tu T k)) ∧
  (∀ k, k < sl T → G (175 + k) 0 = i3 (fr P k)) ∧ (∀ k, k < sl T → G (175 + k) 1 = i3 (un P k)) ∧ (∀ k, k < sl T → G (175 + k) 2 = i3 (wt T k)) ∧ (∀ d, d < dn T → G (195 + d) 0 = i3 (dA T d)) ∧ (∀ d, d < dn T → G (195 + d) 1 = i3 (dB T d)) ∧ (∀ d, d < dn T → G (195 + d) 2 = i3 (dO T d)) ∧
  (∀ i, i < nn P → G (219 + i) 0 = i3 (nm P i)) ∧ (∀ i, i < nn P → G (219 + i) 1 = i3 (ns P i)) ∧ (∀ d, d < dr T → G (237 + d) 0 = i3 (cR T d)) ∧ (∀ d, d < dr T → G (237 + d) 1 = i3 (cM T d))
theorem cS.gsl {G : sm_G} {s : Nat} {T : pT} (h : cS G s T) : G s 9 = i3 (sl T) := h.1
theorem cS.gdn {G : sm_G} {s : Nat} {T : pT} (h : cS G s T) : G s 10 = i3 (dn T) := h.2.1
theorem cS.gtn {G : sm_G} {s : Nat} {T : pT} (h : cS G s T) : G s 11 = i3 (tn T) := h.2.2.1
theorem cS.gdr {G : sm_G} {s : Nat} {T : pT} (h : cS G s T) : G s 12 = i3 (dr T) := h.2.2.2.1
theorem cS.gfo {G : sm_G} {s : Nat} {T : pT} (h : cS G s T) : G s 13 = i3 (fo T) := h.2.2.2.2.1
theorem cS.gmk {G : sm_G} {s : Nat} {T : pT} (h : cS G s T) : G s 14 = mi (mk T) := h.2.2.2.2.2.1
theorem cS.gwt {G : sm_G} {s : Nat} {T : pT} (h : cS G s T) : ∀ k, k < sl T → G (s + 10) k = i3 (wt T k) := h.2.2.2.2.2.2.1
theorem cS.gtp {G : sm_G} {s : Nat} {T : pT} (h : cS G s T) : ∀ k, k < sl T → G (s + 11) k = mi (tp T k) := h.2.2.2.2.2.2.2.1
theorem cS.gtw {G : sm_G} {s : Nat} {T : pT} (h : cS G s T) : ∀ i, i < tn T → G (s + 12) i = i3 (1 <<< ta T i ||| 1 <<< tc2 T i) := h.2.2.2.2.2.2.2.2.1
theorem cS.gdA {G : sm_G} {s : Nat} {T : pT} (h : cS G s T) : ∀ d, d < dn T → G (s + 13) d = i3 (dA T d) := h.2.2.2.2.2.2.2.2.2.1
theorem cS.gdB {G : sm_G} {s : Nat} {T : pT} (h : cS G s T) : ∀ d, d < dn T → G (s + 14) d = i3 (dB T d) := h.2.2.2.2.2.2.2.2.2.2.1
theorem cS.gtu {G : sm_G} {s : Nat} {T : pT} (h : cS G s T) : ∀ k, k < 6 → G (s + 15) k = i3 (tu T k) := h.2.2.2.2.2.2.2.2.2.2.2.1
theorem cS.gcR {G : sm_G} {s : Nat} {T : pT} (h : cS G s T) : ∀ d, d < dr T → G (s + 16) d = i3 (cR T d) := h.2.2.2.2.2.2.2.2.2.2.2.2.1
theorem cS.gcM {G : sm_G} {s : Nat} {T : pT} (h : cS G s T) : ∀ d, d < dr T → G (s + 17) d = i3 (cM T d) := h.2.2.2.2.2.2.2.2.2.2.2.2.2
theorem cP.gnn {G : sm_G} {p K : Nat} {T P : pT} (h : cP G p T P K) : G p 8 = i3 (nn P) := h.1
theorem cP.gkp {G : sm_G} {p K : Nat} {T P : pT} (h : cP G p T P K) : G p 9 = i3 K := h.2.1
theorem cP.gnm {G : sm_G} {p K : Nat} {T P : pT} (h : cP G p T P K) : ∀ i, i < nn P → G (p + 1) i = i3 (nm P i) := h.2.2.1
theorem cP.gns {G : sm_G} {p K : Nat} {T P : pT} (h : cP G p T P K) : ∀ i, i < nn P → G (p + 2) i = i3 (ns P i) := h.2.2.2.1
theorem cP.gfr {G : sm_G} {p K : Nat} {T P : pT} (h : cP G p T P K) : ∀ k, k < sl T → G (p + 3) k = i3 (fr P k) := h.2.2.2.2.1
theorem cP.gun {G : sm_G} {p K : Nat} {T P : pT} (h : cP G p T P K) : ∀ k, k < sl T → G (p + 4) k = i3 (un P k) := h.2.2.2.2.2
theorem mH.gsl {G : sm_G} {K : Nat} {T P : pT} (h : mH G T P K) : G 160 0 = i3 (sl T) := h.1
theorem mH.gdn {G : sm_G} {K : Nat} {T P : pT} (h : mH G T P K) : G 160 1 = i3 (dn T) := h.2.1
theorem mH.gnn {G : sm_G} {K : Nat} {T P : pT} (h : mH G T P K) : G 160 2 = i3 (nn P) := h.2.2.1
theorem mH.gtn {G : sm_G} {K : Nat} {T P : pT} (h : mH G T P K) : G 160 3 = i3 (tn T) := h.2.2.2.1
theorem mH.gdr {G : sm_G} {K : Nat} {T P : pT} (h : mH G T P K) : G 160 4 = i3 (dr T) := h.2.2.2.2.1
theorem mH.gmk {G : sm_G} {K : Nat} {T P : pT} (h : mH G T P K) : G 160 5 = mi (mk T) := h.2.2.2.2.2.1
theorem mH.gkp {G : sm_G} {K : Nat} {T P : pT} (h : mH G T P K) : G 156 37 = i3 K := h.2.2.2.2.2.2.1
theorem mH.gtp {G : sm_G} {K : Nat} {T P : pT} (h : mH G T P K) : ∀ k, k < sl T → G 162 k = mi (tp T k) := h.2.2.2.2.2.2.2.1
theorem mH.gtu {G : sm_G} {K : Nat} {T P : pT} (h : mH G T P K) : ∀ k, k < 6 → G 164 k = i3 (tu T k) := h.2.2.2.2.2.2.2.2.1
theorem mH.gfr {G : sm_G} {K : Nat} {T P : pT} (h : mH G T P K) : ∀ k, k < sl T → G (175 + k) 0 = i3 (fr P k) := h.2.2.2.2.2.2.2.2.2.1
theorem mH.gun {G : sm_G} {K : Nat} {T P : pT} (h : mH G T P K) : ∀ k, k < sl T → G (175 + k) 1 = i3 (un P k) := h.2.2.2.2.2.2.2.2.2.2.1
theorem mH.gwt {G : sm_G} {K : Nat} {T P : pT} (h : mH G T P K) : ∀ k, k < sl T → G (175 + k) 2 = i3 (wt T k) := h.2.2.2.2.2.2.2.2.2.2.2.1
theorem mH.gdA {G : sm_G} {K : Nat} {T P : pT} (h : mH G T P K) : ∀ d, d < dn T → G (195 + d) 0 = i3 (dA T d) := h.2.2.2.2.2.2.2.2.2.2.2.2.1
theorem mH.gdB {G : sm_G} {K : Nat} {T P : pT} (h : mH G T P K) : ∀ d, d < dn T → G (195 + d) 1 = i3 (dB T d) := h.2.2.2.2.2.2.2.2.2.2.2.2.2.1
theorem mH.gdO {G : sm_G} {K : Nat} {T P : pT} (h : mH G T P K) : ∀ d, d < dn T → G (195 + d) 2 = i3 (dO T d) := h.2.2.2.2.2.2.2.2.2.2.2.2.2.2.1
theorem mH.gnm {G : sm_G} {K : Nat} {T P : pT} (h : mH G T P K) : ∀ i, i < nn P → G (219 + i) 0 = i3 (nm P i) := h.2.2.2.2.2.2.2.2.2.2.2.2.2.2.2.1
theorem mH.gns {G : sm_G} {K : Nat} {T P : pT} (h : mH G T P K) : ∀ i, i < nn P → G (219 + i) 1 = i3 (ns P i) := h.2.2.2.2.2.2.2.2.2.2.2.2.2.2.2.2.1
theorem mH.gcR {G : sm_G} {K : Nat} {T P : pT} (h : mH G T P K) : ∀ d, d < dr T → G (237 + d) 0 = i3 (cR T d) := h.2.2.2.2.2.2.2.2.2.2.2.2.2.2.2.2.2.1
theorem mH.gcM {G : sm_G} {K : Nat} {T P : pT} (h : mH G T P K) : ∀ d, d < dr T → G (237 + d) 1 = i3 (cM T d) := h.2.2.2.2.2.2.2.2.2.2.2.2.2.2.2.2.2.2
theorem okT.gb {T : pT} (h : okT T) : sl T ≤ 8 ∧ dn T ≤ 10 ∧ tn T ≤ 3 ∧ dr T ≤ 4 ∧ mk T ≤ 301 := h.1
theorem okT.gwt {T : pT} (h : okT T) : ∀ k, k < sl T → wt T k ≤ 15 := h.2.1
theorem okT.gtp {T : pT} (h : okT T) : ∀ k, k < sl T → tp T k ≤ sl T := h.2.2.1
theorem okT.gdr {T : pT} (h : okT T) : ∀ d, d < dn T → dA T d < sl T ∧ dB T d < sl T ∧ dO T d ≤ 1 := h.2.2.2.1
theorem okT.gtu {T : pT} (h : okT T) : ∀ k, k < 6 → tu T k < 2 ^ dn T := h.2.2.2.2.1
theorem okT.gdm {T : pT} (h : okT T) : ∀ d, d < dr T → cR T d < sl T ∧ cM T d ≤ 300 := h.2.2.2.2.2.1
theorem okT.gtw {T : pT} (h : okT T) : ∀ i, i < tn T → ta T i < sl T ∧ tc2 T i < sl T ∧ ta T i ≠ tc2 T i := h.2.2.2.2.2.2.1
theorem okT.gtq {T : pT} (h : okT T) : ∀ k, k < sl T → ∀ j, tp T k = j + 1 ↔ ∃ i, i < tn T ∧ ((ta T i = k ∧ tc2 T i = j) ∨ (ta T i = j ∧ tc2 T i = k)) := h.2.2.2.2.2.2.2
theorem okP.gb {T P : pT} (h : okP T P) : nn P ≤ 12 := h.1
theorem okP.gnz {T P : pT} (h : okP T P) : ∀ i, i < nn P → nm P i ≤ 300 ∧ ns P i < 6 := h.2.1
theorem okP.gsp {T P : pT} (h : okP T P) : ∀ k, k < sl T → fr P k ≤ 300 ∧ un P k ≤ 300 := h.2.2
theorem row_165 {V : pV} : ∀ k, k < 8 → RR V 165 k = 166 + k ∧ sm_is (166 + k) 342 20 = true ∧ sm_N (166 + k) = 3 := by
  have h : ∀ k, k < 8 → pR0 165 k = 166 + k ∧ sm_is (166 + k) 342 20 = true ∧ sm_N (166 + k) = 3 := by decide +kernel
  intro k hk
  rw [RR_q rfl rfl]
  exact h k hk
theorem rr_165 {V : pV} {k : Nat} (hk : k < 8) : RR V 165 k = 166 + k := (row_165 k hk).1
theorem ldr_165 {β : Type} {i : Int32} {k : Nat} {G : sm_G} {f : Int32 → Option β} (hk : k < 8) : ldi (166 + k) i G f = gd (sm_in i 3) (f (G (166 + k) i.toNatClampNeg)) := ldi_e (row_165 (V := (0, 0, 0, 0, 0, fun _ => 0)) k hk).2.1 (row_165 (V := (0, 0, 0, 0, 0, fun _ => 0)) k hk).2.2
theorem kr_165 {k : Nat} (hk : k < 8) : sm_is (166 + k) 342 20 = true := (row_165 (V := (0, 0, 0, 0, 0, fun _ => 0)) k hk).2.1
theorem nr_165 {k : Nat} (hk : k < 8) : sm_N (166 + k) = 3 := (row_165 (V := (0, 0, 0, 0, 0, fun _ => 0)) k hk).2.2
theorem row_174 {V : pV} : ∀ k, k < 8 → RR V 174 k = 175 + k ∧ sm_is (175 + k) 342 20 = true ∧ sm_N (175 + k) = 3 := by
  have h : ∀ k, k < 8 → pR0 174 k = 175 + k ∧ sm_is (175 + k) 342 20 = true ∧ sm_N (175 + k) = 3 := by decide +kernel
  intro k hk
  rw [RR_q rfl rfl]
  exact h k hk
theorem rr_174 {V : pV} {k : Nat} (hk : k < 8) : RR V 174 k = 175 + k := (row_174 k hk).1
theorem ldr_174 {β : Type} {i : Int32} {k : Nat} {G : sm_G} {f : Int32 → Option β} (hk : k < 8) : ldi (175 + k) i G f = gd (sm_in i 3) (f (G (175 + k) i.toNatClampNeg)) := ldi_e (row_174 (V := (0, 0, 0, 0, 0, fun _ => 0)) k hk).2.1 (row_174 (V := (0, 0, 0, 0, 0, fun _ => 0)) k hk).2.2
theorem kr_174 {k : Nat} (hk : k < 8) : sm_is (175 + k) 342 20 = true := (row_174 (V := (0, 0, 0, 0, 0, fun _ => 0)) k hk).2.1
theorem nr_174 {k : Nat} (hk : k < 8) : sm_N (175 + k) = 3 := (row_174 (V := (0, 0, 0, 0, 0, fun _ => 0)) k hk).2.2
theorem row_183 {V : pV} : ∀ k, k < 10 → RR V 183 k = 184 + k ∧ sm_is (184 + k) 342 20 = true ∧ sm_N (184 + k) = 3 := by
  have h : ∀ k, k < 10 → pR0 183 k = 184 + k ∧ sm_is (184 + k) 342 20 = true ∧ sm_N (184 + k) = 3 := by decide +kernel
  intro k hk
  rw [RR_q rfl rfl]
  exact h k hk
theorem rr_183 {V : pV} {k : Nat} (hk : k < 10) : RR V 183 k = 184 + k := (row_183 k hk).1
theorem ldr_183 {β : Type} {i : Int32} {k : Nat} {G : sm_G} {f : Int32 → Option β} (hk : k < 10) : ldi (184 + k) i G f = gd (sm_in i 3) (f (G (184 + k) i.toNatClampNeg)) := ldi_e (row_183 (V := (0, 0, 0, 0, 0, fun _ => 0)) k hk).2.1 (row_183 (V := (0, 0, 0, 0, 0, fun _ => 0)) k hk).2.2
theorem kr_183 {k : Nat} (hk : k < 10) : sm_is (184 + k) 342 20 = true := (row_183 (V := (0, 0, 0, 0, 0, fun _ => 0)) k hk).2.1
theorem nr_183 {k : Nat} (hk : k < 10) : sm_N (184 + k) = 3 := (row_183 (V := (0, 0, 0, 0, 0, fun _ => 0)) k hk).2.2
theorem row_194 {V : pV} : ∀ k, k < 10 → RR V 194 k = 195 + k ∧ sm_is (195 + k) 342 20 = true ∧ sm_N (195 + k) = 3 := by
  have h : ∀ k, k < 10 → pR0 194 k = 195 + k ∧ sm_is (195 + k) 342 20 = true ∧ sm_N (195 + k) = 3 := by decide +kernel
  intro k hk
  rw [RR_q rfl rfl]
  exact h k hk
theorem rr_194 {V : pV} {k : Nat} (hk : k < 10) : RR V 194 k = 195 + k := (row_194 k hk).1
theorem ldr_194 {β : Type} {i : Int32} {k : Nat} {G : sm_G} {f : Int32 → Option β} (hk : k < 10) : ldi (195 + k) i G f = gd (sm_in i 3) (f (G (195 + k) i.toNatClampNeg)) := ldi_e (row_194 (V := (0, 0, 0, 0, 0, fun _ => 0)) k hk).2.1 (row_194 (V := (0, 0, 0, 0, 0, fun _ => 0)) k hk).2.2
theorem kr_194 {k : Nat} (hk : k < 10) : sm_is (195 + k) 342 20 = true := (row_194 (V := (0, 0, 0, 0, 0, fun _ => 0)) k hk).2.1
theorem nr_194 {k : Nat} (hk : k < 10) : sm_N (195 + k) = 3 := (row_194 (V := (0, 0, 0, 0, 0, fun _ => 0)) k hk).2.2
theorem row_205 {V : pV} : ∀ k, k < 12 → RR V 205 k = 206 + k ∧ sm_is (206 + k) 342 20 = true ∧ sm_N (206 + k) = 2 := by
  have h : ∀ k, k < 12 → pR0 205 k = 206 + k ∧ sm_is (206 + k) 342 20 = true ∧ sm_N (206 + k) = 2 := by decide +kernel
  intro k hk
  rw [RR_q rfl rfl]
  exact h k hk
theorem rr_205 {V : pV} {k : Nat} (hk : k < 12) : RR V 205 k = 206 + k := (row_205 k hk).1
theorem ldr_205 {β : Type} {i : Int32} {k : Nat} {G : sm_G} {f : Int32 → Option β} (hk : k < 12) : ldi (206 + k) i G f = gd (sm_in i 2) (f (G (206 + k) i.toNatClampNeg)) := ldi_e (row_205 (V := (0, 0, 0, 0, 0, fun _ => 0)) k hk).2.1 (row_205 (V := (0, 0, 0, 0, 0, fun _ => 0)) k hk).2.2
theorem kr_205 {k : Nat} (hk : k < 12) : sm_is (206 + k) 342 20 = true := (row_205 (V := (0, 0, 0, 0, 0, fun _ => 0)) k hk).2.1
theorem nr_205 {k : Nat} (hk : k < 12) : sm_N (206 + k) = 2 := (row_205 (V := (0, 0, 0, 0, 0, fun _ => 0)) k hk).2.2
theorem row_218 {V : pV} : ∀ k, k < 12 → RR V 218 k = 219 + k ∧ sm_is (219 + k) 342 20 = true ∧ sm_N (219 + k) = 2 := by
  have h : ∀ k, k < 12 → pR0 218 k = 219 + k ∧ sm_is (219 + k) 342 20 = true ∧ sm_N (219 + k) = 2 := by decide +kernel
  intro k hk
  rw [RR_q rfl rfl]
  exact h k hk
theorem rr_218 {V : pV} {k : Nat} (hk : k < 12) : RR V 218 k = 219 + k := (row_218 k hk).1
theorem ldr_218 {β : Type} {i : Int32} {k : Nat} {G : sm_G} {f : Int32 → Option β} (hk : k < 12) : ldi (219 + k) i G f = gd (sm_in i 2) (f (G (219 + k) i.toNatClampNeg)) := ldi_e (row_218 (V := (0, 0, 0, 0, 0, fun _ => 0)) k hk).2.1 (row_218 (V := (0, 0, 0, 0, 0, fun _ => 0)) k hk).2.2
theorem kr_218 {k : Nat} (hk : k < 12) : sm_is (219 + k) 342 20 = true := (row_218 (V := (0, 0, 0, 0, 0, fun _ => 0)) k hk).2.1
theorem nr_218 {k : Nat} (hk : k < 12) : sm_N (219 + k) = 2 := (row_218 (V := (0, 0, 0, 0, 0, fun _ => 0)) k hk).2.2
theorem row_231 {V : pV} : ∀ k, k < 4 → RR V 231 k = 232 + k ∧ sm_is (232 + k) 342 20 = true ∧ sm_N (232 + k) = 2 := by
  have h : ∀ k, k < 4 → pR0 231 k = 232 + k ∧ sm_is (232 + k) 342 20 = true ∧ sm_N (232 + k) = 2 := by decide +kernel
  intro k hk
  rw [RR_q rfl rfl]
  exact h k hk
theorem rr_231 {V : pV} {k : Nat} (hk : k < 4) : RR V 231 k = 232 + k := (row_231 k hk).1
theorem ldr_231 {β : Type} {i : Int32} {k : Nat} {G : sm_G} {f : Int32 → Option β} (hk : k < 4) : ldi (232 + k) i G f = gd (sm_in i 2) (f (G (232 + k) i.toNatClampNeg)) := ldi_e (row_231 (V := (0, 0, 0, 0, 0, fun _ => 0)) k hk).2.1 (row_231 (V := (0, 0, 0, 0, 0, fun _ => 0)) k hk).2.2
theorem kr_231 {k : Nat} (hk : k < 4) : sm_is (232 + k) 342 20 = true := (row_231 (V := (0, 0, 0, 0, 0, fun _ => 0)) k hk).2.1
theorem nr_231 {k : Nat} (hk : k < 4) : sm_N (232 + k) = 2 := (row_231 (V := (0, 0, 0, 0, 0, fun _ => 0)) k hk).2.2
theorem row_236 {V : pV} : ∀ k, k < 4 → RR V 236 k = 237 + k ∧ sm_is (237 + k) 342 20 = true ∧ sm_N (237 + k) = 2 := by
  have h : ∀ k, k < 4 → pR0 236 k = 237 + k ∧ sm_is (237 + k) 342 20 = true ∧ sm_N (237 + k) = 2 := by decide +kernel
  intro k hk
  rw [RR_q rfl rfl]
  exact h k hk
theorem rr_236 {V : pV} {k : Nat} (hk : k < 4) : RR V 236 k = 237 + k := (row_236 k hk).1
theorem ldr_236 {β : Type} {i : Int32} {k : Nat} {G : sm_G} {f : Int32 → Option β} (hk : k < 4) : ldi (237 + k) i G f = gd (sm_in i 2) (f (G (237 + k) i.toNatClampNeg)) := ldi_e (row_236 (V := (0, 0, 0, 0, 0, fun _ => 0)) k hk).2.1 (row_236 (V := (0, 0, 0, 0, 0, fun _ => 0)) k hk).2.2
theorem kr_236 {k : Nat} (hk : k < 4) : sm_is (237 + k) 342 20 = true := (row_236 (V := (0, 0, 0, 0, 0, fun _ => 0)) k hk).2.1
theorem nr_236 {k : Nat} (hk : k < 4) : sm_N (237 + k) = 2 := (row_236 (V := (0, 0, 0, 0, 0, fun _ => 0)) k hk).2.2
theorem row_242 {V : pV} : ∀ k, k < 4 → RR V 242 k = 243 + k ∧ sm_is (243 + k) 342 20 = true ∧ sm_N (243 + k) = 400 := by
  have h : ∀ k, k < 4 → pR0 242 k = 243 + k ∧ sm_is (243 + k) 342 20 = true ∧ sm_N (243 + k) = 400 := by decide +kernel
  intro k hk
  rw [RR_q rfl rfl]
  exact h k hk
theorem rr_242 {V : pV} {k : Nat} (hk : k < 4) : RR V 242 k = 243 + k := (row_242 k hk).1
theorem ldr_242 {β : Type} {i : Int32} {k : Nat} {G : sm_G} {f : Int32 → Option β} (hk : k < 4) : ldi (243 + k) i G f = gd (sm_in i 400) (f (G (243 + k) i.toNatClampNeg)) := ldi_e (row_242 (V := (0, 0, 0, 0, 0, fun _ => 0)) k hk).2.1 (row_242 (V := (0, 0, 0, 0, 0, fun _ => 0)) k hk).2.2
theorem kr_242 {k : Nat} (hk : k < 4) : sm_is (243 + k) 342 20 = true := (row_242 (V := (0, 0, 0, 0, 0, fun _ => 0)) k hk).2.1
theorem nr_242 {k : Nat} (hk : k < 4) : sm_N (243 + k) = 400 := (row_242 (V := (0, 0, 0, 0, 0, fun _ => 0)) k hk).2.2
theorem row_247 {V : pV} : ∀ k, k < 4 → RR V 247 k = 248 + k ∧ sm_is (248 + k) 342 20 = true ∧ sm_N (248 + k) = 240 := by
  have h : ∀ k, k < 4 → pR0 247 k = 248 + k ∧ sm_is (248 + k) 342 20 = true ∧ sm_N (248 + k) = 240 := by decide +kernel
  intro k hk
  rw [RR_q rfl rfl]
  exact h k hk
theorem rr_247 {V : pV} {k : Nat} (hk : k < 4) : RR V 247 k = 248 + k := (row_247 k hk).1
theorem ldr_247 {β : Type} {i : Int32} {k : Nat} {G : sm_G} {f : Int32 → Option β} (hk : k < 4) : ldi (248 + k) i G f = gd (sm_in i 240) (f (G (248 + k) i.toNatClampNeg)) := ldi_e (row_247 (V := (0, 0, 0, 0, 0, fun _ => 0)) k hk).2.1 (row_247 (V := (0, 0, 0, 0, 0, fun _ => 0)) k hk).2.2
theorem kr_247 {k : Nat} (hk : k < 4) : sm_is (248 + k) 342 20 = true := (row_247 (V := (0, 0, 0, 0, 0, fun _ => 0)) k hk).2.1
theorem nr_247 {k : Nat} (hk : k < 4) : sm_N (248 + k) = 240 := (row_247 (V := (0, 0, 0, 0, 0, fun _ => 0)) k hk).2.2
theorem row_252 {V : pV} : ∀ k, k < 12 → RR V 252 k = 253 + k ∧ sm_is (253 + k) 342 20 = true ∧ sm_N (253 + k) = 2 := by
  have h : ∀ k, k < 12 → pR0 252 k = 253 + k ∧ sm_is (253 + k) 342 20 = true ∧ sm_N (253 + k) = 2 := by decide +kernel
  intro k hk
  rw [RR_q rfl rfl]
  exact h k hk
theorem rr_252 {V : pV} {k : Nat} (hk : k < 12) : RR V 252 k = 253 + k := (row_252 k hk).1
theorem ldr_252 {β : Type} {i : Int32} {k : Nat} {G : sm_G} {f : Int32 → Option β} (hk : k < 12) : ldi (253 + k) i G f = gd (sm_in i 2) (f (G (253 + k) i.toNatClampNeg)) := ldi_e (row_252 (V := (0, 0, 0, 0, 0, fun _ => 0)) k hk).2.1 (row_252 (V := (0, 0, 0, 0, 0, fun _ => 0)) k hk).2.2
theorem kr_252 {k : Nat} (hk : k < 12) : sm_is (253 + k) 342 20 = true := (row_252 (V := (0, 0, 0, 0, 0, fun _ => 0)) k hk).2.1
theorem nr_252 {k : Nat} (hk : k < 12) : sm_N (253 + k) = 2 := (row_252 (V := (0, 0, 0, 0, 0, fun _ => 0)) k hk).2.2
theorem row_265 {V : pV} : ∀ k, k < 12 → RR V 265 k = 266 + k ∧ sm_is (266 + k) 342 20 = true ∧ sm_N (266 + k) = 2 := by
  have h : ∀ k, k < 12 → pR0 265 k = 266 + k ∧ sm_is (266 + k) 342 20 = true ∧ sm_N (266 + k) = 2 := by decide +kernel
  intro k hk
  rw [RR_q rfl rfl]
  exact h k hk
theorem rr_265 {V : pV} {k : Nat} (hk : k < 12) : RR V 265 k = 266 + k := (row_265 k hk).1
theorem ldr_265 {β : Type} {i : Int32} {k : Nat} {G : sm_G} {f : Int32 → Option β} (hk : k < 12) : ldi (266 + k) i G f = gd (sm_in i 2) (f (G (266 + k) i.toNatClampNeg)) := ldi_e (row_265 (V := (0, 0, 0, 0, 0, fun _ => 0)) k hk).2.1 (row_265 (V := (0, 0, 0, 0, 0, fun _ => 0)) k hk).2.2
theorem kr_265 {k : Nat} (hk : k < 12) : sm_is (266 + k) 342 20 = true := (row_265 (V := (0, 0, 0, 0, 0, fun _ => 0)) k hk).2.1
theorem nr_265 {k : Nat} (hk : k < 12) : sm_N (266 + k) = 2 := (row_265 (V := (0, 0, 0, 0, 0, fun _ => 0)) k hk).2.2
theorem row_278 {V : pV} : ∀ k, k < 3 → RR V 278 k = 279 + k ∧ sm_is (279 + k) 342 20 = true ∧ sm_N (279 + k) = 863 := by
  have h : ∀ k, k < 3 → pR0 278 k = 279 + k ∧ sm_is (279 + k) 342 20 = true ∧ sm_N (279 + k) = 863 := by decide +kernel
  intro k hk
  rw [RR_q rfl rfl]
  exact h k hk
theorem rr_278 {V : pV} {k : Nat} (hk : k < 3) : RR V 278 k = 279 + k := (row_278 k hk).1
theorem ldr_278 {β : Type} {i : Int32} {k : Nat} {G : sm_G} {f : Int32 → Option β} (hk : k < 3) : ldi (279 + k) i G f = gd (sm_in i 863) (f (G (279 + k) i.toNatClampNeg)) := ldi_e (row_278 (V := (0, 0, 0, 0, 0, fun _ => 0)) k hk).2.1 (row_278 (V := (0, 0, 0, 0, 0, fun _ => 0)) k hk).2.2
theorem kr_278 {k : Nat} (hk : k < 3) : sm_is (279 + k) 342 20 = true := (row_278 (V := (0, 0, 0, 0, 0, fun _ => 0)) k hk).2.1
theorem nr_278 {k : Nat} (hk : k < 3) : sm_N (279 + k) = 863 := (row_278 (V := (0, 0, 0, 0, 0, fun _ => 0)) k hk).2.2
theorem row_282 {V : pV} : ∀ k, k < 20 → RR V 282 k = 283 + k ∧ sm_is (283 + k) 342 20 = true ∧ sm_N (283 + k) = 41 := by
  have h : ∀ k, k < 20 → pR0 282 k = 283 + k ∧ sm_is (283 + k) 342 20 = true ∧ sm_N (283 + k) = 41 := by decide +kernel
  intro k hk
  rw [RR_q rfl rfl]
  exact h k hk
theorem rr_282 {V : pV} {k : Nat} (hk : k < 20) : RR V 282 k = 283 + k := (row_282 k hk).1
theorem ldr_282 {β : Type} {i : Int32} {k : Nat} {G : sm_G} {f : Int32 → Option β} (hk : k < 20) : ldi (283 + k) i G f = gd (sm_in i 41) (f (G (283 + k) i.toNatClampNeg)) := ldi_e (row_282 (V := (0, 0, 0, 0, 0, fun _ => 0)) k hk).2.1 (row_282 (V := (0, 0, 0, 0, 0, fun _ => 0)) k hk).2.2
theorem kr_282 {k : Nat} (hk : k < 20) : sm_is (283 + k) 342 20 = true := (row_282 (V := (0, 0, 0, 0, 0, fun _ => 0)) k hk).2.1
theorem nr_282 {k : Nat} (hk : k < 20) : sm_N (283 + k) = 41 := (row_282 (V := (0, 0, 0, 0, 0, fun _ => 0)) k hk).2.2
theorem row_309 {V : pV} : ∀ k, k < 4 → RR V 309 k = 310 + k ∧ sm_is (310 + k) 342 20 = true ∧ sm_N (310 + k) = 301 := by
  have h : ∀ k, k < 4 → pR0 309 k = 310 + k ∧ sm_is (310 + k) 342 20 = true ∧ sm_N (310 + k) = 301 := by decide +kernel
  intro k hk
  rw [RR_q rfl rfl]
  exact h k hk
theorem rr_309 {V : pV} {k : Nat} (hk : k < 4) : RR V 309 k = 310 + k := (row_309 k hk).1
theorem ldr_309 {β : Type} {i : Int32} {k : Nat} {G : sm_G} {f : Int32 → Option β} (hk : k < 4) : ldi (310 + k) i G f = gd (sm_in i 301) (f (G (310 + k) i.toNatClampNeg)) := ldi_e (row_309 (V := (0, 0, 0, 0, 0, fun _ => 0)) k hk).2.1 (row_309 (V := (0, 0, 0, 0, 0, fun _ => 0)) k hk).2.2
theorem kr_309 {k : Nat} (hk : k < 4) : sm_is (310 + k) 342 20 = true := (row_309 (V := (0, 0, 0, 0, 0, fun _ => 0)) k hk).2.1
theorem nr_309 {k : Nat} (hk : k < 4) : sm_N (310 + k) = 301 := (row_309 (V := (0, 0, 0, 0, 0, fun _ => 0)) k hk).2.2
theorem row_314 {V : pV} : ∀ k, k < 4 → RR V 314 k = 315 + k ∧ sm_is (315 + k) 342 20 = true ∧ sm_N (315 + k) = 6 := by
  have h : ∀ k, k < 4 → pR0 314 k = 315 + k ∧ sm_is (315 + k) 342 20 = true ∧ sm_N (315 + k) = 6 := by decide +kernel
  intro k hk
  rw [RR_q rfl rfl]
  exact h k hk
theorem rr_314 {V : pV} {k : Nat} (hk : k < 4) : RR V 314 k = 315 + k := (row_314 k hk).1
theorem ldr_314 {β : Type} {i : Int32} {k : Nat} {G : sm_G} {f : Int32 → Option β} (hk : k < 4) : ldi (315 + k) i G f = gd (sm_in i 6) (f (G (315 + k) i.toNatClampNeg)) := ldi_e (row_314 (V := (0, 0, 0, 0, 0, fun _ => 0)) k hk).2.1 (row_314 (V := (0, 0, 0, 0, 0, fun _ => 0)) k hk).2.2
theorem kr_314 {k : Nat} (hk : k < 4) : sm_is (315 + k) 342 20 = true := (row_314 (V := (0, 0, 0, 0, 0, fun _ => 0)) k hk).2.1
theorem nr_314 {k : Nat} (hk : k < 4) : sm_N (315 + k) = 6 := (row_314 (V := (0, 0, 0, 0, 0, fun _ => 0)) k hk).2.2
theorem row_319 {V : pV} : ∀ k, k < 4 → RR V 319 k = 320 + k ∧ sm_is (320 + k) 342 20 = true ∧ sm_N (320 + k) = 32 := by
  have h : ∀ k, k < 4 → pR0 319 k = 320 + k ∧ sm_is (320 + k) 342 20 = true ∧ sm_N (320 + k) = 32 := by decide +kernel
  intro k hk
  rw [RR_q rfl rfl]
  exact h k hk
theorem rr_319 {V : pV} {k : Nat} (hk : k < 4) : RR V 319 k = 320 + k := (row_319 k hk).1
theorem ldr_319 {β : Type} {i : Int32} {k : Nat} {G : sm_G} {f : Int32 → Option β} (hk : k < 4) : ldi (320 + k) i G f = gd (sm_in i 32) (f (G (320 + k) i.toNatClampNeg)) := ldi_e (row_319 (V := (0, 0, 0, 0, 0, fun _ => 0)) k hk).2.1 (row_319 (V := (0, 0, 0, 0, 0, fun _ => 0)) k hk).2.2
theorem kr_319 {k : Nat} (hk : k < 4) : sm_is (320 + k) 342 20 = true := (row_319 (V := (0, 0, 0, 0, 0, fun _ => 0)) k hk).2.1
theorem nr_319 {k : Nat} (hk : k < 4) : sm_N (320 + k) = 32 := (row_319 (V := (0, 0, 0, 0, 0, fun _ => 0)) k hk).2.2
theorem row_332 {V : pV} : ∀ k, k < 9 → RR V 332 k = 333 + k ∧ sm_is (333 + k) 342 20 = true ∧ sm_N (333 + k) = 1024 := by
  have h : ∀ k, k < 9 → pR0 332 k = 333 + k ∧ sm_is (333 + k) 342 20 = true ∧ sm_N (333 + k) = 1024 := by decide +kernel
  intro k hk
  rw [RR_q rfl rfl]
  exact h k hk
theorem rr_332 {V : pV} {k : Nat} (hk : k < 9) : RR V 332 k = 333 + k := (row_332 k hk).1
theorem ldr_332 {β : Type} {i : Int32} {k : Nat} {G : sm_G} {f : Int32 → Option β} (hk : k < 9) : ldi (333 + k) i G f = gd (sm_in i 1024) (f (G (333 + k) i.toNatClampNeg)) := ldi_e (row_332 (V := (0, 0, 0, 0, 0, fun _ => 0)) k hk).2.1 (row_332 (V := (0, 0, 0, 0, 0, fun _ => 0)) k hk).2.2
theorem kr_332 {k : Nat} (hk : k < 9) : sm_is (333 + k) 342 20 = true := (row_332 (V := (0, 0, 0, 0, 0, fun _ => 0)) k hk).2.1
theorem nr_332 {k : Nat} (hk : k < 9) : sm_N (333 + k) = 1024 := (row_332 (V := (0, 0, 0, 0, 0, fun _ => 0)) k hk).2.2
