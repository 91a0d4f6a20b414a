/-! calls that may change which objects stand where -/
noncomputable def hW (d j pc : Nat) (ls : List Value) (n : Nat) (R : sm_R) (x : Nat) (G : sm_G) (L : sm_L) : Option (sm_Res × sm_S) := sm_rl (sm_T j) (sm_ct j) (sm_hd j) (sm_cv0 d) (sm_cw d) pc ls n R x G L
theorem hW_eq {d j pc : Nat} {ls : List Value} {n : Nat} {R : sm_R} {x : Nat} {G : sm_G} {L : sm_L} : hW d j pc ls n R x G L = sm_blk sm_rS (fun pc ls n R x G L => hW d j pc ls n R x G L) (sm_T j) (sm_ct j) (sm_hd j) (sm_cv0 d) (sm_cw d) pc ls n R x G L := sm_rl_eq _ _ _ _ _ _ _ _ _ _ _ _
theorem cw_eq {d j : Nat} {as : List Value} {n : Nat} {R : sm_R} {x : Nat} {G : sm_G} {L : sm_L} (h5 : Nat.ble j 5 = false) (hl : Nat.ble (sm_lay0 as).length (sm_ml j) = true) : sm_cw (d + 1) j as (n, R, x, G, L) = hW d j 0 (sm_lay (sm_ml j) as) n R x G L := by
  unfold hW
  rw [sm_cw_succ, h5, hl]
  rfl
def wI (a : Int32) (n : Nat) (R : sm_R) (x : Nat) (G : sm_G) (L : sm_L) : Option (sm_Res × sm_S) := some (.inl (some (.int a)), n, R, x, G, L)
/-- a will stood in: its steps -/
def wTs (v1 : Int32) (R : sm_R) (x : Nat) (G : sm_G) (L : sm_L) : Option (sm_Res × sm_S) := gd (Nat.ble 24 (sm_K (R 1 2)) && Nat.ble (sm_K (R 1 2)) 27 && Nat.ble (R 1 2) 342) (gd (sm_in v1 (sm_N (R 1 2))) (gd (sm_is (R (R 1 2) v1.toNatClampNeg) 342 10) (wI (G (R (R 1 2) v1.toNatClampNeg) 5) 342 R x G L)))
def wX (n : Nat) (R : sm_R) (e x : Nat) (G : sm_G) (L : sm_L) : Option (sm_Res × sm_S) := some (.inr e, n, R, x, G, L)
/-! the same cells named otherwise -/
def vSt (V : pV) : pV := (V.2.1, V.1, V.2.2)
def vBk (V : pV) : pV := (V.1, V.2.1, V.2.2.1, V.2.2.2.2.1, V.2.2.2.1, V.2.2.2.2.2)
def vWl (V : pV) (e : Nat) : pV := (V.1, V.2.1, V.2.2.2.2.2 e, V.2.2.2.1, V.2.2.2.2.1, fun i => if i = e then V.2.2.1 else V.2.2.2.2.2 i)
theorem beq_f {a b : Nat} (h : a ≠ b) : Nat.beq a b = false := by
  cases q : Nat.beq a b with
  | false => rfl
  | true => exact absurd (Nat.eq_of_beq_eq_true q) h
theorem ru_ne {R : sm_R} {r k v a j : Nat} (h : a ≠ r ∨ j ≠ k) : sm_up R r k v a j = R a j := by
  unfold sm_up
  rcases h with h | h
  · rw [beq_f h]
    rfl
  · rw [beq_f h, Bool.and_false]
    rfl
theorem ru_same {R : sm_R} {r k v : Nat} : sm_up R r k v r k = v := by
  unfold sm_up
  rw [Nat.beq_refl, Nat.beq_refl]
  rfl
theorem RR_1k {V : pV} {k : Nat} : RR V 1 k = if k = 10 then V.1 else if k = 11 then V.2.1 else if k = 12 then V.2.2.1 else if k = 13 then V.2.2.2.1 else if k = 14 then V.2.2.2.2.1 else pR0 1 k := by
  unfold RR
  generalize pR0 1 k = p
  rw [show Nat.beq 1 1 = true from rfl, cond_true]
  by_cases h0 : k = 10
  · rw [h0]; rfl
  rw [beq_f h0, if_neg h0, cond_false]
  by_cases h1 : k = 11
  · rw [h1]; rfl
  rw [beq_f h1, if_neg h1, cond_false]
  by_cases h2 : k = 12
  · rw [h2]; rfl
  rw [beq_f h2, if_neg h2, cond_false]
  by_cases h3 : k = 13
  · rw [h3]; rfl
  rw [beq_f h3, if_neg h3, cond_false]
  by_cases h4 : k = 14
  · rw [h4]; rfl
  rw [beq_f h4, if_neg h4, cond_false]
theorem RR_5k {V : pV} {k : Nat} : RR V 5 k = if k < 4 then V.2.2.2.2.2 k else 0 := by
  unfold RR
  generalize pR0 5 k = p
  rw [show Nat.beq 5 1 = false from rfl, cond_false, show Nat.beq 5 5 = true from rfl, cond_true]
  by_cases h : k < 4
  · have hb : Nat.blt k 4 = true := by
      rw [Nat.blt_eq]
      exact h
    rw [hb, if_pos h, cond_true]
  · have hb : Nat.blt k 4 = false := by
      cases q : Nat.blt k 4 with
      | false => rfl
      | true =>
        rw [Nat.blt_eq] at q
        exact absurd q h
    rw [hb, if_neg h, cond_false]
theorem RR_r {V : pV} {r k : Nat} (h : r ≠ 1) (h5 : r ≠ 5) : RR V r k = pR0 r k := RR_q (beq_f h) (beq_f h5)
theorem RR_st {V : pV} : sm_up (sm_up (RR V) 1 10 V.2.1) 1 11 V.1 = RR (vSt V) := by
  funext r k
  by_cases h : r = 1
  · subst h
    rw [RR_1k]
    by_cases h1 : k = 11
    · rw [h1, ru_same, if_neg (by omega), if_pos rfl]; rfl
    rw [ru_ne (Or.inr h1)]
    by_cases h0 : k = 10
    · rw [h0, ru_same, if_pos rfl]; rfl
    rw [ru_ne (Or.inr h0), RR_1k, if_neg h0, if_neg h0, if_neg h1, if_neg h1]
    generalize pR0 1 k = p
    rfl
  · rw [ru_ne (Or.inl h), ru_ne (Or.inl h)]
    by_cases h5 : r = 5
    · subst h5
      rw [RR_5k, RR_5k]
      rfl
    · rw [RR_r h h5, RR_r h h5]
theorem RR_bk {V : pV} : sm_up (sm_up (RR V) 1 13 V.2.2.2.2.1) 1 14 V.2.2.2.1 = RR (vBk V) := by
  funext r k
  by_cases h : r = 1
  · subst h
    rw [RR_1k]
    by_cases h1 : k = 14
    · rw [h1, ru_same, if_neg (by omega), if_neg (by omega), if_neg (by omega), if_neg (by omega), if_pos rfl]; rfl
    rw [ru_ne (Or.inr h1)]
    by_cases h0 : k = 13
    · rw [h0, ru_same, if_neg (by omega), if_neg (by omega), if_neg (by omega), if_pos rfl]; rfl
    rw [ru_ne (Or.inr h0), RR_1k, if_neg h0, if_neg h0, if_neg h1, if_neg h1]
    generalize pR0 1 k = p
    rfl
  · rw [ru_ne (Or.inl h), ru_ne (Or.inl h)]
    by_cases h5 : r = 5
    · subst h5
      rw [RR_5k, RR_5k]
      rfl
    · rw [RR_r h h5, RR_r h h5]
theorem RR_wl {V : pV} {e : Nat} (he : e < 4) : sm_up (sm_up (RR V) 5 e V.2.2.1) 1 12 (V.2.2.2.2.2 e) = RR (vWl V e) := by
  funext r k
  by_cases h : r = 1
  · subst h
    rw [RR_1k]
    by_cases h1 : k = 12
    · rw [h1, ru_same, if_neg (by omega), if_neg (by omega), if_pos rfl]; rfl
    rw [ru_ne (Or.inr h1), ru_ne (Or.inl (by omega)), RR_1k, if_neg h1, if_neg h1]
    generalize pR0 1 k = p
    rfl
  · rw [ru_ne (Or.inl h)]
    by_cases h5 : r = 5
    · subst h5
      rw [RR_5k]
      by_cases hk : k = e
      · rw [hk, ru_same, if_pos he]
        show V.2.2.1 = if e = e then V.2.2.1 else V.2.2.2.2.2 e
        rw [if_pos rfl]
      · rw [ru_ne (Or.inr hk), RR_5k]
        show (if k < 4 then V.2.2.2.2.2 k else 0) = (if k < 4 then (if k = e then V.2.2.1 else V.2.2.2.2.2 k) else 0)
        rw [if_neg hk]
    · rw [ru_ne (Or.inl h5), RR_r h h5, RR_r h h5]
theorem okV2_st {V : pV} (h : okV2 V) : okV2 (vSt V) := ⟨⟨h.1.2.1, h.1.1, h.1.2.2⟩, fun q => h.2.1 q.symm, h.2.2⟩
theorem okV2_bk {V : pV} (h : okV2 V) : okV2 (vBk V) := ⟨⟨h.1.1, h.1.2.1, h.1.2.2.1, h.1.2.2.2.2.1, h.1.2.2.2.1, h.1.2.2.2.2.2⟩, h.2.1, fun q => h.2.2.1 q.symm, h.2.2.2⟩
theorem okV2_wl {V : pV} {e : Nat} (h : okV2 V) (he : e < 4) : okV2 (vWl V e) := by
  obtain ⟨⟨a1, a2, a3, a4, a5, a6⟩, b1, b2, b3, b4⟩ := h
  refine ⟨⟨a1, a2, a6 e he, a4, a5, fun i hi => ?_⟩, b1, b2, fun i hi => ?_, fun i j hi hj hij => ?_⟩
  · show pW (if i = e then V.2.2.1 else V.2.2.2.2.2 i)
    split
    · exact a3
    · exact a6 i hi
  · show (if i = e then V.2.2.1 else V.2.2.2.2.2 i) ≠ V.2.2.2.2.2 e
    split
    · exact fun q => b3 e he q.symm
    · rename_i q
      exact b4 i e hi he q
  · show (if i = e then V.2.2.1 else V.2.2.2.2.2 i) ≠ (if j = e then V.2.2.1 else V.2.2.2.2.2 j)
    by_cases q1 : i = e
    · rw [if_pos q1, if_neg (by omega)]
      exact fun q => b3 j hj q.symm
    · rw [if_neg q1]
      by_cases q2 : j = e
      · rw [if_pos q2]
        exact b3 i hi
      · rw [if_neg q2]
        exact b4 i j hi hj hij
/-! a street, a will, a book: the class -/
set_option maxRecDepth 20000 in
theorem rm_513 {d x : Nat} {R : sm_R} {G : sm_G} {L : sm_L} {v1 : Int32} : sm_cw (d + 1) 513 [.ref 1, .int v1] (342, R, x, G, L) =
  if v1 < i3 0 then sm_aV (sm_cv0 d 29 342 R [.ref 1, .int (i3 0)] (x, G, L)) (fun x1 G1 L1 => hW d 513 24 [.ref 1, .int v1, .null, .null] 342 R x1 G1 L1) (wX 342 R)
  else gd (sm_is (R 1 0) 342 6) (if v1 ≤ G (R 1 0) 1 then sm_aV (sm_cv0 d 29 342 R [.ref 1, .int (i3 1)] (x, G, L)) (fun x1 G1 L1 => hW d 513 24 [.ref 1, .int v1, .null, .null] 342 R x1 G1 L1) (wX 342 R) else sm_aV (sm_cv0 d 29 342 R [.ref 1, .int (i3 0)] (x, G, L)) (fun x1 G1 L1 => hW d 513 24 [.ref 1, .int v1, .null, .null] 342 R x1 G1 L1) (wX 342 R)) := (cw_eq rfl rfl).trans (hW_eq.trans rfl)
set_option maxRecDepth 20000 in
theorem rh_513_24 {d x : Nat} {R : sm_R} {G : sm_G} {L : sm_L} {v1 : Int32} : hW d 513 24 [.ref 1, .int v1, .null, .null] 342 R x G L =
  gd (sm_is (R 1 0) 342 6) (sm_aV (sm_cv0 d 134 342 R [.ref (R 1 0), .int v1] (x, G, L)) (fun x1 G1 L1 => gd (sm_is (R 1 11) 342 5) (sm_aV (sm_cv0 d 120 342 R [.ref (R 1 11), .ref (R 1 0)] (x1, G1, L1)) (fun x2 G2 L2 => sm_aI (sm_cv0 d 30 342 R [.ref 1] (x2, G2, L2)) (fun a3 x3 G3 L3 =>
    if a3 = i3 0 then gd (Nat.ble (R 1 11) 342) (gd (Nat.ble (R 1 10) 342) (hW d 513 81 [.ref 1, .null, .null, .int (i3 0)] 342 (sm_up (sm_up R 1 10 (R 1 11)) 1 11 (R 1 10)) x3 G3 L3))
    else gd (sm_is (R 1 0) 342 6) (wI (G3 (R 1 0) 7 - i3 10) 342 R x3 G3 L3)) (wX 342 R)) (wX 342 R))) (wX 342 R)) := hW_eq.trans rfl
set_option maxRecDepth 20000 in
theorem rh_513_81 {d x : Nat} {R : sm_R} {G : sm_G} {L : sm_L} {v3 : Int32} : hW d 513 81 [.ref 1, .null, .null, .int v3] 342 R x G L =
  if v3 < i3 4 then gd (Nat.ble 24 (sm_K (R 1 2)) && Nat.ble (sm_K (R 1 2)) 27 && Nat.ble (R 1 2) 342) (gd (sm_in v3 (sm_N (R 1 2))) (gd (sm_is (R (R 1 2) v3.toNatClampNeg) 342 10) (sm_aV (sm_cv0 d 169 342 R [.ref (R (R 1 2) v3.toNatClampNeg)] (x, G, L)) (fun x1 G1 L1 => hW d 513 81 [.ref 1, .null, .null, .int (v3 + i3 1)] 342 R x1 G1 L1) (wX 342 R))))
  else gd (sm_is (R 1 13) 342 0) (sm_aV (sm_cv0 d 75 342 R [.ref (R 1 13)] (x, G, L)) (fun x1 G1 L1 => sm_aV (sm_cv0 d 23 342 R [.ref 1] (x1, sm_up G1 1 15 (i3 0), L1)) (fun x2 G2 L2 => gd (sm_is (R 1 10) 342 5) (wI (G2 (R 1 10) 9) 342 R x2 G2 L2)) (wX 342 R)) (wX 342 R)) := hW_eq.trans rfl
set_option maxRecDepth 20000 in
theorem rm_514 {d x : Nat} {R : sm_R} {G : sm_G} {L : sm_L} {v1 v2 : Int32} : sm_cw (d + 1) 514 [.ref 1, .int v1, .int v2] (342, R, x, G, L) =
  gd (sm_is (R 1 10) 342 5) (sm_aV (sm_cv0 d 31 342 R [.ref 1, .int v1, .int (G (R 1 10) 12)] (x, G, L)) (fun x1 G1 L1 =>
    if v2 < i3 0 then sm_aV (sm_cv0 d 29 342 R [.ref 1, .int (i3 0)] (x1, G1, L1)) (fun x2 G2 L2 => hW d 514 43 [.ref 1, .int v1, .int v2, .null] 342 R x2 G2 L2) (wX 342 R)
    else gd (sm_is (R 1 0) 342 6) (if v2 ≤ G1 (R 1 0) 1 then (if v2 ≤ i3 150 then sm_aV (sm_cv0 d 29 342 R [.ref 1, .int (i3 1)] (x1, G1, L1)) (fun x2 G2 L2 => hW d 514 43 [.ref 1, .int v1, .int v2, .null] 342 R x2 G2 L2) (wX 342 R) else sm_aV (sm_cv0 d 29 342 R [.ref 1, .int (i3 0)] (x1, G1, L1)) (fun x2 G2 L2 => hW d 514 43 [.ref 1, .int v1, .int v2, .null] 342 R x2 G2 L2) (wX 342 R)) else sm_aV (sm_cv0 d 29 342 R [.ref 1, .int (i3 0)] (x1, G1, L1)) (fun x2 G2 L2 => hW d 514 43 [.ref 1, .int v1, .int v2, .null] 342 R x2 G2 L2) (wX 342 R))) (wX 342 R)) := (cw_eq rfl rfl).trans (hW_eq.trans rfl)
set_option maxRecDepth 20000 in
theorem rh_514_43 {d x : Nat} {R : sm_R} {G : sm_G} {L : sm_L} {v1 v2 : Int32} : hW d 514 43 [.ref 1, .int v1, .int v2, .null] 342 R x G L =
  gd (sm_is (R 1 0) 342 6) (sm_aV (sm_cv0 d 134 342 R [.ref (R 1 0), .int v2] (x, G, L)) (fun x1 G1 L1 => gd (sm_is (R 1 10) 342 5) (gd (sm_is (R 1 10) 342 5) (gd (sm_is (R 1 12) 342 10) (sm_aV (sm_cv0 d 170 342 R [.ref (R 1 12), .ref (R 1 0), .int (G1 (R 1 10) 9), .int (G1 (R 1 10) 10)] (x1, G1, L1)) (fun x2 G2 L2 => sm_aI (sm_cv0 d 30 342 R [.ref 1] (x2, G2, L2)) (fun a3 x3 G3 L3 =>
    if a3 = i3 0 then gd (Nat.ble 24 (sm_K (R 1 2)) && Nat.ble (sm_K (R 1 2)) 27 && Nat.ble (R 1 2) 342) (gd (sm_in v1 (sm_N (R 1 2))) (gd (Nat.ble 25 (sm_K (R 1 2)) && Nat.ble (sm_K (R 1 2)) 27 && Nat.ble (R 1 2) 342 && sm_is (R 1 12) 342 (bif Nat.beq (sm_K (R 1 2)) 25 then 10 else bif Nat.beq (sm_K (R 1 2)) 26 then 3 else 7)) (gd (sm_in v1 (sm_N (R 1 2))) (gd (Nat.ble (R (R 1 2) v1.toNatClampNeg) 342) (
      sm_aV (sm_cv0 d 23 342 (sm_up (sm_up R (R 1 2) v1.toNatClampNeg (R 1 12)) 1 12 (R (R 1 2) v1.toNatClampNeg)) [.ref 1] (x3, G3, L3)) (fun x4 G4 L4 => wTs v1 (sm_up (sm_up R (R 1 2) v1.toNatClampNeg (R 1 12)) 1 12 (R (R 1 2) v1.toNatClampNeg)) x4 G4 L4) (wX 342 (sm_up (sm_up R (R 1 2) v1.toNatClampNeg (R 1 12)) 1 12 (R (R 1 2) v1.toNatClampNeg))))))))
    else gd (sm_is (R 1 0) 342 6) (wI (G3 (R 1 0) 7 - i3 10) 342 R x3 G3 L3)) (wX 342 R)) (wX 342 R))))) (wX 342 R)) := hW_eq.trans rfl
set_option maxRecDepth 20000 in
theorem rm_515 {d x : Nat} {R : sm_R} {G : sm_G} {L : sm_L} {v1 : Int32} : sm_cw (d + 1) 515 [.ref 1, .int v1] (342, R, x, G, L) =
  if v1 < i3 0 then sm_aV (sm_cv0 d 29 342 R [.ref 1, .int (i3 0)] (x, G, L)) (fun x1 G1 L1 => hW d 515 31 [.ref 1, .int v1, .null] 342 R x1 G1 L1) (wX 342 R)
  else gd (sm_is (R 1 0) 342 6) (if v1 ≤ G (R 1 0) 1 then (if v1 ≤ i3 150 then sm_aV (sm_cv0 d 29 342 R [.ref 1, .int (i3 1)] (x, G, L)) (fun x1 G1 L1 => hW d 515 31 [.ref 1, .int v1, .null] 342 R x1 G1 L1) (wX 342 R) else sm_aV (sm_cv0 d 29 342 R [.ref 1, .int (i3 0)] (x, G, L)) (fun x1 G1 L1 => hW d 515 31 [.ref 1, .int v1, .null] 342 R x1 G1 L1) (wX 342 R)) else sm_aV (sm_cv0 d 29 342 R [.ref 1, .int (i3 0)] (x, G, L)) (fun x1 G1 L1 => hW d 515 31 [.ref 1, .int v1, .null] 342 R x1 G1 L1) (wX 342 R)) := (cw_eq rfl rfl).trans (hW_eq.trans rfl)
set_option maxRecDepth 20000 in
theorem rh_515_31 {d x : Nat} {R : sm_R} {G : sm_G} {L : sm_L} {v1 : Int32} : hW d 515 31 [.ref 1, .int v1, .null] 342 R x G L =
  gd (sm_is (R 1 0) 342 6) (sm_aV (sm_cv0 d 134 342 R [.ref (R 1 0), .int v1] (x, G, L)) (fun x1 G1 L1 => gd (sm_is (R 1 14) 342 0) (sm_aV (sm_cv0 d 76 342 R [.ref (R 1 14), .ref (R 1 0)] (x1, G1, L1)) (fun x2 G2 L2 => sm_aI (sm_cv0 d 30 342 R [.ref 1] (x2, G2, L2)) (fun a3 x3 G3 L3 =>
    if a3 = i3 0 then gd (Nat.ble (R 1 14) 342) (gd (Nat.ble (R 1 13) 342) (gd (sm_is (R 1 14) 342 0) (wI (G3 (R 1 14) 2) 342 (sm_up (sm_up R 1 13 (R 1 14)) 1 14 (R 1 13)) x3 G3 L3)))
    else gd (sm_is (R 1 0) 342 6) (wI (G3 (R 1 0) 7 - i3 10) 342 R x3 G3 L3)) (wX 342 R)) (wX 342 R))) (wX 342 R)) := hW_eq.trans rfl
