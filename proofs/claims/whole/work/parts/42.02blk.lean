/-! block equations, by the program wip/gen/gen4.py -/
/-! Street_readSingle -/
set_option maxRecDepth 20000 in
theorem rm_128 {d x : Nat} {R : sm_R} {G : sm_G} {L : sm_L} {r0 : Nat} : sm_cv0 (d + 1) 128 342 R [.ref r0, .ref 2] (x, G, L) =
  gd (sm_is r0 342 5) (sm_aI (sm_cv0 d 143 342 R [.ref 2, .int (i3 0), .int ((G r0 9) - (i3 1))] (x, G, L)) (fun a1 x1 G1 L1 =>
    sm_aI (sm_cv0 d 135 342 R [.ref 2] (x1, G1, L1)) (fun a2 x2 G2 L2 =>
      if a2 = (i3 0) then
        (gd (sm_is r0 342 5) (ldi (R r0 2) a1 G2 (fun y3 => if y3 = m1 then
          (oI a1 x2 G2 L2)
        else (sm_aV (sm_cv0 d 144 342 R [.ref 2] (x2, G2, L2)) (fun x4 G4 L4 =>
            oI a1 x4 G4 L4) oX))))
      else (oI a1 x2 G2 L2)) oX) oX) := (cv_eq rfl rfl).trans (hD_eq.trans rfl)
set_option maxRecDepth 20000 in
theorem m_128 {d x : Nat} {V : pV} {G : sm_G} {L : sm_L} {r0 : Nat} (hr0 : pS r0) : sm_cv0 (d + 1) 128 342 (RR V) [.ref r0, .ref 2] (x, G, L) =
  sm_aI (sm_cv0 d 143 342 (RR V) [.ref 2, .int (i3 0), .int ((G r0 9) - (i3 1))] (x, G, L)) (fun a1 x1 G1 L1 =>
    sm_aI (sm_cv0 d 135 342 (RR V) [.ref 2] (x1, G1, L1)) (fun a2 x2 G2 L2 =>
      if a2 = (i3 0) then
        (gd (sm_in a1 8) (if (G2 (r0 + 11) a1.toNatClampNeg) = m1 then
          (oI a1 x2 G2 L2)
        else (sm_aV (sm_cv0 d 144 342 (RR V) [.ref 2] (x2, G2, L2)) (fun x4 G4 L4 =>
            oI a1 x4 G4 L4) oX)))
      else (oI a1 x2 G2 L2)) oX) oX := by
  rw [rm_128]
  try simp only [gd_tt, (fS_0_2 V hr0), (kS_0 hr0), (nS_11 hr0), k_2, ldi_e (kS_11 hr0) (nS_11 hr0)]
/-! Street_readDreamer -/
set_option maxRecDepth 20000 in
theorem rm_129 {d x : Nat} {R : sm_R} {G : sm_G} {L : sm_L} {r0 : Nat} {v2 : Int32} : sm_cv0 (d + 1) 129 342 R [.ref r0, .ref 2, .int v2] (x, G, L) =
  sm_aI (sm_cv0 d 141 342 R [.ref 2, .int v2] (x, G, L)) (fun a1 x1 G1 L1 =>
    if a1 = (i3 0) then
      (oV x1 G1 L1)
    else (gd (sm_is r0 342 5) (sm_aI (sm_cv0 d 143 342 R [.ref 2, .int (i3 0), .int ((G1 r0 9) - (i3 1))] (x1, G1, L1)) (fun a2 x2 G2 L2 =>
        sm_aI (sm_cv0 d 143 342 R [.ref 2, .int (i3 0), .int (i3 300)] (x2, G2, L2)) (fun a3 x3 G3 L3 =>
          sm_aV (sm_cv0 d 145 342 R [.ref 2, .int (i3 59)] (x3, G3, L3)) (fun x4 G4 L4 =>
            sm_aI (sm_cv0 d 135 342 R [.ref 2] (x4, G4, L4)) (fun a5 x5 G5 L5 =>
              if a5 = (i3 0) then
                (gd (sm_is r0 342 5) (gd (sm_is r0 342 5) (gd (sm_is (R r0 7) 342 20) (gd (sm_in (G5 r0 12) (sm_N (R r0 7))) (gd (sm_is r0 342 5) (gd (sm_is r0 342 5) (gd (sm_is (R r0 8) 342 20) (gd (sm_in ((sm_up G5 (R r0 7) ((G5 r0 12).toNatClampNeg) a2) r0 12) (sm_N (R r0 8))) (gd (sm_is r0 342 5) (gd (sm_is r0 342 5) (oV x5 (sm_up (sm_up (sm_up G5 (R r0 7) ((G5 r0 12).toNatClampNeg) a2) (R r0 8) (((sm_up G5 (R r0 7) ((G5 r0 12).toNatClampNeg) a2) r0 12).toNatClampNeg) a3) r0 12 (((sm_up (sm_up G5 (R r0 7) ((G5 r0 12).toNatClampNeg) a2) (R r0 8) (((sm_up G5 (R r0 7) ((G5 r0 12).toNatClampNeg) a2) r0 12).toNatClampNeg) a3) r0 12) + (i3 1))) L5)))))))))))
              else (oV x5 G5 L5)) oX) oX) oX) oX))) oX := (cv_eq rfl rfl).trans (hD_eq.trans rfl)
set_option maxRecDepth 20000 in
theorem m_129 {d x : Nat} {V : pV} {G : sm_G} {L : sm_L} {r0 : Nat} {v2 : Int32} (hr0 : pS r0) : sm_cv0 (d + 1) 129 342 (RR V) [.ref r0, .ref 2, .int v2] (x, G, L) =
  sm_aI (sm_cv0 d 141 342 (RR V) [.ref 2, .int v2] (x, G, L)) (fun a1 x1 G1 L1 =>
    if a1 = (i3 0) then
      (oV x1 G1 L1)
    else (sm_aI (sm_cv0 d 143 342 (RR V) [.ref 2, .int (i3 0), .int ((G1 r0 9) - (i3 1))] (x1, G1, L1)) (fun a2 x2 G2 L2 =>
        sm_aI (sm_cv0 d 143 342 (RR V) [.ref 2, .int (i3 0), .int (i3 300)] (x2, G2, L2)) (fun a3 x3 G3 L3 =>
          sm_aV (sm_cv0 d 145 342 (RR V) [.ref 2, .int (i3 59)] (x3, G3, L3)) (fun x4 G4 L4 =>
            sm_aI (sm_cv0 d 135 342 (RR V) [.ref 2] (x4, G4, L4)) (fun a5 x5 G5 L5 =>
              if a5 = (i3 0) then
                (gd (sm_in (G5 r0 12) 4) (gd (sm_in ((sm_up G5 (r0 + 16) ((G5 r0 12).toNatClampNeg) a2) r0 12) 4) (oV x5 (sm_up (sm_up (sm_up G5 (r0 + 16) ((G5 r0 12).toNatClampNeg) a2) (r0 + 17) (((sm_up G5 (r0 + 16) ((G5 r0 12).toNatClampNeg) a2) r0 12).toNatClampNeg) a3) r0 12 (((sm_up (sm_up G5 (r0 + 16) ((G5 r0 12).toNatClampNeg) a2) (r0 + 17) (((sm_up G5 (r0 + 16) ((G5 r0 12).toNatClampNeg) a2) r0 12).toNatClampNeg) a3) r0 12) + (i3 1))) L5)))
              else (oV x5 G5 L5)) oX) oX) oX) oX)) oX := by
  rw [rm_129]
  try simp only [gd_tt, (fS_0_7 V hr0), (fS_0_8 V hr0), (kS_0 hr0), (kS_16 hr0), (kS_17 hr0), (nS_16 hr0), (nS_17 hr0), k_2]
/-! Street_readMilk -/
set_option maxRecDepth 20000 in
theorem rm_130 {d x : Nat} {R : sm_R} {G : sm_G} {L : sm_L} {r0 : Nat} {v2 : Int32} : sm_cv0 (d + 1) 130 342 R [.ref r0, .ref 2, .int v2] (x, G, L) =
  sm_aI (sm_cv0 d 141 342 R [.ref 2, .int v2] (x, G, L)) (fun a1 x1 G1 L1 =>
    if a1 = (i3 0) then
      (oV x1 G1 L1)
    else (sm_aI (sm_cv0 d 143 342 R [.ref 2, .int (i3 0), .int (i3 300)] (x1, G1, L1)) (fun a2 x2 G2 L2 =>
        sm_aV (sm_cv0 d 145 342 R [.ref 2, .int (i3 59)] (x2, G2, L2)) (fun x3 G3 L3 =>
          sm_aI (sm_cv0 d 135 342 R [.ref 2] (x3, G3, L3)) (fun a4 x4 G4 L4 =>
            if a4 = (i3 0) then
              (gd (sm_is r0 342 5) (oV x4 (sm_up G4 r0 14 a2) L4))
            else (oV x4 G4 L4)) oX) oX) oX)) oX := (cv_eq rfl rfl).trans (hD_eq.trans rfl)
set_option maxRecDepth 20000 in
theorem m_130 {d x : Nat} {V : pV} {G : sm_G} {L : sm_L} {r0 : Nat} {v2 : Int32} (hr0 : pS r0) : sm_cv0 (d + 1) 130 342 (RR V) [.ref r0, .ref 2, .int v2] (x, G, L) =
  sm_aI (sm_cv0 d 141 342 (RR V) [.ref 2, .int v2] (x, G, L)) (fun a1 x1 G1 L1 =>
    if a1 = (i3 0) then
      (oV x1 G1 L1)
    else (sm_aI (sm_cv0 d 143 342 (RR V) [.ref 2, .int (i3 0), .int (i3 300)] (x1, G1, L1)) (fun a2 x2 G2 L2 =>
        sm_aV (sm_cv0 d 145 342 (RR V) [.ref 2, .int (i3 59)] (x2, G2, L2)) (fun x3 G3 L3 =>
          sm_aI (sm_cv0 d 135 342 (RR V) [.ref 2] (x3, G3, L3)) (fun a4 x4 G4 L4 =>
            if a4 = (i3 0) then
              (oV x4 (sm_up G4 r0 14 a2) L4)
            else (oV x4 G4 L4)) oX) oX) oX)) oX := by
  rw [rm_130]
  try simp only [gd_tt, (kS_0 hr0), k_2]
/-! Street_sortsOf -/
set_option maxRecDepth 20000 in
theorem rm_131 {d x : Nat} {R : sm_R} {G : sm_G} {L : sm_L} {r0 : Nat} {v1 : Int32} : sm_cv0 (d + 1) 131 342 R [.ref r0, .int v1] (x, G, L) =
  hD d 131 4 [.ref r0, .int v1, .int (i3 0), .int (i3 0)] 342 R x G L := (cv_eq rfl rfl).trans (hD_eq.trans rfl)
theorem m_131 {d x : Nat} {V : pV} {G : sm_G} {L : sm_L} {r0 : Nat} {v1 : Int32} (hr0 : pS r0) : sm_cv0 (d + 1) 131 342 (RR V) [.ref r0, .int v1] (x, G, L) =
  hD d 131 4 [.ref r0, .int v1, .int (i3 0), .int (i3 0)] 342 (RR V) x G L := rm_131
set_option maxRecDepth 20000 in
theorem rh_131_4 {d x : Nat} {R : sm_R} {G : sm_G} {L : sm_L} {r0 : Nat} {v1 v2 v3 : Int32} : hD d 131 4 [.ref r0, .int v1, .int v2, .int v3] 342 R x G L =
  if v3 < (i3 6) then
    (gd (sm_is r0 342 5) (ldi (R r0 6) v3 G (fun y1 => hD d 131 4 [.ref r0, .int v1, .int (v2 ||| (shl ((shr y1 v1) &&& (i3 1)) v3)), .int (v3 + (i3 1))] 342 R x G L)))
  else (oI v2 x G L) := hD_eq.trans rfl
set_option maxRecDepth 20000 in
theorem h_131_4 {d x : Nat} {V : pV} {G : sm_G} {L : sm_L} {r0 : Nat} {v1 v2 v3 : Int32} (hr0 : pS r0) : hD d 131 4 [.ref r0, .int v1, .int v2, .int v3] 342 (RR V) x G L =
  if v3 < (i3 6) then
    (gd (sm_in v3 6) (hD d 131 4 [.ref r0, .int v1, .int (v2 ||| (shl ((shr (G (r0 + 15) v3.toNatClampNeg) v1) &&& (i3 1)) v3)), .int (v3 + (i3 1))] 342 (RR V) x G L))
  else (oI v2 x G L) := by
  rw [rh_131_4]
  try simp only [gd_tt, (fS_0_6 V hr0), (kS_0 hr0), (nS_15 hr0), ldi_e (kS_15 hr0) (nS_15 hr0)]
/-! Tape_takes -/
set_option maxRecDepth 20000 in
theorem rm_132 {d x : Nat} {R : sm_R} {G : sm_G} {L : sm_L} {v1 : Int32} : sm_cv0 (d + 1) 132 342 R [.ref 2, .int v1] (x, G, L) =
  if ((G 2 1) + v1) ≤ (i3 600) then
    (oI (i3 1) x G L)
  else (oI (i3 0) x G L) := (cv_eq rfl rfl).trans (hD_eq.trans rfl)
set_option maxRecDepth 20000 in
theorem m_132 {d x : Nat} {V : pV} {G : sm_G} {L : sm_L} {v1 : Int32} : sm_cv0 (d + 1) 132 342 (RR V) [.ref 2, .int v1] (x, G, L) =
  if ((G 2 1) + v1) ≤ (i3 600) then
    (oI (i3 1) x G L)
  else (oI (i3 0) x G L) := by
  rw [rm_132]
  try simp only [gd_tt, k_2]
/-! Tape_put -/
set_option maxRecDepth 20000 in
theorem rm_133 {d x : Nat} {R : sm_R} {G : sm_G} {L : sm_L} {v1 : Int32} : sm_cv0 (d + 1) 133 342 R [.ref 2, .int v1] (x, G, L) =
  sm_aI (sm_cv0 d 132 342 R [.ref 2, .int (i3 4)] (x, G, L)) (fun a1 x1 G1 L1 =>
    if a1 = (i3 0) then
      (oV x1 G1 L1)
    else (bst (R 2 0) (G1 2 1) (i2b (shr v1 (i3 24))) G1 (fun g2 => bst (R 2 0) ((g2 2 1) + (i3 1)) (i2b (shr v1 (i3 16))) g2 (fun g3 => bst (R 2 0) ((g3 2 1) + (i3 2)) (i2b (shr v1 (i3 8))) g3 (fun g4 => bst (R 2 0) ((g4 2 1) + (i3 3)) (i2b v1) g4 (fun g5 => oV x1 (sm_up g5 2 1 ((g5 2 1) + (i3 4))) L1)))))) oX := (cv_eq rfl rfl).trans (hD_eq.trans rfl)
set_option maxRecDepth 20000 in
theorem m_133 {d x : Nat} {V : pV} {G : sm_G} {L : sm_L} {v1 : Int32} : sm_cv0 (d + 1) 133 342 (RR V) [.ref 2, .int v1] (x, G, L) =
  sm_aI (sm_cv0 d 132 342 (RR V) [.ref 2, .int (i3 4)] (x, G, L)) (fun a1 x1 G1 L1 =>
    if a1 = (i3 0) then
      (oV x1 G1 L1)
    else (gd (sm_in (G1 2 1) 600) (gd (sm_in (((sm_up G1 3 ((G1 2 1).toNatClampNeg) (i2b (i2b (shr v1 (i3 24))))) 2 1) + (i3 1)) 600) (gd (sm_in (((sm_up (sm_up G1 3 ((G1 2 1).toNatClampNeg) (i2b (i2b (shr v1 (i3 24))))) 3 ((((sm_up G1 3 ((G1 2 1).toNatClampNeg) (i2b (i2b (shr v1 (i3 24))))) 2 1) + (i3 1)).toNatClampNeg) (i2b (i2b (shr v1 (i3 16))))) 2 1) + (i3 2)) 600) (gd (sm_in (((sm_up (sm_up (sm_up G1 3 ((G1 2 1).toNatClampNeg) (i2b (i2b (shr v1 (i3 24))))) 3 ((((sm_up G1 3 ((G1 2 1).toNatClampNeg) (i2b (i2b (shr v1 (i3 24))))) 2 1) + (i3 1)).toNatClampNeg) (i2b (i2b (shr v1 (i3 16))))) 3 ((((sm_up (sm_up G1 3 ((G1 2 1).toNatClampNeg) (i2b (i2b (shr v1 (i3 24))))) 3 ((((sm_up G1 3 ((G1 2 1).toNatClampNeg) (i2b (i2b (shr v1 (i3 24))))) 2 1) + (i3 1)).toNatClampNeg) (i2b (i2b (shr v1 (i3 16))))) 2 1) + (i3 2)).toNatClampNeg) (i2b (i2b (shr v1 (i3 8))))) 2 1) + (i3 3)) 600) (oV x1 (sm_up (sm_up (sm_up (sm_up (sm_up G1 3 ((G1 2 1).toNatClampNeg) (i2b (i2b (shr v1 (i3 24))))) 3 ((((sm_up G1 3 ((G1 2 1).toNatClampNeg) (i2b (i2b (shr v1 (i3 24))))) 2 1) + (i3 1)).toNatClampNeg) (i2b (i2b (shr v1 (i3 16))))) 3 ((((sm_up (sm_up G1 3 ((G1 2 1).toNatClampNeg) (i2b (i2b (shr v1 (i3 24))))) 3 ((((sm_up G1 3 ((G1 2 1).toNatClampNeg) (i2b (i2b (shr v1 (i3 24))))) 2 1) + (i3 1)).toNatClampNeg) (i2b (i2b (shr v1 (i3 16))))) 2 1) + (i3 2)).toNatClampNeg) (i2b (i2b (shr v1 (i3 8))))) 3 ((((sm_up (sm_up (sm_up G1 3 ((G1 2 1).toNatClampNeg) (i2b (i2b (shr v1 (i3 24))))) 3 ((((sm_up G1 3 ((G1 2 1).toNatClampNeg) (i2b (i2b (shr v1 (i3 24))))) 2 1) + (i3 1)).toNatClampNeg) (i2b (i2b (shr v1 (i3 16))))) 3 ((((sm_up (sm_up G1 3 ((G1 2 1).toNatClampNeg) (i2b (i2b (shr v1 (i3 24))))) 3 ((((sm_up G1 3 ((G1 2 1).toNatClampNeg) (i2b (i2b (shr v1 (i3 24))))) 2 1) + (i3 1)).toNatClampNeg) (i2b (i2b (shr v1 (i3 16))))) 2 1) + (i3 2)).toNatClampNeg) (i2b (i2b (shr v1 (i3 8))))) 2 1) + (i3 3)).toNatClampNeg) (i2b (i2b v1))) 2 1 (((sm_up (sm_up (sm_up (sm_up G1 3 ((G1 2 1).toNatClampNeg) (i2b (i2b (shr v1 (i3 24))))) 3 ((((sm_up G1 3 ((G1 2 1).toNatClampNeg) (i2b (i2b (shr v1 (i3 24))))) 2 1) + (i3 1)).toNatClampNeg) (i2b (i2b (shr v1 (i3 16))))) 3 ((((sm_up (sm_up G1 3 ((G1 2 1).toNatClampNeg) (i2b (i2b (shr v1 (i3 24))))) 3 ((((sm_up G1 3 ((G1 2 1).toNatClampNeg) (i2b (i2b (shr v1 (i3 24))))) 2 1) + (i3 1)).toNatClampNeg) (i2b (i2b (shr v1 (i3 16))))) 2 1) + (i3 2)).toNatClampNeg) (i2b (i2b (shr v1 (i3 8))))) 3 ((((sm_up (sm_up (sm_up G1 3 ((G1 2 1).toNatClampNeg) (i2b (i2b (shr v1 (i3 24))))) 3 ((((sm_up G1 3 ((G1 2 1).toNatClampNeg) (i2b (i2b (shr v1 (i3 24))))) 2 1) + (i3 1)).toNatClampNeg) (i2b (i2b (shr v1 (i3 16))))) 3 ((((sm_up (sm_up G1 3 ((G1 2 1).toNatClampNeg) (i2b (i2b (shr v1 (i3 24))))) 3 ((((sm_up G1 3 ((G1 2 1).toNatClampNeg) (i2b (i2b (shr v1 (i3 24))))) 2 1) + (i3 1)).toNatClampNeg) (i2b (i2b (shr v1 (i3 16))))) 2 1) + (i3 2)).toNatClampNeg) (i2b (i2b (shr v1 (i3 8))))) 2 1) + (i3 3)).toNatClampNeg) (i2b (i2b v1))) 2 1) + (i3 4))) L1)))))) oX := by
  rw [rm_133]
  try simp only [gd_tt, (q_2_0 V), bst21_e k_3 n_3, k_2, n_3]
/-! Tape_begin -/
set_option maxRecDepth 20000 in
theorem rm_134 {d x : Nat} {R : sm_R} {G : sm_G} {L : sm_L} {v1 : Int32} : sm_cv0 (d + 1) 134 342 R [.ref 2, .int v1] (x, G, L) =
  sm_aI (sm_cv0 d 4 342 R [.int v1, .int (i3 600)] (x, G, L)) (fun a1 x1 G1 L1 =>
    sm_aI (sm_cv0 d 5 342 R [.int (i3 0), .int a1] (x1, G1, L1)) (fun a2 x2 G2 L2 =>
      oV x2 (sm_up (sm_up (sm_up (sm_up G2 2 2 a2) 2 3 (i3 0)) 2 7 (i3 0)) 2 8 m1) L2) oX) oX := (cv_eq rfl rfl).trans (hD_eq.trans rfl)
set_option maxRecDepth 20000 in
theorem m_134 {d x : Nat} {V : pV} {G : sm_G} {L : sm_L} {v1 : Int32} : sm_cv0 (d + 1) 134 342 (RR V) [.ref 2, .int v1] (x, G, L) =
  sm_aI (sm_cv0 d 4 342 (RR V) [.int v1, .int (i3 600)] (x, G, L)) (fun a1 x1 G1 L1 =>
    sm_aI (sm_cv0 d 5 342 (RR V) [.int (i3 0), .int a1] (x1, G1, L1)) (fun a2 x2 G2 L2 =>
      oV x2 (sm_up (sm_up (sm_up (sm_up G2 2 2 a2) 2 3 (i3 0)) 2 7 (i3 0)) 2 8 m1) L2) oX) oX := by
  rw [rm_134]
  try simp only [gd_tt, k_2]
/-! Tape_failed -/
set_option maxRecDepth 20000 in
theorem rm_135 {d x : Nat} {R : sm_R} {G : sm_G} {L : sm_L} : sm_cv0 (d + 1) 135 342 R [.ref 2] (x, G, L) =
  if (G 2 7) = (i3 0) then
    (oI (i3 0) x G L)
  else (oI (i3 1) x G L) := (cv_eq rfl rfl).trans (hD_eq.trans rfl)
set_option maxRecDepth 20000 in
theorem m_135 {d x : Nat} {V : pV} {G : sm_G} {L : sm_L} : sm_cv0 (d + 1) 135 342 (RR V) [.ref 2] (x, G, L) =
  if (G 2 7) = (i3 0) then
    (oI (i3 0) x G L)
  else (oI (i3 1) x G L) := by
  rw [rm_135]
  try simp only [gd_tt, k_2]
/-! Tape_finished -/
set_option maxRecDepth 20000 in
theorem rm_136 {d x : Nat} {R : sm_R} {G : sm_G} {L : sm_L} : sm_cv0 (d + 1) 136 342 R [.ref 2] (x, G, L) =
  sm_aV (sm_cv0 d 137 342 R [.ref 2] (x, G, L)) (fun x1 G1 L1 =>
    if (G1 2 3) < (G1 2 2) then
      (oI (i3 0) x1 G1 L1)
    else (oI (i3 1) x1 G1 L1)) oX := (cv_eq rfl rfl).trans (hD_eq.trans rfl)
set_option maxRecDepth 20000 in
theorem m_136 {d x : Nat} {V : pV} {G : sm_G} {L : sm_L} : sm_cv0 (d + 1) 136 342 (RR V) [.ref 2] (x, G, L) =
  sm_aV (sm_cv0 d 137 342 (RR V) [.ref 2] (x, G, L)) (fun x1 G1 L1 =>
    if (G1 2 3) < (G1 2 2) then
      (oI (i3 0) x1 G1 L1)
    else (oI (i3 1) x1 G1 L1)) oX := by
  rw [rm_136]
  try simp only [gd_tt, k_2]
/-! Tape_skipBlanks -/
theorem m_137 {d x : Nat} {V : pV} {G : sm_G} {L : sm_L} : sm_cv0 (d + 1) 137 342 (RR V) [.ref 2] (x, G, L) = hD d 137 0 [.ref 2] 342 (RR V) x G L := cv_eq rfl rfl
set_option maxRecDepth 20000 in
theorem rh_137_0 {d x : Nat} {R : sm_R} {G : sm_G} {L : sm_L} : hD d 137 0 [.ref 2] 342 R x G L =
  if (G 2 3) < (G 2 2) then
    (gd (sm_is (R 2 0) 342 21 || sm_is (R 2 0) 342 22) (gd (sm_in (G 2 3) (sm_N (R 2 0))) (if (G (R 2 0) ((G 2 3).toNatClampNeg)) = (i3 32) then
      (hD d 137 0 [.ref 2] 342 R x (sm_up G 2 3 ((G 2 3) + (i3 1))) L)
    else (oV x G L))))
  else (oV x G L) := hD_eq.trans rfl
set_option maxRecDepth 20000 in
theorem h_137_0 {d x : Nat} {V : pV} {G : sm_G} {L : sm_L} : hD d 137 0 [.ref 2] 342 (RR V) x G L =
  if (G 2 3) < (G 2 2) then
    (gd (sm_in (G 2 3) 600) (if (G 3 ((G 2 3).toNatClampNeg)) = (i3 32) then
      (hD d 137 0 [.ref 2] 342 (RR V) x (sm_up G 2 3 ((G 2 3) + (i3 1))) L)
    else (oV x G L)))
  else (oV x G L) := by
  rw [rh_137_0]
  try simp only [gd_tt, (q_2_0 V), Bool.false_or, Bool.true_or, k_2, k_3, n_3]
/-! Tape_word -/
set_option maxRecDepth 20000 in
theorem rm_138 {d x : Nat} {R : sm_R} {G : sm_G} {L : sm_L} : sm_cv0 (d + 1) 138 342 R [.ref 2] (x, G, L) =
  sm_aI (sm_cv0 d 135 342 R [.ref 2] (x, G, L)) (fun a1 x1 G1 L1 =>
    if a1 = (i3 0) then
      (sm_aV (sm_cv0 d 137 342 R [.ref 2] (x1, G1, L1)) (fun x2 G2 L2 =>
        hD d 138 20 [.ref 2] 342 R x2 (sm_up G2 2 4 (G2 2 3)) L2) oX)
    else (oV x1 G1 L1)) oX := (cv_eq rfl rfl).trans (hD_eq.trans rfl)
set_option maxRecDepth 20000 in
theorem m_138 {d x : Nat} {V : pV} {G : sm_G} {L : sm_L} : sm_cv0 (d + 1) 138 342 (RR V) [.ref 2] (x, G, L) =
  sm_aI (sm_cv0 d 135 342 (RR V) [.ref 2] (x, G, L)) (fun a1 x1 G1 L1 =>
    if a1 = (i3 0) then
      (sm_aV (sm_cv0 d 137 342 (RR V) [.ref 2] (x1, G1, L1)) (fun x2 G2 L2 =>
        hD d 138 20 [.ref 2] 342 (RR V) x2 (sm_up G2 2 4 (G2 2 3)) L2) oX)
    else (oV x1 G1 L1)) oX := by
  rw [rm_138]
  try simp only [gd_tt, k_2]
set_option maxRecDepth 20000 in
theorem rh_138_20 {d x : Nat} {R : sm_R} {G : sm_G} {L : sm_L} : hD d 138 20 [.ref 2] 342 R x G L =
  if (G 2 3) < (G 2 2) then
    (gd (sm_is (R 2 0) 342 21 || sm_is (R 2 0) 342 22) (gd (sm_in (G 2 3) (sm_N (R 2 0))) (if (G (R 2 0) ((G 2 3).toNatClampNeg)) < (i3 97) then
      (hD d 138 72 [.ref 2] 342 R x G L)
    else (gd (sm_is (R 2 0) 342 21 || sm_is (R 2 0) 342 22) (gd (sm_in (G 2 3) (sm_N (R 2 0))) (if (G (R 2 0) ((G 2 3).toNatClampNeg)) ≤ (i3 122) then
        (hD d 138 20 [.ref 2] 342 R x (sm_up G 2 3 ((G 2 3) + (i3 1))) L)
      else (hD d 138 72 [.ref 2] 342 R x G L)))))))
  else (hD d 138 72 [.ref 2] 342 R x G L) := hD_eq.trans rfl
set_option maxRecDepth 20000 in
theorem h_138_20 {d x : Nat} {V : pV} {G : sm_G} {L : sm_L} : hD d 138 20 [.ref 2] 342 (RR V) x G L =
  if (G 2 3) < (G 2 2) then
    (gd (sm_in (G 2 3) 600) (if (G 3 ((G 2 3).toNatClampNeg)) < (i3 97) then
      (hD d 138 72 [.ref 2] 342 (RR V) x G L)
    else (gd (sm_in (G 2 3) 600) (if (G 3 ((G 2 3).toNatClampNeg)) ≤ (i3 122) then
        (hD d 138 20 [.ref 2] 342 (RR V) x (sm_up G 2 3 ((G 2 3) + (i3 1))) L)
      else (hD d 138 72 [.ref 2] 342 (RR V) x G L)))))
  else (hD d 138 72 [.ref 2] 342 (RR V) x G L) := by
  rw [rh_138_20]
  try simp only [gd_tt, (q_2_0 V), Bool.false_or, Bool.true_or, k_2, k_3, n_3]
set_option maxRecDepth 20000 in
theorem rh_138_72 {d x : Nat} {R : sm_R} {G : sm_G} {L : sm_L} : hD d 138 72 [.ref 2] 342 R x G L =
  if ((sm_up G 2 5 (G 2 3)) 2 5) = ((sm_up G 2 5 (G 2 3)) 2 4) then
    (sm_aV (sm_cv0 d 139 342 R [.ref 2, .int (i3 1), .int ((sm_up G 2 5 (G 2 3)) 2 3)] (x, sm_up G 2 5 (G 2 3), L)) (fun x1 G1 L1 =>
      oV x1 G1 L1) oX)
  else (oV x (sm_up G 2 5 (G 2 3)) L) := hD_eq.trans rfl
set_option maxRecDepth 20000 in
theorem h_138_72 {d x : Nat} {V : pV} {G : sm_G} {L : sm_L} : hD d 138 72 [.ref 2] 342 (RR V) x G L =
  if ((sm_up G 2 5 (G 2 3)) 2 5) = ((sm_up G 2 5 (G 2 3)) 2 4) then
    (sm_aV (sm_cv0 d 139 342 (RR V) [.ref 2, .int (i3 1), .int ((sm_up G 2 5 (G 2 3)) 2 3)] (x, sm_up G 2 5 (G 2 3), L)) (fun x1 G1 L1 =>
      oV x1 G1 L1) oX)
  else (oV x (sm_up G 2 5 (G 2 3)) L) := by
  rw [rh_138_72]
  try simp only [gd_tt, k_2]
/-! Tape_refuse -/
set_option maxRecDepth 20000 in
theorem rm_139 {d x : Nat} {R : sm_R} {G : sm_G} {L : sm_L} {v1 v2 : Int32} : sm_cv0 (d + 1) 139 342 R [.ref 2, .int v1, .int v2] (x, G, L) =
  if (G 2 7) = (i3 0) then
    (oV x (sm_up (sm_up G 2 7 v1) 2 8 v2) L)
  else (oV x G L) := (cv_eq rfl rfl).trans (hD_eq.trans rfl)
set_option maxRecDepth 20000 in
theorem m_139 {d x : Nat} {V : pV} {G : sm_G} {L : sm_L} {v1 v2 : Int32} : sm_cv0 (d + 1) 139 342 (RR V) [.ref 2, .int v1, .int v2] (x, G, L) =
  if (G 2 7) = (i3 0) then
    (oV x (sm_up (sm_up G 2 7 v1) 2 8 v2) L)
  else (oV x G L) := by
  rw [rm_139]
  try simp only [gd_tt, k_2]
/-! Tape_wordIs -/
set_option maxRecDepth 20000 in
theorem rm_140 {d x : Nat} {R : sm_R} {G : sm_G} {L : sm_L} {r1 : Nat} : sm_cv0 (d + 1) 140 342 R [.ref 2, .ref r1] (x, G, L) =
  sm_aI (sm_cv0 d 135 342 R [.ref 2] (x, G, L)) (fun a1 x1 G1 L1 =>
    if a1 = (i3 0) then
      (sm_aI (sm_cv0 d 1 342 R [.ref r1] (x1, G1, L1)) (fun a2 x2 G2 L2 =>
        if ((G1 2 5) - (G1 2 4)) = a2 then
          (hD d 140 27 [.ref 2, .ref r1, .int (i3 0)] 342 R x2 G2 L2)
        else (oI (i3 0) x2 G2 L2)) oX)
    else (oI (i3 0) x1 G1 L1)) oX := (cv_eq rfl rfl).trans (hD_eq.trans rfl)
set_option maxRecDepth 20000 in
theorem m_140 {d x : Nat} {V : pV} {G : sm_G} {L : sm_L} {r1 : Nat} : sm_cv0 (d + 1) 140 342 (RR V) [.ref 2, .ref r1] (x, G, L) =
  sm_aI (sm_cv0 d 135 342 (RR V) [.ref 2] (x, G, L)) (fun a1 x1 G1 L1 =>
    if a1 = (i3 0) then
      (sm_aI (sm_cv0 d 1 342 (RR V) [.ref r1] (x1, G1, L1)) (fun a2 x2 G2 L2 =>
        if ((G1 2 5) - (G1 2 4)) = a2 then
          (hD d 140 27 [.ref 2, .ref r1, .int (i3 0)] 342 (RR V) x2 G2 L2)
        else (oI (i3 0) x2 G2 L2)) oX)
    else (oI (i3 0) x1 G1 L1)) oX := by
  rw [rm_140]
  try simp only [gd_tt, k_2]
set_option maxRecDepth 20000 in
theorem rh_140_27 {d x : Nat} {R : sm_R} {G : sm_G} {L : sm_L} {r1 : Nat} {v2 : Int32} : hD d 140 27 [.ref 2, .ref r1, .int v2] 342 R x G L =
  sm_aI (sm_cv0 d 1 342 R [.ref r1] (x, G, L)) (fun a1 x1 G1 L1 =>
    if v2 < a1 then
      (gd (sm_is (R 2 0) 342 21 || sm_is (R 2 0) 342 22) (gd (sm_in ((G1 2 4) + v2) (sm_N (R 2 0))) (sm_aI (sm_cv0 d 2 342 R [.ref r1, .int v2] (x1, G1, L1)) (fun a2 x2 G2 L2 =>
        if (G1 (R 2 0) (((G1 2 4) + v2).toNatClampNeg)) = a2 then
          (hD d 140 27 [.ref 2, .ref r1, .int (v2 + (i3 1))] 342 R x2 G2 L2)
        else (oI (i3 0) x2 G2 L2)) oX)))
    else (oI (i3 1) x1 G1 L1)) oX := hD_eq.trans rfl
set_option maxRecDepth 20000 in
theorem h_140_27 {d x : Nat} {V : pV} {G : sm_G} {L : sm_L} {r1 : Nat} {v2 : Int32} : hD d 140 27 [.ref 2, .ref r1, .int v2] 342 (RR V) x G L =
  sm_aI (sm_cv0 d 1 342 (RR V) [.ref r1] (x, G, L)) (fun a1 x1 G1 L1 =>
    if v2 < a1 then
      (gd (sm_in ((G1 2 4) + v2) 600) (sm_aI (sm_cv0 d 2 342 (RR V) [.ref r1, .int v2] (x1, G1, L1)) (fun a2 x2 G2 L2 =>
        if (G1 3 (((G1 2 4) + v2).toNatClampNeg)) = a2 then
          (hD d 140 27 [.ref 2, .ref r1, .int (v2 + (i3 1))] 342 (RR V) x2 G2 L2)
        else (oI (i3 0) x2 G2 L2)) oX))
    else (oI (i3 1) x1 G1 L1)) oX := by
  rw [rh_140_27]
  try simp only [gd_tt, (q_2_0 V), Bool.false_or, Bool.true_or, k_2, k_3, n_3]
/-! Tape_fits -/
set_option maxRecDepth 20000 in
theorem rm_141 {d x : Nat} {R : sm_R} {G : sm_G} {L : sm_L} {v1 : Int32} : sm_cv0 (d + 1) 141 342 R [.ref 2, .int v1] (x, G, L) =
  if v1 = (i3 0) then
    (sm_aV (sm_cv0 d 142 342 R [.ref 2, .int (i3 3)] (x, G, L)) (fun x1 G1 L1 =>
      sm_aI (sm_cv0 d 135 342 R [.ref 2] (x1, G1, L1)) (fun a2 x2 G2 L2 =>
        if a2 = (i3 0) then
          (oI (i3 1) x2 G2 L2)
        else (oI (i3 0) x2 G2 L2)) oX) oX)
  else (sm_aI (sm_cv0 d 135 342 R [.ref 2] (x, G, L)) (fun a3 x3 G3 L3 =>
      if a3 = (i3 0) then
        (oI (i3 1) x3 G3 L3)
      else (oI (i3 0) x3 G3 L3)) oX) := (cv_eq rfl rfl).trans (hD_eq.trans rfl)
set_option maxRecDepth 20000 in
theorem m_141 {d x : Nat} {V : pV} {G : sm_G} {L : sm_L} {v1 : Int32} : sm_cv0 (d + 1) 141 342 (RR V) [.ref 2, .int v1] (x, G, L) =
  if v1 = (i3 0) then
    (sm_aV (sm_cv0 d 142 342 (RR V) [.ref 2, .int (i3 3)] (x, G, L)) (fun x1 G1 L1 =>
      sm_aI (sm_cv0 d 135 342 (RR V) [.ref 2] (x1, G1, L1)) (fun a2 x2 G2 L2 =>
        if a2 = (i3 0) then
          (oI (i3 1) x2 G2 L2)
        else (oI (i3 0) x2 G2 L2)) oX) oX)
  else (sm_aI (sm_cv0 d 135 342 (RR V) [.ref 2] (x, G, L)) (fun a3 x3 G3 L3 =>
      if a3 = (i3 0) then
        (oI (i3 1) x3 G3 L3)
      else (oI (i3 0) x3 G3 L3)) oX) := by
  rw [rm_141]
  try simp only [gd_tt, k_2]
/-! Tape_refuseWord -/
set_option maxRecDepth 20000 in
theorem rm_142 {d x : Nat} {R : sm_R} {G : sm_G} {L : sm_L} {v1 : Int32} : sm_cv0 (d + 1) 142 342 R [.ref 2, .int v1] (x, G, L) =
  sm_aV (sm_cv0 d 139 342 R [.ref 2, .int v1, .int (G 2 4)] (x, G, L)) (fun x1 G1 L1 =>
    oV x1 G1 L1) oX := (cv_eq rfl rfl).trans (hD_eq.trans rfl)
set_option maxRecDepth 20000 in
theorem m_142 {d x : Nat} {V : pV} {G : sm_G} {L : sm_L} {v1 : Int32} : sm_cv0 (d + 1) 142 342 (RR V) [.ref 2, .int v1] (x, G, L) =
  sm_aV (sm_cv0 d 139 342 (RR V) [.ref 2, .int v1, .int (G 2 4)] (x, G, L)) (fun x1 G1 L1 =>
    oV x1 G1 L1) oX := by
  rw [rm_142]
  try simp only [gd_tt, k_2]
/-! Tape_number -/
set_option maxRecDepth 20000 in
theorem rm_143 {d x : Nat} {R : sm_R} {G : sm_G} {L : sm_L} {v1 v2 : Int32} : sm_cv0 (d + 1) 143 342 R [.ref 2, .int v1, .int v2] (x, G, L) =
  sm_aI (sm_cv0 d 135 342 R [.ref 2] (x, G, L)) (fun a1 x1 G1 L1 =>
    if a1 = (i3 0) then
      (sm_aV (sm_cv0 d 137 342 R [.ref 2] (x1, G1, L1)) (fun x2 G2 L2 =>
        hD d 143 23 [.ref 2, .int v1, .int v2, .int (i3 0)] 342 R x2 (sm_up G2 2 6 (G2 2 3)) L2) oX)
    else (oI (i3 0) x1 G1 L1)) oX := (cv_eq rfl rfl).trans (hD_eq.trans rfl)
set_option maxRecDepth 20000 in
theorem m_143 {d x : Nat} {V : pV} {G : sm_G} {L : sm_L} {v1 v2 : Int32} : sm_cv0 (d + 1) 143 342 (RR V) [.ref 2, .int v1, .int v2] (x, G, L) =
  sm_aI (sm_cv0 d 135 342 (RR V) [.ref 2] (x, G, L)) (fun a1 x1 G1 L1 =>
    if a1 = (i3 0) then
      (sm_aV (sm_cv0 d 137 342 (RR V) [.ref 2] (x1, G1, L1)) (fun x2 G2 L2 =>
        hD d 143 23 [.ref 2, .int v1, .int v2, .int (i3 0)] 342 (RR V) x2 (sm_up G2 2 6 (G2 2 3)) L2) oX)
    else (oI (i3 0) x1 G1 L1)) oX := by
  rw [rm_143]
  try simp only [gd_tt, k_2]
set_option maxRecDepth 20000 in
theorem rh_143_23 {d x : Nat} {R : sm_R} {G : sm_G} {L : sm_L} {v1 v2 v3 : Int32} : hD d 143 23 [.ref 2, .int v1, .int v2, .int v3] 342 R x G L =
  if (G 2 3) < (G 2 2) then
    (gd (sm_is (R 2 0) 342 21 || sm_is (R 2 0) 342 22) (gd (sm_in (G 2 3) (sm_N (R 2 0))) (if (G (R 2 0) ((G 2 3).toNatClampNeg)) < (i3 48) then
      (hD d 143 103 [.ref 2, .int v1, .int v2, .int v3] 342 R x G L)
    else (gd (sm_is (R 2 0) 342 21 || sm_is (R 2 0) 342 22) (gd (sm_in (G 2 3) (sm_N (R 2 0))) (if (G (R 2 0) ((G 2 3).toNatClampNeg)) ≤ (i3 57) then
        (if v3 < (i3 100000) then
          (gd (sm_is (R 2 0) 342 21 || sm_is (R 2 0) 342 22) (gd (sm_in (G 2 3) (sm_N (R 2 0))) (hD d 143 23 [.ref 2, .int v1, .int v2, .int (((v3 * (i3 10)) + (G (R 2 0) ((G 2 3).toNatClampNeg))) - (i3 48))] 342 R x (sm_up G 2 3 ((G 2 3) + (i3 1))) L)))
        else (hD d 143 23 [.ref 2, .int v1, .int v2, .int v3] 342 R x (sm_up G 2 3 ((G 2 3) + (i3 1))) L))
      else (hD d 143 103 [.ref 2, .int v1, .int v2, .int v3] 342 R x G L)))))))
  else (hD d 143 103 [.ref 2, .int v1, .int v2, .int v3] 342 R x G L) := hD_eq.trans rfl
set_option maxRecDepth 20000 in
theorem h_143_23 {d x : Nat} {V : pV} {G : sm_G} {L : sm_L} {v1 v2 v3 : Int32} : hD d 143 23 [.ref 2, .int v1, .int v2, .int v3] 342 (RR V) x G L =
  if (G 2 3) < (G 2 2) then
    (gd (sm_in (G 2 3) 600) (if (G 3 ((G 2 3).toNatClampNeg)) < (i3 48) then
      (hD d 143 103 [.ref 2, .int v1, .int v2, .int v3] 342 (RR V) x G L)
    else (gd (sm_in (G 2 3) 600) (if (G 3 ((G 2 3).toNatClampNeg)) ≤ (i3 57) then
        (if v3 < (i3 100000) then
          (gd (sm_in (G 2 3) 600) (hD d 143 23 [.ref 2, .int v1, .int v2, .int (((v3 * (i3 10)) + (G 3 ((G 2 3).toNatClampNeg))) - (i3 48))] 342 (RR V) x (sm_up G 2 3 ((G 2 3) + (i3 1))) L))
        else (hD d 143 23 [.ref 2, .int v1, .int v2, .int v3] 342 (RR V) x (sm_up G 2 3 ((G 2 3) + (i3 1))) L))
      else (hD d 143 103 [.ref 2, .int v1, .int v2, .int v3] 342 (RR V) x G L)))))
  else (hD d 143 103 [.ref 2, .int v1, .int v2, .int v3] 342 (RR V) x G L) := by
  rw [rh_143_23]
  try simp only [gd_tt, (q_2_0 V), Bool.false_or, Bool.true_or, k_2, k_3, n_3]
set_option maxRecDepth 20000 in
theorem rh_143_103 {d x : Nat} {R : sm_R} {G : sm_G} {L : sm_L} {v1 v2 v3 : Int32} : hD d 143 103 [.ref 2, .int v1, .int v2, .int v3] 342 R x G L =
  if (G 2 3) = (G 2 6) then
    (sm_aV (sm_cv0 d 139 342 R [.ref 2, .int (i3 1), .int (G 2 3)] (x, G, L)) (fun x1 G1 L1 =>
      hD d 143 140 [.ref 2, .null, .null, .int v3] 342 R x1 G1 L1) oX)
  else (if v3 < v1 then
      (sm_aV (sm_cv0 d 144 342 R [.ref 2] (x, G, L)) (fun x2 G2 L2 =>
        hD d 143 140 [.ref 2, .null, .null, .int v3] 342 R x2 G2 L2) oX)
    else (if v3 ≤ v2 then
        (hD d 143 140 [.ref 2, .null, .null, .int v3] 342 R x G L)
      else (sm_aV (sm_cv0 d 144 342 R [.ref 2] (x, G, L)) (fun x3 G3 L3 =>
          hD d 143 140 [.ref 2, .null, .null, .int v3] 342 R x3 G3 L3) oX))) := hD_eq.trans rfl
set_option maxRecDepth 20000 in
theorem h_143_103 {d x : Nat} {V : pV} {G : sm_G} {L : sm_L} {v1 v2 v3 : Int32} : hD d 143 103 [.ref 2, .int v1, .int v2, .int v3] 342 (RR V) x G L =
  if (G 2 3) = (G 2 6) then
    (sm_aV (sm_cv0 d 139 342 (RR V) [.ref 2, .int (i3 1), .int (G 2 3)] (x, G, L)) (fun x1 G1 L1 =>
      hD d 143 140 [.ref 2, .null, .null, .int v3] 342 (RR V) x1 G1 L1) oX)
  else (if v3 < v1 then
      (sm_aV (sm_cv0 d 144 342 (RR V) [.ref 2] (x, G, L)) (fun x2 G2 L2 =>
        hD d 143 140 [.ref 2, .null, .null, .int v3] 342 (RR V) x2 G2 L2) oX)
    else (if v3 ≤ v2 then
        (hD d 143 140 [.ref 2, .null, .null, .int v3] 342 (RR V) x G L)
      else (sm_aV (sm_cv0 d 144 342 (RR V) [.ref 2] (x, G, L)) (fun x3 G3 L3 =>
          hD d 143 140 [.ref 2, .null, .null, .int v3] 342 (RR V) x3 G3 L3) oX))) := by
  rw [rh_143_103]
  try simp only [gd_tt, k_2]
set_option maxRecDepth 20000 in
theorem rh_143_140 {d x : Nat} {R : sm_R} {G : sm_G} {L : sm_L} {v3 : Int32} : hD d 143 140 [.ref 2, .null, .null, .int v3] 342 R x G L =
  sm_aI (sm_cv0 d 135 342 R [.ref 2] (x, G, L)) (fun a1 x1 G1 L1 =>
    if a1 = (i3 0) then
      (oI v3 x1 G1 L1)
    else (oI (i3 0) x1 G1 L1)) oX := hD_eq.trans rfl
set_option maxRecDepth 20000 in
theorem h_143_140 {d x : Nat} {V : pV} {G : sm_G} {L : sm_L} {v3 : Int32} : hD d 143 140 [.ref 2, .null, .null, .int v3] 342 (RR V) x G L =
  sm_aI (sm_cv0 d 135 342 (RR V) [.ref 2] (x, G, L)) (fun a1 x1 G1 L1 =>
    if a1 = (i3 0) then
      (oI v3 x1 G1 L1)
    else (oI (i3 0) x1 G1 L1)) oX := by
  rw [rh_143_140]
  try simp only [gd_tt, k_2]
/-! Tape_refuseNumber -/
set_option maxRecDepth 20000 in
theorem rm_144 {d x : Nat} {R : sm_R} {G : sm_G} {L : sm_L} : sm_cv0 (d + 1) 144 342 R [.ref 2] (x, G, L) =
  sm_aV (sm_cv0 d 139 342 R [.ref 2, .int (i3 2), .int (G 2 6)] (x, G, L)) (fun x1 G1 L1 =>
    oV x1 G1 L1) oX := (cv_eq rfl rfl).trans (hD_eq.trans rfl)
set_option maxRecDepth 20000 in
theorem m_144 {d x : Nat} {V : pV} {G : sm_G} {L : sm_L} : sm_cv0 (d + 1) 144 342 (RR V) [.ref 2] (x, G, L) =
  sm_aV (sm_cv0 d 139 342 (RR V) [.ref 2, .int (i3 2), .int (G 2 6)] (x, G, L)) (fun x1 G1 L1 =>
    oV x1 G1 L1) oX := by
  rw [rm_144]
  try simp only [gd_tt, k_2]
/-! Tape_sign -/
set_option maxRecDepth 20000 in
theorem rm_145 {d x : Nat} {R : sm_R} {G : sm_G} {L : sm_L} {v1 : Int32} : sm_cv0 (d + 1) 145 342 R [.ref 2, .int v1] (x, G, L) =
  sm_aI (sm_cv0 d 135 342 R [.ref 2] (x, G, L)) (fun a1 x1 G1 L1 =>
    if a1 = (i3 0) then
      (sm_aI (sm_cv0 d 146 342 R [.ref 2, .int v1] (x1, G1, L1)) (fun a2 x2 G2 L2 =>
        if a2 = (i3 0) then
          (sm_aV (sm_cv0 d 139 342 R [.ref 2, .int (i3 1), .int (G2 2 3)] (x2, G2, L2)) (fun x3 G3 L3 =>
            oV x3 G3 L3) oX)
        else (oV x2 (sm_up G2 2 3 ((G2 2 3) + (i3 1))) L2)) oX)
    else (oV x1 G1 L1)) oX := (cv_eq rfl rfl).trans (hD_eq.trans rfl)
set_option maxRecDepth 20000 in
theorem m_145 {d x : Nat} {V : pV} {G : sm_G} {L : sm_L} {v1 : Int32} : sm_cv0 (d + 1) 145 342 (RR V) [.ref 2, .int v1] (x, G, L) =
  sm_aI (sm_cv0 d 135 342 (RR V) [.ref 2] (x, G, L)) (fun a1 x1 G1 L1 =>
    if a1 = (i3 0) then
      (sm_aI (sm_cv0 d 146 342 (RR V) [.ref 2, .int v1] (x1, G1, L1)) (fun a2 x2 G2 L2 =>
        if a2 = (i3 0) then
          (sm_aV (sm_cv0 d 139 342 (RR V) [.ref 2, .int (i3 1), .int (G2 2 3)] (x2, G2, L2)) (fun x3 G3 L3 =>
            oV x3 G3 L3) oX)
        else (oV x2 (sm_up G2 2 3 ((G2 2 3) + (i3 1))) L2)) oX)
    else (oV x1 G1 L1)) oX := by
  rw [rm_145]
  try simp only [gd_tt, k_2]
/-! Tape_nextIs -/
set_option maxRecDepth 20000 in
theorem rm_146 {d x : Nat} {R : sm_R} {G : sm_G} {L : sm_L} {v1 : Int32} : sm_cv0 (d + 1) 146 342 R [.ref 2, .int v1] (x, G, L) =
  sm_aV (sm_cv0 d 137 342 R [.ref 2] (x, G, L)) (fun x1 G1 L1 =>
    if (G1 2 3) < (G1 2 2) then
      (gd (sm_is (R 2 0) 342 21 || sm_is (R 2 0) 342 22) (gd (sm_in (G1 2 3) (sm_N (R 2 0))) (if (G1 (R 2 0) ((G1 2 3).toNatClampNeg)) = v1 then
        (oI (i3 1) x1 G1 L1)
      else (oI (i3 0) x1 G1 L1))))
    else (oI (i3 0) x1 G1 L1)) oX := (cv_eq rfl rfl).trans (hD_eq.trans rfl)
set_option maxRecDepth 20000 in
theorem m_146 {d x : Nat} {V : pV} {G : sm_G} {L : sm_L} {v1 : Int32} : sm_cv0 (d + 1) 146 342 (RR V) [.ref 2, .int v1] (x, G, L) =
  sm_aV (sm_cv0 d 137 342 (RR V) [.ref 2] (x, G, L)) (fun x1 G1 L1 =>
    if (G1 2 3) < (G1 2 2) then
      (gd (sm_in (G1 2 3) 600) (if (G1 3 ((G1 2 3).toNatClampNeg)) = v1 then
        (oI (i3 1) x1 G1 L1)
      else (oI (i3 0) x1 G1 L1)))
    else (oI (i3 0) x1 G1 L1)) oX := by
  rw [rm_146]
  try simp only [gd_tt, (q_2_0 V), Bool.false_or, Bool.true_or, k_2, k_3, n_3]
/-! Tape_takesWord -/
set_option maxRecDepth 20000 in
theorem rm_147 {d x : Nat} {R : sm_R} {G : sm_G} {L : sm_L} {r1 : Nat} : sm_cv0 (d + 1) 147 342 R [.ref 2, .ref r1] (x, G, L) =
  sm_aI (sm_cv0 d 135 342 R [.ref 2] (x, G, L)) (fun a1 x1 G1 L1 =>
    if a1 = (i3 0) then
      (sm_aV (sm_cv0 d 137 342 R [.ref 2] (x1, G1, L1)) (fun x2 G2 L2 =>
        if (G2 2 3) < (G2 2 2) then
          (gd (sm_is (R 2 0) 342 21 || sm_is (R 2 0) 342 22) (gd (sm_in (G2 2 3) (sm_N (R 2 0))) (if (G2 (R 2 0) ((G2 2 3).toNatClampNeg)) < (i3 97) then
            (oI (i3 0) x2 G2 L2)
          else (gd (sm_is (R 2 0) 342 21 || sm_is (R 2 0) 342 22) (gd (sm_in (G2 2 3) (sm_N (R 2 0))) (if (G2 (R 2 0) ((G2 2 3).toNatClampNeg)) ≤ (i3 122) then
              (sm_aV (sm_cv0 d 138 342 R [.ref 2] (x2, G2, L2)) (fun x3 G3 L3 =>
                sm_aI (sm_cv0 d 140 342 R [.ref 2, .ref r1] (x3, G3, L3)) (fun a4 x4 G4 L4 =>
                  if a4 = (i3 0) then
                    (oI (i3 0) x4 (sm_up G4 2 3 (G2 2 3)) L4)
                  else (oI (i3 1) x4 G4 L4)) oX) oX)
            else (oI (i3 0) x2 G2 L2)))))))
        else (oI (i3 0) x2 G2 L2)) oX)
    else (oI (i3 0) x1 G1 L1)) oX := (cv_eq rfl rfl).trans (hD_eq.trans rfl)
set_option maxRecDepth 20000 in
theorem m_147 {d x : Nat} {V : pV} {G : sm_G} {L : sm_L} {r1 : Nat} : sm_cv0 (d + 1) 147 342 (RR V) [.ref 2, .ref r1] (x, G, L) =
  sm_aI (sm_cv0 d 135 342 (RR V) [.ref 2] (x, G, L)) (fun a1 x1 G1 L1 =>
    if a1 = (i3 0) then
      (sm_aV (sm_cv0 d 137 342 (RR V) [.ref 2] (x1, G1, L1)) (fun x2 G2 L2 =>
        if (G2 2 3) < (G2 2 2) then
          (gd (sm_in (G2 2 3) 600) (if (G2 3 ((G2 2 3).toNatClampNeg)) < (i3 97) then
            (oI (i3 0) x2 G2 L2)
          else (gd (sm_in (G2 2 3) 600) (if (G2 3 ((G2 2 3).toNatClampNeg)) ≤ (i3 122) then
              (sm_aV (sm_cv0 d 138 342 (RR V) [.ref 2] (x2, G2, L2)) (fun x3 G3 L3 =>
                sm_aI (sm_cv0 d 140 342 (RR V) [.ref 2, .ref r1] (x3, G3, L3)) (fun a4 x4 G4 L4 =>
                  if a4 = (i3 0) then
                    (oI (i3 0) x4 (sm_up G4 2 3 (G2 2 3)) L4)
                  else (oI (i3 1) x4 G4 L4)) oX) oX)
            else (oI (i3 0) x2 G2 L2)))))
        else (oI (i3 0) x2 G2 L2)) oX)
    else (oI (i3 0) x1 G1 L1)) oX := by
  rw [rm_147]
  try simp only [gd_tt, (q_2_0 V), Bool.false_or, Bool.true_or, k_2, k_3, n_3]
/-! Walker_clear -/
set_option maxRecDepth 20000 in
theorem rm_148 {d x : Nat} {R : sm_R} {G : sm_G} {L : sm_L} {r0 : Nat} : sm_cv0 (d + 1) 148 342 R [.ref r0] (x, G, L) =
  gd (sm_is r0 342 7) (sm_aV (sm_cv0 d 6 342 R [.ref (R r0 0), .int (i3 0)] (x, G, L)) (fun x1 G1 L1 =>
    gd (sm_is r0 342 7) (gd (sm_is r0 342 7) (gd (sm_is r0 342 7) (gd (sm_is r0 342 7) (gd (sm_is r0 342 7) (gd (sm_is r0 342 7) (gd (sm_is r0 342 7) (gd (sm_is r0 342 7) (gd (sm_is r0 342 7) (gd (sm_is r0 342 7) (oV x1 (sm_up (sm_up (sm_up (sm_up (sm_up (sm_up (sm_up (sm_up (sm_up (sm_up G1 r0 1 m1) r0 2 m1) r0 3 (i3 0)) r0 4 (i3 0)) r0 5 (i3 0)) r0 6 (i3 0)) r0 7 (i3 0)) r0 8 (i3 0)) r0 9 (i3 0)) r0 10 (i3 0)) L1))))))))))) oX) := (cv_eq rfl rfl).trans (hD_eq.trans rfl)
set_option maxRecDepth 20000 in
theorem m_148 {d x : Nat} {V : pV} {G : sm_G} {L : sm_L} {r0 : Nat} (hr0 : pK r0) : sm_cv0 (d + 1) 148 342 (RR V) [.ref r0] (x, G, L) =
  sm_aV (sm_cv0 d 6 342 (RR V) [.ref (r0 + 1), .int (i3 0)] (x, G, L)) (fun x1 G1 L1 =>
    oV x1 (sm_up (sm_up (sm_up (sm_up (sm_up (sm_up (sm_up (sm_up (sm_up (sm_up G1 r0 1 m1) r0 2 m1) r0 3 (i3 0)) r0 4 (i3 0)) r0 5 (i3 0)) r0 6 (i3 0)) r0 7 (i3 0)) r0 8 (i3 0)) r0 9 (i3 0)) r0 10 (i3 0)) L1) oX := by
  rw [rm_148]
  try simp only [gd_tt, (fK_0_0 V hr0), (kK_0 hr0)]
/-! Walker_copyFrom -/
set_option maxRecDepth 20000 in
theorem rm_149 {d x : Nat} {R : sm_R} {G : sm_G} {L : sm_L} {r0 r1 : Nat} : sm_cv0 (d + 1) 149 342 R [.ref r0, .ref r1] (x, G, L) =
  gd (sm_is r1 342 7) (gd (sm_is r0 342 7) (sm_aV (sm_cv0 d 3 342 R [.ref (R r1 0), .int (i3 0), .ref (R r0 0), .int (i3 0), .int (i3 6)] (x, G, L)) (fun x1 G1 L1 =>
    gd (sm_is r1 342 7) (gd (sm_is r0 342 7) (gd (sm_is r1 342 7) (gd (sm_is r0 342 7) (gd (sm_is r1 342 7) (gd (sm_is r0 342 7) (gd (sm_is r1 342 7) (gd (sm_is r0 342 7) (gd (sm_is r1 342 7) (gd (sm_is r0 342 7) (gd (sm_is r1 342 7) (gd (sm_is r0 342 7) (gd (sm_is r1 342 7) (gd (sm_is r0 342 7) (gd (sm_is r1 342 7) (gd (sm_is r0 342 7) (gd (sm_is r1 342 7) (gd (sm_is r0 342 7) (gd (sm_is r1 342 7) (gd (sm_is r0 342 7) (zd ((sm_up (sm_up (sm_up (sm_up (sm_up (sm_up (sm_up (sm_up (sm_up G1 r0 1 (G1 r1 1)) r0 2 ((sm_up G1 r0 1 (G1 r1 1)) r1 2)) r0 3 ((sm_up (sm_up G1 r0 1 (G1 r1 1)) r0 2 ((sm_up G1 r0 1 (G1 r1 1)) r1 2)) r1 3)) r0 4 ((sm_up (sm_up (sm_up G1 r0 1 (G1 r1 1)) r0 2 ((sm_up G1 r0 1 (G1 r1 1)) r1 2)) r0 3 ((sm_up (sm_up G1 r0 1 (G1 r1 1)) r0 2 ((sm_up G1 r0 1 (G1 r1 1)) r1 2)) r1 3)) r1 4)) r0 5 ((sm_up (sm_up (sm_up (sm_up G1 r0 1 (G1 r1 1)) r0 2 ((sm_up G1 r0 1 (G1 r1 1)) r1 2)) r0 3 ((sm_up (sm_up G1 r0 1 (G1 r1 1)) r0 2 ((sm_up G1 r0 1 (G1 r1 1)) r1 2)) r1 3)) r0 4 ((sm_up (sm_up (sm_up G1 r0 1 (G1 r1 1)) r0 2 ((sm_up G1 r0 1 (G1 r1 1)) r1 2)) r0 3 ((sm_up (sm_up G1 r0 1 (G1 r1 1)) r0 2 ((sm_up G1 r0 1 (G1 r1 1)) r1 2)) r1 3)) r1 4)) r1 5)) r0 6 ((sm_up (sm_up (sm_up (sm_up (sm_up G1 r0 1 (G1 r1 1)) r0 2 ((sm_up G1 r0 1 (G1 r1 1)) r1 2)) r0 3 ((sm_up (sm_up G1 r0 1 (G1 r1 1)) r0 2 ((sm_up G1 r0 1 (G1 r1 1)) r1 2)) r1 3)) r0 4 ((sm_up (sm_up (sm_up G1 r0 1 (G1 r1 1)) r0 2 ((sm_up G1 r0 1 (G1 r1 1)) r1 2)) r0 3 ((sm_up (sm_up G1 r0 1 (G1 r1 1)) r0 2 ((sm_up G1 r0 1 (G1 r1 1)) r1 2)) r1 3)) r1 4)) r0 5 ((sm_up (sm_up (sm_up (sm_up G1 r0 1 (G1 r1 1)) r0 2 ((sm_up G1 r0 1 (G1 r1 1)) r1 2)) r0 3 ((sm_up (sm_up G1 r0 1 (G1 r1 1)) r0 2 ((sm_up G1 r0 1 (G1 r1 1)) r1 2)) r1 3)) r0 4 ((sm_up (sm_up (sm_up G1 r0 1 (G1 r1 1)) r0 2 ((sm_up G1 r0 1 (G1 r1 1)) r1 2)) r0 3 ((sm_up (sm_up G1 r0 1 (G1 r1 1)) r0 2 ((sm_up G1 r0 1 (G1 r1 1)) r1 2)) r1 3)) r1 4)) r1 5)) r1 6)) r0 7 ((sm_up (sm_up (sm_up (sm_up (sm_up (sm_up G1 r0 1 (G1 r1 1)) r0 2 ((sm_up G1 r0 1 (G1 r1 1)) r1 2)) r0 3 ((sm_up (sm_up G1 r0 1 (G1 r1 1)) r0 2 ((sm_up G1 r0 1 (G1 r1 1)) r1 2)) r1 3)) r0 4 ((sm_up (sm_up (sm_up G1 r0 1 (G1 r1 1)) r0 2 ((sm_up G1 r0 1 (G1 r1 1)) r1 2)) r0 3 ((sm_up (sm_up G1 r0 1 (G1 r1 1)) r0 2 ((sm_up G1 r0 1 (G1 r1 1)) r1 2)) r1 3)) r1 4)) r0 5 ((sm_up (sm_up (sm_up (sm_up G1 r0 1 (G1 r1 1)) r0 2 ((sm_up G1 r0 1 (G1 r1 1)) r1 2)) r0 3 ((sm_up (sm_up G1 r0 1 (G1 r1 1)) r0 2 ((sm_up G1 r0 1 (G1 r1 1)) r1 2)) r1 3)) r0 4 ((sm_up (sm_up (sm_up G1 r0 1 (G1 r1 1)) r0 2 ((sm_up G1 r0 1 (G1 r1 1)) r1 2)) r0 3 ((sm_up (sm_up G1 r0 1 (G1 r1 1)) r0 2 ((sm_up G1 r0 1 (G1 r1 1)) r1 2)) r1 3)) r1 4)) r1 5)) r0 6 ((sm_up (sm_up (sm_up (sm_up (sm_up G1 r0 1 (G1 r1 1)) r0 2 ((sm_up G1 r0 1 (G1 r1 1)) r1 2)) r0 3 ((sm_up (sm_up G1 r0 1 (G1 r1 1)) r0 2 ((sm_up G1 r0 1 (G1 r1 1)) r1 2)) r1 3)) r0 4 ((sm_up (sm_up (sm_up G1 r0 1 (G1 r1 1)) r0 2 ((sm_up G1 r0 1 (G1 r1 1)) r1 2)) r0 3 ((sm_up (sm_up G1 r0 1 (G1 r1 1)) r0 2 ((sm_up G1 r0 1 (G1 r1 1)) r1 2)) r1 3)) r1 4)) r0 5 ((sm_up (sm_up (sm_up (sm_up G1 r0 1 (G1 r1 1)) r0 2 ((sm_up G1 r0 1 (G1 r1 1)) r1 2)) r0 3 ((sm_up (sm_up G1 r0 1 (G1 r1 1)) r0 2 ((sm_up G1 r0 1 (G1 r1 1)) r1 2)) r1 3)) r0 4 ((sm_up (sm_up (sm_up G1 r0 1 (G1 r1 1)) r0 2 ((sm_up G1 r0 1 (G1 r1 1)) r1 2)) r0 3 ((sm_up (sm_up G1 r0 1 (G1 r1 1)) r0 2 ((sm_up G1 r0 1 (G1 r1 1)) r1 2)) r1 3)) r1 4)) r1 5)) r1 6)) r1 7)) r0 8 ((sm_up (sm_up (sm_up (sm_up (sm_up (sm_up (sm_up G1 r0 1 (G1 r1 1)) r0 2 ((sm_up G1 r0 1 (G1 r1 1)) r1 2)) r0 3 ((sm_up (sm_up G1 r0 1 (G1 r1 1)) r0 2 ((sm_up G1 r0 1 (G1 r1 1)) r1 2)) r1 3)) r0 4 ((sm_up (sm_up (sm_up G1 r0 1 (G1 r1 1)) r0 2 ((sm_up G1 r0 1 (G1 r1 1)) r1 2)) r0 3 ((sm_up (sm_up G1 r0 1 (G1 r1 1)) r0 2 ((sm_up G1 r0 1 (G1 r1 1)) r1 2)) r1 3)) r1 4)) r0 5 ((sm_up (sm_up (sm_up (sm_up G1 r0 1 (G1 r1 1)) r0 2 ((sm_up G1 r0 1 (G1 r1 1)) r1 2)) r0 3 ((sm_up (sm_up G1 r0 1 (G1 r1 1)) r0 2 ((sm_up G1 r0 1 (G1 r1 1)) r1 2)) r1 3)) r0 4 ((sm_up (sm_up (sm_up G1 r0 1 (G1 r1 1)) r0 2 ((sm_up G1 r0 1 (G1 r1 1)) r1 2)) r0 3 ((sm_up (sm_up G1 r0 1 (G1 r1 1)) r0 2 ((sm_up G1 r0 1 (G1 r1 1)) r1 2)) r1 3)) r1 4)) r1 5)) r0 6 ((sm_up (sm_up (sm_up (sm_up (sm_up G1 r0 1 (G1 r1 1)) r0 2 ((sm_up G1 r0 1 (G1 r1 1)) r1 2)) r0 3 ((sm_up (sm_up G1 r0 1 (G1 r1 1)) r0 2 ((sm_up G1 r0 1 (G1 r1 1)) r1 2)) r1 3)) r0 4 ((sm_up (sm_up (sm_up G1 r0 1 (G1 r1 1)) r0 2 ((sm_up G1 r0 1 (G1 r1 1)) r1 2)) r0 3 ((sm_up (sm_up G1 r0 1 (G1 r1 1)) r0 2 ((sm_up G1 r0 1 (G1 r1 1)) r1 2)) r1 3)) r1 4)) r0 5 ((sm_up (sm_up (sm_up (sm_up G1 r0 1 (G1 r1 1)) r0 2 ((sm_up G1 r0 1 (G1 r1 1)) r1 2)) r0 3 ((sm_up (sm_up G1 r0 1 (G1 r1 1)) r0 2 ((sm_up G1 r0 1 (G1 r1 1)) r1 2)) r1 3)) r0 4 ((sm_up (sm_up (sm_up G1 r0 1 (G1 r1 1)) r0 2 ((sm_up G1 r0 1 (G1 r1 1)) r1 2)) r0 3 ((sm_up (sm_up G1 r0 1 (G1 r1 1)) r0 2 ((sm_up G1 r0 1 (G1 r1 1)) r1 2)) r1 3)) r1 4)) r1 5)) r1 6)) r0 7 ((sm_up (sm_up (sm_up (sm_up (sm_up (sm_up G1 r0 1 (G1 r1 1)) r0 2 ((sm_up G1 r0 1 (G1 r1 1)) r1 2)) r0 3 ((sm_up (sm_up G1 r0 1 (G1 r1 1)) r0 2 ((sm_up G1 r0 1 (G1 r1 1)) r1 2)) r1 3)) r0 4 ((sm_up (sm_up (sm_up G1 r0 1 (G1 r1 1)) r0 2 ((sm_up G1 r0 1 (G1 r1 1)) r1 2)) r0 3 ((sm_up (sm_up G1 r0 1 (G1 r1 1)) r0 2 ((sm_up G1 r0 1 (G1 r1 1)) r1 2)) r1 3)) r1 4)) r0 5 ((sm_up (sm_up (sm_up (sm_up G1 r0 1 (G1 r1 1)) r0 2 ((sm_up G1 r0 1 (G1 r1 1)) r1 2)) r0 3 ((sm_up (sm_up G1 r0 1 (G1 r1 1)) r0 2 ((sm_up G1 r0 1 (G1 r1 1)) r1 2)) r1 3)) r0 4 ((sm_up (sm_up (sm_up G1 r0 1 (G1 r1 1)) r0 2 ((sm_up G1 r0 1 (G1 r1 1)) r1 2)) r0 3 ((sm_up (sm_up G1 r0 1 (G1 r1 1)) r0 2 ((sm_up G1 r0 1 (G1 r1 1)) r1 2)) r1 3)) r1 4)) r1 5)) r0 6 ((sm_up (sm_up (sm_up (sm_up (sm_up G1 r0 1 (G1 r1 1)) r0 2 ((sm_up G1 r0 1 (G1 r1 1)) r1 2)) r0 3 ((sm_up (sm_up G1 r0 1 (G1 r1 1)) r0 2 ((sm_up G1 r0 1 (G1 r1 1)) r1 2)) r1 3)) r0 4 ((sm_up (sm_up (sm_up G1 r0 1 (G1 r1 1)) r0 2 ((sm_up G1 r0 1 (G1 r1 1)) r1 2)) r0 3 ((sm_up (sm_up G1 r0 1 (G1 r1 1)) r0 2 ((sm_up G1 r0 1 (G1 r1 1)) r1 2)) r1 3)) r1 4)) r0 5 ((sm_up (sm_up (sm_up (sm_up G1 r0 1 (G1 r1 1)) r0 2 ((sm_up G1 r0 1 (G1 r1 1)) r1 2)) r0 3 ((sm_up (sm_up G1 r0 1 (G1 r1 1)) r0 2 ((sm_up G1 r0 1 (G1 r1 1)) r1 2)) r1 3)) r0 4 ((sm_up (sm_up (sm_up G1 r0 1 (G1 r1 1)) r0 2 ((sm_up G1 r0 1 (G1 r1 1)) r1 2)) r0 3 ((sm_up (sm_up G1 r0 1 (G1 r1 1)) r0 2 ((sm_up G1 r0 1 (G1 r1 1)) r1 2)) r1 3)) r1 4)) r1 5)) r1 6)) r1 7)) r1 8)) r0 9 ((sm_up (sm_up (sm_up (sm_up (sm_up (sm_up (sm_up (sm_up G1 r0 1 (G1 r1 1)) r0 2 ((sm_up G1 r0 1 (G1 r1 1)) r1 2)) r0 3 ((sm_up (sm_up G1 r0 1 (G1 r1 1)) r0 2 ((sm_up G1 r0 1 (G1 r1 1)) r1 2)) r1 3)) r0 4 ((sm_up (sm_up (sm_up G1 r0 1 (G1 r1 1)) r0 2 ((sm_up G1 r0 1 (G1 r1 1)) r1 2)) r0 3 ((sm_up (sm_up G1 r0 1 (G1 r1 1)) r0 2 ((sm_up G1 r0 1 (G1 r1 1)) r1 2)) r1 3)) r1 4)) r0 5 ((sm_up (sm_up (sm_up (sm_up G1 r0 1 (G1 r1 1)) r0 2 ((sm_up G1 r0 1 (G1 r1 1)) r1 2)) r0 3 ((sm_up (sm_up G1 r0 1 (G1 r1 1)) r0 2 ((sm_up G1 r0 1 (G1 r1 1)) r1 2)) r1 3)) r0 4 ((sm_up (sm_up (sm_up G1 r0 1 (G1 r1 1)) r0 2 ((sm_up G1 r0 1 (G1 r1 1)) r1 2)) r0 3 ((sm_up (sm_up G1 r0 1 (G1 r1 1)) r0 2 ((sm_up G1 r0 1 (G1 r1 1)) r1 2)) r1 3)) r1 4)) r1 5)) r0 6 ((sm_up (sm_up (sm_up (sm_up (sm_up G1 r0 1 (G1 r1 1)) r0 2 ((sm_up G1 r0 1 (G1 r1 1)) r1 2)) r0 3 ((sm_up (sm_up G1 r0 1 (G1 r1 1)) r0 2 ((sm_up G1 r0 1 (G1 r1 1)) r1 2)) r1 3)) r0 4 ((sm_up (sm_up (sm_up G1 r0 1 (G1 r1 1)) r0 2 ((sm_up G1 r0 1 (G1 r1 1)) r1 2)) r0 3 ((sm_up (sm_up G1 r0 1 (G1 r1 1)) r0 2 ((sm_up G1 r0 1 (G1 r1 1)) r1 2)) r1 3)) r1 4)) r0 5 ((sm_up (sm_up (sm_up (sm_up G1 r0 1 (G1 r1 1)) r0 2 ((sm_up G1 r0 1 (G1 r1 1)) r1 2)) r0 3 ((sm_up (sm_up G1 r0 1 (G1 r1 1)) r0 2 ((sm_up G1 r0 1 (G1 r1 1)) r1 2)) r1 3)) r0 4 ((sm_up (sm_up (sm_up G1 r0 1 (G1 r1 1)) r0 2 ((sm_up G1 r0 1 (G1 r1 1)) r1 2)) r0 3 ((sm_up (sm_up G1 r0 1 (G1 r1 1)) r0 2 ((sm_up G1 r0 1 (G1 r1 1)) r1 2)) r1 3)) r1 4)) r1 5)) r1 6)) r0 7 ((sm_up (sm_up (sm_up (sm_up (sm_up (sm_up G1 r0 1 (G1 r1 1)) r0 2 ((sm_up G1 r0 1 (G1 r1 1)) r1 2)) r0 3 ((sm_up (sm_up G1 r0 1 (G1 r1 1)) r0 2 ((sm_up G1 r0 1 (G1 r1 1)) r1 2)) r1 3)) r0 4 ((sm_up (sm_up (sm_up G1 r0 1 (G1 r1 1)) r0 2 ((sm_up G1 r0 1 (G1 r1 1)) r1 2)) r0 3 ((sm_up (sm_up G1 r0 1 (G1 r1 1)) r0 2 ((sm_up G1 r0 1 (G1 r1 1)) r1 2)) r1 3)) r1 4)) r0 5 ((sm_up (sm_up (sm_up (sm_up G1 r0 1 (G1 r1 1)) r0 2 ((sm_up G1 r0 1 (G1 r1 1)) r1 2)) r0 3 ((sm_up (sm_up G1 r0 1 (G1 r1 1)) r0 2 ((sm_up G1 r0 1 (G1 r1 1)) r1 2)) r1 3)) r0 4 ((sm_up (sm_up (sm_up G1 r0 1 (G1 r1 1)) r0 2 ((sm_up G1 r0 1 (G1 r1 1)) r1 2)) r0 3 ((sm_up (sm_up G1 r0 1 (G1 r1 1)) r0 2 ((sm_up G1 r0 1 (G1 r1 1)) r1 2)) r1 3)) r1 4)) r1 5)) r0 6 ((sm_up (sm_up (sm_up (sm_up (sm_up G1 r0 1 (G1 r1 1)) r0 2 ((sm_up G1 r0 1 (G1 r1 1)) r1 2)) r0 3 ((sm_up (sm_up G1 r0 1 (G1 r1 1)) r0 2 ((sm_up G1 r0 1 (G1 r1 1)) r1 2)) r1 3)) r0 4 ((sm_up (sm_up (sm_up G1 r0 1 (G1 r1 1)) r0 2 ((sm_up G1 r0 1 (G1 r1 1)) r1 2)) r0 3 ((sm_up (sm_up G1 r0 1 (G1 r1 1)) r0 2 ((sm_up G1 r0 1 (G1 r1 1)) r1 2)) r1 3)) r1 4)) r0 5 ((sm_up (sm_up (sm_up (sm_up G1 r0 1 (G1 r1 1)) r0 2 ((sm_up G1 r0 1 (G1 r1 1)) r1 2)) r0 3 ((sm_up (sm_up G1 r0 1 (G1 r1 1)) r0 2 ((sm_up G1 r0 1 (G1 r1 1)) r1 2)) r1 3)) r0 4 ((sm_up (sm_up (sm_up G1 r0 1 (G1 r1 1)) r0 2 ((sm_up G1 r0 1 (G1 r1 1)) r1 2)) r0 3 ((sm_up (sm_up G1 r0 1 (G1 r1 1)) r0 2 ((sm_up G1 r0 1 (G1 r1 1)) r1 2)) r1 3)) r1 4)) r1 5)) r1 6)) r1 7)) r0 8 ((sm_up (sm_up (sm_up (sm_up (sm_up (sm_up (sm_up G1 r0 1 (G1 r1 1)) r0 2 ((sm_up G1 r0 1 (G1 r1 1)) r1 2)) r0 3 ((sm_up (sm_up G1 r0 1 (G1 r1 1)) r0 2 ((sm_up G1 r0 1 (G1 r1 1)) r1 2)) r1 3)) r0 4 ((sm_up (sm_up (sm_up G1 r0 1 (G1 r1 1)) r0 2 ((sm_up G1 r0 1 (G1 r1 1)) r1 2)) r0 3 ((sm_up (sm_up G1 r0 1 (G1 r1 1)) r0 2 ((sm_up G1 r0 1 (G1 r1 1)) r1 2)) r1 3)) r1 4)) r0 5 ((sm_up (sm_up (sm_up (sm_up G1 r0 1 (G1 r1 1)) r0 2 ((sm_up G1 r0 1 (G1 r1 1)) r1 2)) r0 3 ((sm_up (sm_up G1 r0 1 (G1 r1 1)) r0 2 ((sm_up G1 r0 1 (G1 r1 1)) r1 2)) r1 3)) r0 4 ((sm_up (sm_up (sm_up G1 r0 1 (G1 r1 1)) r0 2 ((sm_up G1 r0 1 (G1 r1 1)) r1 2)) r0 3 ((sm_up (sm_up G1 r0 1 (G1 r1 1)) r0 2 ((sm_up G1 r0 1 (G1 r1 1)) r1 2)) r1 3)) r1 4)) r1 5)) r0 6 ((sm_up (sm_up (sm_up (sm_up (sm_up G1 r0 1 (G1 r1 1)) r0 2 ((sm_up G1 r0 1 (G1 r1 1)) r1 2)) r0 3 ((sm_up (sm_up G1 r0 1 (G1 r1 1)) r0 2 ((sm_up G1 r0 1 (G1 r1 1)) r1 2)) r1 3)) r0 4 ((sm_up (sm_up (sm_up G1 r0 1 (G1 r1 1)) r0 2 ((sm_up G1 r0 1 (G1 r1 1)) r1 2)) r0 3 ((sm_up (sm_up G1 r0 1 (G1 r1 1)) r0 2 ((sm_up G1 r0 1 (G1 r1 1)) r1 2)) r1 3)) r1 4)) r0 5 ((sm_up (sm_up (sm_up (sm_up G1 r0 1 (G1 r1 1)) r0 2 ((sm_up G1 r0 1 (G1 r1 1)) r1 2)) r0 3 ((sm_up (sm_up G1 r0 1 (G1 r1 1)) r0 2 ((sm_up G1 r0 1 (G1 r1 1)) r1 2)) r1 3)) r0 4 ((sm_up (sm_up (sm_up G1 r0 1 (G1 r1 1)) r0 2 ((sm_up G1 r0 1 (G1 r1 1)) r1 2)) r0 3 ((sm_up (sm_up G1 r0 1 (G1 r1 1)) r0 2 ((sm_up G1 r0 1 (G1 r1 1)) r1 2)) r1 3)) r1 4)) r1 5)) r1 6)) r0 7 ((sm_up (sm_up (sm_up (sm_up (sm_up (sm_up G1 r0 1 (G1 r1 1)) r0 2 ((sm_up G1 r0 1 (G1 r1 1)) r1 2)) r0 3 ((sm_up (sm_up G1 r0 1 (G1 r1 1)) r0 2 ((sm_up G1 r0 1 (G1 r1 1)) r1 2)) r1 3)) r0 4 ((sm_up (sm_up (sm_up G1 r0 1 (G1 r1 1)) r0 2 ((sm_up G1 r0 1 (G1 r1 1)) r1 2)) r0 3 ((sm_up (sm_up G1 r0 1 (G1 r1 1)) r0 2 ((sm_up G1 r0 1 (G1 r1 1)) r1 2)) r1 3)) r1 4)) r0 5 ((sm_up (sm_up (sm_up (sm_up G1 r0 1 (G1 r1 1)) r0 2 ((sm_up G1 r0 1 (G1 r1 1)) r1 2)) r0 3 ((sm_up (sm_up G1 r0 1 (G1 r1 1)) r0 2 ((sm_up G1 r0 1 (G1 r1 1)) r1 2)) r1 3)) r0 4 ((sm_up (sm_up (sm_up G1 r0 1 (G1 r1 1)) r0 2 ((sm_up G1 r0 1 (G1 r1 1)) r1 2)) r0 3 ((sm_up (sm_up G1 r0 1 (G1 r1 1)) r0 2 ((sm_up G1 r0 1 (G1 r1 1)) r1 2)) r1 3)) r1 4)) r1 5)) r0 6 ((sm_up (sm_up (sm_up (sm_up (sm_up G1 r0 1 (G1 r1 1)) r0 2 ((sm_up G1 r0 1 (G1 r1 1)) r1 2)) r0 3 ((sm_up (sm_up G1 r0 1 (G1 r1 1)) r0 2 ((sm_up G1 r0 1 (G1 r1 1)) r1 2)) r1 3)) r0 4 ((sm_up (sm_up (sm_up G1 r0 1 (G1 r1 1)) r0 2 ((sm_up G1 r0 1 (G1 r1 1)) r1 2)) r0 3 ((sm_up (sm_up G1 r0 1 (G1 r1 1)) r0 2 ((sm_up G1 r0 1 (G1 r1 1)) r1 2)) r1 3)) r1 4)) r0 5 ((sm_up (sm_up (sm_up (sm_up G1 r0 1 (G1 r1 1)) r0 2 ((sm_up G1 r0 1 (G1 r1 1)) r1 2)) r0 3 ((sm_up (sm_up G1 r0 1 (G1 r1 1)) r0 2 ((sm_up G1 r0 1 (G1 r1 1)) r1 2)) r1 3)) r0 4 ((sm_up (sm_up (sm_up G1 r0 1 (G1 r1 1)) r0 2 ((sm_up G1 r0 1 (G1 r1 1)) r1 2)) r0 3 ((sm_up (sm_up G1 r0 1 (G1 r1 1)) r0 2 ((sm_up G1 r0 1 (G1 r1 1)) r1 2)) r1 3)) r1 4)) r1 5)) r1 6)) r1 7)) r1 8)) r1 9)) r1 10) (oV x1 (sm_up (sm_up (sm_up (sm_up (sm_up (sm_up (sm_up (sm_up (sm_up (sm_up G1 r0 1 (G1 r1 1)) r0 2 ((sm_up G1 r0 1 (G1 r1 1)) r1 2)) r0 3 ((sm_up (sm_up G1 r0 1 (G1 r1 1)) r0 2 ((sm_up G1 r0 1 (G1 r1 1)) r1 2)) r1 3)) r0 4 ((sm_up (sm_up (sm_up G1 r0 1 (G1 r1 1)) r0 2 ((sm_up G1 r0 1 (G1 r1 1)) r1 2)) r0 3 ((sm_up (sm_up G1 r0 1 (G1 r1 1)) r0 2 ((sm_up G1 r0 1 (G1 r1 1)) r1 2)) r1 3)) r1 4)) r0 5 ((sm_up (sm_up (sm_up (sm_up G1 r0 1 (G1 r1 1)) r0 2 ((sm_up G1 r0 1 (G1 r1 1)) r1 2)) r0 3 ((sm_up (sm_up G1 r0 1 (G1 r1 1)) r0 2 ((sm_up G1 r0 1 (G1 r1 1)) r1 2)) r1 3)) r0 4 ((sm_up (sm_up (sm_up G1 r0 1 (G1 r1 1)) r0 2 ((sm_up G1 r0 1 (G1 r1 1)) r1 2)) r0 3 ((sm_up (sm_up G1 r0 1 (G1 r1 1)) r0 2 ((sm_up G1 r0 1 (G1 r1 1)) r1 2)) r1 3)) r1 4)) r1 5)) r0 6 ((sm_up (sm_up (sm_up (sm_up (sm_up G1 r0 1 (G1 r1 1)) r0 2 ((sm_up G1 r0 1 (G1 r1 1)) r1 2)) r0 3 ((sm_up (sm_up G1 r0 1 (G1 r1 1)) r0 2 ((sm_up G1 r0 1 (G1 r1 1)) r1 2)) r1 3)) r0 4 ((sm_up (sm_up (sm_up G1 r0 1 (G1 r1 1)) r0 2 ((sm_up G1 r0 1 (G1 r1 1)) r1 2)) r0 3 ((sm_up (sm_up G1 r0 1 (G1 r1 1)) r0 2 ((sm_up G1 r0 1 (G1 r1 1)) r1 2)) r1 3)) r1 4)) r0 5 ((sm_up (sm_up (sm_up (sm_up G1 r0 1 (G1 r1 1)) r0 2 ((sm_up G1 r0 1 (G1 r1 1)) r1 2)) r0 3 ((sm_up (sm_up G1 r0 1 (G1 r1 1)) r0 2 ((sm_up G1 r0 1 (G1 r1 1)) r1 2)) r1 3)) r0 4 ((sm_up (sm_up (sm_up G1 r0 1 (G1 r1 1)) r0 2 ((sm_up G1 r0 1 (G1 r1 1)) r1 2)) r0 3 ((sm_up (sm_up G1 r0 1 (G1 r1 1)) r0 2 ((sm_up G1 r0 1 (G1 r1 1)) r1 2)) r1 3)) r1 4)) r1 5)) r1 6)) r0 7 ((sm_up (sm_up (sm_up (sm_up (sm_up (sm_up G1 r0 1 (G1 r1 1)) r0 2 ((sm_up G1 r0 1 (G1 r1 1)) r1 2)) r0 3 ((sm_up (sm_up G1 r0 1 (G1 r1 1)) r0 2 ((sm_up G1 r0 1 (G1 r1 1)) r1 2)) r1 3)) r0 4 ((sm_up (sm_up (sm_up G1 r0 1 (G1 r1 1)) r0 2 ((sm_up G1 r0 1 (G1 r1 1)) r1 2)) r0 3 ((sm_up (sm_up G1 r0 1 (G1 r1 1)) r0 2 ((sm_up G1 r0 1 (G1 r1 1)) r1 2)) r1 3)) r1 4)) r0 5 ((sm_up (sm_up (sm_up (sm_up G1 r0 1 (G1 r1 1)) r0 2 ((sm_up G1 r0 1 (G1 r1 1)) r1 2)) r0 3 ((sm_up (sm_up G1 r0 1 (G1 r1 1)) r0 2 ((sm_up G1 r0 1 (G1 r1 1)) r1 2)) r1 3)) r0 4 ((sm_up (sm_up (sm_up G1 r0 1 (G1 r1 1)) r0 2 ((sm_up G1 r0 1 (G1 r1 1)) r1 2)) r0 3 ((sm_up (sm_up G1 r0 1 (G1 r1 1)) r0 2 ((sm_up G1 r0 1 (G1 r1 1)) r1 2)) r1 3)) r1 4)) r1 5)) r0 6 ((sm_up (sm_up (sm_up (sm_up (sm_up G1 r0 1 (G1 r1 1)) r0 2 ((sm_up G1 r0 1 (G1 r1 1)) r1 2)) r0 3 ((sm_up (sm_up G1 r0 1 (G1 r1 1)) r0 2 ((sm_up G1 r0 1 (G1 r1 1)) r1 2)) r1 3)) r0 4 ((sm_up (sm_up (sm_up G1 r0 1 (G1 r1 1)) r0 2 ((sm_up G1 r0 1 (G1 r1 1)) r1 2)) r0 3 ((sm_up (sm_up G1 r0 1 (G1 r1 1)) r0 2 ((sm_up G1 r0 1 (G1 r1 1)) r1 2)) r1 3)) r1 4)) r0 5 ((sm_up (sm_up (sm_up (sm_up G1 r0 1 (G1 r1 1)) r0 2 ((sm_up G1 r0 1 (G1 r1 1)) r1 2)) r0 3 ((sm_up (sm_up G1 r0 1 (G1 r1 1)) r0 2 ((sm_up G1 r0 1 (G1 r1 1)) r1 2)) r1 3)) r0 4 ((sm_up (sm_up (sm_up G1 r0 1 (G1 r1 1)) r0 2 ((sm_up G1 r0 1 (G1 r1 1)) r1 2)) r0 3 ((sm_up (sm_up G1 r0 1 (G1 r1 1)) r0 2 ((sm_up G1 r0 1 (G1 r1 1)) r1 2)) r1 3)) r1 4)) r1 5)) r1 6)) r1 7)) r0 8 ((sm_up (sm_up (sm_up (sm_up (sm_up (sm_up (sm_up G1 r0 1 (G1 r1 1)) r0 2 ((sm_up G1 r0 1 (G1 r1 1)) r1 2)) r0 3 ((sm_up (sm_up G1 r0 1 (G1 r1 1)) r0 2 ((sm_up G1 r0 1 (G1 r1 1)) r1 2)) r1 3)) r0 4 ((sm_up (sm_up (sm_up G1 r0 1 (G1 r1 1)) r0 2 ((sm_up G1 r0 1 (G1 r1 1)) r1 2)) r0 3 ((sm_up (sm_up G1 r0 1 (G1 r1 1)) r0 2 ((sm_up G1 r0 1 (G1 r1 1)) r1 2)) r1 3)) r1 4)) r0 5 ((sm_up (sm_up (sm_up (sm_up G1 r0 1 (G1 r1 1)) r0 2 ((sm_up G1 r0 1 (G1 r1 1)) r1 2)) r0 3 ((sm_up (sm_up G1 r0 1 (G1 r1 1)) r0 2 ((sm_up G1 r0 1 (G1 r1 1)) r1 2)) r1 3)) r0 4 ((sm_up (sm_up (sm_up G1 r0 1 (G1 r1 1)) r0 2 ((sm_up G1 r0 1 (G1 r1 1)) r1 2)) r0 3 ((sm_up (sm_up G1 r0 1 (G1 r1 1)) r0 2 ((sm_up G1 r0 1 (G1 r1 1)) r1 2)) r1 3)) r1 4)) r1 5)) r0 6 ((sm_up (sm_up (sm_up (sm_up (sm_up G1 r0 1 (G1 r1 1)) r0 2 ((sm_up G1 r0 1 (G1 r1 1)) r1 2)) r0 3 ((sm_up (sm_up G1 r0 1 (G1 r1 1)) r0 2 ((sm_up G1 r0 1 (G1 r1 1)) r1 2)) r1 3)) r0 4 ((sm_up (sm_up (sm_up G1 r0 1 (G1 r1 1)) r0 2 ((sm_up G1 r0 1 (G1 r1 1)) r1 2)) r0 3 ((sm_up (sm_up G1 r0 1 (G1 r1 1)) r0 2 ((sm_up G1 r0 1 (G1 r1 1)) r1 2)) r1 3)) r1 4)) r0 5 ((sm_up (sm_up (sm_up (sm_up G1 r0 1 (G1 r1 1)) r0 2 ((sm_up G1 r0 1 (G1 r1 1)) r1 2)) r0 3 ((sm_up (sm_up G1 r0 1 (G1 r1 1)) r0 2 ((sm_up G1 r0 1 (G1 r1 1)) r1 2)) r1 3)) r0 4 ((sm_up (sm_up (sm_up G1 r0 1 (G1 r1 1)) r0 2 ((sm_up G1 r0 1 (G1 r1 1)) r1 2)) r0 3 ((sm_up (sm_up G1 r0 1 (G1 r1 1)) r0 2 ((sm_up G1 r0 1 (G1 r1 1)) r1 2)) r1 3)) r1 4)) r1 5)) r1 6)) r0 7 ((sm_up (sm_up (sm_up (sm_up (sm_up (sm_up G1 r0 1 (G1 r1 1)) r0 2 ((sm_up G1 r0 1 (G1 r1 1)) r1 2)) r0 3 ((sm_up (sm_up G1 r0 1 (G1 r1 1)) r0 2 ((sm_up G1 r0 1 (G1 r1 1)) r1 2)) r1 3)) r0 4 ((sm_up (sm_up (sm_up G1 r0 1 (G1 r1 1)) r0 2 ((sm_up G1 r0 1 (G1 r1 1)) r1 2)) r0 3 ((sm_up (sm_up G1 r0 1 (G1 r1 1)) r0 2 ((sm_up G1 r0 1 (G1 r1 1)) r1 2)) r1 3)) r1 4)) r0 5 ((sm_up (sm_up (sm_up (sm_up G1 r0 1 (G1 r1 1)) r0 2 ((sm_up G1 r0 1 (G1 r1 1)) r1 2)) r0 3 ((sm_up (sm_up G1 r0 1 (G1 r1 1)) r0 2 ((sm_up G1 r0 1 (G1 r1 1)) r1 2)) r1 3)) r0 4 ((sm_up (sm_up (sm_up G1 r0 1 (G1 r1 1)) r0 2 ((sm_up G1 r0 1 (G1 r1 1)) r1 2)) r0 3 ((sm_up (sm_up G1 r0 1 (G1 r1 1)) r0 2 ((sm_up G1 r0 1 (G1 r1 1)) r1 2)) r1 3)) r1 4)) r1 5)) r0 6 ((sm_up (sm_up (sm_up (sm_up (sm_up G1 r0 1 (G1 r1 1)) r0 2 ((sm_up G1 r0 1 (G1 r1 1)) r1 2)) r0 3 ((sm_up (sm_up G1 r0 1 (G1 r1 1)) r0 2 ((sm_up G1 r0 1 (G1 r1 1)) r1 2)) r1 3)) r0 4 ((sm_up (sm_up (sm_up G1 r0 1 (G1 r1 1)) r0 2 ((sm_up G1 r0 1 (G1 r1 1)) r1 2)) r0 3 ((sm_up (sm_up G1 r0 1 (G1 r1 1)) r0 2 ((sm_up G1 r0 1 (G1 r1 1)) r1 2)) r1 3)) r1 4)) r0 5 ((sm_up (sm_up (sm_up (sm_up G1 r0 1 (G1 r1 1)) r0 2 ((sm_up G1 r0 1 (G1 r1 1)) r1 2)) r0 3 ((sm_up (sm_up G1 r0 1 (G1 r1 1)) r0 2 ((sm_up G1 r0 1 (G1 r1 1)) r1 2)) r1 3)) r0 4 ((sm_up (sm_up (sm_up G1 r0 1 (G1 r1 1)) r0 2 ((sm_up G1 r0 1 (G1 r1 1)) r1 2)) r0 3 ((sm_up (sm_up G1 r0 1 (G1 r1 1)) r0 2 ((sm_up G1 r0 1 (G1 r1 1)) r1 2)) r1 3)) r1 4)) r1 5)) r1 6)) r1 7)) r1 8)) r0 9 ((sm_up (sm_up (sm_up (sm_up (sm_up (sm_up (sm_up (sm_up G1 r0 1 (G1 r1 1)) r0 2 ((sm_up G1 r0 1 (G1 r1 1)) r1 2)) r0 3 ((sm_up (sm_up G1 r0 1 (G1 r1 1)) r0 2 ((sm_up G1 r0 1 (G1 r1 1)) r1 2)) r1 3)) r0 4 ((sm_up (sm_up (sm_up G1 r0 1 (G1 r1 1)) r0 2 ((sm_up G1 r0 1 (G1 r1 1)) r1 2)) r0 3 ((sm_up (sm_up G1 r0 1 (G1 r1 1)) r0 2 ((sm_up G1 r0 1 (G1 r1 1)) r1 2)) r1 3)) r1 4)) r0 5 ((sm_up (sm_up (sm_up (sm_up G1 r0 1 (G1 r1 1)) r0 2 ((sm_up G1 r0 1 (G1 r1 1)) r1 2)) r0 3 ((sm_up (sm_up G1 r0 1 (G1 r1 1)) r0 2 ((sm_up G1 r0 1 (G1 r1 1)) r1 2)) r1 3)) r0 4 ((sm_up (sm_up (sm_up G1 r0 1 (G1 r1 1)) r0 2 ((sm_up G1 r0 1 (G1 r1 1)) r1 2)) r0 3 ((sm_up (sm_up G1 r0 1 (G1 r1 1)) r0 2 ((sm_up G1 r0 1 (G1 r1 1)) r1 2)) r1 3)) r1 4)) r1 5)) r0 6 ((sm_up (sm_up (sm_up (sm_up (sm_up G1 r0 1 (G1 r1 1)) r0 2 ((sm_up G1 r0 1 (G1 r1 1)) r1 2)) r0 3 ((sm_up (sm_up G1 r0 1 (G1 r1 1)) r0 2 ((sm_up G1 r0 1 (G1 r1 1)) r1 2)) r1 3)) r0 4 ((sm_up (sm_up (sm_up G1 r0 1 (G1 r1 1)) r0 2 ((sm_up G1 r0 1 (G1 r1 1)) r1 2)) r0 3 ((sm_up (sm_up G1 r0 1 (G1 r1 1)) r0 2 ((sm_up G1 r0 1 (G1 r1 1)) r1 2)) r1 3)) r1 4)) r0 5 ((sm_up (sm_up (sm_up (sm_up G1 r0 1 (G1 r1 1)) r0 2 ((sm_up G1 r0 1 (G1 r1 1)) r1 2)) r0 3 ((sm_up (sm_up G1 r0 1 (G1 r1 1)) r0 2 ((sm_up G1 r0 1 (G1 r1 1)) r1 2)) r1 3)) r0 4 ((sm_up (sm_up (sm_up G1 r0 1 (G1 r1 1)) r0 2 ((sm_up G1 r0 1 (G1 r1 1)) r1 2)) r0 3 ((sm_up (sm_up G1 r0 1 (G1 r1 1)) r0 2 ((sm_up G1 r0 1 (G1 r1 1)) r1 2)) r1 3)) r1 4)) r1 5)) r1 6)) r0 7 ((sm_up (sm_up (sm_up (sm_up (sm_up (sm_up G1 r0 1 (G1 r1 1)) r0 2 ((sm_up G1 r0 1 (G1 r1 1)) r1 2)) r0 3 ((sm_up (sm_up G1 r0 1 (G1 r1 1)) r0 2 ((sm_up G1 r0 1 (G1 r1 1)) r1 2)) r1 3)) r0 4 ((sm_up (sm_up (sm_up G1 r0 1 (G1 r1 1)) r0 2 ((sm_up G1 r0 1 (G1 r1 1)) r1 2)) r0 3 ((sm_up (sm_up G1 r0 1 (G1 r1 1)) r0 2 ((sm_up G1 r0 1 (G1 r1 1)) r1 2)) r1 3)) r1 4)) r0 5 ((sm_up (sm_up (sm_up (sm_up G1 r0 1 (G1 r1 1)) r0 2 ((sm_up G1 r0 1 (G1 r1 1)) r1 2)) r0 3 ((sm_up (sm_up G1 r0 1 (G1 r1 1)) r0 2 ((sm_up G1 r0 1 (G1 r1 1)) r1 2)) r1 3)) r0 4 ((sm_up (sm_up (sm_up G1 r0 1 (G1 r1 1)) r0 2 ((sm_up G1 r0 1 (G1 r1 1)) r1 2)) r0 3 ((sm_up (sm_up G1 r0 1 (G1 r1 1)) r0 2 ((sm_up G1 r0 1 (G1 r1 1)) r1 2)) r1 3)) r1 4)) r1 5)) r0 6 ((sm_up (sm_up (sm_up (sm_up (sm_up G1 r0 1 (G1 r1 1)) r0 2 ((sm_up G1 r0 1 (G1 r1 1)) r1 2)) r0 3 ((sm_up (sm_up G1 r0 1 (G1 r1 1)) r0 2 ((sm_up G1 r0 1 (G1 r1 1)) r1 2)) r1 3)) r0 4 ((sm_up (sm_up (sm_up G1 r0 1 (G1 r1 1)) r0 2 ((sm_up G1 r0 1 (G1 r1 1)) r1 2)) r0 3 ((sm_up (sm_up G1 r0 1 (G1 r1 1)) r0 2 ((sm_up G1 r0 1 (G1 r1 1)) r1 2)) r1 3)) r1 4)) r0 5 ((sm_up (sm_up (sm_up (sm_up G1 r0 1 (G1 r1 1)) r0 2 ((sm_up G1 r0 1 (G1 r1 1)) r1 2)) r0 3 ((sm_up (sm_up G1 r0 1 (G1 r1 1)) r0 2 ((sm_up G1 r0 1 (G1 r1 1)) r1 2)) r1 3)) r0 4 ((sm_up (sm_up (sm_up G1 r0 1 (G1 r1 1)) r0 2 ((sm_up G1 r0 1 (G1 r1 1)) r1 2)) r0 3 ((sm_up (sm_up G1 r0 1 (G1 r1 1)) r0 2 ((sm_up G1 r0 1 (G1 r1 1)) r1 2)) r1 3)) r1 4)) r1 5)) r1 6)) r1 7)) r0 8 ((sm_up (sm_up (sm_up (sm_up (sm_up (sm_up (sm_up G1 r0 1 (G1 r1 1)) r0 2 ((sm_up G1 r0 1 (G1 r1 1)) r1 2)) r0 3 ((sm_up (sm_up G1 r0 1 (G1 r1 1)) r0 2 ((sm_up G1 r0 1 (G1 r1 1)) r1 2)) r1 3)) r0 4 ((sm_up (sm_up (sm_up G1 r0 1 (G1 r1 1)) r0 2 ((sm_up G1 r0 1 (G1 r1 1)) r1 2)) r0 3 ((sm_up (sm_up G1 r0 1 (G1 r1 1)) r0 2 ((sm_up G1 r0 1 (G1 r1 1)) r1 2)) r1 3)) r1 4)) r0 5 ((sm_up (sm_up (sm_up (sm_up G1 r0 1 (G1 r1 1)) r0 2 ((sm_up G1 r0 1 (G1 r1 1)) r1 2)) r0 3 ((sm_up (sm_up G1 r0 1 (G1 r1 1)) r0 2 ((sm_up G1 r0 1 (G1 r1 1)) r1 2)) r1 3)) r0 4 ((sm_up (sm_up (sm_up G1 r0 1 (G1 r1 1)) r0 2 ((sm_up G1 r0 1 (G1 r1 1)) r1 2)) r0 3 ((sm_up (sm_up G1 r0 1 (G1 r1 1)) r0 2 ((sm_up G1 r0 1 (G1 r1 1)) r1 2)) r1 3)) r1 4)) r1 5)) r0 6 ((sm_up (sm_up (sm_up (sm_up (sm_up G1 r0 1 (G1 r1 1)) r0 2 ((sm_up G1 r0 1 (G1 r1 1)) r1 2)) r0 3 ((sm_up (sm_up G1 r0 1 (G1 r1 1)) r0 2 ((sm_up G1 r0 1 (G1 r1 1)) r1 2)) r1 3)) r0 4 ((sm_up (sm_up (sm_up G1 r0 1 (G1 r1 1)) r0 2 ((sm_up G1 r0 1 (G1 r1 1)) r1 2)) r0 3 ((sm_up (sm_up G1 r0 1 (G1 r1 1)) r0 2 ((sm_up G1 r0 1 (G1 r1 1)) r1 2)) r1 3)) r1 4)) r0 5 ((sm_up (sm_up (sm_up (sm_up G1 r0 1 (G1 r1 1)) r0 2 ((sm_up G1 r0 1 (G1 r1 1)) r1 2)) r0 3 ((sm_up (sm_up G1 r0 1 (G1 r1 1)) r0 2 ((sm_up G1 r0 1 (G1 r1 1)) r1 2)) r1 3)) r0 4 ((sm_up (sm_up (sm_up G1 r0 1 (G1 r1 1)) r0 2 ((sm_up G1 r0 1 (G1 r1 1)) r1 2)) r0 3 ((sm_up (sm_up G1 r0 1 (G1 r1 1)) r0 2 ((sm_up G1 r0 1 (G1 r1 1)) r1 2)) r1 3)) r1 4)) r1 5)) r1 6)) r0 7 ((sm_up (sm_up (sm_up (sm_up (sm_up (sm_up G1 r0 1 (G1 r1 1)) r0 2 ((sm_up G1 r0 1 (G1 r1 1)) r1 2)) r0 3 ((sm_up (sm_up G1 r0 1 (G1 r1 1)) r0 2 ((sm_up G1 r0 1 (G1 r1 1)) r1 2)) r1 3)) r0 4 ((sm_up (sm_up (sm_up G1 r0 1 (G1 r1 1)) r0 2 ((sm_up G1 r0 1 (G1 r1 1)) r1 2)) r0 3 ((sm_up (sm_up G1 r0 1 (G1 r1 1)) r0 2 ((sm_up G1 r0 1 (G1 r1 1)) r1 2)) r1 3)) r1 4)) r0 5 ((sm_up (sm_up (sm_up (sm_up G1 r0 1 (G1 r1 1)) r0 2 ((sm_up G1 r0 1 (G1 r1 1)) r1 2)) r0 3 ((sm_up (sm_up G1 r0 1 (G1 r1 1)) r0 2 ((sm_up G1 r0 1 (G1 r1 1)) r1 2)) r1 3)) r0 4 ((sm_up (sm_up (sm_up G1 r0 1 (G1 r1 1)) r0 2 ((sm_up G1 r0 1 (G1 r1 1)) r1 2)) r0 3 ((sm_up (sm_up G1 r0 1 (G1 r1 1)) r0 2 ((sm_up G1 r0 1 (G1 r1 1)) r1 2)) r1 3)) r1 4)) r1 5)) r0 6 ((sm_up (sm_up (sm_up (sm_up (sm_up G1 r0 1 (G1 r1 1)) r0 2 ((sm_up G1 r0 1 (G1 r1 1)) r1 2)) r0 3 ((sm_up (sm_up G1 r0 1 (G1 r1 1)) r0 2 ((sm_up G1 r0 1 (G1 r1 1)) r1 2)) r1 3)) r0 4 ((sm_up (sm_up (sm_up G1 r0 1 (G1 r1 1)) r0 2 ((sm_up G1 r0 1 (G1 r1 1)) r1 2)) r0 3 ((sm_up (sm_up G1 r0 1 (G1 r1 1)) r0 2 ((sm_up G1 r0 1 (G1 r1 1)) r1 2)) r1 3)) r1 4)) r0 5 ((sm_up (sm_up (sm_up (sm_up G1 r0 1 (G1 r1 1)) r0 2 ((sm_up G1 r0 1 (G1 r1 1)) r1 2)) r0 3 ((sm_up (sm_up G1 r0 1 (G1 r1 1)) r0 2 ((sm_up G1 r0 1 (G1 r1 1)) r1 2)) r1 3)) r0 4 ((sm_up (sm_up (sm_up G1 r0 1 (G1 r1 1)) r0 2 ((sm_up G1 r0 1 (G1 r1 1)) r1 2)) r0 3 ((sm_up (sm_up G1 r0 1 (G1 r1 1)) r0 2 ((sm_up G1 r0 1 (G1 r1 1)) r1 2)) r1 3)) r1 4)) r1 5)) r1 6)) r1 7)) r1 8)) r1 9)) r0 10 ((sm_up (sm_up (sm_up (sm_up (sm_up (sm_up (sm_up (sm_up (sm_up G1 r0 1 (G1 r1 1)) r0 2 ((sm_up G1 r0 1 (G1 r1 1)) r1 2)) r0 3 ((sm_up (sm_up G1 r0 1 (G1 r1 1)) r0 2 ((sm_up G1 r0 1 (G1 r1 1)) r1 2)) r1 3)) r0 4 ((sm_up (sm_up (sm_up G1 r0 1 (G1 r1 1)) r0 2 ((sm_up G1 r0 1 (G1 r1 1)) r1 2)) r0 3 ((sm_up (sm_up G1 r0 1 (G1 r1 1)) r0 2 ((sm_up G1 r0 1 (G1 r1 1)) r1 2)) r1 3)) r1 4)) r0 5 ((sm_up (sm_up (sm_up (sm_up G1 r0 1 (G1 r1 1)) r0 2 ((sm_up G1 r0 1 (G1 r1 1)) r1 2)) r0 3 ((sm_up (sm_up G1 r0 1 (G1 r1 1)) r0 2 ((sm_up G1 r0 1 (G1 r1 1)) r1 2)) r1 3)) r0 4 ((sm_up (sm_up (sm_up G1 r0 1 (G1 r1 1)) r0 2 ((sm_up G1 r0 1 (G1 r1 1)) r1 2)) r0 3 ((sm_up (sm_up G1 r0 1 (G1 r1 1)) r0 2 ((sm_up G1 r0 1 (G1 r1 1)) r1 2)) r1 3)) r1 4)) r1 5)) r0 6 ((sm_up (sm_up (sm_up (sm_up (sm_up G1 r0 1 (G1 r1 1)) r0 2 ((sm_up G1 r0 1 (G1 r1 1)) r1 2)) r0 3 ((sm_up (sm_up G1 r0 1 (G1 r1 1)) r0 2 ((sm_up G1 r0 1 (G1 r1 1)) r1 2)) r1 3)) r0 4 ((sm_up (sm_up (sm_up G1 r0 1 (G1 r1 1)) r0 2 ((sm_up G1 r0 1 (G1 r1 1)) r1 2)) r0 3 ((sm_up (sm_up G1 r0 1 (G1 r1 1)) r0 2 ((sm_up G1 r0 1 (G1 r1 1)) r1 2)) r1 3)) r1 4)) r0 5 ((sm_up (sm_up (sm_up (sm_up G1 r0 1 (G1 r1 1)) r0 2 ((sm_up G1 r0 1 (G1 r1 1)) r1 2)) r0 3 ((sm_up (sm_up G1 r0 1 (G1 r1 1)) r0 2 ((sm_up G1 r0 1 (G1 r1 1)) r1 2)) r1 3)) r0 4 ((sm_up (sm_up (sm_up G1 r0 1 (G1 r1 1)) r0 2 ((sm_up G1 r0 1 (G1 r1 1)) r1 2)) r0 3 ((sm_up (sm_up G1 r0 1 (G1 r1 1)) r0 2 ((sm_up G1 r0 1 (G1 r1 1)) r1 2)) r1 3)) r1 4)) r1 5)) r1 6)) r0 7 ((sm_up (sm_up (sm_up (sm_up (sm_up (sm_up G1 r0 1 (G1 r1 1)) r0 2 ((sm_up G1 r0 1 (G1 r1 1)) r1 2)) r0 3 ((sm_up (sm_up G1 r0 1 (G1 r1 1)) r0 2 ((sm_up G1 r0 1 (G1 r1 1)) r1 2)) r1 3)) r0 4 ((sm_up (sm_up (sm_up G1 r0 1 (G1 r1 1)) r0 2 ((sm_up G1 r0 1 (G1 r1 1)) r1 2)) r0 3 ((sm_up (sm_up G1 r0 1 (G1 r1 1)) r0 2 ((sm_up G1 r0 1 (G1 r1 1)) r1 2)) r1 3)) r1 4)) r0 5 ((sm_up (sm_up (sm_up (sm_up G1 r0 1 (G1 r1 1)) r0 2 ((sm_up G1 r0 1 (G1 r1 1)) r1 2)) r0 3 ((sm_up (sm_up G1 r0 1 (G1 r1 1)) r0 2 ((sm_up G1 r0 1 (G1 r1 1)) r1 2)) r1 3)) r0 4 ((sm_up (sm_up (sm_up G1 r0 1 (G1 r1 1)) r0 2 ((sm_up G1 r0 1 (G1 r1 1)) r1 2)) r0 3 ((sm_up (sm_up G1 r0 1 (G1 r1 1)) r0 2 ((sm_up G1 r0 1 (G1 r1 1)) r1 2)) r1 3)) r1 4)) r1 5)) r0 6 ((sm_up (sm_up (sm_up (sm_up (sm_up G1 r0 1 (G1 r1 1)) r0 2 ((sm_up G1 r0 1 (G1 r1 1)) r1 2)) r0 3 ((sm_up (sm_up G1 r0 1 (G1 r1 1)) r0 2 ((sm_up G1 r0 1 (G1 r1 1)) r1 2)) r1 3)) r0 4 ((sm_up (sm_up (sm_up G1 r0 1 (G1 r1 1)) r0 2 ((sm_up G1 r0 1 (G1 r1 1)) r1 2)) r0 3 ((sm_up (sm_up G1 r0 1 (G1 r1 1)) r0 2 ((sm_up G1 r0 1 (G1 r1 1)) r1 2)) r1 3)) r1 4)) r0 5 ((sm_up (sm_up (sm_up (sm_up G1 r0 1 (G1 r1 1)) r0 2 ((sm_up G1 r0 1 (G1 r1 1)) r1 2)) r0 3 ((sm_up (sm_up G1 r0 1 (G1 r1 1)) r0 2 ((sm_up G1 r0 1 (G1 r1 1)) r1 2)) r1 3)) r0 4 ((sm_up (sm_up (sm_up G1 r0 1 (G1 r1 1)) r0 2 ((sm_up G1 r0 1 (G1 r1 1)) r1 2)) r0 3 ((sm_up (sm_up G1 r0 1 (G1 r1 1)) r0 2 ((sm_up G1 r0 1 (G1 r1 1)) r1 2)) r1 3)) r1 4)) r1 5)) r1 6)) r1 7)) r0 8 ((sm_up (sm_up (sm_up (sm_up (sm_up (sm_up (sm_up G1 r0 1 (G1 r1 1)) r0 2 ((sm_up G1 r0 1 (G1 r1 1)) r1 2)) r0 3 ((sm_up (sm_up G1 r0 1 (G1 r1 1)) r0 2 ((sm_up G1 r0 1 (G1 r1 1)) r1 2)) r1 3)) r0 4 ((sm_up (sm_up (sm_up G1 r0 1 (G1 r1 1)) r0 2 ((sm_up G1 r0 1 (G1 r1 1)) r1 2)) r0 3 ((sm_up (sm_up G1 r0 1 (G1 r1 1)) r0 2 ((sm_up G1 r0 1 (G1 r1 1)) r1 2)) r1 3)) r1 4)) r0 5 ((sm_up (sm_up (sm_up (sm_up G1 r0 1 (G1 r1 1)) r0 2 ((sm_up G1 r0 1 (G1 r1 1)) r1 2)) r0 3 ((sm_up (sm_up G1 r0 1 (G1 r1 1)) r0 2 ((sm_up G1 r0 1 (G1 r1 1)) r1 2)) r1 3)) r0 4 ((sm_up (sm_up (sm_up G1 r0 1 (G1 r1 1)) r0 2 ((sm_up G1 r0 1 (G1 r1 1)) r1 2)) r0 3 ((sm_up (sm_up G1 r0 1 (G1 r1 1)) r0 2 ((sm_up G1 r0 1 (G1 r1 1)) r1 2)) r1 3)) r1 4)) r1 5)) r0 6 ((sm_up (sm_up (sm_up (sm_up (sm_up G1 r0 1 (G1 r1 1)) r0 2 ((sm_up G1 r0 1 (G1 r1 1)) r1 2)) r0 3 ((sm_up (sm_up G1 r0 1 (G1 r1 1)) r0 2 ((sm_up G1 r0 1 (G1 r1 1)) r1 2)) r1 3)) r0 4 ((sm_up (sm_up (sm_up G1 r0 1 (G1 r1 1)) r0 2 ((sm_up G1 r0 1 (G1 r1 1)) r1 2)) r0 3 ((sm_up (sm_up G1 r0 1 (G1 r1 1)) r0 2 ((sm_up G1 r0 1 (G1 r1 1)) r1 2)) r1 3)) r1 4)) r0 5 ((sm_up (sm_up (sm_up (sm_up G1 r0 1 (G1 r1 1)) r0 2 ((sm_up G1 r0 1 (G1 r1 1)) r1 2)) r0 3 ((sm_up (sm_up G1 r0 1 (G1 r1 1)) r0 2 ((sm_up G1 r0 1 (G1 r1 1)) r1 2)) r1 3)) r0 4 ((sm_up (sm_up (sm_up G1 r0 1 (G1 r1 1)) r0 2 ((sm_up G1 r0 1 (G1 r1 1)) r1 2)) r0 3 ((sm_up (sm_up G1 r0 1 (G1 r1 1)) r0 2 ((sm_up G1 r0 1 (G1 r1 1)) r1 2)) r1 3)) r1 4)) r1 5)) r1 6)) r0 7 ((sm_up (sm_up (sm_up (sm_up (sm_up (sm_up G1 r0 1 (G1 r1 1)) r0 2 ((sm_up G1 r0 1 (G1 r1 1)) r1 2)) r0 3 ((sm_up (sm_up G1 r0 1 (G1 r1 1)) r0 2 ((sm_up G1 r0 1 (G1 r1 1)) r1 2)) r1 3)) r0 4 ((sm_up (sm_up (sm_up G1 r0 1 (G1 r1 1)) r0 2 ((sm_up G1 r0 1 (G1 r1 1)) r1 2)) r0 3 ((sm_up (sm_up G1 r0 1 (G1 r1 1)) r0 2 ((sm_up G1 r0 1 (G1 r1 1)) r1 2)) r1 3)) r1 4)) r0 5 ((sm_up (sm_up (sm_up (sm_up G1 r0 1 (G1 r1 1)) r0 2 ((sm_up G1 r0 1 (G1 r1 1)) r1 2)) r0 3 ((sm_up (sm_up G1 r0 1 (G1 r1 1)) r0 2 ((sm_up G1 r0 1 (G1 r1 1)) r1 2)) r1 3)) r0 4 ((sm_up (sm_up (sm_up G1 r0 1 (G1 r1 1)) r0 2 ((sm_up G1 r0 1 (G1 r1 1)) r1 2)) r0 3 ((sm_up (sm_up G1 r0 1 (G1 r1 1)) r0 2 ((sm_up G1 r0 1 (G1 r1 1)) r1 2)) r1 3)) r1 4)) r1 5)) r0 6 ((sm_up (sm_up (sm_up (sm_up (sm_up G1 r0 1 (G1 r1 1)) r0 2 ((sm_up G1 r0 1 (G1 r1 1)) r1 2)) r0 3 ((sm_up (sm_up G1 r0 1 (G1 r1 1)) r0 2 ((sm_up G1 r0 1 (G1 r1 1)) r1 2)) r1 3)) r0 4 ((sm_up (sm_up (sm_up G1 r0 1 (G1 r1 1)) r0 2 ((sm_up G1 r0 1 (G1 r1 1)) r1 2)) r0 3 ((sm_up (sm_up G1 r0 1 (G1 r1 1)) r0 2 ((sm_up G1 r0 1 (G1 r1 1)) r1 2)) r1 3)) r1 4)) r0 5 ((sm_up (sm_up (sm_up (sm_up G1 r0 1 (G1 r1 1)) r0 2 ((sm_up G1 r0 1 (G1 r1 1)) r1 2)) r0 3 ((sm_up (sm_up G1 r0 1 (G1 r1 1)) r0 2 ((sm_up G1 r0 1 (G1 r1 1)) r1 2)) r1 3)) r0 4 ((sm_up (sm_up (sm_up G1 r0 1 (G1 r1 1)) r0 2 ((sm_up G1 r0 1 (G1 r1 1)) r1 2)) r0 3 ((sm_up (sm_up G1 r0 1 (G1 r1 1)) r0 2 ((sm_up G1 r0 1 (G1 r1 1)) r1 2)) r1 3)) r1 4)) r1 5)) r1 6)) r1 7)) r1 8)) r0 9 ((sm_up (sm_up (sm_up (sm_up (sm_up (sm_up (sm_up (sm_up G1 r0 1 (G1 r1 1)) r0 2 ((sm_up G1 r0 1 (G1 r1 1)) r1 2)) r0 3 ((sm_up (sm_up G1 r0 1 (G1 r1 1)) r0 2 ((sm_up G1 r0 1 (G1 r1 1)) r1 2)) r1 3)) r0 4 ((sm_up (sm_up (sm_up G1 r0 1 (G1 r1 1)) r0 2 ((sm_up G1 r0 1 (G1 r1 1)) r1 2)) r0 3 ((sm_up (sm_up G1 r0 1 (G1 r1 1)) r0 2 ((sm_up G1 r0 1 (G1 r1 1)) r1 2)) r1 3)) r1 4)) r0 5 ((sm_up (sm_up (sm_up (sm_up G1 r0 1 (G1 r1 1)) r0 2 ((sm_up G1 r0 1 (G1 r1 1)) r1 2)) r0 3 ((sm_up (sm_up G1 r0 1 (G1 r1 1)) r0 2 ((sm_up G1 r0 1 (G1 r1 1)) r1 2)) r1 3)) r0 4 ((sm_up (sm_up (sm_up G1 r0 1 (G1 r1 1)) r0 2 ((sm_up G1 r0 1 (G1 r1 1)) r1 2)) r0 3 ((sm_up (sm_up G1 r0 1 (G1 r1 1)) r0 2 ((sm_up G1 r0 1 (G1 r1 1)) r1 2)) r1 3)) r1 4)) r1 5)) r0 6 ((sm_up (sm_up (sm_up (sm_up (sm_up G1 r0 1 (G1 r1 1)) r0 2 ((sm_up G1 r0 1 (G1 r1 1)) r1 2)) r0 3 ((sm_up (sm_up G1 r0 1 (G1 r1 1)) r0 2 ((sm_up G1 r0 1 (G1 r1 1)) r1 2)) r1 3)) r0 4 ((sm_up (sm_up (sm_up G1 r0 1 (G1 r1 1)) r0 2 ((sm_up G1 r0 1 (G1 r1 1)) r1 2)) r0 3 ((sm_up (sm_up G1 r0 1 (G1 r1 1)) r0 2 ((sm_up G1 r0 1 (G1 r1 1)) r1 2)) r1 3)) r1 4)) r0 5 ((sm_up (sm_up (sm_up (sm_up G1 r0 1 (G1 r1 1)) r0 2 ((sm_up G1 r0 1 (G1 r1 1)) r1 2)) r0 3 ((sm_up (sm_up G1 r0 1 (G1 r1 1)) r0 2 ((sm_up G1 r0 1 (G1 r1 1)) r1 2)) r1 3)) r0 4 ((sm_up (sm_up (sm_up G1 r0 1 (G1 r1 1)) r0 2 ((sm_up G1 r0 1 (G1 r1 1)) r1 2)) r0 3 ((sm_up (sm_up G1 r0 1 (G1 r1 1)) r0 2 ((sm_up G1 r0 1 (G1 r1 1)) r1 2)) r1 3)) r1 4)) r1 5)) r1 6)) r0 7 ((sm_up (sm_up (sm_up (sm_up (sm_up (sm_up G1 r0 1 (G1 r1 1)) r0 2 ((sm_up G1 r0 1 (G1 r1 1)) r1 2)) r0 3 ((sm_up (sm_up G1 r0 1 (G1 r1 1)) r0 2 ((sm_up G1 r0 1 (G1 r1 1)) r1 2)) r1 3)) r0 4 ((sm_up (sm_up (sm_up G1 r0 1 (G1 r1 1)) r0 2 ((sm_up G1 r0 1 (G1 r1 1)) r1 2)) r0 3 ((sm_up (sm_up G1 r0 1 (G1 r1 1)) r0 2 ((sm_up G1 r0 1 (G1 r1 1)) r1 2)) r1 3)) r1 4)) r0 5 ((sm_up (sm_up (sm_up (sm_up G1 r0 1 (G1 r1 1)) r0 2 ((sm_up G1 r0 1 (G1 r1 1)) r1 2)) r0 3 ((sm_up (sm_up G1 r0 1 (G1 r1 1)) r0 2 ((sm_up G1 r0 1 (G1 r1 1)) r1 2)) r1 3)) r0 4 ((sm_up (sm_up (sm_up G1 r0 1 (G1 r1 1)) r0 2 ((sm_up G1 r0 1 (G1 r1 1)) r1 2)) r0 3 ((sm_up (sm_up G1 r0 1 (G1 r1 1)) r0 2 ((sm_up G1 r0 1 (G1 r1 1)) r1 2)) r1 3)) r1 4)) r1 5)) r0 6 ((sm_up (sm_up (sm_up (sm_up (sm_up G1 r0 1 (G1 r1 1)) r0 2 ((sm_up G1 r0 1 (G1 r1 1)) r1 2)) r0 3 ((sm_up (sm_up G1 r0 1 (G1 r1 1)) r0 2 ((sm_up G1 r0 1 (G1 r1 1)) r1 2)) r1 3)) r0 4 ((sm_up (sm_up (sm_up G1 r0 1 (G1 r1 1)) r0 2 ((sm_up G1 r0 1 (G1 r1 1)) r1 2)) r0 3 ((sm_up (sm_up G1 r0 1 (G1 r1 1)) r0 2 ((sm_up G1 r0 1 (G1 r1 1)) r1 2)) r1 3)) r1 4)) r0 5 ((sm_up (sm_up (sm_up (sm_up G1 r0 1 (G1 r1 1)) r0 2 ((sm_up G1 r0 1 (G1 r1 1)) r1 2)) r0 3 ((sm_up (sm_up G1 r0 1 (G1 r1 1)) r0 2 ((sm_up G1 r0 1 (G1 r1 1)) r1 2)) r1 3)) r0 4 ((sm_up (sm_up (sm_up G1 r0 1 (G1 r1 1)) r0 2 ((sm_up G1 r0 1 (G1 r1 1)) r1 2)) r0 3 ((sm_up (sm_up G1 r0 1 (G1 r1 1)) r0 2 ((sm_up G1 r0 1 (G1 r1 1)) r1 2)) r1 3)) r1 4)) r1 5)) r1 6)) r1 7)) r0 8 ((sm_up (sm_up (sm_up (sm_up (sm_up (sm_up (sm_up G1 r0 1 (G1 r1 1)) r0 2 ((sm_up G1 r0 1 (G1 r1 1)) r1 2)) r0 3 ((sm_up (sm_up G1 r0 1 (G1 r1 1)) r0 2 ((sm_up G1 r0 1 (G1 r1 1)) r1 2)) r1 3)) r0 4 ((sm_up (sm_up (sm_up G1 r0 1 (G1 r1 1)) r0 2 ((sm_up G1 r0 1 (G1 r1 1)) r1 2)) r0 3 ((sm_up (sm_up G1 r0 1 (G1 r1 1)) r0 2 ((sm_up G1 r0 1 (G1 r1 1)) r1 2)) r1 3)) r1 4)) r0 5 ((sm_up (sm_up (sm_up (sm_up G1 r0 1 (G1 r1 1)) r0 2 ((sm_up G1 r0 1 (G1 r1 1)) r1 2)) r0 3 ((sm_up (sm_up G1 r0 1 (G1 r1 1)) r0 2 ((sm_up G1 r0 1 (G1 r1 1)) r1 2)) r1 3)) r0 4 ((sm_up (sm_up (sm_up G1 r0 1 (G1 r1 1)) r0 2 ((sm_up G1 r0 1 (G1 r1 1)) r1 2)) r0 3 ((sm_up (sm_up G1 r0 1 (G1 r1 1)) r0 2 ((sm_up G1 r0 1 (G1 r1 1)) r1 2)) r1 3)) r1 4)) r1 5)) r0 6 ((sm_up (sm_up (sm_up (sm_up (sm_up G1 r0 1 (G1 r1 1)) r0 2 ((sm_up G1 r0 1 (G1 r1 1)) r1 2)) r0 3 ((sm_up (sm_up G1 r0 1 (G1 r1 1)) r0 2 ((sm_up G1 r0 1 (G1 r1 1)) r1 2)) r1 3)) r0 4 ((sm_up (sm_up (sm_up G1 r0 1 (G1 r1 1)) r0 2 ((sm_up G1 r0 1 (G1 r1 1)) r1 2)) r0 3 ((sm_up (sm_up G1 r0 1 (G1 r1 1)) r0 2 ((sm_up G1 r0 1 (G1 r1 1)) r1 2)) r1 3)) r1 4)) r0 5 ((sm_up (sm_up (sm_up (sm_up G1 r0 1 (G1 r1 1)) r0 2 ((sm_up G1 r0 1 (G1 r1 1)) r1 2)) r0 3 ((sm_up (sm_up G1 r0 1 (G1 r1 1)) r0 2 ((sm_up G1 r0 1 (G1 r1 1)) r1 2)) r1 3)) r0 4 ((sm_up (sm_up (sm_up G1 r0 1 (G1 r1 1)) r0 2 ((sm_up G1 r0 1 (G1 r1 1)) r1 2)) r0 3 ((sm_up (sm_up G1 r0 1 (G1 r1 1)) r0 2 ((sm_up G1 r0 1 (G1 r1 1)) r1 2)) r1 3)) r1 4)) r1 5)) r1 6)) r0 7 ((sm_up (sm_up (sm_up (sm_up (sm_up (sm_up G1 r0 1 (G1 r1 1)) r0 2 ((sm_up G1 r0 1 (G1 r1 1)) r1 2)) r0 3 ((sm_up (sm_up G1 r0 1 (G1 r1 1)) r0 2 ((sm_up G1 r0 1 (G1 r1 1)) r1 2)) r1 3)) r0 4 ((sm_up (sm_up (sm_up G1 r0 1 (G1 r1 1)) r0 2 ((sm_up G1 r0 1 (G1 r1 1)) r1 2)) r0 3 ((sm_up (sm_up G1 r0 1 (G1 r1 1)) r0 2 ((sm_up G1 r0 1 (G1 r1 1)) r1 2)) r1 3)) r1 4)) r0 5 ((sm_up (sm_up (sm_up (sm_up G1 r0 1 (G1 r1 1)) r0 2 ((sm_up G1 r0 1 (G1 r1 1)) r1 2)) r0 3 ((sm_up (sm_up G1 r0 1 (G1 r1 1)) r0 2 ((sm_up G1 r0 1 (G1 r1 1)) r1 2)) r1 3)) r0 4 ((sm_up (sm_up (sm_up G1 r0 1 (G1 r1 1)) r0 2 ((sm_up G1 r0 1 (G1 r1 1)) r1 2)) r0 3 ((sm_up (sm_up G1 r0 1 (G1 r1 1)) r0 2 ((sm_up G1 r0 1 (G1 r1 1)) r1 2)) r1 3)) r1 4)) r1 5)) r0 6 ((sm_up (sm_up (sm_up (sm_up (sm_up G1 r0 1 (G1 r1 1)) r0 2 ((sm_up G1 r0 1 (G1 r1 1)) r1 2)) r0 3 ((sm_up (sm_up G1 r0 1 (G1 r1 1)) r0 2 ((sm_up G1 r0 1 (G1 r1 1)) r1 2)) r1 3)) r0 4 ((sm_up (sm_up (sm_up G1 r0 1 (G1 r1 1)) r0 2 ((sm_up G1 r0 1 (G1 r1 1)) r1 2)) r0 3 ((sm_up (sm_up G1 r0 1 (G1 r1 1)) r0 2 ((sm_up G1 r0 1 (G1 r1 1)) r1 2)) r1 3)) r1 4)) r0 5 ((sm_up (sm_up (sm_up (sm_up G1 r0 1 (G1 r1 1)) r0 2 ((sm_up G1 r0 1 (G1 r1 1)) r1 2)) r0 3 ((sm_up (sm_up G1 r0 1 (G1 r1 1)) r0 2 ((sm_up G1 r0 1 (G1 r1 1)) r1 2)) r1 3)) r0 4 ((sm_up (sm_up (sm_up G1 r0 1 (G1 r1 1)) r0 2 ((sm_up G1 r0 1 (G1 r1 1)) r1 2)) r0 3 ((sm_up (sm_up G1 r0 1 (G1 r1 1)) r0 2 ((sm_up G1 r0 1 (G1 r1 1)) r1 2)) r1 3)) r1 4)) r1 5)) r1 6)) r1 7)) r1 8)) r1 9)) r1 10)) L1)))))))))))))))))))))) oX)) := (cv_eq rfl rfl).trans (hD_eq.trans rfl)
set_option maxRecDepth 20000 in
theorem m_149 {d x : Nat} {V : pV} {G : sm_G} {L : sm_L} {r0 r1 : Nat} (hr0 : pK r0) (hr1 : pK r1) : sm_cv0 (d + 1) 149 342 (RR V) [.ref r0, .ref r1] (x, G, L) =
  sm_aV (sm_cv0 d 3 342 (RR V) [.ref (r1 + 1), .int (i3 0), .ref (r0 + 1), .int (i3 0), .int (i3 6)] (x, G, L)) (fun x1 G1 L1 =>
    zd ((sm_up (sm_up (sm_up (sm_up (sm_up (sm_up (sm_up (sm_up (sm_up G1 r0 1 (G1 r1 1)) r0 2 ((sm_up G1 r0 1 (G1 r1 1)) r1 2)) r0 3 ((sm_up (sm_up G1 r0 1 (G1 r1 1)) r0 2 ((sm_up G1 r0 1 (G1 r1 1)) r1 2)) r1 3)) r0 4 ((sm_up (sm_up (sm_up G1 r0 1 (G1 r1 1)) r0 2 ((sm_up G1 r0 1 (G1 r1 1)) r1 2)) r0 3 ((sm_up (sm_up G1 r0 1 (G1 r1 1)) r0 2 ((sm_up G1 r0 1 (G1 r1 1)) r1 2)) r1 3)) r1 4)) r0 5 ((sm_up (sm_up (sm_up (sm_up G1 r0 1 (G1 r1 1)) r0 2 ((sm_up G1 r0 1 (G1 r1 1)) r1 2)) r0 3 ((sm_up (sm_up G1 r0 1 (G1 r1 1)) r0 2 ((sm_up G1 r0 1 (G1 r1 1)) r1 2)) r1 3)) r0 4 ((sm_up (sm_up (sm_up G1 r0 1 (G1 r1 1)) r0 2 ((sm_up G1 r0 1 (G1 r1 1)) r1 2)) r0 3 ((sm_up (sm_up G1 r0 1 (G1 r1 1)) r0 2 ((sm_up G1 r0 1 (G1 r1 1)) r1 2)) r1 3)) r1 4)) r1 5)) r0 6 ((sm_up (sm_up (sm_up (sm_up (sm_up G1 r0 1 (G1 r1 1)) r0 2 ((sm_up G1 r0 1 (G1 r1 1)) r1 2)) r0 3 ((sm_up (sm_up G1 r0 1 (G1 r1 1)) r0 2 ((sm_up G1 r0 1 (G1 r1 1)) r1 2)) r1 3)) r0 4 ((sm_up (sm_up (sm_up G1 r0 1 (G1 r1 1)) r0 2 ((sm_up G1 r0 1 (G1 r1 1)) r1 2)) r0 3 ((sm_up (sm_up G1 r0 1 (G1 r1 1)) r0 2 ((sm_up G1 r0 1 (G1 r1 1)) r1 2)) r1 3)) r1 4)) r0 5 ((sm_up (sm_up (sm_up (sm_up G1 r0 1 (G1 r1 1)) r0 2 ((sm_up G1 r0 1 (G1 r1 1)) r1 2)) r0 3 ((sm_up (sm_up G1 r0 1 (G1 r1 1)) r0 2 ((sm_up G1 r0 1 (G1 r1 1)) r1 2)) r1 3)) r0 4 ((sm_up (sm_up (sm_up G1 r0 1 (G1 r1 1)) r0 2 ((sm_up G1 r0 1 (G1 r1 1)) r1 2)) r0 3 ((sm_up (sm_up G1 r0 1 (G1 r1 1)) r0 2 ((sm_up G1 r0 1 (G1 r1 1)) r1 2)) r1 3)) r1 4)) r1 5)) r1 6)) r0 7 ((sm_up (sm_up (sm_up (sm_up (sm_up (sm_up G1 r0 1 (G1 r1 1)) r0 2 ((sm_up G1 r0 1 (G1 r1 1)) r1 2)) r0 3 ((sm_up (sm_up G1 r0 1 (G1 r1 1)) r0 2 ((sm_up G1 r0 1 (G1 r1 1)) r1 2)) r1 3)) r0 4 ((sm_up (sm_up (sm_up G1 r0 1 (G1 r1 1)) r0 2 ((sm_up G1 r0 1 (G1 r1 1)) r1 2)) r0 3 ((sm_up (sm_up G1 r0 1 (G1 r1 1)) r0 2 ((sm_up G1 r0 1 (G1 r1 1)) r1 2)) r1 3)) r1 4)) r0 5 ((sm_up (sm_up (sm_up (sm_up G1 r0 1 (G1 r1 1)) r0 2 ((sm_up G1 r0 1 (G1 r1 1)) r1 2)) r0 3 ((sm_up (sm_up G1 r0 1 (G1 r1 1)) r0 2 ((sm_up G1 r0 1 (G1 r1 1)) r1 2)) r1 3)) r0 4 ((sm_up (sm_up (sm_up G1 r0 1 (G1 r1 1)) r0 2 ((sm_up G1 r0 1 (G1 r1 1)) r1 2)) r0 3 ((sm_up (sm_up G1 r0 1 (G1 r1 1)) r0 2 ((sm_up G1 r0 1 (G1 r1 1)) r1 2)) r1 3)) r1 4)) r1 5)) r0 6 ((sm_up (sm_up (sm_up (sm_up (sm_up G1 r0 1 (G1 r1 1)) r0 2 ((sm_up G1 r0 1 (G1 r1 1)) r1 2)) r0 3 ((sm_up (sm_up G1 r0 1 (G1 r1 1)) r0 2 ((sm_up G1 r0 1 (G1 r1 1)) r1 2)) r1 3)) r0 4 ((sm_up (sm_up (sm_up G1 r0 1 (G1 r1 1)) r0 2 ((sm_up G1 r0 1 (G1 r1 1)) r1 2)) r0 3 ((sm_up (sm_up G1 r0 1 (G1 r1 1)) r0 2 ((sm_up G1 r0 1 (G1 r1 1)) r1 2)) r1 3)) r1 4)) r0 5 ((sm_up (sm_up (sm_up (sm_up G1 r0 1 (G1 r1 1)) r0 2 ((sm_up G1 r0 1 (G1 r1 1)) r1 2)) r0 3 ((sm_up (sm_up G1 r0 1 (G1 r1 1)) r0 2 ((sm_up G1 r0 1 (G1 r1 1)) r1 2)) r1 3)) r0 4 ((sm_up (sm_up (sm_up G1 r0 1 (G1 r1 1)) r0 2 ((sm_up G1 r0 1 (G1 r1 1)) r1 2)) r0 3 ((sm_up (sm_up G1 r0 1 (G1 r1 1)) r0 2 ((sm_up G1 r0 1 (G1 r1 1)) r1 2)) r1 3)) r1 4)) r1 5)) r1 6)) r1 7)) r0 8 ((sm_up (sm_up (sm_up (sm_up (sm_up (sm_up (sm_up G1 r0 1 (G1 r1 1)) r0 2 ((sm_up G1 r0 1 (G1 r1 1)) r1 2)) r0 3 ((sm_up (sm_up G1 r0 1 (G1 r1 1)) r0 2 ((sm_up G1 r0 1 (G1 r1 1)) r1 2)) r1 3)) r0 4 ((sm_up (sm_up (sm_up G1 r0 1 (G1 r1 1)) r0 2 ((sm_up G1 r0 1 (G1 r1 1)) r1 2)) r0 3 ((sm_up (sm_up G1 r0 1 (G1 r1 1)) r0 2 ((sm_up G1 r0 1 (G1 r1 1)) r1 2)) r1 3)) r1 4)) r0 5 ((sm_up (sm_up (sm_up (sm_up G1 r0 1 (G1 r1 1)) r0 2 ((sm_up G1 r0 1 (G1 r1 1)) r1 2)) r0 3 ((sm_up (sm_up G1 r0 1 (G1 r1 1)) r0 2 ((sm_up G1 r0 1 (G1 r1 1)) r1 2)) r1 3)) r0 4 ((sm_up (sm_up (sm_up G1 r0 1 (G1 r1 1)) r0 2 ((sm_up G1 r0 1 (G1 r1 1)) r1 2)) r0 3 ((sm_up (sm_up G1 r0 1 (G1 r1 1)) r0 2 ((sm_up G1 r0 1 (G1 r1 1)) r1 2)) r1 3)) r1 4)) r1 5)) r0 6 ((sm_up (sm_up (sm_up (sm_up (sm_up G1 r0 1 (G1 r1 1)) r0 2 ((sm_up G1 r0 1 (G1 r1 1)) r1 2)) r0 3 ((sm_up (sm_up G1 r0 1 (G1 r1 1)) r0 2 ((sm_up G1 r0 1 (G1 r1 1)) r1 2)) r1 3)) r0 4 ((sm_up (sm_up (sm_up G1 r0 1 (G1 r1 1)) r0 2 ((sm_up G1 r0 1 (G1 r1 1)) r1 2)) r0 3 ((sm_up (sm_up G1 r0 1 (G1 r1 1)) r0 2 ((sm_up G1 r0 1 (G1 r1 1)) r1 2)) r1 3)) r1 4)) r0 5 ((sm_up (sm_up (sm_up (sm_up G1 r0 1 (G1 r1 1)) r0 2 ((sm_up G1 r0 1 (G1 r1 1)) r1 2)) r0 3 ((sm_up (sm_up G1 r0 1 (G1 r1 1)) r0 2 ((sm_up G1 r0 1 (G1 r1 1)) r1 2)) r1 3)) r0 4 ((sm_up (sm_up (sm_up G1 r0 1 (G1 r1 1)) r0 2 ((sm_up G1 r0 1 (G1 r1 1)) r1 2)) r0 3 ((sm_up (sm_up G1 r0 1 (G1 r1 1)) r0 2 ((sm_up G1 r0 1 (G1 r1 1)) r1 2)) r1 3)) r1 4)) r1 5)) r1 6)) r0 7 ((sm_up (sm_up (sm_up (sm_up (sm_up (sm_up G1 r0 1 (G1 r1 1)) r0 2 ((sm_up G1 r0 1 (G1 r1 1)) r1 2)) r0 3 ((sm_up (sm_up G1 r0 1 (G1 r1 1)) r0 2 ((sm_up G1 r0 1 (G1 r1 1)) r1 2)) r1 3)) r0 4 ((sm_up (sm_up (sm_up G1 r0 1 (G1 r1 1)) r0 2 ((sm_up G1 r0 1 (G1 r1 1)) r1 2)) r0 3 ((sm_up (sm_up G1 r0 1 (G1 r1 1)) r0 2 ((sm_up G1 r0 1 (G1 r1 1)) r1 2)) r1 3)) r1 4)) r0 5 ((sm_up (sm_up (sm_up (sm_up G1 r0 1 (G1 r1 1)) r0 2 ((sm_up G1 r0 1 (G1 r1 1)) r1 2)) r0 3 ((sm_up (sm_up G1 r0 1 (G1 r1 1)) r0 2 ((sm_up G1 r0 1 (G1 r1 1)) r1 2)) r1 3)) r0 4 ((sm_up (sm_up (sm_up G1 r0 1 (G1 r1 1)) r0 2 ((sm_up G1 r0 1 (G1 r1 1)) r1 2)) r0 3 ((sm_up (sm_up G1 r0 1 (G1 r1 1)) r0 2 ((sm_up G1 r0 1 (G1 r1 1)) r1 2)) r1 3)) r1 4)) r1 5)) r0 6 ((sm_up (sm_up (sm_up (sm_up (sm_up G1 r0 1 (G1 r1 1)) r0 2 ((sm_up G1 r0 1 (G1 r1 1)) r1 2)) r0 3 ((sm_up (sm_up G1 r0 1 (G1 r1 1)) r0 2 ((sm_up G1 r0 1 (G1 r1 1)) r1 2)) r1 3)) r0 4 ((sm_up (sm_up (sm_up G1 r0 1 (G1 r1 1)) r0 2 ((sm_up G1 r0 1 (G1 r1 1)) r1 2)) r0 3 ((sm_up (sm_up G1 r0 1 (G1 r1 1)) r0 2 ((sm_up G1 r0 1 (G1 r1 1)) r1 2)) r1 3)) r1 4)) r0 5 ((sm_up (sm_up (sm_up (sm_up G1 r0 1 (G1 r1 1)) r0 2 ((sm_up G1 r0 1 (G1 r1 1)) r1 2)) r0 3 ((sm_up (sm_up G1 r0 1 (G1 r1 1)) r0 2 ((sm_up G1 r0 1 (G1 r1 1)) r1 2)) r1 3)) r0 4 ((sm_up (sm_up (sm_up G1 r0 1 (G1 r1 1)) r0 2 ((sm_up G1 r0 1 (G1 r1 1)) r1 2)) r0 3 ((sm_up (sm_up G1 r0 1 (G1 r1 1)) r0 2 ((sm_up G1 r0 1 (G1 r1 1)) r1 2)) r1 3)) r1 4)) r1 5)) r1 6)) r1 7)) r1 8)) r0 9 ((sm_up (sm_up (sm_up (sm_up (sm_up (sm_up (sm_up (sm_up G1 r0 1 (G1 r1 1)) r0 2 ((sm_up G1 r0 1 (G1 r1 1)) r1 2)) r0 3 ((sm_up (sm_up G1 r0 1 (G1 r1 1)) r0 2 ((sm_up G1 r0 1 (G1 r1 1)) r1 2)) r1 3)) r0 4 ((sm_up (sm_up (sm_up G1 r0 1 (G1 r1 1)) r0 2 ((sm_up G1 r0 1 (G1 r1 1)) r1 2)) r0 3 ((sm_up (sm_up G1 r0 1 (G1 r1 1)) r0 2 ((sm_up G1 r0 1 (G1 r1 1)) r1 2)) r1 3)) r1 4)) r0 5 ((sm_up (sm_up (sm_up (sm_up G1 r0 1 (G1 r1 1)) r0 2 ((sm_up G1 r0 1 (G1 r1 1)) r1 2)) r0 3 ((sm_up (sm_up G1 r0 1 (G1 r1 1)) r0 2 ((sm_up G1 r0 1 (G1 r1 1)) r1 2)) r1 3)) r0 4 ((sm_up (sm_up (sm_up G1 r0 1 (G1 r1 1)) r0 2 ((sm_up G1 r0 1 (G1 r1 1)) r1 2)) r0 3 ((sm_up (sm_up G1 r0 1 (G1 r1 1)) r0 2 ((sm_up G1 r0 1 (G1 r1 1)) r1 2)) r1 3)) r1 4)) r1 5)) r0 6 ((sm_up (sm_up (sm_up (sm_up (sm_up G1 r0 1 (G1 r1 1)) r0 2 ((sm_up G1 r0 1 (G1 r1 1)) r1 2)) r0 3 ((sm_up (sm_up G1 r0 1 (G1 r1 1)) r0 2 ((sm_up G1 r0 1 (G1 r1 1)) r1 2)) r1 3)) r0 4 ((sm_up (sm_up (sm_up G1 r0 1 (G1 r1 1)) r0 2 ((sm_up G1 r0 1 (G1 r1 1)) r1 2)) r0 3 ((sm_up (sm_up G1 r0 1 (G1 r1 1)) r0 2 ((sm_up G1 r0 1 (G1 r1 1)) r1 2)) r1 3)) r1 4)) r0 5 ((sm_up (sm_up (sm_up (sm_up G1 r0 1 (G1 r1 1)) r0 2 ((sm_up G1 r0 1 (G1 r1 1)) r1 2)) r0 3 ((sm_up (sm_up G1 r0 1 (G1 r1 1)) r0 2 ((sm_up G1 r0 1 (G1 r1 1)) r1 2)) r1 3)) r0 4 ((sm_up (sm_up (sm_up G1 r0 1 (G1 r1 1)) r0 2 ((sm_up G1 r0 1 (G1 r1 1)) r1 2)) r0 3 ((sm_up (sm_up G1 r0 1 (G1 r1 1)) r0 2 ((sm_up G1 r0 1 (G1 r1 1)) r1 2)) r1 3)) r1 4)) r1 5)) r1 6)) r0 7 ((sm_up (sm_up (sm_up (sm_up (sm_up (sm_up G1 r0 1 (G1 r1 1)) r0 2 ((sm_up G1 r0 1 (G1 r1 1)) r1 2)) r0 3 ((sm_up (sm_up G1 r0 1 (G1 r1 1)) r0 2 ((sm_up G1 r0 1 (G1 r1 1)) r1 2)) r1 3)) r0 4 ((sm_up (sm_up (sm_up G1 r0 1 (G1 r1 1)) r0 2 ((sm_up G1 r0 1 (G1 r1 1)) r1 2)) r0 3 ((sm_up (sm_up G1 r0 1 (G1 r1 1)) r0 2 ((sm_up G1 r0 1 (G1 r1 1)) r1 2)) r1 3)) r1 4)) r0 5 ((sm_up (sm_up (sm_up (sm_up G1 r0 1 (G1 r1 1)) r0 2 ((sm_up G1 r0 1 (G1 r1 1)) r1 2)) r0 3 ((sm_up (sm_up G1 r0 1 (G1 r1 1)) r0 2 ((sm_up G1 r0 1 (G1 r1 1)) r1 2)) r1 3)) r0 4 ((sm_up (sm_up (sm_up G1 r0 1 (G1 r1 1)) r0 2 ((sm_up G1 r0 1 (G1 r1 1)) r1 2)) r0 3 ((sm_up (sm_up G1 r0 1 (G1 r1 1)) r0 2 ((sm_up G1 r0 1 (G1 r1 1)) r1 2)) r1 3)) r1 4)) r1 5)) r0 6 ((sm_up (sm_up (sm_up (sm_up (sm_up G1 r0 1 (G1 r1 1)) r0 2 ((sm_up G1 r0 1 (G1 r1 1)) r1 2)) r0 3 ((sm_up (sm_up G1 r0 1 (G1 r1 1)) r0 2 ((sm_up G1 r0 1 (G1 r1 1)) r1 2)) r1 3)) r0 4 ((sm_up (sm_up (sm_up G1 r0 1 (G1 r1 1)) r0 2 ((sm_up G1 r0 1 (G1 r1 1)) r1 2)) r0 3 ((sm_up (sm_up G1 r0 1 (G1 r1 1)) r0 2 ((sm_up G1 r0 1 (G1 r1 1)) r1 2)) r1 3)) r1 4)) r0 5 ((sm_up (sm_up (sm_up (sm_up G1 r0 1 (G1 r1 1)) r0 2 ((sm_up G1 r0 1 (G1 r1 1)) r1 2)) r0 3 ((sm_up (sm_up G1 r0 1 (G1 r1 1)) r0 2 ((sm_up G1 r0 1 (G1 r1 1)) r1 2)) r1 3)) r0 4 ((sm_up (sm_up (sm_up G1 r0 1 (G1 r1 1)) r0 2 ((sm_up G1 r0 1 (G1 r1 1)) r1 2)) r0 3 ((sm_up (sm_up G1 r0 1 (G1 r1 1)) r0 2 ((sm_up G1 r0 1 (G1 r1 1)) r1 2)) r1 3)) r1 4)) r1 5)) r1 6)) r1 7)) r0 8 ((sm_up (sm_up (sm_up (sm_up (sm_up (sm_up (sm_up G1 r0 1 (G1 r1 1)) r0 2 ((sm_up G1 r0 1 (G1 r1 1)) r1 2)) r0 3 ((sm_up (sm_up G1 r0 1 (G1 r1 1)) r0 2 ((sm_up G1 r0 1 (G1 r1 1)) r1 2)) r1 3)) r0 4 ((sm_up (sm_up (sm_up G1 r0 1 (G1 r1 1)) r0 2 ((sm_up G1 r0 1 (G1 r1 1)) r1 2)) r0 3 ((sm_up (sm_up G1 r0 1 (G1 r1 1)) r0 2 ((sm_up G1 r0 1 (G1 r1 1)) r1 2)) r1 3)) r1 4)) r0 5 ((sm_up (sm_up (sm_up (sm_up G1 r0 1 (G1 r1 1)) r0 2 ((sm_up G1 r0 1 (G1 r1 1)) r1 2)) r0 3 ((sm_up (sm_up G1 r0 1 (G1 r1 1)) r0 2 ((sm_up G1 r0 1 (G1 r1 1)) r1 2)) r1 3)) r0 4 ((sm_up (sm_up (sm_up G1 r0 1 (G1 r1 1)) r0 2 ((sm_up G1 r0 1 (G1 r1 1)) r1 2)) r0 3 ((sm_up (sm_up G1 r0 1 (G1 r1 1)) r0 2 ((sm_up G1 r0 1 (G1 r1 1)) r1 2)) r1 3)) r1 4)) r1 5)) r0 6 ((sm_up (sm_up (sm_up (sm_up (sm_up G1 r0 1 (G1 r1 1)) r0 2 ((sm_up G1 r0 1 (G1 r1 1)) r1 2)) r0 3 ((sm_up (sm_up G1 r0 1 (G1 r1 1)) r0 2 ((sm_up G1 r0 1 (G1 r1 1)) r1 2)) r1 3)) r0 4 ((sm_up (sm_up (sm_up G1 r0 1 (G1 r1 1)) r0 2 ((sm_up G1 r0 1 (G1 r1 1)) r1 2)) r0 3 ((sm_up (sm_up G1 r0 1 (G1 r1 1)) r0 2 ((sm_up G1 r0 1 (G1 r1 1)) r1 2)) r1 3)) r1 4)) r0 5 ((sm_up (sm_up (sm_up (sm_up G1 r0 1 (G1 r1 1)) r0 2 ((sm_up G1 r0 1 (G1 r1 1)) r1 2)) r0 3 ((sm_up (sm_up G1 r0 1 (G1 r1 1)) r0 2 ((sm_up G1 r0 1 (G1 r1 1)) r1 2)) r1 3)) r0 4 ((sm_up (sm_up (sm_up G1 r0 1 (G1 r1 1)) r0 2 ((sm_up G1 r0 1 (G1 r1 1)) r1 2)) r0 3 ((sm_up (sm_up G1 r0 1 (G1 r1 1)) r0 2 ((sm_up G1 r0 1 (G1 r1 1)) r1 2)) r1 3)) r1 4)) r1 5)) r1 6)) r0 7 ((sm_up (sm_up (sm_up (sm_up (sm_up (sm_up G1 r0 1 (G1 r1 1)) r0 2 ((sm_up G1 r0 1 (G1 r1 1)) r1 2)) r0 3 ((sm_up (sm_up G1 r0 1 (G1 r1 1)) r0 2 ((sm_up G1 r0 1 (G1 r1 1)) r1 2)) r1 3)) r0 4 ((sm_up (sm_up (sm_up G1 r0 1 (G1 r1 1)) r0 2 ((sm_up G1 r0 1 (G1 r1 1)) r1 2)) r0 3 ((sm_up (sm_up G1 r0 1 (G1 r1 1)) r0 2 ((sm_up G1 r0 1 (G1 r1 1)) r1 2)) r1 3)) r1 4)) r0 5 ((sm_up (sm_up (sm_up (sm_up G1 r0 1 (G1 r1 1)) r0 2 ((sm_up G1 r0 1 (G1 r1 1)) r1 2)) r0 3 ((sm_up (sm_up G1 r0 1 (G1 r1 1)) r0 2 ((sm_up G1 r0 1 (G1 r1 1)) r1 2)) r1 3)) r0 4 ((sm_up (sm_up (sm_up G1 r0 1 (G1 r1 1)) r0 2 ((sm_up G1 r0 1 (G1 r1 1)) r1 2)) r0 3 ((sm_up (sm_up G1 r0 1 (G1 r1 1)) r0 2 ((sm_up G1 r0 1 (G1 r1 1)) r1 2)) r1 3)) r1 4)) r1 5)) r0 6 ((sm_up (sm_up (sm_up (sm_up (sm_up G1 r0 1 (G1 r1 1)) r0 2 ((sm_up G1 r0 1 (G1 r1 1)) r1 2)) r0 3 ((sm_up (sm_up G1 r0 1 (G1 r1 1)) r0 2 ((sm_up G1 r0 1 (G1 r1 1)) r1 2)) r1 3)) r0 4 ((sm_up (sm_up (sm_up G1 r0 1 (G1 r1 1)) r0 2 ((sm_up G1 r0 1 (G1 r1 1)) r1 2)) r0 3 ((sm_up (sm_up G1 r0 1 (G1 r1 1)) r0 2 ((sm_up G1 r0 1 (G1 r1 1)) r1 2)) r1 3)) r1 4)) r0 5 ((sm_up (sm_up (sm_up (sm_up G1 r0 1 (G1 r1 1)) r0 2 ((sm_up G1 r0 1 (G1 r1 1)) r1 2)) r0 3 ((sm_up (sm_up G1 r0 1 (G1 r1 1)) r0 2 ((sm_up G1 r0 1 (G1 r1 1)) r1 2)) r1 3)) r0 4 ((sm_up (sm_up (sm_up G1 r0 1 (G1 r1 1)) r0 2 ((sm_up G1 r0 1 (G1 r1 1)) r1 2)) r0 3 ((sm_up (sm_up G1 r0 1 (G1 r1 1)) r0 2 ((sm_up G1 r0 1 (G1 r1 1)) r1 2)) r1 3)) r1 4)) r1 5)) r1 6)) r1 7)) r1 8)) r1 9)) r1 10) (oV x1 (sm_up (sm_up (sm_up (sm_up (sm_up (sm_up (sm_up (sm_up (sm_up (sm_up G1 r0 1 (G1 r1 1)) r0 2 ((sm_up G1 r0 1 (G1 r1 1)) r1 2)) r0 3 ((sm_up (sm_up G1 r0 1 (G1 r1 1)) r0 2 ((sm_up G1 r0 1 (G1 r1 1)) r1 2)) r1 3)) r0 4 ((sm_up (sm_up (sm_up G1 r0 1 (G1 r1 1)) r0 2 ((sm_up G1 r0 1 (G1 r1 1)) r1 2)) r0 3 ((sm_up (sm_up G1 r0 1 (G1 r1 1)) r0 2 ((sm_up G1 r0 1 (G1 r1 1)) r1 2)) r1 3)) r1 4)) r0 5 ((sm_up (sm_up (sm_up (sm_up G1 r0 1 (G1 r1 1)) r0 2 ((sm_up G1 r0 1 (G1 r1 1)) r1 2)) r0 3 ((sm_up (sm_up G1 r0 1 (G1 r1 1)) r0 2 ((sm_up G1 r0 1 (G1 r1 1)) r1 2)) r1 3)) r0 4 ((sm_up (sm_up (sm_up G1 r0 1 (G1 r1 1)) r0 2 ((sm_up G1 r0 1 (G1 r1 1)) r1 2)) r0 3 ((sm_up (sm_up G1 r0 1 (G1 r1 1)) r0 2 ((sm_up G1 r0 1 (G1 r1 1)) r1 2)) r1 3)) r1 4)) r1 5)) r0 6 ((sm_up (sm_up (sm_up (sm_up (sm_up G1 r0 1 (G1 r1 1)) r0 2 ((sm_up G1 r0 1 (G1 r1 1)) r1 2)) r0 3 ((sm_up (sm_up G1 r0 1 (G1 r1 1)) r0 2 ((sm_up G1 r0 1 (G1 r1 1)) r1 2)) r1 3)) r0 4 ((sm_up (sm_up (sm_up G1 r0 1 (G1 r1 1)) r0 2 ((sm_up G1 r0 1 (G1 r1 1)) r1 2)) r0 3 ((sm_up (sm_up G1 r0 1 (G1 r1 1)) r0 2 ((sm_up G1 r0 1 (G1 r1 1)) r1 2)) r1 3)) r1 4)) r0 5 ((sm_up (sm_up (sm_up (sm_up G1 r0 1 (G1 r1 1)) r0 2 ((sm_up G1 r0 1 (G1 r1 1)) r1 2)) r0 3 ((sm_up (sm_up G1 r0 1 (G1 r1 1)) r0 2 ((sm_up G1 r0 1 (G1 r1 1)) r1 2)) r1 3)) r0 4 ((sm_up (sm_up (sm_up G1 r0 1 (G1 r1 1)) r0 2 ((sm_up G1 r0 1 (G1 r1 1)) r1 2)) r0 3 ((sm_up (sm_up G1 r0 1 (G1 r1 1)) r0 2 ((sm_up G1 r0 1 (G1 r1 1)) r1 2)) r1 3)) r1 4)) r1 5)) r1 6)) r0 7 ((sm_up (sm_up (sm_up (sm_up (sm_up (sm_up G1 r0 1 (G1 r1 1)) r0 2 ((sm_up G1 r0 1 (G1 r1 1)) r1 2)) r0 3 ((sm_up (sm_up G1 r0 1 (G1 r1 1)) r0 2 ((sm_up G1 r0 1 (G1 r1 1)) r1 2)) r1 3)) r0 4 ((sm_up (sm_up (sm_up G1 r0 1 (G1 r1 1)) r0 2 ((sm_up G1 r0 1 (G1 r1 1)) r1 2)) r0 3 ((sm_up (sm_up G1 r0 1 (G1 r1 1)) r0 2 ((sm_up G1 r0 1 (G1 r1 1)) r1 2)) r1 3)) r1 4)) r0 5 ((sm_up (sm_up (sm_up (sm_up G1 r0 1 (G1 r1 1)) r0 2 ((sm_up G1 r0 1 (G1 r1 1)) r1 2)) r0 3 ((sm_up (sm_up G1 r0 1 (G1 r1 1)) r0 2 ((sm_up G1 r0 1 (G1 r1 1)) r1 2)) r1 3)) r0 4 ((sm_up (sm_up (sm_up G1 r0 1 (G1 r1 1)) r0 2 ((sm_up G1 r0 1 (G1 r1 1)) r1 2)) r0 3 ((sm_up (sm_up G1 r0 1 (G1 r1 1)) r0 2 ((sm_up G1 r0 1 (G1 r1 1)) r1 2)) r1 3)) r1 4)) r1 5)) r0 6 ((sm_up (sm_up (sm_up (sm_up (sm_up G1 r0 1 (G1 r1 1)) r0 2 ((sm_up G1 r0 1 (G1 r1 1)) r1 2)) r0 3 ((sm_up (sm_up G1 r0 1 (G1 r1 1)) r0 2 ((sm_up G1 r0 1 (G1 r1 1)) r1 2)) r1 3)) r0 4 ((sm_up (sm_up (sm_up G1 r0 1 (G1 r1 1)) r0 2 ((sm_up G1 r0 1 (G1 r1 1)) r1 2)) r0 3 ((sm_up (sm_up G1 r0 1 (G1 r1 1)) r0 2 ((sm_up G1 r0 1 (G1 r1 1)) r1 2)) r1 3)) r1 4)) r0 5 ((sm_up (sm_up (sm_up (sm_up G1 r0 1 (G1 r1 1)) r0 2 ((sm_up G1 r0 1 (G1 r1 1)) r1 2)) r0 3 ((sm_up (sm_up G1 r0 1 (G1 r1 1)) r0 2 ((sm_up G1 r0 1 (G1 r1 1)) r1 2)) r1 3)) r0 4 ((sm_up (sm_up (sm_up G1 r0 1 (G1 r1 1)) r0 2 ((sm_up G1 r0 1 (G1 r1 1)) r1 2)) r0 3 ((sm_up (sm_up G1 r0 1 (G1 r1 1)) r0 2 ((sm_up G1 r0 1 (G1 r1 1)) r1 2)) r1 3)) r1 4)) r1 5)) r1 6)) r1 7)) r0 8 ((sm_up (sm_up (sm_up (sm_up (sm_up (sm_up (sm_up G1 r0 1 (G1 r1 1)) r0 2 ((sm_up G1 r0 1 (G1 r1 1)) r1 2)) r0 3 ((sm_up (sm_up G1 r0 1 (G1 r1 1)) r0 2 ((sm_up G1 r0 1 (G1 r1 1)) r1 2)) r1 3)) r0 4 ((sm_up (sm_up (sm_up G1 r0 1 (G1 r1 1)) r0 2 ((sm_up G1 r0 1 (G1 r1 1)) r1 2)) r0 3 ((sm_up (sm_up G1 r0 1 (G1 r1 1)) r0 2 ((sm_up G1 r0 1 (G1 r1 1)) r1 2)) r1 3)) r1 4)) r0 5 ((sm_up (sm_up (sm_up (sm_up G1 r0 1 (G1 r1 1)) r0 2 ((sm_up G1 r0 1 (G1 r1 1)) r1 2)) r0 3 ((sm_up (sm_up G1 r0 1 (G1 r1 1)) r0 2 ((sm_up G1 r0 1 (G1 r1 1)) r1 2)) r1 3)) r0 4 ((sm_up (sm_up (sm_up G1 r0 1 (G1 r1 1)) r0 2 ((sm_up G1 r0 1 (G1 r1 1)) r1 2)) r0 3 ((sm_up (sm_up G1 r0 1 (G1 r1 1)) r0 2 ((sm_up G1 r0 1 (G1 r1 1)) r1 2)) r1 3)) r1 4)) r1 5)) r0 6 ((sm_up (sm_up (sm_up (sm_up (sm_up G1 r0 1 (G1 r1 1)) r0 2 ((sm_up G1 r0 1 (G1 r1 1)) r1 2)) r0 3 ((sm_up (sm_up G1 r0 1 (G1 r1 1)) r0 2 ((sm_up G1 r0 1 (G1 r1 1)) r1 2)) r1 3)) r0 4 ((sm_up (sm_up (sm_up G1 r0 1 (G1 r1 1)) r0 2 ((sm_up G1 r0 1 (G1 r1 1)) r1 2)) r0 3 ((sm_up (sm_up G1 r0 1 (G1 r1 1)) r0 2 ((sm_up G1 r0 1 (G1 r1 1)) r1 2)) r1 3)) r1 4)) r0 5 ((sm_up (sm_up (sm_up (sm_up G1 r0 1 (G1 r1 1)) r0 2 ((sm_up G1 r0 1 (G1 r1 1)) r1 2)) r0 3 ((sm_up (sm_up G1 r0 1 (G1 r1 1)) r0 2 ((sm_up G1 r0 1 (G1 r1 1)) r1 2)) r1 3)) r0 4 ((sm_up (sm_up (sm_up G1 r0 1 (G1 r1 1)) r0 2 ((sm_up G1 r0 1 (G1 r1 1)) r1 2)) r0 3 ((sm_up (sm_up G1 r0 1 (G1 r1 1)) r0 2 ((sm_up G1 r0 1 (G1 r1 1)) r1 2)) r1 3)) r1 4)) r1 5)) r1 6)) r0 7 ((sm_up (sm_up (sm_up (sm_up (sm_up (sm_up G1 r0 1 (G1 r1 1)) r0 2 ((sm_up G1 r0 1 (G1 r1 1)) r1 2)) r0 3 ((sm_up (sm_up G1 r0 1 (G1 r1 1)) r0 2 ((sm_up G1 r0 1 (G1 r1 1)) r1 2)) r1 3)) r0 4 ((sm_up (sm_up (sm_up G1 r0 1 (G1 r1 1)) r0 2 ((sm_up G1 r0 1 (G1 r1 1)) r1 2)) r0 3 ((sm_up (sm_up G1 r0 1 (G1 r1 1)) r0 2 ((sm_up G1 r0 1 (G1 r1 1)) r1 2)) r1 3)) r1 4)) r0 5 ((sm_up (sm_up (sm_up (sm_up G1 r0 1 (G1 r1 1)) r0 2 ((sm_up G1 r0 1 (G1 r1 1)) r1 2)) r0 3 ((sm_up (sm_up G1 r0 1 (G1 r1 1)) r0 2 ((sm_up G1 r0 1 (G1 r1 1)) r1 2)) r1 3)) r0 4 ((sm_up (sm_up (sm_up G1 r0 1 (G1 r1 1)) r0 2 ((sm_up G1 r0 1 (G1 r1 1)) r1 2)) r0 3 ((sm_up (sm_up G1 r0 1 (G1 r1 1)) r0 2 ((sm_up G1 r0 1 (G1 r1 1)) r1 2)) r1 3)) r1 4)) r1 5)) r0 6 ((sm_up (sm_up (sm_up (sm_up (sm_up G1 r0 1 (G1 r1 1)) r0 2 ((sm_up G1 r0 1 (G1 r1 1)) r1 2)) r0 3 ((sm_up (sm_up G1 r0 1 (G1 r1 1)) r0 2 ((sm_up G1 r0 1 (G1 r1 1)) r1 2)) r1 3)) r0 4 ((sm_up (sm_up (sm_up G1 r0 1 (G1 r1 1)) r0 2 ((sm_up G1 r0 1 (G1 r1 1)) r1 2)) r0 3 ((sm_up (sm_up G1 r0 1 (G1 r1 1)) r0 2 ((sm_up G1 r0 1 (G1 r1 1)) r1 2)) r1 3)) r1 4)) r0 5 ((sm_up (sm_up (sm_up (sm_up G1 r0 1 (G1 r1 1)) r0 2 ((sm_up G1 r0 1 (G1 r1 1)) r1 2)) r0 3 ((sm_up (sm_up G1 r0 1 (G1 r1 1)) r0 2 ((sm_up G1 r0 1 (G1 r1 1)) r1 2)) r1 3)) r0 4 ((sm_up (sm_up (sm_up G1 r0 1 (G1 r1 1)) r0 2 ((sm_up G1 r0 1 (G1 r1 1)) r1 2)) r0 3 ((sm_up (sm_up G1 r0 1 (G1 r1 1)) r0 2 ((sm_up G1 r0 1 (G1 r1 1)) r1 2)) r1 3)) r1 4)) r1 5)) r1 6)) r1 7)) r1 8)) r0 9 ((sm_up (sm_up (sm_up (sm_up (sm_up (sm_up (sm_up (sm_up G1 r0 1 (G1 r1 1)) r0 2 ((sm_up G1 r0 1 (G1 r1 1)) r1 2)) r0 3 ((sm_up (sm_up G1 r0 1 (G1 r1 1)) r0 2 ((sm_up G1 r0 1 (G1 r1 1)) r1 2)) r1 3)) r0 4 ((sm_up (sm_up (sm_up G1 r0 1 (G1 r1 1)) r0 2 ((sm_up G1 r0 1 (G1 r1 1)) r1 2)) r0 3 ((sm_up (sm_up G1 r0 1 (G1 r1 1)) r0 2 ((sm_up G1 r0 1 (G1 r1 1)) r1 2)) r1 3)) r1 4)) r0 5 ((sm_up (sm_up (sm_up (sm_up G1 r0 1 (G1 r1 1)) r0 2 ((sm_up G1 r0 1 (G1 r1 1)) r1 2)) r0 3 ((sm_up (sm_up G1 r0 1 (G1 r1 1)) r0 2 ((sm_up G1 r0 1 (G1 r1 1)) r1 2)) r1 3)) r0 4 ((sm_up (sm_up (sm_up G1 r0 1 (G1 r1 1)) r0 2 ((sm_up G1 r0 1 (G1 r1 1)) r1 2)) r0 3 ((sm_up (sm_up G1 r0 1 (G1 r1 1)) r0 2 ((sm_up G1 r0 1 (G1 r1 1)) r1 2)) r1 3)) r1 4)) r1 5)) r0 6 ((sm_up (sm_up (sm_up (sm_up (sm_up G1 r0 1 (G1 r1 1)) r0 2 ((sm_up G1 r0 1 (G1 r1 1)) r1 2)) r0 3 ((sm_up (sm_up G1 r0 1 (G1 r1 1)) r0 2 ((sm_up G1 r0 1 (G1 r1 1)) r1 2)) r1 3)) r0 4 ((sm_up (sm_up (sm_up G1 r0 1 (G1 r1 1)) r0 2 ((sm_up G1 r0 1 (G1 r1 1)) r1 2)) r0 3 ((sm_up (sm_up G1 r0 1 (G1 r1 1)) r0 2 ((sm_up G1 r0 1 (G1 r1 1)) r1 2)) r1 3)) r1 4)) r0 5 ((sm_up (sm_up (sm_up (sm_up G1 r0 1 (G1 r1 1)) r0 2 ((sm_up G1 r0 1 (G1 r1 1)) r1 2)) r0 3 ((sm_up (sm_up G1 r0 1 (G1 r1 1)) r0 2 ((sm_up G1 r0 1 (G1 r1 1)) r1 2)) r1 3)) r0 4 ((sm_up (sm_up (sm_up G1 r0 1 (G1 r1 1)) r0 2 ((sm_up G1 r0 1 (G1 r1 1)) r1 2)) r0 3 ((sm_up (sm_up G1 r0 1 (G1 r1 1)) r0 2 ((sm_up G1 r0 1 (G1 r1 1)) r1 2)) r1 3)) r1 4)) r1 5)) r1 6)) r0 7 ((sm_up (sm_up (sm_up (sm_up (sm_up (sm_up G1 r0 1 (G1 r1 1)) r0 2 ((sm_up G1 r0 1 (G1 r1 1)) r1 2)) r0 3 ((sm_up (sm_up G1 r0 1 (G1 r1 1)) r0 2 ((sm_up G1 r0 1 (G1 r1 1)) r1 2)) r1 3)) r0 4 ((sm_up (sm_up (sm_up G1 r0 1 (G1 r1 1)) r0 2 ((sm_up G1 r0 1 (G1 r1 1)) r1 2)) r0 3 ((sm_up (sm_up G1 r0 1 (G1 r1 1)) r0 2 ((sm_up G1 r0 1 (G1 r1 1)) r1 2)) r1 3)) r1 4)) r0 5 ((sm_up (sm_up (sm_up (sm_up G1 r0 1 (G1 r1 1)) r0 2 ((sm_up G1 r0 1 (G1 r1 1)) r1 2)) r0 3 ((sm_up (sm_up G1 r0 1 (G1 r1 1)) r0 2 ((sm_up G1 r0 1 (G1 r1 1)) r1 2)) r1 3)) r0 4 ((sm_up (sm_up (sm_up G1 r0 1 (G1 r1 1)) r0 2 ((sm_up G1 r0 1 (G1 r1 1)) r1 2)) r0 3 ((sm_up (sm_up G1 r0 1 (G1 r1 1)) r0 2 ((sm_up G1 r0 1 (G1 r1 1)) r1 2)) r1 3)) r1 4)) r1 5)) r0 6 ((sm_up (sm_up (sm_up (sm_up (sm_up G1 r0 1 (G1 r1 1)) r0 2 ((sm_up G1 r0 1 (G1 r1 1)) r1 2)) r0 3 ((sm_up (sm_up G1 r0 1 (G1 r1 1)) r0 2 ((sm_up G1 r0 1 (G1 r1 1)) r1 2)) r1 3)) r0 4 ((sm_up (sm_up (sm_up G1 r0 1 (G1 r1 1)) r0 2 ((sm_up G1 r0 1 (G1 r1 1)) r1 2)) r0 3 ((sm_up (sm_up G1 r0 1 (G1 r1 1)) r0 2 ((sm_up G1 r0 1 (G1 r1 1)) r1 2)) r1 3)) r1 4)) r0 5 ((sm_up (sm_up (sm_up (sm_up G1 r0 1 (G1 r1 1)) r0 2 ((sm_up G1 r0 1 (G1 r1 1)) r1 2)) r0 3 ((sm_up (sm_up G1 r0 1 (G1 r1 1)) r0 2 ((sm_up G1 r0 1 (G1 r1 1)) r1 2)) r1 3)) r0 4 ((sm_up (sm_up (sm_up G1 r0 1 (G1 r1 1)) r0 2 ((sm_up G1 r0 1 (G1 r1 1)) r1 2)) r0 3 ((sm_up (sm_up G1 r0 1 (G1 r1 1)) r0 2 ((sm_up G1 r0 1 (G1 r1 1)) r1 2)) r1 3)) r1 4)) r1 5)) r1 6)) r1 7)) r0 8 ((sm_up (sm_up (sm_up (sm_up (sm_up (sm_up (sm_up G1 r0 1 (G1 r1 1)) r0 2 ((sm_up G1 r0 1 (G1 r1 1)) r1 2)) r0 3 ((sm_up (sm_up G1 r0 1 (G1 r1 1)) r0 2 ((sm_up G1 r0 1 (G1 r1 1)) r1 2)) r1 3)) r0 4 ((sm_up (sm_up (sm_up G1 r0 1 (G1 r1 1)) r0 2 ((sm_up G1 r0 1 (G1 r1 1)) r1 2)) r0 3 ((sm_up (sm_up G1 r0 1 (G1 r1 1)) r0 2 ((sm_up G1 r0 1 (G1 r1 1)) r1 2)) r1 3)) r1 4)) r0 5 ((sm_up (sm_up (sm_up (sm_up G1 r0 1 (G1 r1 1)) r0 2 ((sm_up G1 r0 1 (G1 r1 1)) r1 2)) r0 3 ((sm_up (sm_up G1 r0 1 (G1 r1 1)) r0 2 ((sm_up G1 r0 1 (G1 r1 1)) r1 2)) r1 3)) r0 4 ((sm_up (sm_up (sm_up G1 r0 1 (G1 r1 1)) r0 2 ((sm_up G1 r0 1 (G1 r1 1)) r1 2)) r0 3 ((sm_up (sm_up G1 r0 1 (G1 r1 1)) r0 2 ((sm_up G1 r0 1 (G1 r1 1)) r1 2)) r1 3)) r1 4)) r1 5)) r0 6 ((sm_up (sm_up (sm_up (sm_up (sm_up G1 r0 1 (G1 r1 1)) r0 2 ((sm_up G1 r0 1 (G1 r1 1)) r1 2)) r0 3 ((sm_up (sm_up G1 r0 1 (G1 r1 1)) r0 2 ((sm_up G1 r0 1 (G1 r1 1)) r1 2)) r1 3)) r0 4 ((sm_up (sm_up (sm_up G1 r0 1 (G1 r1 1)) r0 2 ((sm_up G1 r0 1 (G1 r1 1)) r1 2)) r0 3 ((sm_up (sm_up G1 r0 1 (G1 r1 1)) r0 2 ((sm_up G1 r0 1 (G1 r1 1)) r1 2)) r1 3)) r1 4)) r0 5 ((sm_up (sm_up (sm_up (sm_up G1 r0 1 (G1 r1 1)) r0 2 ((sm_up G1 r0 1 (G1 r1 1)) r1 2)) r0 3 ((sm_up (sm_up G1 r0 1 (G1 r1 1)) r0 2 ((sm_up G1 r0 1 (G1 r1 1)) r1 2)) r1 3)) r0 4 ((sm_up (sm_up (sm_up G1 r0 1 (G1 r1 1)) r0 2 ((sm_up G1 r0 1 (G1 r1 1)) r1 2)) r0 3 ((sm_up (sm_up G1 r0 1 (G1 r1 1)) r0 2 ((sm_up G1 r0 1 (G1 r1 1)) r1 2)) r1 3)) r1 4)) r1 5)) r1 6)) r0 7 ((sm_up (sm_up (sm_up (sm_up (sm_up (sm_up G1 r0 1 (G1 r1 1)) r0 2 ((sm_up G1 r0 1 (G1 r1 1)) r1 2)) r0 3 ((sm_up (sm_up G1 r0 1 (G1 r1 1)) r0 2 ((sm_up G1 r0 1 (G1 r1 1)) r1 2)) r1 3)) r0 4 ((sm_up (sm_up (sm_up G1 r0 1 (G1 r1 1)) r0 2 ((sm_up G1 r0 1 (G1 r1 1)) r1 2)) r0 3 ((sm_up (sm_up G1 r0 1 (G1 r1 1)) r0 2 ((sm_up G1 r0 1 (G1 r1 1)) r1 2)) r1 3)) r1 4)) r0 5 ((sm_up (sm_up (sm_up (sm_up G1 r0 1 (G1 r1 1)) r0 2 ((sm_up G1 r0 1 (G1 r1 1)) r1 2)) r0 3 ((sm_up (sm_up G1 r0 1 (G1 r1 1)) r0 2 ((sm_up G1 r0 1 (G1 r1 1)) r1 2)) r1 3)) r0 4 ((sm_up (sm_up (sm_up G1 r0 1 (G1 r1 1)) r0 2 ((sm_up G1 r0 1 (G1 r1 1)) r1 2)) r0 3 ((sm_up (sm_up G1 r0 1 (G1 r1 1)) r0 2 ((sm_up G1 r0 1 (G1 r1 1)) r1 2)) r1 3)) r1 4)) r1 5)) r0 6 ((sm_up (sm_up (sm_up (sm_up (sm_up G1 r0 1 (G1 r1 1)) r0 2 ((sm_up G1 r0 1 (G1 r1 1)) r1 2)) r0 3 ((sm_up (sm_up G1 r0 1 (G1 r1 1)) r0 2 ((sm_up G1 r0 1 (G1 r1 1)) r1 2)) r1 3)) r0 4 ((sm_up (sm_up (sm_up G1 r0 1 (G1 r1 1)) r0 2 ((sm_up G1 r0 1 (G1 r1 1)) r1 2)) r0 3 ((sm_up (sm_up G1 r0 1 (G1 r1 1)) r0 2 ((sm_up G1 r0 1 (G1 r1 1)) r1 2)) r1 3)) r1 4)) r0 5 ((sm_up (sm_up (sm_up (sm_up G1 r0 1 (G1 r1 1)) r0 2 ((sm_up G1 r0 1 (G1 r1 1)) r1 2)) r0 3 ((sm_up (sm_up G1 r0 1 (G1 r1 1)) r0 2 ((sm_up G1 r0 1 (G1 r1 1)) r1 2)) r1 3)) r0 4 ((sm_up (sm_up (sm_up G1 r0 1 (G1 r1 1)) r0 2 ((sm_up G1 r0 1 (G1 r1 1)) r1 2)) r0 3 ((sm_up (sm_up G1 r0 1 (G1 r1 1)) r0 2 ((sm_up G1 r0 1 (G1 r1 1)) r1 2)) r1 3)) r1 4)) r1 5)) r1 6)) r1 7)) r1 8)) r1 9)) r0 10 ((sm_up (sm_up (sm_up (sm_up (sm_up (sm_up (sm_up (sm_up (sm_up G1 r0 1 (G1 r1 1)) r0 2 ((sm_up G1 r0 1 (G1 r1 1)) r1 2)) r0 3 ((sm_up (sm_up G1 r0 1 (G1 r1 1)) r0 2 ((sm_up G1 r0 1 (G1 r1 1)) r1 2)) r1 3)) r0 4 ((sm_up (sm_up (sm_up G1 r0 1 (G1 r1 1)) r0 2 ((sm_up G1 r0 1 (G1 r1 1)) r1 2)) r0 3 ((sm_up (sm_up G1 r0 1 (G1 r1 1)) r0 2 ((sm_up G1 r0 1 (G1 r1 1)) r1 2)) r1 3)) r1 4)) r0 5 ((sm_up (sm_up (sm_up (sm_up G1 r0 1 (G1 r1 1)) r0 2 ((sm_up G1 r0 1 (G1 r1 1)) r1 2)) r0 3 ((sm_up (sm_up G1 r0 1 (G1 r1 1)) r0 2 ((sm_up G1 r0 1 (G1 r1 1)) r1 2)) r1 3)) r0 4 ((sm_up (sm_up (sm_up G1 r0 1 (G1 r1 1)) r0 2 ((sm_up G1 r0 1 (G1 r1 1)) r1 2)) r0 3 ((sm_up (sm_up G1 r0 1 (G1 r1 1)) r0 2 ((sm_up G1 r0 1 (G1 r1 1)) r1 2)) r1 3)) r1 4)) r1 5)) r0 6 ((sm_up (sm_up (sm_up (sm_up (sm_up G1 r0 1 (G1 r1 1)) r0 2 ((sm_up G1 r0 1 (G1 r1 1)) r1 2)) r0 3 ((sm_up (sm_up G1 r0 1 (G1 r1 1)) r0 2 ((sm_up G1 r0 1 (G1 r1 1)) r1 2)) r1 3)) r0 4 ((sm_up (sm_up (sm_up G1 r0 1 (G1 r1 1)) r0 2 ((sm_up G1 r0 1 (G1 r1 1)) r1 2)) r0 3 ((sm_up (sm_up G1 r0 1 (G1 r1 1)) r0 2 ((sm_up G1 r0 1 (G1 r1 1)) r1 2)) r1 3)) r1 4)) r0 5 ((sm_up (sm_up (sm_up (sm_up G1 r0 1 (G1 r1 1)) r0 2 ((sm_up G1 r0 1 (G1 r1 1)) r1 2)) r0 3 ((sm_up (sm_up G1 r0 1 (G1 r1 1)) r0 2 ((sm_up G1 r0 1 (G1 r1 1)) r1 2)) r1 3)) r0 4 ((sm_up (sm_up (sm_up G1 r0 1 (G1 r1 1)) r0 2 ((sm_up G1 r0 1 (G1 r1 1)) r1 2)) r0 3 ((sm_up (sm_up G1 r0 1 (G1 r1 1)) r0 2 ((sm_up G1 r0 1 (G1 r1 1)) r1 2)) r1 3)) r1 4)) r1 5)) r1 6)) r0 7 ((sm_up (sm_up (sm_up (sm_up (sm_up (sm_up G1 r0 1 (G1 r1 1)) r0 2 ((sm_up G1 r0 1 (G1 r1 1)) r1 2)) r0 3 ((sm_up (sm_up G1 r0 1 (G1 r1 1)) r0 2 ((sm_up G1 r0 1 (G1 r1 1)) r1 2)) r1 3)) r0 4 ((sm_up (sm_up (sm_up G1 r0 1 (G1 r1 1)) r0 2 ((sm_up G1 r0 1 (G1 r1 1)) r1 2)) r0 3 ((sm_up (sm_up G1 r0 1 (G1 r1 1)) r0 2 ((sm_up G1 r0 1 (G1 r1 1)) r1 2)) r1 3)) r1 4)) r0 5 ((sm_up (sm_up (sm_up (sm_up G1 r0 1 (G1 r1 1)) r0 2 ((sm_up G1 r0 1 (G1 r1 1)) r1 2)) r0 3 ((sm_up (sm_up G1 r0 1 (G1 r1 1)) r0 2 ((sm_up G1 r0 1 (G1 r1 1)) r1 2)) r1 3)) r0 4 ((sm_up (sm_up (sm_up G1 r0 1 (G1 r1 1)) r0 2 ((sm_up G1 r0 1 (G1 r1 1)) r1 2)) r0 3 ((sm_up (sm_up G1 r0 1 (G1 r1 1)) r0 2 ((sm_up G1 r0 1 (G1 r1 1)) r1 2)) r1 3)) r1 4)) r1 5)) r0 6 ((sm_up (sm_up (sm_up (sm_up (sm_up G1 r0 1 (G1 r1 1)) r0 2 ((sm_up G1 r0 1 (G1 r1 1)) r1 2)) r0 3 ((sm_up (sm_up G1 r0 1 (G1 r1 1)) r0 2 ((sm_up G1 r0 1 (G1 r1 1)) r1 2)) r1 3)) r0 4 ((sm_up (sm_up (sm_up G1 r0 1 (G1 r1 1)) r0 2 ((sm_up G1 r0 1 (G1 r1 1)) r1 2)) r0 3 ((sm_up (sm_up G1 r0 1 (G1 r1 1)) r0 2 ((sm_up G1 r0 1 (G1 r1 1)) r1 2)) r1 3)) r1 4)) r0 5 ((sm_up (sm_up (sm_up (sm_up G1 r0 1 (G1 r1 1)) r0 2 ((sm_up G1 r0 1 (G1 r1 1)) r1 2)) r0 3 ((sm_up (sm_up G1 r0 1 (G1 r1 1)) r0 2 ((sm_up G1 r0 1 (G1 r1 1)) r1 2)) r1 3)) r0 4 ((sm_up (sm_up (sm_up G1 r0 1 (G1 r1 1)) r0 2 ((sm_up G1 r0 1 (G1 r1 1)) r1 2)) r0 3 ((sm_up (sm_up G1 r0 1 (G1 r1 1)) r0 2 ((sm_up G1 r0 1 (G1 r1 1)) r1 2)) r1 3)) r1 4)) r1 5)) r1 6)) r1 7)) r0 8 ((sm_up (sm_up (sm_up (sm_up (sm_up (sm_up (sm_up G1 r0 1 (G1 r1 1)) r0 2 ((sm_up G1 r0 1 (G1 r1 1)) r1 2)) r0 3 ((sm_up (sm_up G1 r0 1 (G1 r1 1)) r0 2 ((sm_up G1 r0 1 (G1 r1 1)) r1 2)) r1 3)) r0 4 ((sm_up (sm_up (sm_up G1 r0 1 (G1 r1 1)) r0 2 ((sm_up G1 r0 1 (G1 r1 1)) r1 2)) r0 3 ((sm_up (sm_up G1 r0 1 (G1 r1 1)) r0 2 ((sm_up G1 r0 1 (G1 r1 1)) r1 2)) r1 3)) r1 4)) r0 5 ((sm_up (sm_up (sm_up (sm_up G1 r0 1 (G1 r1 1)) r0 2 ((sm_up G1 r0 1 (G1 r1 1)) r1 2)) r0 3 ((sm_up (sm_up G1 r0 1 (G1 r1 1)) r0 2 ((sm_up G1 r0 1 (G1 r1 1)) r1 2)) r1 3)) r0 4 ((sm_up (sm_up (sm_up G1 r0 1 (G1 r1 1)) r0 2 ((sm_up G1 r0 1 (G1 r1 1)) r1 2)) r0 3 ((sm_up (sm_up G1 r0 1 (G1 r1 1)) r0 2 ((sm_up G1 r0 1 (G1 r1 1)) r1 2)) r1 3)) r1 4)) r1 5)) r0 6 ((sm_up (sm_up (sm_up (sm_up (sm_up G1 r0 1 (G1 r1 1)) r0 2 ((sm_up G1 r0 1 (G1 r1 1)) r1 2)) r0 3 ((sm_up (sm_up G1 r0 1 (G1 r1 1)) r0 2 ((sm_up G1 r0 1 (G1 r1 1)) r1 2)) r1 3)) r0 4 ((sm_up (sm_up (sm_up G1 r0 1 (G1 r1 1)) r0 2 ((sm_up G1 r0 1 (G1 r1 1)) r1 2)) r0 3 ((sm_up (sm_up G1 r0 1 (G1 r1 1)) r0 2 ((sm_up G1 r0 1 (G1 r1 1)) r1 2)) r1 3)) r1 4)) r0 5 ((sm_up (sm_up (sm_up (sm_up G1 r0 1 (G1 r1 1)) r0 2 ((sm_up G1 r0 1 (G1 r1 1)) r1 2)) r0 3 ((sm_up (sm_up G1 r0 1 (G1 r1 1)) r0 2 ((sm_up G1 r0 1 (G1 r1 1)) r1 2)) r1 3)) r0 4 ((sm_up (sm_up (sm_up G1 r0 1 (G1 r1 1)) r0 2 ((sm_up G1 r0 1 (G1 r1 1)) r1 2)) r0 3 ((sm_up (sm_up G1 r0 1 (G1 r1 1)) r0 2 ((sm_up G1 r0 1 (G1 r1 1)) r1 2)) r1 3)) r1 4)) r1 5)) r1 6)) r0 7 ((sm_up (sm_up (sm_up (sm_up (sm_up (sm_up G1 r0 1 (G1 r1 1)) r0 2 ((sm_up G1 r0 1 (G1 r1 1)) r1 2)) r0 3 ((sm_up (sm_up G1 r0 1 (G1 r1 1)) r0 2 ((sm_up G1 r0 1 (G1 r1 1)) r1 2)) r1 3)) r0 4 ((sm_up (sm_up (sm_up G1 r0 1 (G1 r1 1)) r0 2 ((sm_up G1 r0 1 (G1 r1 1)) r1 2)) r0 3 ((sm_up (sm_up G1 r0 1 (G1 r1 1)) r0 2 ((sm_up G1 r0 1 (G1 r1 1)) r1 2)) r1 3)) r1 4)) r0 5 ((sm_up (sm_up (sm_up (sm_up G1 r0 1 (G1 r1 1)) r0 2 ((sm_up G1 r0 1 (G1 r1 1)) r1 2)) r0 3 ((sm_up (sm_up G1 r0 1 (G1 r1 1)) r0 2 ((sm_up G1 r0 1 (G1 r1 1)) r1 2)) r1 3)) r0 4 ((sm_up (sm_up (sm_up G1 r0 1 (G1 r1 1)) r0 2 ((sm_up G1 r0 1 (G1 r1 1)) r1 2)) r0 3 ((sm_up (sm_up G1 r0 1 (G1 r1 1)) r0 2 ((sm_up G1 r0 1 (G1 r1 1)) r1 2)) r1 3)) r1 4)) r1 5)) r0 6 ((sm_up (sm_up (sm_up (sm_up (sm_up G1 r0 1 (G1 r1 1)) r0 2 ((sm_up G1 r0 1 (G1 r1 1)) r1 2)) r0 3 ((sm_up (sm_up G1 r0 1 (G1 r1 1)) r0 2 ((sm_up G1 r0 1 (G1 r1 1)) r1 2)) r1 3)) r0 4 ((sm_up (sm_up (sm_up G1 r0 1 (G1 r1 1)) r0 2 ((sm_up G1 r0 1 (G1 r1 1)) r1 2)) r0 3 ((sm_up (sm_up G1 r0 1 (G1 r1 1)) r0 2 ((sm_up G1 r0 1 (G1 r1 1)) r1 2)) r1 3)) r1 4)) r0 5 ((sm_up (sm_up (sm_up (sm_up G1 r0 1 (G1 r1 1)) r0 2 ((sm_up G1 r0 1 (G1 r1 1)) r1 2)) r0 3 ((sm_up (sm_up G1 r0 1 (G1 r1 1)) r0 2 ((sm_up G1 r0 1 (G1 r1 1)) r1 2)) r1 3)) r0 4 ((sm_up (sm_up (sm_up G1 r0 1 (G1 r1 1)) r0 2 ((sm_up G1 r0 1 (G1 r1 1)) r1 2)) r0 3 ((sm_up (sm_up G1 r0 1 (G1 r1 1)) r0 2 ((sm_up G1 r0 1 (G1 r1 1)) r1 2)) r1 3)) r1 4)) r1 5)) r1 6)) r1 7)) r1 8)) r0 9 ((sm_up (sm_up (sm_up (sm_up (sm_up (sm_up (sm_up (sm_up G1 r0 1 (G1 r1 1)) r0 2 ((sm_up G1 r0 1 (G1 r1 1)) r1 2)) r0 3 ((sm_up (sm_up G1 r0 1 (G1 r1 1)) r0 2 ((sm_up G1 r0 1 (G1 r1 1)) r1 2)) r1 3)) r0 4 ((sm_up (sm_up (sm_up G1 r0 1 (G1 r1 1)) r0 2 ((sm_up G1 r0 1 (G1 r1 1)) r1 2)) r0 3 ((sm_up (sm_up G1 r0 1 (G1 r1 1)) r0 2 ((sm_up G1 r0 1 (G1 r1 1)) r1 2)) r1 3)) r1 4)) r0 5 ((sm_up (sm_up (sm_up (sm_up G1 r0 1 (G1 r1 1)) r0 2 ((sm_up G1 r0 1 (G1 r1 1)) r1 2)) r0 3 ((sm_up (sm_up G1 r0 1 (G1 r1 1)) r0 2 ((sm_up G1 r0 1 (G1 r1 1)) r1 2)) r1 3)) r0 4 ((sm_up (sm_up (sm_up G1 r0 1 (G1 r1 1)) r0 2 ((sm_up G1 r0 1 (G1 r1 1)) r1 2)) r0 3 ((sm_up (sm_up G1 r0 1 (G1 r1 1)) r0 2 ((sm_up G1 r0 1 (G1 r1 1)) r1 2)) r1 3)) r1 4)) r1 5)) r0 6 ((sm_up (sm_up (sm_up (sm_up (sm_up G1 r0 1 (G1 r1 1)) r0 2 ((sm_up G1 r0 1 (G1 r1 1)) r1 2)) r0 3 ((sm_up (sm_up G1 r0 1 (G1 r1 1)) r0 2 ((sm_up G1 r0 1 (G1 r1 1)) r1 2)) r1 3)) r0 4 ((sm_up (sm_up (sm_up G1 r0 1 (G1 r1 1)) r0 2 ((sm_up G1 r0 1 (G1 r1 1)) r1 2)) r0 3 ((sm_up (sm_up G1 r0 1 (G1 r1 1)) r0 2 ((sm_up G1 r0 1 (G1 r1 1)) r1 2)) r1 3)) r1 4)) r0 5 ((sm_up (sm_up (sm_up (sm_up G1 r0 1 (G1 r1 1)) r0 2 ((sm_up G1 r0 1 (G1 r1 1)) r1 2)) r0 3 ((sm_up (sm_up G1 r0 1 (G1 r1 1)) r0 2 ((sm_up G1 r0 1 (G1 r1 1)) r1 2)) r1 3)) r0 4 ((sm_up (sm_up (sm_up G1 r0 1 (G1 r1 1)) r0 2 ((sm_up G1 r0 1 (G1 r1 1)) r1 2)) r0 3 ((sm_up (sm_up G1 r0 1 (G1 r1 1)) r0 2 ((sm_up G1 r0 1 (G1 r1 1)) r1 2)) r1 3)) r1 4)) r1 5)) r1 6)) r0 7 ((sm_up (sm_up (sm_up (sm_up (sm_up (sm_up G1 r0 1 (G1 r1 1)) r0 2 ((sm_up G1 r0 1 (G1 r1 1)) r1 2)) r0 3 ((sm_up (sm_up G1 r0 1 (G1 r1 1)) r0 2 ((sm_up G1 r0 1 (G1 r1 1)) r1 2)) r1 3)) r0 4 ((sm_up (sm_up (sm_up G1 r0 1 (G1 r1 1)) r0 2 ((sm_up G1 r0 1 (G1 r1 1)) r1 2)) r0 3 ((sm_up (sm_up G1 r0 1 (G1 r1 1)) r0 2 ((sm_up G1 r0 1 (G1 r1 1)) r1 2)) r1 3)) r1 4)) r0 5 ((sm_up (sm_up (sm_up (sm_up G1 r0 1 (G1 r1 1)) r0 2 ((sm_up G1 r0 1 (G1 r1 1)) r1 2)) r0 3 ((sm_up (sm_up G1 r0 1 (G1 r1 1)) r0 2 ((sm_up G1 r0 1 (G1 r1 1)) r1 2)) r1 3)) r0 4 ((sm_up (sm_up (sm_up G1 r0 1 (G1 r1 1)) r0 2 ((sm_up G1 r0 1 (G1 r1 1)) r1 2)) r0 3 ((sm_up (sm_up G1 r0 1 (G1 r1 1)) r0 2 ((sm_up G1 r0 1 (G1 r1 1)) r1 2)) r1 3)) r1 4)) r1 5)) r0 6 ((sm_up (sm_up (sm_up (sm_up (sm_up G1 r0 1 (G1 r1 1)) r0 2 ((sm_up G1 r0 1 (G1 r1 1)) r1 2)) r0 3 ((sm_up (sm_up G1 r0 1 (G1 r1 1)) r0 2 ((sm_up G1 r0 1 (G1 r1 1)) r1 2)) r1 3)) r0 4 ((sm_up (sm_up (sm_up G1 r0 1 (G1 r1 1)) r0 2 ((sm_up G1 r0 1 (G1 r1 1)) r1 2)) r0 3 ((sm_up (sm_up G1 r0 1 (G1 r1 1)) r0 2 ((sm_up G1 r0 1 (G1 r1 1)) r1 2)) r1 3)) r1 4)) r0 5 ((sm_up (sm_up (sm_up (sm_up G1 r0 1 (G1 r1 1)) r0 2 ((sm_up G1 r0 1 (G1 r1 1)) r1 2)) r0 3 ((sm_up (sm_up G1 r0 1 (G1 r1 1)) r0 2 ((sm_up G1 r0 1 (G1 r1 1)) r1 2)) r1 3)) r0 4 ((sm_up (sm_up (sm_up G1 r0 1 (G1 r1 1)) r0 2 ((sm_up G1 r0 1 (G1 r1 1)) r1 2)) r0 3 ((sm_up (sm_up G1 r0 1 (G1 r1 1)) r0 2 ((sm_up G1 r0 1 (G1 r1 1)) r1 2)) r1 3)) r1 4)) r1 5)) r1 6)) r1 7)) r0 8 ((sm_up (sm_up (sm_up (sm_up (sm_up (sm_up (sm_up G1 r0 1 (G1 r1 1)) r0 2 ((sm_up G1 r0 1 (G1 r1 1)) r1 2)) r0 3 ((sm_up (sm_up G1 r0 1 (G1 r1 1)) r0 2 ((sm_up G1 r0 1 (G1 r1 1)) r1 2)) r1 3)) r0 4 ((sm_up (sm_up (sm_up G1 r0 1 (G1 r1 1)) r0 2 ((sm_up G1 r0 1 (G1 r1 1)) r1 2)) r0 3 ((sm_up (sm_up G1 r0 1 (G1 r1 1)) r0 2 ((sm_up G1 r0 1 (G1 r1 1)) r1 2)) r1 3)) r1 4)) r0 5 ((sm_up (sm_up (sm_up (sm_up G1 r0 1 (G1 r1 1)) r0 2 ((sm_up G1 r0 1 (G1 r1 1)) r1 2)) r0 3 ((sm_up (sm_up G1 r0 1 (G1 r1 1)) r0 2 ((sm_up G1 r0 1 (G1 r1 1)) r1 2)) r1 3)) r0 4 ((sm_up (sm_up (sm_up G1 r0 1 (G1 r1 1)) r0 2 ((sm_up G1 r0 1 (G1 r1 1)) r1 2)) r0 3 ((sm_up (sm_up G1 r0 1 (G1 r1 1)) r0 2 ((sm_up G1 r0 1 (G1 r1 1)) r1 2)) r1 3)) r1 4)) r1 5)) r0 6 ((sm_up (sm_up (sm_up (sm_up (sm_up G1 r0 1 (G1 r1 1)) r0 2 ((sm_up G1 r0 1 (G1 r1 1)) r1 2)) r0 3 ((sm_up (sm_up G1 r0 1 (G1 r1 1)) r0 2 ((sm_up G1 r0 1 (G1 r1 1)) r1 2)) r1 3)) r0 4 ((sm_up (sm_up (sm_up G1 r0 1 (G1 r1 1)) r0 2 ((sm_up G1 r0 1 (G1 r1 1)) r1 2)) r0 3 ((sm_up (sm_up G1 r0 1 (G1 r1 1)) r0 2 ((sm_up G1 r0 1 (G1 r1 1)) r1 2)) r1 3)) r1 4)) r0 5 ((sm_up (sm_up (sm_up (sm_up G1 r0 1 (G1 r1 1)) r0 2 ((sm_up G1 r0 1 (G1 r1 1)) r1 2)) r0 3 ((sm_up (sm_up G1 r0 1 (G1 r1 1)) r0 2 ((sm_up G1 r0 1 (G1 r1 1)) r1 2)) r1 3)) r0 4 ((sm_up (sm_up (sm_up G1 r0 1 (G1 r1 1)) r0 2 ((sm_up G1 r0 1 (G1 r1 1)) r1 2)) r0 3 ((sm_up (sm_up G1 r0 1 (G1 r1 1)) r0 2 ((sm_up G1 r0 1 (G1 r1 1)) r1 2)) r1 3)) r1 4)) r1 5)) r1 6)) r0 7 ((sm_up (sm_up (sm_up (sm_up (sm_up (sm_up G1 r0 1 (G1 r1 1)) r0 2 ((sm_up G1 r0 1 (G1 r1 1)) r1 2)) r0 3 ((sm_up (sm_up G1 r0 1 (G1 r1 1)) r0 2 ((sm_up G1 r0 1 (G1 r1 1)) r1 2)) r1 3)) r0 4 ((sm_up (sm_up (sm_up G1 r0 1 (G1 r1 1)) r0 2 ((sm_up G1 r0 1 (G1 r1 1)) r1 2)) r0 3 ((sm_up (sm_up G1 r0 1 (G1 r1 1)) r0 2 ((sm_up G1 r0 1 (G1 r1 1)) r1 2)) r1 3)) r1 4)) r0 5 ((sm_up (sm_up (sm_up (sm_up G1 r0 1 (G1 r1 1)) r0 2 ((sm_up G1 r0 1 (G1 r1 1)) r1 2)) r0 3 ((sm_up (sm_up G1 r0 1 (G1 r1 1)) r0 2 ((sm_up G1 r0 1 (G1 r1 1)) r1 2)) r1 3)) r0 4 ((sm_up (sm_up (sm_up G1 r0 1 (G1 r1 1)) r0 2 ((sm_up G1 r0 1 (G1 r1 1)) r1 2)) r0 3 ((sm_up (sm_up G1 r0 1 (G1 r1 1)) r0 2 ((sm_up G1 r0 1 (G1 r1 1)) r1 2)) r1 3)) r1 4)) r1 5)) r0 6 ((sm_up (sm_up (sm_up (sm_up (sm_up G1 r0 1 (G1 r1 1)) r0 2 ((sm_up G1 r0 1 (G1 r1 1)) r1 2)) r0 3 ((sm_up (sm_up G1 r0 1 (G1 r1 1)) r0 2 ((sm_up G1 r0 1 (G1 r1 1)) r1 2)) r1 3)) r0 4 ((sm_up (sm_up (sm_up G1 r0 1 (G1 r1 1)) r0 2 ((sm_up G1 r0 1 (G1 r1 1)) r1 2)) r0 3 ((sm_up (sm_up G1 r0 1 (G1 r1 1)) r0 2 ((sm_up G1 r0 1 (G1 r1 1)) r1 2)) r1 3)) r1 4)) r0 5 ((sm_up (sm_up (sm_up (sm_up G1 r0 1 (G1 r1 1)) r0 2 ((sm_up G1 r0 1 (G1 r1 1)) r1 2)) r0 3 ((sm_up (sm_up G1 r0 1 (G1 r1 1)) r0 2 ((sm_up G1 r0 1 (G1 r1 1)) r1 2)) r1 3)) r0 4 ((sm_up (sm_up (sm_up G1 r0 1 (G1 r1 1)) r0 2 ((sm_up G1 r0 1 (G1 r1 1)) r1 2)) r0 3 ((sm_up (sm_up G1 r0 1 (G1 r1 1)) r0 2 ((sm_up G1 r0 1 (G1 r1 1)) r1 2)) r1 3)) r1 4)) r1 5)) r1 6)) r1 7)) r1 8)) r1 9)) r1 10)) L1)) oX := by
  rw [rm_149]
  try simp only [gd_tt, (fK_0_0 V hr0), (fK_0_0 V hr1), (kK_0 hr0), (kK_0 hr1)]
/-! Walks_seek -/
set_option maxRecDepth 20000 in
theorem rm_150 {d x : Nat} {R : sm_R} {G : sm_G} {L : sm_L} {r1 : Nat} {v2 v3 : Int32} : sm_cv0 (d + 1) 150 342 R [.ref 108, .ref r1, .int v2, .int v3] (x, G, L) =
  sm_aV (sm_cv0 d 151 342 R [.ref 108, .ref r1, .int v2, .int v3, .int (i3 0), .int (i3 0), .long (i6 1), .int (i3 0)] (x, sm_up (sm_up G 108 2 (i3 0)) 108 3 (i3 0), sm_up (sm_up L 108 0 (i6 0)) 108 1 (i6 0))) (fun x1 G1 L1 =>
    oV x1 G1 L1) oX := (cv_eq rfl rfl).trans (hD_eq.trans rfl)
set_option maxRecDepth 20000 in
theorem m_150 {d x : Nat} {V : pV} {G : sm_G} {L : sm_L} {r1 : Nat} {v2 v3 : Int32} (hr1 : pS r1) : sm_cv0 (d + 1) 150 342 (RR V) [.ref 108, .ref r1, .int v2, .int v3] (x, G, L) =
  sm_aV (sm_cv0 d 151 342 (RR V) [.ref 108, .ref r1, .int v2, .int v3, .int (i3 0), .int (i3 0), .long (i6 1), .int (i3 0)] (x, sm_up (sm_up G 108 2 (i3 0)) 108 3 (i3 0), sm_up (sm_up L 108 0 (i6 0)) 108 1 (i6 0))) (fun x1 G1 L1 =>
    oV x1 G1 L1) oX := by
  rw [rm_150]
  try simp only [gd_tt, k_108]
/-! Walks_extend -/
set_option maxRecDepth 20000 in
theorem rm_151 {d x : Nat} {R : sm_R} {G : sm_G} {L : sm_L} {r1 : Nat} {v2 v3 v4 v5 v8 : Int32} {w6 : Int64} : sm_cv0 (d + 1) 151 342 R [.ref 108, .ref r1, .int v2, .int v3, .int v4, .int v5, .long w6, .int v8] (x, G, L) =
  if v4 < (i3 8) then
    (if v2 < (i3 0) then
      (oV x G L)
    else (if v2 < (i3 8) then
        (gd (sm_is r1 342 5) (ldi (R r1 1) v2 G (fun y1 => hD d 151 41 [.ref 108, .ref r1, .int v2, .int v3, .int v4, .null, .null, .null, .int v8, .int (v5 ||| (shl (i3 1) v2)), .long (w6 * (Int32.toInt64 ((i3 16) - y1))), .null, .null, .null, .null] 342 R x G L)))
      else (oV x G L)))
  else (oV x G L) := (cv_eq rfl rfl).trans (hD_eq.trans rfl)
set_option maxRecDepth 20000 in
theorem m_151 {d x : Nat} {V : pV} {G : sm_G} {L : sm_L} {r1 : Nat} {v2 v3 v4 v5 v8 : Int32} {w6 : Int64} (hr1 : pS r1) : sm_cv0 (d + 1) 151 342 (RR V) [.ref 108, .ref r1, .int v2, .int v3, .int v4, .int v5, .long w6, .int v8] (x, G, L) =
  if v4 < (i3 8) then
    (if v2 < (i3 0) then
      (oV x G L)
    else (if v2 < (i3 8) then
        (gd (sm_in v2 8) (hD d 151 41 [.ref 108, .ref r1, .int v2, .int v3, .int v4, .null, .null, .null, .int v8, .int (v5 ||| (shl (i3 1) v2)), .long (w6 * (Int32.toInt64 ((i3 16) - (G (r1 + 10) v2.toNatClampNeg)))), .null, .null, .null, .null] 342 (RR V) x G L))
      else (oV x G L)))
  else (oV x G L) := by
  rw [rm_151]
  try simp only [gd_tt, (fS_0_1 V hr1), (kS_0 hr1), (nS_10 hr1), ldi_e (kS_10 hr1) (nS_10 hr1)]
set_option maxRecDepth 20000 in
theorem rh_151_41 {d x : Nat} {R : sm_R} {G : sm_G} {L : sm_L} {r1 : Nat} {v2 v3 v4 v8 v9 : Int32} {w10 : Int64} : hD d 151 41 [.ref 108, .ref r1, .int v2, .int v3, .int v4, .null, .null, .null, .int v8, .int v9, .long w10, .null, .null, .null, .null] 342 R x G L =
  if v2 = v3 then
    (sm_aV (sm_cv0 d 152 342 R [.ref 108, .int (v4 + (i3 1)), .long w10, .int ((v8 * (i3 10)) + v2)] (x, G, L)) (fun x1 G1 L1 =>
      oV x1 G1 L1) oX)
  else (gd (sm_is r1 342 5) (gd (sm_is r1 342 5) (sm_aI (sm_cv0 d 119 342 R [.ref r1, .int (shl (i3 1) v2), .int (G r1 13)] (x, G, L)) (fun a2 x2 G2 L2 =>
      hD d 151 89 [.ref 108, .ref r1, .null, .int v3, .int v4, .null, .null, .null, .null, .int v9, .long w10, .null, .int ((v8 * (i3 10)) + v2), .int (a2 &&& (v9 ^^^ m1)), .int (i3 0)] 342 R x2 G2 L2) oX))) := hD_eq.trans rfl
set_option maxRecDepth 20000 in
theorem h_151_41 {d x : Nat} {V : pV} {G : sm_G} {L : sm_L} {r1 : Nat} {v2 v3 v4 v8 v9 : Int32} {w10 : Int64} (hr1 : pS r1) : hD d 151 41 [.ref 108, .ref r1, .int v2, .int v3, .int v4, .null, .null, .null, .int v8, .int v9, .long w10, .null, .null, .null, .null] 342 (RR V) x G L =
  if v2 = v3 then
    (sm_aV (sm_cv0 d 152 342 (RR V) [.ref 108, .int (v4 + (i3 1)), .long w10, .int ((v8 * (i3 10)) + v2)] (x, G, L)) (fun x1 G1 L1 =>
      oV x1 G1 L1) oX)
  else (sm_aI (sm_cv0 d 119 342 (RR V) [.ref r1, .int (shl (i3 1) v2), .int (G r1 13)] (x, G, L)) (fun a2 x2 G2 L2 =>
      hD d 151 89 [.ref 108, .ref r1, .null, .int v3, .int v4, .null, .null, .null, .null, .int v9, .long w10, .null, .int ((v8 * (i3 10)) + v2), .int (a2 &&& (v9 ^^^ m1)), .int (i3 0)] 342 (RR V) x2 G2 L2) oX) := by
  rw [rh_151_41]
  try simp only [gd_tt, (kS_0 hr1), k_108]
set_option maxRecDepth 20000 in
theorem rh_151_89 {d x : Nat} {R : sm_R} {G : sm_G} {L : sm_L} {r1 : Nat} {v3 v4 v9 v12 v13 v14 : Int32} {w10 : Int64} : hD d 151 89 [.ref 108, .ref r1, .null, .int v3, .int v4, .null, .null, .null, .null, .int v9, .long w10, .null, .int v12, .int v13, .int v14] 342 R x G L =
  gd (sm_is r1 342 5) (if v14 < (G r1 9) then
    (if ((shr v13 v14) &&& (i3 1)) = (i3 0) then
      (hD d 151 89 [.ref 108, .ref r1, .null, .int v3, .int v4, .null, .null, .null, .null, .int v9, .long w10, .null, .int v12, .int v13, .int (v14 + (i3 1))] 342 R x G L)
    else (sm_aV (sm_cv0 d 151 342 R [.ref 108, .ref r1, .int v14, .int v3, .int (v4 + (i3 1)), .int v9, .long w10, .int v12] (x, G, L)) (fun x1 G1 L1 =>
        hD d 151 89 [.ref 108, .ref r1, .null, .int v3, .int v4, .null, .null, .null, .null, .int v9, .long w10, .null, .int v12, .int v13, .int (v14 + (i3 1))] 342 R x1 G1 L1) oX))
  else (oV x G L)) := hD_eq.trans rfl
set_option maxRecDepth 20000 in
theorem h_151_89 {d x : Nat} {V : pV} {G : sm_G} {L : sm_L} {r1 : Nat} {v3 v4 v9 v12 v13 v14 : Int32} {w10 : Int64} (hr1 : pS r1) : hD d 151 89 [.ref 108, .ref r1, .null, .int v3, .int v4, .null, .null, .null, .null, .int v9, .long w10, .null, .int v12, .int v13, .int v14] 342 (RR V) x G L =
  if v14 < (G r1 9) then
    (if ((shr v13 v14) &&& (i3 1)) = (i3 0) then
      (hD d 151 89 [.ref 108, .ref r1, .null, .int v3, .int v4, .null, .null, .null, .null, .int v9, .long w10, .null, .int v12, .int v13, .int (v14 + (i3 1))] 342 (RR V) x G L)
    else (sm_aV (sm_cv0 d 151 342 (RR V) [.ref 108, .ref r1, .int v14, .int v3, .int (v4 + (i3 1)), .int v9, .long w10, .int v12] (x, G, L)) (fun x1 G1 L1 =>
        hD d 151 89 [.ref 108, .ref r1, .null, .int v3, .int v4, .null, .null, .null, .null, .int v9, .long w10, .null, .int v12, .int v13, .int (v14 + (i3 1))] 342 (RR V) x1 G1 L1) oX))
  else (oV x G L) := by
  rw [rh_151_89]
  try simp only [gd_tt, (kS_0 hr1), k_108]
/-! Walks_compare -/
set_option maxRecDepth 20000 in
theorem rm_152 {d x : Nat} {R : sm_R} {G : sm_G} {L : sm_L} {v1 v4 : Int32} {w2 : Int64} : sm_cv0 (d + 1) 152 342 R [.ref 108, .int v1, .long w2, .int v4] (x, G, L) =
  if (lshl w2 ((i3 4) * ((i3 8) - v1))) < (L 108 0) then (if (lshl w2 ((i3 4) * ((i3 8) - v1))) < (L 108 0) then (oV x G L) else if (lshl w2 ((i3 4) * ((i3 8) - v1))) = (L 108 0) then (if v1 < (G 108 2) then
        (hD d 152 38 [.ref 108, .int v1, .long w2, .null, .int v4, .long (lshl w2 ((i3 4) * ((i3 8) - v1))), .null] 342 R x G L)
      else (oV x G L)) else (oV x G L)) else if (lshl w2 ((i3 4) * ((i3 8) - v1))) = (L 108 0) then (if (lshl w2 ((i3 4) * ((i3 8) - v1))) < (L 108 0) then (oV x G L) else if (lshl w2 ((i3 4) * ((i3 8) - v1))) = (L 108 0) then (if v1 < (G 108 2) then
        (hD d 152 38 [.ref 108, .int v1, .long w2, .null, .int v4, .long (lshl w2 ((i3 4) * ((i3 8) - v1))), .null] 342 R x G L)
      else (oV x G L)) else (oV x G L)) else (hD d 152 38 [.ref 108, .int v1, .long w2, .null, .int v4, .long (lshl w2 ((i3 4) * ((i3 8) - v1))), .null] 342 R x G L) := (cv_eq rfl rfl).trans (hD_eq.trans rfl)
set_option maxRecDepth 20000 in
theorem m_152 {d x : Nat} {V : pV} {G : sm_G} {L : sm_L} {v1 v4 : Int32} {w2 : Int64} : sm_cv0 (d + 1) 152 342 (RR V) [.ref 108, .int v1, .long w2, .int v4] (x, G, L) =
  if (lshl w2 ((i3 4) * ((i3 8) - v1))) < (L 108 0) then (if (lshl w2 ((i3 4) * ((i3 8) - v1))) < (L 108 0) then (oV x G L) else if (lshl w2 ((i3 4) * ((i3 8) - v1))) = (L 108 0) then (if v1 < (G 108 2) then
        (hD d 152 38 [.ref 108, .int v1, .long w2, .null, .int v4, .long (lshl w2 ((i3 4) * ((i3 8) - v1))), .null] 342 (RR V) x G L)
      else (oV x G L)) else (oV x G L)) else if (lshl w2 ((i3 4) * ((i3 8) - v1))) = (L 108 0) then (if (lshl w2 ((i3 4) * ((i3 8) - v1))) < (L 108 0) then (oV x G L) else if (lshl w2 ((i3 4) * ((i3 8) - v1))) = (L 108 0) then (if v1 < (G 108 2) then
        (hD d 152 38 [.ref 108, .int v1, .long w2, .null, .int v4, .long (lshl w2 ((i3 4) * ((i3 8) - v1))), .null] 342 (RR V) x G L)
      else (oV x G L)) else (oV x G L)) else (hD d 152 38 [.ref 108, .int v1, .long w2, .null, .int v4, .long (lshl w2 ((i3 4) * ((i3 8) - v1))), .null] 342 (RR V) x G L) := by
  rw [rm_152]
  try simp only [gd_tt, k_108]
set_option maxRecDepth 20000 in
theorem rh_152_38 {d x : Nat} {R : sm_R} {G : sm_G} {L : sm_L} {v1 v4 : Int32} {w2 w5 : Int64} : hD d 152 38 [.ref 108, .int v1, .long w2, .null, .int v4, .long w5, .null] 342 R x G L =
  oV x (sm_up (sm_up G 108 2 v1) 108 3 v4) (sm_up (sm_up L 108 0 w5) 108 1 w2) := hD_eq.trans rfl
set_option maxRecDepth 20000 in
theorem h_152_38 {d x : Nat} {V : pV} {G : sm_G} {L : sm_L} {v1 v4 : Int32} {w2 w5 : Int64} : hD d 152 38 [.ref 108, .int v1, .long w2, .null, .int v4, .long w5, .null] 342 (RR V) x G L =
  oV x (sm_up (sm_up G 108 2 v1) 108 3 v4) (sm_up (sm_up L 108 0 w5) 108 1 w2) := by
  rw [rh_152_38]
  try simp only [gd_tt, k_108]
/-! Walks_above -/
set_option maxRecDepth 20000 in
theorem rm_153 {d x : Nat} {R : sm_R} {G : sm_G} {L : sm_L} : sm_cv0 (d + 1) 153 342 R [.ref 108] (x, G, L) =
  sm_aI (sm_cv0 d 154 342 R [.ref 108] (x, G, L)) (fun a1 x1 G1 L1 =>
    oL (lshr (L 108 1) a1) x1 G1 L1) oX := (cv_eq rfl rfl).trans (hD_eq.trans rfl)
set_option maxRecDepth 20000 in
theorem m_153 {d x : Nat} {V : pV} {G : sm_G} {L : sm_L} : sm_cv0 (d + 1) 153 342 (RR V) [.ref 108] (x, G, L) =
  sm_aI (sm_cv0 d 154 342 (RR V) [.ref 108] (x, G, L)) (fun a1 x1 G1 L1 =>
    oL (lshr (L 108 1) a1) x1 G1 L1) oX := by
  rw [rm_153]
  try simp only [gd_tt, k_108]
/-! Walks_commonHalvings -/
set_option maxRecDepth 20000 in
theorem rm_154 {d x : Nat} {R : sm_R} {G : sm_G} {L : sm_L} : sm_cv0 (d + 1) 154 342 R [.ref 108] (x, G, L) =
  sm_aI (sm_cv0 d 10 342 R [.long (L 108 1)] (x, G, L)) (fun a1 x1 G1 L1 =>
    sm_aI (sm_cv0 d 4 342 R [.int a1, .int ((i3 4) * (G1 108 2))] (x1, G1, L1)) (fun a2 x2 G2 L2 =>
      oI a2 x2 G2 L2) oX) oX := (cv_eq rfl rfl).trans (hD_eq.trans rfl)
set_option maxRecDepth 20000 in
theorem m_154 {d x : Nat} {V : pV} {G : sm_G} {L : sm_L} : sm_cv0 (d + 1) 154 342 (RR V) [.ref 108] (x, G, L) =
  sm_aI (sm_cv0 d 10 342 (RR V) [.long (L 108 1)] (x, G, L)) (fun a1 x1 G1 L1 =>
    sm_aI (sm_cv0 d 4 342 (RR V) [.int a1, .int ((i3 4) * (G1 108 2))] (x1, G1, L1)) (fun a2 x2 G2 L2 =>
      oI a2 x2 G2 L2) oX) oX := by
  rw [rm_154]
  try simp only [gd_tt, k_108]
/-! Walks_below -/
set_option maxRecDepth 20000 in
theorem rm_155 {d x : Nat} {R : sm_R} {G : sm_G} {L : sm_L} : sm_cv0 (d + 1) 155 342 R [.ref 108] (x, G, L) =
  sm_aI (sm_cv0 d 154 342 R [.ref 108] (x, G, L)) (fun a1 x1 G1 L1 =>
    oL (lshl (i6 1) (((i3 4) * (G 108 2)) - a1)) x1 G1 L1) oX := (cv_eq rfl rfl).trans (hD_eq.trans rfl)
set_option maxRecDepth 20000 in
theorem m_155 {d x : Nat} {V : pV} {G : sm_G} {L : sm_L} : sm_cv0 (d + 1) 155 342 (RR V) [.ref 108] (x, G, L) =
  sm_aI (sm_cv0 d 154 342 (RR V) [.ref 108] (x, G, L)) (fun a1 x1 G1 L1 =>
    oL (lshl (i6 1) (((i3 4) * (G 108 2)) - a1)) x1 G1 L1) oX := by
  rw [rm_155]
  try simp only [gd_tt, k_108]
/-! Walks_doorsBetween -/
set_option maxRecDepth 20000 in
theorem rm_156 {d x : Nat} {R : sm_R} {G : sm_G} {L : sm_L} {r1 : Nat} {v2 v3 : Int32} : sm_cv0 (d + 1) 156 342 R [.ref 108, .ref r1, .int v2, .int v3] (x, G, L) =
  hD d 156 8 [.null, .ref r1, .null, .int v3, .int (shl (i3 1) v2), .int (i3 0)] 342 R x G L := (cv_eq rfl rfl).trans (hD_eq.trans rfl)
theorem m_156 {d x : Nat} {V : pV} {G : sm_G} {L : sm_L} {r1 : Nat} {v2 v3 : Int32} (hr1 : pS r1) : sm_cv0 (d + 1) 156 342 (RR V) [.ref 108, .ref r1, .int v2, .int v3] (x, G, L) =
  hD d 156 8 [.null, .ref r1, .null, .int v3, .int (shl (i3 1) v2), .int (i3 0)] 342 (RR V) x G L := rm_156
set_option maxRecDepth 20000 in
theorem rh_156_8 {d x : Nat} {R : sm_R} {G : sm_G} {L : sm_L} {r1 : Nat} {v3 v4 v5 : Int32} : hD d 156 8 [.null, .ref r1, .null, .int v3, .int v4, .int v5] 342 R x G L =
  if v5 < (i3 8) then
    (if ((shr v4 v3) &&& (i3 1)) = (i3 0) then
      (gd (sm_is r1 342 5) (gd (sm_is r1 342 5) (sm_aI (sm_cv0 d 119 342 R [.ref r1, .int v4, .int (G r1 13)] (x, G, L)) (fun a1 x1 G1 L1 =>
        hD d 156 8 [.null, .ref r1, .null, .int v3, .int (v4 ||| a1), .int (v5 + (i3 1))] 342 R x1 G1 L1) oX)))
    else (oI v5 x G L))
  else (oI m1 x G L) := hD_eq.trans rfl
set_option maxRecDepth 20000 in
theorem h_156_8 {d x : Nat} {V : pV} {G : sm_G} {L : sm_L} {r1 : Nat} {v3 v4 v5 : Int32} (hr1 : pS r1) : hD d 156 8 [.null, .ref r1, .null, .int v3, .int v4, .int v5] 342 (RR V) x G L =
  if v5 < (i3 8) then
    (if ((shr v4 v3) &&& (i3 1)) = (i3 0) then
      (sm_aI (sm_cv0 d 119 342 (RR V) [.ref r1, .int v4, .int (G r1 13)] (x, G, L)) (fun a1 x1 G1 L1 =>
        hD d 156 8 [.null, .ref r1, .null, .int v3, .int (v4 ||| a1), .int (v5 + (i3 1))] 342 (RR V) x1 G1 L1) oX)
    else (oI v5 x G L))
  else (oI m1 x G L) := by
  rw [rh_156_8]
  try simp only [gd_tt, (kS_0 hr1)]
/-! Ways_cutFrom -/
set_option maxRecDepth 20000 in
theorem rm_157 {d x : Nat} {R : sm_R} {G : sm_G} {L : sm_L} {r1 : Nat} {v3 v4 : Int32} : sm_cv0 (d + 1) 157 342 R [.ref 61, .ref r1, .ref 54, .int v3, .int v4] (x, G, L) =
  sm_aI (sm_cv0 d 158 342 R [.ref 54, .int (i3 0), .int v3, .int v4] (x, G, L)) (fun a1 x1 G1 L1 =>
    hD d 157 13 [.null, .ref r1, .ref 54, .null, .int v4, .int a1, .int (i3 0)] 342 R x1 G1 L1) oX := (cv_eq rfl rfl).trans (hD_eq.trans rfl)
theorem m_157 {d x : Nat} {V : pV} {G : sm_G} {L : sm_L} {r1 : Nat} {v3 v4 : Int32} (hr1 : pS r1) : sm_cv0 (d + 1) 157 342 (RR V) [.ref 61, .ref r1, .ref 54, .int v3, .int v4] (x, G, L) =
  sm_aI (sm_cv0 d 158 342 (RR V) [.ref 54, .int (i3 0), .int v3, .int v4] (x, G, L)) (fun a1 x1 G1 L1 =>
    hD d 157 13 [.null, .ref r1, .ref 54, .null, .int v4, .int a1, .int (i3 0)] 342 (RR V) x1 G1 L1) oX := rm_157
set_option maxRecDepth 20000 in
theorem rh_157_13 {d x : Nat} {R : sm_R} {G : sm_G} {L : sm_L} {r1 : Nat} {v4 v5 v6 : Int32} : hD d 157 13 [.null, .ref r1, .ref 54, .null, .int v4, .int v5, .int v6] 342 R x G L =
  if v6 < (i3 8) then
    (sm_aI (sm_cv0 d 159 342 R [.ref r1, .ref 54, .int (i3 0), .int v5, .int v4] (x, G, L)) (fun a1 x1 G1 L1 =>
      hD d 157 13 [.null, .ref r1, .ref 54, .null, .int v4, .int a1, .int (v6 + (i3 1))] 342 R x1 G1 L1) oX)
  else (ldi (R 54 1) v4 G (fun y2 => oI (y2 &&& (v5 ^^^ m1)) x G L)) := hD_eq.trans rfl
set_option maxRecDepth 20000 in
theorem h_157_13 {d x : Nat} {V : pV} {G : sm_G} {L : sm_L} {r1 : Nat} {v4 v5 v6 : Int32} (hr1 : pS r1) : hD d 157 13 [.null, .ref r1, .ref 54, .null, .int v4, .int v5, .int v6] 342 (RR V) x G L =
  if v6 < (i3 8) then
    (sm_aI (sm_cv0 d 159 342 (RR V) [.ref r1, .ref 54, .int (i3 0), .int v5, .int v4] (x, G, L)) (fun a1 x1 G1 L1 =>
      hD d 157 13 [.null, .ref r1, .ref 54, .null, .int v4, .int a1, .int (v6 + (i3 1))] 342 (RR V) x1 G1 L1) oX)
  else (gd (sm_in v4 301) (oI ((G 56 v4.toNatClampNeg) &&& (v5 ^^^ m1)) x G L)) := by
  rw [rh_157_13]
  try simp only [gd_tt, (q_54_1 V), k_54, ldi_e k_56 n_56, n_56]
/-! Ways_start -/
set_option maxRecDepth 20000 in
theorem rm_158 {d x : Nat} {R : sm_R} {G : sm_G} {L : sm_L} {v1 v2 v3 : Int32} : sm_cv0 (d + 1) 158 342 R [.ref 54, .int v1, .int v2, .int v3] (x, G, L) =
  ldi (R 54 1) v3 G (fun y1 => oI ((shl (i3 1) v2) &&& (y1 ||| v1)) x G L) := (cv_eq rfl rfl).trans (hD_eq.trans rfl)
set_option maxRecDepth 20000 in
theorem m_158 {d x : Nat} {V : pV} {G : sm_G} {L : sm_L} {v1 v2 v3 : Int32} : sm_cv0 (d + 1) 158 342 (RR V) [.ref 54, .int v1, .int v2, .int v3] (x, G, L) =
  gd (sm_in v3 301) (oI ((shl (i3 1) v2) &&& ((G 56 v3.toNatClampNeg) ||| v1)) x G L) := by
  rw [rm_158]
  try simp only [gd_tt, (q_54_1 V), k_54, ldi_e k_56 n_56, n_56]
/-! Ways_next -/
set_option maxRecDepth 20000 in
theorem rm_159 {d x : Nat} {R : sm_R} {G : sm_G} {L : sm_L} {r0 : Nat} {v2 v3 v4 : Int32} : sm_cv0 (d + 1) 159 342 R [.ref r0, .ref 54, .int v2, .int v3, .int v4] (x, G, L) =
  ldi (R 54 2) v4 G (fun y1 => gd (sm_is r0 342 5) (sm_aI (sm_cv0 d 119 342 R [.ref r0, .int v3, .int y1] (x, G, L)) (fun a2 x2 G2 L2 =>
    ldi (R 54 1) v4 G2 (fun y3 => oI ((v3 ||| a2) &&& (y3 ||| v2)) x2 G2 L2)) oX)) := (cv_eq rfl rfl).trans (hD_eq.trans rfl)
set_option maxRecDepth 20000 in
theorem m_159 {d x : Nat} {V : pV} {G : sm_G} {L : sm_L} {r0 : Nat} {v2 v3 v4 : Int32} (hr0 : pS r0) : sm_cv0 (d + 1) 159 342 (RR V) [.ref r0, .ref 54, .int v2, .int v3, .int v4] (x, G, L) =
  gd (sm_in v4 301) (sm_aI (sm_cv0 d 119 342 (RR V) [.ref r0, .int v3, .int (G 57 v4.toNatClampNeg)] (x, G, L)) (fun a2 x2 G2 L2 =>
    gd (sm_in v4 301) (oI ((v3 ||| a2) &&& ((G2 56 v4.toNatClampNeg) ||| v2)) x2 G2 L2)) oX) := by
  rw [rm_159]
  try simp only [gd_tt, (kS_0 hr0), (q_54_1 V), (q_54_2 V), k_54, ldi_e k_56 n_56, ldi_e k_57 n_57, n_56, n_57]
/-! Ways_first -/
set_option maxRecDepth 20000 in
theorem rm_160 {d x : Nat} {R : sm_R} {G : sm_G} {L : sm_L} {r1 : Nat} {v3 v4 v5 v6 : Int32} : sm_cv0 (d + 1) 160 342 R [.ref 61, .ref r1, .ref 54, .int v3, .int v4, .int v5, .int v6] (x, G, L) =
  sm_aI (sm_cv0 d 158 342 R [.ref 54, .int v3, .int v4, .int v5] (x, G, L)) (fun a1 x1 G1 L1 =>
    hD d 160 15 [.null, .ref r1, .ref 54, .int v3, .null, .int v5, .int v6, .int a1, .int v5] 342 R x1 G1 L1) oX := (cv_eq rfl rfl).trans (hD_eq.trans rfl)
theorem m_160 {d x : Nat} {V : pV} {G : sm_G} {L : sm_L} {r1 : Nat} {v3 v4 v5 v6 : Int32} (hr1 : pS r1) : sm_cv0 (d + 1) 160 342 (RR V) [.ref 61, .ref r1, .ref 54, .int v3, .int v4, .int v5, .int v6] (x, G, L) =
  sm_aI (sm_cv0 d 158 342 (RR V) [.ref 54, .int v3, .int v4, .int v5] (x, G, L)) (fun a1 x1 G1 L1 =>
    hD d 160 15 [.null, .ref r1, .ref 54, .int v3, .null, .int v5, .int v6, .int a1, .int v5] 342 (RR V) x1 G1 L1) oX := rm_160
set_option maxRecDepth 20000 in
theorem rh_160_15 {d x : Nat} {R : sm_R} {G : sm_G} {L : sm_L} {r1 : Nat} {v3 v5 v6 v7 v8 : Int32} : hD d 160 15 [.null, .ref r1, .ref 54, .int v3, .null, .int v5, .int v6, .int v7, .int v8] 342 R x G L =
  if v8 ≤ (i3 300) then
    (if v7 = (i3 0) then
      (oI m1 x G L)
    else (if v8 ≤ v5 then
        (if ((shr v7 v6) &&& (i3 1)) = (i3 0) then
          (hD d 160 15 [.null, .ref r1, .ref 54, .int v3, .null, .int v5, .int v6, .int v7, .int (v8 + (i3 1))] 342 R x G L)
        else (oI v8 x G L))
      else (sm_aI (sm_cv0 d 159 342 R [.ref r1, .ref 54, .int v3, .int v7, .int v8] (x, G, L)) (fun a1 x1 G1 L1 =>
          if ((shr a1 v6) &&& (i3 1)) = (i3 0) then
            (hD d 160 15 [.null, .ref r1, .ref 54, .int v3, .null, .int v5, .int v6, .int a1, .int (v8 + (i3 1))] 342 R x1 G1 L1)
          else (oI v8 x1 G1 L1)) oX)))
  else (oI m1 x G L) := hD_eq.trans rfl
theorem h_160_15 {d x : Nat} {V : pV} {G : sm_G} {L : sm_L} {r1 : Nat} {v3 v5 v6 v7 v8 : Int32} (hr1 : pS r1) : hD d 160 15 [.null, .ref r1, .ref 54, .int v3, .null, .int v5, .int v6, .int v7, .int v8] 342 (RR V) x G L =
  if v8 ≤ (i3 300) then
    (if v7 = (i3 0) then
      (oI m1 x G L)
    else (if v8 ≤ v5 then
        (if ((shr v7 v6) &&& (i3 1)) = (i3 0) then
          (hD d 160 15 [.null, .ref r1, .ref 54, .int v3, .null, .int v5, .int v6, .int v7, .int (v8 + (i3 1))] 342 (RR V) x G L)
        else (oI v8 x G L))
      else (sm_aI (sm_cv0 d 159 342 (RR V) [.ref r1, .ref 54, .int v3, .int v7, .int v8] (x, G, L)) (fun a1 x1 G1 L1 =>
          if ((shr a1 v6) &&& (i3 1)) = (i3 0) then
            (hD d 160 15 [.null, .ref r1, .ref 54, .int v3, .null, .int v5, .int v6, .int a1, .int (v8 + (i3 1))] 342 (RR V) x1 G1 L1)
          else (oI v8 x1 G1 L1)) oX)))
  else (oI m1 x G L) := rh_160_15
/-! Ways_roomIn -/
set_option maxRecDepth 20000 in
theorem rm_161 {d x : Nat} {R : sm_R} {G : sm_G} {L : sm_L} {r1 : Nat} {v3 v4 v5 v6 : Int32} : sm_cv0 (d + 1) 161 342 R [.ref 61, .ref r1, .ref 54, .int v3, .int v4, .int v5, .int v6] (x, G, L) =
  sm_aI (sm_cv0 d 160 342 R [.ref 61, .ref r1, .ref 54, .int (i3 0), .int v3, .int v4, .int v5] (x, G, L)) (fun a1 x1 G1 L1 =>
    if a1 = m1 then
      (oI m1 x1 G1 L1)
    else (if v6 < v4 then
        (oI m1 x1 G1 L1)
      else (if v6 < a1 then
          (sm_aV (sm_cv0 d 162 342 R [.ref 61, .ref r1, .ref 54, .int (shl (i3 1) v5), .int (i3 0), .int a1, .int v4] (x1, G1, L1)) (fun x2 G2 L2 =>
            hD d 161 65 [.ref 61, .ref r1, .ref 54, .null, .null, .null, .int v6, .null, .int (shl (i3 1) v3), .int (v4 + (i3 1))] 342 R x2 G2 L2) oX)
        else (oI v5 x1 G1 L1)))) oX := (cv_eq rfl rfl).trans (hD_eq.trans rfl)
set_option maxRecDepth 20000 in
theorem m_161 {d x : Nat} {V : pV} {G : sm_G} {L : sm_L} {r1 : Nat} {v3 v4 v5 v6 : Int32} (hr1 : pS r1) : sm_cv0 (d + 1) 161 342 (RR V) [.ref 61, .ref r1, .ref 54, .int v3, .int v4, .int v5, .int v6] (x, G, L) =
  sm_aI (sm_cv0 d 160 342 (RR V) [.ref 61, .ref r1, .ref 54, .int (i3 0), .int v3, .int v4, .int v5] (x, G, L)) (fun a1 x1 G1 L1 =>
    if a1 = m1 then
      (oI m1 x1 G1 L1)
    else (if v6 < v4 then
        (oI m1 x1 G1 L1)
      else (if v6 < a1 then
          (sm_aV (sm_cv0 d 162 342 (RR V) [.ref 61, .ref r1, .ref 54, .int (shl (i3 1) v5), .int (i3 0), .int a1, .int v4] (x1, G1, L1)) (fun x2 G2 L2 =>
            hD d 161 65 [.ref 61, .ref r1, .ref 54, .null, .null, .null, .int v6, .null, .int (shl (i3 1) v3), .int (v4 + (i3 1))] 342 (RR V) x2 G2 L2) oX)
        else (oI v5 x1 G1 L1)))) oX := by
  rw [rm_161]
  try simp only [gd_tt, k_61]
set_option maxRecDepth 20000 in
theorem rh_161_65 {d x : Nat} {R : sm_R} {G : sm_G} {L : sm_L} {r1 : Nat} {v6 v8 v9 : Int32} : hD d 161 65 [.ref 61, .ref r1, .ref 54, .null, .null, .null, .int v6, .null, .int v8, .int v9] 342 R x G L =
  if v9 ≤ v6 then
    (sm_aI (sm_cv0 d 159 342 R [.ref r1, .ref 54, .int (i3 0), .int v8, .int v9] (x, G, L)) (fun a1 x1 G1 L1 =>
      ldi (R 61 0) v9 G1 (fun y2 => sm_aI (sm_cv0 d 8 342 R [.int (a1 &&& y2)] (x1, G1, L1)) (fun a3 x3 G3 L3 =>
        hD d 161 65 [.ref 61, .ref r1, .ref 54, .null, .null, .null, .int v6, .null, .int a3, .int (v9 + (i3 1))] 342 R x3 G3 L3) oX)) oX)
  else (sm_aI (sm_cv0 d 9 342 R [.int v8] (x, G, L)) (fun a4 x4 G4 L4 =>
      oI a4 x4 G4 L4) oX) := hD_eq.trans rfl
set_option maxRecDepth 20000 in
theorem h_161_65 {d x : Nat} {V : pV} {G : sm_G} {L : sm_L} {r1 : Nat} {v6 v8 v9 : Int32} (hr1 : pS r1) : hD d 161 65 [.ref 61, .ref r1, .ref 54, .null, .null, .null, .int v6, .null, .int v8, .int v9] 342 (RR V) x G L =
  if v9 ≤ v6 then
    (sm_aI (sm_cv0 d 159 342 (RR V) [.ref r1, .ref 54, .int (i3 0), .int v8, .int v9] (x, G, L)) (fun a1 x1 G1 L1 =>
      gd (sm_in v9 301) (sm_aI (sm_cv0 d 8 342 (RR V) [.int (a1 &&& (G1 62 v9.toNatClampNeg))] (x1, G1, L1)) (fun a3 x3 G3 L3 =>
        hD d 161 65 [.ref 61, .ref r1, .ref 54, .null, .null, .null, .int v6, .null, .int a3, .int (v9 + (i3 1))] 342 (RR V) x3 G3 L3) oX)) oX)
  else (sm_aI (sm_cv0 d 9 342 (RR V) [.int v8] (x, G, L)) (fun a4 x4 G4 L4 =>
      oI a4 x4 G4 L4) oX) := by
  rw [rh_161_65]
  try simp only [gd_tt, (q_61_0 V), k_61, ldi_e k_62 n_62, n_62]
/-! Ways_lookBack -/
set_option maxRecDepth 20000 in
theorem rm_162 {d x : Nat} {R : sm_R} {G : sm_G} {L : sm_L} {r1 : Nat} {v3 v4 v5 v6 : Int32} : sm_cv0 (d + 1) 162 342 R [.ref 61, .ref r1, .ref 54, .int v3, .int v4, .int v5, .int v6] (x, G, L) =
  ldi (R 54 1) v5 G (fun y1 => gd (sm_is (R 61 0) 342 20) (gd (sm_in v5 (sm_N (R 61 0))) (hD d 162 22 [.ref 61, .ref r1, .ref 54, .null, .int v4, .null, .int v6, .int (v5 - (i3 1))] 342 R x (sm_up G (R 61 0) v5.toNatClampNeg (v3 &&& y1)) L))) := (cv_eq rfl rfl).trans (hD_eq.trans rfl)
set_option maxRecDepth 20000 in
theorem m_162 {d x : Nat} {V : pV} {G : sm_G} {L : sm_L} {r1 : Nat} {v3 v4 v5 v6 : Int32} (hr1 : pS r1) : sm_cv0 (d + 1) 162 342 (RR V) [.ref 61, .ref r1, .ref 54, .int v3, .int v4, .int v5, .int v6] (x, G, L) =
  gd (sm_in v5 301) (gd (sm_in v5 301) (hD d 162 22 [.ref 61, .ref r1, .ref 54, .null, .int v4, .null, .int v6, .int (v5 - (i3 1))] 342 (RR V) x (sm_up G 62 v5.toNatClampNeg (v3 &&& (G 56 v5.toNatClampNeg))) L)) := by
  rw [rm_162]
  try simp only [gd_tt, (q_54_1 V), (q_61_0 V), k_54, k_61, k_62, ldi_e k_56 n_56, n_56, n_62]
set_option maxRecDepth 20000 in
theorem rh_162_22 {d x : Nat} {R : sm_R} {G : sm_G} {L : sm_L} {r1 : Nat} {v4 v6 v7 : Int32} : hD d 162 22 [.ref 61, .ref r1, .ref 54, .null, .int v4, .null, .int v6, .int v7] 342 R x G L =
  if v7 < v6 then
    (oV x G L)
  else (ldi (R 61 0) (v7 + (i3 1)) G (fun y1 => ldi (R 61 0) (v7 + (i3 1)) G (fun y2 => ldi (R 54 2) (v7 + (i3 1)) G (fun y3 => gd (sm_is r1 342 5) (sm_aI (sm_cv0 d 119 342 R [.ref r1, .int y2, .int y3] (x, G, L)) (fun a4 x4 G4 L4 =>
      ldi (R 54 1) v7 G4 (fun y5 => gd (sm_is (R 61 0) 342 20) (gd (sm_in v7 (sm_N (R 61 0))) (hD d 162 22 [.ref 61, .ref r1, .ref 54, .null, .int v4, .null, .int v6, .int (v7 + m1)] 342 R x4 (sm_up G4 (R 61 0) v7.toNatClampNeg (((y1 ||| a4) ||| v4) &&& y5)) L4)))) oX))))) := hD_eq.trans rfl
set_option maxRecDepth 20000 in
theorem h_162_22 {d x : Nat} {V : pV} {G : sm_G} {L : sm_L} {r1 : Nat} {v4 v6 v7 : Int32} (hr1 : pS r1) : hD d 162 22 [.ref 61, .ref r1, .ref 54, .null, .int v4, .null, .int v6, .int v7] 342 (RR V) x G L =
  if v7 < v6 then
    (oV x G L)
  else (gd (sm_in (v7 + (i3 1)) 301) (gd (sm_in (v7 + (i3 1)) 301) (gd (sm_in (v7 + (i3 1)) 301) (sm_aI (sm_cv0 d 119 342 (RR V) [.ref r1, .int (G 62 ((v7 + (i3 1)).toNatClampNeg)), .int (G 57 ((v7 + (i3 1)).toNatClampNeg))] (x, G, L)) (fun a4 x4 G4 L4 =>
      gd (sm_in v7 301) (gd (sm_in v7 301) (hD d 162 22 [.ref 61, .ref r1, .ref 54, .null, .int v4, .null, .int v6, .int (v7 + m1)] 342 (RR V) x4 (sm_up G4 62 v7.toNatClampNeg ((((G 62 ((v7 + (i3 1)).toNatClampNeg)) ||| a4) ||| v4) &&& (G4 56 v7.toNatClampNeg))) L4))) oX)))) := by
  rw [rh_162_22]
  try simp only [gd_tt, (kS_0 hr1), (q_54_1 V), (q_54_2 V), (q_61_0 V), k_54, k_61, k_62, ldi_e k_56 n_56, ldi_e k_57 n_57, ldi_e k_62 n_62, n_56, n_57, n_62]
/-! Ways_lastStart -/
set_option maxRecDepth 20000 in
theorem rm_163 {d x : Nat} {R : sm_R} {G : sm_G} {L : sm_L} {r1 : Nat} {v3 v4 v5 : Int32} : sm_cv0 (d + 1) 163 342 R [.ref 61, .ref r1, .ref 54, .int v3, .int v4, .int v5] (x, G, L) =
  sm_aV (sm_cv0 d 162 342 R [.ref 61, .ref r1, .ref 54, .int (shl (i3 1) v4), .int (shl (i3 1) v4), .int v5, .int (i3 0)] (x, G, L)) (fun x1 G1 L1 =>
    hD d 163 21 [.ref 61, .null, .null, .int v3, .null, .null, .int v5] 342 R x1 G1 L1) oX := (cv_eq rfl rfl).trans (hD_eq.trans rfl)
set_option maxRecDepth 20000 in
theorem m_163 {d x : Nat} {V : pV} {G : sm_G} {L : sm_L} {r1 : Nat} {v3 v4 v5 : Int32} (hr1 : pS r1) : sm_cv0 (d + 1) 163 342 (RR V) [.ref 61, .ref r1, .ref 54, .int v3, .int v4, .int v5] (x, G, L) =
  sm_aV (sm_cv0 d 162 342 (RR V) [.ref 61, .ref r1, .ref 54, .int (shl (i3 1) v4), .int (shl (i3 1) v4), .int v5, .int (i3 0)] (x, G, L)) (fun x1 G1 L1 =>
    hD d 163 21 [.ref 61, .null, .null, .int v3, .null, .null, .int v5] 342 (RR V) x1 G1 L1) oX := by
  rw [rm_163]
  try simp only [gd_tt, k_61]
set_option maxRecDepth 20000 in
theorem rh_163_21 {d x : Nat} {R : sm_R} {G : sm_G} {L : sm_L} {v3 v6 : Int32} : hD d 163 21 [.ref 61, .null, .null, .int v3, .null, .null, .int v6] 342 R x G L =
  if v6 < (i3 0) then
    (oI m1 x G L)
  else (ldi (R 61 0) v6 G (fun y1 => if ((shr y1 v3) &&& (i3 1)) = (i3 0) then
      (hD d 163 21 [.ref 61, .null, .null, .int v3, .null, .null, .int (v6 + m1)] 342 R x G L)
    else (oI v6 x G L))) := hD_eq.trans rfl
set_option maxRecDepth 20000 in
theorem h_163_21 {d x : Nat} {V : pV} {G : sm_G} {L : sm_L} {v3 v6 : Int32} : hD d 163 21 [.ref 61, .null, .null, .int v3, .null, .null, .int v6] 342 (RR V) x G L =
  if v6 < (i3 0) then
    (oI m1 x G L)
  else (gd (sm_in v6 301) (if ((shr (G 62 v6.toNatClampNeg) v3) &&& (i3 1)) = (i3 0) then
      (hD d 163 21 [.ref 61, .null, .null, .int v3, .null, .null, .int (v6 + m1)] 342 (RR V) x G L)
    else (oI v6 x G L))) := by
  rw [rh_163_21]
  try simp only [gd_tt, (q_61_0 V), k_61, ldi_e k_62 n_62, n_62]
/-! Ways_leastSet -/
set_option maxRecDepth 20000 in
theorem rm_164 {d x : Nat} {R : sm_R} {G : sm_G} {L : sm_L} {r1 : Nat} {v3 v4 v5 v6 : Int32} : sm_cv0 (d + 1) 164 342 R [.ref 61, .ref r1, .ref 54, .int v3, .int v4, .int v5, .int v6] (x, G, L) =
  gd (sm_is r1 342 5) (sm_aI (sm_cv0 d 165 342 R [.ref 61, .ref r1, .ref 54, .int ((shl (i3 1) (G r1 9)) - (i3 1)), .int v3, .int v4, .int v5, .int v6] (x, G, L)) (fun a1 x1 G1 L1 =>
    if a1 = (i3 0) then
      (oI m1 x1 G1 L1)
    else (hD d 164 37 [.ref 61, .ref r1, .ref 54, .int v3, .int v4, .int v5, .int v6, .int ((shl (i3 1) (G r1 9)) - (i3 1)), .int ((shl (i3 1) (G r1 9)) - (i3 1)), .int (i3 0)] 342 R x1 G1 L1)) oX) := (cv_eq rfl rfl).trans (hD_eq.trans rfl)
set_option maxRecDepth 20000 in
theorem m_164 {d x : Nat} {V : pV} {G : sm_G} {L : sm_L} {r1 : Nat} {v3 v4 v5 v6 : Int32} (hr1 : pS r1) : sm_cv0 (d + 1) 164 342 (RR V) [.ref 61, .ref r1, .ref 54, .int v3, .int v4, .int v5, .int v6] (x, G, L) =
  sm_aI (sm_cv0 d 165 342 (RR V) [.ref 61, .ref r1, .ref 54, .int ((shl (i3 1) (G r1 9)) - (i3 1)), .int v3, .int v4, .int v5, .int v6] (x, G, L)) (fun a1 x1 G1 L1 =>
    if a1 = (i3 0) then
      (oI m1 x1 G1 L1)
    else (hD d 164 37 [.ref 61, .ref r1, .ref 54, .int v3, .int v4, .int v5, .int v6, .int ((shl (i3 1) (G r1 9)) - (i3 1)), .int ((shl (i3 1) (G r1 9)) - (i3 1)), .int (i3 0)] 342 (RR V) x1 G1 L1)) oX := by
  rw [rm_164]
  try simp only [gd_tt, (kS_0 hr1), k_61]
set_option maxRecDepth 20000 in
theorem rh_164_37 {d x : Nat} {R : sm_R} {G : sm_G} {L : sm_L} {r1 : Nat} {v3 v4 v5 v6 v7 v8 v9 : Int32} : hD d 164 37 [.ref 61, .ref r1, .ref 54, .int v3, .int v4, .int v5, .int v6, .int v7, .int v8, .int v9] 342 R x G L =
  if v9 < v7 then
    (gd (sm_is r1 342 5) (gd (sm_is (R r1 0) 342 3) (gd (sm_is r1 342 5) (gd (sm_is (R r1 0) 342 3) (if (v9 &&& (G (R r1 0) 9)) = (G (R r1 0) 9) then
      (sm_aI (sm_cv0 d 7 342 R [.int v9] (x, G, L)) (fun a1 x1 G1 L1 =>
        sm_aI (sm_cv0 d 7 342 R [.int v8] (x1, G1, L1)) (fun a2 x2 G2 L2 =>
          if a1 < a2 then
            (sm_aI (sm_cv0 d 165 342 R [.ref 61, .ref r1, .ref 54, .int v9, .int v3, .int v4, .int v5, .int v6] (x2, G2, L2)) (fun a3 x3 G3 L3 =>
              if a3 = (i3 0) then
                (hD d 164 37 [.ref 61, .ref r1, .ref 54, .int v3, .int v4, .int v5, .int v6, .int v7, .int v8, .int (v9 + (i3 1))] 342 R x3 G3 L3)
              else (hD d 164 37 [.ref 61, .ref r1, .ref 54, .int v3, .int v4, .int v5, .int v6, .int v7, .int v9, .int (v9 + (i3 1))] 342 R x3 G3 L3)) oX)
          else (hD d 164 37 [.ref 61, .ref r1, .ref 54, .int v3, .int v4, .int v5, .int v6, .int v7, .int v8, .int (v9 + (i3 1))] 342 R x2 G2 L2)) oX) oX)
    else (hD d 164 37 [.ref 61, .ref r1, .ref 54, .int v3, .int v4, .int v5, .int v6, .int v7, .int v8, .int (v9 + (i3 1))] 342 R x G L))))))
  else (oI v8 x G L) := hD_eq.trans rfl
set_option maxRecDepth 20000 in
theorem h_164_37 {d x : Nat} {V : pV} {G : sm_G} {L : sm_L} {r1 : Nat} {v3 v4 v5 v6 v7 v8 v9 : Int32} (hr1 : pS r1) : hD d 164 37 [.ref 61, .ref r1, .ref 54, .int v3, .int v4, .int v5, .int v6, .int v7, .int v8, .int v9] 342 (RR V) x G L =
  if v9 < v7 then
    (if (v9 &&& (G (r1 + 1) 9)) = (G (r1 + 1) 9) then
      (sm_aI (sm_cv0 d 7 342 (RR V) [.int v9] (x, G, L)) (fun a1 x1 G1 L1 =>
        sm_aI (sm_cv0 d 7 342 (RR V) [.int v8] (x1, G1, L1)) (fun a2 x2 G2 L2 =>
          if a1 < a2 then
            (sm_aI (sm_cv0 d 165 342 (RR V) [.ref 61, .ref r1, .ref 54, .int v9, .int v3, .int v4, .int v5, .int v6] (x2, G2, L2)) (fun a3 x3 G3 L3 =>
              if a3 = (i3 0) then
                (hD d 164 37 [.ref 61, .ref r1, .ref 54, .int v3, .int v4, .int v5, .int v6, .int v7, .int v8, .int (v9 + (i3 1))] 342 (RR V) x3 G3 L3)
              else (hD d 164 37 [.ref 61, .ref r1, .ref 54, .int v3, .int v4, .int v5, .int v6, .int v7, .int v9, .int (v9 + (i3 1))] 342 (RR V) x3 G3 L3)) oX)
          else (hD d 164 37 [.ref 61, .ref r1, .ref 54, .int v3, .int v4, .int v5, .int v6, .int v7, .int v8, .int (v9 + (i3 1))] 342 (RR V) x2 G2 L2)) oX) oX)
    else (hD d 164 37 [.ref 61, .ref r1, .ref 54, .int v3, .int v4, .int v5, .int v6, .int v7, .int v8, .int (v9 + (i3 1))] 342 (RR V) x G L))
  else (oI v8 x G L) := by
  rw [rh_164_37]
  try simp only [gd_tt, (fS_0_0 V hr1), (kS_0 hr1), (kS_1 hr1), k_61]
/-! Ways_works -/
set_option maxRecDepth 20000 in
theorem rm_165 {d x : Nat} {R : sm_R} {G : sm_G} {L : sm_L} {r1 : Nat} {v3 v4 v5 v6 v7 : Int32} : sm_cv0 (d + 1) 165 342 R [.ref 61, .ref r1, .ref 54, .int v3, .int v4, .int v5, .int v6, .int v7] (x, G, L) =
  gd (sm_is r1 342 5) (sm_aI (sm_cv0 d 118 342 R [.ref r1, .int v3] (x, G, L)) (fun a1 x1 G1 L1 =>
    if v7 = (i3 0) then
      (sm_aI (sm_cv0 d 160 342 R [.ref 61, .ref r1, .ref 54, .int a1, .int v4, .int v6, .int v5] (x1, G1, L1)) (fun a2 x2 G2 L2 =>
        if a2 = m1 then
          (oI (i3 0) x2 G2 L2)
        else (oI (i3 1) x2 G2 L2)) oX)
    else (sm_aI (sm_cv0 d 166 342 R [.ref 61, .ref r1, .ref 54, .int a1, .int v4, .int v5, .int v6] (x1, G1, L1)) (fun a3 x3 G3 L3 =>
        if a3 = m1 then
          (oI (i3 0) x3 G3 L3)
        else (oI (i3 1) x3 G3 L3)) oX)) oX) := (cv_eq rfl rfl).trans (hD_eq.trans rfl)
set_option maxRecDepth 20000 in
theorem m_165 {d x : Nat} {V : pV} {G : sm_G} {L : sm_L} {r1 : Nat} {v3 v4 v5 v6 v7 : Int32} (hr1 : pS r1) : sm_cv0 (d + 1) 165 342 (RR V) [.ref 61, .ref r1, .ref 54, .int v3, .int v4, .int v5, .int v6, .int v7] (x, G, L) =
  sm_aI (sm_cv0 d 118 342 (RR V) [.ref r1, .int v3] (x, G, L)) (fun a1 x1 G1 L1 =>
    if v7 = (i3 0) then
      (sm_aI (sm_cv0 d 160 342 (RR V) [.ref 61, .ref r1, .ref 54, .int a1, .int v4, .int v6, .int v5] (x1, G1, L1)) (fun a2 x2 G2 L2 =>
        if a2 = m1 then
          (oI (i3 0) x2 G2 L2)
        else (oI (i3 1) x2 G2 L2)) oX)
    else (sm_aI (sm_cv0 d 166 342 (RR V) [.ref 61, .ref r1, .ref 54, .int a1, .int v4, .int v5, .int v6] (x1, G1, L1)) (fun a3 x3 G3 L3 =>
        if a3 = m1 then
          (oI (i3 0) x3 G3 L3)
        else (oI (i3 1) x3 G3 L3)) oX)) oX := by
  rw [rm_165]
  try simp only [gd_tt, (kS_0 hr1), k_61]
/-! Ways_together -/
set_option maxRecDepth 20000 in
theorem rm_166 {d x : Nat} {R : sm_R} {G : sm_G} {L : sm_L} {r1 : Nat} {v3 v4 v5 v6 : Int32} : sm_cv0 (d + 1) 166 342 R [.ref 61, .ref r1, .ref 54, .int v3, .int v4, .int v5, .int v6] (x, G, L) =
  sm_aI (sm_cv0 d 158 342 R [.ref 54, .int v3, .int v4, .int v6] (x, G, L)) (fun a1 x1 G1 L1 =>
    sm_aI (sm_cv0 d 158 342 R [.ref 54, .int v3, .int v5, .int v6] (x1, G1, L1)) (fun a2 x2 G2 L2 =>
      hD d 166 26 [.null, .ref r1, .ref 54, .int v3, .null, .null, .int v6, .int a1, .int a2, .int v6] 342 R x2 G2 L2) oX) oX := (cv_eq rfl rfl).trans (hD_eq.trans rfl)
theorem m_166 {d x : Nat} {V : pV} {G : sm_G} {L : sm_L} {r1 : Nat} {v3 v4 v5 v6 : Int32} (hr1 : pS r1) : sm_cv0 (d + 1) 166 342 (RR V) [.ref 61, .ref r1, .ref 54, .int v3, .int v4, .int v5, .int v6] (x, G, L) =
  sm_aI (sm_cv0 d 158 342 (RR V) [.ref 54, .int v3, .int v4, .int v6] (x, G, L)) (fun a1 x1 G1 L1 =>
    sm_aI (sm_cv0 d 158 342 (RR V) [.ref 54, .int v3, .int v5, .int v6] (x1, G1, L1)) (fun a2 x2 G2 L2 =>
      hD d 166 26 [.null, .ref r1, .ref 54, .int v3, .null, .null, .int v6, .int a1, .int a2, .int v6] 342 (RR V) x2 G2 L2) oX) oX := rm_166
set_option maxRecDepth 20000 in
theorem rh_166_26 {d x : Nat} {R : sm_R} {G : sm_G} {L : sm_L} {r1 : Nat} {v3 v6 v7 v8 v9 : Int32} : hD d 166 26 [.null, .ref r1, .ref 54, .int v3, .null, .null, .int v6, .int v7, .int v8, .int v9] 342 R x G L =
  if v9 ≤ (i3 300) then
    (if v7 = (i3 0) then
      (oI m1 x G L)
    else (if v8 = (i3 0) then
        (oI m1 x G L)
      else (if v9 ≤ v6 then
          (if (v7 &&& v8) = (i3 0) then
            (hD d 166 89 [.null, .ref r1, .ref 54, .int v3, .null, .null, .int v6, .int v7, .int v8, .int (v9 + (i3 1))] 342 R x G L)
          else (oI v9 x G L))
        else (sm_aI (sm_cv0 d 159 342 R [.ref r1, .ref 54, .int v3, .int v7, .int v9] (x, G, L)) (fun a1 x1 G1 L1 =>
            sm_aI (sm_cv0 d 159 342 R [.ref r1, .ref 54, .int v3, .int v8, .int v9] (x1, G1, L1)) (fun a2 x2 G2 L2 =>
              if (a1 &&& a2) = (i3 0) then
                (hD d 166 89 [.null, .ref r1, .ref 54, .int v3, .null, .null, .int v6, .int a1, .int a2, .int (v9 + (i3 1))] 342 R x2 G2 L2)
              else (oI v9 x2 G2 L2)) oX) oX))))
  else (oI m1 x G L) := hD_eq.trans rfl
theorem h_166_26 {d x : Nat} {V : pV} {G : sm_G} {L : sm_L} {r1 : Nat} {v3 v6 v7 v8 v9 : Int32} (hr1 : pS r1) : hD d 166 26 [.null, .ref r1, .ref 54, .int v3, .null, .null, .int v6, .int v7, .int v8, .int v9] 342 (RR V) x G L =
  if v9 ≤ (i3 300) then
    (if v7 = (i3 0) then
      (oI m1 x G L)
    else (if v8 = (i3 0) then
        (oI m1 x G L)
      else (if v9 ≤ v6 then
          (if (v7 &&& v8) = (i3 0) then
            (hD d 166 89 [.null, .ref r1, .ref 54, .int v3, .null, .null, .int v6, .int v7, .int v8, .int (v9 + (i3 1))] 342 (RR V) x G L)
          else (oI v9 x G L))
        else (sm_aI (sm_cv0 d 159 342 (RR V) [.ref r1, .ref 54, .int v3, .int v7, .int v9] (x, G, L)) (fun a1 x1 G1 L1 =>
            sm_aI (sm_cv0 d 159 342 (RR V) [.ref r1, .ref 54, .int v3, .int v8, .int v9] (x1, G1, L1)) (fun a2 x2 G2 L2 =>
              if (a1 &&& a2) = (i3 0) then
                (hD d 166 89 [.null, .ref r1, .ref 54, .int v3, .null, .null, .int v6, .int a1, .int a2, .int (v9 + (i3 1))] 342 (RR V) x2 G2 L2)
              else (oI v9 x2 G2 L2)) oX) oX))))
  else (oI m1 x G L) := rh_166_26
set_option maxRecDepth 20000 in
theorem rh_166_89 {d x : Nat} {R : sm_R} {G : sm_G} {L : sm_L} {r1 : Nat} {v3 v6 v7 v8 v9 : Int32} : hD d 166 89 [.null, .ref r1, .ref 54, .int v3, .null, .null, .int v6, .int v7, .int v8, .int v9] 342 R x G L =
  hD d 166 26 [.null, .ref r1, .ref 54, .int v3, .null, .null, .int v6, .int v7, .int v8, .int v9] 342 R x G L := hD_eq.trans rfl
theorem h_166_89 {d x : Nat} {V : pV} {G : sm_G} {L : sm_L} {r1 : Nat} {v3 v6 v7 v8 v9 : Int32} (hr1 : pS r1) : hD d 166 89 [.null, .ref r1, .ref 54, .int v3, .null, .null, .int v6, .int v7, .int v8, .int v9] 342 (RR V) x G L =
  hD d 166 26 [.null, .ref r1, .ref 54, .int v3, .null, .null, .int v6, .int v7, .int v8, .int v9] 342 (RR V) x G L := rh_166_89
/-! Ways_reached -/
set_option maxRecDepth 20000 in
theorem rm_167 {d x : Nat} {R : sm_R} {G : sm_G} {L : sm_L} {r1 : Nat} {v3 v4 v5 : Int32} : sm_cv0 (d + 1) 167 342 R [.ref 61, .ref r1, .ref 54, .int v3, .int v4, .int v5] (x, G, L) =
  sm_aI (sm_cv0 d 158 342 R [.ref 54, .int (i3 0), .int v3, .int v4] (x, G, L)) (fun a1 x1 G1 L1 =>
    hD d 167 16 [.null, .ref r1, .ref 54, .null, .null, .int v5, .int a1, .int (v4 + (i3 1))] 342 R x1 G1 L1) oX := (cv_eq rfl rfl).trans (hD_eq.trans rfl)
theorem m_167 {d x : Nat} {V : pV} {G : sm_G} {L : sm_L} {r1 : Nat} {v3 v4 v5 : Int32} (hr1 : pS r1) : sm_cv0 (d + 1) 167 342 (RR V) [.ref 61, .ref r1, .ref 54, .int v3, .int v4, .int v5] (x, G, L) =
  sm_aI (sm_cv0 d 158 342 (RR V) [.ref 54, .int (i3 0), .int v3, .int v4] (x, G, L)) (fun a1 x1 G1 L1 =>
    hD d 167 16 [.null, .ref r1, .ref 54, .null, .null, .int v5, .int a1, .int (v4 + (i3 1))] 342 (RR V) x1 G1 L1) oX := rm_167
set_option maxRecDepth 20000 in
theorem rh_167_16 {d x : Nat} {R : sm_R} {G : sm_G} {L : sm_L} {r1 : Nat} {v5 v6 v7 : Int32} : hD d 167 16 [.null, .ref r1, .ref 54, .null, .null, .int v5, .int v6, .int v7] 342 R x G L =
  if v7 ≤ v5 then
    (sm_aI (sm_cv0 d 159 342 R [.ref r1, .ref 54, .int (i3 0), .int v6, .int v7] (x, G, L)) (fun a1 x1 G1 L1 =>
      hD d 167 16 [.null, .ref r1, .ref 54, .null, .null, .int v5, .int a1, .int (v7 + (i3 1))] 342 R x1 G1 L1) oX)
  else (oI v6 x G L) := hD_eq.trans rfl
theorem h_167_16 {d x : Nat} {V : pV} {G : sm_G} {L : sm_L} {r1 : Nat} {v5 v6 v7 : Int32} (hr1 : pS r1) : hD d 167 16 [.null, .ref r1, .ref 54, .null, .null, .int v5, .int v6, .int v7] 342 (RR V) x G L =
  if v7 ≤ v5 then
    (sm_aI (sm_cv0 d 159 342 (RR V) [.ref r1, .ref 54, .int (i3 0), .int v6, .int v7] (x, G, L)) (fun a1 x1 G1 L1 =>
      hD d 167 16 [.null, .ref r1, .ref 54, .null, .null, .int v5, .int a1, .int (v7 + (i3 1))] 342 (RR V) x1 G1 L1) oX)
  else (oI v6 x G L) := rh_167_16
/-! Ways_strandedIn -/
set_option maxRecDepth 20000 in
theorem rm_168 {d x : Nat} {R : sm_R} {G : sm_G} {L : sm_L} {r1 : Nat} {v3 : Int32} : sm_cv0 (d + 1) 168 342 R [.ref 61, .ref r1, .ref 54, .int v3] (x, G, L) =
  ldi (R 54 1) (i3 300) G (fun y1 => sm_aV (sm_cv0 d 162 342 R [.ref 61, .ref r1, .ref 54, .int y1, .int (i3 0), .int (i3 300), .int v3] (x, G, L)) (fun x2 G2 L2 =>
    ldi (R 54 1) v3 G2 (fun y3 => ldi (R 61 0) v3 G2 (fun y4 => oI (y3 &&& (y4 ^^^ m1)) x2 G2 L2))) oX) := (cv_eq rfl rfl).trans (hD_eq.trans rfl)
set_option maxRecDepth 20000 in
theorem m_168 {d x : Nat} {V : pV} {G : sm_G} {L : sm_L} {r1 : Nat} {v3 : Int32} (hr1 : pS r1) : sm_cv0 (d + 1) 168 342 (RR V) [.ref 61, .ref r1, .ref 54, .int v3] (x, G, L) =
  sm_aV (sm_cv0 d 162 342 (RR V) [.ref 61, .ref r1, .ref 54, .int (G 56 300), .int (i3 0), .int (i3 300), .int v3] (x, G, L)) (fun x2 G2 L2 =>
    gd (sm_in v3 301) (gd (sm_in v3 301) (oI ((G2 56 v3.toNatClampNeg) &&& ((G2 62 v3.toNatClampNeg) ^^^ m1)) x2 G2 L2))) oX := by
  rw [rm_168]
  try simp only [gd_tt, (q_54_1 V), (q_61_0 V), cl_300, inl_300_301, k_54, k_61, ldi_e k_56 n_56, ldi_e k_62 n_62, n_56, n_62]
/-! Will_clear -/
set_option maxRecDepth 20000 in
theorem rm_169 {d x : Nat} {R : sm_R} {G : sm_G} {L : sm_L} {r0 : Nat} : sm_cv0 (d + 1) 169 342 R [.ref r0] (x, G, L) =
  gd (sm_is r0 342 10) (gd (sm_is r0 342 10) (oV x (sm_up (sm_up G r0 4 (i3 0)) r0 5 (i3 0)) L)) := (cv_eq rfl rfl).trans (hD_eq.trans rfl)
set_option maxRecDepth 20000 in
theorem m_169 {d x : Nat} {V : pV} {G : sm_G} {L : sm_L} {r0 : Nat} (hr0 : pW r0) : sm_cv0 (d + 1) 169 342 (RR V) [.ref r0] (x, G, L) =
  oV x (sm_up (sm_up G r0 4 (i3 0)) r0 5 (i3 0)) L := by
  rw [rm_169]
  try simp only [gd_tt, (kW_0 hr0)]
/-! Will_read -/
set_option maxRecDepth 20000 in
theorem rm_170 {d x : Nat} {R : sm_R} {G : sm_G} {L : sm_L} {r0 : Nat} {v2 v3 : Int32} : sm_cv0 (d + 1) 170 342 R [.ref r0, .ref 2, .int v2, .int v3] (x, G, L) =
  gd (sm_is r0 342 10) (sm_aV (sm_cv0 d 169 342 R [.ref r0] (x, G, L)) (fun x1 G1 L1 =>
    gd (sm_is r0 342 10) (gd (sm_is r0 342 10) (hD d 170 17 [.ref r0, .ref 2, .null, .null, .int (i3 0)] 342 R x1 (sm_up (sm_up G1 r0 6 v2) r0 7 v3) L1))) oX) := (cv_eq rfl rfl).trans (hD_eq.trans rfl)
set_option maxRecDepth 20000 in
theorem m_170 {d x : Nat} {V : pV} {G : sm_G} {L : sm_L} {r0 : Nat} {v2 v3 : Int32} (hr0 : pW r0) : sm_cv0 (d + 1) 170 342 (RR V) [.ref r0, .ref 2, .int v2, .int v3] (x, G, L) =
  sm_aV (sm_cv0 d 169 342 (RR V) [.ref r0] (x, G, L)) (fun x1 G1 L1 =>
    hD d 170 17 [.ref r0, .ref 2, .null, .null, .int (i3 0)] 342 (RR V) x1 (sm_up (sm_up G1 r0 6 v2) r0 7 v3) L1) oX := by
  rw [rm_170]
  try simp only [gd_tt, (kW_0 hr0)]
set_option maxRecDepth 20000 in
theorem rh_170_17 {d x : Nat} {R : sm_R} {G : sm_G} {L : sm_L} {r0 : Nat} {v4 : Int32} : hD d 170 17 [.ref r0, .ref 2, .null, .null, .int v4] 342 R x G L =
  if v4 < (i3 150) then
    (sm_aI (sm_cv0 d 135 342 R [.ref 2] (x, G, L)) (fun a1 x1 G1 L1 =>
      if a1 = (i3 0) then
        (sm_aI (sm_cv0 d 136 342 R [.ref 2] (x1, G1, L1)) (fun a2 x2 G2 L2 =>
          if a2 = (i3 0) then
            (gd (sm_is r0 342 10) (sm_aV (sm_cv0 d 171 342 R [.ref r0, .ref 2, .int (i3 0)] (x2, G2, L2)) (fun x3 G3 L3 =>
              hD d 170 17 [.ref r0, .ref 2, .null, .null, .int (v4 + (i3 1))] 342 R x3 G3 L3) oX))
          else (oV x2 G2 L2)) oX)
      else (oV x1 G1 L1)) oX)
  else (oV x G L) := hD_eq.trans rfl
set_option maxRecDepth 20000 in
theorem h_170_17 {d x : Nat} {V : pV} {G : sm_G} {L : sm_L} {r0 : Nat} {v4 : Int32} (hr0 : pW r0) : hD d 170 17 [.ref r0, .ref 2, .null, .null, .int v4] 342 (RR V) x G L =
  if v4 < (i3 150) then
    (sm_aI (sm_cv0 d 135 342 (RR V) [.ref 2] (x, G, L)) (fun a1 x1 G1 L1 =>
      if a1 = (i3 0) then
        (sm_aI (sm_cv0 d 136 342 (RR V) [.ref 2] (x1, G1, L1)) (fun a2 x2 G2 L2 =>
          if a2 = (i3 0) then
            (sm_aV (sm_cv0 d 171 342 (RR V) [.ref r0, .ref 2, .int (i3 0)] (x2, G2, L2)) (fun x3 G3 L3 =>
              hD d 170 17 [.ref r0, .ref 2, .null, .null, .int (v4 + (i3 1))] 342 (RR V) x3 G3 L3) oX)
          else (oV x2 G2 L2)) oX)
      else (oV x1 G1 L1)) oX)
  else (oV x G L) := by
  rw [rh_170_17]
  try simp only [gd_tt, (kW_0 hr0), k_2]
