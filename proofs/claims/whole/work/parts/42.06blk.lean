/-! block equations, by the program wip/gen/gen4.py -/
/-! M_stranded -/
set_option maxRecDepth 20000 in
theorem rm_321 {d x : Nat} {R : sm_R} {G : sm_G} {L : sm_L} {v1 : Int32} : sm_cv0 (d + 1) 321 342 R [.ref 156, .int v1] (x, G, L) =
  sm_aI (sm_cv0 d 253 342 R [.int v1] (x, sm_up G 156 0 (i3 0), L)) (fun a1 x1 G1 L1 =>
    if a1 = (i3 0) then
      (sm_aI (sm_cv0 d 219 342 R [.ref 156, .int (i3 1), .int (i3 1), .int (i3 2)] (x1, G1, L1)) (fun a2 x2 G2 L2 =>
        if a2 = (i3 0) then
          (sm_aV (sm_cv0 d 257 342 R [.ref 156] (x2, G2, L2)) (fun x3 G3 L3 =>
            hD d 321 36 [.ref 156, .int v1, .int (i3 0), .int (i3 0)] 342 R x3 G3 L3) oX)
        else (oI (i3 0) x2 G2 L2)) oX)
    else (sm_aI (sm_cv0 d 219 342 R [.ref 156, .int (i3 0), .int (i3 1), .int (i3 2)] (x1, G1, L1)) (fun a4 x4 G4 L4 =>
        if a4 = (i3 0) then
          (sm_aV (sm_cv0 d 257 342 R [.ref 156] (x4, G4, L4)) (fun x5 G5 L5 =>
            hD d 321 36 [.ref 156, .int v1, .int (i3 0), .int (i3 0)] 342 R x5 G5 L5) oX)
        else (oI (i3 0) x4 G4 L4)) oX)) oX := (cv_eq rfl rfl).trans (hD_eq.trans rfl)
set_option maxRecDepth 20000 in
theorem m_321 {d x : Nat} {V : pV} {G : sm_G} {L : sm_L} {v1 : Int32} : sm_cv0 (d + 1) 321 342 (RR V) [.ref 156, .int v1] (x, G, L) =
  sm_aI (sm_cv0 d 253 342 (RR V) [.int v1] (x, sm_up G 156 0 (i3 0), L)) (fun a1 x1 G1 L1 =>
    if a1 = (i3 0) then
      (sm_aI (sm_cv0 d 219 342 (RR V) [.ref 156, .int (i3 1), .int (i3 1), .int (i3 2)] (x1, G1, L1)) (fun a2 x2 G2 L2 =>
        if a2 = (i3 0) then
          (sm_aV (sm_cv0 d 257 342 (RR V) [.ref 156] (x2, G2, L2)) (fun x3 G3 L3 =>
            hD d 321 36 [.ref 156, .int v1, .int (i3 0), .int (i3 0)] 342 (RR V) x3 G3 L3) oX)
        else (oI (i3 0) x2 G2 L2)) oX)
    else (sm_aI (sm_cv0 d 219 342 (RR V) [.ref 156, .int (i3 0), .int (i3 1), .int (i3 2)] (x1, G1, L1)) (fun a4 x4 G4 L4 =>
        if a4 = (i3 0) then
          (sm_aV (sm_cv0 d 257 342 (RR V) [.ref 156] (x4, G4, L4)) (fun x5 G5 L5 =>
            hD d 321 36 [.ref 156, .int v1, .int (i3 0), .int (i3 0)] 342 (RR V) x5 G5 L5) oX)
        else (oI (i3 0) x4 G4 L4)) oX)) oX := by
  rw [rm_321]
  try simp only [gd_tt, k_156]
set_option maxRecDepth 20000 in
theorem rh_321_36 {d x : Nat} {R : sm_R} {G : sm_G} {L : sm_L} {v1 v2 v3 : Int32} : hD d 321 36 [.ref 156, .int v1, .int v2, .int v3] 342 R x G L =
  ldi (R 156 12) (i3 0) G (fun y1 => if v3 < y1 then
    (ldi (R 156 44) v1 G (fun y2 => if ((shr y2 v3) &&& (i3 1)) = (i3 1) then
      (sm_aI (sm_cv0 d 312 342 R [.ref 156, .int (shl (i3 1) v3), .int v1, .int (i3 300)] (x, G, L)) (fun a3 x3 G3 L3 =>
        if a3 = (i3 0) then
          (hD d 321 36 [.ref 156, .int v1, .int (v2 ||| (shl (i3 1) v3)), .int (v3 + (i3 1))] 342 R x3 G3 L3)
        else (hD d 321 36 [.ref 156, .int v1, .int (v2 ||| (i3 0)), .int (v3 + (i3 1))] 342 R x3 G3 L3)) oX)
    else (hD d 321 36 [.ref 156, .int v1, .int (v2 ||| (i3 0)), .int (v3 + (i3 1))] 342 R x G L)))
  else (oI v2 x G L)) := hD_eq.trans rfl
set_option maxRecDepth 20000 in
theorem h_321_36 {d x : Nat} {V : pV} {G : sm_G} {L : sm_L} {v1 v2 v3 : Int32} : hD d 321 36 [.ref 156, .int v1, .int v2, .int v3] 342 (RR V) x G L =
  if v3 < (G 160 0) then
    (gd (sm_in v1 301) (if ((shr (G 307 v1.toNatClampNeg) v3) &&& (i3 1)) = (i3 1) then
      (sm_aI (sm_cv0 d 312 342 (RR V) [.ref 156, .int (shl (i3 1) v3), .int v1, .int (i3 300)] (x, G, L)) (fun a3 x3 G3 L3 =>
        if a3 = (i3 0) then
          (hD d 321 36 [.ref 156, .int v1, .int (v2 ||| (shl (i3 1) v3)), .int (v3 + (i3 1))] 342 (RR V) x3 G3 L3)
        else (hD d 321 36 [.ref 156, .int v1, .int (v2 ||| (i3 0)), .int (v3 + (i3 1))] 342 (RR V) x3 G3 L3)) oX)
    else (hD d 321 36 [.ref 156, .int v1, .int (v2 ||| (i3 0)), .int (v3 + (i3 1))] 342 (RR V) x G L)))
  else (oI v2 x G L) := by
  rw [rh_321_36]
  try simp only [gd_tt, (q_156_12 V), (q_156_44 V), cl_0, inl_0_6, k_156, ldi_e k_160 n_160, ldi_e k_307 n_307, n_160, n_307]
/-! M_make -/
set_option maxRecDepth 20000 in
theorem rm_322 {d x : Nat} {R : sm_R} {G : sm_G} {L : sm_L} {v1 v2 : Int32} : sm_cv0 (d + 1) 322 342 R [.ref 156, .int v1, .int v2] (x, G, L) =
  sm_aI (sm_cv0 d 253 342 R [.int v1] (x, sm_up G 156 0 (i3 0), L)) (fun a1 x1 G1 L1 =>
    if a1 = (i3 0) then
      (sm_aI (sm_cv0 d 219 342 R [.ref 156, .int (i3 1), .int (i3 1), .int (i3 2)] (x1, G1, L1)) (fun a2 x2 G2 L2 =>
        if a2 = (i3 0) then
          (hD d 322 37 [.ref 156, .int v1, .int v2] 342 R x2 G2 L2)
        else (oI (i3 0) x2 G2 L2)) oX)
    else (sm_aI (sm_cv0 d 218 342 R [.int v2, .int (i3 0), .int (i3 5)] (x1, G1, L1)) (fun a3 x3 G3 L3 =>
        if a3 = (i3 0) then
          (sm_aI (sm_cv0 d 219 342 R [.ref 156, .int (i3 1), .int (i3 1), .int (i3 2)] (x3, G3, L3)) (fun a4 x4 G4 L4 =>
            if a4 = (i3 0) then
              (hD d 322 37 [.ref 156, .int v1, .int v2] 342 R x4 G4 L4)
            else (oI (i3 0) x4 G4 L4)) oX)
        else (sm_aI (sm_cv0 d 219 342 R [.ref 156, .int (i3 0), .int (i3 1), .int (i3 2)] (x3, G3, L3)) (fun a5 x5 G5 L5 =>
            if a5 = (i3 0) then
              (hD d 322 37 [.ref 156, .int v1, .int v2] 342 R x5 G5 L5)
            else (oI (i3 0) x5 G5 L5)) oX)) oX)) oX := (cv_eq rfl rfl).trans (hD_eq.trans rfl)
set_option maxRecDepth 20000 in
theorem m_322 {d x : Nat} {V : pV} {G : sm_G} {L : sm_L} {v1 v2 : Int32} : sm_cv0 (d + 1) 322 342 (RR V) [.ref 156, .int v1, .int v2] (x, G, L) =
  sm_aI (sm_cv0 d 253 342 (RR V) [.int v1] (x, sm_up G 156 0 (i3 0), L)) (fun a1 x1 G1 L1 =>
    if a1 = (i3 0) then
      (sm_aI (sm_cv0 d 219 342 (RR V) [.ref 156, .int (i3 1), .int (i3 1), .int (i3 2)] (x1, G1, L1)) (fun a2 x2 G2 L2 =>
        if a2 = (i3 0) then
          (hD d 322 37 [.ref 156, .int v1, .int v2] 342 (RR V) x2 G2 L2)
        else (oI (i3 0) x2 G2 L2)) oX)
    else (sm_aI (sm_cv0 d 218 342 (RR V) [.int v2, .int (i3 0), .int (i3 5)] (x1, G1, L1)) (fun a3 x3 G3 L3 =>
        if a3 = (i3 0) then
          (sm_aI (sm_cv0 d 219 342 (RR V) [.ref 156, .int (i3 1), .int (i3 1), .int (i3 2)] (x3, G3, L3)) (fun a4 x4 G4 L4 =>
            if a4 = (i3 0) then
              (hD d 322 37 [.ref 156, .int v1, .int v2] 342 (RR V) x4 G4 L4)
            else (oI (i3 0) x4 G4 L4)) oX)
        else (sm_aI (sm_cv0 d 219 342 (RR V) [.ref 156, .int (i3 0), .int (i3 1), .int (i3 2)] (x3, G3, L3)) (fun a5 x5 G5 L5 =>
            if a5 = (i3 0) then
              (hD d 322 37 [.ref 156, .int v1, .int v2] 342 (RR V) x5 G5 L5)
            else (oI (i3 0) x5 G5 L5)) oX)) oX)) oX := by
  rw [rm_322]
  try simp only [gd_tt, k_156]
set_option maxRecDepth 20000 in
theorem rh_322_37 {d x : Nat} {R : sm_R} {G : sm_G} {L : sm_L} {v1 v2 : Int32} : hD d 322 37 [.ref 156, .int v1, .int v2] 342 R x G L =
  ldi (R 156 12) (i3 2) G (fun y1 => if y1 = (i3 12) then
    (oI m1 x G L)
  else (if (G 156 38) = (i3 20) then
      (oI m1 x G L)
    else (sm_aV (sm_cv0 d 323 342 R [.ref 156] (x, G, L)) (fun x2 G2 L2 =>
        ldi (R 156 12) (i3 2) G2 (fun y3 => gd (Nat.ble 24 (sm_K (R 156 22)) && Nat.ble (sm_K (R 156 22)) 27 && Nat.ble (R 156 22) 342) (gd (sm_in y3 (sm_N (R 156 22))) (gd (sm_is (R (R 156 22) y3.toNatClampNeg) 342 20) (gd (sm_in (i3 0) (sm_N (R (R 156 22) y3.toNatClampNeg))) (ldi (R 156 12) (i3 2) (sm_up G2 (R (R 156 22) y3.toNatClampNeg) 0 v1) (fun y4 => gd (Nat.ble 24 (sm_K (R 156 22)) && Nat.ble (sm_K (R 156 22)) 27 && Nat.ble (R 156 22) 342) (gd (sm_in y4 (sm_N (R 156 22))) (gd (sm_is (R (R 156 22) y4.toNatClampNeg) 342 20) (gd (sm_in (i3 1) (sm_N (R (R 156 22) y4.toNatClampNeg))) (ldi (R 156 12) (i3 2) (sm_up (sm_up G2 (R (R 156 22) y3.toNatClampNeg) 0 v1) (R (R 156 22) y4.toNatClampNeg) 1 v2) (fun y5 => gd (sm_is (R 156 12) 342 20) (gd (sm_in (i3 2) (sm_N (R 156 12))) (ldi (R 156 12) (i3 2) (sm_up (sm_up (sm_up G2 (R (R 156 22) y3.toNatClampNeg) 0 v1) (R (R 156 22) y4.toNatClampNeg) 1 v2) (R 156 12) 2 (y5 + (i3 1))) (fun y6 => oI y6 x2 (sm_up (sm_up (sm_up G2 (R (R 156 22) y3.toNatClampNeg) 0 v1) (R (R 156 22) y4.toNatClampNeg) 1 v2) (R 156 12) 2 (y5 + (i3 1))) L2))))))))))))))) oX))) := hD_eq.trans rfl
set_option maxRecDepth 20000 in
theorem h_322_37 {d x : Nat} {V : pV} {G : sm_G} {L : sm_L} {v1 v2 : Int32} : hD d 322 37 [.ref 156, .int v1, .int v2] 342 (RR V) x G L =
  if (G 160 2) = (i3 12) then
    (oI m1 x G L)
  else (if (G 156 38) = (i3 20) then
      (oI m1 x G L)
    else (sm_aV (sm_cv0 d 323 342 (RR V) [.ref 156] (x, G, L)) (fun x2 G2 L2 =>
        gd (sm_in (G2 160 2) 12) (gd (sm_is (RR V 218 (G2 160 2).toNatClampNeg) 342 20) (gd (sm_in (i3 0) (sm_N (RR V 218 (G2 160 2).toNatClampNeg))) (gd (sm_in ((sm_up G2 (RR V 218 (G2 160 2).toNatClampNeg) 0 v1) 160 2) 12) (gd (sm_is (RR V 218 ((sm_up G2 (RR V 218 (G2 160 2).toNatClampNeg) 0 v1) 160 2).toNatClampNeg) 342 20) (gd (sm_in (i3 1) (sm_N (RR V 218 ((sm_up G2 (RR V 218 (G2 160 2).toNatClampNeg) 0 v1) 160 2).toNatClampNeg))) (oI ((sm_up (sm_up (sm_up G2 (RR V 218 (G2 160 2).toNatClampNeg) 0 v1) (RR V 218 ((sm_up G2 (RR V 218 (G2 160 2).toNatClampNeg) 0 v1) 160 2).toNatClampNeg) 1 v2) 160 2 (((sm_up (sm_up G2 (RR V 218 (G2 160 2).toNatClampNeg) 0 v1) (RR V 218 ((sm_up G2 (RR V 218 (G2 160 2).toNatClampNeg) 0 v1) 160 2).toNatClampNeg) 1 v2) 160 2) + (i3 1))) 160 2) x2 (sm_up (sm_up (sm_up G2 (RR V 218 (G2 160 2).toNatClampNeg) 0 v1) (RR V 218 ((sm_up G2 (RR V 218 (G2 160 2).toNatClampNeg) 0 v1) 160 2).toNatClampNeg) 1 v2) 160 2 (((sm_up (sm_up G2 (RR V 218 (G2 160 2).toNatClampNeg) 0 v1) (RR V 218 ((sm_up G2 (RR V 218 (G2 160 2).toNatClampNeg) 0 v1) 160 2).toNatClampNeg) 1 v2) 160 2) + (i3 1))) L2))))))) oX)) := by
  rw [rh_322_37]
  try simp only [gd_tt, (q_156_12 V), (q_156_22 V), a_218, cl_2, inl_2_6, k_156, k_160, ldi_e k_160 n_160, n_160, n_218]
/-! M_keepsChange -/
set_option maxRecDepth 20000 in
theorem rm_323 {d x : Nat} {R : sm_R} {G : sm_G} {L : sm_L} : sm_cv0 (d + 1) 323 342 R [.ref 156] (x, G, L) =
  gd (Nat.ble 24 (sm_K (R 156 31)) && Nat.ble (sm_K (R 156 31)) 27 && Nat.ble (R 156 31) 342) (gd (sm_in ((sm_up G 156 40 (i3 0)) 156 38) (sm_N (R 156 31))) (sm_aV (sm_cv0 d 324 342 R [.ref 156, .ref (R (R 156 31) ((sm_up G 156 40 (i3 0)) 156 38).toNatClampNeg), .int (i3 0)] (x, sm_up G 156 40 (i3 0), L)) (fun x1 G1 L1 =>
    oV x1 (sm_up G1 156 38 ((G1 156 38) + (i3 1))) L1) oX)) := (cv_eq rfl rfl).trans (hD_eq.trans rfl)
set_option maxRecDepth 20000 in
theorem m_323 {d x : Nat} {V : pV} {G : sm_G} {L : sm_L} : sm_cv0 (d + 1) 323 342 (RR V) [.ref 156] (x, G, L) =
  gd (sm_in ((sm_up G 156 40 (i3 0)) 156 38) 20) (sm_aV (sm_cv0 d 324 342 (RR V) [.ref 156, .ref (RR V 282 ((sm_up G 156 40 (i3 0)) 156 38).toNatClampNeg), .int (i3 0)] (x, sm_up G 156 40 (i3 0), L)) (fun x1 G1 L1 =>
    oV x1 (sm_up G1 156 38 ((G1 156 38) + (i3 1))) L1) oX) := by
  rw [rm_323]
  try simp only [gd_tt, (q_156_31 V), a_282, k_156, n_282]
/-! M_movesChanged -/
set_option maxRecDepth 20000 in
theorem rm_324 {d x : Nat} {R : sm_R} {G : sm_G} {L : sm_L} {r1 : Nat} {v2 : Int32} : sm_cv0 (d + 1) 324 342 R [.ref 156, .ref r1, .int v2] (x, G, L) =
  ldi (R 156 12) (i3 2) G (fun y1 => sm_aI (sm_cv0 d 325 342 R [.ref 156, .ref r1, .int y1, .int v2] (x, G, L)) (fun a2 x2 G2 L2 =>
    gd (sm_is (R 156 12) 342 20) (gd (sm_in (i3 2) (sm_N (R 156 12))) (hD d 324 20 [.ref 156, .ref r1, .int v2, .int (i3 0), .null] 342 R x2 (sm_up G2 (R 156 12) 2 a2) L2))) oX) := (cv_eq rfl rfl).trans (hD_eq.trans rfl)
set_option maxRecDepth 20000 in
theorem m_324 {d x : Nat} {V : pV} {G : sm_G} {L : sm_L} {r1 : Nat} {v2 : Int32} : sm_cv0 (d + 1) 324 342 (RR V) [.ref 156, .ref r1, .int v2] (x, G, L) =
  sm_aI (sm_cv0 d 325 342 (RR V) [.ref 156, .ref r1, .int (G 160 2), .int v2] (x, G, L)) (fun a2 x2 G2 L2 =>
    hD d 324 20 [.ref 156, .ref r1, .int v2, .int (i3 0), .null] 342 (RR V) x2 (sm_up G2 160 2 a2) L2) oX := by
  rw [rm_324]
  try simp only [gd_tt, (q_156_12 V), cl_2, inl_2_6, k_156, k_160, ldi_e k_160 n_160, n_160]
set_option maxRecDepth 20000 in
theorem rh_324_20 {d x : Nat} {R : sm_R} {G : sm_G} {L : sm_L} {r1 : Nat} {v2 v3 : Int32} : hD d 324 20 [.ref 156, .ref r1, .int v2, .int v3, .null] 342 R x G L =
  if v3 < (i3 12) then
    (hD d 324 29 [.ref 156, .ref r1, .int v2, .int v3, .int (i3 0)] 342 R x G L)
  else (hD d 324 73 [.ref 156, .ref r1, .int v2, .int (i3 0), .null] 342 R x G L) := hD_eq.trans rfl
theorem h_324_20 {d x : Nat} {V : pV} {G : sm_G} {L : sm_L} {r1 : Nat} {v2 v3 : Int32} : hD d 324 20 [.ref 156, .ref r1, .int v2, .int v3, .null] 342 (RR V) x G L =
  if v3 < (i3 12) then
    (hD d 324 29 [.ref 156, .ref r1, .int v2, .int v3, .int (i3 0)] 342 (RR V) x G L)
  else (hD d 324 73 [.ref 156, .ref r1, .int v2, .int (i3 0), .null] 342 (RR V) x G L) := rh_324_20
set_option maxRecDepth 20000 in
theorem rh_324_29 {d x : Nat} {R : sm_R} {G : sm_G} {L : sm_L} {r1 : Nat} {v2 v3 v4 : Int32} : hD d 324 29 [.ref 156, .ref r1, .int v2, .int v3, .int v4] 342 R x G L =
  if v4 < (i3 2) then
    (gd (Nat.ble 24 (sm_K (R 156 22)) && Nat.ble (sm_K (R 156 22)) 27 && Nat.ble (R 156 22) 342) (gd (sm_in v3 (sm_N (R 156 22))) (gd (Nat.ble 24 (sm_K (R 156 22)) && Nat.ble (sm_K (R 156 22)) 27 && Nat.ble (R 156 22) 342) (gd (sm_in v3 (sm_N (R 156 22))) (ldi (R (R 156 22) v3.toNatClampNeg) v4 G (fun y1 => sm_aI (sm_cv0 d 325 342 R [.ref 156, .ref r1, .int y1, .int v2] (x, G, L)) (fun a2 x2 G2 L2 =>
      gd (sm_is (R (R 156 22) v3.toNatClampNeg) 342 20) (gd (sm_in v4 (sm_N (R (R 156 22) v3.toNatClampNeg))) (hD d 324 29 [.ref 156, .ref r1, .int v2, .int v3, .int (v4 + (i3 1))] 342 R x2 (sm_up G2 (R (R 156 22) v3.toNatClampNeg) v4.toNatClampNeg a2) L2))) oX))))))
  else (hD d 324 20 [.ref 156, .ref r1, .int v2, .int (v3 + (i3 1)), .null] 342 R x G L) := hD_eq.trans rfl
set_option maxRecDepth 20000 in
theorem h_324_29 {d x : Nat} {V : pV} {G : sm_G} {L : sm_L} {r1 : Nat} {v2 v3 v4 : Int32} : hD d 324 29 [.ref 156, .ref r1, .int v2, .int v3, .int v4] 342 (RR V) x G L =
  if v4 < (i3 2) then
    (gd (sm_in v3 12) (gd (sm_in v3 12) (ldi (RR V 218 v3.toNatClampNeg) v4 G (fun y1 => sm_aI (sm_cv0 d 325 342 (RR V) [.ref 156, .ref r1, .int y1, .int v2] (x, G, L)) (fun a2 x2 G2 L2 =>
      gd (sm_is (RR V 218 v3.toNatClampNeg) 342 20) (gd (sm_in v4 (sm_N (RR V 218 v3.toNatClampNeg))) (hD d 324 29 [.ref 156, .ref r1, .int v2, .int v3, .int (v4 + (i3 1))] 342 (RR V) x2 (sm_up G2 (RR V 218 v3.toNatClampNeg) v4.toNatClampNeg a2) L2))) oX))))
  else (hD d 324 20 [.ref 156, .ref r1, .int v2, .int (v3 + (i3 1)), .null] 342 (RR V) x G L) := by
  rw [rh_324_29]
  try simp only [gd_tt, (q_156_22 V), a_218, k_156, n_218]
set_option maxRecDepth 20000 in
theorem rh_324_73 {d x : Nat} {R : sm_R} {G : sm_G} {L : sm_L} {r1 : Nat} {v2 v3 : Int32} : hD d 324 73 [.ref 156, .ref r1, .int v2, .int v3, .null] 342 R x G L =
  if v3 < (i3 8) then
    (hD d 324 82 [.ref 156, .ref r1, .int v2, .int v3, .int (i3 0)] 342 R x G L)
  else (oV x G L) := hD_eq.trans rfl
theorem h_324_73 {d x : Nat} {V : pV} {G : sm_G} {L : sm_L} {r1 : Nat} {v2 v3 : Int32} : hD d 324 73 [.ref 156, .ref r1, .int v2, .int v3, .null] 342 (RR V) x G L =
  if v3 < (i3 8) then
    (hD d 324 82 [.ref 156, .ref r1, .int v2, .int v3, .int (i3 0)] 342 (RR V) x G L)
  else (oV x G L) := rh_324_73
set_option maxRecDepth 20000 in
theorem rh_324_82 {d x : Nat} {R : sm_R} {G : sm_G} {L : sm_L} {r1 : Nat} {v2 v3 v4 : Int32} : hD d 324 82 [.ref 156, .ref r1, .int v2, .int v3, .int v4] 342 R x G L =
  if v4 < (i3 2) then
    (gd (Nat.ble 24 (sm_K (R 156 18)) && Nat.ble (sm_K (R 156 18)) 27 && Nat.ble (R 156 18) 342) (gd (sm_in v3 (sm_N (R 156 18))) (gd (Nat.ble 24 (sm_K (R 156 18)) && Nat.ble (sm_K (R 156 18)) 27 && Nat.ble (R 156 18) 342) (gd (sm_in v3 (sm_N (R 156 18))) (ldi (R (R 156 18) v3.toNatClampNeg) v4 G (fun y1 => sm_aI (sm_cv0 d 325 342 R [.ref 156, .ref r1, .int y1, .int v2] (x, G, L)) (fun a2 x2 G2 L2 =>
      gd (sm_is (R (R 156 18) v3.toNatClampNeg) 342 20) (gd (sm_in v4 (sm_N (R (R 156 18) v3.toNatClampNeg))) (hD d 324 82 [.ref 156, .ref r1, .int v2, .int v3, .int (v4 + (i3 1))] 342 R x2 (sm_up G2 (R (R 156 18) v3.toNatClampNeg) v4.toNatClampNeg a2) L2))) oX))))))
  else (hD d 324 73 [.ref 156, .ref r1, .int v2, .int (v3 + (i3 1)), .null] 342 R x G L) := hD_eq.trans rfl
set_option maxRecDepth 20000 in
theorem h_324_82 {d x : Nat} {V : pV} {G : sm_G} {L : sm_L} {r1 : Nat} {v2 v3 v4 : Int32} : hD d 324 82 [.ref 156, .ref r1, .int v2, .int v3, .int v4] 342 (RR V) x G L =
  if v4 < (i3 2) then
    (gd (sm_in v3 8) (gd (sm_in v3 8) (ldi (RR V 174 v3.toNatClampNeg) v4 G (fun y1 => sm_aI (sm_cv0 d 325 342 (RR V) [.ref 156, .ref r1, .int y1, .int v2] (x, G, L)) (fun a2 x2 G2 L2 =>
      gd (sm_is (RR V 174 v3.toNatClampNeg) 342 20) (gd (sm_in v4 (sm_N (RR V 174 v3.toNatClampNeg))) (hD d 324 82 [.ref 156, .ref r1, .int v2, .int v3, .int (v4 + (i3 1))] 342 (RR V) x2 (sm_up G2 (RR V 174 v3.toNatClampNeg) v4.toNatClampNeg a2) L2))) oX))))
  else (hD d 324 73 [.ref 156, .ref r1, .int v2, .int (v3 + (i3 1)), .null] 342 (RR V) x G L) := by
  rw [rh_324_82]
  try simp only [gd_tt, (q_156_18 V), a_174, k_156, n_174]
/-! M_moves -/
set_option maxRecDepth 20000 in
theorem rm_325 {d x : Nat} {R : sm_R} {G : sm_G} {L : sm_L} {r1 : Nat} {v2 v3 : Int32} : sm_cv0 (d + 1) 325 342 R [.ref 156, .ref r1, .int v2, .int v3] (x, G, L) =
  if v3 = (i3 0) then
    (gd (sm_is r1 342 20) (gd (sm_in (G 156 40) (sm_N r1)) (hD d 325 11 [.ref 156, .ref r1, .null, .null] 342 R x (sm_up G r1 ((G 156 40).toNatClampNeg) v2) L)))
  else (hD d 325 11 [.ref 156, .ref r1, .null, .null] 342 R x G L) := (cv_eq rfl rfl).trans (hD_eq.trans rfl)
set_option maxRecDepth 20000 in
theorem m_325 {d x : Nat} {V : pV} {G : sm_G} {L : sm_L} {r1 : Nat} {v2 v3 : Int32} : sm_cv0 (d + 1) 325 342 (RR V) [.ref 156, .ref r1, .int v2, .int v3] (x, G, L) =
  if v3 = (i3 0) then
    (gd (sm_is r1 342 20) (gd (sm_in (G 156 40) (sm_N r1)) (hD d 325 11 [.ref 156, .ref r1, .null, .null] 342 (RR V) x (sm_up G r1 ((G 156 40).toNatClampNeg) v2) L)))
  else (hD d 325 11 [.ref 156, .ref r1, .null, .null] 342 (RR V) x G L) := by
  rw [rm_325]
  try simp only [gd_tt, k_156]
set_option maxRecDepth 20000 in
theorem rh_325_11 {d x : Nat} {R : sm_R} {G : sm_G} {L : sm_L} {r1 : Nat} : hD d 325 11 [.ref 156, .ref r1, .null, .null] 342 R x G L =
  ldi r1 (((sm_up G 156 40 ((G 156 40) + (i3 1))) 156 40) - (i3 1)) (sm_up G 156 40 ((G 156 40) + (i3 1))) (fun y1 => oI y1 x (sm_up G 156 40 ((G 156 40) + (i3 1))) L) := hD_eq.trans rfl
set_option maxRecDepth 20000 in
theorem h_325_11 {d x : Nat} {V : pV} {G : sm_G} {L : sm_L} {r1 : Nat} : hD d 325 11 [.ref 156, .ref r1, .null, .null] 342 (RR V) x G L =
  ldi r1 (((sm_up G 156 40 ((G 156 40) + (i3 1))) 156 40) - (i3 1)) (sm_up G 156 40 ((G 156 40) + (i3 1))) (fun y1 => oI y1 x (sm_up G 156 40 ((G 156 40) + (i3 1))) L) := by
  rw [rh_325_11]
  try simp only [gd_tt, k_156]
/-! M_hush -/
set_option maxRecDepth 20000 in
theorem rm_326 {d x : Nat} {R : sm_R} {G : sm_G} {L : sm_L} {v1 : Int32} : sm_cv0 (d + 1) 326 342 R [.ref 156, .int v1] (x, G, L) =
  ldi (R 156 12) (i3 2) (sm_up G 156 0 (i3 0)) (fun y1 => sm_aI (sm_cv0 d 218 342 R [.int v1, .int (i3 0), .int (y1 - (i3 1))] (x, sm_up G 156 0 (i3 0), L)) (fun a2 x2 G2 L2 =>
    if a2 = (i3 0) then
      (oI m1 x2 G2 L2)
    else (if (G2 156 38) = (i3 20) then
        (oI m1 x2 G2 L2)
      else (sm_aV (sm_cv0 d 323 342 R [.ref 156] (x2, G2, L2)) (fun x3 G3 L3 =>
          ldi (R 156 12) (i3 2) G3 (fun y4 => gd (sm_is (R 156 12) 342 20) (gd (sm_in (i3 2) (sm_N (R 156 12))) (hD d 326 48 [.ref 156, .null, .int v1, .null] 342 R x3 (sm_up G3 (R 156 12) 2 (y4 - (i3 1))) L3)))) oX))) oX) := (cv_eq rfl rfl).trans (hD_eq.trans rfl)
set_option maxRecDepth 20000 in
theorem m_326 {d x : Nat} {V : pV} {G : sm_G} {L : sm_L} {v1 : Int32} : sm_cv0 (d + 1) 326 342 (RR V) [.ref 156, .int v1] (x, G, L) =
  sm_aI (sm_cv0 d 218 342 (RR V) [.int v1, .int (i3 0), .int (((sm_up G 156 0 (i3 0)) 160 2) - (i3 1))] (x, sm_up G 156 0 (i3 0), L)) (fun a2 x2 G2 L2 =>
    if a2 = (i3 0) then
      (oI m1 x2 G2 L2)
    else (if (G2 156 38) = (i3 20) then
        (oI m1 x2 G2 L2)
      else (sm_aV (sm_cv0 d 323 342 (RR V) [.ref 156] (x2, G2, L2)) (fun x3 G3 L3 =>
          hD d 326 48 [.ref 156, .null, .int v1, .null] 342 (RR V) x3 (sm_up G3 160 2 ((G3 160 2) - (i3 1))) L3) oX))) oX := by
  rw [rm_326]
  try simp only [gd_tt, (q_156_12 V), cl_2, inl_2_6, k_156, k_160, ldi_e k_160 n_160, n_160]
set_option maxRecDepth 20000 in
theorem rh_326_48 {d x : Nat} {R : sm_R} {G : sm_G} {L : sm_L} {v2 : Int32} : hD d 326 48 [.ref 156, .null, .int v2, .null] 342 R x G L =
  ldi (R 156 12) (i3 2) G (fun y1 => if v2 < y1 then
    (hD d 326 60 [.ref 156, .null, .int v2, .int (i3 0)] 342 R x G L)
  else (ldi (R 156 12) (i3 2) G (fun y2 => oI y2 x G L))) := hD_eq.trans rfl
set_option maxRecDepth 20000 in
theorem h_326_48 {d x : Nat} {V : pV} {G : sm_G} {L : sm_L} {v2 : Int32} : hD d 326 48 [.ref 156, .null, .int v2, .null] 342 (RR V) x G L =
  if v2 < (G 160 2) then
    (hD d 326 60 [.ref 156, .null, .int v2, .int (i3 0)] 342 (RR V) x G L)
  else (oI (G 160 2) x G L) := by
  rw [rh_326_48]
  try simp only [gd_tt, (q_156_12 V), cl_2, inl_2_6, k_156, ldi_e k_160 n_160, n_160]
set_option maxRecDepth 20000 in
theorem rh_326_60 {d x : Nat} {R : sm_R} {G : sm_G} {L : sm_L} {v2 v3 : Int32} : hD d 326 60 [.ref 156, .null, .int v2, .int v3] 342 R x G L =
  if v3 < (i3 2) then
    (gd (Nat.ble 24 (sm_K (R 156 22)) && Nat.ble (sm_K (R 156 22)) 27 && Nat.ble (R 156 22) 342) (gd (sm_in v2 (sm_N (R 156 22))) (gd (Nat.ble 24 (sm_K (R 156 22)) && Nat.ble (sm_K (R 156 22)) 27 && Nat.ble (R 156 22) 342) (gd (sm_in (v2 + (i3 1)) (sm_N (R 156 22))) (ldi (R (R 156 22) (v2 + (i3 1)).toNatClampNeg) v3 G (fun y1 => gd (sm_is (R (R 156 22) v2.toNatClampNeg) 342 20) (gd (sm_in v3 (sm_N (R (R 156 22) v2.toNatClampNeg))) (hD d 326 60 [.ref 156, .null, .int v2, .int (v3 + (i3 1))] 342 R x (sm_up G (R (R 156 22) v2.toNatClampNeg) v3.toNatClampNeg y1) L))))))))
  else (hD d 326 48 [.ref 156, .null, .int (v2 + (i3 1)), .null] 342 R x G L) := hD_eq.trans rfl
set_option maxRecDepth 20000 in
theorem h_326_60 {d x : Nat} {V : pV} {G : sm_G} {L : sm_L} {v2 v3 : Int32} : hD d 326 60 [.ref 156, .null, .int v2, .int v3] 342 (RR V) x G L =
  if v3 < (i3 2) then
    (gd (sm_in v2 12) (gd (sm_in (v2 + (i3 1)) 12) (ldi (RR V 218 (v2 + (i3 1)).toNatClampNeg) v3 G (fun y1 => gd (sm_is (RR V 218 v2.toNatClampNeg) 342 20) (gd (sm_in v3 (sm_N (RR V 218 v2.toNatClampNeg))) (hD d 326 60 [.ref 156, .null, .int v2, .int (v3 + (i3 1))] 342 (RR V) x (sm_up G (RR V 218 v2.toNatClampNeg) v3.toNatClampNeg y1) L))))))
  else (hD d 326 48 [.ref 156, .null, .int (v2 + (i3 1)), .null] 342 (RR V) x G L) := by
  rw [rh_326_60]
  try simp only [gd_tt, (q_156_22 V), a_218, k_156, n_218]
/-! M_sleep -/
set_option maxRecDepth 20000 in
theorem rm_327 {d x : Nat} {R : sm_R} {G : sm_G} {L : sm_L} {v1 v2 v3 : Int32} : sm_cv0 (d + 1) 327 342 R [.ref 156, .int v1, .int v2, .int v3] (x, G, L) =
  sm_aI (sm_cv0 d 248 342 R [.ref 156, .int v1] (x, sm_up G 156 0 (i3 0), L)) (fun a1 x1 G1 L1 =>
    if a1 = (i3 0) then
      (sm_aI (sm_cv0 d 219 342 R [.ref 156, .int (i3 1), .int (i3 1), .int (i3 1)] (x1, G1, L1)) (fun a2 x2 G2 L2 =>
        if a2 = (i3 0) then
          (hD d 327 27 [.ref 156, .int v1, .int v2, .int v3] 342 R x2 G2 L2)
        else (oI (i3 0) x2 G2 L2)) oX)
    else (sm_aI (sm_cv0 d 219 342 R [.ref 156, .int (i3 0), .int (i3 1), .int (i3 1)] (x1, G1, L1)) (fun a3 x3 G3 L3 =>
        if a3 = (i3 0) then
          (hD d 327 27 [.ref 156, .int v1, .int v2, .int v3] 342 R x3 G3 L3)
        else (oI (i3 0) x3 G3 L3)) oX)) oX := (cv_eq rfl rfl).trans (hD_eq.trans rfl)
set_option maxRecDepth 20000 in
theorem m_327 {d x : Nat} {V : pV} {G : sm_G} {L : sm_L} {v1 v2 v3 : Int32} : sm_cv0 (d + 1) 327 342 (RR V) [.ref 156, .int v1, .int v2, .int v3] (x, G, L) =
  sm_aI (sm_cv0 d 248 342 (RR V) [.ref 156, .int v1] (x, sm_up G 156 0 (i3 0), L)) (fun a1 x1 G1 L1 =>
    if a1 = (i3 0) then
      (sm_aI (sm_cv0 d 219 342 (RR V) [.ref 156, .int (i3 1), .int (i3 1), .int (i3 1)] (x1, G1, L1)) (fun a2 x2 G2 L2 =>
        if a2 = (i3 0) then
          (hD d 327 27 [.ref 156, .int v1, .int v2, .int v3] 342 (RR V) x2 G2 L2)
        else (oI (i3 0) x2 G2 L2)) oX)
    else (sm_aI (sm_cv0 d 219 342 (RR V) [.ref 156, .int (i3 0), .int (i3 1), .int (i3 1)] (x1, G1, L1)) (fun a3 x3 G3 L3 =>
        if a3 = (i3 0) then
          (hD d 327 27 [.ref 156, .int v1, .int v2, .int v3] 342 (RR V) x3 G3 L3)
        else (oI (i3 0) x3 G3 L3)) oX)) oX := by
  rw [rm_327]
  try simp only [gd_tt, k_156]
set_option maxRecDepth 20000 in
theorem rh_327_27 {d x : Nat} {R : sm_R} {G : sm_G} {L : sm_L} {v1 v2 v3 : Int32} : hD d 327 27 [.ref 156, .int v1, .int v2, .int v3] 342 R x G L =
  sm_aI (sm_cv0 d 253 342 R [.int v2] (x, G, L)) (fun a1 x1 G1 L1 =>
    if a1 = (i3 0) then
      (sm_aI (sm_cv0 d 219 342 R [.ref 156, .int (i3 1), .int (i3 2), .int (i3 2)] (x1, G1, L1)) (fun a2 x2 G2 L2 =>
        if a2 = (i3 0) then
          (hD d 327 62 [.ref 156, .int v1, .int v2, .int v3] 342 R x2 G2 L2)
        else (oI (i3 0) x2 G2 L2)) oX)
    else (sm_aI (sm_cv0 d 253 342 R [.int v3] (x1, G1, L1)) (fun a3 x3 G3 L3 =>
        if a3 = (i3 0) then
          (sm_aI (sm_cv0 d 219 342 R [.ref 156, .int (i3 1), .int (i3 2), .int (i3 2)] (x3, G3, L3)) (fun a4 x4 G4 L4 =>
            if a4 = (i3 0) then
              (hD d 327 62 [.ref 156, .int v1, .int v2, .int v3] 342 R x4 G4 L4)
            else (oI (i3 0) x4 G4 L4)) oX)
        else (if v3 < v2 then
            (sm_aI (sm_cv0 d 219 342 R [.ref 156, .int (i3 1), .int (i3 2), .int (i3 2)] (x3, G3, L3)) (fun a5 x5 G5 L5 =>
              if a5 = (i3 0) then
                (hD d 327 62 [.ref 156, .int v1, .int v2, .int v3] 342 R x5 G5 L5)
              else (oI (i3 0) x5 G5 L5)) oX)
          else (sm_aI (sm_cv0 d 219 342 R [.ref 156, .int (i3 0), .int (i3 2), .int (i3 2)] (x3, G3, L3)) (fun a6 x6 G6 L6 =>
              if a6 = (i3 0) then
                (hD d 327 62 [.ref 156, .int v1, .int v2, .int v3] 342 R x6 G6 L6)
              else (oI (i3 0) x6 G6 L6)) oX))) oX)) oX := hD_eq.trans rfl
set_option maxRecDepth 20000 in
theorem h_327_27 {d x : Nat} {V : pV} {G : sm_G} {L : sm_L} {v1 v2 v3 : Int32} : hD d 327 27 [.ref 156, .int v1, .int v2, .int v3] 342 (RR V) x G L =
  sm_aI (sm_cv0 d 253 342 (RR V) [.int v2] (x, G, L)) (fun a1 x1 G1 L1 =>
    if a1 = (i3 0) then
      (sm_aI (sm_cv0 d 219 342 (RR V) [.ref 156, .int (i3 1), .int (i3 2), .int (i3 2)] (x1, G1, L1)) (fun a2 x2 G2 L2 =>
        if a2 = (i3 0) then
          (hD d 327 62 [.ref 156, .int v1, .int v2, .int v3] 342 (RR V) x2 G2 L2)
        else (oI (i3 0) x2 G2 L2)) oX)
    else (sm_aI (sm_cv0 d 253 342 (RR V) [.int v3] (x1, G1, L1)) (fun a3 x3 G3 L3 =>
        if a3 = (i3 0) then
          (sm_aI (sm_cv0 d 219 342 (RR V) [.ref 156, .int (i3 1), .int (i3 2), .int (i3 2)] (x3, G3, L3)) (fun a4 x4 G4 L4 =>
            if a4 = (i3 0) then
              (hD d 327 62 [.ref 156, .int v1, .int v2, .int v3] 342 (RR V) x4 G4 L4)
            else (oI (i3 0) x4 G4 L4)) oX)
        else (if v3 < v2 then
            (sm_aI (sm_cv0 d 219 342 (RR V) [.ref 156, .int (i3 1), .int (i3 2), .int (i3 2)] (x3, G3, L3)) (fun a5 x5 G5 L5 =>
              if a5 = (i3 0) then
                (hD d 327 62 [.ref 156, .int v1, .int v2, .int v3] 342 (RR V) x5 G5 L5)
              else (oI (i3 0) x5 G5 L5)) oX)
          else (sm_aI (sm_cv0 d 219 342 (RR V) [.ref 156, .int (i3 0), .int (i3 2), .int (i3 2)] (x3, G3, L3)) (fun a6 x6 G6 L6 =>
              if a6 = (i3 0) then
                (hD d 327 62 [.ref 156, .int v1, .int v2, .int v3] 342 (RR V) x6 G6 L6)
              else (oI (i3 0) x6 G6 L6)) oX))) oX)) oX := by
  rw [rh_327_27]
  try simp only [gd_tt, k_156]
set_option maxRecDepth 20000 in
theorem rh_327_62 {d x : Nat} {R : sm_R} {G : sm_G} {L : sm_L} {v1 v2 v3 : Int32} : hD d 327 62 [.ref 156, .int v1, .int v2, .int v3] 342 R x G L =
  if (G 156 38) = (i3 20) then
    (oI (i3 0) x G L)
  else (sm_aV (sm_cv0 d 323 342 R [.ref 156] (x, G, L)) (fun x1 G1 L1 =>
      gd (Nat.ble 24 (sm_K (R 156 18)) && Nat.ble (sm_K (R 156 18)) 27 && Nat.ble (R 156 18) 342) (gd (sm_in v1 (sm_N (R 156 18))) (gd (sm_is (R (R 156 18) v1.toNatClampNeg) 342 20) (gd (sm_in (i3 0) (sm_N (R (R 156 18) v1.toNatClampNeg))) (gd (Nat.ble 24 (sm_K (R 156 18)) && Nat.ble (sm_K (R 156 18)) 27 && Nat.ble (R 156 18) 342) (gd (sm_in v1 (sm_N (R 156 18))) (gd (sm_is (R (R 156 18) v1.toNatClampNeg) 342 20) (gd (sm_in (i3 1) (sm_N (R (R 156 18) v1.toNatClampNeg))) (oI (i3 1) x1 (sm_up (sm_up G1 (R (R 156 18) v1.toNatClampNeg) 0 v2) (R (R 156 18) v1.toNatClampNeg) 1 v3) L1))))))))) oX) := hD_eq.trans rfl
set_option maxRecDepth 20000 in
theorem h_327_62 {d x : Nat} {V : pV} {G : sm_G} {L : sm_L} {v1 v2 v3 : Int32} : hD d 327 62 [.ref 156, .int v1, .int v2, .int v3] 342 (RR V) x G L =
  if (G 156 38) = (i3 20) then
    (oI (i3 0) x G L)
  else (sm_aV (sm_cv0 d 323 342 (RR V) [.ref 156] (x, G, L)) (fun x1 G1 L1 =>
      gd (sm_in v1 8) (gd (sm_is (RR V 174 v1.toNatClampNeg) 342 20) (gd (sm_in (i3 0) (sm_N (RR V 174 v1.toNatClampNeg))) (gd (sm_in v1 8) (gd (sm_is (RR V 174 v1.toNatClampNeg) 342 20) (gd (sm_in (i3 1) (sm_N (RR V 174 v1.toNatClampNeg))) (oI (i3 1) x1 (sm_up (sm_up G1 (RR V 174 v1.toNatClampNeg) 0 v2) (RR V 174 v1.toNatClampNeg) 1 v3) L1))))))) oX) := by
  rw [rh_327_62]
  try simp only [gd_tt, (q_156_18 V), a_174, k_156, n_174]
/-! M_undo -/
set_option maxRecDepth 20000 in
theorem rm_328 {d x : Nat} {R : sm_R} {G : sm_G} {L : sm_L} : sm_cv0 (d + 1) 328 342 R [.ref 156] (x, G, L) =
  if ((sm_up G 156 0 (i3 0)) 156 38) = (i3 0) then
    (oI m1 x (sm_up G 156 0 (i3 0)) L)
  else (gd (Nat.ble 24 (sm_K (R 156 31)) && Nat.ble (sm_K (R 156 31)) 27 && Nat.ble (R 156 31) 342) (gd (sm_in ((sm_up (sm_up (sm_up G 156 0 (i3 0)) 156 38 (((sm_up G 156 0 (i3 0)) 156 38) - (i3 1))) 156 40 (i3 0)) 156 38) (sm_N (R 156 31))) (sm_aV (sm_cv0 d 324 342 R [.ref 156, .ref (R (R 156 31) ((sm_up (sm_up (sm_up G 156 0 (i3 0)) 156 38 (((sm_up G 156 0 (i3 0)) 156 38) - (i3 1))) 156 40 (i3 0)) 156 38).toNatClampNeg), .int (i3 1)] (x, sm_up (sm_up (sm_up G 156 0 (i3 0)) 156 38 (((sm_up G 156 0 (i3 0)) 156 38) - (i3 1))) 156 40 (i3 0), L)) (fun x1 G1 L1 =>
      oI (G1 156 38) x1 G1 L1) oX))) := (cv_eq rfl rfl).trans (hD_eq.trans rfl)
set_option maxRecDepth 20000 in
theorem m_328 {d x : Nat} {V : pV} {G : sm_G} {L : sm_L} : sm_cv0 (d + 1) 328 342 (RR V) [.ref 156] (x, G, L) =
  if ((sm_up G 156 0 (i3 0)) 156 38) = (i3 0) then
    (oI m1 x (sm_up G 156 0 (i3 0)) L)
  else (gd (sm_in ((sm_up (sm_up (sm_up G 156 0 (i3 0)) 156 38 (((sm_up G 156 0 (i3 0)) 156 38) - (i3 1))) 156 40 (i3 0)) 156 38) 20) (sm_aV (sm_cv0 d 324 342 (RR V) [.ref 156, .ref (RR V 282 ((sm_up (sm_up (sm_up G 156 0 (i3 0)) 156 38 (((sm_up G 156 0 (i3 0)) 156 38) - (i3 1))) 156 40 (i3 0)) 156 38).toNatClampNeg), .int (i3 1)] (x, sm_up (sm_up (sm_up G 156 0 (i3 0)) 156 38 (((sm_up G 156 0 (i3 0)) 156 38) - (i3 1))) 156 40 (i3 0), L)) (fun x1 G1 L1 =>
      oI (G1 156 38) x1 G1 L1) oX)) := by
  rw [rm_328]
  try simp only [gd_tt, (q_156_31 V), a_282, k_156, n_282]
/-! M_image -/
set_option maxRecDepth 20000 in
theorem rm_329 {d x : Nat} {R : sm_R} {G : sm_G} {L : sm_L} : sm_cv0 (d + 1) 329 342 R [.ref 156] (x, G, L) =
  if ((sm_up G 156 0 (i3 0)) 156 39) = (i3 3) then
    (oI m1 x (sm_up G 156 0 (i3 0)) L)
  else (gd (Nat.ble 24 (sm_K (R 156 30)) && Nat.ble (sm_K (R 156 30)) 27 && Nat.ble (R 156 30) 342) (gd (sm_in ((sm_up G 156 0 (i3 0)) 156 39) (sm_N (R 156 30))) (sm_aV (sm_cv0 d 330 342 R [.ref 156, .ref (R (R 156 30) ((sm_up G 156 0 (i3 0)) 156 39).toNatClampNeg), .int (i3 0)] (x, sm_up G 156 0 (i3 0), L)) (fun x1 G1 L1 =>
      oI ((sm_up G1 156 39 ((G1 156 39) + (i3 1))) 156 39) x1 (sm_up G1 156 39 ((G1 156 39) + (i3 1))) L1) oX))) := (cv_eq rfl rfl).trans (hD_eq.trans rfl)
set_option maxRecDepth 20000 in
theorem m_329 {d x : Nat} {V : pV} {G : sm_G} {L : sm_L} : sm_cv0 (d + 1) 329 342 (RR V) [.ref 156] (x, G, L) =
  if ((sm_up G 156 0 (i3 0)) 156 39) = (i3 3) then
    (oI m1 x (sm_up G 156 0 (i3 0)) L)
  else (gd (sm_in ((sm_up G 156 0 (i3 0)) 156 39) 3) (sm_aV (sm_cv0 d 330 342 (RR V) [.ref 156, .ref (RR V 278 ((sm_up G 156 0 (i3 0)) 156 39).toNatClampNeg), .int (i3 0)] (x, sm_up G 156 0 (i3 0), L)) (fun x1 G1 L1 =>
      oI ((sm_up G1 156 39 ((G1 156 39) + (i3 1))) 156 39) x1 (sm_up G1 156 39 ((G1 156 39) + (i3 1))) L1) oX)) := by
  rw [rm_329]
  try simp only [gd_tt, (q_156_30 V), a_278, k_156, n_278]
/-! M_movesAll -/
set_option maxRecDepth 20000 in
theorem rm_330 {d x : Nat} {R : sm_R} {G : sm_G} {L : sm_L} {r1 : Nat} {v2 : Int32} : sm_cv0 (d + 1) 330 342 R [.ref 156, .ref r1, .int v2] (x, G, L) =
  sm_aV (sm_cv0 d 324 342 R [.ref 156, .ref r1, .int v2] (x, sm_up G 156 40 (i3 0), L)) (fun x1 G1 L1 =>
    sm_aI (sm_cv0 d 325 342 R [.ref 156, .ref r1, .int (G1 156 37), .int v2] (x1, G1, L1)) (fun a2 x2 G2 L2 =>
      sm_aI (sm_cv0 d 325 342 R [.ref 156, .ref r1, .int ((sm_up G2 156 37 a2) 156 38), .int v2] (x2, sm_up G2 156 37 a2, L2)) (fun a3 x3 G3 L3 =>
        hD d 330 41 [.ref 156, .ref r1, .int v2, .int (i3 0), .null] 342 R x3 (sm_up G3 156 38 a3) L3) oX) oX) oX := (cv_eq rfl rfl).trans (hD_eq.trans rfl)
set_option maxRecDepth 20000 in
theorem m_330 {d x : Nat} {V : pV} {G : sm_G} {L : sm_L} {r1 : Nat} {v2 : Int32} : sm_cv0 (d + 1) 330 342 (RR V) [.ref 156, .ref r1, .int v2] (x, G, L) =
  sm_aV (sm_cv0 d 324 342 (RR V) [.ref 156, .ref r1, .int v2] (x, sm_up G 156 40 (i3 0), L)) (fun x1 G1 L1 =>
    sm_aI (sm_cv0 d 325 342 (RR V) [.ref 156, .ref r1, .int (G1 156 37), .int v2] (x1, G1, L1)) (fun a2 x2 G2 L2 =>
      sm_aI (sm_cv0 d 325 342 (RR V) [.ref 156, .ref r1, .int ((sm_up G2 156 37 a2) 156 38), .int v2] (x2, sm_up G2 156 37 a2, L2)) (fun a3 x3 G3 L3 =>
        hD d 330 41 [.ref 156, .ref r1, .int v2, .int (i3 0), .null] 342 (RR V) x3 (sm_up G3 156 38 a3) L3) oX) oX) oX := by
  rw [rm_330]
  try simp only [gd_tt, k_156]
set_option maxRecDepth 20000 in
theorem rh_330_41 {d x : Nat} {R : sm_R} {G : sm_G} {L : sm_L} {r1 : Nat} {v2 v3 : Int32} : hD d 330 41 [.ref 156, .ref r1, .int v2, .int v3, .null] 342 R x G L =
  if v3 < (i3 20) then
    (hD d 330 50 [.ref 156, .ref r1, .int v2, .int v3, .int (i3 0)] 342 R x G L)
  else (oV x G L) := hD_eq.trans rfl
theorem h_330_41 {d x : Nat} {V : pV} {G : sm_G} {L : sm_L} {r1 : Nat} {v2 v3 : Int32} : hD d 330 41 [.ref 156, .ref r1, .int v2, .int v3, .null] 342 (RR V) x G L =
  if v3 < (i3 20) then
    (hD d 330 50 [.ref 156, .ref r1, .int v2, .int v3, .int (i3 0)] 342 (RR V) x G L)
  else (oV x G L) := rh_330_41
set_option maxRecDepth 20000 in
theorem rh_330_50 {d x : Nat} {R : sm_R} {G : sm_G} {L : sm_L} {r1 : Nat} {v2 v3 v4 : Int32} : hD d 330 50 [.ref 156, .ref r1, .int v2, .int v3, .int v4] 342 R x G L =
  if v4 < (i3 41) then
    (gd (Nat.ble 24 (sm_K (R 156 31)) && Nat.ble (sm_K (R 156 31)) 27 && Nat.ble (R 156 31) 342) (gd (sm_in v3 (sm_N (R 156 31))) (gd (Nat.ble 24 (sm_K (R 156 31)) && Nat.ble (sm_K (R 156 31)) 27 && Nat.ble (R 156 31) 342) (gd (sm_in v3 (sm_N (R 156 31))) (ldi (R (R 156 31) v3.toNatClampNeg) v4 G (fun y1 => sm_aI (sm_cv0 d 325 342 R [.ref 156, .ref r1, .int y1, .int v2] (x, G, L)) (fun a2 x2 G2 L2 =>
      gd (sm_is (R (R 156 31) v3.toNatClampNeg) 342 20) (gd (sm_in v4 (sm_N (R (R 156 31) v3.toNatClampNeg))) (hD d 330 50 [.ref 156, .ref r1, .int v2, .int v3, .int (v4 + (i3 1))] 342 R x2 (sm_up G2 (R (R 156 31) v3.toNatClampNeg) v4.toNatClampNeg a2) L2))) oX))))))
  else (hD d 330 41 [.ref 156, .ref r1, .int v2, .int (v3 + (i3 1)), .null] 342 R x G L) := hD_eq.trans rfl
set_option maxRecDepth 20000 in
theorem h_330_50 {d x : Nat} {V : pV} {G : sm_G} {L : sm_L} {r1 : Nat} {v2 v3 v4 : Int32} : hD d 330 50 [.ref 156, .ref r1, .int v2, .int v3, .int v4] 342 (RR V) x G L =
  if v4 < (i3 41) then
    (gd (sm_in v3 20) (gd (sm_in v3 20) (ldi (RR V 282 v3.toNatClampNeg) v4 G (fun y1 => sm_aI (sm_cv0 d 325 342 (RR V) [.ref 156, .ref r1, .int y1, .int v2] (x, G, L)) (fun a2 x2 G2 L2 =>
      gd (sm_is (RR V 282 v3.toNatClampNeg) 342 20) (gd (sm_in v4 (sm_N (RR V 282 v3.toNatClampNeg))) (hD d 330 50 [.ref 156, .ref r1, .int v2, .int v3, .int (v4 + (i3 1))] 342 (RR V) x2 (sm_up G2 (RR V 282 v3.toNatClampNeg) v4.toNatClampNeg a2) L2))) oX))))
  else (hD d 330 41 [.ref 156, .ref r1, .int v2, .int (v3 + (i3 1)), .null] 342 (RR V) x G L) := by
  rw [rh_330_50]
  try simp only [gd_tt, (q_156_31 V), a_282, k_156, n_282]
/-! M_restore -/
set_option maxRecDepth 20000 in
theorem rm_331 {d x : Nat} {R : sm_R} {G : sm_G} {L : sm_L} : sm_cv0 (d + 1) 331 342 R [.ref 156] (x, G, L) =
  if ((sm_up G 156 0 (i3 0)) 156 39) = (i3 0) then
    (oI m1 x (sm_up G 156 0 (i3 0)) L)
  else (gd (Nat.ble 24 (sm_K (R 156 30)) && Nat.ble (sm_K (R 156 30)) 27 && Nat.ble (R 156 30) 342) (gd (sm_in ((sm_up (sm_up G 156 0 (i3 0)) 156 39 (((sm_up G 156 0 (i3 0)) 156 39) - (i3 1))) 156 39) (sm_N (R 156 30))) (sm_aV (sm_cv0 d 330 342 R [.ref 156, .ref (R (R 156 30) ((sm_up (sm_up G 156 0 (i3 0)) 156 39 (((sm_up G 156 0 (i3 0)) 156 39) - (i3 1))) 156 39).toNatClampNeg), .int (i3 1)] (x, sm_up (sm_up G 156 0 (i3 0)) 156 39 (((sm_up G 156 0 (i3 0)) 156 39) - (i3 1)), L)) (fun x1 G1 L1 =>
      oI (G1 156 39) x1 G1 L1) oX))) := (cv_eq rfl rfl).trans (hD_eq.trans rfl)
set_option maxRecDepth 20000 in
theorem m_331 {d x : Nat} {V : pV} {G : sm_G} {L : sm_L} : sm_cv0 (d + 1) 331 342 (RR V) [.ref 156] (x, G, L) =
  if ((sm_up G 156 0 (i3 0)) 156 39) = (i3 0) then
    (oI m1 x (sm_up G 156 0 (i3 0)) L)
  else (gd (sm_in ((sm_up (sm_up G 156 0 (i3 0)) 156 39 (((sm_up G 156 0 (i3 0)) 156 39) - (i3 1))) 156 39) 3) (sm_aV (sm_cv0 d 330 342 (RR V) [.ref 156, .ref (RR V 278 ((sm_up (sm_up G 156 0 (i3 0)) 156 39 (((sm_up G 156 0 (i3 0)) 156 39) - (i3 1))) 156 39).toNatClampNeg), .int (i3 1)] (x, sm_up (sm_up G 156 0 (i3 0)) 156 39 (((sm_up G 156 0 (i3 0)) 156 39) - (i3 1)), L)) (fun x1 G1 L1 =>
      oI (G1 156 39) x1 G1 L1) oX)) := by
  rw [rm_331]
  try simp only [gd_tt, (q_156_30 V), a_278, k_156, n_278]
/-! M_status -/
set_option maxRecDepth 20000 in
theorem rm_332 {d x : Nat} {R : sm_R} {G : sm_G} {L : sm_L} {v1 : Int32} : sm_cv0 (d + 1) 332 342 R [.ref 156, .int v1] (x, G, L) =
  sm_aI (sm_cv0 d 218 342 R [.int v1, .int (i3 0), .int (i3 3)] (x, sm_up G 156 0 (i3 0), L)) (fun a1 x1 G1 L1 =>
    if a1 = (i3 0) then
      (oI m1 x1 G1 L1)
    else (ldi (R 156 10) v1 G1 (fun y2 => oI y2 x1 G1 L1))) oX := (cv_eq rfl rfl).trans (hD_eq.trans rfl)
set_option maxRecDepth 20000 in
theorem m_332 {d x : Nat} {V : pV} {G : sm_G} {L : sm_L} {v1 : Int32} : sm_cv0 (d + 1) 332 342 (RR V) [.ref 156, .int v1] (x, G, L) =
  sm_aI (sm_cv0 d 218 342 (RR V) [.int v1, .int (i3 0), .int (i3 3)] (x, sm_up G 156 0 (i3 0), L)) (fun a1 x1 G1 L1 =>
    if a1 = (i3 0) then
      (oI m1 x1 G1 L1)
    else (gd (sm_in v1 4) (oI (G1 158 v1.toNatClampNeg) x1 G1 L1))) oX := by
  rw [rm_332]
  try simp only [gd_tt, (q_156_10 V), k_156, ldi_e k_158 n_158, n_158]
/-! M_count -/
set_option maxRecDepth 20000 in
theorem rm_333 {d x : Nat} {R : sm_R} {G : sm_G} {L : sm_L} {v1 : Int32} : sm_cv0 (d + 1) 333 342 R [.ref 156, .int v1] (x, G, L) =
  if v1 = (i3 0) then
    (oI ((sm_up G 156 0 (i3 0)) 156 39) x (sm_up G 156 0 (i3 0)) L)
  else (if v1 = (i3 1) then
      (oI ((sm_up G 156 0 (i3 0)) 156 1) x (sm_up G 156 0 (i3 0)) L)
    else (if v1 = (i3 2) then
        (oI ((sm_up G 156 0 (i3 0)) 156 38) x (sm_up G 156 0 (i3 0)) L)
      else (oI m1 x (sm_up G 156 0 (i3 0)) L))) := (cv_eq rfl rfl).trans (hD_eq.trans rfl)
set_option maxRecDepth 20000 in
theorem m_333 {d x : Nat} {V : pV} {G : sm_G} {L : sm_L} {v1 : Int32} : sm_cv0 (d + 1) 333 342 (RR V) [.ref 156, .int v1] (x, G, L) =
  if v1 = (i3 0) then
    (oI ((sm_up G 156 0 (i3 0)) 156 39) x (sm_up G 156 0 (i3 0)) L)
  else (if v1 = (i3 1) then
      (oI ((sm_up G 156 0 (i3 0)) 156 1) x (sm_up G 156 0 (i3 0)) L)
    else (if v1 = (i3 2) then
        (oI ((sm_up G 156 0 (i3 0)) 156 38) x (sm_up G 156 0 (i3 0)) L)
      else (oI m1 x (sm_up G 156 0 (i3 0)) L))) := by
  rw [rm_333]
  try simp only [gd_tt, k_156]
