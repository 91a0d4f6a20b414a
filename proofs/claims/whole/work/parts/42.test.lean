/-! test -/
/-! Street_roomsOf -/
set_option maxRecDepth 20000 in
theorem rm_118 {d x : Nat} {R : sm_R} {G : sm_G} {L : sm_L} {r0 : Nat} {v1 : Int32} : sm_cv0 (d + 1) 118 342 R [.ref r0, .int v1] (x, G, L) =
  hD d 118 4 [.ref r0, .int v1, .int v1, .int (i3 0)] 342 R x G L := (cv_eq rfl rfl).trans (hD_eq.trans rfl)
theorem m_118 {d x : Nat} {V : pV} {G : sm_G} {L : sm_L} {r0 : Nat} {v1 : Int32} (hr0 : pS r0) : sm_cv0 (d + 1) 118 342 (RR V) [.ref r0, .int v1] (x, G, L) =
  hD d 118 4 [.ref r0, .int v1, .int v1, .int (i3 0)] 342 (RR V) x G L := rm_118
set_option maxRecDepth 20000 in
theorem rh_118_4 {d x : Nat} {R : sm_R} {G : sm_G} {L : sm_L} {r0 : Nat} {v1 v2 v3 : Int32} : hD d 118 4 [.ref r0, .int v1, .int v2, .int v3] 342 R x G L =
  gd (sm_is r0 342 5) (if v3 < (G r0 11) then
    (gd (sm_is r0 342 5) (ldi (R r0 3) v3 G (fun y1 => if (v1 &&& y1) = (i3 0) then
      (hD d 118 4 [.ref r0, .int v1, .int v2, .int (v3 + (i3 1))] 342 R x G L)
    else (gd (sm_is r0 342 5) (ldi (R r0 3) v3 G (fun y2 => hD d 118 4 [.ref r0, .int v1, .int (v2 ||| y2), .int (v3 + (i3 1))] 342 R x G L))))))
  else (oI v2 x G L)) := hD_eq.trans rfl
set_option maxRecDepth 20000 in
theorem h_118_4 {d x : Nat} {V : pV} {G : sm_G} {L : sm_L} {r0 : Nat} {v1 v2 v3 : Int32} (hr0 : pS r0) : hD d 118 4 [.ref r0, .int v1, .int v2, .int v3] 342 (RR V) x G L =
  if v3 < (G r0 11) then
    (gd (sm_in v3 3) (if (v1 &&& (G (r0 + 12) v3.toNatClampNeg)) = (i3 0) then
      (hD d 118 4 [.ref r0, .int v1, .int v2, .int (v3 + (i3 1))] 342 (RR V) x G L)
    else (gd (sm_in v3 3) (hD d 118 4 [.ref r0, .int v1, .int (v2 ||| (G (r0 + 12) v3.toNatClampNeg)), .int (v3 + (i3 1))] 342 (RR V) x G L))))
  else (oI v2 x G L) := by
  rw [rh_118_4]
  try simp only [gd_tt, (fS_0_3 V hr0), (kS_0 hr0), (nS_12 hr0), ldi_e (kS_12 hr0) (nS_12 hr0)]
/-! Tape_skipBlanks -/
theorem m_137 {d x : Nat} {V : pV} {G : sm_G} {L : sm_L} : sm_cv0 (d + 1) 137 342 (RR V) [.ref 2] (x, G, L) = hD d 137 0 [.ref 2] 342 (RR V) x G L := cv_eq rfl rfl
set_option maxRecDepth 20000 in
theorem rh_137_0 {d x : Nat} {R : sm_R} {G : sm_G} {L : sm_L} : hD d 137 0 [.ref 2] 342 R x G L =
  if (G 2 3) < (G 2 2) then
    (gd (sm_is (R 2 0) 342 21 || sm_is (R 2 0) 342 22) (gd (sm_in (G 2 3) (sm_N (R 2 0))) (if (G (R 2 0) ((G 2 3).toNatClampNeg)) = (i3 32) then
      (hD d 137 0 [.ref 2] 342 R x (sm_up G 2 3 ((G 2 3) + (i3 1))) L)
    else (oV x G L))))
  else (oV x G L) := hD_eq.trans rfl
set_option maxRecDepth 20000 in
theorem h_137_0 {d x : Nat} {V : pV} {G : sm_G} {L : sm_L} : hD d 137 0 [.ref 2] 342 (RR V) x G L =
  if (G 2 3) < (G 2 2) then
    (gd (sm_in (G 2 3) 600) (if (G 3 ((G 2 3).toNatClampNeg)) = (i3 32) then
      (hD d 137 0 [.ref 2] 342 (RR V) x (sm_up G 2 3 ((G 2 3) + (i3 1))) L)
    else (oV x G L)))
  else (oV x G L) := by
  rw [rh_137_0]
  try simp only [gd_tt, (q_2_0 V), Bool.false_or, Bool.true_or, k_2, k_3, n_3]
/-! Tape_number -/
set_option maxRecDepth 20000 in
theorem rm_143 {d x : Nat} {R : sm_R} {G : sm_G} {L : sm_L} {v1 v2 : Int32} : sm_cv0 (d + 1) 143 342 R [.ref 2, .int v1, .int v2] (x, G, L) =
  sm_aI (sm_cv0 d 135 342 R [.ref 2] (x, G, L)) (fun a1 x1 G1 L1 =>
    if a1 = (i3 0) then
      (sm_aV (sm_cv0 d 137 342 R [.ref 2] (x1, G1, L1)) (fun x2 G2 L2 =>
        hD d 143 23 [.ref 2, .int v1, .int v2, .int (i3 0)] 342 R x2 (sm_up G2 2 6 (G2 2 3)) L2) oX)
    else (oI (i3 0) x1 G1 L1)) oX := (cv_eq rfl rfl).trans (hD_eq.trans rfl)
set_option maxRecDepth 20000 in
theorem m_143 {d x : Nat} {V : pV} {G : sm_G} {L : sm_L} {v1 v2 : Int32} : sm_cv0 (d + 1) 143 342 (RR V) [.ref 2, .int v1, .int v2] (x, G, L) =
  sm_aI (sm_cv0 d 135 342 (RR V) [.ref 2] (x, G, L)) (fun a1 x1 G1 L1 =>
    if a1 = (i3 0) then
      (sm_aV (sm_cv0 d 137 342 (RR V) [.ref 2] (x1, G1, L1)) (fun x2 G2 L2 =>
        hD d 143 23 [.ref 2, .int v1, .int v2, .int (i3 0)] 342 (RR V) x2 (sm_up G2 2 6 (G2 2 3)) L2) oX)
    else (oI (i3 0) x1 G1 L1)) oX := by
  rw [rm_143]
  try simp only [gd_tt, k_2]
set_option maxRecDepth 20000 in
theorem rh_143_23 {d x : Nat} {R : sm_R} {G : sm_G} {L : sm_L} {v1 v2 v3 : Int32} : hD d 143 23 [.ref 2, .int v1, .int v2, .int v3] 342 R x G L =
  if (G 2 3) < (G 2 2) then
    (gd (sm_is (R 2 0) 342 21 || sm_is (R 2 0) 342 22) (gd (sm_in (G 2 3) (sm_N (R 2 0))) (if (G (R 2 0) ((G 2 3).toNatClampNeg)) < (i3 48) then
      (hD d 143 103 [.ref 2, .int v1, .int v2, .int v3] 342 R x G L)
    else (gd (sm_is (R 2 0) 342 21 || sm_is (R 2 0) 342 22) (gd (sm_in (G 2 3) (sm_N (R 2 0))) (if (G (R 2 0) ((G 2 3).toNatClampNeg)) ≤ (i3 57) then
        (if v3 < (i3 100000) then
          (gd (sm_is (R 2 0) 342 21 || sm_is (R 2 0) 342 22) (gd (sm_in (G 2 3) (sm_N (R 2 0))) (hD d 143 23 [.ref 2, .int v1, .int v2, .int (((v3 * (i3 10)) + (G (R 2 0) ((G 2 3).toNatClampNeg))) - (i3 48))] 342 R x (sm_up G 2 3 ((G 2 3) + (i3 1))) L)))
        else (hD d 143 23 [.ref 2, .int v1, .int v2, .int v3] 342 R x (sm_up G 2 3 ((G 2 3) + (i3 1))) L))
      else (hD d 143 103 [.ref 2, .int v1, .int v2, .int v3] 342 R x G L)))))))
  else (hD d 143 103 [.ref 2, .int v1, .int v2, .int v3] 342 R x G L) := hD_eq.trans rfl
set_option maxRecDepth 20000 in
theorem h_143_23 {d x : Nat} {V : pV} {G : sm_G} {L : sm_L} {v1 v2 v3 : Int32} : hD d 143 23 [.ref 2, .int v1, .int v2, .int v3] 342 (RR V) x G L =
  if (G 2 3) < (G 2 2) then
    (gd (sm_in (G 2 3) 600) (if (G 3 ((G 2 3).toNatClampNeg)) < (i3 48) then
      (hD d 143 103 [.ref 2, .int v1, .int v2, .int v3] 342 (RR V) x G L)
    else (gd (sm_in (G 2 3) 600) (if (G 3 ((G 2 3).toNatClampNeg)) ≤ (i3 57) then
        (if v3 < (i3 100000) then
          (gd (sm_in (G 2 3) 600) (hD d 143 23 [.ref 2, .int v1, .int v2, .int (((v3 * (i3 10)) + (G 3 ((G 2 3).toNatClampNeg))) - (i3 48))] 342 (RR V) x (sm_up G 2 3 ((G 2 3) + (i3 1))) L))
        else (hD d 143 23 [.ref 2, .int v1, .int v2, .int v3] 342 (RR V) x (sm_up G 2 3 ((G 2 3) + (i3 1))) L))
      else (hD d 143 103 [.ref 2, .int v1, .int v2, .int v3] 342 (RR V) x G L)))))
  else (hD d 143 103 [.ref 2, .int v1, .int v2, .int v3] 342 (RR V) x G L) := by
  rw [rh_143_23]
  try simp only [gd_tt, (q_2_0 V), Bool.false_or, Bool.true_or, k_2, k_3, n_3]
set_option maxRecDepth 20000 in
theorem rh_143_103 {d x : Nat} {R : sm_R} {G : sm_G} {L : sm_L} {v1 v2 v3 : Int32} : hD d 143 103 [.ref 2, .int v1, .int v2, .int v3] 342 R x G L =
  if (G 2 3) = (G 2 6) then
    (sm_aV (sm_cv0 d 139 342 R [.ref 2, .int (i3 1), .int (G 2 3)] (x, G, L)) (fun x1 G1 L1 =>
      hD d 143 140 [.ref 2, .null, .null, .int v3] 342 R x1 G1 L1) oX)
  else (if v3 < v1 then
      (sm_aV (sm_cv0 d 144 342 R [.ref 2] (x, G, L)) (fun x2 G2 L2 =>
        hD d 143 140 [.ref 2, .null, .null, .int v3] 342 R x2 G2 L2) oX)
    else (if v3 ≤ v2 then
        (hD d 143 140 [.ref 2, .null, .null, .int v3] 342 R x G L)
      else (sm_aV (sm_cv0 d 144 342 R [.ref 2] (x, G, L)) (fun x3 G3 L3 =>
          hD d 143 140 [.ref 2, .null, .null, .int v3] 342 R x3 G3 L3) oX))) := hD_eq.trans rfl
set_option maxRecDepth 20000 in
theorem h_143_103 {d x : Nat} {V : pV} {G : sm_G} {L : sm_L} {v1 v2 v3 : Int32} : hD d 143 103 [.ref 2, .int v1, .int v2, .int v3] 342 (RR V) x G L =
  if (G 2 3) = (G 2 6) then
    (sm_aV (sm_cv0 d 139 342 (RR V) [.ref 2, .int (i3 1), .int (G 2 3)] (x, G, L)) (fun x1 G1 L1 =>
      hD d 143 140 [.ref 2, .null, .null, .int v3] 342 (RR V) x1 G1 L1) oX)
  else (if v3 < v1 then
      (sm_aV (sm_cv0 d 144 342 (RR V) [.ref 2] (x, G, L)) (fun x2 G2 L2 =>
        hD d 143 140 [.ref 2, .null, .null, .int v3] 342 (RR V) x2 G2 L2) oX)
    else (if v3 ≤ v2 then
        (hD d 143 140 [.ref 2, .null, .null, .int v3] 342 (RR V) x G L)
      else (sm_aV (sm_cv0 d 144 342 (RR V) [.ref 2] (x, G, L)) (fun x3 G3 L3 =>
          hD d 143 140 [.ref 2, .null, .null, .int v3] 342 (RR V) x3 G3 L3) oX))) := by
  rw [rh_143_103]
  try simp only [gd_tt, k_2]
set_option maxRecDepth 20000 in
theorem rh_143_140 {d x : Nat} {R : sm_R} {G : sm_G} {L : sm_L} {v3 : Int32} : hD d 143 140 [.ref 2, .null, .null, .int v3] 342 R x G L =
  sm_aI (sm_cv0 d 135 342 R [.ref 2] (x, G, L)) (fun a1 x1 G1 L1 =>
    if a1 = (i3 0) then
      (oI v3 x1 G1 L1)
    else (oI (i3 0) x1 G1 L1)) oX := hD_eq.trans rfl
set_option maxRecDepth 20000 in
theorem h_143_140 {d x : Nat} {V : pV} {G : sm_G} {L : sm_L} {v3 : Int32} : hD d 143 140 [.ref 2, .null, .null, .int v3] 342 (RR V) x G L =
  sm_aI (sm_cv0 d 135 342 (RR V) [.ref 2] (x, G, L)) (fun a1 x1 G1 L1 =>
    if a1 = (i3 0) then
      (oI v3 x1 G1 L1)
    else (oI (i3 0) x1 G1 L1)) oX := by
  rw [rh_143_140]
  try simp only [gd_tt, k_2]
/-! Night_isSo -/
set_option maxRecDepth 20000 in
theorem rm_94 {d x : Nat} {R : sm_R} {G : sm_G} {L : sm_L} {r0 r1 r2 r3 : Nat} : sm_cv0 (d + 1) 94 342 R [.ref r0, .ref r1, .ref r2, .ref r3] (x, G, L) =
  gd (sm_is r3 342 10) (gd (sm_is r2 342 7) (ldi (R r3 1) (G r2 7) G (fun y1 => gd (sm_is r3 342 10) (gd (sm_is r2 342 7) (ldi (R r3 3) (G r2 7) G (fun y2 => if (shr y2 (i3 1)) = (i3 0) then
    (gd (sm_is r2 342 7) (if (G r2 1) = y1 then
      (hD d 94 72 [.null, .null, .null, .null, .null, .int y2, .int (i3 1)] 342 R x G L)
    else (hD d 94 72 [.null, .null, .null, .null, .null, .int y2, .int (i3 0)] 342 R x G L)))
  else if (shr y2 (i3 1)) = (i3 1) then
    (gd (sm_is r0 342 2) (if ((shr (G r0 4) y1) &&& (i3 1)) = (i3 0) then
      (hD d 94 94 [.null, .null, .null, .null, .null, .int y2, .int (i3 0)] 342 R x G L)
    else (hD d 94 94 [.null, .null, .null, .null, .null, .int y2, .int (i3 1)] 342 R x G L)))
  else if (shr y2 (i3 1)) = (i3 2) then
    (gd (sm_is r0 342 2) (if ((shr (G r0 7) y1) &&& (i3 1)) = (i3 0) then
      (hD d 94 116 [.null, .null, .null, .null, .null, .int y2, .int (i3 0)] 342 R x G L)
    else (hD d 94 116 [.null, .null, .null, .null, .null, .int y2, .int (i3 1)] 342 R x G L)))
  else if (shr y2 (i3 1)) = (i3 3) then
    (gd (sm_is r0 342 2) (sm_aI (sm_cv0 d 95 342 R [.ref r0, .ref r1, .ref r2] (x, G, L)) (fun a3 x3 G3 L3 =>
      hD d 94 127 [.null, .null, .null, .null, .null, .int y2, .int a3] 342 R x3 G3 L3) oX))
  else (gd (sm_is r0 342 2) (if (G r0 6) < y1 then
      (hD d 94 146 [.null, .null, .null, .null, .null, .int y2, .int (i3 0)] 342 R x G L)
    else (hD d 94 146 [.null, .null, .null, .null, .null, .int y2, .int (i3 1)] 342 R x G L))))))))) := (cv_eq rfl rfl).trans (hD_eq.trans rfl)
set_option maxRecDepth 20000 in
theorem m_94 {d x : Nat} {V : pV} {G : sm_G} {L : sm_L} {r0 r1 r2 r3 : Nat} (hr0 : pN r0) (hr1 : pS r1) (hr2 : pK r2) (hr3 : pW r3) : sm_cv0 (d + 1) 94 342 (RR V) [.ref r0, .ref r1, .ref r2, .ref r3] (x, G, L) =
  gd (sm_in (G r2 7) 40) (gd (sm_in (G r2 7) 40) (if (shr (G (r3 + 4) ((G r2 7).toNatClampNeg)) (i3 1)) = (i3 0) then
    (if (G r2 1) = (G (r3 + 2) ((G r2 7).toNatClampNeg)) then
      (hD d 94 72 [.null, .null, .null, .null, .null, .int (G (r3 + 4) ((G r2 7).toNatClampNeg)), .int (i3 1)] 342 (RR V) x G L)
    else (hD d 94 72 [.null, .null, .null, .null, .null, .int (G (r3 + 4) ((G r2 7).toNatClampNeg)), .int (i3 0)] 342 (RR V) x G L))
  else if (shr (G (r3 + 4) ((G r2 7).toNatClampNeg)) (i3 1)) = (i3 1) then
    (if ((shr (G r0 4) (G (r3 + 2) ((G r2 7).toNatClampNeg))) &&& (i3 1)) = (i3 0) then
      (hD d 94 94 [.null, .null, .null, .null, .null, .int (G (r3 + 4) ((G r2 7).toNatClampNeg)), .int (i3 0)] 342 (RR V) x G L)
    else (hD d 94 94 [.null, .null, .null, .null, .null, .int (G (r3 + 4) ((G r2 7).toNatClampNeg)), .int (i3 1)] 342 (RR V) x G L))
  else if (shr (G (r3 + 4) ((G r2 7).toNatClampNeg)) (i3 1)) = (i3 2) then
    (if ((shr (G r0 7) (G (r3 + 2) ((G r2 7).toNatClampNeg))) &&& (i3 1)) = (i3 0) then
      (hD d 94 116 [.null, .null, .null, .null, .null, .int (G (r3 + 4) ((G r2 7).toNatClampNeg)), .int (i3 0)] 342 (RR V) x G L)
    else (hD d 94 116 [.null, .null, .null, .null, .null, .int (G (r3 + 4) ((G r2 7).toNatClampNeg)), .int (i3 1)] 342 (RR V) x G L))
  else if (shr (G (r3 + 4) ((G r2 7).toNatClampNeg)) (i3 1)) = (i3 3) then
    (sm_aI (sm_cv0 d 95 342 (RR V) [.ref r0, .ref r1, .ref r2] (x, G, L)) (fun a3 x3 G3 L3 =>
      hD d 94 127 [.null, .null, .null, .null, .null, .int (G (r3 + 4) ((G r2 7).toNatClampNeg)), .int a3] 342 (RR V) x3 G3 L3) oX)
  else (if (G r0 6) < (G (r3 + 2) ((G r2 7).toNatClampNeg)) then
      (hD d 94 146 [.null, .null, .null, .null, .null, .int (G (r3 + 4) ((G r2 7).toNatClampNeg)), .int (i3 0)] 342 (RR V) x G L)
    else (hD d 94 146 [.null, .null, .null, .null, .null, .int (G (r3 + 4) ((G r2 7).toNatClampNeg)), .int (i3 1)] 342 (RR V) x G L)))) := by
  rw [rm_94]
  try simp only [gd_tt, (fW_0_1 V hr3), (fW_0_3 V hr3), (kK_0 hr2), (kN_0 hr0), (kW_0 hr3), (nW_2 hr3), (nW_4 hr3), ldi_e (kW_2 hr3) (nW_2 hr3), ldi_e (kW_4 hr3) (nW_4 hr3)]
set_option maxRecDepth 20000 in
theorem rh_94_72 {d x : Nat} {R : sm_R} {G : sm_G} {L : sm_L} {v5 v6 : Int32} : hD d 94 72 [.null, .null, .null, .null, .null, .int v5, .int v6] 342 R x G L =
  hD d 94 146 [.null, .null, .null, .null, .null, .int v5, .int v6] 342 R x G L := hD_eq.trans rfl
theorem h_94_72 {d x : Nat} {V : pV} {G : sm_G} {L : sm_L} {v5 v6 : Int32} : hD d 94 72 [.null, .null, .null, .null, .null, .int v5, .int v6] 342 (RR V) x G L =
  hD d 94 146 [.null, .null, .null, .null, .null, .int v5, .int v6] 342 (RR V) x G L := rh_94_72
set_option maxRecDepth 20000 in
theorem rh_94_94 {d x : Nat} {R : sm_R} {G : sm_G} {L : sm_L} {v5 v6 : Int32} : hD d 94 94 [.null, .null, .null, .null, .null, .int v5, .int v6] 342 R x G L =
  hD d 94 146 [.null, .null, .null, .null, .null, .int v5, .int v6] 342 R x G L := hD_eq.trans rfl
theorem h_94_94 {d x : Nat} {V : pV} {G : sm_G} {L : sm_L} {v5 v6 : Int32} : hD d 94 94 [.null, .null, .null, .null, .null, .int v5, .int v6] 342 (RR V) x G L =
  hD d 94 146 [.null, .null, .null, .null, .null, .int v5, .int v6] 342 (RR V) x G L := rh_94_94
set_option maxRecDepth 20000 in
theorem rh_94_116 {d x : Nat} {R : sm_R} {G : sm_G} {L : sm_L} {v5 v6 : Int32} : hD d 94 116 [.null, .null, .null, .null, .null, .int v5, .int v6] 342 R x G L =
  hD d 94 146 [.null, .null, .null, .null, .null, .int v5, .int v6] 342 R x G L := hD_eq.trans rfl
theorem h_94_116 {d x : Nat} {V : pV} {G : sm_G} {L : sm_L} {v5 v6 : Int32} : hD d 94 116 [.null, .null, .null, .null, .null, .int v5, .int v6] 342 (RR V) x G L =
  hD d 94 146 [.null, .null, .null, .null, .null, .int v5, .int v6] 342 (RR V) x G L := rh_94_116
set_option maxRecDepth 20000 in
theorem rh_94_127 {d x : Nat} {R : sm_R} {G : sm_G} {L : sm_L} {v5 v6 : Int32} : hD d 94 127 [.null, .null, .null, .null, .null, .int v5, .int v6] 342 R x G L =
  hD d 94 146 [.null, .null, .null, .null, .null, .int v5, .int v6] 342 R x G L := hD_eq.trans rfl
theorem h_94_127 {d x : Nat} {V : pV} {G : sm_G} {L : sm_L} {v5 v6 : Int32} : hD d 94 127 [.null, .null, .null, .null, .null, .int v5, .int v6] 342 (RR V) x G L =
  hD d 94 146 [.null, .null, .null, .null, .null, .int v5, .int v6] 342 (RR V) x G L := rh_94_127
set_option maxRecDepth 20000 in
theorem rh_94_146 {d x : Nat} {R : sm_R} {G : sm_G} {L : sm_L} {v5 v6 : Int32} : hD d 94 146 [.null, .null, .null, .null, .null, .int v5, .int v6] 342 R x G L =
  if (v5 &&& (i3 1)) = (i3 0) then
    (if v6 = (i3 0) then
      (oI (i3 0) x G L)
    else (oI (i3 1) x G L))
  else (if v6 = (i3 1) then
      (oI (i3 0) x G L)
    else (oI (i3 1) x G L)) := hD_eq.trans rfl
theorem h_94_146 {d x : Nat} {V : pV} {G : sm_G} {L : sm_L} {v5 v6 : Int32} : hD d 94 146 [.null, .null, .null, .null, .null, .int v5, .int v6] 342 (RR V) x G L =
  if (v5 &&& (i3 1)) = (i3 0) then
    (if v6 = (i3 0) then
      (oI (i3 0) x G L)
    else (oI (i3 1) x G L))
  else (if v6 = (i3 1) then
      (oI (i3 0) x G L)
    else (oI (i3 1) x G L)) := rh_94_146
/-! Street_behind -/
set_option maxRecDepth 20000 in
theorem rm_119 {d x : Nat} {R : sm_R} {G : sm_G} {L : sm_L} {r0 : Nat} {v1 v2 : Int32} : sm_cv0 (d + 1) 119 342 R [.ref r0, .int v1, .int v2] (x, G, L) =
  hD d 119 5 [.ref r0, .int v1, .int v2, .int (i3 0), .int (i3 0)] 342 R x G L := (cv_eq rfl rfl).trans (hD_eq.trans rfl)
theorem m_119 {d x : Nat} {V : pV} {G : sm_G} {L : sm_L} {r0 : Nat} {v1 v2 : Int32} (hr0 : pS r0) : sm_cv0 (d + 1) 119 342 (RR V) [.ref r0, .int v1, .int v2] (x, G, L) =
  hD d 119 5 [.ref r0, .int v1, .int v2, .int (i3 0), .int (i3 0)] 342 (RR V) x G L := rm_119
set_option maxRecDepth 20000 in
theorem rh_119_5 {d x : Nat} {R : sm_R} {G : sm_G} {L : sm_L} {r0 : Nat} {v1 v2 v3 v4 : Int32} : hD d 119 5 [.ref r0, .int v1, .int v2, .int v3, .int v4] 342 R x G L =
  gd (sm_is r0 342 5) (if v4 < (G r0 10) then
    (if ((shr v2 v4) &&& (i3 1)) = (i3 0) then
      (hD d 119 70 [.ref r0, .int v1, .int v2, .int v3, .int (v4 + (i3 1))] 342 R x G L)
    else (gd (sm_is r0 342 5) (ldi (R r0 4) v4 G (fun y1 => gd (sm_is r0 342 5) (ldi (R r0 5) v4 G (fun y2 => gd (sm_is r0 342 5) (ldi (R r0 5) v4 G (fun y3 => gd (sm_is r0 342 5) (ldi (R r0 4) v4 G (fun y4 => hD d 119 70 [.ref r0, .int v1, .int v2, .int ((v3 ||| (shl ((shr v1 y1) &&& (i3 1)) y2)) ||| (shl ((shr v1 y3) &&& (i3 1)) y4)), .int (v4 + (i3 1))] 342 R x G L))))))))))
  else (oI v3 x G L)) := hD_eq.trans rfl
set_option maxRecDepth 20000 in
theorem h_119_5 {d x : Nat} {V : pV} {G : sm_G} {L : sm_L} {r0 : Nat} {v1 v2 v3 v4 : Int32} (hr0 : pS r0) : hD d 119 5 [.ref r0, .int v1, .int v2, .int v3, .int v4] 342 (RR V) x G L =
  if v4 < (G r0 10) then
    (if ((shr v2 v4) &&& (i3 1)) = (i3 0) then
      (hD d 119 70 [.ref r0, .int v1, .int v2, .int v3, .int (v4 + (i3 1))] 342 (RR V) x G L)
    else (gd (sm_in v4 10) (gd (sm_in v4 10) (gd (sm_in v4 10) (gd (sm_in v4 10) (hD d 119 70 [.ref r0, .int v1, .int v2, .int ((v3 ||| (shl ((shr v1 (G (r0 + 13) v4.toNatClampNeg)) &&& (i3 1)) (G (r0 + 14) v4.toNatClampNeg))) ||| (shl ((shr v1 (G (r0 + 14) v4.toNatClampNeg)) &&& (i3 1)) (G (r0 + 13) v4.toNatClampNeg))), .int (v4 + (i3 1))] 342 (RR V) x G L))))))
  else (oI v3 x G L) := by
  rw [rh_119_5]
  try simp only [gd_tt, (fS_0_4 V hr0), (fS_0_5 V hr0), (kS_0 hr0), (nS_13 hr0), (nS_14 hr0), ldi_e (kS_13 hr0) (nS_13 hr0), ldi_e (kS_14 hr0) (nS_14 hr0)]
set_option maxRecDepth 20000 in
theorem rh_119_70 {d x : Nat} {R : sm_R} {G : sm_G} {L : sm_L} {r0 : Nat} {v1 v2 v3 v4 : Int32} : hD d 119 70 [.ref r0, .int v1, .int v2, .int v3, .int v4] 342 R x G L =
  hD d 119 5 [.ref r0, .int v1, .int v2, .int v3, .int v4] 342 R x G L := hD_eq.trans rfl
theorem h_119_70 {d x : Nat} {V : pV} {G : sm_G} {L : sm_L} {r0 : Nat} {v1 v2 v3 v4 : Int32} (hr0 : pS r0) : hD d 119 70 [.ref r0, .int v1, .int v2, .int v3, .int v4] 342 (RR V) x G L =
  hD d 119 5 [.ref r0, .int v1, .int v2, .int v3, .int v4] 342 (RR V) x G L := rh_119_70
/-! Hours_fill -/
set_option maxRecDepth 20000 in
theorem rm_78 {d x : Nat} {R : sm_R} {G : sm_G} {L : sm_L} {r1 : Nat} : sm_cv0 (d + 1) 78 342 R [.ref 54, .ref r1] (x, G, L) =
  gd (sm_is r1 342 5) (gd (sm_is (R r1 0) 342 3) (sm_aV (sm_cv0 d 6 342 R [.ref (R 54 0), .int (G (R r1 0) 9)] (x, G, L)) (fun x1 G1 L1 =>
    hD d 78 16 [.ref 54, .ref r1, .int (i3 0), .null] 342 R x1 G1 L1) oX)) := (cv_eq rfl rfl).trans (hD_eq.trans rfl)
set_option maxRecDepth 20000 in
theorem m_78 {d x : Nat} {V : pV} {G : sm_G} {L : sm_L} {r1 : Nat} (hr1 : pS r1) : sm_cv0 (d + 1) 78 342 (RR V) [.ref 54, .ref r1] (x, G, L) =
  sm_aV (sm_cv0 d 6 342 (RR V) [.ref 55, .int (G (r1 + 1) 9)] (x, G, L)) (fun x1 G1 L1 =>
    hD d 78 16 [.ref 54, .ref r1, .int (i3 0), .null] 342 (RR V) x1 G1 L1) oX := by
  rw [rm_78]
  try simp only [gd_tt, (fS_0_0 V hr1), (kS_0 hr1), (kS_1 hr1), (q_54_0 V), k_54]
set_option maxRecDepth 20000 in
theorem rh_78_16 {d x : Nat} {R : sm_R} {G : sm_G} {L : sm_L} {r1 : Nat} {v2 : Int32} : hD d 78 16 [.ref 54, .ref r1, .int v2, .null] 342 R x G L =
  gd (sm_is r1 342 5) (if v2 < (G r1 9) then
    (gd (sm_is r1 342 5) (if (G r1 14) < (i3 0) then
      (gd (sm_is r1 342 5) (gd (sm_is (R r1 0) 342 3) (ldi (R (R r1 0) 3) v2 G (fun y1 => gd (sm_is (R 54 4) 342 20) (gd (sm_in v2 (sm_N (R 54 4))) (gd (sm_is r1 342 5) (gd (sm_is (R r1 0) 342 3) (ldi (R (R r1 0) 2) v2 (sm_up G (R 54 4) v2.toNatClampNeg y1) (fun y2 => hD d 78 77 [.ref 54, .ref r1, .int v2, .int y2] 342 R x (sm_up G (R 54 4) v2.toNatClampNeg y1) L)))))))))
    else (gd (sm_is r1 342 5) (gd (sm_is (R r1 0) 342 3) (ldi (R (R r1 0) 3) v2 G (fun y3 => gd (sm_is r1 342 5) (sm_aI (sm_cv0 d 4 342 R [.int y3, .int ((G r1 14) + v2)] (x, G, L)) (fun a4 x4 G4 L4 =>
        gd (sm_is (R 54 4) 342 20) (gd (sm_in v2 (sm_N (R 54 4))) (gd (sm_is r1 342 5) (gd (sm_is (R r1 0) 342 3) (ldi (R (R r1 0) 2) v2 (sm_up G4 (R 54 4) v2.toNatClampNeg a4) (fun y5 => hD d 78 77 [.ref 54, .ref r1, .int v2, .int y5] 342 R x4 (sm_up G4 (R 54 4) v2.toNatClampNeg a4) L4)))))) oX)))))))
  else (hD d 78 120 [.ref 54, .ref r1, .int (i3 0), .null] 342 R x G L)) := hD_eq.trans rfl
set_option maxRecDepth 20000 in
theorem h_78_16 {d x : Nat} {V : pV} {G : sm_G} {L : sm_L} {r1 : Nat} {v2 : Int32} (hr1 : pS r1) : hD d 78 16 [.ref 54, .ref r1, .int v2, .null] 342 (RR V) x G L =
  if v2 < (G r1 9) then
    (if (G r1 14) < (i3 0) then
      (gd (sm_in v2 8) (gd (sm_in v2 8) (gd (sm_in v2 8) (hD d 78 77 [.ref 54, .ref r1, .int v2, .int ((sm_up G 59 v2.toNatClampNeg (G (r1 + 5) v2.toNatClampNeg)) (r1 + 4) v2.toNatClampNeg)] 342 (RR V) x (sm_up G 59 v2.toNatClampNeg (G (r1 + 5) v2.toNatClampNeg)) L))))
    else (gd (sm_in v2 8) (sm_aI (sm_cv0 d 4 342 (RR V) [.int (G (r1 + 5) v2.toNatClampNeg), .int ((G r1 14) + v2)] (x, G, L)) (fun a4 x4 G4 L4 =>
        gd (sm_in v2 8) (gd (sm_in v2 8) (hD d 78 77 [.ref 54, .ref r1, .int v2, .int ((sm_up G4 59 v2.toNatClampNeg a4) (r1 + 4) v2.toNatClampNeg)] 342 (RR V) x4 (sm_up G4 59 v2.toNatClampNeg a4) L4))) oX)))
  else (hD d 78 120 [.ref 54, .ref r1, .int (i3 0), .null] 342 (RR V) x G L) := by
  rw [rh_78_16]
  try simp only [gd_tt, (fS_0_0 V hr1), (fS_1_2 V hr1), (fS_1_3 V hr1), (kS_0 hr1), (kS_1 hr1), (nS_4 hr1), (nS_5 hr1), (q_54_4 V), k_54, k_59, ldi_e (kS_4 hr1) (nS_4 hr1), ldi_e (kS_5 hr1) (nS_5 hr1), n_59]
set_option maxRecDepth 20000 in
theorem rh_78_77 {d x : Nat} {R : sm_R} {G : sm_G} {L : sm_L} {r1 : Nat} {v2 v3 : Int32} : hD d 78 77 [.ref 54, .ref r1, .int v2, .int v3] 342 R x G L =
  ldi (R 54 4) v2 G (fun y1 => if v3 < y1 then
    (if v3 < (i3 301) then
      (ldi (R 54 0) v3 G (fun y2 => gd (sm_is (R 54 0) 342 20) (gd (sm_in v3 (sm_N (R 54 0))) (hD d 78 77 [.ref 54, .ref r1, .int v2, .int (v3 + (i3 1))] 342 R x (sm_up G (R 54 0) v3.toNatClampNeg (y2 ||| (shl (i3 1) v2))) L))))
    else (hD d 78 16 [.ref 54, .ref r1, .int (v2 + (i3 1)), .null] 342 R x G L))
  else (hD d 78 16 [.ref 54, .ref r1, .int (v2 + (i3 1)), .null] 342 R x G L)) := hD_eq.trans rfl
set_option maxRecDepth 20000 in
theorem h_78_77 {d x : Nat} {V : pV} {G : sm_G} {L : sm_L} {r1 : Nat} {v2 v3 : Int32} (hr1 : pS r1) : hD d 78 77 [.ref 54, .ref r1, .int v2, .int v3] 342 (RR V) x G L =
  gd (sm_in v2 8) (if v3 < (G 59 v2.toNatClampNeg) then
    (if v3 < (i3 301) then
      (gd (sm_in v3 301) (gd (sm_in v3 301) (hD d 78 77 [.ref 54, .ref r1, .int v2, .int (v3 + (i3 1))] 342 (RR V) x (sm_up G 55 v3.toNatClampNeg ((G 55 v3.toNatClampNeg) ||| (shl (i3 1) v2))) L)))
    else (hD d 78 16 [.ref 54, .ref r1, .int (v2 + (i3 1)), .null] 342 (RR V) x G L))
  else (hD d 78 16 [.ref 54, .ref r1, .int (v2 + (i3 1)), .null] 342 (RR V) x G L)) := by
  rw [rh_78_77]
  try simp only [gd_tt, (q_54_0 V), (q_54_4 V), k_54, k_55, ldi_e k_55 n_55, ldi_e k_59 n_59, n_55, n_59]
set_option maxRecDepth 20000 in
theorem rh_78_120 {d x : Nat} {R : sm_R} {G : sm_G} {L : sm_L} {r1 : Nat} {v2 : Int32} : hD d 78 120 [.ref 54, .ref r1, .int v2, .null] 342 R x G L =
  if v2 < (i3 301) then
    (ldi (R 54 0) v2 G (fun y1 => gd (sm_is r1 342 5) (sm_aI (sm_cv0 d 118 342 R [.ref r1, .int y1] (x, G, L)) (fun a2 x2 G2 L2 =>
      gd (sm_is (R 54 1) 342 20) (gd (sm_in v2 (sm_N (R 54 1))) (hD d 78 120 [.ref 54, .ref r1, .int (v2 + (i3 1)), .null] 342 R x2 (sm_up G2 (R 54 1) v2.toNatClampNeg a2) L2))) oX)))
  else (sm_aV (sm_cv0 d 79 342 R [.ref 54, .ref r1] (x, G, L)) (fun x3 G3 L3 =>
      oV x3 G3 L3) oX) := hD_eq.trans rfl
set_option maxRecDepth 20000 in
theorem h_78_120 {d x : Nat} {V : pV} {G : sm_G} {L : sm_L} {r1 : Nat} {v2 : Int32} (hr1 : pS r1) : hD d 78 120 [.ref 54, .ref r1, .int v2, .null] 342 (RR V) x G L =
  if v2 < (i3 301) then
    (gd (sm_in v2 301) (sm_aI (sm_cv0 d 118 342 (RR V) [.ref r1, .int (G 55 v2.toNatClampNeg)] (x, G, L)) (fun a2 x2 G2 L2 =>
      gd (sm_in v2 301) (hD d 78 120 [.ref 54, .ref r1, .int (v2 + (i3 1)), .null] 342 (RR V) x2 (sm_up G2 56 v2.toNatClampNeg a2) L2)) oX))
  else (sm_aV (sm_cv0 d 79 342 (RR V) [.ref 54, .ref r1] (x, G, L)) (fun x3 G3 L3 =>
      oV x3 G3 L3) oX) := by
  rw [rh_78_120]
  try simp only [gd_tt, (kS_0 hr1), (q_54_0 V), (q_54_1 V), k_54, k_56, ldi_e k_55 n_55, n_55, n_56]
/-! M_wills -/
set_option maxRecDepth 20000 in
theorem rm_267 {d x : Nat} {R : sm_R} {G : sm_G} {L : sm_L} {v1 : Int32} : sm_cv0 (d + 1) 267 342 R [.ref 156, .int v1] (x, G, L) =
  gd (sm_is (R 156 54) 342 20) (gd (sm_in v1 (sm_N (R 156 54))) (ldi (R 156 53) v1 (sm_up G (R 156 54) v1.toNatClampNeg (i3 0)) (fun y1 => if y1 ≤ (i3 0) then
    (hD d 267 27 [.ref 156, .int v1, .null, .null, .null, .null] 342 R x (sm_up G (R 156 54) v1.toNatClampNeg (i3 0)) L)
  else (ldi (R 156 53) v1 (sm_up G (R 156 54) v1.toNatClampNeg (i3 0)) (fun y2 => gd (sm_is (R 156 53) 342 20) (gd (sm_in v1 (sm_N (R 156 53))) (oV x (sm_up (sm_up G (R 156 54) v1.toNatClampNeg (i3 0)) (R 156 53) v1.toNatClampNeg (y2 - (i3 1))) L))))))) := (cv_eq rfl rfl).trans (hD_eq.trans rfl)
set_option maxRecDepth 20000 in
theorem m_267 {d x : Nat} {V : pV} {G : sm_G} {L : sm_L} {v1 : Int32} : sm_cv0 (d + 1) 267 342 (RR V) [.ref 156, .int v1] (x, G, L) =
  gd (sm_in v1 4) (gd (sm_in v1 4) (if ((sm_up G 329 v1.toNatClampNeg (i3 0)) 328 v1.toNatClampNeg) ≤ (i3 0) then
    (hD d 267 27 [.ref 156, .int v1, .null, .null, .null, .null] 342 (RR V) x (sm_up G 329 v1.toNatClampNeg (i3 0)) L)
  else (gd (sm_in v1 4) (gd (sm_in v1 4) (oV x (sm_up (sm_up G 329 v1.toNatClampNeg (i3 0)) 328 v1.toNatClampNeg (((sm_up G 329 v1.toNatClampNeg (i3 0)) 328 v1.toNatClampNeg) - (i3 1))) L))))) := by
  rw [rm_267]
  try simp only [gd_tt, (q_156_53 V), (q_156_54 V), k_156, k_328, k_329, ldi_e k_328 n_328, n_328, n_329]
set_option maxRecDepth 20000 in
theorem rh_267_27 {d x : Nat} {R : sm_R} {G : sm_G} {L : sm_L} {v1 : Int32} : hD d 267 27 [.ref 156, .int v1, .null, .null, .null, .null] 342 R x G L =
  gd (sm_is (R 156 55) 342 21 || sm_is (R 156 55) 342 22) (gd (sm_in v1 (sm_N (R 156 55))) (if (G (R 156 55) v1.toNatClampNeg) = (i3 0) then
    (ldi (R 156 52) v1 G (fun y1 => if y1 ≤ (i3 0) then
      (hD d 267 79 [.ref 156, .int v1, .null, .null, .null, .null] 342 R x G L)
    else (ldi (R 156 51) v1 G (fun y2 => gd (Nat.ble 24 (sm_K (R 156 48)) && Nat.ble (sm_K (R 156 48)) 27 && Nat.ble (R 156 48) 342) (gd (sm_in v1 (sm_N (R 156 48))) (ldi (R 156 52) v1 G (fun y3 => ldi (R (R 156 48) v1.toNatClampNeg) (((i3 4) * y3) - (i3 2)) G (fun y4 => if y2 = y4 then
        (sm_aV (sm_cv0 d 268 342 R [.ref 156, .int v1] (x, G, L)) (fun x5 G5 L5 =>
          hD d 267 27 [.ref 156, .int v1, .null, .null, .null, .null] 342 R x5 G5 L5) oX)
      else (hD d 267 79 [.ref 156, .int v1, .null, .null, .null, .null] 342 R x G L)))))))))
  else (oV x G L))) := hD_eq.trans rfl
set_option maxRecDepth 20000 in
theorem h_267_27 {d x : Nat} {V : pV} {G : sm_G} {L : sm_L} {v1 : Int32} : hD d 267 27 [.ref 156, .int v1, .null, .null, .null, .null] 342 (RR V) x G L =
  gd (sm_in v1 4) (if (G 330 v1.toNatClampNeg) = (i3 0) then
    (gd (sm_in v1 4) (if (G 327 v1.toNatClampNeg) ≤ (i3 0) then
      (hD d 267 79 [.ref 156, .int v1, .null, .null, .null, .null] 342 (RR V) x G L)
    else (gd (sm_in v1 4) (gd (sm_in v1 4) (gd (sm_in v1 4) (ldi (RR V 319 v1.toNatClampNeg) (((i3 4) * (G 327 v1.toNatClampNeg)) - (i3 2)) G (fun y4 => if (G 326 v1.toNatClampNeg) = y4 then
        (sm_aV (sm_cv0 d 268 342 (RR V) [.ref 156, .int v1] (x, G, L)) (fun x5 G5 L5 =>
          hD d 267 27 [.ref 156, .int v1, .null, .null, .null, .null] 342 (RR V) x5 G5 L5) oX)
      else (hD d 267 79 [.ref 156, .int v1, .null, .null, .null, .null] 342 (RR V) x G L))))))))
  else (oV x G L)) := by
  rw [rh_267_27]
  try simp only [gd_tt, (q_156_48 V), (q_156_51 V), (q_156_52 V), (q_156_55 V), Bool.false_or, Bool.true_or, a_319, k_156, k_330, kf_330, ldi_e k_326 n_326, ldi_e k_327 n_327, n_319, n_326, n_327, n_330]
set_option maxRecDepth 20000 in
theorem rh_267_79 {d x : Nat} {R : sm_R} {G : sm_G} {L : sm_L} {v1 : Int32} : hD d 267 79 [.ref 156, .int v1, .null, .null, .null, .null] 342 R x G L =
  ldi (R 156 52) v1 G (fun y1 => if y1 = (i3 0) then
    (ldi (R 156 51) v1 G (fun y2 => ldi (R 156 25) v1 G (fun y3 => if y2 = y3 then
      (oV x G L)
    else (hD d 267 104 [.ref 156, .int v1, .null, .null, .null, .null] 342 R x G L))))
  else (hD d 267 104 [.ref 156, .int v1, .null, .null, .null, .null] 342 R x G L)) := hD_eq.trans rfl
set_option maxRecDepth 20000 in
theorem h_267_79 {d x : Nat} {V : pV} {G : sm_G} {L : sm_L} {v1 : Int32} : hD d 267 79 [.ref 156, .int v1, .null, .null, .null, .null] 342 (RR V) x G L =
  gd (sm_in v1 4) (if (G 327 v1.toNatClampNeg) = (i3 0) then
    (gd (sm_in v1 4) (gd (sm_in v1 4) (if (G 326 v1.toNatClampNeg) = (G 241 v1.toNatClampNeg) then
      (oV x G L)
    else (hD d 267 104 [.ref 156, .int v1, .null, .null, .null, .null] 342 (RR V) x G L))))
  else (hD d 267 104 [.ref 156, .int v1, .null, .null, .null, .null] 342 (RR V) x G L)) := by
  rw [rh_267_79]
  try simp only [gd_tt, (q_156_25 V), (q_156_51 V), (q_156_52 V), k_156, ldi_e k_241 n_241, ldi_e k_326 n_326, ldi_e k_327 n_327, n_241, n_326, n_327]
set_option maxRecDepth 20000 in
theorem rh_267_104 {d x : Nat} {R : sm_R} {G : sm_G} {L : sm_L} {v1 : Int32} : hD d 267 104 [.ref 156, .int v1, .null, .null, .null, .null] 342 R x G L =
  ldi (R 156 51) v1 G (fun y1 => gd (Nat.ble 24 (sm_K (R 156 26)) && Nat.ble (sm_K (R 156 26)) 27 && Nat.ble (R 156 26) 342) (gd (sm_in v1 (sm_N (R 156 26))) (ldi (R (R 156 26) v1.toNatClampNeg) ((i3 5) * y1) G (fun y2 => hD d 267 125 [.ref 156, .int v1, .int y1, .int ((i3 5) * y1), .int y2, .null] 342 R x G L)))) := hD_eq.trans rfl
set_option maxRecDepth 20000 in
theorem h_267_104 {d x : Nat} {V : pV} {G : sm_G} {L : sm_L} {v1 : Int32} : hD d 267 104 [.ref 156, .int v1, .null, .null, .null, .null] 342 (RR V) x G L =
  gd (sm_in v1 4) (gd (sm_in v1 4) (ldi (RR V 242 v1.toNatClampNeg) ((i3 5) * (G 326 v1.toNatClampNeg)) G (fun y2 => hD d 267 125 [.ref 156, .int v1, .int (G 326 v1.toNatClampNeg), .int ((i3 5) * (G 326 v1.toNatClampNeg)), .int y2, .null] 342 (RR V) x G L))) := by
  rw [rh_267_104]
  try simp only [gd_tt, (q_156_26 V), (q_156_51 V), a_242, k_156, ldi_e k_326 n_326, n_242, n_326]
set_option maxRecDepth 20000 in
theorem rh_267_125 {d x : Nat} {R : sm_R} {G : sm_G} {L : sm_L} {v1 v2 v3 v4 : Int32} : hD d 267 125 [.ref 156, .int v1, .int v2, .int v3, .int v4, .null] 342 R x G L =
  gd (Nat.ble 24 (sm_K (R 156 26)) && Nat.ble (sm_K (R 156 26)) 27 && Nat.ble (R 156 26) 342) (gd (sm_in v1 (sm_N (R 156 26))) (ldi (R (R 156 26) v1.toNatClampNeg) (v3 + (i3 1)) G (fun y1 => if v4 < (i3 3) then
    (ldi (R 156 51) v1 G (fun y2 => gd (sm_is (R 156 51) 342 20) (gd (sm_in v1 (sm_N (R 156 51))) (if v4 = (i3 0) then
      (sm_aV (sm_cv0 d 270 342 R [.ref 156, .int v1, .int y1] (x, sm_up G (R 156 51) v1.toNatClampNeg (y2 + (i3 1)), L)) (fun x3 G3 L3 =>
        hD d 267 165 [.ref 156, .int v1, .null, .null, .int v4, .int y1] 342 R x3 G3 L3) oX)
    else (hD d 267 165 [.ref 156, .int v1, .null, .null, .int v4, .int y1] 342 R x (sm_up G (R 156 51) v1.toNatClampNeg (y2 + (i3 1))) L)))))
  else (sm_aI (sm_cv0 d 269 342 R [.ref 156, .int v1] (x, G, L)) (fun a4 x4 G4 L4 =>
      if a4 = (i3 0) then
        (oV x4 G4 L4)
      else (if v4 = (i3 3) then
          (if y1 = (i3 0) then
            (gd (Nat.ble 24 (sm_K (R 156 26)) && Nat.ble (sm_K (R 156 26)) 27 && Nat.ble (R 156 26) 342) (gd (sm_in v1 (sm_N (R 156 26))) (ldi (R (R 156 26) v1.toNatClampNeg) (v3 + (i3 4)) G4 (fun y5 => gd (sm_is (R 156 51) 342 20) (gd (sm_in v1 (sm_N (R 156 51))) (hD d 267 27 [.ref 156, .int v1, .null, .null, .null, .null] 342 R x4 (sm_up G4 (R 156 51) v1.toNatClampNeg y5) L4))))))
          else (gd (Nat.ble 24 (sm_K (R 156 26)) && Nat.ble (sm_K (R 156 26)) 27 && Nat.ble (R 156 26) 342) (gd (sm_in v1 (sm_N (R 156 26))) (ldi (R (R 156 26) v1.toNatClampNeg) (v3 + (i3 3)) G4 (fun y6 => sm_aV (sm_cv0 d 273 342 R [.ref 156, .int v1, .int v2, .int (v2 + (i3 1)), .int y6, .int y1] (x4, G4, L4)) (fun x7 G7 L7 =>
              hD d 267 27 [.ref 156, .int v1, .null, .null, .null, .null] 342 R x7 G7 L7) oX)))))
        else (if v4 = (i3 4) then
            (gd (Nat.ble 24 (sm_K (R 156 26)) && Nat.ble (sm_K (R 156 26)) 27 && Nat.ble (R 156 26) 342) (gd (sm_in v1 (sm_N (R 156 26))) (ldi (R (R 156 26) v1.toNatClampNeg) (v3 + (i3 2)) G4 (fun y8 => sm_aI (sm_cv0 d 274 342 R [.ref 156, .int v1, .int y8] (x4, G4, L4)) (fun a9 x9 G9 L9 =>
              if a9 = (i3 0) then
                (gd (Nat.ble 24 (sm_K (R 156 26)) && Nat.ble (sm_K (R 156 26)) 27 && Nat.ble (R 156 26) 342) (gd (sm_in v1 (sm_N (R 156 26))) (ldi (R (R 156 26) v1.toNatClampNeg) (v3 + (i3 3)) G9 (fun y10 => sm_aV (sm_cv0 d 273 342 R [.ref 156, .int v1, .int v2, .int (v2 + (i3 1)), .int y10, .int (i3 0)] (x9, G9, L9)) (fun x11 G11 L11 =>
                  hD d 267 27 [.ref 156, .int v1, .null, .null, .null, .null] 342 R x11 G11 L11) oX))))
              else (gd (Nat.ble 24 (sm_K (R 156 26)) && Nat.ble (sm_K (R 156 26)) 27 && Nat.ble (R 156 26) 342) (gd (sm_in v1 (sm_N (R 156 26))) (ldi (R (R 156 26) v1.toNatClampNeg) (v3 + (i3 4)) G9 (fun y12 => gd (sm_is (R 156 51) 342 20) (gd (sm_in v1 (sm_N (R 156 51))) (hD d 267 27 [.ref 156, .int v1, .null, .null, .null, .null] 342 R x9 (sm_up G9 (R 156 51) v1.toNatClampNeg y12) L9))))))) oX))))
          else (gd (Nat.ble 24 (sm_K (R 156 26)) && Nat.ble (sm_K (R 156 26)) 27 && Nat.ble (R 156 26) 342) (gd (sm_in v1 (sm_N (R 156 26))) (ldi (R (R 156 26) v1.toNatClampNeg) (v3 + (i3 2)) G4 (fun y13 => sm_aI (sm_cv0 d 274 342 R [.ref 156, .int v1, .int y13] (x4, G4, L4)) (fun a14 x14 G14 L14 =>
              if a14 = (i3 0) then
                (gd (Nat.ble 24 (sm_K (R 156 26)) && Nat.ble (sm_K (R 156 26)) 27 && Nat.ble (R 156 26) 342) (gd (sm_in v1 (sm_N (R 156 26))) (ldi (R (R 156 26) v1.toNatClampNeg) (v3 + (i3 3)) G14 (fun y15 => gd (Nat.ble 24 (sm_K (R 156 26)) && Nat.ble (sm_K (R 156 26)) 27 && Nat.ble (R 156 26) 342) (gd (sm_in v1 (sm_N (R 156 26))) (ldi (R (R 156 26) v1.toNatClampNeg) (v3 + (i3 4)) G14 (fun y16 => sm_aV (sm_cv0 d 273 342 R [.ref 156, .int v1, .int v2, .int y15, .int y16, .int (i3 0)] (x14, G14, L14)) (fun x17 G17 L17 =>
                  hD d 267 27 [.ref 156, .int v1, .null, .null, .null, .null] 342 R x17 G17 L17) oX)))))))
              else (gd (Nat.ble 24 (sm_K (R 156 26)) && Nat.ble (sm_K (R 156 26)) 27 && Nat.ble (R 156 26) 342) (gd (sm_in v1 (sm_N (R 156 26))) (ldi (R (R 156 26) v1.toNatClampNeg) (v3 + (i3 3)) G14 (fun y18 => sm_aV (sm_cv0 d 273 342 R [.ref 156, .int v1, .int v2, .int (v2 + (i3 1)), .int y18, .int (i3 0)] (x14, G14, L14)) (fun x19 G19 L19 =>
                  hD d 267 27 [.ref 156, .int v1, .null, .null, .null, .null] 342 R x19 G19 L19) oX))))) oX))))))) oX)))) := hD_eq.trans rfl
set_option maxRecDepth 20000 in
theorem h_267_125 {d x : Nat} {V : pV} {G : sm_G} {L : sm_L} {v1 v2 v3 v4 : Int32} : hD d 267 125 [.ref 156, .int v1, .int v2, .int v3, .int v4, .null] 342 (RR V) x G L =
  gd (sm_in v1 4) (ldi (RR V 242 v1.toNatClampNeg) (v3 + (i3 1)) G (fun y1 => if v4 < (i3 3) then
    (gd (sm_in v1 4) (gd (sm_in v1 4) (if v4 = (i3 0) then
      (sm_aV (sm_cv0 d 270 342 (RR V) [.ref 156, .int v1, .int y1] (x, sm_up G 326 v1.toNatClampNeg ((G 326 v1.toNatClampNeg) + (i3 1)), L)) (fun x3 G3 L3 =>
        hD d 267 165 [.ref 156, .int v1, .null, .null, .int v4, .int y1] 342 (RR V) x3 G3 L3) oX)
    else (hD d 267 165 [.ref 156, .int v1, .null, .null, .int v4, .int y1] 342 (RR V) x (sm_up G 326 v1.toNatClampNeg ((G 326 v1.toNatClampNeg) + (i3 1))) L))))
  else (sm_aI (sm_cv0 d 269 342 (RR V) [.ref 156, .int v1] (x, G, L)) (fun a4 x4 G4 L4 =>
      if a4 = (i3 0) then
        (oV x4 G4 L4)
      else (if v4 = (i3 3) then
          (if y1 = (i3 0) then
            (gd (sm_in v1 4) (ldi (RR V 242 v1.toNatClampNeg) (v3 + (i3 4)) G4 (fun y5 => gd (sm_in v1 4) (hD d 267 27 [.ref 156, .int v1, .null, .null, .null, .null] 342 (RR V) x4 (sm_up G4 326 v1.toNatClampNeg y5) L4))))
          else (gd (sm_in v1 4) (ldi (RR V 242 v1.toNatClampNeg) (v3 + (i3 3)) G4 (fun y6 => sm_aV (sm_cv0 d 273 342 (RR V) [.ref 156, .int v1, .int v2, .int (v2 + (i3 1)), .int y6, .int y1] (x4, G4, L4)) (fun x7 G7 L7 =>
              hD d 267 27 [.ref 156, .int v1, .null, .null, .null, .null] 342 (RR V) x7 G7 L7) oX))))
        else (if v4 = (i3 4) then
            (gd (sm_in v1 4) (ldi (RR V 242 v1.toNatClampNeg) (v3 + (i3 2)) G4 (fun y8 => sm_aI (sm_cv0 d 274 342 (RR V) [.ref 156, .int v1, .int y8] (x4, G4, L4)) (fun a9 x9 G9 L9 =>
              if a9 = (i3 0) then
                (gd (sm_in v1 4) (ldi (RR V 242 v1.toNatClampNeg) (v3 + (i3 3)) G9 (fun y10 => sm_aV (sm_cv0 d 273 342 (RR V) [.ref 156, .int v1, .int v2, .int (v2 + (i3 1)), .int y10, .int (i3 0)] (x9, G9, L9)) (fun x11 G11 L11 =>
                  hD d 267 27 [.ref 156, .int v1, .null, .null, .null, .null] 342 (RR V) x11 G11 L11) oX)))
              else (gd (sm_in v1 4) (ldi (RR V 242 v1.toNatClampNeg) (v3 + (i3 4)) G9 (fun y12 => gd (sm_in v1 4) (hD d 267 27 [.ref 156, .int v1, .null, .null, .null, .null] 342 (RR V) x9 (sm_up G9 326 v1.toNatClampNeg y12) L9))))) oX)))
          else (gd (sm_in v1 4) (ldi (RR V 242 v1.toNatClampNeg) (v3 + (i3 2)) G4 (fun y13 => sm_aI (sm_cv0 d 274 342 (RR V) [.ref 156, .int v1, .int y13] (x4, G4, L4)) (fun a14 x14 G14 L14 =>
              if a14 = (i3 0) then
                (gd (sm_in v1 4) (ldi (RR V 242 v1.toNatClampNeg) (v3 + (i3 3)) G14 (fun y15 => gd (sm_in v1 4) (ldi (RR V 242 v1.toNatClampNeg) (v3 + (i3 4)) G14 (fun y16 => sm_aV (sm_cv0 d 273 342 (RR V) [.ref 156, .int v1, .int v2, .int y15, .int y16, .int (i3 0)] (x14, G14, L14)) (fun x17 G17 L17 =>
                  hD d 267 27 [.ref 156, .int v1, .null, .null, .null, .null] 342 (RR V) x17 G17 L17) oX)))))
              else (gd (sm_in v1 4) (ldi (RR V 242 v1.toNatClampNeg) (v3 + (i3 3)) G14 (fun y18 => sm_aV (sm_cv0 d 273 342 (RR V) [.ref 156, .int v1, .int v2, .int (v2 + (i3 1)), .int y18, .int (i3 0)] (x14, G14, L14)) (fun x19 G19 L19 =>
                  hD d 267 27 [.ref 156, .int v1, .null, .null, .null, .null] 342 (RR V) x19 G19 L19) oX)))) oX)))))) oX))) := by
  rw [rh_267_125]
  try simp only [gd_tt, (q_156_26 V), (q_156_51 V), a_242, k_156, k_326, ldi_e k_326 n_326, n_242, n_326]
set_option maxRecDepth 20000 in
theorem rh_267_165 {d x : Nat} {R : sm_R} {G : sm_G} {L : sm_L} {v1 v4 v5 : Int32} : hD d 267 165 [.ref 156, .int v1, .null, .null, .int v4, .int v5] 342 R x G L =
  if v4 = (i3 1) then
    (gd (sm_is (R 156 53) 342 20) (gd (sm_in v1 (sm_N (R 156 53))) (if v4 = (i3 2) then
      (sm_aV (sm_cv0 d 272 342 R [.ref 156, .int v1, .int v5] (x, sm_up G (R 156 53) v1.toNatClampNeg (v5 - (i3 1)), L)) (fun x1 G1 L1 =>
        oV x1 G1 L1) oX)
    else (oV x (sm_up G (R 156 53) v1.toNatClampNeg (v5 - (i3 1))) L))))
  else (if v4 = (i3 2) then
      (sm_aV (sm_cv0 d 272 342 R [.ref 156, .int v1, .int v5] (x, G, L)) (fun x2 G2 L2 =>
        oV x2 G2 L2) oX)
    else (oV x G L)) := hD_eq.trans rfl
set_option maxRecDepth 20000 in
theorem h_267_165 {d x : Nat} {V : pV} {G : sm_G} {L : sm_L} {v1 v4 v5 : Int32} : hD d 267 165 [.ref 156, .int v1, .null, .null, .int v4, .int v5] 342 (RR V) x G L =
  if v4 = (i3 1) then
    (gd (sm_in v1 4) (if v4 = (i3 2) then
      (sm_aV (sm_cv0 d 272 342 (RR V) [.ref 156, .int v1, .int v5] (x, sm_up G 328 v1.toNatClampNeg (v5 - (i3 1)), L)) (fun x1 G1 L1 =>
        oV x1 G1 L1) oX)
    else (oV x (sm_up G 328 v1.toNatClampNeg (v5 - (i3 1))) L)))
  else (if v4 = (i3 2) then
      (sm_aV (sm_cv0 d 272 342 (RR V) [.ref 156, .int v1, .int v5] (x, G, L)) (fun x2 G2 L2 =>
        oV x2 G2 L2) oX)
    else (oV x G L)) := by
  rw [rh_267_165]
  try simp only [gd_tt, (q_156_53 V), k_156, k_328, n_328]
/-! M_sures -/
set_option maxRecDepth 20000 in
theorem rm_302 {d x : Nat} {R : sm_R} {G : sm_G} {L : sm_L} {v1 v2 v3 v4 : Int32} {w5 w7 : Int64} : sm_cv0 (d + 1) 302 342 R [.ref 156, .int v1, .int v2, .int v3, .int v4, .long w5, .long w7] (x, G, L) =
  gd (Nat.ble 24 (sm_K (R 156 18)) && Nat.ble (sm_K (R 156 18)) 27 && Nat.ble (R 156 18) 342) (gd (sm_in v1 (sm_N (R 156 18))) (ldi (R (R 156 18) v1.toNatClampNeg) (i3 2) G (fun y1 => hD d 302 28 [.ref 156, .int v1, .int v2, .int v3, .int v4, .null, .null, .null, .null, .long (w5 * (Int32.toInt64 ((i3 16) - y1))), .null, .long (((i6 10) * w7) + (Int32.toInt64 v1)), .null, .null, .null, .null, .null, .null] 342 R x G L))) := (cv_eq rfl rfl).trans (hD_eq.trans rfl)
set_option maxRecDepth 20000 in
theorem m_302 {d x : Nat} {V : pV} {G : sm_G} {L : sm_L} {v1 v2 v3 v4 : Int32} {w5 w7 : Int64} : sm_cv0 (d + 1) 302 342 (RR V) [.ref 156, .int v1, .int v2, .int v3, .int v4, .long w5, .long w7] (x, G, L) =
  gd (sm_in v1 8) (ldi (RR V 174 v1.toNatClampNeg) (i3 2) G (fun y1 => hD d 302 28 [.ref 156, .int v1, .int v2, .int v3, .int v4, .null, .null, .null, .null, .long (w5 * (Int32.toInt64 ((i3 16) - y1))), .null, .long (((i6 10) * w7) + (Int32.toInt64 v1)), .null, .null, .null, .null, .null, .null] 342 (RR V) x G L)) := by
  rw [rm_302]
  try simp only [gd_tt, (q_156_18 V), a_174, k_156, n_174]
set_option maxRecDepth 20000 in
theorem rh_302_28 {d x : Nat} {R : sm_R} {G : sm_G} {L : sm_L} {v1 v2 v3 v4 : Int32} {w9 w11 : Int64} : hD d 302 28 [.ref 156, .int v1, .int v2, .int v3, .int v4, .null, .null, .null, .null, .long w9, .null, .long w11, .null, .null, .null, .null, .null, .null] 342 R x G L =
  if v1 = v2 then
    (hD d 302 43 [.ref 156, .null, .null, .null, .null, .null, .null, .null, .null, .null, .null, .long w11, .null, .int (v4 + (i3 1)), .long w9, .null, .null, .null] 342 R x G L)
  else (hD d 302 128 [.ref 156, .int v1, .int v2, .int v3, .null, .null, .null, .null, .null, .long w9, .null, .long w11, .null, .int (v4 + (i3 1)), .int (i3 0), .null, .null, .null] 342 R x G L) := hD_eq.trans rfl
theorem h_302_28 {d x : Nat} {V : pV} {G : sm_G} {L : sm_L} {v1 v2 v3 v4 : Int32} {w9 w11 : Int64} : hD d 302 28 [.ref 156, .int v1, .int v2, .int v3, .int v4, .null, .null, .null, .null, .long w9, .null, .long w11, .null, .null, .null, .null, .null, .null] 342 (RR V) x G L =
  if v1 = v2 then
    (hD d 302 43 [.ref 156, .null, .null, .null, .null, .null, .null, .null, .null, .null, .null, .long w11, .null, .int (v4 + (i3 1)), .long w9, .null, .null, .null] 342 (RR V) x G L)
  else (hD d 302 128 [.ref 156, .int v1, .int v2, .int v3, .null, .null, .null, .null, .null, .long w9, .null, .long w11, .null, .int (v4 + (i3 1)), .int (i3 0), .null, .null, .null] 342 (RR V) x G L) := rh_302_28
set_option maxRecDepth 20000 in
theorem rh_302_43 {d x : Nat} {R : sm_R} {G : sm_G} {L : sm_L} {v13 : Int32} {w11 w14 : Int64} : hD d 302 43 [.ref 156, .null, .null, .null, .null, .null, .null, .null, .null, .null, .null, .long w11, .null, .int v13, .long w14, .null, .null, .null] 342 R x G L =
  hD d 302 47 [.ref 156, .null, .null, .null, .null, .null, .null, .null, .null, .null, .null, .long w11, .null, .int v13, .long w14, .null, .int v13, .null] 342 R x G L := hD_eq.trans rfl
theorem h_302_43 {d x : Nat} {V : pV} {G : sm_G} {L : sm_L} {v13 : Int32} {w11 w14 : Int64} : hD d 302 43 [.ref 156, .null, .null, .null, .null, .null, .null, .null, .null, .null, .null, .long w11, .null, .int v13, .long w14, .null, .null, .null] 342 (RR V) x G L =
  hD d 302 47 [.ref 156, .null, .null, .null, .null, .null, .null, .null, .null, .null, .null, .long w11, .null, .int v13, .long w14, .null, .int v13, .null] 342 (RR V) x G L := rh_302_43
set_option maxRecDepth 20000 in
theorem rh_302_47 {d x : Nat} {R : sm_R} {G : sm_G} {L : sm_L} {v13 v16 : Int32} {w11 w14 : Int64} : hD d 302 47 [.ref 156, .null, .null, .null, .null, .null, .null, .null, .null, .null, .null, .long w11, .null, .int v13, .long w14, .null, .int v16, .null] 342 R x G L =
  if v16 < (i3 8) then
    (hD d 302 65 [.ref 156, .null, .null, .null, .null, .null, .null, .null, .null, .null, .null, .long w11, .null, .int v13, .long (w14 * (i6 16)), .null, .int (v16 + (i3 1)), .null] 342 R x G L)
  else (if (G 156 64) = m1 then
      (hD d 302 106 [.ref 156, .null, .null, .null, .null, .null, .null, .null, .null, .null, .null, .long w11, .null, .int v13, .long w14, .null, .null, .null] 342 R x G L)
    else (if w14 < (L 156 62) then (oV x G L) else if w14 = (L 156 62) then (if w14 < (L 156 62) then (hD d 302 106 [.ref 156, .null, .null, .null, .null, .null, .null, .null, .null, .null, .null, .long w11, .null, .int v13, .long w14, .null, .null, .null] 342 R x G L) else if w14 = (L 156 62) then (if v13 < (G 156 64) then
            (hD d 302 106 [.ref 156, .null, .null, .null, .null, .null, .null, .null, .null, .null, .null, .long w11, .null, .int v13, .long w14, .null, .null, .null] 342 R x G L)
          else (oV x G L)) else (hD d 302 106 [.ref 156, .null, .null, .null, .null, .null, .null, .null, .null, .null, .null, .long w11, .null, .int v13, .long w14, .null, .null, .null] 342 R x G L)) else (if w14 < (L 156 62) then (hD d 302 106 [.ref 156, .null, .null, .null, .null, .null, .null, .null, .null, .null, .null, .long w11, .null, .int v13, .long w14, .null, .null, .null] 342 R x G L) else if w14 = (L 156 62) then (if v13 < (G 156 64) then
            (hD d 302 106 [.ref 156, .null, .null, .null, .null, .null, .null, .null, .null, .null, .null, .long w11, .null, .int v13, .long w14, .null, .null, .null] 342 R x G L)
          else (oV x G L)) else (hD d 302 106 [.ref 156, .null, .null, .null, .null, .null, .null, .null, .null, .null, .null, .long w11, .null, .int v13, .long w14, .null, .null, .null] 342 R x G L)))) := hD_eq.trans rfl
set_option maxRecDepth 20000 in
theorem h_302_47 {d x : Nat} {V : pV} {G : sm_G} {L : sm_L} {v13 v16 : Int32} {w11 w14 : Int64} : hD d 302 47 [.ref 156, .null, .null, .null, .null, .null, .null, .null, .null, .null, .null, .long w11, .null, .int v13, .long w14, .null, .int v16, .null] 342 (RR V) x G L =
  if v16 < (i3 8) then
    (hD d 302 65 [.ref 156, .null, .null, .null, .null, .null, .null, .null, .null, .null, .null, .long w11, .null, .int v13, .long (w14 * (i6 16)), .null, .int (v16 + (i3 1)), .null] 342 (RR V) x G L)
  else (if (G 156 64) = m1 then
      (hD d 302 106 [.ref 156, .null, .null, .null, .null, .null, .null, .null, .null, .null, .null, .long w11, .null, .int v13, .long w14, .null, .null, .null] 342 (RR V) x G L)
    else (if w14 < (L 156 62) then (oV x G L) else if w14 = (L 156 62) then (if w14 < (L 156 62) then (hD d 302 106 [.ref 156, .null, .null, .null, .null, .null, .null, .null, .null, .null, .null, .long w11, .null, .int v13, .long w14, .null, .null, .null] 342 (RR V) x G L) else if w14 = (L 156 62) then (if v13 < (G 156 64) then
            (hD d 302 106 [.ref 156, .null, .null, .null, .null, .null, .null, .null, .null, .null, .null, .long w11, .null, .int v13, .long w14, .null, .null, .null] 342 (RR V) x G L)
          else (oV x G L)) else (hD d 302 106 [.ref 156, .null, .null, .null, .null, .null, .null, .null, .null, .null, .null, .long w11, .null, .int v13, .long w14, .null, .null, .null] 342 (RR V) x G L)) else (if w14 < (L 156 62) then (hD d 302 106 [.ref 156, .null, .null, .null, .null, .null, .null, .null, .null, .null, .null, .long w11, .null, .int v13, .long w14, .null, .null, .null] 342 (RR V) x G L) else if w14 = (L 156 62) then (if v13 < (G 156 64) then
            (hD d 302 106 [.ref 156, .null, .null, .null, .null, .null, .null, .null, .null, .null, .null, .long w11, .null, .int v13, .long w14, .null, .null, .null] 342 (RR V) x G L)
          else (oV x G L)) else (hD d 302 106 [.ref 156, .null, .null, .null, .null, .null, .null, .null, .null, .null, .null, .long w11, .null, .int v13, .long w14, .null, .null, .null] 342 (RR V) x G L)))) := by
  rw [rh_302_47]
  try simp only [gd_tt, k_156]
set_option maxRecDepth 20000 in
theorem rh_302_65 {d x : Nat} {R : sm_R} {G : sm_G} {L : sm_L} {v13 v16 : Int32} {w11 w14 : Int64} : hD d 302 65 [.ref 156, .null, .null, .null, .null, .null, .null, .null, .null, .null, .null, .long w11, .null, .int v13, .long w14, .null, .int v16, .null] 342 R x G L =
  hD d 302 47 [.ref 156, .null, .null, .null, .null, .null, .null, .null, .null, .null, .null, .long w11, .null, .int v13, .long w14, .null, .int v16, .null] 342 R x G L := hD_eq.trans rfl
theorem h_302_65 {d x : Nat} {V : pV} {G : sm_G} {L : sm_L} {v13 v16 : Int32} {w11 w14 : Int64} : hD d 302 65 [.ref 156, .null, .null, .null, .null, .null, .null, .null, .null, .null, .null, .long w11, .null, .int v13, .long w14, .null, .int v16, .null] 342 (RR V) x G L =
  hD d 302 47 [.ref 156, .null, .null, .null, .null, .null, .null, .null, .null, .null, .null, .long w11, .null, .int v13, .long w14, .null, .int v16, .null] 342 (RR V) x G L := rh_302_65
set_option maxRecDepth 20000 in
theorem rh_302_106 {d x : Nat} {R : sm_R} {G : sm_G} {L : sm_L} {v13 : Int32} {w11 w14 : Int64} : hD d 302 106 [.ref 156, .null, .null, .null, .null, .null, .null, .null, .null, .null, .null, .long w11, .null, .int v13, .long w14, .null, .null, .null] 342 R x G L =
  oV x (sm_up G 156 64 v13) (sm_up (sm_up L 156 62 w14) 156 63 w11) := hD_eq.trans rfl
set_option maxRecDepth 20000 in
theorem h_302_106 {d x : Nat} {V : pV} {G : sm_G} {L : sm_L} {v13 : Int32} {w11 w14 : Int64} : hD d 302 106 [.ref 156, .null, .null, .null, .null, .null, .null, .null, .null, .null, .null, .long w11, .null, .int v13, .long w14, .null, .null, .null] 342 (RR V) x G L =
  oV x (sm_up G 156 64 v13) (sm_up (sm_up L 156 62 w14) 156 63 w11) := by
  rw [rh_302_106]
  try simp only [gd_tt, k_156]
set_option maxRecDepth 20000 in
theorem rh_302_128 {d x : Nat} {R : sm_R} {G : sm_G} {L : sm_L} {v1 v2 v3 v13 v14 : Int32} {w9 w11 : Int64} : hD d 302 128 [.ref 156, .int v1, .int v2, .int v3, .null, .null, .null, .null, .null, .long w9, .null, .long w11, .null, .int v13, .int v14, .null, .null, .null] 342 R x G L =
  ldi (R 156 12) (i3 0) G (fun y1 => if v14 < y1 then
    (if ((shr v3 v14) &&& (i3 1)) = (i3 0) then
      (hD d 302 161 [.ref 156, .int v1, .int v2, .int v3, .null, .null, .null, .null, .null, .long w9, .null, .long w11, .null, .int v13, .int v14, .int (i3 1), .int (i3 0), .int (i3 0)] 342 R x G L)
    else (hD d 302 161 [.ref 156, .int v1, .int v2, .int v3, .null, .null, .null, .null, .null, .long w9, .null, .long w11, .null, .int v13, .int v14, .int (i3 0), .int (i3 0), .int (i3 0)] 342 R x G L))
  else (oV x G L)) := hD_eq.trans rfl
set_option maxRecDepth 20000 in
theorem h_302_128 {d x : Nat} {V : pV} {G : sm_G} {L : sm_L} {v1 v2 v3 v13 v14 : Int32} {w9 w11 : Int64} : hD d 302 128 [.ref 156, .int v1, .int v2, .int v3, .null, .null, .null, .null, .null, .long w9, .null, .long w11, .null, .int v13, .int v14, .null, .null, .null] 342 (RR V) x G L =
  if v14 < (G 160 0) then
    (if ((shr v3 v14) &&& (i3 1)) = (i3 0) then
      (hD d 302 161 [.ref 156, .int v1, .int v2, .int v3, .null, .null, .null, .null, .null, .long w9, .null, .long w11, .null, .int v13, .int v14, .int (i3 1), .int (i3 0), .int (i3 0)] 342 (RR V) x G L)
    else (hD d 302 161 [.ref 156, .int v1, .int v2, .int v3, .null, .null, .null, .null, .null, .long w9, .null, .long w11, .null, .int v13, .int v14, .int (i3 0), .int (i3 0), .int (i3 0)] 342 (RR V) x G L))
  else (oV x G L) := by
  rw [rh_302_128]
  try simp only [gd_tt, (q_156_12 V), cl_0, inl_0_6, k_156, ldi_e k_160 n_160, n_160]
set_option maxRecDepth 20000 in
theorem rh_302_161 {d x : Nat} {R : sm_R} {G : sm_G} {L : sm_L} {v1 v2 v3 v13 v14 v15 v16 v17 : Int32} {w9 w11 : Int64} : hD d 302 161 [.ref 156, .int v1, .int v2, .int v3, .null, .null, .null, .null, .null, .long w9, .null, .long w11, .null, .int v13, .int v14, .int v15, .int v16, .int v17] 342 R x G L =
  ldi (R 156 12) (i3 1) G (fun y1 => if v17 < y1 then
    (if v15 = (i3 0) then
      (hD d 302 220 [.ref 156, .int v1, .int v2, .int v3, .null, .null, .null, .null, .null, .long w9, .null, .long w11, .null, .int v13, .int v14, .null, .int v16, .null] 342 R x G L)
    else (if v16 = (i3 0) then
        (gd (Nat.ble 24 (sm_K (R 156 20)) && Nat.ble (sm_K (R 156 20)) 27 && Nat.ble (R 156 20) 342) (gd (sm_in v17 (sm_N (R 156 20))) (ldi (R (R 156 20) v17.toNatClampNeg) (i3 2) G (fun y2 => if y2 = (i3 1) then
          (sm_aI (sm_cv0 d 271 342 R [.ref 156, .int v17, .int v1, .int v14] (x, G, L)) (fun a3 x3 G3 L3 =>
            if a3 = (i3 0) then
              (hD d 302 161 [.ref 156, .int v1, .int v2, .int v3, .null, .null, .null, .null, .null, .long w9, .null, .long w11, .null, .int v13, .int v14, .int v15, .int (i3 0), .int (v17 + (i3 1))] 342 R x3 G3 L3)
            else (hD d 302 161 [.ref 156, .int v1, .int v2, .int v3, .null, .null, .null, .null, .null, .long w9, .null, .long w11, .null, .int v13, .int v14, .int v15, .int (i3 1), .int (v17 + (i3 1))] 342 R x3 G3 L3)) oX)
        else (hD d 302 161 [.ref 156, .int v1, .int v2, .int v3, .null, .null, .null, .null, .null, .long w9, .null, .long w11, .null, .int v13, .int v14, .int v15, .int (i3 0), .int (v17 + (i3 1))] 342 R x G L)))))
      else (hD d 302 161 [.ref 156, .int v1, .int v2, .int v3, .null, .null, .null, .null, .null, .long w9, .null, .long w11, .null, .int v13, .int v14, .int v15, .int (i3 1), .int (v17 + (i3 1))] 342 R x G L)))
  else (hD d 302 220 [.ref 156, .int v1, .int v2, .int v3, .null, .null, .null, .null, .null, .long w9, .null, .long w11, .null, .int v13, .int v14, .null, .int v16, .null] 342 R x G L)) := hD_eq.trans rfl
set_option maxRecDepth 20000 in
theorem h_302_161 {d x : Nat} {V : pV} {G : sm_G} {L : sm_L} {v1 v2 v3 v13 v14 v15 v16 v17 : Int32} {w9 w11 : Int64} : hD d 302 161 [.ref 156, .int v1, .int v2, .int v3, .null, .null, .null, .null, .null, .long w9, .null, .long w11, .null, .int v13, .int v14, .int v15, .int v16, .int v17] 342 (RR V) x G L =
  if v17 < (G 160 1) then
    (if v15 = (i3 0) then
      (hD d 302 220 [.ref 156, .int v1, .int v2, .int v3, .null, .null, .null, .null, .null, .long w9, .null, .long w11, .null, .int v13, .int v14, .null, .int v16, .null] 342 (RR V) x G L)
    else (if v16 = (i3 0) then
        (gd (sm_in v17 10) (ldi (RR V 194 v17.toNatClampNeg) (i3 2) G (fun y2 => if y2 = (i3 1) then
          (sm_aI (sm_cv0 d 271 342 (RR V) [.ref 156, .int v17, .int v1, .int v14] (x, G, L)) (fun a3 x3 G3 L3 =>
            if a3 = (i3 0) then
              (hD d 302 161 [.ref 156, .int v1, .int v2, .int v3, .null, .null, .null, .null, .null, .long w9, .null, .long w11, .null, .int v13, .int v14, .int v15, .int (i3 0), .int (v17 + (i3 1))] 342 (RR V) x3 G3 L3)
            else (hD d 302 161 [.ref 156, .int v1, .int v2, .int v3, .null, .null, .null, .null, .null, .long w9, .null, .long w11, .null, .int v13, .int v14, .int v15, .int (i3 1), .int (v17 + (i3 1))] 342 (RR V) x3 G3 L3)) oX)
        else (hD d 302 161 [.ref 156, .int v1, .int v2, .int v3, .null, .null, .null, .null, .null, .long w9, .null, .long w11, .null, .int v13, .int v14, .int v15, .int (i3 0), .int (v17 + (i3 1))] 342 (RR V) x G L))))
      else (hD d 302 161 [.ref 156, .int v1, .int v2, .int v3, .null, .null, .null, .null, .null, .long w9, .null, .long w11, .null, .int v13, .int v14, .int v15, .int (i3 1), .int (v17 + (i3 1))] 342 (RR V) x G L)))
  else (hD d 302 220 [.ref 156, .int v1, .int v2, .int v3, .null, .null, .null, .null, .null, .long w9, .null, .long w11, .null, .int v13, .int v14, .null, .int v16, .null] 342 (RR V) x G L) := by
  rw [rh_302_161]
  try simp only [gd_tt, (q_156_12 V), (q_156_20 V), a_194, cl_1, inl_1_6, k_156, ldi_e k_160 n_160, n_160, n_194]
set_option maxRecDepth 20000 in
theorem rh_302_220 {d x : Nat} {R : sm_R} {G : sm_G} {L : sm_L} {v1 v2 v3 v13 v14 v16 : Int32} {w9 w11 : Int64} : hD d 302 220 [.ref 156, .int v1, .int v2, .int v3, .null, .null, .null, .null, .null, .long w9, .null, .long w11, .null, .int v13, .int v14, .null, .int v16, .null] 342 R x G L =
  if v16 = (i3 0) then
    (hD d 302 128 [.ref 156, .int v1, .int v2, .int v3, .null, .null, .null, .null, .null, .long w9, .null, .long w11, .null, .int v13, .int (v14 + (i3 1)), .null, .null, .null] 342 R x G L)
  else (sm_aV (sm_cv0 d 302 342 R [.ref 156, .int v14, .int v2, .int (v3 ||| (shl (i3 1) v14)), .int v13, .long w9, .long w11] (x, G, L)) (fun x1 G1 L1 =>
      hD d 302 128 [.ref 156, .int v1, .int v2, .int v3, .null, .null, .null, .null, .null, .long w9, .null, .long w11, .null, .int v13, .int (v14 + (i3 1)), .null, .null, .null] 342 R x1 G1 L1) oX) := hD_eq.trans rfl
set_option maxRecDepth 20000 in
theorem h_302_220 {d x : Nat} {V : pV} {G : sm_G} {L : sm_L} {v1 v2 v3 v13 v14 v16 : Int32} {w9 w11 : Int64} : hD d 302 220 [.ref 156, .int v1, .int v2, .int v3, .null, .null, .null, .null, .null, .long w9, .null, .long w11, .null, .int v13, .int v14, .null, .int v16, .null] 342 (RR V) x G L =
  if v16 = (i3 0) then
    (hD d 302 128 [.ref 156, .int v1, .int v2, .int v3, .null, .null, .null, .null, .null, .long w9, .null, .long w11, .null, .int v13, .int (v14 + (i3 1)), .null, .null, .null] 342 (RR V) x G L)
  else (sm_aV (sm_cv0 d 302 342 (RR V) [.ref 156, .int v14, .int v2, .int (v3 ||| (shl (i3 1) v14)), .int v13, .long w9, .long w11] (x, G, L)) (fun x1 G1 L1 =>
      hD d 302 128 [.ref 156, .int v1, .int v2, .int v3, .null, .null, .null, .null, .null, .long w9, .null, .long w11, .null, .int v13, .int (v14 + (i3 1)), .null, .null, .null] 342 (RR V) x1 G1 L1) oX) := by
  rw [rh_302_220]
  try simp only [gd_tt, k_156]
/-! Tape_put -/
set_option maxRecDepth 20000 in
theorem rm_133 {d x : Nat} {R : sm_R} {G : sm_G} {L : sm_L} {v1 : Int32} : sm_cv0 (d + 1) 133 342 R [.ref 2, .int v1] (x, G, L) =
  sm_aI (sm_cv0 d 132 342 R [.ref 2, .int (i3 4)] (x, G, L)) (fun a1 x1 G1 L1 =>
    if a1 = (i3 0) then
      (oV x1 G1 L1)
    else (bst (R 2 0) (G1 2 1) (i2b (shr v1 (i3 24))) G1 (fun g2 => bst (R 2 0) ((g2 2 1) + (i3 1)) (i2b (shr v1 (i3 16))) g2 (fun g3 => bst (R 2 0) ((g3 2 1) + (i3 2)) (i2b (shr v1 (i3 8))) g3 (fun g4 => bst (R 2 0) ((g4 2 1) + (i3 3)) (i2b v1) g4 (fun g5 => oV x1 (sm_up g5 2 1 ((g5 2 1) + (i3 4))) L1)))))) oX := (cv_eq rfl rfl).trans (hD_eq.trans rfl)
set_option maxRecDepth 20000 in
theorem m_133 {d x : Nat} {V : pV} {G : sm_G} {L : sm_L} {v1 : Int32} : sm_cv0 (d + 1) 133 342 (RR V) [.ref 2, .int v1] (x, G, L) =
  sm_aI (sm_cv0 d 132 342 (RR V) [.ref 2, .int (i3 4)] (x, G, L)) (fun a1 x1 G1 L1 =>
    if a1 = (i3 0) then
      (oV x1 G1 L1)
    else (gd (sm_in (G1 2 1) 600) (gd (sm_in (((sm_up G1 3 ((G1 2 1).toNatClampNeg) (i2b (i2b (shr v1 (i3 24))))) 2 1) + (i3 1)) 600) (gd (sm_in (((sm_up (sm_up G1 3 ((G1 2 1).toNatClampNeg) (i2b (i2b (shr v1 (i3 24))))) 3 ((((sm_up G1 3 ((G1 2 1).toNatClampNeg) (i2b (i2b (shr v1 (i3 24))))) 2 1) + (i3 1)).toNatClampNeg) (i2b (i2b (shr v1 (i3 16))))) 2 1) + (i3 2)) 600) (gd (sm_in (((sm_up (sm_up (sm_up G1 3 ((G1 2 1).toNatClampNeg) (i2b (i2b (shr v1 (i3 24))))) 3 ((((sm_up G1 3 ((G1 2 1).toNatClampNeg) (i2b (i2b (shr v1 (i3 24))))) 2 1) + (i3 1)).toNatClampNeg) (i2b (i2b (shr v1 (i3 16))))) 3 ((((sm_up (sm_up G1 3 ((G1 2 1).toNatClampNeg) (i2b (i2b (shr v1 (i3 24))))) 3 ((((sm_up G1 3 ((G1 2 1).toNatClampNeg) (i2b (i2b (shr v1 (i3 24))))) 2 1) + (i3 1)).toNatClampNeg) (i2b (i2b (shr v1 (i3 16))))) 2 1) + (i3 2)).toNatClampNeg) (i2b (i2b (shr v1 (i3 8))))) 2 1) + (i3 3)) 600) (oV x1 (sm_up (sm_up (sm_up (sm_up (sm_up G1 3 ((G1 2 1).toNatClampNeg) (i2b (i2b (shr v1 (i3 24))))) 3 ((((sm_up G1 3 ((G1 2 1).toNatClampNeg) (i2b (i2b (shr v1 (i3 24))))) 2 1) + (i3 1)).toNatClampNeg) (i2b (i2b (shr v1 (i3 16))))) 3 ((((sm_up (sm_up G1 3 ((G1 2 1).toNatClampNeg) (i2b (i2b (shr v1 (i3 24))))) 3 ((((sm_up G1 3 ((G1 2 1).toNatClampNeg) (i2b (i2b (shr v1 (i3 24))))) 2 1) + (i3 1)).toNatClampNeg) (i2b (i2b (shr v1 (i3 16))))) 2 1) + (i3 2)).toNatClampNeg) (i2b (i2b (shr v1 (i3 8))))) 3 ((((sm_up (sm_up (sm_up G1 3 ((G1 2 1).toNatClampNeg) (i2b (i2b (shr v1 (i3 24))))) 3 ((((sm_up G1 3 ((G1 2 1).toNatClampNeg) (i2b (i2b (shr v1 (i3 24))))) 2 1) + (i3 1)).toNatClampNeg) (i2b (i2b (shr v1 (i3 16))))) 3 ((((sm_up (sm_up G1 3 ((G1 2 1).toNatClampNeg) (i2b (i2b (shr v1 (i3 24))))) 3 ((((sm_up G1 3 ((G1 2 1).toNatClampNeg) (i2b (i2b (shr v1 (i3 24))))) 2 1) + (i3 1)).toNatClampNeg) (i2b (i2b (shr v1 (i3 16))))) 2 1) + (i3 2)).toNatClampNeg) (i2b (i2b (shr v1 (i3 8))))) 2 1) + (i3 3)).toNatClampNeg) (i2b (i2b v1))) 2 1 (((sm_up (sm_up (sm_up (sm_up G1 3 ((G1 2 1).toNatClampNeg) (i2b (i2b (shr v1 (i3 24))))) 3 ((((sm_up G1 3 ((G1 2 1).toNatClampNeg) (i2b (i2b (shr v1 (i3 24))))) 2 1) + (i3 1)).toNatClampNeg) (i2b (i2b (shr v1 (i3 16))))) 3 ((((sm_up (sm_up G1 3 ((G1 2 1).toNatClampNeg) (i2b (i2b (shr v1 (i3 24))))) 3 ((((sm_up G1 3 ((G1 2 1).toNatClampNeg) (i2b (i2b (shr v1 (i3 24))))) 2 1) + (i3 1)).toNatClampNeg) (i2b (i2b (shr v1 (i3 16))))) 2 1) + (i3 2)).toNatClampNeg) (i2b (i2b (shr v1 (i3 8))))) 3 ((((sm_up (sm_up (sm_up G1 3 ((G1 2 1).toNatClampNeg) (i2b (i2b (shr v1 (i3 24))))) 3 ((((sm_up G1 3 ((G1 2 1).toNatClampNeg) (i2b (i2b (shr v1 (i3 24))))) 2 1) + (i3 1)).toNatClampNeg) (i2b (i2b (shr v1 (i3 16))))) 3 ((((sm_up (sm_up G1 3 ((G1 2 1).toNatClampNeg) (i2b (i2b (shr v1 (i3 24))))) 3 ((((sm_up G1 3 ((G1 2 1).toNatClampNeg) (i2b (i2b (shr v1 (i3 24))))) 2 1) + (i3 1)).toNatClampNeg) (i2b (i2b (shr v1 (i3 16))))) 2 1) + (i3 2)).toNatClampNeg) (i2b (i2b (shr v1 (i3 8))))) 2 1) + (i3 3)).toNatClampNeg) (i2b (i2b v1))) 2 1) + (i3 4))) L1)))))) oX := by
  rw [rm_133]
  try simp only [gd_tt, (q_2_0 V), bst21_e k_3 n_3, k_2, n_3]
/-! S_lost -/
set_option maxRecDepth 20000 in
theorem rm_13 {d x : Nat} {R : sm_R} {G : sm_G} {L : sm_L} : sm_cv0 (d + 1) 13 342 R [.ref 1] (x, G, L) =
  sm_aR (sm_cv0 d 14 342 R [.ref 1] (x, G, L)) (fun p1 x1 G1 L1 =>
    gd (sm_is p1 342 2) (sm_aI (sm_cv0 d 97 342 R [.ref p1, .ref (R 1 10)] (x1, G1, L1)) (fun a2 x2 G2 L2 =>
      oI a2 x2 G2 L2) oX)) oX := (cv_eq rfl rfl).trans (hD_eq.trans rfl)
set_option maxRecDepth 20000 in
theorem m_13 {d x : Nat} {V : pV} {G : sm_G} {L : sm_L} : sm_cv0 (d + 1) 13 342 (RR V) [.ref 1] (x, G, L) =
  sm_aR (sm_cv0 d 14 342 (RR V) [.ref 1] (x, G, L)) (fun p1 x1 G1 L1 =>
    gd (sm_is p1 342 2) (sm_aI (sm_cv0 d 97 342 (RR V) [.ref p1, .ref V.1] (x1, G1, L1)) (fun a2 x2 G2 L2 =>
      oI a2 x2 G2 L2) oX)) oX := by
  rw [rm_13]
  try simp only [gd_tt, (q_1_10 V), k_1]
/-! S_whose -/
set_option maxRecDepth 20000 in
theorem rm_16 {d x : Nat} {R : sm_R} {G : sm_G} {L : sm_L} : sm_cv0 (d + 1) 16 342 R [.ref 1] (x, G, L) =
  sm_aR (sm_cv0 d 15 342 R [.ref 1] (x, G, L)) (fun p1 x1 G1 L1 =>
    hD d 16 9 [.ref 1, .ref p1, .int (i3 0), .int (i3 0)] 342 R x1 G1 L1) oX := (cv_eq rfl rfl).trans (hD_eq.trans rfl)
set_option maxRecDepth 20000 in
theorem m_16 {d x : Nat} {V : pV} {G : sm_G} {L : sm_L} : sm_cv0 (d + 1) 16 342 (RR V) [.ref 1] (x, G, L) =
  sm_aR (sm_cv0 d 15 342 (RR V) [.ref 1] (x, G, L)) (fun p1 x1 G1 L1 =>
    hD d 16 9 [.ref 1, .ref p1, .int (i3 0), .int (i3 0)] 342 (RR V) x1 G1 L1) oX := by
  rw [rm_16]
  try simp only [gd_tt, k_1]
set_option maxRecDepth 20000 in
theorem rh_16_9 {d x : Nat} {R : sm_R} {G : sm_G} {L : sm_L} {r1 : Nat} {v2 v3 : Int32} : hD d 16 9 [.ref 1, .ref r1, .int v2, .int v3] 342 R x G L =
  gd (sm_is (R 1 10) 342 5) (if v3 < (G (R 1 10) 9) then
    (gd (sm_is r1 342 1) (gd (sm_is (R 1 13) 342 0) (sm_aI (sm_cv0 d 74 342 R [.ref (R 1 13), .int v3, .ref (R r1 1)] (x, G, L)) (fun a1 x1 G1 L1 =>
      if a1 = (i3 0) then
        (hD d 16 9 [.ref 1, .ref r1, .int v2, .int (v3 + (i3 1))] 342 R x1 G1 L1)
      else (hD d 16 9 [.ref 1, .ref r1, .int (v2 ||| (shl (i3 1) v3)), .int (v3 + (i3 1))] 342 R x1 G1 L1)) oX)))
  else (oI v2 x G L)) := hD_eq.trans rfl
set_option maxRecDepth 20000 in
theorem h_16_9 {d x : Nat} {V : pV} {G : sm_G} {L : sm_L} {v2 v3 : Int32} (hV : okV V) : hD d 16 9 [.ref 1, .ref 54, .int v2, .int v3] 342 (RR V) x G L =
  if v3 < (G V.1 9) then
    (sm_aI (sm_cv0 d 74 342 (RR V) [.ref V.2.2.2.1, .int v3, .ref 56] (x, G, L)) (fun a1 x1 G1 L1 =>
      if a1 = (i3 0) then
        (hD d 16 9 [.ref 1, .ref 54, .int v2, .int (v3 + (i3 1))] 342 (RR V) x1 G1 L1)
      else (hD d 16 9 [.ref 1, .ref 54, .int (v2 ||| (shl (i3 1) v3)), .int (v3 + (i3 1))] 342 (RR V) x1 G1 L1)) oX)
  else (oI v2 x G L) := by
  rw [rh_16_9]
  try simp only [gd_tt, (kB_0 hV.2.2.2.1), (kS_0 hV.1), (q_1_10 V), (q_1_13 V), (q_54_1 V), k_1, k_54]
/-! S_there -/
set_option maxRecDepth 20000 in
theorem rm_40 {d x : Nat} {R : sm_R} {G : sm_G} {L : sm_L} {v1 v2 : Int32} : sm_cv0 (d + 1) 40 342 R [.ref 1, .int v1, .int v2] (x, G, L) =
  sm_aV (sm_cv0 d 41 342 R [.ref 1, .int v1] (x, G, L)) (fun x1 G1 L1 =>
    sm_aV (sm_cv0 d 38 342 R [.ref 1, .int v2] (x1, G1, L1)) (fun x2 G2 L2 =>
      sm_aR (sm_cv0 d 15 342 R [.ref 1] (x2, G2, L2)) (fun p3 x3 G3 L3 =>
        gd (sm_is p3 342 1) (ldi (R p3 1) v2 G3 (fun y4 => if ((shr y4 v1) &&& (i3 1)) = (i3 0) then
          (oI (i3 0) x3 G3 L3)
        else (oI (i3 1) x3 G3 L3)))) oX) oX) oX := (cv_eq rfl rfl).trans (hD_eq.trans rfl)
set_option maxRecDepth 20000 in
theorem m_40 {d x : Nat} {V : pV} {G : sm_G} {L : sm_L} {v1 v2 : Int32} : sm_cv0 (d + 1) 40 342 (RR V) [.ref 1, .int v1, .int v2] (x, G, L) =
  sm_aV (sm_cv0 d 41 342 (RR V) [.ref 1, .int v1] (x, G, L)) (fun x1 G1 L1 =>
    sm_aV (sm_cv0 d 38 342 (RR V) [.ref 1, .int v2] (x1, G1, L1)) (fun x2 G2 L2 =>
      sm_aR (sm_cv0 d 15 342 (RR V) [.ref 1] (x2, G2, L2)) (fun p3 x3 G3 L3 =>
        gd (sm_is p3 342 1) (ldi (RR V p3 1) v2 G3 (fun y4 => if ((shr y4 v1) &&& (i3 1)) = (i3 0) then
          (oI (i3 0) x3 G3 L3)
        else (oI (i3 1) x3 G3 L3)))) oX) oX) oX := by
  rw [rm_40]
  try simp only [gd_tt, k_1]
