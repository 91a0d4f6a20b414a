/-! block equations, by the program wip/gen/gen4.py -/
/-! JArrays_fill -/
set_option maxRecDepth 20000 in
theorem rm_6 {d x : Nat} {R : sm_R} {G : sm_G} {L : sm_L} {r0 : Nat} {v1 : Int32} : sm_cv0 (d + 1) 6 342 R [.ref r0, .int v1] (x, G, L) =
  aln r0 G (fun y1 => hD d 6 5 [.ref r0, .int v1, .int (i3 0), .int y1] 342 R x G L) := (cv_eq rfl rfl).trans (hD_eq.trans rfl)
theorem m_6 {d x : Nat} {V : pV} {G : sm_G} {L : sm_L} {r0 : Nat} {v1 : Int32} : sm_cv0 (d + 1) 6 342 (RR V) [.ref r0, .int v1] (x, G, L) =
  aln r0 G (fun y1 => hD d 6 5 [.ref r0, .int v1, .int (i3 0), .int y1] 342 (RR V) x G L) := rm_6
set_option maxRecDepth 20000 in
theorem rh_6_5 {d x : Nat} {R : sm_R} {G : sm_G} {L : sm_L} {r0 : Nat} {v1 v2 v3 : Int32} : hD d 6 5 [.ref r0, .int v1, .int v2, .int v3] 342 R x G L =
  if v2 < v3 then
    (gd (sm_is r0 342 20) (gd (sm_in v2 (sm_N r0)) (hD d 6 5 [.ref r0, .int v1, .int (v2 + (i3 1)), .int v3] 342 R x (sm_up G r0 v2.toNatClampNeg v1) L)))
  else (oV x G L) := hD_eq.trans rfl
theorem h_6_5 {d x : Nat} {V : pV} {G : sm_G} {L : sm_L} {r0 : Nat} {v1 v2 v3 : Int32} : hD d 6 5 [.ref r0, .int v1, .int v2, .int v3] 342 (RR V) x G L =
  if v2 < v3 then
    (gd (sm_is r0 342 20) (gd (sm_in v2 (sm_N r0)) (hD d 6 5 [.ref r0, .int v1, .int (v2 + (i3 1)), .int v3] 342 (RR V) x (sm_up G r0 v2.toNatClampNeg v1) L)))
  else (oV x G L) := rh_6_5
/-! JInteger_bitCount -/
set_option maxRecDepth 20000 in
theorem rm_7 {d x : Nat} {R : sm_R} {G : sm_G} {L : sm_L} {v0 : Int32} : sm_cv0 (d + 1) 7 342 R [.int v0] (x, G, L) =
  hD d 7 34 [.int (((((v0 - ((ushr v0 (i3 1)) &&& (i3 1431655765))) &&& (i3 858993459)) + ((ushr (v0 - ((ushr v0 (i3 1)) &&& (i3 1431655765))) (i3 2)) &&& (i3 858993459))) + (ushr (((v0 - ((ushr v0 (i3 1)) &&& (i3 1431655765))) &&& (i3 858993459)) + ((ushr (v0 - ((ushr v0 (i3 1)) &&& (i3 1431655765))) (i3 2)) &&& (i3 858993459))) (i3 4))) &&& (i3 252645135))] 342 R x G L := (cv_eq rfl rfl).trans (hD_eq.trans rfl)
theorem m_7 {d x : Nat} {V : pV} {G : sm_G} {L : sm_L} {v0 : Int32} : sm_cv0 (d + 1) 7 342 (RR V) [.int v0] (x, G, L) =
  hD d 7 34 [.int (((((v0 - ((ushr v0 (i3 1)) &&& (i3 1431655765))) &&& (i3 858993459)) + ((ushr (v0 - ((ushr v0 (i3 1)) &&& (i3 1431655765))) (i3 2)) &&& (i3 858993459))) + (ushr (((v0 - ((ushr v0 (i3 1)) &&& (i3 1431655765))) &&& (i3 858993459)) + ((ushr (v0 - ((ushr v0 (i3 1)) &&& (i3 1431655765))) (i3 2)) &&& (i3 858993459))) (i3 4))) &&& (i3 252645135))] 342 (RR V) x G L := rm_7
set_option maxRecDepth 20000 in
theorem rh_7_34 {d x : Nat} {R : sm_R} {G : sm_G} {L : sm_L} {v0 : Int32} : hD d 7 34 [.int v0] 342 R x G L =
  oI (((v0 + (ushr v0 (i3 8))) + (ushr (v0 + (ushr v0 (i3 8))) (i3 16))) &&& (i3 63)) x G L := hD_eq.trans rfl
theorem h_7_34 {d x : Nat} {V : pV} {G : sm_G} {L : sm_L} {v0 : Int32} : hD d 7 34 [.int v0] 342 (RR V) x G L =
  oI (((v0 + (ushr v0 (i3 8))) + (ushr (v0 + (ushr v0 (i3 8))) (i3 16))) &&& (i3 63)) x G L := rh_7_34
/-! JInteger_lowestOneBit -/
set_option maxRecDepth 20000 in
theorem rm_8 {d x : Nat} {R : sm_R} {G : sm_G} {L : sm_L} {v0 : Int32} : sm_cv0 (d + 1) 8 342 R [.int v0] (x, G, L) =
  oI (v0 &&& (-v0)) x G L := (cv_eq rfl rfl).trans (hD_eq.trans rfl)
theorem m_8 {d x : Nat} {V : pV} {G : sm_G} {L : sm_L} {v0 : Int32} : sm_cv0 (d + 1) 8 342 (RR V) [.int v0] (x, G, L) =
  oI (v0 &&& (-v0)) x G L := rm_8
/-! JInteger_numberOfTrailingZeros -/
set_option maxRecDepth 20000 in
theorem rm_9 {d x : Nat} {R : sm_R} {G : sm_G} {L : sm_L} {v0 : Int32} : sm_cv0 (d + 1) 9 342 R [.int v0] (x, G, L) =
  if ((v0 ^^^ m1) &&& (v0 - (i3 1))) ≤ (i3 0) then
    (oI (((v0 ^^^ m1) &&& (v0 - (i3 1))) &&& (i3 32)) x G L)
  else (if ((v0 ^^^ m1) &&& (v0 - (i3 1))) ≤ (i3 65536) then
      (if ((v0 ^^^ m1) &&& (v0 - (i3 1))) ≤ (i3 256) then
        (hD d 9 49 [.int ((v0 ^^^ m1) &&& (v0 - (i3 1))), .int (i3 1)] 342 R x G L)
      else (hD d 9 44 [.int ((v0 ^^^ m1) &&& (v0 - (i3 1))), .int ((i3 1) + (i3 8))] 342 R x G L))
    else (hD d 9 29 [.int ((v0 ^^^ m1) &&& (v0 - (i3 1))), .int ((i3 1) + (i3 16))] 342 R x G L)) := (cv_eq rfl rfl).trans (hD_eq.trans rfl)
theorem m_9 {d x : Nat} {V : pV} {G : sm_G} {L : sm_L} {v0 : Int32} : sm_cv0 (d + 1) 9 342 (RR V) [.int v0] (x, G, L) =
  if ((v0 ^^^ m1) &&& (v0 - (i3 1))) ≤ (i3 0) then
    (oI (((v0 ^^^ m1) &&& (v0 - (i3 1))) &&& (i3 32)) x G L)
  else (if ((v0 ^^^ m1) &&& (v0 - (i3 1))) ≤ (i3 65536) then
      (if ((v0 ^^^ m1) &&& (v0 - (i3 1))) ≤ (i3 256) then
        (hD d 9 49 [.int ((v0 ^^^ m1) &&& (v0 - (i3 1))), .int (i3 1)] 342 (RR V) x G L)
      else (hD d 9 44 [.int ((v0 ^^^ m1) &&& (v0 - (i3 1))), .int ((i3 1) + (i3 8))] 342 (RR V) x G L))
    else (hD d 9 29 [.int ((v0 ^^^ m1) &&& (v0 - (i3 1))), .int ((i3 1) + (i3 16))] 342 (RR V) x G L)) := rm_9
set_option maxRecDepth 20000 in
theorem rh_9_29 {d x : Nat} {R : sm_R} {G : sm_G} {L : sm_L} {v0 v1 : Int32} : hD d 9 29 [.int v0, .int v1] 342 R x G L =
  if (ushr v0 (i3 16)) ≤ (i3 256) then
    (hD d 9 49 [.int (ushr v0 (i3 16)), .int v1] 342 R x G L)
  else (hD d 9 44 [.int (ushr v0 (i3 16)), .int (v1 + (i3 8))] 342 R x G L) := hD_eq.trans rfl
theorem h_9_29 {d x : Nat} {V : pV} {G : sm_G} {L : sm_L} {v0 v1 : Int32} : hD d 9 29 [.int v0, .int v1] 342 (RR V) x G L =
  if (ushr v0 (i3 16)) ≤ (i3 256) then
    (hD d 9 49 [.int (ushr v0 (i3 16)), .int v1] 342 (RR V) x G L)
  else (hD d 9 44 [.int (ushr v0 (i3 16)), .int (v1 + (i3 8))] 342 (RR V) x G L) := rh_9_29
set_option maxRecDepth 20000 in
theorem rh_9_44 {d x : Nat} {R : sm_R} {G : sm_G} {L : sm_L} {v0 v1 : Int32} : hD d 9 44 [.int v0, .int v1] 342 R x G L =
  hD d 9 49 [.int (ushr v0 (i3 8)), .int v1] 342 R x G L := hD_eq.trans rfl
theorem h_9_44 {d x : Nat} {V : pV} {G : sm_G} {L : sm_L} {v0 v1 : Int32} : hD d 9 44 [.int v0, .int v1] 342 (RR V) x G L =
  hD d 9 49 [.int (ushr v0 (i3 8)), .int v1] 342 (RR V) x G L := rh_9_44
set_option maxRecDepth 20000 in
theorem rh_9_49 {d x : Nat} {R : sm_R} {G : sm_G} {L : sm_L} {v0 v1 : Int32} : hD d 9 49 [.int v0, .int v1] 342 R x G L =
  if v0 ≤ (i3 16) then
    (hD d 9 62 [.int v0, .int v1] 342 R x G L)
  else (hD d 9 62 [.int (ushr v0 (i3 4)), .int (v1 + (i3 4))] 342 R x G L) := hD_eq.trans rfl
theorem h_9_49 {d x : Nat} {V : pV} {G : sm_G} {L : sm_L} {v0 v1 : Int32} : hD d 9 49 [.int v0, .int v1] 342 (RR V) x G L =
  if v0 ≤ (i3 16) then
    (hD d 9 62 [.int v0, .int v1] 342 (RR V) x G L)
  else (hD d 9 62 [.int (ushr v0 (i3 4)), .int (v1 + (i3 4))] 342 (RR V) x G L) := rh_9_49
set_option maxRecDepth 20000 in
theorem rh_9_62 {d x : Nat} {R : sm_R} {G : sm_G} {L : sm_L} {v0 v1 : Int32} : hD d 9 62 [.int v0, .int v1] 342 R x G L =
  if v0 ≤ (i3 4) then
    (oI (v1 + (ushr v0 (i3 1))) x G L)
  else (oI ((v1 + (i3 2)) + (ushr (ushr v0 (i3 2)) (i3 1))) x G L) := hD_eq.trans rfl
theorem h_9_62 {d x : Nat} {V : pV} {G : sm_G} {L : sm_L} {v0 v1 : Int32} : hD d 9 62 [.int v0, .int v1] 342 (RR V) x G L =
  if v0 ≤ (i3 4) then
    (oI (v1 + (ushr v0 (i3 1))) x G L)
  else (oI ((v1 + (i3 2)) + (ushr (ushr v0 (i3 2)) (i3 1))) x G L) := rh_9_62
/-! JLong_numberOfTrailingZeros -/
set_option maxRecDepth 20000 in
theorem rm_10 {d x : Nat} {R : sm_R} {G : sm_G} {L : sm_L} {w0 : Int64} : sm_cv0 (d + 1) 10 342 R [.long w0] (x, G, L) =
  if (Int64.toInt32 w0) = (i3 0) then
    (sm_aI (sm_cv0 d 9 342 R [.int (Int64.toInt32 (lushr w0 (i3 32)))] (x, G, L)) (fun a1 x1 G1 L1 =>
      oI ((i3 32) + a1) x1 G1 L1) oX)
  else (sm_aI (sm_cv0 d 9 342 R [.int (Int64.toInt32 w0)] (x, G, L)) (fun a2 x2 G2 L2 =>
      oI a2 x2 G2 L2) oX) := (cv_eq rfl rfl).trans (hD_eq.trans rfl)
theorem m_10 {d x : Nat} {V : pV} {G : sm_G} {L : sm_L} {w0 : Int64} : sm_cv0 (d + 1) 10 342 (RR V) [.long w0] (x, G, L) =
  if (Int64.toInt32 w0) = (i3 0) then
    (sm_aI (sm_cv0 d 9 342 (RR V) [.int (Int64.toInt32 (lushr w0 (i3 32)))] (x, G, L)) (fun a1 x1 G1 L1 =>
      oI ((i3 32) + a1) x1 G1 L1) oX)
  else (sm_aI (sm_cv0 d 9 342 (RR V) [.int (Int64.toInt32 w0)] (x, G, L)) (fun a2 x2 G2 L2 =>
      oI a2 x2 G2 L2) oX) := rm_10
/-! S_feed -/
set_option maxRecDepth 20000 in
theorem rm_11 {d x : Nat} {R : sm_R} {G : sm_G} {L : sm_L} {v1 v2 v3 v4 v5 : Int32} : sm_cv0 (d + 1) 11 342 R [.ref 1, .int v1, .int v2, .int v3, .int v4, .int v5] (x, G, L) =
  gd (sm_is (R 1 0) 342 6) (sm_aI (sm_cv0 d 132 342 R [.ref (R 1 0), .int (i3 20)] (x, G, L)) (fun a1 x1 G1 L1 =>
    if a1 = (i3 0) then
      (oI m1 x1 G1 L1)
    else (gd (sm_is (R 1 0) 342 6) (sm_aV (sm_cv0 d 133 342 R [.ref (R 1 0), .int v1] (x1, G1, L1)) (fun x2 G2 L2 =>
        gd (sm_is (R 1 0) 342 6) (sm_aV (sm_cv0 d 133 342 R [.ref (R 1 0), .int v2] (x2, G2, L2)) (fun x3 G3 L3 =>
          gd (sm_is (R 1 0) 342 6) (sm_aV (sm_cv0 d 133 342 R [.ref (R 1 0), .int v3] (x3, G3, L3)) (fun x4 G4 L4 =>
            gd (sm_is (R 1 0) 342 6) (sm_aV (sm_cv0 d 133 342 R [.ref (R 1 0), .int v4] (x4, G4, L4)) (fun x5 G5 L5 =>
              gd (sm_is (R 1 0) 342 6) (sm_aV (sm_cv0 d 133 342 R [.ref (R 1 0), .int v5] (x5, G5, L5)) (fun x6 G6 L6 =>
                gd (sm_is (R 1 0) 342 6) (oI (G6 (R 1 0) 1) x6 G6 L6)) oX)) oX)) oX)) oX)) oX))) oX) := (cv_eq rfl rfl).trans (hD_eq.trans rfl)
set_option maxRecDepth 20000 in
theorem m_11 {d x : Nat} {V : pV} {G : sm_G} {L : sm_L} {v1 v2 v3 v4 v5 : Int32} : sm_cv0 (d + 1) 11 342 (RR V) [.ref 1, .int v1, .int v2, .int v3, .int v4, .int v5] (x, G, L) =
  sm_aI (sm_cv0 d 132 342 (RR V) [.ref 2, .int (i3 20)] (x, G, L)) (fun a1 x1 G1 L1 =>
    if a1 = (i3 0) then
      (oI m1 x1 G1 L1)
    else (sm_aV (sm_cv0 d 133 342 (RR V) [.ref 2, .int v1] (x1, G1, L1)) (fun x2 G2 L2 =>
        sm_aV (sm_cv0 d 133 342 (RR V) [.ref 2, .int v2] (x2, G2, L2)) (fun x3 G3 L3 =>
          sm_aV (sm_cv0 d 133 342 (RR V) [.ref 2, .int v3] (x3, G3, L3)) (fun x4 G4 L4 =>
            sm_aV (sm_cv0 d 133 342 (RR V) [.ref 2, .int v4] (x4, G4, L4)) (fun x5 G5 L5 =>
              sm_aV (sm_cv0 d 133 342 (RR V) [.ref 2, .int v5] (x5, G5, L5)) (fun x6 G6 L6 =>
                oI (G6 2 1) x6 G6 L6) oX) oX) oX) oX) oX)) oX := by
  rw [rm_11]
  try simp only [gd_tt, (q_1_0 V), k_1, k_2]
/-! S_fault -/
set_option maxRecDepth 20000 in
theorem rm_12 {d x : Nat} {R : sm_R} {G : sm_G} {L : sm_L} : sm_cv0 (d + 1) 12 342 R [.ref 1] (x, G, L) =
  oI (G 1 16) x G L := (cv_eq rfl rfl).trans (hD_eq.trans rfl)
set_option maxRecDepth 20000 in
theorem m_12 {d x : Nat} {V : pV} {G : sm_G} {L : sm_L} : sm_cv0 (d + 1) 12 342 (RR V) [.ref 1] (x, G, L) =
  oI (G 1 16) x G L := by
  rw [rm_12]
  try simp only [gd_tt, k_1]
/-! S_lost -/
set_option maxRecDepth 20000 in
theorem rm_13 {d x : Nat} {R : sm_R} {G : sm_G} {L : sm_L} : sm_cv0 (d + 1) 13 342 R [.ref 1] (x, G, L) =
  sm_aR (sm_cv0 d 14 342 R [.ref 1] (x, G, L)) (fun p1 x1 G1 L1 =>
    gd (sm_is p1 342 2) (sm_aI (sm_cv0 d 97 342 R [.ref p1, .ref (R 1 10)] (x1, G1, L1)) (fun a2 x2 G2 L2 =>
      oI a2 x2 G2 L2) oX)) oX := (cv_eq rfl rfl).trans (hD_eq.trans rfl)
set_option maxRecDepth 20000 in
theorem m_13 {d x : Nat} {V : pV} {G : sm_G} {L : sm_L} : sm_cv0 (d + 1) 13 342 (RR V) [.ref 1] (x, G, L) =
  sm_aR (sm_cv0 d 14 342 (RR V) [.ref 1] (x, G, L)) (fun p1 x1 G1 L1 =>
    gd (sm_is p1 342 2) (sm_aI (sm_cv0 d 97 342 (RR V) [.ref p1, .ref V.1] (x1, G1, L1)) (fun a2 x2 G2 L2 =>
      oI a2 x2 G2 L2) oX)) oX := by
  rw [rm_13]
  try simp only [gd_tt, (q_1_10 V), k_1]
/-! S_freshNight -/
set_option maxRecDepth 20000 in
theorem rm_14 {d x : Nat} {R : sm_R} {G : sm_G} {L : sm_L} : sm_cv0 (d + 1) 14 342 R [.ref 1] (x, G, L) =
  if (G 1 18) = (i3 0) then
    (gd (Nat.ble 1 (R 1 6)) (oR (R 1 6) x G L))
  else (sm_aR (sm_cv0 d 15 342 R [.ref 1] (x, G, L)) (fun p1 x1 G1 L1 =>
      gd (sm_is (R 1 6) 342 2) (sm_aV (sm_cv0 d 87 342 R [.ref (R 1 6), .ref (R 1 10)] (x1, G1, L1)) (fun x2 G2 L2 =>
        gd (sm_is p1 342 1) (gd (sm_is (R 1 6) 342 2) (sm_aV (sm_cv0 d 88 342 R [.ref (R 1 6), .ref (R 1 10), .ref (R 1 2), .ref p1, .ref (R p1 1), .int (i3 0), .int (i3 0), .int (i3 300)] (x2, G2, L2)) (fun x3 G3 L3 =>
          gd (Nat.ble 1 (R 1 6)) (oR (R 1 6) x3 (sm_up G3 1 18 (i3 0)) L3)) oX))) oX)) oX) := (cv_eq rfl rfl).trans (hD_eq.trans rfl)
set_option maxRecDepth 20000 in
theorem m_14 {d x : Nat} {V : pV} {G : sm_G} {L : sm_L} : sm_cv0 (d + 1) 14 342 (RR V) [.ref 1] (x, G, L) =
  if (G 1 18) = (i3 0) then
    (oR 63 x G L)
  else (sm_aR (sm_cv0 d 15 342 (RR V) [.ref 1] (x, G, L)) (fun p1 x1 G1 L1 =>
      sm_aV (sm_cv0 d 87 342 (RR V) [.ref 63, .ref V.1] (x1, G1, L1)) (fun x2 G2 L2 =>
        gd (sm_is p1 342 1) (sm_aV (sm_cv0 d 88 342 (RR V) [.ref 63, .ref V.1, .ref 5, .ref p1, .ref (RR V p1 1), .int (i3 0), .int (i3 0), .int (i3 300)] (x2, G2, L2)) (fun x3 G3 L3 =>
          oR 63 x3 (sm_up G3 1 18 (i3 0)) L3) oX)) oX) oX) := by
  rw [rm_14]
  try simp only [gd_tt, (q_1_10 V), (q_1_2 V), (q_1_6 V), b_63, k_1, k_63]
/-! S_freshHours -/
set_option maxRecDepth 20000 in
theorem rm_15 {d x : Nat} {R : sm_R} {G : sm_G} {L : sm_L} : sm_cv0 (d + 1) 15 342 R [.ref 1] (x, G, L) =
  if (G 1 17) = (i3 0) then
    (gd (Nat.ble 1 (R 1 4)) (oR (R 1 4) x G L))
  else (gd (sm_is (R 1 4) 342 1) (sm_aV (sm_cv0 d 78 342 R [.ref (R 1 4), .ref (R 1 10)] (x, G, L)) (fun x1 G1 L1 =>
      gd (Nat.ble 1 (R 1 4)) (oR (R 1 4) x1 (sm_up G1 1 17 (i3 0)) L1)) oX)) := (cv_eq rfl rfl).trans (hD_eq.trans rfl)
set_option maxRecDepth 20000 in
theorem m_15 {d x : Nat} {V : pV} {G : sm_G} {L : sm_L} : sm_cv0 (d + 1) 15 342 (RR V) [.ref 1] (x, G, L) =
  if (G 1 17) = (i3 0) then
    (oR 54 x G L)
  else (sm_aV (sm_cv0 d 78 342 (RR V) [.ref 54, .ref V.1] (x, G, L)) (fun x1 G1 L1 =>
      oR 54 x1 (sm_up G1 1 17 (i3 0)) L1) oX) := by
  rw [rm_15]
  try simp only [gd_tt, (q_1_10 V), (q_1_4 V), b_54, k_1, k_54]
/-! S_whose -/
set_option maxRecDepth 20000 in
theorem rm_16 {d x : Nat} {R : sm_R} {G : sm_G} {L : sm_L} : sm_cv0 (d + 1) 16 342 R [.ref 1] (x, G, L) =
  sm_aR (sm_cv0 d 15 342 R [.ref 1] (x, G, L)) (fun p1 x1 G1 L1 =>
    hD d 16 9 [.ref 1, .ref p1, .int (i3 0), .int (i3 0)] 342 R x1 G1 L1) oX := (cv_eq rfl rfl).trans (hD_eq.trans rfl)
set_option maxRecDepth 20000 in
theorem m_16 {d x : Nat} {V : pV} {G : sm_G} {L : sm_L} : sm_cv0 (d + 1) 16 342 (RR V) [.ref 1] (x, G, L) =
  sm_aR (sm_cv0 d 15 342 (RR V) [.ref 1] (x, G, L)) (fun p1 x1 G1 L1 =>
    hD d 16 9 [.ref 1, .ref p1, .int (i3 0), .int (i3 0)] 342 (RR V) x1 G1 L1) oX := by
  rw [rm_16]
  try simp only [gd_tt, k_1]
set_option maxRecDepth 20000 in
theorem rh_16_9 {d x : Nat} {R : sm_R} {G : sm_G} {L : sm_L} {r1 : Nat} {v2 v3 : Int32} : hD d 16 9 [.ref 1, .ref r1, .int v2, .int v3] 342 R x G L =
  gd (sm_is (R 1 10) 342 5) (if v3 < (G (R 1 10) 9) then
    (gd (sm_is r1 342 1) (gd (sm_is (R 1 13) 342 0) (sm_aI (sm_cv0 d 74 342 R [.ref (R 1 13), .int v3, .ref (R r1 1)] (x, G, L)) (fun a1 x1 G1 L1 =>
      if a1 = (i3 0) then
        (hD d 16 9 [.ref 1, .ref r1, .int v2, .int (v3 + (i3 1))] 342 R x1 G1 L1)
      else (hD d 16 9 [.ref 1, .ref r1, .int (v2 ||| (shl (i3 1) v3)), .int (v3 + (i3 1))] 342 R x1 G1 L1)) oX)))
  else (oI v2 x G L)) := hD_eq.trans rfl
set_option maxRecDepth 20000 in
theorem h_16_9 {d x : Nat} {V : pV} {G : sm_G} {L : sm_L} {v2 v3 : Int32} (hV : okV V) : hD d 16 9 [.ref 1, .ref 54, .int v2, .int v3] 342 (RR V) x G L =
  if v3 < (G V.1 9) then
    (sm_aI (sm_cv0 d 74 342 (RR V) [.ref V.2.2.2.1, .int v3, .ref 56] (x, G, L)) (fun a1 x1 G1 L1 =>
      if a1 = (i3 0) then
        (hD d 16 9 [.ref 1, .ref 54, .int v2, .int (v3 + (i3 1))] 342 (RR V) x1 G1 L1)
      else (hD d 16 9 [.ref 1, .ref 54, .int (v2 ||| (shl (i3 1) v3)), .int (v3 + (i3 1))] 342 (RR V) x1 G1 L1)) oX)
  else (oI v2 x G L) := by
  rw [rh_16_9]
  try simp only [gd_tt, (kB_0 hV.2.2.2.1), (kS_0 hV.1), (q_1_10 V), (q_1_13 V), (q_54_1 V), k_1, k_54]
/-! S_quiet -/
set_option maxRecDepth 20000 in
theorem rm_17 {d x : Nat} {R : sm_R} {G : sm_G} {L : sm_L} : sm_cv0 (d + 1) 17 342 R [.ref 1] (x, G, L) =
  gd (sm_is (R 1 10) 342 5) (gd (sm_is (R (R 1 10) 0) 342 3) (sm_aI (sm_cv0 d 102 342 R [.ref (R (R 1 10) 0)] (x, G, L)) (fun a1 x1 G1 L1 =>
    oI ((i3 301) - a1) x1 G1 L1) oX)) := (cv_eq rfl rfl).trans (hD_eq.trans rfl)
set_option maxRecDepth 20000 in
theorem m_17 {d x : Nat} {V : pV} {G : sm_G} {L : sm_L} (hV : okV V) : sm_cv0 (d + 1) 17 342 (RR V) [.ref 1] (x, G, L) =
  sm_aI (sm_cv0 d 102 342 (RR V) [.ref (V.1 + 1)] (x, G, L)) (fun a1 x1 G1 L1 =>
    oI ((i3 301) - a1) x1 G1 L1) oX := by
  rw [rm_17]
  try simp only [gd_tt, (fS_0_0 V hV.1), (kS_0 hV.1), (kS_1 hV.1), (q_1_10 V), k_1]
/-! S_ends -/
set_option maxRecDepth 20000 in
theorem rm_18 {d x : Nat} {R : sm_R} {G : sm_G} {L : sm_L} : sm_cv0 (d + 1) 18 342 R [.ref 1] (x, G, L) =
  sm_aR (sm_cv0 d 15 342 R [.ref 1] (x, G, L)) (fun p1 x1 G1 L1 =>
    gd (sm_is p1 342 1) (sm_aI (sm_cv0 d 19 342 R [.ref (R p1 1)] (x1, G1, L1)) (fun a2 x2 G2 L2 =>
      oI a2 x2 G2 L2) oX)) oX := (cv_eq rfl rfl).trans (hD_eq.trans rfl)
set_option maxRecDepth 20000 in
theorem m_18 {d x : Nat} {V : pV} {G : sm_G} {L : sm_L} : sm_cv0 (d + 1) 18 342 (RR V) [.ref 1] (x, G, L) =
  sm_aR (sm_cv0 d 15 342 (RR V) [.ref 1] (x, G, L)) (fun p1 x1 G1 L1 =>
    gd (sm_is p1 342 1) (sm_aI (sm_cv0 d 19 342 (RR V) [.ref (RR V p1 1)] (x1, G1, L1)) (fun a2 x2 G2 L2 =>
      oI a2 x2 G2 L2) oX)) oX := by
  rw [rm_18]
  try simp only [gd_tt, k_1]
/-! S_lastOf -/
set_option maxRecDepth 20000 in
theorem rm_19 {d x : Nat} {R : sm_R} {G : sm_G} {L : sm_L} {r0 : Nat} : sm_cv0 (d + 1) 19 342 R [.ref r0] (x, G, L) =
  hD d 19 4 [.ref r0, .int m1, .int (i3 0)] 342 R x G L := (cv_eq rfl rfl).trans (hD_eq.trans rfl)
theorem m_19 {d x : Nat} {V : pV} {G : sm_G} {L : sm_L} {r0 : Nat} : sm_cv0 (d + 1) 19 342 (RR V) [.ref r0] (x, G, L) =
  hD d 19 4 [.ref r0, .int m1, .int (i3 0)] 342 (RR V) x G L := rm_19
set_option maxRecDepth 20000 in
theorem rh_19_4 {d x : Nat} {R : sm_R} {G : sm_G} {L : sm_L} {r0 : Nat} {v1 v2 : Int32} : hD d 19 4 [.ref r0, .int v1, .int v2] 342 R x G L =
  aln r0 G (fun y1 => if v2 < y1 then
    (ldi r0 v2 G (fun y2 => if y2 = (i3 0) then
      (hD d 19 4 [.ref r0, .int v1, .int (v2 + (i3 1))] 342 R x G L)
    else (hD d 19 4 [.ref r0, .int v2, .int (v2 + (i3 1))] 342 R x G L)))
  else (oI v1 x G L)) := hD_eq.trans rfl
theorem h_19_4 {d x : Nat} {V : pV} {G : sm_G} {L : sm_L} {r0 : Nat} {v1 v2 : Int32} : hD d 19 4 [.ref r0, .int v1, .int v2] 342 (RR V) x G L =
  aln r0 G (fun y1 => if v2 < y1 then
    (ldi r0 v2 G (fun y2 => if y2 = (i3 0) then
      (hD d 19 4 [.ref r0, .int v1, .int (v2 + (i3 1))] 342 (RR V) x G L)
    else (hD d 19 4 [.ref r0, .int v2, .int (v2 + (i3 1))] 342 (RR V) x G L)))
  else (oI v1 x G L)) := rh_19_4
/-! S_help -/
set_option maxRecDepth 20000 in
theorem rm_20 {d x : Nat} {R : sm_R} {G : sm_G} {L : sm_L} : sm_cv0 (d + 1) 20 342 R [.ref 1] (x, G, L) =
  sm_aR (sm_cv0 d 15 342 R [.ref 1] (x, G, L)) (fun p1 x1 G1 L1 =>
    hD d 20 9 [.ref 1, .ref p1, .int m1, .int (i3 5), .null, .null] 342 R x1 G1 L1) oX := (cv_eq rfl rfl).trans (hD_eq.trans rfl)
set_option maxRecDepth 20000 in
theorem m_20 {d x : Nat} {V : pV} {G : sm_G} {L : sm_L} : sm_cv0 (d + 1) 20 342 (RR V) [.ref 1] (x, G, L) =
  sm_aR (sm_cv0 d 15 342 (RR V) [.ref 1] (x, G, L)) (fun p1 x1 G1 L1 =>
    hD d 20 9 [.ref 1, .ref p1, .int m1, .int (i3 5), .null, .null] 342 (RR V) x1 G1 L1) oX := by
  rw [rm_20]
  try simp only [gd_tt, k_1]
set_option maxRecDepth 20000 in
theorem rh_20_9 {d x : Nat} {R : sm_R} {G : sm_G} {L : sm_L} {r1 : Nat} {v2 v3 : Int32} : hD d 20 9 [.ref 1, .ref r1, .int v2, .int v3, .null, .null] 342 R x G L =
  hD d 20 12 [.ref 1, .ref r1, .int v2, .int v3, .int (i3 0), .null] 342 R x G L := hD_eq.trans rfl
set_option maxRecDepth 20000 in
theorem h_20_9 {d x : Nat} {V : pV} {G : sm_G} {L : sm_L} {v2 v3 : Int32} : hD d 20 9 [.ref 1, .ref 54, .int v2, .int v3, .null, .null] 342 (RR V) x G L =
  hD d 20 12 [.ref 1, .ref 54, .int v2, .int v3, .int (i3 0), .null] 342 (RR V) x G L := by
  rw [rh_20_9]
  try simp only [gd_tt]
set_option maxRecDepth 20000 in
theorem rh_20_12 {d x : Nat} {R : sm_R} {G : sm_G} {L : sm_L} {r1 : Nat} {v2 v3 v4 : Int32} : hD d 20 12 [.ref 1, .ref r1, .int v2, .int v3, .int v4, .null] 342 R x G L =
  gd (sm_is (R 1 10) 342 5) (if v4 < (G (R 1 10) 9) then
    (gd (sm_is (R 1 10) 342 5) (gd (sm_is (R (R 1 10) 0) 342 3) (if ((shr (G (R (R 1 10) 0) 9) v4) &&& (i3 1)) = (i3 0) then
      (gd (sm_is r1 342 1) (gd (sm_is (R 1 10) 342 5) (sm_aI (sm_cv0 d 118 342 R [.ref (R 1 10), .int (shl (i3 1) v4)] (x, G, L)) (fun a1 x1 G1 L1 =>
        sm_aI (sm_cv0 d 21 342 R [.ref 1, .ref (R r1 1), .int a1] (x1, G1, L1)) (fun a2 x2 G2 L2 =>
          sm_aI (sm_cv0 d 7 342 R [.int a2] (x2, G2, L2)) (fun a3 x3 G3 L3 =>
            if a3 < v3 then
              (hD d 20 78 [.ref 1, .ref r1, .int v4, .int a3, .int v4, .null] 342 R x3 G3 L3)
            else (hD d 20 78 [.ref 1, .ref r1, .int v2, .int v3, .int v4, .null] 342 R x3 G3 L3)) oX) oX) oX)))
    else (hD d 20 78 [.ref 1, .ref r1, .int v2, .int v3, .int v4, .null] 342 R x G L))))
  else (oI v2 x G L)) := hD_eq.trans rfl
set_option maxRecDepth 20000 in
theorem h_20_12 {d x : Nat} {V : pV} {G : sm_G} {L : sm_L} {v2 v3 v4 : Int32} (hV : okV V) : hD d 20 12 [.ref 1, .ref 54, .int v2, .int v3, .int v4, .null] 342 (RR V) x G L =
  if v4 < (G V.1 9) then
    (if ((shr (G (V.1 + 1) 9) v4) &&& (i3 1)) = (i3 0) then
      (sm_aI (sm_cv0 d 118 342 (RR V) [.ref V.1, .int (shl (i3 1) v4)] (x, G, L)) (fun a1 x1 G1 L1 =>
        sm_aI (sm_cv0 d 21 342 (RR V) [.ref 1, .ref 56, .int a1] (x1, G1, L1)) (fun a2 x2 G2 L2 =>
          sm_aI (sm_cv0 d 7 342 (RR V) [.int a2] (x2, G2, L2)) (fun a3 x3 G3 L3 =>
            if a3 < v3 then
              (hD d 20 78 [.ref 1, .ref 54, .int v4, .int a3, .int v4, .null] 342 (RR V) x3 G3 L3)
            else (hD d 20 78 [.ref 1, .ref 54, .int v2, .int v3, .int v4, .null] 342 (RR V) x3 G3 L3)) oX) oX) oX)
    else (hD d 20 78 [.ref 1, .ref 54, .int v2, .int v3, .int v4, .null] 342 (RR V) x G L))
  else (oI v2 x G L) := by
  rw [rh_20_12]
  try simp only [gd_tt, (fS_0_0 V hV.1), (kS_0 hV.1), (kS_1 hV.1), (q_1_10 V), (q_54_1 V), k_1, k_54]
set_option maxRecDepth 20000 in
theorem rh_20_78 {d x : Nat} {R : sm_R} {G : sm_G} {L : sm_L} {r1 : Nat} {v2 v3 v4 : Int32} : hD d 20 78 [.ref 1, .ref r1, .int v2, .int v3, .int v4, .null] 342 R x G L =
  hD d 20 12 [.ref 1, .ref r1, .int v2, .int v3, .int (v4 + (i3 1)), .null] 342 R x G L := hD_eq.trans rfl
set_option maxRecDepth 20000 in
theorem h_20_78 {d x : Nat} {V : pV} {G : sm_G} {L : sm_L} {v2 v3 v4 : Int32} : hD d 20 78 [.ref 1, .ref 54, .int v2, .int v3, .int v4, .null] 342 (RR V) x G L =
  hD d 20 12 [.ref 1, .ref 54, .int v2, .int v3, .int (v4 + (i3 1)), .null] 342 (RR V) x G L := by
  rw [rh_20_78]
  try simp only [gd_tt]
/-! S_trialLost -/
set_option maxRecDepth 20000 in
theorem rm_21 {d x : Nat} {R : sm_R} {G : sm_G} {L : sm_L} {r1 : Nat} {v2 : Int32} : sm_cv0 (d + 1) 21 342 R [.ref 1, .ref r1, .int v2] (x, G, L) =
  gd (sm_is (R 1 7) 342 2) (sm_aV (sm_cv0 d 87 342 R [.ref (R 1 7), .ref (R 1 10)] (x, G, L)) (fun x1 G1 L1 =>
    sm_aR (sm_cv0 d 15 342 R [.ref 1] (x1, G1, L1)) (fun p2 x2 G2 L2 =>
      gd (sm_is (R 1 7) 342 2) (sm_aV (sm_cv0 d 88 342 R [.ref (R 1 7), .ref (R 1 10), .ref (R 1 2), .ref p2, .ref r1, .int v2, .int (i3 0), .int (i3 300)] (x2, G2, L2)) (fun x3 G3 L3 =>
        gd (sm_is (R 1 7) 342 2) (sm_aI (sm_cv0 d 97 342 R [.ref (R 1 7), .ref (R 1 10)] (x3, G3, L3)) (fun a4 x4 G4 L4 =>
          oI a4 x4 G4 L4) oX)) oX)) oX) oX) := (cv_eq rfl rfl).trans (hD_eq.trans rfl)
set_option maxRecDepth 20000 in
theorem m_21 {d x : Nat} {V : pV} {G : sm_G} {L : sm_L} {r1 : Nat} {v2 : Int32} : sm_cv0 (d + 1) 21 342 (RR V) [.ref 1, .ref r1, .int v2] (x, G, L) =
  sm_aV (sm_cv0 d 87 342 (RR V) [.ref 84, .ref V.1] (x, G, L)) (fun x1 G1 L1 =>
    sm_aR (sm_cv0 d 15 342 (RR V) [.ref 1] (x1, G1, L1)) (fun p2 x2 G2 L2 =>
      sm_aV (sm_cv0 d 88 342 (RR V) [.ref 84, .ref V.1, .ref 5, .ref p2, .ref r1, .int v2, .int (i3 0), .int (i3 300)] (x2, G2, L2)) (fun x3 G3 L3 =>
        sm_aI (sm_cv0 d 97 342 (RR V) [.ref 84, .ref V.1] (x3, G3, L3)) (fun a4 x4 G4 L4 =>
          oI a4 x4 G4 L4) oX) oX) oX) oX := by
  rw [rm_21]
  try simp only [gd_tt, (q_1_10 V), (q_1_2 V), (q_1_7 V), k_1, k_84]
/-! S_hush -/
set_option maxRecDepth 20000 in
theorem rm_22 {d x : Nat} {R : sm_R} {G : sm_G} {L : sm_L} {v1 : Int32} : sm_cv0 (d + 1) 22 342 R [.ref 1, .int v1] (x, G, L) =
  gd (sm_is (R 1 10) 342 5) (gd (sm_is (R (R 1 10) 0) 342 3) (sm_aI (sm_cv0 d 103 342 R [.ref (R (R 1 10) 0), .int v1] (x, G, L)) (fun a1 x1 G1 L1 =>
    if a1 = (i3 0) then
      (oI m1 x1 G1 L1)
    else (sm_aV (sm_cv0 d 23 342 R [.ref 1] (x1, G1, L1)) (fun x2 G2 L2 =>
        gd (sm_is (R 1 10) 342 5) (gd (sm_is (R (R 1 10) 0) 342 3) (oI (G2 (R (R 1 10) 0) 8) x2 G2 L2))) oX)) oX)) := (cv_eq rfl rfl).trans (hD_eq.trans rfl)
set_option maxRecDepth 20000 in
theorem m_22 {d x : Nat} {V : pV} {G : sm_G} {L : sm_L} {v1 : Int32} (hV : okV V) : sm_cv0 (d + 1) 22 342 (RR V) [.ref 1, .int v1] (x, G, L) =
  sm_aI (sm_cv0 d 103 342 (RR V) [.ref (V.1 + 1), .int v1] (x, G, L)) (fun a1 x1 G1 L1 =>
    if a1 = (i3 0) then
      (oI m1 x1 G1 L1)
    else (sm_aV (sm_cv0 d 23 342 (RR V) [.ref 1] (x1, G1, L1)) (fun x2 G2 L2 =>
        oI (G2 (V.1 + 1) 8) x2 G2 L2) oX)) oX := by
  rw [rm_22]
  try simp only [gd_tt, (fS_0_0 V hV.1), (kS_0 hV.1), (kS_1 hV.1), (q_1_10 V), k_1]
/-! S_changed -/
set_option maxRecDepth 20000 in
theorem rm_23 {d x : Nat} {R : sm_R} {G : sm_G} {L : sm_L} : sm_cv0 (d + 1) 23 342 R [.ref 1] (x, G, L) =
  oV x (sm_up (sm_up G 1 17 (i3 1)) 1 18 (i3 1)) L := (cv_eq rfl rfl).trans (hD_eq.trans rfl)
set_option maxRecDepth 20000 in
theorem m_23 {d x : Nat} {V : pV} {G : sm_G} {L : sm_L} : sm_cv0 (d + 1) 23 342 (RR V) [.ref 1] (x, G, L) =
  oV x (sm_up (sm_up G 1 17 (i3 1)) 1 18 (i3 1)) L := by
  rw [rm_23]
  try simp only [gd_tt, k_1]
/-! S_undo -/
set_option maxRecDepth 20000 in
theorem rm_24 {d x : Nat} {R : sm_R} {G : sm_G} {L : sm_L} : sm_cv0 (d + 1) 24 342 R [.ref 1] (x, G, L) =
  gd (sm_is (R 1 10) 342 5) (gd (sm_is (R (R 1 10) 0) 342 3) (sm_aI (sm_cv0 d 106 342 R [.ref (R (R 1 10) 0)] (x, G, L)) (fun a1 x1 G1 L1 =>
    if a1 = (i3 0) then
      (oI m1 x1 G1 L1)
    else (sm_aV (sm_cv0 d 23 342 R [.ref 1] (x1, G1, L1)) (fun x2 G2 L2 =>
        gd (sm_is (R 1 10) 342 5) (gd (sm_is (R (R 1 10) 0) 342 3) (oI (G2 (R (R 1 10) 0) 10) x2 G2 L2))) oX)) oX)) := (cv_eq rfl rfl).trans (hD_eq.trans rfl)
set_option maxRecDepth 20000 in
theorem m_24 {d x : Nat} {V : pV} {G : sm_G} {L : sm_L} (hV : okV V) : sm_cv0 (d + 1) 24 342 (RR V) [.ref 1] (x, G, L) =
  sm_aI (sm_cv0 d 106 342 (RR V) [.ref (V.1 + 1)] (x, G, L)) (fun a1 x1 G1 L1 =>
    if a1 = (i3 0) then
      (oI m1 x1 G1 L1)
    else (sm_aV (sm_cv0 d 23 342 (RR V) [.ref 1] (x1, G1, L1)) (fun x2 G2 L2 =>
        oI (G2 (V.1 + 1) 10) x2 G2 L2) oX)) oX := by
  rw [rm_24]
  try simp only [gd_tt, (fS_0_0 V hV.1), (kS_0 hV.1), (kS_1 hV.1), (q_1_10 V), k_1]
/-! S_image -/
set_option maxRecDepth 20000 in
theorem rm_25 {d x : Nat} {R : sm_R} {G : sm_G} {L : sm_L} : sm_cv0 (d + 1) 25 342 R [.ref 1] (x, G, L) =
  if (G 1 15) < (i3 3) then
    (gd (Nat.ble 24 (sm_K (R 1 3)) && Nat.ble (sm_K (R 1 3)) 27 && Nat.ble (R 1 3) 342) (gd (sm_in (G 1 15) (sm_N (R 1 3))) (gd (sm_is (R 1 10) 342 5) (gd (sm_is (R (R 1 3) (G 1 15).toNatClampNeg) 342 3) (sm_aV (sm_cv0 d 108 342 R [.ref (R (R 1 3) (G 1 15).toNatClampNeg), .ref (R (R 1 10) 0)] (x, G, L)) (fun x1 G1 L1 =>
      oI ((sm_up G1 1 15 ((G1 1 15) + (i3 1))) 1 15) x1 (sm_up G1 1 15 ((G1 1 15) + (i3 1))) L1) oX)))))
  else (oI m1 x G L) := (cv_eq rfl rfl).trans (hD_eq.trans rfl)
set_option maxRecDepth 20000 in
theorem m_25 {d x : Nat} {V : pV} {G : sm_G} {L : sm_L} (hV : okV V) : sm_cv0 (d + 1) 25 342 (RR V) [.ref 1] (x, G, L) =
  if (G 1 15) < (i3 3) then
    (gd (sm_in (G 1 15) 3) (gd (sm_is (RR V 26 (G 1 15).toNatClampNeg) 342 3) (sm_aV (sm_cv0 d 108 342 (RR V) [.ref (RR V 26 (G 1 15).toNatClampNeg), .ref (V.1 + 1)] (x, G, L)) (fun x1 G1 L1 =>
      oI ((sm_up G1 1 15 ((G1 1 15) + (i3 1))) 1 15) x1 (sm_up G1 1 15 ((G1 1 15) + (i3 1))) L1) oX)))
  else (oI m1 x G L) := by
  rw [rm_25]
  try simp only [gd_tt, (fS_0_0 V hV.1), (kS_0 hV.1), (q_1_10 V), (q_1_3 V), a_26, k_1, n_26]
/-! S_restore -/
set_option maxRecDepth 20000 in
theorem rm_26 {d x : Nat} {R : sm_R} {G : sm_G} {L : sm_L} : sm_cv0 (d + 1) 26 342 R [.ref 1] (x, G, L) =
  if (G 1 15) ≤ (i3 0) then
    (oI m1 x G L)
  else (gd (sm_is (R 1 10) 342 5) (gd (Nat.ble 24 (sm_K (R 1 3)) && Nat.ble (sm_K (R 1 3)) 27 && Nat.ble (R 1 3) 342) (gd (sm_in ((sm_up G 1 15 ((G 1 15) - (i3 1))) 1 15) (sm_N (R 1 3))) (gd (sm_is (R (R 1 10) 0) 342 3) (sm_aV (sm_cv0 d 108 342 R [.ref (R (R 1 10) 0), .ref (R (R 1 3) ((sm_up G 1 15 ((G 1 15) - (i3 1))) 1 15).toNatClampNeg)] (x, sm_up G 1 15 ((G 1 15) - (i3 1)), L)) (fun x1 G1 L1 =>
      sm_aV (sm_cv0 d 23 342 R [.ref 1] (x1, G1, L1)) (fun x2 G2 L2 =>
        oI (G2 1 15) x2 G2 L2) oX) oX))))) := (cv_eq rfl rfl).trans (hD_eq.trans rfl)
set_option maxRecDepth 20000 in
theorem m_26 {d x : Nat} {V : pV} {G : sm_G} {L : sm_L} (hV : okV V) : sm_cv0 (d + 1) 26 342 (RR V) [.ref 1] (x, G, L) =
  if (G 1 15) ≤ (i3 0) then
    (oI m1 x G L)
  else (gd (sm_in ((sm_up G 1 15 ((G 1 15) - (i3 1))) 1 15) 3) (sm_aV (sm_cv0 d 108 342 (RR V) [.ref (V.1 + 1), .ref (RR V 26 ((sm_up G 1 15 ((G 1 15) - (i3 1))) 1 15).toNatClampNeg)] (x, sm_up G 1 15 ((G 1 15) - (i3 1)), L)) (fun x1 G1 L1 =>
      sm_aV (sm_cv0 d 23 342 (RR V) [.ref 1] (x1, G1, L1)) (fun x2 G2 L2 =>
        oI (G2 1 15) x2 G2 L2) oX) oX)) := by
  rw [rm_26]
  try simp only [gd_tt, (fS_0_0 V hV.1), (kS_0 hV.1), (kS_1 hV.1), (q_1_10 V), (q_1_3 V), a_26, k_1, n_26]
/-! S_status -/
set_option maxRecDepth 20000 in
theorem rm_27 {d x : Nat} {R : sm_R} {G : sm_G} {L : sm_L} {v1 : Int32} : sm_cv0 (d + 1) 27 342 R [.ref 1, .int v1] (x, G, L) =
  if v1 < (i3 0) then
    (oI m1 x G L)
  else (if v1 < (i3 4) then
      (ldi (R 1 1) v1 G (fun y1 => oI y1 x G L))
    else (oI m1 x G L)) := (cv_eq rfl rfl).trans (hD_eq.trans rfl)
set_option maxRecDepth 20000 in
theorem m_27 {d x : Nat} {V : pV} {G : sm_G} {L : sm_L} {v1 : Int32} : sm_cv0 (d + 1) 27 342 (RR V) [.ref 1, .int v1] (x, G, L) =
  if v1 < (i3 0) then
    (oI m1 x G L)
  else (if v1 < (i3 4) then
      (gd (sm_in v1 4) (oI (G 4 v1.toNatClampNeg) x G L))
    else (oI m1 x G L)) := by
  rw [rm_27]
  try simp only [gd_tt, (q_1_1 V), k_1, ldi_e k_4 n_4, n_4]
/-! S_count -/
set_option maxRecDepth 20000 in
theorem rm_28 {d x : Nat} {R : sm_R} {G : sm_G} {L : sm_L} {v1 : Int32} : sm_cv0 (d + 1) 28 342 R [.ref 1, .int v1] (x, G, L) =
  if v1 = (i3 0) then
    (oI (G 1 15) x G L)
  else if v1 = (i3 1) then
    (gd (sm_is (R 1 0) 342 6) (oI (G (R 1 0) 1) x G L))
  else if v1 = (i3 2) then
    (gd (sm_is (R 1 10) 342 5) (gd (sm_is (R (R 1 10) 0) 342 3) (oI (G (R (R 1 10) 0) 10) x G L)))
  else (oI m1 x G L) := (cv_eq rfl rfl).trans (hD_eq.trans rfl)
set_option maxRecDepth 20000 in
theorem m_28 {d x : Nat} {V : pV} {G : sm_G} {L : sm_L} {v1 : Int32} (hV : okV V) : sm_cv0 (d + 1) 28 342 (RR V) [.ref 1, .int v1] (x, G, L) =
  if v1 = (i3 0) then
    (oI (G 1 15) x G L)
  else if v1 = (i3 1) then
    (oI (G 2 1) x G L)
  else if v1 = (i3 2) then
    (oI (G (V.1 + 1) 10) x G L)
  else (oI m1 x G L) := by
  rw [rm_28]
  try simp only [gd_tt, (fS_0_0 V hV.1), (kS_0 hV.1), (kS_1 hV.1), (q_1_0 V), (q_1_10 V), k_1, k_2]
/-! S_needThat -/
set_option maxRecDepth 20000 in
theorem rm_29 {d x : Nat} {R : sm_R} {G : sm_G} {L : sm_L} {v1 : Int32} : sm_cv0 (d + 1) 29 342 R [.ref 1, .int v1] (x, G, L) =
  if v1 = (i3 0) then
    (ldi (R 1 1) (i3 2) G (fun y1 => gd (sm_is (R 1 1) 342 20) (gd (sm_in (i3 2) (sm_N (R 1 1))) (oX 2 (x + 1) (sm_up G (R 1 1) 2 (y1 + (i3 1))) L))))
  else (oV x G L) := (cv_eq rfl rfl).trans (hD_eq.trans rfl)
set_option maxRecDepth 20000 in
theorem m_29 {d x : Nat} {V : pV} {G : sm_G} {L : sm_L} {v1 : Int32} : sm_cv0 (d + 1) 29 342 (RR V) [.ref 1, .int v1] (x, G, L) =
  if v1 = (i3 0) then
    (oX 2 (x + 1) (sm_up G 4 2 ((G 4 2) + (i3 1))) L)
  else (oV x G L) := by
  rw [rm_29]
  try simp only [gd_tt, (q_1_1 V), cl_2, inl_2_4, k_1, k_4, ldi_e k_4 n_4, n_4]
/-! S_endText -/
set_option maxRecDepth 20000 in
theorem rm_30 {d x : Nat} {R : sm_R} {G : sm_G} {L : sm_L} : sm_cv0 (d + 1) 30 342 R [.ref 1] (x, G, L) =
  gd (sm_is (R 1 0) 342 6) (gd (sm_is (R 1 0) 342 6) (gd (sm_is (R 1 0) 342 6) (sm_aI (sm_cv0 d 135 342 R [.ref (R 1 0)] (x, sm_up (sm_up G (R 1 0) 1 (i3 0)) 1 16 ((sm_up G (R 1 0) 1 (i3 0)) (R 1 0) 8), L)) (fun a1 x1 G1 L1 =>
    zd a1 (oI a1 x1 G1 L1)) oX))) := (cv_eq rfl rfl).trans (hD_eq.trans rfl)
set_option maxRecDepth 20000 in
theorem m_30 {d x : Nat} {V : pV} {G : sm_G} {L : sm_L} : sm_cv0 (d + 1) 30 342 (RR V) [.ref 1] (x, G, L) =
  sm_aI (sm_cv0 d 135 342 (RR V) [.ref 2] (x, sm_up (sm_up G 2 1 (i3 0)) 1 16 ((sm_up G 2 1 (i3 0)) 2 8), L)) (fun a1 x1 G1 L1 =>
    zd a1 (oI a1 x1 G1 L1)) oX := by
  rw [rm_30]
  try simp only [gd_tt, (q_1_0 V), k_1, k_2]
/-! S_needOne -/
set_option maxRecDepth 20000 in
theorem rm_31 {d x : Nat} {R : sm_R} {G : sm_G} {L : sm_L} {v1 v2 : Int32} : sm_cv0 (d + 1) 31 342 R [.ref 1, .int v1, .int v2] (x, G, L) =
  if v1 < (i3 0) then
    (ldi (R 1 1) (i3 1) G (fun y1 => gd (sm_is (R 1 1) 342 20) (gd (sm_in (i3 1) (sm_N (R 1 1))) (oX 1 (x + 1) (sm_up G (R 1 1) 1 (y1 + (i3 1))) L))))
  else (if v1 < v2 then
      (oV x G L)
    else (ldi (R 1 1) (i3 1) G (fun y2 => gd (sm_is (R 1 1) 342 20) (gd (sm_in (i3 1) (sm_N (R 1 1))) (oX 1 (x + 1) (sm_up G (R 1 1) 1 (y2 + (i3 1))) L))))) := (cv_eq rfl rfl).trans (hD_eq.trans rfl)
set_option maxRecDepth 20000 in
theorem m_31 {d x : Nat} {V : pV} {G : sm_G} {L : sm_L} {v1 v2 : Int32} : sm_cv0 (d + 1) 31 342 (RR V) [.ref 1, .int v1, .int v2] (x, G, L) =
  if v1 < (i3 0) then
    (oX 1 (x + 1) (sm_up G 4 1 ((G 4 1) + (i3 1))) L)
  else (if v1 < v2 then
      (oV x G L)
    else (oX 1 (x + 1) (sm_up G 4 1 ((G 4 1) + (i3 1))) L)) := by
  rw [rm_31]
  try simp only [gd_tt, (q_1_1 V), cl_1, inl_1_4, k_1, k_4, ldi_e k_4 n_4, n_4]
/-! S_told -/
set_option maxRecDepth 20000 in
theorem rm_32 {d x : Nat} {R : sm_R} {G : sm_G} {L : sm_L} {v1 : Int32} : sm_cv0 (d + 1) 32 342 R [.ref 1, .int v1] (x, G, L) =
  sm_aV (sm_cv0 d 33 342 R [.ref 1, .int v1, .int (i3 7)] (x, G, L)) (fun x1 G1 L1 =>
    if v1 = (i3 0) then
      (gd (sm_is (R 1 10) 342 5) (oI (G1 (R 1 10) 9) x1 G1 L1))
    else if v1 = (i3 1) then
      (gd (sm_is (R 1 10) 342 5) (oI (G1 (R 1 10) 10) x1 G1 L1))
    else if v1 = (i3 2) then
      (gd (sm_is (R 1 10) 342 5) (gd (sm_is (R (R 1 10) 0) 342 3) (oI (G1 (R (R 1 10) 0) 8) x1 G1 L1)))
    else if v1 = (i3 3) then
      (gd (sm_is (R 1 10) 342 5) (oI (G1 (R 1 10) 11) x1 G1 L1))
    else if v1 = (i3 4) then
      (gd (sm_is (R 1 10) 342 5) (oI (G1 (R 1 10) 12) x1 G1 L1))
    else if v1 = (i3 5) then
      (gd (sm_is (R 1 10) 342 5) (oI (G1 (R 1 10) 14) x1 G1 L1))
    else if v1 = (i3 6) then
      (gd (sm_is (R 1 10) 342 5) (gd (sm_is (R (R 1 10) 0) 342 3) (oI (G1 (R (R 1 10) 0) 9) x1 G1 L1)))
    else (gd (sm_is (R 1 13) 342 0) (oI (G1 (R 1 13) 2) x1 G1 L1))) oX := (cv_eq rfl rfl).trans (hD_eq.trans rfl)
set_option maxRecDepth 20000 in
theorem m_32 {d x : Nat} {V : pV} {G : sm_G} {L : sm_L} {v1 : Int32} (hV : okV V) : sm_cv0 (d + 1) 32 342 (RR V) [.ref 1, .int v1] (x, G, L) =
  sm_aV (sm_cv0 d 33 342 (RR V) [.ref 1, .int v1, .int (i3 7)] (x, G, L)) (fun x1 G1 L1 =>
    if v1 = (i3 0) then
      (oI (G1 V.1 9) x1 G1 L1)
    else if v1 = (i3 1) then
      (oI (G1 V.1 10) x1 G1 L1)
    else if v1 = (i3 2) then
      (oI (G1 (V.1 + 1) 8) x1 G1 L1)
    else if v1 = (i3 3) then
      (oI (G1 V.1 11) x1 G1 L1)
    else if v1 = (i3 4) then
      (oI (G1 V.1 12) x1 G1 L1)
    else if v1 = (i3 5) then
      (oI (G1 V.1 14) x1 G1 L1)
    else if v1 = (i3 6) then
      (oI (G1 (V.1 + 1) 9) x1 G1 L1)
    else (oI (G1 V.2.2.2.1 2) x1 G1 L1)) oX := by
  rw [rm_32]
  try simp only [gd_tt, (fS_0_0 V hV.1), (kB_0 hV.2.2.2.1), (kS_0 hV.1), (kS_1 hV.1), (q_1_10 V), (q_1_13 V), k_1]
/-! S_needWhat -/
set_option maxRecDepth 20000 in
theorem rm_33 {d x : Nat} {R : sm_R} {G : sm_G} {L : sm_L} {v1 v2 : Int32} : sm_cv0 (d + 1) 33 342 R [.ref 1, .int v1, .int v2] (x, G, L) =
  if v1 < (i3 0) then
    (sm_aV (sm_cv0 d 29 342 R [.ref 1, .int (i3 0)] (x, G, L)) (fun x1 G1 L1 =>
      oV x1 G1 L1) oX)
  else (if v1 ≤ v2 then
      (sm_aV (sm_cv0 d 29 342 R [.ref 1, .int (i3 1)] (x, G, L)) (fun x2 G2 L2 =>
        oV x2 G2 L2) oX)
    else (sm_aV (sm_cv0 d 29 342 R [.ref 1, .int (i3 0)] (x, G, L)) (fun x3 G3 L3 =>
        oV x3 G3 L3) oX)) := (cv_eq rfl rfl).trans (hD_eq.trans rfl)
set_option maxRecDepth 20000 in
theorem m_33 {d x : Nat} {V : pV} {G : sm_G} {L : sm_L} {v1 v2 : Int32} : sm_cv0 (d + 1) 33 342 (RR V) [.ref 1, .int v1, .int v2] (x, G, L) =
  if v1 < (i3 0) then
    (sm_aV (sm_cv0 d 29 342 (RR V) [.ref 1, .int (i3 0)] (x, G, L)) (fun x1 G1 L1 =>
      oV x1 G1 L1) oX)
  else (if v1 ≤ v2 then
      (sm_aV (sm_cv0 d 29 342 (RR V) [.ref 1, .int (i3 1)] (x, G, L)) (fun x2 G2 L2 =>
        oV x2 G2 L2) oX)
    else (sm_aV (sm_cv0 d 29 342 (RR V) [.ref 1, .int (i3 0)] (x, G, L)) (fun x3 G3 L3 =>
        oV x3 G3 L3) oX)) := by
  rw [rm_33]
  try simp only [gd_tt, k_1]
/-! S_sleeper -/
set_option maxRecDepth 20000 in
theorem rm_34 {d x : Nat} {R : sm_R} {G : sm_G} {L : sm_L} {v1 v2 : Int32} : sm_cv0 (d + 1) 34 342 R [.ref 1, .int v1, .int v2] (x, G, L) =
  gd (sm_is (R 1 10) 342 5) (sm_aV (sm_cv0 d 31 342 R [.ref 1, .int v1, .int (G (R 1 10) 9)] (x, G, L)) (fun x1 G1 L1 =>
    sm_aV (sm_cv0 d 33 342 R [.ref 1, .int v2, .int (i3 3)] (x1, G1, L1)) (fun x2 G2 L2 =>
      if v2 = (i3 0) then
        (gd (sm_is (R 1 10) 342 5) (gd (sm_is (R (R 1 10) 0) 342 3) (ldi (R (R (R 1 10) 0) 2) v1 G2 (fun y3 => oI y3 x2 G2 L2))))
      else if v2 = (i3 1) then
        (gd (sm_is (R 1 10) 342 5) (gd (sm_is (R (R 1 10) 0) 342 3) (ldi (R (R (R 1 10) 0) 3) v1 G2 (fun y4 => oI y4 x2 G2 L2))))
      else if v2 = (i3 2) then
        (gd (sm_is (R 1 10) 342 5) (ldi (R (R 1 10) 1) v1 G2 (fun y5 => oI y5 x2 G2 L2)))
      else (gd (sm_is (R 1 10) 342 5) (ldi (R (R 1 10) 2) v1 G2 (fun y6 => oI y6 x2 G2 L2)))) oX) oX) := (cv_eq rfl rfl).trans (hD_eq.trans rfl)
set_option maxRecDepth 20000 in
theorem m_34 {d x : Nat} {V : pV} {G : sm_G} {L : sm_L} {v1 v2 : Int32} (hV : okV V) : sm_cv0 (d + 1) 34 342 (RR V) [.ref 1, .int v1, .int v2] (x, G, L) =
  sm_aV (sm_cv0 d 31 342 (RR V) [.ref 1, .int v1, .int (G V.1 9)] (x, G, L)) (fun x1 G1 L1 =>
    sm_aV (sm_cv0 d 33 342 (RR V) [.ref 1, .int v2, .int (i3 3)] (x1, G1, L1)) (fun x2 G2 L2 =>
      if v2 = (i3 0) then
        (gd (sm_in v1 8) (oI (G2 (V.1 + 4) v1.toNatClampNeg) x2 G2 L2))
      else if v2 = (i3 1) then
        (gd (sm_in v1 8) (oI (G2 (V.1 + 5) v1.toNatClampNeg) x2 G2 L2))
      else if v2 = (i3 2) then
        (gd (sm_in v1 8) (oI (G2 (V.1 + 10) v1.toNatClampNeg) x2 G2 L2))
      else (gd (sm_in v1 8) (oI (G2 (V.1 + 11) v1.toNatClampNeg) x2 G2 L2))) oX) oX := by
  rw [rm_34]
  try simp only [gd_tt, (fS_0_0 V hV.1), (fS_0_1 V hV.1), (fS_0_2 V hV.1), (fS_1_2 V hV.1), (fS_1_3 V hV.1), (kS_0 hV.1), (kS_1 hV.1), (nS_10 hV.1), (nS_11 hV.1), (nS_4 hV.1), (nS_5 hV.1), (q_1_10 V), k_1, ldi_e (kS_10 hV.1) (nS_10 hV.1), ldi_e (kS_11 hV.1) (nS_11 hV.1), ldi_e (kS_4 hV.1) (nS_4 hV.1), ldi_e (kS_5 hV.1) (nS_5 hV.1)]
/-! S_door -/
set_option maxRecDepth 20000 in
theorem rm_35 {d x : Nat} {R : sm_R} {G : sm_G} {L : sm_L} {v1 v2 : Int32} : sm_cv0 (d + 1) 35 342 R [.ref 1, .int v1, .int v2] (x, G, L) =
  gd (sm_is (R 1 10) 342 5) (sm_aV (sm_cv0 d 31 342 R [.ref 1, .int v1, .int (G (R 1 10) 10)] (x, G, L)) (fun x1 G1 L1 =>
    sm_aV (sm_cv0 d 33 342 R [.ref 1, .int v2, .int (i3 3)] (x1, G1, L1)) (fun x2 G2 L2 =>
      if v2 = (i3 0) then
        (gd (sm_is (R 1 10) 342 5) (ldi (R (R 1 10) 4) v1 G2 (fun y3 => oI y3 x2 G2 L2)))
      else if v2 = (i3 1) then
        (gd (sm_is (R 1 10) 342 5) (ldi (R (R 1 10) 5) v1 G2 (fun y4 => oI y4 x2 G2 L2)))
      else if v2 = (i3 2) then
        (gd (sm_is (R 1 10) 342 5) (oI ((shr (G2 (R 1 10) 13) v1) &&& (i3 1)) x2 G2 L2))
      else (gd (sm_is (R 1 10) 342 5) (sm_aI (sm_cv0 d 131 342 R [.ref (R 1 10), .int v1] (x2, G2, L2)) (fun a5 x5 G5 L5 =>
          oI a5 x5 G5 L5) oX))) oX) oX) := (cv_eq rfl rfl).trans (hD_eq.trans rfl)
set_option maxRecDepth 20000 in
theorem m_35 {d x : Nat} {V : pV} {G : sm_G} {L : sm_L} {v1 v2 : Int32} (hV : okV V) : sm_cv0 (d + 1) 35 342 (RR V) [.ref 1, .int v1, .int v2] (x, G, L) =
  sm_aV (sm_cv0 d 31 342 (RR V) [.ref 1, .int v1, .int (G V.1 10)] (x, G, L)) (fun x1 G1 L1 =>
    sm_aV (sm_cv0 d 33 342 (RR V) [.ref 1, .int v2, .int (i3 3)] (x1, G1, L1)) (fun x2 G2 L2 =>
      if v2 = (i3 0) then
        (gd (sm_in v1 10) (oI (G2 (V.1 + 13) v1.toNatClampNeg) x2 G2 L2))
      else if v2 = (i3 1) then
        (gd (sm_in v1 10) (oI (G2 (V.1 + 14) v1.toNatClampNeg) x2 G2 L2))
      else if v2 = (i3 2) then
        (oI ((shr (G2 V.1 13) v1) &&& (i3 1)) x2 G2 L2)
      else (sm_aI (sm_cv0 d 131 342 (RR V) [.ref V.1, .int v1] (x2, G2, L2)) (fun a5 x5 G5 L5 =>
          oI a5 x5 G5 L5) oX)) oX) oX := by
  rw [rm_35]
  try simp only [gd_tt, (fS_0_4 V hV.1), (fS_0_5 V hV.1), (kS_0 hV.1), (nS_13 hV.1), (nS_14 hV.1), (q_1_10 V), k_1, ldi_e (kS_13 hV.1) (nS_13 hV.1), ldi_e (kS_14 hV.1) (nS_14 hV.1)]
/-! S_noise -/
set_option maxRecDepth 20000 in
theorem rm_36 {d x : Nat} {R : sm_R} {G : sm_G} {L : sm_L} {v1 v2 : Int32} : sm_cv0 (d + 1) 36 342 R [.ref 1, .int v1, .int v2] (x, G, L) =
  sm_aV (sm_cv0 d 33 342 R [.ref 1, .int v2, .int (i3 1)] (x, G, L)) (fun x1 G1 L1 =>
    if v1 < (i3 0) then
      (oI m1 x1 G1 L1)
    else (gd (sm_is (R 1 10) 342 5) (gd (sm_is (R (R 1 10) 0) 342 3) (if v1 < (G1 (R (R 1 10) 0) 8) then
        (if v2 = (i3 0) then
          (gd (sm_is (R 1 10) 342 5) (gd (sm_is (R (R 1 10) 0) 342 3) (ldi (R (R (R 1 10) 0) 0) v1 G1 (fun y2 => oI y2 x1 G1 L1))))
        else (gd (sm_is (R 1 10) 342 5) (gd (sm_is (R (R 1 10) 0) 342 3) (ldi (R (R (R 1 10) 0) 1) v1 G1 (fun y3 => oI y3 x1 G1 L1)))))
      else (oI m1 x1 G1 L1))))) oX := (cv_eq rfl rfl).trans (hD_eq.trans rfl)
set_option maxRecDepth 20000 in
theorem m_36 {d x : Nat} {V : pV} {G : sm_G} {L : sm_L} {v1 v2 : Int32} (hV : okV V) : sm_cv0 (d + 1) 36 342 (RR V) [.ref 1, .int v1, .int v2] (x, G, L) =
  sm_aV (sm_cv0 d 33 342 (RR V) [.ref 1, .int v2, .int (i3 1)] (x, G, L)) (fun x1 G1 L1 =>
    if v1 < (i3 0) then
      (oI m1 x1 G1 L1)
    else (if v1 < (G1 (V.1 + 1) 8) then
        (if v2 = (i3 0) then
          (gd (sm_in v1 12) (oI (G1 (V.1 + 2) v1.toNatClampNeg) x1 G1 L1))
        else (gd (sm_in v1 12) (oI (G1 (V.1 + 3) v1.toNatClampNeg) x1 G1 L1)))
      else (oI m1 x1 G1 L1))) oX := by
  rw [rm_36]
  try simp only [gd_tt, (fS_0_0 V hV.1), (fS_1_0 V hV.1), (fS_1_1 V hV.1), (kS_0 hV.1), (kS_1 hV.1), (nS_2 hV.1), (nS_3 hV.1), (q_1_10 V), k_1, ldi_e (kS_2 hV.1) (nS_2 hV.1), ldi_e (kS_3 hV.1) (nS_3 hV.1)]
/-! S_sleeps -/
set_option maxRecDepth 20000 in
theorem rm_37 {d x : Nat} {R : sm_R} {G : sm_G} {L : sm_L} {v1 v2 : Int32} : sm_cv0 (d + 1) 37 342 R [.ref 1, .int v1, .int v2] (x, G, L) =
  gd (sm_is (R 1 10) 342 5) (sm_aV (sm_cv0 d 31 342 R [.ref 1, .int v1, .int (G (R 1 10) 9)] (x, G, L)) (fun x1 G1 L1 =>
    sm_aV (sm_cv0 d 38 342 R [.ref 1, .int v2] (x1, G1, L1)) (fun x2 G2 L2 =>
      sm_aR (sm_cv0 d 15 342 R [.ref 1] (x2, G2, L2)) (fun p3 x3 G3 L3 =>
        gd (sm_is p3 342 1) (ldi (R p3 0) v2 G3 (fun y4 => if ((shr y4 v1) &&& (i3 1)) = (i3 0) then
          (oI (i3 0) x3 G3 L3)
        else (oI (i3 1) x3 G3 L3)))) oX) oX) oX) := (cv_eq rfl rfl).trans (hD_eq.trans rfl)
set_option maxRecDepth 20000 in
theorem m_37 {d x : Nat} {V : pV} {G : sm_G} {L : sm_L} {v1 v2 : Int32} (hV : okV V) : sm_cv0 (d + 1) 37 342 (RR V) [.ref 1, .int v1, .int v2] (x, G, L) =
  sm_aV (sm_cv0 d 31 342 (RR V) [.ref 1, .int v1, .int (G V.1 9)] (x, G, L)) (fun x1 G1 L1 =>
    sm_aV (sm_cv0 d 38 342 (RR V) [.ref 1, .int v2] (x1, G1, L1)) (fun x2 G2 L2 =>
      sm_aR (sm_cv0 d 15 342 (RR V) [.ref 1] (x2, G2, L2)) (fun p3 x3 G3 L3 =>
        gd (sm_is p3 342 1) (ldi (RR V p3 0) v2 G3 (fun y4 => if ((shr y4 v1) &&& (i3 1)) = (i3 0) then
          (oI (i3 0) x3 G3 L3)
        else (oI (i3 1) x3 G3 L3)))) oX) oX) oX := by
  rw [rm_37]
  try simp only [gd_tt, (kS_0 hV.1), (q_1_10 V), k_1]
/-! S_needMinute -/
set_option maxRecDepth 20000 in
theorem rm_38 {d x : Nat} {R : sm_R} {G : sm_G} {L : sm_L} {v1 : Int32} : sm_cv0 (d + 1) 38 342 R [.ref 1, .int v1] (x, G, L) =
  sm_aI (sm_cv0 d 39 342 R [.int v1] (x, G, L)) (fun a1 x1 G1 L1 =>
    sm_aV (sm_cv0 d 29 342 R [.ref 1, .int a1] (x1, G1, L1)) (fun x2 G2 L2 =>
      oV x2 G2 L2) oX) oX := (cv_eq rfl rfl).trans (hD_eq.trans rfl)
set_option maxRecDepth 20000 in
theorem m_38 {d x : Nat} {V : pV} {G : sm_G} {L : sm_L} {v1 : Int32} : sm_cv0 (d + 1) 38 342 (RR V) [.ref 1, .int v1] (x, G, L) =
  sm_aI (sm_cv0 d 39 342 (RR V) [.int v1] (x, G, L)) (fun a1 x1 G1 L1 =>
    sm_aV (sm_cv0 d 29 342 (RR V) [.ref 1, .int a1] (x1, G1, L1)) (fun x2 G2 L2 =>
      oV x2 G2 L2) oX) oX := by
  rw [rm_38]
  try simp only [gd_tt, k_1]
/-! S_isMinute -/
set_option maxRecDepth 20000 in
theorem rm_39 {d x : Nat} {R : sm_R} {G : sm_G} {L : sm_L} {v0 : Int32} : sm_cv0 (d + 1) 39 342 R [.int v0] (x, G, L) =
  if v0 < (i3 0) then
    (oI (i3 0) x G L)
  else (if v0 ≤ (i3 300) then
      (oI (i3 1) x G L)
    else (oI (i3 0) x G L)) := (cv_eq rfl rfl).trans (hD_eq.trans rfl)
theorem m_39 {d x : Nat} {V : pV} {G : sm_G} {L : sm_L} {v0 : Int32} : sm_cv0 (d + 1) 39 342 (RR V) [.int v0] (x, G, L) =
  if v0 < (i3 0) then
    (oI (i3 0) x G L)
  else (if v0 ≤ (i3 300) then
      (oI (i3 1) x G L)
    else (oI (i3 0) x G L)) := rm_39
/-! S_there -/
set_option maxRecDepth 20000 in
theorem rm_40 {d x : Nat} {R : sm_R} {G : sm_G} {L : sm_L} {v1 v2 : Int32} : sm_cv0 (d + 1) 40 342 R [.ref 1, .int v1, .int v2] (x, G, L) =
  sm_aV (sm_cv0 d 41 342 R [.ref 1, .int v1] (x, G, L)) (fun x1 G1 L1 =>
    sm_aV (sm_cv0 d 38 342 R [.ref 1, .int v2] (x1, G1, L1)) (fun x2 G2 L2 =>
      sm_aR (sm_cv0 d 15 342 R [.ref 1] (x2, G2, L2)) (fun p3 x3 G3 L3 =>
        gd (sm_is p3 342 1) (ldi (R p3 1) v2 G3 (fun y4 => if ((shr y4 v1) &&& (i3 1)) = (i3 0) then
          (oI (i3 0) x3 G3 L3)
        else (oI (i3 1) x3 G3 L3)))) oX) oX) oX := (cv_eq rfl rfl).trans (hD_eq.trans rfl)
set_option maxRecDepth 20000 in
theorem m_40 {d x : Nat} {V : pV} {G : sm_G} {L : sm_L} {v1 v2 : Int32} : sm_cv0 (d + 1) 40 342 (RR V) [.ref 1, .int v1, .int v2] (x, G, L) =
  sm_aV (sm_cv0 d 41 342 (RR V) [.ref 1, .int v1] (x, G, L)) (fun x1 G1 L1 =>
    sm_aV (sm_cv0 d 38 342 (RR V) [.ref 1, .int v2] (x1, G1, L1)) (fun x2 G2 L2 =>
      sm_aR (sm_cv0 d 15 342 (RR V) [.ref 1] (x2, G2, L2)) (fun p3 x3 G3 L3 =>
        gd (sm_is p3 342 1) (ldi (RR V p3 1) v2 G3 (fun y4 => if ((shr y4 v1) &&& (i3 1)) = (i3 0) then
          (oI (i3 0) x3 G3 L3)
        else (oI (i3 1) x3 G3 L3)))) oX) oX) oX := by
  rw [rm_40]
  try simp only [gd_tt, k_1]
/-! S_needRoom -/
set_option maxRecDepth 20000 in
theorem rm_41 {d x : Nat} {R : sm_R} {G : sm_G} {L : sm_L} {v1 : Int32} : sm_cv0 (d + 1) 41 342 R [.ref 1, .int v1] (x, G, L) =
  if v1 < (i3 0) then
    (ldi (R 1 1) (i3 0) G (fun y1 => gd (sm_is (R 1 1) 342 20) (gd (sm_in (i3 0) (sm_N (R 1 1))) (oX 0 (x + 1) (sm_up G (R 1 1) 0 (y1 + (i3 1))) L))))
  else (gd (sm_is (R 1 10) 342 5) (if v1 < (G (R 1 10) 9) then
      (oV x G L)
    else (ldi (R 1 1) (i3 0) G (fun y2 => gd (sm_is (R 1 1) 342 20) (gd (sm_in (i3 0) (sm_N (R 1 1))) (oX 0 (x + 1) (sm_up G (R 1 1) 0 (y2 + (i3 1))) L)))))) := (cv_eq rfl rfl).trans (hD_eq.trans rfl)
set_option maxRecDepth 20000 in
theorem m_41 {d x : Nat} {V : pV} {G : sm_G} {L : sm_L} {v1 : Int32} (hV : okV V) : sm_cv0 (d + 1) 41 342 (RR V) [.ref 1, .int v1] (x, G, L) =
  if v1 < (i3 0) then
    (oX 0 (x + 1) (sm_up G 4 0 ((G 4 0) + (i3 1))) L)
  else (if v1 < (G V.1 9) then
      (oV x G L)
    else (oX 0 (x + 1) (sm_up G 4 0 ((G 4 0) + (i3 1))) L)) := by
  rw [rm_41]
  try simp only [gd_tt, (kS_0 hV.1), (q_1_1 V), (q_1_10 V), cl_0, inl_0_4, k_1, k_4, ldi_e k_4 n_4, n_4]
/-! S_open -/
set_option maxRecDepth 20000 in
theorem rm_42 {d x : Nat} {R : sm_R} {G : sm_G} {L : sm_L} {v1 v2 : Int32} : sm_cv0 (d + 1) 42 342 R [.ref 1, .int v1, .int v2] (x, G, L) =
  gd (sm_is (R 1 10) 342 5) (sm_aV (sm_cv0 d 31 342 R [.ref 1, .int v1, .int (G (R 1 10) 10)] (x, G, L)) (fun x1 G1 L1 =>
    sm_aV (sm_cv0 d 38 342 R [.ref 1, .int v2] (x1, G1, L1)) (fun x2 G2 L2 =>
      sm_aR (sm_cv0 d 14 342 R [.ref 1] (x2, G2, L2)) (fun p3 x3 G3 L3 =>
        gd (sm_is p3 342 2) (ldi (R p3 3) v2 G3 (fun y4 => if ((shr y4 v1) &&& (i3 1)) = (i3 0) then
          (oI (i3 0) x3 G3 L3)
        else (oI (i3 1) x3 G3 L3)))) oX) oX) oX) := (cv_eq rfl rfl).trans (hD_eq.trans rfl)
set_option maxRecDepth 20000 in
theorem m_42 {d x : Nat} {V : pV} {G : sm_G} {L : sm_L} {v1 v2 : Int32} (hV : okV V) : sm_cv0 (d + 1) 42 342 (RR V) [.ref 1, .int v1, .int v2] (x, G, L) =
  sm_aV (sm_cv0 d 31 342 (RR V) [.ref 1, .int v1, .int (G V.1 10)] (x, G, L)) (fun x1 G1 L1 =>
    sm_aV (sm_cv0 d 38 342 (RR V) [.ref 1, .int v2] (x1, G1, L1)) (fun x2 G2 L2 =>
      sm_aR (sm_cv0 d 14 342 (RR V) [.ref 1] (x2, G2, L2)) (fun p3 x3 G3 L3 =>
        gd (sm_is p3 342 2) (ldi (RR V p3 3) v2 G3 (fun y4 => if ((shr y4 v1) &&& (i3 1)) = (i3 0) then
          (oI (i3 0) x3 G3 L3)
        else (oI (i3 1) x3 G3 L3)))) oX) oX) oX := by
  rw [rm_42]
  try simp only [gd_tt, (kS_0 hV.1), (q_1_10 V), k_1]
/-! S_where -/
set_option maxRecDepth 20000 in
theorem rm_43 {d x : Nat} {R : sm_R} {G : sm_G} {L : sm_L} {v1 v2 : Int32} : sm_cv0 (d + 1) 43 342 R [.ref 1, .int v1, .int v2] (x, G, L) =
  gd (sm_is (R 1 10) 342 5) (sm_aV (sm_cv0 d 31 342 R [.ref 1, .int v1, .int (G (R 1 10) 12)] (x, G, L)) (fun x1 G1 L1 =>
    sm_aV (sm_cv0 d 38 342 R [.ref 1, .int v2] (x1, G1, L1)) (fun x2 G2 L2 =>
      sm_aR (sm_cv0 d 14 342 R [.ref 1] (x2, G2, L2)) (fun p3 x3 G3 L3 =>
        gd (sm_is p3 342 2) (sm_aI (sm_cv0 d 98 342 R [.ref p3, .int v1, .int v2] (x3, G3, L3)) (fun a4 x4 G4 L4 =>
          oI a4 x4 G4 L4) oX)) oX) oX) oX) := (cv_eq rfl rfl).trans (hD_eq.trans rfl)
set_option maxRecDepth 20000 in
theorem m_43 {d x : Nat} {V : pV} {G : sm_G} {L : sm_L} {v1 v2 : Int32} (hV : okV V) : sm_cv0 (d + 1) 43 342 (RR V) [.ref 1, .int v1, .int v2] (x, G, L) =
  sm_aV (sm_cv0 d 31 342 (RR V) [.ref 1, .int v1, .int (G V.1 12)] (x, G, L)) (fun x1 G1 L1 =>
    sm_aV (sm_cv0 d 38 342 (RR V) [.ref 1, .int v2] (x1, G1, L1)) (fun x2 G2 L2 =>
      sm_aR (sm_cv0 d 14 342 (RR V) [.ref 1] (x2, G2, L2)) (fun p3 x3 G3 L3 =>
        gd (sm_is p3 342 2) (sm_aI (sm_cv0 d 98 342 (RR V) [.ref p3, .int v1, .int v2] (x3, G3, L3)) (fun a4 x4 G4 L4 =>
          oI a4 x4 G4 L4) oX)) oX) oX) oX := by
  rw [rm_43]
  try simp only [gd_tt, (kS_0 hV.1), (q_1_10 V), k_1]
/-! S_night -/
set_option maxRecDepth 20000 in
theorem rm_44 {d x : Nat} {R : sm_R} {G : sm_G} {L : sm_L} {v1 v2 : Int32} : sm_cv0 (d + 1) 44 342 R [.ref 1, .int v1, .int v2] (x, G, L) =
  gd (sm_is (R 1 10) 342 5) (sm_aV (sm_cv0 d 31 342 R [.ref 1, .int v1, .int (G (R 1 10) 12)] (x, G, L)) (fun x1 G1 L1 =>
    sm_aV (sm_cv0 d 33 342 R [.ref 1, .int v2, .int (i3 5)] (x1, G1, L1)) (fun x2 G2 L2 =>
      sm_aR (sm_cv0 d 14 342 R [.ref 1] (x2, G2, L2)) (fun p3 x3 G3 L3 =>
        gd (sm_is p3 342 2) (gd (Nat.ble 24 (sm_K (R p3 0)) && Nat.ble (sm_K (R p3 0)) 27 && Nat.ble (R p3 0) 342) (gd (sm_in v1 (sm_N (R p3 0))) (if v2 = (i3 0) then
          (gd (sm_is (R (R p3 0) v1.toNatClampNeg) 342 7) (oI (G3 (R (R p3 0) v1.toNatClampNeg) 2) x3 G3 L3))
        else if v2 = (i3 1) then
          (gd (sm_is (R (R p3 0) v1.toNatClampNeg) 342 7) (oI (G3 (R (R p3 0) v1.toNatClampNeg) 3) x3 G3 L3))
        else if v2 = (i3 2) then
          (gd (sm_is (R (R p3 0) v1.toNatClampNeg) 342 7) (oI (G3 (R (R p3 0) v1.toNatClampNeg) 4) x3 G3 L3))
        else if v2 = (i3 3) then
          (gd (sm_is (R (R p3 0) v1.toNatClampNeg) 342 7) (oI (G3 (R (R p3 0) v1.toNatClampNeg) 5) x3 G3 L3))
        else if v2 = (i3 4) then
          (gd (sm_is (R (R p3 0) v1.toNatClampNeg) 342 7) (oI (G3 (R (R p3 0) v1.toNatClampNeg) 6) x3 G3 L3))
        else (gd (sm_is (R (R p3 0) v1.toNatClampNeg) 342 7) (if (G3 (R (R p3 0) v1.toNatClampNeg) 10) = (i3 0) then
            (oI (i3 0) x3 G3 L3)
          else (oI (i3 1) x3 G3 L3))))))) oX) oX) oX) := (cv_eq rfl rfl).trans (hD_eq.trans rfl)
set_option maxRecDepth 20000 in
theorem m_44 {d x : Nat} {V : pV} {G : sm_G} {L : sm_L} {v1 v2 : Int32} (hV : okV V) : sm_cv0 (d + 1) 44 342 (RR V) [.ref 1, .int v1, .int v2] (x, G, L) =
  sm_aV (sm_cv0 d 31 342 (RR V) [.ref 1, .int v1, .int (G V.1 12)] (x, G, L)) (fun x1 G1 L1 =>
    sm_aV (sm_cv0 d 33 342 (RR V) [.ref 1, .int v2, .int (i3 5)] (x1, G1, L1)) (fun x2 G2 L2 =>
      sm_aR (sm_cv0 d 14 342 (RR V) [.ref 1] (x2, G2, L2)) (fun p3 x3 G3 L3 =>
        gd (sm_is p3 342 2) (gd (Nat.ble 24 (sm_K (RR V p3 0)) && Nat.ble (sm_K (RR V p3 0)) 27 && Nat.ble (RR V p3 0) 342) (gd (sm_in v1 (sm_N (RR V p3 0))) (if v2 = (i3 0) then
          (gd (sm_is (RR V (RR V p3 0) v1.toNatClampNeg) 342 7) (oI (G3 (RR V (RR V p3 0) v1.toNatClampNeg) 2) x3 G3 L3))
        else if v2 = (i3 1) then
          (gd (sm_is (RR V (RR V p3 0) v1.toNatClampNeg) 342 7) (oI (G3 (RR V (RR V p3 0) v1.toNatClampNeg) 3) x3 G3 L3))
        else if v2 = (i3 2) then
          (gd (sm_is (RR V (RR V p3 0) v1.toNatClampNeg) 342 7) (oI (G3 (RR V (RR V p3 0) v1.toNatClampNeg) 4) x3 G3 L3))
        else if v2 = (i3 3) then
          (gd (sm_is (RR V (RR V p3 0) v1.toNatClampNeg) 342 7) (oI (G3 (RR V (RR V p3 0) v1.toNatClampNeg) 5) x3 G3 L3))
        else if v2 = (i3 4) then
          (gd (sm_is (RR V (RR V p3 0) v1.toNatClampNeg) 342 7) (oI (G3 (RR V (RR V p3 0) v1.toNatClampNeg) 6) x3 G3 L3))
        else (gd (sm_is (RR V (RR V p3 0) v1.toNatClampNeg) 342 7) (if (G3 (RR V (RR V p3 0) v1.toNatClampNeg) 10) = (i3 0) then
            (oI (i3 0) x3 G3 L3)
          else (oI (i3 1) x3 G3 L3))))))) oX) oX) oX := by
  rw [rm_44]
  try simp only [gd_tt, (kS_0 hV.1), (q_1_10 V), k_1]
/-! S_cut -/
set_option maxRecDepth 20000 in
theorem rm_45 {d x : Nat} {R : sm_R} {G : sm_G} {L : sm_L} {v1 v2 : Int32} : sm_cv0 (d + 1) 45 342 R [.ref 1, .int v1, .int v2] (x, G, L) =
  sm_aV (sm_cv0 d 41 342 R [.ref 1, .int v1] (x, G, L)) (fun x1 G1 L1 =>
    sm_aV (sm_cv0 d 38 342 R [.ref 1, .int v2] (x1, G1, L1)) (fun x2 G2 L2 =>
      sm_aR (sm_cv0 d 15 342 R [.ref 1] (x2, G2, L2)) (fun p3 x3 G3 L3 =>
        gd (sm_is (R 1 5) 342 9) (sm_aI (sm_cv0 d 157 342 R [.ref (R 1 5), .ref (R 1 10), .ref p3, .int v1, .int v2] (x3, G3, L3)) (fun a4 x4 G4 L4 =>
          oI a4 x4 G4 L4) oX)) oX) oX) oX := (cv_eq rfl rfl).trans (hD_eq.trans rfl)
set_option maxRecDepth 20000 in
theorem m_45 {d x : Nat} {V : pV} {G : sm_G} {L : sm_L} {v1 v2 : Int32} : sm_cv0 (d + 1) 45 342 (RR V) [.ref 1, .int v1, .int v2] (x, G, L) =
  sm_aV (sm_cv0 d 41 342 (RR V) [.ref 1, .int v1] (x, G, L)) (fun x1 G1 L1 =>
    sm_aV (sm_cv0 d 38 342 (RR V) [.ref 1, .int v2] (x1, G1, L1)) (fun x2 G2 L2 =>
      sm_aR (sm_cv0 d 15 342 (RR V) [.ref 1] (x2, G2, L2)) (fun p3 x3 G3 L3 =>
        sm_aI (sm_cv0 d 157 342 (RR V) [.ref 61, .ref V.1, .ref p3, .int v1, .int v2] (x3, G3, L3)) (fun a4 x4 G4 L4 =>
          oI a4 x4 G4 L4) oX) oX) oX) oX := by
  rw [rm_45]
  try simp only [gd_tt, (q_1_10 V), (q_1_5 V), k_1, k_61]
/-! S_soonest -/
set_option maxRecDepth 20000 in
theorem rm_46 {d x : Nat} {R : sm_R} {G : sm_G} {L : sm_L} {v1 v2 v3 : Int32} : sm_cv0 (d + 1) 46 342 R [.ref 1, .int v1, .int v2, .int v3] (x, G, L) =
  sm_aV (sm_cv0 d 47 342 R [.ref 1, .int v1, .int v3] (x, G, L)) (fun x1 G1 L1 =>
    sm_aV (sm_cv0 d 38 342 R [.ref 1, .int v2] (x1, G1, L1)) (fun x2 G2 L2 =>
      sm_aR (sm_cv0 d 15 342 R [.ref 1] (x2, G2, L2)) (fun p3 x3 G3 L3 =>
        gd (sm_is (R 1 5) 342 9) (sm_aI (sm_cv0 d 160 342 R [.ref (R 1 5), .ref (R 1 10), .ref p3, .int (i3 0), .int v1, .int v2, .int v3] (x3, G3, L3)) (fun a4 x4 G4 L4 =>
          oI a4 x4 G4 L4) oX)) oX) oX) oX := (cv_eq rfl rfl).trans (hD_eq.trans rfl)
set_option maxRecDepth 20000 in
theorem m_46 {d x : Nat} {V : pV} {G : sm_G} {L : sm_L} {v1 v2 v3 : Int32} : sm_cv0 (d + 1) 46 342 (RR V) [.ref 1, .int v1, .int v2, .int v3] (x, G, L) =
  sm_aV (sm_cv0 d 47 342 (RR V) [.ref 1, .int v1, .int v3] (x, G, L)) (fun x1 G1 L1 =>
    sm_aV (sm_cv0 d 38 342 (RR V) [.ref 1, .int v2] (x1, G1, L1)) (fun x2 G2 L2 =>
      sm_aR (sm_cv0 d 15 342 (RR V) [.ref 1] (x2, G2, L2)) (fun p3 x3 G3 L3 =>
        sm_aI (sm_cv0 d 160 342 (RR V) [.ref 61, .ref V.1, .ref p3, .int (i3 0), .int v1, .int v2, .int v3] (x3, G3, L3)) (fun a4 x4 G4 L4 =>
          oI a4 x4 G4 L4) oX) oX) oX) oX := by
  rw [rm_46]
  try simp only [gd_tt, (q_1_10 V), (q_1_5 V), k_1, k_61]
/-! S_needRooms -/
set_option maxRecDepth 20000 in
theorem rm_47 {d x : Nat} {R : sm_R} {G : sm_G} {L : sm_L} {v1 v2 : Int32} : sm_cv0 (d + 1) 47 342 R [.ref 1, .int v1, .int v2] (x, G, L) =
  sm_aV (sm_cv0 d 41 342 R [.ref 1, .int v1] (x, G, L)) (fun x1 G1 L1 =>
    sm_aV (sm_cv0 d 41 342 R [.ref 1, .int v2] (x1, G1, L1)) (fun x2 G2 L2 =>
      oV x2 G2 L2) oX) oX := (cv_eq rfl rfl).trans (hD_eq.trans rfl)
set_option maxRecDepth 20000 in
theorem m_47 {d x : Nat} {V : pV} {G : sm_G} {L : sm_L} {v1 v2 : Int32} : sm_cv0 (d + 1) 47 342 (RR V) [.ref 1, .int v1, .int v2] (x, G, L) =
  sm_aV (sm_cv0 d 41 342 (RR V) [.ref 1, .int v1] (x, G, L)) (fun x1 G1 L1 =>
    sm_aV (sm_cv0 d 41 342 (RR V) [.ref 1, .int v2] (x1, G1, L1)) (fun x2 G2 L2 =>
      oV x2 G2 L2) oX) oX := by
  rw [rm_47]
  try simp only [gd_tt, k_1]
/-! S_way -/
set_option maxRecDepth 20000 in
theorem rm_48 {d x : Nat} {R : sm_R} {G : sm_G} {L : sm_L} {v1 v2 v3 v4 : Int32} : sm_cv0 (d + 1) 48 342 R [.ref 1, .int v1, .int v2, .int v3, .int v4] (x, G, L) =
  sm_aV (sm_cv0 d 47 342 R [.ref 1, .int v1, .int v3] (x, G, L)) (fun x1 G1 L1 =>
    sm_aI (sm_cv0 d 39 342 R [.int v2] (x1, G1, L1)) (fun a2 x2 G2 L2 =>
      if a2 = (i3 0) then
        (sm_aV (sm_cv0 d 29 342 R [.ref 1, .int (i3 0)] (x2, G2, L2)) (fun x3 G3 L3 =>
          hD d 48 30 [.ref 1, .int v1, .int v2, .int v3, .int v4] 342 R x3 G3 L3) oX)
      else (sm_aI (sm_cv0 d 39 342 R [.int v4] (x2, G2, L2)) (fun a4 x4 G4 L4 =>
          if a4 = (i3 0) then
            (sm_aV (sm_cv0 d 29 342 R [.ref 1, .int (i3 0)] (x4, G4, L4)) (fun x5 G5 L5 =>
              hD d 48 30 [.ref 1, .int v1, .int v2, .int v3, .int v4] 342 R x5 G5 L5) oX)
          else (sm_aV (sm_cv0 d 29 342 R [.ref 1, .int (i3 1)] (x4, G4, L4)) (fun x6 G6 L6 =>
              hD d 48 30 [.ref 1, .int v1, .int v2, .int v3, .int v4] 342 R x6 G6 L6) oX)) oX)) oX) oX := (cv_eq rfl rfl).trans (hD_eq.trans rfl)
set_option maxRecDepth 20000 in
theorem m_48 {d x : Nat} {V : pV} {G : sm_G} {L : sm_L} {v1 v2 v3 v4 : Int32} : sm_cv0 (d + 1) 48 342 (RR V) [.ref 1, .int v1, .int v2, .int v3, .int v4] (x, G, L) =
  sm_aV (sm_cv0 d 47 342 (RR V) [.ref 1, .int v1, .int v3] (x, G, L)) (fun x1 G1 L1 =>
    sm_aI (sm_cv0 d 39 342 (RR V) [.int v2] (x1, G1, L1)) (fun a2 x2 G2 L2 =>
      if a2 = (i3 0) then
        (sm_aV (sm_cv0 d 29 342 (RR V) [.ref 1, .int (i3 0)] (x2, G2, L2)) (fun x3 G3 L3 =>
          hD d 48 30 [.ref 1, .int v1, .int v2, .int v3, .int v4] 342 (RR V) x3 G3 L3) oX)
      else (sm_aI (sm_cv0 d 39 342 (RR V) [.int v4] (x2, G2, L2)) (fun a4 x4 G4 L4 =>
          if a4 = (i3 0) then
            (sm_aV (sm_cv0 d 29 342 (RR V) [.ref 1, .int (i3 0)] (x4, G4, L4)) (fun x5 G5 L5 =>
              hD d 48 30 [.ref 1, .int v1, .int v2, .int v3, .int v4] 342 (RR V) x5 G5 L5) oX)
          else (sm_aV (sm_cv0 d 29 342 (RR V) [.ref 1, .int (i3 1)] (x4, G4, L4)) (fun x6 G6 L6 =>
              hD d 48 30 [.ref 1, .int v1, .int v2, .int v3, .int v4] 342 (RR V) x6 G6 L6) oX)) oX)) oX) oX := by
  rw [rm_48]
  try simp only [gd_tt, k_1]
set_option maxRecDepth 20000 in
theorem rh_48_30 {d x : Nat} {R : sm_R} {G : sm_G} {L : sm_L} {v1 v2 v3 v4 : Int32} : hD d 48 30 [.ref 1, .int v1, .int v2, .int v3, .int v4] 342 R x G L =
  sm_aR (sm_cv0 d 15 342 R [.ref 1] (x, G, L)) (fun p1 x1 G1 L1 =>
    gd (sm_is (R 1 5) 342 9) (sm_aI (sm_cv0 d 161 342 R [.ref (R 1 5), .ref (R 1 10), .ref p1, .int v1, .int v2, .int v3, .int v4] (x1, G1, L1)) (fun a2 x2 G2 L2 =>
      oI a2 x2 G2 L2) oX)) oX := hD_eq.trans rfl
set_option maxRecDepth 20000 in
theorem h_48_30 {d x : Nat} {V : pV} {G : sm_G} {L : sm_L} {v1 v2 v3 v4 : Int32} : hD d 48 30 [.ref 1, .int v1, .int v2, .int v3, .int v4] 342 (RR V) x G L =
  sm_aR (sm_cv0 d 15 342 (RR V) [.ref 1] (x, G, L)) (fun p1 x1 G1 L1 =>
    sm_aI (sm_cv0 d 161 342 (RR V) [.ref 61, .ref V.1, .ref p1, .int v1, .int v2, .int v3, .int v4] (x1, G1, L1)) (fun a2 x2 G2 L2 =>
      oI a2 x2 G2 L2) oX) oX := by
  rw [rh_48_30]
  try simp only [gd_tt, (q_1_10 V), (q_1_5 V), k_1, k_61]
/-! S_latest -/
set_option maxRecDepth 20000 in
theorem rm_49 {d x : Nat} {R : sm_R} {G : sm_G} {L : sm_L} {v1 v2 v3 : Int32} : sm_cv0 (d + 1) 49 342 R [.ref 1, .int v1, .int v2, .int v3] (x, G, L) =
  sm_aV (sm_cv0 d 47 342 R [.ref 1, .int v1, .int v2] (x, G, L)) (fun x1 G1 L1 =>
    sm_aV (sm_cv0 d 38 342 R [.ref 1, .int v3] (x1, G1, L1)) (fun x2 G2 L2 =>
      sm_aR (sm_cv0 d 15 342 R [.ref 1] (x2, G2, L2)) (fun p3 x3 G3 L3 =>
        gd (sm_is (R 1 5) 342 9) (sm_aI (sm_cv0 d 163 342 R [.ref (R 1 5), .ref (R 1 10), .ref p3, .int v1, .int v2, .int v3] (x3, G3, L3)) (fun a4 x4 G4 L4 =>
          oI a4 x4 G4 L4) oX)) oX) oX) oX := (cv_eq rfl rfl).trans (hD_eq.trans rfl)
set_option maxRecDepth 20000 in
theorem m_49 {d x : Nat} {V : pV} {G : sm_G} {L : sm_L} {v1 v2 v3 : Int32} : sm_cv0 (d + 1) 49 342 (RR V) [.ref 1, .int v1, .int v2, .int v3] (x, G, L) =
  sm_aV (sm_cv0 d 47 342 (RR V) [.ref 1, .int v1, .int v2] (x, G, L)) (fun x1 G1 L1 =>
    sm_aV (sm_cv0 d 38 342 (RR V) [.ref 1, .int v3] (x1, G1, L1)) (fun x2 G2 L2 =>
      sm_aR (sm_cv0 d 15 342 (RR V) [.ref 1] (x2, G2, L2)) (fun p3 x3 G3 L3 =>
        sm_aI (sm_cv0 d 163 342 (RR V) [.ref 61, .ref V.1, .ref p3, .int v1, .int v2, .int v3] (x3, G3, L3)) (fun a4 x4 G4 L4 =>
          oI a4 x4 G4 L4) oX) oX) oX) oX := by
  rw [rm_49]
  try simp only [gd_tt, (q_1_10 V), (q_1_5 V), k_1, k_61]
/-! S_keep -/
set_option maxRecDepth 20000 in
theorem rm_50 {d x : Nat} {R : sm_R} {G : sm_G} {L : sm_L} {v1 : Int32} : sm_cv0 (d + 1) 50 342 R [.ref 1, .int v1] (x, G, L) =
  gd (sm_is (R 1 10) 342 5) (sm_aI (sm_cv0 d 51 342 R [.int v1, .int (G (R 1 10) 9)] (x, G, L)) (fun a1 x1 G1 L1 =>
    sm_aV (sm_cv0 d 29 342 R [.ref 1, .int a1] (x1, G1, L1)) (fun x2 G2 L2 =>
      gd (sm_is (R 1 10) 342 5) (gd (sm_is (R (R 1 10) 0) 342 3) (gd (sm_is (R 1 10) 342 5) (gd (sm_is (R (R 1 10) 0) 342 3) (sm_aV (sm_cv0 d 23 342 R [.ref 1] (x2, sm_up G2 (R (R 1 10) 0) 9 v1, L2)) (fun x3 G3 L3 =>
        oI (G2 (R (R 1 10) 0) 9) x3 G3 L3) oX))))) oX) oX) := (cv_eq rfl rfl).trans (hD_eq.trans rfl)
set_option maxRecDepth 20000 in
theorem m_50 {d x : Nat} {V : pV} {G : sm_G} {L : sm_L} {v1 : Int32} (hV : okV V) : sm_cv0 (d + 1) 50 342 (RR V) [.ref 1, .int v1] (x, G, L) =
  sm_aI (sm_cv0 d 51 342 (RR V) [.int v1, .int (G V.1 9)] (x, G, L)) (fun a1 x1 G1 L1 =>
    sm_aV (sm_cv0 d 29 342 (RR V) [.ref 1, .int a1] (x1, G1, L1)) (fun x2 G2 L2 =>
      sm_aV (sm_cv0 d 23 342 (RR V) [.ref 1] (x2, sm_up G2 (V.1 + 1) 9 v1, L2)) (fun x3 G3 L3 =>
        oI (G2 (V.1 + 1) 9) x3 G3 L3) oX) oX) oX := by
  rw [rm_50]
  try simp only [gd_tt, (fS_0_0 V hV.1), (kS_0 hV.1), (kS_1 hV.1), (q_1_10 V), k_1]
/-! S_within -/
set_option maxRecDepth 20000 in
theorem rm_51 {d x : Nat} {R : sm_R} {G : sm_G} {L : sm_L} {v0 v1 : Int32} : sm_cv0 (d + 1) 51 342 R [.int v0, .int v1] (x, G, L) =
  if (shr v0 v1) = (i3 0) then
    (oI (i3 1) x G L)
  else (oI (i3 0) x G L) := (cv_eq rfl rfl).trans (hD_eq.trans rfl)
theorem m_51 {d x : Nat} {V : pV} {G : sm_G} {L : sm_L} {v0 v1 : Int32} : sm_cv0 (d + 1) 51 342 (RR V) [.int v0, .int v1] (x, G, L) =
  if (shr v0 v1) = (i3 0) then
    (oI (i3 1) x G L)
  else (oI (i3 0) x G L) := rm_51
/-! S_fewest -/
set_option maxRecDepth 20000 in
theorem rm_52 {d x : Nat} {R : sm_R} {G : sm_G} {L : sm_L} {v1 v2 v3 : Int32} : sm_cv0 (d + 1) 52 342 R [.ref 1, .int v1, .int v2, .int v3] (x, G, L) =
  sm_aV (sm_cv0 d 47 342 R [.ref 1, .int v1, .int v3] (x, G, L)) (fun x1 G1 L1 =>
    sm_aV (sm_cv0 d 38 342 R [.ref 1, .int v2] (x1, G1, L1)) (fun x2 G2 L2 =>
      sm_aR (sm_cv0 d 15 342 R [.ref 1] (x2, G2, L2)) (fun p3 x3 G3 L3 =>
        gd (sm_is (R 1 5) 342 9) (sm_aI (sm_cv0 d 164 342 R [.ref (R 1 5), .ref (R 1 10), .ref p3, .int v1, .int v3, .int v2, .int (i3 0)] (x3, G3, L3)) (fun a4 x4 G4 L4 =>
          oI a4 x4 G4 L4) oX)) oX) oX) oX := (cv_eq rfl rfl).trans (hD_eq.trans rfl)
set_option maxRecDepth 20000 in
theorem m_52 {d x : Nat} {V : pV} {G : sm_G} {L : sm_L} {v1 v2 v3 : Int32} : sm_cv0 (d + 1) 52 342 (RR V) [.ref 1, .int v1, .int v2, .int v3] (x, G, L) =
  sm_aV (sm_cv0 d 47 342 (RR V) [.ref 1, .int v1, .int v3] (x, G, L)) (fun x1 G1 L1 =>
    sm_aV (sm_cv0 d 38 342 (RR V) [.ref 1, .int v2] (x1, G1, L1)) (fun x2 G2 L2 =>
      sm_aR (sm_cv0 d 15 342 (RR V) [.ref 1] (x2, G2, L2)) (fun p3 x3 G3 L3 =>
        sm_aI (sm_cv0 d 164 342 (RR V) [.ref 61, .ref V.1, .ref p3, .int v1, .int v3, .int v2, .int (i3 0)] (x3, G3, L3)) (fun a4 x4 G4 L4 =>
          oI a4 x4 G4 L4) oX) oX) oX) oX := by
  rw [rm_52]
  try simp only [gd_tt, (q_1_10 V), (q_1_5 V), k_1, k_61]
/-! S_meet -/
set_option maxRecDepth 20000 in
theorem rm_53 {d x : Nat} {R : sm_R} {G : sm_G} {L : sm_L} {v1 v2 v3 : Int32} : sm_cv0 (d + 1) 53 342 R [.ref 1, .int v1, .int v2, .int v3] (x, G, L) =
  sm_aV (sm_cv0 d 47 342 R [.ref 1, .int v1, .int v2] (x, G, L)) (fun x1 G1 L1 =>
    sm_aV (sm_cv0 d 38 342 R [.ref 1, .int v3] (x1, G1, L1)) (fun x2 G2 L2 =>
      sm_aR (sm_cv0 d 15 342 R [.ref 1] (x2, G2, L2)) (fun p3 x3 G3 L3 =>
        gd (sm_is (R 1 5) 342 9) (sm_aI (sm_cv0 d 164 342 R [.ref (R 1 5), .ref (R 1 10), .ref p3, .int v1, .int v2, .int v3, .int (i3 1)] (x3, G3, L3)) (fun a4 x4 G4 L4 =>
          oI a4 x4 G4 L4) oX)) oX) oX) oX := (cv_eq rfl rfl).trans (hD_eq.trans rfl)
set_option maxRecDepth 20000 in
theorem m_53 {d x : Nat} {V : pV} {G : sm_G} {L : sm_L} {v1 v2 v3 : Int32} : sm_cv0 (d + 1) 53 342 (RR V) [.ref 1, .int v1, .int v2, .int v3] (x, G, L) =
  sm_aV (sm_cv0 d 47 342 (RR V) [.ref 1, .int v1, .int v2] (x, G, L)) (fun x1 G1 L1 =>
    sm_aV (sm_cv0 d 38 342 (RR V) [.ref 1, .int v3] (x1, G1, L1)) (fun x2 G2 L2 =>
      sm_aR (sm_cv0 d 15 342 (RR V) [.ref 1] (x2, G2, L2)) (fun p3 x3 G3 L3 =>
        sm_aI (sm_cv0 d 164 342 (RR V) [.ref 61, .ref V.1, .ref p3, .int v1, .int v2, .int v3, .int (i3 1)] (x3, G3, L3)) (fun a4 x4 G4 L4 =>
          oI a4 x4 G4 L4) oX) oX) oX) oX := by
  rw [rm_53]
  try simp only [gd_tt, (q_1_10 V), (q_1_5 V), k_1, k_61]
/-! S_met -/
set_option maxRecDepth 20000 in
theorem rm_54 {d x : Nat} {R : sm_R} {G : sm_G} {L : sm_L} {v1 v2 v3 : Int32} : sm_cv0 (d + 1) 54 342 R [.ref 1, .int v1, .int v2, .int v3] (x, G, L) =
  sm_aV (sm_cv0 d 47 342 R [.ref 1, .int v1, .int v2] (x, G, L)) (fun x1 G1 L1 =>
    sm_aV (sm_cv0 d 38 342 R [.ref 1, .int v3] (x1, G1, L1)) (fun x2 G2 L2 =>
      sm_aR (sm_cv0 d 15 342 R [.ref 1] (x2, G2, L2)) (fun p3 x3 G3 L3 =>
        gd (sm_is (R 1 5) 342 9) (sm_aI (sm_cv0 d 166 342 R [.ref (R 1 5), .ref (R 1 10), .ref p3, .int (i3 0), .int v1, .int v2, .int v3] (x3, G3, L3)) (fun a4 x4 G4 L4 =>
          oI a4 x4 G4 L4) oX)) oX) oX) oX := (cv_eq rfl rfl).trans (hD_eq.trans rfl)
set_option maxRecDepth 20000 in
theorem m_54 {d x : Nat} {V : pV} {G : sm_G} {L : sm_L} {v1 v2 v3 : Int32} : sm_cv0 (d + 1) 54 342 (RR V) [.ref 1, .int v1, .int v2, .int v3] (x, G, L) =
  sm_aV (sm_cv0 d 47 342 (RR V) [.ref 1, .int v1, .int v2] (x, G, L)) (fun x1 G1 L1 =>
    sm_aV (sm_cv0 d 38 342 (RR V) [.ref 1, .int v3] (x1, G1, L1)) (fun x2 G2 L2 =>
      sm_aR (sm_cv0 d 15 342 (RR V) [.ref 1] (x2, G2, L2)) (fun p3 x3 G3 L3 =>
        sm_aI (sm_cv0 d 166 342 (RR V) [.ref 61, .ref V.1, .ref p3, .int (i3 0), .int v1, .int v2, .int v3] (x3, G3, L3)) (fun a4 x4 G4 L4 =>
          oI a4 x4 G4 L4) oX) oX) oX) oX := by
  rw [rm_54]
  try simp only [gd_tt, (q_1_10 V), (q_1_5 V), k_1, k_61]
/-! S_order -/
set_option maxRecDepth 20000 in
theorem rm_55 {d x : Nat} {R : sm_R} {G : sm_G} {L : sm_L} {v1 v2 v3 : Int32} : sm_cv0 (d + 1) 55 342 R [.ref 1, .int v1, .int v2, .int v3] (x, G, L) =
  gd (sm_is (R 1 10) 342 5) (sm_aI (sm_cv0 d 51 342 R [.int v1, .int (G (R 1 10) 10)] (x, G, L)) (fun a1 x1 G1 L1 =>
    if a1 = (i3 0) then
      (sm_aV (sm_cv0 d 29 342 R [.ref 1, .int (i3 0)] (x1, G1, L1)) (fun x2 G2 L2 =>
        hD d 55 43 [.ref 1, .int v1, .int v2, .int v3, .null] 342 R x2 G2 L2) oX)
    else (gd (sm_is (R 1 10) 342 5) (sm_aI (sm_cv0 d 51 342 R [.int v2, .int (G1 (R 1 10) 10)] (x1, G1, L1)) (fun a3 x3 G3 L3 =>
        if a3 = (i3 0) then
          (sm_aV (sm_cv0 d 29 342 R [.ref 1, .int (i3 0)] (x3, G3, L3)) (fun x4 G4 L4 =>
            hD d 55 43 [.ref 1, .int v1, .int v2, .int v3, .null] 342 R x4 G4 L4) oX)
        else (if (v1 &&& v2) = (i3 0) then
            (sm_aV (sm_cv0 d 29 342 R [.ref 1, .int (i3 1)] (x3, G3, L3)) (fun x5 G5 L5 =>
              hD d 55 43 [.ref 1, .int v1, .int v2, .int v3, .null] 342 R x5 G5 L5) oX)
          else (sm_aV (sm_cv0 d 29 342 R [.ref 1, .int (i3 0)] (x3, G3, L3)) (fun x6 G6 L6 =>
              hD d 55 43 [.ref 1, .int v1, .int v2, .int v3, .null] 342 R x6 G6 L6) oX))) oX))) oX) := (cv_eq rfl rfl).trans (hD_eq.trans rfl)
set_option maxRecDepth 20000 in
theorem m_55 {d x : Nat} {V : pV} {G : sm_G} {L : sm_L} {v1 v2 v3 : Int32} (hV : okV V) : sm_cv0 (d + 1) 55 342 (RR V) [.ref 1, .int v1, .int v2, .int v3] (x, G, L) =
  sm_aI (sm_cv0 d 51 342 (RR V) [.int v1, .int (G V.1 10)] (x, G, L)) (fun a1 x1 G1 L1 =>
    if a1 = (i3 0) then
      (sm_aV (sm_cv0 d 29 342 (RR V) [.ref 1, .int (i3 0)] (x1, G1, L1)) (fun x2 G2 L2 =>
        hD d 55 43 [.ref 1, .int v1, .int v2, .int v3, .null] 342 (RR V) x2 G2 L2) oX)
    else (sm_aI (sm_cv0 d 51 342 (RR V) [.int v2, .int (G1 V.1 10)] (x1, G1, L1)) (fun a3 x3 G3 L3 =>
        if a3 = (i3 0) then
          (sm_aV (sm_cv0 d 29 342 (RR V) [.ref 1, .int (i3 0)] (x3, G3, L3)) (fun x4 G4 L4 =>
            hD d 55 43 [.ref 1, .int v1, .int v2, .int v3, .null] 342 (RR V) x4 G4 L4) oX)
        else (if (v1 &&& v2) = (i3 0) then
            (sm_aV (sm_cv0 d 29 342 (RR V) [.ref 1, .int (i3 1)] (x3, G3, L3)) (fun x5 G5 L5 =>
              hD d 55 43 [.ref 1, .int v1, .int v2, .int v3, .null] 342 (RR V) x5 G5 L5) oX)
          else (sm_aV (sm_cv0 d 29 342 (RR V) [.ref 1, .int (i3 0)] (x3, G3, L3)) (fun x6 G6 L6 =>
              hD d 55 43 [.ref 1, .int v1, .int v2, .int v3, .null] 342 (RR V) x6 G6 L6) oX))) oX)) oX := by
  rw [rm_55]
  try simp only [gd_tt, (kS_0 hV.1), (q_1_10 V), k_1]
set_option maxRecDepth 20000 in
theorem rh_55_43 {d x : Nat} {R : sm_R} {G : sm_G} {L : sm_L} {v1 v2 v3 : Int32} : hD d 55 43 [.ref 1, .int v1, .int v2, .int v3, .null] 342 R x G L =
  sm_aV (sm_cv0 d 33 342 R [.ref 1, .int v3, .int (i3 1)] (x, G, L)) (fun x1 G1 L1 =>
    gd (sm_is (R 1 8) 342 4) (sm_aI (sm_cv0 d 112 342 R [.ref (R 1 8), .ref (R 1 10), .int v1, .int v2] (x1, G1, L1)) (fun a2 x2 G2 L2 =>
      if a2 = m1 then
        (oI m1 x2 G2 L2)
      else (if v3 = (i3 0) then
          (sm_aI (sm_cv0 d 7 342 R [.int a2] (x2, G2, L2)) (fun a3 x3 G3 L3 =>
            oI a3 x3 G3 L3) oX)
        else (sm_aI (sm_cv0 d 115 342 R [.int a2] (x2, G2, L2)) (fun a4 x4 G4 L4 =>
            oI a4 x4 G4 L4) oX))) oX)) oX := hD_eq.trans rfl
set_option maxRecDepth 20000 in
theorem h_55_43 {d x : Nat} {V : pV} {G : sm_G} {L : sm_L} {v1 v2 v3 : Int32} : hD d 55 43 [.ref 1, .int v1, .int v2, .int v3, .null] 342 (RR V) x G L =
  sm_aV (sm_cv0 d 33 342 (RR V) [.ref 1, .int v3, .int (i3 1)] (x, G, L)) (fun x1 G1 L1 =>
    sm_aI (sm_cv0 d 112 342 (RR V) [.ref 105, .ref V.1, .int v1, .int v2] (x1, G1, L1)) (fun a2 x2 G2 L2 =>
      if a2 = m1 then
        (oI m1 x2 G2 L2)
      else (if v3 = (i3 0) then
          (sm_aI (sm_cv0 d 7 342 (RR V) [.int a2] (x2, G2, L2)) (fun a3 x3 G3 L3 =>
            oI a3 x3 G3 L3) oX)
        else (sm_aI (sm_cv0 d 115 342 (RR V) [.int a2] (x2, G2, L2)) (fun a4 x4 G4 L4 =>
            oI a4 x4 G4 L4) oX))) oX) oX := by
  rw [rh_55_43]
  try simp only [gd_tt, (q_1_10 V), (q_1_8 V), k_1, k_105]
/-! S_want -/
set_option maxRecDepth 20000 in
theorem rm_56 {d x : Nat} {R : sm_R} {G : sm_G} {L : sm_L} {v1 v2 : Int32} : sm_cv0 (d + 1) 56 342 R [.ref 1, .int v1, .int v2] (x, G, L) =
  if v1 < (i3 0) then
    (sm_aV (sm_cv0 d 29 342 R [.ref 1, .int (i3 0)] (x, G, L)) (fun x1 G1 L1 =>
      hD d 56 19 [.ref 1, .int v1, .int v2] 342 R x1 G1 L1) oX)
  else (if v1 ≤ (i3 8) then
      (sm_aV (sm_cv0 d 29 342 R [.ref 1, .int (i3 1)] (x, G, L)) (fun x2 G2 L2 =>
        hD d 56 19 [.ref 1, .int v1, .int v2] 342 R x2 G2 L2) oX)
    else (sm_aV (sm_cv0 d 29 342 R [.ref 1, .int (i3 0)] (x, G, L)) (fun x3 G3 L3 =>
        hD d 56 19 [.ref 1, .int v1, .int v2] 342 R x3 G3 L3) oX)) := (cv_eq rfl rfl).trans (hD_eq.trans rfl)
set_option maxRecDepth 20000 in
theorem m_56 {d x : Nat} {V : pV} {G : sm_G} {L : sm_L} {v1 v2 : Int32} : sm_cv0 (d + 1) 56 342 (RR V) [.ref 1, .int v1, .int v2] (x, G, L) =
  if v1 < (i3 0) then
    (sm_aV (sm_cv0 d 29 342 (RR V) [.ref 1, .int (i3 0)] (x, G, L)) (fun x1 G1 L1 =>
      hD d 56 19 [.ref 1, .int v1, .int v2] 342 (RR V) x1 G1 L1) oX)
  else (if v1 ≤ (i3 8) then
      (sm_aV (sm_cv0 d 29 342 (RR V) [.ref 1, .int (i3 1)] (x, G, L)) (fun x2 G2 L2 =>
        hD d 56 19 [.ref 1, .int v1, .int v2] 342 (RR V) x2 G2 L2) oX)
    else (sm_aV (sm_cv0 d 29 342 (RR V) [.ref 1, .int (i3 0)] (x, G, L)) (fun x3 G3 L3 =>
        hD d 56 19 [.ref 1, .int v1, .int v2] 342 (RR V) x3 G3 L3) oX)) := by
  rw [rm_56]
  try simp only [gd_tt, k_1]
set_option maxRecDepth 20000 in
theorem rh_56_19 {d x : Nat} {R : sm_R} {G : sm_G} {L : sm_L} {v1 v2 : Int32} : hD d 56 19 [.ref 1, .int v1, .int v2] 342 R x G L =
  sm_aV (sm_cv0 d 33 342 R [.ref 1, .int v2, .int (i3 1)] (x, G, L)) (fun x1 G1 L1 =>
    gd (sm_is (R 1 8) 342 4) (sm_aV (sm_cv0 d 116 342 R [.ref (R 1 8), .ref (R 1 10), .int v1] (x1, G1, L1)) (fun x2 G2 L2 =>
      if v2 = (i3 0) then
        (gd (sm_is (R 1 8) 342 4) (oI (G2 (R 1 8) 2) x2 G2 L2))
      else (gd (sm_is (R 1 8) 342 4) (oI (G2 (R 1 8) 3) x2 G2 L2))) oX)) oX := hD_eq.trans rfl
set_option maxRecDepth 20000 in
theorem h_56_19 {d x : Nat} {V : pV} {G : sm_G} {L : sm_L} {v1 v2 : Int32} : hD d 56 19 [.ref 1, .int v1, .int v2] 342 (RR V) x G L =
  sm_aV (sm_cv0 d 33 342 (RR V) [.ref 1, .int v2, .int (i3 1)] (x, G, L)) (fun x1 G1 L1 =>
    sm_aV (sm_cv0 d 116 342 (RR V) [.ref 105, .ref V.1, .int v1] (x1, G1, L1)) (fun x2 G2 L2 =>
      if v2 = (i3 0) then
        (oI (G2 105 2) x2 G2 L2)
      else (oI (G2 105 3) x2 G2 L2)) oX) oX := by
  rw [rh_56_19]
  try simp only [gd_tt, (q_1_10 V), (q_1_8 V), k_1, k_105]
/-! S_surest -/
set_option maxRecDepth 20000 in
theorem rm_57 {d x : Nat} {R : sm_R} {G : sm_G} {L : sm_L} {v1 v2 v3 : Int32} : sm_cv0 (d + 1) 57 342 R [.ref 1, .int v1, .int v2, .int v3] (x, G, L) =
  sm_aV (sm_cv0 d 47 342 R [.ref 1, .int v1, .int v2] (x, G, L)) (fun x1 G1 L1 =>
    sm_aV (sm_cv0 d 33 342 R [.ref 1, .int v3, .int (i3 3)] (x1, G1, L1)) (fun x2 G2 L2 =>
      gd (sm_is (R 1 9) 342 8) (sm_aV (sm_cv0 d 150 342 R [.ref (R 1 9), .ref (R 1 10), .int v1, .int v2] (x2, G2, L2)) (fun x3 G3 L3 =>
        gd (sm_is (R 1 9) 342 8) (if (G3 (R 1 9) 2) = (i3 0) then
          (oL (n6 1) x3 G3 L3)
        else (if v3 = (i3 0) then
            (gd (sm_is (R 1 9) 342 8) (sm_aL (sm_cv0 d 153 342 R [.ref (R 1 9)] (x3, G3, L3)) (fun b4 x4 G4 L4 =>
              oL b4 x4 G4 L4) oX))
          else if v3 = (i3 1) then
            (gd (sm_is (R 1 9) 342 8) (sm_aL (sm_cv0 d 155 342 R [.ref (R 1 9)] (x3, G3, L3)) (fun b5 x5 G5 L5 =>
              oL b5 x5 G5 L5) oX))
          else if v3 = (i3 2) then
            (gd (sm_is (R 1 9) 342 8) (oL (Int32.toInt64 (G3 (R 1 9) 2)) x3 G3 L3))
          else (gd (sm_is (R 1 9) 342 8) (oL (Int32.toInt64 (G3 (R 1 9) 3)) x3 G3 L3))))) oX)) oX) oX := (cv_eq rfl rfl).trans (hD_eq.trans rfl)
set_option maxRecDepth 20000 in
theorem m_57 {d x : Nat} {V : pV} {G : sm_G} {L : sm_L} {v1 v2 v3 : Int32} : sm_cv0 (d + 1) 57 342 (RR V) [.ref 1, .int v1, .int v2, .int v3] (x, G, L) =
  sm_aV (sm_cv0 d 47 342 (RR V) [.ref 1, .int v1, .int v2] (x, G, L)) (fun x1 G1 L1 =>
    sm_aV (sm_cv0 d 33 342 (RR V) [.ref 1, .int v3, .int (i3 3)] (x1, G1, L1)) (fun x2 G2 L2 =>
      sm_aV (sm_cv0 d 150 342 (RR V) [.ref 108, .ref V.1, .int v1, .int v2] (x2, G2, L2)) (fun x3 G3 L3 =>
        if (G3 108 2) = (i3 0) then
          (oL (n6 1) x3 G3 L3)
        else (if v3 = (i3 0) then
            (sm_aL (sm_cv0 d 153 342 (RR V) [.ref 108] (x3, G3, L3)) (fun b4 x4 G4 L4 =>
              oL b4 x4 G4 L4) oX)
          else if v3 = (i3 1) then
            (sm_aL (sm_cv0 d 155 342 (RR V) [.ref 108] (x3, G3, L3)) (fun b5 x5 G5 L5 =>
              oL b5 x5 G5 L5) oX)
          else if v3 = (i3 2) then
            (oL (Int32.toInt64 (G3 108 2)) x3 G3 L3)
          else (oL (Int32.toInt64 (G3 108 3)) x3 G3 L3))) oX) oX) oX := by
  rw [rm_57]
  try simp only [gd_tt, (q_1_10 V), (q_1_9 V), k_1, k_108]
/-! S_drawn -/
set_option maxRecDepth 20000 in
theorem rm_58 {d x : Nat} {R : sm_R} {G : sm_G} {L : sm_L} {v1 v2 : Int32} : sm_cv0 (d + 1) 58 342 R [.ref 1, .int v1, .int v2] (x, G, L) =
  sm_aV (sm_cv0 d 33 342 R [.ref 1, .int v2, .int (i3 2)] (x, G, L)) (fun x1 G1 L1 =>
    sm_aR (sm_cv0 d 15 342 R [.ref 1] (x1, G1, L1)) (fun p2 x2 G2 L2 =>
      gd (sm_is p2 342 1) (sm_aI (sm_cv0 d 81 342 R [.ref p2, .ref (R 1 10), .int v1] (x2, G2, L2)) (fun a3 x3 G3 L3 =>
        if v2 = (i3 0) then
          (gd (sm_is p2 342 1) (sm_aI (sm_cv0 d 21 342 R [.ref 1, .ref (R p2 3), .int (i3 0)] (x3, G3, L3)) (fun a4 x4 G4 L4 =>
            oI a4 x4 G4 L4) oX))
        else if v2 = (i3 1) then
          (gd (sm_is p2 342 1) (sm_aI (sm_cv0 d 19 342 R [.ref (R p2 3)] (x3, G3, L3)) (fun a5 x5 G5 L5 =>
            oI (a5 + (i3 1)) x5 G5 L5) oX))
        else (gd (sm_is (R 1 10) 342 5) (sm_aI (sm_cv0 d 7 342 R [.int a3] (x3, G3, L3)) (fun a6 x6 G6 L6 =>
            oI ((G3 (R 1 10) 9) - a6) x6 G6 L6) oX))) oX)) oX) oX := (cv_eq rfl rfl).trans (hD_eq.trans rfl)
set_option maxRecDepth 20000 in
theorem m_58 {d x : Nat} {V : pV} {G : sm_G} {L : sm_L} {v1 v2 : Int32} (hV : okV V) : sm_cv0 (d + 1) 58 342 (RR V) [.ref 1, .int v1, .int v2] (x, G, L) =
  sm_aV (sm_cv0 d 33 342 (RR V) [.ref 1, .int v2, .int (i3 2)] (x, G, L)) (fun x1 G1 L1 =>
    sm_aR (sm_cv0 d 15 342 (RR V) [.ref 1] (x1, G1, L1)) (fun p2 x2 G2 L2 =>
      gd (sm_is p2 342 1) (sm_aI (sm_cv0 d 81 342 (RR V) [.ref p2, .ref V.1, .int v1] (x2, G2, L2)) (fun a3 x3 G3 L3 =>
        if v2 = (i3 0) then
          (gd (sm_is p2 342 1) (sm_aI (sm_cv0 d 21 342 (RR V) [.ref 1, .ref (RR V p2 3), .int (i3 0)] (x3, G3, L3)) (fun a4 x4 G4 L4 =>
            oI a4 x4 G4 L4) oX))
        else if v2 = (i3 1) then
          (gd (sm_is p2 342 1) (sm_aI (sm_cv0 d 19 342 (RR V) [.ref (RR V p2 3)] (x3, G3, L3)) (fun a5 x5 G5 L5 =>
            oI (a5 + (i3 1)) x5 G5 L5) oX))
        else (sm_aI (sm_cv0 d 7 342 (RR V) [.int a3] (x3, G3, L3)) (fun a6 x6 G6 L6 =>
            oI ((G3 V.1 9) - a6) x6 G6 L6) oX)) oX)) oX) oX := by
  rw [rm_58]
  try simp only [gd_tt, (kS_0 hV.1), (q_1_10 V), k_1]
/-! S_span -/
set_option maxRecDepth 20000 in
theorem rm_59 {d x : Nat} {R : sm_R} {G : sm_G} {L : sm_L} {v1 v2 v3 : Int32} : sm_cv0 (d + 1) 59 342 R [.ref 1, .int v1, .int v2, .int v3] (x, G, L) =
  if v2 < (i3 1) then
    (sm_aV (sm_cv0 d 29 342 R [.ref 1, .int (i3 0)] (x, G, L)) (fun x1 G1 L1 =>
      hD d 59 20 [.ref 1, .int v1, .int v2, .int v3, .null, .null, .null, .null, .null, .null] 342 R x1 G1 L1) oX)
  else (if v2 ≤ (i3 20) then
      (sm_aV (sm_cv0 d 29 342 R [.ref 1, .int (i3 1)] (x, G, L)) (fun x2 G2 L2 =>
        hD d 59 20 [.ref 1, .int v1, .int v2, .int v3, .null, .null, .null, .null, .null, .null] 342 R x2 G2 L2) oX)
    else (sm_aV (sm_cv0 d 29 342 R [.ref 1, .int (i3 0)] (x, G, L)) (fun x3 G3 L3 =>
        hD d 59 20 [.ref 1, .int v1, .int v2, .int v3, .null, .null, .null, .null, .null, .null] 342 R x3 G3 L3) oX)) := (cv_eq rfl rfl).trans (hD_eq.trans rfl)
set_option maxRecDepth 20000 in
theorem m_59 {d x : Nat} {V : pV} {G : sm_G} {L : sm_L} {v1 v2 v3 : Int32} : sm_cv0 (d + 1) 59 342 (RR V) [.ref 1, .int v1, .int v2, .int v3] (x, G, L) =
  if v2 < (i3 1) then
    (sm_aV (sm_cv0 d 29 342 (RR V) [.ref 1, .int (i3 0)] (x, G, L)) (fun x1 G1 L1 =>
      hD d 59 20 [.ref 1, .int v1, .int v2, .int v3, .null, .null, .null, .null, .null, .null] 342 (RR V) x1 G1 L1) oX)
  else (if v2 ≤ (i3 20) then
      (sm_aV (sm_cv0 d 29 342 (RR V) [.ref 1, .int (i3 1)] (x, G, L)) (fun x2 G2 L2 =>
        hD d 59 20 [.ref 1, .int v1, .int v2, .int v3, .null, .null, .null, .null, .null, .null] 342 (RR V) x2 G2 L2) oX)
    else (sm_aV (sm_cv0 d 29 342 (RR V) [.ref 1, .int (i3 0)] (x, G, L)) (fun x3 G3 L3 =>
        hD d 59 20 [.ref 1, .int v1, .int v2, .int v3, .null, .null, .null, .null, .null, .null] 342 (RR V) x3 G3 L3) oX)) := by
  rw [rm_59]
  try simp only [gd_tt, k_1]
set_option maxRecDepth 20000 in
theorem rh_59_20 {d x : Nat} {R : sm_R} {G : sm_G} {L : sm_L} {v1 v2 v3 : Int32} : hD d 59 20 [.ref 1, .int v1, .int v2, .int v3, .null, .null, .null, .null, .null, .null] 342 R x G L =
  sm_aV (sm_cv0 d 33 342 R [.ref 1, .int v3, .int (i3 2)] (x, G, L)) (fun x1 G1 L1 =>
    sm_aR (sm_cv0 d 15 342 R [.ref 1] (x1, G1, L1)) (fun p2 x2 G2 L2 =>
      hD d 59 38 [.ref 1, .int v1, .int v2, .int v3, .ref p2, .int (i3 4), .int (i3 0), .null, .null, .null] 342 R x2 G2 L2) oX) oX := hD_eq.trans rfl
set_option maxRecDepth 20000 in
theorem h_59_20 {d x : Nat} {V : pV} {G : sm_G} {L : sm_L} {v1 v2 v3 : Int32} : hD d 59 20 [.ref 1, .int v1, .int v2, .int v3, .null, .null, .null, .null, .null, .null] 342 (RR V) x G L =
  sm_aV (sm_cv0 d 33 342 (RR V) [.ref 1, .int v3, .int (i3 2)] (x, G, L)) (fun x1 G1 L1 =>
    sm_aR (sm_cv0 d 15 342 (RR V) [.ref 1] (x1, G1, L1)) (fun p2 x2 G2 L2 =>
      hD d 59 38 [.ref 1, .int v1, .int v2, .int v3, .ref p2, .int (i3 4), .int (i3 0), .null, .null, .null] 342 (RR V) x2 G2 L2) oX) oX := by
  rw [rh_59_20]
  try simp only [gd_tt, k_1]
set_option maxRecDepth 20000 in
theorem rh_59_38 {d x : Nat} {R : sm_R} {G : sm_G} {L : sm_L} {r4 : Nat} {v1 v2 v3 v5 v6 : Int32} : hD d 59 38 [.ref 1, .int v1, .int v2, .int v3, .ref r4, .int v5, .int v6, .null, .null, .null] 342 R x G L =
  hD d 59 44 [.ref 1, .int v1, .int v2, .int v3, .ref r4, .int v5, .int v6, .int (i3 0), .int (i3 0), .null] 342 R x G L := hD_eq.trans rfl
set_option maxRecDepth 20000 in
theorem h_59_38 {d x : Nat} {V : pV} {G : sm_G} {L : sm_L} {v1 v2 v3 v5 v6 : Int32} : hD d 59 38 [.ref 1, .int v1, .int v2, .int v3, .ref 54, .int v5, .int v6, .null, .null, .null] 342 (RR V) x G L =
  hD d 59 44 [.ref 1, .int v1, .int v2, .int v3, .ref 54, .int v5, .int v6, .int (i3 0), .int (i3 0), .null] 342 (RR V) x G L := by
  rw [rh_59_38]
  try simp only [gd_tt]
set_option maxRecDepth 20000 in
theorem rh_59_44 {d x : Nat} {R : sm_R} {G : sm_G} {L : sm_L} {r4 : Nat} {v1 v2 v3 v5 v6 v7 v8 : Int32} : hD d 59 44 [.ref 1, .int v1, .int v2, .int v3, .ref r4, .int v5, .int v6, .int v7, .int v8, .null] 342 R x G L =
  if v8 < v2 then
    (gd (sm_is r4 342 1) (sm_aI (sm_cv0 d 81 342 R [.ref r4, .ref (R 1 10), .int (v1 + v8)] (x, G, L)) (fun a1 x1 G1 L1 =>
      gd (sm_is r4 342 1) (sm_aI (sm_cv0 d 21 342 R [.ref 1, .ref (R r4 3), .int (i3 0)] (x1, G1, L1)) (fun a2 x2 G2 L2 =>
        sm_aI (sm_cv0 d 7 342 R [.int a2] (x2, G2, L2)) (fun a3 x3 G3 L3 =>
          sm_aI (sm_cv0 d 4 342 R [.int v5, .int a3] (x3, G3, L3)) (fun a4 x4 G4 L4 =>
            sm_aI (sm_cv0 d 5 342 R [.int v6, .int a3] (x4, G4, L4)) (fun a5 x5 G5 L5 =>
              hD d 59 97 [.ref 1, .int v1, .int v2, .int v3, .ref r4, .int a4, .int a5, .int v7, .int v8, .int a3] 342 R x5 G5 L5) oX) oX) oX) oX)) oX))
  else (if v3 = (i3 0) then
      (oI v5 x G L)
    else (if v3 = (i3 1) then
        (oI v6 x G L)
      else (oI v7 x G L))) := hD_eq.trans rfl
set_option maxRecDepth 20000 in
theorem h_59_44 {d x : Nat} {V : pV} {G : sm_G} {L : sm_L} {v1 v2 v3 v5 v6 v7 v8 : Int32} : hD d 59 44 [.ref 1, .int v1, .int v2, .int v3, .ref 54, .int v5, .int v6, .int v7, .int v8, .null] 342 (RR V) x G L =
  if v8 < v2 then
    (sm_aI (sm_cv0 d 81 342 (RR V) [.ref 54, .ref V.1, .int (v1 + v8)] (x, G, L)) (fun a1 x1 G1 L1 =>
      sm_aI (sm_cv0 d 21 342 (RR V) [.ref 1, .ref 58, .int (i3 0)] (x1, G1, L1)) (fun a2 x2 G2 L2 =>
        sm_aI (sm_cv0 d 7 342 (RR V) [.int a2] (x2, G2, L2)) (fun a3 x3 G3 L3 =>
          sm_aI (sm_cv0 d 4 342 (RR V) [.int v5, .int a3] (x3, G3, L3)) (fun a4 x4 G4 L4 =>
            sm_aI (sm_cv0 d 5 342 (RR V) [.int v6, .int a3] (x4, G4, L4)) (fun a5 x5 G5 L5 =>
              hD d 59 97 [.ref 1, .int v1, .int v2, .int v3, .ref 54, .int a4, .int a5, .int v7, .int v8, .int a3] 342 (RR V) x5 G5 L5) oX) oX) oX) oX) oX)
  else (if v3 = (i3 0) then
      (oI v5 x G L)
    else (if v3 = (i3 1) then
        (oI v6 x G L)
      else (oI v7 x G L))) := by
  rw [rh_59_44]
  try simp only [gd_tt, (q_1_10 V), (q_54_3 V), k_1, k_54]
set_option maxRecDepth 20000 in
theorem rh_59_97 {d x : Nat} {R : sm_R} {G : sm_G} {L : sm_L} {r4 : Nat} {v1 v2 v3 v5 v6 v7 v8 v9 : Int32} : hD d 59 97 [.ref 1, .int v1, .int v2, .int v3, .ref r4, .int v5, .int v6, .int v7, .int v8, .int v9] 342 R x G L =
  if v9 = (i3 0) then
    (hD d 59 44 [.ref 1, .int v1, .int v2, .int v3, .ref r4, .int v5, .int v6, .int (v7 + (i3 1)), .int (v8 + (i3 1)), .null] 342 R x G L)
  else (hD d 59 44 [.ref 1, .int v1, .int v2, .int v3, .ref r4, .int v5, .int v6, .int (v7 + (i3 0)), .int (v8 + (i3 1)), .null] 342 R x G L) := hD_eq.trans rfl
set_option maxRecDepth 20000 in
theorem h_59_97 {d x : Nat} {V : pV} {G : sm_G} {L : sm_L} {v1 v2 v3 v5 v6 v7 v8 v9 : Int32} : hD d 59 97 [.ref 1, .int v1, .int v2, .int v3, .ref 54, .int v5, .int v6, .int v7, .int v8, .int v9] 342 (RR V) x G L =
  if v9 = (i3 0) then
    (hD d 59 44 [.ref 1, .int v1, .int v2, .int v3, .ref 54, .int v5, .int v6, .int (v7 + (i3 1)), .int (v8 + (i3 1)), .null] 342 (RR V) x G L)
  else (hD d 59 44 [.ref 1, .int v1, .int v2, .int v3, .ref 54, .int v5, .int v6, .int (v7 + (i3 0)), .int (v8 + (i3 1)), .null] 342 (RR V) x G L) := by
  rw [rh_59_97]
  try simp only [gd_tt]
/-! S_round -/
set_option maxRecDepth 20000 in
theorem rm_60 {d x : Nat} {R : sm_R} {G : sm_G} {L : sm_L} {v1 : Int32} : sm_cv0 (d + 1) 60 342 R [.ref 1, .int v1] (x, G, L) =
  sm_aV (sm_cv0 d 33 342 R [.ref 1, .int v1, .int (i3 1)] (x, G, L)) (fun x1 G1 L1 =>
    gd (sm_is (R 1 10) 342 5) (if (G1 (R 1 10) 9) ≤ (i3 6) then
      (sm_aI (sm_cv0 d 61 342 R [.ref 1] (x1, G1, L1)) (fun a2 x2 G2 L2 =>
        if v1 = (i3 0) then
          (oI (a2 / (i3 1000000)) x2 G2 L2)
        else (oI (irem a2 (i3 1000000)) x2 G2 L2)) oX)
    else (ldi (R 1 1) (i3 3) G1 (fun y3 => gd (sm_is (R 1 1) 342 20) (gd (sm_in (i3 3) (sm_N (R 1 1))) (oX 3 (x1 + 1) (sm_up G1 (R 1 1) 3 (y3 + (i3 1))) L1)))))) oX := (cv_eq rfl rfl).trans (hD_eq.trans rfl)
set_option maxRecDepth 20000 in
theorem m_60 {d x : Nat} {V : pV} {G : sm_G} {L : sm_L} {v1 : Int32} (hV : okV V) : sm_cv0 (d + 1) 60 342 (RR V) [.ref 1, .int v1] (x, G, L) =
  sm_aV (sm_cv0 d 33 342 (RR V) [.ref 1, .int v1, .int (i3 1)] (x, G, L)) (fun x1 G1 L1 =>
    if (G1 V.1 9) ≤ (i3 6) then
      (sm_aI (sm_cv0 d 61 342 (RR V) [.ref 1] (x1, G1, L1)) (fun a2 x2 G2 L2 =>
        if v1 = (i3 0) then
          (oI (a2 / (i3 1000000)) x2 G2 L2)
        else (oI (irem a2 (i3 1000000)) x2 G2 L2)) oX)
    else (oX 3 (x1 + 1) (sm_up G1 4 3 ((G1 4 3) + (i3 1))) L1)) oX := by
  rw [rm_60]
  try simp only [gd_tt, (kS_0 hV.1), (q_1_1 V), (q_1_10 V), cl_3, inl_3_4, k_1, k_4, ldi_e k_4 n_4, n_4]
/-! S_bestRound -/
set_option maxRecDepth 20000 in
theorem rm_61 {d x : Nat} {R : sm_R} {G : sm_G} {L : sm_L} : sm_cv0 (d + 1) 61 342 R [.ref 1] (x, G, L) =
  sm_aR (sm_cv0 d 15 342 R [.ref 1] (x, G, L)) (fun p1 x1 G1 L1 =>
    gd (sm_is p1 342 1) (sm_aV (sm_cv0 d 82 342 R [.ref p1] (x1, G1, L1)) (fun x2 G2 L2 =>
      gd (sm_is (R 1 10) 342 5) (if (G2 (R 1 10) 14) < (i3 0) then
        (sm_aR (sm_cv0 d 14 342 R [.ref 1] (x2, G2, L2)) (fun p3 x3 G3 L3 =>
          gd (sm_is p3 342 2) (sm_aI (sm_cv0 d 97 342 R [.ref p3, .ref (R 1 10)] (x3, G3, L3)) (fun a4 x4 G4 L4 =>
            sm_aI (sm_cv0 d 7 342 R [.int a4] (x4, G4, L4)) (fun a5 x5 G5 L5 =>
              gd (sm_is (R 1 10) 342 5) (gd (sm_is p1 342 1) (sm_aI (sm_cv0 d 83 342 R [.ref p1, .int (G5 (R 1 10) 9)] (x5, G5, L5)) (fun a6 x6 G6 L6 =>
                oI ((a5 * (i3 1000000)) + a6) x6 G6 L6) oX))) oX) oX)) oX)
      else (gd (sm_is (R 1 7) 342 2) (sm_aV (sm_cv0 d 87 342 R [.ref (R 1 7), .ref (R 1 10)] (x2, G2, L2)) (fun x7 G7 L7 =>
          gd (sm_is p1 342 1) (gd (sm_is (R 1 10) 342 5) (gd (sm_is (R 1 7) 342 2) (sm_aV (sm_cv0 d 88 342 R [.ref (R 1 7), .ref (R 1 10), .ref (R 1 2), .ref p1, .ref (R p1 1), .int (i3 0), .int (i3 0), .int ((G7 (R 1 10) 14) - (i3 1))] (x7, G7, L7)) (fun x8 G8 L8 =>
            gd (sm_is (R 1 7) 342 2) (sm_aV (sm_cv0 d 99 342 R [.ref (R 1 7)] (x8, G8, L8)) (fun x9 G9 L9 =>
              hD d 61 105 [.ref 1, .ref p1, .int (i3 5000000), .int (i3 1), .null] 342 R x9 G9 L9) oX)) oX)))) oX)))) oX)) oX := (cv_eq rfl rfl).trans (hD_eq.trans rfl)
set_option maxRecDepth 20000 in
theorem m_61 {d x : Nat} {V : pV} {G : sm_G} {L : sm_L} (hV : okV V) : sm_cv0 (d + 1) 61 342 (RR V) [.ref 1] (x, G, L) =
  sm_aR (sm_cv0 d 15 342 (RR V) [.ref 1] (x, G, L)) (fun p1 x1 G1 L1 =>
    gd (sm_is p1 342 1) (sm_aV (sm_cv0 d 82 342 (RR V) [.ref p1] (x1, G1, L1)) (fun x2 G2 L2 =>
      if (G2 V.1 14) < (i3 0) then
        (sm_aR (sm_cv0 d 14 342 (RR V) [.ref 1] (x2, G2, L2)) (fun p3 x3 G3 L3 =>
          gd (sm_is p3 342 2) (sm_aI (sm_cv0 d 97 342 (RR V) [.ref p3, .ref V.1] (x3, G3, L3)) (fun a4 x4 G4 L4 =>
            sm_aI (sm_cv0 d 7 342 (RR V) [.int a4] (x4, G4, L4)) (fun a5 x5 G5 L5 =>
              gd (sm_is p1 342 1) (sm_aI (sm_cv0 d 83 342 (RR V) [.ref p1, .int (G5 V.1 9)] (x5, G5, L5)) (fun a6 x6 G6 L6 =>
                oI ((a5 * (i3 1000000)) + a6) x6 G6 L6) oX)) oX) oX)) oX)
      else (sm_aV (sm_cv0 d 87 342 (RR V) [.ref 84, .ref V.1] (x2, G2, L2)) (fun x7 G7 L7 =>
          gd (sm_is p1 342 1) (sm_aV (sm_cv0 d 88 342 (RR V) [.ref 84, .ref V.1, .ref 5, .ref p1, .ref (RR V p1 1), .int (i3 0), .int (i3 0), .int ((G7 V.1 14) - (i3 1))] (x7, G7, L7)) (fun x8 G8 L8 =>
            sm_aV (sm_cv0 d 99 342 (RR V) [.ref 84] (x8, G8, L8)) (fun x9 G9 L9 =>
              hD d 61 105 [.ref 1, .ref p1, .int (i3 5000000), .int (i3 1), .null] 342 (RR V) x9 G9 L9) oX) oX)) oX)) oX)) oX := by
  rw [rm_61]
  try simp only [gd_tt, (kS_0 hV.1), (q_1_10 V), (q_1_2 V), (q_1_7 V), k_1, k_84]
set_option maxRecDepth 20000 in
theorem rh_61_105 {d x : Nat} {R : sm_R} {G : sm_G} {L : sm_L} {r1 : Nat} {v2 v3 : Int32} : hD d 61 105 [.ref 1, .ref r1, .int v2, .int v3, .null] 342 R x G L =
  hD d 61 108 [.ref 1, .ref r1, .int v2, .int v3, .int (i3 0)] 342 R x G L := hD_eq.trans rfl
set_option maxRecDepth 20000 in
theorem h_61_105 {d x : Nat} {V : pV} {G : sm_G} {L : sm_L} {v2 v3 : Int32} : hD d 61 105 [.ref 1, .ref 54, .int v2, .int v3, .null] 342 (RR V) x G L =
  hD d 61 108 [.ref 1, .ref 54, .int v2, .int v3, .int (i3 0)] 342 (RR V) x G L := by
  rw [rh_61_105]
  try simp only [gd_tt]
set_option maxRecDepth 20000 in
theorem rh_61_108 {d x : Nat} {R : sm_R} {G : sm_G} {L : sm_L} {r1 : Nat} {v2 v3 v4 : Int32} : hD d 61 108 [.ref 1, .ref r1, .int v2, .int v3, .int v4] 342 R x G L =
  if v4 < (i3 720) then
    (if v3 = (i3 0) then
      (oI v2 x G L)
    else (sm_aI (sm_cv0 d 62 342 R [.ref 1, .ref r1] (x, G, L)) (fun a1 x1 G1 L1 =>
        gd (sm_is (R 1 10) 342 5) (gd (sm_is r1 342 1) (sm_aI (sm_cv0 d 83 342 R [.ref r1, .int (G1 (R 1 10) 9)] (x1, G1, L1)) (fun a2 x2 G2 L2 =>
          sm_aI (sm_cv0 d 4 342 R [.int v2, .int ((a1 * (i3 1000000)) + a2)] (x2, G2, L2)) (fun a3 x3 G3 L3 =>
            gd (sm_is (R 1 10) 342 5) (gd (sm_is r1 342 1) (sm_aI (sm_cv0 d 85 342 R [.ref r1, .int (G3 (R 1 10) 9)] (x3, G3, L3)) (fun a4 x4 G4 L4 =>
              hD d 61 161 [.ref 1, .ref r1, .int a3, .int a4, .int (v4 + (i3 1))] 342 R x4 G4 L4) oX))) oX) oX))) oX))
  else (oI v2 x G L) := hD_eq.trans rfl
set_option maxRecDepth 20000 in
theorem h_61_108 {d x : Nat} {V : pV} {G : sm_G} {L : sm_L} {v2 v3 v4 : Int32} (hV : okV V) : hD d 61 108 [.ref 1, .ref 54, .int v2, .int v3, .int v4] 342 (RR V) x G L =
  if v4 < (i3 720) then
    (if v3 = (i3 0) then
      (oI v2 x G L)
    else (sm_aI (sm_cv0 d 62 342 (RR V) [.ref 1, .ref 54] (x, G, L)) (fun a1 x1 G1 L1 =>
        sm_aI (sm_cv0 d 83 342 (RR V) [.ref 54, .int (G1 V.1 9)] (x1, G1, L1)) (fun a2 x2 G2 L2 =>
          sm_aI (sm_cv0 d 4 342 (RR V) [.int v2, .int ((a1 * (i3 1000000)) + a2)] (x2, G2, L2)) (fun a3 x3 G3 L3 =>
            sm_aI (sm_cv0 d 85 342 (RR V) [.ref 54, .int (G3 V.1 9)] (x3, G3, L3)) (fun a4 x4 G4 L4 =>
              hD d 61 161 [.ref 1, .ref 54, .int a3, .int a4, .int (v4 + (i3 1))] 342 (RR V) x4 G4 L4) oX) oX) oX) oX))
  else (oI v2 x G L) := by
  rw [rh_61_108]
  try simp only [gd_tt, (kS_0 hV.1), (q_1_10 V), k_1, k_54]
set_option maxRecDepth 20000 in
theorem rh_61_161 {d x : Nat} {R : sm_R} {G : sm_G} {L : sm_L} {r1 : Nat} {v2 v3 v4 : Int32} : hD d 61 161 [.ref 1, .ref r1, .int v2, .int v3, .int v4] 342 R x G L =
  hD d 61 108 [.ref 1, .ref r1, .int v2, .int v3, .int v4] 342 R x G L := hD_eq.trans rfl
set_option maxRecDepth 20000 in
theorem h_61_161 {d x : Nat} {V : pV} {G : sm_G} {L : sm_L} {v2 v3 v4 : Int32} : hD d 61 161 [.ref 1, .ref 54, .int v2, .int v3, .int v4] 342 (RR V) x G L =
  hD d 61 108 [.ref 1, .ref 54, .int v2, .int v3, .int v4] 342 (RR V) x G L := by
  rw [rh_61_161]
  try simp only [gd_tt]
/-! S_roundLost -/
set_option maxRecDepth 20000 in
theorem rm_62 {d x : Nat} {R : sm_R} {G : sm_G} {L : sm_L} : sm_cv0 (d + 1) 62 342 R [.ref 1, .ref 54] (x, G, L) =
  gd (sm_is (R 1 10) 342 5) (gd (sm_is (R 1 10) 342 5) (sm_aI (sm_cv0 d 4 342 R [.int (i3 300), .int (((G (R 1 10) 14) + (G (R 1 10) 9)) - (i3 1))] (x, G, L)) (fun a1 x1 G1 L1 =>
    sm_aV (sm_cv0 d 84 342 R [.ref 54, .ref (R 1 10)] (x1, G1, L1)) (fun x2 G2 L2 =>
      gd (sm_is (R 1 7) 342 2) (sm_aV (sm_cv0 d 100 342 R [.ref (R 1 7)] (x2, G2, L2)) (fun x3 G3 L3 =>
        gd (sm_is (R 1 10) 342 5) (gd (sm_is (R 1 7) 342 2) (sm_aV (sm_cv0 d 88 342 R [.ref (R 1 7), .ref (R 1 10), .ref (R 1 2), .ref 54, .ref (R 54 3), .int (i3 0), .int (G3 (R 1 10) 14), .int a1] (x3, G3, L3)) (fun x4 G4 L4 =>
          gd (sm_is (R 1 7) 342 2) (sm_aI (sm_cv0 d 97 342 R [.ref (R 1 7), .ref (R 1 10)] (x4, G4, L4)) (fun a5 x5 G5 L5 =>
            gd (sm_is (R 1 10) 342 5) (gd (sm_is (R (R 1 10) 0) 342 3) (gd (sm_is (R 1 10) 342 5) (sm_aI (sm_cv0 d 118 342 R [.ref (R 1 10), .int (G5 (R (R 1 10) 0) 9)] (x5, G5, L5)) (fun a6 x6 G6 L6 =>
              hD d 62 99 [.ref 1, .null, .int a1, .int a5, .int a6, .null] 342 R x6 G6 L6) oX)))) oX)) oX))) oX)) oX) oX)) := (cv_eq rfl rfl).trans (hD_eq.trans rfl)
set_option maxRecDepth 20000 in
theorem m_62 {d x : Nat} {V : pV} {G : sm_G} {L : sm_L} (hV : okV V) : sm_cv0 (d + 1) 62 342 (RR V) [.ref 1, .ref 54] (x, G, L) =
  sm_aI (sm_cv0 d 4 342 (RR V) [.int (i3 300), .int (((G V.1 14) + (G V.1 9)) - (i3 1))] (x, G, L)) (fun a1 x1 G1 L1 =>
    sm_aV (sm_cv0 d 84 342 (RR V) [.ref 54, .ref V.1] (x1, G1, L1)) (fun x2 G2 L2 =>
      sm_aV (sm_cv0 d 100 342 (RR V) [.ref 84] (x2, G2, L2)) (fun x3 G3 L3 =>
        sm_aV (sm_cv0 d 88 342 (RR V) [.ref 84, .ref V.1, .ref 5, .ref 54, .ref 58, .int (i3 0), .int (G3 V.1 14), .int a1] (x3, G3, L3)) (fun x4 G4 L4 =>
          sm_aI (sm_cv0 d 97 342 (RR V) [.ref 84, .ref V.1] (x4, G4, L4)) (fun a5 x5 G5 L5 =>
            sm_aI (sm_cv0 d 118 342 (RR V) [.ref V.1, .int (G5 (V.1 + 1) 9)] (x5, G5, L5)) (fun a6 x6 G6 L6 =>
              hD d 62 99 [.ref 1, .null, .int a1, .int a5, .int a6, .null] 342 (RR V) x6 G6 L6) oX) oX) oX) oX) oX) oX := by
  rw [rm_62]
  try simp only [gd_tt, (fS_0_0 V hV.1), (kS_0 hV.1), (kS_1 hV.1), (q_1_10 V), (q_1_2 V), (q_1_7 V), (q_54_3 V), k_1, k_54, k_84]
set_option maxRecDepth 20000 in
theorem rh_62_99 {d x : Nat} {R : sm_R} {G : sm_G} {L : sm_L} {v2 v3 v4 : Int32} : hD d 62 99 [.ref 1, .null, .int v2, .int v3, .int v4, .null] 342 R x G L =
  hD d 62 102 [.ref 1, .null, .int v2, .int v3, .int v4, .int (i3 0)] 342 R x G L := hD_eq.trans rfl
theorem h_62_99 {d x : Nat} {V : pV} {G : sm_G} {L : sm_L} {v2 v3 v4 : Int32} : hD d 62 99 [.ref 1, .null, .int v2, .int v3, .int v4, .null] 342 (RR V) x G L =
  hD d 62 102 [.ref 1, .null, .int v2, .int v3, .int v4, .int (i3 0)] 342 (RR V) x G L := rh_62_99
set_option maxRecDepth 20000 in
theorem rh_62_102 {d x : Nat} {R : sm_R} {G : sm_G} {L : sm_L} {v2 v3 v4 v5 : Int32} : hD d 62 102 [.ref 1, .null, .int v2, .int v3, .int v4, .int v5] 342 R x G L =
  gd (sm_is (R 1 10) 342 5) (if v5 < (G (R 1 10) 12) then
    (gd (sm_is (R 1 10) 342 5) (ldi (R (R 1 10) 8) v5 G (fun y1 => if y1 ≤ v2 then
      (hD d 62 102 [.ref 1, .null, .int v2, .int v3, .int v4, .int (v5 + (i3 1))] 342 R x G L)
    else (gd (sm_is (R 1 10) 342 5) (ldi (R (R 1 10) 7) v5 G (fun y2 => if ((shr v4 y2) &&& (i3 1)) = (i3 0) then
        (hD d 62 102 [.ref 1, .null, .int v2, .int (v3 ||| (shl (i3 1) v5)), .int v4, .int (v5 + (i3 1))] 342 R x G L)
      else (hD d 62 102 [.ref 1, .null, .int v2, .int v3, .int v4, .int (v5 + (i3 1))] 342 R x G L)))))))
  else (sm_aI (sm_cv0 d 7 342 R [.int v3] (x, G, L)) (fun a3 x3 G3 L3 =>
      oI a3 x3 G3 L3) oX)) := hD_eq.trans rfl
set_option maxRecDepth 20000 in
theorem h_62_102 {d x : Nat} {V : pV} {G : sm_G} {L : sm_L} {v2 v3 v4 v5 : Int32} (hV : okV V) : hD d 62 102 [.ref 1, .null, .int v2, .int v3, .int v4, .int v5] 342 (RR V) x G L =
  if v5 < (G V.1 12) then
    (gd (sm_in v5 4) (if (G (V.1 + 17) v5.toNatClampNeg) ≤ v2 then
      (hD d 62 102 [.ref 1, .null, .int v2, .int v3, .int v4, .int (v5 + (i3 1))] 342 (RR V) x G L)
    else (gd (sm_in v5 4) (if ((shr v4 (G (V.1 + 16) v5.toNatClampNeg)) &&& (i3 1)) = (i3 0) then
        (hD d 62 102 [.ref 1, .null, .int v2, .int (v3 ||| (shl (i3 1) v5)), .int v4, .int (v5 + (i3 1))] 342 (RR V) x G L)
      else (hD d 62 102 [.ref 1, .null, .int v2, .int v3, .int v4, .int (v5 + (i3 1))] 342 (RR V) x G L)))))
  else (sm_aI (sm_cv0 d 7 342 (RR V) [.int v3] (x, G, L)) (fun a3 x3 G3 L3 =>
      oI a3 x3 G3 L3) oX) := by
  rw [rh_62_102]
  try simp only [gd_tt, (fS_0_7 V hV.1), (fS_0_8 V hV.1), (kS_0 hV.1), (nS_16 hV.1), (nS_17 hV.1), (q_1_10 V), k_1, ldi_e (kS_16 hV.1) (nS_16 hV.1), ldi_e (kS_17 hV.1) (nS_17 hV.1)]
/-! S_asleep -/
set_option maxRecDepth 20000 in
theorem rm_63 {d x : Nat} {R : sm_R} {G : sm_G} {L : sm_L} {v1 : Int32} : sm_cv0 (d + 1) 63 342 R [.ref 1, .int v1] (x, G, L) =
  sm_aV (sm_cv0 d 38 342 R [.ref 1, .int v1] (x, G, L)) (fun x1 G1 L1 =>
    sm_aR (sm_cv0 d 15 342 R [.ref 1] (x1, G1, L1)) (fun p2 x2 G2 L2 =>
      gd (sm_is p2 342 1) (ldi (R p2 0) v1 G2 (fun y3 => oI y3 x2 G2 L2))) oX) oX := (cv_eq rfl rfl).trans (hD_eq.trans rfl)
set_option maxRecDepth 20000 in
theorem m_63 {d x : Nat} {V : pV} {G : sm_G} {L : sm_L} {v1 : Int32} : sm_cv0 (d + 1) 63 342 (RR V) [.ref 1, .int v1] (x, G, L) =
  sm_aV (sm_cv0 d 38 342 (RR V) [.ref 1, .int v1] (x, G, L)) (fun x1 G1 L1 =>
    sm_aR (sm_cv0 d 15 342 (RR V) [.ref 1] (x1, G1, L1)) (fun p2 x2 G2 L2 =>
      gd (sm_is p2 342 1) (ldi (RR V p2 0) v1 G2 (fun y3 => oI y3 x2 G2 L2))) oX) oX := by
  rw [rm_63]
  try simp only [gd_tt, k_1]
/-! S_rooms -/
set_option maxRecDepth 20000 in
theorem rm_64 {d x : Nat} {R : sm_R} {G : sm_G} {L : sm_L} {v1 : Int32} : sm_cv0 (d + 1) 64 342 R [.ref 1, .int v1] (x, G, L) =
  sm_aV (sm_cv0 d 38 342 R [.ref 1, .int v1] (x, G, L)) (fun x1 G1 L1 =>
    sm_aR (sm_cv0 d 15 342 R [.ref 1] (x1, G1, L1)) (fun p2 x2 G2 L2 =>
      gd (sm_is p2 342 1) (ldi (R p2 1) v1 G2 (fun y3 => oI y3 x2 G2 L2))) oX) oX := (cv_eq rfl rfl).trans (hD_eq.trans rfl)
set_option maxRecDepth 20000 in
theorem m_64 {d x : Nat} {V : pV} {G : sm_G} {L : sm_L} {v1 : Int32} : sm_cv0 (d + 1) 64 342 (RR V) [.ref 1, .int v1] (x, G, L) =
  sm_aV (sm_cv0 d 38 342 (RR V) [.ref 1, .int v1] (x, G, L)) (fun x1 G1 L1 =>
    sm_aR (sm_cv0 d 15 342 (RR V) [.ref 1] (x1, G1, L1)) (fun p2 x2 G2 L2 =>
      gd (sm_is p2 342 1) (ldi (RR V p2 1) v1 G2 (fun y3 => oI y3 x2 G2 L2))) oX) oX := by
  rw [rm_64]
  try simp only [gd_tt, k_1]
/-! S_lasting -/
set_option maxRecDepth 20000 in
theorem rm_65 {d x : Nat} {R : sm_R} {G : sm_G} {L : sm_L} {v1 v2 : Int32} : sm_cv0 (d + 1) 65 342 R [.ref 1, .int v1, .int v2] (x, G, L) =
  sm_aV (sm_cv0 d 41 342 R [.ref 1, .int v1] (x, G, L)) (fun x1 G1 L1 =>
    sm_aV (sm_cv0 d 33 342 R [.ref 1, .int v2, .int (i3 1)] (x1, G1, L1)) (fun x2 G2 L2 =>
      sm_aR (sm_cv0 d 15 342 R [.ref 1] (x2, G2, L2)) (fun p3 x3 G3 L3 =>
        gd (sm_is p3 342 1) (hD d 65 25 [.null, .int v1, .int v2, .ref (R p3 1), .int (i3 0), .int m1, .null, .null] 342 R x3 G3 L3)) oX) oX) oX := (cv_eq rfl rfl).trans (hD_eq.trans rfl)
set_option maxRecDepth 20000 in
theorem m_65 {d x : Nat} {V : pV} {G : sm_G} {L : sm_L} {v1 v2 : Int32} : sm_cv0 (d + 1) 65 342 (RR V) [.ref 1, .int v1, .int v2] (x, G, L) =
  sm_aV (sm_cv0 d 41 342 (RR V) [.ref 1, .int v1] (x, G, L)) (fun x1 G1 L1 =>
    sm_aV (sm_cv0 d 33 342 (RR V) [.ref 1, .int v2, .int (i3 1)] (x1, G1, L1)) (fun x2 G2 L2 =>
      sm_aR (sm_cv0 d 15 342 (RR V) [.ref 1] (x2, G2, L2)) (fun p3 x3 G3 L3 =>
        gd (sm_is p3 342 1) (hD d 65 25 [.null, .int v1, .int v2, .ref (RR V p3 1), .int (i3 0), .int m1, .null, .null] 342 (RR V) x3 G3 L3)) oX) oX) oX := by
  rw [rm_65]
  try simp only [gd_tt, k_1]
set_option maxRecDepth 20000 in
theorem rh_65_25 {d x : Nat} {R : sm_R} {G : sm_G} {L : sm_L} {r3 : Nat} {v1 v2 v4 v5 : Int32} : hD d 65 25 [.null, .int v1, .int v2, .ref r3, .int v4, .int v5, .null, .null] 342 R x G L =
  hD d 65 31 [.null, .int v1, .int v2, .ref r3, .int v4, .int v5, .int (i3 0), .int (i3 0)] 342 R x G L := hD_eq.trans rfl
theorem h_65_25 {d x : Nat} {V : pV} {G : sm_G} {L : sm_L} {r3 : Nat} {v1 v2 v4 v5 : Int32} : hD d 65 25 [.null, .int v1, .int v2, .ref r3, .int v4, .int v5, .null, .null] 342 (RR V) x G L =
  hD d 65 31 [.null, .int v1, .int v2, .ref r3, .int v4, .int v5, .int (i3 0), .int (i3 0)] 342 (RR V) x G L := rh_65_25
set_option maxRecDepth 20000 in
theorem rh_65_31 {d x : Nat} {R : sm_R} {G : sm_G} {L : sm_L} {r3 : Nat} {v1 v2 v4 v5 v6 v7 : Int32} : hD d 65 31 [.null, .int v1, .int v2, .ref r3, .int v4, .int v5, .int v6, .int v7] 342 R x G L =
  if v7 < (i3 301) then
    (ldi r3 v7 G (fun y1 => if ((shr y1 v1) &&& (i3 1)) = (i3 0) then
      (hD d 65 60 [.null, .int v1, .int v2, .ref r3, .int v4, .int v5, .int (i3 0), .int v7] 342 R x G L)
    else (hD d 65 60 [.null, .int v1, .int v2, .ref r3, .int v4, .int v5, .int (v6 + (i3 1)), .int v7] 342 R x G L)))
  else (if v2 = (i3 0) then
      (oI v4 x G L)
    else (oI v5 x G L)) := hD_eq.trans rfl
theorem h_65_31 {d x : Nat} {V : pV} {G : sm_G} {L : sm_L} {r3 : Nat} {v1 v2 v4 v5 v6 v7 : Int32} : hD d 65 31 [.null, .int v1, .int v2, .ref r3, .int v4, .int v5, .int v6, .int v7] 342 (RR V) x G L =
  if v7 < (i3 301) then
    (ldi r3 v7 G (fun y1 => if ((shr y1 v1) &&& (i3 1)) = (i3 0) then
      (hD d 65 60 [.null, .int v1, .int v2, .ref r3, .int v4, .int v5, .int (i3 0), .int v7] 342 (RR V) x G L)
    else (hD d 65 60 [.null, .int v1, .int v2, .ref r3, .int v4, .int v5, .int (v6 + (i3 1)), .int v7] 342 (RR V) x G L)))
  else (if v2 = (i3 0) then
      (oI v4 x G L)
    else (oI v5 x G L)) := rh_65_31
set_option maxRecDepth 20000 in
theorem rh_65_60 {d x : Nat} {R : sm_R} {G : sm_G} {L : sm_L} {r3 : Nat} {v1 v2 v4 v5 v6 v7 : Int32} : hD d 65 60 [.null, .int v1, .int v2, .ref r3, .int v4, .int v5, .int v6, .int v7] 342 R x G L =
  if v6 ≤ v4 then
    (hD d 65 83 [.null, .int v1, .int v2, .ref r3, .int v4, .int v5, .int v6, .int (v7 + (i3 1))] 342 R x G L)
  else (hD d 65 83 [.null, .int v1, .int v2, .ref r3, .int v6, .int ((v7 - v6) + (i3 1)), .int v6, .int (v7 + (i3 1))] 342 R x G L) := hD_eq.trans rfl
theorem h_65_60 {d x : Nat} {V : pV} {G : sm_G} {L : sm_L} {r3 : Nat} {v1 v2 v4 v5 v6 v7 : Int32} : hD d 65 60 [.null, .int v1, .int v2, .ref r3, .int v4, .int v5, .int v6, .int v7] 342 (RR V) x G L =
  if v6 ≤ v4 then
    (hD d 65 83 [.null, .int v1, .int v2, .ref r3, .int v4, .int v5, .int v6, .int (v7 + (i3 1))] 342 (RR V) x G L)
  else (hD d 65 83 [.null, .int v1, .int v2, .ref r3, .int v6, .int ((v7 - v6) + (i3 1)), .int v6, .int (v7 + (i3 1))] 342 (RR V) x G L) := rh_65_60
set_option maxRecDepth 20000 in
theorem rh_65_83 {d x : Nat} {R : sm_R} {G : sm_G} {L : sm_L} {r3 : Nat} {v1 v2 v4 v5 v6 v7 : Int32} : hD d 65 83 [.null, .int v1, .int v2, .ref r3, .int v4, .int v5, .int v6, .int v7] 342 R x G L =
  hD d 65 31 [.null, .int v1, .int v2, .ref r3, .int v4, .int v5, .int v6, .int v7] 342 R x G L := hD_eq.trans rfl
theorem h_65_83 {d x : Nat} {V : pV} {G : sm_G} {L : sm_L} {r3 : Nat} {v1 v2 v4 v5 v6 v7 : Int32} : hD d 65 83 [.null, .int v1, .int v2, .ref r3, .int v4, .int v5, .int v6, .int v7] 342 (RR V) x G L =
  hD d 65 31 [.null, .int v1, .int v2, .ref r3, .int v4, .int v5, .int v6, .int v7] 342 (RR V) x G L := rh_65_83
/-! S_reach -/
set_option maxRecDepth 20000 in
theorem rm_66 {d x : Nat} {R : sm_R} {G : sm_G} {L : sm_L} {v1 v2 v3 : Int32} : sm_cv0 (d + 1) 66 342 R [.ref 1, .int v1, .int v2, .int v3] (x, G, L) =
  sm_aV (sm_cv0 d 41 342 R [.ref 1, .int v1] (x, G, L)) (fun x1 G1 L1 =>
    sm_aI (sm_cv0 d 39 342 R [.int v2] (x1, G1, L1)) (fun a2 x2 G2 L2 =>
      if a2 = (i3 0) then
        (sm_aV (sm_cv0 d 29 342 R [.ref 1, .int (i3 0)] (x2, G2, L2)) (fun x3 G3 L3 =>
          hD d 66 33 [.ref 1, .int v1, .int v2, .int v3] 342 R x3 G3 L3) oX)
      else (sm_aI (sm_cv0 d 39 342 R [.int v3] (x2, G2, L2)) (fun a4 x4 G4 L4 =>
          if a4 = (i3 0) then
            (sm_aV (sm_cv0 d 29 342 R [.ref 1, .int (i3 0)] (x4, G4, L4)) (fun x5 G5 L5 =>
              hD d 66 33 [.ref 1, .int v1, .int v2, .int v3] 342 R x5 G5 L5) oX)
          else (if v2 ≤ v3 then
              (sm_aV (sm_cv0 d 29 342 R [.ref 1, .int (i3 1)] (x4, G4, L4)) (fun x6 G6 L6 =>
                hD d 66 33 [.ref 1, .int v1, .int v2, .int v3] 342 R x6 G6 L6) oX)
            else (sm_aV (sm_cv0 d 29 342 R [.ref 1, .int (i3 0)] (x4, G4, L4)) (fun x7 G7 L7 =>
                hD d 66 33 [.ref 1, .int v1, .int v2, .int v3] 342 R x7 G7 L7) oX))) oX)) oX) oX := (cv_eq rfl rfl).trans (hD_eq.trans rfl)
set_option maxRecDepth 20000 in
theorem m_66 {d x : Nat} {V : pV} {G : sm_G} {L : sm_L} {v1 v2 v3 : Int32} : sm_cv0 (d + 1) 66 342 (RR V) [.ref 1, .int v1, .int v2, .int v3] (x, G, L) =
  sm_aV (sm_cv0 d 41 342 (RR V) [.ref 1, .int v1] (x, G, L)) (fun x1 G1 L1 =>
    sm_aI (sm_cv0 d 39 342 (RR V) [.int v2] (x1, G1, L1)) (fun a2 x2 G2 L2 =>
      if a2 = (i3 0) then
        (sm_aV (sm_cv0 d 29 342 (RR V) [.ref 1, .int (i3 0)] (x2, G2, L2)) (fun x3 G3 L3 =>
          hD d 66 33 [.ref 1, .int v1, .int v2, .int v3] 342 (RR V) x3 G3 L3) oX)
      else (sm_aI (sm_cv0 d 39 342 (RR V) [.int v3] (x2, G2, L2)) (fun a4 x4 G4 L4 =>
          if a4 = (i3 0) then
            (sm_aV (sm_cv0 d 29 342 (RR V) [.ref 1, .int (i3 0)] (x4, G4, L4)) (fun x5 G5 L5 =>
              hD d 66 33 [.ref 1, .int v1, .int v2, .int v3] 342 (RR V) x5 G5 L5) oX)
          else (if v2 ≤ v3 then
              (sm_aV (sm_cv0 d 29 342 (RR V) [.ref 1, .int (i3 1)] (x4, G4, L4)) (fun x6 G6 L6 =>
                hD d 66 33 [.ref 1, .int v1, .int v2, .int v3] 342 (RR V) x6 G6 L6) oX)
            else (sm_aV (sm_cv0 d 29 342 (RR V) [.ref 1, .int (i3 0)] (x4, G4, L4)) (fun x7 G7 L7 =>
                hD d 66 33 [.ref 1, .int v1, .int v2, .int v3] 342 (RR V) x7 G7 L7) oX))) oX)) oX) oX := by
  rw [rm_66]
  try simp only [gd_tt, k_1]
set_option maxRecDepth 20000 in
theorem rh_66_33 {d x : Nat} {R : sm_R} {G : sm_G} {L : sm_L} {v1 v2 v3 : Int32} : hD d 66 33 [.ref 1, .int v1, .int v2, .int v3] 342 R x G L =
  sm_aR (sm_cv0 d 15 342 R [.ref 1] (x, G, L)) (fun p1 x1 G1 L1 =>
    gd (sm_is (R 1 5) 342 9) (sm_aI (sm_cv0 d 167 342 R [.ref (R 1 5), .ref (R 1 10), .ref p1, .int v1, .int v2, .int v3] (x1, G1, L1)) (fun a2 x2 G2 L2 =>
      oI a2 x2 G2 L2) oX)) oX := hD_eq.trans rfl
set_option maxRecDepth 20000 in
theorem h_66_33 {d x : Nat} {V : pV} {G : sm_G} {L : sm_L} {v1 v2 v3 : Int32} : hD d 66 33 [.ref 1, .int v1, .int v2, .int v3] 342 (RR V) x G L =
  sm_aR (sm_cv0 d 15 342 (RR V) [.ref 1] (x, G, L)) (fun p1 x1 G1 L1 =>
    sm_aI (sm_cv0 d 167 342 (RR V) [.ref 61, .ref V.1, .ref p1, .int v1, .int v2, .int v3] (x1, G1, L1)) (fun a2 x2 G2 L2 =>
      oI a2 x2 G2 L2) oX) oX := by
  rw [rh_66_33]
  try simp only [gd_tt, (q_1_10 V), (q_1_5 V), k_1, k_61]
/-! S_far -/
set_option maxRecDepth 20000 in
theorem rm_67 {d x : Nat} {R : sm_R} {G : sm_G} {L : sm_L} {v1 v2 : Int32} : sm_cv0 (d + 1) 67 342 R [.ref 1, .int v1, .int v2] (x, G, L) =
  sm_aV (sm_cv0 d 47 342 R [.ref 1, .int v1, .int v2] (x, G, L)) (fun x1 G1 L1 =>
    gd (sm_is (R 1 9) 342 8) (sm_aI (sm_cv0 d 156 342 R [.ref (R 1 9), .ref (R 1 10), .int v1, .int v2] (x1, G1, L1)) (fun a2 x2 G2 L2 =>
      oI a2 x2 G2 L2) oX)) oX := (cv_eq rfl rfl).trans (hD_eq.trans rfl)
set_option maxRecDepth 20000 in
theorem m_67 {d x : Nat} {V : pV} {G : sm_G} {L : sm_L} {v1 v2 : Int32} : sm_cv0 (d + 1) 67 342 (RR V) [.ref 1, .int v1, .int v2] (x, G, L) =
  sm_aV (sm_cv0 d 47 342 (RR V) [.ref 1, .int v1, .int v2] (x, G, L)) (fun x1 G1 L1 =>
    sm_aI (sm_cv0 d 156 342 (RR V) [.ref 108, .ref V.1, .int v1, .int v2] (x1, G1, L1)) (fun a2 x2 G2 L2 =>
      oI a2 x2 G2 L2) oX) oX := by
  rw [rm_67]
  try simp only [gd_tt, (q_1_10 V), (q_1_9 V), k_1, k_108]
/-! S_lonely -/
set_option maxRecDepth 20000 in
theorem rm_68 {d x : Nat} {R : sm_R} {G : sm_G} {L : sm_L} {v1 : Int32} : sm_cv0 (d + 1) 68 342 R [.ref 1, .int v1] (x, G, L) =
  sm_aV (sm_cv0 d 41 342 R [.ref 1, .int v1] (x, G, L)) (fun x1 G1 L1 =>
    sm_aR (sm_cv0 d 15 342 R [.ref 1] (x1, G1, L1)) (fun p2 x2 G2 L2 =>
      gd (sm_is p2 342 1) (sm_aR (sm_cv0 d 14 342 R [.ref 1] (x2, G2, L2)) (fun p3 x3 G3 L3 =>
        hD d 68 21 [.ref 1, .int v1, .ref (R p2 1), .ref p3, .int (i3 0), .null] 342 R x3 G3 L3) oX)) oX) oX := (cv_eq rfl rfl).trans (hD_eq.trans rfl)
set_option maxRecDepth 20000 in
theorem m_68 {d x : Nat} {V : pV} {G : sm_G} {L : sm_L} {v1 : Int32} : sm_cv0 (d + 1) 68 342 (RR V) [.ref 1, .int v1] (x, G, L) =
  sm_aV (sm_cv0 d 41 342 (RR V) [.ref 1, .int v1] (x, G, L)) (fun x1 G1 L1 =>
    sm_aR (sm_cv0 d 15 342 (RR V) [.ref 1] (x1, G1, L1)) (fun p2 x2 G2 L2 =>
      gd (sm_is p2 342 1) (sm_aR (sm_cv0 d 14 342 (RR V) [.ref 1] (x2, G2, L2)) (fun p3 x3 G3 L3 =>
        hD d 68 21 [.ref 1, .int v1, .ref (RR V p2 1), .ref p3, .int (i3 0), .null] 342 (RR V) x3 G3 L3) oX)) oX) oX := by
  rw [rm_68]
  try simp only [gd_tt, k_1]
set_option maxRecDepth 20000 in
theorem rh_68_21 {d x : Nat} {R : sm_R} {G : sm_G} {L : sm_L} {r2 r3 : Nat} {v1 v4 : Int32} : hD d 68 21 [.ref 1, .int v1, .ref r2, .ref r3, .int v4, .null] 342 R x G L =
  hD d 68 24 [.ref 1, .int v1, .ref r2, .ref r3, .int v4, .int (i3 0)] 342 R x G L := hD_eq.trans rfl
theorem h_68_21 {d x : Nat} {V : pV} {G : sm_G} {L : sm_L} {r2 r3 : Nat} {v1 v4 : Int32} (hr3 : pN r3) : hD d 68 21 [.ref 1, .int v1, .ref r2, .ref r3, .int v4, .null] 342 (RR V) x G L =
  hD d 68 24 [.ref 1, .int v1, .ref r2, .ref r3, .int v4, .int (i3 0)] 342 (RR V) x G L := rh_68_21
set_option maxRecDepth 20000 in
theorem rh_68_24 {d x : Nat} {R : sm_R} {G : sm_G} {L : sm_L} {r2 r3 : Nat} {v1 v4 v5 : Int32} : hD d 68 24 [.ref 1, .int v1, .ref r2, .ref r3, .int v4, .int v5] 342 R x G L =
  if v5 < (i3 301) then
    (ldi r2 v5 G (fun y1 => if ((shr y1 v1) &&& (i3 1)) = (i3 0) then
      (hD d 68 24 [.ref 1, .int v1, .ref r2, .ref r3, .int v4, .int (v5 + (i3 1))] 342 R x G L)
    else (gd (sm_is r3 342 2) (sm_aI (sm_cv0 d 101 342 R [.ref r3, .ref (R 1 10), .int v1, .int v5] (x, G, L)) (fun a2 x2 G2 L2 =>
        if a2 = (i3 0) then
          (hD d 68 24 [.ref 1, .int v1, .ref r2, .ref r3, .int (v4 + (i3 1)), .int (v5 + (i3 1))] 342 R x2 G2 L2)
        else (hD d 68 24 [.ref 1, .int v1, .ref r2, .ref r3, .int v4, .int (v5 + (i3 1))] 342 R x2 G2 L2)) oX))))
  else (oI v4 x G L) := hD_eq.trans rfl
set_option maxRecDepth 20000 in
theorem h_68_24 {d x : Nat} {V : pV} {G : sm_G} {L : sm_L} {r2 r3 : Nat} {v1 v4 v5 : Int32} (hr3 : pN r3) : hD d 68 24 [.ref 1, .int v1, .ref r2, .ref r3, .int v4, .int v5] 342 (RR V) x G L =
  if v5 < (i3 301) then
    (ldi r2 v5 G (fun y1 => if ((shr y1 v1) &&& (i3 1)) = (i3 0) then
      (hD d 68 24 [.ref 1, .int v1, .ref r2, .ref r3, .int v4, .int (v5 + (i3 1))] 342 (RR V) x G L)
    else (sm_aI (sm_cv0 d 101 342 (RR V) [.ref r3, .ref V.1, .int v1, .int v5] (x, G, L)) (fun a2 x2 G2 L2 =>
        if a2 = (i3 0) then
          (hD d 68 24 [.ref 1, .int v1, .ref r2, .ref r3, .int (v4 + (i3 1)), .int (v5 + (i3 1))] 342 (RR V) x2 G2 L2)
        else (hD d 68 24 [.ref 1, .int v1, .ref r2, .ref r3, .int v4, .int (v5 + (i3 1))] 342 (RR V) x2 G2 L2)) oX)))
  else (oI v4 x G L) := by
  rw [rh_68_24]
  try simp only [gd_tt, (kN_0 hr3), (q_1_10 V), k_1]
/-! S_crowd -/
set_option maxRecDepth 20000 in
theorem rm_69 {d x : Nat} {R : sm_R} {G : sm_G} {L : sm_L} {v1 : Int32} : sm_cv0 (d + 1) 69 342 R [.ref 1, .int v1] (x, G, L) =
  sm_aV (sm_cv0 d 33 342 R [.ref 1, .int v1, .int (i3 1)] (x, G, L)) (fun x1 G1 L1 =>
    sm_aR (sm_cv0 d 14 342 R [.ref 1] (x1, G1, L1)) (fun p2 x2 G2 L2 =>
      hD d 69 16 [.ref 1, .int v1, .ref p2, .int (i3 0), .int m1, .null, .null, .null] 342 R x2 G2 L2) oX) oX := (cv_eq rfl rfl).trans (hD_eq.trans rfl)
set_option maxRecDepth 20000 in
theorem m_69 {d x : Nat} {V : pV} {G : sm_G} {L : sm_L} {v1 : Int32} : sm_cv0 (d + 1) 69 342 (RR V) [.ref 1, .int v1] (x, G, L) =
  sm_aV (sm_cv0 d 33 342 (RR V) [.ref 1, .int v1, .int (i3 1)] (x, G, L)) (fun x1 G1 L1 =>
    sm_aR (sm_cv0 d 14 342 (RR V) [.ref 1] (x1, G1, L1)) (fun p2 x2 G2 L2 =>
      hD d 69 16 [.ref 1, .int v1, .ref p2, .int (i3 0), .int m1, .null, .null, .null] 342 (RR V) x2 G2 L2) oX) oX := by
  rw [rm_69]
  try simp only [gd_tt, k_1]
set_option maxRecDepth 20000 in
theorem rh_69_16 {d x : Nat} {R : sm_R} {G : sm_G} {L : sm_L} {r2 : Nat} {v1 v3 v4 : Int32} : hD d 69 16 [.ref 1, .int v1, .ref r2, .int v3, .int v4, .null, .null, .null] 342 R x G L =
  hD d 69 19 [.ref 1, .int v1, .ref r2, .int v3, .int v4, .int (i3 0), .null, .null] 342 R x G L := hD_eq.trans rfl
theorem h_69_16 {d x : Nat} {V : pV} {G : sm_G} {L : sm_L} {r2 : Nat} {v1 v3 v4 : Int32} (hr2 : pN r2) : hD d 69 16 [.ref 1, .int v1, .ref r2, .int v3, .int v4, .null, .null, .null] 342 (RR V) x G L =
  hD d 69 19 [.ref 1, .int v1, .ref r2, .int v3, .int v4, .int (i3 0), .null, .null] 342 (RR V) x G L := rh_69_16
set_option maxRecDepth 20000 in
theorem rh_69_19 {d x : Nat} {R : sm_R} {G : sm_G} {L : sm_L} {r2 : Nat} {v1 v3 v4 v5 : Int32} : hD d 69 19 [.ref 1, .int v1, .ref r2, .int v3, .int v4, .int v5, .null, .null] 342 R x G L =
  if v5 < (i3 301) then
    (hD d 69 30 [.ref 1, .int v1, .ref r2, .int v3, .int v4, .int v5, .int (i3 0), .null] 342 R x G L)
  else (if v1 = (i3 0) then
      (oI v3 x G L)
    else (oI v4 x G L)) := hD_eq.trans rfl
theorem h_69_19 {d x : Nat} {V : pV} {G : sm_G} {L : sm_L} {r2 : Nat} {v1 v3 v4 v5 : Int32} (hr2 : pN r2) : hD d 69 19 [.ref 1, .int v1, .ref r2, .int v3, .int v4, .int v5, .null, .null] 342 (RR V) x G L =
  if v5 < (i3 301) then
    (hD d 69 30 [.ref 1, .int v1, .ref r2, .int v3, .int v4, .int v5, .int (i3 0), .null] 342 (RR V) x G L)
  else (if v1 = (i3 0) then
      (oI v3 x G L)
    else (oI v4 x G L)) := rh_69_19
set_option maxRecDepth 20000 in
theorem rh_69_30 {d x : Nat} {R : sm_R} {G : sm_G} {L : sm_L} {r2 : Nat} {v1 v3 v4 v5 v6 : Int32} : hD d 69 30 [.ref 1, .int v1, .ref r2, .int v3, .int v4, .int v5, .int v6, .null] 342 R x G L =
  gd (sm_is (R 1 10) 342 5) (if v6 < (G (R 1 10) 9) then
    (gd (sm_is r2 342 2) (sm_aI (sm_cv0 d 101 342 R [.ref r2, .ref (R 1 10), .int v6, .int v5] (x, G, L)) (fun a1 x1 G1 L1 =>
      if a1 ≤ v3 then
        (hD d 69 69 [.ref 1, .int v1, .ref r2, .int v3, .int v4, .int v5, .int v6, .null] 342 R x1 G1 L1)
      else (hD d 69 69 [.ref 1, .int v1, .ref r2, .int a1, .int v5, .int v5, .int v6, .null] 342 R x1 G1 L1)) oX))
  else (hD d 69 19 [.ref 1, .int v1, .ref r2, .int v3, .int v4, .int (v5 + (i3 1)), .null, .null] 342 R x G L)) := hD_eq.trans rfl
set_option maxRecDepth 20000 in
theorem h_69_30 {d x : Nat} {V : pV} {G : sm_G} {L : sm_L} {r2 : Nat} {v1 v3 v4 v5 v6 : Int32} (hV : okV V) (hr2 : pN r2) : hD d 69 30 [.ref 1, .int v1, .ref r2, .int v3, .int v4, .int v5, .int v6, .null] 342 (RR V) x G L =
  if v6 < (G V.1 9) then
    (sm_aI (sm_cv0 d 101 342 (RR V) [.ref r2, .ref V.1, .int v6, .int v5] (x, G, L)) (fun a1 x1 G1 L1 =>
      if a1 ≤ v3 then
        (hD d 69 69 [.ref 1, .int v1, .ref r2, .int v3, .int v4, .int v5, .int v6, .null] 342 (RR V) x1 G1 L1)
      else (hD d 69 69 [.ref 1, .int v1, .ref r2, .int a1, .int v5, .int v5, .int v6, .null] 342 (RR V) x1 G1 L1)) oX)
  else (hD d 69 19 [.ref 1, .int v1, .ref r2, .int v3, .int v4, .int (v5 + (i3 1)), .null, .null] 342 (RR V) x G L) := by
  rw [rh_69_30]
  try simp only [gd_tt, (kN_0 hr2), (kS_0 hV.1), (q_1_10 V), k_1]
set_option maxRecDepth 20000 in
theorem rh_69_69 {d x : Nat} {R : sm_R} {G : sm_G} {L : sm_L} {r2 : Nat} {v1 v3 v4 v5 v6 : Int32} : hD d 69 69 [.ref 1, .int v1, .ref r2, .int v3, .int v4, .int v5, .int v6, .null] 342 R x G L =
  hD d 69 30 [.ref 1, .int v1, .ref r2, .int v3, .int v4, .int v5, .int (v6 + (i3 1)), .null] 342 R x G L := hD_eq.trans rfl
theorem h_69_69 {d x : Nat} {V : pV} {G : sm_G} {L : sm_L} {r2 : Nat} {v1 v3 v4 v5 v6 : Int32} (hr2 : pN r2) : hD d 69 69 [.ref 1, .int v1, .ref r2, .int v3, .int v4, .int v5, .int v6, .null] 342 (RR V) x G L =
  hD d 69 30 [.ref 1, .int v1, .ref r2, .int v3, .int v4, .int v5, .int (v6 + (i3 1)), .null] 342 (RR V) x G L := rh_69_69
/-! S_often -/
set_option maxRecDepth 20000 in
theorem rm_70 {d x : Nat} {R : sm_R} {G : sm_G} {L : sm_L} {v1 : Int32} : sm_cv0 (d + 1) 70 342 R [.ref 1, .int v1] (x, G, L) =
  gd (sm_is (R 1 10) 342 5) (sm_aV (sm_cv0 d 31 342 R [.ref 1, .int v1, .int (G (R 1 10) 10)] (x, G, L)) (fun x1 G1 L1 =>
    sm_aR (sm_cv0 d 15 342 R [.ref 1] (x1, G1, L1)) (fun p2 x2 G2 L2 =>
      gd (sm_is p2 342 1) (hD d 70 25 [.null, .int v1, .ref (R p2 2), .int (i3 0), .int (i3 0)] 342 R x2 G2 L2)) oX) oX) := (cv_eq rfl rfl).trans (hD_eq.trans rfl)
set_option maxRecDepth 20000 in
theorem m_70 {d x : Nat} {V : pV} {G : sm_G} {L : sm_L} {v1 : Int32} (hV : okV V) : sm_cv0 (d + 1) 70 342 (RR V) [.ref 1, .int v1] (x, G, L) =
  sm_aV (sm_cv0 d 31 342 (RR V) [.ref 1, .int v1, .int (G V.1 10)] (x, G, L)) (fun x1 G1 L1 =>
    sm_aR (sm_cv0 d 15 342 (RR V) [.ref 1] (x1, G1, L1)) (fun p2 x2 G2 L2 =>
      gd (sm_is p2 342 1) (hD d 70 25 [.null, .int v1, .ref (RR V p2 2), .int (i3 0), .int (i3 0)] 342 (RR V) x2 G2 L2)) oX) oX := by
  rw [rm_70]
  try simp only [gd_tt, (kS_0 hV.1), (q_1_10 V), k_1]
set_option maxRecDepth 20000 in
theorem rh_70_25 {d x : Nat} {R : sm_R} {G : sm_G} {L : sm_L} {r2 : Nat} {v1 v3 v4 : Int32} : hD d 70 25 [.null, .int v1, .ref r2, .int v3, .int v4] 342 R x G L =
  if v4 < (i3 301) then
    (ldi r2 v4 G (fun y1 => hD d 70 25 [.null, .int v1, .ref r2, .int (v3 + ((shr y1 v1) &&& (i3 1))), .int (v4 + (i3 1))] 342 R x G L))
  else (oI v3 x G L) := hD_eq.trans rfl
theorem h_70_25 {d x : Nat} {V : pV} {G : sm_G} {L : sm_L} {r2 : Nat} {v1 v3 v4 : Int32} : hD d 70 25 [.null, .int v1, .ref r2, .int v3, .int v4] 342 (RR V) x G L =
  if v4 < (i3 301) then
    (ldi r2 v4 G (fun y1 => hD d 70 25 [.null, .int v1, .ref r2, .int (v3 + ((shr y1 v1) &&& (i3 1))), .int (v4 + (i3 1))] 342 (RR V) x G L))
  else (oI v3 x G L) := rh_70_25
/-! S_stranded -/
set_option maxRecDepth 20000 in
theorem rm_71 {d x : Nat} {R : sm_R} {G : sm_G} {L : sm_L} {v1 : Int32} : sm_cv0 (d + 1) 71 342 R [.ref 1, .int v1] (x, G, L) =
  sm_aV (sm_cv0 d 38 342 R [.ref 1, .int v1] (x, G, L)) (fun x1 G1 L1 =>
    sm_aR (sm_cv0 d 15 342 R [.ref 1] (x1, G1, L1)) (fun p2 x2 G2 L2 =>
      gd (sm_is (R 1 5) 342 9) (sm_aI (sm_cv0 d 168 342 R [.ref (R 1 5), .ref (R 1 10), .ref p2, .int v1] (x2, G2, L2)) (fun a3 x3 G3 L3 =>
        oI a3 x3 G3 L3) oX)) oX) oX := (cv_eq rfl rfl).trans (hD_eq.trans rfl)
set_option maxRecDepth 20000 in
theorem m_71 {d x : Nat} {V : pV} {G : sm_G} {L : sm_L} {v1 : Int32} : sm_cv0 (d + 1) 71 342 (RR V) [.ref 1, .int v1] (x, G, L) =
  sm_aV (sm_cv0 d 38 342 (RR V) [.ref 1, .int v1] (x, G, L)) (fun x1 G1 L1 =>
    sm_aR (sm_cv0 d 15 342 (RR V) [.ref 1] (x1, G1, L1)) (fun p2 x2 G2 L2 =>
      sm_aI (sm_cv0 d 168 342 (RR V) [.ref 61, .ref V.1, .ref p2, .int v1] (x2, G2, L2)) (fun a3 x3 G3 L3 =>
        oI a3 x3 G3 L3) oX) oX) oX := by
  rw [rm_71]
  try simp only [gd_tt, (q_1_10 V), (q_1_5 V), k_1, k_61]
/-! S_make -/
set_option maxRecDepth 20000 in
theorem rm_72 {d x : Nat} {R : sm_R} {G : sm_G} {L : sm_L} {v1 v2 : Int32} : sm_cv0 (d + 1) 72 342 R [.ref 1, .int v1, .int v2] (x, G, L) =
  sm_aI (sm_cv0 d 39 342 R [.int v1] (x, G, L)) (fun a1 x1 G1 L1 =>
    if a1 = (i3 0) then
      (sm_aV (sm_cv0 d 29 342 R [.ref 1, .int (i3 0)] (x1, G1, L1)) (fun x2 G2 L2 =>
        hD d 72 26 [.ref 1, .int v1, .int v2] 342 R x2 G2 L2) oX)
    else (if v2 < (i3 0) then
        (sm_aV (sm_cv0 d 29 342 R [.ref 1, .int (i3 0)] (x1, G1, L1)) (fun x3 G3 L3 =>
          hD d 72 26 [.ref 1, .int v1, .int v2] 342 R x3 G3 L3) oX)
      else (if v2 < (i3 6) then
          (sm_aV (sm_cv0 d 29 342 R [.ref 1, .int (i3 1)] (x1, G1, L1)) (fun x4 G4 L4 =>
            hD d 72 26 [.ref 1, .int v1, .int v2] 342 R x4 G4 L4) oX)
        else (sm_aV (sm_cv0 d 29 342 R [.ref 1, .int (i3 0)] (x1, G1, L1)) (fun x5 G5 L5 =>
            hD d 72 26 [.ref 1, .int v1, .int v2] 342 R x5 G5 L5) oX)))) oX := (cv_eq rfl rfl).trans (hD_eq.trans rfl)
set_option maxRecDepth 20000 in
theorem m_72 {d x : Nat} {V : pV} {G : sm_G} {L : sm_L} {v1 v2 : Int32} : sm_cv0 (d + 1) 72 342 (RR V) [.ref 1, .int v1, .int v2] (x, G, L) =
  sm_aI (sm_cv0 d 39 342 (RR V) [.int v1] (x, G, L)) (fun a1 x1 G1 L1 =>
    if a1 = (i3 0) then
      (sm_aV (sm_cv0 d 29 342 (RR V) [.ref 1, .int (i3 0)] (x1, G1, L1)) (fun x2 G2 L2 =>
        hD d 72 26 [.ref 1, .int v1, .int v2] 342 (RR V) x2 G2 L2) oX)
    else (if v2 < (i3 0) then
        (sm_aV (sm_cv0 d 29 342 (RR V) [.ref 1, .int (i3 0)] (x1, G1, L1)) (fun x3 G3 L3 =>
          hD d 72 26 [.ref 1, .int v1, .int v2] 342 (RR V) x3 G3 L3) oX)
      else (if v2 < (i3 6) then
          (sm_aV (sm_cv0 d 29 342 (RR V) [.ref 1, .int (i3 1)] (x1, G1, L1)) (fun x4 G4 L4 =>
            hD d 72 26 [.ref 1, .int v1, .int v2] 342 (RR V) x4 G4 L4) oX)
        else (sm_aV (sm_cv0 d 29 342 (RR V) [.ref 1, .int (i3 0)] (x1, G1, L1)) (fun x5 G5 L5 =>
            hD d 72 26 [.ref 1, .int v1, .int v2] 342 (RR V) x5 G5 L5) oX)))) oX := by
  rw [rm_72]
  try simp only [gd_tt, k_1]
set_option maxRecDepth 20000 in
theorem rh_72_26 {d x : Nat} {R : sm_R} {G : sm_G} {L : sm_L} {v1 v2 : Int32} : hD d 72 26 [.ref 1, .int v1, .int v2] 342 R x G L =
  gd (sm_is (R 1 10) 342 5) (gd (sm_is (R (R 1 10) 0) 342 3) (sm_aI (sm_cv0 d 110 342 R [.ref (R (R 1 10) 0), .int v1, .int v2] (x, G, L)) (fun a1 x1 G1 L1 =>
    if a1 = (i3 0) then
      (oI m1 x1 G1 L1)
    else (sm_aV (sm_cv0 d 23 342 R [.ref 1] (x1, G1, L1)) (fun x2 G2 L2 =>
        gd (sm_is (R 1 10) 342 5) (gd (sm_is (R (R 1 10) 0) 342 3) (oI (G2 (R (R 1 10) 0) 8) x2 G2 L2))) oX)) oX)) := hD_eq.trans rfl
set_option maxRecDepth 20000 in
theorem h_72_26 {d x : Nat} {V : pV} {G : sm_G} {L : sm_L} {v1 v2 : Int32} (hV : okV V) : hD d 72 26 [.ref 1, .int v1, .int v2] 342 (RR V) x G L =
  sm_aI (sm_cv0 d 110 342 (RR V) [.ref (V.1 + 1), .int v1, .int v2] (x, G, L)) (fun a1 x1 G1 L1 =>
    if a1 = (i3 0) then
      (oI m1 x1 G1 L1)
    else (sm_aV (sm_cv0 d 23 342 (RR V) [.ref 1] (x1, G1, L1)) (fun x2 G2 L2 =>
        oI (G2 (V.1 + 1) 8) x2 G2 L2) oX)) oX := by
  rw [rh_72_26]
  try simp only [gd_tt, (fS_0_0 V hV.1), (kS_0 hV.1), (kS_1 hV.1), (q_1_10 V), k_1]
/-! S_sleep -/
set_option maxRecDepth 20000 in
theorem rm_73 {d x : Nat} {R : sm_R} {G : sm_G} {L : sm_L} {v1 v2 v3 : Int32} : sm_cv0 (d + 1) 73 342 R [.ref 1, .int v1, .int v2, .int v3] (x, G, L) =
  gd (sm_is (R 1 10) 342 5) (sm_aV (sm_cv0 d 31 342 R [.ref 1, .int v1, .int (G (R 1 10) 9)] (x, G, L)) (fun x1 G1 L1 =>
    sm_aI (sm_cv0 d 39 342 R [.int v2] (x1, G1, L1)) (fun a2 x2 G2 L2 =>
      if a2 = (i3 0) then
        (sm_aV (sm_cv0 d 29 342 R [.ref 1, .int (i3 0)] (x2, G2, L2)) (fun x3 G3 L3 =>
          hD d 73 40 [.ref 1, .int v1, .int v2, .int v3] 342 R x3 G3 L3) oX)
      else (sm_aI (sm_cv0 d 39 342 R [.int v3] (x2, G2, L2)) (fun a4 x4 G4 L4 =>
          if a4 = (i3 0) then
            (sm_aV (sm_cv0 d 29 342 R [.ref 1, .int (i3 0)] (x4, G4, L4)) (fun x5 G5 L5 =>
              hD d 73 40 [.ref 1, .int v1, .int v2, .int v3] 342 R x5 G5 L5) oX)
          else (if v2 ≤ v3 then
              (sm_aV (sm_cv0 d 29 342 R [.ref 1, .int (i3 1)] (x4, G4, L4)) (fun x6 G6 L6 =>
                hD d 73 40 [.ref 1, .int v1, .int v2, .int v3] 342 R x6 G6 L6) oX)
            else (sm_aV (sm_cv0 d 29 342 R [.ref 1, .int (i3 0)] (x4, G4, L4)) (fun x7 G7 L7 =>
                hD d 73 40 [.ref 1, .int v1, .int v2, .int v3] 342 R x7 G7 L7) oX))) oX)) oX) oX) := (cv_eq rfl rfl).trans (hD_eq.trans rfl)
set_option maxRecDepth 20000 in
theorem m_73 {d x : Nat} {V : pV} {G : sm_G} {L : sm_L} {v1 v2 v3 : Int32} (hV : okV V) : sm_cv0 (d + 1) 73 342 (RR V) [.ref 1, .int v1, .int v2, .int v3] (x, G, L) =
  sm_aV (sm_cv0 d 31 342 (RR V) [.ref 1, .int v1, .int (G V.1 9)] (x, G, L)) (fun x1 G1 L1 =>
    sm_aI (sm_cv0 d 39 342 (RR V) [.int v2] (x1, G1, L1)) (fun a2 x2 G2 L2 =>
      if a2 = (i3 0) then
        (sm_aV (sm_cv0 d 29 342 (RR V) [.ref 1, .int (i3 0)] (x2, G2, L2)) (fun x3 G3 L3 =>
          hD d 73 40 [.ref 1, .int v1, .int v2, .int v3] 342 (RR V) x3 G3 L3) oX)
      else (sm_aI (sm_cv0 d 39 342 (RR V) [.int v3] (x2, G2, L2)) (fun a4 x4 G4 L4 =>
          if a4 = (i3 0) then
            (sm_aV (sm_cv0 d 29 342 (RR V) [.ref 1, .int (i3 0)] (x4, G4, L4)) (fun x5 G5 L5 =>
              hD d 73 40 [.ref 1, .int v1, .int v2, .int v3] 342 (RR V) x5 G5 L5) oX)
          else (if v2 ≤ v3 then
              (sm_aV (sm_cv0 d 29 342 (RR V) [.ref 1, .int (i3 1)] (x4, G4, L4)) (fun x6 G6 L6 =>
                hD d 73 40 [.ref 1, .int v1, .int v2, .int v3] 342 (RR V) x6 G6 L6) oX)
            else (sm_aV (sm_cv0 d 29 342 (RR V) [.ref 1, .int (i3 0)] (x4, G4, L4)) (fun x7 G7 L7 =>
                hD d 73 40 [.ref 1, .int v1, .int v2, .int v3] 342 (RR V) x7 G7 L7) oX))) oX)) oX) oX := by
  rw [rm_73]
  try simp only [gd_tt, (kS_0 hV.1), (q_1_10 V), k_1]
set_option maxRecDepth 20000 in
theorem rh_73_40 {d x : Nat} {R : sm_R} {G : sm_G} {L : sm_L} {v1 v2 v3 : Int32} : hD d 73 40 [.ref 1, .int v1, .int v2, .int v3] 342 R x G L =
  gd (sm_is (R 1 10) 342 5) (gd (sm_is (R (R 1 10) 0) 342 3) (sm_aI (sm_cv0 d 111 342 R [.ref (R (R 1 10) 0), .int v1, .int v2, .int v3] (x, G, L)) (fun a1 x1 G1 L1 =>
    if a1 = (i3 0) then
      (oI (i3 0) x1 G1 L1)
    else (sm_aV (sm_cv0 d 23 342 R [.ref 1] (x1, G1, L1)) (fun x2 G2 L2 =>
        oI (i3 1) x2 G2 L2) oX)) oX)) := hD_eq.trans rfl
set_option maxRecDepth 20000 in
theorem h_73_40 {d x : Nat} {V : pV} {G : sm_G} {L : sm_L} {v1 v2 v3 : Int32} (hV : okV V) : hD d 73 40 [.ref 1, .int v1, .int v2, .int v3] 342 (RR V) x G L =
  sm_aI (sm_cv0 d 111 342 (RR V) [.ref (V.1 + 1), .int v1, .int v2, .int v3] (x, G, L)) (fun a1 x1 G1 L1 =>
    if a1 = (i3 0) then
      (oI (i3 0) x1 G1 L1)
    else (sm_aV (sm_cv0 d 23 342 (RR V) [.ref 1] (x1, G1, L1)) (fun x2 G2 L2 =>
        oI (i3 1) x2 G2 L2) oX)) oX := by
  rw [rh_73_40]
  try simp only [gd_tt, (fS_0_0 V hV.1), (kS_0 hV.1), (kS_1 hV.1), (q_1_10 V), k_1]
/-! Book_isRightOf -/
set_option maxRecDepth 20000 in
theorem rm_74 {d x : Nat} {R : sm_R} {G : sm_G} {L : sm_L} {r0 r2 : Nat} {v1 : Int32} : sm_cv0 (d + 1) 74 342 R [.ref r0, .int v1, .ref r2] (x, G, L) =
  hD d 74 5 [.ref r0, .int v1, .ref r2, .int (i3 1), .int (i3 0)] 342 R x G L := (cv_eq rfl rfl).trans (hD_eq.trans rfl)
theorem m_74 {d x : Nat} {V : pV} {G : sm_G} {L : sm_L} {r0 r2 : Nat} {v1 : Int32} (hr0 : pB r0) : sm_cv0 (d + 1) 74 342 (RR V) [.ref r0, .int v1, .ref r2] (x, G, L) =
  hD d 74 5 [.ref r0, .int v1, .ref r2, .int (i3 1), .int (i3 0)] 342 (RR V) x G L := rm_74
set_option maxRecDepth 20000 in
theorem rh_74_5 {d x : Nat} {R : sm_R} {G : sm_G} {L : sm_L} {r0 r2 : Nat} {v1 v3 v4 : Int32} : hD d 74 5 [.ref r0, .int v1, .ref r2, .int v3, .int v4] 342 R x G L =
  gd (sm_is r0 342 0) (if v4 < (G r0 2) then
    (if v3 = (i3 0) then
      (hD d 74 5 [.ref r0, .int v1, .ref r2, .int (i3 0), .int (v4 + (i3 1))] 342 R x G L)
    else (gd (sm_is r0 342 0) (ldi (R r0 0) v4 G (fun y1 => ldi r2 y1 G (fun y2 => gd (sm_is r0 342 0) (ldi (R r0 1) v4 G (fun y3 => if ((shr y2 v1) &&& (i3 1)) = y3 then
        (hD d 74 5 [.ref r0, .int v1, .ref r2, .int (i3 1), .int (v4 + (i3 1))] 342 R x G L)
      else (hD d 74 5 [.ref r0, .int v1, .ref r2, .int (i3 0), .int (v4 + (i3 1))] 342 R x G L))))))))
  else (zd v3 (oI v3 x G L))) := hD_eq.trans rfl
set_option maxRecDepth 20000 in
theorem h_74_5 {d x : Nat} {V : pV} {G : sm_G} {L : sm_L} {r0 r2 : Nat} {v1 v3 v4 : Int32} (hr0 : pB r0) : hD d 74 5 [.ref r0, .int v1, .ref r2, .int v3, .int v4] 342 (RR V) x G L =
  if v4 < (G r0 2) then
    (if v3 = (i3 0) then
      (hD d 74 5 [.ref r0, .int v1, .ref r2, .int (i3 0), .int (v4 + (i3 1))] 342 (RR V) x G L)
    else (gd (sm_in v4 12) (ldi r2 (G (r0 + 1) v4.toNatClampNeg) G (fun y2 => gd (sm_in v4 12) (if ((shr y2 v1) &&& (i3 1)) = (G (r0 + 2) v4.toNatClampNeg) then
        (hD d 74 5 [.ref r0, .int v1, .ref r2, .int (i3 1), .int (v4 + (i3 1))] 342 (RR V) x G L)
      else (hD d 74 5 [.ref r0, .int v1, .ref r2, .int (i3 0), .int (v4 + (i3 1))] 342 (RR V) x G L))))))
  else (zd v3 (oI v3 x G L)) := by
  rw [rh_74_5]
  try simp only [gd_tt, (fB_0_0 V hr0), (fB_0_1 V hr0), (kB_0 hr0), (nB_1 hr0), (nB_2 hr0), ldi_e (kB_1 hr0) (nB_1 hr0), ldi_e (kB_2 hr0) (nB_2 hr0)]
/-! Book_clear -/
set_option maxRecDepth 20000 in
theorem rm_75 {d x : Nat} {R : sm_R} {G : sm_G} {L : sm_L} {r0 : Nat} : sm_cv0 (d + 1) 75 342 R [.ref r0] (x, G, L) =
  gd (sm_is r0 342 0) (oV x (sm_up G r0 2 (i3 0)) L) := (cv_eq rfl rfl).trans (hD_eq.trans rfl)
set_option maxRecDepth 20000 in
theorem m_75 {d x : Nat} {V : pV} {G : sm_G} {L : sm_L} {r0 : Nat} (hr0 : pB r0) : sm_cv0 (d + 1) 75 342 (RR V) [.ref r0] (x, G, L) =
  oV x (sm_up G r0 2 (i3 0)) L := by
  rw [rm_75]
  try simp only [gd_tt, (kB_0 hr0)]
/-! Book_read -/
set_option maxRecDepth 20000 in
theorem rm_76 {d x : Nat} {R : sm_R} {G : sm_G} {L : sm_L} {r0 : Nat} : sm_cv0 (d + 1) 76 342 R [.ref r0, .ref 2] (x, G, L) =
  gd (sm_is r0 342 0) (sm_aV (sm_cv0 d 75 342 R [.ref r0] (x, G, L)) (fun x1 G1 L1 =>
    hD d 76 6 [.ref r0, .ref 2, .int (i3 0)] 342 R x1 G1 L1) oX) := (cv_eq rfl rfl).trans (hD_eq.trans rfl)
set_option maxRecDepth 20000 in
theorem m_76 {d x : Nat} {V : pV} {G : sm_G} {L : sm_L} {r0 : Nat} (hr0 : pB r0) : sm_cv0 (d + 1) 76 342 (RR V) [.ref r0, .ref 2] (x, G, L) =
  sm_aV (sm_cv0 d 75 342 (RR V) [.ref r0] (x, G, L)) (fun x1 G1 L1 =>
    hD d 76 6 [.ref r0, .ref 2, .int (i3 0)] 342 (RR V) x1 G1 L1) oX := by
  rw [rm_76]
  try simp only [gd_tt, (kB_0 hr0)]
set_option maxRecDepth 20000 in
theorem rh_76_6 {d x : Nat} {R : sm_R} {G : sm_G} {L : sm_L} {r0 : Nat} {v2 : Int32} : hD d 76 6 [.ref r0, .ref 2, .int v2] 342 R x G L =
  if v2 ≤ (i3 12) then
    (sm_aI (sm_cv0 d 135 342 R [.ref 2] (x, G, L)) (fun a1 x1 G1 L1 =>
      if a1 = (i3 0) then
        (sm_aI (sm_cv0 d 136 342 R [.ref 2] (x1, G1, L1)) (fun a2 x2 G2 L2 =>
          if a2 = (i3 0) then
            (gd (sm_is r0 342 0) (sm_aV (sm_cv0 d 77 342 R [.ref r0, .ref 2] (x2, G2, L2)) (fun x3 G3 L3 =>
              hD d 76 6 [.ref r0, .ref 2, .int (v2 + (i3 1))] 342 R x3 G3 L3) oX))
          else (oV x2 G2 L2)) oX)
      else (oV x1 G1 L1)) oX)
  else (oV x G L) := hD_eq.trans rfl
set_option maxRecDepth 20000 in
theorem h_76_6 {d x : Nat} {V : pV} {G : sm_G} {L : sm_L} {r0 : Nat} {v2 : Int32} (hr0 : pB r0) : hD d 76 6 [.ref r0, .ref 2, .int v2] 342 (RR V) x G L =
  if v2 ≤ (i3 12) then
    (sm_aI (sm_cv0 d 135 342 (RR V) [.ref 2] (x, G, L)) (fun a1 x1 G1 L1 =>
      if a1 = (i3 0) then
        (sm_aI (sm_cv0 d 136 342 (RR V) [.ref 2] (x1, G1, L1)) (fun a2 x2 G2 L2 =>
          if a2 = (i3 0) then
            (sm_aV (sm_cv0 d 77 342 (RR V) [.ref r0, .ref 2] (x2, G2, L2)) (fun x3 G3 L3 =>
              hD d 76 6 [.ref r0, .ref 2, .int (v2 + (i3 1))] 342 (RR V) x3 G3 L3) oX)
          else (oV x2 G2 L2)) oX)
      else (oV x1 G1 L1)) oX)
  else (oV x G L) := by
  rw [rh_76_6]
  try simp only [gd_tt, (kB_0 hr0), k_2]
/-! Book_readLine -/
set_option maxRecDepth 20000 in
theorem rm_77 {d x : Nat} {R : sm_R} {G : sm_G} {L : sm_L} {r0 : Nat} : sm_cv0 (d + 1) 77 342 R [.ref r0, .ref 2] (x, G, L) =
  sm_aV (sm_cv0 d 138 342 R [.ref 2] (x, G, L)) (fun x1 G1 L1 =>
    sm_aI (sm_cv0 d 140 342 R [.ref 2, .ref 4114] (x1, G1, L1)) (fun a2 x2 G2 L2 =>
      if a2 = (i3 0) then
        (sm_aI (sm_cv0 d 140 342 R [.ref 2, .ref 4103] (x2, G2, L2)) (fun a3 x3 G3 L3 =>
          if a3 = (i3 0) then
            (sm_aV (sm_cv0 d 142 342 R [.ref 2, .int (i3 1)] (x3, G3, L3)) (fun x4 G4 L4 =>
              hD d 77 37 [.ref r0, .ref 2, .int (i3 0), .null] 342 R x4 G4 L4) oX)
          else (hD d 77 37 [.ref r0, .ref 2, .int (i3 0), .null] 342 R x3 G3 L3)) oX)
      else (hD d 77 37 [.ref r0, .ref 2, .int (i3 1), .null] 342 R x2 G2 L2)) oX) oX := (cv_eq rfl rfl).trans (hD_eq.trans rfl)
set_option maxRecDepth 20000 in
theorem m_77 {d x : Nat} {V : pV} {G : sm_G} {L : sm_L} {r0 : Nat} (hr0 : pB r0) : sm_cv0 (d + 1) 77 342 (RR V) [.ref r0, .ref 2] (x, G, L) =
  sm_aV (sm_cv0 d 138 342 (RR V) [.ref 2] (x, G, L)) (fun x1 G1 L1 =>
    sm_aI (sm_cv0 d 140 342 (RR V) [.ref 2, .ref 4114] (x1, G1, L1)) (fun a2 x2 G2 L2 =>
      if a2 = (i3 0) then
        (sm_aI (sm_cv0 d 140 342 (RR V) [.ref 2, .ref 4103] (x2, G2, L2)) (fun a3 x3 G3 L3 =>
          if a3 = (i3 0) then
            (sm_aV (sm_cv0 d 142 342 (RR V) [.ref 2, .int (i3 1)] (x3, G3, L3)) (fun x4 G4 L4 =>
              hD d 77 37 [.ref r0, .ref 2, .int (i3 0), .null] 342 (RR V) x4 G4 L4) oX)
          else (hD d 77 37 [.ref r0, .ref 2, .int (i3 0), .null] 342 (RR V) x3 G3 L3)) oX)
      else (hD d 77 37 [.ref r0, .ref 2, .int (i3 1), .null] 342 (RR V) x2 G2 L2)) oX) oX := by
  rw [rm_77]
  try simp only [gd_tt, k_2]
set_option maxRecDepth 20000 in
theorem rh_77_37 {d x : Nat} {R : sm_R} {G : sm_G} {L : sm_L} {r0 : Nat} {v2 : Int32} : hD d 77 37 [.ref r0, .ref 2, .int v2, .null] 342 R x G L =
  gd (sm_is r0 342 0) (if (G r0 2) < (i3 12) then
    (sm_aI (sm_cv0 d 141 342 R [.ref 2, .int (i3 1)] (x, G, L)) (fun a1 x1 G1 L1 =>
      if a1 = (i3 0) then
        (oV x1 G1 L1)
      else (hD d 77 59 [.ref r0, .ref 2, .int v2, .null] 342 R x1 G1 L1)) oX)
  else (sm_aI (sm_cv0 d 141 342 R [.ref 2, .int (i3 0)] (x, G, L)) (fun a2 x2 G2 L2 =>
      if a2 = (i3 0) then
        (oV x2 G2 L2)
      else (hD d 77 59 [.ref r0, .ref 2, .int v2, .null] 342 R x2 G2 L2)) oX)) := hD_eq.trans rfl
set_option maxRecDepth 20000 in
theorem h_77_37 {d x : Nat} {V : pV} {G : sm_G} {L : sm_L} {r0 : Nat} {v2 : Int32} (hr0 : pB r0) : hD d 77 37 [.ref r0, .ref 2, .int v2, .null] 342 (RR V) x G L =
  if (G r0 2) < (i3 12) then
    (sm_aI (sm_cv0 d 141 342 (RR V) [.ref 2, .int (i3 1)] (x, G, L)) (fun a1 x1 G1 L1 =>
      if a1 = (i3 0) then
        (oV x1 G1 L1)
      else (hD d 77 59 [.ref r0, .ref 2, .int v2, .null] 342 (RR V) x1 G1 L1)) oX)
  else (sm_aI (sm_cv0 d 141 342 (RR V) [.ref 2, .int (i3 0)] (x, G, L)) (fun a2 x2 G2 L2 =>
      if a2 = (i3 0) then
        (oV x2 G2 L2)
      else (hD d 77 59 [.ref r0, .ref 2, .int v2, .null] 342 (RR V) x2 G2 L2)) oX) := by
  rw [rh_77_37]
  try simp only [gd_tt, (kB_0 hr0), k_2]
set_option maxRecDepth 20000 in
theorem rh_77_59 {d x : Nat} {R : sm_R} {G : sm_G} {L : sm_L} {r0 : Nat} {v2 : Int32} : hD d 77 59 [.ref r0, .ref 2, .int v2, .null] 342 R x G L =
  sm_aI (sm_cv0 d 143 342 R [.ref 2, .int (i3 0), .int (i3 300)] (x, G, L)) (fun a1 x1 G1 L1 =>
    sm_aV (sm_cv0 d 145 342 R [.ref 2, .int (i3 59)] (x1, G1, L1)) (fun x2 G2 L2 =>
      sm_aI (sm_cv0 d 135 342 R [.ref 2] (x2, G2, L2)) (fun a3 x3 G3 L3 =>
        if a3 = (i3 0) then
          (gd (sm_is r0 342 0) (gd (sm_is r0 342 0) (gd (sm_is (R r0 0) 342 20) (gd (sm_in (G3 r0 2) (sm_N (R r0 0))) (gd (sm_is r0 342 0) (gd (sm_is r0 342 0) (gd (sm_is (R r0 1) 342 20) (gd (sm_in ((sm_up G3 (R r0 0) ((G3 r0 2).toNatClampNeg) a1) r0 2) (sm_N (R r0 1))) (gd (sm_is r0 342 0) (gd (sm_is r0 342 0) (oV x3 (sm_up (sm_up (sm_up G3 (R r0 0) ((G3 r0 2).toNatClampNeg) a1) (R r0 1) (((sm_up G3 (R r0 0) ((G3 r0 2).toNatClampNeg) a1) r0 2).toNatClampNeg) v2) r0 2 (((sm_up (sm_up G3 (R r0 0) ((G3 r0 2).toNatClampNeg) a1) (R r0 1) (((sm_up G3 (R r0 0) ((G3 r0 2).toNatClampNeg) a1) r0 2).toNatClampNeg) v2) r0 2) + (i3 1))) L3)))))))))))
        else (oV x3 G3 L3)) oX) oX) oX := hD_eq.trans rfl
set_option maxRecDepth 20000 in
theorem h_77_59 {d x : Nat} {V : pV} {G : sm_G} {L : sm_L} {r0 : Nat} {v2 : Int32} (hr0 : pB r0) : hD d 77 59 [.ref r0, .ref 2, .int v2, .null] 342 (RR V) x G L =
  sm_aI (sm_cv0 d 143 342 (RR V) [.ref 2, .int (i3 0), .int (i3 300)] (x, G, L)) (fun a1 x1 G1 L1 =>
    sm_aV (sm_cv0 d 145 342 (RR V) [.ref 2, .int (i3 59)] (x1, G1, L1)) (fun x2 G2 L2 =>
      sm_aI (sm_cv0 d 135 342 (RR V) [.ref 2] (x2, G2, L2)) (fun a3 x3 G3 L3 =>
        if a3 = (i3 0) then
          (gd (sm_in (G3 r0 2) 12) (gd (sm_in ((sm_up G3 (r0 + 1) ((G3 r0 2).toNatClampNeg) a1) r0 2) 12) (oV x3 (sm_up (sm_up (sm_up G3 (r0 + 1) ((G3 r0 2).toNatClampNeg) a1) (r0 + 2) (((sm_up G3 (r0 + 1) ((G3 r0 2).toNatClampNeg) a1) r0 2).toNatClampNeg) v2) r0 2 (((sm_up (sm_up G3 (r0 + 1) ((G3 r0 2).toNatClampNeg) a1) (r0 + 2) (((sm_up G3 (r0 + 1) ((G3 r0 2).toNatClampNeg) a1) r0 2).toNatClampNeg) v2) r0 2) + (i3 1))) L3)))
        else (oV x3 G3 L3)) oX) oX) oX := by
  rw [rh_77_59]
  try simp only [gd_tt, (fB_0_0 V hr0), (fB_0_1 V hr0), (kB_0 hr0), (kB_1 hr0), (kB_2 hr0), (nB_1 hr0), (nB_2 hr0), k_2]
/-! Hours_fill -/
set_option maxRecDepth 20000 in
theorem rm_78 {d x : Nat} {R : sm_R} {G : sm_G} {L : sm_L} {r1 : Nat} : sm_cv0 (d + 1) 78 342 R [.ref 54, .ref r1] (x, G, L) =
  gd (sm_is r1 342 5) (gd (sm_is (R r1 0) 342 3) (sm_aV (sm_cv0 d 6 342 R [.ref (R 54 0), .int (G (R r1 0) 9)] (x, G, L)) (fun x1 G1 L1 =>
    hD d 78 16 [.ref 54, .ref r1, .int (i3 0), .null] 342 R x1 G1 L1) oX)) := (cv_eq rfl rfl).trans (hD_eq.trans rfl)
set_option maxRecDepth 20000 in
theorem m_78 {d x : Nat} {V : pV} {G : sm_G} {L : sm_L} {r1 : Nat} (hr1 : pS r1) : sm_cv0 (d + 1) 78 342 (RR V) [.ref 54, .ref r1] (x, G, L) =
  sm_aV (sm_cv0 d 6 342 (RR V) [.ref 55, .int (G (r1 + 1) 9)] (x, G, L)) (fun x1 G1 L1 =>
    hD d 78 16 [.ref 54, .ref r1, .int (i3 0), .null] 342 (RR V) x1 G1 L1) oX := by
  rw [rm_78]
  try simp only [gd_tt, (fS_0_0 V hr1), (kS_0 hr1), (kS_1 hr1), (q_54_0 V), k_54]
set_option maxRecDepth 20000 in
theorem rh_78_16 {d x : Nat} {R : sm_R} {G : sm_G} {L : sm_L} {r1 : Nat} {v2 : Int32} : hD d 78 16 [.ref 54, .ref r1, .int v2, .null] 342 R x G L =
  gd (sm_is r1 342 5) (if v2 < (G r1 9) then
    (gd (sm_is r1 342 5) (if (G r1 14) < (i3 0) then
      (gd (sm_is r1 342 5) (gd (sm_is (R r1 0) 342 3) (ldi (R (R r1 0) 3) v2 G (fun y1 => gd (sm_is (R 54 4) 342 20) (gd (sm_in v2 (sm_N (R 54 4))) (gd (sm_is r1 342 5) (gd (sm_is (R r1 0) 342 3) (ldi (R (R r1 0) 2) v2 (sm_up G (R 54 4) v2.toNatClampNeg y1) (fun y2 => hD d 78 77 [.ref 54, .ref r1, .int v2, .int y2] 342 R x (sm_up G (R 54 4) v2.toNatClampNeg y1) L)))))))))
    else (gd (sm_is r1 342 5) (gd (sm_is (R r1 0) 342 3) (ldi (R (R r1 0) 3) v2 G (fun y3 => gd (sm_is r1 342 5) (sm_aI (sm_cv0 d 4 342 R [.int y3, .int ((G r1 14) + v2)] (x, G, L)) (fun a4 x4 G4 L4 =>
        gd (sm_is (R 54 4) 342 20) (gd (sm_in v2 (sm_N (R 54 4))) (gd (sm_is r1 342 5) (gd (sm_is (R r1 0) 342 3) (ldi (R (R r1 0) 2) v2 (sm_up G4 (R 54 4) v2.toNatClampNeg a4) (fun y5 => hD d 78 77 [.ref 54, .ref r1, .int v2, .int y5] 342 R x4 (sm_up G4 (R 54 4) v2.toNatClampNeg a4) L4)))))) oX)))))))
  else (hD d 78 120 [.ref 54, .ref r1, .int (i3 0), .null] 342 R x G L)) := hD_eq.trans rfl
set_option maxRecDepth 20000 in
theorem h_78_16 {d x : Nat} {V : pV} {G : sm_G} {L : sm_L} {r1 : Nat} {v2 : Int32} (hr1 : pS r1) : hD d 78 16 [.ref 54, .ref r1, .int v2, .null] 342 (RR V) x G L =
  if v2 < (G r1 9) then
    (if (G r1 14) < (i3 0) then
      (gd (sm_in v2 8) (gd (sm_in v2 8) (gd (sm_in v2 8) (hD d 78 77 [.ref 54, .ref r1, .int v2, .int ((sm_up G 59 v2.toNatClampNeg (G (r1 + 5) v2.toNatClampNeg)) (r1 + 4) v2.toNatClampNeg)] 342 (RR V) x (sm_up G 59 v2.toNatClampNeg (G (r1 + 5) v2.toNatClampNeg)) L))))
    else (gd (sm_in v2 8) (sm_aI (sm_cv0 d 4 342 (RR V) [.int (G (r1 + 5) v2.toNatClampNeg), .int ((G r1 14) + v2)] (x, G, L)) (fun a4 x4 G4 L4 =>
        gd (sm_in v2 8) (gd (sm_in v2 8) (hD d 78 77 [.ref 54, .ref r1, .int v2, .int ((sm_up G4 59 v2.toNatClampNeg a4) (r1 + 4) v2.toNatClampNeg)] 342 (RR V) x4 (sm_up G4 59 v2.toNatClampNeg a4) L4))) oX)))
  else (hD d 78 120 [.ref 54, .ref r1, .int (i3 0), .null] 342 (RR V) x G L) := by
  rw [rh_78_16]
  try simp only [gd_tt, (fS_0_0 V hr1), (fS_1_2 V hr1), (fS_1_3 V hr1), (kS_0 hr1), (kS_1 hr1), (nS_4 hr1), (nS_5 hr1), (q_54_4 V), k_54, k_59, ldi_e (kS_4 hr1) (nS_4 hr1), ldi_e (kS_5 hr1) (nS_5 hr1), n_59]
set_option maxRecDepth 20000 in
theorem rh_78_77 {d x : Nat} {R : sm_R} {G : sm_G} {L : sm_L} {r1 : Nat} {v2 v3 : Int32} : hD d 78 77 [.ref 54, .ref r1, .int v2, .int v3] 342 R x G L =
  ldi (R 54 4) v2 G (fun y1 => if v3 < y1 then
    (if v3 < (i3 301) then
      (ldi (R 54 0) v3 G (fun y2 => gd (sm_is (R 54 0) 342 20) (gd (sm_in v3 (sm_N (R 54 0))) (hD d 78 77 [.ref 54, .ref r1, .int v2, .int (v3 + (i3 1))] 342 R x (sm_up G (R 54 0) v3.toNatClampNeg (y2 ||| (shl (i3 1) v2))) L))))
    else (hD d 78 16 [.ref 54, .ref r1, .int (v2 + (i3 1)), .null] 342 R x G L))
  else (hD d 78 16 [.ref 54, .ref r1, .int (v2 + (i3 1)), .null] 342 R x G L)) := hD_eq.trans rfl
set_option maxRecDepth 20000 in
theorem h_78_77 {d x : Nat} {V : pV} {G : sm_G} {L : sm_L} {r1 : Nat} {v2 v3 : Int32} (hr1 : pS r1) : hD d 78 77 [.ref 54, .ref r1, .int v2, .int v3] 342 (RR V) x G L =
  gd (sm_in v2 8) (if v3 < (G 59 v2.toNatClampNeg) then
    (if v3 < (i3 301) then
      (gd (sm_in v3 301) (gd (sm_in v3 301) (hD d 78 77 [.ref 54, .ref r1, .int v2, .int (v3 + (i3 1))] 342 (RR V) x (sm_up G 55 v3.toNatClampNeg ((G 55 v3.toNatClampNeg) ||| (shl (i3 1) v2))) L)))
    else (hD d 78 16 [.ref 54, .ref r1, .int (v2 + (i3 1)), .null] 342 (RR V) x G L))
  else (hD d 78 16 [.ref 54, .ref r1, .int (v2 + (i3 1)), .null] 342 (RR V) x G L)) := by
  rw [rh_78_77]
  try simp only [gd_tt, (q_54_0 V), (q_54_4 V), k_54, k_55, ldi_e k_55 n_55, ldi_e k_59 n_59, n_55, n_59]
set_option maxRecDepth 20000 in
theorem rh_78_120 {d x : Nat} {R : sm_R} {G : sm_G} {L : sm_L} {r1 : Nat} {v2 : Int32} : hD d 78 120 [.ref 54, .ref r1, .int v2, .null] 342 R x G L =
  if v2 < (i3 301) then
    (ldi (R 54 0) v2 G (fun y1 => gd (sm_is r1 342 5) (sm_aI (sm_cv0 d 118 342 R [.ref r1, .int y1] (x, G, L)) (fun a2 x2 G2 L2 =>
      gd (sm_is (R 54 1) 342 20) (gd (sm_in v2 (sm_N (R 54 1))) (hD d 78 120 [.ref 54, .ref r1, .int (v2 + (i3 1)), .null] 342 R x2 (sm_up G2 (R 54 1) v2.toNatClampNeg a2) L2))) oX)))
  else (sm_aV (sm_cv0 d 79 342 R [.ref 54, .ref r1] (x, G, L)) (fun x3 G3 L3 =>
      oV x3 G3 L3) oX) := hD_eq.trans rfl
set_option maxRecDepth 20000 in
theorem h_78_120 {d x : Nat} {V : pV} {G : sm_G} {L : sm_L} {r1 : Nat} {v2 : Int32} (hr1 : pS r1) : hD d 78 120 [.ref 54, .ref r1, .int v2, .null] 342 (RR V) x G L =
  if v2 < (i3 301) then
    (gd (sm_in v2 301) (sm_aI (sm_cv0 d 118 342 (RR V) [.ref r1, .int (G 55 v2.toNatClampNeg)] (x, G, L)) (fun a2 x2 G2 L2 =>
      gd (sm_in v2 301) (hD d 78 120 [.ref 54, .ref r1, .int (v2 + (i3 1)), .null] 342 (RR V) x2 (sm_up G2 56 v2.toNatClampNeg a2) L2)) oX))
  else (sm_aV (sm_cv0 d 79 342 (RR V) [.ref 54, .ref r1] (x, G, L)) (fun x3 G3 L3 =>
      oV x3 G3 L3) oX) := by
  rw [rh_78_120]
  try simp only [gd_tt, (kS_0 hr1), (q_54_0 V), (q_54_1 V), k_54, k_56, ldi_e k_55 n_55, n_55, n_56]
/-! Hours_fillDoors -/
set_option maxRecDepth 20000 in
theorem rm_79 {d x : Nat} {R : sm_R} {G : sm_G} {L : sm_L} {r1 : Nat} : sm_cv0 (d + 1) 79 342 R [.ref 54, .ref r1] (x, G, L) =
  sm_aV (sm_cv0 d 6 342 R [.ref (R 54 2), .int (i3 0)] (x, G, L)) (fun x1 G1 L1 =>
    hD d 79 10 [.ref 54, .ref r1, .int (i3 0), .null] 342 R x1 G1 L1) oX := (cv_eq rfl rfl).trans (hD_eq.trans rfl)
set_option maxRecDepth 20000 in
theorem m_79 {d x : Nat} {V : pV} {G : sm_G} {L : sm_L} {r1 : Nat} (hr1 : pS r1) : sm_cv0 (d + 1) 79 342 (RR V) [.ref 54, .ref r1] (x, G, L) =
  sm_aV (sm_cv0 d 6 342 (RR V) [.ref 57, .int (i3 0)] (x, G, L)) (fun x1 G1 L1 =>
    hD d 79 10 [.ref 54, .ref r1, .int (i3 0), .null] 342 (RR V) x1 G1 L1) oX := by
  rw [rm_79]
  try simp only [gd_tt, (q_54_2 V), k_54]
set_option maxRecDepth 20000 in
theorem rh_79_10 {d x : Nat} {R : sm_R} {G : sm_G} {L : sm_L} {r1 : Nat} {v2 : Int32} : hD d 79 10 [.ref 54, .ref r1, .int v2, .null] 342 R x G L =
  gd (sm_is r1 342 5) (gd (sm_is (R r1 0) 342 3) (if v2 < (G (R r1 0) 8) then
    (gd (sm_is r1 342 5) (gd (sm_is (R r1 0) 342 3) (ldi (R (R r1 0) 0) v2 G (fun y1 => ldi (R 54 2) y1 G (fun y2 => gd (sm_is r1 342 5) (gd (sm_is r1 342 5) (gd (sm_is (R r1 0) 342 3) (ldi (R (R r1 0) 1) v2 G (fun y3 => ldi (R r1 6) y3 G (fun y4 => gd (sm_is (R 54 2) 342 20) (gd (sm_in y1 (sm_N (R 54 2))) (hD d 79 10 [.ref 54, .ref r1, .int (v2 + (i3 1)), .null] 342 R x (sm_up G (R 54 2) y1.toNatClampNeg (y2 ^^^ y4)) L))))))))))))
  else (gd (sm_is r1 342 5) (hD d 79 65 [.ref 54, .null, .int (G r1 13), .int (i3 0)] 342 R x G L)))) := hD_eq.trans rfl
set_option maxRecDepth 20000 in
theorem h_79_10 {d x : Nat} {V : pV} {G : sm_G} {L : sm_L} {r1 : Nat} {v2 : Int32} (hr1 : pS r1) : hD d 79 10 [.ref 54, .ref r1, .int v2, .null] 342 (RR V) x G L =
  if v2 < (G (r1 + 1) 8) then
    (gd (sm_in v2 12) (gd (sm_in (G (r1 + 2) v2.toNatClampNeg) 301) (gd (sm_in v2 12) (gd (sm_in (G (r1 + 3) v2.toNatClampNeg) 6) (gd (sm_in (G (r1 + 2) v2.toNatClampNeg) 301) (hD d 79 10 [.ref 54, .ref r1, .int (v2 + (i3 1)), .null] 342 (RR V) x (sm_up G 57 ((G (r1 + 2) v2.toNatClampNeg).toNatClampNeg) ((G 57 ((G (r1 + 2) v2.toNatClampNeg).toNatClampNeg)) ^^^ (G (r1 + 15) ((G (r1 + 3) v2.toNatClampNeg).toNatClampNeg)))) L))))))
  else (hD d 79 65 [.ref 54, .null, .int (G r1 13), .int (i3 0)] 342 (RR V) x G L) := by
  rw [rh_79_10]
  try simp only [gd_tt, (fS_0_0 V hr1), (fS_0_6 V hr1), (fS_1_0 V hr1), (fS_1_1 V hr1), (kS_0 hr1), (kS_1 hr1), (nS_15 hr1), (nS_2 hr1), (nS_3 hr1), (q_54_2 V), k_54, k_57, ldi_e (kS_15 hr1) (nS_15 hr1), ldi_e (kS_2 hr1) (nS_2 hr1), ldi_e (kS_3 hr1) (nS_3 hr1), ldi_e k_57 n_57, n_57]
set_option maxRecDepth 20000 in
theorem rh_79_65 {d x : Nat} {R : sm_R} {G : sm_G} {L : sm_L} {v2 v3 : Int32} : hD d 79 65 [.ref 54, .null, .int v2, .int v3] 342 R x G L =
  if v3 < (i3 301) then
    (ldi (R 54 2) v3 G (fun y1 => gd (sm_is (R 54 2) 342 20) (gd (sm_in v3 (sm_N (R 54 2))) (hD d 79 65 [.ref 54, .null, .int (v2 ^^^ y1), .int (v3 + (i3 1))] 342 R x (sm_up G (R 54 2) v3.toNatClampNeg (v2 ^^^ y1)) L))))
  else (oV x G L) := hD_eq.trans rfl
set_option maxRecDepth 20000 in
theorem h_79_65 {d x : Nat} {V : pV} {G : sm_G} {L : sm_L} {v2 v3 : Int32} : hD d 79 65 [.ref 54, .null, .int v2, .int v3] 342 (RR V) x G L =
  if v3 < (i3 301) then
    (gd (sm_in v3 301) (gd (sm_in v3 301) (hD d 79 65 [.ref 54, .null, .int (v2 ^^^ (G 57 v3.toNatClampNeg)), .int (v3 + (i3 1))] 342 (RR V) x (sm_up G 57 v3.toNatClampNeg (v2 ^^^ (G 57 v3.toNatClampNeg))) L)))
  else (oV x G L) := by
  rw [rh_79_65]
  try simp only [gd_tt, (q_54_2 V), k_54, k_57, ldi_e k_57 n_57, n_57]
/-! Hours_turned -/
set_option maxRecDepth 20000 in
theorem rm_80 {d x : Nat} {R : sm_R} {G : sm_G} {L : sm_L} {r1 : Nat} {v2 : Int32} : sm_cv0 (d + 1) 80 342 R [.ref 54, .ref r1, .int v2] (x, G, L) =
  ldi (R 54 2) v2 G (fun y1 => if v2 = (i3 0) then
    (gd (sm_is r1 342 5) (oI (y1 ^^^ (G r1 13)) x G L))
  else (ldi (R 54 2) (v2 - (i3 1)) G (fun y2 => oI (y1 ^^^ y2) x G L))) := (cv_eq rfl rfl).trans (hD_eq.trans rfl)
set_option maxRecDepth 20000 in
theorem m_80 {d x : Nat} {V : pV} {G : sm_G} {L : sm_L} {r1 : Nat} {v2 : Int32} (hr1 : pS r1) : sm_cv0 (d + 1) 80 342 (RR V) [.ref 54, .ref r1, .int v2] (x, G, L) =
  gd (sm_in v2 301) (if v2 = (i3 0) then
    (oI ((G 57 v2.toNatClampNeg) ^^^ (G r1 13)) x G L)
  else (gd (sm_in (v2 - (i3 1)) 301) (oI ((G 57 v2.toNatClampNeg) ^^^ (G 57 ((v2 - (i3 1)).toNatClampNeg))) x G L))) := by
  rw [rm_80]
  try simp only [gd_tt, (kS_0 hr1), (q_54_2 V), k_54, ldi_e k_57 n_57, n_57]
/-! Hours_draw -/
set_option maxRecDepth 20000 in
theorem rm_81 {d x : Nat} {R : sm_R} {G : sm_G} {L : sm_L} {r1 : Nat} {v2 : Int32} : sm_cv0 (d + 1) 81 342 R [.ref 54, .ref r1, .int v2] (x, G, L) =
  hD d 81 8 [.ref 54, .ref r1, .null, .int (i3 0), .int v2, .int (i3 0), .null, .null, .null] 342 R x G L := (cv_eq rfl rfl).trans (hD_eq.trans rfl)
theorem m_81 {d x : Nat} {V : pV} {G : sm_G} {L : sm_L} {r1 : Nat} {v2 : Int32} (hr1 : pS r1) : sm_cv0 (d + 1) 81 342 (RR V) [.ref 54, .ref r1, .int v2] (x, G, L) =
  hD d 81 8 [.ref 54, .ref r1, .null, .int (i3 0), .int v2, .int (i3 0), .null, .null, .null] 342 (RR V) x G L := rm_81
set_option maxRecDepth 20000 in
theorem rh_81_8 {d x : Nat} {R : sm_R} {G : sm_G} {L : sm_L} {r1 : Nat} {v3 v4 v5 : Int32} : hD d 81 8 [.ref 54, .ref r1, .null, .int v3, .int v4, .int v5, .null, .null, .null] 342 R x G L =
  if v5 < (i3 301) then
    (gd (sm_is r1 342 5) (gd (sm_is (R r1 0) 342 3) (hD d 81 28 [.ref 54, .ref r1, .null, .int v3, .int v4, .int v5, .int (G (R r1 0) 9), .int (i3 0), .null] 342 R x G L)))
  else (oI v3 x G L) := hD_eq.trans rfl
set_option maxRecDepth 20000 in
theorem h_81_8 {d x : Nat} {V : pV} {G : sm_G} {L : sm_L} {r1 : Nat} {v3 v4 v5 : Int32} (hr1 : pS r1) : hD d 81 8 [.ref 54, .ref r1, .null, .int v3, .int v4, .int v5, .null, .null, .null] 342 (RR V) x G L =
  if v5 < (i3 301) then
    (hD d 81 28 [.ref 54, .ref r1, .null, .int v3, .int v4, .int v5, .int (G (r1 + 1) 9), .int (i3 0), .null] 342 (RR V) x G L)
  else (oI v3 x G L) := by
  rw [rh_81_8]
  try simp only [gd_tt, (fS_0_0 V hr1), (kS_0 hr1), (kS_1 hr1)]
set_option maxRecDepth 20000 in
theorem rh_81_28 {d x : Nat} {R : sm_R} {G : sm_G} {L : sm_L} {r1 : Nat} {v3 v4 v5 v6 v7 : Int32} : hD d 81 28 [.ref 54, .ref r1, .null, .int v3, .int v4, .int v5, .int v6, .int v7, .null] 342 R x G L =
  gd (sm_is r1 342 5) (if v7 < (G r1 9) then
    (ldi (R 54 0) v5 G (fun y1 => gd (sm_is r1 342 5) (gd (sm_is (R r1 0) 342 3) (if (((y1 &&& ((G (R r1 0) 9) ^^^ m1)) &&& (v3 ^^^ m1)) &&& (shl (i3 1) v7)) = (i3 0) then
      (hD d 81 115 [.ref 54, .ref r1, .null, .int v3, .int v4, .int v5, .int v6, .int v7, .null] 342 R x G L)
    else (gd (sm_is r1 342 5) (ldi (R r1 1) v7 G (fun y2 => if ((ushr ((v4 * (i3 1103515245)) + (i3 12345)) (i3 16)) &&& (i3 1023)) < y2 then
        (hD d 81 105 [.ref 54, .ref r1, .null, .int (v3 ||| (shl (i3 1) v7)), .int ((v4 * (i3 1103515245)) + (i3 12345)), .int v5, .int v6, .int v7, .null] 342 R x G L)
      else (hD d 81 115 [.ref 54, .ref r1, .null, .int v3, .int ((v4 * (i3 1103515245)) + (i3 12345)), .int v5, .int (v6 ||| (shl (i3 1) v7)), .int v7, .null] 342 R x G L))))))))
  else (gd (sm_is r1 342 5) (sm_aI (sm_cv0 d 118 342 R [.ref r1, .int v6] (x, G, L)) (fun a3 x3 G3 L3 =>
      gd (sm_is (R 54 3) 342 20) (gd (sm_in v5 (sm_N (R 54 3))) (hD d 81 8 [.ref 54, .ref r1, .null, .int v3, .int v4, .int (v5 + (i3 1)), .null, .null, .null] 342 R x3 (sm_up G3 (R 54 3) v5.toNatClampNeg a3) L3))) oX))) := hD_eq.trans rfl
set_option maxRecDepth 20000 in
theorem h_81_28 {d x : Nat} {V : pV} {G : sm_G} {L : sm_L} {r1 : Nat} {v3 v4 v5 v6 v7 : Int32} (hr1 : pS r1) : hD d 81 28 [.ref 54, .ref r1, .null, .int v3, .int v4, .int v5, .int v6, .int v7, .null] 342 (RR V) x G L =
  if v7 < (G r1 9) then
    (gd (sm_in v5 301) (if ((((G 55 v5.toNatClampNeg) &&& ((G (r1 + 1) 9) ^^^ m1)) &&& (v3 ^^^ m1)) &&& (shl (i3 1) v7)) = (i3 0) then
      (hD d 81 115 [.ref 54, .ref r1, .null, .int v3, .int v4, .int v5, .int v6, .int v7, .null] 342 (RR V) x G L)
    else (gd (sm_in v7 8) (if ((ushr ((v4 * (i3 1103515245)) + (i3 12345)) (i3 16)) &&& (i3 1023)) < (G (r1 + 10) v7.toNatClampNeg) then
        (hD d 81 105 [.ref 54, .ref r1, .null, .int (v3 ||| (shl (i3 1) v7)), .int ((v4 * (i3 1103515245)) + (i3 12345)), .int v5, .int v6, .int v7, .null] 342 (RR V) x G L)
      else (hD d 81 115 [.ref 54, .ref r1, .null, .int v3, .int ((v4 * (i3 1103515245)) + (i3 12345)), .int v5, .int (v6 ||| (shl (i3 1) v7)), .int v7, .null] 342 (RR V) x G L)))))
  else (sm_aI (sm_cv0 d 118 342 (RR V) [.ref r1, .int v6] (x, G, L)) (fun a3 x3 G3 L3 =>
      gd (sm_in v5 301) (hD d 81 8 [.ref 54, .ref r1, .null, .int v3, .int v4, .int (v5 + (i3 1)), .null, .null, .null] 342 (RR V) x3 (sm_up G3 58 v5.toNatClampNeg a3) L3)) oX) := by
  rw [rh_81_28]
  try simp only [gd_tt, (fS_0_0 V hr1), (fS_0_1 V hr1), (kS_0 hr1), (kS_1 hr1), (nS_10 hr1), (q_54_0 V), (q_54_3 V), k_54, k_58, ldi_e (kS_10 hr1) (nS_10 hr1), ldi_e k_55 n_55, n_55, n_58]
set_option maxRecDepth 20000 in
theorem rh_81_105 {d x : Nat} {R : sm_R} {G : sm_G} {L : sm_L} {r1 : Nat} {v3 v4 v5 v6 v7 : Int32} : hD d 81 105 [.ref 54, .ref r1, .null, .int v3, .int v4, .int v5, .int v6, .int v7, .null] 342 R x G L =
  hD d 81 115 [.ref 54, .ref r1, .null, .int v3, .int v4, .int v5, .int v6, .int v7, .null] 342 R x G L := hD_eq.trans rfl
theorem h_81_105 {d x : Nat} {V : pV} {G : sm_G} {L : sm_L} {r1 : Nat} {v3 v4 v5 v6 v7 : Int32} (hr1 : pS r1) : hD d 81 105 [.ref 54, .ref r1, .null, .int v3, .int v4, .int v5, .int v6, .int v7, .null] 342 (RR V) x G L =
  hD d 81 115 [.ref 54, .ref r1, .null, .int v3, .int v4, .int v5, .int v6, .int v7, .null] 342 (RR V) x G L := rh_81_105
set_option maxRecDepth 20000 in
theorem rh_81_115 {d x : Nat} {R : sm_R} {G : sm_G} {L : sm_L} {r1 : Nat} {v3 v4 v5 v6 v7 : Int32} : hD d 81 115 [.ref 54, .ref r1, .null, .int v3, .int v4, .int v5, .int v6, .int v7, .null] 342 R x G L =
  hD d 81 28 [.ref 54, .ref r1, .null, .int v3, .int v4, .int v5, .int v6, .int (v7 + (i3 1)), .null] 342 R x G L := hD_eq.trans rfl
theorem h_81_115 {d x : Nat} {V : pV} {G : sm_G} {L : sm_L} {r1 : Nat} {v3 v4 v5 v6 v7 : Int32} (hr1 : pS r1) : hD d 81 115 [.ref 54, .ref r1, .null, .int v3, .int v4, .int v5, .int v6, .int v7, .null] 342 (RR V) x G L =
  hD d 81 28 [.ref 54, .ref r1, .null, .int v3, .int v4, .int v5, .int v6, .int (v7 + (i3 1)), .null] 342 (RR V) x G L := rh_81_115
