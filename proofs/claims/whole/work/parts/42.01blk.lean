/-! block equations, by the program wip/gen/gen4.py -/
/-! Hours_firstOrder -/
set_option maxRecDepth 20000 in
theorem rm_82 {d x : Nat} {R : sm_R} {G : sm_G} {L : sm_L} : sm_cv0 (d + 1) 82 342 R [.ref 54] (x, G, L) =
  hD d 82 2 [.ref 54, .int (i3 0)] 342 R x G L := (cv_eq rfl rfl).trans (hD_eq.trans rfl)
theorem m_82 {d x : Nat} {V : pV} {G : sm_G} {L : sm_L} : sm_cv0 (d + 1) 82 342 (RR V) [.ref 54] (x, G, L) =
  hD d 82 2 [.ref 54, .int (i3 0)] 342 (RR V) x G L := rm_82
set_option maxRecDepth 20000 in
theorem rh_82_2 {d x : Nat} {R : sm_R} {G : sm_G} {L : sm_L} {v1 : Int32} : hD d 82 2 [.ref 54, .int v1] 342 R x G L =
  if v1 < (i3 6) then
    (gd (sm_is (R 54 5) 342 20) (gd (sm_in v1 (sm_N (R 54 5))) (hD d 82 2 [.ref 54, .int (v1 + (i3 1))] 342 R x (sm_up G (R 54 5) v1.toNatClampNeg v1) L)))
  else (oV x G L) := hD_eq.trans rfl
set_option maxRecDepth 20000 in
theorem h_82_2 {d x : Nat} {V : pV} {G : sm_G} {L : sm_L} {v1 : Int32} : hD d 82 2 [.ref 54, .int v1] 342 (RR V) x G L =
  if v1 < (i3 6) then
    (gd (sm_in v1 6) (hD d 82 2 [.ref 54, .int (v1 + (i3 1))] 342 (RR V) x (sm_up G 60 v1.toNatClampNeg v1) L))
  else (oV x G L) := by
  rw [rh_82_2]
  try simp only [gd_tt, (q_54_5 V), k_54, k_60, n_60]
/-! Hours_orderDigits -/
set_option maxRecDepth 20000 in
theorem rm_83 {d x : Nat} {R : sm_R} {G : sm_G} {L : sm_L} {v1 : Int32} : sm_cv0 (d + 1) 83 342 R [.ref 54, .int v1] (x, G, L) =
  hD d 83 4 [.ref 54, .int v1, .int (i3 0), .int (i3 0)] 342 R x G L := (cv_eq rfl rfl).trans (hD_eq.trans rfl)
theorem m_83 {d x : Nat} {V : pV} {G : sm_G} {L : sm_L} {v1 : Int32} : sm_cv0 (d + 1) 83 342 (RR V) [.ref 54, .int v1] (x, G, L) =
  hD d 83 4 [.ref 54, .int v1, .int (i3 0), .int (i3 0)] 342 (RR V) x G L := rm_83
set_option maxRecDepth 20000 in
theorem rh_83_4 {d x : Nat} {R : sm_R} {G : sm_G} {L : sm_L} {v1 v2 v3 : Int32} : hD d 83 4 [.ref 54, .int v1, .int v2, .int v3] 342 R x G L =
  if v3 < v1 then
    (if v3 < (i3 6) then
      (ldi (R 54 5) v3 G (fun y1 => hD d 83 4 [.ref 54, .int v1, .int ((v2 * (i3 10)) + y1), .int (v3 + (i3 1))] 342 R x G L))
    else (oI v2 x G L))
  else (oI v2 x G L) := hD_eq.trans rfl
set_option maxRecDepth 20000 in
theorem h_83_4 {d x : Nat} {V : pV} {G : sm_G} {L : sm_L} {v1 v2 v3 : Int32} : hD d 83 4 [.ref 54, .int v1, .int v2, .int v3] 342 (RR V) x G L =
  if v3 < v1 then
    (if v3 < (i3 6) then
      (gd (sm_in v3 6) (hD d 83 4 [.ref 54, .int v1, .int ((v2 * (i3 10)) + (G 60 v3.toNatClampNeg)), .int (v3 + (i3 1))] 342 (RR V) x G L))
    else (oI v2 x G L))
  else (oI v2 x G L) := by
  rw [rh_83_4]
  try simp only [gd_tt, (q_54_5 V), k_54, ldi_e k_60 n_60, n_60]
/-! Hours_wakeInOrder -/
set_option maxRecDepth 20000 in
theorem rm_84 {d x : Nat} {R : sm_R} {G : sm_G} {L : sm_L} {r1 : Nat} : sm_cv0 (d + 1) 84 342 R [.ref 54, .ref r1] (x, G, L) =
  hD d 84 2 [.ref 54, .ref r1, .int (i3 0), .null, .null, .null, .null] 342 R x G L := (cv_eq rfl rfl).trans (hD_eq.trans rfl)
theorem m_84 {d x : Nat} {V : pV} {G : sm_G} {L : sm_L} {r1 : Nat} (hr1 : pS r1) : sm_cv0 (d + 1) 84 342 (RR V) [.ref 54, .ref r1] (x, G, L) =
  hD d 84 2 [.ref 54, .ref r1, .int (i3 0), .null, .null, .null, .null] 342 (RR V) x G L := rm_84
set_option maxRecDepth 20000 in
theorem rh_84_2 {d x : Nat} {R : sm_R} {G : sm_G} {L : sm_L} {r1 : Nat} {v2 : Int32} : hD d 84 2 [.ref 54, .ref r1, .int v2, .null, .null, .null, .null] 342 R x G L =
  gd (sm_is r1 342 5) (if v2 < (G r1 9) then
    (if v2 < (i3 6) then
      (gd (sm_is r1 342 5) (if ((G r1 14) + v2) < (i3 301) then
        (gd (sm_is r1 342 5) (gd (sm_is r1 342 5) (gd (sm_is (R r1 0) 342 3) (hD d 84 49 [.ref 54, .ref r1, .int v2, .int ((G r1 14) + v2), .int (G (R r1 0) 9), .int (v2 + (i3 1)), .null] 342 R x G L))))
      else (oV x G L)))
    else (oV x G L))
  else (oV x G L)) := hD_eq.trans rfl
set_option maxRecDepth 20000 in
theorem h_84_2 {d x : Nat} {V : pV} {G : sm_G} {L : sm_L} {r1 : Nat} {v2 : Int32} (hr1 : pS r1) : hD d 84 2 [.ref 54, .ref r1, .int v2, .null, .null, .null, .null] 342 (RR V) x G L =
  if v2 < (G r1 9) then
    (if v2 < (i3 6) then
      (if ((G r1 14) + v2) < (i3 301) then
        (hD d 84 49 [.ref 54, .ref r1, .int v2, .int ((G r1 14) + v2), .int (G (r1 + 1) 9), .int (v2 + (i3 1)), .null] 342 (RR V) x G L)
      else (oV x G L))
    else (oV x G L))
  else (oV x G L) := by
  rw [rh_84_2]
  try simp only [gd_tt, (fS_0_0 V hr1), (kS_0 hr1), (kS_1 hr1)]
set_option maxRecDepth 20000 in
theorem rh_84_49 {d x : Nat} {R : sm_R} {G : sm_G} {L : sm_L} {r1 : Nat} {v2 v3 v4 v5 : Int32} : hD d 84 49 [.ref 54, .ref r1, .int v2, .int v3, .int v4, .int v5, .null] 342 R x G L =
  gd (sm_is r1 342 5) (if v5 < (G r1 9) then
    (if v5 < (i3 6) then
      (ldi (R 54 5) v5 G (fun y1 => gd (sm_is r1 342 5) (gd (sm_is (R r1 0) 342 3) (ldi (R (R r1 0) 2) y1 G (fun y2 => if y2 ≤ v3 then
        (gd (sm_is r1 342 5) (gd (sm_is (R r1 0) 342 3) (ldi (R (R r1 0) 3) y1 G (fun y3 => if v3 < y3 then
          (hD d 84 114 [.ref 54, .ref r1, .int v2, .int v3, .int (v4 ||| (shl (i3 1) y1)), .int (v5 + (i3 1)), .null] 342 R x G L)
        else (hD d 84 114 [.ref 54, .ref r1, .int v2, .int v3, .int v4, .int (v5 + (i3 1)), .null] 342 R x G L)))))
      else (hD d 84 114 [.ref 54, .ref r1, .int v2, .int v3, .int v4, .int (v5 + (i3 1)), .null] 342 R x G L))))))
    else (gd (sm_is r1 342 5) (sm_aI (sm_cv0 d 118 342 R [.ref r1, .int v4] (x, G, L)) (fun a4 x4 G4 L4 =>
        gd (sm_is (R 54 3) 342 20) (gd (sm_in v3 (sm_N (R 54 3))) (hD d 84 2 [.ref 54, .ref r1, .int (v2 + (i3 1)), .null, .null, .null, .null] 342 R x4 (sm_up G4 (R 54 3) v3.toNatClampNeg a4) L4))) oX)))
  else (gd (sm_is r1 342 5) (sm_aI (sm_cv0 d 118 342 R [.ref r1, .int v4] (x, G, L)) (fun a5 x5 G5 L5 =>
      gd (sm_is (R 54 3) 342 20) (gd (sm_in v3 (sm_N (R 54 3))) (hD d 84 2 [.ref 54, .ref r1, .int (v2 + (i3 1)), .null, .null, .null, .null] 342 R x5 (sm_up G5 (R 54 3) v3.toNatClampNeg a5) L5))) oX))) := hD_eq.trans rfl
set_option maxRecDepth 20000 in
theorem h_84_49 {d x : Nat} {V : pV} {G : sm_G} {L : sm_L} {r1 : Nat} {v2 v3 v4 v5 : Int32} (hr1 : pS r1) : hD d 84 49 [.ref 54, .ref r1, .int v2, .int v3, .int v4, .int v5, .null] 342 (RR V) x G L =
  if v5 < (G r1 9) then
    (if v5 < (i3 6) then
      (gd (sm_in v5 6) (gd (sm_in (G 60 v5.toNatClampNeg) 8) (if (G (r1 + 4) ((G 60 v5.toNatClampNeg).toNatClampNeg)) ≤ v3 then
        (gd (sm_in (G 60 v5.toNatClampNeg) 8) (if v3 < (G (r1 + 5) ((G 60 v5.toNatClampNeg).toNatClampNeg)) then
          (hD d 84 114 [.ref 54, .ref r1, .int v2, .int v3, .int (v4 ||| (shl (i3 1) (G 60 v5.toNatClampNeg))), .int (v5 + (i3 1)), .null] 342 (RR V) x G L)
        else (hD d 84 114 [.ref 54, .ref r1, .int v2, .int v3, .int v4, .int (v5 + (i3 1)), .null] 342 (RR V) x G L)))
      else (hD d 84 114 [.ref 54, .ref r1, .int v2, .int v3, .int v4, .int (v5 + (i3 1)), .null] 342 (RR V) x G L))))
    else (sm_aI (sm_cv0 d 118 342 (RR V) [.ref r1, .int v4] (x, G, L)) (fun a4 x4 G4 L4 =>
        gd (sm_in v3 301) (hD d 84 2 [.ref 54, .ref r1, .int (v2 + (i3 1)), .null, .null, .null, .null] 342 (RR V) x4 (sm_up G4 58 v3.toNatClampNeg a4) L4)) oX))
  else (sm_aI (sm_cv0 d 118 342 (RR V) [.ref r1, .int v4] (x, G, L)) (fun a5 x5 G5 L5 =>
      gd (sm_in v3 301) (hD d 84 2 [.ref 54, .ref r1, .int (v2 + (i3 1)), .null, .null, .null, .null] 342 (RR V) x5 (sm_up G5 58 v3.toNatClampNeg a5) L5)) oX) := by
  rw [rh_84_49]
  try simp only [gd_tt, (fS_0_0 V hr1), (fS_1_2 V hr1), (fS_1_3 V hr1), (kS_0 hr1), (kS_1 hr1), (nS_4 hr1), (nS_5 hr1), (q_54_3 V), (q_54_5 V), k_54, k_58, ldi_e (kS_4 hr1) (nS_4 hr1), ldi_e (kS_5 hr1) (nS_5 hr1), ldi_e k_60 n_60, n_58, n_60]
set_option maxRecDepth 20000 in
theorem rh_84_114 {d x : Nat} {R : sm_R} {G : sm_G} {L : sm_L} {r1 : Nat} {v2 v3 v4 v5 : Int32} : hD d 84 114 [.ref 54, .ref r1, .int v2, .int v3, .int v4, .int v5, .null] 342 R x G L =
  hD d 84 49 [.ref 54, .ref r1, .int v2, .int v3, .int v4, .int v5, .null] 342 R x G L := hD_eq.trans rfl
theorem h_84_114 {d x : Nat} {V : pV} {G : sm_G} {L : sm_L} {r1 : Nat} {v2 v3 v4 v5 : Int32} (hr1 : pS r1) : hD d 84 114 [.ref 54, .ref r1, .int v2, .int v3, .int v4, .int v5, .null] 342 (RR V) x G L =
  hD d 84 49 [.ref 54, .ref r1, .int v2, .int v3, .int v4, .int v5, .null] 342 (RR V) x G L := rh_84_114
/-! Hours_nextOrder -/
set_option maxRecDepth 20000 in
theorem rm_85 {d x : Nat} {R : sm_R} {G : sm_G} {L : sm_L} {v1 : Int32} : sm_cv0 (d + 1) 85 342 R [.ref 54, .int v1] (x, G, L) =
  sm_aI (sm_cv0 d 4 342 R [.int v1, .int (i3 6)] (x, G, L)) (fun a1 x1 G1 L1 =>
    hD d 85 9 [.ref 54, .int v1, .int (a1 - (i3 2)), .null, .null, .null] 342 R x1 G1 L1) oX := (cv_eq rfl rfl).trans (hD_eq.trans rfl)
theorem m_85 {d x : Nat} {V : pV} {G : sm_G} {L : sm_L} {v1 : Int32} : sm_cv0 (d + 1) 85 342 (RR V) [.ref 54, .int v1] (x, G, L) =
  sm_aI (sm_cv0 d 4 342 (RR V) [.int v1, .int (i3 6)] (x, G, L)) (fun a1 x1 G1 L1 =>
    hD d 85 9 [.ref 54, .int v1, .int (a1 - (i3 2)), .null, .null, .null] 342 (RR V) x1 G1 L1) oX := rm_85
set_option maxRecDepth 20000 in
theorem rh_85_9 {d x : Nat} {R : sm_R} {G : sm_G} {L : sm_L} {v1 v2 : Int32} : hD d 85 9 [.ref 54, .int v1, .int v2, .null, .null, .null] 342 R x G L =
  if v2 < (i3 0) then
    (if v2 < (i3 0) then
      (oI (i3 0) x G L)
    else (sm_aI (sm_cv0 d 4 342 R [.int v1, .int (i3 6)] (x, G, L)) (fun a1 x1 G1 L1 =>
        hD d 85 51 [.ref 54, .int v1, .int v2, .int (a1 - (i3 1)), .null, .null] 342 R x1 G1 L1) oX))
  else (ldi (R 54 5) v2 G (fun y2 => ldi (R 54 5) (v2 + (i3 1)) G (fun y3 => if y2 ≤ y3 then
      (if v2 < (i3 0) then
        (oI (i3 0) x G L)
      else (sm_aI (sm_cv0 d 4 342 R [.int v1, .int (i3 6)] (x, G, L)) (fun a4 x4 G4 L4 =>
          hD d 85 51 [.ref 54, .int v1, .int v2, .int (a4 - (i3 1)), .null, .null] 342 R x4 G4 L4) oX))
    else (hD d 85 9 [.ref 54, .int v1, .int (v2 + m1), .null, .null, .null] 342 R x G L)))) := hD_eq.trans rfl
set_option maxRecDepth 20000 in
theorem h_85_9 {d x : Nat} {V : pV} {G : sm_G} {L : sm_L} {v1 v2 : Int32} : hD d 85 9 [.ref 54, .int v1, .int v2, .null, .null, .null] 342 (RR V) x G L =
  if v2 < (i3 0) then
    (if v2 < (i3 0) then
      (oI (i3 0) x G L)
    else (sm_aI (sm_cv0 d 4 342 (RR V) [.int v1, .int (i3 6)] (x, G, L)) (fun a1 x1 G1 L1 =>
        hD d 85 51 [.ref 54, .int v1, .int v2, .int (a1 - (i3 1)), .null, .null] 342 (RR V) x1 G1 L1) oX))
  else (gd (sm_in v2 6) (gd (sm_in (v2 + (i3 1)) 6) (if (G 60 v2.toNatClampNeg) ≤ (G 60 ((v2 + (i3 1)).toNatClampNeg)) then
      (if v2 < (i3 0) then
        (oI (i3 0) x G L)
      else (sm_aI (sm_cv0 d 4 342 (RR V) [.int v1, .int (i3 6)] (x, G, L)) (fun a4 x4 G4 L4 =>
          hD d 85 51 [.ref 54, .int v1, .int v2, .int (a4 - (i3 1)), .null, .null] 342 (RR V) x4 G4 L4) oX))
    else (hD d 85 9 [.ref 54, .int v1, .int (v2 + m1), .null, .null, .null] 342 (RR V) x G L)))) := by
  rw [rh_85_9]
  try simp only [gd_tt, (q_54_5 V), k_54, ldi_e k_60 n_60, n_60]
set_option maxRecDepth 20000 in
theorem rh_85_51 {d x : Nat} {R : sm_R} {G : sm_G} {L : sm_L} {v1 v2 v3 : Int32} : hD d 85 51 [.ref 54, .int v1, .int v2, .int v3, .null, .null] 342 R x G L =
  if v3 ≤ v2 then
    (hD d 85 77 [.ref 54, .int v1, .int v2, .int v3, .null, .null] 342 R x G L)
  else (ldi (R 54 5) v3 G (fun y1 => ldi (R 54 5) v2 G (fun y2 => if y1 < y2 then
      (hD d 85 51 [.ref 54, .int v1, .int v2, .int (v3 + m1), .null, .null] 342 R x G L)
    else (hD d 85 77 [.ref 54, .int v1, .int v2, .int v3, .null, .null] 342 R x G L)))) := hD_eq.trans rfl
set_option maxRecDepth 20000 in
theorem h_85_51 {d x : Nat} {V : pV} {G : sm_G} {L : sm_L} {v1 v2 v3 : Int32} : hD d 85 51 [.ref 54, .int v1, .int v2, .int v3, .null, .null] 342 (RR V) x G L =
  if v3 ≤ v2 then
    (hD d 85 77 [.ref 54, .int v1, .int v2, .int v3, .null, .null] 342 (RR V) x G L)
  else (gd (sm_in v3 6) (gd (sm_in v2 6) (if (G 60 v3.toNatClampNeg) < (G 60 v2.toNatClampNeg) then
      (hD d 85 51 [.ref 54, .int v1, .int v2, .int (v3 + m1), .null, .null] 342 (RR V) x G L)
    else (hD d 85 77 [.ref 54, .int v1, .int v2, .int v3, .null, .null] 342 (RR V) x G L)))) := by
  rw [rh_85_51]
  try simp only [gd_tt, (q_54_5 V), k_54, ldi_e k_60 n_60, n_60]
set_option maxRecDepth 20000 in
theorem rh_85_77 {d x : Nat} {R : sm_R} {G : sm_G} {L : sm_L} {v1 v2 v3 : Int32} : hD d 85 77 [.ref 54, .int v1, .int v2, .int v3, .null, .null] 342 R x G L =
  sm_aV (sm_cv0 d 86 342 R [.ref 54, .int v2, .int v3] (x, G, L)) (fun x1 G1 L1 =>
    sm_aI (sm_cv0 d 4 342 R [.int v1, .int (i3 6)] (x1, G1, L1)) (fun a2 x2 G2 L2 =>
      hD d 85 98 [.ref 54, .null, .null, .null, .int (a2 - (i3 1)), .int (v2 + (i3 1))] 342 R x2 G2 L2) oX) oX := hD_eq.trans rfl
set_option maxRecDepth 20000 in
theorem h_85_77 {d x : Nat} {V : pV} {G : sm_G} {L : sm_L} {v1 v2 v3 : Int32} : hD d 85 77 [.ref 54, .int v1, .int v2, .int v3, .null, .null] 342 (RR V) x G L =
  sm_aV (sm_cv0 d 86 342 (RR V) [.ref 54, .int v2, .int v3] (x, G, L)) (fun x1 G1 L1 =>
    sm_aI (sm_cv0 d 4 342 (RR V) [.int v1, .int (i3 6)] (x1, G1, L1)) (fun a2 x2 G2 L2 =>
      hD d 85 98 [.ref 54, .null, .null, .null, .int (a2 - (i3 1)), .int (v2 + (i3 1))] 342 (RR V) x2 G2 L2) oX) oX := by
  rw [rh_85_77]
  try simp only [gd_tt, k_54]
set_option maxRecDepth 20000 in
theorem rh_85_98 {d x : Nat} {R : sm_R} {G : sm_G} {L : sm_L} {v4 v5 : Int32} : hD d 85 98 [.ref 54, .null, .null, .null, .int v4, .int v5] 342 R x G L =
  if v5 < v4 then
    (sm_aV (sm_cv0 d 86 342 R [.ref 54, .int v5, .int v4] (x, G, L)) (fun x1 G1 L1 =>
      hD d 85 98 [.ref 54, .null, .null, .null, .int (v4 + m1), .int (v5 + (i3 1))] 342 R x1 G1 L1) oX)
  else (oI (i3 1) x G L) := hD_eq.trans rfl
set_option maxRecDepth 20000 in
theorem h_85_98 {d x : Nat} {V : pV} {G : sm_G} {L : sm_L} {v4 v5 : Int32} : hD d 85 98 [.ref 54, .null, .null, .null, .int v4, .int v5] 342 (RR V) x G L =
  if v5 < v4 then
    (sm_aV (sm_cv0 d 86 342 (RR V) [.ref 54, .int v5, .int v4] (x, G, L)) (fun x1 G1 L1 =>
      hD d 85 98 [.ref 54, .null, .null, .null, .int (v4 + m1), .int (v5 + (i3 1))] 342 (RR V) x1 G1 L1) oX)
  else (oI (i3 1) x G L) := by
  rw [rh_85_98]
  try simp only [gd_tt, k_54]
/-! Hours_swap -/
set_option maxRecDepth 20000 in
theorem rm_86 {d x : Nat} {R : sm_R} {G : sm_G} {L : sm_L} {v1 v2 : Int32} : sm_cv0 (d + 1) 86 342 R [.ref 54, .int v1, .int v2] (x, G, L) =
  ldi (R 54 5) v1 G (fun y1 => ldi (R 54 5) v2 G (fun y2 => gd (sm_is (R 54 5) 342 20) (gd (sm_in v1 (sm_N (R 54 5))) (gd (sm_is (R 54 5) 342 20) (gd (sm_in v2 (sm_N (R 54 5))) (oV x (sm_up (sm_up G (R 54 5) v1.toNatClampNeg y2) (R 54 5) v2.toNatClampNeg y1) L)))))) := (cv_eq rfl rfl).trans (hD_eq.trans rfl)
set_option maxRecDepth 20000 in
theorem m_86 {d x : Nat} {V : pV} {G : sm_G} {L : sm_L} {v1 v2 : Int32} : sm_cv0 (d + 1) 86 342 (RR V) [.ref 54, .int v1, .int v2] (x, G, L) =
  gd (sm_in v1 6) (gd (sm_in v2 6) (gd (sm_in v1 6) (gd (sm_in v2 6) (oV x (sm_up (sm_up G 60 v1.toNatClampNeg (G 60 v2.toNatClampNeg)) 60 v2.toNatClampNeg (G 60 v1.toNatClampNeg)) L)))) := by
  rw [rm_86]
  try simp only [gd_tt, (q_54_5 V), k_54, k_60, ldi_e k_60 n_60, n_60]
/-! Night_begin -/
set_option maxRecDepth 20000 in
theorem rm_87 {d x : Nat} {R : sm_R} {G : sm_G} {L : sm_L} {r0 r1 : Nat} : sm_cv0 (d + 1) 87 342 R [.ref r0, .ref r1] (x, G, L) =
  hD d 87 2 [.ref r0, .ref r1, .int (i3 0)] 342 R x G L := (cv_eq rfl rfl).trans (hD_eq.trans rfl)
theorem m_87 {d x : Nat} {V : pV} {G : sm_G} {L : sm_L} {r0 r1 : Nat} (hr0 : pN r0) (hr1 : pS r1) : sm_cv0 (d + 1) 87 342 (RR V) [.ref r0, .ref r1] (x, G, L) =
  hD d 87 2 [.ref r0, .ref r1, .int (i3 0)] 342 (RR V) x G L := rm_87
set_option maxRecDepth 20000 in
theorem rh_87_2 {d x : Nat} {R : sm_R} {G : sm_G} {L : sm_L} {r0 r1 : Nat} {v2 : Int32} : hD d 87 2 [.ref r0, .ref r1, .int v2] 342 R x G L =
  if v2 < (i3 4) then
    (gd (sm_is r0 342 2) (gd (Nat.ble 24 (sm_K (R r0 0)) && Nat.ble (sm_K (R r0 0)) 27 && Nat.ble (R r0 0) 342) (gd (sm_in v2 (sm_N (R r0 0))) (gd (sm_is (R (R r0 0) v2.toNatClampNeg) 342 7) (sm_aV (sm_cv0 d 148 342 R [.ref (R (R r0 0) v2.toNatClampNeg)] (x, G, L)) (fun x1 G1 L1 =>
      hD d 87 2 [.ref r0, .ref r1, .int (v2 + (i3 1))] 342 R x1 G1 L1) oX)))))
  else (gd (sm_is r1 342 5) (gd (sm_is r0 342 2) (oV x (sm_up G r0 4 (G r1 13)) L))) := hD_eq.trans rfl
set_option maxRecDepth 20000 in
theorem h_87_2 {d x : Nat} {V : pV} {G : sm_G} {L : sm_L} {r0 r1 : Nat} {v2 : Int32} (hr0 : pN r0) (hr1 : pS r1) : hD d 87 2 [.ref r0, .ref r1, .int v2] 342 (RR V) x G L =
  if v2 < (i3 4) then
    (gd (sm_in v2 4) (gd (sm_is (RR V (r0 + 1) v2.toNatClampNeg) 342 7) (sm_aV (sm_cv0 d 148 342 (RR V) [.ref (RR V (r0 + 1) v2.toNatClampNeg)] (x, G, L)) (fun x1 G1 L1 =>
      hD d 87 2 [.ref r0, .ref r1, .int (v2 + (i3 1))] 342 (RR V) x1 G1 L1) oX)))
  else (oV x (sm_up G r0 4 (G r1 13)) L) := by
  rw [rh_87_2]
  try simp only [gd_tt, (aN_1 hr0), (fN_0_0 V hr0), (kN_0 hr0), (kS_0 hr1), (nN_1 hr0)]
/-! Night_play -/
set_option maxRecDepth 20000 in
theorem rm_88 {d x : Nat} {R : sm_R} {G : sm_G} {L : sm_L} {r0 r1 r4 : Nat} {v5 v6 v7 : Int32} : sm_cv0 (d + 1) 88 342 R [.ref r0, .ref r1, .ref 5, .ref 54, .ref r4, .int v5, .int v6, .int v7] (x, G, L) =
  sm_aI (sm_cv0 d 5 342 R [.int v6, .int (i3 0)] (x, G, L)) (fun a1 x1 G1 L1 =>
    hD d 88 8 [.ref r0, .ref r1, .ref 5, .ref 54, .ref r4, .int v5, .null, .int v7, .int a1, .null] 342 R x1 G1 L1) oX := (cv_eq rfl rfl).trans (hD_eq.trans rfl)
theorem m_88 {d x : Nat} {V : pV} {G : sm_G} {L : sm_L} {r0 r1 r4 : Nat} {v5 v6 v7 : Int32} (hr0 : pN r0) (hr1 : pS r1) : sm_cv0 (d + 1) 88 342 (RR V) [.ref r0, .ref r1, .ref 5, .ref 54, .ref r4, .int v5, .int v6, .int v7] (x, G, L) =
  sm_aI (sm_cv0 d 5 342 (RR V) [.int v6, .int (i3 0)] (x, G, L)) (fun a1 x1 G1 L1 =>
    hD d 88 8 [.ref r0, .ref r1, .ref 5, .ref 54, .ref r4, .int v5, .null, .int v7, .int a1, .null] 342 (RR V) x1 G1 L1) oX := rm_88
set_option maxRecDepth 20000 in
theorem rh_88_8 {d x : Nat} {R : sm_R} {G : sm_G} {L : sm_L} {r0 r1 r4 : Nat} {v5 v7 v8 : Int32} : hD d 88 8 [.ref r0, .ref r1, .ref 5, .ref 54, .ref r4, .int v5, .null, .int v7, .int v8, .null] 342 R x G L =
  if v8 ≤ v7 then
    (if v8 < (i3 301) then
      (gd (sm_is r0 342 2) (ldi r4 v8 (sm_up G r0 6 v8) (fun y1 => gd (sm_is r0 342 2) (gd (sm_is r0 342 2) (sm_aI (sm_cv0 d 80 342 R [.ref 54, .ref r1, .int v8] (x, sm_up (sm_up G r0 6 v8) r0 7 (y1 ||| v5), L)) (fun a2 x2 G2 L2 =>
        gd (sm_is r0 342 2) (hD d 88 60 [.ref r0, .ref r1, .ref 5, .ref 54, .ref r4, .int v5, .null, .int v7, .int v8, .int (i3 0)] 342 R x2 (sm_up G2 r0 4 (((sm_up (sm_up G r0 6 v8) r0 7 (y1 ||| v5)) r0 4) ^^^ a2)) L2)) oX)))))
    else (oV x G L))
  else (oV x G L) := hD_eq.trans rfl
set_option maxRecDepth 20000 in
theorem h_88_8 {d x : Nat} {V : pV} {G : sm_G} {L : sm_L} {r0 r1 r4 : Nat} {v5 v7 v8 : Int32} (hr0 : pN r0) (hr1 : pS r1) : hD d 88 8 [.ref r0, .ref r1, .ref 5, .ref 54, .ref r4, .int v5, .null, .int v7, .int v8, .null] 342 (RR V) x G L =
  if v8 ≤ v7 then
    (if v8 < (i3 301) then
      (ldi r4 v8 (sm_up G r0 6 v8) (fun y1 => sm_aI (sm_cv0 d 80 342 (RR V) [.ref 54, .ref r1, .int v8] (x, sm_up (sm_up G r0 6 v8) r0 7 (y1 ||| v5), L)) (fun a2 x2 G2 L2 =>
        hD d 88 60 [.ref r0, .ref r1, .ref 5, .ref 54, .ref r4, .int v5, .null, .int v7, .int v8, .int (i3 0)] 342 (RR V) x2 (sm_up G2 r0 4 (((sm_up (sm_up G r0 6 v8) r0 7 (y1 ||| v5)) r0 4) ^^^ a2)) L2) oX))
    else (oV x G L))
  else (oV x G L) := by
  rw [rh_88_8]
  try simp only [gd_tt, (kN_0 hr0), k_54]
set_option maxRecDepth 20000 in
theorem rh_88_60 {d x : Nat} {R : sm_R} {G : sm_G} {L : sm_L} {r0 r1 r4 : Nat} {v5 v7 v8 v9 : Int32} : hD d 88 60 [.ref r0, .ref r1, .ref 5, .ref 54, .ref r4, .int v5, .null, .int v7, .int v8, .int v9] 342 R x G L =
  gd (sm_is r1 342 5) (if v9 < (G r1 12) then
    (gd (sm_is r0 342 2) (gd (Nat.ble 24 (sm_K (R r0 0)) && Nat.ble (sm_K (R r0 0)) 27 && Nat.ble (R r0 0) 342) (gd (sm_in v9 (sm_N (R r0 0))) (gd (sm_is r1 342 5) (ldi (R r1 7) v9 G (fun y1 => gd (sm_is r1 342 5) (ldi (R r1 8) v9 G (fun y2 => gd (sm_is r0 342 2) (sm_aV (sm_cv0 d 89 342 R [.ref r0, .ref (R (R r0 0) v9.toNatClampNeg), .int y1, .int y2] (x, G, L)) (fun x3 G3 L3 =>
      hD d 88 60 [.ref r0, .ref r1, .ref 5, .ref 54, .ref r4, .int v5, .null, .int v7, .int v8, .int (v9 + (i3 1))] 342 R x3 G3 L3) oX)))))))))
  else (hD d 88 103 [.ref r0, .ref r1, .ref 5, .ref 54, .ref r4, .int v5, .null, .int v7, .int v8, .int (i3 0)] 342 R x G L)) := hD_eq.trans rfl
set_option maxRecDepth 20000 in
theorem h_88_60 {d x : Nat} {V : pV} {G : sm_G} {L : sm_L} {r0 r1 r4 : Nat} {v5 v7 v8 v9 : Int32} (hr0 : pN r0) (hr1 : pS r1) : hD d 88 60 [.ref r0, .ref r1, .ref 5, .ref 54, .ref r4, .int v5, .null, .int v7, .int v8, .int v9] 342 (RR V) x G L =
  if v9 < (G r1 12) then
    (gd (sm_in v9 4) (gd (sm_in v9 4) (gd (sm_in v9 4) (sm_aV (sm_cv0 d 89 342 (RR V) [.ref r0, .ref (RR V (r0 + 1) v9.toNatClampNeg), .int (G (r1 + 16) v9.toNatClampNeg), .int (G (r1 + 17) v9.toNatClampNeg)] (x, G, L)) (fun x3 G3 L3 =>
      hD d 88 60 [.ref r0, .ref r1, .ref 5, .ref 54, .ref r4, .int v5, .null, .int v7, .int v8, .int (v9 + (i3 1))] 342 (RR V) x3 G3 L3) oX))))
  else (hD d 88 103 [.ref r0, .ref r1, .ref 5, .ref 54, .ref r4, .int v5, .null, .int v7, .int v8, .int (i3 0)] 342 (RR V) x G L) := by
  rw [rh_88_60]
  try simp only [gd_tt, (aN_1 hr0), (fN_0_0 V hr0), (fS_0_7 V hr1), (fS_0_8 V hr1), (kN_0 hr0), (kS_0 hr1), (nN_1 hr0), (nS_16 hr1), (nS_17 hr1), ldi_e (kS_16 hr1) (nS_16 hr1), ldi_e (kS_17 hr1) (nS_17 hr1)]
set_option maxRecDepth 20000 in
theorem rh_88_103 {d x : Nat} {R : sm_R} {G : sm_G} {L : sm_L} {r0 r1 r4 : Nat} {v5 v7 v8 v9 : Int32} : hD d 88 103 [.ref r0, .ref r1, .ref 5, .ref 54, .ref r4, .int v5, .null, .int v7, .int v8, .int v9] 342 R x G L =
  gd (sm_is r1 342 5) (if v9 < (G r1 12) then
    (gd (sm_is r0 342 2) (gd (Nat.ble 24 (sm_K (R r0 0)) && Nat.ble (sm_K (R r0 0)) 27 && Nat.ble (R r0 0) 342) (gd (sm_in v9 (sm_N (R r0 0))) (gd (sm_is (R (R r0 0) v9.toNatClampNeg) 342 7) (if (G (R (R r0 0) v9.toNatClampNeg) 1) = m1 then
      (hD d 88 103 [.ref r0, .ref r1, .ref 5, .ref 54, .ref r4, .int v5, .null, .int v7, .int v8, .int (v9 + (i3 1))] 342 R x G L)
    else (gd (sm_is r1 342 5) (ldi (R r1 8) v9 G (fun y1 => if y1 = v8 then
        (hD d 88 103 [.ref r0, .ref r1, .ref 5, .ref 54, .ref r4, .int v5, .null, .int v7, .int v8, .int (v9 + (i3 1))] 342 R x G L)
      else (gd (sm_is r0 342 2) (gd (Nat.ble 24 (sm_K (R r0 0)) && Nat.ble (sm_K (R r0 0)) 27 && Nat.ble (R r0 0) 342) (gd (sm_in v9 (sm_N (R r0 0))) (gd (sm_in v9 4) (gd (sm_is r0 342 2) (sm_aV (sm_cv0 d 90 342 R [.ref r0, .ref r1, .ref (R (R r0 0) v9.toNatClampNeg), .ref (R 5 v9.toNatClampNeg)] (x, G, L)) (fun x2 G2 L2 =>
          hD d 88 103 [.ref r0, .ref r1, .ref 5, .ref 54, .ref r4, .int v5, .null, .int v7, .int v8, .int (v9 + (i3 1))] 342 R x2 G2 L2) oX))))))))))))))
  else (gd (sm_is r0 342 2) (sm_aV (sm_cv0 d 96 342 R [.ref r0, .ref r1] (x, G, L)) (fun x3 G3 L3 =>
      hD d 88 8 [.ref r0, .ref r1, .ref 5, .ref 54, .ref r4, .int v5, .null, .int v7, .int (v8 + (i3 1)), .null] 342 R x3 G3 L3) oX))) := hD_eq.trans rfl
set_option maxRecDepth 20000 in
theorem h_88_103 {d x : Nat} {V : pV} {G : sm_G} {L : sm_L} {r0 r1 r4 : Nat} {v5 v7 v8 v9 : Int32} (hr0 : pN r0) (hr1 : pS r1) : hD d 88 103 [.ref r0, .ref r1, .ref 5, .ref 54, .ref r4, .int v5, .null, .int v7, .int v8, .int v9] 342 (RR V) x G L =
  if v9 < (G r1 12) then
    (gd (sm_in v9 4) (gd (sm_is (RR V (r0 + 1) v9.toNatClampNeg) 342 7) (if (G (RR V (r0 + 1) v9.toNatClampNeg) 1) = m1 then
      (hD d 88 103 [.ref r0, .ref r1, .ref 5, .ref 54, .ref r4, .int v5, .null, .int v7, .int v8, .int (v9 + (i3 1))] 342 (RR V) x G L)
    else (gd (sm_in v9 4) (if (G (r1 + 17) v9.toNatClampNeg) = v8 then
        (hD d 88 103 [.ref r0, .ref r1, .ref 5, .ref 54, .ref r4, .int v5, .null, .int v7, .int v8, .int (v9 + (i3 1))] 342 (RR V) x G L)
      else (gd (sm_in v9 4) (gd (sm_in v9 4) (sm_aV (sm_cv0 d 90 342 (RR V) [.ref r0, .ref r1, .ref (RR V (r0 + 1) v9.toNatClampNeg), .ref (RR V 5 v9.toNatClampNeg)] (x, G, L)) (fun x2 G2 L2 =>
          hD d 88 103 [.ref r0, .ref r1, .ref 5, .ref 54, .ref r4, .int v5, .null, .int v7, .int v8, .int (v9 + (i3 1))] 342 (RR V) x2 G2 L2) oX))))))))
  else (sm_aV (sm_cv0 d 96 342 (RR V) [.ref r0, .ref r1] (x, G, L)) (fun x3 G3 L3 =>
      hD d 88 8 [.ref r0, .ref r1, .ref 5, .ref 54, .ref r4, .int v5, .null, .int v7, .int (v8 + (i3 1)), .null] 342 (RR V) x3 G3 L3) oX) := by
  rw [rh_88_103]
  try simp only [gd_tt, (aN_1 hr0), (fN_0_0 V hr0), (fS_0_8 V hr1), (kN_0 hr0), (kS_0 hr1), (nN_1 hr0), (nS_17 hr1), a_5, ldi_e (kS_17 hr1) (nS_17 hr1), n_5]
/-! Night_loseOrBring -/
set_option maxRecDepth 20000 in
theorem rm_89 {d x : Nat} {R : sm_R} {G : sm_G} {L : sm_L} {r0 r1 : Nat} {v2 v3 : Int32} : sm_cv0 (d + 1) 89 342 R [.ref r0, .ref r1, .int v2, .int v3] (x, G, L) =
  gd (sm_is r0 342 2) (if v3 = (G r0 6) then
    (gd (sm_is r1 342 7) (hD d 89 13 [.ref r0, .ref r1, .null, .null] 342 R x (sm_up G r1 1 v2) L))
  else (hD d 89 13 [.ref r0, .ref r1, .null, .null] 342 R x G L)) := (cv_eq rfl rfl).trans (hD_eq.trans rfl)
set_option maxRecDepth 20000 in
theorem m_89 {d x : Nat} {V : pV} {G : sm_G} {L : sm_L} {r0 r1 : Nat} {v2 v3 : Int32} (hr0 : pN r0) (hr1 : pK r1) : sm_cv0 (d + 1) 89 342 (RR V) [.ref r0, .ref r1, .int v2, .int v3] (x, G, L) =
  if v3 = (G r0 6) then
    (hD d 89 13 [.ref r0, .ref r1, .null, .null] 342 (RR V) x (sm_up G r1 1 v2) L)
  else (hD d 89 13 [.ref r0, .ref r1, .null, .null] 342 (RR V) x G L) := by
  rw [rm_89]
  try simp only [gd_tt, (kK_0 hr1), (kN_0 hr0)]
set_option maxRecDepth 20000 in
theorem rh_89_13 {d x : Nat} {R : sm_R} {G : sm_G} {L : sm_L} {r0 r1 : Nat} : hD d 89 13 [.ref r0, .ref r1, .null, .null] 342 R x G L =
  gd (sm_is r1 342 7) (if (G r1 1) = m1 then
    (oV x G L)
  else (gd (sm_is r0 342 2) (gd (sm_is r1 342 7) (if ((shr (G r0 7) (G r1 1)) &&& (i3 1)) = (i3 0) then
      (gd (sm_is r1 342 7) (gd (sm_is r0 342 2) (gd (sm_is r1 342 7) (oV x (sm_up (sm_up G r1 1 m1) r1 2 ((sm_up G r1 1 m1) r0 6)) L))))
    else (oV x G L))))) := hD_eq.trans rfl
set_option maxRecDepth 20000 in
theorem h_89_13 {d x : Nat} {V : pV} {G : sm_G} {L : sm_L} {r0 r1 : Nat} (hr0 : pN r0) (hr1 : pK r1) : hD d 89 13 [.ref r0, .ref r1, .null, .null] 342 (RR V) x G L =
  if (G r1 1) = m1 then
    (oV x G L)
  else (if ((shr (G r0 7) (G r1 1)) &&& (i3 1)) = (i3 0) then
      (oV x (sm_up (sm_up G r1 1 m1) r1 2 ((sm_up G r1 1 m1) r0 6)) L)
    else (oV x G L)) := by
  rw [rh_89_13]
  try simp only [gd_tt, (kK_0 hr1), (kN_0 hr0)]
/-! Night_act -/
set_option maxRecDepth 20000 in
theorem rm_90 {d x : Nat} {R : sm_R} {G : sm_G} {L : sm_L} {r0 r1 r2 r3 : Nat} : sm_cv0 (d + 1) 90 342 R [.ref r0, .ref r1, .ref r2, .ref r3] (x, G, L) =
  gd (sm_is r2 342 7) (if (G r2 10) = (i3 0) then
    (gd (sm_is r2 342 7) (if (G r2 8) ≤ (i3 0) then
      (gd (sm_is r2 342 7) (hD d 90 34 [.ref r0, .ref r1, .ref r2, .ref r3, .int (i3 0), .null] 342 R x (sm_up G r2 9 (i3 0)) L))
    else (gd (sm_is r2 342 7) (gd (sm_is r2 342 7) (oV x (sm_up G r2 8 ((G r2 8) - (i3 1))) L)))))
  else (oV x G L)) := (cv_eq rfl rfl).trans (hD_eq.trans rfl)
set_option maxRecDepth 20000 in
theorem m_90 {d x : Nat} {V : pV} {G : sm_G} {L : sm_L} {r0 r1 r2 r3 : Nat} (hr0 : pN r0) (hr1 : pS r1) (hr2 : pK r2) (hr3 : pW r3) : sm_cv0 (d + 1) 90 342 (RR V) [.ref r0, .ref r1, .ref r2, .ref r3] (x, G, L) =
  if (G r2 10) = (i3 0) then
    (if (G r2 8) ≤ (i3 0) then
      (hD d 90 34 [.ref r0, .ref r1, .ref r2, .ref r3, .int (i3 0), .null] 342 (RR V) x (sm_up G r2 9 (i3 0)) L)
    else (oV x (sm_up G r2 8 ((G r2 8) - (i3 1))) L))
  else (oV x G L) := by
  rw [rm_90]
  try simp only [gd_tt, (kK_0 hr2)]
set_option maxRecDepth 20000 in
theorem rh_90_34 {d x : Nat} {R : sm_R} {G : sm_G} {L : sm_L} {r0 r1 r2 r3 : Nat} {v4 : Int32} : hD d 90 34 [.ref r0, .ref r1, .ref r2, .ref r3, .int v4, .null] 342 R x G L =
  if v4 < (i3 10000) then
    (gd (sm_is r2 342 7) (if (G r2 7) < (i3 0) then
      (oV x G L)
    else (gd (sm_is r2 342 7) (gd (sm_is r3 342 10) (if (G r2 7) < (G r3 4) then
        (gd (sm_is r3 342 10) (gd (sm_is r2 342 7) (ldi (R r3 0) (G r2 7) G (fun y1 => if y1 ≤ (i3 2) then
          (gd (sm_is r3 342 10) (gd (sm_is r2 342 7) (ldi (R r3 1) (G r2 7) G (fun y2 => gd (sm_is r0 342 2) (sm_aV (sm_cv0 d 91 342 R [.ref r0, .ref r1, .ref r2, .int y1, .int y2] (x, G, L)) (fun x3 G3 L3 =>
            oV x3 G3 L3) oX)))))
        else (if y1 = (i3 7) then
            (gd (sm_is r0 342 2) (sm_aV (sm_cv0 d 93 342 R [.ref r0, .ref r1, .ref r2, .ref r3] (x, G, L)) (fun x4 G4 L4 =>
              hD d 90 34 [.ref r0, .ref r1, .ref r2, .ref r3, .int (v4 + (i3 1)), .null] 342 R x4 G4 L4) oX))
          else (gd (sm_is r2 342 7) (if (G r2 9) < (i3 60) then
              (gd (sm_is r0 342 2) (sm_aV (sm_cv0 d 93 342 R [.ref r0, .ref r1, .ref r2, .ref r3] (x, G, L)) (fun x5 G5 L5 =>
                hD d 90 34 [.ref r0, .ref r1, .ref r2, .ref r3, .int (v4 + (i3 1)), .null] 342 R x5 G5 L5) oX))
            else (gd (sm_is r2 342 7) (oV x (sm_up G r2 10 (i3 1)) L)))))))))
      else (oV x G L))))))
  else (oV x G L) := hD_eq.trans rfl
set_option maxRecDepth 20000 in
theorem h_90_34 {d x : Nat} {V : pV} {G : sm_G} {L : sm_L} {r0 r1 r2 r3 : Nat} {v4 : Int32} (hr0 : pN r0) (hr1 : pS r1) (hr2 : pK r2) (hr3 : pW r3) : hD d 90 34 [.ref r0, .ref r1, .ref r2, .ref r3, .int v4, .null] 342 (RR V) x G L =
  if v4 < (i3 10000) then
    (if (G r2 7) < (i3 0) then
      (oV x G L)
    else (if (G r2 7) < (G r3 4) then
        (gd (sm_in (G r2 7) 40) (if (G (r3 + 1) ((G r2 7).toNatClampNeg)) ≤ (i3 2) then
          (gd (sm_in (G r2 7) 40) (sm_aV (sm_cv0 d 91 342 (RR V) [.ref r0, .ref r1, .ref r2, .int (G (r3 + 1) ((G r2 7).toNatClampNeg)), .int (G (r3 + 2) ((G r2 7).toNatClampNeg))] (x, G, L)) (fun x3 G3 L3 =>
            oV x3 G3 L3) oX))
        else (if (G (r3 + 1) ((G r2 7).toNatClampNeg)) = (i3 7) then
            (sm_aV (sm_cv0 d 93 342 (RR V) [.ref r0, .ref r1, .ref r2, .ref r3] (x, G, L)) (fun x4 G4 L4 =>
              hD d 90 34 [.ref r0, .ref r1, .ref r2, .ref r3, .int (v4 + (i3 1)), .null] 342 (RR V) x4 G4 L4) oX)
          else (if (G r2 9) < (i3 60) then
              (sm_aV (sm_cv0 d 93 342 (RR V) [.ref r0, .ref r1, .ref r2, .ref r3] (x, G, L)) (fun x5 G5 L5 =>
                hD d 90 34 [.ref r0, .ref r1, .ref r2, .ref r3, .int (v4 + (i3 1)), .null] 342 (RR V) x5 G5 L5) oX)
            else (oV x (sm_up G r2 10 (i3 1)) L)))))
      else (oV x G L)))
  else (oV x G L) := by
  rw [rh_90_34]
  try simp only [gd_tt, (fW_0_0 V hr3), (fW_0_1 V hr3), (kK_0 hr2), (kN_0 hr0), (kW_0 hr3), (nW_1 hr3), (nW_2 hr3), ldi_e (kW_1 hr3) (nW_1 hr3), ldi_e (kW_2 hr3) (nW_2 hr3)]
/-! Night_takeMinute -/
set_option maxRecDepth 20000 in
theorem rm_91 {d x : Nat} {R : sm_R} {G : sm_G} {L : sm_L} {r0 r1 r2 : Nat} {v3 v4 : Int32} : sm_cv0 (d + 1) 91 342 R [.ref r0, .ref r1, .ref r2, .int v3, .int v4] (x, G, L) =
  if v3 = (i3 0) then
    (gd (sm_is r0 342 2) (sm_aV (sm_cv0 d 92 342 R [.ref r0, .ref r1, .ref r2, .int v4] (x, G, L)) (fun x1 G1 L1 =>
      hD d 91 57 [.null, .null, .ref r2, .null, .null] 342 R x1 G1 L1) oX))
  else (if v3 = (i3 1) then
      (gd (sm_is r2 342 7) (hD d 91 57 [.null, .null, .ref r2, .null, .null] 342 R x (sm_up G r2 8 (v4 - (i3 1))) L))
    else (gd (sm_is r0 342 2) (gd (sm_is r1 342 5) (ldi (R r1 6) v4 G (fun y2 => gd (sm_is r0 342 2) (gd (sm_is r2 342 7) (gd (sm_is r2 342 7) (hD d 91 57 [.null, .null, .ref r2, .null, .null] 342 R x (sm_up (sm_up G r0 4 ((G r0 4) ^^^ y2)) r2 5 (((sm_up G r0 4 ((G r0 4) ^^^ y2)) r2 5) + (i3 1))) L)))))))) := (cv_eq rfl rfl).trans (hD_eq.trans rfl)
set_option maxRecDepth 20000 in
theorem m_91 {d x : Nat} {V : pV} {G : sm_G} {L : sm_L} {r0 r1 r2 : Nat} {v3 v4 : Int32} (hr0 : pN r0) (hr1 : pS r1) (hr2 : pK r2) : sm_cv0 (d + 1) 91 342 (RR V) [.ref r0, .ref r1, .ref r2, .int v3, .int v4] (x, G, L) =
  if v3 = (i3 0) then
    (sm_aV (sm_cv0 d 92 342 (RR V) [.ref r0, .ref r1, .ref r2, .int v4] (x, G, L)) (fun x1 G1 L1 =>
      hD d 91 57 [.null, .null, .ref r2, .null, .null] 342 (RR V) x1 G1 L1) oX)
  else (if v3 = (i3 1) then
      (hD d 91 57 [.null, .null, .ref r2, .null, .null] 342 (RR V) x (sm_up G r2 8 (v4 - (i3 1))) L)
    else (gd (sm_in v4 6) (hD d 91 57 [.null, .null, .ref r2, .null, .null] 342 (RR V) x (sm_up (sm_up G r0 4 ((G r0 4) ^^^ (G (r1 + 15) v4.toNatClampNeg))) r2 5 (((sm_up G r0 4 ((G r0 4) ^^^ (G (r1 + 15) v4.toNatClampNeg))) r2 5) + (i3 1))) L))) := by
  rw [rm_91]
  try simp only [gd_tt, (fS_0_6 V hr1), (kK_0 hr2), (kN_0 hr0), (kS_0 hr1), (nS_15 hr1), ldi_e (kS_15 hr1) (nS_15 hr1)]
set_option maxRecDepth 20000 in
theorem rh_91_57 {d x : Nat} {R : sm_R} {G : sm_G} {L : sm_L} {r2 : Nat} : hD d 91 57 [.null, .null, .ref r2, .null, .null] 342 R x G L =
  gd (sm_is r2 342 7) (gd (sm_is r2 342 7) (oV x (sm_up G r2 7 ((G r2 7) + (i3 1))) L)) := hD_eq.trans rfl
set_option maxRecDepth 20000 in
theorem h_91_57 {d x : Nat} {V : pV} {G : sm_G} {L : sm_L} {r2 : Nat} (hr2 : pK r2) : hD d 91 57 [.null, .null, .ref r2, .null, .null] 342 (RR V) x G L =
  oV x (sm_up G r2 7 ((G r2 7) + (i3 1))) L := by
  rw [rh_91_57]
  try simp only [gd_tt, (kK_0 hr2)]
/-! Night_go -/
set_option maxRecDepth 20000 in
theorem rm_92 {d x : Nat} {R : sm_R} {G : sm_G} {L : sm_L} {r0 r1 r2 : Nat} {v3 : Int32} : sm_cv0 (d + 1) 92 342 R [.ref r0, .ref r1, .ref r2, .int v3] (x, G, L) =
  gd (sm_is r2 342 7) (gd (sm_is r0 342 2) (gd (sm_is r1 342 5) (sm_aI (sm_cv0 d 119 342 R [.ref r1, .int (shl (i3 1) (G r2 1)), .int (G r0 4)] (x, G, L)) (fun a1 x1 G1 L1 =>
    gd (sm_is r0 342 2) (if ((a1 &&& (G1 r0 7)) &&& (shl (i3 1) v3)) = (i3 0) then
      (gd (sm_is r2 342 7) (gd (sm_is r2 342 7) (oV x1 (sm_up G1 r2 4 ((G1 r2 4) + (i3 1))) L1)))
    else (gd (sm_is r2 342 7) (gd (sm_is r2 342 7) (gd (sm_is r2 342 7) (oV x1 (sm_up (sm_up G1 r2 1 v3) r2 3 (((sm_up G1 r2 1 v3) r2 3) + (i3 1))) L1)))))) oX))) := (cv_eq rfl rfl).trans (hD_eq.trans rfl)
set_option maxRecDepth 20000 in
theorem m_92 {d x : Nat} {V : pV} {G : sm_G} {L : sm_L} {r0 r1 r2 : Nat} {v3 : Int32} (hr0 : pN r0) (hr1 : pS r1) (hr2 : pK r2) : sm_cv0 (d + 1) 92 342 (RR V) [.ref r0, .ref r1, .ref r2, .int v3] (x, G, L) =
  sm_aI (sm_cv0 d 119 342 (RR V) [.ref r1, .int (shl (i3 1) (G r2 1)), .int (G r0 4)] (x, G, L)) (fun a1 x1 G1 L1 =>
    if ((a1 &&& (G1 r0 7)) &&& (shl (i3 1) v3)) = (i3 0) then
      (oV x1 (sm_up G1 r2 4 ((G1 r2 4) + (i3 1))) L1)
    else (oV x1 (sm_up (sm_up G1 r2 1 v3) r2 3 (((sm_up G1 r2 1 v3) r2 3) + (i3 1))) L1)) oX := by
  rw [rm_92]
  try simp only [gd_tt, (kK_0 hr2), (kN_0 hr0), (kS_0 hr1)]
/-! Night_doTurn -/
set_option maxRecDepth 20000 in
theorem rm_93 {d x : Nat} {R : sm_R} {G : sm_G} {L : sm_L} {r0 r1 r2 r3 : Nat} : sm_cv0 (d + 1) 93 342 R [.ref r0, .ref r1, .ref r2, .ref r3] (x, G, L) =
  gd (sm_is r2 342 7) (gd (sm_is r3 342 10) (ldi (R r3 3) (G r2 7) G (fun y1 => sm_aI (sm_cv0 d 4 342 R [.int y1, .int (i3 5)] (x, G, L)) (fun a2 x2 G2 L2 =>
    gd (sm_is r2 342 7) (gd (sm_is r3 342 10) (ldi (R r3 0) (G r2 7) G2 (fun y3 => if y3 = (i3 7) then
      (gd (sm_is r2 342 7) (hD d 93 45 [.ref r0, .ref r1, .ref r2, .ref r3, .int (G r2 7), .int a2] 342 R x2 (sm_up G2 r2 9 ((G2 r2 9) + (i3 0))) L2))
    else (gd (sm_is r2 342 7) (hD d 93 45 [.ref r0, .ref r1, .ref r2, .ref r3, .int (G r2 7), .int a2] 342 R x2 (sm_up G2 r2 9 ((G2 r2 9) + (i3 1))) L2)))))) oX))) := (cv_eq rfl rfl).trans (hD_eq.trans rfl)
set_option maxRecDepth 20000 in
theorem m_93 {d x : Nat} {V : pV} {G : sm_G} {L : sm_L} {r0 r1 r2 r3 : Nat} (hr0 : pN r0) (hr1 : pS r1) (hr2 : pK r2) (hr3 : pW r3) : sm_cv0 (d + 1) 93 342 (RR V) [.ref r0, .ref r1, .ref r2, .ref r3] (x, G, L) =
  gd (sm_in (G r2 7) 40) (sm_aI (sm_cv0 d 4 342 (RR V) [.int (G (r3 + 4) ((G r2 7).toNatClampNeg)), .int (i3 5)] (x, G, L)) (fun a2 x2 G2 L2 =>
    gd (sm_in (G r2 7) 40) (if (G2 (r3 + 1) ((G r2 7).toNatClampNeg)) = (i3 7) then
      (hD d 93 45 [.ref r0, .ref r1, .ref r2, .ref r3, .int (G r2 7), .int a2] 342 (RR V) x2 (sm_up G2 r2 9 ((G2 r2 9) + (i3 0))) L2)
    else (hD d 93 45 [.ref r0, .ref r1, .ref r2, .ref r3, .int (G r2 7), .int a2] 342 (RR V) x2 (sm_up G2 r2 9 ((G2 r2 9) + (i3 1))) L2))) oX) := by
  rw [rm_93]
  try simp only [gd_tt, (fW_0_0 V hr3), (fW_0_3 V hr3), (kK_0 hr2), (kW_0 hr3), (nW_1 hr3), (nW_4 hr3), ldi_e (kW_1 hr3) (nW_1 hr3), ldi_e (kW_4 hr3) (nW_4 hr3)]
set_option maxRecDepth 20000 in
theorem rh_93_45 {d x : Nat} {R : sm_R} {G : sm_G} {L : sm_L} {r0 r1 r2 r3 : Nat} {v4 v5 : Int32} : hD d 93 45 [.ref r0, .ref r1, .ref r2, .ref r3, .int v4, .int v5] 342 R x G L =
  gd (sm_is r3 342 10) (ldi (R r3 0) v4 G (fun y1 => if y1 = (i3 3) then
    (gd (sm_is r2 342 7) (gd (sm_is r3 342 10) (ldi (R r3 1) v4 G (fun y2 => gd (sm_is (R r2 0) 342 20) (gd (sm_in v5 (sm_N (R r2 0))) (gd (sm_is r3 342 10) (ldi (R r3 1) v4 (sm_up G (R r2 0) v5.toNatClampNeg y2) (fun y3 => if y3 ≤ (i3 0) then
      (gd (sm_is r3 342 10) (ldi (R r3 2) v4 (sm_up G (R r2 0) v5.toNatClampNeg y2) (fun y4 => gd (sm_is r2 342 7) (oV x (sm_up (sm_up G (R r2 0) v5.toNatClampNeg y2) r2 7 y4) L))))
    else (gd (sm_is r2 342 7) (oV x (sm_up (sm_up G (R r2 0) v5.toNatClampNeg y2) r2 7 (v4 + (i3 1))) L))))))))))
  else if y1 = (i3 4) then
    (gd (sm_is r2 342 7) (ldi (R r2 0) v5 G (fun y5 => gd (sm_is (R r2 0) 342 20) (gd (sm_in v5 (sm_N (R r2 0))) (gd (sm_is r2 342 7) (ldi (R r2 0) v5 (sm_up G (R r2 0) v5.toNatClampNeg (y5 - (i3 1))) (fun y6 => if y6 ≤ (i3 0) then
      (gd (sm_is r2 342 7) (oV x (sm_up (sm_up G (R r2 0) v5.toNatClampNeg (y5 - (i3 1))) r2 7 (v4 + (i3 1))) L))
    else (gd (sm_is r3 342 10) (ldi (R r3 2) v4 (sm_up G (R r2 0) v5.toNatClampNeg (y5 - (i3 1))) (fun y7 => gd (sm_is r2 342 7) (oV x (sm_up (sm_up G (R r2 0) v5.toNatClampNeg (y5 - (i3 1))) r2 7 y7) L)))))))))))
  else if y1 = (i3 5) then
    (gd (sm_is r0 342 2) (sm_aI (sm_cv0 d 94 342 R [.ref r0, .ref r1, .ref r2, .ref r3] (x, G, L)) (fun a8 x8 G8 L8 =>
      if a8 = (i3 0) then
        (gd (sm_is r2 342 7) (oV x8 (sm_up G8 r2 7 (v4 + (i3 1))) L8))
      else (gd (sm_is r3 342 10) (ldi (R r3 2) v4 G8 (fun y9 => gd (sm_is r2 342 7) (oV x8 (sm_up G8 r2 7 y9) L8))))) oX))
  else if y1 = (i3 6) then
    (gd (sm_is r0 342 2) (sm_aI (sm_cv0 d 94 342 R [.ref r0, .ref r1, .ref r2, .ref r3] (x, G, L)) (fun a10 x10 G10 L10 =>
      if a10 = (i3 0) then
        (gd (sm_is r3 342 10) (ldi (R r3 2) v4 G10 (fun y11 => gd (sm_is r2 342 7) (oV x10 (sm_up G10 r2 7 y11) L10))))
      else (gd (sm_is r2 342 7) (oV x10 (sm_up G10 r2 7 (v4 + (i3 1))) L10))) oX))
  else (gd (sm_is r3 342 10) (ldi (R r3 2) v4 G (fun y12 => gd (sm_is r2 342 7) (oV x (sm_up G r2 7 y12) L)))))) := hD_eq.trans rfl
set_option maxRecDepth 20000 in
theorem h_93_45 {d x : Nat} {V : pV} {G : sm_G} {L : sm_L} {r0 r1 r2 r3 : Nat} {v4 v5 : Int32} (hr0 : pN r0) (hr1 : pS r1) (hr2 : pK r2) (hr3 : pW r3) : hD d 93 45 [.ref r0, .ref r1, .ref r2, .ref r3, .int v4, .int v5] 342 (RR V) x G L =
  gd (sm_in v4 40) (if (G (r3 + 1) v4.toNatClampNeg) = (i3 3) then
    (gd (sm_in v4 40) (gd (sm_in v5 6) (gd (sm_in v4 40) (if ((sm_up G (r2 + 1) v5.toNatClampNeg (G (r3 + 2) v4.toNatClampNeg)) (r3 + 2) v4.toNatClampNeg) ≤ (i3 0) then
      (gd (sm_in v4 40) (oV x (sm_up (sm_up G (r2 + 1) v5.toNatClampNeg (G (r3 + 2) v4.toNatClampNeg)) r2 7 ((sm_up G (r2 + 1) v5.toNatClampNeg (G (r3 + 2) v4.toNatClampNeg)) (r3 + 3) v4.toNatClampNeg)) L))
    else (oV x (sm_up (sm_up G (r2 + 1) v5.toNatClampNeg (G (r3 + 2) v4.toNatClampNeg)) r2 7 (v4 + (i3 1))) L)))))
  else if (G (r3 + 1) v4.toNatClampNeg) = (i3 4) then
    (gd (sm_in v5 6) (gd (sm_in v5 6) (gd (sm_in v5 6) (if ((sm_up G (r2 + 1) v5.toNatClampNeg ((G (r2 + 1) v5.toNatClampNeg) - (i3 1))) (r2 + 1) v5.toNatClampNeg) ≤ (i3 0) then
      (oV x (sm_up (sm_up G (r2 + 1) v5.toNatClampNeg ((G (r2 + 1) v5.toNatClampNeg) - (i3 1))) r2 7 (v4 + (i3 1))) L)
    else (gd (sm_in v4 40) (oV x (sm_up (sm_up G (r2 + 1) v5.toNatClampNeg ((G (r2 + 1) v5.toNatClampNeg) - (i3 1))) r2 7 ((sm_up G (r2 + 1) v5.toNatClampNeg ((G (r2 + 1) v5.toNatClampNeg) - (i3 1))) (r3 + 3) v4.toNatClampNeg)) L))))))
  else if (G (r3 + 1) v4.toNatClampNeg) = (i3 5) then
    (sm_aI (sm_cv0 d 94 342 (RR V) [.ref r0, .ref r1, .ref r2, .ref r3] (x, G, L)) (fun a8 x8 G8 L8 =>
      if a8 = (i3 0) then
        (oV x8 (sm_up G8 r2 7 (v4 + (i3 1))) L8)
      else (gd (sm_in v4 40) (oV x8 (sm_up G8 r2 7 (G8 (r3 + 3) v4.toNatClampNeg)) L8))) oX)
  else if (G (r3 + 1) v4.toNatClampNeg) = (i3 6) then
    (sm_aI (sm_cv0 d 94 342 (RR V) [.ref r0, .ref r1, .ref r2, .ref r3] (x, G, L)) (fun a10 x10 G10 L10 =>
      if a10 = (i3 0) then
        (gd (sm_in v4 40) (oV x10 (sm_up G10 r2 7 (G10 (r3 + 3) v4.toNatClampNeg)) L10))
      else (oV x10 (sm_up G10 r2 7 (v4 + (i3 1))) L10)) oX)
  else (gd (sm_in v4 40) (oV x (sm_up G r2 7 (G (r3 + 3) v4.toNatClampNeg)) L))) := by
  rw [rh_93_45]
  try simp only [gd_tt, (fK_0_0 V hr2), (fW_0_0 V hr3), (fW_0_1 V hr3), (fW_0_2 V hr3), (kK_0 hr2), (kK_1 hr2), (kN_0 hr0), (kW_0 hr3), (nK_1 hr2), (nW_1 hr3), (nW_2 hr3), (nW_3 hr3), ldi_e (kK_1 hr2) (nK_1 hr2), ldi_e (kW_1 hr3) (nW_1 hr3), ldi_e (kW_2 hr3) (nW_2 hr3), ldi_e (kW_3 hr3) (nW_3 hr3)]
/-! Night_isSo -/
set_option maxRecDepth 20000 in
theorem rm_94 {d x : Nat} {R : sm_R} {G : sm_G} {L : sm_L} {r0 r1 r2 r3 : Nat} : sm_cv0 (d + 1) 94 342 R [.ref r0, .ref r1, .ref r2, .ref r3] (x, G, L) =
  gd (sm_is r3 342 10) (gd (sm_is r2 342 7) (ldi (R r3 1) (G r2 7) G (fun y1 => gd (sm_is r3 342 10) (gd (sm_is r2 342 7) (ldi (R r3 3) (G r2 7) G (fun y2 => if (shr y2 (i3 1)) = (i3 0) then
    (gd (sm_is r2 342 7) (if (G r2 1) = y1 then
      (hD d 94 72 [.null, .null, .null, .null, .null, .int y2, .int (i3 1)] 342 R x G L)
    else (hD d 94 72 [.null, .null, .null, .null, .null, .int y2, .int (i3 0)] 342 R x G L)))
  else if (shr y2 (i3 1)) = (i3 1) then
    (gd (sm_is r0 342 2) (if ((shr (G r0 4) y1) &&& (i3 1)) = (i3 0) then
      (hD d 94 94 [.null, .null, .null, .null, .null, .int y2, .int (i3 0)] 342 R x G L)
    else (hD d 94 94 [.null, .null, .null, .null, .null, .int y2, .int (i3 1)] 342 R x G L)))
  else if (shr y2 (i3 1)) = (i3 2) then
    (gd (sm_is r0 342 2) (if ((shr (G r0 7) y1) &&& (i3 1)) = (i3 0) then
      (hD d 94 116 [.null, .null, .null, .null, .null, .int y2, .int (i3 0)] 342 R x G L)
    else (hD d 94 116 [.null, .null, .null, .null, .null, .int y2, .int (i3 1)] 342 R x G L)))
  else if (shr y2 (i3 1)) = (i3 3) then
    (gd (sm_is r0 342 2) (sm_aI (sm_cv0 d 95 342 R [.ref r0, .ref r1, .ref r2] (x, G, L)) (fun a3 x3 G3 L3 =>
      hD d 94 127 [.null, .null, .null, .null, .null, .int y2, .int a3] 342 R x3 G3 L3) oX))
  else (gd (sm_is r0 342 2) (if (G r0 6) < y1 then
      (hD d 94 146 [.null, .null, .null, .null, .null, .int y2, .int (i3 0)] 342 R x G L)
    else (hD d 94 146 [.null, .null, .null, .null, .null, .int y2, .int (i3 1)] 342 R x G L))))))))) := (cv_eq rfl rfl).trans (hD_eq.trans rfl)
set_option maxRecDepth 20000 in
theorem m_94 {d x : Nat} {V : pV} {G : sm_G} {L : sm_L} {r0 r1 r2 r3 : Nat} (hr0 : pN r0) (hr1 : pS r1) (hr2 : pK r2) (hr3 : pW r3) : sm_cv0 (d + 1) 94 342 (RR V) [.ref r0, .ref r1, .ref r2, .ref r3] (x, G, L) =
  gd (sm_in (G r2 7) 40) (gd (sm_in (G r2 7) 40) (if (shr (G (r3 + 4) ((G r2 7).toNatClampNeg)) (i3 1)) = (i3 0) then
    (if (G r2 1) = (G (r3 + 2) ((G r2 7).toNatClampNeg)) then
      (hD d 94 72 [.null, .null, .null, .null, .null, .int (G (r3 + 4) ((G r2 7).toNatClampNeg)), .int (i3 1)] 342 (RR V) x G L)
    else (hD d 94 72 [.null, .null, .null, .null, .null, .int (G (r3 + 4) ((G r2 7).toNatClampNeg)), .int (i3 0)] 342 (RR V) x G L))
  else if (shr (G (r3 + 4) ((G r2 7).toNatClampNeg)) (i3 1)) = (i3 1) then
    (if ((shr (G r0 4) (G (r3 + 2) ((G r2 7).toNatClampNeg))) &&& (i3 1)) = (i3 0) then
      (hD d 94 94 [.null, .null, .null, .null, .null, .int (G (r3 + 4) ((G r2 7).toNatClampNeg)), .int (i3 0)] 342 (RR V) x G L)
    else (hD d 94 94 [.null, .null, .null, .null, .null, .int (G (r3 + 4) ((G r2 7).toNatClampNeg)), .int (i3 1)] 342 (RR V) x G L))
  else if (shr (G (r3 + 4) ((G r2 7).toNatClampNeg)) (i3 1)) = (i3 2) then
    (if ((shr (G r0 7) (G (r3 + 2) ((G r2 7).toNatClampNeg))) &&& (i3 1)) = (i3 0) then
      (hD d 94 116 [.null, .null, .null, .null, .null, .int (G (r3 + 4) ((G r2 7).toNatClampNeg)), .int (i3 0)] 342 (RR V) x G L)
    else (hD d 94 116 [.null, .null, .null, .null, .null, .int (G (r3 + 4) ((G r2 7).toNatClampNeg)), .int (i3 1)] 342 (RR V) x G L))
  else if (shr (G (r3 + 4) ((G r2 7).toNatClampNeg)) (i3 1)) = (i3 3) then
    (sm_aI (sm_cv0 d 95 342 (RR V) [.ref r0, .ref r1, .ref r2] (x, G, L)) (fun a3 x3 G3 L3 =>
      hD d 94 127 [.null, .null, .null, .null, .null, .int (G (r3 + 4) ((G r2 7).toNatClampNeg)), .int a3] 342 (RR V) x3 G3 L3) oX)
  else (if (G r0 6) < (G (r3 + 2) ((G r2 7).toNatClampNeg)) then
      (hD d 94 146 [.null, .null, .null, .null, .null, .int (G (r3 + 4) ((G r2 7).toNatClampNeg)), .int (i3 0)] 342 (RR V) x G L)
    else (hD d 94 146 [.null, .null, .null, .null, .null, .int (G (r3 + 4) ((G r2 7).toNatClampNeg)), .int (i3 1)] 342 (RR V) x G L)))) := by
  rw [rm_94]
  try simp only [gd_tt, (fW_0_1 V hr3), (fW_0_3 V hr3), (kK_0 hr2), (kN_0 hr0), (kW_0 hr3), (nW_2 hr3), (nW_4 hr3), ldi_e (kW_2 hr3) (nW_2 hr3), ldi_e (kW_4 hr3) (nW_4 hr3)]
set_option maxRecDepth 20000 in
theorem rh_94_72 {d x : Nat} {R : sm_R} {G : sm_G} {L : sm_L} {v5 v6 : Int32} : hD d 94 72 [.null, .null, .null, .null, .null, .int v5, .int v6] 342 R x G L =
  hD d 94 146 [.null, .null, .null, .null, .null, .int v5, .int v6] 342 R x G L := hD_eq.trans rfl
theorem h_94_72 {d x : Nat} {V : pV} {G : sm_G} {L : sm_L} {v5 v6 : Int32} : hD d 94 72 [.null, .null, .null, .null, .null, .int v5, .int v6] 342 (RR V) x G L =
  hD d 94 146 [.null, .null, .null, .null, .null, .int v5, .int v6] 342 (RR V) x G L := rh_94_72
set_option maxRecDepth 20000 in
theorem rh_94_94 {d x : Nat} {R : sm_R} {G : sm_G} {L : sm_L} {v5 v6 : Int32} : hD d 94 94 [.null, .null, .null, .null, .null, .int v5, .int v6] 342 R x G L =
  hD d 94 146 [.null, .null, .null, .null, .null, .int v5, .int v6] 342 R x G L := hD_eq.trans rfl
theorem h_94_94 {d x : Nat} {V : pV} {G : sm_G} {L : sm_L} {v5 v6 : Int32} : hD d 94 94 [.null, .null, .null, .null, .null, .int v5, .int v6] 342 (RR V) x G L =
  hD d 94 146 [.null, .null, .null, .null, .null, .int v5, .int v6] 342 (RR V) x G L := rh_94_94
set_option maxRecDepth 20000 in
theorem rh_94_116 {d x : Nat} {R : sm_R} {G : sm_G} {L : sm_L} {v5 v6 : Int32} : hD d 94 116 [.null, .null, .null, .null, .null, .int v5, .int v6] 342 R x G L =
  hD d 94 146 [.null, .null, .null, .null, .null, .int v5, .int v6] 342 R x G L := hD_eq.trans rfl
theorem h_94_116 {d x : Nat} {V : pV} {G : sm_G} {L : sm_L} {v5 v6 : Int32} : hD d 94 116 [.null, .null, .null, .null, .null, .int v5, .int v6] 342 (RR V) x G L =
  hD d 94 146 [.null, .null, .null, .null, .null, .int v5, .int v6] 342 (RR V) x G L := rh_94_116
set_option maxRecDepth 20000 in
theorem rh_94_127 {d x : Nat} {R : sm_R} {G : sm_G} {L : sm_L} {v5 v6 : Int32} : hD d 94 127 [.null, .null, .null, .null, .null, .int v5, .int v6] 342 R x G L =
  hD d 94 146 [.null, .null, .null, .null, .null, .int v5, .int v6] 342 R x G L := hD_eq.trans rfl
theorem h_94_127 {d x : Nat} {V : pV} {G : sm_G} {L : sm_L} {v5 v6 : Int32} : hD d 94 127 [.null, .null, .null, .null, .null, .int v5, .int v6] 342 (RR V) x G L =
  hD d 94 146 [.null, .null, .null, .null, .null, .int v5, .int v6] 342 (RR V) x G L := rh_94_127
set_option maxRecDepth 20000 in
theorem rh_94_146 {d x : Nat} {R : sm_R} {G : sm_G} {L : sm_L} {v5 v6 : Int32} : hD d 94 146 [.null, .null, .null, .null, .null, .int v5, .int v6] 342 R x G L =
  if (v5 &&& (i3 1)) = (i3 0) then
    (if v6 = (i3 0) then
      (oI (i3 0) x G L)
    else (oI (i3 1) x G L))
  else (if v6 = (i3 1) then
      (oI (i3 0) x G L)
    else (oI (i3 1) x G L)) := hD_eq.trans rfl
theorem h_94_146 {d x : Nat} {V : pV} {G : sm_G} {L : sm_L} {v5 v6 : Int32} : hD d 94 146 [.null, .null, .null, .null, .null, .int v5, .int v6] 342 (RR V) x G L =
  if (v5 &&& (i3 1)) = (i3 0) then
    (if v6 = (i3 0) then
      (oI (i3 0) x G L)
    else (oI (i3 1) x G L))
  else (if v6 = (i3 1) then
      (oI (i3 0) x G L)
    else (oI (i3 1) x G L)) := rh_94_146
/-! Night_hasCompany -/
set_option maxRecDepth 20000 in
theorem rm_95 {d x : Nat} {R : sm_R} {G : sm_G} {L : sm_L} {r0 r1 r2 : Nat} : sm_cv0 (d + 1) 95 342 R [.ref r0, .ref r1, .ref r2] (x, G, L) =
  hD d 95 5 [.ref r0, .ref r1, .ref r2, .int (i3 0), .int (i3 0)] 342 R x G L := (cv_eq rfl rfl).trans (hD_eq.trans rfl)
theorem m_95 {d x : Nat} {V : pV} {G : sm_G} {L : sm_L} {r0 r1 r2 : Nat} (hr0 : pN r0) (hr1 : pS r1) (hr2 : pK r2) : sm_cv0 (d + 1) 95 342 (RR V) [.ref r0, .ref r1, .ref r2] (x, G, L) =
  hD d 95 5 [.ref r0, .ref r1, .ref r2, .int (i3 0), .int (i3 0)] 342 (RR V) x G L := rm_95
set_option maxRecDepth 20000 in
theorem rh_95_5 {d x : Nat} {R : sm_R} {G : sm_G} {L : sm_L} {r0 r1 r2 : Nat} {v3 v4 : Int32} : hD d 95 5 [.ref r0, .ref r1, .ref r2, .int v3, .int v4] 342 R x G L =
  gd (sm_is r1 342 5) (if v4 < (G r1 12) then
    (gd (sm_is r0 342 2) (gd (Nat.ble 24 (sm_K (R r0 0)) && Nat.ble (sm_K (R r0 0)) 27 && Nat.ble (R r0 0) 342) (gd (sm_in v4 (sm_N (R r0 0))) (gd (sm_is (R (R r0 0) v4.toNatClampNeg) 342 7) (gd (sm_is r2 342 7) (if (G (R (R r0 0) v4.toNatClampNeg) 1) = (G r2 1) then
      (hD d 95 5 [.ref r0, .ref r1, .ref r2, .int (v3 + (i3 1)), .int (v4 + (i3 1))] 342 R x G L)
    else (hD d 95 5 [.ref r0, .ref r1, .ref r2, .int (v3 + (i3 0)), .int (v4 + (i3 1))] 342 R x G L)))))))
  else (gd (sm_is r2 342 7) (if (G r2 1) = m1 then
      (oI (i3 0) x G L)
    else (if v3 ≤ (i3 1) then
        (oI (i3 0) x G L)
      else (oI (i3 1) x G L))))) := hD_eq.trans rfl
set_option maxRecDepth 20000 in
theorem h_95_5 {d x : Nat} {V : pV} {G : sm_G} {L : sm_L} {r0 r1 r2 : Nat} {v3 v4 : Int32} (hr0 : pN r0) (hr1 : pS r1) (hr2 : pK r2) : hD d 95 5 [.ref r0, .ref r1, .ref r2, .int v3, .int v4] 342 (RR V) x G L =
  if v4 < (G r1 12) then
    (gd (sm_in v4 4) (gd (sm_is (RR V (r0 + 1) v4.toNatClampNeg) 342 7) (if (G (RR V (r0 + 1) v4.toNatClampNeg) 1) = (G r2 1) then
      (hD d 95 5 [.ref r0, .ref r1, .ref r2, .int (v3 + (i3 1)), .int (v4 + (i3 1))] 342 (RR V) x G L)
    else (hD d 95 5 [.ref r0, .ref r1, .ref r2, .int (v3 + (i3 0)), .int (v4 + (i3 1))] 342 (RR V) x G L))))
  else (if (G r2 1) = m1 then
      (oI (i3 0) x G L)
    else (if v3 ≤ (i3 1) then
        (oI (i3 0) x G L)
      else (oI (i3 1) x G L))) := by
  rw [rh_95_5]
  try simp only [gd_tt, (aN_1 hr0), (fN_0_0 V hr0), (kK_0 hr2), (kN_0 hr0), (kS_0 hr1), (nN_1 hr0)]
/-! Night_write -/
set_option maxRecDepth 20000 in
theorem rm_96 {d x : Nat} {R : sm_R} {G : sm_G} {L : sm_L} {r0 r1 : Nat} : sm_cv0 (d + 1) 96 342 R [.ref r0, .ref r1] (x, G, L) =
  gd (sm_is r0 342 2) (gd (sm_is r0 342 2) (gd (sm_is r0 342 2) (gd (sm_is (R r0 3) 342 20) (gd (sm_in (G r0 6) (sm_N (R r0 3))) (hD d 96 17 [.ref r0, .ref r1, .int (i3 0), .int (i3 0), .null] 342 R x (sm_up G (R r0 3) ((G r0 6).toNatClampNeg) (G r0 4)) L))))) := (cv_eq rfl rfl).trans (hD_eq.trans rfl)
set_option maxRecDepth 20000 in
theorem m_96 {d x : Nat} {V : pV} {G : sm_G} {L : sm_L} {r0 r1 : Nat} (hr0 : pN r0) (hr1 : pS r1) : sm_cv0 (d + 1) 96 342 (RR V) [.ref r0, .ref r1] (x, G, L) =
  gd (sm_in (G r0 6) 301) (hD d 96 17 [.ref r0, .ref r1, .int (i3 0), .int (i3 0), .null] 342 (RR V) x (sm_up G (r0 + 4) ((G r0 6).toNatClampNeg) (G r0 4)) L) := by
  rw [rm_96]
  try simp only [gd_tt, (fN_0_3 V hr0), (kN_0 hr0), (kN_4 hr0), (nN_4 hr0)]
set_option maxRecDepth 20000 in
theorem rh_96_17 {d x : Nat} {R : sm_R} {G : sm_G} {L : sm_L} {r0 r1 : Nat} {v2 v3 : Int32} : hD d 96 17 [.ref r0, .ref r1, .int v2, .int v3, .null] 342 R x G L =
  gd (sm_is r1 342 5) (if v3 < (G r1 12) then
    (gd (sm_is r0 342 2) (gd (Nat.ble 24 (sm_K (R r0 0)) && Nat.ble (sm_K (R r0 0)) 27 && Nat.ble (R r0 0) 342) (gd (sm_in v3 (sm_N (R r0 0))) (gd (sm_is (R (R r0 0) v3.toNatClampNeg) 342 7) (gd (sm_is (R (R r0 0) v3.toNatClampNeg) 342 7) (gd (sm_is r0 342 2) (sm_aI (sm_cv0 d 95 342 R [.ref r0, .ref r1, .ref (R (R r0 0) v3.toNatClampNeg)] (x, G, L)) (fun a1 x1 G1 L1 =>
      if a1 = (i3 0) then
        (gd (sm_is (R (R r0 0) v3.toNatClampNeg) 342 7) (hD d 96 75 [.ref r0, .ref r1, .int (v2 ||| (shl ((G (R (R r0 0) v3.toNatClampNeg) 1) + (i3 1)) ((i3 4) * v3))), .int (v3 + (i3 1)), .null] 342 R x1 (sm_up G1 (R (R r0 0) v3.toNatClampNeg) 6 ((G (R (R r0 0) v3.toNatClampNeg) 6) + (i3 0))) L1))
      else (gd (sm_is (R (R r0 0) v3.toNatClampNeg) 342 7) (hD d 96 75 [.ref r0, .ref r1, .int (v2 ||| (shl ((G (R (R r0 0) v3.toNatClampNeg) 1) + (i3 1)) ((i3 4) * v3))), .int (v3 + (i3 1)), .null] 342 R x1 (sm_up G1 (R (R r0 0) v3.toNatClampNeg) 6 ((G (R (R r0 0) v3.toNatClampNeg) 6) + (i3 1))) L1))) oX)))))))
  else (gd (sm_is r0 342 2) (gd (sm_is r0 342 2) (gd (sm_is (R r0 2) 342 20) (gd (sm_in (G r0 6) (sm_N (R r0 2))) (oV x (sm_up G (R r0 2) ((G r0 6).toNatClampNeg) v2) L)))))) := hD_eq.trans rfl
set_option maxRecDepth 20000 in
theorem h_96_17 {d x : Nat} {V : pV} {G : sm_G} {L : sm_L} {r0 r1 : Nat} {v2 v3 : Int32} (hr0 : pN r0) (hr1 : pS r1) : hD d 96 17 [.ref r0, .ref r1, .int v2, .int v3, .null] 342 (RR V) x G L =
  if v3 < (G r1 12) then
    (gd (sm_in v3 4) (gd (sm_is (RR V (r0 + 1) v3.toNatClampNeg) 342 7) (gd (sm_is (RR V (r0 + 1) v3.toNatClampNeg) 342 7) (sm_aI (sm_cv0 d 95 342 (RR V) [.ref r0, .ref r1, .ref (RR V (r0 + 1) v3.toNatClampNeg)] (x, G, L)) (fun a1 x1 G1 L1 =>
      if a1 = (i3 0) then
        (gd (sm_is (RR V (r0 + 1) v3.toNatClampNeg) 342 7) (hD d 96 75 [.ref r0, .ref r1, .int (v2 ||| (shl ((G (RR V (r0 + 1) v3.toNatClampNeg) 1) + (i3 1)) ((i3 4) * v3))), .int (v3 + (i3 1)), .null] 342 (RR V) x1 (sm_up G1 (RR V (r0 + 1) v3.toNatClampNeg) 6 ((G (RR V (r0 + 1) v3.toNatClampNeg) 6) + (i3 0))) L1))
      else (gd (sm_is (RR V (r0 + 1) v3.toNatClampNeg) 342 7) (hD d 96 75 [.ref r0, .ref r1, .int (v2 ||| (shl ((G (RR V (r0 + 1) v3.toNatClampNeg) 1) + (i3 1)) ((i3 4) * v3))), .int (v3 + (i3 1)), .null] 342 (RR V) x1 (sm_up G1 (RR V (r0 + 1) v3.toNatClampNeg) 6 ((G (RR V (r0 + 1) v3.toNatClampNeg) 6) + (i3 1))) L1))) oX))))
  else (gd (sm_in (G r0 6) 301) (oV x (sm_up G (r0 + 3) ((G r0 6).toNatClampNeg) v2) L)) := by
  rw [rh_96_17]
  try simp only [gd_tt, (aN_1 hr0), (fN_0_0 V hr0), (fN_0_2 V hr0), (kN_0 hr0), (kN_3 hr0), (kS_0 hr1), (nN_1 hr0), (nN_3 hr0)]
set_option maxRecDepth 20000 in
theorem rh_96_75 {d x : Nat} {R : sm_R} {G : sm_G} {L : sm_L} {r0 r1 : Nat} {v2 v3 : Int32} : hD d 96 75 [.ref r0, .ref r1, .int v2, .int v3, .null] 342 R x G L =
  hD d 96 17 [.ref r0, .ref r1, .int v2, .int v3, .null] 342 R x G L := hD_eq.trans rfl
theorem h_96_75 {d x : Nat} {V : pV} {G : sm_G} {L : sm_L} {r0 r1 : Nat} {v2 v3 : Int32} (hr0 : pN r0) (hr1 : pS r1) : hD d 96 75 [.ref r0, .ref r1, .int v2, .int v3, .null] 342 (RR V) x G L =
  hD d 96 17 [.ref r0, .ref r1, .int v2, .int v3, .null] 342 (RR V) x G L := rh_96_75
/-! Night_lostBits -/
set_option maxRecDepth 20000 in
theorem rm_97 {d x : Nat} {R : sm_R} {G : sm_G} {L : sm_L} {r0 r1 : Nat} : sm_cv0 (d + 1) 97 342 R [.ref r0, .ref r1] (x, G, L) =
  hD d 97 4 [.ref r0, .ref r1, .int (i3 0), .int (i3 0)] 342 R x G L := (cv_eq rfl rfl).trans (hD_eq.trans rfl)
theorem m_97 {d x : Nat} {V : pV} {G : sm_G} {L : sm_L} {r0 r1 : Nat} (hr0 : pN r0) (hr1 : pS r1) : sm_cv0 (d + 1) 97 342 (RR V) [.ref r0, .ref r1] (x, G, L) =
  hD d 97 4 [.ref r0, .ref r1, .int (i3 0), .int (i3 0)] 342 (RR V) x G L := rm_97
set_option maxRecDepth 20000 in
theorem rh_97_4 {d x : Nat} {R : sm_R} {G : sm_G} {L : sm_L} {r0 r1 : Nat} {v2 v3 : Int32} : hD d 97 4 [.ref r0, .ref r1, .int v2, .int v3] 342 R x G L =
  gd (sm_is r1 342 5) (if v3 < (G r1 12) then
    (gd (sm_is r0 342 2) (gd (Nat.ble 24 (sm_K (R r0 0)) && Nat.ble (sm_K (R r0 0)) 27 && Nat.ble (R r0 0) 342) (gd (sm_in v3 (sm_N (R r0 0))) (gd (sm_is (R (R r0 0) v3.toNatClampNeg) 342 7) (if (G (R (R r0 0) v3.toNatClampNeg) 2) = m1 then
      (hD d 97 4 [.ref r0, .ref r1, .int (v2 ||| (i3 0)), .int (v3 + (i3 1))] 342 R x G L)
    else (hD d 97 4 [.ref r0, .ref r1, .int (v2 ||| (shl (i3 1) v3)), .int (v3 + (i3 1))] 342 R x G L))))))
  else (oI v2 x G L)) := hD_eq.trans rfl
set_option maxRecDepth 20000 in
theorem h_97_4 {d x : Nat} {V : pV} {G : sm_G} {L : sm_L} {r0 r1 : Nat} {v2 v3 : Int32} (hr0 : pN r0) (hr1 : pS r1) : hD d 97 4 [.ref r0, .ref r1, .int v2, .int v3] 342 (RR V) x G L =
  if v3 < (G r1 12) then
    (gd (sm_in v3 4) (gd (sm_is (RR V (r0 + 1) v3.toNatClampNeg) 342 7) (if (G (RR V (r0 + 1) v3.toNatClampNeg) 2) = m1 then
      (hD d 97 4 [.ref r0, .ref r1, .int (v2 ||| (i3 0)), .int (v3 + (i3 1))] 342 (RR V) x G L)
    else (hD d 97 4 [.ref r0, .ref r1, .int (v2 ||| (shl (i3 1) v3)), .int (v3 + (i3 1))] 342 (RR V) x G L))))
  else (oI v2 x G L) := by
  rw [rh_97_4]
  try simp only [gd_tt, (aN_1 hr0), (fN_0_0 V hr0), (kN_0 hr0), (kS_0 hr1), (nN_1 hr0)]
/-! Night_placeOf -/
set_option maxRecDepth 20000 in
theorem rm_98 {d x : Nat} {R : sm_R} {G : sm_G} {L : sm_L} {r0 : Nat} {v1 v2 : Int32} : sm_cv0 (d + 1) 98 342 R [.ref r0, .int v1, .int v2] (x, G, L) =
  gd (sm_is r0 342 2) (ldi (R r0 2) v2 G (fun y1 => oI (((shr y1 ((i3 4) * v1)) &&& (i3 15)) - (i3 1)) x G L)) := (cv_eq rfl rfl).trans (hD_eq.trans rfl)
set_option maxRecDepth 20000 in
theorem m_98 {d x : Nat} {V : pV} {G : sm_G} {L : sm_L} {r0 : Nat} {v1 v2 : Int32} (hr0 : pN r0) : sm_cv0 (d + 1) 98 342 (RR V) [.ref r0, .int v1, .int v2] (x, G, L) =
  gd (sm_in v2 301) (oI (((shr (G (r0 + 3) v2.toNatClampNeg) ((i3 4) * v1)) &&& (i3 15)) - (i3 1)) x G L) := by
  rw [rm_98]
  try simp only [gd_tt, (fN_0_2 V hr0), (kN_0 hr0), (nN_3 hr0), ldi_e (kN_3 hr0) (nN_3 hr0)]
/-! Night_save -/
set_option maxRecDepth 20000 in
theorem rm_99 {d x : Nat} {R : sm_R} {G : sm_G} {L : sm_L} {r0 : Nat} : sm_cv0 (d + 1) 99 342 R [.ref r0] (x, G, L) =
  hD d 99 2 [.ref r0, .int (i3 0)] 342 R x G L := (cv_eq rfl rfl).trans (hD_eq.trans rfl)
theorem m_99 {d x : Nat} {V : pV} {G : sm_G} {L : sm_L} {r0 : Nat} (hr0 : pN r0) : sm_cv0 (d + 1) 99 342 (RR V) [.ref r0] (x, G, L) =
  hD d 99 2 [.ref r0, .int (i3 0)] 342 (RR V) x G L := rm_99
set_option maxRecDepth 20000 in
theorem rh_99_2 {d x : Nat} {R : sm_R} {G : sm_G} {L : sm_L} {r0 : Nat} {v1 : Int32} : hD d 99 2 [.ref r0, .int v1] 342 R x G L =
  if v1 < (i3 4) then
    (gd (sm_is r0 342 2) (gd (Nat.ble 24 (sm_K (R r0 1)) && Nat.ble (sm_K (R r0 1)) 27 && Nat.ble (R r0 1) 342) (gd (sm_in v1 (sm_N (R r0 1))) (gd (sm_is r0 342 2) (gd (Nat.ble 24 (sm_K (R r0 0)) && Nat.ble (sm_K (R r0 0)) 27 && Nat.ble (R r0 0) 342) (gd (sm_in v1 (sm_N (R r0 0))) (gd (sm_is (R (R r0 1) v1.toNatClampNeg) 342 7) (sm_aV (sm_cv0 d 149 342 R [.ref (R (R r0 1) v1.toNatClampNeg), .ref (R (R r0 0) v1.toNatClampNeg)] (x, G, L)) (fun x1 G1 L1 =>
      hD d 99 2 [.ref r0, .int (v1 + (i3 1))] 342 R x1 G1 L1) oX))))))))
  else (gd (sm_is r0 342 2) (gd (sm_is r0 342 2) (oV x (sm_up G r0 5 (G r0 4)) L))) := hD_eq.trans rfl
set_option maxRecDepth 20000 in
theorem h_99_2 {d x : Nat} {V : pV} {G : sm_G} {L : sm_L} {r0 : Nat} {v1 : Int32} (hr0 : pN r0) : hD d 99 2 [.ref r0, .int v1] 342 (RR V) x G L =
  if v1 < (i3 4) then
    (gd (sm_in v1 4) (gd (sm_in v1 4) (gd (sm_is (RR V (r0 + 2) v1.toNatClampNeg) 342 7) (sm_aV (sm_cv0 d 149 342 (RR V) [.ref (RR V (r0 + 2) v1.toNatClampNeg), .ref (RR V (r0 + 1) v1.toNatClampNeg)] (x, G, L)) (fun x1 G1 L1 =>
      hD d 99 2 [.ref r0, .int (v1 + (i3 1))] 342 (RR V) x1 G1 L1) oX))))
  else (oV x (sm_up G r0 5 (G r0 4)) L) := by
  rw [rh_99_2]
  try simp only [gd_tt, (aN_1 hr0), (aN_2 hr0), (fN_0_0 V hr0), (fN_0_1 V hr0), (kN_0 hr0), (nN_1 hr0), (nN_2 hr0)]
/-! Night_load -/
set_option maxRecDepth 20000 in
theorem rm_100 {d x : Nat} {R : sm_R} {G : sm_G} {L : sm_L} {r0 : Nat} : sm_cv0 (d + 1) 100 342 R [.ref r0] (x, G, L) =
  hD d 100 2 [.ref r0, .int (i3 0)] 342 R x G L := (cv_eq rfl rfl).trans (hD_eq.trans rfl)
theorem m_100 {d x : Nat} {V : pV} {G : sm_G} {L : sm_L} {r0 : Nat} (hr0 : pN r0) : sm_cv0 (d + 1) 100 342 (RR V) [.ref r0] (x, G, L) =
  hD d 100 2 [.ref r0, .int (i3 0)] 342 (RR V) x G L := rm_100
set_option maxRecDepth 20000 in
theorem rh_100_2 {d x : Nat} {R : sm_R} {G : sm_G} {L : sm_L} {r0 : Nat} {v1 : Int32} : hD d 100 2 [.ref r0, .int v1] 342 R x G L =
  if v1 < (i3 4) then
    (gd (sm_is r0 342 2) (gd (Nat.ble 24 (sm_K (R r0 0)) && Nat.ble (sm_K (R r0 0)) 27 && Nat.ble (R r0 0) 342) (gd (sm_in v1 (sm_N (R r0 0))) (gd (sm_is r0 342 2) (gd (Nat.ble 24 (sm_K (R r0 1)) && Nat.ble (sm_K (R r0 1)) 27 && Nat.ble (R r0 1) 342) (gd (sm_in v1 (sm_N (R r0 1))) (gd (sm_is (R (R r0 0) v1.toNatClampNeg) 342 7) (sm_aV (sm_cv0 d 149 342 R [.ref (R (R r0 0) v1.toNatClampNeg), .ref (R (R r0 1) v1.toNatClampNeg)] (x, G, L)) (fun x1 G1 L1 =>
      hD d 100 2 [.ref r0, .int (v1 + (i3 1))] 342 R x1 G1 L1) oX))))))))
  else (gd (sm_is r0 342 2) (gd (sm_is r0 342 2) (oV x (sm_up G r0 4 (G r0 5)) L))) := hD_eq.trans rfl
set_option maxRecDepth 20000 in
theorem h_100_2 {d x : Nat} {V : pV} {G : sm_G} {L : sm_L} {r0 : Nat} {v1 : Int32} (hr0 : pN r0) : hD d 100 2 [.ref r0, .int v1] 342 (RR V) x G L =
  if v1 < (i3 4) then
    (gd (sm_in v1 4) (gd (sm_in v1 4) (gd (sm_is (RR V (r0 + 1) v1.toNatClampNeg) 342 7) (sm_aV (sm_cv0 d 149 342 (RR V) [.ref (RR V (r0 + 1) v1.toNatClampNeg), .ref (RR V (r0 + 2) v1.toNatClampNeg)] (x, G, L)) (fun x1 G1 L1 =>
      hD d 100 2 [.ref r0, .int (v1 + (i3 1))] 342 (RR V) x1 G1 L1) oX))))
  else (oV x (sm_up G r0 4 (G r0 5)) L) := by
  rw [rh_100_2]
  try simp only [gd_tt, (aN_1 hr0), (aN_2 hr0), (fN_0_0 V hr0), (fN_0_1 V hr0), (kN_0 hr0), (nN_1 hr0), (nN_2 hr0)]
/-! Night_placedIn -/
set_option maxRecDepth 20000 in
theorem rm_101 {d x : Nat} {R : sm_R} {G : sm_G} {L : sm_L} {r0 r1 : Nat} {v2 v3 : Int32} : sm_cv0 (d + 1) 101 342 R [.ref r0, .ref r1, .int v2, .int v3] (x, G, L) =
  hD d 101 6 [.ref r0, .ref r1, .int v2, .int v3, .int (i3 0), .int (i3 0)] 342 R x G L := (cv_eq rfl rfl).trans (hD_eq.trans rfl)
theorem m_101 {d x : Nat} {V : pV} {G : sm_G} {L : sm_L} {r0 r1 : Nat} {v2 v3 : Int32} (hr0 : pN r0) (hr1 : pS r1) : sm_cv0 (d + 1) 101 342 (RR V) [.ref r0, .ref r1, .int v2, .int v3] (x, G, L) =
  hD d 101 6 [.ref r0, .ref r1, .int v2, .int v3, .int (i3 0), .int (i3 0)] 342 (RR V) x G L := rm_101
set_option maxRecDepth 20000 in
theorem rh_101_6 {d x : Nat} {R : sm_R} {G : sm_G} {L : sm_L} {r0 r1 : Nat} {v2 v3 v4 v5 : Int32} : hD d 101 6 [.ref r0, .ref r1, .int v2, .int v3, .int v4, .int v5] 342 R x G L =
  gd (sm_is r1 342 5) (if v5 < (G r1 12) then
    (gd (sm_is r0 342 2) (sm_aI (sm_cv0 d 98 342 R [.ref r0, .int v5, .int v3] (x, G, L)) (fun a1 x1 G1 L1 =>
      if a1 = v2 then
        (hD d 101 6 [.ref r0, .ref r1, .int v2, .int v3, .int (v4 + (i3 1)), .int (v5 + (i3 1))] 342 R x1 G1 L1)
      else (hD d 101 6 [.ref r0, .ref r1, .int v2, .int v3, .int (v4 + (i3 0)), .int (v5 + (i3 1))] 342 R x1 G1 L1)) oX))
  else (oI v4 x G L)) := hD_eq.trans rfl
set_option maxRecDepth 20000 in
theorem h_101_6 {d x : Nat} {V : pV} {G : sm_G} {L : sm_L} {r0 r1 : Nat} {v2 v3 v4 v5 : Int32} (hr0 : pN r0) (hr1 : pS r1) : hD d 101 6 [.ref r0, .ref r1, .int v2, .int v3, .int v4, .int v5] 342 (RR V) x G L =
  if v5 < (G r1 12) then
    (sm_aI (sm_cv0 d 98 342 (RR V) [.ref r0, .int v5, .int v3] (x, G, L)) (fun a1 x1 G1 L1 =>
      if a1 = v2 then
        (hD d 101 6 [.ref r0, .ref r1, .int v2, .int v3, .int (v4 + (i3 1)), .int (v5 + (i3 1))] 342 (RR V) x1 G1 L1)
      else (hD d 101 6 [.ref r0, .ref r1, .int v2, .int v3, .int (v4 + (i3 0)), .int (v5 + (i3 1))] 342 (RR V) x1 G1 L1)) oX)
  else (oI v4 x G L) := by
  rw [rh_101_6]
  try simp only [gd_tt, (kN_0 hr0), (kS_0 hr1)]
/-! Plan_noisyMinutes -/
set_option maxRecDepth 20000 in
theorem rm_102 {d x : Nat} {R : sm_R} {G : sm_G} {L : sm_L} {r0 : Nat} : sm_cv0 (d + 1) 102 342 R [.ref r0] (x, G, L) =
  hD d 102 4 [.ref r0, .int (i3 0), .int (i3 0), .null, .null] 342 R x G L := (cv_eq rfl rfl).trans (hD_eq.trans rfl)
theorem m_102 {d x : Nat} {V : pV} {G : sm_G} {L : sm_L} {r0 : Nat} (hr0 : pP r0) : sm_cv0 (d + 1) 102 342 (RR V) [.ref r0] (x, G, L) =
  hD d 102 4 [.ref r0, .int (i3 0), .int (i3 0), .null, .null] 342 (RR V) x G L := rm_102
set_option maxRecDepth 20000 in
theorem rh_102_4 {d x : Nat} {R : sm_R} {G : sm_G} {L : sm_L} {r0 : Nat} {v1 v2 : Int32} : hD d 102 4 [.ref r0, .int v1, .int v2, .null, .null] 342 R x G L =
  gd (sm_is r0 342 3) (if v2 < (G r0 8) then
    (hD d 102 17 [.ref r0, .int v1, .int v2, .int (i3 0), .int (i3 0)] 342 R x G L)
  else (oI v1 x G L)) := hD_eq.trans rfl
set_option maxRecDepth 20000 in
theorem h_102_4 {d x : Nat} {V : pV} {G : sm_G} {L : sm_L} {r0 : Nat} {v1 v2 : Int32} (hr0 : pP r0) : hD d 102 4 [.ref r0, .int v1, .int v2, .null, .null] 342 (RR V) x G L =
  if v2 < (G r0 8) then
    (hD d 102 17 [.ref r0, .int v1, .int v2, .int (i3 0), .int (i3 0)] 342 (RR V) x G L)
  else (oI v1 x G L) := by
  rw [rh_102_4]
  try simp only [gd_tt, (kP_0 hr0)]
set_option maxRecDepth 20000 in
theorem rh_102_17 {d x : Nat} {R : sm_R} {G : sm_G} {L : sm_L} {r0 : Nat} {v1 v2 v3 v4 : Int32} : hD d 102 17 [.ref r0, .int v1, .int v2, .int v3, .int v4] 342 R x G L =
  if v4 < v2 then
    (if v3 = (i3 0) then
      (gd (sm_is r0 342 3) (ldi (R r0 0) v4 G (fun y1 => gd (sm_is r0 342 3) (ldi (R r0 0) v2 G (fun y2 => if y1 = y2 then
        (hD d 102 17 [.ref r0, .int v1, .int v2, .int (i3 1), .int (v4 + (i3 1))] 342 R x G L)
      else (hD d 102 17 [.ref r0, .int v1, .int v2, .int (i3 0), .int (v4 + (i3 1))] 342 R x G L))))))
    else (hD d 102 17 [.ref r0, .int v1, .int v2, .int (i3 1), .int (v4 + (i3 1))] 342 R x G L))
  else (if v3 = (i3 0) then
      (hD d 102 4 [.ref r0, .int (v1 + (i3 1)), .int (v2 + (i3 1)), .null, .null] 342 R x G L)
    else (hD d 102 4 [.ref r0, .int (v1 + (i3 0)), .int (v2 + (i3 1)), .null, .null] 342 R x G L)) := hD_eq.trans rfl
set_option maxRecDepth 20000 in
theorem h_102_17 {d x : Nat} {V : pV} {G : sm_G} {L : sm_L} {r0 : Nat} {v1 v2 v3 v4 : Int32} (hr0 : pP r0) : hD d 102 17 [.ref r0, .int v1, .int v2, .int v3, .int v4] 342 (RR V) x G L =
  if v4 < v2 then
    (if v3 = (i3 0) then
      (gd (sm_in v4 12) (gd (sm_in v2 12) (if (G (r0 + 1) v4.toNatClampNeg) = (G (r0 + 1) v2.toNatClampNeg) then
        (hD d 102 17 [.ref r0, .int v1, .int v2, .int (i3 1), .int (v4 + (i3 1))] 342 (RR V) x G L)
      else (hD d 102 17 [.ref r0, .int v1, .int v2, .int (i3 0), .int (v4 + (i3 1))] 342 (RR V) x G L))))
    else (hD d 102 17 [.ref r0, .int v1, .int v2, .int (i3 1), .int (v4 + (i3 1))] 342 (RR V) x G L))
  else (if v3 = (i3 0) then
      (hD d 102 4 [.ref r0, .int (v1 + (i3 1)), .int (v2 + (i3 1)), .null, .null] 342 (RR V) x G L)
    else (hD d 102 4 [.ref r0, .int (v1 + (i3 0)), .int (v2 + (i3 1)), .null, .null] 342 (RR V) x G L)) := by
  rw [rh_102_17]
  try simp only [gd_tt, (fP_0_0 V hr0), (kP_0 hr0), (nP_1 hr0), ldi_e (kP_1 hr0) (nP_1 hr0)]
/-! Plan_dropNoise -/
set_option maxRecDepth 20000 in
theorem rm_103 {d x : Nat} {R : sm_R} {G : sm_G} {L : sm_L} {r0 : Nat} {v1 : Int32} : sm_cv0 (d + 1) 103 342 R [.ref r0, .int v1] (x, G, L) =
  if v1 < (i3 0) then
    (oI (i3 0) x G L)
  else (gd (sm_is r0 342 3) (if v1 < (G r0 8) then
      (gd (sm_is r0 342 3) (if (G r0 10) < (i3 20) then
        (gd (sm_is r0 342 3) (ldi (R r0 0) v1 G (fun y1 => gd (sm_is r0 342 3) (ldi (R r0 1) v1 G (fun y2 => gd (sm_is r0 342 3) (sm_aV (sm_cv0 d 104 342 R [.ref r0, .int (i3 1), .int v1, .int y1, .int y2] (x, G, L)) (fun x3 G3 L3 =>
          gd (sm_is r0 342 3) (sm_aV (sm_cv0 d 105 342 R [.ref r0, .int v1] (x3, G3, L3)) (fun x4 G4 L4 =>
            oI (i3 1) x4 G4 L4) oX)) oX))))))
      else (oI (i3 0) x G L)))
    else (oI (i3 0) x G L))) := (cv_eq rfl rfl).trans (hD_eq.trans rfl)
set_option maxRecDepth 20000 in
theorem m_103 {d x : Nat} {V : pV} {G : sm_G} {L : sm_L} {r0 : Nat} {v1 : Int32} (hr0 : pP r0) : sm_cv0 (d + 1) 103 342 (RR V) [.ref r0, .int v1] (x, G, L) =
  if v1 < (i3 0) then
    (oI (i3 0) x G L)
  else (if v1 < (G r0 8) then
      (if (G r0 10) < (i3 20) then
        (gd (sm_in v1 12) (gd (sm_in v1 12) (sm_aV (sm_cv0 d 104 342 (RR V) [.ref r0, .int (i3 1), .int v1, .int (G (r0 + 1) v1.toNatClampNeg), .int (G (r0 + 2) v1.toNatClampNeg)] (x, G, L)) (fun x3 G3 L3 =>
          sm_aV (sm_cv0 d 105 342 (RR V) [.ref r0, .int v1] (x3, G3, L3)) (fun x4 G4 L4 =>
            oI (i3 1) x4 G4 L4) oX) oX)))
      else (oI (i3 0) x G L))
    else (oI (i3 0) x G L)) := by
  rw [rm_103]
  try simp only [gd_tt, (fP_0_0 V hr0), (fP_0_1 V hr0), (kP_0 hr0), (nP_1 hr0), (nP_2 hr0), ldi_e (kP_1 hr0) (nP_1 hr0), ldi_e (kP_2 hr0) (nP_2 hr0)]
/-! Plan_note -/
set_option maxRecDepth 20000 in
theorem rm_104 {d x : Nat} {R : sm_R} {G : sm_G} {L : sm_L} {r0 : Nat} {v1 v2 v3 v4 : Int32} : sm_cv0 (d + 1) 104 342 R [.ref r0, .int v1, .int v2, .int v3, .int v4] (x, G, L) =
  gd (sm_is r0 342 3) (if (G r0 10) < (i3 20) then
    (gd (sm_is r0 342 3) (gd (sm_is r0 342 3) (gd (sm_is (R r0 4) 342 20) (gd (sm_in (G r0 10) (sm_N (R r0 4))) (gd (sm_is r0 342 3) (gd (sm_is r0 342 3) (gd (sm_is (R r0 5) 342 20) (gd (sm_in ((sm_up G (R r0 4) ((G r0 10).toNatClampNeg) v1) r0 10) (sm_N (R r0 5))) (gd (sm_is r0 342 3) (gd (sm_is r0 342 3) (gd (sm_is (R r0 6) 342 20) (gd (sm_in ((sm_up (sm_up G (R r0 4) ((G r0 10).toNatClampNeg) v1) (R r0 5) (((sm_up G (R r0 4) ((G r0 10).toNatClampNeg) v1) r0 10).toNatClampNeg) v2) r0 10) (sm_N (R r0 6))) (gd (sm_is r0 342 3) (gd (sm_is r0 342 3) (gd (sm_is (R r0 7) 342 20) (gd (sm_in ((sm_up (sm_up (sm_up G (R r0 4) ((G r0 10).toNatClampNeg) v1) (R r0 5) (((sm_up G (R r0 4) ((G r0 10).toNatClampNeg) v1) r0 10).toNatClampNeg) v2) (R r0 6) (((sm_up (sm_up G (R r0 4) ((G r0 10).toNatClampNeg) v1) (R r0 5) (((sm_up G (R r0 4) ((G r0 10).toNatClampNeg) v1) r0 10).toNatClampNeg) v2) r0 10).toNatClampNeg) v3) r0 10) (sm_N (R r0 7))) (gd (sm_is r0 342 3) (gd (sm_is r0 342 3) (oV x (sm_up (sm_up (sm_up (sm_up (sm_up G (R r0 4) ((G r0 10).toNatClampNeg) v1) (R r0 5) (((sm_up G (R r0 4) ((G r0 10).toNatClampNeg) v1) r0 10).toNatClampNeg) v2) (R r0 6) (((sm_up (sm_up G (R r0 4) ((G r0 10).toNatClampNeg) v1) (R r0 5) (((sm_up G (R r0 4) ((G r0 10).toNatClampNeg) v1) r0 10).toNatClampNeg) v2) r0 10).toNatClampNeg) v3) (R r0 7) (((sm_up (sm_up (sm_up G (R r0 4) ((G r0 10).toNatClampNeg) v1) (R r0 5) (((sm_up G (R r0 4) ((G r0 10).toNatClampNeg) v1) r0 10).toNatClampNeg) v2) (R r0 6) (((sm_up (sm_up G (R r0 4) ((G r0 10).toNatClampNeg) v1) (R r0 5) (((sm_up G (R r0 4) ((G r0 10).toNatClampNeg) v1) r0 10).toNatClampNeg) v2) r0 10).toNatClampNeg) v3) r0 10).toNatClampNeg) v4) r0 10 (((sm_up (sm_up (sm_up (sm_up G (R r0 4) ((G r0 10).toNatClampNeg) v1) (R r0 5) (((sm_up G (R r0 4) ((G r0 10).toNatClampNeg) v1) r0 10).toNatClampNeg) v2) (R r0 6) (((sm_up (sm_up G (R r0 4) ((G r0 10).toNatClampNeg) v1) (R r0 5) (((sm_up G (R r0 4) ((G r0 10).toNatClampNeg) v1) r0 10).toNatClampNeg) v2) r0 10).toNatClampNeg) v3) (R r0 7) (((sm_up (sm_up (sm_up G (R r0 4) ((G r0 10).toNatClampNeg) v1) (R r0 5) (((sm_up G (R r0 4) ((G r0 10).toNatClampNeg) v1) r0 10).toNatClampNeg) v2) (R r0 6) (((sm_up (sm_up G (R r0 4) ((G r0 10).toNatClampNeg) v1) (R r0 5) (((sm_up G (R r0 4) ((G r0 10).toNatClampNeg) v1) r0 10).toNatClampNeg) v2) r0 10).toNatClampNeg) v3) r0 10).toNatClampNeg) v4) r0 10) + (i3 1))) L)))))))))))))))))))
  else (oV x G L)) := (cv_eq rfl rfl).trans (hD_eq.trans rfl)
set_option maxRecDepth 20000 in
theorem m_104 {d x : Nat} {V : pV} {G : sm_G} {L : sm_L} {r0 : Nat} {v1 v2 v3 v4 : Int32} (hr0 : pP r0) : sm_cv0 (d + 1) 104 342 (RR V) [.ref r0, .int v1, .int v2, .int v3, .int v4] (x, G, L) =
  if (G r0 10) < (i3 20) then
    (gd (sm_in (G r0 10) 20) (gd (sm_in ((sm_up G (r0 + 5) ((G r0 10).toNatClampNeg) v1) r0 10) 20) (gd (sm_in ((sm_up (sm_up G (r0 + 5) ((G r0 10).toNatClampNeg) v1) (r0 + 6) (((sm_up G (r0 + 5) ((G r0 10).toNatClampNeg) v1) r0 10).toNatClampNeg) v2) r0 10) 20) (gd (sm_in ((sm_up (sm_up (sm_up G (r0 + 5) ((G r0 10).toNatClampNeg) v1) (r0 + 6) (((sm_up G (r0 + 5) ((G r0 10).toNatClampNeg) v1) r0 10).toNatClampNeg) v2) (r0 + 7) (((sm_up (sm_up G (r0 + 5) ((G r0 10).toNatClampNeg) v1) (r0 + 6) (((sm_up G (r0 + 5) ((G r0 10).toNatClampNeg) v1) r0 10).toNatClampNeg) v2) r0 10).toNatClampNeg) v3) r0 10) 20) (oV x (sm_up (sm_up (sm_up (sm_up (sm_up G (r0 + 5) ((G r0 10).toNatClampNeg) v1) (r0 + 6) (((sm_up G (r0 + 5) ((G r0 10).toNatClampNeg) v1) r0 10).toNatClampNeg) v2) (r0 + 7) (((sm_up (sm_up G (r0 + 5) ((G r0 10).toNatClampNeg) v1) (r0 + 6) (((sm_up G (r0 + 5) ((G r0 10).toNatClampNeg) v1) r0 10).toNatClampNeg) v2) r0 10).toNatClampNeg) v3) (r0 + 8) (((sm_up (sm_up (sm_up G (r0 + 5) ((G r0 10).toNatClampNeg) v1) (r0 + 6) (((sm_up G (r0 + 5) ((G r0 10).toNatClampNeg) v1) r0 10).toNatClampNeg) v2) (r0 + 7) (((sm_up (sm_up G (r0 + 5) ((G r0 10).toNatClampNeg) v1) (r0 + 6) (((sm_up G (r0 + 5) ((G r0 10).toNatClampNeg) v1) r0 10).toNatClampNeg) v2) r0 10).toNatClampNeg) v3) r0 10).toNatClampNeg) v4) r0 10 (((sm_up (sm_up (sm_up (sm_up G (r0 + 5) ((G r0 10).toNatClampNeg) v1) (r0 + 6) (((sm_up G (r0 + 5) ((G r0 10).toNatClampNeg) v1) r0 10).toNatClampNeg) v2) (r0 + 7) (((sm_up (sm_up G (r0 + 5) ((G r0 10).toNatClampNeg) v1) (r0 + 6) (((sm_up G (r0 + 5) ((G r0 10).toNatClampNeg) v1) r0 10).toNatClampNeg) v2) r0 10).toNatClampNeg) v3) (r0 + 8) (((sm_up (sm_up (sm_up G (r0 + 5) ((G r0 10).toNatClampNeg) v1) (r0 + 6) (((sm_up G (r0 + 5) ((G r0 10).toNatClampNeg) v1) r0 10).toNatClampNeg) v2) (r0 + 7) (((sm_up (sm_up G (r0 + 5) ((G r0 10).toNatClampNeg) v1) (r0 + 6) (((sm_up G (r0 + 5) ((G r0 10).toNatClampNeg) v1) r0 10).toNatClampNeg) v2) r0 10).toNatClampNeg) v3) r0 10).toNatClampNeg) v4) r0 10) + (i3 1))) L)))))
  else (oV x G L) := by
  rw [rm_104]
  try simp only [gd_tt, (fP_0_4 V hr0), (fP_0_5 V hr0), (fP_0_6 V hr0), (fP_0_7 V hr0), (kP_0 hr0), (kP_5 hr0), (kP_6 hr0), (kP_7 hr0), (kP_8 hr0), (nP_5 hr0), (nP_6 hr0), (nP_7 hr0), (nP_8 hr0)]
/-! Plan_cutNoise -/
set_option maxRecDepth 20000 in
theorem rm_105 {d x : Nat} {R : sm_R} {G : sm_G} {L : sm_L} {r0 : Nat} {v1 : Int32} : sm_cv0 (d + 1) 105 342 R [.ref r0, .int v1] (x, G, L) =
  if v1 < (i3 0) then
    (oV x G L)
  else (gd (sm_is r0 342 3) (if v1 < (G r0 8) then
      (gd (sm_is r0 342 3) (gd (sm_is r0 342 3) (hD d 105 25 [.ref r0, .null, .int v1] 342 R x (sm_up G r0 8 ((G r0 8) - (i3 1))) L)))
    else (oV x G L))) := (cv_eq rfl rfl).trans (hD_eq.trans rfl)
set_option maxRecDepth 20000 in
theorem m_105 {d x : Nat} {V : pV} {G : sm_G} {L : sm_L} {r0 : Nat} {v1 : Int32} (hr0 : pP r0) : sm_cv0 (d + 1) 105 342 (RR V) [.ref r0, .int v1] (x, G, L) =
  if v1 < (i3 0) then
    (oV x G L)
  else (if v1 < (G r0 8) then
      (hD d 105 25 [.ref r0, .null, .int v1] 342 (RR V) x (sm_up G r0 8 ((G r0 8) - (i3 1))) L)
    else (oV x G L)) := by
  rw [rm_105]
  try simp only [gd_tt, (kP_0 hr0)]
set_option maxRecDepth 20000 in
theorem rh_105_25 {d x : Nat} {R : sm_R} {G : sm_G} {L : sm_L} {r0 : Nat} {v2 : Int32} : hD d 105 25 [.ref r0, .null, .int v2] 342 R x G L =
  gd (sm_is r0 342 3) (if v2 < (G r0 8) then
    (gd (sm_is r0 342 3) (gd (sm_is r0 342 3) (ldi (R r0 0) (v2 + (i3 1)) G (fun y1 => gd (sm_is (R r0 0) 342 20) (gd (sm_in v2 (sm_N (R r0 0))) (gd (sm_is r0 342 3) (gd (sm_is r0 342 3) (ldi (R r0 1) (v2 + (i3 1)) (sm_up G (R r0 0) v2.toNatClampNeg y1) (fun y2 => gd (sm_is (R r0 1) 342 20) (gd (sm_in v2 (sm_N (R r0 1))) (hD d 105 25 [.ref r0, .null, .int (v2 + (i3 1))] 342 R x (sm_up (sm_up G (R r0 0) v2.toNatClampNeg y1) (R r0 1) v2.toNatClampNeg y2) L)))))))))))
  else (oV x G L)) := hD_eq.trans rfl
set_option maxRecDepth 20000 in
theorem h_105_25 {d x : Nat} {V : pV} {G : sm_G} {L : sm_L} {r0 : Nat} {v2 : Int32} (hr0 : pP r0) : hD d 105 25 [.ref r0, .null, .int v2] 342 (RR V) x G L =
  if v2 < (G r0 8) then
    (gd (sm_in (v2 + (i3 1)) 12) (gd (sm_in v2 12) (gd (sm_in (v2 + (i3 1)) 12) (gd (sm_in v2 12) (hD d 105 25 [.ref r0, .null, .int (v2 + (i3 1))] 342 (RR V) x (sm_up (sm_up G (r0 + 1) v2.toNatClampNeg (G (r0 + 1) ((v2 + (i3 1)).toNatClampNeg))) (r0 + 2) v2.toNatClampNeg ((sm_up G (r0 + 1) v2.toNatClampNeg (G (r0 + 1) ((v2 + (i3 1)).toNatClampNeg))) (r0 + 2) ((v2 + (i3 1)).toNatClampNeg))) L)))))
  else (oV x G L) := by
  rw [rh_105_25]
  try simp only [gd_tt, (fP_0_0 V hr0), (fP_0_1 V hr0), (kP_0 hr0), (kP_1 hr0), (kP_2 hr0), (nP_1 hr0), (nP_2 hr0), ldi_e (kP_1 hr0) (nP_1 hr0), ldi_e (kP_2 hr0) (nP_2 hr0)]
/-! Plan_takeBack -/
set_option maxRecDepth 20000 in
theorem rm_106 {d x : Nat} {R : sm_R} {G : sm_G} {L : sm_L} {r0 : Nat} : sm_cv0 (d + 1) 106 342 R [.ref r0] (x, G, L) =
  gd (sm_is r0 342 3) (if (G r0 10) ≤ (i3 0) then
    (oI (i3 0) x G L)
  else (gd (sm_is r0 342 3) (gd (sm_is r0 342 3) (gd (sm_is r0 342 3) (gd (sm_is r0 342 3) (ldi (R r0 5) ((sm_up G r0 10 ((G r0 10) - (i3 1))) r0 10) (sm_up G r0 10 ((G r0 10) - (i3 1))) (fun y1 => gd (sm_is r0 342 3) (gd (sm_is r0 342 3) (ldi (R r0 4) ((sm_up G r0 10 ((G r0 10) - (i3 1))) r0 10) (sm_up G r0 10 ((G r0 10) - (i3 1))) (fun y2 => if y2 = (i3 0) then
      (gd (sm_is r0 342 3) (sm_aV (sm_cv0 d 105 342 R [.ref r0, .int y1] (x, sm_up G r0 10 ((G r0 10) - (i3 1)), L)) (fun x3 G3 L3 =>
        oI (i3 1) x3 G3 L3) oX))
    else (gd (sm_is r0 342 3) (gd (sm_is r0 342 3) (ldi (R r0 4) ((sm_up G r0 10 ((G r0 10) - (i3 1))) r0 10) (sm_up G r0 10 ((G r0 10) - (i3 1))) (fun y4 => if y4 = (i3 1) then
        (gd (sm_is r0 342 3) (gd (sm_is r0 342 3) (ldi (R r0 6) ((sm_up G r0 10 ((G r0 10) - (i3 1))) r0 10) (sm_up G r0 10 ((G r0 10) - (i3 1))) (fun y5 => gd (sm_is r0 342 3) (gd (sm_is r0 342 3) (ldi (R r0 7) ((sm_up G r0 10 ((G r0 10) - (i3 1))) r0 10) (sm_up G r0 10 ((G r0 10) - (i3 1))) (fun y6 => gd (sm_is r0 342 3) (sm_aV (sm_cv0 d 107 342 R [.ref r0, .int y1, .int y5, .int y6] (x, sm_up G r0 10 ((G r0 10) - (i3 1)), L)) (fun x7 G7 L7 =>
          oI (i3 1) x7 G7 L7) oX))))))))
      else (if y1 < (i3 0) then
          (oI (i3 1) x (sm_up G r0 10 ((G r0 10) - (i3 1))) L)
        else (if y1 < (i3 8) then
            (gd (sm_is r0 342 3) (gd (sm_is r0 342 3) (gd (sm_is r0 342 3) (ldi (R r0 6) ((sm_up G r0 10 ((G r0 10) - (i3 1))) r0 10) (sm_up G r0 10 ((G r0 10) - (i3 1))) (fun y8 => gd (sm_is (R r0 2) 342 20) (gd (sm_in y1 (sm_N (R r0 2))) (gd (sm_is r0 342 3) (gd (sm_is r0 342 3) (gd (sm_is r0 342 3) (ldi (R r0 7) ((sm_up (sm_up G r0 10 ((G r0 10) - (i3 1))) (R r0 2) y1.toNatClampNeg y8) r0 10) (sm_up (sm_up G r0 10 ((G r0 10) - (i3 1))) (R r0 2) y1.toNatClampNeg y8) (fun y9 => gd (sm_is (R r0 3) 342 20) (gd (sm_in y1 (sm_N (R r0 3))) (oI (i3 1) x (sm_up (sm_up (sm_up G r0 10 ((G r0 10) - (i3 1))) (R r0 2) y1.toNatClampNeg y8) (R r0 3) y1.toNatClampNeg y9) L)))))))))))))
          else (oI (i3 1) x (sm_up G r0 10 ((G r0 10) - (i3 1))) L))))))))))))))))) := (cv_eq rfl rfl).trans (hD_eq.trans rfl)
set_option maxRecDepth 20000 in
theorem m_106 {d x : Nat} {V : pV} {G : sm_G} {L : sm_L} {r0 : Nat} (hr0 : pP r0) : sm_cv0 (d + 1) 106 342 (RR V) [.ref r0] (x, G, L) =
  if (G r0 10) ≤ (i3 0) then
    (oI (i3 0) x G L)
  else (gd (sm_in ((sm_up G r0 10 ((G r0 10) - (i3 1))) r0 10) 20) (gd (sm_in ((sm_up G r0 10 ((G r0 10) - (i3 1))) r0 10) 20) (if ((sm_up G r0 10 ((G r0 10) - (i3 1))) (r0 + 5) (((sm_up G r0 10 ((G r0 10) - (i3 1))) r0 10).toNatClampNeg)) = (i3 0) then
      (sm_aV (sm_cv0 d 105 342 (RR V) [.ref r0, .int ((sm_up G r0 10 ((G r0 10) - (i3 1))) (r0 + 6) (((sm_up G r0 10 ((G r0 10) - (i3 1))) r0 10).toNatClampNeg))] (x, sm_up G r0 10 ((G r0 10) - (i3 1)), L)) (fun x3 G3 L3 =>
        oI (i3 1) x3 G3 L3) oX)
    else (gd (sm_in ((sm_up G r0 10 ((G r0 10) - (i3 1))) r0 10) 20) (if ((sm_up G r0 10 ((G r0 10) - (i3 1))) (r0 + 5) (((sm_up G r0 10 ((G r0 10) - (i3 1))) r0 10).toNatClampNeg)) = (i3 1) then
        (gd (sm_in ((sm_up G r0 10 ((G r0 10) - (i3 1))) r0 10) 20) (gd (sm_in ((sm_up G r0 10 ((G r0 10) - (i3 1))) r0 10) 20) (sm_aV (sm_cv0 d 107 342 (RR V) [.ref r0, .int ((sm_up G r0 10 ((G r0 10) - (i3 1))) (r0 + 6) (((sm_up G r0 10 ((G r0 10) - (i3 1))) r0 10).toNatClampNeg)), .int ((sm_up G r0 10 ((G r0 10) - (i3 1))) (r0 + 7) (((sm_up G r0 10 ((G r0 10) - (i3 1))) r0 10).toNatClampNeg)), .int ((sm_up G r0 10 ((G r0 10) - (i3 1))) (r0 + 8) (((sm_up G r0 10 ((G r0 10) - (i3 1))) r0 10).toNatClampNeg))] (x, sm_up G r0 10 ((G r0 10) - (i3 1)), L)) (fun x7 G7 L7 =>
          oI (i3 1) x7 G7 L7) oX)))
      else (if ((sm_up G r0 10 ((G r0 10) - (i3 1))) (r0 + 6) (((sm_up G r0 10 ((G r0 10) - (i3 1))) r0 10).toNatClampNeg)) < (i3 0) then
          (oI (i3 1) x (sm_up G r0 10 ((G r0 10) - (i3 1))) L)
        else (if ((sm_up G r0 10 ((G r0 10) - (i3 1))) (r0 + 6) (((sm_up G r0 10 ((G r0 10) - (i3 1))) r0 10).toNatClampNeg)) < (i3 8) then
            (gd (sm_in ((sm_up G r0 10 ((G r0 10) - (i3 1))) r0 10) 20) (gd (sm_in ((sm_up G r0 10 ((G r0 10) - (i3 1))) (r0 + 6) (((sm_up G r0 10 ((G r0 10) - (i3 1))) r0 10).toNatClampNeg)) 8) (gd (sm_in ((sm_up (sm_up G r0 10 ((G r0 10) - (i3 1))) (r0 + 3) (((sm_up G r0 10 ((G r0 10) - (i3 1))) (r0 + 6) (((sm_up G r0 10 ((G r0 10) - (i3 1))) r0 10).toNatClampNeg)).toNatClampNeg) ((sm_up G r0 10 ((G r0 10) - (i3 1))) (r0 + 7) (((sm_up G r0 10 ((G r0 10) - (i3 1))) r0 10).toNatClampNeg))) r0 10) 20) (gd (sm_in ((sm_up G r0 10 ((G r0 10) - (i3 1))) (r0 + 6) (((sm_up G r0 10 ((G r0 10) - (i3 1))) r0 10).toNatClampNeg)) 8) (oI (i3 1) x (sm_up (sm_up (sm_up G r0 10 ((G r0 10) - (i3 1))) (r0 + 3) (((sm_up G r0 10 ((G r0 10) - (i3 1))) (r0 + 6) (((sm_up G r0 10 ((G r0 10) - (i3 1))) r0 10).toNatClampNeg)).toNatClampNeg) ((sm_up G r0 10 ((G r0 10) - (i3 1))) (r0 + 7) (((sm_up G r0 10 ((G r0 10) - (i3 1))) r0 10).toNatClampNeg))) (r0 + 4) (((sm_up G r0 10 ((G r0 10) - (i3 1))) (r0 + 6) (((sm_up G r0 10 ((G r0 10) - (i3 1))) r0 10).toNatClampNeg)).toNatClampNeg) ((sm_up (sm_up G r0 10 ((G r0 10) - (i3 1))) (r0 + 3) (((sm_up G r0 10 ((G r0 10) - (i3 1))) (r0 + 6) (((sm_up G r0 10 ((G r0 10) - (i3 1))) r0 10).toNatClampNeg)).toNatClampNeg) ((sm_up G r0 10 ((G r0 10) - (i3 1))) (r0 + 7) (((sm_up G r0 10 ((G r0 10) - (i3 1))) r0 10).toNatClampNeg))) (r0 + 8) (((sm_up (sm_up G r0 10 ((G r0 10) - (i3 1))) (r0 + 3) (((sm_up G r0 10 ((G r0 10) - (i3 1))) (r0 + 6) (((sm_up G r0 10 ((G r0 10) - (i3 1))) r0 10).toNatClampNeg)).toNatClampNeg) ((sm_up G r0 10 ((G r0 10) - (i3 1))) (r0 + 7) (((sm_up G r0 10 ((G r0 10) - (i3 1))) r0 10).toNatClampNeg))) r0 10).toNatClampNeg))) L)))))
          else (oI (i3 1) x (sm_up G r0 10 ((G r0 10) - (i3 1))) L)))))))) := by
  rw [rm_106]
  try simp only [gd_tt, (fP_0_2 V hr0), (fP_0_3 V hr0), (fP_0_4 V hr0), (fP_0_5 V hr0), (fP_0_6 V hr0), (fP_0_7 V hr0), (kP_0 hr0), (kP_3 hr0), (kP_4 hr0), (nP_3 hr0), (nP_4 hr0), (nP_5 hr0), (nP_6 hr0), (nP_7 hr0), (nP_8 hr0), ldi_e (kP_5 hr0) (nP_5 hr0), ldi_e (kP_6 hr0) (nP_6 hr0), ldi_e (kP_7 hr0) (nP_7 hr0), ldi_e (kP_8 hr0) (nP_8 hr0)]
/-! Plan_putNoise -/
set_option maxRecDepth 20000 in
theorem rm_107 {d x : Nat} {R : sm_R} {G : sm_G} {L : sm_L} {r0 : Nat} {v1 v2 v3 : Int32} : sm_cv0 (d + 1) 107 342 R [.ref r0, .int v1, .int v2, .int v3] (x, G, L) =
  if v1 < (i3 0) then
    (oV x G L)
  else (gd (sm_is r0 342 3) (if v1 ≤ (G r0 8) then
      (gd (sm_is r0 342 3) (if (G r0 8) < (i3 12) then
        (gd (sm_is r0 342 3) (hD d 107 28 [.ref r0, .int v1, .int v2, .int v3, .int (G r0 8)] 342 R x G L))
      else (oV x G L)))
    else (oV x G L))) := (cv_eq rfl rfl).trans (hD_eq.trans rfl)
set_option maxRecDepth 20000 in
theorem m_107 {d x : Nat} {V : pV} {G : sm_G} {L : sm_L} {r0 : Nat} {v1 v2 v3 : Int32} (hr0 : pP r0) : sm_cv0 (d + 1) 107 342 (RR V) [.ref r0, .int v1, .int v2, .int v3] (x, G, L) =
  if v1 < (i3 0) then
    (oV x G L)
  else (if v1 ≤ (G r0 8) then
      (if (G r0 8) < (i3 12) then
        (hD d 107 28 [.ref r0, .int v1, .int v2, .int v3, .int (G r0 8)] 342 (RR V) x G L)
      else (oV x G L))
    else (oV x G L)) := by
  rw [rm_107]
  try simp only [gd_tt, (kP_0 hr0)]
set_option maxRecDepth 20000 in
theorem rh_107_28 {d x : Nat} {R : sm_R} {G : sm_G} {L : sm_L} {r0 : Nat} {v1 v2 v3 v4 : Int32} : hD d 107 28 [.ref r0, .int v1, .int v2, .int v3, .int v4] 342 R x G L =
  if v4 ≤ v1 then
    (gd (sm_is r0 342 3) (gd (sm_is (R r0 0) 342 20) (gd (sm_in v1 (sm_N (R r0 0))) (gd (sm_is r0 342 3) (gd (sm_is (R r0 1) 342 20) (gd (sm_in v1 (sm_N (R r0 1))) (gd (sm_is r0 342 3) (gd (sm_is r0 342 3) (oV x (sm_up (sm_up (sm_up G (R r0 0) v1.toNatClampNeg v2) (R r0 1) v1.toNatClampNeg v3) r0 8 (((sm_up (sm_up G (R r0 0) v1.toNatClampNeg v2) (R r0 1) v1.toNatClampNeg v3) r0 8) + (i3 1))) L)))))))))
  else (gd (sm_is r0 342 3) (gd (sm_is r0 342 3) (ldi (R r0 0) (v4 - (i3 1)) G (fun y1 => gd (sm_is (R r0 0) 342 20) (gd (sm_in v4 (sm_N (R r0 0))) (gd (sm_is r0 342 3) (gd (sm_is r0 342 3) (ldi (R r0 1) (v4 - (i3 1)) (sm_up G (R r0 0) v4.toNatClampNeg y1) (fun y2 => gd (sm_is (R r0 1) 342 20) (gd (sm_in v4 (sm_N (R r0 1))) (hD d 107 28 [.ref r0, .int v1, .int v2, .int v3, .int (v4 + m1)] 342 R x (sm_up (sm_up G (R r0 0) v4.toNatClampNeg y1) (R r0 1) v4.toNatClampNeg y2) L))))))))))) := hD_eq.trans rfl
set_option maxRecDepth 20000 in
theorem h_107_28 {d x : Nat} {V : pV} {G : sm_G} {L : sm_L} {r0 : Nat} {v1 v2 v3 v4 : Int32} (hr0 : pP r0) : hD d 107 28 [.ref r0, .int v1, .int v2, .int v3, .int v4] 342 (RR V) x G L =
  if v4 ≤ v1 then
    (gd (sm_in v1 12) (gd (sm_in v1 12) (oV x (sm_up (sm_up (sm_up G (r0 + 1) v1.toNatClampNeg v2) (r0 + 2) v1.toNatClampNeg v3) r0 8 (((sm_up (sm_up G (r0 + 1) v1.toNatClampNeg v2) (r0 + 2) v1.toNatClampNeg v3) r0 8) + (i3 1))) L)))
  else (gd (sm_in (v4 - (i3 1)) 12) (gd (sm_in v4 12) (gd (sm_in (v4 - (i3 1)) 12) (gd (sm_in v4 12) (hD d 107 28 [.ref r0, .int v1, .int v2, .int v3, .int (v4 + m1)] 342 (RR V) x (sm_up (sm_up G (r0 + 1) v4.toNatClampNeg (G (r0 + 1) ((v4 - (i3 1)).toNatClampNeg))) (r0 + 2) v4.toNatClampNeg ((sm_up G (r0 + 1) v4.toNatClampNeg (G (r0 + 1) ((v4 - (i3 1)).toNatClampNeg))) (r0 + 2) ((v4 - (i3 1)).toNatClampNeg))) L))))) := by
  rw [rh_107_28]
  try simp only [gd_tt, (fP_0_0 V hr0), (fP_0_1 V hr0), (kP_0 hr0), (kP_1 hr0), (kP_2 hr0), (nP_1 hr0), (nP_2 hr0), ldi_e (kP_1 hr0) (nP_1 hr0), ldi_e (kP_2 hr0) (nP_2 hr0)]
/-! Plan_copyFrom -/
set_option maxRecDepth 20000 in
theorem rm_108 {d x : Nat} {R : sm_R} {G : sm_G} {L : sm_L} {r0 r1 : Nat} : sm_cv0 (d + 1) 108 342 R [.ref r0, .ref r1] (x, G, L) =
  gd (sm_is r1 342 3) (gd (sm_is r0 342 3) (sm_aV (sm_cv0 d 3 342 R [.ref (R r1 0), .int (i3 0), .ref (R r0 0), .int (i3 0), .int (i3 12)] (x, G, L)) (fun x1 G1 L1 =>
    gd (sm_is r1 342 3) (gd (sm_is r0 342 3) (sm_aV (sm_cv0 d 3 342 R [.ref (R r1 1), .int (i3 0), .ref (R r0 1), .int (i3 0), .int (i3 12)] (x1, G1, L1)) (fun x2 G2 L2 =>
      gd (sm_is r1 342 3) (gd (sm_is r0 342 3) (sm_aV (sm_cv0 d 3 342 R [.ref (R r1 2), .int (i3 0), .ref (R r0 2), .int (i3 0), .int (i3 8)] (x2, G2, L2)) (fun x3 G3 L3 =>
        gd (sm_is r1 342 3) (gd (sm_is r0 342 3) (sm_aV (sm_cv0 d 3 342 R [.ref (R r1 3), .int (i3 0), .ref (R r0 3), .int (i3 0), .int (i3 8)] (x3, G3, L3)) (fun x4 G4 L4 =>
          gd (sm_is r1 342 3) (gd (sm_is r0 342 3) (sm_aV (sm_cv0 d 3 342 R [.ref (R r1 4), .int (i3 0), .ref (R r0 4), .int (i3 0), .int (i3 20)] (x4, G4, L4)) (fun x5 G5 L5 =>
            gd (sm_is r1 342 3) (gd (sm_is r0 342 3) (sm_aV (sm_cv0 d 3 342 R [.ref (R r1 5), .int (i3 0), .ref (R r0 5), .int (i3 0), .int (i3 20)] (x5, G5, L5)) (fun x6 G6 L6 =>
              gd (sm_is r1 342 3) (gd (sm_is r0 342 3) (sm_aV (sm_cv0 d 3 342 R [.ref (R r1 6), .int (i3 0), .ref (R r0 6), .int (i3 0), .int (i3 20)] (x6, G6, L6)) (fun x7 G7 L7 =>
                gd (sm_is r1 342 3) (gd (sm_is r0 342 3) (sm_aV (sm_cv0 d 3 342 R [.ref (R r1 7), .int (i3 0), .ref (R r0 7), .int (i3 0), .int (i3 20)] (x7, G7, L7)) (fun x8 G8 L8 =>
                  gd (sm_is r1 342 3) (gd (sm_is r0 342 3) (gd (sm_is r1 342 3) (gd (sm_is r0 342 3) (gd (sm_is r1 342 3) (gd (sm_is r0 342 3) (oV x8 (sm_up (sm_up (sm_up G8 r0 8 (G8 r1 8)) r0 9 ((sm_up G8 r0 8 (G8 r1 8)) r1 9)) r0 10 ((sm_up (sm_up G8 r0 8 (G8 r1 8)) r0 9 ((sm_up G8 r0 8 (G8 r1 8)) r1 9)) r1 10)) L8))))))) oX))) oX))) oX))) oX))) oX))) oX))) oX))) oX)) := (cv_eq rfl rfl).trans (hD_eq.trans rfl)
set_option maxRecDepth 20000 in
theorem m_108 {d x : Nat} {V : pV} {G : sm_G} {L : sm_L} {r0 r1 : Nat} (hr0 : pP r0) (hr1 : pP r1) : sm_cv0 (d + 1) 108 342 (RR V) [.ref r0, .ref r1] (x, G, L) =
  sm_aV (sm_cv0 d 3 342 (RR V) [.ref (r1 + 1), .int (i3 0), .ref (r0 + 1), .int (i3 0), .int (i3 12)] (x, G, L)) (fun x1 G1 L1 =>
    sm_aV (sm_cv0 d 3 342 (RR V) [.ref (r1 + 2), .int (i3 0), .ref (r0 + 2), .int (i3 0), .int (i3 12)] (x1, G1, L1)) (fun x2 G2 L2 =>
      sm_aV (sm_cv0 d 3 342 (RR V) [.ref (r1 + 3), .int (i3 0), .ref (r0 + 3), .int (i3 0), .int (i3 8)] (x2, G2, L2)) (fun x3 G3 L3 =>
        sm_aV (sm_cv0 d 3 342 (RR V) [.ref (r1 + 4), .int (i3 0), .ref (r0 + 4), .int (i3 0), .int (i3 8)] (x3, G3, L3)) (fun x4 G4 L4 =>
          sm_aV (sm_cv0 d 3 342 (RR V) [.ref (r1 + 5), .int (i3 0), .ref (r0 + 5), .int (i3 0), .int (i3 20)] (x4, G4, L4)) (fun x5 G5 L5 =>
            sm_aV (sm_cv0 d 3 342 (RR V) [.ref (r1 + 6), .int (i3 0), .ref (r0 + 6), .int (i3 0), .int (i3 20)] (x5, G5, L5)) (fun x6 G6 L6 =>
              sm_aV (sm_cv0 d 3 342 (RR V) [.ref (r1 + 7), .int (i3 0), .ref (r0 + 7), .int (i3 0), .int (i3 20)] (x6, G6, L6)) (fun x7 G7 L7 =>
                sm_aV (sm_cv0 d 3 342 (RR V) [.ref (r1 + 8), .int (i3 0), .ref (r0 + 8), .int (i3 0), .int (i3 20)] (x7, G7, L7)) (fun x8 G8 L8 =>
                  oV x8 (sm_up (sm_up (sm_up G8 r0 8 (G8 r1 8)) r0 9 ((sm_up G8 r0 8 (G8 r1 8)) r1 9)) r0 10 ((sm_up (sm_up G8 r0 8 (G8 r1 8)) r0 9 ((sm_up G8 r0 8 (G8 r1 8)) r1 9)) r1 10)) L8) oX) oX) oX) oX) oX) oX) oX) oX := by
  rw [rm_108]
  try simp only [gd_tt, (fP_0_0 V hr0), (fP_0_0 V hr1), (fP_0_1 V hr0), (fP_0_1 V hr1), (fP_0_2 V hr0), (fP_0_2 V hr1), (fP_0_3 V hr0), (fP_0_3 V hr1), (fP_0_4 V hr0), (fP_0_4 V hr1), (fP_0_5 V hr0), (fP_0_5 V hr1), (fP_0_6 V hr0), (fP_0_6 V hr1), (fP_0_7 V hr0), (fP_0_7 V hr1), (kP_0 hr0), (kP_0 hr1)]
/-! Plan_clear -/
set_option maxRecDepth 20000 in
theorem rm_109 {d x : Nat} {R : sm_R} {G : sm_G} {L : sm_L} {r0 : Nat} : sm_cv0 (d + 1) 109 342 R [.ref r0] (x, G, L) =
  gd (sm_is r0 342 3) (gd (sm_is r0 342 3) (gd (sm_is r0 342 3) (oV x (sm_up (sm_up (sm_up G r0 8 (i3 0)) r0 9 (i3 0)) r0 10 (i3 0)) L))) := (cv_eq rfl rfl).trans (hD_eq.trans rfl)
set_option maxRecDepth 20000 in
theorem m_109 {d x : Nat} {V : pV} {G : sm_G} {L : sm_L} {r0 : Nat} (hr0 : pP r0) : sm_cv0 (d + 1) 109 342 (RR V) [.ref r0] (x, G, L) =
  oV x (sm_up (sm_up (sm_up G r0 8 (i3 0)) r0 9 (i3 0)) r0 10 (i3 0)) L := by
  rw [rm_109]
  try simp only [gd_tt, (kP_0 hr0)]
/-! Plan_addNoise -/
set_option maxRecDepth 20000 in
theorem rm_110 {d x : Nat} {R : sm_R} {G : sm_G} {L : sm_L} {r0 : Nat} {v1 v2 : Int32} : sm_cv0 (d + 1) 110 342 R [.ref r0, .int v1, .int v2] (x, G, L) =
  gd (sm_is r0 342 3) (if (G r0 8) < (i3 12) then
    (gd (sm_is r0 342 3) (if (G r0 10) < (i3 20) then
      (gd (sm_is r0 342 3) (gd (sm_is r0 342 3) (sm_aV (sm_cv0 d 104 342 R [.ref r0, .int (i3 0), .int (G r0 8), .int v1, .int v2] (x, G, L)) (fun x1 G1 L1 =>
        gd (sm_is r0 342 3) (gd (sm_is r0 342 3) (sm_aV (sm_cv0 d 107 342 R [.ref r0, .int (G1 r0 8), .int v1, .int v2] (x1, G1, L1)) (fun x2 G2 L2 =>
          oI (i3 1) x2 G2 L2) oX))) oX)))
    else (oI (i3 0) x G L)))
  else (oI (i3 0) x G L)) := (cv_eq rfl rfl).trans (hD_eq.trans rfl)
set_option maxRecDepth 20000 in
theorem m_110 {d x : Nat} {V : pV} {G : sm_G} {L : sm_L} {r0 : Nat} {v1 v2 : Int32} (hr0 : pP r0) : sm_cv0 (d + 1) 110 342 (RR V) [.ref r0, .int v1, .int v2] (x, G, L) =
  if (G r0 8) < (i3 12) then
    (if (G r0 10) < (i3 20) then
      (sm_aV (sm_cv0 d 104 342 (RR V) [.ref r0, .int (i3 0), .int (G r0 8), .int v1, .int v2] (x, G, L)) (fun x1 G1 L1 =>
        sm_aV (sm_cv0 d 107 342 (RR V) [.ref r0, .int (G1 r0 8), .int v1, .int v2] (x1, G1, L1)) (fun x2 G2 L2 =>
          oI (i3 1) x2 G2 L2) oX) oX)
    else (oI (i3 0) x G L))
  else (oI (i3 0) x G L) := by
  rw [rm_110]
  try simp only [gd_tt, (kP_0 hr0)]
/-! Plan_moveSleep -/
set_option maxRecDepth 20000 in
theorem rm_111 {d x : Nat} {R : sm_R} {G : sm_G} {L : sm_L} {r0 : Nat} {v1 v2 v3 : Int32} : sm_cv0 (d + 1) 111 342 R [.ref r0, .int v1, .int v2, .int v3] (x, G, L) =
  if v1 < (i3 0) then
    (oI (i3 0) x G L)
  else (if v1 < (i3 8) then
      (gd (sm_is r0 342 3) (if (G r0 10) < (i3 20) then
        (gd (sm_is r0 342 3) (ldi (R r0 2) v1 G (fun y1 => gd (sm_is r0 342 3) (ldi (R r0 3) v1 G (fun y2 => gd (sm_is r0 342 3) (sm_aV (sm_cv0 d 104 342 R [.ref r0, .int (i3 2), .int v1, .int y1, .int y2] (x, G, L)) (fun x3 G3 L3 =>
          gd (sm_is r0 342 3) (gd (sm_is (R r0 2) 342 20) (gd (sm_in v1 (sm_N (R r0 2))) (gd (sm_is r0 342 3) (gd (sm_is (R r0 3) 342 20) (gd (sm_in v1 (sm_N (R r0 3))) (oI (i3 1) x3 (sm_up (sm_up G3 (R r0 2) v1.toNatClampNeg v2) (R r0 3) v1.toNatClampNeg v3) L3))))))) oX))))))
      else (oI (i3 0) x G L)))
    else (oI (i3 0) x G L)) := (cv_eq rfl rfl).trans (hD_eq.trans rfl)
set_option maxRecDepth 20000 in
theorem m_111 {d x : Nat} {V : pV} {G : sm_G} {L : sm_L} {r0 : Nat} {v1 v2 v3 : Int32} (hr0 : pP r0) : sm_cv0 (d + 1) 111 342 (RR V) [.ref r0, .int v1, .int v2, .int v3] (x, G, L) =
  if v1 < (i3 0) then
    (oI (i3 0) x G L)
  else (if v1 < (i3 8) then
      (if (G r0 10) < (i3 20) then
        (gd (sm_in v1 8) (gd (sm_in v1 8) (sm_aV (sm_cv0 d 104 342 (RR V) [.ref r0, .int (i3 2), .int v1, .int (G (r0 + 3) v1.toNatClampNeg), .int (G (r0 + 4) v1.toNatClampNeg)] (x, G, L)) (fun x3 G3 L3 =>
          gd (sm_in v1 8) (gd (sm_in v1 8) (oI (i3 1) x3 (sm_up (sm_up G3 (r0 + 3) v1.toNatClampNeg v2) (r0 + 4) v1.toNatClampNeg v3) L3))) oX)))
      else (oI (i3 0) x G L))
    else (oI (i3 0) x G L)) := by
  rw [rm_111]
  try simp only [gd_tt, (fP_0_2 V hr0), (fP_0_3 V hr0), (kP_0 hr0), (kP_3 hr0), (kP_4 hr0), (nP_3 hr0), (nP_4 hr0), ldi_e (kP_3 hr0) (nP_3 hr0), ldi_e (kP_4 hr0) (nP_4 hr0)]
/-! Puzzle_leastSorts -/
set_option maxRecDepth 20000 in
theorem rm_112 {d x : Nat} {R : sm_R} {G : sm_G} {L : sm_L} {r1 : Nat} {v2 v3 : Int32} : sm_cv0 (d + 1) 112 342 R [.ref 105, .ref r1, .int v2, .int v3] (x, G, L) =
  hD d 112 6 [.null, .ref r1, .int v2, .int v3, .int m1, .int (i3 0), .null] 342 R x G L := (cv_eq rfl rfl).trans (hD_eq.trans rfl)
theorem m_112 {d x : Nat} {V : pV} {G : sm_G} {L : sm_L} {r1 : Nat} {v2 v3 : Int32} (hr1 : pS r1) : sm_cv0 (d + 1) 112 342 (RR V) [.ref 105, .ref r1, .int v2, .int v3] (x, G, L) =
  hD d 112 6 [.null, .ref r1, .int v2, .int v3, .int m1, .int (i3 0), .null] 342 (RR V) x G L := rm_112
set_option maxRecDepth 20000 in
theorem rh_112_6 {d x : Nat} {R : sm_R} {G : sm_G} {L : sm_L} {r1 : Nat} {v2 v3 v4 v5 : Int32} : hD d 112 6 [.null, .ref r1, .int v2, .int v3, .int v4, .int v5, .null] 342 R x G L =
  if v5 < (i3 64) then
    (sm_aI (sm_cv0 d 113 342 R [.ref r1, .int v5] (x, G, L)) (fun a1 x1 G1 L1 =>
      if (a1 &&& v2) = v2 then
        (if (a1 &&& v3) = (i3 0) then
          (sm_aI (sm_cv0 d 114 342 R [.int v5, .int v4] (x1, G1, L1)) (fun a2 x2 G2 L2 =>
            if a2 = (i3 0) then
              (hD d 112 53 [.null, .ref r1, .int v2, .int v3, .int v4, .int (v5 + (i3 1)), .null] 342 R x2 G2 L2)
            else (hD d 112 53 [.null, .ref r1, .int v2, .int v3, .int v5, .int (v5 + (i3 1)), .null] 342 R x2 G2 L2)) oX)
        else (hD d 112 53 [.null, .ref r1, .int v2, .int v3, .int v4, .int (v5 + (i3 1)), .null] 342 R x1 G1 L1))
      else (hD d 112 53 [.null, .ref r1, .int v2, .int v3, .int v4, .int (v5 + (i3 1)), .null] 342 R x1 G1 L1)) oX)
  else (oI v4 x G L) := hD_eq.trans rfl
theorem h_112_6 {d x : Nat} {V : pV} {G : sm_G} {L : sm_L} {r1 : Nat} {v2 v3 v4 v5 : Int32} (hr1 : pS r1) : hD d 112 6 [.null, .ref r1, .int v2, .int v3, .int v4, .int v5, .null] 342 (RR V) x G L =
  if v5 < (i3 64) then
    (sm_aI (sm_cv0 d 113 342 (RR V) [.ref r1, .int v5] (x, G, L)) (fun a1 x1 G1 L1 =>
      if (a1 &&& v2) = v2 then
        (if (a1 &&& v3) = (i3 0) then
          (sm_aI (sm_cv0 d 114 342 (RR V) [.int v5, .int v4] (x1, G1, L1)) (fun a2 x2 G2 L2 =>
            if a2 = (i3 0) then
              (hD d 112 53 [.null, .ref r1, .int v2, .int v3, .int v4, .int (v5 + (i3 1)), .null] 342 (RR V) x2 G2 L2)
            else (hD d 112 53 [.null, .ref r1, .int v2, .int v3, .int v5, .int (v5 + (i3 1)), .null] 342 (RR V) x2 G2 L2)) oX)
        else (hD d 112 53 [.null, .ref r1, .int v2, .int v3, .int v4, .int (v5 + (i3 1)), .null] 342 (RR V) x1 G1 L1))
      else (hD d 112 53 [.null, .ref r1, .int v2, .int v3, .int v4, .int (v5 + (i3 1)), .null] 342 (RR V) x1 G1 L1)) oX)
  else (oI v4 x G L) := rh_112_6
set_option maxRecDepth 20000 in
theorem rh_112_53 {d x : Nat} {R : sm_R} {G : sm_G} {L : sm_L} {r1 : Nat} {v2 v3 v4 v5 : Int32} : hD d 112 53 [.null, .ref r1, .int v2, .int v3, .int v4, .int v5, .null] 342 R x G L =
  hD d 112 6 [.null, .ref r1, .int v2, .int v3, .int v4, .int v5, .null] 342 R x G L := hD_eq.trans rfl
theorem h_112_53 {d x : Nat} {V : pV} {G : sm_G} {L : sm_L} {r1 : Nat} {v2 v3 v4 v5 : Int32} (hr1 : pS r1) : hD d 112 53 [.null, .ref r1, .int v2, .int v3, .int v4, .int v5, .null] 342 (RR V) x G L =
  hD d 112 6 [.null, .ref r1, .int v2, .int v3, .int v4, .int v5, .null] 342 (RR V) x G L := rh_112_53
/-! Puzzle_doorsBy -/
set_option maxRecDepth 20000 in
theorem rm_113 {d x : Nat} {R : sm_R} {G : sm_G} {L : sm_L} {r0 : Nat} {v1 : Int32} : sm_cv0 (d + 1) 113 342 R [.ref r0, .int v1] (x, G, L) =
  gd (sm_is r0 342 5) (hD d 113 7 [.ref r0, .int v1, .int (G r0 13), .int (i3 0)] 342 R x G L) := (cv_eq rfl rfl).trans (hD_eq.trans rfl)
set_option maxRecDepth 20000 in
theorem m_113 {d x : Nat} {V : pV} {G : sm_G} {L : sm_L} {r0 : Nat} {v1 : Int32} (hr0 : pS r0) : sm_cv0 (d + 1) 113 342 (RR V) [.ref r0, .int v1] (x, G, L) =
  hD d 113 7 [.ref r0, .int v1, .int (G r0 13), .int (i3 0)] 342 (RR V) x G L := by
  rw [rm_113]
  try simp only [gd_tt, (kS_0 hr0)]
set_option maxRecDepth 20000 in
theorem rh_113_7 {d x : Nat} {R : sm_R} {G : sm_G} {L : sm_L} {r0 : Nat} {v1 v2 v3 : Int32} : hD d 113 7 [.ref r0, .int v1, .int v2, .int v3] 342 R x G L =
  if v3 < (i3 6) then
    (if ((shr v1 v3) &&& (i3 1)) = (i3 0) then
      (hD d 113 7 [.ref r0, .int v1, .int v2, .int (v3 + (i3 1))] 342 R x G L)
    else (gd (sm_is r0 342 5) (ldi (R r0 6) v3 G (fun y1 => hD d 113 7 [.ref r0, .int v1, .int (v2 ^^^ y1), .int (v3 + (i3 1))] 342 R x G L))))
  else (oI v2 x G L) := hD_eq.trans rfl
set_option maxRecDepth 20000 in
theorem h_113_7 {d x : Nat} {V : pV} {G : sm_G} {L : sm_L} {r0 : Nat} {v1 v2 v3 : Int32} (hr0 : pS r0) : hD d 113 7 [.ref r0, .int v1, .int v2, .int v3] 342 (RR V) x G L =
  if v3 < (i3 6) then
    (if ((shr v1 v3) &&& (i3 1)) = (i3 0) then
      (hD d 113 7 [.ref r0, .int v1, .int v2, .int (v3 + (i3 1))] 342 (RR V) x G L)
    else (gd (sm_in v3 6) (hD d 113 7 [.ref r0, .int v1, .int (v2 ^^^ (G (r0 + 15) v3.toNatClampNeg)), .int (v3 + (i3 1))] 342 (RR V) x G L)))
  else (oI v2 x G L) := by
  rw [rh_113_7]
  try simp only [gd_tt, (fS_0_6 V hr0), (kS_0 hr0), (nS_15 hr0), ldi_e (kS_15 hr0) (nS_15 hr0)]
/-! Puzzle_isBefore -/
set_option maxRecDepth 20000 in
theorem rm_114 {d x : Nat} {R : sm_R} {G : sm_G} {L : sm_L} {v0 v1 : Int32} : sm_cv0 (d + 1) 114 342 R [.int v0, .int v1] (x, G, L) =
  if v1 = m1 then
    (oI (i3 1) x G L)
  else (sm_aI (sm_cv0 d 7 342 R [.int v1] (x, G, L)) (fun a1 x1 G1 L1 =>
      sm_aI (sm_cv0 d 7 342 R [.int v0] (x1, G1, L1)) (fun a2 x2 G2 L2 =>
        if (a1 - a2) ≤ (i3 0) then
          (if (a1 - a2) = (i3 0) then
            (sm_aI (sm_cv0 d 115 342 R [.int v0] (x2, G2, L2)) (fun a3 x3 G3 L3 =>
              sm_aI (sm_cv0 d 115 342 R [.int v1] (x3, G3, L3)) (fun a4 x4 G4 L4 =>
                if a3 < a4 then
                  (oI (i3 1) x4 G4 L4)
                else (oI (i3 0) x4 G4 L4)) oX) oX)
          else (oI (i3 0) x2 G2 L2))
        else (oI (i3 1) x2 G2 L2)) oX) oX) := (cv_eq rfl rfl).trans (hD_eq.trans rfl)
theorem m_114 {d x : Nat} {V : pV} {G : sm_G} {L : sm_L} {v0 v1 : Int32} : sm_cv0 (d + 1) 114 342 (RR V) [.int v0, .int v1] (x, G, L) =
  if v1 = m1 then
    (oI (i3 1) x G L)
  else (sm_aI (sm_cv0 d 7 342 (RR V) [.int v1] (x, G, L)) (fun a1 x1 G1 L1 =>
      sm_aI (sm_cv0 d 7 342 (RR V) [.int v0] (x1, G1, L1)) (fun a2 x2 G2 L2 =>
        if (a1 - a2) ≤ (i3 0) then
          (if (a1 - a2) = (i3 0) then
            (sm_aI (sm_cv0 d 115 342 (RR V) [.int v0] (x2, G2, L2)) (fun a3 x3 G3 L3 =>
              sm_aI (sm_cv0 d 115 342 (RR V) [.int v1] (x3, G3, L3)) (fun a4 x4 G4 L4 =>
                if a3 < a4 then
                  (oI (i3 1) x4 G4 L4)
                else (oI (i3 0) x4 G4 L4)) oX) oX)
          else (oI (i3 0) x2 G2 L2))
        else (oI (i3 1) x2 G2 L2)) oX) oX) := rm_114
/-! Puzzle_digits -/
set_option maxRecDepth 20000 in
theorem rm_115 {d x : Nat} {R : sm_R} {G : sm_G} {L : sm_L} {v0 : Int32} : sm_cv0 (d + 1) 115 342 R [.int v0] (x, G, L) =
  hD d 115 4 [.int v0, .int (i3 0), .int (i3 0)] 342 R x G L := (cv_eq rfl rfl).trans (hD_eq.trans rfl)
theorem m_115 {d x : Nat} {V : pV} {G : sm_G} {L : sm_L} {v0 : Int32} : sm_cv0 (d + 1) 115 342 (RR V) [.int v0] (x, G, L) =
  hD d 115 4 [.int v0, .int (i3 0), .int (i3 0)] 342 (RR V) x G L := rm_115
set_option maxRecDepth 20000 in
theorem rh_115_4 {d x : Nat} {R : sm_R} {G : sm_G} {L : sm_L} {v0 v1 v2 : Int32} : hD d 115 4 [.int v0, .int v1, .int v2] 342 R x G L =
  if v2 < (i3 6) then
    (if ((shr v0 v2) &&& (i3 1)) = (i3 0) then
      (hD d 115 4 [.int v0, .int v1, .int (v2 + (i3 1))] 342 R x G L)
    else (hD d 115 4 [.int v0, .int ((v1 * (i3 10)) + v2), .int (v2 + (i3 1))] 342 R x G L))
  else (oI v1 x G L) := hD_eq.trans rfl
theorem h_115_4 {d x : Nat} {V : pV} {G : sm_G} {L : sm_L} {v0 v1 v2 : Int32} : hD d 115 4 [.int v0, .int v1, .int v2] 342 (RR V) x G L =
  if v2 < (i3 6) then
    (if ((shr v0 v2) &&& (i3 1)) = (i3 0) then
      (hD d 115 4 [.int v0, .int v1, .int (v2 + (i3 1))] 342 (RR V) x G L)
    else (hD d 115 4 [.int v0, .int ((v1 * (i3 10)) + v2), .int (v2 + (i3 1))] 342 (RR V) x G L))
  else (oI v1 x G L) := rh_115_4
/-! Puzzle_playOut -/
set_option maxRecDepth 20000 in
theorem rm_116 {d x : Nat} {R : sm_R} {G : sm_G} {L : sm_L} {r1 : Nat} {v2 : Int32} : sm_cv0 (d + 1) 116 342 R [.ref 105, .ref r1, .int v2] (x, G, L) =
  hD d 116 2 [.ref 105, .ref r1, .int v2, .int (i3 0), .null, .null] 342 R x G L := (cv_eq rfl rfl).trans (hD_eq.trans rfl)
theorem m_116 {d x : Nat} {V : pV} {G : sm_G} {L : sm_L} {r1 : Nat} {v2 : Int32} (hr1 : pS r1) : sm_cv0 (d + 1) 116 342 (RR V) [.ref 105, .ref r1, .int v2] (x, G, L) =
  hD d 116 2 [.ref 105, .ref r1, .int v2, .int (i3 0), .null, .null] 342 (RR V) x G L := rm_116
set_option maxRecDepth 20000 in
theorem rh_116_2 {d x : Nat} {R : sm_R} {G : sm_G} {L : sm_L} {r1 : Nat} {v2 v3 : Int32} : hD d 116 2 [.ref 105, .ref r1, .int v2, .int v3, .null, .null] 342 R x G L =
  if v3 < (i3 64) then
    (sm_aI (sm_cv0 d 113 342 R [.ref r1, .int v3] (x, G, L)) (fun a1 x1 G1 L1 =>
      sm_aI (sm_cv0 d 7 342 R [.int a1] (x1, G1, L1)) (fun a2 x2 G2 L2 =>
        gd (sm_is (R 105 0) 342 20) (gd (sm_in v3 (sm_N (R 105 0))) (hD d 116 2 [.ref 105, .ref r1, .int v2, .int (v3 + (i3 1)), .null, .null] 342 R x2 (sm_up G2 (R 105 0) v3.toNatClampNeg a2) L2))) oX) oX)
  else (hD d 116 37 [.ref 105, .ref r1, .null, .int (v2 - (i3 1)), .null, .null] 342 R x (sm_up G 105 3 m1) L) := hD_eq.trans rfl
set_option maxRecDepth 20000 in
theorem h_116_2 {d x : Nat} {V : pV} {G : sm_G} {L : sm_L} {r1 : Nat} {v2 v3 : Int32} (hr1 : pS r1) : hD d 116 2 [.ref 105, .ref r1, .int v2, .int v3, .null, .null] 342 (RR V) x G L =
  if v3 < (i3 64) then
    (sm_aI (sm_cv0 d 113 342 (RR V) [.ref r1, .int v3] (x, G, L)) (fun a1 x1 G1 L1 =>
      sm_aI (sm_cv0 d 7 342 (RR V) [.int a1] (x1, G1, L1)) (fun a2 x2 G2 L2 =>
        gd (sm_in v3 64) (hD d 116 2 [.ref 105, .ref r1, .int v2, .int (v3 + (i3 1)), .null, .null] 342 (RR V) x2 (sm_up G2 106 v3.toNatClampNeg a2) L2)) oX) oX)
  else (hD d 116 37 [.ref 105, .ref r1, .null, .int (v2 - (i3 1)), .null, .null] 342 (RR V) x (sm_up G 105 3 m1) L) := by
  rw [rh_116_2]
  try simp only [gd_tt, (q_105_0 V), k_105, k_106, n_106]
set_option maxRecDepth 20000 in
theorem rh_116_37 {d x : Nat} {R : sm_R} {G : sm_G} {L : sm_L} {r1 : Nat} {v3 : Int32} : hD d 116 37 [.ref 105, .ref r1, .null, .int v3, .null, .null] 342 R x G L =
  if v3 < (i3 0) then
    (ldi (R 105 0) (i3 0) G (fun y1 => oV x (sm_up G 105 2 y1) L))
  else (sm_aV (sm_cv0 d 3 342 R [.ref (R 105 0), .int (i3 0), .ref (R 105 1), .int (i3 0), .int (i3 64)] (x, G, L)) (fun x2 G2 L2 =>
      hD d 116 59 [.ref 105, .ref r1, .null, .int v3, .int (i3 0), .null] 342 R x2 G2 L2) oX) := hD_eq.trans rfl
set_option maxRecDepth 20000 in
theorem h_116_37 {d x : Nat} {V : pV} {G : sm_G} {L : sm_L} {r1 : Nat} {v3 : Int32} (hr1 : pS r1) : hD d 116 37 [.ref 105, .ref r1, .null, .int v3, .null, .null] 342 (RR V) x G L =
  if v3 < (i3 0) then
    (oV x (sm_up G 105 2 (G 106 0)) L)
  else (sm_aV (sm_cv0 d 3 342 (RR V) [.ref 106, .int (i3 0), .ref 107, .int (i3 0), .int (i3 64)] (x, G, L)) (fun x2 G2 L2 =>
      hD d 116 59 [.ref 105, .ref r1, .null, .int v3, .int (i3 0), .null] 342 (RR V) x2 G2 L2) oX) := by
  rw [rh_116_37]
  try simp only [gd_tt, (q_105_0 V), (q_105_1 V), cl_0, inl_0_64, k_105, ldi_e k_106 n_106, n_106]
set_option maxRecDepth 20000 in
theorem rh_116_59 {d x : Nat} {R : sm_R} {G : sm_G} {L : sm_L} {r1 : Nat} {v3 v4 : Int32} : hD d 116 59 [.ref 105, .ref r1, .null, .int v3, .int v4, .null] 342 R x G L =
  if v4 < (i3 64) then
    (if (irem v3 (i3 2)) = (i3 0) then
      (sm_aI (sm_cv0 d 117 342 R [.ref 105, .ref r1, .int v4, .int (i3 1)] (x, G, L)) (fun a1 x1 G1 L1 =>
        hD d 116 86 [.ref 105, .ref r1, .null, .int v3, .int v4, .int a1] 342 R x1 G1 L1) oX)
    else (sm_aI (sm_cv0 d 117 342 R [.ref 105, .ref r1, .int v4, .int (i3 0)] (x, G, L)) (fun a2 x2 G2 L2 =>
        hD d 116 86 [.ref 105, .ref r1, .null, .int v3, .int v4, .int a2] 342 R x2 G2 L2) oX))
  else (hD d 116 37 [.ref 105, .ref r1, .null, .int (v3 + m1), .null, .null] 342 R x G L) := hD_eq.trans rfl
set_option maxRecDepth 20000 in
theorem h_116_59 {d x : Nat} {V : pV} {G : sm_G} {L : sm_L} {r1 : Nat} {v3 v4 : Int32} (hr1 : pS r1) : hD d 116 59 [.ref 105, .ref r1, .null, .int v3, .int v4, .null] 342 (RR V) x G L =
  if v4 < (i3 64) then
    (if (irem v3 (i3 2)) = (i3 0) then
      (sm_aI (sm_cv0 d 117 342 (RR V) [.ref 105, .ref r1, .int v4, .int (i3 1)] (x, G, L)) (fun a1 x1 G1 L1 =>
        hD d 116 86 [.ref 105, .ref r1, .null, .int v3, .int v4, .int a1] 342 (RR V) x1 G1 L1) oX)
    else (sm_aI (sm_cv0 d 117 342 (RR V) [.ref 105, .ref r1, .int v4, .int (i3 0)] (x, G, L)) (fun a2 x2 G2 L2 =>
        hD d 116 86 [.ref 105, .ref r1, .null, .int v3, .int v4, .int a2] 342 (RR V) x2 G2 L2) oX))
  else (hD d 116 37 [.ref 105, .ref r1, .null, .int (v3 + m1), .null, .null] 342 (RR V) x G L) := by
  rw [rh_116_59]
  try simp only [gd_tt, k_105]
set_option maxRecDepth 20000 in
theorem rh_116_86 {d x : Nat} {R : sm_R} {G : sm_G} {L : sm_L} {r1 : Nat} {v3 v4 v5 : Int32} : hD d 116 86 [.ref 105, .ref r1, .null, .int v3, .int v4, .int v5] 342 R x G L =
  if v5 = m1 then
    (ldi (R 105 1) v4 G (fun y1 => gd (sm_is (R 105 0) 342 20) (gd (sm_in v4 (sm_N (R 105 0))) (if v4 = (i3 0) then
      (hD d 116 59 [.ref 105, .ref r1, .null, .int v3, .int (v4 + (i3 1)), .null] 342 R x (sm_up (sm_up G (R 105 0) v4.toNatClampNeg y1) 105 3 v5) L)
    else (hD d 116 59 [.ref 105, .ref r1, .null, .int v3, .int (v4 + (i3 1)), .null] 342 R x (sm_up G (R 105 0) v4.toNatClampNeg y1) L)))))
  else (ldi (R 105 1) (v4 ^^^ (shl (i3 1) v5)) G (fun y2 => gd (sm_is (R 105 0) 342 20) (gd (sm_in v4 (sm_N (R 105 0))) (if v4 = (i3 0) then
      (hD d 116 59 [.ref 105, .ref r1, .null, .int v3, .int (v4 + (i3 1)), .null] 342 R x (sm_up (sm_up G (R 105 0) v4.toNatClampNeg y2) 105 3 v5) L)
    else (hD d 116 59 [.ref 105, .ref r1, .null, .int v3, .int (v4 + (i3 1)), .null] 342 R x (sm_up G (R 105 0) v4.toNatClampNeg y2) L))))) := hD_eq.trans rfl
set_option maxRecDepth 20000 in
theorem h_116_86 {d x : Nat} {V : pV} {G : sm_G} {L : sm_L} {r1 : Nat} {v3 v4 v5 : Int32} (hr1 : pS r1) : hD d 116 86 [.ref 105, .ref r1, .null, .int v3, .int v4, .int v5] 342 (RR V) x G L =
  if v5 = m1 then
    (gd (sm_in v4 64) (gd (sm_in v4 64) (if v4 = (i3 0) then
      (hD d 116 59 [.ref 105, .ref r1, .null, .int v3, .int (v4 + (i3 1)), .null] 342 (RR V) x (sm_up (sm_up G 106 v4.toNatClampNeg (G 107 v4.toNatClampNeg)) 105 3 v5) L)
    else (hD d 116 59 [.ref 105, .ref r1, .null, .int v3, .int (v4 + (i3 1)), .null] 342 (RR V) x (sm_up G 106 v4.toNatClampNeg (G 107 v4.toNatClampNeg)) L))))
  else (gd (sm_in (v4 ^^^ (shl (i3 1) v5)) 64) (gd (sm_in v4 64) (if v4 = (i3 0) then
      (hD d 116 59 [.ref 105, .ref r1, .null, .int v3, .int (v4 + (i3 1)), .null] 342 (RR V) x (sm_up (sm_up G 106 v4.toNatClampNeg (G 107 ((v4 ^^^ (shl (i3 1) v5)).toNatClampNeg))) 105 3 v5) L)
    else (hD d 116 59 [.ref 105, .ref r1, .null, .int v3, .int (v4 + (i3 1)), .null] 342 (RR V) x (sm_up G 106 v4.toNatClampNeg (G 107 ((v4 ^^^ (shl (i3 1) v5)).toNatClampNeg))) L)))) := by
  rw [rh_116_86]
  try simp only [gd_tt, (q_105_0 V), (q_105_1 V), k_105, k_106, ldi_e k_107 n_107, n_106, n_107]
/-! Puzzle_bestCall -/
set_option maxRecDepth 20000 in
theorem rm_117 {d x : Nat} {R : sm_R} {G : sm_G} {L : sm_L} {r1 : Nat} {v2 v3 : Int32} : sm_cv0 (d + 1) 117 342 R [.ref 105, .ref r1, .int v2, .int v3] (x, G, L) =
  hD d 117 9 [.ref 105, .ref r1, .int v2, .int v3, .int m1, .int (i3 0), .int (i3 0), .null] 342 R x G L := (cv_eq rfl rfl).trans (hD_eq.trans rfl)
theorem m_117 {d x : Nat} {V : pV} {G : sm_G} {L : sm_L} {r1 : Nat} {v2 v3 : Int32} (hr1 : pS r1) : sm_cv0 (d + 1) 117 342 (RR V) [.ref 105, .ref r1, .int v2, .int v3] (x, G, L) =
  hD d 117 9 [.ref 105, .ref r1, .int v2, .int v3, .int m1, .int (i3 0), .int (i3 0), .null] 342 (RR V) x G L := rm_117
set_option maxRecDepth 20000 in
theorem rh_117_9 {d x : Nat} {R : sm_R} {G : sm_G} {L : sm_L} {r1 : Nat} {v2 v3 v4 v5 v6 : Int32} : hD d 117 9 [.ref 105, .ref r1, .int v2, .int v3, .int v4, .int v5, .int v6, .null] 342 R x G L =
  if v6 < (i3 6) then
    (gd (sm_is r1 342 5) (ldi (R r1 6) v6 G (fun y1 => if y1 = (i3 0) then
      (hD d 117 74 [.ref 105, .ref r1, .int v2, .int v3, .int v4, .int v5, .int v6, .null] 342 R x G L)
    else (ldi (R 105 1) (v2 ^^^ (shl (i3 1) v6)) G (fun y2 => if v4 = m1 then
        (hD d 117 74 [.ref 105, .ref r1, .int v2, .int v3, .int v6, .int y2, .int v6, .null] 342 R x G L)
      else (if v3 = (i3 0) then
          (if y2 < v5 then
            (hD d 117 74 [.ref 105, .ref r1, .int v2, .int v3, .int v6, .int y2, .int v6, .null] 342 R x G L)
          else (hD d 117 74 [.ref 105, .ref r1, .int v2, .int v3, .int v4, .int v5, .int v6, .null] 342 R x G L))
        else (if y2 ≤ v5 then
            (hD d 117 74 [.ref 105, .ref r1, .int v2, .int v3, .int v4, .int v5, .int v6, .null] 342 R x G L)
          else (hD d 117 74 [.ref 105, .ref r1, .int v2, .int v3, .int v6, .int y2, .int v6, .null] 342 R x G L))))))))
  else (oI v4 x G L) := hD_eq.trans rfl
set_option maxRecDepth 20000 in
theorem h_117_9 {d x : Nat} {V : pV} {G : sm_G} {L : sm_L} {r1 : Nat} {v2 v3 v4 v5 v6 : Int32} (hr1 : pS r1) : hD d 117 9 [.ref 105, .ref r1, .int v2, .int v3, .int v4, .int v5, .int v6, .null] 342 (RR V) x G L =
  if v6 < (i3 6) then
    (gd (sm_in v6 6) (if (G (r1 + 15) v6.toNatClampNeg) = (i3 0) then
      (hD d 117 74 [.ref 105, .ref r1, .int v2, .int v3, .int v4, .int v5, .int v6, .null] 342 (RR V) x G L)
    else (gd (sm_in (v2 ^^^ (shl (i3 1) v6)) 64) (if v4 = m1 then
        (hD d 117 74 [.ref 105, .ref r1, .int v2, .int v3, .int v6, .int (G 107 ((v2 ^^^ (shl (i3 1) v6)).toNatClampNeg)), .int v6, .null] 342 (RR V) x G L)
      else (if v3 = (i3 0) then
          (if (G 107 ((v2 ^^^ (shl (i3 1) v6)).toNatClampNeg)) < v5 then
            (hD d 117 74 [.ref 105, .ref r1, .int v2, .int v3, .int v6, .int (G 107 ((v2 ^^^ (shl (i3 1) v6)).toNatClampNeg)), .int v6, .null] 342 (RR V) x G L)
          else (hD d 117 74 [.ref 105, .ref r1, .int v2, .int v3, .int v4, .int v5, .int v6, .null] 342 (RR V) x G L))
        else (if (G 107 ((v2 ^^^ (shl (i3 1) v6)).toNatClampNeg)) ≤ v5 then
            (hD d 117 74 [.ref 105, .ref r1, .int v2, .int v3, .int v4, .int v5, .int v6, .null] 342 (RR V) x G L)
          else (hD d 117 74 [.ref 105, .ref r1, .int v2, .int v3, .int v6, .int (G 107 ((v2 ^^^ (shl (i3 1) v6)).toNatClampNeg)), .int v6, .null] 342 (RR V) x G L)))))))
  else (oI v4 x G L) := by
  rw [rh_117_9]
  try simp only [gd_tt, (fS_0_6 V hr1), (kS_0 hr1), (nS_15 hr1), (q_105_1 V), k_105, ldi_e (kS_15 hr1) (nS_15 hr1), ldi_e k_107 n_107, n_107]
set_option maxRecDepth 20000 in
theorem rh_117_74 {d x : Nat} {R : sm_R} {G : sm_G} {L : sm_L} {r1 : Nat} {v2 v3 v4 v5 v6 : Int32} : hD d 117 74 [.ref 105, .ref r1, .int v2, .int v3, .int v4, .int v5, .int v6, .null] 342 R x G L =
  hD d 117 9 [.ref 105, .ref r1, .int v2, .int v3, .int v4, .int v5, .int (v6 + (i3 1)), .null] 342 R x G L := hD_eq.trans rfl
theorem h_117_74 {d x : Nat} {V : pV} {G : sm_G} {L : sm_L} {r1 : Nat} {v2 v3 v4 v5 v6 : Int32} (hr1 : pS r1) : hD d 117 74 [.ref 105, .ref r1, .int v2, .int v3, .int v4, .int v5, .int v6, .null] 342 (RR V) x G L =
  hD d 117 9 [.ref 105, .ref r1, .int v2, .int v3, .int v4, .int v5, .int (v6 + (i3 1)), .null] 342 (RR V) x G L := rh_117_74
/-! Street_roomsOf -/
set_option maxRecDepth 20000 in
theorem rm_118 {d x : Nat} {R : sm_R} {G : sm_G} {L : sm_L} {r0 : Nat} {v1 : Int32} : sm_cv0 (d + 1) 118 342 R [.ref r0, .int v1] (x, G, L) =
  hD d 118 4 [.ref r0, .int v1, .int v1, .int (i3 0)] 342 R x G L := (cv_eq rfl rfl).trans (hD_eq.trans rfl)
theorem m_118 {d x : Nat} {V : pV} {G : sm_G} {L : sm_L} {r0 : Nat} {v1 : Int32} (hr0 : pS r0) : sm_cv0 (d + 1) 118 342 (RR V) [.ref r0, .int v1] (x, G, L) =
  hD d 118 4 [.ref r0, .int v1, .int v1, .int (i3 0)] 342 (RR V) x G L := rm_118
set_option maxRecDepth 20000 in
theorem rh_118_4 {d x : Nat} {R : sm_R} {G : sm_G} {L : sm_L} {r0 : Nat} {v1 v2 v3 : Int32} : hD d 118 4 [.ref r0, .int v1, .int v2, .int v3] 342 R x G L =
  gd (sm_is r0 342 5) (if v3 < (G r0 11) then
    (gd (sm_is r0 342 5) (ldi (R r0 3) v3 G (fun y1 => if (v1 &&& y1) = (i3 0) then
      (hD d 118 4 [.ref r0, .int v1, .int v2, .int (v3 + (i3 1))] 342 R x G L)
    else (gd (sm_is r0 342 5) (ldi (R r0 3) v3 G (fun y2 => hD d 118 4 [.ref r0, .int v1, .int (v2 ||| y2), .int (v3 + (i3 1))] 342 R x G L))))))
  else (oI v2 x G L)) := hD_eq.trans rfl
set_option maxRecDepth 20000 in
theorem h_118_4 {d x : Nat} {V : pV} {G : sm_G} {L : sm_L} {r0 : Nat} {v1 v2 v3 : Int32} (hr0 : pS r0) : hD d 118 4 [.ref r0, .int v1, .int v2, .int v3] 342 (RR V) x G L =
  if v3 < (G r0 11) then
    (gd (sm_in v3 3) (if (v1 &&& (G (r0 + 12) v3.toNatClampNeg)) = (i3 0) then
      (hD d 118 4 [.ref r0, .int v1, .int v2, .int (v3 + (i3 1))] 342 (RR V) x G L)
    else (gd (sm_in v3 3) (hD d 118 4 [.ref r0, .int v1, .int (v2 ||| (G (r0 + 12) v3.toNatClampNeg)), .int (v3 + (i3 1))] 342 (RR V) x G L))))
  else (oI v2 x G L) := by
  rw [rh_118_4]
  try simp only [gd_tt, (fS_0_3 V hr0), (kS_0 hr0), (nS_12 hr0), ldi_e (kS_12 hr0) (nS_12 hr0)]
/-! Street_behind -/
set_option maxRecDepth 20000 in
theorem rm_119 {d x : Nat} {R : sm_R} {G : sm_G} {L : sm_L} {r0 : Nat} {v1 v2 : Int32} : sm_cv0 (d + 1) 119 342 R [.ref r0, .int v1, .int v2] (x, G, L) =
  hD d 119 5 [.ref r0, .int v1, .int v2, .int (i3 0), .int (i3 0)] 342 R x G L := (cv_eq rfl rfl).trans (hD_eq.trans rfl)
theorem m_119 {d x : Nat} {V : pV} {G : sm_G} {L : sm_L} {r0 : Nat} {v1 v2 : Int32} (hr0 : pS r0) : sm_cv0 (d + 1) 119 342 (RR V) [.ref r0, .int v1, .int v2] (x, G, L) =
  hD d 119 5 [.ref r0, .int v1, .int v2, .int (i3 0), .int (i3 0)] 342 (RR V) x G L := rm_119
set_option maxRecDepth 20000 in
theorem rh_119_5 {d x : Nat} {R : sm_R} {G : sm_G} {L : sm_L} {r0 : Nat} {v1 v2 v3 v4 : Int32} : hD d 119 5 [.ref r0, .int v1, .int v2, .int v3, .int v4] 342 R x G L =
  gd (sm_is r0 342 5) (if v4 < (G r0 10) then
    (if ((shr v2 v4) &&& (i3 1)) = (i3 0) then
      (hD d 119 70 [.ref r0, .int v1, .int v2, .int v3, .int (v4 + (i3 1))] 342 R x G L)
    else (gd (sm_is r0 342 5) (ldi (R r0 4) v4 G (fun y1 => gd (sm_is r0 342 5) (ldi (R r0 5) v4 G (fun y2 => gd (sm_is r0 342 5) (ldi (R r0 5) v4 G (fun y3 => gd (sm_is r0 342 5) (ldi (R r0 4) v4 G (fun y4 => hD d 119 70 [.ref r0, .int v1, .int v2, .int ((v3 ||| (shl ((shr v1 y1) &&& (i3 1)) y2)) ||| (shl ((shr v1 y3) &&& (i3 1)) y4)), .int (v4 + (i3 1))] 342 R x G L))))))))))
  else (oI v3 x G L)) := hD_eq.trans rfl
set_option maxRecDepth 20000 in
theorem h_119_5 {d x : Nat} {V : pV} {G : sm_G} {L : sm_L} {r0 : Nat} {v1 v2 v3 v4 : Int32} (hr0 : pS r0) : hD d 119 5 [.ref r0, .int v1, .int v2, .int v3, .int v4] 342 (RR V) x G L =
  if v4 < (G r0 10) then
    (if ((shr v2 v4) &&& (i3 1)) = (i3 0) then
      (hD d 119 70 [.ref r0, .int v1, .int v2, .int v3, .int (v4 + (i3 1))] 342 (RR V) x G L)
    else (gd (sm_in v4 10) (gd (sm_in v4 10) (gd (sm_in v4 10) (gd (sm_in v4 10) (hD d 119 70 [.ref r0, .int v1, .int v2, .int ((v3 ||| (shl ((shr v1 (G (r0 + 13) v4.toNatClampNeg)) &&& (i3 1)) (G (r0 + 14) v4.toNatClampNeg))) ||| (shl ((shr v1 (G (r0 + 14) v4.toNatClampNeg)) &&& (i3 1)) (G (r0 + 13) v4.toNatClampNeg))), .int (v4 + (i3 1))] 342 (RR V) x G L))))))
  else (oI v3 x G L) := by
  rw [rh_119_5]
  try simp only [gd_tt, (fS_0_4 V hr0), (fS_0_5 V hr0), (kS_0 hr0), (nS_13 hr0), (nS_14 hr0), ldi_e (kS_13 hr0) (nS_13 hr0), ldi_e (kS_14 hr0) (nS_14 hr0)]
set_option maxRecDepth 20000 in
theorem rh_119_70 {d x : Nat} {R : sm_R} {G : sm_G} {L : sm_L} {r0 : Nat} {v1 v2 v3 v4 : Int32} : hD d 119 70 [.ref r0, .int v1, .int v2, .int v3, .int v4] 342 R x G L =
  hD d 119 5 [.ref r0, .int v1, .int v2, .int v3, .int v4] 342 R x G L := hD_eq.trans rfl
theorem h_119_70 {d x : Nat} {V : pV} {G : sm_G} {L : sm_L} {r0 : Nat} {v1 v2 v3 v4 : Int32} (hr0 : pS r0) : hD d 119 70 [.ref r0, .int v1, .int v2, .int v3, .int v4] 342 (RR V) x G L =
  hD d 119 5 [.ref r0, .int v1, .int v2, .int v3, .int v4] 342 (RR V) x G L := rh_119_70
/-! Street_read -/
set_option maxRecDepth 20000 in
theorem rm_120 {d x : Nat} {R : sm_R} {G : sm_G} {L : sm_L} {r0 : Nat} : sm_cv0 (d + 1) 120 342 R [.ref r0, .ref 2] (x, G, L) =
  gd (sm_is r0 342 5) (sm_aV (sm_cv0 d 121 342 R [.ref r0] (x, G, L)) (fun x1 G1 L1 =>
    hD d 120 6 [.ref r0, .ref 2, .int (i3 0)] 342 R x1 G1 L1) oX) := (cv_eq rfl rfl).trans (hD_eq.trans rfl)
set_option maxRecDepth 20000 in
theorem m_120 {d x : Nat} {V : pV} {G : sm_G} {L : sm_L} {r0 : Nat} (hr0 : pS r0) : sm_cv0 (d + 1) 120 342 (RR V) [.ref r0, .ref 2] (x, G, L) =
  sm_aV (sm_cv0 d 121 342 (RR V) [.ref r0] (x, G, L)) (fun x1 G1 L1 =>
    hD d 120 6 [.ref r0, .ref 2, .int (i3 0)] 342 (RR V) x1 G1 L1) oX := by
  rw [rm_120]
  try simp only [gd_tt, (kS_0 hr0)]
set_option maxRecDepth 20000 in
theorem rh_120_6 {d x : Nat} {R : sm_R} {G : sm_G} {L : sm_L} {r0 : Nat} {v2 : Int32} : hD d 120 6 [.ref r0, .ref 2, .int v2] 342 R x G L =
  if v2 ≤ (i3 60) then
    (sm_aI (sm_cv0 d 135 342 R [.ref 2] (x, G, L)) (fun a1 x1 G1 L1 =>
      if a1 = (i3 0) then
        (sm_aI (sm_cv0 d 136 342 R [.ref 2] (x1, G1, L1)) (fun a2 x2 G2 L2 =>
          if a2 = (i3 0) then
            (if v2 < (i3 60) then
              (gd (sm_is r0 342 5) (sm_aV (sm_cv0 d 122 342 R [.ref r0, .ref 2, .int (i3 1)] (x2, G2, L2)) (fun x3 G3 L3 =>
                hD d 120 6 [.ref r0, .ref 2, .int (v2 + (i3 1))] 342 R x3 G3 L3) oX))
            else (gd (sm_is r0 342 5) (sm_aV (sm_cv0 d 122 342 R [.ref r0, .ref 2, .int (i3 0)] (x2, G2, L2)) (fun x4 G4 L4 =>
                hD d 120 6 [.ref r0, .ref 2, .int (v2 + (i3 1))] 342 R x4 G4 L4) oX)))
          else (oV x2 G2 L2)) oX)
      else (oV x1 G1 L1)) oX)
  else (oV x G L) := hD_eq.trans rfl
set_option maxRecDepth 20000 in
theorem h_120_6 {d x : Nat} {V : pV} {G : sm_G} {L : sm_L} {r0 : Nat} {v2 : Int32} (hr0 : pS r0) : hD d 120 6 [.ref r0, .ref 2, .int v2] 342 (RR V) x G L =
  if v2 ≤ (i3 60) then
    (sm_aI (sm_cv0 d 135 342 (RR V) [.ref 2] (x, G, L)) (fun a1 x1 G1 L1 =>
      if a1 = (i3 0) then
        (sm_aI (sm_cv0 d 136 342 (RR V) [.ref 2] (x1, G1, L1)) (fun a2 x2 G2 L2 =>
          if a2 = (i3 0) then
            (if v2 < (i3 60) then
              (sm_aV (sm_cv0 d 122 342 (RR V) [.ref r0, .ref 2, .int (i3 1)] (x2, G2, L2)) (fun x3 G3 L3 =>
                hD d 120 6 [.ref r0, .ref 2, .int (v2 + (i3 1))] 342 (RR V) x3 G3 L3) oX)
            else (sm_aV (sm_cv0 d 122 342 (RR V) [.ref r0, .ref 2, .int (i3 0)] (x2, G2, L2)) (fun x4 G4 L4 =>
                hD d 120 6 [.ref r0, .ref 2, .int (v2 + (i3 1))] 342 (RR V) x4 G4 L4) oX))
          else (oV x2 G2 L2)) oX)
      else (oV x1 G1 L1)) oX)
  else (oV x G L) := by
  rw [rh_120_6]
  try simp only [gd_tt, (kS_0 hr0), k_2]
/-! Street_clear -/
set_option maxRecDepth 20000 in
theorem rm_121 {d x : Nat} {R : sm_R} {G : sm_G} {L : sm_L} {r0 : Nat} : sm_cv0 (d + 1) 121 342 R [.ref r0] (x, G, L) =
  gd (sm_is r0 342 5) (gd (sm_is (R r0 0) 342 3) (sm_aV (sm_cv0 d 109 342 R [.ref (R r0 0)] (x, G, L)) (fun x1 G1 L1 =>
    gd (sm_is r0 342 5) (sm_aV (sm_cv0 d 6 342 R [.ref (R r0 6), .int (i3 0)] (x1, G1, L1)) (fun x2 G2 L2 =>
      gd (sm_is r0 342 5) (sm_aV (sm_cv0 d 6 342 R [.ref (R r0 2), .int m1] (x2, G2, L2)) (fun x3 G3 L3 =>
        gd (sm_is r0 342 5) (gd (sm_is r0 342 5) (gd (sm_is r0 342 5) (gd (sm_is r0 342 5) (gd (sm_is r0 342 5) (gd (sm_is r0 342 5) (oV x3 (sm_up (sm_up (sm_up (sm_up (sm_up (sm_up G3 r0 9 (i3 0)) r0 10 (i3 0)) r0 11 (i3 0)) r0 12 (i3 0)) r0 13 (i3 0)) r0 14 m1) L3))))))) oX)) oX)) oX)) := (cv_eq rfl rfl).trans (hD_eq.trans rfl)
set_option maxRecDepth 20000 in
theorem m_121 {d x : Nat} {V : pV} {G : sm_G} {L : sm_L} {r0 : Nat} (hr0 : pS r0) : sm_cv0 (d + 1) 121 342 (RR V) [.ref r0] (x, G, L) =
  sm_aV (sm_cv0 d 109 342 (RR V) [.ref (r0 + 1)] (x, G, L)) (fun x1 G1 L1 =>
    sm_aV (sm_cv0 d 6 342 (RR V) [.ref (r0 + 15), .int (i3 0)] (x1, G1, L1)) (fun x2 G2 L2 =>
      sm_aV (sm_cv0 d 6 342 (RR V) [.ref (r0 + 11), .int m1] (x2, G2, L2)) (fun x3 G3 L3 =>
        oV x3 (sm_up (sm_up (sm_up (sm_up (sm_up (sm_up G3 r0 9 (i3 0)) r0 10 (i3 0)) r0 11 (i3 0)) r0 12 (i3 0)) r0 13 (i3 0)) r0 14 m1) L3) oX) oX) oX := by
  rw [rm_121]
  try simp only [gd_tt, (fS_0_0 V hr0), (fS_0_2 V hr0), (fS_0_6 V hr0), (kS_0 hr0), (kS_1 hr0)]
/-! Street_readClause -/
set_option maxRecDepth 20000 in
theorem rm_122 {d x : Nat} {R : sm_R} {G : sm_G} {L : sm_L} {r0 : Nat} {v2 : Int32} : sm_cv0 (d + 1) 122 342 R [.ref r0, .ref 2, .int v2] (x, G, L) =
  sm_aV (sm_cv0 d 138 342 R [.ref 2] (x, G, L)) (fun x1 G1 L1 =>
    sm_aI (sm_cv0 d 140 342 R [.ref 2, .ref 4115] (x1, G1, L1)) (fun a2 x2 G2 L2 =>
      if a2 = (i3 0) then
        (sm_aI (sm_cv0 d 140 342 R [.ref 2, .ref 4100] (x2, G2, L2)) (fun a3 x3 G3 L3 =>
          if a3 = (i3 0) then
            (sm_aI (sm_cv0 d 140 342 R [.ref 2, .ref 4118] (x3, G3, L3)) (fun a4 x4 G4 L4 =>
              if a4 = (i3 0) then
                (sm_aI (sm_cv0 d 140 342 R [.ref 2, .ref 4111] (x4, G4, L4)) (fun a5 x5 G5 L5 =>
                  if a5 = (i3 0) then
                    (sm_aI (sm_cv0 d 140 342 R [.ref 2, .ref 4119] (x5, G5, L5)) (fun a6 x6 G6 L6 =>
                      if a6 = (i3 0) then
                        (sm_aI (sm_cv0 d 140 342 R [.ref 2, .ref 4101] (x6, G6, L6)) (fun a7 x7 G7 L7 =>
                          if a7 = (i3 0) then
                            (sm_aI (sm_cv0 d 140 342 R [.ref 2, .ref 4107] (x7, G7, L7)) (fun a8 x8 G8 L8 =>
                              if a8 = (i3 0) then
                                (sm_aV (sm_cv0 d 142 342 R [.ref 2, .int (i3 1)] (x8, G8, L8)) (fun x9 G9 L9 =>
                                  hD d 122 221 [.null, .null, .null] 342 R x9 G9 L9) oX)
                              else (gd (sm_is r0 342 5) (sm_aV (sm_cv0 d 130 342 R [.ref r0, .ref 2, .int v2] (x8, G8, L8)) (fun x10 G10 L10 =>
                                  hD d 122 221 [.null, .null, .null] 342 R x10 G10 L10) oX))) oX)
                          else (if v2 = (i3 0) then
                              (gd (sm_is r0 342 5) (sm_aV (sm_cv0 d 129 342 R [.ref r0, .ref 2, .int (i3 0)] (x7, G7, L7)) (fun x11 G11 L11 =>
                                hD d 122 221 [.null, .null, .null] 342 R x11 G11 L11) oX))
                            else (gd (sm_is r0 342 5) (if (G7 r0 12) < (i3 4) then
                                (gd (sm_is r0 342 5) (sm_aV (sm_cv0 d 129 342 R [.ref r0, .ref 2, .int (i3 1)] (x7, G7, L7)) (fun x12 G12 L12 =>
                                  hD d 122 221 [.null, .null, .null] 342 R x12 G12 L12) oX))
                              else (gd (sm_is r0 342 5) (sm_aV (sm_cv0 d 129 342 R [.ref r0, .ref 2, .int (i3 0)] (x7, G7, L7)) (fun x13 G13 L13 =>
                                  hD d 122 221 [.null, .null, .null] 342 R x13 G13 L13) oX)))))) oX)
                      else (if v2 = (i3 0) then
                          (gd (sm_is r0 342 5) (sm_aV (sm_cv0 d 127 342 R [.ref r0, .ref 2, .int (i3 0)] (x6, G6, L6)) (fun x14 G14 L14 =>
                            hD d 122 221 [.null, .null, .null] 342 R x14 G14 L14) oX))
                        else (gd (sm_is r0 342 5) (if (G6 r0 11) < (i3 3) then
                            (gd (sm_is r0 342 5) (sm_aV (sm_cv0 d 127 342 R [.ref r0, .ref 2, .int (i3 1)] (x6, G6, L6)) (fun x15 G15 L15 =>
                              hD d 122 221 [.null, .null, .null] 342 R x15 G15 L15) oX))
                          else (gd (sm_is r0 342 5) (sm_aV (sm_cv0 d 127 342 R [.ref r0, .ref 2, .int (i3 0)] (x6, G6, L6)) (fun x16 G16 L16 =>
                              hD d 122 221 [.null, .null, .null] 342 R x16 G16 L16) oX)))))) oX)
                  else (if v2 = (i3 0) then
                      (gd (sm_is r0 342 5) (sm_aV (sm_cv0 d 126 342 R [.ref r0, .ref 2, .int (i3 0)] (x5, G5, L5)) (fun x17 G17 L17 =>
                        hD d 122 221 [.null, .null, .null] 342 R x17 G17 L17) oX))
                    else (gd (sm_is r0 342 5) (gd (sm_is (R r0 0) 342 3) (if (G5 (R r0 0) 8) < (i3 12) then
                        (gd (sm_is r0 342 5) (sm_aV (sm_cv0 d 126 342 R [.ref r0, .ref 2, .int (i3 1)] (x5, G5, L5)) (fun x18 G18 L18 =>
                          hD d 122 221 [.null, .null, .null] 342 R x18 G18 L18) oX))
                      else (gd (sm_is r0 342 5) (sm_aV (sm_cv0 d 126 342 R [.ref r0, .ref 2, .int (i3 0)] (x5, G5, L5)) (fun x19 G19 L19 =>
                          hD d 122 221 [.null, .null, .null] 342 R x19 G19 L19) oX))))))) oX)
              else (gd (sm_is r0 342 5) (sm_aV (sm_cv0 d 125 342 R [.ref r0, .ref 2, .int v2] (x4, G4, L4)) (fun x20 G20 L20 =>
                  hD d 122 221 [.null, .null, .null] 342 R x20 G20 L20) oX))) oX)
          else (if v2 = (i3 0) then
              (gd (sm_is r0 342 5) (sm_aV (sm_cv0 d 124 342 R [.ref r0, .ref 2, .int (i3 0)] (x3, G3, L3)) (fun x21 G21 L21 =>
                hD d 122 221 [.null, .null, .null] 342 R x21 G21 L21) oX))
            else (gd (sm_is r0 342 5) (if (G3 r0 10) < (i3 10) then
                (gd (sm_is r0 342 5) (sm_aV (sm_cv0 d 124 342 R [.ref r0, .ref 2, .int (i3 1)] (x3, G3, L3)) (fun x22 G22 L22 =>
                  hD d 122 221 [.null, .null, .null] 342 R x22 G22 L22) oX))
              else (gd (sm_is r0 342 5) (sm_aV (sm_cv0 d 124 342 R [.ref r0, .ref 2, .int (i3 0)] (x3, G3, L3)) (fun x23 G23 L23 =>
                  hD d 122 221 [.null, .null, .null] 342 R x23 G23 L23) oX)))))) oX)
      else (if v2 = (i3 0) then
          (gd (sm_is r0 342 5) (sm_aV (sm_cv0 d 123 342 R [.ref r0, .ref 2, .int (i3 0)] (x2, G2, L2)) (fun x24 G24 L24 =>
            hD d 122 221 [.null, .null, .null] 342 R x24 G24 L24) oX))
        else (gd (sm_is r0 342 5) (if (G2 r0 9) < (i3 8) then
            (gd (sm_is r0 342 5) (sm_aV (sm_cv0 d 123 342 R [.ref r0, .ref 2, .int (i3 1)] (x2, G2, L2)) (fun x25 G25 L25 =>
              hD d 122 221 [.null, .null, .null] 342 R x25 G25 L25) oX))
          else (gd (sm_is r0 342 5) (sm_aV (sm_cv0 d 123 342 R [.ref r0, .ref 2, .int (i3 0)] (x2, G2, L2)) (fun x26 G26 L26 =>
              hD d 122 221 [.null, .null, .null] 342 R x26 G26 L26) oX)))))) oX) oX := (cv_eq rfl rfl).trans (hD_eq.trans rfl)
set_option maxRecDepth 20000 in
theorem m_122 {d x : Nat} {V : pV} {G : sm_G} {L : sm_L} {r0 : Nat} {v2 : Int32} (hr0 : pS r0) : sm_cv0 (d + 1) 122 342 (RR V) [.ref r0, .ref 2, .int v2] (x, G, L) =
  sm_aV (sm_cv0 d 138 342 (RR V) [.ref 2] (x, G, L)) (fun x1 G1 L1 =>
    sm_aI (sm_cv0 d 140 342 (RR V) [.ref 2, .ref 4115] (x1, G1, L1)) (fun a2 x2 G2 L2 =>
      if a2 = (i3 0) then
        (sm_aI (sm_cv0 d 140 342 (RR V) [.ref 2, .ref 4100] (x2, G2, L2)) (fun a3 x3 G3 L3 =>
          if a3 = (i3 0) then
            (sm_aI (sm_cv0 d 140 342 (RR V) [.ref 2, .ref 4118] (x3, G3, L3)) (fun a4 x4 G4 L4 =>
              if a4 = (i3 0) then
                (sm_aI (sm_cv0 d 140 342 (RR V) [.ref 2, .ref 4111] (x4, G4, L4)) (fun a5 x5 G5 L5 =>
                  if a5 = (i3 0) then
                    (sm_aI (sm_cv0 d 140 342 (RR V) [.ref 2, .ref 4119] (x5, G5, L5)) (fun a6 x6 G6 L6 =>
                      if a6 = (i3 0) then
                        (sm_aI (sm_cv0 d 140 342 (RR V) [.ref 2, .ref 4101] (x6, G6, L6)) (fun a7 x7 G7 L7 =>
                          if a7 = (i3 0) then
                            (sm_aI (sm_cv0 d 140 342 (RR V) [.ref 2, .ref 4107] (x7, G7, L7)) (fun a8 x8 G8 L8 =>
                              if a8 = (i3 0) then
                                (sm_aV (sm_cv0 d 142 342 (RR V) [.ref 2, .int (i3 1)] (x8, G8, L8)) (fun x9 G9 L9 =>
                                  hD d 122 221 [.null, .null, .null] 342 (RR V) x9 G9 L9) oX)
                              else (sm_aV (sm_cv0 d 130 342 (RR V) [.ref r0, .ref 2, .int v2] (x8, G8, L8)) (fun x10 G10 L10 =>
                                  hD d 122 221 [.null, .null, .null] 342 (RR V) x10 G10 L10) oX)) oX)
                          else (if v2 = (i3 0) then
                              (sm_aV (sm_cv0 d 129 342 (RR V) [.ref r0, .ref 2, .int (i3 0)] (x7, G7, L7)) (fun x11 G11 L11 =>
                                hD d 122 221 [.null, .null, .null] 342 (RR V) x11 G11 L11) oX)
                            else (if (G7 r0 12) < (i3 4) then
                                (sm_aV (sm_cv0 d 129 342 (RR V) [.ref r0, .ref 2, .int (i3 1)] (x7, G7, L7)) (fun x12 G12 L12 =>
                                  hD d 122 221 [.null, .null, .null] 342 (RR V) x12 G12 L12) oX)
                              else (sm_aV (sm_cv0 d 129 342 (RR V) [.ref r0, .ref 2, .int (i3 0)] (x7, G7, L7)) (fun x13 G13 L13 =>
                                  hD d 122 221 [.null, .null, .null] 342 (RR V) x13 G13 L13) oX)))) oX)
                      else (if v2 = (i3 0) then
                          (sm_aV (sm_cv0 d 127 342 (RR V) [.ref r0, .ref 2, .int (i3 0)] (x6, G6, L6)) (fun x14 G14 L14 =>
                            hD d 122 221 [.null, .null, .null] 342 (RR V) x14 G14 L14) oX)
                        else (if (G6 r0 11) < (i3 3) then
                            (sm_aV (sm_cv0 d 127 342 (RR V) [.ref r0, .ref 2, .int (i3 1)] (x6, G6, L6)) (fun x15 G15 L15 =>
                              hD d 122 221 [.null, .null, .null] 342 (RR V) x15 G15 L15) oX)
                          else (sm_aV (sm_cv0 d 127 342 (RR V) [.ref r0, .ref 2, .int (i3 0)] (x6, G6, L6)) (fun x16 G16 L16 =>
                              hD d 122 221 [.null, .null, .null] 342 (RR V) x16 G16 L16) oX)))) oX)
                  else (if v2 = (i3 0) then
                      (sm_aV (sm_cv0 d 126 342 (RR V) [.ref r0, .ref 2, .int (i3 0)] (x5, G5, L5)) (fun x17 G17 L17 =>
                        hD d 122 221 [.null, .null, .null] 342 (RR V) x17 G17 L17) oX)
                    else (if (G5 (r0 + 1) 8) < (i3 12) then
                        (sm_aV (sm_cv0 d 126 342 (RR V) [.ref r0, .ref 2, .int (i3 1)] (x5, G5, L5)) (fun x18 G18 L18 =>
                          hD d 122 221 [.null, .null, .null] 342 (RR V) x18 G18 L18) oX)
                      else (sm_aV (sm_cv0 d 126 342 (RR V) [.ref r0, .ref 2, .int (i3 0)] (x5, G5, L5)) (fun x19 G19 L19 =>
                          hD d 122 221 [.null, .null, .null] 342 (RR V) x19 G19 L19) oX)))) oX)
              else (sm_aV (sm_cv0 d 125 342 (RR V) [.ref r0, .ref 2, .int v2] (x4, G4, L4)) (fun x20 G20 L20 =>
                  hD d 122 221 [.null, .null, .null] 342 (RR V) x20 G20 L20) oX)) oX)
          else (if v2 = (i3 0) then
              (sm_aV (sm_cv0 d 124 342 (RR V) [.ref r0, .ref 2, .int (i3 0)] (x3, G3, L3)) (fun x21 G21 L21 =>
                hD d 122 221 [.null, .null, .null] 342 (RR V) x21 G21 L21) oX)
            else (if (G3 r0 10) < (i3 10) then
                (sm_aV (sm_cv0 d 124 342 (RR V) [.ref r0, .ref 2, .int (i3 1)] (x3, G3, L3)) (fun x22 G22 L22 =>
                  hD d 122 221 [.null, .null, .null] 342 (RR V) x22 G22 L22) oX)
              else (sm_aV (sm_cv0 d 124 342 (RR V) [.ref r0, .ref 2, .int (i3 0)] (x3, G3, L3)) (fun x23 G23 L23 =>
                  hD d 122 221 [.null, .null, .null] 342 (RR V) x23 G23 L23) oX)))) oX)
      else (if v2 = (i3 0) then
          (sm_aV (sm_cv0 d 123 342 (RR V) [.ref r0, .ref 2, .int (i3 0)] (x2, G2, L2)) (fun x24 G24 L24 =>
            hD d 122 221 [.null, .null, .null] 342 (RR V) x24 G24 L24) oX)
        else (if (G2 r0 9) < (i3 8) then
            (sm_aV (sm_cv0 d 123 342 (RR V) [.ref r0, .ref 2, .int (i3 1)] (x2, G2, L2)) (fun x25 G25 L25 =>
              hD d 122 221 [.null, .null, .null] 342 (RR V) x25 G25 L25) oX)
          else (sm_aV (sm_cv0 d 123 342 (RR V) [.ref r0, .ref 2, .int (i3 0)] (x2, G2, L2)) (fun x26 G26 L26 =>
              hD d 122 221 [.null, .null, .null] 342 (RR V) x26 G26 L26) oX)))) oX) oX := by
  rw [rm_122]
  try simp only [gd_tt, (fS_0_0 V hr0), (kS_0 hr0), (kS_1 hr0), k_2]
set_option maxRecDepth 20000 in
theorem rh_122_221 {d x : Nat} {R : sm_R} {G : sm_G} {L : sm_L} : hD d 122 221 [.null, .null, .null] 342 R x G L =
  oV x G L := hD_eq.trans rfl
theorem h_122_221 {d x : Nat} {V : pV} {G : sm_G} {L : sm_L} : hD d 122 221 [.null, .null, .null] 342 (RR V) x G L =
  oV x G L := rh_122_221
/-! Street_readSleeper -/
set_option maxRecDepth 20000 in
theorem rm_123 {d x : Nat} {R : sm_R} {G : sm_G} {L : sm_L} {r0 : Nat} {v2 : Int32} : sm_cv0 (d + 1) 123 342 R [.ref r0, .ref 2, .int v2] (x, G, L) =
  sm_aI (sm_cv0 d 141 342 R [.ref 2, .int v2] (x, G, L)) (fun a1 x1 G1 L1 =>
    if a1 = (i3 0) then
      (oV x1 G1 L1)
    else (sm_aI (sm_cv0 d 143 342 R [.ref 2, .int (i3 0), .int (i3 300)] (x1, G1, L1)) (fun a2 x2 G2 L2 =>
        sm_aI (sm_cv0 d 143 342 R [.ref 2, .int a2, .int (i3 300)] (x2, G2, L2)) (fun a3 x3 G3 L3 =>
          sm_aI (sm_cv0 d 143 342 R [.ref 2, .int (i3 0), .int (i3 15)] (x3, G3, L3)) (fun a4 x4 G4 L4 =>
            hD d 123 37 [.ref r0, .ref 2, .null, .int a2, .int a3, .int a4] 342 R x4 G4 L4) oX) oX) oX)) oX := (cv_eq rfl rfl).trans (hD_eq.trans rfl)
set_option maxRecDepth 20000 in
theorem m_123 {d x : Nat} {V : pV} {G : sm_G} {L : sm_L} {r0 : Nat} {v2 : Int32} (hr0 : pS r0) : sm_cv0 (d + 1) 123 342 (RR V) [.ref r0, .ref 2, .int v2] (x, G, L) =
  sm_aI (sm_cv0 d 141 342 (RR V) [.ref 2, .int v2] (x, G, L)) (fun a1 x1 G1 L1 =>
    if a1 = (i3 0) then
      (oV x1 G1 L1)
    else (sm_aI (sm_cv0 d 143 342 (RR V) [.ref 2, .int (i3 0), .int (i3 300)] (x1, G1, L1)) (fun a2 x2 G2 L2 =>
        sm_aI (sm_cv0 d 143 342 (RR V) [.ref 2, .int a2, .int (i3 300)] (x2, G2, L2)) (fun a3 x3 G3 L3 =>
          sm_aI (sm_cv0 d 143 342 (RR V) [.ref 2, .int (i3 0), .int (i3 15)] (x3, G3, L3)) (fun a4 x4 G4 L4 =>
            hD d 123 37 [.ref r0, .ref 2, .null, .int a2, .int a3, .int a4] 342 (RR V) x4 G4 L4) oX) oX) oX)) oX := by
  rw [rm_123]
  try simp only [gd_tt, k_2]
set_option maxRecDepth 20000 in
theorem rh_123_37 {d x : Nat} {R : sm_R} {G : sm_G} {L : sm_L} {r0 : Nat} {v3 v4 v5 : Int32} : hD d 123 37 [.ref r0, .ref 2, .null, .int v3, .int v4, .int v5] 342 R x G L =
  sm_aV (sm_cv0 d 145 342 R [.ref 2, .int (i3 59)] (x, G, L)) (fun x1 G1 L1 =>
    sm_aI (sm_cv0 d 135 342 R [.ref 2] (x1, G1, L1)) (fun a2 x2 G2 L2 =>
      if a2 = (i3 0) then
        (gd (sm_is r0 342 5) (gd (sm_is (R r0 0) 342 3) (gd (sm_is r0 342 5) (gd (sm_is (R (R r0 0) 2) 342 20) (gd (sm_in (G2 r0 9) (sm_N (R (R r0 0) 2))) (gd (sm_is r0 342 5) (gd (sm_is (R r0 0) 342 3) (gd (sm_is r0 342 5) (gd (sm_is (R (R r0 0) 3) 342 20) (gd (sm_in ((sm_up G2 (R (R r0 0) 2) ((G2 r0 9).toNatClampNeg) v3) r0 9) (sm_N (R (R r0 0) 3))) (gd (sm_is r0 342 5) (gd (sm_is r0 342 5) (gd (sm_is (R r0 1) 342 20) (gd (sm_in ((sm_up (sm_up G2 (R (R r0 0) 2) ((G2 r0 9).toNatClampNeg) v3) (R (R r0 0) 3) (((sm_up G2 (R (R r0 0) 2) ((G2 r0 9).toNatClampNeg) v3) r0 9).toNatClampNeg) v4) r0 9) (sm_N (R r0 1))) (gd (sm_is r0 342 5) (gd (sm_is r0 342 5) (oV x2 (sm_up (sm_up (sm_up (sm_up G2 (R (R r0 0) 2) ((G2 r0 9).toNatClampNeg) v3) (R (R r0 0) 3) (((sm_up G2 (R (R r0 0) 2) ((G2 r0 9).toNatClampNeg) v3) r0 9).toNatClampNeg) v4) (R r0 1) (((sm_up (sm_up G2 (R (R r0 0) 2) ((G2 r0 9).toNatClampNeg) v3) (R (R r0 0) 3) (((sm_up G2 (R (R r0 0) 2) ((G2 r0 9).toNatClampNeg) v3) r0 9).toNatClampNeg) v4) r0 9).toNatClampNeg) v5) r0 9 (((sm_up (sm_up (sm_up G2 (R (R r0 0) 2) ((G2 r0 9).toNatClampNeg) v3) (R (R r0 0) 3) (((sm_up G2 (R (R r0 0) 2) ((G2 r0 9).toNatClampNeg) v3) r0 9).toNatClampNeg) v4) (R r0 1) (((sm_up (sm_up G2 (R (R r0 0) 2) ((G2 r0 9).toNatClampNeg) v3) (R (R r0 0) 3) (((sm_up G2 (R (R r0 0) 2) ((G2 r0 9).toNatClampNeg) v3) r0 9).toNatClampNeg) v4) r0 9).toNatClampNeg) v5) r0 9) + (i3 1))) L2)))))))))))))))))
      else (oV x2 G2 L2)) oX) oX := hD_eq.trans rfl
set_option maxRecDepth 20000 in
theorem h_123_37 {d x : Nat} {V : pV} {G : sm_G} {L : sm_L} {r0 : Nat} {v3 v4 v5 : Int32} (hr0 : pS r0) : hD d 123 37 [.ref r0, .ref 2, .null, .int v3, .int v4, .int v5] 342 (RR V) x G L =
  sm_aV (sm_cv0 d 145 342 (RR V) [.ref 2, .int (i3 59)] (x, G, L)) (fun x1 G1 L1 =>
    sm_aI (sm_cv0 d 135 342 (RR V) [.ref 2] (x1, G1, L1)) (fun a2 x2 G2 L2 =>
      if a2 = (i3 0) then
        (gd (sm_in (G2 r0 9) 8) (gd (sm_in ((sm_up G2 (r0 + 4) ((G2 r0 9).toNatClampNeg) v3) r0 9) 8) (gd (sm_in ((sm_up (sm_up G2 (r0 + 4) ((G2 r0 9).toNatClampNeg) v3) (r0 + 5) (((sm_up G2 (r0 + 4) ((G2 r0 9).toNatClampNeg) v3) r0 9).toNatClampNeg) v4) r0 9) 8) (oV x2 (sm_up (sm_up (sm_up (sm_up G2 (r0 + 4) ((G2 r0 9).toNatClampNeg) v3) (r0 + 5) (((sm_up G2 (r0 + 4) ((G2 r0 9).toNatClampNeg) v3) r0 9).toNatClampNeg) v4) (r0 + 10) (((sm_up (sm_up G2 (r0 + 4) ((G2 r0 9).toNatClampNeg) v3) (r0 + 5) (((sm_up G2 (r0 + 4) ((G2 r0 9).toNatClampNeg) v3) r0 9).toNatClampNeg) v4) r0 9).toNatClampNeg) v5) r0 9 (((sm_up (sm_up (sm_up G2 (r0 + 4) ((G2 r0 9).toNatClampNeg) v3) (r0 + 5) (((sm_up G2 (r0 + 4) ((G2 r0 9).toNatClampNeg) v3) r0 9).toNatClampNeg) v4) (r0 + 10) (((sm_up (sm_up G2 (r0 + 4) ((G2 r0 9).toNatClampNeg) v3) (r0 + 5) (((sm_up G2 (r0 + 4) ((G2 r0 9).toNatClampNeg) v3) r0 9).toNatClampNeg) v4) r0 9).toNatClampNeg) v5) r0 9) + (i3 1))) L2))))
      else (oV x2 G2 L2)) oX) oX := by
  rw [rh_123_37]
  try simp only [gd_tt, (fS_0_0 V hr0), (fS_0_1 V hr0), (fS_1_2 V hr0), (fS_1_3 V hr0), (kS_0 hr0), (kS_1 hr0), (kS_10 hr0), (kS_4 hr0), (kS_5 hr0), (nS_10 hr0), (nS_4 hr0), (nS_5 hr0), k_2]
/-! Street_readDoor -/
set_option maxRecDepth 20000 in
theorem rm_124 {d x : Nat} {R : sm_R} {G : sm_G} {L : sm_L} {r0 : Nat} {v2 : Int32} : sm_cv0 (d + 1) 124 342 R [.ref r0, .ref 2, .int v2] (x, G, L) =
  sm_aI (sm_cv0 d 141 342 R [.ref 2, .int v2] (x, G, L)) (fun a1 x1 G1 L1 =>
    if a1 = (i3 0) then
      (oV x1 G1 L1)
    else (gd (sm_is r0 342 5) (sm_aI (sm_cv0 d 143 342 R [.ref 2, .int (i3 0), .int ((G1 r0 9) - (i3 1))] (x1, G1, L1)) (fun a2 x2 G2 L2 =>
        gd (sm_is r0 342 5) (sm_aI (sm_cv0 d 143 342 R [.ref 2, .int (i3 0), .int ((G2 r0 9) - (i3 1))] (x2, G2, L2)) (fun a3 x3 G3 L3 =>
          if a2 = a3 then
            (sm_aV (sm_cv0 d 144 342 R [.ref 2] (x3, G3, L3)) (fun x4 G4 L4 =>
              hD d 124 44 [.ref r0, .ref 2, .null, .int a2, .int a3, .null] 342 R x4 G4 L4) oX)
          else (hD d 124 44 [.ref r0, .ref 2, .null, .int a2, .int a3, .null] 342 R x3 G3 L3)) oX)) oX))) oX := (cv_eq rfl rfl).trans (hD_eq.trans rfl)
set_option maxRecDepth 20000 in
theorem m_124 {d x : Nat} {V : pV} {G : sm_G} {L : sm_L} {r0 : Nat} {v2 : Int32} (hr0 : pS r0) : sm_cv0 (d + 1) 124 342 (RR V) [.ref r0, .ref 2, .int v2] (x, G, L) =
  sm_aI (sm_cv0 d 141 342 (RR V) [.ref 2, .int v2] (x, G, L)) (fun a1 x1 G1 L1 =>
    if a1 = (i3 0) then
      (oV x1 G1 L1)
    else (sm_aI (sm_cv0 d 143 342 (RR V) [.ref 2, .int (i3 0), .int ((G1 r0 9) - (i3 1))] (x1, G1, L1)) (fun a2 x2 G2 L2 =>
        sm_aI (sm_cv0 d 143 342 (RR V) [.ref 2, .int (i3 0), .int ((G2 r0 9) - (i3 1))] (x2, G2, L2)) (fun a3 x3 G3 L3 =>
          if a2 = a3 then
            (sm_aV (sm_cv0 d 144 342 (RR V) [.ref 2] (x3, G3, L3)) (fun x4 G4 L4 =>
              hD d 124 44 [.ref r0, .ref 2, .null, .int a2, .int a3, .null] 342 (RR V) x4 G4 L4) oX)
          else (hD d 124 44 [.ref r0, .ref 2, .null, .int a2, .int a3, .null] 342 (RR V) x3 G3 L3)) oX) oX)) oX := by
  rw [rm_124]
  try simp only [gd_tt, (kS_0 hr0), k_2]
set_option maxRecDepth 20000 in
theorem rh_124_44 {d x : Nat} {R : sm_R} {G : sm_G} {L : sm_L} {r0 : Nat} {v3 v4 : Int32} : hD d 124 44 [.ref r0, .ref 2, .null, .int v3, .int v4, .null] 342 R x G L =
  sm_aI (sm_cv0 d 143 342 R [.ref 2, .int (i3 0), .int (i3 1)] (x, G, L)) (fun a1 x1 G1 L1 =>
    sm_aV (sm_cv0 d 145 342 R [.ref 2, .int (i3 59)] (x1, G1, L1)) (fun x2 G2 L2 =>
      sm_aI (sm_cv0 d 135 342 R [.ref 2] (x2, G2, L2)) (fun a3 x3 G3 L3 =>
        if a3 = (i3 0) then
          (gd (sm_is r0 342 5) (gd (sm_is r0 342 5) (gd (sm_is (R r0 4) 342 20) (gd (sm_in (G3 r0 10) (sm_N (R r0 4))) (gd (sm_is r0 342 5) (gd (sm_is r0 342 5) (gd (sm_is (R r0 5) 342 20) (gd (sm_in ((sm_up G3 (R r0 4) ((G3 r0 10).toNatClampNeg) v3) r0 10) (sm_N (R r0 5))) (gd (sm_is r0 342 5) (gd (sm_is r0 342 5) (gd (sm_is r0 342 5) (gd (sm_is r0 342 5) (gd (sm_is r0 342 5) (oV x3 (sm_up (sm_up (sm_up (sm_up G3 (R r0 4) ((G3 r0 10).toNatClampNeg) v3) (R r0 5) (((sm_up G3 (R r0 4) ((G3 r0 10).toNatClampNeg) v3) r0 10).toNatClampNeg) v4) r0 13 (((sm_up (sm_up G3 (R r0 4) ((G3 r0 10).toNatClampNeg) v3) (R r0 5) (((sm_up G3 (R r0 4) ((G3 r0 10).toNatClampNeg) v3) r0 10).toNatClampNeg) v4) r0 13) ||| (shl a1 ((sm_up (sm_up G3 (R r0 4) ((G3 r0 10).toNatClampNeg) v3) (R r0 5) (((sm_up G3 (R r0 4) ((G3 r0 10).toNatClampNeg) v3) r0 10).toNatClampNeg) v4) r0 10)))) r0 10 (((sm_up (sm_up (sm_up G3 (R r0 4) ((G3 r0 10).toNatClampNeg) v3) (R r0 5) (((sm_up G3 (R r0 4) ((G3 r0 10).toNatClampNeg) v3) r0 10).toNatClampNeg) v4) r0 13 (((sm_up (sm_up G3 (R r0 4) ((G3 r0 10).toNatClampNeg) v3) (R r0 5) (((sm_up G3 (R r0 4) ((G3 r0 10).toNatClampNeg) v3) r0 10).toNatClampNeg) v4) r0 13) ||| (shl a1 ((sm_up (sm_up G3 (R r0 4) ((G3 r0 10).toNatClampNeg) v3) (R r0 5) (((sm_up G3 (R r0 4) ((G3 r0 10).toNatClampNeg) v3) r0 10).toNatClampNeg) v4) r0 10)))) r0 10) + (i3 1))) L3))))))))))))))
        else (oV x3 G3 L3)) oX) oX) oX := hD_eq.trans rfl
set_option maxRecDepth 20000 in
theorem h_124_44 {d x : Nat} {V : pV} {G : sm_G} {L : sm_L} {r0 : Nat} {v3 v4 : Int32} (hr0 : pS r0) : hD d 124 44 [.ref r0, .ref 2, .null, .int v3, .int v4, .null] 342 (RR V) x G L =
  sm_aI (sm_cv0 d 143 342 (RR V) [.ref 2, .int (i3 0), .int (i3 1)] (x, G, L)) (fun a1 x1 G1 L1 =>
    sm_aV (sm_cv0 d 145 342 (RR V) [.ref 2, .int (i3 59)] (x1, G1, L1)) (fun x2 G2 L2 =>
      sm_aI (sm_cv0 d 135 342 (RR V) [.ref 2] (x2, G2, L2)) (fun a3 x3 G3 L3 =>
        if a3 = (i3 0) then
          (gd (sm_in (G3 r0 10) 10) (gd (sm_in ((sm_up G3 (r0 + 13) ((G3 r0 10).toNatClampNeg) v3) r0 10) 10) (oV x3 (sm_up (sm_up (sm_up (sm_up G3 (r0 + 13) ((G3 r0 10).toNatClampNeg) v3) (r0 + 14) (((sm_up G3 (r0 + 13) ((G3 r0 10).toNatClampNeg) v3) r0 10).toNatClampNeg) v4) r0 13 (((sm_up (sm_up G3 (r0 + 13) ((G3 r0 10).toNatClampNeg) v3) (r0 + 14) (((sm_up G3 (r0 + 13) ((G3 r0 10).toNatClampNeg) v3) r0 10).toNatClampNeg) v4) r0 13) ||| (shl a1 ((sm_up (sm_up G3 (r0 + 13) ((G3 r0 10).toNatClampNeg) v3) (r0 + 14) (((sm_up G3 (r0 + 13) ((G3 r0 10).toNatClampNeg) v3) r0 10).toNatClampNeg) v4) r0 10)))) r0 10 (((sm_up (sm_up (sm_up G3 (r0 + 13) ((G3 r0 10).toNatClampNeg) v3) (r0 + 14) (((sm_up G3 (r0 + 13) ((G3 r0 10).toNatClampNeg) v3) r0 10).toNatClampNeg) v4) r0 13 (((sm_up (sm_up G3 (r0 + 13) ((G3 r0 10).toNatClampNeg) v3) (r0 + 14) (((sm_up G3 (r0 + 13) ((G3 r0 10).toNatClampNeg) v3) r0 10).toNatClampNeg) v4) r0 13) ||| (shl a1 ((sm_up (sm_up G3 (r0 + 13) ((G3 r0 10).toNatClampNeg) v3) (r0 + 14) (((sm_up G3 (r0 + 13) ((G3 r0 10).toNatClampNeg) v3) r0 10).toNatClampNeg) v4) r0 10)))) r0 10) + (i3 1))) L3)))
        else (oV x3 G3 L3)) oX) oX) oX := by
  rw [rh_124_44]
  try simp only [gd_tt, (fS_0_4 V hr0), (fS_0_5 V hr0), (kS_0 hr0), (kS_13 hr0), (kS_14 hr0), (nS_13 hr0), (nS_14 hr0), k_2]
/-! Street_readTurns -/
set_option maxRecDepth 20000 in
theorem rm_125 {d x : Nat} {R : sm_R} {G : sm_G} {L : sm_L} {r0 : Nat} {v2 : Int32} : sm_cv0 (d + 1) 125 342 R [.ref r0, .ref 2, .int v2] (x, G, L) =
  sm_aI (sm_cv0 d 141 342 R [.ref 2, .int v2] (x, G, L)) (fun a1 x1 G1 L1 =>
    if a1 = (i3 0) then
      (oV x1 G1 L1)
    else (sm_aI (sm_cv0 d 143 342 R [.ref 2, .int (i3 0), .int (i3 5)] (x1, G1, L1)) (fun a2 x2 G2 L2 =>
        gd (sm_is r0 342 5) (sm_aI (sm_cv0 d 143 342 R [.ref 2, .int (i3 0), .int ((G2 r0 10) - (i3 1))] (x2, G2, L2)) (fun a3 x3 G3 L3 =>
          sm_aV (sm_cv0 d 145 342 R [.ref 2, .int (i3 59)] (x3, G3, L3)) (fun x4 G4 L4 =>
            sm_aI (sm_cv0 d 135 342 R [.ref 2] (x4, G4, L4)) (fun a5 x5 G5 L5 =>
              if a5 = (i3 0) then
                (gd (sm_is r0 342 5) (ldi (R r0 6) a2 G5 (fun y6 => gd (sm_is (R r0 6) 342 20) (gd (sm_in a2 (sm_N (R r0 6))) (oV x5 (sm_up G5 (R r0 6) a2.toNatClampNeg (y6 ||| (shl (i3 1) a3))) L5)))))
              else (oV x5 G5 L5)) oX) oX) oX)) oX)) oX := (cv_eq rfl rfl).trans (hD_eq.trans rfl)
set_option maxRecDepth 20000 in
theorem m_125 {d x : Nat} {V : pV} {G : sm_G} {L : sm_L} {r0 : Nat} {v2 : Int32} (hr0 : pS r0) : sm_cv0 (d + 1) 125 342 (RR V) [.ref r0, .ref 2, .int v2] (x, G, L) =
  sm_aI (sm_cv0 d 141 342 (RR V) [.ref 2, .int v2] (x, G, L)) (fun a1 x1 G1 L1 =>
    if a1 = (i3 0) then
      (oV x1 G1 L1)
    else (sm_aI (sm_cv0 d 143 342 (RR V) [.ref 2, .int (i3 0), .int (i3 5)] (x1, G1, L1)) (fun a2 x2 G2 L2 =>
        sm_aI (sm_cv0 d 143 342 (RR V) [.ref 2, .int (i3 0), .int ((G2 r0 10) - (i3 1))] (x2, G2, L2)) (fun a3 x3 G3 L3 =>
          sm_aV (sm_cv0 d 145 342 (RR V) [.ref 2, .int (i3 59)] (x3, G3, L3)) (fun x4 G4 L4 =>
            sm_aI (sm_cv0 d 135 342 (RR V) [.ref 2] (x4, G4, L4)) (fun a5 x5 G5 L5 =>
              if a5 = (i3 0) then
                (gd (sm_in a2 6) (gd (sm_in a2 6) (oV x5 (sm_up G5 (r0 + 15) a2.toNatClampNeg ((G5 (r0 + 15) a2.toNatClampNeg) ||| (shl (i3 1) a3))) L5)))
              else (oV x5 G5 L5)) oX) oX) oX) oX)) oX := by
  rw [rm_125]
  try simp only [gd_tt, (fS_0_6 V hr0), (kS_0 hr0), (kS_15 hr0), (nS_15 hr0), k_2, ldi_e (kS_15 hr0) (nS_15 hr0)]
/-! Street_readNoise -/
set_option maxRecDepth 20000 in
theorem rm_126 {d x : Nat} {R : sm_R} {G : sm_G} {L : sm_L} {r0 : Nat} {v2 : Int32} : sm_cv0 (d + 1) 126 342 R [.ref r0, .ref 2, .int v2] (x, G, L) =
  sm_aI (sm_cv0 d 141 342 R [.ref 2, .int v2] (x, G, L)) (fun a1 x1 G1 L1 =>
    if a1 = (i3 0) then
      (oV x1 G1 L1)
    else (sm_aI (sm_cv0 d 143 342 R [.ref 2, .int (i3 0), .int (i3 300)] (x1, G1, L1)) (fun a2 x2 G2 L2 =>
        sm_aI (sm_cv0 d 143 342 R [.ref 2, .int (i3 0), .int (i3 5)] (x2, G2, L2)) (fun a3 x3 G3 L3 =>
          sm_aV (sm_cv0 d 145 342 R [.ref 2, .int (i3 59)] (x3, G3, L3)) (fun x4 G4 L4 =>
            sm_aI (sm_cv0 d 135 342 R [.ref 2] (x4, G4, L4)) (fun a5 x5 G5 L5 =>
              if a5 = (i3 0) then
                (gd (sm_is r0 342 5) (gd (sm_is r0 342 5) (gd (sm_is (R r0 0) 342 3) (gd (sm_is (R r0 0) 342 3) (sm_aV (sm_cv0 d 107 342 R [.ref (R r0 0), .int (G5 (R r0 0) 8), .int a2, .int a3] (x5, G5, L5)) (fun x6 G6 L6 =>
                  oV x6 G6 L6) oX)))))
              else (oV x5 G5 L5)) oX) oX) oX) oX)) oX := (cv_eq rfl rfl).trans (hD_eq.trans rfl)
set_option maxRecDepth 20000 in
theorem m_126 {d x : Nat} {V : pV} {G : sm_G} {L : sm_L} {r0 : Nat} {v2 : Int32} (hr0 : pS r0) : sm_cv0 (d + 1) 126 342 (RR V) [.ref r0, .ref 2, .int v2] (x, G, L) =
  sm_aI (sm_cv0 d 141 342 (RR V) [.ref 2, .int v2] (x, G, L)) (fun a1 x1 G1 L1 =>
    if a1 = (i3 0) then
      (oV x1 G1 L1)
    else (sm_aI (sm_cv0 d 143 342 (RR V) [.ref 2, .int (i3 0), .int (i3 300)] (x1, G1, L1)) (fun a2 x2 G2 L2 =>
        sm_aI (sm_cv0 d 143 342 (RR V) [.ref 2, .int (i3 0), .int (i3 5)] (x2, G2, L2)) (fun a3 x3 G3 L3 =>
          sm_aV (sm_cv0 d 145 342 (RR V) [.ref 2, .int (i3 59)] (x3, G3, L3)) (fun x4 G4 L4 =>
            sm_aI (sm_cv0 d 135 342 (RR V) [.ref 2] (x4, G4, L4)) (fun a5 x5 G5 L5 =>
              if a5 = (i3 0) then
                (sm_aV (sm_cv0 d 107 342 (RR V) [.ref (r0 + 1), .int (G5 (r0 + 1) 8), .int a2, .int a3] (x5, G5, L5)) (fun x6 G6 L6 =>
                  oV x6 G6 L6) oX)
              else (oV x5 G5 L5)) oX) oX) oX) oX)) oX := by
  rw [rm_126]
  try simp only [gd_tt, (fS_0_0 V hr0), (kS_0 hr0), (kS_1 hr0), k_2]
/-! Street_readTwin -/
set_option maxRecDepth 20000 in
theorem rm_127 {d x : Nat} {R : sm_R} {G : sm_G} {L : sm_L} {r0 : Nat} {v2 : Int32} : sm_cv0 (d + 1) 127 342 R [.ref r0, .ref 2, .int v2] (x, G, L) =
  sm_aI (sm_cv0 d 141 342 R [.ref 2, .int v2] (x, G, L)) (fun a1 x1 G1 L1 =>
    if a1 = (i3 0) then
      (oV x1 G1 L1)
    else (gd (sm_is r0 342 5) (sm_aI (sm_cv0 d 128 342 R [.ref r0, .ref 2] (x1, G1, L1)) (fun a2 x2 G2 L2 =>
        gd (sm_is r0 342 5) (sm_aI (sm_cv0 d 128 342 R [.ref r0, .ref 2] (x2, G2, L2)) (fun a3 x3 G3 L3 =>
          if a2 = a3 then
            (sm_aV (sm_cv0 d 144 342 R [.ref 2] (x3, G3, L3)) (fun x4 G4 L4 =>
              hD d 127 32 [.ref r0, .ref 2, .null, .int a2, .int a3] 342 R x4 G4 L4) oX)
          else (hD d 127 32 [.ref r0, .ref 2, .null, .int a2, .int a3] 342 R x3 G3 L3)) oX)) oX))) oX := (cv_eq rfl rfl).trans (hD_eq.trans rfl)
set_option maxRecDepth 20000 in
theorem m_127 {d x : Nat} {V : pV} {G : sm_G} {L : sm_L} {r0 : Nat} {v2 : Int32} (hr0 : pS r0) : sm_cv0 (d + 1) 127 342 (RR V) [.ref r0, .ref 2, .int v2] (x, G, L) =
  sm_aI (sm_cv0 d 141 342 (RR V) [.ref 2, .int v2] (x, G, L)) (fun a1 x1 G1 L1 =>
    if a1 = (i3 0) then
      (oV x1 G1 L1)
    else (sm_aI (sm_cv0 d 128 342 (RR V) [.ref r0, .ref 2] (x1, G1, L1)) (fun a2 x2 G2 L2 =>
        sm_aI (sm_cv0 d 128 342 (RR V) [.ref r0, .ref 2] (x2, G2, L2)) (fun a3 x3 G3 L3 =>
          if a2 = a3 then
            (sm_aV (sm_cv0 d 144 342 (RR V) [.ref 2] (x3, G3, L3)) (fun x4 G4 L4 =>
              hD d 127 32 [.ref r0, .ref 2, .null, .int a2, .int a3] 342 (RR V) x4 G4 L4) oX)
          else (hD d 127 32 [.ref r0, .ref 2, .null, .int a2, .int a3] 342 (RR V) x3 G3 L3)) oX) oX)) oX := by
  rw [rm_127]
  try simp only [gd_tt, (kS_0 hr0), k_2]
set_option maxRecDepth 20000 in
theorem rh_127_32 {d x : Nat} {R : sm_R} {G : sm_G} {L : sm_L} {r0 : Nat} {v3 v4 : Int32} : hD d 127 32 [.ref r0, .ref 2, .null, .int v3, .int v4] 342 R x G L =
  sm_aV (sm_cv0 d 145 342 R [.ref 2, .int (i3 59)] (x, G, L)) (fun x1 G1 L1 =>
    sm_aI (sm_cv0 d 135 342 R [.ref 2] (x1, G1, L1)) (fun a2 x2 G2 L2 =>
      if a2 = (i3 0) then
        (gd (sm_is r0 342 5) (gd (sm_is (R r0 2) 342 20) (gd (sm_in v3 (sm_N (R r0 2))) (gd (sm_is r0 342 5) (gd (sm_is (R r0 2) 342 20) (gd (sm_in v4 (sm_N (R r0 2))) (gd (sm_is r0 342 5) (gd (sm_is r0 342 5) (gd (sm_is (R r0 3) 342 20) (gd (sm_in ((sm_up (sm_up G2 (R r0 2) v3.toNatClampNeg v4) (R r0 2) v4.toNatClampNeg v3) r0 11) (sm_N (R r0 3))) (gd (sm_is r0 342 5) (gd (sm_is r0 342 5) (oV x2 (sm_up (sm_up (sm_up (sm_up G2 (R r0 2) v3.toNatClampNeg v4) (R r0 2) v4.toNatClampNeg v3) (R r0 3) (((sm_up (sm_up G2 (R r0 2) v3.toNatClampNeg v4) (R r0 2) v4.toNatClampNeg v3) r0 11).toNatClampNeg) ((shl (i3 1) v3) ||| (shl (i3 1) v4))) r0 11 (((sm_up (sm_up (sm_up G2 (R r0 2) v3.toNatClampNeg v4) (R r0 2) v4.toNatClampNeg v3) (R r0 3) (((sm_up (sm_up G2 (R r0 2) v3.toNatClampNeg v4) (R r0 2) v4.toNatClampNeg v3) r0 11).toNatClampNeg) ((shl (i3 1) v3) ||| (shl (i3 1) v4))) r0 11) + (i3 1))) L2)))))))))))))
      else (oV x2 G2 L2)) oX) oX := hD_eq.trans rfl
set_option maxRecDepth 20000 in
theorem h_127_32 {d x : Nat} {V : pV} {G : sm_G} {L : sm_L} {r0 : Nat} {v3 v4 : Int32} (hr0 : pS r0) : hD d 127 32 [.ref r0, .ref 2, .null, .int v3, .int v4] 342 (RR V) x G L =
  sm_aV (sm_cv0 d 145 342 (RR V) [.ref 2, .int (i3 59)] (x, G, L)) (fun x1 G1 L1 =>
    sm_aI (sm_cv0 d 135 342 (RR V) [.ref 2] (x1, G1, L1)) (fun a2 x2 G2 L2 =>
      if a2 = (i3 0) then
        (gd (sm_in v3 8) (gd (sm_in v4 8) (gd (sm_in ((sm_up (sm_up G2 (r0 + 11) v3.toNatClampNeg v4) (r0 + 11) v4.toNatClampNeg v3) r0 11) 3) (oV x2 (sm_up (sm_up (sm_up (sm_up G2 (r0 + 11) v3.toNatClampNeg v4) (r0 + 11) v4.toNatClampNeg v3) (r0 + 12) (((sm_up (sm_up G2 (r0 + 11) v3.toNatClampNeg v4) (r0 + 11) v4.toNatClampNeg v3) r0 11).toNatClampNeg) ((shl (i3 1) v3) ||| (shl (i3 1) v4))) r0 11 (((sm_up (sm_up (sm_up G2 (r0 + 11) v3.toNatClampNeg v4) (r0 + 11) v4.toNatClampNeg v3) (r0 + 12) (((sm_up (sm_up G2 (r0 + 11) v3.toNatClampNeg v4) (r0 + 11) v4.toNatClampNeg v3) r0 11).toNatClampNeg) ((shl (i3 1) v3) ||| (shl (i3 1) v4))) r0 11) + (i3 1))) L2))))
      else (oV x2 G2 L2)) oX) oX := by
  rw [rh_127_32]
  try simp only [gd_tt, (fS_0_2 V hr0), (fS_0_3 V hr0), (kS_0 hr0), (kS_11 hr0), (kS_12 hr0), (nS_11 hr0), (nS_12 hr0), k_2]
