/-! block equations, by the program wip/gen/gen4.py -/
/-! M_book -/
set_option maxRecDepth 20000 in
theorem rm_244 {d x : Nat} {R : sm_R} {G : sm_G} {L : sm_L} {v1 : Int32} : sm_cv0 (d + 1) 244 342 R [.ref 156, .int v1] (x, G, L) =
  sm_aI (sm_cv0 d 218 342 R [.int v1, .int (i3 0), .int ((sm_up G 156 0 (i3 0)) 156 1)] (x, sm_up G 156 0 (i3 0), L)) (fun a1 x1 G1 L1 =>
    if a1 = (i3 0) then
      (sm_aI (sm_cv0 d 219 342 R [.ref 156, .int (i3 1), .int (i3 1), .int (i3 2)] (x1, G1, L1)) (fun a2 x2 G2 L2 =>
        if a2 = (i3 0) then
          (sm_aV (sm_cv0 d 220 342 R [.ref 156, .int v1] (x2, G2, L2)) (fun x3 G3 L3 =>
            hD d 244 47 [.ref 156, .null, .int (i3 0), .null] 342 R x3 G3 L3) oX)
        else (oI (i3 0) x2 G2 L2)) oX)
    else (if v1 ≤ (i3 150) then
        (sm_aI (sm_cv0 d 219 342 R [.ref 156, .int (i3 0), .int (i3 1), .int (i3 2)] (x1, G1, L1)) (fun a4 x4 G4 L4 =>
          if a4 = (i3 0) then
            (sm_aV (sm_cv0 d 220 342 R [.ref 156, .int v1] (x4, G4, L4)) (fun x5 G5 L5 =>
              hD d 244 47 [.ref 156, .null, .int (i3 0), .null] 342 R x5 G5 L5) oX)
          else (oI (i3 0) x4 G4 L4)) oX)
      else (sm_aI (sm_cv0 d 219 342 R [.ref 156, .int (i3 1), .int (i3 1), .int (i3 2)] (x1, G1, L1)) (fun a6 x6 G6 L6 =>
          if a6 = (i3 0) then
            (sm_aV (sm_cv0 d 220 342 R [.ref 156, .int v1] (x6, G6, L6)) (fun x7 G7 L7 =>
              hD d 244 47 [.ref 156, .null, .int (i3 0), .null] 342 R x7 G7 L7) oX)
          else (oI (i3 0) x6 G6 L6)) oX))) oX := (cv_eq rfl rfl).trans (hD_eq.trans rfl)
set_option maxRecDepth 20000 in
theorem m_244 {d x : Nat} {V : pV} {G : sm_G} {L : sm_L} {v1 : Int32} : sm_cv0 (d + 1) 244 342 (RR V) [.ref 156, .int v1] (x, G, L) =
  sm_aI (sm_cv0 d 218 342 (RR V) [.int v1, .int (i3 0), .int ((sm_up G 156 0 (i3 0)) 156 1)] (x, sm_up G 156 0 (i3 0), L)) (fun a1 x1 G1 L1 =>
    if a1 = (i3 0) then
      (sm_aI (sm_cv0 d 219 342 (RR V) [.ref 156, .int (i3 1), .int (i3 1), .int (i3 2)] (x1, G1, L1)) (fun a2 x2 G2 L2 =>
        if a2 = (i3 0) then
          (sm_aV (sm_cv0 d 220 342 (RR V) [.ref 156, .int v1] (x2, G2, L2)) (fun x3 G3 L3 =>
            hD d 244 47 [.ref 156, .null, .int (i3 0), .null] 342 (RR V) x3 G3 L3) oX)
        else (oI (i3 0) x2 G2 L2)) oX)
    else (if v1 ≤ (i3 150) then
        (sm_aI (sm_cv0 d 219 342 (RR V) [.ref 156, .int (i3 0), .int (i3 1), .int (i3 2)] (x1, G1, L1)) (fun a4 x4 G4 L4 =>
          if a4 = (i3 0) then
            (sm_aV (sm_cv0 d 220 342 (RR V) [.ref 156, .int v1] (x4, G4, L4)) (fun x5 G5 L5 =>
              hD d 244 47 [.ref 156, .null, .int (i3 0), .null] 342 (RR V) x5 G5 L5) oX)
          else (oI (i3 0) x4 G4 L4)) oX)
      else (sm_aI (sm_cv0 d 219 342 (RR V) [.ref 156, .int (i3 1), .int (i3 1), .int (i3 2)] (x1, G1, L1)) (fun a6 x6 G6 L6 =>
          if a6 = (i3 0) then
            (sm_aV (sm_cv0 d 220 342 (RR V) [.ref 156, .int v1] (x6, G6, L6)) (fun x7 G7 L7 =>
              hD d 244 47 [.ref 156, .null, .int (i3 0), .null] 342 (RR V) x7 G7 L7) oX)
          else (oI (i3 0) x6 G6 L6)) oX))) oX := by
  rw [rm_244]
  try simp only [gd_tt, k_156]
set_option maxRecDepth 20000 in
theorem rh_244_47 {d x : Nat} {R : sm_R} {G : sm_G} {L : sm_L} {v2 : Int32} : hD d 244 47 [.ref 156, .null, .int v2, .null] 342 R x G L =
  if (G 156 5) = (i3 0) then
    (if (G 156 4) < (G 156 2) then
      (sm_aI (sm_cv0 d 225 342 R [.ref 156, .int (i3 19), .int (i3 5), .int (i3 5), .int (i3 14), .int (i3 0), .int (i3 0), .int (i3 0)] (x, G, L)) (fun a1 x1 G1 L1 =>
        if a1 = (i3 0) then
          (sm_aI (sm_cv0 d 225 342 R [.ref 156, .int (i3 7), .int (i3 15), .int (i3 14), .int (i3 5), .int (i3 0), .int (i3 0), .int (i3 0)] (x1, G1, L1)) (fun a2 x2 G2 L2 =>
            if a2 = (i3 0) then
              (hD d 244 108 [.ref 156, .null, .int v2, .int m1] 342 R x2 G2 L2)
            else (hD d 244 108 [.ref 156, .null, .int v2, .int (i3 0)] 342 R x2 G2 L2)) oX)
        else (hD d 244 108 [.ref 156, .null, .int v2, .int (i3 1)] 342 R x1 G1 L1)) oX)
    else (hD d 244 195 [.ref 156, .null, .int v2, .null] 342 R x G L))
  else (hD d 244 195 [.ref 156, .null, .int v2, .null] 342 R x G L) := hD_eq.trans rfl
set_option maxRecDepth 20000 in
theorem h_244_47 {d x : Nat} {V : pV} {G : sm_G} {L : sm_L} {v2 : Int32} : hD d 244 47 [.ref 156, .null, .int v2, .null] 342 (RR V) x G L =
  if (G 156 5) = (i3 0) then
    (if (G 156 4) < (G 156 2) then
      (sm_aI (sm_cv0 d 225 342 (RR V) [.ref 156, .int (i3 19), .int (i3 5), .int (i3 5), .int (i3 14), .int (i3 0), .int (i3 0), .int (i3 0)] (x, G, L)) (fun a1 x1 G1 L1 =>
        if a1 = (i3 0) then
          (sm_aI (sm_cv0 d 225 342 (RR V) [.ref 156, .int (i3 7), .int (i3 15), .int (i3 14), .int (i3 5), .int (i3 0), .int (i3 0), .int (i3 0)] (x1, G1, L1)) (fun a2 x2 G2 L2 =>
            if a2 = (i3 0) then
              (hD d 244 108 [.ref 156, .null, .int v2, .int m1] 342 (RR V) x2 G2 L2)
            else (hD d 244 108 [.ref 156, .null, .int v2, .int (i3 0)] 342 (RR V) x2 G2 L2)) oX)
        else (hD d 244 108 [.ref 156, .null, .int v2, .int (i3 1)] 342 (RR V) x1 G1 L1)) oX)
    else (hD d 244 195 [.ref 156, .null, .int v2, .null] 342 (RR V) x G L))
  else (hD d 244 195 [.ref 156, .null, .int v2, .null] 342 (RR V) x G L) := by
  rw [rh_244_47]
  try simp only [gd_tt, k_156]
set_option maxRecDepth 20000 in
theorem rh_244_108 {d x : Nat} {R : sm_R} {G : sm_G} {L : sm_L} {v2 v3 : Int32} : hD d 244 108 [.ref 156, .null, .int v2, .int v3] 342 R x G L =
  if v3 = m1 then
    (sm_aV (sm_cv0 d 229 342 R [.ref 156, .int (i3 1), .int (G 156 4)] (x, G, L)) (fun x1 G1 L1 =>
      hD d 244 140 [.ref 156, .null, .int v2, .int v3] 342 R x1 G1 L1) oX)
  else (if v2 = (i3 12) then
      (sm_aV (sm_cv0 d 229 342 R [.ref 156, .int (i3 3), .int (G 156 4)] (x, G, L)) (fun x2 G2 L2 =>
        hD d 244 140 [.ref 156, .null, .int v2, .int v3] 342 R x2 G2 L2) oX)
    else (hD d 244 140 [.ref 156, .null, .int v2, .int v3] 342 R x G L)) := hD_eq.trans rfl
set_option maxRecDepth 20000 in
theorem h_244_108 {d x : Nat} {V : pV} {G : sm_G} {L : sm_L} {v2 v3 : Int32} : hD d 244 108 [.ref 156, .null, .int v2, .int v3] 342 (RR V) x G L =
  if v3 = m1 then
    (sm_aV (sm_cv0 d 229 342 (RR V) [.ref 156, .int (i3 1), .int (G 156 4)] (x, G, L)) (fun x1 G1 L1 =>
      hD d 244 140 [.ref 156, .null, .int v2, .int v3] 342 (RR V) x1 G1 L1) oX)
  else (if v2 = (i3 12) then
      (sm_aV (sm_cv0 d 229 342 (RR V) [.ref 156, .int (i3 3), .int (G 156 4)] (x, G, L)) (fun x2 G2 L2 =>
        hD d 244 140 [.ref 156, .null, .int v2, .int v3] 342 (RR V) x2 G2 L2) oX)
    else (hD d 244 140 [.ref 156, .null, .int v2, .int v3] 342 (RR V) x G L)) := by
  rw [rh_244_108]
  try simp only [gd_tt, k_156]
set_option maxRecDepth 20000 in
theorem rh_244_140 {d x : Nat} {R : sm_R} {G : sm_G} {L : sm_L} {v2 v3 : Int32} : hD d 244 140 [.ref 156, .null, .int v2, .int v3] 342 R x G L =
  if (G 156 5) = (i3 0) then
    (sm_aV (sm_cv0 d 231 342 R [.ref 156] (x, G, L)) (fun x1 G1 L1 =>
      gd (Nat.ble 24 (sm_K (R 156 29)) && Nat.ble (sm_K (R 156 29)) 27 && Nat.ble (R 156 29) 342) (gd (sm_in v2 (sm_N (R 156 29))) (gd (sm_is (R (R 156 29) v2.toNatClampNeg) 342 20) (gd (sm_in (i3 0) (sm_N (R (R 156 29) v2.toNatClampNeg))) (gd (Nat.ble 24 (sm_K (R 156 29)) && Nat.ble (sm_K (R 156 29)) 27 && Nat.ble (R 156 29) 342) (gd (sm_in v2 (sm_N (R 156 29))) (sm_aI (sm_cv0 d 232 342 R [.ref 156, .int (i3 0), .int (i3 300)] (x1, sm_up G1 (R (R 156 29) v2.toNatClampNeg) 0 v3, L1)) (fun a2 x2 G2 L2 =>
        gd (sm_is (R (R 156 29) v2.toNatClampNeg) 342 20) (gd (sm_in (i3 1) (sm_N (R (R 156 29) v2.toNatClampNeg))) (sm_aV (sm_cv0 d 236 342 R [.ref 156, .int (i3 59)] (x2, sm_up G2 (R (R 156 29) v2.toNatClampNeg) 1 a2, L2)) (fun x3 G3 L3 =>
          sm_aV (sm_cv0 d 221 342 R [.ref 156] (x3, G3, L3)) (fun x4 G4 L4 =>
            hD d 244 47 [.ref 156, .null, .int (v2 + (i3 1)), .null] 342 R x4 G4 L4) oX) oX))) oX))))))) oX)
  else (hD d 244 195 [.ref 156, .null, .int v2, .null] 342 R x G L) := hD_eq.trans rfl
set_option maxRecDepth 20000 in
theorem h_244_140 {d x : Nat} {V : pV} {G : sm_G} {L : sm_L} {v2 v3 : Int32} : hD d 244 140 [.ref 156, .null, .int v2, .int v3] 342 (RR V) x G L =
  if (G 156 5) = (i3 0) then
    (sm_aV (sm_cv0 d 231 342 (RR V) [.ref 156] (x, G, L)) (fun x1 G1 L1 =>
      gd (sm_in v2 12) (gd (sm_is (RR V 265 v2.toNatClampNeg) 342 20) (gd (sm_in (i3 0) (sm_N (RR V 265 v2.toNatClampNeg))) (gd (sm_in v2 12) (sm_aI (sm_cv0 d 232 342 (RR V) [.ref 156, .int (i3 0), .int (i3 300)] (x1, sm_up G1 (RR V 265 v2.toNatClampNeg) 0 v3, L1)) (fun a2 x2 G2 L2 =>
        gd (sm_is (RR V 265 v2.toNatClampNeg) 342 20) (gd (sm_in (i3 1) (sm_N (RR V 265 v2.toNatClampNeg))) (sm_aV (sm_cv0 d 236 342 (RR V) [.ref 156, .int (i3 59)] (x2, sm_up G2 (RR V 265 v2.toNatClampNeg) 1 a2, L2)) (fun x3 G3 L3 =>
          sm_aV (sm_cv0 d 221 342 (RR V) [.ref 156] (x3, G3, L3)) (fun x4 G4 L4 =>
            hD d 244 47 [.ref 156, .null, .int (v2 + (i3 1)), .null] 342 (RR V) x4 G4 L4) oX) oX))) oX))))) oX)
  else (hD d 244 195 [.ref 156, .null, .int v2, .null] 342 (RR V) x G L) := by
  rw [rh_244_140]
  try simp only [gd_tt, (q_156_29 V), a_265, k_156, n_265]
set_option maxRecDepth 20000 in
theorem rh_244_195 {d x : Nat} {R : sm_R} {G : sm_G} {L : sm_L} {v2 : Int32} : hD d 244 195 [.ref 156, .null, .int v2, .null] 342 R x G L =
  if ((sm_up G 156 3 (G 156 6)) 156 5) = (i3 0) then
    (sm_aV (sm_cv0 d 214 342 R [.ref (R 156 29), .ref (R 156 28), .int v2] (x, sm_up (sm_up G 156 3 (G 156 6)) 156 36 v2, L)) (fun x1 G1 L1 =>
      oI v2 x1 G1 L1) oX)
  else (oI (((sm_up G 156 3 (G 156 6)) 156 5) - (i3 10)) x (sm_up G 156 3 (G 156 6)) L) := hD_eq.trans rfl
set_option maxRecDepth 20000 in
theorem h_244_195 {d x : Nat} {V : pV} {G : sm_G} {L : sm_L} {v2 : Int32} : hD d 244 195 [.ref 156, .null, .int v2, .null] 342 (RR V) x G L =
  if ((sm_up G 156 3 (G 156 6)) 156 5) = (i3 0) then
    (sm_aV (sm_cv0 d 214 342 (RR V) [.ref 265, .ref 252, .int v2] (x, sm_up (sm_up G 156 3 (G 156 6)) 156 36 v2, L)) (fun x1 G1 L1 =>
      oI v2 x1 G1 L1) oX)
  else (oI (((sm_up G 156 3 (G 156 6)) 156 5) - (i3 10)) x (sm_up G 156 3 (G 156 6)) L) := by
  rw [rh_244_195]
  try simp only [gd_tt, (q_156_28 V), (q_156_29 V), k_156]
/-! M_fault -/
set_option maxRecDepth 20000 in
theorem rm_245 {d x : Nat} {R : sm_R} {G : sm_G} {L : sm_L} : sm_cv0 (d + 1) 245 342 R [.ref 156] (x, G, L) =
  oI ((sm_up G 156 0 (i3 0)) 156 3) x (sm_up G 156 0 (i3 0)) L := (cv_eq rfl rfl).trans (hD_eq.trans rfl)
set_option maxRecDepth 20000 in
theorem m_245 {d x : Nat} {V : pV} {G : sm_G} {L : sm_L} : sm_cv0 (d + 1) 245 342 (RR V) [.ref 156] (x, G, L) =
  oI ((sm_up G 156 0 (i3 0)) 156 3) x (sm_up G 156 0 (i3 0)) L := by
  rw [rm_245]
  try simp only [gd_tt, k_156]
/-! M_told -/
set_option maxRecDepth 20000 in
theorem rm_246 {d x : Nat} {R : sm_R} {G : sm_G} {L : sm_L} {v1 : Int32} : sm_cv0 (d + 1) 246 342 R [.ref 156, .int v1] (x, G, L) =
  sm_aI (sm_cv0 d 218 342 R [.int v1, .int (i3 0), .int (i3 7)] (x, sm_up G 156 0 (i3 0), L)) (fun a1 x1 G1 L1 =>
    if a1 = (i3 0) then
      (sm_aI (sm_cv0 d 219 342 R [.ref 156, .int (i3 1), .int (i3 1), .int (i3 2)] (x1, G1, L1)) (fun a2 x2 G2 L2 =>
        if a2 = (i3 0) then
          (hD d 246 31 [.ref 156, .int v1] 342 R x2 G2 L2)
        else (oI (i3 0) x2 G2 L2)) oX)
    else (sm_aI (sm_cv0 d 219 342 R [.ref 156, .int (i3 0), .int (i3 1), .int (i3 2)] (x1, G1, L1)) (fun a3 x3 G3 L3 =>
        if a3 = (i3 0) then
          (hD d 246 31 [.ref 156, .int v1] 342 R x3 G3 L3)
        else (oI (i3 0) x3 G3 L3)) oX)) oX := (cv_eq rfl rfl).trans (hD_eq.trans rfl)
set_option maxRecDepth 20000 in
theorem m_246 {d x : Nat} {V : pV} {G : sm_G} {L : sm_L} {v1 : Int32} : sm_cv0 (d + 1) 246 342 (RR V) [.ref 156, .int v1] (x, G, L) =
  sm_aI (sm_cv0 d 218 342 (RR V) [.int v1, .int (i3 0), .int (i3 7)] (x, sm_up G 156 0 (i3 0), L)) (fun a1 x1 G1 L1 =>
    if a1 = (i3 0) then
      (sm_aI (sm_cv0 d 219 342 (RR V) [.ref 156, .int (i3 1), .int (i3 1), .int (i3 2)] (x1, G1, L1)) (fun a2 x2 G2 L2 =>
        if a2 = (i3 0) then
          (hD d 246 31 [.ref 156, .int v1] 342 (RR V) x2 G2 L2)
        else (oI (i3 0) x2 G2 L2)) oX)
    else (sm_aI (sm_cv0 d 219 342 (RR V) [.ref 156, .int (i3 0), .int (i3 1), .int (i3 2)] (x1, G1, L1)) (fun a3 x3 G3 L3 =>
        if a3 = (i3 0) then
          (hD d 246 31 [.ref 156, .int v1] 342 (RR V) x3 G3 L3)
        else (oI (i3 0) x3 G3 L3)) oX)) oX := by
  rw [rm_246]
  try simp only [gd_tt, k_156]
set_option maxRecDepth 20000 in
theorem rh_246_31 {d x : Nat} {R : sm_R} {G : sm_G} {L : sm_L} {v1 : Int32} : hD d 246 31 [.ref 156, .int v1] 342 R x G L =
  if v1 < (i3 6) then
    (ldi (R 156 12) v1 G (fun y1 => oI y1 x G L))
  else (if v1 = (i3 6) then
      (oI (G 156 37) x G L)
    else (oI (G 156 36) x G L)) := hD_eq.trans rfl
set_option maxRecDepth 20000 in
theorem h_246_31 {d x : Nat} {V : pV} {G : sm_G} {L : sm_L} {v1 : Int32} : hD d 246 31 [.ref 156, .int v1] 342 (RR V) x G L =
  if v1 < (i3 6) then
    (gd (sm_in v1 6) (oI (G 160 v1.toNatClampNeg) x G L))
  else (if v1 = (i3 6) then
      (oI (G 156 37) x G L)
    else (oI (G 156 36) x G L)) := by
  rw [rh_246_31]
  try simp only [gd_tt, (q_156_12 V), k_156, ldi_e k_160 n_160, n_160]
/-! M_sleeper -/
set_option maxRecDepth 20000 in
theorem rm_247 {d x : Nat} {R : sm_R} {G : sm_G} {L : sm_L} {v1 v2 : Int32} : sm_cv0 (d + 1) 247 342 R [.ref 156, .int v1, .int v2] (x, G, L) =
  sm_aI (sm_cv0 d 248 342 R [.ref 156, .int v1] (x, sm_up G 156 0 (i3 0), L)) (fun a1 x1 G1 L1 =>
    if a1 = (i3 0) then
      (sm_aI (sm_cv0 d 219 342 R [.ref 156, .int (i3 1), .int (i3 1), .int (i3 1)] (x1, G1, L1)) (fun a2 x2 G2 L2 =>
        if a2 = (i3 0) then
          (hD d 247 27 [.ref 156, .int v1, .int v2] 342 R x2 G2 L2)
        else (oI (i3 0) x2 G2 L2)) oX)
    else (sm_aI (sm_cv0 d 219 342 R [.ref 156, .int (i3 0), .int (i3 1), .int (i3 1)] (x1, G1, L1)) (fun a3 x3 G3 L3 =>
        if a3 = (i3 0) then
          (hD d 247 27 [.ref 156, .int v1, .int v2] 342 R x3 G3 L3)
        else (oI (i3 0) x3 G3 L3)) oX)) oX := (cv_eq rfl rfl).trans (hD_eq.trans rfl)
set_option maxRecDepth 20000 in
theorem m_247 {d x : Nat} {V : pV} {G : sm_G} {L : sm_L} {v1 v2 : Int32} : sm_cv0 (d + 1) 247 342 (RR V) [.ref 156, .int v1, .int v2] (x, G, L) =
  sm_aI (sm_cv0 d 248 342 (RR V) [.ref 156, .int v1] (x, sm_up G 156 0 (i3 0), L)) (fun a1 x1 G1 L1 =>
    if a1 = (i3 0) then
      (sm_aI (sm_cv0 d 219 342 (RR V) [.ref 156, .int (i3 1), .int (i3 1), .int (i3 1)] (x1, G1, L1)) (fun a2 x2 G2 L2 =>
        if a2 = (i3 0) then
          (hD d 247 27 [.ref 156, .int v1, .int v2] 342 (RR V) x2 G2 L2)
        else (oI (i3 0) x2 G2 L2)) oX)
    else (sm_aI (sm_cv0 d 219 342 (RR V) [.ref 156, .int (i3 0), .int (i3 1), .int (i3 1)] (x1, G1, L1)) (fun a3 x3 G3 L3 =>
        if a3 = (i3 0) then
          (hD d 247 27 [.ref 156, .int v1, .int v2] 342 (RR V) x3 G3 L3)
        else (oI (i3 0) x3 G3 L3)) oX)) oX := by
  rw [rm_247]
  try simp only [gd_tt, k_156]
set_option maxRecDepth 20000 in
theorem rh_247_27 {d x : Nat} {R : sm_R} {G : sm_G} {L : sm_L} {v1 v2 : Int32} : hD d 247 27 [.ref 156, .int v1, .int v2] 342 R x G L =
  sm_aI (sm_cv0 d 218 342 R [.int v2, .int (i3 0), .int (i3 3)] (x, G, L)) (fun a1 x1 G1 L1 =>
    if a1 = (i3 0) then
      (sm_aI (sm_cv0 d 219 342 R [.ref 156, .int (i3 1), .int (i3 2), .int (i3 2)] (x1, G1, L1)) (fun a2 x2 G2 L2 =>
        if a2 = (i3 0) then
          (hD d 247 52 [.ref 156, .int v1, .int v2] 342 R x2 G2 L2)
        else (oI (i3 0) x2 G2 L2)) oX)
    else (sm_aI (sm_cv0 d 219 342 R [.ref 156, .int (i3 0), .int (i3 2), .int (i3 2)] (x1, G1, L1)) (fun a3 x3 G3 L3 =>
        if a3 = (i3 0) then
          (hD d 247 52 [.ref 156, .int v1, .int v2] 342 R x3 G3 L3)
        else (oI (i3 0) x3 G3 L3)) oX)) oX := hD_eq.trans rfl
set_option maxRecDepth 20000 in
theorem h_247_27 {d x : Nat} {V : pV} {G : sm_G} {L : sm_L} {v1 v2 : Int32} : hD d 247 27 [.ref 156, .int v1, .int v2] 342 (RR V) x G L =
  sm_aI (sm_cv0 d 218 342 (RR V) [.int v2, .int (i3 0), .int (i3 3)] (x, G, L)) (fun a1 x1 G1 L1 =>
    if a1 = (i3 0) then
      (sm_aI (sm_cv0 d 219 342 (RR V) [.ref 156, .int (i3 1), .int (i3 2), .int (i3 2)] (x1, G1, L1)) (fun a2 x2 G2 L2 =>
        if a2 = (i3 0) then
          (hD d 247 52 [.ref 156, .int v1, .int v2] 342 (RR V) x2 G2 L2)
        else (oI (i3 0) x2 G2 L2)) oX)
    else (sm_aI (sm_cv0 d 219 342 (RR V) [.ref 156, .int (i3 0), .int (i3 2), .int (i3 2)] (x1, G1, L1)) (fun a3 x3 G3 L3 =>
        if a3 = (i3 0) then
          (hD d 247 52 [.ref 156, .int v1, .int v2] 342 (RR V) x3 G3 L3)
        else (oI (i3 0) x3 G3 L3)) oX)) oX := by
  rw [rh_247_27]
  try simp only [gd_tt, k_156]
set_option maxRecDepth 20000 in
theorem rh_247_52 {d x : Nat} {R : sm_R} {G : sm_G} {L : sm_L} {v1 v2 : Int32} : hD d 247 52 [.ref 156, .int v1, .int v2] 342 R x G L =
  if v2 < (i3 3) then
    (gd (Nat.ble 24 (sm_K (R 156 18)) && Nat.ble (sm_K (R 156 18)) 27 && Nat.ble (R 156 18) 342) (gd (sm_in v1 (sm_N (R 156 18))) (ldi (R (R 156 18) v1.toNatClampNeg) v2 G (fun y1 => oI y1 x G L))))
  else (ldi (R 156 14) v1 G (fun y2 => oI y2 x G L)) := hD_eq.trans rfl
set_option maxRecDepth 20000 in
theorem h_247_52 {d x : Nat} {V : pV} {G : sm_G} {L : sm_L} {v1 v2 : Int32} : hD d 247 52 [.ref 156, .int v1, .int v2] 342 (RR V) x G L =
  if v2 < (i3 3) then
    (gd (sm_in v1 8) (ldi (RR V 174 v1.toNatClampNeg) v2 G (fun y1 => oI y1 x G L)))
  else (gd (sm_in v1 8) (oI (G 162 v1.toNatClampNeg) x G L)) := by
  rw [rh_247_52]
  try simp only [gd_tt, (q_156_14 V), (q_156_18 V), a_174, k_156, ldi_e k_162 n_162, n_162, n_174]
/-! M_isSleeper -/
set_option maxRecDepth 20000 in
theorem rm_248 {d x : Nat} {R : sm_R} {G : sm_G} {L : sm_L} {v1 : Int32} : sm_cv0 (d + 1) 248 342 R [.ref 156, .int v1] (x, G, L) =
  ldi (R 156 12) (i3 0) G (fun y1 => sm_aI (sm_cv0 d 218 342 R [.int v1, .int (i3 0), .int (y1 - (i3 1))] (x, G, L)) (fun a2 x2 G2 L2 =>
    zd a2 (oI a2 x2 G2 L2)) oX) := (cv_eq rfl rfl).trans (hD_eq.trans rfl)
set_option maxRecDepth 20000 in
theorem m_248 {d x : Nat} {V : pV} {G : sm_G} {L : sm_L} {v1 : Int32} : sm_cv0 (d + 1) 248 342 (RR V) [.ref 156, .int v1] (x, G, L) =
  sm_aI (sm_cv0 d 218 342 (RR V) [.int v1, .int (i3 0), .int ((G 160 0) - (i3 1))] (x, G, L)) (fun a2 x2 G2 L2 =>
    zd a2 (oI a2 x2 G2 L2)) oX := by
  rw [rm_248]
  try simp only [gd_tt, (q_156_12 V), cl_0, inl_0_6, k_156, ldi_e k_160 n_160, n_160]
/-! M_door -/
set_option maxRecDepth 20000 in
theorem rm_249 {d x : Nat} {R : sm_R} {G : sm_G} {L : sm_L} {v1 v2 : Int32} : sm_cv0 (d + 1) 249 342 R [.ref 156, .int v1, .int v2] (x, G, L) =
  sm_aI (sm_cv0 d 250 342 R [.ref 156, .int v1] (x, sm_up G 156 0 (i3 0), L)) (fun a1 x1 G1 L1 =>
    if a1 = (i3 0) then
      (sm_aI (sm_cv0 d 219 342 R [.ref 156, .int (i3 1), .int (i3 1), .int (i3 1)] (x1, G1, L1)) (fun a2 x2 G2 L2 =>
        if a2 = (i3 0) then
          (hD d 249 27 [.ref 156, .int v1, .int v2, .null, .null] 342 R x2 G2 L2)
        else (oI (i3 0) x2 G2 L2)) oX)
    else (sm_aI (sm_cv0 d 219 342 R [.ref 156, .int (i3 0), .int (i3 1), .int (i3 1)] (x1, G1, L1)) (fun a3 x3 G3 L3 =>
        if a3 = (i3 0) then
          (hD d 249 27 [.ref 156, .int v1, .int v2, .null, .null] 342 R x3 G3 L3)
        else (oI (i3 0) x3 G3 L3)) oX)) oX := (cv_eq rfl rfl).trans (hD_eq.trans rfl)
set_option maxRecDepth 20000 in
theorem m_249 {d x : Nat} {V : pV} {G : sm_G} {L : sm_L} {v1 v2 : Int32} : sm_cv0 (d + 1) 249 342 (RR V) [.ref 156, .int v1, .int v2] (x, G, L) =
  sm_aI (sm_cv0 d 250 342 (RR V) [.ref 156, .int v1] (x, sm_up G 156 0 (i3 0), L)) (fun a1 x1 G1 L1 =>
    if a1 = (i3 0) then
      (sm_aI (sm_cv0 d 219 342 (RR V) [.ref 156, .int (i3 1), .int (i3 1), .int (i3 1)] (x1, G1, L1)) (fun a2 x2 G2 L2 =>
        if a2 = (i3 0) then
          (hD d 249 27 [.ref 156, .int v1, .int v2, .null, .null] 342 (RR V) x2 G2 L2)
        else (oI (i3 0) x2 G2 L2)) oX)
    else (sm_aI (sm_cv0 d 219 342 (RR V) [.ref 156, .int (i3 0), .int (i3 1), .int (i3 1)] (x1, G1, L1)) (fun a3 x3 G3 L3 =>
        if a3 = (i3 0) then
          (hD d 249 27 [.ref 156, .int v1, .int v2, .null, .null] 342 (RR V) x3 G3 L3)
        else (oI (i3 0) x3 G3 L3)) oX)) oX := by
  rw [rm_249]
  try simp only [gd_tt, k_156]
set_option maxRecDepth 20000 in
theorem rh_249_27 {d x : Nat} {R : sm_R} {G : sm_G} {L : sm_L} {v1 v2 : Int32} : hD d 249 27 [.ref 156, .int v1, .int v2, .null, .null] 342 R x G L =
  sm_aI (sm_cv0 d 218 342 R [.int v2, .int (i3 0), .int (i3 3)] (x, G, L)) (fun a1 x1 G1 L1 =>
    if a1 = (i3 0) then
      (sm_aI (sm_cv0 d 219 342 R [.ref 156, .int (i3 1), .int (i3 2), .int (i3 2)] (x1, G1, L1)) (fun a2 x2 G2 L2 =>
        if a2 = (i3 0) then
          (hD d 249 57 [.ref 156, .int v1, .int v2, .int (i3 0), .int (i3 0)] 342 R x2 G2 L2)
        else (oI (i3 0) x2 G2 L2)) oX)
    else (sm_aI (sm_cv0 d 219 342 R [.ref 156, .int (i3 0), .int (i3 2), .int (i3 2)] (x1, G1, L1)) (fun a3 x3 G3 L3 =>
        if a3 = (i3 0) then
          (hD d 249 57 [.ref 156, .int v1, .int v2, .int (i3 0), .int (i3 0)] 342 R x3 G3 L3)
        else (oI (i3 0) x3 G3 L3)) oX)) oX := hD_eq.trans rfl
set_option maxRecDepth 20000 in
theorem h_249_27 {d x : Nat} {V : pV} {G : sm_G} {L : sm_L} {v1 v2 : Int32} : hD d 249 27 [.ref 156, .int v1, .int v2, .null, .null] 342 (RR V) x G L =
  sm_aI (sm_cv0 d 218 342 (RR V) [.int v2, .int (i3 0), .int (i3 3)] (x, G, L)) (fun a1 x1 G1 L1 =>
    if a1 = (i3 0) then
      (sm_aI (sm_cv0 d 219 342 (RR V) [.ref 156, .int (i3 1), .int (i3 2), .int (i3 2)] (x1, G1, L1)) (fun a2 x2 G2 L2 =>
        if a2 = (i3 0) then
          (hD d 249 57 [.ref 156, .int v1, .int v2, .int (i3 0), .int (i3 0)] 342 (RR V) x2 G2 L2)
        else (oI (i3 0) x2 G2 L2)) oX)
    else (sm_aI (sm_cv0 d 219 342 (RR V) [.ref 156, .int (i3 0), .int (i3 2), .int (i3 2)] (x1, G1, L1)) (fun a3 x3 G3 L3 =>
        if a3 = (i3 0) then
          (hD d 249 57 [.ref 156, .int v1, .int v2, .int (i3 0), .int (i3 0)] 342 (RR V) x3 G3 L3)
        else (oI (i3 0) x3 G3 L3)) oX)) oX := by
  rw [rh_249_27]
  try simp only [gd_tt, k_156]
set_option maxRecDepth 20000 in
theorem rh_249_57 {d x : Nat} {R : sm_R} {G : sm_G} {L : sm_L} {v1 v2 v3 v4 : Int32} : hD d 249 57 [.ref 156, .int v1, .int v2, .int v3, .int v4] 342 R x G L =
  if v4 < (i3 6) then
    (ldi (R 156 16) v4 G (fun y1 => hD d 249 57 [.ref 156, .int v1, .int v2, .int (v3 ||| (shl ((shr y1 v1) &&& (i3 1)) v4)), .int (v4 + (i3 1))] 342 R x G L))
  else (if v2 < (i3 3) then
      (gd (Nat.ble 24 (sm_K (R 156 20)) && Nat.ble (sm_K (R 156 20)) 27 && Nat.ble (R 156 20) 342) (gd (sm_in v1 (sm_N (R 156 20))) (ldi (R (R 156 20) v1.toNatClampNeg) v2 G (fun y2 => oI y2 x G L))))
    else (oI v3 x G L)) := hD_eq.trans rfl
set_option maxRecDepth 20000 in
theorem h_249_57 {d x : Nat} {V : pV} {G : sm_G} {L : sm_L} {v1 v2 v3 v4 : Int32} : hD d 249 57 [.ref 156, .int v1, .int v2, .int v3, .int v4] 342 (RR V) x G L =
  if v4 < (i3 6) then
    (gd (sm_in v4 6) (hD d 249 57 [.ref 156, .int v1, .int v2, .int (v3 ||| (shl ((shr (G 164 v4.toNatClampNeg) v1) &&& (i3 1)) v4)), .int (v4 + (i3 1))] 342 (RR V) x G L))
  else (if v2 < (i3 3) then
      (gd (sm_in v1 10) (ldi (RR V 194 v1.toNatClampNeg) v2 G (fun y2 => oI y2 x G L)))
    else (oI v3 x G L)) := by
  rw [rh_249_57]
  try simp only [gd_tt, (q_156_16 V), (q_156_20 V), a_194, k_156, ldi_e k_164 n_164, n_164, n_194]
/-! M_isDoor -/
set_option maxRecDepth 20000 in
theorem rm_250 {d x : Nat} {R : sm_R} {G : sm_G} {L : sm_L} {v1 : Int32} : sm_cv0 (d + 1) 250 342 R [.ref 156, .int v1] (x, G, L) =
  ldi (R 156 12) (i3 1) G (fun y1 => sm_aI (sm_cv0 d 218 342 R [.int v1, .int (i3 0), .int (y1 - (i3 1))] (x, G, L)) (fun a2 x2 G2 L2 =>
    zd a2 (oI a2 x2 G2 L2)) oX) := (cv_eq rfl rfl).trans (hD_eq.trans rfl)
set_option maxRecDepth 20000 in
theorem m_250 {d x : Nat} {V : pV} {G : sm_G} {L : sm_L} {v1 : Int32} : sm_cv0 (d + 1) 250 342 (RR V) [.ref 156, .int v1] (x, G, L) =
  sm_aI (sm_cv0 d 218 342 (RR V) [.int v1, .int (i3 0), .int ((G 160 1) - (i3 1))] (x, G, L)) (fun a2 x2 G2 L2 =>
    zd a2 (oI a2 x2 G2 L2)) oX := by
  rw [rm_250]
  try simp only [gd_tt, (q_156_12 V), cl_1, inl_1_6, k_156, ldi_e k_160 n_160, n_160]
/-! M_noise -/
set_option maxRecDepth 20000 in
theorem rm_251 {d x : Nat} {R : sm_R} {G : sm_G} {L : sm_L} {v1 v2 : Int32} : sm_cv0 (d + 1) 251 342 R [.ref 156, .int v1, .int v2] (x, G, L) =
  sm_aI (sm_cv0 d 218 342 R [.int v2, .int (i3 0), .int (i3 1)] (x, sm_up G 156 0 (i3 0), L)) (fun a1 x1 G1 L1 =>
    if a1 = (i3 0) then
      (sm_aI (sm_cv0 d 219 342 R [.ref 156, .int (i3 1), .int (i3 1), .int (i3 2)] (x1, G1, L1)) (fun a2 x2 G2 L2 =>
        if a2 = (i3 0) then
          (hD d 251 30 [.ref 156, .int v1, .int v2] 342 R x2 G2 L2)
        else (oI (i3 0) x2 G2 L2)) oX)
    else (sm_aI (sm_cv0 d 219 342 R [.ref 156, .int (i3 0), .int (i3 1), .int (i3 2)] (x1, G1, L1)) (fun a3 x3 G3 L3 =>
        if a3 = (i3 0) then
          (hD d 251 30 [.ref 156, .int v1, .int v2] 342 R x3 G3 L3)
        else (oI (i3 0) x3 G3 L3)) oX)) oX := (cv_eq rfl rfl).trans (hD_eq.trans rfl)
set_option maxRecDepth 20000 in
theorem m_251 {d x : Nat} {V : pV} {G : sm_G} {L : sm_L} {v1 v2 : Int32} : sm_cv0 (d + 1) 251 342 (RR V) [.ref 156, .int v1, .int v2] (x, G, L) =
  sm_aI (sm_cv0 d 218 342 (RR V) [.int v2, .int (i3 0), .int (i3 1)] (x, sm_up G 156 0 (i3 0), L)) (fun a1 x1 G1 L1 =>
    if a1 = (i3 0) then
      (sm_aI (sm_cv0 d 219 342 (RR V) [.ref 156, .int (i3 1), .int (i3 1), .int (i3 2)] (x1, G1, L1)) (fun a2 x2 G2 L2 =>
        if a2 = (i3 0) then
          (hD d 251 30 [.ref 156, .int v1, .int v2] 342 (RR V) x2 G2 L2)
        else (oI (i3 0) x2 G2 L2)) oX)
    else (sm_aI (sm_cv0 d 219 342 (RR V) [.ref 156, .int (i3 0), .int (i3 1), .int (i3 2)] (x1, G1, L1)) (fun a3 x3 G3 L3 =>
        if a3 = (i3 0) then
          (hD d 251 30 [.ref 156, .int v1, .int v2] 342 (RR V) x3 G3 L3)
        else (oI (i3 0) x3 G3 L3)) oX)) oX := by
  rw [rm_251]
  try simp only [gd_tt, k_156]
set_option maxRecDepth 20000 in
theorem rh_251_30 {d x : Nat} {R : sm_R} {G : sm_G} {L : sm_L} {v1 v2 : Int32} : hD d 251 30 [.ref 156, .int v1, .int v2] 342 R x G L =
  ldi (R 156 12) (i3 2) G (fun y1 => sm_aI (sm_cv0 d 218 342 R [.int v1, .int (i3 0), .int (y1 - (i3 1))] (x, G, L)) (fun a2 x2 G2 L2 =>
    if a2 = (i3 0) then
      (oI m1 x2 G2 L2)
    else (gd (Nat.ble 24 (sm_K (R 156 22)) && Nat.ble (sm_K (R 156 22)) 27 && Nat.ble (R 156 22) 342) (gd (sm_in v1 (sm_N (R 156 22))) (ldi (R (R 156 22) v1.toNatClampNeg) v2 G2 (fun y3 => oI y3 x2 G2 L2))))) oX) := hD_eq.trans rfl
set_option maxRecDepth 20000 in
theorem h_251_30 {d x : Nat} {V : pV} {G : sm_G} {L : sm_L} {v1 v2 : Int32} : hD d 251 30 [.ref 156, .int v1, .int v2] 342 (RR V) x G L =
  sm_aI (sm_cv0 d 218 342 (RR V) [.int v1, .int (i3 0), .int ((G 160 2) - (i3 1))] (x, G, L)) (fun a2 x2 G2 L2 =>
    if a2 = (i3 0) then
      (oI m1 x2 G2 L2)
    else (gd (sm_in v1 12) (ldi (RR V 218 v1.toNatClampNeg) v2 G2 (fun y3 => oI y3 x2 G2 L2)))) oX := by
  rw [rh_251_30]
  try simp only [gd_tt, (q_156_12 V), (q_156_22 V), a_218, cl_2, inl_2_6, k_156, ldi_e k_160 n_160, n_160, n_218]
/-! M_sleeps -/
set_option maxRecDepth 20000 in
theorem rm_252 {d x : Nat} {R : sm_R} {G : sm_G} {L : sm_L} {v1 v2 : Int32} : sm_cv0 (d + 1) 252 342 R [.ref 156, .int v1, .int v2] (x, G, L) =
  sm_aI (sm_cv0 d 248 342 R [.ref 156, .int v1] (x, sm_up G 156 0 (i3 0), L)) (fun a1 x1 G1 L1 =>
    if a1 = (i3 0) then
      (sm_aI (sm_cv0 d 219 342 R [.ref 156, .int (i3 1), .int (i3 1), .int (i3 1)] (x1, G1, L1)) (fun a2 x2 G2 L2 =>
        if a2 = (i3 0) then
          (hD d 252 27 [.ref 156, .int v1, .int v2] 342 R x2 G2 L2)
        else (oI (i3 0) x2 G2 L2)) oX)
    else (sm_aI (sm_cv0 d 219 342 R [.ref 156, .int (i3 0), .int (i3 1), .int (i3 1)] (x1, G1, L1)) (fun a3 x3 G3 L3 =>
        if a3 = (i3 0) then
          (hD d 252 27 [.ref 156, .int v1, .int v2] 342 R x3 G3 L3)
        else (oI (i3 0) x3 G3 L3)) oX)) oX := (cv_eq rfl rfl).trans (hD_eq.trans rfl)
set_option maxRecDepth 20000 in
theorem m_252 {d x : Nat} {V : pV} {G : sm_G} {L : sm_L} {v1 v2 : Int32} : sm_cv0 (d + 1) 252 342 (RR V) [.ref 156, .int v1, .int v2] (x, G, L) =
  sm_aI (sm_cv0 d 248 342 (RR V) [.ref 156, .int v1] (x, sm_up G 156 0 (i3 0), L)) (fun a1 x1 G1 L1 =>
    if a1 = (i3 0) then
      (sm_aI (sm_cv0 d 219 342 (RR V) [.ref 156, .int (i3 1), .int (i3 1), .int (i3 1)] (x1, G1, L1)) (fun a2 x2 G2 L2 =>
        if a2 = (i3 0) then
          (hD d 252 27 [.ref 156, .int v1, .int v2] 342 (RR V) x2 G2 L2)
        else (oI (i3 0) x2 G2 L2)) oX)
    else (sm_aI (sm_cv0 d 219 342 (RR V) [.ref 156, .int (i3 0), .int (i3 1), .int (i3 1)] (x1, G1, L1)) (fun a3 x3 G3 L3 =>
        if a3 = (i3 0) then
          (hD d 252 27 [.ref 156, .int v1, .int v2] 342 (RR V) x3 G3 L3)
        else (oI (i3 0) x3 G3 L3)) oX)) oX := by
  rw [rm_252]
  try simp only [gd_tt, k_156]
set_option maxRecDepth 20000 in
theorem rh_252_27 {d x : Nat} {R : sm_R} {G : sm_G} {L : sm_L} {v1 v2 : Int32} : hD d 252 27 [.ref 156, .int v1, .int v2] 342 R x G L =
  sm_aI (sm_cv0 d 253 342 R [.int v2] (x, G, L)) (fun a1 x1 G1 L1 =>
    if a1 = (i3 0) then
      (sm_aI (sm_cv0 d 219 342 R [.ref 156, .int (i3 1), .int (i3 2), .int (i3 2)] (x1, G1, L1)) (fun a2 x2 G2 L2 =>
        if a2 = (i3 0) then
          (sm_aV (sm_cv0 d 254 342 R [.ref 156] (x2, G2, L2)) (fun x3 G3 L3 =>
            sm_aI (sm_cv0 d 255 342 R [.ref 156, .int v1, .int v2] (x3, sm_up G3 156 41 (G3 156 37), L3)) (fun a4 x4 G4 L4 =>
              zd a4 (oI a4 x4 G4 L4)) oX) oX)
        else (oI (i3 0) x2 G2 L2)) oX)
    else (sm_aI (sm_cv0 d 219 342 R [.ref 156, .int (i3 0), .int (i3 2), .int (i3 2)] (x1, G1, L1)) (fun a5 x5 G5 L5 =>
        if a5 = (i3 0) then
          (sm_aV (sm_cv0 d 254 342 R [.ref 156] (x5, G5, L5)) (fun x6 G6 L6 =>
            sm_aI (sm_cv0 d 255 342 R [.ref 156, .int v1, .int v2] (x6, sm_up G6 156 41 (G6 156 37), L6)) (fun a7 x7 G7 L7 =>
              zd a7 (oI a7 x7 G7 L7)) oX) oX)
        else (oI (i3 0) x5 G5 L5)) oX)) oX := hD_eq.trans rfl
set_option maxRecDepth 20000 in
theorem h_252_27 {d x : Nat} {V : pV} {G : sm_G} {L : sm_L} {v1 v2 : Int32} : hD d 252 27 [.ref 156, .int v1, .int v2] 342 (RR V) x G L =
  sm_aI (sm_cv0 d 253 342 (RR V) [.int v2] (x, G, L)) (fun a1 x1 G1 L1 =>
    if a1 = (i3 0) then
      (sm_aI (sm_cv0 d 219 342 (RR V) [.ref 156, .int (i3 1), .int (i3 2), .int (i3 2)] (x1, G1, L1)) (fun a2 x2 G2 L2 =>
        if a2 = (i3 0) then
          (sm_aV (sm_cv0 d 254 342 (RR V) [.ref 156] (x2, G2, L2)) (fun x3 G3 L3 =>
            sm_aI (sm_cv0 d 255 342 (RR V) [.ref 156, .int v1, .int v2] (x3, sm_up G3 156 41 (G3 156 37), L3)) (fun a4 x4 G4 L4 =>
              zd a4 (oI a4 x4 G4 L4)) oX) oX)
        else (oI (i3 0) x2 G2 L2)) oX)
    else (sm_aI (sm_cv0 d 219 342 (RR V) [.ref 156, .int (i3 0), .int (i3 2), .int (i3 2)] (x1, G1, L1)) (fun a5 x5 G5 L5 =>
        if a5 = (i3 0) then
          (sm_aV (sm_cv0 d 254 342 (RR V) [.ref 156] (x5, G5, L5)) (fun x6 G6 L6 =>
            sm_aI (sm_cv0 d 255 342 (RR V) [.ref 156, .int v1, .int v2] (x6, sm_up G6 156 41 (G6 156 37), L6)) (fun a7 x7 G7 L7 =>
              zd a7 (oI a7 x7 G7 L7)) oX) oX)
        else (oI (i3 0) x5 G5 L5)) oX)) oX := by
  rw [rh_252_27]
  try simp only [gd_tt, k_156]
/-! M_isMinute -/
set_option maxRecDepth 20000 in
theorem rm_253 {d x : Nat} {R : sm_R} {G : sm_G} {L : sm_L} {v0 : Int32} : sm_cv0 (d + 1) 253 342 R [.int v0] (x, G, L) =
  sm_aI (sm_cv0 d 218 342 R [.int v0, .int (i3 0), .int (i3 300)] (x, G, L)) (fun a1 x1 G1 L1 =>
    zd a1 (oI a1 x1 G1 L1)) oX := (cv_eq rfl rfl).trans (hD_eq.trans rfl)
theorem m_253 {d x : Nat} {V : pV} {G : sm_G} {L : sm_L} {v0 : Int32} : sm_cv0 (d + 1) 253 342 (RR V) [.int v0] (x, G, L) =
  sm_aI (sm_cv0 d 218 342 (RR V) [.int v0, .int (i3 0), .int (i3 300)] (x, G, L)) (fun a1 x1 G1 L1 =>
    zd a1 (oI a1 x1 G1 L1)) oX := rm_253
/-! M_undrawn -/
set_option maxRecDepth 20000 in
theorem rm_254 {d x : Nat} {R : sm_R} {G : sm_G} {L : sm_L} : sm_cv0 (d + 1) 254 342 R [.ref 156] (x, G, L) =
  hD d 254 2 [.ref 156, .int (i3 0)] 342 R x G L := (cv_eq rfl rfl).trans (hD_eq.trans rfl)
theorem m_254 {d x : Nat} {V : pV} {G : sm_G} {L : sm_L} : sm_cv0 (d + 1) 254 342 (RR V) [.ref 156] (x, G, L) =
  hD d 254 2 [.ref 156, .int (i3 0)] 342 (RR V) x G L := rm_254
set_option maxRecDepth 20000 in
theorem rh_254_2 {d x : Nat} {R : sm_R} {G : sm_G} {L : sm_L} {v1 : Int32} : hD d 254 2 [.ref 156, .int v1] 342 R x G L =
  if v1 < (i3 8) then
    (gd (sm_is (R 156 43) 342 20) (gd (sm_in v1 (sm_N (R 156 43))) (hD d 254 2 [.ref 156, .int (v1 + (i3 1))] 342 R x (sm_up G (R 156 43) v1.toNatClampNeg (i3 1000)) L)))
  else (oV x G L) := hD_eq.trans rfl
set_option maxRecDepth 20000 in
theorem h_254_2 {d x : Nat} {V : pV} {G : sm_G} {L : sm_L} {v1 : Int32} : hD d 254 2 [.ref 156, .int v1] 342 (RR V) x G L =
  if v1 < (i3 8) then
    (gd (sm_in v1 8) (hD d 254 2 [.ref 156, .int (v1 + (i3 1))] 342 (RR V) x (sm_up G 306 v1.toNatClampNeg (i3 1000)) L))
  else (oV x G L) := by
  rw [rh_254_2]
  try simp only [gd_tt, (q_156_43 V), k_156, k_306, n_306]
/-! M_sleepsAt -/
set_option maxRecDepth 20000 in
theorem rm_255 {d x : Nat} {R : sm_R} {G : sm_G} {L : sm_L} {v1 v2 : Int32} : sm_cv0 (d + 1) 255 342 R [.ref 156, .int v1, .int v2] (x, G, L) =
  if ((shr (G 156 41) v1) &&& (i3 1)) = (i3 1) then
    (oI (i3 1) x G L)
  else (gd (Nat.ble 24 (sm_K (R 156 18)) && Nat.ble (sm_K (R 156 18)) 27 && Nat.ble (R 156 18) 342) (gd (sm_in v1 (sm_N (R 156 18))) (ldi (R (R 156 18) v1.toNatClampNeg) (i3 0) G (fun y1 => if v2 < y1 then
      (oI (i3 0) x G L)
    else (gd (Nat.ble 24 (sm_K (R 156 18)) && Nat.ble (sm_K (R 156 18)) 27 && Nat.ble (R 156 18) 342) (gd (sm_in v1 (sm_N (R 156 18))) (ldi (R (R 156 18) v1.toNatClampNeg) (i3 1) G (fun y2 => if v2 < y2 then
        (ldi (R 156 12) (i3 5) G (fun y3 => if y3 = m1 then
          (ldi (R 156 43) v1 G (fun y4 => if v2 < y4 then
            (oI (i3 1) x G L)
          else (oI (i3 0) x G L)))
        else (ldi (R 156 12) (i3 5) G (fun y5 => ldi (R 156 42) v1 G (fun y6 => if v2 < (y5 + y6) then
            (ldi (R 156 43) v1 G (fun y7 => if v2 < y7 then
              (oI (i3 1) x G L)
            else (oI (i3 0) x G L)))
          else (oI (i3 0) x G L))))))
      else (oI (i3 0) x G L))))))))) := (cv_eq rfl rfl).trans (hD_eq.trans rfl)
set_option maxRecDepth 20000 in
theorem m_255 {d x : Nat} {V : pV} {G : sm_G} {L : sm_L} {v1 v2 : Int32} : sm_cv0 (d + 1) 255 342 (RR V) [.ref 156, .int v1, .int v2] (x, G, L) =
  if ((shr (G 156 41) v1) &&& (i3 1)) = (i3 1) then
    (oI (i3 1) x G L)
  else (gd (sm_in v1 8) (ldi (RR V 174 v1.toNatClampNeg) (i3 0) G (fun y1 => if v2 < y1 then
      (oI (i3 0) x G L)
    else (gd (sm_in v1 8) (ldi (RR V 174 v1.toNatClampNeg) (i3 1) G (fun y2 => if v2 < y2 then
        (if (G 160 5) = m1 then
          (gd (sm_in v1 8) (if v2 < (G 306 v1.toNatClampNeg) then
            (oI (i3 1) x G L)
          else (oI (i3 0) x G L)))
        else (gd (sm_in v1 8) (if v2 < ((G 160 5) + (G 305 v1.toNatClampNeg)) then
            (gd (sm_in v1 8) (if v2 < (G 306 v1.toNatClampNeg) then
              (oI (i3 1) x G L)
            else (oI (i3 0) x G L)))
          else (oI (i3 0) x G L))))
      else (oI (i3 0) x G L))))))) := by
  rw [rm_255]
  try simp only [gd_tt, (q_156_12 V), (q_156_18 V), (q_156_42 V), (q_156_43 V), a_174, cl_5, inl_5_6, k_156, ldi_e k_160 n_160, ldi_e k_305 n_305, ldi_e k_306 n_306, n_160, n_174, n_305, n_306]
/-! M_there -/
set_option maxRecDepth 20000 in
theorem rm_256 {d x : Nat} {R : sm_R} {G : sm_G} {L : sm_L} {v1 v2 : Int32} : sm_cv0 (d + 1) 256 342 R [.ref 156, .int v1, .int v2] (x, G, L) =
  sm_aI (sm_cv0 d 248 342 R [.ref 156, .int v1] (x, sm_up G 156 0 (i3 0), L)) (fun a1 x1 G1 L1 =>
    if a1 = (i3 0) then
      (sm_aI (sm_cv0 d 219 342 R [.ref 156, .int (i3 1), .int (i3 1), .int (i3 0)] (x1, G1, L1)) (fun a2 x2 G2 L2 =>
        if a2 = (i3 0) then
          (hD d 256 27 [.ref 156, .int v1, .int v2] 342 R x2 G2 L2)
        else (oI (i3 0) x2 G2 L2)) oX)
    else (sm_aI (sm_cv0 d 219 342 R [.ref 156, .int (i3 0), .int (i3 1), .int (i3 0)] (x1, G1, L1)) (fun a3 x3 G3 L3 =>
        if a3 = (i3 0) then
          (hD d 256 27 [.ref 156, .int v1, .int v2] 342 R x3 G3 L3)
        else (oI (i3 0) x3 G3 L3)) oX)) oX := (cv_eq rfl rfl).trans (hD_eq.trans rfl)
set_option maxRecDepth 20000 in
theorem m_256 {d x : Nat} {V : pV} {G : sm_G} {L : sm_L} {v1 v2 : Int32} : sm_cv0 (d + 1) 256 342 (RR V) [.ref 156, .int v1, .int v2] (x, G, L) =
  sm_aI (sm_cv0 d 248 342 (RR V) [.ref 156, .int v1] (x, sm_up G 156 0 (i3 0), L)) (fun a1 x1 G1 L1 =>
    if a1 = (i3 0) then
      (sm_aI (sm_cv0 d 219 342 (RR V) [.ref 156, .int (i3 1), .int (i3 1), .int (i3 0)] (x1, G1, L1)) (fun a2 x2 G2 L2 =>
        if a2 = (i3 0) then
          (hD d 256 27 [.ref 156, .int v1, .int v2] 342 (RR V) x2 G2 L2)
        else (oI (i3 0) x2 G2 L2)) oX)
    else (sm_aI (sm_cv0 d 219 342 (RR V) [.ref 156, .int (i3 0), .int (i3 1), .int (i3 0)] (x1, G1, L1)) (fun a3 x3 G3 L3 =>
        if a3 = (i3 0) then
          (hD d 256 27 [.ref 156, .int v1, .int v2] 342 (RR V) x3 G3 L3)
        else (oI (i3 0) x3 G3 L3)) oX)) oX := by
  rw [rm_256]
  try simp only [gd_tt, k_156]
set_option maxRecDepth 20000 in
theorem rh_256_27 {d x : Nat} {R : sm_R} {G : sm_G} {L : sm_L} {v1 v2 : Int32} : hD d 256 27 [.ref 156, .int v1, .int v2] 342 R x G L =
  sm_aI (sm_cv0 d 253 342 R [.int v2] (x, G, L)) (fun a1 x1 G1 L1 =>
    if a1 = (i3 0) then
      (sm_aI (sm_cv0 d 219 342 R [.ref 156, .int (i3 1), .int (i3 2), .int (i3 2)] (x1, G1, L1)) (fun a2 x2 G2 L2 =>
        if a2 = (i3 0) then
          (hD d 256 50 [.ref 156, .int v1, .int v2] 342 R x2 G2 L2)
        else (oI (i3 0) x2 G2 L2)) oX)
    else (sm_aI (sm_cv0 d 219 342 R [.ref 156, .int (i3 0), .int (i3 2), .int (i3 2)] (x1, G1, L1)) (fun a3 x3 G3 L3 =>
        if a3 = (i3 0) then
          (hD d 256 50 [.ref 156, .int v1, .int v2] 342 R x3 G3 L3)
        else (oI (i3 0) x3 G3 L3)) oX)) oX := hD_eq.trans rfl
set_option maxRecDepth 20000 in
theorem h_256_27 {d x : Nat} {V : pV} {G : sm_G} {L : sm_L} {v1 v2 : Int32} : hD d 256 27 [.ref 156, .int v1, .int v2] 342 (RR V) x G L =
  sm_aI (sm_cv0 d 253 342 (RR V) [.int v2] (x, G, L)) (fun a1 x1 G1 L1 =>
    if a1 = (i3 0) then
      (sm_aI (sm_cv0 d 219 342 (RR V) [.ref 156, .int (i3 1), .int (i3 2), .int (i3 2)] (x1, G1, L1)) (fun a2 x2 G2 L2 =>
        if a2 = (i3 0) then
          (hD d 256 50 [.ref 156, .int v1, .int v2] 342 (RR V) x2 G2 L2)
        else (oI (i3 0) x2 G2 L2)) oX)
    else (sm_aI (sm_cv0 d 219 342 (RR V) [.ref 156, .int (i3 0), .int (i3 2), .int (i3 2)] (x1, G1, L1)) (fun a3 x3 G3 L3 =>
        if a3 = (i3 0) then
          (hD d 256 50 [.ref 156, .int v1, .int v2] 342 (RR V) x3 G3 L3)
        else (oI (i3 0) x3 G3 L3)) oX)) oX := by
  rw [rh_256_27]
  try simp only [gd_tt, k_156]
set_option maxRecDepth 20000 in
theorem rh_256_50 {d x : Nat} {R : sm_R} {G : sm_G} {L : sm_L} {v1 v2 : Int32} : hD d 256 50 [.ref 156, .int v1, .int v2] 342 R x G L =
  sm_aV (sm_cv0 d 257 342 R [.ref 156] (x, G, L)) (fun x1 G1 L1 =>
    ldi (R 156 44) v2 G1 (fun y2 => if ((shr y2 v1) &&& (i3 1)) = (i3 1) then
      (oI (i3 1) x1 G1 L1)
    else (oI (i3 0) x1 G1 L1))) oX := hD_eq.trans rfl
set_option maxRecDepth 20000 in
theorem h_256_50 {d x : Nat} {V : pV} {G : sm_G} {L : sm_L} {v1 v2 : Int32} : hD d 256 50 [.ref 156, .int v1, .int v2] 342 (RR V) x G L =
  sm_aV (sm_cv0 d 257 342 (RR V) [.ref 156] (x, G, L)) (fun x1 G1 L1 =>
    gd (sm_in v2 301) (if ((shr (G1 307 v2.toNatClampNeg) v1) &&& (i3 1)) = (i3 1) then
      (oI (i3 1) x1 G1 L1)
    else (oI (i3 0) x1 G1 L1))) oX := by
  rw [rh_256_50]
  try simp only [gd_tt, (q_156_44 V), k_156, ldi_e k_307 n_307, n_307]
/-! M_lays -/
set_option maxRecDepth 20000 in
theorem rm_257 {d x : Nat} {R : sm_R} {G : sm_G} {L : sm_L} : sm_cv0 (d + 1) 257 342 R [.ref 156] (x, G, L) =
  sm_aV (sm_cv0 d 254 342 R [.ref 156] (x, G, L)) (fun x1 G1 L1 =>
    sm_aV (sm_cv0 d 258 342 R [.ref 156, .int (G1 156 37)] (x1, G1, L1)) (fun x2 G2 L2 =>
      sm_aV (sm_cv0 d 259 342 R [.ref 156] (x2, G2, L2)) (fun x3 G3 L3 =>
        oV x3 G3 L3) oX) oX) oX := (cv_eq rfl rfl).trans (hD_eq.trans rfl)
set_option maxRecDepth 20000 in
theorem m_257 {d x : Nat} {V : pV} {G : sm_G} {L : sm_L} : sm_cv0 (d + 1) 257 342 (RR V) [.ref 156] (x, G, L) =
  sm_aV (sm_cv0 d 254 342 (RR V) [.ref 156] (x, G, L)) (fun x1 G1 L1 =>
    sm_aV (sm_cv0 d 258 342 (RR V) [.ref 156, .int (G1 156 37)] (x1, G1, L1)) (fun x2 G2 L2 =>
      sm_aV (sm_cv0 d 259 342 (RR V) [.ref 156] (x2, G2, L2)) (fun x3 G3 L3 =>
        oV x3 G3 L3) oX) oX) oX := by
  rw [rm_257]
  try simp only [gd_tt, k_156]
/-! M_laysRooms -/
set_option maxRecDepth 20000 in
theorem rm_258 {d x : Nat} {R : sm_R} {G : sm_G} {L : sm_L} {v1 : Int32} : sm_cv0 (d + 1) 258 342 R [.ref 156, .int v1] (x, G, L) =
  hD d 258 7 [.ref 156, .null, .int (i3 0), .null, .null] 342 R x (sm_up G 156 41 v1) L := (cv_eq rfl rfl).trans (hD_eq.trans rfl)
set_option maxRecDepth 20000 in
theorem m_258 {d x : Nat} {V : pV} {G : sm_G} {L : sm_L} {v1 : Int32} : sm_cv0 (d + 1) 258 342 (RR V) [.ref 156, .int v1] (x, G, L) =
  hD d 258 7 [.ref 156, .null, .int (i3 0), .null, .null] 342 (RR V) x (sm_up G 156 41 v1) L := by
  rw [rm_258]
  try simp only [gd_tt, k_156]
set_option maxRecDepth 20000 in
theorem rh_258_7 {d x : Nat} {R : sm_R} {G : sm_G} {L : sm_L} {v2 : Int32} : hD d 258 7 [.ref 156, .null, .int v2, .null, .null] 342 R x G L =
  if v2 < (i3 301) then
    (hD d 258 19 [.ref 156, .null, .int v2, .int (i3 0), .int (i3 0)] 342 R x G L)
  else (oV x G L) := hD_eq.trans rfl
theorem h_258_7 {d x : Nat} {V : pV} {G : sm_G} {L : sm_L} {v2 : Int32} : hD d 258 7 [.ref 156, .null, .int v2, .null, .null] 342 (RR V) x G L =
  if v2 < (i3 301) then
    (hD d 258 19 [.ref 156, .null, .int v2, .int (i3 0), .int (i3 0)] 342 (RR V) x G L)
  else (oV x G L) := rh_258_7
set_option maxRecDepth 20000 in
theorem rh_258_19 {d x : Nat} {R : sm_R} {G : sm_G} {L : sm_L} {v2 v3 v4 : Int32} : hD d 258 19 [.ref 156, .null, .int v2, .int v3, .int v4] 342 R x G L =
  ldi (R 156 12) (i3 0) G (fun y1 => if v4 < y1 then
    (sm_aI (sm_cv0 d 255 342 R [.ref 156, .int v4, .int v2] (x, G, L)) (fun a2 x2 G2 L2 =>
      if a2 = (i3 0) then
        (hD d 258 19 [.ref 156, .null, .int v2, .int v3, .int (v4 + (i3 1))] 342 R x2 G2 L2)
      else (ldi (R 156 14) v4 G2 (fun y3 => if y3 = m1 then
          (hD d 258 19 [.ref 156, .null, .int v2, .int (v3 ||| ((shl (i3 1) v4) ||| (i3 0))), .int (v4 + (i3 1))] 342 R x2 G2 L2)
        else (ldi (R 156 14) v4 G2 (fun y4 => hD d 258 19 [.ref 156, .null, .int v2, .int (v3 ||| ((shl (i3 1) v4) ||| (shl (i3 1) y4))), .int (v4 + (i3 1))] 342 R x2 G2 L2))))) oX)
  else (gd (sm_is (R 156 44) 342 20) (gd (sm_in v2 (sm_N (R 156 44))) (hD d 258 7 [.ref 156, .null, .int (v2 + (i3 1)), .null, .null] 342 R x (sm_up G (R 156 44) v2.toNatClampNeg v3) L)))) := hD_eq.trans rfl
set_option maxRecDepth 20000 in
theorem h_258_19 {d x : Nat} {V : pV} {G : sm_G} {L : sm_L} {v2 v3 v4 : Int32} : hD d 258 19 [.ref 156, .null, .int v2, .int v3, .int v4] 342 (RR V) x G L =
  if v4 < (G 160 0) then
    (sm_aI (sm_cv0 d 255 342 (RR V) [.ref 156, .int v4, .int v2] (x, G, L)) (fun a2 x2 G2 L2 =>
      if a2 = (i3 0) then
        (hD d 258 19 [.ref 156, .null, .int v2, .int v3, .int (v4 + (i3 1))] 342 (RR V) x2 G2 L2)
      else (gd (sm_in v4 8) (if (G2 162 v4.toNatClampNeg) = m1 then
          (hD d 258 19 [.ref 156, .null, .int v2, .int (v3 ||| ((shl (i3 1) v4) ||| (i3 0))), .int (v4 + (i3 1))] 342 (RR V) x2 G2 L2)
        else (gd (sm_in v4 8) (hD d 258 19 [.ref 156, .null, .int v2, .int (v3 ||| ((shl (i3 1) v4) ||| (shl (i3 1) (G2 162 v4.toNatClampNeg)))), .int (v4 + (i3 1))] 342 (RR V) x2 G2 L2))))) oX)
  else (gd (sm_in v2 301) (hD d 258 7 [.ref 156, .null, .int (v2 + (i3 1)), .null, .null] 342 (RR V) x (sm_up G 307 v2.toNatClampNeg v3) L)) := by
  rw [rh_258_19]
  try simp only [gd_tt, (q_156_12 V), (q_156_14 V), (q_156_44 V), cl_0, inl_0_6, k_156, k_307, ldi_e k_160 n_160, ldi_e k_162 n_162, n_160, n_162, n_307]
/-! M_laysDoors -/
set_option maxRecDepth 20000 in
theorem rm_259 {d x : Nat} {R : sm_R} {G : sm_G} {L : sm_L} : sm_cv0 (d + 1) 259 342 R [.ref 156] (x, G, L) =
  sm_aI (sm_cv0 d 260 342 R [.ref 156] (x, G, L)) (fun a1 x1 G1 L1 =>
    hD d 259 7 [.ref 156, .int a1, .int (i3 0)] 342 R x1 G1 L1) oX := (cv_eq rfl rfl).trans (hD_eq.trans rfl)
set_option maxRecDepth 20000 in
theorem m_259 {d x : Nat} {V : pV} {G : sm_G} {L : sm_L} : sm_cv0 (d + 1) 259 342 (RR V) [.ref 156] (x, G, L) =
  sm_aI (sm_cv0 d 260 342 (RR V) [.ref 156] (x, G, L)) (fun a1 x1 G1 L1 =>
    hD d 259 7 [.ref 156, .int a1, .int (i3 0)] 342 (RR V) x1 G1 L1) oX := by
  rw [rm_259]
  try simp only [gd_tt, k_156]
set_option maxRecDepth 20000 in
theorem rh_259_7 {d x : Nat} {R : sm_R} {G : sm_G} {L : sm_L} {v1 v2 : Int32} : hD d 259 7 [.ref 156, .int v1, .int v2] 342 R x G L =
  if v2 < (i3 301) then
    (sm_aI (sm_cv0 d 261 342 R [.ref 156, .int v1, .int v2] (x, G, L)) (fun a1 x1 G1 L1 =>
      gd (sm_is (R 156 45) 342 20) (gd (sm_in v2 (sm_N (R 156 45))) (hD d 259 7 [.ref 156, .int a1, .int (v2 + (i3 1))] 342 R x1 (sm_up G1 (R 156 45) v2.toNatClampNeg a1) L1))) oX)
  else (oV x G L) := hD_eq.trans rfl
set_option maxRecDepth 20000 in
theorem h_259_7 {d x : Nat} {V : pV} {G : sm_G} {L : sm_L} {v1 v2 : Int32} : hD d 259 7 [.ref 156, .int v1, .int v2] 342 (RR V) x G L =
  if v2 < (i3 301) then
    (sm_aI (sm_cv0 d 261 342 (RR V) [.ref 156, .int v1, .int v2] (x, G, L)) (fun a1 x1 G1 L1 =>
      gd (sm_in v2 301) (hD d 259 7 [.ref 156, .int a1, .int (v2 + (i3 1))] 342 (RR V) x1 (sm_up G1 308 v2.toNatClampNeg a1) L1)) oX)
  else (oV x G L) := by
  rw [rh_259_7]
  try simp only [gd_tt, (q_156_45 V), k_156, k_308, n_308]
/-! M_doorsFirst -/
set_option maxRecDepth 20000 in
theorem rm_260 {d x : Nat} {R : sm_R} {G : sm_G} {L : sm_L} : sm_cv0 (d + 1) 260 342 R [.ref 156] (x, G, L) =
  hD d 260 4 [.ref 156, .int (i3 0), .int (i3 0)] 342 R x G L := (cv_eq rfl rfl).trans (hD_eq.trans rfl)
theorem m_260 {d x : Nat} {V : pV} {G : sm_G} {L : sm_L} : sm_cv0 (d + 1) 260 342 (RR V) [.ref 156] (x, G, L) =
  hD d 260 4 [.ref 156, .int (i3 0), .int (i3 0)] 342 (RR V) x G L := rm_260
set_option maxRecDepth 20000 in
theorem rh_260_4 {d x : Nat} {R : sm_R} {G : sm_G} {L : sm_L} {v1 v2 : Int32} : hD d 260 4 [.ref 156, .int v1, .int v2] 342 R x G L =
  ldi (R 156 12) (i3 1) G (fun y1 => if v2 < y1 then
    (gd (Nat.ble 24 (sm_K (R 156 20)) && Nat.ble (sm_K (R 156 20)) 27 && Nat.ble (R 156 20) 342) (gd (sm_in v2 (sm_N (R 156 20))) (ldi (R (R 156 20) v2.toNatClampNeg) (i3 2) G (fun y2 => hD d 260 4 [.ref 156, .int (v1 ||| (shl y2 v2)), .int (v2 + (i3 1))] 342 R x G L))))
  else (oI v1 x G L)) := hD_eq.trans rfl
set_option maxRecDepth 20000 in
theorem h_260_4 {d x : Nat} {V : pV} {G : sm_G} {L : sm_L} {v1 v2 : Int32} : hD d 260 4 [.ref 156, .int v1, .int v2] 342 (RR V) x G L =
  if v2 < (G 160 1) then
    (gd (sm_in v2 10) (ldi (RR V 194 v2.toNatClampNeg) (i3 2) G (fun y2 => hD d 260 4 [.ref 156, .int (v1 ||| (shl y2 v2)), .int (v2 + (i3 1))] 342 (RR V) x G L)))
  else (oI v1 x G L) := by
  rw [rh_260_4]
  try simp only [gd_tt, (q_156_12 V), (q_156_20 V), a_194, cl_1, inl_1_6, k_156, ldi_e k_160 n_160, n_160, n_194]
/-! M_noisesOf -/
set_option maxRecDepth 20000 in
theorem rm_261 {d x : Nat} {R : sm_R} {G : sm_G} {L : sm_L} {v1 v2 : Int32} : sm_cv0 (d + 1) 261 342 R [.ref 156, .int v1, .int v2] (x, G, L) =
  hD d 261 5 [.ref 156, .null, .int v2, .int v1, .int (i3 0)] 342 R x G L := (cv_eq rfl rfl).trans (hD_eq.trans rfl)
theorem m_261 {d x : Nat} {V : pV} {G : sm_G} {L : sm_L} {v1 v2 : Int32} : sm_cv0 (d + 1) 261 342 (RR V) [.ref 156, .int v1, .int v2] (x, G, L) =
  hD d 261 5 [.ref 156, .null, .int v2, .int v1, .int (i3 0)] 342 (RR V) x G L := rm_261
set_option maxRecDepth 20000 in
theorem rh_261_5 {d x : Nat} {R : sm_R} {G : sm_G} {L : sm_L} {v2 v3 v4 : Int32} : hD d 261 5 [.ref 156, .null, .int v2, .int v3, .int v4] 342 R x G L =
  ldi (R 156 12) (i3 2) G (fun y1 => if v4 < y1 then
    (gd (Nat.ble 24 (sm_K (R 156 22)) && Nat.ble (sm_K (R 156 22)) 27 && Nat.ble (R 156 22) 342) (gd (sm_in v4 (sm_N (R 156 22))) (ldi (R (R 156 22) v4.toNatClampNeg) (i3 0) G (fun y2 => if y2 = v2 then
      (gd (Nat.ble 24 (sm_K (R 156 22)) && Nat.ble (sm_K (R 156 22)) 27 && Nat.ble (R 156 22) 342) (gd (sm_in v4 (sm_N (R 156 22))) (ldi (R (R 156 22) v4.toNatClampNeg) (i3 1) G (fun y3 => ldi (R 156 16) y3 G (fun y4 => hD d 261 5 [.ref 156, .null, .int v2, .int (v3 ^^^ y4), .int (v4 + (i3 1))] 342 R x G L)))))
    else (hD d 261 5 [.ref 156, .null, .int v2, .int (v3 ^^^ (i3 0)), .int (v4 + (i3 1))] 342 R x G L)))))
  else (oI v3 x G L)) := hD_eq.trans rfl
set_option maxRecDepth 20000 in
theorem h_261_5 {d x : Nat} {V : pV} {G : sm_G} {L : sm_L} {v2 v3 v4 : Int32} : hD d 261 5 [.ref 156, .null, .int v2, .int v3, .int v4] 342 (RR V) x G L =
  if v4 < (G 160 2) then
    (gd (sm_in v4 12) (ldi (RR V 218 v4.toNatClampNeg) (i3 0) G (fun y2 => if y2 = v2 then
      (gd (sm_in v4 12) (ldi (RR V 218 v4.toNatClampNeg) (i3 1) G (fun y3 => gd (sm_in y3 6) (hD d 261 5 [.ref 156, .null, .int v2, .int (v3 ^^^ (G 164 y3.toNatClampNeg)), .int (v4 + (i3 1))] 342 (RR V) x G L))))
    else (hD d 261 5 [.ref 156, .null, .int v2, .int (v3 ^^^ (i3 0)), .int (v4 + (i3 1))] 342 (RR V) x G L))))
  else (oI v3 x G L) := by
  rw [rh_261_5]
  try simp only [gd_tt, (q_156_12 V), (q_156_16 V), (q_156_22 V), a_218, cl_2, inl_2_6, k_156, ldi_e k_160 n_160, ldi_e k_164 n_164, n_160, n_164, n_218]
/-! M_open -/
set_option maxRecDepth 20000 in
theorem rm_262 {d x : Nat} {R : sm_R} {G : sm_G} {L : sm_L} {v1 v2 : Int32} : sm_cv0 (d + 1) 262 342 R [.ref 156, .int v1, .int v2] (x, G, L) =
  sm_aI (sm_cv0 d 250 342 R [.ref 156, .int v1] (x, sm_up G 156 0 (i3 0), L)) (fun a1 x1 G1 L1 =>
    if a1 = (i3 0) then
      (sm_aI (sm_cv0 d 219 342 R [.ref 156, .int (i3 1), .int (i3 1), .int (i3 1)] (x1, G1, L1)) (fun a2 x2 G2 L2 =>
        if a2 = (i3 0) then
          (hD d 262 27 [.ref 156, .int v1, .int v2] 342 R x2 G2 L2)
        else (oI (i3 0) x2 G2 L2)) oX)
    else (sm_aI (sm_cv0 d 219 342 R [.ref 156, .int (i3 0), .int (i3 1), .int (i3 1)] (x1, G1, L1)) (fun a3 x3 G3 L3 =>
        if a3 = (i3 0) then
          (hD d 262 27 [.ref 156, .int v1, .int v2] 342 R x3 G3 L3)
        else (oI (i3 0) x3 G3 L3)) oX)) oX := (cv_eq rfl rfl).trans (hD_eq.trans rfl)
set_option maxRecDepth 20000 in
theorem m_262 {d x : Nat} {V : pV} {G : sm_G} {L : sm_L} {v1 v2 : Int32} : sm_cv0 (d + 1) 262 342 (RR V) [.ref 156, .int v1, .int v2] (x, G, L) =
  sm_aI (sm_cv0 d 250 342 (RR V) [.ref 156, .int v1] (x, sm_up G 156 0 (i3 0), L)) (fun a1 x1 G1 L1 =>
    if a1 = (i3 0) then
      (sm_aI (sm_cv0 d 219 342 (RR V) [.ref 156, .int (i3 1), .int (i3 1), .int (i3 1)] (x1, G1, L1)) (fun a2 x2 G2 L2 =>
        if a2 = (i3 0) then
          (hD d 262 27 [.ref 156, .int v1, .int v2] 342 (RR V) x2 G2 L2)
        else (oI (i3 0) x2 G2 L2)) oX)
    else (sm_aI (sm_cv0 d 219 342 (RR V) [.ref 156, .int (i3 0), .int (i3 1), .int (i3 1)] (x1, G1, L1)) (fun a3 x3 G3 L3 =>
        if a3 = (i3 0) then
          (hD d 262 27 [.ref 156, .int v1, .int v2] 342 (RR V) x3 G3 L3)
        else (oI (i3 0) x3 G3 L3)) oX)) oX := by
  rw [rm_262]
  try simp only [gd_tt, k_156]
set_option maxRecDepth 20000 in
theorem rh_262_27 {d x : Nat} {R : sm_R} {G : sm_G} {L : sm_L} {v1 v2 : Int32} : hD d 262 27 [.ref 156, .int v1, .int v2] 342 R x G L =
  sm_aI (sm_cv0 d 253 342 R [.int v2] (x, G, L)) (fun a1 x1 G1 L1 =>
    if a1 = (i3 0) then
      (sm_aI (sm_cv0 d 219 342 R [.ref 156, .int (i3 1), .int (i3 2), .int (i3 2)] (x1, G1, L1)) (fun a2 x2 G2 L2 =>
        if a2 = (i3 0) then
          (hD d 262 50 [.ref 156, .int v1, .int v2] 342 R x2 G2 L2)
        else (oI (i3 0) x2 G2 L2)) oX)
    else (sm_aI (sm_cv0 d 219 342 R [.ref 156, .int (i3 0), .int (i3 2), .int (i3 2)] (x1, G1, L1)) (fun a3 x3 G3 L3 =>
        if a3 = (i3 0) then
          (hD d 262 50 [.ref 156, .int v1, .int v2] 342 R x3 G3 L3)
        else (oI (i3 0) x3 G3 L3)) oX)) oX := hD_eq.trans rfl
set_option maxRecDepth 20000 in
theorem h_262_27 {d x : Nat} {V : pV} {G : sm_G} {L : sm_L} {v1 v2 : Int32} : hD d 262 27 [.ref 156, .int v1, .int v2] 342 (RR V) x G L =
  sm_aI (sm_cv0 d 253 342 (RR V) [.int v2] (x, G, L)) (fun a1 x1 G1 L1 =>
    if a1 = (i3 0) then
      (sm_aI (sm_cv0 d 219 342 (RR V) [.ref 156, .int (i3 1), .int (i3 2), .int (i3 2)] (x1, G1, L1)) (fun a2 x2 G2 L2 =>
        if a2 = (i3 0) then
          (hD d 262 50 [.ref 156, .int v1, .int v2] 342 (RR V) x2 G2 L2)
        else (oI (i3 0) x2 G2 L2)) oX)
    else (sm_aI (sm_cv0 d 219 342 (RR V) [.ref 156, .int (i3 0), .int (i3 2), .int (i3 2)] (x1, G1, L1)) (fun a3 x3 G3 L3 =>
        if a3 = (i3 0) then
          (hD d 262 50 [.ref 156, .int v1, .int v2] 342 (RR V) x3 G3 L3)
        else (oI (i3 0) x3 G3 L3)) oX)) oX := by
  rw [rh_262_27]
  try simp only [gd_tt, k_156]
set_option maxRecDepth 20000 in
theorem rh_262_50 {d x : Nat} {R : sm_R} {G : sm_G} {L : sm_L} {v1 v2 : Int32} : hD d 262 50 [.ref 156, .int v1, .int v2] 342 R x G L =
  sm_aI (sm_cv0 d 263 342 R [.ref 156] (x, G, L)) (fun a1 x1 G1 L1 =>
    ldi (R 156 49) v2 G1 (fun y2 => if ((shr y2 v1) &&& (i3 1)) = (i3 1) then
      (oI (i3 1) x1 G1 L1)
    else (oI (i3 0) x1 G1 L1))) oX := hD_eq.trans rfl
set_option maxRecDepth 20000 in
theorem h_262_50 {d x : Nat} {V : pV} {G : sm_G} {L : sm_L} {v1 v2 : Int32} : hD d 262 50 [.ref 156, .int v1, .int v2] 342 (RR V) x G L =
  sm_aI (sm_cv0 d 263 342 (RR V) [.ref 156] (x, G, L)) (fun a1 x1 G1 L1 =>
    gd (sm_in v2 301) (if ((shr (G1 324 v2.toNatClampNeg) v1) &&& (i3 1)) = (i3 1) then
      (oI (i3 1) x1 G1 L1)
    else (oI (i3 0) x1 G1 L1))) oX := by
  rw [rh_262_50]
  try simp only [gd_tt, (q_156_49 V), k_156, ldi_e k_324 n_324, n_324]
/-! M_nightNow -/
set_option maxRecDepth 20000 in
theorem rm_263 {d x : Nat} {R : sm_R} {G : sm_G} {L : sm_L} : sm_cv0 (d + 1) 263 342 R [.ref 156] (x, G, L) =
  sm_aV (sm_cv0 d 257 342 R [.ref 156] (x, G, L)) (fun x1 G1 L1 =>
    sm_aI (sm_cv0 d 264 342 R [.ref 156] (x1, G1, L1)) (fun a2 x2 G2 L2 =>
      oI a2 x2 G2 L2) oX) oX := (cv_eq rfl rfl).trans (hD_eq.trans rfl)
set_option maxRecDepth 20000 in
theorem m_263 {d x : Nat} {V : pV} {G : sm_G} {L : sm_L} : sm_cv0 (d + 1) 263 342 (RR V) [.ref 156] (x, G, L) =
  sm_aV (sm_cv0 d 257 342 (RR V) [.ref 156] (x, G, L)) (fun x1 G1 L1 =>
    sm_aI (sm_cv0 d 264 342 (RR V) [.ref 156] (x1, G1, L1)) (fun a2 x2 G2 L2 =>
      oI a2 x2 G2 L2) oX) oX := by
  rw [rm_263]
  try simp only [gd_tt, k_156]
/-! M_nights -/
set_option maxRecDepth 20000 in
theorem rm_264 {d x : Nat} {R : sm_R} {G : sm_G} {L : sm_L} : sm_cv0 (d + 1) 264 342 R [.ref 156] (x, G, L) =
  sm_aI (sm_cv0 d 260 342 R [.ref 156] (x, G, L)) (fun a1 x1 G1 L1 =>
    hD d 264 12 [.ref 156, .int (i3 0), .int (i3 0), .null] 342 R x1 (sm_up G1 156 56 a1) L1) oX := (cv_eq rfl rfl).trans (hD_eq.trans rfl)
set_option maxRecDepth 20000 in
theorem m_264 {d x : Nat} {V : pV} {G : sm_G} {L : sm_L} : sm_cv0 (d + 1) 264 342 (RR V) [.ref 156] (x, G, L) =
  sm_aI (sm_cv0 d 260 342 (RR V) [.ref 156] (x, G, L)) (fun a1 x1 G1 L1 =>
    hD d 264 12 [.ref 156, .int (i3 0), .int (i3 0), .null] 342 (RR V) x1 (sm_up G1 156 56 a1) L1) oX := by
  rw [rm_264]
  try simp only [gd_tt, k_156]
set_option maxRecDepth 20000 in
theorem rh_264_12 {d x : Nat} {R : sm_R} {G : sm_G} {L : sm_L} {v1 v2 : Int32} : hD d 264 12 [.ref 156, .int v1, .int v2, .null] 342 R x G L =
  ldi (R 156 12) (i3 4) G (fun y1 => if v2 < y1 then
    (gd (sm_is (R 156 50) 342 20) (gd (sm_in v2 (sm_N (R 156 50))) (gd (sm_is (R 156 51) 342 20) (gd (sm_in v2 (sm_N (R 156 51))) (gd (sm_is (R 156 52) 342 20) (gd (sm_in v2 (sm_N (R 156 52))) (gd (sm_is (R 156 53) 342 20) (gd (sm_in v2 (sm_N (R 156 53))) (bst (R 156 55) v2 (i3 0) (sm_up (sm_up (sm_up (sm_up G (R 156 50) v2.toNatClampNeg m1) (R 156 51) v2.toNatClampNeg (i3 0)) (R 156 52) v2.toNatClampNeg (i3 0)) (R 156 53) v2.toNatClampNeg (i3 0)) (fun g2 => hD d 264 59 [.ref 156, .int v1, .int v2, .int (i3 0)] 342 R x g2 L))))))))))
  else (hD d 264 99 [.ref 156, .int v1, .null, .null] 342 R x (sm_up G 156 57 (i3 0)) L)) := hD_eq.trans rfl
set_option maxRecDepth 20000 in
theorem h_264_12 {d x : Nat} {V : pV} {G : sm_G} {L : sm_L} {v1 v2 : Int32} : hD d 264 12 [.ref 156, .int v1, .int v2, .null] 342 (RR V) x G L =
  if v2 < (G 160 4) then
    (gd (sm_in v2 4) (gd (sm_in v2 4) (gd (sm_in v2 4) (gd (sm_in v2 4) (gd (sm_in v2 4) (hD d 264 59 [.ref 156, .int v1, .int v2, .int (i3 0)] 342 (RR V) x (sm_up (sm_up (sm_up (sm_up (sm_up G 325 v2.toNatClampNeg m1) 326 v2.toNatClampNeg (i3 0)) 327 v2.toNatClampNeg (i3 0)) 328 v2.toNatClampNeg (i3 0)) 330 v2.toNatClampNeg (i3 0)) L))))))
  else (hD d 264 99 [.ref 156, .int v1, .null, .null] 342 (RR V) x (sm_up G 156 57 (i3 0)) L) := by
  rw [rh_264_12]
  try simp only [gd_tt, (q_156_12 V), (q_156_50 V), (q_156_51 V), (q_156_52 V), (q_156_53 V), (q_156_55 V), bst22_e k_330 n_330, cl_4, inl_4_6, k_156, k_325, k_326, k_327, k_328, ldi_e k_160 n_160, n_160, n_325, n_326, n_327, n_328, n_330, zd_0, zd_1]
set_option maxRecDepth 20000 in
theorem rh_264_59 {d x : Nat} {R : sm_R} {G : sm_G} {L : sm_L} {v1 v2 v3 : Int32} : hD d 264 59 [.ref 156, .int v1, .int v2, .int v3] 342 R x G L =
  if v3 < (i3 6) then
    (gd (Nat.ble 24 (sm_K (R 156 47)) && Nat.ble (sm_K (R 156 47)) 27 && Nat.ble (R 156 47) 342) (gd (sm_in v2 (sm_N (R 156 47))) (if v3 = (i3 0) then
      (gd (sm_is (R (R 156 47) v2.toNatClampNeg) 342 20) (gd (sm_in v3 (sm_N (R (R 156 47) v2.toNatClampNeg))) (hD d 264 59 [.ref 156, .int v1, .int v2, .int (v3 + (i3 1))] 342 R x (sm_up G (R (R 156 47) v2.toNatClampNeg) v3.toNatClampNeg m1) L)))
    else (gd (sm_is (R (R 156 47) v2.toNatClampNeg) 342 20) (gd (sm_in v3 (sm_N (R (R 156 47) v2.toNatClampNeg))) (hD d 264 59 [.ref 156, .int v1, .int v2, .int (v3 + (i3 1))] 342 R x (sm_up G (R (R 156 47) v2.toNatClampNeg) v3.toNatClampNeg (i3 0)) L))))))
  else (hD d 264 12 [.ref 156, .int v1, .int (v2 + (i3 1)), .null] 342 R x G L) := hD_eq.trans rfl
set_option maxRecDepth 20000 in
theorem h_264_59 {d x : Nat} {V : pV} {G : sm_G} {L : sm_L} {v1 v2 v3 : Int32} : hD d 264 59 [.ref 156, .int v1, .int v2, .int v3] 342 (RR V) x G L =
  if v3 < (i3 6) then
    (gd (sm_in v2 4) (if v3 = (i3 0) then
      (gd (sm_is (RR V 314 v2.toNatClampNeg) 342 20) (gd (sm_in v3 (sm_N (RR V 314 v2.toNatClampNeg))) (hD d 264 59 [.ref 156, .int v1, .int v2, .int (v3 + (i3 1))] 342 (RR V) x (sm_up G (RR V 314 v2.toNatClampNeg) v3.toNatClampNeg m1) L)))
    else (gd (sm_is (RR V 314 v2.toNatClampNeg) 342 20) (gd (sm_in v3 (sm_N (RR V 314 v2.toNatClampNeg))) (hD d 264 59 [.ref 156, .int v1, .int v2, .int (v3 + (i3 1))] 342 (RR V) x (sm_up G (RR V 314 v2.toNatClampNeg) v3.toNatClampNeg (i3 0)) L)))))
  else (hD d 264 12 [.ref 156, .int v1, .int (v2 + (i3 1)), .null] 342 (RR V) x G L) := by
  rw [rh_264_59]
  try simp only [gd_tt, (q_156_47 V), a_314, k_156, n_314]
set_option maxRecDepth 20000 in
theorem rh_264_99 {d x : Nat} {R : sm_R} {G : sm_G} {L : sm_L} {v1 : Int32} : hD d 264 99 [.ref 156, .int v1, .null, .null] 342 R x G L =
  if (G 156 57) < (i3 301) then
    (sm_aI (sm_cv0 d 261 342 R [.ref 156, .int (G 156 56), .int (G 156 57)] (x, G, L)) (fun a1 x1 G1 L1 =>
      hD d 264 127 [.ref 156, .int v1, .int (i3 0), .null] 342 R x1 (sm_up G1 156 56 a1) L1) oX)
  else (hD d 264 289 [.ref 156, .int v1, .int (i3 0), .null] 342 R x G L) := hD_eq.trans rfl
set_option maxRecDepth 20000 in
theorem h_264_99 {d x : Nat} {V : pV} {G : sm_G} {L : sm_L} {v1 : Int32} : hD d 264 99 [.ref 156, .int v1, .null, .null] 342 (RR V) x G L =
  if (G 156 57) < (i3 301) then
    (sm_aI (sm_cv0 d 261 342 (RR V) [.ref 156, .int (G 156 56), .int (G 156 57)] (x, G, L)) (fun a1 x1 G1 L1 =>
      hD d 264 127 [.ref 156, .int v1, .int (i3 0), .null] 342 (RR V) x1 (sm_up G1 156 56 a1) L1) oX)
  else (hD d 264 289 [.ref 156, .int v1, .int (i3 0), .null] 342 (RR V) x G L) := by
  rw [rh_264_99]
  try simp only [gd_tt, k_156]
set_option maxRecDepth 20000 in
theorem rh_264_127 {d x : Nat} {R : sm_R} {G : sm_G} {L : sm_L} {v1 v2 : Int32} : hD d 264 127 [.ref 156, .int v1, .int v2, .null] 342 R x G L =
  ldi (R 156 12) (i3 4) G (fun y1 => if v2 < y1 then
    (sm_aV (sm_cv0 d 265 342 R [.ref 156, .int v2] (x, G, L)) (fun x2 G2 L2 =>
      hD d 264 127 [.ref 156, .int v1, .int (v2 + (i3 1)), .null] 342 R x2 G2 L2) oX)
  else (hD d 264 150 [.ref 156, .int v1, .int (i3 0), .null] 342 R x G L)) := hD_eq.trans rfl
set_option maxRecDepth 20000 in
theorem h_264_127 {d x : Nat} {V : pV} {G : sm_G} {L : sm_L} {v1 v2 : Int32} : hD d 264 127 [.ref 156, .int v1, .int v2, .null] 342 (RR V) x G L =
  if v2 < (G 160 4) then
    (sm_aV (sm_cv0 d 265 342 (RR V) [.ref 156, .int v2] (x, G, L)) (fun x2 G2 L2 =>
      hD d 264 127 [.ref 156, .int v1, .int (v2 + (i3 1)), .null] 342 (RR V) x2 G2 L2) oX)
  else (hD d 264 150 [.ref 156, .int v1, .int (i3 0), .null] 342 (RR V) x G L) := by
  rw [rh_264_127]
  try simp only [gd_tt, (q_156_12 V), cl_4, inl_4_6, k_156, ldi_e k_160 n_160, n_160]
set_option maxRecDepth 20000 in
theorem rh_264_150 {d x : Nat} {R : sm_R} {G : sm_G} {L : sm_L} {v1 v2 : Int32} : hD d 264 150 [.ref 156, .int v1, .int v2, .null] 342 R x G L =
  ldi (R 156 12) (i3 4) G (fun y1 => if v2 < y1 then
    (sm_aI (sm_cv0 d 266 342 R [.ref 156, .int v2] (x, G, L)) (fun a2 x2 G2 L2 =>
      if a2 = (i3 0) then
        (hD d 264 150 [.ref 156, .int v1, .int (v2 + (i3 1)), .null] 342 R x2 G2 L2)
      else (gd (Nat.ble 24 (sm_K (R 156 24)) && Nat.ble (sm_K (R 156 24)) 27 && Nat.ble (R 156 24) 342) (gd (sm_in v2 (sm_N (R 156 24))) (ldi (R (R 156 24) v2.toNatClampNeg) (i3 1) G2 (fun y3 => if y3 < (G2 156 57) then
          (sm_aV (sm_cv0 d 267 342 R [.ref 156, .int v2] (x2, G2, L2)) (fun x4 G4 L4 =>
            hD d 264 150 [.ref 156, .int v1, .int (v2 + (i3 1)), .null] 342 R x4 G4 L4) oX)
        else (hD d 264 150 [.ref 156, .int v1, .int (v2 + (i3 1)), .null] 342 R x2 G2 L2)))))) oX)
  else (gd (sm_is (R 156 49) 342 20) (gd (sm_in (G 156 57) (sm_N (R 156 49))) (hD d 264 209 [.ref 156, .int v1, .int (i3 0), .null] 342 R x (sm_up G (R 156 49) ((G 156 57).toNatClampNeg) (G 156 56)) L)))) := hD_eq.trans rfl
set_option maxRecDepth 20000 in
theorem h_264_150 {d x : Nat} {V : pV} {G : sm_G} {L : sm_L} {v1 v2 : Int32} : hD d 264 150 [.ref 156, .int v1, .int v2, .null] 342 (RR V) x G L =
  if v2 < (G 160 4) then
    (sm_aI (sm_cv0 d 266 342 (RR V) [.ref 156, .int v2] (x, G, L)) (fun a2 x2 G2 L2 =>
      if a2 = (i3 0) then
        (hD d 264 150 [.ref 156, .int v1, .int (v2 + (i3 1)), .null] 342 (RR V) x2 G2 L2)
      else (gd (sm_in v2 4) (ldi (RR V 236 v2.toNatClampNeg) (i3 1) G2 (fun y3 => if y3 < (G2 156 57) then
          (sm_aV (sm_cv0 d 267 342 (RR V) [.ref 156, .int v2] (x2, G2, L2)) (fun x4 G4 L4 =>
            hD d 264 150 [.ref 156, .int v1, .int (v2 + (i3 1)), .null] 342 (RR V) x4 G4 L4) oX)
        else (hD d 264 150 [.ref 156, .int v1, .int (v2 + (i3 1)), .null] 342 (RR V) x2 G2 L2))))) oX)
  else (gd (sm_in (G 156 57) 301) (hD d 264 209 [.ref 156, .int v1, .int (i3 0), .null] 342 (RR V) x (sm_up G 324 ((G 156 57).toNatClampNeg) (G 156 56)) L)) := by
  rw [rh_264_150]
  try simp only [gd_tt, (q_156_12 V), (q_156_24 V), (q_156_49 V), a_236, cl_4, inl_4_6, k_156, k_324, ldi_e k_160 n_160, n_160, n_236, n_324]
set_option maxRecDepth 20000 in
theorem rh_264_209 {d x : Nat} {R : sm_R} {G : sm_G} {L : sm_L} {v1 v2 : Int32} : hD d 264 209 [.ref 156, .int v1, .int v2, .null] 342 R x G L =
  ldi (R 156 12) (i3 4) G (fun y1 => if v2 < y1 then
    (gd (Nat.ble 24 (sm_K (R 156 46)) && Nat.ble (sm_K (R 156 46)) 27 && Nat.ble (R 156 46) 342) (gd (sm_in v2 (sm_N (R 156 46))) (ldi (R 156 50) v2 G (fun y2 => gd (sm_is (R (R 156 46) v2.toNatClampNeg) 342 20) (gd (sm_in (G 156 57) (sm_N (R (R 156 46) v2.toNatClampNeg))) (gd (Nat.ble 24 (sm_K (R 156 47)) && Nat.ble (sm_K (R 156 47)) 27 && Nat.ble (R 156 47) 342) (gd (sm_in v2 (sm_N (R 156 47))) (ldi (R (R 156 47) v2.toNatClampNeg) (i3 4) (sm_up G (R (R 156 46) v2.toNatClampNeg) ((G 156 57).toNatClampNeg) y2) (fun y3 => sm_aI (sm_cv0 d 266 342 R [.ref 156, .int v2] (x, sm_up G (R (R 156 46) v2.toNatClampNeg) ((G 156 57).toNatClampNeg) y2, L)) (fun a4 x4 G4 L4 =>
      if a4 = (i3 0) then
        (gd (sm_is (R (R 156 47) v2.toNatClampNeg) 342 20) (gd (sm_in (i3 4) (sm_N (R (R 156 47) v2.toNatClampNeg))) (hD d 264 209 [.ref 156, .int v1, .int (v2 + (i3 1)), .null] 342 R x4 (sm_up G4 (R (R 156 47) v2.toNatClampNeg) 4 (y3 + (i3 0))) L4)))
      else (sm_aI (sm_cv0 d 275 342 R [.ref 156, .int v2] (x4, G4, L4)) (fun a5 x5 G5 L5 =>
          if a5 = (i3 0) then
            (gd (sm_is (R (R 156 47) v2.toNatClampNeg) 342 20) (gd (sm_in (i3 4) (sm_N (R (R 156 47) v2.toNatClampNeg))) (hD d 264 209 [.ref 156, .int v1, .int (v2 + (i3 1)), .null] 342 R x5 (sm_up G5 (R (R 156 47) v2.toNatClampNeg) 4 (y3 + (i3 0))) L5)))
          else (gd (sm_is (R (R 156 47) v2.toNatClampNeg) 342 20) (gd (sm_in (i3 4) (sm_N (R (R 156 47) v2.toNatClampNeg))) (hD d 264 209 [.ref 156, .int v1, .int (v2 + (i3 1)), .null] 342 R x5 (sm_up G5 (R (R 156 47) v2.toNatClampNeg) 4 (y3 + (i3 1))) L5)))) oX)) oX)))))))))
  else (hD d 264 99 [.ref 156, .int v1, .null, .null] 342 R x (sm_up G 156 57 ((G 156 57) + (i3 1))) L)) := hD_eq.trans rfl
set_option maxRecDepth 20000 in
theorem h_264_209 {d x : Nat} {V : pV} {G : sm_G} {L : sm_L} {v1 v2 : Int32} : hD d 264 209 [.ref 156, .int v1, .int v2, .null] 342 (RR V) x G L =
  if v2 < (G 160 4) then
    (gd (sm_in v2 4) (gd (sm_in v2 4) (gd (sm_is (RR V 309 v2.toNatClampNeg) 342 20) (gd (sm_in (G 156 57) (sm_N (RR V 309 v2.toNatClampNeg))) (gd (sm_in v2 4) (ldi (RR V 314 v2.toNatClampNeg) (i3 4) (sm_up G (RR V 309 v2.toNatClampNeg) ((G 156 57).toNatClampNeg) (G 325 v2.toNatClampNeg)) (fun y3 => sm_aI (sm_cv0 d 266 342 (RR V) [.ref 156, .int v2] (x, sm_up G (RR V 309 v2.toNatClampNeg) ((G 156 57).toNatClampNeg) (G 325 v2.toNatClampNeg), L)) (fun a4 x4 G4 L4 =>
      if a4 = (i3 0) then
        (gd (sm_is (RR V 314 v2.toNatClampNeg) 342 20) (gd (sm_in (i3 4) (sm_N (RR V 314 v2.toNatClampNeg))) (hD d 264 209 [.ref 156, .int v1, .int (v2 + (i3 1)), .null] 342 (RR V) x4 (sm_up G4 (RR V 314 v2.toNatClampNeg) 4 (y3 + (i3 0))) L4)))
      else (sm_aI (sm_cv0 d 275 342 (RR V) [.ref 156, .int v2] (x4, G4, L4)) (fun a5 x5 G5 L5 =>
          if a5 = (i3 0) then
            (gd (sm_is (RR V 314 v2.toNatClampNeg) 342 20) (gd (sm_in (i3 4) (sm_N (RR V 314 v2.toNatClampNeg))) (hD d 264 209 [.ref 156, .int v1, .int (v2 + (i3 1)), .null] 342 (RR V) x5 (sm_up G5 (RR V 314 v2.toNatClampNeg) 4 (y3 + (i3 0))) L5)))
          else (gd (sm_is (RR V 314 v2.toNatClampNeg) 342 20) (gd (sm_in (i3 4) (sm_N (RR V 314 v2.toNatClampNeg))) (hD d 264 209 [.ref 156, .int v1, .int (v2 + (i3 1)), .null] 342 (RR V) x5 (sm_up G5 (RR V 314 v2.toNatClampNeg) 4 (y3 + (i3 1))) L5)))) oX)) oX)))))))
  else (hD d 264 99 [.ref 156, .int v1, .null, .null] 342 (RR V) x (sm_up G 156 57 ((G 156 57) + (i3 1))) L) := by
  rw [rh_264_209]
  try simp only [gd_tt, (q_156_12 V), (q_156_46 V), (q_156_47 V), (q_156_50 V), a_309, a_314, cl_4, inl_4_6, k_156, ldi_e k_160 n_160, ldi_e k_325 n_325, n_160, n_309, n_314, n_325]
set_option maxRecDepth 20000 in
theorem rh_264_289 {d x : Nat} {R : sm_R} {G : sm_G} {L : sm_L} {v1 v2 : Int32} : hD d 264 289 [.ref 156, .int v1, .int v2, .null] 342 R x G L =
  ldi (R 156 12) (i3 4) G (fun y1 => if v2 < y1 then
    (gd (Nat.ble 24 (sm_K (R 156 47)) && Nat.ble (sm_K (R 156 47)) 27 && Nat.ble (R 156 47) 342) (gd (sm_in v2 (sm_N (R 156 47))) (ldi (R (R 156 47) v2.toNatClampNeg) (i3 0) G (fun y2 => if y2 = m1 then
      (hD d 264 289 [.ref 156, .int (v1 ||| (i3 0)), .int (v2 + (i3 1)), .null] 342 R x G L)
    else (hD d 264 289 [.ref 156, .int (v1 ||| (shl (i3 1) v2)), .int (v2 + (i3 1)), .null] 342 R x G L)))))
  else (oI v1 x G L)) := hD_eq.trans rfl
set_option maxRecDepth 20000 in
theorem h_264_289 {d x : Nat} {V : pV} {G : sm_G} {L : sm_L} {v1 v2 : Int32} : hD d 264 289 [.ref 156, .int v1, .int v2, .null] 342 (RR V) x G L =
  if v2 < (G 160 4) then
    (gd (sm_in v2 4) (ldi (RR V 314 v2.toNatClampNeg) (i3 0) G (fun y2 => if y2 = m1 then
      (hD d 264 289 [.ref 156, .int (v1 ||| (i3 0)), .int (v2 + (i3 1)), .null] 342 (RR V) x G L)
    else (hD d 264 289 [.ref 156, .int (v1 ||| (shl (i3 1) v2)), .int (v2 + (i3 1)), .null] 342 (RR V) x G L))))
  else (oI v1 x G L) := by
  rw [rh_264_289]
  try simp only [gd_tt, (q_156_12 V), (q_156_47 V), a_314, cl_4, inl_4_6, k_156, ldi_e k_160 n_160, n_160, n_314]
/-! M_comesOrGoes -/
set_option maxRecDepth 20000 in
theorem rm_265 {d x : Nat} {R : sm_R} {G : sm_G} {L : sm_L} {v1 : Int32} : sm_cv0 (d + 1) 265 342 R [.ref 156, .int v1] (x, G, L) =
  ldi (R 156 44) (G 156 57) G (fun y1 => sm_aI (sm_cv0 d 266 342 R [.ref 156, .int v1] (x, G, L)) (fun a2 x2 G2 L2 =>
    if a2 = (i3 0) then
      (gd (Nat.ble 24 (sm_K (R 156 24)) && Nat.ble (sm_K (R 156 24)) 27 && Nat.ble (R 156 24) 342) (gd (sm_in v1 (sm_N (R 156 24))) (ldi (R (R 156 24) v1.toNatClampNeg) (i3 0) G2 (fun y3 => if ((shr y1 y3) &&& (i3 1)) = (i3 1) then
        (hD d 265 47 [.ref 156, .int v1, .int (i3 1)] 342 R x2 G2 L2)
      else (hD d 265 47 [.ref 156, .int v1, .int (i3 0)] 342 R x2 G2 L2)))))
    else (ldi (R 156 50) v1 G2 (fun y4 => if ((shr y1 y4) &&& (i3 1)) = (i3 1) then
        (hD d 265 47 [.ref 156, .int v1, .int (i3 1)] 342 R x2 G2 L2)
      else (hD d 265 47 [.ref 156, .int v1, .int (i3 0)] 342 R x2 G2 L2)))) oX) := (cv_eq rfl rfl).trans (hD_eq.trans rfl)
set_option maxRecDepth 20000 in
theorem m_265 {d x : Nat} {V : pV} {G : sm_G} {L : sm_L} {v1 : Int32} : sm_cv0 (d + 1) 265 342 (RR V) [.ref 156, .int v1] (x, G, L) =
  gd (sm_in (G 156 57) 301) (sm_aI (sm_cv0 d 266 342 (RR V) [.ref 156, .int v1] (x, G, L)) (fun a2 x2 G2 L2 =>
    if a2 = (i3 0) then
      (gd (sm_in v1 4) (ldi (RR V 236 v1.toNatClampNeg) (i3 0) G2 (fun y3 => if ((shr (G 307 ((G 156 57).toNatClampNeg)) y3) &&& (i3 1)) = (i3 1) then
        (hD d 265 47 [.ref 156, .int v1, .int (i3 1)] 342 (RR V) x2 G2 L2)
      else (hD d 265 47 [.ref 156, .int v1, .int (i3 0)] 342 (RR V) x2 G2 L2))))
    else (gd (sm_in v1 4) (if ((shr (G 307 ((G 156 57).toNatClampNeg)) (G2 325 v1.toNatClampNeg)) &&& (i3 1)) = (i3 1) then
        (hD d 265 47 [.ref 156, .int v1, .int (i3 1)] 342 (RR V) x2 G2 L2)
      else (hD d 265 47 [.ref 156, .int v1, .int (i3 0)] 342 (RR V) x2 G2 L2)))) oX) := by
  rw [rm_265]
  try simp only [gd_tt, (q_156_24 V), (q_156_44 V), (q_156_50 V), a_236, k_156, ldi_e k_307 n_307, ldi_e k_325 n_325, n_236, n_307, n_325]
set_option maxRecDepth 20000 in
theorem rh_265_47 {d x : Nat} {R : sm_R} {G : sm_G} {L : sm_L} {v1 v2 : Int32} : hD d 265 47 [.ref 156, .int v1, .int v2] 342 R x G L =
  sm_aI (sm_cv0 d 266 342 R [.ref 156, .int v1] (x, G, L)) (fun a1 x1 G1 L1 =>
    if a1 = (i3 0) then
      (hD d 265 59 [.ref 156, .int v1, .int v2] 342 R x1 G1 L1)
    else (if v2 = (i3 0) then
        (gd (sm_is (R 156 50) 342 20) (gd (sm_in v1 (sm_N (R 156 50))) (gd (Nat.ble 24 (sm_K (R 156 47)) && Nat.ble (sm_K (R 156 47)) 27 && Nat.ble (R 156 47) 342) (gd (sm_in v1 (sm_N (R 156 47))) (gd (sm_is (R (R 156 47) v1.toNatClampNeg) 342 20) (gd (sm_in (i3 0) (sm_N (R (R 156 47) v1.toNatClampNeg))) (oV x1 (sm_up (sm_up G1 (R 156 50) v1.toNatClampNeg m1) (R (R 156 47) v1.toNatClampNeg) 0 ((sm_up G1 (R 156 50) v1.toNatClampNeg m1) 156 57)) L1)))))))
      else (hD d 265 59 [.ref 156, .int v1, .int v2] 342 R x1 G1 L1))) oX := hD_eq.trans rfl
set_option maxRecDepth 20000 in
theorem h_265_47 {d x : Nat} {V : pV} {G : sm_G} {L : sm_L} {v1 v2 : Int32} : hD d 265 47 [.ref 156, .int v1, .int v2] 342 (RR V) x G L =
  sm_aI (sm_cv0 d 266 342 (RR V) [.ref 156, .int v1] (x, G, L)) (fun a1 x1 G1 L1 =>
    if a1 = (i3 0) then
      (hD d 265 59 [.ref 156, .int v1, .int v2] 342 (RR V) x1 G1 L1)
    else (if v2 = (i3 0) then
        (gd (sm_in v1 4) (gd (sm_in v1 4) (gd (sm_is (RR V 314 v1.toNatClampNeg) 342 20) (gd (sm_in (i3 0) (sm_N (RR V 314 v1.toNatClampNeg))) (oV x1 (sm_up (sm_up G1 325 v1.toNatClampNeg m1) (RR V 314 v1.toNatClampNeg) 0 ((sm_up G1 325 v1.toNatClampNeg m1) 156 57)) L1)))))
      else (hD d 265 59 [.ref 156, .int v1, .int v2] 342 (RR V) x1 G1 L1))) oX := by
  rw [rh_265_47]
  try simp only [gd_tt, (q_156_47 V), (q_156_50 V), a_314, k_156, k_325, n_314, n_325]
set_option maxRecDepth 20000 in
theorem rh_265_59 {d x : Nat} {R : sm_R} {G : sm_G} {L : sm_L} {v1 v2 : Int32} : hD d 265 59 [.ref 156, .int v1, .int v2] 342 R x G L =
  gd (Nat.ble 24 (sm_K (R 156 24)) && Nat.ble (sm_K (R 156 24)) 27 && Nat.ble (R 156 24) 342) (gd (sm_in v1 (sm_N (R 156 24))) (ldi (R (R 156 24) v1.toNatClampNeg) (i3 1) G (fun y1 => if y1 = (G 156 57) then
    (if v2 = (i3 0) then
      (gd (sm_is (R 156 50) 342 20) (gd (sm_in v1 (sm_N (R 156 50))) (gd (Nat.ble 24 (sm_K (R 156 47)) && Nat.ble (sm_K (R 156 47)) 27 && Nat.ble (R 156 47) 342) (gd (sm_in v1 (sm_N (R 156 47))) (gd (sm_is (R (R 156 47) v1.toNatClampNeg) 342 20) (gd (sm_in (i3 0) (sm_N (R (R 156 47) v1.toNatClampNeg))) (oV x (sm_up (sm_up G (R 156 50) v1.toNatClampNeg m1) (R (R 156 47) v1.toNatClampNeg) 0 ((sm_up G (R 156 50) v1.toNatClampNeg m1) 156 57)) L)))))))
    else (hD d 265 100 [.ref 156, .int v1, .null] 342 R x G L))
  else (hD d 265 100 [.ref 156, .int v1, .null] 342 R x G L)))) := hD_eq.trans rfl
set_option maxRecDepth 20000 in
theorem h_265_59 {d x : Nat} {V : pV} {G : sm_G} {L : sm_L} {v1 v2 : Int32} : hD d 265 59 [.ref 156, .int v1, .int v2] 342 (RR V) x G L =
  gd (sm_in v1 4) (ldi (RR V 236 v1.toNatClampNeg) (i3 1) G (fun y1 => if y1 = (G 156 57) then
    (if v2 = (i3 0) then
      (gd (sm_in v1 4) (gd (sm_in v1 4) (gd (sm_is (RR V 314 v1.toNatClampNeg) 342 20) (gd (sm_in (i3 0) (sm_N (RR V 314 v1.toNatClampNeg))) (oV x (sm_up (sm_up G 325 v1.toNatClampNeg m1) (RR V 314 v1.toNatClampNeg) 0 ((sm_up G 325 v1.toNatClampNeg m1) 156 57)) L)))))
    else (hD d 265 100 [.ref 156, .int v1, .null] 342 (RR V) x G L))
  else (hD d 265 100 [.ref 156, .int v1, .null] 342 (RR V) x G L))) := by
  rw [rh_265_59]
  try simp only [gd_tt, (q_156_24 V), (q_156_47 V), (q_156_50 V), a_236, a_314, k_156, k_325, n_236, n_314, n_325]
set_option maxRecDepth 20000 in
theorem rh_265_100 {d x : Nat} {R : sm_R} {G : sm_G} {L : sm_L} {v1 : Int32} : hD d 265 100 [.ref 156, .int v1, .null] 342 R x G L =
  gd (Nat.ble 24 (sm_K (R 156 24)) && Nat.ble (sm_K (R 156 24)) 27 && Nat.ble (R 156 24) 342) (gd (sm_in v1 (sm_N (R 156 24))) (ldi (R (R 156 24) v1.toNatClampNeg) (i3 1) G (fun y1 => if y1 = (G 156 57) then
    (gd (Nat.ble 24 (sm_K (R 156 24)) && Nat.ble (sm_K (R 156 24)) 27 && Nat.ble (R 156 24) 342) (gd (sm_in v1 (sm_N (R 156 24))) (ldi (R (R 156 24) v1.toNatClampNeg) (i3 0) G (fun y2 => gd (sm_is (R 156 50) 342 20) (gd (sm_in v1 (sm_N (R 156 50))) (oV x (sm_up G (R 156 50) v1.toNatClampNeg y2) L))))))
  else (oV x G L)))) := hD_eq.trans rfl
set_option maxRecDepth 20000 in
theorem h_265_100 {d x : Nat} {V : pV} {G : sm_G} {L : sm_L} {v1 : Int32} : hD d 265 100 [.ref 156, .int v1, .null] 342 (RR V) x G L =
  gd (sm_in v1 4) (ldi (RR V 236 v1.toNatClampNeg) (i3 1) G (fun y1 => if y1 = (G 156 57) then
    (gd (sm_in v1 4) (ldi (RR V 236 v1.toNatClampNeg) (i3 0) G (fun y2 => gd (sm_in v1 4) (oV x (sm_up G 325 v1.toNatClampNeg y2) L))))
  else (oV x G L))) := by
  rw [rh_265_100]
  try simp only [gd_tt, (q_156_24 V), (q_156_50 V), a_236, k_156, k_325, n_236, n_325]
/-! M_isIn -/
set_option maxRecDepth 20000 in
theorem rm_266 {d x : Nat} {R : sm_R} {G : sm_G} {L : sm_L} {v1 : Int32} : sm_cv0 (d + 1) 266 342 R [.ref 156, .int v1] (x, G, L) =
  ldi (R 156 50) v1 G (fun y1 => if y1 = m1 then
    (oI (i3 0) x G L)
  else (oI (i3 1) x G L)) := (cv_eq rfl rfl).trans (hD_eq.trans rfl)
set_option maxRecDepth 20000 in
theorem m_266 {d x : Nat} {V : pV} {G : sm_G} {L : sm_L} {v1 : Int32} : sm_cv0 (d + 1) 266 342 (RR V) [.ref 156, .int v1] (x, G, L) =
  gd (sm_in v1 4) (if (G 325 v1.toNatClampNeg) = m1 then
    (oI (i3 0) x G L)
  else (oI (i3 1) x G L)) := by
  rw [rm_266]
  try simp only [gd_tt, (q_156_50 V), k_156, ldi_e k_325 n_325, n_325]
/-! M_wills -/
set_option maxRecDepth 20000 in
theorem rm_267 {d x : Nat} {R : sm_R} {G : sm_G} {L : sm_L} {v1 : Int32} : sm_cv0 (d + 1) 267 342 R [.ref 156, .int v1] (x, G, L) =
  gd (sm_is (R 156 54) 342 20) (gd (sm_in v1 (sm_N (R 156 54))) (ldi (R 156 53) v1 (sm_up G (R 156 54) v1.toNatClampNeg (i3 0)) (fun y1 => if y1 ≤ (i3 0) then
    (hD d 267 27 [.ref 156, .int v1, .null, .null, .null, .null] 342 R x (sm_up G (R 156 54) v1.toNatClampNeg (i3 0)) L)
  else (ldi (R 156 53) v1 (sm_up G (R 156 54) v1.toNatClampNeg (i3 0)) (fun y2 => gd (sm_is (R 156 53) 342 20) (gd (sm_in v1 (sm_N (R 156 53))) (oV x (sm_up (sm_up G (R 156 54) v1.toNatClampNeg (i3 0)) (R 156 53) v1.toNatClampNeg (y2 - (i3 1))) L))))))) := (cv_eq rfl rfl).trans (hD_eq.trans rfl)
set_option maxRecDepth 20000 in
theorem m_267 {d x : Nat} {V : pV} {G : sm_G} {L : sm_L} {v1 : Int32} : sm_cv0 (d + 1) 267 342 (RR V) [.ref 156, .int v1] (x, G, L) =
  gd (sm_in v1 4) (gd (sm_in v1 4) (if ((sm_up G 329 v1.toNatClampNeg (i3 0)) 328 v1.toNatClampNeg) ≤ (i3 0) then
    (hD d 267 27 [.ref 156, .int v1, .null, .null, .null, .null] 342 (RR V) x (sm_up G 329 v1.toNatClampNeg (i3 0)) L)
  else (gd (sm_in v1 4) (gd (sm_in v1 4) (oV x (sm_up (sm_up G 329 v1.toNatClampNeg (i3 0)) 328 v1.toNatClampNeg (((sm_up G 329 v1.toNatClampNeg (i3 0)) 328 v1.toNatClampNeg) - (i3 1))) L))))) := by
  rw [rm_267]
  try simp only [gd_tt, (q_156_53 V), (q_156_54 V), k_156, k_328, k_329, ldi_e k_328 n_328, n_328, n_329]
set_option maxRecDepth 20000 in
theorem rh_267_27 {d x : Nat} {R : sm_R} {G : sm_G} {L : sm_L} {v1 : Int32} : hD d 267 27 [.ref 156, .int v1, .null, .null, .null, .null] 342 R x G L =
  gd (sm_is (R 156 55) 342 21 || sm_is (R 156 55) 342 22) (gd (sm_in v1 (sm_N (R 156 55))) (if (G (R 156 55) v1.toNatClampNeg) = (i3 0) then
    (ldi (R 156 52) v1 G (fun y1 => if y1 ≤ (i3 0) then
      (hD d 267 79 [.ref 156, .int v1, .null, .null, .null, .null] 342 R x G L)
    else (ldi (R 156 51) v1 G (fun y2 => gd (Nat.ble 24 (sm_K (R 156 48)) && Nat.ble (sm_K (R 156 48)) 27 && Nat.ble (R 156 48) 342) (gd (sm_in v1 (sm_N (R 156 48))) (ldi (R 156 52) v1 G (fun y3 => ldi (R (R 156 48) v1.toNatClampNeg) (((i3 4) * y3) - (i3 2)) G (fun y4 => if y2 = y4 then
        (sm_aV (sm_cv0 d 268 342 R [.ref 156, .int v1] (x, G, L)) (fun x5 G5 L5 =>
          hD d 267 27 [.ref 156, .int v1, .null, .null, .null, .null] 342 R x5 G5 L5) oX)
      else (hD d 267 79 [.ref 156, .int v1, .null, .null, .null, .null] 342 R x G L)))))))))
  else (oV x G L))) := hD_eq.trans rfl
set_option maxRecDepth 20000 in
theorem h_267_27 {d x : Nat} {V : pV} {G : sm_G} {L : sm_L} {v1 : Int32} : hD d 267 27 [.ref 156, .int v1, .null, .null, .null, .null] 342 (RR V) x G L =
  gd (sm_in v1 4) (if (G 330 v1.toNatClampNeg) = (i3 0) then
    (gd (sm_in v1 4) (if (G 327 v1.toNatClampNeg) ≤ (i3 0) then
      (hD d 267 79 [.ref 156, .int v1, .null, .null, .null, .null] 342 (RR V) x G L)
    else (gd (sm_in v1 4) (gd (sm_in v1 4) (gd (sm_in v1 4) (ldi (RR V 319 v1.toNatClampNeg) (((i3 4) * (G 327 v1.toNatClampNeg)) - (i3 2)) G (fun y4 => if (G 326 v1.toNatClampNeg) = y4 then
        (sm_aV (sm_cv0 d 268 342 (RR V) [.ref 156, .int v1] (x, G, L)) (fun x5 G5 L5 =>
          hD d 267 27 [.ref 156, .int v1, .null, .null, .null, .null] 342 (RR V) x5 G5 L5) oX)
      else (hD d 267 79 [.ref 156, .int v1, .null, .null, .null, .null] 342 (RR V) x G L))))))))
  else (oV x G L)) := by
  rw [rh_267_27]
  try simp only [gd_tt, (q_156_48 V), (q_156_51 V), (q_156_52 V), (q_156_55 V), Bool.false_or, Bool.true_or, a_319, k_156, k_330, kf_330, ldi_e k_326 n_326, ldi_e k_327 n_327, n_319, n_326, n_327, n_330]
set_option maxRecDepth 20000 in
theorem rh_267_79 {d x : Nat} {R : sm_R} {G : sm_G} {L : sm_L} {v1 : Int32} : hD d 267 79 [.ref 156, .int v1, .null, .null, .null, .null] 342 R x G L =
  ldi (R 156 52) v1 G (fun y1 => if y1 = (i3 0) then
    (ldi (R 156 51) v1 G (fun y2 => ldi (R 156 25) v1 G (fun y3 => if y2 = y3 then
      (oV x G L)
    else (hD d 267 104 [.ref 156, .int v1, .null, .null, .null, .null] 342 R x G L))))
  else (hD d 267 104 [.ref 156, .int v1, .null, .null, .null, .null] 342 R x G L)) := hD_eq.trans rfl
set_option maxRecDepth 20000 in
theorem h_267_79 {d x : Nat} {V : pV} {G : sm_G} {L : sm_L} {v1 : Int32} : hD d 267 79 [.ref 156, .int v1, .null, .null, .null, .null] 342 (RR V) x G L =
  gd (sm_in v1 4) (if (G 327 v1.toNatClampNeg) = (i3 0) then
    (gd (sm_in v1 4) (gd (sm_in v1 4) (if (G 326 v1.toNatClampNeg) = (G 241 v1.toNatClampNeg) then
      (oV x G L)
    else (hD d 267 104 [.ref 156, .int v1, .null, .null, .null, .null] 342 (RR V) x G L))))
  else (hD d 267 104 [.ref 156, .int v1, .null, .null, .null, .null] 342 (RR V) x G L)) := by
  rw [rh_267_79]
  try simp only [gd_tt, (q_156_25 V), (q_156_51 V), (q_156_52 V), k_156, ldi_e k_241 n_241, ldi_e k_326 n_326, ldi_e k_327 n_327, n_241, n_326, n_327]
set_option maxRecDepth 20000 in
theorem rh_267_104 {d x : Nat} {R : sm_R} {G : sm_G} {L : sm_L} {v1 : Int32} : hD d 267 104 [.ref 156, .int v1, .null, .null, .null, .null] 342 R x G L =
  ldi (R 156 51) v1 G (fun y1 => gd (Nat.ble 24 (sm_K (R 156 26)) && Nat.ble (sm_K (R 156 26)) 27 && Nat.ble (R 156 26) 342) (gd (sm_in v1 (sm_N (R 156 26))) (ldi (R (R 156 26) v1.toNatClampNeg) ((i3 5) * y1) G (fun y2 => hD d 267 125 [.ref 156, .int v1, .int y1, .int ((i3 5) * y1), .int y2, .null] 342 R x G L)))) := hD_eq.trans rfl
set_option maxRecDepth 20000 in
theorem h_267_104 {d x : Nat} {V : pV} {G : sm_G} {L : sm_L} {v1 : Int32} : hD d 267 104 [.ref 156, .int v1, .null, .null, .null, .null] 342 (RR V) x G L =
  gd (sm_in v1 4) (gd (sm_in v1 4) (ldi (RR V 242 v1.toNatClampNeg) ((i3 5) * (G 326 v1.toNatClampNeg)) G (fun y2 => hD d 267 125 [.ref 156, .int v1, .int (G 326 v1.toNatClampNeg), .int ((i3 5) * (G 326 v1.toNatClampNeg)), .int y2, .null] 342 (RR V) x G L))) := by
  rw [rh_267_104]
  try simp only [gd_tt, (q_156_26 V), (q_156_51 V), a_242, k_156, ldi_e k_326 n_326, n_242, n_326]
set_option maxRecDepth 20000 in
theorem rh_267_125 {d x : Nat} {R : sm_R} {G : sm_G} {L : sm_L} {v1 v2 v3 v4 : Int32} : hD d 267 125 [.ref 156, .int v1, .int v2, .int v3, .int v4, .null] 342 R x G L =
  gd (Nat.ble 24 (sm_K (R 156 26)) && Nat.ble (sm_K (R 156 26)) 27 && Nat.ble (R 156 26) 342) (gd (sm_in v1 (sm_N (R 156 26))) (ldi (R (R 156 26) v1.toNatClampNeg) (v3 + (i3 1)) G (fun y1 => if v4 < (i3 3) then
    (ldi (R 156 51) v1 G (fun y2 => gd (sm_is (R 156 51) 342 20) (gd (sm_in v1 (sm_N (R 156 51))) (if v4 = (i3 0) then
      (sm_aV (sm_cv0 d 270 342 R [.ref 156, .int v1, .int y1] (x, sm_up G (R 156 51) v1.toNatClampNeg (y2 + (i3 1)), L)) (fun x3 G3 L3 =>
        hD d 267 165 [.ref 156, .int v1, .null, .null, .int v4, .int y1] 342 R x3 G3 L3) oX)
    else (hD d 267 165 [.ref 156, .int v1, .null, .null, .int v4, .int y1] 342 R x (sm_up G (R 156 51) v1.toNatClampNeg (y2 + (i3 1))) L)))))
  else (sm_aI (sm_cv0 d 269 342 R [.ref 156, .int v1] (x, G, L)) (fun a4 x4 G4 L4 =>
      if a4 = (i3 0) then
        (oV x4 G4 L4)
      else (if v4 = (i3 3) then
          (if y1 = (i3 0) then
            (gd (Nat.ble 24 (sm_K (R 156 26)) && Nat.ble (sm_K (R 156 26)) 27 && Nat.ble (R 156 26) 342) (gd (sm_in v1 (sm_N (R 156 26))) (ldi (R (R 156 26) v1.toNatClampNeg) (v3 + (i3 4)) G4 (fun y5 => gd (sm_is (R 156 51) 342 20) (gd (sm_in v1 (sm_N (R 156 51))) (hD d 267 27 [.ref 156, .int v1, .null, .null, .null, .null] 342 R x4 (sm_up G4 (R 156 51) v1.toNatClampNeg y5) L4))))))
          else (gd (Nat.ble 24 (sm_K (R 156 26)) && Nat.ble (sm_K (R 156 26)) 27 && Nat.ble (R 156 26) 342) (gd (sm_in v1 (sm_N (R 156 26))) (ldi (R (R 156 26) v1.toNatClampNeg) (v3 + (i3 3)) G4 (fun y6 => sm_aV (sm_cv0 d 273 342 R [.ref 156, .int v1, .int v2, .int (v2 + (i3 1)), .int y6, .int y1] (x4, G4, L4)) (fun x7 G7 L7 =>
              hD d 267 27 [.ref 156, .int v1, .null, .null, .null, .null] 342 R x7 G7 L7) oX)))))
        else (if v4 = (i3 4) then
            (gd (Nat.ble 24 (sm_K (R 156 26)) && Nat.ble (sm_K (R 156 26)) 27 && Nat.ble (R 156 26) 342) (gd (sm_in v1 (sm_N (R 156 26))) (ldi (R (R 156 26) v1.toNatClampNeg) (v3 + (i3 2)) G4 (fun y8 => sm_aI (sm_cv0 d 274 342 R [.ref 156, .int v1, .int y8] (x4, G4, L4)) (fun a9 x9 G9 L9 =>
              if a9 = (i3 0) then
                (gd (Nat.ble 24 (sm_K (R 156 26)) && Nat.ble (sm_K (R 156 26)) 27 && Nat.ble (R 156 26) 342) (gd (sm_in v1 (sm_N (R 156 26))) (ldi (R (R 156 26) v1.toNatClampNeg) (v3 + (i3 3)) G9 (fun y10 => sm_aV (sm_cv0 d 273 342 R [.ref 156, .int v1, .int v2, .int (v2 + (i3 1)), .int y10, .int (i3 0)] (x9, G9, L9)) (fun x11 G11 L11 =>
                  hD d 267 27 [.ref 156, .int v1, .null, .null, .null, .null] 342 R x11 G11 L11) oX))))
              else (gd (Nat.ble 24 (sm_K (R 156 26)) && Nat.ble (sm_K (R 156 26)) 27 && Nat.ble (R 156 26) 342) (gd (sm_in v1 (sm_N (R 156 26))) (ldi (R (R 156 26) v1.toNatClampNeg) (v3 + (i3 4)) G9 (fun y12 => gd (sm_is (R 156 51) 342 20) (gd (sm_in v1 (sm_N (R 156 51))) (hD d 267 27 [.ref 156, .int v1, .null, .null, .null, .null] 342 R x9 (sm_up G9 (R 156 51) v1.toNatClampNeg y12) L9))))))) oX))))
          else (gd (Nat.ble 24 (sm_K (R 156 26)) && Nat.ble (sm_K (R 156 26)) 27 && Nat.ble (R 156 26) 342) (gd (sm_in v1 (sm_N (R 156 26))) (ldi (R (R 156 26) v1.toNatClampNeg) (v3 + (i3 2)) G4 (fun y13 => sm_aI (sm_cv0 d 274 342 R [.ref 156, .int v1, .int y13] (x4, G4, L4)) (fun a14 x14 G14 L14 =>
              if a14 = (i3 0) then
                (gd (Nat.ble 24 (sm_K (R 156 26)) && Nat.ble (sm_K (R 156 26)) 27 && Nat.ble (R 156 26) 342) (gd (sm_in v1 (sm_N (R 156 26))) (ldi (R (R 156 26) v1.toNatClampNeg) (v3 + (i3 3)) G14 (fun y15 => gd (Nat.ble 24 (sm_K (R 156 26)) && Nat.ble (sm_K (R 156 26)) 27 && Nat.ble (R 156 26) 342) (gd (sm_in v1 (sm_N (R 156 26))) (ldi (R (R 156 26) v1.toNatClampNeg) (v3 + (i3 4)) G14 (fun y16 => sm_aV (sm_cv0 d 273 342 R [.ref 156, .int v1, .int v2, .int y15, .int y16, .int (i3 0)] (x14, G14, L14)) (fun x17 G17 L17 =>
                  hD d 267 27 [.ref 156, .int v1, .null, .null, .null, .null] 342 R x17 G17 L17) oX)))))))
              else (gd (Nat.ble 24 (sm_K (R 156 26)) && Nat.ble (sm_K (R 156 26)) 27 && Nat.ble (R 156 26) 342) (gd (sm_in v1 (sm_N (R 156 26))) (ldi (R (R 156 26) v1.toNatClampNeg) (v3 + (i3 3)) G14 (fun y18 => sm_aV (sm_cv0 d 273 342 R [.ref 156, .int v1, .int v2, .int (v2 + (i3 1)), .int y18, .int (i3 0)] (x14, G14, L14)) (fun x19 G19 L19 =>
                  hD d 267 27 [.ref 156, .int v1, .null, .null, .null, .null] 342 R x19 G19 L19) oX))))) oX))))))) oX)))) := hD_eq.trans rfl
set_option maxRecDepth 20000 in
theorem h_267_125 {d x : Nat} {V : pV} {G : sm_G} {L : sm_L} {v1 v2 v3 v4 : Int32} : hD d 267 125 [.ref 156, .int v1, .int v2, .int v3, .int v4, .null] 342 (RR V) x G L =
  gd (sm_in v1 4) (ldi (RR V 242 v1.toNatClampNeg) (v3 + (i3 1)) G (fun y1 => if v4 < (i3 3) then
    (gd (sm_in v1 4) (gd (sm_in v1 4) (if v4 = (i3 0) then
      (sm_aV (sm_cv0 d 270 342 (RR V) [.ref 156, .int v1, .int y1] (x, sm_up G 326 v1.toNatClampNeg ((G 326 v1.toNatClampNeg) + (i3 1)), L)) (fun x3 G3 L3 =>
        hD d 267 165 [.ref 156, .int v1, .null, .null, .int v4, .int y1] 342 (RR V) x3 G3 L3) oX)
    else (hD d 267 165 [.ref 156, .int v1, .null, .null, .int v4, .int y1] 342 (RR V) x (sm_up G 326 v1.toNatClampNeg ((G 326 v1.toNatClampNeg) + (i3 1))) L))))
  else (sm_aI (sm_cv0 d 269 342 (RR V) [.ref 156, .int v1] (x, G, L)) (fun a4 x4 G4 L4 =>
      if a4 = (i3 0) then
        (oV x4 G4 L4)
      else (if v4 = (i3 3) then
          (if y1 = (i3 0) then
            (gd (sm_in v1 4) (ldi (RR V 242 v1.toNatClampNeg) (v3 + (i3 4)) G4 (fun y5 => gd (sm_in v1 4) (hD d 267 27 [.ref 156, .int v1, .null, .null, .null, .null] 342 (RR V) x4 (sm_up G4 326 v1.toNatClampNeg y5) L4))))
          else (gd (sm_in v1 4) (ldi (RR V 242 v1.toNatClampNeg) (v3 + (i3 3)) G4 (fun y6 => sm_aV (sm_cv0 d 273 342 (RR V) [.ref 156, .int v1, .int v2, .int (v2 + (i3 1)), .int y6, .int y1] (x4, G4, L4)) (fun x7 G7 L7 =>
              hD d 267 27 [.ref 156, .int v1, .null, .null, .null, .null] 342 (RR V) x7 G7 L7) oX))))
        else (if v4 = (i3 4) then
            (gd (sm_in v1 4) (ldi (RR V 242 v1.toNatClampNeg) (v3 + (i3 2)) G4 (fun y8 => sm_aI (sm_cv0 d 274 342 (RR V) [.ref 156, .int v1, .int y8] (x4, G4, L4)) (fun a9 x9 G9 L9 =>
              if a9 = (i3 0) then
                (gd (sm_in v1 4) (ldi (RR V 242 v1.toNatClampNeg) (v3 + (i3 3)) G9 (fun y10 => sm_aV (sm_cv0 d 273 342 (RR V) [.ref 156, .int v1, .int v2, .int (v2 + (i3 1)), .int y10, .int (i3 0)] (x9, G9, L9)) (fun x11 G11 L11 =>
                  hD d 267 27 [.ref 156, .int v1, .null, .null, .null, .null] 342 (RR V) x11 G11 L11) oX)))
              else (gd (sm_in v1 4) (ldi (RR V 242 v1.toNatClampNeg) (v3 + (i3 4)) G9 (fun y12 => gd (sm_in v1 4) (hD d 267 27 [.ref 156, .int v1, .null, .null, .null, .null] 342 (RR V) x9 (sm_up G9 326 v1.toNatClampNeg y12) L9))))) oX)))
          else (gd (sm_in v1 4) (ldi (RR V 242 v1.toNatClampNeg) (v3 + (i3 2)) G4 (fun y13 => sm_aI (sm_cv0 d 274 342 (RR V) [.ref 156, .int v1, .int y13] (x4, G4, L4)) (fun a14 x14 G14 L14 =>
              if a14 = (i3 0) then
                (gd (sm_in v1 4) (ldi (RR V 242 v1.toNatClampNeg) (v3 + (i3 3)) G14 (fun y15 => gd (sm_in v1 4) (ldi (RR V 242 v1.toNatClampNeg) (v3 + (i3 4)) G14 (fun y16 => sm_aV (sm_cv0 d 273 342 (RR V) [.ref 156, .int v1, .int v2, .int y15, .int y16, .int (i3 0)] (x14, G14, L14)) (fun x17 G17 L17 =>
                  hD d 267 27 [.ref 156, .int v1, .null, .null, .null, .null] 342 (RR V) x17 G17 L17) oX)))))
              else (gd (sm_in v1 4) (ldi (RR V 242 v1.toNatClampNeg) (v3 + (i3 3)) G14 (fun y18 => sm_aV (sm_cv0 d 273 342 (RR V) [.ref 156, .int v1, .int v2, .int (v2 + (i3 1)), .int y18, .int (i3 0)] (x14, G14, L14)) (fun x19 G19 L19 =>
                  hD d 267 27 [.ref 156, .int v1, .null, .null, .null, .null] 342 (RR V) x19 G19 L19) oX)))) oX)))))) oX))) := by
  rw [rh_267_125]
  try simp only [gd_tt, (q_156_26 V), (q_156_51 V), a_242, k_156, k_326, ldi_e k_326 n_326, n_242, n_326]
set_option maxRecDepth 20000 in
theorem rh_267_165 {d x : Nat} {R : sm_R} {G : sm_G} {L : sm_L} {v1 v4 v5 : Int32} : hD d 267 165 [.ref 156, .int v1, .null, .null, .int v4, .int v5] 342 R x G L =
  if v4 = (i3 1) then
    (gd (sm_is (R 156 53) 342 20) (gd (sm_in v1 (sm_N (R 156 53))) (if v4 = (i3 2) then
      (sm_aV (sm_cv0 d 272 342 R [.ref 156, .int v1, .int v5] (x, sm_up G (R 156 53) v1.toNatClampNeg (v5 - (i3 1)), L)) (fun x1 G1 L1 =>
        oV x1 G1 L1) oX)
    else (oV x (sm_up G (R 156 53) v1.toNatClampNeg (v5 - (i3 1))) L))))
  else (if v4 = (i3 2) then
      (sm_aV (sm_cv0 d 272 342 R [.ref 156, .int v1, .int v5] (x, G, L)) (fun x2 G2 L2 =>
        oV x2 G2 L2) oX)
    else (oV x G L)) := hD_eq.trans rfl
set_option maxRecDepth 20000 in
theorem h_267_165 {d x : Nat} {V : pV} {G : sm_G} {L : sm_L} {v1 v4 v5 : Int32} : hD d 267 165 [.ref 156, .int v1, .null, .null, .int v4, .int v5] 342 (RR V) x G L =
  if v4 = (i3 1) then
    (gd (sm_in v1 4) (if v4 = (i3 2) then
      (sm_aV (sm_cv0 d 272 342 (RR V) [.ref 156, .int v1, .int v5] (x, sm_up G 328 v1.toNatClampNeg (v5 - (i3 1)), L)) (fun x1 G1 L1 =>
        oV x1 G1 L1) oX)
    else (oV x (sm_up G 328 v1.toNatClampNeg (v5 - (i3 1))) L)))
  else (if v4 = (i3 2) then
      (sm_aV (sm_cv0 d 272 342 (RR V) [.ref 156, .int v1, .int v5] (x, G, L)) (fun x2 G2 L2 =>
        oV x2 G2 L2) oX)
    else (oV x G L)) := by
  rw [rh_267_165]
  try simp only [gd_tt, (q_156_53 V), k_156, k_328, n_328]
/-! M_endsBlock -/
set_option maxRecDepth 20000 in
theorem rm_268 {d x : Nat} {R : sm_R} {G : sm_G} {L : sm_L} {v1 : Int32} : sm_cv0 (d + 1) 268 342 R [.ref 156, .int v1] (x, G, L) =
  ldi (R 156 52) v1 G (fun y1 => gd (Nat.ble 24 (sm_K (R 156 48)) && Nat.ble (sm_K (R 156 48)) 27 && Nat.ble (R 156 48) 342) (gd (sm_in v1 (sm_N (R 156 48))) (ldi (R (R 156 48) v1.toNatClampNeg) ((i3 4) * (y1 - (i3 1))) G (fun y2 => gd (Nat.ble 24 (sm_K (R 156 26)) && Nat.ble (sm_K (R 156 26)) 27 && Nat.ble (R 156 26) 342) (gd (sm_in v1 (sm_N (R 156 26))) (ldi (R (R 156 26) v1.toNatClampNeg) ((i3 5) * y2) G (fun y3 => hD d 268 32 [.ref 156, .int v1, .int ((i3 4) * (y1 - (i3 1))), .int y2, .int y3] 342 R x G L))))))) := (cv_eq rfl rfl).trans (hD_eq.trans rfl)
set_option maxRecDepth 20000 in
theorem m_268 {d x : Nat} {V : pV} {G : sm_G} {L : sm_L} {v1 : Int32} : sm_cv0 (d + 1) 268 342 (RR V) [.ref 156, .int v1] (x, G, L) =
  gd (sm_in v1 4) (gd (sm_in v1 4) (ldi (RR V 319 v1.toNatClampNeg) ((i3 4) * ((G 327 v1.toNatClampNeg) - (i3 1))) G (fun y2 => gd (sm_in v1 4) (ldi (RR V 242 v1.toNatClampNeg) ((i3 5) * y2) G (fun y3 => hD d 268 32 [.ref 156, .int v1, .int ((i3 4) * ((G 327 v1.toNatClampNeg) - (i3 1))), .int y2, .int y3] 342 (RR V) x G L))))) := by
  rw [rm_268]
  try simp only [gd_tt, (q_156_26 V), (q_156_48 V), (q_156_52 V), a_242, a_319, k_156, ldi_e k_327 n_327, n_242, n_319, n_327]
set_option maxRecDepth 20000 in
theorem rh_268_32 {d x : Nat} {R : sm_R} {G : sm_G} {L : sm_L} {v1 v2 v3 v4 : Int32} : hD d 268 32 [.ref 156, .int v1, .int v2, .int v3, .int v4] 342 R x G L =
  if v4 = (i3 3) then
    (sm_aI (sm_cv0 d 269 342 R [.ref 156, .int v1] (x, G, L)) (fun a1 x1 G1 L1 =>
      if a1 = (i3 0) then
        (oV x1 G1 L1)
      else (gd (Nat.ble 24 (sm_K (R 156 48)) && Nat.ble (sm_K (R 156 48)) 27 && Nat.ble (R 156 48) 342) (gd (sm_in v1 (sm_N (R 156 48))) (ldi (R (R 156 48) v1.toNatClampNeg) (v2 + (i3 3)) G1 (fun y2 => gd (sm_is (R (R 156 48) v1.toNatClampNeg) 342 20) (gd (sm_in (v2 + (i3 3)) (sm_N (R (R 156 48) v1.toNatClampNeg))) (gd (Nat.ble 24 (sm_K (R 156 48)) && Nat.ble (sm_K (R 156 48)) 27 && Nat.ble (R 156 48) 342) (gd (sm_in v1 (sm_N (R 156 48))) (ldi (R (R 156 48) v1.toNatClampNeg) (v2 + (i3 3)) (sm_up G1 (R (R 156 48) v1.toNatClampNeg) ((v2 + (i3 3)).toNatClampNeg) (y2 - (i3 1))) (fun y3 => if y3 ≤ (i3 0) then
          (hD d 268 91 [.ref 156, .int v1, .null, .int v3, .int v4] 342 R x1 (sm_up G1 (R (R 156 48) v1.toNatClampNeg) ((v2 + (i3 3)).toNatClampNeg) (y2 - (i3 1))) L1)
        else (gd (Nat.ble 24 (sm_K (R 156 48)) && Nat.ble (sm_K (R 156 48)) 27 && Nat.ble (R 156 48) 342) (gd (sm_in v1 (sm_N (R 156 48))) (ldi (R (R 156 48) v1.toNatClampNeg) (v2 + (i3 1)) (sm_up G1 (R (R 156 48) v1.toNatClampNeg) ((v2 + (i3 3)).toNatClampNeg) (y2 - (i3 1))) (fun y4 => gd (sm_is (R 156 51) 342 20) (gd (sm_in v1 (sm_N (R 156 51))) (oV x1 (sm_up (sm_up G1 (R (R 156 48) v1.toNatClampNeg) ((v2 + (i3 3)).toNatClampNeg) (y2 - (i3 1))) (R 156 51) v1.toNatClampNeg y4) L1)))))))))))))))) oX)
  else (hD d 268 91 [.ref 156, .int v1, .null, .int v3, .int v4] 342 R x G L) := hD_eq.trans rfl
set_option maxRecDepth 20000 in
theorem h_268_32 {d x : Nat} {V : pV} {G : sm_G} {L : sm_L} {v1 v2 v3 v4 : Int32} : hD d 268 32 [.ref 156, .int v1, .int v2, .int v3, .int v4] 342 (RR V) x G L =
  if v4 = (i3 3) then
    (sm_aI (sm_cv0 d 269 342 (RR V) [.ref 156, .int v1] (x, G, L)) (fun a1 x1 G1 L1 =>
      if a1 = (i3 0) then
        (oV x1 G1 L1)
      else (gd (sm_in v1 4) (ldi (RR V 319 v1.toNatClampNeg) (v2 + (i3 3)) G1 (fun y2 => gd (sm_is (RR V 319 v1.toNatClampNeg) 342 20) (gd (sm_in (v2 + (i3 3)) (sm_N (RR V 319 v1.toNatClampNeg))) (gd (sm_in v1 4) (ldi (RR V 319 v1.toNatClampNeg) (v2 + (i3 3)) (sm_up G1 (RR V 319 v1.toNatClampNeg) ((v2 + (i3 3)).toNatClampNeg) (y2 - (i3 1))) (fun y3 => if y3 ≤ (i3 0) then
          (hD d 268 91 [.ref 156, .int v1, .null, .int v3, .int v4] 342 (RR V) x1 (sm_up G1 (RR V 319 v1.toNatClampNeg) ((v2 + (i3 3)).toNatClampNeg) (y2 - (i3 1))) L1)
        else (gd (sm_in v1 4) (ldi (RR V 319 v1.toNatClampNeg) (v2 + (i3 1)) (sm_up G1 (RR V 319 v1.toNatClampNeg) ((v2 + (i3 3)).toNatClampNeg) (y2 - (i3 1))) (fun y4 => gd (sm_in v1 4) (oV x1 (sm_up (sm_up G1 (RR V 319 v1.toNatClampNeg) ((v2 + (i3 3)).toNatClampNeg) (y2 - (i3 1))) 326 v1.toNatClampNeg y4) L1)))))))))))) oX)
  else (hD d 268 91 [.ref 156, .int v1, .null, .int v3, .int v4] 342 (RR V) x G L) := by
  rw [rh_268_32]
  try simp only [gd_tt, (q_156_48 V), (q_156_51 V), a_319, k_156, k_326, n_319, n_326]
set_option maxRecDepth 20000 in
theorem rh_268_91 {d x : Nat} {R : sm_R} {G : sm_G} {L : sm_L} {v1 v3 v4 : Int32} : hD d 268 91 [.ref 156, .int v1, .null, .int v3, .int v4] 342 R x G L =
  ldi (R 156 52) v1 G (fun y1 => gd (sm_is (R 156 52) 342 20) (gd (sm_in v1 (sm_N (R 156 52))) (if v4 = (i3 4) then
    (gd (sm_is (R 156 51) 342 20) (gd (sm_in v1 (sm_N (R 156 51))) (oV x (sm_up (sm_up G (R 156 52) v1.toNatClampNeg (y1 - (i3 1))) (R 156 51) v1.toNatClampNeg v3) L)))
  else (gd (Nat.ble 24 (sm_K (R 156 26)) && Nat.ble (sm_K (R 156 26)) 27 && Nat.ble (R 156 26) 342) (gd (sm_in v1 (sm_N (R 156 26))) (ldi (R (R 156 26) v1.toNatClampNeg) (((i3 5) * v3) + (i3 4)) (sm_up G (R 156 52) v1.toNatClampNeg (y1 - (i3 1))) (fun y2 => gd (sm_is (R 156 51) 342 20) (gd (sm_in v1 (sm_N (R 156 51))) (oV x (sm_up (sm_up G (R 156 52) v1.toNatClampNeg (y1 - (i3 1))) (R 156 51) v1.toNatClampNeg y2) L))))))))) := hD_eq.trans rfl
set_option maxRecDepth 20000 in
theorem h_268_91 {d x : Nat} {V : pV} {G : sm_G} {L : sm_L} {v1 v3 v4 : Int32} : hD d 268 91 [.ref 156, .int v1, .null, .int v3, .int v4] 342 (RR V) x G L =
  gd (sm_in v1 4) (gd (sm_in v1 4) (if v4 = (i3 4) then
    (gd (sm_in v1 4) (oV x (sm_up (sm_up G 327 v1.toNatClampNeg ((G 327 v1.toNatClampNeg) - (i3 1))) 326 v1.toNatClampNeg v3) L))
  else (gd (sm_in v1 4) (ldi (RR V 242 v1.toNatClampNeg) (((i3 5) * v3) + (i3 4)) (sm_up G 327 v1.toNatClampNeg ((G 327 v1.toNatClampNeg) - (i3 1))) (fun y2 => gd (sm_in v1 4) (oV x (sm_up (sm_up G 327 v1.toNatClampNeg ((G 327 v1.toNatClampNeg) - (i3 1))) 326 v1.toNatClampNeg y2) L)))))) := by
  rw [rh_268_91]
  try simp only [gd_tt, (q_156_26 V), (q_156_51 V), (q_156_52 V), a_242, k_156, k_326, k_327, ldi_e k_327 n_327, n_242, n_326, n_327]
/-! M_turnsOn -/
set_option maxRecDepth 20000 in
theorem rm_269 {d x : Nat} {R : sm_R} {G : sm_G} {L : sm_L} {v1 : Int32} : sm_cv0 (d + 1) 269 342 R [.ref 156, .int v1] (x, G, L) =
  ldi (R 156 54) v1 G (fun y1 => if y1 = (i3 60) then
    (bst (R 156 55) v1 (i3 1) G (fun g2 => gd (Nat.ble 24 (sm_K (R 156 47)) && Nat.ble (sm_K (R 156 47)) 27 && Nat.ble (R 156 47) 342) (gd (sm_in v1 (sm_N (R 156 47))) (gd (sm_is (R (R 156 47) v1.toNatClampNeg) 342 20) (gd (sm_in (i3 5) (sm_N (R (R 156 47) v1.toNatClampNeg))) (oI (i3 0) x (sm_up g2 (R (R 156 47) v1.toNatClampNeg) 5 (i3 1)) L))))))
  else (ldi (R 156 54) v1 G (fun y3 => gd (sm_is (R 156 54) 342 20) (gd (sm_in v1 (sm_N (R 156 54))) (oI (i3 1) x (sm_up G (R 156 54) v1.toNatClampNeg (y3 + (i3 1))) L))))) := (cv_eq rfl rfl).trans (hD_eq.trans rfl)
set_option maxRecDepth 20000 in
theorem m_269 {d x : Nat} {V : pV} {G : sm_G} {L : sm_L} {v1 : Int32} : sm_cv0 (d + 1) 269 342 (RR V) [.ref 156, .int v1] (x, G, L) =
  gd (sm_in v1 4) (if (G 329 v1.toNatClampNeg) = (i3 60) then
    (gd (sm_in v1 4) (gd (sm_in v1 4) (gd (sm_is (RR V 314 v1.toNatClampNeg) 342 20) (gd (sm_in (i3 5) (sm_N (RR V 314 v1.toNatClampNeg))) (oI (i3 0) x (sm_up (sm_up G 330 v1.toNatClampNeg (i3 1)) (RR V 314 v1.toNatClampNeg) 5 (i3 1)) L)))))
  else (gd (sm_in v1 4) (gd (sm_in v1 4) (oI (i3 1) x (sm_up G 329 v1.toNatClampNeg ((G 329 v1.toNatClampNeg) + (i3 1))) L)))) := by
  rw [rm_269]
  try simp only [gd_tt, (q_156_47 V), (q_156_54 V), (q_156_55 V), a_314, bst22_e k_330 n_330, k_156, k_329, ldi_e k_329 n_329, n_314, n_329, n_330, zd_0, zd_1]
/-! M_goesTo -/
set_option maxRecDepth 20000 in
theorem rm_270 {d x : Nat} {R : sm_R} {G : sm_G} {L : sm_L} {v1 v2 : Int32} : sm_cv0 (d + 1) 270 342 R [.ref 156, .int v1, .int v2] (x, G, L) =
  hD d 270 5 [.ref 156, .int v1, .int v2, .int (i3 0), .int (i3 0)] 342 R x G L := (cv_eq rfl rfl).trans (hD_eq.trans rfl)
theorem m_270 {d x : Nat} {V : pV} {G : sm_G} {L : sm_L} {v1 v2 : Int32} : sm_cv0 (d + 1) 270 342 (RR V) [.ref 156, .int v1, .int v2] (x, G, L) =
  hD d 270 5 [.ref 156, .int v1, .int v2, .int (i3 0), .int (i3 0)] 342 (RR V) x G L := rm_270
set_option maxRecDepth 20000 in
theorem rh_270_5 {d x : Nat} {R : sm_R} {G : sm_G} {L : sm_L} {v1 v2 v3 v4 : Int32} : hD d 270 5 [.ref 156, .int v1, .int v2, .int v3, .int v4] 342 R x G L =
  ldi (R 156 12) (i3 1) G (fun y1 => if v4 < y1 then
    (if v3 = (i3 0) then
      (if ((shr (G 156 56) v4) &&& (i3 1)) = (i3 1) then
        (ldi (R 156 50) v1 G (fun y2 => sm_aI (sm_cv0 d 271 342 R [.ref 156, .int v4, .int y2, .int v2] (x, G, L)) (fun a3 x3 G3 L3 =>
          if a3 = (i3 0) then
            (hD d 270 5 [.ref 156, .int v1, .int v2, .int (i3 0), .int (v4 + (i3 1))] 342 R x3 G3 L3)
          else (hD d 270 5 [.ref 156, .int v1, .int v2, .int (i3 1), .int (v4 + (i3 1))] 342 R x3 G3 L3)) oX))
      else (hD d 270 5 [.ref 156, .int v1, .int v2, .int (i3 0), .int (v4 + (i3 1))] 342 R x G L))
    else (hD d 270 5 [.ref 156, .int v1, .int v2, .int (i3 1), .int (v4 + (i3 1))] 342 R x G L))
  else (if v3 = (i3 0) then
      (hD d 270 88 [.ref 156, .int v1, .int v2, .int (i3 0), .null] 342 R x G L)
    else (ldi (R 156 44) (G 156 57) G (fun y4 => if ((shr y4 v2) &&& (i3 1)) = (i3 1) then
        (hD d 270 88 [.ref 156, .int v1, .int v2, .int (i3 1), .null] 342 R x G L)
      else (hD d 270 88 [.ref 156, .int v1, .int v2, .int (i3 0), .null] 342 R x G L))))) := hD_eq.trans rfl
set_option maxRecDepth 20000 in
theorem h_270_5 {d x : Nat} {V : pV} {G : sm_G} {L : sm_L} {v1 v2 v3 v4 : Int32} : hD d 270 5 [.ref 156, .int v1, .int v2, .int v3, .int v4] 342 (RR V) x G L =
  if v4 < (G 160 1) then
    (if v3 = (i3 0) then
      (if ((shr (G 156 56) v4) &&& (i3 1)) = (i3 1) then
        (gd (sm_in v1 4) (sm_aI (sm_cv0 d 271 342 (RR V) [.ref 156, .int v4, .int (G 325 v1.toNatClampNeg), .int v2] (x, G, L)) (fun a3 x3 G3 L3 =>
          if a3 = (i3 0) then
            (hD d 270 5 [.ref 156, .int v1, .int v2, .int (i3 0), .int (v4 + (i3 1))] 342 (RR V) x3 G3 L3)
          else (hD d 270 5 [.ref 156, .int v1, .int v2, .int (i3 1), .int (v4 + (i3 1))] 342 (RR V) x3 G3 L3)) oX))
      else (hD d 270 5 [.ref 156, .int v1, .int v2, .int (i3 0), .int (v4 + (i3 1))] 342 (RR V) x G L))
    else (hD d 270 5 [.ref 156, .int v1, .int v2, .int (i3 1), .int (v4 + (i3 1))] 342 (RR V) x G L))
  else (if v3 = (i3 0) then
      (hD d 270 88 [.ref 156, .int v1, .int v2, .int (i3 0), .null] 342 (RR V) x G L)
    else (gd (sm_in (G 156 57) 301) (if ((shr (G 307 ((G 156 57).toNatClampNeg)) v2) &&& (i3 1)) = (i3 1) then
        (hD d 270 88 [.ref 156, .int v1, .int v2, .int (i3 1), .null] 342 (RR V) x G L)
      else (hD d 270 88 [.ref 156, .int v1, .int v2, .int (i3 0), .null] 342 (RR V) x G L)))) := by
  rw [rh_270_5]
  try simp only [gd_tt, (q_156_12 V), (q_156_44 V), (q_156_50 V), cl_1, inl_1_6, k_156, ldi_e k_160 n_160, ldi_e k_307 n_307, ldi_e k_325 n_325, n_160, n_307, n_325]
set_option maxRecDepth 20000 in
theorem rh_270_88 {d x : Nat} {R : sm_R} {G : sm_G} {L : sm_L} {v1 v2 v3 : Int32} : hD d 270 88 [.ref 156, .int v1, .int v2, .int v3, .null] 342 R x G L =
  gd (Nat.ble 24 (sm_K (R 156 47)) && Nat.ble (sm_K (R 156 47)) 27 && Nat.ble (R 156 47) 342) (gd (sm_in v1 (sm_N (R 156 47))) (if v3 = (i3 0) then
    (ldi (R (R 156 47) v1.toNatClampNeg) (i3 2) G (fun y1 => gd (sm_is (R (R 156 47) v1.toNatClampNeg) 342 20) (gd (sm_in (i3 2) (sm_N (R (R 156 47) v1.toNatClampNeg))) (hD d 270 108 [.ref 156, .int v1, .int v2, .int v3, .null] 342 R x (sm_up G (R (R 156 47) v1.toNatClampNeg) 2 (y1 + (i3 1))) L))))
  else (ldi (R (R 156 47) v1.toNatClampNeg) (i3 1) G (fun y2 => gd (sm_is (R (R 156 47) v1.toNatClampNeg) 342 20) (gd (sm_in (i3 1) (sm_N (R (R 156 47) v1.toNatClampNeg))) (hD d 270 108 [.ref 156, .int v1, .int v2, .int v3, .null] 342 R x (sm_up G (R (R 156 47) v1.toNatClampNeg) 1 (y2 + (i3 1))) L)))))) := hD_eq.trans rfl
set_option maxRecDepth 20000 in
theorem h_270_88 {d x : Nat} {V : pV} {G : sm_G} {L : sm_L} {v1 v2 v3 : Int32} : hD d 270 88 [.ref 156, .int v1, .int v2, .int v3, .null] 342 (RR V) x G L =
  gd (sm_in v1 4) (if v3 = (i3 0) then
    (ldi (RR V 314 v1.toNatClampNeg) (i3 2) G (fun y1 => gd (sm_is (RR V 314 v1.toNatClampNeg) 342 20) (gd (sm_in (i3 2) (sm_N (RR V 314 v1.toNatClampNeg))) (hD d 270 108 [.ref 156, .int v1, .int v2, .int v3, .null] 342 (RR V) x (sm_up G (RR V 314 v1.toNatClampNeg) 2 (y1 + (i3 1))) L))))
  else (ldi (RR V 314 v1.toNatClampNeg) (i3 1) G (fun y2 => gd (sm_is (RR V 314 v1.toNatClampNeg) 342 20) (gd (sm_in (i3 1) (sm_N (RR V 314 v1.toNatClampNeg))) (hD d 270 108 [.ref 156, .int v1, .int v2, .int v3, .null] 342 (RR V) x (sm_up G (RR V 314 v1.toNatClampNeg) 1 (y2 + (i3 1))) L))))) := by
  rw [rh_270_88]
  try simp only [gd_tt, (q_156_47 V), a_314, k_156, n_314]
set_option maxRecDepth 20000 in
theorem rh_270_108 {d x : Nat} {R : sm_R} {G : sm_G} {L : sm_L} {v1 v2 v3 : Int32} : hD d 270 108 [.ref 156, .int v1, .int v2, .int v3, .null] 342 R x G L =
  if v3 = (i3 0) then
    (ldi (R 156 50) v1 G (fun y1 => gd (sm_is (R 156 50) 342 20) (gd (sm_in v1 (sm_N (R 156 50))) (oV x (sm_up G (R 156 50) v1.toNatClampNeg y1) L))))
  else (gd (sm_is (R 156 50) 342 20) (gd (sm_in v1 (sm_N (R 156 50))) (oV x (sm_up G (R 156 50) v1.toNatClampNeg v2) L))) := hD_eq.trans rfl
set_option maxRecDepth 20000 in
theorem h_270_108 {d x : Nat} {V : pV} {G : sm_G} {L : sm_L} {v1 v2 v3 : Int32} : hD d 270 108 [.ref 156, .int v1, .int v2, .int v3, .null] 342 (RR V) x G L =
  if v3 = (i3 0) then
    (gd (sm_in v1 4) (gd (sm_in v1 4) (oV x (sm_up G 325 v1.toNatClampNeg (G 325 v1.toNatClampNeg)) L)))
  else (gd (sm_in v1 4) (oV x (sm_up G 325 v1.toNatClampNeg v2) L)) := by
  rw [rh_270_108]
  try simp only [gd_tt, (q_156_50 V), k_156, k_325, ldi_e k_325 n_325, n_325]
/-! M_isBetween -/
set_option maxRecDepth 20000 in
theorem rm_271 {d x : Nat} {R : sm_R} {G : sm_G} {L : sm_L} {v1 v2 v3 : Int32} : sm_cv0 (d + 1) 271 342 R [.ref 156, .int v1, .int v2, .int v3] (x, G, L) =
  gd (Nat.ble 24 (sm_K (R 156 20)) && Nat.ble (sm_K (R 156 20)) 27 && Nat.ble (R 156 20) 342) (gd (sm_in v1 (sm_N (R 156 20))) (ldi (R (R 156 20) v1.toNatClampNeg) (i3 0) G (fun y1 => if y1 = v2 then
    (gd (Nat.ble 24 (sm_K (R 156 20)) && Nat.ble (sm_K (R 156 20)) 27 && Nat.ble (R 156 20) 342) (gd (sm_in v1 (sm_N (R 156 20))) (ldi (R (R 156 20) v1.toNatClampNeg) (i3 1) G (fun y2 => if y2 = v3 then
      (oI (i3 1) x G L)
    else (hD d 271 24 [.ref 156, .int v1, .int v2, .int v3] 342 R x G L)))))
  else (hD d 271 24 [.ref 156, .int v1, .int v2, .int v3] 342 R x G L)))) := (cv_eq rfl rfl).trans (hD_eq.trans rfl)
set_option maxRecDepth 20000 in
theorem m_271 {d x : Nat} {V : pV} {G : sm_G} {L : sm_L} {v1 v2 v3 : Int32} : sm_cv0 (d + 1) 271 342 (RR V) [.ref 156, .int v1, .int v2, .int v3] (x, G, L) =
  gd (sm_in v1 10) (ldi (RR V 194 v1.toNatClampNeg) (i3 0) G (fun y1 => if y1 = v2 then
    (gd (sm_in v1 10) (ldi (RR V 194 v1.toNatClampNeg) (i3 1) G (fun y2 => if y2 = v3 then
      (oI (i3 1) x G L)
    else (hD d 271 24 [.ref 156, .int v1, .int v2, .int v3] 342 (RR V) x G L))))
  else (hD d 271 24 [.ref 156, .int v1, .int v2, .int v3] 342 (RR V) x G L))) := by
  rw [rm_271]
  try simp only [gd_tt, (q_156_20 V), a_194, k_156, n_194]
set_option maxRecDepth 20000 in
theorem rh_271_24 {d x : Nat} {R : sm_R} {G : sm_G} {L : sm_L} {v1 v2 v3 : Int32} : hD d 271 24 [.ref 156, .int v1, .int v2, .int v3] 342 R x G L =
  gd (Nat.ble 24 (sm_K (R 156 20)) && Nat.ble (sm_K (R 156 20)) 27 && Nat.ble (R 156 20) 342) (gd (sm_in v1 (sm_N (R 156 20))) (ldi (R (R 156 20) v1.toNatClampNeg) (i3 0) G (fun y1 => if y1 = v3 then
    (gd (Nat.ble 24 (sm_K (R 156 20)) && Nat.ble (sm_K (R 156 20)) 27 && Nat.ble (R 156 20) 342) (gd (sm_in v1 (sm_N (R 156 20))) (ldi (R (R 156 20) v1.toNatClampNeg) (i3 1) G (fun y2 => if y2 = v2 then
      (oI (i3 1) x G L)
    else (oI (i3 0) x G L)))))
  else (oI (i3 0) x G L)))) := hD_eq.trans rfl
set_option maxRecDepth 20000 in
theorem h_271_24 {d x : Nat} {V : pV} {G : sm_G} {L : sm_L} {v1 v2 v3 : Int32} : hD d 271 24 [.ref 156, .int v1, .int v2, .int v3] 342 (RR V) x G L =
  gd (sm_in v1 10) (ldi (RR V 194 v1.toNatClampNeg) (i3 0) G (fun y1 => if y1 = v3 then
    (gd (sm_in v1 10) (ldi (RR V 194 v1.toNatClampNeg) (i3 1) G (fun y2 => if y2 = v2 then
      (oI (i3 1) x G L)
    else (oI (i3 0) x G L))))
  else (oI (i3 0) x G L))) := by
  rw [rh_271_24]
  try simp only [gd_tt, (q_156_20 V), a_194, k_156, n_194]
/-! M_calls -/
set_option maxRecDepth 20000 in
theorem rm_272 {d x : Nat} {R : sm_R} {G : sm_G} {L : sm_L} {v1 v2 : Int32} : sm_cv0 (d + 1) 272 342 R [.ref 156, .int v1, .int v2] (x, G, L) =
  ldi (R 156 16) v2 G (fun y1 => gd (Nat.ble 24 (sm_K (R 156 47)) && Nat.ble (sm_K (R 156 47)) 27 && Nat.ble (R 156 47) 342) (gd (sm_in v1 (sm_N (R 156 47))) (ldi (R (R 156 47) v1.toNatClampNeg) (i3 3) (sm_up G 156 56 ((G 156 56) ^^^ y1)) (fun y2 => gd (sm_is (R (R 156 47) v1.toNatClampNeg) 342 20) (gd (sm_in (i3 3) (sm_N (R (R 156 47) v1.toNatClampNeg))) (oV x (sm_up (sm_up G 156 56 ((G 156 56) ^^^ y1)) (R (R 156 47) v1.toNatClampNeg) 3 (y2 + (i3 1))) L)))))) := (cv_eq rfl rfl).trans (hD_eq.trans rfl)
set_option maxRecDepth 20000 in
theorem m_272 {d x : Nat} {V : pV} {G : sm_G} {L : sm_L} {v1 v2 : Int32} : sm_cv0 (d + 1) 272 342 (RR V) [.ref 156, .int v1, .int v2] (x, G, L) =
  gd (sm_in v2 6) (gd (sm_in v1 4) (ldi (RR V 314 v1.toNatClampNeg) (i3 3) (sm_up G 156 56 ((G 156 56) ^^^ (G 164 v2.toNatClampNeg))) (fun y2 => gd (sm_is (RR V 314 v1.toNatClampNeg) 342 20) (gd (sm_in (i3 3) (sm_N (RR V 314 v1.toNatClampNeg))) (oV x (sm_up (sm_up G 156 56 ((G 156 56) ^^^ (G 164 v2.toNatClampNeg))) (RR V 314 v1.toNatClampNeg) 3 (y2 + (i3 1))) L))))) := by
  rw [rm_272]
  try simp only [gd_tt, (q_156_16 V), (q_156_47 V), a_314, k_156, ldi_e k_164 n_164, n_164, n_314]
/-! M_opensBlock -/
set_option maxRecDepth 20000 in
theorem rm_273 {d x : Nat} {R : sm_R} {G : sm_G} {L : sm_L} {v1 v2 v3 v4 v5 : Int32} : sm_cv0 (d + 1) 273 342 R [.ref 156, .int v1, .int v2, .int v3, .int v4, .int v5] (x, G, L) =
  ldi (R 156 52) v1 G (fun y1 => ldi (R 156 52) v1 G (fun y2 => gd (sm_is (R 156 52) 342 20) (gd (sm_in v1 (sm_N (R 156 52))) (gd (Nat.ble 24 (sm_K (R 156 48)) && Nat.ble (sm_K (R 156 48)) 27 && Nat.ble (R 156 48) 342) (gd (sm_in v1 (sm_N (R 156 48))) (gd (sm_is (R (R 156 48) v1.toNatClampNeg) 342 20) (gd (sm_in ((i3 4) * y1) (sm_N (R (R 156 48) v1.toNatClampNeg))) (gd (Nat.ble 24 (sm_K (R 156 48)) && Nat.ble (sm_K (R 156 48)) 27 && Nat.ble (R 156 48) 342) (gd (sm_in v1 (sm_N (R 156 48))) (gd (sm_is (R (R 156 48) v1.toNatClampNeg) 342 20) (gd (sm_in (((i3 4) * y1) + (i3 1)) (sm_N (R (R 156 48) v1.toNatClampNeg))) (gd (Nat.ble 24 (sm_K (R 156 48)) && Nat.ble (sm_K (R 156 48)) 27 && Nat.ble (R 156 48) 342) (gd (sm_in v1 (sm_N (R 156 48))) (gd (sm_is (R (R 156 48) v1.toNatClampNeg) 342 20) (gd (sm_in (((i3 4) * y1) + (i3 2)) (sm_N (R (R 156 48) v1.toNatClampNeg))) (gd (Nat.ble 24 (sm_K (R 156 48)) && Nat.ble (sm_K (R 156 48)) 27 && Nat.ble (R 156 48) 342) (gd (sm_in v1 (sm_N (R 156 48))) (gd (sm_is (R (R 156 48) v1.toNatClampNeg) 342 20) (gd (sm_in (((i3 4) * y1) + (i3 3)) (sm_N (R (R 156 48) v1.toNatClampNeg))) (gd (sm_is (R 156 51) 342 20) (gd (sm_in v1 (sm_N (R 156 51))) (oV x (sm_up (sm_up (sm_up (sm_up (sm_up (sm_up G (R 156 52) v1.toNatClampNeg (y2 + (i3 1))) (R (R 156 48) v1.toNatClampNeg) (((i3 4) * y1).toNatClampNeg) v2) (R (R 156 48) v1.toNatClampNeg) ((((i3 4) * y1) + (i3 1)).toNatClampNeg) v3) (R (R 156 48) v1.toNatClampNeg) ((((i3 4) * y1) + (i3 2)).toNatClampNeg) v4) (R (R 156 48) v1.toNatClampNeg) ((((i3 4) * y1) + (i3 3)).toNatClampNeg) v5) (R 156 51) v1.toNatClampNeg v3) L)))))))))))))))))))))) := (cv_eq rfl rfl).trans (hD_eq.trans rfl)
set_option maxRecDepth 20000 in
theorem m_273 {d x : Nat} {V : pV} {G : sm_G} {L : sm_L} {v1 v2 v3 v4 v5 : Int32} : sm_cv0 (d + 1) 273 342 (RR V) [.ref 156, .int v1, .int v2, .int v3, .int v4, .int v5] (x, G, L) =
  gd (sm_in v1 4) (gd (sm_in v1 4) (gd (sm_in v1 4) (gd (sm_in v1 4) (gd (sm_is (RR V 319 v1.toNatClampNeg) 342 20) (gd (sm_in ((i3 4) * (G 327 v1.toNatClampNeg)) (sm_N (RR V 319 v1.toNatClampNeg))) (gd (sm_in v1 4) (gd (sm_is (RR V 319 v1.toNatClampNeg) 342 20) (gd (sm_in (((i3 4) * (G 327 v1.toNatClampNeg)) + (i3 1)) (sm_N (RR V 319 v1.toNatClampNeg))) (gd (sm_in v1 4) (gd (sm_is (RR V 319 v1.toNatClampNeg) 342 20) (gd (sm_in (((i3 4) * (G 327 v1.toNatClampNeg)) + (i3 2)) (sm_N (RR V 319 v1.toNatClampNeg))) (gd (sm_in v1 4) (gd (sm_is (RR V 319 v1.toNatClampNeg) 342 20) (gd (sm_in (((i3 4) * (G 327 v1.toNatClampNeg)) + (i3 3)) (sm_N (RR V 319 v1.toNatClampNeg))) (gd (sm_in v1 4) (oV x (sm_up (sm_up (sm_up (sm_up (sm_up (sm_up G 327 v1.toNatClampNeg ((G 327 v1.toNatClampNeg) + (i3 1))) (RR V 319 v1.toNatClampNeg) (((i3 4) * (G 327 v1.toNatClampNeg)).toNatClampNeg) v2) (RR V 319 v1.toNatClampNeg) ((((i3 4) * (G 327 v1.toNatClampNeg)) + (i3 1)).toNatClampNeg) v3) (RR V 319 v1.toNatClampNeg) ((((i3 4) * (G 327 v1.toNatClampNeg)) + (i3 2)).toNatClampNeg) v4) (RR V 319 v1.toNatClampNeg) ((((i3 4) * (G 327 v1.toNatClampNeg)) + (i3 3)).toNatClampNeg) v5) 326 v1.toNatClampNeg v3) L)))))))))))))))) := by
  rw [rm_273]
  try simp only [gd_tt, (q_156_48 V), (q_156_51 V), (q_156_52 V), a_319, k_156, k_326, k_327, ldi_e k_327 n_327, n_319, n_326, n_327]
/-! M_isSo -/
set_option maxRecDepth 20000 in
theorem rm_274 {d x : Nat} {R : sm_R} {G : sm_G} {L : sm_L} {v1 v2 : Int32} : sm_cv0 (d + 1) 274 342 R [.ref 156, .int v1, .int v2] (x, G, L) =
  gd (Nat.ble 24 (sm_K (R 156 27)) && Nat.ble (sm_K (R 156 27)) 27 && Nat.ble (R 156 27) 342) (gd (sm_in v1 (sm_N (R 156 27))) (ldi (R (R 156 27) v1.toNatClampNeg) (((i3 3) * v2) + (i3 1)) G (fun y1 => hD d 274 19 [.ref 156, .int v1, .int v2, .ref (R (R 156 27) v1.toNatClampNeg), .int y1, .null] 342 R x G L))) := (cv_eq rfl rfl).trans (hD_eq.trans rfl)
set_option maxRecDepth 20000 in
theorem m_274 {d x : Nat} {V : pV} {G : sm_G} {L : sm_L} {v1 v2 : Int32} : sm_cv0 (d + 1) 274 342 (RR V) [.ref 156, .int v1, .int v2] (x, G, L) =
  gd (sm_in v1 4) (ldi (RR V 247 v1.toNatClampNeg) (((i3 3) * v2) + (i3 1)) G (fun y1 => hD d 274 19 [.ref 156, .int v1, .int v2, .ref (RR V 247 v1.toNatClampNeg), .int y1, .null] 342 (RR V) x G L)) := by
  rw [rm_274]
  try simp only [gd_tt, (q_156_27 V), a_247, k_156, n_247]
set_option maxRecDepth 20000 in
theorem rh_274_19 {d x : Nat} {R : sm_R} {G : sm_G} {L : sm_L} {r3 : Nat} {v1 v2 v4 : Int32} : hD d 274 19 [.ref 156, .int v1, .int v2, .ref r3, .int v4, .null] 342 R x G L =
  ldi r3 ((i3 3) * v2) G (fun y1 => if y1 = (i3 0) then
    (ldi (R 156 50) v1 G (fun y2 => if y2 = v4 then
      (hD d 274 154 [.null, .null, .int v2, .ref r3, .null, .int (i3 1)] 342 R x G L)
    else (hD d 274 154 [.null, .null, .int v2, .ref r3, .null, .int (i3 0)] 342 R x G L)))
  else if y1 = (i3 1) then
    (if ((shr (G 156 56) v4) &&& (i3 1)) = (i3 1) then
      (hD d 274 154 [.null, .null, .int v2, .ref r3, .null, .int (i3 1)] 342 R x G L)
    else (hD d 274 154 [.null, .null, .int v2, .ref r3, .null, .int (i3 0)] 342 R x G L))
  else if y1 = (i3 2) then
    (ldi (R 156 44) (G 156 57) G (fun y3 => if ((shr y3 v4) &&& (i3 1)) = (i3 1) then
      (hD d 274 154 [.null, .null, .int v2, .ref r3, .null, .int (i3 1)] 342 R x G L)
    else (hD d 274 154 [.null, .null, .int v2, .ref r3, .null, .int (i3 0)] 342 R x G L)))
  else if y1 = (i3 3) then
    (sm_aI (sm_cv0 d 275 342 R [.ref 156, .int v1] (x, G, L)) (fun a4 x4 G4 L4 =>
      hD d 274 154 [.null, .null, .int v2, .ref r3, .null, .int a4] 342 R x4 G4 L4) oX)
  else (if (G 156 57) < v4 then
      (hD d 274 154 [.null, .null, .int v2, .ref r3, .null, .int (i3 0)] 342 R x G L)
    else (hD d 274 154 [.null, .null, .int v2, .ref r3, .null, .int (i3 1)] 342 R x G L))) := hD_eq.trans rfl
set_option maxRecDepth 20000 in
theorem h_274_19 {d x : Nat} {V : pV} {G : sm_G} {L : sm_L} {r3 : Nat} {v1 v2 v4 : Int32} : hD d 274 19 [.ref 156, .int v1, .int v2, .ref r3, .int v4, .null] 342 (RR V) x G L =
  ldi r3 ((i3 3) * v2) G (fun y1 => if y1 = (i3 0) then
    (gd (sm_in v1 4) (if (G 325 v1.toNatClampNeg) = v4 then
      (hD d 274 154 [.null, .null, .int v2, .ref r3, .null, .int (i3 1)] 342 (RR V) x G L)
    else (hD d 274 154 [.null, .null, .int v2, .ref r3, .null, .int (i3 0)] 342 (RR V) x G L)))
  else if y1 = (i3 1) then
    (if ((shr (G 156 56) v4) &&& (i3 1)) = (i3 1) then
      (hD d 274 154 [.null, .null, .int v2, .ref r3, .null, .int (i3 1)] 342 (RR V) x G L)
    else (hD d 274 154 [.null, .null, .int v2, .ref r3, .null, .int (i3 0)] 342 (RR V) x G L))
  else if y1 = (i3 2) then
    (gd (sm_in (G 156 57) 301) (if ((shr (G 307 ((G 156 57).toNatClampNeg)) v4) &&& (i3 1)) = (i3 1) then
      (hD d 274 154 [.null, .null, .int v2, .ref r3, .null, .int (i3 1)] 342 (RR V) x G L)
    else (hD d 274 154 [.null, .null, .int v2, .ref r3, .null, .int (i3 0)] 342 (RR V) x G L)))
  else if y1 = (i3 3) then
    (sm_aI (sm_cv0 d 275 342 (RR V) [.ref 156, .int v1] (x, G, L)) (fun a4 x4 G4 L4 =>
      hD d 274 154 [.null, .null, .int v2, .ref r3, .null, .int a4] 342 (RR V) x4 G4 L4) oX)
  else (if (G 156 57) < v4 then
      (hD d 274 154 [.null, .null, .int v2, .ref r3, .null, .int (i3 0)] 342 (RR V) x G L)
    else (hD d 274 154 [.null, .null, .int v2, .ref r3, .null, .int (i3 1)] 342 (RR V) x G L))) := by
  rw [rh_274_19]
  try simp only [gd_tt, (q_156_44 V), (q_156_50 V), k_156, ldi_e k_307 n_307, ldi_e k_325 n_325, n_307, n_325]
set_option maxRecDepth 20000 in
theorem rh_274_154 {d x : Nat} {R : sm_R} {G : sm_G} {L : sm_L} {r3 : Nat} {v2 v5 : Int32} : hD d 274 154 [.null, .null, .int v2, .ref r3, .null, .int v5] 342 R x G L =
  ldi r3 (((i3 3) * v2) + (i3 2)) G (fun y1 => if y1 = (i3 0) then
    (if v5 = (i3 1) then
      (oI (i3 1) x G L)
    else (oI (i3 0) x G L))
  else (if v5 = (i3 0) then
      (oI (i3 1) x G L)
    else (oI (i3 0) x G L))) := hD_eq.trans rfl
theorem h_274_154 {d x : Nat} {V : pV} {G : sm_G} {L : sm_L} {r3 : Nat} {v2 v5 : Int32} : hD d 274 154 [.null, .null, .int v2, .ref r3, .null, .int v5] 342 (RR V) x G L =
  ldi r3 (((i3 3) * v2) + (i3 2)) G (fun y1 => if y1 = (i3 0) then
    (if v5 = (i3 1) then
      (oI (i3 1) x G L)
    else (oI (i3 0) x G L))
  else (if v5 = (i3 0) then
      (oI (i3 1) x G L)
    else (oI (i3 0) x G L))) := rh_274_154
/-! M_meets -/
set_option maxRecDepth 20000 in
theorem rm_275 {d x : Nat} {R : sm_R} {G : sm_G} {L : sm_L} {v1 : Int32} : sm_cv0 (d + 1) 275 342 R [.ref 156, .int v1] (x, G, L) =
  hD d 275 2 [.ref 156, .int v1, .int (i3 0)] 342 R x G L := (cv_eq rfl rfl).trans (hD_eq.trans rfl)
theorem m_275 {d x : Nat} {V : pV} {G : sm_G} {L : sm_L} {v1 : Int32} : sm_cv0 (d + 1) 275 342 (RR V) [.ref 156, .int v1] (x, G, L) =
  hD d 275 2 [.ref 156, .int v1, .int (i3 0)] 342 (RR V) x G L := rm_275
set_option maxRecDepth 20000 in
theorem rh_275_2 {d x : Nat} {R : sm_R} {G : sm_G} {L : sm_L} {v1 v2 : Int32} : hD d 275 2 [.ref 156, .int v1, .int v2] 342 R x G L =
  ldi (R 156 12) (i3 4) G (fun y1 => if v2 < y1 then
    (if v2 = v1 then
      (hD d 275 2 [.ref 156, .int v1, .int (v2 + (i3 1))] 342 R x G L)
    else (sm_aI (sm_cv0 d 266 342 R [.ref 156, .int v2] (x, G, L)) (fun a2 x2 G2 L2 =>
        if a2 = (i3 0) then
          (hD d 275 2 [.ref 156, .int v1, .int (v2 + (i3 1))] 342 R x2 G2 L2)
        else (ldi (R 156 50) v2 G2 (fun y3 => ldi (R 156 50) v1 G2 (fun y4 => if y3 = y4 then
            (oI (i3 1) x2 G2 L2)
          else (hD d 275 2 [.ref 156, .int v1, .int (v2 + (i3 1))] 342 R x2 G2 L2))))) oX))
  else (oI (i3 0) x G L)) := hD_eq.trans rfl
set_option maxRecDepth 20000 in
theorem h_275_2 {d x : Nat} {V : pV} {G : sm_G} {L : sm_L} {v1 v2 : Int32} : hD d 275 2 [.ref 156, .int v1, .int v2] 342 (RR V) x G L =
  if v2 < (G 160 4) then
    (if v2 = v1 then
      (hD d 275 2 [.ref 156, .int v1, .int (v2 + (i3 1))] 342 (RR V) x G L)
    else (sm_aI (sm_cv0 d 266 342 (RR V) [.ref 156, .int v2] (x, G, L)) (fun a2 x2 G2 L2 =>
        if a2 = (i3 0) then
          (hD d 275 2 [.ref 156, .int v1, .int (v2 + (i3 1))] 342 (RR V) x2 G2 L2)
        else (gd (sm_in v2 4) (gd (sm_in v1 4) (if (G2 325 v2.toNatClampNeg) = (G2 325 v1.toNatClampNeg) then
            (oI (i3 1) x2 G2 L2)
          else (hD d 275 2 [.ref 156, .int v1, .int (v2 + (i3 1))] 342 (RR V) x2 G2 L2))))) oX))
  else (oI (i3 0) x G L) := by
  rw [rh_275_2]
  try simp only [gd_tt, (q_156_12 V), (q_156_50 V), cl_4, inl_4_6, k_156, ldi_e k_160 n_160, ldi_e k_325 n_325, n_160, n_325]
/-! M_where -/
set_option maxRecDepth 20000 in
theorem rm_276 {d x : Nat} {R : sm_R} {G : sm_G} {L : sm_L} {v1 v2 : Int32} : sm_cv0 (d + 1) 276 342 R [.ref 156, .int v1, .int v2] (x, G, L) =
  sm_aI (sm_cv0 d 238 342 R [.ref 156, .int v1] (x, sm_up G 156 0 (i3 0), L)) (fun a1 x1 G1 L1 =>
    if a1 = (i3 0) then
      (sm_aI (sm_cv0 d 219 342 R [.ref 156, .int (i3 1), .int (i3 1), .int (i3 1)] (x1, G1, L1)) (fun a2 x2 G2 L2 =>
        if a2 = (i3 0) then
          (hD d 276 27 [.ref 156, .int v1, .int v2] 342 R x2 G2 L2)
        else (oI (i3 0) x2 G2 L2)) oX)
    else (sm_aI (sm_cv0 d 219 342 R [.ref 156, .int (i3 0), .int (i3 1), .int (i3 1)] (x1, G1, L1)) (fun a3 x3 G3 L3 =>
        if a3 = (i3 0) then
          (hD d 276 27 [.ref 156, .int v1, .int v2] 342 R x3 G3 L3)
        else (oI (i3 0) x3 G3 L3)) oX)) oX := (cv_eq rfl rfl).trans (hD_eq.trans rfl)
set_option maxRecDepth 20000 in
theorem m_276 {d x : Nat} {V : pV} {G : sm_G} {L : sm_L} {v1 v2 : Int32} : sm_cv0 (d + 1) 276 342 (RR V) [.ref 156, .int v1, .int v2] (x, G, L) =
  sm_aI (sm_cv0 d 238 342 (RR V) [.ref 156, .int v1] (x, sm_up G 156 0 (i3 0), L)) (fun a1 x1 G1 L1 =>
    if a1 = (i3 0) then
      (sm_aI (sm_cv0 d 219 342 (RR V) [.ref 156, .int (i3 1), .int (i3 1), .int (i3 1)] (x1, G1, L1)) (fun a2 x2 G2 L2 =>
        if a2 = (i3 0) then
          (hD d 276 27 [.ref 156, .int v1, .int v2] 342 (RR V) x2 G2 L2)
        else (oI (i3 0) x2 G2 L2)) oX)
    else (sm_aI (sm_cv0 d 219 342 (RR V) [.ref 156, .int (i3 0), .int (i3 1), .int (i3 1)] (x1, G1, L1)) (fun a3 x3 G3 L3 =>
        if a3 = (i3 0) then
          (hD d 276 27 [.ref 156, .int v1, .int v2] 342 (RR V) x3 G3 L3)
        else (oI (i3 0) x3 G3 L3)) oX)) oX := by
  rw [rm_276]
  try simp only [gd_tt, k_156]
set_option maxRecDepth 20000 in
theorem rh_276_27 {d x : Nat} {R : sm_R} {G : sm_G} {L : sm_L} {v1 v2 : Int32} : hD d 276 27 [.ref 156, .int v1, .int v2] 342 R x G L =
  sm_aI (sm_cv0 d 253 342 R [.int v2] (x, G, L)) (fun a1 x1 G1 L1 =>
    if a1 = (i3 0) then
      (sm_aI (sm_cv0 d 219 342 R [.ref 156, .int (i3 1), .int (i3 2), .int (i3 2)] (x1, G1, L1)) (fun a2 x2 G2 L2 =>
        if a2 = (i3 0) then
          (sm_aI (sm_cv0 d 263 342 R [.ref 156] (x2, G2, L2)) (fun a3 x3 G3 L3 =>
            gd (Nat.ble 24 (sm_K (R 156 46)) && Nat.ble (sm_K (R 156 46)) 27 && Nat.ble (R 156 46) 342) (gd (sm_in v1 (sm_N (R 156 46))) (ldi (R (R 156 46) v1.toNatClampNeg) v2 G3 (fun y4 => oI y4 x3 G3 L3)))) oX)
        else (oI (i3 0) x2 G2 L2)) oX)
    else (sm_aI (sm_cv0 d 219 342 R [.ref 156, .int (i3 0), .int (i3 2), .int (i3 2)] (x1, G1, L1)) (fun a5 x5 G5 L5 =>
        if a5 = (i3 0) then
          (sm_aI (sm_cv0 d 263 342 R [.ref 156] (x5, G5, L5)) (fun a6 x6 G6 L6 =>
            gd (Nat.ble 24 (sm_K (R 156 46)) && Nat.ble (sm_K (R 156 46)) 27 && Nat.ble (R 156 46) 342) (gd (sm_in v1 (sm_N (R 156 46))) (ldi (R (R 156 46) v1.toNatClampNeg) v2 G6 (fun y7 => oI y7 x6 G6 L6)))) oX)
        else (oI (i3 0) x5 G5 L5)) oX)) oX := hD_eq.trans rfl
set_option maxRecDepth 20000 in
theorem h_276_27 {d x : Nat} {V : pV} {G : sm_G} {L : sm_L} {v1 v2 : Int32} : hD d 276 27 [.ref 156, .int v1, .int v2] 342 (RR V) x G L =
  sm_aI (sm_cv0 d 253 342 (RR V) [.int v2] (x, G, L)) (fun a1 x1 G1 L1 =>
    if a1 = (i3 0) then
      (sm_aI (sm_cv0 d 219 342 (RR V) [.ref 156, .int (i3 1), .int (i3 2), .int (i3 2)] (x1, G1, L1)) (fun a2 x2 G2 L2 =>
        if a2 = (i3 0) then
          (sm_aI (sm_cv0 d 263 342 (RR V) [.ref 156] (x2, G2, L2)) (fun a3 x3 G3 L3 =>
            gd (sm_in v1 4) (ldi (RR V 309 v1.toNatClampNeg) v2 G3 (fun y4 => oI y4 x3 G3 L3))) oX)
        else (oI (i3 0) x2 G2 L2)) oX)
    else (sm_aI (sm_cv0 d 219 342 (RR V) [.ref 156, .int (i3 0), .int (i3 2), .int (i3 2)] (x1, G1, L1)) (fun a5 x5 G5 L5 =>
        if a5 = (i3 0) then
          (sm_aI (sm_cv0 d 263 342 (RR V) [.ref 156] (x5, G5, L5)) (fun a6 x6 G6 L6 =>
            gd (sm_in v1 4) (ldi (RR V 309 v1.toNatClampNeg) v2 G6 (fun y7 => oI y7 x6 G6 L6))) oX)
        else (oI (i3 0) x5 G5 L5)) oX)) oX := by
  rw [rh_276_27]
  try simp only [gd_tt, (q_156_46 V), a_309, k_156, n_309]
/-! M_night -/
set_option maxRecDepth 20000 in
theorem rm_277 {d x : Nat} {R : sm_R} {G : sm_G} {L : sm_L} {v1 v2 : Int32} : sm_cv0 (d + 1) 277 342 R [.ref 156, .int v1, .int v2] (x, G, L) =
  sm_aI (sm_cv0 d 238 342 R [.ref 156, .int v1] (x, sm_up G 156 0 (i3 0), L)) (fun a1 x1 G1 L1 =>
    if a1 = (i3 0) then
      (sm_aI (sm_cv0 d 219 342 R [.ref 156, .int (i3 1), .int (i3 1), .int (i3 1)] (x1, G1, L1)) (fun a2 x2 G2 L2 =>
        if a2 = (i3 0) then
          (hD d 277 27 [.ref 156, .int v1, .int v2] 342 R x2 G2 L2)
        else (oI (i3 0) x2 G2 L2)) oX)
    else (sm_aI (sm_cv0 d 219 342 R [.ref 156, .int (i3 0), .int (i3 1), .int (i3 1)] (x1, G1, L1)) (fun a3 x3 G3 L3 =>
        if a3 = (i3 0) then
          (hD d 277 27 [.ref 156, .int v1, .int v2] 342 R x3 G3 L3)
        else (oI (i3 0) x3 G3 L3)) oX)) oX := (cv_eq rfl rfl).trans (hD_eq.trans rfl)
set_option maxRecDepth 20000 in
theorem m_277 {d x : Nat} {V : pV} {G : sm_G} {L : sm_L} {v1 v2 : Int32} : sm_cv0 (d + 1) 277 342 (RR V) [.ref 156, .int v1, .int v2] (x, G, L) =
  sm_aI (sm_cv0 d 238 342 (RR V) [.ref 156, .int v1] (x, sm_up G 156 0 (i3 0), L)) (fun a1 x1 G1 L1 =>
    if a1 = (i3 0) then
      (sm_aI (sm_cv0 d 219 342 (RR V) [.ref 156, .int (i3 1), .int (i3 1), .int (i3 1)] (x1, G1, L1)) (fun a2 x2 G2 L2 =>
        if a2 = (i3 0) then
          (hD d 277 27 [.ref 156, .int v1, .int v2] 342 (RR V) x2 G2 L2)
        else (oI (i3 0) x2 G2 L2)) oX)
    else (sm_aI (sm_cv0 d 219 342 (RR V) [.ref 156, .int (i3 0), .int (i3 1), .int (i3 1)] (x1, G1, L1)) (fun a3 x3 G3 L3 =>
        if a3 = (i3 0) then
          (hD d 277 27 [.ref 156, .int v1, .int v2] 342 (RR V) x3 G3 L3)
        else (oI (i3 0) x3 G3 L3)) oX)) oX := by
  rw [rm_277]
  try simp only [gd_tt, k_156]
set_option maxRecDepth 20000 in
theorem rh_277_27 {d x : Nat} {R : sm_R} {G : sm_G} {L : sm_L} {v1 v2 : Int32} : hD d 277 27 [.ref 156, .int v1, .int v2] 342 R x G L =
  sm_aI (sm_cv0 d 218 342 R [.int v2, .int (i3 0), .int (i3 5)] (x, G, L)) (fun a1 x1 G1 L1 =>
    if a1 = (i3 0) then
      (sm_aI (sm_cv0 d 219 342 R [.ref 156, .int (i3 1), .int (i3 2), .int (i3 2)] (x1, G1, L1)) (fun a2 x2 G2 L2 =>
        if a2 = (i3 0) then
          (sm_aI (sm_cv0 d 263 342 R [.ref 156] (x2, G2, L2)) (fun a3 x3 G3 L3 =>
            gd (Nat.ble 24 (sm_K (R 156 47)) && Nat.ble (sm_K (R 156 47)) 27 && Nat.ble (R 156 47) 342) (gd (sm_in v1 (sm_N (R 156 47))) (ldi (R (R 156 47) v1.toNatClampNeg) v2 G3 (fun y4 => oI y4 x3 G3 L3)))) oX)
        else (oI (i3 0) x2 G2 L2)) oX)
    else (sm_aI (sm_cv0 d 219 342 R [.ref 156, .int (i3 0), .int (i3 2), .int (i3 2)] (x1, G1, L1)) (fun a5 x5 G5 L5 =>
        if a5 = (i3 0) then
          (sm_aI (sm_cv0 d 263 342 R [.ref 156] (x5, G5, L5)) (fun a6 x6 G6 L6 =>
            gd (Nat.ble 24 (sm_K (R 156 47)) && Nat.ble (sm_K (R 156 47)) 27 && Nat.ble (R 156 47) 342) (gd (sm_in v1 (sm_N (R 156 47))) (ldi (R (R 156 47) v1.toNatClampNeg) v2 G6 (fun y7 => oI y7 x6 G6 L6)))) oX)
        else (oI (i3 0) x5 G5 L5)) oX)) oX := hD_eq.trans rfl
set_option maxRecDepth 20000 in
theorem h_277_27 {d x : Nat} {V : pV} {G : sm_G} {L : sm_L} {v1 v2 : Int32} : hD d 277 27 [.ref 156, .int v1, .int v2] 342 (RR V) x G L =
  sm_aI (sm_cv0 d 218 342 (RR V) [.int v2, .int (i3 0), .int (i3 5)] (x, G, L)) (fun a1 x1 G1 L1 =>
    if a1 = (i3 0) then
      (sm_aI (sm_cv0 d 219 342 (RR V) [.ref 156, .int (i3 1), .int (i3 2), .int (i3 2)] (x1, G1, L1)) (fun a2 x2 G2 L2 =>
        if a2 = (i3 0) then
          (sm_aI (sm_cv0 d 263 342 (RR V) [.ref 156] (x2, G2, L2)) (fun a3 x3 G3 L3 =>
            gd (sm_in v1 4) (ldi (RR V 314 v1.toNatClampNeg) v2 G3 (fun y4 => oI y4 x3 G3 L3))) oX)
        else (oI (i3 0) x2 G2 L2)) oX)
    else (sm_aI (sm_cv0 d 219 342 (RR V) [.ref 156, .int (i3 0), .int (i3 2), .int (i3 2)] (x1, G1, L1)) (fun a5 x5 G5 L5 =>
        if a5 = (i3 0) then
          (sm_aI (sm_cv0 d 263 342 (RR V) [.ref 156] (x5, G5, L5)) (fun a6 x6 G6 L6 =>
            gd (sm_in v1 4) (ldi (RR V 314 v1.toNatClampNeg) v2 G6 (fun y7 => oI y7 x6 G6 L6))) oX)
        else (oI (i3 0) x5 G5 L5)) oX)) oX := by
  rw [rh_277_27]
  try simp only [gd_tt, (q_156_47 V), a_314, k_156, n_314]
/-! M_lost -/
set_option maxRecDepth 20000 in
theorem rm_278 {d x : Nat} {R : sm_R} {G : sm_G} {L : sm_L} : sm_cv0 (d + 1) 278 342 R [.ref 156] (x, G, L) =
  sm_aI (sm_cv0 d 263 342 R [.ref 156] (x, sm_up G 156 0 (i3 0), L)) (fun a1 x1 G1 L1 =>
    oI a1 x1 G1 L1) oX := (cv_eq rfl rfl).trans (hD_eq.trans rfl)
set_option maxRecDepth 20000 in
theorem m_278 {d x : Nat} {V : pV} {G : sm_G} {L : sm_L} : sm_cv0 (d + 1) 278 342 (RR V) [.ref 156] (x, G, L) =
  sm_aI (sm_cv0 d 263 342 (RR V) [.ref 156] (x, sm_up G 156 0 (i3 0), L)) (fun a1 x1 G1 L1 =>
    oI a1 x1 G1 L1) oX := by
  rw [rm_278]
  try simp only [gd_tt, k_156]
/-! M_cut -/
set_option maxRecDepth 20000 in
theorem rm_279 {d x : Nat} {R : sm_R} {G : sm_G} {L : sm_L} {v1 v2 : Int32} : sm_cv0 (d + 1) 279 342 R [.ref 156, .int v1, .int v2] (x, G, L) =
  sm_aI (sm_cv0 d 248 342 R [.ref 156, .int v1] (x, sm_up G 156 0 (i3 0), L)) (fun a1 x1 G1 L1 =>
    if a1 = (i3 0) then
      (sm_aI (sm_cv0 d 219 342 R [.ref 156, .int (i3 1), .int (i3 1), .int (i3 0)] (x1, G1, L1)) (fun a2 x2 G2 L2 =>
        if a2 = (i3 0) then
          (hD d 279 27 [.ref 156, .int v1, .int v2, .null, .null] 342 R x2 G2 L2)
        else (oI (i3 0) x2 G2 L2)) oX)
    else (sm_aI (sm_cv0 d 219 342 R [.ref 156, .int (i3 0), .int (i3 1), .int (i3 0)] (x1, G1, L1)) (fun a3 x3 G3 L3 =>
        if a3 = (i3 0) then
          (hD d 279 27 [.ref 156, .int v1, .int v2, .null, .null] 342 R x3 G3 L3)
        else (oI (i3 0) x3 G3 L3)) oX)) oX := (cv_eq rfl rfl).trans (hD_eq.trans rfl)
set_option maxRecDepth 20000 in
theorem m_279 {d x : Nat} {V : pV} {G : sm_G} {L : sm_L} {v1 v2 : Int32} : sm_cv0 (d + 1) 279 342 (RR V) [.ref 156, .int v1, .int v2] (x, G, L) =
  sm_aI (sm_cv0 d 248 342 (RR V) [.ref 156, .int v1] (x, sm_up G 156 0 (i3 0), L)) (fun a1 x1 G1 L1 =>
    if a1 = (i3 0) then
      (sm_aI (sm_cv0 d 219 342 (RR V) [.ref 156, .int (i3 1), .int (i3 1), .int (i3 0)] (x1, G1, L1)) (fun a2 x2 G2 L2 =>
        if a2 = (i3 0) then
          (hD d 279 27 [.ref 156, .int v1, .int v2, .null, .null] 342 (RR V) x2 G2 L2)
        else (oI (i3 0) x2 G2 L2)) oX)
    else (sm_aI (sm_cv0 d 219 342 (RR V) [.ref 156, .int (i3 0), .int (i3 1), .int (i3 0)] (x1, G1, L1)) (fun a3 x3 G3 L3 =>
        if a3 = (i3 0) then
          (hD d 279 27 [.ref 156, .int v1, .int v2, .null, .null] 342 (RR V) x3 G3 L3)
        else (oI (i3 0) x3 G3 L3)) oX)) oX := by
  rw [rm_279]
  try simp only [gd_tt, k_156]
set_option maxRecDepth 20000 in
theorem rh_279_27 {d x : Nat} {R : sm_R} {G : sm_G} {L : sm_L} {v1 v2 : Int32} : hD d 279 27 [.ref 156, .int v1, .int v2, .null, .null] 342 R x G L =
  sm_aI (sm_cv0 d 253 342 R [.int v2] (x, G, L)) (fun a1 x1 G1 L1 =>
    if a1 = (i3 0) then
      (sm_aI (sm_cv0 d 219 342 R [.ref 156, .int (i3 1), .int (i3 2), .int (i3 2)] (x1, G1, L1)) (fun a2 x2 G2 L2 =>
        if a2 = (i3 0) then
          (hD d 279 50 [.ref 156, .int v1, .int v2, .null, .null] 342 R x2 G2 L2)
        else (oI (i3 0) x2 G2 L2)) oX)
    else (sm_aI (sm_cv0 d 219 342 R [.ref 156, .int (i3 0), .int (i3 2), .int (i3 2)] (x1, G1, L1)) (fun a3 x3 G3 L3 =>
        if a3 = (i3 0) then
          (hD d 279 50 [.ref 156, .int v1, .int v2, .null, .null] 342 R x3 G3 L3)
        else (oI (i3 0) x3 G3 L3)) oX)) oX := hD_eq.trans rfl
set_option maxRecDepth 20000 in
theorem h_279_27 {d x : Nat} {V : pV} {G : sm_G} {L : sm_L} {v1 v2 : Int32} : hD d 279 27 [.ref 156, .int v1, .int v2, .null, .null] 342 (RR V) x G L =
  sm_aI (sm_cv0 d 253 342 (RR V) [.int v2] (x, G, L)) (fun a1 x1 G1 L1 =>
    if a1 = (i3 0) then
      (sm_aI (sm_cv0 d 219 342 (RR V) [.ref 156, .int (i3 1), .int (i3 2), .int (i3 2)] (x1, G1, L1)) (fun a2 x2 G2 L2 =>
        if a2 = (i3 0) then
          (hD d 279 50 [.ref 156, .int v1, .int v2, .null, .null] 342 (RR V) x2 G2 L2)
        else (oI (i3 0) x2 G2 L2)) oX)
    else (sm_aI (sm_cv0 d 219 342 (RR V) [.ref 156, .int (i3 0), .int (i3 2), .int (i3 2)] (x1, G1, L1)) (fun a3 x3 G3 L3 =>
        if a3 = (i3 0) then
          (hD d 279 50 [.ref 156, .int v1, .int v2, .null, .null] 342 (RR V) x3 G3 L3)
        else (oI (i3 0) x3 G3 L3)) oX)) oX := by
  rw [rh_279_27]
  try simp only [gd_tt, k_156]
set_option maxRecDepth 20000 in
theorem rh_279_50 {d x : Nat} {R : sm_R} {G : sm_G} {L : sm_L} {v1 v2 : Int32} : hD d 279 50 [.ref 156, .int v1, .int v2, .null, .null] 342 R x G L =
  sm_aV (sm_cv0 d 257 342 R [.ref 156] (x, G, L)) (fun x1 G1 L1 =>
    ldi (R 156 44) v2 G1 (fun y2 => hD d 279 68 [.ref 156, .null, .int v2, .int ((shl (i3 1) v1) &&& y2), .int (i3 0)] 342 R x1 G1 L1)) oX := hD_eq.trans rfl
set_option maxRecDepth 20000 in
theorem h_279_50 {d x : Nat} {V : pV} {G : sm_G} {L : sm_L} {v1 v2 : Int32} : hD d 279 50 [.ref 156, .int v1, .int v2, .null, .null] 342 (RR V) x G L =
  sm_aV (sm_cv0 d 257 342 (RR V) [.ref 156] (x, G, L)) (fun x1 G1 L1 =>
    gd (sm_in v2 301) (hD d 279 68 [.ref 156, .null, .int v2, .int ((shl (i3 1) v1) &&& (G1 307 v2.toNatClampNeg)), .int (i3 0)] 342 (RR V) x1 G1 L1)) oX := by
  rw [rh_279_50]
  try simp only [gd_tt, (q_156_44 V), k_156, ldi_e k_307 n_307, n_307]
set_option maxRecDepth 20000 in
theorem rh_279_68 {d x : Nat} {R : sm_R} {G : sm_G} {L : sm_L} {v2 v3 v4 : Int32} : hD d 279 68 [.ref 156, .null, .int v2, .int v3, .int v4] 342 R x G L =
  if v4 < (i3 8) then
    (sm_aI (sm_cv0 d 280 342 R [.ref 156, .int v3, .int v2] (x, G, L)) (fun a1 x1 G1 L1 =>
      hD d 279 68 [.ref 156, .null, .int v2, .int a1, .int (v4 + (i3 1))] 342 R x1 G1 L1) oX)
  else (ldi (R 156 44) v2 G (fun y2 => oI (y2 &&& (v3 ^^^ m1)) x G L)) := hD_eq.trans rfl
set_option maxRecDepth 20000 in
theorem h_279_68 {d x : Nat} {V : pV} {G : sm_G} {L : sm_L} {v2 v3 v4 : Int32} : hD d 279 68 [.ref 156, .null, .int v2, .int v3, .int v4] 342 (RR V) x G L =
  if v4 < (i3 8) then
    (sm_aI (sm_cv0 d 280 342 (RR V) [.ref 156, .int v3, .int v2] (x, G, L)) (fun a1 x1 G1 L1 =>
      hD d 279 68 [.ref 156, .null, .int v2, .int a1, .int (v4 + (i3 1))] 342 (RR V) x1 G1 L1) oX)
  else (gd (sm_in v2 301) (oI ((G 307 v2.toNatClampNeg) &&& (v3 ^^^ m1)) x G L)) := by
  rw [rh_279_68]
  try simp only [gd_tt, (q_156_44 V), k_156, ldi_e k_307 n_307, n_307]
/-! M_grows -/
set_option maxRecDepth 20000 in
theorem rm_280 {d x : Nat} {R : sm_R} {G : sm_G} {L : sm_L} {v1 v2 : Int32} : sm_cv0 (d + 1) 280 342 R [.ref 156, .int v1, .int v2] (x, G, L) =
  hD d 280 5 [.ref 156, .int v1, .int v2, .int v1, .int (i3 0)] 342 R x G L := (cv_eq rfl rfl).trans (hD_eq.trans rfl)
theorem m_280 {d x : Nat} {V : pV} {G : sm_G} {L : sm_L} {v1 v2 : Int32} : sm_cv0 (d + 1) 280 342 (RR V) [.ref 156, .int v1, .int v2] (x, G, L) =
  hD d 280 5 [.ref 156, .int v1, .int v2, .int v1, .int (i3 0)] 342 (RR V) x G L := rm_280
set_option maxRecDepth 20000 in
theorem rh_280_5 {d x : Nat} {R : sm_R} {G : sm_G} {L : sm_L} {v1 v2 v3 v4 : Int32} : hD d 280 5 [.ref 156, .int v1, .int v2, .int v3, .int v4] 342 R x G L =
  ldi (R 156 12) (i3 1) G (fun y1 => if v4 < y1 then
    (ldi (R 156 45) v2 G (fun y2 => if ((shr y2 v4) &&& (i3 1)) = (i3 0) then
      (hD d 280 88 [.ref 156, .int v1, .int v2, .int v3, .int (v4 + (i3 1))] 342 R x G L)
    else (gd (Nat.ble 24 (sm_K (R 156 20)) && Nat.ble (sm_K (R 156 20)) 27 && Nat.ble (R 156 20) 342) (gd (sm_in v4 (sm_N (R 156 20))) (ldi (R (R 156 20) v4.toNatClampNeg) (i3 0) G (fun y3 => gd (Nat.ble 24 (sm_K (R 156 20)) && Nat.ble (sm_K (R 156 20)) 27 && Nat.ble (R 156 20) 342) (gd (sm_in v4 (sm_N (R 156 20))) (ldi (R (R 156 20) v4.toNatClampNeg) (i3 1) G (fun y4 => gd (Nat.ble 24 (sm_K (R 156 20)) && Nat.ble (sm_K (R 156 20)) 27 && Nat.ble (R 156 20) 342) (gd (sm_in v4 (sm_N (R 156 20))) (ldi (R (R 156 20) v4.toNatClampNeg) (i3 1) G (fun y5 => gd (Nat.ble 24 (sm_K (R 156 20)) && Nat.ble (sm_K (R 156 20)) 27 && Nat.ble (R 156 20) 342) (gd (sm_in v4 (sm_N (R 156 20))) (ldi (R (R 156 20) v4.toNatClampNeg) (i3 0) G (fun y6 => hD d 280 88 [.ref 156, .int v1, .int v2, .int ((v3 ||| (shl ((shr v1 y3) &&& (i3 1)) y4)) ||| (shl ((shr v1 y5) &&& (i3 1)) y6)), .int (v4 + (i3 1))] 342 R x G L)))))))))))))))
  else (ldi (R 156 44) v2 G (fun y7 => oI (v3 &&& y7) x G L))) := hD_eq.trans rfl
set_option maxRecDepth 20000 in
theorem h_280_5 {d x : Nat} {V : pV} {G : sm_G} {L : sm_L} {v1 v2 v3 v4 : Int32} : hD d 280 5 [.ref 156, .int v1, .int v2, .int v3, .int v4] 342 (RR V) x G L =
  if v4 < (G 160 1) then
    (gd (sm_in v2 301) (if ((shr (G 308 v2.toNatClampNeg) v4) &&& (i3 1)) = (i3 0) then
      (hD d 280 88 [.ref 156, .int v1, .int v2, .int v3, .int (v4 + (i3 1))] 342 (RR V) x G L)
    else (gd (sm_in v4 10) (ldi (RR V 194 v4.toNatClampNeg) (i3 0) G (fun y3 => gd (sm_in v4 10) (ldi (RR V 194 v4.toNatClampNeg) (i3 1) G (fun y4 => gd (sm_in v4 10) (ldi (RR V 194 v4.toNatClampNeg) (i3 1) G (fun y5 => gd (sm_in v4 10) (ldi (RR V 194 v4.toNatClampNeg) (i3 0) G (fun y6 => hD d 280 88 [.ref 156, .int v1, .int v2, .int ((v3 ||| (shl ((shr v1 y3) &&& (i3 1)) y4)) ||| (shl ((shr v1 y5) &&& (i3 1)) y6)), .int (v4 + (i3 1))] 342 (RR V) x G L)))))))))))
  else (gd (sm_in v2 301) (oI (v3 &&& (G 307 v2.toNatClampNeg)) x G L)) := by
  rw [rh_280_5]
  try simp only [gd_tt, (q_156_12 V), (q_156_20 V), (q_156_44 V), (q_156_45 V), a_194, cl_1, inl_1_6, k_156, ldi_e k_160 n_160, ldi_e k_307 n_307, ldi_e k_308 n_308, n_160, n_194, n_307, n_308]
set_option maxRecDepth 20000 in
theorem rh_280_88 {d x : Nat} {R : sm_R} {G : sm_G} {L : sm_L} {v1 v2 v3 v4 : Int32} : hD d 280 88 [.ref 156, .int v1, .int v2, .int v3, .int v4] 342 R x G L =
  hD d 280 5 [.ref 156, .int v1, .int v2, .int v3, .int v4] 342 R x G L := hD_eq.trans rfl
theorem h_280_88 {d x : Nat} {V : pV} {G : sm_G} {L : sm_L} {v1 v2 v3 v4 : Int32} : hD d 280 88 [.ref 156, .int v1, .int v2, .int v3, .int v4] 342 (RR V) x G L =
  hD d 280 5 [.ref 156, .int v1, .int v2, .int v3, .int v4] 342 (RR V) x G L := rh_280_88
/-! M_soonest -/
set_option maxRecDepth 20000 in
theorem rm_281 {d x : Nat} {R : sm_R} {G : sm_G} {L : sm_L} {v1 v2 v3 : Int32} : sm_cv0 (d + 1) 281 342 R [.ref 156, .int v1, .int v2, .int v3] (x, G, L) =
  sm_aI (sm_cv0 d 282 342 R [.ref 156, .int v1, .int v3, .int v2] (x, sm_up G 156 0 (i3 0), L)) (fun a1 x1 G1 L1 =>
    if a1 = (i3 0) then
      (sm_aV (sm_cv0 d 257 342 R [.ref 156] (x1, G1, L1)) (fun x2 G2 L2 =>
        sm_aI (sm_cv0 d 284 342 R [.ref 156, .int v1, .int v2, .int v3, .int (i3 300)] (x2, G2, L2)) (fun a3 x3 G3 L3 =>
          oI a3 x3 G3 L3) oX) oX)
    else (oI (i3 0) x1 G1 L1)) oX := (cv_eq rfl rfl).trans (hD_eq.trans rfl)
set_option maxRecDepth 20000 in
theorem m_281 {d x : Nat} {V : pV} {G : sm_G} {L : sm_L} {v1 v2 v3 : Int32} : sm_cv0 (d + 1) 281 342 (RR V) [.ref 156, .int v1, .int v2, .int v3] (x, G, L) =
  sm_aI (sm_cv0 d 282 342 (RR V) [.ref 156, .int v1, .int v3, .int v2] (x, sm_up G 156 0 (i3 0), L)) (fun a1 x1 G1 L1 =>
    if a1 = (i3 0) then
      (sm_aV (sm_cv0 d 257 342 (RR V) [.ref 156] (x1, G1, L1)) (fun x2 G2 L2 =>
        sm_aI (sm_cv0 d 284 342 (RR V) [.ref 156, .int v1, .int v2, .int v3, .int (i3 300)] (x2, G2, L2)) (fun a3 x3 G3 L3 =>
          oI a3 x3 G3 L3) oX) oX)
    else (oI (i3 0) x1 G1 L1)) oX := by
  rw [rm_281]
  try simp only [gd_tt, k_156]
/-! M_badWay -/
set_option maxRecDepth 20000 in
theorem rm_282 {d x : Nat} {R : sm_R} {G : sm_G} {L : sm_L} {v1 v2 v3 : Int32} : sm_cv0 (d + 1) 282 342 R [.ref 156, .int v1, .int v2, .int v3] (x, G, L) =
  sm_aI (sm_cv0 d 283 342 R [.ref 156, .int v1, .int v2] (x, G, L)) (fun a1 x1 G1 L1 =>
    if a1 = (i3 0) then
      (sm_aI (sm_cv0 d 219 342 R [.ref 156, .int (i3 1), .int (i3 1), .int (i3 0)] (x1, G1, L1)) (fun a2 x2 G2 L2 =>
        if a2 = (i3 0) then
          (hD d 282 23 [.ref 156, .null, .null, .int v3] 342 R x2 G2 L2)
        else (oI (i3 1) x2 G2 L2)) oX)
    else (sm_aI (sm_cv0 d 219 342 R [.ref 156, .int (i3 0), .int (i3 1), .int (i3 0)] (x1, G1, L1)) (fun a3 x3 G3 L3 =>
        if a3 = (i3 0) then
          (hD d 282 23 [.ref 156, .null, .null, .int v3] 342 R x3 G3 L3)
        else (oI (i3 1) x3 G3 L3)) oX)) oX := (cv_eq rfl rfl).trans (hD_eq.trans rfl)
set_option maxRecDepth 20000 in
theorem m_282 {d x : Nat} {V : pV} {G : sm_G} {L : sm_L} {v1 v2 v3 : Int32} : sm_cv0 (d + 1) 282 342 (RR V) [.ref 156, .int v1, .int v2, .int v3] (x, G, L) =
  sm_aI (sm_cv0 d 283 342 (RR V) [.ref 156, .int v1, .int v2] (x, G, L)) (fun a1 x1 G1 L1 =>
    if a1 = (i3 0) then
      (sm_aI (sm_cv0 d 219 342 (RR V) [.ref 156, .int (i3 1), .int (i3 1), .int (i3 0)] (x1, G1, L1)) (fun a2 x2 G2 L2 =>
        if a2 = (i3 0) then
          (hD d 282 23 [.ref 156, .null, .null, .int v3] 342 (RR V) x2 G2 L2)
        else (oI (i3 1) x2 G2 L2)) oX)
    else (sm_aI (sm_cv0 d 219 342 (RR V) [.ref 156, .int (i3 0), .int (i3 1), .int (i3 0)] (x1, G1, L1)) (fun a3 x3 G3 L3 =>
        if a3 = (i3 0) then
          (hD d 282 23 [.ref 156, .null, .null, .int v3] 342 (RR V) x3 G3 L3)
        else (oI (i3 1) x3 G3 L3)) oX)) oX := by
  rw [rm_282]
  try simp only [gd_tt, k_156]
set_option maxRecDepth 20000 in
theorem rh_282_23 {d x : Nat} {R : sm_R} {G : sm_G} {L : sm_L} {v3 : Int32} : hD d 282 23 [.ref 156, .null, .null, .int v3] 342 R x G L =
  sm_aI (sm_cv0 d 253 342 R [.int v3] (x, G, L)) (fun a1 x1 G1 L1 =>
    if a1 = (i3 0) then
      (sm_aI (sm_cv0 d 219 342 R [.ref 156, .int (i3 1), .int (i3 2), .int (i3 2)] (x1, G1, L1)) (fun a2 x2 G2 L2 =>
        if a2 = (i3 0) then
          (oI (i3 0) x2 G2 L2)
        else (oI (i3 1) x2 G2 L2)) oX)
    else (sm_aI (sm_cv0 d 219 342 R [.ref 156, .int (i3 0), .int (i3 2), .int (i3 2)] (x1, G1, L1)) (fun a3 x3 G3 L3 =>
        if a3 = (i3 0) then
          (oI (i3 0) x3 G3 L3)
        else (oI (i3 1) x3 G3 L3)) oX)) oX := hD_eq.trans rfl
set_option maxRecDepth 20000 in
theorem h_282_23 {d x : Nat} {V : pV} {G : sm_G} {L : sm_L} {v3 : Int32} : hD d 282 23 [.ref 156, .null, .null, .int v3] 342 (RR V) x G L =
  sm_aI (sm_cv0 d 253 342 (RR V) [.int v3] (x, G, L)) (fun a1 x1 G1 L1 =>
    if a1 = (i3 0) then
      (sm_aI (sm_cv0 d 219 342 (RR V) [.ref 156, .int (i3 1), .int (i3 2), .int (i3 2)] (x1, G1, L1)) (fun a2 x2 G2 L2 =>
        if a2 = (i3 0) then
          (oI (i3 0) x2 G2 L2)
        else (oI (i3 1) x2 G2 L2)) oX)
    else (sm_aI (sm_cv0 d 219 342 (RR V) [.ref 156, .int (i3 0), .int (i3 2), .int (i3 2)] (x1, G1, L1)) (fun a3 x3 G3 L3 =>
        if a3 = (i3 0) then
          (oI (i3 0) x3 G3 L3)
        else (oI (i3 1) x3 G3 L3)) oX)) oX := by
  rw [rh_282_23]
  try simp only [gd_tt, k_156]
/-! M_areRooms -/
set_option maxRecDepth 20000 in
theorem rm_283 {d x : Nat} {R : sm_R} {G : sm_G} {L : sm_L} {v1 v2 : Int32} : sm_cv0 (d + 1) 283 342 R [.ref 156, .int v1, .int v2] (x, G, L) =
  sm_aI (sm_cv0 d 248 342 R [.ref 156, .int v1] (x, G, L)) (fun a1 x1 G1 L1 =>
    if a1 = (i3 0) then
      (oI (i3 0) x1 G1 L1)
    else (sm_aI (sm_cv0 d 248 342 R [.ref 156, .int v2] (x1, G1, L1)) (fun a2 x2 G2 L2 =>
        if a2 = (i3 0) then
          (oI (i3 0) x2 G2 L2)
        else (oI (i3 1) x2 G2 L2)) oX)) oX := (cv_eq rfl rfl).trans (hD_eq.trans rfl)
set_option maxRecDepth 20000 in
theorem m_283 {d x : Nat} {V : pV} {G : sm_G} {L : sm_L} {v1 v2 : Int32} : sm_cv0 (d + 1) 283 342 (RR V) [.ref 156, .int v1, .int v2] (x, G, L) =
  sm_aI (sm_cv0 d 248 342 (RR V) [.ref 156, .int v1] (x, G, L)) (fun a1 x1 G1 L1 =>
    if a1 = (i3 0) then
      (oI (i3 0) x1 G1 L1)
    else (sm_aI (sm_cv0 d 248 342 (RR V) [.ref 156, .int v2] (x1, G1, L1)) (fun a2 x2 G2 L2 =>
        if a2 = (i3 0) then
          (oI (i3 0) x2 G2 L2)
        else (oI (i3 1) x2 G2 L2)) oX)) oX := by
  rw [rm_283]
  try simp only [gd_tt, k_156]
/-! M_soonestBy -/
set_option maxRecDepth 20000 in
theorem rm_284 {d x : Nat} {R : sm_R} {G : sm_G} {L : sm_L} {v1 v2 v3 v4 : Int32} : sm_cv0 (d + 1) 284 342 R [.ref 156, .int v1, .int v2, .int v3, .int v4] (x, G, L) =
  ldi (R 156 44) v2 G (fun y1 => hD d 284 15 [.ref 156, .null, .int v2, .int v3, .int v4, .int ((shl (i3 1) v1) &&& y1), .int v2] 342 R x G L) := (cv_eq rfl rfl).trans (hD_eq.trans rfl)
set_option maxRecDepth 20000 in
theorem m_284 {d x : Nat} {V : pV} {G : sm_G} {L : sm_L} {v1 v2 v3 v4 : Int32} : sm_cv0 (d + 1) 284 342 (RR V) [.ref 156, .int v1, .int v2, .int v3, .int v4] (x, G, L) =
  gd (sm_in v2 301) (hD d 284 15 [.ref 156, .null, .int v2, .int v3, .int v4, .int ((shl (i3 1) v1) &&& (G 307 v2.toNatClampNeg)), .int v2] 342 (RR V) x G L) := by
  rw [rm_284]
  try simp only [gd_tt, (q_156_44 V), k_156, ldi_e k_307 n_307, n_307]
set_option maxRecDepth 20000 in
theorem rh_284_15 {d x : Nat} {R : sm_R} {G : sm_G} {L : sm_L} {v2 v3 v4 v5 v6 : Int32} : hD d 284 15 [.ref 156, .null, .int v2, .int v3, .int v4, .int v5, .int v6] 342 R x G L =
  if v6 ≤ v4 then
    (if v6 = v2 then
      (if ((shr v5 v3) &&& (i3 1)) = (i3 1) then
        (oI v6 x G L)
      else (hD d 284 15 [.ref 156, .null, .int v2, .int v3, .int v4, .int v5, .int (v6 + (i3 1))] 342 R x G L))
    else (sm_aI (sm_cv0 d 280 342 R [.ref 156, .int v5, .int v6] (x, G, L)) (fun a1 x1 G1 L1 =>
        if ((shr a1 v3) &&& (i3 1)) = (i3 1) then
          (oI v6 x1 G1 L1)
        else (hD d 284 15 [.ref 156, .null, .int v2, .int v3, .int v4, .int a1, .int (v6 + (i3 1))] 342 R x1 G1 L1)) oX))
  else (oI m1 x G L) := hD_eq.trans rfl
set_option maxRecDepth 20000 in
theorem h_284_15 {d x : Nat} {V : pV} {G : sm_G} {L : sm_L} {v2 v3 v4 v5 v6 : Int32} : hD d 284 15 [.ref 156, .null, .int v2, .int v3, .int v4, .int v5, .int v6] 342 (RR V) x G L =
  if v6 ≤ v4 then
    (if v6 = v2 then
      (if ((shr v5 v3) &&& (i3 1)) = (i3 1) then
        (oI v6 x G L)
      else (hD d 284 15 [.ref 156, .null, .int v2, .int v3, .int v4, .int v5, .int (v6 + (i3 1))] 342 (RR V) x G L))
    else (sm_aI (sm_cv0 d 280 342 (RR V) [.ref 156, .int v5, .int v6] (x, G, L)) (fun a1 x1 G1 L1 =>
        if ((shr a1 v3) &&& (i3 1)) = (i3 1) then
          (oI v6 x1 G1 L1)
        else (hD d 284 15 [.ref 156, .null, .int v2, .int v3, .int v4, .int a1, .int (v6 + (i3 1))] 342 (RR V) x1 G1 L1)) oX))
  else (oI m1 x G L) := by
  rw [rh_284_15]
  try simp only [gd_tt, k_156]
/-! M_way -/
set_option maxRecDepth 20000 in
theorem rm_285 {d x : Nat} {R : sm_R} {G : sm_G} {L : sm_L} {v1 v2 v3 v4 : Int32} : sm_cv0 (d + 1) 285 342 R [.ref 156, .int v1, .int v2, .int v3, .int v4] (x, G, L) =
  sm_aI (sm_cv0 d 283 342 R [.ref 156, .int v1, .int v3] (x, sm_up G 156 0 (i3 0), L)) (fun a1 x1 G1 L1 =>
    if a1 = (i3 0) then
      (sm_aI (sm_cv0 d 219 342 R [.ref 156, .int (i3 1), .int (i3 1), .int (i3 0)] (x1, G1, L1)) (fun a2 x2 G2 L2 =>
        if a2 = (i3 0) then
          (hD d 285 28 [.ref 156, .int v1, .int v2, .int v3, .int v4, .null, .null, .null, .null] 342 R x2 G2 L2)
        else (oI (i3 0) x2 G2 L2)) oX)
    else (sm_aI (sm_cv0 d 219 342 R [.ref 156, .int (i3 0), .int (i3 1), .int (i3 0)] (x1, G1, L1)) (fun a3 x3 G3 L3 =>
        if a3 = (i3 0) then
          (hD d 285 28 [.ref 156, .int v1, .int v2, .int v3, .int v4, .null, .null, .null, .null] 342 R x3 G3 L3)
        else (oI (i3 0) x3 G3 L3)) oX)) oX := (cv_eq rfl rfl).trans (hD_eq.trans rfl)
set_option maxRecDepth 20000 in
theorem m_285 {d x : Nat} {V : pV} {G : sm_G} {L : sm_L} {v1 v2 v3 v4 : Int32} : sm_cv0 (d + 1) 285 342 (RR V) [.ref 156, .int v1, .int v2, .int v3, .int v4] (x, G, L) =
  sm_aI (sm_cv0 d 283 342 (RR V) [.ref 156, .int v1, .int v3] (x, sm_up G 156 0 (i3 0), L)) (fun a1 x1 G1 L1 =>
    if a1 = (i3 0) then
      (sm_aI (sm_cv0 d 219 342 (RR V) [.ref 156, .int (i3 1), .int (i3 1), .int (i3 0)] (x1, G1, L1)) (fun a2 x2 G2 L2 =>
        if a2 = (i3 0) then
          (hD d 285 28 [.ref 156, .int v1, .int v2, .int v3, .int v4, .null, .null, .null, .null] 342 (RR V) x2 G2 L2)
        else (oI (i3 0) x2 G2 L2)) oX)
    else (sm_aI (sm_cv0 d 219 342 (RR V) [.ref 156, .int (i3 0), .int (i3 1), .int (i3 0)] (x1, G1, L1)) (fun a3 x3 G3 L3 =>
        if a3 = (i3 0) then
          (hD d 285 28 [.ref 156, .int v1, .int v2, .int v3, .int v4, .null, .null, .null, .null] 342 (RR V) x3 G3 L3)
        else (oI (i3 0) x3 G3 L3)) oX)) oX := by
  rw [rm_285]
  try simp only [gd_tt, k_156]
set_option maxRecDepth 20000 in
theorem rh_285_28 {d x : Nat} {R : sm_R} {G : sm_G} {L : sm_L} {v1 v2 v3 v4 : Int32} : hD d 285 28 [.ref 156, .int v1, .int v2, .int v3, .int v4, .null, .null, .null, .null] 342 R x G L =
  sm_aI (sm_cv0 d 253 342 R [.int v2] (x, G, L)) (fun a1 x1 G1 L1 =>
    if a1 = (i3 0) then
      (sm_aI (sm_cv0 d 219 342 R [.ref 156, .int (i3 1), .int (i3 2), .int (i3 2)] (x1, G1, L1)) (fun a2 x2 G2 L2 =>
        if a2 = (i3 0) then
          (hD d 285 59 [.ref 156, .int v1, .int v2, .int v3, .int v4, .null, .null, .null, .null] 342 R x2 G2 L2)
        else (oI (i3 0) x2 G2 L2)) oX)
    else (sm_aI (sm_cv0 d 253 342 R [.int v4] (x1, G1, L1)) (fun a3 x3 G3 L3 =>
        if a3 = (i3 0) then
          (sm_aI (sm_cv0 d 219 342 R [.ref 156, .int (i3 1), .int (i3 2), .int (i3 2)] (x3, G3, L3)) (fun a4 x4 G4 L4 =>
            if a4 = (i3 0) then
              (hD d 285 59 [.ref 156, .int v1, .int v2, .int v3, .int v4, .null, .null, .null, .null] 342 R x4 G4 L4)
            else (oI (i3 0) x4 G4 L4)) oX)
        else (sm_aI (sm_cv0 d 219 342 R [.ref 156, .int (i3 0), .int (i3 2), .int (i3 2)] (x3, G3, L3)) (fun a5 x5 G5 L5 =>
            if a5 = (i3 0) then
              (hD d 285 59 [.ref 156, .int v1, .int v2, .int v3, .int v4, .null, .null, .null, .null] 342 R x5 G5 L5)
            else (oI (i3 0) x5 G5 L5)) oX)) oX)) oX := hD_eq.trans rfl
set_option maxRecDepth 20000 in
theorem h_285_28 {d x : Nat} {V : pV} {G : sm_G} {L : sm_L} {v1 v2 v3 v4 : Int32} : hD d 285 28 [.ref 156, .int v1, .int v2, .int v3, .int v4, .null, .null, .null, .null] 342 (RR V) x G L =
  sm_aI (sm_cv0 d 253 342 (RR V) [.int v2] (x, G, L)) (fun a1 x1 G1 L1 =>
    if a1 = (i3 0) then
      (sm_aI (sm_cv0 d 219 342 (RR V) [.ref 156, .int (i3 1), .int (i3 2), .int (i3 2)] (x1, G1, L1)) (fun a2 x2 G2 L2 =>
        if a2 = (i3 0) then
          (hD d 285 59 [.ref 156, .int v1, .int v2, .int v3, .int v4, .null, .null, .null, .null] 342 (RR V) x2 G2 L2)
        else (oI (i3 0) x2 G2 L2)) oX)
    else (sm_aI (sm_cv0 d 253 342 (RR V) [.int v4] (x1, G1, L1)) (fun a3 x3 G3 L3 =>
        if a3 = (i3 0) then
          (sm_aI (sm_cv0 d 219 342 (RR V) [.ref 156, .int (i3 1), .int (i3 2), .int (i3 2)] (x3, G3, L3)) (fun a4 x4 G4 L4 =>
            if a4 = (i3 0) then
              (hD d 285 59 [.ref 156, .int v1, .int v2, .int v3, .int v4, .null, .null, .null, .null] 342 (RR V) x4 G4 L4)
            else (oI (i3 0) x4 G4 L4)) oX)
        else (sm_aI (sm_cv0 d 219 342 (RR V) [.ref 156, .int (i3 0), .int (i3 2), .int (i3 2)] (x3, G3, L3)) (fun a5 x5 G5 L5 =>
            if a5 = (i3 0) then
              (hD d 285 59 [.ref 156, .int v1, .int v2, .int v3, .int v4, .null, .null, .null, .null] 342 (RR V) x5 G5 L5)
            else (oI (i3 0) x5 G5 L5)) oX)) oX)) oX := by
  rw [rh_285_28]
  try simp only [gd_tt, k_156]
set_option maxRecDepth 20000 in
theorem rh_285_59 {d x : Nat} {R : sm_R} {G : sm_G} {L : sm_L} {v1 v2 v3 v4 : Int32} : hD d 285 59 [.ref 156, .int v1, .int v2, .int v3, .int v4, .null, .null, .null, .null] 342 R x G L =
  sm_aV (sm_cv0 d 257 342 R [.ref 156] (x, G, L)) (fun x1 G1 L1 =>
    sm_aI (sm_cv0 d 284 342 R [.ref 156, .int v1, .int v2, .int v3, .int (i3 300)] (x1, G1, L1)) (fun a2 x2 G2 L2 =>
      if a2 = m1 then
        (oI m1 x2 G2 L2)
      else (if v4 < v2 then
          (oI m1 x2 G2 L2)
        else (if v4 < a2 then
            (gd (sm_is (R 156 58) 342 20) (gd (sm_in a2 (sm_N (R 156 58))) (hD d 285 114 [.ref 156, .int v1, .int v2, .null, .int v4, .null, .int (a2 - (i3 1)), .null, .null] 342 R x2 (sm_up G2 (R 156 58) a2.toNatClampNeg (shl (i3 1) v3)) L2)))
          else (oI v3 x2 G2 L2)))) oX) oX := hD_eq.trans rfl
set_option maxRecDepth 20000 in
theorem h_285_59 {d x : Nat} {V : pV} {G : sm_G} {L : sm_L} {v1 v2 v3 v4 : Int32} : hD d 285 59 [.ref 156, .int v1, .int v2, .int v3, .int v4, .null, .null, .null, .null] 342 (RR V) x G L =
  sm_aV (sm_cv0 d 257 342 (RR V) [.ref 156] (x, G, L)) (fun x1 G1 L1 =>
    sm_aI (sm_cv0 d 284 342 (RR V) [.ref 156, .int v1, .int v2, .int v3, .int (i3 300)] (x1, G1, L1)) (fun a2 x2 G2 L2 =>
      if a2 = m1 then
        (oI m1 x2 G2 L2)
      else (if v4 < v2 then
          (oI m1 x2 G2 L2)
        else (if v4 < a2 then
            (gd (sm_in a2 301) (hD d 285 114 [.ref 156, .int v1, .int v2, .null, .int v4, .null, .int (a2 - (i3 1)), .null, .null] 342 (RR V) x2 (sm_up G2 331 a2.toNatClampNeg (shl (i3 1) v3)) L2))
          else (oI v3 x2 G2 L2)))) oX) oX := by
  rw [rh_285_59]
  try simp only [gd_tt, (q_156_58 V), k_156, k_331, n_331]
set_option maxRecDepth 20000 in
theorem rh_285_114 {d x : Nat} {R : sm_R} {G : sm_G} {L : sm_L} {v1 v2 v4 v6 : Int32} : hD d 285 114 [.ref 156, .int v1, .int v2, .null, .int v4, .null, .int v6, .null, .null] 342 R x G L =
  if v6 < v2 then
    (hD d 285 221 [.ref 156, .null, .null, .null, .int v4, .null, .int v1, .int (v2 + (i3 1)), .null] 342 R x G L)
  else (gd (sm_is (R 156 58) 342 20) (gd (sm_in v6 (sm_N (R 156 58))) (hD d 285 131 [.ref 156, .int v1, .int v2, .null, .int v4, .null, .int v6, .int (i3 0), .null] 342 R x (sm_up G (R 156 58) v6.toNatClampNeg (i3 0)) L))) := hD_eq.trans rfl
set_option maxRecDepth 20000 in
theorem h_285_114 {d x : Nat} {V : pV} {G : sm_G} {L : sm_L} {v1 v2 v4 v6 : Int32} : hD d 285 114 [.ref 156, .int v1, .int v2, .null, .int v4, .null, .int v6, .null, .null] 342 (RR V) x G L =
  if v6 < v2 then
    (hD d 285 221 [.ref 156, .null, .null, .null, .int v4, .null, .int v1, .int (v2 + (i3 1)), .null] 342 (RR V) x G L)
  else (gd (sm_in v6 301) (hD d 285 131 [.ref 156, .int v1, .int v2, .null, .int v4, .null, .int v6, .int (i3 0), .null] 342 (RR V) x (sm_up G 331 v6.toNatClampNeg (i3 0)) L)) := by
  rw [rh_285_114]
  try simp only [gd_tt, (q_156_58 V), k_156, k_331, n_331]
set_option maxRecDepth 20000 in
theorem rh_285_131 {d x : Nat} {R : sm_R} {G : sm_G} {L : sm_L} {v1 v2 v4 v6 v7 : Int32} : hD d 285 131 [.ref 156, .int v1, .int v2, .null, .int v4, .null, .int v6, .int v7, .null] 342 R x G L =
  ldi (R 156 12) (i3 0) G (fun y1 => if v7 < y1 then
    (ldi (R 156 58) v6 G (fun y2 => ldi (R 156 44) v6 G (fun y3 => if ((shr y3 v7) &&& (i3 1)) = (i3 1) then
      (sm_aI (sm_cv0 d 280 342 R [.ref 156, .int (shl (i3 1) v7), .int (v6 + (i3 1))] (x, G, L)) (fun a4 x4 G4 L4 =>
        ldi (R 156 58) (v6 + (i3 1)) G4 (fun y5 => if (a4 &&& y5) = (i3 0) then
          (gd (sm_is (R 156 58) 342 20) (gd (sm_in v6 (sm_N (R 156 58))) (hD d 285 131 [.ref 156, .int v1, .int v2, .null, .int v4, .null, .int v6, .int (v7 + (i3 1)), .null] 342 R x4 (sm_up G4 (R 156 58) v6.toNatClampNeg (y2 ||| (i3 0))) L4)))
        else (gd (sm_is (R 156 58) 342 20) (gd (sm_in v6 (sm_N (R 156 58))) (hD d 285 131 [.ref 156, .int v1, .int v2, .null, .int v4, .null, .int v6, .int (v7 + (i3 1)), .null] 342 R x4 (sm_up G4 (R 156 58) v6.toNatClampNeg (y2 ||| (shl (i3 1) v7))) L4))))) oX)
    else (gd (sm_is (R 156 58) 342 20) (gd (sm_in v6 (sm_N (R 156 58))) (hD d 285 131 [.ref 156, .int v1, .int v2, .null, .int v4, .null, .int v6, .int (v7 + (i3 1)), .null] 342 R x (sm_up G (R 156 58) v6.toNatClampNeg (y2 ||| (i3 0))) L))))))
  else (hD d 285 114 [.ref 156, .int v1, .int v2, .null, .int v4, .null, .int (v6 + m1), .null, .null] 342 R x G L)) := hD_eq.trans rfl
set_option maxRecDepth 20000 in
theorem h_285_131 {d x : Nat} {V : pV} {G : sm_G} {L : sm_L} {v1 v2 v4 v6 v7 : Int32} : hD d 285 131 [.ref 156, .int v1, .int v2, .null, .int v4, .null, .int v6, .int v7, .null] 342 (RR V) x G L =
  if v7 < (G 160 0) then
    (gd (sm_in v6 301) (gd (sm_in v6 301) (if ((shr (G 307 v6.toNatClampNeg) v7) &&& (i3 1)) = (i3 1) then
      (sm_aI (sm_cv0 d 280 342 (RR V) [.ref 156, .int (shl (i3 1) v7), .int (v6 + (i3 1))] (x, G, L)) (fun a4 x4 G4 L4 =>
        gd (sm_in (v6 + (i3 1)) 301) (if (a4 &&& (G4 331 ((v6 + (i3 1)).toNatClampNeg))) = (i3 0) then
          (gd (sm_in v6 301) (hD d 285 131 [.ref 156, .int v1, .int v2, .null, .int v4, .null, .int v6, .int (v7 + (i3 1)), .null] 342 (RR V) x4 (sm_up G4 331 v6.toNatClampNeg ((G 331 v6.toNatClampNeg) ||| (i3 0))) L4))
        else (gd (sm_in v6 301) (hD d 285 131 [.ref 156, .int v1, .int v2, .null, .int v4, .null, .int v6, .int (v7 + (i3 1)), .null] 342 (RR V) x4 (sm_up G4 331 v6.toNatClampNeg ((G 331 v6.toNatClampNeg) ||| (shl (i3 1) v7))) L4)))) oX)
    else (gd (sm_in v6 301) (hD d 285 131 [.ref 156, .int v1, .int v2, .null, .int v4, .null, .int v6, .int (v7 + (i3 1)), .null] 342 (RR V) x (sm_up G 331 v6.toNatClampNeg ((G 331 v6.toNatClampNeg) ||| (i3 0))) L)))))
  else (hD d 285 114 [.ref 156, .int v1, .int v2, .null, .int v4, .null, .int (v6 + m1), .null, .null] 342 (RR V) x G L) := by
  rw [rh_285_131]
  try simp only [gd_tt, (q_156_12 V), (q_156_44 V), (q_156_58 V), cl_0, inl_0_6, k_156, k_331, ldi_e k_160 n_160, ldi_e k_307 n_307, ldi_e k_331 n_331, n_160, n_307, n_331]
set_option maxRecDepth 20000 in
theorem rh_285_221 {d x : Nat} {R : sm_R} {G : sm_G} {L : sm_L} {v4 v6 v7 : Int32} : hD d 285 221 [.ref 156, .null, .null, .null, .int v4, .null, .int v6, .int v7, .null] 342 R x G L =
  if v7 ≤ v4 then
    (sm_aI (sm_cv0 d 280 342 R [.ref 156, .int (shl (i3 1) v6), .int v7] (x, G, L)) (fun a1 x1 G1 L1 =>
      ldi (R 156 58) v7 G1 (fun y2 => hD d 285 251 [.ref 156, .null, .null, .null, .int v4, .null, .int (i3 0), .int v7, .int (a1 &&& y2)] 342 R x1 G1 L1)) oX)
  else (oI v6 x G L) := hD_eq.trans rfl
set_option maxRecDepth 20000 in
theorem h_285_221 {d x : Nat} {V : pV} {G : sm_G} {L : sm_L} {v4 v6 v7 : Int32} : hD d 285 221 [.ref 156, .null, .null, .null, .int v4, .null, .int v6, .int v7, .null] 342 (RR V) x G L =
  if v7 ≤ v4 then
    (sm_aI (sm_cv0 d 280 342 (RR V) [.ref 156, .int (shl (i3 1) v6), .int v7] (x, G, L)) (fun a1 x1 G1 L1 =>
      gd (sm_in v7 301) (hD d 285 251 [.ref 156, .null, .null, .null, .int v4, .null, .int (i3 0), .int v7, .int (a1 &&& (G1 331 v7.toNatClampNeg))] 342 (RR V) x1 G1 L1)) oX)
  else (oI v6 x G L) := by
  rw [rh_285_221]
  try simp only [gd_tt, (q_156_58 V), k_156, ldi_e k_331 n_331, n_331]
set_option maxRecDepth 20000 in
theorem rh_285_251 {d x : Nat} {R : sm_R} {G : sm_G} {L : sm_L} {v4 v6 v7 v8 : Int32} : hD d 285 251 [.ref 156, .null, .null, .null, .int v4, .null, .int v6, .int v7, .int v8] 342 R x G L =
  if ((shr v8 v6) &&& (i3 1)) = (i3 0) then
    (hD d 285 251 [.ref 156, .null, .null, .null, .int v4, .null, .int (v6 + (i3 1)), .int v7, .int v8] 342 R x G L)
  else (hD d 285 221 [.ref 156, .null, .null, .null, .int v4, .null, .int v6, .int (v7 + (i3 1)), .null] 342 R x G L) := hD_eq.trans rfl
theorem h_285_251 {d x : Nat} {V : pV} {G : sm_G} {L : sm_L} {v4 v6 v7 v8 : Int32} : hD d 285 251 [.ref 156, .null, .null, .null, .int v4, .null, .int v6, .int v7, .int v8] 342 (RR V) x G L =
  if ((shr v8 v6) &&& (i3 1)) = (i3 0) then
    (hD d 285 251 [.ref 156, .null, .null, .null, .int v4, .null, .int (v6 + (i3 1)), .int v7, .int v8] 342 (RR V) x G L)
  else (hD d 285 221 [.ref 156, .null, .null, .null, .int v4, .null, .int v6, .int (v7 + (i3 1)), .null] 342 (RR V) x G L) := rh_285_251
