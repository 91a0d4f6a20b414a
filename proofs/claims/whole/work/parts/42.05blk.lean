/-! block equations, by the program wip/gen/gen4.py -/
/-! M_latest -/
set_option maxRecDepth 20000 in
theorem rm_286 {d x : Nat} {R : sm_R} {G : sm_G} {L : sm_L} {v1 v2 v3 : Int32} : sm_cv0 (d + 1) 286 342 R [.ref 156, .int v1, .int v2, .int v3] (x, G, L) =
  sm_aI (sm_cv0 d 282 342 R [.ref 156, .int v1, .int v2, .int v3] (x, sm_up G 156 0 (i3 0), L)) (fun a1 x1 G1 L1 =>
    if a1 = (i3 0) then
      (sm_aV (sm_cv0 d 257 342 R [.ref 156] (x1, G1, L1)) (fun x2 G2 L2 =>
        hD d 286 24 [.ref 156, .int v1, .int v2, .int v3, .int v3] 342 R x2 G2 L2) oX)
    else (oI (i3 0) x1 G1 L1)) oX := (cv_eq rfl rfl).trans (hD_eq.trans rfl)
set_option maxRecDepth 20000 in
theorem m_286 {d x : Nat} {V : pV} {G : sm_G} {L : sm_L} {v1 v2 v3 : Int32} : sm_cv0 (d + 1) 286 342 (RR V) [.ref 156, .int v1, .int v2, .int v3] (x, G, L) =
  sm_aI (sm_cv0 d 282 342 (RR V) [.ref 156, .int v1, .int v2, .int v3] (x, sm_up G 156 0 (i3 0), L)) (fun a1 x1 G1 L1 =>
    if a1 = (i3 0) then
      (sm_aV (sm_cv0 d 257 342 (RR V) [.ref 156] (x1, G1, L1)) (fun x2 G2 L2 =>
        hD d 286 24 [.ref 156, .int v1, .int v2, .int v3, .int v3] 342 (RR V) x2 G2 L2) oX)
    else (oI (i3 0) x1 G1 L1)) oX := by
  rw [rm_286]
  try simp only [gd_tt, k_156]
set_option maxRecDepth 20000 in
theorem rh_286_24 {d x : Nat} {R : sm_R} {G : sm_G} {L : sm_L} {v1 v2 v3 v4 : Int32} : hD d 286 24 [.ref 156, .int v1, .int v2, .int v3, .int v4] 342 R x G L =
  if v4 < (i3 0) then
    (oI m1 x G L)
  else (sm_aI (sm_cv0 d 284 342 R [.ref 156, .int v1, .int v4, .int v2, .int v3] (x, G, L)) (fun a1 x1 G1 L1 =>
      if a1 = m1 then
        (hD d 286 24 [.ref 156, .int v1, .int v2, .int v3, .int (v4 + m1)] 342 R x1 G1 L1)
      else (oI v4 x1 G1 L1)) oX) := hD_eq.trans rfl
set_option maxRecDepth 20000 in
theorem h_286_24 {d x : Nat} {V : pV} {G : sm_G} {L : sm_L} {v1 v2 v3 v4 : Int32} : hD d 286 24 [.ref 156, .int v1, .int v2, .int v3, .int v4] 342 (RR V) x G L =
  if v4 < (i3 0) then
    (oI m1 x G L)
  else (sm_aI (sm_cv0 d 284 342 (RR V) [.ref 156, .int v1, .int v4, .int v2, .int v3] (x, G, L)) (fun a1 x1 G1 L1 =>
      if a1 = m1 then
        (hD d 286 24 [.ref 156, .int v1, .int v2, .int v3, .int (v4 + m1)] 342 (RR V) x1 G1 L1)
      else (oI v4 x1 G1 L1)) oX) := by
  rw [rh_286_24]
  try simp only [gd_tt, k_156]
/-! M_keep -/
set_option maxRecDepth 20000 in
theorem rm_287 {d x : Nat} {R : sm_R} {G : sm_G} {L : sm_L} {v1 : Int32} : sm_cv0 (d + 1) 287 342 R [.ref 156, .int v1] (x, G, L) =
  sm_aI (sm_cv0 d 288 342 R [.ref 156, .int v1] (x, sm_up G 156 0 (i3 0), L)) (fun a1 x1 G1 L1 =>
    if a1 = (i3 0) then
      (sm_aI (sm_cv0 d 219 342 R [.ref 156, .int (i3 1), .int (i3 1), .int (i3 2)] (x1, G1, L1)) (fun a2 x2 G2 L2 =>
        if a2 = (i3 0) then
          (oI (G2 156 37) x2 (sm_up G2 156 37 v1) L2)
        else (oI (i3 0) x2 G2 L2)) oX)
    else (sm_aI (sm_cv0 d 219 342 R [.ref 156, .int (i3 0), .int (i3 1), .int (i3 2)] (x1, G1, L1)) (fun a3 x3 G3 L3 =>
        if a3 = (i3 0) then
          (oI (G3 156 37) x3 (sm_up G3 156 37 v1) L3)
        else (oI (i3 0) x3 G3 L3)) oX)) oX := (cv_eq rfl rfl).trans (hD_eq.trans rfl)
set_option maxRecDepth 20000 in
theorem m_287 {d x : Nat} {V : pV} {G : sm_G} {L : sm_L} {v1 : Int32} : sm_cv0 (d + 1) 287 342 (RR V) [.ref 156, .int v1] (x, G, L) =
  sm_aI (sm_cv0 d 288 342 (RR V) [.ref 156, .int v1] (x, sm_up G 156 0 (i3 0), L)) (fun a1 x1 G1 L1 =>
    if a1 = (i3 0) then
      (sm_aI (sm_cv0 d 219 342 (RR V) [.ref 156, .int (i3 1), .int (i3 1), .int (i3 2)] (x1, G1, L1)) (fun a2 x2 G2 L2 =>
        if a2 = (i3 0) then
          (oI (G2 156 37) x2 (sm_up G2 156 37 v1) L2)
        else (oI (i3 0) x2 G2 L2)) oX)
    else (sm_aI (sm_cv0 d 219 342 (RR V) [.ref 156, .int (i3 0), .int (i3 1), .int (i3 2)] (x1, G1, L1)) (fun a3 x3 G3 L3 =>
        if a3 = (i3 0) then
          (oI (G3 156 37) x3 (sm_up G3 156 37 v1) L3)
        else (oI (i3 0) x3 G3 L3)) oX)) oX := by
  rw [rm_287]
  try simp only [gd_tt, k_156]
/-! M_areSleepers -/
set_option maxRecDepth 20000 in
theorem rm_288 {d x : Nat} {R : sm_R} {G : sm_G} {L : sm_L} {v1 : Int32} : sm_cv0 (d + 1) 288 342 R [.ref 156, .int v1] (x, G, L) =
  ldi (R 156 12) (i3 0) G (fun y1 => sm_aI (sm_cv0 d 218 342 R [.int v1, .int (i3 0), .int ((shl (i3 1) y1) - (i3 1))] (x, G, L)) (fun a2 x2 G2 L2 =>
    zd a2 (oI a2 x2 G2 L2)) oX) := (cv_eq rfl rfl).trans (hD_eq.trans rfl)
set_option maxRecDepth 20000 in
theorem m_288 {d x : Nat} {V : pV} {G : sm_G} {L : sm_L} {v1 : Int32} : sm_cv0 (d + 1) 288 342 (RR V) [.ref 156, .int v1] (x, G, L) =
  sm_aI (sm_cv0 d 218 342 (RR V) [.int v1, .int (i3 0), .int ((shl (i3 1) (G 160 0)) - (i3 1))] (x, G, L)) (fun a2 x2 G2 L2 =>
    zd a2 (oI a2 x2 G2 L2)) oX := by
  rw [rm_288]
  try simp only [gd_tt, (q_156_12 V), cl_0, inl_0_6, k_156, ldi_e k_160 n_160, n_160]
/-! M_fewest -/
set_option maxRecDepth 20000 in
theorem rm_289 {d x : Nat} {R : sm_R} {G : sm_G} {L : sm_L} {v1 v2 v3 : Int32} : sm_cv0 (d + 1) 289 342 R [.ref 156, .int v1, .int v2, .int v3] (x, G, L) =
  sm_aI (sm_cv0 d 282 342 R [.ref 156, .int v1, .int v3, .int v2] (x, sm_up G 156 0 (i3 0), L)) (fun a1 x1 G1 L1 =>
    if a1 = (i3 0) then
      (sm_aI (sm_cv0 d 290 342 R [.ref 156, .int v1, .int v2, .int v3, .int (i3 0)] (x1, G1, L1)) (fun a2 x2 G2 L2 =>
        oI a2 x2 G2 L2) oX)
    else (oI (i3 0) x1 G1 L1)) oX := (cv_eq rfl rfl).trans (hD_eq.trans rfl)
set_option maxRecDepth 20000 in
theorem m_289 {d x : Nat} {V : pV} {G : sm_G} {L : sm_L} {v1 v2 v3 : Int32} : sm_cv0 (d + 1) 289 342 (RR V) [.ref 156, .int v1, .int v2, .int v3] (x, G, L) =
  sm_aI (sm_cv0 d 282 342 (RR V) [.ref 156, .int v1, .int v3, .int v2] (x, sm_up G 156 0 (i3 0), L)) (fun a1 x1 G1 L1 =>
    if a1 = (i3 0) then
      (sm_aI (sm_cv0 d 290 342 (RR V) [.ref 156, .int v1, .int v2, .int v3, .int (i3 0)] (x1, G1, L1)) (fun a2 x2 G2 L2 =>
        oI a2 x2 G2 L2) oX)
    else (oI (i3 0) x1 G1 L1)) oX := by
  rw [rm_289]
  try simp only [gd_tt, k_156]
/-! M_fewestBy -/
set_option maxRecDepth 20000 in
theorem rm_290 {d x : Nat} {R : sm_R} {G : sm_G} {L : sm_L} {v1 v2 v3 v4 : Int32} : sm_cv0 (d + 1) 290 342 R [.ref 156, .int v1, .int v2, .int v3, .int v4] (x, G, L) =
  sm_aV (sm_cv0 d 257 342 R [.ref 156] (x, G, L)) (fun x1 G1 L1 =>
    hD d 290 10 [.ref 156, .int v1, .int v2, .int v3, .int v4, .int m1, .int (i3 0)] 342 R x1 G1 L1) oX := (cv_eq rfl rfl).trans (hD_eq.trans rfl)
set_option maxRecDepth 20000 in
theorem m_290 {d x : Nat} {V : pV} {G : sm_G} {L : sm_L} {v1 v2 v3 v4 : Int32} : sm_cv0 (d + 1) 290 342 (RR V) [.ref 156, .int v1, .int v2, .int v3, .int v4] (x, G, L) =
  sm_aV (sm_cv0 d 257 342 (RR V) [.ref 156] (x, G, L)) (fun x1 G1 L1 =>
    hD d 290 10 [.ref 156, .int v1, .int v2, .int v3, .int v4, .int m1, .int (i3 0)] 342 (RR V) x1 G1 L1) oX := by
  rw [rm_290]
  try simp only [gd_tt, k_156]
set_option maxRecDepth 20000 in
theorem rh_290_10 {d x : Nat} {R : sm_R} {G : sm_G} {L : sm_L} {v1 v2 v3 v4 v5 v6 : Int32} : hD d 290 10 [.ref 156, .int v1, .int v2, .int v3, .int v4, .int v5, .int v6] 342 R x G L =
  ldi (R 156 12) (i3 0) G (fun y1 => if v6 < (shl (i3 1) y1) then
    (if ((G 156 37) &&& (v6 ^^^ m1)) = (i3 0) then
      (if v5 = m1 then
        (hD d 290 57 [.ref 156, .int v1, .int v2, .int v3, .int v4, .int v5, .int v6] 342 R x G L)
      else (sm_aI (sm_cv0 d 291 342 R [.int v6] (x, G, L)) (fun a2 x2 G2 L2 =>
          sm_aI (sm_cv0 d 291 342 R [.int v5] (x2, G2, L2)) (fun a3 x3 G3 L3 =>
            if a2 < a3 then
              (hD d 290 57 [.ref 156, .int v1, .int v2, .int v3, .int v4, .int v5, .int v6] 342 R x3 G3 L3)
            else (hD d 290 10 [.ref 156, .int v1, .int v2, .int v3, .int v4, .int v5, .int (v6 + (i3 1))] 342 R x3 G3 L3)) oX) oX))
    else (hD d 290 10 [.ref 156, .int v1, .int v2, .int v3, .int v4, .int v5, .int (v6 + (i3 1))] 342 R x G L))
  else (oI v5 x G L)) := hD_eq.trans rfl
set_option maxRecDepth 20000 in
theorem h_290_10 {d x : Nat} {V : pV} {G : sm_G} {L : sm_L} {v1 v2 v3 v4 v5 v6 : Int32} : hD d 290 10 [.ref 156, .int v1, .int v2, .int v3, .int v4, .int v5, .int v6] 342 (RR V) x G L =
  if v6 < (shl (i3 1) (G 160 0)) then
    (if ((G 156 37) &&& (v6 ^^^ m1)) = (i3 0) then
      (if v5 = m1 then
        (hD d 290 57 [.ref 156, .int v1, .int v2, .int v3, .int v4, .int v5, .int v6] 342 (RR V) x G L)
      else (sm_aI (sm_cv0 d 291 342 (RR V) [.int v6] (x, G, L)) (fun a2 x2 G2 L2 =>
          sm_aI (sm_cv0 d 291 342 (RR V) [.int v5] (x2, G2, L2)) (fun a3 x3 G3 L3 =>
            if a2 < a3 then
              (hD d 290 57 [.ref 156, .int v1, .int v2, .int v3, .int v4, .int v5, .int v6] 342 (RR V) x3 G3 L3)
            else (hD d 290 10 [.ref 156, .int v1, .int v2, .int v3, .int v4, .int v5, .int (v6 + (i3 1))] 342 (RR V) x3 G3 L3)) oX) oX))
    else (hD d 290 10 [.ref 156, .int v1, .int v2, .int v3, .int v4, .int v5, .int (v6 + (i3 1))] 342 (RR V) x G L))
  else (oI v5 x G L) := by
  rw [rh_290_10]
  try simp only [gd_tt, (q_156_12 V), cl_0, inl_0_6, k_156, ldi_e k_160 n_160, n_160]
set_option maxRecDepth 20000 in
theorem rh_290_57 {d x : Nat} {R : sm_R} {G : sm_G} {L : sm_L} {v1 v2 v3 v4 v5 v6 : Int32} : hD d 290 57 [.ref 156, .int v1, .int v2, .int v3, .int v4, .int v5, .int v6] 342 R x G L =
  sm_aV (sm_cv0 d 258 342 R [.ref 156, .int v6] (x, G, L)) (fun x1 G1 L1 =>
    if v4 = (i3 0) then
      (sm_aI (sm_cv0 d 284 342 R [.ref 156, .int v1, .int v2, .int v3, .int (i3 300)] (x1, G1, L1)) (fun a2 x2 G2 L2 =>
        if a2 = m1 then
          (hD d 290 10 [.ref 156, .int v1, .int v2, .int v3, .int v4, .int v5, .int (v6 + (i3 1))] 342 R x2 G2 L2)
        else (hD d 290 10 [.ref 156, .int v1, .int v2, .int v3, .int v4, .int v6, .int (v6 + (i3 1))] 342 R x2 G2 L2)) oX)
    else (sm_aI (sm_cv0 d 292 342 R [.ref 156, .int v1, .int v3, .int v2] (x1, G1, L1)) (fun a3 x3 G3 L3 =>
        if a3 = m1 then
          (hD d 290 10 [.ref 156, .int v1, .int v2, .int v3, .int v4, .int v5, .int (v6 + (i3 1))] 342 R x3 G3 L3)
        else (hD d 290 10 [.ref 156, .int v1, .int v2, .int v3, .int v4, .int v6, .int (v6 + (i3 1))] 342 R x3 G3 L3)) oX)) oX := hD_eq.trans rfl
set_option maxRecDepth 20000 in
theorem h_290_57 {d x : Nat} {V : pV} {G : sm_G} {L : sm_L} {v1 v2 v3 v4 v5 v6 : Int32} : hD d 290 57 [.ref 156, .int v1, .int v2, .int v3, .int v4, .int v5, .int v6] 342 (RR V) x G L =
  sm_aV (sm_cv0 d 258 342 (RR V) [.ref 156, .int v6] (x, G, L)) (fun x1 G1 L1 =>
    if v4 = (i3 0) then
      (sm_aI (sm_cv0 d 284 342 (RR V) [.ref 156, .int v1, .int v2, .int v3, .int (i3 300)] (x1, G1, L1)) (fun a2 x2 G2 L2 =>
        if a2 = m1 then
          (hD d 290 10 [.ref 156, .int v1, .int v2, .int v3, .int v4, .int v5, .int (v6 + (i3 1))] 342 (RR V) x2 G2 L2)
        else (hD d 290 10 [.ref 156, .int v1, .int v2, .int v3, .int v4, .int v6, .int (v6 + (i3 1))] 342 (RR V) x2 G2 L2)) oX)
    else (sm_aI (sm_cv0 d 292 342 (RR V) [.ref 156, .int v1, .int v3, .int v2] (x1, G1, L1)) (fun a3 x3 G3 L3 =>
        if a3 = m1 then
          (hD d 290 10 [.ref 156, .int v1, .int v2, .int v3, .int v4, .int v5, .int (v6 + (i3 1))] 342 (RR V) x3 G3 L3)
        else (hD d 290 10 [.ref 156, .int v1, .int v2, .int v3, .int v4, .int v6, .int (v6 + (i3 1))] 342 (RR V) x3 G3 L3)) oX)) oX := by
  rw [rh_290_57]
  try simp only [gd_tt, k_156]
/-! M_ones -/
set_option maxRecDepth 20000 in
theorem rm_291 {d x : Nat} {R : sm_R} {G : sm_G} {L : sm_L} {v0 : Int32} : sm_cv0 (d + 1) 291 342 R [.int v0] (x, G, L) =
  hD d 291 4 [.int v0, .int (i3 0), .int (i3 0)] 342 R x G L := (cv_eq rfl rfl).trans (hD_eq.trans rfl)
theorem m_291 {d x : Nat} {V : pV} {G : sm_G} {L : sm_L} {v0 : Int32} : sm_cv0 (d + 1) 291 342 (RR V) [.int v0] (x, G, L) =
  hD d 291 4 [.int v0, .int (i3 0), .int (i3 0)] 342 (RR V) x G L := rm_291
set_option maxRecDepth 20000 in
theorem rh_291_4 {d x : Nat} {R : sm_R} {G : sm_G} {L : sm_L} {v0 v1 v2 : Int32} : hD d 291 4 [.int v0, .int v1, .int v2] 342 R x G L =
  if v2 < (i3 10) then
    (hD d 291 4 [.int v0, .int (v1 + ((shr v0 v2) &&& (i3 1))), .int (v2 + (i3 1))] 342 R x G L)
  else (oI v1 x G L) := hD_eq.trans rfl
theorem h_291_4 {d x : Nat} {V : pV} {G : sm_G} {L : sm_L} {v0 v1 v2 : Int32} : hD d 291 4 [.int v0, .int v1, .int v2] 342 (RR V) x G L =
  if v2 < (i3 10) then
    (hD d 291 4 [.int v0, .int (v1 + ((shr v0 v2) &&& (i3 1))), .int (v2 + (i3 1))] 342 (RR V) x G L)
  else (oI v1 x G L) := rh_291_4
/-! M_metBy -/
set_option maxRecDepth 20000 in
theorem rm_292 {d x : Nat} {R : sm_R} {G : sm_G} {L : sm_L} {v1 v2 v3 : Int32} : sm_cv0 (d + 1) 292 342 R [.ref 156, .int v1, .int v2, .int v3] (x, G, L) =
  ldi (R 156 44) v3 G (fun y1 => ldi (R 156 44) v3 G (fun y2 => hD d 292 27 [.ref 156, .null, .null, .int v3, .int ((shl (i3 1) v1) &&& y1), .int ((shl (i3 1) v2) &&& y2), .int v3] 342 R x G L)) := (cv_eq rfl rfl).trans (hD_eq.trans rfl)
set_option maxRecDepth 20000 in
theorem m_292 {d x : Nat} {V : pV} {G : sm_G} {L : sm_L} {v1 v2 v3 : Int32} : sm_cv0 (d + 1) 292 342 (RR V) [.ref 156, .int v1, .int v2, .int v3] (x, G, L) =
  gd (sm_in v3 301) (gd (sm_in v3 301) (hD d 292 27 [.ref 156, .null, .null, .int v3, .int ((shl (i3 1) v1) &&& (G 307 v3.toNatClampNeg)), .int ((shl (i3 1) v2) &&& (G 307 v3.toNatClampNeg)), .int v3] 342 (RR V) x G L)) := by
  rw [rm_292]
  try simp only [gd_tt, (q_156_44 V), k_156, ldi_e k_307 n_307, n_307]
set_option maxRecDepth 20000 in
theorem rh_292_27 {d x : Nat} {R : sm_R} {G : sm_G} {L : sm_L} {v3 v4 v5 v6 : Int32} : hD d 292 27 [.ref 156, .null, .null, .int v3, .int v4, .int v5, .int v6] 342 R x G L =
  if v6 < (i3 301) then
    (if v6 = v3 then
      (hD d 292 56 [.ref 156, .null, .null, .int v3, .int v4, .int v5, .int v6] 342 R x G L)
    else (sm_aI (sm_cv0 d 280 342 R [.ref 156, .int v4, .int v6] (x, G, L)) (fun a1 x1 G1 L1 =>
        hD d 292 56 [.ref 156, .null, .null, .int v3, .int a1, .int v5, .int v6] 342 R x1 G1 L1) oX))
  else (oI m1 x G L) := hD_eq.trans rfl
set_option maxRecDepth 20000 in
theorem h_292_27 {d x : Nat} {V : pV} {G : sm_G} {L : sm_L} {v3 v4 v5 v6 : Int32} : hD d 292 27 [.ref 156, .null, .null, .int v3, .int v4, .int v5, .int v6] 342 (RR V) x G L =
  if v6 < (i3 301) then
    (if v6 = v3 then
      (hD d 292 56 [.ref 156, .null, .null, .int v3, .int v4, .int v5, .int v6] 342 (RR V) x G L)
    else (sm_aI (sm_cv0 d 280 342 (RR V) [.ref 156, .int v4, .int v6] (x, G, L)) (fun a1 x1 G1 L1 =>
        hD d 292 56 [.ref 156, .null, .null, .int v3, .int a1, .int v5, .int v6] 342 (RR V) x1 G1 L1) oX))
  else (oI m1 x G L) := by
  rw [rh_292_27]
  try simp only [gd_tt, k_156]
set_option maxRecDepth 20000 in
theorem rh_292_56 {d x : Nat} {R : sm_R} {G : sm_G} {L : sm_L} {v3 v4 v5 v6 : Int32} : hD d 292 56 [.ref 156, .null, .null, .int v3, .int v4, .int v5, .int v6] 342 R x G L =
  if v6 = v3 then
    (if (v4 &&& v5) = (i3 0) then
      (hD d 292 27 [.ref 156, .null, .null, .int v3, .int v4, .int v5, .int (v6 + (i3 1))] 342 R x G L)
    else (oI v6 x G L))
  else (sm_aI (sm_cv0 d 280 342 R [.ref 156, .int v5, .int v6] (x, G, L)) (fun a1 x1 G1 L1 =>
      if (v4 &&& a1) = (i3 0) then
        (hD d 292 27 [.ref 156, .null, .null, .int v3, .int v4, .int a1, .int (v6 + (i3 1))] 342 R x1 G1 L1)
      else (oI v6 x1 G1 L1)) oX) := hD_eq.trans rfl
set_option maxRecDepth 20000 in
theorem h_292_56 {d x : Nat} {V : pV} {G : sm_G} {L : sm_L} {v3 v4 v5 v6 : Int32} : hD d 292 56 [.ref 156, .null, .null, .int v3, .int v4, .int v5, .int v6] 342 (RR V) x G L =
  if v6 = v3 then
    (if (v4 &&& v5) = (i3 0) then
      (hD d 292 27 [.ref 156, .null, .null, .int v3, .int v4, .int v5, .int (v6 + (i3 1))] 342 (RR V) x G L)
    else (oI v6 x G L))
  else (sm_aI (sm_cv0 d 280 342 (RR V) [.ref 156, .int v5, .int v6] (x, G, L)) (fun a1 x1 G1 L1 =>
      if (v4 &&& a1) = (i3 0) then
        (hD d 292 27 [.ref 156, .null, .null, .int v3, .int v4, .int a1, .int (v6 + (i3 1))] 342 (RR V) x1 G1 L1)
      else (oI v6 x1 G1 L1)) oX) := by
  rw [rh_292_56]
  try simp only [gd_tt, k_156]
/-! M_meet -/
set_option maxRecDepth 20000 in
theorem rm_293 {d x : Nat} {R : sm_R} {G : sm_G} {L : sm_L} {v1 v2 v3 : Int32} : sm_cv0 (d + 1) 293 342 R [.ref 156, .int v1, .int v2, .int v3] (x, G, L) =
  sm_aI (sm_cv0 d 282 342 R [.ref 156, .int v1, .int v2, .int v3] (x, sm_up G 156 0 (i3 0), L)) (fun a1 x1 G1 L1 =>
    if a1 = (i3 0) then
      (sm_aI (sm_cv0 d 290 342 R [.ref 156, .int v1, .int v3, .int v2, .int (i3 1)] (x1, G1, L1)) (fun a2 x2 G2 L2 =>
        oI a2 x2 G2 L2) oX)
    else (oI (i3 0) x1 G1 L1)) oX := (cv_eq rfl rfl).trans (hD_eq.trans rfl)
set_option maxRecDepth 20000 in
theorem m_293 {d x : Nat} {V : pV} {G : sm_G} {L : sm_L} {v1 v2 v3 : Int32} : sm_cv0 (d + 1) 293 342 (RR V) [.ref 156, .int v1, .int v2, .int v3] (x, G, L) =
  sm_aI (sm_cv0 d 282 342 (RR V) [.ref 156, .int v1, .int v2, .int v3] (x, sm_up G 156 0 (i3 0), L)) (fun a1 x1 G1 L1 =>
    if a1 = (i3 0) then
      (sm_aI (sm_cv0 d 290 342 (RR V) [.ref 156, .int v1, .int v3, .int v2, .int (i3 1)] (x1, G1, L1)) (fun a2 x2 G2 L2 =>
        oI a2 x2 G2 L2) oX)
    else (oI (i3 0) x1 G1 L1)) oX := by
  rw [rm_293]
  try simp only [gd_tt, k_156]
/-! M_met -/
set_option maxRecDepth 20000 in
theorem rm_294 {d x : Nat} {R : sm_R} {G : sm_G} {L : sm_L} {v1 v2 v3 : Int32} : sm_cv0 (d + 1) 294 342 R [.ref 156, .int v1, .int v2, .int v3] (x, G, L) =
  sm_aI (sm_cv0 d 282 342 R [.ref 156, .int v1, .int v2, .int v3] (x, sm_up G 156 0 (i3 0), L)) (fun a1 x1 G1 L1 =>
    if a1 = (i3 0) then
      (sm_aV (sm_cv0 d 257 342 R [.ref 156] (x1, G1, L1)) (fun x2 G2 L2 =>
        sm_aI (sm_cv0 d 292 342 R [.ref 156, .int v1, .int v2, .int v3] (x2, G2, L2)) (fun a3 x3 G3 L3 =>
          oI a3 x3 G3 L3) oX) oX)
    else (oI (i3 0) x1 G1 L1)) oX := (cv_eq rfl rfl).trans (hD_eq.trans rfl)
set_option maxRecDepth 20000 in
theorem m_294 {d x : Nat} {V : pV} {G : sm_G} {L : sm_L} {v1 v2 v3 : Int32} : sm_cv0 (d + 1) 294 342 (RR V) [.ref 156, .int v1, .int v2, .int v3] (x, G, L) =
  sm_aI (sm_cv0 d 282 342 (RR V) [.ref 156, .int v1, .int v2, .int v3] (x, sm_up G 156 0 (i3 0), L)) (fun a1 x1 G1 L1 =>
    if a1 = (i3 0) then
      (sm_aV (sm_cv0 d 257 342 (RR V) [.ref 156] (x1, G1, L1)) (fun x2 G2 L2 =>
        sm_aI (sm_cv0 d 292 342 (RR V) [.ref 156, .int v1, .int v2, .int v3] (x2, G2, L2)) (fun a3 x3 G3 L3 =>
          oI a3 x3 G3 L3) oX) oX)
    else (oI (i3 0) x1 G1 L1)) oX := by
  rw [rm_294]
  try simp only [gd_tt, k_156]
/-! M_order -/
set_option maxRecDepth 20000 in
theorem rm_295 {d x : Nat} {R : sm_R} {G : sm_G} {L : sm_L} {v1 v2 v3 : Int32} : sm_cv0 (d + 1) 295 342 R [.ref 156, .int v1, .int v2, .int v3] (x, G, L) =
  sm_aI (sm_cv0 d 296 342 R [.ref 156, .int v1] (x, sm_up G 156 0 (i3 0), L)) (fun a1 x1 G1 L1 =>
    if a1 = (i3 0) then
      (sm_aI (sm_cv0 d 219 342 R [.ref 156, .int (i3 1), .int (i3 1), .int (i3 2)] (x1, G1, L1)) (fun a2 x2 G2 L2 =>
        if a2 = (i3 0) then
          (hD d 295 52 [.ref 156, .int v1, .int v2, .int v3] 342 R x2 G2 L2)
        else (oI (i3 0) x2 G2 L2)) oX)
    else (sm_aI (sm_cv0 d 296 342 R [.ref 156, .int v2] (x1, G1, L1)) (fun a3 x3 G3 L3 =>
        if a3 = (i3 0) then
          (sm_aI (sm_cv0 d 219 342 R [.ref 156, .int (i3 1), .int (i3 1), .int (i3 2)] (x3, G3, L3)) (fun a4 x4 G4 L4 =>
            if a4 = (i3 0) then
              (hD d 295 52 [.ref 156, .int v1, .int v2, .int v3] 342 R x4 G4 L4)
            else (oI (i3 0) x4 G4 L4)) oX)
        else (if (v1 &&& v2) = (i3 0) then
            (sm_aI (sm_cv0 d 218 342 R [.int v3, .int (i3 0), .int (i3 1)] (x3, G3, L3)) (fun a5 x5 G5 L5 =>
              if a5 = (i3 0) then
                (sm_aI (sm_cv0 d 219 342 R [.ref 156, .int (i3 1), .int (i3 1), .int (i3 2)] (x5, G5, L5)) (fun a6 x6 G6 L6 =>
                  if a6 = (i3 0) then
                    (hD d 295 52 [.ref 156, .int v1, .int v2, .int v3] 342 R x6 G6 L6)
                  else (oI (i3 0) x6 G6 L6)) oX)
              else (sm_aI (sm_cv0 d 219 342 R [.ref 156, .int (i3 0), .int (i3 1), .int (i3 2)] (x5, G5, L5)) (fun a7 x7 G7 L7 =>
                  if a7 = (i3 0) then
                    (hD d 295 52 [.ref 156, .int v1, .int v2, .int v3] 342 R x7 G7 L7)
                  else (oI (i3 0) x7 G7 L7)) oX)) oX)
          else (sm_aI (sm_cv0 d 219 342 R [.ref 156, .int (i3 1), .int (i3 1), .int (i3 2)] (x3, G3, L3)) (fun a8 x8 G8 L8 =>
              if a8 = (i3 0) then
                (hD d 295 52 [.ref 156, .int v1, .int v2, .int v3] 342 R x8 G8 L8)
              else (oI (i3 0) x8 G8 L8)) oX))) oX)) oX := (cv_eq rfl rfl).trans (hD_eq.trans rfl)
set_option maxRecDepth 20000 in
theorem m_295 {d x : Nat} {V : pV} {G : sm_G} {L : sm_L} {v1 v2 v3 : Int32} : sm_cv0 (d + 1) 295 342 (RR V) [.ref 156, .int v1, .int v2, .int v3] (x, G, L) =
  sm_aI (sm_cv0 d 296 342 (RR V) [.ref 156, .int v1] (x, sm_up G 156 0 (i3 0), L)) (fun a1 x1 G1 L1 =>
    if a1 = (i3 0) then
      (sm_aI (sm_cv0 d 219 342 (RR V) [.ref 156, .int (i3 1), .int (i3 1), .int (i3 2)] (x1, G1, L1)) (fun a2 x2 G2 L2 =>
        if a2 = (i3 0) then
          (hD d 295 52 [.ref 156, .int v1, .int v2, .int v3] 342 (RR V) x2 G2 L2)
        else (oI (i3 0) x2 G2 L2)) oX)
    else (sm_aI (sm_cv0 d 296 342 (RR V) [.ref 156, .int v2] (x1, G1, L1)) (fun a3 x3 G3 L3 =>
        if a3 = (i3 0) then
          (sm_aI (sm_cv0 d 219 342 (RR V) [.ref 156, .int (i3 1), .int (i3 1), .int (i3 2)] (x3, G3, L3)) (fun a4 x4 G4 L4 =>
            if a4 = (i3 0) then
              (hD d 295 52 [.ref 156, .int v1, .int v2, .int v3] 342 (RR V) x4 G4 L4)
            else (oI (i3 0) x4 G4 L4)) oX)
        else (if (v1 &&& v2) = (i3 0) then
            (sm_aI (sm_cv0 d 218 342 (RR V) [.int v3, .int (i3 0), .int (i3 1)] (x3, G3, L3)) (fun a5 x5 G5 L5 =>
              if a5 = (i3 0) then
                (sm_aI (sm_cv0 d 219 342 (RR V) [.ref 156, .int (i3 1), .int (i3 1), .int (i3 2)] (x5, G5, L5)) (fun a6 x6 G6 L6 =>
                  if a6 = (i3 0) then
                    (hD d 295 52 [.ref 156, .int v1, .int v2, .int v3] 342 (RR V) x6 G6 L6)
                  else (oI (i3 0) x6 G6 L6)) oX)
              else (sm_aI (sm_cv0 d 219 342 (RR V) [.ref 156, .int (i3 0), .int (i3 1), .int (i3 2)] (x5, G5, L5)) (fun a7 x7 G7 L7 =>
                  if a7 = (i3 0) then
                    (hD d 295 52 [.ref 156, .int v1, .int v2, .int v3] 342 (RR V) x7 G7 L7)
                  else (oI (i3 0) x7 G7 L7)) oX)) oX)
          else (sm_aI (sm_cv0 d 219 342 (RR V) [.ref 156, .int (i3 1), .int (i3 1), .int (i3 2)] (x3, G3, L3)) (fun a8 x8 G8 L8 =>
              if a8 = (i3 0) then
                (hD d 295 52 [.ref 156, .int v1, .int v2, .int v3] 342 (RR V) x8 G8 L8)
              else (oI (i3 0) x8 G8 L8)) oX))) oX)) oX := by
  rw [rm_295]
  try simp only [gd_tt, k_156]
set_option maxRecDepth 20000 in
theorem rh_295_52 {d x : Nat} {R : sm_R} {G : sm_G} {L : sm_L} {v1 v2 v3 : Int32} : hD d 295 52 [.ref 156, .int v1, .int v2, .int v3] 342 R x G L =
  sm_aI (sm_cv0 d 260 342 R [.ref 156] (x, sm_up G 156 59 m1, L)) (fun a1 x1 G1 L1 =>
    sm_aV (sm_cv0 d 297 342 R [.ref 156, .int (i3 0), .int a1, .int v1, .int v2, .int (i3 0), .int (i3 0)] (x1, G1, L1)) (fun x2 G2 L2 =>
      if v3 = (i3 0) then
        (oI (G2 156 59) x2 G2 L2)
      else (if (G2 156 59) = m1 then
          (oI (G2 156 59) x2 G2 L2)
        else (oI (G2 156 60) x2 G2 L2))) oX) oX := hD_eq.trans rfl
set_option maxRecDepth 20000 in
theorem h_295_52 {d x : Nat} {V : pV} {G : sm_G} {L : sm_L} {v1 v2 v3 : Int32} : hD d 295 52 [.ref 156, .int v1, .int v2, .int v3] 342 (RR V) x G L =
  sm_aI (sm_cv0 d 260 342 (RR V) [.ref 156] (x, sm_up G 156 59 m1, L)) (fun a1 x1 G1 L1 =>
    sm_aV (sm_cv0 d 297 342 (RR V) [.ref 156, .int (i3 0), .int a1, .int v1, .int v2, .int (i3 0), .int (i3 0)] (x1, G1, L1)) (fun x2 G2 L2 =>
      if v3 = (i3 0) then
        (oI (G2 156 59) x2 G2 L2)
      else (if (G2 156 59) = m1 then
          (oI (G2 156 59) x2 G2 L2)
        else (oI (G2 156 60) x2 G2 L2))) oX) oX := by
  rw [rh_295_52]
  try simp only [gd_tt, k_156]
/-! M_areDoors -/
set_option maxRecDepth 20000 in
theorem rm_296 {d x : Nat} {R : sm_R} {G : sm_G} {L : sm_L} {v1 : Int32} : sm_cv0 (d + 1) 296 342 R [.ref 156, .int v1] (x, G, L) =
  ldi (R 156 12) (i3 1) G (fun y1 => sm_aI (sm_cv0 d 218 342 R [.int v1, .int (i3 0), .int ((shl (i3 1) y1) - (i3 1))] (x, G, L)) (fun a2 x2 G2 L2 =>
    zd a2 (oI a2 x2 G2 L2)) oX) := (cv_eq rfl rfl).trans (hD_eq.trans rfl)
set_option maxRecDepth 20000 in
theorem m_296 {d x : Nat} {V : pV} {G : sm_G} {L : sm_L} {v1 : Int32} : sm_cv0 (d + 1) 296 342 (RR V) [.ref 156, .int v1] (x, G, L) =
  sm_aI (sm_cv0 d 218 342 (RR V) [.int v1, .int (i3 0), .int ((shl (i3 1) (G 160 1)) - (i3 1))] (x, G, L)) (fun a2 x2 G2 L2 =>
    zd a2 (oI a2 x2 G2 L2)) oX := by
  rw [rm_296]
  try simp only [gd_tt, (q_156_12 V), cl_1, inl_1_6, k_156, ldi_e k_160 n_160, n_160]
/-! M_orders -/
set_option maxRecDepth 20000 in
theorem rm_297 {d x : Nat} {R : sm_R} {G : sm_G} {L : sm_L} {v1 v2 v3 v4 v5 v6 : Int32} : sm_cv0 (d + 1) 297 342 R [.ref 156, .int v1, .int v2, .int v3, .int v4, .int v5, .int v6] (x, G, L) =
  if (v2 &&& v3) = v3 then
    (if (v2 &&& v4) = (i3 0) then
      (if (G 156 59) = m1 then
        (hD d 297 46 [.ref 156, .null, .int v2, .int v3, .int v4, .int v5, .int v6, .int v1] 342 R x (sm_up (sm_up G 156 59 v5) 156 60 v6) L)
      else (if v5 < (G 156 59) then
          (hD d 297 46 [.ref 156, .null, .int v2, .int v3, .int v4, .int v5, .int v6, .int v1] 342 R x (sm_up (sm_up G 156 59 v5) 156 60 v6) L)
        else (hD d 297 46 [.ref 156, .null, .int v2, .int v3, .int v4, .int v5, .int v6, .int v1] 342 R x G L)))
    else (hD d 297 46 [.ref 156, .null, .int v2, .int v3, .int v4, .int v5, .int v6, .int v1] 342 R x G L))
  else (hD d 297 46 [.ref 156, .null, .int v2, .int v3, .int v4, .int v5, .int v6, .int v1] 342 R x G L) := (cv_eq rfl rfl).trans (hD_eq.trans rfl)
set_option maxRecDepth 20000 in
theorem m_297 {d x : Nat} {V : pV} {G : sm_G} {L : sm_L} {v1 v2 v3 v4 v5 v6 : Int32} : sm_cv0 (d + 1) 297 342 (RR V) [.ref 156, .int v1, .int v2, .int v3, .int v4, .int v5, .int v6] (x, G, L) =
  if (v2 &&& v3) = v3 then
    (if (v2 &&& v4) = (i3 0) then
      (if (G 156 59) = m1 then
        (hD d 297 46 [.ref 156, .null, .int v2, .int v3, .int v4, .int v5, .int v6, .int v1] 342 (RR V) x (sm_up (sm_up G 156 59 v5) 156 60 v6) L)
      else (if v5 < (G 156 59) then
          (hD d 297 46 [.ref 156, .null, .int v2, .int v3, .int v4, .int v5, .int v6, .int v1] 342 (RR V) x (sm_up (sm_up G 156 59 v5) 156 60 v6) L)
        else (hD d 297 46 [.ref 156, .null, .int v2, .int v3, .int v4, .int v5, .int v6, .int v1] 342 (RR V) x G L)))
    else (hD d 297 46 [.ref 156, .null, .int v2, .int v3, .int v4, .int v5, .int v6, .int v1] 342 (RR V) x G L))
  else (hD d 297 46 [.ref 156, .null, .int v2, .int v3, .int v4, .int v5, .int v6, .int v1] 342 (RR V) x G L) := by
  rw [rm_297]
  try simp only [gd_tt, k_156]
set_option maxRecDepth 20000 in
theorem rh_297_46 {d x : Nat} {R : sm_R} {G : sm_G} {L : sm_L} {v2 v3 v4 v5 v6 v7 : Int32} : hD d 297 46 [.ref 156, .null, .int v2, .int v3, .int v4, .int v5, .int v6, .int v7] 342 R x G L =
  if v7 < (i3 6) then
    (ldi (R 156 16) v7 G (fun y1 => if y1 = (i3 0) then
      (hD d 297 46 [.ref 156, .null, .int v2, .int v3, .int v4, .int v5, .int v6, .int (v7 + (i3 1))] 342 R x G L)
    else (ldi (R 156 16) v7 G (fun y2 => sm_aV (sm_cv0 d 297 342 R [.ref 156, .int (v7 + (i3 1)), .int (v2 ^^^ y2), .int v3, .int v4, .int (v5 + (i3 1)), .int (((i3 10) * v6) + v7)] (x, G, L)) (fun x3 G3 L3 =>
        hD d 297 46 [.ref 156, .null, .int v2, .int v3, .int v4, .int v5, .int v6, .int (v7 + (i3 1))] 342 R x3 G3 L3) oX))))
  else (oV x G L) := hD_eq.trans rfl
set_option maxRecDepth 20000 in
theorem h_297_46 {d x : Nat} {V : pV} {G : sm_G} {L : sm_L} {v2 v3 v4 v5 v6 v7 : Int32} : hD d 297 46 [.ref 156, .null, .int v2, .int v3, .int v4, .int v5, .int v6, .int v7] 342 (RR V) x G L =
  if v7 < (i3 6) then
    (gd (sm_in v7 6) (if (G 164 v7.toNatClampNeg) = (i3 0) then
      (hD d 297 46 [.ref 156, .null, .int v2, .int v3, .int v4, .int v5, .int v6, .int (v7 + (i3 1))] 342 (RR V) x G L)
    else (gd (sm_in v7 6) (sm_aV (sm_cv0 d 297 342 (RR V) [.ref 156, .int (v7 + (i3 1)), .int (v2 ^^^ (G 164 v7.toNatClampNeg)), .int v3, .int v4, .int (v5 + (i3 1)), .int (((i3 10) * v6) + v7)] (x, G, L)) (fun x3 G3 L3 =>
        hD d 297 46 [.ref 156, .null, .int v2, .int v3, .int v4, .int v5, .int v6, .int (v7 + (i3 1))] 342 (RR V) x3 G3 L3) oX))))
  else (oV x G L) := by
  rw [rh_297_46]
  try simp only [gd_tt, (q_156_16 V), k_156, ldi_e k_164 n_164, n_164]
/-! M_whose -/
set_option maxRecDepth 20000 in
theorem rm_298 {d x : Nat} {R : sm_R} {G : sm_G} {L : sm_L} : sm_cv0 (d + 1) 298 342 R [.ref 156] (x, G, L) =
  sm_aV (sm_cv0 d 257 342 R [.ref 156] (x, sm_up G 156 0 (i3 0), L)) (fun x1 G1 L1 =>
    hD d 298 13 [.ref 156, .int (i3 0), .int (i3 0), .null, .null] 342 R x1 G1 L1) oX := (cv_eq rfl rfl).trans (hD_eq.trans rfl)
set_option maxRecDepth 20000 in
theorem m_298 {d x : Nat} {V : pV} {G : sm_G} {L : sm_L} : sm_cv0 (d + 1) 298 342 (RR V) [.ref 156] (x, G, L) =
  sm_aV (sm_cv0 d 257 342 (RR V) [.ref 156] (x, sm_up G 156 0 (i3 0), L)) (fun x1 G1 L1 =>
    hD d 298 13 [.ref 156, .int (i3 0), .int (i3 0), .null, .null] 342 (RR V) x1 G1 L1) oX := by
  rw [rm_298]
  try simp only [gd_tt, k_156]
set_option maxRecDepth 20000 in
theorem rh_298_13 {d x : Nat} {R : sm_R} {G : sm_G} {L : sm_L} {v1 v2 : Int32} : hD d 298 13 [.ref 156, .int v1, .int v2, .null, .null] 342 R x G L =
  ldi (R 156 12) (i3 0) G (fun y1 => if v2 < y1 then
    (hD d 298 28 [.ref 156, .int v1, .int v2, .int (i3 1), .int (i3 0)] 342 R x G L)
  else (oI v1 x G L)) := hD_eq.trans rfl
set_option maxRecDepth 20000 in
theorem h_298_13 {d x : Nat} {V : pV} {G : sm_G} {L : sm_L} {v1 v2 : Int32} : hD d 298 13 [.ref 156, .int v1, .int v2, .null, .null] 342 (RR V) x G L =
  if v2 < (G 160 0) then
    (hD d 298 28 [.ref 156, .int v1, .int v2, .int (i3 1), .int (i3 0)] 342 (RR V) x G L)
  else (oI v1 x G L) := by
  rw [rh_298_13]
  try simp only [gd_tt, (q_156_12 V), cl_0, inl_0_6, k_156, ldi_e k_160 n_160, n_160]
set_option maxRecDepth 20000 in
theorem rh_298_28 {d x : Nat} {R : sm_R} {G : sm_G} {L : sm_L} {v1 v2 v3 v4 : Int32} : hD d 298 28 [.ref 156, .int v1, .int v2, .int v3, .int v4] 342 R x G L =
  if v4 < (G 156 36) then
    (if v3 = (i3 0) then
      (hD d 298 28 [.ref 156, .int v1, .int v2, .int (i3 0), .int (v4 + (i3 1))] 342 R x G L)
    else (gd (Nat.ble 24 (sm_K (R 156 28)) && Nat.ble (sm_K (R 156 28)) 27 && Nat.ble (R 156 28) 342) (gd (sm_in v4 (sm_N (R 156 28))) (ldi (R (R 156 28) v4.toNatClampNeg) (i3 1) G (fun y1 => ldi (R 156 44) y1 G (fun y2 => gd (Nat.ble 24 (sm_K (R 156 28)) && Nat.ble (sm_K (R 156 28)) 27 && Nat.ble (R 156 28) 342) (gd (sm_in v4 (sm_N (R 156 28))) (ldi (R (R 156 28) v4.toNatClampNeg) (i3 0) G (fun y3 => if ((shr y2 v2) &&& (i3 1)) = y3 then
        (hD d 298 28 [.ref 156, .int v1, .int v2, .int (i3 1), .int (v4 + (i3 1))] 342 R x G L)
      else (hD d 298 28 [.ref 156, .int v1, .int v2, .int (i3 0), .int (v4 + (i3 1))] 342 R x G L))))))))))
  else (if v3 = (i3 0) then
      (hD d 298 13 [.ref 156, .int (v1 ||| (i3 0)), .int (v2 + (i3 1)), .null, .null] 342 R x G L)
    else (hD d 298 13 [.ref 156, .int (v1 ||| (shl (i3 1) v2)), .int (v2 + (i3 1)), .null, .null] 342 R x G L)) := hD_eq.trans rfl
set_option maxRecDepth 20000 in
theorem h_298_28 {d x : Nat} {V : pV} {G : sm_G} {L : sm_L} {v1 v2 v3 v4 : Int32} : hD d 298 28 [.ref 156, .int v1, .int v2, .int v3, .int v4] 342 (RR V) x G L =
  if v4 < (G 156 36) then
    (if v3 = (i3 0) then
      (hD d 298 28 [.ref 156, .int v1, .int v2, .int (i3 0), .int (v4 + (i3 1))] 342 (RR V) x G L)
    else (gd (sm_in v4 12) (ldi (RR V 252 v4.toNatClampNeg) (i3 1) G (fun y1 => gd (sm_in y1 301) (gd (sm_in v4 12) (ldi (RR V 252 v4.toNatClampNeg) (i3 0) G (fun y3 => if ((shr (G 307 y1.toNatClampNeg) v2) &&& (i3 1)) = y3 then
        (hD d 298 28 [.ref 156, .int v1, .int v2, .int (i3 1), .int (v4 + (i3 1))] 342 (RR V) x G L)
      else (hD d 298 28 [.ref 156, .int v1, .int v2, .int (i3 0), .int (v4 + (i3 1))] 342 (RR V) x G L))))))))
  else (if v3 = (i3 0) then
      (hD d 298 13 [.ref 156, .int (v1 ||| (i3 0)), .int (v2 + (i3 1)), .null, .null] 342 (RR V) x G L)
    else (hD d 298 13 [.ref 156, .int (v1 ||| (shl (i3 1) v2)), .int (v2 + (i3 1)), .null, .null] 342 (RR V) x G L)) := by
  rw [rh_298_28]
  try simp only [gd_tt, (q_156_28 V), (q_156_44 V), a_252, k_156, ldi_e k_307 n_307, n_252, n_307]
/-! M_want -/
set_option maxRecDepth 20000 in
theorem rm_299 {d x : Nat} {R : sm_R} {G : sm_G} {L : sm_L} {v1 v2 : Int32} : sm_cv0 (d + 1) 299 342 R [.ref 156, .int v1, .int v2] (x, G, L) =
  sm_aI (sm_cv0 d 218 342 R [.int v1, .int (i3 0), .int (i3 8)] (x, sm_up G 156 0 (i3 0), L)) (fun a1 x1 G1 L1 =>
    if a1 = (i3 0) then
      (sm_aI (sm_cv0 d 219 342 R [.ref 156, .int (i3 1), .int (i3 1), .int (i3 2)] (x1, G1, L1)) (fun a2 x2 G2 L2 =>
        if a2 = (i3 0) then
          (hD d 299 40 [.ref 156, .int v1, .int v2, .null, .null, .null] 342 R x2 G2 L2)
        else (oI (i3 0) x2 G2 L2)) oX)
    else (sm_aI (sm_cv0 d 218 342 R [.int v2, .int (i3 0), .int (i3 1)] (x1, G1, L1)) (fun a3 x3 G3 L3 =>
        if a3 = (i3 0) then
          (sm_aI (sm_cv0 d 219 342 R [.ref 156, .int (i3 1), .int (i3 1), .int (i3 2)] (x3, G3, L3)) (fun a4 x4 G4 L4 =>
            if a4 = (i3 0) then
              (hD d 299 40 [.ref 156, .int v1, .int v2, .null, .null, .null] 342 R x4 G4 L4)
            else (oI (i3 0) x4 G4 L4)) oX)
        else (sm_aI (sm_cv0 d 219 342 R [.ref 156, .int (i3 0), .int (i3 1), .int (i3 2)] (x3, G3, L3)) (fun a5 x5 G5 L5 =>
            if a5 = (i3 0) then
              (hD d 299 40 [.ref 156, .int v1, .int v2, .null, .null, .null] 342 R x5 G5 L5)
            else (oI (i3 0) x5 G5 L5)) oX)) oX)) oX := (cv_eq rfl rfl).trans (hD_eq.trans rfl)
set_option maxRecDepth 20000 in
theorem m_299 {d x : Nat} {V : pV} {G : sm_G} {L : sm_L} {v1 v2 : Int32} : sm_cv0 (d + 1) 299 342 (RR V) [.ref 156, .int v1, .int v2] (x, G, L) =
  sm_aI (sm_cv0 d 218 342 (RR V) [.int v1, .int (i3 0), .int (i3 8)] (x, sm_up G 156 0 (i3 0), L)) (fun a1 x1 G1 L1 =>
    if a1 = (i3 0) then
      (sm_aI (sm_cv0 d 219 342 (RR V) [.ref 156, .int (i3 1), .int (i3 1), .int (i3 2)] (x1, G1, L1)) (fun a2 x2 G2 L2 =>
        if a2 = (i3 0) then
          (hD d 299 40 [.ref 156, .int v1, .int v2, .null, .null, .null] 342 (RR V) x2 G2 L2)
        else (oI (i3 0) x2 G2 L2)) oX)
    else (sm_aI (sm_cv0 d 218 342 (RR V) [.int v2, .int (i3 0), .int (i3 1)] (x1, G1, L1)) (fun a3 x3 G3 L3 =>
        if a3 = (i3 0) then
          (sm_aI (sm_cv0 d 219 342 (RR V) [.ref 156, .int (i3 1), .int (i3 1), .int (i3 2)] (x3, G3, L3)) (fun a4 x4 G4 L4 =>
            if a4 = (i3 0) then
              (hD d 299 40 [.ref 156, .int v1, .int v2, .null, .null, .null] 342 (RR V) x4 G4 L4)
            else (oI (i3 0) x4 G4 L4)) oX)
        else (sm_aI (sm_cv0 d 219 342 (RR V) [.ref 156, .int (i3 0), .int (i3 1), .int (i3 2)] (x3, G3, L3)) (fun a5 x5 G5 L5 =>
            if a5 = (i3 0) then
              (hD d 299 40 [.ref 156, .int v1, .int v2, .null, .null, .null] 342 (RR V) x5 G5 L5)
            else (oI (i3 0) x5 G5 L5)) oX)) oX)) oX := by
  rw [rm_299]
  try simp only [gd_tt, k_156]
set_option maxRecDepth 20000 in
theorem rh_299_40 {d x : Nat} {R : sm_R} {G : sm_G} {L : sm_L} {v1 v2 : Int32} : hD d 299 40 [.ref 156, .int v1, .int v2, .null, .null, .null] 342 R x G L =
  sm_aV (sm_cv0 d 300 342 R [.ref 156, .int v1] (x, G, L)) (fun x1 G1 L1 =>
    sm_aI (sm_cv0 d 260 342 R [.ref 156] (x1, G1, L1)) (fun a2 x2 G2 L2 =>
      gd (Nat.ble 24 (sm_K (R 156 61)) && Nat.ble (sm_K (R 156 61)) 27 && Nat.ble (R 156 61) 342) (gd (sm_in v1 (sm_N (R 156 61))) (ldi (R (R 156 61) v1.toNatClampNeg) a2 G2 (fun y3 => if v2 = (i3 0) then
        (oI y3 x2 G2 L2)
      else (hD d 299 70 [.ref 156, .int v1, .null, .int a2, .int y3, .int (i3 0)] 342 R x2 G2 L2))))) oX) oX := hD_eq.trans rfl
set_option maxRecDepth 20000 in
theorem h_299_40 {d x : Nat} {V : pV} {G : sm_G} {L : sm_L} {v1 v2 : Int32} : hD d 299 40 [.ref 156, .int v1, .int v2, .null, .null, .null] 342 (RR V) x G L =
  sm_aV (sm_cv0 d 300 342 (RR V) [.ref 156, .int v1] (x, G, L)) (fun x1 G1 L1 =>
    sm_aI (sm_cv0 d 260 342 (RR V) [.ref 156] (x1, G1, L1)) (fun a2 x2 G2 L2 =>
      gd (sm_in v1 9) (ldi (RR V 332 v1.toNatClampNeg) a2 G2 (fun y3 => if v2 = (i3 0) then
        (oI y3 x2 G2 L2)
      else (hD d 299 70 [.ref 156, .int v1, .null, .int a2, .int y3, .int (i3 0)] 342 (RR V) x2 G2 L2)))) oX) oX := by
  rw [rh_299_40]
  try simp only [gd_tt, (q_156_61 V), a_332, k_156, n_332]
set_option maxRecDepth 20000 in
theorem rh_299_70 {d x : Nat} {R : sm_R} {G : sm_G} {L : sm_L} {v1 v3 v4 v5 : Int32} : hD d 299 70 [.ref 156, .int v1, .null, .int v3, .int v4, .int v5] 342 R x G L =
  if v5 < (i3 6) then
    (if v1 ≤ (i3 0) then
      (oI m1 x G L)
    else (ldi (R 156 16) v5 G (fun y1 => if y1 = (i3 0) then
        (hD d 299 70 [.ref 156, .int v1, .null, .int v3, .int v4, .int (v5 + (i3 1))] 342 R x G L)
      else (gd (Nat.ble 24 (sm_K (R 156 61)) && Nat.ble (sm_K (R 156 61)) 27 && Nat.ble (R 156 61) 342) (gd (sm_in (v1 - (i3 1)) (sm_N (R 156 61))) (ldi (R 156 16) v5 G (fun y2 => ldi (R (R 156 61) (v1 - (i3 1)).toNatClampNeg) (v3 ^^^ y2) G (fun y3 => if y3 = v4 then
          (oI v5 x G L)
        else (hD d 299 70 [.ref 156, .int v1, .null, .int v3, .int v4, .int (v5 + (i3 1))] 342 R x G L)))))))))
  else (oI m1 x G L) := hD_eq.trans rfl
set_option maxRecDepth 20000 in
theorem h_299_70 {d x : Nat} {V : pV} {G : sm_G} {L : sm_L} {v1 v3 v4 v5 : Int32} : hD d 299 70 [.ref 156, .int v1, .null, .int v3, .int v4, .int v5] 342 (RR V) x G L =
  if v5 < (i3 6) then
    (if v1 ≤ (i3 0) then
      (oI m1 x G L)
    else (gd (sm_in v5 6) (if (G 164 v5.toNatClampNeg) = (i3 0) then
        (hD d 299 70 [.ref 156, .int v1, .null, .int v3, .int v4, .int (v5 + (i3 1))] 342 (RR V) x G L)
      else (gd (sm_in (v1 - (i3 1)) 9) (gd (sm_in v5 6) (ldi (RR V 332 (v1 - (i3 1)).toNatClampNeg) (v3 ^^^ (G 164 v5.toNatClampNeg)) G (fun y3 => if y3 = v4 then
          (oI v5 x G L)
        else (hD d 299 70 [.ref 156, .int v1, .null, .int v3, .int v4, .int (v5 + (i3 1))] 342 (RR V) x G L))))))))
  else (oI m1 x G L) := by
  rw [rh_299_70]
  try simp only [gd_tt, (q_156_16 V), (q_156_61 V), a_332, k_156, ldi_e k_164 n_164, n_164, n_332]
/-! M_laysWanted -/
set_option maxRecDepth 20000 in
theorem rm_300 {d x : Nat} {R : sm_R} {G : sm_G} {L : sm_L} {v1 : Int32} : sm_cv0 (d + 1) 300 342 R [.ref 156, .int v1] (x, G, L) =
  hD d 300 2 [.ref 156, .int v1, .int (i3 0), .null, .null, .null, .null, .null] 342 R x G L := (cv_eq rfl rfl).trans (hD_eq.trans rfl)
theorem m_300 {d x : Nat} {V : pV} {G : sm_G} {L : sm_L} {v1 : Int32} : sm_cv0 (d + 1) 300 342 (RR V) [.ref 156, .int v1] (x, G, L) =
  hD d 300 2 [.ref 156, .int v1, .int (i3 0), .null, .null, .null, .null, .null] 342 (RR V) x G L := rm_300
set_option maxRecDepth 20000 in
theorem rh_300_2 {d x : Nat} {R : sm_R} {G : sm_G} {L : sm_L} {v1 v2 : Int32} : hD d 300 2 [.ref 156, .int v1, .int v2, .null, .null, .null, .null, .null] 342 R x G L =
  if v2 ≤ v1 then
    (if (irem (v1 - v2) (i3 2)) = (i3 0) then
      (hD d 300 24 [.ref 156, .int v1, .int v2, .int (i3 1), .int (i3 0), .null, .null, .null] 342 R x G L)
    else (hD d 300 24 [.ref 156, .int v1, .int v2, .int (i3 0), .int (i3 0), .null, .null, .null] 342 R x G L))
  else (oV x G L) := hD_eq.trans rfl
theorem h_300_2 {d x : Nat} {V : pV} {G : sm_G} {L : sm_L} {v1 v2 : Int32} : hD d 300 2 [.ref 156, .int v1, .int v2, .null, .null, .null, .null, .null] 342 (RR V) x G L =
  if v2 ≤ v1 then
    (if (irem (v1 - v2) (i3 2)) = (i3 0) then
      (hD d 300 24 [.ref 156, .int v1, .int v2, .int (i3 1), .int (i3 0), .null, .null, .null] 342 (RR V) x G L)
    else (hD d 300 24 [.ref 156, .int v1, .int v2, .int (i3 0), .int (i3 0), .null, .null, .null] 342 (RR V) x G L))
  else (oV x G L) := rh_300_2
set_option maxRecDepth 20000 in
theorem rh_300_24 {d x : Nat} {R : sm_R} {G : sm_G} {L : sm_L} {v1 v2 v3 v4 : Int32} : hD d 300 24 [.ref 156, .int v1, .int v2, .int v3, .int v4, .null, .null, .null] 342 R x G L =
  ldi (R 156 12) (i3 1) G (fun y1 => if v4 < (shl (i3 1) y1) then
    (hD d 300 43 [.ref 156, .int v1, .int v2, .int v3, .int v4, .int m1, .int (i3 0), .null] 342 R x G L)
  else (hD d 300 2 [.ref 156, .int v1, .int (v2 + (i3 1)), .null, .null, .null, .null, .null] 342 R x G L)) := hD_eq.trans rfl
set_option maxRecDepth 20000 in
theorem h_300_24 {d x : Nat} {V : pV} {G : sm_G} {L : sm_L} {v1 v2 v3 v4 : Int32} : hD d 300 24 [.ref 156, .int v1, .int v2, .int v3, .int v4, .null, .null, .null] 342 (RR V) x G L =
  if v4 < (shl (i3 1) (G 160 1)) then
    (hD d 300 43 [.ref 156, .int v1, .int v2, .int v3, .int v4, .int m1, .int (i3 0), .null] 342 (RR V) x G L)
  else (hD d 300 2 [.ref 156, .int v1, .int (v2 + (i3 1)), .null, .null, .null, .null, .null] 342 (RR V) x G L) := by
  rw [rh_300_24]
  try simp only [gd_tt, (q_156_12 V), cl_1, inl_1_6, k_156, ldi_e k_160 n_160, n_160]
set_option maxRecDepth 20000 in
theorem rh_300_43 {d x : Nat} {R : sm_R} {G : sm_G} {L : sm_L} {v1 v2 v3 v4 v5 v6 : Int32} : hD d 300 43 [.ref 156, .int v1, .int v2, .int v3, .int v4, .int v5, .int v6, .null] 342 R x G L =
  if v6 < (i3 6) then
    (if v2 ≤ (i3 0) then
      (hD d 300 130 [.ref 156, .int v1, .int v2, .int v3, .int v4, .int v5, .null, .null] 342 R x G L)
    else (ldi (R 156 16) v6 G (fun y1 => if y1 = (i3 0) then
        (hD d 300 124 [.ref 156, .int v1, .int v2, .int v3, .int v4, .int v5, .int v6, .null] 342 R x G L)
      else (gd (Nat.ble 24 (sm_K (R 156 61)) && Nat.ble (sm_K (R 156 61)) 27 && Nat.ble (R 156 61) 342) (gd (sm_in (v2 - (i3 1)) (sm_N (R 156 61))) (ldi (R 156 16) v6 G (fun y2 => ldi (R (R 156 61) (v2 - (i3 1)).toNatClampNeg) (v4 ^^^ y2) G (fun y3 => if v5 = m1 then
          (hD d 300 124 [.ref 156, .int v1, .int v2, .int v3, .int v4, .int y3, .int v6, .null] 342 R x G L)
        else (if v3 = (i3 0) then
            (if y3 < v5 then
              (hD d 300 124 [.ref 156, .int v1, .int v2, .int v3, .int v4, .int y3, .int v6, .null] 342 R x G L)
            else (hD d 300 124 [.ref 156, .int v1, .int v2, .int v3, .int v4, .int v5, .int v6, .null] 342 R x G L))
          else (if y3 ≤ v5 then
              (hD d 300 124 [.ref 156, .int v1, .int v2, .int v3, .int v4, .int v5, .int v6, .null] 342 R x G L)
            else (hD d 300 124 [.ref 156, .int v1, .int v2, .int v3, .int v4, .int y3, .int v6, .null] 342 R x G L)))))))))))
  else (hD d 300 130 [.ref 156, .int v1, .int v2, .int v3, .int v4, .int v5, .null, .null] 342 R x G L) := hD_eq.trans rfl
set_option maxRecDepth 20000 in
theorem h_300_43 {d x : Nat} {V : pV} {G : sm_G} {L : sm_L} {v1 v2 v3 v4 v5 v6 : Int32} : hD d 300 43 [.ref 156, .int v1, .int v2, .int v3, .int v4, .int v5, .int v6, .null] 342 (RR V) x G L =
  if v6 < (i3 6) then
    (if v2 ≤ (i3 0) then
      (hD d 300 130 [.ref 156, .int v1, .int v2, .int v3, .int v4, .int v5, .null, .null] 342 (RR V) x G L)
    else (gd (sm_in v6 6) (if (G 164 v6.toNatClampNeg) = (i3 0) then
        (hD d 300 124 [.ref 156, .int v1, .int v2, .int v3, .int v4, .int v5, .int v6, .null] 342 (RR V) x G L)
      else (gd (sm_in (v2 - (i3 1)) 9) (gd (sm_in v6 6) (ldi (RR V 332 (v2 - (i3 1)).toNatClampNeg) (v4 ^^^ (G 164 v6.toNatClampNeg)) G (fun y3 => if v5 = m1 then
          (hD d 300 124 [.ref 156, .int v1, .int v2, .int v3, .int v4, .int y3, .int v6, .null] 342 (RR V) x G L)
        else (if v3 = (i3 0) then
            (if y3 < v5 then
              (hD d 300 124 [.ref 156, .int v1, .int v2, .int v3, .int v4, .int y3, .int v6, .null] 342 (RR V) x G L)
            else (hD d 300 124 [.ref 156, .int v1, .int v2, .int v3, .int v4, .int v5, .int v6, .null] 342 (RR V) x G L))
          else (if y3 ≤ v5 then
              (hD d 300 124 [.ref 156, .int v1, .int v2, .int v3, .int v4, .int v5, .int v6, .null] 342 (RR V) x G L)
            else (hD d 300 124 [.ref 156, .int v1, .int v2, .int v3, .int v4, .int y3, .int v6, .null] 342 (RR V) x G L))))))))))
  else (hD d 300 130 [.ref 156, .int v1, .int v2, .int v3, .int v4, .int v5, .null, .null] 342 (RR V) x G L) := by
  rw [rh_300_43]
  try simp only [gd_tt, (q_156_16 V), (q_156_61 V), a_332, k_156, ldi_e k_164 n_164, n_164, n_332]
set_option maxRecDepth 20000 in
theorem rh_300_124 {d x : Nat} {R : sm_R} {G : sm_G} {L : sm_L} {v1 v2 v3 v4 v5 v6 : Int32} : hD d 300 124 [.ref 156, .int v1, .int v2, .int v3, .int v4, .int v5, .int v6, .null] 342 R x G L =
  hD d 300 43 [.ref 156, .int v1, .int v2, .int v3, .int v4, .int v5, .int (v6 + (i3 1)), .null] 342 R x G L := hD_eq.trans rfl
theorem h_300_124 {d x : Nat} {V : pV} {G : sm_G} {L : sm_L} {v1 v2 v3 v4 v5 v6 : Int32} : hD d 300 124 [.ref 156, .int v1, .int v2, .int v3, .int v4, .int v5, .int v6, .null] 342 (RR V) x G L =
  hD d 300 43 [.ref 156, .int v1, .int v2, .int v3, .int v4, .int v5, .int (v6 + (i3 1)), .null] 342 (RR V) x G L := rh_300_124
set_option maxRecDepth 20000 in
theorem rh_300_130 {d x : Nat} {R : sm_R} {G : sm_G} {L : sm_L} {v1 v2 v3 v4 v5 : Int32} : hD d 300 130 [.ref 156, .int v1, .int v2, .int v3, .int v4, .int v5, .null, .null] 342 R x G L =
  gd (Nat.ble 24 (sm_K (R 156 61)) && Nat.ble (sm_K (R 156 61)) 27 && Nat.ble (R 156 61) 342) (gd (sm_in v2 (sm_N (R 156 61))) (if v5 = m1 then
    (sm_aI (sm_cv0 d 291 342 R [.int v4] (x, G, L)) (fun a1 x1 G1 L1 =>
      gd (sm_is (R (R 156 61) v2.toNatClampNeg) 342 20) (gd (sm_in v4 (sm_N (R (R 156 61) v2.toNatClampNeg))) (hD d 300 24 [.ref 156, .int v1, .int v2, .int v3, .int (v4 + (i3 1)), .null, .null, .null] 342 R x1 (sm_up G1 (R (R 156 61) v2.toNatClampNeg) v4.toNatClampNeg a1) L1))) oX)
  else (gd (sm_is (R (R 156 61) v2.toNatClampNeg) 342 20) (gd (sm_in v4 (sm_N (R (R 156 61) v2.toNatClampNeg))) (hD d 300 24 [.ref 156, .int v1, .int v2, .int v3, .int (v4 + (i3 1)), .null, .null, .null] 342 R x (sm_up G (R (R 156 61) v2.toNatClampNeg) v4.toNatClampNeg v5) L))))) := hD_eq.trans rfl
set_option maxRecDepth 20000 in
theorem h_300_130 {d x : Nat} {V : pV} {G : sm_G} {L : sm_L} {v1 v2 v3 v4 v5 : Int32} : hD d 300 130 [.ref 156, .int v1, .int v2, .int v3, .int v4, .int v5, .null, .null] 342 (RR V) x G L =
  gd (sm_in v2 9) (if v5 = m1 then
    (sm_aI (sm_cv0 d 291 342 (RR V) [.int v4] (x, G, L)) (fun a1 x1 G1 L1 =>
      gd (sm_is (RR V 332 v2.toNatClampNeg) 342 20) (gd (sm_in v4 (sm_N (RR V 332 v2.toNatClampNeg))) (hD d 300 24 [.ref 156, .int v1, .int v2, .int v3, .int (v4 + (i3 1)), .null, .null, .null] 342 (RR V) x1 (sm_up G1 (RR V 332 v2.toNatClampNeg) v4.toNatClampNeg a1) L1))) oX)
  else (gd (sm_is (RR V 332 v2.toNatClampNeg) 342 20) (gd (sm_in v4 (sm_N (RR V 332 v2.toNatClampNeg))) (hD d 300 24 [.ref 156, .int v1, .int v2, .int v3, .int (v4 + (i3 1)), .null, .null, .null] 342 (RR V) x (sm_up G (RR V 332 v2.toNatClampNeg) v4.toNatClampNeg v5) L)))) := by
  rw [rh_300_130]
  try simp only [gd_tt, (q_156_61 V), a_332, k_156, n_332]
/-! M_surest -/
set_option maxRecDepth 20000 in
theorem rm_301 {d x : Nat} {R : sm_R} {G : sm_G} {L : sm_L} {v1 v2 v3 : Int32} : sm_cv0 (d + 1) 301 342 R [.ref 156, .int v1, .int v2, .int v3] (x, G, L) =
  sm_aI (sm_cv0 d 283 342 R [.ref 156, .int v1, .int v2] (x, sm_up G 156 0 (i3 0), L)) (fun a1 x1 G1 L1 =>
    if a1 = (i3 0) then
      (sm_aI (sm_cv0 d 219 342 R [.ref 156, .int (i3 1), .int (i3 1), .int (i3 0)] (x1, G1, L1)) (fun a2 x2 G2 L2 =>
        if a2 = (i3 0) then
          (hD d 301 28 [.ref 156, .int v1, .int v2, .int v3, .null, .null, .null, .null, .null, .null] 342 R x2 G2 L2)
        else (oL (i6 0) x2 G2 L2)) oX)
    else (sm_aI (sm_cv0 d 219 342 R [.ref 156, .int (i3 0), .int (i3 1), .int (i3 0)] (x1, G1, L1)) (fun a3 x3 G3 L3 =>
        if a3 = (i3 0) then
          (hD d 301 28 [.ref 156, .int v1, .int v2, .int v3, .null, .null, .null, .null, .null, .null] 342 R x3 G3 L3)
        else (oL (i6 0) x3 G3 L3)) oX)) oX := (cv_eq rfl rfl).trans (hD_eq.trans rfl)
set_option maxRecDepth 20000 in
theorem m_301 {d x : Nat} {V : pV} {G : sm_G} {L : sm_L} {v1 v2 v3 : Int32} : sm_cv0 (d + 1) 301 342 (RR V) [.ref 156, .int v1, .int v2, .int v3] (x, G, L) =
  sm_aI (sm_cv0 d 283 342 (RR V) [.ref 156, .int v1, .int v2] (x, sm_up G 156 0 (i3 0), L)) (fun a1 x1 G1 L1 =>
    if a1 = (i3 0) then
      (sm_aI (sm_cv0 d 219 342 (RR V) [.ref 156, .int (i3 1), .int (i3 1), .int (i3 0)] (x1, G1, L1)) (fun a2 x2 G2 L2 =>
        if a2 = (i3 0) then
          (hD d 301 28 [.ref 156, .int v1, .int v2, .int v3, .null, .null, .null, .null, .null, .null] 342 (RR V) x2 G2 L2)
        else (oL (i6 0) x2 G2 L2)) oX)
    else (sm_aI (sm_cv0 d 219 342 (RR V) [.ref 156, .int (i3 0), .int (i3 1), .int (i3 0)] (x1, G1, L1)) (fun a3 x3 G3 L3 =>
        if a3 = (i3 0) then
          (hD d 301 28 [.ref 156, .int v1, .int v2, .int v3, .null, .null, .null, .null, .null, .null] 342 (RR V) x3 G3 L3)
        else (oL (i6 0) x3 G3 L3)) oX)) oX := by
  rw [rm_301]
  try simp only [gd_tt, k_156]
set_option maxRecDepth 20000 in
theorem rh_301_28 {d x : Nat} {R : sm_R} {G : sm_G} {L : sm_L} {v1 v2 v3 : Int32} : hD d 301 28 [.ref 156, .int v1, .int v2, .int v3, .null, .null, .null, .null, .null, .null] 342 R x G L =
  sm_aI (sm_cv0 d 218 342 R [.int v3, .int (i3 0), .int (i3 3)] (x, G, L)) (fun a1 x1 G1 L1 =>
    if a1 = (i3 0) then
      (sm_aI (sm_cv0 d 219 342 R [.ref 156, .int (i3 1), .int (i3 2), .int (i3 2)] (x1, G1, L1)) (fun a2 x2 G2 L2 =>
        if a2 = (i3 0) then
          (hD d 301 53 [.ref 156, .int v1, .int v2, .int v3, .null, .null, .null, .null, .null, .null] 342 R x2 G2 L2)
        else (oL (i6 0) x2 G2 L2)) oX)
    else (sm_aI (sm_cv0 d 219 342 R [.ref 156, .int (i3 0), .int (i3 2), .int (i3 2)] (x1, G1, L1)) (fun a3 x3 G3 L3 =>
        if a3 = (i3 0) then
          (hD d 301 53 [.ref 156, .int v1, .int v2, .int v3, .null, .null, .null, .null, .null, .null] 342 R x3 G3 L3)
        else (oL (i6 0) x3 G3 L3)) oX)) oX := hD_eq.trans rfl
set_option maxRecDepth 20000 in
theorem h_301_28 {d x : Nat} {V : pV} {G : sm_G} {L : sm_L} {v1 v2 v3 : Int32} : hD d 301 28 [.ref 156, .int v1, .int v2, .int v3, .null, .null, .null, .null, .null, .null] 342 (RR V) x G L =
  sm_aI (sm_cv0 d 218 342 (RR V) [.int v3, .int (i3 0), .int (i3 3)] (x, G, L)) (fun a1 x1 G1 L1 =>
    if a1 = (i3 0) then
      (sm_aI (sm_cv0 d 219 342 (RR V) [.ref 156, .int (i3 1), .int (i3 2), .int (i3 2)] (x1, G1, L1)) (fun a2 x2 G2 L2 =>
        if a2 = (i3 0) then
          (hD d 301 53 [.ref 156, .int v1, .int v2, .int v3, .null, .null, .null, .null, .null, .null] 342 (RR V) x2 G2 L2)
        else (oL (i6 0) x2 G2 L2)) oX)
    else (sm_aI (sm_cv0 d 219 342 (RR V) [.ref 156, .int (i3 0), .int (i3 2), .int (i3 2)] (x1, G1, L1)) (fun a3 x3 G3 L3 =>
        if a3 = (i3 0) then
          (hD d 301 53 [.ref 156, .int v1, .int v2, .int v3, .null, .null, .null, .null, .null, .null] 342 (RR V) x3 G3 L3)
        else (oL (i6 0) x3 G3 L3)) oX)) oX := by
  rw [rh_301_28]
  try simp only [gd_tt, k_156]
set_option maxRecDepth 20000 in
theorem rh_301_53 {d x : Nat} {R : sm_R} {G : sm_G} {L : sm_L} {v1 v2 v3 : Int32} : hD d 301 53 [.ref 156, .int v1, .int v2, .int v3, .null, .null, .null, .null, .null, .null] 342 R x G L =
  sm_aV (sm_cv0 d 302 342 R [.ref 156, .int v1, .int v2, .int (shl (i3 1) v1), .int (i3 0), .long (i6 1), .long (i6 0)] (x, sm_up G 156 64 m1, L)) (fun x1 G1 L1 =>
    if (G1 156 64) = m1 then
      (oL (n6 1) x1 G1 L1)
    else (if v3 ≤ (i3 1) then
        (hD d 301 116 [.ref 156, .null, .null, .int v3, .long (i6 4294967296), .null, .long (L1 156 62), .null, .null, .null] 342 R x1 G1 L1)
      else (if v3 = (i3 2) then
          (oL (Int32.toInt64 (G1 156 64)) x1 G1 L1)
        else (oL (L1 156 63) x1 G1 L1)))) oX := hD_eq.trans rfl
set_option maxRecDepth 20000 in
theorem h_301_53 {d x : Nat} {V : pV} {G : sm_G} {L : sm_L} {v1 v2 v3 : Int32} : hD d 301 53 [.ref 156, .int v1, .int v2, .int v3, .null, .null, .null, .null, .null, .null] 342 (RR V) x G L =
  sm_aV (sm_cv0 d 302 342 (RR V) [.ref 156, .int v1, .int v2, .int (shl (i3 1) v1), .int (i3 0), .long (i6 1), .long (i6 0)] (x, sm_up G 156 64 m1, L)) (fun x1 G1 L1 =>
    if (G1 156 64) = m1 then
      (oL (n6 1) x1 G1 L1)
    else (if v3 ≤ (i3 1) then
        (hD d 301 116 [.ref 156, .null, .null, .int v3, .long (i6 4294967296), .null, .long (L1 156 62), .null, .null, .null] 342 (RR V) x1 G1 L1)
      else (if v3 = (i3 2) then
          (oL (Int32.toInt64 (G1 156 64)) x1 G1 L1)
        else (oL (L1 156 63) x1 G1 L1)))) oX := by
  rw [rh_301_53]
  try simp only [gd_tt, k_156]
set_option maxRecDepth 20000 in
theorem rh_301_116 {d x : Nat} {R : sm_R} {G : sm_G} {L : sm_L} {v3 : Int32} {w4 w6 : Int64} : hD d 301 116 [.ref 156, .null, .null, .int v3, .long w4, .null, .long w6, .null, .null, .null] 342 R x G L =
  if w6 < (i6 0) then (if w6 = 0 then none else (hD d 301 134 [.ref 156, .null, .null, .int v3, .long w6, .null, .null, .null, .long (lrem w4 w6), .null] 342 R x G L)) else if w6 = (i6 0) then (if v3 = (i3 0) then
      (if w4 = 0 then none else (oL ((L 156 62) / w4) x G L))
    else (if w4 = 0 then none else (oL ((i6 4294967296) / w4) x G L))) else (if w6 = 0 then none else (hD d 301 134 [.ref 156, .null, .null, .int v3, .long w6, .null, .null, .null, .long (lrem w4 w6), .null] 342 R x G L)) := hD_eq.trans rfl
set_option maxRecDepth 20000 in
theorem h_301_116 {d x : Nat} {V : pV} {G : sm_G} {L : sm_L} {v3 : Int32} {w4 w6 : Int64} : hD d 301 116 [.ref 156, .null, .null, .int v3, .long w4, .null, .long w6, .null, .null, .null] 342 (RR V) x G L =
  if w6 < (i6 0) then (if w6 = 0 then none else (hD d 301 134 [.ref 156, .null, .null, .int v3, .long w6, .null, .null, .null, .long (lrem w4 w6), .null] 342 (RR V) x G L)) else if w6 = (i6 0) then (if v3 = (i3 0) then
      (if w4 = 0 then none else (oL ((L 156 62) / w4) x G L))
    else (if w4 = 0 then none else (oL ((i6 4294967296) / w4) x G L))) else (if w6 = 0 then none else (hD d 301 134 [.ref 156, .null, .null, .int v3, .long w6, .null, .null, .null, .long (lrem w4 w6), .null] 342 (RR V) x G L)) := by
  rw [rh_301_116]
  try simp only [gd_tt, k_156]
set_option maxRecDepth 20000 in
theorem rh_301_134 {d x : Nat} {R : sm_R} {G : sm_G} {L : sm_L} {v3 : Int32} {w4 w8 : Int64} : hD d 301 134 [.ref 156, .null, .null, .int v3, .long w4, .null, .null, .null, .long w8, .null] 342 R x G L =
  hD d 301 116 [.ref 156, .null, .null, .int v3, .long w4, .null, .long w8, .null, .null, .null] 342 R x G L := hD_eq.trans rfl
theorem h_301_134 {d x : Nat} {V : pV} {G : sm_G} {L : sm_L} {v3 : Int32} {w4 w8 : Int64} : hD d 301 134 [.ref 156, .null, .null, .int v3, .long w4, .null, .null, .null, .long w8, .null] 342 (RR V) x G L =
  hD d 301 116 [.ref 156, .null, .null, .int v3, .long w4, .null, .long w8, .null, .null, .null] 342 (RR V) x G L := rh_301_134
/-! M_sures -/
set_option maxRecDepth 20000 in
theorem rm_302 {d x : Nat} {R : sm_R} {G : sm_G} {L : sm_L} {v1 v2 v3 v4 : Int32} {w5 w7 : Int64} : sm_cv0 (d + 1) 302 342 R [.ref 156, .int v1, .int v2, .int v3, .int v4, .long w5, .long w7] (x, G, L) =
  gd (Nat.ble 24 (sm_K (R 156 18)) && Nat.ble (sm_K (R 156 18)) 27 && Nat.ble (R 156 18) 342) (gd (sm_in v1 (sm_N (R 156 18))) (ldi (R (R 156 18) v1.toNatClampNeg) (i3 2) G (fun y1 => hD d 302 28 [.ref 156, .int v1, .int v2, .int v3, .int v4, .null, .null, .null, .null, .long (w5 * (Int32.toInt64 ((i3 16) - y1))), .null, .long (((i6 10) * w7) + (Int32.toInt64 v1)), .null, .null, .null, .null, .null, .null] 342 R x G L))) := (cv_eq rfl rfl).trans (hD_eq.trans rfl)
set_option maxRecDepth 20000 in
theorem m_302 {d x : Nat} {V : pV} {G : sm_G} {L : sm_L} {v1 v2 v3 v4 : Int32} {w5 w7 : Int64} : sm_cv0 (d + 1) 302 342 (RR V) [.ref 156, .int v1, .int v2, .int v3, .int v4, .long w5, .long w7] (x, G, L) =
  gd (sm_in v1 8) (ldi (RR V 174 v1.toNatClampNeg) (i3 2) G (fun y1 => hD d 302 28 [.ref 156, .int v1, .int v2, .int v3, .int v4, .null, .null, .null, .null, .long (w5 * (Int32.toInt64 ((i3 16) - y1))), .null, .long (((i6 10) * w7) + (Int32.toInt64 v1)), .null, .null, .null, .null, .null, .null] 342 (RR V) x G L)) := by
  rw [rm_302]
  try simp only [gd_tt, (q_156_18 V), a_174, k_156, n_174]
set_option maxRecDepth 20000 in
theorem rh_302_28 {d x : Nat} {R : sm_R} {G : sm_G} {L : sm_L} {v1 v2 v3 v4 : Int32} {w9 w11 : Int64} : hD d 302 28 [.ref 156, .int v1, .int v2, .int v3, .int v4, .null, .null, .null, .null, .long w9, .null, .long w11, .null, .null, .null, .null, .null, .null] 342 R x G L =
  if v1 = v2 then
    (hD d 302 43 [.ref 156, .null, .null, .null, .null, .null, .null, .null, .null, .null, .null, .long w11, .null, .int (v4 + (i3 1)), .long w9, .null, .null, .null] 342 R x G L)
  else (hD d 302 128 [.ref 156, .int v1, .int v2, .int v3, .null, .null, .null, .null, .null, .long w9, .null, .long w11, .null, .int (v4 + (i3 1)), .int (i3 0), .null, .null, .null] 342 R x G L) := hD_eq.trans rfl
theorem h_302_28 {d x : Nat} {V : pV} {G : sm_G} {L : sm_L} {v1 v2 v3 v4 : Int32} {w9 w11 : Int64} : hD d 302 28 [.ref 156, .int v1, .int v2, .int v3, .int v4, .null, .null, .null, .null, .long w9, .null, .long w11, .null, .null, .null, .null, .null, .null] 342 (RR V) x G L =
  if v1 = v2 then
    (hD d 302 43 [.ref 156, .null, .null, .null, .null, .null, .null, .null, .null, .null, .null, .long w11, .null, .int (v4 + (i3 1)), .long w9, .null, .null, .null] 342 (RR V) x G L)
  else (hD d 302 128 [.ref 156, .int v1, .int v2, .int v3, .null, .null, .null, .null, .null, .long w9, .null, .long w11, .null, .int (v4 + (i3 1)), .int (i3 0), .null, .null, .null] 342 (RR V) x G L) := rh_302_28
set_option maxRecDepth 20000 in
theorem rh_302_43 {d x : Nat} {R : sm_R} {G : sm_G} {L : sm_L} {v13 : Int32} {w11 w14 : Int64} : hD d 302 43 [.ref 156, .null, .null, .null, .null, .null, .null, .null, .null, .null, .null, .long w11, .null, .int v13, .long w14, .null, .null, .null] 342 R x G L =
  hD d 302 47 [.ref 156, .null, .null, .null, .null, .null, .null, .null, .null, .null, .null, .long w11, .null, .int v13, .long w14, .null, .int v13, .null] 342 R x G L := hD_eq.trans rfl
theorem h_302_43 {d x : Nat} {V : pV} {G : sm_G} {L : sm_L} {v13 : Int32} {w11 w14 : Int64} : hD d 302 43 [.ref 156, .null, .null, .null, .null, .null, .null, .null, .null, .null, .null, .long w11, .null, .int v13, .long w14, .null, .null, .null] 342 (RR V) x G L =
  hD d 302 47 [.ref 156, .null, .null, .null, .null, .null, .null, .null, .null, .null, .null, .long w11, .null, .int v13, .long w14, .null, .int v13, .null] 342 (RR V) x G L := rh_302_43
set_option maxRecDepth 20000 in
theorem rh_302_47 {d x : Nat} {R : sm_R} {G : sm_G} {L : sm_L} {v13 v16 : Int32} {w11 w14 : Int64} : hD d 302 47 [.ref 156, .null, .null, .null, .null, .null, .null, .null, .null, .null, .null, .long w11, .null, .int v13, .long w14, .null, .int v16, .null] 342 R x G L =
  if v16 < (i3 8) then
    (hD d 302 65 [.ref 156, .null, .null, .null, .null, .null, .null, .null, .null, .null, .null, .long w11, .null, .int v13, .long (w14 * (i6 16)), .null, .int (v16 + (i3 1)), .null] 342 R x G L)
  else (if (G 156 64) = m1 then
      (hD d 302 106 [.ref 156, .null, .null, .null, .null, .null, .null, .null, .null, .null, .null, .long w11, .null, .int v13, .long w14, .null, .null, .null] 342 R x G L)
    else (if w14 < (L 156 62) then (oV x G L) else if w14 = (L 156 62) then (if w14 < (L 156 62) then (hD d 302 106 [.ref 156, .null, .null, .null, .null, .null, .null, .null, .null, .null, .null, .long w11, .null, .int v13, .long w14, .null, .null, .null] 342 R x G L) else if w14 = (L 156 62) then (if v13 < (G 156 64) then
            (hD d 302 106 [.ref 156, .null, .null, .null, .null, .null, .null, .null, .null, .null, .null, .long w11, .null, .int v13, .long w14, .null, .null, .null] 342 R x G L)
          else (oV x G L)) else (hD d 302 106 [.ref 156, .null, .null, .null, .null, .null, .null, .null, .null, .null, .null, .long w11, .null, .int v13, .long w14, .null, .null, .null] 342 R x G L)) else (if w14 < (L 156 62) then (hD d 302 106 [.ref 156, .null, .null, .null, .null, .null, .null, .null, .null, .null, .null, .long w11, .null, .int v13, .long w14, .null, .null, .null] 342 R x G L) else if w14 = (L 156 62) then (if v13 < (G 156 64) then
            (hD d 302 106 [.ref 156, .null, .null, .null, .null, .null, .null, .null, .null, .null, .null, .long w11, .null, .int v13, .long w14, .null, .null, .null] 342 R x G L)
          else (oV x G L)) else (hD d 302 106 [.ref 156, .null, .null, .null, .null, .null, .null, .null, .null, .null, .null, .long w11, .null, .int v13, .long w14, .null, .null, .null] 342 R x G L)))) := hD_eq.trans rfl
set_option maxRecDepth 20000 in
theorem h_302_47 {d x : Nat} {V : pV} {G : sm_G} {L : sm_L} {v13 v16 : Int32} {w11 w14 : Int64} : hD d 302 47 [.ref 156, .null, .null, .null, .null, .null, .null, .null, .null, .null, .null, .long w11, .null, .int v13, .long w14, .null, .int v16, .null] 342 (RR V) x G L =
  if v16 < (i3 8) then
    (hD d 302 65 [.ref 156, .null, .null, .null, .null, .null, .null, .null, .null, .null, .null, .long w11, .null, .int v13, .long (w14 * (i6 16)), .null, .int (v16 + (i3 1)), .null] 342 (RR V) x G L)
  else (if (G 156 64) = m1 then
      (hD d 302 106 [.ref 156, .null, .null, .null, .null, .null, .null, .null, .null, .null, .null, .long w11, .null, .int v13, .long w14, .null, .null, .null] 342 (RR V) x G L)
    else (if w14 < (L 156 62) then (oV x G L) else if w14 = (L 156 62) then (if w14 < (L 156 62) then (hD d 302 106 [.ref 156, .null, .null, .null, .null, .null, .null, .null, .null, .null, .null, .long w11, .null, .int v13, .long w14, .null, .null, .null] 342 (RR V) x G L) else if w14 = (L 156 62) then (if v13 < (G 156 64) then
            (hD d 302 106 [.ref 156, .null, .null, .null, .null, .null, .null, .null, .null, .null, .null, .long w11, .null, .int v13, .long w14, .null, .null, .null] 342 (RR V) x G L)
          else (oV x G L)) else (hD d 302 106 [.ref 156, .null, .null, .null, .null, .null, .null, .null, .null, .null, .null, .long w11, .null, .int v13, .long w14, .null, .null, .null] 342 (RR V) x G L)) else (if w14 < (L 156 62) then (hD d 302 106 [.ref 156, .null, .null, .null, .null, .null, .null, .null, .null, .null, .null, .long w11, .null, .int v13, .long w14, .null, .null, .null] 342 (RR V) x G L) else if w14 = (L 156 62) then (if v13 < (G 156 64) then
            (hD d 302 106 [.ref 156, .null, .null, .null, .null, .null, .null, .null, .null, .null, .null, .long w11, .null, .int v13, .long w14, .null, .null, .null] 342 (RR V) x G L)
          else (oV x G L)) else (hD d 302 106 [.ref 156, .null, .null, .null, .null, .null, .null, .null, .null, .null, .null, .long w11, .null, .int v13, .long w14, .null, .null, .null] 342 (RR V) x G L)))) := by
  rw [rh_302_47]
  try simp only [gd_tt, k_156]
set_option maxRecDepth 20000 in
theorem rh_302_65 {d x : Nat} {R : sm_R} {G : sm_G} {L : sm_L} {v13 v16 : Int32} {w11 w14 : Int64} : hD d 302 65 [.ref 156, .null, .null, .null, .null, .null, .null, .null, .null, .null, .null, .long w11, .null, .int v13, .long w14, .null, .int v16, .null] 342 R x G L =
  hD d 302 47 [.ref 156, .null, .null, .null, .null, .null, .null, .null, .null, .null, .null, .long w11, .null, .int v13, .long w14, .null, .int v16, .null] 342 R x G L := hD_eq.trans rfl
theorem h_302_65 {d x : Nat} {V : pV} {G : sm_G} {L : sm_L} {v13 v16 : Int32} {w11 w14 : Int64} : hD d 302 65 [.ref 156, .null, .null, .null, .null, .null, .null, .null, .null, .null, .null, .long w11, .null, .int v13, .long w14, .null, .int v16, .null] 342 (RR V) x G L =
  hD d 302 47 [.ref 156, .null, .null, .null, .null, .null, .null, .null, .null, .null, .null, .long w11, .null, .int v13, .long w14, .null, .int v16, .null] 342 (RR V) x G L := rh_302_65
set_option maxRecDepth 20000 in
theorem rh_302_106 {d x : Nat} {R : sm_R} {G : sm_G} {L : sm_L} {v13 : Int32} {w11 w14 : Int64} : hD d 302 106 [.ref 156, .null, .null, .null, .null, .null, .null, .null, .null, .null, .null, .long w11, .null, .int v13, .long w14, .null, .null, .null] 342 R x G L =
  oV x (sm_up G 156 64 v13) (sm_up (sm_up L 156 62 w14) 156 63 w11) := hD_eq.trans rfl
set_option maxRecDepth 20000 in
theorem h_302_106 {d x : Nat} {V : pV} {G : sm_G} {L : sm_L} {v13 : Int32} {w11 w14 : Int64} : hD d 302 106 [.ref 156, .null, .null, .null, .null, .null, .null, .null, .null, .null, .null, .long w11, .null, .int v13, .long w14, .null, .null, .null] 342 (RR V) x G L =
  oV x (sm_up G 156 64 v13) (sm_up (sm_up L 156 62 w14) 156 63 w11) := by
  rw [rh_302_106]
  try simp only [gd_tt, k_156]
set_option maxRecDepth 20000 in
theorem rh_302_128 {d x : Nat} {R : sm_R} {G : sm_G} {L : sm_L} {v1 v2 v3 v13 v14 : Int32} {w9 w11 : Int64} : hD d 302 128 [.ref 156, .int v1, .int v2, .int v3, .null, .null, .null, .null, .null, .long w9, .null, .long w11, .null, .int v13, .int v14, .null, .null, .null] 342 R x G L =
  ldi (R 156 12) (i3 0) G (fun y1 => if v14 < y1 then
    (if ((shr v3 v14) &&& (i3 1)) = (i3 0) then
      (hD d 302 161 [.ref 156, .int v1, .int v2, .int v3, .null, .null, .null, .null, .null, .long w9, .null, .long w11, .null, .int v13, .int v14, .int (i3 1), .int (i3 0), .int (i3 0)] 342 R x G L)
    else (hD d 302 161 [.ref 156, .int v1, .int v2, .int v3, .null, .null, .null, .null, .null, .long w9, .null, .long w11, .null, .int v13, .int v14, .int (i3 0), .int (i3 0), .int (i3 0)] 342 R x G L))
  else (oV x G L)) := hD_eq.trans rfl
set_option maxRecDepth 20000 in
theorem h_302_128 {d x : Nat} {V : pV} {G : sm_G} {L : sm_L} {v1 v2 v3 v13 v14 : Int32} {w9 w11 : Int64} : hD d 302 128 [.ref 156, .int v1, .int v2, .int v3, .null, .null, .null, .null, .null, .long w9, .null, .long w11, .null, .int v13, .int v14, .null, .null, .null] 342 (RR V) x G L =
  if v14 < (G 160 0) then
    (if ((shr v3 v14) &&& (i3 1)) = (i3 0) then
      (hD d 302 161 [.ref 156, .int v1, .int v2, .int v3, .null, .null, .null, .null, .null, .long w9, .null, .long w11, .null, .int v13, .int v14, .int (i3 1), .int (i3 0), .int (i3 0)] 342 (RR V) x G L)
    else (hD d 302 161 [.ref 156, .int v1, .int v2, .int v3, .null, .null, .null, .null, .null, .long w9, .null, .long w11, .null, .int v13, .int v14, .int (i3 0), .int (i3 0), .int (i3 0)] 342 (RR V) x G L))
  else (oV x G L) := by
  rw [rh_302_128]
  try simp only [gd_tt, (q_156_12 V), cl_0, inl_0_6, k_156, ldi_e k_160 n_160, n_160]
set_option maxRecDepth 20000 in
theorem rh_302_161 {d x : Nat} {R : sm_R} {G : sm_G} {L : sm_L} {v1 v2 v3 v13 v14 v15 v16 v17 : Int32} {w9 w11 : Int64} : hD d 302 161 [.ref 156, .int v1, .int v2, .int v3, .null, .null, .null, .null, .null, .long w9, .null, .long w11, .null, .int v13, .int v14, .int v15, .int v16, .int v17] 342 R x G L =
  ldi (R 156 12) (i3 1) G (fun y1 => if v17 < y1 then
    (if v15 = (i3 0) then
      (hD d 302 220 [.ref 156, .int v1, .int v2, .int v3, .null, .null, .null, .null, .null, .long w9, .null, .long w11, .null, .int v13, .int v14, .null, .int v16, .null] 342 R x G L)
    else (if v16 = (i3 0) then
        (gd (Nat.ble 24 (sm_K (R 156 20)) && Nat.ble (sm_K (R 156 20)) 27 && Nat.ble (R 156 20) 342) (gd (sm_in v17 (sm_N (R 156 20))) (ldi (R (R 156 20) v17.toNatClampNeg) (i3 2) G (fun y2 => if y2 = (i3 1) then
          (sm_aI (sm_cv0 d 271 342 R [.ref 156, .int v17, .int v1, .int v14] (x, G, L)) (fun a3 x3 G3 L3 =>
            if a3 = (i3 0) then
              (hD d 302 161 [.ref 156, .int v1, .int v2, .int v3, .null, .null, .null, .null, .null, .long w9, .null, .long w11, .null, .int v13, .int v14, .int v15, .int (i3 0), .int (v17 + (i3 1))] 342 R x3 G3 L3)
            else (hD d 302 161 [.ref 156, .int v1, .int v2, .int v3, .null, .null, .null, .null, .null, .long w9, .null, .long w11, .null, .int v13, .int v14, .int v15, .int (i3 1), .int (v17 + (i3 1))] 342 R x3 G3 L3)) oX)
        else (hD d 302 161 [.ref 156, .int v1, .int v2, .int v3, .null, .null, .null, .null, .null, .long w9, .null, .long w11, .null, .int v13, .int v14, .int v15, .int (i3 0), .int (v17 + (i3 1))] 342 R x G L)))))
      else (hD d 302 161 [.ref 156, .int v1, .int v2, .int v3, .null, .null, .null, .null, .null, .long w9, .null, .long w11, .null, .int v13, .int v14, .int v15, .int (i3 1), .int (v17 + (i3 1))] 342 R x G L)))
  else (hD d 302 220 [.ref 156, .int v1, .int v2, .int v3, .null, .null, .null, .null, .null, .long w9, .null, .long w11, .null, .int v13, .int v14, .null, .int v16, .null] 342 R x G L)) := hD_eq.trans rfl
set_option maxRecDepth 20000 in
theorem h_302_161 {d x : Nat} {V : pV} {G : sm_G} {L : sm_L} {v1 v2 v3 v13 v14 v15 v16 v17 : Int32} {w9 w11 : Int64} : hD d 302 161 [.ref 156, .int v1, .int v2, .int v3, .null, .null, .null, .null, .null, .long w9, .null, .long w11, .null, .int v13, .int v14, .int v15, .int v16, .int v17] 342 (RR V) x G L =
  if v17 < (G 160 1) then
    (if v15 = (i3 0) then
      (hD d 302 220 [.ref 156, .int v1, .int v2, .int v3, .null, .null, .null, .null, .null, .long w9, .null, .long w11, .null, .int v13, .int v14, .null, .int v16, .null] 342 (RR V) x G L)
    else (if v16 = (i3 0) then
        (gd (sm_in v17 10) (ldi (RR V 194 v17.toNatClampNeg) (i3 2) G (fun y2 => if y2 = (i3 1) then
          (sm_aI (sm_cv0 d 271 342 (RR V) [.ref 156, .int v17, .int v1, .int v14] (x, G, L)) (fun a3 x3 G3 L3 =>
            if a3 = (i3 0) then
              (hD d 302 161 [.ref 156, .int v1, .int v2, .int v3, .null, .null, .null, .null, .null, .long w9, .null, .long w11, .null, .int v13, .int v14, .int v15, .int (i3 0), .int (v17 + (i3 1))] 342 (RR V) x3 G3 L3)
            else (hD d 302 161 [.ref 156, .int v1, .int v2, .int v3, .null, .null, .null, .null, .null, .long w9, .null, .long w11, .null, .int v13, .int v14, .int v15, .int (i3 1), .int (v17 + (i3 1))] 342 (RR V) x3 G3 L3)) oX)
        else (hD d 302 161 [.ref 156, .int v1, .int v2, .int v3, .null, .null, .null, .null, .null, .long w9, .null, .long w11, .null, .int v13, .int v14, .int v15, .int (i3 0), .int (v17 + (i3 1))] 342 (RR V) x G L))))
      else (hD d 302 161 [.ref 156, .int v1, .int v2, .int v3, .null, .null, .null, .null, .null, .long w9, .null, .long w11, .null, .int v13, .int v14, .int v15, .int (i3 1), .int (v17 + (i3 1))] 342 (RR V) x G L)))
  else (hD d 302 220 [.ref 156, .int v1, .int v2, .int v3, .null, .null, .null, .null, .null, .long w9, .null, .long w11, .null, .int v13, .int v14, .null, .int v16, .null] 342 (RR V) x G L) := by
  rw [rh_302_161]
  try simp only [gd_tt, (q_156_12 V), (q_156_20 V), a_194, cl_1, inl_1_6, k_156, ldi_e k_160 n_160, n_160, n_194]
set_option maxRecDepth 20000 in
theorem rh_302_220 {d x : Nat} {R : sm_R} {G : sm_G} {L : sm_L} {v1 v2 v3 v13 v14 v16 : Int32} {w9 w11 : Int64} : hD d 302 220 [.ref 156, .int v1, .int v2, .int v3, .null, .null, .null, .null, .null, .long w9, .null, .long w11, .null, .int v13, .int v14, .null, .int v16, .null] 342 R x G L =
  if v16 = (i3 0) then
    (hD d 302 128 [.ref 156, .int v1, .int v2, .int v3, .null, .null, .null, .null, .null, .long w9, .null, .long w11, .null, .int v13, .int (v14 + (i3 1)), .null, .null, .null] 342 R x G L)
  else (sm_aV (sm_cv0 d 302 342 R [.ref 156, .int v14, .int v2, .int (v3 ||| (shl (i3 1) v14)), .int v13, .long w9, .long w11] (x, G, L)) (fun x1 G1 L1 =>
      hD d 302 128 [.ref 156, .int v1, .int v2, .int v3, .null, .null, .null, .null, .null, .long w9, .null, .long w11, .null, .int v13, .int (v14 + (i3 1)), .null, .null, .null] 342 R x1 G1 L1) oX) := hD_eq.trans rfl
set_option maxRecDepth 20000 in
theorem h_302_220 {d x : Nat} {V : pV} {G : sm_G} {L : sm_L} {v1 v2 v3 v13 v14 v16 : Int32} {w9 w11 : Int64} : hD d 302 220 [.ref 156, .int v1, .int v2, .int v3, .null, .null, .null, .null, .null, .long w9, .null, .long w11, .null, .int v13, .int v14, .null, .int v16, .null] 342 (RR V) x G L =
  if v16 = (i3 0) then
    (hD d 302 128 [.ref 156, .int v1, .int v2, .int v3, .null, .null, .null, .null, .null, .long w9, .null, .long w11, .null, .int v13, .int (v14 + (i3 1)), .null, .null, .null] 342 (RR V) x G L)
  else (sm_aV (sm_cv0 d 302 342 (RR V) [.ref 156, .int v14, .int v2, .int (v3 ||| (shl (i3 1) v14)), .int v13, .long w9, .long w11] (x, G, L)) (fun x1 G1 L1 =>
      hD d 302 128 [.ref 156, .int v1, .int v2, .int v3, .null, .null, .null, .null, .null, .long w9, .null, .long w11, .null, .int v13, .int (v14 + (i3 1)), .null, .null, .null] 342 (RR V) x1 G1 L1) oX) := by
  rw [rh_302_220]
  try simp only [gd_tt, k_156]
/-! M_drawn -/
set_option maxRecDepth 20000 in
theorem rm_303 {d x : Nat} {R : sm_R} {G : sm_G} {L : sm_L} {v1 v2 : Int32} : sm_cv0 (d + 1) 303 342 R [.ref 156, .int v1, .int v2] (x, G, L) =
  sm_aI (sm_cv0 d 218 342 R [.int v2, .int (i3 0), .int (i3 2)] (x, sm_up G 156 0 (i3 0), L)) (fun a1 x1 G1 L1 =>
    if a1 = (i3 0) then
      (sm_aI (sm_cv0 d 219 342 R [.ref 156, .int (i3 1), .int (i3 1), .int (i3 2)] (x1, G1, L1)) (fun a2 x2 G2 L2 =>
        if a2 = (i3 0) then
          (sm_aI (sm_cv0 d 304 342 R [.ref 156, .int v1] (x2, G2, L2)) (fun a3 x3 G3 L3 =>
            hD d 303 42 [.ref 156, .null, .int v2, .int a3, .int (i3 0), .int (i3 0), .null] 342 R x3 G3 L3) oX)
        else (oI (i3 0) x2 G2 L2)) oX)
    else (sm_aI (sm_cv0 d 219 342 R [.ref 156, .int (i3 0), .int (i3 1), .int (i3 2)] (x1, G1, L1)) (fun a4 x4 G4 L4 =>
        if a4 = (i3 0) then
          (sm_aI (sm_cv0 d 304 342 R [.ref 156, .int v1] (x4, G4, L4)) (fun a5 x5 G5 L5 =>
            hD d 303 42 [.ref 156, .null, .int v2, .int a5, .int (i3 0), .int (i3 0), .null] 342 R x5 G5 L5) oX)
        else (oI (i3 0) x4 G4 L4)) oX)) oX := (cv_eq rfl rfl).trans (hD_eq.trans rfl)
set_option maxRecDepth 20000 in
theorem m_303 {d x : Nat} {V : pV} {G : sm_G} {L : sm_L} {v1 v2 : Int32} : sm_cv0 (d + 1) 303 342 (RR V) [.ref 156, .int v1, .int v2] (x, G, L) =
  sm_aI (sm_cv0 d 218 342 (RR V) [.int v2, .int (i3 0), .int (i3 2)] (x, sm_up G 156 0 (i3 0), L)) (fun a1 x1 G1 L1 =>
    if a1 = (i3 0) then
      (sm_aI (sm_cv0 d 219 342 (RR V) [.ref 156, .int (i3 1), .int (i3 1), .int (i3 2)] (x1, G1, L1)) (fun a2 x2 G2 L2 =>
        if a2 = (i3 0) then
          (sm_aI (sm_cv0 d 304 342 (RR V) [.ref 156, .int v1] (x2, G2, L2)) (fun a3 x3 G3 L3 =>
            hD d 303 42 [.ref 156, .null, .int v2, .int a3, .int (i3 0), .int (i3 0), .null] 342 (RR V) x3 G3 L3) oX)
        else (oI (i3 0) x2 G2 L2)) oX)
    else (sm_aI (sm_cv0 d 219 342 (RR V) [.ref 156, .int (i3 0), .int (i3 1), .int (i3 2)] (x1, G1, L1)) (fun a4 x4 G4 L4 =>
        if a4 = (i3 0) then
          (sm_aI (sm_cv0 d 304 342 (RR V) [.ref 156, .int v1] (x4, G4, L4)) (fun a5 x5 G5 L5 =>
            hD d 303 42 [.ref 156, .null, .int v2, .int a5, .int (i3 0), .int (i3 0), .null] 342 (RR V) x5 G5 L5) oX)
        else (oI (i3 0) x4 G4 L4)) oX)) oX := by
  rw [rm_303]
  try simp only [gd_tt, k_156]
set_option maxRecDepth 20000 in
theorem rh_303_42 {d x : Nat} {R : sm_R} {G : sm_G} {L : sm_L} {v2 v3 v4 v5 : Int32} : hD d 303 42 [.ref 156, .null, .int v2, .int v3, .int v4, .int v5, .null] 342 R x G L =
  hD d 303 45 [.ref 156, .null, .int v2, .int v3, .int v4, .int v5, .int (i3 0)] 342 R x G L := hD_eq.trans rfl
theorem h_303_42 {d x : Nat} {V : pV} {G : sm_G} {L : sm_L} {v2 v3 v4 v5 : Int32} : hD d 303 42 [.ref 156, .null, .int v2, .int v3, .int v4, .int v5, .null] 342 (RR V) x G L =
  hD d 303 45 [.ref 156, .null, .int v2, .int v3, .int v4, .int v5, .int (i3 0)] 342 (RR V) x G L := rh_303_42
set_option maxRecDepth 20000 in
theorem rh_303_45 {d x : Nat} {R : sm_R} {G : sm_G} {L : sm_L} {v2 v3 v4 v5 v6 : Int32} : hD d 303 45 [.ref 156, .null, .int v2, .int v3, .int v4, .int v5, .int v6] 342 R x G L =
  if v6 < (i3 301) then
    (ldi (R 156 44) v6 G (fun y1 => if y1 = (i3 0) then
      (hD d 303 45 [.ref 156, .null, .int v2, .int v3, .int v4, .int v5, .int (v6 + (i3 1))] 342 R x G L)
    else (hD d 303 45 [.ref 156, .null, .int v2, .int v3, .int (v6 + (i3 1)), .int v5, .int (v6 + (i3 1))] 342 R x G L)))
  else (hD d 303 83 [.ref 156, .null, .int v2, .int v3, .int v4, .int v5, .int (i3 0)] 342 R x G L) := hD_eq.trans rfl
set_option maxRecDepth 20000 in
theorem h_303_45 {d x : Nat} {V : pV} {G : sm_G} {L : sm_L} {v2 v3 v4 v5 v6 : Int32} : hD d 303 45 [.ref 156, .null, .int v2, .int v3, .int v4, .int v5, .int v6] 342 (RR V) x G L =
  if v6 < (i3 301) then
    (gd (sm_in v6 301) (if (G 307 v6.toNatClampNeg) = (i3 0) then
      (hD d 303 45 [.ref 156, .null, .int v2, .int v3, .int v4, .int v5, .int (v6 + (i3 1))] 342 (RR V) x G L)
    else (hD d 303 45 [.ref 156, .null, .int v2, .int v3, .int (v6 + (i3 1)), .int v5, .int (v6 + (i3 1))] 342 (RR V) x G L)))
  else (hD d 303 83 [.ref 156, .null, .int v2, .int v3, .int v4, .int v5, .int (i3 0)] 342 (RR V) x G L) := by
  rw [rh_303_45]
  try simp only [gd_tt, (q_156_44 V), k_156, ldi_e k_307 n_307, n_307]
set_option maxRecDepth 20000 in
theorem rh_303_83 {d x : Nat} {R : sm_R} {G : sm_G} {L : sm_L} {v2 v3 v4 v5 v6 : Int32} : hD d 303 83 [.ref 156, .null, .int v2, .int v3, .int v4, .int v5, .int v6] 342 R x G L =
  ldi (R 156 12) (i3 0) G (fun y1 => if v6 < y1 then
    (ldi (R 156 43) v6 G (fun y2 => if y2 = (i3 1000) then
      (hD d 303 83 [.ref 156, .null, .int v2, .int v3, .int v4, .int (v5 + (i3 1)), .int (v6 + (i3 1))] 342 R x G L)
    else (hD d 303 83 [.ref 156, .null, .int v2, .int v3, .int v4, .int (v5 + (i3 0)), .int (v6 + (i3 1))] 342 R x G L)))
  else (if v2 = (i3 0) then
      (oI v3 x G L)
    else (if v2 = (i3 1) then
        (oI v4 x G L)
      else (oI v5 x G L)))) := hD_eq.trans rfl
set_option maxRecDepth 20000 in
theorem h_303_83 {d x : Nat} {V : pV} {G : sm_G} {L : sm_L} {v2 v3 v4 v5 v6 : Int32} : hD d 303 83 [.ref 156, .null, .int v2, .int v3, .int v4, .int v5, .int v6] 342 (RR V) x G L =
  if v6 < (G 160 0) then
    (gd (sm_in v6 8) (if (G 306 v6.toNatClampNeg) = (i3 1000) then
      (hD d 303 83 [.ref 156, .null, .int v2, .int v3, .int v4, .int (v5 + (i3 1)), .int (v6 + (i3 1))] 342 (RR V) x G L)
    else (hD d 303 83 [.ref 156, .null, .int v2, .int v3, .int v4, .int (v5 + (i3 0)), .int (v6 + (i3 1))] 342 (RR V) x G L)))
  else (if v2 = (i3 0) then
      (oI v3 x G L)
    else (if v2 = (i3 1) then
        (oI v4 x G L)
      else (oI v5 x G L))) := by
  rw [rh_303_83]
  try simp only [gd_tt, (q_156_12 V), (q_156_43 V), cl_0, inl_0_6, k_156, ldi_e k_160 n_160, ldi_e k_306 n_306, n_160, n_306]
/-! M_drawnNight -/
set_option maxRecDepth 20000 in
theorem rm_304 {d x : Nat} {R : sm_R} {G : sm_G} {L : sm_L} {v1 : Int32} : sm_cv0 (d + 1) 304 342 R [.ref 156, .int v1] (x, G, L) =
  sm_aV (sm_cv0 d 254 342 R [.ref 156] (x, G, L)) (fun x1 G1 L1 =>
    hD d 304 16 [.ref 156, .null, .int v1, .int (i3 0), .null] 342 R x1 (sm_up G1 156 41 (G1 156 37)) L1) oX := (cv_eq rfl rfl).trans (hD_eq.trans rfl)
set_option maxRecDepth 20000 in
theorem m_304 {d x : Nat} {V : pV} {G : sm_G} {L : sm_L} {v1 : Int32} : sm_cv0 (d + 1) 304 342 (RR V) [.ref 156, .int v1] (x, G, L) =
  sm_aV (sm_cv0 d 254 342 (RR V) [.ref 156] (x, G, L)) (fun x1 G1 L1 =>
    hD d 304 16 [.ref 156, .null, .int v1, .int (i3 0), .null] 342 (RR V) x1 (sm_up G1 156 41 (G1 156 37)) L1) oX := by
  rw [rm_304]
  try simp only [gd_tt, k_156]
set_option maxRecDepth 20000 in
theorem rh_304_16 {d x : Nat} {R : sm_R} {G : sm_G} {L : sm_L} {v2 v3 : Int32} : hD d 304 16 [.ref 156, .null, .int v2, .int v3, .null] 342 R x G L =
  if v3 < (i3 301) then
    (hD d 304 26 [.ref 156, .null, .int v2, .int v3, .int (i3 0)] 342 R x G L)
  else (sm_aV (sm_cv0 d 258 342 R [.ref 156, .int (G 156 37)] (x, G, L)) (fun x1 G1 L1 =>
      sm_aI (sm_cv0 d 264 342 R [.ref 156] (x1, G1, L1)) (fun a2 x2 G2 L2 =>
        oI a2 x2 G2 L2) oX) oX) := hD_eq.trans rfl
set_option maxRecDepth 20000 in
theorem h_304_16 {d x : Nat} {V : pV} {G : sm_G} {L : sm_L} {v2 v3 : Int32} : hD d 304 16 [.ref 156, .null, .int v2, .int v3, .null] 342 (RR V) x G L =
  if v3 < (i3 301) then
    (hD d 304 26 [.ref 156, .null, .int v2, .int v3, .int (i3 0)] 342 (RR V) x G L)
  else (sm_aV (sm_cv0 d 258 342 (RR V) [.ref 156, .int (G 156 37)] (x, G, L)) (fun x1 G1 L1 =>
      sm_aI (sm_cv0 d 264 342 (RR V) [.ref 156] (x1, G1, L1)) (fun a2 x2 G2 L2 =>
        oI a2 x2 G2 L2) oX) oX) := by
  rw [rh_304_16]
  try simp only [gd_tt, k_156]
set_option maxRecDepth 20000 in
theorem rh_304_26 {d x : Nat} {R : sm_R} {G : sm_G} {L : sm_L} {v2 v3 v4 : Int32} : hD d 304 26 [.ref 156, .null, .int v2, .int v3, .int v4] 342 R x G L =
  ldi (R 156 12) (i3 0) G (fun y1 => if v4 < y1 then
    (if ((shr (G 156 37) v4) &&& (i3 1)) = (i3 1) then
      (hD d 304 26 [.ref 156, .null, .int v2, .int v3, .int (v4 + (i3 1))] 342 R x G L)
    else (sm_aI (sm_cv0 d 255 342 R [.ref 156, .int v4, .int v3] (x, G, L)) (fun a2 x2 G2 L2 =>
        if a2 = (i3 0) then
          (hD d 304 26 [.ref 156, .null, .int v2, .int v3, .int (v4 + (i3 1))] 342 R x2 G2 L2)
        else (gd (Nat.ble 24 (sm_K (R 156 18)) && Nat.ble (sm_K (R 156 18)) 27 && Nat.ble (R 156 18) 342) (gd (sm_in v4 (sm_N (R 156 18))) (ldi (R (R 156 18) v4.toNatClampNeg) (i3 2) G2 (fun y3 => if ((shr ((v2 * (i3 1103515245)) + (i3 12345)) (i3 16)) &&& (i3 1023)) < y3 then
            (gd (sm_is (R 156 43) 342 20) (gd (sm_in v4 (sm_N (R 156 43))) (hD d 304 26 [.ref 156, .null, .int ((v2 * (i3 1103515245)) + (i3 12345)), .int v3, .int (v4 + (i3 1))] 342 R x2 (sm_up G2 (R 156 43) v4.toNatClampNeg v3) L2)))
          else (ldi (R 156 43) v4 G2 (fun y4 => gd (sm_is (R 156 43) 342 20) (gd (sm_in v4 (sm_N (R 156 43))) (hD d 304 26 [.ref 156, .null, .int ((v2 * (i3 1103515245)) + (i3 12345)), .int v3, .int (v4 + (i3 1))] 342 R x2 (sm_up G2 (R 156 43) v4.toNatClampNeg y4) L2))))))))) oX))
  else (hD d 304 16 [.ref 156, .null, .int v2, .int (v3 + (i3 1)), .null] 342 R x G L)) := hD_eq.trans rfl
set_option maxRecDepth 20000 in
theorem h_304_26 {d x : Nat} {V : pV} {G : sm_G} {L : sm_L} {v2 v3 v4 : Int32} : hD d 304 26 [.ref 156, .null, .int v2, .int v3, .int v4] 342 (RR V) x G L =
  if v4 < (G 160 0) then
    (if ((shr (G 156 37) v4) &&& (i3 1)) = (i3 1) then
      (hD d 304 26 [.ref 156, .null, .int v2, .int v3, .int (v4 + (i3 1))] 342 (RR V) x G L)
    else (sm_aI (sm_cv0 d 255 342 (RR V) [.ref 156, .int v4, .int v3] (x, G, L)) (fun a2 x2 G2 L2 =>
        if a2 = (i3 0) then
          (hD d 304 26 [.ref 156, .null, .int v2, .int v3, .int (v4 + (i3 1))] 342 (RR V) x2 G2 L2)
        else (gd (sm_in v4 8) (ldi (RR V 174 v4.toNatClampNeg) (i3 2) G2 (fun y3 => if ((shr ((v2 * (i3 1103515245)) + (i3 12345)) (i3 16)) &&& (i3 1023)) < y3 then
            (gd (sm_in v4 8) (hD d 304 26 [.ref 156, .null, .int ((v2 * (i3 1103515245)) + (i3 12345)), .int v3, .int (v4 + (i3 1))] 342 (RR V) x2 (sm_up G2 306 v4.toNatClampNeg v3) L2))
          else (gd (sm_in v4 8) (gd (sm_in v4 8) (hD d 304 26 [.ref 156, .null, .int ((v2 * (i3 1103515245)) + (i3 12345)), .int v3, .int (v4 + (i3 1))] 342 (RR V) x2 (sm_up G2 306 v4.toNatClampNeg (G2 306 v4.toNatClampNeg)) L2))))))) oX))
  else (hD d 304 16 [.ref 156, .null, .int v2, .int (v3 + (i3 1)), .null] 342 (RR V) x G L) := by
  rw [rh_304_26]
  try simp only [gd_tt, (q_156_12 V), (q_156_18 V), (q_156_43 V), a_174, cl_0, inl_0_6, k_156, k_306, ldi_e k_160 n_160, ldi_e k_306 n_306, n_160, n_174, n_306]
/-! M_span -/
set_option maxRecDepth 20000 in
theorem rm_305 {d x : Nat} {R : sm_R} {G : sm_G} {L : sm_L} {v1 v2 v3 : Int32} : sm_cv0 (d + 1) 305 342 R [.ref 156, .int v1, .int v2, .int v3] (x, G, L) =
  sm_aI (sm_cv0 d 218 342 R [.int v2, .int (i3 1), .int (i3 20)] (x, sm_up G 156 0 (i3 0), L)) (fun a1 x1 G1 L1 =>
    if a1 = (i3 0) then
      (sm_aI (sm_cv0 d 219 342 R [.ref 156, .int (i3 1), .int (i3 1), .int (i3 2)] (x1, G1, L1)) (fun a2 x2 G2 L2 =>
        if a2 = (i3 0) then
          (hD d 305 40 [.ref 156, .int v1, .int v2, .int v3, .null, .null, .null, .null, .null] 342 R x2 G2 L2)
        else (oI (i3 0) x2 G2 L2)) oX)
    else (sm_aI (sm_cv0 d 218 342 R [.int v3, .int (i3 0), .int (i3 2)] (x1, G1, L1)) (fun a3 x3 G3 L3 =>
        if a3 = (i3 0) then
          (sm_aI (sm_cv0 d 219 342 R [.ref 156, .int (i3 1), .int (i3 1), .int (i3 2)] (x3, G3, L3)) (fun a4 x4 G4 L4 =>
            if a4 = (i3 0) then
              (hD d 305 40 [.ref 156, .int v1, .int v2, .int v3, .null, .null, .null, .null, .null] 342 R x4 G4 L4)
            else (oI (i3 0) x4 G4 L4)) oX)
        else (sm_aI (sm_cv0 d 219 342 R [.ref 156, .int (i3 0), .int (i3 1), .int (i3 2)] (x3, G3, L3)) (fun a5 x5 G5 L5 =>
            if a5 = (i3 0) then
              (hD d 305 40 [.ref 156, .int v1, .int v2, .int v3, .null, .null, .null, .null, .null] 342 R x5 G5 L5)
            else (oI (i3 0) x5 G5 L5)) oX)) oX)) oX := (cv_eq rfl rfl).trans (hD_eq.trans rfl)
set_option maxRecDepth 20000 in
theorem m_305 {d x : Nat} {V : pV} {G : sm_G} {L : sm_L} {v1 v2 v3 : Int32} : sm_cv0 (d + 1) 305 342 (RR V) [.ref 156, .int v1, .int v2, .int v3] (x, G, L) =
  sm_aI (sm_cv0 d 218 342 (RR V) [.int v2, .int (i3 1), .int (i3 20)] (x, sm_up G 156 0 (i3 0), L)) (fun a1 x1 G1 L1 =>
    if a1 = (i3 0) then
      (sm_aI (sm_cv0 d 219 342 (RR V) [.ref 156, .int (i3 1), .int (i3 1), .int (i3 2)] (x1, G1, L1)) (fun a2 x2 G2 L2 =>
        if a2 = (i3 0) then
          (hD d 305 40 [.ref 156, .int v1, .int v2, .int v3, .null, .null, .null, .null, .null] 342 (RR V) x2 G2 L2)
        else (oI (i3 0) x2 G2 L2)) oX)
    else (sm_aI (sm_cv0 d 218 342 (RR V) [.int v3, .int (i3 0), .int (i3 2)] (x1, G1, L1)) (fun a3 x3 G3 L3 =>
        if a3 = (i3 0) then
          (sm_aI (sm_cv0 d 219 342 (RR V) [.ref 156, .int (i3 1), .int (i3 1), .int (i3 2)] (x3, G3, L3)) (fun a4 x4 G4 L4 =>
            if a4 = (i3 0) then
              (hD d 305 40 [.ref 156, .int v1, .int v2, .int v3, .null, .null, .null, .null, .null] 342 (RR V) x4 G4 L4)
            else (oI (i3 0) x4 G4 L4)) oX)
        else (sm_aI (sm_cv0 d 219 342 (RR V) [.ref 156, .int (i3 0), .int (i3 1), .int (i3 2)] (x3, G3, L3)) (fun a5 x5 G5 L5 =>
            if a5 = (i3 0) then
              (hD d 305 40 [.ref 156, .int v1, .int v2, .int v3, .null, .null, .null, .null, .null] 342 (RR V) x5 G5 L5)
            else (oI (i3 0) x5 G5 L5)) oX)) oX)) oX := by
  rw [rm_305]
  try simp only [gd_tt, k_156]
set_option maxRecDepth 20000 in
theorem rh_305_40 {d x : Nat} {R : sm_R} {G : sm_G} {L : sm_L} {v1 v2 v3 : Int32} : hD d 305 40 [.ref 156, .int v1, .int v2, .int v3, .null, .null, .null, .null, .null] 342 R x G L =
  hD d 305 49 [.ref 156, .int v1, .int v2, .int v3, .int m1, .int m1, .int (i3 0), .null, .null] 342 R x G L := hD_eq.trans rfl
theorem h_305_40 {d x : Nat} {V : pV} {G : sm_G} {L : sm_L} {v1 v2 v3 : Int32} : hD d 305 40 [.ref 156, .int v1, .int v2, .int v3, .null, .null, .null, .null, .null] 342 (RR V) x G L =
  hD d 305 49 [.ref 156, .int v1, .int v2, .int v3, .int m1, .int m1, .int (i3 0), .null, .null] 342 (RR V) x G L := rh_305_40
set_option maxRecDepth 20000 in
theorem rh_305_49 {d x : Nat} {R : sm_R} {G : sm_G} {L : sm_L} {v1 v2 v3 v4 v5 v6 : Int32} : hD d 305 49 [.ref 156, .int v1, .int v2, .int v3, .int v4, .int v5, .int v6, .null, .null] 342 R x G L =
  hD d 305 52 [.ref 156, .int v1, .int v2, .int v3, .int v4, .int v5, .int v6, .int (i3 0), .null] 342 R x G L := hD_eq.trans rfl
theorem h_305_49 {d x : Nat} {V : pV} {G : sm_G} {L : sm_L} {v1 v2 v3 v4 v5 v6 : Int32} : hD d 305 49 [.ref 156, .int v1, .int v2, .int v3, .int v4, .int v5, .int v6, .null, .null] 342 (RR V) x G L =
  hD d 305 52 [.ref 156, .int v1, .int v2, .int v3, .int v4, .int v5, .int v6, .int (i3 0), .null] 342 (RR V) x G L := rh_305_49
set_option maxRecDepth 20000 in
theorem rh_305_52 {d x : Nat} {R : sm_R} {G : sm_G} {L : sm_L} {v1 v2 v3 v4 v5 v6 v7 : Int32} : hD d 305 52 [.ref 156, .int v1, .int v2, .int v3, .int v4, .int v5, .int v6, .int v7, .null] 342 R x G L =
  if v7 < v2 then
    (sm_aI (sm_cv0 d 304 342 R [.ref 156, .int (v1 + v7)] (x, G, L)) (fun a1 x1 G1 L1 =>
      sm_aI (sm_cv0 d 291 342 R [.int a1] (x1, G1, L1)) (fun a2 x2 G2 L2 =>
        if v4 = m1 then
          (hD d 305 93 [.ref 156, .int v1, .int v2, .int v3, .int a2, .int v5, .int v6, .int v7, .int a2] 342 R x2 G2 L2)
        else (if a2 < v4 then
            (hD d 305 93 [.ref 156, .int v1, .int v2, .int v3, .int a2, .int v5, .int v6, .int v7, .int a2] 342 R x2 G2 L2)
          else (hD d 305 93 [.ref 156, .int v1, .int v2, .int v3, .int v4, .int v5, .int v6, .int v7, .int a2] 342 R x2 G2 L2))) oX) oX)
  else (if v3 = (i3 0) then
      (oI v4 x G L)
    else (if v3 = (i3 1) then
        (oI v5 x G L)
      else (oI v6 x G L))) := hD_eq.trans rfl
set_option maxRecDepth 20000 in
theorem h_305_52 {d x : Nat} {V : pV} {G : sm_G} {L : sm_L} {v1 v2 v3 v4 v5 v6 v7 : Int32} : hD d 305 52 [.ref 156, .int v1, .int v2, .int v3, .int v4, .int v5, .int v6, .int v7, .null] 342 (RR V) x G L =
  if v7 < v2 then
    (sm_aI (sm_cv0 d 304 342 (RR V) [.ref 156, .int (v1 + v7)] (x, G, L)) (fun a1 x1 G1 L1 =>
      sm_aI (sm_cv0 d 291 342 (RR V) [.int a1] (x1, G1, L1)) (fun a2 x2 G2 L2 =>
        if v4 = m1 then
          (hD d 305 93 [.ref 156, .int v1, .int v2, .int v3, .int a2, .int v5, .int v6, .int v7, .int a2] 342 (RR V) x2 G2 L2)
        else (if a2 < v4 then
            (hD d 305 93 [.ref 156, .int v1, .int v2, .int v3, .int a2, .int v5, .int v6, .int v7, .int a2] 342 (RR V) x2 G2 L2)
          else (hD d 305 93 [.ref 156, .int v1, .int v2, .int v3, .int v4, .int v5, .int v6, .int v7, .int a2] 342 (RR V) x2 G2 L2))) oX) oX)
  else (if v3 = (i3 0) then
      (oI v4 x G L)
    else (if v3 = (i3 1) then
        (oI v5 x G L)
      else (oI v6 x G L))) := by
  rw [rh_305_52]
  try simp only [gd_tt, k_156]
set_option maxRecDepth 20000 in
theorem rh_305_93 {d x : Nat} {R : sm_R} {G : sm_G} {L : sm_L} {v1 v2 v3 v4 v5 v6 v7 v8 : Int32} : hD d 305 93 [.ref 156, .int v1, .int v2, .int v3, .int v4, .int v5, .int v6, .int v7, .int v8] 342 R x G L =
  if v8 ≤ v5 then
    (hD d 305 109 [.ref 156, .int v1, .int v2, .int v3, .int v4, .int v5, .int v6, .int v7, .int v8] 342 R x G L)
  else (hD d 305 109 [.ref 156, .int v1, .int v2, .int v3, .int v4, .int v8, .int v6, .int v7, .int v8] 342 R x G L) := hD_eq.trans rfl
theorem h_305_93 {d x : Nat} {V : pV} {G : sm_G} {L : sm_L} {v1 v2 v3 v4 v5 v6 v7 v8 : Int32} : hD d 305 93 [.ref 156, .int v1, .int v2, .int v3, .int v4, .int v5, .int v6, .int v7, .int v8] 342 (RR V) x G L =
  if v8 ≤ v5 then
    (hD d 305 109 [.ref 156, .int v1, .int v2, .int v3, .int v4, .int v5, .int v6, .int v7, .int v8] 342 (RR V) x G L)
  else (hD d 305 109 [.ref 156, .int v1, .int v2, .int v3, .int v4, .int v8, .int v6, .int v7, .int v8] 342 (RR V) x G L) := rh_305_93
set_option maxRecDepth 20000 in
theorem rh_305_109 {d x : Nat} {R : sm_R} {G : sm_G} {L : sm_L} {v1 v2 v3 v4 v5 v6 v7 v8 : Int32} : hD d 305 109 [.ref 156, .int v1, .int v2, .int v3, .int v4, .int v5, .int v6, .int v7, .int v8] 342 R x G L =
  if v8 = (i3 0) then
    (hD d 305 52 [.ref 156, .int v1, .int v2, .int v3, .int v4, .int v5, .int (v6 + (i3 1)), .int (v7 + (i3 1)), .null] 342 R x G L)
  else (hD d 305 52 [.ref 156, .int v1, .int v2, .int v3, .int v4, .int v5, .int (v6 + (i3 0)), .int (v7 + (i3 1)), .null] 342 R x G L) := hD_eq.trans rfl
theorem h_305_109 {d x : Nat} {V : pV} {G : sm_G} {L : sm_L} {v1 v2 v3 v4 v5 v6 v7 v8 : Int32} : hD d 305 109 [.ref 156, .int v1, .int v2, .int v3, .int v4, .int v5, .int v6, .int v7, .int v8] 342 (RR V) x G L =
  if v8 = (i3 0) then
    (hD d 305 52 [.ref 156, .int v1, .int v2, .int v3, .int v4, .int v5, .int (v6 + (i3 1)), .int (v7 + (i3 1)), .null] 342 (RR V) x G L)
  else (hD d 305 52 [.ref 156, .int v1, .int v2, .int v3, .int v4, .int v5, .int (v6 + (i3 0)), .int (v7 + (i3 1)), .null] 342 (RR V) x G L) := rh_305_109
/-! M_round -/
set_option maxRecDepth 20000 in
theorem rm_306 {d x : Nat} {R : sm_R} {G : sm_G} {L : sm_L} {v1 : Int32} : sm_cv0 (d + 1) 306 342 R [.ref 156, .int v1] (x, G, L) =
  sm_aI (sm_cv0 d 218 342 R [.int v1, .int (i3 0), .int (i3 1)] (x, sm_up G 156 0 (i3 0), L)) (fun a1 x1 G1 L1 =>
    if a1 = (i3 0) then
      (sm_aI (sm_cv0 d 219 342 R [.ref 156, .int (i3 1), .int (i3 1), .int (i3 2)] (x1, G1, L1)) (fun a2 x2 G2 L2 =>
        if a2 = (i3 0) then
          (hD d 306 28 [.ref 156, .int v1, .null] 342 R x2 G2 L2)
        else (oI (i3 0) x2 G2 L2)) oX)
    else (sm_aI (sm_cv0 d 219 342 R [.ref 156, .int (i3 0), .int (i3 1), .int (i3 2)] (x1, G1, L1)) (fun a3 x3 G3 L3 =>
        if a3 = (i3 0) then
          (hD d 306 28 [.ref 156, .int v1, .null] 342 R x3 G3 L3)
        else (oI (i3 0) x3 G3 L3)) oX)) oX := (cv_eq rfl rfl).trans (hD_eq.trans rfl)
set_option maxRecDepth 20000 in
theorem m_306 {d x : Nat} {V : pV} {G : sm_G} {L : sm_L} {v1 : Int32} : sm_cv0 (d + 1) 306 342 (RR V) [.ref 156, .int v1] (x, G, L) =
  sm_aI (sm_cv0 d 218 342 (RR V) [.int v1, .int (i3 0), .int (i3 1)] (x, sm_up G 156 0 (i3 0), L)) (fun a1 x1 G1 L1 =>
    if a1 = (i3 0) then
      (sm_aI (sm_cv0 d 219 342 (RR V) [.ref 156, .int (i3 1), .int (i3 1), .int (i3 2)] (x1, G1, L1)) (fun a2 x2 G2 L2 =>
        if a2 = (i3 0) then
          (hD d 306 28 [.ref 156, .int v1, .null] 342 (RR V) x2 G2 L2)
        else (oI (i3 0) x2 G2 L2)) oX)
    else (sm_aI (sm_cv0 d 219 342 (RR V) [.ref 156, .int (i3 0), .int (i3 1), .int (i3 2)] (x1, G1, L1)) (fun a3 x3 G3 L3 =>
        if a3 = (i3 0) then
          (hD d 306 28 [.ref 156, .int v1, .null] 342 (RR V) x3 G3 L3)
        else (oI (i3 0) x3 G3 L3)) oX)) oX := by
  rw [rm_306]
  try simp only [gd_tt, k_156]
set_option maxRecDepth 20000 in
theorem rh_306_28 {d x : Nat} {R : sm_R} {G : sm_G} {L : sm_L} {v1 : Int32} : hD d 306 28 [.ref 156, .int v1, .null] 342 R x G L =
  ldi (R 156 12) (i3 0) G (fun y1 => if y1 ≤ (i3 6) then
    (sm_aI (sm_cv0 d 219 342 R [.ref 156, .int (i3 0), .int (i3 2), .int (i3 3)] (x, G, L)) (fun a2 x2 G2 L2 =>
      if a2 = (i3 0) then
        (hD d 306 55 [.ref 156, .int v1, .null] 342 R x2 G2 L2)
      else (oI (i3 0) x2 G2 L2)) oX)
  else (sm_aI (sm_cv0 d 219 342 R [.ref 156, .int (i3 1), .int (i3 2), .int (i3 3)] (x, G, L)) (fun a3 x3 G3 L3 =>
      if a3 = (i3 0) then
        (hD d 306 55 [.ref 156, .int v1, .null] 342 R x3 G3 L3)
      else (oI (i3 0) x3 G3 L3)) oX)) := hD_eq.trans rfl
set_option maxRecDepth 20000 in
theorem h_306_28 {d x : Nat} {V : pV} {G : sm_G} {L : sm_L} {v1 : Int32} : hD d 306 28 [.ref 156, .int v1, .null] 342 (RR V) x G L =
  if (G 160 0) ≤ (i3 6) then
    (sm_aI (sm_cv0 d 219 342 (RR V) [.ref 156, .int (i3 0), .int (i3 2), .int (i3 3)] (x, G, L)) (fun a2 x2 G2 L2 =>
      if a2 = (i3 0) then
        (hD d 306 55 [.ref 156, .int v1, .null] 342 (RR V) x2 G2 L2)
      else (oI (i3 0) x2 G2 L2)) oX)
  else (sm_aI (sm_cv0 d 219 342 (RR V) [.ref 156, .int (i3 1), .int (i3 2), .int (i3 3)] (x, G, L)) (fun a3 x3 G3 L3 =>
      if a3 = (i3 0) then
        (hD d 306 55 [.ref 156, .int v1, .null] 342 (RR V) x3 G3 L3)
      else (oI (i3 0) x3 G3 L3)) oX) := by
  rw [rh_306_28]
  try simp only [gd_tt, (q_156_12 V), cl_0, inl_0_6, k_156, ldi_e k_160 n_160, n_160]
set_option maxRecDepth 20000 in
theorem rh_306_55 {d x : Nat} {R : sm_R} {G : sm_G} {L : sm_L} {v1 : Int32} : hD d 306 55 [.ref 156, .int v1, .null] 342 R x G L =
  sm_aV (sm_cv0 d 254 342 R [.ref 156] (x, sm_up G 156 65 m1, L)) (fun x1 G1 L1 =>
    sm_aV (sm_cv0 d 307 342 R [.ref 156, .int (i3 0), .int (i3 0), .int (i3 0)] (x1, G1, L1)) (fun x2 G2 L2 =>
      hD d 306 73 [.ref 156, .int v1, .int (i3 0)] 342 R x2 G2 L2) oX) oX := hD_eq.trans rfl
set_option maxRecDepth 20000 in
theorem h_306_55 {d x : Nat} {V : pV} {G : sm_G} {L : sm_L} {v1 : Int32} : hD d 306 55 [.ref 156, .int v1, .null] 342 (RR V) x G L =
  sm_aV (sm_cv0 d 254 342 (RR V) [.ref 156] (x, sm_up G 156 65 m1, L)) (fun x1 G1 L1 =>
    sm_aV (sm_cv0 d 307 342 (RR V) [.ref 156, .int (i3 0), .int (i3 0), .int (i3 0)] (x1, G1, L1)) (fun x2 G2 L2 =>
      hD d 306 73 [.ref 156, .int v1, .int (i3 0)] 342 (RR V) x2 G2 L2) oX) oX := by
  rw [rh_306_55]
  try simp only [gd_tt, k_156]
set_option maxRecDepth 20000 in
theorem rh_306_73 {d x : Nat} {R : sm_R} {G : sm_G} {L : sm_L} {v1 v2 : Int32} : hD d 306 73 [.ref 156, .int v1, .int v2] 342 R x G L =
  if v2 < (i3 8) then
    (gd (sm_is (R 156 42) 342 20) (gd (sm_in v2 (sm_N (R 156 42))) (hD d 306 73 [.ref 156, .int v1, .int (v2 + (i3 1))] 342 R x (sm_up G (R 156 42) v2.toNatClampNeg v2) L)))
  else (if v1 = (i3 0) then
      (oI (G 156 65) x G L)
    else (oI (G 156 66) x G L)) := hD_eq.trans rfl
set_option maxRecDepth 20000 in
theorem h_306_73 {d x : Nat} {V : pV} {G : sm_G} {L : sm_L} {v1 v2 : Int32} : hD d 306 73 [.ref 156, .int v1, .int v2] 342 (RR V) x G L =
  if v2 < (i3 8) then
    (gd (sm_in v2 8) (hD d 306 73 [.ref 156, .int v1, .int (v2 + (i3 1))] 342 (RR V) x (sm_up G 305 v2.toNatClampNeg v2) L))
  else (if v1 = (i3 0) then
      (oI (G 156 65) x G L)
    else (oI (G 156 66) x G L)) := by
  rw [rh_306_73]
  try simp only [gd_tt, (q_156_42 V), k_156, k_305, n_305]
/-! M_rounds -/
set_option maxRecDepth 20000 in
theorem rm_307 {d x : Nat} {R : sm_R} {G : sm_G} {L : sm_L} {v1 v2 v3 : Int32} : sm_cv0 (d + 1) 307 342 R [.ref 156, .int v1, .int v2, .int v3] (x, G, L) =
  hD d 307 3 [.ref 156, .int v1, .int v2, .int v3, .int (i3 0)] 342 R x G L := (cv_eq rfl rfl).trans (hD_eq.trans rfl)
theorem m_307 {d x : Nat} {V : pV} {G : sm_G} {L : sm_L} {v1 v2 v3 : Int32} : sm_cv0 (d + 1) 307 342 (RR V) [.ref 156, .int v1, .int v2, .int v3] (x, G, L) =
  hD d 307 3 [.ref 156, .int v1, .int v2, .int v3, .int (i3 0)] 342 (RR V) x G L := rm_307
set_option maxRecDepth 20000 in
theorem rh_307_3 {d x : Nat} {R : sm_R} {G : sm_G} {L : sm_L} {v1 v2 v3 v4 : Int32} : hD d 307 3 [.ref 156, .int v1, .int v2, .int v3, .int v4] 342 R x G L =
  ldi (R 156 12) (i3 0) G (fun y1 => if v4 < y1 then
    (ldi (R 156 12) (i3 0) G (fun y2 => if v2 < y2 then
      (if ((shr v1 v4) &&& (i3 1)) = (i3 1) then
        (hD d 307 3 [.ref 156, .int v1, .int v2, .int v3, .int (v4 + (i3 1))] 342 R x G L)
      else (gd (sm_is (R 156 42) 342 20) (gd (sm_in v4 (sm_N (R 156 42))) (sm_aV (sm_cv0 d 307 342 R [.ref 156, .int (v1 ||| (shl (i3 1) v4)), .int (v2 + (i3 1)), .int (((i3 10) * v3) + v4)] (x, sm_up G (R 156 42) v4.toNatClampNeg v2, L)) (fun x3 G3 L3 =>
          hD d 307 3 [.ref 156, .int v1, .int v2, .int v3, .int (v4 + (i3 1))] 342 R x3 G3 L3) oX))))
    else (hD d 307 71 [.ref 156, .null, .int v2, .int v3, .null] 342 R x G L)))
  else (hD d 307 71 [.ref 156, .null, .int v2, .int v3, .null] 342 R x G L)) := hD_eq.trans rfl
set_option maxRecDepth 20000 in
theorem h_307_3 {d x : Nat} {V : pV} {G : sm_G} {L : sm_L} {v1 v2 v3 v4 : Int32} : hD d 307 3 [.ref 156, .int v1, .int v2, .int v3, .int v4] 342 (RR V) x G L =
  if v4 < (G 160 0) then
    (if v2 < (G 160 0) then
      (if ((shr v1 v4) &&& (i3 1)) = (i3 1) then
        (hD d 307 3 [.ref 156, .int v1, .int v2, .int v3, .int (v4 + (i3 1))] 342 (RR V) x G L)
      else (gd (sm_in v4 8) (sm_aV (sm_cv0 d 307 342 (RR V) [.ref 156, .int (v1 ||| (shl (i3 1) v4)), .int (v2 + (i3 1)), .int (((i3 10) * v3) + v4)] (x, sm_up G 305 v4.toNatClampNeg v2, L)) (fun x3 G3 L3 =>
          hD d 307 3 [.ref 156, .int v1, .int v2, .int v3, .int (v4 + (i3 1))] 342 (RR V) x3 G3 L3) oX)))
    else (hD d 307 71 [.ref 156, .null, .int v2, .int v3, .null] 342 (RR V) x G L))
  else (hD d 307 71 [.ref 156, .null, .int v2, .int v3, .null] 342 (RR V) x G L) := by
  rw [rh_307_3]
  try simp only [gd_tt, (q_156_12 V), (q_156_42 V), cl_0, inl_0_6, k_156, k_305, ldi_e k_160 n_160, n_160, n_305]
set_option maxRecDepth 20000 in
theorem rh_307_71 {d x : Nat} {R : sm_R} {G : sm_G} {L : sm_L} {v2 v3 : Int32} : hD d 307 71 [.ref 156, .null, .int v2, .int v3, .null] 342 R x G L =
  ldi (R 156 12) (i3 0) G (fun y1 => if v2 < y1 then
    (oV x G L)
  else (sm_aV (sm_cv0 d 258 342 R [.ref 156, .int (G 156 37)] (x, G, L)) (fun x2 G2 L2 =>
      sm_aI (sm_cv0 d 264 342 R [.ref 156] (x2, G2, L2)) (fun a3 x3 G3 L3 =>
        sm_aI (sm_cv0 d 291 342 R [.int a3] (x3, G3, L3)) (fun a4 x4 G4 L4 =>
          if (G4 156 65) = m1 then
            (oV x4 (sm_up (sm_up G4 156 65 a4) 156 66 v3) L4)
          else (if a4 < (G4 156 65) then
              (oV x4 (sm_up (sm_up G4 156 65 a4) 156 66 v3) L4)
            else (oV x4 G4 L4))) oX) oX) oX)) := hD_eq.trans rfl
set_option maxRecDepth 20000 in
theorem h_307_71 {d x : Nat} {V : pV} {G : sm_G} {L : sm_L} {v2 v3 : Int32} : hD d 307 71 [.ref 156, .null, .int v2, .int v3, .null] 342 (RR V) x G L =
  if v2 < (G 160 0) then
    (oV x G L)
  else (sm_aV (sm_cv0 d 258 342 (RR V) [.ref 156, .int (G 156 37)] (x, G, L)) (fun x2 G2 L2 =>
      sm_aI (sm_cv0 d 264 342 (RR V) [.ref 156] (x2, G2, L2)) (fun a3 x3 G3 L3 =>
        sm_aI (sm_cv0 d 291 342 (RR V) [.int a3] (x3, G3, L3)) (fun a4 x4 G4 L4 =>
          if (G4 156 65) = m1 then
            (oV x4 (sm_up (sm_up G4 156 65 a4) 156 66 v3) L4)
          else (if a4 < (G4 156 65) then
              (oV x4 (sm_up (sm_up G4 156 65 a4) 156 66 v3) L4)
            else (oV x4 G4 L4))) oX) oX) oX) := by
  rw [rh_307_71]
  try simp only [gd_tt, (q_156_12 V), cl_0, inl_0_6, k_156, ldi_e k_160 n_160, n_160]
/-! M_asleep -/
set_option maxRecDepth 20000 in
theorem rm_308 {d x : Nat} {R : sm_R} {G : sm_G} {L : sm_L} {v1 : Int32} : sm_cv0 (d + 1) 308 342 R [.ref 156, .int v1] (x, G, L) =
  sm_aI (sm_cv0 d 253 342 R [.int v1] (x, sm_up G 156 0 (i3 0), L)) (fun a1 x1 G1 L1 =>
    if a1 = (i3 0) then
      (sm_aI (sm_cv0 d 219 342 R [.ref 156, .int (i3 1), .int (i3 1), .int (i3 2)] (x1, G1, L1)) (fun a2 x2 G2 L2 =>
        if a2 = (i3 0) then
          (sm_aV (sm_cv0 d 254 342 R [.ref 156] (x2, G2, L2)) (fun x3 G3 L3 =>
            hD d 308 44 [.ref 156, .int v1, .int (i3 0), .int (i3 0)] 342 R x3 (sm_up G3 156 41 (G3 156 37)) L3) oX)
        else (oI (i3 0) x2 G2 L2)) oX)
    else (sm_aI (sm_cv0 d 219 342 R [.ref 156, .int (i3 0), .int (i3 1), .int (i3 2)] (x1, G1, L1)) (fun a4 x4 G4 L4 =>
        if a4 = (i3 0) then
          (sm_aV (sm_cv0 d 254 342 R [.ref 156] (x4, G4, L4)) (fun x5 G5 L5 =>
            hD d 308 44 [.ref 156, .int v1, .int (i3 0), .int (i3 0)] 342 R x5 (sm_up G5 156 41 (G5 156 37)) L5) oX)
        else (oI (i3 0) x4 G4 L4)) oX)) oX := (cv_eq rfl rfl).trans (hD_eq.trans rfl)
set_option maxRecDepth 20000 in
theorem m_308 {d x : Nat} {V : pV} {G : sm_G} {L : sm_L} {v1 : Int32} : sm_cv0 (d + 1) 308 342 (RR V) [.ref 156, .int v1] (x, G, L) =
  sm_aI (sm_cv0 d 253 342 (RR V) [.int v1] (x, sm_up G 156 0 (i3 0), L)) (fun a1 x1 G1 L1 =>
    if a1 = (i3 0) then
      (sm_aI (sm_cv0 d 219 342 (RR V) [.ref 156, .int (i3 1), .int (i3 1), .int (i3 2)] (x1, G1, L1)) (fun a2 x2 G2 L2 =>
        if a2 = (i3 0) then
          (sm_aV (sm_cv0 d 254 342 (RR V) [.ref 156] (x2, G2, L2)) (fun x3 G3 L3 =>
            hD d 308 44 [.ref 156, .int v1, .int (i3 0), .int (i3 0)] 342 (RR V) x3 (sm_up G3 156 41 (G3 156 37)) L3) oX)
        else (oI (i3 0) x2 G2 L2)) oX)
    else (sm_aI (sm_cv0 d 219 342 (RR V) [.ref 156, .int (i3 0), .int (i3 1), .int (i3 2)] (x1, G1, L1)) (fun a4 x4 G4 L4 =>
        if a4 = (i3 0) then
          (sm_aV (sm_cv0 d 254 342 (RR V) [.ref 156] (x4, G4, L4)) (fun x5 G5 L5 =>
            hD d 308 44 [.ref 156, .int v1, .int (i3 0), .int (i3 0)] 342 (RR V) x5 (sm_up G5 156 41 (G5 156 37)) L5) oX)
        else (oI (i3 0) x4 G4 L4)) oX)) oX := by
  rw [rm_308]
  try simp only [gd_tt, k_156]
set_option maxRecDepth 20000 in
theorem rh_308_44 {d x : Nat} {R : sm_R} {G : sm_G} {L : sm_L} {v1 v2 v3 : Int32} : hD d 308 44 [.ref 156, .int v1, .int v2, .int v3] 342 R x G L =
  ldi (R 156 12) (i3 0) G (fun y1 => if v3 < y1 then
    (sm_aI (sm_cv0 d 255 342 R [.ref 156, .int v3, .int v1] (x, G, L)) (fun a2 x2 G2 L2 =>
      if a2 = (i3 0) then
        (hD d 308 44 [.ref 156, .int v1, .int (v2 ||| (i3 0)), .int (v3 + (i3 1))] 342 R x2 G2 L2)
      else (hD d 308 44 [.ref 156, .int v1, .int (v2 ||| (shl (i3 1) v3)), .int (v3 + (i3 1))] 342 R x2 G2 L2)) oX)
  else (oI v2 x G L)) := hD_eq.trans rfl
set_option maxRecDepth 20000 in
theorem h_308_44 {d x : Nat} {V : pV} {G : sm_G} {L : sm_L} {v1 v2 v3 : Int32} : hD d 308 44 [.ref 156, .int v1, .int v2, .int v3] 342 (RR V) x G L =
  if v3 < (G 160 0) then
    (sm_aI (sm_cv0 d 255 342 (RR V) [.ref 156, .int v3, .int v1] (x, G, L)) (fun a2 x2 G2 L2 =>
      if a2 = (i3 0) then
        (hD d 308 44 [.ref 156, .int v1, .int (v2 ||| (i3 0)), .int (v3 + (i3 1))] 342 (RR V) x2 G2 L2)
      else (hD d 308 44 [.ref 156, .int v1, .int (v2 ||| (shl (i3 1) v3)), .int (v3 + (i3 1))] 342 (RR V) x2 G2 L2)) oX)
  else (oI v2 x G L) := by
  rw [rh_308_44]
  try simp only [gd_tt, (q_156_12 V), cl_0, inl_0_6, k_156, ldi_e k_160 n_160, n_160]
/-! M_rooms -/
set_option maxRecDepth 20000 in
theorem rm_309 {d x : Nat} {R : sm_R} {G : sm_G} {L : sm_L} {v1 : Int32} : sm_cv0 (d + 1) 309 342 R [.ref 156, .int v1] (x, G, L) =
  sm_aI (sm_cv0 d 253 342 R [.int v1] (x, sm_up G 156 0 (i3 0), L)) (fun a1 x1 G1 L1 =>
    if a1 = (i3 0) then
      (sm_aI (sm_cv0 d 219 342 R [.ref 156, .int (i3 1), .int (i3 1), .int (i3 2)] (x1, G1, L1)) (fun a2 x2 G2 L2 =>
        if a2 = (i3 0) then
          (sm_aV (sm_cv0 d 257 342 R [.ref 156] (x2, G2, L2)) (fun x3 G3 L3 =>
            ldi (R 156 44) v1 G3 (fun y4 => oI y4 x3 G3 L3)) oX)
        else (oI (i3 0) x2 G2 L2)) oX)
    else (sm_aI (sm_cv0 d 219 342 R [.ref 156, .int (i3 0), .int (i3 1), .int (i3 2)] (x1, G1, L1)) (fun a5 x5 G5 L5 =>
        if a5 = (i3 0) then
          (sm_aV (sm_cv0 d 257 342 R [.ref 156] (x5, G5, L5)) (fun x6 G6 L6 =>
            ldi (R 156 44) v1 G6 (fun y7 => oI y7 x6 G6 L6)) oX)
        else (oI (i3 0) x5 G5 L5)) oX)) oX := (cv_eq rfl rfl).trans (hD_eq.trans rfl)
set_option maxRecDepth 20000 in
theorem m_309 {d x : Nat} {V : pV} {G : sm_G} {L : sm_L} {v1 : Int32} : sm_cv0 (d + 1) 309 342 (RR V) [.ref 156, .int v1] (x, G, L) =
  sm_aI (sm_cv0 d 253 342 (RR V) [.int v1] (x, sm_up G 156 0 (i3 0), L)) (fun a1 x1 G1 L1 =>
    if a1 = (i3 0) then
      (sm_aI (sm_cv0 d 219 342 (RR V) [.ref 156, .int (i3 1), .int (i3 1), .int (i3 2)] (x1, G1, L1)) (fun a2 x2 G2 L2 =>
        if a2 = (i3 0) then
          (sm_aV (sm_cv0 d 257 342 (RR V) [.ref 156] (x2, G2, L2)) (fun x3 G3 L3 =>
            gd (sm_in v1 301) (oI (G3 307 v1.toNatClampNeg) x3 G3 L3)) oX)
        else (oI (i3 0) x2 G2 L2)) oX)
    else (sm_aI (sm_cv0 d 219 342 (RR V) [.ref 156, .int (i3 0), .int (i3 1), .int (i3 2)] (x1, G1, L1)) (fun a5 x5 G5 L5 =>
        if a5 = (i3 0) then
          (sm_aV (sm_cv0 d 257 342 (RR V) [.ref 156] (x5, G5, L5)) (fun x6 G6 L6 =>
            gd (sm_in v1 301) (oI (G6 307 v1.toNatClampNeg) x6 G6 L6)) oX)
        else (oI (i3 0) x5 G5 L5)) oX)) oX := by
  rw [rm_309]
  try simp only [gd_tt, (q_156_44 V), k_156, ldi_e k_307 n_307, n_307]
/-! M_lasting -/
set_option maxRecDepth 20000 in
theorem rm_310 {d x : Nat} {R : sm_R} {G : sm_G} {L : sm_L} {v1 v2 : Int32} : sm_cv0 (d + 1) 310 342 R [.ref 156, .int v1, .int v2] (x, G, L) =
  sm_aI (sm_cv0 d 248 342 R [.ref 156, .int v1] (x, sm_up G 156 0 (i3 0), L)) (fun a1 x1 G1 L1 =>
    if a1 = (i3 0) then
      (sm_aI (sm_cv0 d 219 342 R [.ref 156, .int (i3 1), .int (i3 1), .int (i3 0)] (x1, G1, L1)) (fun a2 x2 G2 L2 =>
        if a2 = (i3 0) then
          (hD d 310 27 [.ref 156, .int v1, .int v2, .null, .null, .null, .null] 342 R x2 G2 L2)
        else (oI (i3 0) x2 G2 L2)) oX)
    else (sm_aI (sm_cv0 d 219 342 R [.ref 156, .int (i3 0), .int (i3 1), .int (i3 0)] (x1, G1, L1)) (fun a3 x3 G3 L3 =>
        if a3 = (i3 0) then
          (hD d 310 27 [.ref 156, .int v1, .int v2, .null, .null, .null, .null] 342 R x3 G3 L3)
        else (oI (i3 0) x3 G3 L3)) oX)) oX := (cv_eq rfl rfl).trans (hD_eq.trans rfl)
set_option maxRecDepth 20000 in
theorem m_310 {d x : Nat} {V : pV} {G : sm_G} {L : sm_L} {v1 v2 : Int32} : sm_cv0 (d + 1) 310 342 (RR V) [.ref 156, .int v1, .int v2] (x, G, L) =
  sm_aI (sm_cv0 d 248 342 (RR V) [.ref 156, .int v1] (x, sm_up G 156 0 (i3 0), L)) (fun a1 x1 G1 L1 =>
    if a1 = (i3 0) then
      (sm_aI (sm_cv0 d 219 342 (RR V) [.ref 156, .int (i3 1), .int (i3 1), .int (i3 0)] (x1, G1, L1)) (fun a2 x2 G2 L2 =>
        if a2 = (i3 0) then
          (hD d 310 27 [.ref 156, .int v1, .int v2, .null, .null, .null, .null] 342 (RR V) x2 G2 L2)
        else (oI (i3 0) x2 G2 L2)) oX)
    else (sm_aI (sm_cv0 d 219 342 (RR V) [.ref 156, .int (i3 0), .int (i3 1), .int (i3 0)] (x1, G1, L1)) (fun a3 x3 G3 L3 =>
        if a3 = (i3 0) then
          (hD d 310 27 [.ref 156, .int v1, .int v2, .null, .null, .null, .null] 342 (RR V) x3 G3 L3)
        else (oI (i3 0) x3 G3 L3)) oX)) oX := by
  rw [rm_310]
  try simp only [gd_tt, k_156]
set_option maxRecDepth 20000 in
theorem rh_310_27 {d x : Nat} {R : sm_R} {G : sm_G} {L : sm_L} {v1 v2 : Int32} : hD d 310 27 [.ref 156, .int v1, .int v2, .null, .null, .null, .null] 342 R x G L =
  sm_aI (sm_cv0 d 218 342 R [.int v2, .int (i3 0), .int (i3 1)] (x, G, L)) (fun a1 x1 G1 L1 =>
    if a1 = (i3 0) then
      (sm_aI (sm_cv0 d 219 342 R [.ref 156, .int (i3 1), .int (i3 2), .int (i3 2)] (x1, G1, L1)) (fun a2 x2 G2 L2 =>
        if a2 = (i3 0) then
          (sm_aV (sm_cv0 d 257 342 R [.ref 156] (x2, G2, L2)) (fun x3 G3 L3 =>
            hD d 310 64 [.ref 156, .int v1, .int v2, .int (i3 0), .int (i3 0), .int m1, .null] 342 R x3 G3 L3) oX)
        else (oI (i3 0) x2 G2 L2)) oX)
    else (sm_aI (sm_cv0 d 219 342 R [.ref 156, .int (i3 0), .int (i3 2), .int (i3 2)] (x1, G1, L1)) (fun a4 x4 G4 L4 =>
        if a4 = (i3 0) then
          (sm_aV (sm_cv0 d 257 342 R [.ref 156] (x4, G4, L4)) (fun x5 G5 L5 =>
            hD d 310 64 [.ref 156, .int v1, .int v2, .int (i3 0), .int (i3 0), .int m1, .null] 342 R x5 G5 L5) oX)
        else (oI (i3 0) x4 G4 L4)) oX)) oX := hD_eq.trans rfl
set_option maxRecDepth 20000 in
theorem h_310_27 {d x : Nat} {V : pV} {G : sm_G} {L : sm_L} {v1 v2 : Int32} : hD d 310 27 [.ref 156, .int v1, .int v2, .null, .null, .null, .null] 342 (RR V) x G L =
  sm_aI (sm_cv0 d 218 342 (RR V) [.int v2, .int (i3 0), .int (i3 1)] (x, G, L)) (fun a1 x1 G1 L1 =>
    if a1 = (i3 0) then
      (sm_aI (sm_cv0 d 219 342 (RR V) [.ref 156, .int (i3 1), .int (i3 2), .int (i3 2)] (x1, G1, L1)) (fun a2 x2 G2 L2 =>
        if a2 = (i3 0) then
          (sm_aV (sm_cv0 d 257 342 (RR V) [.ref 156] (x2, G2, L2)) (fun x3 G3 L3 =>
            hD d 310 64 [.ref 156, .int v1, .int v2, .int (i3 0), .int (i3 0), .int m1, .null] 342 (RR V) x3 G3 L3) oX)
        else (oI (i3 0) x2 G2 L2)) oX)
    else (sm_aI (sm_cv0 d 219 342 (RR V) [.ref 156, .int (i3 0), .int (i3 2), .int (i3 2)] (x1, G1, L1)) (fun a4 x4 G4 L4 =>
        if a4 = (i3 0) then
          (sm_aV (sm_cv0 d 257 342 (RR V) [.ref 156] (x4, G4, L4)) (fun x5 G5 L5 =>
            hD d 310 64 [.ref 156, .int v1, .int v2, .int (i3 0), .int (i3 0), .int m1, .null] 342 (RR V) x5 G5 L5) oX)
        else (oI (i3 0) x4 G4 L4)) oX)) oX := by
  rw [rh_310_27]
  try simp only [gd_tt, k_156]
set_option maxRecDepth 20000 in
theorem rh_310_64 {d x : Nat} {R : sm_R} {G : sm_G} {L : sm_L} {v1 v2 v3 v4 v5 : Int32} : hD d 310 64 [.ref 156, .int v1, .int v2, .int v3, .int v4, .int v5, .null] 342 R x G L =
  hD d 310 67 [.ref 156, .int v1, .int v2, .int v3, .int v4, .int v5, .int (i3 0)] 342 R x G L := hD_eq.trans rfl
theorem h_310_64 {d x : Nat} {V : pV} {G : sm_G} {L : sm_L} {v1 v2 v3 v4 v5 : Int32} : hD d 310 64 [.ref 156, .int v1, .int v2, .int v3, .int v4, .int v5, .null] 342 (RR V) x G L =
  hD d 310 67 [.ref 156, .int v1, .int v2, .int v3, .int v4, .int v5, .int (i3 0)] 342 (RR V) x G L := rh_310_64
set_option maxRecDepth 20000 in
theorem rh_310_67 {d x : Nat} {R : sm_R} {G : sm_G} {L : sm_L} {v1 v2 v3 v4 v5 v6 : Int32} : hD d 310 67 [.ref 156, .int v1, .int v2, .int v3, .int v4, .int v5, .int v6] 342 R x G L =
  if v6 < (i3 301) then
    (ldi (R 156 44) v6 G (fun y1 => if ((shr y1 v1) &&& (i3 1)) = (i3 1) then
      (hD d 310 98 [.ref 156, .int v1, .int v2, .int (v3 + (i3 1)), .int v4, .int v5, .int v6] 342 R x G L)
    else (hD d 310 98 [.ref 156, .int v1, .int v2, .int (i3 0), .int v4, .int v5, .int v6] 342 R x G L)))
  else (if v2 = (i3 0) then
      (oI v4 x G L)
    else (oI v5 x G L)) := hD_eq.trans rfl
set_option maxRecDepth 20000 in
theorem h_310_67 {d x : Nat} {V : pV} {G : sm_G} {L : sm_L} {v1 v2 v3 v4 v5 v6 : Int32} : hD d 310 67 [.ref 156, .int v1, .int v2, .int v3, .int v4, .int v5, .int v6] 342 (RR V) x G L =
  if v6 < (i3 301) then
    (gd (sm_in v6 301) (if ((shr (G 307 v6.toNatClampNeg) v1) &&& (i3 1)) = (i3 1) then
      (hD d 310 98 [.ref 156, .int v1, .int v2, .int (v3 + (i3 1)), .int v4, .int v5, .int v6] 342 (RR V) x G L)
    else (hD d 310 98 [.ref 156, .int v1, .int v2, .int (i3 0), .int v4, .int v5, .int v6] 342 (RR V) x G L)))
  else (if v2 = (i3 0) then
      (oI v4 x G L)
    else (oI v5 x G L)) := by
  rw [rh_310_67]
  try simp only [gd_tt, (q_156_44 V), k_156, ldi_e k_307 n_307, n_307]
set_option maxRecDepth 20000 in
theorem rh_310_98 {d x : Nat} {R : sm_R} {G : sm_G} {L : sm_L} {v1 v2 v3 v4 v5 v6 : Int32} : hD d 310 98 [.ref 156, .int v1, .int v2, .int v3, .int v4, .int v5, .int v6] 342 R x G L =
  if v3 ≤ v4 then
    (hD d 310 121 [.ref 156, .int v1, .int v2, .int v3, .int v4, .int v5, .int (v6 + (i3 1))] 342 R x G L)
  else (hD d 310 121 [.ref 156, .int v1, .int v2, .int v3, .int v3, .int ((v6 - v3) + (i3 1)), .int (v6 + (i3 1))] 342 R x G L) := hD_eq.trans rfl
theorem h_310_98 {d x : Nat} {V : pV} {G : sm_G} {L : sm_L} {v1 v2 v3 v4 v5 v6 : Int32} : hD d 310 98 [.ref 156, .int v1, .int v2, .int v3, .int v4, .int v5, .int v6] 342 (RR V) x G L =
  if v3 ≤ v4 then
    (hD d 310 121 [.ref 156, .int v1, .int v2, .int v3, .int v4, .int v5, .int (v6 + (i3 1))] 342 (RR V) x G L)
  else (hD d 310 121 [.ref 156, .int v1, .int v2, .int v3, .int v3, .int ((v6 - v3) + (i3 1)), .int (v6 + (i3 1))] 342 (RR V) x G L) := rh_310_98
set_option maxRecDepth 20000 in
theorem rh_310_121 {d x : Nat} {R : sm_R} {G : sm_G} {L : sm_L} {v1 v2 v3 v4 v5 v6 : Int32} : hD d 310 121 [.ref 156, .int v1, .int v2, .int v3, .int v4, .int v5, .int v6] 342 R x G L =
  hD d 310 67 [.ref 156, .int v1, .int v2, .int v3, .int v4, .int v5, .int v6] 342 R x G L := hD_eq.trans rfl
theorem h_310_121 {d x : Nat} {V : pV} {G : sm_G} {L : sm_L} {v1 v2 v3 v4 v5 v6 : Int32} : hD d 310 121 [.ref 156, .int v1, .int v2, .int v3, .int v4, .int v5, .int v6] 342 (RR V) x G L =
  hD d 310 67 [.ref 156, .int v1, .int v2, .int v3, .int v4, .int v5, .int v6] 342 (RR V) x G L := rh_310_121
/-! M_reach -/
set_option maxRecDepth 20000 in
theorem rm_311 {d x : Nat} {R : sm_R} {G : sm_G} {L : sm_L} {v1 v2 v3 : Int32} : sm_cv0 (d + 1) 311 342 R [.ref 156, .int v1, .int v2, .int v3] (x, G, L) =
  sm_aI (sm_cv0 d 248 342 R [.ref 156, .int v1] (x, sm_up G 156 0 (i3 0), L)) (fun a1 x1 G1 L1 =>
    if a1 = (i3 0) then
      (sm_aI (sm_cv0 d 219 342 R [.ref 156, .int (i3 1), .int (i3 1), .int (i3 0)] (x1, G1, L1)) (fun a2 x2 G2 L2 =>
        if a2 = (i3 0) then
          (hD d 311 27 [.ref 156, .int v1, .int v2, .int v3] 342 R x2 G2 L2)
        else (oI (i3 0) x2 G2 L2)) oX)
    else (sm_aI (sm_cv0 d 219 342 R [.ref 156, .int (i3 0), .int (i3 1), .int (i3 0)] (x1, G1, L1)) (fun a3 x3 G3 L3 =>
        if a3 = (i3 0) then
          (hD d 311 27 [.ref 156, .int v1, .int v2, .int v3] 342 R x3 G3 L3)
        else (oI (i3 0) x3 G3 L3)) oX)) oX := (cv_eq rfl rfl).trans (hD_eq.trans rfl)
set_option maxRecDepth 20000 in
theorem m_311 {d x : Nat} {V : pV} {G : sm_G} {L : sm_L} {v1 v2 v3 : Int32} : sm_cv0 (d + 1) 311 342 (RR V) [.ref 156, .int v1, .int v2, .int v3] (x, G, L) =
  sm_aI (sm_cv0 d 248 342 (RR V) [.ref 156, .int v1] (x, sm_up G 156 0 (i3 0), L)) (fun a1 x1 G1 L1 =>
    if a1 = (i3 0) then
      (sm_aI (sm_cv0 d 219 342 (RR V) [.ref 156, .int (i3 1), .int (i3 1), .int (i3 0)] (x1, G1, L1)) (fun a2 x2 G2 L2 =>
        if a2 = (i3 0) then
          (hD d 311 27 [.ref 156, .int v1, .int v2, .int v3] 342 (RR V) x2 G2 L2)
        else (oI (i3 0) x2 G2 L2)) oX)
    else (sm_aI (sm_cv0 d 219 342 (RR V) [.ref 156, .int (i3 0), .int (i3 1), .int (i3 0)] (x1, G1, L1)) (fun a3 x3 G3 L3 =>
        if a3 = (i3 0) then
          (hD d 311 27 [.ref 156, .int v1, .int v2, .int v3] 342 (RR V) x3 G3 L3)
        else (oI (i3 0) x3 G3 L3)) oX)) oX := by
  rw [rm_311]
  try simp only [gd_tt, k_156]
set_option maxRecDepth 20000 in
theorem rh_311_27 {d x : Nat} {R : sm_R} {G : sm_G} {L : sm_L} {v1 v2 v3 : Int32} : hD d 311 27 [.ref 156, .int v1, .int v2, .int v3] 342 R x G L =
  sm_aI (sm_cv0 d 253 342 R [.int v2] (x, G, L)) (fun a1 x1 G1 L1 =>
    if a1 = (i3 0) then
      (sm_aI (sm_cv0 d 219 342 R [.ref 156, .int (i3 1), .int (i3 2), .int (i3 2)] (x1, G1, L1)) (fun a2 x2 G2 L2 =>
        if a2 = (i3 0) then
          (hD d 311 62 [.ref 156, .int v1, .int v2, .int v3] 342 R x2 G2 L2)
        else (oI (i3 0) x2 G2 L2)) oX)
    else (sm_aI (sm_cv0 d 253 342 R [.int v3] (x1, G1, L1)) (fun a3 x3 G3 L3 =>
        if a3 = (i3 0) then
          (sm_aI (sm_cv0 d 219 342 R [.ref 156, .int (i3 1), .int (i3 2), .int (i3 2)] (x3, G3, L3)) (fun a4 x4 G4 L4 =>
            if a4 = (i3 0) then
              (hD d 311 62 [.ref 156, .int v1, .int v2, .int v3] 342 R x4 G4 L4)
            else (oI (i3 0) x4 G4 L4)) oX)
        else (if v3 < v2 then
            (sm_aI (sm_cv0 d 219 342 R [.ref 156, .int (i3 1), .int (i3 2), .int (i3 2)] (x3, G3, L3)) (fun a5 x5 G5 L5 =>
              if a5 = (i3 0) then
                (hD d 311 62 [.ref 156, .int v1, .int v2, .int v3] 342 R x5 G5 L5)
              else (oI (i3 0) x5 G5 L5)) oX)
          else (sm_aI (sm_cv0 d 219 342 R [.ref 156, .int (i3 0), .int (i3 2), .int (i3 2)] (x3, G3, L3)) (fun a6 x6 G6 L6 =>
              if a6 = (i3 0) then
                (hD d 311 62 [.ref 156, .int v1, .int v2, .int v3] 342 R x6 G6 L6)
              else (oI (i3 0) x6 G6 L6)) oX))) oX)) oX := hD_eq.trans rfl
set_option maxRecDepth 20000 in
theorem h_311_27 {d x : Nat} {V : pV} {G : sm_G} {L : sm_L} {v1 v2 v3 : Int32} : hD d 311 27 [.ref 156, .int v1, .int v2, .int v3] 342 (RR V) x G L =
  sm_aI (sm_cv0 d 253 342 (RR V) [.int v2] (x, G, L)) (fun a1 x1 G1 L1 =>
    if a1 = (i3 0) then
      (sm_aI (sm_cv0 d 219 342 (RR V) [.ref 156, .int (i3 1), .int (i3 2), .int (i3 2)] (x1, G1, L1)) (fun a2 x2 G2 L2 =>
        if a2 = (i3 0) then
          (hD d 311 62 [.ref 156, .int v1, .int v2, .int v3] 342 (RR V) x2 G2 L2)
        else (oI (i3 0) x2 G2 L2)) oX)
    else (sm_aI (sm_cv0 d 253 342 (RR V) [.int v3] (x1, G1, L1)) (fun a3 x3 G3 L3 =>
        if a3 = (i3 0) then
          (sm_aI (sm_cv0 d 219 342 (RR V) [.ref 156, .int (i3 1), .int (i3 2), .int (i3 2)] (x3, G3, L3)) (fun a4 x4 G4 L4 =>
            if a4 = (i3 0) then
              (hD d 311 62 [.ref 156, .int v1, .int v2, .int v3] 342 (RR V) x4 G4 L4)
            else (oI (i3 0) x4 G4 L4)) oX)
        else (if v3 < v2 then
            (sm_aI (sm_cv0 d 219 342 (RR V) [.ref 156, .int (i3 1), .int (i3 2), .int (i3 2)] (x3, G3, L3)) (fun a5 x5 G5 L5 =>
              if a5 = (i3 0) then
                (hD d 311 62 [.ref 156, .int v1, .int v2, .int v3] 342 (RR V) x5 G5 L5)
              else (oI (i3 0) x5 G5 L5)) oX)
          else (sm_aI (sm_cv0 d 219 342 (RR V) [.ref 156, .int (i3 0), .int (i3 2), .int (i3 2)] (x3, G3, L3)) (fun a6 x6 G6 L6 =>
              if a6 = (i3 0) then
                (hD d 311 62 [.ref 156, .int v1, .int v2, .int v3] 342 (RR V) x6 G6 L6)
              else (oI (i3 0) x6 G6 L6)) oX))) oX)) oX := by
  rw [rh_311_27]
  try simp only [gd_tt, k_156]
set_option maxRecDepth 20000 in
theorem rh_311_62 {d x : Nat} {R : sm_R} {G : sm_G} {L : sm_L} {v1 v2 v3 : Int32} : hD d 311 62 [.ref 156, .int v1, .int v2, .int v3] 342 R x G L =
  sm_aV (sm_cv0 d 257 342 R [.ref 156] (x, G, L)) (fun x1 G1 L1 =>
    sm_aI (sm_cv0 d 312 342 R [.ref 156, .int (shl (i3 1) v1), .int v2, .int v3] (x1, G1, L1)) (fun a2 x2 G2 L2 =>
      oI a2 x2 G2 L2) oX) oX := hD_eq.trans rfl
set_option maxRecDepth 20000 in
theorem h_311_62 {d x : Nat} {V : pV} {G : sm_G} {L : sm_L} {v1 v2 v3 : Int32} : hD d 311 62 [.ref 156, .int v1, .int v2, .int v3] 342 (RR V) x G L =
  sm_aV (sm_cv0 d 257 342 (RR V) [.ref 156] (x, G, L)) (fun x1 G1 L1 =>
    sm_aI (sm_cv0 d 312 342 (RR V) [.ref 156, .int (shl (i3 1) v1), .int v2, .int v3] (x1, G1, L1)) (fun a2 x2 G2 L2 =>
      oI a2 x2 G2 L2) oX) oX := by
  rw [rh_311_62]
  try simp only [gd_tt, k_156]
/-! M_reachOf -/
set_option maxRecDepth 20000 in
theorem rm_312 {d x : Nat} {R : sm_R} {G : sm_G} {L : sm_L} {v1 v2 v3 : Int32} : sm_cv0 (d + 1) 312 342 R [.ref 156, .int v1, .int v2, .int v3] (x, G, L) =
  ldi (R 156 44) v2 G (fun y1 => hD d 312 15 [.ref 156, .null, .null, .int v3, .int (v1 &&& y1), .int (v2 + (i3 1))] 342 R x G L) := (cv_eq rfl rfl).trans (hD_eq.trans rfl)
set_option maxRecDepth 20000 in
theorem m_312 {d x : Nat} {V : pV} {G : sm_G} {L : sm_L} {v1 v2 v3 : Int32} : sm_cv0 (d + 1) 312 342 (RR V) [.ref 156, .int v1, .int v2, .int v3] (x, G, L) =
  gd (sm_in v2 301) (hD d 312 15 [.ref 156, .null, .null, .int v3, .int (v1 &&& (G 307 v2.toNatClampNeg)), .int (v2 + (i3 1))] 342 (RR V) x G L) := by
  rw [rm_312]
  try simp only [gd_tt, (q_156_44 V), k_156, ldi_e k_307 n_307, n_307]
set_option maxRecDepth 20000 in
theorem rh_312_15 {d x : Nat} {R : sm_R} {G : sm_G} {L : sm_L} {v3 v4 v5 : Int32} : hD d 312 15 [.ref 156, .null, .null, .int v3, .int v4, .int v5] 342 R x G L =
  if v5 ≤ v3 then
    (sm_aI (sm_cv0 d 280 342 R [.ref 156, .int v4, .int v5] (x, G, L)) (fun a1 x1 G1 L1 =>
      hD d 312 15 [.ref 156, .null, .null, .int v3, .int a1, .int (v5 + (i3 1))] 342 R x1 G1 L1) oX)
  else (oI v4 x G L) := hD_eq.trans rfl
set_option maxRecDepth 20000 in
theorem h_312_15 {d x : Nat} {V : pV} {G : sm_G} {L : sm_L} {v3 v4 v5 : Int32} : hD d 312 15 [.ref 156, .null, .null, .int v3, .int v4, .int v5] 342 (RR V) x G L =
  if v5 ≤ v3 then
    (sm_aI (sm_cv0 d 280 342 (RR V) [.ref 156, .int v4, .int v5] (x, G, L)) (fun a1 x1 G1 L1 =>
      hD d 312 15 [.ref 156, .null, .null, .int v3, .int a1, .int (v5 + (i3 1))] 342 (RR V) x1 G1 L1) oX)
  else (oI v4 x G L) := by
  rw [rh_312_15]
  try simp only [gd_tt, k_156]
/-! M_far -/
set_option maxRecDepth 20000 in
theorem rm_313 {d x : Nat} {R : sm_R} {G : sm_G} {L : sm_L} {v1 v2 : Int32} : sm_cv0 (d + 1) 313 342 R [.ref 156, .int v1, .int v2] (x, G, L) =
  sm_aI (sm_cv0 d 283 342 R [.ref 156, .int v1, .int v2] (x, sm_up G 156 0 (i3 0), L)) (fun a1 x1 G1 L1 =>
    if a1 = (i3 0) then
      (sm_aI (sm_cv0 d 219 342 R [.ref 156, .int (i3 1), .int (i3 1), .int (i3 0)] (x1, G1, L1)) (fun a2 x2 G2 L2 =>
        if a2 = (i3 0) then
          (hD d 313 37 [.ref 156, .null, .int v2, .int (shl (i3 1) v1), .int (i3 0), .null, .null] 342 R x2 G2 L2)
        else (oI (i3 0) x2 G2 L2)) oX)
    else (sm_aI (sm_cv0 d 219 342 R [.ref 156, .int (i3 0), .int (i3 1), .int (i3 0)] (x1, G1, L1)) (fun a3 x3 G3 L3 =>
        if a3 = (i3 0) then
          (hD d 313 37 [.ref 156, .null, .int v2, .int (shl (i3 1) v1), .int (i3 0), .null, .null] 342 R x3 G3 L3)
        else (oI (i3 0) x3 G3 L3)) oX)) oX := (cv_eq rfl rfl).trans (hD_eq.trans rfl)
set_option maxRecDepth 20000 in
theorem m_313 {d x : Nat} {V : pV} {G : sm_G} {L : sm_L} {v1 v2 : Int32} : sm_cv0 (d + 1) 313 342 (RR V) [.ref 156, .int v1, .int v2] (x, G, L) =
  sm_aI (sm_cv0 d 283 342 (RR V) [.ref 156, .int v1, .int v2] (x, sm_up G 156 0 (i3 0), L)) (fun a1 x1 G1 L1 =>
    if a1 = (i3 0) then
      (sm_aI (sm_cv0 d 219 342 (RR V) [.ref 156, .int (i3 1), .int (i3 1), .int (i3 0)] (x1, G1, L1)) (fun a2 x2 G2 L2 =>
        if a2 = (i3 0) then
          (hD d 313 37 [.ref 156, .null, .int v2, .int (shl (i3 1) v1), .int (i3 0), .null, .null] 342 (RR V) x2 G2 L2)
        else (oI (i3 0) x2 G2 L2)) oX)
    else (sm_aI (sm_cv0 d 219 342 (RR V) [.ref 156, .int (i3 0), .int (i3 1), .int (i3 0)] (x1, G1, L1)) (fun a3 x3 G3 L3 =>
        if a3 = (i3 0) then
          (hD d 313 37 [.ref 156, .null, .int v2, .int (shl (i3 1) v1), .int (i3 0), .null, .null] 342 (RR V) x3 G3 L3)
        else (oI (i3 0) x3 G3 L3)) oX)) oX := by
  rw [rm_313]
  try simp only [gd_tt, k_156]
set_option maxRecDepth 20000 in
theorem rh_313_37 {d x : Nat} {R : sm_R} {G : sm_G} {L : sm_L} {v2 v3 v4 : Int32} : hD d 313 37 [.ref 156, .null, .int v2, .int v3, .int v4, .null, .null] 342 R x G L =
  if v4 < (i3 8) then
    (if ((shr v3 v2) &&& (i3 1)) = (i3 1) then
      (oI v4 x G L)
    else (hD d 313 62 [.ref 156, .null, .int v2, .int v3, .int v4, .int v3, .int (i3 0)] 342 R x G L))
  else (oI m1 x G L) := hD_eq.trans rfl
theorem h_313_37 {d x : Nat} {V : pV} {G : sm_G} {L : sm_L} {v2 v3 v4 : Int32} : hD d 313 37 [.ref 156, .null, .int v2, .int v3, .int v4, .null, .null] 342 (RR V) x G L =
  if v4 < (i3 8) then
    (if ((shr v3 v2) &&& (i3 1)) = (i3 1) then
      (oI v4 x G L)
    else (hD d 313 62 [.ref 156, .null, .int v2, .int v3, .int v4, .int v3, .int (i3 0)] 342 (RR V) x G L))
  else (oI m1 x G L) := rh_313_37
set_option maxRecDepth 20000 in
theorem rh_313_62 {d x : Nat} {R : sm_R} {G : sm_G} {L : sm_L} {v2 v3 v4 v5 v6 : Int32} : hD d 313 62 [.ref 156, .null, .int v2, .int v3, .int v4, .int v5, .int v6] 342 R x G L =
  ldi (R 156 12) (i3 1) G (fun y1 => if v6 < y1 then
    (gd (Nat.ble 24 (sm_K (R 156 20)) && Nat.ble (sm_K (R 156 20)) 27 && Nat.ble (R 156 20) 342) (gd (sm_in v6 (sm_N (R 156 20))) (ldi (R (R 156 20) v6.toNatClampNeg) (i3 2) G (fun y2 => if y2 = (i3 0) then
      (hD d 313 147 [.ref 156, .null, .int v2, .int v3, .int v4, .int v5, .int (v6 + (i3 1))] 342 R x G L)
    else (gd (Nat.ble 24 (sm_K (R 156 20)) && Nat.ble (sm_K (R 156 20)) 27 && Nat.ble (R 156 20) 342) (gd (sm_in v6 (sm_N (R 156 20))) (ldi (R (R 156 20) v6.toNatClampNeg) (i3 0) G (fun y3 => gd (Nat.ble 24 (sm_K (R 156 20)) && Nat.ble (sm_K (R 156 20)) 27 && Nat.ble (R 156 20) 342) (gd (sm_in v6 (sm_N (R 156 20))) (ldi (R (R 156 20) v6.toNatClampNeg) (i3 1) G (fun y4 => gd (Nat.ble 24 (sm_K (R 156 20)) && Nat.ble (sm_K (R 156 20)) 27 && Nat.ble (R 156 20) 342) (gd (sm_in v6 (sm_N (R 156 20))) (ldi (R (R 156 20) v6.toNatClampNeg) (i3 1) G (fun y5 => gd (Nat.ble 24 (sm_K (R 156 20)) && Nat.ble (sm_K (R 156 20)) 27 && Nat.ble (R 156 20) 342) (gd (sm_in v6 (sm_N (R 156 20))) (ldi (R (R 156 20) v6.toNatClampNeg) (i3 0) G (fun y6 => hD d 313 147 [.ref 156, .null, .int v2, .int v3, .int v4, .int ((v5 ||| (shl ((shr v3 y3) &&& (i3 1)) y4)) ||| (shl ((shr v3 y5) &&& (i3 1)) y6)), .int (v6 + (i3 1))] 342 R x G L)))))))))))))))))
  else (hD d 313 37 [.ref 156, .null, .int v2, .int v5, .int (v4 + (i3 1)), .null, .null] 342 R x G L)) := hD_eq.trans rfl
set_option maxRecDepth 20000 in
theorem h_313_62 {d x : Nat} {V : pV} {G : sm_G} {L : sm_L} {v2 v3 v4 v5 v6 : Int32} : hD d 313 62 [.ref 156, .null, .int v2, .int v3, .int v4, .int v5, .int v6] 342 (RR V) x G L =
  if v6 < (G 160 1) then
    (gd (sm_in v6 10) (ldi (RR V 194 v6.toNatClampNeg) (i3 2) G (fun y2 => if y2 = (i3 0) then
      (hD d 313 147 [.ref 156, .null, .int v2, .int v3, .int v4, .int v5, .int (v6 + (i3 1))] 342 (RR V) x G L)
    else (gd (sm_in v6 10) (ldi (RR V 194 v6.toNatClampNeg) (i3 0) G (fun y3 => gd (sm_in v6 10) (ldi (RR V 194 v6.toNatClampNeg) (i3 1) G (fun y4 => gd (sm_in v6 10) (ldi (RR V 194 v6.toNatClampNeg) (i3 1) G (fun y5 => gd (sm_in v6 10) (ldi (RR V 194 v6.toNatClampNeg) (i3 0) G (fun y6 => hD d 313 147 [.ref 156, .null, .int v2, .int v3, .int v4, .int ((v5 ||| (shl ((shr v3 y3) &&& (i3 1)) y4)) ||| (shl ((shr v3 y5) &&& (i3 1)) y6)), .int (v6 + (i3 1))] 342 (RR V) x G L))))))))))))
  else (hD d 313 37 [.ref 156, .null, .int v2, .int v5, .int (v4 + (i3 1)), .null, .null] 342 (RR V) x G L) := by
  rw [rh_313_62]
  try simp only [gd_tt, (q_156_12 V), (q_156_20 V), a_194, cl_1, inl_1_6, k_156, ldi_e k_160 n_160, n_160, n_194]
set_option maxRecDepth 20000 in
theorem rh_313_147 {d x : Nat} {R : sm_R} {G : sm_G} {L : sm_L} {v2 v3 v4 v5 v6 : Int32} : hD d 313 147 [.ref 156, .null, .int v2, .int v3, .int v4, .int v5, .int v6] 342 R x G L =
  hD d 313 62 [.ref 156, .null, .int v2, .int v3, .int v4, .int v5, .int v6] 342 R x G L := hD_eq.trans rfl
theorem h_313_147 {d x : Nat} {V : pV} {G : sm_G} {L : sm_L} {v2 v3 v4 v5 v6 : Int32} : hD d 313 147 [.ref 156, .null, .int v2, .int v3, .int v4, .int v5, .int v6] 342 (RR V) x G L =
  hD d 313 62 [.ref 156, .null, .int v2, .int v3, .int v4, .int v5, .int v6] 342 (RR V) x G L := rh_313_147
/-! M_quiet -/
set_option maxRecDepth 20000 in
theorem rm_314 {d x : Nat} {R : sm_R} {G : sm_G} {L : sm_L} : sm_cv0 (d + 1) 314 342 R [.ref 156] (x, G, L) =
  hD d 314 9 [.ref 156, .int (i3 0), .int (i3 0), .null, .null] 342 R x (sm_up G 156 0 (i3 0)) L := (cv_eq rfl rfl).trans (hD_eq.trans rfl)
set_option maxRecDepth 20000 in
theorem m_314 {d x : Nat} {V : pV} {G : sm_G} {L : sm_L} : sm_cv0 (d + 1) 314 342 (RR V) [.ref 156] (x, G, L) =
  hD d 314 9 [.ref 156, .int (i3 0), .int (i3 0), .null, .null] 342 (RR V) x (sm_up G 156 0 (i3 0)) L := by
  rw [rm_314]
  try simp only [gd_tt, k_156]
set_option maxRecDepth 20000 in
theorem rh_314_9 {d x : Nat} {R : sm_R} {G : sm_G} {L : sm_L} {v1 v2 : Int32} : hD d 314 9 [.ref 156, .int v1, .int v2, .null, .null] 342 R x G L =
  if v2 < (i3 301) then
    (hD d 314 21 [.ref 156, .int v1, .int v2, .int (i3 1), .int (i3 0)] 342 R x G L)
  else (oI v1 x G L) := hD_eq.trans rfl
theorem h_314_9 {d x : Nat} {V : pV} {G : sm_G} {L : sm_L} {v1 v2 : Int32} : hD d 314 9 [.ref 156, .int v1, .int v2, .null, .null] 342 (RR V) x G L =
  if v2 < (i3 301) then
    (hD d 314 21 [.ref 156, .int v1, .int v2, .int (i3 1), .int (i3 0)] 342 (RR V) x G L)
  else (oI v1 x G L) := rh_314_9
set_option maxRecDepth 20000 in
theorem rh_314_21 {d x : Nat} {R : sm_R} {G : sm_G} {L : sm_L} {v1 v2 v3 v4 : Int32} : hD d 314 21 [.ref 156, .int v1, .int v2, .int v3, .int v4] 342 R x G L =
  ldi (R 156 12) (i3 2) G (fun y1 => if v4 < y1 then
    (if v3 = (i3 0) then
      (hD d 314 21 [.ref 156, .int v1, .int v2, .int (i3 0), .int (v4 + (i3 1))] 342 R x G L)
    else (gd (Nat.ble 24 (sm_K (R 156 22)) && Nat.ble (sm_K (R 156 22)) 27 && Nat.ble (R 156 22) 342) (gd (sm_in v4 (sm_N (R 156 22))) (ldi (R (R 156 22) v4.toNatClampNeg) (i3 0) G (fun y2 => if y2 = v2 then
        (hD d 314 21 [.ref 156, .int v1, .int v2, .int (i3 0), .int (v4 + (i3 1))] 342 R x G L)
      else (hD d 314 21 [.ref 156, .int v1, .int v2, .int (i3 1), .int (v4 + (i3 1))] 342 R x G L))))))
  else (if v3 = (i3 0) then
      (hD d 314 9 [.ref 156, .int (v1 + (i3 0)), .int (v2 + (i3 1)), .null, .null] 342 R x G L)
    else (hD d 314 9 [.ref 156, .int (v1 + (i3 1)), .int (v2 + (i3 1)), .null, .null] 342 R x G L))) := hD_eq.trans rfl
set_option maxRecDepth 20000 in
theorem h_314_21 {d x : Nat} {V : pV} {G : sm_G} {L : sm_L} {v1 v2 v3 v4 : Int32} : hD d 314 21 [.ref 156, .int v1, .int v2, .int v3, .int v4] 342 (RR V) x G L =
  if v4 < (G 160 2) then
    (if v3 = (i3 0) then
      (hD d 314 21 [.ref 156, .int v1, .int v2, .int (i3 0), .int (v4 + (i3 1))] 342 (RR V) x G L)
    else (gd (sm_in v4 12) (ldi (RR V 218 v4.toNatClampNeg) (i3 0) G (fun y2 => if y2 = v2 then
        (hD d 314 21 [.ref 156, .int v1, .int v2, .int (i3 0), .int (v4 + (i3 1))] 342 (RR V) x G L)
      else (hD d 314 21 [.ref 156, .int v1, .int v2, .int (i3 1), .int (v4 + (i3 1))] 342 (RR V) x G L)))))
  else (if v3 = (i3 0) then
      (hD d 314 9 [.ref 156, .int (v1 + (i3 0)), .int (v2 + (i3 1)), .null, .null] 342 (RR V) x G L)
    else (hD d 314 9 [.ref 156, .int (v1 + (i3 1)), .int (v2 + (i3 1)), .null, .null] 342 (RR V) x G L)) := by
  rw [rh_314_21]
  try simp only [gd_tt, (q_156_12 V), (q_156_22 V), a_218, cl_2, inl_2_6, k_156, ldi_e k_160 n_160, n_160, n_218]
/-! M_lonely -/
set_option maxRecDepth 20000 in
theorem rm_315 {d x : Nat} {R : sm_R} {G : sm_G} {L : sm_L} {v1 : Int32} : sm_cv0 (d + 1) 315 342 R [.ref 156, .int v1] (x, G, L) =
  sm_aI (sm_cv0 d 248 342 R [.ref 156, .int v1] (x, sm_up G 156 0 (i3 0), L)) (fun a1 x1 G1 L1 =>
    if a1 = (i3 0) then
      (sm_aI (sm_cv0 d 219 342 R [.ref 156, .int (i3 1), .int (i3 1), .int (i3 0)] (x1, G1, L1)) (fun a2 x2 G2 L2 =>
        if a2 = (i3 0) then
          (sm_aI (sm_cv0 d 263 342 R [.ref 156] (x2, G2, L2)) (fun a3 x3 G3 L3 =>
            hD d 315 38 [.ref 156, .int v1, .int (i3 0), .int (i3 0)] 342 R x3 G3 L3) oX)
        else (oI (i3 0) x2 G2 L2)) oX)
    else (sm_aI (sm_cv0 d 219 342 R [.ref 156, .int (i3 0), .int (i3 1), .int (i3 0)] (x1, G1, L1)) (fun a4 x4 G4 L4 =>
        if a4 = (i3 0) then
          (sm_aI (sm_cv0 d 263 342 R [.ref 156] (x4, G4, L4)) (fun a5 x5 G5 L5 =>
            hD d 315 38 [.ref 156, .int v1, .int (i3 0), .int (i3 0)] 342 R x5 G5 L5) oX)
        else (oI (i3 0) x4 G4 L4)) oX)) oX := (cv_eq rfl rfl).trans (hD_eq.trans rfl)
set_option maxRecDepth 20000 in
theorem m_315 {d x : Nat} {V : pV} {G : sm_G} {L : sm_L} {v1 : Int32} : sm_cv0 (d + 1) 315 342 (RR V) [.ref 156, .int v1] (x, G, L) =
  sm_aI (sm_cv0 d 248 342 (RR V) [.ref 156, .int v1] (x, sm_up G 156 0 (i3 0), L)) (fun a1 x1 G1 L1 =>
    if a1 = (i3 0) then
      (sm_aI (sm_cv0 d 219 342 (RR V) [.ref 156, .int (i3 1), .int (i3 1), .int (i3 0)] (x1, G1, L1)) (fun a2 x2 G2 L2 =>
        if a2 = (i3 0) then
          (sm_aI (sm_cv0 d 263 342 (RR V) [.ref 156] (x2, G2, L2)) (fun a3 x3 G3 L3 =>
            hD d 315 38 [.ref 156, .int v1, .int (i3 0), .int (i3 0)] 342 (RR V) x3 G3 L3) oX)
        else (oI (i3 0) x2 G2 L2)) oX)
    else (sm_aI (sm_cv0 d 219 342 (RR V) [.ref 156, .int (i3 0), .int (i3 1), .int (i3 0)] (x1, G1, L1)) (fun a4 x4 G4 L4 =>
        if a4 = (i3 0) then
          (sm_aI (sm_cv0 d 263 342 (RR V) [.ref 156] (x4, G4, L4)) (fun a5 x5 G5 L5 =>
            hD d 315 38 [.ref 156, .int v1, .int (i3 0), .int (i3 0)] 342 (RR V) x5 G5 L5) oX)
        else (oI (i3 0) x4 G4 L4)) oX)) oX := by
  rw [rm_315]
  try simp only [gd_tt, k_156]
set_option maxRecDepth 20000 in
theorem rh_315_38 {d x : Nat} {R : sm_R} {G : sm_G} {L : sm_L} {v1 v2 v3 : Int32} : hD d 315 38 [.ref 156, .int v1, .int v2, .int v3] 342 R x G L =
  if v3 < (i3 301) then
    (ldi (R 156 44) v3 G (fun y1 => if ((shr y1 v1) &&& (i3 1)) = (i3 1) then
      (sm_aI (sm_cv0 d 316 342 R [.ref 156, .int v1, .int v3] (x, G, L)) (fun a2 x2 G2 L2 =>
        if a2 = (i3 0) then
          (hD d 315 38 [.ref 156, .int v1, .int (v2 + (i3 1)), .int (v3 + (i3 1))] 342 R x2 G2 L2)
        else (hD d 315 38 [.ref 156, .int v1, .int (v2 + (i3 0)), .int (v3 + (i3 1))] 342 R x2 G2 L2)) oX)
    else (hD d 315 38 [.ref 156, .int v1, .int (v2 + (i3 0)), .int (v3 + (i3 1))] 342 R x G L)))
  else (oI v2 x G L) := hD_eq.trans rfl
set_option maxRecDepth 20000 in
theorem h_315_38 {d x : Nat} {V : pV} {G : sm_G} {L : sm_L} {v1 v2 v3 : Int32} : hD d 315 38 [.ref 156, .int v1, .int v2, .int v3] 342 (RR V) x G L =
  if v3 < (i3 301) then
    (gd (sm_in v3 301) (if ((shr (G 307 v3.toNatClampNeg) v1) &&& (i3 1)) = (i3 1) then
      (sm_aI (sm_cv0 d 316 342 (RR V) [.ref 156, .int v1, .int v3] (x, G, L)) (fun a2 x2 G2 L2 =>
        if a2 = (i3 0) then
          (hD d 315 38 [.ref 156, .int v1, .int (v2 + (i3 1)), .int (v3 + (i3 1))] 342 (RR V) x2 G2 L2)
        else (hD d 315 38 [.ref 156, .int v1, .int (v2 + (i3 0)), .int (v3 + (i3 1))] 342 (RR V) x2 G2 L2)) oX)
    else (hD d 315 38 [.ref 156, .int v1, .int (v2 + (i3 0)), .int (v3 + (i3 1))] 342 (RR V) x G L)))
  else (oI v2 x G L) := by
  rw [rh_315_38]
  try simp only [gd_tt, (q_156_44 V), k_156, ldi_e k_307 n_307, n_307]
/-! M_crowdIn -/
set_option maxRecDepth 20000 in
theorem rm_316 {d x : Nat} {R : sm_R} {G : sm_G} {L : sm_L} {v1 v2 : Int32} : sm_cv0 (d + 1) 316 342 R [.ref 156, .int v1, .int v2] (x, G, L) =
  hD d 316 5 [.ref 156, .int v1, .int v2, .int (i3 0), .int (i3 0)] 342 R x G L := (cv_eq rfl rfl).trans (hD_eq.trans rfl)
theorem m_316 {d x : Nat} {V : pV} {G : sm_G} {L : sm_L} {v1 v2 : Int32} : sm_cv0 (d + 1) 316 342 (RR V) [.ref 156, .int v1, .int v2] (x, G, L) =
  hD d 316 5 [.ref 156, .int v1, .int v2, .int (i3 0), .int (i3 0)] 342 (RR V) x G L := rm_316
set_option maxRecDepth 20000 in
theorem rh_316_5 {d x : Nat} {R : sm_R} {G : sm_G} {L : sm_L} {v1 v2 v3 v4 : Int32} : hD d 316 5 [.ref 156, .int v1, .int v2, .int v3, .int v4] 342 R x G L =
  ldi (R 156 12) (i3 4) G (fun y1 => if v4 < y1 then
    (gd (Nat.ble 24 (sm_K (R 156 46)) && Nat.ble (sm_K (R 156 46)) 27 && Nat.ble (R 156 46) 342) (gd (sm_in v4 (sm_N (R 156 46))) (ldi (R (R 156 46) v4.toNatClampNeg) v2 G (fun y2 => if y2 = v1 then
      (hD d 316 5 [.ref 156, .int v1, .int v2, .int (v3 + (i3 1)), .int (v4 + (i3 1))] 342 R x G L)
    else (hD d 316 5 [.ref 156, .int v1, .int v2, .int (v3 + (i3 0)), .int (v4 + (i3 1))] 342 R x G L)))))
  else (oI v3 x G L)) := hD_eq.trans rfl
set_option maxRecDepth 20000 in
theorem h_316_5 {d x : Nat} {V : pV} {G : sm_G} {L : sm_L} {v1 v2 v3 v4 : Int32} : hD d 316 5 [.ref 156, .int v1, .int v2, .int v3, .int v4] 342 (RR V) x G L =
  if v4 < (G 160 4) then
    (gd (sm_in v4 4) (ldi (RR V 309 v4.toNatClampNeg) v2 G (fun y2 => if y2 = v1 then
      (hD d 316 5 [.ref 156, .int v1, .int v2, .int (v3 + (i3 1)), .int (v4 + (i3 1))] 342 (RR V) x G L)
    else (hD d 316 5 [.ref 156, .int v1, .int v2, .int (v3 + (i3 0)), .int (v4 + (i3 1))] 342 (RR V) x G L))))
  else (oI v3 x G L) := by
  rw [rh_316_5]
  try simp only [gd_tt, (q_156_12 V), (q_156_46 V), a_309, cl_4, inl_4_6, k_156, ldi_e k_160 n_160, n_160, n_309]
/-! M_ends -/
set_option maxRecDepth 20000 in
theorem rm_317 {d x : Nat} {R : sm_R} {G : sm_G} {L : sm_L} : sm_cv0 (d + 1) 317 342 R [.ref 156] (x, G, L) =
  sm_aV (sm_cv0 d 257 342 R [.ref 156] (x, sm_up G 156 0 (i3 0), L)) (fun x1 G1 L1 =>
    hD d 317 13 [.ref 156, .int m1, .int (i3 0)] 342 R x1 G1 L1) oX := (cv_eq rfl rfl).trans (hD_eq.trans rfl)
set_option maxRecDepth 20000 in
theorem m_317 {d x : Nat} {V : pV} {G : sm_G} {L : sm_L} : sm_cv0 (d + 1) 317 342 (RR V) [.ref 156] (x, G, L) =
  sm_aV (sm_cv0 d 257 342 (RR V) [.ref 156] (x, sm_up G 156 0 (i3 0), L)) (fun x1 G1 L1 =>
    hD d 317 13 [.ref 156, .int m1, .int (i3 0)] 342 (RR V) x1 G1 L1) oX := by
  rw [rm_317]
  try simp only [gd_tt, k_156]
set_option maxRecDepth 20000 in
theorem rh_317_13 {d x : Nat} {R : sm_R} {G : sm_G} {L : sm_L} {v1 v2 : Int32} : hD d 317 13 [.ref 156, .int v1, .int v2] 342 R x G L =
  if v2 < (i3 301) then
    (ldi (R 156 44) v2 G (fun y1 => if y1 = (i3 0) then
      (hD d 317 13 [.ref 156, .int v1, .int (v2 + (i3 1))] 342 R x G L)
    else (hD d 317 13 [.ref 156, .int v2, .int (v2 + (i3 1))] 342 R x G L)))
  else (oI v1 x G L) := hD_eq.trans rfl
set_option maxRecDepth 20000 in
theorem h_317_13 {d x : Nat} {V : pV} {G : sm_G} {L : sm_L} {v1 v2 : Int32} : hD d 317 13 [.ref 156, .int v1, .int v2] 342 (RR V) x G L =
  if v2 < (i3 301) then
    (gd (sm_in v2 301) (if (G 307 v2.toNatClampNeg) = (i3 0) then
      (hD d 317 13 [.ref 156, .int v1, .int (v2 + (i3 1))] 342 (RR V) x G L)
    else (hD d 317 13 [.ref 156, .int v2, .int (v2 + (i3 1))] 342 (RR V) x G L)))
  else (oI v1 x G L) := by
  rw [rh_317_13]
  try simp only [gd_tt, (q_156_44 V), k_156, ldi_e k_307 n_307, n_307]
/-! M_crowd -/
set_option maxRecDepth 20000 in
theorem rm_318 {d x : Nat} {R : sm_R} {G : sm_G} {L : sm_L} {v1 : Int32} : sm_cv0 (d + 1) 318 342 R [.ref 156, .int v1] (x, G, L) =
  sm_aI (sm_cv0 d 218 342 R [.int v1, .int (i3 0), .int (i3 1)] (x, sm_up G 156 0 (i3 0), L)) (fun a1 x1 G1 L1 =>
    if a1 = (i3 0) then
      (sm_aI (sm_cv0 d 219 342 R [.ref 156, .int (i3 1), .int (i3 1), .int (i3 2)] (x1, G1, L1)) (fun a2 x2 G2 L2 =>
        if a2 = (i3 0) then
          (sm_aI (sm_cv0 d 263 342 R [.ref 156] (x2, G2, L2)) (fun a3 x3 G3 L3 =>
            hD d 318 42 [.ref 156, .int v1, .int (i3 0), .int m1, .int (i3 0), .null] 342 R x3 G3 L3) oX)
        else (oI (i3 0) x2 G2 L2)) oX)
    else (sm_aI (sm_cv0 d 219 342 R [.ref 156, .int (i3 0), .int (i3 1), .int (i3 2)] (x1, G1, L1)) (fun a4 x4 G4 L4 =>
        if a4 = (i3 0) then
          (sm_aI (sm_cv0 d 263 342 R [.ref 156] (x4, G4, L4)) (fun a5 x5 G5 L5 =>
            hD d 318 42 [.ref 156, .int v1, .int (i3 0), .int m1, .int (i3 0), .null] 342 R x5 G5 L5) oX)
        else (oI (i3 0) x4 G4 L4)) oX)) oX := (cv_eq rfl rfl).trans (hD_eq.trans rfl)
set_option maxRecDepth 20000 in
theorem m_318 {d x : Nat} {V : pV} {G : sm_G} {L : sm_L} {v1 : Int32} : sm_cv0 (d + 1) 318 342 (RR V) [.ref 156, .int v1] (x, G, L) =
  sm_aI (sm_cv0 d 218 342 (RR V) [.int v1, .int (i3 0), .int (i3 1)] (x, sm_up G 156 0 (i3 0), L)) (fun a1 x1 G1 L1 =>
    if a1 = (i3 0) then
      (sm_aI (sm_cv0 d 219 342 (RR V) [.ref 156, .int (i3 1), .int (i3 1), .int (i3 2)] (x1, G1, L1)) (fun a2 x2 G2 L2 =>
        if a2 = (i3 0) then
          (sm_aI (sm_cv0 d 263 342 (RR V) [.ref 156] (x2, G2, L2)) (fun a3 x3 G3 L3 =>
            hD d 318 42 [.ref 156, .int v1, .int (i3 0), .int m1, .int (i3 0), .null] 342 (RR V) x3 G3 L3) oX)
        else (oI (i3 0) x2 G2 L2)) oX)
    else (sm_aI (sm_cv0 d 219 342 (RR V) [.ref 156, .int (i3 0), .int (i3 1), .int (i3 2)] (x1, G1, L1)) (fun a4 x4 G4 L4 =>
        if a4 = (i3 0) then
          (sm_aI (sm_cv0 d 263 342 (RR V) [.ref 156] (x4, G4, L4)) (fun a5 x5 G5 L5 =>
            hD d 318 42 [.ref 156, .int v1, .int (i3 0), .int m1, .int (i3 0), .null] 342 (RR V) x5 G5 L5) oX)
        else (oI (i3 0) x4 G4 L4)) oX)) oX := by
  rw [rm_318]
  try simp only [gd_tt, k_156]
set_option maxRecDepth 20000 in
theorem rh_318_42 {d x : Nat} {R : sm_R} {G : sm_G} {L : sm_L} {v1 v2 v3 v4 : Int32} : hD d 318 42 [.ref 156, .int v1, .int v2, .int v3, .int v4, .null] 342 R x G L =
  if v4 < (i3 301) then
    (hD d 318 53 [.ref 156, .int v1, .int v2, .int v3, .int v4, .int (i3 0)] 342 R x G L)
  else (if v1 = (i3 0) then
      (oI v2 x G L)
    else (oI v3 x G L)) := hD_eq.trans rfl
theorem h_318_42 {d x : Nat} {V : pV} {G : sm_G} {L : sm_L} {v1 v2 v3 v4 : Int32} : hD d 318 42 [.ref 156, .int v1, .int v2, .int v3, .int v4, .null] 342 (RR V) x G L =
  if v4 < (i3 301) then
    (hD d 318 53 [.ref 156, .int v1, .int v2, .int v3, .int v4, .int (i3 0)] 342 (RR V) x G L)
  else (if v1 = (i3 0) then
      (oI v2 x G L)
    else (oI v3 x G L)) := rh_318_42
set_option maxRecDepth 20000 in
theorem rh_318_53 {d x : Nat} {R : sm_R} {G : sm_G} {L : sm_L} {v1 v2 v3 v4 v5 : Int32} : hD d 318 53 [.ref 156, .int v1, .int v2, .int v3, .int v4, .int v5] 342 R x G L =
  ldi (R 156 12) (i3 0) G (fun y1 => if v5 < y1 then
    (sm_aI (sm_cv0 d 316 342 R [.ref 156, .int v5, .int v4] (x, G, L)) (fun a2 x2 G2 L2 =>
      if a2 ≤ v2 then
        (hD d 318 94 [.ref 156, .int v1, .int v2, .int v3, .int v4, .int (v5 + (i3 1))] 342 R x2 G2 L2)
      else (sm_aI (sm_cv0 d 316 342 R [.ref 156, .int v5, .int v4] (x2, G2, L2)) (fun a3 x3 G3 L3 =>
          hD d 318 94 [.ref 156, .int v1, .int a3, .int v4, .int v4, .int (v5 + (i3 1))] 342 R x3 G3 L3) oX)) oX)
  else (hD d 318 42 [.ref 156, .int v1, .int v2, .int v3, .int (v4 + (i3 1)), .null] 342 R x G L)) := hD_eq.trans rfl
set_option maxRecDepth 20000 in
theorem h_318_53 {d x : Nat} {V : pV} {G : sm_G} {L : sm_L} {v1 v2 v3 v4 v5 : Int32} : hD d 318 53 [.ref 156, .int v1, .int v2, .int v3, .int v4, .int v5] 342 (RR V) x G L =
  if v5 < (G 160 0) then
    (sm_aI (sm_cv0 d 316 342 (RR V) [.ref 156, .int v5, .int v4] (x, G, L)) (fun a2 x2 G2 L2 =>
      if a2 ≤ v2 then
        (hD d 318 94 [.ref 156, .int v1, .int v2, .int v3, .int v4, .int (v5 + (i3 1))] 342 (RR V) x2 G2 L2)
      else (sm_aI (sm_cv0 d 316 342 (RR V) [.ref 156, .int v5, .int v4] (x2, G2, L2)) (fun a3 x3 G3 L3 =>
          hD d 318 94 [.ref 156, .int v1, .int a3, .int v4, .int v4, .int (v5 + (i3 1))] 342 (RR V) x3 G3 L3) oX)) oX)
  else (hD d 318 42 [.ref 156, .int v1, .int v2, .int v3, .int (v4 + (i3 1)), .null] 342 (RR V) x G L) := by
  rw [rh_318_53]
  try simp only [gd_tt, (q_156_12 V), cl_0, inl_0_6, k_156, ldi_e k_160 n_160, n_160]
set_option maxRecDepth 20000 in
theorem rh_318_94 {d x : Nat} {R : sm_R} {G : sm_G} {L : sm_L} {v1 v2 v3 v4 v5 : Int32} : hD d 318 94 [.ref 156, .int v1, .int v2, .int v3, .int v4, .int v5] 342 R x G L =
  hD d 318 53 [.ref 156, .int v1, .int v2, .int v3, .int v4, .int v5] 342 R x G L := hD_eq.trans rfl
theorem h_318_94 {d x : Nat} {V : pV} {G : sm_G} {L : sm_L} {v1 v2 v3 v4 v5 : Int32} : hD d 318 94 [.ref 156, .int v1, .int v2, .int v3, .int v4, .int v5] 342 (RR V) x G L =
  hD d 318 53 [.ref 156, .int v1, .int v2, .int v3, .int v4, .int v5] 342 (RR V) x G L := rh_318_94
/-! M_often -/
set_option maxRecDepth 20000 in
theorem rm_319 {d x : Nat} {R : sm_R} {G : sm_G} {L : sm_L} {v1 : Int32} : sm_cv0 (d + 1) 319 342 R [.ref 156, .int v1] (x, G, L) =
  sm_aI (sm_cv0 d 250 342 R [.ref 156, .int v1] (x, sm_up G 156 0 (i3 0), L)) (fun a1 x1 G1 L1 =>
    if a1 = (i3 0) then
      (sm_aI (sm_cv0 d 219 342 R [.ref 156, .int (i3 1), .int (i3 1), .int (i3 1)] (x1, G1, L1)) (fun a2 x2 G2 L2 =>
        if a2 = (i3 0) then
          (sm_aV (sm_cv0 d 257 342 R [.ref 156] (x2, G2, L2)) (fun x3 G3 L3 =>
            hD d 319 37 [.ref 156, .int v1, .int (i3 0), .int (i3 0)] 342 R x3 G3 L3) oX)
        else (oI (i3 0) x2 G2 L2)) oX)
    else (sm_aI (sm_cv0 d 219 342 R [.ref 156, .int (i3 0), .int (i3 1), .int (i3 1)] (x1, G1, L1)) (fun a4 x4 G4 L4 =>
        if a4 = (i3 0) then
          (sm_aV (sm_cv0 d 257 342 R [.ref 156] (x4, G4, L4)) (fun x5 G5 L5 =>
            hD d 319 37 [.ref 156, .int v1, .int (i3 0), .int (i3 0)] 342 R x5 G5 L5) oX)
        else (oI (i3 0) x4 G4 L4)) oX)) oX := (cv_eq rfl rfl).trans (hD_eq.trans rfl)
set_option maxRecDepth 20000 in
theorem m_319 {d x : Nat} {V : pV} {G : sm_G} {L : sm_L} {v1 : Int32} : sm_cv0 (d + 1) 319 342 (RR V) [.ref 156, .int v1] (x, G, L) =
  sm_aI (sm_cv0 d 250 342 (RR V) [.ref 156, .int v1] (x, sm_up G 156 0 (i3 0), L)) (fun a1 x1 G1 L1 =>
    if a1 = (i3 0) then
      (sm_aI (sm_cv0 d 219 342 (RR V) [.ref 156, .int (i3 1), .int (i3 1), .int (i3 1)] (x1, G1, L1)) (fun a2 x2 G2 L2 =>
        if a2 = (i3 0) then
          (sm_aV (sm_cv0 d 257 342 (RR V) [.ref 156] (x2, G2, L2)) (fun x3 G3 L3 =>
            hD d 319 37 [.ref 156, .int v1, .int (i3 0), .int (i3 0)] 342 (RR V) x3 G3 L3) oX)
        else (oI (i3 0) x2 G2 L2)) oX)
    else (sm_aI (sm_cv0 d 219 342 (RR V) [.ref 156, .int (i3 0), .int (i3 1), .int (i3 1)] (x1, G1, L1)) (fun a4 x4 G4 L4 =>
        if a4 = (i3 0) then
          (sm_aV (sm_cv0 d 257 342 (RR V) [.ref 156] (x4, G4, L4)) (fun x5 G5 L5 =>
            hD d 319 37 [.ref 156, .int v1, .int (i3 0), .int (i3 0)] 342 (RR V) x5 G5 L5) oX)
        else (oI (i3 0) x4 G4 L4)) oX)) oX := by
  rw [rm_319]
  try simp only [gd_tt, k_156]
set_option maxRecDepth 20000 in
theorem rh_319_37 {d x : Nat} {R : sm_R} {G : sm_G} {L : sm_L} {v1 v2 v3 : Int32} : hD d 319 37 [.ref 156, .int v1, .int v2, .int v3] 342 R x G L =
  if v3 < (i3 301) then
    (ldi (R 156 45) v3 G (fun y1 => hD d 319 37 [.ref 156, .int v1, .int (v2 + ((shr y1 v1) &&& (i3 1))), .int (v3 + (i3 1))] 342 R x G L))
  else (oI v2 x G L) := hD_eq.trans rfl
set_option maxRecDepth 20000 in
theorem h_319_37 {d x : Nat} {V : pV} {G : sm_G} {L : sm_L} {v1 v2 v3 : Int32} : hD d 319 37 [.ref 156, .int v1, .int v2, .int v3] 342 (RR V) x G L =
  if v3 < (i3 301) then
    (gd (sm_in v3 301) (hD d 319 37 [.ref 156, .int v1, .int (v2 + ((shr (G 308 v3.toNatClampNeg) v1) &&& (i3 1))), .int (v3 + (i3 1))] 342 (RR V) x G L))
  else (oI v2 x G L) := by
  rw [rh_319_37]
  try simp only [gd_tt, (q_156_45 V), k_156, ldi_e k_308 n_308, n_308]
/-! M_help -/
set_option maxRecDepth 20000 in
theorem rm_320 {d x : Nat} {R : sm_R} {G : sm_G} {L : sm_L} : sm_cv0 (d + 1) 320 342 R [.ref 156] (x, G, L) =
  hD d 320 11 [.ref 156, .int m1, .int (i3 0), .int (i3 0), .null] 342 R x (sm_up G 156 0 (i3 0)) L := (cv_eq rfl rfl).trans (hD_eq.trans rfl)
set_option maxRecDepth 20000 in
theorem m_320 {d x : Nat} {V : pV} {G : sm_G} {L : sm_L} : sm_cv0 (d + 1) 320 342 (RR V) [.ref 156] (x, G, L) =
  hD d 320 11 [.ref 156, .int m1, .int (i3 0), .int (i3 0), .null] 342 (RR V) x (sm_up G 156 0 (i3 0)) L := by
  rw [rm_320]
  try simp only [gd_tt, k_156]
set_option maxRecDepth 20000 in
theorem rh_320_11 {d x : Nat} {R : sm_R} {G : sm_G} {L : sm_L} {v1 v2 v3 : Int32} : hD d 320 11 [.ref 156, .int v1, .int v2, .int v3, .null] 342 R x G L =
  ldi (R 156 12) (i3 0) G (fun y1 => if v3 < y1 then
    (if ((shr (G 156 37) v3) &&& (i3 1)) = (i3 1) then
      (hD d 320 80 [.ref 156, .int v1, .int v2, .int v3, .null] 342 R x G L)
    else (sm_aV (sm_cv0 d 254 342 R [.ref 156] (x, G, L)) (fun x2 G2 L2 =>
        sm_aV (sm_cv0 d 258 342 R [.ref 156, .int ((G2 156 37) ||| (shl (i3 1) v3))] (x2, G2, L2)) (fun x3 G3 L3 =>
          sm_aI (sm_cv0 d 264 342 R [.ref 156] (x3, G3, L3)) (fun a4 x4 G4 L4 =>
            sm_aI (sm_cv0 d 291 342 R [.int a4] (x4, G4, L4)) (fun a5 x5 G5 L5 =>
              if v1 = m1 then
                (hD d 320 80 [.ref 156, .int v3, .int a5, .int v3, .null] 342 R x5 G5 L5)
              else (if a5 < v2 then
                  (hD d 320 80 [.ref 156, .int v3, .int a5, .int v3, .null] 342 R x5 G5 L5)
                else (hD d 320 80 [.ref 156, .int v1, .int v2, .int v3, .null] 342 R x5 G5 L5))) oX) oX) oX) oX))
  else (oI v1 x G L)) := hD_eq.trans rfl
set_option maxRecDepth 20000 in
theorem h_320_11 {d x : Nat} {V : pV} {G : sm_G} {L : sm_L} {v1 v2 v3 : Int32} : hD d 320 11 [.ref 156, .int v1, .int v2, .int v3, .null] 342 (RR V) x G L =
  if v3 < (G 160 0) then
    (if ((shr (G 156 37) v3) &&& (i3 1)) = (i3 1) then
      (hD d 320 80 [.ref 156, .int v1, .int v2, .int v3, .null] 342 (RR V) x G L)
    else (sm_aV (sm_cv0 d 254 342 (RR V) [.ref 156] (x, G, L)) (fun x2 G2 L2 =>
        sm_aV (sm_cv0 d 258 342 (RR V) [.ref 156, .int ((G2 156 37) ||| (shl (i3 1) v3))] (x2, G2, L2)) (fun x3 G3 L3 =>
          sm_aI (sm_cv0 d 264 342 (RR V) [.ref 156] (x3, G3, L3)) (fun a4 x4 G4 L4 =>
            sm_aI (sm_cv0 d 291 342 (RR V) [.int a4] (x4, G4, L4)) (fun a5 x5 G5 L5 =>
              if v1 = m1 then
                (hD d 320 80 [.ref 156, .int v3, .int a5, .int v3, .null] 342 (RR V) x5 G5 L5)
              else (if a5 < v2 then
                  (hD d 320 80 [.ref 156, .int v3, .int a5, .int v3, .null] 342 (RR V) x5 G5 L5)
                else (hD d 320 80 [.ref 156, .int v1, .int v2, .int v3, .null] 342 (RR V) x5 G5 L5))) oX) oX) oX) oX))
  else (oI v1 x G L) := by
  rw [rh_320_11]
  try simp only [gd_tt, (q_156_12 V), cl_0, inl_0_6, k_156, ldi_e k_160 n_160, n_160]
set_option maxRecDepth 20000 in
theorem rh_320_80 {d x : Nat} {R : sm_R} {G : sm_G} {L : sm_L} {v1 v2 v3 : Int32} : hD d 320 80 [.ref 156, .int v1, .int v2, .int v3, .null] 342 R x G L =
  hD d 320 11 [.ref 156, .int v1, .int v2, .int (v3 + (i3 1)), .null] 342 R x G L := hD_eq.trans rfl
theorem h_320_80 {d x : Nat} {V : pV} {G : sm_G} {L : sm_L} {v1 v2 v3 : Int32} : hD d 320 80 [.ref 156, .int v1, .int v2, .int v3, .null] 342 (RR V) x G L =
  hD d 320 11 [.ref 156, .int v1, .int v2, .int (v3 + (i3 1)), .null] 342 (RR V) x G L := rh_320_80
