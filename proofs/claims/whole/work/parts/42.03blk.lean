/-! block equations, by the program wip/gen/gen4.py -/
/-! Will_readStep -/
set_option maxRecDepth 20000 in
theorem rm_171 {d x : Nat} {R : sm_R} {G : sm_G} {L : sm_L} {r0 : Nat} {v2 : Int32} : sm_cv0 (d + 1) 171 342 R [.ref r0, .ref 2, .int v2] (x, G, L) =
  sm_aV (sm_cv0 d 138 342 R [.ref 2] (x, G, L)) (fun x1 G1 L1 =>
    gd (sm_is r0 342 10) (gd (sm_is r0 342 10) (sm_aI (sm_cv0 d 140 342 R [.ref 2, .ref 4117] (x1, sm_up G1 r0 5 ((G1 r0 5) + (i3 1)), L1)) (fun a2 x2 G2 L2 =>
      if a2 = (i3 0) then
        (sm_aI (sm_cv0 d 140 342 R [.ref 2, .ref 4121] (x2, G2, L2)) (fun a3 x3 G3 L3 =>
          if a3 = (i3 0) then
            (sm_aI (sm_cv0 d 140 342 R [.ref 2, .ref 4099] (x3, G3, L3)) (fun a4 x4 G4 L4 =>
              if a4 = (i3 0) then
                (sm_aI (sm_cv0 d 140 342 R [.ref 2, .ref 4097] (x4, G4, L4)) (fun a5 x5 G5 L5 =>
                  if a5 = (i3 0) then
                    (sm_aI (sm_cv0 d 140 342 R [.ref 2, .ref 4120] (x5, G5, L5)) (fun a6 x6 G6 L6 =>
                      if a6 = (i3 0) then
                        (sm_aI (sm_cv0 d 140 342 R [.ref 2, .ref 4104] (x6, G6, L6)) (fun a7 x7 G7 L7 =>
                          if a7 = (i3 0) then
                            (sm_aV (sm_cv0 d 142 342 R [.ref 2, .int (i3 1)] (x7, G7, L7)) (fun x8 G8 L8 =>
                              hD d 171 154 [.null, .ref 2, .null] 342 R x8 G8 L8) oX)
                          else (gd (sm_is r0 342 10) (sm_aV (sm_cv0 d 177 342 R [.ref r0, .ref 2, .int v2] (x7, G7, L7)) (fun x9 G9 L9 =>
                              hD d 171 154 [.null, .ref 2, .null] 342 R x9 G9 L9) oX))) oX)
                      else (gd (sm_is r0 342 10) (sm_aV (sm_cv0 d 175 342 R [.ref r0, .ref 2, .int v2] (x6, G6, L6)) (fun x10 G10 L10 =>
                          hD d 171 154 [.null, .ref 2, .null] 342 R x10 G10 L10) oX))) oX)
                  else (gd (sm_is r0 342 10) (sm_aV (sm_cv0 d 173 342 R [.ref r0, .ref 2, .int v2] (x5, G5, L5)) (fun x11 G11 L11 =>
                      hD d 171 154 [.null, .ref 2, .null] 342 R x11 G11 L11) oX))) oX)
              else (sm_aI (sm_cv0 d 143 342 R [.ref 2, .int (i3 0), .int (i3 5)] (x4, G4, L4)) (fun a12 x12 G12 L12 =>
                  gd (sm_is r0 342 10) (sm_aI (sm_cv0 d 172 342 R [.ref r0, .int (i3 2), .int a12, .int (i3 0)] (x12, G12, L12)) (fun a13 x13 G13 L13 =>
                    hD d 171 154 [.null, .ref 2, .null] 342 R x13 G13 L13) oX)) oX)) oX)
          else (sm_aI (sm_cv0 d 143 342 R [.ref 2, .int (i3 1), .int (i3 99)] (x3, G3, L3)) (fun a14 x14 G14 L14 =>
              gd (sm_is r0 342 10) (sm_aI (sm_cv0 d 172 342 R [.ref r0, .int (i3 1), .int a14, .int (i3 0)] (x14, G14, L14)) (fun a15 x15 G15 L15 =>
                hD d 171 154 [.null, .ref 2, .null] 342 R x15 G15 L15) oX)) oX)) oX)
      else (gd (sm_is r0 342 10) (sm_aI (sm_cv0 d 143 342 R [.ref 2, .int (i3 0), .int ((G2 r0 6) - (i3 1))] (x2, G2, L2)) (fun a16 x16 G16 L16 =>
          gd (sm_is r0 342 10) (sm_aI (sm_cv0 d 172 342 R [.ref r0, .int (i3 0), .int a16, .int (i3 0)] (x16, G16, L16)) (fun a17 x17 G17 L17 =>
            hD d 171 154 [.null, .ref 2, .null] 342 R x17 G17 L17) oX)) oX))) oX))) oX := (cv_eq rfl rfl).trans (hD_eq.trans rfl)
set_option maxRecDepth 20000 in
theorem m_171 {d x : Nat} {V : pV} {G : sm_G} {L : sm_L} {r0 : Nat} {v2 : Int32} (hr0 : pW r0) : sm_cv0 (d + 1) 171 342 (RR V) [.ref r0, .ref 2, .int v2] (x, G, L) =
  sm_aV (sm_cv0 d 138 342 (RR V) [.ref 2] (x, G, L)) (fun x1 G1 L1 =>
    sm_aI (sm_cv0 d 140 342 (RR V) [.ref 2, .ref 4117] (x1, sm_up G1 r0 5 ((G1 r0 5) + (i3 1)), L1)) (fun a2 x2 G2 L2 =>
      if a2 = (i3 0) then
        (sm_aI (sm_cv0 d 140 342 (RR V) [.ref 2, .ref 4121] (x2, G2, L2)) (fun a3 x3 G3 L3 =>
          if a3 = (i3 0) then
            (sm_aI (sm_cv0 d 140 342 (RR V) [.ref 2, .ref 4099] (x3, G3, L3)) (fun a4 x4 G4 L4 =>
              if a4 = (i3 0) then
                (sm_aI (sm_cv0 d 140 342 (RR V) [.ref 2, .ref 4097] (x4, G4, L4)) (fun a5 x5 G5 L5 =>
                  if a5 = (i3 0) then
                    (sm_aI (sm_cv0 d 140 342 (RR V) [.ref 2, .ref 4120] (x5, G5, L5)) (fun a6 x6 G6 L6 =>
                      if a6 = (i3 0) then
                        (sm_aI (sm_cv0 d 140 342 (RR V) [.ref 2, .ref 4104] (x6, G6, L6)) (fun a7 x7 G7 L7 =>
                          if a7 = (i3 0) then
                            (sm_aV (sm_cv0 d 142 342 (RR V) [.ref 2, .int (i3 1)] (x7, G7, L7)) (fun x8 G8 L8 =>
                              hD d 171 154 [.null, .ref 2, .null] 342 (RR V) x8 G8 L8) oX)
                          else (sm_aV (sm_cv0 d 177 342 (RR V) [.ref r0, .ref 2, .int v2] (x7, G7, L7)) (fun x9 G9 L9 =>
                              hD d 171 154 [.null, .ref 2, .null] 342 (RR V) x9 G9 L9) oX)) oX)
                      else (sm_aV (sm_cv0 d 175 342 (RR V) [.ref r0, .ref 2, .int v2] (x6, G6, L6)) (fun x10 G10 L10 =>
                          hD d 171 154 [.null, .ref 2, .null] 342 (RR V) x10 G10 L10) oX)) oX)
                  else (sm_aV (sm_cv0 d 173 342 (RR V) [.ref r0, .ref 2, .int v2] (x5, G5, L5)) (fun x11 G11 L11 =>
                      hD d 171 154 [.null, .ref 2, .null] 342 (RR V) x11 G11 L11) oX)) oX)
              else (sm_aI (sm_cv0 d 143 342 (RR V) [.ref 2, .int (i3 0), .int (i3 5)] (x4, G4, L4)) (fun a12 x12 G12 L12 =>
                  sm_aI (sm_cv0 d 172 342 (RR V) [.ref r0, .int (i3 2), .int a12, .int (i3 0)] (x12, G12, L12)) (fun a13 x13 G13 L13 =>
                    hD d 171 154 [.null, .ref 2, .null] 342 (RR V) x13 G13 L13) oX) oX)) oX)
          else (sm_aI (sm_cv0 d 143 342 (RR V) [.ref 2, .int (i3 1), .int (i3 99)] (x3, G3, L3)) (fun a14 x14 G14 L14 =>
              sm_aI (sm_cv0 d 172 342 (RR V) [.ref r0, .int (i3 1), .int a14, .int (i3 0)] (x14, G14, L14)) (fun a15 x15 G15 L15 =>
                hD d 171 154 [.null, .ref 2, .null] 342 (RR V) x15 G15 L15) oX) oX)) oX)
      else (sm_aI (sm_cv0 d 143 342 (RR V) [.ref 2, .int (i3 0), .int ((G2 r0 6) - (i3 1))] (x2, G2, L2)) (fun a16 x16 G16 L16 =>
          sm_aI (sm_cv0 d 172 342 (RR V) [.ref r0, .int (i3 0), .int a16, .int (i3 0)] (x16, G16, L16)) (fun a17 x17 G17 L17 =>
            hD d 171 154 [.null, .ref 2, .null] 342 (RR V) x17 G17 L17) oX) oX)) oX) oX := by
  rw [rm_171]
  try simp only [gd_tt, (kW_0 hr0), k_2]
set_option maxRecDepth 20000 in
theorem rh_171_154 {d x : Nat} {R : sm_R} {G : sm_G} {L : sm_L} : hD d 171 154 [.null, .ref 2, .null] 342 R x G L =
  sm_aV (sm_cv0 d 145 342 R [.ref 2, .int (i3 59)] (x, G, L)) (fun x1 G1 L1 =>
    oV x1 G1 L1) oX := hD_eq.trans rfl
set_option maxRecDepth 20000 in
theorem h_171_154 {d x : Nat} {V : pV} {G : sm_G} {L : sm_L} : hD d 171 154 [.null, .ref 2, .null] 342 (RR V) x G L =
  sm_aV (sm_cv0 d 145 342 (RR V) [.ref 2, .int (i3 59)] (x, G, L)) (fun x1 G1 L1 =>
    oV x1 G1 L1) oX := by
  rw [rh_171_154]
  try simp only [gd_tt, k_2]
/-! Will_put -/
set_option maxRecDepth 20000 in
theorem rm_172 {d x : Nat} {R : sm_R} {G : sm_G} {L : sm_L} {r0 : Nat} {v1 v2 v3 : Int32} : sm_cv0 (d + 1) 172 342 R [.ref r0, .int v1, .int v2, .int v3] (x, G, L) =
  gd (sm_is r0 342 10) (if (G r0 4) < (i3 40) then
    (gd (sm_is r0 342 10) (gd (sm_is r0 342 10) (gd (sm_is (R r0 0) 342 20) (gd (sm_in (G r0 4) (sm_N (R r0 0))) (gd (sm_is r0 342 10) (gd (sm_is r0 342 10) (gd (sm_is (R r0 1) 342 20) (gd (sm_in ((sm_up G (R r0 0) ((G r0 4).toNatClampNeg) v1) r0 4) (sm_N (R r0 1))) (gd (sm_is r0 342 10) (gd (sm_is r0 342 10) (gd (sm_is (R r0 3) 342 20) (gd (sm_in ((sm_up (sm_up G (R r0 0) ((G r0 4).toNatClampNeg) v1) (R r0 1) (((sm_up G (R r0 0) ((G r0 4).toNatClampNeg) v1) r0 4).toNatClampNeg) v2) r0 4) (sm_N (R r0 3))) (gd (sm_is r0 342 10) (gd (sm_is r0 342 10) (gd (sm_is (R r0 2) 342 20) (gd (sm_in ((sm_up (sm_up (sm_up G (R r0 0) ((G r0 4).toNatClampNeg) v1) (R r0 1) (((sm_up G (R r0 0) ((G r0 4).toNatClampNeg) v1) r0 4).toNatClampNeg) v2) (R r0 3) (((sm_up (sm_up G (R r0 0) ((G r0 4).toNatClampNeg) v1) (R r0 1) (((sm_up G (R r0 0) ((G r0 4).toNatClampNeg) v1) r0 4).toNatClampNeg) v2) r0 4).toNatClampNeg) v3) r0 4) (sm_N (R r0 2))) (gd (sm_is r0 342 10) (gd (sm_is r0 342 10) (gd (sm_is r0 342 10) (oI (((sm_up (sm_up (sm_up (sm_up (sm_up G (R r0 0) ((G r0 4).toNatClampNeg) v1) (R r0 1) (((sm_up G (R r0 0) ((G r0 4).toNatClampNeg) v1) r0 4).toNatClampNeg) v2) (R r0 3) (((sm_up (sm_up G (R r0 0) ((G r0 4).toNatClampNeg) v1) (R r0 1) (((sm_up G (R r0 0) ((G r0 4).toNatClampNeg) v1) r0 4).toNatClampNeg) v2) r0 4).toNatClampNeg) v3) (R r0 2) (((sm_up (sm_up (sm_up G (R r0 0) ((G r0 4).toNatClampNeg) v1) (R r0 1) (((sm_up G (R r0 0) ((G r0 4).toNatClampNeg) v1) r0 4).toNatClampNeg) v2) (R r0 3) (((sm_up (sm_up G (R r0 0) ((G r0 4).toNatClampNeg) v1) (R r0 1) (((sm_up G (R r0 0) ((G r0 4).toNatClampNeg) v1) r0 4).toNatClampNeg) v2) r0 4).toNatClampNeg) v3) r0 4).toNatClampNeg) (i3 0)) r0 4 (((sm_up (sm_up (sm_up (sm_up G (R r0 0) ((G r0 4).toNatClampNeg) v1) (R r0 1) (((sm_up G (R r0 0) ((G r0 4).toNatClampNeg) v1) r0 4).toNatClampNeg) v2) (R r0 3) (((sm_up (sm_up G (R r0 0) ((G r0 4).toNatClampNeg) v1) (R r0 1) (((sm_up G (R r0 0) ((G r0 4).toNatClampNeg) v1) r0 4).toNatClampNeg) v2) r0 4).toNatClampNeg) v3) (R r0 2) (((sm_up (sm_up (sm_up G (R r0 0) ((G r0 4).toNatClampNeg) v1) (R r0 1) (((sm_up G (R r0 0) ((G r0 4).toNatClampNeg) v1) r0 4).toNatClampNeg) v2) (R r0 3) (((sm_up (sm_up G (R r0 0) ((G r0 4).toNatClampNeg) v1) (R r0 1) (((sm_up G (R r0 0) ((G r0 4).toNatClampNeg) v1) r0 4).toNatClampNeg) v2) r0 4).toNatClampNeg) v3) r0 4).toNatClampNeg) (i3 0)) r0 4) + (i3 1))) r0 4) - (i3 1)) x (sm_up (sm_up (sm_up (sm_up (sm_up G (R r0 0) ((G r0 4).toNatClampNeg) v1) (R r0 1) (((sm_up G (R r0 0) ((G r0 4).toNatClampNeg) v1) r0 4).toNatClampNeg) v2) (R r0 3) (((sm_up (sm_up G (R r0 0) ((G r0 4).toNatClampNeg) v1) (R r0 1) (((sm_up G (R r0 0) ((G r0 4).toNatClampNeg) v1) r0 4).toNatClampNeg) v2) r0 4).toNatClampNeg) v3) (R r0 2) (((sm_up (sm_up (sm_up G (R r0 0) ((G r0 4).toNatClampNeg) v1) (R r0 1) (((sm_up G (R r0 0) ((G r0 4).toNatClampNeg) v1) r0 4).toNatClampNeg) v2) (R r0 3) (((sm_up (sm_up G (R r0 0) ((G r0 4).toNatClampNeg) v1) (R r0 1) (((sm_up G (R r0 0) ((G r0 4).toNatClampNeg) v1) r0 4).toNatClampNeg) v2) r0 4).toNatClampNeg) v3) r0 4).toNatClampNeg) (i3 0)) r0 4 (((sm_up (sm_up (sm_up (sm_up G (R r0 0) ((G r0 4).toNatClampNeg) v1) (R r0 1) (((sm_up G (R r0 0) ((G r0 4).toNatClampNeg) v1) r0 4).toNatClampNeg) v2) (R r0 3) (((sm_up (sm_up G (R r0 0) ((G r0 4).toNatClampNeg) v1) (R r0 1) (((sm_up G (R r0 0) ((G r0 4).toNatClampNeg) v1) r0 4).toNatClampNeg) v2) r0 4).toNatClampNeg) v3) (R r0 2) (((sm_up (sm_up (sm_up G (R r0 0) ((G r0 4).toNatClampNeg) v1) (R r0 1) (((sm_up G (R r0 0) ((G r0 4).toNatClampNeg) v1) r0 4).toNatClampNeg) v2) (R r0 3) (((sm_up (sm_up G (R r0 0) ((G r0 4).toNatClampNeg) v1) (R r0 1) (((sm_up G (R r0 0) ((G r0 4).toNatClampNeg) v1) r0 4).toNatClampNeg) v2) r0 4).toNatClampNeg) v3) r0 4).toNatClampNeg) (i3 0)) r0 4) + (i3 1))) L))))))))))))))))))))
  else (gd (sm_is r0 342 10) (oI ((G r0 4) - (i3 1)) x G L))) := (cv_eq rfl rfl).trans (hD_eq.trans rfl)
set_option maxRecDepth 20000 in
theorem m_172 {d x : Nat} {V : pV} {G : sm_G} {L : sm_L} {r0 : Nat} {v1 v2 v3 : Int32} (hr0 : pW r0) : sm_cv0 (d + 1) 172 342 (RR V) [.ref r0, .int v1, .int v2, .int v3] (x, G, L) =
  if (G r0 4) < (i3 40) then
    (gd (sm_in (G r0 4) 40) (gd (sm_in ((sm_up G (r0 + 1) ((G r0 4).toNatClampNeg) v1) r0 4) 40) (gd (sm_in ((sm_up (sm_up G (r0 + 1) ((G r0 4).toNatClampNeg) v1) (r0 + 2) (((sm_up G (r0 + 1) ((G r0 4).toNatClampNeg) v1) r0 4).toNatClampNeg) v2) r0 4) 40) (gd (sm_in ((sm_up (sm_up (sm_up G (r0 + 1) ((G r0 4).toNatClampNeg) v1) (r0 + 2) (((sm_up G (r0 + 1) ((G r0 4).toNatClampNeg) v1) r0 4).toNatClampNeg) v2) (r0 + 4) (((sm_up (sm_up G (r0 + 1) ((G r0 4).toNatClampNeg) v1) (r0 + 2) (((sm_up G (r0 + 1) ((G r0 4).toNatClampNeg) v1) r0 4).toNatClampNeg) v2) r0 4).toNatClampNeg) v3) r0 4) 40) (oI (((sm_up (sm_up (sm_up (sm_up (sm_up G (r0 + 1) ((G r0 4).toNatClampNeg) v1) (r0 + 2) (((sm_up G (r0 + 1) ((G r0 4).toNatClampNeg) v1) r0 4).toNatClampNeg) v2) (r0 + 4) (((sm_up (sm_up G (r0 + 1) ((G r0 4).toNatClampNeg) v1) (r0 + 2) (((sm_up G (r0 + 1) ((G r0 4).toNatClampNeg) v1) r0 4).toNatClampNeg) v2) r0 4).toNatClampNeg) v3) (r0 + 3) (((sm_up (sm_up (sm_up G (r0 + 1) ((G r0 4).toNatClampNeg) v1) (r0 + 2) (((sm_up G (r0 + 1) ((G r0 4).toNatClampNeg) v1) r0 4).toNatClampNeg) v2) (r0 + 4) (((sm_up (sm_up G (r0 + 1) ((G r0 4).toNatClampNeg) v1) (r0 + 2) (((sm_up G (r0 + 1) ((G r0 4).toNatClampNeg) v1) r0 4).toNatClampNeg) v2) r0 4).toNatClampNeg) v3) r0 4).toNatClampNeg) (i3 0)) r0 4 (((sm_up (sm_up (sm_up (sm_up G (r0 + 1) ((G r0 4).toNatClampNeg) v1) (r0 + 2) (((sm_up G (r0 + 1) ((G r0 4).toNatClampNeg) v1) r0 4).toNatClampNeg) v2) (r0 + 4) (((sm_up (sm_up G (r0 + 1) ((G r0 4).toNatClampNeg) v1) (r0 + 2) (((sm_up G (r0 + 1) ((G r0 4).toNatClampNeg) v1) r0 4).toNatClampNeg) v2) r0 4).toNatClampNeg) v3) (r0 + 3) (((sm_up (sm_up (sm_up G (r0 + 1) ((G r0 4).toNatClampNeg) v1) (r0 + 2) (((sm_up G (r0 + 1) ((G r0 4).toNatClampNeg) v1) r0 4).toNatClampNeg) v2) (r0 + 4) (((sm_up (sm_up G (r0 + 1) ((G r0 4).toNatClampNeg) v1) (r0 + 2) (((sm_up G (r0 + 1) ((G r0 4).toNatClampNeg) v1) r0 4).toNatClampNeg) v2) r0 4).toNatClampNeg) v3) r0 4).toNatClampNeg) (i3 0)) r0 4) + (i3 1))) r0 4) - (i3 1)) x (sm_up (sm_up (sm_up (sm_up (sm_up G (r0 + 1) ((G r0 4).toNatClampNeg) v1) (r0 + 2) (((sm_up G (r0 + 1) ((G r0 4).toNatClampNeg) v1) r0 4).toNatClampNeg) v2) (r0 + 4) (((sm_up (sm_up G (r0 + 1) ((G r0 4).toNatClampNeg) v1) (r0 + 2) (((sm_up G (r0 + 1) ((G r0 4).toNatClampNeg) v1) r0 4).toNatClampNeg) v2) r0 4).toNatClampNeg) v3) (r0 + 3) (((sm_up (sm_up (sm_up G (r0 + 1) ((G r0 4).toNatClampNeg) v1) (r0 + 2) (((sm_up G (r0 + 1) ((G r0 4).toNatClampNeg) v1) r0 4).toNatClampNeg) v2) (r0 + 4) (((sm_up (sm_up G (r0 + 1) ((G r0 4).toNatClampNeg) v1) (r0 + 2) (((sm_up G (r0 + 1) ((G r0 4).toNatClampNeg) v1) r0 4).toNatClampNeg) v2) r0 4).toNatClampNeg) v3) r0 4).toNatClampNeg) (i3 0)) r0 4 (((sm_up (sm_up (sm_up (sm_up G (r0 + 1) ((G r0 4).toNatClampNeg) v1) (r0 + 2) (((sm_up G (r0 + 1) ((G r0 4).toNatClampNeg) v1) r0 4).toNatClampNeg) v2) (r0 + 4) (((sm_up (sm_up G (r0 + 1) ((G r0 4).toNatClampNeg) v1) (r0 + 2) (((sm_up G (r0 + 1) ((G r0 4).toNatClampNeg) v1) r0 4).toNatClampNeg) v2) r0 4).toNatClampNeg) v3) (r0 + 3) (((sm_up (sm_up (sm_up G (r0 + 1) ((G r0 4).toNatClampNeg) v1) (r0 + 2) (((sm_up G (r0 + 1) ((G r0 4).toNatClampNeg) v1) r0 4).toNatClampNeg) v2) (r0 + 4) (((sm_up (sm_up G (r0 + 1) ((G r0 4).toNatClampNeg) v1) (r0 + 2) (((sm_up G (r0 + 1) ((G r0 4).toNatClampNeg) v1) r0 4).toNatClampNeg) v2) r0 4).toNatClampNeg) v3) r0 4).toNatClampNeg) (i3 0)) r0 4) + (i3 1))) L)))))
  else (oI ((G r0 4) - (i3 1)) x G L) := by
  rw [rm_172]
  try simp only [gd_tt, (fW_0_0 V hr0), (fW_0_1 V hr0), (fW_0_2 V hr0), (fW_0_3 V hr0), (kW_0 hr0), (kW_1 hr0), (kW_2 hr0), (kW_3 hr0), (kW_4 hr0), (nW_1 hr0), (nW_2 hr0), (nW_3 hr0), (nW_4 hr0)]
/-! Will_readAgain -/
set_option maxRecDepth 20000 in
theorem rm_173 {d x : Nat} {R : sm_R} {G : sm_G} {L : sm_L} {r0 : Nat} {v2 : Int32} : sm_cv0 (d + 1) 173 342 R [.ref r0, .ref 2, .int v2] (x, G, L) =
  sm_aI (sm_cv0 d 143 342 R [.ref 2, .int (i3 0), .int (i3 20)] (x, G, L)) (fun a1 x1 G1 L1 =>
    gd (sm_is r0 342 10) (sm_aI (sm_cv0 d 172 342 R [.ref r0, .int (i3 3), .int a1, .int v2] (x1, G1, L1)) (fun a2 x2 G2 L2 =>
      gd (sm_is r0 342 10) (sm_aV (sm_cv0 d 174 342 R [.ref r0, .ref 2, .int v2] (x2, G2, L2)) (fun x3 G3 L3 =>
        gd (sm_is r0 342 10) (gd (sm_is r0 342 10) (sm_aI (sm_cv0 d 172 342 R [.ref r0, .int (i3 4), .int (i3 0), .int v2] (x3, G3, L3)) (fun a4 x4 G4 L4 =>
          gd (sm_is (R r0 2) 342 20) (gd (sm_in a4 (sm_N (R r0 2))) (gd (sm_is r0 342 10) (gd (sm_is r0 342 10) (gd (sm_is (R r0 2) 342 20) (gd (sm_in a2 (sm_N (R r0 2))) (oV x4 (sm_up (sm_up G4 (R r0 2) a4.toNatClampNeg (a2 + (i3 1))) (R r0 2) a2.toNatClampNeg ((sm_up G4 (R r0 2) a4.toNatClampNeg (a2 + (i3 1))) r0 4)) L4))))))) oX))) oX)) oX)) oX := (cv_eq rfl rfl).trans (hD_eq.trans rfl)
set_option maxRecDepth 20000 in
theorem m_173 {d x : Nat} {V : pV} {G : sm_G} {L : sm_L} {r0 : Nat} {v2 : Int32} (hr0 : pW r0) : sm_cv0 (d + 1) 173 342 (RR V) [.ref r0, .ref 2, .int v2] (x, G, L) =
  sm_aI (sm_cv0 d 143 342 (RR V) [.ref 2, .int (i3 0), .int (i3 20)] (x, G, L)) (fun a1 x1 G1 L1 =>
    sm_aI (sm_cv0 d 172 342 (RR V) [.ref r0, .int (i3 3), .int a1, .int v2] (x1, G1, L1)) (fun a2 x2 G2 L2 =>
      sm_aV (sm_cv0 d 174 342 (RR V) [.ref r0, .ref 2, .int v2] (x2, G2, L2)) (fun x3 G3 L3 =>
        sm_aI (sm_cv0 d 172 342 (RR V) [.ref r0, .int (i3 4), .int (i3 0), .int v2] (x3, G3, L3)) (fun a4 x4 G4 L4 =>
          gd (sm_in a4 40) (gd (sm_in a2 40) (oV x4 (sm_up (sm_up G4 (r0 + 3) a4.toNatClampNeg (a2 + (i3 1))) (r0 + 3) a2.toNatClampNeg ((sm_up G4 (r0 + 3) a4.toNatClampNeg (a2 + (i3 1))) r0 4)) L4))) oX) oX) oX) oX := by
  rw [rm_173]
  try simp only [gd_tt, (fW_0_2 V hr0), (kW_0 hr0), (kW_3 hr0), (nW_3 hr0), k_2]
/-! Will_readBlock -/
set_option maxRecDepth 20000 in
theorem rm_174 {d x : Nat} {R : sm_R} {G : sm_G} {L : sm_L} {r0 : Nat} {v2 : Int32} : sm_cv0 (d + 1) 174 342 R [.ref r0, .ref 2, .int v2] (x, G, L) =
  sm_aI (sm_cv0 d 135 342 R [.ref 2] (x, G, L)) (fun a1 x1 G1 L1 =>
    if a1 = (i3 0) then
      (if v2 < (i3 6) then
        (hD d 174 31 [.ref r0, .ref 2, .int v2, .null] 342 R x1 G1 L1)
      else (sm_aI (sm_cv0 d 146 342 R [.ref 2, .int (i3 91)] (x1, G1, L1)) (fun a2 x2 G2 L2 =>
          if a2 = (i3 0) then
            (hD d 174 31 [.ref r0, .ref 2, .int v2, .null] 342 R x2 G2 L2)
          else (sm_aV (sm_cv0 d 139 342 R [.ref 2, .int (i3 3), .int (G2 2 3)] (x2, G2, L2)) (fun x3 G3 L3 =>
              hD d 174 31 [.ref r0, .ref 2, .int v2, .null] 342 R x3 G3 L3) oX)) oX))
    else (hD d 174 31 [.ref r0, .ref 2, .int v2, .null] 342 R x1 G1 L1)) oX := (cv_eq rfl rfl).trans (hD_eq.trans rfl)
set_option maxRecDepth 20000 in
theorem m_174 {d x : Nat} {V : pV} {G : sm_G} {L : sm_L} {r0 : Nat} {v2 : Int32} (hr0 : pW r0) : sm_cv0 (d + 1) 174 342 (RR V) [.ref r0, .ref 2, .int v2] (x, G, L) =
  sm_aI (sm_cv0 d 135 342 (RR V) [.ref 2] (x, G, L)) (fun a1 x1 G1 L1 =>
    if a1 = (i3 0) then
      (if v2 < (i3 6) then
        (hD d 174 31 [.ref r0, .ref 2, .int v2, .null] 342 (RR V) x1 G1 L1)
      else (sm_aI (sm_cv0 d 146 342 (RR V) [.ref 2, .int (i3 91)] (x1, G1, L1)) (fun a2 x2 G2 L2 =>
          if a2 = (i3 0) then
            (hD d 174 31 [.ref r0, .ref 2, .int v2, .null] 342 (RR V) x2 G2 L2)
          else (sm_aV (sm_cv0 d 139 342 (RR V) [.ref 2, .int (i3 3), .int (G2 2 3)] (x2, G2, L2)) (fun x3 G3 L3 =>
              hD d 174 31 [.ref r0, .ref 2, .int v2, .null] 342 (RR V) x3 G3 L3) oX)) oX))
    else (hD d 174 31 [.ref r0, .ref 2, .int v2, .null] 342 (RR V) x1 G1 L1)) oX := by
  rw [rm_174]
  try simp only [gd_tt, k_2]
set_option maxRecDepth 20000 in
theorem rh_174_31 {d x : Nat} {R : sm_R} {G : sm_G} {L : sm_L} {r0 : Nat} {v2 : Int32} : hD d 174 31 [.ref r0, .ref 2, .int v2, .null] 342 R x G L =
  sm_aV (sm_cv0 d 145 342 R [.ref 2, .int (i3 91)] (x, G, L)) (fun x1 G1 L1 =>
    hD d 174 39 [.ref r0, .ref 2, .int v2, .int (i3 0)] 342 R x1 G1 L1) oX := hD_eq.trans rfl
set_option maxRecDepth 20000 in
theorem h_174_31 {d x : Nat} {V : pV} {G : sm_G} {L : sm_L} {r0 : Nat} {v2 : Int32} (hr0 : pW r0) : hD d 174 31 [.ref r0, .ref 2, .int v2, .null] 342 (RR V) x G L =
  sm_aV (sm_cv0 d 145 342 (RR V) [.ref 2, .int (i3 91)] (x, G, L)) (fun x1 G1 L1 =>
    hD d 174 39 [.ref r0, .ref 2, .int v2, .int (i3 0)] 342 (RR V) x1 G1 L1) oX := by
  rw [rh_174_31]
  try simp only [gd_tt, k_2]
set_option maxRecDepth 20000 in
theorem rh_174_39 {d x : Nat} {R : sm_R} {G : sm_G} {L : sm_L} {r0 : Nat} {v2 v3 : Int32} : hD d 174 39 [.ref r0, .ref 2, .int v2, .int v3] 342 R x G L =
  if v3 < (i3 150) then
    (sm_aI (sm_cv0 d 135 342 R [.ref 2] (x, G, L)) (fun a1 x1 G1 L1 =>
      if a1 = (i3 0) then
        (sm_aI (sm_cv0 d 146 342 R [.ref 2, .int (i3 93)] (x1, G1, L1)) (fun a2 x2 G2 L2 =>
          if a2 = (i3 0) then
            (gd (sm_is r0 342 10) (sm_aV (sm_cv0 d 171 342 R [.ref r0, .ref 2, .int (v2 + (i3 1))] (x2, G2, L2)) (fun x3 G3 L3 =>
              hD d 174 39 [.ref r0, .ref 2, .int v2, .int (v3 + (i3 1))] 342 R x3 G3 L3) oX))
          else (sm_aV (sm_cv0 d 145 342 R [.ref 2, .int (i3 93)] (x2, G2, L2)) (fun x4 G4 L4 =>
              oV x4 G4 L4) oX)) oX)
      else (sm_aV (sm_cv0 d 145 342 R [.ref 2, .int (i3 93)] (x1, G1, L1)) (fun x5 G5 L5 =>
          oV x5 G5 L5) oX)) oX)
  else (sm_aV (sm_cv0 d 145 342 R [.ref 2, .int (i3 93)] (x, G, L)) (fun x6 G6 L6 =>
      oV x6 G6 L6) oX) := hD_eq.trans rfl
set_option maxRecDepth 20000 in
theorem h_174_39 {d x : Nat} {V : pV} {G : sm_G} {L : sm_L} {r0 : Nat} {v2 v3 : Int32} (hr0 : pW r0) : hD d 174 39 [.ref r0, .ref 2, .int v2, .int v3] 342 (RR V) x G L =
  if v3 < (i3 150) then
    (sm_aI (sm_cv0 d 135 342 (RR V) [.ref 2] (x, G, L)) (fun a1 x1 G1 L1 =>
      if a1 = (i3 0) then
        (sm_aI (sm_cv0 d 146 342 (RR V) [.ref 2, .int (i3 93)] (x1, G1, L1)) (fun a2 x2 G2 L2 =>
          if a2 = (i3 0) then
            (sm_aV (sm_cv0 d 171 342 (RR V) [.ref r0, .ref 2, .int (v2 + (i3 1))] (x2, G2, L2)) (fun x3 G3 L3 =>
              hD d 174 39 [.ref r0, .ref 2, .int v2, .int (v3 + (i3 1))] 342 (RR V) x3 G3 L3) oX)
          else (sm_aV (sm_cv0 d 145 342 (RR V) [.ref 2, .int (i3 93)] (x2, G2, L2)) (fun x4 G4 L4 =>
              oV x4 G4 L4) oX)) oX)
      else (sm_aV (sm_cv0 d 145 342 (RR V) [.ref 2, .int (i3 93)] (x1, G1, L1)) (fun x5 G5 L5 =>
          oV x5 G5 L5) oX)) oX)
  else (sm_aV (sm_cv0 d 145 342 (RR V) [.ref 2, .int (i3 93)] (x, G, L)) (fun x6 G6 L6 =>
      oV x6 G6 L6) oX) := by
  rw [rh_174_39]
  try simp only [gd_tt, (kW_0 hr0), k_2]
/-! Will_readUntil -/
set_option maxRecDepth 20000 in
theorem rm_175 {d x : Nat} {R : sm_R} {G : sm_G} {L : sm_L} {r0 : Nat} {v2 : Int32} : sm_cv0 (d + 1) 175 342 R [.ref r0, .ref 2, .int v2] (x, G, L) =
  gd (sm_is r0 342 10) (sm_aI (sm_cv0 d 176 342 R [.ref r0, .ref 2, .int (i3 5)] (x, G, L)) (fun a1 x1 G1 L1 =>
    gd (sm_is r0 342 10) (sm_aV (sm_cv0 d 174 342 R [.ref r0, .ref 2, .int v2] (x1, G1, L1)) (fun x2 G2 L2 =>
      gd (sm_is r0 342 10) (gd (sm_is r0 342 10) (sm_aI (sm_cv0 d 172 342 R [.ref r0, .int (i3 7), .int (i3 0), .int (i3 0)] (x2, G2, L2)) (fun a3 x3 G3 L3 =>
        gd (sm_is (R r0 2) 342 20) (gd (sm_in a3 (sm_N (R r0 2))) (gd (sm_is r0 342 10) (gd (sm_is r0 342 10) (gd (sm_is (R r0 2) 342 20) (gd (sm_in a1 (sm_N (R r0 2))) (oV x3 (sm_up (sm_up G3 (R r0 2) a3.toNatClampNeg a1) (R r0 2) a1.toNatClampNeg ((sm_up G3 (R r0 2) a3.toNatClampNeg a1) r0 4)) L3))))))) oX))) oX)) oX) := (cv_eq rfl rfl).trans (hD_eq.trans rfl)
set_option maxRecDepth 20000 in
theorem m_175 {d x : Nat} {V : pV} {G : sm_G} {L : sm_L} {r0 : Nat} {v2 : Int32} (hr0 : pW r0) : sm_cv0 (d + 1) 175 342 (RR V) [.ref r0, .ref 2, .int v2] (x, G, L) =
  sm_aI (sm_cv0 d 176 342 (RR V) [.ref r0, .ref 2, .int (i3 5)] (x, G, L)) (fun a1 x1 G1 L1 =>
    sm_aV (sm_cv0 d 174 342 (RR V) [.ref r0, .ref 2, .int v2] (x1, G1, L1)) (fun x2 G2 L2 =>
      sm_aI (sm_cv0 d 172 342 (RR V) [.ref r0, .int (i3 7), .int (i3 0), .int (i3 0)] (x2, G2, L2)) (fun a3 x3 G3 L3 =>
        gd (sm_in a3 40) (gd (sm_in a1 40) (oV x3 (sm_up (sm_up G3 (r0 + 3) a3.toNatClampNeg a1) (r0 + 3) a1.toNatClampNeg ((sm_up G3 (r0 + 3) a3.toNatClampNeg a1) r0 4)) L3))) oX) oX) oX := by
  rw [rm_175]
  try simp only [gd_tt, (fW_0_2 V hr0), (kW_0 hr0), (kW_3 hr0), (nW_3 hr0)]
/-! Will_readQuestion -/
set_option maxRecDepth 20000 in
theorem rm_176 {d x : Nat} {R : sm_R} {G : sm_G} {L : sm_L} {r0 : Nat} {v2 : Int32} : sm_cv0 (d + 1) 176 342 R [.ref r0, .ref 2, .int v2] (x, G, L) =
  sm_aV (sm_cv0 d 138 342 R [.ref 2] (x, G, L)) (fun x1 G1 L1 =>
    hD d 176 9 [.ref r0, .ref 2, .int v2, .int (i3 0), .int (i3 0)] 342 R x1 G1 L1) oX := (cv_eq rfl rfl).trans (hD_eq.trans rfl)
set_option maxRecDepth 20000 in
theorem m_176 {d x : Nat} {V : pV} {G : sm_G} {L : sm_L} {r0 : Nat} {v2 : Int32} (hr0 : pW r0) : sm_cv0 (d + 1) 176 342 (RR V) [.ref r0, .ref 2, .int v2] (x, G, L) =
  sm_aV (sm_cv0 d 138 342 (RR V) [.ref 2] (x, G, L)) (fun x1 G1 L1 =>
    hD d 176 9 [.ref r0, .ref 2, .int v2, .int (i3 0), .int (i3 0)] 342 (RR V) x1 G1 L1) oX := by
  rw [rm_176]
  try simp only [gd_tt, k_2]
set_option maxRecDepth 20000 in
theorem rh_176_9 {d x : Nat} {R : sm_R} {G : sm_G} {L : sm_L} {r0 : Nat} {v2 v3 v4 : Int32} : hD d 176 9 [.ref r0, .ref 2, .int v2, .int v3, .int v4] 342 R x G L =
  if v4 ≤ (i3 6) then
    (sm_aI (sm_cv0 d 140 342 R [.ref 2, .ref 4112] (x, G, L)) (fun a1 x1 G1 L1 =>
      if a1 = (i3 0) then
        (hD d 176 56 [.ref r0, .ref 2, .int v2, .int v3, .null] 342 R x1 G1 L1)
      else (if (v3 + (i3 1)) ≤ (i3 6) then
          (sm_aI (sm_cv0 d 141 342 R [.ref 2, .int (i3 1)] (x1, G1, L1)) (fun a2 x2 G2 L2 =>
            if a2 = (i3 0) then
              (hD d 176 9 [.ref r0, .ref 2, .int v2, .int (v3 + (i3 1)), .int (v4 + (i3 1))] 342 R x2 G2 L2)
            else (sm_aV (sm_cv0 d 138 342 R [.ref 2] (x2, G2, L2)) (fun x3 G3 L3 =>
                hD d 176 9 [.ref r0, .ref 2, .int v2, .int (v3 + (i3 1)), .int (v4 + (i3 1))] 342 R x3 G3 L3) oX)) oX)
        else (sm_aI (sm_cv0 d 141 342 R [.ref 2, .int (i3 0)] (x1, G1, L1)) (fun a4 x4 G4 L4 =>
            if a4 = (i3 0) then
              (hD d 176 9 [.ref r0, .ref 2, .int v2, .int (v3 + (i3 1)), .int (v4 + (i3 1))] 342 R x4 G4 L4)
            else (sm_aV (sm_cv0 d 138 342 R [.ref 2] (x4, G4, L4)) (fun x5 G5 L5 =>
                hD d 176 9 [.ref r0, .ref 2, .int v2, .int (v3 + (i3 1)), .int (v4 + (i3 1))] 342 R x5 G5 L5) oX)) oX))) oX)
  else (hD d 176 56 [.ref r0, .ref 2, .int v2, .int v3, .null] 342 R x G L) := hD_eq.trans rfl
set_option maxRecDepth 20000 in
theorem h_176_9 {d x : Nat} {V : pV} {G : sm_G} {L : sm_L} {r0 : Nat} {v2 v3 v4 : Int32} (hr0 : pW r0) : hD d 176 9 [.ref r0, .ref 2, .int v2, .int v3, .int v4] 342 (RR V) x G L =
  if v4 ≤ (i3 6) then
    (sm_aI (sm_cv0 d 140 342 (RR V) [.ref 2, .ref 4112] (x, G, L)) (fun a1 x1 G1 L1 =>
      if a1 = (i3 0) then
        (hD d 176 56 [.ref r0, .ref 2, .int v2, .int v3, .null] 342 (RR V) x1 G1 L1)
      else (if (v3 + (i3 1)) ≤ (i3 6) then
          (sm_aI (sm_cv0 d 141 342 (RR V) [.ref 2, .int (i3 1)] (x1, G1, L1)) (fun a2 x2 G2 L2 =>
            if a2 = (i3 0) then
              (hD d 176 9 [.ref r0, .ref 2, .int v2, .int (v3 + (i3 1)), .int (v4 + (i3 1))] 342 (RR V) x2 G2 L2)
            else (sm_aV (sm_cv0 d 138 342 (RR V) [.ref 2] (x2, G2, L2)) (fun x3 G3 L3 =>
                hD d 176 9 [.ref r0, .ref 2, .int v2, .int (v3 + (i3 1)), .int (v4 + (i3 1))] 342 (RR V) x3 G3 L3) oX)) oX)
        else (sm_aI (sm_cv0 d 141 342 (RR V) [.ref 2, .int (i3 0)] (x1, G1, L1)) (fun a4 x4 G4 L4 =>
            if a4 = (i3 0) then
              (hD d 176 9 [.ref r0, .ref 2, .int v2, .int (v3 + (i3 1)), .int (v4 + (i3 1))] 342 (RR V) x4 G4 L4)
            else (sm_aV (sm_cv0 d 138 342 (RR V) [.ref 2] (x4, G4, L4)) (fun x5 G5 L5 =>
                hD d 176 9 [.ref r0, .ref 2, .int v2, .int (v3 + (i3 1)), .int (v4 + (i3 1))] 342 (RR V) x5 G5 L5) oX)) oX))) oX)
  else (hD d 176 56 [.ref r0, .ref 2, .int v2, .int v3, .null] 342 (RR V) x G L) := by
  rw [rh_176_9]
  try simp only [gd_tt, k_2]
set_option maxRecDepth 20000 in
theorem rh_176_56 {d x : Nat} {R : sm_R} {G : sm_G} {L : sm_L} {r0 : Nat} {v2 v3 : Int32} : hD d 176 56 [.ref r0, .ref 2, .int v2, .int v3, .null] 342 R x G L =
  sm_aI (sm_cv0 d 140 342 R [.ref 2, .ref 4105] (x, G, L)) (fun a1 x1 G1 L1 =>
    if a1 = (i3 0) then
      (sm_aI (sm_cv0 d 140 342 R [.ref 2, .ref 4113] (x1, G1, L1)) (fun a2 x2 G2 L2 =>
        if a2 = (i3 0) then
          (sm_aI (sm_cv0 d 140 342 R [.ref 2, .ref 4116] (x2, G2, L2)) (fun a3 x3 G3 L3 =>
            if a3 = (i3 0) then
              (sm_aI (sm_cv0 d 140 342 R [.ref 2, .ref 4096] (x3, G3, L3)) (fun a4 x4 G4 L4 =>
                if a4 = (i3 0) then
                  (sm_aI (sm_cv0 d 140 342 R [.ref 2, .ref 4106] (x4, G4, L4)) (fun a5 x5 G5 L5 =>
                    if a5 = (i3 0) then
                      (sm_aV (sm_cv0 d 142 342 R [.ref 2, .int (i3 1)] (x5, G5, L5)) (fun x6 G6 L6 =>
                        gd (sm_is r0 342 10) (sm_aI (sm_cv0 d 172 342 R [.ref r0, .int v2, .int (i3 0), .int ((i3 6) + (v3 &&& (i3 1)))] (x6, G6, L6)) (fun a7 x7 G7 L7 =>
                          oI a7 x7 G7 L7) oX)) oX)
                    else (gd (sm_is r0 342 10) (sm_aI (sm_cv0 d 172 342 R [.ref r0, .int v2, .int (i3 0), .int ((i3 6) + (v3 &&& (i3 1)))] (x5, G5, L5)) (fun a8 x8 G8 L8 =>
                        oI a8 x8 G8 L8) oX))) oX)
                else (sm_aI (sm_cv0 d 143 342 R [.ref 2, .int (i3 0), .int (i3 300)] (x4, G4, L4)) (fun a9 x9 G9 L9 =>
                    gd (sm_is r0 342 10) (sm_aI (sm_cv0 d 172 342 R [.ref r0, .int v2, .int a9, .int ((i3 8) + (v3 &&& (i3 1)))] (x9, G9, L9)) (fun a10 x10 G10 L10 =>
                      oI a10 x10 G10 L10) oX)) oX)) oX)
            else (gd (sm_is r0 342 10) (sm_aI (sm_cv0 d 143 342 R [.ref 2, .int (i3 0), .int ((G3 r0 6) - (i3 1))] (x3, G3, L3)) (fun a11 x11 G11 L11 =>
                gd (sm_is r0 342 10) (sm_aI (sm_cv0 d 172 342 R [.ref r0, .int v2, .int a11, .int ((i3 4) + (v3 &&& (i3 1)))] (x11, G11, L11)) (fun a12 x12 G12 L12 =>
                  oI a12 x12 G12 L12) oX)) oX))) oX)
        else (gd (sm_is r0 342 10) (sm_aI (sm_cv0 d 143 342 R [.ref 2, .int (i3 0), .int ((G2 r0 7) - (i3 1))] (x2, G2, L2)) (fun a13 x13 G13 L13 =>
            gd (sm_is r0 342 10) (sm_aI (sm_cv0 d 172 342 R [.ref r0, .int v2, .int a13, .int ((i3 2) + (v3 &&& (i3 1)))] (x13, G13, L13)) (fun a14 x14 G14 L14 =>
              oI a14 x14 G14 L14) oX)) oX))) oX)
    else (gd (sm_is r0 342 10) (sm_aI (sm_cv0 d 143 342 R [.ref 2, .int (i3 0), .int ((G1 r0 6) - (i3 1))] (x1, G1, L1)) (fun a15 x15 G15 L15 =>
        gd (sm_is r0 342 10) (sm_aI (sm_cv0 d 172 342 R [.ref r0, .int v2, .int a15, .int ((i3 0) + (v3 &&& (i3 1)))] (x15, G15, L15)) (fun a16 x16 G16 L16 =>
          oI a16 x16 G16 L16) oX)) oX))) oX := hD_eq.trans rfl
set_option maxRecDepth 20000 in
theorem h_176_56 {d x : Nat} {V : pV} {G : sm_G} {L : sm_L} {r0 : Nat} {v2 v3 : Int32} (hr0 : pW r0) : hD d 176 56 [.ref r0, .ref 2, .int v2, .int v3, .null] 342 (RR V) x G L =
  sm_aI (sm_cv0 d 140 342 (RR V) [.ref 2, .ref 4105] (x, G, L)) (fun a1 x1 G1 L1 =>
    if a1 = (i3 0) then
      (sm_aI (sm_cv0 d 140 342 (RR V) [.ref 2, .ref 4113] (x1, G1, L1)) (fun a2 x2 G2 L2 =>
        if a2 = (i3 0) then
          (sm_aI (sm_cv0 d 140 342 (RR V) [.ref 2, .ref 4116] (x2, G2, L2)) (fun a3 x3 G3 L3 =>
            if a3 = (i3 0) then
              (sm_aI (sm_cv0 d 140 342 (RR V) [.ref 2, .ref 4096] (x3, G3, L3)) (fun a4 x4 G4 L4 =>
                if a4 = (i3 0) then
                  (sm_aI (sm_cv0 d 140 342 (RR V) [.ref 2, .ref 4106] (x4, G4, L4)) (fun a5 x5 G5 L5 =>
                    if a5 = (i3 0) then
                      (sm_aV (sm_cv0 d 142 342 (RR V) [.ref 2, .int (i3 1)] (x5, G5, L5)) (fun x6 G6 L6 =>
                        sm_aI (sm_cv0 d 172 342 (RR V) [.ref r0, .int v2, .int (i3 0), .int ((i3 6) + (v3 &&& (i3 1)))] (x6, G6, L6)) (fun a7 x7 G7 L7 =>
                          oI a7 x7 G7 L7) oX) oX)
                    else (sm_aI (sm_cv0 d 172 342 (RR V) [.ref r0, .int v2, .int (i3 0), .int ((i3 6) + (v3 &&& (i3 1)))] (x5, G5, L5)) (fun a8 x8 G8 L8 =>
                        oI a8 x8 G8 L8) oX)) oX)
                else (sm_aI (sm_cv0 d 143 342 (RR V) [.ref 2, .int (i3 0), .int (i3 300)] (x4, G4, L4)) (fun a9 x9 G9 L9 =>
                    sm_aI (sm_cv0 d 172 342 (RR V) [.ref r0, .int v2, .int a9, .int ((i3 8) + (v3 &&& (i3 1)))] (x9, G9, L9)) (fun a10 x10 G10 L10 =>
                      oI a10 x10 G10 L10) oX) oX)) oX)
            else (sm_aI (sm_cv0 d 143 342 (RR V) [.ref 2, .int (i3 0), .int ((G3 r0 6) - (i3 1))] (x3, G3, L3)) (fun a11 x11 G11 L11 =>
                sm_aI (sm_cv0 d 172 342 (RR V) [.ref r0, .int v2, .int a11, .int ((i3 4) + (v3 &&& (i3 1)))] (x11, G11, L11)) (fun a12 x12 G12 L12 =>
                  oI a12 x12 G12 L12) oX) oX)) oX)
        else (sm_aI (sm_cv0 d 143 342 (RR V) [.ref 2, .int (i3 0), .int ((G2 r0 7) - (i3 1))] (x2, G2, L2)) (fun a13 x13 G13 L13 =>
            sm_aI (sm_cv0 d 172 342 (RR V) [.ref r0, .int v2, .int a13, .int ((i3 2) + (v3 &&& (i3 1)))] (x13, G13, L13)) (fun a14 x14 G14 L14 =>
              oI a14 x14 G14 L14) oX) oX)) oX)
    else (sm_aI (sm_cv0 d 143 342 (RR V) [.ref 2, .int (i3 0), .int ((G1 r0 6) - (i3 1))] (x1, G1, L1)) (fun a15 x15 G15 L15 =>
        sm_aI (sm_cv0 d 172 342 (RR V) [.ref r0, .int v2, .int a15, .int ((i3 0) + (v3 &&& (i3 1)))] (x15, G15, L15)) (fun a16 x16 G16 L16 =>
          oI a16 x16 G16 L16) oX) oX)) oX := by
  rw [rh_176_56]
  try simp only [gd_tt, (kW_0 hr0), k_2]
/-! Will_readIf -/
set_option maxRecDepth 20000 in
theorem rm_177 {d x : Nat} {R : sm_R} {G : sm_G} {L : sm_L} {r0 : Nat} {v2 : Int32} : sm_cv0 (d + 1) 177 342 R [.ref r0, .ref 2, .int v2] (x, G, L) =
  gd (sm_is r0 342 10) (sm_aI (sm_cv0 d 176 342 R [.ref r0, .ref 2, .int (i3 6)] (x, G, L)) (fun a1 x1 G1 L1 =>
    gd (sm_is r0 342 10) (sm_aV (sm_cv0 d 174 342 R [.ref r0, .ref 2, .int v2] (x1, G1, L1)) (fun x2 G2 L2 =>
      sm_aI (sm_cv0 d 147 342 R [.ref 2, .ref 4102] (x2, G2, L2)) (fun a3 x3 G3 L3 =>
        if a3 = (i3 0) then
          (gd (sm_is r0 342 10) (gd (sm_is r0 342 10) (gd (sm_is (R r0 2) 342 20) (gd (sm_in a1 (sm_N (R r0 2))) (oV x3 (sm_up G3 (R r0 2) a1.toNatClampNeg (G3 r0 4)) L3)))))
        else (gd (sm_is r0 342 10) (sm_aI (sm_cv0 d 172 342 R [.ref r0, .int (i3 7), .int (i3 0), .int (i3 0)] (x3, G3, L3)) (fun a4 x4 G4 L4 =>
            gd (sm_is r0 342 10) (gd (sm_is r0 342 10) (gd (sm_is (R r0 2) 342 20) (gd (sm_in a1 (sm_N (R r0 2))) (gd (sm_is r0 342 10) (sm_aV (sm_cv0 d 174 342 R [.ref r0, .ref 2, .int v2] (x4, sm_up G4 (R r0 2) a1.toNatClampNeg (G4 r0 4), L4)) (fun x5 G5 L5 =>
              gd (sm_is r0 342 10) (gd (sm_is r0 342 10) (gd (sm_is (R r0 2) 342 20) (gd (sm_in a4 (sm_N (R r0 2))) (oV x5 (sm_up G5 (R r0 2) a4.toNatClampNeg (G5 r0 4)) L5))))) oX)))))) oX))) oX) oX)) oX) := (cv_eq rfl rfl).trans (hD_eq.trans rfl)
set_option maxRecDepth 20000 in
theorem m_177 {d x : Nat} {V : pV} {G : sm_G} {L : sm_L} {r0 : Nat} {v2 : Int32} (hr0 : pW r0) : sm_cv0 (d + 1) 177 342 (RR V) [.ref r0, .ref 2, .int v2] (x, G, L) =
  sm_aI (sm_cv0 d 176 342 (RR V) [.ref r0, .ref 2, .int (i3 6)] (x, G, L)) (fun a1 x1 G1 L1 =>
    sm_aV (sm_cv0 d 174 342 (RR V) [.ref r0, .ref 2, .int v2] (x1, G1, L1)) (fun x2 G2 L2 =>
      sm_aI (sm_cv0 d 147 342 (RR V) [.ref 2, .ref 4102] (x2, G2, L2)) (fun a3 x3 G3 L3 =>
        if a3 = (i3 0) then
          (gd (sm_in a1 40) (oV x3 (sm_up G3 (r0 + 3) a1.toNatClampNeg (G3 r0 4)) L3))
        else (sm_aI (sm_cv0 d 172 342 (RR V) [.ref r0, .int (i3 7), .int (i3 0), .int (i3 0)] (x3, G3, L3)) (fun a4 x4 G4 L4 =>
            gd (sm_in a1 40) (sm_aV (sm_cv0 d 174 342 (RR V) [.ref r0, .ref 2, .int v2] (x4, sm_up G4 (r0 + 3) a1.toNatClampNeg (G4 r0 4), L4)) (fun x5 G5 L5 =>
              gd (sm_in a4 40) (oV x5 (sm_up G5 (r0 + 3) a4.toNatClampNeg (G5 r0 4)) L5)) oX)) oX)) oX) oX) oX := by
  rw [rm_177]
  try simp only [gd_tt, (fW_0_2 V hr0), (kW_0 hr0), (kW_3 hr0), (nW_3 hr0), k_2]
/-! M_tellsNothing -/
set_option maxRecDepth 20000 in
theorem rm_212 {d x : Nat} {R : sm_R} {G : sm_G} {L : sm_L} : sm_cv0 (d + 1) 212 342 R [.ref 156] (x, G, L) =
  hD d 212 2 [.ref 156, .int (i3 0)] 342 R x G L := (cv_eq rfl rfl).trans (hD_eq.trans rfl)
theorem m_212 {d x : Nat} {V : pV} {G : sm_G} {L : sm_L} : sm_cv0 (d + 1) 212 342 (RR V) [.ref 156] (x, G, L) =
  hD d 212 2 [.ref 156, .int (i3 0)] 342 (RR V) x G L := rm_212
set_option maxRecDepth 20000 in
theorem rh_212_2 {d x : Nat} {R : sm_R} {G : sm_G} {L : sm_L} {v1 : Int32} : hD d 212 2 [.ref 156, .int v1] 342 R x G L =
  if v1 < (i3 5) then
    (gd (sm_is (R 156 11) 342 20) (gd (sm_in v1 (sm_N (R 156 11))) (hD d 212 2 [.ref 156, .int (v1 + (i3 1))] 342 R x (sm_up G (R 156 11) v1.toNatClampNeg (i3 0)) L)))
  else (gd (sm_is (R 156 11) 342 20) (gd (sm_in (i3 5) (sm_N (R 156 11))) (hD d 212 29 [.ref 156, .int (i3 0)] 342 R x (sm_up G (R 156 11) 5 m1) L))) := hD_eq.trans rfl
set_option maxRecDepth 20000 in
theorem h_212_2 {d x : Nat} {V : pV} {G : sm_G} {L : sm_L} {v1 : Int32} : hD d 212 2 [.ref 156, .int v1] 342 (RR V) x G L =
  if v1 < (i3 5) then
    (gd (sm_in v1 6) (hD d 212 2 [.ref 156, .int (v1 + (i3 1))] 342 (RR V) x (sm_up G 159 v1.toNatClampNeg (i3 0)) L))
  else (hD d 212 29 [.ref 156, .int (i3 0)] 342 (RR V) x (sm_up G 159 5 m1) L) := by
  rw [rh_212_2]
  try simp only [gd_tt, (q_156_11 V), inl_5_6, k_156, k_159, n_159]
set_option maxRecDepth 20000 in
theorem rh_212_29 {d x : Nat} {R : sm_R} {G : sm_G} {L : sm_L} {v1 : Int32} : hD d 212 29 [.ref 156, .int v1] 342 R x G L =
  if v1 < (i3 6) then
    (gd (sm_is (R 156 15) 342 20) (gd (sm_in v1 (sm_N (R 156 15))) (hD d 212 29 [.ref 156, .int (v1 + (i3 1))] 342 R x (sm_up G (R 156 15) v1.toNatClampNeg (i3 0)) L)))
  else (oV x G L) := hD_eq.trans rfl
set_option maxRecDepth 20000 in
theorem h_212_29 {d x : Nat} {V : pV} {G : sm_G} {L : sm_L} {v1 : Int32} : hD d 212 29 [.ref 156, .int v1] 342 (RR V) x G L =
  if v1 < (i3 6) then
    (gd (sm_in v1 6) (hD d 212 29 [.ref 156, .int (v1 + (i3 1))] 342 (RR V) x (sm_up G 163 v1.toNatClampNeg (i3 0)) L))
  else (oV x G L) := by
  rw [rh_212_29]
  try simp only [gd_tt, (q_156_15 V), k_156, k_163, n_163]
/-! M_stands -/
set_option maxRecDepth 20000 in
theorem rm_213 {d x : Nat} {R : sm_R} {G : sm_G} {L : sm_L} : sm_cv0 (d + 1) 213 342 R [.ref 156] (x, G, L) =
  hD d 213 2 [.ref 156, .int (i3 0)] 342 R x G L := (cv_eq rfl rfl).trans (hD_eq.trans rfl)
theorem m_213 {d x : Nat} {V : pV} {G : sm_G} {L : sm_L} : sm_cv0 (d + 1) 213 342 (RR V) [.ref 156] (x, G, L) =
  hD d 213 2 [.ref 156, .int (i3 0)] 342 (RR V) x G L := rm_213
set_option maxRecDepth 20000 in
theorem rh_213_2 {d x : Nat} {R : sm_R} {G : sm_G} {L : sm_L} {v1 : Int32} : hD d 213 2 [.ref 156, .int v1] 342 R x G L =
  if v1 < (i3 6) then
    (ldi (R 156 11) v1 G (fun y1 => gd (sm_is (R 156 12) 342 20) (gd (sm_in v1 (sm_N (R 156 12))) (hD d 213 2 [.ref 156, .int (v1 + (i3 1))] 342 R x (sm_up G (R 156 12) v1.toNatClampNeg y1) L))))
  else (hD d 213 28 [.ref 156, .int (i3 0)] 342 R x G L) := hD_eq.trans rfl
set_option maxRecDepth 20000 in
theorem h_213_2 {d x : Nat} {V : pV} {G : sm_G} {L : sm_L} {v1 : Int32} : hD d 213 2 [.ref 156, .int v1] 342 (RR V) x G L =
  if v1 < (i3 6) then
    (gd (sm_in v1 6) (gd (sm_in v1 6) (hD d 213 2 [.ref 156, .int (v1 + (i3 1))] 342 (RR V) x (sm_up G 160 v1.toNatClampNeg (G 159 v1.toNatClampNeg)) L)))
  else (hD d 213 28 [.ref 156, .int (i3 0)] 342 (RR V) x G L) := by
  rw [rh_213_2]
  try simp only [gd_tt, (q_156_11 V), (q_156_12 V), k_156, k_160, ldi_e k_159 n_159, n_159, n_160]
set_option maxRecDepth 20000 in
theorem rh_213_28 {d x : Nat} {R : sm_R} {G : sm_G} {L : sm_L} {v1 : Int32} : hD d 213 28 [.ref 156, .int v1] 342 R x G L =
  ldi (R 156 12) (i3 0) G (fun y1 => if v1 < y1 then
    (ldi (R 156 13) v1 G (fun y2 => gd (sm_is (R 156 14) 342 20) (gd (sm_in v1 (sm_N (R 156 14))) (hD d 213 28 [.ref 156, .int (v1 + (i3 1))] 342 R x (sm_up G (R 156 14) v1.toNatClampNeg y2) L))))
  else (hD d 213 58 [.ref 156, .int (i3 0)] 342 R x G L)) := hD_eq.trans rfl
set_option maxRecDepth 20000 in
theorem h_213_28 {d x : Nat} {V : pV} {G : sm_G} {L : sm_L} {v1 : Int32} : hD d 213 28 [.ref 156, .int v1] 342 (RR V) x G L =
  if v1 < (G 160 0) then
    (gd (sm_in v1 8) (gd (sm_in v1 8) (hD d 213 28 [.ref 156, .int (v1 + (i3 1))] 342 (RR V) x (sm_up G 162 v1.toNatClampNeg (G 161 v1.toNatClampNeg)) L)))
  else (hD d 213 58 [.ref 156, .int (i3 0)] 342 (RR V) x G L) := by
  rw [rh_213_28]
  try simp only [gd_tt, (q_156_12 V), (q_156_13 V), (q_156_14 V), cl_0, inl_0_6, k_156, k_162, ldi_e k_160 n_160, ldi_e k_161 n_161, n_160, n_161, n_162]
set_option maxRecDepth 20000 in
theorem rh_213_58 {d x : Nat} {R : sm_R} {G : sm_G} {L : sm_L} {v1 : Int32} : hD d 213 58 [.ref 156, .int v1] 342 R x G L =
  if v1 < (i3 6) then
    (ldi (R 156 15) v1 G (fun y1 => gd (sm_is (R 156 16) 342 20) (gd (sm_in v1 (sm_N (R 156 16))) (hD d 213 58 [.ref 156, .int (v1 + (i3 1))] 342 R x (sm_up G (R 156 16) v1.toNatClampNeg y1) L))))
  else (ldi (R 156 12) (i3 0) G (fun y2 => sm_aV (sm_cv0 d 214 342 R [.ref (R 156 17), .ref (R 156 18), .int y2] (x, G, L)) (fun x3 G3 L3 =>
      ldi (R 156 12) (i3 1) G3 (fun y4 => sm_aV (sm_cv0 d 214 342 R [.ref (R 156 19), .ref (R 156 20), .int y4] (x3, G3, L3)) (fun x5 G5 L5 =>
        ldi (R 156 12) (i3 2) G5 (fun y6 => sm_aV (sm_cv0 d 214 342 R [.ref (R 156 21), .ref (R 156 22), .int y6] (x5, G5, L5)) (fun x7 G7 L7 =>
          ldi (R 156 12) (i3 4) G7 (fun y8 => sm_aV (sm_cv0 d 214 342 R [.ref (R 156 23), .ref (R 156 24), .int y8] (x7, G7, L7)) (fun x9 G9 L9 =>
            hD d 213 152 [.ref 156, .int (i3 0)] 342 R x9 G9 L9) oX)) oX)) oX)) oX)) := hD_eq.trans rfl
set_option maxRecDepth 20000 in
theorem h_213_58 {d x : Nat} {V : pV} {G : sm_G} {L : sm_L} {v1 : Int32} : hD d 213 58 [.ref 156, .int v1] 342 (RR V) x G L =
  if v1 < (i3 6) then
    (gd (sm_in v1 6) (gd (sm_in v1 6) (hD d 213 58 [.ref 156, .int (v1 + (i3 1))] 342 (RR V) x (sm_up G 164 v1.toNatClampNeg (G 163 v1.toNatClampNeg)) L)))
  else (sm_aV (sm_cv0 d 214 342 (RR V) [.ref 165, .ref 174, .int (G 160 0)] (x, G, L)) (fun x3 G3 L3 =>
      sm_aV (sm_cv0 d 214 342 (RR V) [.ref 183, .ref 194, .int (G3 160 1)] (x3, G3, L3)) (fun x5 G5 L5 =>
        sm_aV (sm_cv0 d 214 342 (RR V) [.ref 205, .ref 218, .int (G5 160 2)] (x5, G5, L5)) (fun x7 G7 L7 =>
          sm_aV (sm_cv0 d 214 342 (RR V) [.ref 231, .ref 236, .int (G7 160 4)] (x7, G7, L7)) (fun x9 G9 L9 =>
            hD d 213 152 [.ref 156, .int (i3 0)] 342 (RR V) x9 G9 L9) oX) oX) oX) oX) := by
  rw [rh_213_58]
  try simp only [gd_tt, (q_156_12 V), (q_156_15 V), (q_156_16 V), (q_156_17 V), (q_156_18 V), (q_156_19 V), (q_156_20 V), (q_156_21 V), (q_156_22 V), (q_156_23 V), (q_156_24 V), cl_0, cl_1, cl_2, cl_4, inl_0_6, inl_1_6, inl_2_6, inl_4_6, k_156, k_164, ldi_e k_160 n_160, ldi_e k_163 n_163, n_160, n_163, n_164]
set_option maxRecDepth 20000 in
theorem rh_213_152 {d x : Nat} {R : sm_R} {G : sm_G} {L : sm_L} {v1 : Int32} : hD d 213 152 [.ref 156, .int v1] 342 R x G L =
  if v1 < (i3 4) then
    (gd (sm_is (R 156 25) 342 20) (gd (sm_in v1 (sm_N (R 156 25))) (hD d 213 152 [.ref 156, .int (v1 + (i3 1))] 342 R x (sm_up G (R 156 25) v1.toNatClampNeg (i3 0)) L)))
  else (hD d 213 172 [.ref 156, .int (i3 0)] 342 R x G L) := hD_eq.trans rfl
set_option maxRecDepth 20000 in
theorem h_213_152 {d x : Nat} {V : pV} {G : sm_G} {L : sm_L} {v1 : Int32} : hD d 213 152 [.ref 156, .int v1] 342 (RR V) x G L =
  if v1 < (i3 4) then
    (gd (sm_in v1 4) (hD d 213 152 [.ref 156, .int (v1 + (i3 1))] 342 (RR V) x (sm_up G 241 v1.toNatClampNeg (i3 0)) L))
  else (hD d 213 172 [.ref 156, .int (i3 0)] 342 (RR V) x G L) := by
  rw [rh_213_152]
  try simp only [gd_tt, (q_156_25 V), k_156, k_241, n_241]
set_option maxRecDepth 20000 in
theorem rh_213_172 {d x : Nat} {R : sm_R} {G : sm_G} {L : sm_L} {v1 : Int32} : hD d 213 172 [.ref 156, .int v1] 342 R x G L =
  if v1 < (i3 8) then
    (gd (sm_is (R 156 42) 342 20) (gd (sm_in v1 (sm_N (R 156 42))) (hD d 213 172 [.ref 156, .int (v1 + (i3 1))] 342 R x (sm_up G (R 156 42) v1.toNatClampNeg v1) L)))
  else (oV x (sm_up (sm_up (sm_up (sm_up G 156 36 (i3 0)) 156 37 (i3 0)) 156 38 (i3 0)) 156 39 (i3 0)) L) := hD_eq.trans rfl
set_option maxRecDepth 20000 in
theorem h_213_172 {d x : Nat} {V : pV} {G : sm_G} {L : sm_L} {v1 : Int32} : hD d 213 172 [.ref 156, .int v1] 342 (RR V) x G L =
  if v1 < (i3 8) then
    (gd (sm_in v1 8) (hD d 213 172 [.ref 156, .int (v1 + (i3 1))] 342 (RR V) x (sm_up G 305 v1.toNatClampNeg v1) L))
  else (oV x (sm_up (sm_up (sm_up (sm_up G 156 36 (i3 0)) 156 37 (i3 0)) 156 38 (i3 0)) 156 39 (i3 0)) L) := by
  rw [rh_213_172]
  try simp only [gd_tt, (q_156_42 V), k_156, k_305, n_305]
/-! M_copies -/
set_option maxRecDepth 20000 in
theorem rm_214 {d x : Nat} {R : sm_R} {G : sm_G} {L : sm_L} {r0 r1 : Nat} {v2 : Int32} : sm_cv0 (d + 1) 214 342 R [.ref r0, .ref r1, .int v2] (x, G, L) =
  hD d 214 2 [.ref r0, .ref r1, .int v2, .int (i3 0), .null] 342 R x G L := (cv_eq rfl rfl).trans (hD_eq.trans rfl)
theorem m_214 {d x : Nat} {V : pV} {G : sm_G} {L : sm_L} {r0 r1 : Nat} {v2 : Int32} : sm_cv0 (d + 1) 214 342 (RR V) [.ref r0, .ref r1, .int v2] (x, G, L) =
  hD d 214 2 [.ref r0, .ref r1, .int v2, .int (i3 0), .null] 342 (RR V) x G L := rm_214
set_option maxRecDepth 20000 in
theorem rh_214_2 {d x : Nat} {R : sm_R} {G : sm_G} {L : sm_L} {r0 r1 : Nat} {v2 v3 : Int32} : hD d 214 2 [.ref r0, .ref r1, .int v2, .int v3, .null] 342 R x G L =
  if v3 < v2 then
    (hD d 214 10 [.ref r0, .ref r1, .int v2, .int v3, .int (i3 0)] 342 R x G L)
  else (oV x G L) := hD_eq.trans rfl
theorem h_214_2 {d x : Nat} {V : pV} {G : sm_G} {L : sm_L} {r0 r1 : Nat} {v2 v3 : Int32} : hD d 214 2 [.ref r0, .ref r1, .int v2, .int v3, .null] 342 (RR V) x G L =
  if v3 < v2 then
    (hD d 214 10 [.ref r0, .ref r1, .int v2, .int v3, .int (i3 0)] 342 (RR V) x G L)
  else (oV x G L) := rh_214_2
set_option maxRecDepth 20000 in
theorem rh_214_10 {d x : Nat} {R : sm_R} {G : sm_G} {L : sm_L} {r0 r1 : Nat} {v2 v3 v4 : Int32} : hD d 214 10 [.ref r0, .ref r1, .int v2, .int v3, .int v4] 342 R x G L =
  gd (Nat.ble 24 (sm_K r1) && Nat.ble (sm_K r1) 27 && Nat.ble r1 342) (gd (sm_in v3 (sm_N r1)) (aln (R r1 v3.toNatClampNeg) G (fun y1 => if v4 < y1 then
    (gd (Nat.ble 24 (sm_K r1) && Nat.ble (sm_K r1) 27 && Nat.ble r1 342) (gd (sm_in v3 (sm_N r1)) (gd (Nat.ble 24 (sm_K r0) && Nat.ble (sm_K r0) 27 && Nat.ble r0 342) (gd (sm_in v3 (sm_N r0)) (ldi (R r0 v3.toNatClampNeg) v4 G (fun y2 => gd (sm_is (R r1 v3.toNatClampNeg) 342 20) (gd (sm_in v4 (sm_N (R r1 v3.toNatClampNeg))) (hD d 214 10 [.ref r0, .ref r1, .int v2, .int v3, .int (v4 + (i3 1))] 342 R x (sm_up G (R r1 v3.toNatClampNeg) v4.toNatClampNeg y2) L))))))))
  else (hD d 214 2 [.ref r0, .ref r1, .int v2, .int (v3 + (i3 1)), .null] 342 R x G L)))) := hD_eq.trans rfl
set_option maxRecDepth 20000 in
theorem h_214_10 {d x : Nat} {V : pV} {G : sm_G} {L : sm_L} {r0 r1 : Nat} {v2 v3 v4 : Int32} : hD d 214 10 [.ref r0, .ref r1, .int v2, .int v3, .int v4] 342 (RR V) x G L =
  gd (Nat.ble 24 (sm_K r1) && Nat.ble (sm_K r1) 27 && Nat.ble r1 342) (gd (sm_in v3 (sm_N r1)) (aln (RR V r1 v3.toNatClampNeg) G (fun y1 => if v4 < y1 then
    (gd (Nat.ble 24 (sm_K r1) && Nat.ble (sm_K r1) 27 && Nat.ble r1 342) (gd (sm_in v3 (sm_N r1)) (gd (Nat.ble 24 (sm_K r0) && Nat.ble (sm_K r0) 27 && Nat.ble r0 342) (gd (sm_in v3 (sm_N r0)) (ldi (RR V r0 v3.toNatClampNeg) v4 G (fun y2 => gd (sm_is (RR V r1 v3.toNatClampNeg) 342 20) (gd (sm_in v4 (sm_N (RR V r1 v3.toNatClampNeg))) (hD d 214 10 [.ref r0, .ref r1, .int v2, .int v3, .int (v4 + (i3 1))] 342 (RR V) x (sm_up G (RR V r1 v3.toNatClampNeg) v4.toNatClampNeg y2) L))))))))
  else (hD d 214 2 [.ref r0, .ref r1, .int v2, .int (v3 + (i3 1)), .null] 342 (RR V) x G L)))) := by
  rw [rh_214_10]
  try simp only [gd_tt]
/-! M_thrown -/
set_option maxRecDepth 20000 in
theorem rm_215 {d x : Nat} {R : sm_R} {G : sm_G} {L : sm_L} : sm_cv0 (d + 1) 215 342 R [.ref 156] (x, G, L) =
  oI (G 156 0) x G L := (cv_eq rfl rfl).trans (hD_eq.trans rfl)
set_option maxRecDepth 20000 in
theorem m_215 {d x : Nat} {V : pV} {G : sm_G} {L : sm_L} : sm_cv0 (d + 1) 215 342 (RR V) [.ref 156] (x, G, L) =
  oI (G 156 0) x G L := by
  rw [rm_215]
  try simp only [gd_tt, k_156]
/-! M_feed -/
set_option maxRecDepth 20000 in
theorem rm_216 {d x : Nat} {R : sm_R} {G : sm_G} {L : sm_L} {v1 v2 v3 v4 v5 : Int32} : sm_cv0 (d + 1) 216 342 R [.ref 156, .int v1, .int v2, .int v3, .int v4, .int v5] (x, G, L) =
  if (((sm_up G 156 0 (i3 0)) 156 1) + (i3 20)) ≤ (i3 600) then
    (hD d 216 23 [.ref 156, .int v1, .int v2, .int v3, .int v4, .int v5, .int (i3 0), .null] 342 R x (sm_up G 156 0 (i3 0)) L)
  else (oI m1 x (sm_up G 156 0 (i3 0)) L) := (cv_eq rfl rfl).trans (hD_eq.trans rfl)
set_option maxRecDepth 20000 in
theorem m_216 {d x : Nat} {V : pV} {G : sm_G} {L : sm_L} {v1 v2 v3 v4 v5 : Int32} : sm_cv0 (d + 1) 216 342 (RR V) [.ref 156, .int v1, .int v2, .int v3, .int v4, .int v5] (x, G, L) =
  if (((sm_up G 156 0 (i3 0)) 156 1) + (i3 20)) ≤ (i3 600) then
    (hD d 216 23 [.ref 156, .int v1, .int v2, .int v3, .int v4, .int v5, .int (i3 0), .null] 342 (RR V) x (sm_up G 156 0 (i3 0)) L)
  else (oI m1 x (sm_up G 156 0 (i3 0)) L) := by
  rw [rm_216]
  try simp only [gd_tt, k_156]
set_option maxRecDepth 20000 in
theorem rh_216_23 {d x : Nat} {R : sm_R} {G : sm_G} {L : sm_L} {v1 v2 v3 v4 v5 v6 : Int32} : hD d 216 23 [.ref 156, .int v1, .int v2, .int v3, .int v4, .int v5, .int v6, .null] 342 R x G L =
  if v6 < (i3 20) then
    (if v6 < (i3 4) then
      (hD d 216 78 [.ref 156, .int v1, .int v2, .int v3, .int v4, .int v5, .int v6, .int v1] 342 R x G L)
    else (if v6 < (i3 8) then
        (hD d 216 78 [.ref 156, .int v1, .int v2, .int v3, .int v4, .int v5, .int v6, .int v2] 342 R x G L)
      else (if v6 < (i3 12) then
          (hD d 216 78 [.ref 156, .int v1, .int v2, .int v3, .int v4, .int v5, .int v6, .int v3] 342 R x G L)
        else (if v6 < (i3 16) then
            (hD d 216 78 [.ref 156, .int v1, .int v2, .int v3, .int v4, .int v5, .int v6, .int v4] 342 R x G L)
          else (hD d 216 78 [.ref 156, .int v1, .int v2, .int v3, .int v4, .int v5, .int v6, .int v5] 342 R x G L)))))
  else (oI (G 156 1) x G L) := hD_eq.trans rfl
set_option maxRecDepth 20000 in
theorem h_216_23 {d x : Nat} {V : pV} {G : sm_G} {L : sm_L} {v1 v2 v3 v4 v5 v6 : Int32} : hD d 216 23 [.ref 156, .int v1, .int v2, .int v3, .int v4, .int v5, .int v6, .null] 342 (RR V) x G L =
  if v6 < (i3 20) then
    (if v6 < (i3 4) then
      (hD d 216 78 [.ref 156, .int v1, .int v2, .int v3, .int v4, .int v5, .int v6, .int v1] 342 (RR V) x G L)
    else (if v6 < (i3 8) then
        (hD d 216 78 [.ref 156, .int v1, .int v2, .int v3, .int v4, .int v5, .int v6, .int v2] 342 (RR V) x G L)
      else (if v6 < (i3 12) then
          (hD d 216 78 [.ref 156, .int v1, .int v2, .int v3, .int v4, .int v5, .int v6, .int v3] 342 (RR V) x G L)
        else (if v6 < (i3 16) then
            (hD d 216 78 [.ref 156, .int v1, .int v2, .int v3, .int v4, .int v5, .int v6, .int v4] 342 (RR V) x G L)
          else (hD d 216 78 [.ref 156, .int v1, .int v2, .int v3, .int v4, .int v5, .int v6, .int v5] 342 (RR V) x G L)))))
  else (oI (G 156 1) x G L) := by
  rw [rh_216_23]
  try simp only [gd_tt, k_156]
set_option maxRecDepth 20000 in
theorem rh_216_78 {d x : Nat} {R : sm_R} {G : sm_G} {L : sm_L} {v1 v2 v3 v4 v5 v6 v7 : Int32} : hD d 216 78 [.ref 156, .int v1, .int v2, .int v3, .int v4, .int v5, .int v6, .int v7] 342 R x G L =
  gd (sm_is (R 156 9) 342 20) (gd (sm_in (G 156 1) (sm_N (R 156 9))) (hD d 216 23 [.ref 156, .int v1, .int v2, .int v3, .int v4, .int v5, .int (v6 + (i3 1)), .null] 342 R x (sm_up (sm_up G (R 156 9) ((G 156 1).toNatClampNeg) ((shr v7 ((i3 24) - ((i3 8) * (irem v6 (i3 4))))) &&& (i3 255))) 156 1 (((sm_up G (R 156 9) ((G 156 1).toNatClampNeg) ((shr v7 ((i3 24) - ((i3 8) * (irem v6 (i3 4))))) &&& (i3 255))) 156 1) + (i3 1))) L)) := hD_eq.trans rfl
set_option maxRecDepth 20000 in
theorem h_216_78 {d x : Nat} {V : pV} {G : sm_G} {L : sm_L} {v1 v2 v3 v4 v5 v6 v7 : Int32} : hD d 216 78 [.ref 156, .int v1, .int v2, .int v3, .int v4, .int v5, .int v6, .int v7] 342 (RR V) x G L =
  gd (sm_in (G 156 1) 600) (hD d 216 23 [.ref 156, .int v1, .int v2, .int v3, .int v4, .int v5, .int (v6 + (i3 1)), .null] 342 (RR V) x (sm_up (sm_up G 157 ((G 156 1).toNatClampNeg) ((shr v7 ((i3 24) - ((i3 8) * (irem v6 (i3 4))))) &&& (i3 255))) 156 1 (((sm_up G 157 ((G 156 1).toNatClampNeg) ((shr v7 ((i3 24) - ((i3 8) * (irem v6 (i3 4))))) &&& (i3 255))) 156 1) + (i3 1))) L) := by
  rw [rh_216_78]
  try simp only [gd_tt, (q_156_9 V), k_156, k_157, n_157]
/-! M_street -/
set_option maxRecDepth 20000 in
theorem rm_217 {d x : Nat} {R : sm_R} {G : sm_G} {L : sm_L} {v1 : Int32} : sm_cv0 (d + 1) 217 342 R [.ref 156, .int v1] (x, G, L) =
  sm_aI (sm_cv0 d 218 342 R [.int v1, .int (i3 0), .int ((sm_up G 156 0 (i3 0)) 156 1)] (x, sm_up G 156 0 (i3 0), L)) (fun a1 x1 G1 L1 =>
    if a1 = (i3 0) then
      (sm_aI (sm_cv0 d 219 342 R [.ref 156, .int (i3 1), .int (i3 1), .int (i3 2)] (x1, G1, L1)) (fun a2 x2 G2 L2 =>
        if a2 = (i3 0) then
          (sm_aV (sm_cv0 d 220 342 R [.ref 156, .int v1] (x2, G2, L2)) (fun x3 G3 L3 =>
            sm_aV (sm_cv0 d 212 342 R [.ref 156] (x3, G3, L3)) (fun x4 G4 L4 =>
              hD d 217 42 [.ref 156, .null] 342 R x4 G4 L4) oX) oX)
        else (oI (i3 0) x2 G2 L2)) oX)
    else (sm_aI (sm_cv0 d 219 342 R [.ref 156, .int (i3 0), .int (i3 1), .int (i3 2)] (x1, G1, L1)) (fun a5 x5 G5 L5 =>
        if a5 = (i3 0) then
          (sm_aV (sm_cv0 d 220 342 R [.ref 156, .int v1] (x5, G5, L5)) (fun x6 G6 L6 =>
            sm_aV (sm_cv0 d 212 342 R [.ref 156] (x6, G6, L6)) (fun x7 G7 L7 =>
              hD d 217 42 [.ref 156, .null] 342 R x7 G7 L7) oX) oX)
        else (oI (i3 0) x5 G5 L5)) oX)) oX := (cv_eq rfl rfl).trans (hD_eq.trans rfl)
set_option maxRecDepth 20000 in
theorem m_217 {d x : Nat} {V : pV} {G : sm_G} {L : sm_L} {v1 : Int32} : sm_cv0 (d + 1) 217 342 (RR V) [.ref 156, .int v1] (x, G, L) =
  sm_aI (sm_cv0 d 218 342 (RR V) [.int v1, .int (i3 0), .int ((sm_up G 156 0 (i3 0)) 156 1)] (x, sm_up G 156 0 (i3 0), L)) (fun a1 x1 G1 L1 =>
    if a1 = (i3 0) then
      (sm_aI (sm_cv0 d 219 342 (RR V) [.ref 156, .int (i3 1), .int (i3 1), .int (i3 2)] (x1, G1, L1)) (fun a2 x2 G2 L2 =>
        if a2 = (i3 0) then
          (sm_aV (sm_cv0 d 220 342 (RR V) [.ref 156, .int v1] (x2, G2, L2)) (fun x3 G3 L3 =>
            sm_aV (sm_cv0 d 212 342 (RR V) [.ref 156] (x3, G3, L3)) (fun x4 G4 L4 =>
              hD d 217 42 [.ref 156, .null] 342 (RR V) x4 G4 L4) oX) oX)
        else (oI (i3 0) x2 G2 L2)) oX)
    else (sm_aI (sm_cv0 d 219 342 (RR V) [.ref 156, .int (i3 0), .int (i3 1), .int (i3 2)] (x1, G1, L1)) (fun a5 x5 G5 L5 =>
        if a5 = (i3 0) then
          (sm_aV (sm_cv0 d 220 342 (RR V) [.ref 156, .int v1] (x5, G5, L5)) (fun x6 G6 L6 =>
            sm_aV (sm_cv0 d 212 342 (RR V) [.ref 156] (x6, G6, L6)) (fun x7 G7 L7 =>
              hD d 217 42 [.ref 156, .null] 342 (RR V) x7 G7 L7) oX) oX)
        else (oI (i3 0) x5 G5 L5)) oX)) oX := by
  rw [rm_217]
  try simp only [gd_tt, k_156]
set_option maxRecDepth 20000 in
theorem rh_217_42 {d x : Nat} {R : sm_R} {G : sm_G} {L : sm_L} : hD d 217 42 [.ref 156, .null] 342 R x G L =
  if (G 156 5) = (i3 0) then
    (if (G 156 4) < (G 156 2) then
      (sm_aV (sm_cv0 d 223 342 R [.ref 156] (x, G, L)) (fun x1 G1 L1 =>
        sm_aV (sm_cv0 d 221 342 R [.ref 156] (x1, G1, L1)) (fun x2 G2 L2 =>
          hD d 217 42 [.ref 156, .null] 342 R x2 G2 L2) oX) oX)
    else (hD d 217 71 [.ref 156, .null] 342 R x G L))
  else (hD d 217 71 [.ref 156, .null] 342 R x G L) := hD_eq.trans rfl
set_option maxRecDepth 20000 in
theorem h_217_42 {d x : Nat} {V : pV} {G : sm_G} {L : sm_L} : hD d 217 42 [.ref 156, .null] 342 (RR V) x G L =
  if (G 156 5) = (i3 0) then
    (if (G 156 4) < (G 156 2) then
      (sm_aV (sm_cv0 d 223 342 (RR V) [.ref 156] (x, G, L)) (fun x1 G1 L1 =>
        sm_aV (sm_cv0 d 221 342 (RR V) [.ref 156] (x1, G1, L1)) (fun x2 G2 L2 =>
          hD d 217 42 [.ref 156, .null] 342 (RR V) x2 G2 L2) oX) oX)
    else (hD d 217 71 [.ref 156, .null] 342 (RR V) x G L))
  else (hD d 217 71 [.ref 156, .null] 342 (RR V) x G L) := by
  rw [rh_217_42]
  try simp only [gd_tt, k_156]
set_option maxRecDepth 20000 in
theorem rh_217_71 {d x : Nat} {R : sm_R} {G : sm_G} {L : sm_L} : hD d 217 71 [.ref 156, .null] 342 R x G L =
  if ((sm_up G 156 3 (G 156 6)) 156 5) = (i3 0) then
    (sm_aV (sm_cv0 d 213 342 R [.ref 156] (x, sm_up G 156 3 (G 156 6), L)) (fun x1 G1 L1 =>
      ldi (R 156 12) (i3 0) G1 (fun y2 => oI y2 x1 G1 L1)) oX)
  else (oI (((sm_up G 156 3 (G 156 6)) 156 5) - (i3 10)) x (sm_up G 156 3 (G 156 6)) L) := hD_eq.trans rfl
set_option maxRecDepth 20000 in
theorem h_217_71 {d x : Nat} {V : pV} {G : sm_G} {L : sm_L} : hD d 217 71 [.ref 156, .null] 342 (RR V) x G L =
  if ((sm_up G 156 3 (G 156 6)) 156 5) = (i3 0) then
    (sm_aV (sm_cv0 d 213 342 (RR V) [.ref 156] (x, sm_up G 156 3 (G 156 6), L)) (fun x1 G1 L1 =>
      oI (G1 160 0) x1 G1 L1) oX)
  else (oI (((sm_up G 156 3 (G 156 6)) 156 5) - (i3 10)) x (sm_up G 156 3 (G 156 6)) L) := by
  rw [rh_217_71]
  try simp only [gd_tt, (q_156_12 V), cl_0, inl_0_6, k_156, ldi_e k_160 n_160, n_160]
/-! M_in -/
set_option maxRecDepth 20000 in
theorem rm_218 {d x : Nat} {R : sm_R} {G : sm_G} {L : sm_L} {v0 v1 v2 : Int32} : sm_cv0 (d + 1) 218 342 R [.int v0, .int v1, .int v2] (x, G, L) =
  if v0 < v1 then
    (oI (i3 0) x G L)
  else (if v0 ≤ v2 then
      (oI (i3 1) x G L)
    else (oI (i3 0) x G L)) := (cv_eq rfl rfl).trans (hD_eq.trans rfl)
theorem m_218 {d x : Nat} {V : pV} {G : sm_G} {L : sm_L} {v0 v1 v2 : Int32} : sm_cv0 (d + 1) 218 342 (RR V) [.int v0, .int v1, .int v2] (x, G, L) =
  if v0 < v1 then
    (oI (i3 0) x G L)
  else (if v0 ≤ v2 then
      (oI (i3 1) x G L)
    else (oI (i3 0) x G L)) := rm_218
/-! M_bad -/
set_option maxRecDepth 20000 in
theorem rm_219 {d x : Nat} {R : sm_R} {G : sm_G} {L : sm_L} {v1 v2 v3 : Int32} : sm_cv0 (d + 1) 219 342 R [.ref 156, .int v1, .int v2, .int v3] (x, G, L) =
  if v1 = (i3 0) then
    (hD d 219 26 [.ref 156, .null, .null, .null] 342 R x G L)
  else (if (G 156 0) = (i3 0) then
      (ldi (R 156 10) v3 (sm_up G 156 0 v2) (fun y1 => gd (sm_is (R 156 10) 342 20) (gd (sm_in v3 (sm_N (R 156 10))) (hD d 219 26 [.ref 156, .null, .null, .null] 342 R x (sm_up (sm_up G 156 0 v2) (R 156 10) v3.toNatClampNeg (y1 + (i3 1))) L))))
    else (hD d 219 26 [.ref 156, .null, .null, .null] 342 R x G L)) := (cv_eq rfl rfl).trans (hD_eq.trans rfl)
set_option maxRecDepth 20000 in
theorem m_219 {d x : Nat} {V : pV} {G : sm_G} {L : sm_L} {v1 v2 v3 : Int32} : sm_cv0 (d + 1) 219 342 (RR V) [.ref 156, .int v1, .int v2, .int v3] (x, G, L) =
  if v1 = (i3 0) then
    (hD d 219 26 [.ref 156, .null, .null, .null] 342 (RR V) x G L)
  else (if (G 156 0) = (i3 0) then
      (gd (sm_in v3 4) (gd (sm_in v3 4) (hD d 219 26 [.ref 156, .null, .null, .null] 342 (RR V) x (sm_up (sm_up G 156 0 v2) 158 v3.toNatClampNeg (((sm_up G 156 0 v2) 158 v3.toNatClampNeg) + (i3 1))) L)))
    else (hD d 219 26 [.ref 156, .null, .null, .null] 342 (RR V) x G L)) := by
  rw [rm_219]
  try simp only [gd_tt, (q_156_10 V), k_156, k_158, ldi_e k_158 n_158, n_158]
set_option maxRecDepth 20000 in
theorem rh_219_26 {d x : Nat} {R : sm_R} {G : sm_G} {L : sm_L} : hD d 219 26 [.ref 156, .null, .null, .null] 342 R x G L =
  if (G 156 0) = (i3 0) then
    (oI (i3 0) x G L)
  else (oI (i3 1) x G L) := hD_eq.trans rfl
set_option maxRecDepth 20000 in
theorem h_219_26 {d x : Nat} {V : pV} {G : sm_G} {L : sm_L} : hD d 219 26 [.ref 156, .null, .null, .null] 342 (RR V) x G L =
  if (G 156 0) = (i3 0) then
    (oI (i3 0) x G L)
  else (oI (i3 1) x G L) := by
  rw [rh_219_26]
  try simp only [gd_tt, k_156]
/-! M_starts -/
set_option maxRecDepth 20000 in
theorem rm_220 {d x : Nat} {R : sm_R} {G : sm_G} {L : sm_L} {v1 : Int32} : sm_cv0 (d + 1) 220 342 R [.ref 156, .int v1] (x, G, L) =
  sm_aV (sm_cv0 d 221 342 R [.ref 156] (x, sm_up (sm_up (sm_up (sm_up (sm_up (sm_up (sm_up G 156 1 (i3 0)) 156 2 v1) 156 4 (i3 0)) 156 5 (i3 0)) 156 6 m1) 156 7 (i3 0)) 156 8 (i3 0), L)) (fun x1 G1 L1 =>
    oV x1 G1 L1) oX := (cv_eq rfl rfl).trans (hD_eq.trans rfl)
set_option maxRecDepth 20000 in
theorem m_220 {d x : Nat} {V : pV} {G : sm_G} {L : sm_L} {v1 : Int32} : sm_cv0 (d + 1) 220 342 (RR V) [.ref 156, .int v1] (x, G, L) =
  sm_aV (sm_cv0 d 221 342 (RR V) [.ref 156] (x, sm_up (sm_up (sm_up (sm_up (sm_up (sm_up (sm_up G 156 1 (i3 0)) 156 2 v1) 156 4 (i3 0)) 156 5 (i3 0)) 156 6 m1) 156 7 (i3 0)) 156 8 (i3 0), L)) (fun x1 G1 L1 =>
    oV x1 G1 L1) oX := by
  rw [rm_220]
  try simp only [gd_tt, k_156]
/-! M_blanks -/
theorem m_221 {d x : Nat} {V : pV} {G : sm_G} {L : sm_L} : sm_cv0 (d + 1) 221 342 (RR V) [.ref 156] (x, G, L) = hD d 221 0 [.ref 156] 342 (RR V) x G L := cv_eq rfl rfl
set_option maxRecDepth 20000 in
theorem rh_221_0 {d x : Nat} {R : sm_R} {G : sm_G} {L : sm_L} : hD d 221 0 [.ref 156] 342 R x G L =
  sm_aI (sm_cv0 d 222 342 R [.ref 156, .int (G 156 4)] (x, G, L)) (fun a1 x1 G1 L1 =>
    if a1 = (i3 32) then
      (hD d 221 0 [.ref 156] 342 R x1 (sm_up G1 156 4 ((G1 156 4) + (i3 1))) L1)
    else (oV x1 G1 L1)) oX := hD_eq.trans rfl
set_option maxRecDepth 20000 in
theorem h_221_0 {d x : Nat} {V : pV} {G : sm_G} {L : sm_L} : hD d 221 0 [.ref 156] 342 (RR V) x G L =
  sm_aI (sm_cv0 d 222 342 (RR V) [.ref 156, .int (G 156 4)] (x, G, L)) (fun a1 x1 G1 L1 =>
    if a1 = (i3 32) then
      (hD d 221 0 [.ref 156] 342 (RR V) x1 (sm_up G1 156 4 ((G1 156 4) + (i3 1))) L1)
    else (oV x1 G1 L1)) oX := by
  rw [rh_221_0]
  try simp only [gd_tt, k_156]
/-! M_byteAt -/
set_option maxRecDepth 20000 in
theorem rm_222 {d x : Nat} {R : sm_R} {G : sm_G} {L : sm_L} {v1 : Int32} : sm_cv0 (d + 1) 222 342 R [.ref 156, .int v1] (x, G, L) =
  if v1 < (G 156 2) then
    (ldi (R 156 9) v1 G (fun y1 => oI y1 x G L))
  else (oI m1 x G L) := (cv_eq rfl rfl).trans (hD_eq.trans rfl)
set_option maxRecDepth 20000 in
theorem m_222 {d x : Nat} {V : pV} {G : sm_G} {L : sm_L} {v1 : Int32} : sm_cv0 (d + 1) 222 342 (RR V) [.ref 156, .int v1] (x, G, L) =
  if v1 < (G 156 2) then
    (gd (sm_in v1 600) (oI (G 157 v1.toNatClampNeg) x G L))
  else (oI m1 x G L) := by
  rw [rm_222]
  try simp only [gd_tt, (q_156_9 V), k_156, ldi_e k_157 n_157, n_157]
/-! M_clause -/
set_option maxRecDepth 20000 in
theorem rm_223 {d x : Nat} {R : sm_R} {G : sm_G} {L : sm_L} : sm_cv0 (d + 1) 223 342 R [.ref 156] (x, G, L) =
  sm_aI (sm_cv0 d 224 342 R [.ref 156] (x, G, L)) (fun a1 x1 G1 L1 =>
    if a1 = m1 then
      (sm_aV (sm_cv0 d 229 342 R [.ref 156, .int (i3 1), .int (G1 156 4)] (x1, G1, L1)) (fun x2 G2 L2 =>
        hD d 223 48 [.ref 156, .int a1, .null, .null] 342 R x2 G2 L2) oX)
    else (if (G1 156 7) = (i3 60) then
        (sm_aV (sm_cv0 d 229 342 R [.ref 156, .int (i3 3), .int (G1 156 4)] (x1, G1, L1)) (fun x3 G3 L3 =>
          hD d 223 48 [.ref 156, .int a1, .null, .null] 342 R x3 G3 L3) oX)
      else (sm_aI (sm_cv0 d 230 342 R [.ref 156, .int a1] (x1, G1, L1)) (fun a4 x4 G4 L4 =>
          if a4 = (i3 0) then
            (hD d 223 48 [.ref 156, .int a1, .null, .null] 342 R x4 G4 L4)
          else (sm_aV (sm_cv0 d 229 342 R [.ref 156, .int (i3 3), .int (G4 156 4)] (x4, G4, L4)) (fun x5 G5 L5 =>
              hD d 223 48 [.ref 156, .int a1, .null, .null] 342 R x5 G5 L5) oX)) oX))) oX := (cv_eq rfl rfl).trans (hD_eq.trans rfl)
set_option maxRecDepth 20000 in
theorem m_223 {d x : Nat} {V : pV} {G : sm_G} {L : sm_L} : sm_cv0 (d + 1) 223 342 (RR V) [.ref 156] (x, G, L) =
  sm_aI (sm_cv0 d 224 342 (RR V) [.ref 156] (x, G, L)) (fun a1 x1 G1 L1 =>
    if a1 = m1 then
      (sm_aV (sm_cv0 d 229 342 (RR V) [.ref 156, .int (i3 1), .int (G1 156 4)] (x1, G1, L1)) (fun x2 G2 L2 =>
        hD d 223 48 [.ref 156, .int a1, .null, .null] 342 (RR V) x2 G2 L2) oX)
    else (if (G1 156 7) = (i3 60) then
        (sm_aV (sm_cv0 d 229 342 (RR V) [.ref 156, .int (i3 3), .int (G1 156 4)] (x1, G1, L1)) (fun x3 G3 L3 =>
          hD d 223 48 [.ref 156, .int a1, .null, .null] 342 (RR V) x3 G3 L3) oX)
      else (sm_aI (sm_cv0 d 230 342 (RR V) [.ref 156, .int a1] (x1, G1, L1)) (fun a4 x4 G4 L4 =>
          if a4 = (i3 0) then
            (hD d 223 48 [.ref 156, .int a1, .null, .null] 342 (RR V) x4 G4 L4)
          else (sm_aV (sm_cv0 d 229 342 (RR V) [.ref 156, .int (i3 3), .int (G4 156 4)] (x4, G4, L4)) (fun x5 G5 L5 =>
              hD d 223 48 [.ref 156, .int a1, .null, .null] 342 (RR V) x5 G5 L5) oX)) oX))) oX := by
  rw [rm_223]
  try simp only [gd_tt, k_156]
set_option maxRecDepth 20000 in
theorem rh_223_48 {d x : Nat} {R : sm_R} {G : sm_G} {L : sm_L} {v1 : Int32} : hD d 223 48 [.ref 156, .int v1, .null, .null] 342 R x G L =
  if (G 156 5) = (i3 0) then
    (sm_aV (sm_cv0 d 231 342 R [.ref 156] (x, G, L)) (fun x1 G1 L1 =>
      if v1 = (i3 0) then
        (ldi (R 156 11) (i3 0) (sm_up G1 156 7 ((G1 156 7) + (i3 1))) (fun y2 => gd (Nat.ble 24 (sm_K (R 156 17)) && Nat.ble (sm_K (R 156 17)) 27 && Nat.ble (R 156 17) 342) (gd (sm_in y2 (sm_N (R 156 17))) (sm_aI (sm_cv0 d 232 342 R [.ref 156, .int (i3 0), .int (i3 300)] (x1, sm_up G1 156 7 ((G1 156 7) + (i3 1)), L1)) (fun a3 x3 G3 L3 =>
          gd (sm_is (R (R 156 17) y2.toNatClampNeg) 342 20) (gd (sm_in (i3 0) (sm_N (R (R 156 17) y2.toNatClampNeg))) (ldi (R (R 156 17) y2.toNatClampNeg) (i3 0) (sm_up G3 (R (R 156 17) y2.toNatClampNeg) 0 a3) (fun y4 => sm_aI (sm_cv0 d 232 342 R [.ref 156, .int y4, .int (i3 300)] (x3, sm_up G3 (R (R 156 17) y2.toNatClampNeg) 0 a3, L3)) (fun a5 x5 G5 L5 =>
            gd (sm_is (R (R 156 17) y2.toNatClampNeg) 342 20) (gd (sm_in (i3 1) (sm_N (R (R 156 17) y2.toNatClampNeg))) (sm_aI (sm_cv0 d 232 342 R [.ref 156, .int (i3 0), .int (i3 15)] (x5, sm_up G5 (R (R 156 17) y2.toNatClampNeg) 1 a5, L5)) (fun a6 x6 G6 L6 =>
              gd (sm_is (R (R 156 17) y2.toNatClampNeg) 342 20) (gd (sm_in (i3 2) (sm_N (R (R 156 17) y2.toNatClampNeg))) (ldi (R 156 11) (i3 0) (sm_up G6 (R (R 156 17) y2.toNatClampNeg) 2 a6) (fun y7 => gd (sm_is (R 156 13) 342 20) (gd (sm_in y7 (sm_N (R 156 13))) (hD d 223 379 [.ref 156, .int v1, .null, .null] 342 R x6 (sm_up (sm_up G6 (R (R 156 17) y2.toNatClampNeg) 2 a6) (R 156 13) y7.toNatClampNeg m1) L6)))))) oX))) oX)))) oX))))
      else if v1 = (i3 1) then
        (ldi (R 156 11) (i3 1) (sm_up G1 156 7 ((G1 156 7) + (i3 1))) (fun y8 => gd (Nat.ble 24 (sm_K (R 156 19)) && Nat.ble (sm_K (R 156 19)) 27 && Nat.ble (R 156 19) 342) (gd (sm_in y8 (sm_N (R 156 19))) (sm_aI (sm_cv0 d 234 342 R [.ref 156, .int m1] (x1, sm_up G1 156 7 ((G1 156 7) + (i3 1)), L1)) (fun a9 x9 G9 L9 =>
          gd (sm_is (R (R 156 19) y8.toNatClampNeg) 342 20) (gd (sm_in (i3 0) (sm_N (R (R 156 19) y8.toNatClampNeg))) (ldi (R (R 156 19) y8.toNatClampNeg) (i3 0) (sm_up G9 (R (R 156 19) y8.toNatClampNeg) 0 a9) (fun y10 => sm_aI (sm_cv0 d 234 342 R [.ref 156, .int y10] (x9, sm_up G9 (R (R 156 19) y8.toNatClampNeg) 0 a9, L9)) (fun a11 x11 G11 L11 =>
            gd (sm_is (R (R 156 19) y8.toNatClampNeg) 342 20) (gd (sm_in (i3 1) (sm_N (R (R 156 19) y8.toNatClampNeg))) (sm_aI (sm_cv0 d 232 342 R [.ref 156, .int (i3 0), .int (i3 1)] (x11, sm_up G11 (R (R 156 19) y8.toNatClampNeg) 1 a11, L11)) (fun a12 x12 G12 L12 =>
              gd (sm_is (R (R 156 19) y8.toNatClampNeg) 342 20) (gd (sm_in (i3 2) (sm_N (R (R 156 19) y8.toNatClampNeg))) (hD d 223 379 [.ref 156, .int v1, .null, .null] 342 R x12 (sm_up G12 (R (R 156 19) y8.toNatClampNeg) 2 a12) L12))) oX))) oX)))) oX))))
      else if v1 = (i3 2) then
        (ldi (R 156 11) (i3 2) (sm_up G1 156 7 ((G1 156 7) + (i3 1))) (fun y13 => gd (Nat.ble 24 (sm_K (R 156 21)) && Nat.ble (sm_K (R 156 21)) 27 && Nat.ble (R 156 21) 342) (gd (sm_in y13 (sm_N (R 156 21))) (sm_aI (sm_cv0 d 232 342 R [.ref 156, .int (i3 0), .int (i3 300)] (x1, sm_up G1 156 7 ((G1 156 7) + (i3 1)), L1)) (fun a14 x14 G14 L14 =>
          gd (sm_is (R (R 156 21) y13.toNatClampNeg) 342 20) (gd (sm_in (i3 0) (sm_N (R (R 156 21) y13.toNatClampNeg))) (sm_aI (sm_cv0 d 232 342 R [.ref 156, .int (i3 0), .int (i3 5)] (x14, sm_up G14 (R (R 156 21) y13.toNatClampNeg) 0 a14, L14)) (fun a15 x15 G15 L15 =>
            gd (sm_is (R (R 156 21) y13.toNatClampNeg) 342 20) (gd (sm_in (i3 1) (sm_N (R (R 156 21) y13.toNatClampNeg))) (hD d 223 379 [.ref 156, .int v1, .null, .null] 342 R x15 (sm_up G15 (R (R 156 21) y13.toNatClampNeg) 1 a15) L15))) oX))) oX))))
      else if v1 = (i3 3) then
        (sm_aI (sm_cv0 d 235 342 R [.ref 156, .int m1] (x1, sm_up G1 156 7 ((G1 156 7) + (i3 1)), L1)) (fun a16 x16 G16 L16 =>
          sm_aI (sm_cv0 d 235 342 R [.ref 156, .int a16] (x16, G16, L16)) (fun a17 x17 G17 L17 =>
            if (G17 156 5) = (i3 0) then
              (gd (sm_is (R 156 13) 342 20) (gd (sm_in a16 (sm_N (R 156 13))) (gd (sm_is (R 156 13) 342 20) (gd (sm_in a17 (sm_N (R 156 13))) (hD d 223 379 [.ref 156, .int v1, .null, .null] 342 R x17 (sm_up (sm_up G17 (R 156 13) a16.toNatClampNeg a17) (R 156 13) a17.toNatClampNeg a16) L17)))))
            else (hD d 223 379 [.ref 156, .int v1, .null, .null] 342 R x17 G17 L17)) oX) oX)
      else if v1 = (i3 4) then
        (ldi (R 156 11) (i3 4) (sm_up G1 156 7 ((G1 156 7) + (i3 1))) (fun y18 => gd (Nat.ble 24 (sm_K (R 156 23)) && Nat.ble (sm_K (R 156 23)) 27 && Nat.ble (R 156 23) 342) (gd (sm_in y18 (sm_N (R 156 23))) (sm_aI (sm_cv0 d 234 342 R [.ref 156, .int m1] (x1, sm_up G1 156 7 ((G1 156 7) + (i3 1)), L1)) (fun a19 x19 G19 L19 =>
          gd (sm_is (R (R 156 23) y18.toNatClampNeg) 342 20) (gd (sm_in (i3 0) (sm_N (R (R 156 23) y18.toNatClampNeg))) (sm_aI (sm_cv0 d 232 342 R [.ref 156, .int (i3 0), .int (i3 300)] (x19, sm_up G19 (R (R 156 23) y18.toNatClampNeg) 0 a19, L19)) (fun a20 x20 G20 L20 =>
            gd (sm_is (R (R 156 23) y18.toNatClampNeg) 342 20) (gd (sm_in (i3 1) (sm_N (R (R 156 23) y18.toNatClampNeg))) (hD d 223 379 [.ref 156, .int v1, .null, .null] 342 R x20 (sm_up G20 (R (R 156 23) y18.toNatClampNeg) 1 a20) L20))) oX))) oX))))
      else if v1 = (i3 5) then
        (sm_aI (sm_cv0 d 232 342 R [.ref 156, .int (i3 0), .int (i3 300)] (x1, sm_up G1 156 7 ((G1 156 7) + (i3 1)), L1)) (fun a21 x21 G21 L21 =>
          gd (sm_is (R 156 11) 342 20) (gd (sm_in (i3 5) (sm_N (R 156 11))) (hD d 223 379 [.ref 156, .int v1, .null, .null] 342 R x21 (sm_up G21 (R 156 11) 5 a21) L21))) oX)
      else (sm_aI (sm_cv0 d 232 342 R [.ref 156, .int (i3 0), .int (i3 5)] (x1, sm_up G1 156 7 ((G1 156 7) + (i3 1)), L1)) (fun a22 x22 G22 L22 =>
          ldi (R 156 11) (i3 1) G22 (fun y23 => sm_aI (sm_cv0 d 232 342 R [.ref 156, .int (i3 0), .int (y23 - (i3 1))] (x22, G22, L22)) (fun a24 x24 G24 L24 =>
            if (G24 156 5) = (i3 0) then
              (ldi (R 156 15) a22 G24 (fun y25 => gd (sm_is (R 156 15) 342 20) (gd (sm_in a22 (sm_N (R 156 15))) (hD d 223 379 [.ref 156, .int v1, .null, .null] 342 R x24 (sm_up G24 (R 156 15) a22.toNatClampNeg (y25 ||| (shl (i3 1) a24))) L24))))
            else (hD d 223 379 [.ref 156, .int v1, .null, .null] 342 R x24 G24 L24)) oX)) oX)) oX)
  else (oV x G L) := hD_eq.trans rfl
set_option maxRecDepth 20000 in
theorem h_223_48 {d x : Nat} {V : pV} {G : sm_G} {L : sm_L} {v1 : Int32} : hD d 223 48 [.ref 156, .int v1, .null, .null] 342 (RR V) x G L =
  if (G 156 5) = (i3 0) then
    (sm_aV (sm_cv0 d 231 342 (RR V) [.ref 156] (x, G, L)) (fun x1 G1 L1 =>
      if v1 = (i3 0) then
        (gd (sm_in ((sm_up G1 156 7 ((G1 156 7) + (i3 1))) 159 0) 8) (sm_aI (sm_cv0 d 232 342 (RR V) [.ref 156, .int (i3 0), .int (i3 300)] (x1, sm_up G1 156 7 ((G1 156 7) + (i3 1)), L1)) (fun a3 x3 G3 L3 =>
          gd (sm_is (RR V 165 ((sm_up G1 156 7 ((G1 156 7) + (i3 1))) 159 0).toNatClampNeg) 342 20) (gd (sm_in (i3 0) (sm_N (RR V 165 ((sm_up G1 156 7 ((G1 156 7) + (i3 1))) 159 0).toNatClampNeg))) (ldi (RR V 165 ((sm_up G1 156 7 ((G1 156 7) + (i3 1))) 159 0).toNatClampNeg) (i3 0) (sm_up G3 (RR V 165 ((sm_up G1 156 7 ((G1 156 7) + (i3 1))) 159 0).toNatClampNeg) 0 a3) (fun y4 => sm_aI (sm_cv0 d 232 342 (RR V) [.ref 156, .int y4, .int (i3 300)] (x3, sm_up G3 (RR V 165 ((sm_up G1 156 7 ((G1 156 7) + (i3 1))) 159 0).toNatClampNeg) 0 a3, L3)) (fun a5 x5 G5 L5 =>
            gd (sm_is (RR V 165 ((sm_up G1 156 7 ((G1 156 7) + (i3 1))) 159 0).toNatClampNeg) 342 20) (gd (sm_in (i3 1) (sm_N (RR V 165 ((sm_up G1 156 7 ((G1 156 7) + (i3 1))) 159 0).toNatClampNeg))) (sm_aI (sm_cv0 d 232 342 (RR V) [.ref 156, .int (i3 0), .int (i3 15)] (x5, sm_up G5 (RR V 165 ((sm_up G1 156 7 ((G1 156 7) + (i3 1))) 159 0).toNatClampNeg) 1 a5, L5)) (fun a6 x6 G6 L6 =>
              gd (sm_is (RR V 165 ((sm_up G1 156 7 ((G1 156 7) + (i3 1))) 159 0).toNatClampNeg) 342 20) (gd (sm_in (i3 2) (sm_N (RR V 165 ((sm_up G1 156 7 ((G1 156 7) + (i3 1))) 159 0).toNatClampNeg))) (gd (sm_in ((sm_up G6 (RR V 165 ((sm_up G1 156 7 ((G1 156 7) + (i3 1))) 159 0).toNatClampNeg) 2 a6) 159 0) 8) (hD d 223 379 [.ref 156, .int v1, .null, .null] 342 (RR V) x6 (sm_up (sm_up G6 (RR V 165 ((sm_up G1 156 7 ((G1 156 7) + (i3 1))) 159 0).toNatClampNeg) 2 a6) 161 (((sm_up G6 (RR V 165 ((sm_up G1 156 7 ((G1 156 7) + (i3 1))) 159 0).toNatClampNeg) 2 a6) 159 0).toNatClampNeg) m1) L6)))) oX))) oX)))) oX))
      else if v1 = (i3 1) then
        (gd (sm_in ((sm_up G1 156 7 ((G1 156 7) + (i3 1))) 159 1) 10) (sm_aI (sm_cv0 d 234 342 (RR V) [.ref 156, .int m1] (x1, sm_up G1 156 7 ((G1 156 7) + (i3 1)), L1)) (fun a9 x9 G9 L9 =>
          gd (sm_is (RR V 183 ((sm_up G1 156 7 ((G1 156 7) + (i3 1))) 159 1).toNatClampNeg) 342 20) (gd (sm_in (i3 0) (sm_N (RR V 183 ((sm_up G1 156 7 ((G1 156 7) + (i3 1))) 159 1).toNatClampNeg))) (ldi (RR V 183 ((sm_up G1 156 7 ((G1 156 7) + (i3 1))) 159 1).toNatClampNeg) (i3 0) (sm_up G9 (RR V 183 ((sm_up G1 156 7 ((G1 156 7) + (i3 1))) 159 1).toNatClampNeg) 0 a9) (fun y10 => sm_aI (sm_cv0 d 234 342 (RR V) [.ref 156, .int y10] (x9, sm_up G9 (RR V 183 ((sm_up G1 156 7 ((G1 156 7) + (i3 1))) 159 1).toNatClampNeg) 0 a9, L9)) (fun a11 x11 G11 L11 =>
            gd (sm_is (RR V 183 ((sm_up G1 156 7 ((G1 156 7) + (i3 1))) 159 1).toNatClampNeg) 342 20) (gd (sm_in (i3 1) (sm_N (RR V 183 ((sm_up G1 156 7 ((G1 156 7) + (i3 1))) 159 1).toNatClampNeg))) (sm_aI (sm_cv0 d 232 342 (RR V) [.ref 156, .int (i3 0), .int (i3 1)] (x11, sm_up G11 (RR V 183 ((sm_up G1 156 7 ((G1 156 7) + (i3 1))) 159 1).toNatClampNeg) 1 a11, L11)) (fun a12 x12 G12 L12 =>
              gd (sm_is (RR V 183 ((sm_up G1 156 7 ((G1 156 7) + (i3 1))) 159 1).toNatClampNeg) 342 20) (gd (sm_in (i3 2) (sm_N (RR V 183 ((sm_up G1 156 7 ((G1 156 7) + (i3 1))) 159 1).toNatClampNeg))) (hD d 223 379 [.ref 156, .int v1, .null, .null] 342 (RR V) x12 (sm_up G12 (RR V 183 ((sm_up G1 156 7 ((G1 156 7) + (i3 1))) 159 1).toNatClampNeg) 2 a12) L12))) oX))) oX)))) oX))
      else if v1 = (i3 2) then
        (gd (sm_in ((sm_up G1 156 7 ((G1 156 7) + (i3 1))) 159 2) 12) (sm_aI (sm_cv0 d 232 342 (RR V) [.ref 156, .int (i3 0), .int (i3 300)] (x1, sm_up G1 156 7 ((G1 156 7) + (i3 1)), L1)) (fun a14 x14 G14 L14 =>
          gd (sm_is (RR V 205 ((sm_up G1 156 7 ((G1 156 7) + (i3 1))) 159 2).toNatClampNeg) 342 20) (gd (sm_in (i3 0) (sm_N (RR V 205 ((sm_up G1 156 7 ((G1 156 7) + (i3 1))) 159 2).toNatClampNeg))) (sm_aI (sm_cv0 d 232 342 (RR V) [.ref 156, .int (i3 0), .int (i3 5)] (x14, sm_up G14 (RR V 205 ((sm_up G1 156 7 ((G1 156 7) + (i3 1))) 159 2).toNatClampNeg) 0 a14, L14)) (fun a15 x15 G15 L15 =>
            gd (sm_is (RR V 205 ((sm_up G1 156 7 ((G1 156 7) + (i3 1))) 159 2).toNatClampNeg) 342 20) (gd (sm_in (i3 1) (sm_N (RR V 205 ((sm_up G1 156 7 ((G1 156 7) + (i3 1))) 159 2).toNatClampNeg))) (hD d 223 379 [.ref 156, .int v1, .null, .null] 342 (RR V) x15 (sm_up G15 (RR V 205 ((sm_up G1 156 7 ((G1 156 7) + (i3 1))) 159 2).toNatClampNeg) 1 a15) L15))) oX))) oX))
      else if v1 = (i3 3) then
        (sm_aI (sm_cv0 d 235 342 (RR V) [.ref 156, .int m1] (x1, sm_up G1 156 7 ((G1 156 7) + (i3 1)), L1)) (fun a16 x16 G16 L16 =>
          sm_aI (sm_cv0 d 235 342 (RR V) [.ref 156, .int a16] (x16, G16, L16)) (fun a17 x17 G17 L17 =>
            if (G17 156 5) = (i3 0) then
              (gd (sm_in a16 8) (gd (sm_in a17 8) (hD d 223 379 [.ref 156, .int v1, .null, .null] 342 (RR V) x17 (sm_up (sm_up G17 161 a16.toNatClampNeg a17) 161 a17.toNatClampNeg a16) L17)))
            else (hD d 223 379 [.ref 156, .int v1, .null, .null] 342 (RR V) x17 G17 L17)) oX) oX)
      else if v1 = (i3 4) then
        (gd (sm_in ((sm_up G1 156 7 ((G1 156 7) + (i3 1))) 159 4) 4) (sm_aI (sm_cv0 d 234 342 (RR V) [.ref 156, .int m1] (x1, sm_up G1 156 7 ((G1 156 7) + (i3 1)), L1)) (fun a19 x19 G19 L19 =>
          gd (sm_is (RR V 231 ((sm_up G1 156 7 ((G1 156 7) + (i3 1))) 159 4).toNatClampNeg) 342 20) (gd (sm_in (i3 0) (sm_N (RR V 231 ((sm_up G1 156 7 ((G1 156 7) + (i3 1))) 159 4).toNatClampNeg))) (sm_aI (sm_cv0 d 232 342 (RR V) [.ref 156, .int (i3 0), .int (i3 300)] (x19, sm_up G19 (RR V 231 ((sm_up G1 156 7 ((G1 156 7) + (i3 1))) 159 4).toNatClampNeg) 0 a19, L19)) (fun a20 x20 G20 L20 =>
            gd (sm_is (RR V 231 ((sm_up G1 156 7 ((G1 156 7) + (i3 1))) 159 4).toNatClampNeg) 342 20) (gd (sm_in (i3 1) (sm_N (RR V 231 ((sm_up G1 156 7 ((G1 156 7) + (i3 1))) 159 4).toNatClampNeg))) (hD d 223 379 [.ref 156, .int v1, .null, .null] 342 (RR V) x20 (sm_up G20 (RR V 231 ((sm_up G1 156 7 ((G1 156 7) + (i3 1))) 159 4).toNatClampNeg) 1 a20) L20))) oX))) oX))
      else if v1 = (i3 5) then
        (sm_aI (sm_cv0 d 232 342 (RR V) [.ref 156, .int (i3 0), .int (i3 300)] (x1, sm_up G1 156 7 ((G1 156 7) + (i3 1)), L1)) (fun a21 x21 G21 L21 =>
          hD d 223 379 [.ref 156, .int v1, .null, .null] 342 (RR V) x21 (sm_up G21 159 5 a21) L21) oX)
      else (sm_aI (sm_cv0 d 232 342 (RR V) [.ref 156, .int (i3 0), .int (i3 5)] (x1, sm_up G1 156 7 ((G1 156 7) + (i3 1)), L1)) (fun a22 x22 G22 L22 =>
          sm_aI (sm_cv0 d 232 342 (RR V) [.ref 156, .int (i3 0), .int ((G22 159 1) - (i3 1))] (x22, G22, L22)) (fun a24 x24 G24 L24 =>
            if (G24 156 5) = (i3 0) then
              (gd (sm_in a22 6) (gd (sm_in a22 6) (hD d 223 379 [.ref 156, .int v1, .null, .null] 342 (RR V) x24 (sm_up G24 163 a22.toNatClampNeg ((G24 163 a22.toNatClampNeg) ||| (shl (i3 1) a24))) L24)))
            else (hD d 223 379 [.ref 156, .int v1, .null, .null] 342 (RR V) x24 G24 L24)) oX) oX)) oX)
  else (oV x G L) := by
  rw [rh_223_48]
  try simp only [gd_tt, (q_156_11 V), (q_156_13 V), (q_156_15 V), (q_156_17 V), (q_156_19 V), (q_156_21 V), (q_156_23 V), a_165, a_183, a_205, a_231, cl_0, cl_1, cl_2, cl_4, inl_0_6, inl_1_6, inl_2_6, inl_4_6, inl_5_6, k_156, k_159, k_161, k_163, ldi_e k_159 n_159, ldi_e k_163 n_163, n_159, n_161, n_163, n_165, n_183, n_205, n_231]
set_option maxRecDepth 20000 in
theorem rh_223_379 {d x : Nat} {R : sm_R} {G : sm_G} {L : sm_L} {v1 : Int32} : hD d 223 379 [.ref 156, .int v1, .null, .null] 342 R x G L =
  if v1 < (i3 5) then
    (ldi (R 156 11) v1 G (fun y1 => if (G 156 5) = (i3 0) then
      (gd (sm_is (R 156 11) 342 20) (gd (sm_in v1 (sm_N (R 156 11))) (sm_aV (sm_cv0 d 236 342 R [.ref 156, .int (i3 59)] (x, sm_up G (R 156 11) v1.toNatClampNeg (y1 + (i3 1)), L)) (fun x2 G2 L2 =>
        oV x2 G2 L2) oX)))
    else (gd (sm_is (R 156 11) 342 20) (gd (sm_in v1 (sm_N (R 156 11))) (sm_aV (sm_cv0 d 236 342 R [.ref 156, .int (i3 59)] (x, sm_up G (R 156 11) v1.toNatClampNeg (y1 + (i3 0)), L)) (fun x3 G3 L3 =>
        oV x3 G3 L3) oX)))))
  else (sm_aV (sm_cv0 d 236 342 R [.ref 156, .int (i3 59)] (x, G, L)) (fun x4 G4 L4 =>
      oV x4 G4 L4) oX) := hD_eq.trans rfl
set_option maxRecDepth 20000 in
theorem h_223_379 {d x : Nat} {V : pV} {G : sm_G} {L : sm_L} {v1 : Int32} : hD d 223 379 [.ref 156, .int v1, .null, .null] 342 (RR V) x G L =
  if v1 < (i3 5) then
    (gd (sm_in v1 6) (if (G 156 5) = (i3 0) then
      (gd (sm_in v1 6) (sm_aV (sm_cv0 d 236 342 (RR V) [.ref 156, .int (i3 59)] (x, sm_up G 159 v1.toNatClampNeg ((G 159 v1.toNatClampNeg) + (i3 1)), L)) (fun x2 G2 L2 =>
        oV x2 G2 L2) oX))
    else (gd (sm_in v1 6) (sm_aV (sm_cv0 d 236 342 (RR V) [.ref 156, .int (i3 59)] (x, sm_up G 159 v1.toNatClampNeg ((G 159 v1.toNatClampNeg) + (i3 0)), L)) (fun x3 G3 L3 =>
        oV x3 G3 L3) oX))))
  else (sm_aV (sm_cv0 d 236 342 (RR V) [.ref 156, .int (i3 59)] (x, G, L)) (fun x4 G4 L4 =>
      oV x4 G4 L4) oX) := by
  rw [rh_223_379]
  try simp only [gd_tt, (q_156_11 V), k_156, k_159, ldi_e k_159 n_159, n_159]
/-! M_kindHere -/
set_option maxRecDepth 20000 in
theorem rm_224 {d x : Nat} {R : sm_R} {G : sm_G} {L : sm_L} : sm_cv0 (d + 1) 224 342 R [.ref 156] (x, G, L) =
  sm_aI (sm_cv0 d 225 342 R [.ref 156, .int (i3 19), .int (i3 12), .int (i3 5), .int (i3 5), .int (i3 16), .int (i3 5), .int (i3 18)] (x, G, L)) (fun a1 x1 G1 L1 =>
    if a1 = (i3 0) then
      (sm_aI (sm_cv0 d 225 342 R [.ref 156, .int (i3 4), .int (i3 15), .int (i3 15), .int (i3 18), .int (i3 0), .int (i3 0), .int (i3 0)] (x1, G1, L1)) (fun a2 x2 G2 L2 =>
        if a2 = (i3 0) then
          (sm_aI (sm_cv0 d 225 342 R [.ref 156, .int (i3 14), .int (i3 15), .int (i3 9), .int (i3 19), .int (i3 5), .int (i3 0), .int (i3 0)] (x2, G2, L2)) (fun a3 x3 G3 L3 =>
            if a3 = (i3 0) then
              (sm_aI (sm_cv0 d 225 342 R [.ref 156, .int (i3 20), .int (i3 23), .int (i3 9), .int (i3 14), .int (i3 0), .int (i3 0), .int (i3 0)] (x3, G3, L3)) (fun a4 x4 G4 L4 =>
                if a4 = (i3 0) then
                  (sm_aI (sm_cv0 d 225 342 R [.ref 156, .int (i3 4), .int (i3 18), .int (i3 5), .int (i3 1), .int (i3 13), .int (i3 5), .int (i3 18)] (x4, G4, L4)) (fun a5 x5 G5 L5 =>
                    if a5 = (i3 0) then
                      (sm_aI (sm_cv0 d 225 342 R [.ref 156, .int (i3 13), .int (i3 9), .int (i3 12), .int (i3 11), .int (i3 0), .int (i3 0), .int (i3 0)] (x5, G5, L5)) (fun a6 x6 G6 L6 =>
                        if a6 = (i3 0) then
                          (sm_aI (sm_cv0 d 225 342 R [.ref 156, .int (i3 20), .int (i3 21), .int (i3 18), .int (i3 14), .int (i3 19), .int (i3 0), .int (i3 0)] (x6, G6, L6)) (fun a7 x7 G7 L7 =>
                            if a7 = (i3 0) then
                              (oI m1 x7 G7 L7)
                            else (oI (i3 6) x7 G7 L7)) oX)
                        else (oI (i3 5) x6 G6 L6)) oX)
                    else (oI (i3 4) x5 G5 L5)) oX)
                else (oI (i3 3) x4 G4 L4)) oX)
            else (oI (i3 2) x3 G3 L3)) oX)
        else (oI (i3 1) x2 G2 L2)) oX)
    else (oI (i3 0) x1 G1 L1)) oX := (cv_eq rfl rfl).trans (hD_eq.trans rfl)
set_option maxRecDepth 20000 in
theorem m_224 {d x : Nat} {V : pV} {G : sm_G} {L : sm_L} : sm_cv0 (d + 1) 224 342 (RR V) [.ref 156] (x, G, L) =
  sm_aI (sm_cv0 d 225 342 (RR V) [.ref 156, .int (i3 19), .int (i3 12), .int (i3 5), .int (i3 5), .int (i3 16), .int (i3 5), .int (i3 18)] (x, G, L)) (fun a1 x1 G1 L1 =>
    if a1 = (i3 0) then
      (sm_aI (sm_cv0 d 225 342 (RR V) [.ref 156, .int (i3 4), .int (i3 15), .int (i3 15), .int (i3 18), .int (i3 0), .int (i3 0), .int (i3 0)] (x1, G1, L1)) (fun a2 x2 G2 L2 =>
        if a2 = (i3 0) then
          (sm_aI (sm_cv0 d 225 342 (RR V) [.ref 156, .int (i3 14), .int (i3 15), .int (i3 9), .int (i3 19), .int (i3 5), .int (i3 0), .int (i3 0)] (x2, G2, L2)) (fun a3 x3 G3 L3 =>
            if a3 = (i3 0) then
              (sm_aI (sm_cv0 d 225 342 (RR V) [.ref 156, .int (i3 20), .int (i3 23), .int (i3 9), .int (i3 14), .int (i3 0), .int (i3 0), .int (i3 0)] (x3, G3, L3)) (fun a4 x4 G4 L4 =>
                if a4 = (i3 0) then
                  (sm_aI (sm_cv0 d 225 342 (RR V) [.ref 156, .int (i3 4), .int (i3 18), .int (i3 5), .int (i3 1), .int (i3 13), .int (i3 5), .int (i3 18)] (x4, G4, L4)) (fun a5 x5 G5 L5 =>
                    if a5 = (i3 0) then
                      (sm_aI (sm_cv0 d 225 342 (RR V) [.ref 156, .int (i3 13), .int (i3 9), .int (i3 12), .int (i3 11), .int (i3 0), .int (i3 0), .int (i3 0)] (x5, G5, L5)) (fun a6 x6 G6 L6 =>
                        if a6 = (i3 0) then
                          (sm_aI (sm_cv0 d 225 342 (RR V) [.ref 156, .int (i3 20), .int (i3 21), .int (i3 18), .int (i3 14), .int (i3 19), .int (i3 0), .int (i3 0)] (x6, G6, L6)) (fun a7 x7 G7 L7 =>
                            if a7 = (i3 0) then
                              (oI m1 x7 G7 L7)
                            else (oI (i3 6) x7 G7 L7)) oX)
                        else (oI (i3 5) x6 G6 L6)) oX)
                    else (oI (i3 4) x5 G5 L5)) oX)
                else (oI (i3 3) x4 G4 L4)) oX)
            else (oI (i3 2) x3 G3 L3)) oX)
        else (oI (i3 1) x2 G2 L2)) oX)
    else (oI (i3 0) x1 G1 L1)) oX := by
  rw [rm_224]
  try simp only [gd_tt, k_156]
/-! M_isWord -/
set_option maxRecDepth 20000 in
theorem rm_225 {d x : Nat} {R : sm_R} {G : sm_G} {L : sm_L} {v1 v2 v3 v4 v5 v6 v7 : Int32} : sm_cv0 (d + 1) 225 342 R [.ref 156, .int v1, .int v2, .int v3, .int v4, .int v5, .int v6, .int v7] (x, G, L) =
  if (G 156 5) = (i3 0) then
    (sm_aL (sm_cv0 d 226 342 R [.ref 156] (x, G, L)) (fun b1 x1 G1 L1 =>
      sm_aL (sm_cv0 d 228 342 R [.int v1, .int v2, .int v3, .int v4, .int v5, .int v6, .int v7] (x1, G1, L1)) (fun b2 x2 G2 L2 =>
        if b1 < b2 then (oI (i3 0) x2 G2 L2) else if b1 = b2 then (oI (i3 1) x2 G2 L2) else (oI (i3 0) x2 G2 L2)) oX) oX)
  else (oI (i3 0) x G L) := (cv_eq rfl rfl).trans (hD_eq.trans rfl)
set_option maxRecDepth 20000 in
theorem m_225 {d x : Nat} {V : pV} {G : sm_G} {L : sm_L} {v1 v2 v3 v4 v5 v6 v7 : Int32} : sm_cv0 (d + 1) 225 342 (RR V) [.ref 156, .int v1, .int v2, .int v3, .int v4, .int v5, .int v6, .int v7] (x, G, L) =
  if (G 156 5) = (i3 0) then
    (sm_aL (sm_cv0 d 226 342 (RR V) [.ref 156] (x, G, L)) (fun b1 x1 G1 L1 =>
      sm_aL (sm_cv0 d 228 342 (RR V) [.int v1, .int v2, .int v3, .int v4, .int v5, .int v6, .int v7] (x1, G1, L1)) (fun b2 x2 G2 L2 =>
        if b1 < b2 then (oI (i3 0) x2 G2 L2) else if b1 = b2 then (oI (i3 1) x2 G2 L2) else (oI (i3 0) x2 G2 L2)) oX) oX)
  else (oI (i3 0) x G L) := by
  rw [rm_225]
  try simp only [gd_tt, k_156]
/-! M_wordHere -/
set_option maxRecDepth 20000 in
theorem rm_226 {d x : Nat} {R : sm_R} {G : sm_G} {L : sm_L} : sm_cv0 (d + 1) 226 342 R [.ref 156] (x, G, L) =
  sm_aV (sm_cv0 d 221 342 R [.ref 156] (x, G, L)) (fun x1 G1 L1 =>
    hD d 226 8 [.ref 156, .long (i6 0), .null, .int (i3 0)] 342 R x1 G1 L1) oX := (cv_eq rfl rfl).trans (hD_eq.trans rfl)
set_option maxRecDepth 20000 in
theorem m_226 {d x : Nat} {V : pV} {G : sm_G} {L : sm_L} : sm_cv0 (d + 1) 226 342 (RR V) [.ref 156] (x, G, L) =
  sm_aV (sm_cv0 d 221 342 (RR V) [.ref 156] (x, G, L)) (fun x1 G1 L1 =>
    hD d 226 8 [.ref 156, .long (i6 0), .null, .int (i3 0)] 342 (RR V) x1 G1 L1) oX := by
  rw [rm_226]
  try simp only [gd_tt, k_156]
set_option maxRecDepth 20000 in
theorem rh_226_8 {d x : Nat} {R : sm_R} {G : sm_G} {L : sm_L} {v3 : Int32} {w1 : Int64} : hD d 226 8 [.ref 156, .long w1, .null, .int v3] 342 R x G L =
  sm_aI (sm_cv0 d 222 342 R [.ref 156, .int ((G 156 4) + v3)] (x, G, L)) (fun a1 x1 G1 L1 =>
    sm_aI (sm_cv0 d 227 342 R [.int a1] (x1, G1, L1)) (fun a2 x2 G2 L2 =>
      if a2 = (i3 0) then
        (if v3 ≤ (i3 7) then
          (oL w1 x2 G2 L2)
        else (oL (n6 1) x2 G2 L2))
      else (if v3 < (i3 8) then
          (sm_aI (sm_cv0 d 222 342 R [.ref 156, .int ((G2 156 4) + v3)] (x2, G2, L2)) (fun a3 x3 G3 L3 =>
            hD d 226 61 [.ref 156, .long (((((i6 27) * w1) + (Int32.toInt64 a3)) - (i6 97)) + (i6 1)), .null, .int (v3 + (i3 1))] 342 R x3 G3 L3) oX)
        else (hD d 226 61 [.ref 156, .long w1, .null, .int (v3 + (i3 1))] 342 R x2 G2 L2))) oX) oX := hD_eq.trans rfl
set_option maxRecDepth 20000 in
theorem h_226_8 {d x : Nat} {V : pV} {G : sm_G} {L : sm_L} {v3 : Int32} {w1 : Int64} : hD d 226 8 [.ref 156, .long w1, .null, .int v3] 342 (RR V) x G L =
  sm_aI (sm_cv0 d 222 342 (RR V) [.ref 156, .int ((G 156 4) + v3)] (x, G, L)) (fun a1 x1 G1 L1 =>
    sm_aI (sm_cv0 d 227 342 (RR V) [.int a1] (x1, G1, L1)) (fun a2 x2 G2 L2 =>
      if a2 = (i3 0) then
        (if v3 ≤ (i3 7) then
          (oL w1 x2 G2 L2)
        else (oL (n6 1) x2 G2 L2))
      else (if v3 < (i3 8) then
          (sm_aI (sm_cv0 d 222 342 (RR V) [.ref 156, .int ((G2 156 4) + v3)] (x2, G2, L2)) (fun a3 x3 G3 L3 =>
            hD d 226 61 [.ref 156, .long (((((i6 27) * w1) + (Int32.toInt64 a3)) - (i6 97)) + (i6 1)), .null, .int (v3 + (i3 1))] 342 (RR V) x3 G3 L3) oX)
        else (hD d 226 61 [.ref 156, .long w1, .null, .int (v3 + (i3 1))] 342 (RR V) x2 G2 L2))) oX) oX := by
  rw [rh_226_8]
  try simp only [gd_tt, k_156]
set_option maxRecDepth 20000 in
theorem rh_226_61 {d x : Nat} {R : sm_R} {G : sm_G} {L : sm_L} {v3 : Int32} {w1 : Int64} : hD d 226 61 [.ref 156, .long w1, .null, .int v3] 342 R x G L =
  hD d 226 8 [.ref 156, .long w1, .null, .int v3] 342 R x G L := hD_eq.trans rfl
theorem h_226_61 {d x : Nat} {V : pV} {G : sm_G} {L : sm_L} {v3 : Int32} {w1 : Int64} : hD d 226 61 [.ref 156, .long w1, .null, .int v3] 342 (RR V) x G L =
  hD d 226 8 [.ref 156, .long w1, .null, .int v3] 342 (RR V) x G L := rh_226_61
/-! M_isSmall -/
set_option maxRecDepth 20000 in
theorem rm_227 {d x : Nat} {R : sm_R} {G : sm_G} {L : sm_L} {v0 : Int32} : sm_cv0 (d + 1) 227 342 R [.int v0] (x, G, L) =
  if v0 < (i3 97) then
    (oI (i3 0) x G L)
  else (if v0 ≤ (i3 122) then
      (oI (i3 1) x G L)
    else (oI (i3 0) x G L)) := (cv_eq rfl rfl).trans (hD_eq.trans rfl)
theorem m_227 {d x : Nat} {V : pV} {G : sm_G} {L : sm_L} {v0 : Int32} : sm_cv0 (d + 1) 227 342 (RR V) [.int v0] (x, G, L) =
  if v0 < (i3 97) then
    (oI (i3 0) x G L)
  else (if v0 ≤ (i3 122) then
      (oI (i3 1) x G L)
    else (oI (i3 0) x G L)) := rm_227
/-! M_seven -/
set_option maxRecDepth 20000 in
theorem rm_228 {d x : Nat} {R : sm_R} {G : sm_G} {L : sm_L} {v0 v1 v2 v3 v4 v5 v6 : Int32} : sm_cv0 (d + 1) 228 342 R [.int v0, .int v1, .int v2, .int v3, .int v4, .int v5, .int v6] (x, G, L) =
  if v2 = (i3 0) then
    (hD d 228 31 [.null, .null, .null, .int v3, .int v4, .int v5, .int v6, .long (((i6 27) * (Int32.toInt64 v0)) + (Int32.toInt64 v1)), .null] 342 R x G L)
  else (hD d 228 31 [.null, .null, .null, .int v3, .int v4, .int v5, .int v6, .long (((i6 27) * (((i6 27) * (Int32.toInt64 v0)) + (Int32.toInt64 v1))) + (Int32.toInt64 v2)), .null] 342 R x G L) := (cv_eq rfl rfl).trans (hD_eq.trans rfl)
theorem m_228 {d x : Nat} {V : pV} {G : sm_G} {L : sm_L} {v0 v1 v2 v3 v4 v5 v6 : Int32} : sm_cv0 (d + 1) 228 342 (RR V) [.int v0, .int v1, .int v2, .int v3, .int v4, .int v5, .int v6] (x, G, L) =
  if v2 = (i3 0) then
    (hD d 228 31 [.null, .null, .null, .int v3, .int v4, .int v5, .int v6, .long (((i6 27) * (Int32.toInt64 v0)) + (Int32.toInt64 v1)), .null] 342 (RR V) x G L)
  else (hD d 228 31 [.null, .null, .null, .int v3, .int v4, .int v5, .int v6, .long (((i6 27) * (((i6 27) * (Int32.toInt64 v0)) + (Int32.toInt64 v1))) + (Int32.toInt64 v2)), .null] 342 (RR V) x G L) := rm_228
set_option maxRecDepth 20000 in
theorem rh_228_31 {d x : Nat} {R : sm_R} {G : sm_G} {L : sm_L} {v3 v4 v5 v6 : Int32} {w7 : Int64} : hD d 228 31 [.null, .null, .null, .int v3, .int v4, .int v5, .int v6, .long w7, .null] 342 R x G L =
  if v3 = (i3 0) then
    (hD d 228 51 [.null, .null, .null, .null, .int v4, .int v5, .int v6, .long w7, .null] 342 R x G L)
  else (hD d 228 51 [.null, .null, .null, .null, .int v4, .int v5, .int v6, .long (((i6 27) * w7) + (Int32.toInt64 v3)), .null] 342 R x G L) := hD_eq.trans rfl
theorem h_228_31 {d x : Nat} {V : pV} {G : sm_G} {L : sm_L} {v3 v4 v5 v6 : Int32} {w7 : Int64} : hD d 228 31 [.null, .null, .null, .int v3, .int v4, .int v5, .int v6, .long w7, .null] 342 (RR V) x G L =
  if v3 = (i3 0) then
    (hD d 228 51 [.null, .null, .null, .null, .int v4, .int v5, .int v6, .long w7, .null] 342 (RR V) x G L)
  else (hD d 228 51 [.null, .null, .null, .null, .int v4, .int v5, .int v6, .long (((i6 27) * w7) + (Int32.toInt64 v3)), .null] 342 (RR V) x G L) := rh_228_31
set_option maxRecDepth 20000 in
theorem rh_228_51 {d x : Nat} {R : sm_R} {G : sm_G} {L : sm_L} {v4 v5 v6 : Int32} {w7 : Int64} : hD d 228 51 [.null, .null, .null, .null, .int v4, .int v5, .int v6, .long w7, .null] 342 R x G L =
  if v4 = (i3 0) then
    (hD d 228 73 [.null, .null, .null, .null, .null, .int v5, .int v6, .long w7, .null] 342 R x G L)
  else (hD d 228 73 [.null, .null, .null, .null, .null, .int v5, .int v6, .long (((i6 27) * w7) + (Int32.toInt64 v4)), .null] 342 R x G L) := hD_eq.trans rfl
theorem h_228_51 {d x : Nat} {V : pV} {G : sm_G} {L : sm_L} {v4 v5 v6 : Int32} {w7 : Int64} : hD d 228 51 [.null, .null, .null, .null, .int v4, .int v5, .int v6, .long w7, .null] 342 (RR V) x G L =
  if v4 = (i3 0) then
    (hD d 228 73 [.null, .null, .null, .null, .null, .int v5, .int v6, .long w7, .null] 342 (RR V) x G L)
  else (hD d 228 73 [.null, .null, .null, .null, .null, .int v5, .int v6, .long (((i6 27) * w7) + (Int32.toInt64 v4)), .null] 342 (RR V) x G L) := rh_228_51
set_option maxRecDepth 20000 in
theorem rh_228_73 {d x : Nat} {R : sm_R} {G : sm_G} {L : sm_L} {v5 v6 : Int32} {w7 : Int64} : hD d 228 73 [.null, .null, .null, .null, .null, .int v5, .int v6, .long w7, .null] 342 R x G L =
  if v5 = (i3 0) then
    (if v6 = (i3 0) then
      (oL w7 x G L)
    else (oL (((i6 27) * w7) + (Int32.toInt64 v6)) x G L))
  else (if v6 = (i3 0) then
      (oL (((i6 27) * w7) + (Int32.toInt64 v5)) x G L)
    else (oL (((i6 27) * (((i6 27) * w7) + (Int32.toInt64 v5))) + (Int32.toInt64 v6)) x G L)) := hD_eq.trans rfl
theorem h_228_73 {d x : Nat} {V : pV} {G : sm_G} {L : sm_L} {v5 v6 : Int32} {w7 : Int64} : hD d 228 73 [.null, .null, .null, .null, .null, .int v5, .int v6, .long w7, .null] 342 (RR V) x G L =
  if v5 = (i3 0) then
    (if v6 = (i3 0) then
      (oL w7 x G L)
    else (oL (((i6 27) * w7) + (Int32.toInt64 v6)) x G L))
  else (if v6 = (i3 0) then
      (oL (((i6 27) * w7) + (Int32.toInt64 v5)) x G L)
    else (oL (((i6 27) * (((i6 27) * w7) + (Int32.toInt64 v5))) + (Int32.toInt64 v6)) x G L)) := rh_228_73
/-! M_wrong -/
set_option maxRecDepth 20000 in
theorem rm_229 {d x : Nat} {R : sm_R} {G : sm_G} {L : sm_L} {v1 v2 : Int32} : sm_cv0 (d + 1) 229 342 R [.ref 156, .int v1, .int v2] (x, G, L) =
  if (G 156 5) = (i3 0) then
    (oV x (sm_up (sm_up G 156 5 v1) 156 6 v2) L)
  else (oV x G L) := (cv_eq rfl rfl).trans (hD_eq.trans rfl)
set_option maxRecDepth 20000 in
theorem m_229 {d x : Nat} {V : pV} {G : sm_G} {L : sm_L} {v1 v2 : Int32} : sm_cv0 (d + 1) 229 342 (RR V) [.ref 156, .int v1, .int v2] (x, G, L) =
  if (G 156 5) = (i3 0) then
    (oV x (sm_up (sm_up G 156 5 v1) 156 6 v2) L)
  else (oV x G L) := by
  rw [rm_229]
  try simp only [gd_tt, k_156]
/-! M_isFull -/
set_option maxRecDepth 20000 in
theorem rm_230 {d x : Nat} {R : sm_R} {G : sm_G} {L : sm_L} {v1 : Int32} : sm_cv0 (d + 1) 230 342 R [.ref 156, .int v1] (x, G, L) =
  if v1 = (i3 0) then
    (ldi (R 156 11) (i3 0) G (fun y1 => if y1 = (i3 8) then
      (oI (i3 1) x G L)
    else (hD d 230 15 [.ref 156, .int v1] 342 R x G L)))
  else (hD d 230 15 [.ref 156, .int v1] 342 R x G L) := (cv_eq rfl rfl).trans (hD_eq.trans rfl)
set_option maxRecDepth 20000 in
theorem m_230 {d x : Nat} {V : pV} {G : sm_G} {L : sm_L} {v1 : Int32} : sm_cv0 (d + 1) 230 342 (RR V) [.ref 156, .int v1] (x, G, L) =
  if v1 = (i3 0) then
    (if (G 159 0) = (i3 8) then
      (oI (i3 1) x G L)
    else (hD d 230 15 [.ref 156, .int v1] 342 (RR V) x G L))
  else (hD d 230 15 [.ref 156, .int v1] 342 (RR V) x G L) := by
  rw [rm_230]
  try simp only [gd_tt, (q_156_11 V), cl_0, inl_0_6, k_156, ldi_e k_159 n_159, n_159]
set_option maxRecDepth 20000 in
theorem rh_230_15 {d x : Nat} {R : sm_R} {G : sm_G} {L : sm_L} {v1 : Int32} : hD d 230 15 [.ref 156, .int v1] 342 R x G L =
  if v1 = (i3 1) then
    (ldi (R 156 11) (i3 1) G (fun y1 => if y1 = (i3 10) then
      (oI (i3 1) x G L)
    else (hD d 230 31 [.ref 156, .int v1] 342 R x G L)))
  else (hD d 230 31 [.ref 156, .int v1] 342 R x G L) := hD_eq.trans rfl
set_option maxRecDepth 20000 in
theorem h_230_15 {d x : Nat} {V : pV} {G : sm_G} {L : sm_L} {v1 : Int32} : hD d 230 15 [.ref 156, .int v1] 342 (RR V) x G L =
  if v1 = (i3 1) then
    (if (G 159 1) = (i3 10) then
      (oI (i3 1) x G L)
    else (hD d 230 31 [.ref 156, .int v1] 342 (RR V) x G L))
  else (hD d 230 31 [.ref 156, .int v1] 342 (RR V) x G L) := by
  rw [rh_230_15]
  try simp only [gd_tt, (q_156_11 V), cl_1, inl_1_6, k_156, ldi_e k_159 n_159, n_159]
set_option maxRecDepth 20000 in
theorem rh_230_31 {d x : Nat} {R : sm_R} {G : sm_G} {L : sm_L} {v1 : Int32} : hD d 230 31 [.ref 156, .int v1] 342 R x G L =
  if v1 = (i3 2) then
    (ldi (R 156 11) (i3 2) G (fun y1 => if y1 = (i3 12) then
      (oI (i3 1) x G L)
    else (hD d 230 47 [.ref 156, .int v1] 342 R x G L)))
  else (hD d 230 47 [.ref 156, .int v1] 342 R x G L) := hD_eq.trans rfl
set_option maxRecDepth 20000 in
theorem h_230_31 {d x : Nat} {V : pV} {G : sm_G} {L : sm_L} {v1 : Int32} : hD d 230 31 [.ref 156, .int v1] 342 (RR V) x G L =
  if v1 = (i3 2) then
    (if (G 159 2) = (i3 12) then
      (oI (i3 1) x G L)
    else (hD d 230 47 [.ref 156, .int v1] 342 (RR V) x G L))
  else (hD d 230 47 [.ref 156, .int v1] 342 (RR V) x G L) := by
  rw [rh_230_31]
  try simp only [gd_tt, (q_156_11 V), cl_2, inl_2_6, k_156, ldi_e k_159 n_159, n_159]
set_option maxRecDepth 20000 in
theorem rh_230_47 {d x : Nat} {R : sm_R} {G : sm_G} {L : sm_L} {v1 : Int32} : hD d 230 47 [.ref 156, .int v1] 342 R x G L =
  if v1 = (i3 3) then
    (ldi (R 156 11) (i3 3) G (fun y1 => if y1 = (i3 3) then
      (oI (i3 1) x G L)
    else (hD d 230 62 [.ref 156, .int v1] 342 R x G L)))
  else (hD d 230 62 [.ref 156, .int v1] 342 R x G L) := hD_eq.trans rfl
set_option maxRecDepth 20000 in
theorem h_230_47 {d x : Nat} {V : pV} {G : sm_G} {L : sm_L} {v1 : Int32} : hD d 230 47 [.ref 156, .int v1] 342 (RR V) x G L =
  if v1 = (i3 3) then
    (if (G 159 3) = (i3 3) then
      (oI (i3 1) x G L)
    else (hD d 230 62 [.ref 156, .int v1] 342 (RR V) x G L))
  else (hD d 230 62 [.ref 156, .int v1] 342 (RR V) x G L) := by
  rw [rh_230_47]
  try simp only [gd_tt, (q_156_11 V), cl_3, inl_3_6, k_156, ldi_e k_159 n_159, n_159]
set_option maxRecDepth 20000 in
theorem rh_230_62 {d x : Nat} {R : sm_R} {G : sm_G} {L : sm_L} {v1 : Int32} : hD d 230 62 [.ref 156, .int v1] 342 R x G L =
  if v1 = (i3 4) then
    (ldi (R 156 11) (i3 4) G (fun y1 => if y1 = (i3 4) then
      (oI (i3 1) x G L)
    else (oI (i3 0) x G L)))
  else (oI (i3 0) x G L) := hD_eq.trans rfl
set_option maxRecDepth 20000 in
theorem h_230_62 {d x : Nat} {V : pV} {G : sm_G} {L : sm_L} {v1 : Int32} : hD d 230 62 [.ref 156, .int v1] 342 (RR V) x G L =
  if v1 = (i3 4) then
    (if (G 159 4) = (i3 4) then
      (oI (i3 1) x G L)
    else (oI (i3 0) x G L))
  else (oI (i3 0) x G L) := by
  rw [rh_230_62]
  try simp only [gd_tt, (q_156_11 V), cl_4, inl_4_6, k_156, ldi_e k_159 n_159, n_159]
/-! M_skipWord -/
theorem m_231 {d x : Nat} {V : pV} {G : sm_G} {L : sm_L} : sm_cv0 (d + 1) 231 342 (RR V) [.ref 156] (x, G, L) = hD d 231 0 [.ref 156] 342 (RR V) x G L := cv_eq rfl rfl
set_option maxRecDepth 20000 in
theorem rh_231_0 {d x : Nat} {R : sm_R} {G : sm_G} {L : sm_L} : hD d 231 0 [.ref 156] 342 R x G L =
  sm_aI (sm_cv0 d 222 342 R [.ref 156, .int (G 156 4)] (x, G, L)) (fun a1 x1 G1 L1 =>
    sm_aI (sm_cv0 d 227 342 R [.int a1] (x1, G1, L1)) (fun a2 x2 G2 L2 =>
      if a2 = (i3 0) then
        (oV x2 G2 L2)
      else (hD d 231 0 [.ref 156] 342 R x2 (sm_up G2 156 4 ((G2 156 4) + (i3 1))) L2)) oX) oX := hD_eq.trans rfl
set_option maxRecDepth 20000 in
theorem h_231_0 {d x : Nat} {V : pV} {G : sm_G} {L : sm_L} : hD d 231 0 [.ref 156] 342 (RR V) x G L =
  sm_aI (sm_cv0 d 222 342 (RR V) [.ref 156, .int (G 156 4)] (x, G, L)) (fun a1 x1 G1 L1 =>
    sm_aI (sm_cv0 d 227 342 (RR V) [.int a1] (x1, G1, L1)) (fun a2 x2 G2 L2 =>
      if a2 = (i3 0) then
        (oV x2 G2 L2)
      else (hD d 231 0 [.ref 156] 342 (RR V) x2 (sm_up G2 156 4 ((G2 156 4) + (i3 1))) L2)) oX) oX := by
  rw [rh_231_0]
  try simp only [gd_tt, k_156]
/-! M_number -/
set_option maxRecDepth 20000 in
theorem rm_232 {d x : Nat} {R : sm_R} {G : sm_G} {L : sm_L} {v1 v2 : Int32} : sm_cv0 (d + 1) 232 342 R [.ref 156, .int v1, .int v2] (x, G, L) =
  if (G 156 5) = (i3 0) then
    (sm_aV (sm_cv0 d 221 342 R [.ref 156] (x, G, L)) (fun x1 G1 L1 =>
      sm_aI (sm_cv0 d 222 342 R [.ref 156, .int (G1 156 4)] (x1, G1, L1)) (fun a2 x2 G2 L2 =>
        sm_aI (sm_cv0 d 233 342 R [.int a2] (x2, G2, L2)) (fun a3 x3 G3 L3 =>
          if a3 = (i3 0) then
            (sm_aV (sm_cv0 d 229 342 R [.ref 156, .int (i3 1), .int (G3 156 4)] (x3, G3, L3)) (fun x4 G4 L4 =>
              hD d 232 44 [.ref 156, .int v1, .int v2, .int (G1 156 4), .int (i3 0)] 342 R x4 G4 L4) oX)
          else (hD d 232 44 [.ref 156, .int v1, .int v2, .int (G1 156 4), .int (i3 0)] 342 R x3 G3 L3)) oX) oX) oX)
  else (oI (i3 0) x G L) := (cv_eq rfl rfl).trans (hD_eq.trans rfl)
set_option maxRecDepth 20000 in
theorem m_232 {d x : Nat} {V : pV} {G : sm_G} {L : sm_L} {v1 v2 : Int32} : sm_cv0 (d + 1) 232 342 (RR V) [.ref 156, .int v1, .int v2] (x, G, L) =
  if (G 156 5) = (i3 0) then
    (sm_aV (sm_cv0 d 221 342 (RR V) [.ref 156] (x, G, L)) (fun x1 G1 L1 =>
      sm_aI (sm_cv0 d 222 342 (RR V) [.ref 156, .int (G1 156 4)] (x1, G1, L1)) (fun a2 x2 G2 L2 =>
        sm_aI (sm_cv0 d 233 342 (RR V) [.int a2] (x2, G2, L2)) (fun a3 x3 G3 L3 =>
          if a3 = (i3 0) then
            (sm_aV (sm_cv0 d 229 342 (RR V) [.ref 156, .int (i3 1), .int (G3 156 4)] (x3, G3, L3)) (fun x4 G4 L4 =>
              hD d 232 44 [.ref 156, .int v1, .int v2, .int (G1 156 4), .int (i3 0)] 342 (RR V) x4 G4 L4) oX)
          else (hD d 232 44 [.ref 156, .int v1, .int v2, .int (G1 156 4), .int (i3 0)] 342 (RR V) x3 G3 L3)) oX) oX) oX)
  else (oI (i3 0) x G L) := by
  rw [rm_232]
  try simp only [gd_tt, k_156]
set_option maxRecDepth 20000 in
theorem rh_232_44 {d x : Nat} {R : sm_R} {G : sm_G} {L : sm_L} {v1 v2 v3 v4 : Int32} : hD d 232 44 [.ref 156, .int v1, .int v2, .int v3, .int v4] 342 R x G L =
  sm_aI (sm_cv0 d 222 342 R [.ref 156, .int (G 156 4)] (x, G, L)) (fun a1 x1 G1 L1 =>
    sm_aI (sm_cv0 d 233 342 R [.int a1] (x1, G1, L1)) (fun a2 x2 G2 L2 =>
      if a2 = (i3 0) then
        (sm_aI (sm_cv0 d 218 342 R [.int v4, .int v1, .int v2] (x2, G2, L2)) (fun a3 x3 G3 L3 =>
          if a3 = (i3 0) then
            (sm_aV (sm_cv0 d 229 342 R [.ref 156, .int (i3 2), .int v3] (x3, G3, L3)) (fun x4 G4 L4 =>
              if (G4 156 5) = (i3 0) then
                (oI v4 x4 G4 L4)
              else (oI (i3 0) x4 G4 L4)) oX)
          else (if (G3 156 5) = (i3 0) then
              (oI v4 x3 G3 L3)
            else (oI (i3 0) x3 G3 L3))) oX)
      else (sm_aI (sm_cv0 d 222 342 R [.ref 156, .int (G2 156 4)] (x2, G2, L2)) (fun a5 x5 G5 L5 =>
          if ((((i3 10) * v4) + a5) - (i3 48)) ≤ (i3 100000) then
            (hD d 232 44 [.ref 156, .int v1, .int v2, .int v3, .int ((((i3 10) * v4) + a5) - (i3 48))] 342 R x5 (sm_up G5 156 4 ((G5 156 4) + (i3 1))) L5)
          else (hD d 232 44 [.ref 156, .int v1, .int v2, .int v3, .int (i3 100000)] 342 R x5 (sm_up G5 156 4 ((G5 156 4) + (i3 1))) L5)) oX)) oX) oX := hD_eq.trans rfl
set_option maxRecDepth 20000 in
theorem h_232_44 {d x : Nat} {V : pV} {G : sm_G} {L : sm_L} {v1 v2 v3 v4 : Int32} : hD d 232 44 [.ref 156, .int v1, .int v2, .int v3, .int v4] 342 (RR V) x G L =
  sm_aI (sm_cv0 d 222 342 (RR V) [.ref 156, .int (G 156 4)] (x, G, L)) (fun a1 x1 G1 L1 =>
    sm_aI (sm_cv0 d 233 342 (RR V) [.int a1] (x1, G1, L1)) (fun a2 x2 G2 L2 =>
      if a2 = (i3 0) then
        (sm_aI (sm_cv0 d 218 342 (RR V) [.int v4, .int v1, .int v2] (x2, G2, L2)) (fun a3 x3 G3 L3 =>
          if a3 = (i3 0) then
            (sm_aV (sm_cv0 d 229 342 (RR V) [.ref 156, .int (i3 2), .int v3] (x3, G3, L3)) (fun x4 G4 L4 =>
              if (G4 156 5) = (i3 0) then
                (oI v4 x4 G4 L4)
              else (oI (i3 0) x4 G4 L4)) oX)
          else (if (G3 156 5) = (i3 0) then
              (oI v4 x3 G3 L3)
            else (oI (i3 0) x3 G3 L3))) oX)
      else (sm_aI (sm_cv0 d 222 342 (RR V) [.ref 156, .int (G2 156 4)] (x2, G2, L2)) (fun a5 x5 G5 L5 =>
          if ((((i3 10) * v4) + a5) - (i3 48)) ≤ (i3 100000) then
            (hD d 232 44 [.ref 156, .int v1, .int v2, .int v3, .int ((((i3 10) * v4) + a5) - (i3 48))] 342 (RR V) x5 (sm_up G5 156 4 ((G5 156 4) + (i3 1))) L5)
          else (hD d 232 44 [.ref 156, .int v1, .int v2, .int v3, .int (i3 100000)] 342 (RR V) x5 (sm_up G5 156 4 ((G5 156 4) + (i3 1))) L5)) oX)) oX) oX := by
  rw [rh_232_44]
  try simp only [gd_tt, k_156]
/-! M_isDigit -/
set_option maxRecDepth 20000 in
theorem rm_233 {d x : Nat} {R : sm_R} {G : sm_G} {L : sm_L} {v0 : Int32} : sm_cv0 (d + 1) 233 342 R [.int v0] (x, G, L) =
  if v0 < (i3 48) then
    (oI (i3 0) x G L)
  else (if v0 ≤ (i3 57) then
      (oI (i3 1) x G L)
    else (oI (i3 0) x G L)) := (cv_eq rfl rfl).trans (hD_eq.trans rfl)
theorem m_233 {d x : Nat} {V : pV} {G : sm_G} {L : sm_L} {v0 : Int32} : sm_cv0 (d + 1) 233 342 (RR V) [.int v0] (x, G, L) =
  if v0 < (i3 48) then
    (oI (i3 0) x G L)
  else (if v0 ≤ (i3 57) then
      (oI (i3 1) x G L)
    else (oI (i3 0) x G L)) := rm_233
/-! M_roomHere -/
set_option maxRecDepth 20000 in
theorem rm_234 {d x : Nat} {R : sm_R} {G : sm_G} {L : sm_L} {v1 : Int32} : sm_cv0 (d + 1) 234 342 R [.ref 156, .int v1] (x, G, L) =
  if (G 156 5) = (i3 0) then
    (sm_aV (sm_cv0 d 221 342 R [.ref 156] (x, G, L)) (fun x1 G1 L1 =>
      ldi (R 156 11) (i3 0) G1 (fun y2 => sm_aI (sm_cv0 d 232 342 R [.ref 156, .int (i3 0), .int (y2 - (i3 1))] (x1, G1, L1)) (fun a3 x3 G3 L3 =>
        if (G3 156 5) = (i3 0) then
          (if a3 = v1 then
            (sm_aV (sm_cv0 d 229 342 R [.ref 156, .int (i3 2), .int (G1 156 4)] (x3, G3, L3)) (fun x4 G4 L4 =>
              oI a3 x4 G4 L4) oX)
          else (oI a3 x3 G3 L3))
        else (oI a3 x3 G3 L3)) oX)) oX)
  else (oI (i3 0) x G L) := (cv_eq rfl rfl).trans (hD_eq.trans rfl)
set_option maxRecDepth 20000 in
theorem m_234 {d x : Nat} {V : pV} {G : sm_G} {L : sm_L} {v1 : Int32} : sm_cv0 (d + 1) 234 342 (RR V) [.ref 156, .int v1] (x, G, L) =
  if (G 156 5) = (i3 0) then
    (sm_aV (sm_cv0 d 221 342 (RR V) [.ref 156] (x, G, L)) (fun x1 G1 L1 =>
      sm_aI (sm_cv0 d 232 342 (RR V) [.ref 156, .int (i3 0), .int ((G1 159 0) - (i3 1))] (x1, G1, L1)) (fun a3 x3 G3 L3 =>
        if (G3 156 5) = (i3 0) then
          (if a3 = v1 then
            (sm_aV (sm_cv0 d 229 342 (RR V) [.ref 156, .int (i3 2), .int (G1 156 4)] (x3, G3, L3)) (fun x4 G4 L4 =>
              oI a3 x4 G4 L4) oX)
          else (oI a3 x3 G3 L3))
        else (oI a3 x3 G3 L3)) oX) oX)
  else (oI (i3 0) x G L) := by
  rw [rm_234]
  try simp only [gd_tt, (q_156_11 V), cl_0, inl_0_6, k_156, ldi_e k_159 n_159, n_159]
/-! M_aloneHere -/
set_option maxRecDepth 20000 in
theorem rm_235 {d x : Nat} {R : sm_R} {G : sm_G} {L : sm_L} {v1 : Int32} : sm_cv0 (d + 1) 235 342 R [.ref 156, .int v1] (x, G, L) =
  if (G 156 5) = (i3 0) then
    (sm_aV (sm_cv0 d 221 342 R [.ref 156] (x, G, L)) (fun x1 G1 L1 =>
      sm_aI (sm_cv0 d 234 342 R [.ref 156, .int v1] (x1, G1, L1)) (fun a2 x2 G2 L2 =>
        if (G2 156 5) = (i3 0) then
          (ldi (R 156 13) a2 G2 (fun y3 => if y3 = m1 then
            (oI a2 x2 G2 L2)
          else (sm_aV (sm_cv0 d 229 342 R [.ref 156, .int (i3 2), .int (G1 156 4)] (x2, G2, L2)) (fun x4 G4 L4 =>
              oI a2 x4 G4 L4) oX)))
        else (oI a2 x2 G2 L2)) oX) oX)
  else (oI (i3 0) x G L) := (cv_eq rfl rfl).trans (hD_eq.trans rfl)
set_option maxRecDepth 20000 in
theorem m_235 {d x : Nat} {V : pV} {G : sm_G} {L : sm_L} {v1 : Int32} : sm_cv0 (d + 1) 235 342 (RR V) [.ref 156, .int v1] (x, G, L) =
  if (G 156 5) = (i3 0) then
    (sm_aV (sm_cv0 d 221 342 (RR V) [.ref 156] (x, G, L)) (fun x1 G1 L1 =>
      sm_aI (sm_cv0 d 234 342 (RR V) [.ref 156, .int v1] (x1, G1, L1)) (fun a2 x2 G2 L2 =>
        if (G2 156 5) = (i3 0) then
          (gd (sm_in a2 8) (if (G2 161 a2.toNatClampNeg) = m1 then
            (oI a2 x2 G2 L2)
          else (sm_aV (sm_cv0 d 229 342 (RR V) [.ref 156, .int (i3 2), .int (G1 156 4)] (x2, G2, L2)) (fun x4 G4 L4 =>
              oI a2 x4 G4 L4) oX)))
        else (oI a2 x2 G2 L2)) oX) oX)
  else (oI (i3 0) x G L) := by
  rw [rm_235]
  try simp only [gd_tt, (q_156_13 V), k_156, ldi_e k_161 n_161, n_161]
/-! M_sign -/
set_option maxRecDepth 20000 in
theorem rm_236 {d x : Nat} {R : sm_R} {G : sm_G} {L : sm_L} {v1 : Int32} : sm_cv0 (d + 1) 236 342 R [.ref 156, .int v1] (x, G, L) =
  if (G 156 5) = (i3 0) then
    (sm_aV (sm_cv0 d 221 342 R [.ref 156] (x, G, L)) (fun x1 G1 L1 =>
      sm_aI (sm_cv0 d 222 342 R [.ref 156, .int (G1 156 4)] (x1, G1, L1)) (fun a2 x2 G2 L2 =>
        if a2 = v1 then
          (oV x2 (sm_up G2 156 4 ((G2 156 4) + (i3 1))) L2)
        else (sm_aV (sm_cv0 d 229 342 R [.ref 156, .int (i3 1), .int (G2 156 4)] (x2, G2, L2)) (fun x3 G3 L3 =>
            oV x3 G3 L3) oX)) oX) oX)
  else (oV x G L) := (cv_eq rfl rfl).trans (hD_eq.trans rfl)
set_option maxRecDepth 20000 in
theorem m_236 {d x : Nat} {V : pV} {G : sm_G} {L : sm_L} {v1 : Int32} : sm_cv0 (d + 1) 236 342 (RR V) [.ref 156, .int v1] (x, G, L) =
  if (G 156 5) = (i3 0) then
    (sm_aV (sm_cv0 d 221 342 (RR V) [.ref 156] (x, G, L)) (fun x1 G1 L1 =>
      sm_aI (sm_cv0 d 222 342 (RR V) [.ref 156, .int (G1 156 4)] (x1, G1, L1)) (fun a2 x2 G2 L2 =>
        if a2 = v1 then
          (oV x2 (sm_up G2 156 4 ((G2 156 4) + (i3 1))) L2)
        else (sm_aV (sm_cv0 d 229 342 (RR V) [.ref 156, .int (i3 1), .int (G2 156 4)] (x2, G2, L2)) (fun x3 G3 L3 =>
            oV x3 G3 L3) oX)) oX) oX)
  else (oV x G L) := by
  rw [rm_236]
  try simp only [gd_tt, k_156]
/-! M_will -/
set_option maxRecDepth 20000 in
theorem rm_237 {d x : Nat} {R : sm_R} {G : sm_G} {L : sm_L} {v1 v2 : Int32} : sm_cv0 (d + 1) 237 342 R [.ref 156, .int v1, .int v2] (x, G, L) =
  sm_aI (sm_cv0 d 238 342 R [.ref 156, .int v1] (x, sm_up G 156 0 (i3 0), L)) (fun a1 x1 G1 L1 =>
    if a1 = (i3 0) then
      (sm_aI (sm_cv0 d 219 342 R [.ref 156, .int (i3 1), .int (i3 1), .int (i3 1)] (x1, G1, L1)) (fun a2 x2 G2 L2 =>
        if a2 = (i3 0) then
          (hD d 237 27 [.ref 156, .int v1, .int v2, .null] 342 R x2 G2 L2)
        else (oI (i3 0) x2 G2 L2)) oX)
    else (sm_aI (sm_cv0 d 219 342 R [.ref 156, .int (i3 0), .int (i3 1), .int (i3 1)] (x1, G1, L1)) (fun a3 x3 G3 L3 =>
        if a3 = (i3 0) then
          (hD d 237 27 [.ref 156, .int v1, .int v2, .null] 342 R x3 G3 L3)
        else (oI (i3 0) x3 G3 L3)) oX)) oX := (cv_eq rfl rfl).trans (hD_eq.trans rfl)
set_option maxRecDepth 20000 in
theorem m_237 {d x : Nat} {V : pV} {G : sm_G} {L : sm_L} {v1 v2 : Int32} : sm_cv0 (d + 1) 237 342 (RR V) [.ref 156, .int v1, .int v2] (x, G, L) =
  sm_aI (sm_cv0 d 238 342 (RR V) [.ref 156, .int v1] (x, sm_up G 156 0 (i3 0), L)) (fun a1 x1 G1 L1 =>
    if a1 = (i3 0) then
      (sm_aI (sm_cv0 d 219 342 (RR V) [.ref 156, .int (i3 1), .int (i3 1), .int (i3 1)] (x1, G1, L1)) (fun a2 x2 G2 L2 =>
        if a2 = (i3 0) then
          (hD d 237 27 [.ref 156, .int v1, .int v2, .null] 342 (RR V) x2 G2 L2)
        else (oI (i3 0) x2 G2 L2)) oX)
    else (sm_aI (sm_cv0 d 219 342 (RR V) [.ref 156, .int (i3 0), .int (i3 1), .int (i3 1)] (x1, G1, L1)) (fun a3 x3 G3 L3 =>
        if a3 = (i3 0) then
          (hD d 237 27 [.ref 156, .int v1, .int v2, .null] 342 (RR V) x3 G3 L3)
        else (oI (i3 0) x3 G3 L3)) oX)) oX := by
  rw [rm_237]
  try simp only [gd_tt, k_156]
set_option maxRecDepth 20000 in
theorem rh_237_27 {d x : Nat} {R : sm_R} {G : sm_G} {L : sm_L} {v1 v2 : Int32} : hD d 237 27 [.ref 156, .int v1, .int v2, .null] 342 R x G L =
  sm_aI (sm_cv0 d 218 342 R [.int v2, .int (i3 0), .int (G 156 1)] (x, G, L)) (fun a1 x1 G1 L1 =>
    if a1 = (i3 0) then
      (sm_aI (sm_cv0 d 219 342 R [.ref 156, .int (i3 1), .int (i3 2), .int (i3 2)] (x1, G1, L1)) (fun a2 x2 G2 L2 =>
        if a2 = (i3 0) then
          (hD d 237 62 [.ref 156, .int v1, .int v2, .null] 342 R x2 G2 L2)
        else (oI (i3 0) x2 G2 L2)) oX)
    else (if v2 ≤ (i3 150) then
        (sm_aI (sm_cv0 d 219 342 R [.ref 156, .int (i3 0), .int (i3 2), .int (i3 2)] (x1, G1, L1)) (fun a3 x3 G3 L3 =>
          if a3 = (i3 0) then
            (hD d 237 62 [.ref 156, .int v1, .int v2, .null] 342 R x3 G3 L3)
          else (oI (i3 0) x3 G3 L3)) oX)
      else (sm_aI (sm_cv0 d 219 342 R [.ref 156, .int (i3 1), .int (i3 2), .int (i3 2)] (x1, G1, L1)) (fun a4 x4 G4 L4 =>
          if a4 = (i3 0) then
            (hD d 237 62 [.ref 156, .int v1, .int v2, .null] 342 R x4 G4 L4)
          else (oI (i3 0) x4 G4 L4)) oX))) oX := hD_eq.trans rfl
set_option maxRecDepth 20000 in
theorem h_237_27 {d x : Nat} {V : pV} {G : sm_G} {L : sm_L} {v1 v2 : Int32} : hD d 237 27 [.ref 156, .int v1, .int v2, .null] 342 (RR V) x G L =
  sm_aI (sm_cv0 d 218 342 (RR V) [.int v2, .int (i3 0), .int (G 156 1)] (x, G, L)) (fun a1 x1 G1 L1 =>
    if a1 = (i3 0) then
      (sm_aI (sm_cv0 d 219 342 (RR V) [.ref 156, .int (i3 1), .int (i3 2), .int (i3 2)] (x1, G1, L1)) (fun a2 x2 G2 L2 =>
        if a2 = (i3 0) then
          (hD d 237 62 [.ref 156, .int v1, .int v2, .null] 342 (RR V) x2 G2 L2)
        else (oI (i3 0) x2 G2 L2)) oX)
    else (if v2 ≤ (i3 150) then
        (sm_aI (sm_cv0 d 219 342 (RR V) [.ref 156, .int (i3 0), .int (i3 2), .int (i3 2)] (x1, G1, L1)) (fun a3 x3 G3 L3 =>
          if a3 = (i3 0) then
            (hD d 237 62 [.ref 156, .int v1, .int v2, .null] 342 (RR V) x3 G3 L3)
          else (oI (i3 0) x3 G3 L3)) oX)
      else (sm_aI (sm_cv0 d 219 342 (RR V) [.ref 156, .int (i3 1), .int (i3 2), .int (i3 2)] (x1, G1, L1)) (fun a4 x4 G4 L4 =>
          if a4 = (i3 0) then
            (hD d 237 62 [.ref 156, .int v1, .int v2, .null] 342 (RR V) x4 G4 L4)
          else (oI (i3 0) x4 G4 L4)) oX))) oX := by
  rw [rh_237_27]
  try simp only [gd_tt, k_156]
set_option maxRecDepth 20000 in
theorem rh_237_62 {d x : Nat} {R : sm_R} {G : sm_G} {L : sm_L} {v1 v2 : Int32} : hD d 237 62 [.ref 156, .int v1, .int v2, .null] 342 R x G L =
  sm_aV (sm_cv0 d 220 342 R [.ref 156, .int v2] (x, G, L)) (fun x1 G1 L1 =>
    hD d 237 77 [.ref 156, .int v1, .null, .null] 342 R x1 (sm_up (sm_up G1 156 34 (i3 0)) 156 35 (i3 0)) L1) oX := hD_eq.trans rfl
set_option maxRecDepth 20000 in
theorem h_237_62 {d x : Nat} {V : pV} {G : sm_G} {L : sm_L} {v1 v2 : Int32} : hD d 237 62 [.ref 156, .int v1, .int v2, .null] 342 (RR V) x G L =
  sm_aV (sm_cv0 d 220 342 (RR V) [.ref 156, .int v2] (x, G, L)) (fun x1 G1 L1 =>
    hD d 237 77 [.ref 156, .int v1, .null, .null] 342 (RR V) x1 (sm_up (sm_up G1 156 34 (i3 0)) 156 35 (i3 0)) L1) oX := by
  rw [rh_237_62]
  try simp only [gd_tt, k_156]
set_option maxRecDepth 20000 in
theorem rh_237_77 {d x : Nat} {R : sm_R} {G : sm_G} {L : sm_L} {v1 : Int32} : hD d 237 77 [.ref 156, .int v1, .null, .null] 342 R x G L =
  if (G 156 5) = (i3 0) then
    (if (G 156 4) < (G 156 2) then
      (sm_aV (sm_cv0 d 239 342 R [.ref 156] (x, G, L)) (fun x1 G1 L1 =>
        sm_aV (sm_cv0 d 221 342 R [.ref 156] (x1, G1, L1)) (fun x2 G2 L2 =>
          hD d 237 77 [.ref 156, .int v1, .null, .null] 342 R x2 G2 L2) oX) oX)
    else (hD d 237 106 [.ref 156, .int v1, .null, .null] 342 R x G L))
  else (hD d 237 106 [.ref 156, .int v1, .null, .null] 342 R x G L) := hD_eq.trans rfl
set_option maxRecDepth 20000 in
theorem h_237_77 {d x : Nat} {V : pV} {G : sm_G} {L : sm_L} {v1 : Int32} : hD d 237 77 [.ref 156, .int v1, .null, .null] 342 (RR V) x G L =
  if (G 156 5) = (i3 0) then
    (if (G 156 4) < (G 156 2) then
      (sm_aV (sm_cv0 d 239 342 (RR V) [.ref 156] (x, G, L)) (fun x1 G1 L1 =>
        sm_aV (sm_cv0 d 221 342 (RR V) [.ref 156] (x1, G1, L1)) (fun x2 G2 L2 =>
          hD d 237 77 [.ref 156, .int v1, .null, .null] 342 (RR V) x2 G2 L2) oX) oX)
    else (hD d 237 106 [.ref 156, .int v1, .null, .null] 342 (RR V) x G L))
  else (hD d 237 106 [.ref 156, .int v1, .null, .null] 342 (RR V) x G L) := by
  rw [rh_237_77]
  try simp only [gd_tt, k_156]
set_option maxRecDepth 20000 in
theorem rh_237_106 {d x : Nat} {R : sm_R} {G : sm_G} {L : sm_L} {v1 : Int32} : hD d 237 106 [.ref 156, .int v1, .null, .null] 342 R x G L =
  if ((sm_up G 156 3 (G 156 6)) 156 5) = (i3 0) then
    (gd (sm_is (R 156 25) 342 20) (gd (sm_in v1 (sm_N (R 156 25))) (hD d 237 141 [.ref 156, .int v1, .null, .int (i3 0)] 342 R x (sm_up (sm_up G 156 3 (G 156 6)) (R 156 25) v1.toNatClampNeg ((sm_up G 156 3 (G 156 6)) 156 34)) L)))
  else (oI (((sm_up G 156 3 (G 156 6)) 156 5) - (i3 10)) x (sm_up G 156 3 (G 156 6)) L) := hD_eq.trans rfl
set_option maxRecDepth 20000 in
theorem h_237_106 {d x : Nat} {V : pV} {G : sm_G} {L : sm_L} {v1 : Int32} : hD d 237 106 [.ref 156, .int v1, .null, .null] 342 (RR V) x G L =
  if ((sm_up G 156 3 (G 156 6)) 156 5) = (i3 0) then
    (gd (sm_in v1 4) (hD d 237 141 [.ref 156, .int v1, .null, .int (i3 0)] 342 (RR V) x (sm_up (sm_up G 156 3 (G 156 6)) 241 v1.toNatClampNeg ((sm_up G 156 3 (G 156 6)) 156 34)) L))
  else (oI (((sm_up G 156 3 (G 156 6)) 156 5) - (i3 10)) x (sm_up G 156 3 (G 156 6)) L) := by
  rw [rh_237_106]
  try simp only [gd_tt, (q_156_25 V), k_156, k_241, n_241]
set_option maxRecDepth 20000 in
theorem rh_237_141 {d x : Nat} {R : sm_R} {G : sm_G} {L : sm_L} {v1 v3 : Int32} : hD d 237 141 [.ref 156, .int v1, .null, .int v3] 342 R x G L =
  if v3 < ((i3 5) * (G 156 34)) then
    (gd (Nat.ble 24 (sm_K (R 156 26)) && Nat.ble (sm_K (R 156 26)) 27 && Nat.ble (R 156 26) 342) (gd (sm_in v1 (sm_N (R 156 26))) (ldi (R 156 32) v3 G (fun y1 => gd (sm_is (R (R 156 26) v1.toNatClampNeg) 342 20) (gd (sm_in v3 (sm_N (R (R 156 26) v1.toNatClampNeg))) (hD d 237 141 [.ref 156, .int v1, .null, .int (v3 + (i3 1))] 342 R x (sm_up G (R (R 156 26) v1.toNatClampNeg) v3.toNatClampNeg y1) L))))))
  else (hD d 237 173 [.ref 156, .int v1, .null, .int (i3 0)] 342 R x G L) := hD_eq.trans rfl
set_option maxRecDepth 20000 in
theorem h_237_141 {d x : Nat} {V : pV} {G : sm_G} {L : sm_L} {v1 v3 : Int32} : hD d 237 141 [.ref 156, .int v1, .null, .int v3] 342 (RR V) x G L =
  if v3 < ((i3 5) * (G 156 34)) then
    (gd (sm_in v1 4) (gd (sm_in v3 400) (gd (sm_is (RR V 242 v1.toNatClampNeg) 342 20) (gd (sm_in v3 (sm_N (RR V 242 v1.toNatClampNeg))) (hD d 237 141 [.ref 156, .int v1, .null, .int (v3 + (i3 1))] 342 (RR V) x (sm_up G (RR V 242 v1.toNatClampNeg) v3.toNatClampNeg (G 303 v3.toNatClampNeg)) L)))))
  else (hD d 237 173 [.ref 156, .int v1, .null, .int (i3 0)] 342 (RR V) x G L) := by
  rw [rh_237_141]
  try simp only [gd_tt, (q_156_26 V), (q_156_32 V), a_242, k_156, ldi_e k_303 n_303, n_242, n_303]
set_option maxRecDepth 20000 in
theorem rh_237_173 {d x : Nat} {R : sm_R} {G : sm_G} {L : sm_L} {v1 v3 : Int32} : hD d 237 173 [.ref 156, .int v1, .null, .int v3] 342 R x G L =
  if v3 < ((i3 3) * (G 156 35)) then
    (gd (Nat.ble 24 (sm_K (R 156 27)) && Nat.ble (sm_K (R 156 27)) 27 && Nat.ble (R 156 27) 342) (gd (sm_in v1 (sm_N (R 156 27))) (ldi (R 156 33) v3 G (fun y1 => gd (sm_is (R (R 156 27) v1.toNatClampNeg) 342 20) (gd (sm_in v3 (sm_N (R (R 156 27) v1.toNatClampNeg))) (hD d 237 173 [.ref 156, .int v1, .null, .int (v3 + (i3 1))] 342 R x (sm_up G (R (R 156 27) v1.toNatClampNeg) v3.toNatClampNeg y1) L))))))
  else (oI (G 156 34) x G L) := hD_eq.trans rfl
set_option maxRecDepth 20000 in
theorem h_237_173 {d x : Nat} {V : pV} {G : sm_G} {L : sm_L} {v1 v3 : Int32} : hD d 237 173 [.ref 156, .int v1, .null, .int v3] 342 (RR V) x G L =
  if v3 < ((i3 3) * (G 156 35)) then
    (gd (sm_in v1 4) (gd (sm_in v3 240) (gd (sm_is (RR V 247 v1.toNatClampNeg) 342 20) (gd (sm_in v3 (sm_N (RR V 247 v1.toNatClampNeg))) (hD d 237 173 [.ref 156, .int v1, .null, .int (v3 + (i3 1))] 342 (RR V) x (sm_up G (RR V 247 v1.toNatClampNeg) v3.toNatClampNeg (G 304 v3.toNatClampNeg)) L)))))
  else (oI (G 156 34) x G L) := by
  rw [rh_237_173]
  try simp only [gd_tt, (q_156_27 V), (q_156_33 V), a_247, k_156, ldi_e k_304 n_304, n_247, n_304]
/-! M_isDreamer -/
set_option maxRecDepth 20000 in
theorem rm_238 {d x : Nat} {R : sm_R} {G : sm_G} {L : sm_L} {v1 : Int32} : sm_cv0 (d + 1) 238 342 R [.ref 156, .int v1] (x, G, L) =
  ldi (R 156 12) (i3 4) G (fun y1 => sm_aI (sm_cv0 d 218 342 R [.int v1, .int (i3 0), .int (y1 - (i3 1))] (x, G, L)) (fun a2 x2 G2 L2 =>
    zd a2 (oI a2 x2 G2 L2)) oX) := (cv_eq rfl rfl).trans (hD_eq.trans rfl)
set_option maxRecDepth 20000 in
theorem m_238 {d x : Nat} {V : pV} {G : sm_G} {L : sm_L} {v1 : Int32} : sm_cv0 (d + 1) 238 342 (RR V) [.ref 156, .int v1] (x, G, L) =
  sm_aI (sm_cv0 d 218 342 (RR V) [.int v1, .int (i3 0), .int ((G 160 4) - (i3 1))] (x, G, L)) (fun a2 x2 G2 L2 =>
    zd a2 (oI a2 x2 G2 L2)) oX := by
  rw [rm_238]
  try simp only [gd_tt, (q_156_12 V), cl_4, inl_4_6, k_156, ldi_e k_160 n_160, n_160]
/-! M_readsStep -/
set_option maxRecDepth 20000 in
theorem rm_239 {d x : Nat} {R : sm_R} {G : sm_G} {L : sm_L} : sm_cv0 (d + 1) 239 342 R [.ref 156] (x, G, L) =
  sm_aI (sm_cv0 d 240 342 R [.ref 156] (x, G, L)) (fun a1 x1 G1 L1 =>
    if a1 = m1 then
      (sm_aV (sm_cv0 d 229 342 R [.ref 156, .int (i3 1), .int (G1 156 4)] (x1, G1, L1)) (fun x2 G2 L2 =>
        hD d 239 19 [.ref 156, .int a1, .null] 342 R x2 G2 L2) oX)
    else (hD d 239 19 [.ref 156, .int a1, .null] 342 R x1 G1 L1)) oX := (cv_eq rfl rfl).trans (hD_eq.trans rfl)
set_option maxRecDepth 20000 in
theorem m_239 {d x : Nat} {V : pV} {G : sm_G} {L : sm_L} : sm_cv0 (d + 1) 239 342 (RR V) [.ref 156] (x, G, L) =
  sm_aI (sm_cv0 d 240 342 (RR V) [.ref 156] (x, G, L)) (fun a1 x1 G1 L1 =>
    if a1 = m1 then
      (sm_aV (sm_cv0 d 229 342 (RR V) [.ref 156, .int (i3 1), .int (G1 156 4)] (x1, G1, L1)) (fun x2 G2 L2 =>
        hD d 239 19 [.ref 156, .int a1, .null] 342 (RR V) x2 G2 L2) oX)
    else (hD d 239 19 [.ref 156, .int a1, .null] 342 (RR V) x1 G1 L1)) oX := by
  rw [rm_239]
  try simp only [gd_tt, k_156]
set_option maxRecDepth 20000 in
theorem rh_239_19 {d x : Nat} {R : sm_R} {G : sm_G} {L : sm_L} {v1 : Int32} : hD d 239 19 [.ref 156, .int v1, .null] 342 R x G L =
  if (G 156 5) = (i3 0) then
    (sm_aV (sm_cv0 d 231 342 R [.ref 156] (x, G, L)) (fun x1 G1 L1 =>
      gd (sm_is (R 156 32) 342 20) (gd (sm_in ((i3 5) * (G1 156 34)) (sm_N (R 156 32))) (if v1 = (i3 0) then
        (ldi (R 156 12) (i3 0) (sm_up (sm_up G1 156 34 ((G1 156 34) + (i3 1))) (R 156 32) (((i3 5) * (G1 156 34)).toNatClampNeg) v1) (fun y2 => sm_aI (sm_cv0 d 232 342 R [.ref 156, .int (i3 0), .int (y2 - (i3 1))] (x1, sm_up (sm_up G1 156 34 ((G1 156 34) + (i3 1))) (R 156 32) (((i3 5) * (G1 156 34)).toNatClampNeg) v1, L1)) (fun a3 x3 G3 L3 =>
          gd (sm_is (R 156 32) 342 20) (gd (sm_in (((i3 5) * (G1 156 34)) + (i3 1)) (sm_N (R 156 32))) (hD d 239 128 [.ref 156, .int v1, .int ((i3 5) * (G1 156 34))] 342 R x3 (sm_up G3 (R 156 32) ((((i3 5) * (G1 156 34)) + (i3 1)).toNatClampNeg) a3) L3))) oX))
      else (if v1 = (i3 1) then
          (sm_aI (sm_cv0 d 232 342 R [.ref 156, .int (i3 1), .int (i3 99)] (x1, sm_up (sm_up G1 156 34 ((G1 156 34) + (i3 1))) (R 156 32) (((i3 5) * (G1 156 34)).toNatClampNeg) v1, L1)) (fun a4 x4 G4 L4 =>
            gd (sm_is (R 156 32) 342 20) (gd (sm_in (((i3 5) * (G1 156 34)) + (i3 1)) (sm_N (R 156 32))) (hD d 239 128 [.ref 156, .int v1, .int ((i3 5) * (G1 156 34))] 342 R x4 (sm_up G4 (R 156 32) ((((i3 5) * (G1 156 34)) + (i3 1)).toNatClampNeg) a4) L4))) oX)
        else (if v1 = (i3 2) then
            (sm_aI (sm_cv0 d 232 342 R [.ref 156, .int (i3 0), .int (i3 5)] (x1, sm_up (sm_up G1 156 34 ((G1 156 34) + (i3 1))) (R 156 32) (((i3 5) * (G1 156 34)).toNatClampNeg) v1, L1)) (fun a5 x5 G5 L5 =>
              gd (sm_is (R 156 32) 342 20) (gd (sm_in (((i3 5) * (G1 156 34)) + (i3 1)) (sm_N (R 156 32))) (hD d 239 128 [.ref 156, .int v1, .int ((i3 5) * (G1 156 34))] 342 R x5 (sm_up G5 (R 156 32) ((((i3 5) * (G1 156 34)) + (i3 1)).toNatClampNeg) a5) L5))) oX)
          else (if v1 = (i3 3) then
              (sm_aI (sm_cv0 d 232 342 R [.ref 156, .int (i3 0), .int (i3 20)] (x1, sm_up (sm_up G1 156 34 ((G1 156 34) + (i3 1))) (R 156 32) (((i3 5) * (G1 156 34)).toNatClampNeg) v1, L1)) (fun a6 x6 G6 L6 =>
                gd (sm_is (R 156 32) 342 20) (gd (sm_in (((i3 5) * (G1 156 34)) + (i3 1)) (sm_N (R 156 32))) (hD d 239 128 [.ref 156, .int v1, .int ((i3 5) * (G1 156 34))] 342 R x6 (sm_up G6 (R 156 32) ((((i3 5) * (G1 156 34)) + (i3 1)).toNatClampNeg) a6) L6))) oX)
            else (gd (sm_is (R 156 32) 342 20) (gd (sm_in (((i3 5) * (G1 156 34)) + (i3 1)) (sm_N (R 156 32))) (hD d 239 128 [.ref 156, .int v1, .int ((i3 5) * (G1 156 34))] 342 R x1 (sm_up (sm_up (sm_up G1 156 34 ((G1 156 34) + (i3 1))) (R 156 32) (((i3 5) * (G1 156 34)).toNatClampNeg) v1) (R 156 32) ((((i3 5) * (G1 156 34)) + (i3 1)).toNatClampNeg) (i3 0)) L1))))))))) oX)
  else (oV x G L) := hD_eq.trans rfl
set_option maxRecDepth 20000 in
theorem h_239_19 {d x : Nat} {V : pV} {G : sm_G} {L : sm_L} {v1 : Int32} : hD d 239 19 [.ref 156, .int v1, .null] 342 (RR V) x G L =
  if (G 156 5) = (i3 0) then
    (sm_aV (sm_cv0 d 231 342 (RR V) [.ref 156] (x, G, L)) (fun x1 G1 L1 =>
      gd (sm_in ((i3 5) * (G1 156 34)) 400) (if v1 = (i3 0) then
        (sm_aI (sm_cv0 d 232 342 (RR V) [.ref 156, .int (i3 0), .int (((sm_up (sm_up G1 156 34 ((G1 156 34) + (i3 1))) 303 (((i3 5) * (G1 156 34)).toNatClampNeg) v1) 160 0) - (i3 1))] (x1, sm_up (sm_up G1 156 34 ((G1 156 34) + (i3 1))) 303 (((i3 5) * (G1 156 34)).toNatClampNeg) v1, L1)) (fun a3 x3 G3 L3 =>
          gd (sm_in (((i3 5) * (G1 156 34)) + (i3 1)) 400) (hD d 239 128 [.ref 156, .int v1, .int ((i3 5) * (G1 156 34))] 342 (RR V) x3 (sm_up G3 303 ((((i3 5) * (G1 156 34)) + (i3 1)).toNatClampNeg) a3) L3)) oX)
      else (if v1 = (i3 1) then
          (sm_aI (sm_cv0 d 232 342 (RR V) [.ref 156, .int (i3 1), .int (i3 99)] (x1, sm_up (sm_up G1 156 34 ((G1 156 34) + (i3 1))) 303 (((i3 5) * (G1 156 34)).toNatClampNeg) v1, L1)) (fun a4 x4 G4 L4 =>
            gd (sm_in (((i3 5) * (G1 156 34)) + (i3 1)) 400) (hD d 239 128 [.ref 156, .int v1, .int ((i3 5) * (G1 156 34))] 342 (RR V) x4 (sm_up G4 303 ((((i3 5) * (G1 156 34)) + (i3 1)).toNatClampNeg) a4) L4)) oX)
        else (if v1 = (i3 2) then
            (sm_aI (sm_cv0 d 232 342 (RR V) [.ref 156, .int (i3 0), .int (i3 5)] (x1, sm_up (sm_up G1 156 34 ((G1 156 34) + (i3 1))) 303 (((i3 5) * (G1 156 34)).toNatClampNeg) v1, L1)) (fun a5 x5 G5 L5 =>
              gd (sm_in (((i3 5) * (G1 156 34)) + (i3 1)) 400) (hD d 239 128 [.ref 156, .int v1, .int ((i3 5) * (G1 156 34))] 342 (RR V) x5 (sm_up G5 303 ((((i3 5) * (G1 156 34)) + (i3 1)).toNatClampNeg) a5) L5)) oX)
          else (if v1 = (i3 3) then
              (sm_aI (sm_cv0 d 232 342 (RR V) [.ref 156, .int (i3 0), .int (i3 20)] (x1, sm_up (sm_up G1 156 34 ((G1 156 34) + (i3 1))) 303 (((i3 5) * (G1 156 34)).toNatClampNeg) v1, L1)) (fun a6 x6 G6 L6 =>
                gd (sm_in (((i3 5) * (G1 156 34)) + (i3 1)) 400) (hD d 239 128 [.ref 156, .int v1, .int ((i3 5) * (G1 156 34))] 342 (RR V) x6 (sm_up G6 303 ((((i3 5) * (G1 156 34)) + (i3 1)).toNatClampNeg) a6) L6)) oX)
            else (gd (sm_in (((i3 5) * (G1 156 34)) + (i3 1)) 400) (hD d 239 128 [.ref 156, .int v1, .int ((i3 5) * (G1 156 34))] 342 (RR V) x1 (sm_up (sm_up (sm_up G1 156 34 ((G1 156 34) + (i3 1))) 303 (((i3 5) * (G1 156 34)).toNatClampNeg) v1) 303 ((((i3 5) * (G1 156 34)) + (i3 1)).toNatClampNeg) (i3 0)) L1))))))) oX)
  else (oV x G L) := by
  rw [rh_239_19]
  try simp only [gd_tt, (q_156_12 V), (q_156_32 V), cl_0, inl_0_6, k_156, k_303, ldi_e k_160 n_160, n_160, n_303]
set_option maxRecDepth 20000 in
theorem rh_239_128 {d x : Nat} {R : sm_R} {G : sm_G} {L : sm_L} {v1 v2 : Int32} : hD d 239 128 [.ref 156, .int v1, .int v2] 342 R x G L =
  gd (sm_is (R 156 32) 342 20) (gd (sm_in (v2 + (i3 2)) (sm_N (R 156 32))) (if v1 ≤ (i3 3) then
    (hD d 239 149 [.ref 156, .int v1, .int v2] 342 R x (sm_up G (R 156 32) ((v2 + (i3 2)).toNatClampNeg) (G 156 35)) L)
  else (sm_aV (sm_cv0 d 241 342 R [.ref 156] (x, sm_up G (R 156 32) ((v2 + (i3 2)).toNatClampNeg) (G 156 35), L)) (fun x1 G1 L1 =>
      hD d 239 149 [.ref 156, .int v1, .int v2] 342 R x1 G1 L1) oX))) := hD_eq.trans rfl
set_option maxRecDepth 20000 in
theorem h_239_128 {d x : Nat} {V : pV} {G : sm_G} {L : sm_L} {v1 v2 : Int32} : hD d 239 128 [.ref 156, .int v1, .int v2] 342 (RR V) x G L =
  gd (sm_in (v2 + (i3 2)) 400) (if v1 ≤ (i3 3) then
    (hD d 239 149 [.ref 156, .int v1, .int v2] 342 (RR V) x (sm_up G 303 ((v2 + (i3 2)).toNatClampNeg) (G 156 35)) L)
  else (sm_aV (sm_cv0 d 241 342 (RR V) [.ref 156] (x, sm_up G 303 ((v2 + (i3 2)).toNatClampNeg) (G 156 35), L)) (fun x1 G1 L1 =>
      hD d 239 149 [.ref 156, .int v1, .int v2] 342 (RR V) x1 G1 L1) oX)) := by
  rw [rh_239_128]
  try simp only [gd_tt, (q_156_32 V), k_156, k_303, n_303]
set_option maxRecDepth 20000 in
theorem rh_239_149 {d x : Nat} {R : sm_R} {G : sm_G} {L : sm_L} {v1 v2 : Int32} : hD d 239 149 [.ref 156, .int v1, .int v2] 342 R x G L =
  if v1 ≤ (i3 2) then
    (hD d 239 158 [.ref 156, .int v1, .int v2] 342 R x G L)
  else (sm_aV (sm_cv0 d 243 342 R [.ref 156] (x, G, L)) (fun x1 G1 L1 =>
      hD d 239 158 [.ref 156, .int v1, .int v2] 342 R x1 G1 L1) oX) := hD_eq.trans rfl
set_option maxRecDepth 20000 in
theorem h_239_149 {d x : Nat} {V : pV} {G : sm_G} {L : sm_L} {v1 v2 : Int32} : hD d 239 149 [.ref 156, .int v1, .int v2] 342 (RR V) x G L =
  if v1 ≤ (i3 2) then
    (hD d 239 158 [.ref 156, .int v1, .int v2] 342 (RR V) x G L)
  else (sm_aV (sm_cv0 d 243 342 (RR V) [.ref 156] (x, G, L)) (fun x1 G1 L1 =>
      hD d 239 158 [.ref 156, .int v1, .int v2] 342 (RR V) x1 G1 L1) oX) := by
  rw [rh_239_149]
  try simp only [gd_tt, k_156]
set_option maxRecDepth 20000 in
theorem rh_239_158 {d x : Nat} {R : sm_R} {G : sm_G} {L : sm_L} {v1 v2 : Int32} : hD d 239 158 [.ref 156, .int v1, .int v2] 342 R x G L =
  gd (sm_is (R 156 32) 342 20) (gd (sm_in (v2 + (i3 3)) (sm_N (R 156 32))) (if v1 = (i3 5) then
    (sm_aI (sm_cv0 d 242 342 R [.ref 156, .int (i3 5), .int (i3 12), .int (i3 19), .int (i3 5), .int (i3 0), .int (i3 0), .int (i3 0)] (x, sm_up G (R 156 32) ((v2 + (i3 3)).toNatClampNeg) (G 156 34), L)) (fun a1 x1 G1 L1 =>
      if a1 = (i3 0) then
        (hD d 239 195 [.ref 156, .null, .int v2] 342 R x1 G1 L1)
      else (sm_aV (sm_cv0 d 243 342 R [.ref 156] (x1, G1, L1)) (fun x2 G2 L2 =>
          hD d 239 195 [.ref 156, .null, .int v2] 342 R x2 G2 L2) oX)) oX)
  else (hD d 239 195 [.ref 156, .null, .int v2] 342 R x (sm_up G (R 156 32) ((v2 + (i3 3)).toNatClampNeg) (G 156 34)) L))) := hD_eq.trans rfl
set_option maxRecDepth 20000 in
theorem h_239_158 {d x : Nat} {V : pV} {G : sm_G} {L : sm_L} {v1 v2 : Int32} : hD d 239 158 [.ref 156, .int v1, .int v2] 342 (RR V) x G L =
  gd (sm_in (v2 + (i3 3)) 400) (if v1 = (i3 5) then
    (sm_aI (sm_cv0 d 242 342 (RR V) [.ref 156, .int (i3 5), .int (i3 12), .int (i3 19), .int (i3 5), .int (i3 0), .int (i3 0), .int (i3 0)] (x, sm_up G 303 ((v2 + (i3 3)).toNatClampNeg) (G 156 34), L)) (fun a1 x1 G1 L1 =>
      if a1 = (i3 0) then
        (hD d 239 195 [.ref 156, .null, .int v2] 342 (RR V) x1 G1 L1)
      else (sm_aV (sm_cv0 d 243 342 (RR V) [.ref 156] (x1, G1, L1)) (fun x2 G2 L2 =>
          hD d 239 195 [.ref 156, .null, .int v2] 342 (RR V) x2 G2 L2) oX)) oX)
  else (hD d 239 195 [.ref 156, .null, .int v2] 342 (RR V) x (sm_up G 303 ((v2 + (i3 3)).toNatClampNeg) (G 156 34)) L)) := by
  rw [rh_239_158]
  try simp only [gd_tt, (q_156_32 V), k_156, k_303, n_303]
set_option maxRecDepth 20000 in
theorem rh_239_195 {d x : Nat} {R : sm_R} {G : sm_G} {L : sm_L} {v2 : Int32} : hD d 239 195 [.ref 156, .null, .int v2] 342 R x G L =
  gd (sm_is (R 156 32) 342 20) (gd (sm_in (v2 + (i3 4)) (sm_N (R 156 32))) (sm_aV (sm_cv0 d 236 342 R [.ref 156, .int (i3 59)] (x, sm_up G (R 156 32) ((v2 + (i3 4)).toNatClampNeg) (G 156 34), L)) (fun x1 G1 L1 =>
    oV x1 G1 L1) oX)) := hD_eq.trans rfl
set_option maxRecDepth 20000 in
theorem h_239_195 {d x : Nat} {V : pV} {G : sm_G} {L : sm_L} {v2 : Int32} : hD d 239 195 [.ref 156, .null, .int v2] 342 (RR V) x G L =
  gd (sm_in (v2 + (i3 4)) 400) (sm_aV (sm_cv0 d 236 342 (RR V) [.ref 156, .int (i3 59)] (x, sm_up G 303 ((v2 + (i3 4)).toNatClampNeg) (G 156 34), L)) (fun x1 G1 L1 =>
    oV x1 G1 L1) oX) := by
  rw [rh_239_195]
  try simp only [gd_tt, (q_156_32 V), k_156, k_303, n_303]
/-! M_stepHere -/
set_option maxRecDepth 20000 in
theorem rm_240 {d x : Nat} {R : sm_R} {G : sm_G} {L : sm_L} : sm_cv0 (d + 1) 240 342 R [.ref 156] (x, G, L) =
  sm_aI (sm_cv0 d 225 342 R [.ref 156, .int (i3 20), .int (i3 15), .int (i3 0), .int (i3 0), .int (i3 0), .int (i3 0), .int (i3 0)] (x, G, L)) (fun a1 x1 G1 L1 =>
    if a1 = (i3 0) then
      (sm_aI (sm_cv0 d 225 342 R [.ref 156, .int (i3 23), .int (i3 1), .int (i3 9), .int (i3 20), .int (i3 0), .int (i3 0), .int (i3 0)] (x1, G1, L1)) (fun a2 x2 G2 L2 =>
        if a2 = (i3 0) then
          (sm_aI (sm_cv0 d 225 342 R [.ref 156, .int (i3 3), .int (i3 1), .int (i3 12), .int (i3 12), .int (i3 0), .int (i3 0), .int (i3 0)] (x2, G2, L2)) (fun a3 x3 G3 L3 =>
            if a3 = (i3 0) then
              (sm_aI (sm_cv0 d 225 342 R [.ref 156, .int (i3 1), .int (i3 7), .int (i3 1), .int (i3 9), .int (i3 14), .int (i3 0), .int (i3 0)] (x3, G3, L3)) (fun a4 x4 G4 L4 =>
                if a4 = (i3 0) then
                  (sm_aI (sm_cv0 d 225 342 R [.ref 156, .int (i3 21), .int (i3 14), .int (i3 20), .int (i3 9), .int (i3 12), .int (i3 0), .int (i3 0)] (x4, G4, L4)) (fun a5 x5 G5 L5 =>
                    if a5 = (i3 0) then
                      (sm_aI (sm_cv0 d 225 342 R [.ref 156, .int (i3 9), .int (i3 6), .int (i3 0), .int (i3 0), .int (i3 0), .int (i3 0), .int (i3 0)] (x5, G5, L5)) (fun a6 x6 G6 L6 =>
                        if a6 = (i3 0) then
                          (oI m1 x6 G6 L6)
                        else (oI (i3 5) x6 G6 L6)) oX)
                    else (oI (i3 4) x5 G5 L5)) oX)
                else (oI (i3 3) x4 G4 L4)) oX)
            else (oI (i3 2) x3 G3 L3)) oX)
        else (oI (i3 1) x2 G2 L2)) oX)
    else (oI (i3 0) x1 G1 L1)) oX := (cv_eq rfl rfl).trans (hD_eq.trans rfl)
set_option maxRecDepth 20000 in
theorem m_240 {d x : Nat} {V : pV} {G : sm_G} {L : sm_L} : sm_cv0 (d + 1) 240 342 (RR V) [.ref 156] (x, G, L) =
  sm_aI (sm_cv0 d 225 342 (RR V) [.ref 156, .int (i3 20), .int (i3 15), .int (i3 0), .int (i3 0), .int (i3 0), .int (i3 0), .int (i3 0)] (x, G, L)) (fun a1 x1 G1 L1 =>
    if a1 = (i3 0) then
      (sm_aI (sm_cv0 d 225 342 (RR V) [.ref 156, .int (i3 23), .int (i3 1), .int (i3 9), .int (i3 20), .int (i3 0), .int (i3 0), .int (i3 0)] (x1, G1, L1)) (fun a2 x2 G2 L2 =>
        if a2 = (i3 0) then
          (sm_aI (sm_cv0 d 225 342 (RR V) [.ref 156, .int (i3 3), .int (i3 1), .int (i3 12), .int (i3 12), .int (i3 0), .int (i3 0), .int (i3 0)] (x2, G2, L2)) (fun a3 x3 G3 L3 =>
            if a3 = (i3 0) then
              (sm_aI (sm_cv0 d 225 342 (RR V) [.ref 156, .int (i3 1), .int (i3 7), .int (i3 1), .int (i3 9), .int (i3 14), .int (i3 0), .int (i3 0)] (x3, G3, L3)) (fun a4 x4 G4 L4 =>
                if a4 = (i3 0) then
                  (sm_aI (sm_cv0 d 225 342 (RR V) [.ref 156, .int (i3 21), .int (i3 14), .int (i3 20), .int (i3 9), .int (i3 12), .int (i3 0), .int (i3 0)] (x4, G4, L4)) (fun a5 x5 G5 L5 =>
                    if a5 = (i3 0) then
                      (sm_aI (sm_cv0 d 225 342 (RR V) [.ref 156, .int (i3 9), .int (i3 6), .int (i3 0), .int (i3 0), .int (i3 0), .int (i3 0), .int (i3 0)] (x5, G5, L5)) (fun a6 x6 G6 L6 =>
                        if a6 = (i3 0) then
                          (oI m1 x6 G6 L6)
                        else (oI (i3 5) x6 G6 L6)) oX)
                    else (oI (i3 4) x5 G5 L5)) oX)
                else (oI (i3 3) x4 G4 L4)) oX)
            else (oI (i3 2) x3 G3 L3)) oX)
        else (oI (i3 1) x2 G2 L2)) oX)
    else (oI (i3 0) x1 G1 L1)) oX := by
  rw [rm_240]
  try simp only [gd_tt, k_156]
/-! M_readsTest -/
set_option maxRecDepth 20000 in
theorem rm_241 {d x : Nat} {R : sm_R} {G : sm_G} {L : sm_L} : sm_cv0 (d + 1) 241 342 R [.ref 156] (x, G, L) =
  hD d 241 2 [.ref 156, .int (i3 0), .null, .null] 342 R x G L := (cv_eq rfl rfl).trans (hD_eq.trans rfl)
theorem m_241 {d x : Nat} {V : pV} {G : sm_G} {L : sm_L} : sm_cv0 (d + 1) 241 342 (RR V) [.ref 156] (x, G, L) =
  hD d 241 2 [.ref 156, .int (i3 0), .null, .null] 342 (RR V) x G L := rm_241
set_option maxRecDepth 20000 in
theorem rh_241_2 {d x : Nat} {R : sm_R} {G : sm_G} {L : sm_L} {v1 : Int32} : hD d 241 2 [.ref 156, .int v1, .null, .null] 342 R x G L =
  sm_aI (sm_cv0 d 225 342 R [.ref 156, .int (i3 14), .int (i3 15), .int (i3 20), .int (i3 0), .int (i3 0), .int (i3 0), .int (i3 0)] (x, G, L)) (fun a1 x1 G1 L1 =>
    if a1 = (i3 0) then
      (if (G1 156 5) = (i3 0) then
        (sm_aI (sm_cv0 d 242 342 R [.ref 156, .int (i3 9), .int (i3 14), .int (i3 0), .int (i3 0), .int (i3 0), .int (i3 0), .int (i3 0)] (x1, G1, L1)) (fun a2 x2 G2 L2 =>
          if a2 = (i3 0) then
            (sm_aI (sm_cv0 d 242 342 R [.ref 156, .int (i3 15), .int (i3 16), .int (i3 5), .int (i3 14), .int (i3 0), .int (i3 0), .int (i3 0)] (x2, G2, L2)) (fun a3 x3 G3 L3 =>
              if a3 = (i3 0) then
                (sm_aI (sm_cv0 d 242 342 R [.ref 156, .int (i3 20), .int (i3 8), .int (i3 5), .int (i3 18), .int (i3 5), .int (i3 0), .int (i3 0)] (x3, G3, L3)) (fun a4 x4 G4 L4 =>
                  if a4 = (i3 0) then
                    (sm_aI (sm_cv0 d 242 342 R [.ref 156, .int (i3 13), .int (i3 5), .int (i3 20), .int (i3 0), .int (i3 0), .int (i3 0), .int (i3 0)] (x4, G4, L4)) (fun a5 x5 G5 L5 =>
                      if a5 = (i3 0) then
                        (sm_aI (sm_cv0 d 242 342 R [.ref 156, .int (i3 1), .int (i3 6), .int (i3 20), .int (i3 5), .int (i3 18), .int (i3 0), .int (i3 0)] (x5, G5, L5)) (fun a6 x6 G6 L6 =>
                          if a6 = (i3 0) then
                            (hD d 241 165 [.ref 156, .int v1, .int m1, .null] 342 R x6 G6 L6)
                          else (hD d 241 165 [.ref 156, .int v1, .int (i3 4), .null] 342 R x6 G6 L6)) oX)
                      else (hD d 241 165 [.ref 156, .int v1, .int (i3 3), .null] 342 R x5 G5 L5)) oX)
                  else (hD d 241 165 [.ref 156, .int v1, .int (i3 2), .null] 342 R x4 G4 L4)) oX)
              else (hD d 241 165 [.ref 156, .int v1, .int (i3 1), .null] 342 R x3 G3 L3)) oX)
          else (hD d 241 165 [.ref 156, .int v1, .int (i3 0), .null] 342 R x2 G2 L2)) oX)
      else (oV x1 G1 L1))
    else (if v1 = (i3 6) then
        (sm_aV (sm_cv0 d 229 342 R [.ref 156, .int (i3 3), .int (G1 156 4)] (x1, G1, L1)) (fun x7 G7 L7 =>
          if (G7 156 5) = (i3 0) then
            (sm_aV (sm_cv0 d 231 342 R [.ref 156] (x7, G7, L7)) (fun x8 G8 L8 =>
              hD d 241 2 [.ref 156, .int (v1 + (i3 1)), .null, .null] 342 R x8 G8 L8) oX)
          else (oV x7 G7 L7)) oX)
      else (if (G1 156 5) = (i3 0) then
          (sm_aV (sm_cv0 d 231 342 R [.ref 156] (x1, G1, L1)) (fun x9 G9 L9 =>
            hD d 241 2 [.ref 156, .int (v1 + (i3 1)), .null, .null] 342 R x9 G9 L9) oX)
        else (oV x1 G1 L1)))) oX := hD_eq.trans rfl
set_option maxRecDepth 20000 in
theorem h_241_2 {d x : Nat} {V : pV} {G : sm_G} {L : sm_L} {v1 : Int32} : hD d 241 2 [.ref 156, .int v1, .null, .null] 342 (RR V) x G L =
  sm_aI (sm_cv0 d 225 342 (RR V) [.ref 156, .int (i3 14), .int (i3 15), .int (i3 20), .int (i3 0), .int (i3 0), .int (i3 0), .int (i3 0)] (x, G, L)) (fun a1 x1 G1 L1 =>
    if a1 = (i3 0) then
      (if (G1 156 5) = (i3 0) then
        (sm_aI (sm_cv0 d 242 342 (RR V) [.ref 156, .int (i3 9), .int (i3 14), .int (i3 0), .int (i3 0), .int (i3 0), .int (i3 0), .int (i3 0)] (x1, G1, L1)) (fun a2 x2 G2 L2 =>
          if a2 = (i3 0) then
            (sm_aI (sm_cv0 d 242 342 (RR V) [.ref 156, .int (i3 15), .int (i3 16), .int (i3 5), .int (i3 14), .int (i3 0), .int (i3 0), .int (i3 0)] (x2, G2, L2)) (fun a3 x3 G3 L3 =>
              if a3 = (i3 0) then
                (sm_aI (sm_cv0 d 242 342 (RR V) [.ref 156, .int (i3 20), .int (i3 8), .int (i3 5), .int (i3 18), .int (i3 5), .int (i3 0), .int (i3 0)] (x3, G3, L3)) (fun a4 x4 G4 L4 =>
                  if a4 = (i3 0) then
                    (sm_aI (sm_cv0 d 242 342 (RR V) [.ref 156, .int (i3 13), .int (i3 5), .int (i3 20), .int (i3 0), .int (i3 0), .int (i3 0), .int (i3 0)] (x4, G4, L4)) (fun a5 x5 G5 L5 =>
                      if a5 = (i3 0) then
                        (sm_aI (sm_cv0 d 242 342 (RR V) [.ref 156, .int (i3 1), .int (i3 6), .int (i3 20), .int (i3 5), .int (i3 18), .int (i3 0), .int (i3 0)] (x5, G5, L5)) (fun a6 x6 G6 L6 =>
                          if a6 = (i3 0) then
                            (hD d 241 165 [.ref 156, .int v1, .int m1, .null] 342 (RR V) x6 G6 L6)
                          else (hD d 241 165 [.ref 156, .int v1, .int (i3 4), .null] 342 (RR V) x6 G6 L6)) oX)
                      else (hD d 241 165 [.ref 156, .int v1, .int (i3 3), .null] 342 (RR V) x5 G5 L5)) oX)
                  else (hD d 241 165 [.ref 156, .int v1, .int (i3 2), .null] 342 (RR V) x4 G4 L4)) oX)
              else (hD d 241 165 [.ref 156, .int v1, .int (i3 1), .null] 342 (RR V) x3 G3 L3)) oX)
          else (hD d 241 165 [.ref 156, .int v1, .int (i3 0), .null] 342 (RR V) x2 G2 L2)) oX)
      else (oV x1 G1 L1))
    else (if v1 = (i3 6) then
        (sm_aV (sm_cv0 d 229 342 (RR V) [.ref 156, .int (i3 3), .int (G1 156 4)] (x1, G1, L1)) (fun x7 G7 L7 =>
          if (G7 156 5) = (i3 0) then
            (sm_aV (sm_cv0 d 231 342 (RR V) [.ref 156] (x7, G7, L7)) (fun x8 G8 L8 =>
              hD d 241 2 [.ref 156, .int (v1 + (i3 1)), .null, .null] 342 (RR V) x8 G8 L8) oX)
          else (oV x7 G7 L7)) oX)
      else (if (G1 156 5) = (i3 0) then
          (sm_aV (sm_cv0 d 231 342 (RR V) [.ref 156] (x1, G1, L1)) (fun x9 G9 L9 =>
            hD d 241 2 [.ref 156, .int (v1 + (i3 1)), .null, .null] 342 (RR V) x9 G9 L9) oX)
        else (oV x1 G1 L1)))) oX := by
  rw [rh_241_2]
  try simp only [gd_tt, k_156]
set_option maxRecDepth 20000 in
theorem rh_241_165 {d x : Nat} {R : sm_R} {G : sm_G} {L : sm_L} {v1 v2 : Int32} : hD d 241 165 [.ref 156, .int v1, .int v2, .null] 342 R x G L =
  if v2 = m1 then
    (sm_aV (sm_cv0 d 229 342 R [.ref 156, .int (i3 1), .int (G 156 4)] (x, G, L)) (fun x1 G1 L1 =>
      hD d 241 179 [.ref 156, .int v1, .int v2, .null] 342 R x1 G1 L1) oX)
  else (hD d 241 179 [.ref 156, .int v1, .int v2, .null] 342 R x G L) := hD_eq.trans rfl
set_option maxRecDepth 20000 in
theorem h_241_165 {d x : Nat} {V : pV} {G : sm_G} {L : sm_L} {v1 v2 : Int32} : hD d 241 165 [.ref 156, .int v1, .int v2, .null] 342 (RR V) x G L =
  if v2 = m1 then
    (sm_aV (sm_cv0 d 229 342 (RR V) [.ref 156, .int (i3 1), .int (G 156 4)] (x, G, L)) (fun x1 G1 L1 =>
      hD d 241 179 [.ref 156, .int v1, .int v2, .null] 342 (RR V) x1 G1 L1) oX)
  else (hD d 241 179 [.ref 156, .int v1, .int v2, .null] 342 (RR V) x G L) := by
  rw [rh_241_165]
  try simp only [gd_tt, k_156]
set_option maxRecDepth 20000 in
theorem rh_241_179 {d x : Nat} {R : sm_R} {G : sm_G} {L : sm_L} {v1 v2 : Int32} : hD d 241 179 [.ref 156, .int v1, .int v2, .null] 342 R x G L =
  if (G 156 5) = (i3 0) then
    (gd (sm_is (R 156 33) 342 20) (gd (sm_in ((i3 3) * (G 156 35)) (sm_N (R 156 33))) (if v2 = (i3 3) then
      (gd (sm_is (R 156 33) 342 20) (gd (sm_in (((i3 3) * (G 156 35)) + (i3 1)) (sm_N (R 156 33))) (hD d 241 268 [.ref 156, .int v1, .null, .int ((i3 3) * (G 156 35))] 342 R x (sm_up (sm_up (sm_up G 156 35 ((G 156 35) + (i3 1))) (R 156 33) (((i3 3) * (G 156 35)).toNatClampNeg) v2) (R 156 33) ((((i3 3) * (G 156 35)) + (i3 1)).toNatClampNeg) (i3 0)) L)))
    else (if v2 = (i3 1) then
        (ldi (R 156 12) (i3 1) (sm_up (sm_up G 156 35 ((G 156 35) + (i3 1))) (R 156 33) (((i3 3) * (G 156 35)).toNatClampNeg) v2) (fun y1 => sm_aI (sm_cv0 d 232 342 R [.ref 156, .int (i3 0), .int (y1 - (i3 1))] (x, sm_up (sm_up G 156 35 ((G 156 35) + (i3 1))) (R 156 33) (((i3 3) * (G 156 35)).toNatClampNeg) v2, L)) (fun a2 x2 G2 L2 =>
          gd (sm_is (R 156 33) 342 20) (gd (sm_in (((i3 3) * (G 156 35)) + (i3 1)) (sm_N (R 156 33))) (hD d 241 268 [.ref 156, .int v1, .null, .int ((i3 3) * (G 156 35))] 342 R x2 (sm_up G2 (R 156 33) ((((i3 3) * (G 156 35)) + (i3 1)).toNatClampNeg) a2) L2))) oX))
      else (if v2 = (i3 4) then
          (sm_aI (sm_cv0 d 232 342 R [.ref 156, .int (i3 0), .int (i3 300)] (x, sm_up (sm_up G 156 35 ((G 156 35) + (i3 1))) (R 156 33) (((i3 3) * (G 156 35)).toNatClampNeg) v2, L)) (fun a3 x3 G3 L3 =>
            gd (sm_is (R 156 33) 342 20) (gd (sm_in (((i3 3) * (G 156 35)) + (i3 1)) (sm_N (R 156 33))) (hD d 241 268 [.ref 156, .int v1, .null, .int ((i3 3) * (G 156 35))] 342 R x3 (sm_up G3 (R 156 33) ((((i3 3) * (G 156 35)) + (i3 1)).toNatClampNeg) a3) L3))) oX)
        else (ldi (R 156 12) (i3 0) (sm_up (sm_up G 156 35 ((G 156 35) + (i3 1))) (R 156 33) (((i3 3) * (G 156 35)).toNatClampNeg) v2) (fun y4 => sm_aI (sm_cv0 d 232 342 R [.ref 156, .int (i3 0), .int (y4 - (i3 1))] (x, sm_up (sm_up G 156 35 ((G 156 35) + (i3 1))) (R 156 33) (((i3 3) * (G 156 35)).toNatClampNeg) v2, L)) (fun a5 x5 G5 L5 =>
            gd (sm_is (R 156 33) 342 20) (gd (sm_in (((i3 3) * (G 156 35)) + (i3 1)) (sm_N (R 156 33))) (hD d 241 268 [.ref 156, .int v1, .null, .int ((i3 3) * (G 156 35))] 342 R x5 (sm_up G5 (R 156 33) ((((i3 3) * (G 156 35)) + (i3 1)).toNatClampNeg) a5) L5))) oX)))))))
  else (oV x G L) := hD_eq.trans rfl
set_option maxRecDepth 20000 in
theorem h_241_179 {d x : Nat} {V : pV} {G : sm_G} {L : sm_L} {v1 v2 : Int32} : hD d 241 179 [.ref 156, .int v1, .int v2, .null] 342 (RR V) x G L =
  if (G 156 5) = (i3 0) then
    (gd (sm_in ((i3 3) * (G 156 35)) 240) (if v2 = (i3 3) then
      (gd (sm_in (((i3 3) * (G 156 35)) + (i3 1)) 240) (hD d 241 268 [.ref 156, .int v1, .null, .int ((i3 3) * (G 156 35))] 342 (RR V) x (sm_up (sm_up (sm_up G 156 35 ((G 156 35) + (i3 1))) 304 (((i3 3) * (G 156 35)).toNatClampNeg) v2) 304 ((((i3 3) * (G 156 35)) + (i3 1)).toNatClampNeg) (i3 0)) L))
    else (if v2 = (i3 1) then
        (sm_aI (sm_cv0 d 232 342 (RR V) [.ref 156, .int (i3 0), .int (((sm_up (sm_up G 156 35 ((G 156 35) + (i3 1))) 304 (((i3 3) * (G 156 35)).toNatClampNeg) v2) 160 1) - (i3 1))] (x, sm_up (sm_up G 156 35 ((G 156 35) + (i3 1))) 304 (((i3 3) * (G 156 35)).toNatClampNeg) v2, L)) (fun a2 x2 G2 L2 =>
          gd (sm_in (((i3 3) * (G 156 35)) + (i3 1)) 240) (hD d 241 268 [.ref 156, .int v1, .null, .int ((i3 3) * (G 156 35))] 342 (RR V) x2 (sm_up G2 304 ((((i3 3) * (G 156 35)) + (i3 1)).toNatClampNeg) a2) L2)) oX)
      else (if v2 = (i3 4) then
          (sm_aI (sm_cv0 d 232 342 (RR V) [.ref 156, .int (i3 0), .int (i3 300)] (x, sm_up (sm_up G 156 35 ((G 156 35) + (i3 1))) 304 (((i3 3) * (G 156 35)).toNatClampNeg) v2, L)) (fun a3 x3 G3 L3 =>
            gd (sm_in (((i3 3) * (G 156 35)) + (i3 1)) 240) (hD d 241 268 [.ref 156, .int v1, .null, .int ((i3 3) * (G 156 35))] 342 (RR V) x3 (sm_up G3 304 ((((i3 3) * (G 156 35)) + (i3 1)).toNatClampNeg) a3) L3)) oX)
        else (sm_aI (sm_cv0 d 232 342 (RR V) [.ref 156, .int (i3 0), .int (((sm_up (sm_up G 156 35 ((G 156 35) + (i3 1))) 304 (((i3 3) * (G 156 35)).toNatClampNeg) v2) 160 0) - (i3 1))] (x, sm_up (sm_up G 156 35 ((G 156 35) + (i3 1))) 304 (((i3 3) * (G 156 35)).toNatClampNeg) v2, L)) (fun a5 x5 G5 L5 =>
            gd (sm_in (((i3 3) * (G 156 35)) + (i3 1)) 240) (hD d 241 268 [.ref 156, .int v1, .null, .int ((i3 3) * (G 156 35))] 342 (RR V) x5 (sm_up G5 304 ((((i3 3) * (G 156 35)) + (i3 1)).toNatClampNeg) a5) L5)) oX)))))
  else (oV x G L) := by
  rw [rh_241_179]
  try simp only [gd_tt, (q_156_12 V), (q_156_33 V), cl_0, cl_1, inl_0_6, inl_1_6, k_156, k_304, ldi_e k_160 n_160, n_160, n_304]
set_option maxRecDepth 20000 in
theorem rh_241_268 {d x : Nat} {R : sm_R} {G : sm_G} {L : sm_L} {v1 v3 : Int32} : hD d 241 268 [.ref 156, .int v1, .null, .int v3] 342 R x G L =
  gd (sm_is (R 156 33) 342 20) (gd (sm_in (v3 + (i3 2)) (sm_N (R 156 33))) (oV x (sm_up G (R 156 33) ((v3 + (i3 2)).toNatClampNeg) (irem v1 (i3 2))) L)) := hD_eq.trans rfl
set_option maxRecDepth 20000 in
theorem h_241_268 {d x : Nat} {V : pV} {G : sm_G} {L : sm_L} {v1 v3 : Int32} : hD d 241 268 [.ref 156, .int v1, .null, .int v3] 342 (RR V) x G L =
  gd (sm_in (v3 + (i3 2)) 240) (oV x (sm_up G 304 ((v3 + (i3 2)).toNatClampNeg) (irem v1 (i3 2))) L) := by
  rw [rh_241_268]
  try simp only [gd_tt, (q_156_33 V), k_156, k_304, n_304]
/-! M_takes -/
set_option maxRecDepth 20000 in
theorem rm_242 {d x : Nat} {R : sm_R} {G : sm_G} {L : sm_L} {v1 v2 v3 v4 v5 v6 v7 : Int32} : sm_cv0 (d + 1) 242 342 R [.ref 156, .int v1, .int v2, .int v3, .int v4, .int v5, .int v6, .int v7] (x, G, L) =
  sm_aI (sm_cv0 d 225 342 R [.ref 156, .int v1, .int v2, .int v3, .int v4, .int v5, .int v6, .int v7] (x, G, L)) (fun a1 x1 G1 L1 =>
    if a1 = (i3 0) then
      (zd a1 (oI a1 x1 G1 L1))
    else (sm_aV (sm_cv0 d 231 342 R [.ref 156] (x1, G1, L1)) (fun x2 G2 L2 =>
        zd a1 (oI a1 x2 G2 L2)) oX)) oX := (cv_eq rfl rfl).trans (hD_eq.trans rfl)
set_option maxRecDepth 20000 in
theorem m_242 {d x : Nat} {V : pV} {G : sm_G} {L : sm_L} {v1 v2 v3 v4 v5 v6 v7 : Int32} : sm_cv0 (d + 1) 242 342 (RR V) [.ref 156, .int v1, .int v2, .int v3, .int v4, .int v5, .int v6, .int v7] (x, G, L) =
  sm_aI (sm_cv0 d 225 342 (RR V) [.ref 156, .int v1, .int v2, .int v3, .int v4, .int v5, .int v6, .int v7] (x, G, L)) (fun a1 x1 G1 L1 =>
    if a1 = (i3 0) then
      (zd a1 (oI a1 x1 G1 L1))
    else (sm_aV (sm_cv0 d 231 342 (RR V) [.ref 156] (x1, G1, L1)) (fun x2 G2 L2 =>
        zd a1 (oI a1 x2 G2 L2)) oX)) oX := by
  rw [rm_242]
  try simp only [gd_tt, k_156]
/-! M_block -/
set_option maxRecDepth 20000 in
theorem rm_243 {d x : Nat} {R : sm_R} {G : sm_G} {L : sm_L} : sm_cv0 (d + 1) 243 342 R [.ref 156] (x, G, L) =
  if (G 156 5) = (i3 0) then
    (sm_aV (sm_cv0 d 221 342 R [.ref 156] (x, G, L)) (fun x1 G1 L1 =>
      sm_aI (sm_cv0 d 222 342 R [.ref 156, .int (G1 156 4)] (x1, G1, L1)) (fun a2 x2 G2 L2 =>
        if a2 = (i3 91) then
          (if (G2 156 8) = (i3 6) then
            (sm_aV (sm_cv0 d 229 342 R [.ref 156, .int (i3 3), .int (G2 156 4)] (x2, G2, L2)) (fun x3 G3 L3 =>
              hD d 243 55 [.ref 156] 342 R x3 G3 L3) oX)
          else (hD d 243 55 [.ref 156] 342 R x2 G2 L2))
        else (sm_aV (sm_cv0 d 229 342 R [.ref 156, .int (i3 1), .int (G2 156 4)] (x2, G2, L2)) (fun x4 G4 L4 =>
            hD d 243 55 [.ref 156] 342 R x4 G4 L4) oX)) oX) oX)
  else (oV x G L) := (cv_eq rfl rfl).trans (hD_eq.trans rfl)
set_option maxRecDepth 20000 in
theorem m_243 {d x : Nat} {V : pV} {G : sm_G} {L : sm_L} : sm_cv0 (d + 1) 243 342 (RR V) [.ref 156] (x, G, L) =
  if (G 156 5) = (i3 0) then
    (sm_aV (sm_cv0 d 221 342 (RR V) [.ref 156] (x, G, L)) (fun x1 G1 L1 =>
      sm_aI (sm_cv0 d 222 342 (RR V) [.ref 156, .int (G1 156 4)] (x1, G1, L1)) (fun a2 x2 G2 L2 =>
        if a2 = (i3 91) then
          (if (G2 156 8) = (i3 6) then
            (sm_aV (sm_cv0 d 229 342 (RR V) [.ref 156, .int (i3 3), .int (G2 156 4)] (x2, G2, L2)) (fun x3 G3 L3 =>
              hD d 243 55 [.ref 156] 342 (RR V) x3 G3 L3) oX)
          else (hD d 243 55 [.ref 156] 342 (RR V) x2 G2 L2))
        else (sm_aV (sm_cv0 d 229 342 (RR V) [.ref 156, .int (i3 1), .int (G2 156 4)] (x2, G2, L2)) (fun x4 G4 L4 =>
            hD d 243 55 [.ref 156] 342 (RR V) x4 G4 L4) oX)) oX) oX)
  else (oV x G L) := by
  rw [rm_243]
  try simp only [gd_tt, k_156]
set_option maxRecDepth 20000 in
theorem rh_243_55 {d x : Nat} {R : sm_R} {G : sm_G} {L : sm_L} : hD d 243 55 [.ref 156] 342 R x G L =
  if (G 156 5) = (i3 0) then
    (sm_aV (sm_cv0 d 221 342 R [.ref 156] (x, sm_up (sm_up G 156 8 ((G 156 8) + (i3 1))) 156 4 (((sm_up G 156 8 ((G 156 8) + (i3 1))) 156 4) + (i3 1)), L)) (fun x1 G1 L1 =>
      hD d 243 87 [.ref 156] 342 R x1 G1 L1) oX)
  else (oV x G L) := hD_eq.trans rfl
set_option maxRecDepth 20000 in
theorem h_243_55 {d x : Nat} {V : pV} {G : sm_G} {L : sm_L} : hD d 243 55 [.ref 156] 342 (RR V) x G L =
  if (G 156 5) = (i3 0) then
    (sm_aV (sm_cv0 d 221 342 (RR V) [.ref 156] (x, sm_up (sm_up G 156 8 ((G 156 8) + (i3 1))) 156 4 (((sm_up G 156 8 ((G 156 8) + (i3 1))) 156 4) + (i3 1)), L)) (fun x1 G1 L1 =>
      hD d 243 87 [.ref 156] 342 (RR V) x1 G1 L1) oX)
  else (oV x G L) := by
  rw [rh_243_55]
  try simp only [gd_tt, k_156]
set_option maxRecDepth 20000 in
theorem rh_243_87 {d x : Nat} {R : sm_R} {G : sm_G} {L : sm_L} : hD d 243 87 [.ref 156] 342 R x G L =
  if (G 156 5) = (i3 0) then
    (sm_aI (sm_cv0 d 222 342 R [.ref 156, .int (G 156 4)] (x, G, L)) (fun a1 x1 G1 L1 =>
      if a1 = (i3 93) then
        (sm_aV (sm_cv0 d 236 342 R [.ref 156, .int (i3 93)] (x1, G1, L1)) (fun x2 G2 L2 =>
          oV x2 (sm_up G2 156 8 ((G2 156 8) - (i3 1))) L2) oX)
      else (sm_aV (sm_cv0 d 239 342 R [.ref 156] (x1, G1, L1)) (fun x3 G3 L3 =>
          sm_aV (sm_cv0 d 221 342 R [.ref 156] (x3, G3, L3)) (fun x4 G4 L4 =>
            hD d 243 87 [.ref 156] 342 R x4 G4 L4) oX) oX)) oX)
  else (sm_aV (sm_cv0 d 236 342 R [.ref 156, .int (i3 93)] (x, G, L)) (fun x5 G5 L5 =>
      oV x5 (sm_up G5 156 8 ((G5 156 8) - (i3 1))) L5) oX) := hD_eq.trans rfl
set_option maxRecDepth 20000 in
theorem h_243_87 {d x : Nat} {V : pV} {G : sm_G} {L : sm_L} : hD d 243 87 [.ref 156] 342 (RR V) x G L =
  if (G 156 5) = (i3 0) then
    (sm_aI (sm_cv0 d 222 342 (RR V) [.ref 156, .int (G 156 4)] (x, G, L)) (fun a1 x1 G1 L1 =>
      if a1 = (i3 93) then
        (sm_aV (sm_cv0 d 236 342 (RR V) [.ref 156, .int (i3 93)] (x1, G1, L1)) (fun x2 G2 L2 =>
          oV x2 (sm_up G2 156 8 ((G2 156 8) - (i3 1))) L2) oX)
      else (sm_aV (sm_cv0 d 239 342 (RR V) [.ref 156] (x1, G1, L1)) (fun x3 G3 L3 =>
          sm_aV (sm_cv0 d 221 342 (RR V) [.ref 156] (x3, G3, L3)) (fun x4 G4 L4 =>
            hD d 243 87 [.ref 156] 342 (RR V) x4 G4 L4) oX) oX)) oX)
  else (sm_aV (sm_cv0 d 236 342 (RR V) [.ref 156, .int (i3 93)] (x, G, L)) (fun x5 G5 L5 =>
      oV x5 (sm_up G5 156 8 ((G5 156 8) - (i3 1))) L5) oX) := by
  rw [rh_243_87]
  try simp only [gd_tt, k_156]
