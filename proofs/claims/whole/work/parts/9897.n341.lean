/-! the model's start: one cell less stands there, by the program wip/gen/gen9.py -/
theorem is_341 {r t : Nat} (h : sm_is r 342 t = true) (hr : r ≠ 342) : sm_is r 341 t = true := by
  unfold sm_is at h ⊢
  rw [Bool.and_eq_true] at h ⊢
  have := Nat.le_of_ble_eq_true h.2
  exact ⟨h.1, Nat.ble_eq_true_of_le (by omega)⟩
def ldi1 {β : Type} (r : Nat) (i : Int32) (G : sm_G) (f : Int32 → Option β) : Option β := bif sm_is r 341 20 then (bif sm_in i (sm_N r) then f (G r i.toNatClampNeg) else none) else (bif Nat.beq r 8191 && sm_in i (G 8190 0).toNatClampNeg then f (G 8191 i.toNatClampNeg) else none)
def aln1 {β : Type} (r : Nat) (G : sm_G) (f : Int32 → Option β) : Option β := bif Nat.ble 20 (sm_K r) && Nat.ble (sm_K r) 27 && Nat.ble r 341 then f (i3 (sm_N r)) else (bif Nat.beq r 8191 then f (G 8190 0) else none)
theorem ldi1_e {β : Type} {r N : Nat} {i : Int32} {G : sm_G} {f : Int32 → Option β} (h1 : sm_is r 341 20 = true) (h2 : sm_N r = N) : ldi1 r i G f = gd (sm_in i N) (f (G r i.toNatClampNeg)) := by
  unfold ldi1
  rw [h1, h2]
  rfl
theorem aln1_e {β : Type} {r N : Nat} {G : sm_G} {f : Int32 → Option β} (h1 : (Nat.ble 20 (sm_K r) && Nat.ble (sm_K r) 27 && Nat.ble r 341) = true) (h2 : sm_N r = N) : aln1 r G f = f (i3 N) := by
  unfold aln1
  rw [h1, h2]
  rfl
theorem aln1_is {β : Type} {c N : Nat} {G : sm_G} {f : Int32 → Option β} (h : sm_is c 341 20 = true) (hN : sm_N c = N) : aln1 c G f = f (i3 N) := by
  have h' := h
  unfold sm_is at h'
  rw [Bool.and_eq_true] at h'
  have hk : sm_K c = 20 := Nat.eq_of_beq_eq_true h'.1
  exact aln1_e (by rw [hk, h'.2]; rfl) hN
theorem k_156n : sm_is 156 341 12 = true := by decide +kernel
theorem k_159n : sm_is 159 341 20 = true := by decide +kernel
theorem k_160n : sm_is 160 341 20 = true := by decide +kernel
theorem k_161n : sm_is 161 341 20 = true := by decide +kernel
theorem k_162n : sm_is 162 341 20 = true := by decide +kernel
theorem k_163n : sm_is 163 341 20 = true := by decide +kernel
theorem k_164n : sm_is 164 341 20 = true := by decide +kernel
theorem k_241n : sm_is 241 341 20 = true := by decide +kernel
theorem k_305n : sm_is 305 341 20 = true := by decide +kernel
/-! M_tellsNothing -/
set_option maxRecDepth 20000 in
theorem rm_212n {d x : Nat} {R : sm_R} {G : sm_G} {L : sm_L} : sm_cv0 (d + 1) 212 341 R [.ref 156] (x, G, L) =
  hD d 212 2 [.ref 156, .int (i3 0)] 341 R x G L := (cv_eq rfl rfl).trans (hD_eq.trans rfl)
theorem m_212n {d x : Nat} {V : pV} {G : sm_G} {L : sm_L} : sm_cv0 (d + 1) 212 341 (RR V) [.ref 156] (x, G, L) =
  hD d 212 2 [.ref 156, .int (i3 0)] 341 (RR V) x G L := rm_212n
set_option maxRecDepth 20000 in
theorem rh_212_2n {d x : Nat} {R : sm_R} {G : sm_G} {L : sm_L} {v1 : Int32} : hD d 212 2 [.ref 156, .int v1] 341 R x G L =
  if v1 < (i3 5) then
    (gd (sm_is (R 156 11) 341 20) (gd (sm_in v1 (sm_N (R 156 11))) (hD d 212 2 [.ref 156, .int (v1 + (i3 1))] 341 R x (sm_up G (R 156 11) v1.toNatClampNeg (i3 0)) L)))
  else (gd (sm_is (R 156 11) 341 20) (gd (sm_in (i3 5) (sm_N (R 156 11))) (hD d 212 29 [.ref 156, .int (i3 0)] 341 R x (sm_up G (R 156 11) 5 m1) L))) := hD_eq.trans rfl
set_option maxRecDepth 20000 in
theorem h_212_2n {d x : Nat} {V : pV} {G : sm_G} {L : sm_L} {v1 : Int32} : hD d 212 2 [.ref 156, .int v1] 341 (RR V) x G L =
  if v1 < (i3 5) then
    (gd (sm_in v1 6) (hD d 212 2 [.ref 156, .int (v1 + (i3 1))] 341 (RR V) x (sm_up G 159 v1.toNatClampNeg (i3 0)) L))
  else (hD d 212 29 [.ref 156, .int (i3 0)] 341 (RR V) x (sm_up G 159 5 m1) L) := by
  rw [rh_212_2n]
  try simp only [gd_tt, (q_156_11 V), inl_5_6, k_156n, k_159n, n_159]
set_option maxRecDepth 20000 in
theorem rh_212_29n {d x : Nat} {R : sm_R} {G : sm_G} {L : sm_L} {v1 : Int32} : hD d 212 29 [.ref 156, .int v1] 341 R x G L =
  if v1 < (i3 6) then
    (gd (sm_is (R 156 15) 341 20) (gd (sm_in v1 (sm_N (R 156 15))) (hD d 212 29 [.ref 156, .int (v1 + (i3 1))] 341 R x (sm_up G (R 156 15) v1.toNatClampNeg (i3 0)) L)))
  else (oV x G L) := hD_eq.trans rfl
set_option maxRecDepth 20000 in
theorem h_212_29n {d x : Nat} {V : pV} {G : sm_G} {L : sm_L} {v1 : Int32} : hD d 212 29 [.ref 156, .int v1] 341 (RR V) x G L =
  if v1 < (i3 6) then
    (gd (sm_in v1 6) (hD d 212 29 [.ref 156, .int (v1 + (i3 1))] 341 (RR V) x (sm_up G 163 v1.toNatClampNeg (i3 0)) L))
  else (oV x G L) := by
  rw [rh_212_29n]
  try simp only [gd_tt, (q_156_15 V), k_156n, k_163n, n_163]
/-! M_stands -/
set_option maxRecDepth 20000 in
theorem rm_213n {d x : Nat} {R : sm_R} {G : sm_G} {L : sm_L} : sm_cv0 (d + 1) 213 341 R [.ref 156] (x, G, L) =
  hD d 213 2 [.ref 156, .int (i3 0)] 341 R x G L := (cv_eq rfl rfl).trans (hD_eq.trans rfl)
theorem m_213n {d x : Nat} {V : pV} {G : sm_G} {L : sm_L} : sm_cv0 (d + 1) 213 341 (RR V) [.ref 156] (x, G, L) =
  hD d 213 2 [.ref 156, .int (i3 0)] 341 (RR V) x G L := rm_213n
set_option maxRecDepth 20000 in
theorem rh_213_2n {d x : Nat} {R : sm_R} {G : sm_G} {L : sm_L} {v1 : Int32} : hD d 213 2 [.ref 156, .int v1] 341 R x G L =
  if v1 < (i3 6) then
    (ldi1 (R 156 11) v1 G (fun y1 => gd (sm_is (R 156 12) 341 20) (gd (sm_in v1 (sm_N (R 156 12))) (hD d 213 2 [.ref 156, .int (v1 + (i3 1))] 341 R x (sm_up G (R 156 12) v1.toNatClampNeg y1) L))))
  else (hD d 213 28 [.ref 156, .int (i3 0)] 341 R x G L) := hD_eq.trans rfl
set_option maxRecDepth 20000 in
theorem h_213_2n {d x : Nat} {V : pV} {G : sm_G} {L : sm_L} {v1 : Int32} : hD d 213 2 [.ref 156, .int v1] 341 (RR V) x G L =
  if v1 < (i3 6) then
    (gd (sm_in v1 6) (gd (sm_in v1 6) (hD d 213 2 [.ref 156, .int (v1 + (i3 1))] 341 (RR V) x (sm_up G 160 v1.toNatClampNeg (G 159 v1.toNatClampNeg)) L)))
  else (hD d 213 28 [.ref 156, .int (i3 0)] 341 (RR V) x G L) := by
  rw [rh_213_2n]
  try simp only [gd_tt, (q_156_11 V), (q_156_12 V), k_156n, k_160n, ldi1_e k_159n n_159, n_159, n_160]
set_option maxRecDepth 20000 in
theorem rh_213_28n {d x : Nat} {R : sm_R} {G : sm_G} {L : sm_L} {v1 : Int32} : hD d 213 28 [.ref 156, .int v1] 341 R x G L =
  ldi1 (R 156 12) (i3 0) G (fun y1 => if v1 < y1 then
    (ldi1 (R 156 13) v1 G (fun y2 => gd (sm_is (R 156 14) 341 20) (gd (sm_in v1 (sm_N (R 156 14))) (hD d 213 28 [.ref 156, .int (v1 + (i3 1))] 341 R x (sm_up G (R 156 14) v1.toNatClampNeg y2) L))))
  else (hD d 213 58 [.ref 156, .int (i3 0)] 341 R x G L)) := hD_eq.trans rfl
set_option maxRecDepth 20000 in
theorem h_213_28n {d x : Nat} {V : pV} {G : sm_G} {L : sm_L} {v1 : Int32} : hD d 213 28 [.ref 156, .int v1] 341 (RR V) x G L =
  if v1 < (G 160 0) then
    (gd (sm_in v1 8) (gd (sm_in v1 8) (hD d 213 28 [.ref 156, .int (v1 + (i3 1))] 341 (RR V) x (sm_up G 162 v1.toNatClampNeg (G 161 v1.toNatClampNeg)) L)))
  else (hD d 213 58 [.ref 156, .int (i3 0)] 341 (RR V) x G L) := by
  rw [rh_213_28n]
  try simp only [gd_tt, (q_156_12 V), (q_156_13 V), (q_156_14 V), cl_0, inl_0_6, k_156n, k_162n, ldi1_e k_160n n_160, ldi1_e k_161n n_161, n_160, n_161, n_162]
set_option maxRecDepth 20000 in
theorem rh_213_58n {d x : Nat} {R : sm_R} {G : sm_G} {L : sm_L} {v1 : Int32} : hD d 213 58 [.ref 156, .int v1] 341 R x G L =
  if v1 < (i3 6) then
    (ldi1 (R 156 15) v1 G (fun y1 => gd (sm_is (R 156 16) 341 20) (gd (sm_in v1 (sm_N (R 156 16))) (hD d 213 58 [.ref 156, .int (v1 + (i3 1))] 341 R x (sm_up G (R 156 16) v1.toNatClampNeg y1) L))))
  else (ldi1 (R 156 12) (i3 0) G (fun y2 => sm_aV (sm_cv0 d 214 341 R [.ref (R 156 17), .ref (R 156 18), .int y2] (x, G, L)) (fun x3 G3 L3 =>
      ldi1 (R 156 12) (i3 1) G3 (fun y4 => sm_aV (sm_cv0 d 214 341 R [.ref (R 156 19), .ref (R 156 20), .int y4] (x3, G3, L3)) (fun x5 G5 L5 =>
        ldi1 (R 156 12) (i3 2) G5 (fun y6 => sm_aV (sm_cv0 d 214 341 R [.ref (R 156 21), .ref (R 156 22), .int y6] (x5, G5, L5)) (fun x7 G7 L7 =>
          ldi1 (R 156 12) (i3 4) G7 (fun y8 => sm_aV (sm_cv0 d 214 341 R [.ref (R 156 23), .ref (R 156 24), .int y8] (x7, G7, L7)) (fun x9 G9 L9 =>
            hD d 213 152 [.ref 156, .int (i3 0)] 341 R x9 G9 L9) oX)) oX)) oX)) oX)) := hD_eq.trans rfl
set_option maxRecDepth 20000 in
theorem h_213_58n {d x : Nat} {V : pV} {G : sm_G} {L : sm_L} {v1 : Int32} : hD d 213 58 [.ref 156, .int v1] 341 (RR V) x G L =
  if v1 < (i3 6) then
    (gd (sm_in v1 6) (gd (sm_in v1 6) (hD d 213 58 [.ref 156, .int (v1 + (i3 1))] 341 (RR V) x (sm_up G 164 v1.toNatClampNeg (G 163 v1.toNatClampNeg)) L)))
  else (sm_aV (sm_cv0 d 214 341 (RR V) [.ref 165, .ref 174, .int (G 160 0)] (x, G, L)) (fun x3 G3 L3 =>
      sm_aV (sm_cv0 d 214 341 (RR V) [.ref 183, .ref 194, .int (G3 160 1)] (x3, G3, L3)) (fun x5 G5 L5 =>
        sm_aV (sm_cv0 d 214 341 (RR V) [.ref 205, .ref 218, .int (G5 160 2)] (x5, G5, L5)) (fun x7 G7 L7 =>
          sm_aV (sm_cv0 d 214 341 (RR V) [.ref 231, .ref 236, .int (G7 160 4)] (x7, G7, L7)) (fun x9 G9 L9 =>
            hD d 213 152 [.ref 156, .int (i3 0)] 341 (RR V) x9 G9 L9) oX) oX) oX) oX) := by
  rw [rh_213_58n]
  try simp only [gd_tt, (q_156_12 V), (q_156_15 V), (q_156_16 V), (q_156_17 V), (q_156_18 V), (q_156_19 V), (q_156_20 V), (q_156_21 V), (q_156_22 V), (q_156_23 V), (q_156_24 V), cl_0, cl_1, cl_2, cl_4, inl_0_6, inl_1_6, inl_2_6, inl_4_6, k_156n, k_164n, ldi1_e k_160n n_160, ldi1_e k_163n n_163, n_160, n_163, n_164]
set_option maxRecDepth 20000 in
theorem rh_213_152n {d x : Nat} {R : sm_R} {G : sm_G} {L : sm_L} {v1 : Int32} : hD d 213 152 [.ref 156, .int v1] 341 R x G L =
  if v1 < (i3 4) then
    (gd (sm_is (R 156 25) 341 20) (gd (sm_in v1 (sm_N (R 156 25))) (hD d 213 152 [.ref 156, .int (v1 + (i3 1))] 341 R x (sm_up G (R 156 25) v1.toNatClampNeg (i3 0)) L)))
  else (hD d 213 172 [.ref 156, .int (i3 0)] 341 R x G L) := hD_eq.trans rfl
set_option maxRecDepth 20000 in
theorem h_213_152n {d x : Nat} {V : pV} {G : sm_G} {L : sm_L} {v1 : Int32} : hD d 213 152 [.ref 156, .int v1] 341 (RR V) x G L =
  if v1 < (i3 4) then
    (gd (sm_in v1 4) (hD d 213 152 [.ref 156, .int (v1 + (i3 1))] 341 (RR V) x (sm_up G 241 v1.toNatClampNeg (i3 0)) L))
  else (hD d 213 172 [.ref 156, .int (i3 0)] 341 (RR V) x G L) := by
  rw [rh_213_152n]
  try simp only [gd_tt, (q_156_25 V), k_156n, k_241n, n_241]
set_option maxRecDepth 20000 in
theorem rh_213_172n {d x : Nat} {R : sm_R} {G : sm_G} {L : sm_L} {v1 : Int32} : hD d 213 172 [.ref 156, .int v1] 341 R x G L =
  if v1 < (i3 8) then
    (gd (sm_is (R 156 42) 341 20) (gd (sm_in v1 (sm_N (R 156 42))) (hD d 213 172 [.ref 156, .int (v1 + (i3 1))] 341 R x (sm_up G (R 156 42) v1.toNatClampNeg v1) L)))
  else (oV x (sm_up (sm_up (sm_up (sm_up G 156 36 (i3 0)) 156 37 (i3 0)) 156 38 (i3 0)) 156 39 (i3 0)) L) := hD_eq.trans rfl
set_option maxRecDepth 20000 in
theorem h_213_172n {d x : Nat} {V : pV} {G : sm_G} {L : sm_L} {v1 : Int32} : hD d 213 172 [.ref 156, .int v1] 341 (RR V) x G L =
  if v1 < (i3 8) then
    (gd (sm_in v1 8) (hD d 213 172 [.ref 156, .int (v1 + (i3 1))] 341 (RR V) x (sm_up G 305 v1.toNatClampNeg v1) L))
  else (oV x (sm_up (sm_up (sm_up (sm_up G 156 36 (i3 0)) 156 37 (i3 0)) 156 38 (i3 0)) 156 39 (i3 0)) L) := by
  rw [rh_213_172n]
  try simp only [gd_tt, (q_156_42 V), k_156n, k_305n, n_305]
/-! M_copies -/
set_option maxRecDepth 20000 in
theorem rm_214n {d x : Nat} {R : sm_R} {G : sm_G} {L : sm_L} {r0 r1 : Nat} {v2 : Int32} : sm_cv0 (d + 1) 214 341 R [.ref r0, .ref r1, .int v2] (x, G, L) =
  hD d 214 2 [.ref r0, .ref r1, .int v2, .int (i3 0), .null] 341 R x G L := (cv_eq rfl rfl).trans (hD_eq.trans rfl)
theorem m_214n {d x : Nat} {V : pV} {G : sm_G} {L : sm_L} {r0 r1 : Nat} {v2 : Int32} : sm_cv0 (d + 1) 214 341 (RR V) [.ref r0, .ref r1, .int v2] (x, G, L) =
  hD d 214 2 [.ref r0, .ref r1, .int v2, .int (i3 0), .null] 341 (RR V) x G L := rm_214n
set_option maxRecDepth 20000 in
theorem rh_214_2n {d x : Nat} {R : sm_R} {G : sm_G} {L : sm_L} {r0 r1 : Nat} {v2 v3 : Int32} : hD d 214 2 [.ref r0, .ref r1, .int v2, .int v3, .null] 341 R x G L =
  if v3 < v2 then
    (hD d 214 10 [.ref r0, .ref r1, .int v2, .int v3, .int (i3 0)] 341 R x G L)
  else (oV x G L) := hD_eq.trans rfl
theorem h_214_2n {d x : Nat} {V : pV} {G : sm_G} {L : sm_L} {r0 r1 : Nat} {v2 v3 : Int32} : hD d 214 2 [.ref r0, .ref r1, .int v2, .int v3, .null] 341 (RR V) x G L =
  if v3 < v2 then
    (hD d 214 10 [.ref r0, .ref r1, .int v2, .int v3, .int (i3 0)] 341 (RR V) x G L)
  else (oV x G L) := rh_214_2n
set_option maxRecDepth 20000 in
theorem rh_214_10n {d x : Nat} {R : sm_R} {G : sm_G} {L : sm_L} {r0 r1 : Nat} {v2 v3 v4 : Int32} : hD d 214 10 [.ref r0, .ref r1, .int v2, .int v3, .int v4] 341 R x G L =
  gd (Nat.ble 24 (sm_K r1) && Nat.ble (sm_K r1) 27 && Nat.ble r1 341) (gd (sm_in v3 (sm_N r1)) (aln1 (R r1 v3.toNatClampNeg) G (fun y1 => if v4 < y1 then
    (gd (Nat.ble 24 (sm_K r1) && Nat.ble (sm_K r1) 27 && Nat.ble r1 341) (gd (sm_in v3 (sm_N r1)) (gd (Nat.ble 24 (sm_K r0) && Nat.ble (sm_K r0) 27 && Nat.ble r0 341) (gd (sm_in v3 (sm_N r0)) (ldi1 (R r0 v3.toNatClampNeg) v4 G (fun y2 => gd (sm_is (R r1 v3.toNatClampNeg) 341 20) (gd (sm_in v4 (sm_N (R r1 v3.toNatClampNeg))) (hD d 214 10 [.ref r0, .ref r1, .int v2, .int v3, .int (v4 + (i3 1))] 341 R x (sm_up G (R r1 v3.toNatClampNeg) v4.toNatClampNeg y2) L))))))))
  else (hD d 214 2 [.ref r0, .ref r1, .int v2, .int (v3 + (i3 1)), .null] 341 R x G L)))) := hD_eq.trans rfl
set_option maxRecDepth 20000 in
theorem h_214_10n {d x : Nat} {V : pV} {G : sm_G} {L : sm_L} {r0 r1 : Nat} {v2 v3 v4 : Int32} : hD d 214 10 [.ref r0, .ref r1, .int v2, .int v3, .int v4] 341 (RR V) x G L =
  gd (Nat.ble 24 (sm_K r1) && Nat.ble (sm_K r1) 27 && Nat.ble r1 341) (gd (sm_in v3 (sm_N r1)) (aln1 (RR V r1 v3.toNatClampNeg) G (fun y1 => if v4 < y1 then
    (gd (Nat.ble 24 (sm_K r1) && Nat.ble (sm_K r1) 27 && Nat.ble r1 341) (gd (sm_in v3 (sm_N r1)) (gd (Nat.ble 24 (sm_K r0) && Nat.ble (sm_K r0) 27 && Nat.ble r0 341) (gd (sm_in v3 (sm_N r0)) (ldi1 (RR V r0 v3.toNatClampNeg) v4 G (fun y2 => gd (sm_is (RR V r1 v3.toNatClampNeg) 341 20) (gd (sm_in v4 (sm_N (RR V r1 v3.toNatClampNeg))) (hD d 214 10 [.ref r0, .ref r1, .int v2, .int v3, .int (v4 + (i3 1))] 341 (RR V) x (sm_up G (RR V r1 v3.toNatClampNeg) v4.toNatClampNeg y2) L))))))))
  else (hD d 214 2 [.ref r0, .ref r1, .int v2, .int (v3 + (i3 1)), .null] 341 (RR V) x G L)))) := by
  rw [rh_214_10n]
  try simp only [gd_tt]
theorem s_214n {D x : Nat} {V : pV} {G : sm_G} {L : sm_L} {r0 r1 a b M N m : Nat} (hD0 : 1 ≤ D) (hm : m ≤ M) (hM : M < 100) (hN10 : N < 1000) (hab : a + M ≤ b) (hrow : ∀ k, k < M → RR V r0 k = a + k ∧ RR V r1 k = b + k ∧ sm_is (a + k) 341 20 = true ∧ sm_N (a + k) = N ∧ sm_is (b + k) 341 20 = true ∧ sm_N (b + k) = N) (k0 : (Nat.ble 24 (sm_K r0) && Nat.ble (sm_K r0) 27 && Nat.ble r0 341) = true) (k1 : (Nat.ble 24 (sm_K r1) && Nat.ble (sm_K r1) 27 && Nat.ble r1 341) = true) (n0 : sm_N r0 = M) (n1 : sm_N r1 = M) :
    ∃ G', sm_cv0 D 214 341 (RR V) [.ref r0, .ref r1, .int (i3 m)] (x, G, L) = oV x G' L ∧ (∀ k, k < m → ∀ i, i < N → G' (b + k) i = G (a + k) i) ∧ ∀ r k, ¬ (b ≤ r ∧ r < b + m ∧ k < N) → G' r k = G r k := by
  obtain ⟨d, rfl⟩ : ∃ d, D = d + 1 := ⟨D - 1, by omega⟩
  have inner : ∀ k, k < m → ∀ (g : sm_G), ∃ g', hD d 214 10 [.ref r0, .ref r1, .int (i3 m), .int (i3 k), .int (i3 0)] 341 (RR V) x g L = hD d 214 2 [.ref r0, .ref r1, .int (i3 m), .int (i3 (k + 1)), .null] 341 (RR V) x g' L ∧ (∀ i, i < N → g' (b + k) i = g (a + k) i) ∧ ∀ r j, ¬ (r = b + k ∧ j < N) → g' r j = g r j := by
    intro k hk g
    obtain ⟨e0, e1, e2, e3, e4, e5⟩ := hrow k (by omega)
    have head : ∀ (g : sm_G) (i : Nat), i ≤ N → hD d 214 10 [.ref r0, .ref r1, .int (i3 m), .int (i3 k), .int (i3 i)] 341 (RR V) x g L = if i3 i < i3 N then hD d 214 10 [.ref r0, .ref r1, .int (i3 m), .int (i3 k), .int (i3 (i + 1))] 341 (RR V) x (sm_up g (b + k) i (g (a + k) i)) L else hD d 214 2 [.ref r0, .ref r1, .int (i3 m), .int (i3 (k + 1)), .null] 341 (RR V) x g L := fun g i hi => by
      rw [h_214_10n, k1, gd_tt, n1, i3_in (by omega) (by omega), gd_tt, i3_cl (by omega), e1, aln1_is e4 e5, gd_tt, gd_tt, k0, gd_tt, n0, i3_in (by omega) (by omega), gd_tt, e0, ldi1_e e2 e3, e4, e5, i3_cl (by omega), i3_add, i3_add, gd_tt]
      by_cases q : i < N
      · rw [if_pos (by rw [i3_lt (by omega) (by omega)]; exact q), if_pos (by rw [i3_lt (by omega) (by omega)]; exact q), i3_in (by omega) q, gd_tt, gd_tt]
      · rw [if_neg (by rw [i3_lt (by omega) (by omega)]; exact q), if_neg (by rw [i3_lt (by omega) (by omega)]; exact q)]
    refine loopE (H := fun i (g : sm_G) => hD d 214 10 [.ref r0, .ref r1, .int (i3 m), .int (i3 k), .int (i3 i)] 341 (RR V) x g L) (Q := fun o' => ∃ g', o' = hD d 214 2 [.ref r0, .ref r1, .int (i3 m), .int (i3 (k + 1)), .null] 341 (RR V) x g' L ∧ (∀ i, i < N → g' (b + k) i = g (a + k) i) ∧ ∀ r j, ¬ (r = b + k ∧ j < N) → g' r j = g r j) (N := N)
      (fun i g1 => (∀ j, j < i → g1 (b + k) j = g (a + k) j) ∧ ∀ r j, ¬ (r = b + k ∧ j < N) → g1 r j = g r j) ?_ ?_ N 0 g (by omega) ⟨fun j hj => by omega, fun _ _ _ => rfl⟩
    · rintro i g1 hi ⟨w1, w2⟩
      refine ⟨sm_up g1 (b + k) i (g1 (a + k) i), ?_, fun j hj => ?_, fun r j hj => by rw [sm_up_ne (by omega)]; exact w2 r j hj⟩
      · show hD d 214 10 _ 341 (RR V) x g1 L = _
        rw [head g1 i (by omega), if_pos (by rw [i3_lt (by omega) (by omega)]; exact hi)]
      · by_cases q : j = i
        · subst q
          rw [sm_up_same, w2 _ _ (by omega)]
        · rw [sm_up_ne (by omega)]
          exact w1 j (by omega)
    · rintro g1 ⟨w1, w2⟩
      refine ⟨g1, ?_, w1, w2⟩
      show hD d 214 10 _ 341 (RR V) x g1 L = _
      rw [head g1 N (Nat.le_refl N), if_neg (by rw [i3_lt (by omega) (by omega)]; omega)]
  rw [m_214n]
  refine loopE (H := fun k (g : sm_G) => hD d 214 2 [.ref r0, .ref r1, .int (i3 m), .int (i3 k), .null] 341 (RR V) x g L) (Q := fun o' => ∃ G', o' = oV x G' L ∧ (∀ k, k < m → ∀ i, i < N → G' (b + k) i = G (a + k) i) ∧ ∀ r k, ¬ (b ≤ r ∧ r < b + m ∧ k < N) → G' r k = G r k) (N := m)
    (fun k g => (∀ j, j < k → ∀ i, i < N → g (b + j) i = G (a + j) i) ∧ ∀ r j, ¬ (b ≤ r ∧ r < b + m ∧ j < N) → g r j = G r j) ?_ ?_ m 0 G (by omega) ⟨fun j hj => by omega, fun _ _ _ => rfl⟩
  · rintro k g hk ⟨w1, w2⟩
    obtain ⟨g', u1, u2, u3⟩ := inner k hk g
    refine ⟨g', ?_, fun j hj i hi => ?_, fun r j hj => by rw [u3 r j (by omega)]; exact w2 r j hj⟩
    · show hD d 214 2 _ 341 (RR V) x g L = _
      rw [h_214_2n, if_pos (by rw [i3_lt (by omega) (by omega)]; exact hk)]
      exact u1
    · by_cases q : j = k
      · subst q
        rw [u2 i hi, w2 _ _ (by omega)]
      · rw [u3 _ _ (by omega)]
        exact w1 j (by omega) i hi
  · rintro g ⟨w1, w2⟩
    refine ⟨g, ?_, w1, w2⟩
    show hD d 214 2 _ 341 (RR V) x g L = _
    rw [h_214_2n, if_neg (by rw [i3_lt (by omega) (by omega)]; omega)]
/-- nothing told -/
theorem s_212n {D x : Nat} {V : pV} {G : sm_G} {L : sm_L} (hD0 : 1 ≤ D) : ∃ G', sm_cv0 D 212 341 (RR V) [.ref 156] (x, G, L) = oV x G' L ∧ mHr G' T0 T0 ∧ ∀ r k, r ≠ 159 → r ≠ 163 → G' r k = G r k := by
  obtain ⟨d, rfl⟩ : ∃ d, D = d + 1 := ⟨D - 1, by omega⟩
  have l29 : ∀ g : sm_G, ∃ g', hD d 212 29 [.ref 156, .int (i3 0)] 341 (RR V) x g L = oV x g' L ∧ (∀ k, k < 6 → g' 163 k = i3 0) ∧ ∀ r k, r ≠ 163 → g' r k = g r k := fun g => by
    refine loopE (H := fun i (g : sm_G) => hD d 212 29 [.ref 156, .int (i3 i)] 341 (RR V) x g L) (Q := fun o' => ∃ g', o' = oV x g' L ∧ (∀ k, k < 6 → g' 163 k = i3 0) ∧ ∀ r k, r ≠ 163 → g' r k = g r k) (N := 6)
      (fun i g1 => (∀ k, k < i → g1 163 k = i3 0) ∧ ∀ r k, r ≠ 163 → g1 r k = g r k) ?_ ?_ 6 0 g (by omega) ⟨fun j hj => by omega, fun _ _ _ => rfl⟩
    · rintro i g1 hi ⟨w1, w2⟩
      refine ⟨sm_up g1 163 i (i3 0), ?_, fun k hk => ?_, fun r k h => by rw [sm_up_ne (by omega)]; exact w2 r k h⟩
      · show hD d 212 29 _ 341 (RR V) x g1 L = _
        rw [h_212_29n, if_pos (by rw [i3_lt (by omega) (by omega)]; exact hi), i3_in (by omega) hi, gd_tt, i3_cl (by omega), i3_add]
      · by_cases q : k = i
        · subst q; exact sm_up_same _ _ _ _
        · rw [sm_up_ne (by omega)]; exact w1 k (by omega)
    · rintro g1 ⟨w1, w2⟩
      refine ⟨g1, ?_, w1, w2⟩
      show hD d 212 29 _ 341 (RR V) x g1 L = _
      rw [h_212_29n, if_neg (by decide)]
  rw [m_212n]
  refine loopE (H := fun i (g : sm_G) => hD d 212 2 [.ref 156, .int (i3 i)] 341 (RR V) x g L) (Q := fun o' => ∃ G', o' = oV x G' L ∧ mHr G' T0 T0 ∧ ∀ r k, r ≠ 159 → r ≠ 163 → G' r k = G r k) (N := 5)
    (fun i g1 => (∀ k, k < i → g1 159 k = i3 0) ∧ ∀ r k, r ≠ 159 → g1 r k = G r k) ?_ ?_ 5 0 G (by omega) ⟨fun j hj => by omega, fun _ _ _ => rfl⟩
  · rintro i g1 hi ⟨w1, w2⟩
    refine ⟨sm_up g1 159 i (i3 0), ?_, fun k hk => ?_, fun r k h => by rw [sm_up_ne (by omega)]; exact w2 r k h⟩
    · show hD d 212 2 _ 341 (RR V) x g1 L = _
      rw [h_212_2n, if_pos (by rw [i3_lt (by omega) (by omega)]; exact hi), i3_in (by omega) (by omega), gd_tt, i3_cl (by omega), i3_add]
    · by_cases q : k = i
      · subst q; exact sm_up_same _ _ _ _
      · rw [sm_up_ne (by omega)]; exact w1 k (by omega)
  · rintro g1 ⟨w1, w2⟩
    obtain ⟨g2, u1, u2, u3⟩ := l29 (sm_up g1 159 5 m1)
    have z : ∀ k, k < 5 → g2 159 k = i3 0 := fun k hk => by rw [u3 _ _ (by omega), sm_up_ne (by omega)]; exact w1 k hk
    refine ⟨g2, ?_, ⟨z 0 (by omega), z 1 (by omega), z 2 (by omega), z 3 (by omega), z 4 (by omega), by rw [u3 _ _ (by omega)]; exact sm_up_same _ _ _ _, fun k h => absurd h (Nat.not_lt_zero k), u2, fun k h => absurd h (Nat.not_lt_zero k), fun k h => absurd h (Nat.not_lt_zero k), fun k h => absurd h (Nat.not_lt_zero k), fun k h => absurd h (Nat.not_lt_zero k)⟩, fun r k h1 h2 => by rw [u3 r k h2, sm_up_ne (by omega)]; exact w2 r k h1⟩
    show hD d 212 2 _ 341 (RR V) x g1 L = _
    rw [h_212_2n, if_neg (by decide), u1]
theorem s_213n {D x : Nat} {V : pV} {G : sm_G} {L : sm_L} {T P : pT} (hD0 : 2 ≤ D) (hT : okT T) (hP : okP T P) (hm : mHr G T P) : ∃ G', sm_cv0 D 213 341 (RR V) [.ref 156] (x, G, L) = oV x G' L ∧ mH G' T P 0 ∧ (∀ k, k < 8 → G' 305 k = i3 k) ∧ (∀ k, k < 4 → G' 241 k = i3 0) ∧ G' 156 36 = i3 0 ∧ G' 156 38 = i3 0 ∧ G' 156 39 = i3 0 ∧ ∀ r k, ¬ (r = 156 ∧ 36 ≤ k ∧ k ≤ 39) → ¬ (r = 160 ∨ r = 162 ∨ r = 164 ∨ r = 241 ∨ r = 305) → ¬ (175 ≤ r ∧ r < 183) → ¬ (195 ≤ r ∧ r < 205) → ¬ (219 ≤ r ∧ r < 231) → ¬ (237 ≤ r ∧ r < 241) → G' r k = G r k := by
  obtain ⟨d, rfl⟩ : ∃ d, D = d + 2 := ⟨D - 2, by omega⟩
  have hB := hT.gb
  have hB2 := hP.gb
  obtain ⟨a1, a2, a3, a4, a5, a6, a7, a8, a9, a10, a11, a12⟩ := hm
  -- the numbers
  have l2 : ∃ G1, hD (d + 1) 213 2 [.ref 156, .int (i3 0)] 341 (RR V) x G L = hD (d + 1) 213 28 [.ref 156, .int (i3 0)] 341 (RR V) x G1 L ∧ (∀ k, k < 6 → G1 160 k = G 159 k) ∧ ∀ r k, r ≠ 160 → G1 r k = G r k := by
    refine loopE (H := fun i (g : sm_G) => hD (d + 1) 213 2 [.ref 156, .int (i3 i)] 341 (RR V) x g L) (Q := fun o' => ∃ G1, o' = hD (d + 1) 213 28 [.ref 156, .int (i3 0)] 341 (RR V) x G1 L ∧ (∀ k, k < 6 → G1 160 k = G 159 k) ∧ ∀ r k, r ≠ 160 → G1 r k = G r k) (N := 6)
      (fun i g1 => (∀ k, k < i → g1 160 k = G 159 k) ∧ ∀ r k, r ≠ 160 → g1 r k = G r k) ?_ ?_ 6 0 G (by omega) ⟨fun j hj => by omega, fun _ _ _ => rfl⟩
    · rintro i g1 hi ⟨w1, w2⟩
      refine ⟨sm_up g1 160 i (g1 159 i), ?_, fun k hk => ?_, fun r k h => by rw [sm_up_ne (by omega)]; exact w2 r k h⟩
      · show hD (d + 1) 213 2 _ 341 (RR V) x g1 L = _
        rw [h_213_2n, if_pos (by rw [i3_lt (by omega) (by omega)]; exact hi), i3_in (by omega) hi, gd_tt, gd_tt, i3_cl (by omega), i3_add]
      · by_cases q : k = i
        · subst q; rw [sm_up_same, w2 _ _ (by omega)]
        · rw [sm_up_ne (by omega)]; exact w1 k (by omega)
    · rintro g1 ⟨w1, w2⟩
      refine ⟨g1, ?_, w1, w2⟩
      show hD (d + 1) 213 2 _ 341 (RR V) x g1 L = _
      rw [h_213_2n, if_neg (by decide)]
  obtain ⟨G1, b1, b2, b3⟩ := l2
  have g160 : G1 160 0 = i3 (sl T) := by rw [b2 0 (by omega)]; exact a1
  have l28 : ∃ G2, hD (d + 1) 213 28 [.ref 156, .int (i3 0)] 341 (RR V) x G1 L = hD (d + 1) 213 58 [.ref 156, .int (i3 0)] 341 (RR V) x G2 L ∧ (∀ k, k < sl T → G2 162 k = G1 161 k) ∧ ∀ r k, r ≠ 162 → G2 r k = G1 r k := by
    refine loopE (H := fun i (g : sm_G) => hD (d + 1) 213 28 [.ref 156, .int (i3 i)] 341 (RR V) x g L) (Q := fun o' => ∃ G2, o' = hD (d + 1) 213 58 [.ref 156, .int (i3 0)] 341 (RR V) x G2 L ∧ (∀ k, k < sl T → G2 162 k = G1 161 k) ∧ ∀ r k, r ≠ 162 → G2 r k = G1 r k) (N := sl T)
      (fun i g1 => (∀ k, k < i → g1 162 k = G1 161 k) ∧ ∀ r k, r ≠ 162 → g1 r k = G1 r k) ?_ ?_ (sl T) 0 G1 (by omega) ⟨fun j hj => by omega, fun _ _ _ => rfl⟩
    · rintro i g1 hi ⟨w1, w2⟩
      refine ⟨sm_up g1 162 i (g1 161 i), ?_, fun k hk => ?_, fun r k h => by rw [sm_up_ne (by omega)]; exact w2 r k h⟩
      · show hD (d + 1) 213 28 _ 341 (RR V) x g1 L = _
        rw [h_213_28n, w2 _ _ (by omega), g160, if_pos (by rw [i3_lt (by omega) (by omega)]; exact hi), i3_in (by omega) (by omega), gd_tt, gd_tt, i3_cl (by omega), i3_add]
      · by_cases q : k = i
        · subst q; rw [sm_up_same, w2 _ _ (by omega)]
        · rw [sm_up_ne (by omega)]; exact w1 k (by omega)
    · rintro g1 ⟨w1, w2⟩
      refine ⟨g1, ?_, w1, w2⟩
      show hD (d + 1) 213 28 _ 341 (RR V) x g1 L = _
      rw [h_213_28n, w2 _ _ (by omega), g160, if_neg (by rw [i3_lt (by omega) (by omega)]; omega)]
  obtain ⟨G2, c1, c2, c3⟩ := l28
  have l58 : ∀ (F : sm_G → Option (sm_Res × sm_D)), (∀ g : sm_G, (∀ k, k < 6 → g 164 k = G2 163 k) → (∀ r k, r ≠ 164 → g r k = G2 r k) → hD (d + 1) 213 58 [.ref 156, .int (i3 6)] 341 (RR V) x g L = F g) → ∃ G3, hD (d + 1) 213 58 [.ref 156, .int (i3 0)] 341 (RR V) x G2 L = F G3 ∧ (∀ k, k < 6 → G3 164 k = G2 163 k) ∧ ∀ r k, r ≠ 164 → G3 r k = G2 r k := by
    intro F hF
    refine loopE (H := fun i (g : sm_G) => hD (d + 1) 213 58 [.ref 156, .int (i3 i)] 341 (RR V) x g L) (Q := fun o' => ∃ G3, o' = F G3 ∧ (∀ k, k < 6 → G3 164 k = G2 163 k) ∧ ∀ r k, r ≠ 164 → G3 r k = G2 r k) (N := 6)
      (fun i g1 => (∀ k, k < i → g1 164 k = G2 163 k) ∧ ∀ r k, r ≠ 164 → g1 r k = G2 r k) ?_ ?_ 6 0 G2 (by omega) ⟨fun j hj => by omega, fun _ _ _ => rfl⟩
    · rintro i g1 hi ⟨w1, w2⟩
      refine ⟨sm_up g1 164 i (g1 163 i), ?_, fun k hk => ?_, fun r k h => by rw [sm_up_ne (by omega)]; exact w2 r k h⟩
      · show hD (d + 1) 213 58 _ 341 (RR V) x g1 L = _
        rw [h_213_58n, if_pos (by rw [i3_lt (by omega) (by omega)]; exact hi), i3_in (by omega) hi, gd_tt, gd_tt, i3_cl (by omega), i3_add]
      · by_cases q : k = i
        · subst q; rw [sm_up_same, w2 _ _ (by omega)]
        · rw [sm_up_ne (by omega)]; exact w1 k (by omega)
    · rintro g1 ⟨w1, w2⟩
      exact ⟨g1, hF g1 w1 w2, w1, w2⟩
  -- the last rows
  have l172 : ∀ g : sm_G, ∃ g', hD (d + 1) 213 172 [.ref 156, .int (i3 0)] 341 (RR V) x g L = oV x g' L ∧ (∀ k, k < 8 → g' 305 k = i3 k) ∧ g' 156 36 = i3 0 ∧ g' 156 37 = i3 0 ∧ g' 156 38 = i3 0 ∧ g' 156 39 = i3 0 ∧ ∀ r k, r ≠ 305 → ¬ (r = 156 ∧ 36 ≤ k ∧ k ≤ 39) → g' r k = g r k := fun g => by
    refine loopE (H := fun i (g : sm_G) => hD (d + 1) 213 172 [.ref 156, .int (i3 i)] 341 (RR V) x g L) (Q := fun o' => ∃ g', o' = oV x g' L ∧ (∀ k, k < 8 → g' 305 k = i3 k) ∧ g' 156 36 = i3 0 ∧ g' 156 37 = i3 0 ∧ g' 156 38 = i3 0 ∧ g' 156 39 = i3 0 ∧ ∀ r k, r ≠ 305 → ¬ (r = 156 ∧ 36 ≤ k ∧ k ≤ 39) → g' r k = g r k) (N := 8)
      (fun i g1 => (∀ k, k < i → g1 305 k = i3 k) ∧ ∀ r k, r ≠ 305 → g1 r k = g r k) ?_ ?_ 8 0 g (by omega) ⟨fun j hj => by omega, fun _ _ _ => rfl⟩
    · rintro i g1 hi ⟨w1, w2⟩
      refine ⟨sm_up g1 305 i (i3 i), ?_, fun k hk => ?_, fun r k h => by rw [sm_up_ne (by omega)]; exact w2 r k h⟩
      · show hD (d + 1) 213 172 _ 341 (RR V) x g1 L = _
        rw [h_213_172n, if_pos (by rw [i3_lt (by omega) (by omega)]; exact hi), i3_in (by omega) hi, gd_tt, i3_cl (by omega), i3_add]
      · by_cases q : k = i
        · subst q; exact sm_up_same _ _ _ _
        · rw [sm_up_ne (by omega)]; exact w1 k (by omega)
    · rintro g1 ⟨w1, w2⟩
      refine ⟨sm_up (sm_up (sm_up (sm_up g1 156 36 (i3 0)) 156 37 (i3 0)) 156 38 (i3 0)) 156 39 (i3 0), ?_, fun k hk => by rw [sm_up_ne (by omega), sm_up_ne (by omega), sm_up_ne (by omega), sm_up_ne (by omega)]; exact w1 k hk, ?_, ?_, ?_, sm_up_same _ _ _ _, fun r k h1 h2 => by rw [sm_up_ne (by omega), sm_up_ne (by omega), sm_up_ne (by omega), sm_up_ne (by omega)]; exact w2 r k h1⟩
      · show hD (d + 1) 213 172 _ 341 (RR V) x g1 L = _
        rw [h_213_172n, if_neg (by decide)]
      · rw [sm_up_ne (by omega), sm_up_ne (by omega), sm_up_ne (by omega), sm_up_same]
      · rw [sm_up_ne (by omega), sm_up_ne (by omega), sm_up_same]
      · rw [sm_up_ne (by omega), sm_up_same]
  have l152 : ∀ g : sm_G, ∃ g', hD (d + 1) 213 152 [.ref 156, .int (i3 0)] 341 (RR V) x g L = hD (d + 1) 213 172 [.ref 156, .int (i3 0)] 341 (RR V) x g' L ∧ (∀ k, k < 4 → g' 241 k = i3 0) ∧ ∀ r k, r ≠ 241 → g' r k = g r k := fun g => by
    refine loopE (H := fun i (g : sm_G) => hD (d + 1) 213 152 [.ref 156, .int (i3 i)] 341 (RR V) x g L) (Q := fun o' => ∃ g', o' = hD (d + 1) 213 172 [.ref 156, .int (i3 0)] 341 (RR V) x g' L ∧ (∀ k, k < 4 → g' 241 k = i3 0) ∧ ∀ r k, r ≠ 241 → g' r k = g r k) (N := 4)
      (fun i g1 => (∀ k, k < i → g1 241 k = i3 0) ∧ ∀ r k, r ≠ 241 → g1 r k = g r k) ?_ ?_ 4 0 g (by omega) ⟨fun j hj => by omega, fun _ _ _ => rfl⟩
    · rintro i g1 hi ⟨w1, w2⟩
      refine ⟨sm_up g1 241 i (i3 0), ?_, fun k hk => ?_, fun r k h => by rw [sm_up_ne (by omega)]; exact w2 r k h⟩
      · show hD (d + 1) 213 152 _ 341 (RR V) x g1 L = _
        rw [h_213_152n, if_pos (by rw [i3_lt (by omega) (by omega)]; exact hi), i3_in (by omega) hi, gd_tt, i3_cl (by omega), i3_add]
      · by_cases q : k = i
        · subst q; exact sm_up_same _ _ _ _
        · rw [sm_up_ne (by omega)]; exact w1 k (by omega)
    · rintro g1 ⟨w1, w2⟩
      refine ⟨g1, ?_, w1, w2⟩
      show hD (d + 1) 213 152 _ 341 (RR V) x g1 L = _
      rw [h_213_152n, if_neg (by decide)]
  obtain ⟨G3, d1, d2, d3⟩ := l58 (fun g => hD (d + 1) 213 58 [.ref 156, .int (i3 6)] 341 (RR V) x g L) (fun g _ _ => rfl)
  have f3 : ∀ r k, r ≠ 160 → r ≠ 162 → r ≠ 164 → G3 r k = G r k := fun r k h1 h2 h3 => by rw [d3 r k h3, c3 r k h2, b3 r k h1]
  have g3 : ∀ k, k < 6 → G3 160 k = G 159 k := fun k hk => by rw [d3 _ _ (by omega), c3 _ _ (by omega)]; exact b2 k hk
  obtain ⟨G4, u1, u2, u3⟩ := s_214n (D := d + 1) (x := x) (V := V) (G := G3) (L := L) (r0 := 165) (r1 := 174) (a := 166) (b := 175) (M := 8) (N := 3) (m := sl T) (by omega) hB.1 (by omega) (by omega) (by omega) (fun k hk => ⟨rr_165 hk, rr_174 hk, (is_341 (kr_165 hk) (by omega)), nr_165 hk, (is_341 (kr_174 hk) (by omega)), nr_174 hk⟩) (by decide +kernel) (by decide +kernel) n_165 n_174
  obtain ⟨G5, v1, v2, v3⟩ := s_214n (D := d + 1) (x := x) (V := V) (G := G4) (L := L) (r0 := 183) (r1 := 194) (a := 184) (b := 195) (M := 10) (N := 3) (m := dn T) (by omega) hB.2.1 (by omega) (by omega) (by omega) (fun k hk => ⟨rr_183 hk, rr_194 hk, (is_341 (kr_183 hk) (by omega)), nr_183 hk, (is_341 (kr_194 hk) (by omega)), nr_194 hk⟩) (by decide +kernel) (by decide +kernel) n_183 n_194
  obtain ⟨G6, w1, w2, w3⟩ := s_214n (D := d + 1) (x := x) (V := V) (G := G5) (L := L) (r0 := 205) (r1 := 218) (a := 206) (b := 219) (M := 12) (N := 2) (m := nn P) (by omega) hB2 (by omega) (by omega) (by omega) (fun k hk => ⟨rr_205 hk, rr_218 hk, (is_341 (kr_205 hk) (by omega)), nr_205 hk, (is_341 (kr_218 hk) (by omega)), nr_218 hk⟩) (by decide +kernel) (by decide +kernel) n_205 n_218
  obtain ⟨G7, y1, y2, y3⟩ := s_214n (D := d + 1) (x := x) (V := V) (G := G6) (L := L) (r0 := 231) (r1 := 236) (a := 232) (b := 237) (M := 4) (N := 2) (m := dr T) (by omega) hB.2.2.2.1 (by omega) (by omega) (by omega) (fun k hk => ⟨rr_231 hk, rr_236 hk, (is_341 (kr_231 hk) (by omega)), nr_231 hk, (is_341 (kr_236 hk) (by omega)), nr_236 hk⟩) (by decide +kernel) (by decide +kernel) n_231 n_236
  obtain ⟨G8, z1, z2, z3⟩ := l152 G7
  obtain ⟨G9, q1, q2, q3, q4, q5, q6, q7⟩ := l172 G8
  have e0 : G3 160 0 = i3 (sl T) := by rw [g3 0 (by omega)]; exact a1
  have e1 : G4 160 1 = i3 (dn T) := by rw [u3 _ _ (by omega), g3 1 (by omega)]; exact a2
  have e2 : G5 160 2 = i3 (nn P) := by rw [v3 _ _ (by omega), u3 _ _ (by omega), g3 2 (by omega)]; exact a3
  have e4 : G6 160 4 = i3 (dr T) := by rw [w3 _ _ (by omega), v3 _ _ (by omega), u3 _ _ (by omega), g3 4 (by omega)]; exact a5
  have f9 : ∀ r k, ¬ (r = 156 ∧ 36 ≤ k ∧ k ≤ 39) → ¬ (r = 241 ∨ r = 305) → ¬ (175 ≤ r ∧ r < 183) → ¬ (195 ≤ r ∧ r < 205) → ¬ (219 ≤ r ∧ r < 231) → ¬ (237 ≤ r ∧ r < 241) → G9 r k = G3 r k := fun r k h1 h2 h3 h4 h5 h6 => by
    rw [q7 r k (by omega) h1, z3 r k (by omega), y3 r k (by omega), w3 r k (by omega), v3 r k (by omega), u3 r k (by omega)]
  have s9 : ∀ k, k < sl T → ∀ i, i < 3 → G9 (175 + k) i = G (166 + k) i := fun k hk i hi => by
    rw [q7 _ _ (by omega) (by omega), z3 _ _ (by omega), y3 _ _ (by omega), w3 _ _ (by omega), v3 _ _ (by omega), u2 k hk i hi]
    exact f3 _ _ (by omega) (by omega) (by omega)
  have t9 : ∀ k, k < dn T → ∀ i, i < 3 → G9 (195 + k) i = G (184 + k) i := fun k hk i hi => by
    rw [q7 _ _ (by omega) (by omega), z3 _ _ (by omega), y3 _ _ (by omega), w3 _ _ (by omega), v2 k hk i hi, u3 _ _ (by omega)]
    exact f3 _ _ (by omega) (by omega) (by omega)
  have n9 : ∀ k, k < nn P → ∀ i, i < 2 → G9 (219 + k) i = G (206 + k) i := fun k hk i hi => by
    rw [q7 _ _ (by omega) (by omega), z3 _ _ (by omega), y3 _ _ (by omega), w2 k hk i hi, v3 _ _ (by omega), u3 _ _ (by omega)]
    exact f3 _ _ (by omega) (by omega) (by omega)
  have d9 : ∀ k, k < dr T → ∀ i, i < 2 → G9 (237 + k) i = G (232 + k) i := fun k hk i hi => by
    rw [q7 _ _ (by omega) (by omega), z3 _ _ (by omega), y2 k hk i hi, w3 _ _ (by omega), v3 _ _ (by omega), u3 _ _ (by omega)]
    exact f3 _ _ (by omega) (by omega) (by omega)
  have k9 : ∀ k, k < 6 → G9 160 k = G 159 k := fun k hk => by rw [f9 _ _ (by omega) (by omega) (by omega) (by omega) (by omega) (by omega)]; exact g3 k hk
  refine ⟨G9, ?_, ⟨by rw [k9 0 (by omega)]; exact a1, by rw [k9 1 (by omega)]; exact a2, by rw [k9 2 (by omega)]; exact a3, by rw [k9 3 (by omega)]; exact a4, by rw [k9 4 (by omega)]; exact a5, by rw [k9 5 (by omega)]; exact a6, q4, fun k hk => ?_, fun k hk => ?_, fun k hk => by rw [s9 k hk 0 (by omega)]; exact (a9 k hk).1, fun k hk => by rw [s9 k hk 1 (by omega)]; exact (a9 k hk).2.1, fun k hk => by rw [s9 k hk 2 (by omega)]; exact (a9 k hk).2.2, fun k hk => by rw [t9 k hk 0 (by omega)]; exact (a10 k hk).1, fun k hk => by rw [t9 k hk 1 (by omega)]; exact (a10 k hk).2.1, fun k hk => by rw [t9 k hk 2 (by omega)]; exact (a10 k hk).2.2, fun k hk => by rw [n9 k hk 0 (by omega)]; exact (a11 k hk).1, fun k hk => by rw [n9 k hk 1 (by omega)]; exact (a11 k hk).2, fun k hk => by rw [d9 k hk 0 (by omega)]; exact (a12 k hk).1, fun k hk => by rw [d9 k hk 1 (by omega)]; exact (a12 k hk).2⟩, q2, fun k hk => by rw [q7 _ _ (by omega) (by omega)]; exact z2 k hk, q3, q5, q6, fun r k h1 h2 h3 h4 h5 h6 => by rw [f9 r k h1 (by omega) h3 h4 h5 h6]; exact f3 r k (by omega) (by omega) (by omega)⟩
  · rw [m_213n, b1, c1, d1, h_213_58n, if_neg (by decide), e0, u1, aV_o, e1, v1, aV_o, e2, w1, aV_o, e4, y1, aV_o, z1, q1]
  · rw [f9 _ _ (by omega) (by omega) (by omega) (by omega) (by omega) (by omega), d3 _ _ (by omega), c2 k hk, b3 _ _ (by omega)]
    exact a7 k hk
  · rw [f9 _ _ (by omega) (by omega) (by omega) (by omega) (by omega) (by omega), d2 k hk, c3 _ _ (by omega), b3 _ _ (by omega)]
    exact a8 k hk
