/-! the law, case by case, by the program wip/gen/gen8.py -/
theorem cs_256 {d x t Ln : Nat} {V : pV} {G : sm_G} {L : sm_L} (I : Inv V G) (hL : G 8190 0 = i3 Ln) (h3 : Ln ≤ 3072) (ht : 6 * t + 6 ≤ Ln) : LawOk d x V G L 256 (i3 (6 * t)) := by
  have eq := lw_256 (d := d + 61) (x := x) (R := RR V) (G := G) (L := L) (v4 := i3 (6 * t))
  simp only [i3_add] at eq
  rw [ldi_z zz_o hL (by omega) h3, ldi_z zz_o hL (by omega) h3, ldi_z zz_o hL (by omega) h3, ldi_z zz_o hL (by omega) h3, ldi_z zz_o hL (by omega) h3] at eq
  exact stepD (op_11 I) eq (fun a1 x1 G1 L1 hz => by
    try dsimp only
    rw [ldi_z hz hL (by omega) h3, ldi_z hz hL (by omega) h3, ldi_z hz hL (by omega) h3, ldi_z hz hL (by omega) h3, ldi_z hz hL (by omega) h3])
theorem cs_329 {d x t Ln : Nat} {V : pV} {G : sm_G} {L : sm_L} (I : Inv V G) (hL : G 8190 0 = i3 Ln) (h3 : Ln ≤ 3072) (ht : 6 * t + 6 ≤ Ln) : LawOk d x V G L 329 (i3 (6 * t)) := by
  have eq : hW (d + 61) 531 329 [.ref 8191, .ref 1, .ref 156, .ref 342, .int (i3 (6 * t)), .null, .null, .null] 342 (RR V) x G L = ldi 8191 (i3 (6 * t) + i3 1) G (fun y1 => sm_bV (sm_cw (d + 61) 527 [.ref 1, .int y1, .ref 342] (342, RR V, x, G, L)) (fun o S => (sm_ev sm_rS (fun pc ls n R x G L => hW (d + 61) 531 pc ls n R x G L) (sm_T 531) (sm_ct 531) (sm_hd 531) (sm_cv0 (d + 61)) (sm_cw (d + 61)) 1993) 340 [.ref 8191, .ref 1, .ref 156, .ref 342, .int (i3 (6 * t)), .null, .null, .null] (o.toList ++ []) S.1 S.2.1 S.2.2.1 S.2.2.2.1 S.2.2.2.2) (fun e S => sm_exc sm_rS (sm_hd 531) 337 [.ref 8191, .ref 1, .ref 156, .ref 342, .int (i3 (6 * t)), .null, .null, .null] S.1 S.2.1 (sm_ev sm_rS (fun pc ls n R x G L => hW (d + 61) 531 pc ls n R x G L) (sm_T 531) (sm_ct 531) (sm_hd 531) (sm_cv0 (d + 61)) (sm_cw (d + 61)) 1993) e S.2.2.1 S.2.2.2.1 S.2.2.2.2)) := hW_eq.trans rfl
  simp only [i3_add] at eq
  rw [ldi_z zz_o hL (by omega) h3] at eq
  refine stepW (k := 217) (bs := [.ref 156, .int (G 8191 (6 * t + 1))]) (by decide) (op_513 I) eq (fun a1 V' x1 G1 L1 hz => ?_) (fun a R1 x1 G1 L1 h => hn_527 h) (fun e R1 x1 G1 L1 h h4 he => hx_527 h h4 he)
  refine (show _ = ldi 8191 (i3 (6 * t) + i3 1) G1 (fun z1 => sm_aI (sm_cv0 (d + 61) 217 342 (RR V') [.ref 156, .int z1] (x1, G1, L1)) (tlI (d + 61) (RR V') (i3 (6 * t)) a1) (wX 342 (RR V'))) from rfl).trans ?_
  simp only [i3_add]
  rw [ldi_z hz hL (by omega) h3]
theorem cs_385 {d x t Ln : Nat} {V : pV} {G : sm_G} {L : sm_L} (I : Inv V G) (hL : G 8190 0 = i3 Ln) (h3 : Ln ≤ 3072) (ht : 6 * t + 6 ≤ Ln) : LawOk d x V G L 385 (i3 (6 * t)) := by
  have eq : hW (d + 61) 531 385 [.ref 8191, .ref 1, .ref 156, .ref 342, .int (i3 (6 * t)), .null, .null, .null] 342 (RR V) x G L = ldi 8191 (i3 (6 * t) + i3 1) G (fun y1 => ldi 8191 (i3 (6 * t) + i3 2) G (fun y2 => sm_bV (sm_cw (d + 61) 528 [.ref 1, .int y1, .int y2, .ref 342] (342, RR V, x, G, L)) (fun o S => (sm_ev sm_rS (fun pc ls n R x G L => hW (d + 61) 531 pc ls n R x G L) (sm_T 531) (sm_ct 531) (sm_hd 531) (sm_cv0 (d + 61)) (sm_cw (d + 61)) 1988) 402 [.ref 8191, .ref 1, .ref 156, .ref 342, .int (i3 (6 * t)), .null, .null, .null] (o.toList ++ []) S.1 S.2.1 S.2.2.1 S.2.2.2.1 S.2.2.2.2) (fun e S => sm_exc sm_rS (sm_hd 531) 399 [.ref 8191, .ref 1, .ref 156, .ref 342, .int (i3 (6 * t)), .null, .null, .null] S.1 S.2.1 (sm_ev sm_rS (fun pc ls n R x G L => hW (d + 61) 531 pc ls n R x G L) (sm_T 531) (sm_ct 531) (sm_hd 531) (sm_cv0 (d + 61)) (sm_cw (d + 61)) 1988) e S.2.2.1 S.2.2.2.1 S.2.2.2.2))) := hW_eq.trans rfl
  simp only [i3_add] at eq
  rw [ldi_z zz_o hL (by omega) h3, ldi_z zz_o hL (by omega) h3] at eq
  refine stepW (k := 237) (bs := [.ref 156, .int (G 8191 (6 * t + 1)), .int (G 8191 (6 * t + 2))]) (by decide) (op_514 I) eq (fun a1 V' x1 G1 L1 hz => ?_) (fun a R1 x1 G1 L1 h => hn_528 h) (fun e R1 x1 G1 L1 h h4 he => hx_528 h h4 he)
  refine (show _ = ldi 8191 (i3 (6 * t) + i3 1) G1 (fun z1 => ldi 8191 (i3 (6 * t) + i3 2) G1 (fun z2 => sm_aI (sm_cv0 (d + 61) 237 342 (RR V') [.ref 156, .int z1, .int z2] (x1, G1, L1)) (tlI (d + 61) (RR V') (i3 (6 * t)) a1) (wX 342 (RR V')))) from rfl).trans ?_
  simp only [i3_add]
  rw [ldi_z hz hL (by omega) h3, ldi_z hz hL (by omega) h3]
theorem cs_453 {d x t Ln : Nat} {V : pV} {G : sm_G} {L : sm_L} (I : Inv V G) (hL : G 8190 0 = i3 Ln) (h3 : Ln ≤ 3072) (ht : 6 * t + 6 ≤ Ln) : LawOk d x V G L 453 (i3 (6 * t)) := by
  have eq : hW (d + 61) 531 453 [.ref 8191, .ref 1, .ref 156, .ref 342, .int (i3 (6 * t)), .null, .null, .null] 342 (RR V) x G L = ldi 8191 (i3 (6 * t) + i3 1) G (fun y1 => sm_bV (sm_cw (d + 61) 529 [.ref 1, .int y1, .ref 342] (342, RR V, x, G, L)) (fun o S => (sm_ev sm_rS (fun pc ls n R x G L => hW (d + 61) 531 pc ls n R x G L) (sm_T 531) (sm_ct 531) (sm_hd 531) (sm_cv0 (d + 61)) (sm_cw (d + 61)) 1993) 464 [.ref 8191, .ref 1, .ref 156, .ref 342, .int (i3 (6 * t)), .null, .null, .null] (o.toList ++ []) S.1 S.2.1 S.2.2.1 S.2.2.2.1 S.2.2.2.2) (fun e S => sm_exc sm_rS (sm_hd 531) 461 [.ref 8191, .ref 1, .ref 156, .ref 342, .int (i3 (6 * t)), .null, .null, .null] S.1 S.2.1 (sm_ev sm_rS (fun pc ls n R x G L => hW (d + 61) 531 pc ls n R x G L) (sm_T 531) (sm_ct 531) (sm_hd 531) (sm_cv0 (d + 61)) (sm_cw (d + 61)) 1993) e S.2.2.1 S.2.2.2.1 S.2.2.2.2)) := hW_eq.trans rfl
  simp only [i3_add] at eq
  rw [ldi_z zz_o hL (by omega) h3] at eq
  refine stepW (k := 244) (bs := [.ref 156, .int (G 8191 (6 * t + 1))]) (by decide) (op_515 I) eq (fun a1 V' x1 G1 L1 hz => ?_) (fun a R1 x1 G1 L1 h => hn_529 h) (fun e R1 x1 G1 L1 h h4 he => hx_529 h h4 he)
  refine (show _ = ldi 8191 (i3 (6 * t) + i3 1) G1 (fun z1 => sm_aI (sm_cv0 (d + 61) 244 342 (RR V') [.ref 156, .int z1] (x1, G1, L1)) (tlI (d + 61) (RR V') (i3 (6 * t)) a1) (wX 342 (RR V'))) from rfl).trans ?_
  simp only [i3_add]
  rw [ldi_z hz hL (by omega) h3]
theorem cs_509 {d x t Ln : Nat} {V : pV} {G : sm_G} {L : sm_L} (I : Inv V G) (hL : G 8190 0 = i3 Ln) (h3 : Ln ≤ 3072) (ht : 6 * t + 6 ≤ Ln) : LawOk d x V G L 509 (i3 (6 * t)) := by
  have eq := lw_509 (d := d + 61) (x := x) (R := RR V) (G := G) (L := L) (v4 := i3 (6 * t))
  exact stepD (op_12 I) eq (fun a1 x1 G1 L1 hz => rfl)
theorem cs_522 {d x t Ln : Nat} {V : pV} {G : sm_G} {L : sm_L} (I : Inv V G) (hL : G 8190 0 = i3 Ln) (h3 : Ln ≤ 3072) (ht : 6 * t + 6 ≤ Ln) : LawOk d x V G L 522 (i3 (6 * t)) := by
  have eq := lw_522 (d := d + 61) (x := x) (R := RR V) (G := G) (L := L) (v4 := i3 (6 * t))
  simp only [i3_add] at eq
  rw [ldi_z zz_o hL (by omega) h3] at eq
  exact stepI (by decide) (op_32 I) eq (fun a1 x1 G1 L1 hz => by
    try dsimp only
    rw [ldi_z hz hL (by omega) h3]) (fun a x1 G1 L1 h => hn_178 h) (fun e x1 G1 L1 h h4 he => hx_178 h h4 he)
theorem cs_578 {d x t Ln : Nat} {V : pV} {G : sm_G} {L : sm_L} (I : Inv V G) (hL : G 8190 0 = i3 Ln) (h3 : Ln ≤ 3072) (ht : 6 * t + 6 ≤ Ln) : LawOk d x V G L 578 (i3 (6 * t)) := by
  have eq := lw_578 (d := d + 61) (x := x) (R := RR V) (G := G) (L := L) (v4 := i3 (6 * t))
  simp only [i3_add] at eq
  rw [ldi_z zz_o hL (by omega) h3, ldi_z zz_o hL (by omega) h3] at eq
  exact stepI (by decide) (op_34 I) eq (fun a1 x1 G1 L1 hz => by
    try dsimp only
    rw [ldi_z hz hL (by omega) h3, ldi_z hz hL (by omega) h3]) (fun a x1 G1 L1 h => hn_179 h) (fun e x1 G1 L1 h h4 he => hx_179 h h4 he)
theorem cs_646 {d x t Ln : Nat} {V : pV} {G : sm_G} {L : sm_L} (I : Inv V G) (hL : G 8190 0 = i3 Ln) (h3 : Ln ≤ 3072) (ht : 6 * t + 6 ≤ Ln) : LawOk d x V G L 646 (i3 (6 * t)) := by
  have eq := lw_646 (d := d + 61) (x := x) (R := RR V) (G := G) (L := L) (v4 := i3 (6 * t))
  simp only [i3_add] at eq
  rw [ldi_z zz_o hL (by omega) h3, ldi_z zz_o hL (by omega) h3] at eq
  exact stepI (by decide) (op_35 I) eq (fun a1 x1 G1 L1 hz => by
    try dsimp only
    rw [ldi_z hz hL (by omega) h3, ldi_z hz hL (by omega) h3]) (fun a x1 G1 L1 h => hn_180 h) (fun e x1 G1 L1 h h4 he => hx_180 h h4 he)
theorem cs_714 {d x t Ln : Nat} {V : pV} {G : sm_G} {L : sm_L} (I : Inv V G) (hL : G 8190 0 = i3 Ln) (h3 : Ln ≤ 3072) (ht : 6 * t + 6 ≤ Ln) : LawOk d x V G L 714 (i3 (6 * t)) := by
  have eq := lw_714 (d := d + 61) (x := x) (R := RR V) (G := G) (L := L) (v4 := i3 (6 * t))
  simp only [i3_add] at eq
  rw [ldi_z zz_o hL (by omega) h3, ldi_z zz_o hL (by omega) h3] at eq
  exact stepI (by decide) (op_36 I) eq (fun a1 x1 G1 L1 hz => by
    try dsimp only
    rw [ldi_z hz hL (by omega) h3, ldi_z hz hL (by omega) h3]) (fun a x1 G1 L1 h => hn_181 h) (fun e x1 G1 L1 h h4 he => hx_181 h h4 he)
theorem cs_782 {d x t Ln : Nat} {V : pV} {G : sm_G} {L : sm_L} (I : Inv V G) (hL : G 8190 0 = i3 Ln) (h3 : Ln ≤ 3072) (ht : 6 * t + 6 ≤ Ln) : LawOk d x V G L 782 (i3 (6 * t)) := by
  have eq := lw_782 (d := d + 61) (x := x) (R := RR V) (G := G) (L := L) (v4 := i3 (6 * t))
  simp only [i3_add] at eq
  rw [ldi_z zz_o hL (by omega) h3, ldi_z zz_o hL (by omega) h3] at eq
  exact stepZ (by decide) (op_37 I) eq (fun a1 x1 G1 L1 hz => by
    try dsimp only
    rw [ldi_z hz hL (by omega) h3, ldi_z hz hL (by omega) h3]) (fun a x1 G1 L1 h => hn_182 h) (fun e x1 G1 L1 h h4 he => hx_182 h h4 he)
theorem cs_857 {d x t Ln : Nat} {V : pV} {G : sm_G} {L : sm_L} (I : Inv V G) (hL : G 8190 0 = i3 Ln) (h3 : Ln ≤ 3072) (ht : 6 * t + 6 ≤ Ln) : LawOk d x V G L 857 (i3 (6 * t)) := by
  have eq := lw_857 (d := d + 61) (x := x) (R := RR V) (G := G) (L := L) (v4 := i3 (6 * t))
  simp only [i3_add] at eq
  rw [ldi_z zz_o hL (by omega) h3, ldi_z zz_o hL (by omega) h3] at eq
  exact stepZ (by decide) (op_40 I) eq (fun a1 x1 G1 L1 hz => by
    try dsimp only
    rw [ldi_z hz hL (by omega) h3, ldi_z hz hL (by omega) h3]) (fun a x1 G1 L1 h => hn_183 h) (fun e x1 G1 L1 h h4 he => hx_183 h h4 he)
theorem cs_932 {d x t Ln : Nat} {V : pV} {G : sm_G} {L : sm_L} (I : Inv V G) (hL : G 8190 0 = i3 Ln) (h3 : Ln ≤ 3072) (ht : 6 * t + 6 ≤ Ln) : LawOk d x V G L 932 (i3 (6 * t)) := by
  have eq := lw_932 (d := d + 61) (x := x) (R := RR V) (G := G) (L := L) (v4 := i3 (6 * t))
  simp only [i3_add] at eq
  rw [ldi_z zz_o hL (by omega) h3, ldi_z zz_o hL (by omega) h3] at eq
  exact stepZ (by decide) (op_42 I) eq (fun a1 x1 G1 L1 hz => by
    try dsimp only
    rw [ldi_z hz hL (by omega) h3, ldi_z hz hL (by omega) h3]) (fun a x1 G1 L1 h => hn_184 h) (fun e x1 G1 L1 h h4 he => hx_184 h h4 he)
theorem cs_1007 {d x t Ln : Nat} {V : pV} {G : sm_G} {L : sm_L} (I : Inv V G) (hL : G 8190 0 = i3 Ln) (h3 : Ln ≤ 3072) (ht : 6 * t + 6 ≤ Ln) : LawOk d x V G L 1007 (i3 (6 * t)) := by
  have eq := lw_1007 (d := d + 61) (x := x) (R := RR V) (G := G) (L := L) (v4 := i3 (6 * t))
  simp only [i3_add] at eq
  rw [ldi_z zz_o hL (by omega) h3, ldi_z zz_o hL (by omega) h3] at eq
  exact stepI (by decide) (op_43 I) eq (fun a1 x1 G1 L1 hz => by
    try dsimp only
    rw [ldi_z hz hL (by omega) h3, ldi_z hz hL (by omega) h3]) (fun a x1 G1 L1 h => hn_185 h) (fun e x1 G1 L1 h h4 he => hx_185 h h4 he)
theorem cs_1075 {d x t Ln : Nat} {V : pV} {G : sm_G} {L : sm_L} (I : Inv V G) (hL : G 8190 0 = i3 Ln) (h3 : Ln ≤ 3072) (ht : 6 * t + 6 ≤ Ln) : LawOk d x V G L 1075 (i3 (6 * t)) := by
  have eq := lw_1075 (d := d + 61) (x := x) (R := RR V) (G := G) (L := L) (v4 := i3 (6 * t))
  simp only [i3_add] at eq
  rw [ldi_z zz_o hL (by omega) h3, ldi_z zz_o hL (by omega) h3] at eq
  exact stepI (by decide) (op_44 I) eq (fun a1 x1 G1 L1 hz => by
    try dsimp only
    rw [ldi_z hz hL (by omega) h3, ldi_z hz hL (by omega) h3]) (fun a x1 G1 L1 h => hn_186 h) (fun e x1 G1 L1 h h4 he => hx_186 h h4 he)
theorem cs_1143 {d x t Ln : Nat} {V : pV} {G : sm_G} {L : sm_L} (I : Inv V G) (hL : G 8190 0 = i3 Ln) (h3 : Ln ≤ 3072) (ht : 6 * t + 6 ≤ Ln) : LawOk d x V G L 1143 (i3 (6 * t)) := by
  have eq := lw_1143 (d := d + 61) (x := x) (R := RR V) (G := G) (L := L) (v4 := i3 (6 * t))
  exact stepD (op_13 I) eq (fun a1 x1 G1 L1 hz => rfl)
theorem cs_1156 {d x t Ln : Nat} {V : pV} {G : sm_G} {L : sm_L} (I : Inv V G) (hL : G 8190 0 = i3 Ln) (h3 : Ln ≤ 3072) (ht : 6 * t + 6 ≤ Ln) : LawOk d x V G L 1156 (i3 (6 * t)) := by
  have eq := lw_1156 (d := d + 61) (x := x) (R := RR V) (G := G) (L := L) (v4 := i3 (6 * t))
  simp only [i3_add] at eq
  rw [ldi_z zz_o hL (by omega) h3, ldi_z zz_o hL (by omega) h3] at eq
  exact stepI (by decide) (op_45 I) eq (fun a1 x1 G1 L1 hz => by
    try dsimp only
    rw [ldi_z hz hL (by omega) h3, ldi_z hz hL (by omega) h3]) (fun a x1 G1 L1 h => hn_187 h) (fun e x1 G1 L1 h h4 he => hx_187 h h4 he)
theorem cs_1224 {d x t Ln : Nat} {V : pV} {G : sm_G} {L : sm_L} (I : Inv V G) (hL : G 8190 0 = i3 Ln) (h3 : Ln ≤ 3072) (ht : 6 * t + 6 ≤ Ln) : LawOk d x V G L 1224 (i3 (6 * t)) := by
  have eq := lw_1224 (d := d + 61) (x := x) (R := RR V) (G := G) (L := L) (v4 := i3 (6 * t))
  simp only [i3_add] at eq
  rw [ldi_z zz_o hL (by omega) h3, ldi_z zz_o hL (by omega) h3, ldi_z zz_o hL (by omega) h3] at eq
  exact stepI (by decide) (op_46 I) eq (fun a1 x1 G1 L1 hz => by
    try dsimp only
    rw [ldi_z hz hL (by omega) h3, ldi_z hz hL (by omega) h3, ldi_z hz hL (by omega) h3]) (fun a x1 G1 L1 h => hn_188 h) (fun e x1 G1 L1 h h4 he => hx_188 h h4 he)
theorem cs_1304 {d x t Ln : Nat} {V : pV} {G : sm_G} {L : sm_L} (I : Inv V G) (hL : G 8190 0 = i3 Ln) (h3 : Ln ≤ 3072) (ht : 6 * t + 6 ≤ Ln) : LawOk d x V G L 1304 (i3 (6 * t)) := by
  have eq := lw_1304 (d := d + 61) (x := x) (R := RR V) (G := G) (L := L) (v4 := i3 (6 * t))
  simp only [i3_add] at eq
  rw [ldi_z zz_o hL (by omega) h3, ldi_z zz_o hL (by omega) h3, ldi_z zz_o hL (by omega) h3, ldi_z zz_o hL (by omega) h3] at eq
  exact stepI (by decide) (op_48 I) eq (fun a1 x1 G1 L1 hz => by
    try dsimp only
    rw [ldi_z hz hL (by omega) h3, ldi_z hz hL (by omega) h3, ldi_z hz hL (by omega) h3, ldi_z hz hL (by omega) h3]) (fun a x1 G1 L1 h => hn_189 h) (fun e x1 G1 L1 h h4 he => hx_189 h h4 he)
theorem cs_1396 {d x t Ln : Nat} {V : pV} {G : sm_G} {L : sm_L} (I : Inv V G) (hL : G 8190 0 = i3 Ln) (h3 : Ln ≤ 3072) (ht : 6 * t + 6 ≤ Ln) : LawOk d x V G L 1396 (i3 (6 * t)) := by
  have eq := lw_1396 (d := d + 61) (x := x) (R := RR V) (G := G) (L := L) (v4 := i3 (6 * t))
  simp only [i3_add] at eq
  rw [ldi_z zz_o hL (by omega) h3, ldi_z zz_o hL (by omega) h3, ldi_z zz_o hL (by omega) h3] at eq
  exact stepI (by decide) (op_49 I) eq (fun a1 x1 G1 L1 hz => by
    try dsimp only
    rw [ldi_z hz hL (by omega) h3, ldi_z hz hL (by omega) h3, ldi_z hz hL (by omega) h3]) (fun a x1 G1 L1 h => hn_190 h) (fun e x1 G1 L1 h h4 he => hx_190 h h4 he)
theorem cs_1476 {d x t Ln : Nat} {V : pV} {G : sm_G} {L : sm_L} (I : Inv V G) (hL : G 8190 0 = i3 Ln) (h3 : Ln ≤ 3072) (ht : 6 * t + 6 ≤ Ln) : LawOk d x V G L 1476 (i3 (6 * t)) := by
  have eq := lw_1476 (d := d + 61) (x := x) (R := RR V) (G := G) (L := L) (v4 := i3 (6 * t))
  simp only [i3_add] at eq
  rw [ldi_z zz_o hL (by omega) h3] at eq
  exact stepI (by decide) (op_50 I) eq (fun a1 x1 G1 L1 hz => by
    try dsimp only
    rw [ldi_z hz hL (by omega) h3]) (fun a x1 G1 L1 h => hn_191 h) (fun e x1 G1 L1 h h4 he => hx_191 h h4 he)
theorem cs_1532 {d x t Ln : Nat} {V : pV} {G : sm_G} {L : sm_L} (I : Inv V G) (hL : G 8190 0 = i3 Ln) (h3 : Ln ≤ 3072) (ht : 6 * t + 6 ≤ Ln) : LawOk d x V G L 1532 (i3 (6 * t)) := by
  have eq := lw_1532 (d := d + 61) (x := x) (R := RR V) (G := G) (L := L) (v4 := i3 (6 * t))
  simp only [i3_add] at eq
  rw [ldi_z zz_o hL (by omega) h3, ldi_z zz_o hL (by omega) h3, ldi_z zz_o hL (by omega) h3] at eq
  exact stepI (by decide) (op_52 I) eq (fun a1 x1 G1 L1 hz => by
    try dsimp only
    rw [ldi_z hz hL (by omega) h3, ldi_z hz hL (by omega) h3, ldi_z hz hL (by omega) h3]) (fun a x1 G1 L1 h => hn_192 h) (fun e x1 G1 L1 h h4 he => hx_192 h h4 he)
theorem cs_1612 {d x t Ln : Nat} {V : pV} {G : sm_G} {L : sm_L} (I : Inv V G) (hL : G 8190 0 = i3 Ln) (h3 : Ln ≤ 3072) (ht : 6 * t + 6 ≤ Ln) : LawOk d x V G L 1612 (i3 (6 * t)) := by
  have eq := lw_1612 (d := d + 61) (x := x) (R := RR V) (G := G) (L := L) (v4 := i3 (6 * t))
  simp only [i3_add] at eq
  rw [ldi_z zz_o hL (by omega) h3, ldi_z zz_o hL (by omega) h3, ldi_z zz_o hL (by omega) h3] at eq
  exact stepI (by decide) (op_53 I) eq (fun a1 x1 G1 L1 hz => by
    try dsimp only
    rw [ldi_z hz hL (by omega) h3, ldi_z hz hL (by omega) h3, ldi_z hz hL (by omega) h3]) (fun a x1 G1 L1 h => hn_193 h) (fun e x1 G1 L1 h h4 he => hx_193 h h4 he)
theorem cs_1692 {d x t Ln : Nat} {V : pV} {G : sm_G} {L : sm_L} (I : Inv V G) (hL : G 8190 0 = i3 Ln) (h3 : Ln ≤ 3072) (ht : 6 * t + 6 ≤ Ln) : LawOk d x V G L 1692 (i3 (6 * t)) := by
  have eq := lw_1692 (d := d + 61) (x := x) (R := RR V) (G := G) (L := L) (v4 := i3 (6 * t))
  simp only [i3_add] at eq
  rw [ldi_z zz_o hL (by omega) h3, ldi_z zz_o hL (by omega) h3, ldi_z zz_o hL (by omega) h3] at eq
  exact stepI (by decide) (op_54 I) eq (fun a1 x1 G1 L1 hz => by
    try dsimp only
    rw [ldi_z hz hL (by omega) h3, ldi_z hz hL (by omega) h3, ldi_z hz hL (by omega) h3]) (fun a x1 G1 L1 h => hn_194 h) (fun e x1 G1 L1 h h4 he => hx_194 h h4 he)
theorem cs_1772 {d x t Ln : Nat} {V : pV} {G : sm_G} {L : sm_L} (I : Inv V G) (hL : G 8190 0 = i3 Ln) (h3 : Ln ≤ 3072) (ht : 6 * t + 6 ≤ Ln) : LawOk d x V G L 1772 (i3 (6 * t)) := by
  have eq := lw_1772 (d := d + 61) (x := x) (R := RR V) (G := G) (L := L) (v4 := i3 (6 * t))
  simp only [i3_add] at eq
  rw [ldi_z zz_o hL (by omega) h3, ldi_z zz_o hL (by omega) h3, ldi_z zz_o hL (by omega) h3] at eq
  exact stepI (by decide) (op_55 I) eq (fun a1 x1 G1 L1 hz => by
    try dsimp only
    rw [ldi_z hz hL (by omega) h3, ldi_z hz hL (by omega) h3, ldi_z hz hL (by omega) h3]) (fun a x1 G1 L1 h => hn_195 h) (fun e x1 G1 L1 h h4 he => hx_195 h h4 he)
theorem cs_1852 {d x t Ln : Nat} {V : pV} {G : sm_G} {L : sm_L} (I : Inv V G) (hL : G 8190 0 = i3 Ln) (h3 : Ln ≤ 3072) (ht : 6 * t + 6 ≤ Ln) : LawOk d x V G L 1852 (i3 (6 * t)) := by
  have eq := lw_1852 (d := d + 61) (x := x) (R := RR V) (G := G) (L := L) (v4 := i3 (6 * t))
  exact stepD (op_16 I) eq (fun a1 x1 G1 L1 hz => rfl)
theorem cs_1865 {d x t Ln : Nat} {V : pV} {G : sm_G} {L : sm_L} (I : Inv V G) (hL : G 8190 0 = i3 Ln) (h3 : Ln ≤ 3072) (ht : 6 * t + 6 ≤ Ln) : LawOk d x V G L 1865 (i3 (6 * t)) := by
  have eq := lw_1865 (d := d + 61) (x := x) (R := RR V) (G := G) (L := L) (v4 := i3 (6 * t))
  simp only [i3_add] at eq
  rw [ldi_z zz_o hL (by omega) h3, ldi_z zz_o hL (by omega) h3] at eq
  exact stepI (by decide) (op_56 I) eq (fun a1 x1 G1 L1 hz => by
    try dsimp only
    rw [ldi_z hz hL (by omega) h3, ldi_z hz hL (by omega) h3]) (fun a x1 G1 L1 h => hn_196 h) (fun e x1 G1 L1 h h4 he => hx_196 h h4 he)
theorem cs_1933 {d x t Ln : Nat} {V : pV} {G : sm_G} {L : sm_L} (I : Inv V G) (hL : G 8190 0 = i3 Ln) (h3 : Ln ≤ 3072) (ht : 6 * t + 6 ≤ Ln) : LawOk d x V G L 1933 (i3 (6 * t)) := by
  have eq := lw_1933 (d := d + 61) (x := x) (R := RR V) (G := G) (L := L) (v4 := i3 (6 * t))
  simp only [i3_add] at eq
  rw [ldi_z zz_o hL (by omega) h3, ldi_z zz_o hL (by omega) h3, ldi_z zz_o hL (by omega) h3] at eq
  exact stepL (op_57 I) eq (fun a1 x1 G1 L1 hz => by
    try dsimp only
    rw [ldi_z hz hL (by omega) h3, ldi_z hz hL (by omega) h3, ldi_z hz hL (by omega) h3]) (fun a x1 G1 L1 h => hn_197 h) (fun e x1 G1 L1 h h4 he => hx_197 h h4 he) (by decide)
theorem cs_2012 {d x t Ln : Nat} {V : pV} {G : sm_G} {L : sm_L} (I : Inv V G) (hL : G 8190 0 = i3 Ln) (h3 : Ln ≤ 3072) (ht : 6 * t + 6 ≤ Ln) : LawOk d x V G L 2012 (i3 (6 * t)) := by
  have eq := lw_2012 (d := d + 61) (x := x) (R := RR V) (G := G) (L := L) (v4 := i3 (6 * t))
  simp only [i3_add] at eq
  rw [ldi_z zz_o hL (by omega) h3, ldi_z zz_o hL (by omega) h3] at eq
  exact stepI (by decide) (op_58 I) eq (fun a1 x1 G1 L1 hz => by
    try dsimp only
    rw [ldi_z hz hL (by omega) h3, ldi_z hz hL (by omega) h3]) (fun a x1 G1 L1 h => hn_198 h) (fun e x1 G1 L1 h h4 he => hx_198 h h4 he)
theorem cs_2080 {d x t Ln : Nat} {V : pV} {G : sm_G} {L : sm_L} (I : Inv V G) (hL : G 8190 0 = i3 Ln) (h3 : Ln ≤ 3072) (ht : 6 * t + 6 ≤ Ln) : LawOk d x V G L 2080 (i3 (6 * t)) := by
  have eq := lw_2080 (d := d + 61) (x := x) (R := RR V) (G := G) (L := L) (v4 := i3 (6 * t))
  simp only [i3_add] at eq
  rw [ldi_z zz_o hL (by omega) h3, ldi_z zz_o hL (by omega) h3, ldi_z zz_o hL (by omega) h3] at eq
  exact stepI (by decide) (op_59 I) eq (fun a1 x1 G1 L1 hz => by
    try dsimp only
    rw [ldi_z hz hL (by omega) h3, ldi_z hz hL (by omega) h3, ldi_z hz hL (by omega) h3]) (fun a x1 G1 L1 h => hn_199 h) (fun e x1 G1 L1 h h4 he => hx_199 h h4 he)
theorem cs_2160 {d x t Ln : Nat} {V : pV} {G : sm_G} {L : sm_L} (I : Inv V G) (hL : G 8190 0 = i3 Ln) (h3 : Ln ≤ 3072) (ht : 6 * t + 6 ≤ Ln) : LawOk d x V G L 2160 (i3 (6 * t)) := by
  have eq := lw_2160 (d := d + 61) (x := x) (R := RR V) (G := G) (L := L) (v4 := i3 (6 * t))
  simp only [i3_add] at eq
  rw [ldi_z zz_o hL (by omega) h3] at eq
  exact stepI (by decide) (op_60 I) eq (fun a1 x1 G1 L1 hz => by
    try dsimp only
    rw [ldi_z hz hL (by omega) h3]) (fun a x1 G1 L1 h => hn_200 h) (fun e x1 G1 L1 h h4 he => hx_200 h h4 he)
theorem cs_2216 {d x t Ln : Nat} {V : pV} {G : sm_G} {L : sm_L} (I : Inv V G) (hL : G 8190 0 = i3 Ln) (h3 : Ln ≤ 3072) (ht : 6 * t + 6 ≤ Ln) : LawOk d x V G L 2216 (i3 (6 * t)) := by
  have eq := lw_2216 (d := d + 61) (x := x) (R := RR V) (G := G) (L := L) (v4 := i3 (6 * t))
  simp only [i3_add] at eq
  rw [ldi_z zz_o hL (by omega) h3] at eq
  exact stepI (by decide) (op_63 I) eq (fun a1 x1 G1 L1 hz => by
    try dsimp only
    rw [ldi_z hz hL (by omega) h3]) (fun a x1 G1 L1 h => hn_201 h) (fun e x1 G1 L1 h h4 he => hx_201 h h4 he)
theorem cs_2272 {d x t Ln : Nat} {V : pV} {G : sm_G} {L : sm_L} (I : Inv V G) (hL : G 8190 0 = i3 Ln) (h3 : Ln ≤ 3072) (ht : 6 * t + 6 ≤ Ln) : LawOk d x V G L 2272 (i3 (6 * t)) := by
  have eq := lw_2272 (d := d + 61) (x := x) (R := RR V) (G := G) (L := L) (v4 := i3 (6 * t))
  simp only [i3_add] at eq
  rw [ldi_z zz_o hL (by omega) h3] at eq
  exact stepI (by decide) (op_64 I) eq (fun a1 x1 G1 L1 hz => by
    try dsimp only
    rw [ldi_z hz hL (by omega) h3]) (fun a x1 G1 L1 h => hn_202 h) (fun e x1 G1 L1 h h4 he => hx_202 h h4 he)
theorem cs_2328 {d x t Ln : Nat} {V : pV} {G : sm_G} {L : sm_L} (I : Inv V G) (hL : G 8190 0 = i3 Ln) (h3 : Ln ≤ 3072) (ht : 6 * t + 6 ≤ Ln) : LawOk d x V G L 2328 (i3 (6 * t)) := by
  have eq := lw_2328 (d := d + 61) (x := x) (R := RR V) (G := G) (L := L) (v4 := i3 (6 * t))
  simp only [i3_add] at eq
  rw [ldi_z zz_o hL (by omega) h3, ldi_z zz_o hL (by omega) h3] at eq
  exact stepI (by decide) (op_65 I) eq (fun a1 x1 G1 L1 hz => by
    try dsimp only
    rw [ldi_z hz hL (by omega) h3, ldi_z hz hL (by omega) h3]) (fun a x1 G1 L1 h => hn_203 h) (fun e x1 G1 L1 h h4 he => hx_203 h h4 he)
theorem cs_2396 {d x t Ln : Nat} {V : pV} {G : sm_G} {L : sm_L} (I : Inv V G) (hL : G 8190 0 = i3 Ln) (h3 : Ln ≤ 3072) (ht : 6 * t + 6 ≤ Ln) : LawOk d x V G L 2396 (i3 (6 * t)) := by
  have eq := lw_2396 (d := d + 61) (x := x) (R := RR V) (G := G) (L := L) (v4 := i3 (6 * t))
  simp only [i3_add] at eq
  rw [ldi_z zz_o hL (by omega) h3, ldi_z zz_o hL (by omega) h3, ldi_z zz_o hL (by omega) h3] at eq
  exact stepI (by decide) (op_66 I) eq (fun a1 x1 G1 L1 hz => by
    try dsimp only
    rw [ldi_z hz hL (by omega) h3, ldi_z hz hL (by omega) h3, ldi_z hz hL (by omega) h3]) (fun a x1 G1 L1 h => hn_204 h) (fun e x1 G1 L1 h h4 he => hx_204 h h4 he)
theorem cs_2476 {d x t Ln : Nat} {V : pV} {G : sm_G} {L : sm_L} (I : Inv V G) (hL : G 8190 0 = i3 Ln) (h3 : Ln ≤ 3072) (ht : 6 * t + 6 ≤ Ln) : LawOk d x V G L 2476 (i3 (6 * t)) := by
  have eq := lw_2476 (d := d + 61) (x := x) (R := RR V) (G := G) (L := L) (v4 := i3 (6 * t))
  simp only [i3_add] at eq
  rw [ldi_z zz_o hL (by omega) h3, ldi_z zz_o hL (by omega) h3] at eq
  exact stepI (by decide) (op_67 I) eq (fun a1 x1 G1 L1 hz => by
    try dsimp only
    rw [ldi_z hz hL (by omega) h3, ldi_z hz hL (by omega) h3]) (fun a x1 G1 L1 h => hn_205 h) (fun e x1 G1 L1 h h4 he => hx_205 h h4 he)
theorem cs_2544 {d x t Ln : Nat} {V : pV} {G : sm_G} {L : sm_L} (I : Inv V G) (hL : G 8190 0 = i3 Ln) (h3 : Ln ≤ 3072) (ht : 6 * t + 6 ≤ Ln) : LawOk d x V G L 2544 (i3 (6 * t)) := by
  have eq := lw_2544 (d := d + 61) (x := x) (R := RR V) (G := G) (L := L) (v4 := i3 (6 * t))
  exact stepD (op_17 I) eq (fun a1 x1 G1 L1 hz => rfl)
theorem cs_2557 {d x t Ln : Nat} {V : pV} {G : sm_G} {L : sm_L} (I : Inv V G) (hL : G 8190 0 = i3 Ln) (h3 : Ln ≤ 3072) (ht : 6 * t + 6 ≤ Ln) : LawOk d x V G L 2557 (i3 (6 * t)) := by
  have eq := lw_2557 (d := d + 61) (x := x) (R := RR V) (G := G) (L := L) (v4 := i3 (6 * t))
  simp only [i3_add] at eq
  rw [ldi_z zz_o hL (by omega) h3] at eq
  exact stepI (by decide) (op_68 I) eq (fun a1 x1 G1 L1 hz => by
    try dsimp only
    rw [ldi_z hz hL (by omega) h3]) (fun a x1 G1 L1 h => hn_206 h) (fun e x1 G1 L1 h h4 he => hx_206 h h4 he)
theorem cs_2613 {d x t Ln : Nat} {V : pV} {G : sm_G} {L : sm_L} (I : Inv V G) (hL : G 8190 0 = i3 Ln) (h3 : Ln ≤ 3072) (ht : 6 * t + 6 ≤ Ln) : LawOk d x V G L 2613 (i3 (6 * t)) := by
  have eq := lw_2613 (d := d + 61) (x := x) (R := RR V) (G := G) (L := L) (v4 := i3 (6 * t))
  exact stepD (op_18 I) eq (fun a1 x1 G1 L1 hz => rfl)
theorem cs_2626 {d x t Ln : Nat} {V : pV} {G : sm_G} {L : sm_L} (I : Inv V G) (hL : G 8190 0 = i3 Ln) (h3 : Ln ≤ 3072) (ht : 6 * t + 6 ≤ Ln) : LawOk d x V G L 2626 (i3 (6 * t)) := by
  have eq := lw_2626 (d := d + 61) (x := x) (R := RR V) (G := G) (L := L) (v4 := i3 (6 * t))
  simp only [i3_add] at eq
  rw [ldi_z zz_o hL (by omega) h3] at eq
  exact stepI (by decide) (op_69 I) eq (fun a1 x1 G1 L1 hz => by
    try dsimp only
    rw [ldi_z hz hL (by omega) h3]) (fun a x1 G1 L1 h => hn_207 h) (fun e x1 G1 L1 h h4 he => hx_207 h h4 he)
theorem cs_2682 {d x t Ln : Nat} {V : pV} {G : sm_G} {L : sm_L} (I : Inv V G) (hL : G 8190 0 = i3 Ln) (h3 : Ln ≤ 3072) (ht : 6 * t + 6 ≤ Ln) : LawOk d x V G L 2682 (i3 (6 * t)) := by
  have eq := lw_2682 (d := d + 61) (x := x) (R := RR V) (G := G) (L := L) (v4 := i3 (6 * t))
  simp only [i3_add] at eq
  rw [ldi_z zz_o hL (by omega) h3] at eq
  exact stepI (by decide) (op_70n I) eq (fun a1 x1 G1 L1 hz => by
    try dsimp only
    rw [ldi_z hz hL (by omega) h3]) (fun a x1 G1 L1 h => hn_208 h) (fun e x1 G1 L1 h h4 he => hx_208 h h4 he)
theorem cs_2738 {d x t Ln : Nat} {V : pV} {G : sm_G} {L : sm_L} (I : Inv V G) (hL : G 8190 0 = i3 Ln) (h3 : Ln ≤ 3072) (ht : 6 * t + 6 ≤ Ln) : LawOk d x V G L 2738 (i3 (6 * t)) := by
  have eq := lw_2738 (d := d + 61) (x := x) (R := RR V) (G := G) (L := L) (v4 := i3 (6 * t))
  exact stepD (op_20 I) eq (fun a1 x1 G1 L1 hz => rfl)
theorem cs_2751 {d x t Ln : Nat} {V : pV} {G : sm_G} {L : sm_L} (I : Inv V G) (hL : G 8190 0 = i3 Ln) (h3 : Ln ≤ 3072) (ht : 6 * t + 6 ≤ Ln) : LawOk d x V G L 2751 (i3 (6 * t)) := by
  have eq := lw_2751 (d := d + 61) (x := x) (R := RR V) (G := G) (L := L) (v4 := i3 (6 * t))
  simp only [i3_add] at eq
  rw [ldi_z zz_o hL (by omega) h3] at eq
  exact stepI (by decide) (op_71 I) eq (fun a1 x1 G1 L1 hz => by
    try dsimp only
    rw [ldi_z hz hL (by omega) h3]) (fun a x1 G1 L1 h => hn_209 h) (fun e x1 G1 L1 h h4 he => hx_209 h h4 he)
theorem cs_2807 {d x t Ln : Nat} {V : pV} {G : sm_G} {L : sm_L} (I : Inv V G) (hL : G 8190 0 = i3 Ln) (h3 : Ln ≤ 3072) (ht : 6 * t + 6 ≤ Ln) : LawOk d x V G L 2807 (i3 (6 * t)) := by
  have eq := lw_2807 (d := d + 61) (x := x) (R := RR V) (G := G) (L := L) (v4 := i3 (6 * t))
  simp only [i3_add] at eq
  rw [ldi_z zz_o hL (by omega) h3, ldi_z zz_o hL (by omega) h3] at eq
  exact stepI (by decide) (op_72 I) eq (fun a1 x1 G1 L1 hz => by
    try dsimp only
    rw [ldi_z hz hL (by omega) h3, ldi_z hz hL (by omega) h3]) (fun a x1 G1 L1 h => hn_210 h) (fun e x1 G1 L1 h h4 he => hx_210 h h4 he)
theorem cs_2875 {d x t Ln : Nat} {V : pV} {G : sm_G} {L : sm_L} (I : Inv V G) (hL : G 8190 0 = i3 Ln) (h3 : Ln ≤ 3072) (ht : 6 * t + 6 ≤ Ln) : LawOk d x V G L 2875 (i3 (6 * t)) := by
  have eq := lw_2875 (d := d + 61) (x := x) (R := RR V) (G := G) (L := L) (v4 := i3 (6 * t))
  simp only [i3_add] at eq
  rw [ldi_z zz_o hL (by omega) h3] at eq
  exact stepD (op_22 I) eq (fun a1 x1 G1 L1 hz => by
    try dsimp only
    rw [ldi_z hz hL (by omega) h3])
theorem cs_2900 {d x t Ln : Nat} {V : pV} {G : sm_G} {L : sm_L} (I : Inv V G) (hL : G 8190 0 = i3 Ln) (h3 : Ln ≤ 3072) (ht : 6 * t + 6 ≤ Ln) : LawOk d x V G L 2900 (i3 (6 * t)) := by
  have eq := lw_2900 (d := d + 61) (x := x) (R := RR V) (G := G) (L := L) (v4 := i3 (6 * t))
  simp only [i3_add] at eq
  rw [ldi_z zz_o hL (by omega) h3, ldi_z zz_o hL (by omega) h3, ldi_z zz_o hL (by omega) h3] at eq
  exact stepI (by decide) (op_73 I) eq (fun a1 x1 G1 L1 hz => by
    try dsimp only
    rw [ldi_z hz hL (by omega) h3, ldi_z hz hL (by omega) h3, ldi_z hz hL (by omega) h3]) (fun a x1 G1 L1 h => hn_211 h) (fun e x1 G1 L1 h h4 he => hx_211 h h4 he)
theorem cs_2980 {d x t Ln : Nat} {V : pV} {G : sm_G} {L : sm_L} (I : Inv V G) (hL : G 8190 0 = i3 Ln) (h3 : Ln ≤ 3072) (ht : 6 * t + 6 ≤ Ln) : LawOk d x V G L 2980 (i3 (6 * t)) := by
  have eq := lw_2980 (d := d + 61) (x := x) (R := RR V) (G := G) (L := L) (v4 := i3 (6 * t))
  exact stepD (op_24 I) eq (fun a1 x1 G1 L1 hz => rfl)
theorem cs_2993 {d x t Ln : Nat} {V : pV} {G : sm_G} {L : sm_L} (I : Inv V G) (hL : G 8190 0 = i3 Ln) (h3 : Ln ≤ 3072) (ht : 6 * t + 6 ≤ Ln) : LawOk d x V G L 2993 (i3 (6 * t)) := by
  have eq := lw_2993 (d := d + 61) (x := x) (R := RR V) (G := G) (L := L) (v4 := i3 (6 * t))
  exact stepD (op_25 I) eq (fun a1 x1 G1 L1 hz => rfl)
theorem cs_3006 {d x t Ln : Nat} {V : pV} {G : sm_G} {L : sm_L} (I : Inv V G) (hL : G 8190 0 = i3 Ln) (h3 : Ln ≤ 3072) (ht : 6 * t + 6 ≤ Ln) : LawOk d x V G L 3006 (i3 (6 * t)) := by
  have eq := lw_3006 (d := d + 61) (x := x) (R := RR V) (G := G) (L := L) (v4 := i3 (6 * t))
  exact stepD (op_26 I) eq (fun a1 x1 G1 L1 hz => rfl)
theorem cs_3019 {d x t Ln : Nat} {V : pV} {G : sm_G} {L : sm_L} (I : Inv V G) (hL : G 8190 0 = i3 Ln) (h3 : Ln ≤ 3072) (ht : 6 * t + 6 ≤ Ln) : LawOk d x V G L 3019 (i3 (6 * t)) := by
  have eq := lw_3019 (d := d + 61) (x := x) (R := RR V) (G := G) (L := L) (v4 := i3 (6 * t))
  simp only [i3_add] at eq
  rw [ldi_z zz_o hL (by omega) h3] at eq
  exact stepD (op_27 I) eq (fun a1 x1 G1 L1 hz => by
    try dsimp only
    rw [ldi_z hz hL (by omega) h3])
theorem cs_3044 {d x t Ln : Nat} {V : pV} {G : sm_G} {L : sm_L} (I : Inv V G) (hL : G 8190 0 = i3 Ln) (h3 : Ln ≤ 3072) (ht : 6 * t + 6 ≤ Ln) : LawOk d x V G L 3044 (i3 (6 * t)) := by
  have eq := lw_3044 (d := d + 61) (x := x) (R := RR V) (G := G) (L := L) (v4 := i3 (6 * t))
  simp only [i3_add] at eq
  rw [ldi_z zz_o hL (by omega) h3] at eq
  exact stepD (op_28 I) eq (fun a1 x1 G1 L1 hz => by
    try dsimp only
    rw [ldi_z hz hL (by omega) h3])
