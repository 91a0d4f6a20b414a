/-! the law's helpers, by the program wip/gen/gen6.py -/
def eN1 : Nat → Nat := fun e => if e = 1 then 1 else 0
/-! told -/
theorem hn_178 {d x x1 : Nat} {R : sm_R} {G G1 : sm_G} {L L1 : sm_L} {v1 : Int32} {a : Int32} (h : sm_cv0 d 32 342 R [.ref 1, .int v1] (x, G, L) = oI a x1 G1 L1) : sm_cv0 (d + 1) 178 342 R [.ref 1, .int v1, .ref 342] (x, G, L) = oI (i3 0) x1 G1 (sm_up L1 342 0 (Int32.toInt64 a)) := by
  refine (cv_eq rfl rfl).trans (hD_eq.trans ?_)
  refine (show sm_blk _ _ _ _ _ _ _ _ _ _ _ _ _ _ = sm_aI (sm_cv0 d 32 342 R [.ref 1, .int v1] (x, G, L)) _ _ from rfl).trans ?_
  rw [h]
  rfl
theorem hx_178 {d x x1 : Nat} {R : sm_R} {G G1 : sm_G} {L L1 : sm_L} {v1 : Int32} {e : Nat} (h : sm_cv0 d 32 342 R [.ref 1, .int v1] (x, G, L) = oX e x1 G1 L1) (h4 : e < 4) (he : 0 < eA e) : sm_cv0 (d + 1) 178 342 R [.ref 1, .int v1, .ref 342] (x, G, L) = oI (i3 (eA e)) x1 G1 L1 := by
  refine (cv_eq rfl rfl).trans (hD_eq.trans ?_)
  refine (show sm_blk _ _ _ _ _ _ _ _ _ _ _ _ _ _ = sm_aI (sm_cv0 d 32 342 R [.ref 1, .int v1] (x, G, L)) _ _ from rfl).trans ?_
  rw [h]
  rcases (show e = 0 ∨ e = 1 ∨ e = 2 ∨ e = 3 by omega) with rfl | rfl | rfl | rfl
  · exact absurd he (by decide)
  · exact absurd he (by decide)
  · rfl
  · exact absurd he (by decide)
/-! sleeps -/
theorem hn_182 {d x x1 : Nat} {R : sm_R} {G G1 : sm_G} {L L1 : sm_L} {v1 v2 : Int32} {a : Int32} (h : sm_cv0 d 37 342 R [.ref 1, .int v1, .int v2] (x, G, L) = oI a x1 G1 L1) : sm_cv0 (d + 1) 182 342 R [.ref 1, .int v1, .int v2, .ref 342] (x, G, L) = if a = i3 0 then oI (i3 0) x1 G1 (sm_up L1 342 0 0) else oI (i3 0) x1 G1 (sm_up L1 342 0 1) := by
  refine (cv_eq rfl rfl).trans (hD_eq.trans ?_)
  refine (show sm_blk _ _ _ _ _ _ _ _ _ _ _ _ _ _ = sm_aI (sm_cv0 d 37 342 R [.ref 1, .int v1, .int v2] (x, G, L)) _ _ from rfl).trans ?_
  rw [h]
  rfl
theorem hx_182 {d x x1 : Nat} {R : sm_R} {G G1 : sm_G} {L L1 : sm_L} {v1 v2 : Int32} {e : Nat} (h : sm_cv0 d 37 342 R [.ref 1, .int v1, .int v2] (x, G, L) = oX e x1 G1 L1) (h4 : e < 4) (he : 0 < eN e) : sm_cv0 (d + 1) 182 342 R [.ref 1, .int v1, .int v2, .ref 342] (x, G, L) = oI (i3 (eN e)) x1 G1 L1 := by
  refine (cv_eq rfl rfl).trans (hD_eq.trans ?_)
  refine (show sm_blk _ _ _ _ _ _ _ _ _ _ _ _ _ _ = sm_aI (sm_cv0 d 37 342 R [.ref 1, .int v1, .int v2] (x, G, L)) _ _ from rfl).trans ?_
  rw [h]
  rcases (show e = 0 ∨ e = 1 ∨ e = 2 ∨ e = 3 by omega) with rfl | rfl | rfl | rfl
  · exact absurd he (by decide)
  · rfl
  · rfl
  · exact absurd he (by decide)
/-! will -/
theorem hn_528 {d x x1 : Nat} {R R1 : sm_R} {G G1 : sm_G} {L L1 : sm_L} {v1 v2 : Int32} {a : Int32} (h : sm_cw d 514 [.ref 1, .int v1, .int v2] (342, R, x, G, L) = wI a 342 R1 x1 G1 L1) : sm_cw (d + 1) 528 [.ref 1, .int v1, .int v2, .ref 342] (342, R, x, G, L) = wI (i3 0) 342 R1 x1 G1 (sm_up L1 342 0 (Int32.toInt64 a)) := by
  refine (cw_eq rfl rfl).trans (hW_eq.trans ?_)
  refine (show sm_blk _ _ _ _ _ _ _ _ _ _ _ _ _ _ = sm_bV (sm_cw d 514 [.ref 1, .int v1, .int v2] (342, R, x, G, L)) _ _ from rfl).trans ?_
  rw [h]
  rfl
theorem hx_528 {d x x1 : Nat} {R R1 : sm_R} {G G1 : sm_G} {L L1 : sm_L} {v1 v2 : Int32} {e : Nat} (h : sm_cw d 514 [.ref 1, .int v1, .int v2] (342, R, x, G, L) = wX 342 R1 e x1 G1 L1) (h4 : e < 4) (he : 0 < eN e) : sm_cw (d + 1) 528 [.ref 1, .int v1, .int v2, .ref 342] (342, R, x, G, L) = wI (i3 (eN e)) 342 R1 x1 G1 L1 := by
  refine (cw_eq rfl rfl).trans (hW_eq.trans ?_)
  refine (show sm_blk _ _ _ _ _ _ _ _ _ _ _ _ _ _ = sm_bV (sm_cw d 514 [.ref 1, .int v1, .int v2] (342, R, x, G, L)) _ _ from rfl).trans ?_
  rw [h]
  rcases (show e = 0 ∨ e = 1 ∨ e = 2 ∨ e = 3 by omega) with rfl | rfl | rfl | rfl
  · exact absurd he (by decide)
  · rfl
  · rfl
  · exact absurd he (by decide)
