/-! the law's helpers, by the program wip/gen/gen6.py -/
def eN1 : Nat → Nat := fun e => if e = 1 then 1 else 0
/-! told -/
theorem hn_178 {d x x1 : Nat} {R : sm_R} {G G1 : sm_G} {L L1 : sm_L} {v1 : Int32} {a : Int32} (h : sm_cv0 d 32 342 R [.ref 1, .int v1] (x, G, L) = oI a x1 G1 L1) : sm_cv0 (d + 1) 178 342 R [.ref 1, .int v1, .ref 342] (x, G, L) = oI (i3 0) x1 G1 (sm_up L1 342 0 (Int32.toInt64 a)) := by
  refine (cv_eq rfl rfl).trans (hD_eq.trans ?_)
  refine (show sm_blk _ _ _ _ _ _ _ _ _ _ _ _ _ _ = sm_aI (sm_cv0 d 32 342 R [.ref 1, .int v1] (x, G, L)) _ _ from rfl).trans ?_
  rw [h]
  rfl
theorem hx_178 {d x x1 : Nat} {R : sm_R} {G G1 : sm_G} {L L1 : sm_L} {v1 : Int32} {e : Nat} (h : sm_cv0 d 32 342 R [.ref 1, .int v1] (x, G, L) = oX e x1 G1 L1) (h4 : e < 4) (he : 0 < eA e) : sm_cv0 (d + 1) 178 342 R [.ref 1, .int v1, .ref 342] (x, G, L) = oI (i3 (eA e)) x1 G1 L1 := by
  refine (cv_eq rfl rfl).trans (hD_eq.trans ?_)
  refine (show sm_blk _ _ _ _ _ _ _ _ _ _ _ _ _ _ = sm_aI (sm_cv0 d 32 342 R [.ref 1, .int v1] (x, G, L)) _ _ from rfl).trans ?_
  rw [h]
  rcases (show e = 0 ∨ e = 1 ∨ e = 2 ∨ e = 3 by omega) with rfl | rfl | rfl | rfl
  · exact absurd he (by decide)
  · exact absurd he (by decide)
  · rfl
  · exact absurd he (by decide)
/-! sleeper -/
theorem hn_179 {d x x1 : Nat} {R : sm_R} {G G1 : sm_G} {L L1 : sm_L} {v1 v2 : Int32} {a : Int32} (h : sm_cv0 d 34 342 R [.ref 1, .int v1, .int v2] (x, G, L) = oI a x1 G1 L1) : sm_cv0 (d + 1) 179 342 R [.ref 1, .int v1, .int v2, .ref 342] (x, G, L) = oI (i3 0) x1 G1 (sm_up L1 342 0 (Int32.toInt64 a)) := by
  refine (cv_eq rfl rfl).trans (hD_eq.trans ?_)
  refine (show sm_blk _ _ _ _ _ _ _ _ _ _ _ _ _ _ = sm_aI (sm_cv0 d 34 342 R [.ref 1, .int v1, .int v2] (x, G, L)) _ _ from rfl).trans ?_
  rw [h]
  rfl
theorem hx_179 {d x x1 : Nat} {R : sm_R} {G G1 : sm_G} {L L1 : sm_L} {v1 v2 : Int32} {e : Nat} (h : sm_cv0 d 34 342 R [.ref 1, .int v1, .int v2] (x, G, L) = oX e x1 G1 L1) (h4 : e < 4) (he : 0 < eN e) : sm_cv0 (d + 1) 179 342 R [.ref 1, .int v1, .int v2, .ref 342] (x, G, L) = oI (i3 (eN e)) x1 G1 L1 := by
  refine (cv_eq rfl rfl).trans (hD_eq.trans ?_)
  refine (show sm_blk _ _ _ _ _ _ _ _ _ _ _ _ _ _ = sm_aI (sm_cv0 d 34 342 R [.ref 1, .int v1, .int v2] (x, G, L)) _ _ from rfl).trans ?_
  rw [h]
  rcases (show e = 0 ∨ e = 1 ∨ e = 2 ∨ e = 3 by omega) with rfl | rfl | rfl | rfl
  · exact absurd he (by decide)
  · rfl
  · rfl
  · exact absurd he (by decide)
/-! door -/
theorem hn_180 {d x x1 : Nat} {R : sm_R} {G G1 : sm_G} {L L1 : sm_L} {v1 v2 : Int32} {a : Int32} (h : sm_cv0 d 35 342 R [.ref 1, .int v1, .int v2] (x, G, L) = oI a x1 G1 L1) : sm_cv0 (d + 1) 180 342 R [.ref 1, .int v1, .int v2, .ref 342] (x, G, L) = oI (i3 0) x1 G1 (sm_up L1 342 0 (Int32.toInt64 a)) := by
  refine (cv_eq rfl rfl).trans (hD_eq.trans ?_)
  refine (show sm_blk _ _ _ _ _ _ _ _ _ _ _ _ _ _ = sm_aI (sm_cv0 d 35 342 R [.ref 1, .int v1, .int v2] (x, G, L)) _ _ from rfl).trans ?_
  rw [h]
  rfl
theorem hx_180 {d x x1 : Nat} {R : sm_R} {G G1 : sm_G} {L L1 : sm_L} {v1 v2 : Int32} {e : Nat} (h : sm_cv0 d 35 342 R [.ref 1, .int v1, .int v2] (x, G, L) = oX e x1 G1 L1) (h4 : e < 4) (he : 0 < eN e) : sm_cv0 (d + 1) 180 342 R [.ref 1, .int v1, .int v2, .ref 342] (x, G, L) = oI (i3 (eN e)) x1 G1 L1 := by
  refine (cv_eq rfl rfl).trans (hD_eq.trans ?_)
  refine (show sm_blk _ _ _ _ _ _ _ _ _ _ _ _ _ _ = sm_aI (sm_cv0 d 35 342 R [.ref 1, .int v1, .int v2] (x, G, L)) _ _ from rfl).trans ?_
  rw [h]
  rcases (show e = 0 ∨ e = 1 ∨ e = 2 ∨ e = 3 by omega) with rfl | rfl | rfl | rfl
  · exact absurd he (by decide)
  · rfl
  · rfl
  · exact absurd he (by decide)
/-! noise -/
theorem hn_181 {d x x1 : Nat} {R : sm_R} {G G1 : sm_G} {L L1 : sm_L} {v1 v2 : Int32} {a : Int32} (h : sm_cv0 d 36 342 R [.ref 1, .int v1, .int v2] (x, G, L) = oI a x1 G1 L1) : sm_cv0 (d + 1) 181 342 R [.ref 1, .int v1, .int v2, .ref 342] (x, G, L) = oI (i3 0) x1 G1 (sm_up L1 342 0 (Int32.toInt64 a)) := by
  refine (cv_eq rfl rfl).trans (hD_eq.trans ?_)
  refine (show sm_blk _ _ _ _ _ _ _ _ _ _ _ _ _ _ = sm_aI (sm_cv0 d 36 342 R [.ref 1, .int v1, .int v2] (x, G, L)) _ _ from rfl).trans ?_
  rw [h]
  rfl
theorem hx_181 {d x x1 : Nat} {R : sm_R} {G G1 : sm_G} {L L1 : sm_L} {v1 v2 : Int32} {e : Nat} (h : sm_cv0 d 36 342 R [.ref 1, .int v1, .int v2] (x, G, L) = oX e x1 G1 L1) (h4 : e < 4) (he : 0 < eA e) : sm_cv0 (d + 1) 181 342 R [.ref 1, .int v1, .int v2, .ref 342] (x, G, L) = oI (i3 (eA e)) x1 G1 L1 := by
  refine (cv_eq rfl rfl).trans (hD_eq.trans ?_)
  refine (show sm_blk _ _ _ _ _ _ _ _ _ _ _ _ _ _ = sm_aI (sm_cv0 d 36 342 R [.ref 1, .int v1, .int v2] (x, G, L)) _ _ from rfl).trans ?_
  rw [h]
  rcases (show e = 0 ∨ e = 1 ∨ e = 2 ∨ e = 3 by omega) with rfl | rfl | rfl | rfl
  · exact absurd he (by decide)
  · exact absurd he (by decide)
  · rfl
  · exact absurd he (by decide)
/-! sleeps -/
theorem hn_182 {d x x1 : Nat} {R : sm_R} {G G1 : sm_G} {L L1 : sm_L} {v1 v2 : Int32} {a : Int32} (h : sm_cv0 d 37 342 R [.ref 1, .int v1, .int v2] (x, G, L) = oI a x1 G1 L1) : sm_cv0 (d + 1) 182 342 R [.ref 1, .int v1, .int v2, .ref 342] (x, G, L) = if a = i3 0 then oI (i3 0) x1 G1 (sm_up L1 342 0 0) else oI (i3 0) x1 G1 (sm_up L1 342 0 1) := by
  refine (cv_eq rfl rfl).trans (hD_eq.trans ?_)
  refine (show sm_blk _ _ _ _ _ _ _ _ _ _ _ _ _ _ = sm_aI (sm_cv0 d 37 342 R [.ref 1, .int v1, .int v2] (x, G, L)) _ _ from rfl).trans ?_
  rw [h]
  rfl
theorem hx_182 {d x x1 : Nat} {R : sm_R} {G G1 : sm_G} {L L1 : sm_L} {v1 v2 : Int32} {e : Nat} (h : sm_cv0 d 37 342 R [.ref 1, .int v1, .int v2] (x, G, L) = oX e x1 G1 L1) (h4 : e < 4) (he : 0 < eN e) : sm_cv0 (d + 1) 182 342 R [.ref 1, .int v1, .int v2, .ref 342] (x, G, L) = oI (i3 (eN e)) x1 G1 L1 := by
  refine (cv_eq rfl rfl).trans (hD_eq.trans ?_)
  refine (show sm_blk _ _ _ _ _ _ _ _ _ _ _ _ _ _ = sm_aI (sm_cv0 d 37 342 R [.ref 1, .int v1, .int v2] (x, G, L)) _ _ from rfl).trans ?_
  rw [h]
  rcases (show e = 0 ∨ e = 1 ∨ e = 2 ∨ e = 3 by omega) with rfl | rfl | rfl | rfl
  · exact absurd he (by decide)
  · rfl
  · rfl
  · exact absurd he (by decide)
/-! there -/
theorem hn_183 {d x x1 : Nat} {R : sm_R} {G G1 : sm_G} {L L1 : sm_L} {v1 v2 : Int32} {a : Int32} (h : sm_cv0 d 40 342 R [.ref 1, .int v1, .int v2] (x, G, L) = oI a x1 G1 L1) : sm_cv0 (d + 1) 183 342 R [.ref 1, .int v1, .int v2, .ref 342] (x, G, L) = if a = i3 0 then oI (i3 0) x1 G1 (sm_up L1 342 0 0) else oI (i3 0) x1 G1 (sm_up L1 342 0 1) := by
  refine (cv_eq rfl rfl).trans (hD_eq.trans ?_)
  refine (show sm_blk _ _ _ _ _ _ _ _ _ _ _ _ _ _ = sm_aI (sm_cv0 d 40 342 R [.ref 1, .int v1, .int v2] (x, G, L)) _ _ from rfl).trans ?_
  rw [h]
  rfl
theorem hx_183 {d x x1 : Nat} {R : sm_R} {G G1 : sm_G} {L L1 : sm_L} {v1 v2 : Int32} {e : Nat} (h : sm_cv0 d 40 342 R [.ref 1, .int v1, .int v2] (x, G, L) = oX e x1 G1 L1) (h4 : e < 4) (he : 0 < eI e) : sm_cv0 (d + 1) 183 342 R [.ref 1, .int v1, .int v2, .ref 342] (x, G, L) = oI (i3 (eI e)) x1 G1 L1 := by
  refine (cv_eq rfl rfl).trans (hD_eq.trans ?_)
  refine (show sm_blk _ _ _ _ _ _ _ _ _ _ _ _ _ _ = sm_aI (sm_cv0 d 40 342 R [.ref 1, .int v1, .int v2] (x, G, L)) _ _ from rfl).trans ?_
  rw [h]
  rcases (show e = 0 ∨ e = 1 ∨ e = 2 ∨ e = 3 by omega) with rfl | rfl | rfl | rfl
  · rfl
  · exact absurd he (by decide)
  · rfl
  · exact absurd he (by decide)
/-! open -/
theorem hn_184 {d x x1 : Nat} {R : sm_R} {G G1 : sm_G} {L L1 : sm_L} {v1 v2 : Int32} {a : Int32} (h : sm_cv0 d 42 342 R [.ref 1, .int v1, .int v2] (x, G, L) = oI a x1 G1 L1) : sm_cv0 (d + 1) 184 342 R [.ref 1, .int v1, .int v2, .ref 342] (x, G, L) = if a = i3 0 then oI (i3 0) x1 G1 (sm_up L1 342 0 0) else oI (i3 0) x1 G1 (sm_up L1 342 0 1) := by
  refine (cv_eq rfl rfl).trans (hD_eq.trans ?_)
  refine (show sm_blk _ _ _ _ _ _ _ _ _ _ _ _ _ _ = sm_aI (sm_cv0 d 42 342 R [.ref 1, .int v1, .int v2] (x, G, L)) _ _ from rfl).trans ?_
  rw [h]
  rfl
theorem hx_184 {d x x1 : Nat} {R : sm_R} {G G1 : sm_G} {L L1 : sm_L} {v1 v2 : Int32} {e : Nat} (h : sm_cv0 d 42 342 R [.ref 1, .int v1, .int v2] (x, G, L) = oX e x1 G1 L1) (h4 : e < 4) (he : 0 < eN e) : sm_cv0 (d + 1) 184 342 R [.ref 1, .int v1, .int v2, .ref 342] (x, G, L) = oI (i3 (eN e)) x1 G1 L1 := by
  refine (cv_eq rfl rfl).trans (hD_eq.trans ?_)
  refine (show sm_blk _ _ _ _ _ _ _ _ _ _ _ _ _ _ = sm_aI (sm_cv0 d 42 342 R [.ref 1, .int v1, .int v2] (x, G, L)) _ _ from rfl).trans ?_
  rw [h]
  rcases (show e = 0 ∨ e = 1 ∨ e = 2 ∨ e = 3 by omega) with rfl | rfl | rfl | rfl
  · exact absurd he (by decide)
  · rfl
  · rfl
  · exact absurd he (by decide)
/-! where -/
theorem hn_185 {d x x1 : Nat} {R : sm_R} {G G1 : sm_G} {L L1 : sm_L} {v1 v2 : Int32} {a : Int32} (h : sm_cv0 d 43 342 R [.ref 1, .int v1, .int v2] (x, G, L) = oI a x1 G1 L1) : sm_cv0 (d + 1) 185 342 R [.ref 1, .int v1, .int v2, .ref 342] (x, G, L) = oI (i3 0) x1 G1 (sm_up L1 342 0 (Int32.toInt64 a)) := by
  refine (cv_eq rfl rfl).trans (hD_eq.trans ?_)
  refine (show sm_blk _ _ _ _ _ _ _ _ _ _ _ _ _ _ = sm_aI (sm_cv0 d 43 342 R [.ref 1, .int v1, .int v2] (x, G, L)) _ _ from rfl).trans ?_
  rw [h]
  rfl
theorem hx_185 {d x x1 : Nat} {R : sm_R} {G G1 : sm_G} {L L1 : sm_L} {v1 v2 : Int32} {e : Nat} (h : sm_cv0 d 43 342 R [.ref 1, .int v1, .int v2] (x, G, L) = oX e x1 G1 L1) (h4 : e < 4) (he : 0 < eN e) : sm_cv0 (d + 1) 185 342 R [.ref 1, .int v1, .int v2, .ref 342] (x, G, L) = oI (i3 (eN e)) x1 G1 L1 := by
  refine (cv_eq rfl rfl).trans (hD_eq.trans ?_)
  refine (show sm_blk _ _ _ _ _ _ _ _ _ _ _ _ _ _ = sm_aI (sm_cv0 d 43 342 R [.ref 1, .int v1, .int v2] (x, G, L)) _ _ from rfl).trans ?_
  rw [h]
  rcases (show e = 0 ∨ e = 1 ∨ e = 2 ∨ e = 3 by omega) with rfl | rfl | rfl | rfl
  · exact absurd he (by decide)
  · rfl
  · rfl
  · exact absurd he (by decide)
/-! night -/
theorem hn_186 {d x x1 : Nat} {R : sm_R} {G G1 : sm_G} {L L1 : sm_L} {v1 v2 : Int32} {a : Int32} (h : sm_cv0 d 44 342 R [.ref 1, .int v1, .int v2] (x, G, L) = oI a x1 G1 L1) : sm_cv0 (d + 1) 186 342 R [.ref 1, .int v1, .int v2, .ref 342] (x, G, L) = oI (i3 0) x1 G1 (sm_up L1 342 0 (Int32.toInt64 a)) := by
  refine (cv_eq rfl rfl).trans (hD_eq.trans ?_)
  refine (show sm_blk _ _ _ _ _ _ _ _ _ _ _ _ _ _ = sm_aI (sm_cv0 d 44 342 R [.ref 1, .int v1, .int v2] (x, G, L)) _ _ from rfl).trans ?_
  rw [h]
  rfl
theorem hx_186 {d x x1 : Nat} {R : sm_R} {G G1 : sm_G} {L L1 : sm_L} {v1 v2 : Int32} {e : Nat} (h : sm_cv0 d 44 342 R [.ref 1, .int v1, .int v2] (x, G, L) = oX e x1 G1 L1) (h4 : e < 4) (he : 0 < eN e) : sm_cv0 (d + 1) 186 342 R [.ref 1, .int v1, .int v2, .ref 342] (x, G, L) = oI (i3 (eN e)) x1 G1 L1 := by
  refine (cv_eq rfl rfl).trans (hD_eq.trans ?_)
  refine (show sm_blk _ _ _ _ _ _ _ _ _ _ _ _ _ _ = sm_aI (sm_cv0 d 44 342 R [.ref 1, .int v1, .int v2] (x, G, L)) _ _ from rfl).trans ?_
  rw [h]
  rcases (show e = 0 ∨ e = 1 ∨ e = 2 ∨ e = 3 by omega) with rfl | rfl | rfl | rfl
  · exact absurd he (by decide)
  · rfl
  · rfl
  · exact absurd he (by decide)
/-! cut -/
theorem hn_187 {d x x1 : Nat} {R : sm_R} {G G1 : sm_G} {L L1 : sm_L} {v1 v2 : Int32} {a : Int32} (h : sm_cv0 d 45 342 R [.ref 1, .int v1, .int v2] (x, G, L) = oI a x1 G1 L1) : sm_cv0 (d + 1) 187 342 R [.ref 1, .int v1, .int v2, .ref 342] (x, G, L) = oI (i3 0) x1 G1 (sm_up L1 342 0 (Int32.toInt64 a)) := by
  refine (cv_eq rfl rfl).trans (hD_eq.trans ?_)
  refine (show sm_blk _ _ _ _ _ _ _ _ _ _ _ _ _ _ = sm_aI (sm_cv0 d 45 342 R [.ref 1, .int v1, .int v2] (x, G, L)) _ _ from rfl).trans ?_
  rw [h]
  rfl
theorem hx_187 {d x x1 : Nat} {R : sm_R} {G G1 : sm_G} {L L1 : sm_L} {v1 v2 : Int32} {e : Nat} (h : sm_cv0 d 45 342 R [.ref 1, .int v1, .int v2] (x, G, L) = oX e x1 G1 L1) (h4 : e < 4) (he : 0 < eI e) : sm_cv0 (d + 1) 187 342 R [.ref 1, .int v1, .int v2, .ref 342] (x, G, L) = oI (i3 (eI e)) x1 G1 L1 := by
  refine (cv_eq rfl rfl).trans (hD_eq.trans ?_)
  refine (show sm_blk _ _ _ _ _ _ _ _ _ _ _ _ _ _ = sm_aI (sm_cv0 d 45 342 R [.ref 1, .int v1, .int v2] (x, G, L)) _ _ from rfl).trans ?_
  rw [h]
  rcases (show e = 0 ∨ e = 1 ∨ e = 2 ∨ e = 3 by omega) with rfl | rfl | rfl | rfl
  · rfl
  · exact absurd he (by decide)
  · rfl
  · exact absurd he (by decide)
/-! soonest -/
theorem hn_188 {d x x1 : Nat} {R : sm_R} {G G1 : sm_G} {L L1 : sm_L} {v1 v2 v3 : Int32} {a : Int32} (h : sm_cv0 d 46 342 R [.ref 1, .int v1, .int v2, .int v3] (x, G, L) = oI a x1 G1 L1) : sm_cv0 (d + 1) 188 342 R [.ref 1, .int v1, .int v2, .int v3, .ref 342] (x, G, L) = oI (i3 0) x1 G1 (sm_up L1 342 0 (Int32.toInt64 a)) := by
  refine (cv_eq rfl rfl).trans (hD_eq.trans ?_)
  refine (show sm_blk _ _ _ _ _ _ _ _ _ _ _ _ _ _ = sm_aI (sm_cv0 d 46 342 R [.ref 1, .int v1, .int v2, .int v3] (x, G, L)) _ _ from rfl).trans ?_
  rw [h]
  rfl
theorem hx_188 {d x x1 : Nat} {R : sm_R} {G G1 : sm_G} {L L1 : sm_L} {v1 v2 v3 : Int32} {e : Nat} (h : sm_cv0 d 46 342 R [.ref 1, .int v1, .int v2, .int v3] (x, G, L) = oX e x1 G1 L1) (h4 : e < 4) (he : 0 < eI e) : sm_cv0 (d + 1) 188 342 R [.ref 1, .int v1, .int v2, .int v3, .ref 342] (x, G, L) = oI (i3 (eI e)) x1 G1 L1 := by
  refine (cv_eq rfl rfl).trans (hD_eq.trans ?_)
  refine (show sm_blk _ _ _ _ _ _ _ _ _ _ _ _ _ _ = sm_aI (sm_cv0 d 46 342 R [.ref 1, .int v1, .int v2, .int v3] (x, G, L)) _ _ from rfl).trans ?_
  rw [h]
  rcases (show e = 0 ∨ e = 1 ∨ e = 2 ∨ e = 3 by omega) with rfl | rfl | rfl | rfl
  · rfl
  · exact absurd he (by decide)
  · rfl
  · exact absurd he (by decide)
/-! way -/
theorem hn_189 {d x x1 : Nat} {R : sm_R} {G G1 : sm_G} {L L1 : sm_L} {v1 v2 v3 v4 : Int32} {a : Int32} (h : sm_cv0 d 48 342 R [.ref 1, .int v1, .int v2, .int v3, .int v4] (x, G, L) = oI a x1 G1 L1) : sm_cv0 (d + 1) 189 342 R [.ref 1, .int v1, .int v2, .int v3, .int v4, .ref 342] (x, G, L) = oI (i3 0) x1 G1 (sm_up L1 342 0 (Int32.toInt64 a)) := by
  refine (cv_eq rfl rfl).trans (hD_eq.trans ?_)
  refine (show sm_blk _ _ _ _ _ _ _ _ _ _ _ _ _ _ = sm_aI (sm_cv0 d 48 342 R [.ref 1, .int v1, .int v2, .int v3, .int v4] (x, G, L)) _ _ from rfl).trans ?_
  rw [h]
  rfl
theorem hx_189 {d x x1 : Nat} {R : sm_R} {G G1 : sm_G} {L L1 : sm_L} {v1 v2 v3 v4 : Int32} {e : Nat} (h : sm_cv0 d 48 342 R [.ref 1, .int v1, .int v2, .int v3, .int v4] (x, G, L) = oX e x1 G1 L1) (h4 : e < 4) (he : 0 < eI e) : sm_cv0 (d + 1) 189 342 R [.ref 1, .int v1, .int v2, .int v3, .int v4, .ref 342] (x, G, L) = oI (i3 (eI e)) x1 G1 L1 := by
  refine (cv_eq rfl rfl).trans (hD_eq.trans ?_)
  refine (show sm_blk _ _ _ _ _ _ _ _ _ _ _ _ _ _ = sm_aI (sm_cv0 d 48 342 R [.ref 1, .int v1, .int v2, .int v3, .int v4] (x, G, L)) _ _ from rfl).trans ?_
  rw [h]
  rcases (show e = 0 ∨ e = 1 ∨ e = 2 ∨ e = 3 by omega) with rfl | rfl | rfl | rfl
  · rfl
  · exact absurd he (by decide)
  · rfl
  · exact absurd he (by decide)
/-! latest -/
theorem hn_190 {d x x1 : Nat} {R : sm_R} {G G1 : sm_G} {L L1 : sm_L} {v1 v2 v3 : Int32} {a : Int32} (h : sm_cv0 d 49 342 R [.ref 1, .int v1, .int v2, .int v3] (x, G, L) = oI a x1 G1 L1) : sm_cv0 (d + 1) 190 342 R [.ref 1, .int v1, .int v2, .int v3, .ref 342] (x, G, L) = oI (i3 0) x1 G1 (sm_up L1 342 0 (Int32.toInt64 a)) := by
  refine (cv_eq rfl rfl).trans (hD_eq.trans ?_)
  refine (show sm_blk _ _ _ _ _ _ _ _ _ _ _ _ _ _ = sm_aI (sm_cv0 d 49 342 R [.ref 1, .int v1, .int v2, .int v3] (x, G, L)) _ _ from rfl).trans ?_
  rw [h]
  rfl
theorem hx_190 {d x x1 : Nat} {R : sm_R} {G G1 : sm_G} {L L1 : sm_L} {v1 v2 v3 : Int32} {e : Nat} (h : sm_cv0 d 49 342 R [.ref 1, .int v1, .int v2, .int v3] (x, G, L) = oX e x1 G1 L1) (h4 : e < 4) (he : 0 < eI e) : sm_cv0 (d + 1) 190 342 R [.ref 1, .int v1, .int v2, .int v3, .ref 342] (x, G, L) = oI (i3 (eI e)) x1 G1 L1 := by
  refine (cv_eq rfl rfl).trans (hD_eq.trans ?_)
  refine (show sm_blk _ _ _ _ _ _ _ _ _ _ _ _ _ _ = sm_aI (sm_cv0 d 49 342 R [.ref 1, .int v1, .int v2, .int v3] (x, G, L)) _ _ from rfl).trans ?_
  rw [h]
  rcases (show e = 0 ∨ e = 1 ∨ e = 2 ∨ e = 3 by omega) with rfl | rfl | rfl | rfl
  · rfl
  · exact absurd he (by decide)
  · rfl
  · exact absurd he (by decide)
/-! keep -/
theorem hn_191 {d x x1 : Nat} {R : sm_R} {G G1 : sm_G} {L L1 : sm_L} {v1 : Int32} {a : Int32} (h : sm_cv0 d 50 342 R [.ref 1, .int v1] (x, G, L) = oI a x1 G1 L1) : sm_cv0 (d + 1) 191 342 R [.ref 1, .int v1, .ref 342] (x, G, L) = oI (i3 0) x1 G1 (sm_up L1 342 0 (Int32.toInt64 a)) := by
  refine (cv_eq rfl rfl).trans (hD_eq.trans ?_)
  refine (show sm_blk _ _ _ _ _ _ _ _ _ _ _ _ _ _ = sm_aI (sm_cv0 d 50 342 R [.ref 1, .int v1] (x, G, L)) _ _ from rfl).trans ?_
  rw [h]
  rfl
theorem hx_191 {d x x1 : Nat} {R : sm_R} {G G1 : sm_G} {L L1 : sm_L} {v1 : Int32} {e : Nat} (h : sm_cv0 d 50 342 R [.ref 1, .int v1] (x, G, L) = oX e x1 G1 L1) (h4 : e < 4) (he : 0 < eA e) : sm_cv0 (d + 1) 191 342 R [.ref 1, .int v1, .ref 342] (x, G, L) = oI (i3 (eA e)) x1 G1 L1 := by
  refine (cv_eq rfl rfl).trans (hD_eq.trans ?_)
  refine (show sm_blk _ _ _ _ _ _ _ _ _ _ _ _ _ _ = sm_aI (sm_cv0 d 50 342 R [.ref 1, .int v1] (x, G, L)) _ _ from rfl).trans ?_
  rw [h]
  rcases (show e = 0 ∨ e = 1 ∨ e = 2 ∨ e = 3 by omega) with rfl | rfl | rfl | rfl
  · exact absurd he (by decide)
  · exact absurd he (by decide)
  · rfl
  · exact absurd he (by decide)
/-! fewest -/
theorem hn_192 {d x x1 : Nat} {R : sm_R} {G G1 : sm_G} {L L1 : sm_L} {v1 v2 v3 : Int32} {a : Int32} (h : sm_cv0 d 52 342 R [.ref 1, .int v1, .int v2, .int v3] (x, G, L) = oI a x1 G1 L1) : sm_cv0 (d + 1) 192 342 R [.ref 1, .int v1, .int v2, .int v3, .ref 342] (x, G, L) = oI (i3 0) x1 G1 (sm_up L1 342 0 (Int32.toInt64 a)) := by
  refine (cv_eq rfl rfl).trans (hD_eq.trans ?_)
  refine (show sm_blk _ _ _ _ _ _ _ _ _ _ _ _ _ _ = sm_aI (sm_cv0 d 52 342 R [.ref 1, .int v1, .int v2, .int v3] (x, G, L)) _ _ from rfl).trans ?_
  rw [h]
  rfl
theorem hx_192 {d x x1 : Nat} {R : sm_R} {G G1 : sm_G} {L L1 : sm_L} {v1 v2 v3 : Int32} {e : Nat} (h : sm_cv0 d 52 342 R [.ref 1, .int v1, .int v2, .int v3] (x, G, L) = oX e x1 G1 L1) (h4 : e < 4) (he : 0 < eI e) : sm_cv0 (d + 1) 192 342 R [.ref 1, .int v1, .int v2, .int v3, .ref 342] (x, G, L) = oI (i3 (eI e)) x1 G1 L1 := by
  refine (cv_eq rfl rfl).trans (hD_eq.trans ?_)
  refine (show sm_blk _ _ _ _ _ _ _ _ _ _ _ _ _ _ = sm_aI (sm_cv0 d 52 342 R [.ref 1, .int v1, .int v2, .int v3] (x, G, L)) _ _ from rfl).trans ?_
  rw [h]
  rcases (show e = 0 ∨ e = 1 ∨ e = 2 ∨ e = 3 by omega) with rfl | rfl | rfl | rfl
  · rfl
  · exact absurd he (by decide)
  · rfl
  · exact absurd he (by decide)
/-! meet -/
theorem hn_193 {d x x1 : Nat} {R : sm_R} {G G1 : sm_G} {L L1 : sm_L} {v1 v2 v3 : Int32} {a : Int32} (h : sm_cv0 d 53 342 R [.ref 1, .int v1, .int v2, .int v3] (x, G, L) = oI a x1 G1 L1) : sm_cv0 (d + 1) 193 342 R [.ref 1, .int v1, .int v2, .int v3, .ref 342] (x, G, L) = oI (i3 0) x1 G1 (sm_up L1 342 0 (Int32.toInt64 a)) := by
  refine (cv_eq rfl rfl).trans (hD_eq.trans ?_)
  refine (show sm_blk _ _ _ _ _ _ _ _ _ _ _ _ _ _ = sm_aI (sm_cv0 d 53 342 R [.ref 1, .int v1, .int v2, .int v3] (x, G, L)) _ _ from rfl).trans ?_
  rw [h]
  rfl
theorem hx_193 {d x x1 : Nat} {R : sm_R} {G G1 : sm_G} {L L1 : sm_L} {v1 v2 v3 : Int32} {e : Nat} (h : sm_cv0 d 53 342 R [.ref 1, .int v1, .int v2, .int v3] (x, G, L) = oX e x1 G1 L1) (h4 : e < 4) (he : 0 < eI e) : sm_cv0 (d + 1) 193 342 R [.ref 1, .int v1, .int v2, .int v3, .ref 342] (x, G, L) = oI (i3 (eI e)) x1 G1 L1 := by
  refine (cv_eq rfl rfl).trans (hD_eq.trans ?_)
  refine (show sm_blk _ _ _ _ _ _ _ _ _ _ _ _ _ _ = sm_aI (sm_cv0 d 53 342 R [.ref 1, .int v1, .int v2, .int v3] (x, G, L)) _ _ from rfl).trans ?_
  rw [h]
  rcases (show e = 0 ∨ e = 1 ∨ e = 2 ∨ e = 3 by omega) with rfl | rfl | rfl | rfl
  · rfl
  · exact absurd he (by decide)
  · rfl
  · exact absurd he (by decide)
/-! met -/
theorem hn_194 {d x x1 : Nat} {R : sm_R} {G G1 : sm_G} {L L1 : sm_L} {v1 v2 v3 : Int32} {a : Int32} (h : sm_cv0 d 54 342 R [.ref 1, .int v1, .int v2, .int v3] (x, G, L) = oI a x1 G1 L1) : sm_cv0 (d + 1) 194 342 R [.ref 1, .int v1, .int v2, .int v3, .ref 342] (x, G, L) = oI (i3 0) x1 G1 (sm_up L1 342 0 (Int32.toInt64 a)) := by
  refine (cv_eq rfl rfl).trans (hD_eq.trans ?_)
  refine (show sm_blk _ _ _ _ _ _ _ _ _ _ _ _ _ _ = sm_aI (sm_cv0 d 54 342 R [.ref 1, .int v1, .int v2, .int v3] (x, G, L)) _ _ from rfl).trans ?_
  rw [h]
  rfl
theorem hx_194 {d x x1 : Nat} {R : sm_R} {G G1 : sm_G} {L L1 : sm_L} {v1 v2 v3 : Int32} {e : Nat} (h : sm_cv0 d 54 342 R [.ref 1, .int v1, .int v2, .int v3] (x, G, L) = oX e x1 G1 L1) (h4 : e < 4) (he : 0 < eI e) : sm_cv0 (d + 1) 194 342 R [.ref 1, .int v1, .int v2, .int v3, .ref 342] (x, G, L) = oI (i3 (eI e)) x1 G1 L1 := by
  refine (cv_eq rfl rfl).trans (hD_eq.trans ?_)
  refine (show sm_blk _ _ _ _ _ _ _ _ _ _ _ _ _ _ = sm_aI (sm_cv0 d 54 342 R [.ref 1, .int v1, .int v2, .int v3] (x, G, L)) _ _ from rfl).trans ?_
  rw [h]
  rcases (show e = 0 ∨ e = 1 ∨ e = 2 ∨ e = 3 by omega) with rfl | rfl | rfl | rfl
  · rfl
  · exact absurd he (by decide)
  · rfl
  · exact absurd he (by decide)
/-! order -/
theorem hn_195 {d x x1 : Nat} {R : sm_R} {G G1 : sm_G} {L L1 : sm_L} {v1 v2 v3 : Int32} {a : Int32} (h : sm_cv0 d 55 342 R [.ref 1, .int v1, .int v2, .int v3] (x, G, L) = oI a x1 G1 L1) : sm_cv0 (d + 1) 195 342 R [.ref 1, .int v1, .int v2, .int v3, .ref 342] (x, G, L) = oI (i3 0) x1 G1 (sm_up L1 342 0 (Int32.toInt64 a)) := by
  refine (cv_eq rfl rfl).trans (hD_eq.trans ?_)
  refine (show sm_blk _ _ _ _ _ _ _ _ _ _ _ _ _ _ = sm_aI (sm_cv0 d 55 342 R [.ref 1, .int v1, .int v2, .int v3] (x, G, L)) _ _ from rfl).trans ?_
  rw [h]
  rfl
theorem hx_195 {d x x1 : Nat} {R : sm_R} {G G1 : sm_G} {L L1 : sm_L} {v1 v2 v3 : Int32} {e : Nat} (h : sm_cv0 d 55 342 R [.ref 1, .int v1, .int v2, .int v3] (x, G, L) = oX e x1 G1 L1) (h4 : e < 4) (he : 0 < eA e) : sm_cv0 (d + 1) 195 342 R [.ref 1, .int v1, .int v2, .int v3, .ref 342] (x, G, L) = oI (i3 (eA e)) x1 G1 L1 := by
  refine (cv_eq rfl rfl).trans (hD_eq.trans ?_)
  refine (show sm_blk _ _ _ _ _ _ _ _ _ _ _ _ _ _ = sm_aI (sm_cv0 d 55 342 R [.ref 1, .int v1, .int v2, .int v3] (x, G, L)) _ _ from rfl).trans ?_
  rw [h]
  rcases (show e = 0 ∨ e = 1 ∨ e = 2 ∨ e = 3 by omega) with rfl | rfl | rfl | rfl
  · exact absurd he (by decide)
  · exact absurd he (by decide)
  · rfl
  · exact absurd he (by decide)
/-! want -/
theorem hn_196 {d x x1 : Nat} {R : sm_R} {G G1 : sm_G} {L L1 : sm_L} {v1 v2 : Int32} {a : Int32} (h : sm_cv0 d 56 342 R [.ref 1, .int v1, .int v2] (x, G, L) = oI a x1 G1 L1) : sm_cv0 (d + 1) 196 342 R [.ref 1, .int v1, .int v2, .ref 342] (x, G, L) = oI (i3 0) x1 G1 (sm_up L1 342 0 (Int32.toInt64 a)) := by
  refine (cv_eq rfl rfl).trans (hD_eq.trans ?_)
  refine (show sm_blk _ _ _ _ _ _ _ _ _ _ _ _ _ _ = sm_aI (sm_cv0 d 56 342 R [.ref 1, .int v1, .int v2] (x, G, L)) _ _ from rfl).trans ?_
  rw [h]
  rfl
theorem hx_196 {d x x1 : Nat} {R : sm_R} {G G1 : sm_G} {L L1 : sm_L} {v1 v2 : Int32} {e : Nat} (h : sm_cv0 d 56 342 R [.ref 1, .int v1, .int v2] (x, G, L) = oX e x1 G1 L1) (h4 : e < 4) (he : 0 < eA e) : sm_cv0 (d + 1) 196 342 R [.ref 1, .int v1, .int v2, .ref 342] (x, G, L) = oI (i3 (eA e)) x1 G1 L1 := by
  refine (cv_eq rfl rfl).trans (hD_eq.trans ?_)
  refine (show sm_blk _ _ _ _ _ _ _ _ _ _ _ _ _ _ = sm_aI (sm_cv0 d 56 342 R [.ref 1, .int v1, .int v2] (x, G, L)) _ _ from rfl).trans ?_
  rw [h]
  rcases (show e = 0 ∨ e = 1 ∨ e = 2 ∨ e = 3 by omega) with rfl | rfl | rfl | rfl
  · exact absurd he (by decide)
  · exact absurd he (by decide)
  · rfl
  · exact absurd he (by decide)
/-! surest -/
theorem hn_197 {d x x1 : Nat} {R : sm_R} {G G1 : sm_G} {L L1 : sm_L} {v1 v2 v3 : Int32} {a : Int64} (h : sm_cv0 d 57 342 R [.ref 1, .int v1, .int v2, .int v3] (x, G, L) = oL a x1 G1 L1) : sm_cv0 (d + 1) 197 342 R [.ref 1, .int v1, .int v2, .int v3, .ref 342] (x, G, L) = oI (i3 0) x1 G1 (sm_up L1 342 0 a) := by
  refine (cv_eq rfl rfl).trans (hD_eq.trans ?_)
  refine (show sm_blk _ _ _ _ _ _ _ _ _ _ _ _ _ _ = sm_aL (sm_cv0 d 57 342 R [.ref 1, .int v1, .int v2, .int v3] (x, G, L)) _ _ from rfl).trans ?_
  rw [h]
  rfl
theorem hx_197 {d x x1 : Nat} {R : sm_R} {G G1 : sm_G} {L L1 : sm_L} {v1 v2 v3 : Int32} {e : Nat} (h : sm_cv0 d 57 342 R [.ref 1, .int v1, .int v2, .int v3] (x, G, L) = oX e x1 G1 L1) (h4 : e < 4) (he : 0 < eI e) : sm_cv0 (d + 1) 197 342 R [.ref 1, .int v1, .int v2, .int v3, .ref 342] (x, G, L) = oI (i3 (eI e)) x1 G1 L1 := by
  refine (cv_eq rfl rfl).trans (hD_eq.trans ?_)
  refine (show sm_blk _ _ _ _ _ _ _ _ _ _ _ _ _ _ = sm_aL (sm_cv0 d 57 342 R [.ref 1, .int v1, .int v2, .int v3] (x, G, L)) _ _ from rfl).trans ?_
  rw [h]
  rcases (show e = 0 ∨ e = 1 ∨ e = 2 ∨ e = 3 by omega) with rfl | rfl | rfl | rfl
  · rfl
  · exact absurd he (by decide)
  · rfl
  · exact absurd he (by decide)
/-! drawn -/
theorem hn_198 {d x x1 : Nat} {R : sm_R} {G G1 : sm_G} {L L1 : sm_L} {v1 v2 : Int32} {a : Int32} (h : sm_cv0 d 58 342 R [.ref 1, .int v1, .int v2] (x, G, L) = oI a x1 G1 L1) : sm_cv0 (d + 1) 198 342 R [.ref 1, .int v1, .int v2, .ref 342] (x, G, L) = oI (i3 0) x1 G1 (sm_up L1 342 0 (Int32.toInt64 a)) := by
  refine (cv_eq rfl rfl).trans (hD_eq.trans ?_)
  refine (show sm_blk _ _ _ _ _ _ _ _ _ _ _ _ _ _ = sm_aI (sm_cv0 d 58 342 R [.ref 1, .int v1, .int v2] (x, G, L)) _ _ from rfl).trans ?_
  rw [h]
  rfl
theorem hx_198 {d x x1 : Nat} {R : sm_R} {G G1 : sm_G} {L L1 : sm_L} {v1 v2 : Int32} {e : Nat} (h : sm_cv0 d 58 342 R [.ref 1, .int v1, .int v2] (x, G, L) = oX e x1 G1 L1) (h4 : e < 4) (he : 0 < eA e) : sm_cv0 (d + 1) 198 342 R [.ref 1, .int v1, .int v2, .ref 342] (x, G, L) = oI (i3 (eA e)) x1 G1 L1 := by
  refine (cv_eq rfl rfl).trans (hD_eq.trans ?_)
  refine (show sm_blk _ _ _ _ _ _ _ _ _ _ _ _ _ _ = sm_aI (sm_cv0 d 58 342 R [.ref 1, .int v1, .int v2] (x, G, L)) _ _ from rfl).trans ?_
  rw [h]
  rcases (show e = 0 ∨ e = 1 ∨ e = 2 ∨ e = 3 by omega) with rfl | rfl | rfl | rfl
  · exact absurd he (by decide)
  · exact absurd he (by decide)
  · rfl
  · exact absurd he (by decide)
/-! span -/
theorem hn_199 {d x x1 : Nat} {R : sm_R} {G G1 : sm_G} {L L1 : sm_L} {v1 v2 v3 : Int32} {a : Int32} (h : sm_cv0 d 59 342 R [.ref 1, .int v1, .int v2, .int v3] (x, G, L) = oI a x1 G1 L1) : sm_cv0 (d + 1) 199 342 R [.ref 1, .int v1, .int v2, .int v3, .ref 342] (x, G, L) = oI (i3 0) x1 G1 (sm_up L1 342 0 (Int32.toInt64 a)) := by
  refine (cv_eq rfl rfl).trans (hD_eq.trans ?_)
  refine (show sm_blk _ _ _ _ _ _ _ _ _ _ _ _ _ _ = sm_aI (sm_cv0 d 59 342 R [.ref 1, .int v1, .int v2, .int v3] (x, G, L)) _ _ from rfl).trans ?_
  rw [h]
  rfl
theorem hx_199 {d x x1 : Nat} {R : sm_R} {G G1 : sm_G} {L L1 : sm_L} {v1 v2 v3 : Int32} {e : Nat} (h : sm_cv0 d 59 342 R [.ref 1, .int v1, .int v2, .int v3] (x, G, L) = oX e x1 G1 L1) (h4 : e < 4) (he : 0 < eA e) : sm_cv0 (d + 1) 199 342 R [.ref 1, .int v1, .int v2, .int v3, .ref 342] (x, G, L) = oI (i3 (eA e)) x1 G1 L1 := by
  refine (cv_eq rfl rfl).trans (hD_eq.trans ?_)
  refine (show sm_blk _ _ _ _ _ _ _ _ _ _ _ _ _ _ = sm_aI (sm_cv0 d 59 342 R [.ref 1, .int v1, .int v2, .int v3] (x, G, L)) _ _ from rfl).trans ?_
  rw [h]
  rcases (show e = 0 ∨ e = 1 ∨ e = 2 ∨ e = 3 by omega) with rfl | rfl | rfl | rfl
  · exact absurd he (by decide)
  · exact absurd he (by decide)
  · rfl
  · exact absurd he (by decide)
/-! round -/
theorem hn_200 {d x x1 : Nat} {R : sm_R} {G G1 : sm_G} {L L1 : sm_L} {v1 : Int32} {a : Int32} (h : sm_cv0 d 60 342 R [.ref 1, .int v1] (x, G, L) = oI a x1 G1 L1) : sm_cv0 (d + 1) 200 342 R [.ref 1, .int v1, .ref 342] (x, G, L) = oI (i3 0) x1 G1 (sm_up L1 342 0 (Int32.toInt64 a)) := by
  refine (cv_eq rfl rfl).trans (hD_eq.trans ?_)
  refine (show sm_blk _ _ _ _ _ _ _ _ _ _ _ _ _ _ = sm_aI (sm_cv0 d 60 342 R [.ref 1, .int v1] (x, G, L)) _ _ from rfl).trans ?_
  rw [h]
  rfl
theorem hx_200 {d x x1 : Nat} {R : sm_R} {G G1 : sm_G} {L L1 : sm_L} {v1 : Int32} {e : Nat} (h : sm_cv0 d 60 342 R [.ref 1, .int v1] (x, G, L) = oX e x1 G1 L1) (h4 : e < 4) (he : 0 < eS e) : sm_cv0 (d + 1) 200 342 R [.ref 1, .int v1, .ref 342] (x, G, L) = oI (i3 (eS e)) x1 G1 L1 := by
  refine (cv_eq rfl rfl).trans (hD_eq.trans ?_)
  refine (show sm_blk _ _ _ _ _ _ _ _ _ _ _ _ _ _ = sm_aI (sm_cv0 d 60 342 R [.ref 1, .int v1] (x, G, L)) _ _ from rfl).trans ?_
  rw [h]
  rcases (show e = 0 ∨ e = 1 ∨ e = 2 ∨ e = 3 by omega) with rfl | rfl | rfl | rfl
  · exact absurd he (by decide)
  · exact absurd he (by decide)
  · rfl
  · rfl
/-! asleep -/
theorem hn_201 {d x x1 : Nat} {R : sm_R} {G G1 : sm_G} {L L1 : sm_L} {v1 : Int32} {a : Int32} (h : sm_cv0 d 63 342 R [.ref 1, .int v1] (x, G, L) = oI a x1 G1 L1) : sm_cv0 (d + 1) 201 342 R [.ref 1, .int v1, .ref 342] (x, G, L) = oI (i3 0) x1 G1 (sm_up L1 342 0 (Int32.toInt64 a)) := by
  refine (cv_eq rfl rfl).trans (hD_eq.trans ?_)
  refine (show sm_blk _ _ _ _ _ _ _ _ _ _ _ _ _ _ = sm_aI (sm_cv0 d 63 342 R [.ref 1, .int v1] (x, G, L)) _ _ from rfl).trans ?_
  rw [h]
  rfl
theorem hx_201 {d x x1 : Nat} {R : sm_R} {G G1 : sm_G} {L L1 : sm_L} {v1 : Int32} {e : Nat} (h : sm_cv0 d 63 342 R [.ref 1, .int v1] (x, G, L) = oX e x1 G1 L1) (h4 : e < 4) (he : 0 < eA e) : sm_cv0 (d + 1) 201 342 R [.ref 1, .int v1, .ref 342] (x, G, L) = oI (i3 (eA e)) x1 G1 L1 := by
  refine (cv_eq rfl rfl).trans (hD_eq.trans ?_)
  refine (show sm_blk _ _ _ _ _ _ _ _ _ _ _ _ _ _ = sm_aI (sm_cv0 d 63 342 R [.ref 1, .int v1] (x, G, L)) _ _ from rfl).trans ?_
  rw [h]
  rcases (show e = 0 ∨ e = 1 ∨ e = 2 ∨ e = 3 by omega) with rfl | rfl | rfl | rfl
  · exact absurd he (by decide)
  · exact absurd he (by decide)
  · rfl
  · exact absurd he (by decide)
/-! rooms -/
theorem hn_202 {d x x1 : Nat} {R : sm_R} {G G1 : sm_G} {L L1 : sm_L} {v1 : Int32} {a : Int32} (h : sm_cv0 d 64 342 R [.ref 1, .int v1] (x, G, L) = oI a x1 G1 L1) : sm_cv0 (d + 1) 202 342 R [.ref 1, .int v1, .ref 342] (x, G, L) = oI (i3 0) x1 G1 (sm_up L1 342 0 (Int32.toInt64 a)) := by
  refine (cv_eq rfl rfl).trans (hD_eq.trans ?_)
  refine (show sm_blk _ _ _ _ _ _ _ _ _ _ _ _ _ _ = sm_aI (sm_cv0 d 64 342 R [.ref 1, .int v1] (x, G, L)) _ _ from rfl).trans ?_
  rw [h]
  rfl
theorem hx_202 {d x x1 : Nat} {R : sm_R} {G G1 : sm_G} {L L1 : sm_L} {v1 : Int32} {e : Nat} (h : sm_cv0 d 64 342 R [.ref 1, .int v1] (x, G, L) = oX e x1 G1 L1) (h4 : e < 4) (he : 0 < eA e) : sm_cv0 (d + 1) 202 342 R [.ref 1, .int v1, .ref 342] (x, G, L) = oI (i3 (eA e)) x1 G1 L1 := by
  refine (cv_eq rfl rfl).trans (hD_eq.trans ?_)
  refine (show sm_blk _ _ _ _ _ _ _ _ _ _ _ _ _ _ = sm_aI (sm_cv0 d 64 342 R [.ref 1, .int v1] (x, G, L)) _ _ from rfl).trans ?_
  rw [h]
  rcases (show e = 0 ∨ e = 1 ∨ e = 2 ∨ e = 3 by omega) with rfl | rfl | rfl | rfl
  · exact absurd he (by decide)
  · exact absurd he (by decide)
  · rfl
  · exact absurd he (by decide)
/-! lasting -/
theorem hn_203 {d x x1 : Nat} {R : sm_R} {G G1 : sm_G} {L L1 : sm_L} {v1 v2 : Int32} {a : Int32} (h : sm_cv0 d 65 342 R [.ref 1, .int v1, .int v2] (x, G, L) = oI a x1 G1 L1) : sm_cv0 (d + 1) 203 342 R [.ref 1, .int v1, .int v2, .ref 342] (x, G, L) = oI (i3 0) x1 G1 (sm_up L1 342 0 (Int32.toInt64 a)) := by
  refine (cv_eq rfl rfl).trans (hD_eq.trans ?_)
  refine (show sm_blk _ _ _ _ _ _ _ _ _ _ _ _ _ _ = sm_aI (sm_cv0 d 65 342 R [.ref 1, .int v1, .int v2] (x, G, L)) _ _ from rfl).trans ?_
  rw [h]
  rfl
theorem hx_203 {d x x1 : Nat} {R : sm_R} {G G1 : sm_G} {L L1 : sm_L} {v1 v2 : Int32} {e : Nat} (h : sm_cv0 d 65 342 R [.ref 1, .int v1, .int v2] (x, G, L) = oX e x1 G1 L1) (h4 : e < 4) (he : 0 < eI e) : sm_cv0 (d + 1) 203 342 R [.ref 1, .int v1, .int v2, .ref 342] (x, G, L) = oI (i3 (eI e)) x1 G1 L1 := by
  refine (cv_eq rfl rfl).trans (hD_eq.trans ?_)
  refine (show sm_blk _ _ _ _ _ _ _ _ _ _ _ _ _ _ = sm_aI (sm_cv0 d 65 342 R [.ref 1, .int v1, .int v2] (x, G, L)) _ _ from rfl).trans ?_
  rw [h]
  rcases (show e = 0 ∨ e = 1 ∨ e = 2 ∨ e = 3 by omega) with rfl | rfl | rfl | rfl
  · rfl
  · exact absurd he (by decide)
  · rfl
  · exact absurd he (by decide)
/-! reach -/
theorem hn_204 {d x x1 : Nat} {R : sm_R} {G G1 : sm_G} {L L1 : sm_L} {v1 v2 v3 : Int32} {a : Int32} (h : sm_cv0 d 66 342 R [.ref 1, .int v1, .int v2, .int v3] (x, G, L) = oI a x1 G1 L1) : sm_cv0 (d + 1) 204 342 R [.ref 1, .int v1, .int v2, .int v3, .ref 342] (x, G, L) = oI (i3 0) x1 G1 (sm_up L1 342 0 (Int32.toInt64 a)) := by
  refine (cv_eq rfl rfl).trans (hD_eq.trans ?_)
  refine (show sm_blk _ _ _ _ _ _ _ _ _ _ _ _ _ _ = sm_aI (sm_cv0 d 66 342 R [.ref 1, .int v1, .int v2, .int v3] (x, G, L)) _ _ from rfl).trans ?_
  rw [h]
  rfl
theorem hx_204 {d x x1 : Nat} {R : sm_R} {G G1 : sm_G} {L L1 : sm_L} {v1 v2 v3 : Int32} {e : Nat} (h : sm_cv0 d 66 342 R [.ref 1, .int v1, .int v2, .int v3] (x, G, L) = oX e x1 G1 L1) (h4 : e < 4) (he : 0 < eI e) : sm_cv0 (d + 1) 204 342 R [.ref 1, .int v1, .int v2, .int v3, .ref 342] (x, G, L) = oI (i3 (eI e)) x1 G1 L1 := by
  refine (cv_eq rfl rfl).trans (hD_eq.trans ?_)
  refine (show sm_blk _ _ _ _ _ _ _ _ _ _ _ _ _ _ = sm_aI (sm_cv0 d 66 342 R [.ref 1, .int v1, .int v2, .int v3] (x, G, L)) _ _ from rfl).trans ?_
  rw [h]
  rcases (show e = 0 ∨ e = 1 ∨ e = 2 ∨ e = 3 by omega) with rfl | rfl | rfl | rfl
  · rfl
  · exact absurd he (by decide)
  · rfl
  · exact absurd he (by decide)
/-! far -/
theorem hn_205 {d x x1 : Nat} {R : sm_R} {G G1 : sm_G} {L L1 : sm_L} {v1 v2 : Int32} {a : Int32} (h : sm_cv0 d 67 342 R [.ref 1, .int v1, .int v2] (x, G, L) = oI a x1 G1 L1) : sm_cv0 (d + 1) 205 342 R [.ref 1, .int v1, .int v2, .ref 342] (x, G, L) = oI (i3 0) x1 G1 (sm_up L1 342 0 (Int32.toInt64 a)) := by
  refine (cv_eq rfl rfl).trans (hD_eq.trans ?_)
  refine (show sm_blk _ _ _ _ _ _ _ _ _ _ _ _ _ _ = sm_aI (sm_cv0 d 67 342 R [.ref 1, .int v1, .int v2] (x, G, L)) _ _ from rfl).trans ?_
  rw [h]
  rfl
theorem hx_205 {d x x1 : Nat} {R : sm_R} {G G1 : sm_G} {L L1 : sm_L} {v1 v2 : Int32} {e : Nat} (h : sm_cv0 d 67 342 R [.ref 1, .int v1, .int v2] (x, G, L) = oX e x1 G1 L1) (h4 : e < 4) (he : 0 < eI0 e) : sm_cv0 (d + 1) 205 342 R [.ref 1, .int v1, .int v2, .ref 342] (x, G, L) = oI (i3 (eI0 e)) x1 G1 L1 := by
  refine (cv_eq rfl rfl).trans (hD_eq.trans ?_)
  refine (show sm_blk _ _ _ _ _ _ _ _ _ _ _ _ _ _ = sm_aI (sm_cv0 d 67 342 R [.ref 1, .int v1, .int v2] (x, G, L)) _ _ from rfl).trans ?_
  rw [h]
  rcases (show e = 0 ∨ e = 1 ∨ e = 2 ∨ e = 3 by omega) with rfl | rfl | rfl | rfl
  · rfl
  · exact absurd he (by decide)
  · exact absurd he (by decide)
  · exact absurd he (by decide)
/-! lonely -/
theorem hn_206 {d x x1 : Nat} {R : sm_R} {G G1 : sm_G} {L L1 : sm_L} {v1 : Int32} {a : Int32} (h : sm_cv0 d 68 342 R [.ref 1, .int v1] (x, G, L) = oI a x1 G1 L1) : sm_cv0 (d + 1) 206 342 R [.ref 1, .int v1, .ref 342] (x, G, L) = oI (i3 0) x1 G1 (sm_up L1 342 0 (Int32.toInt64 a)) := by
  refine (cv_eq rfl rfl).trans (hD_eq.trans ?_)
  refine (show sm_blk _ _ _ _ _ _ _ _ _ _ _ _ _ _ = sm_aI (sm_cv0 d 68 342 R [.ref 1, .int v1] (x, G, L)) _ _ from rfl).trans ?_
  rw [h]
  rfl
theorem hx_206 {d x x1 : Nat} {R : sm_R} {G G1 : sm_G} {L L1 : sm_L} {v1 : Int32} {e : Nat} (h : sm_cv0 d 68 342 R [.ref 1, .int v1] (x, G, L) = oX e x1 G1 L1) (h4 : e < 4) (he : 0 < eI0 e) : sm_cv0 (d + 1) 206 342 R [.ref 1, .int v1, .ref 342] (x, G, L) = oI (i3 (eI0 e)) x1 G1 L1 := by
  refine (cv_eq rfl rfl).trans (hD_eq.trans ?_)
  refine (show sm_blk _ _ _ _ _ _ _ _ _ _ _ _ _ _ = sm_aI (sm_cv0 d 68 342 R [.ref 1, .int v1] (x, G, L)) _ _ from rfl).trans ?_
  rw [h]
  rcases (show e = 0 ∨ e = 1 ∨ e = 2 ∨ e = 3 by omega) with rfl | rfl | rfl | rfl
  · rfl
  · exact absurd he (by decide)
  · exact absurd he (by decide)
  · exact absurd he (by decide)
/-! crowd -/
theorem hn_207 {d x x1 : Nat} {R : sm_R} {G G1 : sm_G} {L L1 : sm_L} {v1 : Int32} {a : Int32} (h : sm_cv0 d 69 342 R [.ref 1, .int v1] (x, G, L) = oI a x1 G1 L1) : sm_cv0 (d + 1) 207 342 R [.ref 1, .int v1, .ref 342] (x, G, L) = oI (i3 0) x1 G1 (sm_up L1 342 0 (Int32.toInt64 a)) := by
  refine (cv_eq rfl rfl).trans (hD_eq.trans ?_)
  refine (show sm_blk _ _ _ _ _ _ _ _ _ _ _ _ _ _ = sm_aI (sm_cv0 d 69 342 R [.ref 1, .int v1] (x, G, L)) _ _ from rfl).trans ?_
  rw [h]
  rfl
theorem hx_207 {d x x1 : Nat} {R : sm_R} {G G1 : sm_G} {L L1 : sm_L} {v1 : Int32} {e : Nat} (h : sm_cv0 d 69 342 R [.ref 1, .int v1] (x, G, L) = oX e x1 G1 L1) (h4 : e < 4) (he : 0 < eA e) : sm_cv0 (d + 1) 207 342 R [.ref 1, .int v1, .ref 342] (x, G, L) = oI (i3 (eA e)) x1 G1 L1 := by
  refine (cv_eq rfl rfl).trans (hD_eq.trans ?_)
  refine (show sm_blk _ _ _ _ _ _ _ _ _ _ _ _ _ _ = sm_aI (sm_cv0 d 69 342 R [.ref 1, .int v1] (x, G, L)) _ _ from rfl).trans ?_
  rw [h]
  rcases (show e = 0 ∨ e = 1 ∨ e = 2 ∨ e = 3 by omega) with rfl | rfl | rfl | rfl
  · exact absurd he (by decide)
  · exact absurd he (by decide)
  · rfl
  · exact absurd he (by decide)
/-! often -/
theorem hn_208 {d x x1 : Nat} {R : sm_R} {G G1 : sm_G} {L L1 : sm_L} {v1 : Int32} {a : Int32} (h : sm_cv0 d 70 342 R [.ref 1, .int v1] (x, G, L) = oI a x1 G1 L1) : sm_cv0 (d + 1) 208 342 R [.ref 1, .int v1, .ref 342] (x, G, L) = oI (i3 0) x1 G1 (sm_up L1 342 0 (Int32.toInt64 a)) := by
  refine (cv_eq rfl rfl).trans (hD_eq.trans ?_)
  refine (show sm_blk _ _ _ _ _ _ _ _ _ _ _ _ _ _ = sm_aI (sm_cv0 d 70 342 R [.ref 1, .int v1] (x, G, L)) _ _ from rfl).trans ?_
  rw [h]
  rfl
theorem hx_208 {d x x1 : Nat} {R : sm_R} {G G1 : sm_G} {L L1 : sm_L} {v1 : Int32} {e : Nat} (h : sm_cv0 d 70 342 R [.ref 1, .int v1] (x, G, L) = oX e x1 G1 L1) (h4 : e < 4) (he : 0 < eN1 e) : sm_cv0 (d + 1) 208 342 R [.ref 1, .int v1, .ref 342] (x, G, L) = oI (i3 (eN1 e)) x1 G1 L1 := by
  refine (cv_eq rfl rfl).trans (hD_eq.trans ?_)
  refine (show sm_blk _ _ _ _ _ _ _ _ _ _ _ _ _ _ = sm_aI (sm_cv0 d 70 342 R [.ref 1, .int v1] (x, G, L)) _ _ from rfl).trans ?_
  rw [h]
  rcases (show e = 0 ∨ e = 1 ∨ e = 2 ∨ e = 3 by omega) with rfl | rfl | rfl | rfl
  · exact absurd he (by decide)
  · rfl
  · exact absurd he (by decide)
  · exact absurd he (by decide)
/-! stranded -/
theorem hn_209 {d x x1 : Nat} {R : sm_R} {G G1 : sm_G} {L L1 : sm_L} {v1 : Int32} {a : Int32} (h : sm_cv0 d 71 342 R [.ref 1, .int v1] (x, G, L) = oI a x1 G1 L1) : sm_cv0 (d + 1) 209 342 R [.ref 1, .int v1, .ref 342] (x, G, L) = oI (i3 0) x1 G1 (sm_up L1 342 0 (Int32.toInt64 a)) := by
  refine (cv_eq rfl rfl).trans (hD_eq.trans ?_)
  refine (show sm_blk _ _ _ _ _ _ _ _ _ _ _ _ _ _ = sm_aI (sm_cv0 d 71 342 R [.ref 1, .int v1] (x, G, L)) _ _ from rfl).trans ?_
  rw [h]
  rfl
theorem hx_209 {d x x1 : Nat} {R : sm_R} {G G1 : sm_G} {L L1 : sm_L} {v1 : Int32} {e : Nat} (h : sm_cv0 d 71 342 R [.ref 1, .int v1] (x, G, L) = oX e x1 G1 L1) (h4 : e < 4) (he : 0 < eA e) : sm_cv0 (d + 1) 209 342 R [.ref 1, .int v1, .ref 342] (x, G, L) = oI (i3 (eA e)) x1 G1 L1 := by
  refine (cv_eq rfl rfl).trans (hD_eq.trans ?_)
  refine (show sm_blk _ _ _ _ _ _ _ _ _ _ _ _ _ _ = sm_aI (sm_cv0 d 71 342 R [.ref 1, .int v1] (x, G, L)) _ _ from rfl).trans ?_
  rw [h]
  rcases (show e = 0 ∨ e = 1 ∨ e = 2 ∨ e = 3 by omega) with rfl | rfl | rfl | rfl
  · exact absurd he (by decide)
  · exact absurd he (by decide)
  · rfl
  · exact absurd he (by decide)
/-! make -/
theorem hn_210 {d x x1 : Nat} {R : sm_R} {G G1 : sm_G} {L L1 : sm_L} {v1 v2 : Int32} {a : Int32} (h : sm_cv0 d 72 342 R [.ref 1, .int v1, .int v2] (x, G, L) = oI a x1 G1 L1) : sm_cv0 (d + 1) 210 342 R [.ref 1, .int v1, .int v2, .ref 342] (x, G, L) = oI (i3 0) x1 G1 (sm_up L1 342 0 (Int32.toInt64 a)) := by
  refine (cv_eq rfl rfl).trans (hD_eq.trans ?_)
  refine (show sm_blk _ _ _ _ _ _ _ _ _ _ _ _ _ _ = sm_aI (sm_cv0 d 72 342 R [.ref 1, .int v1, .int v2] (x, G, L)) _ _ from rfl).trans ?_
  rw [h]
  rfl
theorem hx_210 {d x x1 : Nat} {R : sm_R} {G G1 : sm_G} {L L1 : sm_L} {v1 v2 : Int32} {e : Nat} (h : sm_cv0 d 72 342 R [.ref 1, .int v1, .int v2] (x, G, L) = oX e x1 G1 L1) (h4 : e < 4) (he : 0 < eA e) : sm_cv0 (d + 1) 210 342 R [.ref 1, .int v1, .int v2, .ref 342] (x, G, L) = oI (i3 (eA e)) x1 G1 L1 := by
  refine (cv_eq rfl rfl).trans (hD_eq.trans ?_)
  refine (show sm_blk _ _ _ _ _ _ _ _ _ _ _ _ _ _ = sm_aI (sm_cv0 d 72 342 R [.ref 1, .int v1, .int v2] (x, G, L)) _ _ from rfl).trans ?_
  rw [h]
  rcases (show e = 0 ∨ e = 1 ∨ e = 2 ∨ e = 3 by omega) with rfl | rfl | rfl | rfl
  · exact absurd he (by decide)
  · exact absurd he (by decide)
  · rfl
  · exact absurd he (by decide)
/-! sleep -/
theorem hn_211 {d x x1 : Nat} {R : sm_R} {G G1 : sm_G} {L L1 : sm_L} {v1 v2 v3 : Int32} {a : Int32} (h : sm_cv0 d 73 342 R [.ref 1, .int v1, .int v2, .int v3] (x, G, L) = oI a x1 G1 L1) : sm_cv0 (d + 1) 211 342 R [.ref 1, .int v1, .int v2, .int v3, .ref 342] (x, G, L) = oI (i3 0) x1 G1 (sm_up L1 342 0 (Int32.toInt64 a)) := by
  refine (cv_eq rfl rfl).trans (hD_eq.trans ?_)
  refine (show sm_blk _ _ _ _ _ _ _ _ _ _ _ _ _ _ = sm_aI (sm_cv0 d 73 342 R [.ref 1, .int v1, .int v2, .int v3] (x, G, L)) _ _ from rfl).trans ?_
  rw [h]
  rfl
theorem hx_211 {d x x1 : Nat} {R : sm_R} {G G1 : sm_G} {L L1 : sm_L} {v1 v2 v3 : Int32} {e : Nat} (h : sm_cv0 d 73 342 R [.ref 1, .int v1, .int v2, .int v3] (x, G, L) = oX e x1 G1 L1) (h4 : e < 4) (he : 0 < eN e) : sm_cv0 (d + 1) 211 342 R [.ref 1, .int v1, .int v2, .int v3, .ref 342] (x, G, L) = oI (i3 (eN e)) x1 G1 L1 := by
  refine (cv_eq rfl rfl).trans (hD_eq.trans ?_)
  refine (show sm_blk _ _ _ _ _ _ _ _ _ _ _ _ _ _ = sm_aI (sm_cv0 d 73 342 R [.ref 1, .int v1, .int v2, .int v3] (x, G, L)) _ _ from rfl).trans ?_
  rw [h]
  rcases (show e = 0 ∨ e = 1 ∨ e = 2 ∨ e = 3 by omega) with rfl | rfl | rfl | rfl
  · exact absurd he (by decide)
  · rfl
  · rfl
  · exact absurd he (by decide)
/-! street -/
theorem hn_527 {d x x1 : Nat} {R R1 : sm_R} {G G1 : sm_G} {L L1 : sm_L} {v1 : Int32} {a : Int32} (h : sm_cw d 513 [.ref 1, .int v1] (342, R, x, G, L) = wI a 342 R1 x1 G1 L1) : sm_cw (d + 1) 527 [.ref 1, .int v1, .ref 342] (342, R, x, G, L) = wI (i3 0) 342 R1 x1 G1 (sm_up L1 342 0 (Int32.toInt64 a)) := by
  refine (cw_eq rfl rfl).trans (hW_eq.trans ?_)
  refine (show sm_blk _ _ _ _ _ _ _ _ _ _ _ _ _ _ = sm_bV (sm_cw d 513 [.ref 1, .int v1] (342, R, x, G, L)) _ _ from rfl).trans ?_
  rw [h]
  rfl
theorem hx_527 {d x x1 : Nat} {R R1 : sm_R} {G G1 : sm_G} {L L1 : sm_L} {v1 : Int32} {e : Nat} (h : sm_cw d 513 [.ref 1, .int v1] (342, R, x, G, L) = wX 342 R1 e x1 G1 L1) (h4 : e < 4) (he : 0 < eA e) : sm_cw (d + 1) 527 [.ref 1, .int v1, .ref 342] (342, R, x, G, L) = wI (i3 (eA e)) 342 R1 x1 G1 L1 := by
  refine (cw_eq rfl rfl).trans (hW_eq.trans ?_)
  refine (show sm_blk _ _ _ _ _ _ _ _ _ _ _ _ _ _ = sm_bV (sm_cw d 513 [.ref 1, .int v1] (342, R, x, G, L)) _ _ from rfl).trans ?_
  rw [h]
  rcases (show e = 0 ∨ e = 1 ∨ e = 2 ∨ e = 3 by omega) with rfl | rfl | rfl | rfl
  · exact absurd he (by decide)
  · exact absurd he (by decide)
  · rfl
  · exact absurd he (by decide)
/-! will -/
theorem hn_528 {d x x1 : Nat} {R R1 : sm_R} {G G1 : sm_G} {L L1 : sm_L} {v1 v2 : Int32} {a : Int32} (h : sm_cw d 514 [.ref 1, .int v1, .int v2] (342, R, x, G, L) = wI a 342 R1 x1 G1 L1) : sm_cw (d + 1) 528 [.ref 1, .int v1, .int v2, .ref 342] (342, R, x, G, L) = wI (i3 0) 342 R1 x1 G1 (sm_up L1 342 0 (Int32.toInt64 a)) := by
  refine (cw_eq rfl rfl).trans (hW_eq.trans ?_)
  refine (show sm_blk _ _ _ _ _ _ _ _ _ _ _ _ _ _ = sm_bV (sm_cw d 514 [.ref 1, .int v1, .int v2] (342, R, x, G, L)) _ _ from rfl).trans ?_
  rw [h]
  rfl
theorem hx_528 {d x x1 : Nat} {R R1 : sm_R} {G G1 : sm_G} {L L1 : sm_L} {v1 v2 : Int32} {e : Nat} (h : sm_cw d 514 [.ref 1, .int v1, .int v2] (342, R, x, G, L) = wX 342 R1 e x1 G1 L1) (h4 : e < 4) (he : 0 < eN e) : sm_cw (d + 1) 528 [.ref 1, .int v1, .int v2, .ref 342] (342, R, x, G, L) = wI (i3 (eN e)) 342 R1 x1 G1 L1 := by
  refine (cw_eq rfl rfl).trans (hW_eq.trans ?_)
  refine (show sm_blk _ _ _ _ _ _ _ _ _ _ _ _ _ _ = sm_bV (sm_cw d 514 [.ref 1, .int v1, .int v2] (342, R, x, G, L)) _ _ from rfl).trans ?_
  rw [h]
  rcases (show e = 0 ∨ e = 1 ∨ e = 2 ∨ e = 3 by omega) with rfl | rfl | rfl | rfl
  · exact absurd he (by decide)
  · rfl
  · rfl
  · exact absurd he (by decide)
/-! book -/
theorem hn_529 {d x x1 : Nat} {R R1 : sm_R} {G G1 : sm_G} {L L1 : sm_L} {v1 : Int32} {a : Int32} (h : sm_cw d 515 [.ref 1, .int v1] (342, R, x, G, L) = wI a 342 R1 x1 G1 L1) : sm_cw (d + 1) 529 [.ref 1, .int v1, .ref 342] (342, R, x, G, L) = wI (i3 0) 342 R1 x1 G1 (sm_up L1 342 0 (Int32.toInt64 a)) := by
  refine (cw_eq rfl rfl).trans (hW_eq.trans ?_)
  refine (show sm_blk _ _ _ _ _ _ _ _ _ _ _ _ _ _ = sm_bV (sm_cw d 515 [.ref 1, .int v1] (342, R, x, G, L)) _ _ from rfl).trans ?_
  rw [h]
  rfl
theorem hx_529 {d x x1 : Nat} {R R1 : sm_R} {G G1 : sm_G} {L L1 : sm_L} {v1 : Int32} {e : Nat} (h : sm_cw d 515 [.ref 1, .int v1] (342, R, x, G, L) = wX 342 R1 e x1 G1 L1) (h4 : e < 4) (he : 0 < eA e) : sm_cw (d + 1) 529 [.ref 1, .int v1, .ref 342] (342, R, x, G, L) = wI (i3 (eA e)) 342 R1 x1 G1 L1 := by
  refine (cw_eq rfl rfl).trans (hW_eq.trans ?_)
  refine (show sm_blk _ _ _ _ _ _ _ _ _ _ _ _ _ _ = sm_bV (sm_cw d 515 [.ref 1, .int v1] (342, R, x, G, L)) _ _ from rfl).trans ?_
  rw [h]
  rcases (show e = 0 ∨ e = 1 ∨ e = 2 ∨ e = 3 by omega) with rfl | rfl | rfl | rfl
  · exact absurd he (by decide)
  · exact absurd he (by decide)
  · rfl
  · exact absurd he (by decide)
