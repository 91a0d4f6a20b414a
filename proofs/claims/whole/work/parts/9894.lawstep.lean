/-! the law, one call behind another -/
theorem ldi_z {β : Type} {G1 G : sm_G} {Ln k : Nat} {f : Int32 → Option β} (hz : zz G1 G) (hL : G 8190 0 = i3 Ln) (hk : k < Ln) (h3 : Ln ≤ 3072) : ldi 8191 (i3 k) G1 f = f (G 8191 k) := by
  unfold ldi
  rw [show sm_is 8191 342 20 = false by decide +kernel, cond_false, show Nat.beq 8191 8191 = true from rfl, Bool.true_and, hz.1, hL, hz.2, i3_cl (by omega), i3_in (by omega) hk, cond_true, i3_cl (by omega)]
def LawOk (d x : Nat) (V : pV) (G : sm_G) (L : sm_L) (P : Nat) (v : Int32) : Prop := ∃ V' x' G' L', hW (d + 61) 531 P [.ref 8191, .ref 1, .ref 156, .ref 342, .int v, .null, .null, .null] 342 (RR V) x G L = hW (d + 61) 531 3069 [.ref 8191, .ref 1, .ref 156, .ref 342, .int v, .null, .null, .null] 342 (RR V') x' G' L' ∧ x' ≤ x + 1 ∧ Inv V' G' ∧ zz G' G
theorem s_215 {d x : Nat} {V : pV} {G : sm_G} {L : sm_L} : sm_cv0 (d + 1) 215 342 (RR V) [.ref 156] (x, G, L) = oI (G 156 0) x G L := m_215
theorem i6_irr (a : Int64) : ¬ a < a := fun h => Int64.lt_irrefl h
section LWS
variable {d x P J j k : Nat} {V : pV} {G : sm_G} {L : sm_L} {as bs as' : List Value} {E : Nat → Nat} {v : Int32}
theorem stepI {F : Int32 → Nat → sm_G → sm_L → Option (sm_Res × sm_S)} (hk : lf k = true) (op : OpI d x V G L j as k bs E)
    (eq : hW (d + 61) 531 P [.ref 8191, .ref 1, .ref 156, .ref 342, .int v, .null, .null, .null] 342 (RR V) x G L = sm_aI (sm_cv0 (d + 61) J 342 (RR V) as' (x, G, L)) F (wX 342 (RR V)))
    (hF : ∀ a1 x1 G1 L1, zz G1 G → F a1 x1 G1 L1 = sm_aI (sm_cv0 (d + 61) k 342 (RR V) bs (x1, G1, L1)) (tlI (d + 61) (RR V) v a1) (wX 342 (RR V)))
    (hn : ∀ a x1 G1 L1, sm_cv0 (d + 60) j 342 (RR V) as (x, G, L) = oI a x1 G1 L1 → sm_cv0 (d + 61) J 342 (RR V) as' (x, G, L) = oI (i3 0) x1 G1 (sm_up L1 342 0 (Int32.toInt64 a)))
    (hx : ∀ e x1 G1 L1, sm_cv0 (d + 60) j 342 (RR V) as (x, G, L) = oX e x1 G1 L1 → e < 4 → 0 < E e → sm_cv0 (d + 61) J 342 (RR V) as' (x, G, L) = oI (i3 (E e)) x1 G1 L1) : LawOk d x V G L P v := by
  rcases op with ⟨a, G1, G2, e1, e2, e3, e4⟩ | ⟨e, G1, z, G2, e1, e2, e3, e4, e5, e6, e7⟩
  · have z1 : zz G1 G := zz_cv (Nat.le_refl _) e1
    have h1 := hn _ _ _ _ e1
    have h2 : sm_cv0 (d + 61) k 342 (RR V) bs (x, G1, sm_up L 342 0 (Int32.toInt64 a)) = oI a x G2 (sm_up L 342 0 (Int32.toInt64 a)) := cv_up (cv_L hk e2 _) 1
    have z2 : zz G2 G1 := zz_cv (Nat.le_refl _) e2
    refine ⟨V, x, G2, sm_up L 342 0 (Int32.toInt64 a), ?_, by omega, e4, zz_tr z1 z2⟩
    rw [eq, h1, aI_o, hF _ _ _ _ z1, h2, aI_o]
    unfold tlI
    rw [s_215, aI_o, e3, if_pos rfl, if_pos rfl, sm_up_same, if_neg (i6_irr _), if_pos rfl]
  · have z1 : zz G1 G := zz_cv (Nat.le_refl _) e1
    have h1 := hx _ _ _ _ e1 e4 e5
    have h2 : sm_cv0 (d + 61) k 342 (RR V) bs (x + 1, G1, L) = oI z (x + 1) G2 L := cv_up e2 1
    have z2 : zz G2 G1 := zz_cv (Nat.le_refl _) e2
    refine ⟨V, x + 1, G2, L, ?_, by omega, e7, zz_tr z1 z2⟩
    rw [eq, h1, aI_o, hF _ _ _ _ z1, h2, aI_o]
    unfold tlI
    rw [s_215, aI_o, e3, if_pos rfl, if_neg (by rw [i3_eq (by omega) (by omega)]; omega)]
theorem stepZ {F : Int32 → Nat → sm_G → sm_L → Option (sm_Res × sm_S)} (hk : lf k = true) (op : OpI d x V G L j as k bs E)
    (eq : hW (d + 61) 531 P [.ref 8191, .ref 1, .ref 156, .ref 342, .int v, .null, .null, .null] 342 (RR V) x G L = sm_aI (sm_cv0 (d + 61) J 342 (RR V) as' (x, G, L)) F (wX 342 (RR V)))
    (hF : ∀ a1 x1 G1 L1, zz G1 G → F a1 x1 G1 L1 = sm_aI (sm_cv0 (d + 61) k 342 (RR V) bs (x1, G1, L1)) (tlZ (d + 61) (RR V) v a1) (wX 342 (RR V)))
    (hn : ∀ a x1 G1 L1, sm_cv0 (d + 60) j 342 (RR V) as (x, G, L) = oI a x1 G1 L1 → sm_cv0 (d + 61) J 342 (RR V) as' (x, G, L) = if a = i3 0 then oI (i3 0) x1 G1 (sm_up L1 342 0 0) else oI (i3 0) x1 G1 (sm_up L1 342 0 1))
    (hx : ∀ e x1 G1 L1, sm_cv0 (d + 60) j 342 (RR V) as (x, G, L) = oX e x1 G1 L1 → e < 4 → 0 < E e → sm_cv0 (d + 61) J 342 (RR V) as' (x, G, L) = oI (i3 (E e)) x1 G1 L1) : LawOk d x V G L P v := by
  rcases op with ⟨a, G1, G2, e1, e2, e3, e4⟩ | ⟨e, G1, z, G2, e1, e2, e3, e4, e5, e6, e7⟩
  · have z1 : zz G1 G := zz_cv (Nat.le_refl _) e1
    have h1 := hn _ _ _ _ e1
    have z2 : zz G2 G1 := zz_cv (Nat.le_refl _) e2
    by_cases q : a = i3 0
    · rw [if_pos q] at h1
      have h2 : sm_cv0 (d + 61) k 342 (RR V) bs (x, G1, sm_up L 342 0 0) = oI a x G2 (sm_up L 342 0 0) := cv_up (cv_L hk e2 _) 1
      refine ⟨V, x, G2, sm_up L 342 0 0, ?_, by omega, e4, zz_tr z1 z2⟩
      rw [eq, h1, aI_o, hF _ _ _ _ z1, h2, aI_o]
      unfold tlZ
      rw [s_215, aI_o, e3, if_pos rfl, if_pos rfl, if_pos q, sm_up_same, if_neg (i6_irr _), if_pos rfl]
    · rw [if_neg q] at h1
      have h2 : sm_cv0 (d + 61) k 342 (RR V) bs (x, G1, sm_up L 342 0 1) = oI a x G2 (sm_up L 342 0 1) := cv_up (cv_L hk e2 _) 1
      refine ⟨V, x, G2, sm_up L 342 0 1, ?_, by omega, e4, zz_tr z1 z2⟩
      rw [eq, h1, aI_o, hF _ _ _ _ z1, h2, aI_o]
      unfold tlZ
      rw [s_215, aI_o, e3, if_pos rfl, if_pos rfl, if_neg q, sm_up_same, if_neg (i6_irr _), if_pos rfl]
  · have z1 : zz G1 G := zz_cv (Nat.le_refl _) e1
    have h1 := hx _ _ _ _ e1 e4 e5
    have h2 : sm_cv0 (d + 61) k 342 (RR V) bs (x + 1, G1, L) = oI z (x + 1) G2 L := cv_up e2 1
    have z2 : zz G2 G1 := zz_cv (Nat.le_refl _) e2
    refine ⟨V, x + 1, G2, L, ?_, by omega, e7, zz_tr z1 z2⟩
    rw [eq, h1, aI_o, hF _ _ _ _ z1, h2, aI_o]
    unfold tlZ
    rw [s_215, aI_o, e3, if_pos rfl, if_neg (by rw [i3_eq (by omega) (by omega)]; omega)]
theorem stepL {F : Int32 → Nat → sm_G → sm_L → Option (sm_Res × sm_S)} (op : OpL d x V G L j as k bs E)
    (eq : hW (d + 61) 531 P [.ref 8191, .ref 1, .ref 156, .ref 342, .int v, .null, .null, .null] 342 (RR V) x G L = sm_aI (sm_cv0 (d + 61) J 342 (RR V) as' (x, G, L)) F (wX 342 (RR V)))
    (hF : ∀ a1 x1 G1 L1, zz G1 G → F a1 x1 G1 L1 = sm_aL (sm_cv0 (d + 61) k 342 (RR V) bs (x1, G1, L1)) (tlL (d + 61) (RR V) v a1) (wX 342 (RR V)))
    (hn : ∀ a x1 G1 L1, sm_cv0 (d + 60) j 342 (RR V) as (x, G, L) = oL a x1 G1 L1 → sm_cv0 (d + 61) J 342 (RR V) as' (x, G, L) = oI (i3 0) x1 G1 (sm_up L1 342 0 a))
    (hx : ∀ e x1 G1 L1, sm_cv0 (d + 60) j 342 (RR V) as (x, G, L) = oX e x1 G1 L1 → e < 4 → 0 < E e → sm_cv0 (d + 61) J 342 (RR V) as' (x, G, L) = oI (i3 (E e)) x1 G1 L1) (hk2 : lf2 k = true) : LawOk d x V G L P v := by
  rcases op with ⟨G1, L1, hop⟩ | ⟨e, G1, z, G2, e1, e2, e3, e4, e5, e6, e7⟩
  · obtain ⟨a, G0, L0, e1, _⟩ := hop L1
    obtain ⟨a', G2, L2, e1', e2, e3, e4⟩ := hop (sm_up L1 342 0 a)
    have ea : a' = a := by
      have y := e1'.symm.trans e1
      unfold oL at y
      simp only [Option.some.injEq, Prod.mk.injEq, Sum.inl.injEq, Value.long.injEq] at y
      exact y.1
    subst ea
    have z1 : zz G1 G := zz_cv (Nat.le_refl _) e1
    have h1 := hn _ _ _ _ e1
    have h2 : sm_cv0 (d + 61) k 342 (RR V) bs (x, G1, sm_up L1 342 0 a') = oL a' x G2 L2 := cv_up e2 1
    have z2 : zz G2 G1 := zz_cv (Nat.le_refl _) e2
    have hl : L2 342 0 = a' := by
      rw [kl_cv hk2 h2, sm_up_same]
    refine ⟨V, x, G2, L2, ?_, by omega, e4, zz_tr z1 z2⟩
    rw [eq, h1, aI_o, hF _ _ _ _ z1, h2, aL_o]
    unfold tlL
    rw [lw_1982, s_215, aI_o, e3, if_pos rfl, if_pos rfl, hl, if_neg (i6_irr _), if_pos rfl]
  · have z1 : zz G1 G := zz_cv (Nat.le_refl _) e1
    have h1 := hx _ _ _ _ e1 e4 e5
    have h2 : sm_cv0 (d + 61) k 342 (RR V) bs (x + 1, G1, L) = oL z (x + 1) G2 L := cv_up e2 1
    have z2 : zz G2 G1 := zz_cv (Nat.le_refl _) e2
    refine ⟨V, x + 1, G2, L, ?_, by omega, e7, zz_tr z1 z2⟩
    rw [eq, h1, aI_o, hF _ _ _ _ z1, h2, aL_o]
    unfold tlL
    rw [lw_1982, s_215, aI_o, e3, if_pos rfl, if_neg (by rw [i3_eq (by omega) (by omega)]; omega)]
theorem stepD {F : Int32 → Nat → sm_G → sm_L → Option (sm_Res × sm_S)} (op : OpI d x V G L j as k bs (fun _ => 0))
    (eq : hW (d + 61) 531 P [.ref 8191, .ref 1, .ref 156, .ref 342, .int v, .null, .null, .null] 342 (RR V) x G L = sm_aI (sm_cv0 (d + 61) j 342 (RR V) as (x, G, L)) F (wX 342 (RR V)))
    (hF : ∀ a1 x1 G1 L1, zz G1 G → F a1 x1 G1 L1 = sm_aI (sm_cv0 (d + 61) k 342 (RR V) bs (x1, G1, L1)) (fun a2 x2 G2 L2 => if a1 = a2 then hW (d + 61) 531 3069 [.ref 8191, .ref 1, .ref 156, .ref 342, .int v, .null, .null, .null] 342 (RR V) x2 G2 L2 else wI (i3 0) 342 (RR V) x2 G2 L2) (wX 342 (RR V))) : LawOk d x V G L P v := by
  rcases op with ⟨a, G1, G2, e1, e2, e3, e4⟩ | ⟨e, G1, z, G2, e1, e2, e3, e4, e5, e6, e7⟩
  · have z1 : zz G1 G := zz_cv (Nat.le_refl _) e1
    have h1 : sm_cv0 (d + 61) j 342 (RR V) as (x, G, L) = oI a x G1 L := cv_up e1 1
    have h2 : sm_cv0 (d + 61) k 342 (RR V) bs (x, G1, L) = oI a x G2 L := cv_up e2 1
    have z2 : zz G2 G1 := zz_cv (Nat.le_refl _) e2
    refine ⟨V, x, G2, L, ?_, by omega, e4, zz_tr z1 z2⟩
    rw [eq, h1, aI_o, hF _ _ _ _ z1, h2, aI_o, if_pos rfl]
  · exact absurd e5 (Nat.lt_irrefl 0)
/-- a text's call, the class's part and what stands behind it -/
theorem stepW {F : Option Value → sm_S → Option (sm_Res × sm_S)} {FX : Nat → sm_S → Option (sm_Res × sm_S)} (hk : lf k = true) (op : OpW d x V G L j as k bs E)
    (eq : hW (d + 61) 531 P [.ref 8191, .ref 1, .ref 156, .ref 342, .int v, .null, .null, .null] 342 (RR V) x G L = sm_bV (sm_cw (d + 61) J as' (342, RR V, x, G, L)) F FX)
    (hF : ∀ a1 V' x1 G1 L1, zz G1 G → F (some (.int a1)) (342, RR V', x1, G1, L1) = sm_aI (sm_cv0 (d + 61) k 342 (RR V') bs (x1, G1, L1)) (tlI (d + 61) (RR V') v a1) (wX 342 (RR V')))
    (hn : ∀ a R1 x1 G1 L1, sm_cw (d + 60) j as (342, RR V, x, G, L) = wI a 342 R1 x1 G1 L1 → sm_cw (d + 61) J as' (342, RR V, x, G, L) = wI (i3 0) 342 R1 x1 G1 (sm_up L1 342 0 (Int32.toInt64 a)))
    (hx : ∀ e R1 x1 G1 L1, sm_cw (d + 60) j as (342, RR V, x, G, L) = wX 342 R1 e x1 G1 L1 → e < 4 → 0 < E e → sm_cw (d + 61) J as' (342, RR V, x, G, L) = wI (i3 (E e)) 342 R1 x1 G1 L1) : LawOk d x V G L P v := by
  have bV : ∀ (a : Int32) (R1 : sm_R) (x1 : Nat) (G1 : sm_G) (L1 : sm_L), sm_bV (wI a 342 R1 x1 G1 L1) F FX = F (some (.int a)) (342, R1, x1, G1, L1) := fun _ _ _ _ _ => rfl
  rcases op with ⟨a, V', G1, G2, e1, e2, e3, e4⟩ | ⟨e, G1, z, G2, e1, e2, e3, e4, e5, e6, e7⟩
  · have z1 : zz G1 G := zz_cw (Nat.le_refl _) e1
    have h1 := hn _ _ _ _ _ e1
    have h2 : sm_cv0 (d + 61) k 342 (RR V') bs (x, G1, sm_up L 342 0 (Int32.toInt64 a)) = oI a x G2 (sm_up L 342 0 (Int32.toInt64 a)) := cv_up (cv_L hk e2 _) 1
    have z2 : zz G2 G1 := zz_cv (Nat.le_refl _) e2
    refine ⟨V', x, G2, sm_up L 342 0 (Int32.toInt64 a), ?_, by omega, e4, zz_tr z1 z2⟩
    rw [eq, h1, bV, hF _ _ _ _ _ z1, h2, aI_o]
    unfold tlI
    rw [s_215, aI_o, e3, if_pos rfl, if_pos rfl, sm_up_same, if_neg (i6_irr _), if_pos rfl]
  · have z1 : zz G1 G := zz_cw (Nat.le_refl _) e1
    have h1 := hx _ _ _ _ _ e1 e4 e5
    have h2 : sm_cv0 (d + 61) k 342 (RR V) bs (x + 1, G1, L) = oI z (x + 1) G2 L := cv_up e2 1
    have z2 : zz G2 G1 := zz_cv (Nat.le_refl _) e2
    refine ⟨V, x + 1, G2, L, ?_, by omega, e7, zz_tr z1 z2⟩
    rw [eq, h1, bV, hF _ _ _ _ _ z1, h2, aI_o]
    unfold tlI
    rw [s_215, aI_o, e3, if_pos rfl, if_neg (by rw [i3_eq (by omega) (by omega)]; omega)]
end LWS
