/-! the law's body out of the small machine's run -/
theorem sm_pre342 : sm_pre 342 ≤ 30000 := by decide +kernel
theorem sm_rm342 {x' : Nat} (h : x' ≤ 100000) : (sm_rm room_1 0 0 342 x') ∧ sm_mc 0 0 342 x' ≤ 601024 ∧ sm_ms 0 0 342 x' ≤ 7293034 := by
  have hp := sm_pre342
  have h1 : room_1.slots = 7293034 := rfl
  have h2 : room_1.cells = 601024 := rfl
  have h3 : room_1.frames = 2048 := rfl
  have h4 : room_1.locals = 84000 := rfl
  unfold sm_rm sm_mc sm_ms
  rw [h1, h2, h3, h4]
  generalize sm_pre 342 = a at *
  generalize sm_pre 0 = b at *
  exact ⟨⟨by omega, by omega, by omega, by omega, by omega⟩, by omega, by omega⟩
theorem lw_body {p : Program} {e : Env} {s : State} {m : MethodId} {below : List Frame} {meth : Method} {c : Code} (l : Launch) (hflags : l.flags = flags0) {b L : Nat} {xs : Nat → Int32} (hL : L ≤ 3072) (hP : sm_Pure xs L) (C0 : lw_At p s m meth c b L xs) : W p l e room_1 s m #[Value.ref b] below meth c s.heap [] 0 0 (lw_Z below #[Value.ref b] s) (entryFrame m ([Value.ref b] : List Value).toArray 8) := by
  obtain ⟨d, F, x', R', G', L', hd, hx', hrun⟩ := hP
  obtain ⟨D, tc, ρ, adV, hSt, hρ⟩ := st_start hL C0
  obtain ⟨hx, hb, hr, hml, hown, hts, hX, hbl, hlocks, hgv⟩ := C0
  have hst : l.stackTraces = false := by
    unfold Launch.stackTraces
    rw [hflags]
    rfl
  have hcon : sm_Con D tc adV (sm_Z xs L) s.heap.size l d (sm_cw d) := sm_Cons sm_CksA (sm_thrA (sm_Thr29 hst) (sm_Thr31 hst) (sm_Thr41 hst) (sm_Thr60 hst)) sm_txcA d
  have hml531 : sm_ml 531 = 8 := by decide +kernel
  have C : sm_Cx p s m #[Value.ref b] meth c D tc s.heap.size ρ adV (sm_Z xs L) 8 (sm_own 531) code (sm_ini 531) (sm_T 531) := ⟨hx, hb, hml, fun w hw => hts w (List.mem_filter.mp hw).1, hSt, (show s.vm.findClass (sm_cls (sm_own 531)) = some m.cls by rw [show sm_cls (sm_own 531) = R_law by decide +kernel]; exact hown), fun pc => by rw [← hml531]; exact (sm_ickL pc).1, fun h => absurd h (by decide +kernel)⟩
  have hdp : sm_dp room_1 d := ⟨by show d + 21 ≤ 2048; omega, by show 64 * d + 464 ≤ 84000; omega⟩
  obtain ⟨hrm, hmc, hms⟩ := sm_rm342 hx'
  have hhd : ∀ pc ex, sm_hd 531 pc ex = 0 := fun pc ex => rfl
  have hE : sm_End p l e room_1 s m #[Value.ref b] below meth c (lw_Z below #[Value.ref b] s) D tc s.heap.size ρ (sm_Z xs L) 8 0 0 342 x' (sm_T 531) (sm_hd 531) (.inl (.inl (some (.int 1)), 342, R', x', G', L')) := by
    refine ⟨fun pc ex H locs rls rest q ce g1 g2 g3 => ⟨fun hz ρ n R x G L hw => (by cases hw), fun hz => absurd (hhd pc ex) hz⟩, fun pc v ex rest n R x G L ls _ _ _ _ hw => (by cases hw), fun pc u st n1 R1 x1 G1 L1 ls1 ew hre => ?_⟩
    cases ew
    refine ⟨⟨Nat.le_refl _, Nat.le_refl _⟩, fun _ _ ρ1 H locs rls hV hl => ?_⟩
    obtain ⟨v1, v2, v3, v4, v5, v6, v7, v8⟩ := hV
    have fin : decode code pc = .ok (.ireturn, 1) → W p l e room_1 s m #[Value.ref b] below meth c H locs (sm_mc 0 0 342 x') (sm_ms 0 0 342 x') (lw_Z below #[Value.ref b] s) (F0 m pc rls [.int 1]) := fun hd0 => by
      refine va_forget (fun q hq => v3.2.2 q hq) ?_
      refine W.widen (k := 601024) (n := 7293034) hmc hms ?_
      exact lw_ret hx hb hr hlocks hd0
    rcases hre with ⟨hT, a, h1, rfl⟩ | ⟨hT, a, h1, rfl, ha⟩ | ⟨hT, a, h1, rfl⟩ | ⟨hT, a, h1, rfl, h0⟩ | ⟨hT, h1, rfl⟩
    · cases h1
      exact fin (sm_chk_of C.2.2.2.2.2.2.1 hT (by intro z; cases z)).1
    · cases h1
      exact fin (sm_chk_of C.2.2.2.2.2.2.1 hT (by intro z; cases z)).1
    · cases h1
    · cases h1
    · cases h1
  have hrun2 := sm_run_ok (cn := fun j n R as D => sm_dr (sm_cw d j as (n, R, D))) C hdp hrm hcon (sm_cw_tx d).1 sm_mksA (sm_cw_tx d).2 (fun pc => (sm_ickL pc).2.1) rfl hE F 0 _ _ _ _ _ _ hrun
  have hV0 : sm_V D tc s.heap.size ρ (sm_Z xs L) 0 s ρ 0 (fun _ _ => 0) (sm_Z xs L) (fun _ _ => 0) s.heap [] := ⟨fun k q h => by simp [sm_ws] at h, ⟨fun i j p q h => by simp [sm_ws] at h, fun k q h => by simp [sm_ws] at h⟩, va_S.rf, fun _ _ => rfl, fun _ _ => Nat.le_refl _, Nat.zero_le _, rfl, rfl⟩
  rw [lg_entry_eq]
  have hl := lv_entry [.ref b] (n := 8) (Nat.le_of_ble_eq_true rfl)
  have hl2 : lv_has ((lg_sl [.ref b] ++ List.replicate (8 - (lg_sl [.ref b]).length) Slot.unset).toArray) 8 (sm_lv ρ 0 (sm_lay 8 [.ref 8191])) := by
    refine sm_has_sub hl (fun q hq => ?_)
    unfold sm_lay at hq
    rw [sm_lv_null] at hq
    have h3 := sm_lay_in [.ref 8191] 0 q hq
    rw [show [Value.ref 8191].map (sm_cv ρ) = [.ref b] by
      show [sm_cv ρ (.ref 8191)] = _
      rw [sm_cv_ne (by decide), hρ]] at h3
    exact h3
  have h9 := hrun2.2 (Nat.le_refl _) (Nat.le_refl _) ρ s.heap [] _ hV0 hl2
  exact h9
