/-! what is caught -/
def sm_hrck (j : Nat) (q : sm_HR) : Bool := sm_tc q.2.2.2.2 (5, sm_own j, q.1.2.2.2, 14 + q.2.2.2.1, 0) && Nat.ble 1 q.1.2.2.2 && Nat.blt q.2.2.2.1 4 && Nat.blt q.2.2.1 (sm_ml j) && Nat.ble 1 q.2.1 && Nat.blt (q.1.2.2.1 + q.2.1) 65536 &&
  (decide (decode (sm_b j) q.1.2.2.1 = .ok (.astore q.2.2.1, q.2.1)) && Nat.beq q.2.1 2 || (List.range 4).any fun i => Nat.beq i q.2.2.1 && Nat.beq q.2.1 1 && decide (decode (sm_b j) q.1.2.2.1 = .ok (.astore_n (Fin.ofNat 4 i), 1)))
def sm_cov (q : sm_HR) (pc : Nat) : Bool := Nat.ble q.1.1 pc && Nat.blt pc q.1.2.1
theorem sm_hdf_0 {pc e : Nat} : ∀ (L : List sm_HR), (∀ q ∈ L, 1 ≤ q.2.1) → sm_hdf L pc e = 0 → ∀ q ∈ L, sm_cov q pc = false
  | [], _, _, q, h => by cases h
  | ((f, t, h, ct), (ln, sl, ex, pl)) :: r, hp, h0, q, hq => by
    have h1 : (bif Nat.ble f pc && Nat.blt pc t then (bif Nat.beq ex e then Nat.add (Nat.add h ln) (Nat.mul 65536 sl) else bif Nat.beq (sm_hdf r pc e) 0 then 1 else sm_hdf r pc e) else sm_hdf r pc e) = 0 := h0
    cases hc : (Nat.ble f pc && Nat.blt pc t) with
    | true =>
      exfalso
      rw [hc] at h1
      simp only [cond_true] at h1
      cases hx : Nat.beq ex e with
      | true =>
        rw [hx] at h1
        have h2 : h + ln + 65536 * sl = 0 := h1
        have h3 := hp _ List.mem_cons_self
        have h3 : 1 ≤ ln := h3
        omega
      | false =>
        rw [hx] at h1
        simp only [cond_false] at h1
        cases hy : Nat.beq (sm_hdf r pc e) 0 with
        | true => rw [hy] at h1; cases h1
        | false => rw [hy] at h1; simp only [cond_false] at h1; rw [h1] at hy; cases hy
    | false =>
      rw [hc] at h1
      rcases List.mem_cons.mp hq with rfl | hq
      · exact hc
      · exact sm_hdf_0 r (fun q h => hp q (List.mem_cons_of_mem _ h)) h1 q hq
/-- the first row that catches -/
theorem sm_hdf_1 {pc e : Nat} : ∀ (L : List sm_HR), sm_hdf L pc e ≠ 0 → sm_hdf L pc e ≠ 1 → ∃ pre x suf, L = pre ++ x :: suf ∧ (∀ q ∈ pre, sm_cov q pc = false ∨ q.2.2.2.1 ≠ e) ∧ sm_cov x pc = true ∧ x.2.2.2.1 = e ∧ sm_hdf L pc e = x.1.2.2.1 + x.2.1 + 65536 * x.2.2.1
  | [], h, _ => absurd rfl h
  | ((f, t, h, ct), (ln, sl, ex, pl)) :: r, h0, h1 => by
    have e0 : sm_hdf (((f, t, h, ct), (ln, sl, ex, pl)) :: r) pc e = (bif Nat.ble f pc && Nat.blt pc t then (bif Nat.beq ex e then Nat.add (Nat.add h ln) (Nat.mul 65536 sl) else bif Nat.beq (sm_hdf r pc e) 0 then 1 else sm_hdf r pc e) else sm_hdf r pc e) := rfl
    have rek : ∀ (hs : sm_hdf (((f, t, h, ct), (ln, sl, ex, pl)) :: r) pc e = sm_hdf r pc e) (hp : sm_cov ((f, t, h, ct), (ln, sl, ex, pl)) pc = false ∨ ex ≠ e), ∃ pre x suf, ((f, t, h, ct), (ln, sl, ex, pl)) :: r = pre ++ x :: suf ∧ (∀ q ∈ pre, sm_cov q pc = false ∨ q.2.2.2.1 ≠ e) ∧ sm_cov x pc = true ∧ x.2.2.2.1 = e ∧ sm_hdf (((f, t, h, ct), (ln, sl, ex, pl)) :: r) pc e = x.1.2.2.1 + x.2.1 + 65536 * x.2.2.1 := by
      intro hs hp
      rw [hs] at h0 h1
      obtain ⟨pre, x, suf, g1, g2, g3, g4, g5⟩ := sm_hdf_1 r h0 h1
      refine ⟨_ :: pre, x, suf, by rw [g1]; rfl, fun q hq => ?_, g3, g4, by rw [hs]; exact g5⟩
      rcases List.mem_cons.mp hq with rfl | hq
      · exact hp
      · exact g2 q hq
    cases hc : (Nat.ble f pc && Nat.blt pc t) with
    | false => exact rek (by rw [e0, hc]; rfl) (Or.inl hc)
    | true =>
      cases hx : Nat.beq ex e with
      | true =>
        refine ⟨[], _, r, rfl, fun q hq => (by cases hq), hc, Nat.eq_of_beq_eq_true hx, ?_⟩
        rw [e0, hc, hx]
        rfl
      | false =>
        have hne : ex ≠ e := fun z => by rw [z, Nat.beq_refl] at hx; cases hx
        cases hy : Nat.beq (sm_hdf r pc e) 0 with
        | true =>
          exfalso
          rw [e0, hc, hx, hy] at h1
          exact h1 rfl
        | false => exact rek (by rw [e0, hc, hx, hy]; rfl) (Or.inr hne)
theorem sm_exmod {a b : Nat} (h : a < 65536) : Nat.mod (a + 65536 * b) 65536 = a ∧ Nat.div (a + 65536 * b) 65536 = b := by
  constructor
  · show (a + 65536 * b) % 65536 = a
    omega
  · show (a + 65536 * b) / 65536 = b
    omega
theorem sm_set_at {ls : List Value} {i : Nat} {v u : Value} (h1 : (sm_set ls i v)[i]? = some u) : u = v := by
  unfold sm_set at h1
  cases i with
  | zero =>
    simp only [List.getElem?_set] at h1
    split at h1 <;> simp_all
  | succ k =>
    simp only at h1
    split at h1 <;> simp only [List.getElem?_set] at h1 <;> split at h1 <;> simp_all
section SMO
variable {l : Launch} {D : va_G} {tc : Nat → ClassId} {adV : Nat → Nat} {Z : sm_G} {B : Nat}
theorem sm_clnx : ∀ e, e < 4 → sm_cln.getD (14 + e) "" = sm_xn e
  | 0, _ => rfl
  | 1, _ => rfl
  | 2, _ => rfl
  | 3, _ => rfl
  | _ + 4, h => absurd h (by omega)
theorem sm_hlk {j ct pl e : Nat} (h : sm_tc pl (5, sm_own j, ct, 14 + e, 0) = true) (he : e < 4) : Cond.classLink (sm_cls (sm_own j)) ct (sm_xn e) ∈ sm_tb := by
  have h1 : Cond.classLink (sm_cls (sm_own j)) ct (sm_cln.getD (14 + e) "") ∈ lw_tbl := sm_tc_of h
  rw [sm_clnx e he] at h1
  exact sm_tb_m h1 rfl
theorem sm_castx : ∀ e, e < 4 → Cond.castable (sm_xn e) (sm_xn e) ∈ lw_tbl
  | 0, _ => List.mem_append_right _ (List.mem_of_getElem? (i := 1146) (by decide +kernel))
  | 1, _ => List.mem_append_right _ (List.mem_of_getElem? (i := 980) (by decide +kernel))
  | 2, _ => List.mem_append_right _ (List.mem_of_getElem? (i := 724) (by decide +kernel))
  | 3, _ => List.mem_append_right _ (List.mem_of_getElem? (i := 1405) (by decide +kernel))
  | _ + 4, h => absurd h (by omega)
/-- a method's own throws -/
def sm_Th2 (l : Launch) (D : va_G) (tc : Nat → ClassId) (adV : Nat → Nat) (Z : sm_G) (B : Nat) (j : Nat) : Prop := ∀ (p : Program) (e : Env) (Rm : Room) (s : State) (m : MethodId) (args : Array Value) (below : List Frame) (meth : Method) (c : Code) (ρ0 : Nat → Nat) (n0 x0 nf xf : Nat) (r : sm_Res) (R' : sm_R) (G' : sm_G) (L' : sm_L),
  sm_Cx p s m args meth c D tc B ρ0 adV Z (sm_ml j) (sm_own j) (sm_b j) (sm_ini j) (sm_T j) → sm_rm Rm n0 x0 nf xf → 20 ≤ Rm.frames → meth.locks = false → c.exceptionTable.toList = tableOf (sm_hh j) →
  (∀ pc v ex rest n R x G L ls, sm_T j pc = .new v → 40 ≤ Nat.mod v 256 → ex = Nat.sub (Nat.mod v 256) 40 → sm_wsum rest ≤ 8 → (Sum.inl (r, nf, R', xf, G', L') : sm_O) = .inl (.inr ex, n, R, x + 1, G, L) → sm_Cl p l e Rm s m args below meth c (vx_MQ below (sm_QC D tc Z B ρ0 n0 r (nf, R', xf, G', L')) (sm_XC D tc Z B ρ0 n0 r (nf, R', xf, G', L')) args s (sm_mc n0 x0 nf xf) (sm_ms n0 x0 nf xf) (fun q => B ≤ q)) D tc B ρ0 Z (sm_ml j) n0 x0 nf xf pc ls rest n R x G L)
theorem sm_thr_gen {j : Nat} (hck : (sm_hz j).all (sm_hrck j) = true) (hno : sm_Th2 l D tc adV Z B j) : sm_Thr l D tc adV Z B j := by
  intro p e Rm s m args below meth c ρ0 n0 x0 nf xf r R' G' L' C hrm hfr hlocks htab h0 h1
  have hck2 := List.all_eq_true.mp hck
  have hth := hno p e Rm s m args below meth c ρ0 n0 x0 nf xf r R' G' L' C hrm hfr hlocks htab
  obtain ⟨hx, hb, hml, hts, hSt, hown, hchk, hini⟩ := C
  have hpos : ∀ q ∈ sm_hz j, 1 ≤ q.2.1 := fun q hq => by
    have := hck2 q hq
    unfold sm_hrck at this
    simp only [Bool.and_eq_true] at this
    exact sm_ale this.1.1.2
  have htab2 : c.exceptionTable.toList = (sm_hz j).map (fun q => (⟨q.1.1, q.1.2.1, q.1.2.2.1, q.1.2.2.2⟩ : ExceptionTableEntry)) := by
    rw [htab]
    unfold tableOf sm_hh
    rw [List.map_map]
    rfl
  have hcov : ∀ (q : sm_HR) (pc : Nat), covers (⟨q.1.1, q.1.2.1, q.1.2.2.1, q.1.2.2.2⟩ : ExceptionTableEntry) pc = sm_cov q pc := fun q pc => by
    show (decide (q.1.1 ≤ pc) && decide (pc < q.1.2.1)) = (Nat.ble q.1.1 pc && Nat.blt pc q.1.2.1)
    congr 1
    · by_cases h : q.1.1 ≤ pc
      · rw [Nat.ble_eq_true_of_le h, decide_eq_true h]
      · rw [sm_ble_f h, decide_eq_false h]
    · by_cases h : pc < q.1.2.1
      · rw [sm_blt_t h, decide_eq_true h]
      · rw [sm_blt_f h, decide_eq_false h]
  refine ⟨fun pc ex H locs rls rest q ce g1 g2 g3 => ⟨fun hz ρ n R x G L hw a0 a1 hV => ?_, fun hz hz1 ρ ls cells slots hl kk => ?_⟩, hth⟩
  · cases hw
    have hall := sm_hdf_0 (sm_hz j) hpos hz
    obtain ⟨v1, v2, v3, v4, v5, v6, v7, v8⟩ := hV
    refine vx_out (fun x hx => ?_) hlocks g1 g2 g3 (fun t ht hvm => ?_) v3.2.2 (Nat.le_refl _) (Nat.le_refl _)
    · rw [htab2] at hx
      obtain ⟨q, hq, rfl⟩ := List.mem_map.mp hx
      rw [hcov]
      exact hall q hq
    · exact ⟨ρ, trivial, ⟨⟨ex, rfl, rfl⟩, v4, by rw [ht]; exact v1, v2, v5, v6, v7, v8⟩, by rw [ht]; exact v3.1, fun q q1 q2 => by rw [ht]; exact v3.2.1 q q1 q2⟩
  · obtain ⟨pre, x, suf, e1, e2, e3, e4, e5⟩ := sm_hdf_1 (sm_hz j) hz hz1
    have hxm : x ∈ sm_hz j := by rw [e1]; exact List.mem_append_right _ List.mem_cons_self
    have hxk := hck2 x hxm
    unfold sm_hrck at hxk
    simp only [Bool.and_eq_true] at hxk
    obtain ⟨⟨⟨⟨⟨⟨k1, k2⟩, k3⟩, k4⟩, k5⟩, k6⟩, k7⟩ := hxk
    obtain ⟨m1, m2⟩ := sm_exmod (b := x.2.2.1) (sm_blt k6)
    have e6 : sm_hd j pc ex = x.1.2.2.1 + x.2.1 + 65536 * x.2.2.1 := e5
    rw [e6, m1, m2] at kk
    have hex : ex < 4 := by rw [← e4]; exact sm_blt k3
    refine vx_catch (E := sm_xn ex) (name := sm_xn ex) hown (pre.map (fun q => (⟨q.1.1, q.1.2.1, q.1.2.2.1, q.1.2.2.2⟩ : ExceptionTableEntry))) ⟨x.1.1, x.1.2.1, x.1.2.2.1, x.1.2.2.2⟩ (suf.map (fun q => (⟨q.1.1, q.1.2.1, q.1.2.2.1, q.1.2.2.2⟩ : ExceptionTableEntry))) (by rw [htab2, e1, List.map_append, List.map_cons]) (fun z hz => ?_) (by rw [hcov]; exact e3) (Nat.ne_of_gt (sm_ale k2)) (hts _ (by rw [← e4]; exact sm_hlk k1 (sm_blt k3))) (va_Nw.use rfl (hSt.2.1 _ (sm_castx ex hex) rfl)) g1 g2 g3 ?_
    · obtain ⟨q, hq, rfl⟩ := List.mem_map.mp hz
      have hqm : q ∈ sm_hz j := by rw [e1]; exact List.mem_append_left _ hq
      have hqk := hck2 q hqm
      unfold sm_hrck at hqk
      simp only [Bool.and_eq_true] at hqk
      obtain ⟨⟨⟨⟨⟨⟨q1, q2⟩, q3⟩, q4⟩, q5⟩, q6⟩, q7⟩ := hqk
      rcases e2 q hq with h | h
      · exact Or.inl (by rw [hcov]; exact h)
      · exact Or.inr ⟨Nat.ne_of_gt (sm_ale q2), sm_xn q.2.2.2.1, hts _ (sm_hlk q1 (sm_blt q3)), hSt.2.2.1.2.2.2.2 ex q.2.2.2.1 hex (sm_blt q3) (fun z => h z.symm)⟩
    · have hset : ∀ rls' : Array Slot, lv_has rls' (sm_ml j) ((x.2.2.1, .ref q) :: (sm_lv ρ 0 ls).filter (fun y => !(y.1 == x.2.2.1) && !(y.1 + 1 == x.2.2.1 && y.2.category == 2))) → lv_has rls' (sm_ml j) (sm_lv ρ 0 (sm_set ls x.2.2.1 .null)) := fun rls' h => sm_has_sub h (fun y hy => by
        rcases List.mem_cons.mp (sm_set_mem y hy) with h9 | h9
        · exfalso
          obtain ⟨k9, u9, g7, g9, h8⟩ := (sm_lv_mem _ 0).mp hy
          rw [h9] at h8
          have h7 : x.2.2.1 = 0 + k9 := (Prod.mk.inj h8).1
          rw [Nat.zero_add] at h7
          rw [← h7] at g7
          exact g9 (sm_set_at g7)
        · exact List.mem_cons_of_mem _ h9)
      rw [Bool.or_eq_true] at k7
      rcases k7 with k7 | k7
      · rw [Bool.and_eq_true, decide_eq_true_eq] at k7
        have hd0 := k7.1
        have hln := Nat.eq_of_beq_eq_true k7.2
        rw [hln] at hd0 kk
        exact lv_astore (nL := sm_ml j) hx hb hd0 hl (sm_blt k4) rfl (fun rls' hl' => kk rls' (hset rls' hl'))
      · obtain ⟨i, hi, k8⟩ := List.any_eq_true.mp k7
        simp only [Bool.and_eq_true, decide_eq_true_eq] at k8
        have hie := Nat.eq_of_beq_eq_true k8.1.1
        have hln := Nat.eq_of_beq_eq_true k8.1.2
        have hd0 := k8.2
        rw [hln] at kk
        have hi4 : i < 4 := List.mem_range.mp hi
        exact lv_astore_n (nL := sm_ml j) hx hb hd0 (by show i % 4 = x.2.2.1; omega) hl (sm_blt k4) rfl (fun rls' hl' => kk rls' (hset rls' hl'))
/-- a method that throws nothing itself -/
theorem sm_thr_plain {j : Nat} (hck : (sm_hz j).all (sm_hrck j) = true) (hno : ∀ pc v, sm_T j pc = .new v → Nat.mod v 256 < 40) : sm_Thr l D tc adV Z B j :=
  sm_thr_gen hck (fun p e Rm s m args below meth c ρ0 n0 x0 nf xf r R' G' L' _ _ _ _ _ pc v ex rest n R x G L ls hT h40 => absurd (hno pc v hT) (by omega))
end SMO
