/-! the law's method, out of the small machine's run -/
def st_fl : List Cond := flatC (Jvm.Cond.and given_1 narrow_1)
def strw (t : Term) (bs : List Int32) : List Cond := Cond.exactly t "java/lang/String" :: Cond.eq (.field t "java/lang/String" "coder" "B") (.int 0) :: Cond.arrayOf (.field t "java/lang/String" "value" "[B") .byte :: Cond.eq (.length (.field t "java/lang/String" "value" "[B")) (.int (Int32.ofNat bs.length)) ::
  (List.range bs.length).map (fun j => Cond.eq (.elem (.field t "java/lang/String" "value" "[B") (.int (Int32.ofNat j))) (.int (bs.getD j 0)))
/-- where each text stands: its class, its entry, its number -/
def st_L : List (String × Nat × Nat) := [("StreetDreams", 128, 2), ("StreetDreams$Street", 88, 19), ("StreetDreams$Street", 97, 4), ("StreetDreams$Street", 102, 22), ("StreetDreams$Street", 106, 15), ("StreetDreams$Street", 114, 23), ("StreetDreams$Street", 119, 5), ("StreetDreams$Street", 124, 11), ("StreetDreams", 123, 14), ("StreetDreams$Will", 56, 21), ("StreetDreams$Will", 69, 25), ("StreetDreams$Will", 71, 3), ("StreetDreams$Will", 73, 1), ("StreetDreams$Will", 78, 24), ("StreetDreams$Will", 119, 16), ("StreetDreams$Will", 125, 9), ("StreetDreams$Will", 127, 17), ("StreetDreams$Will", 129, 20), ("StreetDreams$Will", 131, 0), ("StreetDreams$Will", 133, 10), ("StreetDreams$Will", 83, 8), ("StreetDreams$Will", 114, 6), ("StreetDreams$Book", 41, 18), ("StreetDreams$Book", 46, 7), ("StreetDreams", 112, 13), ("StreetDreams", 408, 12)]
set_option maxRecDepth 20000 in
theorem st_seg0 : (st_fl.drop 129).take 33 = strw (.string "StreetDreams" 128) (sm_strs.getD 2 []) := rfl
set_option maxRecDepth 20000 in
theorem st_seg1 : (st_fl.drop 162).take 11 = strw (.string "StreetDreams$Street" 88) (sm_strs.getD 19 []) := rfl
set_option maxRecDepth 20000 in
theorem st_seg2 : (st_fl.drop 173).take 8 = strw (.string "StreetDreams$Street" 97) (sm_strs.getD 4 []) := rfl
set_option maxRecDepth 20000 in
theorem st_seg3 : (st_fl.drop 181).take 9 = strw (.string "StreetDreams$Street" 102) (sm_strs.getD 22 []) := rfl
set_option maxRecDepth 20000 in
theorem st_seg4 : (st_fl.drop 190).take 9 = strw (.string "StreetDreams$Street" 106) (sm_strs.getD 15 []) := rfl
set_option maxRecDepth 20000 in
theorem st_seg5 : (st_fl.drop 199).take 8 = strw (.string "StreetDreams$Street" 114) (sm_strs.getD 23 []) := rfl
set_option maxRecDepth 20000 in
theorem st_seg6 : (st_fl.drop 207).take 11 = strw (.string "StreetDreams$Street" 119) (sm_strs.getD 5 []) := rfl
set_option maxRecDepth 20000 in
theorem st_seg7 : (st_fl.drop 218).take 8 = strw (.string "StreetDreams$Street" 124) (sm_strs.getD 11 []) := rfl
set_option maxRecDepth 20000 in
theorem st_seg8 : (st_fl.drop 226).take 36 = strw (.string "StreetDreams" 123) (sm_strs.getD 14 []) := rfl
set_option maxRecDepth 20000 in
theorem st_seg9 : (st_fl.drop 262).take 6 = strw (.string "StreetDreams$Will" 56) (sm_strs.getD 21 []) := rfl
set_option maxRecDepth 20000 in
theorem st_seg10 : (st_fl.drop 268).take 8 = strw (.string "StreetDreams$Will" 69) (sm_strs.getD 25 []) := rfl
set_option maxRecDepth 20000 in
theorem st_seg11 : (st_fl.drop 276).take 8 = strw (.string "StreetDreams$Will" 71) (sm_strs.getD 3 []) := rfl
set_option maxRecDepth 20000 in
theorem st_seg12 : (st_fl.drop 284).take 9 = strw (.string "StreetDreams$Will" 73) (sm_strs.getD 1 []) := rfl
set_option maxRecDepth 20000 in
theorem st_seg13 : (st_fl.drop 293).take 9 = strw (.string "StreetDreams$Will" 78) (sm_strs.getD 24 []) := rfl
set_option maxRecDepth 20000 in
theorem st_seg14 : (st_fl.drop 302).take 7 = strw (.string "StreetDreams$Will" 119) (sm_strs.getD 16 []) := rfl
set_option maxRecDepth 20000 in
theorem st_seg15 : (st_fl.drop 309).take 6 = strw (.string "StreetDreams$Will" 125) (sm_strs.getD 9 []) := rfl
set_option maxRecDepth 20000 in
theorem st_seg16 : (st_fl.drop 315).take 8 = strw (.string "StreetDreams$Will" 127) (sm_strs.getD 17 []) := rfl
set_option maxRecDepth 20000 in
theorem st_seg17 : (st_fl.drop 323).take 9 = strw (.string "StreetDreams$Will" 129) (sm_strs.getD 20 []) := rfl
set_option maxRecDepth 20000 in
theorem st_seg18 : (st_fl.drop 332).take 9 = strw (.string "StreetDreams$Will" 131) (sm_strs.getD 0 []) := rfl
set_option maxRecDepth 20000 in
theorem st_seg19 : (st_fl.drop 341).take 7 = strw (.string "StreetDreams$Will" 133) (sm_strs.getD 10 []) := rfl
set_option maxRecDepth 20000 in
theorem st_seg20 : (st_fl.drop 348).take 6 = strw (.string "StreetDreams$Will" 83) (sm_strs.getD 8 []) := rfl
set_option maxRecDepth 20000 in
theorem st_seg21 : (st_fl.drop 354).take 8 = strw (.string "StreetDreams$Will" 114) (sm_strs.getD 6 []) := rfl
set_option maxRecDepth 20000 in
theorem st_seg22 : (st_fl.drop 362).take 8 = strw (.string "StreetDreams$Book" 41) (sm_strs.getD 18 []) := rfl
set_option maxRecDepth 20000 in
theorem st_seg23 : (st_fl.drop 370).take 8 = strw (.string "StreetDreams$Book" 46) (sm_strs.getD 7 []) := rfl
set_option maxRecDepth 20000 in
theorem st_seg24 : (st_fl.drop 378).take 16 = strw (.string "StreetDreams" 112) (sm_strs.getD 13 []) := rfl
set_option maxRecDepth 20000 in
theorem st_seg25 : (st_fl.drop 394).take 26 = strw (.string "StreetDreams" 408) (sm_strs.getD 12 []) := rfl
theorem st_mem {q : String × Nat × Nat} (h : q ∈ st_L) : ∀ w ∈ strw (.string q.1 q.2.1) (sm_strs.getD q.2.2 []), w ∈ st_fl := by
  unfold st_L at h
  simp only [List.mem_cons, List.not_mem_nil, or_false] at h
  rcases h with rfl | rfl | rfl | rfl | rfl | rfl | rfl | rfl | rfl | rfl | rfl | rfl | rfl | rfl | rfl | rfl | rfl | rfl | rfl | rfl | rfl | rfl | rfl | rfl | rfl | rfl
  · intro w hw
    have hw : w ∈ (st_fl.drop 129).take 33 := by rw [st_seg0]; exact hw
    exact List.mem_of_mem_drop (List.mem_of_mem_take hw)
  · intro w hw
    have hw : w ∈ (st_fl.drop 162).take 11 := by rw [st_seg1]; exact hw
    exact List.mem_of_mem_drop (List.mem_of_mem_take hw)
  · intro w hw
    have hw : w ∈ (st_fl.drop 173).take 8 := by rw [st_seg2]; exact hw
    exact List.mem_of_mem_drop (List.mem_of_mem_take hw)
  · intro w hw
    have hw : w ∈ (st_fl.drop 181).take 9 := by rw [st_seg3]; exact hw
    exact List.mem_of_mem_drop (List.mem_of_mem_take hw)
  · intro w hw
    have hw : w ∈ (st_fl.drop 190).take 9 := by rw [st_seg4]; exact hw
    exact List.mem_of_mem_drop (List.mem_of_mem_take hw)
  · intro w hw
    have hw : w ∈ (st_fl.drop 199).take 8 := by rw [st_seg5]; exact hw
    exact List.mem_of_mem_drop (List.mem_of_mem_take hw)
  · intro w hw
    have hw : w ∈ (st_fl.drop 207).take 11 := by rw [st_seg6]; exact hw
    exact List.mem_of_mem_drop (List.mem_of_mem_take hw)
  · intro w hw
    have hw : w ∈ (st_fl.drop 218).take 8 := by rw [st_seg7]; exact hw
    exact List.mem_of_mem_drop (List.mem_of_mem_take hw)
  · intro w hw
    have hw : w ∈ (st_fl.drop 226).take 36 := by rw [st_seg8]; exact hw
    exact List.mem_of_mem_drop (List.mem_of_mem_take hw)
  · intro w hw
    have hw : w ∈ (st_fl.drop 262).take 6 := by rw [st_seg9]; exact hw
    exact List.mem_of_mem_drop (List.mem_of_mem_take hw)
  · intro w hw
    have hw : w ∈ (st_fl.drop 268).take 8 := by rw [st_seg10]; exact hw
    exact List.mem_of_mem_drop (List.mem_of_mem_take hw)
  · intro w hw
    have hw : w ∈ (st_fl.drop 276).take 8 := by rw [st_seg11]; exact hw
    exact List.mem_of_mem_drop (List.mem_of_mem_take hw)
  · intro w hw
    have hw : w ∈ (st_fl.drop 284).take 9 := by rw [st_seg12]; exact hw
    exact List.mem_of_mem_drop (List.mem_of_mem_take hw)
  · intro w hw
    have hw : w ∈ (st_fl.drop 293).take 9 := by rw [st_seg13]; exact hw
    exact List.mem_of_mem_drop (List.mem_of_mem_take hw)
  · intro w hw
    have hw : w ∈ (st_fl.drop 302).take 7 := by rw [st_seg14]; exact hw
    exact List.mem_of_mem_drop (List.mem_of_mem_take hw)
  · intro w hw
    have hw : w ∈ (st_fl.drop 309).take 6 := by rw [st_seg15]; exact hw
    exact List.mem_of_mem_drop (List.mem_of_mem_take hw)
  · intro w hw
    have hw : w ∈ (st_fl.drop 315).take 8 := by rw [st_seg16]; exact hw
    exact List.mem_of_mem_drop (List.mem_of_mem_take hw)
  · intro w hw
    have hw : w ∈ (st_fl.drop 323).take 9 := by rw [st_seg17]; exact hw
    exact List.mem_of_mem_drop (List.mem_of_mem_take hw)
  · intro w hw
    have hw : w ∈ (st_fl.drop 332).take 9 := by rw [st_seg18]; exact hw
    exact List.mem_of_mem_drop (List.mem_of_mem_take hw)
  · intro w hw
    have hw : w ∈ (st_fl.drop 341).take 7 := by rw [st_seg19]; exact hw
    exact List.mem_of_mem_drop (List.mem_of_mem_take hw)
  · intro w hw
    have hw : w ∈ (st_fl.drop 348).take 6 := by rw [st_seg20]; exact hw
    exact List.mem_of_mem_drop (List.mem_of_mem_take hw)
  · intro w hw
    have hw : w ∈ (st_fl.drop 354).take 8 := by rw [st_seg21]; exact hw
    exact List.mem_of_mem_drop (List.mem_of_mem_take hw)
  · intro w hw
    have hw : w ∈ (st_fl.drop 362).take 8 := by rw [st_seg22]; exact hw
    exact List.mem_of_mem_drop (List.mem_of_mem_take hw)
  · intro w hw
    have hw : w ∈ (st_fl.drop 370).take 8 := by rw [st_seg23]; exact hw
    exact List.mem_of_mem_drop (List.mem_of_mem_take hw)
  · intro w hw
    have hw : w ∈ (st_fl.drop 378).take 16 := by rw [st_seg24]; exact hw
    exact List.mem_of_mem_drop (List.mem_of_mem_take hw)
  · intro w hw
    have hw : w ∈ (st_fl.drop 394).take 26 := by rw [st_seg25]; exact hw
    exact List.mem_of_mem_drop (List.mem_of_mem_take hw)
theorem st_all : (List.range 26).all (fun i => st_L.any (fun q => Nat.beq q.2.2 i)) = true := by decide +kernel
theorem st_refs : lw_tbl.all (fun w => match w with
  | .stringRef o k t => st_L.any (fun q => decide (q.1 = o) && Nat.beq q.2.1 k && decide (sm_txts.getD q.2.2 "" = t))
  | _ => true) = true := by decide +kernel
theorem st_inj : (List.range 26).all (fun i => (List.range 26).all (fun j => Nat.beq i j || !decide (sm_txts.getD i "" = sm_txts.getD j ""))) = true := by decide +kernel
theorem st_L26 : st_L.all (fun q => Nat.blt q.2.2 26) = true := by decide +kernel
theorem st_len : sm_strs.length = 26 := by decide +kernel
theorem st_u : ∀ q ∈ st_L, ∀ r ∈ st_L, q.2.2 = r.2.2 → q = r := by decide +kernel
section LAW
variable {l : Launch} {s : State} {args : Array Value} {A : Nat → Prop}
theorem st_one (hg : ∀ w ∈ st_fl, w.before args s = true) (hA : ∀ a : Nat, a < s.heap.size → ¬ A a) {i : Nat} (hi : i < 26) : ∃ x : Nat × Nat, vk_S 1 [(sm_strs.getD i []).length] [sm_strs.getD i []] (fun _ => x.1) (fun _ => x.2) A s s.heap ∧ ∀ q ∈ st_L, q.2.2 = i → (Term.string q.1 q.2.1).eval args s none [] s = some (.ref x.1) := by
  have h1 := List.all_eq_true.mp st_all i (List.mem_range.mpr hi)
  obtain ⟨q, hq, hqi⟩ := List.any_eq_true.mp h1
  have hqi := Nat.eq_of_beq_eq_true hqi
  have hw := fun w h => hg w (st_mem hq w h)
  rw [hqi] at hw
  have hlen : (sm_strs.getD i []).length < 1000 := (st_s2 (by rw [st_len]; exact hi)).1
  obtain ⟨adK, adV, h2, h3⟩ := vk_Sof (N := 1) (tm := fun _ => Term.string q.1 q.2.1) (len := [(sm_strs.getD i []).length]) (byt := [sm_strs.getD i []]) (A := A) (s := s) (args := args)
    (fun k hk => by
      have : k = 0 := by omega
      subst this
      show (sm_strs.getD i []).length < 2 ^ 31
      omega)
    (fun k hk => hw _ List.mem_cons_self) (fun k hk => hw _ (List.mem_cons_of_mem _ List.mem_cons_self)) (fun k hk => hw _ (List.mem_cons_of_mem _ (List.mem_cons_of_mem _ List.mem_cons_self)))
    (fun k hk => by
      have : k = 0 := by omega
      subst this
      exact hw _ (List.mem_cons_of_mem _ (List.mem_cons_of_mem _ (List.mem_cons_of_mem _ List.mem_cons_self))))
    (fun k hk j hj => by
      have : k = 0 := by omega
      subst this
      exact hw _ (List.mem_cons_of_mem _ (List.mem_cons_of_mem _ (List.mem_cons_of_mem _ (List.mem_cons_of_mem _ (List.mem_map.mpr ⟨j, List.mem_range.mpr hj, rfl⟩))))))
    (fun a b ha hb hab => absurd (show a = b by omega) hab) hA
  refine ⟨(adK 0, adV 0), ⟨fun k hk => ?_, fun a b ha hb _ => by omega⟩, fun q2 hq2 e => ?_⟩
  · have : k = 0 := by omega
    subst this
    exact h2.1 0 hk
  · have e2 : q2 = q := st_u q2 hq2 q hq (by rw [e, hqi])
    rw [e2]
    exact h3 0 (by decide)
theorem st_kn (hts : ∀ w ∈ lw_tbl, w.before args s = true) : ∃ D : va_G, ∀ (c : Nat) (q : vw_C), vwCl[c]? = some q → u_Kn s q.1 q.2.1 q.2.2 (D.1 c) (D.2 c) := by
  have h : ∀ c : Nat, ∃ x : ClassId × (Nat → Nat), ∀ q : vw_C, vwCl[c]? = some q → u_Kn s q.1 q.2.1 q.2.2 x.1 x.2 := by
    intro c
    match c with
    | 0 =>
      obtain ⟨a, b, h⟩ := u_known (C := RX0) (T := TX0) (N := 3) (n := 3) hts (fun w hw => (sm_gX0 w hw).1) (hts _ (List.mem_append_right _ (List.mem_of_getElem? (i := 435) (by decide +kernel))))
      exact ⟨(a, b), fun q hq => by cases hq; exact h⟩
    | 1 =>
      obtain ⟨a, b, h⟩ := u_known (C := RX1) (T := TX1) (N := 6) (n := 6) hts (fun w hw => (sm_gX1 w hw).1) (hts _ (List.mem_append_right _ (List.mem_of_getElem? (i := 176) (by decide +kernel))))
      exact ⟨(a, b), fun q hq => by cases hq; exact h⟩
    | 2 =>
      obtain ⟨a, b, h⟩ := u_known (C := RX2) (T := TX2) (N := 8) (n := 8) hts (fun w hw => (sm_gX2 w hw).1) (hts _ (List.mem_append_right _ (List.mem_of_getElem? (i := 217) (by decide +kernel))))
      exact ⟨(a, b), fun q hq => by cases hq; exact h⟩
    | 3 =>
      obtain ⟨a, b, h⟩ := u_known (C := RX3) (T := TX3) (N := 11) (n := 11) hts (fun w hw => (sm_gX3 w hw).1) (hts _ (List.mem_append_right _ (List.mem_of_getElem? (i := 119) (by decide +kernel))))
      exact ⟨(a, b), fun q hq => by cases hq; exact h⟩
    | 4 =>
      obtain ⟨a, b, h⟩ := u_known (C := RX4) (T := TX4) (N := 4) (n := 4) hts (fun w hw => (sm_gX4 w hw).1) (hts _ (List.mem_append_right _ (List.mem_of_getElem? (i := 308) (by decide +kernel))))
      exact ⟨(a, b), fun q hq => by cases hq; exact h⟩
    | 5 =>
      obtain ⟨a, b, h⟩ := u_known (C := RX5) (T := TX5) (N := 15) (n := 15) hts (fun w hw => (sm_gX5 w hw).1) (hts _ (List.mem_append_right _ (List.mem_of_getElem? (i := 350) (by decide +kernel))))
      exact ⟨(a, b), fun q hq => by cases hq; exact h⟩
    | 6 =>
      obtain ⟨a, b, h⟩ := u_known (C := RX6) (T := TX6) (N := 9) (n := 9) hts (fun w hw => (sm_gX6 w hw).1) (hts _ (List.mem_append_right _ (List.mem_of_getElem? (i := 40) (by decide +kernel))))
      exact ⟨(a, b), fun q hq => by cases hq; exact h⟩
    | 7 =>
      obtain ⟨a, b, h⟩ := u_known (C := RX7) (T := TX7) (N := 11) (n := 11) hts (fun w hw => (sm_gX7 w hw).1) (hts _ (List.mem_append_right _ (List.mem_of_getElem? (i := 224) (by decide +kernel))))
      exact ⟨(a, b), fun q hq => by cases hq; exact h⟩
    | 8 =>
      obtain ⟨a, b, h⟩ := u_known (C := RX8) (T := TX8) (N := 4) (n := 4) hts (fun w hw => (sm_gX8 w hw).1) (hts _ (List.mem_append_right _ (List.mem_of_getElem? (i := 329) (by decide +kernel))))
      exact ⟨(a, b), fun q hq => by cases hq; exact h⟩
    | 9 =>
      obtain ⟨a, b, h⟩ := u_known (C := RX9) (T := TX9) (N := 1) (n := 1) hts (fun w hw => (sm_gX9 w hw).1) (hts _ (List.mem_append_right _ (List.mem_of_getElem? (i := 207) (by decide +kernel))))
      exact ⟨(a, b), fun q hq => by cases hq; exact h⟩
    | 10 =>
      obtain ⟨a, b, h⟩ := u_known (C := RX10) (T := TX10) (N := 8) (n := 8) hts (fun w hw => (sm_gX10 w hw).1) (hts _ (List.mem_append_right _ (List.mem_of_getElem? (i := 80) (by decide +kernel))))
      exact ⟨(a, b), fun q hq => by cases hq; exact h⟩
    | 11 =>
      obtain ⟨a, b, h⟩ := u_known (C := RX11) (T := TX11) (N := 19) (n := 19) hts (fun w hw => (sm_gX11 w hw).1) (hts _ (List.mem_append_right _ (List.mem_of_getElem? (i := 32) (by decide +kernel))))
      exact ⟨(a, b), fun q hq => by cases hq; exact h⟩
    | 12 =>
      obtain ⟨a, b, h⟩ := u_known (C := RX12) (T := TX12) (N := 67) (n := 67) hts (fun w hw => (sm_gX12 w hw).1) (hts _ (List.mem_append_right _ (List.mem_of_getElem? (i := 1565) (by decide +kernel))))
      exact ⟨(a, b), fun q hq => by cases hq; exact h⟩
    | c + 13 => exact ⟨(0, fun _ => 0), fun q hq => by cases hq⟩
  obtain ⟨f, hf⟩ := Classical.axiomOfChoice h
  exact ⟨(fun c => (f c).1, fun c => (f c).2), hf⟩
end LAW
