/-! what is known of the cells, by the program wip/gen/gen4.py -/
def pS (r : Nat) : Prop := r = 109 ∨ r = 127
theorem pS_all {r : Nat} (h : pS r) {P : Nat → Prop} (h109 : P 109) (h127 : P 127) : P r := by
  rcases h with rfl | rfl <;> assumption
def pP (r : Nat) : Prop := r = 27 ∨ r = 36 ∨ r = 45 ∨ r = 110 ∨ r = 128
theorem pP_all {r : Nat} (h : pP r) {P : Nat → Prop} (h27 : P 27) (h36 : P 36) (h45 : P 45) (h110 : P 110) (h128 : P 128) : P r := by
  rcases h with rfl | rfl | rfl | rfl | rfl <;> assumption
def pW (r : Nat) : Prop := r = 6 ∨ r = 11 ∨ r = 16 ∨ r = 21 ∨ r = 145
theorem pW_all {r : Nat} (h : pW r) {P : Nat → Prop} (h6 : P 6) (h11 : P 11) (h16 : P 16) (h21 : P 21) (h145 : P 145) : P r := by
  rcases h with rfl | rfl | rfl | rfl | rfl <;> assumption
def pB (r : Nat) : Prop := r = 150 ∨ r = 153
theorem pB_all {r : Nat} (h : pB r) {P : Nat → Prop} (h150 : P 150) (h153 : P 153) : P r := by
  rcases h with rfl | rfl <;> assumption
def pK (r : Nat) : Prop := r = 68 ∨ r = 72 ∨ r = 76 ∨ r = 80 ∨ r = 70 ∨ r = 74 ∨ r = 78 ∨ r = 82 ∨ r = 89 ∨ r = 93 ∨ r = 97 ∨ r = 101 ∨ r = 91 ∨ r = 95 ∨ r = 99 ∨ r = 103
theorem pK_all {r : Nat} (h : pK r) {P : Nat → Prop} (h68 : P 68) (h72 : P 72) (h76 : P 76) (h80 : P 80) (h70 : P 70) (h74 : P 74) (h78 : P 78) (h82 : P 82) (h89 : P 89) (h93 : P 93) (h97 : P 97) (h101 : P 101) (h91 : P 91) (h95 : P 95) (h99 : P 99) (h103 : P 103) : P r := by
  rcases h with rfl | rfl | rfl | rfl | rfl | rfl | rfl | rfl | rfl | rfl | rfl | rfl | rfl | rfl | rfl | rfl <;> assumption
def pN (r : Nat) : Prop := r = 63 ∨ r = 84
theorem pN_all {r : Nat} (h : pN r) {P : Nat → Prop} (h63 : P 63) (h84 : P 84) : P r := by
  rcases h with rfl | rfl <;> assumption
/-- which objects may stand where -/
def okV (V : pV) : Prop := pS V.1 ∧ pS V.2.1 ∧ pW V.2.2.1 ∧ pB V.2.2.2.1 ∧ pB V.2.2.2.2.1 ∧ ∀ i, i < 4 → pW (V.2.2.2.2.2 i)
theorem hV1 {V : pV} (h : okV V) : pS V.1 := h.1
theorem RR_q {V : pV} {r k : Nat} (h1 : Nat.beq r 1 = false) (h5 : Nat.beq r 5 = false) : RR V r k = pR0 r k := by
  unfold RR
  rw [h1, h5]
  rfl
theorem RR_1 {V : pV} {k c : Nat} (h1 : Nat.beq k 10 = false) (h2 : Nat.beq k 11 = false) (h3 : Nat.beq k 12 = false) (h4 : Nat.beq k 13 = false) (h5 : Nat.beq k 14 = false) (h : pR0 1 k = c) : RR V 1 k = c := by
  unfold RR
  rw [h1, h2, h3, h4, h5]
  exact h
theorem aln_e {β : Type} {r N : Nat} {G : sm_G} {f : Int32 → Option β} (h1 : (Nat.ble 20 (sm_K r) && Nat.ble (sm_K r) 27 && Nat.ble r 342) = true) (h2 : sm_N r = N) : aln r G f = f (i3 N) := by
  unfold aln
  rw [h1, h2]
  rfl
theorem q_1_10 (V : pV) : RR V 1 10 = V.1 := rfl
theorem q_1_11 (V : pV) : RR V 1 11 = V.2.1 := rfl
theorem q_1_12 (V : pV) : RR V 1 12 = V.2.2.1 := rfl
theorem q_1_13 (V : pV) : RR V 1 13 = V.2.2.2.1 := rfl
theorem q_1_14 (V : pV) : RR V 1 14 = V.2.2.2.2.1 := rfl
theorem ldi_e {β : Type} {r N : Nat} {i : Int32} {G : sm_G} {f : Int32 → Option β} (h1 : sm_is r 342 20 = true) (h2 : sm_N r = N) : ldi r i G f = gd (sm_in i N) (f (G r i.toNatClampNeg)) := by
  unfold ldi
  rw [h1, h2]
  rfl
theorem bst21_e {β : Type} {r N : Nat} {i v : Int32} {G : sm_G} {f : sm_G → Option β} (h1 : sm_is r 342 21 = true) (h2 : sm_N r = N) : bst r i v G f = gd (sm_in i N) (f (sm_up G r i.toNatClampNeg (i2b v))) := by
  unfold bst
  rw [h1, h2]
  rfl
theorem bst22_e {β : Type} {r N : Nat} {i v : Int32} {G : sm_G} {f : sm_G → Option β} (h1 : sm_is r 342 22 = true) (h2 : sm_N r = N) : bst r i v G f = gd (sm_in i N) (zd v (f (sm_up G r i.toNatClampNeg v))) := by
  unfold bst
  have h3 : sm_is r 342 21 = false := by
    unfold sm_is at h1 ⊢
    rw [Bool.and_eq_true] at h1
    rw [Nat.eq_of_beq_eq_true h1.1]
    rfl
  rw [h3, h1, h2]
  rfl
theorem zd_0 {β : Type} {o : Option β} : zd (i3 0) o = o := rfl
theorem zd_1 {β : Type} {o : Option β} : zd (i3 1) o = o := rfl
theorem a_165 : (Nat.ble 24 (sm_K 165) && Nat.ble (sm_K 165) 27 && Nat.ble 165 342) = true := by decide +kernel
theorem a_174 : (Nat.ble 24 (sm_K 174) && Nat.ble (sm_K 174) 27 && Nat.ble 174 342) = true := by decide +kernel
theorem a_183 : (Nat.ble 24 (sm_K 183) && Nat.ble (sm_K 183) 27 && Nat.ble 183 342) = true := by decide +kernel
theorem a_194 : (Nat.ble 24 (sm_K 194) && Nat.ble (sm_K 194) 27 && Nat.ble 194 342) = true := by decide +kernel
theorem a_205 : (Nat.ble 24 (sm_K 205) && Nat.ble (sm_K 205) 27 && Nat.ble 205 342) = true := by decide +kernel
theorem a_218 : (Nat.ble 24 (sm_K 218) && Nat.ble (sm_K 218) 27 && Nat.ble 218 342) = true := by decide +kernel
theorem a_231 : (Nat.ble 24 (sm_K 231) && Nat.ble (sm_K 231) 27 && Nat.ble 231 342) = true := by decide +kernel
theorem a_236 : (Nat.ble 24 (sm_K 236) && Nat.ble (sm_K 236) 27 && Nat.ble 236 342) = true := by decide +kernel
theorem a_242 : (Nat.ble 24 (sm_K 242) && Nat.ble (sm_K 242) 27 && Nat.ble 242 342) = true := by decide +kernel
theorem a_247 : (Nat.ble 24 (sm_K 247) && Nat.ble (sm_K 247) 27 && Nat.ble 247 342) = true := by decide +kernel
theorem a_252 : (Nat.ble 24 (sm_K 252) && Nat.ble (sm_K 252) 27 && Nat.ble 252 342) = true := by decide +kernel
theorem a_26 : (Nat.ble 24 (sm_K 26) && Nat.ble (sm_K 26) 27 && Nat.ble 26 342) = true := by decide +kernel
theorem a_265 : (Nat.ble 24 (sm_K 265) && Nat.ble (sm_K 265) 27 && Nat.ble 265 342) = true := by decide +kernel
theorem a_278 : (Nat.ble 24 (sm_K 278) && Nat.ble (sm_K 278) 27 && Nat.ble 278 342) = true := by decide +kernel
theorem a_282 : (Nat.ble 24 (sm_K 282) && Nat.ble (sm_K 282) 27 && Nat.ble 282 342) = true := by decide +kernel
theorem a_309 : (Nat.ble 24 (sm_K 309) && Nat.ble (sm_K 309) 27 && Nat.ble 309 342) = true := by decide +kernel
theorem a_314 : (Nat.ble 24 (sm_K 314) && Nat.ble (sm_K 314) 27 && Nat.ble 314 342) = true := by decide +kernel
theorem a_319 : (Nat.ble 24 (sm_K 319) && Nat.ble (sm_K 319) 27 && Nat.ble 319 342) = true := by decide +kernel
theorem a_332 : (Nat.ble 24 (sm_K 332) && Nat.ble (sm_K 332) 27 && Nat.ble 332 342) = true := by decide +kernel
theorem a_5 : (Nat.ble 24 (sm_K 5) && Nat.ble (sm_K 5) 27 && Nat.ble 5 342) = true := by decide +kernel
theorem aN_1 {r : Nat} (h : pN r) : (Nat.ble 24 (sm_K (r + 1)) && Nat.ble (sm_K (r + 1)) 27 && Nat.ble (r + 1) 342) = true := pN_all h (P := fun r => (Nat.ble 24 (sm_K (r + 1)) && Nat.ble (sm_K (r + 1)) 27 && Nat.ble (r + 1) 342) = true) rfl rfl
theorem aN_2 {r : Nat} (h : pN r) : (Nat.ble 24 (sm_K (r + 2)) && Nat.ble (sm_K (r + 2)) 27 && Nat.ble (r + 2) 342) = true := pN_all h (P := fun r => (Nat.ble 24 (sm_K (r + 2)) && Nat.ble (sm_K (r + 2)) 27 && Nat.ble (r + 2) 342) = true) rfl rfl
theorem b_54 : Nat.ble 1 54 = true := by decide +kernel
theorem b_63 : Nat.ble 1 63 = true := by decide +kernel
theorem cl_0 : (i3 0).toNatClampNeg = 0 := by decide +kernel
theorem cl_1 : (i3 1).toNatClampNeg = 1 := by decide +kernel
theorem cl_2 : (i3 2).toNatClampNeg = 2 := by decide +kernel
theorem cl_3 : (i3 3).toNatClampNeg = 3 := by decide +kernel
theorem cl_300 : (i3 300).toNatClampNeg = 300 := by decide +kernel
theorem cl_4 : (i3 4).toNatClampNeg = 4 := by decide +kernel
theorem cl_5 : (i3 5).toNatClampNeg = 5 := by decide +kernel
theorem fB_0_0 {r : Nat} (V : pV) (h : pB r) : RR V r 0 = r + 1 := pB_all h (P := fun r => RR V r 0 = r + 1) rfl rfl
theorem fB_0_1 {r : Nat} (V : pV) (h : pB r) : RR V r 1 = r + 2 := pB_all h (P := fun r => RR V r 1 = r + 2) rfl rfl
theorem fK_0_0 {r : Nat} (V : pV) (h : pK r) : RR V r 0 = r + 1 := pK_all h (P := fun r => RR V r 0 = r + 1) rfl rfl rfl rfl rfl rfl rfl rfl rfl rfl rfl rfl rfl rfl rfl rfl
theorem fN_0_0 {r : Nat} (V : pV) (h : pN r) : RR V r 0 = r + 1 := pN_all h (P := fun r => RR V r 0 = r + 1) rfl rfl
theorem fN_0_1 {r : Nat} (V : pV) (h : pN r) : RR V r 1 = r + 2 := pN_all h (P := fun r => RR V r 1 = r + 2) rfl rfl
theorem fN_0_2 {r : Nat} (V : pV) (h : pN r) : RR V r 2 = r + 3 := pN_all h (P := fun r => RR V r 2 = r + 3) rfl rfl
theorem fN_0_3 {r : Nat} (V : pV) (h : pN r) : RR V r 3 = r + 4 := pN_all h (P := fun r => RR V r 3 = r + 4) rfl rfl
theorem fP_0_0 {r : Nat} (V : pV) (h : pP r) : RR V r 0 = r + 1 := pP_all h (P := fun r => RR V r 0 = r + 1) rfl rfl rfl rfl rfl
theorem fP_0_1 {r : Nat} (V : pV) (h : pP r) : RR V r 1 = r + 2 := pP_all h (P := fun r => RR V r 1 = r + 2) rfl rfl rfl rfl rfl
theorem fP_0_2 {r : Nat} (V : pV) (h : pP r) : RR V r 2 = r + 3 := pP_all h (P := fun r => RR V r 2 = r + 3) rfl rfl rfl rfl rfl
theorem fP_0_3 {r : Nat} (V : pV) (h : pP r) : RR V r 3 = r + 4 := pP_all h (P := fun r => RR V r 3 = r + 4) rfl rfl rfl rfl rfl
theorem fP_0_4 {r : Nat} (V : pV) (h : pP r) : RR V r 4 = r + 5 := pP_all h (P := fun r => RR V r 4 = r + 5) rfl rfl rfl rfl rfl
theorem fP_0_5 {r : Nat} (V : pV) (h : pP r) : RR V r 5 = r + 6 := pP_all h (P := fun r => RR V r 5 = r + 6) rfl rfl rfl rfl rfl
theorem fP_0_6 {r : Nat} (V : pV) (h : pP r) : RR V r 6 = r + 7 := pP_all h (P := fun r => RR V r 6 = r + 7) rfl rfl rfl rfl rfl
theorem fP_0_7 {r : Nat} (V : pV) (h : pP r) : RR V r 7 = r + 8 := pP_all h (P := fun r => RR V r 7 = r + 8) rfl rfl rfl rfl rfl
theorem fS_0_0 {r : Nat} (V : pV) (h : pS r) : RR V r 0 = r + 1 := pS_all h (P := fun r => RR V r 0 = r + 1) rfl rfl
theorem fS_0_1 {r : Nat} (V : pV) (h : pS r) : RR V r 1 = r + 10 := pS_all h (P := fun r => RR V r 1 = r + 10) rfl rfl
theorem fS_0_2 {r : Nat} (V : pV) (h : pS r) : RR V r 2 = r + 11 := pS_all h (P := fun r => RR V r 2 = r + 11) rfl rfl
theorem fS_0_3 {r : Nat} (V : pV) (h : pS r) : RR V r 3 = r + 12 := pS_all h (P := fun r => RR V r 3 = r + 12) rfl rfl
theorem fS_0_4 {r : Nat} (V : pV) (h : pS r) : RR V r 4 = r + 13 := pS_all h (P := fun r => RR V r 4 = r + 13) rfl rfl
theorem fS_0_5 {r : Nat} (V : pV) (h : pS r) : RR V r 5 = r + 14 := pS_all h (P := fun r => RR V r 5 = r + 14) rfl rfl
theorem fS_0_6 {r : Nat} (V : pV) (h : pS r) : RR V r 6 = r + 15 := pS_all h (P := fun r => RR V r 6 = r + 15) rfl rfl
theorem fS_0_7 {r : Nat} (V : pV) (h : pS r) : RR V r 7 = r + 16 := pS_all h (P := fun r => RR V r 7 = r + 16) rfl rfl
theorem fS_0_8 {r : Nat} (V : pV) (h : pS r) : RR V r 8 = r + 17 := pS_all h (P := fun r => RR V r 8 = r + 17) rfl rfl
theorem fS_1_0 {r : Nat} (V : pV) (h : pS r) : RR V (r + 1) 0 = r + 2 := pS_all h (P := fun r => RR V (r + 1) 0 = r + 2) rfl rfl
theorem fS_1_1 {r : Nat} (V : pV) (h : pS r) : RR V (r + 1) 1 = r + 3 := pS_all h (P := fun r => RR V (r + 1) 1 = r + 3) rfl rfl
theorem fS_1_2 {r : Nat} (V : pV) (h : pS r) : RR V (r + 1) 2 = r + 4 := pS_all h (P := fun r => RR V (r + 1) 2 = r + 4) rfl rfl
theorem fS_1_3 {r : Nat} (V : pV) (h : pS r) : RR V (r + 1) 3 = r + 5 := pS_all h (P := fun r => RR V (r + 1) 3 = r + 5) rfl rfl
theorem fW_0_0 {r : Nat} (V : pV) (h : pW r) : RR V r 0 = r + 1 := pW_all h (P := fun r => RR V r 0 = r + 1) rfl rfl rfl rfl rfl
theorem fW_0_1 {r : Nat} (V : pV) (h : pW r) : RR V r 1 = r + 2 := pW_all h (P := fun r => RR V r 1 = r + 2) rfl rfl rfl rfl rfl
theorem fW_0_2 {r : Nat} (V : pV) (h : pW r) : RR V r 2 = r + 3 := pW_all h (P := fun r => RR V r 2 = r + 3) rfl rfl rfl rfl rfl
theorem fW_0_3 {r : Nat} (V : pV) (h : pW r) : RR V r 3 = r + 4 := pW_all h (P := fun r => RR V r 3 = r + 4) rfl rfl rfl rfl rfl
theorem inl_0_4 : sm_in (i3 0) 4 = true := by decide +kernel
theorem inl_0_6 : sm_in (i3 0) 6 = true := by decide +kernel
theorem inl_0_64 : sm_in (i3 0) 64 = true := by decide +kernel
theorem inl_1_4 : sm_in (i3 1) 4 = true := by decide +kernel
theorem inl_1_6 : sm_in (i3 1) 6 = true := by decide +kernel
theorem inl_2_4 : sm_in (i3 2) 4 = true := by decide +kernel
theorem inl_2_6 : sm_in (i3 2) 6 = true := by decide +kernel
theorem inl_300_301 : sm_in (i3 300) 301 = true := by decide +kernel
theorem inl_3_4 : sm_in (i3 3) 4 = true := by decide +kernel
theorem inl_3_6 : sm_in (i3 3) 6 = true := by decide +kernel
theorem inl_4_6 : sm_in (i3 4) 6 = true := by decide +kernel
theorem inl_5_6 : sm_in (i3 5) 6 = true := by decide +kernel
theorem k_1 : sm_is 1 342 11 = true := by decide +kernel
theorem k_105 : sm_is 105 342 4 = true := by decide +kernel
theorem k_106 : sm_is 106 342 20 = true := by decide +kernel
theorem k_107 : sm_is 107 342 20 = true := by decide +kernel
theorem k_108 : sm_is 108 342 8 = true := by decide +kernel
theorem k_156 : sm_is 156 342 12 = true := by decide +kernel
theorem k_157 : sm_is 157 342 20 = true := by decide +kernel
theorem k_158 : sm_is 158 342 20 = true := by decide +kernel
theorem k_159 : sm_is 159 342 20 = true := by decide +kernel
theorem k_160 : sm_is 160 342 20 = true := by decide +kernel
theorem k_161 : sm_is 161 342 20 = true := by decide +kernel
theorem k_162 : sm_is 162 342 20 = true := by decide +kernel
theorem k_163 : sm_is 163 342 20 = true := by decide +kernel
theorem k_164 : sm_is 164 342 20 = true := by decide +kernel
theorem k_2 : sm_is 2 342 6 = true := by decide +kernel
theorem k_241 : sm_is 241 342 20 = true := by decide +kernel
theorem k_3 : sm_is 3 342 21 = true := by decide +kernel
theorem k_303 : sm_is 303 342 20 = true := by decide +kernel
theorem k_304 : sm_is 304 342 20 = true := by decide +kernel
theorem k_305 : sm_is 305 342 20 = true := by decide +kernel
theorem k_306 : sm_is 306 342 20 = true := by decide +kernel
theorem k_307 : sm_is 307 342 20 = true := by decide +kernel
theorem k_308 : sm_is 308 342 20 = true := by decide +kernel
theorem k_324 : sm_is 324 342 20 = true := by decide +kernel
theorem k_325 : sm_is 325 342 20 = true := by decide +kernel
theorem k_326 : sm_is 326 342 20 = true := by decide +kernel
theorem k_327 : sm_is 327 342 20 = true := by decide +kernel
theorem k_328 : sm_is 328 342 20 = true := by decide +kernel
theorem k_329 : sm_is 329 342 20 = true := by decide +kernel
theorem k_330 : sm_is 330 342 22 = true := by decide +kernel
theorem k_331 : sm_is 331 342 20 = true := by decide +kernel
theorem k_4 : sm_is 4 342 20 = true := by decide +kernel
theorem k_54 : sm_is 54 342 1 = true := by decide +kernel
theorem k_55 : sm_is 55 342 20 = true := by decide +kernel
theorem k_56 : sm_is 56 342 20 = true := by decide +kernel
theorem k_57 : sm_is 57 342 20 = true := by decide +kernel
theorem k_58 : sm_is 58 342 20 = true := by decide +kernel
theorem k_59 : sm_is 59 342 20 = true := by decide +kernel
theorem k_60 : sm_is 60 342 20 = true := by decide +kernel
theorem k_61 : sm_is 61 342 9 = true := by decide +kernel
theorem k_62 : sm_is 62 342 20 = true := by decide +kernel
theorem k_63 : sm_is 63 342 2 = true := by decide +kernel
theorem k_84 : sm_is 84 342 2 = true := by decide +kernel
theorem kB_0 {r : Nat} (h : pB r) : sm_is r 342 0 = true := pB_all h (P := fun r => sm_is r 342 0 = true) rfl rfl
theorem kB_1 {r : Nat} (h : pB r) : sm_is (r + 1) 342 20 = true := pB_all h (P := fun r => sm_is (r + 1) 342 20 = true) rfl rfl
theorem kB_2 {r : Nat} (h : pB r) : sm_is (r + 2) 342 20 = true := pB_all h (P := fun r => sm_is (r + 2) 342 20 = true) rfl rfl
theorem kK_0 {r : Nat} (h : pK r) : sm_is r 342 7 = true := pK_all h (P := fun r => sm_is r 342 7 = true) rfl rfl rfl rfl rfl rfl rfl rfl rfl rfl rfl rfl rfl rfl rfl rfl
theorem kK_1 {r : Nat} (h : pK r) : sm_is (r + 1) 342 20 = true := pK_all h (P := fun r => sm_is (r + 1) 342 20 = true) rfl rfl rfl rfl rfl rfl rfl rfl rfl rfl rfl rfl rfl rfl rfl rfl
theorem kN_0 {r : Nat} (h : pN r) : sm_is r 342 2 = true := pN_all h (P := fun r => sm_is r 342 2 = true) rfl rfl
theorem kN_3 {r : Nat} (h : pN r) : sm_is (r + 3) 342 20 = true := pN_all h (P := fun r => sm_is (r + 3) 342 20 = true) rfl rfl
theorem kN_4 {r : Nat} (h : pN r) : sm_is (r + 4) 342 20 = true := pN_all h (P := fun r => sm_is (r + 4) 342 20 = true) rfl rfl
theorem kP_0 {r : Nat} (h : pP r) : sm_is r 342 3 = true := pP_all h (P := fun r => sm_is r 342 3 = true) rfl rfl rfl rfl rfl
theorem kP_1 {r : Nat} (h : pP r) : sm_is (r + 1) 342 20 = true := pP_all h (P := fun r => sm_is (r + 1) 342 20 = true) rfl rfl rfl rfl rfl
theorem kP_2 {r : Nat} (h : pP r) : sm_is (r + 2) 342 20 = true := pP_all h (P := fun r => sm_is (r + 2) 342 20 = true) rfl rfl rfl rfl rfl
theorem kP_3 {r : Nat} (h : pP r) : sm_is (r + 3) 342 20 = true := pP_all h (P := fun r => sm_is (r + 3) 342 20 = true) rfl rfl rfl rfl rfl
theorem kP_4 {r : Nat} (h : pP r) : sm_is (r + 4) 342 20 = true := pP_all h (P := fun r => sm_is (r + 4) 342 20 = true) rfl rfl rfl rfl rfl
theorem kP_5 {r : Nat} (h : pP r) : sm_is (r + 5) 342 20 = true := pP_all h (P := fun r => sm_is (r + 5) 342 20 = true) rfl rfl rfl rfl rfl
theorem kP_6 {r : Nat} (h : pP r) : sm_is (r + 6) 342 20 = true := pP_all h (P := fun r => sm_is (r + 6) 342 20 = true) rfl rfl rfl rfl rfl
theorem kP_7 {r : Nat} (h : pP r) : sm_is (r + 7) 342 20 = true := pP_all h (P := fun r => sm_is (r + 7) 342 20 = true) rfl rfl rfl rfl rfl
theorem kP_8 {r : Nat} (h : pP r) : sm_is (r + 8) 342 20 = true := pP_all h (P := fun r => sm_is (r + 8) 342 20 = true) rfl rfl rfl rfl rfl
theorem kS_0 {r : Nat} (h : pS r) : sm_is r 342 5 = true := pS_all h (P := fun r => sm_is r 342 5 = true) rfl rfl
theorem kS_1 {r : Nat} (h : pS r) : sm_is (r + 1) 342 3 = true := pS_all h (P := fun r => sm_is (r + 1) 342 3 = true) rfl rfl
theorem kS_10 {r : Nat} (h : pS r) : sm_is (r + 10) 342 20 = true := pS_all h (P := fun r => sm_is (r + 10) 342 20 = true) rfl rfl
theorem kS_11 {r : Nat} (h : pS r) : sm_is (r + 11) 342 20 = true := pS_all h (P := fun r => sm_is (r + 11) 342 20 = true) rfl rfl
theorem kS_12 {r : Nat} (h : pS r) : sm_is (r + 12) 342 20 = true := pS_all h (P := fun r => sm_is (r + 12) 342 20 = true) rfl rfl
theorem kS_13 {r : Nat} (h : pS r) : sm_is (r + 13) 342 20 = true := pS_all h (P := fun r => sm_is (r + 13) 342 20 = true) rfl rfl
theorem kS_14 {r : Nat} (h : pS r) : sm_is (r + 14) 342 20 = true := pS_all h (P := fun r => sm_is (r + 14) 342 20 = true) rfl rfl
theorem kS_15 {r : Nat} (h : pS r) : sm_is (r + 15) 342 20 = true := pS_all h (P := fun r => sm_is (r + 15) 342 20 = true) rfl rfl
theorem kS_16 {r : Nat} (h : pS r) : sm_is (r + 16) 342 20 = true := pS_all h (P := fun r => sm_is (r + 16) 342 20 = true) rfl rfl
theorem kS_17 {r : Nat} (h : pS r) : sm_is (r + 17) 342 20 = true := pS_all h (P := fun r => sm_is (r + 17) 342 20 = true) rfl rfl
theorem kS_2 {r : Nat} (h : pS r) : sm_is (r + 2) 342 20 = true := pS_all h (P := fun r => sm_is (r + 2) 342 20 = true) rfl rfl
theorem kS_3 {r : Nat} (h : pS r) : sm_is (r + 3) 342 20 = true := pS_all h (P := fun r => sm_is (r + 3) 342 20 = true) rfl rfl
theorem kS_4 {r : Nat} (h : pS r) : sm_is (r + 4) 342 20 = true := pS_all h (P := fun r => sm_is (r + 4) 342 20 = true) rfl rfl
theorem kS_5 {r : Nat} (h : pS r) : sm_is (r + 5) 342 20 = true := pS_all h (P := fun r => sm_is (r + 5) 342 20 = true) rfl rfl
theorem kW_0 {r : Nat} (h : pW r) : sm_is r 342 10 = true := pW_all h (P := fun r => sm_is r 342 10 = true) rfl rfl rfl rfl rfl
theorem kW_1 {r : Nat} (h : pW r) : sm_is (r + 1) 342 20 = true := pW_all h (P := fun r => sm_is (r + 1) 342 20 = true) rfl rfl rfl rfl rfl
theorem kW_2 {r : Nat} (h : pW r) : sm_is (r + 2) 342 20 = true := pW_all h (P := fun r => sm_is (r + 2) 342 20 = true) rfl rfl rfl rfl rfl
theorem kW_3 {r : Nat} (h : pW r) : sm_is (r + 3) 342 20 = true := pW_all h (P := fun r => sm_is (r + 3) 342 20 = true) rfl rfl rfl rfl rfl
theorem kW_4 {r : Nat} (h : pW r) : sm_is (r + 4) 342 20 = true := pW_all h (P := fun r => sm_is (r + 4) 342 20 = true) rfl rfl rfl rfl rfl
theorem kf_330 : sm_is 330 342 21 = false := by decide +kernel
theorem n_106 : sm_N 106 = 64 := by decide +kernel
theorem n_107 : sm_N 107 = 64 := by decide +kernel
theorem n_157 : sm_N 157 = 600 := by decide +kernel
theorem n_158 : sm_N 158 = 4 := by decide +kernel
theorem n_159 : sm_N 159 = 6 := by decide +kernel
theorem n_160 : sm_N 160 = 6 := by decide +kernel
theorem n_161 : sm_N 161 = 8 := by decide +kernel
theorem n_162 : sm_N 162 = 8 := by decide +kernel
theorem n_163 : sm_N 163 = 6 := by decide +kernel
theorem n_164 : sm_N 164 = 6 := by decide +kernel
theorem n_165 : sm_N 165 = 8 := by decide +kernel
theorem n_174 : sm_N 174 = 8 := by decide +kernel
theorem n_183 : sm_N 183 = 10 := by decide +kernel
theorem n_194 : sm_N 194 = 10 := by decide +kernel
theorem n_205 : sm_N 205 = 12 := by decide +kernel
theorem n_218 : sm_N 218 = 12 := by decide +kernel
theorem n_231 : sm_N 231 = 4 := by decide +kernel
theorem n_236 : sm_N 236 = 4 := by decide +kernel
theorem n_241 : sm_N 241 = 4 := by decide +kernel
theorem n_242 : sm_N 242 = 4 := by decide +kernel
theorem n_247 : sm_N 247 = 4 := by decide +kernel
theorem n_252 : sm_N 252 = 12 := by decide +kernel
theorem n_26 : sm_N 26 = 3 := by decide +kernel
theorem n_265 : sm_N 265 = 12 := by decide +kernel
theorem n_278 : sm_N 278 = 3 := by decide +kernel
theorem n_282 : sm_N 282 = 20 := by decide +kernel
theorem n_3 : sm_N 3 = 600 := by decide +kernel
theorem n_303 : sm_N 303 = 400 := by decide +kernel
theorem n_304 : sm_N 304 = 240 := by decide +kernel
theorem n_305 : sm_N 305 = 8 := by decide +kernel
theorem n_306 : sm_N 306 = 8 := by decide +kernel
theorem n_307 : sm_N 307 = 301 := by decide +kernel
theorem n_308 : sm_N 308 = 301 := by decide +kernel
theorem n_309 : sm_N 309 = 4 := by decide +kernel
theorem n_314 : sm_N 314 = 4 := by decide +kernel
theorem n_319 : sm_N 319 = 4 := by decide +kernel
theorem n_324 : sm_N 324 = 301 := by decide +kernel
theorem n_325 : sm_N 325 = 4 := by decide +kernel
theorem n_326 : sm_N 326 = 4 := by decide +kernel
theorem n_327 : sm_N 327 = 4 := by decide +kernel
theorem n_328 : sm_N 328 = 4 := by decide +kernel
theorem n_329 : sm_N 329 = 4 := by decide +kernel
theorem n_330 : sm_N 330 = 4 := by decide +kernel
theorem n_331 : sm_N 331 = 301 := by decide +kernel
theorem n_332 : sm_N 332 = 9 := by decide +kernel
theorem n_4 : sm_N 4 = 4 := by decide +kernel
theorem n_5 : sm_N 5 = 4 := by decide +kernel
theorem n_55 : sm_N 55 = 301 := by decide +kernel
theorem n_56 : sm_N 56 = 301 := by decide +kernel
theorem n_57 : sm_N 57 = 301 := by decide +kernel
theorem n_58 : sm_N 58 = 301 := by decide +kernel
theorem n_59 : sm_N 59 = 8 := by decide +kernel
theorem n_60 : sm_N 60 = 6 := by decide +kernel
theorem n_62 : sm_N 62 = 301 := by decide +kernel
theorem nB_1 {r : Nat} (h : pB r) : sm_N (r + 1) = 12 := pB_all h (P := fun r => sm_N (r + 1) = 12) rfl rfl
theorem nB_2 {r : Nat} (h : pB r) : sm_N (r + 2) = 12 := pB_all h (P := fun r => sm_N (r + 2) = 12) rfl rfl
theorem nK_1 {r : Nat} (h : pK r) : sm_N (r + 1) = 6 := pK_all h (P := fun r => sm_N (r + 1) = 6) rfl rfl rfl rfl rfl rfl rfl rfl rfl rfl rfl rfl rfl rfl rfl rfl
theorem nN_1 {r : Nat} (h : pN r) : sm_N (r + 1) = 4 := pN_all h (P := fun r => sm_N (r + 1) = 4) rfl rfl
theorem nN_2 {r : Nat} (h : pN r) : sm_N (r + 2) = 4 := pN_all h (P := fun r => sm_N (r + 2) = 4) rfl rfl
theorem nN_3 {r : Nat} (h : pN r) : sm_N (r + 3) = 301 := pN_all h (P := fun r => sm_N (r + 3) = 301) rfl rfl
theorem nN_4 {r : Nat} (h : pN r) : sm_N (r + 4) = 301 := pN_all h (P := fun r => sm_N (r + 4) = 301) rfl rfl
theorem nP_1 {r : Nat} (h : pP r) : sm_N (r + 1) = 12 := pP_all h (P := fun r => sm_N (r + 1) = 12) rfl rfl rfl rfl rfl
theorem nP_2 {r : Nat} (h : pP r) : sm_N (r + 2) = 12 := pP_all h (P := fun r => sm_N (r + 2) = 12) rfl rfl rfl rfl rfl
theorem nP_3 {r : Nat} (h : pP r) : sm_N (r + 3) = 8 := pP_all h (P := fun r => sm_N (r + 3) = 8) rfl rfl rfl rfl rfl
theorem nP_4 {r : Nat} (h : pP r) : sm_N (r + 4) = 8 := pP_all h (P := fun r => sm_N (r + 4) = 8) rfl rfl rfl rfl rfl
theorem nP_5 {r : Nat} (h : pP r) : sm_N (r + 5) = 20 := pP_all h (P := fun r => sm_N (r + 5) = 20) rfl rfl rfl rfl rfl
theorem nP_6 {r : Nat} (h : pP r) : sm_N (r + 6) = 20 := pP_all h (P := fun r => sm_N (r + 6) = 20) rfl rfl rfl rfl rfl
theorem nP_7 {r : Nat} (h : pP r) : sm_N (r + 7) = 20 := pP_all h (P := fun r => sm_N (r + 7) = 20) rfl rfl rfl rfl rfl
theorem nP_8 {r : Nat} (h : pP r) : sm_N (r + 8) = 20 := pP_all h (P := fun r => sm_N (r + 8) = 20) rfl rfl rfl rfl rfl
theorem nS_10 {r : Nat} (h : pS r) : sm_N (r + 10) = 8 := pS_all h (P := fun r => sm_N (r + 10) = 8) rfl rfl
theorem nS_11 {r : Nat} (h : pS r) : sm_N (r + 11) = 8 := pS_all h (P := fun r => sm_N (r + 11) = 8) rfl rfl
theorem nS_12 {r : Nat} (h : pS r) : sm_N (r + 12) = 3 := pS_all h (P := fun r => sm_N (r + 12) = 3) rfl rfl
theorem nS_13 {r : Nat} (h : pS r) : sm_N (r + 13) = 10 := pS_all h (P := fun r => sm_N (r + 13) = 10) rfl rfl
theorem nS_14 {r : Nat} (h : pS r) : sm_N (r + 14) = 10 := pS_all h (P := fun r => sm_N (r + 14) = 10) rfl rfl
theorem nS_15 {r : Nat} (h : pS r) : sm_N (r + 15) = 6 := pS_all h (P := fun r => sm_N (r + 15) = 6) rfl rfl
theorem nS_16 {r : Nat} (h : pS r) : sm_N (r + 16) = 4 := pS_all h (P := fun r => sm_N (r + 16) = 4) rfl rfl
theorem nS_17 {r : Nat} (h : pS r) : sm_N (r + 17) = 4 := pS_all h (P := fun r => sm_N (r + 17) = 4) rfl rfl
theorem nS_2 {r : Nat} (h : pS r) : sm_N (r + 2) = 12 := pS_all h (P := fun r => sm_N (r + 2) = 12) rfl rfl
theorem nS_3 {r : Nat} (h : pS r) : sm_N (r + 3) = 12 := pS_all h (P := fun r => sm_N (r + 3) = 12) rfl rfl
theorem nS_4 {r : Nat} (h : pS r) : sm_N (r + 4) = 8 := pS_all h (P := fun r => sm_N (r + 4) = 8) rfl rfl
theorem nS_5 {r : Nat} (h : pS r) : sm_N (r + 5) = 8 := pS_all h (P := fun r => sm_N (r + 5) = 8) rfl rfl
theorem nW_1 {r : Nat} (h : pW r) : sm_N (r + 1) = 40 := pW_all h (P := fun r => sm_N (r + 1) = 40) rfl rfl rfl rfl rfl
theorem nW_2 {r : Nat} (h : pW r) : sm_N (r + 2) = 40 := pW_all h (P := fun r => sm_N (r + 2) = 40) rfl rfl rfl rfl rfl
theorem nW_3 {r : Nat} (h : pW r) : sm_N (r + 3) = 40 := pW_all h (P := fun r => sm_N (r + 3) = 40) rfl rfl rfl rfl rfl
theorem nW_4 {r : Nat} (h : pW r) : sm_N (r + 4) = 40 := pW_all h (P := fun r => sm_N (r + 4) = 40) rfl rfl rfl rfl rfl
theorem q_105_0 (V : pV) : RR V 105 0 = 106 := (RR_q rfl rfl).trans (by decide +kernel)
theorem q_105_1 (V : pV) : RR V 105 1 = 107 := (RR_q rfl rfl).trans (by decide +kernel)
theorem q_156_10 (V : pV) : RR V 156 10 = 158 := (RR_q rfl rfl).trans (by decide +kernel)
theorem q_156_11 (V : pV) : RR V 156 11 = 159 := (RR_q rfl rfl).trans (by decide +kernel)
theorem q_156_12 (V : pV) : RR V 156 12 = 160 := (RR_q rfl rfl).trans (by decide +kernel)
theorem q_156_13 (V : pV) : RR V 156 13 = 161 := (RR_q rfl rfl).trans (by decide +kernel)
theorem q_156_14 (V : pV) : RR V 156 14 = 162 := (RR_q rfl rfl).trans (by decide +kernel)
theorem q_156_15 (V : pV) : RR V 156 15 = 163 := (RR_q rfl rfl).trans (by decide +kernel)
theorem q_156_16 (V : pV) : RR V 156 16 = 164 := (RR_q rfl rfl).trans (by decide +kernel)
theorem q_156_17 (V : pV) : RR V 156 17 = 165 := (RR_q rfl rfl).trans (by decide +kernel)
theorem q_156_18 (V : pV) : RR V 156 18 = 174 := (RR_q rfl rfl).trans (by decide +kernel)
theorem q_156_19 (V : pV) : RR V 156 19 = 183 := (RR_q rfl rfl).trans (by decide +kernel)
theorem q_156_20 (V : pV) : RR V 156 20 = 194 := (RR_q rfl rfl).trans (by decide +kernel)
theorem q_156_21 (V : pV) : RR V 156 21 = 205 := (RR_q rfl rfl).trans (by decide +kernel)
theorem q_156_22 (V : pV) : RR V 156 22 = 218 := (RR_q rfl rfl).trans (by decide +kernel)
theorem q_156_23 (V : pV) : RR V 156 23 = 231 := (RR_q rfl rfl).trans (by decide +kernel)
theorem q_156_24 (V : pV) : RR V 156 24 = 236 := (RR_q rfl rfl).trans (by decide +kernel)
theorem q_156_25 (V : pV) : RR V 156 25 = 241 := (RR_q rfl rfl).trans (by decide +kernel)
theorem q_156_26 (V : pV) : RR V 156 26 = 242 := (RR_q rfl rfl).trans (by decide +kernel)
theorem q_156_27 (V : pV) : RR V 156 27 = 247 := (RR_q rfl rfl).trans (by decide +kernel)
theorem q_156_28 (V : pV) : RR V 156 28 = 252 := (RR_q rfl rfl).trans (by decide +kernel)
theorem q_156_29 (V : pV) : RR V 156 29 = 265 := (RR_q rfl rfl).trans (by decide +kernel)
theorem q_156_30 (V : pV) : RR V 156 30 = 278 := (RR_q rfl rfl).trans (by decide +kernel)
theorem q_156_31 (V : pV) : RR V 156 31 = 282 := (RR_q rfl rfl).trans (by decide +kernel)
theorem q_156_32 (V : pV) : RR V 156 32 = 303 := (RR_q rfl rfl).trans (by decide +kernel)
theorem q_156_33 (V : pV) : RR V 156 33 = 304 := (RR_q rfl rfl).trans (by decide +kernel)
theorem q_156_42 (V : pV) : RR V 156 42 = 305 := (RR_q rfl rfl).trans (by decide +kernel)
theorem q_156_43 (V : pV) : RR V 156 43 = 306 := (RR_q rfl rfl).trans (by decide +kernel)
theorem q_156_44 (V : pV) : RR V 156 44 = 307 := (RR_q rfl rfl).trans (by decide +kernel)
theorem q_156_45 (V : pV) : RR V 156 45 = 308 := (RR_q rfl rfl).trans (by decide +kernel)
theorem q_156_46 (V : pV) : RR V 156 46 = 309 := (RR_q rfl rfl).trans (by decide +kernel)
theorem q_156_47 (V : pV) : RR V 156 47 = 314 := (RR_q rfl rfl).trans (by decide +kernel)
theorem q_156_48 (V : pV) : RR V 156 48 = 319 := (RR_q rfl rfl).trans (by decide +kernel)
theorem q_156_49 (V : pV) : RR V 156 49 = 324 := (RR_q rfl rfl).trans (by decide +kernel)
theorem q_156_50 (V : pV) : RR V 156 50 = 325 := (RR_q rfl rfl).trans (by decide +kernel)
theorem q_156_51 (V : pV) : RR V 156 51 = 326 := (RR_q rfl rfl).trans (by decide +kernel)
theorem q_156_52 (V : pV) : RR V 156 52 = 327 := (RR_q rfl rfl).trans (by decide +kernel)
theorem q_156_53 (V : pV) : RR V 156 53 = 328 := (RR_q rfl rfl).trans (by decide +kernel)
theorem q_156_54 (V : pV) : RR V 156 54 = 329 := (RR_q rfl rfl).trans (by decide +kernel)
theorem q_156_55 (V : pV) : RR V 156 55 = 330 := (RR_q rfl rfl).trans (by decide +kernel)
theorem q_156_58 (V : pV) : RR V 156 58 = 331 := (RR_q rfl rfl).trans (by decide +kernel)
theorem q_156_61 (V : pV) : RR V 156 61 = 332 := (RR_q rfl rfl).trans (by decide +kernel)
theorem q_156_9 (V : pV) : RR V 156 9 = 157 := (RR_q rfl rfl).trans (by decide +kernel)
theorem q_1_0 (V : pV) : RR V 1 0 = 2 := RR_1 rfl rfl rfl rfl rfl (by decide +kernel)
theorem q_1_1 (V : pV) : RR V 1 1 = 4 := RR_1 rfl rfl rfl rfl rfl (by decide +kernel)
theorem q_1_2 (V : pV) : RR V 1 2 = 5 := RR_1 rfl rfl rfl rfl rfl (by decide +kernel)
theorem q_1_3 (V : pV) : RR V 1 3 = 26 := RR_1 rfl rfl rfl rfl rfl (by decide +kernel)
theorem q_1_4 (V : pV) : RR V 1 4 = 54 := RR_1 rfl rfl rfl rfl rfl (by decide +kernel)
theorem q_1_5 (V : pV) : RR V 1 5 = 61 := RR_1 rfl rfl rfl rfl rfl (by decide +kernel)
theorem q_1_6 (V : pV) : RR V 1 6 = 63 := RR_1 rfl rfl rfl rfl rfl (by decide +kernel)
theorem q_1_7 (V : pV) : RR V 1 7 = 84 := RR_1 rfl rfl rfl rfl rfl (by decide +kernel)
theorem q_1_8 (V : pV) : RR V 1 8 = 105 := RR_1 rfl rfl rfl rfl rfl (by decide +kernel)
theorem q_1_9 (V : pV) : RR V 1 9 = 108 := RR_1 rfl rfl rfl rfl rfl (by decide +kernel)
theorem q_2_0 (V : pV) : RR V 2 0 = 3 := (RR_q rfl rfl).trans (by decide +kernel)
theorem q_54_0 (V : pV) : RR V 54 0 = 55 := (RR_q rfl rfl).trans (by decide +kernel)
theorem q_54_1 (V : pV) : RR V 54 1 = 56 := (RR_q rfl rfl).trans (by decide +kernel)
theorem q_54_2 (V : pV) : RR V 54 2 = 57 := (RR_q rfl rfl).trans (by decide +kernel)
theorem q_54_3 (V : pV) : RR V 54 3 = 58 := (RR_q rfl rfl).trans (by decide +kernel)
theorem q_54_4 (V : pV) : RR V 54 4 = 59 := (RR_q rfl rfl).trans (by decide +kernel)
theorem q_54_5 (V : pV) : RR V 54 5 = 60 := (RR_q rfl rfl).trans (by decide +kernel)
theorem q_61_0 (V : pV) : RR V 61 0 = 62 := (RR_q rfl rfl).trans (by decide +kernel)
