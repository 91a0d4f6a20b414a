/-! the checks of all methods, by the program wip/gen/chk2.py -/
theorem sm_nopT {T f : Nat → Instr} {LA la : Nat} (hT : ∀ pc, T pc = bif Nat.ble pc LA then f pc else .nop) (hl : la = LA) : ∀ pc, la < pc → T pc = .nop := fun pc h => by
  rw [hT, sm_ble_f (by omega)]
  rfl
theorem sm_nop_0 {j : Nat} (h1 : 6 ≤ j) (h2 : j ≤ 13) : ∀ pc, sm_la j < pc → sm_T j pc = .nop := by
  rcases (show j = 6 ∨ j = 7 ∨ j = 8 ∨ j = 9 ∨ j = 10 ∨ j = 11 ∨ j = 12 ∨ j = 13 by omega) with rfl | rfl | rfl | rfl | rfl | rfl | rfl | rfl
  · exact sm_nopT (T := sm_T 6) (LA := 20) (fun _ => rfl) rfl
  · exact sm_nopT (T := sm_T 7) (LA := 52) (fun _ => rfl) rfl
  · exact sm_nopT (T := sm_T 8) (LA := 4) (fun _ => rfl) rfl
  · exact sm_nopT (T := sm_T 9) (LA := 79) (fun _ => rfl) rfl
  · exact sm_nopT (T := sm_T 10) (LA := 25) (fun _ => rfl) rfl
  · exact sm_nopT (T := sm_T 11) (LA := 63) (fun _ => rfl) rfl
  · exact sm_nopT (T := sm_T 12) (LA := 4) (fun _ => rfl) rfl
  · exact sm_nopT (T := sm_T 13) (LA := 11) (fun _ => rfl) rfl
theorem sm_nop_1 {j : Nat} (h1 : 14 ≤ j) (h2 : j ≤ 21) : ∀ pc, sm_la j < pc → sm_T j pc = .nop := by
  rcases (show j = 14 ∨ j = 15 ∨ j = 16 ∨ j = 17 ∨ j = 18 ∨ j = 19 ∨ j = 20 ∨ j = 21 by omega) with rfl | rfl | rfl | rfl | rfl | rfl | rfl | rfl
  · exact sm_nopT (T := sm_T 14) (LA := 57) (fun _ => rfl) rfl
  · exact sm_nopT (T := sm_T 15) (LA := 27) (fun _ => rfl) rfl
  · exact sm_nopT (T := sm_T 16) (LA := 48) (fun _ => rfl) rfl
  · exact sm_nopT (T := sm_T 17) (LA := 14) (fun _ => rfl) rfl
  · exact sm_nopT (T := sm_T 18) (LA := 10) (fun _ => rfl) rfl
  · exact sm_nopT (T := sm_T 19) (LA := 25) (fun _ => rfl) rfl
  · exact sm_nopT (T := sm_T 20) (LA := 85) (fun _ => rfl) rfl
  · exact sm_nopT (T := sm_T 21) (LA := 47) (fun _ => rfl) rfl
theorem sm_nop_2 {j : Nat} (h1 : 22 ≤ j) (h2 : j ≤ 29) : ∀ pc, sm_la j < pc → sm_T j pc = .nop := by
  rcases (show j = 22 ∨ j = 23 ∨ j = 24 ∨ j = 25 ∨ j = 26 ∨ j = 27 ∨ j = 28 ∨ j = 29 by omega) with rfl | rfl | rfl | rfl | rfl | rfl | rfl | rfl
  · exact sm_nopT (T := sm_T 22) (LA := 30) (fun _ => rfl) rfl
  · exact sm_nopT (T := sm_T 23) (LA := 10) (fun _ => rfl) rfl
  · exact sm_nopT (T := sm_T 24) (LA := 29) (fun _ => rfl) rfl
  · exact sm_nopT (T := sm_T 25) (LA := 43) (fun _ => rfl) rfl
  · exact sm_nopT (T := sm_T 26) (LA := 46) (fun _ => rfl) rfl
  · exact sm_nopT (T := sm_T 27) (LA := 19) (fun _ => rfl) rfl
  · exact sm_nopT (T := sm_T 28) (LA := 53) (fun _ => rfl) rfl
  · exact sm_nopT (T := sm_T 29) (LA := 24) (fun _ => rfl) rfl
theorem sm_nop_3 {j : Nat} (h1 : 30 ≤ j) (h2 : j ≤ 37) : ∀ pc, sm_la j < pc → sm_T j pc = .nop := by
  rcases (show j = 30 ∨ j = 31 ∨ j = 32 ∨ j = 33 ∨ j = 34 ∨ j = 35 ∨ j = 36 ∨ j = 37 by omega) with rfl | rfl | rfl | rfl | rfl | rfl | rfl | rfl
  · exact sm_nopT (T := sm_T 30) (LA := 26) (fun _ => rfl) rfl
  · exact sm_nopT (T := sm_T 31) (LA := 29) (fun _ => rfl) rfl
  · exact sm_nopT (T := sm_T 32) (LA := 121) (fun _ => rfl) rfl
  · exact sm_nopT (T := sm_T 33) (LA := 18) (fun _ => rfl) rfl
  · exact sm_nopT (T := sm_T 34) (LA := 89) (fun _ => rfl) rfl
  · exact sm_nopT (T := sm_T 35) (LA := 84) (fun _ => rfl) rfl
  · exact sm_nopT (T := sm_T 36) (LA := 57) (fun _ => rfl) rfl
  · exact sm_nopT (T := sm_T 37) (LA := 38) (fun _ => rfl) rfl
theorem sm_nop_4 {j : Nat} (h1 : 38 ≤ j) (h2 : j ≤ 45) : ∀ pc, sm_la j < pc → sm_T j pc = .nop := by
  rcases (show j = 38 ∨ j = 39 ∨ j = 40 ∨ j = 41 ∨ j = 42 ∨ j = 43 ∨ j = 44 ∨ j = 45 by omega) with rfl | rfl | rfl | rfl | rfl | rfl | rfl | rfl
  · exact sm_nopT (T := sm_T 38) (LA := 8) (fun _ => rfl) rfl
  · exact sm_nopT (T := sm_T 39) (LA := 16) (fun _ => rfl) rfl
  · exact sm_nopT (T := sm_T 40) (LA := 31) (fun _ => rfl) rfl
  · exact sm_nopT (T := sm_T 41) (LA := 35) (fun _ => rfl) rfl
  · exact sm_nopT (T := sm_T 42) (LA := 38) (fun _ => rfl) rfl
  · exact sm_nopT (T := sm_T 43) (LA := 26) (fun _ => rfl) rfl
  · exact sm_nopT (T := sm_T 44) (LA := 101) (fun _ => rfl) rfl
  · exact sm_nopT (T := sm_T 45) (LA := 27) (fun _ => rfl) rfl
theorem sm_nop_5 {j : Nat} (h1 : 46 ≤ j) (h2 : j ≤ 53) : ∀ pc, sm_la j < pc → sm_T j pc = .nop := by
  rcases (show j = 46 ∨ j = 47 ∨ j = 48 ∨ j = 49 ∨ j = 50 ∨ j = 51 ∨ j = 52 ∨ j = 53 by omega) with rfl | rfl | rfl | rfl | rfl | rfl | rfl | rfl
  · exact sm_nopT (T := sm_T 46) (LA := 30) (fun _ => rfl) rfl
  · exact sm_nopT (T := sm_T 47) (LA := 10) (fun _ => rfl) rfl
  · exact sm_nopT (T := sm_T 48) (LA := 50) (fun _ => rfl) rfl
  · exact sm_nopT (T := sm_T 49) (LA := 29) (fun _ => rfl) rfl
  · exact sm_nopT (T := sm_T 50) (LA := 42) (fun _ => rfl) rfl
  · exact sm_nopT (T := sm_T 51) (LA := 11) (fun _ => rfl) rfl
  · exact sm_nopT (T := sm_T 52) (LA := 30) (fun _ => rfl) rfl
  · exact sm_nopT (T := sm_T 53) (LA := 30) (fun _ => rfl) rfl
theorem sm_nop_6 {j : Nat} (h1 : 54 ≤ j) (h2 : j ≤ 61) : ∀ pc, sm_la j < pc → sm_T j pc = .nop := by
  rcases (show j = 54 ∨ j = 55 ∨ j = 56 ∨ j = 57 ∨ j = 58 ∨ j = 59 ∨ j = 60 ∨ j = 61 by omega) with rfl | rfl | rfl | rfl | rfl | rfl | rfl | rfl
  · exact sm_nopT (T := sm_T 54) (LA := 30) (fun _ => rfl) rfl
  · exact sm_nopT (T := sm_T 55) (LA := 89) (fun _ => rfl) rfl
  · exact sm_nopT (T := sm_T 56) (LA := 58) (fun _ => rfl) rfl
  · exact sm_nopT (T := sm_T 57) (LA := 101) (fun _ => rfl) rfl
  · exact sm_nopT (T := sm_T 58) (LA := 81) (fun _ => rfl) rfl
  · exact sm_nopT (T := sm_T 59) (LA := 139) (fun _ => rfl) rfl
  · exact sm_nopT (T := sm_T 60) (LA := 61) (fun _ => rfl) rfl
  · exact sm_nopT (T := sm_T 61) (LA := 165) (fun _ => rfl) rfl
theorem sm_nop_7 {j : Nat} (h1 : 62 ≤ j) (h2 : j ≤ 69) : ∀ pc, sm_la j < pc → sm_T j pc = .nop := by
  rcases (show j = 62 ∨ j = 63 ∨ j = 64 ∨ j = 65 ∨ j = 66 ∨ j = 67 ∨ j = 68 ∨ j = 69 by omega) with rfl | rfl | rfl | rfl | rfl | rfl | rfl | rfl
  · exact sm_nopT (T := sm_T 62) (LA := 163) (fun _ => rfl) rfl
  · exact sm_nopT (T := sm_T 63) (LA := 14) (fun _ => rfl) rfl
  · exact sm_nopT (T := sm_T 64) (LA := 14) (fun _ => rfl) rfl
  · exact sm_nopT (T := sm_T 65) (LA := 97) (fun _ => rfl) rfl
  · exact sm_nopT (T := sm_T 66) (LA := 51) (fun _ => rfl) rfl
  · exact sm_nopT (T := sm_T 67) (LA := 19) (fun _ => rfl) rfl
  · exact sm_nopT (T := sm_T 68) (LA := 68) (fun _ => rfl) rfl
  · exact sm_nopT (T := sm_T 69) (LA := 91) (fun _ => rfl) rfl
theorem sm_nop_8 {j : Nat} (h1 : 70 ≤ j) (h2 : j ≤ 77) : ∀ pc, sm_la j < pc → sm_T j pc = .nop := by
  rcases (show j = 70 ∨ j = 71 ∨ j = 72 ∨ j = 73 ∨ j = 74 ∨ j = 75 ∨ j = 76 ∨ j = 77 by omega) with rfl | rfl | rfl | rfl | rfl | rfl | rfl | rfl
  · exact sm_nopT (T := sm_T 70) (LA := 51) (fun _ => rfl) rfl
  · exact sm_nopT (T := sm_T 71) (LA := 21) (fun _ => rfl) rfl
  · exact sm_nopT (T := sm_T 72) (LA := 57) (fun _ => rfl) rfl
  · exact sm_nopT (T := sm_T 73) (LA := 63) (fun _ => rfl) rfl
  · exact sm_nopT (T := sm_T 74) (LA := 54) (fun _ => rfl) rfl
  · exact sm_nopT (T := sm_T 75) (LA := 5) (fun _ => rfl) rfl
  · exact sm_nopT (T := sm_T 76) (LA := 37) (fun _ => rfl) rfl
  · exact sm_nopT (T := sm_T 77) (LA := 111) (fun _ => rfl) rfl
theorem sm_nop_9 {j : Nat} (h1 : 78 ≤ j) (h2 : j ≤ 85) : ∀ pc, sm_la j < pc → sm_T j pc = .nop := by
  rcases (show j = 78 ∨ j = 79 ∨ j = 80 ∨ j = 81 ∨ j = 82 ∨ j = 83 ∨ j = 84 ∨ j = 85 by omega) with rfl | rfl | rfl | rfl | rfl | rfl | rfl | rfl
  · exact sm_nopT (T := sm_T 78) (LA := 154) (fun _ => rfl) rfl
  · exact sm_nopT (T := sm_T 79) (LA := 94) (fun _ => rfl) rfl
  · exact sm_nopT (T := sm_T 80) (LA := 26) (fun _ => rfl) rfl
  · exact sm_nopT (T := sm_T 81) (LA := 141) (fun _ => rfl) rfl
  · exact sm_nopT (T := sm_T 82) (LA := 21) (fun _ => rfl) rfl
  · exact sm_nopT (T := sm_T 83) (LA := 34) (fun _ => rfl) rfl
  · exact sm_nopT (T := sm_T 84) (LA := 135) (fun _ => rfl) rfl
  · exact sm_nopT (T := sm_T 85) (LA := 123) (fun _ => rfl) rfl
theorem sm_nop_10 {j : Nat} (h1 : 86 ≤ j) (h2 : j ≤ 93) : ∀ pc, sm_la j < pc → sm_T j pc = .nop := by
  rcases (show j = 86 ∨ j = 87 ∨ j = 88 ∨ j = 89 ∨ j = 90 ∨ j = 91 ∨ j = 92 ∨ j = 93 by omega) with rfl | rfl | rfl | rfl | rfl | rfl | rfl | rfl
  · exact sm_nopT (T := sm_T 86) (LA := 26) (fun _ => rfl) rfl
  · exact sm_nopT (T := sm_T 87) (LA := 30) (fun _ => rfl) rfl
  · exact sm_nopT (T := sm_T 88) (LA := 171) (fun _ => rfl) rfl
  · exact sm_nopT (T := sm_T 89) (LA := 48) (fun _ => rfl) rfl
  · exact sm_nopT (T := sm_T 90) (LA := 130) (fun _ => rfl) rfl
  · exact sm_nopT (T := sm_T 91) (LA := 67) (fun _ => rfl) rfl
  · exact sm_nopT (T := sm_T 92) (LA := 54) (fun _ => rfl) rfl
  · exact sm_nopT (T := sm_T 93) (LA := 244) (fun _ => rfl) rfl
theorem sm_nop_11 {j : Nat} (h1 : 94 ≤ j) (h2 : j ≤ 101) : ∀ pc, sm_la j < pc → sm_T j pc = .nop := by
  rcases (show j = 94 ∨ j = 95 ∨ j = 96 ∨ j = 97 ∨ j = 98 ∨ j = 99 ∨ j = 100 ∨ j = 101 by omega) with rfl | rfl | rfl | rfl | rfl | rfl | rfl | rfl
  · exact sm_nopT (T := sm_T 94) (LA := 168) (fun _ => rfl) rfl
  · exact sm_nopT (T := sm_T 95) (LA := 63) (fun _ => rfl) rfl
  · exact sm_nopT (T := sm_T 96) (LA := 88) (fun _ => rfl) rfl
  · exact sm_nopT (T := sm_T 97) (LA := 42) (fun _ => rfl) rfl
  · exact sm_nopT (T := sm_T 98) (LA := 15) (fun _ => rfl) rfl
  · exact sm_nopT (T := sm_T 99) (LA := 36) (fun _ => rfl) rfl
  · exact sm_nopT (T := sm_T 100) (LA := 36) (fun _ => rfl) rfl
  · exact sm_nopT (T := sm_T 101) (LA := 44) (fun _ => rfl) rfl
theorem sm_nop_12 {j : Nat} (h1 : 102 ≤ j) (h2 : j ≤ 109) : ∀ pc, sm_la j < pc → sm_T j pc = .nop := by
  rcases (show j = 102 ∨ j = 103 ∨ j = 104 ∨ j = 105 ∨ j = 106 ∨ j = 107 ∨ j = 108 ∨ j = 109 by omega) with rfl | rfl | rfl | rfl | rfl | rfl | rfl | rfl
  · exact sm_nopT (T := sm_T 102) (LA := 74) (fun _ => rfl) rfl
  · exact sm_nopT (T := sm_T 103) (LA := 47) (fun _ => rfl) rfl
  · exact sm_nopT (T := sm_T 104) (LA := 60) (fun _ => rfl) rfl
  · exact sm_nopT (T := sm_T 105) (LA := 67) (fun _ => rfl) rfl
  · exact sm_nopT (T := sm_T 106) (LA := 129) (fun _ => rfl) rfl
  · exact sm_nopT (T := sm_T 107) (LA := 96) (fun _ => rfl) rfl
  · exact sm_nopT (T := sm_T 108) (LA := 144) (fun _ => rfl) rfl
  · exact sm_nopT (T := sm_T 109) (LA := 15) (fun _ => rfl) rfl
theorem sm_nop_13 {j : Nat} (h1 : 110 ≤ j) (h2 : j ≤ 117) : ∀ pc, sm_la j < pc → sm_T j pc = .nop := by
  rcases (show j = 110 ∨ j = 111 ∨ j = 112 ∨ j = 113 ∨ j = 114 ∨ j = 115 ∨ j = 116 ∨ j = 117 by omega) with rfl | rfl | rfl | rfl | rfl | rfl | rfl | rfl
  · exact sm_nopT (T := sm_T 110) (LA := 42) (fun _ => rfl) rfl
  · exact sm_nopT (T := sm_T 111) (LA := 54) (fun _ => rfl) rfl
  · exact sm_nopT (T := sm_T 112) (LA := 58) (fun _ => rfl) rfl
  · exact sm_nopT (T := sm_T 113) (LA := 37) (fun _ => rfl) rfl
  · exact sm_nopT (T := sm_T 114) (LA := 41) (fun _ => rfl) rfl
  · exact sm_nopT (T := sm_T 115) (LA := 32) (fun _ => rfl) rfl
  · exact sm_nopT (T := sm_T 116) (LA := 154) (fun _ => rfl) rfl
  · exact sm_nopT (T := sm_T 117) (LA := 82) (fun _ => rfl) rfl
theorem sm_nop_14 {j : Nat} (h1 : 118 ≤ j) (h2 : j ≤ 125) : ∀ pc, sm_la j < pc → sm_T j pc = .nop := by
  rcases (show j = 118 ∨ j = 119 ∨ j = 120 ∨ j = 121 ∨ j = 122 ∨ j = 123 ∨ j = 124 ∨ j = 125 by omega) with rfl | rfl | rfl | rfl | rfl | rfl | rfl | rfl
  · exact sm_nopT (T := sm_T 118) (LA := 39) (fun _ => rfl) rfl
  · exact sm_nopT (T := sm_T 119) (LA := 74) (fun _ => rfl) rfl
  · exact sm_nopT (T := sm_T 120) (LA := 48) (fun _ => rfl) rfl
  · exact sm_nopT (T := sm_T 121) (LA := 53) (fun _ => rfl) rfl
  · exact sm_nopT (T := sm_T 122) (LA := 221) (fun _ => rfl) rfl
  · exact sm_nopT (T := sm_T 123) (LA := 98) (fun _ => rfl) rfl
  · exact sm_nopT (T := sm_T 124) (LA := 112) (fun _ => rfl) rfl
  · exact sm_nopT (T := sm_T 125) (LA := 55) (fun _ => rfl) rfl
theorem sm_nop_15 {j : Nat} (h1 : 126 ≤ j) (h2 : j ≤ 133) : ∀ pc, sm_la j < pc → sm_T j pc = .nop := by
  rcases (show j = 126 ∨ j = 127 ∨ j = 128 ∨ j = 129 ∨ j = 130 ∨ j = 131 ∨ j = 132 ∨ j = 133 by omega) with rfl | rfl | rfl | rfl | rfl | rfl | rfl | rfl
  · exact sm_nopT (T := sm_T 126) (LA := 56) (fun _ => rfl) rfl
  · exact sm_nopT (T := sm_T 127) (LA := 88) (fun _ => rfl) rfl
  · exact sm_nopT (T := sm_T 128) (LA := 34) (fun _ => rfl) rfl
  · exact sm_nopT (T := sm_T 129) (LA := 75) (fun _ => rfl) rfl
  · exact sm_nopT (T := sm_T 130) (LA := 36) (fun _ => rfl) rfl
  · exact sm_nopT (T := sm_T 131) (LA := 32) (fun _ => rfl) rfl
  · exact sm_nopT (T := sm_T 132) (LA := 17) (fun _ => rfl) rfl
  · exact sm_nopT (T := sm_T 133) (LA := 77) (fun _ => rfl) rfl
theorem sm_nop_16 {j : Nat} (h1 : 134 ≤ j) (h2 : j ≤ 141) : ∀ pc, sm_la j < pc → sm_T j pc = .nop := by
  rcases (show j = 134 ∨ j = 135 ∨ j = 136 ∨ j = 137 ∨ j = 138 ∨ j = 139 ∨ j = 140 ∨ j = 141 by omega) with rfl | rfl | rfl | rfl | rfl | rfl | rfl | rfl
  · exact sm_nopT (T := sm_T 134) (LA := 30) (fun _ => rfl) rfl
  · exact sm_nopT (T := sm_T 135) (LA := 12) (fun _ => rfl) rfl
  · exact sm_nopT (T := sm_T 136) (LA := 20) (fun _ => rfl) rfl
  · exact sm_nopT (T := sm_T 137) (LA := 38) (fun _ => rfl) rfl
  · exact sm_nopT (T := sm_T 138) (LA := 100) (fun _ => rfl) rfl
  · exact sm_nopT (T := sm_T 139) (LA := 17) (fun _ => rfl) rfl
  · exact sm_nopT (T := sm_T 140) (LA := 63) (fun _ => rfl) rfl
  · exact sm_nopT (T := sm_T 141) (LA := 21) (fun _ => rfl) rfl
theorem sm_nop_17 {j : Nat} (h1 : 142 ≤ j) (h2 : j ≤ 149) : ∀ pc, sm_la j < pc → sm_T j pc = .nop := by
  rcases (show j = 142 ∨ j = 143 ∨ j = 144 ∨ j = 145 ∨ j = 146 ∨ j = 147 ∨ j = 148 ∨ j = 149 by omega) with rfl | rfl | rfl | rfl | rfl | rfl | rfl | rfl
  · exact sm_nopT (T := sm_T 142) (LA := 9) (fun _ => rfl) rfl
  · exact sm_nopT (T := sm_T 143) (LA := 152) (fun _ => rfl) rfl
  · exact sm_nopT (T := sm_T 144) (LA := 9) (fun _ => rfl) rfl
  · exact sm_nopT (T := sm_T 145) (LA := 38) (fun _ => rfl) rfl
  · exact sm_nopT (T := sm_T 146) (LA := 33) (fun _ => rfl) rfl
  · exact sm_nopT (T := sm_T 147) (LA := 79) (fun _ => rfl) rfl
  · exact sm_nopT (T := sm_T 148) (LA := 58) (fun _ => rfl) rfl
  · exact sm_nopT (T := sm_T 149) (LA := 95) (fun _ => rfl) rfl
theorem sm_nop_18 {j : Nat} (h1 : 150 ≤ j) (h2 : j ≤ 157) : ∀ pc, sm_la j < pc → sm_T j pc = .nop := by
  rcases (show j = 150 ∨ j = 151 ∨ j = 152 ∨ j = 153 ∨ j = 154 ∨ j = 155 ∨ j = 156 ∨ j = 157 by omega) with rfl | rfl | rfl | rfl | rfl | rfl | rfl | rfl
  · exact sm_nopT (T := sm_T 150) (LA := 31) (fun _ => rfl) rfl
  · exact sm_nopT (T := sm_T 151) (LA := 132) (fun _ => rfl) rfl
  · exact sm_nopT (T := sm_T 152) (LA := 60) (fun _ => rfl) rfl
  · exact sm_nopT (T := sm_T 153) (LA := 9) (fun _ => rfl) rfl
  · exact sm_nopT (T := sm_T 154) (LA := 16) (fun _ => rfl) rfl
  · exact sm_nopT (T := sm_T 155) (LA := 13) (fun _ => rfl) rfl
  · exact sm_nopT (T := sm_T 156) (LA := 49) (fun _ => rfl) rfl
  · exact sm_nopT (T := sm_T 157) (LA := 50) (fun _ => rfl) rfl
theorem sm_nop_19 {j : Nat} (h1 : 158 ≤ j) (h2 : j ≤ 165) : ∀ pc, sm_la j < pc → sm_T j pc = .nop := by
  rcases (show j = 158 ∨ j = 159 ∨ j = 160 ∨ j = 161 ∨ j = 162 ∨ j = 163 ∨ j = 164 ∨ j = 165 by omega) with rfl | rfl | rfl | rfl | rfl | rfl | rfl | rfl
  · exact sm_nopT (T := sm_T 158) (LA := 12) (fun _ => rfl) rfl
  · exact sm_nopT (T := sm_T 159) (LA := 24) (fun _ => rfl) rfl
  · exact sm_nopT (T := sm_T 160) (LA := 67) (fun _ => rfl) rfl
  · exact sm_nopT (T := sm_T 161) (LA := 106) (fun _ => rfl) rfl
  · exact sm_nopT (T := sm_T 162) (LA := 85) (fun _ => rfl) rfl
  · exact sm_nopT (T := sm_T 163) (LA := 50) (fun _ => rfl) rfl
  · exact sm_nopT (T := sm_T 164) (LA := 107) (fun _ => rfl) rfl
  · exact sm_nopT (T := sm_T 165) (LA := 59) (fun _ => rfl) rfl
theorem sm_nop_20 {j : Nat} (h1 : 166 ≤ j) (h2 : j ≤ 173) : ∀ pc, sm_la j < pc → sm_T j pc = .nop := by
  rcases (show j = 166 ∨ j = 167 ∨ j = 168 ∨ j = 169 ∨ j = 170 ∨ j = 171 ∨ j = 172 ∨ j = 173 by omega) with rfl | rfl | rfl | rfl | rfl | rfl | rfl | rfl
  · exact sm_nopT (T := sm_T 166) (LA := 93) (fun _ => rfl) rfl
  · exact sm_nopT (T := sm_T 167) (LA := 43) (fun _ => rfl) rfl
  · exact sm_nopT (T := sm_T 168) (LA := 34) (fun _ => rfl) rfl
  · exact sm_nopT (T := sm_T 169) (LA := 10) (fun _ => rfl) rfl
  · exact sm_nopT (T := sm_T 170) (LA := 51) (fun _ => rfl) rfl
  · exact sm_nopT (T := sm_T 171) (LA := 160) (fun _ => rfl) rfl
  · exact sm_nopT (T := sm_T 172) (LA := 65) (fun _ => rfl) rfl
  · exact sm_nopT (T := sm_T 173) (LA := 45) (fun _ => rfl) rfl
theorem sm_nop_21 {j : Nat} (h1 : 174 ≤ j) (h2 : j ≤ 181) : ∀ pc, sm_la j < pc → sm_T j pc = .nop := by
  rcases (show j = 174 ∨ j = 175 ∨ j = 176 ∨ j = 177 ∨ j = 178 ∨ j = 179 ∨ j = 180 ∨ j = 181 by omega) with rfl | rfl | rfl | rfl | rfl | rfl | rfl | rfl
  · exact sm_nopT (T := sm_T 174) (LA := 82) (fun _ => rfl) rfl
  · exact sm_nopT (T := sm_T 175) (LA := 37) (fun _ => rfl) rfl
  · exact sm_nopT (T := sm_T 176) (LA := 204) (fun _ => rfl) rfl
  · exact sm_nopT (T := sm_T 177) (LA := 73) (fun _ => rfl) rfl
  · exact sm_nopT (T := sm_T 178) (LA := 16) (fun _ => rfl) rfl
  · exact sm_nopT (T := sm_T 179) (LA := 22) (fun _ => rfl) rfl
  · exact sm_nopT (T := sm_T 180) (LA := 22) (fun _ => rfl) rfl
  · exact sm_nopT (T := sm_T 181) (LA := 18) (fun _ => rfl) rfl
theorem sm_nop_22 {j : Nat} (h1 : 182 ≤ j) (h2 : j ≤ 189) : ∀ pc, sm_la j < pc → sm_T j pc = .nop := by
  rcases (show j = 182 ∨ j = 183 ∨ j = 184 ∨ j = 185 ∨ j = 186 ∨ j = 187 ∨ j = 188 ∨ j = 189 by omega) with rfl | rfl | rfl | rfl | rfl | rfl | rfl | rfl
  · exact sm_nopT (T := sm_T 182) (LA := 29) (fun _ => rfl) rfl
  · exact sm_nopT (T := sm_T 183) (LA := 29) (fun _ => rfl) rfl
  · exact sm_nopT (T := sm_T 184) (LA := 29) (fun _ => rfl) rfl
  · exact sm_nopT (T := sm_T 185) (LA := 22) (fun _ => rfl) rfl
  · exact sm_nopT (T := sm_T 186) (LA := 22) (fun _ => rfl) rfl
  · exact sm_nopT (T := sm_T 187) (LA := 22) (fun _ => rfl) rfl
  · exact sm_nopT (T := sm_T 188) (LA := 24) (fun _ => rfl) rfl
  · exact sm_nopT (T := sm_T 189) (LA := 26) (fun _ => rfl) rfl
theorem sm_nop_23 {j : Nat} (h1 : 190 ≤ j) (h2 : j ≤ 197) : ∀ pc, sm_la j < pc → sm_T j pc = .nop := by
  rcases (show j = 190 ∨ j = 191 ∨ j = 192 ∨ j = 193 ∨ j = 194 ∨ j = 195 ∨ j = 196 ∨ j = 197 by omega) with rfl | rfl | rfl | rfl | rfl | rfl | rfl | rfl
  · exact sm_nopT (T := sm_T 190) (LA := 24) (fun _ => rfl) rfl
  · exact sm_nopT (T := sm_T 191) (LA := 16) (fun _ => rfl) rfl
  · exact sm_nopT (T := sm_T 192) (LA := 24) (fun _ => rfl) rfl
  · exact sm_nopT (T := sm_T 193) (LA := 24) (fun _ => rfl) rfl
  · exact sm_nopT (T := sm_T 194) (LA := 24) (fun _ => rfl) rfl
  · exact sm_nopT (T := sm_T 195) (LA := 20) (fun _ => rfl) rfl
  · exact sm_nopT (T := sm_T 196) (LA := 18) (fun _ => rfl) rfl
  · exact sm_nopT (T := sm_T 197) (LA := 23) (fun _ => rfl) rfl
theorem sm_nop_24 {j : Nat} (h1 : 198 ≤ j) (h2 : j ≤ 205) : ∀ pc, sm_la j < pc → sm_T j pc = .nop := by
  rcases (show j = 198 ∨ j = 199 ∨ j = 200 ∨ j = 201 ∨ j = 202 ∨ j = 203 ∨ j = 204 ∨ j = 205 by omega) with rfl | rfl | rfl | rfl | rfl | rfl | rfl | rfl
  · exact sm_nopT (T := sm_T 198) (LA := 18) (fun _ => rfl) rfl
  · exact sm_nopT (T := sm_T 199) (LA := 20) (fun _ => rfl) rfl
  · exact sm_nopT (T := sm_T 200) (LA := 19) (fun _ => rfl) rfl
  · exact sm_nopT (T := sm_T 201) (LA := 16) (fun _ => rfl) rfl
  · exact sm_nopT (T := sm_T 202) (LA := 16) (fun _ => rfl) rfl
  · exact sm_nopT (T := sm_T 203) (LA := 22) (fun _ => rfl) rfl
  · exact sm_nopT (T := sm_T 204) (LA := 24) (fun _ => rfl) rfl
  · exact sm_nopT (T := sm_T 205) (LA := 18) (fun _ => rfl) rfl
theorem sm_nop_25 {j : Nat} (h1 : 206 ≤ j) (h2 : j ≤ 213) : ∀ pc, sm_la j < pc → sm_T j pc = .nop := by
  rcases (show j = 206 ∨ j = 207 ∨ j = 208 ∨ j = 209 ∨ j = 210 ∨ j = 211 ∨ j = 212 ∨ j = 213 by omega) with rfl | rfl | rfl | rfl | rfl | rfl | rfl | rfl
  · exact sm_nopT (T := sm_T 206) (LA := 16) (fun _ => rfl) rfl
  · exact sm_nopT (T := sm_T 207) (LA := 16) (fun _ => rfl) rfl
  · exact sm_nopT (T := sm_T 208) (LA := 16) (fun _ => rfl) rfl
  · exact sm_nopT (T := sm_T 209) (LA := 16) (fun _ => rfl) rfl
  · exact sm_nopT (T := sm_T 210) (LA := 18) (fun _ => rfl) rfl
  · exact sm_nopT (T := sm_T 211) (LA := 24) (fun _ => rfl) rfl
  · exact sm_nopT (T := sm_T 212) (LA := 48) (fun _ => rfl) rfl
  · exact sm_nopT (T := sm_T 213) (LA := 211) (fun _ => rfl) rfl
theorem sm_nop_26 {j : Nat} (h1 : 214 ≤ j) (h2 : j ≤ 221) : ∀ pc, sm_la j < pc → sm_T j pc = .nop := by
  rcases (show j = 214 ∨ j = 215 ∨ j = 216 ∨ j = 217 ∨ j = 218 ∨ j = 219 ∨ j = 220 ∨ j = 221 by omega) with rfl | rfl | rfl | rfl | rfl | rfl | rfl | rfl
  · exact sm_nopT (T := sm_T 214) (LA := 43) (fun _ => rfl) rfl
  · exact sm_nopT (T := sm_T 215) (LA := 4) (fun _ => rfl) rfl
  · exact sm_nopT (T := sm_T 216) (LA := 124) (fun _ => rfl) rfl
  · exact sm_nopT (T := sm_T 217) (LA := 104) (fun _ => rfl) rfl
  · exact sm_nopT (T := sm_T 218) (LA := 15) (fun _ => rfl) rfl
  · exact sm_nopT (T := sm_T 219) (LA := 38) (fun _ => rfl) rfl
  · exact sm_nopT (T := sm_T 220) (LA := 39) (fun _ => rfl) rfl
  · exact sm_nopT (T := sm_T 221) (LA := 26) (fun _ => rfl) rfl
theorem sm_nop_27 {j : Nat} (h1 : 222 ≤ j) (h2 : j ≤ 229) : ∀ pc, sm_la j < pc → sm_T j pc = .nop := by
  rcases (show j = 222 ∨ j = 223 ∨ j = 224 ∨ j = 225 ∨ j = 226 ∨ j = 227 ∨ j = 228 ∨ j = 229 by omega) with rfl | rfl | rfl | rfl | rfl | rfl | rfl | rfl
  · exact sm_nopT (T := sm_T 222) (LA := 18) (fun _ => rfl) rfl
  · exact sm_nopT (T := sm_T 223) (LA := 411) (fun _ => rfl) rfl
  · exact sm_nopT (T := sm_T 224) (LA := 143) (fun _ => rfl) rfl
  · exact sm_nopT (T := sm_T 225) (LA := 34) (fun _ => rfl) rfl
  · exact sm_nopT (T := sm_T 226) (LA := 77) (fun _ => rfl) rfl
  · exact sm_nopT (T := sm_T 227) (LA := 17) (fun _ => rfl) rfl
  · exact sm_nopT (T := sm_T 228) (LA := 115) (fun _ => rfl) rfl
  · exact sm_nopT (T := sm_T 229) (LA := 17) (fun _ => rfl) rfl
theorem sm_nop_28 {j : Nat} (h1 : 230 ≤ j) (h2 : j ≤ 237) : ∀ pc, sm_la j < pc → sm_T j pc = .nop := by
  rcases (show j = 230 ∨ j = 231 ∨ j = 232 ∨ j = 233 ∨ j = 234 ∨ j = 235 ∨ j = 236 ∨ j = 237 by omega) with rfl | rfl | rfl | rfl | rfl | rfl | rfl | rfl
  · exact sm_nopT (T := sm_T 230) (LA := 82) (fun _ => rfl) rfl
  · exact sm_nopT (T := sm_T 231) (LA := 27) (fun _ => rfl) rfl
  · exact sm_nopT (T := sm_T 232) (LA := 135) (fun _ => rfl) rfl
  · exact sm_nopT (T := sm_T 233) (LA := 17) (fun _ => rfl) rfl
  · exact sm_nopT (T := sm_T 234) (LA := 51) (fun _ => rfl) rfl
  · exact sm_nopT (T := sm_T 235) (LA := 48) (fun _ => rfl) rfl
  · exact sm_nopT (T := sm_T 236) (LA := 46) (fun _ => rfl) rfl
  · exact sm_nopT (T := sm_T 237) (LA := 207) (fun _ => rfl) rfl
theorem sm_nop_29 {j : Nat} (h1 : 238 ≤ j) (h2 : j ≤ 245) : ∀ pc, sm_la j < pc → sm_T j pc = .nop := by
  rcases (show j = 238 ∨ j = 239 ∨ j = 240 ∨ j = 241 ∨ j = 242 ∨ j = 243 ∨ j = 244 ∨ j = 245 by omega) with rfl | rfl | rfl | rfl | rfl | rfl | rfl | rfl
  · exact sm_nopT (T := sm_T 238) (LA := 13) (fun _ => rfl) rfl
  · exact sm_nopT (T := sm_T 239) (LA := 213) (fun _ => rfl) rfl
  · exact sm_nopT (T := sm_T 240) (LA := 116) (fun _ => rfl) rfl
  · exact sm_nopT (T := sm_T 241) (LA := 279) (fun _ => rfl) rfl
  · exact sm_nopT (T := sm_T 242) (LA := 28) (fun _ => rfl) rfl
  · exact sm_nopT (T := sm_T 243) (LA := 134) (fun _ => rfl) rfl
  · exact sm_nopT (T := sm_T 244) (LA := 236) (fun _ => rfl) rfl
  · exact sm_nopT (T := sm_T 245) (LA := 9) (fun _ => rfl) rfl
theorem sm_nop_30 {j : Nat} (h1 : 246 ≤ j) (h2 : j ≤ 253) : ∀ pc, sm_la j < pc → sm_T j pc = .nop := by
  rcases (show j = 246 ∨ j = 247 ∨ j = 248 ∨ j = 249 ∨ j = 250 ∨ j = 251 ∨ j = 252 ∨ j = 253 by omega) with rfl | rfl | rfl | rfl | rfl | rfl | rfl | rfl
  · exact sm_nopT (T := sm_T 246) (LA := 63) (fun _ => rfl) rfl
  · exact sm_nopT (T := sm_T 247) (LA := 74) (fun _ => rfl) rfl
  · exact sm_nopT (T := sm_T 248) (LA := 13) (fun _ => rfl) rfl
  · exact sm_nopT (T := sm_T 249) (LA := 104) (fun _ => rfl) rfl
  · exact sm_nopT (T := sm_T 250) (LA := 13) (fun _ => rfl) rfl
  · exact sm_nopT (T := sm_T 251) (LA := 58) (fun _ => rfl) rfl
  · exact sm_nopT (T := sm_T 252) (LA := 68) (fun _ => rfl) rfl
  · exact sm_nopT (T := sm_T 253) (LA := 8) (fun _ => rfl) rfl
theorem sm_nop_31 {j : Nat} (h1 : 254 ≤ j) (h2 : j ≤ 261) : ∀ pc, sm_la j < pc → sm_T j pc = .nop := by
  rcases (show j = 254 ∨ j = 255 ∨ j = 256 ∨ j = 257 ∨ j = 258 ∨ j = 259 ∨ j = 260 ∨ j = 261 by omega) with rfl | rfl | rfl | rfl | rfl | rfl | rfl | rfl
  · exact sm_nopT (T := sm_T 254) (LA := 23) (fun _ => rfl) rfl
  · exact sm_nopT (T := sm_T 255) (LA := 80) (fun _ => rfl) rfl
  · exact sm_nopT (T := sm_T 256) (LA := 73) (fun _ => rfl) rfl
  · exact sm_nopT (T := sm_T 257) (LA := 16) (fun _ => rfl) rfl
  · exact sm_nopT (T := sm_T 258) (LA := 91) (fun _ => rfl) rfl
  · exact sm_nopT (T := sm_T 259) (LA := 34) (fun _ => rfl) rfl
  · exact sm_nopT (T := sm_T 260) (LA := 34) (fun _ => rfl) rfl
  · exact sm_nopT (T := sm_T 261) (LA := 57) (fun _ => rfl) rfl
theorem sm_nop_32 {j : Nat} (h1 : 262 ≤ j) (h2 : j ≤ 269) : ∀ pc, sm_la j < pc → sm_T j pc = .nop := by
  rcases (show j = 262 ∨ j = 263 ∨ j = 264 ∨ j = 265 ∨ j = 266 ∨ j = 267 ∨ j = 268 ∨ j = 269 by omega) with rfl | rfl | rfl | rfl | rfl | rfl | rfl | rfl
  · exact sm_nopT (T := sm_T 262) (LA := 74) (fun _ => rfl) rfl
  · exact sm_nopT (T := sm_T 263) (LA := 8) (fun _ => rfl) rfl
  · exact sm_nopT (T := sm_T 264) (LA := 328) (fun _ => rfl) rfl
  · exact sm_nopT (T := sm_T 265) (LA := 129) (fun _ => rfl) rfl
  · exact sm_nopT (T := sm_T 266) (LA := 15) (fun _ => rfl) rfl
  · exact sm_nopT (T := sm_T 267) (LA := 395) (fun _ => rfl) rfl
  · exact sm_nopT (T := sm_T 268) (LA := 129) (fun _ => rfl) rfl
  · exact sm_nopT (T := sm_T 269) (LA := 40) (fun _ => rfl) rfl
theorem sm_nop_33 {j : Nat} (h1 : 270 ≤ j) (h2 : j ≤ 277) : ∀ pc, sm_la j < pc → sm_T j pc = .nop := by
  rcases (show j = 270 ∨ j = 271 ∨ j = 272 ∨ j = 273 ∨ j = 274 ∨ j = 275 ∨ j = 276 ∨ j = 277 by omega) with rfl | rfl | rfl | rfl | rfl | rfl | rfl | rfl
  · exact sm_nopT (T := sm_T 270) (LA := 128) (fun _ => rfl) rfl
  · exact sm_nopT (T := sm_T 271) (LA := 53) (fun _ => rfl) rfl
  · exact sm_nopT (T := sm_T 272) (LA := 27) (fun _ => rfl) rfl
  · exact sm_nopT (T := sm_T 273) (LA := 75) (fun _ => rfl) rfl
  · exact sm_nopT (T := sm_T 274) (LA := 179) (fun _ => rfl) rfl
  · exact sm_nopT (T := sm_T 275) (LA := 49) (fun _ => rfl) rfl
  · exact sm_nopT (T := sm_T 276) (LA := 63) (fun _ => rfl) rfl
  · exact sm_nopT (T := sm_T 277) (LA := 65) (fun _ => rfl) rfl
theorem sm_nop_34 {j : Nat} (h1 : 278 ≤ j) (h2 : j ≤ 285) : ∀ pc, sm_la j < pc → sm_T j pc = .nop := by
  rcases (show j = 278 ∨ j = 279 ∨ j = 280 ∨ j = 281 ∨ j = 282 ∨ j = 283 ∨ j = 284 ∨ j = 285 by omega) with rfl | rfl | rfl | rfl | rfl | rfl | rfl | rfl
  · exact sm_nopT (T := sm_T 278) (LA := 9) (fun _ => rfl) rfl
  · exact sm_nopT (T := sm_T 279) (LA := 98) (fun _ => rfl) rfl
  · exact sm_nopT (T := sm_T 280) (LA := 99) (fun _ => rfl) rfl
  · exact sm_nopT (T := sm_T 281) (LA := 31) (fun _ => rfl) rfl
  · exact sm_nopT (T := sm_T 282) (LA := 49) (fun _ => rfl) rfl
  · exact sm_nopT (T := sm_T 283) (LA := 21) (fun _ => rfl) rfl
  · exact sm_nopT (T := sm_T 284) (LA := 63) (fun _ => rfl) rfl
  · exact sm_nopT (T := sm_T 285) (LA := 275) (fun _ => rfl) rfl
theorem sm_nop_35 {j : Nat} (h1 : 286 ≤ j) (h2 : j ≤ 293) : ∀ pc, sm_la j < pc → sm_T j pc = .nop := by
  rcases (show j = 286 ∨ j = 287 ∨ j = 288 ∨ j = 289 ∨ j = 290 ∨ j = 291 ∨ j = 292 ∨ j = 293 by omega) with rfl | rfl | rfl | rfl | rfl | rfl | rfl | rfl
  · exact sm_nopT (T := sm_T 286) (LA := 52) (fun _ => rfl) rfl
  · exact sm_nopT (T := sm_T 287) (LA := 40) (fun _ => rfl) rfl
  · exact sm_nopT (T := sm_T 288) (LA := 15) (fun _ => rfl) rfl
  · exact sm_nopT (T := sm_T 289) (LA := 25) (fun _ => rfl) rfl
  · exact sm_nopT (T := sm_T 290) (LA := 109) (fun _ => rfl) rfl
  · exact sm_nopT (T := sm_T 291) (LA := 25) (fun _ => rfl) rfl
  · exact sm_nopT (T := sm_T 292) (LA := 95) (fun _ => rfl) rfl
  · exact sm_nopT (T := sm_T 293) (LA := 25) (fun _ => rfl) rfl
theorem sm_nop_36 {j : Nat} (h1 : 294 ≤ j) (h2 : j ≤ 301) : ∀ pc, sm_la j < pc → sm_T j pc = .nop := by
  rcases (show j = 294 ∨ j = 295 ∨ j = 296 ∨ j = 297 ∨ j = 298 ∨ j = 299 ∨ j = 300 ∨ j = 301 by omega) with rfl | rfl | rfl | rfl | rfl | rfl | rfl | rfl
  · exact sm_nopT (T := sm_T 294) (LA := 28) (fun _ => rfl) rfl
  · exact sm_nopT (T := sm_T 295) (LA := 93) (fun _ => rfl) rfl
  · exact sm_nopT (T := sm_T 296) (LA := 15) (fun _ => rfl) rfl
  · exact sm_nopT (T := sm_T 297) (LA := 101) (fun _ => rfl) rfl
  · exact sm_nopT (T := sm_T 298) (LA := 104) (fun _ => rfl) rfl
  · exact sm_nopT (T := sm_T 299) (LA := 124) (fun _ => rfl) rfl
  · exact sm_nopT (T := sm_T 300) (LA := 167) (fun _ => rfl) rfl
  · exact sm_nopT (T := sm_T 301) (LA := 161) (fun _ => rfl) rfl
theorem sm_nop_37 {j : Nat} (h1 : 302 ≤ j) (h2 : j ≤ 309) : ∀ pc, sm_la j < pc → sm_T j pc = .nop := by
  rcases (show j = 302 ∨ j = 303 ∨ j = 304 ∨ j = 305 ∨ j = 306 ∨ j = 307 ∨ j = 308 ∨ j = 309 by omega) with rfl | rfl | rfl | rfl | rfl | rfl | rfl | rfl
  · exact sm_nopT (T := sm_T 302) (LA := 250) (fun _ => rfl) rfl
  · exact sm_nopT (T := sm_T 303) (LA := 143) (fun _ => rfl) rfl
  · exact sm_nopT (T := sm_T 304) (LA := 135) (fun _ => rfl) rfl
  · exact sm_nopT (T := sm_T 305) (LA := 151) (fun _ => rfl) rfl
  · exact sm_nopT (T := sm_T 306) (LA := 107) (fun _ => rfl) rfl
  · exact sm_nopT (T := sm_T 307) (LA := 128) (fun _ => rfl) rfl
  · exact sm_nopT (T := sm_T 308) (LA := 80) (fun _ => rfl) rfl
  · exact sm_nopT (T := sm_T 309) (LA := 38) (fun _ => rfl) rfl
theorem sm_nop_38 {j : Nat} (h1 : 310 ≤ j) (h2 : j ≤ 317) : ∀ pc, sm_la j < pc → sm_T j pc = .nop := by
  rcases (show j = 310 ∨ j = 311 ∨ j = 312 ∨ j = 313 ∨ j = 314 ∨ j = 315 ∨ j = 316 ∨ j = 317 by omega) with rfl | rfl | rfl | rfl | rfl | rfl | rfl | rfl
  · exact sm_nopT (T := sm_T 310) (LA := 135) (fun _ => rfl) rfl
  · exact sm_nopT (T := sm_T 311) (LA := 75) (fun _ => rfl) rfl
  · exact sm_nopT (T := sm_T 312) (LA := 39) (fun _ => rfl) rfl
  · exact sm_nopT (T := sm_T 313) (LA := 160) (fun _ => rfl) rfl
  · exact sm_nopT (T := sm_T 314) (LA := 80) (fun _ => rfl) rfl
  · exact sm_nopT (T := sm_T 315) (LA := 83) (fun _ => rfl) rfl
  · exact sm_nopT (T := sm_T 316) (LA := 44) (fun _ => rfl) rfl
  · exact sm_nopT (T := sm_T 317) (LA := 42) (fun _ => rfl) rfl
theorem sm_nop_39 {j : Nat} (h1 : 318 ≤ j) (h2 : j ≤ 325) : ∀ pc, sm_la j < pc → sm_T j pc = .nop := by
  rcases (show j = 318 ∨ j = 319 ∨ j = 320 ∨ j = 321 ∨ j = 322 ∨ j = 323 ∨ j = 324 ∨ j = 325 by omega) with rfl | rfl | rfl | rfl | rfl | rfl | rfl | rfl
  · exact sm_nopT (T := sm_T 318) (LA := 112) (fun _ => rfl) rfl
  · exact sm_nopT (T := sm_T 319) (LA := 64) (fun _ => rfl) rfl
  · exact sm_nopT (T := sm_T 320) (LA := 87) (fun _ => rfl) rfl
  · exact sm_nopT (T := sm_T 321) (LA := 91) (fun _ => rfl) rfl
  · exact sm_nopT (T := sm_T 322) (LA := 107) (fun _ => rfl) rfl
  · exact sm_nopT (T := sm_T 323) (LA := 29) (fun _ => rfl) rfl
  · exact sm_nopT (T := sm_T 324) (LA := 124) (fun _ => rfl) rfl
  · exact sm_nopT (T := sm_T 325) (LA := 29) (fun _ => rfl) rfl
theorem sm_nop_40 {j : Nat} (h1 : 326 ≤ j) (h2 : j ≤ 333) : ∀ pc, sm_la j < pc → sm_T j pc = .nop := by
  rcases (show j = 326 ∨ j = 327 ∨ j = 328 ∨ j = 329 ∨ j = 330 ∨ j = 331 ∨ j = 332 ∨ j = 333 by omega) with rfl | rfl | rfl | rfl | rfl | rfl | rfl | rfl
  · exact sm_nopT (T := sm_T 326) (LA := 101) (fun _ => rfl) rfl
  · exact sm_nopT (T := sm_T 327) (LA := 96) (fun _ => rfl) rfl
  · exact sm_nopT (T := sm_T 328) (LA := 47) (fun _ => rfl) rfl
  · exact sm_nopT (T := sm_T 329) (LA := 43) (fun _ => rfl) rfl
  · exact sm_nopT (T := sm_T 330) (LA := 93) (fun _ => rfl) rfl
  · exact sm_nopT (T := sm_T 331) (LA := 42) (fun _ => rfl) rfl
  · exact sm_nopT (T := sm_T 332) (LA := 24) (fun _ => rfl) rfl
  · exact sm_nopT (T := sm_T 333) (LA := 41) (fun _ => rfl) rfl
theorem sm_nop_41 {j : Nat} (h1 : 512 ≤ j) (h2 : j ≤ 519) : ∀ pc, sm_la j < pc → sm_T j pc = .nop := by
  rcases (show j = 512 ∨ j = 513 ∨ j = 514 ∨ j = 515 ∨ j = 516 ∨ j = 517 ∨ j = 518 ∨ j = 519 by omega) with rfl | rfl | rfl | rfl | rfl | rfl | rfl | rfl
  · exact sm_nopT (T := sm_T 512) (LA := 226) (fun _ => rfl) rfl
  · exact sm_nopT (T := sm_T 513) (LA := 124) (fun _ => rfl) rfl
  · exact sm_nopT (T := sm_T 514) (LA := 129) (fun _ => rfl) rfl
  · exact sm_nopT (T := sm_T 515) (LA := 93) (fun _ => rfl) rfl
  · exact sm_nopT (T := sm_T 516) (LA := 20) (fun _ => rfl) rfl
  · exact sm_nopT (T := sm_T 517) (LA := 56) (fun _ => rfl) rfl
  · exact sm_nopT (T := sm_T 518) (LA := 77) (fun _ => rfl) rfl
  · exact sm_nopT (T := sm_T 519) (LA := 68) (fun _ => rfl) rfl
theorem sm_nop_42 {j : Nat} (h1 : 520 ≤ j) (h2 : j ≤ 527) : ∀ pc, sm_la j < pc → sm_T j pc = .nop := by
  rcases (show j = 520 ∨ j = 521 ∨ j = 522 ∨ j = 523 ∨ j = 524 ∨ j = 525 ∨ j = 526 ∨ j = 527 by omega) with rfl | rfl | rfl | rfl | rfl | rfl | rfl | rfl
  · exact sm_nopT (T := sm_T 520) (LA := 20) (fun _ => rfl) rfl
  · exact sm_nopT (T := sm_T 521) (LA := 81) (fun _ => rfl) rfl
  · exact sm_nopT (T := sm_T 522) (LA := 13) (fun _ => rfl) rfl
  · exact sm_nopT (T := sm_T 523) (LA := 12) (fun _ => rfl) rfl
  · exact sm_nopT (T := sm_T 524) (LA := 4) (fun _ => rfl) rfl
  · exact sm_nopT (T := sm_T 525) (LA := 13) (fun _ => rfl) rfl
  · exact sm_nopT (T := sm_T 526) (LA := 36) (fun _ => rfl) rfl
  · exact sm_nopT (T := sm_T 527) (LA := 16) (fun _ => rfl) rfl
theorem sm_nop_43 {j : Nat} (h1 : 528 ≤ j) (h2 : j ≤ 530) : ∀ pc, sm_la j < pc → sm_T j pc = .nop := by
  rcases (show j = 528 ∨ j = 529 ∨ j = 530 by omega) with rfl | rfl | rfl
  · exact sm_nopT (T := sm_T 528) (LA := 22) (fun _ => rfl) rfl
  · exact sm_nopT (T := sm_T 529) (LA := 16) (fun _ => rfl) rfl
  · exact sm_nopT (T := sm_T 530) (LA := 403) (fun _ => rfl) rfl
theorem sm_nopL : ∀ pc, sm_la 531 < pc → sm_T 531 pc = .nop := sm_nopT (T := sm_T 531) (LA := 3076) (fun _ => rfl) rfl
theorem sm_nopA {j : Nat} (h5 : 5 < j) (hk : sm_kn j = true) : ∀ pc, sm_la j < pc → sm_T j pc = .nop := by
  have h := sm_kn_of hk
  by_cases h0 : j ≤ 13
  · exact sm_nop_0 (by omega) h0
  by_cases h1 : j ≤ 21
  · exact sm_nop_1 (by omega) h1
  by_cases h2 : j ≤ 29
  · exact sm_nop_2 (by omega) h2
  by_cases h3 : j ≤ 37
  · exact sm_nop_3 (by omega) h3
  by_cases h4 : j ≤ 45
  · exact sm_nop_4 (by omega) h4
  by_cases h5 : j ≤ 53
  · exact sm_nop_5 (by omega) h5
  by_cases h6 : j ≤ 61
  · exact sm_nop_6 (by omega) h6
  by_cases h7 : j ≤ 69
  · exact sm_nop_7 (by omega) h7
  by_cases h8 : j ≤ 77
  · exact sm_nop_8 (by omega) h8
  by_cases h9 : j ≤ 85
  · exact sm_nop_9 (by omega) h9
  by_cases h10 : j ≤ 93
  · exact sm_nop_10 (by omega) h10
  by_cases h11 : j ≤ 101
  · exact sm_nop_11 (by omega) h11
  by_cases h12 : j ≤ 109
  · exact sm_nop_12 (by omega) h12
  by_cases h13 : j ≤ 117
  · exact sm_nop_13 (by omega) h13
  by_cases h14 : j ≤ 125
  · exact sm_nop_14 (by omega) h14
  by_cases h15 : j ≤ 133
  · exact sm_nop_15 (by omega) h15
  by_cases h16 : j ≤ 141
  · exact sm_nop_16 (by omega) h16
  by_cases h17 : j ≤ 149
  · exact sm_nop_17 (by omega) h17
  by_cases h18 : j ≤ 157
  · exact sm_nop_18 (by omega) h18
  by_cases h19 : j ≤ 165
  · exact sm_nop_19 (by omega) h19
  by_cases h20 : j ≤ 173
  · exact sm_nop_20 (by omega) h20
  by_cases h21 : j ≤ 181
  · exact sm_nop_21 (by omega) h21
  by_cases h22 : j ≤ 189
  · exact sm_nop_22 (by omega) h22
  by_cases h23 : j ≤ 197
  · exact sm_nop_23 (by omega) h23
  by_cases h24 : j ≤ 205
  · exact sm_nop_24 (by omega) h24
  by_cases h25 : j ≤ 213
  · exact sm_nop_25 (by omega) h25
  by_cases h26 : j ≤ 221
  · exact sm_nop_26 (by omega) h26
  by_cases h27 : j ≤ 229
  · exact sm_nop_27 (by omega) h27
  by_cases h28 : j ≤ 237
  · exact sm_nop_28 (by omega) h28
  by_cases h29 : j ≤ 245
  · exact sm_nop_29 (by omega) h29
  by_cases h30 : j ≤ 253
  · exact sm_nop_30 (by omega) h30
  by_cases h31 : j ≤ 261
  · exact sm_nop_31 (by omega) h31
  by_cases h32 : j ≤ 269
  · exact sm_nop_32 (by omega) h32
  by_cases h33 : j ≤ 277
  · exact sm_nop_33 (by omega) h33
  by_cases h34 : j ≤ 285
  · exact sm_nop_34 (by omega) h34
  by_cases h35 : j ≤ 293
  · exact sm_nop_35 (by omega) h35
  by_cases h36 : j ≤ 301
  · exact sm_nop_36 (by omega) h36
  by_cases h37 : j ≤ 309
  · exact sm_nop_37 (by omega) h37
  by_cases h38 : j ≤ 317
  · exact sm_nop_38 (by omega) h38
  by_cases h39 : j ≤ 325
  · exact sm_nop_39 (by omega) h39
  by_cases h40 : j ≤ 333
  · exact sm_nop_40 (by omega) h40
  by_cases h41 : j ≤ 519
  · exact sm_nop_41 (by omega) h41
  by_cases h42 : j ≤ 527
  · exact sm_nop_42 (by omega) h42
  by_cases h43 : j ≤ 530
  · exact sm_nop_43 (by omega) h43
  · omega
