abbrev sm_CN : Type := Nat → Nat → sm_R → List Value → sm_D → Option (sm_Res × sm_D)
abbrev sm_CX : Type := Nat → List Value → sm_S → Option (sm_Res × sm_S)
def sm_h0 (_ _ : Nat) : Nat := 0
abbrev sm_qN (pc : Nat) (ls : List Value) (x : Nat) (G : sm_G) (L : sm_L) : Option sm_O := some (.inr (pc, ls, 342, sm_R0, x, G, L))
abbrev sm_qI (a : Int32) (x : Nat) (G : sm_G) (L : sm_L) : Option sm_O := some (.inl (.inl (some (.int a)), 342, sm_R0, x, G, L))
abbrev sm_qL (a : Int64) (x : Nat) (G : sm_G) (L : sm_L) : Option sm_O := some (.inl (.inl (some (.long a)), 342, sm_R0, x, G, L))
abbrev sm_qR (a : Nat) (x : Nat) (G : sm_G) (L : sm_L) : Option sm_O := some (.inl (.inl (some (.ref a)), 342, sm_R0, x, G, L))
abbrev sm_qV (x : Nat) (G : sm_G) (L : sm_L) : Option sm_O := some (.inl (.inl none, 342, sm_R0, x, G, L))
abbrev sm_qX (e x : Nat) (G : sm_G) (L : sm_L) : Option sm_O := some (.inl (.inr e, 342, sm_R0, x, G, L))
abbrev sm_ushr (a b : Int32) : Int32 := (a.toUInt32 >>> (b.toUInt32 &&& Int32.toUInt32 31)).toInt32
abbrev sm_lushr (a : Int64) (b : Int32) : Int64 := (a.toUInt64 >>> (b.toInt64.toUInt64 &&& Int64.toUInt64 63)).toInt64
abbrev sm_i2b (a : Int32) : Int32 := a.toInt8.toInt32
def T_Night_doTurn (pc : Nat) : Instr := bif Nat.ble pc 137 then (bif Nat.ble pc 83 then (bif Nat.ble pc 24 then (bif Nat.ble pc 12 then (bif Nat.ble pc 5 then (bif Nat.ble pc 0 then (.aload_n 2) else (bif Nat.ble pc 3 then (.getfield 7341852) else (.istore 4))) else (bif Nat.ble pc 9 then (bif Nat.ble pc 6 then (.aload_n 3) else (.getfield 9896746)) else (bif Nat.ble pc 11 then (.iload 4) else .iaload))) else (bif Nat.ble pc 18 then (bif Nat.ble pc 13 then (.iconst 5) else (bif Nat.ble pc 16 then (.invokestatic 10110981) else (.istore 5))) else (bif Nat.ble pc 20 then (bif Nat.ble pc 19 then (.aload_n 2) else .dup) else (bif Nat.ble pc 23 then (.getfield 7145756) else (.aload_n 3))))) else (bif Nat.ble pc 39 then (bif Nat.ble pc 30 then (bif Nat.ble pc 27 then (.getfield 7864362) else (bif Nat.ble pc 29 then (.iload 4) else .iaload)) else (bif Nat.ble pc 35 then (bif Nat.ble pc 32 then (.bipush 7) else (.if_icmp .ne 40)) else (bif Nat.ble pc 36 then (.iconst 0) else (.goto 41)))) else (bif Nat.ble pc 45 then (bif Nat.ble pc 41 then (bif Nat.ble pc 40 then (.iconst 1) else .iadd) else (bif Nat.ble pc 44 then (.putfield 7145756) else (.aload_n 3))) else (bif Nat.ble pc 50 then (bif Nat.ble pc 48 then (.getfield 7864362) else (.iload 4)) else (bif Nat.ble pc 51 then .iaload else (.tableswitch 233 3 6 #[84, 129, 171, 202])))))) else (bif Nat.ble pc 110 then (bif Nat.ble pc 96 then (bif Nat.ble pc 89 then (bif Nat.ble pc 84 then (.aload_n 2) else (bif Nat.ble pc 87 then (.getfield 10289182) else (.iload 5))) else (bif Nat.ble pc 93 then (bif Nat.ble pc 90 then (.aload_n 3) else (.getfield 8061226)) else (bif Nat.ble pc 95 then (.iload 4) else .iaload))) else (bif Nat.ble pc 102 then (bif Nat.ble pc 98 then (bif Nat.ble pc 97 then .iastore else (.aload_n 2)) else (bif Nat.ble pc 99 then (.aload_n 3) else (.getfield 8061226))) else (bif Nat.ble pc 105 then (bif Nat.ble pc 104 then (.iload 4) else .iaload) else (bif Nat.ble pc 108 then (.ifCond .le 116) else (.iload 4))))) else (bif Nat.ble pc 122 then (bif Nat.ble pc 115 then (bif Nat.ble pc 111 then (.iconst 1) else (bif Nat.ble pc 112 then .iadd else (.goto 123))) else (bif Nat.ble pc 119 then (bif Nat.ble pc 116 then (.aload_n 3) else (.getfield 10486314)) else (bif Nat.ble pc 121 then (.iload 4) else .iaload))) else (bif Nat.ble pc 132 then (bif Nat.ble pc 128 then (bif Nat.ble pc 125 then (.putfield 7341852) else (.goto 244)) else (bif Nat.ble pc 129 then (.aload_n 2) else (.getfield 10289182))) else (bif Nat.ble pc 135 then (bif Nat.ble pc 134 then (.iload 5) else .dup2) else (bif Nat.ble pc 136 then .iaload else (.iconst 1))))))) else (bif Nat.ble pc 188 then (bif Nat.ble pc 162 then (bif Nat.ble pc 147 then (bif Nat.ble pc 140 then (bif Nat.ble pc 138 then .isub else (bif Nat.ble pc 139 then .iastore else (.aload_n 2))) else (bif Nat.ble pc 144 then (bif Nat.ble pc 141 then (.aload_n 2) else (.getfield 10289182)) else (bif Nat.ble pc 146 then (.iload 5) else .iaload))) else (bif Nat.ble pc 154 then (bif Nat.ble pc 150 then (.ifCond .le 161) else (bif Nat.ble pc 151 then (.aload_n 3) else (.getfield 10486314))) else (bif Nat.ble pc 157 then (bif Nat.ble pc 156 then (.iload 4) else .iaload) else (bif Nat.ble pc 160 then (.goto 165) else (.iload 4))))) else (bif Nat.ble pc 173 then (bif Nat.ble pc 167 then (bif Nat.ble pc 163 then (.iconst 1) else (bif Nat.ble pc 164 then .iadd else (.putfield 7341852))) else (bif Nat.ble pc 171 then (bif Nat.ble pc 170 then (.goto 244) else (.aload_n 2)) else (bif Nat.ble pc 172 then (.aload_n 0) else (.aload_n 1)))) else (bif Nat.ble pc 181 then (bif Nat.ble pc 175 then (bif Nat.ble pc 174 then (.aload_n 2) else (.aload_n 3)) else (bif Nat.ble pc 178 then (.invokevirtual 10702942) else (.ifCond .eq 192))) else (bif Nat.ble pc 185 then (bif Nat.ble pc 182 then (.aload_n 3) else (.getfield 10486314)) else (bif Nat.ble pc 187 then (.iload 4) else .iaload))))) else (bif Nat.ble pc 215 then (bif Nat.ble pc 202 then (bif Nat.ble pc 194 then (bif Nat.ble pc 191 then (.goto 196) else (bif Nat.ble pc 193 then (.iload 4) else (.iconst 1))) else (bif Nat.ble pc 198 then (bif Nat.ble pc 195 then .iadd else (.putfield 7341852)) else (bif Nat.ble pc 201 then (.goto 244) else (.aload_n 2)))) else (bif Nat.ble pc 206 then (bif Nat.ble pc 204 then (bif Nat.ble pc 203 then (.aload_n 0) else (.aload_n 1)) else (bif Nat.ble pc 205 then (.aload_n 2) else (.aload_n 3))) else (bif Nat.ble pc 212 then (bif Nat.ble pc 209 then (.invokevirtual 10702942) else (.ifCond .eq 220)) else (bif Nat.ble pc 214 then (.iload 4) else (.iconst 1))))) else (bif Nat.ble pc 229 then (bif Nat.ble pc 220 then (bif Nat.ble pc 216 then .iadd else (bif Nat.ble pc 219 then (.goto 227) else (.aload_n 3))) else (bif Nat.ble pc 225 then (bif Nat.ble pc 223 then (.getfield 10486314) else (.iload 4)) else (bif Nat.ble pc 226 then .iaload else (.putfield 7341852)))) else (bif Nat.ble pc 237 then (bif Nat.ble pc 233 then (bif Nat.ble pc 232 then (.goto 244) else (.aload_n 2)) else (bif Nat.ble pc 234 then (.aload_n 3) else (.getfield 10486314))) else (bif Nat.ble pc 240 then (bif Nat.ble pc 239 then (.iload 4) else .iaload) else (bif Nat.ble pc 243 then (.putfield 7341852) else .return_))))))
def ct_Night_doTurn (pc : Nat) : Nat := bif Nat.beq pc 244 then 9223372036854775808 else bif Nat.beq pc 230 then 9223372036854775808 else bif Nat.beq pc 199 then 9223372036854775808 else bif Nat.beq pc 168 then 9223372036854775808 else bif Nat.beq pc 126 then 9223372036854775808 else bif Nat.beq pc 45 then 63 else 0
set_option maxRecDepth 20000 in
theorem b_Night_doTurn_0 (cn : sm_CN) (cx : sm_CX) (x : Nat) (G : sm_G) (L : sm_L) (r2 r3 : Nat) : sm_blk T_Night_doTurn ct_Night_doTurn sm_h0 cn cx 0 [.ref 63, .ref 109, .ref r2, .ref r3, .null, .null] 342 sm_R0 x G L =
  bif sm_is r2 342 7 then
    (bif sm_is r3 342 10 then
    (bif sm_is (sm_R0 r3 3) 342 20 then (bif sm_in (G r2 7) (sm_N (sm_R0 r3 3)) then
    (sm_aI (cn 5 342 sm_R0 [.int (G (sm_R0 r3 3) ((G r2 7).toNatClampNeg)), .int 5] (x, G, L)) (fun a1 x1 G1 L1 =>
    bif sm_is r2 342 7 then
      (bif sm_is r3 342 10 then
      (bif sm_is (sm_R0 r3 0) 342 20 then (bif sm_in (G r2 7) (sm_N (sm_R0 r3 0)) then
      (if (G1 (sm_R0 r3 0) ((G r2 7).toNatClampNeg)) = 7 then
      (bif sm_is r2 342 7 then
        (sm_qN 45 [.ref 63, .ref 109, .ref r2, .ref r3, .int (G r2 7), .int a1] x1 (sm_up G1 r2 9 ((G1 r2 9) + 0)) L1) else none)
    else bif sm_is r2 342 7 then
      (sm_qN 45 [.ref 63, .ref 109, .ref r2, .ref r3, .int (G r2 7), .int a1] x1 (sm_up G1 r2 9 ((G1 r2 9) + 1)) L1) else none) else none) else none) else none) else none) sm_qX) else none) else none) else none) else none := rfl
set_option maxRecDepth 20000 in
theorem b_Night_doTurn_45 (cn : sm_CN) (cx : sm_CX) (x : Nat) (G : sm_G) (L : sm_L) (r2 r3 : Nat) (v4 v5 : Int32) : sm_blk T_Night_doTurn ct_Night_doTurn sm_h0 cn cx 45 [.ref 63, .ref 109, .ref r2, .ref r3, .int v4, .int v5] 342 sm_R0 x G L =
  bif sm_is r3 342 10 then
    (bif sm_is (sm_R0 r3 0) 342 20 then (bif sm_in v4 (sm_N (sm_R0 r3 0)) then
    (if (G (sm_R0 r3 0) v4.toNatClampNeg) = 3 then
    (bif sm_is r2 342 7 then
      (bif sm_is r3 342 10 then
      (bif sm_is (sm_R0 r3 1) 342 20 then (bif sm_in v4 (sm_N (sm_R0 r3 1)) then
      (bif sm_is (sm_R0 r2 0) 342 20 then (bif sm_in v5 (sm_N (sm_R0 r2 0)) then
      (bif sm_is r3 342 10 then
      (bif sm_is (sm_R0 r3 1) 342 20 then (bif sm_in v4 (sm_N (sm_R0 r3 1)) then
      (if ((sm_up G (sm_R0 r2 0) v5.toNatClampNeg (G (sm_R0 r3 1) v4.toNatClampNeg)) (sm_R0 r3 1) v4.toNatClampNeg) ≤ 0 then
      (bif sm_is r3 342 10 then
        (bif sm_is (sm_R0 r3 2) 342 20 then (bif sm_in v4 (sm_N (sm_R0 r3 2)) then
        (bif sm_is r2 342 7 then
        (sm_qN 126 [.null, .null, .null, .null, .null, .null] x (sm_up (sm_up G (sm_R0 r2 0) v5.toNatClampNeg (G (sm_R0 r3 1) v4.toNatClampNeg)) r2 7 ((sm_up G (sm_R0 r2 0) v5.toNatClampNeg (G (sm_R0 r3 1) v4.toNatClampNeg)) (sm_R0 r3 2) v4.toNatClampNeg)) L) else none) else none) else none) else none)
    else bif sm_is r2 342 7 then
      (sm_qN 126 [.null, .null, .null, .null, .null, .null] x (sm_up (sm_up G (sm_R0 r2 0) v5.toNatClampNeg (G (sm_R0 r3 1) v4.toNatClampNeg)) r2 7 (v4 + 1)) L) else none) else none) else none) else none) else none) else none) else none) else none) else none) else none) else if (G (sm_R0 r3 0) v4.toNatClampNeg) = 4 then
    (bif sm_is r2 342 7 then
      (bif sm_is (sm_R0 r2 0) 342 20 then (bif sm_in v5 (sm_N (sm_R0 r2 0)) then
      (bif sm_is (sm_R0 r2 0) 342 20 then (bif sm_in v5 (sm_N (sm_R0 r2 0)) then
      (bif sm_is r2 342 7 then
      (bif sm_is (sm_R0 r2 0) 342 20 then (bif sm_in v5 (sm_N (sm_R0 r2 0)) then
      (if ((sm_up G (sm_R0 r2 0) v5.toNatClampNeg ((G (sm_R0 r2 0) v5.toNatClampNeg) - 1)) (sm_R0 r2 0) v5.toNatClampNeg) ≤ 0 then
      (bif sm_is r2 342 7 then
        (sm_qN 168 [.null, .null, .null, .null, .null, .null] x (sm_up (sm_up G (sm_R0 r2 0) v5.toNatClampNeg ((G (sm_R0 r2 0) v5.toNatClampNeg) - 1)) r2 7 (v4 + 1)) L) else none)
    else bif sm_is r3 342 10 then
      (bif sm_is (sm_R0 r3 2) 342 20 then (bif sm_in v4 (sm_N (sm_R0 r3 2)) then
      (bif sm_is r2 342 7 then
      (sm_qN 168 [.null, .null, .null, .null, .null, .null] x (sm_up (sm_up G (sm_R0 r2 0) v5.toNatClampNeg ((G (sm_R0 r2 0) v5.toNatClampNeg) - 1)) r2 7 ((sm_up G (sm_R0 r2 0) v5.toNatClampNeg ((G (sm_R0 r2 0) v5.toNatClampNeg) - 1)) (sm_R0 r3 2) v4.toNatClampNeg)) L) else none) else none) else none) else none) else none) else none) else none) else none) else none) else none) else none) else none) else if (G (sm_R0 r3 0) v4.toNatClampNeg) = 5 then
    (sm_aI (cn 94 342 sm_R0 [.ref 63, .ref 109, .ref r2, .ref r3] (x, G, L)) (fun a1 x1 G1 L1 =>
      if a1 = 0 then
        (bif sm_is r2 342 7 then
          (sm_qN 199 [.null, .null, .null, .null, .null, .null] x1 (sm_up G1 r2 7 (v4 + 1)) L1) else none)
      else bif sm_is r3 342 10 then
        (bif sm_is (sm_R0 r3 2) 342 20 then (bif sm_in v4 (sm_N (sm_R0 r3 2)) then
        (bif sm_is r2 342 7 then
        (sm_qN 199 [.null, .null, .null, .null, .null, .null] x1 (sm_up G1 r2 7 (G1 (sm_R0 r3 2) v4.toNatClampNeg)) L1) else none) else none) else none) else none) sm_qX) else if (G (sm_R0 r3 0) v4.toNatClampNeg) = 6 then
    (sm_aI (cn 94 342 sm_R0 [.ref 63, .ref 109, .ref r2, .ref r3] (x, G, L)) (fun a2 x2 G2 L2 =>
      if a2 = 0 then
        (bif sm_is r3 342 10 then
          (bif sm_is (sm_R0 r3 2) 342 20 then (bif sm_in v4 (sm_N (sm_R0 r3 2)) then
          (bif sm_is r2 342 7 then
          (sm_qN 230 [.null, .null, .null, .null, .null, .null] x2 (sm_up G2 r2 7 (G2 (sm_R0 r3 2) v4.toNatClampNeg)) L2) else none) else none) else none) else none)
      else bif sm_is r2 342 7 then
        (sm_qN 230 [.null, .null, .null, .null, .null, .null] x2 (sm_up G2 r2 7 (v4 + 1)) L2) else none) sm_qX) else bif sm_is r3 342 10 then
    (bif sm_is (sm_R0 r3 2) 342 20 then (bif sm_in v4 (sm_N (sm_R0 r3 2)) then
    (bif sm_is r2 342 7 then
    (sm_qN 244 [.null, .null, .null, .null, .null, .null] x (sm_up G r2 7 (G (sm_R0 r3 2) v4.toNatClampNeg)) L) else none) else none) else none) else none) else none) else none) else none := rfl
set_option maxRecDepth 20000 in
theorem b_Night_doTurn_126 (cn : sm_CN) (cx : sm_CX) (x : Nat) (G : sm_G) (L : sm_L) : sm_blk T_Night_doTurn ct_Night_doTurn sm_h0 cn cx 126 [.null, .null, .null, .null, .null, .null] 342 sm_R0 x G L =
  sm_qN 244 [.null, .null, .null, .null, .null, .null] x G L := rfl
set_option maxRecDepth 20000 in
theorem b_Night_doTurn_168 (cn : sm_CN) (cx : sm_CX) (x : Nat) (G : sm_G) (L : sm_L) : sm_blk T_Night_doTurn ct_Night_doTurn sm_h0 cn cx 168 [.null, .null, .null, .null, .null, .null] 342 sm_R0 x G L =
  sm_qN 244 [.null, .null, .null, .null, .null, .null] x G L := rfl
set_option maxRecDepth 20000 in
theorem b_Night_doTurn_199 (cn : sm_CN) (cx : sm_CX) (x : Nat) (G : sm_G) (L : sm_L) : sm_blk T_Night_doTurn ct_Night_doTurn sm_h0 cn cx 199 [.null, .null, .null, .null, .null, .null] 342 sm_R0 x G L =
  sm_qN 244 [.null, .null, .null, .null, .null, .null] x G L := rfl
set_option maxRecDepth 20000 in
theorem b_Night_doTurn_230 (cn : sm_CN) (cx : sm_CX) (x : Nat) (G : sm_G) (L : sm_L) : sm_blk T_Night_doTurn ct_Night_doTurn sm_h0 cn cx 230 [.null, .null, .null, .null, .null, .null] 342 sm_R0 x G L =
  sm_qN 244 [.null, .null, .null, .null, .null, .null] x G L := rfl
set_option maxRecDepth 20000 in
theorem b_Night_doTurn_244 (cn : sm_CN) (cx : sm_CX) (x : Nat) (G : sm_G) (L : sm_L) : sm_blk T_Night_doTurn ct_Night_doTurn sm_h0 cn cx 244 [.null, .null, .null, .null, .null, .null] 342 sm_R0 x G L =
  sm_qV x G L := rfl
