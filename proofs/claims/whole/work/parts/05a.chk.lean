/-! what a program checks of the code table: each entry is what the bytes decode to, each link stands in lw_tbl -/
def zil : Instr → Nat
  | .bipush _ => 2 | .sipush _ => 3 | .ldc _ => 2 | .ldc_w _ => 3 | .ldc2_w _ => 3 | .iload _ => 2 | .aload _ => 2 | .istore _ => 2 | .astore _ => 2 | .iinc _ _ => 3
  | .goto _ => 3 | .ifCond _ _ => 3 | .if_icmp _ _ => 3 | .getfield _ => 3 | .putfield _ => 3 | .getstatic _ => 3 | .invokestatic _ => 3 | .invokevirtual _ => 3
  | _ => 1
def zisw : Instr → Bool
  | .tableswitch _ _ _ _ => true | .lookupswitch _ _ => true | _ => false
def zF (ci j : Nat) : String × String × String × Bool := match zget vwCl ci with
  | some q => q.2.1 j
  | none => ("", "", "", true)
def zN (ci : Nat) : Nat := match zget vwCl ci with
  | some q => q.2.2
  | none => 0
def zSt (a : Nat) : String × String := bif Nat.beq a 101 then ("FewSigns$Tables", "REPEATS") else bif Nat.beq a 102 then ("FewSigns", "SORT_PLACES") else ("FewSigns", "SORT_TABLES")
def zlk (own : String) (e : zE) : Bool := match e.2.1 with
  | .getfield i => decide (lw_tbl[e.2.2.2.2.2]? = some (.fieldLink own i (zF e.2.2.2.1 e.2.2.2.2.1).1 (zF e.2.2.2.1 e.2.2.2.2.1).2.1 (zF e.2.2.2.1 e.2.2.2.2.1).2.2.1))
  | .putfield i => decide (lw_tbl[e.2.2.2.2.2]? = some (.fieldLink own i (zF e.2.2.2.1 e.2.2.2.2.1).1 (zF e.2.2.2.1 e.2.2.2.2.1).2.1 (zF e.2.2.2.1 e.2.2.2.2.1).2.2.1)) && decide ((zF e.2.2.2.1 e.2.2.2.2.1).2.2.2 = false) && (decide ((zF e.2.2.2.1 e.2.2.2.2.1).2.2.1 = "I") || (decide ((zF e.2.2.2.1 e.2.2.2.2.1).2.2.1 = "Z") && Nat.beq e.2.2.2.1 1 && Nat.beq e.2.2.2.2.1 8))
  | .getstatic i => decide (lw_tbl[e.2.2.2.2.2]? = some (.fieldLink own i (zSt e.2.2.2.1).1 (zSt e.2.2.2.1).2 "[I"))
  | .invokestatic i => (match zinfo e.2.2.2.1 with
    | some q => decide (lw_tbl[e.2.2.2.2.2]? = some (.methodLink own i q.2.1))
    | none => false)
  | .invokevirtual i => (match zinfo e.2.2.2.1 with
    | some q => decide (lw_tbl[e.2.2.2.2.2]? = some (.methodLink own i q.2.1))
    | none => false)
  | .ldc i => decide (lw_tbl[e.2.2.2.2.2]? = some (.constant own i (nI e.2.2.2.1)))
  | .ldc_w i => decide (lw_tbl[e.2.2.2.2.2]? = some (.constant own i (nI e.2.2.2.1)))
  | .ldc2_w i => decide (lw_tbl[e.2.2.2.2.2]? = some (.constantLong own i (Int64.ofNat e.2.2.2.1)))
  | _ => true
def zok1 (own : String) (bytes : ByteArray) (np : Nat) : Nat → List zE → Bool
  | pc, [] => Nat.beq pc np
  | pc, e :: es => Nat.beq e.1 pc && decide (decode bytes pc = .ok (e.2.1, e.2.2.1)) && (zisw e.2.1 || Nat.beq e.2.2.1 (zil e.2.1)) && zlk own e && zok1 own bytes np (pc + e.2.2.1) es
def zokB (own : String) (bytes : ByteArray) (bl : List (Nat × List zE × Nat)) : Bool := bl.all (fun b => zok1 own bytes b.2.2 b.1 b.2.1)
theorem zo_0 : zokB RX5 cX5_fits zc_0 = true := by decide +kernel
theorem zo_1 : zokB RX5 cX5_full zc_1 = true := by decide +kernel
theorem zo_2 : zokB RX5 cX5_ofPlace zc_2 = true := by decide +kernel
theorem zo_3 : zokB RX5 cX5_bit zc_3 = true := by decide +kernel
theorem zo_4 : zokB RX5 cX5_widened zc_4 = true := by decide +kernel
theorem zo_5 : zokB RX5 cX5_pick zc_5 = true := by decide +kernel
theorem zo_6 : zokB RX5 cX5_tellOfTwo zc_6 = true := by decide +kernel
theorem zo_7 : zokB RX5 cX5_tell zc_7 = true := by decide +kernel
theorem zo_8 : zokB RX5 cX5_toldRows zc_8 = true := by decide +kernel
theorem zo_9 : zokB RX5 cX5_pickedRows zc_9 = true := by decide +kernel
theorem zo_10 : zokB RX5 cX5_otherHalf zc_10 = true := by decide +kernel
theorem zo_11 : zokB RX5 cX5_matteringPlaces zc_11 = true := by decide +kernel
theorem zo_12 : zokB RX5 cX5_keptBits zc_12 = true := by decide +kernel
theorem zo_13 : zokB RX5 cX5_isRising zc_13 = true := by decide +kernel
theorem zo_14 : zokB RX5 cX5_isSum zc_14 = true := by decide +kernel
theorem zo_15 : zokB RX7 cX7_begin zc_15 = true := by decide +kernel
theorem zo_16 : zokB RX7 cX7_with zc_16 = true := by decide +kernel
theorem zo_17 : zokB RX7 cX7_letter zc_17 = true := by decide +kernel
theorem zo_18 : zokB RX7 cX7_part zc_18 = true := by decide +kernel
theorem zo_19 : zokB RX7 cX7_shiftOf zc_19 = true := by decide +kernel
theorem zo_20 : zokB RX0 cX0_becomeX zc_20 = true := by decide +kernel
theorem zo_21 : zokB RX0 cX0_become zc_21 = true := by decide +kernel
theorem zo_22 : zokB RX3 cX3_become zc_22 = true := by decide +kernel
theorem zo_23 : zokB RX3 cX3_preserves zc_23 = true := by decide +kernel
theorem zo_24 : zokB RX4 cX4_has zc_24 = true := by decide +kernel
theorem zo_25 : zokB RX4 cX4_hasAll zc_25 = true := by decide +kernel
theorem zo_26 : zokB RX4 cX4_append zc_26 = true := by decide +kernel
theorem zo_27 : zokB RX4 cX4_ofThreePlaces zc_27 = true := by decide +kernel
theorem zo_28 : zokB RX4 cX4_keptByAll zc_28 = true := by decide +kernel
theorem zo_29 : zokB RX4 cX4_saysAll zc_29 = true := by decide +kernel
theorem zo_30 : zokB RX4 cX4_isLeastSet zc_30 = true := by decide +kernel
theorem zo_31 : zokB RX4 cX4_allPreserve zc_31 = true := by decide +kernel
theorem zo_32 : zokB RX4 cX4_preservedRelations zc_32 = true := by decide +kernel
theorem zo_33 : zokB RX4 cX4_grown zc_33 = true := by decide +kernel
