section ZPS
variable {sc : Nat × (Nat → Int32)} {C : Nat → List Value → zM → Option Value → zM → Prop} {J : Nat → List Value → List Value → zM → Prop} {fin : Option Value → zM → Prop} {np pc len a b t : Nat} {es : List zE} {L st : List Value} {M : zM}
theorem p_sld {i : Nat} (hi : i < sc.1) (hn : sc.1 < 2 ^ 31) (h : zwp 47 sc zinfo C J fin np es L (.int (sc.2 i) :: st) M) : zwp 47 sc zinfo C J fin np ((pc, .iaload, len, a, b, t) :: es) L (.int (nI i) :: .ref 100 :: st) M := by
  dsimp only [zwp, zop, zald]
  rw [show zlay 47 100 = none from rfl]
  refine ⟨by decide, by decide, vp_in_nI hi hn, ?_⟩
  rw [nI_clamp (Nat.lt_trans hi hn)]
  exact h
theorem p_sln (h : zwp 47 sc zinfo C J fin np es L (.int (nI sc.1) :: st) M) : zwp 47 sc zinfo C J fin np ((pc, .arraylength, len, a, b, t) :: es) L (.ref 100 :: st) M := by
  dsimp only [zwp, zop, zlen]
  rw [show zlay 47 100 = none from rfl]
  exact ⟨by decide, by decide, h⟩
end ZPS
/-- where the law goes by its switch -/
def lwt (j : Nat) : Nat := [148, 191, 204, 237, 270, 293, 326, 369, 402, 435, 458, 481, 504, 527, 570, 603, 636, 669, 692, 755, 768, 791, 824, 847, 890].getD j 0
def lwv (x y : Int32) : Int64 := (x.toInt64 <<< ((nI 32).toInt64 &&& 63)) ||| (y.toInt64 &&& Int64.ofNat 4294967295)
set_option maxRecDepth 100000 in
set_option maxHeartbeats 4000000 in
theorem lw_hd {sc : Nat × (Nat → Int32)} {r : Option Value} {M' M : zM} {i : Nat} {j : Nat} (hL : sc.1 ≤ 2048) (hi : i + 4 ≤ sc.1) (hj : j ≤ 24) (hx : sc.2 i &&& nI 31 = nI j) (hk : zK 47 sc (zC 47 sc 30) 137 r M' (lwt j) [.ref 100, .ref 0, .ref 33, .int (nI i)] [] M) : zK 47 sc (zC 47 sc 30) 137 r M' 18 [.ref 100, .ref 0, .ref 33, .int (nI i)] [] M := by
  refine zK.blk rfl ?_
  refine p_iloadn_3 ?_
  refine p_aloadn_0 ?_
  refine p_sln ?_
  refine p_iconst (v := nI 4) (by decide) ?_
  refine p_isub ?_
  refine p_icmp_gt (tgt := 919) (by decide) (fun hc23 => ?_) (fun hc23 => ?_)
  · skip
    exact absurd hc23 (by rw [zN_sub (by omega), nI_ltI (by omega) (by omega)]; omega) --STOP
  · skip
    refine p_aloadn_0 ?_
    refine p_iloadn_3 ?_
    refine p_sld (by omega) (by omega) ?_
    refine p_bipush (v := nI 31) (by decide) ?_
    refine p_iand ?_
    refine p_tab (td := 913) (N := 24) (by decide) rfl (by decide) lwt (fun q hq => ?_) (fun h0 => ?_) (fun q hq e => ?_)
    · rcases (show q = 0 ∨ q = 1 ∨ q = 2 ∨ q = 3 ∨ q = 4 ∨ q = 5 ∨ q = 6 ∨ q = 7 ∨ q = 8 ∨ q = 9 ∨ q = 10 ∨ q = 11 ∨ q = 12 ∨ q = 13 ∨ q = 14 ∨ q = 15 ∨ q = 16 ∨ q = 17 ∨ q = 18 ∨ q = 19 ∨ q = 20 ∨ q = 21 ∨ q = 22 ∨ q = 23 ∨ q = 24 by omega) with rfl | rfl | rfl | rfl | rfl | rfl | rfl | rfl | rfl | rfl | rfl | rfl | rfl | rfl | rfl | rfl | rfl | rfl | rfl | rfl | rfl | rfl | rfl | rfl | rfl <;> exact ⟨_, rfl, by decide⟩
    · exact absurd hx (h0 j hj)
    · obtain rfl : q = j := (nI_eq (by omega) (by omega)).mp (e.symm.trans hx)
      exact hk
set_option maxRecDepth 100000 in
set_option maxHeartbeats 4000000 in
theorem lw_df {sc : Nat × (Nat → Int32)} {r : Option Value} {M' M : zM} {i : Nat} (hL : sc.1 ≤ 2048) (hi : i + 4 ≤ sc.1) (hx : ¬ ∃ j, j ≤ 24 ∧ sc.2 i &&& nI 31 = nI j) (hk : zK 47 sc (zC 47 sc 30) 137 r M' 913 [.ref 100, .ref 0, .ref 33, .int (nI i)] [] M) : zK 47 sc (zC 47 sc 30) 137 r M' 18 [.ref 100, .ref 0, .ref 33, .int (nI i)] [] M := by
  refine zK.blk rfl ?_
  refine p_iloadn_3 ?_
  refine p_aloadn_0 ?_
  refine p_sln ?_
  refine p_iconst (v := nI 4) (by decide) ?_
  refine p_isub ?_
  refine p_icmp_gt (tgt := 919) (by decide) (fun hc23 => ?_) (fun hc23 => ?_)
  · skip
    exact absurd hc23 (by rw [zN_sub (by omega), nI_ltI (by omega) (by omega)]; omega) --STOP
  · skip
    refine p_aloadn_0 ?_
    refine p_iloadn_3 ?_
    refine p_sld (by omega) (by omega) ?_
    refine p_bipush (v := nI 31) (by decide) ?_
    refine p_iand ?_
    refine p_tab (td := 913) (N := 24) (by decide) rfl (by decide) lwt (fun q hq => ?_) (fun h0 => ?_) (fun q hq e => ?_)
    · rcases (show q = 0 ∨ q = 1 ∨ q = 2 ∨ q = 3 ∨ q = 4 ∨ q = 5 ∨ q = 6 ∨ q = 7 ∨ q = 8 ∨ q = 9 ∨ q = 10 ∨ q = 11 ∨ q = 12 ∨ q = 13 ∨ q = 14 ∨ q = 15 ∨ q = 16 ∨ q = 17 ∨ q = 18 ∨ q = 19 ∨ q = 20 ∨ q = 21 ∨ q = 22 ∨ q = 23 ∨ q = 24 by omega) with rfl | rfl | rfl | rfl | rfl | rfl | rfl | rfl | rfl | rfl | rfl | rfl | rfl | rfl | rfl | rfl | rfl | rfl | rfl | rfl | rfl | rfl | rfl | rfl | rfl <;> exact ⟨_, rfl, by decide⟩
    · exact hk
    · exact absurd ⟨q, hq, e⟩ hx
theorem lw_gt {n i : Nat} (hn : n ≤ 2048) (hi : i ≤ n) (h : ¬ i + 4 ≤ n) : nI n - nI 4 < nI i := by
  by_cases h4 : 4 ≤ n
  · rw [zN_sub h4, nI_ltI (by omega) (by omega)]; omega
  · rcases (show n = 0 ∨ n = 1 ∨ n = 2 ∨ n = 3 by omega) with rfl | rfl | rfl | rfl
    · exact Int32.lt_of_lt_of_le (show nI 0 - nI 4 < 0 by decide) (nI_pos' (by omega))
    · exact Int32.lt_of_lt_of_le (show nI 1 - nI 4 < 0 by decide) (nI_pos' (by omega))
    · exact Int32.lt_of_lt_of_le (show nI 2 - nI 4 < 0 by decide) (nI_pos' (by omega))
    · exact Int32.lt_of_lt_of_le (show nI 3 - nI 4 < 0 by decide) (nI_pos' (by omega))
set_option maxRecDepth 100000 in
set_option maxHeartbeats 4000000 in
theorem lw_end {sc : Nat × (Nat → Int32)} {M : zM} {i : Nat} (hL : sc.1 ≤ 2048) (hi2 : i ≤ sc.1) (hi : ¬ i + 4 ≤ sc.1) : zK 47 sc (zC 47 sc 30) 137 (some (.int (nI 1))) M 18 [.ref 100, .ref 0, .ref 33, .int (nI i)] [] M := by
  refine zK.blk rfl ?_
  refine p_iloadn_3 ?_
  refine p_aloadn_0 ?_
  refine p_sln ?_
  refine p_iconst (v := nI 4) (by decide) ?_
  refine p_isub ?_
  refine p_icmp_gt (tgt := 919) (by decide) (fun hc23 => ?_) (fun hc23 => ?_)
  · skip
    refine zK.blk rfl ?_
    refine p_iconst (v := nI 1) (by decide) ?_
    exact p_iret (Or.inr rfl) rfl rfl
  · skip
    exact absurd (lw_gt hL hi2 hi) hc23 --STOP
set_option maxRecDepth 100000 in
set_option maxHeartbeats 4000000 in
theorem lw_c0 {sc : Nat × (Nat → Int32)} {r : Option Value} {M' M M1 M2 : zM} {i : Nat} {v : Int32} (hL : sc.1 ≤ 2048) (hi : i + 4 ≤ sc.1) (hc : zC 47 sc 30 56 [.ref 0, .int (sc.2 (i + 1)), .int (sc.2 (i + 2)), .int (sc.2 (i + 3))] M (some (.int v)) M1) (hr : zC 47 sc 30 92 [.ref 33, .int (sc.2 (i + 1)), .int (sc.2 (i + 2)), .int (sc.2 (i + 3))] M1 (some (.int v)) M2) (hk : zK 47 sc (zC 47 sc 30) 137 r M' 913 [.ref 100, .ref 0, .ref 33, .int (nI i)] [] M2) : zK 47 sc (zC 47 sc 30) 137 r M' 148 [.ref 100, .ref 0, .ref 33, .int (nI i)] [] M := by
  refine zK.blk rfl ?_
  refine p_aloadn_1 ?_
  refine p_aloadn_0 ?_
  refine p_iloadn_3 ?_
  refine p_iconst (v := nI 1) (by decide) ?_
  refine p_iaddN ?_
  refine p_sld (by omega) (by omega) ?_
  refine p_aloadn_0 ?_
  refine p_iloadn_3 ?_
  refine p_iconst (v := nI 2) (by decide) ?_
  refine p_iaddN ?_
  refine p_sld (by omega) (by omega) ?_
  refine p_aloadn_0 ?_
  refine p_iloadn_3 ?_
  refine p_iconst (v := nI 3) (by decide) ?_
  refine p_iaddN ?_
  refine p_sld (by omega) (by omega) ?_
  refine p_cv3i rfl rfl rfl rfl rfl (hc) ?_
  refine p_aloadn_2 ?_
  refine p_aloadn_0 ?_
  refine p_iloadn_3 ?_
  refine p_iconst (v := nI 1) (by decide) ?_
  refine p_iaddN ?_
  refine p_sld (by omega) (by omega) ?_
  refine p_aloadn_0 ?_
  refine p_iloadn_3 ?_
  refine p_iconst (v := nI 2) (by decide) ?_
  refine p_iaddN ?_
  refine p_sld (by omega) (by omega) ?_
  refine p_aloadn_0 ?_
  refine p_iloadn_3 ?_
  refine p_iconst (v := nI 3) (by decide) ?_
  refine p_iaddN ?_
  refine p_sld (by omega) (by omega) ?_
  refine p_cv3i rfl rfl rfl rfl rfl (hr) ?_
  refine p_icmp_eq (tgt := 913) (by decide) (fun hc186 => ?_) (fun hc186 => ?_)
  · skip
    exact hk
  · skip
    exact absurd rfl hc186 --STOP
set_option maxRecDepth 100000 in
set_option maxHeartbeats 4000000 in
theorem lw_c1 {sc : Nat × (Nat → Int32)} {r : Option Value} {M' M M1 M2 : zM} {i : Nat} {v : Int32} (hL : sc.1 ≤ 2048) (hi : i + 4 ≤ sc.1) (hc : zC 47 sc 30 57 [.ref 0] M (some (.int v)) M1) (hr : zC 47 sc 30 93 [.ref 33] M1 (some (.int v)) M2) (hk : zK 47 sc (zC 47 sc 30) 137 r M' 913 [.ref 100, .ref 0, .ref 33, .int (nI i)] [] M2) : zK 47 sc (zC 47 sc 30) 137 r M' 191 [.ref 100, .ref 0, .ref 33, .int (nI i)] [] M := by
  refine zK.blk rfl ?_
  refine p_aloadn_1 ?_
  refine p_cv0i rfl rfl rfl rfl rfl (hc) ?_
  refine p_aloadn_2 ?_
  refine p_cv0i rfl rfl rfl rfl rfl (hr) ?_
  refine p_icmp_eq (tgt := 913) (by decide) (fun hc199 => ?_) (fun hc199 => ?_)
  · skip
    exact hk
  · skip
    exact absurd rfl hc199 --STOP
set_option maxRecDepth 100000 in
set_option maxHeartbeats 4000000 in
theorem lw_c2 {sc : Nat × (Nat → Int32)} {r : Option Value} {M' M M1 M2 : zM} {i : Nat} {v : Int32} (hL : sc.1 ≤ 2048) (hi : i + 4 ≤ sc.1) (hc : zC 47 sc 30 58 [.ref 0, .int (sc.2 (i + 1)), .int (sc.2 (i + 2))] M (some (.int v)) M1) (hr : zC 47 sc 30 95 [.ref 33, .int (sc.2 (i + 1)), .int (sc.2 (i + 2))] M1 (some (.int v)) M2) (hk : zK 47 sc (zC 47 sc 30) 137 r M' 913 [.ref 100, .ref 0, .ref 33, .int (nI i)] [] M2) : zK 47 sc (zC 47 sc 30) 137 r M' 204 [.ref 100, .ref 0, .ref 33, .int (nI i)] [] M := by
  refine zK.blk rfl ?_
  refine p_aloadn_1 ?_
  refine p_aloadn_0 ?_
  refine p_iloadn_3 ?_
  refine p_iconst (v := nI 1) (by decide) ?_
  refine p_iaddN ?_
  refine p_sld (by omega) (by omega) ?_
  refine p_aloadn_0 ?_
  refine p_iloadn_3 ?_
  refine p_iconst (v := nI 2) (by decide) ?_
  refine p_iaddN ?_
  refine p_sld (by omega) (by omega) ?_
  refine p_cv2i rfl rfl rfl rfl rfl (hc) ?_
  refine p_aloadn_2 ?_
  refine p_aloadn_0 ?_
  refine p_iloadn_3 ?_
  refine p_iconst (v := nI 1) (by decide) ?_
  refine p_iaddN ?_
  refine p_sld (by omega) (by omega) ?_
  refine p_aloadn_0 ?_
  refine p_iloadn_3 ?_
  refine p_iconst (v := nI 2) (by decide) ?_
  refine p_iaddN ?_
  refine p_sld (by omega) (by omega) ?_
  refine p_cv2i rfl rfl rfl rfl rfl (hr) ?_
  refine p_icmp_eq (tgt := 913) (by decide) (fun hc232 => ?_) (fun hc232 => ?_)
  · skip
    exact hk
  · skip
    exact absurd rfl hc232 --STOP
set_option maxRecDepth 100000 in
set_option maxHeartbeats 4000000 in
theorem lw_c3 {sc : Nat × (Nat → Int32)} {r : Option Value} {M' M M1 M2 : zM} {i : Nat} {v : Int32} (hL : sc.1 ≤ 2048) (hi : i + 4 ≤ sc.1) (hc : zC 47 sc 30 59 [.ref 0, .int (sc.2 (i + 1)), .int (sc.2 (i + 2))] M (some (.int v)) M1) (hr : zC 47 sc 30 96 [.ref 33, .int (sc.2 (i + 1)), .int (sc.2 (i + 2))] M1 (some (.int v)) M2) (hk : zK 47 sc (zC 47 sc 30) 137 r M' 913 [.ref 100, .ref 0, .ref 33, .int (nI i)] [] M2) : zK 47 sc (zC 47 sc 30) 137 r M' 237 [.ref 100, .ref 0, .ref 33, .int (nI i)] [] M := by
  refine zK.blk rfl ?_
  refine p_aloadn_1 ?_
  refine p_aloadn_0 ?_
  refine p_iloadn_3 ?_
  refine p_iconst (v := nI 1) (by decide) ?_
  refine p_iaddN ?_
  refine p_sld (by omega) (by omega) ?_
  refine p_aloadn_0 ?_
  refine p_iloadn_3 ?_
  refine p_iconst (v := nI 2) (by decide) ?_
  refine p_iaddN ?_
  refine p_sld (by omega) (by omega) ?_
  refine p_cv2i rfl rfl rfl rfl rfl (hc) ?_
  refine p_aloadn_2 ?_
  refine p_aloadn_0 ?_
  refine p_iloadn_3 ?_
  refine p_iconst (v := nI 1) (by decide) ?_
  refine p_iaddN ?_
  refine p_sld (by omega) (by omega) ?_
  refine p_aloadn_0 ?_
  refine p_iloadn_3 ?_
  refine p_iconst (v := nI 2) (by decide) ?_
  refine p_iaddN ?_
  refine p_sld (by omega) (by omega) ?_
  refine p_cv2i rfl rfl rfl rfl rfl (hr) ?_
  refine p_icmp_eq (tgt := 913) (by decide) (fun hc265 => ?_) (fun hc265 => ?_)
  · skip
    exact hk
  · skip
    exact absurd rfl hc265 --STOP
set_option maxRecDepth 100000 in
set_option maxHeartbeats 4000000 in
theorem lw_c4 {sc : Nat × (Nat → Int32)} {r : Option Value} {M' M M1 M2 : zM} {i : Nat} {v : Int32} (hL : sc.1 ≤ 2048) (hi : i + 4 ≤ sc.1) (hc : zC 47 sc 30 60 [.ref 0, .int (sc.2 (i + 1))] M (some (.int v)) M1) (hr : zC 47 sc 30 102 [.ref 33, .int (sc.2 (i + 1))] M1 (some (.int v)) M2) (hk : zK 47 sc (zC 47 sc 30) 137 r M' 913 [.ref 100, .ref 0, .ref 33, .int (nI i)] [] M2) : zK 47 sc (zC 47 sc 30) 137 r M' 270 [.ref 100, .ref 0, .ref 33, .int (nI i)] [] M := by
  refine zK.blk rfl ?_
  refine p_aloadn_1 ?_
  refine p_aloadn_0 ?_
  refine p_iloadn_3 ?_
  refine p_iconst (v := nI 1) (by decide) ?_
  refine p_iaddN ?_
  refine p_sld (by omega) (by omega) ?_
  refine p_cv1i rfl rfl rfl rfl rfl (hc) ?_
  refine p_aloadn_2 ?_
  refine p_aloadn_0 ?_
  refine p_iloadn_3 ?_
  refine p_iconst (v := nI 1) (by decide) ?_
  refine p_iaddN ?_
  refine p_sld (by omega) (by omega) ?_
  refine p_cv1i rfl rfl rfl rfl rfl (hr) ?_
  refine p_icmp_eq (tgt := 913) (by decide) (fun hc288 => ?_) (fun hc288 => ?_)
  · skip
    exact hk
  · skip
    exact absurd rfl hc288 --STOP
set_option maxRecDepth 100000 in
set_option maxHeartbeats 4000000 in
theorem lw_c5 {sc : Nat × (Nat → Int32)} {r : Option Value} {M' M M1 M2 : zM} {i : Nat} {v : Int32} (hL : sc.1 ≤ 2048) (hi : i + 4 ≤ sc.1) (hc : zC 47 sc 30 61 [.ref 0, .int (sc.2 (i + 1)), .int (sc.2 (i + 2))] M (some (.int v)) M1) (hr : zC 47 sc 30 103 [.ref 33, .int (sc.2 (i + 1)), .int (sc.2 (i + 2))] M1 (some (.int v)) M2) (hk : zK 47 sc (zC 47 sc 30) 137 r M' 913 [.ref 100, .ref 0, .ref 33, .int (nI i)] [] M2) : zK 47 sc (zC 47 sc 30) 137 r M' 293 [.ref 100, .ref 0, .ref 33, .int (nI i)] [] M := by
  refine zK.blk rfl ?_
  refine p_aloadn_1 ?_
  refine p_aloadn_0 ?_
  refine p_iloadn_3 ?_
  refine p_iconst (v := nI 1) (by decide) ?_
  refine p_iaddN ?_
  refine p_sld (by omega) (by omega) ?_
  refine p_aloadn_0 ?_
  refine p_iloadn_3 ?_
  refine p_iconst (v := nI 2) (by decide) ?_
  refine p_iaddN ?_
  refine p_sld (by omega) (by omega) ?_
  refine p_cv2i rfl rfl rfl rfl rfl (hc) ?_
  refine p_aloadn_2 ?_
  refine p_aloadn_0 ?_
  refine p_iloadn_3 ?_
  refine p_iconst (v := nI 1) (by decide) ?_
  refine p_iaddN ?_
  refine p_sld (by omega) (by omega) ?_
  refine p_aloadn_0 ?_
  refine p_iloadn_3 ?_
  refine p_iconst (v := nI 2) (by decide) ?_
  refine p_iaddN ?_
  refine p_sld (by omega) (by omega) ?_
  refine p_cv2i rfl rfl rfl rfl rfl (hr) ?_
  refine p_icmp_eq (tgt := 913) (by decide) (fun hc321 => ?_) (fun hc321 => ?_)
  · skip
    exact hk
  · skip
    exact absurd rfl hc321 --STOP
set_option maxRecDepth 100000 in
set_option maxHeartbeats 4000000 in
theorem lw_c6 {sc : Nat × (Nat → Int32)} {r : Option Value} {M' M M1 M2 : zM} {i : Nat} {v : Int32} (hL : sc.1 ≤ 2048) (hi : i + 4 ≤ sc.1) (hc : zC 47 sc 30 62 [.ref 0, .int (sc.2 (i + 1)), .int (sc.2 (i + 2)), .int (sc.2 (i + 3))] M (some (.int v)) M1) (hr : zC 47 sc 30 105 [.ref 33, .int (sc.2 (i + 1)), .int (sc.2 (i + 2)), .int (sc.2 (i + 3))] M1 (some (.int v)) M2) (hk : zK 47 sc (zC 47 sc 30) 137 r M' 913 [.ref 100, .ref 0, .ref 33, .int (nI i)] [] M2) : zK 47 sc (zC 47 sc 30) 137 r M' 326 [.ref 100, .ref 0, .ref 33, .int (nI i)] [] M := by
  refine zK.blk rfl ?_
  refine p_aloadn_1 ?_
  refine p_aloadn_0 ?_
  refine p_iloadn_3 ?_
  refine p_iconst (v := nI 1) (by decide) ?_
  refine p_iaddN ?_
  refine p_sld (by omega) (by omega) ?_
  refine p_aloadn_0 ?_
  refine p_iloadn_3 ?_
  refine p_iconst (v := nI 2) (by decide) ?_
  refine p_iaddN ?_
  refine p_sld (by omega) (by omega) ?_
  refine p_aloadn_0 ?_
  refine p_iloadn_3 ?_
  refine p_iconst (v := nI 3) (by decide) ?_
  refine p_iaddN ?_
  refine p_sld (by omega) (by omega) ?_
  refine p_cv3i rfl rfl rfl rfl rfl (hc) ?_
  refine p_aloadn_2 ?_
  refine p_aloadn_0 ?_
  refine p_iloadn_3 ?_
  refine p_iconst (v := nI 1) (by decide) ?_
  refine p_iaddN ?_
  refine p_sld (by omega) (by omega) ?_
  refine p_aloadn_0 ?_
  refine p_iloadn_3 ?_
  refine p_iconst (v := nI 2) (by decide) ?_
  refine p_iaddN ?_
  refine p_sld (by omega) (by omega) ?_
  refine p_aloadn_0 ?_
  refine p_iloadn_3 ?_
  refine p_iconst (v := nI 3) (by decide) ?_
  refine p_iaddN ?_
  refine p_sld (by omega) (by omega) ?_
  refine p_cv3i rfl rfl rfl rfl rfl (hr) ?_
  refine p_icmp_eq (tgt := 913) (by decide) (fun hc364 => ?_) (fun hc364 => ?_)
  · skip
    exact hk
  · skip
    exact absurd rfl hc364 --STOP
set_option maxRecDepth 100000 in
set_option maxHeartbeats 4000000 in
theorem lw_c7 {sc : Nat × (Nat → Int32)} {r : Option Value} {M' M M1 M2 : zM} {i : Nat} {v : Int32} (hL : sc.1 ≤ 2048) (hi : i + 4 ≤ sc.1) (hc : zC 47 sc 30 63 [.ref 0, .int (sc.2 (i + 1)), .int (sc.2 (i + 2))] M (some (.int v)) M1) (hr : zC 47 sc 30 106 [.ref 33, .int (sc.2 (i + 1)), .int (sc.2 (i + 2))] M1 (some (.int v)) M2) (hk : zK 47 sc (zC 47 sc 30) 137 r M' 913 [.ref 100, .ref 0, .ref 33, .int (nI i)] [] M2) : zK 47 sc (zC 47 sc 30) 137 r M' 369 [.ref 100, .ref 0, .ref 33, .int (nI i)] [] M := by
  refine zK.blk rfl ?_
  refine p_aloadn_1 ?_
  refine p_aloadn_0 ?_
  refine p_iloadn_3 ?_
  refine p_iconst (v := nI 1) (by decide) ?_
  refine p_iaddN ?_
  refine p_sld (by omega) (by omega) ?_
  refine p_aloadn_0 ?_
  refine p_iloadn_3 ?_
  refine p_iconst (v := nI 2) (by decide) ?_
  refine p_iaddN ?_
  refine p_sld (by omega) (by omega) ?_
  refine p_cv2i rfl rfl rfl rfl rfl (hc) ?_
  refine p_aloadn_2 ?_
  refine p_aloadn_0 ?_
  refine p_iloadn_3 ?_
  refine p_iconst (v := nI 1) (by decide) ?_
  refine p_iaddN ?_
  refine p_sld (by omega) (by omega) ?_
  refine p_aloadn_0 ?_
  refine p_iloadn_3 ?_
  refine p_iconst (v := nI 2) (by decide) ?_
  refine p_iaddN ?_
  refine p_sld (by omega) (by omega) ?_
  refine p_cv2i rfl rfl rfl rfl rfl (hr) ?_
  refine p_icmp_eq (tgt := 913) (by decide) (fun hc397 => ?_) (fun hc397 => ?_)
  · skip
    exact hk
  · skip
    exact absurd rfl hc397 --STOP
set_option maxRecDepth 100000 in
set_option maxHeartbeats 4000000 in
theorem lw_c8 {sc : Nat × (Nat → Int32)} {r : Option Value} {M' M M1 M2 : zM} {i : Nat} {v : Int32} (hL : sc.1 ≤ 2048) (hi : i + 4 ≤ sc.1) (hc : zC 47 sc 30 64 [.ref 0, .int (sc.2 (i + 1)), .int (sc.2 (i + 2))] M (some (.int v)) M1) (hr : zC 47 sc 30 107 [.ref 33, .int (sc.2 (i + 1)), .int (sc.2 (i + 2))] M1 (some (.int v)) M2) (hk : zK 47 sc (zC 47 sc 30) 137 r M' 913 [.ref 100, .ref 0, .ref 33, .int (nI i)] [] M2) : zK 47 sc (zC 47 sc 30) 137 r M' 402 [.ref 100, .ref 0, .ref 33, .int (nI i)] [] M := by
  refine zK.blk rfl ?_
  refine p_aloadn_1 ?_
  refine p_aloadn_0 ?_
  refine p_iloadn_3 ?_
  refine p_iconst (v := nI 1) (by decide) ?_
  refine p_iaddN ?_
  refine p_sld (by omega) (by omega) ?_
  refine p_aloadn_0 ?_
  refine p_iloadn_3 ?_
  refine p_iconst (v := nI 2) (by decide) ?_
  refine p_iaddN ?_
  refine p_sld (by omega) (by omega) ?_
  refine p_cv2i rfl rfl rfl rfl rfl (hc) ?_
  refine p_aloadn_2 ?_
  refine p_aloadn_0 ?_
  refine p_iloadn_3 ?_
  refine p_iconst (v := nI 1) (by decide) ?_
  refine p_iaddN ?_
  refine p_sld (by omega) (by omega) ?_
  refine p_aloadn_0 ?_
  refine p_iloadn_3 ?_
  refine p_iconst (v := nI 2) (by decide) ?_
  refine p_iaddN ?_
  refine p_sld (by omega) (by omega) ?_
  refine p_cv2i rfl rfl rfl rfl rfl (hr) ?_
  refine p_icmp_eq (tgt := 913) (by decide) (fun hc430 => ?_) (fun hc430 => ?_)
  · skip
    exact hk
  · skip
    exact absurd rfl hc430 --STOP
set_option maxRecDepth 100000 in
set_option maxHeartbeats 4000000 in
theorem lw_c9 {sc : Nat × (Nat → Int32)} {r : Option Value} {M' M M1 M2 : zM} {i : Nat} {v : Int32} (hL : sc.1 ≤ 2048) (hi : i + 4 ≤ sc.1) (hc : zC 47 sc 30 65 [.ref 0, .int (sc.2 (i + 1))] M (some (.int v)) M1) (hr : zC 47 sc 30 110 [.ref 33, .int (sc.2 (i + 1))] M1 (some (.int v)) M2) (hk : zK 47 sc (zC 47 sc 30) 137 r M' 913 [.ref 100, .ref 0, .ref 33, .int (nI i)] [] M2) : zK 47 sc (zC 47 sc 30) 137 r M' 435 [.ref 100, .ref 0, .ref 33, .int (nI i)] [] M := by
  refine zK.blk rfl ?_
  refine p_aloadn_1 ?_
  refine p_aloadn_0 ?_
  refine p_iloadn_3 ?_
  refine p_iconst (v := nI 1) (by decide) ?_
  refine p_iaddN ?_
  refine p_sld (by omega) (by omega) ?_
  refine p_cv1i rfl rfl rfl rfl rfl (hc) ?_
  refine p_aloadn_2 ?_
  refine p_aloadn_0 ?_
  refine p_iloadn_3 ?_
  refine p_iconst (v := nI 1) (by decide) ?_
  refine p_iaddN ?_
  refine p_sld (by omega) (by omega) ?_
  refine p_cv1i rfl rfl rfl rfl rfl (hr) ?_
  refine p_icmp_eq (tgt := 913) (by decide) (fun hc453 => ?_) (fun hc453 => ?_)
  · skip
    exact hk
  · skip
    exact absurd rfl hc453 --STOP
set_option maxRecDepth 100000 in
set_option maxHeartbeats 4000000 in
theorem lw_c10 {sc : Nat × (Nat → Int32)} {r : Option Value} {M' M M1 M2 : zM} {i : Nat} {v : Int32} (hL : sc.1 ≤ 2048) (hi : i + 4 ≤ sc.1) (hc : zC 47 sc 30 66 [.ref 0, .int (sc.2 (i + 1))] M (some (.int v)) M1) (hr : zC 47 sc 30 111 [.ref 33, .int (sc.2 (i + 1))] M1 (some (.int v)) M2) (hk : zK 47 sc (zC 47 sc 30) 137 r M' 913 [.ref 100, .ref 0, .ref 33, .int (nI i)] [] M2) : zK 47 sc (zC 47 sc 30) 137 r M' 458 [.ref 100, .ref 0, .ref 33, .int (nI i)] [] M := by
  refine zK.blk rfl ?_
  refine p_aloadn_1 ?_
  refine p_aloadn_0 ?_
  refine p_iloadn_3 ?_
  refine p_iconst (v := nI 1) (by decide) ?_
  refine p_iaddN ?_
  refine p_sld (by omega) (by omega) ?_
  refine p_cv1i rfl rfl rfl rfl rfl (hc) ?_
  refine p_aloadn_2 ?_
  refine p_aloadn_0 ?_
  refine p_iloadn_3 ?_
  refine p_iconst (v := nI 1) (by decide) ?_
  refine p_iaddN ?_
  refine p_sld (by omega) (by omega) ?_
  refine p_cv1i rfl rfl rfl rfl rfl (hr) ?_
  refine p_icmp_eq (tgt := 913) (by decide) (fun hc476 => ?_) (fun hc476 => ?_)
  · skip
    exact hk
  · skip
    exact absurd rfl hc476 --STOP
set_option maxRecDepth 100000 in
set_option maxHeartbeats 4000000 in
theorem lw_c11 {sc : Nat × (Nat → Int32)} {r : Option Value} {M' M M1 M2 : zM} {i : Nat} {v : Int32} (hL : sc.1 ≤ 2048) (hi : i + 4 ≤ sc.1) (hc : zC 47 sc 30 67 [.ref 0, .int (sc.2 (i + 1))] M (some (.int v)) M1) (hr : zC 47 sc 30 113 [.ref 33, .int (sc.2 (i + 1))] M1 (some (.int v)) M2) (hk : zK 47 sc (zC 47 sc 30) 137 r M' 913 [.ref 100, .ref 0, .ref 33, .int (nI i)] [] M2) : zK 47 sc (zC 47 sc 30) 137 r M' 481 [.ref 100, .ref 0, .ref 33, .int (nI i)] [] M := by
  refine zK.blk rfl ?_
  refine p_aloadn_1 ?_
  refine p_aloadn_0 ?_
  refine p_iloadn_3 ?_
  refine p_iconst (v := nI 1) (by decide) ?_
  refine p_iaddN ?_
  refine p_sld (by omega) (by omega) ?_
  refine p_cv1i rfl rfl rfl rfl rfl (hc) ?_
  refine p_aloadn_2 ?_
  refine p_aloadn_0 ?_
  refine p_iloadn_3 ?_
  refine p_iconst (v := nI 1) (by decide) ?_
  refine p_iaddN ?_
  refine p_sld (by omega) (by omega) ?_
  refine p_cv1i rfl rfl rfl rfl rfl (hr) ?_
  refine p_icmp_eq (tgt := 913) (by decide) (fun hc499 => ?_) (fun hc499 => ?_)
  · skip
    exact hk
  · skip
    exact absurd rfl hc499 --STOP
set_option maxRecDepth 100000 in
set_option maxHeartbeats 4000000 in
theorem lw_c12 {sc : Nat × (Nat → Int32)} {r : Option Value} {M' M M1 M2 : zM} {i : Nat} {v : Int32} (hL : sc.1 ≤ 2048) (hi : i + 4 ≤ sc.1) (hc : zC 47 sc 30 68 [.ref 0, .int (sc.2 (i + 1))] M (some (.int v)) M1) (hr : zC 47 sc 30 114 [.ref 33, .int (sc.2 (i + 1))] M1 (some (.int v)) M2) (hk : zK 47 sc (zC 47 sc 30) 137 r M' 913 [.ref 100, .ref 0, .ref 33, .int (nI i)] [] M2) : zK 47 sc (zC 47 sc 30) 137 r M' 504 [.ref 100, .ref 0, .ref 33, .int (nI i)] [] M := by
  refine zK.blk rfl ?_
  refine p_aloadn_1 ?_
  refine p_aloadn_0 ?_
  refine p_iloadn_3 ?_
  refine p_iconst (v := nI 1) (by decide) ?_
  refine p_iaddN ?_
  refine p_sld (by omega) (by omega) ?_
  refine p_cv1i rfl rfl rfl rfl rfl (hc) ?_
  refine p_aloadn_2 ?_
  refine p_aloadn_0 ?_
  refine p_iloadn_3 ?_
  refine p_iconst (v := nI 1) (by decide) ?_
  refine p_iaddN ?_
  refine p_sld (by omega) (by omega) ?_
  refine p_cv1i rfl rfl rfl rfl rfl (hr) ?_
  refine p_icmp_eq (tgt := 913) (by decide) (fun hc522 => ?_) (fun hc522 => ?_)
  · skip
    exact hk
  · skip
    exact absurd rfl hc522 --STOP
set_option maxRecDepth 100000 in
set_option maxHeartbeats 4000000 in
theorem lw_c13 {sc : Nat × (Nat → Int32)} {r : Option Value} {M' M M1 M2 : zM} {i : Nat} {v : Int32} (hL : sc.1 ≤ 2048) (hi : i + 4 ≤ sc.1) (hc : zC 47 sc 30 69 [.ref 0, .int (sc.2 (i + 1)), .int (sc.2 (i + 2)), .int (sc.2 (i + 3))] M (some (.int v)) M1) (hr : zC 47 sc 30 119 [.ref 33, .int (sc.2 (i + 1)), .int (sc.2 (i + 2)), .int (sc.2 (i + 3))] M1 (some (.int v)) M2) (hk : zK 47 sc (zC 47 sc 30) 137 r M' 913 [.ref 100, .ref 0, .ref 33, .int (nI i)] [] M2) : zK 47 sc (zC 47 sc 30) 137 r M' 527 [.ref 100, .ref 0, .ref 33, .int (nI i)] [] M := by
  refine zK.blk rfl ?_
  refine p_aloadn_1 ?_
  refine p_aloadn_0 ?_
  refine p_iloadn_3 ?_
  refine p_iconst (v := nI 1) (by decide) ?_
  refine p_iaddN ?_
  refine p_sld (by omega) (by omega) ?_
  refine p_aloadn_0 ?_
  refine p_iloadn_3 ?_
  refine p_iconst (v := nI 2) (by decide) ?_
  refine p_iaddN ?_
  refine p_sld (by omega) (by omega) ?_
  refine p_aloadn_0 ?_
  refine p_iloadn_3 ?_
  refine p_iconst (v := nI 3) (by decide) ?_
  refine p_iaddN ?_
  refine p_sld (by omega) (by omega) ?_
  refine p_cv3i rfl rfl rfl rfl rfl (hc) ?_
  refine p_aloadn_2 ?_
  refine p_aloadn_0 ?_
  refine p_iloadn_3 ?_
  refine p_iconst (v := nI 1) (by decide) ?_
  refine p_iaddN ?_
  refine p_sld (by omega) (by omega) ?_
  refine p_aloadn_0 ?_
  refine p_iloadn_3 ?_
  refine p_iconst (v := nI 2) (by decide) ?_
  refine p_iaddN ?_
  refine p_sld (by omega) (by omega) ?_
  refine p_aloadn_0 ?_
  refine p_iloadn_3 ?_
  refine p_iconst (v := nI 3) (by decide) ?_
  refine p_iaddN ?_
  refine p_sld (by omega) (by omega) ?_
  refine p_cv3i rfl rfl rfl rfl rfl (hr) ?_
  refine p_icmp_eq (tgt := 913) (by decide) (fun hc565 => ?_) (fun hc565 => ?_)
  · skip
    exact hk
  · skip
    exact absurd rfl hc565 --STOP
set_option maxRecDepth 100000 in
set_option maxHeartbeats 4000000 in
theorem lw_c14 {sc : Nat × (Nat → Int32)} {r : Option Value} {M' M M1 M2 : zM} {i : Nat} {v : Int32} (hL : sc.1 ≤ 2048) (hi : i + 4 ≤ sc.1) (hc : zC 47 sc 30 70 [.ref 0, .int (sc.2 (i + 1)), .int (sc.2 (i + 2))] M (some (.int v)) M1) (hr : zC 47 sc 30 121 [.ref 33, .int (sc.2 (i + 1)), .int (sc.2 (i + 2))] M1 (some (.int v)) M2) (hk : zK 47 sc (zC 47 sc 30) 137 r M' 913 [.ref 100, .ref 0, .ref 33, .int (nI i)] [] M2) : zK 47 sc (zC 47 sc 30) 137 r M' 570 [.ref 100, .ref 0, .ref 33, .int (nI i)] [] M := by
  refine zK.blk rfl ?_
  refine p_aloadn_1 ?_
  refine p_aloadn_0 ?_
  refine p_iloadn_3 ?_
  refine p_iconst (v := nI 1) (by decide) ?_
  refine p_iaddN ?_
  refine p_sld (by omega) (by omega) ?_
  refine p_aloadn_0 ?_
  refine p_iloadn_3 ?_
  refine p_iconst (v := nI 2) (by decide) ?_
  refine p_iaddN ?_
  refine p_sld (by omega) (by omega) ?_
  refine p_cv2i rfl rfl rfl rfl rfl (hc) ?_
  refine p_aloadn_2 ?_
  refine p_aloadn_0 ?_
  refine p_iloadn_3 ?_
  refine p_iconst (v := nI 1) (by decide) ?_
  refine p_iaddN ?_
  refine p_sld (by omega) (by omega) ?_
  refine p_aloadn_0 ?_
  refine p_iloadn_3 ?_
  refine p_iconst (v := nI 2) (by decide) ?_
  refine p_iaddN ?_
  refine p_sld (by omega) (by omega) ?_
  refine p_cv2i rfl rfl rfl rfl rfl (hr) ?_
  refine p_icmp_eq (tgt := 913) (by decide) (fun hc598 => ?_) (fun hc598 => ?_)
  · skip
    exact hk
  · skip
    exact absurd rfl hc598 --STOP
set_option maxRecDepth 100000 in
set_option maxHeartbeats 4000000 in
theorem lw_c15 {sc : Nat × (Nat → Int32)} {r : Option Value} {M' M M1 M2 : zM} {i : Nat} {v : Int32} (hL : sc.1 ≤ 2048) (hi : i + 4 ≤ sc.1) (hc : zC 47 sc 30 71 [.ref 0, .int (sc.2 (i + 1)), .int (sc.2 (i + 2))] M (some (.int v)) M1) (hr : zC 47 sc 30 122 [.ref 33, .int (sc.2 (i + 1)), .int (sc.2 (i + 2))] M1 (some (.int v)) M2) (hk : zK 47 sc (zC 47 sc 30) 137 r M' 913 [.ref 100, .ref 0, .ref 33, .int (nI i)] [] M2) : zK 47 sc (zC 47 sc 30) 137 r M' 603 [.ref 100, .ref 0, .ref 33, .int (nI i)] [] M := by
  refine zK.blk rfl ?_
  refine p_aloadn_1 ?_
  refine p_aloadn_0 ?_
  refine p_iloadn_3 ?_
  refine p_iconst (v := nI 1) (by decide) ?_
  refine p_iaddN ?_
  refine p_sld (by omega) (by omega) ?_
  refine p_aloadn_0 ?_
  refine p_iloadn_3 ?_
  refine p_iconst (v := nI 2) (by decide) ?_
  refine p_iaddN ?_
  refine p_sld (by omega) (by omega) ?_
  refine p_cv2i rfl rfl rfl rfl rfl (hc) ?_
  refine p_aloadn_2 ?_
  refine p_aloadn_0 ?_
  refine p_iloadn_3 ?_
  refine p_iconst (v := nI 1) (by decide) ?_
  refine p_iaddN ?_
  refine p_sld (by omega) (by omega) ?_
  refine p_aloadn_0 ?_
  refine p_iloadn_3 ?_
  refine p_iconst (v := nI 2) (by decide) ?_
  refine p_iaddN ?_
  refine p_sld (by omega) (by omega) ?_
  refine p_cv2i rfl rfl rfl rfl rfl (hr) ?_
  refine p_icmp_eq (tgt := 913) (by decide) (fun hc631 => ?_) (fun hc631 => ?_)
  · skip
    exact hk
  · skip
    exact absurd rfl hc631 --STOP
set_option maxRecDepth 100000 in
set_option maxHeartbeats 4000000 in
theorem lw_c16 {sc : Nat × (Nat → Int32)} {r : Option Value} {M' M M1 M2 : zM} {i : Nat} {v : Int32} (hL : sc.1 ≤ 2048) (hi : i + 4 ≤ sc.1) (hc : zC 47 sc 30 72 [.ref 0, .int (sc.2 (i + 1)), .int (sc.2 (i + 2))] M (some (.int v)) M1) (hr : zC 47 sc 30 123 [.ref 33, .int (sc.2 (i + 1)), .int (sc.2 (i + 2))] M1 (some (.int v)) M2) (hk : zK 47 sc (zC 47 sc 30) 137 r M' 913 [.ref 100, .ref 0, .ref 33, .int (nI i)] [] M2) : zK 47 sc (zC 47 sc 30) 137 r M' 636 [.ref 100, .ref 0, .ref 33, .int (nI i)] [] M := by
  refine zK.blk rfl ?_
  refine p_aloadn_1 ?_
  refine p_aloadn_0 ?_
  refine p_iloadn_3 ?_
  refine p_iconst (v := nI 1) (by decide) ?_
  refine p_iaddN ?_
  refine p_sld (by omega) (by omega) ?_
  refine p_aloadn_0 ?_
  refine p_iloadn_3 ?_
  refine p_iconst (v := nI 2) (by decide) ?_
  refine p_iaddN ?_
  refine p_sld (by omega) (by omega) ?_
  refine p_cv2i rfl rfl rfl rfl rfl (hc) ?_
  refine p_aloadn_2 ?_
  refine p_aloadn_0 ?_
  refine p_iloadn_3 ?_
  refine p_iconst (v := nI 1) (by decide) ?_
  refine p_iaddN ?_
  refine p_sld (by omega) (by omega) ?_
  refine p_aloadn_0 ?_
  refine p_iloadn_3 ?_
  refine p_iconst (v := nI 2) (by decide) ?_
  refine p_iaddN ?_
  refine p_sld (by omega) (by omega) ?_
  refine p_cv2i rfl rfl rfl rfl rfl (hr) ?_
  refine p_icmp_eq (tgt := 913) (by decide) (fun hc664 => ?_) (fun hc664 => ?_)
  · skip
    exact hk
  · skip
    exact absurd rfl hc664 --STOP
set_option maxRecDepth 100000 in
set_option maxHeartbeats 4000000 in
theorem lw_c17 {sc : Nat × (Nat → Int32)} {r : Option Value} {M' M M1 M2 : zM} {i : Nat} {v : Int32} (hL : sc.1 ≤ 2048) (hi : i + 4 ≤ sc.1) (hc : zC 47 sc 30 73 [.ref 0, .int (sc.2 (i + 1))] M (some (.int v)) M1) (hr : zC 47 sc 30 124 [.ref 33, .int (sc.2 (i + 1))] M1 (some (.int v)) M2) (hk : zK 47 sc (zC 47 sc 30) 137 r M' 913 [.ref 100, .ref 0, .ref 33, .int (nI i)] [] M2) : zK 47 sc (zC 47 sc 30) 137 r M' 669 [.ref 100, .ref 0, .ref 33, .int (nI i)] [] M := by
  refine zK.blk rfl ?_
  refine p_aloadn_1 ?_
  refine p_aloadn_0 ?_
  refine p_iloadn_3 ?_
  refine p_iconst (v := nI 1) (by decide) ?_
  refine p_iaddN ?_
  refine p_sld (by omega) (by omega) ?_
  refine p_cv1i rfl rfl rfl rfl rfl (hc) ?_
  refine p_aloadn_2 ?_
  refine p_aloadn_0 ?_
  refine p_iloadn_3 ?_
  refine p_iconst (v := nI 1) (by decide) ?_
  refine p_iaddN ?_
  refine p_sld (by omega) (by omega) ?_
  refine p_cv1i rfl rfl rfl rfl rfl (hr) ?_
  refine p_icmp_eq (tgt := 913) (by decide) (fun hc687 => ?_) (fun hc687 => ?_)
  · skip
    exact hk
  · skip
    exact absurd rfl hc687 --STOP
set_option maxRecDepth 100000 in
set_option maxHeartbeats 4000000 in
theorem lw_c18 {sc : Nat × (Nat → Int32)} {r : Option Value} {M' M M1 M2 : zM} {i : Nat} {v : Int32} (hL : sc.1 ≤ 2048) (hi : i + 4 ≤ sc.1) (hc : zC 47 sc 30 74 [.ref 0, .long (lwv (sc.2 (i + 1)) (sc.2 (i + 2))), .int (sc.2 (i + 3))] M (some (.int v)) M1) (hr : zC 47 sc 30 125 [.ref 33, .long (lwv (sc.2 (i + 1)) (sc.2 (i + 2))), .int (sc.2 (i + 3))] M1 (some (.int v)) M2) (hk : zK 47 sc (zC 47 sc 30) 137 r M' 913 [.ref 100, .ref 0, .ref 33, .int (nI i)] [] M2) : zK 47 sc (zC 47 sc 30) 137 r M' 692 [.ref 100, .ref 0, .ref 33, .int (nI i)] [] M := by
  refine zK.blk rfl ?_
  refine p_aloadn_1 ?_
  refine p_aloadn_0 ?_
  refine p_iloadn_3 ?_
  refine p_iconst (v := nI 1) (by decide) ?_
  refine p_iaddN ?_
  refine p_sld (by omega) (by omega) ?_
  refine p_i2l ?_
  refine p_bipush (v := nI 32) (by decide) ?_
  refine p_lshl ?_
  refine p_aloadn_0 ?_
  refine p_iloadn_3 ?_
  refine p_iconst (v := nI 2) (by decide) ?_
  refine p_iaddN ?_
  refine p_sld (by omega) (by omega) ?_
  refine p_i2l ?_
  refine p_ldc2 ?_
  refine p_land ?_
  refine p_lor ?_
  refine p_aloadn_0 ?_
  refine p_iloadn_3 ?_
  refine p_iconst (v := nI 3) (by decide) ?_
  refine p_iaddN ?_
  refine p_sld (by omega) (by omega) ?_
  refine p_cv2i rfl rfl rfl rfl rfl (hc) ?_
  refine p_aloadn_2 ?_
  refine p_aloadn_0 ?_
  refine p_iloadn_3 ?_
  refine p_iconst (v := nI 1) (by decide) ?_
  refine p_iaddN ?_
  refine p_sld (by omega) (by omega) ?_
  refine p_i2l ?_
  refine p_bipush (v := nI 32) (by decide) ?_
  refine p_lshl ?_
  refine p_aloadn_0 ?_
  refine p_iloadn_3 ?_
  refine p_iconst (v := nI 2) (by decide) ?_
  refine p_iaddN ?_
  refine p_sld (by omega) (by omega) ?_
  refine p_i2l ?_
  refine p_ldc2 ?_
  refine p_land ?_
  refine p_lor ?_
  refine p_aloadn_0 ?_
  refine p_iloadn_3 ?_
  refine p_iconst (v := nI 3) (by decide) ?_
  refine p_iaddN ?_
  refine p_sld (by omega) (by omega) ?_
  refine p_cv2i rfl rfl rfl rfl rfl (hr) ?_
  refine p_icmp_eq (tgt := 913) (by decide) (fun hc750 => ?_) (fun hc750 => ?_)
  · skip
    exact hk
  · skip
    exact absurd rfl hc750 --STOP
set_option maxRecDepth 100000 in
set_option maxHeartbeats 4000000 in
theorem lw_c19 {sc : Nat × (Nat → Int32)} {r : Option Value} {M' M M1 M2 : zM} {i : Nat} {v : Int32} (hL : sc.1 ≤ 2048) (hi : i + 4 ≤ sc.1) (hc : zC 47 sc 30 75 [.ref 0] M (some (.int v)) M1) (hr : zC 47 sc 30 126 [.ref 33] M1 (some (.int v)) M2) (hk : zK 47 sc (zC 47 sc 30) 137 r M' 913 [.ref 100, .ref 0, .ref 33, .int (nI i)] [] M2) : zK 47 sc (zC 47 sc 30) 137 r M' 755 [.ref 100, .ref 0, .ref 33, .int (nI i)] [] M := by
  refine zK.blk rfl ?_
  refine p_aloadn_1 ?_
  refine p_cv0i rfl rfl rfl rfl rfl (hc) ?_
  refine p_aloadn_2 ?_
  refine p_cv0i rfl rfl rfl rfl rfl (hr) ?_
  refine p_icmp_eq (tgt := 913) (by decide) (fun hc763 => ?_) (fun hc763 => ?_)
  · skip
    exact hk
  · skip
    exact absurd rfl hc763 --STOP
set_option maxRecDepth 100000 in
set_option maxHeartbeats 4000000 in
theorem lw_c20 {sc : Nat × (Nat → Int32)} {r : Option Value} {M' M M1 M2 : zM} {i : Nat} {v : Int32} (hL : sc.1 ≤ 2048) (hi : i + 4 ≤ sc.1) (hc : zC 47 sc 30 76 [.ref 0, .int (sc.2 (i + 1))] M (some (.int v)) M1) (hr : zC 47 sc 30 128 [.ref 33, .int (sc.2 (i + 1))] M1 (some (.int v)) M2) (hk : zK 47 sc (zC 47 sc 30) 137 r M' 913 [.ref 100, .ref 0, .ref 33, .int (nI i)] [] M2) : zK 47 sc (zC 47 sc 30) 137 r M' 768 [.ref 100, .ref 0, .ref 33, .int (nI i)] [] M := by
  refine zK.blk rfl ?_
  refine p_aloadn_1 ?_
  refine p_aloadn_0 ?_
  refine p_iloadn_3 ?_
  refine p_iconst (v := nI 1) (by decide) ?_
  refine p_iaddN ?_
  refine p_sld (by omega) (by omega) ?_
  refine p_cv1i rfl rfl rfl rfl rfl (hc) ?_
  refine p_aloadn_2 ?_
  refine p_aloadn_0 ?_
  refine p_iloadn_3 ?_
  refine p_iconst (v := nI 1) (by decide) ?_
  refine p_iaddN ?_
  refine p_sld (by omega) (by omega) ?_
  refine p_cv1i rfl rfl rfl rfl rfl (hr) ?_
  refine p_icmp_eq (tgt := 913) (by decide) (fun hc786 => ?_) (fun hc786 => ?_)
  · skip
    exact hk
  · skip
    exact absurd rfl hc786 --STOP
set_option maxRecDepth 100000 in
set_option maxHeartbeats 4000000 in
theorem lw_c21 {sc : Nat × (Nat → Int32)} {r : Option Value} {M' M M1 M2 : zM} {i : Nat} {v : Int32} (hL : sc.1 ≤ 2048) (hi : i + 4 ≤ sc.1) (hc : zC 47 sc 30 77 [.ref 0, .int (sc.2 (i + 1)), .int (sc.2 (i + 2))] M (some (.int v)) M1) (hr : zC 47 sc 30 133 [.ref 33, .int (sc.2 (i + 1)), .int (sc.2 (i + 2))] M1 (some (.int v)) M2) (hk : zK 47 sc (zC 47 sc 30) 137 r M' 913 [.ref 100, .ref 0, .ref 33, .int (nI i)] [] M2) : zK 47 sc (zC 47 sc 30) 137 r M' 791 [.ref 100, .ref 0, .ref 33, .int (nI i)] [] M := by
  refine zK.blk rfl ?_
  refine p_aloadn_1 ?_
  refine p_aloadn_0 ?_
  refine p_iloadn_3 ?_
  refine p_iconst (v := nI 1) (by decide) ?_
  refine p_iaddN ?_
  refine p_sld (by omega) (by omega) ?_
  refine p_aloadn_0 ?_
  refine p_iloadn_3 ?_
  refine p_iconst (v := nI 2) (by decide) ?_
  refine p_iaddN ?_
  refine p_sld (by omega) (by omega) ?_
  refine p_cv2i rfl rfl rfl rfl rfl (hc) ?_
  refine p_aloadn_2 ?_
  refine p_aloadn_0 ?_
  refine p_iloadn_3 ?_
  refine p_iconst (v := nI 1) (by decide) ?_
  refine p_iaddN ?_
  refine p_sld (by omega) (by omega) ?_
  refine p_aloadn_0 ?_
  refine p_iloadn_3 ?_
  refine p_iconst (v := nI 2) (by decide) ?_
  refine p_iaddN ?_
  refine p_sld (by omega) (by omega) ?_
  refine p_cv2i rfl rfl rfl rfl rfl (hr) ?_
  refine p_icmp_eq (tgt := 913) (by decide) (fun hc819 => ?_) (fun hc819 => ?_)
  · skip
    exact hk
  · skip
    exact absurd rfl hc819 --STOP
set_option maxRecDepth 100000 in
set_option maxHeartbeats 4000000 in
theorem lw_c22 {sc : Nat × (Nat → Int32)} {r : Option Value} {M' M M1 M2 : zM} {i : Nat} {v : Int32} (hL : sc.1 ≤ 2048) (hi : i + 4 ≤ sc.1) (hc : zC 47 sc 30 78 [.ref 0, .int (sc.2 (i + 1))] M (some (.int v)) M1) (hr : zC 47 sc 30 134 [.ref 33, .int (sc.2 (i + 1))] M1 (some (.int v)) M2) (hk : zK 47 sc (zC 47 sc 30) 137 r M' 913 [.ref 100, .ref 0, .ref 33, .int (nI i)] [] M2) : zK 47 sc (zC 47 sc 30) 137 r M' 824 [.ref 100, .ref 0, .ref 33, .int (nI i)] [] M := by
  refine zK.blk rfl ?_
  refine p_aloadn_1 ?_
  refine p_aloadn_0 ?_
  refine p_iloadn_3 ?_
  refine p_iconst (v := nI 1) (by decide) ?_
  refine p_iaddN ?_
  refine p_sld (by omega) (by omega) ?_
  refine p_cv1i rfl rfl rfl rfl rfl (hc) ?_
  refine p_aloadn_2 ?_
  refine p_aloadn_0 ?_
  refine p_iloadn_3 ?_
  refine p_iconst (v := nI 1) (by decide) ?_
  refine p_iaddN ?_
  refine p_sld (by omega) (by omega) ?_
  refine p_cv1i rfl rfl rfl rfl rfl (hr) ?_
  refine p_icmp_eq (tgt := 913) (by decide) (fun hc842 => ?_) (fun hc842 => ?_)
  · skip
    exact hk
  · skip
    exact absurd rfl hc842 --STOP
set_option maxRecDepth 100000 in
set_option maxHeartbeats 4000000 in
theorem lw_c23 {sc : Nat × (Nat → Int32)} {r : Option Value} {M' M M1 M2 : zM} {i : Nat} {v : Int32} (hL : sc.1 ≤ 2048) (hi : i + 4 ≤ sc.1) (hc : zC 47 sc 30 79 [.ref 0, .int (sc.2 (i + 1)), .int (sc.2 (i + 2)), .int (sc.2 (i + 3))] M (some (.int v)) M1) (hr : zC 47 sc 30 135 [.ref 33, .int (sc.2 (i + 1)), .int (sc.2 (i + 2)), .int (sc.2 (i + 3))] M1 (some (.int v)) M2) (hk : zK 47 sc (zC 47 sc 30) 137 r M' 913 [.ref 100, .ref 0, .ref 33, .int (nI i)] [] M2) : zK 47 sc (zC 47 sc 30) 137 r M' 847 [.ref 100, .ref 0, .ref 33, .int (nI i)] [] M := by
  refine zK.blk rfl ?_
  refine p_aloadn_1 ?_
  refine p_aloadn_0 ?_
  refine p_iloadn_3 ?_
  refine p_iconst (v := nI 1) (by decide) ?_
  refine p_iaddN ?_
  refine p_sld (by omega) (by omega) ?_
  refine p_aloadn_0 ?_
  refine p_iloadn_3 ?_
  refine p_iconst (v := nI 2) (by decide) ?_
  refine p_iaddN ?_
  refine p_sld (by omega) (by omega) ?_
  refine p_aloadn_0 ?_
  refine p_iloadn_3 ?_
  refine p_iconst (v := nI 3) (by decide) ?_
  refine p_iaddN ?_
  refine p_sld (by omega) (by omega) ?_
  refine p_cv3i rfl rfl rfl rfl rfl (hc) ?_
  refine p_aloadn_2 ?_
  refine p_aloadn_0 ?_
  refine p_iloadn_3 ?_
  refine p_iconst (v := nI 1) (by decide) ?_
  refine p_iaddN ?_
  refine p_sld (by omega) (by omega) ?_
  refine p_aloadn_0 ?_
  refine p_iloadn_3 ?_
  refine p_iconst (v := nI 2) (by decide) ?_
  refine p_iaddN ?_
  refine p_sld (by omega) (by omega) ?_
  refine p_aloadn_0 ?_
  refine p_iloadn_3 ?_
  refine p_iconst (v := nI 3) (by decide) ?_
  refine p_iaddN ?_
  refine p_sld (by omega) (by omega) ?_
  refine p_cv3i rfl rfl rfl rfl rfl (hr) ?_
  refine p_icmp_eq (tgt := 913) (by decide) (fun hc885 => ?_) (fun hc885 => ?_)
  · skip
    exact hk
  · skip
    exact absurd rfl hc885 --STOP
set_option maxRecDepth 100000 in
set_option maxHeartbeats 4000000 in
theorem lw_c24 {sc : Nat × (Nat → Int32)} {r : Option Value} {M' M M1 M2 : zM} {i : Nat} {v : Int32} (hL : sc.1 ≤ 2048) (hi : i + 4 ≤ sc.1) (hc : zC 47 sc 30 80 [.ref 0, .int (sc.2 (i + 1))] M (some (.int v)) M1) (hr : zC 47 sc 30 136 [.ref 33, .int (sc.2 (i + 1))] M1 (some (.int v)) M2) (hk : zK 47 sc (zC 47 sc 30) 137 r M' 913 [.ref 100, .ref 0, .ref 33, .int (nI i)] [] M2) : zK 47 sc (zC 47 sc 30) 137 r M' 890 [.ref 100, .ref 0, .ref 33, .int (nI i)] [] M := by
  refine zK.blk rfl ?_
  refine p_aloadn_1 ?_
  refine p_aloadn_0 ?_
  refine p_iloadn_3 ?_
  refine p_iconst (v := nI 1) (by decide) ?_
  refine p_iaddN ?_
  refine p_sld (by omega) (by omega) ?_
  refine p_cv1i rfl rfl rfl rfl rfl (hc) ?_
  refine p_aloadn_2 ?_
  refine p_aloadn_0 ?_
  refine p_iloadn_3 ?_
  refine p_iconst (v := nI 1) (by decide) ?_
  refine p_iaddN ?_
  refine p_sld (by omega) (by omega) ?_
  refine p_cv1i rfl rfl rfl rfl rfl (hr) ?_
  refine p_icmp_eq (tgt := 913) (by decide) (fun hc908 => ?_) (fun hc908 => ?_)
  · skip
    exact hk
  · skip
    exact absurd rfl hc908 --STOP
set_option maxRecDepth 100000 in
set_option maxHeartbeats 4000000 in
theorem lw_lp {sc : Nat × (Nat → Int32)} (H3 : FD3) (hL : sc.1 ≤ 2048) : ∀ (k i : Nat) (M : zM), sc.1 ≤ i + k → i ≤ sc.1 → INV M → ∃ M', zK 47 sc (zC 47 sc 30) 137 (some (.int (nI 1))) M' 18 [.ref 100, .ref 0, .ref 33, .int (nI i)] [] M := by
  intro k
  induction k with
  | zero => intro i M hk hi hI; exact ⟨M, lw_end hL hi (by omega)⟩
  | succ k ih =>
    intro i M hk hi hI
    by_cases h4 : i + 4 ≤ sc.1
    · have step : ∀ M2 : zM, INV M2 → ∃ M', zK 47 sc (zC 47 sc 30) 137 (some (.int (nI 1))) M' 913 [.ref 100, .ref 0, .ref 33, .int (nI i)] [] M2 := by
        intro M2 hI2
        obtain ⟨M', hk2⟩ := ih (i + 4) M2 (by omega) h4 hI2
        refine ⟨M', ?_⟩
        refine zK.blk rfl ?_
        refine p_iinc_3 (zN_inc _ 4) rfl ?_
        refine p_goto (tgt := 18) (by decide) ?_
        exact hk2
      by_cases hx : ∃ j, j ≤ 24 ∧ sc.2 i &&& nI 31 = nI j
      · obtain ⟨j, hj, hx⟩ := hx
        rcases (show j = 0 ∨ j = 1 ∨ j = 2 ∨ j = 3 ∨ j = 4 ∨ j = 5 ∨ j = 6 ∨ j = 7 ∨ j = 8 ∨ j = 9 ∨ j = 10 ∨ j = 11 ∨ j = 12 ∨ j = 13 ∨ j = 14 ∨ j = 15 ∨ j = 16 ∨ j = 17 ∨ j = 18 ∨ j = 19 ∨ j = 20 ∨ j = 21 ∨ j = 22 ∨ j = 23 ∨ j = 24 by omega) with rfl | rfl | rfl | rfl | rfl | rfl | rfl | rfl | rfl | rfl | rfl | rfl | rfl | rfl | rfl | rfl | rfl | rfl | rfl | rfl | rfl | rfl | rfl | rfl | rfl
        · obtain ⟨v, M1, M2, hc, hr, hI2⟩ := op_sign (sc := sc) (x := sc.2 (i + 1)) (y := sc.2 (i + 2)) (z := sc.2 (i + 3)) hI
          obtain ⟨M', hk2⟩ := step M2 hI2
          exact ⟨M', lw_hd hL h4 hj hx (lw_c0 hL h4 hc hr hk2)⟩
        · obtain ⟨v, M1, M2, hc, hr, hI2⟩ := op_drop (sc := sc) hI
          obtain ⟨M', hk2⟩ := step M2 hI2
          exact ⟨M', lw_hd hL h4 hj hx (lw_c1 hL h4 hc hr hk2)⟩
        · obtain ⟨v, M1, M2, hc, hr, hI2⟩ := op_about (sc := sc) (x := sc.2 (i + 1)) (y := sc.2 (i + 2)) hI
          obtain ⟨M', hk2⟩ := step M2 hI2
          exact ⟨M', lw_hd hL h4 hj hx (lw_c2 hL h4 hc hr hk2)⟩
        · obtain ⟨v, M1, M2, hc, hr, hI2⟩ := op_keeps (sc := sc) (x := sc.2 (i + 1)) (y := sc.2 (i + 2)) hI
          obtain ⟨M', hk2⟩ := step M2 hI2
          exact ⟨M', lw_hd hL h4 hj hx (lw_c3 hL h4 hc hr hk2)⟩
        · obtain ⟨v, M1, M2, hc, hr, hI2⟩ := op_reached (sc := sc) (x := sc.2 (i + 1)) H3 hI
          obtain ⟨M', hk2⟩ := step M2 hI2
          exact ⟨M', lw_hd hL h4 hj hx (lw_c4 hL h4 hc hr hk2)⟩
        · obtain ⟨v, M1, M2, hc, hr, hI2⟩ := op_least (sc := sc) (x := sc.2 (i + 1)) (y := sc.2 (i + 2)) H3 hI
          obtain ⟨M', hk2⟩ := step M2 hI2
          exact ⟨M', lw_hd hL h4 hj hx (lw_c5 hL h4 hc hr hk2)⟩
        · obtain ⟨v, M1, M2, hc, hr, hI2⟩ := op_by (sc := sc) (x := sc.2 (i + 1)) (y := sc.2 (i + 2)) (z := sc.2 (i + 3)) H3 hI
          obtain ⟨M', hk2⟩ := step M2 hI2
          exact ⟨M', lw_hd hL h4 hj hx (lw_c6 hL h4 hc hr hk2)⟩
        · obtain ⟨v, M1, M2, hc, hr, hI2⟩ := op_farthest (sc := sc) (x := sc.2 (i + 1)) (y := sc.2 (i + 2)) H3 hI
          obtain ⟨M', hk2⟩ := step M2 hI2
          exact ⟨M', lw_hd hL h4 hj hx (lw_c7 hL h4 hc hr hk2)⟩
        · obtain ⟨v, M1, M2, hc, hr, hI2⟩ := op_costing (sc := sc) (x := sc.2 (i + 1)) (y := sc.2 (i + 2)) H3 hI
          obtain ⟨M', hk2⟩ := step M2 hI2
          exact ⟨M', lw_hd hL h4 hj hx (lw_c8 hL h4 hc hr hk2)⟩
        · obtain ⟨v, M1, M2, hc, hr, hI2⟩ := op_says (sc := sc) (x := sc.2 (i + 1)) hI
          obtain ⟨M', hk2⟩ := step M2 hI2
          exact ⟨M', lw_hd hL h4 hj hx (lw_c9 hL h4 hc hr hk2)⟩
        · obtain ⟨v, M1, M2, hc, hr, hI2⟩ := op_lacks (sc := sc) (x := sc.2 (i + 1)) hI
          obtain ⟨M', hk2⟩ := step M2 hI2
          exact ⟨M', lw_hd hL h4 hj hx (lw_c10 hL h4 hc hr hk2)⟩
        · obtain ⟨v, M1, M2, hc, hr, hI2⟩ := op_sets (sc := sc) (x := sc.2 (i + 1)) hI
          obtain ⟨M', hk2⟩ := step M2 hI2
          exact ⟨M', lw_hd hL h4 hj hx (lw_c11 hL h4 hc hr hk2)⟩
        · obtain ⟨v, M1, M2, hc, hr, hI2⟩ := op_alone (sc := sc) (x := sc.2 (i + 1)) hI
          obtain ⟨M', hk2⟩ := step M2 hI2
          exact ⟨M', lw_hd hL h4 hj hx (lw_c12 hL h4 hc hr hk2)⟩
        · obtain ⟨v, M1, M2, hc, hr, hI2⟩ := op_lets (sc := sc) (x := sc.2 (i + 1)) (y := sc.2 (i + 2)) (z := sc.2 (i + 3)) hI
          obtain ⟨M', hk2⟩ := step M2 hI2
          exact ⟨M', lw_hd hL h4 hj hx (lw_c13 hL h4 hc hr hk2)⟩
        · obtain ⟨v, M1, M2, hc, hr, hI2⟩ := op_letting (sc := sc) (x := sc.2 (i + 1)) (y := sc.2 (i + 2)) hI
          obtain ⟨M', hk2⟩ := step M2 hI2
          exact ⟨M', lw_hd hL h4 hj hx (lw_c14 hL h4 hc hr hk2)⟩
        · obtain ⟨v, M1, M2, hc, hr, hI2⟩ := op_around (sc := sc) (x := sc.2 (i + 1)) (y := sc.2 (i + 2)) hI
          obtain ⟨M', hk2⟩ := step M2 hI2
          exact ⟨M', lw_hd hL h4 hj hx (lw_c15 hL h4 hc hr hk2)⟩
        · obtain ⟨v, M1, M2, hc, hr, hI2⟩ := op_sorts (sc := sc) (x := sc.2 (i + 1)) (y := sc.2 (i + 2)) hI
          obtain ⟨M', hk2⟩ := step M2 hI2
          exact ⟨M', lw_hd hL h4 hj hx (lw_c16 hL h4 hc hr hk2)⟩
        · obtain ⟨v, M1, M2, hc, hr, hI2⟩ := op_kept (sc := sc) (x := sc.2 (i + 1)) hI
          obtain ⟨M', hk2⟩ := step M2 hI2
          exact ⟨M', lw_hd hL h4 hj hx (lw_c17 hL h4 hc hr hk2)⟩
        · obtain ⟨v, M1, M2, hc, hr, hI2⟩ := op_type (sc := sc) (v := lwv (sc.2 (i + 1)) (sc.2 (i + 2))) (x := sc.2 (i + 3)) hI
          obtain ⟨M', hk2⟩ := step M2 hI2
          exact ⟨M', lw_hd hL h4 hj hx (lw_c18 hL h4 hc hr hk2)⟩
        · obtain ⟨v, M1, M2, hc, hr, hI2⟩ := op_clear (sc := sc) hI
          obtain ⟨M', hk2⟩ := step M2 hI2
          exact ⟨M', lw_hd hL h4 hj hx (lw_c19 hL h4 hc hr hk2)⟩
        · obtain ⟨v, M1, M2, hc, hr, hI2⟩ := op_read (sc := sc) (x := sc.2 (i + 1)) hI
          obtain ⟨M', hk2⟩ := step M2 hI2
          exact ⟨M', lw_hd hL h4 hj hx (lw_c20 hL h4 hc hr hk2)⟩
        · obtain ⟨v, M1, M2, hc, hr, hI2⟩ := op_formula (sc := sc) (x := sc.2 (i + 1)) (w := sc.2 (i + 2)) hI
          obtain ⟨M', hk2⟩ := step M2 hI2
          exact ⟨M', lw_hd hL h4 hj hx (lw_c21 hL h4 hc hr hk2)⟩
        · obtain ⟨v, M1, M2, hc, hr, hI2⟩ := op_leastened (sc := sc) (x := sc.2 (i + 1)) H3 hI
          obtain ⟨M', hk2⟩ := step M2 hI2
          exact ⟨M', lw_hd hL h4 hj hx (lw_c22 hL h4 hc hr hk2)⟩
        · obtain ⟨v, M1, M2, hc, hr, hI2⟩ := op_both (sc := sc) (x := sc.2 (i + 1)) (y := sc.2 (i + 2)) (w := sc.2 (i + 3)) hI
          obtain ⟨M', hk2⟩ := step M2 hI2
          exact ⟨M', lw_hd hL h4 hj hx (lw_c23 hL h4 hc hr hk2)⟩
        · obtain ⟨v, M1, M2, hc, hr, hI2⟩ := op_count (sc := sc) (x := sc.2 (i + 1)) hI
          obtain ⟨M', hk2⟩ := step M2 hI2
          exact ⟨M', lw_hd hL h4 hj hx (lw_c24 hL h4 hc hr hk2)⟩
      · obtain ⟨M', hk2⟩ := step M hI
        exact ⟨M', lw_df hL h4 hx hk2⟩
    · exact ⟨M, lw_end hL hi h4⟩
set_option maxRecDepth 100000 in
set_option maxHeartbeats 4000000 in
theorem lw_all {sc : Nat × (Nat → Int32)} {M : zM} (H3 : FD3) (hL : sc.1 ≤ 2048) (hI : INV M) : ∃ M', zK 47 sc (zC 47 sc 30) 137 (some (.int (nI 1))) M' 16 [.ref 100, .ref 0, .ref 33, .null] [] M := by
  obtain ⟨M', h⟩ := lw_lp H3 hL sc.1 0 M (by omega) (by omega) hI
  refine ⟨M', ?_⟩
  refine zK.blk rfl ?_
  refine p_iconst (v := nI 0) (by decide) ?_
  refine p_istoren_3 rfl ?_
  exact h
