theorem oh_inv : ∀ t, t < 256 → ohN 3 (moN t) = t := by decide +kernel
def fBothN (s t w : Nat) : Int32 := if w = 0 then (if s = t then nI 1 else nI 0) else if w = 1 then (if s &&& (t ^^^ zFF) = 0 then nI 1 else nI 0) else (if ohN 3 s = t then nI 1 else nI 0)
theorem oh_sym {s t : Nat} (hs : s < 256) (ht : t < 256) : s = moN t ↔ ohN 3 s = t := by
  constructor
  · intro h; rw [h]; exact oh_inv t ht
  · intro h
    have h1 := oh_mo s hs
    rw [← h, h1.1]
    have h2 := oh_mo (moN s) h1.2
    have h3 := oh_inv s hs
    rw [h2.1] at h3
    exact h3.symm
set_option maxRecDepth 100000 in
set_option maxHeartbeats 4000000 in
theorem st_135_1 {sc : Nat × (Nat → Int32)} {d : Nat} {M : zM} {x1 x2 x3 x4 : Value} {x5 : Int32} : zK 47 sc (zC 47 sc (d + 9)) 135 (some (.int (nI 1))) M 105 [.ref 33, x1, x2, x3, x4, .int x5, .null] [.int (nI 1)] M := by
  refine zK.blk rfl ?_
  refine p_istore_6 rfl ?_
  refine p_iload_6 ?_
  refine p_ifN_eq (tgt := 116) (by decide) (by omega) (fun hc109 => ?_) (fun hc109 => ?_)
  · skip
    exact absurd hc109 (by decide) --STOP
  · skip
    skip
    refine p_iconst (v := nI 1) (by decide) ?_
    refine p_goto (tgt := 117) (by decide) ?_
    refine zK.blk rfl ?_
    exact p_iret trivial rfl rfl
set_option maxRecDepth 100000 in
set_option maxHeartbeats 4000000 in
theorem st_135_0 {sc : Nat × (Nat → Int32)} {d : Nat} {M : zM} {x1 x2 x3 x4 : Value} {x5 : Int32} : zK 47 sc (zC 47 sc (d + 9)) 135 (some (.int (nI 0))) M 105 [.ref 33, x1, x2, x3, x4, .int x5, .null] [.int (nI 0)] M := by
  refine zK.blk rfl ?_
  refine p_istore_6 rfl ?_
  refine p_iload_6 ?_
  refine p_ifN_eq (tgt := 116) (by decide) (by omega) (fun hc109 => ?_) (fun hc109 => ?_)
  · skip
    skip
    refine zK.blk rfl ?_
    refine p_iconst (v := nI 0) (by decide) ?_
    refine zK.blk rfl ?_
    exact p_iret trivial rfl rfl
  · skip
    exact absurd rfl hc109 --STOP
set_option maxRecDepth 100000 in
set_option maxHeartbeats 4000000 in
theorem c_135 {sc : Nat × (Nat → Int32)} {d : Nat} {M M2 M3 : zM} {n : Nat} {P T K : Nat → Nat} {i k w s t : Nat} (hsm : sgM M n P T K) (hi : i < 4) (hk : k < 4) (hw : w ≤ 2) (hs : s < 256) (ht : t < 256) (hTi : zC 47 sc (d + 9) 132 [.ref 33, .int (nI i)] M (some (.int (nI s))) M2) (hTk : zC 47 sc (d + 9) 132 [.ref 33, .int (nI k)] M2 (some (.int (nI t))) M3) : zC 47 sc (d + 10) 135 [.ref 33, .int (nI i), .int (nI k), .int (nI w)] M (some (.int (fBothN s t w))) (M3) := by
  obtain ⟨hth, hm, hn6, hR, hT⟩ := id hsm
  have e1 := zin_t (a := i) (lo := 0) (hi := 3) (by omega) (by omega) (by decide)
  have e2 := zin_t (a := k) (lo := 0) (hi := 3) (by omega) (by omega) (by decide)
  have e3 := zin_t (a := w) (lo := 0) (hi := 2) (by omega) (by omega) (by decide)
  have hmo := (oh_mo t ht).2
  have hsy := oh_sym hs ht
  have han : s &&& (t ^^^ zFF) < 256 := zand_lt hs
  unfold fBothN
  refine z_enter (L := [.ref 33, .int (nI i), .int (nI k), .int (nI w), .null, .null, .null]) rfl rfl rfl ?_
  refine zK.blk rfl ?_
  refine p_aloadn_0 ?_
  refine p_iconst (v := nI 0) (by decide) ?_
  refine p_put rfl rfl (by simp) ?_
  rw [zup_id hth]
  refine p_iloadn_1 ?_
  refine p_iconst (v := nI 0) (by decide) ?_
  refine p_iconst (v := nI 3) (by decide) ?_
  refine p_cs3i rfl rfl rfl rfl rfl (c_89) ?_
  refine p_ifB_eq (tgt := 32) (by decide) (fun hc11 => ?_) (fun hc11 => ?_)
  · skip
    rw [e1] at hc11; cases hc11 --STOP
  · skip
    refine p_iloadn_2 ?_
    refine p_iconst (v := nI 0) (by decide) ?_
    refine p_iconst (v := nI 3) (by decide) ?_
    refine p_cs3i rfl rfl rfl rfl rfl (c_89) ?_
    refine p_ifB_eq (tgt := 32) (by decide) (fun hc20 => ?_) (fun hc20 => ?_)
    · skip
      rw [e2] at hc20; cases hc20 --STOP
    · skip
      refine p_iloadn_3 ?_
      refine p_iconst (v := nI 0) (by decide) ?_
      refine p_iconst (v := nI 2) (by decide) ?_
      refine p_cs3i rfl rfl rfl rfl rfl (c_89) ?_
      refine p_ifB_ne (tgt := 34) (by decide) (fun hc29 => ?_) (fun hc29 => ?_)
      · skip
        refine zK.blk rfl ?_
        refine p_aloadn_0 ?_
        refine p_iloadn_1 ?_
        refine p_cv1i rfl rfl rfl rfl rfl (hTi) ?_
        refine p_istore_4 rfl ?_
        refine p_aloadn_0 ?_
        refine p_iloadn_2 ?_
        refine p_cv1i rfl rfl rfl rfl rfl (hTk) ?_
        refine p_istore_5 rfl ?_
        refine p_iloadn_3 ?_
        refine p_ifN_ne (tgt := 67) (by decide) (by omega) (fun hc49 => ?_) (fun hc49 => ?_)
        · skip
          rw [if_neg hc49]
          refine zK.blk rfl ?_
          refine p_iloadn_3 ?_
          refine p_iconst (v := nI 1) (by decide) ?_
          refine p_icmpN_ne (tgt := 90) (by decide) (by omega) (by omega) (fun hc69 => ?_) (fun hc69 => ?_)
          · skip
            rw [if_neg hc69]
            refine zK.blk rfl ?_
            refine p_iload_4 ?_
            refine p_iload_5 ?_
            refine p_cs1i rfl rfl rfl rfl rfl (c_130 (by omega)) ?_
            refine p_icmpN_ne (tgt := 104) (by decide) (by omega) (by omega) (fun hc97 => ?_) (fun hc97 => ?_)
            · skip
              rw [if_neg (fun z => hc97 (hsy.mpr z))]
              refine zK.blk rfl ?_
              refine p_iconst (v := nI 0) (by decide) ?_
              first | exact st_135_1 | exact st_135_0
            · skip
              rw [if_pos (hsy.mp (by omega))]
              refine p_iconst (v := nI 1) (by decide) ?_
              refine p_goto (tgt := 105) (by decide) ?_
              first | exact st_135_1 | exact st_135_0
          · skip
            rw [if_pos (show w = 1 by omega)]
            refine p_iload_4 ?_
            refine p_iload_5 ?_
            refine p_iconst (v := nI zFF) (by decide) ?_
            refine p_ixorN ?_
            refine p_iandN ?_
            refine p_ifN_ne (tgt := 86) (by decide) (by omega) (fun hc79 => ?_) (fun hc79 => ?_)
            · skip
              rw [if_neg hc79]
              refine zK.blk rfl ?_
              refine p_iconst (v := nI 0) (by decide) ?_
              refine p_goto (tgt := 105) (by decide) ?_
              first | exact st_135_1 | exact st_135_0
            · skip
              rw [if_pos (show s &&& (t ^^^ zFF) = 0 by omega)]
              refine p_iconst (v := nI 1) (by decide) ?_
              refine p_goto (tgt := 105) (by decide) ?_
              first | exact st_135_1 | exact st_135_0
        · skip
          rw [if_pos (show w = 0 by omega)]
          refine p_iload_4 ?_
          refine p_iload_5 ?_
          refine p_icmpN_ne (tgt := 63) (by decide) (by omega) (by omega) (fun hc56 => ?_) (fun hc56 => ?_)
          · skip
            rw [if_neg hc56]
            refine zK.blk rfl ?_
            refine p_iconst (v := nI 0) (by decide) ?_
            refine p_goto (tgt := 105) (by decide) ?_
            first | exact st_135_1 | exact st_135_0
          · skip
            rw [if_pos (show s = t by omega)]
            refine p_iconst (v := nI 1) (by decide) ?_
            refine p_goto (tgt := 105) (by decide) ?_
            first | exact st_135_1 | exact st_135_0
      · skip
        rw [e3] at hc29; cases hc29 --STOP
