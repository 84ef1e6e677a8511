set_option maxRecDepth 100000 in
set_option maxHeartbeats 4000000 in
theorem c_86f_1 {sc : Nat × (Nat → Int32)} {d : Nat} {M M2 : zM}  (hf : M 9 8 = nI 1) : zC 47 sc (d + 9) 86 [.ref 0, .int (nI 1)] M (some (.ref 9)) (M) := by
  refine z_enter (L := [.ref 0, .int (nI 1), .null]) rfl rfl rfl ?_
  refine zK.blk rfl ?_
  refine p_iloadn_1 ?_
  refine p_iconst (v := nI 1) (by decide) ?_
  refine p_icmpN_ne (tgt := 12) (by decide) (by omega) (by omega) (fun hc2 => ?_) (fun hc2 => ?_)
  · skip
    exact absurd rfl hc2 --STOP
  · skip
    refine p_aloadn_0 ?_
    refine p_getr rfl rfl ?_
    refine p_goto (tgt := 28) (by decide) ?_
    refine zK.blk rfl ?_
    refine p_astoren_2 rfl ?_
    refine p_aloadn_2 ?_
    refine p_geti rfl rfl (hf) ?_
    refine p_ifN_ne (tgt := 44) (by decide) (by omega) (fun hc33 => ?_) (fun hc33 => ?_)
    · skip
      refine zK.blk rfl ?_
      refine p_aloadn_2 ?_
      exact p_aret trivial rfl rfl
    · skip
      exact absurd hc33 (by decide) --STOP
set_option maxRecDepth 100000 in
set_option maxHeartbeats 4000000 in
theorem c_86n_1 {sc : Nat × (Nat → Int32)} {d : Nat} {M M2 : zM}  (hf : M 9 8 = nI 0) (hE : zC 47 sc (d + 8) 41 [.ref 9, .ref 1] M none M2) : zC 47 sc (d + 9) 86 [.ref 0, .int (nI 1)] M (some (.ref 9)) (M2) := by
  refine z_enter (L := [.ref 0, .int (nI 1), .null]) rfl rfl rfl ?_
  refine zK.blk rfl ?_
  refine p_iloadn_1 ?_
  refine p_iconst (v := nI 1) (by decide) ?_
  refine p_icmpN_ne (tgt := 12) (by decide) (by omega) (by omega) (fun hc2 => ?_) (fun hc2 => ?_)
  · skip
    exact absurd rfl hc2 --STOP
  · skip
    refine p_aloadn_0 ?_
    refine p_getr rfl rfl ?_
    refine p_goto (tgt := 28) (by decide) ?_
    refine zK.blk rfl ?_
    refine p_astoren_2 rfl ?_
    refine p_aloadn_2 ?_
    refine p_geti rfl rfl (hf) ?_
    refine p_ifN_ne (tgt := 44) (by decide) (by omega) (fun hc33 => ?_) (fun hc33 => ?_)
    · skip
      exact absurd rfl hc33 --STOP
    · skip
      refine p_aloadn_2 ?_
      refine p_aloadn_0 ?_
      refine p_getr rfl rfl ?_
      refine p_cv1v rfl rfl rfl rfl rfl (hE) ?_
      refine zK.blk rfl ?_
      refine p_aloadn_2 ?_
      exact p_aret trivial rfl rfl
set_option maxRecDepth 100000 in
set_option maxHeartbeats 4000000 in
theorem c_86f_2 {sc : Nat × (Nat → Int32)} {d : Nat} {M M2 : zM}  (hf : M 14 8 = nI 1) : zC 47 sc (d + 9) 86 [.ref 0, .int (nI 2)] M (some (.ref 14)) (M) := by
  refine z_enter (L := [.ref 0, .int (nI 2), .null]) rfl rfl rfl ?_
  refine zK.blk rfl ?_
  refine p_iloadn_1 ?_
  refine p_iconst (v := nI 1) (by decide) ?_
  refine p_icmpN_ne (tgt := 12) (by decide) (by omega) (by omega) (fun hc2 => ?_) (fun hc2 => ?_)
  · skip
    refine zK.blk rfl ?_
    refine p_iloadn_1 ?_
    refine p_iconst (v := nI 2) (by decide) ?_
    refine p_icmpN_ne (tgt := 24) (by decide) (by omega) (by omega) (fun hc14 => ?_) (fun hc14 => ?_)
    · skip
      exact absurd rfl hc14 --STOP
    · skip
      refine p_aloadn_0 ?_
      refine p_getr rfl rfl ?_
      refine p_goto (tgt := 28) (by decide) ?_
      refine zK.blk rfl ?_
      refine p_astoren_2 rfl ?_
      refine p_aloadn_2 ?_
      refine p_geti rfl rfl (hf) ?_
      refine p_ifN_ne (tgt := 44) (by decide) (by omega) (fun hc33 => ?_) (fun hc33 => ?_)
      · skip
        refine zK.blk rfl ?_
        refine p_aloadn_2 ?_
        exact p_aret trivial rfl rfl
      · skip
        exact absurd hc33 (by decide) --STOP
  · skip
    exact absurd hc2 (by decide) --STOP
set_option maxRecDepth 100000 in
set_option maxHeartbeats 4000000 in
theorem c_86n_2 {sc : Nat × (Nat → Int32)} {d : Nat} {M M2 : zM}  (hf : M 14 8 = nI 0) (hE : zC 47 sc (d + 8) 41 [.ref 14, .ref 1] M none M2) : zC 47 sc (d + 9) 86 [.ref 0, .int (nI 2)] M (some (.ref 14)) (M2) := by
  refine z_enter (L := [.ref 0, .int (nI 2), .null]) rfl rfl rfl ?_
  refine zK.blk rfl ?_
  refine p_iloadn_1 ?_
  refine p_iconst (v := nI 1) (by decide) ?_
  refine p_icmpN_ne (tgt := 12) (by decide) (by omega) (by omega) (fun hc2 => ?_) (fun hc2 => ?_)
  · skip
    refine zK.blk rfl ?_
    refine p_iloadn_1 ?_
    refine p_iconst (v := nI 2) (by decide) ?_
    refine p_icmpN_ne (tgt := 24) (by decide) (by omega) (by omega) (fun hc14 => ?_) (fun hc14 => ?_)
    · skip
      exact absurd rfl hc14 --STOP
    · skip
      refine p_aloadn_0 ?_
      refine p_getr rfl rfl ?_
      refine p_goto (tgt := 28) (by decide) ?_
      refine zK.blk rfl ?_
      refine p_astoren_2 rfl ?_
      refine p_aloadn_2 ?_
      refine p_geti rfl rfl (hf) ?_
      refine p_ifN_ne (tgt := 44) (by decide) (by omega) (fun hc33 => ?_) (fun hc33 => ?_)
      · skip
        exact absurd rfl hc33 --STOP
      · skip
        refine p_aloadn_2 ?_
        refine p_aloadn_0 ?_
        refine p_getr rfl rfl ?_
        refine p_cv1v rfl rfl rfl rfl rfl (hE) ?_
        refine zK.blk rfl ?_
        refine p_aloadn_2 ?_
        exact p_aret trivial rfl rfl
  · skip
    exact absurd hc2 (by decide) --STOP
set_option maxRecDepth 100000 in
set_option maxHeartbeats 4000000 in
theorem c_86f_3 {sc : Nat × (Nat → Int32)} {d : Nat} {M M2 : zM}  (hf : M 19 8 = nI 1) : zC 47 sc (d + 9) 86 [.ref 0, .int (nI 3)] M (some (.ref 19)) (M) := by
  refine z_enter (L := [.ref 0, .int (nI 3), .null]) rfl rfl rfl ?_
  refine zK.blk rfl ?_
  refine p_iloadn_1 ?_
  refine p_iconst (v := nI 1) (by decide) ?_
  refine p_icmpN_ne (tgt := 12) (by decide) (by omega) (by omega) (fun hc2 => ?_) (fun hc2 => ?_)
  · skip
    refine zK.blk rfl ?_
    refine p_iloadn_1 ?_
    refine p_iconst (v := nI 2) (by decide) ?_
    refine p_icmpN_ne (tgt := 24) (by decide) (by omega) (by omega) (fun hc14 => ?_) (fun hc14 => ?_)
    · skip
      refine zK.blk rfl ?_
      refine p_aloadn_0 ?_
      refine p_getr rfl rfl ?_
      refine zK.blk rfl ?_
      refine p_astoren_2 rfl ?_
      refine p_aloadn_2 ?_
      refine p_geti rfl rfl (hf) ?_
      refine p_ifN_ne (tgt := 44) (by decide) (by omega) (fun hc33 => ?_) (fun hc33 => ?_)
      · skip
        refine zK.blk rfl ?_
        refine p_aloadn_2 ?_
        exact p_aret trivial rfl rfl
      · skip
        exact absurd hc33 (by decide) --STOP
    · skip
      exact absurd hc14 (by decide) --STOP
  · skip
    exact absurd hc2 (by decide) --STOP
set_option maxRecDepth 100000 in
set_option maxHeartbeats 4000000 in
theorem c_86n_3 {sc : Nat × (Nat → Int32)} {d : Nat} {M M2 : zM}  (hf : M 19 8 = nI 0) (hE : zC 47 sc (d + 8) 41 [.ref 19, .ref 1] M none M2) : zC 47 sc (d + 9) 86 [.ref 0, .int (nI 3)] M (some (.ref 19)) (M2) := by
  refine z_enter (L := [.ref 0, .int (nI 3), .null]) rfl rfl rfl ?_
  refine zK.blk rfl ?_
  refine p_iloadn_1 ?_
  refine p_iconst (v := nI 1) (by decide) ?_
  refine p_icmpN_ne (tgt := 12) (by decide) (by omega) (by omega) (fun hc2 => ?_) (fun hc2 => ?_)
  · skip
    refine zK.blk rfl ?_
    refine p_iloadn_1 ?_
    refine p_iconst (v := nI 2) (by decide) ?_
    refine p_icmpN_ne (tgt := 24) (by decide) (by omega) (by omega) (fun hc14 => ?_) (fun hc14 => ?_)
    · skip
      refine zK.blk rfl ?_
      refine p_aloadn_0 ?_
      refine p_getr rfl rfl ?_
      refine zK.blk rfl ?_
      refine p_astoren_2 rfl ?_
      refine p_aloadn_2 ?_
      refine p_geti rfl rfl (hf) ?_
      refine p_ifN_ne (tgt := 44) (by decide) (by omega) (fun hc33 => ?_) (fun hc33 => ?_)
      · skip
        exact absurd rfl hc33 --STOP
      · skip
        refine p_aloadn_2 ?_
        refine p_aloadn_0 ?_
        refine p_getr rfl rfl ?_
        refine p_cv1v rfl rfl rfl rfl rfl (hE) ?_
        refine zK.blk rfl ?_
        refine p_aloadn_2 ?_
        exact p_aret trivial rfl rfl
    · skip
      exact absurd hc14 (by decide) --STOP
  · skip
    exact absurd hc2 (by decide) --STOP
theorem c_86f {sc : Nat × (Nat → Int32)} {d : Nat} {M : zM} {rc q N : Nat} (hrc : zrc rc q N) (hf : M rc 8 = nI 1) : zC 47 sc (d + 9) 86 [.ref 0, .int (nI q)] M (some (.ref rc)) M := by
  rcases hrc with ⟨rfl, rfl, -⟩ | ⟨rfl, rfl, -⟩ | ⟨rfl, rfl, -⟩
  · exact c_86f_1 (M2 := M) hf
  · exact c_86f_2 (M2 := M) hf
  · exact c_86f_3 (M2 := M) hf
theorem c_86n {sc : Nat × (Nat → Int32)} {d : Nat} {M M2 : zM} {rc q N : Nat} (hrc : zrc rc q N) (hf : M rc 8 = nI 0) (hE : zC 47 sc (d + 8) 41 [.ref rc, .ref 1] M none M2) : zC 47 sc (d + 9) 86 [.ref 0, .int (nI q)] M (some (.ref rc)) M2 := by
  rcases hrc with ⟨rfl, rfl, -⟩ | ⟨rfl, rfl, -⟩ | ⟨rfl, rfl, -⟩
  · exact c_86n_1 hf hE
  · exact c_86n_2 hf hE
  · exact c_86n_3 hf hE
