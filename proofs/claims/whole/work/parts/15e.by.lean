set_option maxRecDepth 100000 in
set_option maxHeartbeats 4000000 in
theorem c_62n {sc : Nat × (Nat → Int32)} {d : Nat} {M M2 : zM} {m rc q N t : Nat} {P T K : Nat → Nat} {c : Nat → Nat} {x : Int32} (hsg : sgC M m P T K) (hq1 : 1 ≤ q) (hq : q < 4) (ht : t < z22 q) (hb : zbar P m q = false) (hrc : zrc rc q N) (hR : zC 47 sc (d + 9) 86 [.ref 0, .int (nI q)] M (some (.ref rc)) M2) (hcs : rcC M2 rc N c) (hx1 : ¬ x < -1) (hx2 : x < nI 3) (hw : M2 (rc + 2) t = -1) : zC 47 sc (d + 10) 62 [.ref 0, .int (nI q), .int (nI t), .int x] M (some (.int (-9))) (M2) := by
  have hzc := zcnt_t hq1 hq
  have hzf := zfits_t hq ht
  have hN := zl_N hrc
  have htN : t < N := by omega
  refine z_enter (L := [.ref 0, .int (nI q), .int (nI t), .int x, .null, .null]) rfl rfl rfl ?_
  refine zK.blk rfl ?_
  refine p_iloadn_1 ?_
  refine p_cs1i rfl rfl rfl rfl rfl (c_82) ?_
  refine p_ifB_eq (tgt := 25) (by decide) (fun hc4 => ?_) (fun hc4 => ?_)
  · skip
    rw [hzc] at hc4; cases hc4 --STOP
  · skip
    refine p_iloadn_1 ?_
    refine p_iloadn_2 ?_
    refine p_cs2i rfl rfl rfl rfl rfl (c_0) ?_
    refine p_ifB_eq (tgt := 25) (by decide) (fun hc12 => ?_) (fun hc12 => ?_)
    · skip
      rw [hzf] at hc12; cases hc12 --STOP
    · skip
      refine p_iloadn_3 ?_
      refine p_iconst (v := -1) (by decide) ?_
      refine p_icmp_lt (tgt := 25) (by decide) (fun hc17 => ?_) (fun hc17 => ?_)
      · skip
        exact absurd hc17 hx1 --STOP
      · skip
        refine p_iloadn_3 ?_
        refine p_iconst (v := nI 3) (by decide) ?_
        refine p_icmp_lt (tgt := 27) (by decide) (fun hc22 => ?_) (fun hc22 => ?_)
        · skip
          refine zK.blk rfl ?_
          refine p_aloadn_0 ?_
          refine p_iloadn_1 ?_
          refine p_cv1i rfl rfl rfl rfl rfl (c_85 hsg (by omega)) ?_
          refine p_ifB_eq (tgt := 38) (by decide) (fun hc32 => ?_) (fun hc32 => ?_)
          · skip
            refine zK.blk rfl ?_
            refine p_aloadn_0 ?_
            refine p_iloadn_1 ?_
            refine p_cv1a rfl rfl rfl rfl rfl (hR) ?_
            refine p_iloadn_2 ?_
            refine p_cv1i rfl rfl rfl rfl (zl_r hrc) (c_51 hrc hcs htN hw) ?_
            rw [show (if c t = 1073741824 then (-1 : Int32) else -1) = -1 by split <;> rfl]
            refine p_istore_4 rfl ?_
            refine p_iload_4 ?_
            refine p_if_ge (tgt := 57) (by decide) (fun hc51 => ?_) (fun hc51 => ?_)
            · skip
              exact absurd hc51 (by decide) --STOP
            · skip
              refine p_bipush (v := -9) (by decide) ?_
              exact p_iret trivial rfl rfl
          · skip
            rw [hb] at hc32; cases hc32 --STOP
        · skip
          exact absurd hx2 hc22 --STOP
set_option maxRecDepth 100000 in
set_option maxHeartbeats 4000000 in
theorem c_62l {sc : Nat × (Nat → Int32)} {d : Nat} {M M2 : zM} {m rc q N t : Nat} {P T K : Nat → Nat} {c : Nat → Nat} {w : Nat} (hsg : sgC M m P T K) (hq1 : 1 ≤ q) (hq : q < 4) (ht : t < z22 q) (hb : zbar P m q = false) (hrc : zrc rc q N) (hR : zC 47 sc (d + 9) 86 [.ref 0, .int (nI q)] M (some (.ref rc)) M2) (hcs : rcC M2 rc N c) (hct : ¬ c t = 1073741824) (hw : M2 (rc + 2) t = nI w) (hw31 : w < 2 ^ 31) : zC 47 sc (d + 10) 62 [.ref 0, .int (nI q), .int (nI t), .int (-1)] M (some (.int (nI (w >>> 24)))) (M2) := by
  have hzc := zcnt_t hq1 hq
  have hzf := zfits_t hq ht
  have hN := zl_N hrc
  have htN : t < N := by omega
  refine z_enter (L := [.ref 0, .int (nI q), .int (nI t), .int (-1), .null, .null]) rfl rfl rfl ?_
  refine zK.blk rfl ?_
  refine p_iloadn_1 ?_
  refine p_cs1i rfl rfl rfl rfl rfl (c_82) ?_
  refine p_ifB_eq (tgt := 25) (by decide) (fun hc4 => ?_) (fun hc4 => ?_)
  · skip
    rw [hzc] at hc4; cases hc4 --STOP
  · skip
    refine p_iloadn_1 ?_
    refine p_iloadn_2 ?_
    refine p_cs2i rfl rfl rfl rfl rfl (c_0) ?_
    refine p_ifB_eq (tgt := 25) (by decide) (fun hc12 => ?_) (fun hc12 => ?_)
    · skip
      rw [hzf] at hc12; cases hc12 --STOP
    · skip
      refine p_iloadn_3 ?_
      refine p_iconst (v := -1) (by decide) ?_
      refine p_icmp_lt (tgt := 25) (by decide) (fun hc17 => ?_) (fun hc17 => ?_)
      · skip
        exact absurd hc17 (by decide) --STOP
      · skip
        refine p_iloadn_3 ?_
        refine p_iconst (v := nI 3) (by decide) ?_
        refine p_icmp_lt (tgt := 27) (by decide) (fun hc22 => ?_) (fun hc22 => ?_)
        · skip
          refine zK.blk rfl ?_
          refine p_aloadn_0 ?_
          refine p_iloadn_1 ?_
          refine p_cv1i rfl rfl rfl rfl rfl (c_85 hsg (by omega)) ?_
          refine p_ifB_eq (tgt := 38) (by decide) (fun hc32 => ?_) (fun hc32 => ?_)
          · skip
            refine zK.blk rfl ?_
            refine p_aloadn_0 ?_
            refine p_iloadn_1 ?_
            refine p_cv1a rfl rfl rfl rfl rfl (hR) ?_
            refine p_iloadn_2 ?_
            refine p_cv1i rfl rfl rfl rfl (zl_r hrc) (c_51 hrc hcs htN hw) ?_
            rw [if_neg hct]
            refine p_istore_4 rfl ?_
            refine p_iload_4 ?_
            refine p_ifN_ge (tgt := 57) (by decide) (by omega) (fun hc51 => ?_) (fun hc51 => ?_)
            · skip
              refine zK.blk rfl ?_
              refine p_iload_4 ?_
              refine p_cs1i rfl rfl rfl rfl rfl (c_17 hw31) ?_
              refine p_istore_5 rfl ?_
              refine p_iloadn_3 ?_
              refine p_iconst (v := -1) (by decide) ?_
              refine p_icmp_ne (tgt := 72) (by decide) (fun hc66 => ?_) (fun hc66 => ?_)
              · skip
                exact absurd rfl hc66 --STOP
              · skip
                refine p_iload_5 ?_
                exact p_iret trivial rfl rfl
            · skip
              exact absurd (Nat.zero_le w) hc51 --STOP
          · skip
            rw [hb] at hc32; cases hc32 --STOP
        · skip
          exact absurd (by decide) hc22 --STOP
set_option maxRecDepth 100000 in
set_option maxHeartbeats 4000000 in
theorem c_62p {sc : Nat × (Nat → Int32)} {d : Nat} {M M2 : zM} {m rc q N t : Nat} {P T K : Nat → Nat} {c : Nat → Nat} {w p : Nat} (hsg : sgC M m P T K) (hq1 : 1 ≤ q) (hq : q < 4) (ht : t < z22 q) (hb : zbar P m q = false) (hrc : zrc rc q N) (hR : zC 47 sc (d + 9) 86 [.ref 0, .int (nI q)] M (some (.ref rc)) M2) (hcs : rcC M2 rc N c) (hct : ¬ c t = 1073741824) (hw : M2 (rc + 2) t = nI w) (hw31 : w < 2 ^ 31) (hp : p < 3) (hsg2 : sgC M2 m P T K) (hl : w >>> 24 < m) : zC 47 sc (d + 10) 62 [.ref 0, .int (nI q), .int (nI t), .int (nI p)] M (some (.int (if p < P (w >>> 24) then nI (w >>> (8 * (2 - p)) &&& 255) else -9))) (M2) := by
  have hzc := zcnt_t hq1 hq
  have hzf := zfits_t hq ht
  have hN := zl_N hrc
  have htN : t < N := by omega
  obtain ⟨hn6, hn, hR2, hS⟩ := id hsg2
  have hP := hR2 _ hl
  have hzh : zhas m (nI (w >>> 24)) = true := by unfold zhas; rw [decide_eq_true (nI_pos (by omega)), decide_eq_true (nI_ge hl (by omega))]; rfl
  refine z_enter (L := [.ref 0, .int (nI q), .int (nI t), .int (nI p), .null, .null]) rfl rfl rfl ?_
  refine zK.blk rfl ?_
  refine p_iloadn_1 ?_
  refine p_cs1i rfl rfl rfl rfl rfl (c_82) ?_
  refine p_ifB_eq (tgt := 25) (by decide) (fun hc4 => ?_) (fun hc4 => ?_)
  · skip
    rw [hzc] at hc4; cases hc4 --STOP
  · skip
    refine p_iloadn_1 ?_
    refine p_iloadn_2 ?_
    refine p_cs2i rfl rfl rfl rfl rfl (c_0) ?_
    refine p_ifB_eq (tgt := 25) (by decide) (fun hc12 => ?_) (fun hc12 => ?_)
    · skip
      rw [hzf] at hc12; cases hc12 --STOP
    · skip
      refine p_iloadn_3 ?_
      refine p_iconst (v := -1) (by decide) ?_
      refine p_icmp_lt (tgt := 25) (by decide) (fun hc17 => ?_) (fun hc17 => ?_) --BR
      · skip
        exact absurd (Int32.lt_trans hc17 (by decide)) (nI_pos (by omega)) --STOP
      · skip
        refine p_iloadn_3 ?_
        refine p_iconst (v := nI 3) (by decide) ?_
        refine p_icmpN_lt (tgt := 27) (by decide) (by omega) (by omega) (fun hc22 => ?_) (fun hc22 => ?_)
        · skip
          refine zK.blk rfl ?_
          refine p_aloadn_0 ?_
          refine p_iloadn_1 ?_
          refine p_cv1i rfl rfl rfl rfl rfl (c_85 hsg (by omega)) ?_
          refine p_ifB_eq (tgt := 38) (by decide) (fun hc32 => ?_) (fun hc32 => ?_)
          · skip
            refine zK.blk rfl ?_
            refine p_aloadn_0 ?_
            refine p_iloadn_1 ?_
            refine p_cv1a rfl rfl rfl rfl rfl (hR) ?_
            refine p_iloadn_2 ?_
            refine p_cv1i rfl rfl rfl rfl (zl_r hrc) (c_51 hrc hcs htN hw) ?_
            rw [if_neg hct]
            refine p_istore_4 rfl ?_
            refine p_iload_4 ?_
            refine p_ifN_ge (tgt := 57) (by decide) (by omega) (fun hc51 => ?_) (fun hc51 => ?_)
            · skip
              refine zK.blk rfl ?_
              refine p_iload_4 ?_
              refine p_cs1i rfl rfl rfl rfl rfl (c_17 hw31) ?_
              refine p_istore_5 rfl ?_
              refine p_iloadn_3 ?_
              refine p_iconst (v := -1) (by decide) ?_
              refine p_icmp_ne (tgt := 72) (by decide) (fun hc66 => ?_) (fun hc66 => ?_) --BR
              · skip
                refine zK.blk rfl ?_
                refine p_aloadn_0 ?_
                refine p_getr rfl rfl ?_
                refine p_iload_5 ?_
                refine p_cv1i rfl rfl rfl rfl rfl (c_24 hsg2) ?_
                refine p_ifB_eq (tgt := 110) (by decide) (fun hc81 => ?_) (fun hc81 => ?_)
                · skip
                  rw [hzh] at hc81; cases hc81 --STOP
                · skip
                  refine p_iloadn_3 ?_
                  refine p_aloadn_0 ?_
                  refine p_getr rfl rfl ?_
                  refine p_getr rfl rfl ?_
                  refine p_iload_5 ?_
                  refine p_aald rfl (by omega) (by decide) (zget_sg (by omega)) ?_
                  refine p_geti (zlay_sg (by omega)) rfl ((hS _ (by omega)).1) ?_
                  refine p_icmpN_ge (tgt := 110) (by decide) (by omega) (by omega) (fun hc98 => ?_) (fun hc98 => ?_)
                  · skip
                    rw [if_neg (by omega)]
                    refine zK.blk rfl ?_
                    refine p_bipush (v := -9) (by decide) ?_
                    refine zK.blk rfl ?_
                    exact p_iret trivial rfl rfl
                  · skip
                    rw [if_pos (by omega)]
                    refine p_iload_4 ?_
                    refine p_iloadn_3 ?_
                    refine p_cs2i rfl rfl rfl rfl rfl (c_18 hw31 (by omega)) ?_
                    refine p_goto (tgt := 112) (by decide) ?_
                    refine zK.blk rfl ?_
                    exact p_iret trivial rfl rfl
              · skip
                exact absurd (nI_nm1 (by omega)) hc66 --STOP
            · skip
              exact absurd (Nat.zero_le w) hc51 --STOP
          · skip
            rw [hb] at hc32; cases hc32 --STOP
        · skip
          exact absurd hp hc22 --STOP
set_option maxRecDepth 100000 in
set_option maxHeartbeats 4000000 in
theorem c_62s {sc : Nat × (Nat → Int32)} {d : Nat} {M : zM} {m q t : Nat} {P T K : Nat → Nat} {x : Int32} (hsg : sgC M m P T K) (hq1 : 1 ≤ q) (hq : q < 4) (ht : t < z22 q) (hb : zbar P m q = true) (hx1 : ¬ x < -1) (hx2 : x < nI 3) : zC 47 sc (d + 10) 62 [.ref 0, .int (nI q), .int (nI t), .int x] M (some (.int (-2))) (M) := by
  have hzc := zcnt_t hq1 hq
  have hzf := zfits_t hq ht
  refine z_enter (L := [.ref 0, .int (nI q), .int (nI t), .int x, .null, .null]) rfl rfl rfl ?_
  refine zK.blk rfl ?_
  refine p_iloadn_1 ?_
  refine p_cs1i rfl rfl rfl rfl rfl (c_82) ?_
  refine p_ifB_eq (tgt := 25) (by decide) (fun hc4 => ?_) (fun hc4 => ?_)
  · skip
    rw [hzc] at hc4; cases hc4 --STOP
  · skip
    refine p_iloadn_1 ?_
    refine p_iloadn_2 ?_
    refine p_cs2i rfl rfl rfl rfl rfl (c_0) ?_
    refine p_ifB_eq (tgt := 25) (by decide) (fun hc12 => ?_) (fun hc12 => ?_)
    · skip
      rw [hzf] at hc12; cases hc12 --STOP
    · skip
      refine p_iloadn_3 ?_
      refine p_iconst (v := -1) (by decide) ?_
      refine p_icmp_lt (tgt := 25) (by decide) (fun hc17 => ?_) (fun hc17 => ?_)
      · skip
        exact absurd hc17 hx1 --STOP
      · skip
        refine p_iloadn_3 ?_
        refine p_iconst (v := nI 3) (by decide) ?_
        refine p_icmp_lt (tgt := 27) (by decide) (fun hc22 => ?_) (fun hc22 => ?_)
        · skip
          refine zK.blk rfl ?_
          refine p_aloadn_0 ?_
          refine p_iloadn_1 ?_
          refine p_cv1i rfl rfl rfl rfl rfl (c_85 hsg (by omega)) ?_
          refine p_ifB_eq (tgt := 38) (by decide) (fun hc32 => ?_) (fun hc32 => ?_)
          · skip
            rw [hb] at hc32; cases hc32 --STOP
          · skip
            refine p_bipush (v := -2) (by decide) ?_
            exact p_iret trivial rfl rfl
        · skip
          exact absurd hx2 hc22 --STOP
set_option maxRecDepth 100000 in
set_option maxHeartbeats 4000000 in
theorem c_62b {sc : Nat × (Nat → Int32)} {d : Nat} {M : zM} {x y z : Int32} (hx : ¬ (zrl x y = true ∧ ¬ z < -1 ∧ z < nI 3)) : zC 47 sc (d + 10) 62 [.ref 0, .int x, .int y, .int z] M (some (.int (-1))) (M) := by
  unfold zrl at hx
  refine z_enter (L := [.ref 0, .int x, .int y, .int z, .null, .null]) rfl rfl rfl ?_
  refine zK.blk rfl ?_
  refine p_iloadn_1 ?_
  refine p_cs1i rfl rfl rfl rfl rfl (c_82) ?_
  refine p_ifB_eq (tgt := 25) (by decide) (fun hc4 => ?_) (fun hc4 => ?_)
  · skip
    refine zK.blk rfl ?_
    refine p_iconst (v := -1) (by decide) ?_
    exact p_iret trivial rfl rfl
  · skip
    refine p_iloadn_1 ?_
    refine p_iloadn_2 ?_
    refine p_cs2i rfl rfl rfl rfl rfl (c_0) ?_
    refine p_ifB_eq (tgt := 25) (by decide) (fun hc12 => ?_) (fun hc12 => ?_)
    · skip
      refine zK.blk rfl ?_
      refine p_iconst (v := -1) (by decide) ?_
      exact p_iret trivial rfl rfl
    · skip
      refine p_iloadn_3 ?_
      refine p_iconst (v := -1) (by decide) ?_
      refine p_icmp_lt (tgt := 25) (by decide) (fun hc17 => ?_) (fun hc17 => ?_)
      · skip
        refine zK.blk rfl ?_
        refine p_iconst (v := -1) (by decide) ?_
        exact p_iret trivial rfl rfl
      · skip
        refine p_iloadn_3 ?_
        refine p_iconst (v := nI 3) (by decide) ?_
        refine p_icmp_lt (tgt := 27) (by decide) (fun hc22 => ?_) (fun hc22 => ?_)
        · skip
          exact absurd ⟨by rw [hc4, hc12]; rfl, hc17, hc22⟩ hx --STOP
        · skip
          refine zK.blk rfl ?_
          refine p_iconst (v := -1) (by decide) ?_
          exact p_iret trivial rfl rfl
set_option maxRecDepth 100000 in
set_option maxHeartbeats 4000000 in
theorem c_78 {sc : Nat × (Nat → Int32)} {d : Nat} {M M2 : zM} {m rc i : Nat} {P T K : Nat → Nat} {c tb co de le : Nat → Nat} (hsg : sgC M m P T K) (hi : i < 4) (hb : zbar P m 3 = false) (hrc : zrc rc 3 256) (hR : zC 47 sc (d + 9) 86 [.ref 0, .int (nI 3)] M (some (.ref rc)) M2) (hcs : rcC M2 rc 256 c) (hfo : foC M2 tb co de le) : zC 47 sc (d + 10) 78 [.ref 0, .int (nI i)] M (some (.int (if c (tb i) = 1073741824 then -9 else nI (c (tb i))))) (M2) := by
  obtain ⟨hFo, hTb⟩ := id hfo
  have hz : zfo (nI i) = true := by unfold zfo; rw [decide_eq_true (nI_pos (by omega)), decide_eq_true (nI_ge hi (by decide))]; rfl
  refine z_enter (L := [.ref 0, .int (nI i)]) rfl rfl rfl ?_
  refine zK.blk rfl ?_
  refine p_iloadn_1 ?_
  refine p_cs1i rfl rfl rfl rfl rfl (c_84) ?_
  refine p_ifB_ne (tgt := 9) (by decide) (fun hc4 => ?_) (fun hc4 => ?_)
  · skip
    refine zK.blk rfl ?_
    refine p_aloadn_0 ?_
    refine p_iconst (v := nI 3) (by decide) ?_
    refine p_cv1i rfl rfl rfl rfl rfl (c_85 hsg (by decide)) ?_
    refine p_ifB_eq (tgt := 22) (by decide) (fun hc14 => ?_) (fun hc14 => ?_)
    · skip
      refine zK.blk rfl ?_
      refine p_aloadn_0 ?_
      refine p_iconst (v := nI 3) (by decide) ?_
      refine p_cv1a rfl rfl rfl rfl rfl (hR) ?_
      refine p_aloadn_0 ?_
      refine p_getr rfl rfl ?_
      refine p_iloadn_1 ?_
      refine p_aald rfl (by omega) (by decide) (zget_fo (by omega)) ?_
      refine p_geti (zlay_fo (by omega)) rfl ((hFo _ (by omega)).1) ?_
      refine p_cv1i rfl rfl rfl rfl (zl_r hrc) (c_50 hrc hcs (hTb i hi)) ?_
      refine zK.blk rfl ?_
      exact p_iret trivial rfl rfl
    · skip
      rw [hb] at hc14; cases hc14 --STOP
  · skip
    rw [hz] at hc4; cases hc4 --STOP
set_option maxRecDepth 100000 in
set_option maxHeartbeats 4000000 in
theorem c_78s {sc : Nat × (Nat → Int32)} {d : Nat} {M : zM} {m i : Nat} {P T K : Nat → Nat} (hsg : sgC M m P T K) (hi : i < 4) (hb : zbar P m 3 = true) : zC 47 sc (d + 10) 78 [.ref 0, .int (nI i)] M (some (.int (-2))) (M) := by
  have hz : zfo (nI i) = true := by unfold zfo; rw [decide_eq_true (nI_pos (by omega)), decide_eq_true (nI_ge hi (by decide))]; rfl
  refine z_enter (L := [.ref 0, .int (nI i)]) rfl rfl rfl ?_
  refine zK.blk rfl ?_
  refine p_iloadn_1 ?_
  refine p_cs1i rfl rfl rfl rfl rfl (c_84) ?_
  refine p_ifB_ne (tgt := 9) (by decide) (fun hc4 => ?_) (fun hc4 => ?_)
  · skip
    refine zK.blk rfl ?_
    refine p_aloadn_0 ?_
    refine p_iconst (v := nI 3) (by decide) ?_
    refine p_cv1i rfl rfl rfl rfl rfl (c_85 hsg (by decide)) ?_
    refine p_ifB_eq (tgt := 22) (by decide) (fun hc14 => ?_) (fun hc14 => ?_)
    · skip
      rw [hb] at hc14; cases hc14 --STOP
    · skip
      refine p_bipush (v := -2) (by decide) ?_
      refine p_goto (tgt := 39) (by decide) ?_
      refine zK.blk rfl ?_
      exact p_iret trivial rfl rfl
  · skip
    rw [hz] at hc4; cases hc4 --STOP
set_option maxRecDepth 100000 in
set_option maxHeartbeats 4000000 in
theorem c_78b {sc : Nat × (Nat → Int32)} {d : Nat} {M : zM} {x : Int32} (hx : zfo x = false) : zC 47 sc (d + 10) 78 [.ref 0, .int x] M (some (.int (-1))) (M) := by
  refine z_enter (L := [.ref 0, .int x]) rfl rfl rfl ?_
  refine zK.blk rfl ?_
  refine p_iloadn_1 ?_
  refine p_cs1i rfl rfl rfl rfl rfl (c_84) ?_
  refine p_ifB_ne (tgt := 9) (by decide) (fun hc4 => ?_) (fun hc4 => ?_)
  · skip
    rw [hx] at hc4; cases hc4 --STOP
  · skip
    refine p_iconst (v := -1) (by decide) ?_
    exact p_iret trivial rfl rfl
