theorem zcnt_t {q : Nat} (h1 : 1 ≤ q) (h2 : q < 4) : zcnt (nI q) = true := by
  unfold zcnt
  rw [decide_eq_true (nI_nlt (by omega) (by omega)), decide_eq_true (nI_nlt (by omega) (by decide))]
  rfl
theorem zfits_t {p t : Nat} (hp : p < 4) (ht : t < z22 p) : zfits (nI p) (nI t) = true := by
  have hz := z22_lt hp
  rw [zfits_zin hp]
  exact zin_t (Nat.zero_le t) (by omega) (by omega)
set_option maxRecDepth 100000 in
set_option maxHeartbeats 4000000 in
theorem c_60 {sc : Nat × (Nat → Int32)} {d : Nat} {M M2 : zM} {m rc q N : Nat} {P T K : Nat → Nat} {c : Nat → Nat} {s : Nat} (hsg : sgC M m P T K) (hq1 : 1 ≤ q) (hq : q < 4) (hb : zbar P m q = false) (hrc : zrc rc q N) (hR : zC 47 sc (d + 9) 86 [.ref 0, .int (nI q)] M (some (.ref rc)) M2) (hs : M2 rc 7 = nI s) : zC 47 sc (d + 10) 60 [.ref 0, .int (nI q)] M (some (.int (nI s))) (M2) := by
  have hzc := zcnt_t hq1 hq
  refine z_enter (L := [.ref 0, .int (nI q)]) rfl rfl rfl ?_
  refine zK.blk rfl ?_
  refine p_iloadn_1 ?_
  refine p_cs1i rfl rfl rfl rfl rfl (c_82) ?_
  refine p_ifB_ne (tgt := 9) (by decide) (fun hc4 => ?_) (fun hc4 => ?_)
  · skip
    refine zK.blk rfl ?_
    refine p_aloadn_0 ?_
    refine p_iloadn_1 ?_
    refine p_cv1i rfl rfl rfl rfl rfl (c_85 hsg (by omega)) ?_
    refine p_ifB_eq (tgt := 22) (by decide) (fun hc14 => ?_) (fun hc14 => ?_)
    · skip
      refine zK.blk rfl ?_
      refine p_aloadn_0 ?_
      refine p_iloadn_1 ?_
      refine p_cv1a rfl rfl rfl rfl rfl (hR) ?_
      refine p_geti (zl_r hrc) rfl (hs) ?_
      refine zK.blk rfl ?_
      exact p_iret trivial rfl rfl
    · skip
      rw [hb] at hc14; cases hc14 --STOP
  · skip
    rw [hzc] at hc4; cases hc4 --STOP
set_option maxRecDepth 100000 in
set_option maxHeartbeats 4000000 in
theorem c_60s {sc : Nat × (Nat → Int32)} {d : Nat} {M M2 : zM} {m rc q N : Nat} {P T K : Nat → Nat} {c : Nat → Nat} {s : Nat} (hsg : sgC M m P T K) (hq1 : 1 ≤ q) (hq : q < 4) (hb : zbar P m q = true) : zC 47 sc (d + 10) 60 [.ref 0, .int (nI q)] M (some (.int (-2))) (M) := by
  have hzc := zcnt_t hq1 hq
  refine z_enter (L := [.ref 0, .int (nI q)]) rfl rfl rfl ?_
  refine zK.blk rfl ?_
  refine p_iloadn_1 ?_
  refine p_cs1i rfl rfl rfl rfl rfl (c_82) ?_
  refine p_ifB_ne (tgt := 9) (by decide) (fun hc4 => ?_) (fun hc4 => ?_)
  · skip
    refine zK.blk rfl ?_
    refine p_aloadn_0 ?_
    refine p_iloadn_1 ?_
    refine p_cv1i rfl rfl rfl rfl rfl (c_85 hsg (by omega)) ?_
    refine p_ifB_eq (tgt := 22) (by decide) (fun hc14 => ?_) (fun hc14 => ?_)
    · skip
      rw [hb] at hc14; cases hc14 --STOP
    · skip
      refine p_bipush (v := -2) (by decide) ?_
      refine p_goto (tgt := 30) (by decide) ?_
      refine zK.blk rfl ?_
      exact p_iret trivial rfl rfl
  · skip
    rw [hzc] at hc4; cases hc4 --STOP
set_option maxRecDepth 100000 in
set_option maxHeartbeats 4000000 in
theorem c_60b {sc : Nat × (Nat → Int32)} {d : Nat} {M : zM} {x : Int32} (hx : zcnt x = false) : zC 47 sc (d + 10) 60 [.ref 0, .int x] M (some (.int (-1))) (M) := by
  refine z_enter (L := [.ref 0, .int x]) rfl rfl rfl ?_
  refine zK.blk rfl ?_
  refine p_iloadn_1 ?_
  refine p_cs1i rfl rfl rfl rfl rfl (c_82) ?_
  refine p_ifB_ne (tgt := 9) (by decide) (fun hc4 => ?_) (fun hc4 => ?_)
  · skip
    rw [hx] at hc4; cases hc4 --STOP
  · skip
    refine p_iconst (v := -1) (by decide) ?_
    exact p_iret trivial rfl rfl
set_option maxRecDepth 100000 in
set_option maxHeartbeats 4000000 in
theorem c_61 {sc : Nat × (Nat → Int32)} {d : Nat} {M M2 : zM} {m rc q N : Nat} {P T K : Nat → Nat} {c : Nat → Nat} {t : Nat} (hsg : sgC M m P T K) (hq1 : 1 ≤ q) (hq : q < 4) (ht : t < z22 q) (hb : zbar P m q = false) (hrc : zrc rc q N) (hR : zC 47 sc (d + 9) 86 [.ref 0, .int (nI q)] M (some (.ref rc)) M2) (hcs : rcC M2 rc N c) : zC 47 sc (d + 10) 61 [.ref 0, .int (nI q), .int (nI t)] M (some (.int (if c t = 1073741824 then -9 else nI (c t)))) (M2) := by
  have hzc := zcnt_t hq1 hq
  have hzf := zfits_t hq ht
  have hN := zl_N hrc
  refine z_enter (L := [.ref 0, .int (nI q), .int (nI t)]) rfl rfl rfl ?_
  refine zK.blk rfl ?_
  refine p_iloadn_1 ?_
  refine p_cs1i rfl rfl rfl rfl rfl (c_82) ?_
  refine p_ifB_eq (tgt := 15) (by decide) (fun hc4 => ?_) (fun hc4 => ?_)
  · skip
    rw [hzc] at hc4; cases hc4 --STOP
  · skip
    refine p_iloadn_1 ?_
    refine p_iloadn_2 ?_
    refine p_cs2i rfl rfl rfl rfl rfl (c_0) ?_
    refine p_ifB_ne (tgt := 17) (by decide) (fun hc12 => ?_) (fun hc12 => ?_)
    · skip
      refine zK.blk rfl ?_
      refine p_aloadn_0 ?_
      refine p_iloadn_1 ?_
      refine p_cv1i rfl rfl rfl rfl rfl (c_85 hsg (by omega)) ?_
      refine p_ifB_eq (tgt := 30) (by decide) (fun hc22 => ?_) (fun hc22 => ?_)
      · skip
        refine zK.blk rfl ?_
        refine p_aloadn_0 ?_
        refine p_iloadn_1 ?_
        refine p_cv1a rfl rfl rfl rfl rfl (hR) ?_
        refine p_iloadn_2 ?_
        refine p_cv1i rfl rfl rfl rfl (zl_r hrc) (c_50 hrc hcs (by omega)) ?_
        refine zK.blk rfl ?_
        exact p_iret trivial rfl rfl
      · skip
        rw [hb] at hc22; cases hc22 --STOP
    · skip
      rw [hzf] at hc12; cases hc12 --STOP
set_option maxRecDepth 100000 in
set_option maxHeartbeats 4000000 in
theorem c_61s {sc : Nat × (Nat → Int32)} {d : Nat} {M M2 : zM} {m rc q N : Nat} {P T K : Nat → Nat} {c : Nat → Nat} {t : Nat} (hsg : sgC M m P T K) (hq1 : 1 ≤ q) (hq : q < 4) (ht : t < z22 q) (hb : zbar P m q = true) : zC 47 sc (d + 10) 61 [.ref 0, .int (nI q), .int (nI t)] M (some (.int (-2))) (M) := by
  have hzc := zcnt_t hq1 hq
  have hzf := zfits_t hq ht
  refine z_enter (L := [.ref 0, .int (nI q), .int (nI t)]) rfl rfl rfl ?_
  refine zK.blk rfl ?_
  refine p_iloadn_1 ?_
  refine p_cs1i rfl rfl rfl rfl rfl (c_82) ?_
  refine p_ifB_eq (tgt := 15) (by decide) (fun hc4 => ?_) (fun hc4 => ?_)
  · skip
    rw [hzc] at hc4; cases hc4 --STOP
  · skip
    refine p_iloadn_1 ?_
    refine p_iloadn_2 ?_
    refine p_cs2i rfl rfl rfl rfl rfl (c_0) ?_
    refine p_ifB_ne (tgt := 17) (by decide) (fun hc12 => ?_) (fun hc12 => ?_)
    · skip
      refine zK.blk rfl ?_
      refine p_aloadn_0 ?_
      refine p_iloadn_1 ?_
      refine p_cv1i rfl rfl rfl rfl rfl (c_85 hsg (by omega)) ?_
      refine p_ifB_eq (tgt := 30) (by decide) (fun hc22 => ?_) (fun hc22 => ?_)
      · skip
        rw [hb] at hc22; cases hc22 --STOP
      · skip
        refine p_bipush (v := -2) (by decide) ?_
        refine p_goto (tgt := 39) (by decide) ?_
        refine zK.blk rfl ?_
        exact p_iret trivial rfl rfl
    · skip
      rw [hzf] at hc12; cases hc12 --STOP
set_option maxRecDepth 100000 in
set_option maxHeartbeats 4000000 in
theorem c_61b {sc : Nat × (Nat → Int32)} {d : Nat} {M : zM} {x y : Int32} (hx : zrl x y = false) : zC 47 sc (d + 10) 61 [.ref 0, .int x, .int y] M (some (.int (-1))) (M) := by
  unfold zrl at hx
  refine z_enter (L := [.ref 0, .int x, .int y]) rfl rfl rfl ?_
  refine zK.blk rfl ?_
  refine p_iloadn_1 ?_
  refine p_cs1i rfl rfl rfl rfl rfl (c_82) ?_
  refine p_ifB_eq (tgt := 15) (by decide) (fun hc4 => ?_) (fun hc4 => ?_)
  · skip
    refine zK.blk rfl ?_
    refine p_iconst (v := -1) (by decide) ?_
    exact p_iret trivial rfl rfl
  · skip
    refine p_iloadn_1 ?_
    refine p_iloadn_2 ?_
    refine p_cs2i rfl rfl rfl rfl rfl (c_0) ?_
    refine p_ifB_ne (tgt := 17) (by decide) (fun hc12 => ?_) (fun hc12 => ?_)
    · skip
      rw [hc4, hc12] at hx; cases hx --STOP
    · skip
      refine zK.blk rfl ?_
      refine p_iconst (v := -1) (by decide) ?_
      exact p_iret trivial rfl rfl
set_option maxRecDepth 100000 in
set_option maxHeartbeats 4000000 in
theorem c_64 {sc : Nat × (Nat → Int32)} {d : Nat} {M M2 : zM} {m rc q N : Nat} {P T K : Nat → Nat} {c : Nat → Nat} {x : Int32} (hsg : sgC M m P T K) (hq1 : 1 ≤ q) (hq : q < 4) (hx : 0 ≤ x) (hb : zbar P m q = false) (hrc : zrc rc q N) (hR : zC 47 sc (d + 9) 86 [.ref 0, .int (nI q)] M (some (.ref rc)) M2) (hcs : rcC M2 rc N c) : zC 47 sc (d + 10) 64 [.ref 0, .int (nI q), .int x] M (some (.int (nI (hmN c N x)))) (M2) := by
  have hzc := zcnt_t hq1 hq
  refine z_enter (L := [.ref 0, .int (nI q), .int x]) rfl rfl rfl ?_
  refine zK.blk rfl ?_
  refine p_iloadn_1 ?_
  refine p_cs1i rfl rfl rfl rfl rfl (c_82) ?_
  refine p_ifB_eq (tgt := 11) (by decide) (fun hc4 => ?_) (fun hc4 => ?_)
  · skip
    rw [hzc] at hc4; cases hc4 --STOP
  · skip
    refine p_iloadn_2 ?_
    refine p_if_ge (tgt := 13) (by decide) (fun hc8 => ?_) (fun hc8 => ?_)
    · skip
      refine zK.blk rfl ?_
      refine p_aloadn_0 ?_
      refine p_iloadn_1 ?_
      refine p_cv1i rfl rfl rfl rfl rfl (c_85 hsg (by omega)) ?_
      refine p_ifB_eq (tgt := 26) (by decide) (fun hc18 => ?_) (fun hc18 => ?_)
      · skip
        refine zK.blk rfl ?_
        refine p_aloadn_0 ?_
        refine p_iloadn_1 ?_
        refine p_cv1a rfl rfl rfl rfl rfl (hR) ?_
        refine p_iloadn_2 ?_
        refine p_cv1i rfl rfl rfl rfl (zl_r hrc) (c_55 hrc hcs) ?_
        refine zK.blk rfl ?_
        exact p_iret trivial rfl rfl
      · skip
        rw [hb] at hc18; cases hc18 --STOP
    · skip
      exact absurd hx hc8 --STOP
set_option maxRecDepth 100000 in
set_option maxHeartbeats 4000000 in
theorem c_64s {sc : Nat × (Nat → Int32)} {d : Nat} {M M2 : zM} {m rc q N : Nat} {P T K : Nat → Nat} {c : Nat → Nat} {x : Int32} (hsg : sgC M m P T K) (hq1 : 1 ≤ q) (hq : q < 4) (hx : 0 ≤ x) (hb : zbar P m q = true) : zC 47 sc (d + 10) 64 [.ref 0, .int (nI q), .int x] M (some (.int (-2))) (M) := by
  have hzc := zcnt_t hq1 hq
  refine z_enter (L := [.ref 0, .int (nI q), .int x]) rfl rfl rfl ?_
  refine zK.blk rfl ?_
  refine p_iloadn_1 ?_
  refine p_cs1i rfl rfl rfl rfl rfl (c_82) ?_
  refine p_ifB_eq (tgt := 11) (by decide) (fun hc4 => ?_) (fun hc4 => ?_)
  · skip
    rw [hzc] at hc4; cases hc4 --STOP
  · skip
    refine p_iloadn_2 ?_
    refine p_if_ge (tgt := 13) (by decide) (fun hc8 => ?_) (fun hc8 => ?_)
    · skip
      refine zK.blk rfl ?_
      refine p_aloadn_0 ?_
      refine p_iloadn_1 ?_
      refine p_cv1i rfl rfl rfl rfl rfl (c_85 hsg (by omega)) ?_
      refine p_ifB_eq (tgt := 26) (by decide) (fun hc18 => ?_) (fun hc18 => ?_)
      · skip
        rw [hb] at hc18; cases hc18 --STOP
      · skip
        refine p_bipush (v := -2) (by decide) ?_
        refine p_goto (tgt := 35) (by decide) ?_
        refine zK.blk rfl ?_
        exact p_iret trivial rfl rfl
    · skip
      exact absurd hx hc8 --STOP
set_option maxRecDepth 100000 in
set_option maxHeartbeats 4000000 in
theorem c_64b {sc : Nat × (Nat → Int32)} {d : Nat} {M : zM} {x y : Int32} (hx : ¬ (zcnt x = true ∧ 0 ≤ y)) : zC 47 sc (d + 10) 64 [.ref 0, .int x, .int y] M (some (.int (-1))) (M) := by
  refine z_enter (L := [.ref 0, .int x, .int y]) rfl rfl rfl ?_
  refine zK.blk rfl ?_
  refine p_iloadn_1 ?_
  refine p_cs1i rfl rfl rfl rfl rfl (c_82) ?_
  refine p_ifB_eq (tgt := 11) (by decide) (fun hc4 => ?_) (fun hc4 => ?_)
  · skip
    refine zK.blk rfl ?_
    refine p_iconst (v := -1) (by decide) ?_
    exact p_iret trivial rfl rfl
  · skip
    refine p_iloadn_2 ?_
    refine p_if_ge (tgt := 13) (by decide) (fun hc8 => ?_) (fun hc8 => ?_)
    · skip
      exact absurd ⟨hc4, hc8⟩ hx --STOP
    · skip
      refine zK.blk rfl ?_
      refine p_iconst (v := -1) (by decide) ?_
      exact p_iret trivial rfl rfl
set_option maxRecDepth 100000 in
set_option maxHeartbeats 4000000 in
theorem c_63 {sc : Nat × (Nat → Int32)} {d : Nat} {M M2 : zM} {m rc q N : Nat} {P T K : Nat → Nat} {c : Nat → Nat} {w : Nat} (hsg : sgC M m P T K) (hq1 : 1 ≤ q) (hq : q < 4) (hw : w ≤ 2) (hb : zbar P m q = false) (hrc : zrc rc q N) (hR : zC 47 sc (d + 9) 86 [.ref 0, .int (nI q)] M (some (.ref rc)) M2) (hcs : rcC M2 rc N c) : zC 47 sc (d + 10) 63 [.ref 0, .int (nI q), .int (nI w)] M (some (.int (if w = 0 then nI (gcN c N) else if w = 1 then zfirst (fcB c (nI (gcN c N))) N 0 else zfirst (fuB c) N 0))) (M2) := by
  have hzc := zcnt_t hq1 hq
  refine z_enter (L := [.ref 0, .int (nI q), .int (nI w), .null]) rfl rfl rfl ?_
  refine zK.blk rfl ?_
  refine p_iloadn_1 ?_
  refine p_cs1i rfl rfl rfl rfl rfl (c_82) ?_
  refine p_ifB_eq (tgt := 16) (by decide) (fun hc4 => ?_) (fun hc4 => ?_)
  · skip
    rw [hzc] at hc4; cases hc4 --STOP
  · skip
    refine p_iloadn_2 ?_
    refine p_ifN_lt (tgt := 16) (by decide) (by omega) (fun hc8 => ?_) (fun hc8 => ?_)
    · skip
      exact absurd hc8 (by omega) --STOP
    · skip
      refine p_iloadn_2 ?_
      refine p_iconst (v := nI 2) (by decide) ?_
      refine p_icmpN_le (tgt := 18) (by decide) (by omega) (by omega) (fun hc13 => ?_) (fun hc13 => ?_)
      · skip
        refine zK.blk rfl ?_
        refine p_aloadn_0 ?_
        refine p_iloadn_1 ?_
        refine p_cv1i rfl rfl rfl rfl rfl (c_85 hsg (by omega)) ?_
        refine p_ifB_eq (tgt := 29) (by decide) (fun hc23 => ?_) (fun hc23 => ?_)
        · skip
          refine zK.blk rfl ?_
          refine p_aloadn_0 ?_
          refine p_iloadn_1 ?_
          refine p_cv1a rfl rfl rfl rfl rfl (hR) ?_
          refine p_astoren_3 rfl ?_
          refine p_iloadn_2 ?_
          rcases (show w = 0 ∨ w = 1 ∨ w = 2 by omega) with rfl | rfl | rfl
          · refine p_lk (off := 28) (tgt := 64) (by decide) (by decide) (by decide) ?_
            rw [if_pos rfl]
            refine zK.blk rfl ?_
            refine p_aloadn_3 ?_
            refine p_cv0i rfl rfl rfl rfl (zl_r hrc) (c_52 hrc hcs) ?_
            exact p_iret trivial rfl rfl
          · refine p_lk (off := 33) (tgt := 69) (by decide) (by decide) (by decide) ?_
            rw [if_neg (by decide), if_pos rfl]
            refine zK.blk rfl ?_
            refine p_aloadn_3 ?_
            refine p_aloadn_3 ?_
            refine p_cv0i rfl rfl rfl rfl (zl_r hrc) (c_52 hrc hcs) ?_
            refine p_cv1i rfl rfl rfl rfl (zl_r hrc) (c_53 hrc hcs) ?_
            exact p_iret trivial rfl rfl
          · refine p_lk (off := 42) (tgt := 78) (by decide) (by decide) (by decide) ?_
            rw [if_neg (by decide), if_neg (by decide)]
            refine zK.blk rfl ?_
            refine p_aloadn_3 ?_
            refine p_cv0i rfl rfl rfl rfl (zl_r hrc) (c_54 hrc hcs) ?_
            exact p_iret trivial rfl rfl
        · skip
          rw [hb] at hc23; cases hc23 --STOP
      · skip
        exact absurd hw hc13 --STOP
set_option maxRecDepth 100000 in
set_option maxHeartbeats 4000000 in
theorem c_63s {sc : Nat × (Nat → Int32)} {d : Nat} {M M2 : zM} {m rc q N : Nat} {P T K : Nat → Nat} {c : Nat → Nat} {w : Nat} (hsg : sgC M m P T K) (hq1 : 1 ≤ q) (hq : q < 4) (hw : w ≤ 2) (hb : zbar P m q = true) : zC 47 sc (d + 10) 63 [.ref 0, .int (nI q), .int (nI w)] M (some (.int (-2))) (M) := by
  have hzc := zcnt_t hq1 hq
  refine z_enter (L := [.ref 0, .int (nI q), .int (nI w), .null]) rfl rfl rfl ?_
  refine zK.blk rfl ?_
  refine p_iloadn_1 ?_
  refine p_cs1i rfl rfl rfl rfl rfl (c_82) ?_
  refine p_ifB_eq (tgt := 16) (by decide) (fun hc4 => ?_) (fun hc4 => ?_)
  · skip
    rw [hzc] at hc4; cases hc4 --STOP
  · skip
    refine p_iloadn_2 ?_
    refine p_ifN_lt (tgt := 16) (by decide) (by omega) (fun hc8 => ?_) (fun hc8 => ?_)
    · skip
      exact absurd hc8 (by omega) --STOP
    · skip
      refine p_iloadn_2 ?_
      refine p_iconst (v := nI 2) (by decide) ?_
      refine p_icmpN_le (tgt := 18) (by decide) (by omega) (by omega) (fun hc13 => ?_) (fun hc13 => ?_)
      · skip
        refine zK.blk rfl ?_
        refine p_aloadn_0 ?_
        refine p_iloadn_1 ?_
        refine p_cv1i rfl rfl rfl rfl rfl (c_85 hsg (by omega)) ?_
        refine p_ifB_eq (tgt := 29) (by decide) (fun hc23 => ?_) (fun hc23 => ?_)
        · skip
          rw [hb] at hc23; cases hc23 --STOP
        · skip
          refine p_bipush (v := -2) (by decide) ?_
          exact p_iret trivial rfl rfl
      · skip
        exact absurd hw hc13 --STOP
set_option maxRecDepth 100000 in
set_option maxHeartbeats 4000000 in
theorem c_63b {sc : Nat × (Nat → Int32)} {d : Nat} {M : zM} {x y : Int32} (hx : ¬ (zcnt x = true ∧ zin y (nI 0) (nI 2) = true)) : zC 47 sc (d + 10) 63 [.ref 0, .int x, .int y] M (some (.int (-1))) (M) := by
  refine z_enter (L := [.ref 0, .int x, .int y, .null]) rfl rfl rfl ?_
  refine zK.blk rfl ?_
  refine p_iloadn_1 ?_
  refine p_cs1i rfl rfl rfl rfl rfl (c_82) ?_
  refine p_ifB_eq (tgt := 16) (by decide) (fun hc4 => ?_) (fun hc4 => ?_)
  · skip
    refine zK.blk rfl ?_
    refine p_iconst (v := -1) (by decide) ?_
    exact p_iret trivial rfl rfl
  · skip
    refine p_iloadn_2 ?_
    refine p_if_lt (tgt := 16) (by decide) (fun hc8 => ?_) (fun hc8 => ?_)
    · skip
      refine zK.blk rfl ?_
      refine p_iconst (v := -1) (by decide) ?_
      exact p_iret trivial rfl rfl
    · skip
      refine p_iloadn_2 ?_
      refine p_iconst (v := nI 2) (by decide) ?_
      refine p_icmp_le (tgt := 18) (by decide) (fun hc13 => ?_) (fun hc13 => ?_)
      · skip
        exact absurd ⟨hc4, by unfold zin; rw [decide_eq_true (show ¬ y < nI 0 from hc8), decide_eq_true (Int32.not_lt.mpr hc13)]; rfl⟩ hx --STOP
      · skip
        refine zK.blk rfl ?_
        refine p_iconst (v := -1) (by decide) ?_
        exact p_iret trivial rfl rfl
