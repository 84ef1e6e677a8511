def rdF (M : zM) (t v : Nat) : Nat := if M 37 t = -9 then v + 0 else v + 1
def rdN (M : zM) (N : Nat) : Nat := zfor (rdF M) N 0 0
def csF (M : zM) (x : Int32) (t v : Nat) : Nat := if M 37 t = x then v + 1 else v + 0
def csN (M : zM) (x : Int32) (N : Nat) : Nat := zfor (csF M x) N 0 0
set_option maxRecDepth 100000 in
set_option maxHeartbeats 4000000 in
theorem lp_102_27 {sc : Nat × (Nat → Int32)} {d : Nat} {M : zM} {r : Option Value} {M' : zM} {q : Nat} (hq : q < 4) : ∀ (j i v : Nat), i + j = z22 q → zK 47 sc (zC 47 sc (d + 9)) 102 r M' 62 [.ref 33, .int (nI q), .int (nI 0), .int (nI (zfor (rdF M) j i v)), .int (nI (z22 q))] [] (M) → zK 47 sc (zC 47 sc (d + 9)) 102 r M' 27 [.ref 33, .int (nI q), .int (nI 0), .int (nI v), .int (nI i)] [] (M) := by
  intro j
  induction j with
  | zero =>
    intro i v  hj hk
    have hin : i = z22 q := by omega
    subst hin
    have hz := z22_lt hq
    refine zK.blk rfl ?_
    refine p_iload_4 ?_
    refine p_iloadn_1 ?_
    refine p_cs1i rfl rfl rfl rfl rfl (c_91 hq) ?_
    refine p_icmpN_ge (tgt := 62) (by decide) (by omega) (by omega) (fun hc33 => ?_) (fun hc33 => ?_)
    · skip
      exact hk
    · skip
      exact absurd hc33 (by omega) --STOP
  | succ j ih =>
    intro i v  hj hk
    have hz := z22_lt hq
    refine zK.blk rfl ?_
    refine p_iload_4 ?_
    refine p_iloadn_1 ?_
    refine p_cs1i rfl rfl rfl rfl rfl (c_91 hq) ?_
    refine p_icmpN_ge (tgt := 62) (by decide) (by omega) (by omega) (fun hc33 => ?_) (fun hc33 => ?_)
    · skip
      exact absurd hc33 (by omega) --STOP
    · skip
      refine p_iloadn_3 ?_
      refine p_aloadn_0 ?_
      refine p_getr rfl rfl ?_
      refine p_iload_4 ?_
      refine p_iald rfl (by omega) (by decide) (rfl) ?_
      refine p_bipush (v := -9) (by decide) ?_
      refine p_icmp_ne (tgt := 53) (by decide) (fun hc46 => ?_) (fun hc46 => ?_)
      · skip
        rw [zfor_step (f := rdF M) (a' := v + 1) (by unfold rdF; rw [if_neg hc46])] at hk
        refine zK.blk rfl ?_
        refine p_iconst (v := nI 1) (by decide) ?_
        refine zK.blk rfl ?_
        refine p_iaddN ?_
        refine p_istoren_3 rfl ?_
        refine p_iinc_4 (zN_inc _ 1) rfl ?_
        refine p_goto (tgt := 27) (by decide) ?_
        exact ih _ _ (by omega) hk
      · skip
        rw [zfor_step (f := rdF M) (a' := v + 0) (by unfold rdF; rw [if_pos (Classical.not_not.mp hc46)])] at hk
        refine p_iconst (v := nI 0) (by decide) ?_
        refine p_goto (tgt := 54) (by decide) ?_
        refine zK.blk rfl ?_
        refine p_iaddN ?_
        refine p_istoren_3 rfl ?_
        refine p_iinc_4 (zN_inc _ 1) rfl ?_
        refine p_goto (tgt := 27) (by decide) ?_
        exact ih _ _ (by omega) hk
set_option maxRecDepth 100000 in
set_option maxHeartbeats 4000000 in
theorem c_102 {sc : Nat × (Nat → Int32)} {d : Nat} {M M2 : zM} {n q : Nat} {P T K : Nat → Nat} (hsm : sgM M n P T K) (hq1 : 1 ≤ q) (hq : q < 4) (hb : zbar P n q = false) (hFi : zC 47 sc (d + 9) 100 [.ref 33, .int (nI q)] M none M2) : zC 47 sc (d + 10) 102 [.ref 33, .int (nI q)] M (some (.int (nI (rdN M2 (z22 q))))) (M2) := by
  obtain ⟨hth, hm, hn6, hR, hT⟩ := id hsm
  refine z_enter (L := [.ref 33, .int (nI q), .null, .null, .null]) rfl rfl rfl ?_
  refine zK.blk rfl ?_
  refine p_aloadn_0 ?_
  refine p_iconst (v := nI 0) (by decide) ?_
  refine p_put rfl rfl (by simp) ?_
  rw [zup_id hth]
  refine p_aloadn_0 ?_
  refine p_iloadn_1 ?_
  refine p_cv1i rfl rfl rfl rfl rfl (c_101 hsm hq1 hq) ?_
  rw [hb, if_neg (by decide)]
  refine p_istoren_2 rfl ?_
  refine p_iloadn_2 ?_
  refine p_ifN_ge (tgt := 17) (by decide) (by omega) (fun hc12 => ?_) (fun hc12 => ?_)
  · skip
    refine zK.blk rfl ?_
    refine p_aloadn_0 ?_
    refine p_iloadn_1 ?_
    refine p_cv1v rfl rfl rfl rfl rfl (hFi) ?_
    refine p_iconst (v := nI 0) (by decide) ?_
    refine p_istoren_3 rfl ?_
    refine p_iconst (v := nI 0) (by decide) ?_
    refine p_istore_4 rfl ?_
    refine lp_102_27 hq (z22 q) 0 0 (by omega) ?_
    refine zK.blk rfl ?_
    refine p_iloadn_3 ?_
    exact p_iret trivial rfl rfl
  · skip
    exact absurd (Nat.zero_le _) hc12 --STOP
set_option maxRecDepth 100000 in
set_option maxHeartbeats 4000000 in
theorem c_102s {sc : Nat × (Nat → Int32)} {d : Nat} {M : zM} {n q : Nat} {P T K : Nat → Nat} (hsm : sgM M n P T K) (hq1 : 1 ≤ q) (hq : q < 4) (hb : zbar P n q = true) : zC 47 sc (d + 10) 102 [.ref 33, .int (nI q)] M (some (.int (-2))) (M) := by
  obtain ⟨hth, hm, hn6, hR, hT⟩ := id hsm
  refine z_enter (L := [.ref 33, .int (nI q), .null, .null, .null]) rfl rfl rfl ?_
  refine zK.blk rfl ?_
  refine p_aloadn_0 ?_
  refine p_iconst (v := nI 0) (by decide) ?_
  refine p_put rfl rfl (by simp) ?_
  rw [zup_id hth]
  refine p_aloadn_0 ?_
  refine p_iloadn_1 ?_
  refine p_cv1i rfl rfl rfl rfl rfl (c_101 hsm hq1 hq) ?_
  rw [hb, if_pos rfl]
  refine p_istoren_2 rfl ?_
  refine p_iloadn_2 ?_
  refine p_if_ge (tgt := 17) (by decide) (fun hc12 => ?_) (fun hc12 => ?_)
  · skip
    exact absurd hc12 (by decide) --STOP
  · skip
    refine p_iloadn_2 ?_
    exact p_iret trivial rfl rfl
set_option maxRecDepth 100000 in
set_option maxHeartbeats 4000000 in
theorem c_102b {sc : Nat × (Nat → Int32)} {d : Nat} {M : zM} {n : Nat} {P T K : Nat → Nat} {x : Int32} (hsm : sgM M n P T K) (hx : zcnt x = false) : zC 47 sc (d + 10) 102 [.ref 33, .int x] M (some (.int (-1))) (M) := by
  obtain ⟨hth, hm, hn6, hR, hT⟩ := id hsm
  refine z_enter (L := [.ref 33, .int x, .null, .null, .null]) rfl rfl rfl ?_
  refine zK.blk rfl ?_
  refine p_aloadn_0 ?_
  refine p_iconst (v := nI 0) (by decide) ?_
  refine p_put rfl rfl (by simp) ?_
  rw [zup_id hth]
  refine p_aloadn_0 ?_
  refine p_iloadn_1 ?_
  refine p_cv1i rfl rfl rfl rfl rfl (c_101a hx) ?_
  refine p_istoren_2 rfl ?_
  refine p_iloadn_2 ?_
  refine p_if_ge (tgt := 17) (by decide) (fun hc12 => ?_) (fun hc12 => ?_)
  · skip
    exact absurd hc12 (by decide) --STOP
  · skip
    refine p_iloadn_2 ?_
    exact p_iret trivial rfl rfl
set_option maxRecDepth 100000 in
set_option maxHeartbeats 4000000 in
theorem c_103 {sc : Nat × (Nat → Int32)} {d : Nat} {M M2 : zM} {n q : Nat} {P T K : Nat → Nat} {t : Nat} (hsm : sgM M n P T K) (hq1 : 1 ≤ q) (hq : q < 4) (ht : t < z22 q) (hb : zbar P n q = false) (hFi : zC 47 sc (d + 9) 100 [.ref 33, .int (nI q)] M none M2) : zC 47 sc (d + 10) 103 [.ref 33, .int (nI q), .int (nI t)] M (some (.int (M2 37 t))) (M2) := by
  obtain ⟨hth, hm, hn6, hR, hT⟩ := id hsm
  have e1 := zin_t (a := q) (lo := 1) (hi := 3) hq1 (by omega) (by decide)
  have hz := z22_lt hq
  have e2 := zin_t (a := t) (lo := 0) (hi := z22 q - 1) (by omega) (by omega) (by omega)
  refine z_enter (L := [.ref 33, .int (nI q), .int (nI t)]) rfl rfl rfl ?_
  refine zK.blk rfl ?_
  refine p_aloadn_0 ?_
  refine p_iconst (v := nI 0) (by decide) ?_
  refine p_put rfl rfl (by simp) ?_
  rw [zup_id hth]
  refine p_iloadn_1 ?_
  refine p_iconst (v := nI 1) (by decide) ?_
  refine p_iconst (v := nI 3) (by decide) ?_
  refine p_cs3i rfl rfl rfl rfl rfl (c_89) ?_
  refine p_ifB_eq (tgt := 28) (by decide) (fun hc11 => ?_) (fun hc11 => ?_)
  · skip
    rw [e1] at hc11; cases hc11 --STOP
  · skip
    refine p_iloadn_2 ?_
    refine p_iconst (v := nI 0) (by decide) ?_
    refine p_iloadn_1 ?_
    refine p_cs1i rfl rfl rfl rfl rfl (c_91 hq) ?_
    refine p_iconst (v := nI 1) (by decide) ?_
    refine p_isubN (by omega) ?_
    refine p_cs3i rfl rfl rfl rfl rfl (c_89) ?_
    refine p_ifB_ne (tgt := 30) (by decide) (fun hc25 => ?_) (fun hc25 => ?_)
    · skip
      refine zK.blk rfl ?_
      refine p_aloadn_0 ?_
      refine p_iloadn_1 ?_
      refine p_cv1i rfl rfl rfl rfl rfl (c_101 hsm hq1 hq) ?_
      rw [hb, if_neg (by decide)]
      refine p_ifN_ge (tgt := 41) (by decide) (by omega) (fun hc35 => ?_) (fun hc35 => ?_)
      · skip
        refine zK.blk rfl ?_
        refine p_aloadn_0 ?_
        refine p_iloadn_1 ?_
        refine p_cv1v rfl rfl rfl rfl rfl (hFi) ?_
        refine p_aloadn_0 ?_
        refine p_getr rfl rfl ?_
        refine p_iloadn_2 ?_
        refine p_iald rfl (by omega) (by decide) (rfl) ?_
        exact p_iret trivial rfl rfl
      · skip
        exact absurd (Nat.zero_le _) hc35 --STOP
    · skip
      rw [e2] at hc25; cases hc25 --STOP
set_option maxRecDepth 100000 in
set_option maxHeartbeats 4000000 in
theorem c_103s {sc : Nat × (Nat → Int32)} {d : Nat} {M : zM} {n q : Nat} {P T K : Nat → Nat} {t : Nat} (hsm : sgM M n P T K) (hq1 : 1 ≤ q) (hq : q < 4) (ht : t < z22 q) (hb : zbar P n q = true) : zC 47 sc (d + 10) 103 [.ref 33, .int (nI q), .int (nI t)] M (some (.int (-2))) (M) := by
  obtain ⟨hth, hm, hn6, hR, hT⟩ := id hsm
  have e1 := zin_t (a := q) (lo := 1) (hi := 3) hq1 (by omega) (by decide)
  have hz := z22_lt hq
  have e2 := zin_t (a := t) (lo := 0) (hi := z22 q - 1) (by omega) (by omega) (by omega)
  refine z_enter (L := [.ref 33, .int (nI q), .int (nI t)]) rfl rfl rfl ?_
  refine zK.blk rfl ?_
  refine p_aloadn_0 ?_
  refine p_iconst (v := nI 0) (by decide) ?_
  refine p_put rfl rfl (by simp) ?_
  rw [zup_id hth]
  refine p_iloadn_1 ?_
  refine p_iconst (v := nI 1) (by decide) ?_
  refine p_iconst (v := nI 3) (by decide) ?_
  refine p_cs3i rfl rfl rfl rfl rfl (c_89) ?_
  refine p_ifB_eq (tgt := 28) (by decide) (fun hc11 => ?_) (fun hc11 => ?_)
  · skip
    rw [e1] at hc11; cases hc11 --STOP
  · skip
    refine p_iloadn_2 ?_
    refine p_iconst (v := nI 0) (by decide) ?_
    refine p_iloadn_1 ?_
    refine p_cs1i rfl rfl rfl rfl rfl (c_91 hq) ?_
    refine p_iconst (v := nI 1) (by decide) ?_
    refine p_isubN (by omega) ?_
    refine p_cs3i rfl rfl rfl rfl rfl (c_89) ?_
    refine p_ifB_ne (tgt := 30) (by decide) (fun hc25 => ?_) (fun hc25 => ?_)
    · skip
      refine zK.blk rfl ?_
      refine p_aloadn_0 ?_
      refine p_iloadn_1 ?_
      refine p_cv1i rfl rfl rfl rfl rfl (c_101 hsm hq1 hq) ?_
      rw [hb, if_pos rfl]
      refine p_if_ge (tgt := 41) (by decide) (fun hc35 => ?_) (fun hc35 => ?_)
      · skip
        exact absurd hc35 (by decide) --STOP
      · skip
        refine p_bipush (v := -2) (by decide) ?_
        exact p_iret trivial rfl rfl
    · skip
      rw [e2] at hc25; cases hc25 --STOP
set_option maxRecDepth 100000 in
set_option maxHeartbeats 4000000 in
theorem lp_107_41 {sc : Nat × (Nat → Int32)} {d : Nat} {M : zM} {r : Option Value} {M' : zM} {q : Nat} {x : Int32} (hq : q < 4) : ∀ (j i v : Nat), i + j = z22 q → zK 47 sc (zC 47 sc (d + 9)) 107 r M' 75 [.ref 33, .int (nI q), .int x, .int (nI (zfor (csF M x) j i v)), .int (nI (z22 q))] [] (M) → zK 47 sc (zC 47 sc (d + 9)) 107 r M' 41 [.ref 33, .int (nI q), .int x, .int (nI v), .int (nI i)] [] (M) := by
  intro j
  induction j with
  | zero =>
    intro i v  hj hk
    have hin : i = z22 q := by omega
    subst hin
    have hz := z22_lt hq
    refine zK.blk rfl ?_
    refine p_iload_4 ?_
    refine p_iloadn_1 ?_
    refine p_cs1i rfl rfl rfl rfl rfl (c_91 hq) ?_
    refine p_icmpN_ge (tgt := 75) (by decide) (by omega) (by omega) (fun hc47 => ?_) (fun hc47 => ?_)
    · skip
      exact hk
    · skip
      exact absurd hc47 (by omega) --STOP
  | succ j ih =>
    intro i v  hj hk
    have hz := z22_lt hq
    refine zK.blk rfl ?_
    refine p_iload_4 ?_
    refine p_iloadn_1 ?_
    refine p_cs1i rfl rfl rfl rfl rfl (c_91 hq) ?_
    refine p_icmpN_ge (tgt := 75) (by decide) (by omega) (by omega) (fun hc47 => ?_) (fun hc47 => ?_)
    · skip
      exact absurd hc47 (by omega) --STOP
    · skip
      refine p_iloadn_3 ?_
      refine p_aloadn_0 ?_
      refine p_getr rfl rfl ?_
      refine p_iload_4 ?_
      refine p_iald rfl (by omega) (by decide) (rfl) ?_
      refine p_iloadn_2 ?_
      refine p_icmp_ne (tgt := 66) (by decide) (fun hc59 => ?_) (fun hc59 => ?_)
      · skip
        rw [zfor_step (f := csF M x) (a' := v + 0) (by unfold csF; rw [if_neg hc59])] at hk
        refine zK.blk rfl ?_
        refine p_iconst (v := nI 0) (by decide) ?_
        refine zK.blk rfl ?_
        refine p_iaddN ?_
        refine p_istoren_3 rfl ?_
        refine p_iinc_4 (zN_inc _ 1) rfl ?_
        refine p_goto (tgt := 41) (by decide) ?_
        exact ih _ _ (by omega) hk
      · skip
        rw [zfor_step (f := csF M x) (a' := v + 1) (by unfold csF; rw [if_pos (Classical.not_not.mp hc59)])] at hk
        refine p_iconst (v := nI 1) (by decide) ?_
        refine p_goto (tgt := 67) (by decide) ?_
        refine zK.blk rfl ?_
        refine p_iaddN ?_
        refine p_istoren_3 rfl ?_
        refine p_iinc_4 (zN_inc _ 1) rfl ?_
        refine p_goto (tgt := 41) (by decide) ?_
        exact ih _ _ (by omega) hk
set_option maxRecDepth 100000 in
set_option maxHeartbeats 4000000 in
theorem c_107 {sc : Nat × (Nat → Int32)} {d : Nat} {M M2 : zM} {n q : Nat} {P T K : Nat → Nat} {x : Int32} (hsm : sgM M n P T K) (hq1 : 1 ≤ q) (hq : q < 4) (hx : 0 ≤ x) (hb : zbar P n q = false) (hFi : zC 47 sc (d + 9) 100 [.ref 33, .int (nI q)] M none M2) : zC 47 sc (d + 10) 107 [.ref 33, .int (nI q), .int x] M (some (.int (nI (csN M2 x (z22 q))))) (M2) := by
  obtain ⟨hth, hm, hn6, hR, hT⟩ := id hsm
  have e1 := zin_t (a := q) (lo := 1) (hi := 3) hq1 (by omega) (by decide)
  have hz := z22_lt hq
  refine z_enter (L := [.ref 33, .int (nI q), .int x, .null, .null]) rfl rfl rfl ?_
  refine zK.blk rfl ?_
  refine p_aloadn_0 ?_
  refine p_iconst (v := nI 0) (by decide) ?_
  refine p_put rfl rfl (by simp) ?_
  rw [zup_id hth]
  refine p_iloadn_1 ?_
  refine p_iconst (v := nI 1) (by decide) ?_
  refine p_iconst (v := nI 3) (by decide) ?_
  refine p_cs3i rfl rfl rfl rfl rfl (c_89) ?_
  refine p_ifB_eq (tgt := 18) (by decide) (fun hc11 => ?_) (fun hc11 => ?_)
  · skip
    rw [e1] at hc11; cases hc11 --STOP
  · skip
    refine p_iloadn_2 ?_
    refine p_if_ge (tgt := 20) (by decide) (fun hc15 => ?_) (fun hc15 => ?_)
    · skip
      refine zK.blk rfl ?_
      refine p_aloadn_0 ?_
      refine p_iloadn_1 ?_
      refine p_cv1i rfl rfl rfl rfl rfl (c_101 hsm hq1 hq) ?_
      rw [hb, if_neg (by decide)]
      refine p_ifN_ge (tgt := 31) (by decide) (by omega) (fun hc25 => ?_) (fun hc25 => ?_)
      · skip
        refine zK.blk rfl ?_
        refine p_aloadn_0 ?_
        refine p_iloadn_1 ?_
        refine p_cv1v rfl rfl rfl rfl rfl (hFi) ?_
        refine p_iconst (v := nI 0) (by decide) ?_
        refine p_istoren_3 rfl ?_
        refine p_iconst (v := nI 0) (by decide) ?_
        refine p_istore_4 rfl ?_
        refine lp_107_41 hq (z22 q) 0 0 (by omega) ?_
        refine zK.blk rfl ?_
        refine p_iloadn_3 ?_
        exact p_iret trivial rfl rfl
      · skip
        exact absurd (Nat.zero_le _) hc25 --STOP
    · skip
      exact absurd hx hc15 --STOP
set_option maxRecDepth 100000 in
set_option maxHeartbeats 4000000 in
theorem c_107s {sc : Nat × (Nat → Int32)} {d : Nat} {M : zM} {n q : Nat} {P T K : Nat → Nat} {x : Int32} (hsm : sgM M n P T K) (hq1 : 1 ≤ q) (hq : q < 4) (hx : 0 ≤ x) (hb : zbar P n q = true) : zC 47 sc (d + 10) 107 [.ref 33, .int (nI q), .int x] M (some (.int (-2))) (M) := by
  obtain ⟨hth, hm, hn6, hR, hT⟩ := id hsm
  have e1 := zin_t (a := q) (lo := 1) (hi := 3) hq1 (by omega) (by decide)
  have hz := z22_lt hq
  refine z_enter (L := [.ref 33, .int (nI q), .int x, .null, .null]) rfl rfl rfl ?_
  refine zK.blk rfl ?_
  refine p_aloadn_0 ?_
  refine p_iconst (v := nI 0) (by decide) ?_
  refine p_put rfl rfl (by simp) ?_
  rw [zup_id hth]
  refine p_iloadn_1 ?_
  refine p_iconst (v := nI 1) (by decide) ?_
  refine p_iconst (v := nI 3) (by decide) ?_
  refine p_cs3i rfl rfl rfl rfl rfl (c_89) ?_
  refine p_ifB_eq (tgt := 18) (by decide) (fun hc11 => ?_) (fun hc11 => ?_)
  · skip
    rw [e1] at hc11; cases hc11 --STOP
  · skip
    refine p_iloadn_2 ?_
    refine p_if_ge (tgt := 20) (by decide) (fun hc15 => ?_) (fun hc15 => ?_)
    · skip
      refine zK.blk rfl ?_
      refine p_aloadn_0 ?_
      refine p_iloadn_1 ?_
      refine p_cv1i rfl rfl rfl rfl rfl (c_101 hsm hq1 hq) ?_
      rw [hb, if_pos rfl]
      refine p_if_ge (tgt := 31) (by decide) (fun hc25 => ?_) (fun hc25 => ?_)
      · skip
        exact absurd hc25 (by decide) --STOP
      · skip
        refine p_bipush (v := -2) (by decide) ?_
        exact p_iret trivial rfl rfl
    · skip
      exact absurd hx hc15 --STOP
