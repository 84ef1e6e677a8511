theorem zin_m1 {x : Int32} (h1 : ¬ x < -1) (h2 : x < nI 3) : zin x (-1) (nI 2) = true := by
  unfold zin
  rw [decide_eq_true h1, decide_eq_true (show ¬ nI 2 < x by
    rw [Int32.lt_iff_toInt_lt] at h2 ⊢
    rw [nI_toInt (by decide)] at h2 ⊢
    omega)]
  rfl
theorem zin_m1f {x : Int32} (h : zin x (-1) (nI 2) = true) : ¬ x < -1 ∧ x < nI 3 := by
  unfold zin at h
  simp only [Bool.and_eq_true, decide_eq_true_eq] at h
  refine ⟨h.1, ?_⟩
  have h2 := h.2
  rw [Int32.lt_iff_toInt_lt] at h2 ⊢
  rw [nI_toInt (by decide)] at h2 ⊢
  omega
set_option maxRecDepth 100000 in
set_option maxHeartbeats 4000000 in
theorem c_103b {sc : Nat × (Nat → Int32)} {d : Nat} {M : zM} {n : Nat} {P T K : Nat → Nat} {x y : Int32} (hsm : sgM M n P T K) (hx : zrl x y = false) : zC 47 sc (d + 10) 103 [.ref 33, .int x, .int y] M (some (.int (-1))) (M) := by
  obtain ⟨hth, hm, hn6, hR, hT⟩ := id hsm
  refine z_enter (L := [.ref 33, .int x, .int y]) rfl rfl rfl ?_
  refine zK.blk rfl ?_
  refine p_aloadn_0 ?_
  refine p_iconst (v := nI 0) (by decide) ?_
  refine p_put rfl rfl (by simp) ?_
  rw [zup_id hth]
  refine p_iloadn_1 ?_
  refine p_iconst (v := nI 1) (by decide) ?_
  refine p_iconst (v := nI 3) (by decide) ?_
  refine p_cs3i rfl rfl rfl rfl rfl (c_89) ?_
  refine p_ifB_eq (tgt := 28) (by decide) (fun hc11 => ?_) (fun hc11 => ?_)
  · skip
    refine zK.blk rfl ?_
    refine p_iconst (v := -1) (by decide) ?_
    exact p_iret trivial rfl rfl
  · skip
    obtain ⟨q, hq1, hq, rfl⟩ := zcnt_x (show zcnt x = true from hc11)
    have hz := z22_lt hq
    refine p_iloadn_2 ?_
    refine p_iconst (v := nI 0) (by decide) ?_
    refine p_iloadn_1 ?_
    refine p_cs1i rfl rfl rfl rfl rfl (c_91 hq) ?_
    refine p_iconst (v := nI 1) (by decide) ?_
    refine p_isubN (by omega) ?_
    refine p_cs3i rfl rfl rfl rfl rfl (c_89) ?_
    refine p_ifB_ne (tgt := 30) (by decide) (fun hc25 => ?_) (fun hc25 => ?_)
    · skip
      exact absurd hx (by unfold zrl; rw [zcnt_t hq1 hq, zfits_zin hq, hc25]; decide) --STOP
    · skip
      refine zK.blk rfl ?_
      refine p_iconst (v := -1) (by decide) ?_
      exact p_iret trivial rfl rfl
set_option maxRecDepth 100000 in
set_option maxHeartbeats 4000000 in
theorem c_107b {sc : Nat × (Nat → Int32)} {d : Nat} {M : zM} {n : Nat} {P T K : Nat → Nat} {x y : Int32} (hsm : sgM M n P T K) (hx : ¬ (zcnt x = true ∧ 0 ≤ y)) : zC 47 sc (d + 10) 107 [.ref 33, .int x, .int y] M (some (.int (-1))) (M) := by
  obtain ⟨hth, hm, hn6, hR, hT⟩ := id hsm
  refine z_enter (L := [.ref 33, .int x, .int y, .null, .null]) rfl rfl rfl ?_
  refine zK.blk rfl ?_
  refine p_aloadn_0 ?_
  refine p_iconst (v := nI 0) (by decide) ?_
  refine p_put rfl rfl (by simp) ?_
  rw [zup_id hth]
  refine p_iloadn_1 ?_
  refine p_iconst (v := nI 1) (by decide) ?_
  refine p_iconst (v := nI 3) (by decide) ?_
  refine p_cs3i rfl rfl rfl rfl rfl (c_89) ?_
  refine p_ifB_eq (tgt := 18) (by decide) (fun hc11 => ?_) (fun hc11 => ?_)
  · skip
    refine zK.blk rfl ?_
    refine p_iconst (v := -1) (by decide) ?_
    exact p_iret trivial rfl rfl
  · skip
    refine p_iloadn_2 ?_
    refine p_if_ge (tgt := 20) (by decide) (fun hc15 => ?_) (fun hc15 => ?_)
    · skip
      exact absurd ⟨hc11, hc15⟩ hx --STOP
    · skip
      refine zK.blk rfl ?_
      refine p_iconst (v := -1) (by decide) ?_
      exact p_iret trivial rfl rfl
set_option maxRecDepth 100000 in
set_option maxHeartbeats 4000000 in
theorem c_106b {sc : Nat × (Nat → Int32)} {d : Nat} {M : zM} {n : Nat} {P T K : Nat → Nat} {x y : Int32} (hsm : sgM M n P T K) (hx : ¬ (zcnt x = true ∧ zin y (nI 0) (nI 2) = true)) : zC 47 sc (d + 10) 106 [.ref 33, .int x, .int y] M (some (.int (-1))) (M) := by
  obtain ⟨hth, hm, hn6, hR, hT⟩ := id hsm
  refine z_enter (L := [.ref 33, .int x, .int y, .null, .null, .null, .null]) rfl rfl rfl ?_
  refine zK.blk rfl ?_
  refine p_aloadn_0 ?_
  refine p_iconst (v := nI 0) (by decide) ?_
  refine p_put rfl rfl (by simp) ?_
  rw [zup_id hth]
  refine p_iloadn_1 ?_
  refine p_iconst (v := nI 1) (by decide) ?_
  refine p_iconst (v := nI 3) (by decide) ?_
  refine p_cs3i rfl rfl rfl rfl rfl (c_89) ?_
  refine p_ifB_eq (tgt := 23) (by decide) (fun hc11 => ?_) (fun hc11 => ?_)
  · skip
    refine zK.blk rfl ?_
    refine p_iconst (v := -1) (by decide) ?_
    exact p_iret trivial rfl rfl
  · skip
    refine p_iloadn_2 ?_
    refine p_iconst (v := nI 0) (by decide) ?_
    refine p_iconst (v := nI 2) (by decide) ?_
    refine p_cs3i rfl rfl rfl rfl rfl (c_89) ?_
    refine p_ifB_ne (tgt := 25) (by decide) (fun hc20 => ?_) (fun hc20 => ?_)
    · skip
      exact absurd ⟨hc11, hc20⟩ hx --STOP
    · skip
      refine zK.blk rfl ?_
      refine p_iconst (v := -1) (by decide) ?_
      exact p_iret trivial rfl rfl
set_option maxRecDepth 100000 in
set_option maxHeartbeats 4000000 in
theorem c_105b {sc : Nat × (Nat → Int32)} {d : Nat} {M : zM} {n : Nat} {P T K : Nat → Nat} {x y z : Int32} (hsm : sgM M n P T K) (hx : ¬ (zrl x y = true ∧ ¬ z < -1 ∧ z < nI 3)) : zC 47 sc (d + 10) 105 [.ref 33, .int x, .int y, .int z] M (some (.int (-1))) (M) := by
  obtain ⟨hth, hm, hn6, hR, hT⟩ := id hsm
  refine z_enter (L := [.ref 33, .int x, .int y, .int z, .null]) rfl rfl rfl ?_
  refine zK.blk rfl ?_
  refine p_aloadn_0 ?_
  refine p_iconst (v := nI 0) (by decide) ?_
  refine p_put rfl rfl (by simp) ?_
  rw [zup_id hth]
  refine p_iloadn_1 ?_
  refine p_iconst (v := nI 1) (by decide) ?_
  refine p_iconst (v := nI 3) (by decide) ?_
  refine p_cs3i rfl rfl rfl rfl rfl (c_89) ?_
  refine p_ifB_eq (tgt := 37) (by decide) (fun hc11 => ?_) (fun hc11 => ?_)
  · skip
    refine zK.blk rfl ?_
    refine p_iconst (v := -1) (by decide) ?_
    exact p_iret trivial rfl rfl
  · skip
    obtain ⟨q, hq1, hq, rfl⟩ := zcnt_x (show zcnt x = true from hc11)
    have hz := z22_lt hq
    refine p_iloadn_2 ?_
    refine p_iconst (v := nI 0) (by decide) ?_
    refine p_iloadn_1 ?_
    refine p_cs1i rfl rfl rfl rfl rfl (c_91 hq) ?_
    refine p_iconst (v := nI 1) (by decide) ?_
    refine p_isubN (by omega) ?_
    refine p_cs3i rfl rfl rfl rfl rfl (c_89) ?_
    refine p_ifB_eq (tgt := 37) (by decide) (fun hc25 => ?_) (fun hc25 => ?_)
    · skip
      refine zK.blk rfl ?_
      refine p_iconst (v := -1) (by decide) ?_
      exact p_iret trivial rfl rfl
    · skip
      refine p_iloadn_3 ?_
      refine p_iconst (v := -1) (by decide) ?_
      refine p_iconst (v := nI 2) (by decide) ?_
      refine p_cs3i rfl rfl rfl rfl rfl (c_89) ?_
      refine p_ifB_ne (tgt := 39) (by decide) (fun hc34 => ?_) (fun hc34 => ?_)
      · skip
        exact absurd ⟨by unfold zrl; rw [zcnt_t hq1 hq, zfits_zin hq, hc25]; rfl, zin_m1f hc34⟩ hx --STOP
      · skip
        refine zK.blk rfl ?_
        refine p_iconst (v := -1) (by decide) ?_
        exact p_iret trivial rfl rfl
def faF (f : Nat → Int32) (t : Nat) (s : Int32 × Int32 × Int32) : Int32 × Int32 × Int32 :=
  if f t = -9 then (s.1, s.2.1, if s.2.2 = -9 then nI t else s.2.2) else if s.2.1 = -9 ∨ s.1 < f t then (f t, nI t, s.2.2) else s
def faN (f : Nat → Int32) (N : Nat) : Int32 × Int32 × Int32 := zfor (faF f) N 0 (nI 0, -9, -9)
set_option maxRecDepth 100000 in
set_option maxHeartbeats 4000000 in
theorem lp_106_54 {sc : Nat × (Nat → Int32)} {d : Nat} {M : zM} {r : Option Value} {M' : zM} {q w : Nat} {f : Nat → Int32} (hq : q < 4) (hf : M 37 = f) : ∀ (j t : Nat) (s : Int32 × Int32 × Int32), t + j = z22 q → zK 47 sc (zC 47 sc (d + 9)) 106 r M' 130 [.ref 33, .int (nI q), .int (nI w), .int (zfor (faF f) j t s).1, .int (zfor (faF f) j t s).2.1, .int (zfor (faF f) j t s).2.2, .int (nI (z22 q))] [] M → zK 47 sc (zC 47 sc (d + 9)) 106 r M' 54 [.ref 33, .int (nI q), .int (nI w), .int s.1, .int s.2.1, .int s.2.2, .int (nI t)] [] M := by
  intro j
  induction j with
  | zero =>
    intro t s hj hk
    have hin : t = z22 q := by omega
    subst hin
    have hz := z22_lt hq
    refine zK.blk rfl ?_
    refine p_iload_6 ?_
    refine p_iloadn_1 ?_
    refine p_cs1i rfl rfl rfl rfl rfl (c_91 hq) ?_
    refine p_icmpN_ge (tgt := 130) (by decide) (by omega) (by omega) (fun hc60 => ?_) (fun hc60 => ?_)
    · skip
      exact hk
    · skip
      exact absurd hc60 (by omega) --STOP
  | succ j ih =>
    intro t s hj hk
    have hz := z22_lt hq
    refine zK.blk rfl ?_
    refine p_iload_6 ?_
    refine p_iloadn_1 ?_
    refine p_cs1i rfl rfl rfl rfl rfl (c_91 hq) ?_
    refine p_icmpN_ge (tgt := 130) (by decide) (by omega) (by omega) (fun hc60 => ?_) (fun hc60 => ?_)
    · skip
      exact absurd hc60 (by omega) --STOP
    · skip
      refine p_aloadn_0 ?_
      refine p_getr rfl rfl ?_
      refine p_iload_6 ?_
      refine p_iald (v := f t) rfl (by omega) (by decide) (by rw [← hf]) ?_
      refine p_bipush (v := -9) (by decide) ?_
      refine p_icmp_ne (tgt := 94) (by decide) (fun hc72 => ?_) (fun hc72 => ?_)
      · skip
        refine zK.blk rfl ?_
        refine p_iload_4 ?_
        refine p_bipush (v := -9) (by decide) ?_
        refine p_icmp_eq (tgt := 112) (by decide) (fun hc98 => ?_) (fun hc98 => ?_)
        · skip
          rw [zfor_step (f := faF f) (a' := (f t, nI t, s.2.2)) (by unfold faF; rw [if_neg hc72, if_pos (Or.inl hc98)])] at hk
          refine zK.blk rfl ?_
          refine p_iload_6 ?_
          refine p_istore_4 rfl ?_
          refine p_aloadn_0 ?_
          refine p_getr rfl rfl ?_
          refine p_iload_6 ?_
          refine p_iald (v := f t) rfl (by omega) (by decide) (by rw [← hf]) ?_
          refine p_istoren_3 rfl ?_
          refine zK.blk rfl ?_
          refine p_iinc_6 (zN_inc _ 1) rfl ?_
          refine p_goto (tgt := 54) (by decide) ?_
          exact ih (t + 1) _ (by omega) hk
        · skip
          refine p_aloadn_0 ?_
          refine p_getr rfl rfl ?_
          refine p_iload_6 ?_
          refine p_iald (v := f t) rfl (by omega) (by decide) (by rw [← hf]) ?_
          refine p_iloadn_3 ?_
          refine p_icmp_le (tgt := 124) (by decide) (fun hc109 => ?_) (fun hc109 => ?_)
          · skip
            rw [zfor_step (f := faF f) (a' := s) (by unfold faF; rw [if_neg hc72, if_neg (fun h => h.elim hc98 (fun h => absurd h (Int32.not_lt.mpr hc109)))])] at hk
            refine zK.blk rfl ?_
            refine p_iinc_6 (zN_inc _ 1) rfl ?_
            refine p_goto (tgt := 54) (by decide) ?_
            exact ih (t + 1) _ (by omega) hk
          · skip
            rw [zfor_step (f := faF f) (a' := (f t, nI t, s.2.2)) (by unfold faF; rw [if_neg hc72, if_pos (Or.inr (Int32.not_le.mp hc109))])] at hk
            refine zK.blk rfl ?_
            refine p_iload_6 ?_
            refine p_istore_4 rfl ?_
            refine p_aloadn_0 ?_
            refine p_getr rfl rfl ?_
            refine p_iload_6 ?_
            refine p_iald (v := f t) rfl (by omega) (by decide) (by rw [← hf]) ?_
            refine p_istoren_3 rfl ?_
            refine zK.blk rfl ?_
            refine p_iinc_6 (zN_inc _ 1) rfl ?_
            refine p_goto (tgt := 54) (by decide) ?_
            exact ih (t + 1) _ (by omega) hk
      · skip
        refine p_iload_5 ?_
        refine p_bipush (v := -9) (by decide) ?_
        refine p_icmp_ne (tgt := 87) (by decide) (fun hc79 => ?_) (fun hc79 => ?_)
        · skip
          rw [zfor_step (f := faF f) (a' := (s.1, s.2.1, s.2.2)) (by unfold faF; rw [if_pos (Classical.not_not.mp hc72), if_neg hc79])] at hk
          refine zK.blk rfl ?_
          refine p_iload_5 ?_
          refine zK.blk rfl ?_
          refine p_istore_5 rfl ?_
          refine p_goto (tgt := 124) (by decide) ?_
          refine zK.blk rfl ?_
          refine p_iinc_6 (zN_inc _ 1) rfl ?_
          refine p_goto (tgt := 54) (by decide) ?_
          exact ih (t + 1) _ (by omega) hk
        · skip
          rw [zfor_step (f := faF f) (a' := (s.1, s.2.1, nI t)) (by unfold faF; rw [if_pos (Classical.not_not.mp hc72), if_pos (Classical.not_not.mp hc79)])] at hk
          refine p_iload_6 ?_
          refine p_goto (tgt := 89) (by decide) ?_
          refine zK.blk rfl ?_
          refine p_istore_5 rfl ?_
          refine p_goto (tgt := 124) (by decide) ?_
          refine zK.blk rfl ?_
          refine p_iinc_6 (zN_inc _ 1) rfl ?_
          refine p_goto (tgt := 54) (by decide) ?_
          exact ih (t + 1) _ (by omega) hk
set_option maxRecDepth 100000 in
set_option maxHeartbeats 4000000 in
theorem c_106 {sc : Nat × (Nat → Int32)} {d : Nat} {M M2 : zM} {n q : Nat} {P T K : Nat → Nat} {w : Nat} (hsm : sgM M n P T K) (hq1 : 1 ≤ q) (hq : q < 4) (hw : w ≤ 2) (hb : zbar P n q = false) (hFi : zC 47 sc (d + 9) 100 [.ref 33, .int (nI q)] M none M2) : zC 47 sc (d + 10) 106 [.ref 33, .int (nI q), .int (nI w)] M (some (.int (if w = 0 then (faN (M2 37) (z22 q)).1 else if w = 1 then (faN (M2 37) (z22 q)).2.1 else (faN (M2 37) (z22 q)).2.2))) (M2) := by
  obtain ⟨hth, hm, hn6, hR, hT⟩ := id hsm
  have e1 := zin_t (a := q) (lo := 1) (hi := 3) hq1 (by omega) (by decide)
  have hz := z22_lt hq
  have e3 := zin_t (a := w) (lo := 0) (hi := 2) (by omega) hw (by decide)
  refine z_enter (L := [.ref 33, .int (nI q), .int (nI w), .null, .null, .null, .null]) rfl rfl rfl ?_
  refine zK.blk rfl ?_
  refine p_aloadn_0 ?_
  refine p_iconst (v := nI 0) (by decide) ?_
  refine p_put rfl rfl (by simp) ?_
  rw [zup_id hth]
  refine p_iloadn_1 ?_
  refine p_iconst (v := nI 1) (by decide) ?_
  refine p_iconst (v := nI 3) (by decide) ?_
  refine p_cs3i rfl rfl rfl rfl rfl (c_89) ?_
  refine p_ifB_eq (tgt := 23) (by decide) (fun hc11 => ?_) (fun hc11 => ?_)
  · skip
    rw [e1] at hc11; cases hc11 --STOP
  · skip
    refine p_iloadn_2 ?_
    refine p_iconst (v := nI 0) (by decide) ?_
    refine p_iconst (v := nI 2) (by decide) ?_
    refine p_cs3i rfl rfl rfl rfl rfl (c_89) ?_
    refine p_ifB_ne (tgt := 25) (by decide) (fun hc20 => ?_) (fun hc20 => ?_)
    · skip
      refine zK.blk rfl ?_
      refine p_aloadn_0 ?_
      refine p_iloadn_1 ?_
      refine p_cv1i rfl rfl rfl rfl rfl (c_101 hsm hq1 hq) ?_
      rw [hb, if_neg (show ¬ (false = true) by decide)]
      refine p_ifN_ge (tgt := 36) (by decide) (by omega) (fun hc30 => ?_) (fun hc30 => ?_)
      · skip
        refine zK.blk rfl ?_
        refine p_aloadn_0 ?_
        refine p_iloadn_1 ?_
        refine p_cv1v rfl rfl rfl rfl rfl (hFi) ?_
        refine p_iconst (v := nI 0) (by decide) ?_
        refine p_istoren_3 rfl ?_
        refine p_bipush (v := -9) (by decide) ?_
        refine p_istore_4 rfl ?_
        refine p_bipush (v := -9) (by decide) ?_
        refine p_istore_5 rfl ?_
        refine p_iconst (v := nI 0) (by decide) ?_
        refine p_istore_6 rfl ?_
        refine lp_106_54 hq rfl (z22 q) 0 (nI 0, -9, -9) (by omega) ?_
        rw [show zfor (faF (M2 37)) (z22 q) 0 (nI 0, -9, -9) = faN (M2 37) (z22 q) from rfl]
        refine zK.blk rfl ?_
        refine p_iloadn_2 ?_
        refine p_ifN_ne (tgt := 138) (by decide) (by omega) (fun hc131 => ?_) (fun hc131 => ?_)
        · skip
          rw [if_neg hc131]
          refine zK.blk rfl ?_
          refine p_iloadn_2 ?_
          refine p_iconst (v := nI 1) (by decide) ?_
          refine p_icmpN_ne (tgt := 148) (by decide) (by omega) (by omega) (fun hc140 => ?_) (fun hc140 => ?_)
          · skip
            rw [if_neg hc140]
            refine zK.blk rfl ?_
            refine p_iload_5 ?_
            refine zK.blk rfl ?_
            exact p_iret trivial rfl rfl
          · skip
            rw [if_pos (Classical.not_not.mp hc140)]
            refine p_iload_4 ?_
            refine p_goto (tgt := 150) (by decide) ?_
            refine zK.blk rfl ?_
            exact p_iret trivial rfl rfl
        · skip
          rw [if_pos (Classical.not_not.mp hc131)]
          refine p_iloadn_3 ?_
          refine p_goto (tgt := 150) (by decide) ?_
          refine zK.blk rfl ?_
          exact p_iret trivial rfl rfl
      · skip
        exact absurd (Nat.zero_le _) hc30 --STOP
    · skip
      rw [e3] at hc20; cases hc20 --STOP
set_option maxRecDepth 100000 in
set_option maxHeartbeats 4000000 in
theorem c_106s {sc : Nat × (Nat → Int32)} {d : Nat} {M : zM} {n q : Nat} {P T K : Nat → Nat} {w : Nat} (hsm : sgM M n P T K) (hq1 : 1 ≤ q) (hq : q < 4) (hw : w ≤ 2) (hb : zbar P n q = true) : zC 47 sc (d + 10) 106 [.ref 33, .int (nI q), .int (nI w)] M (some (.int (-2))) (M) := by
  obtain ⟨hth, hm, hn6, hR, hT⟩ := id hsm
  have e1 := zin_t (a := q) (lo := 1) (hi := 3) hq1 (by omega) (by decide)
  have hz := z22_lt hq
  have e3 := zin_t (a := w) (lo := 0) (hi := 2) (by omega) hw (by decide)
  refine z_enter (L := [.ref 33, .int (nI q), .int (nI w), .null, .null, .null, .null]) rfl rfl rfl ?_
  refine zK.blk rfl ?_
  refine p_aloadn_0 ?_
  refine p_iconst (v := nI 0) (by decide) ?_
  refine p_put rfl rfl (by simp) ?_
  rw [zup_id hth]
  refine p_iloadn_1 ?_
  refine p_iconst (v := nI 1) (by decide) ?_
  refine p_iconst (v := nI 3) (by decide) ?_
  refine p_cs3i rfl rfl rfl rfl rfl (c_89) ?_
  refine p_ifB_eq (tgt := 23) (by decide) (fun hc11 => ?_) (fun hc11 => ?_)
  · skip
    rw [e1] at hc11; cases hc11 --STOP
  · skip
    refine p_iloadn_2 ?_
    refine p_iconst (v := nI 0) (by decide) ?_
    refine p_iconst (v := nI 2) (by decide) ?_
    refine p_cs3i rfl rfl rfl rfl rfl (c_89) ?_
    refine p_ifB_ne (tgt := 25) (by decide) (fun hc20 => ?_) (fun hc20 => ?_)
    · skip
      refine zK.blk rfl ?_
      refine p_aloadn_0 ?_
      refine p_iloadn_1 ?_
      refine p_cv1i rfl rfl rfl rfl rfl (c_101 hsm hq1 hq) ?_
      rw [hb, if_pos rfl]
      refine p_if_ge (tgt := 36) (by decide) (fun hc30 => ?_) (fun hc30 => ?_)
      · skip
        exact absurd hc30 (by decide) --STOP
      · skip
        refine p_bipush (v := -2) (by decide) ?_
        exact p_iret trivial rfl rfl
    · skip
      rw [e3] at hc20; cases hc20 --STOP
def byR (x : Int32) (i p : Nat) (v : Nat × Nat × Nat) : Int32 := if x < 0 then nI i else if x = 0 then zbp 0 p v.1 else if x = nI 1 then zbp 1 p v.2.1 else zbp 2 p v.2.2
set_option maxRecDepth 100000 in
set_option maxHeartbeats 4000000 in
theorem c_105s {sc : Nat × (Nat → Int32)} {d : Nat} {M : zM} {n q : Nat} {P T K : Nat → Nat} {t : Nat} {x : Int32} (hsm : sgM M n P T K) (hq1 : 1 ≤ q) (hq : q < 4) (ht : t < z22 q) (hx1 : ¬ x < -1) (hx2 : x < nI 3) (hb : zbar P n q = true) : zC 47 sc (d + 10) 105 [.ref 33, .int (nI q), .int (nI t), .int x] M (some (.int (-2))) (M) := by
  obtain ⟨hth, hm, hn6, hR, hT⟩ := id hsm
  have e1 := zin_t (a := q) (lo := 1) (hi := 3) hq1 (by omega) (by decide)
  have hz := z22_lt hq
  have e2 := zin_t (a := t) (lo := 0) (hi := z22 q - 1) (by omega) (by omega) (by omega)
  have e3 := zin_m1 hx1 hx2
  refine z_enter (L := [.ref 33, .int (nI q), .int (nI t), .int x, .null]) rfl rfl rfl ?_
  refine zK.blk rfl ?_
  refine p_aloadn_0 ?_
  refine p_iconst (v := nI 0) (by decide) ?_
  refine p_put rfl rfl (by simp) ?_
  rw [zup_id hth]
  refine p_iloadn_1 ?_
  refine p_iconst (v := nI 1) (by decide) ?_
  refine p_iconst (v := nI 3) (by decide) ?_
  refine p_cs3i rfl rfl rfl rfl rfl (c_89) ?_
  refine p_ifB_eq (tgt := 37) (by decide) (fun hc11 => ?_) (fun hc11 => ?_)
  · skip
    rw [e1] at hc11; cases hc11 --STOP
  · skip
    refine p_iloadn_2 ?_
    refine p_iconst (v := nI 0) (by decide) ?_
    refine p_iloadn_1 ?_
    refine p_cs1i rfl rfl rfl rfl rfl (c_91 hq) ?_
    refine p_iconst (v := nI 1) (by decide) ?_
    refine p_isubN (by omega) ?_
    refine p_cs3i rfl rfl rfl rfl rfl (c_89) ?_
    refine p_ifB_eq (tgt := 37) (by decide) (fun hc25 => ?_) (fun hc25 => ?_)
    · skip
      rw [e2] at hc25; cases hc25 --STOP
    · skip
      refine p_iloadn_3 ?_
      refine p_iconst (v := -1) (by decide) ?_
      refine p_iconst (v := nI 2) (by decide) ?_
      refine p_cs3i rfl rfl rfl rfl rfl (c_89) ?_
      refine p_ifB_ne (tgt := 39) (by decide) (fun hc34 => ?_) (fun hc34 => ?_)
      · skip
        refine zK.blk rfl ?_
        refine p_aloadn_0 ?_
        refine p_iloadn_1 ?_
        refine p_cv1i rfl rfl rfl rfl rfl (c_101 hsm hq1 hq) ?_
        rw [hb, if_pos rfl]
        refine p_if_ge (tgt := 50) (by decide) (fun hc44 => ?_) (fun hc44 => ?_)
        · skip
          exact absurd hc44 (by decide) --STOP
        · skip
          refine p_bipush (v := -2) (by decide) ?_
          exact p_iret trivial rfl rfl
      · skip
        rw [e3] at hc34; cases hc34 --STOP
set_option maxRecDepth 100000 in
set_option maxHeartbeats 4000000 in
theorem c_105n {sc : Nat × (Nat → Int32)} {d : Nat} {M M2 : zM} {n q : Nat} {P T K : Nat → Nat} {t : Nat} {x : Int32} (hsm : sgM M n P T K) (hq1 : 1 ≤ q) (hq : q < 4) (ht : t < z22 q) (hx1 : ¬ x < -1) (hx2 : x < nI 3) (hb : zbar P n q = false) (hFi : zC 47 sc (d + 9) 100 [.ref 33, .int (nI q)] M none M2) (h9 : M2 37 t = -9 ∨ M2 37 t = 0) : zC 47 sc (d + 10) 105 [.ref 33, .int (nI q), .int (nI t), .int x] M (some (.int (-9))) (M2) := by
  obtain ⟨hth, hm, hn6, hR, hT⟩ := id hsm
  have e1 := zin_t (a := q) (lo := 1) (hi := 3) hq1 (by omega) (by decide)
  have hz := z22_lt hq
  have e2 := zin_t (a := t) (lo := 0) (hi := z22 q - 1) (by omega) (by omega) (by omega)
  have e3 := zin_m1 hx1 hx2
  refine z_enter (L := [.ref 33, .int (nI q), .int (nI t), .int x, .null]) rfl rfl rfl ?_
  refine zK.blk rfl ?_
  refine p_aloadn_0 ?_
  refine p_iconst (v := nI 0) (by decide) ?_
  refine p_put rfl rfl (by simp) ?_
  rw [zup_id hth]
  refine p_iloadn_1 ?_
  refine p_iconst (v := nI 1) (by decide) ?_
  refine p_iconst (v := nI 3) (by decide) ?_
  refine p_cs3i rfl rfl rfl rfl rfl (c_89) ?_
  refine p_ifB_eq (tgt := 37) (by decide) (fun hc11 => ?_) (fun hc11 => ?_)
  · skip
    rw [e1] at hc11; cases hc11 --STOP
  · skip
    refine p_iloadn_2 ?_
    refine p_iconst (v := nI 0) (by decide) ?_
    refine p_iloadn_1 ?_
    refine p_cs1i rfl rfl rfl rfl rfl (c_91 hq) ?_
    refine p_iconst (v := nI 1) (by decide) ?_
    refine p_isubN (by omega) ?_
    refine p_cs3i rfl rfl rfl rfl rfl (c_89) ?_
    refine p_ifB_eq (tgt := 37) (by decide) (fun hc25 => ?_) (fun hc25 => ?_)
    · skip
      rw [e2] at hc25; cases hc25 --STOP
    · skip
      refine p_iloadn_3 ?_
      refine p_iconst (v := -1) (by decide) ?_
      refine p_iconst (v := nI 2) (by decide) ?_
      refine p_cs3i rfl rfl rfl rfl rfl (c_89) ?_
      refine p_ifB_ne (tgt := 39) (by decide) (fun hc34 => ?_) (fun hc34 => ?_)
      · skip
        refine zK.blk rfl ?_
        refine p_aloadn_0 ?_
        refine p_iloadn_1 ?_
        refine p_cv1i rfl rfl rfl rfl rfl (c_101 hsm hq1 hq) ?_
        rw [hb, if_neg (show ¬ (false = true) by decide)]
        refine p_ifN_ge (tgt := 50) (by decide) (by omega) (fun hc44 => ?_) (fun hc44 => ?_)
        · skip
          refine zK.blk rfl ?_
          refine p_aloadn_0 ?_
          refine p_iloadn_1 ?_
          refine p_cv1v rfl rfl rfl rfl rfl (hFi) ?_
          refine p_aloadn_0 ?_
          refine p_getr rfl rfl ?_
          refine p_iloadn_2 ?_
          refine p_iald (v := M2 37 t) rfl (by omega) (by decide) rfl ?_
          refine p_bipush (v := -9) (by decide) ?_
          refine p_icmp_eq (tgt := 75) (by decide) (fun hc63 => ?_) (fun hc63 => ?_)
          · skip
            refine zK.blk rfl ?_
            refine p_bipush (v := -9) (by decide) ?_
            exact p_iret trivial rfl rfl
          · skip
            refine p_aloadn_0 ?_
            refine p_getr rfl rfl ?_
            refine p_iloadn_2 ?_
            refine p_iald (v := M2 37 t) rfl (by omega) (by decide) rfl ?_
            refine p_if_ne (tgt := 78) (by decide) (fun hc72 => ?_) (fun hc72 => ?_)
            · skip
              exact absurd h9 (fun h => h.elim hc63 hc72) --STOP
            · skip
              refine zK.blk rfl ?_
              refine p_bipush (v := -9) (by decide) ?_
              exact p_iret trivial rfl rfl
        · skip
          exact absurd (Nat.zero_le _) hc44 --STOP
      · skip
        rw [e3] at hc34; cases hc34 --STOP
set_option maxRecDepth 100000 in
set_option maxHeartbeats 4000000 in
theorem lp_105_81 {sc : Nat × (Nat → Int32)} {d : Nat} {r : Option Value} {M' : zM} {n q t i0 : Nat} {P T K : Nat → Nat} {x : Int32} {f : Nat → Int32} {v : Nat × Nat × Nat} (hq : q < 4) (ht : t < z22 q) (hi0 : i0 < n) (h0 : ibN f (P i0) (T i0) (K i0) q (z22 q) t = some v) (hlt : ∀ i, i < i0 → ibN f (P i) (T i) (K i) q (z22 q) t = none) : ∀ (j i : Nat) (M : zM), i + j = i0 → sgM M n P T K → M 37 = f → zK 47 sc (zC 47 sc (d + 9)) 105 r M' 98 [.ref 33, .int (nI q), .int (nI t), .int x, .int (nI i0)] [] (ibM M (P i0) (some v)) → zK 47 sc (zC 47 sc (d + 9)) 105 r M' 81 [.ref 33, .int (nI q), .int (nI t), .int x, .int (nI i)] [] M := by
  intro j
  induction j with
  | zero =>
    intro i M hi hsm hf hk
    have hin : i = i0 := by omega
    subst hin
    have hcall := c_104 (sc := sc) (d := d + 7) hsm hq rfl hi0 ht hf
    rw [h0] at hcall
    refine zK.blk rfl ?_
    refine p_aloadn_0 ?_
    refine p_iload_4 ?_
    refine p_iloadn_1 ?_
    refine p_iloadn_2 ?_
    refine p_cv3i rfl rfl rfl rfl rfl (show zC 47 sc (d + 9) 104 _ M (some (.int (zB true))) _ from hcall) ?_
    refine p_ifB_ne (tgt := 98) (by decide) (fun hc89 => ?_) (fun hc89 => ?_)
    · skip
      exact hk
    · skip
      exact absurd hc89 (by decide) --STOP
  | succ j ih =>
    intro i M hi hsm hf hk
    have hcall := c_104 (sc := sc) (d := d + 7) hsm hq rfl (show i < n by omega) ht hf
    rw [hlt i (by omega)] at hcall
    refine zK.blk rfl ?_
    refine p_aloadn_0 ?_
    refine p_iload_4 ?_
    refine p_iloadn_1 ?_
    refine p_iloadn_2 ?_
    refine p_cv3i rfl rfl rfl rfl rfl (show zC 47 sc (d + 9) 104 _ M (some (.int (zB false))) _ from hcall) ?_
    refine p_ifB_ne (tgt := 98) (by decide) (fun hc89 => ?_) (fun hc89 => ?_)
    · skip
      exact absurd hc89 (by decide) --STOP
    · skip
      refine p_iinc_4 (zN_inc _ 1) rfl ?_
      refine p_goto (tgt := 81) (by decide) ?_
      refine ih (i + 1) _ (by omega) (byM_sm hsm) hf ?_
      rw [show ibM (ibM M (P i) none) (P i0) (some v) = ibM M (P i0) (some v) from byM_byM]
      exact hk
set_option maxRecDepth 100000 in
set_option maxHeartbeats 4000000 in
theorem c_105 {sc : Nat × (Nat → Int32)} {d : Nat} {M M2 : zM} {n q : Nat} {P T K : Nat → Nat} {t i0 : Nat} {x : Int32} {v : Nat × Nat × Nat} (hsm : sgM M n P T K) (hq1 : 1 ≤ q) (hq : q < 4) (ht : t < z22 q) (hx1 : ¬ x < -1) (hx2 : x < nI 3) (hb : zbar P n q = false) (hFi : zC 47 sc (d + 9) 100 [.ref 33, .int (nI q)] M none M2) (hsm2 : sgM M2 n P T K) (h9 : ¬ (M2 37 t = -9 ∨ M2 37 t = 0)) (hi0 : i0 < n) (h0 : ibN (M2 37) (P i0) (T i0) (K i0) q (z22 q) t = some v) (hlt : ∀ i, i < i0 → ibN (M2 37) (P i) (T i) (K i) q (z22 q) t = none) : zC 47 sc (d + 10) 105 [.ref 33, .int (nI q), .int (nI t), .int x] M (some (.int (byR x i0 (P i0) v))) (ibM M2 (P i0) (some v)) := by
  obtain ⟨hth, hm, hn6, hR, hT⟩ := id hsm
  have e1 := zin_t (a := q) (lo := 1) (hi := 3) hq1 (by omega) (by decide)
  have hz := z22_lt hq
  have e2 := zin_t (a := t) (lo := 0) (hi := z22 q - 1) (by omega) (by omega) (by omega)
  have e3 := zin_m1 hx1 hx2
  refine z_enter (L := [.ref 33, .int (nI q), .int (nI t), .int x, .null]) rfl rfl rfl ?_
  refine zK.blk rfl ?_
  refine p_aloadn_0 ?_
  refine p_iconst (v := nI 0) (by decide) ?_
  refine p_put rfl rfl (by simp) ?_
  rw [zup_id hth]
  refine p_iloadn_1 ?_
  refine p_iconst (v := nI 1) (by decide) ?_
  refine p_iconst (v := nI 3) (by decide) ?_
  refine p_cs3i rfl rfl rfl rfl rfl (c_89) ?_
  refine p_ifB_eq (tgt := 37) (by decide) (fun hc11 => ?_) (fun hc11 => ?_)
  · skip
    rw [e1] at hc11; cases hc11 --STOP
  · skip
    refine p_iloadn_2 ?_
    refine p_iconst (v := nI 0) (by decide) ?_
    refine p_iloadn_1 ?_
    refine p_cs1i rfl rfl rfl rfl rfl (c_91 hq) ?_
    refine p_iconst (v := nI 1) (by decide) ?_
    refine p_isubN (by omega) ?_
    refine p_cs3i rfl rfl rfl rfl rfl (c_89) ?_
    refine p_ifB_eq (tgt := 37) (by decide) (fun hc25 => ?_) (fun hc25 => ?_)
    · skip
      rw [e2] at hc25; cases hc25 --STOP
    · skip
      refine p_iloadn_3 ?_
      refine p_iconst (v := -1) (by decide) ?_
      refine p_iconst (v := nI 2) (by decide) ?_
      refine p_cs3i rfl rfl rfl rfl rfl (c_89) ?_
      refine p_ifB_ne (tgt := 39) (by decide) (fun hc34 => ?_) (fun hc34 => ?_)
      · skip
        refine zK.blk rfl ?_
        refine p_aloadn_0 ?_
        refine p_iloadn_1 ?_
        refine p_cv1i rfl rfl rfl rfl rfl (c_101 hsm hq1 hq) ?_
        rw [hb, if_neg (show ¬ (false = true) by decide)]
        refine p_ifN_ge (tgt := 50) (by decide) (by omega) (fun hc44 => ?_) (fun hc44 => ?_)
        · skip
          refine zK.blk rfl ?_
          refine p_aloadn_0 ?_
          refine p_iloadn_1 ?_
          refine p_cv1v rfl rfl rfl rfl rfl (hFi) ?_
          refine p_aloadn_0 ?_
          refine p_getr rfl rfl ?_
          refine p_iloadn_2 ?_
          refine p_iald (v := M2 37 t) rfl (by omega) (by decide) rfl ?_
          refine p_bipush (v := -9) (by decide) ?_
          refine p_icmp_eq (tgt := 75) (by decide) (fun hc63 => ?_) (fun hc63 => ?_)
          · skip
            exact absurd (Or.inl hc63) h9 --STOP
          · skip
            refine p_aloadn_0 ?_
            refine p_getr rfl rfl ?_
            refine p_iloadn_2 ?_
            refine p_iald (v := M2 37 t) rfl (by omega) (by decide) rfl ?_
            refine p_if_ne (tgt := 78) (by decide) (fun hc72 => ?_) (fun hc72 => ?_)
            · skip
              refine zK.blk rfl ?_
              refine p_iconst (v := nI 0) (by decide) ?_
              refine p_istore_4 rfl ?_
              refine lp_105_81 hq ht hi0 h0 hlt i0 0 M2 (by omega) hsm2 rfl ?_
              unfold byR
              refine zK.blk rfl ?_
              refine p_iloadn_3 ?_
              refine p_if_ge (tgt := 107) (by decide) (fun hc99 => ?_) (fun hc99 => ?_)
              · skip
                rw [if_neg (Int32.not_lt.mpr hc99)]
                refine zK.blk rfl ?_
                refine p_iloadn_3 ?_
                refine p_if_ne (tgt := 118) (by decide) (fun hc108 => ?_) (fun hc108 => ?_)
                · skip
                  rw [if_neg hc108]
                  refine zK.blk rfl ?_
                  refine p_iloadn_3 ?_
                  refine p_iconst (v := nI 1) (by decide) ?_
                  refine p_icmp_ne (tgt := 130) (by decide) (fun hc120 => ?_) (fun hc120 => ?_)
                  · skip
                    rw [if_neg hc120]
                    refine zK.blk rfl ?_
                    refine p_aloadn_0 ?_
                    refine p_geti (v := zbp 2 (P i0) v.2.2) rfl rfl rfl ?_
                    refine zK.blk rfl ?_
                    exact p_iret trivial rfl rfl
                  · skip
                    rw [if_pos (Classical.not_not.mp hc120)]
                    refine p_aloadn_0 ?_
                    refine p_geti (v := zbp 1 (P i0) v.2.1) rfl rfl rfl ?_
                    refine p_goto (tgt := 134) (by decide) ?_
                    refine zK.blk rfl ?_
                    exact p_iret trivial rfl rfl
                · skip
                  rw [if_pos (Classical.not_not.mp hc108)]
                  refine p_aloadn_0 ?_
                  refine p_geti (v := zbp 0 (P i0) v.1) rfl rfl rfl ?_
                  refine p_goto (tgt := 134) (by decide) ?_
                  refine zK.blk rfl ?_
                  exact p_iret trivial rfl rfl
              · skip
                rw [if_pos (Int32.not_le.mp hc99)]
                refine p_iload_4 ?_
                refine p_goto (tgt := 134) (by decide) ?_
                refine zK.blk rfl ?_
                exact p_iret trivial rfl rfl
            · skip
              exact absurd (Or.inr (Classical.not_not.mp hc72)) h9 --STOP
        · skip
          exact absurd (Nat.zero_le _) hc44 --STOP
      · skip
        rw [e3] at hc34; cases hc34 --STOP
set_option maxRecDepth 100000 in
set_option maxHeartbeats 4000000 in
theorem c_134 {sc : Nat × (Nat → Int32)} {d : Nat} {M M2 M3 : zM} {n i t : Nat} {P T K : Nat → Nat} (hsm : sgM M n P T K) (hi : i < 4) (hb : zbar P n 3 = false) (hTb : zC 47 sc (d + 9) 132 [.ref 33, .int (nI i)] M (some (.int (nI t))) M2) (ht : t < 256) (hFi : zC 47 sc (d + 9) 100 [.ref 33, .int (nI 3)] M2 none M3) : zC 47 sc (d + 10) 134 [.ref 33, .int (nI i)] M (some (.int (M3 37 t))) (M3) := by
  obtain ⟨hth, hm, hn6, hR, hT⟩ := id hsm
  have e1 := zin_t (a := i) (lo := 0) (hi := 3) (by omega) (by omega) (by decide)
  have hb2 : decide (¬ o3N P n = 0) = false := hb
  refine z_enter (L := [.ref 33, .int (nI i), .null]) rfl rfl rfl ?_
  refine zK.blk rfl ?_
  refine p_aloadn_0 ?_
  refine p_iconst (v := nI 0) (by decide) ?_
  refine p_put rfl rfl (by simp) ?_
  rw [zup_id hth]
  refine p_iloadn_1 ?_
  refine p_iconst (v := nI 0) (by decide) ?_
  refine p_iconst (v := nI 3) (by decide) ?_
  refine p_cs3i rfl rfl rfl rfl rfl (c_89) ?_
  refine p_ifB_ne (tgt := 16) (by decide) (fun hc11 => ?_) (fun hc11 => ?_)
  · skip
    refine zK.blk rfl ?_
    refine p_aloadn_0 ?_
    refine p_cv0i rfl rfl rfl rfl rfl (c_97 hsm) ?_
    refine p_ifB_eq (tgt := 26) (by decide) (fun hc20 => ?_) (fun hc20 => ?_)
    · skip
      refine zK.blk rfl ?_
      refine p_aloadn_0 ?_
      refine p_iloadn_1 ?_
      refine p_cv1i rfl rfl rfl rfl rfl (hTb) ?_
      refine p_istoren_2 rfl ?_
      refine p_aloadn_0 ?_
      refine p_iconst (v := nI 3) (by decide) ?_
      refine p_cv1v rfl rfl rfl rfl rfl (hFi) ?_
      refine p_aloadn_0 ?_
      refine p_getr rfl rfl ?_
      refine p_iloadn_2 ?_
      refine p_iald (v := M3 37 t) rfl (by omega) (by decide) rfl ?_
      exact p_iret trivial rfl rfl
    · skip
      rw [hb2] at hc20; cases hc20 --STOP
  · skip
    rw [e1] at hc11; cases hc11 --STOP
set_option maxRecDepth 100000 in
set_option maxHeartbeats 4000000 in
theorem c_134s {sc : Nat × (Nat → Int32)} {d : Nat} {M : zM} {n i : Nat} {P T K : Nat → Nat} (hsm : sgM M n P T K) (hi : i < 4) (hb : zbar P n 3 = true) : zC 47 sc (d + 10) 134 [.ref 33, .int (nI i)] M (some (.int (-2))) (M) := by
  obtain ⟨hth, hm, hn6, hR, hT⟩ := id hsm
  have e1 := zin_t (a := i) (lo := 0) (hi := 3) (by omega) (by omega) (by decide)
  have hb2 : decide (¬ o3N P n = 0) = true := hb
  refine z_enter (L := [.ref 33, .int (nI i), .null]) rfl rfl rfl ?_
  refine zK.blk rfl ?_
  refine p_aloadn_0 ?_
  refine p_iconst (v := nI 0) (by decide) ?_
  refine p_put rfl rfl (by simp) ?_
  rw [zup_id hth]
  refine p_iloadn_1 ?_
  refine p_iconst (v := nI 0) (by decide) ?_
  refine p_iconst (v := nI 3) (by decide) ?_
  refine p_cs3i rfl rfl rfl rfl rfl (c_89) ?_
  refine p_ifB_ne (tgt := 16) (by decide) (fun hc11 => ?_) (fun hc11 => ?_)
  · skip
    refine zK.blk rfl ?_
    refine p_aloadn_0 ?_
    refine p_cv0i rfl rfl rfl rfl rfl (c_97 hsm) ?_
    refine p_ifB_eq (tgt := 26) (by decide) (fun hc20 => ?_) (fun hc20 => ?_)
    · skip
      rw [hb2] at hc20; cases hc20 --STOP
    · skip
      refine p_bipush (v := -2) (by decide) ?_
      exact p_iret trivial rfl rfl
  · skip
    rw [e1] at hc11; cases hc11 --STOP
set_option maxRecDepth 100000 in
set_option maxHeartbeats 4000000 in
theorem c_134b {sc : Nat × (Nat → Int32)} {d : Nat} {M : zM} {n : Nat} {P T K : Nat → Nat} {x : Int32} (hsm : sgM M n P T K) (hx : zin x (nI 0) (nI 3) = false) : zC 47 sc (d + 10) 134 [.ref 33, .int x] M (some (.int (-1))) (M) := by
  obtain ⟨hth, hm, hn6, hR, hT⟩ := id hsm
  refine z_enter (L := [.ref 33, .int x, .null]) rfl rfl rfl ?_
  refine zK.blk rfl ?_
  refine p_aloadn_0 ?_
  refine p_iconst (v := nI 0) (by decide) ?_
  refine p_put rfl rfl (by simp) ?_
  rw [zup_id hth]
  refine p_iloadn_1 ?_
  refine p_iconst (v := nI 0) (by decide) ?_
  refine p_iconst (v := nI 3) (by decide) ?_
  refine p_cs3i rfl rfl rfl rfl rfl (c_89) ?_
  refine p_ifB_ne (tgt := 16) (by decide) (fun hc11 => ?_) (fun hc11 => ?_)
  · skip
    rw [hx] at hc11; cases hc11 --STOP
  · skip
    refine p_iconst (v := -1) (by decide) ?_
    exact p_iret trivial rfl rfl
