theorem zapC_len (v : Int64) : ∀ (j len : Nat) (M : zM), M 24 1 = nI len → zapC v j len M 24 1 = nI (len + j) := by
  intro j
  induction j with
  | zero => intro len M h; exact h
  | succ j ih =>
    intro len M h
    show zapC v j (len + 1) _ 24 1 = _
    rw [ih (len + 1) _ (by simp [zup])]
    congr 1
    omega
theorem zapM_len (v : Int64) : ∀ (j len : Nat) (M : zM), M 33 10 = nI len → zapM v j len M 33 10 = nI (len + j) := by
  intro j
  induction j with
  | zero => intro len M h; exact h
  | succ j ih =>
    intro len M h
    show zapM v j (len + 1) _ 33 10 = _
    rw [ih (len + 1) _ (by simp [zup])]
    congr 1
    omega
theorem zin_x2 {x : Int32} {lo hi : Nat} (hl : lo < 2 ^ 31) (hh : hi < 2 ^ 31) (h : zin x (nI lo) (nI hi) = true) : ∃ a, lo ≤ a ∧ a ≤ hi ∧ x = nI a := by
  unfold zin at h
  simp only [Bool.and_eq_true, decide_eq_true_eq] at h
  have h0 : ¬ x < 0 := fun w => h.1 (Int32.lt_of_lt_of_le w (nI_pos' hl))
  obtain ⟨a, ha, rfl⟩ := nI_of2 (M := nI hi) (n := hi) (nI_toInt hh) h0 (Int32.not_lt.mp h.2)
  exact ⟨a, by have h2 := h.1; rw [nI_ltI (by omega) hl] at h2; omega, ha, rfl⟩
set_option maxRecDepth 100000 in
set_option maxHeartbeats 4000000 in
theorem c_34 {sc : Nat × (Nat → Int32)} {d : Nat} {M : zM} {len m : Nat} (hln : M 24 1 = nI len) (hl8 : len ≤ 80) (hm8 : m ≤ 8) : zC 47 sc (d + 1) 34 [.ref 24, .int (nI m)] M (some (.int (zB (decide (len + m ≤ 80))))) (M) := by
  refine z_enter (L := [.ref 24, .int (nI m)]) rfl rfl rfl ?_
  refine zK.blk rfl ?_
  refine p_aloadn_0 ?_
  refine p_geti rfl rfl (hln) ?_
  refine p_iloadn_1 ?_
  refine p_iaddN ?_
  refine p_bipush (v := nI 80) (by decide) ?_
  refine p_icmpN_gt (tgt := 15) (by decide) (by omega) (by omega) (fun hc8 => ?_) (fun hc8 => ?_)
  · skip
    refine zK.blk rfl ?_
    refine p_iconst (v := nI 0) (by decide) ?_
    refine zK.blk rfl ?_
    exact p_iret (by first | exact Or.inl rfl | exact Or.inr rfl) (by first | rw [decide_eq_true (by omega)]; rfl | rw [decide_eq_false (by omega)]; rfl) rfl
  · skip
    refine p_iconst (v := nI 1) (by decide) ?_
    refine p_goto (tgt := 16) (by decide) ?_
    refine zK.blk rfl ?_
    exact p_iret (by first | exact Or.inl rfl | exact Or.inr rfl) (by first | rw [decide_eq_true (by omega)]; rfl | rw [decide_eq_false (by omega)]; rfl) rfl
set_option maxRecDepth 100000 in
set_option maxHeartbeats 4000000 in
theorem c_35 {sc : Nat × (Nat → Int32)} {d : Nat} {M : zM} {len m : Nat} {v : Int64} (hln : M 24 1 = nI len) (hl8 : len ≤ 80) (hm : len + m ≤ 80) (hm1 : 1 ≤ m) : zC 47 sc (d + 1) 35 [.ref 24, .long v, .int (nI m)] M (none) (zapC v m len M) := by
  refine z_enter (L := [.ref 24, .long v, .null, .int (nI m), .null]) rfl rfl rfl ?_
  refine zK.blk rfl ?_
  refine p_iloadn_3 ?_
  refine p_iconst (v := nI 1) (by decide) ?_
  refine p_isub ?_
  refine p_istore_4 rfl ?_
  refine lp_35_5 m len M hln hm ?_
  refine zK.blk rfl ?_
  exact p_vret trivial rfl rfl
set_option maxRecDepth 100000 in
set_option maxHeartbeats 4000000 in
theorem c_74a {sc : Nat × (Nat → Int32)} {d : Nat} {M : zM} {x : Int32} {v : Int64} (hx : zin x (nI 1) (nI 8) = false) : zC 47 sc (d + 2) 74 [.ref 0, .long v, .int x] M (some (.int (-1))) (M) := by
  refine z_enter (L := [.ref 0, .long v, .null, .int x]) rfl rfl rfl ?_
  refine zK.blk rfl ?_
  refine p_iloadn_3 ?_
  refine p_iconst (v := nI 1) (by decide) ?_
  refine p_icmp_lt (tgt := 11) (by decide) (fun hc2 => ?_) (fun hc2 => ?_)
  · skip
    refine zK.blk rfl ?_
    refine p_iconst (v := -1) (by decide) ?_
    exact p_iret trivial rfl rfl
  · skip
    refine p_iloadn_3 ?_
    refine p_bipush (v := nI 8) (by decide) ?_
    refine p_icmp_le (tgt := 13) (by decide) (fun hc8 => ?_) (fun hc8 => ?_)
    · skip
      exact absurd hx (by unfold zin; rw [decide_eq_true hc2, decide_eq_true (Int32.not_lt.mpr hc8)]; decide) --STOP
    · skip
      refine zK.blk rfl ?_
      refine p_iconst (v := -1) (by decide) ?_
      exact p_iret trivial rfl rfl
set_option maxRecDepth 100000 in
set_option maxHeartbeats 4000000 in
theorem c_74b {sc : Nat × (Nat → Int32)} {d : Nat} {M : zM} {len m : Nat} {v : Int64} (hln : M 24 1 = nI len) (hl8 : len ≤ 80) (hm1 : 1 ≤ m) (hm8 : m ≤ 8) (hf : ¬ len + m ≤ 80) : zC 47 sc (d + 2) 74 [.ref 0, .long v, .int (nI m)] M (some (.int (-3))) (M) := by
  refine z_enter (L := [.ref 0, .long v, .null, .int (nI m)]) rfl rfl rfl ?_
  refine zK.blk rfl ?_
  refine p_iloadn_3 ?_
  refine p_iconst (v := nI 1) (by decide) ?_
  refine p_icmpN_lt (tgt := 11) (by decide) (by omega) (by omega) (fun hc2 => ?_) (fun hc2 => ?_)
  · skip
    exact absurd hc2 (by omega) --STOP
  · skip
    refine p_iloadn_3 ?_
    refine p_bipush (v := nI 8) (by decide) ?_
    refine p_icmpN_le (tgt := 13) (by decide) (by omega) (by omega) (fun hc8 => ?_) (fun hc8 => ?_)
    · skip
      refine zK.blk rfl ?_
      refine p_aloadn_0 ?_
      refine p_getr rfl rfl ?_
      refine p_iloadn_3 ?_
      refine p_cv1i rfl rfl rfl rfl rfl (c_34 hln hl8 hm8) ?_
      refine p_ifB_ne (tgt := 27) (by decide) (fun hc21 => ?_) (fun hc21 => ?_)
      · skip
        exact absurd (of_decide_eq_true hc21) hf --STOP
      · skip
        refine p_bipush (v := -3) (by decide) ?_
        exact p_iret trivial rfl rfl
    · skip
      exact absurd hm8 hc8 --STOP
set_option maxRecDepth 100000 in
set_option maxHeartbeats 4000000 in
theorem c_74c {sc : Nat × (Nat → Int32)} {d : Nat} {M : zM} {len m : Nat} {v : Int64} (hln : M 24 1 = nI len) (hl8 : len ≤ 80) (hm1 : 1 ≤ m) (hm8 : m ≤ 8) (hf : len + m ≤ 80) : zC 47 sc (d + 2) 74 [.ref 0, .long v, .int (nI m)] M (some (.int (nI (len + m)))) (zapC v m len M) := by
  refine z_enter (L := [.ref 0, .long v, .null, .int (nI m)]) rfl rfl rfl ?_
  refine zK.blk rfl ?_
  refine p_iloadn_3 ?_
  refine p_iconst (v := nI 1) (by decide) ?_
  refine p_icmpN_lt (tgt := 11) (by decide) (by omega) (by omega) (fun hc2 => ?_) (fun hc2 => ?_)
  · skip
    exact absurd hc2 (by omega) --STOP
  · skip
    refine p_iloadn_3 ?_
    refine p_bipush (v := nI 8) (by decide) ?_
    refine p_icmpN_le (tgt := 13) (by decide) (by omega) (by omega) (fun hc8 => ?_) (fun hc8 => ?_)
    · skip
      refine zK.blk rfl ?_
      refine p_aloadn_0 ?_
      refine p_getr rfl rfl ?_
      refine p_iloadn_3 ?_
      refine p_cv1i rfl rfl rfl rfl rfl (c_34 hln hl8 hm8) ?_
      refine p_ifB_ne (tgt := 27) (by decide) (fun hc21 => ?_) (fun hc21 => ?_)
      · skip
        refine zK.blk rfl ?_
        refine p_aloadn_0 ?_
        refine p_getr rfl rfl ?_
        refine p_lloadn_1 ?_
        refine p_iloadn_3 ?_
        refine p_cv2v rfl rfl rfl rfl rfl (c_35 hln hl8 hf hm1) ?_
        refine p_aloadn_0 ?_
        refine p_getr rfl rfl ?_
        refine p_geti rfl rfl (zapC_len v m len M hln) ?_
        exact p_iret trivial rfl rfl
      · skip
        exact absurd hf (of_decide_eq_false hc21) --STOP
    · skip
      exact absurd hm8 hc8 --STOP
set_option maxRecDepth 100000 in
set_option maxHeartbeats 4000000 in
theorem c_125a {sc : Nat × (Nat → Int32)} {d : Nat} {M : zM} {n : Nat} {P T K : Nat → Nat} {x : Int32} {v : Int64} (hsm : sgM M n P T K) (hx : zin x (nI 1) (nI 8) = false) : zC 47 sc (d + 2) 125 [.ref 33, .long v, .int x] M (some (.int (-1))) (M) := by
  obtain ⟨hth, hm, hn6, hR, hT⟩ := id hsm
  refine z_enter (L := [.ref 33, .long v, .null, .int x, .null]) rfl rfl rfl ?_
  refine zK.blk rfl ?_
  refine p_aloadn_0 ?_
  refine p_iconst (v := nI 0) (by decide) ?_
  refine p_put rfl rfl (by simp) ?_
  rw [zup_id hth]
  refine p_iloadn_3 ?_
  refine p_iconst (v := nI 1) (by decide) ?_
  refine p_bipush (v := nI 8) (by decide) ?_
  refine p_cs3i rfl rfl rfl rfl rfl (c_89) ?_
  refine p_ifB_ne (tgt := 17) (by decide) (fun hc12 => ?_) (fun hc12 => ?_)
  · skip
    rw [hx] at hc12; cases hc12 --STOP
  · skip
    refine p_iconst (v := -1) (by decide) ?_
    exact p_iret trivial rfl rfl
set_option maxRecDepth 100000 in
set_option maxHeartbeats 4000000 in
theorem c_125b {sc : Nat × (Nat → Int32)} {d : Nat} {M : zM} {n : Nat} {P T K : Nat → Nat} {len m : Nat} {v : Int64} (hsm : sgM M n P T K) (hty : M 33 10 = nI len) (hl8 : len ≤ 80) (hm1 : 1 ≤ m) (hm8 : m ≤ 8) (hf : ¬ len + m ≤ 80) : zC 47 sc (d + 2) 125 [.ref 33, .long v, .int (nI m)] M (some (.int (-3))) (M) := by
  obtain ⟨hth, hm, hn6, hR, hT⟩ := id hsm
  have e1 := zin_t (a := m) (lo := 1) (hi := 8) hm1 hm8 (by decide)
  refine z_enter (L := [.ref 33, .long v, .null, .int (nI m), .null]) rfl rfl rfl ?_
  refine zK.blk rfl ?_
  refine p_aloadn_0 ?_
  refine p_iconst (v := nI 0) (by decide) ?_
  refine p_put rfl rfl (by simp) ?_
  rw [zup_id hth]
  refine p_iloadn_3 ?_
  refine p_iconst (v := nI 1) (by decide) ?_
  refine p_bipush (v := nI 8) (by decide) ?_
  refine p_cs3i rfl rfl rfl rfl rfl (c_89) ?_
  refine p_ifB_ne (tgt := 17) (by decide) (fun hc12 => ?_) (fun hc12 => ?_)
  · skip
    refine zK.blk rfl ?_
    refine p_aloadn_0 ?_
    refine p_geti rfl rfl (hty) ?_
    refine p_iloadn_3 ?_
    refine p_iaddN ?_
    refine p_bipush (v := nI 80) (by decide) ?_
    refine p_icmpN_le (tgt := 31) (by decide) (by omega) (by omega) (fun hc25 => ?_) (fun hc25 => ?_)
    · skip
      exact absurd hc25 hf --STOP
    · skip
      refine p_bipush (v := -3) (by decide) ?_
      exact p_iret trivial rfl rfl
  · skip
    rw [e1] at hc12; cases hc12 --STOP
set_option maxRecDepth 100000 in
set_option maxHeartbeats 4000000 in
theorem c_125c {sc : Nat × (Nat → Int32)} {d : Nat} {M : zM} {n : Nat} {P T K : Nat → Nat} {len m : Nat} {v : Int64} (hsm : sgM M n P T K) (hty : M 33 10 = nI len) (hl8 : len ≤ 80) (hm1 : 1 ≤ m) (hm8 : m ≤ 8) (hf : len + m ≤ 80) : zC 47 sc (d + 2) 125 [.ref 33, .long v, .int (nI m)] M (some (.int (nI (len + m)))) (zapM v m len M) := by
  obtain ⟨hth, hm, hn6, hR, hT⟩ := id hsm
  have e1 := zin_t (a := m) (lo := 1) (hi := 8) hm1 hm8 (by decide)
  refine z_enter (L := [.ref 33, .long v, .null, .int (nI m), .null]) rfl rfl rfl ?_
  refine zK.blk rfl ?_
  refine p_aloadn_0 ?_
  refine p_iconst (v := nI 0) (by decide) ?_
  refine p_put rfl rfl (by simp) ?_
  rw [zup_id hth]
  refine p_iloadn_3 ?_
  refine p_iconst (v := nI 1) (by decide) ?_
  refine p_bipush (v := nI 8) (by decide) ?_
  refine p_cs3i rfl rfl rfl rfl rfl (c_89) ?_
  refine p_ifB_ne (tgt := 17) (by decide) (fun hc12 => ?_) (fun hc12 => ?_)
  · skip
    refine zK.blk rfl ?_
    refine p_aloadn_0 ?_
    refine p_geti rfl rfl (hty) ?_
    refine p_iloadn_3 ?_
    refine p_iaddN ?_
    refine p_bipush (v := nI 80) (by decide) ?_
    refine p_icmpN_le (tgt := 31) (by decide) (by omega) (by omega) (fun hc25 => ?_) (fun hc25 => ?_)
    · skip
      refine zK.blk rfl ?_
      refine p_iloadn_3 ?_
      refine p_iconst (v := nI 1) (by decide) ?_
      refine p_isub ?_
      refine p_istore_4 rfl ?_
      refine lp_125_36 m len M hty hf ?_
      refine zK.blk rfl ?_
      refine p_aloadn_0 ?_
      refine p_geti rfl rfl (zapM_len v m len M hty) ?_
      exact p_iret trivial rfl rfl
    · skip
      exact absurd hf hc25 --STOP
  · skip
    rw [e1] at hc12; cases hc12 --STOP
theorem o3_le (P : Nat → Nat) : ∀ j i v, zfor (o3F P) j i v ≤ v + j := by
  intro j
  induction j with
  | zero => intro i v; exact Nat.le_refl _
  | succ j ih =>
    intro i v
    have h1 := ih (i + 1) (o3F P i v)
    have h2 : o3F P i v ≤ v + 1 := by unfold o3F; split <;> omega
    show zfor (o3F P) j (i + 1) (o3F P i v) ≤ _
    omega
theorem o3N_le (P : Nat → Nat) (n : Nat) : o3N P n ≤ n := by have := o3_le P n 0 0; unfold o3N; omega
/-- tables of three places, and a sign of three places -/
def zbar (P : Nat → Nat) (n q : Nat) : Bool := decide (q = 3) && decide (¬ o3N P n = 0)
set_option maxRecDepth 100000 in
set_option maxHeartbeats 4000000 in
theorem c_85 {sc : Nat × (Nat → Int32)} {d : Nat} {M : zM} {n : Nat} {P T K : Nat → Nat} {q : Nat} (hsg : sgC M n P T K) (hq : q < 2 ^ 31) : zC 47 sc (d + 2) 85 [.ref 0, .int (nI q)] M (some (.int (zB (zbar P n q)))) (M) := by
  have h3 := o3N_le P n
  have h6 := hsg.1
  refine z_enter (L := [.ref 0, .int (nI q)]) rfl rfl rfl ?_
  refine zK.blk rfl ?_
  refine p_iloadn_1 ?_
  refine p_iconst (v := nI 3) (by decide) ?_
  refine p_icmpN_ne (tgt := 19) (by decide) (by omega) (by omega) (fun hc2 => ?_) (fun hc2 => ?_)
  · skip
    refine zK.blk rfl ?_
    refine p_iconst (v := nI 0) (by decide) ?_
    refine zK.blk rfl ?_
    exact p_iret (by first | exact Or.inl rfl | exact Or.inr rfl) (by unfold zbar; first | (rw [decide_eq_true (show q = 3 by omega), decide_eq_true (show ¬ o3N P n = 0 by omega)]; rfl) | (rw [decide_eq_false (show ¬ q = 3 by omega)]; rfl) | (rw [decide_eq_false (show ¬ ¬ o3N P n = 0 by omega), Bool.and_false]; rfl)) rfl
  · skip
    refine p_aloadn_0 ?_
    refine p_getr rfl rfl ?_
    refine p_cv0i rfl rfl rfl rfl rfl (c_27 hsg) ?_
    refine p_ifN_le (tgt := 19) (by decide) (by omega) (fun hc12 => ?_) (fun hc12 => ?_)
    · skip
      refine zK.blk rfl ?_
      refine p_iconst (v := nI 0) (by decide) ?_
      refine zK.blk rfl ?_
      exact p_iret (by first | exact Or.inl rfl | exact Or.inr rfl) (by unfold zbar; first | (rw [decide_eq_true (show q = 3 by omega), decide_eq_true (show ¬ o3N P n = 0 by omega)]; rfl) | (rw [decide_eq_false (show ¬ q = 3 by omega)]; rfl) | (rw [decide_eq_false (show ¬ ¬ o3N P n = 0 by omega), Bool.and_false]; rfl)) rfl
    · skip
      refine p_iconst (v := nI 1) (by decide) ?_
      refine p_goto (tgt := 20) (by decide) ?_
      refine zK.blk rfl ?_
      exact p_iret (by first | exact Or.inl rfl | exact Or.inr rfl) (by unfold zbar; first | (rw [decide_eq_true (show q = 3 by omega), decide_eq_true (show ¬ o3N P n = 0 by omega)]; rfl) | (rw [decide_eq_false (show ¬ q = 3 by omega)]; rfl) | (rw [decide_eq_false (show ¬ ¬ o3N P n = 0 by omega), Bool.and_false]; rfl)) rfl
set_option maxRecDepth 100000 in
set_option maxHeartbeats 4000000 in
theorem c_101 {sc : Nat × (Nat → Int32)} {d : Nat} {M : zM} {n : Nat} {P T K : Nat → Nat} {q : Nat} (hsm : sgM M n P T K) (hq1 : 1 ≤ q) (hq : q < 4) : zC 47 sc (d + 2) 101 [.ref 33, .int (nI q)] M (some (.int (if zbar P n q = true then -2 else nI 0))) (M) := by
  have e1 := zin_t (a := q) (lo := 1) (hi := 3) hq1 (by omega) (by decide)
  refine z_enter (L := [.ref 33, .int (nI q)]) rfl rfl rfl ?_
  refine zK.blk rfl ?_
  refine p_iloadn_1 ?_
  refine p_iconst (v := nI 1) (by decide) ?_
  refine p_iconst (v := nI 3) (by decide) ?_
  refine p_cs3i rfl rfl rfl rfl rfl (c_89) ?_
  refine p_ifB_ne (tgt := 13) (by decide) (fun hc6 => ?_) (fun hc6 => ?_)
  · skip
    refine zK.blk rfl ?_
    refine p_iloadn_1 ?_
    refine p_iconst (v := nI 3) (by decide) ?_
    refine p_icmpN_ne (tgt := 30) (by decide) (by omega) (by omega) (fun hc15 => ?_) (fun hc15 => ?_)
    · skip
      rw [if_neg (by unfold zbar; rw [decide_eq_false hc15, Bool.false_and]; decide)]
      refine zK.blk rfl ?_
      refine p_iconst (v := nI 0) (by decide) ?_
      refine zK.blk rfl ?_
      exact p_iret trivial rfl rfl
    · skip
      refine p_aloadn_0 ?_
      refine p_cv0i rfl rfl rfl rfl rfl (c_97 hsm) ?_
      refine p_ifB_eq (tgt := 30) (by decide) (fun hc22 => ?_) (fun hc22 => ?_)
      · skip
        rw [if_neg (by unfold zbar; rw [hc22, Bool.and_false]; decide)]
        refine zK.blk rfl ?_
        refine p_iconst (v := nI 0) (by decide) ?_
        refine zK.blk rfl ?_
        exact p_iret trivial rfl rfl
      · skip
        rw [if_pos (by unfold zbar; rw [hc22, decide_eq_true (show q = 3 by omega)]; rfl)]
        refine p_bipush (v := -2) (by decide) ?_
        refine p_goto (tgt := 31) (by decide) ?_
        refine zK.blk rfl ?_
        exact p_iret trivial rfl rfl
  · skip
    rw [e1] at hc6; cases hc6 --STOP
set_option maxRecDepth 100000 in
set_option maxHeartbeats 4000000 in
theorem c_101a {sc : Nat × (Nat → Int32)} {d : Nat} {M : zM} {x : Int32} (hx : zcnt x = false) : zC 47 sc (d + 2) 101 [.ref 33, .int x] M (some (.int (-1))) (M) := by
  refine z_enter (L := [.ref 33, .int x]) rfl rfl rfl ?_
  refine zK.blk rfl ?_
  refine p_iloadn_1 ?_
  refine p_iconst (v := nI 1) (by decide) ?_
  refine p_iconst (v := nI 3) (by decide) ?_
  refine p_cs3i rfl rfl rfl rfl rfl (c_89) ?_
  refine p_ifB_ne (tgt := 13) (by decide) (fun hc6 => ?_) (fun hc6 => ?_)
  · skip
    exact absurd (show zcnt x = true from hc6) (by rw [hx]; decide) --STOP
  · skip
    refine p_iconst (v := -1) (by decide) ?_
    refine p_goto (tgt := 31) (by decide) ?_
    refine zK.blk rfl ?_
    exact p_iret trivial rfl rfl
