/-- the reference's formulas i .. i + j - 1 are x -/
def zem (M : zM) (i j : Nat) : zM := fun a b => if a = 40 ∧ i ≤ b ∧ b < i + j then nI 1 else if a = 39 ∧ b % 30 = 0 ∧ 30 * i ≤ b ∧ b < 30 * (i + j) then nI 120 else M a b
theorem zem_0 {M : zM} {i : Nat} : zem M i 0 = M := by
  funext a b
  unfold zem
  rw [if_neg (by omega), if_neg (by omega)]
theorem zem_s {M : zM} {i j : Nat} : zem (zup (zup M 39 (30 * i) (nI 120)) 40 i (nI 1)) (i + 1) j = zem M i (j + 1) := by
  funext a b
  unfold zem zup
  repeat' split
  all_goals first | rfl | (exfalso; omega)
set_option maxRecDepth 100000 in
set_option maxHeartbeats 4000000 in
theorem lp_90_2 {sc : Nat × (Nat → Int32)} {d : Nat} {r : Option Value} {M' : zM} : ∀ (j i : Nat) (M : zM), i + j = 4 → zK 47 sc (zC 47 sc (d + 0)) 90 r M' 31 [.ref 33, .int (nI 4)] [] (zem M i j) → zK 47 sc (zC 47 sc (d + 0)) 90 r M' 2 [.ref 33, .int (nI i)] [] M := by
  intro j
  induction j with
  | zero =>
    intro i M hj hk
    have hin : i = 4 := by omega
    subst hin
    rw [zem_0] at hk
    refine zK.blk rfl ?_
    refine p_iloadn_1 ?_
    refine p_iconst (v := nI 4) (by decide) ?_
    refine p_icmpN_ge (tgt := 31) (by decide) (by omega) (by omega) (fun hc4 => ?_) (fun hc4 => ?_)
    · skip
      exact hk
    · skip
      exact absurd hc4 (by omega) --STOP
  | succ j ih =>
    intro i M hj hk
    rw [← zem_s] at hk
    refine zK.blk rfl ?_
    refine p_iloadn_1 ?_
    refine p_iconst (v := nI 4) (by decide) ?_
    refine p_icmpN_ge (tgt := 31) (by decide) (by omega) (by omega) (fun hc4 => ?_) (fun hc4 => ?_)
    · skip
      exact absurd hc4 (by omega) --STOP
    · skip
      refine p_aloadn_0 ?_
      refine p_getr rfl rfl ?_
      refine p_bipush (v := nI 30) (by decide) ?_
      refine p_iloadn_1 ?_
      refine p_imulN ?_
      refine p_bipush (v := nI 120) (by decide) ?_
      refine p_iast rfl (by omega) (by decide) ?_
      refine p_aloadn_0 ?_
      refine p_getr rfl rfl ?_
      refine p_iloadn_1 ?_
      refine p_iconst (v := nI 1) (by decide) ?_
      refine p_iast rfl (by omega) (by decide) ?_
      refine p_iinc_1 (zN_inc _ 1) rfl ?_
      refine p_goto (tgt := 2) (by decide) ?_
      exact ih _ _ (by omega) hk
set_option maxRecDepth 100000 in
set_option maxHeartbeats 4000000 in
theorem c_90 {sc : Nat × (Nat → Int32)} {d : Nat} {M : zM}  : zC 47 sc (d + 1) 90 [.ref 33] M (none) (zem M 0 4) := by
  refine z_enter (L := [.ref 33, .null]) rfl rfl rfl ?_
  refine zK.blk rfl ?_
  refine p_iconst (v := nI 0) (by decide) ?_
  refine p_istoren_1 rfl ?_
  refine lp_90_2 4 0 _ (by omega) ?_
  refine zK.blk rfl ?_
  exact p_vret trivial rfl rfl
theorem zsok_zin {x y z : Int32} (h : zsok x y z = true) : ∃ p t c, p < 4 ∧ t < z22 p ∧ 1 ≤ c ∧ c ≤ 9 ∧ x = nI p ∧ y = nI t ∧ z = nI c := by
  unfold zsok at h
  simp only [Bool.and_eq_true, decide_eq_true_eq] at h
  obtain ⟨p, t, hp, ht, rfl, rfl⟩ := zfits_x h.1.1
  have h0 : ¬ z < 0 := fun w => h.1.2 (Int32.lt_trans w (by decide))
  obtain ⟨c, hc, rfl⟩ := nI_of2 (M := nI 9) (n := 9) (by decide) h0 (Int32.not_lt.mp h.2)
  exact ⟨p, t, c, hp, ht, by have h2 := h.1.2; rw [nI_ltI (by omega) (by decide)] at h2; omega, hc, rfl, rfl, rfl⟩
theorem zin_t {a lo hi : Nat} (h1 : lo ≤ a) (h2 : a ≤ hi) (h3 : hi < 2 ^ 31) : zin (nI a) (nI lo) (nI hi) = true := by
  unfold zin
  rw [decide_eq_true (nI_nlt h1 (by omega)), decide_eq_true (nI_nlt h2 h3)]
  rfl
def zmsg (M : zM) (n p t c : Nat) : zM := zup (zup (zup (zup M 34 n (nI p)) 35 n (nI t)) 36 n (nI c)) 33 1 (nI (n + 1))
set_option maxRecDepth 100000 in
set_option maxHeartbeats 4000000 in
theorem c_92a {sc : Nat × (Nat → Int32)} {d : Nat} {M : zM} {n : Nat} {P T K : Nat → Nat} {x y z : Int32} (hsm : sgM M n P T K) (h : zsok x y z = false) : zC 47 sc (d + 2) 92 [.ref 33, .int x, .int y, .int z] M (some (.int (-1))) (M) := by
  obtain ⟨hth, hm, hn6, hR, hT⟩ := id hsm
  refine z_enter (L := [.ref 33, .int x, .int y, .int z]) rfl rfl rfl ?_
  refine zK.blk rfl ?_
  refine p_aloadn_0 ?_
  refine p_iconst (v := nI 0) (by decide) ?_
  refine p_put rfl rfl (by simp) ?_
  rw [zup_id hth]
  refine p_iloadn_1 ?_
  refine p_iconst (v := nI 0) (by decide) ?_
  refine p_iconst (v := nI 3) (by decide) ?_
  refine p_cs3i rfl rfl rfl rfl rfl (c_89) ?_
  refine p_ifB_eq (tgt := 38) (by decide) (fun hc11 => ?_) (fun hc11 => ?_)
  · skip
    refine zK.blk rfl ?_
    refine p_iconst (v := -1) (by decide) ?_
    exact p_iret trivial rfl rfl
  · skip
    obtain ⟨p, hp, rfl⟩ := zin_x (by decide) hc11
    have hz := z22_lt (show p < 4 by omega)
    refine p_iloadn_2 ?_
    refine p_iconst (v := nI 0) (by decide) ?_
    refine p_iloadn_1 ?_
    refine p_cs1i rfl rfl rfl rfl rfl (c_91 (p := p) (by omega)) ?_
    refine p_iconst (v := nI 1) (by decide) ?_
    refine p_isubN (by omega) ?_
    refine p_cs3i rfl rfl rfl rfl rfl (c_89) ?_
    refine p_ifB_eq (tgt := 38) (by decide) (fun hc25 => ?_) (fun hc25 => ?_)
    · skip
      refine zK.blk rfl ?_
      refine p_iconst (v := -1) (by decide) ?_
      exact p_iret trivial rfl rfl
    · skip
      refine p_iloadn_3 ?_
      refine p_iconst (v := nI 1) (by decide) ?_
      refine p_bipush (v := nI 9) (by decide) ?_
      refine p_cs3i rfl rfl rfl rfl rfl (c_89) ?_
      refine p_ifB_ne (tgt := 40) (by decide) (fun hc35 => ?_) (fun hc35 => ?_)
      · skip
        exact absurd h (by unfold zsok; rw [zfits_zin (by omega), hc25]; have h9 : (decide (¬ z < nI 1) && decide (¬ nI 9 < z)) = true := hc35; rw [Bool.true_and, h9]; decide) --STOP
      · skip
        refine zK.blk rfl ?_
        refine p_iconst (v := -1) (by decide) ?_
        exact p_iret trivial rfl rfl
set_option maxRecDepth 100000 in
set_option maxHeartbeats 4000000 in
theorem c_92b {sc : Nat × (Nat → Int32)} {d : Nat} {M : zM} {n : Nat} {P T K : Nat → Nat} {p t c : Nat} (hsm : sgM M n P T K) (hp : p < 4) (ht : t < z22 p) (hc1 : 1 ≤ c) (hc9 : c ≤ 9) (h6 : n = 6) : zC 47 sc (d + 2) 92 [.ref 33, .int (nI p), .int (nI t), .int (nI c)] M (some (.int (-3))) (M) := by
  obtain ⟨hth, hm, hn6, hR, hT⟩ := id hsm
  have hz := z22_lt hp
  have e1 := zin_t (a := p) (lo := 0) (hi := 3) (by omega) (by omega) (by decide)
  have e2 := zin_t (a := t) (lo := 0) (hi := z22 p - 1) (by omega) (by omega) (by omega)
  have e3 := zin_t (a := c) (lo := 1) (hi := 9) (by omega) (by omega) (by decide)
  refine z_enter (L := [.ref 33, .int (nI p), .int (nI t), .int (nI c)]) rfl rfl rfl ?_
  refine zK.blk rfl ?_
  refine p_aloadn_0 ?_
  refine p_iconst (v := nI 0) (by decide) ?_
  refine p_put rfl rfl (by simp) ?_
  rw [zup_id hth]
  refine p_iloadn_1 ?_
  refine p_iconst (v := nI 0) (by decide) ?_
  refine p_iconst (v := nI 3) (by decide) ?_
  refine p_cs3i rfl rfl rfl rfl rfl (c_89) ?_
  refine p_ifB_eq (tgt := 38) (by decide) (fun hc11 => ?_) (fun hc11 => ?_)
  · skip
    rw [e1] at hc11; cases hc11 --STOP
  · skip
    refine p_iloadn_2 ?_
    refine p_iconst (v := nI 0) (by decide) ?_
    refine p_iloadn_1 ?_
    refine p_cs1i rfl rfl rfl rfl rfl (c_91 (p := p) (by omega)) ?_
    refine p_iconst (v := nI 1) (by decide) ?_
    refine p_isubN (by omega) ?_
    refine p_cs3i rfl rfl rfl rfl rfl (c_89) ?_
    refine p_ifB_eq (tgt := 38) (by decide) (fun hc25 => ?_) (fun hc25 => ?_)
    · skip
      rw [e2] at hc25; cases hc25 --STOP
    · skip
      refine p_iloadn_3 ?_
      refine p_iconst (v := nI 1) (by decide) ?_
      refine p_bipush (v := nI 9) (by decide) ?_
      refine p_cs3i rfl rfl rfl rfl rfl (c_89) ?_
      refine p_ifB_ne (tgt := 40) (by decide) (fun hc35 => ?_) (fun hc35 => ?_)
      · skip
        refine zK.blk rfl ?_
        refine p_aloadn_0 ?_
        refine p_geti rfl rfl (hm) ?_
        refine p_bipush (v := nI 6) (by decide) ?_
        refine p_icmpN_ne (tgt := 52) (by decide) (by omega) (by omega) (fun hc46 => ?_) (fun hc46 => ?_)
        · skip
          exact absurd h6 hc46 --STOP
        · skip
          refine p_bipush (v := -3) (by decide) ?_
          exact p_iret trivial rfl rfl
      · skip
        rw [e3] at hc35; cases hc35 --STOP
set_option maxRecDepth 100000 in
set_option maxHeartbeats 4000000 in
theorem c_92c {sc : Nat × (Nat → Int32)} {d : Nat} {M : zM} {n : Nat} {P T K : Nat → Nat} {p t c : Nat} (hsm : sgM M n P T K) (hp : p < 4) (ht : t < z22 p) (hc1 : 1 ≤ c) (hc9 : c ≤ 9) (h5 : n < 6) : zC 47 sc (d + 2) 92 [.ref 33, .int (nI p), .int (nI t), .int (nI c)] M (some (.int (nI n))) (zem (zmsg M n p t c) 0 4) := by
  obtain ⟨hth, hm, hn6, hR, hT⟩ := id hsm
  have hz := z22_lt hp
  have e1 := zin_t (a := p) (lo := 0) (hi := 3) (by omega) (by omega) (by decide)
  have e2 := zin_t (a := t) (lo := 0) (hi := z22 p - 1) (by omega) (by omega) (by omega)
  have e3 := zin_t (a := c) (lo := 1) (hi := 9) (by omega) (by omega) (by decide)
  have hg1 : zup M 34 n (nI p) 33 1 = nI n := by simp [zup, hm]
  have hg2 : zup (zup M 34 n (nI p)) 35 n (nI t) 33 1 = nI n := by simp [zup, hm]
  have hg3 : zup (zup (zup M 34 n (nI p)) 35 n (nI t)) 36 n (nI c) 33 1 = nI n := by simp [zup, hm]
  have hg4 : zem (zmsg M n p t c) 0 4 33 1 = nI (n + 1) := by simp [zem, zmsg, zup]
  refine z_enter (L := [.ref 33, .int (nI p), .int (nI t), .int (nI c)]) rfl rfl rfl ?_
  refine zK.blk rfl ?_
  refine p_aloadn_0 ?_
  refine p_iconst (v := nI 0) (by decide) ?_
  refine p_put rfl rfl (by simp) ?_
  rw [zup_id hth]
  refine p_iloadn_1 ?_
  refine p_iconst (v := nI 0) (by decide) ?_
  refine p_iconst (v := nI 3) (by decide) ?_
  refine p_cs3i rfl rfl rfl rfl rfl (c_89) ?_
  refine p_ifB_eq (tgt := 38) (by decide) (fun hc11 => ?_) (fun hc11 => ?_)
  · skip
    rw [e1] at hc11; cases hc11 --STOP
  · skip
    refine p_iloadn_2 ?_
    refine p_iconst (v := nI 0) (by decide) ?_
    refine p_iloadn_1 ?_
    refine p_cs1i rfl rfl rfl rfl rfl (c_91 (p := p) (by omega)) ?_
    refine p_iconst (v := nI 1) (by decide) ?_
    refine p_isubN (by omega) ?_
    refine p_cs3i rfl rfl rfl rfl rfl (c_89) ?_
    refine p_ifB_eq (tgt := 38) (by decide) (fun hc25 => ?_) (fun hc25 => ?_)
    · skip
      rw [e2] at hc25; cases hc25 --STOP
    · skip
      refine p_iloadn_3 ?_
      refine p_iconst (v := nI 1) (by decide) ?_
      refine p_bipush (v := nI 9) (by decide) ?_
      refine p_cs3i rfl rfl rfl rfl rfl (c_89) ?_
      refine p_ifB_ne (tgt := 40) (by decide) (fun hc35 => ?_) (fun hc35 => ?_)
      · skip
        refine zK.blk rfl ?_
        refine p_aloadn_0 ?_
        refine p_geti rfl rfl hm ?_
        refine p_bipush (v := nI 6) (by decide) ?_
        refine p_icmpN_ne (tgt := 52) (by decide) (by omega) (by omega) (fun hc46 => ?_) (fun hc46 => ?_)
        · skip
          refine zK.blk rfl ?_
          refine p_aloadn_0 ?_
          refine p_getr rfl rfl ?_
          refine p_aloadn_0 ?_
          refine p_geti rfl rfl hm ?_
          refine p_iloadn_1 ?_
          refine p_iast rfl (by omega) (by decide) ?_
          refine p_aloadn_0 ?_
          refine p_getr rfl rfl ?_
          refine p_aloadn_0 ?_
          refine p_geti rfl rfl hg1 ?_
          refine p_iloadn_2 ?_
          refine p_iast rfl (by omega) (by decide) ?_
          refine p_aloadn_0 ?_
          refine p_getr rfl rfl ?_
          refine p_aloadn_0 ?_
          refine p_geti rfl rfl hg2 ?_
          refine p_iloadn_3 ?_
          refine p_iast rfl (by omega) (by decide) ?_
          refine p_aloadn_0 ?_
          refine p_dupa ?_
          refine p_geti rfl rfl hg3 ?_
          refine p_iconst (v := nI 1) (by decide) ?_
          refine p_iaddN ?_
          refine p_put rfl rfl (by simp) ?_
          refine p_aloadn_0 ?_
          refine p_cv0v rfl rfl rfl rfl rfl (c_90) ?_
          refine p_aloadn_0 ?_
          refine p_geti rfl rfl hg4 ?_
          refine p_iconst (v := nI 1) (by decide) ?_
          refine p_isubN (by omega) ?_
          exact p_iret trivial (by rw [Nat.add_sub_cancel]) rfl
        · skip
          exact absurd h5 (by omega) --STOP
      · skip
        rw [e3] at hc35; cases hc35 --STOP
set_option maxRecDepth 100000 in
set_option maxHeartbeats 4000000 in
theorem c_93a {sc : Nat × (Nat → Int32)} {d : Nat} {M : zM} {n : Nat} {P T K : Nat → Nat} (hsm : sgM M n P T K) (h0 : n = 0) : zC 47 sc (d + 2) 93 [.ref 33] M (some (.int (-1))) (M) := by
  obtain ⟨hth, hm, hn6, hR, hT⟩ := id hsm
  refine z_enter (L := [.ref 33]) rfl rfl rfl ?_
  refine zK.blk rfl ?_
  refine p_aloadn_0 ?_
  refine p_iconst (v := nI 0) (by decide) ?_
  refine p_put rfl rfl (by simp) ?_
  rw [zup_id hth]
  refine p_aloadn_0 ?_
  refine p_geti rfl rfl (hm) ?_
  refine p_ifN_ne (tgt := 14) (by decide) (by omega) (fun hc9 => ?_) (fun hc9 => ?_)
  · skip
    exact absurd h0 hc9 --STOP
  · skip
    refine p_iconst (v := -1) (by decide) ?_
    exact p_iret trivial rfl rfl
set_option maxRecDepth 100000 in
set_option maxHeartbeats 4000000 in
theorem c_93b {sc : Nat × (Nat → Int32)} {d : Nat} {M : zM} {n : Nat} {P T K : Nat → Nat} (hsm : sgM M n P T K) (h0 : 1 ≤ n) : zC 47 sc (d + 2) 93 [.ref 33] M (some (.int (nI (n - 1)))) (zem (zup M 33 1 (nI (n - 1))) 0 4) := by
  obtain ⟨hth, hm, hn6, hR, hT⟩ := id hsm
  have hg4 : zem (zup M 33 1 (nI (n - 1))) 0 4 33 1 = nI (n - 1) := by simp [zem, zup]
  refine z_enter (L := [.ref 33]) rfl rfl rfl ?_
  refine zK.blk rfl ?_
  refine p_aloadn_0 ?_
  refine p_iconst (v := nI 0) (by decide) ?_
  refine p_put rfl rfl (by simp) ?_
  rw [zup_id hth]
  refine p_aloadn_0 ?_
  refine p_geti rfl rfl hm ?_
  refine p_ifN_ne (tgt := 14) (by decide) (by omega) (fun hc9 => ?_) (fun hc9 => ?_)
  · skip
    refine zK.blk rfl ?_
    refine p_aloadn_0 ?_
    refine p_dupa ?_
    refine p_geti rfl rfl hm ?_
    refine p_iconst (v := nI 1) (by decide) ?_
    refine p_isubN (by omega) ?_
    refine p_put rfl rfl (by simp) ?_
    refine p_aloadn_0 ?_
    refine p_cv0v rfl rfl rfl rfl rfl (c_90) ?_
    refine p_aloadn_0 ?_
    refine p_geti rfl rfl hg4 ?_
    exact p_iret trivial rfl rfl
  · skip
    exact absurd h0 (by omega) --STOP
set_option maxRecDepth 100000 in
set_option maxHeartbeats 4000000 in
theorem c_75 {sc : Nat × (Nat → Int32)} {d : Nat} {M : zM} {len : Nat} (hln : M 24 1 = nI len) : zC 47 sc (d + 1) 75 [.ref 0] M (some (.int (nI len))) (zup M 24 1 (nI 0)) := by
  refine z_enter (L := [.ref 0, .null]) rfl rfl rfl ?_
  refine zK.blk rfl ?_
  refine p_aloadn_0 ?_
  refine p_getr rfl rfl ?_
  refine p_geti rfl rfl (hln) ?_
  refine p_istoren_1 rfl ?_
  refine p_aloadn_0 ?_
  refine p_getr rfl rfl ?_
  refine p_iconst (v := nI 0) (by decide) ?_
  refine p_put rfl rfl (by simp) ?_
  refine p_iloadn_1 ?_
  exact p_iret trivial rfl rfl
set_option maxRecDepth 100000 in
set_option maxHeartbeats 4000000 in
theorem c_126 {sc : Nat × (Nat → Int32)} {d : Nat} {M : zM} {n : Nat} {P T K : Nat → Nat} {len : Nat} (hsm : sgM M n P T K) (hty : M 33 10 = nI len) : zC 47 sc (d + 1) 126 [.ref 33] M (some (.int (nI len))) (zup M 33 10 (nI 0)) := by
  obtain ⟨hth, hm, hn6, hR, hT⟩ := id hsm
  refine z_enter (L := [.ref 33, .null]) rfl rfl rfl ?_
  refine zK.blk rfl ?_
  refine p_aloadn_0 ?_
  refine p_iconst (v := nI 0) (by decide) ?_
  refine p_put rfl rfl (by simp) ?_
  rw [zup_id hth]
  refine p_aloadn_0 ?_
  refine p_geti rfl rfl (hty) ?_
  refine p_istoren_1 rfl ?_
  refine p_aloadn_0 ?_
  refine p_iconst (v := nI 0) (by decide) ?_
  refine p_put rfl rfl (by simp) ?_
  refine p_iloadn_1 ?_
  exact p_iret trivial rfl rfl
theorem zN_m1 (j : Nat) : nI j + Int32.ofInt (-1) = nI j - nI 1 := by
  rw [show Int32.ofInt (-1) = -nI 1 by decide, Int32.sub_eq_add_neg]
theorem zN_m1lt : nI 0 - nI 1 < 0 := by decide
def bvC (v : Int64) (j : Nat) : Int32 := vp_nar .byte (((v.toUInt64 >>> ((nI (8 * j)).toInt64.toUInt64 &&& Int64.toUInt64 63)).toInt64).toInt32.toInt8.toInt32)
def bvM (v : Int64) (j : Nat) : Int32 := (v >>> ((nI (8 * j)).toInt64 &&& 63) &&& Int64.ofNat 255).toInt32
def zapC (v : Int64) : Nat → Nat → zM → zM
  | 0, _, M => M
  | j + 1, len, M => zapC v j (len + 1) (zup (zup M 25 len (bvC v j)) 24 1 (nI (len + 1)))
def zapM (v : Int64) : Nat → Nat → zM → zM
  | 0, _, M => M
  | j + 1, len, M => zapM v j (len + 1) (zup (zup M 38 len (bvM v j)) 33 10 (nI (len + 1)))
set_option maxRecDepth 100000 in
set_option maxHeartbeats 4000000 in
theorem lp_35_5 {sc : Nat × (Nat → Int32)} {d : Nat} {r : Option Value} {M' : zM} {v : Int64} {n0 : Nat} : ∀ (j len : Nat) (M : zM), M 24 1 = nI len → len + j ≤ 80 → zK 47 sc (zC 47 sc (d + 0)) 35 r M' 53 [.ref 24, .long v, .null, .int (nI n0), .int (nI 0 - nI 1)] [] (zapC v j len M) → zK 47 sc (zC 47 sc (d + 0)) 35 r M' 5 [.ref 24, .long v, .null, .int (nI n0), .int (nI j - nI 1)] [] M := by
  intro j
  induction j with
  | zero =>
    intro len M hl hj hk
    refine zK.blk rfl ?_
    refine p_iload_4 ?_
    refine p_if_lt (tgt := 53) (by decide) (fun hc7 => ?_) (fun hc7 => ?_)
    · skip
      exact hk
    · skip
      exact absurd zN_m1lt hc7 --STOP
  | succ j ih =>
    intro len M hl hj hk
    rw [show nI (j + 1) - nI 1 = nI j by rw [zN_sub (by omega)]; rfl]
    refine zK.blk rfl ?_
    refine p_iload_4 ?_
    refine p_ifN_lt (tgt := 53) (by decide) (by omega) (fun hc7 => ?_) (fun hc7 => ?_)
    · skip
      exact absurd hc7 (by omega) --STOP
    · skip
      refine p_aloadn_0 ?_
      refine p_geti rfl rfl hl ?_
      refine p_bipush (v := nI 80) (by decide) ?_
      refine p_icmpN_ge (tgt := 53) (by decide) (by omega) (by omega) (fun hc16 => ?_) (fun hc16 => ?_)
      · skip
        exact absurd hc16 (by omega) --STOP
      · skip
        refine p_aloadn_0 ?_
        refine p_getr rfl rfl ?_
        refine p_aloadn_0 ?_
        refine p_geti rfl rfl hl ?_
        refine p_lloadn_1 ?_
        refine p_bipush (v := nI 8) (by decide) ?_
        refine p_iload_4 ?_
        refine p_imulN ?_
        refine p_lushr ?_
        refine p_l2i rfl ?_
        refine p_i2b rfl ?_
        refine p_bast (v := bvC v j) rfl (by omega) (by decide) rfl ?_
        refine p_aloadn_0 ?_
        refine p_dupa ?_
        refine p_geti (v := nI len) rfl rfl (by simp [zup]; exact hl) ?_
        refine p_iconst (v := nI 1) (by decide) ?_
        refine p_iaddN ?_
        refine p_put rfl rfl (by simp) ?_
        refine p_iinc_4 (zN_m1 _) rfl ?_
        refine p_goto (tgt := 5) (by decide) ?_
        exact ih (len + 1) _ (by simp [zup]) (by omega) hk
set_option maxRecDepth 100000 in
set_option maxHeartbeats 4000000 in
theorem lp_125_36 {sc : Nat × (Nat → Int32)} {d : Nat} {r : Option Value} {M' : zM} {v : Int64} {n0 : Nat} : ∀ (j len : Nat) (M : zM), M 33 10 = nI len → len + j ≤ 80 → zK 47 sc (zC 47 sc (d + 1)) 125 r M' 78 [.ref 33, .long v, .null, .int (nI n0), .int (nI 0 - nI 1)] [] (zapM v j len M) → zK 47 sc (zC 47 sc (d + 1)) 125 r M' 36 [.ref 33, .long v, .null, .int (nI n0), .int (nI j - nI 1)] [] M := by
  intro j
  induction j with
  | zero =>
    intro len M hl hj hk
    refine zK.blk rfl ?_
    refine p_iload_4 ?_
    refine p_if_lt (tgt := 78) (by decide) (fun hc38 => ?_) (fun hc38 => ?_)
    · skip
      exact hk
    · skip
      exact absurd zN_m1lt hc38 --STOP
  | succ j ih =>
    intro len M hl hj hk
    rw [show nI (j + 1) - nI 1 = nI j by rw [zN_sub (by omega)]; rfl]
    refine zK.blk rfl ?_
    refine p_iload_4 ?_
    refine p_ifN_lt (tgt := 78) (by decide) (by omega) (fun hc38 => ?_) (fun hc38 => ?_)
    · skip
      exact absurd hc38 (by omega) --STOP
    · skip
      refine p_aloadn_0 ?_
      refine p_getr rfl rfl ?_
      refine p_aloadn_0 ?_
      refine p_geti rfl rfl hl ?_
      refine p_lloadn_1 ?_
      refine p_bipush (v := nI 8) (by decide) ?_
      refine p_iload_4 ?_
      refine p_imulN ?_
      refine p_lshr ?_
      refine p_ldc2 ?_
      refine p_land ?_
      refine p_l2i rfl ?_
      refine p_iast rfl (by omega) (by decide) ?_
      refine p_aloadn_0 ?_
      refine p_dupa ?_
      refine p_geti (v := nI len) rfl rfl (by simp [zup]; exact hl) ?_
      refine p_iconst (v := nI 1) (by decide) ?_
      refine p_iaddN ?_
      refine p_put rfl rfl (by simp) ?_
      refine p_iinc_4 (zN_m1 _) rfl ?_
      refine p_goto (tgt := 36) (by decide) ?_
      exact ih (len + 1) _ (by simp [zup]) (by omega) hk
