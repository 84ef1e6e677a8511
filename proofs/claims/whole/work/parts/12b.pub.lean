theorem zfind_0 {f : Nat → Bool} {x : Int32} {i v : Nat} : zfind f x 0 i v = if x = -1 then nI v else -9 := rfl
theorem zfind_n {f : Nat → Bool} {x : Int32} {j i v : Nat} (h : f i = false) : zfind f x (j + 1) i v = zfind f x j (i + 1) v := by
  show (if f i = true then _ else _) = _
  rw [h, if_neg (by decide)]
theorem zfind_y {f : Nat → Bool} {x : Int32} {j i v : Nat} (h : f i = true) (hx : ¬ nI v = x) : zfind f x (j + 1) i v = zfind f x j (i + 1) (v + 1) := by
  show (if f i = true then (if nI v = x then nI i else _) else _) = _
  rw [if_pos h, if_neg hx]
theorem zfind_e {f : Nat → Bool} {x : Int32} {j i v : Nat} (h : f i = true) (hx : nI v = x) : zfind f x (j + 1) i v = nI i := by
  show (if f i = true then (if nI v = x then nI i else _) else _) = _
  rw [if_pos h, if_pos hx]
theorem zm1 {x : Int32} (h : ¬ x < -1) : ¬ 0 ≤ x → x = -1 := by
  intro h2
  rw [Int32.lt_iff_toInt_lt] at h
  rw [Int32.le_iff_toInt_le] at h2
  apply Int32.toInt_inj.mp
  have e1 : (-1 : Int32).toInt = -1 := by decide
  have e2 : (0 : Int32).toInt = 0 := by decide
  rw [e1] at h ⊢
  rw [e2] at h2
  omega
theorem zm1' {x : Int32} (h : 0 ≤ x) : ¬ x = -1 := by
  intro e
  rw [e] at h
  revert h
  decide
section ZPT
variable {NC : Nat} {sc : Nat × (Nat → Int32)} {C : Nat → List Value → zM → Option Value → zM → Prop} {J : Nat → List Value → List Value → zM → Prop} {fin : Option Value → zM → Prop} {np pc len a b t : Nat} {es : List zE} {L st : List Value} {M : zM}
theorem p_tab {x : Int32} {d hi : Int} {offs : Array Int} {td N : Nat} (hd : (pc : Int) + d = (td : Int)) (hh : hi = (N : Int)) (hN : N < 2 ^ 31) (f : Nat → Nat) (hf : ∀ i, i ≤ N → ∃ off, offs[i]? = some off ∧ (pc : Int) + off = (f i : Int)) (h0 : (∀ i, i ≤ N → ¬ x = nI i) → J td L st M) (h1 : ∀ i, i ≤ N → x = nI i → J (f i) L st M) : zwp NC sc zinfo C J fin np ((pc, .tableswitch d 0 hi offs, len, a, b, t) :: es) L (.int x :: st) M := by
  subst hh
  dsimp only [zwp, zop, zts, zjmp]
  refine ⟨fun h => ?_, fun h2 h3 => ?_⟩
  · rw [hd]
    refine ⟨rfl, h0 (fun i hi e => ?_)⟩
    subst e
    rw [nI_toInt (by omega)] at h
    omega
  · obtain ⟨i, hi, rfl⟩ : ∃ i : Nat, i ≤ N ∧ x = nI i := by
      have hx : ¬ x < 0 := by rw [Int32.lt_iff_toInt_lt]; exact h2
      obtain ⟨j, hj, rfl⟩ := nI_of hx
      rw [nI_toInt hj] at h3
      exact ⟨j, by omega, rfl⟩
    obtain ⟨off, e1, e2⟩ := hf i hi
    refine ⟨off, ?_, ?_⟩
    · rw [nI_toInt (by omega)]
      rw [show ((i : Int) - 0).toNat = i by omega]
      exact e1
    · rw [e2]
      exact ⟨rfl, h1 i hi rfl⟩
end ZPT
set_option maxRecDepth 100000 in
set_option maxHeartbeats 4000000 in
theorem lp_67_11 {sc : Nat × (Nat → Int32)} {d : Nat} {M : zM} {n : Nat} {P T K : Nat → Nat} {x : Int32} (hsg : sgC M n P T K) : ∀ (j i v : Nat), i + j = 1 <<< n → zK 47 sc (zC 47 sc (d + 3)) 67 (some (.int (zfind (lsN P T n) x j i v))) M 11 [.ref 0, .int x, .int (nI v), .int (nI i)] [] M := by
  intro j
  induction j with
  | zero =>
    intro i v hj
    obtain ⟨hn6, hn, hR, hS⟩ := id hsg
    have hz := z1n_lt hn6
    refine zK.blk rfl ?_
    refine p_iloadn_3 ?_
    refine p_iconst (v := nI 1) (by decide) ?_
    refine p_aloadn_0 ?_
    refine p_getr rfl rfl ?_
    refine p_geti rfl rfl (hn) ?_
    refine p_ishlN (by omega) ?_
    refine p_icmpN_ge (tgt := 51) (by decide) (by omega) (by omega) (fun hc21 => ?_) (fun hc21 => ?_)
    · skip
      refine zK.blk rfl ?_
      refine p_iloadn_1 ?_
      refine p_iconst (v := -1) (by decide) ?_
      refine p_icmp_ne (tgt := 60) (by decide) (fun hc53 => ?_) (fun hc53 => ?_)
      · skip
        skip
        refine zK.blk rfl ?_
        refine p_bipush (v := -9) (by decide) ?_
        refine zK.blk rfl ?_
        first | (rw [zfind_0, if_pos (by assumption)]; exact p_iret trivial rfl rfl) | (rw [zfind_0, if_neg (by assumption)]; exact p_iret trivial rfl rfl)
      · skip
        have hc53 := Classical.not_not.mp hc53
        refine p_iloadn_2 ?_
        refine p_goto (tgt := 62) (by decide) ?_
        refine zK.blk rfl ?_
        first | (rw [zfind_0, if_pos (by assumption)]; exact p_iret trivial rfl rfl) | (rw [zfind_0, if_neg (by assumption)]; exact p_iret trivial rfl rfl)
    · skip
      exact absurd hc21 (by omega) --STOP
  | succ j ih =>
    intro i v hj
    obtain ⟨hn6, hn, hR, hS⟩ := id hsg
    have hz := z1n_lt hn6
    refine zK.blk rfl ?_
    refine p_iloadn_3 ?_
    refine p_iconst (v := nI 1) (by decide) ?_
    refine p_aloadn_0 ?_
    refine p_getr rfl rfl ?_
    refine p_geti rfl rfl (hn) ?_
    refine p_ishlN (by omega) ?_
    refine p_icmpN_ge (tgt := 51) (by decide) (by omega) (by omega) (fun hc21 => ?_) (fun hc21 => ?_)
    · skip
      exact absurd hc21 (by omega) --STOP
    · skip
      refine p_aloadn_0 ?_
      refine p_getr rfl rfl ?_
      refine p_iloadn_3 ?_
      refine p_cv1i rfl rfl rfl rfl rfl (c_30 hsg (by omega)) ?_
      refine p_ifB_eq (tgt := 45) (by decide) (fun hc32 => ?_) (fun hc32 => ?_)
      · skip
        rw [zfind_n (f := lsN P T n) (hc32)]
        refine zK.blk rfl ?_
        refine p_iinc_3 (zN_inc _ 1) rfl ?_
        refine p_goto (tgt := 11) (by decide) ?_
        exact ih _ _ (by omega)
      · skip
        refine p_iloadn_2 ?_
        refine p_iloadn_1 ?_
        refine p_icmp_ne (tgt := 42) (by decide) (fun hc37 => ?_) (fun hc37 => ?_)
        · skip
          rw [zfind_y (f := lsN P T n) (hc32) (fun z => hc37 z)]
          refine zK.blk rfl ?_
          refine p_iinc_2 (zN_inc _ 1) rfl ?_
          refine zK.blk rfl ?_
          refine p_iinc_3 (zN_inc _ 1) rfl ?_
          refine p_goto (tgt := 11) (by decide) ?_
          exact ih _ _ (by omega)
        · skip
          refine p_iloadn_3 ?_
          rw [zfind_e (f := lsN P T n) (hc32) (Classical.not_not.mp hc37)]
          exact p_iret trivial rfl rfl
set_option maxRecDepth 100000 in
set_option maxHeartbeats 4000000 in
theorem c_67 {sc : Nat × (Nat → Int32)} {d : Nat} {M : zM} {n : Nat} {P T K : Nat → Nat} {x : Int32} (hsg : sgC M n P T K) : zC 47 sc (d + 4) 67 [.ref 0, .int x] M (some (.int (fSets P T n x))) (M) := by
  unfold fSets
  refine z_enter (L := [.ref 0, .int x, .null, .null]) rfl rfl rfl ?_
  refine zK.blk rfl ?_
  refine p_iloadn_1 ?_
  refine p_iconst (v := -1) (by decide) ?_
  refine p_icmp_ge (tgt := 7) (by decide) (fun hc2 => ?_) (fun hc2 => ?_)
  · skip
    rw [if_neg (Int32.not_lt.mpr hc2)]
    refine zK.blk rfl ?_
    refine p_iconst (v := nI 0) (by decide) ?_
    refine p_istoren_2 rfl ?_
    refine p_iconst (v := nI 0) (by decide) ?_
    refine p_istoren_3 rfl ?_
    exact lp_67_11 hsg (1 <<< n) 0 0 (by omega)
  · skip
    rw [if_pos (Int32.not_le.mp hc2)]
    refine p_iconst (v := -1) (by decide) ?_
    exact p_iret trivial rfl rfl
set_option maxRecDepth 100000 in
set_option maxHeartbeats 4000000 in
theorem lp_113_16 {sc : Nat × (Nat → Int32)} {d : Nat} {M : zM} {n : Nat} {P T K : Nat → Nat} {x : Int32} (hsm : sgM M n P T K) (hx : ¬ x < -1) : ∀ (j i v : Nat), i + j = 1 <<< n → zK 47 sc (zC 47 sc (d + 3)) 113 (some (.int (zfind (lsN P T n) x j i v))) M 16 [.ref 33, .int x, .int (nI v), .int (nI i)] [] M := by
  intro j
  induction j with
  | zero =>
    intro i v hj
    obtain ⟨hth, hm, hn6, hR, hT⟩ := id hsm
    have hz := z1n_lt hn6
    refine zK.blk rfl ?_
    refine p_iloadn_3 ?_
    refine p_iconst (v := nI 1) (by decide) ?_
    refine p_aloadn_0 ?_
    refine p_geti rfl rfl (hm) ?_
    refine p_ishlN (by omega) ?_
    refine p_icmpN_ge (tgt := 50) (by decide) (by omega) (by omega) (fun hc23 => ?_) (fun hc23 => ?_)
    · skip
      refine zK.blk rfl ?_
      refine p_iloadn_1 ?_
      refine p_if_ge (tgt := 58) (by decide) (fun hc51 => ?_) (fun hc51 => ?_)
      · skip
        have hc51 := zm1' hc51
        refine zK.blk rfl ?_
        refine p_bipush (v := -9) (by decide) ?_
        refine zK.blk rfl ?_
        first | (rw [zfind_0, if_pos (by assumption)]; exact p_iret trivial rfl rfl) | (rw [zfind_0, if_neg (by assumption)]; exact p_iret trivial rfl rfl)
      · skip
        have hc51 := zm1 hx hc51
        refine p_iloadn_2 ?_
        refine p_goto (tgt := 60) (by decide) ?_
        refine zK.blk rfl ?_
        first | (rw [zfind_0, if_pos (by assumption)]; exact p_iret trivial rfl rfl) | (rw [zfind_0, if_neg (by assumption)]; exact p_iret trivial rfl rfl)
    · skip
      exact absurd hc23 (by omega) --STOP
  | succ j ih =>
    intro i v hj
    obtain ⟨hth, hm, hn6, hR, hT⟩ := id hsm
    have hz := z1n_lt hn6
    refine zK.blk rfl ?_
    refine p_iloadn_3 ?_
    refine p_iconst (v := nI 1) (by decide) ?_
    refine p_aloadn_0 ?_
    refine p_geti rfl rfl (hm) ?_
    refine p_ishlN (by omega) ?_
    refine p_icmpN_ge (tgt := 50) (by decide) (by omega) (by omega) (fun hc23 => ?_) (fun hc23 => ?_)
    · skip
      exact absurd hc23 (by omega) --STOP
    · skip
      refine p_aloadn_0 ?_
      refine p_iloadn_3 ?_
      refine p_cv1i rfl rfl rfl rfl rfl (c_112 hsm (by omega)) ?_
      refine p_ifB_eq (tgt := 44) (by decide) (fun hc31 => ?_) (fun hc31 => ?_)
      · skip
        rw [zfind_n (f := lsN P T n) (hc31)]
        refine zK.blk rfl ?_
        refine p_iinc_3 (zN_inc _ 1) rfl ?_
        refine p_goto (tgt := 16) (by decide) ?_
        exact ih _ _ (by omega)
      · skip
        refine p_iloadn_2 ?_
        refine p_iloadn_1 ?_
        refine p_icmp_ne (tgt := 41) (by decide) (fun hc36 => ?_) (fun hc36 => ?_)
        · skip
          rw [zfind_y (f := lsN P T n) (hc31) (fun z => hc36 z)]
          refine zK.blk rfl ?_
          refine p_iinc_2 (zN_inc _ 1) rfl ?_
          refine zK.blk rfl ?_
          refine p_iinc_3 (zN_inc _ 1) rfl ?_
          refine p_goto (tgt := 16) (by decide) ?_
          exact ih _ _ (by omega)
        · skip
          refine p_iloadn_3 ?_
          rw [zfind_e (f := lsN P T n) (hc31) (Classical.not_not.mp hc36)]
          exact p_iret trivial rfl rfl
set_option maxRecDepth 100000 in
set_option maxHeartbeats 4000000 in
theorem c_113 {sc : Nat × (Nat → Int32)} {d : Nat} {M : zM} {n : Nat} {P T K : Nat → Nat} {x : Int32} (hsm : sgM M n P T K) : zC 47 sc (d + 4) 113 [.ref 33, .int x] M (some (.int (fSets P T n x))) (M) := by
  obtain ⟨hth, hm, hn6, hR, hT⟩ := id hsm
  unfold fSets
  refine z_enter (L := [.ref 33, .int x, .null, .null]) rfl rfl rfl ?_
  refine zK.blk rfl ?_
  refine p_aloadn_0 ?_
  refine p_iconst (v := nI 0) (by decide) ?_
  refine p_put rfl rfl (by simp) ?_
  rw [zup_id hth]
  refine p_iloadn_1 ?_
  refine p_iconst (v := -1) (by decide) ?_
  refine p_icmp_ge (tgt := 12) (by decide) (fun hc7 => ?_) (fun hc7 => ?_)
  · skip
    rw [if_neg (Int32.not_lt.mpr hc7)]
    refine zK.blk rfl ?_
    refine p_iconst (v := nI 0) (by decide) ?_
    refine p_istoren_2 rfl ?_
    refine p_iconst (v := nI 0) (by decide) ?_
    refine p_istoren_3 rfl ?_
    exact lp_113_16 hsm (Int32.not_lt.mpr hc7) (1 <<< n) 0 0 (by omega)
  · skip
    rw [if_pos (Int32.not_le.mp hc7)]
    refine p_iconst (v := -1) (by decide) ?_
    exact p_iret trivial rfl rfl
set_option maxRecDepth 100000 in
set_option maxHeartbeats 4000000 in
theorem lp_68_11 {sc : Nat × (Nat → Int32)} {d : Nat} {M : zM}  {x : Int32} : ∀ (j i v : Nat), i + j = 16 → zK 47 sc (zC 47 sc (d + 3)) 68 (some (.int (zfind (fun t => decide (kbN 2 t = 0)) x j i v))) M 11 [.ref 0, .int x, .int (nI v), .int (nI i)] [] M := by
  intro j
  induction j with
  | zero =>
    intro i v hj
    skip
    refine zK.blk rfl ?_
    refine p_iloadn_3 ?_
    refine p_bipush (v := nI 16) (by decide) ?_
    refine p_icmpN_ge (tgt := 41) (by decide) (by omega) (by omega) (fun hc14 => ?_) (fun hc14 => ?_)
    · skip
      refine zK.blk rfl ?_
      refine p_iloadn_1 ?_
      refine p_iconst (v := -1) (by decide) ?_
      refine p_icmp_ne (tgt := 50) (by decide) (fun hc43 => ?_) (fun hc43 => ?_)
      · skip
        skip
        refine zK.blk rfl ?_
        refine p_bipush (v := -9) (by decide) ?_
        refine zK.blk rfl ?_
        first | (rw [zfind_0, if_pos (by assumption)]; exact p_iret trivial rfl rfl) | (rw [zfind_0, if_neg (by assumption)]; exact p_iret trivial rfl rfl)
      · skip
        have hc43 := Classical.not_not.mp hc43
        refine p_iloadn_2 ?_
        refine p_goto (tgt := 52) (by decide) ?_
        refine zK.blk rfl ?_
        first | (rw [zfind_0, if_pos (by assumption)]; exact p_iret trivial rfl rfl) | (rw [zfind_0, if_neg (by assumption)]; exact p_iret trivial rfl rfl)
    · skip
      exact absurd hc14 (by omega) --STOP
  | succ j ih =>
    intro i v hj
    skip
    refine zK.blk rfl ?_
    refine p_iloadn_3 ?_
    refine p_bipush (v := nI 16) (by decide) ?_
    refine p_icmpN_ge (tgt := 41) (by decide) (by omega) (by omega) (fun hc14 => ?_) (fun hc14 => ?_)
    · skip
      exact absurd hc14 (by omega) --STOP
    · skip
      refine p_iconst (v := nI 2) (by decide) ?_
      refine p_iloadn_3 ?_
      refine p_cs2i rfl rfl rfl rfl rfl (c_12 (by decide) (by have : z22 2 = 16 := (by decide); omega)) ?_
      refine p_ifN_ne (tgt := 35) (by decide) (Nat.lt_trans (kb_lt (by decide) (by have : z22 2 = 16 := (by decide); omega)) (by decide)) (fun hc22 => ?_) (fun hc22 => ?_)
      · skip
        rw [zfind_n (f := fun t => decide (kbN 2 t = 0)) (decide_eq_false hc22)]
        refine zK.blk rfl ?_
        refine p_iinc_3 (zN_inc _ 1) rfl ?_
        refine p_goto (tgt := 11) (by decide) ?_
        exact ih _ _ (by omega)
      · skip
        refine p_iloadn_2 ?_
        refine p_iloadn_1 ?_
        refine p_icmp_ne (tgt := 32) (by decide) (fun hc27 => ?_) (fun hc27 => ?_)
        · skip
          rw [zfind_y (f := fun t => decide (kbN 2 t = 0)) (decide_eq_true (Classical.not_not.mp hc22)) (fun z => hc27 z)]
          refine zK.blk rfl ?_
          refine p_iinc_2 (zN_inc _ 1) rfl ?_
          refine zK.blk rfl ?_
          refine p_iinc_3 (zN_inc _ 1) rfl ?_
          refine p_goto (tgt := 11) (by decide) ?_
          exact ih _ _ (by omega)
        · skip
          refine p_iloadn_3 ?_
          rw [zfind_e (f := fun t => decide (kbN 2 t = 0)) (decide_eq_true (Classical.not_not.mp hc22)) (Classical.not_not.mp hc27)]
          exact p_iret trivial rfl rfl
set_option maxRecDepth 100000 in
set_option maxHeartbeats 4000000 in
theorem lp_114_16 {sc : Nat × (Nat → Int32)} {d : Nat} {M : zM}  {x : Int32} (hx : ¬ x < -1) : ∀ (j i v : Nat), i + j = 16 → zK 47 sc (zC 47 sc (d + 1)) 114 (some (.int (zfind (fun t => decide (kbN 2 t = 0)) x j i v))) M 16 [.ref 33, .int x, .int (nI v), .int (nI i)] [] M := by
  intro j
  induction j with
  | zero =>
    intro i v hj
    skip
    refine zK.blk rfl ?_
    refine p_iloadn_3 ?_
    refine p_bipush (v := nI 16) (by decide) ?_
    refine p_icmpN_ge (tgt := 46) (by decide) (by omega) (by omega) (fun hc19 => ?_) (fun hc19 => ?_)
    · skip
      refine zK.blk rfl ?_
      refine p_iloadn_1 ?_
      refine p_if_ge (tgt := 54) (by decide) (fun hc47 => ?_) (fun hc47 => ?_)
      · skip
        have hc47 := zm1' hc47
        refine zK.blk rfl ?_
        refine p_bipush (v := -9) (by decide) ?_
        refine zK.blk rfl ?_
        first | (rw [zfind_0, if_pos (by assumption)]; exact p_iret trivial rfl rfl) | (rw [zfind_0, if_neg (by assumption)]; exact p_iret trivial rfl rfl)
      · skip
        have hc47 := zm1 hx hc47
        refine p_iloadn_2 ?_
        refine p_goto (tgt := 56) (by decide) ?_
        refine zK.blk rfl ?_
        first | (rw [zfind_0, if_pos (by assumption)]; exact p_iret trivial rfl rfl) | (rw [zfind_0, if_neg (by assumption)]; exact p_iret trivial rfl rfl)
    · skip
      exact absurd hc19 (by omega) --STOP
  | succ j ih =>
    intro i v hj
    skip
    refine zK.blk rfl ?_
    refine p_iloadn_3 ?_
    refine p_bipush (v := nI 16) (by decide) ?_
    refine p_icmpN_ge (tgt := 46) (by decide) (by omega) (by omega) (fun hc19 => ?_) (fun hc19 => ?_)
    · skip
      exact absurd hc19 (by omega) --STOP
    · skip
      refine p_iconst (v := nI 2) (by decide) ?_
      refine p_iloadn_3 ?_
      refine p_cs2i rfl rfl rfl rfl rfl (c_94 (by decide) (by have : z22 2 = 16 := (by decide); omega)) ?_
      refine p_ifN_ne (tgt := 40) (by decide) (Nat.lt_trans (kb_km 2 (by decide) i (by have : z22 2 = 16 := (by decide); omega)).2 (by decide)) (fun hc27 => ?_) (fun hc27 => ?_)
      · skip
        rw [zfind_n (f := fun t => decide (kbN 2 t = 0)) (decide_eq_false (by rw [(kb_km 2 (by decide) i (by have : z22 2 = 16 := (by decide); omega)).1]; exact hc27))]
        refine zK.blk rfl ?_
        refine p_iinc_3 (zN_inc _ 1) rfl ?_
        refine p_goto (tgt := 16) (by decide) ?_
        exact ih _ _ (by omega)
      · skip
        refine p_iloadn_2 ?_
        refine p_iloadn_1 ?_
        refine p_icmp_ne (tgt := 37) (by decide) (fun hc32 => ?_) (fun hc32 => ?_)
        · skip
          rw [zfind_y (f := fun t => decide (kbN 2 t = 0)) (decide_eq_true (by rw [(kb_km 2 (by decide) i (by have : z22 2 = 16 := (by decide); omega)).1]; exact Classical.not_not.mp hc27)) (fun z => hc32 z)]
          refine zK.blk rfl ?_
          refine p_iinc_2 (zN_inc _ 1) rfl ?_
          refine zK.blk rfl ?_
          refine p_iinc_3 (zN_inc _ 1) rfl ?_
          refine p_goto (tgt := 16) (by decide) ?_
          exact ih _ _ (by omega)
        · skip
          refine p_iloadn_3 ?_
          rw [zfind_e (f := fun t => decide (kbN 2 t = 0)) (decide_eq_true (by rw [(kb_km 2 (by decide) i (by have : z22 2 = 16 := (by decide); omega)).1]; exact Classical.not_not.mp hc27)) (Classical.not_not.mp hc32)]
          exact p_iret trivial rfl rfl
set_option maxRecDepth 100000 in
set_option maxHeartbeats 4000000 in
theorem c_68 {sc : Nat × (Nat → Int32)} {d : Nat} {M : zM} {x : Int32} : zC 47 sc (d + 4) 68 [.ref 0, .int x] M (some (.int (fAlone x))) (M) := by
  unfold fAlone
  refine z_enter (L := [.ref 0, .int x, .null, .null]) rfl rfl rfl ?_
  refine zK.blk rfl ?_
  refine p_iloadn_1 ?_
  refine p_iconst (v := -1) (by decide) ?_
  refine p_icmp_ge (tgt := 7) (by decide) (fun hc2 => ?_) (fun hc2 => ?_)
  · skip
    rw [if_neg (Int32.not_lt.mpr hc2)]
    refine zK.blk rfl ?_
    refine p_iconst (v := nI 0) (by decide) ?_
    refine p_istoren_2 rfl ?_
    refine p_iconst (v := nI 0) (by decide) ?_
    refine p_istoren_3 rfl ?_
    exact lp_68_11 16 0 0 (by omega)
  · skip
    rw [if_pos (Int32.not_le.mp hc2)]
    refine p_iconst (v := -1) (by decide) ?_
    exact p_iret trivial rfl rfl
set_option maxRecDepth 100000 in
set_option maxHeartbeats 4000000 in
theorem c_114 {sc : Nat × (Nat → Int32)} {d : Nat} {M : zM} {x : Int32} {n : Nat} {P T K : Nat → Nat} (hsm : sgM M n P T K) : zC 47 sc (d + 2) 114 [.ref 33, .int x] M (some (.int (fAlone x))) (M) := by
  obtain ⟨hth, hm, hn6, hR, hT⟩ := id hsm
  unfold fAlone
  refine z_enter (L := [.ref 33, .int x, .null, .null]) rfl rfl rfl ?_
  refine zK.blk rfl ?_
  refine p_aloadn_0 ?_
  refine p_iconst (v := nI 0) (by decide) ?_
  refine p_put rfl rfl (by simp) ?_
  rw [zup_id hth]
  refine p_iloadn_1 ?_
  refine p_iconst (v := -1) (by decide) ?_
  refine p_icmp_ge (tgt := 12) (by decide) (fun hc7 => ?_) (fun hc7 => ?_)
  · skip
    rw [if_neg (Int32.not_lt.mpr hc7)]
    refine zK.blk rfl ?_
    refine p_iconst (v := nI 0) (by decide) ?_
    refine p_istoren_2 rfl ?_
    refine p_iconst (v := nI 0) (by decide) ?_
    refine p_istoren_3 rfl ?_
    exact lp_114_16 (Int32.not_lt.mpr hc7) 16 0 0 (by omega)
  · skip
    rw [if_pos (Int32.not_le.mp hc7)]
    refine p_iconst (v := -1) (by decide) ?_
    exact p_iret trivial rfl rfl
