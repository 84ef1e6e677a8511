/-- all costs unknown, for tables i .. i + j - 1 -/
def bgF (rc : Nat) (M : zM) (i j : Nat) : zM := fun a b => if i ≤ b ∧ b < i + j then (if a = rc + 1 then nI 1073741824 else if a = rc + 2 then -1 else if a = rc + 3 then nI 0 else M a b) else M a b
theorem bgF_0 {rc : Nat} {M : zM} {i : Nat} : bgF rc M i 0 = M := by
  funext a b
  unfold bgF
  rw [if_neg (by omega)]
theorem bgF_s {rc : Nat} {M : zM} {i j : Nat} : bgF rc (zup (zup (zup M (rc + 1) i (nI 1073741824)) (rc + 2) i (-1)) (rc + 3) i (nI 0)) (i + 1) j = bgF rc M i (j + 1) := by
  funext a b
  unfold bgF zup
  repeat' split
  all_goals first | rfl | (exfalso; omega)
theorem bgF_ne {rc : Nat} {M : zM} {i j a : Nat} (h1 : ¬ a = rc + 1) (h2 : ¬ a = rc + 2) (h3 : ¬ a = rc + 3) (b : Nat) : bgF rc M i j a b = M a b := by
  unfold bgF
  rw [if_neg h1, if_neg h2, if_neg h3]
  split <;> rfl
def bg2 (rc N : Nat) : Nat → Nat → zM → zM
  | 0, _, M => M
  | j + 1, i, M => bg2 rc N j (i + 1) (zup M (rc + 1) (zpl i &&& (N - 1)) (nI 0))
theorem bg2_ne {rc N a : Nat} (h1 : ¬ a = rc + 1) (b : Nat) : ∀ j i M, bg2 rc N j i M a b = M a b := by
  intro j
  induction j with
  | zero => intro i M; rfl
  | succ j ih =>
    intro i M
    show bg2 rc N j (i + 1) _ a b = _
    rw [ih]
    unfold zup
    rw [if_neg h1]
def bg3 (rc N : Nat) (P T K : Nat → Nat) : Nat → Nat → zM → zM
  | 0, _, M => M
  | j + 1, i, M => bg3 rc N P T K j (i + 1) (if P i = 0 then ofM rc N M (T i * zFF) (nI (K i)) (i <<< 24) else M)
theorem bg3_ne {rc N a : Nat} {P T K : Nat → Nat} (h1 : ¬ a = rc + 1) (h2 : ¬ a = rc + 2) (b : Nat) : ∀ j i M, bg3 rc N P T K j i M a b = M a b := by
  intro j
  induction j with
  | zero => intro i M; rfl
  | succ j ih =>
    intro i M
    show bg3 rc N P T K j (i + 1) _ a b = _
    rw [ih]
    split
    · exact ofM_ne h1 h2 b
    · rfl
theorem sg_frame {M M' : zM} {n : Nat} {P T K : Nat → Nat} (h : ∀ a b, a ≤ 8 → M' a b = M a b) (hs : sgC M n P T K) : sgC M' n P T K := by
  obtain ⟨h1, h2, h3, h4⟩ := hs
  refine ⟨h1, by rw [h 1 1 (by decide)]; exact h2, h3, fun i hi => ?_⟩
  have := h4 i hi
  rw [h (3 + i) 0 (by omega), h (3 + i) 1 (by omega), h (3 + i) 2 (by omega), h (3 + i) 3 (by omega), h (3 + i) 4 (by omega)]
  exact this
/-- begin -/
def bgM (rc n N m : Nat) (P T K : Nat → Nat) (M : zM) : zM := bg3 rc N P T K m 0 (bg2 rc N n 0 (bgF rc (zup M rc 7 (nI 0)) 0 N))
set_option maxRecDepth 100000 in
set_option maxHeartbeats 4000000 in
theorem lp_42_7 {sc : Nat × (Nat → Int32)} {d : Nat} {r : Option Value} {M' : zM} {rc n N : Nat} (hrc : zrc rc n N) : ∀ (j i : Nat) (M : zM), M rc 1 = nI (N - 1) → i + j = N → zK 47 sc (zC 47 sc (d + 1)) 42 r M' 43 [.ref rc, .ref 1, .int (nI N), .null] [] (bgF rc M i j) → zK 47 sc (zC 47 sc (d + 1)) 42 r M' 7 [.ref rc, .ref 1, .int (nI i), .null] [] M := by
  intro j
  induction j with
  | zero =>
    intro i M hF hj hk
    have hN := zl_N hrc
    have hin : i = N := by omega
    subst hin
    rw [bgF_0] at hk
    refine zK.blk rfl ?_
    refine p_iloadn_2 ?_
    refine p_aloadn_0 ?_
    refine p_geti (zl_r hrc) rfl (hF) ?_
    refine p_icmpN_gt (tgt := 43) (by decide) (by omega) (by omega) (fun hc12 => ?_) (fun hc12 => ?_)
    · skip
      exact hk
    · skip
      exact absurd hc12 (by omega) --STOP
  | succ j ih =>
    intro i M hF hj hk
    have hN := zl_N hrc
    rw [← bgF_s] at hk
    refine zK.blk rfl ?_
    refine p_iloadn_2 ?_
    refine p_aloadn_0 ?_
    refine p_geti (zl_r hrc) rfl hF ?_
    refine p_icmpN_gt (tgt := 43) (by decide) (by omega) (by omega) (fun hc12 => ?_) (fun hc12 => ?_)
    · skip
      exact absurd hc12 (by omega) --STOP
    · skip
      refine p_aloadn_0 ?_
      refine p_getr (zl_r hrc) rfl ?_
      refine p_iloadn_2 ?_
      refine p_ldc ?_
      refine p_iast (zl_a2 hrc) (by omega) (zl_n hrc) ?_
      refine p_aloadn_0 ?_
      refine p_getr (zl_r hrc) rfl ?_
      refine p_iloadn_2 ?_
      refine p_iconst (v := -1) (by decide) ?_
      refine p_iast (zl_a3 hrc) (by omega) (zl_n hrc) ?_
      refine p_aloadn_0 ?_
      refine p_getr (zl_r hrc) rfl ?_
      refine p_iloadn_2 ?_
      refine p_iconst (v := nI 0) (by decide) ?_
      refine p_zast (v := nI 0) (zl_a4 hrc) (by omega) (zl_n hrc) (by decide) ?_
      refine p_iinc_2 (zN_inc _ 1) rfl ?_
      refine p_goto (tgt := 7) (by decide) ?_
      exact ih (i + 1) _ (by simp [zup]; exact hF) (by omega) hk
set_option maxRecDepth 100000 in
set_option maxHeartbeats 4000000 in
theorem lp_42_45 {sc : Nat × (Nat → Int32)} {d : Nat} {r : Option Value} {M' : zM} {rc n N : Nat} (hrc : zrc rc n N) : ∀ (j i : Nat) (M : zM), (M rc 1 = nI (N - 1) ∧ M rc 0 = nI n) → i + j = n → zK 47 sc (zC 47 sc (d + 1)) 42 r M' 74 [.ref rc, .ref 1, .int (nI n), .null] [] (bg2 rc N j i M) → zK 47 sc (zC 47 sc (d + 1)) 42 r M' 45 [.ref rc, .ref 1, .int (nI i), .null] [] M := by
  intro j
  induction j with
  | zero =>
    intro i M hF hj hk
    have hN := zl_N hrc
    have hin : i = n := by omega
    subst hin
    skip
    refine zK.blk rfl ?_
    refine p_iloadn_2 ?_
    refine p_aloadn_0 ?_
    refine p_geti (zl_r hrc) rfl (hF.2) ?_
    refine p_icmpN_ge (tgt := 74) (by decide) (by omega) (by omega) (fun hc50 => ?_) (fun hc50 => ?_)
    · skip
      exact hk
    · skip
      exact absurd hc50 (by omega) --STOP
  | succ j ih =>
    intro i M hF hj hk
    have hN := zl_N hrc
    skip
    have hx : zpl i &&& (N - 1) < N := zand_r _ (by omega)
    refine zK.blk rfl ?_
    refine p_iloadn_2 ?_
    refine p_aloadn_0 ?_
    refine p_geti (zl_r hrc) rfl (hF.2) ?_
    refine p_icmpN_ge (tgt := 74) (by decide) (by omega) (by omega) (fun hc50 => ?_) (fun hc50 => ?_)
    · skip
      exact absurd hc50 (by omega) --STOP
    · skip
      refine p_aloadn_0 ?_
      refine p_getr (zl_r hrc) rfl ?_
      refine p_iloadn_2 ?_
      refine p_cs1i rfl rfl rfl rfl rfl (c_2 (by omega)) ?_
      refine p_aloadn_0 ?_
      refine p_geti (zl_r hrc) rfl (hF.1) ?_
      refine p_iandN ?_
      refine p_iconst (v := nI 0) (by decide) ?_
      refine p_iast (zl_a2 hrc) (by omega) (zl_n hrc) ?_
      refine p_iinc_2 (zN_inc _ 1) rfl ?_
      refine p_goto (tgt := 45) (by decide) ?_
      exact ih (i + 1) _ ⟨by simp [zup]; exact hF.1, by simp [zup]; exact hF.2⟩ (by omega) hk
set_option maxRecDepth 100000 in
set_option maxHeartbeats 4000000 in
theorem lp_42_76 {sc : Nat × (Nat → Int32)} {d : Nat} {rc n N m : Nat} {P T K : Nat → Nat} (hrc : zrc rc n N) : ∀ (j i : Nat) (M : zM), M rc 1 = nI (N - 1) → sgC M m P T K → i + j = m → zK 47 sc (zC 47 sc (d + 1)) 42 none (bg3 rc N P T K j i M) 76 [.ref rc, .ref 1, .int (nI i), .null] [] M := by
  intro j
  induction j with
  | zero =>
    intro i M hF hsg hj
    obtain ⟨hn6, hn, hR, hS⟩ := id hsg
    refine zK.blk rfl ?_
    refine p_iloadn_2 ?_
    refine p_aloadn_1 ?_
    refine p_geti rfl rfl (hn) ?_
    refine p_icmpN_ge (tgt := 121) (by decide) (by omega) (by omega) (fun hc81 => ?_) (fun hc81 => ?_)
    · skip
      refine zK.blk rfl ?_
      exact p_vret trivial rfl rfl
    · skip
      exact absurd hc81 (by omega) --STOP
  | succ j ih =>
    intro i M hF hsg hj
    show zK 47 sc (zC 47 sc (d + 1)) 42 none (bg3 rc N P T K j (i + 1) (if P i = 0 then ofM rc N M (T i * zFF) (nI (K i)) (i <<< 24) else M)) 76 _ _ _
    obtain ⟨hn6, hn, hR, hS⟩ := id hsg
    have hP := hR i (by omega)
    have hr9 := zrc_ge hrc
    refine zK.blk rfl ?_
    refine p_iloadn_2 ?_
    refine p_aloadn_1 ?_
    refine p_geti rfl rfl (hn) ?_
    refine p_icmpN_ge (tgt := 121) (by decide) (by omega) (by omega) (fun hc81 => ?_) (fun hc81 => ?_)
    · skip
      exact absurd hc81 (by omega) --STOP
    · skip
      refine p_aloadn_1 ?_
      refine p_getr rfl rfl ?_
      refine p_iloadn_2 ?_
      refine p_aald rfl (by omega) (by decide) (zget_sg (by omega)) ?_
      refine p_astoren_3 rfl ?_
      refine p_aloadn_3 ?_
      refine p_geti (zlay_sg (by omega)) rfl ((hS _ (by omega)).1) ?_
      refine p_ifN_ne (tgt := 115) (by decide) (by omega) (fun hc95 => ?_) (fun hc95 => ?_)
      · skip
        rw [if_neg hc95]
        refine zK.blk rfl ?_
        refine p_iinc_2 (zN_inc _ 1) rfl ?_
        refine p_goto (tgt := 76) (by decide) ?_
        refine zK.forget _ ?_ (ih (i + 1) _ (by first | exact hF | (rw [ofM_ne (by omega) (by omega)]; exact hF)) (by first | exact hsg | exact sg_frame (fun a b h => ofM_ne (by omega) (by omega) b) hsg) (by omega))
        exact ⟨Or.inl rfl, Or.inl rfl, Or.inl rfl, Or.inr rfl, trivial⟩
      · skip
        rw [if_pos (Classical.not_not.mp hc95)]
        have hT2 : T i < 2 := by (have h9 := hP.2.1; rw [Classical.not_not.mp hc95] at h9; exact h9)
        refine p_aloadn_0 ?_
        refine p_aloadn_3 ?_
        refine p_geti (zlay_sg (by omega)) rfl ((hS _ (by omega)).2.1) ?_
        refine p_ineg (zN_neg hT2) ?_
        refine p_aloadn_3 ?_
        refine p_geti (zlay_sg (by omega)) rfl ((hS _ (by omega)).2.2.1) ?_
        refine p_iloadn_2 ?_
        refine p_cs1i rfl rfl rfl rfl rfl (c_15) ?_
        refine p_cv3v rfl rfl rfl rfl (zl_r hrc) (c_48 hrc hF) ?_
        refine zK.blk rfl ?_
        refine p_iinc_2 (zN_inc _ 1) rfl ?_
        refine p_goto (tgt := 76) (by decide) ?_
        refine zK.forget _ ?_ (ih (i + 1) _ (by first | exact hF | (rw [ofM_ne (by omega) (by omega)]; exact hF)) (by first | exact hsg | exact sg_frame (fun a b h => ofM_ne (by omega) (by omega) b) hsg) (by omega))
        exact ⟨Or.inl rfl, Or.inl rfl, Or.inl rfl, Or.inr rfl, trivial⟩
set_option maxRecDepth 100000 in
set_option maxHeartbeats 4000000 in
theorem c_42 {sc : Nat × (Nat → Int32)} {d : Nat} {M : zM} {rc n N m : Nat} {P T K : Nat → Nat} (hrc : zrc rc n N) (hF : M rc 1 = nI (N - 1)) (h0 : M rc 0 = nI n) (hsg : sgC M m P T K) : zC 47 sc (d + 2) 42 [.ref rc, .ref 1] M (none) (bgM rc n N m P T K M) := by
  have hr9 := zrc_ge hrc
  refine z_enter (L := [.ref rc, .ref 1, .null, .null]) rfl rfl rfl ?_
  refine zK.blk rfl ?_
  refine p_aloadn_0 ?_
  refine p_iconst (v := nI 0) (by decide) ?_
  refine p_put (zl_r hrc) rfl (by simp) ?_
  refine p_iconst (v := nI 0) (by decide) ?_
  refine p_istoren_2 rfl ?_
  refine lp_42_7 hrc N 0 _ (by simp [zup]; exact hF) (by omega) ?_
  refine zK.blk rfl ?_
  refine p_iconst (v := nI 0) (by decide) ?_
  refine p_istoren_2 rfl ?_
  refine lp_42_45 hrc n 0 _ ⟨by rw [bgF_ne (by omega) (by omega) (by omega)]; simp [zup]; exact hF, by rw [bgF_ne (by omega) (by omega) (by omega)]; simp [zup]; exact h0⟩ (by omega) ?_
  refine zK.blk rfl ?_
  refine p_iconst (v := nI 0) (by decide) ?_
  refine p_istoren_2 rfl ?_
  exact lp_42_76 hrc m 0 _ (by rw [bg2_ne (by omega), bgF_ne (by omega) (by omega) (by omega)]; simp [zup]; exact hF) (sg_frame (fun a b h => by rw [bg2_ne (by omega), bgF_ne (by omega) (by omega) (by omega)]; unfold zup; rw [if_neg (by omega)]) hsg) (by omega)
