/-- what offer does -/
def ofM (rc N : Nat) (M : zM) (told : Nat) (price : Int32) (going : Nat) : zM :=
  if price < M (rc + 1) (told &&& (N - 1)) ∨ (price = M (rc + 1) (told &&& (N - 1)) ∧ nI going < M (rc + 2) (told &&& (N - 1))) then zup (zup M (rc + 1) (told &&& (N - 1)) price) (rc + 2) (told &&& (N - 1)) (nI going) else M
theorem ofM_ne {rc N : Nat} {M : zM} {told : Nat} {price : Int32} {going a : Nat} (h1 : ¬ a = rc + 1) (h2 : ¬ a = rc + 2) (b : Nat) : ofM rc N M told price going a b = M a b := by
  unfold ofM
  split
  · unfold zup; rw [if_neg h2, if_neg h1]
  · rfl
/-- a Reach whose first s tables are settled, in the order o; no join dearer than D -/
def rcI (M : zM) (rc N s : Nat) (o : Nat → Nat) (D : Int32) : Prop := M rc 1 = nI (N - 1) ∧ M rc 7 = nI s ∧ s ≤ N ∧ M rc 6 = D ∧ ∀ k, k < s → M (rc + 4) k = nI (o k) ∧ o k < N
theorem ofM_rcI {rc N s : Nat} {M : zM} {o : Nat → Nat} {D : Int32} {told : Nat} {price : Int32} {going : Nat} (h : rcI M rc N s o D) : rcI (ofM rc N M told price going) rc N s o D := by
  obtain ⟨h1, h2, h3, h4, h5⟩ := h
  refine ⟨?_, ?_, h3, ?_, fun k hk => ?_⟩
  · rw [ofM_ne (by omega) (by omega)]; exact h1
  · rw [ofM_ne (by omega) (by omega)]; exact h2
  · rw [ofM_ne (by omega) (by omega)]; exact h4
  · rw [ofM_ne (by omega) (by omega)]; exact h5 k hk
/-- joinLast, j turns from k on -/
def jlM (rc N : Nat) (o : Nat → Nat) (D : Int32) (one no : Nat) (price : Int32) (begun at0 : Nat) : Nat → Nat → zM → zM
  | 0, _, M => M
  | j + 1, k, M => if D < price + M (rc + 1) (o k) then M else jlM rc N o D one no price begun at0 j (k + 1) (ofM rc N M (pkN (o k) one no) (price + M (rc + 1) (o k)) (begun ||| (o k) <<< (8 * (2 - at0))))
theorem jlM_rcI {rc N s : Nat} {o : Nat → Nat} {D : Int32} {one no : Nat} {price : Int32} {begun at0 : Nat} : ∀ j k M, rcI M rc N s o D → rcI (jlM rc N o D one no price begun at0 j k M) rc N s o D := by
  intro j
  induction j with
  | zero => intro k M h; exact h
  | succ j ih =>
    intro k M h
    show rcI (if D < price + M (rc + 1) (o k) then M else _) rc N s o D
    split
    · exact h
    · exact ih _ _ (ofM_rcI h)
theorem jlM_ne {rc N : Nat} {o : Nat → Nat} {D : Int32} {one no : Nat} {price : Int32} {begun at0 a : Nat} (h1 : ¬ a = rc + 1) (h2 : ¬ a = rc + 2) (b : Nat) : ∀ j k M, jlM rc N o D one no price begun at0 j k M a b = M a b := by
  intro j
  induction j with
  | zero => intro k M; rfl
  | succ j ih =>
    intro k M
    show (if D < price + M (rc + 1) (o k) then M else _) a b = _
    split
    · rfl
    · rw [ih, ofM_ne h1 h2]
set_option maxRecDepth 100000 in
set_option maxHeartbeats 4000000 in
theorem c_48 {sc : Nat × (Nat → Int32)} {d : Nat} {M : zM} {rc n N told going : Nat} {price : Int32} (hrc : zrc rc n N) (hfu : M rc 1 = nI (N - 1)) : zC 47 sc (d + 1) 48 [.ref rc, .int (nI told), .int price, .int (nI going)] M (none) (ofM rc N M told price going) := by
  have hN := zl_N hrc
  have hx : told &&& (N - 1) < N := zand_r told (by omega)
  refine z_enter (L := [.ref rc, .int (nI told), .int price, .int (nI going), .null]) rfl rfl rfl ?_
  refine zK.blk rfl ?_
  refine p_iloadn_1 ?_
  refine p_aloadn_0 ?_
  refine p_geti (zl_r hrc) rfl (hfu) ?_
  refine p_iandN ?_
  refine p_istore_4 rfl ?_
  refine p_iloadn_2 ?_
  refine p_aloadn_0 ?_
  refine p_getr (zl_r hrc) rfl ?_
  refine p_iload_4 ?_
  refine p_iald (zl_a2 hrc) (by omega) (zl_n hrc) (rfl) ?_
  refine p_icmp_lt (tgt := 41) (by decide) (fun hc16 => ?_) (fun hc16 => ?_)
  · skip
    rw [show ofM rc N M told price going = zup (zup M (rc + 1) (told &&& (N - 1)) price) (rc + 2) (told &&& (N - 1)) (nI going) from if_pos (Or.inl hc16)]
    refine zK.blk rfl ?_
    refine p_aloadn_0 ?_
    refine p_getr (zl_r hrc) rfl ?_
    refine p_iload_4 ?_
    refine p_iloadn_2 ?_
    refine p_iast (zl_a2 hrc) (by omega) (zl_n hrc) ?_
    refine p_aloadn_0 ?_
    refine p_getr (zl_r hrc) rfl ?_
    refine p_iload_4 ?_
    refine p_iloadn_3 ?_
    refine p_iast (zl_a3 hrc) (by omega) (zl_n hrc) ?_
    refine zK.blk rfl ?_
    exact p_vret trivial rfl rfl
  · skip
    refine p_iloadn_2 ?_
    refine p_aloadn_0 ?_
    refine p_getr (zl_r hrc) rfl ?_
    refine p_iload_4 ?_
    refine p_iald (zl_a2 hrc) (by omega) (zl_n hrc) (rfl) ?_
    refine p_icmp_ne (tgt := 57) (by decide) (fun hc27 => ?_) (fun hc27 => ?_)
    · skip
      rw [show ofM rc N M told price going = M from if_neg (fun z => z.elim hc16 (fun w => hc27 w.1))]
      refine zK.blk rfl ?_
      exact p_vret trivial rfl rfl
    · skip
      refine p_iloadn_3 ?_
      refine p_aloadn_0 ?_
      refine p_getr (zl_r hrc) rfl ?_
      refine p_iload_4 ?_
      refine p_iald (zl_a3 hrc) (by omega) (zl_n hrc) (rfl) ?_
      refine p_icmp_ge (tgt := 57) (by decide) (fun hc38 => ?_) (fun hc38 => ?_)
      · skip
        rw [show ofM rc N M told price going = M from if_neg (fun z => z.elim hc16 (fun w => Int32.not_lt.mpr hc38 w.2))]
        refine zK.blk rfl ?_
        exact p_vret trivial rfl rfl
      · skip
        rw [show ofM rc N M told price going = zup (zup M (rc + 1) (told &&& (N - 1)) price) (rc + 2) (told &&& (N - 1)) (nI going) from if_pos (Or.inr ⟨Classical.not_not.mp hc27, Int32.not_le.mp hc38⟩)]
        refine zK.blk rfl ?_
        refine p_aloadn_0 ?_
        refine p_getr (zl_r hrc) rfl ?_
        refine p_iload_4 ?_
        refine p_iloadn_2 ?_
        refine p_iast (zl_a2 hrc) (by omega) (zl_n hrc) ?_
        refine p_aloadn_0 ?_
        refine p_getr (zl_r hrc) rfl ?_
        refine p_iload_4 ?_
        refine p_iloadn_3 ?_
        refine p_iast (zl_a3 hrc) (by omega) (zl_n hrc) ?_
        refine zK.blk rfl ?_
        exact p_vret trivial rfl rfl
set_option maxRecDepth 100000 in
set_option maxHeartbeats 4000000 in
theorem lp_46_3 {sc : Nat × (Nat → Int32)} {d : Nat} {rc n N s : Nat} {o : Nat → Nat} {D : Int32} {one no begun at0 : Nat} {price : Int32} (hrc : zrc rc n N) (hat : at0 < 3) : ∀ (j k : Nat) (M : zM), rcI M rc N s o D → k + j = s → zK 47 sc (zC 47 sc (d + 2)) 46 none (jlM rc N o D one no price begun at0 j k M) 3 [.ref rc, .int (nI one), .int (nI no), .int price, .int (nI begun), .int (nI at0), .int (nI k), .null, .null] [] M := by
  intro j
  induction j with
  | zero =>
    intro k M hI hj
    have hN := zl_N hrc
    have hs := hI.2.2.1
    refine zK.blk rfl ?_
    refine p_iload_6 ?_
    refine p_aloadn_0 ?_
    refine p_geti (zl_r hrc) rfl (hI.2.1) ?_
    refine p_icmpN_ge (tgt := 72) (by decide) (by omega) (by omega) (fun hc9 => ?_) (fun hc9 => ?_)
    · skip
      refine zK.blk rfl ?_
      exact p_vret trivial rfl rfl
    · skip
      exact absurd hc9 (by omega) --STOP
  | succ j ih =>
    intro k M hI hj
    have hN := zl_N hrc
    have hs := hI.2.2.1
    have hok := (hI.2.2.2.2 k (by omega)).2
    refine zK.blk rfl ?_
    refine p_iload_6 ?_
    refine p_aloadn_0 ?_
    refine p_geti (zl_r hrc) rfl (hI.2.1) ?_
    refine p_icmpN_ge (tgt := 72) (by decide) (by omega) (by omega) (fun hc9 => ?_) (fun hc9 => ?_)
    · skip
      exact absurd hc9 (by omega) --STOP
    · skip
      refine p_aloadn_0 ?_
      refine p_getr (zl_r hrc) rfl ?_
      refine p_iload_6 ?_
      refine p_iald (zl_a5 hrc) (by omega) (zl_n hrc) ((hI.2.2.2.2 k (by omega)).1) ?_
      refine p_istore_7 rfl ?_
      refine p_iloadn_3 ?_
      refine p_aloadn_0 ?_
      refine p_getr (zl_r hrc) rfl ?_
      refine p_iload_7 ?_
      refine p_iald (zl_a2 hrc) (by omega) (zl_n hrc) (rfl) ?_
      refine p_iadd ?_
      refine p_istore_8 rfl ?_
      refine p_iload_8 ?_
      refine p_aloadn_0 ?_
      refine p_geti (zl_r hrc) rfl (hI.2.2.2.1) ?_
      refine p_icmp_le (tgt := 44) (by decide) (fun hc38 => ?_) (fun hc38 => ?_)
      · skip
        rw [show jlM rc N o D one no price begun at0 (j + 1) k M = jlM rc N o D one no price begun at0 j (k + 1) (ofM rc N M (pkN (o k) one no) (price + M (rc + 1) (o k)) (begun ||| (o k) <<< (8 * (2 - at0)))) by (show (if D < price + M (rc + 1) (o k) then M else _) = _; rw [if_neg (Int32.not_lt.mpr hc38)])]
        refine zK.blk rfl ?_
        refine p_aloadn_0 ?_
        refine p_iload_7 ?_
        refine p_iloadn_1 ?_
        refine p_iloadn_2 ?_
        refine p_cs3i rfl rfl rfl rfl rfl (c_5) ?_
        refine p_iload_8 ?_
        refine p_iload_4 ?_
        refine p_iload_5 ?_
        refine p_iload_7 ?_
        refine p_cs3i rfl rfl rfl rfl rfl (c_16 hat) ?_
        refine p_cv3v rfl rfl rfl rfl (zl_r hrc) (c_48 hrc hI.1) ?_
        refine p_iinc_6 (zN_inc _ 1) rfl ?_
        refine p_goto (tgt := 3) (by decide) ?_
        refine zK.forget _ ?_ (ih (k + 1) _ (ofM_rcI hI) (by omega))
        exact ⟨Or.inl rfl, Or.inl rfl, Or.inl rfl, Or.inl rfl, Or.inl rfl, Or.inl rfl, Or.inl rfl, Or.inr rfl, Or.inr rfl, trivial⟩
      · skip
        rw [show jlM rc N o D one no price begun at0 (j + 1) k M = M by (show (if D < price + M (rc + 1) (o k) then M else _) = _; rw [if_pos (Int32.not_le.mp hc38)])]
        refine p_goto (tgt := 72) (by decide) ?_
        refine zK.blk rfl ?_
        exact p_vret trivial rfl rfl
set_option maxRecDepth 100000 in
set_option maxHeartbeats 4000000 in
theorem c_46 {sc : Nat × (Nat → Int32)} {d : Nat} {M : zM} {rc n N s one no begun at0 : Nat} {o : Nat → Nat} {D price : Int32} (hrc : zrc rc n N) (hI : rcI M rc N s o D) (hat : at0 < 3) : zC 47 sc (d + 3) 46 [.ref rc, .int (nI one), .int (nI no), .int price, .int (nI begun), .int (nI at0)] M (none) (jlM rc N o D one no price begun at0 s 0 M) := by
  refine z_enter (L := [.ref rc, .int (nI one), .int (nI no), .int price, .int (nI begun), .int (nI at0), .null, .null, .null]) rfl rfl rfl ?_
  refine zK.blk rfl ?_
  refine p_iconst (v := nI 0) (by decide) ?_
  refine p_istore_6 rfl ?_
  exact lp_46_3 hrc hat s 0 M hI (by omega)
