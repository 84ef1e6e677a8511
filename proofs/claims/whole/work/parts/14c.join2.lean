/-- joinAt's turns -/
def jaM (rc N s : Nat) (o : Nat → Nat) (D : Int32) (pl ne sa ta tg : Nat) (price : Int32) (begun se th : Nat) : Nat → Nat → zM → zM
  | 0, _, M => M
  | j + 1, k, M => if D < price + M (rc + 1) (o k) then M else jaM rc N s o D pl ne sa ta tg price begun se th j (k + 1) (if pl < 3 then ofM rc N M (pkN (o k) sa ne) (price + M (rc + 1) (o k)) (begun ||| (o k) <<< (8 * (2 - se))) else jlM rc N o D (pkN (o k) tg ta) (pkN (o k) sa ne) (price + M (rc + 1) (o k)) (begun ||| (o k) <<< (8 * (2 - se))) th s 0 M)
theorem jaM_rcI {rc N s : Nat} {o : Nat → Nat} {D : Int32} {pl ne sa ta tg : Nat} {price : Int32} {begun se th : Nat} : ∀ j k M, rcI M rc N s o D → rcI (jaM rc N s o D pl ne sa ta tg price begun se th j k M) rc N s o D := by
  intro j
  induction j with
  | zero => intro k M h; exact h
  | succ j ih =>
    intro k M h
    show rcI (if D < price + M (rc + 1) (o k) then M else _) rc N s o D
    split
    · exact h
    · refine ih _ _ ?_
      split
      · exact ofM_rcI h
      · exact jlM_rcI _ _ _ h
theorem jaM_ne {rc N s : Nat} {o : Nat → Nat} {D : Int32} {pl ne sa ta tg : Nat} {price : Int32} {begun se th a : Nat} (h1 : ¬ a = rc + 1) (h2 : ¬ a = rc + 2) (b : Nat) : ∀ j k M, jaM rc N s o D pl ne sa ta tg price begun se th j k M a b = M a b := by
  intro j
  induction j with
  | zero => intro k M; rfl
  | succ j ih =>
    intro k M
    show (if D < price + M (rc + 1) (o k) then M else _) a b = _
    split
    · rfl
    · rw [ih]
      split
      · rw [ofM_ne h1 h2]
      · rw [jlM_ne h1 h2]
def zse (at0 : Nat) : Nat := if at0 = 0 then 1 else 0
def zth (at0 : Nat) : Nat := if at0 = 2 then 1 else 2
/-- joinAt -/
def jAM (rc N s : Nat) (o : Nat → Nat) (D : Int32) (pl kc w begun nx at0 : Nat) (M : zM) : zM :=
  if pl < 2 then ofM rc N M (lfN w nx at0 0) (nI kc + M (rc + 1) nx) begun
  else jaM rc N s o D pl (lfN w nx at0 0) (lfN w nx at0 (1 <<< zse at0)) (lfN w nx at0 (1 <<< zth at0)) (lfN w nx at0 (1 <<< zse at0 ||| 1 <<< zth at0)) (nI kc + M (rc + 1) nx) begun (zse at0) (zth at0) s 0 M
theorem jAM_rcI {rc N s : Nat} {o : Nat → Nat} {D : Int32} {pl kc w begun nx at0 : Nat} {M : zM} (h : rcI M rc N s o D) : rcI (jAM rc N s o D pl kc w begun nx at0 M) rc N s o D := by
  unfold jAM
  split
  · exact ofM_rcI h
  · exact jaM_rcI _ _ _ h
theorem jAM_ne {rc N s : Nat} {o : Nat → Nat} {D : Int32} {pl kc w begun nx at0 a : Nat} {M : zM} (h1 : ¬ a = rc + 1) (h2 : ¬ a = rc + 2) (b : Nat) : jAM rc N s o D pl kc w begun nx at0 M a b = M a b := by
  unfold jAM
  split
  · exact ofM_ne h1 h2 b
  · exact jaM_ne h1 h2 b _ _ _
/-- join, j places from at0 on -/
def jnM (rc N s : Nat) (o : Nat → Nat) (D : Int32) (pl kc w l nx : Nat) : Nat → Nat → zM → zM
  | 0, _, M => M
  | j + 1, at0, M => jnM rc N s o D pl kc w l nx j (at0 + 1) (jAM rc N s o D pl kc w (l <<< 24 ||| nx <<< (8 * (2 - at0))) nx at0 M)
theorem jnM_rcI {rc N s : Nat} {o : Nat → Nat} {D : Int32} {pl kc w l nx : Nat} : ∀ j at0 M, rcI M rc N s o D → rcI (jnM rc N s o D pl kc w l nx j at0 M) rc N s o D := by
  intro j
  induction j with
  | zero => intro k M h; exact h
  | succ j ih => intro k M h; exact ih _ _ (jAM_rcI h)
theorem jnM_ne {rc N s : Nat} {o : Nat → Nat} {D : Int32} {pl kc w l nx a : Nat} (h1 : ¬ a = rc + 1) (h2 : ¬ a = rc + 2) (b : Nat) : ∀ j at0 M, jnM rc N s o D pl kc w l nx j at0 M a b = M a b := by
  intro j
  induction j with
  | zero => intro k M; rfl
  | succ j ih =>
    intro k M
    show jnM rc N s o D pl kc w l nx j (k + 1) _ a b = _
    rw [ih, jAM_ne h1 h2]
theorem zrc_ge {rc n N : Nat} (h : zrc rc n N) : 9 ≤ rc := by rcases h with ⟨rfl, -, -⟩ | ⟨rfl, -, -⟩ | ⟨rfl, -, -⟩ <;> decide
set_option maxRecDepth 100000 in
set_option maxHeartbeats 4000000 in
theorem lp_45_113 {sc : Nat × (Nat → Int32)} {d : Nat} {rc n N s i pl ne sa ta tg begun nx at0 se th : Nat} {o : Nat → Nat} {D price : Int32} (hrc : zrc rc n N) (hi : i < 6) (hpl : pl < 4) (hse : se < 3) (hth : th < 3) : ∀ (j k : Nat) (M : zM), rcI M rc N s o D → M (3 + i) 0 = nI pl → k + j = s → zK 47 sc (zC 47 sc (d + 3)) 45 none (jaM rc N s o D pl ne sa ta tg price begun se th j k M) 113 [.ref rc, .ref (3 + i), .int (nI begun), .int (nI nx), .int (nI at0), .int (nI se), .int (nI th), .int (nI ne), .int (nI sa), .int (nI ta), .int (nI tg), .int price, .int (nI k), .null, .null, .null, .null] [] M := by
  intro j
  induction j with
  | zero =>
    intro k M hI h0 hj
    have hN := zl_N hrc
    have hs := hI.2.2.1
    refine zK.blk rfl ?_
    refine p_iload_12 ?_
    refine p_aloadn_0 ?_
    refine p_geti (zl_r hrc) rfl (hI.2.1) ?_
    refine p_icmpN_ge (tgt := 224) (by decide) (by omega) (by omega) (fun hc119 => ?_) (fun hc119 => ?_)
    · skip
      refine zK.blk rfl ?_
      exact p_vret trivial rfl rfl
    · skip
      exact absurd hc119 (by omega) --STOP
  | succ j ih =>
    intro k M hI h0 hj
    have hN := zl_N hrc
    have hs := hI.2.2.1
    have hok := (hI.2.2.2.2 k (by omega)).2
    have hr9 := zrc_ge hrc
    refine zK.blk rfl ?_
    refine p_iload_12 ?_
    refine p_aloadn_0 ?_
    refine p_geti (zl_r hrc) rfl (hI.2.1) ?_
    refine p_icmpN_ge (tgt := 224) (by decide) (by omega) (by omega) (fun hc119 => ?_) (fun hc119 => ?_)
    · skip
      exact absurd hc119 (by omega) --STOP
    · skip
      refine p_aloadn_0 ?_
      refine p_getr (zl_r hrc) rfl ?_
      refine p_iload_12 ?_
      refine p_iald (zl_a5 hrc) (by omega) (zl_n hrc) ((hI.2.2.2.2 k (by omega)).1) ?_
      refine p_istore_13 rfl ?_
      refine p_iload_11 ?_
      refine p_aloadn_0 ?_
      refine p_getr (zl_r hrc) rfl ?_
      refine p_iload_13 ?_
      refine p_iald (zl_a2 hrc) (by omega) (zl_n hrc) (rfl) ?_
      refine p_iadd ?_
      refine p_istore_14 rfl ?_
      refine p_iload_14 ?_
      refine p_aloadn_0 ?_
      refine p_geti (zl_r hrc) rfl (hI.2.2.2.1) ?_
      refine p_icmp_le (tgt := 155) (by decide) (fun hc149 => ?_) (fun hc149 => ?_)
      · skip
        rw [show jaM rc N s o D pl ne sa ta tg price begun se th (j + 1) k M = jaM rc N s o D pl ne sa ta tg price begun se th j (k + 1) (if pl < 3 then ofM rc N M (pkN (o k) sa ne) (price + M (rc + 1) (o k)) (begun ||| (o k) <<< (8 * (2 - se))) else jlM rc N o D (pkN (o k) tg ta) (pkN (o k) sa ne) (price + M (rc + 1) (o k)) (begun ||| (o k) <<< (8 * (2 - se))) th s 0 M) by (show (if D < price + M (rc + 1) (o k) then M else _) = _; rw [if_neg (Int32.not_lt.mpr hc149)])]
        refine zK.blk rfl ?_
        refine p_iload_13 ?_
        refine p_iload_8 ?_
        refine p_iload_7 ?_
        refine p_cs3i rfl rfl rfl rfl rfl (c_5) ?_
        refine p_istore_15 rfl ?_
        refine p_iloadn_2 ?_
        refine p_iload_5 ?_
        refine p_iload_13 ?_
        refine p_cs3i rfl rfl rfl rfl rfl (c_16 hse) ?_
        refine p_istore_16 rfl ?_
        refine p_aloadn_1 ?_
        refine p_geti (zlay_sg (by omega)) rfl (h0) ?_
        refine p_iconst (v := nI 3) (by decide) ?_
        refine p_icmpN_ge (tgt := 197) (by decide) (by omega) (by omega) (fun hc181 => ?_) (fun hc181 => ?_)
        · skip
          rw [if_neg (show ¬ pl < 3 by omega)]
          refine zK.blk rfl ?_
          refine p_aloadn_0 ?_
          refine p_iload_13 ?_
          refine p_iload_10 ?_
          refine p_iload_9 ?_
          refine p_cs3i rfl rfl rfl rfl rfl (c_5) ?_
          refine p_iload_15 ?_
          refine p_iload_14 ?_
          refine p_iload_16 ?_
          refine p_iload_6 ?_
          refine p_cv5v rfl rfl rfl rfl (zl_r hrc) (c_46 hrc hI hth) ?_
          refine zK.blk rfl ?_
          refine p_iinc_12 (zN_inc _ 1) rfl ?_
          refine p_goto (tgt := 113) (by decide) ?_
          refine zK.forget _ ?_ (ih (k + 1) _ (by first | exact ofM_rcI hI | exact jlM_rcI _ _ _ hI) (by first | (rw [ofM_ne (by omega) (by omega)]; exact h0) | (rw [jlM_ne (by omega) (by omega)]; exact h0)) (by omega))
          exact ⟨Or.inl rfl, Or.inl rfl, Or.inl rfl, Or.inl rfl, Or.inl rfl, Or.inl rfl, Or.inl rfl, Or.inl rfl, Or.inl rfl, Or.inl rfl, Or.inl rfl, Or.inl rfl, Or.inl rfl, Or.inr rfl, Or.inr rfl, Or.inr rfl, Or.inr rfl, trivial⟩
        · skip
          rw [if_pos (show pl < 3 by omega)]
          refine p_aloadn_0 ?_
          refine p_iload_15 ?_
          refine p_iload_14 ?_
          refine p_iload_16 ?_
          refine p_cv3v rfl rfl rfl rfl (zl_r hrc) (c_48 hrc hI.1) ?_
          refine p_goto (tgt := 218) (by decide) ?_
          refine zK.blk rfl ?_
          refine p_iinc_12 (zN_inc _ 1) rfl ?_
          refine p_goto (tgt := 113) (by decide) ?_
          refine zK.forget _ ?_ (ih (k + 1) _ (by first | exact ofM_rcI hI | exact jlM_rcI _ _ _ hI) (by first | (rw [ofM_ne (by omega) (by omega)]; exact h0) | (rw [jlM_ne (by omega) (by omega)]; exact h0)) (by omega))
          exact ⟨Or.inl rfl, Or.inl rfl, Or.inl rfl, Or.inl rfl, Or.inl rfl, Or.inl rfl, Or.inl rfl, Or.inl rfl, Or.inl rfl, Or.inl rfl, Or.inl rfl, Or.inl rfl, Or.inl rfl, Or.inr rfl, Or.inr rfl, Or.inr rfl, Or.inr rfl, trivial⟩
      · skip
        rw [show jaM rc N s o D pl ne sa ta tg price begun se th (j + 1) k M = M by (show (if D < price + M (rc + 1) (o k) then M else _) = _; rw [if_pos (Int32.not_le.mp hc149)])]
        refine p_goto (tgt := 224) (by decide) ?_
        refine zK.blk rfl ?_
        exact p_vret trivial rfl rfl
set_option maxRecDepth 100000 in
set_option maxHeartbeats 4000000 in
theorem c_45_0 {sc : Nat × (Nat → Int32)} {d : Nat} {M : zM} {rc n N s i pl kc w begun nx : Nat} {o : Nat → Nat} {D : Int32} (hrc : zrc rc n N) (hI : rcI M rc N s o D) (hi : i < 6) (h0 : M (3 + i) 0 = nI pl) (h2 : M (3 + i) 2 = nI kc) (h3 : M (3 + i) 3 = nI w) (hpl : pl < 4) (hw : w < 2 ^ 31) (hnx : nx < N) : zC 47 sc (d + 4) 45 [.ref rc, .ref (3 + i), .int (nI begun), .int (nI nx), .int (nI 0)] M (none) (jAM rc N s o D pl kc w begun nx 0 M) := by
  have hN := zl_N hrc
  unfold jAM
  refine z_enter (L := [.ref rc, .ref (3 + i), .int (nI begun), .int (nI nx), .int (nI 0), .null, .null, .null, .null, .null, .null, .null, .null, .null, .null, .null, .null]) rfl rfl rfl ?_
  refine zK.blk rfl ?_
  refine p_iload_4 ?_
  refine p_ifN_ne (tgt := 9) (by decide) (by omega) (fun hc2 => ?_) (fun hc2 => ?_)
  · skip
    exact absurd rfl hc2 --STOP
  · skip
    refine p_iconst (v := nI 1) (by decide) ?_
    refine p_goto (tgt := 10) (by decide) ?_
    refine zK.blk rfl ?_
    refine p_istore_5 rfl ?_
    refine p_iload_4 ?_
    refine p_iconst (v := nI 2) (by decide) ?_
    refine p_icmpN_ne (tgt := 22) (by decide) (by omega) (by omega) (fun hc15 => ?_) (fun hc15 => ?_)
    · skip
      refine zK.blk rfl ?_
      refine p_iconst (v := nI 2) (by decide) ?_
      refine zK.blk rfl ?_
      refine p_istore_6 rfl ?_
      refine p_aloadn_1 ?_
      refine p_iloadn_3 ?_
      refine p_iload_4 ?_
      refine p_iconst (v := nI 0) (by decide) ?_
      refine p_cs4i rfl rfl rfl rfl rfl (c_47 hi h3 hw (by decide) (by decide)) ?_
      refine p_istore_7 rfl ?_
      refine p_aloadn_1 ?_
      refine p_iloadn_3 ?_
      refine p_iload_4 ?_
      refine p_iconst (v := nI 1) (by decide) ?_
      refine p_iload_5 ?_
      refine p_ishlN (by omega) ?_
      refine p_cs4i rfl rfl rfl rfl rfl (c_47 hi h3 hw (by decide) (by decide)) ?_
      refine p_istore_8 rfl ?_
      refine p_aloadn_1 ?_
      refine p_iloadn_3 ?_
      refine p_iload_4 ?_
      refine p_iconst (v := nI 1) (by decide) ?_
      refine p_iload_6 ?_
      refine p_ishlN (by omega) ?_
      refine p_cs4i rfl rfl rfl rfl rfl (c_47 hi h3 hw (by decide) (by decide)) ?_
      refine p_istore_9 rfl ?_
      refine p_aloadn_1 ?_
      refine p_iloadn_3 ?_
      refine p_iload_4 ?_
      refine p_iconst (v := nI 1) (by decide) ?_
      refine p_iload_5 ?_
      refine p_ishlN (by omega) ?_
      refine p_iconst (v := nI 1) (by decide) ?_
      refine p_iload_6 ?_
      refine p_ishlN (by omega) ?_
      refine p_iorN ?_
      refine p_cs4i rfl rfl rfl rfl rfl (c_47 hi h3 hw (by decide) (by decide)) ?_
      refine p_istore_10 rfl ?_
      refine p_aloadn_1 ?_
      refine p_geti (zlay_sg (by omega)) rfl (h2) ?_
      refine p_aloadn_0 ?_
      refine p_getr (zl_r hrc) rfl ?_
      refine p_iloadn_3 ?_
      refine p_iald (zl_a2 hrc) (by omega) (zl_n hrc) (rfl) ?_
      refine p_iadd ?_
      refine p_istore_11 rfl ?_
      refine p_aloadn_1 ?_
      refine p_geti (zlay_sg (by omega)) rfl (h0) ?_
      refine p_iconst (v := nI 2) (by decide) ?_
      refine p_icmpN_ge (tgt := 110) (by decide) (by omega) (by omega) (fun hc97 => ?_) (fun hc97 => ?_)
      · skip
        rw [if_neg (show ¬ pl < 2 by omega)]
        refine zK.blk rfl ?_
        refine p_iconst (v := nI 0) (by decide) ?_
        refine p_istore_12 rfl ?_
        exact lp_45_113 hrc hi hpl (by decide) (by decide) s 0 M hI h0 (by omega)
      · skip
        rw [if_pos (show pl < 2 by omega)]
        refine p_aloadn_0 ?_
        refine p_iload_7 ?_
        refine p_iload_11 ?_
        refine p_iloadn_2 ?_
        refine p_cv3v rfl rfl rfl rfl (zl_r hrc) (c_48 hrc hI.1) ?_
        exact p_vret trivial rfl rfl
    · skip
      exact absurd hc15 (by decide) --STOP
set_option maxRecDepth 100000 in
set_option maxHeartbeats 4000000 in
theorem c_45_1 {sc : Nat × (Nat → Int32)} {d : Nat} {M : zM} {rc n N s i pl kc w begun nx : Nat} {o : Nat → Nat} {D : Int32} (hrc : zrc rc n N) (hI : rcI M rc N s o D) (hi : i < 6) (h0 : M (3 + i) 0 = nI pl) (h2 : M (3 + i) 2 = nI kc) (h3 : M (3 + i) 3 = nI w) (hpl : pl < 4) (hw : w < 2 ^ 31) (hnx : nx < N) : zC 47 sc (d + 4) 45 [.ref rc, .ref (3 + i), .int (nI begun), .int (nI nx), .int (nI 1)] M (none) (jAM rc N s o D pl kc w begun nx 1 M) := by
  have hN := zl_N hrc
  unfold jAM
  refine z_enter (L := [.ref rc, .ref (3 + i), .int (nI begun), .int (nI nx), .int (nI 1), .null, .null, .null, .null, .null, .null, .null, .null, .null, .null, .null, .null]) rfl rfl rfl ?_
  refine zK.blk rfl ?_
  refine p_iload_4 ?_
  refine p_ifN_ne (tgt := 9) (by decide) (by omega) (fun hc2 => ?_) (fun hc2 => ?_)
  · skip
    refine zK.blk rfl ?_
    refine p_iconst (v := nI 0) (by decide) ?_
    refine zK.blk rfl ?_
    refine p_istore_5 rfl ?_
    refine p_iload_4 ?_
    refine p_iconst (v := nI 2) (by decide) ?_
    refine p_icmpN_ne (tgt := 22) (by decide) (by omega) (by omega) (fun hc15 => ?_) (fun hc15 => ?_)
    · skip
      refine zK.blk rfl ?_
      refine p_iconst (v := nI 2) (by decide) ?_
      refine zK.blk rfl ?_
      refine p_istore_6 rfl ?_
      refine p_aloadn_1 ?_
      refine p_iloadn_3 ?_
      refine p_iload_4 ?_
      refine p_iconst (v := nI 0) (by decide) ?_
      refine p_cs4i rfl rfl rfl rfl rfl (c_47 hi h3 hw (by decide) (by decide)) ?_
      refine p_istore_7 rfl ?_
      refine p_aloadn_1 ?_
      refine p_iloadn_3 ?_
      refine p_iload_4 ?_
      refine p_iconst (v := nI 1) (by decide) ?_
      refine p_iload_5 ?_
      refine p_ishlN (by omega) ?_
      refine p_cs4i rfl rfl rfl rfl rfl (c_47 hi h3 hw (by decide) (by decide)) ?_
      refine p_istore_8 rfl ?_
      refine p_aloadn_1 ?_
      refine p_iloadn_3 ?_
      refine p_iload_4 ?_
      refine p_iconst (v := nI 1) (by decide) ?_
      refine p_iload_6 ?_
      refine p_ishlN (by omega) ?_
      refine p_cs4i rfl rfl rfl rfl rfl (c_47 hi h3 hw (by decide) (by decide)) ?_
      refine p_istore_9 rfl ?_
      refine p_aloadn_1 ?_
      refine p_iloadn_3 ?_
      refine p_iload_4 ?_
      refine p_iconst (v := nI 1) (by decide) ?_
      refine p_iload_5 ?_
      refine p_ishlN (by omega) ?_
      refine p_iconst (v := nI 1) (by decide) ?_
      refine p_iload_6 ?_
      refine p_ishlN (by omega) ?_
      refine p_iorN ?_
      refine p_cs4i rfl rfl rfl rfl rfl (c_47 hi h3 hw (by decide) (by decide)) ?_
      refine p_istore_10 rfl ?_
      refine p_aloadn_1 ?_
      refine p_geti (zlay_sg (by omega)) rfl (h2) ?_
      refine p_aloadn_0 ?_
      refine p_getr (zl_r hrc) rfl ?_
      refine p_iloadn_3 ?_
      refine p_iald (zl_a2 hrc) (by omega) (zl_n hrc) (rfl) ?_
      refine p_iadd ?_
      refine p_istore_11 rfl ?_
      refine p_aloadn_1 ?_
      refine p_geti (zlay_sg (by omega)) rfl (h0) ?_
      refine p_iconst (v := nI 2) (by decide) ?_
      refine p_icmpN_ge (tgt := 110) (by decide) (by omega) (by omega) (fun hc97 => ?_) (fun hc97 => ?_)
      · skip
        rw [if_neg (show ¬ pl < 2 by omega)]
        refine zK.blk rfl ?_
        refine p_iconst (v := nI 0) (by decide) ?_
        refine p_istore_12 rfl ?_
        exact lp_45_113 hrc hi hpl (by decide) (by decide) s 0 M hI h0 (by omega)
      · skip
        rw [if_pos (show pl < 2 by omega)]
        refine p_aloadn_0 ?_
        refine p_iload_7 ?_
        refine p_iload_11 ?_
        refine p_iloadn_2 ?_
        refine p_cv3v rfl rfl rfl rfl (zl_r hrc) (c_48 hrc hI.1) ?_
        exact p_vret trivial rfl rfl
    · skip
      exact absurd hc15 (by decide) --STOP
  · skip
    exact absurd hc2 (by decide) --STOP
set_option maxRecDepth 100000 in
set_option maxHeartbeats 4000000 in
theorem c_45_2 {sc : Nat × (Nat → Int32)} {d : Nat} {M : zM} {rc n N s i pl kc w begun nx : Nat} {o : Nat → Nat} {D : Int32} (hrc : zrc rc n N) (hI : rcI M rc N s o D) (hi : i < 6) (h0 : M (3 + i) 0 = nI pl) (h2 : M (3 + i) 2 = nI kc) (h3 : M (3 + i) 3 = nI w) (hpl : pl < 4) (hw : w < 2 ^ 31) (hnx : nx < N) : zC 47 sc (d + 4) 45 [.ref rc, .ref (3 + i), .int (nI begun), .int (nI nx), .int (nI 2)] M (none) (jAM rc N s o D pl kc w begun nx 2 M) := by
  have hN := zl_N hrc
  unfold jAM
  refine z_enter (L := [.ref rc, .ref (3 + i), .int (nI begun), .int (nI nx), .int (nI 2), .null, .null, .null, .null, .null, .null, .null, .null, .null, .null, .null, .null]) rfl rfl rfl ?_
  refine zK.blk rfl ?_
  refine p_iload_4 ?_
  refine p_ifN_ne (tgt := 9) (by decide) (by omega) (fun hc2 => ?_) (fun hc2 => ?_)
  · skip
    refine zK.blk rfl ?_
    refine p_iconst (v := nI 0) (by decide) ?_
    refine zK.blk rfl ?_
    refine p_istore_5 rfl ?_
    refine p_iload_4 ?_
    refine p_iconst (v := nI 2) (by decide) ?_
    refine p_icmpN_ne (tgt := 22) (by decide) (by omega) (by omega) (fun hc15 => ?_) (fun hc15 => ?_)
    · skip
      exact absurd rfl hc15 --STOP
    · skip
      refine p_iconst (v := nI 1) (by decide) ?_
      refine p_goto (tgt := 23) (by decide) ?_
      refine zK.blk rfl ?_
      refine p_istore_6 rfl ?_
      refine p_aloadn_1 ?_
      refine p_iloadn_3 ?_
      refine p_iload_4 ?_
      refine p_iconst (v := nI 0) (by decide) ?_
      refine p_cs4i rfl rfl rfl rfl rfl (c_47 hi h3 hw (by decide) (by decide)) ?_
      refine p_istore_7 rfl ?_
      refine p_aloadn_1 ?_
      refine p_iloadn_3 ?_
      refine p_iload_4 ?_
      refine p_iconst (v := nI 1) (by decide) ?_
      refine p_iload_5 ?_
      refine p_ishlN (by omega) ?_
      refine p_cs4i rfl rfl rfl rfl rfl (c_47 hi h3 hw (by decide) (by decide)) ?_
      refine p_istore_8 rfl ?_
      refine p_aloadn_1 ?_
      refine p_iloadn_3 ?_
      refine p_iload_4 ?_
      refine p_iconst (v := nI 1) (by decide) ?_
      refine p_iload_6 ?_
      refine p_ishlN (by omega) ?_
      refine p_cs4i rfl rfl rfl rfl rfl (c_47 hi h3 hw (by decide) (by decide)) ?_
      refine p_istore_9 rfl ?_
      refine p_aloadn_1 ?_
      refine p_iloadn_3 ?_
      refine p_iload_4 ?_
      refine p_iconst (v := nI 1) (by decide) ?_
      refine p_iload_5 ?_
      refine p_ishlN (by omega) ?_
      refine p_iconst (v := nI 1) (by decide) ?_
      refine p_iload_6 ?_
      refine p_ishlN (by omega) ?_
      refine p_iorN ?_
      refine p_cs4i rfl rfl rfl rfl rfl (c_47 hi h3 hw (by decide) (by decide)) ?_
      refine p_istore_10 rfl ?_
      refine p_aloadn_1 ?_
      refine p_geti (zlay_sg (by omega)) rfl (h2) ?_
      refine p_aloadn_0 ?_
      refine p_getr (zl_r hrc) rfl ?_
      refine p_iloadn_3 ?_
      refine p_iald (zl_a2 hrc) (by omega) (zl_n hrc) (rfl) ?_
      refine p_iadd ?_
      refine p_istore_11 rfl ?_
      refine p_aloadn_1 ?_
      refine p_geti (zlay_sg (by omega)) rfl (h0) ?_
      refine p_iconst (v := nI 2) (by decide) ?_
      refine p_icmpN_ge (tgt := 110) (by decide) (by omega) (by omega) (fun hc97 => ?_) (fun hc97 => ?_)
      · skip
        rw [if_neg (show ¬ pl < 2 by omega)]
        refine zK.blk rfl ?_
        refine p_iconst (v := nI 0) (by decide) ?_
        refine p_istore_12 rfl ?_
        exact lp_45_113 hrc hi hpl (by decide) (by decide) s 0 M hI h0 (by omega)
      · skip
        rw [if_pos (show pl < 2 by omega)]
        refine p_aloadn_0 ?_
        refine p_iload_7 ?_
        refine p_iload_11 ?_
        refine p_iloadn_2 ?_
        refine p_cv3v rfl rfl rfl rfl (zl_r hrc) (c_48 hrc hI.1) ?_
        exact p_vret trivial rfl rfl
  · skip
    exact absurd hc2 (by decide) --STOP
theorem c_45 {sc : Nat × (Nat → Int32)} {d : Nat} {M : zM} {rc n N s i pl kc w begun nx at0 : Nat} {o : Nat → Nat} {D : Int32} (hrc : zrc rc n N) (hI : rcI M rc N s o D) (hi : i < 6) (h0 : M (3 + i) 0 = nI pl) (h2 : M (3 + i) 2 = nI kc) (h3 : M (3 + i) 3 = nI w) (hpl : pl < 4) (hw : w < 2 ^ 31) (hnx : nx < N) (hat : at0 < 3) : zC 47 sc (d + 4) 45 [.ref rc, .ref (3 + i), .int (nI begun), .int (nI nx), .int (nI at0)] M none (jAM rc N s o D pl kc w begun nx at0 M) := by
  rcases (show at0 = 0 ∨ at0 = 1 ∨ at0 = 2 by omega) with rfl | rfl | rfl
  · exact c_45_0 hrc hI hi h0 h2 h3 hpl hw hnx
  · exact c_45_1 hrc hI hi h0 h2 h3 hpl hw hnx
  · exact c_45_2 hrc hI hi h0 h2 h3 hpl hw hnx
set_option maxRecDepth 100000 in
set_option maxHeartbeats 4000000 in
theorem lp_44_3 {sc : Nat × (Nat → Int32)} {d : Nat} {rc n N s i pl kc w l nx : Nat} {o : Nat → Nat} {D : Int32} (hrc : zrc rc n N) (hi : i < 6) (hpl : pl < 4) (hw : w < 2 ^ 31) (hnx : nx < N) : ∀ (j at0 : Nat) (M : zM), rcI M rc N s o D → M (3 + i) 0 = nI pl → M (3 + i) 2 = nI kc → M (3 + i) 3 = nI w → at0 + j = pl → zK 47 sc (zC 47 sc (d + 4)) 44 none (jnM rc N s o D pl kc w l nx j at0 M) 3 [.ref rc, .ref (3 + i), .int (nI l), .int (nI nx), .int (nI at0)] [] M := by
  intro j
  induction j with
  | zero =>
    intro at0 M hI h0 h2 h3 hj
    refine zK.blk rfl ?_
    refine p_iload_4 ?_
    refine p_aloadn_1 ?_
    refine p_geti (zlay_sg (by omega)) rfl (h0) ?_
    refine p_icmpN_ge (tgt := 36) (by decide) (by omega) (by omega) (fun hc9 => ?_) (fun hc9 => ?_)
    · skip
      refine zK.blk rfl ?_
      exact p_vret trivial rfl rfl
    · skip
      exact absurd hc9 (by omega) --STOP
  | succ j ih =>
    intro at0 M hI h0 h2 h3 hj
    have hr9 := zrc_ge hrc
    refine zK.blk rfl ?_
    refine p_iload_4 ?_
    refine p_aloadn_1 ?_
    refine p_geti (zlay_sg (by omega)) rfl (h0) ?_
    refine p_icmpN_ge (tgt := 36) (by decide) (by omega) (by omega) (fun hc9 => ?_) (fun hc9 => ?_)
    · skip
      exact absurd hc9 (by omega) --STOP
    · skip
      refine p_aloadn_0 ?_
      refine p_aloadn_1 ?_
      refine p_iloadn_2 ?_
      refine p_cs1i rfl rfl rfl rfl rfl (c_15) ?_
      refine p_iload_4 ?_
      refine p_iloadn_3 ?_
      refine p_cs3i rfl rfl rfl rfl rfl (c_16 (by omega)) ?_
      refine p_iloadn_3 ?_
      refine p_iload_4 ?_
      refine p_cv4v rfl rfl rfl rfl (zl_r hrc) (c_45 hrc hI hi h0 h2 h3 hpl hw hnx (by omega)) ?_
      refine p_iinc_4 (zN_inc _ 1) rfl ?_
      refine p_goto (tgt := 3) (by decide) ?_
      exact ih (at0 + 1) _ (jAM_rcI hI) (by rw [jAM_ne (by omega) (by omega)]; exact h0) (by rw [jAM_ne (by omega) (by omega)]; exact h2) (by rw [jAM_ne (by omega) (by omega)]; exact h3) (by omega)
set_option maxRecDepth 100000 in
set_option maxHeartbeats 4000000 in
theorem c_44 {sc : Nat × (Nat → Int32)} {d : Nat} {M : zM} {rc n N s i pl kc w l nx : Nat} {o : Nat → Nat} {D : Int32} (hrc : zrc rc n N) (hI : rcI M rc N s o D) (hi : i < 6) (h0 : M (3 + i) 0 = nI pl) (h2 : M (3 + i) 2 = nI kc) (h3 : M (3 + i) 3 = nI w) (hpl : pl < 4) (hw : w < 2 ^ 31) (hnx : nx < N) : zC 47 sc (d + 5) 44 [.ref rc, .ref (3 + i), .int (nI l), .int (nI nx)] M (none) (jnM rc N s o D pl kc w l nx pl 0 M) := by
  refine z_enter (L := [.ref rc, .ref (3 + i), .int (nI l), .int (nI nx), .null]) rfl rfl rfl ?_
  refine zK.blk rfl ?_
  refine p_iconst (v := nI 0) (by decide) ?_
  refine p_istore_4 rfl ?_
  exact lp_44_3 hrc hi hpl hw hnx pl 0 M hI h0 h2 h3 (by omega)
