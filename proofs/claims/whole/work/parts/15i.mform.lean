def onF (t r a : Nat) : Nat := a + (t >>> r &&& 1)
def fFormN (t co de le w : Nat) : Nat := if w = 0 then t else if w = 1 then co else if w = 2 then de else if w = 3 then le else if w = 4 then mpN 3 t else if w = 5 then ohN 3 t else if w = 6 then bcN t else kbN 3 t
set_option maxRecDepth 100000 in
set_option maxHeartbeats 4000000 in
theorem lp_133_38 {sc : Nat × (Nat → Int32)} {d : Nat} {M : zM} {r : Option Value} {M' : zM} {i0 w t : Nat} (ht : t < 2 ^ 31) : ∀ (j i v : Nat), i + j = 8 → zK 47 sc (zC 47 sc (d + 9)) 133 r M' 62 [.ref 33, .int (nI i0), .int (nI w), .int (nI t), .int (nI (zfor (onF t) j i v)), .int (nI 8)] [] (M) → zK 47 sc (zC 47 sc (d + 9)) 133 r M' 38 [.ref 33, .int (nI i0), .int (nI w), .int (nI t), .int (nI v), .int (nI i)] [] (M) := by
  intro j
  induction j with
  | zero =>
    intro i v  hj hk
    obtain rfl : i = 8 := by omega
    refine zK.blk rfl ?_
    refine p_iload_5 ?_
    refine p_bipush (v := nI 8) (by decide) ?_
    refine p_icmpN_ge (tgt := 62) (by decide) (by omega) (by omega) (fun hc42 => ?_) (fun hc42 => ?_)
    · skip
      exact hk
    · skip
      exact absurd hc42 (by omega) --STOP
  | succ j ih =>
    intro i v  hj hk
    refine zK.blk rfl ?_
    refine p_iload_5 ?_
    refine p_bipush (v := nI 8) (by decide) ?_
    refine p_icmpN_ge (tgt := 62) (by decide) (by omega) (by omega) (fun hc42 => ?_) (fun hc42 => ?_)
    · skip
      exact absurd hc42 (by omega) --STOP
    · skip
      refine p_iload_4 ?_
      refine p_iloadn_3 ?_
      refine p_iload_5 ?_
      refine p_ishrN (by omega) (by omega) ?_
      refine p_iconst (v := nI 1) (by decide) ?_
      refine p_iandN ?_
      refine p_iaddN ?_
      refine p_istore_4 rfl ?_
      refine p_iinc_5 (zN_inc _ 1) rfl ?_
      refine p_goto (tgt := 38) (by decide) ?_
      exact ih _ _ (by omega) hk
set_option maxRecDepth 100000 in
set_option maxHeartbeats 4000000 in
theorem c_133 {sc : Nat × (Nat → Int32)} {d : Nat} {M M2 : zM} {n : Nat} {P T K : Nat → Nat} {i0 w t co de le : Nat} (hsm : sgM M n P T K) (hi : i0 < 4) (hw : w ≤ 7) (ht : t < 256) (hTb : zC 47 sc (d + 9) 132 [.ref 33, .int (nI i0)] M (some (.int (nI t))) M2) (h45 : M2 45 0 = nI co) (h46 : M2 46 0 = nI de) (h40 : M2 40 i0 = nI le) : zC 47 sc (d + 10) 133 [.ref 33, .int (nI i0), .int (nI w)] M (some (.int (nI (fFormN t co de le w)))) (M2) := by
  obtain ⟨hth, hm, hn6, hR, hT⟩ := id hsm
  have e1 := zin_t (a := i0) (lo := 0) (hi := 3) (by omega) (by omega) (by decide)
  have e2 := zin_t (a := w) (lo := 0) (hi := 7) (by omega) (by omega) (by decide)
  refine z_enter (L := [.ref 33, .int (nI i0), .int (nI w), .null, .null, .null]) rfl rfl rfl ?_
  refine zK.blk rfl ?_
  refine p_aloadn_0 ?_
  refine p_iconst (v := nI 0) (by decide) ?_
  refine p_put rfl rfl (by simp) ?_
  rw [zup_id hth]
  refine p_iloadn_1 ?_
  refine p_iconst (v := nI 0) (by decide) ?_
  refine p_iconst (v := nI 3) (by decide) ?_
  refine p_cs3i rfl rfl rfl rfl rfl (c_89) ?_
  refine p_ifB_eq (tgt := 24) (by decide) (fun hc11 => ?_) (fun hc11 => ?_)
  · skip
    rw [e1] at hc11; cases hc11 --STOP
  · skip
    refine p_iloadn_2 ?_
    refine p_iconst (v := nI 0) (by decide) ?_
    refine p_bipush (v := nI 7) (by decide) ?_
    refine p_cs3i rfl rfl rfl rfl rfl (c_89) ?_
    refine p_ifB_ne (tgt := 26) (by decide) (fun hc21 => ?_) (fun hc21 => ?_)
    · skip
      refine zK.blk rfl ?_
      refine p_aloadn_0 ?_
      refine p_iloadn_1 ?_
      refine p_cv1i rfl rfl rfl rfl rfl (hTb) ?_
      refine p_istoren_3 rfl ?_
      refine p_iconst (v := nI 0) (by decide) ?_
      refine p_istore_4 rfl ?_
      refine p_iconst (v := nI 0) (by decide) ?_
      refine p_istore_5 rfl ?_
      refine lp_133_38 (by omega) 8 0 0 (by omega) ?_
      refine zK.blk rfl ?_
      refine p_iloadn_2 ?_
      refine p_tab (td := 140) (N := 6) (by decide) rfl (by decide) (fun i => if i = 0 then 104 else if i = 1 then 106 else if i = 2 then 113 else if i = 3 then 120 else if i = 4 then 127 else if i = 5 then 132 else 137) (fun i hi => by rcases (show i = 0 ∨ i = 1 ∨ i = 2 ∨ i = 3 ∨ i = 4 ∨ i = 5 ∨ i = 6 by omega) with rfl | rfl | rfl | rfl | rfl | rfl | rfl <;> exact ⟨_, rfl, by decide⟩) (fun hno => ?_) (fun i hi e => ?_)
      · have hw7 : w = 7 := by
          apply Classical.byContradiction
          intro hne
          exact hno w (by omega) rfl
        subst hw7
        rw [show fFormN t co de le 7 = kmN 3 t from (kb_km 3 (by decide) t (by rw [z22_3]; exact ht)).1]
        refine zK.blk rfl ?_
        refine p_iconst (v := nI 3) (by decide) ?_
        refine p_iloadn_3 ?_
        refine p_cs2i rfl rfl rfl rfl rfl (c_94 (by decide) (by rw [z22_3]; exact ht)) ?_
        exact p_iret trivial rfl rfl
      · obtain rfl : w = i := (nI_eq (by omega) (by omega)).mp e
        rcases (show w = 0 ∨ w = 1 ∨ w = 2 ∨ w = 3 ∨ w = 4 ∨ w = 5 ∨ w = 6 by omega) with rfl | rfl | rfl | rfl | rfl | rfl | rfl
        · skip
          refine zK.blk rfl ?_
          refine p_iloadn_3 ?_
          exact p_iret trivial rfl rfl
        · skip
          refine zK.blk rfl ?_
          refine p_aloadn_0 ?_
          refine p_getr rfl rfl ?_
          refine p_iconst (v := nI 0) (by decide) ?_
          refine p_iald rfl (by omega) (by decide) (h45) ?_
          exact p_iret trivial rfl rfl
        · skip
          refine zK.blk rfl ?_
          refine p_aloadn_0 ?_
          refine p_getr rfl rfl ?_
          refine p_iconst (v := nI 0) (by decide) ?_
          refine p_iald rfl (by omega) (by decide) (h46) ?_
          exact p_iret trivial rfl rfl
        · skip
          refine zK.blk rfl ?_
          refine p_aloadn_0 ?_
          refine p_getr rfl rfl ?_
          refine p_iloadn_1 ?_
          refine p_iald rfl (by omega) (by decide) (h40) ?_
          exact p_iret trivial rfl rfl
        · rw [show fFormN t co de le 4 = maN t from (mp_ma t ht).1]
          refine zK.blk rfl ?_
          refine p_iloadn_3 ?_
          refine p_cs1i rfl rfl rfl rfl rfl (c_131 (by omega)) ?_
          exact p_iret trivial rfl rfl
        · rw [show fFormN t co de le 5 = moN t from (oh_mo t ht).1]
          refine zK.blk rfl ?_
          refine p_iloadn_3 ?_
          refine p_cs1i rfl rfl rfl rfl rfl (c_130 (by omega)) ?_
          exact p_iret trivial rfl rfl
        · rw [show fFormN t co de le 6 = zfor (onF t) 8 0 0 from bcN_ok t ht]
          refine zK.blk rfl ?_
          refine p_iload_4 ?_
          exact p_iret trivial rfl rfl
    · skip
      rw [e2] at hc21; cases hc21 --STOP
