section ZPR
variable {NC : Nat} {sc : Nat × (Nat → Int32)} {C : Nat → List Value → zM → Option Value → zM → Prop} {J : Nat → List Value → List Value → zM → Prop} {fin : Option Value → zM → Prop} {np pc len a b t : Nat} {es : List zE} {L st : List Value} {M : zM}
theorem p_rlenN {k n : Nat} (h1 : zlay NC k = none) (hk : 100 ≤ k ∧ k ≤ 103) (hn : (zro sc k).1 = n) (h : zwp NC sc zinfo C J fin np es L (.int (nI n) :: st) M) : zwp NC sc zinfo C J fin np ((pc, .arraylength, len, a, b, t) :: es) L (.ref k :: st) M := by
  subst hn
  exact p_rlen h1 hk h
end ZPR
def spN (i : Nat) : Nat := if i < 2 then 0 else if i < 4 then 2 else 3
def stN (i : Nat) : Nat := if i = 0 then 0 else if i = 1 then 1 else if i = 2 then 8 else if i = 3 then 14 else if i = 4 then 150 else 232
theorem spst : ∀ i, i < 6 → spN i < 4 ∧ stN i < z22 (spN i) := by decide
def soB (q rows i : Nat) : Bool := ltB (spN i) (stN i * zrep (spN i)) q rows
def soF (q rows i v : Nat) : Nat := if soB q rows i = true then v ||| 1 <<< i else v
def soN (q rows : Nat) : Nat := zfor (soF q rows) 6 0 0
def fSorts (y z : Int32) : Int32 := if zrl y z = true then nI (soN y.toNatClampNeg z.toNatClampNeg) else -1
theorem so_0 : ∀ q, q < 4 → ∀ v, v < z22 q → soB q v 0 = decide (v &&& 1 = 1) := by decide +kernel
theorem so_1 : ∀ q, q < 4 → ∀ v, v < z22 q → soB q v 1 = decide (v >>> (1 <<< q - 1) &&& 1 = 1) := by decide +kernel
theorem so_sum (q v : Nat) : soN q v = (if soB q v 0 = true then 1 else 0) + (if soB q v 1 = true then 2 else 0) + (if soB q v 2 = true then 4 else 0) + (if soB q v 3 = true then 8 else 0) + (if soB q v 4 = true then 16 else 0) + (if soB q v 5 = true then 32 else 0) := by
  show soF q v 5 (soF q v 4 (soF q v 3 (soF q v 2 (soF q v 1 (soF q v 0 0))))) = _
  unfold soF
  cases soB q v 0 <;> cases soB q v 1 <;> cases soB q v 2 <;> cases soB q v 3 <;> cases soB q v 4 <;> cases soB q v 5 <;> rfl
theorem so_mk {q v i : Nat} (hq : q < 4) (hi : i < 6) : soB q v i = decide (mkN (spN i) (stN i) q v &&& (v ^^^ zFF) = 0) := by
  have h := spst i hi
  unfold soB ltB
  rw [tr_mk h.1 h.2 hq]
set_option maxRecDepth 100000 in
set_option maxHeartbeats 4000000 in
theorem lp_72_15 {sc : Nat × (Nat → Int32)} {d : Nat} {M : zM} {r : Option Value} {M' : zM} {q rows : Nat} (hq : q < 4) (hro : rows < 2 ^ 31) : ∀ (j i v : Nat), i + j = 6 → zK 47 sc (zC 47 sc (d + 3)) 72 r M' 74 [.ref 0, .int (nI q), .int (nI rows), .int (nI (zfor (soF q rows) j i v)), .int (nI 6), .null, .null] [] (M) → zK 47 sc (zC 47 sc (d + 3)) 72 r M' 15 [.ref 0, .int (nI q), .int (nI rows), .int (nI v), .int (nI i), .null, .null] [] (M) := by
  intro j
  induction j with
  | zero =>
    intro i v  hj hk
    obtain rfl : i = 6 := by omega
    refine zK.blk rfl ?_
    refine p_iload_4 ?_
    refine p_gets (by decide) ?_
    refine p_rlenN (n := 6) rfl (by decide) rfl ?_
    refine p_icmpN_ge (tgt := 74) (by decide) (by omega) (by omega) (fun hc21 => ?_) (fun hc21 => ?_)
    · skip
      exact hk
    · skip
      exact absurd hc21 (by omega) --STOP
  | succ j ih =>
    intro i v  hj hk
    have hsp := spst i (by omega)
    have hw := zwide_lt _ hsp.1 _ hsp.2
    have htr := trN_lt (p := spN i) (w := stN i * zrep (spN i)) (rows := rows) hq
    have ha : trN (spN i) (stN i * zrep (spN i)) q rows &&& (rows ^^^ zFF) < 2 ^ 31 := zand_lt (by omega)
    refine zK.blk rfl ?_
    refine p_iload_4 ?_
    refine p_gets (by decide) ?_
    refine p_rlenN (n := 6) rfl (by decide) rfl ?_
    refine p_icmpN_ge (tgt := 74) (by decide) (by omega) (by omega) (fun hc21 => ?_) (fun hc21 => ?_)
    · skip
      exact absurd hc21 (by omega) --STOP
    · skip
      refine p_gets (by decide) ?_
      refine p_iload_4 ?_
      refine p_rald (v := nI (spN i)) rfl (by decide) (show i < 6 by omega) (show 6 < 2 ^ 31 by decide) (by rcases (show i = 0 ∨ i = 1 ∨ i = 2 ∨ i = 3 ∨ i = 4 ∨ i = 5 by omega) with rfl | rfl | rfl | rfl | rfl | rfl <;> rfl) ?_
      refine p_istore_5 rfl ?_
      refine p_iload_5 ?_
      refine p_gets (by decide) ?_
      refine p_iload_4 ?_
      refine p_rald (v := nI (stN i)) rfl (by decide) (show i < 6 by omega) (show 6 < 2 ^ 31 by decide) (by rcases (show i = 0 ∨ i = 1 ∨ i = 2 ∨ i = 3 ∨ i = 4 ∨ i = 5 by omega) with rfl | rfl | rfl | rfl | rfl | rfl <;> rfl) ?_
      refine p_cs2i rfl rfl rfl rfl rfl (c_4 hsp.1) ?_
      refine p_istore_6 rfl ?_
      refine p_iload_5 ?_
      refine p_iload_6 ?_
      refine p_iloadn_1 ?_
      refine p_iloadn_2 ?_
      refine p_cs4i rfl rfl rfl rfl rfl (c_8 hsp.1 hq (by omega) hro) ?_
      refine p_iloadn_2 ?_
      refine p_iconst (v := nI zFF) (by decide) ?_
      refine p_ixorN ?_
      refine p_iandN ?_
      refine p_ifN_ne (tgt := 68) (by decide) (by omega) (fun hc58 => ?_) (fun hc58 => ?_)
      · skip
        rw [zfor_step (f := soF q rows) (a' := v) (by unfold soF soB ltB; rw [decide_eq_false hc58, if_neg (by decide)])] at hk
        refine zK.blk rfl ?_
        refine p_iinc_4 (zN_inc _ 1) rfl ?_
        refine p_goto (tgt := 15) (by decide) ?_
        refine zK.forget _ ?_ (ih _ _ (by omega) hk)
        exact ⟨Or.inl rfl, Or.inl rfl, Or.inl rfl, Or.inl rfl, Or.inl rfl, Or.inr rfl, Or.inr rfl, trivial⟩
      · skip
        rw [zfor_step (f := soF q rows) (a' := v ||| 1 <<< i) (by unfold soF soB ltB; rw [decide_eq_true (by omega), if_pos rfl])] at hk
        refine p_iloadn_3 ?_
        refine p_iconst (v := nI 1) (by decide) ?_
        refine p_iload_4 ?_
        refine p_ishlN (by omega) ?_
        refine p_iorN ?_
        refine p_istoren_3 rfl ?_
        refine zK.blk rfl ?_
        refine p_iinc_4 (zN_inc _ 1) rfl ?_
        refine p_goto (tgt := 15) (by decide) ?_
        refine zK.forget _ ?_ (ih _ _ (by omega) hk)
        exact ⟨Or.inl rfl, Or.inl rfl, Or.inl rfl, Or.inl rfl, Or.inl rfl, Or.inr rfl, Or.inr rfl, trivial⟩
set_option maxRecDepth 100000 in
set_option maxHeartbeats 4000000 in
theorem c_72 {sc : Nat × (Nat → Int32)} {d : Nat} {M : zM} {y z : Int32} : zC 47 sc (d + 4) 72 [.ref 0, .int y, .int z] M (some (.int (fSorts y z))) (M) := by
  unfold fSorts
  refine z_enter (L := [.ref 0, .int y, .int z, .null, .null, .null, .null]) rfl rfl rfl ?_
  refine zK.blk rfl ?_
  refine p_iloadn_1 ?_
  refine p_iloadn_2 ?_
  refine p_cs2i rfl rfl rfl rfl rfl (c_83) ?_
  refine p_ifB_ne (tgt := 10) (by decide) (fun hc5 => ?_) (fun hc5 => ?_)
  · skip
    rw [if_pos hc5]
    obtain ⟨q, t, hq1, hq, ht, rfl, rfl⟩ := zrl_x hc5
    have hz := z22_lt hq
    rw [nI_clamp (by omega), nI_clamp (by omega)]
    refine zK.blk rfl ?_
    refine p_iconst (v := nI 0) (by decide) ?_
    refine p_istoren_3 rfl ?_
    refine p_iconst (v := nI 0) (by decide) ?_
    refine p_istore_4 rfl ?_
    refine lp_72_15 hq (by omega) 6 0 0 (by omega) ?_
    refine zK.blk rfl ?_
    refine p_iloadn_3 ?_
    exact p_iret trivial rfl rfl
  · skip
    rw [if_neg (by rw [hc5]; decide)]
    refine p_iconst (v := -1) (by decide) ?_
    exact p_iret trivial rfl rfl
set_option maxRecDepth 100000 in
set_option maxHeartbeats 4000000 in
theorem st_123_133 {sc : Nat × (Nat → Int32)} {d : Nat} {M : zM} {q rows v y : Nat} {x3 : Value} (hq : q < 4) (hro : rows < 256) : zK 47 sc (zC 47 sc (d + 2)) 123 (some (.int (nI (v + y)))) M 133 [.ref 33, .int (nI q), .int (nI rows), x3] [.int (nI y), .int (nI v)] M := by
  refine zK.blk rfl ?_
  refine p_iaddN ?_
  refine p_istoren_3 rfl ?_
  refine p_iloadn_3 ?_
  exact p_iret trivial rfl rfl
set_option maxRecDepth 100000 in
set_option maxHeartbeats 4000000 in
theorem st_123_108 {sc : Nat × (Nat → Int32)} {d : Nat} {M : zM} {q rows v y : Nat} {x3 : Value} (hq : q < 4) (hro : rows < 256) : zK 47 sc (zC 47 sc (d + 2)) 123 (some (.int (nI (v + y + (if soB q rows 5 = true then 32 else 0))))) M 108 [.ref 33, .int (nI q), .int (nI rows), x3] [.int (nI y), .int (nI v)] M := by
  have hmk : soB q rows 5 = decide (mkN 3 232 q rows &&& (rows ^^^ zFF) = 0) := so_mk (v := rows) hq (show 5 < 6 by decide)
  have hml := mkN_lt (p := 3) (t := 232) (rows := rows) hq
  have ha : mkN 3 232 q rows &&& (rows ^^^ zFF) < 2 ^ 31 := zand_lt (by omega)
  refine zK.blk rfl ?_
  refine p_iaddN ?_
  refine p_istoren_3 rfl ?_
  refine p_iloadn_3 ?_
  refine p_iconst (v := nI 3) (by decide) ?_
  refine p_sipush (v := nI 232) (by decide) ?_
  refine p_iloadn_1 ?_
  refine p_iloadn_2 ?_
  refine p_cs4i rfl rfl rfl rfl rfl (c_117 (by decide) (by decide) hq (by omega)) ?_
  refine p_iloadn_2 ?_
  refine p_iconst (v := nI zFF) (by decide) ?_
  refine p_ixorN ?_
  refine p_iandN ?_
  refine p_ifN_ne (tgt := 132) (by decide) (by omega) (fun hc124 => ?_) (fun hc124 => ?_)
  · skip
    rw [if_neg (c := soB q rows 5 = true) (by rw [hmk, decide_eq_false hc124]; decide)]
    refine zK.blk rfl ?_
    refine p_iconst (v := nI 0) (by decide) ?_
    exact st_123_133 hq hro
  · skip
    rw [if_pos (c := soB q rows 5 = true) (by rw [hmk]; exact decide_eq_true (Classical.not_not.mp hc124))]
    refine p_bipush (v := nI 32) (by decide) ?_
    refine p_goto (tgt := 133) (by decide) ?_
    exact st_123_133 hq hro
set_option maxRecDepth 100000 in
set_option maxHeartbeats 4000000 in
theorem st_123_83 {sc : Nat × (Nat → Int32)} {d : Nat} {M : zM} {q rows v y : Nat} {x3 : Value} (hq : q < 4) (hro : rows < 256) : zK 47 sc (zC 47 sc (d + 2)) 123 (some (.int (nI (v + y + (if soB q rows 4 = true then 16 else 0) + (if soB q rows 5 = true then 32 else 0))))) M 83 [.ref 33, .int (nI q), .int (nI rows), x3] [.int (nI y), .int (nI v)] M := by
  have hmk : soB q rows 4 = decide (mkN 3 150 q rows &&& (rows ^^^ zFF) = 0) := so_mk (v := rows) hq (show 4 < 6 by decide)
  have hml := mkN_lt (p := 3) (t := 150) (rows := rows) hq
  have ha : mkN 3 150 q rows &&& (rows ^^^ zFF) < 2 ^ 31 := zand_lt (by omega)
  refine zK.blk rfl ?_
  refine p_iaddN ?_
  refine p_istoren_3 rfl ?_
  refine p_iloadn_3 ?_
  refine p_iconst (v := nI 3) (by decide) ?_
  refine p_sipush (v := nI 150) (by decide) ?_
  refine p_iloadn_1 ?_
  refine p_iloadn_2 ?_
  refine p_cs4i rfl rfl rfl rfl rfl (c_117 (by decide) (by decide) hq (by omega)) ?_
  refine p_iloadn_2 ?_
  refine p_iconst (v := nI zFF) (by decide) ?_
  refine p_ixorN ?_
  refine p_iandN ?_
  refine p_ifN_ne (tgt := 107) (by decide) (by omega) (fun hc99 => ?_) (fun hc99 => ?_)
  · skip
    rw [if_neg (c := soB q rows 4 = true) (by rw [hmk, decide_eq_false hc99]; decide)]
    refine zK.blk rfl ?_
    refine p_iconst (v := nI 0) (by decide) ?_
    exact st_123_108 hq hro
  · skip
    rw [if_pos (c := soB q rows 4 = true) (by rw [hmk]; exact decide_eq_true (Classical.not_not.mp hc99))]
    refine p_bipush (v := nI 16) (by decide) ?_
    refine p_goto (tgt := 108) (by decide) ?_
    exact st_123_108 hq hro
set_option maxRecDepth 100000 in
set_option maxHeartbeats 4000000 in
theorem st_123_59 {sc : Nat × (Nat → Int32)} {d : Nat} {M : zM} {q rows v y : Nat} {x3 : Value} (hq : q < 4) (hro : rows < 256) : zK 47 sc (zC 47 sc (d + 2)) 123 (some (.int (nI (v + y + (if soB q rows 3 = true then 8 else 0) + (if soB q rows 4 = true then 16 else 0) + (if soB q rows 5 = true then 32 else 0))))) M 59 [.ref 33, .int (nI q), .int (nI rows), x3] [.int (nI y), .int (nI v)] M := by
  have hmk : soB q rows 3 = decide (mkN 2 14 q rows &&& (rows ^^^ zFF) = 0) := so_mk (v := rows) hq (show 3 < 6 by decide)
  have hml := mkN_lt (p := 2) (t := 14) (rows := rows) hq
  have ha : mkN 2 14 q rows &&& (rows ^^^ zFF) < 2 ^ 31 := zand_lt (by omega)
  refine zK.blk rfl ?_
  refine p_iaddN ?_
  refine p_istoren_3 rfl ?_
  refine p_iloadn_3 ?_
  refine p_iconst (v := nI 2) (by decide) ?_
  refine p_bipush (v := nI 14) (by decide) ?_
  refine p_iloadn_1 ?_
  refine p_iloadn_2 ?_
  refine p_cs4i rfl rfl rfl rfl rfl (c_117 (by decide) (by decide) hq (by omega)) ?_
  refine p_iloadn_2 ?_
  refine p_iconst (v := nI zFF) (by decide) ?_
  refine p_ixorN ?_
  refine p_iandN ?_
  refine p_ifN_ne (tgt := 82) (by decide) (by omega) (fun hc74 => ?_) (fun hc74 => ?_)
  · skip
    rw [if_neg (c := soB q rows 3 = true) (by rw [hmk, decide_eq_false hc74]; decide)]
    refine zK.blk rfl ?_
    refine p_iconst (v := nI 0) (by decide) ?_
    exact st_123_83 hq hro
  · skip
    rw [if_pos (c := soB q rows 3 = true) (by rw [hmk]; exact decide_eq_true (Classical.not_not.mp hc74))]
    refine p_bipush (v := nI 8) (by decide) ?_
    refine p_goto (tgt := 83) (by decide) ?_
    exact st_123_83 hq hro
set_option maxRecDepth 100000 in
set_option maxHeartbeats 4000000 in
theorem st_123_36 {sc : Nat × (Nat → Int32)} {d : Nat} {M : zM} {q rows v y : Nat} {x3 : Value} (hq : q < 4) (hro : rows < 256) : zK 47 sc (zC 47 sc (d + 2)) 123 (some (.int (nI (v + y + (if soB q rows 2 = true then 4 else 0) + (if soB q rows 3 = true then 8 else 0) + (if soB q rows 4 = true then 16 else 0) + (if soB q rows 5 = true then 32 else 0))))) M 36 [.ref 33, .int (nI q), .int (nI rows), x3] [.int (nI y), .int (nI v)] M := by
  have hmk : soB q rows 2 = decide (mkN 2 8 q rows &&& (rows ^^^ zFF) = 0) := so_mk (v := rows) hq (show 2 < 6 by decide)
  have hml := mkN_lt (p := 2) (t := 8) (rows := rows) hq
  have ha : mkN 2 8 q rows &&& (rows ^^^ zFF) < 2 ^ 31 := zand_lt (by omega)
  refine zK.blk rfl ?_
  refine p_iaddN ?_
  refine p_istoren_3 rfl ?_
  refine p_iloadn_3 ?_
  refine p_iconst (v := nI 2) (by decide) ?_
  refine p_bipush (v := nI 8) (by decide) ?_
  refine p_iloadn_1 ?_
  refine p_iloadn_2 ?_
  refine p_cs4i rfl rfl rfl rfl rfl (c_117 (by decide) (by decide) hq (by omega)) ?_
  refine p_iloadn_2 ?_
  refine p_iconst (v := nI zFF) (by decide) ?_
  refine p_ixorN ?_
  refine p_iandN ?_
  refine p_ifN_ne (tgt := 58) (by decide) (by omega) (fun hc51 => ?_) (fun hc51 => ?_)
  · skip
    rw [if_neg (c := soB q rows 2 = true) (by rw [hmk, decide_eq_false hc51]; decide)]
    refine zK.blk rfl ?_
    refine p_iconst (v := nI 0) (by decide) ?_
    exact st_123_59 hq hro
  · skip
    rw [if_pos (c := soB q rows 2 = true) (by rw [hmk]; exact decide_eq_true (Classical.not_not.mp hc51))]
    refine p_iconst (v := nI 4) (by decide) ?_
    refine p_goto (tgt := 59) (by decide) ?_
    exact st_123_59 hq hro
set_option maxRecDepth 100000 in
set_option maxHeartbeats 4000000 in
theorem c_123 {sc : Nat × (Nat → Int32)} {d : Nat} {M : zM} {n : Nat} {P T K : Nat → Nat} {y z : Int32} (hsm : sgM M n P T K) : zC 47 sc (d + 3) 123 [.ref 33, .int y, .int z] M (some (.int (fSorts y z))) (M) := by
  obtain ⟨hth, hm, hn6, hR, hT⟩ := id hsm
  unfold fSorts
  refine z_enter (L := [.ref 33, .int y, .int z, .null]) rfl rfl rfl ?_
  refine zK.blk rfl ?_
  refine p_aloadn_0 ?_
  refine p_iconst (v := nI 0) (by decide) ?_
  refine p_put rfl rfl (by simp) ?_
  rw [zup_id hth]
  refine p_iloadn_1 ?_
  refine p_iloadn_2 ?_
  refine p_cs2i rfl rfl rfl rfl rfl (c_115) ?_
  refine p_ifB_ne (tgt := 15) (by decide) (fun hc10 => ?_) (fun hc10 => ?_)
  · skip
    rw [if_pos hc10]
    obtain ⟨q, v, hq1, hq, hv, rfl, rfl⟩ := zrl_x hc10
    have hz := z22_lt hq
    have hs := zsh_lt hq
    have hb := zb_lt v (1 <<< q - 1)
    rw [nI_clamp (by omega), nI_clamp (by omega), so_sum, show (if soB q v 0 = true then 1 else 0) = v &&& 1 by (rw [so_0 q hq v hv]; have h1 := zb_lt v 0; rw [Nat.shiftRight_zero] at h1; by_cases e : v &&& 1 = 1; (rw [decide_eq_true e, if_pos rfl, e]); (rw [decide_eq_false e, if_neg (by decide)]; omega))]
    refine zK.blk rfl ?_
    refine p_iloadn_2 ?_
    refine p_iconst (v := nI 1) (by decide) ?_
    refine p_iandN ?_
    refine p_iloadn_2 ?_
    refine p_iconst (v := nI 1) (by decide) ?_
    refine p_iloadn_1 ?_
    refine p_ishlN (by omega) ?_
    refine p_iconst (v := nI 1) (by decide) ?_
    refine p_isubN (by omega) ?_
    refine p_ishrN (by omega) (by omega) ?_
    refine p_iconst (v := nI 1) (by decide) ?_
    refine p_iandN ?_
    refine p_iconst (v := nI 1) (by decide) ?_
    refine p_icmpN_ne (tgt := 35) (by decide) (by omega) (by omega) (fun hc28 => ?_) (fun hc28 => ?_)
    · skip
      rw [if_neg (c := soB q v 1 = true) (by rw [so_1 q hq v hv, decide_eq_false hc28]; decide)]
      refine zK.blk rfl ?_
      refine p_iconst (v := nI 0) (by decide) ?_
      exact st_123_36 hq (by omega)
    · skip
      rw [if_pos (c := soB q v 1 = true) (by rw [so_1 q hq v hv]; exact decide_eq_true (by omega))]
      refine p_iconst (v := nI 2) (by decide) ?_
      refine p_goto (tgt := 36) (by decide) ?_
      exact st_123_36 hq (by omega)
  · skip
    rw [if_neg (by rw [hc10]; decide)]
    refine p_iconst (v := -1) (by decide) ?_
    exact p_iret trivial rfl rfl
