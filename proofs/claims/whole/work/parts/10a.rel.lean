/-- the union of what j turns from i on give -/
def zor (g : Nat → Nat) : Nat → Nat → Nat
  | 0, _ => 0
  | j + 1, i => g i ||| zor g j (i + 1)
theorem zor_step {g : Nat → Nat} {v x j i : Nat} (h : g i = x) : v ||| zor g (j + 1) i = (v ||| x) ||| zor g j (i + 1) := by
  show v ||| (g i ||| zor g j (i + 1)) = _
  rw [h, Nat.or_assoc]
theorem zor_zero {g : Nat → Nat} {v i : Nat} : v ||| zor g 0 i = v := Nat.or_zero v
theorem zor_lt {g : Nat → Nat} {n : Nat} (h : ∀ i, g i < 2 ^ n) : ∀ j i, zor g j i < 2 ^ n := by
  intro j
  induction j with
  | zero => intro i; exact Nat.two_pow_pos n
  | succ j ih => intro i; exact Nat.or_lt_two_pow (h i) (ih (i + 1))
def prG (one no last ch c : Nat) : Nat := if ch >>> c &&& 1 = 1 then 1 <<< (pkN c one no &&& last) else 0
def prN (one no last ch : Nat) : Nat := zor (prG one no last ch) (last + 1) 0
theorem zand_r (x : Nat) {y c : Nat} (h : y < c) : x &&& y < c := Nat.lt_of_le_of_lt Nat.and_le_right h
set_option maxRecDepth 100000 in
set_option maxHeartbeats 4000000 in
theorem lp_9_6 {sc : Nat × (Nat → Int32)} {d : Nat} {M : zM} {r : Option Value} {M' : zM} {one no last ch : Nat} (hl : last < 8) (hch : ch < 2 ^ 31) : ∀ (j i v : Nat), i + j = last + 1 → zK 47 sc (zC 47 sc (d + 1)) 9 r M' 44 [.int (nI one), .int (nI no), .int (nI last), .int (nI ch), .int (nI (v ||| zor (prG one no last ch) j i)), .int (nI (last + 1))] [] (M) → zK 47 sc (zC 47 sc (d + 1)) 9 r M' 6 [.int (nI one), .int (nI no), .int (nI last), .int (nI ch), .int (nI v), .int (nI i)] [] (M) := by
  intro j
  induction j with
  | zero =>
    intro i v  hj hk
    have hin : i = last + 1 := by omega
    subst hin
    rw [zor_zero] at hk
    refine zK.blk rfl ?_
    refine p_iload_5 ?_
    refine p_iloadn_2 ?_
    refine p_icmpN_gt (tgt := 44) (by decide) (by omega) (by omega) (fun hc9 => ?_) (fun hc9 => ?_)
    · skip
      exact hk
    · skip
      exact absurd hc9 (by omega) --STOP
  | succ j ih =>
    intro i v  hj hk
    have hb1 := zb_lt ch i
    have hx := zand_r (pkN i one no) (show last < 32 by omega)
    refine zK.blk rfl ?_
    refine p_iload_5 ?_
    refine p_iloadn_2 ?_
    refine p_icmpN_gt (tgt := 44) (by decide) (by omega) (by omega) (fun hc9 => ?_) (fun hc9 => ?_)
    · skip
      exact absurd hc9 (by omega) --STOP
    · skip
      refine p_iloadn_3 ?_
      refine p_iload_5 ?_
      refine p_cs2i rfl rfl rfl rfl rfl (c_3 (by omega) (by omega)) ?_
      refine p_iconst (v := nI 1) (by decide) ?_
      refine p_icmpN_ne (tgt := 38) (by decide) (by omega) (by omega) (fun hc19 => ?_) (fun hc19 => ?_)
      · skip
        rw [zor_step (x := 0) (by unfold prG; rw [if_neg hc19]), Nat.or_zero] at hk
        refine zK.blk rfl ?_
        refine p_iinc_5 (zN_inc _ 1) rfl ?_
        refine p_goto (tgt := 6) (by decide) ?_
        exact ih _ _ (by omega) hk
      · skip
        rw [zor_step (x := 1 <<< (pkN i one no &&& last)) (by unfold prG; rw [if_pos (by omega)])] at hk
        refine p_iload_4 ?_
        refine p_iconst (v := nI 1) (by decide) ?_
        refine p_iload_5 ?_
        refine p_iloadn_0 ?_
        refine p_iloadn_1 ?_
        refine p_cs3i rfl rfl rfl rfl rfl (c_5) ?_
        refine p_iloadn_2 ?_
        refine p_iandN ?_
        refine p_ishlN (by omega) ?_
        refine p_iorN ?_
        refine p_istore_4 rfl ?_
        refine zK.blk rfl ?_
        refine p_iinc_5 (zN_inc _ 1) rfl ?_
        refine p_goto (tgt := 6) (by decide) ?_
        exact ih _ _ (by omega) hk
set_option maxRecDepth 100000 in
set_option maxHeartbeats 4000000 in
theorem c_9 {sc : Nat × (Nat → Int32)} {d : Nat} {M : zM} {one no last ch : Nat} (hl : last < 8) (hch : ch < 2 ^ 31) : zC 47 sc (d + 2) 9 [.int (nI one), .int (nI no), .int (nI last), .int (nI ch)] M (some (.int (nI (prN one no last ch)))) (M) := by
  refine z_enter (L := [.int (nI one), .int (nI no), .int (nI last), .int (nI ch), .null, .null]) rfl rfl rfl ?_
  refine zK.blk rfl ?_
  refine p_iconst (v := nI 0) (by decide) ?_
  refine p_istore_4 rfl ?_
  refine p_iconst (v := nI 0) (by decide) ?_
  refine p_istore_5 rfl ?_
  refine lp_9_6 hl hch (last + 1) 0 0 (by omega) ?_
  rw [Nat.zero_or]
  refine zK.blk rfl ?_
  refine p_iload_4 ?_
  exact p_iret trivial rfl rfl
def trG1 (w last se th a b : Nat) : Nat := if se >>> b &&& 1 = 1 then prN (zttN (w >>> 4) a b) (zttN w a b) last th else 0
def trG (w last fi se th a : Nat) : Nat := if fi >>> a &&& 1 = 1 then zor (trG1 w last se th a) (last + 1) 0 else 0
def trM (w last fi se th : Nat) : Nat := zor (trG w last fi se th) (last + 1) 0
def trN (p w r rows : Nat) : Nat := trM w (1 <<< r - 1) (if 0 < p then rows else 1) (if 1 < p then rows else 1) (if 2 < p then rows else 1)
set_option maxRecDepth 100000 in
set_option maxHeartbeats 4000000 in
theorem lp_8_58 {sc : Nat × (Nat → Int32)} {d : Nat} {M : zM} {r : Option Value} {M' : zM} {p w r0 rows last fi se th a : Nat} (hl : last < 8) (hw : w < 2 ^ 31) (hfi : fi < 2 ^ 31) (hse : se < 2 ^ 31) (hth : th < 2 ^ 31) (ha : a < 32) (hf : fi >>> a &&& 1 = 1) : ∀ (j i v : Nat), i + j = last + 1 → zK 47 sc (zC 47 sc (d + 2)) 8 r M' 131 [.int (nI p), .int (nI w), .int (nI r0), .int (nI rows), .int (nI last), .int (nI fi), .int (nI se), .int (nI th), .int (nI (v ||| zor (trG1 w last se th a) j i)), .int (nI a), .int (nI (last + 1)), .null, .null] [] (M) → zK 47 sc (zC 47 sc (d + 2)) 8 r M' 58 [.int (nI p), .int (nI w), .int (nI r0), .int (nI rows), .int (nI last), .int (nI fi), .int (nI se), .int (nI th), .int (nI v), .int (nI a), .int (nI i), .null, .null] [] (M) := by
  intro j
  induction j with
  | zero =>
    intro i v  hj hk
    have hin : i = last + 1 := by omega
    subst hin
    rw [zor_zero] at hk
    refine zK.blk rfl ?_
    refine p_iload_10 ?_
    refine p_iload_4 ?_
    refine p_icmpN_gt (tgt := 131) (by decide) (by omega) (by omega) (fun hc62 => ?_) (fun hc62 => ?_)
    · skip
      exact hk
    · skip
      exact absurd hc62 (by omega) --STOP
  | succ j ih =>
    intro i v  hj hk
    have hb1 := zb_lt fi a
    have hb2 := zb_lt se i
    have hw4 : w >>> 4 < 2 ^ 31 := zshr_lt hw
    refine zK.blk rfl ?_
    refine p_iload_10 ?_
    refine p_iload_4 ?_
    refine p_icmpN_gt (tgt := 131) (by decide) (by omega) (by omega) (fun hc62 => ?_) (fun hc62 => ?_)
    · skip
      exact absurd hc62 (by omega) --STOP
    · skip
      refine p_iload_5 ?_
      refine p_iload_9 ?_
      refine p_cs2i rfl rfl rfl rfl rfl (c_3 (by omega) (by omega)) ?_
      refine p_iconst (v := nI 1) (by decide) ?_
      refine p_icmpN_ne (tgt := 131) (by decide) (by omega) (by omega) (fun hc73 => ?_) (fun hc73 => ?_)
      · skip
        exact absurd hf (by omega) --STOP
      · skip
        refine p_iload_6 ?_
        refine p_iload_10 ?_
        refine p_cs2i rfl rfl rfl rfl rfl (c_3 (by omega) (by omega)) ?_
        refine p_iconst (v := nI 1) (by decide) ?_
        refine p_icmpN_ne (tgt := 125) (by decide) (by omega) (by omega) (fun hc84 => ?_) (fun hc84 => ?_)
        · skip
          rw [zor_step (x := 0) (by unfold trG1; rw [if_neg hc84]), Nat.or_zero] at hk
          refine zK.blk rfl ?_
          refine p_iinc_10 (zN_inc _ 1) rfl ?_
          refine p_goto (tgt := 58) (by decide) ?_
          refine zK.forget _ ?_ (ih _ _ (by omega) hk)
          exact ⟨Or.inl rfl, Or.inl rfl, Or.inl rfl, Or.inl rfl, Or.inl rfl, Or.inl rfl, Or.inl rfl, Or.inl rfl, Or.inl rfl, Or.inl rfl, Or.inl rfl, Or.inr rfl, Or.inr rfl, trivial⟩
        · skip
          rw [zor_step (x := prN (zttN (w >>> 4) a i) (zttN w a i) last th) (by unfold trG1; rw [if_pos (by omega)])] at hk
          refine p_iloadn_1 ?_
          refine p_iconst (v := nI 4) (by decide) ?_
          refine p_ishrN (by omega) (by omega) ?_
          refine p_iload_9 ?_
          refine p_iload_10 ?_
          refine p_cs3i rfl rfl rfl rfl rfl (c_6 (by omega)) ?_
          refine p_istore_11 rfl ?_
          refine p_iloadn_1 ?_
          refine p_iload_9 ?_
          refine p_iload_10 ?_
          refine p_cs3i rfl rfl rfl rfl rfl (c_6 (by omega)) ?_
          refine p_istore_12 rfl ?_
          refine p_iload_8 ?_
          refine p_iload_11 ?_
          refine p_iload_12 ?_
          refine p_iload_4 ?_
          refine p_iload_7 ?_
          refine p_cs4i rfl rfl rfl rfl rfl (c_9 hl hth) ?_
          refine p_iorN ?_
          refine p_istore_8 rfl ?_
          refine zK.blk rfl ?_
          refine p_iinc_10 (zN_inc _ 1) rfl ?_
          refine p_goto (tgt := 58) (by decide) ?_
          refine zK.forget _ ?_ (ih _ _ (by omega) hk)
          exact ⟨Or.inl rfl, Or.inl rfl, Or.inl rfl, Or.inl rfl, Or.inl rfl, Or.inl rfl, Or.inl rfl, Or.inl rfl, Or.inl rfl, Or.inl rfl, Or.inl rfl, Or.inr rfl, Or.inr rfl, trivial⟩
set_option maxRecDepth 100000 in
set_option maxHeartbeats 4000000 in
theorem lp_8_48 {sc : Nat × (Nat → Int32)} {d : Nat} {M : zM} {r : Option Value} {M' : zM} {p w r0 rows last fi se th : Nat} (hl : last < 8) (hw : w < 2 ^ 31) (hfi : fi < 2 ^ 31) (hse : se < 2 ^ 31) (hth : th < 2 ^ 31) : ∀ (j i v : Nat), i + j = last + 1 → zK 47 sc (zC 47 sc (d + 2)) 8 r M' 137 [.int (nI p), .int (nI w), .int (nI r0), .int (nI rows), .int (nI last), .int (nI fi), .int (nI se), .int (nI th), .int (nI (v ||| zor (trG w last fi se th) j i)), .int (nI (last + 1)), .null, .null, .null] [] (M) → zK 47 sc (zC 47 sc (d + 2)) 8 r M' 48 [.int (nI p), .int (nI w), .int (nI r0), .int (nI rows), .int (nI last), .int (nI fi), .int (nI se), .int (nI th), .int (nI v), .int (nI i), .null, .null, .null] [] (M) := by
  intro j
  induction j with
  | zero =>
    intro i v  hj hk
    have hin : i = last + 1 := by omega
    subst hin
    rw [zor_zero] at hk
    refine zK.blk rfl ?_
    refine p_iload_9 ?_
    refine p_iload_4 ?_
    refine p_icmpN_gt (tgt := 137) (by decide) (by omega) (by omega) (fun hc52 => ?_) (fun hc52 => ?_)
    · skip
      exact hk
    · skip
      exact absurd hc52 (by omega) --STOP
  | succ j ih =>
    intro i v  hj hk
    refine zK.blk rfl ?_
    refine p_iload_9 ?_
    refine p_iload_4 ?_
    refine p_icmpN_gt (tgt := 137) (by decide) (by omega) (by omega) (fun hc52 => ?_) (fun hc52 => ?_)
    · skip
      exact absurd hc52 (by omega) --STOP
    · skip
      refine p_iconst (v := nI 0) (by decide) ?_
      refine p_istore_10 rfl ?_
      by_cases hf : fi >>> i &&& 1 = 1
      · rw [zor_step (x := zor (trG1 w last se th i) (last + 1) 0) (by unfold trG; rw [if_pos hf])] at hk
        refine lp_8_58 hl hw hfi hse hth (by omega) hf (last + 1) 0 v (by omega) ?_
        refine zK.blk rfl ?_
        refine p_iinc_9 (zN_inc _ 1) rfl ?_
        refine p_goto (tgt := 48) (by decide) ?_
        refine zK.forget _ ?_ (ih _ _ (by omega) hk)
        exact ⟨Or.inl rfl, Or.inl rfl, Or.inl rfl, Or.inl rfl, Or.inl rfl, Or.inl rfl, Or.inl rfl, Or.inl rfl, Or.inl rfl, Or.inl rfl, Or.inr rfl, Or.inl rfl, Or.inl rfl, trivial⟩
      · rw [zor_step (x := 0) (by unfold trG; rw [if_neg hf]), Nat.or_zero] at hk
        have hb1 := zb_lt fi i
        refine zK.blk rfl ?_
        refine p_iload_10 ?_
        refine p_iload_4 ?_
        refine p_icmpN_gt (tgt := 131) (by decide) (by omega) (by omega) (fun hc62 => ?_) (fun hc62 => ?_)
        · skip
          exact absurd hc62 (by omega) --STOP
        · skip
          refine p_iload_5 ?_
          refine p_iload_9 ?_
          refine p_cs2i rfl rfl rfl rfl rfl (c_3 (by omega) (by omega)) ?_
          refine p_iconst (v := nI 1) (by decide) ?_
          refine p_icmpN_ne (tgt := 131) (by decide) (by omega) (by omega) (fun hc73 => ?_) (fun hc73 => ?_)
          · skip
            refine zK.blk rfl ?_
            refine p_iinc_9 (zN_inc _ 1) rfl ?_
            refine p_goto (tgt := 48) (by decide) ?_
            refine zK.forget _ ?_ (ih _ _ (by omega) hk)
            exact ⟨Or.inl rfl, Or.inl rfl, Or.inl rfl, Or.inl rfl, Or.inl rfl, Or.inl rfl, Or.inl rfl, Or.inl rfl, Or.inl rfl, Or.inl rfl, Or.inr rfl, Or.inl rfl, Or.inl rfl, trivial⟩
          · skip
            exact absurd hf (by omega) --STOP
set_option maxRecDepth 100000 in
set_option maxHeartbeats 4000000 in
theorem st_8_40 {sc : Nat × (Nat → Int32)} {d : Nat} {M : zM} {p w r0 rows last fi se x : Nat} (hp : p < 4) (hl : last < 8) (hw : w < 2 ^ 31) (hro : rows < 2 ^ 31) (hfi : fi < 2 ^ 31) (hse : se < 2 ^ 31) (hx : x < 2 ^ 31) : zK 47 sc (zC 47 sc (d + 2)) 8 (some (.int (nI (trM w last fi se x)))) M 40 [.int (nI p), .int (nI w), .int (nI r0), .int (nI rows), .int (nI last), .int (nI fi), .int (nI se), .null, .null, .null, .null, .null, .null] [.int (nI x)] M := by
  refine zK.blk rfl ?_
  refine p_istore_7 rfl ?_
  refine p_iconst (v := nI 0) (by decide) ?_
  refine p_istore_8 rfl ?_
  refine p_iconst (v := nI 0) (by decide) ?_
  refine p_istore_9 rfl ?_
  refine lp_8_48 hl hw hfi hse hx (last + 1) 0 0 (by omega) ?_
  rw [Nat.zero_or]
  refine zK.blk rfl ?_
  refine p_iload_8 ?_
  exact p_iret trivial rfl rfl
set_option maxRecDepth 100000 in
set_option maxHeartbeats 4000000 in
theorem st_8_28 {sc : Nat × (Nat → Int32)} {d : Nat} {M : zM} {p w r0 rows last fi x : Nat} (hp : p < 4) (hl : last < 8) (hw : w < 2 ^ 31) (hro : rows < 2 ^ 31) (hfi : fi < 2 ^ 31) (hx : x < 2 ^ 31) : zK 47 sc (zC 47 sc (d + 2)) 8 (some (.int (nI (trM w last fi x (if 2 < p then rows else 1))))) M 28 [.int (nI p), .int (nI w), .int (nI r0), .int (nI rows), .int (nI last), .int (nI fi), .null, .null, .null, .null, .null, .null, .null] [.int (nI x)] M := by
  refine zK.blk rfl ?_
  refine p_istore_6 rfl ?_
  refine p_iloadn_0 ?_
  refine p_iconst (v := nI 2) (by decide) ?_
  refine p_icmpN_le (tgt := 39) (by decide) (by omega) (by omega) (fun hc32 => ?_) (fun hc32 => ?_)
  · skip
    rw [if_neg (by omega)]
    refine zK.blk rfl ?_
    refine p_iconst (v := nI 1) (by decide) ?_
    exact st_8_40 hp hl hw hro hfi hx (by omega)
  · skip
    rw [if_pos (by omega)]
    refine p_iloadn_3 ?_
    refine p_goto (tgt := 40) (by decide) ?_
    exact st_8_40 hp hl hw hro hfi hx (by omega)
set_option maxRecDepth 100000 in
set_option maxHeartbeats 4000000 in
theorem st_8_16 {sc : Nat × (Nat → Int32)} {d : Nat} {M : zM} {p w r0 rows last x : Nat} (hp : p < 4) (hl : last < 8) (hw : w < 2 ^ 31) (hro : rows < 2 ^ 31) (hx : x < 2 ^ 31) : zK 47 sc (zC 47 sc (d + 2)) 8 (some (.int (nI (trM w last x (if 1 < p then rows else 1) (if 2 < p then rows else 1))))) M 16 [.int (nI p), .int (nI w), .int (nI r0), .int (nI rows), .int (nI last), .null, .null, .null, .null, .null, .null, .null, .null] [.int (nI x)] M := by
  refine zK.blk rfl ?_
  refine p_istore_5 rfl ?_
  refine p_iloadn_0 ?_
  refine p_iconst (v := nI 1) (by decide) ?_
  refine p_icmpN_le (tgt := 27) (by decide) (by omega) (by omega) (fun hc20 => ?_) (fun hc20 => ?_)
  · skip
    rw [if_neg (show ¬ 1 < p by omega)]
    refine zK.blk rfl ?_
    refine p_iconst (v := nI 1) (by decide) ?_
    exact st_8_28 hp hl hw hro hx (by omega)
  · skip
    rw [if_pos (show 1 < p by omega)]
    refine p_iloadn_3 ?_
    refine p_goto (tgt := 28) (by decide) ?_
    exact st_8_28 hp hl hw hro hx (by omega)
set_option maxRecDepth 100000 in
set_option maxHeartbeats 4000000 in
theorem c_8 {sc : Nat × (Nat → Int32)} {d : Nat} {M : zM} {p w r0 rows : Nat} (hp : p < 4) (hr : r0 < 4) (hw : w < 2 ^ 31) (hro : rows < 2 ^ 31) : zC 47 sc (d + 3) 8 [.int (nI p), .int (nI w), .int (nI r0), .int (nI rows)] M (some (.int (nI (trN p w r0 rows)))) (M) := by
  have hs := zsh_lt hr
  unfold trN
  refine z_enter (L := [.int (nI p), .int (nI w), .int (nI r0), .int (nI rows), .null, .null, .null, .null, .null, .null, .null, .null, .null]) rfl rfl rfl ?_
  refine zK.blk rfl ?_
  refine p_iconst (v := nI 1) (by decide) ?_
  refine p_iloadn_2 ?_
  refine p_ishlN (by omega) ?_
  refine p_iconst (v := nI 1) (by decide) ?_
  refine p_isubN (by omega) ?_
  refine p_istore_4 rfl ?_
  refine p_iloadn_0 ?_
  refine p_ifN_le (tgt := 15) (by decide) (by omega) (fun hc8 => ?_) (fun hc8 => ?_)
  · skip
    rw [if_neg (show ¬ 0 < p by omega)]
    refine zK.blk rfl ?_
    refine p_iconst (v := nI 1) (by decide) ?_
    exact st_8_16 hp (by omega) hw hro (by omega)
  · skip
    rw [if_pos (show 0 < p by omega)]
    refine p_iloadn_3 ?_
    refine p_goto (tgt := 16) (by decide) ?_
    exact st_8_16 hp (by omega) hw hro (by omega)
