def toF (t a b c j v : Nat) : Nat := v ||| (t >>> ((a >>> j &&& 1) + 2 * (b >>> j &&& 1) + 4 * (c >>> j &&& 1)) &&& 1) <<< j
def toN (t m a b c : Nat) : Nat := zfor (toF t a b c) m 0 0
theorem zbs_lt (x i : Nat) : (x &&& 1) <<< i < 2 ^ (i + 1) := by
  have h := zb_lt x 0
  rw [Nat.shiftRight_zero] at h
  rw [Nat.shiftLeft_eq, Nat.pow_succ, Nat.mul_comm (2 ^ i)]
  exact Nat.mul_lt_mul_of_pos_right h (Nat.two_pow_pos i)
theorem toF_lt {t a b c m : Nat} : ∀ j i v, i + j = m → v < 2 ^ m → zfor (toF t a b c) j i v < 2 ^ m := by
  intro j
  induction j with
  | zero => intro i v h hv; exact hv
  | succ j ih =>
    intro i v h hv
    refine ih (i + 1) _ (by omega) (Nat.or_lt_two_pow hv ?_)
    exact Nat.lt_of_lt_of_le (zbs_lt _ i) (Nat.pow_le_pow_right (by decide) (by omega))
theorem toN_lt (t m a b c : Nat) : toN t m a b c < 2 ^ m := toF_lt m 0 0 (by omega) (Nat.two_pow_pos m)
theorem zrow_lt (a b c j : Nat) : (a >>> j &&& 1) + 2 * (b >>> j &&& 1) + 4 * (c >>> j &&& 1) < 8 := by
  have h1 := zb_lt a j
  have h2 := zb_lt b j
  have h3 := zb_lt c j
  omega
set_option maxRecDepth 100000 in
set_option maxHeartbeats 4000000 in
theorem lp_116_6 {sc : Nat × (Nat → Int32)} {d : Nat} {M : zM} {r : Option Value} {M' : zM} {t m a b c : Nat} (ht : t < 2 ^ 31) (hm : m < 32) (ha : a < 2 ^ 31) (hb : b < 2 ^ 31) (hc : c < 2 ^ 31) : ∀ (j i v : Nat), i + j = m → zK 47 sc (zC 47 sc (d + 0)) 116 r M' 59 [.int (nI t), .int (nI m), .int (nI a), .int (nI b), .int (nI c), .int (nI (zfor (toF t a b c) j i v)), .int (nI m), .null] [] (M) → zK 47 sc (zC 47 sc (d + 0)) 116 r M' 6 [.int (nI t), .int (nI m), .int (nI a), .int (nI b), .int (nI c), .int (nI v), .int (nI i), .null] [] (M) := by
  intro j
  induction j with
  | zero =>
    intro i v  hj hk
    obtain rfl : i = m := by omega
    refine zK.blk rfl ?_
    refine p_iload_6 ?_
    refine p_iloadn_1 ?_
    refine p_icmpN_ge (tgt := 59) (by decide) (by omega) (by omega) (fun hc9 => ?_) (fun hc9 => ?_)
    · skip
      exact hk
    · skip
      exact absurd hc9 (by omega) --STOP
  | succ j ih =>
    intro i v  hj hk
    have hrow := zrow_lt a b c i
    refine zK.blk rfl ?_
    refine p_iload_6 ?_
    refine p_iloadn_1 ?_
    refine p_icmpN_ge (tgt := 59) (by decide) (by omega) (by omega) (fun hc9 => ?_) (fun hc9 => ?_)
    · skip
      exact absurd hc9 (by omega) --STOP
    · skip
      refine p_iloadn_2 ?_
      refine p_iload_6 ?_
      refine p_ishrN (by omega) (by omega) ?_
      refine p_iconst (v := nI 1) (by decide) ?_
      refine p_iandN ?_
      refine p_iconst (v := nI 2) (by decide) ?_
      refine p_iloadn_3 ?_
      refine p_iload_6 ?_
      refine p_ishrN (by omega) (by omega) ?_
      refine p_iconst (v := nI 1) (by decide) ?_
      refine p_iandN ?_
      refine p_imulN ?_
      refine p_iaddN ?_
      refine p_iconst (v := nI 4) (by decide) ?_
      refine p_iload_4 ?_
      refine p_iload_6 ?_
      refine p_ishrN (by omega) (by omega) ?_
      refine p_iconst (v := nI 1) (by decide) ?_
      refine p_iandN ?_
      refine p_imulN ?_
      refine p_iaddN ?_
      refine p_istore_7 rfl ?_
      refine p_iload_5 ?_
      refine p_iloadn_0 ?_
      refine p_iload_7 ?_
      refine p_ishrN (by omega) (by omega) ?_
      refine p_iconst (v := nI 1) (by decide) ?_
      refine p_iandN ?_
      refine p_iload_6 ?_
      refine p_ishlN (by omega) ?_
      refine p_iorN ?_
      refine p_istore_5 rfl ?_
      refine p_iinc_6 (zN_inc _ 1) rfl ?_
      refine p_goto (tgt := 6) (by decide) ?_
      refine zK.forget _ ?_ (ih _ _ (by omega) hk)
      exact ⟨Or.inl rfl, Or.inl rfl, Or.inl rfl, Or.inl rfl, Or.inl rfl, Or.inl rfl, Or.inl rfl, Or.inr rfl, trivial⟩
set_option maxRecDepth 100000 in
set_option maxHeartbeats 4000000 in
theorem c_116 {sc : Nat × (Nat → Int32)} {d : Nat} {M : zM} {t m a b c : Nat} (ht : t < 2 ^ 31) (hm : m < 32) (ha : a < 2 ^ 31) (hb : b < 2 ^ 31) (hc : c < 2 ^ 31) : zC 47 sc (d + 1) 116 [.int (nI t), .int (nI m), .int (nI a), .int (nI b), .int (nI c)] M (some (.int (nI (toN t m a b c)))) (M) := by
  refine z_enter (L := [.int (nI t), .int (nI m), .int (nI a), .int (nI b), .int (nI c), .null, .null, .null]) rfl rfl rfl ?_
  refine zK.blk rfl ?_
  refine p_iconst (v := nI 0) (by decide) ?_
  refine p_istore_5 rfl ?_
  refine p_iconst (v := nI 0) (by decide) ?_
  refine p_istore_6 rfl ?_
  refine lp_116_6 ht hm ha hb hc m 0 0 (by omega) ?_
  refine zK.blk rfl ?_
  refine p_iload_5 ?_
  exact p_iret trivial rfl rfl
set_option maxRecDepth 100000 in
set_option maxHeartbeats 4000000 in
theorem lp_98_6 {sc : Nat × (Nat → Int32)} {d : Nat} {M : zM} {r : Option Value} {M' : zM} {q n t a b c : Nat} (hn : n < 4) (hq : q < 6) (hM : M 35 q = nI t) (ht : t < 2 ^ 31) (ha : a < 2 ^ 31) (hb : b < 2 ^ 31) (hc : c < 2 ^ 31) : ∀ (j i v : Nat), i + j = 1 <<< n → zK 47 sc (zC 47 sc (d + 0)) 98 r M' 67 [.ref 33, .int (nI q), .int (nI n), .int (nI a), .int (nI b), .int (nI c), .int (nI (zfor (toF t a b c) j i v)), .int (nI (1 <<< n)), .null] [] (M) → zK 47 sc (zC 47 sc (d + 0)) 98 r M' 6 [.ref 33, .int (nI q), .int (nI n), .int (nI a), .int (nI b), .int (nI c), .int (nI v), .int (nI i), .null] [] (M) := by
  intro j
  induction j with
  | zero =>
    intro i v  hj hk
    have hin : i = 1 <<< n := by omega
    subst hin
    have hs := zsh_lt hn
    refine zK.blk rfl ?_
    refine p_iload_7 ?_
    refine p_iconst (v := nI 1) (by decide) ?_
    refine p_iloadn_2 ?_
    refine p_ishlN (by omega) ?_
    refine p_icmpN_ge (tgt := 67) (by decide) (by omega) (by omega) (fun hc11 => ?_) (fun hc11 => ?_)
    · skip
      exact hk
    · skip
      exact absurd hc11 (by omega) --STOP
  | succ j ih =>
    intro i v  hj hk
    have hs := zsh_lt hn
    have hrow := zrow_lt a b c i
    refine zK.blk rfl ?_
    refine p_iload_7 ?_
    refine p_iconst (v := nI 1) (by decide) ?_
    refine p_iloadn_2 ?_
    refine p_ishlN (by omega) ?_
    refine p_icmpN_ge (tgt := 67) (by decide) (by omega) (by omega) (fun hc11 => ?_) (fun hc11 => ?_)
    · skip
      exact absurd hc11 (by omega) --STOP
    · skip
      refine p_iloadn_3 ?_
      refine p_iload_7 ?_
      refine p_ishrN (by omega) (by omega) ?_
      refine p_iconst (v := nI 1) (by decide) ?_
      refine p_iandN ?_
      refine p_iconst (v := nI 2) (by decide) ?_
      refine p_iload_4 ?_
      refine p_iload_7 ?_
      refine p_ishrN (by omega) (by omega) ?_
      refine p_iconst (v := nI 1) (by decide) ?_
      refine p_iandN ?_
      refine p_imulN ?_
      refine p_iaddN ?_
      refine p_iconst (v := nI 4) (by decide) ?_
      refine p_iload_5 ?_
      refine p_iload_7 ?_
      refine p_ishrN (by omega) (by omega) ?_
      refine p_iconst (v := nI 1) (by decide) ?_
      refine p_iandN ?_
      refine p_imulN ?_
      refine p_iaddN ?_
      refine p_istore_8 rfl ?_
      refine p_iload_6 ?_
      refine p_aloadn_0 ?_
      refine p_getr rfl rfl ?_
      refine p_iloadn_1 ?_
      refine p_iald rfl (by omega) (by decide) (by first | assumption | rfl) ?_
      refine p_iload_8 ?_
      refine p_ishrN (by omega) (by omega) ?_
      refine p_iconst (v := nI 1) (by decide) ?_
      refine p_iandN ?_
      refine p_iload_7 ?_
      refine p_ishlN (by omega) ?_
      refine p_iorN ?_
      refine p_istore_6 rfl ?_
      refine p_iinc_7 (zN_inc _ 1) rfl ?_
      refine p_goto (tgt := 6) (by decide) ?_
      refine zK.forget _ ?_ (ih _ _ (by omega) hk)
      exact ⟨Or.inl rfl, Or.inl rfl, Or.inl rfl, Or.inl rfl, Or.inl rfl, Or.inl rfl, Or.inl rfl, Or.inl rfl, Or.inr rfl, trivial⟩
set_option maxRecDepth 100000 in
set_option maxHeartbeats 4000000 in
theorem c_98 {sc : Nat × (Nat → Int32)} {d : Nat} {M : zM} {q n t a b c : Nat} (hn : n < 4) (hq : q < 6) (hM : M 35 q = nI t) (ht : t < 2 ^ 31) (ha : a < 2 ^ 31) (hb : b < 2 ^ 31) (hc : c < 2 ^ 31) : zC 47 sc (d + 1) 98 [.ref 33, .int (nI q), .int (nI n), .int (nI a), .int (nI b), .int (nI c)] M (some (.int (nI (toN t (1 <<< n) a b c)))) (M) := by
  refine z_enter (L := [.ref 33, .int (nI q), .int (nI n), .int (nI a), .int (nI b), .int (nI c), .null, .null, .null]) rfl rfl rfl ?_
  refine zK.blk rfl ?_
  refine p_iconst (v := nI 0) (by decide) ?_
  refine p_istore_6 rfl ?_
  refine p_iconst (v := nI 0) (by decide) ?_
  refine p_istore_7 rfl ?_
  refine lp_98_6 hn hq hM ht ha hb hc (1 <<< n) 0 0 (by omega) ?_
  refine zK.blk rfl ?_
  refine p_iload_6 ?_
  exact p_iret trivial rfl rfl
def mkB (n k rows x : Nat) : Bool := decide (n < k) || decide (rows >>> x &&& 1 = 1)
theorem mkB_lt {n k rows x : Nat} (h : n < k) : mkB n k rows x = true := by unfold mkB; rw [decide_eq_true h]; rfl
theorem mkB_t {n k rows x : Nat} (h : rows >>> x &&& 1 = 1) : mkB n k rows x = true := by unfold mkB; rw [decide_eq_true h, Bool.or_true]
theorem mkB_f {n k rows x : Nat} (h1 : ¬ n < k) (h2 : ¬ rows >>> x &&& 1 = 1) : mkB n k rows x = false := by unfold mkB; rw [decide_eq_false h1, decide_eq_false h2]; rfl
def mkG (n t m rows a b c : Nat) : Nat := if (mkB n 1 rows a && mkB n 2 rows b && mkB n 3 rows c) = true then 1 <<< toN t m a b c else 0
def mkN2 (n t m rows a b : Nat) : Nat := zor (mkG n t m rows a b) (if 2 < n then 1 <<< m else 1) 0
def mkN1 (n t m rows a : Nat) : Nat := zor (mkN2 n t m rows a) (if 1 < n then 1 <<< m else 1) 0
def mkN (n t m rows : Nat) : Nat := zor (mkN1 n t m rows) (if 0 < n then 1 <<< m else 1) 0
set_option maxRecDepth 100000 in
set_option maxHeartbeats 4000000 in
theorem st_117_114 {sc : Nat × (Nat → Int32)} {d : Nat} {M : zM} {r : Option Value} {M' : zM} {n t m rows v al a b c x : Nat} (hn : n < 4) (ht : t < 2 ^ 31) (hm : m < 4) (hro : rows < 2 ^ 31) (hal : al = 1 <<< m) (ha : a < 8) (hb : b < 8) (hc : c < 8) (hx : x < 2) (hk : zK 47 sc (zC 47 sc (d + 1)) 117 r M' 48 [.int (nI n), .int (nI t), .int (nI m), .int (nI rows), .int (nI (v ||| (if x = 0 then 0 else 1 <<< toN t m a b c))), .int (nI al), .int (nI a), .int (nI b), .int (nI (c + 1)), .null] [] M) : zK 47 sc (zC 47 sc (d + 1)) 117 r M' 114 [.int (nI n), .int (nI t), .int (nI m), .int (nI rows), .int (nI v), .int (nI al), .int (nI a), .int (nI b), .int (nI c), .null] [.int (nI x)] M := by
  have hs := zsh_lt hm
  subst hal
  have htl := toN_lt t m a b c
  have ht8 : 2 ^ m ≤ 8 := by rcases (show m = 0 ∨ m = 1 ∨ m = 2 ∨ m = 3 by omega) with rfl | rfl | rfl | rfl <;> decide
  refine zK.blk rfl ?_
  refine p_istore_9 rfl ?_
  refine p_iload_4 ?_
  refine p_iload_9 ?_
  refine p_ifN_eq (tgt := 139) (by decide) (by omega) (fun hc120 => ?_) (fun hc120 => ?_)
  · skip
    rw [if_pos hc120] at hk
    refine zK.blk rfl ?_
    refine p_iconst (v := nI 0) (by decide) ?_
    refine zK.blk rfl ?_
    refine p_iorN ?_
    refine p_istore_4 rfl ?_
    refine p_iinc_8 (zN_inc _ 1) rfl ?_
    refine p_goto (tgt := 48) (by decide) ?_
    refine zK.forget _ ?_ (hk)
    exact ⟨Or.inl rfl, Or.inl rfl, Or.inl rfl, Or.inl rfl, Or.inl rfl, Or.inl rfl, Or.inl rfl, Or.inl rfl, Or.inl rfl, Or.inr rfl, trivial⟩
  · skip
    rw [if_neg hc120] at hk
    refine p_iconst (v := nI 1) (by decide) ?_
    refine p_iloadn_1 ?_
    refine p_iloadn_2 ?_
    refine p_iload_6 ?_
    refine p_iload_7 ?_
    refine p_iload_8 ?_
    refine p_cs5i rfl rfl rfl rfl rfl (c_116 ht (by omega) (by omega) (by omega) (by omega)) ?_
    refine p_ishlN (by omega) ?_
    refine p_goto (tgt := 140) (by decide) ?_
    refine zK.blk rfl ?_
    refine p_iorN ?_
    refine p_istore_4 rfl ?_
    refine p_iinc_8 (zN_inc _ 1) rfl ?_
    refine p_goto (tgt := 48) (by decide) ?_
    refine zK.forget _ ?_ (hk)
    exact ⟨Or.inl rfl, Or.inl rfl, Or.inl rfl, Or.inl rfl, Or.inl rfl, Or.inl rfl, Or.inl rfl, Or.inl rfl, Or.inl rfl, Or.inr rfl, trivial⟩
set_option maxRecDepth 100000 in
set_option maxHeartbeats 4000000 in
theorem st_117_94 {sc : Nat × (Nat → Int32)} {d : Nat} {M : zM} {r : Option Value} {M' : zM} {n t m rows v al a b c : Nat} (hn : n < 4) (ht : t < 2 ^ 31) (hm : m < 4) (hro : rows < 2 ^ 31) (hal : al = 1 <<< m) (ha : a < 8) (hb : b < 8) (hc : c < 8) (hk : zK 47 sc (zC 47 sc (d + 1)) 117 r M' 48 [.int (nI n), .int (nI t), .int (nI m), .int (nI rows), .int (nI (v ||| (if mkB n 3 rows c = true then 1 <<< toN t m a b c else 0))), .int (nI al), .int (nI a), .int (nI b), .int (nI (c + 1)), .null] [] M) : zK 47 sc (zC 47 sc (d + 1)) 117 r M' 94 [.int (nI n), .int (nI t), .int (nI m), .int (nI rows), .int (nI v), .int (nI al), .int (nI a), .int (nI b), .int (nI c), .null] [] M := by
  have hb3 := zb_lt rows c
  refine zK.blk rfl ?_
  refine p_iloadn_0 ?_
  refine p_iconst (v := nI 3) (by decide) ?_
  refine p_icmpN_lt (tgt := 109) (by decide) (by omega) (by omega) (fun hc96 => ?_) (fun hc96 => ?_)
  · skip
    rw [if_pos (mkB_lt hc96)] at hk
    refine zK.blk rfl ?_
    refine p_iconst (v := nI 1) (by decide) ?_
    refine p_goto (tgt := 114) (by decide) ?_
    exact st_117_114 hn ht hm hro hal ha hb hc (by decide) hk
  · skip
    refine p_iloadn_3 ?_
    refine p_iload_8 ?_
    refine p_ishrN (by omega) (by omega) ?_
    refine p_iconst (v := nI 1) (by decide) ?_
    refine p_iandN ?_
    refine p_iconst (v := nI 1) (by decide) ?_
    refine p_icmpN_ne (tgt := 113) (by decide) (by omega) (by omega) (fun hc106 => ?_) (fun hc106 => ?_)
    · skip
      rw [if_neg (by rw [mkB_f hc96 hc106]; decide)] at hk
      refine zK.blk rfl ?_
      refine p_iconst (v := nI 0) (by decide) ?_
      exact st_117_114 hn ht hm hro hal ha hb hc (by decide) hk
    · skip
      rw [if_pos (mkB_t (by omega))] at hk
      refine zK.blk rfl ?_
      refine p_iconst (v := nI 1) (by decide) ?_
      refine p_goto (tgt := 114) (by decide) ?_
      exact st_117_114 hn ht hm hro hal ha hb hc (by decide) hk
set_option maxRecDepth 100000 in
set_option maxHeartbeats 4000000 in
theorem st_117_79 {sc : Nat × (Nat → Int32)} {d : Nat} {M : zM} {r : Option Value} {M' : zM} {n t m rows v al a b c : Nat} (hn : n < 4) (ht : t < 2 ^ 31) (hm : m < 4) (hro : rows < 2 ^ 31) (hal : al = 1 <<< m) (ha : a < 8) (hb : b < 8) (hc : c < 8) (hk : zK 47 sc (zC 47 sc (d + 1)) 117 r M' 48 [.int (nI n), .int (nI t), .int (nI m), .int (nI rows), .int (nI (v ||| (if (mkB n 2 rows b && mkB n 3 rows c) = true then 1 <<< toN t m a b c else 0))), .int (nI al), .int (nI a), .int (nI b), .int (nI (c + 1)), .null] [] M) : zK 47 sc (zC 47 sc (d + 1)) 117 r M' 79 [.int (nI n), .int (nI t), .int (nI m), .int (nI rows), .int (nI v), .int (nI al), .int (nI a), .int (nI b), .int (nI c), .null] [] M := by
  have hb3 := zb_lt rows b
  refine zK.blk rfl ?_
  refine p_iloadn_0 ?_
  refine p_iconst (v := nI 2) (by decide) ?_
  refine p_icmpN_lt (tgt := 94) (by decide) (by omega) (by omega) (fun hc81 => ?_) (fun hc81 => ?_)
  · skip
    rw [mkB_lt (k := 2) hc81, Bool.true_and] at hk
    exact st_117_94 hn ht hm hro hal ha hb hc hk
  · skip
    refine p_iloadn_3 ?_
    refine p_iload_7 ?_
    refine p_ishrN (by omega) (by omega) ?_
    refine p_iconst (v := nI 1) (by decide) ?_
    refine p_iandN ?_
    refine p_iconst (v := nI 1) (by decide) ?_
    refine p_icmpN_ne (tgt := 113) (by decide) (by omega) (by omega) (fun hc91 => ?_) (fun hc91 => ?_)
    · skip
      rw [mkB_f (k := 2) hc81 hc91, Bool.false_and, if_neg (by decide)] at hk
      refine zK.blk rfl ?_
      refine p_iconst (v := nI 0) (by decide) ?_
      exact st_117_114 hn ht hm hro hal ha hb hc (by decide) hk
    · skip
      rw [mkB_t (n := n) (k := 2) (rows := rows) (x := b) (by omega), Bool.true_and] at hk
      exact st_117_94 hn ht hm hro hal ha hb hc hk
set_option maxRecDepth 100000 in
set_option maxHeartbeats 4000000 in
theorem lp_117_48 {sc : Nat × (Nat → Int32)} {d : Nat} {M : zM} {r : Option Value} {M' : zM} {n t m rows al a b N3 : Nat} (hn : n < 4) (ht : t < 2 ^ 31) (hm : m < 4) (hro : rows < 2 ^ 31) (hal : al = 1 <<< m) (ha : a < 8) (hb : b < 8) (hN : N3 = if 2 < n then al else 1) : ∀ (j i v : Nat), i + j = N3 → zK 47 sc (zC 47 sc (d + 1)) 117 r M' 149 [.int (nI n), .int (nI t), .int (nI m), .int (nI rows), .int (nI (v ||| zor (mkG n t m rows a b) j i)), .int (nI al), .int (nI a), .int (nI b), .int (nI N3), .null] [] (M) → zK 47 sc (zC 47 sc (d + 1)) 117 r M' 48 [.int (nI n), .int (nI t), .int (nI m), .int (nI rows), .int (nI v), .int (nI al), .int (nI a), .int (nI b), .int (nI i), .null] [] (M) := by
  intro j
  induction j with
  | zero =>
    intro i v  hj hk
    obtain rfl : i = N3 := by omega
    have hs := zsh_lt hm
    rw [zor_zero] at hk
    refine zK.blk rfl ?_
    refine p_iload_8 ?_
    refine p_iloadn_0 ?_
    refine p_iconst (v := nI 2) (by decide) ?_
    refine p_icmpN_le (tgt := 60) (by decide) (by omega) (by omega) (fun hc52 => ?_) (fun hc52 => ?_)
    · skip
      have hN1 : i = 1 := by rw [hN, if_neg (by omega)]
      refine zK.blk rfl ?_
      refine p_iconst (v := nI 1) (by decide) ?_
      refine zK.blk rfl ?_
      refine p_icmpN_ge (tgt := 149) (by decide) (by omega) (by omega) (fun hc61 => ?_) (fun hc61 => ?_)
      · skip
        exact hk
      · skip
        exact absurd hc61 (by omega) --STOP
    · skip
      have hN1 : i = al := by rw [hN, if_pos (by omega)]
      refine p_iload_5 ?_
      refine p_goto (tgt := 61) (by decide) ?_
      refine zK.blk rfl ?_
      refine p_icmpN_ge (tgt := 149) (by decide) (by omega) (by omega) (fun hc61 => ?_) (fun hc61 => ?_)
      · skip
        exact hk
      · skip
        exact absurd hc61 (by omega) --STOP
  | succ j ih =>
    intro i v  hj hk
    have hs := zsh_lt hm
    have hb3 := zb_lt rows a
    have hN8 : N3 ≤ 8 := by rw [hN]; split <;> omega
    refine zK.blk rfl ?_
    refine p_iload_8 ?_
    refine p_iloadn_0 ?_
    refine p_iconst (v := nI 2) (by decide) ?_
    refine p_icmpN_le (tgt := 60) (by decide) (by omega) (by omega) (fun hc52 => ?_) (fun hc52 => ?_)
    · skip
      have hN1 : N3 = 1 := by rw [hN, if_neg (by omega)]
      refine zK.blk rfl ?_
      refine p_iconst (v := nI 1) (by decide) ?_
      refine zK.blk rfl ?_
      refine p_icmpN_ge (tgt := 149) (by decide) (by omega) (by omega) (fun hc61 => ?_) (fun hc61 => ?_)
      · skip
        exact absurd hc61 (by omega) --STOP
      · skip
        refine p_iloadn_0 ?_
        refine p_iconst (v := nI 1) (by decide) ?_
        refine p_icmpN_lt (tgt := 79) (by decide) (by omega) (by omega) (fun hc66 => ?_) (fun hc66 => ?_)
        · skip
          rw [zor_step (x := if (mkB n 2 rows b && mkB n 3 rows i) = true then 1 <<< toN t m a b i else 0) (by unfold mkG; rw [mkB_lt (k := 1) hc66, Bool.true_and])] at hk
          exact st_117_79 hn ht hm hro hal ha hb (by omega) (ih _ _ (by omega) hk)
        · skip
          refine p_iloadn_3 ?_
          refine p_iload_6 ?_
          refine p_ishrN (by omega) (by omega) ?_
          refine p_iconst (v := nI 1) (by decide) ?_
          refine p_iandN ?_
          refine p_iconst (v := nI 1) (by decide) ?_
          refine p_icmpN_ne (tgt := 113) (by decide) (by omega) (by omega) (fun hc76 => ?_) (fun hc76 => ?_)
          · skip
            rw [zor_step (x := 0) (by unfold mkG; rw [mkB_f (k := 1) hc66 hc76, Bool.false_and, Bool.false_and, if_neg (by decide)])] at hk
            refine zK.blk rfl ?_
            refine p_iconst (v := nI 0) (by decide) ?_
            exact st_117_114 hn ht hm hro hal ha hb (by omega) (by decide) (ih _ _ (by omega) hk)
          · skip
            rw [zor_step (x := if (mkB n 2 rows b && mkB n 3 rows i) = true then 1 <<< toN t m a b i else 0) (by unfold mkG; rw [mkB_t (n := n) (k := 1) (rows := rows) (x := a) (by omega), Bool.true_and])] at hk
            exact st_117_79 hn ht hm hro hal ha hb (by omega) (ih _ _ (by omega) hk)
    · skip
      have hN1 : N3 = al := by rw [hN, if_pos (by omega)]
      refine p_iload_5 ?_
      refine p_goto (tgt := 61) (by decide) ?_
      refine zK.blk rfl ?_
      refine p_icmpN_ge (tgt := 149) (by decide) (by omega) (by omega) (fun hc61 => ?_) (fun hc61 => ?_)
      · skip
        exact absurd hc61 (by omega) --STOP
      · skip
        refine p_iloadn_0 ?_
        refine p_iconst (v := nI 1) (by decide) ?_
        refine p_icmpN_lt (tgt := 79) (by decide) (by omega) (by omega) (fun hc66 => ?_) (fun hc66 => ?_)
        · skip
          rw [zor_step (x := if (mkB n 2 rows b && mkB n 3 rows i) = true then 1 <<< toN t m a b i else 0) (by unfold mkG; rw [mkB_lt (k := 1) hc66, Bool.true_and])] at hk
          exact st_117_79 hn ht hm hro hal ha hb (by omega) (ih _ _ (by omega) hk)
        · skip
          refine p_iloadn_3 ?_
          refine p_iload_6 ?_
          refine p_ishrN (by omega) (by omega) ?_
          refine p_iconst (v := nI 1) (by decide) ?_
          refine p_iandN ?_
          refine p_iconst (v := nI 1) (by decide) ?_
          refine p_icmpN_ne (tgt := 113) (by decide) (by omega) (by omega) (fun hc76 => ?_) (fun hc76 => ?_)
          · skip
            rw [zor_step (x := 0) (by unfold mkG; rw [mkB_f (k := 1) hc66 hc76, Bool.false_and, Bool.false_and, if_neg (by decide)])] at hk
            refine zK.blk rfl ?_
            refine p_iconst (v := nI 0) (by decide) ?_
            exact st_117_114 hn ht hm hro hal ha hb (by omega) (by decide) (ih _ _ (by omega) hk)
          · skip
            rw [zor_step (x := if (mkB n 2 rows b && mkB n 3 rows i) = true then 1 <<< toN t m a b i else 0) (by unfold mkG; rw [mkB_t (n := n) (k := 1) (rows := rows) (x := a) (by omega), Bool.true_and])] at hk
            exact st_117_79 hn ht hm hro hal ha hb (by omega) (ih _ _ (by omega) hk)
set_option maxRecDepth 100000 in
set_option maxHeartbeats 4000000 in
theorem lp_117_29 {sc : Nat × (Nat → Int32)} {d : Nat} {M : zM} {r : Option Value} {M' : zM} {n t m rows al a N2 : Nat} (hn : n < 4) (ht : t < 2 ^ 31) (hm : m < 4) (hro : rows < 2 ^ 31) (hal : al = 1 <<< m) (ha : a < 8) (hN : N2 = if 1 < n then al else 1) : ∀ (j i v : Nat), i + j = N2 → zK 47 sc (zC 47 sc (d + 1)) 117 r M' 155 [.int (nI n), .int (nI t), .int (nI m), .int (nI rows), .int (nI (v ||| zor (mkN2 n t m rows a) j i)), .int (nI al), .int (nI a), .int (nI N2), .null, .null] [] (M) → zK 47 sc (zC 47 sc (d + 1)) 117 r M' 29 [.int (nI n), .int (nI t), .int (nI m), .int (nI rows), .int (nI v), .int (nI al), .int (nI a), .int (nI i), .null, .null] [] (M) := by
  intro j
  induction j with
  | zero =>
    intro i v  hj hk
    obtain rfl : i = N2 := by omega
    have hs := zsh_lt hm
    rw [zor_zero] at hk
    refine zK.blk rfl ?_
    refine p_iload_7 ?_
    refine p_iloadn_0 ?_
    refine p_iconst (v := nI 1) (by decide) ?_
    refine p_icmpN_le (tgt := 41) (by decide) (by omega) (by omega) (fun hc33 => ?_) (fun hc33 => ?_)
    · skip
      have hN1 : i = 1 := by rw [hN, if_neg (by omega)]
      refine zK.blk rfl ?_
      refine p_iconst (v := nI 1) (by decide) ?_
      refine zK.blk rfl ?_
      refine p_icmpN_ge (tgt := 155) (by decide) (by omega) (by omega) (fun hc42 => ?_) (fun hc42 => ?_)
      · skip
        exact hk
      · skip
        exact absurd hc42 (by omega) --STOP
    · skip
      have hN1 : i = al := by rw [hN, if_pos (by omega)]
      refine p_iload_5 ?_
      refine p_goto (tgt := 42) (by decide) ?_
      refine zK.blk rfl ?_
      refine p_icmpN_ge (tgt := 155) (by decide) (by omega) (by omega) (fun hc42 => ?_) (fun hc42 => ?_)
      · skip
        exact hk
      · skip
        exact absurd hc42 (by omega) --STOP
  | succ j ih =>
    intro i v  hj hk
    have hs := zsh_lt hm
    have hN8 : N2 ≤ 8 := by rw [hN]; split <;> omega
    refine zK.blk rfl ?_
    refine p_iload_7 ?_
    refine p_iloadn_0 ?_
    refine p_iconst (v := nI 1) (by decide) ?_
    refine p_icmpN_le (tgt := 41) (by decide) (by omega) (by omega) (fun hc33 => ?_) (fun hc33 => ?_)
    · skip
      have hN1 : N2 = 1 := by rw [hN, if_neg (by omega)]
      refine zK.blk rfl ?_
      refine p_iconst (v := nI 1) (by decide) ?_
      refine zK.blk rfl ?_
      refine p_icmpN_ge (tgt := 155) (by decide) (by omega) (by omega) (fun hc42 => ?_) (fun hc42 => ?_)
      · skip
        exact absurd hc42 (by omega) --STOP
      · skip
        refine p_iconst (v := nI 0) (by decide) ?_
        refine p_istore_8 rfl ?_
        rw [zor_step (x := mkN2 n t m rows a i) rfl] at hk
        refine lp_117_48 hn ht hm hro hal ha (by omega) rfl (if 2 < n then al else 1) 0 v (by omega) ?_
        rw [show zor (mkG n t m rows a i) (if 2 < n then al else 1) 0 = mkN2 n t m rows a i by unfold mkN2; rw [hal]]
        refine zK.blk rfl ?_
        refine p_iinc_7 (zN_inc _ 1) rfl ?_
        refine p_goto (tgt := 29) (by decide) ?_
        refine zK.forget _ ?_ (ih _ _ (by omega) hk)
        exact ⟨Or.inl rfl, Or.inl rfl, Or.inl rfl, Or.inl rfl, Or.inl rfl, Or.inl rfl, Or.inl rfl, Or.inl rfl, Or.inr rfl, Or.inl rfl, trivial⟩
    · skip
      have hN1 : N2 = al := by rw [hN, if_pos (by omega)]
      refine p_iload_5 ?_
      refine p_goto (tgt := 42) (by decide) ?_
      refine zK.blk rfl ?_
      refine p_icmpN_ge (tgt := 155) (by decide) (by omega) (by omega) (fun hc42 => ?_) (fun hc42 => ?_)
      · skip
        exact absurd hc42 (by omega) --STOP
      · skip
        refine p_iconst (v := nI 0) (by decide) ?_
        refine p_istore_8 rfl ?_
        rw [zor_step (x := mkN2 n t m rows a i) rfl] at hk
        refine lp_117_48 hn ht hm hro hal ha (by omega) rfl (if 2 < n then al else 1) 0 v (by omega) ?_
        rw [show zor (mkG n t m rows a i) (if 2 < n then al else 1) 0 = mkN2 n t m rows a i by unfold mkN2; rw [hal]]
        refine zK.blk rfl ?_
        refine p_iinc_7 (zN_inc _ 1) rfl ?_
        refine p_goto (tgt := 29) (by decide) ?_
        refine zK.forget _ ?_ (ih _ _ (by omega) hk)
        exact ⟨Or.inl rfl, Or.inl rfl, Or.inl rfl, Or.inl rfl, Or.inl rfl, Or.inl rfl, Or.inl rfl, Or.inl rfl, Or.inr rfl, Or.inl rfl, trivial⟩
set_option maxRecDepth 100000 in
set_option maxHeartbeats 4000000 in
theorem lp_117_11 {sc : Nat × (Nat → Int32)} {d : Nat} {M : zM} {r : Option Value} {M' : zM} {n t m rows al N1 : Nat} (hn : n < 4) (ht : t < 2 ^ 31) (hm : m < 4) (hro : rows < 2 ^ 31) (hal : al = 1 <<< m) (hN : N1 = if 0 < n then al else 1) : ∀ (j i v : Nat), i + j = N1 → zK 47 sc (zC 47 sc (d + 1)) 117 r M' 161 [.int (nI n), .int (nI t), .int (nI m), .int (nI rows), .int (nI (v ||| zor (mkN1 n t m rows) j i)), .int (nI al), .int (nI N1), .null, .null, .null] [] (M) → zK 47 sc (zC 47 sc (d + 1)) 117 r M' 11 [.int (nI n), .int (nI t), .int (nI m), .int (nI rows), .int (nI v), .int (nI al), .int (nI i), .null, .null, .null] [] (M) := by
  intro j
  induction j with
  | zero =>
    intro i v  hj hk
    obtain rfl : i = N1 := by omega
    have hs := zsh_lt hm
    rw [zor_zero] at hk
    refine zK.blk rfl ?_
    refine p_iload_6 ?_
    refine p_iloadn_0 ?_
    refine p_ifN_le (tgt := 22) (by decide) (by omega) (fun hc14 => ?_) (fun hc14 => ?_)
    · skip
      have hN1 : i = 1 := by rw [hN, if_neg (by omega)]
      refine zK.blk rfl ?_
      refine p_iconst (v := nI 1) (by decide) ?_
      refine zK.blk rfl ?_
      refine p_icmpN_ge (tgt := 161) (by decide) (by omega) (by omega) (fun hc23 => ?_) (fun hc23 => ?_)
      · skip
        exact hk
      · skip
        exact absurd hc23 (by omega) --STOP
    · skip
      have hN1 : i = al := by rw [hN, if_pos (by omega)]
      refine p_iload_5 ?_
      refine p_goto (tgt := 23) (by decide) ?_
      refine zK.blk rfl ?_
      refine p_icmpN_ge (tgt := 161) (by decide) (by omega) (by omega) (fun hc23 => ?_) (fun hc23 => ?_)
      · skip
        exact hk
      · skip
        exact absurd hc23 (by omega) --STOP
  | succ j ih =>
    intro i v  hj hk
    have hs := zsh_lt hm
    have hN8 : N1 ≤ 8 := by rw [hN]; split <;> omega
    refine zK.blk rfl ?_
    refine p_iload_6 ?_
    refine p_iloadn_0 ?_
    refine p_ifN_le (tgt := 22) (by decide) (by omega) (fun hc14 => ?_) (fun hc14 => ?_)
    · skip
      have hN1 : N1 = 1 := by rw [hN, if_neg (by omega)]
      refine zK.blk rfl ?_
      refine p_iconst (v := nI 1) (by decide) ?_
      refine zK.blk rfl ?_
      refine p_icmpN_ge (tgt := 161) (by decide) (by omega) (by omega) (fun hc23 => ?_) (fun hc23 => ?_)
      · skip
        exact absurd hc23 (by omega) --STOP
      · skip
        refine p_iconst (v := nI 0) (by decide) ?_
        refine p_istore_7 rfl ?_
        rw [zor_step (x := mkN1 n t m rows i) rfl] at hk
        refine lp_117_29 hn ht hm hro hal (by omega) rfl (if 1 < n then al else 1) 0 v (by omega) ?_
        rw [show zor (mkN2 n t m rows i) (if 1 < n then al else 1) 0 = mkN1 n t m rows i by unfold mkN1; rw [hal]]
        refine zK.blk rfl ?_
        refine p_iinc_6 (zN_inc _ 1) rfl ?_
        refine p_goto (tgt := 11) (by decide) ?_
        refine zK.forget _ ?_ (ih _ _ (by omega) hk)
        exact ⟨Or.inl rfl, Or.inl rfl, Or.inl rfl, Or.inl rfl, Or.inl rfl, Or.inl rfl, Or.inl rfl, Or.inr rfl, Or.inl rfl, Or.inl rfl, trivial⟩
    · skip
      have hN1 : N1 = al := by rw [hN, if_pos (by omega)]
      refine p_iload_5 ?_
      refine p_goto (tgt := 23) (by decide) ?_
      refine zK.blk rfl ?_
      refine p_icmpN_ge (tgt := 161) (by decide) (by omega) (by omega) (fun hc23 => ?_) (fun hc23 => ?_)
      · skip
        exact absurd hc23 (by omega) --STOP
      · skip
        refine p_iconst (v := nI 0) (by decide) ?_
        refine p_istore_7 rfl ?_
        rw [zor_step (x := mkN1 n t m rows i) rfl] at hk
        refine lp_117_29 hn ht hm hro hal (by omega) rfl (if 1 < n then al else 1) 0 v (by omega) ?_
        rw [show zor (mkN2 n t m rows i) (if 1 < n then al else 1) 0 = mkN1 n t m rows i by unfold mkN1; rw [hal]]
        refine zK.blk rfl ?_
        refine p_iinc_6 (zN_inc _ 1) rfl ?_
        refine p_goto (tgt := 11) (by decide) ?_
        refine zK.forget _ ?_ (ih _ _ (by omega) hk)
        exact ⟨Or.inl rfl, Or.inl rfl, Or.inl rfl, Or.inl rfl, Or.inl rfl, Or.inl rfl, Or.inl rfl, Or.inr rfl, Or.inl rfl, Or.inl rfl, trivial⟩
set_option maxRecDepth 100000 in
set_option maxHeartbeats 4000000 in
theorem c_117 {sc : Nat × (Nat → Int32)} {d : Nat} {M : zM} {n t m rows : Nat} (hn : n < 4) (ht : t < 2 ^ 31) (hm : m < 4) (hro : rows < 2 ^ 31) : zC 47 sc (d + 2) 117 [.int (nI n), .int (nI t), .int (nI m), .int (nI rows)] M (some (.int (nI (mkN n t m rows)))) (M) := by
  have hs := zsh_lt hm
  refine z_enter (L := [.int (nI n), .int (nI t), .int (nI m), .int (nI rows), .null, .null, .null, .null, .null, .null]) rfl rfl rfl ?_
  refine zK.blk rfl ?_
  refine p_iconst (v := nI 0) (by decide) ?_
  refine p_istore_4 rfl ?_
  refine p_iconst (v := nI 1) (by decide) ?_
  refine p_iloadn_2 ?_
  refine p_ishlN (by omega) ?_
  refine p_istore_5 rfl ?_
  refine p_iconst (v := nI 0) (by decide) ?_
  refine p_istore_6 rfl ?_
  refine lp_117_11 hn ht hm hro rfl rfl (if 0 < n then 1 <<< m else 1) 0 0 (by omega) ?_
  rw [Nat.zero_or]
  refine zK.blk rfl ?_
  refine p_iload_4 ?_
  exact p_iret trivial rfl rfl
