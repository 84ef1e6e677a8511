def krF (t q v i ri : Nat) : Nat := if t >>> (q ||| 1 <<< i) &&& 1 < v then ri &&& 0 else ri &&& 1
def kF (n t last q : Nat) (ab : Nat × Nat) : Nat × Nat := (if t >>> (last - q) &&& 1 = t >>> q &&& 1 then ab.1 &&& 0 else ab.1 &&& 1, zfor (krF t q (t >>> q &&& 1)) n 0 ab.2)
def kA (n t : Nat) : Nat × Nat := zfor (kF n t (1 <<< n - 1)) (1 <<< n) 0 (1, 1)
def ksF (s q i v : Nat) : Nat := v + ((s &&& q) >>> i &&& 1)
def kiF (n t s o q b : Nat) : Nat := if zfor (ksF s q) n 0 o % 2 = t >>> q &&& 1 then b &&& 1 else b &&& 0
def koF (n t s o su : Nat) : Nat := su ||| zfor (kiF n t s o) (1 <<< n) 0 1
def kcF (n t s su : Nat) : Nat := zfor (koF n t s) 2 0 su
def kS (n t : Nat) : Nat := zfor (kcF n t) (1 <<< n) 0 0
def kmN (n t : Nat) : Nat := (if t &&& 1 = 0 then 1 else 0) + (if t >>> (1 <<< n - 1) &&& 1 = 1 then 2 else 0) + (if (kA n t).1 = 0 then 0 else 4) + (if (kA n t).2 = 0 then 0 else 8) + (if kS n t = 0 then 0 else 16)
theorem kA_lt : ∀ n, n < 4 → ∀ t, t < z22 n → (kA n t).1 < 2 ∧ (kA n t).2 < 2 ∧ kS n t < 2 := by decide +kernel
theorem kb_km : ∀ n, n < 4 → ∀ t, t < z22 n → kbN n t = kmN n t ∧ kmN n t < 32 := by decide +kernel
theorem mp_ma : ∀ t, t < 256 → mpN 3 t = maN t ∧ maN t < 8 := by decide +kernel
theorem oh_mo : ∀ t, t < 256 → ohN 3 t = moN t ∧ moN t < 256 := by decide +kernel
theorem pl_pl : ∀ n, n < 4 → ∀ i, i < n → plN n i = (zpl i &&& (z22 n - 1)) := by decide +kernel
theorem ks_le (s q : Nat) : ∀ j i v, zfor (ksF s q) j i v ≤ v + j := by
  intro j
  induction j with
  | zero => intro i v; exact Nat.le_refl _
  | succ j ih =>
    intro i v
    have h1 := ih (i + 1) (ksF s q i v)
    have h2 := zb_lt (s &&& q) i
    have h3 : ksF s q i v = v + ((s &&& q) >>> i &&& 1) := rfl
    show zfor (ksF s q) j (i + 1) (ksF s q i v) ≤ _
    omega
theorem zN_mod2 : ∀ a, a < 8 → nI a - nI a / nI 2 * nI 2 = nI (a % 2) := by decide +kernel
theorem zand_lt {a b c : Nat} (h : a < c) : a &&& b < c := Nat.lt_of_le_of_lt Nat.and_le_left h
set_option maxRecDepth 100000 in
set_option maxHeartbeats 4000000 in
theorem lp_94_60 {sc : Nat × (Nat → Int32)} {d : Nat} {M : zM} {r : Option Value} {M' : zM} {n t rw la su tu q v : Nat} (hn : n < 4) (ht : t < 2 ^ 31) (hrw : rw = 1 <<< n) (hla : la = rw - 1) (hq : q < rw) (hv : v < 2) : ∀ (j i ri : Nat), i + j = n → zK 47 sc (zC 47 sc (d + 0)) 94 r M' 98 [.int (nI n), .int (nI t), .int (nI rw), .int (nI la), .int (nI tu), .int (nI (zfor (krF t q v) j i ri)), .int (nI su), .int (nI q), .int (nI v), .int (nI n), .null, .null, .null] [] (M) → zK 47 sc (zC 47 sc (d + 0)) 94 r M' 60 [.int (nI n), .int (nI t), .int (nI rw), .int (nI la), .int (nI tu), .int (nI ri), .int (nI su), .int (nI q), .int (nI v), .int (nI i), .null, .null, .null] [] (M) := by
  intro j
  induction j with
  | zero =>
    intro i ri  hj hk
    obtain rfl : i = n := by omega
    have hs := zsh_lt hn
    refine zK.blk rfl ?_
    refine p_iload_9 ?_
    refine p_iloadn_0 ?_
    refine p_icmpN_ge (tgt := 98) (by decide) (by omega) (by omega) (fun hc63 => ?_) (fun hc63 => ?_)
    · skip
      exact hk
    · skip
      exact absurd hc63 (by omega) --STOP
  | succ j ih =>
    intro i ri  hj hk
    have hs := zsh_lt hn
    have hx := zo_lt (show q < 8 by omega) (show i < 3 by omega)
    have hb1 := zb_lt t (q ||| 1 <<< i)
    refine zK.blk rfl ?_
    refine p_iload_9 ?_
    refine p_iloadn_0 ?_
    refine p_icmpN_ge (tgt := 98) (by decide) (by omega) (by omega) (fun hc63 => ?_) (fun hc63 => ?_)
    · skip
      exact absurd hc63 (by omega) --STOP
    · skip
      refine p_iload_5 ?_
      refine p_iload_8 ?_
      refine p_iloadn_1 ?_
      refine p_iload_7 ?_
      refine p_iconst (v := nI 1) (by decide) ?_
      refine p_iload_9 ?_
      refine p_ishlN (by omega) ?_
      refine p_iorN ?_
      refine p_ishrN (by omega) (by omega) ?_
      refine p_iconst (v := nI 1) (by decide) ?_
      refine p_iandN ?_
      refine p_icmpN_gt (tgt := 88) (by decide) (by omega) (by omega) (fun hc81 => ?_) (fun hc81 => ?_)
      · skip
        rw [zfor_step (f := krF t q v) (a' := ri &&& 0) (by unfold krF; rw [if_pos hc81])] at hk
        refine zK.blk rfl ?_
        refine p_iconst (v := nI 0) (by decide) ?_
        refine zK.blk rfl ?_
        refine p_iandN ?_
        refine p_istore_5 rfl ?_
        refine p_iinc_9 (zN_inc _ 1) rfl ?_
        refine p_goto (tgt := 60) (by decide) ?_
        exact ih _ _ (by omega) hk
      · skip
        rw [zfor_step (f := krF t q v) (a' := ri &&& 1) (by unfold krF; rw [if_neg hc81])] at hk
        refine p_iconst (v := nI 1) (by decide) ?_
        refine p_goto (tgt := 89) (by decide) ?_
        refine zK.blk rfl ?_
        refine p_iandN ?_
        refine p_istore_5 rfl ?_
        refine p_iinc_9 (zN_inc _ 1) rfl ?_
        refine p_goto (tgt := 60) (by decide) ?_
        exact ih _ _ (by omega) hk
set_option maxRecDepth 100000 in
set_option maxHeartbeats 4000000 in
theorem lp_94_20 {sc : Nat × (Nat → Int32)} {d : Nat} {M : zM} {r : Option Value} {M' : zM} {n t rw la su : Nat} (hn : n < 4) (ht : t < 2 ^ 31) (hrw : rw = 1 <<< n) (hla : la = rw - 1) : ∀ (j i tu ri : Nat), i + j = rw → zK 47 sc (zC 47 sc (d + 0)) 94 r M' 104 [.int (nI n), .int (nI t), .int (nI rw), .int (nI la), .int (nI (zfor (kF n t la) j i (tu, ri)).1), .int (nI (zfor (kF n t la) j i (tu, ri)).2), .int (nI su), .int (nI rw), .null, .null, .null, .null, .null] [] (M) → zK 47 sc (zC 47 sc (d + 0)) 94 r M' 20 [.int (nI n), .int (nI t), .int (nI rw), .int (nI la), .int (nI tu), .int (nI ri), .int (nI su), .int (nI i), .null, .null, .null, .null, .null] [] (M) := by
  intro j
  induction j with
  | zero =>
    intro i tu ri  hj hk
    obtain rfl : i = rw := by omega
    have hs := zsh_lt hn
    refine zK.blk rfl ?_
    refine p_iload_7 ?_
    refine p_iloadn_2 ?_
    refine p_icmpN_ge (tgt := 104) (by decide) (by omega) (by omega) (fun hc23 => ?_) (fun hc23 => ?_)
    · skip
      exact hk
    · skip
      exact absurd hc23 (by omega) --STOP
  | succ j ih =>
    intro i tu ri  hj hk
    have hs := zsh_lt hn
    have hb1 := zb_lt t i
    have hb2 := zb_lt t (la - i)
    refine zK.blk rfl ?_
    refine p_iload_7 ?_
    refine p_iloadn_2 ?_
    refine p_icmpN_ge (tgt := 104) (by decide) (by omega) (by omega) (fun hc23 => ?_) (fun hc23 => ?_)
    · skip
      exact absurd hc23 (by omega) --STOP
    · skip
      refine p_iloadn_1 ?_
      refine p_iload_7 ?_
      refine p_ishrN (by omega) (by omega) ?_
      refine p_iconst (v := nI 1) (by decide) ?_
      refine p_iandN ?_
      refine p_istore_8 rfl ?_
      refine p_iload_4 ?_
      refine p_iloadn_1 ?_
      refine p_iloadn_3 ?_
      refine p_iload_7 ?_
      refine p_isubN (by omega) ?_
      refine p_ishrN (by omega) (by omega) ?_
      refine p_iconst (v := nI 1) (by decide) ?_
      refine p_iandN ?_
      refine p_iload_8 ?_
      refine p_icmpN_eq (tgt := 53) (by decide) (by omega) (by omega) (fun hc46 => ?_) (fun hc46 => ?_)
      · skip
        rw [zfor_step (f := kF n t la) (a' := (tu &&& 0, zfor (krF t i (t >>> i &&& 1)) n 0 ri)) (by unfold kF; rw [if_pos hc46])] at hk
        refine zK.blk rfl ?_
        refine p_iconst (v := nI 0) (by decide) ?_
        refine zK.blk rfl ?_
        refine p_iandN ?_
        refine p_istore_4 rfl ?_
        refine p_iconst (v := nI 0) (by decide) ?_
        refine p_istore_9 rfl ?_
        refine lp_94_60 hn ht hrw hla (by omega) hb1 n 0 ri (by omega) ?_
        refine zK.blk rfl ?_
        refine p_iinc_7 (zN_inc _ 1) rfl ?_
        refine p_goto (tgt := 20) (by decide) ?_
        refine zK.forget _ ?_ (ih _ _ _ (by omega) hk)
        exact ⟨Or.inl rfl, Or.inl rfl, Or.inl rfl, Or.inl rfl, Or.inl rfl, Or.inl rfl, Or.inl rfl, Or.inl rfl, Or.inr rfl, Or.inr rfl, Or.inl rfl, Or.inl rfl, Or.inl rfl, trivial⟩
      · skip
        rw [zfor_step (f := kF n t la) (a' := (tu &&& 1, zfor (krF t i (t >>> i &&& 1)) n 0 ri)) (by unfold kF; rw [if_neg hc46])] at hk
        refine p_iconst (v := nI 1) (by decide) ?_
        refine p_goto (tgt := 54) (by decide) ?_
        refine zK.blk rfl ?_
        refine p_iandN ?_
        refine p_istore_4 rfl ?_
        refine p_iconst (v := nI 0) (by decide) ?_
        refine p_istore_9 rfl ?_
        refine lp_94_60 hn ht hrw hla (by omega) hb1 n 0 ri (by omega) ?_
        refine zK.blk rfl ?_
        refine p_iinc_7 (zN_inc _ 1) rfl ?_
        refine p_goto (tgt := 20) (by decide) ?_
        refine zK.forget _ ?_ (ih _ _ _ (by omega) hk)
        exact ⟨Or.inl rfl, Or.inl rfl, Or.inl rfl, Or.inl rfl, Or.inl rfl, Or.inl rfl, Or.inl rfl, Or.inl rfl, Or.inr rfl, Or.inr rfl, Or.inl rfl, Or.inl rfl, Or.inl rfl, trivial⟩
set_option maxRecDepth 100000 in
set_option maxHeartbeats 4000000 in
theorem lp_94_141 {sc : Nat × (Nat → Int32)} {d : Nat} {M : zM} {r : Option Value} {M' : zM} {n t rw la su tu ri s o is q : Nat} (hn : n < 4) (ht : t < 2 ^ 31) (hrw : rw = 1 <<< n) (hla : la = rw - 1) (hs0 : s < rw) (hq : q < rw) : ∀ (j i v : Nat), i + j = n → zK 47 sc (zC 47 sc (d + 0)) 94 r M' 168 [.int (nI n), .int (nI t), .int (nI rw), .int (nI la), .int (nI tu), .int (nI ri), .int (nI su), .int (nI s), .int (nI o), .int (nI is), .int (nI q), .int (nI (zfor (ksF s q) j i v)), .int (nI n)] [] (M) → zK 47 sc (zC 47 sc (d + 0)) 94 r M' 141 [.int (nI n), .int (nI t), .int (nI rw), .int (nI la), .int (nI tu), .int (nI ri), .int (nI su), .int (nI s), .int (nI o), .int (nI is), .int (nI q), .int (nI v), .int (nI i)] [] (M) := by
  intro j
  induction j with
  | zero =>
    intro i v  hj hk
    obtain rfl : i = n := by omega
    have hs := zsh_lt hn
    refine zK.blk rfl ?_
    refine p_iload_12 ?_
    refine p_iloadn_0 ?_
    refine p_icmpN_ge (tgt := 168) (by decide) (by omega) (by omega) (fun hc144 => ?_) (fun hc144 => ?_)
    · skip
      exact hk
    · skip
      exact absurd hc144 (by omega) --STOP
  | succ j ih =>
    intro i v  hj hk
    have hs := zsh_lt hn
    refine zK.blk rfl ?_
    refine p_iload_12 ?_
    refine p_iloadn_0 ?_
    refine p_icmpN_ge (tgt := 168) (by decide) (by omega) (by omega) (fun hc144 => ?_) (fun hc144 => ?_)
    · skip
      exact absurd hc144 (by omega) --STOP
    · skip
      refine p_iload_11 ?_
      refine p_iload_7 ?_
      refine p_iload_10 ?_
      refine p_iandN ?_
      have hsq : s &&& q < 2 ^ 31 := zand_lt (by omega)
      refine p_iload_12 ?_
      refine p_ishrN (by omega) (by omega) ?_
      refine p_iconst (v := nI 1) (by decide) ?_
      refine p_iandN ?_
      refine p_iaddN ?_
      refine p_istore_11 rfl ?_
      refine p_iinc_12 (zN_inc _ 1) rfl ?_
      refine p_goto (tgt := 141) (by decide) ?_
      exact ih _ _ (by omega) hk
set_option maxRecDepth 100000 in
set_option maxHeartbeats 4000000 in
theorem lp_94_128 {sc : Nat × (Nat → Int32)} {d : Nat} {M : zM} {r : Option Value} {M' : zM} {n t rw la su tu ri s o : Nat} (hn : n < 4) (ht : t < 2 ^ 31) (hrw : rw = 1 <<< n) (hla : la = rw - 1) (hs0 : s < rw) (ho : o < 2) : ∀ (j i b : Nat), i + j = rw → zK 47 sc (zC 47 sc (d + 0)) 94 r M' 197 [.int (nI n), .int (nI t), .int (nI rw), .int (nI la), .int (nI tu), .int (nI ri), .int (nI su), .int (nI s), .int (nI o), .int (nI (zfor (kiF n t s o) j i b)), .int (nI rw), .null, .null] [] (M) → zK 47 sc (zC 47 sc (d + 0)) 94 r M' 128 [.int (nI n), .int (nI t), .int (nI rw), .int (nI la), .int (nI tu), .int (nI ri), .int (nI su), .int (nI s), .int (nI o), .int (nI b), .int (nI i), .null, .null] [] (M) := by
  intro j
  induction j with
  | zero =>
    intro i b  hj hk
    obtain rfl : i = rw := by omega
    have hs := zsh_lt hn
    refine zK.blk rfl ?_
    refine p_iload_10 ?_
    refine p_iloadn_2 ?_
    refine p_icmpN_ge (tgt := 197) (by decide) (by omega) (by omega) (fun hc131 => ?_) (fun hc131 => ?_)
    · skip
      exact hk
    · skip
      exact absurd hc131 (by omega) --STOP
  | succ j ih =>
    intro i b  hj hk
    have hs := zsh_lt hn
    have hb1 := zb_lt t i
    have hle := ks_le s i n 0 o
    refine zK.blk rfl ?_
    refine p_iload_10 ?_
    refine p_iloadn_2 ?_
    refine p_icmpN_ge (tgt := 197) (by decide) (by omega) (by omega) (fun hc131 => ?_) (fun hc131 => ?_)
    · skip
      exact absurd hc131 (by omega) --STOP
    · skip
      refine p_iload_8 ?_
      refine p_istore_11 rfl ?_
      refine p_iconst (v := nI 0) (by decide) ?_
      refine p_istore_12 rfl ?_
      refine lp_94_141 hn ht hrw hla hs0 (by omega) n 0 o (by omega) ?_
      refine zK.blk rfl ?_
      refine p_iload_9 ?_
      refine p_iload_11 ?_
      refine p_iconst (v := nI 2) (by decide) ?_
      refine p_irem (v := nI (zfor (ksF s i) n 0 o % 2)) (by decide) (zN_mod2 _ (by omega)) ?_
      refine p_iloadn_1 ?_
      refine p_iload_10 ?_
      refine p_ishrN (by omega) (by omega) ?_
      refine p_iconst (v := nI 1) (by decide) ?_
      refine p_iandN ?_
      refine p_icmpN_ne (tgt := 187) (by decide) (by omega) (by omega) (fun hc180 => ?_) (fun hc180 => ?_)
      · skip
        rw [zfor_step (f := kiF n t s o) (a' := b &&& 0) (by unfold kiF; rw [if_neg hc180])] at hk
        refine zK.blk rfl ?_
        refine p_iconst (v := nI 0) (by decide) ?_
        refine zK.blk rfl ?_
        refine p_iandN ?_
        refine p_istore_9 rfl ?_
        refine p_iinc_10 (zN_inc _ 1) rfl ?_
        refine p_goto (tgt := 128) (by decide) ?_
        refine zK.forget _ ?_ (ih _ _ (by omega) hk)
        exact ⟨Or.inl rfl, Or.inl rfl, Or.inl rfl, Or.inl rfl, Or.inl rfl, Or.inl rfl, Or.inl rfl, Or.inl rfl, Or.inl rfl, Or.inl rfl, Or.inl rfl, Or.inr rfl, Or.inr rfl, trivial⟩
      · skip
        rw [zfor_step (f := kiF n t s o) (a' := b &&& 1) (by unfold kiF; rw [if_pos (by omega)])] at hk
        refine p_iconst (v := nI 1) (by decide) ?_
        refine p_goto (tgt := 188) (by decide) ?_
        refine zK.blk rfl ?_
        refine p_iandN ?_
        refine p_istore_9 rfl ?_
        refine p_iinc_10 (zN_inc _ 1) rfl ?_
        refine p_goto (tgt := 128) (by decide) ?_
        refine zK.forget _ ?_ (ih _ _ (by omega) hk)
        exact ⟨Or.inl rfl, Or.inl rfl, Or.inl rfl, Or.inl rfl, Or.inl rfl, Or.inl rfl, Or.inl rfl, Or.inl rfl, Or.inl rfl, Or.inl rfl, Or.inl rfl, Or.inr rfl, Or.inr rfl, trivial⟩
set_option maxRecDepth 100000 in
set_option maxHeartbeats 4000000 in
theorem lp_94_116 {sc : Nat × (Nat → Int32)} {d : Nat} {M : zM} {r : Option Value} {M' : zM} {n t rw la tu ri s : Nat} (hn : n < 4) (ht : t < 2 ^ 31) (hrw : rw = 1 <<< n) (hla : la = rw - 1) (hs0 : s < rw) : ∀ (j i su : Nat), i + j = 2 → zK 47 sc (zC 47 sc (d + 0)) 94 r M' 210 [.int (nI n), .int (nI t), .int (nI rw), .int (nI la), .int (nI tu), .int (nI ri), .int (nI (zfor (koF n t s) j i su)), .int (nI s), .int (nI 2), .null, .null, .null, .null] [] (M) → zK 47 sc (zC 47 sc (d + 0)) 94 r M' 116 [.int (nI n), .int (nI t), .int (nI rw), .int (nI la), .int (nI tu), .int (nI ri), .int (nI su), .int (nI s), .int (nI i), .null, .null, .null, .null] [] (M) := by
  intro j
  induction j with
  | zero =>
    intro i su  hj hk
    obtain rfl : i = 2 := by omega
    refine zK.blk rfl ?_
    refine p_iload_8 ?_
    refine p_iconst (v := nI 2) (by decide) ?_
    refine p_icmpN_ge (tgt := 210) (by decide) (by omega) (by omega) (fun hc119 => ?_) (fun hc119 => ?_)
    · skip
      exact hk
    · skip
      exact absurd hc119 (by omega) --STOP
  | succ j ih =>
    intro i su  hj hk
    subst hrw
    refine zK.blk rfl ?_
    refine p_iload_8 ?_
    refine p_iconst (v := nI 2) (by decide) ?_
    refine p_icmpN_ge (tgt := 210) (by decide) (by omega) (by omega) (fun hc119 => ?_) (fun hc119 => ?_)
    · skip
      exact absurd hc119 (by omega) --STOP
    · skip
      refine p_iconst (v := nI 1) (by decide) ?_
      refine p_istore_9 rfl ?_
      refine p_iconst (v := nI 0) (by decide) ?_
      refine p_istore_10 rfl ?_
      refine lp_94_128 hn ht rfl hla hs0 (by omega) (1 <<< n) 0 1 (by omega) ?_
      refine zK.blk rfl ?_
      refine p_iload_6 ?_
      refine p_iload_9 ?_
      refine p_iorN ?_
      refine p_istore_6 rfl ?_
      refine p_iinc_8 (zN_inc _ 1) rfl ?_
      refine p_goto (tgt := 116) (by decide) ?_
      refine zK.forget _ ?_ (ih _ _ (by omega) hk)
      exact ⟨Or.inl rfl, Or.inl rfl, Or.inl rfl, Or.inl rfl, Or.inl rfl, Or.inl rfl, Or.inl rfl, Or.inl rfl, Or.inl rfl, Or.inr rfl, Or.inr rfl, Or.inl rfl, Or.inl rfl, trivial⟩
set_option maxRecDepth 100000 in
set_option maxHeartbeats 4000000 in
theorem lp_94_107 {sc : Nat × (Nat → Int32)} {d : Nat} {M : zM} {r : Option Value} {M' : zM} {n t rw la tu ri : Nat} (hn : n < 4) (ht : t < 2 ^ 31) (hrw : rw = 1 <<< n) (hla : la = rw - 1) : ∀ (j i su : Nat), i + j = rw → zK 47 sc (zC 47 sc (d + 0)) 94 r M' 216 [.int (nI n), .int (nI t), .int (nI rw), .int (nI la), .int (nI tu), .int (nI ri), .int (nI (zfor (kcF n t) j i su)), .int (nI rw), .null, .null, .null, .null, .null] [] (M) → zK 47 sc (zC 47 sc (d + 0)) 94 r M' 107 [.int (nI n), .int (nI t), .int (nI rw), .int (nI la), .int (nI tu), .int (nI ri), .int (nI su), .int (nI i), .null, .null, .null, .null, .null] [] (M) := by
  intro j
  induction j with
  | zero =>
    intro i su  hj hk
    obtain rfl : i = rw := by omega
    have hs := zsh_lt hn
    refine zK.blk rfl ?_
    refine p_iload_7 ?_
    refine p_iloadn_2 ?_
    refine p_icmpN_ge (tgt := 216) (by decide) (by omega) (by omega) (fun hc110 => ?_) (fun hc110 => ?_)
    · skip
      exact hk
    · skip
      exact absurd hc110 (by omega) --STOP
  | succ j ih =>
    intro i su  hj hk
    have hs := zsh_lt hn
    refine zK.blk rfl ?_
    refine p_iload_7 ?_
    refine p_iloadn_2 ?_
    refine p_icmpN_ge (tgt := 216) (by decide) (by omega) (by omega) (fun hc110 => ?_) (fun hc110 => ?_)
    · skip
      exact absurd hc110 (by omega) --STOP
    · skip
      refine p_iconst (v := nI 0) (by decide) ?_
      refine p_istore_8 rfl ?_
      refine lp_94_116 hn ht hrw hla (by omega) 2 0 su (by omega) ?_
      refine zK.blk rfl ?_
      refine p_iinc_7 (zN_inc _ 1) rfl ?_
      refine p_goto (tgt := 107) (by decide) ?_
      refine zK.forget _ ?_ (ih _ _ (by omega) hk)
      exact ⟨Or.inl rfl, Or.inl rfl, Or.inl rfl, Or.inl rfl, Or.inl rfl, Or.inl rfl, Or.inl rfl, Or.inl rfl, Or.inr rfl, Or.inl rfl, Or.inl rfl, Or.inl rfl, Or.inl rfl, trivial⟩
set_option maxRecDepth 100000 in
set_option maxHeartbeats 4000000 in
theorem st_94_264 {sc : Nat × (Nat → Int32)} {d : Nat} {M : zM} {n t la tu ri su : Nat} {x2 x7 : Nat} (hsu : su < 2) {b : Nat} (a : Nat) : zK 47 sc (zC 47 sc (d + 0)) 94 (some (.int (nI (a + b + (if su = 0 then 0 else 16))))) M 264 [.int (nI n), .int (nI t), .int (nI x2), .int (nI la), .int (nI tu), .int (nI ri), .int (nI su), .int (nI x7), .null, .null, .null, .null, .null] [.int (nI b), .int (nI a)] M := by
  refine zK.blk rfl ?_
  refine p_iaddN ?_
  refine p_iload_6 ?_
  refine p_ifN_eq (tgt := 275) (by decide) (by omega) (fun hc267 => ?_) (fun hc267 => ?_)
  · skip
    refine zK.blk rfl ?_
    refine p_iconst (v := nI 0) (by decide) ?_
    refine zK.blk rfl ?_
    refine p_iaddN ?_
    exact p_iret trivial (by simp [hc267]) rfl
  · skip
    refine p_bipush (v := nI 16) (by decide) ?_
    refine p_goto (tgt := 276) (by decide) ?_
    refine zK.blk rfl ?_
    refine p_iaddN ?_
    exact p_iret trivial (by simp [hc267]) rfl
set_option maxRecDepth 100000 in
set_option maxHeartbeats 4000000 in
theorem st_94_252 {sc : Nat × (Nat → Int32)} {d : Nat} {M : zM} {n t la tu ri su : Nat} {x2 x7 : Nat} (hsu : su < 2) (hri : ri < 2) {b : Nat} (a : Nat) : zK 47 sc (zC 47 sc (d + 0)) 94 (some (.int (nI (a + b + (if ri = 0 then 0 else 8) + (if su = 0 then 0 else 16))))) M 252 [.int (nI n), .int (nI t), .int (nI x2), .int (nI la), .int (nI tu), .int (nI ri), .int (nI su), .int (nI x7), .null, .null, .null, .null, .null] [.int (nI b), .int (nI a)] M := by
  refine zK.blk rfl ?_
  refine p_iaddN ?_
  refine p_iload_5 ?_
  refine p_ifN_eq (tgt := 263) (by decide) (by omega) (fun hc255 => ?_) (fun hc255 => ?_)
  · skip
    rw [if_pos hc255]
    refine zK.blk rfl ?_
    refine p_iconst (v := nI 0) (by decide) ?_
    exact st_94_264 hsu _
  · skip
    rw [if_neg hc255]
    refine p_bipush (v := nI 8) (by decide) ?_
    refine p_goto (tgt := 264) (by decide) ?_
    exact st_94_264 hsu _
set_option maxRecDepth 100000 in
set_option maxHeartbeats 4000000 in
theorem st_94_241 {sc : Nat × (Nat → Int32)} {d : Nat} {M : zM} {n t la tu ri su : Nat} {x2 x7 : Nat} (hsu : su < 2) (hri : ri < 2) (htu : tu < 2) {b : Nat} (a : Nat) : zK 47 sc (zC 47 sc (d + 0)) 94 (some (.int (nI (a + b + (if tu = 0 then 0 else 4) + (if ri = 0 then 0 else 8) + (if su = 0 then 0 else 16))))) M 241 [.int (nI n), .int (nI t), .int (nI x2), .int (nI la), .int (nI tu), .int (nI ri), .int (nI su), .int (nI x7), .null, .null, .null, .null, .null] [.int (nI b), .int (nI a)] M := by
  refine zK.blk rfl ?_
  refine p_iaddN ?_
  refine p_iload_4 ?_
  refine p_ifN_eq (tgt := 251) (by decide) (by omega) (fun hc244 => ?_) (fun hc244 => ?_)
  · skip
    rw [if_pos hc244]
    refine zK.blk rfl ?_
    refine p_iconst (v := nI 0) (by decide) ?_
    exact st_94_252 hsu hri _
  · skip
    rw [if_neg hc244]
    refine p_iconst (v := nI 4) (by decide) ?_
    refine p_goto (tgt := 252) (by decide) ?_
    exact st_94_252 hsu hri _
set_option maxRecDepth 100000 in
set_option maxHeartbeats 4000000 in
theorem st_94_227 {sc : Nat × (Nat → Int32)} {d : Nat} {M : zM} {n t la tu ri su : Nat} {x2 x7 : Nat} (hsu : su < 2) (hri : ri < 2) (htu : tu < 2) (ht : t < 2 ^ 31) (hla : la < 8) (a : Nat) : zK 47 sc (zC 47 sc (d + 0)) 94 (some (.int (nI (a + (if t >>> la &&& 1 = 1 then 2 else 0) + (if tu = 0 then 0 else 4) + (if ri = 0 then 0 else 8) + (if su = 0 then 0 else 16))))) M 227 [.int (nI n), .int (nI t), .int (nI x2), .int (nI la), .int (nI tu), .int (nI ri), .int (nI su), .int (nI x7), .null, .null, .null, .null, .null] [.int (nI a)] M := by
  have hb1 := zb_lt t la
  refine zK.blk rfl ?_
  refine p_iloadn_1 ?_
  refine p_iloadn_3 ?_
  refine p_ishrN (by omega) (by omega) ?_
  refine p_iconst (v := nI 1) (by decide) ?_
  refine p_iandN ?_
  refine p_iconst (v := nI 1) (by decide) ?_
  refine p_icmpN_ne (tgt := 240) (by decide) (by omega) (by omega) (fun hc233 => ?_) (fun hc233 => ?_)
  · skip
    rw [if_neg hc233]
    refine zK.blk rfl ?_
    refine p_iconst (v := nI 0) (by decide) ?_
    exact st_94_241 hsu hri htu _
  · skip
    rw [if_pos (by omega)]
    refine p_iconst (v := nI 2) (by decide) ?_
    refine p_goto (tgt := 241) (by decide) ?_
    exact st_94_241 hsu hri htu _
set_option maxRecDepth 100000 in
set_option maxHeartbeats 4000000 in
theorem st_94_216 {sc : Nat × (Nat → Int32)} {d : Nat} {M : zM} {n t la tu ri su : Nat} {x2 x7 : Nat} (hsu : su < 2) (hri : ri < 2) (htu : tu < 2) (ht : t < 2 ^ 31) (hla : la < 8) (a : Nat) : zK 47 sc (zC 47 sc (d + 0)) 94 (some (.int (nI ((if t &&& 1 = 0 then 1 else 0) + (if t >>> la &&& 1 = 1 then 2 else 0) + (if tu = 0 then 0 else 4) + (if ri = 0 then 0 else 8) + (if su = 0 then 0 else 16))))) M 216 [.int (nI n), .int (nI t), .int (nI x2), .int (nI la), .int (nI tu), .int (nI ri), .int (nI su), .int (nI x7), .null, .null, .null, .null, .null] [] M := by
  have hb1 : t &&& 1 < 2 := by rw [Nat.and_one_is_mod]; omega
  refine zK.blk rfl ?_
  refine p_iloadn_1 ?_
  refine p_iconst (v := nI 1) (by decide) ?_
  refine p_iandN ?_
  refine p_ifN_ne (tgt := 226) (by decide) (by omega) (fun hc219 => ?_) (fun hc219 => ?_)
  · skip
    rw [if_neg hc219]
    refine zK.blk rfl ?_
    refine p_iconst (v := nI 0) (by decide) ?_
    exact st_94_227 hsu hri htu ht hla _
  · skip
    rw [if_pos (by omega)]
    refine p_iconst (v := nI 1) (by decide) ?_
    refine p_goto (tgt := 227) (by decide) ?_
    exact st_94_227 hsu hri htu ht hla _
set_option maxRecDepth 100000 in
set_option maxHeartbeats 4000000 in
theorem c_94 {sc : Nat × (Nat → Int32)} {d : Nat} {M : zM} {n t : Nat} (hn : n < 4) (ht : t < z22 n) : zC 47 sc (d + 1) 94 [.int (nI n), .int (nI t)] M (some (.int (nI (kmN n t)))) (M) := by
  have hs := zsh_lt hn
  have hz := z22_lt hn
  have ht2 : t < 2 ^ 31 := by omega
  have hA := kA_lt n hn t ht
  unfold kmN
  unfold kA kS at hA ⊢
  refine z_enter (L := [.int (nI n), .int (nI t), .null, .null, .null, .null, .null, .null, .null, .null, .null, .null, .null]) rfl rfl rfl ?_
  refine zK.blk rfl ?_
  refine p_iconst (v := nI 1) (by decide) ?_
  refine p_iloadn_0 ?_
  refine p_ishlN (by omega) ?_
  refine p_istoren_2 rfl ?_
  refine p_iloadn_2 ?_
  refine p_iconst (v := nI 1) (by decide) ?_
  refine p_isubN (by omega) ?_
  refine p_istoren_3 rfl ?_
  refine p_iconst (v := nI 1) (by decide) ?_
  refine p_istore_4 rfl ?_
  refine p_iconst (v := nI 1) (by decide) ?_
  refine p_istore_5 rfl ?_
  refine p_iconst (v := nI 0) (by decide) ?_
  refine p_istore_6 rfl ?_
  refine p_iconst (v := nI 0) (by decide) ?_
  refine p_istore_7 rfl ?_
  refine lp_94_20 hn ht2 rfl rfl (1 <<< n) 0 1 1 (by omega) ?_
  refine zK.blk rfl ?_
  refine p_iconst (v := nI 0) (by decide) ?_
  refine p_istore_7 rfl ?_
  refine lp_94_107 hn ht2 rfl rfl (1 <<< n) 0 0 (by omega) ?_
  exact st_94_216 hA.2.2 hA.2.1 hA.1 ht2 (by omega) 0
