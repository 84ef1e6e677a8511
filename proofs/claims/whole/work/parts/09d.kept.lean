def kb5 (p t b : Nat) : Nat := if isN p t = true then b ||| 16 else b
def kb4 (p t b : Nat) : Nat := kb5 p t (if irN p t = true then b ||| 8 else b)
def kb3 (p t b : Nat) : Nat := kb4 p t (if ohN p t = t then b ||| 4 else b)
def kb2 (p t b : Nat) : Nat := kb3 p t (if t >>> (1 <<< p - 1) &&& 1 = 1 then b ||| 2 else b)
def kbN (p t : Nat) : Nat := kb2 p t (if t >>> 0 &&& 1 = 0 then 0 ||| 1 else 0)
theorem ohN_lt : ∀ p, p < 4 → ∀ t, t < z22 p → ohN p t < 256 := by decide +kernel
set_option maxRecDepth 100000 in
set_option maxHeartbeats 4000000 in
theorem st_12_57 {sc : Nat × (Nat → Int32)} {d : Nat} {M : zM} {p t : Nat} (hp : p < 4) (ht : t < z22 p) (b : Nat) : zK 47 sc (zC 47 sc (d + 2)) 12 (some (.int (nI (kb5 p t b)))) M 57 [.int (nI p), .int (nI t), .int (nI b)] [] M := by
  have hz := z22_lt hp
  have hs := zsh_lt hp
  refine zK.blk rfl ?_
  refine p_iloadn_0 ?_
  refine p_iloadn_1 ?_
  refine p_cs2i rfl rfl rfl rfl rfl (c_14 hp ht) ?_
  refine p_ifB_eq (tgt := 70) (by decide) (fun hc62 => ?_) (fun hc62 => ?_)
  · skip
    refine zK.blk rfl ?_
    refine p_iloadn_2 ?_
    exact p_iret trivial (by unfold kb5; simp [hc62]) rfl
  · skip
    refine p_iloadn_2 ?_
    refine p_bipush (v := nI 16) (by decide) ?_
    refine p_iorN ?_
    refine p_istoren_2 rfl ?_
    refine zK.blk rfl ?_
    refine p_iloadn_2 ?_
    exact p_iret trivial (by unfold kb5; simp [hc62]) rfl
set_option maxRecDepth 100000 in
set_option maxHeartbeats 4000000 in
theorem st_12_44 {sc : Nat × (Nat → Int32)} {d : Nat} {M : zM} {p t : Nat} (hp : p < 4) (ht : t < z22 p) (b : Nat) : zK 47 sc (zC 47 sc (d + 2)) 12 (some (.int (nI (kb4 p t b)))) M 44 [.int (nI p), .int (nI t), .int (nI b)] [] M := by
  have hz := z22_lt hp
  have hs := zsh_lt hp
  refine zK.blk rfl ?_
  refine p_iloadn_0 ?_
  refine p_iloadn_1 ?_
  refine p_cs2i rfl rfl rfl rfl rfl (c_13 hp (by omega)) ?_
  refine p_ifB_eq (tgt := 57) (by decide) (fun hc49 => ?_) (fun hc49 => ?_)
  · skip
    unfold kb4; rw [if_neg (by simp [hc49])]
    exact st_12_57 hp ht _
  · skip
    unfold kb4; rw [if_pos hc49]
    refine p_iloadn_2 ?_
    refine p_bipush (v := nI 8) (by decide) ?_
    refine p_iorN ?_
    refine p_istoren_2 rfl ?_
    exact st_12_57 hp ht _
set_option maxRecDepth 100000 in
set_option maxHeartbeats 4000000 in
theorem st_12_31 {sc : Nat × (Nat → Int32)} {d : Nat} {M : zM} {p t : Nat} (hp : p < 4) (ht : t < z22 p) (b : Nat) : zK 47 sc (zC 47 sc (d + 2)) 12 (some (.int (nI (kb3 p t b)))) M 31 [.int (nI p), .int (nI t), .int (nI b)] [] M := by
  have hz := z22_lt hp
  have hs := zsh_lt hp
  have ho := ohN_lt p hp t ht
  refine zK.blk rfl ?_
  refine p_iloadn_0 ?_
  refine p_iloadn_1 ?_
  refine p_cs2i rfl rfl rfl rfl rfl (c_10 hp (by omega)) ?_
  refine p_iloadn_1 ?_
  refine p_icmpN_ne (tgt := 44) (by decide) (by omega) (by omega) (fun hc37 => ?_) (fun hc37 => ?_)
  · skip
    unfold kb3; rw [if_neg hc37]
    exact st_12_44 hp ht _
  · skip
    unfold kb3; rw [if_pos (by omega)]
    refine p_iloadn_2 ?_
    refine p_iconst (v := nI 4) (by decide) ?_
    refine p_iorN ?_
    refine p_istoren_2 rfl ?_
    exact st_12_44 hp ht _
set_option maxRecDepth 100000 in
set_option maxHeartbeats 4000000 in
theorem st_12_14 {sc : Nat × (Nat → Int32)} {d : Nat} {M : zM} {p t : Nat} (hp : p < 4) (ht : t < z22 p) (b : Nat) : zK 47 sc (zC 47 sc (d + 2)) 12 (some (.int (nI (kb2 p t b)))) M 14 [.int (nI p), .int (nI t), .int (nI b)] [] M := by
  have hz := z22_lt hp
  have hs := zsh_lt hp
  have hb1 := zb_lt t (1 <<< p - 1)
  refine zK.blk rfl ?_
  refine p_iloadn_1 ?_
  refine p_iconst (v := nI 1) (by decide) ?_
  refine p_iloadn_0 ?_
  refine p_ishlN (by omega) ?_
  refine p_iconst (v := nI 1) (by decide) ?_
  refine p_isubN (by omega) ?_
  refine p_cs2i rfl rfl rfl rfl rfl (c_3 (by omega) (by omega)) ?_
  refine p_iconst (v := nI 1) (by decide) ?_
  refine p_icmpN_ne (tgt := 31) (by decide) (by omega) (by omega) (fun hc24 => ?_) (fun hc24 => ?_)
  · skip
    unfold kb2; rw [if_neg hc24]
    exact st_12_31 hp ht _
  · skip
    unfold kb2; rw [if_pos (by omega)]
    refine p_iloadn_2 ?_
    refine p_iconst (v := nI 2) (by decide) ?_
    refine p_iorN ?_
    refine p_istoren_2 rfl ?_
    exact st_12_31 hp ht _
set_option maxRecDepth 100000 in
set_option maxHeartbeats 4000000 in
theorem c_12 {sc : Nat × (Nat → Int32)} {d : Nat} {M : zM} {p t : Nat} (hp : p < 4) (ht : t < z22 p) : zC 47 sc (d + 3) 12 [.int (nI p), .int (nI t)] M (some (.int (nI (kbN p t)))) (M) := by
  have hz := z22_lt hp
  have hs := zsh_lt hp
  have hb1 := zb_lt t 0
  refine z_enter (L := [.int (nI p), .int (nI t), .null]) rfl rfl rfl ?_
  refine zK.blk rfl ?_
  refine p_iconst (v := nI 0) (by decide) ?_
  refine p_istoren_2 rfl ?_
  refine p_iloadn_1 ?_
  refine p_iconst (v := nI 0) (by decide) ?_
  refine p_cs2i rfl rfl rfl rfl rfl (c_3 (by omega) (by omega)) ?_
  refine p_ifN_ne (tgt := 14) (by decide) (by omega) (fun hc7 => ?_) (fun hc7 => ?_)
  · skip
    unfold kbN; rw [if_neg hc7]
    exact st_12_14 hp ht _
  · skip
    unfold kbN; rw [if_pos (by omega)]
    refine p_iloadn_2 ?_
    refine p_iconst (v := nI 1) (by decide) ?_
    refine p_iorN ?_
    refine p_istoren_2 rfl ?_
    exact st_12_14 hp ht _
def plF (i row v : Nat) : Nat := v ||| (row >>> i &&& 1) <<< row
def plN (n i : Nat) : Nat := zfor (plF i) (1 <<< n) 0 0
set_option maxRecDepth 100000 in
set_option maxHeartbeats 4000000 in
theorem lp_99_4 {sc : Nat × (Nat → Int32)} {d : Nat} {M : zM} {r : Option Value} {M' : zM} {n q : Nat} (hn : n < 4) (hq : q < 32) : ∀ (j i v : Nat), i + j = 1 <<< n → zK 47 sc (zC 47 sc (d + 0)) 99 r M' 27 [.int (nI n), .int (nI q), .int (nI (zfor (plF q) j i v)), .int (nI (1 <<< n))] [] (M) → zK 47 sc (zC 47 sc (d + 0)) 99 r M' 4 [.int (nI n), .int (nI q), .int (nI v), .int (nI i)] [] (M) := by
  intro j
  induction j with
  | zero =>
    intro i v  hj hk
    have hin : i = 1 <<< n := by omega
    subst hin
    have hs := zsh_lt hn
    refine zK.blk rfl ?_
    refine p_iloadn_3 ?_
    refine p_iconst (v := nI 1) (by decide) ?_
    refine p_iloadn_0 ?_
    refine p_ishlN (by omega) ?_
    refine p_icmpN_ge (tgt := 27) (by decide) (by omega) (by omega) (fun hc8 => ?_) (fun hc8 => ?_)
    · skip
      exact hk
    · skip
      exact absurd hc8 (by omega) --STOP
  | succ j ih =>
    intro i v  hj hk
    have hs := zsh_lt hn
    refine zK.blk rfl ?_
    refine p_iloadn_3 ?_
    refine p_iconst (v := nI 1) (by decide) ?_
    refine p_iloadn_0 ?_
    refine p_ishlN (by omega) ?_
    refine p_icmpN_ge (tgt := 27) (by decide) (by omega) (by omega) (fun hc8 => ?_) (fun hc8 => ?_)
    · skip
      exact absurd hc8 (by omega) --STOP
    · skip
      refine p_iloadn_2 ?_
      refine p_iloadn_3 ?_
      refine p_iloadn_1 ?_
      refine p_ishrN (by omega) (by omega) ?_
      refine p_iconst (v := nI 1) (by decide) ?_
      refine p_iandN ?_
      refine p_iloadn_3 ?_
      refine p_ishlN (by omega) ?_
      refine p_iorN ?_
      refine p_istoren_2 rfl ?_
      refine p_iinc_3 (zN_inc _ 1) rfl ?_
      refine p_goto (tgt := 4) (by decide) ?_
      exact ih _ _ (by omega) hk
set_option maxRecDepth 100000 in
set_option maxHeartbeats 4000000 in
theorem c_99 {sc : Nat × (Nat → Int32)} {d : Nat} {M : zM} {n q : Nat} (hn : n < 4) (hq : q < 32) : zC 47 sc (d + 1) 99 [.int (nI n), .int (nI q)] M (some (.int (nI (plN n q)))) (M) := by
  refine z_enter (L := [.int (nI n), .int (nI q), .null, .null]) rfl rfl rfl ?_
  refine zK.blk rfl ?_
  refine p_iconst (v := nI 0) (by decide) ?_
  refine p_istoren_2 rfl ?_
  refine p_iconst (v := nI 0) (by decide) ?_
  refine p_istoren_3 rfl ?_
  refine lp_99_4 hn hq (1 <<< n) 0 0 (by omega) ?_
  refine zK.blk rfl ?_
  refine p_iloadn_2 ?_
  exact p_iret trivial rfl rfl
def moF (t i v : Nat) : Nat := v ||| (1 - (t >>> (7 - i) &&& 1)) <<< i
def moN (t : Nat) : Nat := zfor (moF t) 8 0 0
set_option maxRecDepth 100000 in
set_option maxHeartbeats 4000000 in
theorem lp_130_4 {sc : Nat × (Nat → Int32)} {d : Nat} {M : zM} {r : Option Value} {M' : zM} {t : Nat} (ht : t < 2 ^ 31) : ∀ (j i v : Nat), i + j = 8 → zK 47 sc (zC 47 sc (d + 0)) 130 r M' 31 [.int (nI t), .int (nI (zfor (moF t) j i v)), .int (nI 8)] [] (M) → zK 47 sc (zC 47 sc (d + 0)) 130 r M' 4 [.int (nI t), .int (nI v), .int (nI i)] [] (M) := by
  intro j
  induction j with
  | zero =>
    intro i v  hj hk
    obtain rfl : i = 8 := by omega
    refine zK.blk rfl ?_
    refine p_iloadn_2 ?_
    refine p_bipush (v := nI 8) (by decide) ?_
    refine p_icmpN_ge (tgt := 31) (by decide) (by omega) (by omega) (fun hc7 => ?_) (fun hc7 => ?_)
    · skip
      exact hk
    · skip
      exact absurd hc7 (by omega) --STOP
  | succ j ih =>
    intro i v  hj hk
    refine zK.blk rfl ?_
    refine p_iloadn_2 ?_
    refine p_bipush (v := nI 8) (by decide) ?_
    refine p_icmpN_ge (tgt := 31) (by decide) (by omega) (by omega) (fun hc7 => ?_) (fun hc7 => ?_)
    · skip
      exact absurd hc7 (by omega) --STOP
    · skip
      refine p_iloadn_1 ?_
      refine p_iconst (v := nI 1) (by decide) ?_
      refine p_iloadn_0 ?_
      refine p_bipush (v := nI 7) (by decide) ?_
      refine p_iloadn_2 ?_
      refine p_isubN (by omega) ?_
      refine p_ishrN (by omega) (by omega) ?_
      refine p_iconst (v := nI 1) (by decide) ?_
      refine p_iandN ?_
      have hb1 := zb_lt t (7 - i)
      refine p_isubN (by omega) ?_
      refine p_iloadn_2 ?_
      refine p_ishlN (by omega) ?_
      refine p_iorN ?_
      refine p_istoren_1 rfl ?_
      refine p_iinc_2 (zN_inc _ 1) rfl ?_
      refine p_goto (tgt := 4) (by decide) ?_
      exact ih _ _ (by omega) hk
set_option maxRecDepth 100000 in
set_option maxHeartbeats 4000000 in
theorem c_130 {sc : Nat × (Nat → Int32)} {d : Nat} {M : zM} {t : Nat} (ht : t < 2 ^ 31) : zC 47 sc (d + 1) 130 [.int (nI t)] M (some (.int (nI (moN t)))) (M) := by
  refine z_enter (L := [.int (nI t), .null, .null]) rfl rfl rfl ?_
  refine zK.blk rfl ?_
  refine p_iconst (v := nI 0) (by decide) ?_
  refine p_istoren_1 rfl ?_
  refine p_iconst (v := nI 0) (by decide) ?_
  refine p_istoren_2 rfl ?_
  refine lp_130_4 ht 8 0 0 (by omega) ?_
  refine zK.blk rfl ?_
  refine p_iloadn_1 ?_
  exact p_iret trivial rfl rfl
def maF1 (t r i v : Nat) : Nat := if t >>> r &&& 1 = t >>> (r ^^^ 1 <<< i) &&& 1 then v ||| 0 else v ||| 1 <<< i
def maF (t r v : Nat) : Nat := zfor (maF1 t r) 3 0 v
def maN (t : Nat) : Nat := zfor (maF t) 8 0 0
set_option maxRecDepth 100000 in
set_option maxHeartbeats 4000000 in
theorem lp_131_12 {sc : Nat × (Nat → Int32)} {d : Nat} {M : zM} {r : Option Value} {M' : zM} {t q : Nat} (ht : t < 2 ^ 31) (hq : q < 8) : ∀ (j i v : Nat), i + j = 3 → zK 47 sc (zC 47 sc (d + 0)) 131 r M' 50 [.int (nI t), .int (nI (zfor (maF1 t q) j i v)), .int (nI q), .int (nI 3)] [] (M) → zK 47 sc (zC 47 sc (d + 0)) 131 r M' 12 [.int (nI t), .int (nI v), .int (nI q), .int (nI i)] [] (M) := by
  intro j
  induction j with
  | zero =>
    intro i v  hj hk
    obtain rfl : i = 3 := by omega
    refine zK.blk rfl ?_
    refine p_iloadn_3 ?_
    refine p_iconst (v := nI 3) (by decide) ?_
    refine p_icmpN_ge (tgt := 50) (by decide) (by omega) (by omega) (fun hc14 => ?_) (fun hc14 => ?_)
    · skip
      exact hk
    · skip
      exact absurd hc14 (by omega) --STOP
  | succ j ih =>
    intro i v  hj hk
    have hx := zx_lt hq (show i < 3 by omega)
    have hb1 := zb_lt t q
    have hb2 := zb_lt t (q ^^^ 1 <<< i)
    refine zK.blk rfl ?_
    refine p_iloadn_3 ?_
    refine p_iconst (v := nI 3) (by decide) ?_
    refine p_icmpN_ge (tgt := 50) (by decide) (by omega) (by omega) (fun hc14 => ?_) (fun hc14 => ?_)
    · skip
      exact absurd hc14 (by omega) --STOP
    · skip
      refine p_iloadn_1 ?_
      refine p_iloadn_0 ?_
      refine p_iloadn_2 ?_
      refine p_ishrN (by omega) (by omega) ?_
      refine p_iconst (v := nI 1) (by decide) ?_
      refine p_iandN ?_
      refine p_iloadn_0 ?_
      refine p_iloadn_2 ?_
      refine p_iconst (v := nI 1) (by decide) ?_
      refine p_iloadn_3 ?_
      refine p_ishlN (by omega) ?_
      refine p_ixorN ?_
      refine p_ishrN (by omega) (by omega) ?_
      refine p_iconst (v := nI 1) (by decide) ?_
      refine p_iandN ?_
      refine p_icmpN_eq (tgt := 41) (by decide) (by omega) (by omega) (fun hc32 => ?_) (fun hc32 => ?_)
      · skip
        rw [zfor_step (f := maF1 t q) (a' := v ||| 0) (by unfold maF1; rw [if_pos hc32])] at hk
        refine zK.blk rfl ?_
        refine p_iconst (v := nI 0) (by decide) ?_
        refine zK.blk rfl ?_
        refine p_iorN ?_
        refine p_istoren_1 rfl ?_
        refine p_iinc_3 (zN_inc _ 1) rfl ?_
        refine p_goto (tgt := 12) (by decide) ?_
        exact ih _ _ (by omega) hk
      · skip
        rw [zfor_step (f := maF1 t q) (a' := v ||| 1 <<< i) (by unfold maF1; rw [if_neg hc32])] at hk
        refine p_iconst (v := nI 1) (by decide) ?_
        refine p_iloadn_3 ?_
        refine p_ishlN (by omega) ?_
        refine p_goto (tgt := 42) (by decide) ?_
        refine zK.blk rfl ?_
        refine p_iorN ?_
        refine p_istoren_1 rfl ?_
        refine p_iinc_3 (zN_inc _ 1) rfl ?_
        refine p_goto (tgt := 12) (by decide) ?_
        exact ih _ _ (by omega) hk
set_option maxRecDepth 100000 in
set_option maxHeartbeats 4000000 in
theorem lp_131_4 {sc : Nat × (Nat → Int32)} {d : Nat} {M : zM} {r : Option Value} {M' : zM} {t : Nat} (ht : t < 2 ^ 31) : ∀ (j i v : Nat), i + j = 8 → zK 47 sc (zC 47 sc (d + 0)) 131 r M' 56 [.int (nI t), .int (nI (zfor (maF t) j i v)), .int (nI 8), .null] [] (M) → zK 47 sc (zC 47 sc (d + 0)) 131 r M' 4 [.int (nI t), .int (nI v), .int (nI i), .null] [] (M) := by
  intro j
  induction j with
  | zero =>
    intro i v  hj hk
    obtain rfl : i = 8 := by omega
    refine zK.blk rfl ?_
    refine p_iloadn_2 ?_
    refine p_bipush (v := nI 8) (by decide) ?_
    refine p_icmpN_ge (tgt := 56) (by decide) (by omega) (by omega) (fun hc7 => ?_) (fun hc7 => ?_)
    · skip
      exact hk
    · skip
      exact absurd hc7 (by omega) --STOP
  | succ j ih =>
    intro i v  hj hk
    refine zK.blk rfl ?_
    refine p_iloadn_2 ?_
    refine p_bipush (v := nI 8) (by decide) ?_
    refine p_icmpN_ge (tgt := 56) (by decide) (by omega) (by omega) (fun hc7 => ?_) (fun hc7 => ?_)
    · skip
      exact absurd hc7 (by omega) --STOP
    · skip
      refine p_iconst (v := nI 0) (by decide) ?_
      refine p_istoren_3 rfl ?_
      refine lp_131_12 ht (by omega) 3 0 v (by omega) ?_
      refine zK.blk rfl ?_
      refine p_iinc_2 (zN_inc _ 1) rfl ?_
      refine p_goto (tgt := 4) (by decide) ?_
      refine zK.forget _ ?_ (ih _ _ (by omega) hk)
      exact ⟨Or.inl rfl, Or.inl rfl, Or.inl rfl, Or.inr rfl, trivial⟩
set_option maxRecDepth 100000 in
set_option maxHeartbeats 4000000 in
theorem c_131 {sc : Nat × (Nat → Int32)} {d : Nat} {M : zM} {t : Nat} (ht : t < 2 ^ 31) : zC 47 sc (d + 1) 131 [.int (nI t)] M (some (.int (nI (maN t)))) (M) := by
  refine z_enter (L := [.int (nI t), .null, .null, .null]) rfl rfl rfl ?_
  refine zK.blk rfl ?_
  refine p_iconst (v := nI 0) (by decide) ?_
  refine p_istoren_1 rfl ?_
  refine p_iconst (v := nI 0) (by decide) ?_
  refine p_istoren_2 rfl ?_
  refine lp_131_4 ht 8 0 0 (by omega) ?_
  refine zK.blk rfl ?_
  refine p_iloadn_1 ?_
  exact p_iret trivial rfl rfl
set_option maxRecDepth 100000 in
set_option maxHeartbeats 4000000 in
theorem c_91 {sc : Nat × (Nat → Int32)} {d : Nat} {M : zM} {p : Nat} (hp : p < 4) : zC 47 sc (d + 1) 91 [.int (nI p)] M (some (.int (nI (z22 p)))) (M) := by
  have hp2 := zsh_lt hp
  have hp3 := z22_lt hp
  unfold z22 at hp3 ⊢
  refine z_enter (L := [.int (nI p)]) rfl rfl rfl ?_
  refine zK.blk rfl ?_
  refine p_iconst (v := nI 1) (by decide) ?_
  refine p_iconst (v := nI 1) (by decide) ?_
  refine p_iloadn_0 ?_
  refine p_ishlN (by omega) ?_
  refine p_ishlN (by omega) ?_
  exact p_iret trivial rfl rfl
def zin (v lo hi : Int32) : Bool := decide (¬ v < lo) && decide (¬ hi < v)
set_option maxRecDepth 100000 in
set_option maxHeartbeats 4000000 in
theorem c_89 {sc : Nat × (Nat → Int32)} {d : Nat} {M : zM} {v lo hi : Int32} : zC 47 sc (d + 1) 89 [.int v, .int lo, .int hi] M (some (.int (zB (zin v lo hi)))) (M) := by
  refine z_enter (L := [.int v, .int lo, .int hi]) rfl rfl rfl ?_
  refine zK.blk rfl ?_
  refine p_iloadn_0 ?_
  refine p_iloadn_1 ?_
  refine p_icmp_lt (tgt := 14) (by decide) (fun hc2 => ?_) (fun hc2 => ?_)
  · skip
    refine zK.blk rfl ?_
    refine p_iconst (v := nI 0) (by decide) ?_
    refine zK.blk rfl ?_
    exact p_iret (by first | exact Or.inl rfl | exact Or.inr rfl) (by (first | rw [zB_0] | rw [zB_1]); congr 3; unfold zin; simp_all) rfl
  · skip
    refine p_iloadn_0 ?_
    refine p_iloadn_2 ?_
    refine p_icmp_gt (tgt := 14) (by decide) (fun hc7 => ?_) (fun hc7 => ?_)
    · skip
      refine zK.blk rfl ?_
      refine p_iconst (v := nI 0) (by decide) ?_
      refine zK.blk rfl ?_
      exact p_iret (by first | exact Or.inl rfl | exact Or.inr rfl) (by (first | rw [zB_0] | rw [zB_1]); congr 3; unfold zin; simp_all) rfl
    · skip
      refine p_iconst (v := nI 1) (by decide) ?_
      refine p_goto (tgt := 15) (by decide) ?_
      refine zK.blk rfl ?_
      exact p_iret (by first | exact Or.inl rfl | exact Or.inr rfl) (by (first | rw [zB_0] | rw [zB_1]); congr 3; unfold zin; simp_all) rfl
