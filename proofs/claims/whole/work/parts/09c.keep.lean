set_option maxRecDepth 100000 in
set_option maxHeartbeats 4000000 in
theorem lp_11_4 {sc : Nat × (Nat → Int32)} {d : Nat} {M : zM} {r : Option Value} {M' : zM} {p t : Nat} (hp : p < 4) (ht : t < 2 ^ 31) : ∀ (j i b : Nat), i + j = p → zK 47 sc (zC 47 sc (d + 1)) 11 r M' 57 [.int (nI p), .int (nI t), .int (nI (zfor (mpF p t) j i b)), .int (nI p), .null] [] (M) → zK 47 sc (zC 47 sc (d + 1)) 11 r M' 4 [.int (nI p), .int (nI t), .int (nI b), .int (nI i), .null] [] (M) := by
  intro j
  induction j with
  | zero =>
    intro i b  hj hk
    obtain rfl : i = p := by omega
    refine zK.blk rfl ?_
    refine p_iloadn_3 ?_
    refine p_iloadn_0 ?_
    refine p_icmpN_ge (tgt := 57) (by decide) (by omega) (by omega) (fun hc6 => ?_) (fun hc6 => ?_)
    · skip
      exact hk
    · skip
      exact absurd hc6 (by omega) --STOP
  | succ j ih =>
    intro i b  hj hk
    refine zK.blk rfl ?_
    refine p_iloadn_3 ?_
    refine p_iloadn_0 ?_
    refine p_icmpN_ge (tgt := 57) (by decide) (by omega) (by omega) (fun hc6 => ?_) (fun hc6 => ?_)
    · skip
      exact absurd hc6 (by omega) --STOP
    · skip
      refine p_iconst (v := nI 0) (by decide) ?_
      refine p_istore_4 rfl ?_
      refine lp_11_12 hp (by omega) ht (1 <<< p) 0 b (by omega) ?_
      refine zK.blk rfl ?_
      refine p_iinc_3 (zN_inc _ 1) rfl ?_
      refine p_goto (tgt := 4) (by decide) ?_
      refine zK.forget _ ?_ (ih _ _ (by omega) hk)
      exact ⟨Or.inl rfl, Or.inl rfl, Or.inl rfl, Or.inl rfl, Or.inr rfl, trivial⟩
set_option maxRecDepth 100000 in
set_option maxHeartbeats 4000000 in
theorem c_11 {sc : Nat × (Nat → Int32)} {d : Nat} {M : zM} {p t : Nat} (hp : p < 4) (ht : t < 2 ^ 31) : zC 47 sc (d + 2) 11 [.int (nI p), .int (nI t)] M (some (.int (nI (mpN p t)))) (M) := by
  refine z_enter (L := [.int (nI p), .int (nI t), .null, .null, .null]) rfl rfl rfl ?_
  refine zK.blk rfl ?_
  refine p_iconst (v := nI 0) (by decide) ?_
  refine p_istoren_2 rfl ?_
  refine p_iconst (v := nI 0) (by decide) ?_
  refine p_istoren_3 rfl ?_
  refine lp_11_4 hp ht p 0 0 (by omega) ?_
  refine zK.blk rfl ?_
  refine p_iloadn_2 ?_
  exact p_iret trivial rfl rfl
def zall (f : Nat → Bool) : Nat → Nat → Bool
  | 0, _ => true
  | j + 1, i => f i && zall f j (i + 1)
theorem zall_t {f : Nat → Bool} {j i : Nat} (h : f i = true) : zall f (j + 1) i = zall f j (i + 1) := by simp [zall, h]
theorem zall_f {f : Nat → Bool} {j i : Nat} (h : f i = false) : zall f (j + 1) i = false := by simp [zall, h]
def irF (t pl row : Nat) : Bool := decide (t >>> row &&& 1 ≤ t >>> (row ||| 1 <<< pl) &&& 1)
def irP (p t pl : Nat) : Bool := zall (irF t pl) (1 <<< p) 0
def irN (p t : Nat) : Bool := zall (irP p t) p 0
set_option maxRecDepth 100000 in
set_option maxHeartbeats 4000000 in
theorem lp_13_9 {sc : Nat × (Nat → Int32)} {d : Nat} {M : zM} {r : Option Value} {M' : zM} {p t pl : Nat} (hp : p < 4) (hpl : pl < p) (ht : t < 2 ^ 31) : ∀ (j i : Nat), i + j = 1 <<< p → (zall (irF t pl) j i = true → zK 47 sc (zC 47 sc (d + 1)) 13 r M' 41 [.int (nI p), .int (nI t), .int (nI pl), .int (nI (1 <<< p))] [] M) → (zall (irF t pl) j i = false → some (.int (nI 0)) = r ∧ M = M') → zK 47 sc (zC 47 sc (d + 1)) 13 r M' 9 [.int (nI p), .int (nI t), .int (nI pl), .int (nI i)] [] M := by
  intro j
  induction j with
  | zero =>
    intro i hj h1 h2
    have hin : i = 1 <<< p := by omega
    subst hin
    have hp2 := zsh_lt hp
    refine zK.blk rfl ?_
    refine p_iloadn_3 ?_
    refine p_iconst (v := nI 1) (by decide) ?_
    refine p_iloadn_0 ?_
    refine p_ishlN (by omega) ?_
    refine p_icmpN_ge (tgt := 41) (by decide) (by omega) (by omega) (fun hc13 => ?_) (fun hc13 => ?_)
    · skip
      exact h1 rfl
    · skip
      exact absurd hc13 (by omega) --STOP
  | succ j ih =>
    intro i hj h1 h2
    have hp2 := zsh_lt hp
    have hx := zo_lt (show i < 8 by omega) (show pl < 3 by omega)
    have hb1 := zb_lt t i
    have hb2 := zb_lt t (i ||| 1 <<< pl)
    refine zK.blk rfl ?_
    refine p_iloadn_3 ?_
    refine p_iconst (v := nI 1) (by decide) ?_
    refine p_iloadn_0 ?_
    refine p_ishlN (by omega) ?_
    refine p_icmpN_ge (tgt := 41) (by decide) (by omega) (by omega) (fun hc13 => ?_) (fun hc13 => ?_)
    · skip
      exact absurd hc13 (by omega) --STOP
    · skip
      refine p_iloadn_1 ?_
      refine p_iloadn_3 ?_
      refine p_cs2i rfl rfl rfl rfl rfl (c_3 (by omega) (by omega)) ?_
      refine p_iloadn_1 ?_
      refine p_iloadn_3 ?_
      refine p_iconst (v := nI 1) (by decide) ?_
      refine p_iloadn_2 ?_
      refine p_ishlN (by omega) ?_
      refine p_iorN ?_
      refine p_cs2i rfl rfl rfl rfl rfl (c_3 (by omega) (by omega)) ?_
      refine p_icmpN_le (tgt := 35) (by decide) (by omega) (by omega) (fun hc30 => ?_) (fun hc30 => ?_)
      · skip
        have e : irF t pl i = true := by unfold irF; exact decide_eq_true hc30
        rw [zall_t e] at h1 h2
        refine zK.blk rfl ?_
        refine p_iinc_3 (zN_inc _ 1) rfl ?_
        refine p_goto (tgt := 9) (by decide) ?_
        exact ih _ (by omega) h1 h2
      · skip
        have e : irF t pl i = false := by unfold irF; exact decide_eq_false hc30
        refine p_iconst (v := nI 0) (by decide) ?_
        exact p_iret (Or.inl rfl) (h2 (zall_f e)).1 (h2 (zall_f e)).2
set_option maxRecDepth 100000 in
set_option maxHeartbeats 4000000 in
theorem lp_13_2 {sc : Nat × (Nat → Int32)} {d : Nat} {M : zM} {r : Option Value} {M' : zM} {p t : Nat} (hp : p < 4) (ht : t < 2 ^ 31) : ∀ (j i : Nat), i + j = p → (zall (irP p t) j i = true → zK 47 sc (zC 47 sc (d + 1)) 13 r M' 47 [.int (nI p), .int (nI t), .int (nI p), .null] [] M) → (zall (irP p t) j i = false → some (.int (nI 0)) = r ∧ M = M') → zK 47 sc (zC 47 sc (d + 1)) 13 r M' 2 [.int (nI p), .int (nI t), .int (nI i), .null] [] M := by
  intro j
  induction j with
  | zero =>
    intro i hj h1 h2
    have hin : i = p := by omega
    subst hin
    refine zK.blk rfl ?_
    refine p_iloadn_2 ?_
    refine p_iloadn_0 ?_
    refine p_icmpN_ge (tgt := 47) (by decide) (by omega) (by omega) (fun hc4 => ?_) (fun hc4 => ?_)
    · skip
      exact h1 rfl
    · skip
      exact absurd hc4 (by omega) --STOP
  | succ j ih =>
    intro i hj h1 h2
    refine zK.blk rfl ?_
    refine p_iloadn_2 ?_
    refine p_iloadn_0 ?_
    refine p_icmpN_ge (tgt := 47) (by decide) (by omega) (by omega) (fun hc4 => ?_) (fun hc4 => ?_)
    · skip
      exact absurd hc4 (by omega) --STOP
    · skip
      refine p_iconst (v := nI 0) (by decide) ?_
      refine p_istoren_3 rfl ?_
      refine lp_13_9 hp (by omega) ht (1 <<< p) 0 (by omega) (fun e => ?_) (fun e => h2 (zall_f e))
      have e' : irP p t i = true := e
      rw [zall_t e'] at h1 h2
      refine zK.blk rfl ?_
      refine p_iinc_2 (zN_inc _ 1) rfl ?_
      refine p_goto (tgt := 2) (by decide) ?_
      refine zK.forget _ ?_ (ih _ (by omega) h1 h2)
      exact ⟨Or.inl rfl, Or.inl rfl, Or.inl rfl, Or.inr rfl, trivial⟩
set_option maxRecDepth 100000 in
set_option maxHeartbeats 4000000 in
theorem c_13 {sc : Nat × (Nat → Int32)} {d : Nat} {M : zM} {p t : Nat} (hp : p < 4) (ht : t < 2 ^ 31) : zC 47 sc (d + 2) 13 [.int (nI p), .int (nI t)] M (some (.int (zB (irN p t)))) (M) := by
  refine z_enter (L := [.int (nI p), .int (nI t), .null, .null]) rfl rfl rfl ?_
  refine zK.blk rfl ?_
  refine p_iconst (v := nI 0) (by decide) ?_
  refine p_istoren_2 rfl ?_
  refine lp_13_2 hp ht p 0 (by omega) (fun e => ?_) (fun e => ⟨by unfold irN; rw [e]; rfl, rfl⟩)
  refine zK.blk rfl ?_
  refine p_iconst (v := nI 1) (by decide) ?_
  exact p_iret (Or.inr rfl) (by unfold irN; rw [e]; rfl) rfl
def isF (p t s i a : Nat) : Nat := if t >>> (1 <<< i) &&& 1 = s then a else a ^^^ (zpl i &&& (z22 p - 1))
def isV (p t : Nat) : Nat := zfor (isF p t (t >>> 0 &&& 1)) p 0 (if t >>> 0 &&& 1 = 1 then z22 p - 1 else 0)
def isN (p t : Nat) : Bool := decide (isV p t = t)
theorem zx_b {a b n : Nat} (ha : a < 2 ^ n) (hb : b < 2 ^ n) : a ^^^ b < 2 ^ n := Nat.xor_lt_two_pow ha hb
set_option maxRecDepth 100000 in
set_option maxHeartbeats 4000000 in
theorem lp_14_23 {sc : Nat × (Nat → Int32)} {d : Nat} {M : zM} {r : Option Value} {M' : zM} {p t s : Nat} (hp : p < 4) (ht : t < 2 ^ 31) (hs : s < 2) : ∀ (j i a : Nat), i + j = p → zK 47 sc (zC 47 sc (d + 1)) 14 r M' 60 [.int (nI p), .int (nI t), .int (nI s), .int (nI (zfor (isF p t s) j i a)), .int (nI p)] [] (M) → zK 47 sc (zC 47 sc (d + 1)) 14 r M' 23 [.int (nI p), .int (nI t), .int (nI s), .int (nI a), .int (nI i)] [] (M) := by
  intro j
  induction j with
  | zero =>
    intro i a  hj hk
    obtain rfl : i = p := by omega
    refine zK.blk rfl ?_
    refine p_iload_4 ?_
    refine p_iloadn_0 ?_
    refine p_icmpN_ge (tgt := 60) (by decide) (by omega) (by omega) (fun hc26 => ?_) (fun hc26 => ?_)
    · skip
      exact hk
    · skip
      exact absurd hc26 (by omega) --STOP
  | succ j ih =>
    intro i a  hj hk
    have hp2 := zsh_lt (show i < 4 by omega)
    have hb1 := zb_lt t (1 <<< i)
    refine zK.blk rfl ?_
    refine p_iload_4 ?_
    refine p_iloadn_0 ?_
    refine p_icmpN_ge (tgt := 60) (by decide) (by omega) (by omega) (fun hc26 => ?_) (fun hc26 => ?_)
    · skip
      exact absurd hc26 (by omega) --STOP
    · skip
      refine p_iloadn_1 ?_
      refine p_iconst (v := nI 1) (by decide) ?_
      refine p_iload_4 ?_
      refine p_ishlN (by omega) ?_
      refine p_cs2i rfl rfl rfl rfl rfl (c_3 (by omega) (by omega)) ?_
      refine p_iloadn_2 ?_
      refine p_icmpN_eq (tgt := 54) (by decide) (by omega) (by omega) (fun hc38 => ?_) (fun hc38 => ?_)
      · skip
        rw [zfor_step (f := isF p t s) (a' := a) (by unfold isF; rw [if_pos hc38])] at hk
        refine zK.blk rfl ?_
        refine p_iinc_4 (zN_inc _ 1) rfl ?_
        refine p_goto (tgt := 23) (by decide) ?_
        exact ih _ _ (by omega) hk
      · skip
        rw [zfor_step (f := isF p t s) (a' := a ^^^ (zpl i &&& (z22 p - 1))) (by unfold isF; rw [if_neg hc38])] at hk
        refine p_iloadn_3 ?_
        refine p_iload_4 ?_
        refine p_cs1i rfl rfl rfl rfl rfl (c_2 (by omega)) ?_
        refine p_iloadn_0 ?_
        refine p_cs1i rfl rfl rfl rfl rfl (c_1 (by omega)) ?_
        refine p_iandN ?_
        refine p_ixorN ?_
        refine p_istoren_3 rfl ?_
        refine zK.blk rfl ?_
        refine p_iinc_4 (zN_inc _ 1) rfl ?_
        refine p_goto (tgt := 23) (by decide) ?_
        exact ih _ _ (by omega) hk
theorem isV_lt : ∀ p, p < 4 → ∀ t, t < z22 p → isV p t < 256 := by decide +kernel
set_option maxRecDepth 100000 in
set_option maxHeartbeats 4000000 in
theorem c_14 {sc : Nat × (Nat → Int32)} {d : Nat} {M : zM} {p t : Nat} (hp : p < 4) (ht : t < z22 p) : zC 47 sc (d + 2) 14 [.int (nI p), .int (nI t)] M (some (.int (zB (isN p t)))) (M) := by
  have hz := z22_lt hp
  have hb0 := zb_lt t 0
  refine z_enter (L := [.int (nI p), .int (nI t), .null, .null, .null]) rfl rfl rfl ?_
  refine zK.blk rfl ?_
  refine p_iloadn_1 ?_
  refine p_iconst (v := nI 0) (by decide) ?_
  refine p_cs2i rfl rfl rfl rfl rfl (c_3 (by omega) (by omega)) ?_
  refine p_istoren_2 rfl ?_
  refine p_iloadn_2 ?_
  refine p_iconst (v := nI 1) (by decide) ?_
  refine p_icmpN_ne (tgt := 18) (by decide) (by omega) (by omega) (fun hc8 => ?_) (fun hc8 => ?_)
  · skip
    refine zK.blk rfl ?_
    refine p_iconst (v := nI 0) (by decide) ?_
    refine zK.blk rfl ?_
    refine p_istoren_3 rfl ?_
    refine p_iconst (v := nI 0) (by decide) ?_
    refine p_istore_4 rfl ?_
    refine lp_14_23 hp (by omega) (zb_lt t 0) p 0 _ (by omega) ?_
    have hv : zfor (isF p t (t >>> 0 &&& 1)) p 0 (0) = isV p t := by unfold isV; rw [if_neg hc8]
    rw [hv]
    have hlt := isV_lt p hp t ht
    refine zK.blk rfl ?_
    refine p_iloadn_3 ?_
    refine p_iloadn_1 ?_
    refine p_icmpN_ne (tgt := 69) (by decide) (by omega) (by omega) (fun hc62 => ?_) (fun hc62 => ?_)
    · skip
      refine zK.blk rfl ?_
      refine p_iconst (v := nI 0) (by decide) ?_
      refine zK.blk rfl ?_
      exact p_iret (by first | exact Or.inl rfl | exact Or.inr rfl) (by unfold isN; first | rw [decide_eq_true (by omega)]; rfl | rw [decide_eq_false (by omega)]; rfl) rfl
    · skip
      refine p_iconst (v := nI 1) (by decide) ?_
      refine p_goto (tgt := 70) (by decide) ?_
      refine zK.blk rfl ?_
      exact p_iret (by first | exact Or.inl rfl | exact Or.inr rfl) (by unfold isN; first | rw [decide_eq_true (by omega)]; rfl | rw [decide_eq_false (by omega)]; rfl) rfl
    --STOP
  · skip
    refine p_iloadn_0 ?_
    refine p_cs1i rfl rfl rfl rfl rfl (c_1 (by omega)) ?_
    refine p_goto (tgt := 19) (by decide) ?_
    refine zK.blk rfl ?_
    refine p_istoren_3 rfl ?_
    refine p_iconst (v := nI 0) (by decide) ?_
    refine p_istore_4 rfl ?_
    refine lp_14_23 hp (by omega) (zb_lt t 0) p 0 _ (by omega) ?_
    have hv : zfor (isF p t (t >>> 0 &&& 1)) p 0 (z22 p - 1) = isV p t := by unfold isV; rw [if_pos (by omega)]
    rw [hv]
    have hlt := isV_lt p hp t ht
    refine zK.blk rfl ?_
    refine p_iloadn_3 ?_
    refine p_iloadn_1 ?_
    refine p_icmpN_ne (tgt := 69) (by decide) (by omega) (by omega) (fun hc62 => ?_) (fun hc62 => ?_)
    · skip
      refine zK.blk rfl ?_
      refine p_iconst (v := nI 0) (by decide) ?_
      refine zK.blk rfl ?_
      exact p_iret (by first | exact Or.inl rfl | exact Or.inr rfl) (by unfold isN; first | rw [decide_eq_true (by omega)]; rfl | rw [decide_eq_false (by omega)]; rfl) rfl
    · skip
      refine p_iconst (v := nI 1) (by decide) ?_
      refine p_goto (tgt := 70) (by decide) ?_
      refine zK.blk rfl ?_
      exact p_iret (by first | exact Or.inl rfl | exact Or.inr rfl) (by unfold isN; first | rw [decide_eq_true (by omega)]; rfl | rw [decide_eq_false (by omega)]; rfl) rfl
    --STOP
