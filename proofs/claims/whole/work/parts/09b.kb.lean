/-- j turns from i on -/
def zfor {α : Type} (f : Nat → α → α) : Nat → Nat → α → α
  | 0, _, a => a
  | j + 1, i, a => zfor f j (i + 1) (f i a)
theorem zfor_step {α : Type} {f : Nat → α → α} {j i : Nat} {a a' : α} (h : f i a = a') : zfor f (j + 1) i a = zfor f j (i + 1) a' := by rw [← h]; rfl
theorem zshr_lt {t i b : Nat} (h : t < b) : t >>> i < b := Nat.lt_of_le_of_lt (Nat.shiftRight_le t i) h
def ohF (t last i h : Nat) : Nat := h ||| (1 - (t >>> (last - i) &&& 1)) <<< i
def ohN (p t : Nat) : Nat := zfor (ohF t (1 <<< p - 1)) (1 <<< p) 0 0
set_option maxRecDepth 100000 in
set_option maxHeartbeats 4000000 in
theorem lp_10_11 {sc : Nat × (Nat → Int32)} {d : Nat} {M : zM} {r : Option Value} {M' : zM} {p t last : Nat} (ht : t < 2 ^ 31) (hl : last < 8) : ∀ (j i h : Nat), i + j = last + 1 → zK 47 sc (zC 47 sc (d + 1)) 10 r M' 39 [.int (nI p), .int (nI t), .int (nI last), .int (nI (zfor (ohF t last) j i h)), .int (nI (last + 1))] [] (M) → zK 47 sc (zC 47 sc (d + 1)) 10 r M' 11 [.int (nI p), .int (nI t), .int (nI last), .int (nI h), .int (nI i)] [] (M) := by
  intro j
  induction j with
  | zero =>
    intro i h  hj hk
    have hin : i = last + 1 := by omega
    subst hin
    refine zK.blk rfl ?_
    refine p_iload_4 ?_
    refine p_iloadn_2 ?_
    refine p_icmpN_gt (tgt := 39) (by decide) (by omega) (by omega) (fun hc14 => ?_) (fun hc14 => ?_)
    · skip
      exact hk
    · skip
      exact absurd hc14 (by omega) --STOP
  | succ j ih =>
    intro i h  hj hk
    refine zK.blk rfl ?_
    refine p_iload_4 ?_
    refine p_iloadn_2 ?_
    refine p_icmpN_gt (tgt := 39) (by decide) (by omega) (by omega) (fun hc14 => ?_) (fun hc14 => ?_)
    · skip
      exact absurd hc14 (by omega) --STOP
    · skip
      refine p_iloadn_3 ?_
      refine p_iconst (v := nI 1) (by decide) ?_
      refine p_iloadn_1 ?_
      refine p_iloadn_2 ?_
      refine p_iload_4 ?_
      refine p_isubN (by omega) ?_
      refine p_cs2i rfl rfl rfl rfl rfl (c_3 (by omega) (by omega)) ?_
      have hb1 := zb_lt t (last - i)
      refine p_isubN (by omega) ?_
      refine p_iload_4 ?_
      refine p_ishlN (by omega) ?_
      refine p_iorN ?_
      refine p_istoren_3 rfl ?_
      refine p_iinc_4 (zN_inc _ 1) rfl ?_
      refine p_goto (tgt := 11) (by decide) ?_
      exact ih _ _ (by omega) hk
set_option maxRecDepth 100000 in
set_option maxHeartbeats 4000000 in
theorem c_10 {sc : Nat × (Nat → Int32)} {d : Nat} {M : zM} {p t : Nat} (hp : p < 4) (ht : t < 2 ^ 31) : zC 47 sc (d + 2) 10 [.int (nI p), .int (nI t)] M (some (.int (nI (ohN p t)))) (M) := by
  have hp2 := zsh_lt hp
  refine z_enter (L := [.int (nI p), .int (nI t), .null, .null, .null]) rfl rfl rfl ?_
  refine zK.blk rfl ?_
  refine p_iconst (v := nI 1) (by decide) ?_
  refine p_iloadn_0 ?_
  refine p_ishlN (by omega) ?_
  refine p_iconst (v := nI 1) (by decide) ?_
  refine p_isubN (by omega) ?_
  refine p_istoren_2 rfl ?_
  refine p_iconst (v := nI 0) (by decide) ?_
  refine p_istoren_3 rfl ?_
  refine p_iconst (v := nI 0) (by decide) ?_
  refine p_istore_4 rfl ?_
  refine lp_10_11 ht (by omega) (1 <<< p) 0 0 (by omega) ?_
  refine zK.blk rfl ?_
  refine p_iloadn_3 ?_
  exact p_iret trivial rfl rfl
def mpF1 (t pl row b : Nat) : Nat := if t >>> row &&& 1 = t >>> (row ^^^ 1 <<< pl) &&& 1 then b else b ||| 1 <<< pl
def mpF (p t pl b : Nat) : Nat := zfor (mpF1 t pl) (1 <<< p) 0 b
def mpN (p t : Nat) : Nat := zfor (mpF p t) p 0 0
theorem zx_lt {row pl : Nat} (h : row < 8) (hp : pl < 3) : row ^^^ 1 <<< pl < 32 := by
  revert h; revert row; rcases (show pl = 0 ∨ pl = 1 ∨ pl = 2 by omega) with rfl | rfl | rfl <;> decide
theorem zo_lt {row pl : Nat} (h : row < 8) (hp : pl < 3) : row ||| 1 <<< pl < 32 := by
  revert h; revert row; rcases (show pl = 0 ∨ pl = 1 ∨ pl = 2 by omega) with rfl | rfl | rfl <;> decide
set_option maxRecDepth 100000 in
set_option maxHeartbeats 4000000 in
theorem lp_11_12 {sc : Nat × (Nat → Int32)} {d : Nat} {M : zM} {r : Option Value} {M' : zM} {p t pl : Nat} (hp : p < 4) (hpl : pl < p) (ht : t < 2 ^ 31) : ∀ (j i b : Nat), i + j = 1 <<< p → zK 47 sc (zC 47 sc (d + 1)) 11 r M' 51 [.int (nI p), .int (nI t), .int (nI (zfor (mpF1 t pl) j i b)), .int (nI pl), .int (nI (1 <<< p))] [] (M) → zK 47 sc (zC 47 sc (d + 1)) 11 r M' 12 [.int (nI p), .int (nI t), .int (nI b), .int (nI pl), .int (nI i)] [] (M) := by
  intro j
  induction j with
  | zero =>
    intro i b  hj hk
    have hin : i = 1 <<< p := by omega
    subst hin
    have hp2 := zsh_lt hp
    refine zK.blk rfl ?_
    refine p_iload_4 ?_
    refine p_iconst (v := nI 1) (by decide) ?_
    refine p_iloadn_0 ?_
    refine p_ishlN (by omega) ?_
    refine p_icmpN_ge (tgt := 51) (by decide) (by omega) (by omega) (fun hc17 => ?_) (fun hc17 => ?_)
    · skip
      exact hk
    · skip
      exact absurd hc17 (by omega) --STOP
  | succ j ih =>
    intro i b  hj hk
    have hp2 := zsh_lt hp
    have hx := zx_lt (show i < 8 by omega) (show pl < 3 by omega)
    have hb1 := zb_lt t i
    have hb2 := zb_lt t (i ^^^ 1 <<< pl)
    refine zK.blk rfl ?_
    refine p_iload_4 ?_
    refine p_iconst (v := nI 1) (by decide) ?_
    refine p_iloadn_0 ?_
    refine p_ishlN (by omega) ?_
    refine p_icmpN_ge (tgt := 51) (by decide) (by omega) (by omega) (fun hc17 => ?_) (fun hc17 => ?_)
    · skip
      exact absurd hc17 (by omega) --STOP
    · skip
      refine p_iloadn_1 ?_
      refine p_iload_4 ?_
      refine p_cs2i rfl rfl rfl rfl rfl (c_3 (by omega) (by omega)) ?_
      refine p_iloadn_1 ?_
      refine p_iload_4 ?_
      refine p_iconst (v := nI 1) (by decide) ?_
      refine p_iloadn_3 ?_
      refine p_ishlN (by omega) ?_
      refine p_ixorN ?_
      refine p_cs2i rfl rfl rfl rfl rfl (c_3 (by omega) (by omega)) ?_
      refine p_icmpN_eq (tgt := 45) (by decide) (by omega) (by omega) (fun hc36 => ?_) (fun hc36 => ?_)
      · skip
        rw [zfor_step (f := mpF1 t pl) (a' := b) (by unfold mpF1; rw [if_pos hc36])] at hk
        refine zK.blk rfl ?_
        refine p_iinc_4 (zN_inc _ 1) rfl ?_
        refine p_goto (tgt := 12) (by decide) ?_
        exact ih _ _ (by omega) hk
      · skip
        rw [zfor_step (f := mpF1 t pl) (a' := b ||| 1 <<< pl) (by unfold mpF1; rw [if_neg hc36])] at hk
        refine p_iloadn_2 ?_
        refine p_iconst (v := nI 1) (by decide) ?_
        refine p_iloadn_3 ?_
        refine p_ishlN (by omega) ?_
        refine p_iorN ?_
        refine p_istoren_2 rfl ?_
        refine zK.blk rfl ?_
        refine p_iinc_4 (zN_inc _ 1) rfl ?_
        refine p_goto (tgt := 12) (by decide) ?_
        exact ih _ _ (by omega) hk
