def cb8 (v i : Nat) : Nat := bif v.testBit i then 1 else 0
def cnt8 (v : Nat) : Nat := cb8 v 0 + cb8 v 1 + cb8 v 2 + cb8 v 3 + cb8 v 4 + cb8 v 5 + cb8 v 6 + cb8 v 7
theorem cb_or (v w i : Nat) : cb8 v i ≤ cb8 (v ||| w) i := by
  unfold cb8
  rw [Nat.testBit_or]
  cases v.testBit i <;> cases w.testBit i <;> decide
theorem cnt_up (v : Nat) (hv : v < 256) (w : Nat) (hw : w < 256) : v ||| w = v ∨ cnt8 v < cnt8 (v ||| w) := by
  by_cases h : ∀ i, i < 8 → cb8 (v ||| w) i = cb8 v i
  · refine Or.inl (Nat.eq_of_testBit_eq (fun i => ?_))
    by_cases hi : i < 8
    · have := h i hi
      unfold cb8 at this
      cases h1 : (v ||| w).testBit i <;> cases h2 : v.testBit i <;> rw [h1, h2] at this <;> first | rfl | (exact absurd this (by decide))
    · have h8 : 2 ^ 8 ≤ 2 ^ i := Nat.pow_le_pow_right (by decide) (by omega)
      rw [Nat.testBit_or, Nat.testBit_lt_two_pow (x := v) (by omega), Nat.testBit_lt_two_pow (x := w) (by omega)]
      rfl
  · refine Or.inr ?_
    have e := fun i => cb_or v w i
    have e0 := e 0; have e1 := e 1; have e2 := e 2; have e3 := e 3; have e4 := e 4; have e5 := e 5; have e6 := e 6; have e7 := e 7
    unfold cnt8
    apply Classical.byContradiction
    intro hn
    apply h
    intro i hi
    rcases (show i = 0 ∨ i = 1 ∨ i = 2 ∨ i = 3 ∨ i = 4 ∨ i = 5 ∨ i = 6 ∨ i = 7 by omega) with rfl | rfl | rfl | rfl | rfl | rfl | rfl | rfl <;> omega
theorem cnt_le : ∀ q, q < 4 → ∀ v, v < z22 q → cnt8 v ≤ 1 <<< q := by decide +kernel
theorem z22_pow (q : Nat) : z22 q = 2 ^ (1 <<< q) := Nat.one_shiftLeft _
theorem trN_lt2 {p w q rows : Nat} (hq : q < 4) : trN p w q rows < z22 q := by
  have hs := zsh_lt hq
  rw [z22_pow]
  have hl : 1 <<< q - 1 < 1 <<< q := by omega
  unfold trN trM
  refine zor_lt (fun a => ?_) _ _
  generalize (if 0 < p then rows else 1) = fi
  generalize (if 1 < p then rows else 1) = se
  generalize (if 2 < p then rows else 1) = th
  unfold trG
  split
  · refine zor_lt (fun b => ?_) _ _
    unfold trG1
    split
    · refine zor_lt (fun c => ?_) _ _
      unfold prG
      split
      · rw [Nat.one_shiftLeft]; exact Nat.pow_lt_pow_right (by decide) (zand_r _ hl)
      · exact Nat.two_pow_pos _
    · exact Nat.two_pow_pos _
  · exact Nat.two_pow_pos _
theorem gp_or {P T : Nat → Nat} {q : Nat} (hq : q < 4) : ∀ j i v, ∃ w, w < z22 q ∧ zfor (gpF P T q) j i v = v ||| w := by
  intro j
  induction j with
  | zero => intro i v; exact ⟨0, by have := z22_lt hq; omega, (Nat.or_zero v).symm⟩
  | succ j ih =>
    intro i v
    obtain ⟨w, h1, h2⟩ := ih (i + 1) (gpF P T q i v)
    refine ⟨trN (P i) (T i * zrep (P i)) q v ||| w, ?_, ?_⟩
    · have := trN_lt2 (p := P i) (w := T i * zrep (P i)) (rows := v) hq
      rw [z22_pow] at h1 this ⊢
      exact Nat.or_lt_two_pow this h1
    · show zfor (gpF P T q) j (i + 1) (gpF P T q i v) = _
      rw [h2]
      unfold gpF
      rw [Nat.or_assoc]
theorem gp_lt {P T : Nat → Nat} {n q v : Nat} (hq : q < 4) (hv : v < z22 q) : gpN P T n q v < z22 q ∧ (gpN P T n q v = v ∨ cnt8 v < cnt8 (gpN P T n q v)) := by
  obtain ⟨w, h1, h2⟩ := gp_or (P := P) (T := T) hq n 0 v
  have hz := z22_lt hq
  unfold gpN
  rw [h2]
  exact ⟨by rw [z22_pow] at h1 hv ⊢; exact Nat.or_lt_two_pow hv h1, cnt_up v (by omega) w (by omega)⟩
theorem gr_step {P T : Nat → Nat} {n q j v : Nat} : grN P T n q (j + 1) v = if gpN P T n q v = v then v else grN P T n q j (gpN P T n q v) := rfl
theorem gr_fix {P T : Nat → Nat} {n q v : Nat} (h : gpN P T n q v = v) : ∀ j, grN P T n q j v = v := by
  intro j
  cases j with
  | zero => rfl
  | succ j => rw [gr_step, if_pos h]
theorem gr_more {P T : Nat → Nat} {n q : Nat} (hq : q < 4) : ∀ j v, v < z22 q → 1 <<< q ≤ cnt8 v + j → grN P T n q (j + 1) v = grN P T n q j v := by
  intro j
  induction j with
  | zero =>
    intro v hv h
    have hg := gp_lt (P := P) (T := T) (n := n) hq hv
    have hc := cnt_le q hq _ hg.1
    rw [gr_step, if_pos (by rcases hg.2 with e | e; exact e; omega)]
    rfl
  | succ j ih =>
    intro v hv h
    have hg := gp_lt (P := P) (T := T) (n := n) hq hv
    rw [gr_step (j := j + 1), gr_step (j := j) (v := v)]
    by_cases e : gpN P T n q v = v
    · rw [if_pos e, if_pos e]
    · rw [if_neg e, if_neg e]
      exact ih _ hg.1 (by rcases hg.2 with z | z; exact absurd z e; omega)
theorem gr_9 {P T : Nat → Nat} {n q v : Nat} (hq : q < 4) (hv : v < z22 q) : grN P T n q 9 v = grN P T n q (1 <<< q) v := by
  have hs := zsh_lt hq
  have key : ∀ k, grN P T n q (1 <<< q + k) v = grN P T n q (1 <<< q) v := by
    intro k
    induction k with
    | zero => rfl
    | succ k ih => rw [← ih]; exact gr_more hq (1 <<< q + k) v hv (by omega)
  have := key (9 - 1 <<< q)
  rwa [show 1 <<< q + (9 - 1 <<< q) = 9 by omega] at this
def fAround (P T : Nat → Nat) (n : Nat) (y z : Int32) : Int32 := if zrl y z = true then nI (grN P T n y.toNatClampNeg (1 <<< y.toNatClampNeg) z.toNatClampNeg) else -1
set_option maxRecDepth 100000 in
set_option maxHeartbeats 4000000 in
theorem c_71 {sc : Nat × (Nat → Int32)} {d : Nat} {M : zM} {n : Nat} {P T K : Nat → Nat} {y z : Int32} (hsg : sgC M n P T K) : zC 47 sc (d + 5) 71 [.ref 0, .int y, .int z] M (some (.int (fAround P T n y z))) (M) := by
  unfold fAround
  refine z_enter (L := [.ref 0, .int y, .int z]) rfl rfl rfl ?_
  refine zK.blk rfl ?_
  refine p_iloadn_1 ?_
  refine p_iloadn_2 ?_
  refine p_cs2i rfl rfl rfl rfl rfl (c_83) ?_
  refine p_ifB_eq (tgt := 20) (by decide) (fun hc5 => ?_) (fun hc5 => ?_)
  · skip
    rw [if_neg (by rw [hc5]; decide)]
    refine zK.blk rfl ?_
    refine p_iconst (v := -1) (by decide) ?_
    refine zK.blk rfl ?_
    exact p_iret trivial rfl rfl
  · skip
    rw [if_pos hc5]
    obtain ⟨q, t, hq1, hq, ht, rfl, rfl⟩ := zrl_x hc5
    have hz := z22_lt hq
    rw [nI_clamp (by omega), nI_clamp (by omega)]
    refine p_aloadn_0 ?_
    refine p_getr rfl rfl ?_
    refine p_iloadn_1 ?_
    refine p_iloadn_2 ?_
    refine p_cv2i rfl rfl rfl rfl rfl (c_33 hsg hq (by omega)) ?_
    refine p_goto (tgt := 21) (by decide) ?_
    refine zK.blk rfl ?_
    exact p_iret trivial rfl rfl
set_option maxRecDepth 100000 in
set_option maxHeartbeats 4000000 in
theorem lp_122_32 {sc : Nat × (Nat → Int32)} {d : Nat} {M : zM} {r : Option Value} {M' : zM} {n : Nat} {P T K : Nat → Nat} {q r0 b : Nat} (hsm : sgM M n P T K) (hq : q < 4) : ∀ (j i v : Nat), i + j = n → v < 2 ^ 8 → zK 47 sc (zC 47 sc (d + 2)) 122 r M' 69 [.ref 33, .int (nI q), .int (nI r0), .int (nI (zfor (gpF P T q) j i v)), .int (nI b), .int (nI n)] [] (M) → zK 47 sc (zC 47 sc (d + 2)) 122 r M' 32 [.ref 33, .int (nI q), .int (nI r0), .int (nI v), .int (nI b), .int (nI i)] [] (M) := by
  intro j
  induction j with
  | zero =>
    intro i v  hj hv hk
    obtain rfl : i = n := by omega
    obtain ⟨hth, hm, hn6, hR, hT⟩ := id hsm
    refine zK.blk rfl ?_
    refine p_iload_5 ?_
    refine p_aloadn_0 ?_
    refine p_geti rfl rfl (hm) ?_
    refine p_icmpN_ge (tgt := 69) (by decide) (by omega) (by omega) (fun hc38 => ?_) (fun hc38 => ?_)
    · skip
      exact hk
    · skip
      exact absurd hc38 (by omega) --STOP
  | succ j ih =>
    intro i v  hj hv hk
    obtain ⟨hth, hm, hn6, hR, hT⟩ := id hsm
    have hP := hR i (by omega)
    have hz := z22_lt hP.1
    have hmk := tr_mk (rows := v) hP.1 hP.2.1 hq
    refine zK.blk rfl ?_
    refine p_iload_5 ?_
    refine p_aloadn_0 ?_
    refine p_geti rfl rfl (hm) ?_
    refine p_icmpN_ge (tgt := 69) (by decide) (by omega) (by omega) (fun hc38 => ?_) (fun hc38 => ?_)
    · skip
      exact absurd hc38 (by omega) --STOP
    · skip
      refine p_iloadn_3 ?_
      refine p_aloadn_0 ?_
      refine p_getr rfl rfl ?_
      refine p_iload_5 ?_
      refine p_iald rfl (by omega) (by decide) ((hT _ (by omega)).1) ?_
      refine p_aloadn_0 ?_
      refine p_getr rfl rfl ?_
      refine p_iload_5 ?_
      refine p_iald rfl (by omega) (by decide) ((hT _ (by omega)).2.1) ?_
      refine p_iloadn_1 ?_
      refine p_iloadn_3 ?_
      refine p_cs4i rfl rfl rfl rfl rfl (c_117 hP.1 (by omega) hq (by omega)) ?_
      refine p_iorN ?_
      rw [← hmk]
      refine p_istoren_3 rfl ?_
      refine p_iinc_5 (zN_inc _ 1) rfl ?_
      refine p_goto (tgt := 32) (by decide) ?_
      exact ih _ _ (by omega) (Nat.or_lt_two_pow hv (trN_lt hq)) hk
set_option maxRecDepth 100000 in
set_option maxHeartbeats 4000000 in
theorem lp_122_20 {sc : Nat × (Nat → Int32)} {d : Nat} {M : zM} {n : Nat} {P T K : Nat → Nat} {q r0 : Nat} (hsm : sgM M n P T K) (hq : q < 4) : ∀ (j v b : Nat), v < z22 q → ¬ v = b → b < 2 ^ 31 → 1 <<< q - cnt8 v < j → zK 47 sc (zC 47 sc (d + 2)) 122 (some (.int (nI (grN P T n q j v)))) M 20 [.ref 33, .int (nI q), .int (nI r0), .int (nI v), .int (nI b), .null] [] M := by
  intro j
  induction j with
  | zero => intro v b hv hne hb h; omega
  | succ j ih =>
    intro v b hv hne hb h
    have hz := z22_lt hq
    have hs := zsh_lt hq
    have hg := gp_lt (P := P) (T := T) (n := n) hq hv
    have hcl := cnt_le q hq _ hg.1
    refine zK.blk rfl ?_
    refine p_iloadn_3 ?_
    refine p_iload_4 ?_
    refine p_icmpN_eq (tgt := 72) (by decide) (by omega) (by omega) (fun hc23 => ?_) (fun hc23 => ?_)
    · skip
      exact absurd hc23 hne --STOP
    · skip
      refine p_iloadn_3 ?_
      refine p_istore_4 rfl ?_
      refine p_iconst (v := nI 0) (by decide) ?_
      refine p_istore_5 rfl ?_
      refine lp_122_32 hsm hq n 0 v (by omega) (by omega) ?_
      have hgz : zfor (gpF P T q) n 0 v < z22 q := hg.1
      refine zK.blk rfl ?_
      refine p_goto (tgt := 20) (by decide) ?_
      by_cases e : gpN P T n q v = v
      · rw [gr_fix e, show zfor (gpF P T q) n 0 v = v from e]
        refine zK.blk rfl ?_
        refine p_iloadn_3 ?_
        refine p_iload_4 ?_
        refine p_icmpN_eq (tgt := 72) (by decide) (by omega) (by omega) (fun _ => ?_) (fun z => absurd rfl z)
        refine zK.blk rfl ?_
        refine p_iloadn_3 ?_
        exact p_iret trivial rfl rfl
      · rw [gr_step, if_neg e]
        refine zK.forget _ ?_ (ih (gpN P T n q v) v hg.1 e (by omega) (by rcases hg.2 with z | z; exact absurd z e; omega))
        exact ⟨Or.inl rfl, Or.inl rfl, Or.inl rfl, Or.inl rfl, Or.inl rfl, Or.inr rfl, trivial⟩
set_option maxRecDepth 100000 in
set_option maxHeartbeats 4000000 in
theorem c_122 {sc : Nat × (Nat → Int32)} {d : Nat} {M : zM} {n : Nat} {P T K : Nat → Nat} {y z : Int32} (hsm : sgM M n P T K) : zC 47 sc (d + 3) 122 [.ref 33, .int y, .int z] M (some (.int (fAround P T n y z))) (M) := by
  obtain ⟨hth, hm, hn6, hR, hT⟩ := id hsm
  unfold fAround
  refine z_enter (L := [.ref 33, .int y, .int z, .null, .null, .null]) rfl rfl rfl ?_
  refine zK.blk rfl ?_
  refine p_aloadn_0 ?_
  refine p_iconst (v := nI 0) (by decide) ?_
  refine p_put rfl rfl (by simp) ?_
  rw [zup_id hth]
  refine p_iloadn_1 ?_
  refine p_iloadn_2 ?_
  refine p_cs2i rfl rfl rfl rfl rfl (c_115) ?_
  refine p_ifB_ne (tgt := 15) (by decide) (fun hc10 => ?_) (fun hc10 => ?_)
  · skip
    rw [if_pos hc10]
    obtain ⟨q, v, hq1, hq, hv, rfl, rfl⟩ := zrl_x hc10
    have hz := z22_lt hq
    have hs := zsh_lt hq
    rw [nI_clamp (by omega), nI_clamp (by omega), ← gr_9 hq hv]
    have hg := gp_lt (P := P) (T := T) (n := n) hq hv
    have hcl := cnt_le q hq _ hg.1
    refine zK.blk rfl ?_
    refine p_iloadn_2 ?_
    refine p_istoren_3 rfl ?_
    refine p_iconst (v := -1) (by decide) ?_
    refine p_istore_4 rfl ?_
    refine zK.blk rfl ?_
    refine p_iloadn_3 ?_
    refine p_iload_4 ?_
    refine p_icmp_eq (tgt := 72) (by decide) (fun hc23 => ?_) (fun hc23 => ?_)
    · skip
      exact absurd hc23 (nI_nm1 (by omega)) --STOP
    · skip
      refine p_iloadn_3 ?_
      refine p_istore_4 rfl ?_
      refine p_iconst (v := nI 0) (by decide) ?_
      refine p_istore_5 rfl ?_
      refine lp_122_32 hsm hq n 0 v (by omega) (by omega) ?_
      have hgz : zfor (gpF P T q) n 0 v < z22 q := hg.1
      refine zK.blk rfl ?_
      refine p_goto (tgt := 20) (by decide) ?_
      by_cases e : gpN P T n q v = v
      · rw [gr_fix e, show zfor (gpF P T q) n 0 v = v from e]
        refine zK.blk rfl ?_
        refine p_iloadn_3 ?_
        refine p_iload_4 ?_
        refine p_icmpN_eq (tgt := 72) (by decide) (by omega) (by omega) (fun _ => ?_) (fun z => absurd rfl z)
        refine zK.blk rfl ?_
        refine p_iloadn_3 ?_
        exact p_iret trivial rfl rfl
      · rw [gr_step, if_neg e]
        refine zK.forget _ ?_ (lp_122_20 (r0 := v) hsm hq 8 (gpN P T n q v) v hg.1 e (by omega) (by rcases hg.2 with z | z; exact absurd z e; omega))
        exact ⟨Or.inl rfl, Or.inl rfl, Or.inl rfl, Or.inl rfl, Or.inl rfl, Or.inr rfl, trivial⟩
  · skip
    rw [if_neg (by rw [hc10]; decide)]
    refine p_iconst (v := -1) (by decide) ?_
    exact p_iret trivial rfl rfl
