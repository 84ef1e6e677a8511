/-- rc is the cell of the Reach of n places, N its tables -/
def zrc (rc n N : Nat) : Prop := (rc = 9 ∧ n = 1 ∧ N = 4) ∨ (rc = 14 ∧ n = 2 ∧ N = 16) ∨ (rc = 19 ∧ n = 3 ∧ N = 256)
theorem zl_r {rc n N : Nat} (h : zrc rc n N) : zlay 47 rc = some (.inl (1, [none, none, some (rc + 1), some (rc + 2), some (rc + 3), some (rc + 4), none, none, none])) := by
  rcases h with ⟨rfl, -, -⟩ | ⟨rfl, -, -⟩ | ⟨rfl, -, -⟩ <;> rfl
theorem zl_a2 {rc n N : Nat} (h : zrc rc n N) : zlay 47 (rc + 1) = some (.inr (N, .int, [])) := by
  rcases h with ⟨rfl, -, rfl⟩ | ⟨rfl, -, rfl⟩ | ⟨rfl, -, rfl⟩ <;> rfl
theorem zl_a3 {rc n N : Nat} (h : zrc rc n N) : zlay 47 (rc + 2) = some (.inr (N, .int, [])) := by
  rcases h with ⟨rfl, -, rfl⟩ | ⟨rfl, -, rfl⟩ | ⟨rfl, -, rfl⟩ <;> rfl
theorem zl_a4 {rc n N : Nat} (h : zrc rc n N) : zlay 47 (rc + 3) = some (.inr (N, .boolean, [])) := by
  rcases h with ⟨rfl, -, rfl⟩ | ⟨rfl, -, rfl⟩ | ⟨rfl, -, rfl⟩ <;> rfl
theorem zl_a5 {rc n N : Nat} (h : zrc rc n N) : zlay 47 (rc + 4) = some (.inr (N, .int, [])) := by
  rcases h with ⟨rfl, -, rfl⟩ | ⟨rfl, -, rfl⟩ | ⟨rfl, -, rfl⟩ <;> rfl
theorem zl_N {rc n N : Nat} (h : zrc rc n N) : 4 ≤ N ∧ N ≤ 256 ∧ N = z22 n ∧ 1 ≤ n ∧ n < 4 := by
  rcases h with ⟨-, rfl, rfl⟩ | ⟨-, rfl, rfl⟩ | ⟨-, rfl, rfl⟩ <;> decide
theorem zl_n {rc n N : Nat} (h : zrc rc n N) : N < 2 ^ 31 := by have := zl_N h; omega

/-- what a Reach holds of costs -/
def rcC (M : zM) (rc N : Nat) (c : Nat → Nat) : Prop := M rc 1 = nI (N - 1) ∧ ∀ t, t < N → M (rc + 1) t = nI (c t) ∧ c t ≤ 1073741824
set_option maxRecDepth 100000 in
set_option maxHeartbeats 4000000 in
theorem c_15 {sc : Nat × (Nat → Int32)} {d : Nat} {M : zM} {l : Nat} : zC 47 sc (d + 1) 15 [.int (nI l)] M (some (.int (nI (l <<< 24)))) (M) := by
  refine z_enter (L := [.int (nI l)]) rfl rfl rfl ?_
  refine zK.blk rfl ?_
  refine p_iloadn_0 ?_
  refine p_bipush (v := nI 24) (by decide) ?_
  refine p_ishlN (by omega) ?_
  exact p_iret trivial rfl rfl
set_option maxRecDepth 100000 in
set_option maxHeartbeats 4000000 in
theorem c_19 {sc : Nat × (Nat → Int32)} {d : Nat} {M : zM} {p : Nat} (hp : p < 3) : zC 47 sc (d + 1) 19 [.int (nI p)] M (some (.int (nI (8 * (2 - p))))) (M) := by
  refine z_enter (L := [.int (nI p)]) rfl rfl rfl ?_
  refine zK.blk rfl ?_
  refine p_bipush (v := nI 8) (by decide) ?_
  refine p_iconst (v := nI 2) (by decide) ?_
  refine p_iloadn_0 ?_
  refine p_isubN (by omega) ?_
  refine p_imulN ?_
  exact p_iret trivial rfl rfl
set_option maxRecDepth 100000 in
set_option maxHeartbeats 4000000 in
theorem c_16 {sc : Nat × (Nat → Int32)} {d : Nat} {M : zM} {w p t : Nat} (hp : p < 3) : zC 47 sc (d + 2) 16 [.int (nI w), .int (nI p), .int (nI t)] M (some (.int (nI (w ||| t <<< (8 * (2 - p)))))) (M) := by
  refine z_enter (L := [.int (nI w), .int (nI p), .int (nI t)]) rfl rfl rfl ?_
  refine zK.blk rfl ?_
  refine p_iloadn_0 ?_
  refine p_iloadn_2 ?_
  refine p_iloadn_1 ?_
  refine p_cs1i rfl rfl rfl rfl rfl (c_19 hp) ?_
  refine p_ishlN (by omega) ?_
  refine p_iorN ?_
  exact p_iret trivial rfl rfl
set_option maxRecDepth 100000 in
set_option maxHeartbeats 4000000 in
theorem c_17 {sc : Nat × (Nat → Int32)} {d : Nat} {M : zM} {w : Nat} (hw : w < 2 ^ 31) : zC 47 sc (d + 1) 17 [.int (nI w)] M (some (.int (nI (w >>> 24)))) (M) := by
  refine z_enter (L := [.int (nI w)]) rfl rfl rfl ?_
  refine zK.blk rfl ?_
  refine p_iloadn_0 ?_
  refine p_bipush (v := nI 24) (by decide) ?_
  refine p_ishrN (by omega) (by omega) ?_
  exact p_iret trivial rfl rfl
set_option maxRecDepth 100000 in
set_option maxHeartbeats 4000000 in
theorem c_18 {sc : Nat × (Nat → Int32)} {d : Nat} {M : zM} {w p : Nat} (hw : w < 2 ^ 31) (hp : p < 3) : zC 47 sc (d + 2) 18 [.int (nI w), .int (nI p)] M (some (.int (nI (w >>> (8 * (2 - p)) &&& 255)))) (M) := by
  refine z_enter (L := [.int (nI w), .int (nI p)]) rfl rfl rfl ?_
  refine zK.blk rfl ?_
  refine p_iloadn_0 ?_
  refine p_iloadn_1 ?_
  refine p_cs1i rfl rfl rfl rfl rfl (c_19 hp) ?_
  refine p_ishrN (by omega) (by omega) ?_
  refine p_sipush (v := nI 255) (by decide) ?_
  refine p_iandN ?_
  exact p_iret trivial rfl rfl
def lfN (w nx at0 row : Nat) : Nat := pkN nx ((w >>> (row ||| 1 <<< at0) &&& 1) * zFF) ((w >>> row &&& 1) * zFF)
set_option maxRecDepth 100000 in
set_option maxHeartbeats 4000000 in
theorem c_47 {sc : Nat × (Nat → Int32)} {d : Nat} {M : zM} {i w nx at0 row : Nat} (hi : i < 6) (h3 : M (3 + i) 3 = nI w) (hw : w < 2 ^ 31) (ha : at0 < 3) (hro : row < 8) : zC 47 sc (d + 2) 47 [.ref (3 + i), .int (nI nx), .int (nI at0), .int (nI row)] M (some (.int (nI (lfN w nx at0 row)))) (M) := by
  have hx := zo_lt hro ha
  refine z_enter (L := [.ref (3 + i), .int (nI nx), .int (nI at0), .int (nI row), .null, .null]) rfl rfl rfl ?_
  refine zK.blk rfl ?_
  refine p_aloadn_0 ?_
  refine p_geti (zlay_sg (by omega)) rfl (h3) ?_
  refine p_iloadn_3 ?_
  refine p_iconst (v := nI 1) (by decide) ?_
  refine p_iloadn_2 ?_
  refine p_ishlN (by omega) ?_
  refine p_iorN ?_
  refine p_cs2i rfl rfl rfl rfl rfl (c_3 (by omega) (by omega)) ?_
  refine p_ineg (zN_neg (zb_lt _ _)) ?_
  refine p_istore_4 rfl ?_
  refine p_aloadn_0 ?_
  refine p_geti (zlay_sg (by omega)) rfl (h3) ?_
  refine p_iloadn_3 ?_
  refine p_cs2i rfl rfl rfl rfl rfl (c_3 (by omega) (by omega)) ?_
  refine p_ineg (zN_neg (zb_lt _ _)) ?_
  refine p_istore_5 rfl ?_
  refine p_iloadn_1 ?_
  refine p_iload_4 ?_
  refine p_iload_5 ?_
  refine p_cs3i rfl rfl rfl rfl rfl (c_5) ?_
  exact p_iret trivial rfl rfl
set_option maxRecDepth 100000 in
set_option maxHeartbeats 4000000 in
theorem c_49 {sc : Nat × (Nat → Int32)} {d : Nat} {M : zM} {rc n N : Nat} {c : Nat → Nat} {t : Nat} (hrc : zrc rc n N) (hcs : rcC M rc N c) (ht : t < N) : zC 47 sc (d + 1) 49 [.ref rc, .int (nI t)] M (some (.int (zB (decide (¬ c t = 1073741824))))) (M) := by
  have hN := zl_N hrc
  obtain ⟨hfu, hco⟩ := id hcs
  have hct := hco t ht
  refine z_enter (L := [.ref rc, .int (nI t)]) rfl rfl rfl ?_
  refine zK.blk rfl ?_
  refine p_iloadn_1 ?_
  refine p_ifN_lt (tgt := 27) (by decide) (by omega) (fun hc1 => ?_) (fun hc1 => ?_)
  · skip
    exact absurd hc1 (by omega) --STOP
  · skip
    refine p_iloadn_1 ?_
    refine p_aloadn_0 ?_
    refine p_geti (zl_r hrc) rfl (hfu) ?_
    refine p_icmpN_gt (tgt := 27) (by decide) (by omega) (by omega) (fun hc9 => ?_) (fun hc9 => ?_)
    · skip
      exact absurd hc9 (by omega) --STOP
    · skip
      refine p_aloadn_0 ?_
      refine p_getr (zl_r hrc) rfl ?_
      refine p_iloadn_1 ?_
      refine p_iald (zl_a2 hrc) (by omega) (zl_n hrc) ((hco _ (by omega)).1) ?_
      refine p_ldc ?_
      refine p_icmpN_eq (tgt := 27) (by decide) (by omega) (by omega) (fun hc20 => ?_) (fun hc20 => ?_)
      · skip
        refine zK.blk rfl ?_
        refine p_iconst (v := nI 0) (by decide) ?_
        refine zK.blk rfl ?_
        exact p_iret (by first | exact Or.inl rfl | exact Or.inr rfl) (by first | rw [decide_eq_true (by omega)]; rfl | rw [decide_eq_false (by omega)]; rfl) rfl
      · skip
        refine p_iconst (v := nI 1) (by decide) ?_
        refine p_goto (tgt := 28) (by decide) ?_
        refine zK.blk rfl ?_
        exact p_iret (by first | exact Or.inl rfl | exact Or.inr rfl) (by first | rw [decide_eq_true (by omega)]; rfl | rw [decide_eq_false (by omega)]; rfl) rfl
set_option maxRecDepth 100000 in
set_option maxHeartbeats 4000000 in
theorem c_50 {sc : Nat × (Nat → Int32)} {d : Nat} {M : zM} {rc n N : Nat} {c : Nat → Nat} {t : Nat} (hrc : zrc rc n N) (hcs : rcC M rc N c) (ht : t < N) : zC 47 sc (d + 2) 50 [.ref rc, .int (nI t)] M (some (.int (if c t = 1073741824 then -9 else nI (c t)))) (M) := by
  have hN := zl_N hrc
  obtain ⟨hfu, hco⟩ := id hcs
  refine z_enter (L := [.ref rc, .int (nI t)]) rfl rfl rfl ?_
  refine zK.blk rfl ?_
  refine p_aloadn_0 ?_
  refine p_iloadn_1 ?_
  refine p_cv1i rfl rfl rfl rfl (zl_r hrc) (c_49 hrc hcs ht) ?_
  refine p_ifB_eq (tgt := 17) (by decide) (fun hc5 => ?_) (fun hc5 => ?_)
  · skip
    rw [if_pos (Classical.not_not.mp (of_decide_eq_false hc5))]
    refine zK.blk rfl ?_
    refine p_bipush (v := -9) (by decide) ?_
    refine zK.blk rfl ?_
    exact p_iret trivial rfl rfl
  · skip
    rw [if_neg (of_decide_eq_true hc5)]
    refine p_aloadn_0 ?_
    refine p_getr (zl_r hrc) rfl ?_
    refine p_iloadn_1 ?_
    refine p_iald (zl_a2 hrc) (by omega) (zl_n hrc) ((hco _ (by omega)).1) ?_
    refine p_goto (tgt := 19) (by decide) ?_
    refine zK.blk rfl ?_
    exact p_iret trivial rfl rfl
set_option maxRecDepth 100000 in
set_option maxHeartbeats 4000000 in
theorem c_51 {sc : Nat × (Nat → Int32)} {d : Nat} {M : zM} {rc n N : Nat} {c : Nat → Nat} {t : Nat} {w : Int32} (hrc : zrc rc n N) (hcs : rcC M rc N c) (ht : t < N) (hw : M (rc + 2) t = w) : zC 47 sc (d + 2) 51 [.ref rc, .int (nI t)] M (some (.int (if c t = 1073741824 then -1 else w))) (M) := by
  have hN := zl_N hrc
  obtain ⟨hfu, hco⟩ := id hcs
  refine z_enter (L := [.ref rc, .int (nI t)]) rfl rfl rfl ?_
  refine zK.blk rfl ?_
  refine p_aloadn_0 ?_
  refine p_iloadn_1 ?_
  refine p_cv1i rfl rfl rfl rfl (zl_r hrc) (c_49 hrc hcs ht) ?_
  refine p_ifB_eq (tgt := 17) (by decide) (fun hc5 => ?_) (fun hc5 => ?_)
  · skip
    rw [if_pos (Classical.not_not.mp (of_decide_eq_false hc5))]
    refine zK.blk rfl ?_
    refine p_iconst (v := -1) (by decide) ?_
    refine zK.blk rfl ?_
    exact p_iret trivial rfl rfl
  · skip
    rw [if_neg (of_decide_eq_true hc5)]
    refine p_aloadn_0 ?_
    refine p_getr (zl_r hrc) rfl ?_
    refine p_iloadn_1 ?_
    refine p_iald (zl_a3 hrc) (by omega) (zl_n hrc) (hw) ?_
    refine p_goto (tgt := 18) (by decide) ?_
    refine zK.blk rfl ?_
    exact p_iret trivial rfl rfl
def gcF (c : Nat → Nat) (t v : Nat) : Nat := if c t = 1073741824 then v else (if v < c t then c t else v)
def gcN (c : Nat → Nat) (N : Nat) : Nat := zfor (gcF c) N 0 0
theorem gc_le {c : Nat → Nat} {N : Nat} (h : ∀ t, t < N → c t ≤ 1073741824) : ∀ j i v, i + j = N → v ≤ 1073741824 → zfor (gcF c) j i v ≤ 1073741824 := by
  intro j
  induction j with
  | zero => intro i v _ hv; exact hv
  | succ j ih =>
    intro i v hij hv
    refine ih (i + 1) _ (by omega) ?_
    unfold gcF
    have := h i (by omega)
    split
    · exact hv
    · split <;> omega
theorem zN_max {x y : Nat} (hx : x < 2 ^ 31) (hy : y < 2 ^ 31) : (if nI x < nI y then nI y else nI x) = nI (if x < y then y else x) := by
  by_cases h : x < y
  · rw [if_pos h, if_pos ((nI_ltI hx hy).mpr h)]
  · rw [if_neg h, if_neg (fun z => h ((nI_ltI hx hy).mp z))]
set_option maxRecDepth 100000 in
set_option maxHeartbeats 4000000 in
theorem lp_52_4 {sc : Nat × (Nat → Int32)} {d : Nat} {M : zM} {r : Option Value} {M' : zM} {rc n N : Nat} {c : Nat → Nat} (hrc : zrc rc n N) (hcs : rcC M rc N c) : ∀ (j i v : Nat), i + j = N → v ≤ 1073741824 → zK 47 sc (zC 47 sc (d + 1)) 52 r M' 37 [.ref rc, .int (nI (zfor (gcF c) j i v)), .int (nI N)] [] (M) → zK 47 sc (zC 47 sc (d + 1)) 52 r M' 4 [.ref rc, .int (nI v), .int (nI i)] [] (M) := by
  intro j
  induction j with
  | zero =>
    intro i v  hj hv hk
    obtain rfl : i = N := by omega
    have hN := zl_N hrc
    obtain ⟨hfu, hco⟩ := id hcs
    refine zK.blk rfl ?_
    refine p_iloadn_2 ?_
    refine p_aloadn_0 ?_
    refine p_geti (zl_r hrc) rfl (hfu) ?_
    refine p_icmpN_gt (tgt := 37) (by decide) (by omega) (by omega) (fun hc9 => ?_) (fun hc9 => ?_)
    · skip
      exact hk
    · skip
      exact absurd hc9 (by omega) --STOP
  | succ j ih =>
    intro i v  hj hv hk
    have hN := zl_N hrc
    obtain ⟨hfu, hco⟩ := id hcs
    have hct := hco i (by omega)
    refine zK.blk rfl ?_
    refine p_iloadn_2 ?_
    refine p_aloadn_0 ?_
    refine p_geti (zl_r hrc) rfl (hfu) ?_
    refine p_icmpN_gt (tgt := 37) (by decide) (by omega) (by omega) (fun hc9 => ?_) (fun hc9 => ?_)
    · skip
      exact absurd hc9 (by omega) --STOP
    · skip
      refine p_aloadn_0 ?_
      refine p_iloadn_2 ?_
      refine p_cv1i rfl rfl rfl rfl (zl_r hrc) (c_49 hrc hcs (by omega)) ?_
      refine p_ifB_eq (tgt := 31) (by decide) (fun hc17 => ?_) (fun hc17 => ?_)
      · skip
        rw [zfor_step (f := gcF c) (a' := v) (by unfold gcF; rw [if_pos (Classical.not_not.mp (of_decide_eq_false hc17))])] at hk
        refine zK.blk rfl ?_
        refine p_iinc_2 (zN_inc _ 1) rfl ?_
        refine p_goto (tgt := 4) (by decide) ?_
        exact ih _ _ (by omega) (by first | exact hv | (split <;> omega)) hk
      · skip
        rw [zfor_step (f := gcF c) (a' := if v < c i then c i else v) (by unfold gcF; rw [if_neg (of_decide_eq_true hc17)])] at hk
        refine p_iloadn_1 ?_
        refine p_aloadn_0 ?_
        refine p_getr (zl_r hrc) rfl ?_
        refine p_iloadn_2 ?_
        refine p_iald (zl_a2 hrc) (by omega) (zl_n hrc) ((hco _ (by omega)).1) ?_
        refine p_max rfl rfl ?_
        rw [zN_max (by omega) (by omega)]
        refine p_istoren_1 rfl ?_
        refine zK.blk rfl ?_
        refine p_iinc_2 (zN_inc _ 1) rfl ?_
        refine p_goto (tgt := 4) (by decide) ?_
        exact ih _ _ (by omega) (by first | exact hv | (split <;> omega)) hk
set_option maxRecDepth 100000 in
set_option maxHeartbeats 4000000 in
theorem c_52 {sc : Nat × (Nat → Int32)} {d : Nat} {M : zM} {rc n N : Nat} {c : Nat → Nat} (hrc : zrc rc n N) (hcs : rcC M rc N c) : zC 47 sc (d + 2) 52 [.ref rc] M (some (.int (nI (gcN c N)))) (M) := by
  refine z_enter (L := [.ref rc, .null, .null]) rfl rfl rfl ?_
  refine zK.blk rfl ?_
  refine p_iconst (v := nI 0) (by decide) ?_
  refine p_istoren_1 rfl ?_
  refine p_iconst (v := nI 0) (by decide) ?_
  refine p_istoren_2 rfl ?_
  refine lp_52_4 hrc hcs N 0 0 (by omega) (by decide) ?_
  refine zK.blk rfl ?_
  refine p_iloadn_1 ?_
  exact p_iret trivial rfl rfl
def hmF (c : Nat → Nat) (x : Int32) (t v : Nat) : Nat := if ¬ c t = 1073741824 ∧ nI (c t) = x then v + 1 else v
def hmN (c : Nat → Nat) (N : Nat) (x : Int32) : Nat := zfor (hmF c x) N 0 0
def zfirst (f : Nat → Bool) : Nat → Nat → Int32
  | 0, _ => -9
  | j + 1, i => if f i = true then nI i else zfirst f j (i + 1)
set_option maxRecDepth 100000 in
set_option maxHeartbeats 4000000 in
theorem lp_55_4 {sc : Nat × (Nat → Int32)} {d : Nat} {M : zM} {r : Option Value} {M' : zM} {rc n N : Nat} {c : Nat → Nat} {x : Int32} (hrc : zrc rc n N) (hcs : rcC M rc N c) : ∀ (j i v : Nat), i + j = N → zK 47 sc (zC 47 sc (d + 1)) 55 r M' 39 [.ref rc, .int x, .int (nI (zfor (hmF c x) j i v)), .int (nI N)] [] (M) → zK 47 sc (zC 47 sc (d + 1)) 55 r M' 4 [.ref rc, .int x, .int (nI v), .int (nI i)] [] (M) := by
  intro j
  induction j with
  | zero =>
    intro i v  hj hk
    obtain rfl : i = N := by omega
    have hN := zl_N hrc
    obtain ⟨hfu, hco⟩ := id hcs
    refine zK.blk rfl ?_
    refine p_iloadn_3 ?_
    refine p_aloadn_0 ?_
    refine p_geti (zl_r hrc) rfl (hfu) ?_
    refine p_icmpN_gt (tgt := 39) (by decide) (by omega) (by omega) (fun hc9 => ?_) (fun hc9 => ?_)
    · skip
      exact hk
    · skip
      exact absurd hc9 (by omega) --STOP
  | succ j ih =>
    intro i v  hj hk
    have hN := zl_N hrc
    obtain ⟨hfu, hco⟩ := id hcs
    have hct := hco i (by omega)
    refine zK.blk rfl ?_
    refine p_iloadn_3 ?_
    refine p_aloadn_0 ?_
    refine p_geti (zl_r hrc) rfl (hfu) ?_
    refine p_icmpN_gt (tgt := 39) (by decide) (by omega) (by omega) (fun hc9 => ?_) (fun hc9 => ?_)
    · skip
      exact absurd hc9 (by omega) --STOP
    · skip
      refine p_aloadn_0 ?_
      refine p_iloadn_3 ?_
      refine p_cv1i rfl rfl rfl rfl (zl_r hrc) (c_49 hrc hcs (by omega)) ?_
      refine p_ifB_eq (tgt := 33) (by decide) (fun hc17 => ?_) (fun hc17 => ?_)
      · skip
        rw [zfor_step (f := hmF c x) (a' := v) (by unfold hmF; rw [if_neg (fun z => of_decide_eq_false hc17 z.1)])] at hk
        refine zK.blk rfl ?_
        refine p_iinc_3 (zN_inc _ 1) rfl ?_
        refine p_goto (tgt := 4) (by decide) ?_
        exact ih _ _ (by omega) hk
      · skip
        refine p_aloadn_0 ?_
        refine p_getr (zl_r hrc) rfl ?_
        refine p_iloadn_3 ?_
        refine p_iald (zl_a2 hrc) (by omega) (zl_n hrc) ((hco _ (by omega)).1) ?_
        refine p_iloadn_1 ?_
        refine p_icmp_ne (tgt := 33) (by decide) (fun hc27 => ?_) (fun hc27 => ?_)
        · skip
          rw [zfor_step (f := hmF c x) (a' := v) (by unfold hmF; rw [if_neg (fun z => hc27 z.2)])] at hk
          refine zK.blk rfl ?_
          refine p_iinc_3 (zN_inc _ 1) rfl ?_
          refine p_goto (tgt := 4) (by decide) ?_
          exact ih _ _ (by omega) hk
        · skip
          rw [zfor_step (f := hmF c x) (a' := v + 1) (by unfold hmF; rw [if_pos ⟨of_decide_eq_true hc17, Classical.not_not.mp hc27⟩])] at hk
          refine p_iinc_2 (zN_inc _ 1) rfl ?_
          refine zK.blk rfl ?_
          refine p_iinc_3 (zN_inc _ 1) rfl ?_
          refine p_goto (tgt := 4) (by decide) ?_
          exact ih _ _ (by omega) hk
set_option maxRecDepth 100000 in
set_option maxHeartbeats 4000000 in
theorem c_55 {sc : Nat × (Nat → Int32)} {d : Nat} {M : zM} {rc n N : Nat} {c : Nat → Nat} {x : Int32} (hrc : zrc rc n N) (hcs : rcC M rc N c) : zC 47 sc (d + 2) 55 [.ref rc, .int x] M (some (.int (nI (hmN c N x)))) (M) := by
  refine z_enter (L := [.ref rc, .int x, .null, .null]) rfl rfl rfl ?_
  refine zK.blk rfl ?_
  refine p_iconst (v := nI 0) (by decide) ?_
  refine p_istoren_2 rfl ?_
  refine p_iconst (v := nI 0) (by decide) ?_
  refine p_istoren_3 rfl ?_
  refine lp_55_4 hrc hcs N 0 0 (by omega) ?_
  refine zK.blk rfl ?_
  refine p_iloadn_2 ?_
  exact p_iret trivial rfl rfl
theorem zfirst_y {f : Nat → Bool} {j i : Nat} (h : f i = true) : zfirst f (j + 1) i = nI i := by
  show (if f i = true then _ else _) = _
  rw [if_pos h]
theorem zfirst_n {f : Nat → Bool} {j i : Nat} (h : f i = false) : zfirst f (j + 1) i = zfirst f j (i + 1) := by
  show (if f i = true then _ else _) = _
  rw [if_neg (by rw [h]; decide)]
def fcB (c : Nat → Nat) (x : Int32) (t : Nat) : Bool := decide (¬ c t = 1073741824) && decide (nI (c t) = x)
def fuB (c : Nat → Nat) (t : Nat) : Bool := decide (c t = 1073741824)
set_option maxRecDepth 100000 in
set_option maxHeartbeats 4000000 in
theorem lp_53_2 {sc : Nat × (Nat → Int32)} {d : Nat} {M : zM} {rc n N : Nat} {c : Nat → Nat} {x : Int32} (hrc : zrc rc n N) (hcs : rcC M rc N c) : ∀ (j i : Nat), i + j = N → zK 47 sc (zC 47 sc (d + 1)) 53 (some (.int (zfirst (fcB c x) j i))) M 2 [.ref rc, .int x, .int (nI i)] [] M := by
  intro j
  induction j with
  | zero =>
    intro i hj
    have hN := zl_N hrc
    obtain ⟨hfu, hco⟩ := id hcs
    refine zK.blk rfl ?_
    refine p_iloadn_2 ?_
    refine p_aloadn_0 ?_
    refine p_geti (zl_r hrc) rfl (hfu) ?_
    refine p_icmpN_gt (tgt := 36) (by decide) (by omega) (by omega) (fun hc7 => ?_) (fun hc7 => ?_)
    · skip
      refine zK.blk rfl ?_
      refine p_bipush (v := -9) (by decide) ?_
      exact p_iret trivial rfl rfl
    · skip
      exact absurd hc7 (by omega) --STOP
  | succ j ih =>
    intro i hj
    have hN := zl_N hrc
    obtain ⟨hfu, hco⟩ := id hcs
    have hct := hco i (by omega)
    refine zK.blk rfl ?_
    refine p_iloadn_2 ?_
    refine p_aloadn_0 ?_
    refine p_geti (zl_r hrc) rfl (hfu) ?_
    refine p_icmpN_gt (tgt := 36) (by decide) (by omega) (by omega) (fun hc7 => ?_) (fun hc7 => ?_)
    · skip
      exact absurd hc7 (by omega) --STOP
    · skip
      refine p_aloadn_0 ?_
      refine p_iloadn_2 ?_
      refine p_cv1i rfl rfl rfl rfl (zl_r hrc) (c_49 hrc hcs (by omega)) ?_
      refine p_ifB_eq (tgt := 30) (by decide) (fun hc15 => ?_) (fun hc15 => ?_)
      · skip
        rw [zfirst_n (by unfold fcB; rw [hc15]; rfl)]
        refine zK.blk rfl ?_
        refine p_iinc_2 (zN_inc _ 1) rfl ?_
        refine p_goto (tgt := 2) (by decide) ?_
        exact ih _ (by omega)
      · skip
        refine p_aloadn_0 ?_
        refine p_getr (zl_r hrc) rfl ?_
        refine p_iloadn_2 ?_
        refine p_iald (zl_a2 hrc) (by omega) (zl_n hrc) ((hco _ (by omega)).1) ?_
        refine p_iloadn_1 ?_
        refine p_icmp_ne (tgt := 30) (by decide) (fun hc25 => ?_) (fun hc25 => ?_)
        · skip
          rw [zfirst_n (by unfold fcB; rw [decide_eq_false hc25, Bool.and_false])]
          refine zK.blk rfl ?_
          refine p_iinc_2 (zN_inc _ 1) rfl ?_
          refine p_goto (tgt := 2) (by decide) ?_
          exact ih _ (by omega)
        · skip
          rw [zfirst_y (by unfold fcB; rw [hc15, decide_eq_true (Classical.not_not.mp hc25)]; rfl)]
          refine p_iloadn_2 ?_
          exact p_iret trivial rfl rfl
set_option maxRecDepth 100000 in
set_option maxHeartbeats 4000000 in
theorem c_53 {sc : Nat × (Nat → Int32)} {d : Nat} {M : zM} {rc n N : Nat} {c : Nat → Nat} {x : Int32} (hrc : zrc rc n N) (hcs : rcC M rc N c) : zC 47 sc (d + 2) 53 [.ref rc, .int x] M (some (.int (zfirst (fcB c x) N 0))) (M) := by
  refine z_enter (L := [.ref rc, .int x, .null]) rfl rfl rfl ?_
  refine zK.blk rfl ?_
  refine p_iconst (v := nI 0) (by decide) ?_
  refine p_istoren_2 rfl ?_
  exact lp_53_2 hrc hcs N 0 (by omega)
set_option maxRecDepth 100000 in
set_option maxHeartbeats 4000000 in
theorem lp_54_2 {sc : Nat × (Nat → Int32)} {d : Nat} {M : zM} {rc n N : Nat} {c : Nat → Nat}  (hrc : zrc rc n N) (hcs : rcC M rc N c) : ∀ (j i : Nat), i + j = N → zK 47 sc (zC 47 sc (d + 1)) 54 (some (.int (zfirst (fuB c) j i))) M 2 [.ref rc, .int (nI i)] [] M := by
  intro j
  induction j with
  | zero =>
    intro i hj
    have hN := zl_N hrc
    obtain ⟨hfu, hco⟩ := id hcs
    refine zK.blk rfl ?_
    refine p_iloadn_1 ?_
    refine p_aloadn_0 ?_
    refine p_geti (zl_r hrc) rfl (hfu) ?_
    refine p_icmpN_gt (tgt := 26) (by decide) (by omega) (by omega) (fun hc7 => ?_) (fun hc7 => ?_)
    · skip
      refine zK.blk rfl ?_
      refine p_bipush (v := -9) (by decide) ?_
      exact p_iret trivial rfl rfl
    · skip
      exact absurd hc7 (by omega) --STOP
  | succ j ih =>
    intro i hj
    have hN := zl_N hrc
    obtain ⟨hfu, hco⟩ := id hcs
    have hct := hco i (by omega)
    refine zK.blk rfl ?_
    refine p_iloadn_1 ?_
    refine p_aloadn_0 ?_
    refine p_geti (zl_r hrc) rfl (hfu) ?_
    refine p_icmpN_gt (tgt := 26) (by decide) (by omega) (by omega) (fun hc7 => ?_) (fun hc7 => ?_)
    · skip
      exact absurd hc7 (by omega) --STOP
    · skip
      refine p_aloadn_0 ?_
      refine p_iloadn_1 ?_
      refine p_cv1i rfl rfl rfl rfl (zl_r hrc) (c_49 hrc hcs (by omega)) ?_
      refine p_ifB_ne (tgt := 20) (by decide) (fun hc15 => ?_) (fun hc15 => ?_)
      · skip
        rw [zfirst_n (by unfold fuB; exact decide_eq_false (of_decide_eq_true hc15))]
        refine zK.blk rfl ?_
        refine p_iinc_1 (zN_inc _ 1) rfl ?_
        refine p_goto (tgt := 2) (by decide) ?_
        exact ih _ (by omega)
      · skip
        rw [zfirst_y (by unfold fuB; exact decide_eq_true (Classical.not_not.mp (of_decide_eq_false hc15)))]
        refine p_iloadn_1 ?_
        exact p_iret trivial rfl rfl
set_option maxRecDepth 100000 in
set_option maxHeartbeats 4000000 in
theorem c_54 {sc : Nat × (Nat → Int32)} {d : Nat} {M : zM} {rc n N : Nat} {c : Nat → Nat} (hrc : zrc rc n N) (hcs : rcC M rc N c) : zC 47 sc (d + 2) 54 [.ref rc] M (some (.int (zfirst (fuB c) N 0))) (M) := by
  refine z_enter (L := [.ref rc, .null]) rfl rfl rfl ?_
  refine zK.blk rfl ?_
  refine p_iconst (v := nI 0) (by decide) ?_
  refine p_istoren_1 rfl ?_
  exact lp_54_2 hrc hcs N 0 (by omega)
