theorem zlay_fos {i : Nat} (h : i < 4) : zlay 33 (28 + i) = some (.inl (0, [none, none, none, none])) := by
  rcases (show i = 0 ∨ i = 1 ∨ i = 2 ∨ i = 3 by omega) with rfl | rfl | rfl | rfl <;> rfl
/-- places i .. i + j - 1 of the cell k hold x -/
def zfil (M : zM) (k i j : Nat) (x : Int32) : zM := fun a b => if a = k ∧ i ≤ b ∧ b < i + j then x else M a b
theorem zfil_0 {M : zM} {k i : Nat} {x : Int32} : zfil M k i 0 x = M := by
  funext a b
  unfold zfil
  rw [if_neg (by omega)]
theorem zfil_s {M : zM} {k i j : Nat} {x : Int32} : zfil (zup M k i x) k (i + 1) j x = zfil M k i (j + 1) x := by
  funext a b
  unfold zfil zup
  by_cases h1 : a = k
  · by_cases h2 : b = i
    · rw [if_neg (by omega), if_pos h1, if_pos h2, if_pos (by omega)]
    · by_cases h3 : i + 1 ≤ b ∧ b < i + 1 + j
      · rw [if_pos ⟨h1, h3⟩, if_pos (by omega)]
      · rw [if_neg (fun z => h3 z.2), if_pos h1, if_neg h2, if_neg (by omega)]
  · rw [if_neg (fun z => h1 z.1), if_neg h1, if_neg (fun z => h1 z.1)]
def xv (b : Nat) : Int32 := if b = 0 then nI 170 else if b = 3 then nI 1 else nI 0
/-- formulas i .. i + j - 1 are x -/
def zfx (M : zM) (i j : Nat) : zM := fun a b => if 28 + i ≤ a ∧ a < 28 + i + j ∧ b < 4 then xv b else M a b
theorem zfx_0 {M : zM} {i : Nat} : zfx M i 0 = M := by
  funext a b
  unfold zfx
  rw [if_neg (by omega)]
theorem zfx_s {M : zM} {i j : Nat} : zfx (zfx M i 1) (i + 1) j = zfx M i (j + 1) := by
  funext a b
  unfold zfx
  by_cases h : 28 + (i + 1) ≤ a ∧ a < 28 + (i + 1) + j ∧ b < 4
  · rw [if_pos h, if_pos (by omega)]
  · rw [if_neg h]
    by_cases h2 : 28 + i ≤ a ∧ a < 28 + i + 1 ∧ b < 4
    · rw [if_pos h2, if_pos (by omega)]
    · rw [if_neg h2, if_neg (by omega)]
theorem zfx_1 {M : zM} {i : Nat} : zup (zup (zup (zup M (28 + i) 0 (nI 170)) (28 + i) 1 (nI 0)) (28 + i) 2 (nI 0)) (28 + i) 3 (nI 1) = zfx M i 1 := by
  funext a b
  unfold zfx zup xv
  by_cases h1 : a = 28 + i
  · subst h1
    simp only [if_true]
    by_cases b3 : b = 3
    · subst b3; simp
    · by_cases b2 : b = 2
      · subst b2; simp
      · by_cases b1 : b = 1
        · subst b1; simp
        · by_cases b0 : b = 0
          · subst b0; simp
          · rw [if_neg b3, if_neg b2, if_neg b1, if_neg b0, if_neg (by omega)]
  · rw [if_neg h1, if_neg h1, if_neg h1, if_neg h1, if_neg (by omega)]
def zfa (M : zM) : zM := zfx (zfil (zup (zup (zup M 9 8 (nI 0)) 14 8 (nI 0)) 19 8 (nI 0)) 32 0 4 (-1)) 0 4
def zsgn (M : zM) (n p t c : Nat) : zM := zup (zup (zup (zup (zup M (3 + n) 0 (nI p)) (3 + n) 1 (nI t)) (3 + n) 2 (nI c)) (3 + n) 3 (nI (t * zrep p))) (3 + n) 4 (nI (kbN p t))
set_option maxRecDepth 100000 in
set_option maxHeartbeats 4000000 in
theorem c_21 {sc : Nat × (Nat → Int32)} {d : Nat} {M : zM} {i : Nat} {x1 x2 x3 x4 : Int32} (hi : i < 4) : zC 47 sc (d + 1) 21 [.ref (28 + i), .int x1, .int x2, .int x3, .int x4] M (none) (zup (zup (zup (zup M (28 + i) 0 x1) (28 + i) 1 x2) (28 + i) 2 x3) (28 + i) 3 x4) := by
  refine z_enter (L := [.ref (28 + i), .int x1, .int x2, .int x3, .int x4]) rfl rfl rfl ?_
  refine zK.blk rfl ?_
  refine p_aloadn_0 ?_
  refine p_iloadn_1 ?_
  refine p_put (zlay_fo hi) rfl (by simp) ?_
  refine p_aloadn_0 ?_
  refine p_iloadn_2 ?_
  refine p_put (zlay_fo hi) rfl (by simp) ?_
  refine p_aloadn_0 ?_
  refine p_iloadn_3 ?_
  refine p_put (zlay_fo hi) rfl (by simp) ?_
  refine p_aloadn_0 ?_
  refine p_iload_4 ?_
  refine p_put (zlay_fo hi) rfl (by simp) ?_
  exact p_vret trivial rfl rfl
set_option maxRecDepth 100000 in
set_option maxHeartbeats 4000000 in
theorem c_20 {sc : Nat × (Nat → Int32)} {d : Nat} {M : zM} {i : Nat} (hi : i < 4) : zC 47 sc (d + 2) 20 [.ref (28 + i)] M (none) (zfx M i 1) := by
  refine z_enter (L := [.ref (28 + i)]) rfl rfl rfl ?_
  refine zK.blk rfl ?_
  refine p_aloadn_0 ?_
  refine p_iconst (v := nI 0) (by decide) ?_
  refine p_cs1i rfl rfl rfl rfl rfl (c_2 (by decide)) ?_
  refine p_iconst (v := nI 0) (by decide) ?_
  refine p_iconst (v := nI 0) (by decide) ?_
  refine p_iconst (v := nI 1) (by decide) ?_
  refine p_cv4v rfl rfl rfl rfl (zlay_fo hi) (c_21 hi) ?_
  exact p_vret trivial rfl zfx_1
set_option maxRecDepth 100000 in
set_option maxHeartbeats 4000000 in
theorem lp_81_26 {sc : Nat × (Nat → Int32)} {d : Nat} {r : Option Value} {M' : zM} : ∀ (j i : Nat) (M : zM), i + j = 4 → zK 47 sc (zC 47 sc (d + 2)) 81 r M' 48 [.ref 0, .int (nI 4)] [] (zfil M 32 i j (-1)) → zK 47 sc (zC 47 sc (d + 2)) 81 r M' 26 [.ref 0, .int (nI i)] [] M := by
  intro j
  induction j with
  | zero =>
    intro i M hj hk
    have hin : i = 4 := by omega
    subst hin
    rw [zfil_0] at hk
    refine zK.blk rfl ?_
    refine p_iloadn_1 ?_
    refine p_aloadn_0 ?_
    refine p_getr rfl rfl ?_
    refine p_alen rfl ?_
    refine p_icmpN_ge (tgt := 48) (by decide) (by omega) (by omega) (fun hc32 => ?_) (fun hc32 => ?_)
    · skip
      exact hk
    · skip
      exact absurd hc32 (by omega) --STOP
  | succ j ih =>
    intro i M hj hk
    rw [← zfil_s] at hk
    refine zK.blk rfl ?_
    refine p_iloadn_1 ?_
    refine p_aloadn_0 ?_
    refine p_getr rfl rfl ?_
    refine p_alen rfl ?_
    refine p_icmpN_ge (tgt := 48) (by decide) (by omega) (by omega) (fun hc32 => ?_) (fun hc32 => ?_)
    · skip
      exact absurd hc32 (by omega) --STOP
    · skip
      refine p_aloadn_0 ?_
      refine p_getr rfl rfl ?_
      refine p_iloadn_1 ?_
      refine p_iconst (v := -1) (by decide) ?_
      refine p_iast rfl (by omega) (by decide) ?_
      refine p_iinc_1 (zN_inc _ 1) rfl ?_
      refine p_goto (tgt := 26) (by decide) ?_
      exact ih _ _ (by omega) hk
set_option maxRecDepth 100000 in
set_option maxHeartbeats 4000000 in
theorem lp_81_50 {sc : Nat × (Nat → Int32)} {d : Nat} {r : Option Value} {M' : zM} : ∀ (j i : Nat) (M : zM), i + j = 4 → zK 47 sc (zC 47 sc (d + 2)) 81 r M' 74 [.ref 0, .int (nI 4)] [] (zfx M i j) → zK 47 sc (zC 47 sc (d + 2)) 81 r M' 50 [.ref 0, .int (nI i)] [] M := by
  intro j
  induction j with
  | zero =>
    intro i M hj hk
    have hin : i = 4 := by omega
    subst hin
    rw [zfx_0] at hk
    refine zK.blk rfl ?_
    refine p_iloadn_1 ?_
    refine p_aloadn_0 ?_
    refine p_getr rfl rfl ?_
    refine p_alen rfl ?_
    refine p_icmpN_ge (tgt := 74) (by decide) (by omega) (by omega) (fun hc56 => ?_) (fun hc56 => ?_)
    · skip
      exact hk
    · skip
      exact absurd hc56 (by omega) --STOP
  | succ j ih =>
    intro i M hj hk
    rw [← zfx_s] at hk
    refine zK.blk rfl ?_
    refine p_iloadn_1 ?_
    refine p_aloadn_0 ?_
    refine p_getr rfl rfl ?_
    refine p_alen rfl ?_
    refine p_icmpN_ge (tgt := 74) (by decide) (by omega) (by omega) (fun hc56 => ?_) (fun hc56 => ?_)
    · skip
      exact absurd hc56 (by omega) --STOP
    · skip
      refine p_aloadn_0 ?_
      refine p_getr rfl rfl ?_
      refine p_iloadn_1 ?_
      refine p_aald rfl (by omega) (by decide) (zget_fo (by omega)) ?_
      refine p_cv0v rfl rfl rfl rfl (zlay_fo (by omega)) (c_20 (by omega)) ?_
      refine p_iinc_1 (zN_inc _ 1) rfl ?_
      refine p_goto (tgt := 50) (by decide) ?_
      exact ih _ _ (by omega) hk
set_option maxRecDepth 100000 in
set_option maxHeartbeats 4000000 in
theorem c_81 {sc : Nat × (Nat → Int32)} {d : Nat} {M : zM}  : zC 47 sc (d + 3) 81 [.ref 0] M (none) (zfa M) := by
  refine z_enter (L := [.ref 0, .null]) rfl rfl rfl ?_
  refine zK.blk rfl ?_
  refine p_aloadn_0 ?_
  refine p_getr rfl rfl ?_
  refine p_iconst (v := nI 0) (by decide) ?_
  refine p_put rfl rfl (by decide) ?_
  refine p_aloadn_0 ?_
  refine p_getr rfl rfl ?_
  refine p_iconst (v := nI 0) (by decide) ?_
  refine p_put rfl rfl (by decide) ?_
  refine p_aloadn_0 ?_
  refine p_getr rfl rfl ?_
  refine p_iconst (v := nI 0) (by decide) ?_
  refine p_put rfl rfl (by decide) ?_
  refine p_iconst (v := nI 0) (by decide) ?_
  refine p_istoren_1 rfl ?_
  refine lp_81_26 4 0 _ (by omega) ?_
  refine zK.blk rfl ?_
  refine p_iconst (v := nI 0) (by decide) ?_
  refine p_istoren_1 rfl ?_
  refine lp_81_50 4 0 _ (by omega) ?_
  refine zK.blk rfl ?_
  exact p_vret trivial rfl rfl
set_option maxRecDepth 100000 in
set_option maxHeartbeats 4000000 in
theorem c_21s {sc : Nat × (Nat → Int32)} {d : Nat} {M : zM} {i : Nat} {x1 x2 x3 x4 : Int32} (hi : i < 4) : zC 33 sc (d + 1) 21 [.ref (28 + i), .int x1, .int x2, .int x3, .int x4] M (none) (zup (zup (zup (zup M (28 + i) 0 x1) (28 + i) 1 x2) (28 + i) 2 x3) (28 + i) 3 x4) := by
  refine z_enter (L := [.ref (28 + i), .int x1, .int x2, .int x3, .int x4]) rfl rfl rfl ?_
  refine zK.blk rfl ?_
  refine p_aloadn_0 ?_
  refine p_iloadn_1 ?_
  refine p_put (zlay_fos hi) rfl (by simp) ?_
  refine p_aloadn_0 ?_
  refine p_iloadn_2 ?_
  refine p_put (zlay_fos hi) rfl (by simp) ?_
  refine p_aloadn_0 ?_
  refine p_iloadn_3 ?_
  refine p_put (zlay_fos hi) rfl (by simp) ?_
  refine p_aloadn_0 ?_
  refine p_iload_4 ?_
  refine p_put (zlay_fos hi) rfl (by simp) ?_
  exact p_vret trivial rfl rfl
set_option maxRecDepth 100000 in
set_option maxHeartbeats 4000000 in
theorem c_20s {sc : Nat × (Nat → Int32)} {d : Nat} {M : zM} {i : Nat} (hi : i < 4) : zC 33 sc (d + 2) 20 [.ref (28 + i)] M (none) (zfx M i 1) := by
  refine z_enter (L := [.ref (28 + i)]) rfl rfl rfl ?_
  refine zK.blk rfl ?_
  refine p_aloadn_0 ?_
  refine p_iconst (v := nI 0) (by decide) ?_
  refine p_cs1i rfl rfl rfl rfl rfl (c_2s (by decide)) ?_
  refine p_iconst (v := nI 0) (by decide) ?_
  refine p_iconst (v := nI 0) (by decide) ?_
  refine p_iconst (v := nI 1) (by decide) ?_
  refine p_cv4v rfl rfl rfl rfl (zlay_fos hi) (c_21s hi) ?_
  exact p_vret trivial rfl zfx_1
set_option maxRecDepth 100000 in
set_option maxHeartbeats 4000000 in
theorem lp_81_26s {sc : Nat × (Nat → Int32)} {d : Nat} {r : Option Value} {M' : zM} : ∀ (j i : Nat) (M : zM), i + j = 4 → zK 33 sc (zC 33 sc (d + 2)) 81 r M' 48 [.ref 0, .int (nI 4)] [] (zfil M 32 i j (-1)) → zK 33 sc (zC 33 sc (d + 2)) 81 r M' 26 [.ref 0, .int (nI i)] [] M := by
  intro j
  induction j with
  | zero =>
    intro i M hj hk
    have hin : i = 4 := by omega
    subst hin
    rw [zfil_0] at hk
    refine zK.blk rfl ?_
    refine p_iloadn_1 ?_
    refine p_aloadn_0 ?_
    refine p_getr rfl rfl ?_
    refine p_alen rfl ?_
    refine p_icmpN_ge (tgt := 48) (by decide) (by omega) (by omega) (fun hc32 => ?_) (fun hc32 => ?_)
    · skip
      exact hk
    · skip
      exact absurd hc32 (by omega) --STOP
  | succ j ih =>
    intro i M hj hk
    rw [← zfil_s] at hk
    refine zK.blk rfl ?_
    refine p_iloadn_1 ?_
    refine p_aloadn_0 ?_
    refine p_getr rfl rfl ?_
    refine p_alen rfl ?_
    refine p_icmpN_ge (tgt := 48) (by decide) (by omega) (by omega) (fun hc32 => ?_) (fun hc32 => ?_)
    · skip
      exact absurd hc32 (by omega) --STOP
    · skip
      refine p_aloadn_0 ?_
      refine p_getr rfl rfl ?_
      refine p_iloadn_1 ?_
      refine p_iconst (v := -1) (by decide) ?_
      refine p_iast rfl (by omega) (by decide) ?_
      refine p_iinc_1 (zN_inc _ 1) rfl ?_
      refine p_goto (tgt := 26) (by decide) ?_
      exact ih _ _ (by omega) hk
set_option maxRecDepth 100000 in
set_option maxHeartbeats 4000000 in
theorem lp_81_50s {sc : Nat × (Nat → Int32)} {d : Nat} {r : Option Value} {M' : zM} : ∀ (j i : Nat) (M : zM), i + j = 4 → zK 33 sc (zC 33 sc (d + 2)) 81 r M' 74 [.ref 0, .int (nI 4)] [] (zfx M i j) → zK 33 sc (zC 33 sc (d + 2)) 81 r M' 50 [.ref 0, .int (nI i)] [] M := by
  intro j
  induction j with
  | zero =>
    intro i M hj hk
    have hin : i = 4 := by omega
    subst hin
    rw [zfx_0] at hk
    refine zK.blk rfl ?_
    refine p_iloadn_1 ?_
    refine p_aloadn_0 ?_
    refine p_getr rfl rfl ?_
    refine p_alen rfl ?_
    refine p_icmpN_ge (tgt := 74) (by decide) (by omega) (by omega) (fun hc56 => ?_) (fun hc56 => ?_)
    · skip
      exact hk
    · skip
      exact absurd hc56 (by omega) --STOP
  | succ j ih =>
    intro i M hj hk
    rw [← zfx_s] at hk
    refine zK.blk rfl ?_
    refine p_iloadn_1 ?_
    refine p_aloadn_0 ?_
    refine p_getr rfl rfl ?_
    refine p_alen rfl ?_
    refine p_icmpN_ge (tgt := 74) (by decide) (by omega) (by omega) (fun hc56 => ?_) (fun hc56 => ?_)
    · skip
      exact absurd hc56 (by omega) --STOP
    · skip
      refine p_aloadn_0 ?_
      refine p_getr rfl rfl ?_
      refine p_iloadn_1 ?_
      refine p_aald rfl (by omega) (by decide) (zget_fo (by omega)) ?_
      refine p_cv0v rfl rfl rfl rfl (zlay_fos (by omega)) (c_20s (by omega)) ?_
      refine p_iinc_1 (zN_inc _ 1) rfl ?_
      refine p_goto (tgt := 50) (by decide) ?_
      exact ih _ _ (by omega) hk
set_option maxRecDepth 100000 in
set_option maxHeartbeats 4000000 in
theorem c_81s {sc : Nat × (Nat → Int32)} {d : Nat} {M : zM}  : zC 33 sc (d + 3) 81 [.ref 0] M (none) (zfa M) := by
  refine z_enter (L := [.ref 0, .null]) rfl rfl rfl ?_
  refine zK.blk rfl ?_
  refine p_aloadn_0 ?_
  refine p_getr rfl rfl ?_
  refine p_iconst (v := nI 0) (by decide) ?_
  refine p_put rfl rfl (by decide) ?_
  refine p_aloadn_0 ?_
  refine p_getr rfl rfl ?_
  refine p_iconst (v := nI 0) (by decide) ?_
  refine p_put rfl rfl (by decide) ?_
  refine p_aloadn_0 ?_
  refine p_getr rfl rfl ?_
  refine p_iconst (v := nI 0) (by decide) ?_
  refine p_put rfl rfl (by decide) ?_
  refine p_iconst (v := nI 0) (by decide) ?_
  refine p_istoren_1 rfl ?_
  refine lp_81_26s 4 0 _ (by omega) ?_
  refine zK.blk rfl ?_
  refine p_iconst (v := nI 0) (by decide) ?_
  refine p_istoren_1 rfl ?_
  refine lp_81_50s 4 0 _ (by omega) ?_
  refine zK.blk rfl ?_
  exact p_vret trivial rfl rfl
set_option maxRecDepth 100000 in
set_option maxHeartbeats 4000000 in
theorem c_22 {sc : Nat × (Nat → Int32)} {d : Nat} {M : zM} {n p t c : Nat} (hn : n < 6) (hp : p < 4) (ht : t < z22 p) : zC 47 sc (d + 4) 22 [.ref (3 + n), .int (nI p), .int (nI t), .int (nI c)] M (none) (zsgn M n p t c) := by
  refine z_enter (L := [.ref (3 + n), .int (nI p), .int (nI t), .int (nI c)]) rfl rfl rfl ?_
  refine zK.blk rfl ?_
  refine p_aloadn_0 ?_
  refine p_iloadn_1 ?_
  refine p_put (zlay_sg (by omega)) rfl (by simp) ?_
  refine p_aloadn_0 ?_
  refine p_iloadn_2 ?_
  refine p_put (zlay_sg (by omega)) rfl (by simp) ?_
  refine p_aloadn_0 ?_
  refine p_iloadn_3 ?_
  refine p_put (zlay_sg (by omega)) rfl (by simp) ?_
  refine p_aloadn_0 ?_
  refine p_iloadn_1 ?_
  refine p_iloadn_2 ?_
  refine p_cs2i rfl rfl rfl rfl rfl (c_4 hp) ?_
  refine p_put (zlay_sg (by omega)) rfl (by simp) ?_
  refine p_aloadn_0 ?_
  refine p_iloadn_1 ?_
  refine p_iloadn_2 ?_
  refine p_cs2i rfl rfl rfl rfl rfl (c_12 hp ht) ?_
  refine p_put (zlay_sg (by omega)) rfl (by simp) ?_
  exact p_vret trivial rfl rfl
set_option maxRecDepth 100000 in
set_option maxHeartbeats 4000000 in
theorem c_26 {sc : Nat × (Nat → Int32)} {d : Nat} {M : zM} {n : Nat} {P T K : Nat → Nat} {p t c : Nat} (hsg : sgC M n P T K) (h5 : n < 6) (hp : p < 4) (ht : t < z22 p) : zC 47 sc (d + 5) 26 [.ref 1, .int (nI p), .int (nI t), .int (nI c)] M (some (.int (nI n))) (zup (zsgn M n p t c) 1 1 (nI (n + 1))) := by
  obtain ⟨hn6, hn, hR, hS⟩ := id hsg
  have h11 : zsgn M n p t c 1 1 = nI n := by unfold zsgn zup; rw [if_neg (by omega), if_neg (by omega), if_neg (by omega), if_neg (by omega), if_neg (by omega)]; exact hn
  refine z_enter (L := [.ref 1, .int (nI p), .int (nI t), .int (nI c), .null]) rfl rfl rfl ?_
  refine zK.blk rfl ?_
  refine p_aloadn_0 ?_
  refine p_geti rfl rfl hn ?_
  refine p_istore_4 rfl ?_
  refine p_iload_4 ?_
  refine p_ifN_lt (tgt := 41) (by decide) (by omega) (fun hc8 => ?_) (fun hc8 => ?_)
  · skip
    exact absurd hc8 (by omega) --STOP
  · skip
    refine p_iload_4 ?_
    refine p_bipush (v := nI 6) (by decide) ?_
    refine p_icmpN_ge (tgt := 41) (by decide) (by omega) (by omega) (fun hc15 => ?_) (fun hc15 => ?_)
    · skip
      exact absurd hc15 (by omega) --STOP
    · skip
      refine p_aloadn_0 ?_
      refine p_getr rfl rfl ?_
      refine p_iload_4 ?_
      refine p_aald rfl (by omega) (by decide) (zget_sg (by omega)) ?_
      refine p_iloadn_1 ?_
      refine p_iloadn_2 ?_
      refine p_iloadn_3 ?_
      refine p_cv3v rfl rfl rfl rfl (zlay_sg (by omega)) (c_22 h5 hp ht) ?_
      refine p_aloadn_0 ?_
      refine p_dupa ?_
      refine p_geti rfl rfl h11 ?_
      refine p_iconst (v := nI 1) (by decide) ?_
      refine p_iaddN ?_
      refine p_put rfl rfl (by simp) ?_
      refine zK.blk rfl ?_
      refine p_iload_4 ?_
      exact p_iret trivial rfl rfl
def zsok (x y z : Int32) : Bool := zfits x y && decide (¬ z < nI 1) && decide (¬ nI 9 < z)
set_option maxRecDepth 100000 in
set_option maxHeartbeats 4000000 in
theorem c_56a {sc : Nat × (Nat → Int32)} {d : Nat} {M : zM} {n : Nat} {P T K : Nat → Nat} {x y z : Int32} (hsg : sgC M n P T K) (h : zsok x y z = false) : zC 47 sc (d + 6) 56 [.ref 0, .int x, .int y, .int z] M (some (.int (-1))) (M) := by
  refine z_enter (L := [.ref 0, .int x, .int y, .int z, .null]) rfl rfl rfl ?_
  refine zK.blk rfl ?_
  refine p_iloadn_1 ?_
  refine p_iloadn_2 ?_
  refine p_cs2i rfl rfl rfl rfl rfl (c_0) ?_
  refine p_ifB_eq (tgt := 19) (by decide) (fun hc5 => ?_) (fun hc5 => ?_)
  · skip
    refine zK.blk rfl ?_
    refine p_iconst (v := -1) (by decide) ?_
    exact p_iret trivial rfl rfl
  · skip
    refine p_iloadn_3 ?_
    refine p_iconst (v := nI 1) (by decide) ?_
    refine p_icmp_lt (tgt := 19) (by decide) (fun hc10 => ?_) (fun hc10 => ?_)
    · skip
      refine zK.blk rfl ?_
      refine p_iconst (v := -1) (by decide) ?_
      exact p_iret trivial rfl rfl
    · skip
      refine p_iloadn_3 ?_
      refine p_bipush (v := nI 9) (by decide) ?_
      refine p_icmp_le (tgt := 21) (by decide) (fun hc16 => ?_) (fun hc16 => ?_)
      · skip
        exact absurd h (by unfold zsok; rw [hc5, decide_eq_true hc10, decide_eq_true (Int32.not_lt.mpr hc16)]; decide) --STOP
      · skip
        refine zK.blk rfl ?_
        refine p_iconst (v := -1) (by decide) ?_
        exact p_iret trivial rfl rfl
set_option maxRecDepth 100000 in
set_option maxHeartbeats 4000000 in
theorem c_56b {sc : Nat × (Nat → Int32)} {d : Nat} {M : zM} {n : Nat} {P T K : Nat → Nat} {x y z : Int32} (hsg : sgC M n P T K) (h : zsok x y z = true) (hn5 : n = 6) : zC 47 sc (d + 6) 56 [.ref 0, .int x, .int y, .int z] M (some (.int (-3))) (M) := by
  obtain ⟨hn6, hn, hR, hS⟩ := id hsg
  unfold zsok at h
  simp only [Bool.and_eq_true, decide_eq_true_eq] at h
  refine z_enter (L := [.ref 0, .int x, .int y, .int z, .null]) rfl rfl rfl ?_
  refine zK.blk rfl ?_
  refine p_iloadn_1 ?_
  refine p_iloadn_2 ?_
  refine p_cs2i rfl rfl rfl rfl rfl (c_0) ?_
  refine p_ifB_eq (tgt := 19) (by decide) (fun hc5 => ?_) (fun hc5 => ?_)
  · skip
    rw [h.1.1] at hc5; cases hc5 --STOP
  · skip
    refine p_iloadn_3 ?_
    refine p_iconst (v := nI 1) (by decide) ?_
    refine p_icmp_lt (tgt := 19) (by decide) (fun hc10 => ?_) (fun hc10 => ?_)
    · skip
      exact absurd hc10 h.1.2 --STOP
    · skip
      refine p_iloadn_3 ?_
      refine p_bipush (v := nI 9) (by decide) ?_
      refine p_icmp_le (tgt := 21) (by decide) (fun hc16 => ?_) (fun hc16 => ?_)
      · skip
        refine zK.blk rfl ?_
        refine p_aloadn_0 ?_
        refine p_getr rfl rfl ?_
        refine p_geti rfl rfl (hn) ?_
        refine p_bipush (v := nI 6) (by decide) ?_
        refine p_icmpN_lt (tgt := 36) (by decide) (by omega) (by omega) (fun hc30 => ?_) (fun hc30 => ?_)
        · skip
          exact absurd hc30 (by omega) --STOP
        · skip
          refine p_bipush (v := -3) (by decide) ?_
          exact p_iret trivial rfl rfl
      · skip
        exact absurd (Int32.not_lt.mp h.2) hc16 --STOP
set_option maxRecDepth 100000 in
set_option maxHeartbeats 4000000 in
theorem c_56c {sc : Nat × (Nat → Int32)} {d : Nat} {M : zM} {n : Nat} {P T K : Nat → Nat} {p t c : Nat} (hsg : sgC M n P T K) (h5 : n < 6) (hp : p < 4) (ht : t < z22 p) (h : zsok (nI p) (nI t) (nI c) = true) : zC 47 sc (d + 6) 56 [.ref 0, .int (nI p), .int (nI t), .int (nI c)] M (some (.int (nI n))) (zfa (zup (zsgn M n p t c) 1 1 (nI (n + 1)))) := by
  obtain ⟨hn6, hn, hR, hS⟩ := id hsg
  unfold zsok at h
  simp only [Bool.and_eq_true, decide_eq_true_eq] at h
  refine z_enter (L := [.ref 0, .int (nI p), .int (nI t), .int (nI c), .null]) rfl rfl rfl ?_
  refine zK.blk rfl ?_
  refine p_iloadn_1 ?_
  refine p_iloadn_2 ?_
  refine p_cs2i rfl rfl rfl rfl rfl (c_0) ?_
  refine p_ifB_eq (tgt := 19) (by decide) (fun hc5 => ?_) (fun hc5 => ?_)
  · skip
    rw [h.1.1] at hc5; cases hc5 --STOP
  · skip
    refine p_iloadn_3 ?_
    refine p_iconst (v := nI 1) (by decide) ?_
    refine p_icmp_lt (tgt := 19) (by decide) (fun hc10 => ?_) (fun hc10 => ?_) --BR
    · skip
      exact absurd hc10 h.1.2 --STOP
    · skip
      refine p_iloadn_3 ?_
      refine p_bipush (v := nI 9) (by decide) ?_
      refine p_icmp_le (tgt := 21) (by decide) (fun hc16 => ?_) (fun hc16 => ?_) --BR
      · skip
        refine zK.blk rfl ?_
        refine p_aloadn_0 ?_
        refine p_getr rfl rfl ?_
        refine p_geti rfl rfl (hn) ?_
        refine p_bipush (v := nI 6) (by decide) ?_
        refine p_icmpN_lt (tgt := 36) (by decide) (by omega) (by omega) (fun hc30 => ?_) (fun hc30 => ?_)
        · skip
          refine zK.blk rfl ?_
          refine p_aloadn_0 ?_
          refine p_getr rfl rfl ?_
          refine p_iloadn_1 ?_
          refine p_iloadn_2 ?_
          refine p_iloadn_3 ?_
          refine p_cv3i rfl rfl rfl rfl rfl (c_26 hsg h5 hp ht) ?_
          refine p_istore_4 rfl ?_
          refine p_aloadn_0 ?_
          refine p_cv0v rfl rfl rfl rfl rfl (c_81) ?_
          refine p_iload_4 ?_
          exact p_iret trivial rfl rfl
        · skip
          exact absurd h5 hc30 --STOP
      · skip
        exact absurd (Int32.not_lt.mp h.2) hc16 --STOP
set_option maxRecDepth 100000 in
set_option maxHeartbeats 4000000 in
theorem c_57a {sc : Nat × (Nat → Int32)} {d : Nat} {M : zM} {n : Nat} {P T K : Nat → Nat} (hsg : sgC M n P T K) (h0 : n = 0) : zC 47 sc (d + 4) 57 [.ref 0] M (some (.int (-1))) (M) := by
  obtain ⟨hn6, hn, hR, hS⟩ := id hsg
  refine z_enter (L := [.ref 0]) rfl rfl rfl ?_
  refine zK.blk rfl ?_
  refine p_aloadn_0 ?_
  refine p_getr rfl rfl ?_
  refine p_geti rfl rfl (hn) ?_
  refine p_iconst (v := nI 1) (by decide) ?_
  refine p_icmpN_ge (tgt := 13) (by decide) (by omega) (by omega) (fun hc8 => ?_) (fun hc8 => ?_)
  · skip
    exact absurd hc8 (by omega) --STOP
  · skip
    refine p_iconst (v := -1) (by decide) ?_
    exact p_iret trivial rfl rfl
set_option maxRecDepth 100000 in
set_option maxHeartbeats 4000000 in
theorem c_57b {sc : Nat × (Nat → Int32)} {d : Nat} {M : zM} {n : Nat} {P T K : Nat → Nat} (hsg : sgC M n P T K) (h0 : 1 ≤ n) : zC 47 sc (d + 4) 57 [.ref 0] M (some (.int (nI (n - 1)))) (zfa (zup M 1 1 (nI (n - 1)))) := by
  obtain ⟨hn6, hn, hR, hS⟩ := id hsg
  have h11 : zfa (zup M 1 1 (nI (n - 1))) 1 1 = nI (n - 1) := by unfold zfa zfx zfil zup; simp
  refine z_enter (L := [.ref 0]) rfl rfl rfl ?_
  refine zK.blk rfl ?_
  refine p_aloadn_0 ?_
  refine p_getr rfl rfl ?_
  refine p_geti rfl rfl hn ?_
  refine p_iconst (v := nI 1) (by decide) ?_
  refine p_icmpN_ge (tgt := 13) (by decide) (by omega) (by omega) (fun hc8 => ?_) (fun hc8 => ?_)
  · skip
    refine zK.blk rfl ?_
    refine p_aloadn_0 ?_
    refine p_getr rfl rfl ?_
    refine p_dupa ?_
    refine p_geti rfl rfl hn ?_
    refine p_iconst (v := nI 1) (by decide) ?_
    refine p_isubN (by omega) ?_
    refine p_put rfl rfl (by simp) ?_
    refine p_aloadn_0 ?_
    refine p_cv0v rfl rfl rfl rfl rfl (c_81) ?_
    refine p_aloadn_0 ?_
    refine p_getr rfl rfl ?_
    refine p_geti rfl rfl h11 ?_
    exact p_iret trivial rfl rfl
  · skip
    exact absurd h0 hc8 --STOP
