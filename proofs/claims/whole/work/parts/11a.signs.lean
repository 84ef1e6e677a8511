theorem zget_sg {i : Nat} (h : i < 6) : zget [3, 4, 5, 6, 7, 8] i = some (3 + i) := by
  rcases (show i = 0 ∨ i = 1 ∨ i = 2 ∨ i = 3 ∨ i = 4 ∨ i = 5 by omega) with rfl | rfl | rfl | rfl | rfl | rfl <;> rfl
theorem zlay_sg {i : Nat} (h : i < 6) : zlay 47 (3 + i) = some (.inl (3, [none, none, none, none, none])) := by
  rcases (show i = 0 ∨ i = 1 ∨ i = 2 ∨ i = 3 ∨ i = 4 ∨ i = 5 by omega) with rfl | rfl | rfl | rfl | rfl | rfl <;> rfl
theorem zget_fo {i : Nat} (h : i < 4) : zget [28, 29, 30, 31] i = some (28 + i) := by
  rcases (show i = 0 ∨ i = 1 ∨ i = 2 ∨ i = 3 by omega) with rfl | rfl | rfl | rfl <;> rfl
theorem zlay_fo {i : Nat} (h : i < 4) : zlay 47 (28 + i) = some (.inl (0, [none, none, none, none])) := by
  rcases (show i = 0 ∨ i = 1 ∨ i = 2 ∨ i = 3 by omega) with rfl | rfl | rfl | rfl <;> rfl
/-- the class's signs: n of them, places P, tables T, costs K -/
def sgC (M : zM) (n : Nat) (P T K : Nat → Nat) : Prop := n ≤ 6 ∧ M 1 1 = nI n ∧ (∀ i, i < n → P i < 4 ∧ T i < z22 (P i) ∧ 1 ≤ K i ∧ K i ≤ 9) ∧
  ∀ i, i < n → M (3 + i) 0 = nI (P i) ∧ M (3 + i) 1 = nI (T i) ∧ M (3 + i) 2 = nI (K i) ∧ M (3 + i) 3 = nI (T i * zrep (P i)) ∧ M (3 + i) 4 = nI (kbN (P i) (T i))
theorem zwide_lt : ∀ p, p < 4 → ∀ t, t < z22 p → t * zrep p < 256 := by decide +kernel
theorem kb_lt {p t : Nat} (hp : p < 4) (ht : t < z22 p) : kbN p t < 32 := by
  have := kb_km p hp t ht
  rw [this.1]; exact this.2
theorem z1_lt {x : Nat} (h : x < 8) : 1 <<< x < 2 ^ 8 := by
  rw [Nat.one_shiftLeft]; exact Nat.pow_lt_pow_right (by decide) h
theorem prG_lt {one no last ch c : Nat} (h : last < 8) : prG one no last ch c < 2 ^ 8 := by
  unfold prG
  split
  · exact z1_lt (zand_r _ h)
  · decide
theorem trM_lt {w last fi se th : Nat} (hl : last < 8) : trM w last fi se th < 2 ^ 8 := by
  unfold trM
  refine zor_lt (fun a => ?_) _ _
  unfold trG
  split
  · refine zor_lt (fun b => ?_) _ _
    unfold trG1
    split
    · exact zor_lt (fun c => prG_lt hl) _ _
    · decide
  · decide
theorem trN_lt {p w r rows : Nat} (hr : r < 4) : trN p w r rows < 2 ^ 8 := trM_lt (by have := zsh_lt hr; omega)
/-- a sign lets a relation -/
def ltB (p w r rows : Nat) : Bool := decide (trN p w r rows &&& (rows ^^^ zFF) = 0)
def zhas (n : Nat) (x : Int32) : Bool := decide (¬ x < 0) && decide (¬ nI n ≤ x)
set_option maxRecDepth 100000 in
set_option maxHeartbeats 4000000 in
theorem c_23 {sc : Nat × (Nat → Int32)} {d : Nat} {M : zM} {i p w r rows : Nat} (hi : i < 6) (h0 : M (3 + i) 0 = nI p) (h3 : M (3 + i) 3 = nI w) (hp : p < 4) (hw : w < 2 ^ 31) (hr : r < 4) (hro : rows < 2 ^ 31) : zC 47 sc (d + 4) 23 [.ref (3 + i), .int (nI r), .int (nI rows)] M (some (.int (zB (ltB p w r rows)))) (M) := by
  have ht := trN_lt (p := p) (w := w) (rows := rows) hr
  have ha : trN p w r rows &&& (rows ^^^ zFF) < 2 ^ 31 := zand_lt (by omega)
  refine z_enter (L := [.ref (3 + i), .int (nI r), .int (nI rows)]) rfl rfl rfl ?_
  refine zK.blk rfl ?_
  refine p_aloadn_0 ?_
  refine p_geti (zlay_sg (by omega)) rfl (h0) ?_
  refine p_aloadn_0 ?_
  refine p_geti (zlay_sg (by omega)) rfl (h3) ?_
  refine p_iloadn_1 ?_
  refine p_iloadn_2 ?_
  refine p_cs4i rfl rfl rfl rfl rfl (c_8 hp hr hw hro) ?_
  refine p_iloadn_2 ?_
  refine p_iconst (v := nI zFF) (by decide) ?_
  refine p_ixorN ?_
  refine p_iandN ?_
  refine p_ifN_ne (tgt := 24) (by decide) (by omega) (fun hc17 => ?_) (fun hc17 => ?_)
  · skip
    refine zK.blk rfl ?_
    refine p_iconst (v := nI 0) (by decide) ?_
    refine zK.blk rfl ?_
    exact p_iret (by first | exact Or.inl rfl | exact Or.inr rfl) (by unfold ltB; first | rw [decide_eq_true (by omega)]; rfl | rw [decide_eq_false (by omega)]; rfl) rfl
  · skip
    refine p_iconst (v := nI 1) (by decide) ?_
    refine p_goto (tgt := 25) (by decide) ?_
    refine zK.blk rfl ?_
    exact p_iret (by first | exact Or.inl rfl | exact Or.inr rfl) (by unfold ltB; first | rw [decide_eq_true (by omega)]; rfl | rw [decide_eq_false (by omega)]; rfl) rfl
set_option maxRecDepth 100000 in
set_option maxHeartbeats 4000000 in
theorem c_24 {sc : Nat × (Nat → Int32)} {d : Nat} {M : zM} {n : Nat} {P T K : Nat → Nat} {x : Int32} (hsg : sgC M n P T K) : zC 47 sc (d + 1) 24 [.ref 1, .int x] M (some (.int (zB (zhas n x)))) (M) := by
  obtain ⟨hn6, hn, hR, hS⟩ := hsg
  refine z_enter (L := [.ref 1, .int x]) rfl rfl rfl ?_
  refine zK.blk rfl ?_
  refine p_iloadn_1 ?_
  refine p_if_lt (tgt := 16) (by decide) (fun hc1 => ?_) (fun hc1 => ?_)
  · skip
    refine zK.blk rfl ?_
    refine p_iconst (v := nI 0) (by decide) ?_
    refine zK.blk rfl ?_
    exact p_iret (by first | exact Or.inl rfl | exact Or.inr rfl) (by (first | rw [zB_0] | rw [zB_1]); congr 3; unfold zhas; simp_all) rfl
  · skip
    refine p_iloadn_1 ?_
    refine p_aloadn_0 ?_
    refine p_geti rfl rfl (hn) ?_
    refine p_icmp_ge (tgt := 16) (by decide) (fun hc9 => ?_) (fun hc9 => ?_)
    · skip
      refine zK.blk rfl ?_
      refine p_iconst (v := nI 0) (by decide) ?_
      refine zK.blk rfl ?_
      exact p_iret (by first | exact Or.inl rfl | exact Or.inr rfl) (by (first | rw [zB_0] | rw [zB_1]); congr 3; unfold zhas; simp_all) rfl
    · skip
      refine p_iconst (v := nI 1) (by decide) ?_
      refine p_goto (tgt := 17) (by decide) ?_
      refine zK.blk rfl ?_
      exact p_iret (by first | exact Or.inl rfl | exact Or.inr rfl) (by (first | rw [zB_0] | rw [zB_1]); congr 3; unfold zhas; simp_all) rfl
set_option maxRecDepth 100000 in
set_option maxHeartbeats 4000000 in
theorem c_25 {sc : Nat × (Nat → Int32)} {d : Nat} {M : zM} {n : Nat} {P T K : Nat → Nat} {x : Int32} (hsg : sgC M n P T K) : zC 47 sc (d + 1) 25 [.ref 1, .int x] M (some (.int (zB (zhas (1 <<< n) x)))) (M) := by
  obtain ⟨hn6, hn, hR, hS⟩ := hsg
  refine z_enter (L := [.ref 1, .int x]) rfl rfl rfl ?_
  refine zK.blk rfl ?_
  refine p_iloadn_1 ?_
  refine p_if_lt (tgt := 18) (by decide) (fun hc1 => ?_) (fun hc1 => ?_)
  · skip
    refine zK.blk rfl ?_
    refine p_iconst (v := nI 0) (by decide) ?_
    refine zK.blk rfl ?_
    exact p_iret (by first | exact Or.inl rfl | exact Or.inr rfl) (by (first | rw [zB_0] | rw [zB_1]); congr 3; unfold zhas; simp_all) rfl
  · skip
    refine p_iloadn_1 ?_
    refine p_iconst (v := nI 1) (by decide) ?_
    refine p_aloadn_0 ?_
    refine p_geti rfl rfl (hn) ?_
    refine p_ishlN (by omega) ?_
    refine p_icmp_ge (tgt := 18) (by decide) (fun hc11 => ?_) (fun hc11 => ?_)
    · skip
      refine zK.blk rfl ?_
      refine p_iconst (v := nI 0) (by decide) ?_
      refine zK.blk rfl ?_
      exact p_iret (by first | exact Or.inl rfl | exact Or.inr rfl) (by (first | rw [zB_0] | rw [zB_1]); congr 3; unfold zhas; simp_all) rfl
    · skip
      refine p_iconst (v := nI 1) (by decide) ?_
      refine p_goto (tgt := 19) (by decide) ?_
      refine zK.blk rfl ?_
      exact p_iret (by first | exact Or.inl rfl | exact Or.inr rfl) (by (first | rw [zB_0] | rw [zB_1]); congr 3; unfold zhas; simp_all) rfl
def o3F (P : Nat → Nat) (i v : Nat) : Nat := if P i = 3 then v + 1 else v
def o3N (P : Nat → Nat) (n : Nat) : Nat := zfor (o3F P) n 0 0
set_option maxRecDepth 100000 in
set_option maxHeartbeats 4000000 in
theorem lp_27_4 {sc : Nat × (Nat → Int32)} {d : Nat} {M : zM} {r : Option Value} {M' : zM} {n : Nat} {P T K : Nat → Nat} (hsg : sgC M n P T K) : ∀ (j i v : Nat), i + j = n → zK 47 sc (zC 47 sc (d + 0)) 27 r M' 34 [.ref 1, .int (nI (zfor (o3F P) j i v)), .int (nI n)] [] (M) → zK 47 sc (zC 47 sc (d + 0)) 27 r M' 4 [.ref 1, .int (nI v), .int (nI i)] [] (M) := by
  intro j
  induction j with
  | zero =>
    intro i v  hj hk
    obtain rfl : i = n := by omega
    obtain ⟨hn6, hn, hR, hS⟩ := hsg
    refine zK.blk rfl ?_
    refine p_iloadn_2 ?_
    refine p_aloadn_0 ?_
    refine p_geti rfl rfl (hn) ?_
    refine p_icmpN_ge (tgt := 34) (by decide) (by omega) (by omega) (fun hc9 => ?_) (fun hc9 => ?_)
    · skip
      exact hk
    · skip
      exact absurd hc9 (by omega) --STOP
  | succ j ih =>
    intro i v  hj hk
    obtain ⟨hn6, hn, hR, hS⟩ := hsg
    have hP := hR i (by omega)
    refine zK.blk rfl ?_
    refine p_iloadn_2 ?_
    refine p_aloadn_0 ?_
    refine p_geti rfl rfl (hn) ?_
    refine p_icmpN_ge (tgt := 34) (by decide) (by omega) (by omega) (fun hc9 => ?_) (fun hc9 => ?_)
    · skip
      exact absurd hc9 (by omega) --STOP
    · skip
      refine p_aloadn_0 ?_
      refine p_getr rfl rfl ?_
      refine p_iloadn_2 ?_
      refine p_aald rfl (by omega) (by decide) (zget_sg (by omega)) ?_
      refine p_geti (zlay_sg (by omega)) rfl ((hS _ (by omega)).1) ?_
      refine p_iconst (v := nI 3) (by decide) ?_
      refine p_icmpN_ne (tgt := 28) (by decide) (by omega) (by omega) (fun hc22 => ?_) (fun hc22 => ?_)
      · skip
        rw [zfor_step (f := o3F P) (a' := v) (by unfold o3F; rw [if_neg hc22])] at hk
        refine zK.blk rfl ?_
        refine p_iinc_2 (zN_inc _ 1) rfl ?_
        refine p_goto (tgt := 4) (by decide) ?_
        exact ih _ _ (by omega) hk
      · skip
        rw [zfor_step (f := o3F P) (a' := v + 1) (by unfold o3F; rw [if_pos (by omega)])] at hk
        refine p_iinc_1 (zN_inc _ 1) rfl ?_
        refine zK.blk rfl ?_
        refine p_iinc_2 (zN_inc _ 1) rfl ?_
        refine p_goto (tgt := 4) (by decide) ?_
        exact ih _ _ (by omega) hk
set_option maxRecDepth 100000 in
set_option maxHeartbeats 4000000 in
theorem c_27 {sc : Nat × (Nat → Int32)} {d : Nat} {M : zM} {n : Nat} {P T K : Nat → Nat} (hsg : sgC M n P T K) : zC 47 sc (d + 1) 27 [.ref 1] M (some (.int (nI (o3N P n)))) (M) := by
  refine z_enter (L := [.ref 1, .null, .null]) rfl rfl rfl ?_
  refine zK.blk rfl ?_
  refine p_iconst (v := nI 0) (by decide) ?_
  refine p_istoren_1 rfl ?_
  refine p_iconst (v := nI 0) (by decide) ?_
  refine p_istoren_2 rfl ?_
  refine lp_27_4 hsg n 0 0 (by omega) ?_
  refine zK.blk rfl ?_
  refine p_iloadn_1 ?_
  exact p_iret trivial rfl rfl
def kaF (P T : Nat → Nat) (s i v : Nat) : Nat := if s >>> i &&& 1 = 1 then v &&& kbN (P i) (T i) else v
def kaN (P T : Nat → Nat) (n s : Nat) : Nat := zfor (kaF P T s) n 0 31
theorem kaF_lt {P T : Nat → Nat} {s : Nat} : ∀ j i v, v < 32 → zfor (kaF P T s) j i v < 32 := by
  intro j
  induction j with
  | zero => intro i v h; exact h
  | succ j ih =>
    intro i v h
    refine ih (i + 1) _ ?_
    unfold kaF
    split
    · exact zand_lt h
    · exact h
theorem kaN_lt (P T : Nat → Nat) (n s : Nat) : kaN P T n s < 32 := kaF_lt n 0 31 (by decide)
set_option maxRecDepth 100000 in
set_option maxHeartbeats 4000000 in
theorem lp_28_5 {sc : Nat × (Nat → Int32)} {d : Nat} {M : zM} {r : Option Value} {M' : zM} {n : Nat} {P T K : Nat → Nat} {s : Nat} (hsg : sgC M n P T K) (hs : s < 2 ^ 31) : ∀ (j i v : Nat), i + j = n → zK 47 sc (zC 47 sc (d + 0)) 28 r M' 40 [.ref 1, .int (nI s), .int (nI (zfor (kaF P T s) j i v)), .int (nI n)] [] (M) → zK 47 sc (zC 47 sc (d + 0)) 28 r M' 5 [.ref 1, .int (nI s), .int (nI v), .int (nI i)] [] (M) := by
  intro j
  induction j with
  | zero =>
    intro i v  hj hk
    obtain rfl : i = n := by omega
    obtain ⟨hn6, hn, hR, hS⟩ := hsg
    refine zK.blk rfl ?_
    refine p_iloadn_3 ?_
    refine p_aloadn_0 ?_
    refine p_geti rfl rfl (hn) ?_
    refine p_icmpN_ge (tgt := 40) (by decide) (by omega) (by omega) (fun hc10 => ?_) (fun hc10 => ?_)
    · skip
      exact hk
    · skip
      exact absurd hc10 (by omega) --STOP
  | succ j ih =>
    intro i v  hj hk
    obtain ⟨hn6, hn, hR, hS⟩ := hsg
    have hb := zb_lt s i
    refine zK.blk rfl ?_
    refine p_iloadn_3 ?_
    refine p_aloadn_0 ?_
    refine p_geti rfl rfl (hn) ?_
    refine p_icmpN_ge (tgt := 40) (by decide) (by omega) (by omega) (fun hc10 => ?_) (fun hc10 => ?_)
    · skip
      exact absurd hc10 (by omega) --STOP
    · skip
      refine p_iloadn_1 ?_
      refine p_iloadn_3 ?_
      refine p_ishrN (by omega) (by omega) ?_
      refine p_iconst (v := nI 1) (by decide) ?_
      refine p_iandN ?_
      refine p_iconst (v := nI 1) (by decide) ?_
      refine p_icmpN_ne (tgt := 34) (by decide) (by omega) (by omega) (fun hc19 => ?_) (fun hc19 => ?_)
      · skip
        rw [zfor_step (f := kaF P T s) (a' := v) (by unfold kaF; rw [if_neg hc19])] at hk
        refine zK.blk rfl ?_
        refine p_iinc_3 (zN_inc _ 1) rfl ?_
        refine p_goto (tgt := 5) (by decide) ?_
        exact ih _ _ (by omega) hk
      · skip
        rw [zfor_step (f := kaF P T s) (a' := v &&& kbN (P i) (T i)) (by unfold kaF; rw [if_pos (by omega)])] at hk
        refine p_iloadn_2 ?_
        refine p_aloadn_0 ?_
        refine p_getr rfl rfl ?_
        refine p_iloadn_3 ?_
        refine p_aald rfl (by omega) (by decide) (zget_sg (by omega)) ?_
        refine p_geti (zlay_sg (by omega)) rfl ((hS _ (by omega)).2.2.2.2) ?_
        refine p_iandN ?_
        refine p_istoren_2 rfl ?_
        refine zK.blk rfl ?_
        refine p_iinc_3 (zN_inc _ 1) rfl ?_
        refine p_goto (tgt := 5) (by decide) ?_
        exact ih _ _ (by omega) hk
set_option maxRecDepth 100000 in
set_option maxHeartbeats 4000000 in
theorem c_28 {sc : Nat × (Nat → Int32)} {d : Nat} {M : zM} {n : Nat} {P T K : Nat → Nat} {s : Nat} (hsg : sgC M n P T K) (hs : s < 2 ^ 31) : zC 47 sc (d + 1) 28 [.ref 1, .int (nI s)] M (some (.int (nI (kaN P T n s)))) (M) := by
  refine z_enter (L := [.ref 1, .int (nI s), .null, .null]) rfl rfl rfl ?_
  refine zK.blk rfl ?_
  refine p_bipush (v := nI 31) (by decide) ?_
  refine p_istoren_2 rfl ?_
  refine p_iconst (v := nI 0) (by decide) ?_
  refine p_istoren_3 rfl ?_
  refine lp_28_5 hsg hs n 0 31 (by omega) ?_
  refine zK.blk rfl ?_
  refine p_iloadn_2 ?_
  exact p_iret trivial rfl rfl
set_option maxRecDepth 100000 in
set_option maxHeartbeats 4000000 in
theorem c_29 {sc : Nat × (Nat → Int32)} {d : Nat} {M : zM} {n : Nat} {P T K : Nat → Nat} {s : Nat} (hsg : sgC M n P T K) (hs : s < 2 ^ 31) : zC 47 sc (d + 2) 29 [.ref 1, .int (nI s)] M (some (.int (zB (decide (kaN P T n s = 0))))) (M) := by
  have hka := kaN_lt P T n s
  refine z_enter (L := [.ref 1, .int (nI s)]) rfl rfl rfl ?_
  refine zK.blk rfl ?_
  refine p_aloadn_0 ?_
  refine p_iloadn_1 ?_
  refine p_cv1i rfl rfl rfl rfl rfl (c_28 hsg hs) ?_
  refine p_ifN_ne (tgt := 12) (by decide) (by omega) (fun hc5 => ?_) (fun hc5 => ?_)
  · skip
    refine zK.blk rfl ?_
    refine p_iconst (v := nI 0) (by decide) ?_
    refine zK.blk rfl ?_
    exact p_iret (by first | exact Or.inl rfl | exact Or.inr rfl) (by first | rw [decide_eq_true (by omega)]; rfl | rw [decide_eq_false (by omega)]; rfl) rfl
  · skip
    refine p_iconst (v := nI 1) (by decide) ?_
    refine p_goto (tgt := 13) (by decide) ?_
    refine zK.blk rfl ?_
    exact p_iret (by first | exact Or.inl rfl | exact Or.inr rfl) (by first | rw [decide_eq_true (by omega)]; rfl | rw [decide_eq_false (by omega)]; rfl) rfl
def lsF (P T : Nat → Nat) (n s i : Nat) : Bool := !(decide (s >>> i &&& 1 = 1) && decide (kaN P T n (s ^^^ 1 <<< i) = 0))
def lsN (P T : Nat → Nat) (n s : Nat) : Bool := decide (kaN P T n s = 0) && zall (lsF P T n s) n 0
theorem zxs_lt {s i : Nat} (hs : s < 64) (hi : i < 6) : s ^^^ 1 <<< i < 64 := Nat.xor_lt_two_pow (n := 6) hs (by rw [Nat.one_shiftLeft]; exact Nat.pow_lt_pow_right (by decide) hi)
set_option maxRecDepth 100000 in
set_option maxHeartbeats 4000000 in
theorem lp_30_12 {sc : Nat × (Nat → Int32)} {d : Nat} {M : zM} {r : Option Value} {M' : zM} {n : Nat} {P T K : Nat → Nat} {s : Nat} (hsg : sgC M n P T K) (hs : s < 64) : ∀ (j i : Nat), i + j = n → (zall (lsF P T n s) j i = true → zK 47 sc (zC 47 sc (d + 2)) 30 r M' 49 [.ref 1, .int (nI s), .int (nI n)] [] M) → (zall (lsF P T n s) j i = false → some (.int (nI 0)) = r ∧ M = M') → zK 47 sc (zC 47 sc (d + 2)) 30 r M' 12 [.ref 1, .int (nI s), .int (nI i)] [] M := by
  intro j
  induction j with
  | zero =>
    intro i hj h1 h2
    have hin : i = n := by omega
    subst hin
    obtain ⟨hn6, hn, hR, hS⟩ := hsg
    refine zK.blk rfl ?_
    refine p_iloadn_2 ?_
    refine p_aloadn_0 ?_
    refine p_geti rfl rfl (hn) ?_
    refine p_icmpN_ge (tgt := 49) (by decide) (by omega) (by omega) (fun hc17 => ?_) (fun hc17 => ?_)
    · skip
      exact h1 rfl
    · skip
      exact absurd hc17 (by omega) --STOP
  | succ j ih =>
    intro i hj h1 h2
    have hsg2 := hsg
    obtain ⟨hn6, hn, hR, hS⟩ := hsg
    have hb := zb_lt s i
    have hx := zxs_lt hs (show i < 6 by omega)
    refine zK.blk rfl ?_
    refine p_iloadn_2 ?_
    refine p_aloadn_0 ?_
    refine p_geti rfl rfl (hn) ?_
    refine p_icmpN_ge (tgt := 49) (by decide) (by omega) (by omega) (fun hc17 => ?_) (fun hc17 => ?_)
    · skip
      exact absurd hc17 (by omega) --STOP
    · skip
      refine p_iloadn_1 ?_
      refine p_iloadn_2 ?_
      refine p_ishrN (by omega) (by omega) ?_
      refine p_iconst (v := nI 1) (by decide) ?_
      refine p_iandN ?_
      refine p_iconst (v := nI 1) (by decide) ?_
      refine p_icmpN_ne (tgt := 43) (by decide) (by omega) (by omega) (fun hc26 => ?_) (fun hc26 => ?_)
      · skip
        have e : lsF P T n s i = true := by unfold lsF; rw [decide_eq_false hc26]; rfl
        rw [zall_t e] at h1 h2
        refine zK.blk rfl ?_
        refine p_iinc_2 (zN_inc _ 1) rfl ?_
        refine p_goto (tgt := 12) (by decide) ?_
        exact ih _ (by omega) h1 h2
      · skip
        refine p_aloadn_0 ?_
        refine p_iloadn_1 ?_
        refine p_iconst (v := nI 1) (by decide) ?_
        refine p_iloadn_2 ?_
        refine p_ishlN (by omega) ?_
        refine p_ixorN ?_
        refine p_cv1i rfl rfl rfl rfl rfl (c_29 hsg2 (by omega)) ?_
        refine p_ifB_eq (tgt := 43) (by decide) (fun hc38 => ?_) (fun hc38 => ?_)
        · skip
          have e : lsF P T n s i = true := by unfold lsF; rw [hc38, Bool.and_false]; rfl
          rw [zall_t e] at h1 h2
          refine zK.blk rfl ?_
          refine p_iinc_2 (zN_inc _ 1) rfl ?_
          refine p_goto (tgt := 12) (by decide) ?_
          exact ih _ (by omega) h1 h2
        · skip
          have e : lsF P T n s i = false := by unfold lsF; rw [decide_eq_true (show s >>> i &&& 1 = 1 by omega), hc38]; rfl
          refine p_iconst (v := nI 0) (by decide) ?_
          exact p_iret (Or.inl rfl) (h2 (zall_f e)).1 (h2 (zall_f e)).2
set_option maxRecDepth 100000 in
set_option maxHeartbeats 4000000 in
theorem c_30 {sc : Nat × (Nat → Int32)} {d : Nat} {M : zM} {n : Nat} {P T K : Nat → Nat} {s : Nat} (hsg : sgC M n P T K) (hs : s < 64) : zC 47 sc (d + 3) 30 [.ref 1, .int (nI s)] M (some (.int (zB (lsN P T n s)))) (M) := by
  refine z_enter (L := [.ref 1, .int (nI s), .null]) rfl rfl rfl ?_
  refine zK.blk rfl ?_
  refine p_aloadn_0 ?_
  refine p_iloadn_1 ?_
  refine p_cv1i rfl rfl rfl rfl rfl (c_29 hsg (by omega)) ?_
  refine p_ifB_ne (tgt := 10) (by decide) (fun hc5 => ?_) (fun hc5 => ?_)
  · skip
    refine zK.blk rfl ?_
    refine p_iconst (v := nI 0) (by decide) ?_
    refine p_istoren_2 rfl ?_
    refine lp_30_12 hsg hs n 0 (by omega) (fun e => ?_) (fun e => ⟨by unfold lsN; rw [hc5, e]; rfl, rfl⟩)
    refine zK.blk rfl ?_
    refine p_iconst (v := nI 1) (by decide) ?_
    exact p_iret (Or.inr rfl) (by unfold lsN; rw [hc5, e]; rfl) rfl
    --STOP
  · skip
    refine p_iconst (v := nI 0) (by decide) ?_
    exact p_iret (Or.inl rfl) (by unfold lsN; rw [hc5]; rfl) rfl
def apF (P T : Nat → Nat) (q rows i : Nat) : Bool := ltB (P i) (T i * zrep (P i)) q rows
def apN (P T : Nat → Nat) (n q rows : Nat) : Bool := zall (apF P T q rows) n 0
def pcF (P T : Nat → Nat) (n q rows v : Nat) : Nat := if apN P T n q rows = true then v + 1 else v
def pcN (P T : Nat → Nat) (n q : Nat) : Nat := zfor (pcF P T n q) (z22 q) 0 0
def gpF (P T : Nat → Nat) (q i v : Nat) : Nat := v ||| trN (P i) (T i * zrep (P i)) q v
def gpN (P T : Nat → Nat) (n q v : Nat) : Nat := zfor (gpF P T q) n 0 v
def grN (P T : Nat → Nat) (n q : Nat) : Nat → Nat → Nat
  | 0, v => v
  | j + 1, v => if gpN P T n q v = v then v else grN P T n q j (gpN P T n q v)
theorem gpF_lt {P T : Nat → Nat} {q : Nat} (hq : q < 4) : ∀ j i v, v < 2 ^ 8 → zfor (gpF P T q) j i v < 2 ^ 8 := by
  intro j
  induction j with
  | zero => intro i v h; exact h
  | succ j ih => intro i v h; exact ih (i + 1) _ (Nat.or_lt_two_pow h (trN_lt hq))
set_option maxRecDepth 100000 in
set_option maxHeartbeats 4000000 in
theorem lp_31_2 {sc : Nat × (Nat → Int32)} {d : Nat} {M : zM} {r : Option Value} {M' : zM} {n : Nat} {P T K : Nat → Nat} {q rows : Nat} (hsg : sgC M n P T K) (hq : q < 4) (hro : rows < 2 ^ 31) : ∀ (j i : Nat), i + j = n → (zall (apF P T q rows) j i = true → zK 47 sc (zC 47 sc (d + 4)) 31 r M' 32 [.ref 1, .int (nI q), .int (nI rows), .int (nI n)] [] M) → (zall (apF P T q rows) j i = false → some (.int (nI 0)) = r ∧ M = M') → zK 47 sc (zC 47 sc (d + 4)) 31 r M' 2 [.ref 1, .int (nI q), .int (nI rows), .int (nI i)] [] M := by
  intro j
  induction j with
  | zero =>
    intro i hj h1 h2
    have hin : i = n := by omega
    subst hin
    obtain ⟨hn6, hn, hR, hS⟩ := hsg
    refine zK.blk rfl ?_
    refine p_iloadn_3 ?_
    refine p_aloadn_0 ?_
    refine p_geti rfl rfl (hn) ?_
    refine p_icmpN_ge (tgt := 32) (by decide) (by omega) (by omega) (fun hc7 => ?_) (fun hc7 => ?_)
    · skip
      exact h1 rfl
    · skip
      exact absurd hc7 (by omega) --STOP
  | succ j ih =>
    intro i hj h1 h2
    obtain ⟨hn6, hn, hR, hS⟩ := hsg
    have hP := hR i (by omega)
    have hw := zwide_lt (P i) hP.1 (T i) hP.2.1
    refine zK.blk rfl ?_
    refine p_iloadn_3 ?_
    refine p_aloadn_0 ?_
    refine p_geti rfl rfl (hn) ?_
    refine p_icmpN_ge (tgt := 32) (by decide) (by omega) (by omega) (fun hc7 => ?_) (fun hc7 => ?_)
    · skip
      exact absurd hc7 (by omega) --STOP
    · skip
      refine p_aloadn_0 ?_
      refine p_getr rfl rfl ?_
      refine p_iloadn_3 ?_
      refine p_aald rfl (by omega) (by decide) (zget_sg (by omega)) ?_
      refine p_iloadn_1 ?_
      refine p_iloadn_2 ?_
      refine p_cv2i rfl rfl rfl rfl (zlay_sg (by omega)) (c_23 (by omega) (hS _ (by omega)).1 (hS _ (by omega)).2.2.2.1 hP.1 (by omega) hq hro) ?_
      refine p_ifB_ne (tgt := 26) (by decide) (fun hc21 => ?_) (fun hc21 => ?_)
      · skip
        have e : apF P T q rows i = true := hc21
        rw [zall_t e] at h1 h2
        refine zK.blk rfl ?_
        refine p_iinc_3 (zN_inc _ 1) rfl ?_
        refine p_goto (tgt := 2) (by decide) ?_
        exact ih _ (by omega) h1 h2
      · skip
        have e : apF P T q rows i = false := hc21
        refine p_iconst (v := nI 0) (by decide) ?_
        exact p_iret (Or.inl rfl) (h2 (zall_f e)).1 (h2 (zall_f e)).2
set_option maxRecDepth 100000 in
set_option maxHeartbeats 4000000 in
theorem c_31 {sc : Nat × (Nat → Int32)} {d : Nat} {M : zM} {n : Nat} {P T K : Nat → Nat} {q rows : Nat} (hsg : sgC M n P T K) (hq : q < 4) (hro : rows < 2 ^ 31) : zC 47 sc (d + 5) 31 [.ref 1, .int (nI q), .int (nI rows)] M (some (.int (zB (apN P T n q rows)))) (M) := by
  refine z_enter (L := [.ref 1, .int (nI q), .int (nI rows), .null]) rfl rfl rfl ?_
  refine zK.blk rfl ?_
  refine p_iconst (v := nI 0) (by decide) ?_
  refine p_istoren_3 rfl ?_
  refine lp_31_2 hsg hq hro n 0 (by omega) (fun e => ?_) (fun e => ⟨by unfold apN; rw [e]; rfl, rfl⟩)
  refine zK.blk rfl ?_
  refine p_iconst (v := nI 1) (by decide) ?_
  exact p_iret (Or.inr rfl) (by unfold apN; rw [e]; rfl) rfl
set_option maxRecDepth 100000 in
set_option maxHeartbeats 4000000 in
theorem lp_32_4 {sc : Nat × (Nat → Int32)} {d : Nat} {M : zM} {r : Option Value} {M' : zM} {n : Nat} {P T K : Nat → Nat} {q : Nat} (hsg : sgC M n P T K) (hq : q < 4) : ∀ (j i v : Nat), i + j = z22 q → zK 47 sc (zC 47 sc (d + 5)) 32 r M' 30 [.ref 1, .int (nI q), .int (nI (zfor (pcF P T n q) j i v)), .int (nI (z22 q))] [] (M) → zK 47 sc (zC 47 sc (d + 5)) 32 r M' 4 [.ref 1, .int (nI q), .int (nI v), .int (nI i)] [] (M) := by
  intro j
  induction j with
  | zero =>
    intro i v  hj hk
    have hin : i = z22 q := by omega
    subst hin
    have hz := z22_lt hq
    refine zK.blk rfl ?_
    refine p_iloadn_3 ?_
    refine p_iloadn_1 ?_
    refine p_cs1i rfl rfl rfl rfl rfl (c_1 hq) ?_
    refine p_icmpN_gt (tgt := 30) (by decide) (by omega) (by omega) (fun hc9 => ?_) (fun hc9 => ?_)
    · skip
      exact hk
    · skip
      exact absurd hc9 (by omega) --STOP
  | succ j ih =>
    intro i v  hj hk
    have hz := z22_lt hq
    refine zK.blk rfl ?_
    refine p_iloadn_3 ?_
    refine p_iloadn_1 ?_
    refine p_cs1i rfl rfl rfl rfl rfl (c_1 hq) ?_
    refine p_icmpN_gt (tgt := 30) (by decide) (by omega) (by omega) (fun hc9 => ?_) (fun hc9 => ?_)
    · skip
      exact absurd hc9 (by omega) --STOP
    · skip
      refine p_aloadn_0 ?_
      refine p_iloadn_1 ?_
      refine p_iloadn_3 ?_
      refine p_cv2i rfl rfl rfl rfl rfl (c_31 hsg hq (by omega)) ?_
      refine p_ifB_eq (tgt := 24) (by decide) (fun hc18 => ?_) (fun hc18 => ?_)
      · skip
        rw [zfor_step (f := pcF P T n q) (a' := v) (by unfold pcF; rw [if_neg (by rw [hc18]; decide)])] at hk
        refine zK.blk rfl ?_
        refine p_iinc_3 (zN_inc _ 1) rfl ?_
        refine p_goto (tgt := 4) (by decide) ?_
        exact ih _ _ (by omega) hk
      · skip
        rw [zfor_step (f := pcF P T n q) (a' := v + 1) (by unfold pcF; rw [if_pos hc18])] at hk
        refine p_iinc_2 (zN_inc _ 1) rfl ?_
        refine zK.blk rfl ?_
        refine p_iinc_3 (zN_inc _ 1) rfl ?_
        refine p_goto (tgt := 4) (by decide) ?_
        exact ih _ _ (by omega) hk
set_option maxRecDepth 100000 in
set_option maxHeartbeats 4000000 in
theorem c_32 {sc : Nat × (Nat → Int32)} {d : Nat} {M : zM} {n : Nat} {P T K : Nat → Nat} {q : Nat} (hsg : sgC M n P T K) (hq : q < 4) : zC 47 sc (d + 6) 32 [.ref 1, .int (nI q)] M (some (.int (nI (pcN P T n q)))) (M) := by
  refine z_enter (L := [.ref 1, .int (nI q), .null, .null]) rfl rfl rfl ?_
  refine zK.blk rfl ?_
  refine p_iconst (v := nI 0) (by decide) ?_
  refine p_istoren_2 rfl ?_
  refine p_iconst (v := nI 0) (by decide) ?_
  refine p_istoren_3 rfl ?_
  refine lp_32_4 hsg hq (z22 q) 0 0 (by omega) ?_
  refine zK.blk rfl ?_
  refine p_iloadn_2 ?_
  exact p_iret trivial rfl rfl
set_option maxRecDepth 100000 in
set_option maxHeartbeats 4000000 in
theorem lp_33_19 {sc : Nat × (Nat → Int32)} {d : Nat} {M : zM} {r : Option Value} {M' : zM} {n : Nat} {P T K : Nat → Nat} {q r0 rd bf : Nat} (hsg : sgC M n P T K) (hq : q < 4) : ∀ (j i v : Nat), i + j = n → v < 2 ^ 8 → zK 47 sc (zC 47 sc (d + 3)) 33 r M' 62 [.ref 1, .int (nI q), .int (nI r0), .int (nI (zfor (gpF P T q) j i v)), .int (nI rd), .int (nI bf), .int (nI n)] [] (M) → zK 47 sc (zC 47 sc (d + 3)) 33 r M' 19 [.ref 1, .int (nI q), .int (nI r0), .int (nI v), .int (nI rd), .int (nI bf), .int (nI i)] [] (M) := by
  intro j
  induction j with
  | zero =>
    intro i v  hj hv hk
    obtain rfl : i = n := by omega
    obtain ⟨hn6, hn, hR, hS⟩ := hsg
    refine zK.blk rfl ?_
    refine p_iload_6 ?_
    refine p_aloadn_0 ?_
    refine p_geti rfl rfl (hn) ?_
    refine p_icmpN_ge (tgt := 62) (by decide) (by omega) (by omega) (fun hc25 => ?_) (fun hc25 => ?_)
    · skip
      exact hk
    · skip
      exact absurd hc25 (by omega) --STOP
  | succ j ih =>
    intro i v  hj hv hk
    obtain ⟨hn6, hn, hR, hS⟩ := hsg
    have hP := hR i (by omega)
    have hw := zwide_lt (P i) hP.1 (T i) hP.2.1
    refine zK.blk rfl ?_
    refine p_iload_6 ?_
    refine p_aloadn_0 ?_
    refine p_geti rfl rfl (hn) ?_
    refine p_icmpN_ge (tgt := 62) (by decide) (by omega) (by omega) (fun hc25 => ?_) (fun hc25 => ?_)
    · skip
      exact absurd hc25 (by omega) --STOP
    · skip
      refine p_iloadn_3 ?_
      refine p_aloadn_0 ?_
      refine p_getr rfl rfl ?_
      refine p_iload_6 ?_
      refine p_aald rfl (by omega) (by decide) (zget_sg (by omega)) ?_
      refine p_geti (zlay_sg (by omega)) rfl ((hS _ (by omega)).1) ?_
      refine p_aloadn_0 ?_
      refine p_getr rfl rfl ?_
      refine p_iload_6 ?_
      refine p_aald rfl (by omega) (by decide) (zget_sg (by omega)) ?_
      refine p_geti (zlay_sg (by omega)) rfl ((hS _ (by omega)).2.2.2.1) ?_
      refine p_iloadn_1 ?_
      refine p_iloadn_3 ?_
      refine p_cs4i rfl rfl rfl rfl rfl (c_8 hP.1 hq (by omega) (by omega)) ?_
      refine p_iorN ?_
      refine p_istoren_3 rfl ?_
      refine p_iinc_6 (zN_inc _ 1) rfl ?_
      refine p_goto (tgt := 19) (by decide) ?_
      exact ih _ _ (by omega) (Nat.or_lt_two_pow hv (trN_lt hq)) hk
set_option maxRecDepth 100000 in
set_option maxHeartbeats 4000000 in
theorem lp_33_5 {sc : Nat × (Nat → Int32)} {d : Nat} {M : zM} {r : Option Value} {M' : zM} {n : Nat} {P T K : Nat → Nat} {q r0 : Nat} (hsg : sgC M n P T K) (hq : q < 4) : ∀ (j i v : Nat), i + j = 1 <<< q → v < 2 ^ 8 → (∀ x, x ≤ 1 <<< q → zK 47 sc (zC 47 sc (d + 3)) 33 r M' 77 [.ref 1, .int (nI q), .int (nI r0), .int (nI (grN P T n q j v)), .int (nI x), .null, .null] [] M) → zK 47 sc (zC 47 sc (d + 3)) 33 r M' 5 [.ref 1, .int (nI q), .int (nI r0), .int (nI v), .int (nI i), .null, .null] [] M := by
  intro j
  induction j with
  | zero =>
    intro i v hj hv hk
    have hs := zsh_lt hq
    have hin : i = 1 <<< q := by omega
    subst hin
    refine zK.blk rfl ?_
    refine p_iload_4 ?_
    refine p_iconst (v := nI 1) (by decide) ?_
    refine p_iloadn_1 ?_
    refine p_ishlN (by omega) ?_
    refine p_icmpN_ge (tgt := 77) (by decide) (by omega) (by omega) (fun hc10 => ?_) (fun hc10 => ?_)
    · skip
      exact hk _ (Nat.le_refl _)
    · skip
      exact absurd hc10 (by omega) --STOP
  | succ j ih =>
    intro i v hj hv hk
    have hs := zsh_lt hq
    have hg := gpF_lt (P := P) (T := T) hq n 0 v hv
    refine zK.blk rfl ?_
    refine p_iload_4 ?_
    refine p_iconst (v := nI 1) (by decide) ?_
    refine p_iloadn_1 ?_
    refine p_ishlN (by omega) ?_
    refine p_icmpN_ge (tgt := 77) (by decide) (by omega) (by omega) (fun hc10 => ?_) (fun hc10 => ?_)
    · skip
      exact absurd hc10 (by omega) --STOP
    · skip
      refine p_iloadn_3 ?_
      refine p_istore_5 rfl ?_
      refine p_iconst (v := nI 0) (by decide) ?_
      refine p_istore_6 rfl ?_
      refine lp_33_19 hsg hq n 0 v (by omega) hv ?_
      refine zK.blk rfl ?_
      refine p_iloadn_3 ?_
      refine p_iload_5 ?_
      refine p_icmpN_ne (tgt := 71) (by decide) (by omega) (by omega) (fun hc65 => ?_) (fun hc65 => ?_)
      · skip
        have e : grN P T n q (j + 1) v = grN P T n q j (gpN P T n q v) := by show (if gpN P T n q v = v then v else _) = _; rw [if_neg (show ¬ gpN P T n q v = v from hc65)]
        rw [e] at hk
        refine zK.blk rfl ?_
        refine p_iinc_4 (zN_inc _ 1) rfl ?_
        refine p_goto (tgt := 5) (by decide) ?_
        refine zK.forget _ ?_ (ih (i + 1) (gpN P T n q v) (by omega) hg hk)
        exact ⟨Or.inl rfl, Or.inl rfl, Or.inl rfl, Or.inl rfl, Or.inl rfl, Or.inr rfl, Or.inr rfl, trivial⟩
      · skip
        have e0 : zfor (gpF P T q) n 0 v = v := by omega
        have e : grN P T n q (j + 1) v = v := by show (if gpN P T n q v = v then v else _) = _; rw [if_pos (show gpN P T n q v = v from e0)]
        rw [e] at hk
        rw [e0]
        refine p_goto (tgt := 77) (by decide) ?_
        refine zK.forget _ ?_ (hk i (by omega))
        exact ⟨Or.inl rfl, Or.inl rfl, Or.inl rfl, Or.inl rfl, Or.inl rfl, Or.inr rfl, Or.inr rfl, trivial⟩
set_option maxRecDepth 100000 in
set_option maxHeartbeats 4000000 in
theorem c_33 {sc : Nat × (Nat → Int32)} {d : Nat} {M : zM} {n : Nat} {P T K : Nat → Nat} {q rows : Nat} (hsg : sgC M n P T K) (hq : q < 4) (hro : rows < 2 ^ 8) : zC 47 sc (d + 4) 33 [.ref 1, .int (nI q), .int (nI rows)] M (some (.int (nI (grN P T n q (1 <<< q) rows)))) (M) := by
  refine z_enter (L := [.ref 1, .int (nI q), .int (nI rows), .null, .null, .null, .null]) rfl rfl rfl ?_
  refine zK.blk rfl ?_
  refine p_iloadn_2 ?_
  refine p_istoren_3 rfl ?_
  refine p_iconst (v := nI 0) (by decide) ?_
  refine p_istore_4 rfl ?_
  refine lp_33_5 hsg hq (1 <<< q) 0 rows (by omega) hro (fun x hx => ?_)
  refine zK.blk rfl ?_
  refine p_iloadn_3 ?_
  exact p_iret trivial rfl rfl
def zcnt (x : Int32) : Bool := decide (¬ x < nI 1) && decide (¬ nI 3 < x)
def zrl (x y : Int32) : Bool := zcnt x && zfits x y
def zfo (x : Int32) : Bool := decide (¬ x < 0) && decide (¬ nI 4 ≤ x)
set_option maxRecDepth 100000 in
set_option maxHeartbeats 4000000 in
theorem c_82 {sc : Nat × (Nat → Int32)} {d : Nat} {M : zM} {x : Int32} : zC 47 sc (d + 1) 82 [.int x] M (some (.int (zB (zcnt x)))) (M) := by
  refine z_enter (L := [.int x]) rfl rfl rfl ?_
  refine zK.blk rfl ?_
  refine p_iloadn_0 ?_
  refine p_iconst (v := nI 1) (by decide) ?_
  refine p_icmp_lt (tgt := 14) (by decide) (fun hc2 => ?_) (fun hc2 => ?_)
  · skip
    refine zK.blk rfl ?_
    refine p_iconst (v := nI 0) (by decide) ?_
    refine zK.blk rfl ?_
    exact p_iret (by first | exact Or.inl rfl | exact Or.inr rfl) (by (first | rw [zB_0] | rw [zB_1]); congr 3; unfold zcnt; simp_all) rfl
  · skip
    refine p_iloadn_0 ?_
    refine p_iconst (v := nI 3) (by decide) ?_
    refine p_icmp_gt (tgt := 14) (by decide) (fun hc7 => ?_) (fun hc7 => ?_)
    · skip
      refine zK.blk rfl ?_
      refine p_iconst (v := nI 0) (by decide) ?_
      refine zK.blk rfl ?_
      exact p_iret (by first | exact Or.inl rfl | exact Or.inr rfl) (by (first | rw [zB_0] | rw [zB_1]); congr 3; unfold zcnt; simp_all) rfl
    · skip
      refine p_iconst (v := nI 1) (by decide) ?_
      refine p_goto (tgt := 15) (by decide) ?_
      refine zK.blk rfl ?_
      exact p_iret (by first | exact Or.inl rfl | exact Or.inr rfl) (by (first | rw [zB_0] | rw [zB_1]); congr 3; unfold zcnt; simp_all) rfl
set_option maxRecDepth 100000 in
set_option maxHeartbeats 4000000 in
theorem c_84 {sc : Nat × (Nat → Int32)} {d : Nat} {M : zM} {x : Int32} : zC 47 sc (d + 1) 84 [.int x] M (some (.int (zB (zfo x)))) (M) := by
  refine z_enter (L := [.int x]) rfl rfl rfl ?_
  refine zK.blk rfl ?_
  refine p_iloadn_0 ?_
  refine p_if_lt (tgt := 13) (by decide) (fun hc1 => ?_) (fun hc1 => ?_)
  · skip
    refine zK.blk rfl ?_
    refine p_iconst (v := nI 0) (by decide) ?_
    refine zK.blk rfl ?_
    exact p_iret (by first | exact Or.inl rfl | exact Or.inr rfl) (by (first | rw [zB_0] | rw [zB_1]); congr 3; unfold zfo; simp_all) rfl
  · skip
    refine p_iloadn_0 ?_
    refine p_iconst (v := nI 4) (by decide) ?_
    refine p_icmp_ge (tgt := 13) (by decide) (fun hc6 => ?_) (fun hc6 => ?_)
    · skip
      refine zK.blk rfl ?_
      refine p_iconst (v := nI 0) (by decide) ?_
      refine zK.blk rfl ?_
      exact p_iret (by first | exact Or.inl rfl | exact Or.inr rfl) (by (first | rw [zB_0] | rw [zB_1]); congr 3; unfold zfo; simp_all) rfl
    · skip
      refine p_iconst (v := nI 1) (by decide) ?_
      refine p_goto (tgt := 14) (by decide) ?_
      refine zK.blk rfl ?_
      exact p_iret (by first | exact Or.inl rfl | exact Or.inr rfl) (by (first | rw [zB_0] | rw [zB_1]); congr 3; unfold zfo; simp_all) rfl
set_option maxRecDepth 100000 in
set_option maxHeartbeats 4000000 in
theorem c_83 {sc : Nat × (Nat → Int32)} {d : Nat} {M : zM} {x y : Int32} : zC 47 sc (d + 3) 83 [.int x, .int y] M (some (.int (zB (zrl x y)))) (M) := by
  refine z_enter (L := [.int x, .int y]) rfl rfl rfl ?_
  refine zK.blk rfl ?_
  refine p_iloadn_0 ?_
  refine p_cs1i rfl rfl rfl rfl rfl (c_82) ?_
  refine p_ifB_eq (tgt := 19) (by decide) (fun hc4 => ?_) (fun hc4 => ?_)
  · skip
    refine zK.blk rfl ?_
    refine p_iconst (v := nI 0) (by decide) ?_
    refine zK.blk rfl ?_
    exact p_iret (by first | exact Or.inl rfl | exact Or.inr rfl) (by (first | rw [zB_0] | rw [zB_1]); congr 3; unfold zrl; simp_all) rfl
  · skip
    refine p_iloadn_0 ?_
    refine p_iloadn_1 ?_
    refine p_cs2i rfl rfl rfl rfl rfl (c_0) ?_
    refine p_ifB_eq (tgt := 19) (by decide) (fun hc12 => ?_) (fun hc12 => ?_)
    · skip
      refine zK.blk rfl ?_
      refine p_iconst (v := nI 0) (by decide) ?_
      refine zK.blk rfl ?_
      exact p_iret (by first | exact Or.inl rfl | exact Or.inr rfl) (by (first | rw [zB_0] | rw [zB_1]); congr 3; unfold zrl; simp_all) rfl
    · skip
      refine p_iconst (v := nI 1) (by decide) ?_
      refine p_goto (tgt := 20) (by decide) ?_
      refine zK.blk rfl ?_
      exact p_iret (by first | exact Or.inl rfl | exact Or.inr rfl) (by (first | rw [zB_0] | rw [zB_1]); congr 3; unfold zrl; simp_all) rfl
