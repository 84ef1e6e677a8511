theorem zup_id {M : zM} {k j : Nat} {x : Int32} (h : M k j = x) : zup M k j x = M := by
  funext a b
  unfold zup
  split
  · rename_i ha
    split
    · rename_i hb
      rw [ha, hb, h]
    · rfl
  · rfl
/-- the reference's signs -/
def sgM (M : zM) (n : Nat) (P T K : Nat → Nat) : Prop := M 33 0 = nI 0 ∧ M 33 1 = nI n ∧ n ≤ 6 ∧ (∀ i, i < n → P i < 4 ∧ T i < z22 (P i) ∧ 1 ≤ K i ∧ K i ≤ 9) ∧ ∀ i, i < n → M 34 i = nI (P i) ∧ M 35 i = nI (T i) ∧ M 36 i = nI (K i)
theorem zpred_lt {n : Nat} {x : Int32} (hn : n < 2 ^ 31) : (nI n - nI 1 < x) ↔ nI n ≤ x := by
  rw [Int32.lt_iff_toInt_lt, Int32.le_iff_toInt_le, nI_toInt hn]
  rcases (show n = 0 ∨ 1 ≤ n by omega) with rfl | h
  · have : (nI 0 - nI 1).toInt = -1 := by decide
    rw [this]; omega
  · rw [zN_sub h, nI_toInt (by omega)]; omega
theorem zin_has {n : Nat} {x : Int32} (hn : n < 2 ^ 31) : zin x (nI 0) (nI n - nI 1) = zhas n x := by
  unfold zin zhas
  have h := zpred_lt (x := x) hn
  rw [show nI 0 = 0 from rfl]
  congr 1
  rw [decide_eq_decide, h]
theorem zin_N {n : Nat} {x : Int32} (h : 1 ≤ n) : zin x (nI 0) (nI (n - 1)) = zin x (nI 0) (nI n - nI 1) := by rw [zN_sub h]
theorem z1n_lt {n : Nat} (h : n ≤ 6) : 1 ≤ 1 <<< n ∧ 1 <<< n ≤ 64 := by
  rcases (show n = 0 ∨ n = 1 ∨ n = 2 ∨ n = 3 ∨ n = 4 ∨ n = 5 ∨ n = 6 by omega) with rfl | rfl | rfl | rfl | rfl | rfl | rfl <;> decide
def h3F (P : Nat → Nat) (i v : Nat) : Nat := if P i = 3 then v ||| 1 else v ||| 0
theorem h3_o3 (P : Nat → Nat) : ∀ j i v w, v < 2 → (v = 0 ↔ w = 0) → zfor (h3F P) j i v < 2 ∧ (zfor (h3F P) j i v = 0 ↔ zfor (o3F P) j i w = 0) := by
  intro j
  induction j with
  | zero => intro i v w h1 h2; exact ⟨h1, h2⟩
  | succ j ih =>
    intro i v w h1 h2
    refine ih (i + 1) (h3F P i v) (o3F P i w) ?_ ?_
    · unfold h3F; split
      · rcases (show v = 0 ∨ v = 1 by omega) with rfl | rfl <;> decide
      · rw [Nat.or_zero]; exact h1
    · unfold h3F o3F; split
      · rcases (show v = 0 ∨ v = 1 by omega) with rfl | rfl <;> simp
      · rw [Nat.or_zero]; exact h2
set_option maxRecDepth 100000 in
set_option maxHeartbeats 4000000 in
theorem lp_97_4 {sc : Nat × (Nat → Int32)} {d : Nat} {M : zM} {r : Option Value} {M' : zM} {n : Nat} {P T K : Nat → Nat} (hsm : sgM M n P T K) : ∀ (j i v : Nat), i + j = n → zK 47 sc (zC 47 sc (d + 0)) 97 r M' 36 [.ref 33, .int (nI (zfor (h3F P) j i v)), .int (nI n)] [] (M) → zK 47 sc (zC 47 sc (d + 0)) 97 r M' 4 [.ref 33, .int (nI v), .int (nI i)] [] (M) := by
  intro j
  induction j with
  | zero =>
    intro i v  hj hk
    obtain rfl : i = n := by omega
    obtain ⟨hth, hm, hn6, hR, hT⟩ := hsm
    refine zK.blk rfl ?_
    refine p_iloadn_2 ?_
    refine p_aloadn_0 ?_
    refine p_geti rfl rfl (hm) ?_
    refine p_icmpN_ge (tgt := 36) (by decide) (by omega) (by omega) (fun hc9 => ?_) (fun hc9 => ?_)
    · skip
      exact hk
    · skip
      exact absurd hc9 (by omega) --STOP
  | succ j ih =>
    intro i v  hj hk
    obtain ⟨hth, hm, hn6, hR, hT⟩ := hsm
    have hP := hR i (by omega)
    refine zK.blk rfl ?_
    refine p_iloadn_2 ?_
    refine p_aloadn_0 ?_
    refine p_geti rfl rfl (hm) ?_
    refine p_icmpN_ge (tgt := 36) (by decide) (by omega) (by omega) (fun hc9 => ?_) (fun hc9 => ?_)
    · skip
      exact absurd hc9 (by omega) --STOP
    · skip
      refine p_iloadn_1 ?_
      refine p_aloadn_0 ?_
      refine p_getr rfl rfl ?_
      refine p_iloadn_2 ?_
      refine p_iald rfl (by omega) (by decide) ((hT _ (by omega)).1) ?_
      refine p_iconst (v := nI 3) (by decide) ?_
      refine p_icmpN_ne (tgt := 27) (by decide) (by omega) (by omega) (fun hc20 => ?_) (fun hc20 => ?_)
      · skip
        rw [zfor_step (f := h3F P) (a' := v ||| 0) (by unfold h3F; rw [if_neg hc20])] at hk
        refine zK.blk rfl ?_
        refine p_iconst (v := nI 0) (by decide) ?_
        refine zK.blk rfl ?_
        refine p_iorN ?_
        refine p_istoren_1 rfl ?_
        refine p_iinc_2 (zN_inc _ 1) rfl ?_
        refine p_goto (tgt := 4) (by decide) ?_
        exact ih _ _ (by omega) hk
      · skip
        rw [zfor_step (f := h3F P) (a' := v ||| 1) (by unfold h3F; rw [if_pos (by omega)])] at hk
        refine p_iconst (v := nI 1) (by decide) ?_
        refine p_goto (tgt := 28) (by decide) ?_
        refine zK.blk rfl ?_
        refine p_iorN ?_
        refine p_istoren_1 rfl ?_
        refine p_iinc_2 (zN_inc _ 1) rfl ?_
        refine p_goto (tgt := 4) (by decide) ?_
        exact ih _ _ (by omega) hk
set_option maxRecDepth 100000 in
set_option maxHeartbeats 4000000 in
theorem c_97 {sc : Nat × (Nat → Int32)} {d : Nat} {M : zM} {n : Nat} {P T K : Nat → Nat} (hsm : sgM M n P T K) : zC 47 sc (d + 1) 97 [.ref 33] M (some (.int (zB (decide (¬ o3N P n = 0))))) (M) := by
  have h3 := h3_o3 P n 0 0 0 (by decide) Iff.rfl
  refine z_enter (L := [.ref 33, .null, .null]) rfl rfl rfl ?_
  refine zK.blk rfl ?_
  refine p_iconst (v := nI 0) (by decide) ?_
  refine p_istoren_1 rfl ?_
  refine p_iconst (v := nI 0) (by decide) ?_
  refine p_istoren_2 rfl ?_
  refine lp_97_4 hsm n 0 0 (by omega) ?_
  refine zK.blk rfl ?_
  refine p_iloadn_1 ?_
  generalize zfor (h3F P) n 0 0 = y at h3 ⊢
  have h4 : (y = 0 ↔ o3N P n = 0) := h3.2
  rcases (show y = 0 ∨ y = 1 by omega) with rfl | rfl
  · exact p_iret (Or.inl rfl) (by rw [decide_eq_false (by omega)]; rfl) rfl
  · exact p_iret (Or.inr rfl) (by rw [decide_eq_true (by omega)]; rfl) rfl
set_option maxRecDepth 100000 in
set_option maxHeartbeats 4000000 in
theorem c_108 {sc : Nat × (Nat → Int32)} {d : Nat} {M : zM} {n : Nat} {P T K : Nat → Nat} {x : Int32} (hsm : sgM M n P T K) : zC 47 sc (d + 2) 108 [.ref 33, .int x] M (some (.int (zB (zhas (1 <<< n) x)))) (M) := by
  obtain ⟨hth, hm, hn6, hR, hT⟩ := hsm
  have hz := z1n_lt hn6
  rw [← zin_has (by omega), ← zin_N (by omega)]
  refine z_enter (L := [.ref 33, .int x]) rfl rfl rfl ?_
  refine zK.blk rfl ?_
  refine p_iloadn_1 ?_
  refine p_iconst (v := nI 0) (by decide) ?_
  refine p_iconst (v := nI 1) (by decide) ?_
  refine p_aloadn_0 ?_
  refine p_geti rfl rfl (hm) ?_
  refine p_ishlN (by omega) ?_
  refine p_iconst (v := nI 1) (by decide) ?_
  refine p_isubN (by omega) ?_
  refine p_cs3i rfl rfl rfl rfl rfl (c_89) ?_
  exact p_iret (zB_or _) rfl rfl
set_option maxRecDepth 100000 in
set_option maxHeartbeats 4000000 in
theorem lp_109_5 {sc : Nat × (Nat → Int32)} {d : Nat} {M : zM} {r : Option Value} {M' : zM} {n : Nat} {P T K : Nat → Nat} {s : Nat} (hsm : sgM M n P T K) (hs : s < 2 ^ 31) : ∀ (j i v : Nat), i + j = n → v < 32 → zK 47 sc (zC 47 sc (d + 1)) 109 r M' 51 [.ref 33, .int (nI s), .int (nI (zfor (kaF P T s) j i v)), .int (nI n)] [] (M) → zK 47 sc (zC 47 sc (d + 1)) 109 r M' 5 [.ref 33, .int (nI s), .int (nI v), .int (nI i)] [] (M) := by
  intro j
  induction j with
  | zero =>
    intro i v  hj hv hk
    obtain rfl : i = n := by omega
    obtain ⟨hth, hm, hn6, hR, hT⟩ := hsm
    refine zK.blk rfl ?_
    refine p_iloadn_3 ?_
    refine p_aloadn_0 ?_
    refine p_geti rfl rfl (hm) ?_
    refine p_icmpN_ge (tgt := 51) (by decide) (by omega) (by omega) (fun hc10 => ?_) (fun hc10 => ?_)
    · skip
      exact hk
    · skip
      exact absurd hc10 (by omega) --STOP
  | succ j ih =>
    intro i v  hj hv hk
    have hsm2 := hsm
    obtain ⟨hth, hm, hn6, hR, hT⟩ := hsm
    have hb := zb_lt s i
    have hP := hR i (by omega)
    have hkk := kb_km (P i) hP.1 (T i) hP.2.1
    have h31 : v &&& 31 = v := by rw [show (31 : Nat) = 2 ^ 5 - 1 from rfl, Nat.and_two_pow_sub_one_eq_mod]; exact Nat.mod_eq_of_lt hv
    refine zK.blk rfl ?_
    refine p_iloadn_3 ?_
    refine p_aloadn_0 ?_
    refine p_geti rfl rfl (hm) ?_
    refine p_icmpN_ge (tgt := 51) (by decide) (by omega) (by omega) (fun hc10 => ?_) (fun hc10 => ?_)
    · skip
      exact absurd hc10 (by omega) --STOP
    · skip
      refine p_iloadn_2 ?_
      refine p_iloadn_1 ?_
      refine p_iloadn_3 ?_
      refine p_ishrN (by omega) (by omega) ?_
      refine p_iconst (v := nI 1) (by decide) ?_
      refine p_iandN ?_
      refine p_iconst (v := nI 1) (by decide) ?_
      refine p_icmpN_ne (tgt := 41) (by decide) (by omega) (by omega) (fun hc20 => ?_) (fun hc20 => ?_)
      · skip
        rw [zfor_step (f := kaF P T s) (a' := v &&& 31) (by unfold kaF; rw [if_neg hc20, h31])] at hk
        refine zK.blk rfl ?_
        refine p_bipush (v := nI 31) (by decide) ?_
        refine zK.blk rfl ?_
        refine p_iandN ?_
        refine p_istoren_2 rfl ?_
        refine p_iinc_3 (zN_inc _ 1) rfl ?_
        refine p_goto (tgt := 5) (by decide) ?_
        exact ih _ _ (by omega) (zand_lt hv) hk
      · skip
        rw [zfor_step (f := kaF P T s) (a' := v &&& kmN (P i) (T i)) (by unfold kaF; rw [if_pos (by omega), hkk.1])] at hk
        refine p_aloadn_0 ?_
        refine p_getr rfl rfl ?_
        refine p_iloadn_3 ?_
        refine p_iald rfl (by omega) (by decide) ((hT _ (by omega)).1) ?_
        refine p_aloadn_0 ?_
        refine p_getr rfl rfl ?_
        refine p_iloadn_3 ?_
        refine p_iald rfl (by omega) (by decide) ((hT _ (by omega)).2.1) ?_
        refine p_cs2i rfl rfl rfl rfl rfl (c_94 hP.1 hP.2.1) ?_
        refine p_goto (tgt := 43) (by decide) ?_
        refine zK.blk rfl ?_
        refine p_iandN ?_
        refine p_istoren_2 rfl ?_
        refine p_iinc_3 (zN_inc _ 1) rfl ?_
        refine p_goto (tgt := 5) (by decide) ?_
        exact ih _ _ (by omega) (zand_lt hv) hk
set_option maxRecDepth 100000 in
set_option maxHeartbeats 4000000 in
theorem c_109 {sc : Nat × (Nat → Int32)} {d : Nat} {M : zM} {n : Nat} {P T K : Nat → Nat} {s : Nat} (hsm : sgM M n P T K) (hs : s < 2 ^ 31) : zC 47 sc (d + 2) 109 [.ref 33, .int (nI s)] M (some (.int (nI (kaN P T n s)))) (M) := by
  refine z_enter (L := [.ref 33, .int (nI s), .null, .null]) rfl rfl rfl ?_
  refine zK.blk rfl ?_
  refine p_bipush (v := nI 31) (by decide) ?_
  refine p_istoren_2 rfl ?_
  refine p_iconst (v := nI 0) (by decide) ?_
  refine p_istoren_3 rfl ?_
  refine lp_109_5 hsm hs n 0 31 (by omega) (by decide) ?_
  refine zK.blk rfl ?_
  refine p_iloadn_2 ?_
  exact p_iret trivial rfl rfl
theorem zax : ∀ s, s < 64 → ∀ i, i < 6 → s >>> i &&& 1 = 1 → s &&& (1 <<< i ^^^ zFF) = s ^^^ 1 <<< i := by decide +kernel
set_option maxRecDepth 100000 in
set_option maxHeartbeats 4000000 in
theorem lp_112_16 {sc : Nat × (Nat → Int32)} {d : Nat} {M : zM} {r : Option Value} {M' : zM} {n : Nat} {P T K : Nat → Nat} {s : Nat} (hsm : sgM M n P T K) (hs : s < 64) : ∀ (j i : Nat), i + j = n → (∀ x, zK 47 sc (zC 47 sc (d + 2)) 112 r M' 62 [.ref 33, .int (nI s), .int (nI (if zall (lsF P T n s) j i = true then 1 else 0)), .int (nI x)] [] M) → zK 47 sc (zC 47 sc (d + 2)) 112 r M' 16 [.ref 33, .int (nI s), .int (nI 1), .int (nI i)] [] M := by
  intro j
  induction j with
  | zero =>
    intro i hj hk
    obtain ⟨hth, hm, hn6, hR, hT⟩ := hsm
    have hin : i = n := by omega
    subst hin
    refine zK.blk rfl ?_
    refine p_iloadn_3 ?_
    refine p_aloadn_0 ?_
    refine p_geti rfl rfl (hm) ?_
    refine p_icmpN_ge (tgt := 62) (by decide) (by omega) (by omega) (fun hc21 => ?_) (fun hc21 => ?_)
    · skip
      exact hk _
    · skip
      exact absurd hc21 (by omega) --STOP
  | succ j ih =>
    intro i hj hk
    have hsm2 := hsm
    obtain ⟨hth, hm, hn6, hR, hT⟩ := hsm
    have hb := zb_lt s i
    have hka := kaN_lt P T n (s &&& (1 <<< i ^^^ zFF))
    refine zK.blk rfl ?_
    refine p_iloadn_3 ?_
    refine p_aloadn_0 ?_
    refine p_geti rfl rfl (hm) ?_
    refine p_icmpN_ge (tgt := 62) (by decide) (by omega) (by omega) (fun hc21 => ?_) (fun hc21 => ?_)
    · skip
      exact absurd hc21 (by omega) --STOP
    · skip
      refine p_iloadn_2 ?_
      refine p_ifN_eq (tgt := 62) (by decide) (by omega) (fun hc25 => ?_) (fun hc25 => ?_)
      · skip
        exact absurd hc25 (by decide) --STOP
      · skip
        refine p_iloadn_1 ?_
        refine p_iloadn_3 ?_
        refine p_ishrN (by omega) (by omega) ?_
        refine p_iconst (v := nI 1) (by decide) ?_
        refine p_iandN ?_
        refine p_ifN_eq (tgt := 50) (by decide) (by omega) (fun hc33 => ?_) (fun hc33 => ?_)
        · skip
          have e : lsF P T n s i = true := by unfold lsF; rw [decide_eq_false (show ¬ s >>> i &&& 1 = 1 by omega)]; rfl
          rw [zall_t e] at hk
          refine zK.blk rfl ?_
          refine p_iconst (v := nI 1) (by decide) ?_
          refine p_goto (tgt := 55) (by decide) ?_
          refine zK.blk rfl ?_
          refine p_istoren_2 rfl ?_
          refine p_iinc_3 (zN_inc _ 1) rfl ?_
          refine p_goto (tgt := 16) (by decide) ?_
          exact ih _ (by omega) hk
        · skip
          refine p_aloadn_0 ?_
          refine p_iloadn_1 ?_
          refine p_iconst (v := nI 1) (by decide) ?_
          refine p_iloadn_3 ?_
          refine p_ishlN (by omega) ?_
          refine p_iconst (v := nI zFF) (by decide) ?_
          refine p_ixorN ?_
          refine p_iandN ?_
          refine p_cv1i rfl rfl rfl rfl rfl (c_109 hsm2 (zand_lt (by omega))) ?_
          refine p_ifN_eq (tgt := 54) (by decide) (by omega) (fun hc47 => ?_) (fun hc47 => ?_)
          · skip
            have e : lsF P T n s i = false := by unfold lsF; rw [decide_eq_true (show s >>> i &&& 1 = 1 by omega), decide_eq_true (by rw [← zax s hs i (by omega) (by omega)]; exact hc47)]; rfl
            rw [zall_f e, if_neg (by decide)] at hk
            refine zK.blk rfl ?_
            refine p_iconst (v := nI 0) (by decide) ?_
            refine zK.blk rfl ?_
            refine p_istoren_2 rfl ?_
            refine p_iinc_3 (zN_inc _ 1) rfl ?_
            refine p_goto (tgt := 16) (by decide) ?_
            refine zK.blk rfl ?_
            refine p_iloadn_3 ?_
            refine p_aloadn_0 ?_
            refine p_geti rfl rfl hm ?_
            refine p_icmpN_ge (tgt := 62) (by decide) (by omega) (by omega) (fun _ => hk _) (fun _ => ?_)
            refine p_iloadn_2 ?_
            refine p_ifN_eq (tgt := 62) (by decide) (by decide) (fun _ => hk _) (fun z => absurd rfl z) --STOP
          · skip
            have e : lsF P T n s i = true := by unfold lsF; rw [decide_eq_false (show ¬ kaN P T n (s ^^^ 1 <<< i) = 0 by rw [← zax s hs i (by omega) (by omega)]; exact hc47), Bool.and_false]; rfl
            rw [zall_t e] at hk
            refine zK.blk rfl ?_
            refine p_iconst (v := nI 1) (by decide) ?_
            refine p_goto (tgt := 55) (by decide) ?_
            refine zK.blk rfl ?_
            refine p_istoren_2 rfl ?_
            refine p_iinc_3 (zN_inc _ 1) rfl ?_
            refine p_goto (tgt := 16) (by decide) ?_
            exact ih _ (by omega) hk
set_option maxRecDepth 100000 in
set_option maxHeartbeats 4000000 in
theorem c_112 {sc : Nat × (Nat → Int32)} {d : Nat} {M : zM} {n : Nat} {P T K : Nat → Nat} {s : Nat} (hsm : sgM M n P T K) (hs : s < 64) : zC 47 sc (d + 3) 112 [.ref 33, .int (nI s)] M (some (.int (zB (lsN P T n s)))) (M) := by
  have hka := kaN_lt P T n s
  refine z_enter (L := [.ref 33, .int (nI s), .null, .null]) rfl rfl rfl ?_
  refine zK.blk rfl ?_
  refine p_aloadn_0 ?_
  refine p_iloadn_1 ?_
  refine p_cv1i rfl rfl rfl rfl rfl (c_109 hsm (by omega)) ?_
  refine p_ifN_ne (tgt := 12) (by decide) (by omega) (fun hc5 => ?_) (fun hc5 => ?_)
  · skip
    refine zK.blk rfl ?_
    refine p_iconst (v := nI 0) (by decide) ?_
    refine zK.blk rfl ?_
    refine p_istoren_2 rfl ?_
    refine p_iconst (v := nI 0) (by decide) ?_
    refine p_istoren_3 rfl ?_
    refine zK.blk rfl ?_
    refine p_iloadn_3 ?_
    refine p_aloadn_0 ?_
    refine p_geti rfl rfl hsm.2.1 ?_
    have fin : ∀ x, zK 47 sc (zC 47 sc (d + 2)) 112 (some (.int (zB (lsN P T n s)))) M 62 [.ref 33, .int (nI s), .int (nI 0), .int (nI x)] [] M := by
      intro x
      refine zK.blk rfl ?_
      refine p_iloadn_2 ?_
      exact p_iret (Or.inl rfl) (by unfold lsN; rw [decide_eq_false hc5]; rfl) rfl
    refine p_icmpN_ge (tgt := 62) (by decide) (by decide) (by have := hsm.2.2.1; omega) (fun _ => fin _) (fun _ => ?_)
    refine p_iloadn_2 ?_
    refine p_ifN_eq (tgt := 62) (by decide) (by decide) (fun _ => fin _) (fun z => absurd rfl z)
    --STOP
  · skip
    refine p_iconst (v := nI 1) (by decide) ?_
    refine p_goto (tgt := 13) (by decide) ?_
    refine zK.blk rfl ?_
    refine p_istoren_2 rfl ?_
    refine p_iconst (v := nI 0) (by decide) ?_
    refine p_istoren_3 rfl ?_
    refine lp_112_16 hsm hs n 0 (by omega) (fun x => ?_)
    refine zK.blk rfl ?_
    refine p_iloadn_2 ?_
    have hd5 : decide (kaN P T n s = 0) = true := decide_eq_true (by omega)
    cases hz : zall (lsF P T n s) n 0 with
    | true => exact p_iret (by rw [if_pos rfl]; exact Or.inr rfl) (by unfold lsN; rw [hd5, hz]; rfl) rfl
    | false => exact p_iret (by rw [if_neg (by decide)]; exact Or.inl rfl) (by unfold lsN; rw [hd5, hz]; rfl) rfl
    --STOP
set_option maxRecDepth 100000 in
set_option maxHeartbeats 4000000 in
theorem c_115 {sc : Nat × (Nat → Int32)} {d : Nat} {M : zM} {x y : Int32} : zC 47 sc (d + 2) 115 [.int x, .int y] M (some (.int (zB (zrl x y)))) (M) := by
  refine z_enter (L := [.int x, .int y]) rfl rfl rfl ?_
  refine zK.blk rfl ?_
  refine p_iloadn_0 ?_
  refine p_iconst (v := nI 1) (by decide) ?_
  refine p_iconst (v := nI 3) (by decide) ?_
  refine p_cs3i rfl rfl rfl rfl rfl (c_89) ?_
  refine p_ifB_eq (tgt := 27) (by decide) (fun hc6 => ?_) (fun hc6 => ?_)
  · skip
    refine zK.blk rfl ?_
    refine p_iconst (v := nI 0) (by decide) ?_
    refine zK.blk rfl ?_
    exact p_iret (by first | exact Or.inl rfl | exact Or.inr rfl) (by first | (rw [show zrl x y = false by (unfold zrl; rw [show zcnt x = false from hc6]; rfl)]; rfl) | (have e1 : zcnt (nI p) = true := hc6; have e2 : zfits (nI p) y = zin y (nI 0) (nI (z22 p - 1)) := (by unfold zfits zin; rw [nI_clamp (by omega), decide_eq_true (nI_pos (by omega)), decide_eq_true (show ¬ nI 3 < nI p from nI_nlt (by omega) (by decide))]; rfl); unfold zrl; rw [e1, e2, hc20]; rfl)) rfl
  · skip
    have hc6' := hc6
    unfold zin at hc6'
    simp only [Bool.and_eq_true, decide_eq_true_eq] at hc6'
    obtain ⟨p, hp, rfl⟩ := nI_of2 (M := nI 3) (n := 3) (by decide) (x := x) (fun z => hc6'.1 (Int32.lt_trans z (by decide))) (Int32.not_lt.mp hc6'.2)
    have hz := z22_lt (show p < 4 by omega)
    refine p_iloadn_1 ?_
    refine p_iconst (v := nI 0) (by decide) ?_
    refine p_iloadn_0 ?_
    refine p_cs1i rfl rfl rfl rfl rfl (c_91 (p := p) (by omega)) ?_
    refine p_iconst (v := nI 1) (by decide) ?_
    refine p_isubN (by omega) ?_
    refine p_cs3i rfl rfl rfl rfl rfl (c_89) ?_
    refine p_ifB_eq (tgt := 27) (by decide) (fun hc20 => ?_) (fun hc20 => ?_)
    · skip
      refine zK.blk rfl ?_
      refine p_iconst (v := nI 0) (by decide) ?_
      refine zK.blk rfl ?_
      exact p_iret (by first | exact Or.inl rfl | exact Or.inr rfl) (by first | (rw [show zrl x y = false by (unfold zrl; rw [show zcnt x = false from hc6]; rfl)]; rfl) | (have e1 : zcnt (nI p) = true := hc6; have e2 : zfits (nI p) y = zin y (nI 0) (nI (z22 p - 1)) := (by unfold zfits zin; rw [nI_clamp (by omega), decide_eq_true (nI_pos (by omega)), decide_eq_true (show ¬ nI 3 < nI p from nI_nlt (by omega) (by decide))]; rfl); unfold zrl; rw [e1, e2, hc20]; rfl)) rfl
    · skip
      refine p_iconst (v := nI 1) (by decide) ?_
      refine p_goto (tgt := 28) (by decide) ?_
      refine zK.blk rfl ?_
      exact p_iret (by first | exact Or.inl rfl | exact Or.inr rfl) (by first | (rw [show zrl x y = false by (unfold zrl; rw [show zcnt x = false from hc6]; rfl)]; rfl) | (have e1 : zcnt (nI p) = true := hc6; have e2 : zfits (nI p) y = zin y (nI 0) (nI (z22 p - 1)) := (by unfold zfits zin; rw [nI_clamp (by omega), decide_eq_true (nI_pos (by omega)), decide_eq_true (show ¬ nI 3 < nI p from nI_nlt (by omega) (by decide))]; rfl); unfold zrl; rw [e1, e2, hc20]; rfl)) rfl
theorem mkN_lt {p t m rows : Nat} (hm : m < 4) : mkN p t m rows < 2 ^ 8 := by
  have h8 : 2 ^ m ≤ 8 := by rcases (show m = 0 ∨ m = 1 ∨ m = 2 ∨ m = 3 by omega) with rfl | rfl | rfl | rfl <;> decide
  unfold mkN
  refine zor_lt (fun a => ?_) _ _
  unfold mkN1
  refine zor_lt (fun b => ?_) _ _
  unfold mkN2
  refine zor_lt (fun c => ?_) _ _
  unfold mkG
  split
  · exact z1_lt (by have := toN_lt t m a b c; omega)
  · decide
def leF (P T : Nat → Nat) (q rows i v : Nat) : Nat := if apF P T q rows i = true then v ||| 1 <<< i else v ||| 0
def leN (P T : Nat → Nat) (n q rows : Nat) : Nat := zfor (leF P T q rows) n 0 0
set_option maxRecDepth 100000 in
set_option maxHeartbeats 4000000 in
theorem c_118 {sc : Nat × (Nat → Int32)} {d : Nat} {M : zM} {n : Nat} {P T K : Nat → Nat} {i q rows : Nat} (hsm : sgM M n P T K) (hi : i < n) (hq : q < 4) (hro : rows < 2 ^ 31) : zC 47 sc (d + 3) 118 [.ref 33, .int (nI i), .int (nI q), .int (nI rows)] M (some (.int (zB (apF P T q rows i)))) (M) := by
  obtain ⟨hth, hm, hn6, hR, hT⟩ := hsm
  have hP := hR i hi
  have ht := mkN_lt (p := P i) (t := T i) (rows := rows) hq
  have ha : mkN (P i) (T i) q rows &&& (rows ^^^ zFF) < 2 ^ 31 := zand_lt (by omega)
  have hz := z22_lt hP.1
  unfold apF ltB
  rw [tr_mk hP.1 hP.2.1 hq]
  refine z_enter (L := [.ref 33, .int (nI i), .int (nI q), .int (nI rows)]) rfl rfl rfl ?_
  refine zK.blk rfl ?_
  refine p_aloadn_0 ?_
  refine p_getr rfl rfl ?_
  refine p_iloadn_1 ?_
  refine p_iald rfl (by omega) (by decide) ((hT _ (by omega)).1) ?_
  refine p_aloadn_0 ?_
  refine p_getr rfl rfl ?_
  refine p_iloadn_1 ?_
  refine p_iald rfl (by omega) (by decide) ((hT _ (by omega)).2.1) ?_
  refine p_iloadn_2 ?_
  refine p_iloadn_3 ?_
  refine p_cs4i rfl rfl rfl rfl rfl (c_117 hP.1 (by omega) hq hro) ?_
  refine p_iloadn_3 ?_
  refine p_iconst (v := nI zFF) (by decide) ?_
  refine p_ixorN ?_
  refine p_iandN ?_
  refine p_ifN_ne (tgt := 28) (by decide) (by omega) (fun hc21 => ?_) (fun hc21 => ?_)
  · skip
    refine zK.blk rfl ?_
    refine p_iconst (v := nI 0) (by decide) ?_
    refine zK.blk rfl ?_
    exact p_iret (by first | exact Or.inl rfl | exact Or.inr rfl) (by first | rw [decide_eq_true (by omega)]; rfl | rw [decide_eq_false (by omega)]; rfl) rfl
  · skip
    refine p_iconst (v := nI 1) (by decide) ?_
    refine p_goto (tgt := 29) (by decide) ?_
    refine zK.blk rfl ?_
    exact p_iret (by first | exact Or.inl rfl | exact Or.inr rfl) (by first | rw [decide_eq_true (by omega)]; rfl | rw [decide_eq_false (by omega)]; rfl) rfl
set_option maxRecDepth 100000 in
set_option maxHeartbeats 4000000 in
theorem lp_120_5 {sc : Nat × (Nat → Int32)} {d : Nat} {M : zM} {r : Option Value} {M' : zM} {n : Nat} {P T K : Nat → Nat} {q rows : Nat} (hsm : sgM M n P T K) (hq : q < 4) (hro : rows < 2 ^ 31) : ∀ (j i v : Nat), i + j = n → zK 47 sc (zC 47 sc (d + 3)) 120 r M' 42 [.ref 33, .int (nI q), .int (nI rows), .int (nI (zfor (leF P T q rows) j i v)), .int (nI n)] [] (M) → zK 47 sc (zC 47 sc (d + 3)) 120 r M' 5 [.ref 33, .int (nI q), .int (nI rows), .int (nI v), .int (nI i)] [] (M) := by
  intro j
  induction j with
  | zero =>
    intro i v  hj hk
    obtain rfl : i = n := by omega
    obtain ⟨hth, hm, hn6, hR, hT⟩ := hsm
    refine zK.blk rfl ?_
    refine p_iload_4 ?_
    refine p_aloadn_0 ?_
    refine p_geti rfl rfl (hm) ?_
    refine p_icmpN_ge (tgt := 42) (by decide) (by omega) (by omega) (fun hc11 => ?_) (fun hc11 => ?_)
    · skip
      exact hk
    · skip
      exact absurd hc11 (by omega) --STOP
  | succ j ih =>
    intro i v  hj hk
    have hsm2 := hsm
    obtain ⟨hth, hm, hn6, hR, hT⟩ := hsm
    refine zK.blk rfl ?_
    refine p_iload_4 ?_
    refine p_aloadn_0 ?_
    refine p_geti rfl rfl (hm) ?_
    refine p_icmpN_ge (tgt := 42) (by decide) (by omega) (by omega) (fun hc11 => ?_) (fun hc11 => ?_)
    · skip
      exact absurd hc11 (by omega) --STOP
    · skip
      refine p_iloadn_3 ?_
      refine p_aloadn_0 ?_
      refine p_iload_4 ?_
      refine p_iloadn_1 ?_
      refine p_iloadn_2 ?_
      refine p_cv3i rfl rfl rfl rfl rfl (c_118 hsm2 (by omega) hq hro) ?_
      refine p_ifB_eq (tgt := 33) (by decide) (fun hc23 => ?_) (fun hc23 => ?_)
      · skip
        rw [zfor_step (f := leF P T q rows) (a' := v ||| 0) (by unfold leF; rw [hc23, if_neg (by decide)])] at hk
        refine zK.blk rfl ?_
        refine p_iconst (v := nI 0) (by decide) ?_
        refine zK.blk rfl ?_
        refine p_iorN ?_
        refine p_istoren_3 rfl ?_
        refine p_iinc_4 (zN_inc _ 1) rfl ?_
        refine p_goto (tgt := 5) (by decide) ?_
        exact ih _ _ (by omega) hk
      · skip
        rw [zfor_step (f := leF P T q rows) (a' := v ||| 1 <<< i) (by unfold leF; rw [hc23, if_pos rfl])] at hk
        refine p_iconst (v := nI 1) (by decide) ?_
        refine p_iload_4 ?_
        refine p_ishlN (by omega) ?_
        refine p_goto (tgt := 34) (by decide) ?_
        refine zK.blk rfl ?_
        refine p_iorN ?_
        refine p_istoren_3 rfl ?_
        refine p_iinc_4 (zN_inc _ 1) rfl ?_
        refine p_goto (tgt := 5) (by decide) ?_
        exact ih _ _ (by omega) hk
set_option maxRecDepth 100000 in
set_option maxHeartbeats 4000000 in
theorem c_120 {sc : Nat × (Nat → Int32)} {d : Nat} {M : zM} {n : Nat} {P T K : Nat → Nat} {q rows : Nat} (hsm : sgM M n P T K) (hq : q < 4) (hro : rows < 2 ^ 31) : zC 47 sc (d + 4) 120 [.ref 33, .int (nI q), .int (nI rows)] M (some (.int (nI (leN P T n q rows)))) (M) := by
  refine z_enter (L := [.ref 33, .int (nI q), .int (nI rows), .null, .null]) rfl rfl rfl ?_
  refine zK.blk rfl ?_
  refine p_iconst (v := nI 0) (by decide) ?_
  refine p_istoren_3 rfl ?_
  refine p_iconst (v := nI 0) (by decide) ?_
  refine p_istore_4 rfl ?_
  refine lp_120_5 hsm hq hro n 0 0 (by omega) ?_
  refine zK.blk rfl ?_
  refine p_iloadn_3 ?_
  exact p_iret trivial rfl rfl
