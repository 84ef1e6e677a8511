/-- the reference's judge: values V, costs C, depths E -/
def jdM (M : zM) (V C E : Nat → Nat) : zM := fun a b => if a = 44 then nI (V b) else if a = 45 then nI (C b) else if a = 46 then nI (E b) else M a b
theorem jd_44 {M : zM} {V C E : Nat → Nat} (k x : Nat) : zup (jdM M V C E) 44 k (nI x) = jdM M (fn V k x) C E := by
  funext a b
  unfold zup jdM fn
  by_cases h : a = 44
  · subst h
    by_cases h2 : b = k
    · simp [h2]
    · simp [h2]
  · simp [h]
theorem jd_45 {M : zM} {V C E : Nat → Nat} (k x : Nat) : zup (jdM M V C E) 45 k (nI x) = jdM M V (fn C k x) E := by
  funext a b
  unfold zup jdM fn
  by_cases h : a = 45
  · subst h
    by_cases h2 : b = k
    · simp [h2]
    · simp [h2]
  · simp [h]
theorem jd_46 {M : zM} {V C E : Nat → Nat} (k x : Nat) : zup (jdM M V C E) 46 k (nI x) = jdM M V C (fn E k x) := by
  funext a b
  unfold zup jdM fn
  by_cases h : a = 46
  · subst h
    by_cases h2 : b = k
    · simp [h2]
    · simp [h2]
  · simp [h]
theorem jd_id (M : zM) : jdM M (fun b => zna (M 44 b)) (fun b => zna (M 45 b)) (fun b => zna (M 46 b)) = M := by
  funext a b
  unfold jdM
  simp only [zna_nI]
  by_cases h1 : a = 44
  · simp [h1]
  · by_cases h2 : a = 45
    · simp [h2]
    · by_cases h3 : a = 46
      · simp [h3]
      · simp [h1, h2, h3]
theorem jd_sm {M : zM} {V C E : Nat → Nat} {n : Nat} {P T K : Nat → Nat} (h : sgM M n P T K) : sgM (jdM M V C E) n P T K := h
/-- the reference's formula i: le letters X -/
def foM (M : zM) (i le : Nat) (X : Nat → Nat) : Prop := M 40 i = nI le ∧ le ≤ 30 ∧ ∀ k, k < le → M 39 (30 * i + k) = nI (X k) ∧ X k < 256
theorem jd_fo {M : zM} {V C E : Nat → Nat} {i le : Nat} {X : Nat → Nat} (h : foM M i le X) : foM (jdM M V C E) i le X := h
def jcF (C : Nat → Nat) (h j s : Nat) : Nat := s + C (h + j)
def jeF (E : Nat → Nat) (h j s : Nat) : Nat := if E (h + j) ≤ s then s else E (h + j)
def jv (k n : Nat) (V : Nat → Nat) (h : Nat) : Nat := if k < n then V (h + k) else 0
def jdV (T : Nat) (V : Nat → Nat) (n h : Nat) : Nat := toN T (1 <<< 3) (jv 0 n V h) (jv 1 n V h) (jv 2 n V h)
def jdC (K : Nat) (C : Nat → Nat) (n h : Nat) : Nat := zfor (jcF C h) n 0 K
def jdE (E : Nat → Nat) (n h : Nat) : Nat := zfor (jeF E h) n 0 0
/-- letters t .. t + j - 1, from a stack of h -/
def jdR (P T K X : Nat → Nat) : Nat → Nat → Nat → (Nat → Nat) → (Nat → Nat) → (Nat → Nat) → (Nat → Nat) × (Nat → Nat) × (Nat → Nat)
  | 0, _, _, V, C, E => (V, C, E)
  | j + 1, t, h, V, C, E =>
    if 120 ≤ X t then jdR P T K X j (t + 1) (h + 1) (fn V h (plN 3 (X t - 120))) (fn C h 0) (fn E h 0)
    else jdR P T K X j (t + 1) (h - P (X t - 112) + 1) (fn V (h - P (X t - 112)) (jdV (T (X t - 112)) V (P (X t - 112)) (h - P (X t - 112)))) (fn C (h - P (X t - 112)) (jdC (K (X t - 112)) C (P (X t - 112)) (h - P (X t - 112)))) (fn E (h - P (X t - 112)) (jdE E (P (X t - 112)) (h - P (X t - 112)) + 1))
/-- the letters can be judged -/
def jdO (m : Nat) (P X : Nat → Nat) : Nat → Nat → Nat → Prop
  | 0, _, _ => True
  | j + 1, t, h => if 120 ≤ X t then X t ≤ 122 ∧ jdO m P X j (t + 1) (h + 1) else 112 ≤ X t ∧ X t < 112 + m ∧ P (X t - 112) ≤ h ∧ jdO m P X j (t + 1) (h - P (X t - 112) + 1)
theorem je_le {E : Nat → Nat} {h B : Nat} : ∀ n j s, (∀ k, j ≤ k → k < j + n → E (h + k) ≤ B) → s ≤ B → zfor (jeF E h) n j s ≤ B := by
  intro n
  induction n with
  | zero => intro j s _ hs; exact hs
  | succ n ih =>
    intro j s hE hs
    refine ih (j + 1) _ (fun k h1 h2 => hE k (by omega) (by omega)) ?_
    unfold jeF
    split
    · exact hs
    · exact hE j (by omega) (by omega)
theorem plN_3 : ∀ i, i < 3 → plN 3 i < 256 := by decide +kernel
set_option maxRecDepth 100000 in
set_option maxHeartbeats 4000000 in
theorem lp_129_105 {sc : Nat × (Nat → Int32)} {d : Nat} {M : zM} {r : Option Value} {M' : zM} {i h t c s n : Nat} {V C E : Nat → Nat} (hn : n < 4) (hh : h + n ≤ 31) (hE : ∀ q, 0 ≤ q → q < n → E (h + q) ≤ 100) : ∀ (j q su de : Nat), q + j = n → de ≤ 100 → zK 47 sc (zC 47 sc (d + 1)) 129 r M' 162 [.ref 33, .int (nI i), .int (nI h), .int (nI t), .int (nI c), .int (nI s), .int (nI n), .int (nI (zfor (jcF C h) j q su)), .int (nI (zfor (jeF E h) j q de)), .int (nI n)] [] (jdM M V C E) → zK 47 sc (zC 47 sc (d + 1)) 129 r M' 105 [.ref 33, .int (nI i), .int (nI h), .int (nI t), .int (nI c), .int (nI s), .int (nI n), .int (nI su), .int (nI de), .int (nI q)] [] (jdM M V C E) := by
  intro j
  induction j with
  | zero =>
    intro q su de hj hde hk
    have hin : q = n := by omega
    subst hin
    refine zK.blk rfl ?_
    refine p_iload_9 ?_
    refine p_iload_6 ?_
    refine p_icmpN_ge (tgt := 162) (by decide) (by omega) (by omega) (fun hc109 => ?_) (fun hc109 => ?_)
    · skip
      exact hk
    · skip
      exact absurd hc109 (by omega) --STOP
  | succ j ih =>
    intro q su de hj hde hk
    have hEq := hE q (by omega) (by omega)
    refine zK.blk rfl ?_
    refine p_iload_9 ?_
    refine p_iload_6 ?_
    refine p_icmpN_ge (tgt := 162) (by decide) (by omega) (by omega) (fun hc109 => ?_) (fun hc109 => ?_)
    · skip
      exact absurd hc109 (by omega) --STOP
    · skip
      refine p_iload_7 ?_
      refine p_aloadn_0 ?_
      refine p_getr rfl rfl ?_
      refine p_iloadn_2 ?_
      refine p_iload_9 ?_
      refine p_iaddN ?_
      refine p_iald (v := nI (C (h + q))) rfl (by omega) (by decide) rfl ?_
      refine p_iaddN ?_
      refine p_istore_7 rfl ?_
      refine p_aloadn_0 ?_
      refine p_getr rfl rfl ?_
      refine p_iloadn_2 ?_
      refine p_iload_9 ?_
      refine p_iaddN ?_
      refine p_iald (v := nI (E (h + q))) rfl (by omega) (by decide) rfl ?_
      refine p_iload_8 ?_
      refine p_icmpN_le (tgt := 152) (by decide) (by omega) (by omega) (fun hc137 => ?_) (fun hc137 => ?_)
      · skip
        rw [zfor_step (f := jcF C h) (a' := su + C (h + q)) rfl, zfor_step (f := jeF E h) (a' := de) (if_pos hc137)] at hk
        refine zK.blk rfl ?_
        refine p_iload_8 ?_
        refine zK.blk rfl ?_
        refine p_istore_8 rfl ?_
        refine p_iinc_9 (zN_inc _ 1) rfl ?_
        refine p_goto (tgt := 105) (by decide) ?_
        exact ih (q + 1) _ _ (by omega) (by first | assumption | (have := hE q (by omega) (by omega); omega)) hk
      · skip
        rw [zfor_step (f := jcF C h) (a' := su + C (h + q)) rfl, zfor_step (f := jeF E h) (a' := E (h + q)) (if_neg hc137)] at hk
        refine p_aloadn_0 ?_
        refine p_getr rfl rfl ?_
        refine p_iloadn_2 ?_
        refine p_iload_9 ?_
        refine p_iaddN ?_
        refine p_iald (v := nI (E (h + q))) rfl (by omega) (by decide) rfl ?_
        refine p_goto (tgt := 154) (by decide) ?_
        refine zK.blk rfl ?_
        refine p_istore_8 rfl ?_
        refine p_iinc_9 (zN_inc _ 1) rfl ?_
        refine p_goto (tgt := 105) (by decide) ?_
        exact ih (q + 1) _ _ (by omega) (by first | assumption | (have := hE q (by omega) (by omega); omega)) hk
set_option maxRecDepth 100000 in
set_option maxHeartbeats 4000000 in
theorem st_129_162 {sc : Nat × (Nat → Int32)} {d : Nat} {M : zM} {r : Option Value} {M' : zM} {i h t c s n su de : Nat} {T V C E : Nat → Nat} (hs : s < 6) (hn : n < 4) (hh : h + n ≤ 31) (hTs : M 35 s = nI (T s)) (hT : T s < 2 ^ 31) (hV : ∀ q, q < n → V (h + q) < 256) (hk : zK 47 sc (zC 47 sc (d + 1)) 129 r M' 247 [.ref 33, .int (nI i), .int (nI (h + 1)), .int (nI t), .int (nI c), .int (nI s), .int (nI n), .int (nI su), .int (nI de), .int (nI n)] [] (jdM M (fn V h (jdV (T s) V n h)) (fn C h su) (fn E h (de + 1)))) : zK 47 sc (zC 47 sc (d + 1)) 129 r M' 162 [.ref 33, .int (nI i), .int (nI h), .int (nI t), .int (nI c), .int (nI s), .int (nI n), .int (nI su), .int (nI de), .int (nI n)] [] (jdM M V C E) := by
  have hz0 : h + 0 = h := rfl
  refine zK.blk rfl ?_
  refine p_aloadn_0 ?_
  refine p_getr rfl rfl ?_
  refine p_iloadn_2 ?_
  refine p_aloadn_0 ?_
  refine p_iload_5 ?_
  refine p_iconst (v := nI 3) (by decide) ?_
  refine p_iload_6 ?_
  refine p_ifN_le (tgt := 185) (by decide) (by omega) (fun hc173 => ?_) (fun hc173 => ?_)
  · skip
    have e0 : jv 0 n V h = 0 := if_neg (by omega)
    refine zK.blk rfl ?_
    refine p_iconst (v := nI 0) (by decide) ?_
    refine zK.blk rfl ?_
    refine p_iload_6 ?_
    refine p_iconst (v := nI 1) (by decide) ?_
    refine p_icmpN_le (tgt := 203) (by decide) (by omega) (by omega) (fun hc189 => ?_) (fun hc189 => ?_)
    · skip
      have e1 : jv 1 n V h = 0 := if_neg (by omega)
      refine zK.blk rfl ?_
      refine p_iconst (v := nI 0) (by decide) ?_
      refine zK.blk rfl ?_
      refine p_iload_6 ?_
      refine p_iconst (v := nI 2) (by decide) ?_
      refine p_icmpN_le (tgt := 221) (by decide) (by omega) (by omega) (fun hc207 => ?_) (fun hc207 => ?_)
      · skip
        have e2 : jv 2 n V h = 0 := if_neg (by omega)
        refine zK.blk rfl ?_
        refine p_iconst (v := nI 0) (by decide) ?_
        refine zK.blk rfl ?_
        refine p_cv5i rfl rfl rfl rfl rfl (c_98 (by decide) (by omega) hTs (by omega) (by first | decide | (have := hV 0 (by omega); omega)) (by first | decide | (have := hV 1 (by omega); omega)) (by first | decide | (have := hV 2 (by omega); omega))) ?_
        unfold jdV at hk
        rw [e0, e1, e2] at hk
        refine p_iast rfl (by omega) (by decide) ?_
        rw [jd_44]
        refine p_aloadn_0 ?_
        refine p_getr rfl rfl ?_
        refine p_iloadn_2 ?_
        refine p_iload_7 ?_
        refine p_iast rfl (by omega) (by decide) ?_
        rw [jd_45]
        refine p_aloadn_0 ?_
        refine p_getr rfl rfl ?_
        refine p_iloadn_2 ?_
        refine p_iload_8 ?_
        refine p_iconst (v := nI 1) (by decide) ?_
        refine p_iaddN ?_
        refine p_iast rfl (by omega) (by decide) ?_
        rw [jd_46]
        refine p_iinc_2 (zN_inc _ 1) rfl ?_
        exact hk
      · skip
        have e2 : jv 2 n V h = V (h + 2) := if_pos (by omega)
        refine p_aloadn_0 ?_
        refine p_getr rfl rfl ?_
        refine p_iloadn_2 ?_
        refine p_iconst (v := nI 2) (by decide) ?_
        refine p_iaddN ?_
        refine p_iald (v := nI (V (h + 2))) rfl (by omega) (by decide) rfl ?_
        refine p_goto (tgt := 222) (by decide) ?_
        refine zK.blk rfl ?_
        refine p_cv5i rfl rfl rfl rfl rfl (c_98 (by decide) (by omega) hTs (by omega) (by first | decide | (have := hV 0 (by omega); omega)) (by first | decide | (have := hV 1 (by omega); omega)) (by first | decide | (have := hV 2 (by omega); omega))) ?_
        unfold jdV at hk
        rw [e0, e1, e2] at hk
        refine p_iast rfl (by omega) (by decide) ?_
        rw [jd_44]
        refine p_aloadn_0 ?_
        refine p_getr rfl rfl ?_
        refine p_iloadn_2 ?_
        refine p_iload_7 ?_
        refine p_iast rfl (by omega) (by decide) ?_
        rw [jd_45]
        refine p_aloadn_0 ?_
        refine p_getr rfl rfl ?_
        refine p_iloadn_2 ?_
        refine p_iload_8 ?_
        refine p_iconst (v := nI 1) (by decide) ?_
        refine p_iaddN ?_
        refine p_iast rfl (by omega) (by decide) ?_
        rw [jd_46]
        refine p_iinc_2 (zN_inc _ 1) rfl ?_
        exact hk
    · skip
      have e1 : jv 1 n V h = V (h + 1) := if_pos (by omega)
      refine p_aloadn_0 ?_
      refine p_getr rfl rfl ?_
      refine p_iloadn_2 ?_
      refine p_iconst (v := nI 1) (by decide) ?_
      refine p_iaddN ?_
      refine p_iald (v := nI (V (h + 1))) rfl (by omega) (by decide) rfl ?_
      refine p_goto (tgt := 204) (by decide) ?_
      refine zK.blk rfl ?_
      refine p_iload_6 ?_
      refine p_iconst (v := nI 2) (by decide) ?_
      refine p_icmpN_le (tgt := 221) (by decide) (by omega) (by omega) (fun hc207 => ?_) (fun hc207 => ?_)
      · skip
        have e2 : jv 2 n V h = 0 := if_neg (by omega)
        refine zK.blk rfl ?_
        refine p_iconst (v := nI 0) (by decide) ?_
        refine zK.blk rfl ?_
        refine p_cv5i rfl rfl rfl rfl rfl (c_98 (by decide) (by omega) hTs (by omega) (by first | decide | (have := hV 0 (by omega); omega)) (by first | decide | (have := hV 1 (by omega); omega)) (by first | decide | (have := hV 2 (by omega); omega))) ?_
        unfold jdV at hk
        rw [e0, e1, e2] at hk
        refine p_iast rfl (by omega) (by decide) ?_
        rw [jd_44]
        refine p_aloadn_0 ?_
        refine p_getr rfl rfl ?_
        refine p_iloadn_2 ?_
        refine p_iload_7 ?_
        refine p_iast rfl (by omega) (by decide) ?_
        rw [jd_45]
        refine p_aloadn_0 ?_
        refine p_getr rfl rfl ?_
        refine p_iloadn_2 ?_
        refine p_iload_8 ?_
        refine p_iconst (v := nI 1) (by decide) ?_
        refine p_iaddN ?_
        refine p_iast rfl (by omega) (by decide) ?_
        rw [jd_46]
        refine p_iinc_2 (zN_inc _ 1) rfl ?_
        exact hk
      · skip
        have e2 : jv 2 n V h = V (h + 2) := if_pos (by omega)
        refine p_aloadn_0 ?_
        refine p_getr rfl rfl ?_
        refine p_iloadn_2 ?_
        refine p_iconst (v := nI 2) (by decide) ?_
        refine p_iaddN ?_
        refine p_iald (v := nI (V (h + 2))) rfl (by omega) (by decide) rfl ?_
        refine p_goto (tgt := 222) (by decide) ?_
        refine zK.blk rfl ?_
        refine p_cv5i rfl rfl rfl rfl rfl (c_98 (by decide) (by omega) hTs (by omega) (by first | decide | (have := hV 0 (by omega); omega)) (by first | decide | (have := hV 1 (by omega); omega)) (by first | decide | (have := hV 2 (by omega); omega))) ?_
        unfold jdV at hk
        rw [e0, e1, e2] at hk
        refine p_iast rfl (by omega) (by decide) ?_
        rw [jd_44]
        refine p_aloadn_0 ?_
        refine p_getr rfl rfl ?_
        refine p_iloadn_2 ?_
        refine p_iload_7 ?_
        refine p_iast rfl (by omega) (by decide) ?_
        rw [jd_45]
        refine p_aloadn_0 ?_
        refine p_getr rfl rfl ?_
        refine p_iloadn_2 ?_
        refine p_iload_8 ?_
        refine p_iconst (v := nI 1) (by decide) ?_
        refine p_iaddN ?_
        refine p_iast rfl (by omega) (by decide) ?_
        rw [jd_46]
        refine p_iinc_2 (zN_inc _ 1) rfl ?_
        exact hk
  · skip
    have e0 : jv 0 n V h = V (h + 0) := if_pos (by omega)
    refine p_aloadn_0 ?_
    refine p_getr rfl rfl ?_
    refine p_iloadn_2 ?_
    refine p_iald (v := nI (V (h + 0))) rfl (by omega) (by decide) rfl ?_
    refine p_goto (tgt := 186) (by decide) ?_
    refine zK.blk rfl ?_
    refine p_iload_6 ?_
    refine p_iconst (v := nI 1) (by decide) ?_
    refine p_icmpN_le (tgt := 203) (by decide) (by omega) (by omega) (fun hc189 => ?_) (fun hc189 => ?_)
    · skip
      have e1 : jv 1 n V h = 0 := if_neg (by omega)
      refine zK.blk rfl ?_
      refine p_iconst (v := nI 0) (by decide) ?_
      refine zK.blk rfl ?_
      refine p_iload_6 ?_
      refine p_iconst (v := nI 2) (by decide) ?_
      refine p_icmpN_le (tgt := 221) (by decide) (by omega) (by omega) (fun hc207 => ?_) (fun hc207 => ?_)
      · skip
        have e2 : jv 2 n V h = 0 := if_neg (by omega)
        refine zK.blk rfl ?_
        refine p_iconst (v := nI 0) (by decide) ?_
        refine zK.blk rfl ?_
        refine p_cv5i rfl rfl rfl rfl rfl (c_98 (by decide) (by omega) hTs (by omega) (by first | decide | (have := hV 0 (by omega); omega)) (by first | decide | (have := hV 1 (by omega); omega)) (by first | decide | (have := hV 2 (by omega); omega))) ?_
        unfold jdV at hk
        rw [e0, e1, e2] at hk
        refine p_iast rfl (by omega) (by decide) ?_
        rw [jd_44]
        refine p_aloadn_0 ?_
        refine p_getr rfl rfl ?_
        refine p_iloadn_2 ?_
        refine p_iload_7 ?_
        refine p_iast rfl (by omega) (by decide) ?_
        rw [jd_45]
        refine p_aloadn_0 ?_
        refine p_getr rfl rfl ?_
        refine p_iloadn_2 ?_
        refine p_iload_8 ?_
        refine p_iconst (v := nI 1) (by decide) ?_
        refine p_iaddN ?_
        refine p_iast rfl (by omega) (by decide) ?_
        rw [jd_46]
        refine p_iinc_2 (zN_inc _ 1) rfl ?_
        exact hk
      · skip
        have e2 : jv 2 n V h = V (h + 2) := if_pos (by omega)
        refine p_aloadn_0 ?_
        refine p_getr rfl rfl ?_
        refine p_iloadn_2 ?_
        refine p_iconst (v := nI 2) (by decide) ?_
        refine p_iaddN ?_
        refine p_iald (v := nI (V (h + 2))) rfl (by omega) (by decide) rfl ?_
        refine p_goto (tgt := 222) (by decide) ?_
        refine zK.blk rfl ?_
        refine p_cv5i rfl rfl rfl rfl rfl (c_98 (by decide) (by omega) hTs (by omega) (by first | decide | (have := hV 0 (by omega); omega)) (by first | decide | (have := hV 1 (by omega); omega)) (by first | decide | (have := hV 2 (by omega); omega))) ?_
        unfold jdV at hk
        rw [e0, e1, e2] at hk
        refine p_iast rfl (by omega) (by decide) ?_
        rw [jd_44]
        refine p_aloadn_0 ?_
        refine p_getr rfl rfl ?_
        refine p_iloadn_2 ?_
        refine p_iload_7 ?_
        refine p_iast rfl (by omega) (by decide) ?_
        rw [jd_45]
        refine p_aloadn_0 ?_
        refine p_getr rfl rfl ?_
        refine p_iloadn_2 ?_
        refine p_iload_8 ?_
        refine p_iconst (v := nI 1) (by decide) ?_
        refine p_iaddN ?_
        refine p_iast rfl (by omega) (by decide) ?_
        rw [jd_46]
        refine p_iinc_2 (zN_inc _ 1) rfl ?_
        exact hk
    · skip
      have e1 : jv 1 n V h = V (h + 1) := if_pos (by omega)
      refine p_aloadn_0 ?_
      refine p_getr rfl rfl ?_
      refine p_iloadn_2 ?_
      refine p_iconst (v := nI 1) (by decide) ?_
      refine p_iaddN ?_
      refine p_iald (v := nI (V (h + 1))) rfl (by omega) (by decide) rfl ?_
      refine p_goto (tgt := 204) (by decide) ?_
      refine zK.blk rfl ?_
      refine p_iload_6 ?_
      refine p_iconst (v := nI 2) (by decide) ?_
      refine p_icmpN_le (tgt := 221) (by decide) (by omega) (by omega) (fun hc207 => ?_) (fun hc207 => ?_)
      · skip
        have e2 : jv 2 n V h = 0 := if_neg (by omega)
        refine zK.blk rfl ?_
        refine p_iconst (v := nI 0) (by decide) ?_
        refine zK.blk rfl ?_
        refine p_cv5i rfl rfl rfl rfl rfl (c_98 (by decide) (by omega) hTs (by omega) (by first | decide | (have := hV 0 (by omega); omega)) (by first | decide | (have := hV 1 (by omega); omega)) (by first | decide | (have := hV 2 (by omega); omega))) ?_
        unfold jdV at hk
        rw [e0, e1, e2] at hk
        refine p_iast rfl (by omega) (by decide) ?_
        rw [jd_44]
        refine p_aloadn_0 ?_
        refine p_getr rfl rfl ?_
        refine p_iloadn_2 ?_
        refine p_iload_7 ?_
        refine p_iast rfl (by omega) (by decide) ?_
        rw [jd_45]
        refine p_aloadn_0 ?_
        refine p_getr rfl rfl ?_
        refine p_iloadn_2 ?_
        refine p_iload_8 ?_
        refine p_iconst (v := nI 1) (by decide) ?_
        refine p_iaddN ?_
        refine p_iast rfl (by omega) (by decide) ?_
        rw [jd_46]
        refine p_iinc_2 (zN_inc _ 1) rfl ?_
        exact hk
      · skip
        have e2 : jv 2 n V h = V (h + 2) := if_pos (by omega)
        refine p_aloadn_0 ?_
        refine p_getr rfl rfl ?_
        refine p_iloadn_2 ?_
        refine p_iconst (v := nI 2) (by decide) ?_
        refine p_iaddN ?_
        refine p_iald (v := nI (V (h + 2))) rfl (by omega) (by decide) rfl ?_
        refine p_goto (tgt := 222) (by decide) ?_
        refine zK.blk rfl ?_
        refine p_cv5i rfl rfl rfl rfl rfl (c_98 (by decide) (by omega) hTs (by omega) (by first | decide | (have := hV 0 (by omega); omega)) (by first | decide | (have := hV 1 (by omega); omega)) (by first | decide | (have := hV 2 (by omega); omega))) ?_
        unfold jdV at hk
        rw [e0, e1, e2] at hk
        refine p_iast rfl (by omega) (by decide) ?_
        rw [jd_44]
        refine p_aloadn_0 ?_
        refine p_getr rfl rfl ?_
        refine p_iloadn_2 ?_
        refine p_iload_7 ?_
        refine p_iast rfl (by omega) (by decide) ?_
        rw [jd_45]
        refine p_aloadn_0 ?_
        refine p_getr rfl rfl ?_
        refine p_iloadn_2 ?_
        refine p_iload_8 ?_
        refine p_iconst (v := nI 1) (by decide) ?_
        refine p_iaddN ?_
        refine p_iast rfl (by omega) (by decide) ?_
        rw [jd_46]
        refine p_iinc_2 (zN_inc _ 1) rfl ?_
        exact hk
set_option maxRecDepth 100000 in
set_option maxHeartbeats 4000000 in
theorem lp_129_4 {sc : Nat × (Nat → Int32)} {d : Nat} {M : zM} {m i le : Nat} {P T K X : Nat → Nat} (hsm : sgM M m P T K) (hi : i < 4) (hfo : foM M i le X) : ∀ (j t h : Nat) (V C E : Nat → Nat), t + j = le → h ≤ t → (∀ k, k < h → V k < 256 ∧ E k ≤ t) → jdO m P X j t h → zK 47 sc (zC 47 sc (d + 1)) 129 none (jdM M (jdR P T K X j t h V C E).1 (jdR P T K X j t h V C E).2.1 (jdR P T K X j t h V C E).2.2) 4 [.ref 33, .int (nI i), .int (nI h), .int (nI t), .null, .null, .null, .null, .null, .null] [] (jdM M V C E) := by
  intro j
  induction j with
  | zero =>
    intro t h V C E hj hht hI hO
    have hin : t = le := by omega
    subst hin
    have hl30 := hfo.2.1
    refine zK.blk rfl ?_
    refine p_iloadn_3 ?_
    refine p_aloadn_0 ?_
    refine p_getr rfl rfl ?_
    refine p_iloadn_1 ?_
    refine p_iald rfl (by omega) (by decide) (hfo.1) ?_
    refine p_icmpN_ge (tgt := 253) (by decide) (by omega) (by omega) (fun hc11 => ?_) (fun hc11 => ?_)
    · skip
      refine zK.blk rfl ?_
      exact p_vret trivial rfl rfl
    · skip
      exact absurd hc11 (by omega) --STOP
  | succ j ih =>
    intro t h V C E hj hht hI hO
    have hl30 := hfo.2.1
    have hm6 := hsm.2.2.1
    have hX := hfo.2.2 t (by omega)
    refine zK.blk rfl ?_
    refine p_iloadn_3 ?_
    refine p_aloadn_0 ?_
    refine p_getr rfl rfl ?_
    refine p_iloadn_1 ?_
    refine p_iald rfl (by omega) (by decide) (hfo.1) ?_
    refine p_icmpN_ge (tgt := 253) (by decide) (by omega) (by omega) (fun hc11 => ?_) (fun hc11 => ?_)
    · skip
      exact absurd hc11 (by omega) --STOP
    · skip
      refine p_aloadn_0 ?_
      refine p_getr rfl rfl ?_
      refine p_bipush (v := nI 30) (by decide) ?_
      refine p_iloadn_1 ?_
      refine p_imulN ?_
      refine p_iloadn_3 ?_
      refine p_iaddN ?_
      refine p_iald (v := nI (X t)) rfl (by omega) (by decide) hX.1 ?_
      refine p_istore_4 rfl ?_
      refine p_iload_4 ?_
      refine p_bipush (v := nI 120) (by decide) ?_
      refine p_icmpN_lt (tgt := 69) (by decide) (by omega) (by omega) (fun hc31 => ?_) (fun hc31 => ?_)
      · skip
        have hO2 : 112 ≤ X t ∧ X t < 112 + m ∧ P (X t - 112) ≤ h ∧ jdO m P X j (t + 1) (h - P (X t - 112) + 1) := by
          have h1 : jdO m P X (j + 1) t h = if 120 ≤ X t then X t ≤ 122 ∧ jdO m P X j (t + 1) (h + 1) else 112 ≤ X t ∧ X t < 112 + m ∧ P (X t - 112) ≤ h ∧ jdO m P X j (t + 1) (h - P (X t - 112) + 1) := rfl
          rw [h1, if_neg (by omega)] at hO
          exact hO
        obtain ⟨o1, o2, o3, o4⟩ := hO2
        have hPs := hsm.2.2.2.1 (X t - 112) (by omega)
        have hTz := z22_lt hPs.1
        rw [show jdR P T K X (j + 1) t h V C E = jdR P T K X j (t + 1) (h - P (X t - 112) + 1) (fn V (h - P (X t - 112)) (jdV (T (X t - 112)) V (P (X t - 112)) (h - P (X t - 112)))) (fn C (h - P (X t - 112)) (jdC (K (X t - 112)) C (P (X t - 112)) (h - P (X t - 112)))) (fn E (h - P (X t - 112)) (jdE E (P (X t - 112)) (h - P (X t - 112)) + 1)) from if_neg (by omega)]
        refine zK.blk rfl ?_
        refine p_iload_4 ?_
        refine p_bipush (v := nI 112) (by decide) ?_
        refine p_isubN (by omega) ?_
        refine p_istore_5 rfl ?_
        refine p_aloadn_0 ?_
        refine p_getr rfl rfl ?_
        refine p_iload_5 ?_
        refine p_iald (v := nI (P (X t - 112))) rfl (by omega) (by decide) (hsm.2.2.2.2 _ (by omega)).1 ?_
        refine p_istore_6 rfl ?_
        refine p_iloadn_2 ?_
        refine p_iload_6 ?_
        refine p_isubN (by omega) ?_
        refine p_istoren_2 rfl ?_
        refine p_aloadn_0 ?_
        refine p_getr rfl rfl ?_
        refine p_iload_5 ?_
        refine p_iald (v := nI (K (X t - 112))) rfl (by omega) (by decide) (hsm.2.2.2.2 _ (by omega)).2.2 ?_
        refine p_istore_7 rfl ?_
        refine p_iconst (v := nI 0) (by decide) ?_
        refine p_istore_8 rfl ?_
        refine p_iconst (v := nI 0) (by decide) ?_
        refine p_istore_9 rfl ?_
        have hEb : jdE E (P (X t - 112)) (h - P (X t - 112)) ≤ t := je_le _ 0 0 (fun k _ hk => (hI _ (by omega)).2) (Nat.zero_le _)
        refine lp_129_105 hPs.1 (by omega) (fun q _ hq => by have := hI (h - P (X t - 112) + q) (by omega); omega) (P (X t - 112)) 0 _ _ (by omega) (by omega) ?_
        refine st_129_162 (T := T) (by omega) hPs.1 (by omega) (hsm.2.2.2.2 _ (by omega)).2.1 (by omega) (fun q hq => (hI _ (by omega)).1) ?_
        refine zK.blk rfl ?_
        refine p_iinc_3 (zN_inc _ 1) rfl ?_
        refine p_goto (tgt := 4) (by decide) ?_
        refine zK.forget _ ?_ (ih (t + 1) (h - P (X t - 112) + 1) _ _ _ (by omega) (by omega) (fun k hk => ?_) o4)
        · exact ⟨Or.inl rfl, Or.inl rfl, Or.inl rfl, Or.inl rfl, Or.inr rfl, Or.inr rfl, Or.inr rfl, Or.inr rfl, Or.inr rfl, Or.inr rfl, trivial⟩
        · show (if k = h - P (X t - 112) then jdV (T (X t - 112)) V (P (X t - 112)) (h - P (X t - 112)) else V k) < 256 ∧ (if k = h - P (X t - 112) then jdE E (P (X t - 112)) (h - P (X t - 112)) + 1 else E k) ≤ t + 1
          by_cases e : k = h - P (X t - 112)
          · rw [if_pos e, if_pos e]; exact ⟨zt_256 (by decide), by omega⟩
          · rw [if_neg e, if_neg e]; have := hI k (by omega); omega
      · skip
        have hO2 : X t ≤ 122 ∧ jdO m P X j (t + 1) (h + 1) := by
          have h1 : jdO m P X (j + 1) t h = if 120 ≤ X t then X t ≤ 122 ∧ jdO m P X j (t + 1) (h + 1) else 112 ≤ X t ∧ X t < 112 + m ∧ P (X t - 112) ≤ h ∧ jdO m P X j (t + 1) (h - P (X t - 112) + 1) := rfl
          rw [h1, if_pos (by omega)] at hO
          exact hO
        obtain ⟨o1, o4⟩ := hO2
        rw [show jdR P T K X (j + 1) t h V C E = jdR P T K X j (t + 1) (h + 1) (fn V h (plN 3 (X t - 120))) (fn C h 0) (fn E h 0) from if_pos (by omega)]
        refine p_aloadn_0 ?_
        refine p_getr rfl rfl ?_
        refine p_iloadn_2 ?_
        refine p_iconst (v := nI 3) (by decide) ?_
        refine p_iload_4 ?_
        refine p_bipush (v := nI 120) (by decide) ?_
        refine p_isubN (by omega) ?_
        refine p_cs2i rfl rfl rfl rfl rfl (c_99 (by decide) (by omega)) ?_
        refine p_iast rfl (by omega) (by decide) ?_
        rw [jd_44]
        refine p_aloadn_0 ?_
        refine p_getr rfl rfl ?_
        refine p_iloadn_2 ?_
        refine p_iconst (v := nI 0) (by decide) ?_
        refine p_iast rfl (by omega) (by decide) ?_
        rw [jd_45]
        refine p_aloadn_0 ?_
        refine p_getr rfl rfl ?_
        refine p_iloadn_2 ?_
        refine p_iconst (v := nI 0) (by decide) ?_
        refine p_iast rfl (by omega) (by decide) ?_
        rw [jd_46]
        refine p_iinc_2 (zN_inc _ 1) rfl ?_
        refine p_goto (tgt := 247) (by decide) ?_
        refine zK.blk rfl ?_
        refine p_iinc_3 (zN_inc _ 1) rfl ?_
        refine p_goto (tgt := 4) (by decide) ?_
        refine zK.forget _ ?_ (ih (t + 1) (h + 1) _ _ _ (by omega) (by omega) (fun k hk => ?_) o4)
        · exact ⟨Or.inl rfl, Or.inl rfl, Or.inl rfl, Or.inl rfl, Or.inr rfl, Or.inr rfl, Or.inr rfl, Or.inr rfl, Or.inr rfl, Or.inr rfl, trivial⟩
        · show (if k = h then plN 3 (X t - 120) else V k) < 256 ∧ (if k = h then 0 else E k) ≤ t + 1
          by_cases e : k = h
          · rw [if_pos e, if_pos e]; exact ⟨plN_3 _ (by omega), by omega⟩
          · rw [if_neg e, if_neg e]; have := hI k (by omega); omega
def jdW (M : zM) (P T K X : Nat → Nat) (le : Nat) : (Nat → Nat) × (Nat → Nat) × (Nat → Nat) := jdR P T K X le 0 0 (fun b => zna (M 44 b)) (fun b => zna (M 45 b)) (fun b => zna (M 46 b))
def jdQ (M : zM) (r : (Nat → Nat) × (Nat → Nat) × (Nat → Nat)) : zM := jdM M r.1 r.2.1 r.2.2
set_option maxRecDepth 100000 in
set_option maxHeartbeats 4000000 in
theorem c_129 {sc : Nat × (Nat → Int32)} {d : Nat} {M : zM} {m i le : Nat} {P T K X : Nat → Nat} (hsm : sgM M m P T K) (hi : i < 4) (hfo : foM M i le X) (hO : jdO m P X le 0 0) : zC 47 sc (d + 2) 129 [.ref 33, .int (nI i)] M (none) (jdQ M (jdW M P T K X le)) := by
  refine z_enter (L := [.ref 33, .int (nI i), .null, .null, .null, .null, .null, .null, .null, .null]) rfl rfl rfl ?_
  refine zK.blk rfl ?_
  refine p_iconst (v := nI 0) (by decide) ?_
  refine p_istoren_2 rfl ?_
  refine p_iconst (v := nI 0) (by decide) ?_
  refine p_istoren_3 rfl ?_
  have hlp := lp_129_4 (sc := sc) (d := d) hsm hi hfo le 0 0 (fun b => zna (M 44 b)) (fun b => zna (M 45 b)) (fun b => zna (M 46 b)) (by omega) (Nat.le_refl _) (fun k hk => absurd hk (by omega)) hO
  rw [jd_id] at hlp
  exact hlp
set_option maxRecDepth 100000 in
set_option maxHeartbeats 4000000 in
theorem c_132 {sc : Nat × (Nat → Int32)} {d : Nat} {M : zM} {m i le : Nat} {P T K X : Nat → Nat} (hsm : sgM M m P T K) (hi : i < 4) (hfo : foM M i le X) (hO : jdO m P X le 0 0) : zC 47 sc (d + 3) 132 [.ref 33, .int (nI i)] M (some (.int (nI ((jdW M P T K X le).1 0)))) (jdQ M (jdW M P T K X le)) := by
  refine z_enter (L := [.ref 33, .int (nI i)]) rfl rfl rfl ?_
  refine zK.blk rfl ?_
  refine p_aloadn_0 ?_
  refine p_iloadn_1 ?_
  refine p_cv1v rfl rfl rfl rfl rfl (c_129 hsm hi hfo hO) ?_
  refine p_aloadn_0 ?_
  refine p_getr rfl rfl ?_
  refine p_iconst (v := nI 0) (by decide) ?_
  refine p_iald (v := nI ((jdW M P T K X le).1 0)) rfl (by omega) (by decide) rfl ?_
  exact p_iret trivial rfl rfl
