/-- the reference's costs: the cell 37 holds f, all else is M's -/
def lsM (M : zM) (f : Nat → Int32) : zM := fun a b => if a = 37 then f b else M a b
def fu (f : Nat → Int32) (t : Nat) (x : Int32) : Nat → Int32 := fun b => if b = t then x else f b
theorem lsM_id (M : zM) : lsM M (M 37) = M := by
  funext a b
  unfold lsM
  split
  · rename_i h; rw [h]
  · rfl
theorem lsM_37 (M : zM) (f : Nat → Int32) (t : Nat) : lsM M f 37 t = f t := rfl
theorem lsM_ne {M : zM} {f : Nat → Int32} {a : Nat} (h : ¬ a = 37) (b : Nat) : lsM M f a b = M a b := if_neg h
theorem lsM_up (M : zM) (f : Nat → Int32) (t : Nat) (x : Int32) : zup (lsM M f) 37 t x = lsM M (fu f t x) := by
  funext a b
  unfold zup lsM fu
  split
  · split
    · rfl
    · rfl
  · rfl
theorem lsM_sm {M : zM} {f : Nat → Int32} {n : Nat} {P T K : Nat → Nat} (h : sgM M n P T K) : sgM (lsM M f) n P T K := h
/-- a part's cost, where the sign has it -/
def zx (k p : Nat) (f : Nat → Int32) (a : Nat) : Int32 := if k < p then f a else nI 0
def zfs (k p N : Nat) : Nat := if k < p then N else 1
/-- a join at t, of cost v -/
def fsT (t : Nat) (v : Int32) (s : (Nat → Int32) × Bool) : (Nat → Int32) × Bool :=
  if s.1 t = -9 ∨ v < s.1 t then (fu s.1 t v, true) else s
def fsZ (p T K n a b : Nat) (x y z : Int32) (c : Nat) (s : (Nat → Int32) × Bool) : (Nat → Int32) × Bool :=
  if z = -9 then s else fsT (toN T (1 <<< n) a b c) (nI K + x + y + z) s
def fsC (p T K n a b : Nat) (x y : Int32) (c : Nat) (s : (Nat → Int32) × Bool) : (Nat → Int32) × Bool :=
  fsZ p T K n a b x y (zx 2 p s.1 c) c s
def fsY (p T K n N a : Nat) (x y : Int32) (b : Nat) (s : (Nat → Int32) × Bool) : (Nat → Int32) × Bool :=
  if y = -9 then s else zfor (fsC p T K n a b x y) (zfs 2 p N) 0 s
def fsB (p T K n N a : Nat) (x : Int32) (b : Nat) (s : (Nat → Int32) × Bool) : (Nat → Int32) × Bool :=
  fsY p T K n N a x (zx 1 p s.1 b) b s
def fsX (p T K n N : Nat) (x : Int32) (a : Nat) (s : (Nat → Int32) × Bool) : (Nat → Int32) × Bool :=
  if x = -9 then s else zfor (fsB p T K n N a x) (zfs 1 p N) 0 s
def fsA (p T K n N a : Nat) (s : (Nat → Int32) × Bool) : (Nat → Int32) × Bool :=
  fsX p T K n N (zx 0 p s.1 a) a s
def fsI (P T K : Nat → Nat) (n N i : Nat) (s : (Nat → Int32) × Bool) : (Nat → Int32) × Bool :=
  zfor (fsA (P i) (T i) (K i) n N) (zfs 0 (P i) N) 0 s
/-- a sweep over all signs -/
def fsW (m : Nat) (P T K : Nat → Nat) (n N : Nat) (f : Nat → Int32) : (Nat → Int32) × Bool := zfor (fsI P T K n N) m 0 (f, false)
/-- sweeps until nothing changes: k at most -/
def fsR (m : Nat) (P T K : Nat → Nat) (n N : Nat) : Nat → (Nat → Int32) → (Nat → Int32)
  | 0, f => f
  | k + 1, f => if (fsW m P T K n N f).2 = true then fsR m P T K n N k (fsW m P T K n N f).1 else (fsW m P T K n N f).1
def fsOK (m : Nat) (P T K : Nat → Nat) (n N : Nat) : Nat → (Nat → Int32) → Prop
  | 0, _ => False
  | k + 1, f => (fsW m P T K n N f).2 = true → fsOK m P T K n N k (fsW m P T K n N f).1
def fi0 : Nat → Nat → (Nat → Int32) → (Nat → Int32)
  | 0, _, f => f
  | j + 1, i, f => fi0 j (i + 1) (fu f i (-9))
def fi1 (n : Nat) : Nat → Nat → (Nat → Int32) → (Nat → Int32)
  | 0, _, f => f
  | j + 1, i, f => fi1 n j (i + 1) (fu f (plN n i) (nI 0))
theorem zfs_le {k p N : Nat} (h1 : 1 ≤ N) (h2 : N ≤ 256) : zfs k p N ≤ 256 := by unfold zfs; split <;> omega
theorem zx_y {k p : Nat} {f : Nat → Int32} {a : Nat} (h : k < p) : zx k p f a = f a := if_pos h
theorem zx_n {k p : Nat} {f : Nat → Int32} {a : Nat} (h : p ≤ k) : zx k p f a = nI 0 := if_neg (by omega)
theorem zt_256 {t n a b c : Nat} (hn : n < 4) : toN t (1 <<< n) a b c < 256 := by
  have h := toN_lt t (1 <<< n) a b c
  rcases (show n = 0 ∨ n = 1 ∨ n = 2 ∨ n = 3 by omega) with rfl | rfl | rfl | rfl <;> exact Nat.lt_of_lt_of_le h (by decide)
set_option maxRecDepth 100000 in
set_option maxHeartbeats 4000000 in
theorem st_100_236 {sc : Nat × (Nat → Int32)} {d : Nat} {M : zM} {r : Option Value} {M' : zM} {m n N : Nat} {P T K : Nat → Nat} {i fi se th a b c : Nat} {x y z : Int32} {s : (Nat → Int32) × Bool} (hsm : sgM M m P T K) (hn : n < 4) (hN : N = z22 n) (hi : i < m) (ha : a < 256) (hb : b < 256) (hc : c < 256) (hk : zK 47 sc (zC 47 sc (d + 1)) 100 r M' 313 [.ref 33, .int (nI n), .int (nI N), .int (zB (fsZ (P i) (T i) (K i) n a b x y z c s).2), .int (nI i), .int (nI fi), .int (nI se), .int (nI th), .int (nI a), .int x, .int (nI b), .int y, .int (nI c), .null, .null, .null] [] (lsM M (fsZ (P i) (T i) (K i) n a b x y z c s).1)) : zK 47 sc (zC 47 sc (d + 1)) 100 r M' 236 [.ref 33, .int (nI n), .int (nI N), .int (zB s.2), .int (nI i), .int (nI fi), .int (nI se), .int (nI th), .int (nI a), .int x, .int (nI b), .int y, .int (nI c), .null, .null, .null] [.int z] (lsM M s.1) := by
  have hP := hsm.2.2.2.1 i hi
  have hm6 := hsm.2.2.1
  have hz := z22_lt hn
  have hTz := z22_lt hP.1
  refine zK.blk rfl ?_
  refine p_istore_13 rfl ?_
  refine p_iload_13 ?_
  refine p_bipush (v := -9) (by decide) ?_
  refine p_icmp_eq (tgt := 313) (by decide) (fun hc242 => ?_) (fun hc242 => ?_)
  · skip
    rw [show fsZ (P i) (T i) (K i) n a b x y z c s = s from if_pos hc242] at hk
    refine zK.forget _ ?_ hk
    exact ⟨Or.inl rfl, Or.inl rfl, Or.inl rfl, Or.inl rfl, Or.inl rfl, Or.inl rfl, Or.inl rfl, Or.inl rfl, Or.inl rfl, Or.inl rfl, Or.inl rfl, Or.inl rfl, Or.inl rfl, Or.inr rfl, Or.inr rfl, Or.inr rfl, trivial⟩
  · skip
    have hz1 : fsZ (P i) (T i) (K i) n a b x y z c s = fsT (toN (T i) (1 <<< n) a b c) (nI (K i) + x + y + z) s := if_neg hc242
    have ht := zt_256 (t := T i) (a := a) (b := b) (c := c) hn
    refine p_aloadn_0 ?_
    refine p_iload_4 ?_
    refine p_iloadn_1 ?_
    refine p_iload_8 ?_
    refine p_iload_10 ?_
    refine p_iload_12 ?_
    refine p_cv5i rfl rfl rfl rfl rfl (c_98 hn (by omega) (hsm.2.2.2.2 i hi).2.1 (by omega) (by omega) (by omega) (by omega)) ?_
    refine p_istore_14 rfl ?_
    refine p_aloadn_0 ?_
    refine p_getr rfl rfl ?_
    refine p_iload_4 ?_
    refine p_iald (v := nI (K i)) rfl (by omega) (by decide) (hsm.2.2.2.2 i hi).2.2 ?_
    refine p_iload_9 ?_
    refine p_iadd ?_
    refine p_iload_11 ?_
    refine p_iadd ?_
    refine p_iload_13 ?_
    refine p_iadd ?_
    refine p_istore_15 rfl ?_
    refine p_aloadn_0 ?_
    refine p_getr rfl rfl ?_
    refine p_iload_14 ?_
    refine p_iald (v := s.1 (toN (T i) (1 <<< n) a b c)) rfl ht (by decide) rfl ?_
    refine p_bipush (v := -9) (by decide) ?_
    refine p_icmp_eq (tgt := 302) (by decide) (fun hc287 => ?_) (fun hc287 => ?_)
    · skip
      rw [hz1, show fsT (toN (T i) (1 <<< n) a b c) (nI (K i) + x + y + z) s = (fu s.1 (toN (T i) (1 <<< n) a b c) (nI (K i) + x + y + z), true) from if_pos (Or.inl hc287)] at hk
      refine zK.blk rfl ?_
      refine p_aloadn_0 ?_
      refine p_getr rfl rfl ?_
      refine p_iload_14 ?_
      refine p_iload_15 ?_
      refine p_iast rfl ht (by decide) ?_
      rw [lsM_up]
      refine p_iconst (v := nI 1) (by decide) ?_
      refine p_istoren_3 rfl ?_
      refine zK.forget _ ?_ hk
      exact ⟨Or.inl rfl, Or.inl rfl, Or.inl rfl, Or.inl rfl, Or.inl rfl, Or.inl rfl, Or.inl rfl, Or.inl rfl, Or.inl rfl, Or.inl rfl, Or.inl rfl, Or.inl rfl, Or.inl rfl, Or.inr rfl, Or.inr rfl, Or.inr rfl, trivial⟩
    · skip
      refine p_iload_15 ?_
      refine p_aloadn_0 ?_
      refine p_getr rfl rfl ?_
      refine p_iload_14 ?_
      refine p_iald (v := s.1 (toN (T i) (1 <<< n) a b c)) rfl ht (by decide) rfl ?_
      refine p_icmp_ge (tgt := 313) (by decide) (fun hc299 => ?_) (fun hc299 => ?_)
      · skip
        rw [hz1, show fsT (toN (T i) (1 <<< n) a b c) (nI (K i) + x + y + z) s = s from if_neg (fun h => h.elim hc287 (fun h => absurd h (Int32.not_lt.mpr hc299)))] at hk
        refine zK.forget _ ?_ hk
        exact ⟨Or.inl rfl, Or.inl rfl, Or.inl rfl, Or.inl rfl, Or.inl rfl, Or.inl rfl, Or.inl rfl, Or.inl rfl, Or.inl rfl, Or.inl rfl, Or.inl rfl, Or.inl rfl, Or.inl rfl, Or.inr rfl, Or.inr rfl, Or.inr rfl, trivial⟩
      · skip
        rw [hz1, show fsT (toN (T i) (1 <<< n) a b c) (nI (K i) + x + y + z) s = (fu s.1 (toN (T i) (1 <<< n) a b c) (nI (K i) + x + y + z), true) from if_pos (Or.inr (Int32.not_le.mp hc299))] at hk
        refine zK.blk rfl ?_
        refine p_aloadn_0 ?_
        refine p_getr rfl rfl ?_
        refine p_iload_14 ?_
        refine p_iload_15 ?_
        refine p_iast rfl ht (by decide) ?_
        rw [lsM_up]
        refine p_iconst (v := nI 1) (by decide) ?_
        refine p_istoren_3 rfl ?_
        refine zK.forget _ ?_ hk
        exact ⟨Or.inl rfl, Or.inl rfl, Or.inl rfl, Or.inl rfl, Or.inl rfl, Or.inl rfl, Or.inl rfl, Or.inl rfl, Or.inl rfl, Or.inl rfl, Or.inl rfl, Or.inl rfl, Or.inl rfl, Or.inr rfl, Or.inr rfl, Or.inr rfl, trivial⟩
set_option maxRecDepth 100000 in
set_option maxHeartbeats 4000000 in
theorem lp_100_200 {sc : Nat × (Nat → Int32)} {d : Nat} {M : zM} {r : Option Value} {M' : zM} {m n N : Nat} {P T K : Nat → Nat} {i fi se th a b : Nat} {x y : Int32} (hsm : sgM M m P T K) (hn : n < 4) (hN : N = z22 n) (hi : i < m) (ha : a < 256) (hb : b < 256) (hth : th ≤ 256) (hy : ¬ y = -9) : ∀ (j c : Nat) (s : (Nat → Int32) × Bool), c + j = th → zK 47 sc (zC 47 sc (d + 1)) 100 r M' 319 [.ref 33, .int (nI n), .int (nI N), .int (zB (zfor (fsC (P i) (T i) (K i) n a b x y) j c s).2), .int (nI i), .int (nI fi), .int (nI se), .int (nI th), .int (nI a), .int x, .int (nI b), .int y, .int (nI th), .null, .null, .null] [] (lsM M (zfor (fsC (P i) (T i) (K i) n a b x y) j c s).1) → zK 47 sc (zC 47 sc (d + 1)) 100 r M' 200 [.ref 33, .int (nI n), .int (nI N), .int (zB s.2), .int (nI i), .int (nI fi), .int (nI se), .int (nI th), .int (nI a), .int x, .int (nI b), .int y, .int (nI c), .null, .null, .null] [] (lsM M s.1) := by
  have hP := hsm.2.2.2.1 i hi
  have hm6 := hsm.2.2.1
  have hz := z22_lt hn
  have hTz := z22_lt hP.1
  intro j
  induction j with
  | zero =>
    intro c s hj hk
    have hin : c = th := by omega
    subst hin
    refine zK.blk rfl ?_
    refine p_iload_12 ?_
    refine p_iload_7 ?_
    refine p_icmpN_ge (tgt := 319) (by decide) (by omega) (by omega) (fun hc204 => ?_) (fun hc204 => ?_)
    · skip
      exact hk
    · skip
      exact absurd hc204 (by omega) --STOP
  | succ j ih =>
    intro c s hj hk
    refine zK.blk rfl ?_
    refine p_iload_12 ?_
    refine p_iload_7 ?_
    refine p_icmpN_ge (tgt := 319) (by decide) (by omega) (by omega) (fun hc204 => ?_) (fun hc204 => ?_)
    · skip
      exact absurd hc204 (by omega) --STOP
    · skip
      refine p_iload_11 ?_
      refine p_bipush (v := -9) (by decide) ?_
      refine p_icmp_eq (tgt := 319) (by decide) (fun hc211 => ?_) (fun hc211 => ?_)
      · skip
        exact absurd hc211 hy --STOP
      · skip
        refine p_aloadn_0 ?_
        refine p_getr rfl rfl ?_
        refine p_iload_4 ?_
        refine p_iald rfl (by omega) (by decide) ((hsm.2.2.2.2 i hi).1) ?_
        refine p_iconst (v := nI 2) (by decide) ?_
        refine p_icmpN_le (tgt := 235) (by decide) (by omega) (by omega) (fun hc222 => ?_) (fun hc222 => ?_)
        · skip
          rw [zfor_step (f := fsC (P i) (T i) (K i) n a b x y) (a' := fsZ (P i) (T i) (K i) n a b x y (nI 0) c s) (by unfold fsC; rw [zx_n hc222])] at hk
          refine zK.blk rfl ?_
          refine p_iconst (v := nI 0) (by decide) ?_
          refine st_100_236 hsm hn hN hi ha hb (by omega) ?_
          refine zK.blk rfl ?_
          refine p_iinc_12 (zN_inc _ 1) rfl ?_
          refine p_goto (tgt := 200) (by decide) ?_
          exact ih (c + 1) _ (by omega) hk
        · skip
          rw [zfor_step (f := fsC (P i) (T i) (K i) n a b x y) (a' := fsZ (P i) (T i) (K i) n a b x y (s.1 c) c s) (by unfold fsC; rw [zx_y (by omega)])] at hk
          refine p_aloadn_0 ?_
          refine p_getr rfl rfl ?_
          refine p_iload_12 ?_
          refine p_iald (v := s.1 c) rfl (by omega) (by decide) rfl ?_
          refine p_goto (tgt := 236) (by decide) ?_
          refine st_100_236 hsm hn hN hi ha hb (by omega) ?_
          refine zK.blk rfl ?_
          refine p_iinc_12 (zN_inc _ 1) rfl ?_
          refine p_goto (tgt := 200) (by decide) ?_
          exact ih (c + 1) _ (by omega) hk
set_option maxRecDepth 100000 in
set_option maxHeartbeats 4000000 in
theorem st_100_195 {sc : Nat × (Nat → Int32)} {d : Nat} {M : zM} {r : Option Value} {M' : zM} {m n N : Nat} {P T K : Nat → Nat} {i fi se th a b : Nat} {x y : Int32} {s : (Nat → Int32) × Bool} (hsm : sgM M m P T K) (hn : n < 4) (hN : N = z22 n) (hi : i < m) (ha : a < 256) (hb : b < 256) (hth : zfs 2 (P i) N = th) (hk : zK 47 sc (zC 47 sc (d + 1)) 100 r M' 319 [.ref 33, .int (nI n), .int (nI N), .int (zB (fsY (P i) (T i) (K i) n N a x y b s).2), .int (nI i), .int (nI fi), .int (nI se), .int (nI th), .int (nI a), .int x, .int (nI b), .null, .null, .null, .null, .null] [] (lsM M (fsY (P i) (T i) (K i) n N a x y b s).1)) : zK 47 sc (zC 47 sc (d + 1)) 100 r M' 195 [.ref 33, .int (nI n), .int (nI N), .int (zB s.2), .int (nI i), .int (nI fi), .int (nI se), .int (nI th), .int (nI a), .int x, .int (nI b), .null, .null, .null, .null, .null] [.int y] (lsM M s.1) := by
  have hP := hsm.2.2.2.1 i hi
  have hm6 := hsm.2.2.1
  have hz := z22_lt hn
  have hTz := z22_lt hP.1
  have hth1 : 1 ≤ th ∧ th ≤ 256 := by rw [← hth]; unfold zfs; split <;> omega
  refine zK.blk rfl ?_
  refine p_istore_11 rfl ?_
  refine p_iconst (v := nI 0) (by decide) ?_
  refine p_istore_12 rfl ?_
  by_cases hy : y = -9
  · have e : fsY (P i) (T i) (K i) n N a x y b s = s := if_pos hy
    rw [e] at hk
    refine zK.blk rfl ?_
    refine p_iload_12 ?_
    refine p_iload_7 ?_
    refine p_icmpN_ge (tgt := 319) (by decide) (by omega) (by omega) (fun hc204 => ?_) (fun hc204 => ?_)
    · exact absurd hc204 (by omega)
    · refine p_iload_11 ?_
      refine p_bipush (v := -9) (by decide) ?_
      refine p_icmp_eq (tgt := 319) (by decide) (fun hc211 => ?_) (fun hc211 => absurd hy hc211)
      refine zK.forget _ ?_ hk
      exact ⟨Or.inl rfl, Or.inl rfl, Or.inl rfl, Or.inl rfl, Or.inl rfl, Or.inl rfl, Or.inl rfl, Or.inl rfl, Or.inl rfl, Or.inl rfl, Or.inl rfl, Or.inr rfl, Or.inr rfl, Or.inr rfl, Or.inr rfl, Or.inr rfl, trivial⟩
  · have e : fsY (P i) (T i) (K i) n N a x y b s = zfor (fsC (P i) (T i) (K i) n a b x y) th 0 s := (if_neg hy).trans (by rw [hth])
    rw [e] at hk
    refine lp_100_200 hsm hn hN hi ha hb (by omega) hy th 0 s (by omega) ?_
    refine zK.forget _ ?_ hk
    exact ⟨Or.inl rfl, Or.inl rfl, Or.inl rfl, Or.inl rfl, Or.inl rfl, Or.inl rfl, Or.inl rfl, Or.inl rfl, Or.inl rfl, Or.inl rfl, Or.inl rfl, Or.inr rfl, Or.inr rfl, Or.inr rfl, Or.inr rfl, Or.inr rfl, trivial⟩
set_option maxRecDepth 100000 in
set_option maxHeartbeats 4000000 in
theorem lp_100_159 {sc : Nat × (Nat → Int32)} {d : Nat} {M : zM} {r : Option Value} {M' : zM} {m n N : Nat} {P T K : Nat → Nat} {i fi se th a : Nat} {x : Int32} (hsm : sgM M m P T K) (hn : n < 4) (hN : N = z22 n) (hi : i < m) (ha : a < 256) (hth : zfs 2 (P i) N = th) (hse : se ≤ 256) (hx : ¬ x = -9) : ∀ (j b : Nat) (s : (Nat → Int32) × Bool), b + j = se → zK 47 sc (zC 47 sc (d + 1)) 100 r M' 325 [.ref 33, .int (nI n), .int (nI N), .int (zB (zfor (fsB (P i) (T i) (K i) n N a x) j b s).2), .int (nI i), .int (nI fi), .int (nI se), .int (nI th), .int (nI a), .int x, .int (nI se), .null, .null, .null, .null, .null] [] (lsM M (zfor (fsB (P i) (T i) (K i) n N a x) j b s).1) → zK 47 sc (zC 47 sc (d + 1)) 100 r M' 159 [.ref 33, .int (nI n), .int (nI N), .int (zB s.2), .int (nI i), .int (nI fi), .int (nI se), .int (nI th), .int (nI a), .int x, .int (nI b), .null, .null, .null, .null, .null] [] (lsM M s.1) := by
  have hP := hsm.2.2.2.1 i hi
  have hm6 := hsm.2.2.1
  have hz := z22_lt hn
  have hTz := z22_lt hP.1
  intro j
  induction j with
  | zero =>
    intro b s hj hk
    have hin : b = se := by omega
    subst hin
    refine zK.blk rfl ?_
    refine p_iload_10 ?_
    refine p_iload_6 ?_
    refine p_icmpN_ge (tgt := 325) (by decide) (by omega) (by omega) (fun hc163 => ?_) (fun hc163 => ?_)
    · skip
      exact hk
    · skip
      exact absurd hc163 (by omega) --STOP
  | succ j ih =>
    intro b s hj hk
    refine zK.blk rfl ?_
    refine p_iload_10 ?_
    refine p_iload_6 ?_
    refine p_icmpN_ge (tgt := 325) (by decide) (by omega) (by omega) (fun hc163 => ?_) (fun hc163 => ?_)
    · skip
      exact absurd hc163 (by omega) --STOP
    · skip
      refine p_iload_9 ?_
      refine p_bipush (v := -9) (by decide) ?_
      refine p_icmp_eq (tgt := 325) (by decide) (fun hc170 => ?_) (fun hc170 => ?_)
      · skip
        exact absurd hc170 hx --STOP
      · skip
        refine p_aloadn_0 ?_
        refine p_getr rfl rfl ?_
        refine p_iload_4 ?_
        refine p_iald rfl (by omega) (by decide) ((hsm.2.2.2.2 i hi).1) ?_
        refine p_iconst (v := nI 1) (by decide) ?_
        refine p_icmpN_le (tgt := 194) (by decide) (by omega) (by omega) (fun hc181 => ?_) (fun hc181 => ?_)
        · skip
          rw [zfor_step (f := fsB (P i) (T i) (K i) n N a x) (a' := fsY (P i) (T i) (K i) n N a x (nI 0) b s) (by unfold fsB; rw [zx_n hc181])] at hk
          refine zK.blk rfl ?_
          refine p_iconst (v := nI 0) (by decide) ?_
          refine st_100_195 hsm hn hN hi ha (by omega) hth ?_
          refine zK.blk rfl ?_
          refine p_iinc_10 (zN_inc _ 1) rfl ?_
          refine p_goto (tgt := 159) (by decide) ?_
          exact ih (b + 1) _ (by omega) hk
        · skip
          rw [zfor_step (f := fsB (P i) (T i) (K i) n N a x) (a' := fsY (P i) (T i) (K i) n N a x (s.1 b) b s) (by unfold fsB; rw [zx_y (by omega)])] at hk
          refine p_aloadn_0 ?_
          refine p_getr rfl rfl ?_
          refine p_iload_10 ?_
          refine p_iald (v := s.1 b) rfl (by omega) (by decide) rfl ?_
          refine p_goto (tgt := 195) (by decide) ?_
          refine st_100_195 hsm hn hN hi ha (by omega) hth ?_
          refine zK.blk rfl ?_
          refine p_iinc_10 (zN_inc _ 1) rfl ?_
          refine p_goto (tgt := 159) (by decide) ?_
          exact ih (b + 1) _ (by omega) hk
set_option maxRecDepth 100000 in
set_option maxHeartbeats 4000000 in
theorem st_100_154 {sc : Nat × (Nat → Int32)} {d : Nat} {M : zM} {r : Option Value} {M' : zM} {m n N : Nat} {P T K : Nat → Nat} {i fi se th a : Nat} {x : Int32} {s : (Nat → Int32) × Bool} (hsm : sgM M m P T K) (hn : n < 4) (hN : N = z22 n) (hi : i < m) (ha : a < 256) (hth : zfs 2 (P i) N = th) (hse : zfs 1 (P i) N = se) (hk : zK 47 sc (zC 47 sc (d + 1)) 100 r M' 325 [.ref 33, .int (nI n), .int (nI N), .int (zB (fsX (P i) (T i) (K i) n N x a s).2), .int (nI i), .int (nI fi), .int (nI se), .int (nI th), .int (nI a), .null, .null, .null, .null, .null, .null, .null] [] (lsM M (fsX (P i) (T i) (K i) n N x a s).1)) : zK 47 sc (zC 47 sc (d + 1)) 100 r M' 154 [.ref 33, .int (nI n), .int (nI N), .int (zB s.2), .int (nI i), .int (nI fi), .int (nI se), .int (nI th), .int (nI a), .null, .null, .null, .null, .null, .null, .null] [.int x] (lsM M s.1) := by
  have hP := hsm.2.2.2.1 i hi
  have hm6 := hsm.2.2.1
  have hz := z22_lt hn
  have hTz := z22_lt hP.1
  have hse1 : 1 ≤ se ∧ se ≤ 256 := by rw [← hse]; unfold zfs; split <;> omega
  refine zK.blk rfl ?_
  refine p_istore_9 rfl ?_
  refine p_iconst (v := nI 0) (by decide) ?_
  refine p_istore_10 rfl ?_
  by_cases hx : x = -9
  · have e : fsX (P i) (T i) (K i) n N x a s = s := if_pos hx
    rw [e] at hk
    refine zK.blk rfl ?_
    refine p_iload_10 ?_
    refine p_iload_6 ?_
    refine p_icmpN_ge (tgt := 325) (by decide) (by omega) (by omega) (fun hc163 => ?_) (fun hc163 => ?_)
    · exact absurd hc163 (by omega)
    · refine p_iload_9 ?_
      refine p_bipush (v := -9) (by decide) ?_
      refine p_icmp_eq (tgt := 325) (by decide) (fun hc170 => ?_) (fun hc170 => absurd hx hc170)
      refine zK.forget _ ?_ hk
      exact ⟨Or.inl rfl, Or.inl rfl, Or.inl rfl, Or.inl rfl, Or.inl rfl, Or.inl rfl, Or.inl rfl, Or.inl rfl, Or.inl rfl, Or.inr rfl, Or.inr rfl, Or.inr rfl, Or.inr rfl, Or.inr rfl, Or.inr rfl, Or.inr rfl, trivial⟩
  · have e : fsX (P i) (T i) (K i) n N x a s = zfor (fsB (P i) (T i) (K i) n N a x) se 0 s := (if_neg hx).trans (by rw [hse])
    rw [e] at hk
    refine lp_100_159 hsm hn hN hi ha hth (by omega) hx se 0 s (by omega) ?_
    refine zK.forget _ ?_ hk
    exact ⟨Or.inl rfl, Or.inl rfl, Or.inl rfl, Or.inl rfl, Or.inl rfl, Or.inl rfl, Or.inl rfl, Or.inl rfl, Or.inl rfl, Or.inr rfl, Or.inr rfl, Or.inr rfl, Or.inr rfl, Or.inr rfl, Or.inr rfl, Or.inr rfl, trivial⟩
set_option maxRecDepth 100000 in
set_option maxHeartbeats 4000000 in
theorem lp_100_126 {sc : Nat × (Nat → Int32)} {d : Nat} {M : zM} {r : Option Value} {M' : zM} {m n N : Nat} {P T K : Nat → Nat} {i fi se th : Nat} (hsm : sgM M m P T K) (hn : n < 4) (hN : N = z22 n) (hi : i < m) (hth : zfs 2 (P i) N = th) (hse : zfs 1 (P i) N = se) (hfi : fi ≤ 256) : ∀ (j a : Nat) (s : (Nat → Int32) × Bool), a + j = fi → zK 47 sc (zC 47 sc (d + 1)) 100 r M' 331 [.ref 33, .int (nI n), .int (nI N), .int (zB (zfor (fsA (P i) (T i) (K i) n N) j a s).2), .int (nI i), .int (nI fi), .int (nI se), .int (nI th), .int (nI fi), .null, .null, .null, .null, .null, .null, .null] [] (lsM M (zfor (fsA (P i) (T i) (K i) n N) j a s).1) → zK 47 sc (zC 47 sc (d + 1)) 100 r M' 126 [.ref 33, .int (nI n), .int (nI N), .int (zB s.2), .int (nI i), .int (nI fi), .int (nI se), .int (nI th), .int (nI a), .null, .null, .null, .null, .null, .null, .null] [] (lsM M s.1) := by
  have hP := hsm.2.2.2.1 i hi
  have hm6 := hsm.2.2.1
  have hz := z22_lt hn
  have hTz := z22_lt hP.1
  intro j
  induction j with
  | zero =>
    intro a s hj hk
    have hin : a = fi := by omega
    subst hin
    refine zK.blk rfl ?_
    refine p_iload_8 ?_
    refine p_iload_5 ?_
    refine p_icmpN_ge (tgt := 331) (by decide) (by omega) (by omega) (fun hc130 => ?_) (fun hc130 => ?_)
    · skip
      exact hk
    · skip
      exact absurd hc130 (by omega) --STOP
  | succ j ih =>
    intro a s hj hk
    refine zK.blk rfl ?_
    refine p_iload_8 ?_
    refine p_iload_5 ?_
    refine p_icmpN_ge (tgt := 331) (by decide) (by omega) (by omega) (fun hc130 => ?_) (fun hc130 => ?_)
    · skip
      exact absurd hc130 (by omega) --STOP
    · skip
      refine p_aloadn_0 ?_
      refine p_getr rfl rfl ?_
      refine p_iload_4 ?_
      refine p_iald rfl (by omega) (by decide) ((hsm.2.2.2.2 i hi).1) ?_
      refine p_ifN_le (tgt := 153) (by decide) (by omega) (fun hc140 => ?_) (fun hc140 => ?_)
      · skip
        rw [zfor_step (f := fsA (P i) (T i) (K i) n N) (a' := fsX (P i) (T i) (K i) n N (nI 0) a s) (by unfold fsA; rw [zx_n hc140])] at hk
        refine zK.blk rfl ?_
        refine p_iconst (v := nI 0) (by decide) ?_
        refine st_100_154 hsm hn hN hi (by omega) hth hse ?_
        refine zK.blk rfl ?_
        refine p_iinc_8 (zN_inc _ 1) rfl ?_
        refine p_goto (tgt := 126) (by decide) ?_
        exact ih (a + 1) _ (by omega) hk
      · skip
        rw [zfor_step (f := fsA (P i) (T i) (K i) n N) (a' := fsX (P i) (T i) (K i) n N (s.1 a) a s) (by unfold fsA; rw [zx_y (by omega)])] at hk
        refine p_aloadn_0 ?_
        refine p_getr rfl rfl ?_
        refine p_iload_8 ?_
        refine p_iald (v := s.1 a) rfl (by omega) (by decide) rfl ?_
        refine p_goto (tgt := 154) (by decide) ?_
        refine st_100_154 hsm hn hN hi (by omega) hth hse ?_
        refine zK.blk rfl ?_
        refine p_iinc_8 (zN_inc _ 1) rfl ?_
        refine p_goto (tgt := 126) (by decide) ?_
        exact ih (a + 1) _ (by omega) hk
set_option maxRecDepth 100000 in
set_option maxHeartbeats 4000000 in
theorem lp_100_61 {sc : Nat × (Nat → Int32)} {d : Nat} {M : zM} {r : Option Value} {M' : zM} {m n N : Nat} {P T K : Nat → Nat} (hsm : sgM M m P T K) (hn : n < 4) (hN : N = z22 n) : ∀ (j i : Nat) (s : (Nat → Int32) × Bool), i + j = m → zK 47 sc (zC 47 sc (d + 1)) 100 r M' 337 [.ref 33, .int (nI n), .int (nI N), .int (zB (zfor (fsI P T K n N) j i s).2), .int (nI m), .null, .null, .null, .null, .null, .null, .null, .null, .null, .null, .null] [] (lsM M (zfor (fsI P T K n N) j i s).1) → zK 47 sc (zC 47 sc (d + 1)) 100 r M' 61 [.ref 33, .int (nI n), .int (nI N), .int (zB s.2), .int (nI i), .null, .null, .null, .null, .null, .null, .null, .null, .null, .null, .null] [] (lsM M s.1) := by
  intro j
  induction j with
  | zero =>
    intro i s hj hk
    have hin : i = m := by omega
    subst hin
    have hm6 := hsm.2.2.1
    refine zK.blk rfl ?_
    refine p_iload_4 ?_
    refine p_aloadn_0 ?_
    refine p_geti rfl rfl (hsm.2.1) ?_
    refine p_icmpN_ge (tgt := 337) (by decide) (by omega) (by omega) (fun hc67 => ?_) (fun hc67 => ?_)
    · skip
      exact hk
    · skip
      exact absurd hc67 (by omega) --STOP
  | succ j ih =>
    intro i s hj hk
    have hi : i < m := by omega
    have hP := hsm.2.2.2.1 i hi
    have hm6 := hsm.2.2.1
    have hz := z22_lt hn
    have hTz := z22_lt hP.1
    refine zK.blk rfl ?_
    refine p_iload_4 ?_
    refine p_aloadn_0 ?_
    refine p_geti rfl rfl (hsm.2.1) ?_
    refine p_icmpN_ge (tgt := 337) (by decide) (by omega) (by omega) (fun hc67 => ?_) (fun hc67 => ?_)
    · skip
      exact absurd hc67 (by omega) --STOP
    · skip
      refine p_aloadn_0 ?_
      refine p_getr rfl rfl ?_
      refine p_iload_4 ?_
      refine p_iald rfl (by omega) (by decide) ((hsm.2.2.2.2 i hi).1) ?_
      refine p_ifN_le (tgt := 84) (by decide) (by omega) (fun hc77 => ?_) (fun hc77 => ?_)
      · skip
        have e5 : zfs 0 (P i) N = 1 := if_neg (by omega)
        refine zK.blk rfl ?_
        refine p_iconst (v := nI 1) (by decide) ?_
        refine zK.blk rfl ?_
        refine p_istore_5 rfl ?_
        refine p_aloadn_0 ?_
        refine p_getr rfl rfl ?_
        refine p_iload_4 ?_
        refine p_iald rfl (by omega) (by decide) ((hsm.2.2.2.2 i hi).1) ?_
        refine p_iconst (v := nI 1) (by decide) ?_
        refine p_icmpN_le (tgt := 102) (by decide) (by omega) (by omega) (fun hc95 => ?_) (fun hc95 => ?_)
        · skip
          have e6 : zfs 1 (P i) N = 1 := if_neg (by omega)
          refine zK.blk rfl ?_
          refine p_iconst (v := nI 1) (by decide) ?_
          refine zK.blk rfl ?_
          refine p_istore_6 rfl ?_
          refine p_aloadn_0 ?_
          refine p_getr rfl rfl ?_
          refine p_iload_4 ?_
          refine p_iald rfl (by omega) (by decide) ((hsm.2.2.2.2 i hi).1) ?_
          refine p_iconst (v := nI 2) (by decide) ?_
          refine p_icmpN_le (tgt := 120) (by decide) (by omega) (by omega) (fun hc113 => ?_) (fun hc113 => ?_)
          · skip
            have e7 : zfs 2 (P i) N = 1 := if_neg (by omega)
            refine zK.blk rfl ?_
            refine p_iconst (v := nI 1) (by decide) ?_
            refine zK.blk rfl ?_
            refine p_istore_7 rfl ?_
            refine p_iconst (v := nI 0) (by decide) ?_
            refine p_istore_8 rfl ?_
            refine lp_100_126 hsm hn hN hi e7 e6 (by omega) _ 0 s (Nat.zero_add _) ?_
            rw [zfor_step (f := fsI P T K n N) rfl] at hk
            unfold fsI at hk
            rw [e5] at hk
            refine zK.blk rfl ?_
            refine p_iinc_4 (zN_inc _ 1) rfl ?_
            refine p_goto (tgt := 61) (by decide) ?_
            refine zK.forget _ ?_ (ih (i + 1) _ (by omega) hk)
            exact ⟨Or.inl rfl, Or.inl rfl, Or.inl rfl, Or.inl rfl, Or.inl rfl, Or.inr rfl, Or.inr rfl, Or.inr rfl, Or.inr rfl, Or.inr rfl, Or.inr rfl, Or.inr rfl, Or.inr rfl, Or.inr rfl, Or.inr rfl, Or.inr rfl, trivial⟩
          · skip
            have e7 : zfs 2 (P i) N = N := if_pos (by omega)
            refine p_iloadn_2 ?_
            refine p_goto (tgt := 121) (by decide) ?_
            refine zK.blk rfl ?_
            refine p_istore_7 rfl ?_
            refine p_iconst (v := nI 0) (by decide) ?_
            refine p_istore_8 rfl ?_
            refine lp_100_126 hsm hn hN hi e7 e6 (by omega) _ 0 s (Nat.zero_add _) ?_
            rw [zfor_step (f := fsI P T K n N) rfl] at hk
            unfold fsI at hk
            rw [e5] at hk
            refine zK.blk rfl ?_
            refine p_iinc_4 (zN_inc _ 1) rfl ?_
            refine p_goto (tgt := 61) (by decide) ?_
            refine zK.forget _ ?_ (ih (i + 1) _ (by omega) hk)
            exact ⟨Or.inl rfl, Or.inl rfl, Or.inl rfl, Or.inl rfl, Or.inl rfl, Or.inr rfl, Or.inr rfl, Or.inr rfl, Or.inr rfl, Or.inr rfl, Or.inr rfl, Or.inr rfl, Or.inr rfl, Or.inr rfl, Or.inr rfl, Or.inr rfl, trivial⟩
        · skip
          have e6 : zfs 1 (P i) N = N := if_pos (by omega)
          refine p_iloadn_2 ?_
          refine p_goto (tgt := 103) (by decide) ?_
          refine zK.blk rfl ?_
          refine p_istore_6 rfl ?_
          refine p_aloadn_0 ?_
          refine p_getr rfl rfl ?_
          refine p_iload_4 ?_
          refine p_iald rfl (by omega) (by decide) ((hsm.2.2.2.2 i hi).1) ?_
          refine p_iconst (v := nI 2) (by decide) ?_
          refine p_icmpN_le (tgt := 120) (by decide) (by omega) (by omega) (fun hc113 => ?_) (fun hc113 => ?_)
          · skip
            have e7 : zfs 2 (P i) N = 1 := if_neg (by omega)
            refine zK.blk rfl ?_
            refine p_iconst (v := nI 1) (by decide) ?_
            refine zK.blk rfl ?_
            refine p_istore_7 rfl ?_
            refine p_iconst (v := nI 0) (by decide) ?_
            refine p_istore_8 rfl ?_
            refine lp_100_126 hsm hn hN hi e7 e6 (by omega) _ 0 s (Nat.zero_add _) ?_
            rw [zfor_step (f := fsI P T K n N) rfl] at hk
            unfold fsI at hk
            rw [e5] at hk
            refine zK.blk rfl ?_
            refine p_iinc_4 (zN_inc _ 1) rfl ?_
            refine p_goto (tgt := 61) (by decide) ?_
            refine zK.forget _ ?_ (ih (i + 1) _ (by omega) hk)
            exact ⟨Or.inl rfl, Or.inl rfl, Or.inl rfl, Or.inl rfl, Or.inl rfl, Or.inr rfl, Or.inr rfl, Or.inr rfl, Or.inr rfl, Or.inr rfl, Or.inr rfl, Or.inr rfl, Or.inr rfl, Or.inr rfl, Or.inr rfl, Or.inr rfl, trivial⟩
          · skip
            have e7 : zfs 2 (P i) N = N := if_pos (by omega)
            refine p_iloadn_2 ?_
            refine p_goto (tgt := 121) (by decide) ?_
            refine zK.blk rfl ?_
            refine p_istore_7 rfl ?_
            refine p_iconst (v := nI 0) (by decide) ?_
            refine p_istore_8 rfl ?_
            refine lp_100_126 hsm hn hN hi e7 e6 (by omega) _ 0 s (Nat.zero_add _) ?_
            rw [zfor_step (f := fsI P T K n N) rfl] at hk
            unfold fsI at hk
            rw [e5] at hk
            refine zK.blk rfl ?_
            refine p_iinc_4 (zN_inc _ 1) rfl ?_
            refine p_goto (tgt := 61) (by decide) ?_
            refine zK.forget _ ?_ (ih (i + 1) _ (by omega) hk)
            exact ⟨Or.inl rfl, Or.inl rfl, Or.inl rfl, Or.inl rfl, Or.inl rfl, Or.inr rfl, Or.inr rfl, Or.inr rfl, Or.inr rfl, Or.inr rfl, Or.inr rfl, Or.inr rfl, Or.inr rfl, Or.inr rfl, Or.inr rfl, Or.inr rfl, trivial⟩
      · skip
        have e5 : zfs 0 (P i) N = N := if_pos (by omega)
        refine p_iloadn_2 ?_
        refine p_goto (tgt := 85) (by decide) ?_
        refine zK.blk rfl ?_
        refine p_istore_5 rfl ?_
        refine p_aloadn_0 ?_
        refine p_getr rfl rfl ?_
        refine p_iload_4 ?_
        refine p_iald rfl (by omega) (by decide) ((hsm.2.2.2.2 i hi).1) ?_
        refine p_iconst (v := nI 1) (by decide) ?_
        refine p_icmpN_le (tgt := 102) (by decide) (by omega) (by omega) (fun hc95 => ?_) (fun hc95 => ?_)
        · skip
          have e6 : zfs 1 (P i) N = 1 := if_neg (by omega)
          refine zK.blk rfl ?_
          refine p_iconst (v := nI 1) (by decide) ?_
          refine zK.blk rfl ?_
          refine p_istore_6 rfl ?_
          refine p_aloadn_0 ?_
          refine p_getr rfl rfl ?_
          refine p_iload_4 ?_
          refine p_iald rfl (by omega) (by decide) ((hsm.2.2.2.2 i hi).1) ?_
          refine p_iconst (v := nI 2) (by decide) ?_
          refine p_icmpN_le (tgt := 120) (by decide) (by omega) (by omega) (fun hc113 => ?_) (fun hc113 => ?_)
          · skip
            have e7 : zfs 2 (P i) N = 1 := if_neg (by omega)
            refine zK.blk rfl ?_
            refine p_iconst (v := nI 1) (by decide) ?_
            refine zK.blk rfl ?_
            refine p_istore_7 rfl ?_
            refine p_iconst (v := nI 0) (by decide) ?_
            refine p_istore_8 rfl ?_
            refine lp_100_126 hsm hn hN hi e7 e6 (by omega) _ 0 s (Nat.zero_add _) ?_
            rw [zfor_step (f := fsI P T K n N) rfl] at hk
            unfold fsI at hk
            rw [e5] at hk
            refine zK.blk rfl ?_
            refine p_iinc_4 (zN_inc _ 1) rfl ?_
            refine p_goto (tgt := 61) (by decide) ?_
            refine zK.forget _ ?_ (ih (i + 1) _ (by omega) hk)
            exact ⟨Or.inl rfl, Or.inl rfl, Or.inl rfl, Or.inl rfl, Or.inl rfl, Or.inr rfl, Or.inr rfl, Or.inr rfl, Or.inr rfl, Or.inr rfl, Or.inr rfl, Or.inr rfl, Or.inr rfl, Or.inr rfl, Or.inr rfl, Or.inr rfl, trivial⟩
          · skip
            have e7 : zfs 2 (P i) N = N := if_pos (by omega)
            refine p_iloadn_2 ?_
            refine p_goto (tgt := 121) (by decide) ?_
            refine zK.blk rfl ?_
            refine p_istore_7 rfl ?_
            refine p_iconst (v := nI 0) (by decide) ?_
            refine p_istore_8 rfl ?_
            refine lp_100_126 hsm hn hN hi e7 e6 (by omega) _ 0 s (Nat.zero_add _) ?_
            rw [zfor_step (f := fsI P T K n N) rfl] at hk
            unfold fsI at hk
            rw [e5] at hk
            refine zK.blk rfl ?_
            refine p_iinc_4 (zN_inc _ 1) rfl ?_
            refine p_goto (tgt := 61) (by decide) ?_
            refine zK.forget _ ?_ (ih (i + 1) _ (by omega) hk)
            exact ⟨Or.inl rfl, Or.inl rfl, Or.inl rfl, Or.inl rfl, Or.inl rfl, Or.inr rfl, Or.inr rfl, Or.inr rfl, Or.inr rfl, Or.inr rfl, Or.inr rfl, Or.inr rfl, Or.inr rfl, Or.inr rfl, Or.inr rfl, Or.inr rfl, trivial⟩
        · skip
          have e6 : zfs 1 (P i) N = N := if_pos (by omega)
          refine p_iloadn_2 ?_
          refine p_goto (tgt := 103) (by decide) ?_
          refine zK.blk rfl ?_
          refine p_istore_6 rfl ?_
          refine p_aloadn_0 ?_
          refine p_getr rfl rfl ?_
          refine p_iload_4 ?_
          refine p_iald rfl (by omega) (by decide) ((hsm.2.2.2.2 i hi).1) ?_
          refine p_iconst (v := nI 2) (by decide) ?_
          refine p_icmpN_le (tgt := 120) (by decide) (by omega) (by omega) (fun hc113 => ?_) (fun hc113 => ?_)
          · skip
            have e7 : zfs 2 (P i) N = 1 := if_neg (by omega)
            refine zK.blk rfl ?_
            refine p_iconst (v := nI 1) (by decide) ?_
            refine zK.blk rfl ?_
            refine p_istore_7 rfl ?_
            refine p_iconst (v := nI 0) (by decide) ?_
            refine p_istore_8 rfl ?_
            refine lp_100_126 hsm hn hN hi e7 e6 (by omega) _ 0 s (Nat.zero_add _) ?_
            rw [zfor_step (f := fsI P T K n N) rfl] at hk
            unfold fsI at hk
            rw [e5] at hk
            refine zK.blk rfl ?_
            refine p_iinc_4 (zN_inc _ 1) rfl ?_
            refine p_goto (tgt := 61) (by decide) ?_
            refine zK.forget _ ?_ (ih (i + 1) _ (by omega) hk)
            exact ⟨Or.inl rfl, Or.inl rfl, Or.inl rfl, Or.inl rfl, Or.inl rfl, Or.inr rfl, Or.inr rfl, Or.inr rfl, Or.inr rfl, Or.inr rfl, Or.inr rfl, Or.inr rfl, Or.inr rfl, Or.inr rfl, Or.inr rfl, Or.inr rfl, trivial⟩
          · skip
            have e7 : zfs 2 (P i) N = N := if_pos (by omega)
            refine p_iloadn_2 ?_
            refine p_goto (tgt := 121) (by decide) ?_
            refine zK.blk rfl ?_
            refine p_istore_7 rfl ?_
            refine p_iconst (v := nI 0) (by decide) ?_
            refine p_istore_8 rfl ?_
            refine lp_100_126 hsm hn hN hi e7 e6 (by omega) _ 0 s (Nat.zero_add _) ?_
            rw [zfor_step (f := fsI P T K n N) rfl] at hk
            unfold fsI at hk
            rw [e5] at hk
            refine zK.blk rfl ?_
            refine p_iinc_4 (zN_inc _ 1) rfl ?_
            refine p_goto (tgt := 61) (by decide) ?_
            refine zK.forget _ ?_ (ih (i + 1) _ (by omega) hk)
            exact ⟨Or.inl rfl, Or.inl rfl, Or.inl rfl, Or.inl rfl, Or.inl rfl, Or.inr rfl, Or.inr rfl, Or.inr rfl, Or.inr rfl, Or.inr rfl, Or.inr rfl, Or.inr rfl, Or.inr rfl, Or.inr rfl, Or.inr rfl, Or.inr rfl, trivial⟩
set_option maxRecDepth 100000 in
set_option maxHeartbeats 4000000 in
theorem lp_100_52 {sc : Nat × (Nat → Int32)} {d : Nat} {M : zM} {m n N : Nat} {P T K : Nat → Nat} (hsm : sgM M m P T K) (hn : n < 4) (hN : N = z22 n) : ∀ (k : Nat) (f : Nat → Int32), fsOK m P T K n N k f → zK 47 sc (zC 47 sc (d + 1)) 100 none (lsM M (fsR m P T K n N k f)) 52 [.ref 33, .int (nI n), .int (nI N), .int (zB true), .null, .null, .null, .null, .null, .null, .null, .null, .null, .null, .null, .null] [] (lsM M f) := by
  intro k
  induction k with
  | zero => intro f h; exact h.elim
  | succ k ih =>
    intro f hok
    refine zK.blk rfl ?_
    refine p_iloadn_3 ?_
    refine p_ifB_eq (tgt := 340) (by decide) (fun hc53 => ?_) (fun hc53 => ?_)
    · skip
      exact absurd hc53 (by decide) --STOP
    · skip
      refine p_iconst (v := nI 0) (by decide) ?_
      refine p_istoren_3 rfl ?_
      refine p_iconst (v := nI 0) (by decide) ?_
      refine p_istore_4 rfl ?_
      rw [zB_0]
      refine lp_100_61 hsm hn hN m 0 (f, false) (by omega) ?_
      refine zK.blk rfl ?_
      refine p_goto (tgt := 52) (by decide) ?_
      rw [show zfor (fsI P T K n N) m 0 (f, false) = fsW m P T K n N f from rfl]
      have hR : fsR m P T K n N (k + 1) f = if (fsW m P T K n N f).2 = true then fsR m P T K n N k (fsW m P T K n N f).1 else (fsW m P T K n N f).1 := rfl
      have hO : (fsW m P T K n N f).2 = true → fsOK m P T K n N k (fsW m P T K n N f).1 := hok
      rw [hR]
      cases hb : (fsW m P T K n N f).2 with
      | true =>
        rw [if_pos rfl]
        refine zK.forget _ ?_ (ih _ (hO hb))
        exact ⟨Or.inl rfl, Or.inl rfl, Or.inl rfl, Or.inl rfl, Or.inr rfl, Or.inr rfl, Or.inr rfl, Or.inr rfl, Or.inr rfl, Or.inr rfl, Or.inr rfl, Or.inr rfl, Or.inr rfl, Or.inr rfl, Or.inr rfl, Or.inr rfl, trivial⟩
      | false =>
        rw [if_neg (by decide)]
        refine zK.blk rfl ?_
        refine p_iloadn_3 ?_
        refine p_ifB_eq (tgt := 340) (by decide) (fun hq => ?_) (fun hq => absurd hq (by decide))
        refine zK.blk rfl ?_
        exact p_vret trivial rfl rfl
set_option maxRecDepth 100000 in
set_option maxHeartbeats 4000000 in
theorem lp_100_7 {sc : Nat × (Nat → Int32)} {d : Nat} {M : zM} {r : Option Value} {M' : zM} {n N : Nat} (hN2 : N ≤ 256) : ∀ (j i : Nat) (f : Nat → Int32), i + j = N → zK 47 sc (zC 47 sc (d + 1)) 100 r M' 26 [.ref 33, .int (nI n), .int (nI N), .int (nI N), .null, .null, .null, .null, .null, .null, .null, .null, .null, .null, .null, .null] [] (lsM M (fi0 j i f)) → zK 47 sc (zC 47 sc (d + 1)) 100 r M' 7 [.ref 33, .int (nI n), .int (nI N), .int (nI i), .null, .null, .null, .null, .null, .null, .null, .null, .null, .null, .null, .null] [] (lsM M f) := by
  intro j
  induction j with
  | zero =>
    intro i f hj hk
    have hin : i = N := by omega
    subst hin
    refine zK.blk rfl ?_
    refine p_iloadn_3 ?_
    refine p_iloadn_2 ?_
    refine p_icmpN_ge (tgt := 26) (by decide) (by omega) (by omega) (fun hc9 => ?_) (fun hc9 => ?_)
    · skip
      exact hk
    · skip
      exact absurd hc9 (by omega) --STOP
  | succ j ih =>
    intro i f hj hk
    refine zK.blk rfl ?_
    refine p_iloadn_3 ?_
    refine p_iloadn_2 ?_
    refine p_icmpN_ge (tgt := 26) (by decide) (by omega) (by omega) (fun hc9 => ?_) (fun hc9 => ?_)
    · skip
      exact absurd hc9 (by omega) --STOP
    · skip
      refine p_aloadn_0 ?_
      refine p_getr rfl rfl ?_
      refine p_iloadn_3 ?_
      refine p_bipush (v := -9) (by decide) ?_
      refine p_iast rfl (by omega) (by decide) ?_
      rw [lsM_up]
      refine p_iinc_3 (zN_inc _ 1) rfl ?_
      refine p_goto (tgt := 7) (by decide) ?_
      exact ih (i + 1) _ (by omega) hk
theorem plN_256 : ∀ n, n < 4 → ∀ i, i < n → plN n i < 256 := by decide +kernel
set_option maxRecDepth 100000 in
set_option maxHeartbeats 4000000 in
theorem lp_100_28 {sc : Nat × (Nat → Int32)} {d : Nat} {M : zM} {r : Option Value} {M' : zM} {n N : Nat} (hn : n < 4) : ∀ (j i : Nat) (f : Nat → Int32), i + j = n → zK 47 sc (zC 47 sc (d + 1)) 100 r M' 50 [.ref 33, .int (nI n), .int (nI N), .int (nI n), .null, .null, .null, .null, .null, .null, .null, .null, .null, .null, .null, .null] [] (lsM M (fi1 n j i f)) → zK 47 sc (zC 47 sc (d + 1)) 100 r M' 28 [.ref 33, .int (nI n), .int (nI N), .int (nI i), .null, .null, .null, .null, .null, .null, .null, .null, .null, .null, .null, .null] [] (lsM M f) := by
  intro j
  induction j with
  | zero =>
    intro i f hj hk
    have hin : i = n := by omega
    subst hin
    refine zK.blk rfl ?_
    refine p_iloadn_3 ?_
    refine p_iloadn_1 ?_
    refine p_icmpN_ge (tgt := 50) (by decide) (by omega) (by omega) (fun hc30 => ?_) (fun hc30 => ?_)
    · skip
      exact hk
    · skip
      exact absurd hc30 (by omega) --STOP
  | succ j ih =>
    intro i f hj hk
    have hpl := plN_256 n hn i (by omega)
    refine zK.blk rfl ?_
    refine p_iloadn_3 ?_
    refine p_iloadn_1 ?_
    refine p_icmpN_ge (tgt := 50) (by decide) (by omega) (by omega) (fun hc30 => ?_) (fun hc30 => ?_)
    · skip
      exact absurd hc30 (by omega) --STOP
    · skip
      refine p_aloadn_0 ?_
      refine p_getr rfl rfl ?_
      refine p_iloadn_1 ?_
      refine p_iloadn_3 ?_
      refine p_cs2i rfl rfl rfl rfl rfl (c_99 hn (by omega)) ?_
      refine p_iconst (v := nI 0) (by decide) ?_
      refine p_iast rfl (by omega) (by decide) ?_
      rw [lsM_up]
      refine p_iinc_3 (zN_inc _ 1) rfl ?_
      refine p_goto (tgt := 28) (by decide) ?_
      exact ih (i + 1) _ (by omega) hk
set_option maxRecDepth 100000 in
set_option maxHeartbeats 4000000 in
theorem c_100 {sc : Nat × (Nat → Int32)} {d : Nat} {M : zM} {m n : Nat} {P T K : Nat → Nat} {k : Nat} (hsm : sgM M m P T K) (hn : n < 4) (hok : fsOK m P T K n (z22 n) k (fi1 n n 0 (fi0 (z22 n) 0 (M 37)))) : zC 47 sc (d + 2) 100 [.ref 33, .int (nI n)] M (none) (lsM M (fsR m P T K n (z22 n) k (fi1 n n 0 (fi0 (z22 n) 0 (M 37))))) := by
  have hz := z22_lt hn
  refine z_enter (L := [.ref 33, .int (nI n), .null, .null, .null, .null, .null, .null, .null, .null, .null, .null, .null, .null, .null, .null]) rfl rfl rfl ?_
  refine zK.blk rfl ?_
  refine p_iloadn_1 ?_
  refine p_cs1i rfl rfl rfl rfl rfl (c_91 hn) ?_
  refine p_istoren_2 rfl ?_
  refine p_iconst (v := nI 0) (by decide) ?_
  refine p_istoren_3 rfl ?_
  have e0 : zK 47 sc (zC 47 sc (d + 1)) 100 none (lsM M (fsR m P T K n (z22 n) k (fi1 n n 0 (fi0 (z22 n) 0 (M 37))))) 7 [.ref 33, .int (nI n), .int (nI (z22 n)), .int (nI 0), .null, .null, .null, .null, .null, .null, .null, .null, .null, .null, .null, .null] [] (lsM M (M 37)) := by
    refine lp_100_7 (by omega) (z22 n) 0 _ (by omega) ?_
    refine zK.blk rfl ?_
    refine p_iconst (v := nI 0) (by decide) ?_
    refine p_istoren_3 rfl ?_
    refine lp_100_28 hn n 0 _ (by omega) ?_
    refine zK.blk rfl ?_
    refine p_iconst (v := nI 1) (by decide) ?_
    refine p_istoren_3 rfl ?_
    rw [zB_1]
    exact lp_100_52 hsm hn rfl k _ hok
  rw [lsM_id] at e0
  exact e0
