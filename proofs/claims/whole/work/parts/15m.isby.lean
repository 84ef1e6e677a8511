/-- the reference's by: the three answers -/
def byM (M : zM) (x y z : Int32) : zM := fun a b => if a = 33 then (if b = 6 then x else if b = 7 then y else if b = 8 then z else M a b) else M a b
theorem byM_ne {M : zM} {x y z : Int32} {a b : Nat} (h : ¬ (a = 33 ∧ 6 ≤ b ∧ b ≤ 8)) : byM M x y z a b = M a b := by
  unfold byM
  by_cases h1 : a = 33
  · rw [if_pos h1, if_neg (by omega), if_neg (by omega), if_neg (by omega)]
  · rw [if_neg h1]
theorem byM_all {M : zM} {x y z : Int32} : zup (zup (zup M 33 6 x) 33 7 y) 33 8 z = byM M x y z := by
  funext a b
  unfold zup byM
  by_cases h : a = 33
  · simp only [h, if_true]
    by_cases h8 : b = 8
    · simp [h8]
    · by_cases h7 : b = 7
      · simp [h7]
      · simp [h8, h7]
  · simp [h]
theorem byM_byM {M : zM} {x y z x1 y1 z1 : Int32} : byM (byM M x y z) x1 y1 z1 = byM M x1 y1 z1 := by
  funext a b
  unfold byM
  by_cases h : a = 33
  · simp only [h, if_true]
    by_cases h6 : b = 6
    · simp [h6]
    · by_cases h7 : b = 7
      · simp [h7]
      · by_cases h8 : b = 8
        · simp [h8]
        · simp [h6, h7, h8]
  · simp [h]
theorem byM_sm {M : zM} {x y z : Int32} {n : Nat} {P T K : Nat → Nat} (h : sgM M n P T K) : sgM (byM M x y z) n P T K := h
/-- the answer for a part -/
def zbp (k p a : Nat) : Int32 := if k < p then nI a else -9
/-- the first c .. of j: the three answers -/
def ibC (f : Nat → Int32) (p T n t : Nat) (rest : Int32) (a b : Nat) (x y : Int32) : Nat → Nat → Option (Nat × Nat × Nat)
  | 0, _ => none
  | j + 1, c => if x + y + zx 2 p f c = rest ∧ ¬ zx 2 p f c = -9 ∧ toN T (1 <<< n) a b c = t then some (a, b, c) else ibC f p T n t rest a b x y j (c + 1)
def ibY (f : Nat → Int32) (p T n N t : Nat) (rest : Int32) (a b : Nat) (x y : Int32) : Option (Nat × Nat × Nat) :=
  if y = -9 ∨ rest < x + y then none else ibC f p T n t rest a b x y (zfs 2 p N) 0
def ibB (f : Nat → Int32) (p T n N t : Nat) (rest : Int32) (a : Nat) (x : Int32) : Nat → Nat → Option (Nat × Nat × Nat)
  | 0, _ => none
  | j + 1, b => match ibY f p T n N t rest a b x (zx 1 p f b) with
    | some v => some v
    | none => ibB f p T n N t rest a x j (b + 1)
def ibX (f : Nat → Int32) (p T n N t : Nat) (rest : Int32) (a : Nat) (x : Int32) : Option (Nat × Nat × Nat) :=
  if x = -9 ∨ rest < x then none else ibB f p T n N t rest a x (zfs 1 p N) 0
def ibA (f : Nat → Int32) (p T n N t : Nat) (rest : Int32) : Nat → Nat → Option (Nat × Nat × Nat)
  | 0, _ => none
  | j + 1, a => match ibX f p T n N t rest a (zx 0 p f a) with
    | some v => some v
    | none => ibA f p T n N t rest j (a + 1)
/-- the first join of a sign of p places, table T, cost K that has the table t at its least cost -/
def ibN (f : Nat → Int32) (p T K n N t : Nat) : Option (Nat × Nat × Nat) := ibA f p T n N t (f t - nI K) (zfs 0 p N) 0
def ibR (o : Option (Nat × Nat × Nat)) : Int32 := zB o.isSome
def ibM (M : zM) (p : Nat) (o : Option (Nat × Nat × Nat)) : zM := match o with
  | none => byM M (-9) (-9) (-9)
  | some v => byM M (zbp 0 p v.1) (zbp 1 p v.2.1) (zbp 2 p v.2.2)
set_option maxRecDepth 100000 in
set_option maxHeartbeats 4000000 in
theorem st_104_257 {sc : Nat × (Nat → Int32)} {d : Nat} {M : zM} {m n N : Nat} {P T K : Nat → Nat} {i t fi se th a b c : Nat} {rest x y z : Int32} (hsm : sgM M m P T K) (hn : n < 4) (hN : N = z22 n) (hi : i < m) (ht : t < N) (ha : a < 256) (hb : b < 256) (hc : c < 256) : zwp 47 sc zinfo (zC 47 sc (d + 1)) (zK 47 sc (zC 47 sc (d + 1)) 104 (some (.int (nI 1))) (ibM M (P i) (some (a, b, c)))) (zfin 104 (some (.int (nI 1))) (ibM M (P i) (some (a, b, c)))) 272 [(257, .aload_n 0, 1, 0, 0, 0), (258, .aload_n 0, 1, 0, 0, 0), (259, .getfield 7, 3, 7, 2, 610), (262, .iload_n 1, 1, 0, 0, 0), (263, .iaload, 1, 0, 0, 0), (264, .ifCond .le 8, 3, 0, 0, 0), (267, .iload 9, 2, 0, 0, 0), (269, .goto 5, 3, 0, 0, 0)] [.ref 33, .int (nI i), .int (nI n), .int (nI t), .int (nI N), .int (nI fi), .int (nI se), .int (nI th), .int rest, .int (nI a), .int x, .int (nI b), .int y, .int (nI c), .int z] [] (byM M (-9) (-9) (-9)) := by
  have hP := hsm.2.2.2.1 i hi
  have hm6 := hsm.2.2.1
  have hz := z22_lt hn
  have hTz := z22_lt hP.1
  refine p_aloadn_0 ?_
  refine p_aloadn_0 ?_
  refine p_getr rfl rfl ?_
  refine p_iloadn_1 ?_
  refine p_iald rfl (by omega) (by decide) ((hsm.2.2.2.2 i hi).1) ?_
  refine p_ifN_le (tgt := 272) (by decide) (by omega) (fun hc264 => ?_) (fun hc264 => ?_)
  · skip
    have e264 : zbp 0 (P i) a = -9 := if_neg (by omega)
    refine zK.blk rfl ?_
    refine p_bipush (v := -9) (by decide) ?_
    refine zK.blk rfl ?_
    refine p_put rfl rfl (by simp) ?_
    refine p_aloadn_0 ?_
    refine p_aloadn_0 ?_
    refine p_getr rfl rfl ?_
    refine p_iloadn_1 ?_
    refine p_iald rfl (by omega) (by decide) ((hsm.2.2.2.2 i hi).1) ?_
    refine p_iconst (v := nI 1) (by decide) ?_
    refine p_icmpN_le (tgt := 293) (by decide) (by omega) (by omega) (fun hc285 => ?_) (fun hc285 => ?_)
    · skip
      have e285 : zbp 1 (P i) b = -9 := if_neg (by omega)
      refine zK.blk rfl ?_
      refine p_bipush (v := -9) (by decide) ?_
      refine zK.blk rfl ?_
      refine p_put rfl rfl (by simp) ?_
      refine p_aloadn_0 ?_
      refine p_aloadn_0 ?_
      refine p_getr rfl rfl ?_
      refine p_iloadn_1 ?_
      refine p_iald rfl (by omega) (by decide) ((hsm.2.2.2.2 i hi).1) ?_
      refine p_iconst (v := nI 2) (by decide) ?_
      refine p_icmpN_le (tgt := 314) (by decide) (by omega) (by omega) (fun hc306 => ?_) (fun hc306 => ?_)
      · skip
        have e306 : zbp 2 (P i) c = -9 := if_neg (by omega)
        refine zK.blk rfl ?_
        refine p_bipush (v := -9) (by decide) ?_
        refine zK.blk rfl ?_
        refine p_put rfl rfl (by simp) ?_
        refine p_iconst (v := nI 1) (by decide) ?_
        refine p_iret (Or.inr rfl) rfl ?_
        show zup (zup (zup (byM M (-9) (-9) (-9)) 33 6 _) 33 7 _) 33 8 _ = ibM M (P i) (some (a, b, c))
        rw [byM_all, byM_byM]
        show _ = byM M (zbp 0 (P i) a) (zbp 1 (P i) b) (zbp 2 (P i) c)
        rw [e264, e285, e306]
      · skip
        have e306 : zbp 2 (P i) c = nI c := if_pos (by omega)
        refine p_iload_13 ?_
        refine p_goto (tgt := 316) (by decide) ?_
        refine zK.blk rfl ?_
        refine p_put rfl rfl (by simp) ?_
        refine p_iconst (v := nI 1) (by decide) ?_
        refine p_iret (Or.inr rfl) rfl ?_
        show zup (zup (zup (byM M (-9) (-9) (-9)) 33 6 _) 33 7 _) 33 8 _ = ibM M (P i) (some (a, b, c))
        rw [byM_all, byM_byM]
        show _ = byM M (zbp 0 (P i) a) (zbp 1 (P i) b) (zbp 2 (P i) c)
        rw [e264, e285, e306]
    · skip
      have e285 : zbp 1 (P i) b = nI b := if_pos (by omega)
      refine p_iload_11 ?_
      refine p_goto (tgt := 295) (by decide) ?_
      refine zK.blk rfl ?_
      refine p_put rfl rfl (by simp) ?_
      refine p_aloadn_0 ?_
      refine p_aloadn_0 ?_
      refine p_getr rfl rfl ?_
      refine p_iloadn_1 ?_
      refine p_iald rfl (by omega) (by decide) ((hsm.2.2.2.2 i hi).1) ?_
      refine p_iconst (v := nI 2) (by decide) ?_
      refine p_icmpN_le (tgt := 314) (by decide) (by omega) (by omega) (fun hc306 => ?_) (fun hc306 => ?_)
      · skip
        have e306 : zbp 2 (P i) c = -9 := if_neg (by omega)
        refine zK.blk rfl ?_
        refine p_bipush (v := -9) (by decide) ?_
        refine zK.blk rfl ?_
        refine p_put rfl rfl (by simp) ?_
        refine p_iconst (v := nI 1) (by decide) ?_
        refine p_iret (Or.inr rfl) rfl ?_
        show zup (zup (zup (byM M (-9) (-9) (-9)) 33 6 _) 33 7 _) 33 8 _ = ibM M (P i) (some (a, b, c))
        rw [byM_all, byM_byM]
        show _ = byM M (zbp 0 (P i) a) (zbp 1 (P i) b) (zbp 2 (P i) c)
        rw [e264, e285, e306]
      · skip
        have e306 : zbp 2 (P i) c = nI c := if_pos (by omega)
        refine p_iload_13 ?_
        refine p_goto (tgt := 316) (by decide) ?_
        refine zK.blk rfl ?_
        refine p_put rfl rfl (by simp) ?_
        refine p_iconst (v := nI 1) (by decide) ?_
        refine p_iret (Or.inr rfl) rfl ?_
        show zup (zup (zup (byM M (-9) (-9) (-9)) 33 6 _) 33 7 _) 33 8 _ = ibM M (P i) (some (a, b, c))
        rw [byM_all, byM_byM]
        show _ = byM M (zbp 0 (P i) a) (zbp 1 (P i) b) (zbp 2 (P i) c)
        rw [e264, e285, e306]
  · skip
    have e264 : zbp 0 (P i) a = nI a := if_pos (by omega)
    refine p_iload_9 ?_
    refine p_goto (tgt := 274) (by decide) ?_
    refine zK.blk rfl ?_
    refine p_put rfl rfl (by simp) ?_
    refine p_aloadn_0 ?_
    refine p_aloadn_0 ?_
    refine p_getr rfl rfl ?_
    refine p_iloadn_1 ?_
    refine p_iald rfl (by omega) (by decide) ((hsm.2.2.2.2 i hi).1) ?_
    refine p_iconst (v := nI 1) (by decide) ?_
    refine p_icmpN_le (tgt := 293) (by decide) (by omega) (by omega) (fun hc285 => ?_) (fun hc285 => ?_)
    · skip
      have e285 : zbp 1 (P i) b = -9 := if_neg (by omega)
      refine zK.blk rfl ?_
      refine p_bipush (v := -9) (by decide) ?_
      refine zK.blk rfl ?_
      refine p_put rfl rfl (by simp) ?_
      refine p_aloadn_0 ?_
      refine p_aloadn_0 ?_
      refine p_getr rfl rfl ?_
      refine p_iloadn_1 ?_
      refine p_iald rfl (by omega) (by decide) ((hsm.2.2.2.2 i hi).1) ?_
      refine p_iconst (v := nI 2) (by decide) ?_
      refine p_icmpN_le (tgt := 314) (by decide) (by omega) (by omega) (fun hc306 => ?_) (fun hc306 => ?_)
      · skip
        have e306 : zbp 2 (P i) c = -9 := if_neg (by omega)
        refine zK.blk rfl ?_
        refine p_bipush (v := -9) (by decide) ?_
        refine zK.blk rfl ?_
        refine p_put rfl rfl (by simp) ?_
        refine p_iconst (v := nI 1) (by decide) ?_
        refine p_iret (Or.inr rfl) rfl ?_
        show zup (zup (zup (byM M (-9) (-9) (-9)) 33 6 _) 33 7 _) 33 8 _ = ibM M (P i) (some (a, b, c))
        rw [byM_all, byM_byM]
        show _ = byM M (zbp 0 (P i) a) (zbp 1 (P i) b) (zbp 2 (P i) c)
        rw [e264, e285, e306]
      · skip
        have e306 : zbp 2 (P i) c = nI c := if_pos (by omega)
        refine p_iload_13 ?_
        refine p_goto (tgt := 316) (by decide) ?_
        refine zK.blk rfl ?_
        refine p_put rfl rfl (by simp) ?_
        refine p_iconst (v := nI 1) (by decide) ?_
        refine p_iret (Or.inr rfl) rfl ?_
        show zup (zup (zup (byM M (-9) (-9) (-9)) 33 6 _) 33 7 _) 33 8 _ = ibM M (P i) (some (a, b, c))
        rw [byM_all, byM_byM]
        show _ = byM M (zbp 0 (P i) a) (zbp 1 (P i) b) (zbp 2 (P i) c)
        rw [e264, e285, e306]
    · skip
      have e285 : zbp 1 (P i) b = nI b := if_pos (by omega)
      refine p_iload_11 ?_
      refine p_goto (tgt := 295) (by decide) ?_
      refine zK.blk rfl ?_
      refine p_put rfl rfl (by simp) ?_
      refine p_aloadn_0 ?_
      refine p_aloadn_0 ?_
      refine p_getr rfl rfl ?_
      refine p_iloadn_1 ?_
      refine p_iald rfl (by omega) (by decide) ((hsm.2.2.2.2 i hi).1) ?_
      refine p_iconst (v := nI 2) (by decide) ?_
      refine p_icmpN_le (tgt := 314) (by decide) (by omega) (by omega) (fun hc306 => ?_) (fun hc306 => ?_)
      · skip
        have e306 : zbp 2 (P i) c = -9 := if_neg (by omega)
        refine zK.blk rfl ?_
        refine p_bipush (v := -9) (by decide) ?_
        refine zK.blk rfl ?_
        refine p_put rfl rfl (by simp) ?_
        refine p_iconst (v := nI 1) (by decide) ?_
        refine p_iret (Or.inr rfl) rfl ?_
        show zup (zup (zup (byM M (-9) (-9) (-9)) 33 6 _) 33 7 _) 33 8 _ = ibM M (P i) (some (a, b, c))
        rw [byM_all, byM_byM]
        show _ = byM M (zbp 0 (P i) a) (zbp 1 (P i) b) (zbp 2 (P i) c)
        rw [e264, e285, e306]
      · skip
        have e306 : zbp 2 (P i) c = nI c := if_pos (by omega)
        refine p_iload_13 ?_
        refine p_goto (tgt := 316) (by decide) ?_
        refine zK.blk rfl ?_
        refine p_put rfl rfl (by simp) ?_
        refine p_iconst (v := nI 1) (by decide) ?_
        refine p_iret (Or.inr rfl) rfl ?_
        show zup (zup (zup (byM M (-9) (-9) (-9)) 33 6 _) 33 7 _) 33 8 _ = ibM M (P i) (some (a, b, c))
        rw [byM_all, byM_byM]
        show _ = byM M (zbp 0 (P i) a) (zbp 1 (P i) b) (zbp 2 (P i) c)
        rw [e264, e285, e306]
set_option maxRecDepth 100000 in
set_option maxHeartbeats 4000000 in
theorem st_104_219 {sc : Nat × (Nat → Int32)} {d : Nat} {M : zM} {m n N : Nat} {P T K : Nat → Nat} {i t fi se th a b c : Nat} {rest x y z : Int32} {o : Option (Nat × Nat × Nat)} (hsm : sgM M m P T K) (hn : n < 4) (hN : N = z22 n) (hi : i < m) (ht : t < N) (ha : a < 256) (hb : b < 256) (hc : c < 256) (hk : zK 47 sc (zC 47 sc (d + 1)) 104 (some (.int (ibR o))) (ibM M (P i) o) 321 [.ref 33, .int (nI i), .int (nI n), .int (nI t), .int (nI N), .int (nI fi), .int (nI se), .int (nI th), .int rest, .int (nI a), .int x, .int (nI b), .int y, .int (nI c), .null] [] (byM M (-9) (-9) (-9))) : zK 47 sc (zC 47 sc (d + 1)) 104 (some (.int (ibR (if x + y + z = rest ∧ ¬ z = -9 ∧ toN (T i) (1 <<< n) a b c = t then some (a, b, c) else o)))) (ibM M (P i) (if x + y + z = rest ∧ ¬ z = -9 ∧ toN (T i) (1 <<< n) a b c = t then some (a, b, c) else o)) 219 [.ref 33, .int (nI i), .int (nI n), .int (nI t), .int (nI N), .int (nI fi), .int (nI se), .int (nI th), .int rest, .int (nI a), .int x, .int (nI b), .int y, .int (nI c), .null] [.int z] (byM M (-9) (-9) (-9)) := by
  have hP := hsm.2.2.2.1 i hi
  have hm6 := hsm.2.2.1
  have hz := z22_lt hn
  have hTz := z22_lt hP.1
  refine zK.blk rfl ?_
  refine p_istore_14 rfl ?_
  refine p_iload_14 ?_
  refine p_bipush (v := -9) (by decide) ?_
  refine p_icmp_eq (tgt := 321) (by decide) (fun hc225 => ?_) (fun hc225 => ?_)
  · skip
    rw [show (if x + y + z = rest ∧ ¬ z = -9 ∧ toN (T i) (1 <<< n) a b c = t then some (a, b, c) else o) = o from if_neg (fun h => h.2.1 hc225)]
    refine zK.forget _ ?_ hk
    exact ⟨Or.inl rfl, Or.inl rfl, Or.inl rfl, Or.inl rfl, Or.inl rfl, Or.inl rfl, Or.inl rfl, Or.inl rfl, Or.inl rfl, Or.inl rfl, Or.inl rfl, Or.inl rfl, Or.inl rfl, Or.inl rfl, Or.inr rfl, trivial⟩
  · skip
    refine p_iload_10 ?_
    refine p_iload_12 ?_
    refine p_iadd ?_
    refine p_iload_14 ?_
    refine p_iadd ?_
    refine p_iload_8 ?_
    refine p_icmp_ne (tgt := 321) (by decide) (fun hc238 => ?_) (fun hc238 => ?_)
    · skip
      rw [show (if x + y + z = rest ∧ ¬ z = -9 ∧ toN (T i) (1 <<< n) a b c = t then some (a, b, c) else o) = o from if_neg (fun h => hc238 h.1)]
      refine zK.forget _ ?_ hk
      exact ⟨Or.inl rfl, Or.inl rfl, Or.inl rfl, Or.inl rfl, Or.inl rfl, Or.inl rfl, Or.inl rfl, Or.inl rfl, Or.inl rfl, Or.inl rfl, Or.inl rfl, Or.inl rfl, Or.inl rfl, Or.inl rfl, Or.inr rfl, trivial⟩
    · skip
      have ht1 := zt_256 (t := T i) (a := a) (b := b) (c := c) hn
      refine p_aloadn_0 ?_
      refine p_iloadn_1 ?_
      refine p_iloadn_2 ?_
      refine p_iload_9 ?_
      refine p_iload_11 ?_
      refine p_iload_13 ?_
      refine p_cv5i rfl rfl rfl rfl rfl (c_98 hn (by omega) (hsm.2.2.2.2 i hi).2.1 (by omega) (by omega) (by omega) (by omega)) ?_
      refine p_iloadn_3 ?_
      refine p_icmpN_ne (tgt := 321) (by decide) (by omega) (by omega) (fun hc254 => ?_) (fun hc254 => ?_)
      · skip
        rw [show (if x + y + z = rest ∧ ¬ z = -9 ∧ toN (T i) (1 <<< n) a b c = t then some (a, b, c) else o) = o from if_neg (fun h => hc254 h.2.2)]
        refine zK.forget _ ?_ hk
        exact ⟨Or.inl rfl, Or.inl rfl, Or.inl rfl, Or.inl rfl, Or.inl rfl, Or.inl rfl, Or.inl rfl, Or.inl rfl, Or.inl rfl, Or.inl rfl, Or.inl rfl, Or.inl rfl, Or.inl rfl, Or.inl rfl, Or.inr rfl, trivial⟩
      · skip
        rw [show (if x + y + z = rest ∧ ¬ z = -9 ∧ toN (T i) (1 <<< n) a b c = t then some (a, b, c) else o) = some (a, b, c) from if_pos ⟨Classical.not_not.mp hc238, hc225, Classical.not_not.mp hc254⟩]
        have hend := st_104_257 (sc := sc) (d := d) (x := x) (y := y) (z := z) (fi := fi) (se := se) (th := th) (rest := rest) hsm hn hN hi ht ha hb hc
        exact hend --STOP
def ibE (e o : Option (Nat × Nat × Nat)) : Option (Nat × Nat × Nat) := match e with
  | some v => some v
  | none => o
theorem ibE_n (o : Option (Nat × Nat × Nat)) : ibE none o = o := rfl
theorem ibE_C {f : Nat → Int32} {p T n t : Nat} {rest : Int32} {a b : Nat} {x y : Int32} {j c : Nat} {z : Int32} {o : Option (Nat × Nat × Nat)} (hz : zx 2 p f c = z) : ibE (ibC f p T n t rest a b x y (j + 1) c) o = if x + y + z = rest ∧ ¬ z = -9 ∧ toN T (1 <<< n) a b c = t then some (a, b, c) else ibE (ibC f p T n t rest a b x y j (c + 1)) o := by
  subst hz
  show ibE (if _ then _ else _) o = _
  split
  · rfl
  · rfl
set_option maxRecDepth 100000 in
set_option maxHeartbeats 4000000 in
theorem lp_104_174 {sc : Nat × (Nat → Int32)} {d : Nat} {M : zM} {m n N : Nat} {P T K : Nat → Nat} {i t fi se th a b : Nat} {f : Nat → Int32} {rest x y : Int32} {o : Option (Nat × Nat × Nat)} (hsm : sgM M m P T K) (hn : n < 4) (hN : N = z22 n) (hi : i < m) (ht : t < N) (hf : M 37 = f) (ha : a < 256) (hb : b < 256) (hth : th ≤ 256) (hy : ¬ y = -9) (hxy : ¬ rest < x + y) : ∀ (j c : Nat), c + j = th → zK 47 sc (zC 47 sc (d + 1)) 104 (some (.int (ibR o))) (ibM M (P i) o) 327 [.ref 33, .int (nI i), .int (nI n), .int (nI t), .int (nI N), .int (nI fi), .int (nI se), .int (nI th), .int rest, .int (nI a), .int x, .int (nI b), .int y, .int (nI th), .null] [] (byM M (-9) (-9) (-9)) → zK 47 sc (zC 47 sc (d + 1)) 104 (some (.int (ibR (ibE (ibC f (P i) (T i) n t rest a b x y j c) o)))) (ibM M (P i) (ibE (ibC f (P i) (T i) n t rest a b x y j c) o)) 174 [.ref 33, .int (nI i), .int (nI n), .int (nI t), .int (nI N), .int (nI fi), .int (nI se), .int (nI th), .int rest, .int (nI a), .int x, .int (nI b), .int y, .int (nI c), .null] [] (byM M (-9) (-9) (-9)) := by
  have hP := hsm.2.2.2.1 i hi
  have hm6 := hsm.2.2.1
  have hz := z22_lt hn
  have hTz := z22_lt hP.1
  intro j
  induction j with
  | zero =>
    intro c hj hk
    have hin : c = th := by omega
    subst hin
    refine zK.blk rfl ?_
    refine p_iload_13 ?_
    refine p_iload_7 ?_
    refine p_icmpN_ge (tgt := 327) (by decide) (by omega) (by omega) (fun hc178 => ?_) (fun hc178 => ?_)
    · skip
      exact hk
    · skip
      exact absurd hc178 (by omega) --STOP
  | succ j ih =>
    intro c hj hk
    refine zK.blk rfl ?_
    refine p_iload_13 ?_
    refine p_iload_7 ?_
    refine p_icmpN_ge (tgt := 327) (by decide) (by omega) (by omega) (fun hc178 => ?_) (fun hc178 => ?_)
    · skip
      exact absurd hc178 (by omega) --STOP
    · skip
      refine p_iload_12 ?_
      refine p_bipush (v := -9) (by decide) ?_
      refine p_icmp_eq (tgt := 327) (by decide) (fun hc185 => ?_) (fun hc185 => ?_)
      · skip
        exact absurd hc185 hy --STOP
      · skip
        refine p_iload_10 ?_
        refine p_iload_12 ?_
        refine p_iadd ?_
        refine p_iload_8 ?_
        refine p_icmp_gt (tgt := 327) (by decide) (fun hc195 => ?_) (fun hc195 => ?_)
        · skip
          exact absurd hc195 hxy --STOP
        · skip
          refine p_aloadn_0 ?_
          refine p_getr rfl rfl ?_
          refine p_iloadn_1 ?_
          refine p_iald rfl (by omega) (by decide) ((hsm.2.2.2.2 i hi).1) ?_
          refine p_iconst (v := nI 2) (by decide) ?_
          refine p_icmpN_le (tgt := 218) (by decide) (by omega) (by omega) (fun hc205 => ?_) (fun hc205 => ?_)
          · skip
            rw [ibE_C (z := nI 0) (zx_n hc205)]
            refine zK.blk rfl ?_
            refine p_iconst (v := nI 0) (by decide) ?_
            refine st_104_219 hsm hn hN hi ht ha hb (by omega) ?_
            refine zK.blk rfl ?_
            refine p_iinc_13 (zN_inc _ 1) rfl ?_
            refine p_goto (tgt := 174) (by decide) ?_
            exact ih (c + 1) (by omega) hk
          · skip
            rw [ibE_C (z := f c) (zx_y (by omega))]
            refine p_aloadn_0 ?_
            refine p_getr rfl rfl ?_
            refine p_iload_13 ?_
            refine p_iald (v := f c) rfl (by omega) (by decide) (by rw [← hf]; rfl) ?_
            refine p_goto (tgt := 219) (by decide) ?_
            refine st_104_219 hsm hn hN hi ht ha hb (by omega) ?_
            refine zK.blk rfl ?_
            refine p_iinc_13 (zN_inc _ 1) rfl ?_
            refine p_goto (tgt := 174) (by decide) ?_
            exact ih (c + 1) (by omega) hk
set_option maxRecDepth 100000 in
set_option maxHeartbeats 4000000 in
theorem st_104_169 {sc : Nat × (Nat → Int32)} {d : Nat} {M : zM} {m n N : Nat} {P T K : Nat → Nat} {i t fi se th a b : Nat} {f : Nat → Int32} {rest x y : Int32} {o : Option (Nat × Nat × Nat)} (hsm : sgM M m P T K) (hn : n < 4) (hN : N = z22 n) (hi : i < m) (ht : t < N) (hf : M 37 = f) (ha : a < 256) (hb : b < 256) (hth : zfs 2 (P i) N = th) (hk : zK 47 sc (zC 47 sc (d + 1)) 104 (some (.int (ibR o))) (ibM M (P i) o) 327 [.ref 33, .int (nI i), .int (nI n), .int (nI t), .int (nI N), .int (nI fi), .int (nI se), .int (nI th), .int rest, .int (nI a), .int x, .int (nI b), .null, .null, .null] [] (byM M (-9) (-9) (-9))) : zK 47 sc (zC 47 sc (d + 1)) 104 (some (.int (ibR (ibE (ibY f (P i) (T i) n N t rest a b x y) o)))) (ibM M (P i) (ibE (ibY f (P i) (T i) n N t rest a b x y) o)) 169 [.ref 33, .int (nI i), .int (nI n), .int (nI t), .int (nI N), .int (nI fi), .int (nI se), .int (nI th), .int rest, .int (nI a), .int x, .int (nI b), .null, .null, .null] [.int y] (byM M (-9) (-9) (-9)) := by
  have hP := hsm.2.2.2.1 i hi
  have hm6 := hsm.2.2.1
  have hz := z22_lt hn
  have hTz := z22_lt hP.1
  have hth1 : 1 ≤ th ∧ th ≤ 256 := by rw [← hth]; unfold zfs; split <;> omega
  refine zK.blk rfl ?_
  refine p_istore_12 rfl ?_
  refine p_iconst (v := nI 0) (by decide) ?_
  refine p_istore_13 rfl ?_
  by_cases hy : y = -9 ∨ rest < x + y
  · have e : ibY f (P i) (T i) n N t rest a b x y = none := if_pos hy
    rw [e, ibE_n]
    refine zK.blk rfl ?_
    refine p_iload_13 ?_
    refine p_iload_7 ?_
    refine p_icmpN_ge (tgt := 327) (by decide) (by omega) (by omega) (fun hc178 => ?_) (fun hc178 => ?_)
    · exact absurd hc178 (by omega)
    · refine p_iload_12 ?_
      refine p_bipush (v := -9) (by decide) ?_
      refine p_icmp_eq (tgt := 327) (by decide) (fun hc185 => ?_) (fun hc185 => ?_)
      · refine zK.forget _ ?_ hk
        exact ⟨Or.inl rfl, Or.inl rfl, Or.inl rfl, Or.inl rfl, Or.inl rfl, Or.inl rfl, Or.inl rfl, Or.inl rfl, Or.inl rfl, Or.inl rfl, Or.inl rfl, Or.inl rfl, Or.inr rfl, Or.inr rfl, Or.inr rfl, trivial⟩
      · refine p_iload_10 ?_
        refine p_iload_12 ?_
        refine p_iadd ?_
        refine p_iload_8 ?_
        refine p_icmp_gt (tgt := 327) (by decide) (fun hc195 => ?_) (fun hc195 => absurd hy (fun h => h.elim hc185 hc195))
        refine zK.forget _ ?_ hk
        exact ⟨Or.inl rfl, Or.inl rfl, Or.inl rfl, Or.inl rfl, Or.inl rfl, Or.inl rfl, Or.inl rfl, Or.inl rfl, Or.inl rfl, Or.inl rfl, Or.inl rfl, Or.inl rfl, Or.inr rfl, Or.inr rfl, Or.inr rfl, trivial⟩
  · have e : ibY f (P i) (T i) n N t rest a b x y = ibC f (P i) (T i) n t rest a b x y th 0 := (if_neg hy).trans (by rw [hth])
    rw [e]
    refine lp_104_174 hsm hn hN hi ht hf ha hb (by omega) (fun h => hy (Or.inl h)) (fun h => hy (Or.inr h)) th 0 (by omega) ?_
    refine zK.forget _ ?_ hk
    exact ⟨Or.inl rfl, Or.inl rfl, Or.inl rfl, Or.inl rfl, Or.inl rfl, Or.inl rfl, Or.inl rfl, Or.inl rfl, Or.inl rfl, Or.inl rfl, Or.inl rfl, Or.inl rfl, Or.inr rfl, Or.inr rfl, Or.inr rfl, trivial⟩
theorem ibE_B {f : Nat → Int32} {p T n N t : Nat} {rest : Int32} {a b : Nat} {x y : Int32} {j : Nat} {o : Option (Nat × Nat × Nat)} (hy : zx 1 p f b = y) : ibE (ibB f p T n N t rest a x (j + 1) b) o = ibE (ibY f p T n N t rest a b x y) (ibE (ibB f p T n N t rest a x j (b + 1)) o) := by
  subst hy
  show ibE (match ibY f p T n N t rest a b x (zx 1 p f b) with | some v => some v | none => ibB f p T n N t rest a x j (b + 1)) o = _
  cases ibY f p T n N t rest a b x (zx 1 p f b) with
  | none => rfl
  | some v => rfl
theorem ibE_A {f : Nat → Int32} {p T n N t : Nat} {rest : Int32} {a : Nat} {x : Int32} {j : Nat} {o : Option (Nat × Nat × Nat)} (hx : zx 0 p f a = x) : ibE (ibA f p T n N t rest (j + 1) a) o = ibE (ibX f p T n N t rest a x) (ibE (ibA f p T n N t rest j (a + 1)) o) := by
  subst hx
  show ibE (match ibX f p T n N t rest a (zx 0 p f a) with | some v => some v | none => ibA f p T n N t rest j (a + 1)) o = _
  cases ibX f p T n N t rest a (zx 0 p f a) with
  | none => rfl
  | some v => rfl
set_option maxRecDepth 100000 in
set_option maxHeartbeats 4000000 in
theorem lp_104_127 {sc : Nat × (Nat → Int32)} {d : Nat} {M : zM} {m n N : Nat} {P T K : Nat → Nat} {i t fi se th a : Nat} {f : Nat → Int32} {rest x : Int32} {o : Option (Nat × Nat × Nat)} (hsm : sgM M m P T K) (hn : n < 4) (hN : N = z22 n) (hi : i < m) (ht : t < N) (hf : M 37 = f) (ha : a < 256) (hth : zfs 2 (P i) N = th) (hse : se ≤ 256) (hx : ¬ x = -9) (hxr : ¬ rest < x) : ∀ (j b : Nat), b + j = se → zK 47 sc (zC 47 sc (d + 1)) 104 (some (.int (ibR o))) (ibM M (P i) o) 333 [.ref 33, .int (nI i), .int (nI n), .int (nI t), .int (nI N), .int (nI fi), .int (nI se), .int (nI th), .int rest, .int (nI a), .int x, .int (nI se), .null, .null, .null] [] (byM M (-9) (-9) (-9)) → zK 47 sc (zC 47 sc (d + 1)) 104 (some (.int (ibR (ibE (ibB f (P i) (T i) n N t rest a x j b) o)))) (ibM M (P i) (ibE (ibB f (P i) (T i) n N t rest a x j b) o)) 127 [.ref 33, .int (nI i), .int (nI n), .int (nI t), .int (nI N), .int (nI fi), .int (nI se), .int (nI th), .int rest, .int (nI a), .int x, .int (nI b), .null, .null, .null] [] (byM M (-9) (-9) (-9)) := by
  have hP := hsm.2.2.2.1 i hi
  have hm6 := hsm.2.2.1
  have hz := z22_lt hn
  have hTz := z22_lt hP.1
  intro j
  induction j with
  | zero =>
    intro b hj hk
    have hin : b = se := by omega
    subst hin
    refine zK.blk rfl ?_
    refine p_iload_11 ?_
    refine p_iload_6 ?_
    refine p_icmpN_ge (tgt := 333) (by decide) (by omega) (by omega) (fun hc131 => ?_) (fun hc131 => ?_)
    · skip
      exact hk
    · skip
      exact absurd hc131 (by omega) --STOP
  | succ j ih =>
    intro b hj hk
    refine zK.blk rfl ?_
    refine p_iload_11 ?_
    refine p_iload_6 ?_
    refine p_icmpN_ge (tgt := 333) (by decide) (by omega) (by omega) (fun hc131 => ?_) (fun hc131 => ?_)
    · skip
      exact absurd hc131 (by omega) --STOP
    · skip
      refine p_iload_10 ?_
      refine p_bipush (v := -9) (by decide) ?_
      refine p_icmp_eq (tgt := 333) (by decide) (fun hc138 => ?_) (fun hc138 => ?_)
      · skip
        exact absurd hc138 hx --STOP
      · skip
        refine p_iload_10 ?_
        refine p_iload_8 ?_
        refine p_icmp_gt (tgt := 333) (by decide) (fun hc145 => ?_) (fun hc145 => ?_)
        · skip
          exact absurd hc145 hxr --STOP
        · skip
          refine p_aloadn_0 ?_
          refine p_getr rfl rfl ?_
          refine p_iloadn_1 ?_
          refine p_iald rfl (by omega) (by decide) ((hsm.2.2.2.2 i hi).1) ?_
          refine p_iconst (v := nI 1) (by decide) ?_
          refine p_icmpN_le (tgt := 168) (by decide) (by omega) (by omega) (fun hc155 => ?_) (fun hc155 => ?_)
          · skip
            rw [ibE_B (y := nI 0) (zx_n hc155)]
            refine zK.blk rfl ?_
            refine p_iconst (v := nI 0) (by decide) ?_
            refine st_104_169 hsm hn hN hi ht hf ha (by omega) hth ?_
            refine zK.blk rfl ?_
            refine p_iinc_11 (zN_inc _ 1) rfl ?_
            refine p_goto (tgt := 127) (by decide) ?_
            exact ih (b + 1) (by omega) hk
          · skip
            rw [ibE_B (y := f b) (zx_y (by omega))]
            refine p_aloadn_0 ?_
            refine p_getr rfl rfl ?_
            refine p_iload_11 ?_
            refine p_iald (v := f b) rfl (by omega) (by decide) (by rw [← hf]; rfl) ?_
            refine p_goto (tgt := 169) (by decide) ?_
            refine st_104_169 hsm hn hN hi ht hf ha (by omega) hth ?_
            refine zK.blk rfl ?_
            refine p_iinc_11 (zN_inc _ 1) rfl ?_
            refine p_goto (tgt := 127) (by decide) ?_
            exact ih (b + 1) (by omega) hk
set_option maxRecDepth 100000 in
set_option maxHeartbeats 4000000 in
theorem st_104_122 {sc : Nat × (Nat → Int32)} {d : Nat} {M : zM} {m n N : Nat} {P T K : Nat → Nat} {i t fi se th a : Nat} {f : Nat → Int32} {rest x : Int32} {o : Option (Nat × Nat × Nat)} (hsm : sgM M m P T K) (hn : n < 4) (hN : N = z22 n) (hi : i < m) (ht : t < N) (hf : M 37 = f) (ha : a < 256) (hth : zfs 2 (P i) N = th) (hse : zfs 1 (P i) N = se) (hk : zK 47 sc (zC 47 sc (d + 1)) 104 (some (.int (ibR o))) (ibM M (P i) o) 333 [.ref 33, .int (nI i), .int (nI n), .int (nI t), .int (nI N), .int (nI fi), .int (nI se), .int (nI th), .int rest, .int (nI a), .null, .null, .null, .null, .null] [] (byM M (-9) (-9) (-9))) : zK 47 sc (zC 47 sc (d + 1)) 104 (some (.int (ibR (ibE (ibX f (P i) (T i) n N t rest a x) o)))) (ibM M (P i) (ibE (ibX f (P i) (T i) n N t rest a x) o)) 122 [.ref 33, .int (nI i), .int (nI n), .int (nI t), .int (nI N), .int (nI fi), .int (nI se), .int (nI th), .int rest, .int (nI a), .null, .null, .null, .null, .null] [.int x] (byM M (-9) (-9) (-9)) := by
  have hP := hsm.2.2.2.1 i hi
  have hm6 := hsm.2.2.1
  have hz := z22_lt hn
  have hTz := z22_lt hP.1
  have hse1 : 1 ≤ se ∧ se ≤ 256 := by rw [← hse]; unfold zfs; split <;> omega
  refine zK.blk rfl ?_
  refine p_istore_10 rfl ?_
  refine p_iconst (v := nI 0) (by decide) ?_
  refine p_istore_11 rfl ?_
  by_cases hx : x = -9 ∨ rest < x
  · have e : ibX f (P i) (T i) n N t rest a x = none := if_pos hx
    rw [e, ibE_n]
    refine zK.blk rfl ?_
    refine p_iload_11 ?_
    refine p_iload_6 ?_
    refine p_icmpN_ge (tgt := 333) (by decide) (by omega) (by omega) (fun hc131 => ?_) (fun hc131 => ?_)
    · exact absurd hc131 (by omega)
    · refine p_iload_10 ?_
      refine p_bipush (v := -9) (by decide) ?_
      refine p_icmp_eq (tgt := 333) (by decide) (fun hc138 => ?_) (fun hc138 => ?_)
      · refine zK.forget _ ?_ hk
        exact ⟨Or.inl rfl, Or.inl rfl, Or.inl rfl, Or.inl rfl, Or.inl rfl, Or.inl rfl, Or.inl rfl, Or.inl rfl, Or.inl rfl, Or.inl rfl, Or.inr rfl, Or.inr rfl, Or.inr rfl, Or.inr rfl, Or.inr rfl, trivial⟩
      · refine p_iload_10 ?_
        refine p_iload_8 ?_
        refine p_icmp_gt (tgt := 333) (by decide) (fun hc145 => ?_) (fun hc145 => absurd hx (fun h => h.elim hc138 hc145))
        refine zK.forget _ ?_ hk
        exact ⟨Or.inl rfl, Or.inl rfl, Or.inl rfl, Or.inl rfl, Or.inl rfl, Or.inl rfl, Or.inl rfl, Or.inl rfl, Or.inl rfl, Or.inl rfl, Or.inr rfl, Or.inr rfl, Or.inr rfl, Or.inr rfl, Or.inr rfl, trivial⟩
  · have e : ibX f (P i) (T i) n N t rest a x = ibB f (P i) (T i) n N t rest a x se 0 := (if_neg hx).trans (by rw [hse])
    rw [e]
    refine lp_104_127 hsm hn hN hi ht hf ha hth (by omega) (fun h => hx (Or.inl h)) (fun h => hx (Or.inr h)) se 0 (by omega) ?_
    refine zK.forget _ ?_ hk
    exact ⟨Or.inl rfl, Or.inl rfl, Or.inl rfl, Or.inl rfl, Or.inl rfl, Or.inl rfl, Or.inl rfl, Or.inl rfl, Or.inl rfl, Or.inl rfl, Or.inr rfl, Or.inr rfl, Or.inr rfl, Or.inr rfl, Or.inr rfl, trivial⟩
set_option maxRecDepth 100000 in
set_option maxHeartbeats 4000000 in
theorem lp_104_95 {sc : Nat × (Nat → Int32)} {d : Nat} {M : zM} {m n N : Nat} {P T K : Nat → Nat} {i t fi se th : Nat} {f : Nat → Int32} {rest : Int32} {o : Option (Nat × Nat × Nat)} (hsm : sgM M m P T K) (hn : n < 4) (hN : N = z22 n) (hi : i < m) (ht : t < N) (hf : M 37 = f) (hth : zfs 2 (P i) N = th) (hse : zfs 1 (P i) N = se) (hfi : fi ≤ 256) : ∀ (j a : Nat), a + j = fi → zK 47 sc (zC 47 sc (d + 1)) 104 (some (.int (ibR o))) (ibM M (P i) o) 339 [.ref 33, .int (nI i), .int (nI n), .int (nI t), .int (nI N), .int (nI fi), .int (nI se), .int (nI th), .int rest, .int (nI fi), .null, .null, .null, .null, .null] [] (byM M (-9) (-9) (-9)) → zK 47 sc (zC 47 sc (d + 1)) 104 (some (.int (ibR (ibE (ibA f (P i) (T i) n N t rest j a) o)))) (ibM M (P i) (ibE (ibA f (P i) (T i) n N t rest j a) o)) 95 [.ref 33, .int (nI i), .int (nI n), .int (nI t), .int (nI N), .int (nI fi), .int (nI se), .int (nI th), .int rest, .int (nI a), .null, .null, .null, .null, .null] [] (byM M (-9) (-9) (-9)) := by
  have hP := hsm.2.2.2.1 i hi
  have hm6 := hsm.2.2.1
  have hz := z22_lt hn
  have hTz := z22_lt hP.1
  intro j
  induction j with
  | zero =>
    intro a hj hk
    have hin : a = fi := by omega
    subst hin
    refine zK.blk rfl ?_
    refine p_iload_9 ?_
    refine p_iload_5 ?_
    refine p_icmpN_ge (tgt := 339) (by decide) (by omega) (by omega) (fun hc99 => ?_) (fun hc99 => ?_)
    · skip
      exact hk
    · skip
      exact absurd hc99 (by omega) --STOP
  | succ j ih =>
    intro a hj hk
    refine zK.blk rfl ?_
    refine p_iload_9 ?_
    refine p_iload_5 ?_
    refine p_icmpN_ge (tgt := 339) (by decide) (by omega) (by omega) (fun hc99 => ?_) (fun hc99 => ?_)
    · skip
      exact absurd hc99 (by omega) --STOP
    · skip
      refine p_aloadn_0 ?_
      refine p_getr rfl rfl ?_
      refine p_iloadn_1 ?_
      refine p_iald rfl (by omega) (by decide) ((hsm.2.2.2.2 i hi).1) ?_
      refine p_ifN_le (tgt := 121) (by decide) (by omega) (fun hc108 => ?_) (fun hc108 => ?_)
      · skip
        rw [ibE_A (x := nI 0) (zx_n hc108)]
        refine zK.blk rfl ?_
        refine p_iconst (v := nI 0) (by decide) ?_
        refine st_104_122 hsm hn hN hi ht hf (by omega) hth hse ?_
        refine zK.blk rfl ?_
        refine p_iinc_9 (zN_inc _ 1) rfl ?_
        refine p_goto (tgt := 95) (by decide) ?_
        exact ih (a + 1) (by omega) hk
      · skip
        rw [ibE_A (x := f a) (zx_y (by omega))]
        refine p_aloadn_0 ?_
        refine p_getr rfl rfl ?_
        refine p_iload_9 ?_
        refine p_iald (v := f a) rfl (by omega) (by decide) (by rw [← hf]; rfl) ?_
        refine p_goto (tgt := 122) (by decide) ?_
        refine st_104_122 hsm hn hN hi ht hf (by omega) hth hse ?_
        refine zK.blk rfl ?_
        refine p_iinc_9 (zN_inc _ 1) rfl ?_
        refine p_goto (tgt := 95) (by decide) ?_
        exact ih (a + 1) (by omega) hk
theorem ibE_id (o : Option (Nat × Nat × Nat)) : ibE o none = o := by cases o <;> rfl
set_option maxRecDepth 100000 in
set_option maxHeartbeats 4000000 in
theorem c_104 {sc : Nat × (Nat → Int32)} {d : Nat} {M : zM} {m n N : Nat} {P T K : Nat → Nat} {i t : Nat} {f : Nat → Int32} (hsm : sgM M m P T K) (hn : n < 4) (hN : N = z22 n) (hi : i < m) (ht : t < N) (hf : M 37 = f) : zC 47 sc (d + 2) 104 [.ref 33, .int (nI i), .int (nI n), .int (nI t)] M (some (.int (ibR (ibN f (P i) (T i) (K i) n N t)))) (ibM M (P i) (ibN f (P i) (T i) (K i) n N t)) := by
  have hP := hsm.2.2.2.1 i hi
  have hm6 := hsm.2.2.1
  have hz := z22_lt hn
  have hTz := z22_lt hP.1
  have hN91 : ∀ M : zM, zC 47 sc (d + 1) 91 [.int (nI n)] M (some (.int (nI N))) M := fun M => by rw [hN]; exact c_91 hn
  have hid := ibE_id (ibN f (P i) (T i) (K i) n N t)
  refine z_enter (L := [.ref 33, .int (nI i), .int (nI n), .int (nI t), .null, .null, .null, .null, .null, .null, .null, .null, .null, .null, .null]) rfl rfl rfl ?_
  refine zK.blk rfl ?_
  refine p_iloadn_2 ?_
  refine p_cs1i rfl rfl rfl rfl rfl (hN91 M) ?_
  refine p_istore_4 rfl ?_
  refine p_aloadn_0 ?_
  refine p_bipush (v := -9) (by decide) ?_
  refine p_put rfl rfl (by simp) ?_
  refine p_aloadn_0 ?_
  refine p_bipush (v := -9) (by decide) ?_
  refine p_put rfl rfl (by simp) ?_
  refine p_aloadn_0 ?_
  refine p_bipush (v := -9) (by decide) ?_
  refine p_put rfl rfl (by simp) ?_
  rw [byM_all]
  refine p_aloadn_0 ?_
  refine p_getr rfl rfl ?_
  refine p_iloadn_1 ?_
  refine p_iald rfl (by omega) (by decide) ((hsm.2.2.2.2 i hi).1) ?_
  refine p_ifN_le (tgt := 38) (by decide) (by omega) (fun hc30 => ?_) (fun hc30 => ?_)
  · skip
    have e5 : zfs 0 (P i) N = 1 := if_neg (by omega)
    refine zK.blk rfl ?_
    refine p_iconst (v := nI 1) (by decide) ?_
    refine zK.blk rfl ?_
    refine p_istore_5 rfl ?_
    refine p_aloadn_0 ?_
    refine p_getr rfl rfl ?_
    refine p_iloadn_1 ?_
    refine p_iald rfl (by omega) (by decide) ((hsm.2.2.2.2 i hi).1) ?_
    refine p_iconst (v := nI 1) (by decide) ?_
    refine p_icmpN_le (tgt := 56) (by decide) (by omega) (by omega) (fun hc48 => ?_) (fun hc48 => ?_)
    · skip
      have e6 : zfs 1 (P i) N = 1 := if_neg (by omega)
      refine zK.blk rfl ?_
      refine p_iconst (v := nI 1) (by decide) ?_
      refine zK.blk rfl ?_
      refine p_istore_6 rfl ?_
      refine p_aloadn_0 ?_
      refine p_getr rfl rfl ?_
      refine p_iloadn_1 ?_
      refine p_iald rfl (by omega) (by decide) ((hsm.2.2.2.2 i hi).1) ?_
      refine p_iconst (v := nI 2) (by decide) ?_
      refine p_icmpN_le (tgt := 74) (by decide) (by omega) (by omega) (fun hc66 => ?_) (fun hc66 => ?_)
      · skip
        have e7 : zfs 2 (P i) N = 1 := if_neg (by omega)
        refine zK.blk rfl ?_
        refine p_iconst (v := nI 1) (by decide) ?_
        refine zK.blk rfl ?_
        refine p_istore_7 rfl ?_
        refine p_aloadn_0 ?_
        refine p_getr rfl rfl ?_
        refine p_iloadn_3 ?_
        refine p_iald (v := f t) rfl (by omega) (by decide) (by rw [← hf]; rfl) ?_
        refine p_aloadn_0 ?_
        refine p_getr rfl rfl ?_
        refine p_iloadn_1 ?_
        refine p_iald (v := nI (K i)) rfl (by omega) (by decide) (hsm.2.2.2.2 i hi).2.2 ?_
        refine p_isub ?_
        refine p_istore_8 rfl ?_
        refine p_iconst (v := nI 0) (by decide) ?_
        refine p_istore_9 rfl ?_
        rw [← hid]
        unfold ibN
        rw [e5]
        refine lp_104_95 hsm hn hN hi ht hf e7 e6 (by omega) _ 0 (Nat.zero_add _) ?_
        refine zK.blk rfl ?_
        refine p_iconst (v := nI 0) (by decide) ?_
        exact p_iret (Or.inl rfl) rfl rfl
      · skip
        have e7 : zfs 2 (P i) N = N := if_pos (by omega)
        refine p_iload_4 ?_
        refine p_goto (tgt := 75) (by decide) ?_
        refine zK.blk rfl ?_
        refine p_istore_7 rfl ?_
        refine p_aloadn_0 ?_
        refine p_getr rfl rfl ?_
        refine p_iloadn_3 ?_
        refine p_iald (v := f t) rfl (by omega) (by decide) (by rw [← hf]; rfl) ?_
        refine p_aloadn_0 ?_
        refine p_getr rfl rfl ?_
        refine p_iloadn_1 ?_
        refine p_iald (v := nI (K i)) rfl (by omega) (by decide) (hsm.2.2.2.2 i hi).2.2 ?_
        refine p_isub ?_
        refine p_istore_8 rfl ?_
        refine p_iconst (v := nI 0) (by decide) ?_
        refine p_istore_9 rfl ?_
        rw [← hid]
        unfold ibN
        rw [e5]
        refine lp_104_95 hsm hn hN hi ht hf e7 e6 (by omega) _ 0 (Nat.zero_add _) ?_
        refine zK.blk rfl ?_
        refine p_iconst (v := nI 0) (by decide) ?_
        exact p_iret (Or.inl rfl) rfl rfl
    · skip
      have e6 : zfs 1 (P i) N = N := if_pos (by omega)
      refine p_iload_4 ?_
      refine p_goto (tgt := 57) (by decide) ?_
      refine zK.blk rfl ?_
      refine p_istore_6 rfl ?_
      refine p_aloadn_0 ?_
      refine p_getr rfl rfl ?_
      refine p_iloadn_1 ?_
      refine p_iald rfl (by omega) (by decide) ((hsm.2.2.2.2 i hi).1) ?_
      refine p_iconst (v := nI 2) (by decide) ?_
      refine p_icmpN_le (tgt := 74) (by decide) (by omega) (by omega) (fun hc66 => ?_) (fun hc66 => ?_)
      · skip
        have e7 : zfs 2 (P i) N = 1 := if_neg (by omega)
        refine zK.blk rfl ?_
        refine p_iconst (v := nI 1) (by decide) ?_
        refine zK.blk rfl ?_
        refine p_istore_7 rfl ?_
        refine p_aloadn_0 ?_
        refine p_getr rfl rfl ?_
        refine p_iloadn_3 ?_
        refine p_iald (v := f t) rfl (by omega) (by decide) (by rw [← hf]; rfl) ?_
        refine p_aloadn_0 ?_
        refine p_getr rfl rfl ?_
        refine p_iloadn_1 ?_
        refine p_iald (v := nI (K i)) rfl (by omega) (by decide) (hsm.2.2.2.2 i hi).2.2 ?_
        refine p_isub ?_
        refine p_istore_8 rfl ?_
        refine p_iconst (v := nI 0) (by decide) ?_
        refine p_istore_9 rfl ?_
        rw [← hid]
        unfold ibN
        rw [e5]
        refine lp_104_95 hsm hn hN hi ht hf e7 e6 (by omega) _ 0 (Nat.zero_add _) ?_
        refine zK.blk rfl ?_
        refine p_iconst (v := nI 0) (by decide) ?_
        exact p_iret (Or.inl rfl) rfl rfl
      · skip
        have e7 : zfs 2 (P i) N = N := if_pos (by omega)
        refine p_iload_4 ?_
        refine p_goto (tgt := 75) (by decide) ?_
        refine zK.blk rfl ?_
        refine p_istore_7 rfl ?_
        refine p_aloadn_0 ?_
        refine p_getr rfl rfl ?_
        refine p_iloadn_3 ?_
        refine p_iald (v := f t) rfl (by omega) (by decide) (by rw [← hf]; rfl) ?_
        refine p_aloadn_0 ?_
        refine p_getr rfl rfl ?_
        refine p_iloadn_1 ?_
        refine p_iald (v := nI (K i)) rfl (by omega) (by decide) (hsm.2.2.2.2 i hi).2.2 ?_
        refine p_isub ?_
        refine p_istore_8 rfl ?_
        refine p_iconst (v := nI 0) (by decide) ?_
        refine p_istore_9 rfl ?_
        rw [← hid]
        unfold ibN
        rw [e5]
        refine lp_104_95 hsm hn hN hi ht hf e7 e6 (by omega) _ 0 (Nat.zero_add _) ?_
        refine zK.blk rfl ?_
        refine p_iconst (v := nI 0) (by decide) ?_
        exact p_iret (Or.inl rfl) rfl rfl
  · skip
    have e5 : zfs 0 (P i) N = N := if_pos (by omega)
    refine p_iload_4 ?_
    refine p_goto (tgt := 39) (by decide) ?_
    refine zK.blk rfl ?_
    refine p_istore_5 rfl ?_
    refine p_aloadn_0 ?_
    refine p_getr rfl rfl ?_
    refine p_iloadn_1 ?_
    refine p_iald rfl (by omega) (by decide) ((hsm.2.2.2.2 i hi).1) ?_
    refine p_iconst (v := nI 1) (by decide) ?_
    refine p_icmpN_le (tgt := 56) (by decide) (by omega) (by omega) (fun hc48 => ?_) (fun hc48 => ?_)
    · skip
      have e6 : zfs 1 (P i) N = 1 := if_neg (by omega)
      refine zK.blk rfl ?_
      refine p_iconst (v := nI 1) (by decide) ?_
      refine zK.blk rfl ?_
      refine p_istore_6 rfl ?_
      refine p_aloadn_0 ?_
      refine p_getr rfl rfl ?_
      refine p_iloadn_1 ?_
      refine p_iald rfl (by omega) (by decide) ((hsm.2.2.2.2 i hi).1) ?_
      refine p_iconst (v := nI 2) (by decide) ?_
      refine p_icmpN_le (tgt := 74) (by decide) (by omega) (by omega) (fun hc66 => ?_) (fun hc66 => ?_)
      · skip
        have e7 : zfs 2 (P i) N = 1 := if_neg (by omega)
        refine zK.blk rfl ?_
        refine p_iconst (v := nI 1) (by decide) ?_
        refine zK.blk rfl ?_
        refine p_istore_7 rfl ?_
        refine p_aloadn_0 ?_
        refine p_getr rfl rfl ?_
        refine p_iloadn_3 ?_
        refine p_iald (v := f t) rfl (by omega) (by decide) (by rw [← hf]; rfl) ?_
        refine p_aloadn_0 ?_
        refine p_getr rfl rfl ?_
        refine p_iloadn_1 ?_
        refine p_iald (v := nI (K i)) rfl (by omega) (by decide) (hsm.2.2.2.2 i hi).2.2 ?_
        refine p_isub ?_
        refine p_istore_8 rfl ?_
        refine p_iconst (v := nI 0) (by decide) ?_
        refine p_istore_9 rfl ?_
        rw [← hid]
        unfold ibN
        rw [e5]
        refine lp_104_95 hsm hn hN hi ht hf e7 e6 (by omega) _ 0 (Nat.zero_add _) ?_
        refine zK.blk rfl ?_
        refine p_iconst (v := nI 0) (by decide) ?_
        exact p_iret (Or.inl rfl) rfl rfl
      · skip
        have e7 : zfs 2 (P i) N = N := if_pos (by omega)
        refine p_iload_4 ?_
        refine p_goto (tgt := 75) (by decide) ?_
        refine zK.blk rfl ?_
        refine p_istore_7 rfl ?_
        refine p_aloadn_0 ?_
        refine p_getr rfl rfl ?_
        refine p_iloadn_3 ?_
        refine p_iald (v := f t) rfl (by omega) (by decide) (by rw [← hf]; rfl) ?_
        refine p_aloadn_0 ?_
        refine p_getr rfl rfl ?_
        refine p_iloadn_1 ?_
        refine p_iald (v := nI (K i)) rfl (by omega) (by decide) (hsm.2.2.2.2 i hi).2.2 ?_
        refine p_isub ?_
        refine p_istore_8 rfl ?_
        refine p_iconst (v := nI 0) (by decide) ?_
        refine p_istore_9 rfl ?_
        rw [← hid]
        unfold ibN
        rw [e5]
        refine lp_104_95 hsm hn hN hi ht hf e7 e6 (by omega) _ 0 (Nat.zero_add _) ?_
        refine zK.blk rfl ?_
        refine p_iconst (v := nI 0) (by decide) ?_
        exact p_iret (Or.inl rfl) rfl rfl
    · skip
      have e6 : zfs 1 (P i) N = N := if_pos (by omega)
      refine p_iload_4 ?_
      refine p_goto (tgt := 57) (by decide) ?_
      refine zK.blk rfl ?_
      refine p_istore_6 rfl ?_
      refine p_aloadn_0 ?_
      refine p_getr rfl rfl ?_
      refine p_iloadn_1 ?_
      refine p_iald rfl (by omega) (by decide) ((hsm.2.2.2.2 i hi).1) ?_
      refine p_iconst (v := nI 2) (by decide) ?_
      refine p_icmpN_le (tgt := 74) (by decide) (by omega) (by omega) (fun hc66 => ?_) (fun hc66 => ?_)
      · skip
        have e7 : zfs 2 (P i) N = 1 := if_neg (by omega)
        refine zK.blk rfl ?_
        refine p_iconst (v := nI 1) (by decide) ?_
        refine zK.blk rfl ?_
        refine p_istore_7 rfl ?_
        refine p_aloadn_0 ?_
        refine p_getr rfl rfl ?_
        refine p_iloadn_3 ?_
        refine p_iald (v := f t) rfl (by omega) (by decide) (by rw [← hf]; rfl) ?_
        refine p_aloadn_0 ?_
        refine p_getr rfl rfl ?_
        refine p_iloadn_1 ?_
        refine p_iald (v := nI (K i)) rfl (by omega) (by decide) (hsm.2.2.2.2 i hi).2.2 ?_
        refine p_isub ?_
        refine p_istore_8 rfl ?_
        refine p_iconst (v := nI 0) (by decide) ?_
        refine p_istore_9 rfl ?_
        rw [← hid]
        unfold ibN
        rw [e5]
        refine lp_104_95 hsm hn hN hi ht hf e7 e6 (by omega) _ 0 (Nat.zero_add _) ?_
        refine zK.blk rfl ?_
        refine p_iconst (v := nI 0) (by decide) ?_
        exact p_iret (Or.inl rfl) rfl rfl
      · skip
        have e7 : zfs 2 (P i) N = N := if_pos (by omega)
        refine p_iload_4 ?_
        refine p_goto (tgt := 75) (by decide) ?_
        refine zK.blk rfl ?_
        refine p_istore_7 rfl ?_
        refine p_aloadn_0 ?_
        refine p_getr rfl rfl ?_
        refine p_iloadn_3 ?_
        refine p_iald (v := f t) rfl (by omega) (by decide) (by rw [← hf]; rfl) ?_
        refine p_aloadn_0 ?_
        refine p_getr rfl rfl ?_
        refine p_iloadn_1 ?_
        refine p_iald (v := nI (K i)) rfl (by omega) (by decide) (hsm.2.2.2.2 i hi).2.2 ?_
        refine p_isub ?_
        refine p_istore_8 rfl ?_
        refine p_iconst (v := nI 0) (by decide) ?_
        refine p_istore_9 rfl ?_
        rw [← hid]
        unfold ibN
        rw [e5]
        refine lp_104_95 hsm hn hN hi ht hf e7 e6 (by omega) _ 0 (Nat.zero_add _) ?_
        refine zK.blk rfl ?_
        refine p_iconst (v := nI 0) (by decide) ?_
        exact p_iret (Or.inl rfl) rfl rfl
