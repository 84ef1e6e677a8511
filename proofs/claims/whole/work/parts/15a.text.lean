/-- the class's text: len bytes Y -/
def txC (M : zM) (len : Nat) (Y : Nat → Nat) : Prop := M 24 1 = nI len ∧ len ≤ 80 ∧ ∀ j, j < len → M 25 j &&& nI 255 = nI (Y j) ∧ Y j < 256
def zby (len : Nat) (Y : Nat → Nat) (p : Nat) : Int32 := if p < len then nI (Y p) else -1
set_option maxRecDepth 100000 in
set_option maxHeartbeats 4000000 in
theorem c_36 {sc : Nat × (Nat → Int32)} {d : Nat} {M : zM} {len : Nat} {Y : Nat → Nat} {p : Nat} (htx : txC M len Y) (hp : p < 2 ^ 31) : zC 47 sc (d + 1) 36 [.ref 24, .int (nI p)] M (some (.int (zby len Y p))) (M) := by
  obtain ⟨hln, hl8, hB⟩ := id htx
  unfold zby
  refine z_enter (L := [.ref 24, .int (nI p)]) rfl rfl rfl ?_
  refine zK.blk rfl ?_
  refine p_iloadn_1 ?_
  refine p_ifN_lt (tgt := 31) (by decide) (by omega) (fun hc1 => ?_) (fun hc1 => ?_)
  · skip
    exact absurd hc1 (by omega) --STOP
  · skip
    refine p_iloadn_1 ?_
    refine p_aloadn_0 ?_
    refine p_geti rfl rfl (hln) ?_
    refine p_icmpN_ge (tgt := 31) (by decide) (by omega) (by omega) (fun hc9 => ?_) (fun hc9 => ?_)
    · skip
      rw [if_neg (show ¬ p < len by omega)]
      refine zK.blk rfl ?_
      refine p_iconst (v := -1) (by decide) ?_
      refine zK.blk rfl ?_
      exact p_iret trivial rfl rfl
    · skip
      rw [if_pos (show p < len by omega)]
      refine p_iloadn_1 ?_
      refine p_bipush (v := nI 80) (by decide) ?_
      refine p_icmpN_ge (tgt := 31) (by decide) (by omega) (by omega) (fun hc15 => ?_) (fun hc15 => ?_)
      · skip
        exact absurd hc15 (by omega) --STOP
      · skip
        refine p_aloadn_0 ?_
        refine p_getr rfl rfl ?_
        refine p_iloadn_1 ?_
        refine p_bald (v := M 25 p) rfl (by omega) (by decide) rfl ?_
        refine p_sipush (v := nI 255) (by decide) ?_
        refine p_iand ?_
        rw [(hB p (by omega)).1]
        refine p_goto (tgt := 32) (by decide) ?_
        refine zK.blk rfl ?_
        exact p_iret trivial rfl rfl
set_option maxRecDepth 100000 in
set_option maxHeartbeats 4000000 in
theorem c_40y {sc : Nat × (Nat → Int32)} {d : Nat} {M : zM} {len : Nat} {Y : Nat → Nat} {p ch : Nat} (htx : txC M len Y) (h2 : M 26 2 = nI p) (hp : p < 2 ^ 31) (hpl : p < len) (hY : Y p = ch) : zC 47 sc (d + 2) 40 [.ref 26, .int (nI ch)] M (some (.int (nI 1))) (zup M 26 2 (nI (p + 1))) := by
  have hz : zby len Y p = nI ch := by unfold zby; rw [if_pos hpl, hY]
  refine z_enter (L := [.ref 26, .int (nI ch)]) rfl rfl rfl ?_
  refine zK.blk rfl ?_
  refine p_aloadn_0 ?_
  refine p_getr rfl rfl ?_
  refine p_aloadn_0 ?_
  refine p_geti rfl rfl (h2) ?_
  refine p_cv1i rfl rfl rfl rfl rfl (c_36 htx hp) ?_
  refine p_iloadn_1 ?_
  refine p_icmp_eq (tgt := 17) (by decide) (fun hc12 => ?_) (fun hc12 => ?_)
  · skip
    refine zK.blk rfl ?_
    refine p_aloadn_0 ?_
    refine p_dupa ?_
    refine p_geti rfl rfl (h2) ?_
    refine p_iconst (v := nI 1) (by decide) ?_
    refine p_iaddN ?_
    refine p_put rfl rfl (by simp) ?_
    refine p_iconst (v := nI 1) (by decide) ?_
    exact p_iret (Or.inr rfl) rfl rfl
  · skip
    exact absurd hz hc12 --STOP
set_option maxRecDepth 100000 in
set_option maxHeartbeats 4000000 in
theorem c_40n {sc : Nat × (Nat → Int32)} {d : Nat} {M : zM} {len : Nat} {Y : Nat → Nat} {p ch : Nat} (htx : txC M len Y) (h2 : M 26 2 = nI p) (hp : p < 2 ^ 31) (hch : ch < 2 ^ 31) (hn : ¬ (p < len ∧ Y p = ch)) : zC 47 sc (d + 2) 40 [.ref 26, .int (nI ch)] M (some (.int (nI 0))) (M) := by
  have hz : ¬ zby len Y p = nI ch := by
    unfold zby
    by_cases q : p < len
    · rw [if_pos q, nI_eq (by have := (htx.2.2 p q).2; omega) hch]; exact fun z => hn ⟨q, z⟩
    · rw [if_neg q]; exact fun z => nI_nm1 hch z.symm
  refine z_enter (L := [.ref 26, .int (nI ch)]) rfl rfl rfl ?_
  refine zK.blk rfl ?_
  refine p_aloadn_0 ?_
  refine p_getr rfl rfl ?_
  refine p_aloadn_0 ?_
  refine p_geti rfl rfl (h2) ?_
  refine p_cv1i rfl rfl rfl rfl rfl (c_36 htx hp) ?_
  refine p_iloadn_1 ?_
  refine p_icmp_eq (tgt := 17) (by decide) (fun hc12 => ?_) (fun hc12 => ?_)
  · skip
    exact absurd hc12 hz --STOP
  · skip
    refine p_iconst (v := nI 0) (by decide) ?_
    exact p_iret (Or.inl rfl) rfl rfl
theorem zN_ushr {x y : Nat} (hx : x < 2 ^ 31) (hy : y < 32) : ((nI x).toUInt32 >>> ((nI y).toUInt32 &&& Int32.toUInt32 31)).toInt32 = nI (x >>> y) := by
  apply zN_ext
  have e : (nI y).toUInt32 &&& Int32.toUInt32 31 = (nI y).toUInt32 := by
    have h := zN_31 hy
    have h2 : (nI y &&& 31).toUInt32 = (nI y).toUInt32 := by rw [h]
    exact h2
  rw [e]
  show (((nI x).toUInt32 >>> (nI y).toUInt32).toBitVec) = BitVec.ofNat 32 (x >>> y)
  rw [UInt32.toBitVec_shiftRight]
  apply BitVec.eq_of_toNat_eq
  have h1 : (nI x).toUInt32.toBitVec = BitVec.ofNat 32 x := rfl
  have h2 : (nI y).toUInt32.toBitVec = BitVec.ofNat 32 y := rfl
  rw [h1, h2, BitVec.ushiftRight_eq', BitVec.toNat_ushiftRight]
  have h4 : ∀ y, y < 32 → (BitVec.ofNat 32 y % 32).toNat = y := by decide +kernel
  simp only [BitVec.toNat_ofNat]
  rw [h4 y hy, Nat.mod_eq_of_lt (a := x) (by omega), Nat.mod_eq_of_lt (Nat.lt_of_le_of_lt (Nat.shiftRight_le x y) (by omega))]
def bc1 (x : Nat) : Nat := x - (x >>> 1 &&& 1431655765)
def bc2 (x : Nat) : Nat := (bc1 x &&& 858993459) + (bc1 x >>> 2 &&& 858993459)
def bc3 (x : Nat) : Nat := bc2 x + bc2 x >>> 4 &&& 252645135
def bc4 (x : Nat) : Nat := bc3 x + bc3 x >>> 8
def bcN (x : Nat) : Nat := bc4 x + bc4 x >>> 16 &&& 63
theorem bc_le {x : Nat} (hx : x < 256) : x >>> 1 &&& 1431655765 ≤ x ∧ bc1 x ≤ 256 ∧ bc2 x ≤ 512 ∧ bc3 x ≤ 1024 ∧ bc4 x ≤ 2048 := by
  have a1 : x >>> 1 &&& 1431655765 ≤ x := Nat.le_trans Nat.and_le_left (Nat.shiftRight_le x 1)
  have a2 : bc1 x ≤ 256 := by unfold bc1; omega
  have b1 : bc1 x &&& 858993459 ≤ bc1 x := Nat.and_le_left
  have b2 : bc1 x >>> 2 &&& 858993459 ≤ bc1 x := Nat.le_trans Nat.and_le_left (Nat.shiftRight_le _ 2)
  have a3 : bc2 x ≤ 512 := by unfold bc2; omega
  have c1 : bc2 x >>> 4 ≤ bc2 x := Nat.shiftRight_le _ 4
  have a4 : bc3 x ≤ 1024 := by unfold bc3; exact Nat.le_trans Nat.and_le_left (by omega)
  have c2 : bc3 x >>> 8 ≤ bc3 x := Nat.shiftRight_le _ 8
  exact ⟨a1, a2, a3, a4, by unfold bc4; omega⟩
theorem bcN_ok : ∀ x, x < 256 → bcN x = zfor (fun r a => a + (x >>> r &&& 1)) 8 0 0 := by decide +kernel
set_option maxRecDepth 100000 in
set_option maxHeartbeats 4000000 in
theorem c_87 {sc : Nat × (Nat → Int32)} {d : Nat} {M : zM} {x : Nat} (hx : x < 256) : zC 47 sc (d + 1) 87 [.int (nI x)] M (some (.int (nI (bcN x)))) (M) := by
  obtain ⟨a1, a2, a3, a4, a5⟩ := bc_le hx
  unfold bc1 at a2
  unfold bc2 bc1 at a3
  unfold bc3 bc2 bc1 at a4
  unfold bc4 bc3 bc2 bc1 at a5
  refine z_enter (L := [.int (nI x)]) rfl rfl rfl ?_
  refine zK.blk rfl ?_
  refine p_iloadn_0 ?_
  refine p_iloadn_0 ?_
  refine p_iconst (v := nI 1) (by decide) ?_
  refine p_iushrv (zN_ushr (by omega) (by omega)) ?_
  refine p_ldcw ?_
  refine p_iandN ?_
  refine p_isubN (by omega) ?_
  refine p_istoren_0 rfl ?_
  refine p_iloadn_0 ?_
  refine p_ldcw ?_
  refine p_iandN ?_
  refine p_iloadn_0 ?_
  refine p_iconst (v := nI 2) (by decide) ?_
  refine p_iushrv (zN_ushr (by omega) (by omega)) ?_
  refine p_ldcw ?_
  refine p_iandN ?_
  refine p_iaddN ?_
  refine p_istoren_0 rfl ?_
  refine p_iloadn_0 ?_
  refine p_iloadn_0 ?_
  refine p_iconst (v := nI 4) (by decide) ?_
  refine p_iushrv (zN_ushr (by omega) (by omega)) ?_
  refine p_iaddN ?_
  refine p_ldcw ?_
  refine p_iandN ?_
  refine p_istoren_0 rfl ?_
  refine p_iloadn_0 ?_
  refine p_iloadn_0 ?_
  refine p_bipush (v := nI 8) (by decide) ?_
  refine p_iushrv (zN_ushr (by omega) (by omega)) ?_
  refine p_iaddN ?_
  refine p_istoren_0 rfl ?_
  refine p_iloadn_0 ?_
  refine p_iloadn_0 ?_
  refine p_bipush (v := nI 16) (by decide) ?_
  refine p_iushrv (zN_ushr (by omega) (by omega)) ?_
  refine p_iaddN ?_
  refine p_istoren_0 rfl ?_
  refine p_iloadn_0 ?_
  refine p_bipush (v := nI 63) (by decide) ?_
  refine p_iandN ?_
  exact p_iret trivial rfl rfl
