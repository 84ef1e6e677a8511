theorem zN_inc (x n : Nat) : nI x + Int32.ofInt (n : Int) = nI (x + n) := nI_add x n
theorem zN_dec {x : Nat} (h : 1 ≤ x) : nI x + Int32.ofInt (-1) = nI (x - 1) := by
  have : nI x = nI (x - 1) + 1 := by rw [nI_1]; congr 1; omega
  rw [this, show Int32.ofInt (-1) = -1 from rfl, Int32.add_assoc, show (1 : Int32) + -1 = 0 from rfl, Int32.add_zero]
def zB (b : Bool) : Int32 := bif b then 1 else 0
theorem zB_0 : nI 0 = zB false := rfl
theorem zB_1 : nI 1 = zB true := rfl
theorem zB_or (b : Bool) : zB b = 0 ∨ zB b = 1 := by cases b <;> simp [zB]
section ZPB
variable {NC : Nat} {sc : Nat × (Nat → Int32)} {C : Nat → List Value → zM → Option Value → zM → Prop} {J : Nat → List Value → List Value → zM → Prop} {fin : Option Value → zM → Prop} {np pc len a b t : Nat} {es : List zE} {L st : List Value} {M : zM}
theorem p_ifB_eq {x : Bool} {off : Int} {tgt : Nat} (ht : (pc : Int) + off = (tgt : Int)) (h1 : x = false → J tgt L st M) (h2 : x = true → zwp NC sc zinfo C J fin np es L st M) : zwp NC sc zinfo C J fin np ((pc, .ifCond .eq off, len, a, b, t) :: es) L (.int (zB x) :: st) M :=
  p_if_eq ht (fun q => h1 (by cases x <;> simp [zB] at q ⊢)) (fun q => h2 (by cases x <;> simp [zB] at q ⊢))
theorem p_ifB_ne {x : Bool} {off : Int} {tgt : Nat} (ht : (pc : Int) + off = (tgt : Int)) (h1 : x = true → J tgt L st M) (h2 : x = false → zwp NC sc zinfo C J fin np es L st M) : zwp NC sc zinfo C J fin np ((pc, .ifCond .ne off, len, a, b, t) :: es) L (.int (zB x) :: st) M :=
  p_if_ne ht (fun q => h1 (by cases x <;> simp [zB] at q ⊢)) (fun q => h2 (by cases x <;> simp [zB] at q ⊢))
end ZPB
/-- all ones -/
abbrev zFF : Nat := 4294967295
theorem zN_neg {b : Nat} (h : b < 2) : -(nI b) = nI (b * zFF) := by
  rcases (show b = 0 ∨ b = 1 by omega) with rfl | rfl <;> decide
def pkN (x y z : Nat) : Nat := x &&& y ||| (x ^^^ zFF) &&& z
theorem zb_lt (t r : Nat) : t >>> r &&& 1 < 2 := by
  rw [Nat.and_one_is_mod]; omega
def z22 (p : Nat) : Nat := 1 <<< (1 <<< p)
def zrep (p : Nat) : Nat := if p = 0 then 255 else if p = 1 then 85 else if p = 2 then 17 else 1
def zpl (p : Nat) : Nat := if p = 0 then 170 else if p = 1 then 204 else 240
theorem z22_lt {p : Nat} (h : p < 4) : 1 < z22 p ∧ z22 p ≤ 256 := by
  rcases (show p = 0 ∨ p = 1 ∨ p = 2 ∨ p = 3 by omega) with rfl | rfl | rfl | rfl <;> decide
theorem zsh_lt {p : Nat} (h : p < 4) : 1 ≤ 1 <<< p ∧ 1 <<< p ≤ 8 := by
  rcases (show p = 0 ∨ p = 1 ∨ p = 2 ∨ p = 3 by omega) with rfl | rfl | rfl | rfl <;> decide
def zfits (x y : Int32) : Bool := decide (¬ x < 0) && decide (¬ nI 3 < x) && decide (¬ y < 0) && decide (¬ nI (z22 x.toNatClampNeg - 1) < y)
set_option maxRecDepth 100000 in
set_option maxHeartbeats 4000000 in
theorem c_3 {sc : Nat × (Nat → Int32)} {d : Nat} {M : zM} {t r : Nat} (ht : t < 2 ^ 31) (hr : r < 32) : zC 47 sc (d + 1) 3 [.int (nI t), .int (nI r)] M (some (.int (nI (t >>> r &&& 1)))) (M) := by
  refine z_enter (L := [.int (nI t), .int (nI r)]) rfl rfl rfl ?_
  refine zK.blk rfl ?_
  refine p_iloadn_0 ?_
  refine p_iloadn_1 ?_
  refine p_ishrN (by omega) (by omega) ?_
  refine p_iconst (v := nI 1) (by decide) ?_
  refine p_iandN ?_
  exact p_iret trivial rfl rfl
set_option maxRecDepth 100000 in
set_option maxHeartbeats 4000000 in
theorem c_1 {sc : Nat × (Nat → Int32)} {d : Nat} {M : zM} {p : Nat} (hp : p < 4) : zC 47 sc (d + 1) 1 [.int (nI p)] M (some (.int (nI (z22 p - 1)))) (M) := by
  have hp2 := zsh_lt hp
  have hp3 := z22_lt hp
  unfold z22 at hp3 ⊢
  refine z_enter (L := [.int (nI p)]) rfl rfl rfl ?_
  refine zK.blk rfl ?_
  refine p_iconst (v := nI 1) (by decide) ?_
  refine p_iconst (v := nI 1) (by decide) ?_
  refine p_iloadn_0 ?_
  refine p_ishlN (by omega) ?_
  refine p_ishlN (by omega) ?_
  refine p_iconst (v := nI 1) (by decide) ?_
  refine p_isubN (by omega) ?_
  exact p_iret trivial rfl rfl
set_option maxRecDepth 100000 in
set_option maxHeartbeats 4000000 in
theorem c_2 {sc : Nat × (Nat → Int32)} {d : Nat} {M : zM} {p : Nat} (hp : p < 4) : zC 47 sc (d + 1) 2 [.int (nI p)] M (some (.int (nI (zpl p)))) (M) := by
  refine z_enter (L := [.int (nI p)]) rfl rfl rfl ?_
  refine zK.blk rfl ?_
  refine p_iloadn_0 ?_
  refine p_ifN_ne (tgt := 10) (by decide) (by omega) (fun hc1 => ?_) (fun hc1 => ?_)
  · skip
    refine zK.blk rfl ?_
    refine p_iloadn_0 ?_
    refine p_iconst (v := nI 1) (by decide) ?_
    refine p_icmpN_ne (tgt := 21) (by decide) (by omega) (by omega) (fun hc12 => ?_) (fun hc12 => ?_)
    · skip
      refine zK.blk rfl ?_
      refine p_sipush (v := nI 240) (by decide) ?_
      refine zK.blk rfl ?_
      exact p_iret trivial (by unfold zpl; congr 3; split <;> (try split) <;> omega) rfl
    · skip
      refine p_sipush (v := nI 204) (by decide) ?_
      refine p_goto (tgt := 24) (by decide) ?_
      refine zK.blk rfl ?_
      exact p_iret trivial (by unfold zpl; congr 3; split <;> (try split) <;> omega) rfl
  · skip
    refine p_sipush (v := nI 170) (by decide) ?_
    refine p_goto (tgt := 24) (by decide) ?_
    refine zK.blk rfl ?_
    exact p_iret trivial (by unfold zpl; congr 3; split <;> (try split) <;> omega) rfl

set_option maxRecDepth 100000 in
set_option maxHeartbeats 4000000 in
theorem c_2s {sc : Nat × (Nat → Int32)} {d : Nat} {M : zM} {p : Nat} (hp : p < 4) : zC 33 sc (d + 1) 2 [.int (nI p)] M (some (.int (nI (zpl p)))) (M) := by
  refine z_enter (L := [.int (nI p)]) rfl rfl rfl ?_
  refine zK.blk rfl ?_
  refine p_iloadn_0 ?_
  refine p_ifN_ne (tgt := 10) (by decide) (by omega) (fun hc1 => ?_) (fun hc1 => ?_)
  · skip
    refine zK.blk rfl ?_
    refine p_iloadn_0 ?_
    refine p_iconst (v := nI 1) (by decide) ?_
    refine p_icmpN_ne (tgt := 21) (by decide) (by omega) (by omega) (fun hc12 => ?_) (fun hc12 => ?_)
    · skip
      refine zK.blk rfl ?_
      refine p_sipush (v := nI 240) (by decide) ?_
      refine zK.blk rfl ?_
      exact p_iret trivial (by unfold zpl; congr 3; split <;> (try split) <;> omega) rfl
    · skip
      refine p_sipush (v := nI 204) (by decide) ?_
      refine p_goto (tgt := 24) (by decide) ?_
      refine zK.blk rfl ?_
      exact p_iret trivial (by unfold zpl; congr 3; split <;> (try split) <;> omega) rfl
  · skip
    refine p_sipush (v := nI 170) (by decide) ?_
    refine p_goto (tgt := 24) (by decide) ?_
    refine zK.blk rfl ?_
    exact p_iret trivial (by unfold zpl; congr 3; split <;> (try split) <;> omega) rfl
set_option maxRecDepth 100000 in
set_option maxHeartbeats 4000000 in
theorem c_5 {sc : Nat × (Nat → Int32)} {d : Nat} {M : zM} {x y z : Nat} : zC 47 sc (d + 1) 5 [.int (nI x), .int (nI y), .int (nI z)] M (some (.int (nI (pkN x y z)))) (M) := by
  refine z_enter (L := [.int (nI x), .int (nI y), .int (nI z)]) rfl rfl rfl ?_
  refine zK.blk rfl ?_
  refine p_iloadn_0 ?_
  refine p_iloadn_1 ?_
  refine p_iandN ?_
  refine p_iloadn_0 ?_
  refine p_iconst (v := nI zFF) (by decide) ?_
  refine p_ixorN ?_
  refine p_iloadn_2 ?_
  refine p_iandN ?_
  refine p_iorN ?_
  exact p_iret trivial rfl rfl
set_option maxRecDepth 100000 in
set_option maxHeartbeats 4000000 in
theorem c_4 {sc : Nat × (Nat → Int32)} {d : Nat} {M : zM} {p t : Nat} (hp : p < 4) : zC 47 sc (d + 1) 4 [.int (nI p), .int (nI t)] M (some (.int (nI (t * zrep p)))) (M) := by
  refine z_enter (L := [.int (nI p), .int (nI t)]) rfl rfl rfl ?_
  refine zK.blk rfl ?_
  refine p_iloadn_0 ?_
  refine p_ifN_lt (tgt := 19) (by decide) (by omega) (fun hc1 => ?_) (fun hc1 => ?_)
  · skip
    exact absurd hc1 (by omega) --STOP
  · skip
    refine p_iloadn_0 ?_
    refine p_iconst (v := nI 3) (by decide) ?_
    refine p_icmpN_gt (tgt := 19) (by decide) (by omega) (by omega) (fun hc6 => ?_) (fun hc6 => ?_)
    · skip
      exact absurd hc6 (by omega) --STOP
    · skip
      refine p_iloadn_1 ?_
      refine p_gets (by decide) ?_
      refine p_iloadn_0 ?_
      refine p_rald (v := nI (zrep p)) rfl (by decide) (by show p < 4; omega) (by show 4 < 2 ^ 31; decide) (by rcases (show p = 0 ∨ p = 1 ∨ p = 2 ∨ p = 3 by omega) with rfl | rfl | rfl | rfl <;> rfl) ?_
      refine p_imulN ?_
      refine p_goto (tgt := 20) (by decide) ?_
      refine zK.blk rfl ?_
      exact p_iret trivial rfl rfl
set_option maxRecDepth 100000 in
set_option maxHeartbeats 4000000 in
theorem c_0 {sc : Nat × (Nat → Int32)} {d : Nat} {M : zM} {x y : Int32} : zC 47 sc (d + 2) 0 [.int x, .int y] M (some (.int (zB (zfits x y)))) (M) := by
  refine z_enter (L := [.int x, .int y]) rfl rfl rfl ?_
  refine zK.blk rfl ?_
  refine p_iloadn_0 ?_
  refine p_if_lt (tgt := 25) (by decide) (fun hc1 => ?_) (fun hc1 => ?_)
  · skip
    refine zK.blk rfl ?_
    refine p_iconst (v := nI 0) (by decide) ?_
    refine zK.blk rfl ?_
    exact p_iret (by first | exact Or.inl rfl | exact Or.inr rfl) (by (first | rw [zB_0] | rw [zB_1]); congr 3; unfold zfits; (try rw [nI_clamp (by omega)]); simp_all) rfl
  · skip
    refine p_iloadn_0 ?_
    refine p_iconst (v := nI 3) (by decide) ?_
    refine p_icmp_gt (tgt := 25) (by decide) (fun hc6 => ?_) (fun hc6 => ?_)
    · skip
      refine zK.blk rfl ?_
      refine p_iconst (v := nI 0) (by decide) ?_
      refine zK.blk rfl ?_
      exact p_iret (by first | exact Or.inl rfl | exact Or.inr rfl) (by (first | rw [zB_0] | rw [zB_1]); congr 3; unfold zfits; (try rw [nI_clamp (by omega)]); simp_all) rfl
    · skip
      obtain ⟨p, hp, rfl⟩ := nI_of2 (M := nI 3) (n := 3) (by decide) hc1 (Int32.not_lt.mp hc6)
      have hp2 := z22_lt (show p < 4 by omega)
      refine p_iloadn_1 ?_
      refine p_if_lt (tgt := 25) (by decide) (fun hc10 => ?_) (fun hc10 => ?_)
      · skip
        refine zK.blk rfl ?_
        refine p_iconst (v := nI 0) (by decide) ?_
        refine zK.blk rfl ?_
        exact p_iret (by first | exact Or.inl rfl | exact Or.inr rfl) (by (first | rw [zB_0] | rw [zB_1]); congr 3; unfold zfits; (try rw [nI_clamp (by omega)]); simp_all) rfl
      · skip
        refine p_iloadn_1 ?_
        refine p_iloadn_0 ?_
        refine p_cs1i rfl rfl rfl rfl rfl (c_1 (p := p) (by omega)) ?_
        refine p_icmp_gt (tgt := 25) (by decide) (fun hc18 => ?_) (fun hc18 => ?_)
        · skip
          refine zK.blk rfl ?_
          refine p_iconst (v := nI 0) (by decide) ?_
          refine zK.blk rfl ?_
          exact p_iret (by first | exact Or.inl rfl | exact Or.inr rfl) (by (first | rw [zB_0] | rw [zB_1]); congr 3; unfold zfits; (try rw [nI_clamp (by omega)]); simp_all) rfl
        · skip
          refine p_iconst (v := nI 1) (by decide) ?_
          refine p_goto (tgt := 26) (by decide) ?_
          refine zK.blk rfl ?_
          exact p_iret (by first | exact Or.inl rfl | exact Or.inr rfl) (by (first | rw [zB_0] | rw [zB_1]); congr 3; unfold zfits; (try rw [nI_clamp (by omega)]); simp_all) rfl
def zttN (t a b : Nat) : Nat := pkN b (pkN a ((t >>> 3 &&& 1) * zFF) ((t >>> 2 &&& 1) * zFF)) (pkN a ((t >>> 1 &&& 1) * zFF) ((t >>> 0 &&& 1) * zFF))
set_option maxRecDepth 100000 in
set_option maxHeartbeats 4000000 in
theorem c_6 {sc : Nat × (Nat → Int32)} {d : Nat} {M : zM} {t a b : Nat} (ht : t < 2 ^ 31) : zC 47 sc (d + 2) 6 [.int (nI t), .int (nI a), .int (nI b)] M (some (.int (nI (zttN t a b)))) (M) := by
  refine z_enter (L := [.int (nI t), .int (nI a), .int (nI b), .null, .null]) rfl rfl rfl ?_
  refine zK.blk rfl ?_
  refine p_iloadn_1 ?_
  refine p_iloadn_0 ?_
  refine p_iconst (v := nI 3) (by decide) ?_
  refine p_cs2i rfl rfl rfl rfl rfl (c_3 (by omega) (by omega)) ?_
  refine p_ineg (zN_neg (zb_lt _ _)) ?_
  refine p_iloadn_0 ?_
  refine p_iconst (v := nI 2) (by decide) ?_
  refine p_cs2i rfl rfl rfl rfl rfl (c_3 (by omega) (by omega)) ?_
  refine p_ineg (zN_neg (zb_lt _ _)) ?_
  refine p_cs3i rfl rfl rfl rfl rfl (c_5) ?_
  refine p_istoren_3 rfl ?_
  refine p_iloadn_1 ?_
  refine p_iloadn_0 ?_
  refine p_iconst (v := nI 1) (by decide) ?_
  refine p_cs2i rfl rfl rfl rfl rfl (c_3 (by omega) (by omega)) ?_
  refine p_ineg (zN_neg (zb_lt _ _)) ?_
  refine p_iloadn_0 ?_
  refine p_iconst (v := nI 0) (by decide) ?_
  refine p_cs2i rfl rfl rfl rfl rfl (c_3 (by omega) (by omega)) ?_
  refine p_ineg (zN_neg (zb_lt _ _)) ?_
  refine p_cs3i rfl rfl rfl rfl rfl (c_5) ?_
  refine p_istore_4 rfl ?_
  refine p_iloadn_2 ?_
  refine p_iloadn_3 ?_
  refine p_iload_4 ?_
  refine p_cs3i rfl rfl rfl rfl rfl (c_5) ?_
  exact p_iret trivial rfl rfl
set_option maxRecDepth 100000 in
set_option maxHeartbeats 4000000 in
theorem c_7 {sc : Nat × (Nat → Int32)} {d : Nat} {M : zM} {w a b c : Nat} (hw : w < 2 ^ 31) : zC 47 sc (d + 3) 7 [.int (nI w), .int (nI a), .int (nI b), .int (nI c)] M (some (.int (nI (pkN c (zttN (w >>> 4) a b) (zttN w a b))))) (M) := by
  have hw4 : w >>> 4 < 2 ^ 31 := Nat.lt_of_le_of_lt (Nat.shiftRight_le w 4) hw
  refine z_enter (L := [.int (nI w), .int (nI a), .int (nI b), .int (nI c)]) rfl rfl rfl ?_
  refine zK.blk rfl ?_
  refine p_iloadn_3 ?_
  refine p_iloadn_0 ?_
  refine p_iconst (v := nI 4) (by decide) ?_
  refine p_ishrN (by omega) (by omega) ?_
  refine p_iloadn_1 ?_
  refine p_iloadn_2 ?_
  refine p_cs3i rfl rfl rfl rfl rfl (c_6 (by omega)) ?_
  refine p_iloadn_0 ?_
  refine p_iloadn_1 ?_
  refine p_iloadn_2 ?_
  refine p_cs3i rfl rfl rfl rfl rfl (c_6 (by omega)) ?_
  refine p_cs3i rfl rfl rfl rfl rfl (c_5) ?_
  exact p_iret trivial rfl rfl
