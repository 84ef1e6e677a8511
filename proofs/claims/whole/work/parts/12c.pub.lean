def fAbout (P T K : Nat → Nat) (n : Nat) (x w : Int32) : Int32 := if zhas n x = true then (if w = nI 0 then nI (P x.toNatClampNeg) else if w = nI 1 then nI (T x.toNatClampNeg) else if w = nI 2 then nI (K x.toNatClampNeg) else if w = nI 3 then nI (kbN (P x.toNatClampNeg) (T x.toNatClampNeg)) else -1) else -1
def fCount (P : Nat → Nat) (n len : Nat) (w : Int32) : Int32 := if w = nI 0 then nI n else if w = nI 1 then nI (o3N P n) else if w = nI 2 then nI len else -1
theorem zin_no {x : Int32} {n i : Nat} (hn : n < 2 ^ 31) (h : zin x (nI 0) (nI n) = false) (hi : i ≤ n) : ¬ x = nI i := by
  intro e
  subst e
  unfold zin at h
  rw [decide_eq_true (show ¬ nI i < nI 0 from nI_nlt (Nat.zero_le i) (by omega)), decide_eq_true (show ¬ nI n < nI i from nI_nlt hi hn)] at h
  cases h
set_option maxRecDepth 100000 in
set_option maxHeartbeats 4000000 in
theorem c_58 {sc : Nat × (Nat → Int32)} {d : Nat} {M : zM} {n : Nat} {P T K : Nat → Nat} {x w : Int32} (hsg : sgC M n P T K) : zC 47 sc (d + 2) 58 [.ref 0, .int x, .int w] M (some (.int (fAbout P T K n x w))) (M) := by
  obtain ⟨hn6, hn, hR, hS⟩ := id hsg
  unfold fAbout
  refine z_enter (L := [.ref 0, .int x, .int w, .null]) rfl rfl rfl ?_
  refine zK.blk rfl ?_
  refine p_aloadn_0 ?_
  refine p_getr rfl rfl ?_
  refine p_iloadn_1 ?_
  refine p_cv1i rfl rfl rfl rfl rfl (c_24 hsg) ?_
  refine p_ifB_ne (tgt := 13) (by decide) (fun hc8 => ?_) (fun hc8 => ?_)
  · skip
    rw [if_pos hc8]
    obtain ⟨i1, hi1, rfl⟩ := zhas_x (by omega) hc8
    rw [nI_clamp (by omega)]
    refine zK.blk rfl ?_
    refine p_aloadn_0 ?_
    refine p_getr rfl rfl ?_
    refine p_getr rfl rfl ?_
    refine p_iloadn_1 ?_
    refine p_aald rfl (by omega) (by decide) (zget_sg (by omega)) ?_
    refine p_astoren_3 rfl ?_
    refine p_iloadn_2 ?_
    refine p_tab (td := 76) (N := 3) (by decide) rfl (by decide) (fun i => if i = 0 then 56 else if i = 1 then 61 else if i = 2 then 66 else 71) (fun i hi => by rcases (show i = 0 ∨ i = 1 ∨ i = 2 ∨ i = 3 by omega) with rfl | rfl | rfl | rfl <;> exact ⟨_, rfl, by decide⟩) (fun hno => ?_) (fun i hi e => ?_)
    · rw [if_neg (hno 0 (by decide)), if_neg (hno 1 (by decide)), if_neg (hno 2 (by decide)), if_neg (hno 3 (by decide))]
      refine zK.blk rfl ?_
      refine p_iconst (v := -1) (by decide) ?_
      exact p_iret trivial rfl rfl
    · rcases (show i = 0 ∨ i = 1 ∨ i = 2 ∨ i = 3 by omega) with rfl | rfl | rfl | rfl
      · subst e
        rw [if_pos rfl]
        refine zK.blk rfl ?_
        refine p_aloadn_3 ?_
        refine p_geti (zlay_sg (by omega)) rfl ((hS _ (by omega)).1) ?_
        exact p_iret trivial rfl rfl
      · subst e
        rw [if_neg (by decide), if_pos rfl]
        refine zK.blk rfl ?_
        refine p_aloadn_3 ?_
        refine p_geti (zlay_sg (by omega)) rfl ((hS _ (by omega)).2.1) ?_
        exact p_iret trivial rfl rfl
      · subst e
        rw [if_neg (by decide), if_neg (by decide), if_pos rfl]
        refine zK.blk rfl ?_
        refine p_aloadn_3 ?_
        refine p_geti (zlay_sg (by omega)) rfl ((hS _ (by omega)).2.2.1) ?_
        exact p_iret trivial rfl rfl
      · subst e
        rw [if_neg (by decide), if_neg (by decide), if_neg (by decide), if_pos rfl]
        refine zK.blk rfl ?_
        refine p_aloadn_3 ?_
        refine p_geti (zlay_sg (by omega)) rfl ((hS _ (by omega)).2.2.2.2) ?_
        exact p_iret trivial rfl rfl
  · skip
    rw [if_neg (by rw [hc8]; decide)]
    refine p_iconst (v := -1) (by decide) ?_
    exact p_iret trivial rfl rfl
set_option maxRecDepth 100000 in
set_option maxHeartbeats 4000000 in
theorem c_95 {sc : Nat × (Nat → Int32)} {d : Nat} {M : zM} {n : Nat} {P T K : Nat → Nat} {x w : Int32} (hsm : sgM M n P T K) : zC 47 sc (d + 2) 95 [.ref 33, .int x, .int w] M (some (.int (fAbout P T K n x w))) (M) := by
  obtain ⟨hth, hm, hn6, hR, hT⟩ := id hsm
  unfold fAbout
  refine z_enter (L := [.ref 33, .int x, .int w]) rfl rfl rfl ?_
  refine zK.blk rfl ?_
  refine p_aloadn_0 ?_
  refine p_iconst (v := nI 0) (by decide) ?_
  refine p_put rfl rfl (by simp) ?_
  rw [zup_id hth]
  refine p_iloadn_1 ?_
  refine p_iconst (v := nI 0) (by decide) ?_
  refine p_aloadn_0 ?_
  refine p_geti rfl rfl (hm) ?_
  refine p_iconst (v := nI 1) (by decide) ?_
  refine p_isub ?_
  refine p_cs3i rfl rfl rfl rfl rfl (c_89) ?_
  rw [zin_has (by omega)]
  refine p_ifB_eq (tgt := 28) (by decide) (fun hc16 => ?_) (fun hc16 => ?_)
  · skip
    rw [if_neg (by rw [hc16]; decide)]
    refine zK.blk rfl ?_
    refine p_iconst (v := -1) (by decide) ?_
    exact p_iret trivial rfl rfl
  · skip
    rw [if_pos hc16]
    obtain ⟨i, hi, rfl⟩ := zhas_x (by omega) hc16
    rw [nI_clamp (by omega)]
    have hP := hR i hi
    have hkk := kb_km (P i) hP.1 (T i) hP.2.1
    refine p_iloadn_2 ?_
    refine p_iconst (v := nI 0) (by decide) ?_
    refine p_iconst (v := nI 3) (by decide) ?_
    refine p_cs3i rfl rfl rfl rfl rfl (c_89) ?_
    refine p_ifB_ne (tgt := 30) (by decide) (fun hc25 => ?_) (fun hc25 => ?_)
    · skip
      obtain ⟨w0, hw0, rfl⟩ := zin_x (by decide) hc25
      rw [hkk.1]
      refine zK.blk rfl ?_
      refine p_iloadn_2 ?_
      refine p_ifN_ne (tgt := 43) (by decide) (by omega) (fun hc31 => ?_) (fun hc31 => ?_)
      · skip
        rw [if_neg (fun z => hc31 ((nI_eq (by omega) (by decide)).mp z))]
        refine zK.blk rfl ?_
        refine p_iloadn_2 ?_
        refine p_iconst (v := nI 1) (by decide) ?_
        refine p_icmpN_ne (tgt := 57) (by decide) (by omega) (by omega) (fun hc45 => ?_) (fun hc45 => ?_)
        · skip
          rw [if_neg (fun z => hc45 ((nI_eq (by omega) (by decide)).mp z))]
          refine zK.blk rfl ?_
          refine p_iloadn_2 ?_
          refine p_iconst (v := nI 2) (by decide) ?_
          refine p_icmpN_ne (tgt := 71) (by decide) (by omega) (by omega) (fun hc59 => ?_) (fun hc59 => ?_)
          · skip
            rw [if_neg (fun z => hc59 ((nI_eq (by omega) (by decide)).mp z)), if_pos (by rw [show w0 = 3 by omega])]
            refine zK.blk rfl ?_
            refine p_aloadn_0 ?_
            refine p_getr rfl rfl ?_
            refine p_iloadn_1 ?_
            refine p_iald rfl (by omega) (by decide) ((hT _ (by omega)).1) ?_
            refine p_aloadn_0 ?_
            refine p_getr rfl rfl ?_
            refine p_iloadn_1 ?_
            refine p_iald rfl (by omega) (by decide) ((hT _ (by omega)).2.1) ?_
            refine p_cs2i rfl rfl rfl rfl rfl (c_94 hP.1 hP.2.1) ?_
            refine zK.blk rfl ?_
            exact p_iret trivial rfl rfl
          · skip
            rw [if_pos (by rw [show w0 = 2 by omega])]
            refine p_aloadn_0 ?_
            refine p_getr rfl rfl ?_
            refine p_iloadn_1 ?_
            refine p_iald rfl (by omega) (by decide) ((hT _ (by omega)).2.2) ?_
            refine p_goto (tgt := 86) (by decide) ?_
            refine zK.blk rfl ?_
            exact p_iret trivial rfl rfl
        · skip
          rw [if_pos (by rw [show w0 = 1 by omega])]
          refine p_aloadn_0 ?_
          refine p_getr rfl rfl ?_
          refine p_iloadn_1 ?_
          refine p_iald rfl (by omega) (by decide) ((hT _ (by omega)).2.1) ?_
          refine p_goto (tgt := 86) (by decide) ?_
          refine zK.blk rfl ?_
          exact p_iret trivial rfl rfl
      · skip
        rw [if_pos (by rw [show w0 = 0 by omega])]
        refine p_aloadn_0 ?_
        refine p_getr rfl rfl ?_
        refine p_iloadn_1 ?_
        refine p_iald rfl (by omega) (by decide) ((hT _ (by omega)).1) ?_
        refine p_goto (tgt := 86) (by decide) ?_
        refine zK.blk rfl ?_
        exact p_iret trivial rfl rfl
    · skip
      rw [if_neg (zin_no (by decide) hc25 (by decide)), if_neg (zin_no (by decide) hc25 (by decide)), if_neg (zin_no (by decide) hc25 (by decide)), if_neg (zin_no (by decide) hc25 (by decide))]
      refine zK.blk rfl ?_
      refine p_iconst (v := -1) (by decide) ?_
      exact p_iret trivial rfl rfl
set_option maxRecDepth 100000 in
set_option maxHeartbeats 4000000 in
theorem c_80 {sc : Nat × (Nat → Int32)} {d : Nat} {M : zM} {n : Nat} {P T K : Nat → Nat} {len : Nat} {w : Int32} (hsg : sgC M n P T K) (hln : M 24 1 = nI len) : zC 47 sc (d + 2) 80 [.ref 0, .int w] M (some (.int (fCount P n len w))) (M) := by
  obtain ⟨hn6, hn, hR, hS⟩ := id hsg
  unfold fCount
  refine z_enter (L := [.ref 0, .int w]) rfl rfl rfl ?_
  refine zK.blk rfl ?_
  refine p_iloadn_1 ?_
  refine p_tab (td := 52) (N := 2) (by decide) rfl (by decide) (fun i => if i = 0 then 28 else if i = 1 then 36 else 44) (fun i hi => by rcases (show i = 0 ∨ i = 1 ∨ i = 2 by omega) with rfl | rfl | rfl <;> exact ⟨_, rfl, by decide⟩) (fun hno => ?_) (fun i hi e => ?_)
  · rw [if_neg (hno 0 (by decide)), if_neg (hno 1 (by decide)), if_neg (hno 2 (by decide))]
    refine zK.blk rfl ?_
    refine p_iconst (v := -1) (by decide) ?_
    exact p_iret trivial rfl rfl
  · rcases (show i = 0 ∨ i = 1 ∨ i = 2 by omega) with rfl | rfl | rfl
    · subst e
      rw [if_pos rfl]
      refine zK.blk rfl ?_
      refine p_aloadn_0 ?_
      refine p_getr rfl rfl ?_
      refine p_geti rfl rfl (hn) ?_
      exact p_iret trivial rfl rfl
    · subst e
      rw [if_neg (by decide), if_pos rfl]
      refine zK.blk rfl ?_
      refine p_aloadn_0 ?_
      refine p_getr rfl rfl ?_
      refine p_cv0i rfl rfl rfl rfl rfl (c_27 hsg) ?_
      exact p_iret trivial rfl rfl
    · subst e
      rw [if_neg (by decide), if_neg (by decide), if_pos rfl]
      refine zK.blk rfl ?_
      refine p_aloadn_0 ?_
      refine p_getr rfl rfl ?_
      refine p_geti rfl rfl (hln) ?_
      exact p_iret trivial rfl rfl
set_option maxRecDepth 100000 in
set_option maxHeartbeats 4000000 in
theorem lp_136_9 {sc : Nat × (Nat → Int32)} {d : Nat} {M : zM} {r : Option Value} {M' : zM} {n : Nat} {P T K : Nat → Nat} {w : Int32} (hsm : sgM M n P T K) : ∀ (j i v : Nat), i + j = n → zK 47 sc (zC 47 sc (d + 1)) 136 r M' 41 [.ref 33, .int w, .int (nI (zfor (o3F P) j i v)), .int (nI n)] [] (M) → zK 47 sc (zC 47 sc (d + 1)) 136 r M' 9 [.ref 33, .int w, .int (nI v), .int (nI i)] [] (M) := by
  intro j
  induction j with
  | zero =>
    intro i v  hj hk
    obtain rfl : i = n := by omega
    obtain ⟨hth, hm, hn6, hR, hT⟩ := id hsm
    refine zK.blk rfl ?_
    refine p_iloadn_3 ?_
    refine p_aloadn_0 ?_
    refine p_geti rfl rfl (hm) ?_
    refine p_icmpN_ge (tgt := 41) (by decide) (by omega) (by omega) (fun hc14 => ?_) (fun hc14 => ?_)
    · skip
      exact hk
    · skip
      exact absurd hc14 (by omega) --STOP
  | succ j ih =>
    intro i v  hj hk
    obtain ⟨hth, hm, hn6, hR, hT⟩ := id hsm
    have hP := hR i (by omega)
    refine zK.blk rfl ?_
    refine p_iloadn_3 ?_
    refine p_aloadn_0 ?_
    refine p_geti rfl rfl (hm) ?_
    refine p_icmpN_ge (tgt := 41) (by decide) (by omega) (by omega) (fun hc14 => ?_) (fun hc14 => ?_)
    · skip
      exact absurd hc14 (by omega) --STOP
    · skip
      refine p_iloadn_2 ?_
      refine p_aloadn_0 ?_
      refine p_getr rfl rfl ?_
      refine p_iloadn_3 ?_
      refine p_iald rfl (by omega) (by decide) ((hT _ (by omega)).1) ?_
      refine p_iconst (v := nI 3) (by decide) ?_
      refine p_icmpN_ne (tgt := 32) (by decide) (by omega) (by omega) (fun hc25 => ?_) (fun hc25 => ?_)
      · skip
        rw [zfor_step (f := o3F P) (a' := v + 0) (by unfold o3F; rw [if_neg hc25]; rfl)] at hk
        refine zK.blk rfl ?_
        refine p_iconst (v := nI 0) (by decide) ?_
        refine zK.blk rfl ?_
        refine p_iaddN ?_
        refine p_istoren_2 rfl ?_
        refine p_iinc_3 (zN_inc _ 1) rfl ?_
        refine p_goto (tgt := 9) (by decide) ?_
        exact ih _ _ (by omega) hk
      · skip
        rw [zfor_step (f := o3F P) (a' := v + 1) (by unfold o3F; rw [if_pos (by omega)])] at hk
        refine p_iconst (v := nI 1) (by decide) ?_
        refine p_goto (tgt := 33) (by decide) ?_
        refine zK.blk rfl ?_
        refine p_iaddN ?_
        refine p_istoren_2 rfl ?_
        refine p_iinc_3 (zN_inc _ 1) rfl ?_
        refine p_goto (tgt := 9) (by decide) ?_
        exact ih _ _ (by omega) hk
set_option maxRecDepth 100000 in
set_option maxHeartbeats 4000000 in
theorem c_136 {sc : Nat × (Nat → Int32)} {d : Nat} {M : zM} {n : Nat} {P T K : Nat → Nat} {len : Nat} {w : Int32} (hsm : sgM M n P T K) (hty : M 33 10 = nI len) : zC 47 sc (d + 2) 136 [.ref 33, .int w] M (some (.int (fCount P n len w))) (M) := by
  obtain ⟨hth, hm, hn6, hR, hT⟩ := id hsm
  unfold fCount
  refine z_enter (L := [.ref 33, .int w, .null, .null]) rfl rfl rfl ?_
  refine zK.blk rfl ?_
  refine p_aloadn_0 ?_
  refine p_iconst (v := nI 0) (by decide) ?_
  refine p_put rfl rfl (by simp) ?_
  rw [zup_id hth]
  refine p_iconst (v := nI 0) (by decide) ?_
  refine p_istoren_2 rfl ?_
  refine p_iconst (v := nI 0) (by decide) ?_
  refine p_istoren_3 rfl ?_
  refine lp_136_9 hsm n 0 0 (by omega) ?_
  refine zK.blk rfl ?_
  refine p_iloadn_1 ?_
  refine p_if_ne (tgt := 52) (by decide) (fun hc42 => ?_) (fun hc42 => ?_)
  · skip
    rw [if_neg (show ¬ w = nI 0 from hc42)]
    refine zK.blk rfl ?_
    refine p_iloadn_1 ?_
    refine p_iconst (v := nI 1) (by decide) ?_
    refine p_icmp_ne (tgt := 61) (by decide) (fun hc54 => ?_) (fun hc54 => ?_)
    · skip
      rw [if_neg hc54]
      refine zK.blk rfl ?_
      refine p_iloadn_1 ?_
      refine p_iconst (v := nI 2) (by decide) ?_
      refine p_icmp_ne (tgt := 73) (by decide) (fun hc63 => ?_) (fun hc63 => ?_)
      · skip
        rw [if_neg hc63]
        refine zK.blk rfl ?_
        refine p_iconst (v := -1) (by decide) ?_
        refine zK.blk rfl ?_
        exact p_iret trivial rfl rfl
      · skip
        rw [if_pos (Classical.not_not.mp hc63)]
        refine p_aloadn_0 ?_
        refine p_geti rfl rfl (hty) ?_
        refine p_goto (tgt := 74) (by decide) ?_
        refine zK.blk rfl ?_
        exact p_iret trivial rfl rfl
    · skip
      rw [if_pos (Classical.not_not.mp hc54)]
      refine p_iloadn_2 ?_
      refine p_goto (tgt := 74) (by decide) ?_
      refine zK.blk rfl ?_
      exact p_iret trivial rfl rfl
  · skip
    rw [if_pos (show w = nI 0 from Classical.not_not.mp hc42)]
    refine p_aloadn_0 ?_
    refine p_geti rfl rfl (hm) ?_
    refine p_goto (tgt := 74) (by decide) ?_
    refine zK.blk rfl ?_
    exact p_iret trivial rfl rfl
theorem le_bits (P T : Nat → Nat) (q rows : Nat) : ∀ j i v, v < 2 ^ i → zfor (leF P T q rows) j i v < 2 ^ (i + j) ∧ (zfor (leF P T q rows) j i v = 2 ^ (i + j) - 1 ↔ (v = 2 ^ i - 1 ∧ zall (apF P T q rows) j i = true)) := by
  intro j
  induction j with
  | zero => intro i v h; exact ⟨h, by simp [zfor, zall]⟩
  | succ j ih =>
    intro i v h
    have hp : 0 < 2 ^ i := Nat.two_pow_pos i
    have hs : 2 ^ (i + 1) = 2 ^ i + 2 ^ i := by rw [Nat.pow_succ]; omega
    have e : i + (j + 1) = i + 1 + j := by omega
    rw [e]
    cases ha : apF P T q rows i with
    | true =>
      have hf : leF P T q rows i v = 2 ^ i + v := by
        unfold leF
        rw [ha, if_pos rfl, Nat.one_shiftLeft, Nat.or_comm]
        have := Nat.two_pow_add_eq_or_of_lt h 1
        rw [Nat.mul_one] at this
        exact this.symm
      obtain ⟨h1, h2⟩ := ih (i + 1) (2 ^ i + v) (by omega)
      rw [zfor_step hf, zall_t ha]
      refine ⟨h1, h2.trans ?_⟩
      constructor
      · rintro ⟨a, b⟩; exact ⟨by omega, b⟩
      · rintro ⟨a, b⟩; exact ⟨by omega, b⟩
    | false =>
      have hf : leF P T q rows i v = v := by
        unfold leF
        rw [ha, if_neg (by decide), Nat.or_zero]
      obtain ⟨h1, h2⟩ := ih (i + 1) v (by omega)
      rw [zfor_step hf, zall_f ha]
      refine ⟨h1, h2.trans ?_⟩
      constructor
      · rintro ⟨a, b⟩; omega
      · rintro ⟨a, b⟩; cases b
theorem le_ap (P T : Nat → Nat) (n q rows : Nat) : leN P T n q rows < 2 ^ n ∧ (leN P T n q rows = 1 <<< n - 1 ↔ apN P T n q rows = true) := by
  have h := le_bits P T q rows n 0 0 (by decide)
  rw [Nat.zero_add] at h
  refine ⟨h.1, ?_⟩
  rw [Nat.one_shiftLeft]
  exact h.2.trans ⟨fun z => z.2, fun z => ⟨rfl, z⟩⟩
theorem pcF_le (P T : Nat → Nat) (n q : Nat) : ∀ j i v, zfor (pcF P T n q) j i v ≤ v + j := by
  intro j
  induction j with
  | zero => intro i v; exact Nat.le_refl _
  | succ j ih =>
    intro i v
    have h1 := ih (i + 1) (pcF P T n q i v)
    have h2 : pcF P T n q i v ≤ v + 1 := by unfold pcF; split <;> omega
    show zfor (pcF P T n q) j (i + 1) (pcF P T n q i v) ≤ _
    omega
theorem pcN_le {P T : Nat → Nat} {n q : Nat} (hq : q < 4) : pcN P T n q ≤ 256 := by
  have h1 := pcF_le P T n q (z22 q) 0 0
  have h2 := z22_lt hq
  unfold pcN
  omega
theorem zcnt_x {x : Int32} (h : zcnt x = true) : ∃ q, 1 ≤ q ∧ q < 4 ∧ x = nI q := by
  unfold zcnt at h
  simp only [Bool.and_eq_true, decide_eq_true_eq] at h
  have h0 : ¬ x < 0 := fun z => h.1 (Int32.lt_trans z (by decide))
  obtain ⟨p, hp, rfl⟩ := nI_of2 (M := nI 3) (n := 3) (by decide) h0 (Int32.not_lt.mp h.2)
  exact ⟨p, by have h2 := h.1; rw [nI_ltI (by omega) (by decide)] at h2; omega, by omega, rfl⟩
def fKept (P T : Nat → Nat) (n : Nat) (x : Int32) : Int32 := if zcnt x = true then nI (pcN P T n x.toNatClampNeg) else -1
theorem nI_nm1 {a : Nat} (h : a < 2 ^ 31) : ¬ nI a = -1 := by
  intro e
  have := nI_toInt h
  rw [e] at this
  have e1 : (-1 : Int32).toInt = -1 := by decide
  omega
set_option maxRecDepth 100000 in
set_option maxHeartbeats 4000000 in
theorem c_73a {sc : Nat × (Nat → Int32)} {d : Nat} {M : zM} {n : Nat} {P T K : Nat → Nat} {q : Nat} (hsg : sgC M n P T K) (hq1 : 1 ≤ q) (hq : q < 4) (hv : M 32 q = nI (pcN P T n q)) : zC 47 sc (d + 7) 73 [.ref 0, .int (nI q)] M (some (.int (nI (pcN P T n q)))) (M) := by
  have hle := pcN_le (P := P) (T := T) (n := n) hq
  have hzc : zcnt (nI q) = true := by unfold zcnt; rw [decide_eq_true (nI_nlt (by omega) (by omega)), decide_eq_true (nI_nlt (by omega) (by decide))]; rfl
  refine z_enter (L := [.ref 0, .int (nI q)]) rfl rfl rfl ?_
  refine zK.blk rfl ?_
  refine p_iloadn_1 ?_
  refine p_cs1i rfl rfl rfl rfl rfl (c_82) ?_
  refine p_ifB_ne (tgt := 9) (by decide) (fun hc4 => ?_) (fun hc4 => ?_)
  · skip
    refine zK.blk rfl ?_
    refine p_aloadn_0 ?_
    refine p_getr rfl rfl ?_
    refine p_iloadn_1 ?_
    refine p_iald rfl (by omega) (by decide) (hv) ?_
    refine p_iconst (v := -1) (by decide) ?_
    refine p_icmp_ne (tgt := 33) (by decide) (fun hc16 => ?_) (fun hc16 => ?_)
    · skip
      refine zK.blk rfl ?_
      refine p_aloadn_0 ?_
      refine p_getr rfl rfl ?_
      refine p_iloadn_1 ?_
      refine p_iald rfl (by omega) (by decide) (hv) ?_
      exact p_iret trivial rfl rfl
    · skip
      exact absurd hc16 (fun z => z (nI_nm1 (by omega))) --STOP
  · skip
    rw [hzc] at hc4; cases hc4 --STOP
set_option maxRecDepth 100000 in
set_option maxHeartbeats 4000000 in
theorem c_73b {sc : Nat × (Nat → Int32)} {d : Nat} {M : zM} {n : Nat} {P T K : Nat → Nat} {q : Nat} (hsg : sgC M n P T K) (hq1 : 1 ≤ q) (hq : q < 4) (hv : M 32 q = -1) : zC 47 sc (d + 7) 73 [.ref 0, .int (nI q)] M (some (.int (nI (pcN P T n q)))) (zup M 32 q (nI (pcN P T n q))) := by
  have hle := pcN_le (P := P) (T := T) (n := n) hq
  have hzc : zcnt (nI q) = true := by unfold zcnt; rw [decide_eq_true (nI_nlt (by omega) (by omega)), decide_eq_true (nI_nlt (by omega) (by decide))]; rfl
  refine z_enter (L := [.ref 0, .int (nI q)]) rfl rfl rfl ?_
  refine zK.blk rfl ?_
  refine p_iloadn_1 ?_
  refine p_cs1i rfl rfl rfl rfl rfl (c_82) ?_
  refine p_ifB_ne (tgt := 9) (by decide) (fun hc4 => ?_) (fun hc4 => ?_)
  · skip
    refine zK.blk rfl ?_
    refine p_aloadn_0 ?_
    refine p_getr rfl rfl ?_
    refine p_iloadn_1 ?_
    refine p_iald rfl (by omega) (by decide) hv ?_
    refine p_iconst (v := -1) (by decide) ?_
    refine p_icmp_ne (tgt := 33) (by decide) (fun hc16 => ?_) (fun hc16 => ?_)
    · skip
      exact absurd rfl hc16 --STOP
    · skip
      refine p_aloadn_0 ?_
      refine p_getr rfl rfl ?_
      refine p_iloadn_1 ?_
      refine p_aloadn_0 ?_
      refine p_getr rfl rfl ?_
      refine p_iloadn_1 ?_
      refine p_cv1i rfl rfl rfl rfl rfl (c_32 hsg hq) ?_
      refine p_iast rfl (by omega) (by decide) ?_
      refine zK.blk rfl ?_
      refine p_aloadn_0 ?_
      refine p_getr rfl rfl ?_
      refine p_iloadn_1 ?_
      refine p_iald (v := nI (pcN P T n q)) rfl (by omega) (by decide) (by simp [zup]) ?_
      exact p_iret trivial rfl rfl
  · skip
    rw [hzc] at hc4; cases hc4 --STOP
set_option maxRecDepth 100000 in
set_option maxHeartbeats 4000000 in
theorem c_73c {sc : Nat × (Nat → Int32)} {d : Nat} {M : zM} {x : Int32} (hx : zcnt x = false) : zC 47 sc (d + 7) 73 [.ref 0, .int x] M (some (.int (-1))) (M) := by
  refine z_enter (L := [.ref 0, .int x]) rfl rfl rfl ?_
  refine zK.blk rfl ?_
  refine p_iloadn_1 ?_
  refine p_cs1i rfl rfl rfl rfl rfl (c_82) ?_
  refine p_ifB_ne (tgt := 9) (by decide) (fun hc4 => ?_) (fun hc4 => ?_)
  · skip
    rw [hx] at hc4; cases hc4 --STOP
  · skip
    refine p_iconst (v := -1) (by decide) ?_
    exact p_iret trivial rfl rfl
set_option maxRecDepth 100000 in
set_option maxHeartbeats 4000000 in
theorem lp_124_20 {sc : Nat × (Nat → Int32)} {d : Nat} {M : zM} {r : Option Value} {M' : zM} {n : Nat} {P T K : Nat → Nat} {q : Nat} (hsm : sgM M n P T K) (hq : q < 4) : ∀ (j i v : Nat), i + j = z22 q → zK 47 sc (zC 47 sc (d + 4)) 124 r M' 59 [.ref 33, .int (nI q), .int (nI (zfor (pcF P T n q) j i v)), .int (nI (z22 q))] [] (M) → zK 47 sc (zC 47 sc (d + 4)) 124 r M' 20 [.ref 33, .int (nI q), .int (nI v), .int (nI i)] [] (M) := by
  intro j
  induction j with
  | zero =>
    intro i v  hj hk
    have hin : i = z22 q := by omega
    subst hin
    have hz := z22_lt hq
    refine zK.blk rfl ?_
    refine p_iloadn_3 ?_
    refine p_iloadn_1 ?_
    refine p_cs1i rfl rfl rfl rfl rfl (c_91 hq) ?_
    refine p_icmpN_ge (tgt := 59) (by decide) (by omega) (by omega) (fun hc25 => ?_) (fun hc25 => ?_)
    · skip
      exact hk
    · skip
      exact absurd hc25 (by omega) --STOP
  | succ j ih =>
    intro i v  hj hk
    obtain ⟨hth, hm, hn6, hR, hT⟩ := id hsm
    have hz := z22_lt hq
    have h1 := z1n_lt hn6
    have hla := le_ap P T n q i
    have h64 : 2 ^ n ≤ 64 := by have h9 := h1.2; rw [Nat.one_shiftLeft] at h9; exact h9
    refine zK.blk rfl ?_
    refine p_iloadn_3 ?_
    refine p_iloadn_1 ?_
    refine p_cs1i rfl rfl rfl rfl rfl (c_91 hq) ?_
    refine p_icmpN_ge (tgt := 59) (by decide) (by omega) (by omega) (fun hc25 => ?_) (fun hc25 => ?_)
    · skip
      exact absurd hc25 (by omega) --STOP
    · skip
      refine p_iloadn_2 ?_
      refine p_aloadn_0 ?_
      refine p_iloadn_1 ?_
      refine p_iloadn_3 ?_
      refine p_cv2i rfl rfl rfl rfl rfl (c_120 hsm hq (by omega)) ?_
      refine p_iconst (v := nI 1) (by decide) ?_
      refine p_aloadn_0 ?_
      refine p_geti rfl rfl (hm) ?_
      refine p_ishlN (by omega) ?_
      refine p_iconst (v := nI 1) (by decide) ?_
      refine p_isubN (by omega) ?_
      refine p_icmpN_ne (tgt := 50) (by decide) (by omega) (by omega) (fun hc43 => ?_) (fun hc43 => ?_)
      · skip
        rw [zfor_step (f := pcF P T n q) (a' := v + 0) (by unfold pcF; rw [if_neg (fun z => hc43 (hla.2.mpr z))]; rfl)] at hk
        refine zK.blk rfl ?_
        refine p_iconst (v := nI 0) (by decide) ?_
        refine zK.blk rfl ?_
        refine p_iaddN ?_
        refine p_istoren_2 rfl ?_
        refine p_iinc_3 (zN_inc _ 1) rfl ?_
        refine p_goto (tgt := 20) (by decide) ?_
        exact ih _ _ (by omega) hk
      · skip
        rw [zfor_step (f := pcF P T n q) (a' := v + 1) (by unfold pcF; rw [if_pos (hla.2.mp (by omega))])] at hk
        refine p_iconst (v := nI 1) (by decide) ?_
        refine p_goto (tgt := 51) (by decide) ?_
        refine zK.blk rfl ?_
        refine p_iaddN ?_
        refine p_istoren_2 rfl ?_
        refine p_iinc_3 (zN_inc _ 1) rfl ?_
        refine p_goto (tgt := 20) (by decide) ?_
        exact ih _ _ (by omega) hk
set_option maxRecDepth 100000 in
set_option maxHeartbeats 4000000 in
theorem c_124 {sc : Nat × (Nat → Int32)} {d : Nat} {M : zM} {n : Nat} {P T K : Nat → Nat} {x : Int32} (hsm : sgM M n P T K) : zC 47 sc (d + 5) 124 [.ref 33, .int x] M (some (.int (fKept P T n x))) (M) := by
  obtain ⟨hth, hm, hn6, hR, hT⟩ := id hsm
  unfold fKept
  refine z_enter (L := [.ref 33, .int x, .null, .null]) rfl rfl rfl ?_
  refine zK.blk rfl ?_
  refine p_aloadn_0 ?_
  refine p_iconst (v := nI 0) (by decide) ?_
  refine p_put rfl rfl (by simp) ?_
  rw [zup_id hth]
  refine p_iloadn_1 ?_
  refine p_iconst (v := nI 1) (by decide) ?_
  refine p_iconst (v := nI 3) (by decide) ?_
  refine p_cs3i rfl rfl rfl rfl rfl (c_89) ?_
  refine p_ifB_ne (tgt := 16) (by decide) (fun hc11 => ?_) (fun hc11 => ?_)
  · skip
    rw [if_pos (show zcnt x = true from hc11)]
    obtain ⟨q, hq1, hq, rfl⟩ := zcnt_x hc11
    rw [nI_clamp (by omega)]
    refine zK.blk rfl ?_
    refine p_iconst (v := nI 0) (by decide) ?_
    refine p_istoren_2 rfl ?_
    refine p_iconst (v := nI 0) (by decide) ?_
    refine p_istoren_3 rfl ?_
    refine lp_124_20 hsm hq (z22 q) 0 0 (by omega) ?_
    refine zK.blk rfl ?_
    refine p_iloadn_2 ?_
    exact p_iret trivial rfl rfl
  · skip
    rw [if_neg (by rw [show zcnt x = false from hc11]; decide)]
    refine p_iconst (v := -1) (by decide) ?_
    exact p_iret trivial rfl rfl
