theorem zfits_x {x y : Int32} (h : zfits x y = true) : ∃ p t, p < 4 ∧ t < z22 p ∧ x = nI p ∧ y = nI t := by
  unfold zfits at h
  simp only [Bool.and_eq_true, decide_eq_true_eq] at h
  obtain ⟨⟨⟨h1, h2⟩, h3⟩, h4⟩ := h
  obtain ⟨p, hp, rfl⟩ := nI_of2 (M := nI 3) (n := 3) (by decide) h1 (Int32.not_lt.mp h2)
  have hz := z22_lt (show p < 4 by omega)
  rw [nI_clamp (by omega)] at h4
  obtain ⟨t, ht, rfl⟩ := nI_of2 (M := nI (z22 p - 1)) (n := z22 p - 1) (nI_toInt (by omega)) h3 (Int32.not_lt.mp h4)
  exact ⟨p, t, by omega, by omega, rfl, rfl⟩
theorem zhas_x {n : Nat} {x : Int32} (hn : n < 2 ^ 31) (h : zhas n x = true) : ∃ i, i < n ∧ x = nI i := by
  unfold zhas at h
  simp only [Bool.and_eq_true, decide_eq_true_eq] at h
  obtain ⟨j, hj, rfl⟩ := nI_of h.1
  exact ⟨j, by have h2 := h.2; rw [nI_leI hn hj] at h2; omega, rfl⟩
theorem zrl_x {x y : Int32} (h : zrl x y = true) : ∃ q t, 1 ≤ q ∧ q < 4 ∧ t < z22 q ∧ x = nI q ∧ y = nI t := by
  unfold zrl at h
  simp only [Bool.and_eq_true] at h
  obtain ⟨p, t, hp, ht, rfl, rfl⟩ := zfits_x h.2
  have h1 := h.1
  unfold zcnt at h1
  simp only [Bool.and_eq_true, decide_eq_true_eq] at h1
  exact ⟨p, t, by have h2 := h1.1; rw [nI_ltI (by omega) (by decide)] at h2; omega, hp, ht, rfl, rfl⟩
theorem zfits_zin {p : Nat} {y : Int32} (hp : p < 4) : zfits (nI p) y = zin y (nI 0) (nI (z22 p - 1)) := by
  unfold zfits zin
  rw [nI_clamp (by omega), decide_eq_true (nI_pos (by omega)), decide_eq_true (show ¬ nI 3 < nI p from nI_nlt (by omega) (by decide))]
  rfl
theorem zfits_no {x y : Int32} (h : zin x (nI 0) (nI 3) = false) : zfits x y = false := by
  unfold zin at h
  unfold zfits
  rw [show nI 0 = 0 from rfl] at h
  rw [h]; rfl
theorem zin_x {x : Int32} {n : Nat} (hn : n < 2 ^ 31) (h : zin x (nI 0) (nI n) = true) : ∃ p, p ≤ n ∧ x = nI p := by
  unfold zin at h
  simp only [Bool.and_eq_true, decide_eq_true_eq] at h
  obtain ⟨p, hp, rfl⟩ := nI_of2 (M := nI n) (n := n) (nI_toInt hn) h.1 (Int32.not_lt.mp h.2)
  exact ⟨p, hp, rfl⟩
def fKeeps (x y : Int32) : Int32 := if zfits x y = true then nI (kbN x.toNatClampNeg y.toNatClampNeg) else -1
def fLacks (P T : Nat → Nat) (n : Nat) (x : Int32) : Int32 := if zhas (1 <<< n) x = true then nI (kaN P T n x.toNatClampNeg) else -1
def fSays (P T : Nat → Nat) (n : Nat) (x : Int32) : Int32 := if zhas (1 <<< n) x = true then (if kaN P T n x.toNatClampNeg = 0 then nI 1 else nI 0) else -1
def fLets (P T : Nat → Nat) (n : Nat) (x y z : Int32) : Int32 := if zhas n x = true ∧ zrl y z = true then (if apF P T y.toNatClampNeg z.toNatClampNeg x.toNatClampNeg = true then nI 1 else nI 0) else -1
def fLetting (P T : Nat → Nat) (n : Nat) (y z : Int32) : Int32 := if zrl y z = true then nI (leN P T n y.toNatClampNeg z.toNatClampNeg) else -1
def zfind (f : Nat → Bool) (x : Int32) : Nat → Nat → Nat → Int32
  | 0, _, v => if x = -1 then nI v else -9
  | j + 1, i, v => if f i = true then (if nI v = x then nI i else zfind f x j (i + 1) (v + 1)) else zfind f x j (i + 1) v
def fSets (P T : Nat → Nat) (n : Nat) (x : Int32) : Int32 := if x < -1 then -1 else zfind (lsN P T n) x (1 <<< n) 0 0
def fAlone (x : Int32) : Int32 := if x < -1 then -1 else zfind (fun t => decide (kbN 2 t = 0)) x 16 0 0
set_option maxRecDepth 100000 in
set_option maxHeartbeats 4000000 in
theorem c_59 {sc : Nat × (Nat → Int32)} {d : Nat} {M : zM} {x y : Int32} : zC 47 sc (d + 4) 59 [.ref 0, .int x, .int y] M (some (.int (fKeeps x y))) (M) := by
  refine z_enter (L := [.ref 0, .int x, .int y]) rfl rfl rfl ?_
  refine zK.blk rfl ?_
  refine p_iloadn_1 ?_
  refine p_iloadn_2 ?_
  refine p_cs2i rfl rfl rfl rfl rfl (c_0) ?_
  refine p_ifB_eq (tgt := 16) (by decide) (fun hc5 => ?_) (fun hc5 => ?_)
  · skip
    unfold fKeeps
    rw [if_neg (by rw [hc5]; decide)]
    refine zK.blk rfl ?_
    refine p_iconst (v := -1) (by decide) ?_
    refine zK.blk rfl ?_
    exact p_iret trivial rfl rfl
  · skip
    unfold fKeeps
    rw [if_pos hc5]
    obtain ⟨p, t, hp, ht, rfl, rfl⟩ := zfits_x hc5
    have hz := z22_lt hp
    rw [nI_clamp (by omega), nI_clamp (by omega)]
    refine p_iloadn_1 ?_
    refine p_iloadn_2 ?_
    refine p_cs2i rfl rfl rfl rfl rfl (c_12 hp ht) ?_
    refine p_goto (tgt := 17) (by decide) ?_
    refine zK.blk rfl ?_
    exact p_iret trivial rfl rfl
set_option maxRecDepth 100000 in
set_option maxHeartbeats 4000000 in
theorem c_96 {sc : Nat × (Nat → Int32)} {d : Nat} {M : zM} {x y : Int32} {n : Nat} {P T K : Nat → Nat} (hsm : sgM M n P T K) : zC 47 sc (d + 2) 96 [.ref 33, .int x, .int y] M (some (.int (fKeeps x y))) (M) := by
  obtain ⟨hth, hm, hn6, hR, hT⟩ := id hsm
  unfold fKeeps
  refine z_enter (L := [.ref 33, .int x, .int y]) rfl rfl rfl ?_
  refine zK.blk rfl ?_
  refine p_aloadn_0 ?_
  refine p_iconst (v := nI 0) (by decide) ?_
  refine p_put rfl rfl (by simp) ?_
  rw [zup_id hth]
  refine p_iloadn_1 ?_
  refine p_iconst (v := nI 0) (by decide) ?_
  refine p_iconst (v := nI 3) (by decide) ?_
  refine p_cs3i rfl rfl rfl rfl rfl (c_89) ?_
  refine p_ifB_eq (tgt := 36) (by decide) (fun hc11 => ?_) (fun hc11 => ?_)
  · skip
    rw [if_neg (by rw [zfits_no hc11]; decide)]
    refine zK.blk rfl ?_
    refine p_iconst (v := -1) (by decide) ?_
    refine zK.blk rfl ?_
    exact p_iret trivial rfl rfl
  · skip
    obtain ⟨p, hp, rfl⟩ := zin_x (by decide) hc11
    have hz := z22_lt (show p < 4 by omega)
    refine p_iloadn_2 ?_
    refine p_iconst (v := nI 0) (by decide) ?_
    refine p_iloadn_1 ?_
    refine p_cs1i rfl rfl rfl rfl rfl (c_91 (p := p) (by omega)) ?_
    refine p_iconst (v := nI 1) (by decide) ?_
    refine p_isubN (by omega) ?_
    refine p_cs3i rfl rfl rfl rfl rfl (c_89) ?_
    refine p_ifB_eq (tgt := 36) (by decide) (fun hc25 => ?_) (fun hc25 => ?_)
    · skip
      rw [if_neg (by rw [zfits_zin (by omega), hc25]; decide)]
      refine zK.blk rfl ?_
      refine p_iconst (v := -1) (by decide) ?_
      refine zK.blk rfl ?_
      exact p_iret trivial rfl rfl
    · skip
      rw [if_pos (by rw [zfits_zin (by omega), hc25])]
      obtain ⟨t, ht, rfl⟩ := zin_x (by omega) hc25
      rw [nI_clamp (by omega), nI_clamp (by omega), (kb_km p (by omega) t (by omega)).1]
      refine p_iloadn_1 ?_
      refine p_iloadn_2 ?_
      refine p_cs2i rfl rfl rfl rfl rfl (c_94 (by omega) (by omega)) ?_
      refine p_goto (tgt := 37) (by decide) ?_
      refine zK.blk rfl ?_
      exact p_iret trivial rfl rfl
set_option maxRecDepth 100000 in
set_option maxHeartbeats 4000000 in
theorem c_65 {sc : Nat × (Nat → Int32)} {d : Nat} {M : zM} {n : Nat} {P T K : Nat → Nat} {x : Int32} (hsg : sgC M n P T K) : zC 47 sc (d + 3) 65 [.ref 0, .int x] M (some (.int (fSays P T n x))) (M) := by
  obtain ⟨hn6, hn, hR, hS⟩ := id hsg
  have hz := z1n_lt hn6
  unfold fSays
  refine z_enter (L := [.ref 0, .int x]) rfl rfl rfl ?_
  refine zK.blk rfl ?_
  refine p_aloadn_0 ?_
  refine p_getr rfl rfl ?_
  refine p_iloadn_1 ?_
  refine p_cv1i rfl rfl rfl rfl rfl (c_25 hsg) ?_
  refine p_ifB_ne (tgt := 13) (by decide) (fun hc8 => ?_) (fun hc8 => ?_)
  · skip
    rw [if_pos hc8]
    obtain ⟨s, hs, rfl⟩ := zhas_x (by omega) hc8
    rw [nI_clamp (by omega)]
    refine zK.blk rfl ?_
    refine p_aloadn_0 ?_
    refine p_getr rfl rfl ?_
    refine p_iloadn_1 ?_
    refine p_cv1i rfl rfl rfl rfl rfl (c_29 hsg (by omega)) ?_
    refine p_ifB_eq (tgt := 28) (by decide) (fun hc21 => ?_) (fun hc21 => ?_)
    · skip
      rw [if_neg (of_decide_eq_false hc21)]
      refine zK.blk rfl ?_
      refine p_iconst (v := nI 0) (by decide) ?_
      refine zK.blk rfl ?_
      exact p_iret trivial rfl rfl
    · skip
      rw [if_pos (of_decide_eq_true hc21)]
      refine p_iconst (v := nI 1) (by decide) ?_
      refine p_goto (tgt := 29) (by decide) ?_
      refine zK.blk rfl ?_
      exact p_iret trivial rfl rfl
  · skip
    rw [if_neg (by rw [hc8]; decide)]
    refine p_iconst (v := -1) (by decide) ?_
    exact p_iret trivial rfl rfl
set_option maxRecDepth 100000 in
set_option maxHeartbeats 4000000 in
theorem c_66 {sc : Nat × (Nat → Int32)} {d : Nat} {M : zM} {n : Nat} {P T K : Nat → Nat} {x : Int32} (hsg : sgC M n P T K) : zC 47 sc (d + 3) 66 [.ref 0, .int x] M (some (.int (fLacks P T n x))) (M) := by
  obtain ⟨hn6, hn, hR, hS⟩ := id hsg
  have hz := z1n_lt hn6
  unfold fLacks
  refine z_enter (L := [.ref 0, .int x]) rfl rfl rfl ?_
  refine zK.blk rfl ?_
  refine p_aloadn_0 ?_
  refine p_getr rfl rfl ?_
  refine p_iloadn_1 ?_
  refine p_cv1i rfl rfl rfl rfl rfl (c_25 hsg) ?_
  refine p_ifB_eq (tgt := 22) (by decide) (fun hc8 => ?_) (fun hc8 => ?_)
  · skip
    rw [if_neg (by rw [hc8]; decide)]
    refine zK.blk rfl ?_
    refine p_iconst (v := -1) (by decide) ?_
    refine zK.blk rfl ?_
    exact p_iret trivial rfl rfl
  · skip
    rw [if_pos hc8]
    obtain ⟨s, hs, rfl⟩ := zhas_x (by omega) hc8
    rw [nI_clamp (by omega)]
    refine p_aloadn_0 ?_
    refine p_getr rfl rfl ?_
    refine p_iloadn_1 ?_
    refine p_cv1i rfl rfl rfl rfl rfl (c_28 hsg (by omega)) ?_
    refine p_goto (tgt := 23) (by decide) ?_
    refine zK.blk rfl ?_
    exact p_iret trivial rfl rfl
set_option maxRecDepth 100000 in
set_option maxHeartbeats 4000000 in
theorem c_110 {sc : Nat × (Nat → Int32)} {d : Nat} {M : zM} {n : Nat} {P T K : Nat → Nat} {x : Int32} (hsm : sgM M n P T K) : zC 47 sc (d + 3) 110 [.ref 33, .int x] M (some (.int (fSays P T n x))) (M) := by
  obtain ⟨hth, hm, hn6, hR, hT⟩ := id hsm
  have hz := z1n_lt hn6
  unfold fSays
  refine z_enter (L := [.ref 33, .int x]) rfl rfl rfl ?_
  refine zK.blk rfl ?_
  refine p_aloadn_0 ?_
  refine p_iconst (v := nI 0) (by decide) ?_
  refine p_put rfl rfl (by simp) ?_
  rw [zup_id hth]
  refine p_aloadn_0 ?_
  refine p_iloadn_1 ?_
  refine p_cv1i rfl rfl rfl rfl rfl (c_108 hsm) ?_
  refine p_ifB_ne (tgt := 17) (by decide) (fun hc10 => ?_) (fun hc10 => ?_)
  · skip
    rw [if_pos hc10]
    obtain ⟨s, hs, rfl⟩ := zhas_x (by omega) hc10
    rw [nI_clamp (by omega)]
    have hka := kaN_lt P T n s
    refine zK.blk rfl ?_
    refine p_aloadn_0 ?_
    refine p_iloadn_1 ?_
    refine p_cv1i rfl rfl rfl rfl rfl (c_109 hsm (by omega)) ?_
    refine p_ifN_ne (tgt := 29) (by decide) (by omega) (fun hc22 => ?_) (fun hc22 => ?_)
    · skip
      rw [if_neg hc22]
      refine zK.blk rfl ?_
      refine p_iconst (v := nI 0) (by decide) ?_
      refine zK.blk rfl ?_
      exact p_iret trivial rfl rfl
    · skip
      rw [if_pos (by omega)]
      refine p_iconst (v := nI 1) (by decide) ?_
      refine p_goto (tgt := 30) (by decide) ?_
      refine zK.blk rfl ?_
      exact p_iret trivial rfl rfl
  · skip
    rw [if_neg (by rw [hc10]; decide)]
    refine p_iconst (v := -1) (by decide) ?_
    refine p_goto (tgt := 30) (by decide) ?_
    refine zK.blk rfl ?_
    exact p_iret trivial rfl rfl
set_option maxRecDepth 100000 in
set_option maxHeartbeats 4000000 in
theorem c_111 {sc : Nat × (Nat → Int32)} {d : Nat} {M : zM} {n : Nat} {P T K : Nat → Nat} {x : Int32} (hsm : sgM M n P T K) : zC 47 sc (d + 3) 111 [.ref 33, .int x] M (some (.int (fLacks P T n x))) (M) := by
  obtain ⟨hth, hm, hn6, hR, hT⟩ := id hsm
  have hz := z1n_lt hn6
  unfold fLacks
  refine z_enter (L := [.ref 33, .int x]) rfl rfl rfl ?_
  refine zK.blk rfl ?_
  refine p_aloadn_0 ?_
  refine p_iconst (v := nI 0) (by decide) ?_
  refine p_put rfl rfl (by simp) ?_
  rw [zup_id hth]
  refine p_aloadn_0 ?_
  refine p_iloadn_1 ?_
  refine p_cv1i rfl rfl rfl rfl rfl (c_108 hsm) ?_
  refine p_ifB_eq (tgt := 21) (by decide) (fun hc10 => ?_) (fun hc10 => ?_)
  · skip
    rw [if_neg (by rw [hc10]; decide)]
    refine zK.blk rfl ?_
    refine p_iconst (v := -1) (by decide) ?_
    refine zK.blk rfl ?_
    exact p_iret trivial rfl rfl
  · skip
    rw [if_pos hc10]
    obtain ⟨s, hs, rfl⟩ := zhas_x (by omega) hc10
    rw [nI_clamp (by omega)]
    have hka := kaN_lt P T n s
    refine p_aloadn_0 ?_
    refine p_iloadn_1 ?_
    refine p_cv1i rfl rfl rfl rfl rfl (c_109 hsm (by omega)) ?_
    refine p_goto (tgt := 22) (by decide) ?_
    refine zK.blk rfl ?_
    exact p_iret trivial rfl rfl
set_option maxRecDepth 100000 in
set_option maxHeartbeats 4000000 in
theorem c_69 {sc : Nat × (Nat → Int32)} {d : Nat} {M : zM} {n : Nat} {P T K : Nat → Nat} {x y z : Int32} (hsg : sgC M n P T K) : zC 47 sc (d + 5) 69 [.ref 0, .int x, .int y, .int z] M (some (.int (fLets P T n x y z))) (M) := by
  obtain ⟨hn6, hn, hR, hS⟩ := id hsg
  unfold fLets
  refine z_enter (L := [.ref 0, .int x, .int y, .int z]) rfl rfl rfl ?_
  refine zK.blk rfl ?_
  refine p_aloadn_0 ?_
  refine p_getr rfl rfl ?_
  refine p_iloadn_1 ?_
  refine p_cv1i rfl rfl rfl rfl rfl (c_24 hsg) ?_
  refine p_ifB_eq (tgt := 19) (by decide) (fun hc8 => ?_) (fun hc8 => ?_)
  · skip
    rw [if_neg (by rw [hc8]; simp)]
    refine zK.blk rfl ?_
    refine p_iconst (v := -1) (by decide) ?_
    exact p_iret trivial rfl rfl
  · skip
    refine p_iloadn_2 ?_
    refine p_iloadn_3 ?_
    refine p_cs2i rfl rfl rfl rfl rfl (c_83) ?_
    refine p_ifB_ne (tgt := 21) (by decide) (fun hc16 => ?_) (fun hc16 => ?_)
    · skip
      rw [if_pos ⟨hc8, hc16⟩]
      obtain ⟨i, hi, rfl⟩ := zhas_x (by omega) hc8
      obtain ⟨q, t, hq1, hq, ht, rfl, rfl⟩ := zrl_x hc16
      have hz := z22_lt hq
      have hP := hR i hi
      have hw := zwide_lt (P i) hP.1 (T i) hP.2.1
      rw [nI_clamp (by omega), nI_clamp (by omega), nI_clamp (by omega)]
      refine zK.blk rfl ?_
      refine p_aloadn_0 ?_
      refine p_getr rfl rfl ?_
      refine p_getr rfl rfl ?_
      refine p_iloadn_1 ?_
      refine p_aald rfl (by omega) (by decide) (zget_sg (by omega)) ?_
      refine p_iloadn_2 ?_
      refine p_iloadn_3 ?_
      refine p_cv2i rfl rfl rfl rfl (zlay_sg (by omega)) (c_23 (by omega) (hS _ (by omega)).1 (hS _ (by omega)).2.2.2.1 hP.1 (by omega) hq (by omega)) ?_
      refine p_ifB_eq (tgt := 42) (by decide) (fun hc35 => ?_) (fun hc35 => ?_)
      · skip
        rw [if_neg (by unfold apF; rw [hc35]; decide)]
        refine zK.blk rfl ?_
        refine p_iconst (v := nI 0) (by decide) ?_
        refine zK.blk rfl ?_
        exact p_iret trivial rfl rfl
      · skip
        rw [if_pos (by unfold apF; exact hc35)]
        refine p_iconst (v := nI 1) (by decide) ?_
        refine p_goto (tgt := 43) (by decide) ?_
        refine zK.blk rfl ?_
        exact p_iret trivial rfl rfl
    · skip
      rw [if_neg (by rw [hc16]; simp)]
      refine zK.blk rfl ?_
      refine p_iconst (v := -1) (by decide) ?_
      exact p_iret trivial rfl rfl
set_option maxRecDepth 100000 in
set_option maxHeartbeats 4000000 in
theorem c_119 {sc : Nat × (Nat → Int32)} {d : Nat} {M : zM} {n : Nat} {P T K : Nat → Nat} {x y z : Int32} (hsm : sgM M n P T K) : zC 47 sc (d + 4) 119 [.ref 33, .int x, .int y, .int z] M (some (.int (fLets P T n x y z))) (M) := by
  obtain ⟨hth, hm, hn6, hR, hT⟩ := id hsm
  unfold fLets
  refine z_enter (L := [.ref 33, .int x, .int y, .int z]) rfl rfl rfl ?_
  refine zK.blk rfl ?_
  refine p_aloadn_0 ?_
  refine p_iconst (v := nI 0) (by decide) ?_
  refine p_put rfl rfl (by simp) ?_
  rw [zup_id hth]
  refine p_iloadn_1 ?_
  refine p_iconst (v := nI 0) (by decide) ?_
  refine p_aloadn_0 ?_
  refine p_geti rfl rfl (hm) ?_
  refine p_iconst (v := nI 1) (by decide) ?_
  refine p_isub ?_
  refine p_cs3i rfl rfl rfl rfl rfl (c_89) ?_
  rw [zin_has (by omega)]
  refine p_ifB_eq (tgt := 27) (by decide) (fun hc16 => ?_) (fun hc16 => ?_)
  · skip
    rw [if_neg (by rw [hc16]; simp)]
    refine zK.blk rfl ?_
    refine p_iconst (v := -1) (by decide) ?_
    refine p_goto (tgt := 46) (by decide) ?_
    refine zK.blk rfl ?_
    exact p_iret trivial rfl rfl
  · skip
    refine p_iloadn_2 ?_
    refine p_iloadn_3 ?_
    refine p_cs2i rfl rfl rfl rfl rfl (c_115) ?_
    refine p_ifB_ne (tgt := 31) (by decide) (fun hc24 => ?_) (fun hc24 => ?_)
    · skip
      rw [if_pos ⟨hc16, hc24⟩]
      obtain ⟨i, hi, rfl⟩ := zhas_x (by omega) hc16
      obtain ⟨q, t, hq1, hq, ht, rfl, rfl⟩ := zrl_x hc24
      have hz := z22_lt hq
      rw [nI_clamp (by omega), nI_clamp (by omega), nI_clamp (by omega)]
      refine zK.blk rfl ?_
      refine p_aloadn_0 ?_
      refine p_iloadn_1 ?_
      refine p_iloadn_2 ?_
      refine p_iloadn_3 ?_
      refine p_cv3i rfl rfl rfl rfl rfl (c_118 hsm hi hq (by omega)) ?_
      refine p_ifB_eq (tgt := 45) (by decide) (fun hc38 => ?_) (fun hc38 => ?_)
      · skip
        rw [if_neg (by rw [hc38]; decide)]
        refine zK.blk rfl ?_
        refine p_iconst (v := nI 0) (by decide) ?_
        refine zK.blk rfl ?_
        exact p_iret trivial rfl rfl
      · skip
        rw [if_pos hc38]
        refine p_iconst (v := nI 1) (by decide) ?_
        refine p_goto (tgt := 46) (by decide) ?_
        refine zK.blk rfl ?_
        exact p_iret trivial rfl rfl
    · skip
      rw [if_neg (by rw [hc24]; simp)]
      refine zK.blk rfl ?_
      refine p_iconst (v := -1) (by decide) ?_
      refine p_goto (tgt := 46) (by decide) ?_
      refine zK.blk rfl ?_
      exact p_iret trivial rfl rfl
set_option maxRecDepth 100000 in
set_option maxHeartbeats 4000000 in
theorem lp_70_15 {sc : Nat × (Nat → Int32)} {d : Nat} {M : zM} {r : Option Value} {M' : zM} {n : Nat} {P T K : Nat → Nat} {q rows : Nat} (hsg : sgC M n P T K) (hq : q < 4) (hro : rows < 2 ^ 31) : ∀ (j i v : Nat), i + j = n → zK 47 sc (zC 47 sc (d + 4)) 70 r M' 58 [.ref 0, .int (nI q), .int (nI rows), .int (nI (zfor (leF P T q rows) j i v)), .int (nI n)] [] (M) → zK 47 sc (zC 47 sc (d + 4)) 70 r M' 15 [.ref 0, .int (nI q), .int (nI rows), .int (nI v), .int (nI i)] [] (M) := by
  intro j
  induction j with
  | zero =>
    intro i v  hj hk
    obtain rfl : i = n := by omega
    obtain ⟨hn6, hn, hR, hS⟩ := id hsg
    refine zK.blk rfl ?_
    refine p_iload_4 ?_
    refine p_aloadn_0 ?_
    refine p_getr rfl rfl ?_
    refine p_geti rfl rfl (hn) ?_
    refine p_icmpN_ge (tgt := 58) (by decide) (by omega) (by omega) (fun hc24 => ?_) (fun hc24 => ?_)
    · skip
      exact hk
    · skip
      exact absurd hc24 (by omega) --STOP
  | succ j ih =>
    intro i v  hj hk
    obtain ⟨hn6, hn, hR, hS⟩ := id hsg
    have hP := hR i (by omega)
    have hw := zwide_lt (P i) hP.1 (T i) hP.2.1
    refine zK.blk rfl ?_
    refine p_iload_4 ?_
    refine p_aloadn_0 ?_
    refine p_getr rfl rfl ?_
    refine p_geti rfl rfl (hn) ?_
    refine p_icmpN_ge (tgt := 58) (by decide) (by omega) (by omega) (fun hc24 => ?_) (fun hc24 => ?_)
    · skip
      exact absurd hc24 (by omega) --STOP
    · skip
      refine p_aloadn_0 ?_
      refine p_getr rfl rfl ?_
      refine p_getr rfl rfl ?_
      refine p_iload_4 ?_
      refine p_aald rfl (by omega) (by decide) (zget_sg (by omega)) ?_
      refine p_iloadn_1 ?_
      refine p_iloadn_2 ?_
      refine p_cv2i rfl rfl rfl rfl (zlay_sg (by omega)) (c_23 (by omega) (hS _ (by omega)).1 (hS _ (by omega)).2.2.2.1 hP.1 (by omega) hq hro) ?_
      refine p_ifB_eq (tgt := 52) (by decide) (fun hc42 => ?_) (fun hc42 => ?_)
      · skip
        rw [zfor_step (f := leF P T q rows) (a' := v) (by unfold leF apF; rw [hc42, if_neg (by decide), Nat.or_zero])] at hk
        refine zK.blk rfl ?_
        refine p_iinc_4 (zN_inc _ 1) rfl ?_
        refine p_goto (tgt := 15) (by decide) ?_
        exact ih _ _ (by omega) hk
      · skip
        rw [zfor_step (f := leF P T q rows) (a' := v ||| 1 <<< i) (by unfold leF apF; rw [hc42, if_pos rfl])] at hk
        refine p_iloadn_3 ?_
        refine p_iconst (v := nI 1) (by decide) ?_
        refine p_iload_4 ?_
        refine p_ishlN (by omega) ?_
        refine p_iorN ?_
        refine p_istoren_3 rfl ?_
        refine zK.blk rfl ?_
        refine p_iinc_4 (zN_inc _ 1) rfl ?_
        refine p_goto (tgt := 15) (by decide) ?_
        exact ih _ _ (by omega) hk
set_option maxRecDepth 100000 in
set_option maxHeartbeats 4000000 in
theorem c_70 {sc : Nat × (Nat → Int32)} {d : Nat} {M : zM} {n : Nat} {P T K : Nat → Nat} {y z : Int32} (hsg : sgC M n P T K) : zC 47 sc (d + 5) 70 [.ref 0, .int y, .int z] M (some (.int (fLetting P T n y z))) (M) := by
  unfold fLetting
  refine z_enter (L := [.ref 0, .int y, .int z, .null, .null]) rfl rfl rfl ?_
  refine zK.blk rfl ?_
  refine p_iloadn_1 ?_
  refine p_iloadn_2 ?_
  refine p_cs2i rfl rfl rfl rfl rfl (c_83) ?_
  refine p_ifB_ne (tgt := 10) (by decide) (fun hc5 => ?_) (fun hc5 => ?_)
  · skip
    rw [if_pos hc5]
    obtain ⟨q, t, hq1, hq, ht, rfl, rfl⟩ := zrl_x hc5
    have hz := z22_lt hq
    rw [nI_clamp (by omega), nI_clamp (by omega)]
    refine zK.blk rfl ?_
    refine p_iconst (v := nI 0) (by decide) ?_
    refine p_istoren_3 rfl ?_
    refine p_iconst (v := nI 0) (by decide) ?_
    refine p_istore_4 rfl ?_
    refine lp_70_15 hsg hq (by omega) n 0 0 (by omega) ?_
    refine zK.blk rfl ?_
    refine p_iloadn_3 ?_
    exact p_iret trivial rfl rfl
  · skip
    rw [if_neg (by rw [hc5]; decide)]
    refine p_iconst (v := -1) (by decide) ?_
    exact p_iret trivial rfl rfl
set_option maxRecDepth 100000 in
set_option maxHeartbeats 4000000 in
theorem c_121 {sc : Nat × (Nat → Int32)} {d : Nat} {M : zM} {n : Nat} {P T K : Nat → Nat} {y z : Int32} (hsm : sgM M n P T K) : zC 47 sc (d + 5) 121 [.ref 33, .int y, .int z] M (some (.int (fLetting P T n y z))) (M) := by
  obtain ⟨hth, hm, hn6, hR, hT⟩ := id hsm
  unfold fLetting
  refine z_enter (L := [.ref 33, .int y, .int z]) rfl rfl rfl ?_
  refine zK.blk rfl ?_
  refine p_aloadn_0 ?_
  refine p_iconst (v := nI 0) (by decide) ?_
  refine p_put rfl rfl (by simp) ?_
  rw [zup_id hth]
  refine p_iloadn_1 ?_
  refine p_iloadn_2 ?_
  refine p_cs2i rfl rfl rfl rfl rfl (c_115) ?_
  refine p_ifB_eq (tgt := 22) (by decide) (fun hc10 => ?_) (fun hc10 => ?_)
  · skip
    rw [if_neg (by rw [hc10]; decide)]
    refine zK.blk rfl ?_
    refine p_iconst (v := -1) (by decide) ?_
    refine zK.blk rfl ?_
    exact p_iret trivial rfl rfl
  · skip
    rw [if_pos hc10]
    obtain ⟨q, t, hq1, hq, ht, rfl, rfl⟩ := zrl_x hc10
    have hz := z22_lt hq
    rw [nI_clamp (by omega), nI_clamp (by omega)]
    refine p_aloadn_0 ?_
    refine p_iloadn_1 ?_
    refine p_iloadn_2 ?_
    refine p_cv2i rfl rfl rfl rfl rfl (c_120 hsm hq (by omega)) ?_
    refine p_goto (tgt := 23) (by decide) ?_
    refine zK.blk rfl ?_
    exact p_iret trivial rfl rfl
