def fmJ (m : Nat) (Y : Nat → Nat) (at0 : Nat) (s : fS) : Prop := fmI m Y at0 s.1 s.2.1 s.2.2.1 s.2.2.2.1 s.2.2.2.2.1 s.2.2.2.2.2.2.1 s.2.2.2.2.2.2.2
theorem fmI_D {m : Nat} {Y : Nat → Nat} {at0 hi fo dr : Nat} {D O G : Nat → Nat} (h1 : dr + hi = fo) (h2 : fo ≤ 30) (h3 : hi ≤ 8) (h4 : ∀ k, k < hi → 112 ≤ O k ∧ O k < 112 + m ∧ G k ≤ at0) : fmJ m Y (at0 + 1) (fmD hi fo dr D O G) := by
  by_cases h0 : hi = 0
  · rw [show fmD hi fo dr D O G = (hi, fo, true, 2, dr, D, O, G) by unfold fmD; rw [decide_eq_true h0, if_pos h0]]
    exact ⟨Nat.le_refl _, by show dr + hi + 0 = fo; omega, h2, h3, fun k hk => absurd hk (by show ¬ k < hi; omega), fun z => by first | (dsimp only at z; omega) | (dsimp only at z; cases z), fun z => by first | (dsimp only at z; omega) | (dsimp only at z; cases z)⟩
  · rw [show fmD hi fo dr D O G = (hi, fo, false, 2, dr, D, O, fn G (hi - 1) (G (hi - 1) + 1)) by unfold fmD; rw [decide_eq_false h0, if_neg h0]]
    refine ⟨Nat.le_refl _, by show dr + hi + 0 = fo; omega, h2, h3, fun k hk => ?_, fun _ _ => by show 1 ≤ hi; omega, fun z => by first | (dsimp only at z; omega) | (dsimp only at z; cases z)⟩
    have hk' : k < hi := hk
    have hG := h4 k hk'
    refine ⟨hG.1, hG.2.1, ?_⟩
    show (if k = hi - 1 then G (hi - 1) + 1 else G k) ≤ at0 + 1
    have hG2 := h4 (hi - 1) (by omega)
    split <;> omega
theorem fmI_S {m : Nat} {P Y : Nat → Nat} {at0 hi fo : Nat} {wh : Bool} {st dr : Nat} {D O G : Nat → Nat} {s : fS} (hI : fmI m Y at0 hi fo wh st dr O G) (h : fmS m P Y at0 hi fo wh st dr D O G = some s) : fmJ m Y (at0 + 1) s := by
  obtain ⟨i1, i2, i3, i4, i5, i6, i7⟩ := hI
  unfold fmS at h
  split at h
  · cases h
  · rename_i hw
    split at h
    · rename_i h0
      rw [if_neg (by omega)] at i2
      split at h
      · cases h
      · rename_i hn
        split at h
        · rename_i hy
          cases h
          exact ⟨by show 1 ≤ 2; decide, by show dr + hi + 1 = fo + 1; omega, by show fo + 1 ≤ 30; omega, i4, fun k hk => by have h := i5 k hk; exact ⟨h.1, h.2.1, by show G k ≤ at0 + 1; omega⟩, fun _ z => by first | (dsimp only at z; omega) | (dsimp only at z; cases z), fun _ => ⟨by omega, hy.1.1, hy.1.2⟩⟩
        · cases h
          exact fmI_D (by omega) (by omega) i4 i5
    · rename_i h0
      split at h
      · rename_i h1
        rw [if_pos h1] at i2
        have h7 := i7 h1
        split at h
        · cases h
        · rename_i hn
          cases h
          refine ⟨by show 0 ≤ 2; decide, by show dr + (hi + 1) + 0 = fo; omega, i3, by show hi + 1 ≤ 8; omega, fun k hk => ?_, fun _ z => by first | (dsimp only at z; omega) | (dsimp only at z; cases z), fun z => by first | (dsimp only at z; omega) | (dsimp only at z; cases z)⟩
          have hk' : k < hi + 1 := hk
          show 112 ≤ (if k = hi then Y (at0 - 1) else O k) ∧ (if k = hi then Y (at0 - 1) else O k) < 112 + m ∧ (if k = hi then 0 else G k) ≤ at0 + 1
          by_cases hk2 : k = hi
          · rw [if_pos hk2, if_pos hk2]; omega
          · rw [if_neg hk2, if_neg hk2]; have h := i5 k (by omega); omega
      · rename_i h1
        rw [if_neg h1] at i2
        have hwf : wh = false := by cases wh; rfl; exact absurd rfl hw
        have hh := i6 hwf (by omega)
        split at h
        · split at h
          · cases h
            exact ⟨by show 0 ≤ 2; decide, by show dr + hi + 0 = fo; omega, i3, i4, fun k hk => by have h := i5 k hk; exact ⟨h.1, h.2.1, by show G k ≤ at0 + 1; omega⟩, fun _ z => by first | (dsimp only at z; omega) | (dsimp only at z; cases z), fun z => by first | (dsimp only at z; omega) | (dsimp only at z; cases z)⟩
          · cases h
        · split at h
          · cases h
            exact fmI_D (by omega) i3 (by omega) (fun k hk => i5 k (by omega))
          · cases h
theorem fmJ_R {len m : Nat} {P Y : Nat → Nat} : ∀ (j at0 : Nat) (s : fS), fmJ m Y at0 s → ∃ a, fmJ m Y a (fmR len m P Y j at0 s).2.2 := by
  intro j
  induction j with
  | zero => intro at0 s h; exact ⟨at0, h⟩
  | succ j ih =>
    intro at0 s h
    obtain ⟨hi, fo, wh, st, dr, D, O, G⟩ := s
    cases hs : fmS m P Y at0 hi fo wh st dr D O G with
    | none => rw [fm_n hs]; exact ⟨at0, h⟩
    | some s2 => rw [fm_y hs]; exact ih _ _ (fmI_S h hs)
theorem fmV_dr {M : zM} {len m : Nat} {P Y : Nat → Nat} : (fmV M len m P Y).2.2.2.2.2.2.1 ≤ 30 := by
  obtain ⟨a, h⟩ := fmJ_R (len := len) (m := m) (P := P) (Y := Y) len 0 (0, 0, false, 0, 0, (fun b => zna (M 41 b)), (fun b => zna (M 42 b)), (fun b => zna (M 43 b))) ⟨by show 0 ≤ 2; decide, rfl, Nat.zero_le _, Nat.zero_le _, fun k hk => absurd hk (Nat.not_lt_zero _), fun _ z => by first | (dsimp only at z; omega) | (dsimp only at z; cases z), fun z => by first | (dsimp only at z; omega) | (dsimp only at z; cases z)⟩
  have h2 := h.2.1
  have h3 := h.2.2.1
  change (fmV M len m P Y).2.2.2.2.2.2.1 + (fmV M len m P Y).2.2.1 + (if (fmV M len m P Y).2.2.2.2.2.1 = 1 then 1 else 0) = (fmV M len m P Y).2.2.2.1 at h2
  change (fmV M len m P Y).2.2.2.1 ≤ 30 at h3
  omega
/-- letters copied: j are left -/
def cpM (i : Nat) (D : Nat → Nat) : Nat → Nat → zM → zM
  | 0, _, M => M
  | j + 1, k, M => cpM i D j (k + 1) (zup M 39 (30 * i + k) (nI (D k)))
theorem cpM_ne {i : Nat} {D : Nat → Nat} {a : Nat} (h : ¬ a = 39) (b : Nat) : ∀ j k M, cpM i D j k M a b = M a b := by
  intro j
  induction j with
  | zero => intro k M; rfl
  | succ j ih => intro k M; show cpM i D j (k + 1) _ a b = _; rw [ih]; unfold zup; rw [if_neg h]
def mrM (M : zM) (i : Nat) (r : Bool × Nat × fS) : zM := zup (zup (cpM i r.2.2.2.2.2.2.2.1 r.2.2.2.2.2.2.1 0 (fmQ M r)) 40 i (nI r.2.2.2.2.2.2.1)) 33 10 (nI 0)
set_option maxRecDepth 100000 in
set_option maxHeartbeats 4000000 in
theorem lp_128_33 {sc : Nat × (Nat → Int32)} {d : Nat} {r : Option Value} {M' : zM} {i dr : Nat} {D : Nat → Nat} (hi : i < 4) (hdr : dr ≤ 30) : ∀ (j k : Nat) (M : zM), M 33 14 = nI dr → (∀ b, M 41 b = nI (D b)) → k + j = dr → zK 47 sc (zC 47 sc (d + 2)) 128 r M' 64 [.ref 33, .int (nI i), .int (nI dr)] [] (cpM i D j k M) → zK 47 sc (zC 47 sc (d + 2)) 128 r M' 33 [.ref 33, .int (nI i), .int (nI k)] [] M := by
  intro j
  induction j with
  | zero =>
    intro k M h14 h41 hj hk
    have hin : k = dr := by omega
    subst hin
    refine zK.blk rfl ?_
    refine p_iloadn_2 ?_
    refine p_aloadn_0 ?_
    refine p_geti rfl rfl (h14) ?_
    refine p_icmpN_ge (tgt := 64) (by decide) (by omega) (by omega) (fun hc38 => ?_) (fun hc38 => ?_)
    · skip
      exact hk
    · skip
      exact absurd hc38 (by omega) --STOP
  | succ j ih =>
    intro k M h14 h41 hj hk
    refine zK.blk rfl ?_
    refine p_iloadn_2 ?_
    refine p_aloadn_0 ?_
    refine p_geti rfl rfl (h14) ?_
    refine p_icmpN_ge (tgt := 64) (by decide) (by omega) (by omega) (fun hc38 => ?_) (fun hc38 => ?_)
    · skip
      exact absurd hc38 (by omega) --STOP
    · skip
      refine p_aloadn_0 ?_
      refine p_getr rfl rfl ?_
      refine p_bipush (v := nI 30) (by decide) ?_
      refine p_iloadn_1 ?_
      refine p_imulN ?_
      refine p_iloadn_2 ?_
      refine p_iaddN ?_
      refine p_aloadn_0 ?_
      refine p_getr rfl rfl ?_
      refine p_iloadn_2 ?_
      refine p_iald (v := nI (D k)) rfl (by omega) (by decide) (h41 k) ?_
      refine p_iast rfl (by omega) (by decide) ?_
      refine p_iinc_2 (zN_inc _ 1) rfl ?_
      refine p_goto (tgt := 33) (by decide) ?_
      exact ih (k + 1) _ h14 h41 (by omega) hk
set_option maxRecDepth 100000 in
set_option maxHeartbeats 4000000 in
theorem c_128f {sc : Nat × (Nat → Int32)} {d : Nat} {M : zM} {len m i : Nat} {Y P T K : Nat → Nat} (hsm : sgM M m P T K) (htx : txM M len Y) (hi : i < 4) (hb : (fmV M len m P Y).1 = false) : zC 47 sc (d + 3) 128 [.ref 33, .int (nI i)] M (some (.int (-10 - nI (fmV M len m P Y).2.1))) (fmQ M (fmV M len m P Y)) := by
  obtain ⟨hth, hm, hn6, hR, hT⟩ := id hsm
  have e1 := zin_t (a := i) (lo := 0) (hi := 3) (by omega) (by omega) (by decide)
  have hcall := c_127 (sc := sc) (d := d) hsm htx
  have hdr := fmV_dr (M := M) (len := len) (m := m) (P := P) (Y := Y)
  rcases hr : fmV M len m P Y with ⟨b0, fa, hi0, fo, wh, st, dr, D, O, G⟩
  rw [hr] at hcall hb hdr
  dsimp only at hb hdr
  subst hb
  refine z_enter (L := [.ref 33, .int (nI i), .null]) rfl rfl rfl ?_
  refine zK.blk rfl ?_
  refine p_aloadn_0 ?_
  refine p_iconst (v := nI 0) (by decide) ?_
  refine p_put rfl rfl (by simp) ?_
  rw [zup_id hth]
  refine p_iloadn_1 ?_
  refine p_iconst (v := nI 0) (by decide) ?_
  refine p_iconst (v := nI 3) (by decide) ?_
  refine p_cs3i rfl rfl rfl rfl rfl (c_89) ?_
  refine p_ifB_ne (tgt := 16) (by decide) (fun hc11 => ?_) (fun hc11 => ?_)
  · skip
    refine zK.blk rfl ?_
    refine p_aloadn_0 ?_
    refine p_cv0i rfl rfl rfl rfl rfl (hcall) ?_
    refine p_ifB_ne (tgt := 31) (by decide) (fun hc20 => ?_) (fun hc20 => ?_)
    · skip
      cases hc20 --STOP
    · skip
      refine p_bipush (v := -10) (by decide) ?_
      refine p_aloadn_0 ?_
      refine p_geti (v := nI fa) rfl rfl rfl ?_
      refine p_isub ?_
      exact p_iret trivial rfl rfl
  · skip
    rw [e1] at hc11; cases hc11 --STOP
set_option maxRecDepth 100000 in
set_option maxHeartbeats 4000000 in
theorem c_128y {sc : Nat × (Nat → Int32)} {d : Nat} {M : zM} {len m i : Nat} {Y P T K : Nat → Nat} (hsm : sgM M m P T K) (htx : txM M len Y) (hi : i < 4) (hb : (fmV M len m P Y).1 = true) : zC 47 sc (d + 3) 128 [.ref 33, .int (nI i)] M (some (.int (nI (fmV M len m P Y).2.2.2.2.2.2.1))) (mrM M i (fmV M len m P Y)) := by
  obtain ⟨hth, hm, hn6, hR, hT⟩ := id hsm
  have e1 := zin_t (a := i) (lo := 0) (hi := 3) (by omega) (by omega) (by decide)
  have hcall := c_127 (sc := sc) (d := d) hsm htx
  have hdr := fmV_dr (M := M) (len := len) (m := m) (P := P) (Y := Y)
  rcases hr : fmV M len m P Y with ⟨b0, fa, hi0, fo, wh, st, dr, D, O, G⟩
  rw [hr] at hcall hb hdr
  dsimp only at hb hdr
  subst hb
  refine z_enter (L := [.ref 33, .int (nI i), .null]) rfl rfl rfl ?_
  refine zK.blk rfl ?_
  refine p_aloadn_0 ?_
  refine p_iconst (v := nI 0) (by decide) ?_
  refine p_put rfl rfl (by simp) ?_
  rw [zup_id hth]
  refine p_iloadn_1 ?_
  refine p_iconst (v := nI 0) (by decide) ?_
  refine p_iconst (v := nI 3) (by decide) ?_
  refine p_cs3i rfl rfl rfl rfl rfl (c_89) ?_
  refine p_ifB_ne (tgt := 16) (by decide) (fun hc11 => ?_) (fun hc11 => ?_)
  · skip
    refine zK.blk rfl ?_
    refine p_aloadn_0 ?_
    refine p_cv0i rfl rfl rfl rfl rfl (hcall) ?_
    refine p_ifB_ne (tgt := 31) (by decide) (fun hc20 => ?_) (fun hc20 => ?_)
    · skip
      refine zK.blk rfl ?_
      refine p_iconst (v := nI 0) (by decide) ?_
      refine p_istoren_2 rfl ?_
      refine lp_128_33 (dr := dr) (D := D) hi hdr dr 0 _ rfl (fun b => rfl) (by omega) ?_
      have h14 : cpM i D dr 0 (fmQ M (true, fa, hi0, fo, wh, st, dr, D, O, G)) 33 14 = nI dr := by rw [cpM_ne (by decide)]; rfl
      refine zK.blk rfl ?_
      refine p_aloadn_0 ?_
      refine p_getr rfl rfl ?_
      refine p_iloadn_1 ?_
      refine p_aloadn_0 ?_
      refine p_geti (v := nI dr) rfl rfl h14 ?_
      refine p_iast rfl (by omega) (by decide) ?_
      refine p_aloadn_0 ?_
      refine p_iconst (v := nI 0) (by decide) ?_
      refine p_put rfl rfl (by simp) ?_
      refine p_aloadn_0 ?_
      refine p_geti (v := nI dr) rfl rfl h14 ?_
      exact p_iret trivial rfl rfl
    · skip
      cases hc20 --STOP
  · skip
    rw [e1] at hc11; cases hc11 --STOP
set_option maxRecDepth 100000 in
set_option maxHeartbeats 4000000 in
theorem c_128b {sc : Nat × (Nat → Int32)} {d : Nat} {M : zM} {m : Nat} {P T K : Nat → Nat} {x : Int32} (hsm : sgM M m P T K) (hx : zin x (nI 0) (nI 3) = false) : zC 47 sc (d + 3) 128 [.ref 33, .int x] M (some (.int (-1))) (M) := by
  obtain ⟨hth, hm, hn6, hR, hT⟩ := id hsm
  refine z_enter (L := [.ref 33, .int x, .null]) rfl rfl rfl ?_
  refine zK.blk rfl ?_
  refine p_aloadn_0 ?_
  refine p_iconst (v := nI 0) (by decide) ?_
  refine p_put rfl rfl (by simp) ?_
  rw [zup_id hth]
  refine p_iloadn_1 ?_
  refine p_iconst (v := nI 0) (by decide) ?_
  refine p_iconst (v := nI 3) (by decide) ?_
  refine p_cs3i rfl rfl rfl rfl rfl (c_89) ?_
  refine p_ifB_ne (tgt := 16) (by decide) (fun hc11 => ?_) (fun hc11 => ?_)
  · skip
    rw [hx] at hc11; cases hc11 --STOP
  · skip
    refine p_iconst (v := -1) (by decide) ?_
    exact p_iret trivial rfl rfl
