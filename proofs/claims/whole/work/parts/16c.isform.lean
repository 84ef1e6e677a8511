def fn (f : Nat → Nat) (k x : Nat) : Nat → Nat := fun b => if b = k then x else f b
/-- the reference's reader: draft D (dr of them), open O, got G, fault fa -/
def fmM (M : zM) (dr fa : Nat) (D O G : Nat → Nat) : zM := fun a b => if a = 41 then nI (D b) else if a = 42 then nI (O b) else if a = 43 then nI (G b) else if a = 33 then (if b = 14 then nI dr else if b = 15 then nI fa else M a b) else M a b
theorem fm_14 {M : zM} {dr fa : Nat} {D O G : Nat → Nat} (x : Nat) : zup (fmM M dr fa D O G) 33 14 (nI x) = fmM M x fa D O G := by
  funext a b
  unfold zup fmM
  by_cases h : a = 33
  · subst h
    by_cases h2 : b = 14
    · simp [h2]
    · simp [h2]
  · simp [h]
theorem fm_15 {M : zM} {dr fa : Nat} {D O G : Nat → Nat} (x : Nat) : zup (fmM M dr fa D O G) 33 15 (nI x) = fmM M dr x D O G := by
  funext a b
  unfold zup fmM
  by_cases h : a = 33
  · subst h
    by_cases h2 : b = 15
    · simp [h2]
    · simp [h2]
  · simp [h]
theorem fm_41 {M : zM} {dr fa : Nat} {D O G : Nat → Nat} (k x : Nat) : zup (fmM M dr fa D O G) 41 k (nI x) = fmM M dr fa (fn D k x) O G := by
  funext a b
  unfold zup fmM fn
  by_cases h : a = 41
  · subst h
    by_cases h2 : b = k
    · simp [h2]
    · simp [h2]
  · simp [h]
theorem fm_42 {M : zM} {dr fa : Nat} {D O G : Nat → Nat} (k x : Nat) : zup (fmM M dr fa D O G) 42 k (nI x) = fmM M dr fa D (fn O k x) G := by
  funext a b
  unfold zup fmM fn
  by_cases h : a = 42
  · subst h
    by_cases h2 : b = k
    · simp [h2]
    · simp [h2]
  · simp [h]
theorem fm_43 {M : zM} {dr fa : Nat} {D O G : Nat → Nat} (k x : Nat) : zup (fmM M dr fa D O G) 43 k (nI x) = fmM M dr fa D O (fn G k x) := by
  funext a b
  unfold zup fmM fn
  by_cases h : a = 43
  · subst h
    by_cases h2 : b = k
    · simp [h2]
    · simp [h2]
  · simp [h]
def zna (x : Int32) : Nat := x.toBitVec.toNat
theorem zna_nI (x : Int32) : nI (zna x) = x := by
  apply zN_ext
  rw [zN_bv]
  unfold zna
  simp
theorem fm_id (M : zM) : fmM M (zna (M 33 14)) (zna (M 33 15)) (fun b => zna (M 41 b)) (fun b => zna (M 42 b)) (fun b => zna (M 43 b)) = M := by
  funext a b
  unfold fmM
  simp only [zna_nI]
  by_cases h1 : a = 41
  · simp [h1]
  · by_cases h2 : a = 42
    · simp [h2]
    · by_cases h3 : a = 43
      · simp [h3]
      · by_cases h4 : a = 33
        · subst h4
          by_cases h5 : b = 14
          · simp [h5]
          · by_cases h6 : b = 15
            · simp [h6]
            · simp [h5, h6]
        · simp [h1, h2, h3, h4]
theorem fm_sm {M : zM} {dr fa : Nat} {D O G : Nat → Nat} {n : Nat} {P T K : Nat → Nat} (h : sgM M n P T K) : sgM (fmM M dr fa D O G) n P T K := h
theorem fm_tx {M : zM} {dr fa : Nat} {D O G : Nat → Nat} {len : Nat} {Y : Nat → Nat} (h : txM M len Y) : txM (fmM M dr fa D O G) len Y := h
/-- high, found, whole, state, drafts, draft, open, got -/
abbrev fS : Type := Nat × Nat × Bool × Nat × Nat × (Nat → Nat) × (Nat → Nat) × (Nat → Nat)
def fmD (hi fo dr : Nat) (D O G : Nat → Nat) : fS := (hi, fo, decide (hi = 0), 2, dr, D, O, if hi = 0 then G else fn G (hi - 1) (G (hi - 1) + 1))
def fmS (m : Nat) (P Y : Nat → Nat) (at0 hi fo : Nat) (wh : Bool) (st dr : Nat) (D O G : Nat → Nat) : Option fS :=
  if wh = true then none
  else if st = 0 then
    (if ¬ ((112 ≤ Y at0 ∧ Y at0 < 112 + m) ∨ (120 ≤ Y at0 ∧ Y at0 ≤ 122)) ∨ fo = 30 then none
     else if (112 ≤ Y at0 ∧ Y at0 < 112 + m) ∧ 0 < P (Y at0 - 112) then some (hi, fo + 1, false, 1, dr, D, O, G)
     else some (fmD hi (fo + 1) (dr + 1) (fn D dr (Y at0)) O G))
  else if st = 1 then
    (if ¬ Y at0 = 40 ∨ hi = 8 then none else some (hi + 1, fo, false, 0, dr, D, fn O hi (Y (at0 - 1)), fn G hi 0))
  else if G (hi - 1) < P (O (hi - 1) - 112) then
    (if Y at0 = 44 then some (hi, fo, false, 0, dr, D, O, G) else none)
  else if Y at0 = 41 then some (fmD (hi - 1) fo (dr + 1) (fn D dr (O (hi - 1))) O G) else none
/-- j bytes are left -/
def fmR (len m : Nat) (P Y : Nat → Nat) : Nat → Nat → fS → Bool × Nat × fS
  | 0, _, s => (s.2.2.1, len, s)
  | j + 1, at0, s => match fmS m P Y at0 s.1 s.2.1 s.2.2.1 s.2.2.2.1 s.2.2.2.2.1 s.2.2.2.2.2.1 s.2.2.2.2.2.2.1 s.2.2.2.2.2.2.2 with
    | none => (false, at0, s)
    | some s' => fmR len m P Y j (at0 + 1) s'
def fmQ (M : zM) (r : Bool × Nat × fS) : zM := fmM M r.2.2.2.2.2.2.1 r.2.1 r.2.2.2.2.2.2.2.1 r.2.2.2.2.2.2.2.2.1 r.2.2.2.2.2.2.2.2.2
def fmI (m : Nat) (Y : Nat → Nat) (at0 hi fo : Nat) (wh : Bool) (st dr : Nat) (O G : Nat → Nat) : Prop :=
  st ≤ 2 ∧ dr + hi + (if st = 1 then 1 else 0) = fo ∧ fo ≤ 30 ∧ hi ≤ 8 ∧ (∀ k, k < hi → 112 ≤ O k ∧ O k < 112 + m ∧ G k ≤ at0) ∧ (wh = false → st = 2 → 1 ≤ hi) ∧ (st = 1 → 1 ≤ at0 ∧ 112 ≤ Y (at0 - 1) ∧ Y (at0 - 1) < 112 + m)
theorem fm_n {len m : Nat} {P Y : Nat → Nat} {j at0 hi fo : Nat} {wh : Bool} {st dr : Nat} {D O G : Nat → Nat} (h : fmS m P Y at0 hi fo wh st dr D O G = none) : fmR len m P Y (j + 1) at0 (hi, fo, wh, st, dr, D, O, G) = (false, at0, (hi, fo, wh, st, dr, D, O, G)) := by
  show (match fmS m P Y at0 hi fo wh st dr D O G with | none => _ | some s' => _) = _
  rw [h]
theorem fm_y {len m : Nat} {P Y : Nat → Nat} {j at0 hi fo : Nat} {wh : Bool} {st dr : Nat} {D O G : Nat → Nat} {s : fS} (h : fmS m P Y at0 hi fo wh st dr D O G = some s) : fmR len m P Y (j + 1) at0 (hi, fo, wh, st, dr, D, O, G) = fmR len m P Y j (at0 + 1) s := by
  show (match fmS m P Y at0 hi fo wh st dr D O G with | none => _ | some s' => _) = _
  rw [h]
theorem zin_112 : ∀ m, m < 7 → ∀ c, c < 256 → zin (nI c) (nI 112) (nI (112 + m - 1)) = decide (112 ≤ c ∧ c < 112 + m) := by decide +kernel
theorem zin_120 : ∀ c, c < 256 → zin (nI c) (nI 120) (nI 122) = decide (120 ≤ c ∧ c ≤ 122) := by decide +kernel
set_option maxRecDepth 100000 in
set_option maxHeartbeats 4000000 in
theorem st_127_286 {sc : Nat × (Nat → Int32)} {d : Nat} {M : zM} {len m : Nat} {Y P : Nat → Nat} {j at0 hi fo st dr fa c : Nat} {x : Value} {wh : Bool} {D O G : Nat → Nat} (hat : at0 < 80) (hdr : dr + hi = fo) (hfo : fo ≤ 30) (hhi : hi ≤ 8) (hOG : ∀ k, k < hi → 112 ≤ O k ∧ O k < 112 + m ∧ G k ≤ at0) (ih : ∀ (hi fo : Nat) (wh : Bool) (st dr fa : Nat) (D O G : Nat → Nat), fmI m Y (at0 + 1) hi fo wh st dr O G → zK 47 sc (zC 47 sc (d + 1)) 127 (some (.int (zB (fmR len m P Y j (at0 + 1) (hi, fo, wh, st, dr, D, O, G)).1))) (fmQ M (fmR len m P Y j (at0 + 1) (hi, fo, wh, st, dr, D, O, G))) 17 [.ref 33, .int (nI hi), .int (nI fo), .int (zB wh), .int (nI st), .int (nI (at0 + 1)), .null, .null, .null] [] (fmM M dr fa D O G)) : zK 47 sc (zC 47 sc (d + 1)) 127 (some (.int (zB (fmR len m P Y j (at0 + 1) (fmD hi fo dr D O G)).1))) (fmQ M (fmR len m P Y j (at0 + 1) (fmD hi fo dr D O G))) 286 [.ref 33, .int (nI hi), .int (nI fo), .int (zB wh), .int (nI st), .int (nI at0), .int (nI c), .int (nI 1), x] [] (fmM M dr fa D O G) := by
  refine zK.blk rfl ?_
  refine p_iload_7 ?_
  refine p_ifN_eq (tgt := 320) (by decide) (by omega) (fun hc288 => ?_) (fun hc288 => ?_)
  · skip
    exact absurd hc288 (by decide) --STOP
  · skip
    refine p_iloadn_1 ?_
    refine p_ifN_ne (tgt := 299) (by decide) (by omega) (fun hc292 => ?_) (fun hc292 => ?_)
    · skip
      rw [show fmD hi fo dr D O G = (hi, fo, false, 2, dr, D, O, fn G (hi - 1) (G (hi - 1) + 1)) by unfold fmD; rw [decide_eq_false hc292, if_neg hc292]]
      refine zK.blk rfl ?_
      refine p_iconst (v := zB false) (by decide) ?_
      refine zK.blk rfl ?_
      refine p_istoren_3 rfl ?_
      refine p_iconst (v := nI 2) (by decide) ?_
      refine p_istore_4 rfl ?_
      refine p_iloadn_3 ?_
      refine p_ifB_ne (tgt := 320) (by decide) (fun hc305 => ?_) (fun hc305 => ?_)
      · skip
        skip
        exact absurd hc305 (by decide)
      · skip
        skip
        refine p_aloadn_0 ?_
        refine p_getr rfl rfl ?_
        refine p_iloadn_1 ?_
        refine p_iconst (v := nI 1) (by decide) ?_
        refine p_isubN (by omega) ?_
        refine p_dup2 ?_
        refine p_iald (v := nI (G (hi - 1))) rfl (by omega) (by decide) rfl ?_
        refine p_iconst (v := nI 1) (by decide) ?_
        refine p_iaddN ?_
        refine p_iast rfl (by omega) (by decide) ?_
        rw [fm_43]
        refine zK.blk rfl ?_
        refine p_iinc_5 (zN_inc _ 1) rfl ?_
        refine p_goto (tgt := 17) (by decide) ?_
        refine zK.forget _ ?_ (ih _ _ _ _ _ _ _ _ _ ⟨by omega, by show dr + hi + 0 = fo; omega, by omega, by omega, (fun k hk => by
              have hG := hOG k hk
              refine ⟨hG.1, hG.2.1, ?_⟩
              show (if k = hi - 1 then G (hi - 1) + 1 else G k) ≤ at0 + 1
              have hG2 := hOG (hi - 1) (by omega)
              split <;> omega), fun _ _ => by omega, fun z => absurd z (by decide)⟩)
        exact ⟨Or.inl rfl, Or.inl rfl, Or.inl rfl, Or.inl rfl, Or.inl rfl, Or.inl rfl, Or.inr rfl, Or.inr rfl, Or.inr rfl, trivial⟩
    · skip
      have h0 : hi = 0 := Classical.not_not.mp hc292
      rw [show fmD hi fo dr D O G = (hi, fo, true, 2, dr, D, O, G) by unfold fmD; rw [decide_eq_true h0, if_pos h0]]
      refine p_iconst (v := zB true) (by decide) ?_
      refine p_goto (tgt := 300) (by decide) ?_
      refine zK.blk rfl ?_
      refine p_istoren_3 rfl ?_
      refine p_iconst (v := nI 2) (by decide) ?_
      refine p_istore_4 rfl ?_
      refine p_iloadn_3 ?_
      refine p_ifB_ne (tgt := 320) (by decide) (fun hc305 => ?_) (fun hc305 => ?_)
      · skip
        skip
        refine zK.blk rfl ?_
        refine p_iinc_5 (zN_inc _ 1) rfl ?_
        refine p_goto (tgt := 17) (by decide) ?_
        refine zK.forget _ ?_ (ih _ _ _ _ _ _ _ _ _ ⟨by omega, by show dr + hi + 0 = fo; omega, by omega, by omega, fun k hk => absurd hk (by omega), fun z => absurd z (by decide), fun z => absurd z (by decide)⟩)
        exact ⟨Or.inl rfl, Or.inl rfl, Or.inl rfl, Or.inl rfl, Or.inl rfl, Or.inl rfl, Or.inr rfl, Or.inr rfl, Or.inr rfl, trivial⟩
      · skip
        exact absurd hc305 (by decide)
theorem fs_w {m : Nat} {P Y : Nat → Nat} {at0 hi fo : Nat} {wh : Bool} {st dr : Nat} {D O G : Nat → Nat} (hw : wh = true) : fmS m P Y at0 hi fo wh st dr D O G = none := if_pos hw
theorem fs_0n {m : Nat} {P Y : Nat → Nat} {at0 hi fo : Nat} {wh : Bool} {st dr : Nat} {D O G : Nat → Nat} (hw : ¬ wh = true) (h0 : st = 0) (h : ¬ ((112 ≤ Y at0 ∧ Y at0 < 112 + m) ∨ (120 ≤ Y at0 ∧ Y at0 ≤ 122)) ∨ fo = 30) : fmS m P Y at0 hi fo wh st dr D O G = none := (if_neg hw).trans ((if_pos h0).trans (if_pos h))
theorem fs_0s {m : Nat} {P Y : Nat → Nat} {at0 hi fo : Nat} {wh : Bool} {st dr : Nat} {D O G : Nat → Nat} (hw : ¬ wh = true) (h0 : st = 0) (h : ¬ (¬ ((112 ≤ Y at0 ∧ Y at0 < 112 + m) ∨ (120 ≤ Y at0 ∧ Y at0 ≤ 122)) ∨ fo = 30)) (h2 : (112 ≤ Y at0 ∧ Y at0 < 112 + m) ∧ 0 < P (Y at0 - 112)) : fmS m P Y at0 hi fo wh st dr D O G = some (hi, fo + 1, false, 1, dr, D, O, G) := (if_neg hw).trans ((if_pos h0).trans ((if_neg h).trans (if_pos h2)))
theorem fs_0l {m : Nat} {P Y : Nat → Nat} {at0 hi fo : Nat} {wh : Bool} {st dr : Nat} {D O G : Nat → Nat} (hw : ¬ wh = true) (h0 : st = 0) (h : ¬ (¬ ((112 ≤ Y at0 ∧ Y at0 < 112 + m) ∨ (120 ≤ Y at0 ∧ Y at0 ≤ 122)) ∨ fo = 30)) (h2 : ¬ ((112 ≤ Y at0 ∧ Y at0 < 112 + m) ∧ 0 < P (Y at0 - 112))) : fmS m P Y at0 hi fo wh st dr D O G = some (fmD hi (fo + 1) (dr + 1) (fn D dr (Y at0)) O G) := (if_neg hw).trans ((if_pos h0).trans ((if_neg h).trans (if_neg h2)))
theorem fs_1n {m : Nat} {P Y : Nat → Nat} {at0 hi fo : Nat} {wh : Bool} {st dr : Nat} {D O G : Nat → Nat} (hw : ¬ wh = true) (h0 : ¬ st = 0) (h1 : st = 1) (h : ¬ Y at0 = 40 ∨ hi = 8) : fmS m P Y at0 hi fo wh st dr D O G = none := (if_neg hw).trans ((if_neg h0).trans ((if_pos h1).trans (if_pos h)))
theorem fs_1y {m : Nat} {P Y : Nat → Nat} {at0 hi fo : Nat} {wh : Bool} {st dr : Nat} {D O G : Nat → Nat} (hw : ¬ wh = true) (h0 : ¬ st = 0) (h1 : st = 1) (h : ¬ (¬ Y at0 = 40 ∨ hi = 8)) : fmS m P Y at0 hi fo wh st dr D O G = some (hi + 1, fo, false, 0, dr, D, fn O hi (Y (at0 - 1)), fn G hi 0) := (if_neg hw).trans ((if_neg h0).trans ((if_pos h1).trans (if_neg h)))
theorem fs_2cy {m : Nat} {P Y : Nat → Nat} {at0 hi fo : Nat} {wh : Bool} {st dr : Nat} {D O G : Nat → Nat} (hw : ¬ wh = true) (h0 : ¬ st = 0) (h1 : ¬ st = 1) (hg : G (hi - 1) < P (O (hi - 1) - 112)) (h : Y at0 = 44) : fmS m P Y at0 hi fo wh st dr D O G = some (hi, fo, false, 0, dr, D, O, G) := (if_neg hw).trans ((if_neg h0).trans ((if_neg h1).trans ((if_pos hg).trans (if_pos h))))
theorem fs_2cn {m : Nat} {P Y : Nat → Nat} {at0 hi fo : Nat} {wh : Bool} {st dr : Nat} {D O G : Nat → Nat} (hw : ¬ wh = true) (h0 : ¬ st = 0) (h1 : ¬ st = 1) (hg : G (hi - 1) < P (O (hi - 1) - 112)) (h : ¬ Y at0 = 44) : fmS m P Y at0 hi fo wh st dr D O G = none := (if_neg hw).trans ((if_neg h0).trans ((if_neg h1).trans ((if_pos hg).trans (if_neg h))))
theorem fs_2ky {m : Nat} {P Y : Nat → Nat} {at0 hi fo : Nat} {wh : Bool} {st dr : Nat} {D O G : Nat → Nat} (hw : ¬ wh = true) (h0 : ¬ st = 0) (h1 : ¬ st = 1) (hg : ¬ G (hi - 1) < P (O (hi - 1) - 112)) (h : Y at0 = 41) : fmS m P Y at0 hi fo wh st dr D O G = some (fmD (hi - 1) fo (dr + 1) (fn D dr (O (hi - 1))) O G) := (if_neg hw).trans ((if_neg h0).trans ((if_neg h1).trans ((if_neg hg).trans (if_pos h))))
theorem fs_2kn {m : Nat} {P Y : Nat → Nat} {at0 hi fo : Nat} {wh : Bool} {st dr : Nat} {D O G : Nat → Nat} (hw : ¬ wh = true) (h0 : ¬ st = 0) (h1 : ¬ st = 1) (hg : ¬ G (hi - 1) < P (O (hi - 1) - 112)) (h : ¬ Y at0 = 41) : fmS m P Y at0 hi fo wh st dr D O G = none := (if_neg hw).trans ((if_neg h0).trans ((if_neg h1).trans ((if_neg hg).trans (if_neg h))))
set_option maxRecDepth 100000 in
set_option maxHeartbeats 4000000 in
theorem lp_127_17 {sc : Nat × (Nat → Int32)} {d : Nat} {M : zM} {len m : Nat} {Y P T K : Nat → Nat} (hsm : sgM M m P T K) (htx : txM M len Y) : ∀ (j at0 hi fo : Nat) (wh : Bool) (st dr fa : Nat) (D O G : Nat → Nat), at0 + j = len → fmI m Y at0 hi fo wh st dr O G → zK 47 sc (zC 47 sc (d + 1)) 127 (some (.int (zB (fmR len m P Y j at0 (hi, fo, wh, st, dr, D, O, G)).1))) (fmQ M (fmR len m P Y j at0 (hi, fo, wh, st, dr, D, O, G))) 17 [.ref 33, .int (nI hi), .int (nI fo), .int (zB wh), .int (nI st), .int (nI at0), .null, .null, .null] [] (fmM M dr fa D O G) := by
  intro j
  induction j with
  | zero =>
    intro at0 hi fo wh st dr fa D O G hj hI
    have hin : at0 = len := by omega
    subst hin
    have hl80 := htx.2.1
    refine zK.blk rfl ?_
    refine p_iload_5 ?_
    refine p_aloadn_0 ?_
    refine p_geti rfl rfl (htx.1) ?_
    refine p_icmpN_ge (tgt := 326) (by decide) (by omega) (by omega) (fun hc23 => ?_) (fun hc23 => ?_)
    · skip
      refine zK.blk rfl ?_
      refine p_aloadn_0 ?_
      refine p_aloadn_0 ?_
      refine p_geti rfl rfl (htx.1) ?_
      refine p_put rfl rfl (by simp) ?_
      rw [fm_15]
      refine p_iloadn_3 ?_
      exact p_iret (zB_or wh) rfl rfl
    · skip
      exact absurd hc23 (by omega) --STOP
  | succ j ih =>
    intro at0 hi fo wh st dr fa D O G hj hI
    obtain ⟨i1, i2, i3, i4, i5, i6, i7⟩ := id hI
    have hl80 := htx.2.1
    have hY := htx.2.2 at0 (by omega)
    have hm6 := hsm.2.2.1
    have hs1 := zin_112 m (by omega) (Y at0) hY.2
    have hs2 := zin_120 (Y at0) hY.2
    have ih2 := fun hi fo wh st dr fa D O G h => ih (at0 + 1) hi fo wh st dr fa D O G (by omega) h
    refine zK.blk rfl ?_
    refine p_iload_5 ?_
    refine p_aloadn_0 ?_
    refine p_geti rfl rfl (htx.1) ?_
    refine p_icmpN_ge (tgt := 326) (by decide) (by omega) (by omega) (fun hc23 => ?_) (fun hc23 => ?_)
    · skip
      exact absurd hc23 (by omega) --STOP
    · skip
      refine p_aloadn_0 ?_
      refine p_getr rfl rfl ?_
      refine p_iload_5 ?_
      refine p_iald (v := nI (Y at0)) rfl (by omega) (by decide) hY.1 ?_
      refine p_istore_6 rfl ?_
      refine p_aloadn_0 ?_
      refine p_iload_5 ?_
      refine p_put rfl rfl (by simp) ?_
      rw [fm_15]
      refine p_iconst (v := nI 0) (by decide) ?_
      refine p_istore_7 rfl ?_
      refine p_iloadn_3 ?_
      refine p_ifB_eq (tgt := 50) (by decide) (fun hc45 => ?_) (fun hc45 => ?_)
      · skip
        subst hc45
        refine zK.blk rfl ?_
        refine p_iload_4 ?_
        refine p_ifN_ne (tgt := 152) (by decide) (by omega) (fun hc52 => ?_) (fun hc52 => ?_)
        · skip
          refine zK.blk rfl ?_
          refine p_iload_4 ?_
          refine p_iconst (v := nI 1) (by decide) ?_
          refine p_icmpN_ne (tgt := 204) (by decide) (by omega) (by omega) (fun hc155 => ?_) (fun hc155 => ?_)
          · skip
            have hst2 : st = 2 := by omega
            have hh1 := i6 rfl hst2
            rw [if_neg (show ¬ st = 1 by omega)] at i2
            have hOG := i5 (hi - 1) (by omega)
            have hPb := (hsm.2.2.2.1 (O (hi - 1) - 112) (by omega)).1
            refine zK.blk rfl ?_
            refine p_aloadn_0 ?_
            refine p_getr rfl rfl ?_
            refine p_iloadn_1 ?_
            refine p_iconst (v := nI 1) (by decide) ?_
            refine p_isubN (by omega) ?_
            refine p_iald (v := nI (G (hi - 1))) rfl (by omega) (by decide) rfl ?_
            refine p_aloadn_0 ?_
            refine p_getr rfl rfl ?_
            refine p_aloadn_0 ?_
            refine p_getr rfl rfl ?_
            refine p_iloadn_1 ?_
            refine p_iconst (v := nI 1) (by decide) ?_
            refine p_isubN (by omega) ?_
            refine p_iald (v := nI (O (hi - 1))) rfl (by omega) (by decide) rfl ?_
            refine p_bipush (v := nI 112) (by decide) ?_
            refine p_isubN (by omega) ?_
            refine p_iald (v := nI (P (O (hi - 1) - 112))) rfl (by omega) (by decide) (hsm.2.2.2.2 _ (by omega)).1 ?_
            refine p_icmpN_ge (tgt := 246) (by decide) (by omega) (by omega) (fun hc228 => ?_) (fun hc228 => ?_)
            · skip
              refine zK.blk rfl ?_
              refine p_iload_6 ?_
              refine p_bipush (v := nI 41) (by decide) ?_
              refine p_icmpN_eq (tgt := 255) (by decide) (by omega) (by omega) (fun hc250 => ?_) (fun hc250 => ?_)
              · skip
                rw [fm_y (fs_2ky (show ¬ false = true by decide) hc52 hc155 (by omega) hc250)]
                refine zK.blk rfl ?_
                refine p_iinc_1 (zN_dec (by omega)) rfl ?_
                refine p_aloadn_0 ?_
                refine p_getr rfl rfl ?_
                refine p_aloadn_0 ?_
                refine p_geti (v := nI dr) rfl rfl rfl ?_
                refine p_aloadn_0 ?_
                refine p_getr rfl rfl ?_
                refine p_iloadn_1 ?_
                refine p_iald (v := nI (O (hi - 1))) rfl (by omega) (by decide) rfl ?_
                refine p_iast rfl (by omega) (by decide) ?_
                rw [fm_41]
                refine p_aloadn_0 ?_
                refine p_dupa ?_
                refine p_geti (v := nI dr) rfl rfl rfl ?_
                refine p_iconst (v := nI 1) (by decide) ?_
                refine p_iaddN ?_
                refine p_put rfl rfl (by simp) ?_
                rw [fm_14]
                refine p_iconst (v := nI 1) (by decide) ?_
                refine p_istore_7 rfl ?_
                exact st_127_286 (by omega) (by omega) i3 (by omega) (fun k hk => by have h := i5 k (by omega); omega) ih2
              · skip
                rw [fm_n (fs_2kn (show ¬ false = true by decide) hc52 hc155 (by omega) hc250)]
                refine p_iconst (v := nI 0) (by decide) ?_
                exact p_iret (Or.inl rfl) rfl rfl
            · skip
              refine p_iload_6 ?_
              refine p_bipush (v := nI 44) (by decide) ?_
              refine p_icmpN_eq (tgt := 240) (by decide) (by omega) (by omega) (fun hc235 => ?_) (fun hc235 => ?_)
              · skip
                rw [fm_y (fs_2cy (show ¬ false = true by decide) hc52 hc155 (by omega) hc235)]
                refine zK.blk rfl ?_
                refine p_iconst (v := nI 0) (by decide) ?_
                refine p_istore_4 rfl ?_
                refine p_goto (tgt := 286) (by decide) ?_
                refine zK.blk rfl ?_
                refine p_iload_7 ?_
                refine p_ifN_eq (tgt := 320) (by decide) (by decide) (fun _ => ?_) (fun h => absurd rfl h)
                refine zK.blk rfl ?_
                refine p_iinc_5 (zN_inc _ 1) rfl ?_
                refine p_goto (tgt := 17) (by decide) ?_
                refine zK.forget _ ?_ (ih2 hi fo false 0 dr at0 D O G ⟨by omega, by rw [if_neg (by decide)]; omega, i3, i4, (fun k hk => by have h := i5 k hk; omega), fun _ z => absurd z (by decide), fun z => absurd z (by decide)⟩)
                exact ⟨Or.inl rfl, Or.inl rfl, Or.inl rfl, Or.inl rfl, Or.inl rfl, Or.inl rfl, Or.inr rfl, Or.inr rfl, Or.inr rfl, trivial⟩
              · skip
                rw [fm_n (fs_2cn (show ¬ false = true by decide) hc52 hc155 (by omega) hc235)]
                refine p_iconst (v := nI 0) (by decide) ?_
                exact p_iret (Or.inl rfl) rfl rfl
          · skip
            have hst1 : st = 1 := by omega
            have h7 := i7 hst1
            rw [if_pos hst1] at i2
            refine p_iload_6 ?_
            refine p_bipush (v := nI 40) (by decide) ?_
            refine p_icmpN_ne (tgt := 171) (by decide) (by omega) (by omega) (fun hc162 => ?_) (fun hc162 => ?_)
            · skip
              rw [fm_n (fs_1n (show ¬ false = true by decide) hc52 hst1 (Or.inl hc162))]
              refine zK.blk rfl ?_
              refine p_iconst (v := nI 0) (by decide) ?_
              exact p_iret (Or.inl rfl) rfl rfl
            · skip
              refine p_iloadn_1 ?_
              refine p_bipush (v := nI 8) (by decide) ?_
              refine p_icmpN_ne (tgt := 173) (by decide) (by omega) (by omega) (fun hc168 => ?_) (fun hc168 => ?_)
              · skip
                rw [fm_y (fs_1y (show ¬ false = true by decide) hc52 hst1 (fun h => h.elim hc162 hc168))]
                refine zK.blk rfl ?_
                refine p_aloadn_0 ?_
                refine p_getr rfl rfl ?_
                refine p_iloadn_1 ?_
                refine p_aloadn_0 ?_
                refine p_getr rfl rfl ?_
                refine p_iload_5 ?_
                refine p_iconst (v := nI 1) (by decide) ?_
                refine p_isubN (by omega) ?_
                refine p_iald (v := nI (Y (at0 - 1))) rfl (by omega) (by decide) (htx.2.2 (at0 - 1) (by omega)).1 ?_
                refine p_iast rfl (by omega) (by decide) ?_
                rw [fm_42]
                refine p_aloadn_0 ?_
                refine p_getr rfl rfl ?_
                refine p_iloadn_1 ?_
                refine p_iconst (v := nI 0) (by decide) ?_
                refine p_iast rfl (by omega) (by decide) ?_
                rw [fm_43]
                refine p_iinc_1 (zN_inc _ 1) rfl ?_
                refine p_iconst (v := nI 0) (by decide) ?_
                refine p_istore_4 rfl ?_
                refine p_goto (tgt := 286) (by decide) ?_
                refine zK.blk rfl ?_
                refine p_iload_7 ?_
                refine p_ifN_eq (tgt := 320) (by decide) (by decide) (fun _ => ?_) (fun h => absurd rfl h)
                refine zK.blk rfl ?_
                refine p_iinc_5 (zN_inc _ 1) rfl ?_
                refine p_goto (tgt := 17) (by decide) ?_
                refine zK.forget _ ?_ (ih2 (hi + 1) fo false 0 dr at0 D (fn O hi (Y (at0 - 1))) (fn G hi 0) ⟨by omega, by rw [if_neg (by decide)]; omega, i3, by omega, (fun k hk => by
                  show 112 ≤ (if k = hi then Y (at0 - 1) else O k) ∧ (if k = hi then Y (at0 - 1) else O k) < 112 + m ∧ (if k = hi then 0 else G k) ≤ at0 + 1
                  by_cases hk2 : k = hi
                  · rw [if_pos hk2, if_pos hk2]; omega
                  · rw [if_neg hk2, if_neg hk2]; have h := i5 k (by omega); omega), fun _ z => absurd z (by decide), fun z => absurd z (by decide)⟩)
                exact ⟨Or.inl rfl, Or.inl rfl, Or.inl rfl, Or.inl rfl, Or.inl rfl, Or.inl rfl, Or.inr rfl, Or.inr rfl, Or.inr rfl, trivial⟩
              · skip
                rw [fm_n (fs_1n (show ¬ false = true by decide) hc52 hst1 (Or.inr (by omega)))]
                refine zK.blk rfl ?_
                refine p_iconst (v := nI 0) (by decide) ?_
                exact p_iret (Or.inl rfl) rfl rfl
        · skip
          have hc52n : st = 0 := by omega
          rw [if_neg (show ¬ st = 1 by omega)] at i2
          refine p_iload_6 ?_
          refine p_bipush (v := nI 112) (by decide) ?_
          refine p_bipush (v := nI 112) (by decide) ?_
          refine p_aloadn_0 ?_
          refine p_geti rfl rfl (hsm.2.1) ?_
          refine p_iaddN ?_
          refine p_iconst (v := nI 1) (by decide) ?_
          refine p_isubN (by omega) ?_
          refine p_cs3i rfl rfl rfl rfl rfl (c_89) ?_
          rw [hs1]
          refine p_istore_8 rfl ?_
          refine p_iload_8 ?_
          refine p_ifB_ne (tgt := 90) (by decide) (fun hc75 => ?_) (fun hc75 => ?_)
          · skip
            have hsp : (112 ≤ Y at0 ∧ Y at0 < 112 + m) ∨ (120 ≤ Y at0 ∧ Y at0 ≤ 122) := Or.inl (of_decide_eq_true hc75)
            refine zK.blk rfl ?_
            refine p_iloadn_2 ?_
            refine p_bipush (v := nI 30) (by decide) ?_
            refine p_icmpN_ne (tgt := 98) (by decide) (by omega) (by omega) (fun hc93 => ?_) (fun hc93 => ?_)
            · skip
              have hnn : ¬ (¬ ((112 ≤ Y at0 ∧ Y at0 < 112 + m) ∨ (120 ≤ Y at0 ∧ Y at0 ≤ 122)) ∨ fo = 30) := fun h => h.elim (fun q => q hsp) hc93
              refine zK.blk rfl ?_
              refine p_iinc_2 (zN_inc _ 1) rfl ?_
              refine p_iload_8 ?_
              refine p_ifB_eq (tgt := 125) (by decide) (fun hc103 => ?_) (fun hc103 => ?_)
              · skip
                have hig := of_decide_eq_false hc103
                rw [fm_y (fs_0l (show ¬ false = true by decide) hc52n hnn (fun h => hig h.1))]
                refine zK.blk rfl ?_
                refine p_aloadn_0 ?_
                refine p_getr rfl rfl ?_
                refine p_aloadn_0 ?_
                refine p_geti (v := nI dr) rfl rfl rfl ?_
                refine p_iload_6 ?_
                refine p_iast rfl (by omega) (by decide) ?_
                rw [fm_41]
                refine p_aloadn_0 ?_
                refine p_dupa ?_
                refine p_geti (v := nI dr) rfl rfl rfl ?_
                refine p_iconst (v := nI 1) (by decide) ?_
                refine p_iaddN ?_
                skip
                refine p_put rfl rfl (by simp) ?_
                rw [fm_14]
                refine p_iconst (v := nI 1) (by decide) ?_
                refine p_istore_7 rfl ?_
                refine zK.blk rfl ?_
                refine p_goto (tgt := 286) (by decide) ?_
                exact st_127_286 (by omega) (by omega) (by omega) (by omega) (fun k hk => by have h := i5 k (by omega); omega) ih2
              · skip
                have hig := of_decide_eq_true hc103
                have hPb := (hsm.2.2.2.1 (Y at0 - 112) (by omega)).1
                refine p_aloadn_0 ?_
                refine p_getr rfl rfl ?_
                refine p_iload_6 ?_
                refine p_bipush (v := nI 112) (by decide) ?_
                refine p_isubN (by omega) ?_
                refine p_iald (v := nI (P (Y at0 - 112))) rfl (by omega) (by decide) (hsm.2.2.2.2 _ (by omega)).1 ?_
                refine p_ifN_le (tgt := 125) (by decide) (by omega) (fun hc116 => ?_) (fun hc116 => ?_)
                · skip
                  rw [fm_y (fs_0l (show ¬ false = true by decide) hc52n hnn (fun h => absurd h.2 (by omega)))]
                  refine zK.blk rfl ?_
                  refine p_aloadn_0 ?_
                  refine p_getr rfl rfl ?_
                  refine p_aloadn_0 ?_
                  refine p_geti (v := nI dr) rfl rfl rfl ?_
                  refine p_iload_6 ?_
                  refine p_iast rfl (by omega) (by decide) ?_
                  rw [fm_41]
                  refine p_aloadn_0 ?_
                  refine p_dupa ?_
                  refine p_geti (v := nI dr) rfl rfl rfl ?_
                  refine p_iconst (v := nI 1) (by decide) ?_
                  refine p_iaddN ?_
                  skip
                  refine p_put rfl rfl (by simp) ?_
                  rw [fm_14]
                  refine p_iconst (v := nI 1) (by decide) ?_
                  refine p_istore_7 rfl ?_
                  refine zK.blk rfl ?_
                  refine p_goto (tgt := 286) (by decide) ?_
                  exact st_127_286 (by omega) (by omega) (by omega) (by omega) (fun k hk => by have h := i5 k (by omega); omega) ih2
                · skip
                  rw [fm_y (fs_0s (show ¬ false = true by decide) hc52n hnn ⟨hig, by omega⟩)]
                  refine p_iconst (v := nI 1) (by decide) ?_
                  refine p_istore_4 rfl ?_
                  refine p_goto (tgt := 149) (by decide) ?_
                  refine zK.blk rfl ?_
                  refine p_goto (tgt := 286) (by decide) ?_
                  refine zK.blk rfl ?_
                  refine p_iload_7 ?_
                  refine p_ifN_eq (tgt := 320) (by decide) (by decide) (fun _ => ?_) (fun h => absurd rfl h)
                  refine zK.blk rfl ?_
                  refine p_iinc_5 (zN_inc _ 1) rfl ?_
                  refine p_goto (tgt := 17) (by decide) ?_
                  refine zK.forget _ ?_ (ih2 hi (fo + 1) false 1 dr at0 D O G ⟨by omega, by rw [if_pos rfl]; omega, by omega, i4, (fun k hk => by have h := i5 k hk; omega), fun _ z => absurd z (by decide), fun _ => ⟨by omega, by show 112 ≤ Y at0; omega, by show Y at0 < 112 + m; omega⟩⟩)
                  exact ⟨Or.inl rfl, Or.inl rfl, Or.inl rfl, Or.inl rfl, Or.inl rfl, Or.inl rfl, Or.inr rfl, Or.inr rfl, Or.inr rfl, trivial⟩
            · skip
              rw [fm_n (fs_0n (show ¬ false = true by decide) hc52n (Or.inr (by omega)))]
              refine zK.blk rfl ?_
              refine p_iconst (v := nI 0) (by decide) ?_
              exact p_iret (Or.inl rfl) rfl rfl
          · skip
            refine p_iload_6 ?_
            refine p_bipush (v := nI 120) (by decide) ?_
            refine p_bipush (v := nI 122) (by decide) ?_
            refine p_cs3i rfl rfl rfl rfl rfl (c_89) ?_
            rw [hs2]
            refine p_ifB_eq (tgt := 96) (by decide) (fun hc87 => ?_) (fun hc87 => ?_)
            · skip
              have hf75 := of_decide_eq_false hc75
              have hf87 := of_decide_eq_false hc87
              rw [fm_n (fs_0n (show ¬ false = true by decide) hc52n (Or.inl (fun h => h.elim hf75 hf87)))]
              refine zK.blk rfl ?_
              refine p_iconst (v := nI 0) (by decide) ?_
              exact p_iret (Or.inl rfl) rfl rfl
            · skip
              have hsp : (112 ≤ Y at0 ∧ Y at0 < 112 + m) ∨ (120 ≤ Y at0 ∧ Y at0 ≤ 122) := Or.inr (of_decide_eq_true hc87)
              refine zK.blk rfl ?_
              refine p_iloadn_2 ?_
              refine p_bipush (v := nI 30) (by decide) ?_
              refine p_icmpN_ne (tgt := 98) (by decide) (by omega) (by omega) (fun hc93 => ?_) (fun hc93 => ?_)
              · skip
                have hnn : ¬ (¬ ((112 ≤ Y at0 ∧ Y at0 < 112 + m) ∨ (120 ≤ Y at0 ∧ Y at0 ≤ 122)) ∨ fo = 30) := fun h => h.elim (fun q => q hsp) hc93
                refine zK.blk rfl ?_
                refine p_iinc_2 (zN_inc _ 1) rfl ?_
                refine p_iload_8 ?_
                refine p_ifB_eq (tgt := 125) (by decide) (fun hc103 => ?_) (fun hc103 => ?_)
                · skip
                  have hig := of_decide_eq_false hc103
                  rw [fm_y (fs_0l (show ¬ false = true by decide) hc52n hnn (fun h => hig h.1))]
                  refine zK.blk rfl ?_
                  refine p_aloadn_0 ?_
                  refine p_getr rfl rfl ?_
                  refine p_aloadn_0 ?_
                  refine p_geti (v := nI dr) rfl rfl rfl ?_
                  refine p_iload_6 ?_
                  refine p_iast rfl (by omega) (by decide) ?_
                  rw [fm_41]
                  refine p_aloadn_0 ?_
                  refine p_dupa ?_
                  refine p_geti (v := nI dr) rfl rfl rfl ?_
                  refine p_iconst (v := nI 1) (by decide) ?_
                  refine p_iaddN ?_
                  skip
                  refine p_put rfl rfl (by simp) ?_
                  rw [fm_14]
                  refine p_iconst (v := nI 1) (by decide) ?_
                  refine p_istore_7 rfl ?_
                  refine zK.blk rfl ?_
                  refine p_goto (tgt := 286) (by decide) ?_
                  exact st_127_286 (by omega) (by omega) (by omega) (by omega) (fun k hk => by have h := i5 k (by omega); omega) ih2
                · skip
                  have hig := of_decide_eq_true hc103
                  have hPb := (hsm.2.2.2.1 (Y at0 - 112) (by omega)).1
                  refine p_aloadn_0 ?_
                  refine p_getr rfl rfl ?_
                  refine p_iload_6 ?_
                  refine p_bipush (v := nI 112) (by decide) ?_
                  refine p_isubN (by omega) ?_
                  refine p_iald (v := nI (P (Y at0 - 112))) rfl (by omega) (by decide) (hsm.2.2.2.2 _ (by omega)).1 ?_
                  refine p_ifN_le (tgt := 125) (by decide) (by omega) (fun hc116 => ?_) (fun hc116 => ?_)
                  · skip
                    rw [fm_y (fs_0l (show ¬ false = true by decide) hc52n hnn (fun h => absurd h.2 (by omega)))]
                    refine zK.blk rfl ?_
                    refine p_aloadn_0 ?_
                    refine p_getr rfl rfl ?_
                    refine p_aloadn_0 ?_
                    refine p_geti (v := nI dr) rfl rfl rfl ?_
                    refine p_iload_6 ?_
                    refine p_iast rfl (by omega) (by decide) ?_
                    rw [fm_41]
                    refine p_aloadn_0 ?_
                    refine p_dupa ?_
                    refine p_geti (v := nI dr) rfl rfl rfl ?_
                    refine p_iconst (v := nI 1) (by decide) ?_
                    refine p_iaddN ?_
                    skip
                    refine p_put rfl rfl (by simp) ?_
                    rw [fm_14]
                    refine p_iconst (v := nI 1) (by decide) ?_
                    refine p_istore_7 rfl ?_
                    refine zK.blk rfl ?_
                    refine p_goto (tgt := 286) (by decide) ?_
                    exact st_127_286 (by omega) (by omega) (by omega) (by omega) (fun k hk => by have h := i5 k (by omega); omega) ih2
                  · skip
                    rw [fm_y (fs_0s (show ¬ false = true by decide) hc52n hnn ⟨hig, by omega⟩)]
                    refine p_iconst (v := nI 1) (by decide) ?_
                    refine p_istore_4 rfl ?_
                    refine p_goto (tgt := 149) (by decide) ?_
                    refine zK.blk rfl ?_
                    refine p_goto (tgt := 286) (by decide) ?_
                    refine zK.blk rfl ?_
                    refine p_iload_7 ?_
                    refine p_ifN_eq (tgt := 320) (by decide) (by decide) (fun _ => ?_) (fun h => absurd rfl h)
                    refine zK.blk rfl ?_
                    refine p_iinc_5 (zN_inc _ 1) rfl ?_
                    refine p_goto (tgt := 17) (by decide) ?_
                    refine zK.forget _ ?_ (ih2 hi (fo + 1) false 1 dr at0 D O G ⟨by omega, by rw [if_pos rfl]; omega, by omega, i4, (fun k hk => by have h := i5 k hk; omega), fun _ z => absurd z (by decide), fun _ => ⟨by omega, by show 112 ≤ Y at0; omega, by show Y at0 < 112 + m; omega⟩⟩)
                    exact ⟨Or.inl rfl, Or.inl rfl, Or.inl rfl, Or.inl rfl, Or.inl rfl, Or.inl rfl, Or.inr rfl, Or.inr rfl, Or.inr rfl, trivial⟩
              · skip
                rw [fm_n (fs_0n (show ¬ false = true by decide) hc52n (Or.inr (by omega)))]
                refine zK.blk rfl ?_
                refine p_iconst (v := nI 0) (by decide) ?_
                exact p_iret (Or.inl rfl) rfl rfl
      · skip
        rw [fm_n (fs_w hc45)]
        refine p_iconst (v := nI 0) (by decide) ?_
        exact p_iret (Or.inl rfl) rfl rfl
def fmW (len m : Nat) (P Y D O G : Nat → Nat) : Bool × Nat × fS := fmR len m P Y len 0 (0, 0, false, 0, 0, D, O, G)
/-- the reference's reader over the text in M -/
def fmV (M : zM) (len m : Nat) (P Y : Nat → Nat) : Bool × Nat × fS := fmW len m P Y (fun b => zna (M 41 b)) (fun b => zna (M 42 b)) (fun b => zna (M 43 b))
set_option maxRecDepth 100000 in
set_option maxHeartbeats 4000000 in
theorem c_127 {sc : Nat × (Nat → Int32)} {d : Nat} {M : zM} {len m : Nat} {Y P T K : Nat → Nat} (hsm : sgM M m P T K) (htx : txM M len Y) : zC 47 sc (d + 2) 127 [.ref 33] M (some (.int (zB (fmV M len m P Y).1))) (fmQ M (fmV M len m P Y)) := by
  refine z_enter (L := [.ref 33, .null, .null, .null, .null, .null, .null, .null, .null]) rfl rfl rfl ?_
  refine zK.blk rfl ?_
  refine p_aloadn_0 ?_
  refine p_iconst (v := nI 0) (by decide) ?_
  have hid := fm_id M
  refine p_put rfl rfl (by simp) ?_
  rw [show zup M 33 14 (nI 0) = fmM M 0 (zna (M 33 15)) (fun b => zna (M 41 b)) (fun b => zna (M 42 b)) (fun b => zna (M 43 b)) from by
    rw [← fm_14 (dr := zna (M 33 14)), hid]]
  refine p_iconst (v := nI 0) (by decide) ?_
  refine p_istoren_1 rfl ?_
  refine p_iconst (v := nI 0) (by decide) ?_
  refine p_istoren_2 rfl ?_
  refine p_iconst (v := zB false) (by decide) ?_
  refine p_istoren_3 rfl ?_
  refine p_iconst (v := nI 0) (by decide) ?_
  refine p_istore_4 rfl ?_
  refine p_iconst (v := nI 0) (by decide) ?_
  refine p_istore_5 rfl ?_
  exact lp_127_17 hsm htx len 0 0 0 false 0 0 _ _ _ _ (by omega) ⟨by omega, by rw [if_neg (by decide)], by omega, by omega, fun k hk => absurd hk (by omega), fun _ z => absurd z (by decide), fun z => absurd z (by decide)⟩
