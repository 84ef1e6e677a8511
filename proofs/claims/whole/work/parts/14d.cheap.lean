theorem zup_zup {M : zM} {k j : Nat} {x y : Int32} : zup (zup M k j x) k j y = zup M k j y := by
  funext a b
  unfold zup
  split
  · split <;> rfl
  · rfl
def zob (ob : Option Nat) : Int32 := match ob with
  | none => -1
  | some b => nI b
/-- the cheapest table that isn't settled, and the dearest cost: j turns from i on -/
def coB (c st : Nat → Nat) (i : Nat) (ob : Option Nat) : Option Nat :=
  if c i = 1073741824 then ob else if ¬ st i = 0 then ob else match ob with
    | none => some i
    | some b => if c b ≤ c i then some b else some i
def coD (c : Nat → Nat) (i dr : Nat) : Nat := if c i ≤ dr then dr else c i
def coN (c st : Nat → Nat) : Nat → Nat → Option Nat → Nat → Option Nat × Nat
  | 0, _, ob, dr => (ob, dr)
  | j + 1, i, ob, dr => coN c st j (i + 1) (coB c st i ob) (coD c i dr)
/-- costs and flags of a Reach -/
def rcS (M : zM) (rc N : Nat) (c st : Nat → Nat) : Prop := M rc 1 = nI (N - 1) ∧ ∀ t, t < N → M (rc + 1) t = nI (c t) ∧ c t ≤ 1073741824 ∧ M (rc + 3) t = nI (st t) ∧ st t < 2
theorem rcS_up {M : zM} {rc N : Nat} {c st : Nat → Nat} {x : Int32} (h : rcS M rc N c st) : rcS (zup M rc 6 x) rc N c st := by
  refine ⟨?_, fun t ht => ?_⟩
  · unfold zup; simp; exact h.1
  · have := h.2 t ht
    unfold zup
    rw [if_neg (by omega), if_neg (by omega)]
    exact this
set_option maxRecDepth 100000 in
set_option maxHeartbeats 4000000 in
theorem lp_43_9 {sc : Nat × (Nat → Int32)} {d : Nat} {M : zM} {rc n N : Nat} {c st : Nat → Nat} (hrc : zrc rc n N) (hS : rcS M rc N c st) : ∀ (j i : Nat) (ob : Option Nat) (dr : Nat), i + j = N → dr ≤ 1073741824 → (∀ b, ob = some b → b < N) → zK 47 sc (zC 47 sc (d + 0)) 43 (some (.int (zob (coN c st j i ob dr).1))) (zup M rc 6 (nI (coN c st j i ob dr).2)) 9 [.ref rc, .int (zob ob), .int (nI i), .null] [] (zup M rc 6 (nI dr)) := by
  intro j
  induction j with
  | zero =>
    intro i ob dr hj hd hob
    have hN := zl_N hrc
    have hS2 := rcS_up (x := nI dr) hS
    refine zK.blk rfl ?_
    refine p_iloadn_2 ?_
    refine p_aloadn_0 ?_
    refine p_geti (zl_r hrc) rfl (hS2.1) ?_
    refine p_icmpN_gt (tgt := 74) (by decide) (by omega) (by omega) (fun hc14 => ?_) (fun hc14 => ?_)
    · skip
      refine zK.blk rfl ?_
      refine p_iloadn_1 ?_
      exact p_iret trivial rfl rfl
    · skip
      exact absurd hc14 (by omega) --STOP
  | succ j ih =>
    intro i ob dr hj hd hob
    show zK 47 sc (zC 47 sc (d + 0)) 43 (some (.int (zob (coN c st j (i + 1) (coB c st i ob) (coD c i dr)).1))) (zup M rc 6 (nI (coN c st j (i + 1) (coB c st i ob) (coD c i dr)).2)) 9 _ _ _
    have hN := zl_N hrc
    have hS2 := rcS_up (x := nI dr) hS
    have hci := hS.2 i (by omega)
    have h6 : zup M rc 6 (nI dr) rc 6 = nI dr := by unfold zup; simp
    refine zK.blk rfl ?_
    refine p_iloadn_2 ?_
    refine p_aloadn_0 ?_
    refine p_geti (zl_r hrc) rfl (hS2.1) ?_
    refine p_icmpN_gt (tgt := 74) (by decide) (by omega) (by omega) (fun hc14 => ?_) (fun hc14 => ?_)
    · skip
      exact absurd hc14 (by omega) --STOP
    · skip
      refine p_aloadn_0 ?_
      refine p_getr (zl_r hrc) rfl ?_
      refine p_iloadn_2 ?_
      refine p_iald (zl_a2 hrc) (by omega) (zl_n hrc) ((hS2.2 _ (by omega)).1) ?_
      refine p_istoren_3 rfl ?_
      refine p_iloadn_3 ?_
      refine p_aloadn_0 ?_
      refine p_geti (zl_r hrc) rfl (h6) ?_
      refine p_icmpN_le (tgt := 37) (by decide) (by omega) (by omega) (fun hc29 => ?_) (fun hc29 => ?_)
      · skip
        rw [show coD c i dr = dr from if_pos hc29]
        refine zK.blk rfl ?_
        refine p_iloadn_3 ?_
        refine p_ldc ?_
        refine p_icmpN_eq (tgt := 68) (by decide) (by omega) (by omega) (fun hc40 => ?_) (fun hc40 => ?_)
        · skip
          rw [show coB c st i ob = ob from if_pos hc40]
          refine zK.blk rfl ?_
          refine p_iinc_2 (zN_inc _ 1) rfl ?_
          refine p_goto (tgt := 9) (by decide) ?_
          refine zK.forget _ ?_ (ih (i + 1) ob dr (by omega) (by omega) hob)
          exact ⟨Or.inl rfl, Or.inl rfl, Or.inl rfl, Or.inr rfl, trivial⟩ --STOP
        · skip
          refine p_aloadn_0 ?_
          refine p_getr (zl_r hrc) rfl ?_
          refine p_iloadn_2 ?_
          refine p_zald (zl_a4 hrc) (by omega) (zl_n hrc) ((hS2.2 _ (by omega)).2.2.1) ?_
          refine p_ifN_ne (tgt := 68) (by decide) (by omega) (fun hc49 => ?_) (fun hc49 => ?_)
          · skip
            rw [show coB c st i ob = ob by (unfold coB; rw [if_neg hc40, if_pos hc49])]
            refine zK.blk rfl ?_
            refine p_iinc_2 (zN_inc _ 1) rfl ?_
            refine p_goto (tgt := 9) (by decide) ?_
            refine zK.forget _ ?_ (ih (i + 1) ob dr (by omega) (by omega) hob)
            exact ⟨Or.inl rfl, Or.inl rfl, Or.inl rfl, Or.inr rfl, trivial⟩ --STOP
          · skip
            refine p_iloadn_1 ?_
            refine p_if_lt (tgt := 66) (by decide) (fun hc53 => ?_) (fun hc53 => ?_)
            · skip
              obtain rfl : ob = none := by (cases ob with | none => rfl | some b => exact absurd hc53 (nI_pos (by have := hob b rfl; omega)))
              rw [show coB c st i none = some i by (unfold coB; rw [if_neg hc40, if_neg (fun z => hc49 z)])]
              refine zK.blk rfl ?_
              refine p_iloadn_2 ?_
              refine p_istoren_1 rfl ?_
              refine zK.blk rfl ?_
              refine p_iinc_2 (zN_inc _ 1) rfl ?_
              refine p_goto (tgt := 9) (by decide) ?_
              refine zK.forget _ ?_ (ih (i + 1) (some i) dr (by omega) (by omega) (fun b hb => by cases hb; omega))
              exact ⟨Or.inl rfl, Or.inl rfl, Or.inl rfl, Or.inr rfl, trivial⟩
            · skip
              obtain ⟨b, rfl⟩ : ∃ b, ob = some b := by (cases ob with | none => exact absurd (by decide) hc53 | some b => exact ⟨b, rfl⟩)
              have hb := hob b rfl
              have hcb := (hS.2 b hb).2.1
              rw [show zob (some b) = nI b from rfl]
              refine p_iloadn_3 ?_
              refine p_aloadn_0 ?_
              refine p_getr (zl_r hrc) rfl ?_
              refine p_iloadn_1 ?_
              refine p_iald (zl_a2 hrc) (by omega) (zl_n hrc) ((hS2.2 _ (by omega)).1) ?_
              refine p_icmpN_ge (tgt := 68) (by decide) (by omega) (by omega) (fun hc63 => ?_) (fun hc63 => ?_)
              · skip
                rw [show coB c st i (some b) = some b by (unfold coB; rw [if_neg hc40, if_neg (fun z => hc49 z)]; exact if_pos hc63)]
                refine zK.blk rfl ?_
                refine p_iinc_2 (zN_inc _ 1) rfl ?_
                refine p_goto (tgt := 9) (by decide) ?_
                refine zK.forget _ ?_ (ih (i + 1) (some b) dr (by omega) (by omega) hob)
                exact ⟨Or.inl rfl, Or.inl rfl, Or.inl rfl, Or.inr rfl, trivial⟩ --STOP
              · skip
                rw [show coB c st i (some b) = some i by (unfold coB; rw [if_neg hc40, if_neg (fun z => hc49 z)]; exact if_neg hc63)]
                refine zK.blk rfl ?_
                refine p_iloadn_2 ?_
                refine p_istoren_1 rfl ?_
                refine zK.blk rfl ?_
                refine p_iinc_2 (zN_inc _ 1) rfl ?_
                refine p_goto (tgt := 9) (by decide) ?_
                refine zK.forget _ ?_ (ih (i + 1) (some i) dr (by omega) (by omega) (fun b hb => by cases hb; omega))
                exact ⟨Or.inl rfl, Or.inl rfl, Or.inl rfl, Or.inr rfl, trivial⟩ --STOP
      · skip
        refine p_aloadn_0 ?_
        refine p_iloadn_3 ?_
        refine p_put (zl_r hrc) rfl (by simp) ?_
        rw [zup_zup, show coD c i dr = c i from if_neg hc29]
        have hS2 := rcS_up (x := nI (c i)) hS
        refine zK.blk rfl ?_
        refine p_iloadn_3 ?_
        refine p_ldc ?_
        refine p_icmpN_eq (tgt := 68) (by decide) (by omega) (by omega) (fun hc40 => ?_) (fun hc40 => ?_)
        · skip
          rw [show coB c st i ob = ob from if_pos hc40]
          refine zK.blk rfl ?_
          refine p_iinc_2 (zN_inc _ 1) rfl ?_
          refine p_goto (tgt := 9) (by decide) ?_
          refine zK.forget _ ?_ (ih (i + 1) ob (c i) (by omega) (by omega) hob)
          exact ⟨Or.inl rfl, Or.inl rfl, Or.inl rfl, Or.inr rfl, trivial⟩ --STOP
        · skip
          refine p_aloadn_0 ?_
          refine p_getr (zl_r hrc) rfl ?_
          refine p_iloadn_2 ?_
          refine p_zald (zl_a4 hrc) (by omega) (zl_n hrc) ((hS2.2 _ (by omega)).2.2.1) ?_
          refine p_ifN_ne (tgt := 68) (by decide) (by omega) (fun hc49 => ?_) (fun hc49 => ?_)
          · skip
            rw [show coB c st i ob = ob by (unfold coB; rw [if_neg hc40, if_pos hc49])]
            refine zK.blk rfl ?_
            refine p_iinc_2 (zN_inc _ 1) rfl ?_
            refine p_goto (tgt := 9) (by decide) ?_
            refine zK.forget _ ?_ (ih (i + 1) ob (c i) (by omega) (by omega) hob)
            exact ⟨Or.inl rfl, Or.inl rfl, Or.inl rfl, Or.inr rfl, trivial⟩ --STOP
          · skip
            refine p_iloadn_1 ?_
            refine p_if_lt (tgt := 66) (by decide) (fun hc53 => ?_) (fun hc53 => ?_)
            · skip
              obtain rfl : ob = none := by (cases ob with | none => rfl | some b => exact absurd hc53 (nI_pos (by have := hob b rfl; omega)))
              rw [show coB c st i none = some i by (unfold coB; rw [if_neg hc40, if_neg (fun z => hc49 z)])]
              refine zK.blk rfl ?_
              refine p_iloadn_2 ?_
              refine p_istoren_1 rfl ?_
              refine zK.blk rfl ?_
              refine p_iinc_2 (zN_inc _ 1) rfl ?_
              refine p_goto (tgt := 9) (by decide) ?_
              refine zK.forget _ ?_ (ih (i + 1) (some i) (c i) (by omega) (by omega) (fun b hb => by cases hb; omega))
              exact ⟨Or.inl rfl, Or.inl rfl, Or.inl rfl, Or.inr rfl, trivial⟩
            · skip
              obtain ⟨b, rfl⟩ : ∃ b, ob = some b := by (cases ob with | none => exact absurd (by decide) hc53 | some b => exact ⟨b, rfl⟩)
              have hb := hob b rfl
              have hcb := (hS.2 b hb).2.1
              rw [show zob (some b) = nI b from rfl]
              refine p_iloadn_3 ?_
              refine p_aloadn_0 ?_
              refine p_getr (zl_r hrc) rfl ?_
              refine p_iloadn_1 ?_
              refine p_iald (zl_a2 hrc) (by omega) (zl_n hrc) ((hS2.2 _ (by omega)).1) ?_
              refine p_icmpN_ge (tgt := 68) (by decide) (by omega) (by omega) (fun hc63 => ?_) (fun hc63 => ?_)
              · skip
                rw [show coB c st i (some b) = some b by (unfold coB; rw [if_neg hc40, if_neg (fun z => hc49 z)]; exact if_pos hc63)]
                refine zK.blk rfl ?_
                refine p_iinc_2 (zN_inc _ 1) rfl ?_
                refine p_goto (tgt := 9) (by decide) ?_
                refine zK.forget _ ?_ (ih (i + 1) (some b) (c i) (by omega) (by omega) hob)
                exact ⟨Or.inl rfl, Or.inl rfl, Or.inl rfl, Or.inr rfl, trivial⟩ --STOP
              · skip
                rw [show coB c st i (some b) = some i by (unfold coB; rw [if_neg hc40, if_neg (fun z => hc49 z)]; exact if_neg hc63)]
                refine zK.blk rfl ?_
                refine p_iloadn_2 ?_
                refine p_istoren_1 rfl ?_
                refine zK.blk rfl ?_
                refine p_iinc_2 (zN_inc _ 1) rfl ?_
                refine p_goto (tgt := 9) (by decide) ?_
                refine zK.forget _ ?_ (ih (i + 1) (some i) (c i) (by omega) (by omega) (fun b hb => by cases hb; omega))
                exact ⟨Or.inl rfl, Or.inl rfl, Or.inl rfl, Or.inr rfl, trivial⟩ --STOP
set_option maxRecDepth 100000 in
set_option maxHeartbeats 4000000 in
theorem c_43 {sc : Nat × (Nat → Int32)} {d : Nat} {M : zM} {rc n N : Nat} {c st : Nat → Nat} (hrc : zrc rc n N) (hS : rcS M rc N c st) : zC 47 sc (d + 1) 43 [.ref rc] M (some (.int (zob (coN c st N 0 none 0).1))) (zup M rc 6 (nI (coN c st N 0 none 0).2)) := by
  refine z_enter (L := [.ref rc, .null, .null, .null]) rfl rfl rfl ?_
  refine zK.blk rfl ?_
  refine p_iconst (v := -1) (by decide) ?_
  refine p_istoren_1 rfl ?_
  refine p_aloadn_0 ?_
  refine p_iconst (v := nI 0) (by decide) ?_
  refine p_put (zl_r hrc) rfl (by simp) ?_
  refine p_iconst (v := nI 0) (by decide) ?_
  refine p_istoren_2 rfl ?_
  exact lp_43_9 hrc hS N 0 none 0 (by omega) (by decide) (fun b hb => by cases hb)
