def cM (rc : Nat) (M : zM) (t : Nat) : Nat := (M (rc + 1) t).toNatClampNeg
def sM (rc : Nat) (M : zM) (t : Nat) : Nat := (M (rc + 3) t).toNatClampNeg
/-- joins of the table b with signs i .. i + j - 1 -/
def jsM (rc N s : Nat) (o : Nat → Nat) (D : Int32) (P T K : Nat → Nat) (b : Nat) : Nat → Nat → zM → zM
  | 0, _, M => M
  | j + 1, i, M => jsM rc N s o D P T K b j (i + 1) (jnM rc N s o D (P i) (K i) (T i * zrep (P i)) i b (P i) 0 M)
def zoo (o : Nat → Nat) (s b : Nat) : Nat → Nat := fun k => if k = s then b else o k
/-- the table b is settled, as number s, then joined -/
def spM (rc N m : Nat) (P T K : Nat → Nat) (s : Nat) (o : Nat → Nat) (b dr : Nat) (M : zM) : zM :=
  jsM rc N (s + 1) (zoo o s b) (nI dr) P T K b m 0 (zup (zup (zup (zup M rc 6 (nI dr)) (rc + 3) b (nI 1)) (rc + 4) s (nI b)) rc 7 (nI (s + 1)))
def exM (rc N m : Nat) (P T K : Nat → Nat) : Nat → Nat → (Nat → Nat) → zM → zM
  | 0, _, _, M => M
  | j + 1, s, o, M => match coN (cM rc M) (sM rc M) N 0 none 0 with
    | (none, dr) => zup M rc 6 (nI dr)
    | (some b, dr) => exM rc N m P T K j (s + 1) (zoo o s b) (spM rc N m P T K s o b dr M)
/-- all costs stay numbers along the way -/
def exOK (rc N m : Nat) (P T K : Nat → Nat) : Nat → Nat → (Nat → Nat) → zM → Prop
  | 0, _, _, _ => True
  | j + 1, s, o, M => rcS M rc N (cM rc M) (sM rc M) ∧ match coN (cM rc M) (sM rc M) N 0 none 0 with
    | (none, _) => True
    | (some b, dr) => exOK rc N m P T K j (s + 1) (zoo o s b) (spM rc N m P T K s o b dr M)
theorem coN_lt {c st : Nat → Nat} {N : Nat} : ∀ j i ob dr, i + j = N → (∀ b, ob = some b → b < N) → ∀ b, (coN c st j i ob dr).1 = some b → b < N := by
  intro j
  induction j with
  | zero => intro i ob dr h hob b hb; exact hob b hb
  | succ j ih =>
    intro i ob dr h hob b hb
    refine ih (i + 1) (coB c st i ob) (coD c i dr) (by omega) (fun b hb => ?_) b hb
    unfold coB at hb
    split at hb
    · exact hob b hb
    · split at hb
      · exact hob b hb
      · cases ob with
        | none => cases hb; omega
        | some x =>
          dsimp only at hb
          split at hb
          · cases hb; exact hob _ rfl
          · cases hb; omega
theorem jsM_ne {rc N s : Nat} {o : Nat → Nat} {D : Int32} {P T K : Nat → Nat} {b a : Nat} (h1 : ¬ a = rc + 1) (h2 : ¬ a = rc + 2) (x : Nat) : ∀ j i M, jsM rc N s o D P T K b j i M a x = M a x := by
  intro j
  induction j with
  | zero => intro i M; rfl
  | succ j ih =>
    intro i M
    show jsM rc N s o D P T K b j (i + 1) _ a x = _
    rw [ih, jnM_ne h1 h2]
theorem jsM_rcI {rc N s : Nat} {o : Nat → Nat} {D : Int32} {P T K : Nat → Nat} {b : Nat} : ∀ j i M, rcI M rc N s o D → rcI (jsM rc N s o D P T K b j i M) rc N s o D := by
  intro j
  induction j with
  | zero => intro i M h; exact h
  | succ j ih => intro i M h; exact ih _ _ (jnM_rcI _ _ _ h)
theorem sp_rcI {rc n N s : Nat} {o : Nat → Nat} {D : Int32} {b dr : Nat} {M : zM} (hrc : zrc rc n N) (h : rcI M rc N s o D) (hb : b < N) (hs : s < N) : rcI (zup (zup (zup (zup M rc 6 (nI dr)) (rc + 3) b (nI 1)) (rc + 4) s (nI b)) rc 7 (nI (s + 1))) rc N (s + 1) (zoo o s b) (nI dr) := by
  obtain ⟨h1, h2, h3, h4, h5⟩ := h
  refine ⟨by simp [zup]; exact h1, by simp [zup], by omega, by simp [zup], fun k hk => ?_⟩
  unfold zoo
  by_cases e : k = s
  · subst e; rw [if_pos rfl]; exact ⟨by simp [zup], hb⟩
  · rw [if_neg e]
    have := h5 k (by omega)
    exact ⟨by simp [zup, e]; exact this.1, this.2⟩
set_option maxRecDepth 100000 in
set_option maxHeartbeats 4000000 in
theorem lp_41_57 {sc : Nat × (Nat → Int32)} {d : Nat} {r : Option Value} {M' : zM} {rc n N s m s0 b : Nat} {o : Nat → Nat} {D : Int32} {P T K : Nat → Nat} (hrc : zrc rc n N) (hb : b < N) : ∀ (j i : Nat) (M : zM), rcI M rc N s o D → sgC M m P T K → i + j = m → zK 47 sc (zC 47 sc (d + 5)) 41 r M' 86 [.ref rc, .ref 1, .int (nI s0), .int (nI b), .int (nI m)] [] (jsM rc N s o D P T K b j i M) → zK 47 sc (zC 47 sc (d + 5)) 41 r M' 57 [.ref rc, .ref 1, .int (nI s0), .int (nI b), .int (nI i)] [] M := by
  intro j
  induction j with
  | zero =>
    intro i M hI hsg hj hk
    obtain ⟨hn6, hn, hR, hS⟩ := id hsg
    have hin : i = m := by omega
    subst hin
    refine zK.blk rfl ?_
    refine p_iload_4 ?_
    refine p_aloadn_1 ?_
    refine p_geti rfl rfl (hn) ?_
    refine p_icmpN_ge (tgt := 86) (by decide) (by omega) (by omega) (fun hc63 => ?_) (fun hc63 => ?_)
    · skip
      exact hk
    · skip
      exact absurd hc63 (by omega) --STOP
  | succ j ih =>
    intro i M hI hsg hj hk
    obtain ⟨hn6, hn, hR, hS⟩ := id hsg
    have hP := hR i (by omega)
    have hw := zwide_lt (P i) hP.1 (T i) hP.2.1
    have hr9 := zrc_ge hrc
    refine zK.blk rfl ?_
    refine p_iload_4 ?_
    refine p_aloadn_1 ?_
    refine p_geti rfl rfl (hn) ?_
    refine p_icmpN_ge (tgt := 86) (by decide) (by omega) (by omega) (fun hc63 => ?_) (fun hc63 => ?_)
    · skip
      exact absurd hc63 (by omega) --STOP
    · skip
      refine p_aloadn_0 ?_
      refine p_aloadn_1 ?_
      refine p_getr rfl rfl ?_
      refine p_iload_4 ?_
      refine p_aald rfl (by omega) (by decide) (zget_sg (by omega)) ?_
      refine p_iload_4 ?_
      refine p_iloadn_3 ?_
      refine p_cv3v rfl rfl rfl rfl (zl_r hrc) (c_44 hrc hI (by omega) (hS _ (by omega)).1 (hS _ (by omega)).2.2.1 (hS _ (by omega)).2.2.2.1 hP.1 (by omega) hb) ?_
      refine p_iinc_4 (zN_inc _ 1) rfl ?_
      refine p_goto (tgt := 57) (by decide) ?_
      exact ih (i + 1) _ (jnM_rcI _ _ _ hI) (sg_frame (fun a x h => jnM_ne (by omega) (by omega) x _ _ _) hsg) (by omega) hk
set_option maxRecDepth 100000 in
set_option maxHeartbeats 4000000 in
theorem lp_41_7 {sc : Nat × (Nat → Int32)} {d : Nat} {rc n N m : Nat} {P T K : Nat → Nat} (hrc : zrc rc n N) : ∀ (j s : Nat) (o : Nat → Nat) (M : zM) (D : Int32), rcI M rc N s o D → sgC M m P T K → exOK rc N m P T K j s o M → s + j = N → zK 47 sc (zC 47 sc (d + 5)) 41 none (zup (exM rc N m P T K j s o M) rc 8 (nI 1)) 7 [.ref rc, .ref 1, .int (nI s), .null, .null] [] M := by
  intro j
  induction j with
  | zero =>
    intro s o M D hI hsg hok hj
    have hN := zl_N hrc
    have hF := hI.1
    refine zK.blk rfl ?_
    refine p_iloadn_2 ?_
    refine p_aloadn_0 ?_
    refine p_geti (zl_r hrc) rfl (hF) ?_
    refine p_icmpN_gt (tgt := 92) (by decide) (by omega) (by omega) (fun hc12 => ?_) (fun hc12 => ?_)
    · skip
      refine zK.blk rfl ?_
      refine p_aloadn_0 ?_
      refine p_iconst (v := nI 1) (by decide) ?_
      refine p_put (zl_r hrc) rfl (by decide) ?_
      exact p_vret trivial rfl rfl
    · skip
      exact absurd hc12 (by omega) --STOP
  | succ j ih =>
    intro s o M D hI hsg hok hj
    have hN := zl_N hrc
    have hF := hI.1
    have hr9 := zrc_ge hrc
    obtain ⟨hS0, hnx⟩ := hok
    have hcall := c_43 (sc := sc) (d := d + 4) hrc hS0
    have hlt := coN_lt (c := cM rc M) (st := sM rc M) (N := N) N 0 none 0 (by omega) (fun b hb => by cases hb)
    have hex : exM rc N m P T K (j + 1) s o M = match coN (cM rc M) (sM rc M) N 0 none 0 with
      | (none, dr) => zup M rc 6 (nI dr)
      | (some b, dr) => exM rc N m P T K j (s + 1) (zoo o s b) (spM rc N m P T K s o b dr M) := rfl
    rw [hex]
    rcases hco : coN (cM rc M) (sM rc M) N 0 none 0 with ⟨ob, dr⟩
    rw [hco] at hcall hnx hlt
    cases ob with
    | none =>
      dsimp only at hcall ⊢
      refine zK.blk rfl ?_
      refine p_iloadn_2 ?_
      refine p_aloadn_0 ?_
      refine p_geti (zl_r hrc) rfl (hF) ?_
      refine p_icmpN_gt (tgt := 92) (by decide) (by omega) (by omega) (fun hc12 => ?_) (fun hc12 => ?_)
      · skip
        exact absurd hc12 (by omega) --STOP
      · skip
        refine p_aloadn_0 ?_
        refine p_cv0i rfl rfl rfl rfl (zl_r hrc) (hcall) ?_
        refine p_istoren_3 rfl ?_
        refine p_iloadn_3 ?_
        refine p_if_ge (tgt := 27) (by decide) (fun hc21 => ?_) (fun hc21 => ?_)
        · skip
          exact absurd hc21 (by decide) --STOP
        · skip
          refine p_goto (tgt := 92) (by decide) ?_
          refine zK.blk rfl ?_
          refine p_aloadn_0 ?_
          refine p_iconst (v := nI 1) (by decide) ?_
          refine p_put (zl_r hrc) rfl (by decide) ?_
          exact p_vret trivial rfl rfl
    | some b =>
      dsimp only at hcall hnx hlt ⊢
      have hb := hlt b rfl
      refine zK.blk rfl ?_
      refine p_iloadn_2 ?_
      refine p_aloadn_0 ?_
      refine p_geti (zl_r hrc) rfl (hF) ?_
      refine p_icmpN_gt (tgt := 92) (by decide) (by omega) (by omega) (fun hc12 => ?_) (fun hc12 => ?_)
      · skip
        exact absurd hc12 (by omega) --STOP
      · skip
        refine p_aloadn_0 ?_
        refine p_cv0i rfl rfl rfl rfl (zl_r hrc) (hcall) ?_
        refine p_istoren_3 rfl ?_
        refine p_iloadn_3 ?_
        refine p_if_ge (tgt := 27) (by decide) (fun hc21 => ?_) (fun hc21 => ?_)
        · skip
          rw [show zob (some b) = nI b from rfl]
          refine zK.blk rfl ?_
          refine p_aloadn_0 ?_
          refine p_getr (zl_r hrc) rfl ?_
          refine p_iloadn_3 ?_
          refine p_iconst (v := nI 1) (by decide) ?_
          refine p_zast (v := nI 1) (zl_a4 hrc) (by omega) (zl_n hrc) (by decide) ?_
          refine p_aloadn_0 ?_
          refine p_getr (zl_r hrc) rfl ?_
          refine p_aloadn_0 ?_
          refine p_geti (v := nI s) (zl_r hrc) rfl (by simp [zup]; exact hI.2.1) ?_
          refine p_iloadn_3 ?_
          refine p_iast (zl_a5 hrc) (by omega) (zl_n hrc) ?_
          refine p_aloadn_0 ?_
          refine p_dupa ?_
          refine p_geti (v := nI s) (zl_r hrc) rfl (by simp [zup]; exact hI.2.1) ?_
          refine p_iconst (v := nI 1) (by decide) ?_
          refine p_iaddN ?_
          refine p_put (zl_r hrc) rfl (by simp) ?_
          refine p_iconst (v := nI 0) (by decide) ?_
          refine p_istore_4 rfl ?_
          refine lp_41_57 (s := s + 1) (o := zoo o s b) (D := nI dr) hrc hb m 0 _ (sp_rcI hrc hI hb (by omega)) (sg_frame (fun a x h => by unfold zup; rw [if_neg (by omega), if_neg (by omega), if_neg (by omega), if_neg (by omega)]) hsg) (by omega) ?_
          refine zK.blk rfl ?_
          refine p_iinc_2 (zN_inc _ 1) rfl ?_
          refine p_goto (tgt := 7) (by decide) ?_
          refine zK.forget _ ?_ (ih (s + 1) (zoo o s b) _ (nI dr) (jsM_rcI _ _ _ (sp_rcI hrc hI hb (by omega))) (sg_frame (fun a x h => by unfold spM; rw [jsM_ne (by omega) (by omega)]; unfold zup; rw [if_neg (by omega), if_neg (by omega), if_neg (by omega), if_neg (by omega)]) hsg) hnx (by omega))
          exact ⟨Or.inl rfl, Or.inl rfl, Or.inl rfl, Or.inr rfl, Or.inr rfl, trivial⟩
        · skip
          exact absurd (nI_pos' (by omega)) hc21 --STOP
theorem bgM_ne {rc n N m : Nat} {P T K : Nat → Nat} {M : zM} {a : Nat} (h1 : ¬ a = rc + 1) (h2 : ¬ a = rc + 2) (h3 : ¬ a = rc + 3) (h0 : ¬ a = rc) (b : Nat) : bgM rc n N m P T K M a b = M a b := by
  unfold bgM
  rw [bg3_ne h1 h2, bg2_ne h1, bgF_ne h1 h2 h3]
  unfold zup
  rw [if_neg h0]
theorem bgM_rc {rc n N m : Nat} {P T K : Nat → Nat} {M : zM} (b : Nat) : bgM rc n N m P T K M rc b = if b = 7 then nI 0 else M rc b := by
  unfold bgM
  rw [bg3_ne (by omega) (by omega), bg2_ne (by omega), bgF_ne (by omega) (by omega) (by omega)]
  unfold zup
  rw [if_pos rfl]
set_option maxRecDepth 100000 in
set_option maxHeartbeats 4000000 in
theorem c_41 {sc : Nat × (Nat → Int32)} {d : Nat} {M : zM} {rc n N m : Nat} {P T K : Nat → Nat} (hrc : zrc rc n N) (hF : M rc 1 = nI (N - 1)) (h0 : M rc 0 = nI n) (hsg : sgC M m P T K) (hok : exOK rc N m P T K N 0 (fun _ => 0) (bgM rc n N m P T K M)) : zC 47 sc (d + 6) 41 [.ref rc, .ref 1] M (none) (zup (exM rc N m P T K N 0 (fun _ => 0) (bgM rc n N m P T K M)) rc 8 (nI 1)) := by
  have hN := zl_N hrc
  have hr9 := zrc_ge hrc
  refine z_enter (L := [.ref rc, .ref 1, .null, .null, .null]) rfl rfl rfl ?_
  refine zK.blk rfl ?_
  refine p_aloadn_0 ?_
  refine p_aloadn_1 ?_
  refine p_cv1v rfl rfl rfl rfl (zl_r hrc) (c_42 hrc hF h0 hsg) ?_
  refine p_iconst (v := nI 0) (by decide) ?_
  refine p_istoren_2 rfl ?_
  exact lp_41_7 hrc N 0 _ _ (M rc 6) ⟨by rw [bgM_rc, if_neg (by decide)]; exact hF, by rw [bgM_rc, if_pos rfl], by omega, by rw [bgM_rc, if_neg (by decide)], fun k hk => absurd hk (by omega)⟩ (sg_frame (fun a b h => bgM_ne (by omega) (by omega) (by omega) (by omega) b) hsg) hok (by omega)
