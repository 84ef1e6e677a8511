set_option maxRecDepth 100000 in
set_option maxHeartbeats 4000000 in
theorem c_133b {sc : Nat × (Nat → Int32)} {d : Nat} {M : zM} {n : Nat} {P T K : Nat → Nat} {x w : Int32} (hsm : sgM M n P T K) (hx : ¬ (zin x (nI 0) (nI 3) = true ∧ zin w (nI 0) (nI 7) = true)) : zC 47 sc (d + 10) 133 [.ref 33, .int x, .int w] M (some (.int (-1))) (M) := by
  obtain ⟨hth, hm, hn6, hR, hT⟩ := id hsm
  refine z_enter (L := [.ref 33, .int x, .int w, .null, .null, .null]) rfl rfl rfl ?_
  refine zK.blk rfl ?_
  refine p_aloadn_0 ?_
  refine p_iconst (v := nI 0) (by decide) ?_
  refine p_put rfl rfl (by simp) ?_
  rw [zup_id hth]
  refine p_iloadn_1 ?_
  refine p_iconst (v := nI 0) (by decide) ?_
  refine p_iconst (v := nI 3) (by decide) ?_
  refine p_cs3i rfl rfl rfl rfl rfl (c_89) ?_
  refine p_ifB_eq (tgt := 24) (by decide) (fun hc11 => ?_) (fun hc11 => ?_)
  · skip
    refine zK.blk rfl ?_
    refine p_iconst (v := -1) (by decide) ?_
    exact p_iret trivial rfl rfl
  · skip
    refine p_iloadn_2 ?_
    refine p_iconst (v := nI 0) (by decide) ?_
    refine p_bipush (v := nI 7) (by decide) ?_
    refine p_cs3i rfl rfl rfl rfl rfl (c_89) ?_
    refine p_ifB_ne (tgt := 26) (by decide) (fun hc21 => ?_) (fun hc21 => ?_)
    · skip
      exact absurd ⟨hc11, hc21⟩ hx --STOP
    · skip
      refine zK.blk rfl ?_
      refine p_iconst (v := -1) (by decide) ?_
      exact p_iret trivial rfl rfl
set_option maxRecDepth 100000 in
set_option maxHeartbeats 4000000 in
theorem c_135b {sc : Nat × (Nat → Int32)} {d : Nat} {M : zM} {n : Nat} {P T K : Nat → Nat} {x y w : Int32} (hsm : sgM M n P T K) (hx : ¬ (zin x (nI 0) (nI 3) = true ∧ zin y (nI 0) (nI 3) = true ∧ zin w (nI 0) (nI 2) = true)) : zC 47 sc (d + 10) 135 [.ref 33, .int x, .int y, .int w] M (some (.int (-1))) (M) := by
  obtain ⟨hth, hm, hn6, hR, hT⟩ := id hsm
  refine z_enter (L := [.ref 33, .int x, .int y, .int w, .null, .null, .null]) rfl rfl rfl ?_
  refine zK.blk rfl ?_
  refine p_aloadn_0 ?_
  refine p_iconst (v := nI 0) (by decide) ?_
  refine p_put rfl rfl (by simp) ?_
  rw [zup_id hth]
  refine p_iloadn_1 ?_
  refine p_iconst (v := nI 0) (by decide) ?_
  refine p_iconst (v := nI 3) (by decide) ?_
  refine p_cs3i rfl rfl rfl rfl rfl (c_89) ?_
  refine p_ifB_eq (tgt := 32) (by decide) (fun hc11 => ?_) (fun hc11 => ?_)
  · skip
    refine zK.blk rfl ?_
    refine p_iconst (v := -1) (by decide) ?_
    exact p_iret trivial rfl rfl
  · skip
    refine p_iloadn_2 ?_
    refine p_iconst (v := nI 0) (by decide) ?_
    refine p_iconst (v := nI 3) (by decide) ?_
    refine p_cs3i rfl rfl rfl rfl rfl (c_89) ?_
    refine p_ifB_eq (tgt := 32) (by decide) (fun hc20 => ?_) (fun hc20 => ?_)
    · skip
      refine zK.blk rfl ?_
      refine p_iconst (v := -1) (by decide) ?_
      exact p_iret trivial rfl rfl
    · skip
      refine p_iloadn_3 ?_
      refine p_iconst (v := nI 0) (by decide) ?_
      refine p_iconst (v := nI 2) (by decide) ?_
      refine p_cs3i rfl rfl rfl rfl rfl (c_89) ?_
      refine p_ifB_ne (tgt := 34) (by decide) (fun hc29 => ?_) (fun hc29 => ?_)
      · skip
        exact absurd ⟨hc11, hc20, hc29⟩ hx --STOP
      · skip
        refine zK.blk rfl ?_
        refine p_iconst (v := -1) (by decide) ?_
        exact p_iret trivial rfl rfl
theorem zfo_zin (x : Int32) : zfo x = zin x (nI 0) (nI 3) := by
  have h : (¬ nI 4 ≤ x) ↔ (¬ nI 3 < x) := by
    rw [Int32.le_iff_toInt_le, Int32.lt_iff_toInt_lt, nI_toInt (by decide), nI_toInt (by decide)]
    omega
  unfold zfo zin
  rw [show nI 0 = 0 from rfl, decide_eq_decide.mpr h]
section EXN
variable {m : Nat} {P T K : Nat → Nat} {rc N : Nat}
theorem sp_ne {s b dr a x : Nat} {o : Nat → Nat} {M : zM} (h : a < rc ∨ rc + 4 < a ∨ (a = rc ∧ ¬ x = 6 ∧ ¬ x = 7)) : spM rc N m P T K s o b dr M a x = M a x := by
  unfold spM
  rw [jsM_ne (by omega) (by omega)]
  unfold zup
  rcases h with h | h | ⟨rfl, h6, h7⟩
  · rw [if_neg (by omega), if_neg (by omega), if_neg (by omega), if_neg (by omega)]
  · rw [if_neg (by omega), if_neg (by omega), if_neg (by omega), if_neg (by omega)]
  · rw [if_pos rfl, if_neg h7, if_neg (by omega), if_neg (by omega), if_pos rfl, if_neg h6]
theorem ex_ne {a x : Nat} (h : a < rc ∨ rc + 4 < a ∨ (a = rc ∧ ¬ x = 6 ∧ ¬ x = 7)) : ∀ (j s : Nat) (o : Nat → Nat) (M : zM), exM rc N m P T K j s o M a x = M a x := by
  intro j
  induction j with
  | zero => intro s o M; rfl
  | succ j ih =>
    intro s o M
    have hex : exM rc N m P T K (j + 1) s o M = match coN (cM rc M) (sM rc M) N 0 none 0 with
      | (none, dr) => zup M rc 6 (nI dr)
      | (some b, dr) => exM rc N m P T K j (s + 1) (zoo o s b) (spM rc N m P T K s o b dr M) := rfl
    rw [hex]
    rcases coN (cM rc M) (sM rc M) N 0 none 0 with ⟨ob, dr⟩
    cases ob with
    | none =>
      show zup M rc 6 (nI dr) a x = M a x
      unfold zup
      rcases h with h | h | ⟨rfl, h6, h7⟩
      · rw [if_neg (by omega)]
      · rw [if_neg (by omega)]
      · rw [if_pos rfl, if_neg h6]
    | some b =>
      show exM rc N m P T K j (s + 1) (zoo o s b) (spM rc N m P T K s o b dr M) a x = M a x
      rw [ih, sp_ne h]
end EXN
/-- the bound of all least costs -/
def B0 : Nat := 193710240
/-- finds of three places comes to its end, and is right -/
def FD3 : Prop := ∀ (m : Nat) (P T K : Nat → Nat), m ≤ 6 → (∀ i, i < m → P i < 4 ∧ T i < z22 (P i) ∧ 1 ≤ K i ∧ K i ≤ 9) → (∀ i, i < m → ¬ P i = 3) → ∀ f : Nat → Int32, ∃ k, fsOK m P T K 3 (z22 3) k (fi1 3 3 0 (fi0 (z22 3) 0 f)) ∧ FX m P T K 3 B0 (fsR m P T K 3 (z22 3) k (fi1 3 3 0 (fi0 (z22 3) 0 f)))
theorem o3_0 {P : Nat → Nat} : ∀ j i v, zfor (o3F P) j i v = 0 → v = 0 ∧ ∀ k, i ≤ k → k < i + j → ¬ P k = 3 := by
  intro j
  induction j with
  | zero => intro i v h; exact ⟨h, fun k h1 h2 => absurd h2 (by omega)⟩
  | succ j ih =>
    intro i v h
    obtain ⟨h1, h2⟩ := ih (i + 1) (o3F P i v) h
    have h3 : ¬ P i = 3 ∧ v = 0 := by
      unfold o3F at h1
      split at h1
      · omega
      · rename_i e; exact ⟨e, h1⟩
    refine ⟨h3.2, fun k h4 h5 => ?_⟩
    by_cases e : k = i
    · rw [e]; exact h3.1
    · exact h2 k (by omega) (by omega)
theorem finds_all (H3 : FD3) {m q : Nat} {P T K : Nat → Nat} (hm : m ≤ 6) (hR : ∀ i, i < m → P i < 4 ∧ T i < z22 (P i) ∧ 1 ≤ K i ∧ K i ≤ 9) (hq : q < 4) (hb : zbar P m q = false) (f : Nat → Int32) : ∃ k, fsOK m P T K q (z22 q) k (fi1 q q 0 (fi0 (z22 q) 0 f)) ∧ FX m P T K q B0 (fsR m P T K q (z22 q) k (fi1 q q 0 (fi0 (z22 q) 0 f))) := by
  by_cases h : q < 3
  · have hw := fi_W (m := m) (P := P) (T := T) (K := K) (n := q) (f := f)
    obtain ⟨k, h1, h2⟩ := finds_12 h (fun i hi => (hR i hi).2.2.2) hw.1 hw.2
    rw [show gk 16 = B0 by decide] at h2
    exact ⟨k, h1, h2⟩
  · obtain rfl : q = 3 := by omega
    have h0 : o3N P m = 0 := by
      unfold zbar at hb
      simpa using hb
    exact H3 m P T K hm hR (fun i hi => (o3_0 m 0 0 h0).2 i (Nat.zero_le _) (by omega)) f
theorem FX_HL {m q : Nat} {P T K : Nat → Nat} {f : Nat → Int32} (hm : m ≤ 6) (hR : ∀ i, i < m → P i < 4 ∧ T i < z22 (P i) ∧ 1 ≤ K i ∧ K i ≤ 9) (hq : q < 4) (hF : FX m P T K q B0 f) : HL m P T K q B0 := by
  refine ⟨by decide, hm, hq, hR, fun t v hd => ?_⟩
  rcases hF t (Dv_lt hq hd) with ⟨_, h⟩ | ⟨w, _, h1, h2⟩
  · exact absurd hd (h v)
  · exact ⟨w, h1, h2⟩
/-- class and reference agree -/
theorem RX_AG {m q rc N : Nat} {P T K : Nat → Nat} {f : Nat → Int32} {M : zM} (hN : N = z22 q) (hF : FX m P T K q B0 f) (hR : RX m P T K q B0 rc N M) : AG N (cM rc M) f ∧ ∀ t, t < N → M (rc + 1) t = nI (cM rc M t) ∧ cM rc M t ≤ 1073741824 := by
  have hB : B0 = 193710240 := rfl
  have key : ∀ t, t < N → (M (rc + 1) t = nI 1073741824 ∧ cM rc M t = 1073741824 ∧ f t = -9) ∨ ∃ v, M (rc + 1) t = nI v ∧ cM rc M t = v ∧ v ≤ B0 ∧ f t = nI v := fun t ht => by
    rcases hR.1 t ht with ⟨h1, _, h2⟩ | ⟨v, h1, h2, h3, _⟩
    · refine Or.inl ⟨h1, by unfold cM; rw [h1, nI_clamp (by decide)], ?_⟩
      rcases hF t (by omega) with ⟨h4, _⟩ | ⟨w, _, _, h5⟩
      · exact h4
      · exact absurd h5.1 (h2 w)
    · refine Or.inr ⟨v, h1, by unfold cM; rw [h1, nI_clamp (by omega)], h2, ?_⟩
      rcases hF t (by omega) with ⟨_, h4⟩ | ⟨w, h4, _, h5⟩
      · exact absurd h3.1 (h4 v)
      · rw [h4, LE_un h3 h5]
  refine ⟨fun t ht => ?_, fun t ht => ?_⟩
  · rcases key t ht with ⟨_, h2, h3⟩ | ⟨v, _, h2, h3, h4⟩
    · exact Or.inl ⟨h2, h3⟩
    · exact Or.inr ⟨by omega, by rw [h2]; exact h4⟩
  · rcases key t ht with ⟨h1, h2, _⟩ | ⟨v, h1, h2, h3, _⟩
    · rw [h2]; exact ⟨h1, Nat.le_refl _⟩
    · rw [h2]; exact ⟨h1, by omega⟩
