theorem pq_ok {len : Nat} {Y : Nat → Nat} {nx : zS → Option Nat × zS} {w D : Nat} (hD : D ≤ 8) (hnx : ∀ s : zS, okS len s → okS len (nx s).2 ∧ ∀ t, (nx s).1 = some t → t < 256 ∧ (nx s).2.2.2.1 ≤ D) : ∀ (j q a b c dp : Nat) (s : zS), okS len s → dp ≤ D → okS len (pqF nx (zlt len Y) w j q a b c dp s).2 ∧ ∀ t, (pqF nx (zlt len Y) w j q a b c dp s).1 = some t → t < 256 ∧ (pqF nx (zlt len Y) w j q a b c dp s).2.2.2.1 ≤ D + 1 := by
  intro j
  induction j with
  | zero =>
    intro q a b c dp s hs hdp
    obtain ⟨p, co, de, le⟩ := s
    obtain ⟨hp1, hp2, hp3⟩ := id hs
    dsimp only at hp1 hp2 hp3
    by_cases h : zlt len Y p = 41
    · rw [pl_0 h]
      have hl := zlt_y (by decide) h
      refine ⟨⟨by show p + 1 ≤ len; omega, hp2, by show dp + 1 ≤ 9; omega⟩, fun t ht => ?_⟩
      cases ht
      exact ⟨Nat.lt_of_le_of_lt Nat.and_le_right (by decide), by show dp + 1 ≤ D + 1; omega⟩
    · rw [pl_0n h]
      exact ⟨hs, fun t ht => by cases ht⟩
  | succ j ih =>
    intro q a b c dp s hs hdp
    obtain ⟨p, co, de, le⟩ := s
    obtain ⟨hp1, hp2, hp3⟩ := id hs
    dsimp only at hp1 hp2 hp3
    have key : ∀ s1 : zS, okS len s1 → okS len (pqG nx (zlt len Y) w j q a b c dp s1).2 ∧ ∀ t, (pqG nx (zlt len Y) w j q a b c dp s1).1 = some t → t < 256 ∧ (pqG nx (zlt len Y) w j q a b c dp s1).2.2.2.1 ≤ D + 1 := by
      intro s1 hs1
      have h1 := hnx s1 hs1
      rcases hr : nx s1 with ⟨ot, s2⟩
      rw [hr] at h1
      cases ot with
      | none => rw [pl_gn hr]; exact ⟨h1.1, fun t ht => by cases ht⟩
      | some t =>
        rw [pl_gy hr]
        have h2 := (h1.2 t rfl).2
        exact ih _ _ _ _ _ _ h1.1 (by dsimp only at h2; split <;> omega)
    by_cases hq : q = 0
    · subst hq
      rw [pl_g0]
      exact key _ hs
    · by_cases h : zlt len Y p = 44
      · rw [pl_gs (by omega) h]
        have hl := zlt_y (by decide) h
        exact key _ ⟨by show p + 1 ≤ len; omega, hp2, hp3⟩
      · rw [pl_c ⟨by omega, h⟩]
        exact ⟨hs, fun t ht => by cases ht⟩
theorem zpl_lt (p : Nat) : zpl p < 256 := by unfold zpl; split <;> (try split) <;> decide
theorem pnF_ok {len m : Nat} {Y P T K : Nat → Nat} {pt : Nat → zS → Option Nat × zS} {D : Nat} (hD : 1 ≤ D) (hR : ∀ i, i < m → P i < 4 ∧ T i < z22 (P i) ∧ 1 ≤ K i ∧ K i ≤ 9) (hpt : ∀ i s, i < m → okS len s → okS len (pt i s).2 ∧ ∀ t, (pt i s).1 = some t → t < 256 ∧ (pt i s).2.2.2.1 ≤ D) (s : zS) (hs : okS len s) : okS len (pnF (zlt len Y) m P T K pt s).2 ∧ ∀ t, (pnF (zlt len Y) m P T K pt s).1 = some t → t < 256 ∧ (pnF (zlt len Y) m P T K pt s).2.2.2.1 ≤ D := by
  obtain ⟨p, co, de, le⟩ := s
  obtain ⟨hp1, hp2, hp3⟩ := id hs
  dsimp only at hp1 hp2 hp3
  by_cases h30 : 30 ≤ le
  · rw [pn_30 h30]
    exact ⟨hs, fun t ht => by cases ht⟩
  · by_cases h1 : 120 ≤ zlt len Y p ∧ zlt len Y p ≤ 122
    · rw [pn_pl h30 h1]
      have hl := zlt_y (by omega) (rfl : zlt len Y p = zlt len Y p)
      refine ⟨⟨by show p + 1 ≤ len; omega, by show le + 1 ≤ 30; omega, by show 0 ≤ 9; omega⟩, fun t ht => ?_⟩
      have ht2 : zpl (zlt len Y p - 120) = t := Option.some.inj ht
      rw [← ht2]
      exact ⟨zpl_lt _, Nat.zero_le _⟩
    · by_cases h2 : 112 ≤ zlt len Y p ∧ zlt len Y p < 112 + m
      · have hl := zlt_y (by omega) (rfl : zlt len Y p = zlt len Y p)
        have hPi := hR (zlt len Y p - 112) (by omega)
        by_cases h3 : P (zlt len Y p - 112) = 0
        · rw [pn_0 h30 h1 h2 h3]
          refine ⟨⟨by show p + 1 ≤ len; omega, by show le + 1 ≤ 30; omega, by show 1 ≤ 9; omega⟩, fun t ht => ?_⟩
          cases ht
          exact ⟨zwide_lt _ hPi.1 _ hPi.2.1, hD⟩
        · rw [pn_pt h30 h1 h2 h3]
          exact hpt _ _ (by omega) ⟨by show p + 1 ≤ len; omega, by show le + 1 ≤ 30; omega, hp3⟩
      · rw [pn_no h1 h2]
        exact ⟨hs, fun t ht => by cases ht⟩
theorem pN_ok {len m : Nat} {Y P T K : Nat → Nat} (hR : ∀ i, i < m → P i < 4 ∧ T i < z22 (P i) ∧ 1 ≤ K i ∧ K i ≤ 9) : ∀ (f : Nat) (s : zS), f ≤ 8 → okS len s → okS len (pN (zlt len Y) m P T K f s).2 ∧ ∀ t, (pN (zlt len Y) m P T K f s).1 = some t → t < 256 ∧ (pN (zlt len Y) m P T K f s).2.2.2.1 ≤ f + 1 := by
  intro f
  induction f with
  | zero =>
    intro s _ hs
    exact pnF_ok (D := 1) (by decide) hR (fun i s _ hs => ⟨hs, fun t ht => by cases ht⟩) s hs
  | succ f ih =>
    intro s hf hs
    refine pnF_ok (D := f + 2) (by omega) hR (fun i s hi hs => ?_) s hs
    obtain ⟨p, co, de, le⟩ := s
    obtain ⟨hp1, hp2, hp3⟩ := id hs
    dsimp only at hp1 hp2 hp3
    by_cases h40 : zlt len Y p = 40
    · have hl := zlt_y (by decide) h40
      rw [show ptF (pN (zlt len Y) m P T K f) (zlt len Y) (P i) (T i * zrep (P i)) (p, co, de, le) = pqF (pN (zlt len Y) m P T K f) (zlt len Y) (T i * zrep (P i)) (P i) 0 0 0 0 0 (p + 1, co, de, le) from if_pos h40]
      exact pq_ok (D := f + 1) (by omega) (fun s hs => ih s (by omega) hs) (P i) 0 0 0 0 0 _ ⟨by show p + 1 ≤ len; omega, hp2, hp3⟩ (by omega)
    · rw [show ptF (pN (zlt len Y) m P T K f) (zlt len Y) (P i) (T i * zrep (P i)) (p, co, de, le) = (none, (p, co, de, le)) from if_neg h40]
      exact ⟨hs, fun t ht => by cases ht⟩
theorem c_38 {sc : Nat × (Nat → Int32)} {M : zM} {len m : Nat} {Y P T K : Nat → Nat} (hsg : sgC M m P T K) (htx : txC M len Y) : ∀ (f d o : Nat) (s : zS), f + o = 8 → okS len s → zC 47 sc (d + (2 * f + 5)) 38 [.ref 26, .int (nI o)] (rdQ M s) (some (.int (zoi (pN (zlt len Y) m P T K f s).1))) (rdQ M (pN (zlt len Y) m P T K f s).2) := by
  intro f
  induction f with
  | zero =>
    intro d o s hf hs
    obtain rfl : o = 8 := by omega
    exact st_38 (pt := fun _ s => (none, s)) hsg htx (fun i s hi h0 hs => st_39_0) hs
  | succ f ih =>
    intro d o s hf hs
    rw [show d + (2 * (f + 1) + 5) = (d + (2 * f + 2)) + 5 by omega]
    refine st_38 (pt := fun i s => ptF (pN (zlt len Y) m P T K f) (zlt len Y) (P i) (T i * zrep (P i)) s) hsg htx (fun i s hi h0 hs => ?_) hs
    refine st_39 hsg htx hi (by omega) (fun s hs => ?_) (fun s hs => ⟨(pN_ok hsg.2.2.1 f s (by omega) hs).1, fun t ht => ((pN_ok hsg.2.2.1 f s (by omega) hs).2 t ht).1⟩) hs
    rw [show d + (2 * f + 2) + 3 = d + (2 * f + 5) by omega]
    exact ih d (o + 1) s (by omega) hs
/-- the reader over the whole text -/
def rdR (len m : Nat) (Y P T K : Nat → Nat) : Option Nat × zS := pN (zlt len Y) m P T K 8 (0, 0, 0, 0)
def rdV (M : zM) (r : Option Nat × zS) : zM := zup (rdQ M r.2) 26 3 (zoi r.1)
def rdB (len : Nat) (r : Option Nat × zS) : Bool := r.1.isSome && decide (r.2.1 = len)
set_option maxRecDepth 100000 in
set_option maxHeartbeats 4000000 in
theorem c_37 {sc : Nat × (Nat → Int32)} {d : Nat} {M : zM} {len m : Nat} {Y P T K : Nat → Nat} (hsg : sgC M m P T K) (htx : txC M len Y) : zC 47 sc (d + 22) 37 [.ref 26] M (some (.int (zB (rdB len (rdR len m Y P T K))))) (rdV M (rdR len m Y P T K)) := by
  obtain ⟨hln, hl8, hB⟩ := id htx
  have hcall := c_38 (sc := sc) hsg htx 8 d 0 (0, 0, 0, 0) rfl ⟨Nat.zero_le _, Nat.zero_le _, Nat.zero_le _⟩
  have hok := pN_ok (len := len) (Y := Y) hsg.2.2.1 8 (0, 0, 0, 0) (Nat.le_refl _) ⟨Nat.zero_le _, Nat.zero_le _, Nat.zero_le _⟩
  rw [show pN (zlt len Y) m P T K 8 (0, 0, 0, 0) = rdR len m Y P T K from rfl] at hcall hok
  rcases hr : rdR len m Y P T K with ⟨ot, s2⟩
  rw [hr] at hcall hok
  have hp80 : s2.1 ≤ len := hok.1.1
  unfold rdB rdV
  refine z_enter (L := [.ref 26]) rfl rfl rfl ?_
  cases ot with
  | none =>
    refine zK.blk rfl ?_
    refine p_aloadn_0 ?_
    refine p_iconst (v := nI 0) (by decide) ?_
    refine p_put rfl rfl (by simp) ?_
    refine p_aloadn_0 ?_
    refine p_iconst (v := nI 0) (by decide) ?_
    refine p_put rfl rfl (by simp) ?_
    refine p_aloadn_0 ?_
    refine p_iconst (v := nI 0) (by decide) ?_
    refine p_put rfl rfl (by simp) ?_
    refine p_aloadn_0 ?_
    refine p_iconst (v := nI 0) (by decide) ?_
    refine p_put rfl rfl (by simp) ?_
    refine p_aloadn_0 ?_
    refine p_aloadn_0 ?_
    refine p_iconst (v := nI 0) (by decide) ?_
    rw [rdM_all]
    refine p_cv1i rfl rfl rfl rfl rfl hcall ?_
    refine p_put rfl rfl (by simp) ?_
    refine p_aloadn_0 ?_
    refine p_geti (v := -1) rfl rfl (by unfold zup; rw [if_pos rfl, if_pos rfl]; rfl) ?_
    refine p_iconst (v := -1) (by decide) ?_
    refine p_icmp_eq (tgt := 55) (by decide) (fun hc34 => ?_) (fun hc34 => ?_)
    · skip
      refine zK.blk rfl ?_
      refine p_iconst (v := nI 0) (by decide) ?_
      refine zK.blk rfl ?_
      exact p_iret (Or.inl rfl) rfl rfl
    · skip
      exact absurd rfl hc34 --STOP
  | some t =>
    have ht256 := (hok.2 t rfl).1
    refine zK.blk rfl ?_
    refine p_aloadn_0 ?_
    refine p_iconst (v := nI 0) (by decide) ?_
    refine p_put rfl rfl (by simp) ?_
    refine p_aloadn_0 ?_
    refine p_iconst (v := nI 0) (by decide) ?_
    refine p_put rfl rfl (by simp) ?_
    refine p_aloadn_0 ?_
    refine p_iconst (v := nI 0) (by decide) ?_
    refine p_put rfl rfl (by simp) ?_
    refine p_aloadn_0 ?_
    refine p_iconst (v := nI 0) (by decide) ?_
    refine p_put rfl rfl (by simp) ?_
    refine p_aloadn_0 ?_
    refine p_aloadn_0 ?_
    refine p_iconst (v := nI 0) (by decide) ?_
    rw [rdM_all]
    refine p_cv1i rfl rfl rfl rfl rfl hcall ?_
    refine p_put rfl rfl (by simp) ?_
    refine p_aloadn_0 ?_
    refine p_geti (v := nI t) rfl rfl (by unfold zup; rw [if_pos rfl, if_pos rfl]; rfl) ?_
    refine p_iconst (v := -1) (by decide) ?_
    refine p_icmp_eq (tgt := 55) (by decide) (fun hc34 => ?_) (fun hc34 => ?_)
    · skip
      exact absurd hc34 (fun z => nI_nm1 (show t < 2 ^ 31 by omega) z) --STOP
    · skip
      refine p_aloadn_0 ?_
      refine p_geti (v := nI s2.1) rfl rfl rfl ?_
      refine p_aloadn_0 ?_
      refine p_getr rfl rfl ?_
      refine p_geti (v := nI len) rfl rfl hln ?_
      refine p_icmpN_ne (tgt := 55) (by decide) (by omega) (by omega) (fun hc48 => ?_) (fun hc48 => ?_)
      · skip
        rw [show decide (s2.1 = len) = false from decide_eq_false hc48]
        refine zK.blk rfl ?_
        refine p_iconst (v := nI 0) (by decide) ?_
        refine zK.blk rfl ?_
        exact p_iret (by first | exact Or.inl rfl | exact Or.inr rfl) rfl rfl
      · skip
        rw [show decide (s2.1 = len) = true from decide_eq_true (Classical.not_not.mp hc48)]
        refine p_iconst (v := nI 1) (by decide) ?_
        refine p_goto (tgt := 56) (by decide) ?_
        refine zK.blk rfl ?_
        exact p_iret (by first | exact Or.inl rfl | exact Or.inr rfl) rfl rfl
/-- read of the class -/
def rdW (M : zM) (i : Nat) (r : Option Nat × zS) : zM := zup (zup (zup (zup (zup (rdV M r) (28 + i) 0 (zoi r.1)) (28 + i) 1 (nI r.2.2.1)) (28 + i) 2 (nI r.2.2.2.1)) (28 + i) 3 (nI r.2.2.2.2)) 24 1 (nI 0)
set_option maxRecDepth 100000 in
set_option maxHeartbeats 4000000 in
theorem c_76f {sc : Nat × (Nat → Int32)} {d : Nat} {M : zM} {len m : Nat} {Y P T K : Nat → Nat} {i : Nat} (hsg : sgC M m P T K) (htx : txC M len Y) (hi : i < 4) (hb : rdB len (rdR len m Y P T K) = false) : zC 47 sc (d + 23) 76 [.ref 0, .int (nI i)] M (some (.int (-10 - nI (rdR len m Y P T K).2.1))) (rdV M (rdR len m Y P T K)) := by
  have hz : zfo (nI i) = true := by unfold zfo; rw [decide_eq_true (nI_pos (by omega)), decide_eq_true (nI_ge hi (by decide))]; rfl
  have hcall := c_37 (sc := sc) (d := d) hsg htx
  rw [hb] at hcall
  refine z_enter (L := [.ref 0, .int (nI i), .null]) rfl rfl rfl ?_
  refine zK.blk rfl ?_
  refine p_iloadn_1 ?_
  refine p_cs1i rfl rfl rfl rfl rfl (c_84) ?_
  refine p_ifB_ne (tgt := 9) (by decide) (fun hc4 => ?_) (fun hc4 => ?_)
  · skip
    refine zK.blk rfl ?_
    refine p_aloadn_0 ?_
    refine p_getr rfl rfl ?_
    refine p_cv0i rfl rfl rfl rfl rfl (hcall) ?_
    refine p_ifB_ne (tgt := 30) (by decide) (fun hc16 => ?_) (fun hc16 => ?_)
    · skip
      cases hc16 --STOP
    · skip
      refine p_bipush (v := -10) (by decide) ?_
      refine p_aloadn_0 ?_
      refine p_getr rfl rfl ?_
      refine p_geti (v := nI (rdR len m Y P T K).2.1) rfl rfl rfl ?_
      refine p_isub ?_
      exact p_iret trivial rfl rfl
  · skip
    rw [hz] at hc4; cases hc4 --STOP
set_option maxRecDepth 100000 in
set_option maxHeartbeats 4000000 in
theorem c_76y {sc : Nat × (Nat → Int32)} {d : Nat} {M : zM} {len m : Nat} {Y P T K : Nat → Nat} {i : Nat} (hsg : sgC M m P T K) (htx : txC M len Y) (hi : i < 4) (hb : rdB len (rdR len m Y P T K) = true) : zC 47 sc (d + 23) 76 [.ref 0, .int (nI i)] M (some (.int (nI (rdR len m Y P T K).2.2.2.2))) (rdW M i (rdR len m Y P T K)) := by
  have hz : zfo (nI i) = true := by unfold zfo; rw [decide_eq_true (nI_pos (by omega)), decide_eq_true (nI_ge hi (by decide))]; rfl
  have hcall := c_37 (sc := sc) (d := d) hsg htx
  rw [hb] at hcall
  refine z_enter (L := [.ref 0, .int (nI i), .null]) rfl rfl rfl ?_
  refine zK.blk rfl ?_
  refine p_iloadn_1 ?_
  refine p_cs1i rfl rfl rfl rfl rfl (c_84) ?_
  refine p_ifB_ne (tgt := 9) (by decide) (fun hc4 => ?_) (fun hc4 => ?_)
  · skip
    refine zK.blk rfl ?_
    refine p_aloadn_0 ?_
    refine p_getr rfl rfl ?_
    refine p_cv0i rfl rfl rfl rfl rfl (hcall) ?_
    refine p_ifB_ne (tgt := 30) (by decide) (fun hc16 => ?_) (fun hc16 => ?_)
    · skip
      refine zK.blk rfl ?_
      refine p_aloadn_0 ?_
      refine p_getr rfl rfl ?_
      refine p_iloadn_1 ?_
      refine p_aald rfl (by omega) (by decide) (zget_fo (by omega)) ?_
      refine p_astoren_2 rfl ?_
      refine p_aloadn_2 ?_
      refine p_aloadn_0 ?_
      refine p_getr rfl rfl ?_
      refine p_geti (v := zoi (rdR len m Y P T K).1) rfl rfl rfl ?_
      refine p_aloadn_0 ?_
      refine p_getr rfl rfl ?_
      refine p_geti (v := nI (rdR len m Y P T K).2.2.1) rfl rfl rfl ?_
      refine p_aloadn_0 ?_
      refine p_getr rfl rfl ?_
      refine p_geti (v := nI (rdR len m Y P T K).2.2.2.1) rfl rfl rfl ?_
      refine p_aloadn_0 ?_
      refine p_getr rfl rfl ?_
      refine p_geti (v := nI (rdR len m Y P T K).2.2.2.2) rfl rfl rfl ?_
      refine p_cv4v rfl rfl rfl rfl (zlay_fo (by omega)) (c_21 hi) ?_
      refine p_aloadn_0 ?_
      refine p_getr rfl rfl ?_
      refine p_iconst (v := nI 0) (by decide) ?_
      refine p_put rfl rfl (by simp) ?_
      refine p_aloadn_2 ?_
      refine p_geti (v := nI (rdR len m Y P T K).2.2.2.2) (zlay_fo (by omega)) rfl (by unfold zup; rw [if_neg (by omega), if_pos rfl, if_pos rfl]) ?_
      exact p_iret trivial rfl rfl
    · skip
      cases hc16 --STOP
  · skip
    rw [hz] at hc4; cases hc4 --STOP
set_option maxRecDepth 100000 in
set_option maxHeartbeats 4000000 in
theorem c_76b {sc : Nat × (Nat → Int32)} {d : Nat} {M : zM} {x : Int32} (hx : zfo x = false) : zC 47 sc (d + 23) 76 [.ref 0, .int x] M (some (.int (-1))) (M) := by
  refine z_enter (L := [.ref 0, .int x, .null]) rfl rfl rfl ?_
  refine zK.blk rfl ?_
  refine p_iloadn_1 ?_
  refine p_cs1i rfl rfl rfl rfl rfl (c_84) ?_
  refine p_ifB_ne (tgt := 9) (by decide) (fun hc4 => ?_) (fun hc4 => ?_)
  · skip
    rw [hx] at hc4; cases hc4 --STOP
  · skip
    refine p_iconst (v := -1) (by decide) ?_
    exact p_iret trivial rfl rfl
