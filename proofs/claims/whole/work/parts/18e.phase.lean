theorem cd2 {l nx y at0 : Nat} (ha : at0 < 3) (hn : nx < 256) (hy : y < 256) : (l <<< 24 ||| nx <<< (8 * (2 - at0))) ||| y <<< (8 * (2 - zse at0)) = cd l (aA at0 nx y) (aB at0 nx y 0) (aC at0 nx 0) := by
  have h := cd3 (l := l) (nx := nx) (y := y) (z := 0) ha hn hy (by decide)
  rw [Nat.zero_shiftLeft, Nat.or_zero] at h
  exact h
theorem cd1 {l nx at0 : Nat} (ha : at0 < 3) (hn : nx < 256) : l <<< 24 ||| nx <<< (8 * (2 - at0)) = cd l (aA at0 nx 0) (aB at0 nx 0 0) (aC at0 nx 0) := by
  have h := cd2 (l := l) (nx := nx) (y := 0) ha hn (by decide)
  rw [Nat.zero_shiftLeft, Nat.or_zero] at h
  exact h
section PHS
variable {m : Nat} {P T K : Nat → Nat} {n B rc N s cb D : Nat} {o cs : Nat → Nat}
/-- the settled tables: s of them, in the order o, with the least costs cs, none above cb; no table is dearer than D -/
def ST (m : Nat) (P T K : Nat → Nat) (n N s : Nat) (o cs : Nat → Nat) (cb D : Nat) : Prop := (∀ k, k < s → o k < N ∧ LE m P T K n (o k) (cs k) ∧ cs k ≤ cb) ∧ (∀ k k', k ≤ k' → k' < s → cs k ≤ cs k') ∧ D ≤ 1073741824 ∧ N = z22 n
def PI (m : Nat) (P T K : Nat → Nat) (n rc N s : Nat) (o cs : Nat → Nat) (D : Nat) (M : zM) : Prop := (∀ q, q < N → SO m P T K n rc M q) ∧ (∀ k, k < s → M (rc + 1) (o k) = nI (cs k)) ∧ ∀ q, q < N → ∃ x, x ≤ D ∧ M (rc + 1) q = nI x
def Tr (rc : Nat) (M M' : zM) : Prop := ∀ q v g, CV rc M q v g → CV rc M' q v g
theorem Tr_rf {M : zM} : Tr rc M M := fun _ _ _ h => h
theorem Tr_tr {M M1 M2 : zM} (h1 : Tr rc M M1) (h2 : Tr rc M1 M2) : Tr rc M M2 := fun q v g h => h2 q v g (h1 q v g h)
theorem of_PI {M : zM} {told v g : Nat} (hL : HL m P T K n B) (hs : ST m P T K n N s o cs cb D) (hI : PI m P T K n rc N s o cs D M) (hJ : JL m P T K n (told &&& (N - 1)) v g) (hcb : cb < v) : PI m P T K n rc N s o cs D (ofM rc N M told (nI v) g) ∧ Tr rc M (ofM rc N M told (nI v) g) ∧ CV rc (ofM rc N M told (nI v) g) (told &&& (N - 1)) v g := by
  have hv := JL_B hL hJ
  have ht : (told &&& (N - 1)) < N := by rw [hs.2.2.2]; exact Dv_lt hL.2.2.1 (by rw [← hs.2.2.2]; exact hv.2.2.2)
  refine ⟨⟨fun q hq => of_SO hJ (hI.1 q hq), fun k hk => (of_keep hv.2.1 (by have := (hs.1 k hk).2.2; omega) (hI.2.1 k hk)).1, fun q hq => of_le hv.2.1 hs.2.2.1 (hI.2.2 q hq)⟩, fun q v g h => of_mono hv.2.1 h, of_CV hL hv.2.1 (hI.1 _ ht)⟩
theorem far_CV {M : zM} {t v g : Nat} (hs : ST m P T K n N s o cs cb D) (hI : PI m P T K n rc N s o cs D M) (ht : t < N) (hv : D < v) : CV rc M t v g := by
  obtain ⟨x, hx, h1⟩ := hI.2.2 t ht
  have := hs.2.2.1
  exact ⟨x, h1, by omega, Or.inl (by omega)⟩
theorem JL_lt {t v g : Nat} (hL : HL m P T K n B) (hs : ST m P T K n N s o cs cb D) (h : JL m P T K n t v g) : t < N := by
  rw [hs.2.2.2]; exact Dv_lt hL.2.2.1 (JL_B hL h).2.2.2
theorem jl_ok {one no pr begun at0 : Nat} (hL : HL m P T K n B) (hs : ST m P T K n N s o cs cb D) (hJ : ∀ k, k < s → JL m P T K n (pkN (o k) one no &&& (N - 1)) (pr + cs k) (begun ||| (o k) <<< (8 * (2 - at0))) ∧ cb < pr + cs k) : ∀ (j k : Nat) (M : zM), PI m P T K n rc N s o cs D M → k + j = s →
    PI m P T K n rc N s o cs D (jlM rc N o (nI D) one no (nI pr) begun at0 j k M) ∧ Tr rc M (jlM rc N o (nI D) one no (nI pr) begun at0 j k M) ∧ ∀ k', k ≤ k' → k' < s → CV rc (jlM rc N o (nI D) one no (nI pr) begun at0 j k M) (pkN (o k') one no &&& (N - 1)) (pr + cs k') (begun ||| (o k') <<< (8 * (2 - at0))) := by
  intro j
  induction j with
  | zero => intro k M hI hk; exact ⟨hI, Tr_rf, fun k' h1 h2 => absurd h2 (by omega)⟩
  | succ j ih =>
    intro k M hI hk
    have hk2 : k < s := by omega
    have hj := hJ k hk2
    have hv := JL_B hL hj.1
    have e : jlM rc N o (nI D) one no (nI pr) begun at0 (j + 1) k M = if nI D < nI (pr + cs k) then M else jlM rc N o (nI D) one no (nI pr) begun at0 j (k + 1) (ofM rc N M (pkN (o k) one no) (nI (pr + cs k)) (begun ||| (o k) <<< (8 * (2 - at0)))) := by
      show (if nI D < nI pr + M (rc + 1) (o k) then M else jlM rc N o (nI D) one no (nI pr) begun at0 j (k + 1) (ofM rc N M (pkN (o k) one no) (nI pr + M (rc + 1) (o k)) (begun ||| (o k) <<< (8 * (2 - at0))))) = _
      rw [hI.2.1 k hk2, nI_add]
    have hD := hs.2.2.1
    rw [e]
    by_cases hb : nI D < nI (pr + cs k)
    · rw [if_pos hb]
      rw [nI_ltI (by omega) (by omega)] at hb
      refine ⟨hI, Tr_rf, fun k' h1 h2 => far_CV hs hI (JL_lt hL hs (hJ k' h2).1) ?_⟩
      have := hs.2.1 k k' h1 h2
      omega
    · rw [if_neg hb]
      obtain ⟨i1, i2, i3⟩ := of_PI hL hs hI hj.1 hj.2
      obtain ⟨j1, j2, j3⟩ := ih (k + 1) _ i1 (by omega)
      refine ⟨j1, Tr_tr i2 j2, fun k' h1 h2 => ?_⟩
      by_cases e2 : k' = k
      · rw [e2]; exact j2 _ _ _ i3
      · exact j3 k' (by omega) h2
theorem ja2_ok {pl ne sa ta tg pr begun se th : Nat} (hpl : pl < 3) (hL : HL m P T K n B) (hs : ST m P T K n N s o cs cb D) (hJ : ∀ k, k < s → JL m P T K n (pkN (o k) sa ne &&& (N - 1)) (pr + cs k) (begun ||| (o k) <<< (8 * (2 - se))) ∧ cb < pr + cs k) : ∀ (j k : Nat) (M : zM), PI m P T K n rc N s o cs D M → k + j = s →
    PI m P T K n rc N s o cs D (jaM rc N s o (nI D) pl ne sa ta tg (nI pr) begun se th j k M) ∧ Tr rc M (jaM rc N s o (nI D) pl ne sa ta tg (nI pr) begun se th j k M) ∧ ∀ k', k ≤ k' → k' < s → CV rc (jaM rc N s o (nI D) pl ne sa ta tg (nI pr) begun se th j k M) (pkN (o k') sa ne &&& (N - 1)) (pr + cs k') (begun ||| (o k') <<< (8 * (2 - se))) := by
  intro j
  induction j with
  | zero => intro k M hI hk; exact ⟨hI, Tr_rf, fun k' h1 h2 => absurd h2 (by omega)⟩
  | succ j ih =>
    intro k M hI hk
    have hk2 : k < s := by omega
    have hj := hJ k hk2
    have hv := JL_B hL hj.1
    have e : jaM rc N s o (nI D) pl ne sa ta tg (nI pr) begun se th (j + 1) k M = if nI D < nI (pr + cs k) then M else jaM rc N s o (nI D) pl ne sa ta tg (nI pr) begun se th j (k + 1) (ofM rc N M (pkN (o k) sa ne) (nI (pr + cs k)) (begun ||| (o k) <<< (8 * (2 - se)))) := by
      show (if nI D < nI pr + M (rc + 1) (o k) then M else jaM rc N s o (nI D) pl ne sa ta tg (nI pr) begun se th j (k + 1) (if pl < 3 then ofM rc N M (pkN (o k) sa ne) (nI pr + M (rc + 1) (o k)) (begun ||| (o k) <<< (8 * (2 - se))) else _)) = _
      rw [if_pos hpl, hI.2.1 k hk2, nI_add]
    have hD := hs.2.2.1
    rw [e]
    by_cases hb : nI D < nI (pr + cs k)
    · rw [if_pos hb]
      rw [nI_ltI (by omega) (by omega)] at hb
      refine ⟨hI, Tr_rf, fun k' h1 h2 => far_CV hs hI (JL_lt hL hs (hJ k' h2).1) ?_⟩
      have := hs.2.1 k k' h1 h2
      omega
    · rw [if_neg hb]
      obtain ⟨i1, i2, i3⟩ := of_PI hL hs hI hj.1 hj.2
      obtain ⟨j1, j2, j3⟩ := ih (k + 1) _ i1 (by omega)
      refine ⟨j1, Tr_tr i2 j2, fun k' h1 h2 => ?_⟩
      by_cases e2 : k' = k
      · rw [e2]; exact j2 _ _ _ i3
      · exact j3 k' (by omega) h2
theorem ja3_ok {pl ne sa ta tg pr begun se th : Nat} (hpl : ¬ pl < 3) (hL : HL m P T K n B) (hs : ST m P T K n N s o cs cb D) (hJ : ∀ k k3, k < s → k3 < s → JL m P T K n (pkN (o k3) (pkN (o k) tg ta) (pkN (o k) sa ne) &&& (N - 1)) (pr + cs k + cs k3) (begun ||| (o k) <<< (8 * (2 - se)) ||| (o k3) <<< (8 * (2 - th))) ∧ cb < pr + cs k + cs k3) : ∀ (j k : Nat) (M : zM), PI m P T K n rc N s o cs D M → k + j = s →
    PI m P T K n rc N s o cs D (jaM rc N s o (nI D) pl ne sa ta tg (nI pr) begun se th j k M) ∧ Tr rc M (jaM rc N s o (nI D) pl ne sa ta tg (nI pr) begun se th j k M) ∧ ∀ k' k3, k ≤ k' → k' < s → k3 < s → CV rc (jaM rc N s o (nI D) pl ne sa ta tg (nI pr) begun se th j k M) (pkN (o k3) (pkN (o k') tg ta) (pkN (o k') sa ne) &&& (N - 1)) (pr + cs k' + cs k3) (begun ||| (o k') <<< (8 * (2 - se)) ||| (o k3) <<< (8 * (2 - th))) := by
  intro j
  induction j with
  | zero => intro k M hI hk; exact ⟨hI, Tr_rf, fun k' k3 h1 h2 => absurd h2 (by omega)⟩
  | succ j ih =>
    intro k M hI hk
    have hk2 : k < s := by omega
    have hv := JL_B hL (hJ k k hk2 hk2).1
    have e : jaM rc N s o (nI D) pl ne sa ta tg (nI pr) begun se th (j + 1) k M = if nI D < nI (pr + cs k) then M else jaM rc N s o (nI D) pl ne sa ta tg (nI pr) begun se th j (k + 1) (jlM rc N o (nI D) (pkN (o k) tg ta) (pkN (o k) sa ne) (nI (pr + cs k)) (begun ||| (o k) <<< (8 * (2 - se))) th s 0 M) := by
      show (if nI D < nI pr + M (rc + 1) (o k) then M else jaM rc N s o (nI D) pl ne sa ta tg (nI pr) begun se th j (k + 1) (if pl < 3 then _ else jlM rc N o (nI D) (pkN (o k) tg ta) (pkN (o k) sa ne) (nI pr + M (rc + 1) (o k)) (begun ||| (o k) <<< (8 * (2 - se))) th s 0 M)) = _
      rw [if_neg hpl, hI.2.1 k hk2, nI_add]
    have hD := hs.2.2.1
    rw [e]
    by_cases hb : nI D < nI (pr + cs k)
    · rw [if_pos hb]
      rw [nI_ltI (by omega) (by omega)] at hb
      refine ⟨hI, Tr_rf, fun k' k3 h1 h2 h3 => far_CV hs hI (JL_lt hL hs (hJ k' k3 h2 h3).1) ?_⟩
      have := hs.2.1 k k' h1 h2
      omega
    · rw [if_neg hb]
      obtain ⟨i1, i2, i3⟩ := jl_ok hL hs (fun k3 h3 => hJ k k3 hk2 h3) s 0 M hI (by omega)
      obtain ⟨j1, j2, j3⟩ := ih (k + 1) _ i1 (by omega)
      refine ⟨j1, Tr_tr i2 j2, fun k' k3 h1 h2 h3 => ?_⟩
      by_cases e2 : k' = k
      · rw [e2]; exact j2 _ _ _ (i3 k3 (Nat.zero_le _) h3)
      · exact j3 k' k3 (by omega) h2 h3
/-- a settled table with its cost -/
def SE (s : Nat) (o cs : Nat → Nat) (a x : Nat) : Prop := ∃ k, k < s ∧ o k = a ∧ cs k = x
theorem SE_LE {a x : Nat} (hs : ST m P T K n N s o cs cb D) (h : SE s o cs a x) : LE m P T K n a x := by
  obtain ⟨k, hk, rfl, rfl⟩ := h
  exact (hs.1 k hk).2.1
theorem JL_arr {i nx at0 y z x1 x2 : Nat} (hi : i < m) (ha : at0 < P i) (hb : LE m P T K n nx cb) (hy : dvA 1 (P i) (LE m P T K n) y x1) (hz : dvA 2 (P i) (LE m P T K n) z x2) (hP : P i < 4) : JL m P T K n (toN (T i) (1 <<< n) (aA at0 nx y) (aB at0 nx y z) (aC at0 nx z)) (K i + cb + x1 + x2) (cd i (aA at0 nx y) (aB at0 nx y z) (aC at0 nx z)) := by
  rcases (show at0 = 0 ∨ at0 = 1 ∨ at0 = 2 by omega) with rfl | rfl | rfl
  · exact ⟨i, nx, y, z, cb, x1, x2, hi, dvA_y ha hb, hy, hz, rfl, rfl, rfl⟩
  · exact ⟨i, y, nx, z, x1, cb, x2, hi, dvA_y (by omega) (dvA_y' ha hy), dvA_y ha hb, hz, rfl, by omega, rfl⟩
  · exact ⟨i, y, z, nx, x1, x2, cb, hi, dvA_y (by omega) (dvA_y' (by omega) hy), dvA_y (by omega) (dvA_y' ha hz), dvA_y ha hb, rfl, by omega, rfl⟩
/-- joins of nx at one place are heeded -/
def CA (rc : Nat) (P T K : Nat → Nat) (n s : Nat) (o cs : Nat → Nat) (cb nx : Nat) (M : zM) (i at0 : Nat) : Prop := ∀ y z x1 x2, dvA 1 (P i) (SE s o cs) y x1 → dvA 2 (P i) (SE s o cs) z x2 → CV rc M (toN (T i) (1 <<< n) (aA at0 nx y) (aB at0 nx y z) (aC at0 nx z)) (K i + cb + x1 + x2) (cd i (aA at0 nx y) (aB at0 nx y z) (aC at0 nx z))
theorem jA_ok {i nx at0 : Nat} {M : zM} (hL : HL m P T K n B) (hs : ST m P T K n N s o cs cb D) (hI : PI m P T K n rc N s o cs D M) (hi : i < m) (ha : at0 < P i) (hb : LE m P T K n nx cb) (hc : M (rc + 1) nx = nI cb) :
    PI m P T K n rc N s o cs D (jAM rc N s o (nI D) (P i) (K i) (T i * zrep (P i)) (i <<< 24 ||| nx <<< (8 * (2 - at0))) nx at0 M) ∧ Tr rc M (jAM rc N s o (nI D) (P i) (K i) (T i * zrep (P i)) (i <<< 24 ||| nx <<< (8 * (2 - at0))) nx at0 M) ∧ CA rc P T K n s o cs cb nx (jAM rc N s o (nI D) (P i) (K i) (T i * zrep (P i)) (i <<< 24 ||| nx <<< (8 * (2 - at0))) nx at0 M) i at0 := by
  have hR := hL.2.2.2.1 i hi
  have hn := hL.2.2.1
  have hnx := (LE_B hL hb).2
  have ha3 : at0 < 3 := by omega
  have h256 : ∀ k, k < s → o k < 256 := fun k hk => (LE_B hL (hs.1 k hk).2.1).2
  have hN := hs.2.2.2
  unfold jAM
  rw [hc, nI_add]
  by_cases h2 : P i < 2
  · rw [if_pos h2]
    have e1 : lfN (T i * zrep (P i)) nx at0 0 &&& (N - 1) = toN (T i) (1 <<< n) (aA at0 nx 0) (aB at0 nx 0 0) (aC at0 nx 0) := by
      rw [hN, tv1 hn ha3]
      obtain rfl : at0 = 0 := by omega
      exact to_wide hR.1 hR.2.1 (fun h => absurd h (by omega)) (fun _ => rfl) (fun _ => rfl)
    have hJ := JL_arr (nx := nx) (at0 := at0) (y := 0) (z := 0) (x1 := 0) (x2 := 0) hi ha hb (dvA_n (by omega)) (dvA_n (by omega)) hR.1
    rw [← cd1 ha3 hnx, ← e1] at hJ
    obtain ⟨i1, i2, i3⟩ := of_PI hL hs hI hJ (by omega)
    refine ⟨i1, i2, fun y z x1 x2 hy hz => ?_⟩
    obtain ⟨rfl, rfl⟩ := dvA_n' (by omega) hy
    obtain ⟨rfl, rfl⟩ := dvA_n' (by omega) hz
    rw [← cd1 ha3 hnx, ← e1]
    exact i3
  · rw [if_neg h2]
    by_cases h3 : P i < 3
    · have e2 : ∀ y, pkN y (lfN (T i * zrep (P i)) nx at0 (1 <<< zse at0)) (lfN (T i * zrep (P i)) nx at0 0) &&& (N - 1) = toN (T i) (1 <<< n) (aA at0 nx y) (aB at0 nx y 0) (aC at0 nx 0) := fun y => by
        rw [hN, tv2 hn ha3]
        exact to_wide hR.1 hR.2.1 (fun h => absurd h (by omega)) (fun h => absurd h (by omega)) (fun _ => if_neg (by omega))
      obtain ⟨i1, i2, i3⟩ := ja2_ok (rc := rc) (M := M) (ta := lfN (T i * zrep (P i)) nx at0 (1 <<< zth at0)) (tg := lfN (T i * zrep (P i)) nx at0 (1 <<< zse at0 ||| 1 <<< zth at0)) (th := zth at0) (se := zse at0) (begun := i <<< 24 ||| nx <<< (8 * (2 - at0))) (pr := K i + cb) (sa := lfN (T i * zrep (P i)) nx at0 (1 <<< zse at0)) (ne := lfN (T i * zrep (P i)) nx at0 0) h3 hL hs (fun k hk => by
        have hJ := JL_arr (nx := nx) (at0 := at0) (y := o k) (z := 0) (x1 := cs k) (x2 := 0) hi ha hb (dvA_y (by omega) (hs.1 k hk).2.1) (dvA_n (by omega)) hR.1
        rw [← cd2 ha3 hnx (h256 k hk), ← e2] at hJ
        exact ⟨hJ, by omega⟩) s 0 hI (by omega)
      refine ⟨i1, i2, fun y z x1 x2 hy hz => ?_⟩
      obtain ⟨rfl, rfl⟩ := dvA_n' (by omega) hz
      obtain ⟨k, hk, rfl, rfl⟩ := dvA_y' (by omega) hy
      rw [← cd2 ha3 hnx (h256 k hk), ← e2]
      exact i3 k (Nat.zero_le _) hk
    · have e3 : ∀ y z, pkN z (pkN y (lfN (T i * zrep (P i)) nx at0 (1 <<< zse at0 ||| 1 <<< zth at0)) (lfN (T i * zrep (P i)) nx at0 (1 <<< zth at0))) (pkN y (lfN (T i * zrep (P i)) nx at0 (1 <<< zse at0)) (lfN (T i * zrep (P i)) nx at0 0)) &&& (N - 1) = toN (T i) (1 <<< n) (aA at0 nx y) (aB at0 nx y z) (aC at0 nx z) := fun y z => by
        rw [hN, tv3 hn ha3]
        exact to_wide hR.1 hR.2.1 (fun h => absurd h (by omega)) (fun h => absurd h (by omega)) (fun h => absurd h (by omega))
      obtain ⟨i1, i2, i3⟩ := ja3_ok (rc := rc) (M := M) (ta := lfN (T i * zrep (P i)) nx at0 (1 <<< zth at0)) (tg := lfN (T i * zrep (P i)) nx at0 (1 <<< zse at0 ||| 1 <<< zth at0)) (th := zth at0) (se := zse at0) (begun := i <<< 24 ||| nx <<< (8 * (2 - at0))) (pr := K i + cb) (sa := lfN (T i * zrep (P i)) nx at0 (1 <<< zse at0)) (ne := lfN (T i * zrep (P i)) nx at0 0) h3 hL hs (fun k k3 hk hk3 => by
        have hJ := JL_arr (nx := nx) (at0 := at0) (y := o k) (z := o k3) (x1 := cs k) (x2 := cs k3) hi ha hb (dvA_y (by omega) (hs.1 k hk).2.1) (dvA_y (by omega) (hs.1 k3 hk3).2.1) hR.1
        rw [← cd3 ha3 hnx (h256 k hk) (h256 k3 hk3), ← e3] at hJ
        exact ⟨hJ, by omega⟩) s 0 hI (by omega)
      refine ⟨i1, i2, fun y z x1 x2 hy hz => ?_⟩
      obtain ⟨k, hk, rfl, rfl⟩ := dvA_y' (by omega) hy
      obtain ⟨k3, hk3, rfl, rfl⟩ := dvA_y' (by omega) hz
      rw [← cd3 ha3 hnx (h256 k hk) (h256 k3 hk3), ← e3]
      exact i3 k k3 (Nat.zero_le _) hk hk3
end PHS
