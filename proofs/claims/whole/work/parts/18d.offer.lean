def cd (i a b c : Nat) : Nat := i * 16777216 + a * 65536 + b * 256 + c
theorem orc {a b c d : Nat} (hb : b < 256) (hc : c < 256) (hd : d < 256) : a <<< 24 ||| (b <<< 16 ||| (c <<< 8 ||| d)) = cd a b c d := by
  have e1 : c <<< 8 ||| d = c * 256 + d := by
    rw [← Nat.shiftLeft_add_eq_or_of_lt (by omega), Nat.shiftLeft_eq]
  have e2 : b <<< 16 ||| (c * 256 + d) = b * 65536 + (c * 256 + d) := by
    rw [← Nat.shiftLeft_add_eq_or_of_lt (by omega), Nat.shiftLeft_eq]
  have e3 : a <<< 24 ||| (b * 65536 + (c * 256 + d)) = a * 16777216 + (b * 65536 + (c * 256 + d)) := by
    rw [← Nat.shiftLeft_add_eq_or_of_lt (by omega), Nat.shiftLeft_eq]
  rw [e1, e2, e3]
  unfold cd
  omega
/-- where the three tables stand: nx at the place at0, y and z at the others -/
def aA (at0 nx y : Nat) : Nat := if at0 = 0 then nx else y
def aB (at0 nx y z : Nat) : Nat := if at0 = 0 then y else if at0 = 1 then nx else z
def aC (at0 nx z : Nat) : Nat := if at0 = 2 then nx else z
theorem cd3 {l nx y z at0 : Nat} (ha : at0 < 3) (hn : nx < 256) (hy : y < 256) (hz : z < 256) : (l <<< 24 ||| nx <<< (8 * (2 - at0))) ||| y <<< (8 * (2 - zse at0)) ||| z <<< (8 * (2 - zth at0)) = cd l (aA at0 nx y) (aB at0 nx y z) (aC at0 nx z) := by
  rcases (show at0 = 0 ∨ at0 = 1 ∨ at0 = 2 by omega) with rfl | rfl | rfl
  · show (l <<< 24 ||| nx <<< 16) ||| y <<< 8 ||| z <<< 0 = cd l nx y z
    rw [Nat.shiftLeft_zero, Nat.or_assoc, Nat.or_assoc]
    exact orc hn hy hz
  · show (l <<< 24 ||| nx <<< 8) ||| y <<< 16 ||| z <<< 0 = cd l y nx z
    rw [Nat.shiftLeft_zero, Nat.or_assoc, Nat.or_assoc, ← Nat.or_assoc (nx <<< 8), Nat.or_comm (nx <<< 8), Nat.or_assoc (y <<< 16)]
    exact orc hy hn hz
  · show (l <<< 24 ||| nx <<< 0) ||| y <<< 16 ||| z <<< 8 = cd l y z nx
    rw [Nat.shiftLeft_zero, Nat.or_assoc, Nat.or_assoc, Nat.or_comm nx, Nat.or_assoc (y <<< 16)]
    exact orc hy hz hn
theorem lfN_bit {w nx at0 row q : Nat} (h : q < 32) : (lfN w nx at0 row).testBit q = w.testBit (bif nx.testBit q then (row ||| 1 <<< at0) else row) := by
  unfold lfN
  rw [pkN_bit h, zmFF_bit (zb_lt _ _) h, zmFF_bit (zb_lt _ _) h, zbitd, zbitd]
  cases nx.testBit q <;> rfl
theorem tv_bit {w nx y z at0 q : Nat} (h : q < 32) (ha : at0 < 3) : (pkN z (pkN y (lfN w nx at0 (1 <<< zse at0 ||| 1 <<< zth at0)) (lfN w nx at0 (1 <<< zth at0))) (pkN y (lfN w nx at0 (1 <<< zse at0)) (lfN w nx at0 0))).testBit q = w.testBit (zrw (aA at0 nx y) (aB at0 nx y z) (aC at0 nx z) q) := by
  rw [pkN_bit h, pkN_bit h, pkN_bit h, lfN_bit h, lfN_bit h, lfN_bit h, lfN_bit h]
  rcases (show at0 = 0 ∨ at0 = 1 ∨ at0 = 2 by omega) with rfl | rfl | rfl
  · show _ = w.testBit (zrw nx y z q)
    unfold zrw
    rw [zbitv nx q, zbitv y q, zbitv z q]
    cases nx.testBit q <;> cases y.testBit q <;> cases z.testBit q <;> rfl
  · show _ = w.testBit (zrw y nx z q)
    unfold zrw
    rw [zbitv nx q, zbitv y q, zbitv z q]
    cases nx.testBit q <;> cases y.testBit q <;> cases z.testBit q <;> rfl
  · show _ = w.testBit (zrw y z nx q)
    unfold zrw
    rw [zbitv nx q, zbitv y q, zbitv z q]
    cases nx.testBit q <;> cases y.testBit q <;> cases z.testBit q <;> rfl
theorem n1_lt {n : Nat} (hn : n < 4) : 1 <<< n < 32 := by
  rcases (show n = 0 ∨ n = 1 ∨ n = 2 ∨ n = 3 by omega) with rfl | rfl | rfl | rfl <;> decide
theorem cut_eq {x n w A B C : Nat} (hn : n < 4) (h : ∀ q, q < 32 → x.testBit q = w.testBit (zrw A B C q)) : x &&& (z22 n - 1) = toN w (1 <<< n) A B C := by
  apply Nat.eq_of_testBit_eq
  intro q
  have h1 := n1_lt hn
  rw [Nat.testBit_and, toN_bit, z22_pow, Nat.testBit_two_pow_sub_one, Bool.and_comm]
  by_cases hq : q < 1 <<< n
  · rw [h q (by omega)]
  · rw [decide_eq_false hq]; rfl
theorem tv3 {w nx y z at0 n : Nat} (hn : n < 4) (ha : at0 < 3) : pkN z (pkN y (lfN w nx at0 (1 <<< zse at0 ||| 1 <<< zth at0)) (lfN w nx at0 (1 <<< zth at0))) (pkN y (lfN w nx at0 (1 <<< zse at0)) (lfN w nx at0 0)) &&& (z22 n - 1) = toN w (1 <<< n) (aA at0 nx y) (aB at0 nx y z) (aC at0 nx z) := cut_eq hn (fun q hq => tv_bit hq ha)
theorem tv2 {w nx y at0 n : Nat} (hn : n < 4) (ha : at0 < 3) : pkN y (lfN w nx at0 (1 <<< zse at0)) (lfN w nx at0 0) &&& (z22 n - 1) = toN w (1 <<< n) (aA at0 nx y) (aB at0 nx y 0) (aC at0 nx 0) := cut_eq hn (fun q hq => by
  rw [← tv_bit (z := 0) hq ha, pkN_bit hq (x := 0), Nat.zero_testBit]; rfl)
theorem tv1 {w nx at0 n : Nat} (hn : n < 4) (ha : at0 < 3) : lfN w nx at0 0 &&& (z22 n - 1) = toN w (1 <<< n) (aA at0 nx 0) (aB at0 nx 0 0) (aC at0 nx 0) := cut_eq hn (fun q hq => by
  rw [← tv_bit (y := 0) (z := 0) hq ha, pkN_bit hq (x := 0), Nat.zero_testBit]
  show _ = (pkN 0 _ _).testBit q
  rw [pkN_bit hq (x := 0), Nat.zero_testBit]; rfl)
section OFR
variable {m : Nat} {P T K : Nat → Nat} {n B rc N : Nat}
/-- a join of least parts: table, cost, way -/
def JL (m : Nat) (P T K : Nat → Nat) (n t v g : Nat) : Prop := ∃ i a b c x y z, i < m ∧ dvA 0 (P i) (LE m P T K n) a x ∧ dvA 1 (P i) (LE m P T K n) b y ∧ dvA 2 (P i) (LE m P T K n) c z ∧ t = toN (T i) (1 <<< n) a b c ∧ v = K i + x + y + z ∧ g = cd i a b c
/-- cost and way of a table are those of a join, or unknown, or a place's -/
def SO (m : Nat) (P T K : Nat → Nat) (n rc : Nat) (M : zM) (t : Nat) : Prop := (M (rc + 1) t = nI 1073741824 ∧ M (rc + 2) t = -1) ∨ (M (rc + 1) t = nI 0 ∧ M (rc + 2) t = -1 ∧ ∃ i, i < n ∧ t = plN n i) ∨ ∃ v g, M (rc + 1) t = nI v ∧ M (rc + 2) t = nI g ∧ JL m P T K n t v g
/-- a table is at least as cheap, and by as early a way -/
def CV (rc : Nat) (M : zM) (t v g : Nat) : Prop := ∃ v', M (rc + 1) t = nI v' ∧ v' ≤ 1073741824 ∧ (v' < v ∨ (v' = v ∧ ¬ nI g < M (rc + 2) t))
/-- what is known of the costs -/
def HL (m : Nat) (P T K : Nat → Nat) (n B : Nat) : Prop := 3 * B + 9 < 1073741824 ∧ m ≤ 6 ∧ n < 4 ∧ (∀ i, i < m → P i < 4 ∧ T i < z22 (P i) ∧ 1 ≤ K i ∧ K i ≤ 9) ∧ ∀ t v, Dv m P T K n t v → ∃ w, w ≤ B ∧ LE m P T K n t w
theorem LE_B {t v : Nat} (hL : HL m P T K n B) (h : LE m P T K n t v) : v ≤ B ∧ t < 256 := by
  obtain ⟨w, hw, hw2⟩ := hL.2.2.2.2 t v h.1
  have h1 := LE_un h hw2
  have h2 := Dv_lt hL.2.2.1 h.1
  have h3 := z22_lt hL.2.2.1
  exact ⟨by omega, by omega⟩
theorem dvA_B {k p a x : Nat} (hL : HL m P T K n B) (h : dvA k p (LE m P T K n) a x) : x ≤ B ∧ a < 256 := by
  by_cases hk : k < p
  · exact LE_B hL (dvA_y' hk h)
  · have := dvA_n' (by omega) h
    omega
theorem JL_B {t v g : Nat} (hL : HL m P T K n B) (h : JL m P T K n t v g) : 1 ≤ v ∧ v < 1073741824 ∧ g < 2 ^ 31 ∧ Dv m P T K n t v := by
  obtain ⟨i, a, b, c, x, y, z, hi, ha, hb, hc, rfl, rfl, rfl⟩ := h
  have h1 := dvA_B hL ha
  have h2 := dvA_B hL hb
  have h3 := dvA_B hL hc
  have h4 := hL.2.2.2.1 i hi
  have h5 := hL.1
  have h6 := hL.2.1
  refine ⟨by omega, by omega, by unfold cd; omega, ?_⟩
  exact (Dv_cl m P T K n).2 i a b c x y z hi (dvA_mono (fun _ _ h => h.1) ha) (dvA_mono (fun _ _ h => h.1) hb) (dvA_mono (fun _ _ h => h.1) hc)
theorem SO_B {M : zM} {t : Nat} (hL : HL m P T K n B) (h : SO m P T K n rc M t) : ∃ v, M (rc + 1) t = nI v ∧ v ≤ 1073741824 := by
  rcases h with h | h | ⟨v, g, h1, _, h3⟩
  · exact ⟨_, h.1, Nat.le_refl _⟩
  · exact ⟨_, h.1, Nat.zero_le _⟩
  · exact ⟨v, h1, by have := JL_B hL h3; omega⟩
theorem of_at {M : zM} {told g : Nat} {x : Int32} (q : Nat) : (ofM rc N M told x g (rc + 1) q = M (rc + 1) q ∧ ofM rc N M told x g (rc + 2) q = M (rc + 2) q) ∨ (q = (told &&& (N - 1)) ∧ ofM rc N M told x g (rc + 1) q = x ∧ ofM rc N M told x g (rc + 2) q = nI g ∧ (x < M (rc + 1) q ∨ (x = M (rc + 1) q ∧ nI g < M (rc + 2) q))) := by
  unfold ofM
  split
  · rename_i hc
    by_cases e : q = (told &&& (N - 1))
    · refine Or.inr ⟨e, ?_, ?_, by rw [e]; exact hc⟩
      · unfold zup
        rw [if_neg (by omega), if_pos rfl, if_pos e]
      · unfold zup
        rw [if_pos rfl, if_pos e]
    · refine Or.inl ⟨?_, ?_⟩
      · unfold zup
        rw [if_neg (by omega), if_pos rfl, if_neg e]
      · unfold zup
        rw [if_pos rfl, if_neg e, if_neg (by omega)]
  · exact Or.inl ⟨rfl, rfl⟩
/-- the offer is heeded -/
theorem of_CV {M : zM} {told v g : Nat} (hL : HL m P T K n B) (hv : v < 1073741824) (hS : SO m P T K n rc M (told &&& (N - 1))) : CV rc (ofM rc N M told (nI v) g) (told &&& (N - 1)) v g := by
  obtain ⟨v', h1, h2⟩ := SO_B hL hS
  by_cases hc : nI v < M (rc + 1) (told &&& (N - 1)) ∨ (nI v = M (rc + 1) (told &&& (N - 1)) ∧ nI g < M (rc + 2) (told &&& (N - 1)))
  · have e : ofM rc N M told (nI v) g = zup (zup M (rc + 1) (told &&& (N - 1)) (nI v)) (rc + 2) (told &&& (N - 1)) (nI g) := if_pos hc
    rw [e]
    refine ⟨v, ?_, by omega, Or.inr ⟨rfl, ?_⟩⟩
    · unfold zup
      rw [if_neg (by omega), if_pos rfl, if_pos rfl]
    · have e2 : zup (zup M (rc + 1) (told &&& (N - 1)) (nI v)) (rc + 2) (told &&& (N - 1)) (nI g) (rc + 2) (told &&& (N - 1)) = nI g := by unfold zup; rw [if_pos rfl, if_pos rfl]
      rw [e2]
      exact fun z => Int32.lt_irrefl z
  · have e : ofM rc N M told (nI v) g = M := if_neg hc
    rw [e]
    refine ⟨v', h1, h2, ?_⟩
    rw [h1, nI_ltI (by omega) (by omega), nI_eq (by omega) (by omega)] at hc
    by_cases e2 : v = v'
    · exact Or.inr ⟨e2.symm, fun z => hc (Or.inr ⟨e2, z⟩)⟩
    · exact Or.inl (by omega)
/-- what is covered stays so -/
theorem of_mono {M : zM} {told v g q v1 g1 : Nat} (hv : v < 1073741824) (h : CV rc M q v1 g1) : CV rc (ofM rc N M told (nI v) g) q v1 g1 := by
  obtain ⟨v', h1, h2, h3⟩ := h
  rcases of_at (rc := rc) (N := N) (M := M) (told := told) (g := g) (x := nI v) q with ⟨e1, e2⟩ | ⟨_, e1, e2, e3⟩
  · exact ⟨v', by rw [e1]; exact h1, h2, by rw [e2]; exact h3⟩
  · refine ⟨v, e1, by omega, ?_⟩
    rw [e2]
    rw [h1, nI_ltI (by omega) (by omega), nI_eq (by omega) (by omega)] at e3
    rcases h3 with h3 | ⟨h3, h4⟩
    · rcases e3 with e3 | e3
      · exact Or.inl (by omega)
      · exact Or.inl (by omega)
    · rcases e3 with e3 | e3
      · exact Or.inl (by omega)
      · exact Or.inr ⟨by omega, fun z => h4 (Int32.lt_trans z e3.2)⟩
theorem of_SO {M : zM} {told v g q : Nat} (hJ : JL m P T K n (told &&& (N - 1)) v g) (h : SO m P T K n rc M q) : SO m P T K n rc (ofM rc N M told (nI v) g) q := by
  rcases of_at (rc := rc) (N := N) (M := M) (told := told) (g := g) (x := nI v) q with ⟨e1, e2⟩ | ⟨e0, e1, e2, _⟩
  · unfold SO
    rw [e1, e2]
    exact h
  · exact Or.inr (Or.inr ⟨v, g, e1, e2, by rw [e0]; exact hJ⟩)
/-- a cheaper table's cost stays -/
theorem of_keep {M : zM} {told v g q x : Nat} (hv : v < 1073741824) (hx : x < v) (h : M (rc + 1) q = nI x) : ofM rc N M told (nI v) g (rc + 1) q = nI x ∧ ofM rc N M told (nI v) g (rc + 2) q = M (rc + 2) q := by
  rcases of_at (rc := rc) (N := N) (M := M) (told := told) (g := g) (x := nI v) q with ⟨e1, e2⟩ | ⟨_, _, _, e3⟩
  · exact ⟨e1.trans h, e2⟩
  · rw [h, nI_ltI (by omega) (by omega), nI_eq (by omega) (by omega)] at e3
    omega
theorem of_le {M : zM} {told v g q D : Nat} (hv : v < 1073741824) (hD : D ≤ 1073741824) (h : ∃ x, x ≤ D ∧ M (rc + 1) q = nI x) : ∃ x, x ≤ D ∧ ofM rc N M told (nI v) g (rc + 1) q = nI x := by
  obtain ⟨x, hx, h1⟩ := h
  rcases of_at (rc := rc) (N := N) (M := M) (told := told) (g := g) (x := nI v) q with ⟨e1, _⟩ | ⟨_, e1, _, e3⟩
  · exact ⟨x, hx, e1.trans h1⟩
  · rw [h1, nI_ltI (by omega) (by omega), nI_eq (by omega) (by omega)] at e3
    exact ⟨v, by omega, e1⟩
end OFR
