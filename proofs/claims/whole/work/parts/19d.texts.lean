section TXT
variable {sc : Nat × (Nat → Int32)} {M : zM}
theorem jdO_lt {m : Nat} {P X : Nat → Nat} (hm : m ≤ 6) : ∀ j t h, jdO m P X j t h → ∀ k, t ≤ k → k < t + j → X k < 256 := by
  intro j
  induction j with
  | zero => intro t h _ k h1 h2; exact absurd h2 (by omega)
  | succ j ih =>
    intro t h hO k h1 h2
    unfold jdO at hO
    split at hO
    · by_cases e : k = t
      · rw [e]; omega
      · exact ih _ _ hO.2 k (by omega) (by omega)
    · by_cases e : k = t
      · rw [e]; omega
      · exact ih _ _ hO.2.2.2 k (by omega) (by omega)
theorem Ev_W {m le t c e : Nat} {P T K X : Nat → Nat} (h : Ev m P T K X 0 le t c e) : jdO m P X le 0 0 ∧ (jdW M P T K X le).1 0 = t ∧ (jdW M P T K X le).2.1 0 = c ∧ (jdW M P T K X le).2.2 0 = e := by
  obtain ⟨h1, V', C', E', h2, _, h4⟩ := h.2 0 (fun b => zna (M 44 b)) (fun b => zna (M 45 b)) (fun b => zna (M 46 b))
  rw [Nat.sub_zero] at h1 h2
  refine ⟨h1, ?_⟩
  unfold jdW
  rw [jdR_T, h2]
  exact h4 0 (by decide)
theorem cpM_at {i : Nat} {D : Nat → Nat} {b : Nat} : ∀ j k M, cpM i D j k M 39 b = if 30 * i + k ≤ b ∧ b < 30 * i + k + j then nI (D (b - 30 * i)) else M 39 b := by
  intro j
  induction j with
  | zero => intro k M; rw [if_neg (by omega)]; rfl
  | succ j ih =>
    intro k M
    show cpM i D j (k + 1) _ 39 b = _
    rw [ih]
    by_cases h1 : 30 * i + (k + 1) ≤ b ∧ b < 30 * i + (k + 1) + j
    · rw [if_pos h1, if_pos (by omega)]
    · rw [if_neg h1]
      unfold zup
      rw [if_pos rfl]
      by_cases h2 : b = 30 * i + k
      · rw [if_pos h2, if_pos (by omega), h2, show 30 * i + k - 30 * i = k by omega]
      · rw [if_neg h2, if_neg (by omega)]
theorem rdV_ne {r : Option Nat × zS} {a b : Nat} (h : ¬ a = 26) : rdV M r a b = M a b := by
  unfold rdV zup rdQ
  rw [if_neg h, rdM_ne h]
theorem fmQ_ne {q : Bool × Nat × fS} {a b : Nat} (h : ¬ (41 ≤ a ∧ a ≤ 43)) (h2 : ¬ (a = 33 ∧ (b = 14 ∨ b = 15))) : fmQ M q a b = M a b := by
  unfold fmQ fmM
  rw [if_neg (by omega), if_neg (by omega), if_neg (by omega)]
  by_cases e : a = 33
  · rw [if_pos e, if_neg (by omega), if_neg (by omega)]
  · rw [if_neg e]
theorem op_read {x : Int32} (hI : INV M) : OP sc 76 128 [.int x] M := by
  obtain ⟨m, P, T, K, len, Y, tb, co, de, le, X, h⟩ := id hI
  obtain ⟨i1, i2, i3, i4, i5, i6, i7, i8⟩ := id h
  cases hx : zfo x with
  | false => exact ⟨_, M, M, c_76b (d := 7) hx, c_128b (d := 27) i2 (by rw [← zfo_zin]; exact hx), hI⟩
  | true =>
    obtain ⟨i, hi, rfl⟩ := zfo_x hx
    have hm := i1.1
    cases hb : rdB len (rdR len m Y P T K) with
    | false =>
      have hsm1 : sgM (rdV M (rdR len m Y P T K)) m P T K := sgM_fr (fun a b ha => rdV_ne (by omega)) i2
      have htx1 : txM (rdV M (rdR len m Y P T K)) len Y := txM_fr (rdV_ne (by decide)) (fun b => rdV_ne (by decide)) i4
      have hr := rd_fm (len := len) (Y := Y) hm i1.2.2.1 (fun b => zna (rdV M (rdR len m Y P T K) 41 b)) (fun b => zna (rdV M (rdR len m Y P T K) 42 b)) (fun b => zna (rdV M (rdR len m Y P T K) 43 b))
      have ef : fmV (rdV M (rdR len m Y P T K)) len m P Y = fmW len m P Y (fun b => zna (rdV M (rdR len m Y P T K) 41 b)) (fun b => zna (rdV M (rdR len m Y P T K) 42 b)) (fun b => zna (rdV M (rdR len m Y P T K) 43 b)) := rfl
      rw [← ef] at hr
      have h2 := c_128f (sc := sc) (d := 27) hsm1 htx1 hi (hr.1.trans hb)
      rw [hr.2.1 hb] at h2
      refine ⟨_, _, _, c_76f (d := 7) i1 i3 hi hb, h2, m, P, T, K, len, Y, tb, co, de, le, X, IV_fr (fun a b hz => ?_) h⟩
      unfold zrel at hz
      rw [fmQ_ne (by omega) (by omega), rdV_ne (by omega)]
    | true =>
      have w1 : ∀ a b, 33 ≤ a → rdW M i (rdR len m Y P T K) a b = M a b := fun a b ha => by
        unfold rdW zup
        rw [if_neg (by omega), if_neg (by omega), if_neg (by omega), if_neg (by omega), if_neg (by omega), rdV_ne (by omega)]
      have w2 : ∀ a b, a < 28 → ¬ a = 26 → ¬ (a = 24 ∧ b = 1) → rdW M i (rdR len m Y P T K) a b = M a b := fun a b h1 h2 h3 => by
        unfold rdW zup
        by_cases e : a = 24
        · rw [if_pos e, if_neg (fun q => h3 ⟨e, q⟩), if_neg (by omega), if_neg (by omega), if_neg (by omega), if_neg (by omega), rdV_ne (by omega)]
        · rw [if_neg e, if_neg (by omega), if_neg (by omega), if_neg (by omega), if_neg (by omega), rdV_ne h2]
      have w3 : ∀ a b, 28 ≤ a → a ≤ 32 → ¬ a = 28 + i → rdW M i (rdR len m Y P T K) a b = M a b := fun a b h1 h2 h3 => by
        unfold rdW zup
        rw [if_neg (by omega), if_neg h3, if_neg h3, if_neg h3, if_neg h3, rdV_ne (by omega)]
      have w4 : rdW M i (rdR len m Y P T K) 24 1 = nI 0 := by unfold rdW zup; rw [if_pos rfl, if_pos rfl]
      have w5 : rdW M i (rdR len m Y P T K) (28 + i) 0 = zoi (rdR len m Y P T K).1 ∧ rdW M i (rdR len m Y P T K) (28 + i) 1 = nI (rdR len m Y P T K).2.2.1 ∧ rdW M i (rdR len m Y P T K) (28 + i) 2 = nI (rdR len m Y P T K).2.2.2.1 ∧ rdW M i (rdR len m Y P T K) (28 + i) 3 = nI (rdR len m Y P T K).2.2.2.2 := by
        refine ⟨?_, ?_, ?_, ?_⟩
        · unfold rdW zup; rw [if_neg (show ¬ 28 + i = 24 by omega)]; simp
        · unfold rdW zup; rw [if_neg (show ¬ 28 + i = 24 by omega)]; simp
        · unfold rdW zup; rw [if_neg (show ¬ 28 + i = 24 by omega)]; simp
        · unfold rdW zup; rw [if_neg (show ¬ 28 + i = 24 by omega)]; simp
      have hsm1 : sgM (rdW M i (rdR len m Y P T K)) m P T K := sgM_fr (fun a b ha => w1 a b (by omega)) i2
      have htx1 : txM (rdW M i (rdR len m Y P T K)) len Y := txM_fr (w1 _ _ (by decide)) (fun b => w1 _ _ (by decide)) i4
      have hcl := c_76y (sc := sc) (d := 7) i1 i3 hi hb
      have hok := pN_ok (len := len) (Y := Y) i1.2.2.1 8 (0, 0, 0, 0) (Nat.le_refl _) ⟨Nat.zero_le _, Nat.zero_le _, Nat.zero_le _⟩
      rw [show pN (zlt len Y) m P T K 8 (0, 0, 0, 0) = rdR len m Y P T K from rfl] at hok
      generalize hMw : rdW M i (rdR len m Y P T K) = Mw at w1 w2 w3 w4 w5 hsm1 htx1 hcl
      have hr := rd_fm (len := len) (Y := Y) hm i1.2.2.1 (fun b => zna (Mw 41 b)) (fun b => zna (Mw 42 b)) (fun b => zna (Mw 43 b))
      have ef : fmV Mw len m P Y = fmW len m P Y (fun b => zna (Mw 41 b)) (fun b => zna (Mw 42 b)) (fun b => zna (Mw 43 b)) := rfl
      rw [← ef] at hr
      have h2 := c_128y (sc := sc) (d := 27) hsm1 htx1 hi (hr.1.trans hb)
      obtain ⟨t, ht, hle, hEv⟩ := hr.2.2 hb
      have hdr := fmV_dr (M := Mw) (len := len) (m := m) (P := P) (Y := Y)
      rw [hle] at h2 hEv hdr
      have ht256 := (hok.2 t ht).1
      rw [ht] at w5
      refine ⟨_, _, _, hcl, h2, m, P, T, K, 0, Y, fn tb i t, fn co i (rdR len m Y P T K).2.2.1, fn de i (rdR len m Y P T K).2.2.2.1, fn le i (rdR len m Y P T K).2.2.2.2, fun j => if j = i then (fmV Mw len m P Y).2.2.2.2.2.2.2.1 else X j, ?_⟩
      generalize hq : fmV Mw len m P Y = q at hle hEv
      have v1 : ∀ a b, ¬ a = 39 → ¬ a = 40 → ¬ (a = 33 ∧ (b = 10 ∨ b = 14 ∨ b = 15)) → ¬ (41 ≤ a ∧ a ≤ 43) → mrM Mw i q a b = Mw a b := fun a b h1 h2 h3 h4 => by
        unfold mrM zup
        by_cases e : a = 33
        · rw [if_pos e, if_neg (by omega), if_neg h2, cpM_ne h1, fmQ_ne h4 (by omega)]
        · rw [if_neg e, if_neg h2, cpM_ne h1, fmQ_ne h4 (by omega)]
      have v2 : ∀ j, j < 4 → mrM Mw i q 40 j = if j = i then nI (rdR len m Y P T K).2.2.2.2 else M 40 j := fun j hj => by
        unfold mrM zup
        rw [if_neg (by decide), if_pos rfl, hle]
        by_cases e : j = i
        · rw [if_pos e, if_pos e]
        · rw [if_neg e, if_neg e, cpM_ne (by decide), fmQ_ne (by decide) (by omega), w1 _ _ (by decide)]
      have v3 : ∀ b, mrM Mw i q 39 b = if 30 * i ≤ b ∧ b < 30 * i + (rdR len m Y P T K).2.2.2.2 then nI (q.2.2.2.2.2.2.2.1 (b - 30 * i)) else M 39 b := fun b => by
        unfold mrM zup
        rw [if_neg (by decide), if_neg (by decide), cpM_at, hle, fmQ_ne (by decide) (by omega), w1 _ _ (by decide)]
        rfl
      have hlt := jdO_lt hm _ _ _ (Ev_W (M := M) hEv).1
      refine ⟨sg_frame (M := M) (fun a b ha => by rw [v1 _ _ (by omega) (by omega) (by omega) (by omega), w2 _ _ (by omega) (by omega) (by omega)]) i1, sgM_fr (M := M) (fun a b ha => by rw [v1 _ _ (by omega) (by omega) (by omega) (by omega), w1 _ _ (by omega)]) i2, ⟨by rw [v1 _ _ (by decide) (by decide) (by decide) (by decide)]; exact w4, by decide, fun j hj => absurd hj (by omega)⟩, ⟨by unfold mrM zup; rw [if_pos rfl, if_pos rfl], by decide, fun j hj => absurd hj (by omega)⟩, ⟨fun j hj => ?_, fun j hj => ?_⟩, fun j hj => ⟨⟨?_, ?_, fun k hk => ?_⟩, ?_⟩, fun p h1 h2 => ?_, RInv_fr (M := M) (fun a b h1 h2 => by rw [v1 _ _ (by omega) (by omega) (by omega) (by omega), w2 _ _ (by omega) (by omega) (by omega)]) i8⟩
      · rw [v1 _ _ (by omega) (by omega) (by omega) (by omega), v1 _ _ (by omega) (by omega) (by omega) (by omega), v1 _ _ (by omega) (by omega) (by omega) (by omega), v1 _ _ (by omega) (by omega) (by omega) (by omega)]
        unfold fn
        by_cases e : j = i
        · subst e
          rw [if_pos rfl, if_pos rfl, if_pos rfl, if_pos rfl]
          exact w5
        · rw [if_neg e, if_neg e, if_neg e, if_neg e, w3 _ _ (by omega) (by omega) (by omega), w3 _ _ (by omega) (by omega) (by omega), w3 _ _ (by omega) (by omega) (by omega), w3 _ _ (by omega) (by omega) (by omega)]
          exact i5.1 j hj
      · unfold fn
        by_cases e : j = i
        · rw [if_pos e]; exact ht256
        · rw [if_neg e]; exact i5.2 j hj
      · rw [v2 j hj]
        unfold fn
        by_cases e : j = i
        · rw [if_pos e, if_pos e]
        · rw [if_neg e, if_neg e]; exact (i6 j hj).1.1
      · unfold fn
        by_cases e : j = i
        · rw [if_pos e]; exact hdr
        · rw [if_neg e]; exact (i6 j hj).1.2.1
      · rw [v3]
        unfold fn at hk
        by_cases e : j = i
        · subst e
          rw [if_pos rfl] at hk
          rw [if_pos ⟨by omega, by omega⟩, show 30 * j + k - 30 * j = k by omega]
          dsimp only
          rw [if_pos rfl]
          exact ⟨rfl, hlt k (Nat.zero_le _) (by omega)⟩
        · rw [if_neg e] at hk
          have h30 := (i6 j hj).1.2.1
          rw [if_neg (by omega)]
          dsimp only
          rw [if_neg e]
          exact (i6 j hj).1.2.2 k hk
      · unfold fn
        dsimp only
        by_cases e : j = i
        · rw [if_pos e, if_pos e, if_pos e, if_pos e, if_pos e]; exact hEv
        · rw [if_neg e, if_neg e, if_neg e, if_neg e, if_neg e]; exact (i6 j hj).2
      · rw [v1 _ _ (by decide) (by decide) (by omega) (by decide), w3 _ _ (by decide) (by decide) (by omega)]
        exact i7 p h1 h2
theorem jdQ_ne {r : (Nat → Nat) × (Nat → Nat) × (Nat → Nat)} {a b : Nat} (h : ¬ (44 ≤ a ∧ a ≤ 46)) : jdQ M r a b = M a b := by
  unfold jdQ jdM
  rw [if_neg (by omega), if_neg (by omega), if_neg (by omega)]
/-- tableOf at a formula of the invariant -/
theorem tb_ok {d m i le t c e : Nat} {P T K X : Nat → Nat} (hsm : sgM M m P T K) (hi : i < 4) (hfo : foM M i le X) (hE : Ev m P T K X 0 le t c e) : ∃ r, zC 47 sc (d + 3) 132 [.ref 33, .int (nI i)] M (some (.int (nI t))) (jdQ M r) ∧ jdQ M r 45 0 = nI c ∧ jdQ M r 46 0 = nI e := by
  obtain ⟨h1, h2, h3, h4⟩ := Ev_W (M := M) hE
  have hc := c_132 (sc := sc) (d := d) hsm hi hfo h1
  rw [h2] at hc
  refine ⟨_, hc, ?_, ?_⟩
  · show nI ((jdW M P T K X le).2.1 0) = nI c
    rw [h3]
  · show nI ((jdW M P T K X le).2.2 0) = nI e
    rw [h4]
theorem op_formula {x w : Int32} (hI : INV M) : OP sc 77 133 [.int x, .int w] M := by
  obtain ⟨m, P, T, K, len, Y, tb, co, de, le, X, h⟩ := id hI
  obtain ⟨i1, i2, i3, i4, i5, i6, i7, i8⟩ := id h
  by_cases hx : zin x (nI 0) (nI 3) = true ∧ zin w (nI 0) (nI 7) = true
  · obtain ⟨i, hi0, hi, rfl⟩ := zin_x2 (by decide) (by decide) hx.1
    obtain ⟨k, hk0, hk, rfl⟩ := zin_x2 (by decide) (by decide) hx.2
    have hi4 : i < 4 := by omega
    obtain ⟨r, hT, h45, h46⟩ := tb_ok (sc := sc) (d := 26) i2 hi4 (i6 i hi4).1 (i6 i hi4).2
    have h40 : jdQ M r 40 i = nI (le i) := by rw [jdQ_ne (by decide)]; exact (i6 i hi4).1.1
    have h2 := c_133 (sc := sc) (d := 20) i2 hi4 hk (i5.2 i hi4) hT h45 h46 h40
    have e : fForm tb co de le (nI i) (nI k) = nI (fFormN (tb i) (co i) (de i) (le i) k) := by
      unfold fForm fFormN
      rw [if_pos (by rw [zfo_zin]; exact hx.1), nI_clamp (by omega)]
      rcases (show k = 0 ∨ k = 1 ∨ k = 2 ∨ k = 3 ∨ k = 4 ∨ k = 5 ∨ k = 6 ∨ k = 7 by omega) with rfl | rfl | rfl | rfl | rfl | rfl | rfl | rfl <;> rfl
    rw [← e] at h2
    exact ⟨_, _, _, c_77 (d := 26) i5, h2, m, P, T, K, len, Y, tb, co, de, le, X, IV_fr (fun a b hz => jdQ_ne (by unfold zrel at hz; omega)) h⟩
  · have e : fForm tb co de le x w = -1 := by
      unfold fForm
      by_cases h1 : zfo x = true
      · rw [if_pos h1]
        have hw : zin w (nI 0) (nI 7) = false := by
          cases hz : zin w (nI 0) (nI 7) with
          | false => rfl
          | true => exact absurd ⟨by rw [← zfo_zin]; exact h1, hz⟩ hx
        have hn : ∀ i, i ≤ 7 → ¬ w = nI i := fun i hi => zin_no (by decide) hw hi
        rw [if_neg (hn 0 (by decide)), if_neg (hn 1 (by decide)), if_neg (hn 2 (by decide)), if_neg (hn 3 (by decide)), if_neg (hn 4 (by decide)), if_neg (hn 5 (by decide)), if_neg (hn 6 (by decide)), if_neg (hn 7 (by decide))]
      · rw [if_neg h1]
    have h1 := c_77 (sc := sc) (d := 26) (x := x) (w := w) i5
    rw [e] at h1
    exact ⟨_, M, M, h1, c_133b (d := 20) i2 hx, hI⟩
theorem op_both {x y w : Int32} (hI : INV M) : OP sc 79 135 [.int x, .int y, .int w] M := by
  obtain ⟨m, P, T, K, len, Y, tb, co, de, le, X, h⟩ := id hI
  obtain ⟨i1, i2, i3, i4, i5, i6, i7, i8⟩ := id h
  by_cases hx : zin x (nI 0) (nI 3) = true ∧ zin y (nI 0) (nI 3) = true ∧ zin w (nI 0) (nI 2) = true
  · obtain ⟨i, hi0, hi, rfl⟩ := zin_x2 (by decide) (by decide) hx.1
    obtain ⟨j, hj0, hj, rfl⟩ := zin_x2 (by decide) (by decide) hx.2.1
    obtain ⟨k, hk0, hk, rfl⟩ := zin_x2 (by decide) (by decide) hx.2.2
    have hi4 : i < 4 := by omega
    have hj4 : j < 4 := by omega
    obtain ⟨r, hT, _, _⟩ := tb_ok (sc := sc) (d := 26) i2 hi4 (i6 i hi4).1 (i6 i hi4).2
    obtain ⟨r2, hT2, _, _⟩ := tb_ok (sc := sc) (M := jdQ M r) (d := 26) i2 hj4 (i6 j hj4).1 (i6 j hj4).2
    have h2 := c_135 (sc := sc) (d := 20) i2 hi4 hj4 hk (i5.2 i hi4) (i5.2 j hj4) hT hT2
    have e : fBoth tb (nI i) (nI j) (nI k) = fBothN (tb i) (tb j) k := by
      unfold fBoth fBothN
      rw [if_pos ⟨by rw [zfo_zin]; exact hx.1, by rw [zfo_zin]; exact hx.2.1⟩, nI_clamp (by omega), nI_clamp (by omega)]
      rcases (show k = 0 ∨ k = 1 ∨ k = 2 by omega) with rfl | rfl | rfl <;> rfl
    rw [← e] at h2
    exact ⟨_, _, _, c_79 (d := 27) i5, h2, m, P, T, K, len, Y, tb, co, de, le, X, IV_fr (fun a b hz => by
      have hz' : ¬ (44 ≤ a ∧ a ≤ 46) := by unfold zrel at hz; omega
      rw [jdQ_ne hz', jdQ_ne hz']) h⟩
  · have e : fBoth tb x y w = -1 := by
      unfold fBoth
      by_cases h1 : zfo x = true ∧ zfo y = true
      · rw [if_pos h1]
        have hw : zin w (nI 0) (nI 2) = false := by
          cases hz : zin w (nI 0) (nI 2) with
          | false => rfl
          | true => exact absurd ⟨by rw [← zfo_zin]; exact h1.1, by rw [← zfo_zin]; exact h1.2, hz⟩ hx
        have hn : ∀ i, i ≤ 2 → ¬ w = nI i := fun i hi => zin_no (by decide) hw hi
        rw [if_neg (hn 0 (by decide)), if_neg (hn 1 (by decide)), if_neg (hn 2 (by decide))]
      · rw [if_neg h1]
    have h1 := c_79 (sc := sc) (d := 27) (x := x) (y := y) (w := w) i5
    rw [e] at h1
    exact ⟨_, M, M, h1, c_135b (d := 20) i2 hx, hI⟩
end TXT
