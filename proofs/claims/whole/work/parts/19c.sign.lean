section SGN
variable {sc : Nat × (Nat → Int32)} {M : zM}
theorem zfa_at {a b : Nat} (h : a < 28 ∨ 33 ≤ a) (h8 : ¬ ((a = 9 ∨ a = 14 ∨ a = 19) ∧ b = 8)) : zfa M a b = M a b := by
  unfold zfa zfx zfil zup
  rw [if_neg (by omega), if_neg (by omega)]
  by_cases e1 : a = 19
  · rw [if_pos e1, if_neg (by omega), if_neg (by omega), if_neg (by omega)]
  · rw [if_neg e1]
    by_cases e2 : a = 14
    · rw [if_pos e2, if_neg (by omega), if_neg (by omega)]
    · rw [if_neg e2]
      by_cases e3 : a = 9
      · rw [if_pos e3, if_neg (by omega)]
      · rw [if_neg e3]
theorem zfa_fo {i b : Nat} (hi : i < 4) (hb : b < 4) : zfa M (28 + i) b = xv b := by
  unfold zfa zfx
  rw [if_pos ⟨by omega, by omega, hb⟩]
theorem zfa_32 {q : Nat} (hq : q < 4) : zfa M 32 q = -1 := by
  unfold zfa zfx zfil
  rw [if_neg (by omega), if_pos ⟨rfl, by omega, by omega⟩]
theorem zfa_8 {rc n N : Nat} (h : zrc rc n N) : zfa M rc 8 = nI 0 := by
  rcases h with ⟨rfl, -, -⟩ | ⟨rfl, -, -⟩ | ⟨rfl, -, -⟩ <;> rfl
theorem zem_at {a b : Nat} (h : ¬ a = 39) (h2 : ¬ a = 40) : zem M 0 4 a b = M a b := by
  unfold zem
  rw [if_neg (by omega), if_neg (by omega)]
theorem zem_40 {i : Nat} (hi : i < 4) : zem M 0 4 40 i = nI 1 := by
  unfold zem
  rw [if_pos ⟨rfl, by omega, by omega⟩]
theorem zem_39 {i : Nat} (hi : i < 4) : zem M 0 4 39 (30 * i) = nI 120 := by
  unfold zem
  rw [if_neg (by omega), if_pos ⟨rfl, by omega, by omega, by omega⟩]
/-- all formulas are x, nothing is known -/
theorem IV_new {M' Mb : zM} {m len m' : Nat} {P T K P' T' K' Y tb co de le : Nat → Nat} {X : Nat → Nat → Nat} (hI : IV M m P T K len Y tb co de le X) (h1 : sgC M' m' P' T' K') (h2 : sgM M' m' P' T' K') (h3 : M' 24 1 = M 24 1) (h4 : ∀ b, M' 25 b = M 25 b) (h5 : M' 33 10 = M 33 10) (h6 : ∀ b, M' 38 b = M 38 b)
    (h7 : ∀ i b, i < 4 → b < 4 → M' (28 + i) b = xv b) (h8 : ∀ q, q < 4 → M' 32 q = -1) (h9 : ∀ rc n N, zrc rc n N → M' rc 8 = nI 0 ∧ M' rc 0 = M rc 0 ∧ M' rc 1 = M rc 1) (h10 : ∀ i, i < 4 → M' 40 i = nI 1 ∧ M' 39 (30 * i) = nI 120) : INV M' := by
  obtain ⟨i1, i2, i3, i4, i5, i6, i7, i8⟩ := hI
  refine ⟨m', P', T', K', len, Y, fun _ => 170, fun _ => 0, fun _ => 0, fun _ => 1, fun _ _ => 120, h1, h2, txC_fr h3 h4 i3, txM_fr h5 h6 i4, ⟨fun i hi => ⟨h7 i 0 hi (by decide), h7 i 1 hi (by decide), h7 i 2 hi (by decide), h7 i 3 hi (by decide)⟩, fun i _ => by show 170 < 256; decide⟩, fun i hi => ⟨⟨(h10 i hi).1, by show 1 ≤ 30; decide, fun k hk => ?_⟩, ?_⟩, fun q hq1 hq => Or.inl (h8 q hq), fun rc n N hrc => ?_⟩
  · have hk' : k < 1 := hk
    obtain rfl : k = 0 := by omega
    exact ⟨(h10 i hi).2, by show 120 < 256; decide⟩
  · have h := Ev_pl (m := m') (P := P') (T := T') (K := K') (X := fun _ => 120) (k := 0) (by decide) (by decide)
    rw [show plN 3 (120 - 120) = 170 by decide +kernel] at h
    exact h
  · obtain ⟨a1, a2, a3⟩ := h9 rc n N hrc
    obtain ⟨b1, b2, _⟩ := i8 rc n N hrc
    exact ⟨a2.trans b1, a3.trans b2, Or.inl a1⟩
theorem op_sign {x y z : Int32} (hI : INV M) : OP sc 56 92 [.int x, .int y, .int z] M := by
  obtain ⟨m, P, T, K, len, Y, tb, co, de, le, X, h⟩ := id hI
  obtain ⟨i1, i2, i3, i4, i5, i6, i7, i8⟩ := id h
  cases hx : zsok x y z with
  | false => exact ⟨_, M, M, c_56a (d := 24) i1 hx, c_92a (d := 28) i2 hx, hI⟩
  | true =>
    obtain ⟨p, t, c, hp, ht, hc1, hc9, rfl, rfl, rfl⟩ := zsok_zin hx
    by_cases h6 : m = 6
    · exact ⟨_, M, M, c_56b (d := 24) i1 hx h6, c_92b (d := 28) i2 hp ht hc1 hc9 h6, hI⟩
    · have hm : m < 6 := by have := i1.1; omega
      have e1 : ∀ a b, 33 ≤ a → zfa (zup (zsgn M m p t c) 1 1 (nI (m + 1))) a b = M a b := fun a b ha => by
        rw [zfa_at (Or.inr ha) (by omega)]
        unfold zup zsgn zup
        rw [if_neg (by omega), if_neg (by omega), if_neg (by omega), if_neg (by omega), if_neg (by omega), if_neg (by omega)]
      have hsm1 : sgM (zfa (zup (zsgn M m p t c) 1 1 (nI (m + 1)))) m P T K := sgM_fr (fun a b ha => e1 a b (by omega)) i2
      refine ⟨_, _, _, c_56c (d := 24) i1 hm hp ht hx, c_92c (d := 28) hsm1 hp ht hc1 hc9 hm, ?_⟩
      generalize hM1 : zfa (zup (zsgn M m p t c) 1 1 (nI (m + 1))) = M1 at e1 hsm1
      have e2 : ∀ a b, ¬ a = 39 → ¬ a = 40 → ¬ (a = 33 ∧ b = 1) → ¬ (34 ≤ a ∧ a ≤ 36) → zem (zmsg M1 m p t c) 0 4 a b = M1 a b := fun a b h1 h2 h3 h4 => by
        rw [zem_at h1 h2]
        unfold zmsg zup
        by_cases e : a = 33
        · rw [if_pos e, if_neg (fun q => h3 ⟨e, q⟩), if_neg (by omega), if_neg (by omega), if_neg (by omega)]
        · rw [if_neg e, if_neg (by omega), if_neg (by omega), if_neg (by omega)]
      have e3 : ∀ a b, a < 28 → ¬ a = 1 → ¬ (3 ≤ a ∧ a ≤ 8) → ¬ ((a = 9 ∨ a = 14 ∨ a = 19) ∧ b = 8) → M1 a b = M a b := fun a b h1 h2 h3 h4 => by
        rw [← hM1, zfa_at (Or.inl h1) h4]
        unfold zup zsgn zup
        rw [if_neg h2, if_neg (by omega), if_neg (by omega), if_neg (by omega), if_neg (by omega), if_neg (by omega)]
      refine IV_new (Mb := M) h (m' := m + 1) (P' := fn P m p) (T' := fn T m t) (K' := fn K m c) ?_ ?_ ?_ ?_ ?_ ?_ ?_ ?_ ?_ ?_
      · refine sg_frame (M := M1) (fun a b ha => e2 a b (by omega) (by omega) (by omega) (by omega)) ?_
        rw [← hM1]
        refine sg_frame (M := zup (zsgn M m p t c) 1 1 (nI (m + 1))) (fun a b ha => zfa_at (Or.inl (by omega)) (by omega)) ?_
        refine ⟨by omega, by unfold zup; rw [if_pos rfl, if_pos rfl], fun i hi => ?_, fun i hi => ?_⟩
        · unfold fn
          by_cases e : i = m
          · rw [if_pos e, if_pos e, if_pos e]; exact ⟨hp, ht, hc1, hc9⟩
          · rw [if_neg e, if_neg e, if_neg e]; exact i1.2.2.1 i (by omega)
        · unfold fn
          by_cases e : i = m
          · subst e
            rw [if_pos rfl, if_pos rfl, if_pos rfl]
            unfold zup zsgn zup
            simp
            omega
          · rw [if_neg e, if_neg e, if_neg e]
            have e4 : ∀ b, zup (zsgn M m p t c) 1 1 (nI (m + 1)) (3 + i) b = M (3 + i) b := fun b => by
              unfold zup zsgn zup
              rw [if_neg (by omega), if_neg (by omega), if_neg (by omega), if_neg (by omega), if_neg (by omega), if_neg (by omega)]
            rw [e4, e4, e4, e4, e4]
            exact i1.2.2.2 i (by omega)
      · have h33 : ∀ a b, ¬ a = 39 → ¬ a = 40 → zem (zmsg M1 m p t c) 0 4 a b = zmsg M1 m p t c a b := fun a b h1 h2 => zem_at h1 h2
        refine ⟨?_, ?_, by omega, fun i hi => ?_, fun i hi => ?_⟩
        · rw [e2 33 0 (by decide) (by decide) (by decide) (by decide)]; exact hsm1.1
        · rw [h33 _ _ (by decide) (by decide)]; unfold zmsg zup; rw [if_pos rfl, if_pos rfl]
        · unfold fn
          by_cases e : i = m
          · rw [if_pos e, if_pos e, if_pos e]; exact ⟨hp, ht, hc1, hc9⟩
          · rw [if_neg e, if_neg e, if_neg e]; exact i1.2.2.1 i (by omega)
        · rw [h33 _ _ (by decide) (by decide), h33 _ _ (by decide) (by decide), h33 _ _ (by decide) (by decide)]
          unfold fn zmsg zup
          by_cases e : i = m
          · subst e
            simp
          · have := hsm1.2.2.2.2 i (by omega)
            simp [e]
            exact this
      · rw [e2 _ _ (by decide) (by decide) (by decide) (by decide), e3 _ _ (by decide) (by decide) (by decide) (by decide)]
      · intro b; rw [e2 _ _ (by decide) (by decide) (by omega) (by decide), e3 _ _ (by decide) (by decide) (by decide) (by omega)]
      · rw [e2 _ _ (by decide) (by decide) (by decide) (by decide), e1 _ _ (by decide)]
      · intro b; rw [e2 _ _ (by decide) (by decide) (by omega) (by decide), e1 _ _ (by decide)]
      · intro i b hi hb; rw [e2 _ _ (by omega) (by omega) (by omega) (by omega), ← hM1]; exact zfa_fo hi hb
      · intro q hq; rw [e2 _ _ (by omega) (by omega) (by omega) (by omega), ← hM1]; exact zfa_32 hq
      · intro rc n N hrc
        have hr := zrc_le hrc
        rw [e2 _ _ (by omega) (by omega) (by omega) (by omega), e2 _ _ (by omega) (by omega) (by omega) (by omega), e2 _ _ (by omega) (by omega) (by omega) (by omega)]
        refine ⟨by rw [← hM1]; exact zfa_8 hrc, e3 _ _ (by omega) (by omega) (by omega) (by omega), e3 _ _ (by omega) (by omega) (by omega) (by omega)⟩
      · intro i hi; exact ⟨zem_40 hi, zem_39 hi⟩
theorem op_drop (hI : INV M) : OP sc 57 93 [] M := by
  obtain ⟨m, P, T, K, len, Y, tb, co, de, le, X, h⟩ := id hI
  obtain ⟨i1, i2, i3, i4, i5, i6, i7, i8⟩ := id h
  by_cases h0 : m = 0
  · exact ⟨_, M, M, c_57a (d := 26) i1 h0, c_93a (d := 28) i2 h0, hI⟩
  · have e1 : ∀ a b, 33 ≤ a → zfa (zup M 1 1 (nI (m - 1))) a b = M a b := fun a b ha => by
      rw [zfa_at (Or.inr ha) (by omega)]
      unfold zup
      rw [if_neg (by omega)]
    have hsm1 : sgM (zfa (zup M 1 1 (nI (m - 1)))) m P T K := sgM_fr (fun a b ha => e1 a b (by omega)) i2
    refine ⟨_, _, _, c_57b (d := 26) i1 (by omega), c_93b (d := 28) hsm1 (by omega), ?_⟩
    generalize hM1 : zfa (zup M 1 1 (nI (m - 1))) = M1 at e1 hsm1
    have e2 : ∀ a b, ¬ a = 39 → ¬ a = 40 → ¬ (a = 33 ∧ b = 1) → zem (zup M1 33 1 (nI (m - 1))) 0 4 a b = M1 a b := fun a b h1 h2 h3 => by
      rw [zem_at h1 h2]
      unfold zup
      by_cases e : a = 33
      · rw [if_pos e, if_neg (fun q => h3 ⟨e, q⟩)]
      · rw [if_neg e]
    have e3 : ∀ a b, a < 28 → ¬ a = 1 → ¬ ((a = 9 ∨ a = 14 ∨ a = 19) ∧ b = 8) → M1 a b = M a b := fun a b h1 h2 h4 => by
      rw [← hM1, zfa_at (Or.inl h1) h4]
      unfold zup
      rw [if_neg h2]
    refine IV_new (Mb := M) h (m' := m - 1) (P' := P) (T' := T) (K' := K) ?_ ?_ ?_ ?_ ?_ ?_ ?_ ?_ ?_ ?_
    · refine sg_frame (M := M1) (fun a b ha => e2 a b (by omega) (by omega) (by omega)) ?_
      rw [← hM1]
      refine sg_frame (M := zup M 1 1 (nI (m - 1))) (fun a b ha => zfa_at (Or.inl (by omega)) (by omega)) ?_
      have := i1.1
      refine ⟨by omega, by unfold zup; rw [if_pos rfl, if_pos rfl], fun i hi => i1.2.2.1 i (by omega), fun i hi => ?_⟩
      have e4 : ∀ b, zup M 1 1 (nI (m - 1)) (3 + i) b = M (3 + i) b := fun b => if_neg (by omega)
      rw [e4, e4, e4, e4, e4]
      exact i1.2.2.2 i (by omega)
    · have := i1.1
      refine ⟨?_, ?_, by omega, fun i hi => i1.2.2.1 i (by omega), fun i hi => ?_⟩
      · rw [e2 33 0 (by decide) (by decide) (by decide)]; exact hsm1.1
      · rw [zem_at (by decide) (by decide)]; unfold zup; rw [if_pos rfl, if_pos rfl]
      · rw [e2 _ _ (by decide) (by decide) (by omega), e2 _ _ (by decide) (by decide) (by omega), e2 _ _ (by decide) (by decide) (by omega)]
        exact hsm1.2.2.2.2 i (by omega)
    · rw [e2 _ _ (by decide) (by decide) (by decide), e3 _ _ (by decide) (by decide) (by decide)]
    · intro b; rw [e2 _ _ (by decide) (by decide) (by omega), e3 _ _ (by decide) (by decide) (by omega)]
    · rw [e2 _ _ (by decide) (by decide) (by decide), e1 _ _ (by decide)]
    · intro b; rw [e2 _ _ (by decide) (by decide) (by omega), e1 _ _ (by decide)]
    · intro i b hi hb; rw [e2 _ _ (by omega) (by omega) (by omega), ← hM1]; exact zfa_fo hi hb
    · intro q hq; rw [e2 _ _ (by omega) (by omega) (by omega), ← hM1]; exact zfa_32 hq
    · intro rc n N hrc
      have hr := zrc_le hrc
      rw [e2 _ _ (by omega) (by omega) (by omega), e2 _ _ (by omega) (by omega) (by omega), e2 _ _ (by omega) (by omega) (by omega)]
      refine ⟨by rw [← hM1]; exact zfa_8 hrc, e3 _ _ (by omega) (by omega) (by omega), e3 _ _ (by omega) (by omega) (by omega)⟩
    · intro i hi; exact ⟨zem_40 hi, zem_39 hi⟩
end SGN
