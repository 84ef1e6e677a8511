section FDT
variable {m : Nat} {P T K : Nat → Nat}
theorem finds_iv {n B : Nat} {IV : (Nat → Int32) → Prop} (hsw : ∀ f, IV f → Wb m P T K n B f → PLf n f → IV (fsW m P T K n (z22 n) f).1 ∧ BI m P T K n B f (fsW m P T K n (z22 n) f)) : ∀ k f, IV f → Wb m P T K n B f → PLf n f → IV (fsR m P T K n (z22 n) k f) := by
  intro k
  induction k with
  | zero => intro f h1 _ _; exact h1
  | succ k ih =>
    intro f h1 h2 h3
    obtain ⟨i1, i2, i3, i4, i5⟩ := hsw f h1 h2 h3
    have hR : fsR m P T K n (z22 n) (k + 1) f = if (fsW m P T K n (z22 n) f).2 = true then fsR m P T K n (z22 n) k (fsW m P T K n (z22 n) f).1 else (fsW m P T K n (z22 n) f).1 := rfl
    rw [hR]
    split
    · exact ih _ i1 i2 i3
    · exact i1
def IV3 (m : Nat) (P T K : Nat → Nat) (f : Nat → Int32) : Prop := ∃ k, k < 555 ∧ FS m P T K (gS k) (fun _ => 9 * gP k) f
def Btr : Nat := 600000000
theorem sign_any {i k : Nat} {f0 : Nat → Int32} {s : (Nat → Int32) × Bool} (hi : i < m) (hR : P i < 4 ∧ T i < z22 (P i) ∧ 1 ≤ K i ∧ K i ≤ 9) (h3 : ¬ P i = 3) (hk : k < 555) (hF : FS m P T K (gS k) (fun _ => 9 * gP k) s.1) (hI : BI m P T K 3 Btr f0 s) : IV3 m P T K (fsI P T K 3 (z22 3) i s).1 ∧ BI m P T K 3 Btr f0 (fsI P T K 3 (z22 3) i s) := by
  have hB : Btr = 600000000 := rfl
  obtain ⟨g1, g2, g3⟩ := g_ok k hk
  have hK := hR.2.2.2
  rcases (show P i = 0 ∨ P i = 1 ∨ P i = 2 by omega) with hP | hP | hP
  · have hT : T i < 2 := by have := hR.2.1; rw [hP] at this; exact this
    have key : ∀ T5, T5 < 16 → ck1 (Nat.shiftLeft 1 (toN (T i) 8 0 0 0)) T5 k = true → IV3 m P T K (fsI P T K 3 (z22 3) i s).1 ∧ BI m P T K 3 Btr f0 (fsI P T K 3 (z22 3) i s) := fun T5 h5 hck => by
      have h := sign0 (B := Btr) hi hP hK (by omega) g1 hck (by omega) hF hI
      exact ⟨⟨gN k T5, g3 T5 h5, h.1⟩, h.2⟩
    rcases (show T i = 0 ∨ T i = 1 by omega) with e | e
    · exact key 0 (by decide) (by rw [e]; exact ckc_0 k hk)
    · exact key 15 (by decide) (by rw [e]; exact ckc_1 k hk)
  · have hT : T i < 4 := by have := hR.2.1; rw [hP] at this; exact this
    have key : ∀ T5, T5 < 16 → ck1 (mg (tB (T i) 0) (tB (T i) 1) (tB (T i) 0) (tB (T i) 1) 0 (gS k)) T5 k = true → IV3 m P T K (fsI P T K 3 (z22 3) i s).1 ∧ BI m P T K 3 Btr f0 (fsI P T K 3 (z22 3) i s) := fun T5 h5 hck => by
      have h := sign1 (B := Btr) hi hP hK (by omega) g1 hck (by omega) hF hI
      exact ⟨⟨gN k T5, g3 T5 h5, h.1⟩, h.2⟩
    rcases (show T i = 0 ∨ T i = 1 ∨ T i = 2 ∨ T i = 3 by omega) with e | e | e | e
    · exact key 0 (by decide) (by rw [e]; exact ckb_0 k hk)
    · exact key 5 (by decide) (by rw [e]; exact ckb_1 k hk)
    · exact key 10 (by decide) (by rw [e]; exact ckb_2 k hk)
    · exact key 15 (by decide) (by rw [e]; exact ckb_3 k hk)
  · have hT : T i < 16 := by have := hR.2.1; rw [hP] at this; exact this
    have key : ck (tB (T i) 0) (tB (T i) 2) (tB (T i) 1) (tB (T i) 3) (T i) k = true → IV3 m P T K (fsI P T K 3 (z22 3) i s).1 ∧ BI m P T K 3 Btr f0 (fsI P T K 3 (z22 3) i s) := fun hck => by
      have h4 := (g_ok (gN k (T i)) (g3 (T i) hT)).2.1
      have h := sign2 (B := Btr) hi hP hK (by omega) hck (by omega) hF hI
      exact ⟨⟨gN k (T i), g3 (T i) hT, h.1⟩, h.2⟩
    refine key ?_
    rcases (show T i = 0 ∨ T i = 1 ∨ T i = 2 ∨ T i = 3 ∨ T i = 4 ∨ T i = 5 ∨ T i = 6 ∨ T i = 7 ∨ T i = 8 ∨ T i = 9 ∨ T i = 10 ∨ T i = 11 ∨ T i = 12 ∨ T i = 13 ∨ T i = 14 ∨ T i = 15 by omega) with e | e | e | e | e | e | e | e | e | e | e | e | e | e | e | e
    · rw [e]; exact cka_0 hk
    · rw [e]; exact cka_1 hk
    · rw [e]; exact cka_2 hk
    · rw [e]; exact cka_3 hk
    · rw [e]; exact cka_4 hk
    · rw [e]; exact cka_5 hk
    · rw [e]; exact cka_6 hk
    · rw [e]; exact cka_7 hk
    · rw [e]; exact cka_8 hk
    · rw [e]; exact cka_9 hk
    · rw [e]; exact cka_10 hk
    · rw [e]; exact cka_11 hk
    · rw [e]; exact cka_12 hk
    · rw [e]; exact cka_13 hk
    · rw [e]; exact cka_14 hk
    · rw [e]; exact cka_15 hk
theorem gS_0 : ∀ t, t < 256 → (gS 0).testBit t = (decide (t = plN 3 0) || decide (t = plN 3 1) || decide (t = plN 3 2)) := by decide +kernel
theorem fi_FS {f : Nat → Int32} : FS m P T K (gS 0) (fun _ => 9 * gP 0) (fi1 3 3 0 (fi0 (z22 3) 0 f)) := by
  intro t ht
  have hg := gS_0 t ht
  rcases fi1_at (n := 3) (q := t) 3 0 (fi0 (z22 3) 0 f) with ⟨h1, k, _, h2, h3⟩ | ⟨h1, h2⟩
  · refine Or.inl ⟨?_, 0, h1, by rw [h3]; exact (Dv_cl m P T K 3).1 k (by omega), by show 0 + 9 ≤ 9 * gP 0; decide +kernel⟩
    rw [hg]
    rcases (show k = 0 ∨ k = 1 ∨ k = 2 by omega) with rfl | rfl | rfl
    · rw [decide_eq_true h3]; rfl
    · rw [decide_eq_true h3]; simp
    · rw [decide_eq_true h3]; simp
  · refine Or.inr ⟨?_, h1.trans ((fi0_at (z22 3) 0 f).1 ⟨Nat.zero_le _, by rw [z22_3]; omega⟩)⟩
    rw [hg, decide_eq_false (h2 0 (by decide) (by decide)), decide_eq_false (h2 1 (by decide) (by decide)), decide_eq_false (h2 2 (by decide) (by decide))]
    rfl
theorem finds_3 (hR : ∀ i, i < m → P i < 4 ∧ T i < z22 (P i) ∧ 1 ≤ K i ∧ K i ≤ 9) (h3 : ∀ i, i < m → ¬ P i = 3) (f : Nat → Int32) : ∃ k, fsOK m P T K 3 (z22 3) k (fi1 3 3 0 (fi0 (z22 3) 0 f)) ∧ FX m P T K 3 193710240 (fsR m P T K 3 (z22 3) k (fi1 3 3 0 (fi0 (z22 3) 0 f))) := by
  have hB : Btr = 600000000 := rfl
  have hw := fi_W (m := m) (P := P) (T := T) (K := K) (n := 3) (f := f)
  have hup : Wb m P T K 3 Btr (fi1 3 3 0 (fi0 (z22 3) 0 f)) := fun t ht => by
    rcases hw.1 t ht with h | ⟨v, h1, h2, h4⟩
    · exact Or.inl h
    · exact Or.inr ⟨v, h1, by omega, h4⟩
  have hsw : ∀ f, IV3 m P T K f → Wb m P T K 3 Btr f → PLf 3 f → IV3 m P T K (fsW m P T K 3 (z22 3) f).1 ∧ BI m P T K 3 Btr f (fsW m P T K 3 (z22 3) f) := by
    intro f h1 h2 h4
    unfold fsW
    refine zfor_inv (I := fun s => IV3 m P T K s.1 ∧ BI m P T K 3 Btr f s) _ _ _ (fun i s _ hi hs => ?_) (show IV3 m P T K (f, false).1 ∧ BI m P T K 3 Btr f (f, false) from ⟨h1, h2, h4, Nat.le_refl _, fun z => by cases z⟩)
    obtain ⟨⟨k, hk, hF⟩, hI⟩ := hs
    exact sign_any (by omega) (hR i (by omega)) (h3 i (by omega)) hk hF hI
  have h0 : IV3 m P T K (fi1 3 3 0 (fi0 (z22 3) 0 f)) := ⟨0, by decide, fi_FS⟩
  refine ⟨sm (mh Btr (fi1 3 3 0 (fi0 (z22 3) 0 f))) (z22 3) + 1, ?_, ?_⟩
  · exact (finds_ok (IV := IV3 m P T K) (by decide) (by omega) (fun i hi => (hR i hi).2.2.2) hsw _ _ h0 hup hw.2 (by omega)).1
  · have hX := (finds_ok (IV := IV3 m P T K) (by decide) (by omega) (fun i hi => (hR i hi).2.2.2) hsw (sm (mh Btr (fi1 3 3 0 (fi0 (z22 3) 0 f))) (z22 3) + 1) _ h0 hup hw.2 (by omega)).2
    obtain ⟨k, hk, hF⟩ := finds_iv (IV := IV3 m P T K) hsw (sm (mh Btr (fi1 3 3 0 (fi0 (z22 3) 0 f))) (z22 3) + 1) _ h0 hup hw.2
    have hg := (g_ok k hk).2.1
    intro t ht
    rcases hX t ht with h | ⟨v, h1, h2, h4⟩
    · exact Or.inl h
    · refine Or.inr ⟨v, h1, ?_, h4⟩
      rcases hF t (by rw [z22_3] at ht; exact ht) with ⟨_, v', k2, _, k4⟩ | ⟨_, k2⟩
      · dsimp only at k4
        have : v = v' := (nI_eq (by omega) (by omega)).mp (h1.symm.trans k2)
        omega
      · exact absurd (h1.symm.trans k2) (nI_m9 (by omega))
end FDT
