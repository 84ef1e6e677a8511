section SWQ
variable {m : Nat} {P T K : Nat → Nat} {B : Nat}
theorem FS_le {S : Nat} {w w' : Nat → Nat} {f : Nat → Int32} (h : FS m P T K S w f) (hw : ∀ t, t < 256 → S.testBit t = true → w t ≤ w' t) : FS m P T K S w' f := fun t ht => by
  rcases h t ht with ⟨h1, v, h2, h3, h4⟩ | h1
  · exact Or.inl ⟨h1, v, h2, h3, Nat.le_trans h4 (hw t ht h1)⟩
  · exact Or.inr h1
theorem FS_eq {S S' : Nat} {w : Nat → Nat} {f : Nat → Int32} (h : FS m P T K S w f) (hs : ∀ t, t < 256 → S'.testBit t = S.testBit t) : FS m P T K S' w f := fun t ht => by rw [hs t ht]; exact h t ht
theorem lk_c {t n v : Nat} {G : List (Nat × Nat)} : lk (Nat.shiftLeft 1 t) ((n, v) :: G) = if n.testBit t = true then v else lk (Nat.shiftLeft 1 t) G := by
  show cond (Nat.beq (Nat.land n (Nat.shiftLeft 1 t)) 0) (lk (Nat.shiftLeft 1 t) G) v = _
  have h1 : ∀ q, (n &&& 1 <<< t).testBit q = (n.testBit q && decide (t = q)) := fun q => by rw [Nat.testBit_and, Nat.one_shiftLeft, Nat.testBit_two_pow]
  cases hn : n.testBit t with
  | true =>
    rw [if_pos rfl]
    cases hb : Nat.beq (Nat.land n (Nat.shiftLeft 1 t)) 0 with
    | false => rfl
    | true =>
      have h2 : n &&& 1 <<< t = 0 := Nat.eq_of_beq_eq_true hb
      have h3 := h1 t
      rw [h2, Nat.zero_testBit, hn, decide_eq_true rfl] at h3
      cases h3
  | false =>
    rw [if_neg (by decide)]
    have h2 : Nat.land n (Nat.shiftLeft 1 t) = 0 := by
      show n &&& 1 <<< t = 0
      apply Nat.eq_of_testBit_eq
      intro q
      rw [h1, Nat.zero_testBit]
      by_cases e : t = q
      · rw [← e, hn]; rfl
      · rw [decide_eq_false e, Bool.and_false]
    rw [h2]
    rfl
theorem lkA_y {S0 t : Nat} {G : List (Nat × Nat)} (h : S0.testBit t = true) : lkA S0 t G = 1 := by unfold lkA; rw [bB_tb, h]; rfl
theorem lkA_n {S0 t : Nat} {G : List (Nat × Nat)} (h : S0.testBit t = false) : lkA S0 t G = lk (Nat.shiftLeft 1 t) G := by unfold lkA; rw [bB_tb, h]; rfl
/-- between two rows of a sweep from S0, whose costs are within X -/
def SwI (m : Nat) (P T K : Nat → Nat) (B S0 X : Nat) (f0 : Nat → Int32) (x : kT) (s : (Nat → Int32) × Bool) : Prop := FS m P T K x.1 (fun t => lkA S0 t x.2.1 * X) s.1 ∧ (∀ t, t < 256 → x.1.testBit t = true → lkA S0 t x.2.1 ≤ x.2.2) ∧ (∀ t, t < 256 → S0.testBit t = true → x.1.testBit t = true) ∧ BI m P T K 3 B f0 s ∧ 1 ≤ x.2.2
theorem k256_tb {t : Nat} (h : t < 256) : k256.testBit t = true := by
  have e : k256 = 2 ^ 256 - 1 := by decide +kernel
  rw [e, Nat.testBit_two_pow_sub_one]
  exact decide_eq_true h
/-- the kernel's row, as bounds -/
theorem rw2_ok {S0 S S' I0 u z ua X : Nat} {G : List (Nat × Nat)} {f : Nat → Int32} (hF : FS m P T K S' (fun t => if S.testBit t = true then lkA S0 t G * X else if I0.testBit t = true then ua * X + X else z * X) f) (hsub : ∀ t, t < 256 → S.testBit t = true → S'.testBit t = true) (hS0 : ∀ t, t < 256 → S0.testBit t = true → S.testBit t = true) (hu : ∀ t, t < 256 → S.testBit t = true → lkA S0 t G ≤ u) (hu1 : 1 ≤ u) (hz : ua + u ≤ z) :
    FS m P T K (rw2 S S' I0 G u z ua).1 (fun t => lkA S0 t (rw2 S S' I0 G u z ua).2.1 * X) f ∧ (∀ t, t < 256 → (rw2 S S' I0 G u z ua).1.testBit t = true → lkA S0 t (rw2 S S' I0 G u z ua).2.1 ≤ (rw2 S S' I0 G u z ua).2.2) ∧ (∀ t, t < 256 → S0.testBit t = true → (rw2 S S' I0 G u z ua).1.testBit t = true) ∧ u ≤ (rw2 S S' I0 G u z ua).2.2 := by
  have hx : ∀ t, (Nat.xor S' S).testBit t = (S'.testBit t ^^ S.testBit t) := fun t => Nat.testBit_xor S' S t
  have hl : ∀ x y t, (Nat.land x y).testBit t = (x.testBit t && y.testBit t) := fun x y t => Nat.testBit_and x y t
  have hk : ∀ t, t < 256 → (Nat.xor k256 I0).testBit t = !(I0.testBit t) := fun t ht => by
    show (k256 ^^^ I0).testBit t = _
    rw [Nat.testBit_xor, k256_tb ht]
    cases I0.testBit t <;> rfl
  unfold rw2
  cases hc : Nat.beq (Nat.land (Nat.xor S' S) (Nat.xor k256 I0)) 0 with
  | true =>
    have h0 : Nat.land (Nat.xor S' S) (Nat.xor k256 I0) = 0 := Nat.eq_of_beq_eq_true hc
    have key : ∀ t, t < 256 → S'.testBit t = true → (S.testBit t = true ∧ lkA S0 t ((Nat.xor S' S, Nat.add ua 1) :: G) = lkA S0 t G) ∨ (S.testBit t = false ∧ I0.testBit t = true ∧ lkA S0 t ((Nat.xor S' S, Nat.add ua 1) :: G) = ua + 1) := fun t ht h1 => by
      cases hs : S.testBit t with
      | true =>
        refine Or.inl ⟨rfl, ?_⟩
        cases h2 : S0.testBit t with
        | true => rw [lkA_y h2, lkA_y h2]
        | false => rw [lkA_n h2, lkA_n h2, lk_c, hx, h1, hs]; rfl
      | false =>
        have h2 : S0.testBit t = false := by
          cases h3 : S0.testBit t with
          | false => rfl
          | true => rw [hS0 t ht h3] at hs; cases hs
        refine Or.inr ⟨rfl, ?_, ?_⟩
        · have h3 := hl (Nat.xor S' S) (Nat.xor k256 I0) t
          rw [h0, Nat.zero_testBit, hx, h1, hs, hk t ht] at h3
          cases h4 : I0.testBit t with
          | true => rfl
          | false => rw [h4] at h3; cases h3
        · rw [lkA_n h2, lk_c, hx, h1, hs]; rfl
    refine ⟨FS_le hF (fun t ht h1 => ?_), fun t ht h1 => ?_, fun t ht h1 => hsub t ht (hS0 t ht h1), ?_⟩
    · rcases key t ht h1 with ⟨k1, k2⟩ | ⟨k1, k2, k3⟩
      · dsimp only [cond_true]
        rw [if_pos k1, k2]; exact Nat.le_refl _
      · dsimp only [cond_true]
        rw [if_neg (by rw [k1]; decide), if_pos k2, k3, Nat.add_mul, Nat.one_mul]; exact Nat.le_refl _
    · rcases key t ht h1 with ⟨k1, k2⟩ | ⟨k1, k2, k3⟩
      · dsimp only [cond_true]
        rw [k2]
        have := hu t ht k1
        cases hble : Nat.ble u (Nat.add ua 1) with
        | true => have := Nat.le_of_ble_eq_true hble; dsimp only [cond_true]; omega
        | false => dsimp only [cond_false]; exact this
      · dsimp only [cond_true]
        rw [k3]
        cases hble : Nat.ble u (Nat.add ua 1) with
        | true => exact Nat.le_refl _
        | false =>
          dsimp only [cond_false]
          rcases Nat.lt_or_ge u (ua + 1) with h5 | h5
          · have : Nat.ble u (Nat.add ua 1) = true := Nat.ble_eq_true_of_le (Nat.le_of_lt h5)
            rw [hble] at this; cases this
          · exact h5
    · dsimp only [cond_true]
      cases hble : Nat.ble u (Nat.add ua 1) with
      | true => exact Nat.le_of_ble_eq_true hble
      | false => exact Nat.le_refl _
  | false =>
    have key : ∀ t, t < 256 → S'.testBit t = true → (S.testBit t = true ∧ lkA S0 t ((Nat.land (Nat.xor S' S) I0, Nat.add ua 1) :: (Nat.land (Nat.xor S' S) (Nat.xor k256 I0), z) :: G) = lkA S0 t G) ∨ (S.testBit t = false ∧ I0.testBit t = true ∧ lkA S0 t ((Nat.land (Nat.xor S' S) I0, Nat.add ua 1) :: (Nat.land (Nat.xor S' S) (Nat.xor k256 I0), z) :: G) = ua + 1) ∨ (S.testBit t = false ∧ I0.testBit t = false ∧ lkA S0 t ((Nat.land (Nat.xor S' S) I0, Nat.add ua 1) :: (Nat.land (Nat.xor S' S) (Nat.xor k256 I0), z) :: G) = z) := fun t ht h1 => by
      cases hs : S.testBit t with
      | true =>
        refine Or.inl ⟨rfl, ?_⟩
        cases h2 : S0.testBit t with
        | true => rw [lkA_y h2, lkA_y h2]
        | false => rw [lkA_n h2, lkA_n h2, lk_c, lk_c, hl, hl, hx, h1, hs]; rfl
      | false =>
        have h2 : S0.testBit t = false := by
          cases h3 : S0.testBit t with
          | false => rfl
          | true => rw [hS0 t ht h3] at hs; cases hs
        refine Or.inr ?_
        cases h3 : I0.testBit t with
        | true => exact Or.inl ⟨rfl, rfl, by rw [lkA_n h2, lk_c, hl, hx, h1, hs, h3]; rfl⟩
        | false => exact Or.inr ⟨rfl, rfl, by rw [lkA_n h2, lk_c, lk_c, hl, hl, hx, h1, hs, h3, hk t ht, h3]; rfl⟩
    refine ⟨FS_le hF (fun t ht h1 => ?_), fun t ht h1 => ?_, fun t ht h1 => hsub t ht (hS0 t ht h1), ?_⟩
    · rcases key t ht h1 with ⟨k1, k2⟩ | ⟨k1, k2, k3⟩ | ⟨k1, k2, k3⟩
      · dsimp only [cond_false]
        rw [if_pos k1, k2]; exact Nat.le_refl _
      · dsimp only [cond_false]
        rw [if_neg (by rw [k1]; decide), if_pos k2, k3, Nat.add_mul, Nat.one_mul]; exact Nat.le_refl _
      · dsimp only [cond_false]
        rw [if_neg (by rw [k1]; decide), if_neg (by rw [k2]; decide), k3]; exact Nat.le_refl _
    · rcases key t ht h1 with ⟨k1, k2⟩ | ⟨k1, k2, k3⟩ | ⟨k1, k2, k3⟩
      · dsimp only [cond_false]; rw [k2]; have := hu t ht k1; omega
      · dsimp only [cond_false]; rw [k3]; omega
      · dsimp only [cond_false]; rw [k3]; exact Nat.le_refl _
    · dsimp only [cond_false]; omega
end SWQ
