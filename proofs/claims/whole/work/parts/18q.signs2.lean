section SWR
variable {m : Nat} {P T K : Nat → Nat} {B : Nat}
theorem zfor_app {α : Type} {f : Nat → α → α} : ∀ j k i a, zfor f (j + k) i a = zfor f k (i + j) (zfor f j i a) := by
  intro j
  induction j with
  | zero => intro k i a; rw [Nat.zero_add]; rfl
  | succ j ih =>
    intro k i a
    rw [show j + 1 + k = (j + k) + 1 by omega, show i + (j + 1) = (i + 1) + j by omega]
    exact ih k (i + 1) (f i a)
/-- a row that adds nothing -/
theorem quiet {i a S0 X : Nat} {f0 : Nat → Int32} {x : kT} {s : (Nat → Int32) × Bool} (hi : i < m) (hP : P i = 2) (hK : K i ≤ 9) (hB : B + 9 < 2 ^ 30) (hWB : 3 * (x.2.2 * X) ≤ B + 9) (ha : a < 256) (h : SwI m P T K B S0 X f0 x s) (hq : x.1.testBit a = true → Nat.lor x.1 (mg (tB (T i) 0) (tB (T i) 2) (tB (T i) 1) (tB (T i) 3) a x.1) = x.1) : SwI m P T K B S0 X f0 x (fsA 2 (T i) (K i) 3 (z22 3) a s) := by
  obtain ⟨h1, h2, h3, h4, h5⟩ := h
  cases hxa : x.1.testBit a with
  | false =>
    have e : fsA 2 (T i) (K i) 3 (z22 3) a s = s := by
      rcases h1 a ha with ⟨k1, _⟩ | ⟨_, k1⟩
      · rw [hxa] at k1; cases k1
      · unfold fsA fsX
        rw [show zx 0 2 s.1 a = s.1 a from rfl, if_pos k1]
    rw [e]
    exact ⟨h1, h2, h3, h4, h5⟩
  | true =>
    have hq' := hq hxa
    have hor : ∀ t, t < 256 → (x.1.testBit t || (mg (tB (T i) 0) (tB (T i) 2) (tB (T i) 1) (tB (T i) 3) a x.1).testBit t) = x.1.testBit t := fun t ht => by
      have e : (x.1 ||| mg (tB (T i) 0) (tB (T i) 2) (tB (T i) 1) (tB (T i) 3) a x.1).testBit t = x.1.testBit t := by
        show (Nat.lor x.1 _).testBit t = _
        rw [hq']
      rw [Nat.testBit_or] at e
      exact e
    have hua := h2 a ha hxa
    have hmul : lkA S0 a x.2.1 * X ≤ x.2.2 * X := Nat.mul_le_mul_right X hua
    have hr := row_end (m := m) (P := P) (T := T) (K := K) (B := B) (i := i) (a := a) (S1 := x.1) (S' := x.1) (I0 := 0) (wa := lkA S0 a x.2.1 * X) (Mw := x.2.2 * X) (X := 0) (z := lkA S0 a x.2.1 * X + x.2.2 * X) (w := fun t => lkA S0 t x.2.1 * X) (f0 := f0) (s := s) hi hP hK hB (fun t ht h6 => Nat.mul_le_mul_right X (h2 t ht h6)) (by omega) ha hxa rfl h1 h4 (fun t ht h6 => by rw [Nat.zero_testBit] at h6; cases h6) (Or.inl ⟨fun t ht => (hor t ht).symm, fun t ht h6 => by
      rw [hor t ht]
      obtain ⟨b, b1, b2, b3⟩ := (mg_F2 ht).mp h6
      have hb3 : x.1.testBit b = true := by rw [← hor b b1, b2, Bool.or_true]
      rw [← hor t ht, (mg_F2 ht).mpr ⟨b, b1, hb3, b3⟩, Bool.or_true], rfl⟩)
    refine ⟨FS_le hr.1 (fun t ht h6 => ?_), h2, h3, hr.2.1, h5⟩
    rw [if_pos h6]
    exact Nat.le_refl _
theorem quiets {i S0 X lo n : Nat} {f0 : Nat → Int32} {x : kT} {s : (Nat → Int32) × Bool} (hi : i < m) (hP : P i = 2) (hK : K i ≤ 9) (hB : B + 9 < 2 ^ 30) (hWB : 3 * (x.2.2 * X) ≤ B + 9) (hn : lo + n ≤ 256) (h : SwI m P T K B S0 X f0 x s) (hq : ∀ a, lo ≤ a → a < lo + n → x.1.testBit a = true → Nat.lor x.1 (mg (tB (T i) 0) (tB (T i) 2) (tB (T i) 1) (tB (T i) 3) a x.1) = x.1) : SwI m P T K B S0 X f0 x (zfor (fsA 2 (T i) (K i) 3 (z22 3)) n lo s) :=
  zfor_inv (I := SwI m P T K B S0 X f0 x) n lo s (fun a s' h1 h2 h3 => quiet hi hP hK hB hWB (by omega) h3 (hq a h1 h2)) h
/-- a row that may add something -/
theorem loud {i a S0 X : Nat} {f0 : Nat → Int32} {x : kT} {s : (Nat → Int32) × Bool} (hi : i < m) (hP : P i = 2) (hK : K i ≤ 9) (hB : B + 9 < 2 ^ 30) (hWB : 3 * (x.2.2 * X) ≤ B + 9) (ha : a < 256) (hxa : x.1.testBit a = true) (h : SwI m P T K B S0 X f0 x s) : SwI m P T K B S0 X f0 (rw0 (tB (T i) 0) (tB (T i) 2) (tB (T i) 1) (tB (T i) 3) S0 a x) (fsA 2 (T i) (K i) 3 (z22 3) a s) ∧ x.2.2 ≤ (rw0 (tB (T i) 0) (tB (T i) 2) (tB (T i) 1) (tB (T i) 3) S0 a x).2.2 := by
  obtain ⟨h1, h2, h3, h4, h5⟩ := h
  have hua := h2 a ha hxa
  have hmul : lkA S0 a x.2.1 * X ≤ x.2.2 * X := Nat.mul_le_mul_right X hua
  have hI0 : ∀ t, t < 256 → (mg (tB (T i) 0) (tB (T i) 2) (tB (T i) 1) (tB (T i) 3) a S0).testBit t = true → ∃ c, c < 256 ∧ x.1.testBit c = true ∧ F2 T i a c = t ∧ lkA S0 c x.2.1 * X ≤ X := fun t ht h6 => by
    obtain ⟨c, c1, c2, c3⟩ := (mg_F2 ht).mp h6
    exact ⟨c, c1, h3 c c1 c2, c3, by rw [lkA_y c2, Nat.one_mul]; exact Nat.le_refl _⟩
  have hw : ∀ t, t < 256 → x.1.testBit t = true → (fun t => lkA S0 t x.2.1 * X) t ≤ x.2.2 * X := fun t ht h6 => Nat.mul_le_mul_right X (h2 t ht h6)
  unfold rw0 rw1
  cases hc : Nat.beq (Nat.lor (Nat.lor x.1 (mg (tB (T i) 0) (tB (T i) 2) (tB (T i) 1) (tB (T i) 3) a x.1)) (mg (tB (T i) 0) (tB (T i) 2) (tB (T i) 1) (tB (T i) 3) a (mg (tB (T i) 0) (tB (T i) 2) (tB (T i) 1) (tB (T i) 3) a x.1))) (Nat.lor x.1 (mg (tB (T i) 0) (tB (T i) 2) (tB (T i) 1) (tB (T i) 3) a x.1)) with
  | true =>
    have hc' := Nat.eq_of_beq_eq_true hc
    have hr := row_end (m := m) (P := P) (T := T) (K := K) (B := B) (i := i) (a := a) (S1 := x.1) (S' := Nat.lor x.1 (mg (tB (T i) 0) (tB (T i) 2) (tB (T i) 1) (tB (T i) 3) a x.1)) (I0 := mg (tB (T i) 0) (tB (T i) 2) (tB (T i) 1) (tB (T i) 3) a S0) (wa := lkA S0 a x.2.1 * X) (Mw := x.2.2 * X) (X := X) (z := lkA S0 a x.2.1 * X + x.2.2 * X) (w := fun t => lkA S0 t x.2.1 * X) (f0 := f0) (s := s) hi hP hK hB hw (by omega) ha hxa rfl h1 h4 hI0 (Or.inl ⟨fun t ht => Nat.testBit_or _ _ _, fun t ht h6 => by
      have e : (Nat.lor (Nat.lor x.1 (mg (tB (T i) 0) (tB (T i) 2) (tB (T i) 1) (tB (T i) 3) a x.1)) (mg (tB (T i) 0) (tB (T i) 2) (tB (T i) 1) (tB (T i) 3) a (mg (tB (T i) 0) (tB (T i) 2) (tB (T i) 1) (tB (T i) 3) a x.1))).testBit t = true := by
        show (Nat.lor x.1 _ ||| _).testBit t = true
        rw [Nat.testBit_or, h6, Bool.or_true]
      rw [hc'] at e
      have e2 : (x.1 ||| mg (tB (T i) 0) (tB (T i) 2) (tB (T i) 1) (tB (T i) 3) a x.1).testBit t = true := e
      rw [Nat.testBit_or] at e2
      exact e2, rfl⟩)
    have h7 := rw2_ok (m := m) (P := P) (T := T) (K := K) (S0 := S0) (S := x.1) (S' := Nat.lor x.1 (mg (tB (T i) 0) (tB (T i) 2) (tB (T i) 1) (tB (T i) 3) a x.1)) (I0 := mg (tB (T i) 0) (tB (T i) 2) (tB (T i) 1) (tB (T i) 3) a S0) (u := x.2.2) (z := Nat.add (lkA S0 a x.2.1) x.2.2) (ua := lkA S0 a x.2.1) (X := X) (G := x.2.1) (f := (fsA 2 (T i) (K i) 3 (z22 3) a s).1) (by
      have := hr.1
      rw [← Nat.add_mul] at this
      exact this) hr.2.2 h3 h2 h5 (Nat.le_refl _)
    exact ⟨⟨h7.1, h7.2.1, h7.2.2.1, hr.2.1, Nat.le_trans h5 h7.2.2.2⟩, h7.2.2.2⟩
  | false =>
    have hr := row_end (m := m) (P := P) (T := T) (K := K) (B := B) (i := i) (a := a) (S1 := x.1) (S' := rX (fC (tB (T i) 0) (tB (T i) 1) a) (fD (tB (T i) 0) (tB (T i) 2) (tB (T i) 1) (tB (T i) 3) a) 256 0 x.1) (I0 := mg (tB (T i) 0) (tB (T i) 2) (tB (T i) 1) (tB (T i) 3) a S0) (wa := lkA S0 a x.2.1 * X) (Mw := x.2.2 * X) (X := X) (z := lkA S0 a x.2.1 * X + lkA S0 a x.2.1 * X + x.2.2 * X) (w := fun t => lkA S0 t x.2.1 * X) (f0 := f0) (s := s) hi hP hK hB hw (by omega) ha hxa rfl h1 h4 hI0 (Or.inr ⟨rfl, rfl⟩)
    have h7 := rw2_ok (m := m) (P := P) (T := T) (K := K) (S0 := S0) (S := x.1) (S' := rX (fC (tB (T i) 0) (tB (T i) 1) a) (fD (tB (T i) 0) (tB (T i) 2) (tB (T i) 1) (tB (T i) 3) a) 256 0 x.1) (I0 := mg (tB (T i) 0) (tB (T i) 2) (tB (T i) 1) (tB (T i) 3) a S0) (u := x.2.2) (z := Nat.add (Nat.add (lkA S0 a x.2.1) (lkA S0 a x.2.1)) x.2.2) (ua := lkA S0 a x.2.1) (X := X) (G := x.2.1) (f := (fsA 2 (T i) (K i) 3 (z22 3) a s).1) (by
      have := hr.1
      rw [← Nat.add_mul, ← Nat.add_mul] at this
      exact this) hr.2.2 h3 h2 h5 (show lkA S0 a x.2.1 + x.2.2 ≤ lkA S0 a x.2.1 + lkA S0 a x.2.1 + x.2.2 by omega)
    exact ⟨⟨h7.1, h7.2.1, h7.2.2.1, hr.2.1, Nat.le_trans h5 h7.2.2.2⟩, h7.2.2.2⟩
theorem sw_s {p q r s : Bool} {S0 j lo : Nat} {x : kT} : sw p q r s S0 (j + 1) lo x = cond (Nat.beq (t8 p q r s x.1 lo 0 x.1) 256) x (sw p q r s S0 j (Nat.succ (t8 p q r s x.1 lo 0 x.1)) (rw0 p q r s S0 (t8 p q r s x.1 lo 0 x.1) x)) := rfl
theorem rw2_u {S S' I0 u z ua : Nat} {G : List (Nat × Nat)} (hz : u ≤ z) : u ≤ (rw2 S S' I0 G u z ua).2.2 := by
  unfold rw2
  cases Nat.beq (Nat.land (Nat.xor S' S) (Nat.xor k256 I0)) 0 with
  | true =>
    dsimp only [cond_true]
    cases hble : Nat.ble u (Nat.add ua 1) with
    | true => exact Nat.le_of_ble_eq_true hble
    | false => exact Nat.le_refl _
  | false => exact hz
theorem rw0_u {p q r s : Bool} {S0 a : Nat} {x : kT} : x.2.2 ≤ (rw0 p q r s S0 a x).2.2 := by
  unfold rw0 rw1
  cases Nat.beq (Nat.lor (Nat.lor x.1 (mg p q r s a x.1)) (mg p q r s a (mg p q r s a x.1))) (Nat.lor x.1 (mg p q r s a x.1)) with
  | true => exact rw2_u (Nat.le_add_left _ _)
  | false => exact rw2_u (Nat.le_add_left _ _)
theorem sw_u {p q r s : Bool} {S0 : Nat} : ∀ j lo x, x.2.2 ≤ (sw p q r s S0 j lo x).2.2 := by
  intro j
  induction j with
  | zero => intro lo x; exact Nat.le_refl _
  | succ j ih =>
    intro lo x
    rw [sw_s]
    cases Nat.beq (t8 p q r s x.1 lo 0 x.1) 256 with
    | true => exact Nat.le_refl _
    | false => exact Nat.le_trans rw0_u (ih _ _)
/-- a sweep of a sign of two places -/
theorem sw_ok {i S0 X : Nat} {f0 : Nat → Int32} (hi : i < m) (hP : P i = 2) (hK : K i ≤ 9) (hB : B + 9 < 2 ^ 30) : ∀ (j lo : Nat) (x : kT) (s : (Nat → Int32) × Bool), 257 ≤ lo + j → lo ≤ 256 → 3 * ((sw (tB (T i) 0) (tB (T i) 2) (tB (T i) 1) (tB (T i) 3) S0 j lo x).2.2 * X) ≤ B + 9 → SwI m P T K B S0 X f0 x s → SwI m P T K B S0 X f0 (sw (tB (T i) 0) (tB (T i) 2) (tB (T i) 1) (tB (T i) 3) S0 j lo x) (zfor (fsA 2 (T i) (K i) 3 (z22 3)) (256 - lo) lo s) := by
  intro j
  induction j with
  | zero => intro lo x s h1 h2; exact absurd h1 (by omega)
  | succ j ih =>
    intro lo x s h1 h2 h3 h
    have hux := sw_u (p := tB (T i) 0) (q := tB (T i) 2) (r := tB (T i) 1) (s := tB (T i) 3) (S0 := S0) (j + 1) lo x
    have hWx : 3 * (x.2.2 * X) ≤ B + 9 := Nat.le_trans (Nat.mul_le_mul_left 3 (Nat.mul_le_mul_right X hux)) h3
    rw [sw_s] at h3 ⊢
    have ht := t8_ok (p := tB (T i) 0) (q := tB (T i) 2) (r := tB (T i) 1) (s := tB (T i) 3) (S := x.1) (lo := lo) (a := 0) (V := x.1) rfl (by decide)
    generalize t8 (tB (T i) 0) (tB (T i) 2) (tB (T i) 1) (tB (T i) 3) x.1 lo 0 x.1 = a at ht h3 ⊢
    rcases ht with ⟨rfl, hq⟩ | ⟨_, a2, a3, a4, hq⟩
    · show SwI m P T K B S0 X f0 x _
      exact quiets hi hP hK hB hWx (by omega) h (fun a h4 h5 h6 => hq a (Nat.zero_le _) (by omega) h4 h6)
    · have hne : Nat.beq a 256 = false := by
        cases hb : Nat.beq a 256 with
        | false => rfl
        | true => have := Nat.eq_of_beq_eq_true hb; omega
      rw [hne] at h3 ⊢
      have hq1 := quiets (n := a - lo) hi hP hK hB hWx (by omega) h (fun a' h4 h5 h6 => hq a' (Nat.zero_le _) (by omega) h4 h6)
      have hl := loud hi hP hK hB hWx (show a < 256 by omega) a4 hq1
      have h5 := ih (a + 1) _ _ (by omega) (by omega) h3 hl.1
      have e : zfor (fsA 2 (T i) (K i) 3 (z22 3)) (256 - lo) lo s = zfor (fsA 2 (T i) (K i) 3 (z22 3)) (256 - (a + 1)) (a + 1) (fsA 2 (T i) (K i) 3 (z22 3) a (zfor (fsA 2 (T i) (K i) 3 (z22 3)) (a - lo) lo s)) := by
        rw [show 256 - lo = (a - lo) + ((256 - (a + 1)) + 1) by omega, zfor_app, show lo + (a - lo) = a by omega]
        rfl
      rw [e]
      exact h5
/-- what the certificate gives for a sign of two places -/
theorem sign2 {i k : Nat} {f0 : Nat → Int32} {s : (Nat → Int32) × Bool} (hi : i < m) (hP : P i = 2) (hK : K i ≤ 9) (hB : B + 9 < 2 ^ 30) (hck : ck (tB (T i) 0) (tB (T i) 2) (tB (T i) 1) (tB (T i) 3) (T i) k = true) (hB2 : 27 * gP (gN k (T i)) ≤ B + 9) (hF : FS m P T K (gS k) (fun _ => 9 * gP k) s.1) (hI : BI m P T K 3 B f0 s) : FS m P T K (gS (gN k (T i))) (fun _ => 9 * gP (gN k (T i))) (fsI P T K 3 (z22 3) i s).1 ∧ BI m P T K 3 B f0 (fsI P T K 3 (z22 3) i s) := by
  have h0 : SwI m P T K B (gS k) (9 * gP k) f0 (gS k, [], 1) s := by
    have hone : ∀ t, lkA (gS k) t [] = 1 := fun t => by
      cases h : (gS k).testBit t with
      | true => exact lkA_y h
      | false => rw [lkA_n h]; rfl
    refine ⟨FS_le hF (fun t ht h1 => ?_), fun t ht h1 => ?_, fun t ht h1 => h1, hI, Nat.le_refl _⟩
    · show 9 * gP k ≤ lkA (gS k) t [] * (9 * gP k)
      rw [hone, Nat.one_mul]; exact Nat.le_refl _
    · show lkA (gS k) t [] ≤ 1
      rw [hone]; exact Nat.le_refl _
  unfold ck at hck
  generalize hx : sw (tB (T i) 0) (tB (T i) 2) (tB (T i) 1) (tB (T i) 3) (gS k) 257 0 (gS k, [], 1) = x at hck
  cases hb : Nat.beq x.1 (gS (gN k (T i))) with
  | false => dsimp only at hck; rw [hb] at hck; cases hck
  | true =>
    dsimp only at hck
    rw [hb] at hck
    have e1 : x.1 = gS (gN k (T i)) := Nat.eq_of_beq_eq_true hb
    have e2 : gP k * x.2.2 ≤ gP (gN k (T i)) := Nat.le_of_ble_eq_true hck
    have e3 : x.2.2 * (9 * gP k) ≤ 9 * gP (gN k (T i)) := by
      have : x.2.2 * (9 * gP k) = 9 * (gP k * x.2.2) := by rw [Nat.mul_comm x.2.2, Nat.mul_assoc]
      rw [this]
      exact Nat.mul_le_mul_left 9 e2
    have h1 := sw_ok (m := m) (P := P) (T := T) (K := K) (B := B) (i := i) (S0 := gS k) (X := 9 * gP k) (f0 := f0) hi hP hK hB 257 0 (gS k, [], 1) s (by omega) (by omega) (by rw [hx]; omega) h0
    rw [hx] at h1
    have e4 : fsI P T K 3 (z22 3) i s = zfor (fsA 2 (T i) (K i) 3 (z22 3)) (256 - 0) 0 s := by
      unfold fsI
      rw [hP]
      rfl
    rw [e4, ← e1]
    refine ⟨FS_le h1.1 (fun t ht h2 => ?_), h1.2.2.2.1⟩
    have h3 := h1.2.1 t ht h2
    have h4 : lkA (gS k) t x.2.1 * (9 * gP k) ≤ x.2.2 * (9 * gP k) := Nat.mul_le_mul_right _ h3
    exact Nat.le_trans h4 e3
end SWR
