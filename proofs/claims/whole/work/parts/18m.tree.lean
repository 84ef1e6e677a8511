section TRE
theorem bB_tb (S t : Nat) : bB S t = S.testBit t := by
  have h := zbit_eq S t
  have h2 : bB S t = decide (S >>> t &&& 1 = 1) := by
    unfold bB
    show Nat.beq (S >>> t &&& 1) 1 = _
    by_cases e : S >>> t &&& 1 = 1
    · rw [e]; rfl
    · rw [decide_eq_false e]
      cases hb : Nat.beq (S >>> t &&& 1) 1 with
      | true => exact absurd (Nat.eq_of_beq_eq_true hb) e
      | false => rfl
  rw [h2]
  cases hb : S.testBit t with
  | true => exact decide_eq_true (h.mpr hb)
  | false => exact decide_eq_false (fun e => by rw [h.mp e] at hb; cases hb)
/-- t with the bit j as y -/
def bs (t j : Nat) (y : Bool) : Nat := cond (t.testBit j) (cond y t (t - 2 ^ j)) (cond y (t + 2 ^ j) t)
theorem bs_ok : ∀ t, t < 256 → ∀ j, j < 8 → ∀ y : Bool, bs t j y < 256 ∧ ∀ i, i < 8 → (bs t j y).testBit i = if i = j then y else t.testBit i := by decide +kernel
theorem eq8 : ∀ a b, a < 256 → b < 256 → (∀ i, i < 8 → a.testBit i = b.testBit i) → a = b := by
  intro a b ha hb h
  apply Nat.eq_of_testBit_eq
  intro i
  by_cases hi : i < 8
  · exact h i hi
  · have h1 : a < 2 ^ i := Nat.lt_of_lt_of_le ha (Nat.le_trans (show 256 ≤ 2 ^ 8 by decide) (Nat.pow_le_pow_right (by decide) (by omega)))
    have h2 : b < 2 ^ i := Nat.lt_of_lt_of_le hb (Nat.le_trans (show 256 ≤ 2 ^ 8 by decide) (Nat.pow_le_pow_right (by decide) (by omega)))
    rw [Nat.testBit_lt_two_pow h1, Nat.testBit_lt_two_pow h2]
def mkf (j : Nat) : Nat := match j with
  | 0 => mk0 | 1 => mk1 | 2 => mk2 | 3 => mk3 | 4 => mk4 | 5 => mk5 | 6 => mk6 | _ => mk7
theorem mk_ok : ∀ j, j < 8 → ∀ t, t < 256 → (mkf j).testBit t = !(t.testBit j) := by decide +kernel
theorem lo_tb {V j t : Nat} (hj : j < 8) (ht : t < 256) : (Nat.land V (mkf j)).testBit t = (V.testBit t && !(t.testBit j)) := by
  show (V &&& mkf j).testBit t = _
  rw [Nat.testBit_and, mk_ok j hj t ht]
theorem hi_tb {V j t : Nat} (hj : j < 8) (ht : t < 256) : (Nat.land (Nat.shiftRight V (2 ^ j)) (mkf j)).testBit t = (V.testBit (2 ^ j + t) && !(t.testBit j)) := by
  show ((V >>> (2 ^ j)) &&& mkf j).testBit t = _
  rw [Nat.testBit_and, mk_ok j hj t ht, Nat.testBit_shiftRight]
theorem sl_tb {X j t : Nat} (hX : ∀ t, t < 256 → X.testBit t = true → t.testBit j = false) (hj : j < 8) (ht : t < 256) : (Nat.shiftLeft X (2 ^ j)).testBit t = (t.testBit j && X.testBit (t - 2 ^ j)) := by
  show (X <<< (2 ^ j)).testBit t = _
  rw [Nat.testBit_shiftLeft]
  have hb := bs_ok t ht j hj false
  cases htj : t.testBit j with
  | true =>
    have hge : 2 ^ j ≤ t := Nat.ge_two_pow_of_testBit htj
    rw [decide_eq_true hge]
  | false =>
    by_cases hge : 2 ^ j ≤ t
    · rw [decide_eq_true hge]
      show X.testBit (t - 2 ^ j) = false
      cases hx : X.testBit (t - 2 ^ j) with
      | false => rfl
      | true =>
        have htm : t - 2 ^ j < 256 := Nat.lt_of_le_of_lt (Nat.sub_le t _) ht
        have h1 := hX (t - 2 ^ j) htm hx
        have h2 := bs_ok (t - 2 ^ j) htm j hj true
        have e : bs (t - 2 ^ j) j true = t := by
          unfold bs
          rw [h1]
          show t - 2 ^ j + 2 ^ j = t
          omega
        rw [e] at h2
        have h3 := h2.2 j hj
        rw [if_pos rfl, htj] at h3
        cases h3
    · rw [decide_eq_false (by omega)]
theorem sB_tb {o0 o1 : Bool} {V j t : Nat} (hj : j < 8) (ht : t < 256) : (sB o0 o1 (2 ^ j) (mkf j) V).testBit t = (((t.testBit j == o0) && V.testBit (bs t j false)) || ((t.testBit j == o1) && V.testBit (bs t j true))) := by
  have a1 := lo_tb (V := V) hj ht
  have a2 := hi_tb (V := V) hj ht
  have hlo : ∀ t, t < 256 → (Nat.land V (mkf j)).testBit t = true → t.testBit j = false := fun t ht h => by
    rw [lo_tb hj ht] at h
    cases hb : t.testBit j with
    | true => rw [hb] at h; simp at h
    | false => rfl
  have hhi : ∀ t, t < 256 → (Nat.land (Nat.shiftRight V (2 ^ j)) (mkf j)).testBit t = true → t.testBit j = false := fun t ht h => by
    rw [hi_tb hj ht] at h
    cases hb : t.testBit j with
    | true => rw [hb] at h; simp at h
    | false => rfl
  have hor : ∀ t, t < 256 → (Nat.lor (Nat.land V (mkf j)) (Nat.land (Nat.shiftRight V (2 ^ j)) (mkf j))).testBit t = ((Nat.land V (mkf j)).testBit t || (Nat.land (Nat.shiftRight V (2 ^ j)) (mkf j)).testBit t) := fun t ht => by
    show (Nat.land V (mkf j) ||| Nat.land (Nat.shiftRight V (2 ^ j)) (mkf j)).testBit t = _
    rw [Nat.testBit_or]
  have hlh : ∀ t, t < 256 → (Nat.lor (Nat.land V (mkf j)) (Nat.land (Nat.shiftRight V (2 ^ j)) (mkf j))).testBit t = true → t.testBit j = false := fun t ht h => by
    rw [hor t ht, Bool.or_eq_true] at h
    exact h.elim (hlo t ht) (hhi t ht)
  have b1 := sl_tb (j := j) (t := t) hlo hj ht
  have b2 := sl_tb (j := j) (t := t) hlh hj ht
  have hc := hor t ht
  have hd : ∀ x, (Nat.lor (Nat.shiftLeft (Nat.land V (mkf j)) (2 ^ j)) x).testBit t = ((Nat.shiftLeft (Nat.land V (mkf j)) (2 ^ j)).testBit t || x.testBit t) := fun x => by
    show (Nat.shiftLeft (Nat.land V (mkf j)) (2 ^ j) ||| x).testBit t = _
    rw [Nat.testBit_or]
  have htm : t - 2 ^ j < 256 := Nat.lt_of_le_of_lt (Nat.sub_le t _) ht
  have c1 := lo_tb (V := V) hj htm
  have c2 := hi_tb (V := V) hj htm
  have c3 := hor _ htm
  have hbf := bs_ok t ht j hj false
  unfold sB
  cases htj : t.testBit j with
  | false =>
    have e1 : bs t j false = t := by unfold bs; rw [htj]; rfl
    have e2 : bs t j true = 2 ^ j + t := by unfold bs; rw [htj]; exact Nat.add_comm _ _
    rw [e1, e2]
    rw [htj] at a1 a2 b1 b2
    cases o0 <;> cases o1
    · show (Nat.lor _ _).testBit t = _; rw [hc, a1, a2]; simp
    · show V.testBit t = _; simp
    · show (Nat.lor (Nat.shiftLeft _ _) _).testBit t = _; rw [hd, b1, a2]; simp
    · show (Nat.shiftLeft (Nat.lor _ _) _).testBit t = _; rw [b2]; simp
  | true =>
    have hge : 2 ^ j ≤ t := Nat.ge_two_pow_of_testBit htj
    have e1 : bs t j false = t - 2 ^ j := by unfold bs; rw [htj]; rfl
    have e2 : bs t j true = t := by unfold bs; rw [htj]; rfl
    have e3 : (t - 2 ^ j).testBit j = false := by
      have := hbf.2 j hj
      rw [e1, if_pos rfl] at this
      exact this
    rw [e1, e2]
    rw [htj] at a1 a2 b1 b2
    rw [e3] at c1 c2
    rw [show 2 ^ j + (t - 2 ^ j) = t by omega] at c2
    cases o0 <;> cases o1
    · show (Nat.lor _ _).testBit t = _; rw [hc, a1, a2]; simp
    · show V.testBit t = _; simp
    · show (Nat.lor (Nat.shiftLeft _ _) _).testBit t = _; rw [hd, b1, a2, c1]; simp
    · show (Nat.shiftLeft (Nat.lor _ _) _).testBit t = _; rw [b2, c3, c1, c2]; simp
variable {p q r s : Bool}
/-- what the operation makes of a bit of b, by the bit of a -/
def hb (p q r s x y : Bool) : Bool := cond x (cond y s r) (cond y q p)
theorem sJ_eq {a j V : Nat} : sJ p q r s a j (2 ^ j) (mkf j) V = sB (hb p q r s (a.testBit j) false) (hb p q r s (a.testBit j) true) (2 ^ j) (mkf j) V := by
  unfold sJ hb
  rw [bB_tb]
  cases a.testBit j <;> rfl
/-- bits j and above are done -/
def Im (p q r s : Bool) (a S j t : Nat) : Prop := ∃ b, b < 256 ∧ S.testBit b = true ∧ (∀ i, i < j → i < 8 → b.testBit i = t.testBit i) ∧ ∀ i, j ≤ i → i < 8 → t.testBit i = hb p q r s (a.testBit i) (b.testBit i)
theorem Im_8 {a S t : Nat} (ht : t < 256) : S.testBit t = true ↔ Im p q r s a S 8 t := by
  constructor
  · intro h; exact ⟨t, ht, h, fun i _ _ => rfl, fun i h1 h2 => absurd h2 (by omega)⟩
  · rintro ⟨b, hb1, hb2, hb3, _⟩
    rw [← eq8 b t hb1 ht (fun i hi => hb3 i hi hi)]
    exact hb2
theorem Im_s {a S V j : Nat} (hj : j < 8) (h : ∀ t, t < 256 → (V.testBit t = true ↔ Im p q r s a S (j + 1) t)) : ∀ t, t < 256 → ((sJ p q r s a j (2 ^ j) (mkf j) V).testBit t = true ↔ Im p q r s a S j t) := by
  intro t ht
  rw [sJ_eq, sB_tb hj ht]
  have h0 := bs_ok t ht j hj false
  have h1 := bs_ok t ht j hj true
  simp only [Bool.or_eq_true, Bool.and_eq_true, beq_iff_eq]
  constructor
  · intro hh
    have key : ∀ y : Bool, t.testBit j = hb p q r s (a.testBit j) y → V.testBit (bs t j y) = true → Im p q r s a S j t := by
      intro y hy hV
      have hbs := bs_ok t ht j hj y
      obtain ⟨b, b1, b2, b3, b4⟩ := (h _ hbs.1).mp hV
      refine ⟨b, b1, b2, fun i hi hi8 => ?_, fun i hi hi8 => ?_⟩
      · rw [b3 i (by omega) hi8, hbs.2 i hi8, if_neg (by omega)]
      · by_cases e : i = j
        · have b5 := b3 j (by omega) hj
          rw [hbs.2 j hj, if_pos rfl] at b5
          rw [e, b5]; exact hy
        · have b5 := b4 i (by omega) hi8
          rw [hbs.2 i hi8, if_neg e] at b5
          exact b5
    rcases hh with ⟨a1, a2⟩ | ⟨a1, a2⟩
    · exact key false a1 a2
    · exact key true a1 a2
  · rintro ⟨b, b1, b2, b3, b4⟩
    have hbs := bs_ok t ht j hj (b.testBit j)
    have hV : V.testBit (bs t j (b.testBit j)) = true := (h _ hbs.1).mpr ⟨b, b1, b2, fun i hi hi8 => by
      rw [hbs.2 i hi8]
      by_cases e : i = j
      · rw [if_pos e, e]
      · rw [if_neg e]; exact b3 i (by omega) hi8, fun i hi hi8 => by
      rw [hbs.2 i hi8, if_neg (by omega)]
      exact b4 i (by omega) hi8⟩
    have hj2 := b4 j (Nat.le_refl _) hj
    cases hbj : b.testBit j with
    | false => rw [hbj] at hj2 hV; exact Or.inl ⟨hj2, hV⟩
    | true => rw [hbj] at hj2 hV; exact Or.inr ⟨hj2, hV⟩
/-- the bits below j, from the highest on -/
def Lw (p q r s : Bool) (a : Nat) : Nat → Nat → Nat
  | 0, V => V
  | j + 1, V => Lw p q r s a j (sJ p q r s a j (2 ^ j) (mkf j) V)
theorem mg_Lw {a S : Nat} : mg p q r s a S = Lw p q r s a 8 S := rfl
theorem Lw_Im {a S : Nat} : ∀ j V, j ≤ 8 → (∀ t, t < 256 → (V.testBit t = true ↔ Im p q r s a S j t)) → ∀ t, t < 256 → ((Lw p q r s a j V).testBit t = true ↔ Im p q r s a S 0 t) := by
  intro j
  induction j with
  | zero => intro V _ h; exact h
  | succ j ih => intro V hj h; exact ih _ (by omega) (Im_s (by omega) h)
/-- the image of a row -/
theorem mg_tb {a S t : Nat} (ht : t < 256) : (mg p q r s a S).testBit t = true ↔ ∃ b, b < 256 ∧ S.testBit b = true ∧ ∀ i, i < 8 → t.testBit i = hb p q r s (a.testBit i) (b.testBit i) := by
  rw [mg_Lw]
  have h := Lw_Im (p := p) (q := q) (r := r) (s := s) (a := a) (S := S) 8 S (Nat.le_refl _) (fun t ht => Im_8 ht) t ht
  rw [h]
  constructor
  · rintro ⟨b, b1, b2, _, b4⟩; exact ⟨b, b1, b2, fun i hi => b4 i (Nat.zero_le _) hi⟩
  · rintro ⟨b, b1, b2, b4⟩; exact ⟨b, b1, b2, fun i hi => absurd hi (by omega), fun i _ hi => b4 i hi⟩
/-- what the search says of the rows from a0 to a0 + n - 1 -/
def TR (p q r s : Bool) (S lo a0 n j V x : Nat) : Prop := (x = 256 ∧ ∀ a, a0 ≤ a → a < a0 + n → lo ≤ a → S.testBit a = true → Nat.lor S (Lw p q r s a j V) = S) ∨ (a0 ≤ x ∧ x < a0 + n ∧ lo ≤ x ∧ S.testBit x = true ∧ ∀ a, a0 ≤ a → a < x → lo ≤ a → S.testBit a = true → Nat.lor S (Lw p q r s a j V) = S)
theorem t0_ok {S lo a V : Nat} (ha : a < 256) : TR p q r s S lo a 1 0 V (t0 S lo a V) := by
  unfold t0
  cases h1 : Nat.ble lo a with
  | false =>
    refine Or.inl ⟨rfl, fun a' h2 h3 h4 _ => absurd h4 (fun z => ?_)⟩
    obtain rfl : a' = a := by omega
    rw [Nat.ble_eq_true_of_le z] at h1
    cases h1
  | true =>
    have hlo := Nat.le_of_ble_eq_true h1
    rw [bB_tb]
    cases h2 : S.testBit a with
    | false =>
      refine Or.inl ⟨rfl, fun a' h3 h4 _ h5 => ?_⟩
      obtain rfl : a' = a := by omega
      rw [h2] at h5; cases h5
    | true =>
      cases h3 : Nat.beq (Nat.lor S V) S with
      | true =>
        refine Or.inl ⟨rfl, fun a' h4 h5 _ _ => ?_⟩
        exact Nat.eq_of_beq_eq_true h3
      | false => exact Or.inr ⟨Nat.le_refl _, by show a < a + 1; omega, hlo, h2, fun a' h4 h5 => absurd h5 (by show ¬ a' < a; omega)⟩
theorem nx_ok {S lo a0 n j V V0 V1 x y : Nat} (h256 : a0 + n + n ≤ 256) (e0 : ∀ a, a0 ≤ a → a < a0 + n → Lw p q r s a (j + 1) V = Lw p q r s a j V0) (e1 : ∀ a, a0 + n ≤ a → a < a0 + n + n → Lw p q r s a (j + 1) V = Lw p q r s a j V1) (h0 : TR p q r s S lo a0 n j V0 x) (h1 : TR p q r s S lo (a0 + n) n j V1 y) : TR p q r s S lo a0 (n + n) (j + 1) V (nx x y) := by
  unfold nx
  rcases h0 with ⟨hx, h0⟩ | ⟨c1, c2, c3, c4, c5⟩
  · subst hx
    show TR p q r s S lo a0 (n + n) (j + 1) V y
    rcases h1 with ⟨hy, h1⟩ | ⟨d1, d2, d3, d4, d5⟩
    · refine Or.inl ⟨hy, fun a h2 h3 h4 h5 => ?_⟩
      by_cases e : a < a0 + n
      · rw [e0 a h2 e]; exact h0 a h2 e h4 h5
      · rw [e1 a (by omega) (by omega)]; exact h1 a (by omega) (by omega) h4 h5
    · refine Or.inr ⟨by omega, by omega, d3, d4, fun a h2 h3 h4 h5 => ?_⟩
      by_cases e : a < a0 + n
      · rw [e0 a h2 e]; exact h0 a h2 e h4 h5
      · rw [e1 a (by omega) (by omega)]; exact d5 a (by omega) h3 h4 h5
  · have hne : Nat.beq x 256 = false := by
      cases hb : Nat.beq x 256 with
      | false => rfl
      | true => have := Nat.eq_of_beq_eq_true hb; omega
    rw [hne]
    show TR p q r s S lo a0 (n + n) (j + 1) V x
    exact Or.inr ⟨c1, by show x < a0 + (n + n); omega, c3, c4, fun a h2 h3 h4 h5 => by rw [e0 a h2 (by omega)]; exact c5 a h2 h3 h4 h5⟩
/-- a range that lies before lo, or has nothing of S -/
theorem sk_ok {S lo a0 n j V x : Nat} {e : Nat} (he : e = 2 ^ n - 1) (h : Nat.ble (Nat.add a0 n) lo = false → Nat.beq (Nat.land (Nat.shiftRight S a0) e) 0 = false → TR p q r s S lo a0 n j V x) : TR p q r s S lo a0 n j V (cond (Nat.ble (Nat.add a0 n) lo) 256 (cond (Nat.beq (Nat.land (Nat.shiftRight S a0) e) 0) 256 x)) := by
  cases h1 : Nat.ble (Nat.add a0 n) lo with
  | true =>
    have := Nat.le_of_ble_eq_true h1
    exact Or.inl ⟨rfl, fun a h2 h3 h4 => absurd h4 (by have h5 : a0 + n ≤ lo := this; omega)⟩
  | false =>
    cases h2 : Nat.beq (Nat.land (Nat.shiftRight S a0) e) 0 with
    | true =>
      refine Or.inl ⟨rfl, fun a h3 h4 _ h5 => ?_⟩
      have h6 : (S >>> a0) &&& e = 0 := Nat.eq_of_beq_eq_true h2
      have h7 : ((S >>> a0) &&& e).testBit (a - a0) = true := by
        rw [Nat.testBit_and, Nat.testBit_shiftRight, he, Nat.testBit_two_pow_sub_one, decide_eq_true (show a - a0 < n by omega), show a0 + (a - a0) = a by omega, h5]
        rfl
      rw [h6, Nat.zero_testBit] at h7
      cases h7
    | false => exact h h1 h2
theorem Lw_0 {a j V : Nat} (h : a.testBit j = false) : Lw p q r s a (j + 1) V = Lw p q r s a j (sB p q (2 ^ j) (mkf j) V) := by
  show Lw p q r s a j (sJ p q r s a j (2 ^ j) (mkf j) V) = _
  unfold sJ
  rw [bB_tb, h]
  rfl
theorem Lw_1 {a j V : Nat} (h : a.testBit j = true) : Lw p q r s a (j + 1) V = Lw p q r s a j (sB r s (2 ^ j) (mkf j) V) := by
  show Lw p q r s a j (sJ p q r s a j (2 ^ j) (mkf j) V) = _
  unfold sJ
  rw [bB_tb, h]
  rfl
theorem t1_ok {S lo a V : Nat} (hm : a % 2 = 0) (ha : a + 2 ≤ 256) : TR p q r s S lo a 2 1 V (t1 p q r s S lo a V) := by
  unfold t1
  refine sk_ok (n := 2) (by decide +kernel) (fun _ _ => ?_)
  refine nx_ok (n := 1) (j := 0) (V0 := sB p q 1 mk0 V) (V1 := sB r s 1 mk0 V) (by omega) (fun a' h1 h2 => Lw_0 (j := 0) ?_) (fun a' h1 h2 => Lw_1 (j := 0) ?_) (t0_ok (by omega)) (t0_ok (by show a + 1 + 1 ≤ 256; omega))
  · rw [Nat.testBit_eq_decide_div_mod_eq]; exact decide_eq_false (by show ¬ a' / 1 % 2 = 1; omega)
  · rw [Nat.testBit_eq_decide_div_mod_eq]; exact decide_eq_true (by show a' / 1 % 2 = 1; omega)
theorem t2_ok {S lo a V : Nat} (hm : a % 4 = 0) (ha : a + 4 ≤ 256) : TR p q r s S lo a 4 2 V (t2 p q r s S lo a V) := by
  unfold t2
  refine sk_ok (n := 4) (by decide +kernel) (fun _ _ => ?_)
  refine nx_ok (n := 2) (j := 1) (V0 := sB p q 2 mk1 V) (V1 := sB r s 2 mk1 V) (by omega) (fun a' h1 h2 => Lw_0 (j := 1) ?_) (fun a' h1 h2 => Lw_1 (j := 1) ?_) (t1_ok (by omega) (by omega)) (t1_ok (by show (a + 2) % 2 = 0; omega) (by show a + 2 + 2 ≤ 256; omega))
  · rw [Nat.testBit_eq_decide_div_mod_eq]; exact decide_eq_false (by show ¬ a' / 2 % 2 = 1; omega)
  · rw [Nat.testBit_eq_decide_div_mod_eq]; exact decide_eq_true (by show a' / 2 % 2 = 1; omega)
theorem t3_ok {S lo a V : Nat} (hm : a % 8 = 0) (ha : a + 8 ≤ 256) : TR p q r s S lo a 8 3 V (t3 p q r s S lo a V) := by
  unfold t3
  refine sk_ok (n := 8) (by decide +kernel) (fun _ _ => ?_)
  refine nx_ok (n := 4) (j := 2) (V0 := sB p q 4 mk2 V) (V1 := sB r s 4 mk2 V) (by omega) (fun a' h1 h2 => Lw_0 (j := 2) ?_) (fun a' h1 h2 => Lw_1 (j := 2) ?_) (t2_ok (by omega) (by omega)) (t2_ok (by show (a + 4) % 4 = 0; omega) (by show a + 4 + 4 ≤ 256; omega))
  · rw [Nat.testBit_eq_decide_div_mod_eq]; exact decide_eq_false (by show ¬ a' / 4 % 2 = 1; omega)
  · rw [Nat.testBit_eq_decide_div_mod_eq]; exact decide_eq_true (by show a' / 4 % 2 = 1; omega)
theorem t4_ok {S lo a V : Nat} (hm : a % 16 = 0) (ha : a + 16 ≤ 256) : TR p q r s S lo a 16 4 V (t4 p q r s S lo a V) := by
  unfold t4
  refine sk_ok (n := 16) (by decide +kernel) (fun _ _ => ?_)
  refine nx_ok (n := 8) (j := 3) (V0 := sB p q 8 mk3 V) (V1 := sB r s 8 mk3 V) (by omega) (fun a' h1 h2 => Lw_0 (j := 3) ?_) (fun a' h1 h2 => Lw_1 (j := 3) ?_) (t3_ok (by omega) (by omega)) (t3_ok (by show (a + 8) % 8 = 0; omega) (by show a + 8 + 8 ≤ 256; omega))
  · rw [Nat.testBit_eq_decide_div_mod_eq]; exact decide_eq_false (by show ¬ a' / 8 % 2 = 1; omega)
  · rw [Nat.testBit_eq_decide_div_mod_eq]; exact decide_eq_true (by show a' / 8 % 2 = 1; omega)
theorem t5_ok {S lo a V : Nat} (hm : a % 32 = 0) (ha : a + 32 ≤ 256) : TR p q r s S lo a 32 5 V (t5 p q r s S lo a V) := by
  unfold t5
  refine sk_ok (n := 32) (by decide +kernel) (fun _ _ => ?_)
  refine nx_ok (n := 16) (j := 4) (V0 := sB p q 16 mk4 V) (V1 := sB r s 16 mk4 V) (by omega) (fun a' h1 h2 => Lw_0 (j := 4) ?_) (fun a' h1 h2 => Lw_1 (j := 4) ?_) (t4_ok (by omega) (by omega)) (t4_ok (by show (a + 16) % 16 = 0; omega) (by show a + 16 + 16 ≤ 256; omega))
  · rw [Nat.testBit_eq_decide_div_mod_eq]; exact decide_eq_false (by show ¬ a' / 16 % 2 = 1; omega)
  · rw [Nat.testBit_eq_decide_div_mod_eq]; exact decide_eq_true (by show a' / 16 % 2 = 1; omega)
theorem t6_ok {S lo a V : Nat} (hm : a % 64 = 0) (ha : a + 64 ≤ 256) : TR p q r s S lo a 64 6 V (t6 p q r s S lo a V) := by
  unfold t6
  refine sk_ok (n := 64) (by decide +kernel) (fun _ _ => ?_)
  refine nx_ok (n := 32) (j := 5) (V0 := sB p q 32 mk5 V) (V1 := sB r s 32 mk5 V) (by omega) (fun a' h1 h2 => Lw_0 (j := 5) ?_) (fun a' h1 h2 => Lw_1 (j := 5) ?_) (t5_ok (by omega) (by omega)) (t5_ok (by show (a + 32) % 32 = 0; omega) (by show a + 32 + 32 ≤ 256; omega))
  · rw [Nat.testBit_eq_decide_div_mod_eq]; exact decide_eq_false (by show ¬ a' / 32 % 2 = 1; omega)
  · rw [Nat.testBit_eq_decide_div_mod_eq]; exact decide_eq_true (by show a' / 32 % 2 = 1; omega)
theorem t7_ok {S lo a V : Nat} (hm : a % 128 = 0) (ha : a + 128 ≤ 256) : TR p q r s S lo a 128 7 V (t7 p q r s S lo a V) := by
  unfold t7
  refine sk_ok (n := 128) (by decide +kernel) (fun _ _ => ?_)
  refine nx_ok (n := 64) (j := 6) (V0 := sB p q 64 mk6 V) (V1 := sB r s 64 mk6 V) (by omega) (fun a' h1 h2 => Lw_0 (j := 6) ?_) (fun a' h1 h2 => Lw_1 (j := 6) ?_) (t6_ok (by omega) (by omega)) (t6_ok (by show (a + 64) % 64 = 0; omega) (by show a + 64 + 64 ≤ 256; omega))
  · rw [Nat.testBit_eq_decide_div_mod_eq]; exact decide_eq_false (by show ¬ a' / 64 % 2 = 1; omega)
  · rw [Nat.testBit_eq_decide_div_mod_eq]; exact decide_eq_true (by show a' / 64 % 2 = 1; omega)
theorem t8_ok {S lo a V : Nat} (hm : a % 256 = 0) (ha : a + 256 ≤ 256) : TR p q r s S lo a 256 8 V (t8 p q r s S lo a V) := by
  unfold t8
  refine sk_ok (n := 256) (by decide +kernel) (fun _ _ => ?_)
  refine nx_ok (n := 128) (j := 7) (V0 := sB p q 128 mk7 V) (V1 := sB r s 128 mk7 V) (by omega) (fun a' h1 h2 => Lw_0 (j := 7) ?_) (fun a' h1 h2 => Lw_1 (j := 7) ?_) (t7_ok (by omega) (by omega)) (t7_ok (by show (a + 128) % 128 = 0; omega) (by show a + 128 + 128 ≤ 256; omega))
  · rw [Nat.testBit_eq_decide_div_mod_eq]; exact decide_eq_false (by show ¬ a' / 128 % 2 = 1; omega)
  · rw [Nat.testBit_eq_decide_div_mod_eq]; exact decide_eq_true (by show a' / 128 % 2 = 1; omega)
end TRE
