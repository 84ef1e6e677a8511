/-! the class's toldRows and the reference's makes -/
theorem zor_congr {g g' : Nat → Nat} : ∀ (j i : Nat), (∀ x, i ≤ x → x < i + j → g x = g' x) → zor g j i = zor g' j i := by
  intro j
  induction j with
  | zero => intro i h; rfl
  | succ j ih =>
    intro i h
    show g i ||| zor g j (i + 1) = g' i ||| zor g' j (i + 1)
    rw [h i (Nat.le_refl _) (by omega), ih (i + 1) (fun x h1 h2 => h x (by omega) (by omega))]
theorem zor_0 {g : Nat → Nat} : ∀ (j i : Nat), (∀ x, i ≤ x → g x = 0) → zor g j i = 0 := by
  intro j
  induction j with
  | zero => intro i h; rfl
  | succ j ih =>
    intro i h
    show g i ||| zor g j (i + 1) = 0
    rw [h i (Nat.le_refl _), ih (i + 1) (fun x h1 => h x (by omega))]
    rfl
theorem zor_1 {g : Nat → Nat} {m : Nat} (hm : 1 ≤ m) (h : ∀ x, 1 ≤ x → g x = 0) : zor g m 0 = g 0 := by
  obtain ⟨k, rfl⟩ : ∃ k, m = k + 1 := ⟨m - 1, by omega⟩
  show g 0 ||| zor g k 1 = g 0
  rw [zor_0 k 1 h, Nat.or_zero]
theorem z1_shr {x : Nat} (h : 1 ≤ x) : ¬ 1 >>> x &&& 1 = 1 := by
  rw [Nat.shiftRight_eq_div_pow, Nat.div_eq_of_lt (Nat.one_lt_two_pow (by omega))]
  decide
theorem zbit_eq (x i : Nat) : (x >>> i &&& 1 = 1) ↔ x.testBit i = true := by
  rw [Nat.testBit, Nat.and_comm]
  have h := zb_lt x i
  rw [Nat.and_comm] at h
  generalize 1 &&& x >>> i = y at h ⊢
  rcases (show y = 0 ∨ y = 1 by omega) with rfl | rfl <;> simp
theorem zand1_bit (x i q : Nat) : ((x &&& 1) <<< i).testBit q = (decide (q = i) && decide (x &&& 1 = 1)) := by
  have h := zb_lt x 0
  rw [Nat.shiftRight_zero] at h
  generalize x &&& 1 = y at h ⊢
  rw [Nat.testBit_shiftLeft]
  rcases (show y = 0 ∨ y = 1 by omega) with rfl | rfl
  · simp
  · by_cases hq : q = i
    · subst hq; simp
    · by_cases hge : q ≥ i
      · have : Nat.testBit 1 (q - i) = false := by
          obtain ⟨k, hk⟩ : ∃ k, q - i = k + 1 := ⟨q - i - 1, by omega⟩
          rw [hk, Nat.testBit_succ]
          simp
        simp [hq, this]
      · simp [hq, hge]
def zrw (a b c j : Nat) : Nat := (a >>> j &&& 1) + 2 * (b >>> j &&& 1) + 4 * (c >>> j &&& 1)
theorem toF_bit (t a b c q : Nat) : ∀ (j i v : Nat), (zfor (toF t a b c) j i v).testBit q = (v.testBit q || (decide (i ≤ q) && decide (q < i + j) && t.testBit (zrw a b c q))) := by
  intro j
  induction j with
  | zero =>
    intro i v
    have : (decide (i ≤ q) && decide (q < i + 0)) = false := by
      by_cases h : i ≤ q
      · simp <;> omega
      · simp [h]
    rw [this]
    show v.testBit q = _
    simp
  | succ j ih =>
    intro i v
    show (zfor (toF t a b c) j (i + 1) (toF t a b c i v)).testBit q = _
    rw [ih (i + 1)]
    unfold toF
    rw [Nat.testBit_or, zand1_bit]
    by_cases hq : q = i
    · subst hq
      have e : decide (t >>> ((a >>> q &&& 1) + 2 * (b >>> q &&& 1) + 4 * (c >>> q &&& 1)) &&& 1 = 1) = t.testBit (zrw a b c q) := by
        have := zbit_eq t (zrw a b c q)
        unfold zrw at this ⊢
        by_cases hh : t.testBit ((a >>> q &&& 1) + 2 * (b >>> q &&& 1) + 4 * (c >>> q &&& 1)) = true
        · rw [hh, decide_eq_true (this.mpr hh)]
        · rw [decide_eq_false (fun z => hh (this.mp z))]; simpa using hh
      rw [e]
      have h1 : decide (q + 1 ≤ q) = false := decide_eq_false (by omega)
      have h2 : decide (q < q + (j + 1)) = true := decide_eq_true (by omega)
      rw [h1, h2]
      simp
    · have h0 : decide (q = i) = false := decide_eq_false hq
      have h1 : decide (i + 1 ≤ q) = decide (i ≤ q) := by rw [decide_eq_decide]; omega
      have h2 : decide (q < i + 1 + j) = decide (q < i + (j + 1)) := by rw [decide_eq_decide]; omega
      rw [h0, h1, h2]
      simp
theorem toN_bit (t m a b c q : Nat) : (toN t m a b c).testBit q = (decide (q < m) && t.testBit (zrw a b c q)) := by
  unfold toN
  rw [toF_bit]
  simp
theorem zFF_bit {q : Nat} (h : q < 32) : zFF.testBit q = true := by
  have : zFF = 2 ^ 32 - 1 := rfl
  rw [this, Nat.testBit_two_pow_sub_one]
  exact decide_eq_true h
theorem pkN_bit {x y z q : Nat} (h : q < 32) : (pkN x y z).testBit q = bif x.testBit q then y.testBit q else z.testBit q := by
  unfold pkN
  rw [Nat.testBit_or, Nat.testBit_and, Nat.testBit_and, Nat.testBit_xor, zFF_bit h]
  cases x.testBit q <;> cases y.testBit q <;> cases z.testBit q <;> rfl
theorem zmFF_bit {y q : Nat} (hy : y < 2) (h : q < 32) : (y * zFF).testBit q = decide (y = 1) := by
  rcases (show y = 0 ∨ y = 1 by omega) with rfl | rfl
  · simp
  · rw [Nat.one_mul, zFF_bit h]; rfl
theorem zbitd (x i : Nat) : decide (x >>> i &&& 1 = 1) = x.testBit i := by
  have := zbit_eq x i
  by_cases hh : x.testBit i = true
  · rw [hh, decide_eq_true (this.mpr hh)]
  · rw [decide_eq_false (fun z => hh (this.mp z))]; simpa using hh
theorem zbitv (x i : Nat) : x >>> i &&& 1 = bif x.testBit i then 1 else 0 := by
  have h := zb_lt x i
  have e := zbit_eq x i
  cases hb : x.testBit i with
  | true => exact e.mpr hb
  | false =>
    have : ¬ x >>> i &&& 1 = 1 := fun z => by rw [e.mp z] at hb; cases hb
    show _ = 0
    omega
theorem zttN_bit {t a b q : Nat} (h : q < 32) : (zttN t a b).testBit q = t.testBit ((a >>> q &&& 1) + 2 * (b >>> q &&& 1)) := by
  unfold zttN
  rw [pkN_bit h, pkN_bit h, pkN_bit h, zmFF_bit (zb_lt _ _) h, zmFF_bit (zb_lt _ _) h, zmFF_bit (zb_lt _ _) h, zmFF_bit (zb_lt _ _) h, zbitd, zbitd, zbitd, zbitd, zbitv a q, zbitv b q]
  cases a.testBit q <;> cases b.testBit q <;> rfl
theorem tl_bit {w a b c q : Nat} (h : q < 32) : (pkN c (zttN (w >>> 4) a b) (zttN w a b)).testBit q = w.testBit (zrw a b c q) := by
  rw [pkN_bit h, zttN_bit h, zttN_bit h, Nat.testBit_shiftRight]
  unfold zrw
  rw [zbitv c q]
  cases c.testBit q
  · rfl
  · show w.testBit (4 + _) = w.testBit (_ + 4 * 1)
    congr 1
    omega
theorem tl_to {w a b c m : Nat} (hm : m < 32) : pkN c (zttN (w >>> 4) a b) (zttN w a b) &&& (1 <<< m - 1) = toN w m a b c := by
  apply Nat.eq_of_testBit_eq
  intro q
  rw [Nat.testBit_and, toN_bit, Nat.one_shiftLeft, Nat.testBit_two_pow_sub_one, Bool.and_comm]
  by_cases h : q < m
  · rw [tl_bit (by omega)]
  · simp [h]
theorem zwd_bit : ∀ p, p < 4 → ∀ t, t < z22 p → ∀ i, i < 1 <<< p → (t * zrep p).testBit i = t.testBit i := by decide +kernel
theorem to_wide {p t m a b c : Nat} (hp : p < 4) (ht : t < z22 p) (h0 : p < 1 → a = 0) (h1 : p < 2 → b = 0) (h2 : p < 3 → c = 0) : toN (t * zrep p) m a b c = toN t m a b c := by
  apply Nat.eq_of_testBit_eq
  intro q
  rw [toN_bit, toN_bit]
  congr 1
  refine zwd_bit p hp t ht _ ?_
  have e0 := zb_lt a q
  have e1 := zb_lt b q
  have e2 := zb_lt c q
  unfold zrw
  rcases (show p = 0 ∨ p = 1 ∨ p = 2 ∨ p = 3 by omega) with rfl | rfl | rfl | rfl
  · rw [h0 (by decide), h1 (by decide), h2 (by decide), Nat.zero_shiftRight]; decide
  · rw [h1 (by decide), h2 (by decide), Nat.zero_shiftRight]; show _ + 2 * 0 + 4 * 0 < 2; omega
  · rw [h2 (by decide), Nat.zero_shiftRight]; show _ + _ + 4 * 0 < 4; omega
  · show _ < 8; omega
theorem tr_mk {p t m rows : Nat} (hp : p < 4) (ht : t < z22 p) (hm : m < 4) : trN p (t * zrep p) m rows = mkN p t m rows := by
  have hs := zsh_lt hm
  have hl : 1 <<< m - 1 + 1 = 1 <<< m := by omega
  unfold trN trM mkN
  rw [hl]
  have G : ∀ a b c, (p < 1 → a = 0) → (p < 2 → b = 0) → (p < 3 → c = 0) → 1 <<< (pkN c (zttN ((t * zrep p) >>> 4) a b) (zttN (t * zrep p) a b) &&& (1 <<< m - 1)) = 1 <<< toN t m a b c := by
    intro a b c h0 h1 h2
    rw [tl_to (by omega), to_wide hp ht h0 h1 h2]
  have L3 : ∀ a b, (p < 1 → a = 0) → (p < 2 → b = 0) → prN (zttN ((t * zrep p) >>> 4) a b) (zttN (t * zrep p) a b) (1 <<< m - 1) (if 2 < p then rows else 1) = zor (fun c => if mkB p 3 rows c = true then 1 <<< toN t m a b c else 0) (if 2 < p then 1 <<< m else 1) 0 := by
    intro a b h0 h1
    unfold prN
    rw [hl]
    by_cases h : 2 < p
    · rw [if_pos h, if_pos h]
      refine zor_congr _ _ (fun c _ _ => ?_)
      unfold prG
      rw [G a b c h0 h1 (fun z => by omega)]
      by_cases hb : rows >>> c &&& 1 = 1
      · rw [if_pos hb, if_pos (mkB_t hb)]
      · rw [if_neg hb, if_neg (by rw [mkB_f (by omega) hb]; decide)]
    · rw [if_neg h, if_neg h, zor_1 (by omega) (fun c hc => by unfold prG; rw [if_neg (z1_shr hc)])]
      show _ = (if mkB p 3 rows 0 = true then 1 <<< toN t m a b 0 else 0) ||| 0
      rw [Nat.or_zero, if_pos (mkB_lt (by omega))]
      unfold prG
      rw [if_pos (by decide), G a b 0 h0 h1 (fun _ => rfl)]
  have L2 : ∀ a, (p < 1 → a = 0) → zor (trG1 (t * zrep p) (1 <<< m - 1) (if 1 < p then rows else 1) (if 2 < p then rows else 1) a) (1 <<< m) 0 = zor (fun b => zor (fun c => if (mkB p 2 rows b && mkB p 3 rows c) = true then 1 <<< toN t m a b c else 0) (if 2 < p then 1 <<< m else 1) 0) (if 1 < p then 1 <<< m else 1) 0 := by
    intro a h0
    by_cases h : 1 < p
    · rw [if_pos h, if_pos h]
      refine zor_congr _ _ (fun b _ _ => ?_)
      unfold trG1
      by_cases hb : rows >>> b &&& 1 = 1
      · rw [if_pos hb, L3 a b h0 (fun z => by omega)]
        refine zor_congr _ _ (fun c _ _ => ?_)
        rw [mkB_t hb, Bool.true_and]
      · rw [if_neg hb]
        refine (zor_0 _ _ (fun c _ => ?_)).symm
        rw [mkB_f (by omega) hb, Bool.false_and, if_neg (by decide)]
    · rw [if_neg h, if_neg h, zor_1 (by omega) (fun b hb => by unfold trG1; rw [if_neg (z1_shr hb)])]
      show _ = zor _ _ 0 ||| 0
      rw [Nat.or_zero]
      unfold trG1
      rw [if_pos (by decide), L3 a 0 h0 (fun _ => rfl)]
      refine zor_congr _ _ (fun c _ _ => ?_)
      rw [mkB_lt (show p < 2 by omega), Bool.true_and]
  by_cases h : 0 < p
  · rw [if_pos h, if_pos h]
    refine zor_congr _ _ (fun a _ _ => ?_)
    unfold trG mkN1 mkN2
    by_cases hb : rows >>> a &&& 1 = 1
    · rw [if_pos hb, hl, L2 a (fun z => by omega)]
      refine zor_congr _ _ (fun b _ _ => zor_congr _ _ (fun c _ _ => ?_))
      unfold mkG
      rw [mkB_t (n := p) (k := 1) hb, Bool.true_and]
    · rw [if_neg hb]
      refine (zor_0 _ _ (fun b _ => zor_0 _ _ (fun c _ => ?_))).symm
      unfold mkG
      rw [mkB_f (show ¬ p < 1 by omega) hb, Bool.false_and, Bool.false_and, if_neg (by decide)]
  · rw [if_neg h, if_neg h, zor_1 (by omega) (fun a ha => by unfold trG; rw [if_neg (z1_shr ha)])]
    show _ = mkN1 p t m rows 0 ||| 0
    rw [Nat.or_zero]
    unfold trG mkN1 mkN2
    rw [if_pos (by decide), hl, L2 0 (fun _ => rfl)]
    refine zor_congr _ _ (fun b _ _ => zor_congr _ _ (fun c _ _ => ?_))
    unfold mkG
    rw [mkB_lt (show p < 1 by omega), Bool.true_and]
