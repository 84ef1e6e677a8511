section ROW
variable {m : Nat} {P T K : Nat → Nat} {B : Nat}
/-- the sign i of two places, at a and b -/
def F2 (T : Nat → Nat) (i a b : Nat) : Nat := toN (T i) (1 <<< 3) a b 0
def tB (t k : Nat) : Bool := t.testBit k
theorem F2_lt {i a b : Nat} : F2 T i a b < 256 := zt_256 (by decide)
theorem F2_tb {i a b j : Nat} (hj : j < 8) : (F2 T i a b).testBit j = hb (tB (T i) 0) (tB (T i) 2) (tB (T i) 1) (tB (T i) 3) (a.testBit j) (b.testBit j) := by
  unfold F2
  rw [toN_bit, decide_eq_true (show j < 1 <<< 3 from hj), Bool.true_and]
  unfold zrw hb tB
  rw [zbitv a j, zbitv b j, zbitv 0 j, Nat.zero_testBit]
  cases a.testBit j <;> cases b.testBit j <;> rfl
theorem hb_3 (p q r s x y : Bool) : hb p q r s x (hb p q r s x (hb p q r s x y)) = hb p q r s x y := by
  cases p <;> cases q <;> cases r <;> cases s <;> cases x <;> cases y <;> rfl
theorem F2_3 {i a b : Nat} : F2 T i a (F2 T i a (F2 T i a b)) = F2 T i a b := by
  refine eq8 _ _ F2_lt F2_lt (fun j hj => ?_)
  rw [F2_tb hj, F2_tb hj, F2_tb hj]
  exact hb_3 _ _ _ _ _ _
theorem mg_F2 {i a S t : Nat} (ht : t < 256) : (mg (tB (T i) 0) (tB (T i) 2) (tB (T i) 1) (tB (T i) 3) a S).testBit t = true ↔ ∃ b, b < 256 ∧ S.testBit b = true ∧ F2 T i a b = t := by
  rw [mg_tb ht]
  constructor
  · rintro ⟨b, b1, b2, b3⟩
    exact ⟨b, b1, b2, (eq8 t _ ht F2_lt (fun j hj => by rw [b3 j hj, F2_tb hj])).symm⟩
  · rintro ⟨b, b1, b2, rfl⟩
    exact ⟨b, b1, b2, fun j hj => F2_tb hj⟩
/-- the found tables are S, their costs are within w -/
def FS (m : Nat) (P T K : Nat → Nat) (S : Nat) (w : Nat → Nat) (f : Nat → Int32) : Prop := ∀ t, t < 256 → (S.testBit t = true ∧ ∃ v, f t = nI v ∧ Dv m P T K 3 t v ∧ v + 9 ≤ w t) ∨ (S.testBit t = false ∧ f t = -9)
/-- what a table that a row has found is -/
def Cl (T : Nat → Nat) (i a S1 : Nat) (w : Nat → Nat) (wa Mw Sb t v : Nat) : Prop := (S1.testBit t = true ∧ v + 9 ≤ w t) ∨ (∃ c, c < 256 ∧ S1.testBit c = true ∧ t = F2 T i a c ∧ v + 9 ≤ wa + Mw) ∨ (∃ c, c < 256 ∧ S1.testBit c = true ∧ t = F2 T i a (F2 T i a c) ∧ Sb.testBit (F2 T i a c) = true ∧ v + 9 ≤ wa + wa + Mw)
theorem Cl_le {i a S1 wa Mw Sb t v v' : Nat} {w : Nat → Nat} (h : v' ≤ v) (hc : Cl T i a S1 w wa Mw Sb t v) : Cl T i a S1 w wa Mw Sb t v' := by
  rcases hc with ⟨h1, h2⟩ | ⟨c, h1, h2, h3, h4⟩ | ⟨c, h1, h2, h3, h4, h5⟩
  · exact Or.inl ⟨h1, by omega⟩
  · exact Or.inr (Or.inl ⟨c, h1, h2, h3, by omega⟩)
  · exact Or.inr (Or.inr ⟨c, h1, h2, h3, h4, by omega⟩)
theorem Cl_up {i a S1 wa Mw Sb Sb' t v : Nat} {w : Nat → Nat} (h : ∀ q, Sb.testBit q = true → Sb'.testBit q = true) (hc : Cl T i a S1 w wa Mw Sb t v) : Cl T i a S1 w wa Mw Sb' t v := by
  rcases hc with h1 | h1 | ⟨c, h1, h2, h3, h4, h5⟩
  · exact Or.inl h1
  · exact Or.inr (Or.inl h1)
  · exact Or.inr (Or.inr ⟨c, h1, h2, h3, h _ h4, h5⟩)
/-- within a row, at the table b -/
def RI (m : Nat) (P T K : Nat → Nat) (B i a S1 : Nat) (w : Nat → Nat) (wa Mw : Nat) (f0 : Nat → Int32) (b Sb : Nat) (s : (Nat → Int32) × Bool) : Prop :=
  (∀ t, t < 256 → (Sb.testBit t = true ∧ ∃ v, s.1 t = nI v ∧ Dv m P T K 3 t v ∧ Cl T i a S1 w wa Mw Sb t v) ∨ (Sb.testBit t = false ∧ s.1 t = -9)) ∧
  (∀ t, t < 256 → S1.testBit t = true → ∃ v, s.1 t = nI v ∧ v + 9 ≤ w t) ∧ (∀ c, c < b → S1.testBit c = true → ∃ v, s.1 (F2 T i a c) = nI v ∧ v + 9 ≤ wa + w c) ∧ BI m P T K 3 B f0 s
theorem or1_tb {S t q : Nat} : (Nat.lor S (Nat.shiftLeft 1 t)).testBit q = (S.testBit q || decide (t = q)) := by
  show (S ||| 1 <<< t).testBit q = _
  rw [Nat.testBit_or, Nat.one_shiftLeft, Nat.testBit_two_pow]
theorem fsB_2 {a b : Nat} {x : Int32} {T0 K0 : Nat} {s : (Nat → Int32) × Bool} : fsB 2 T0 K0 3 (z22 3) a x b s = if s.1 b = -9 then s else fsT (toN T0 (1 <<< 3) a b 0) (nI K0 + x + s.1 b + nI 0) s := by
  unfold fsB fsY
  rw [show zx 1 2 s.1 b = s.1 b from rfl]
  by_cases h : s.1 b = -9
  · rw [if_pos h, if_pos h]
  · rw [if_neg h, if_neg h]
    show fsC 2 T0 K0 3 a b x (s.1 b) 0 s = _
    unfold fsC fsZ
    rw [show zx 2 2 s.1 0 = nI 0 from rfl, if_neg (by decide)]
theorem row_step {i a S1 wa Mw x0 b Sb : Nat} {w : Nat → Nat} {f0 : Nat → Int32} {s : (Nat → Int32) × Bool} (hi : i < m) (hP : P i = 2) (hK : K i ≤ 9) (hB : B + 9 < 2 ^ 30) (hx : x0 + 9 ≤ wa) (hxd : Dv m P T K 3 a x0) (hw : ∀ t, t < 256 → S1.testBit t = true → w t ≤ Mw) (hWB : wa + wa + Mw ≤ B + 9) (hb256 : b < 256) (h : RI m P T K B i a S1 w wa Mw f0 b Sb s) :
    RI m P T K B i a S1 w wa Mw f0 (b + 1) (cond (Sb.testBit b) (Nat.lor Sb (Nat.shiftLeft 1 (F2 T i a b))) Sb) (fsB 2 (T i) (K i) 3 (z22 3) a (nI x0) b s) := by
  obtain ⟨hA, hS, hC, hI⟩ := h
  rw [fsB_2]
  rcases hA b hb256 with ⟨g1, y, g2, g3, g4⟩ | ⟨g1, g2⟩
  · have hy30 : y + 9 ≤ wa + wa + Mw := by
      rcases g4 with ⟨k1, k2⟩ | ⟨c, _, _, _, k2⟩ | ⟨c, _, _, _, _, k2⟩
      · have := hw b hb256 k1; omega
      · omega
      · exact k2
    rw [g1, if_neg (by rw [g2]; exact nI_m9 (by omega)), g2, nI_add, nI_add, nI_add]
    show RI m P T K B i a S1 w wa Mw f0 (b + 1) (Nat.lor Sb (Nat.shiftLeft 1 (F2 T i a b))) (fsT (F2 T i a b) (nI (K i + x0 + y + 0)) s)
    have ht := F2_lt (T := T) (i := i) (a := a) (b := b)
    have hd : Dv m P T K 3 (F2 T i a b) (K i + x0 + y + 0) := (Dv_cl m P T K 3).2 i a b 0 x0 y 0 hi (dvA_y (by omega) hxd) (dvA_y (by omega) g3) (dvA_n (by omega))
    have hmono : ∀ q, Sb.testBit q = true → (Nat.lor Sb (Nat.shiftLeft 1 (F2 T i a b))).testBit q = true := fun q hq => by rw [or1_tb, hq]; rfl
    have hself : (Nat.lor Sb (Nat.shiftLeft 1 (F2 T i a b))).testBit (F2 T i a b) = true := by rw [or1_tb, decide_eq_true rfl, Bool.or_true]
    have hvy : K i + x0 + y + 0 + 9 ≤ wa + (y + 9) := by omega
    generalize hv : K i + x0 + y + 0 = v at hd hvy
    have hbd : ∀ t v0, t < 256 → Cl T i a S1 w wa Mw Sb t v0 → v0 + 9 ≤ wa + wa + Mw := fun t v0 ht hc => by
      rcases hc with ⟨k1, k2⟩ | ⟨c, _, _, _, k2⟩ | ⟨c, _, _, _, _, k2⟩
      · have := hw t ht k1; omega
      · omega
      · exact k2
    have hnew : s.1 (F2 T i a b) = -9 → Cl T i a S1 w wa Mw (Nat.lor Sb (Nat.shiftLeft 1 (F2 T i a b))) (F2 T i a b) v := fun h9 => by
      rcases g4 with ⟨k1, k2⟩ | ⟨c, k0, k1, k3, k2⟩ | ⟨c, k0, k1, k3, k4, k2⟩
      · exact Or.inr (Or.inl ⟨b, hb256, k1, rfl, by have := hw b hb256 k1; omega⟩)
      · exact Or.inr (Or.inr ⟨c, k0, k1, by rw [← k3], by rw [← k3]; exact hmono b g1, by omega⟩)
      · have e : F2 T i a b = F2 T i a c := by rw [k3]; exact F2_3
        rw [e] at h9
        rcases hA _ (F2_lt (T := T) (i := i) (a := a) (b := c)) with ⟨_, v0, k5, _, k6⟩ | ⟨k5, _⟩
        · have := hbd _ v0 F2_lt k6
          exact absurd (k5.symm.trans h9) (nI_m9 (by omega))
        · rw [k4] at k5; cases k5
    have hv31 : v + 9 < 2 ^ 31 := by omega
    have hnewB : s.1 (F2 T i a b) = -9 → v ≤ B := fun h9 => by
      have hc := hnew h9
      rcases hc with ⟨k1, k2⟩ | ⟨c, _, _, _, k2⟩ | ⟨c, _, _, _, _, k2⟩
      · have := hw _ ht k1; omega
      · omega
      · omega
    have hI2 := fsT_BI (by omega) hI (by rw [z22_3]; exact ht) (show v < 2 ^ 31 by omega) hd hnewB
    by_cases hc : s.1 (F2 T i a b) = -9 ∨ nI v < s.1 (F2 T i a b)
    · have e : fsT (F2 T i a b) (nI v) s = (fu s.1 (F2 T i a b) (nI v), true) := if_pos hc
      have hdec : ∀ v0, v0 + 9 < 2 ^ 31 → s.1 (F2 T i a b) = nI v0 → v < v0 := fun v0 h31 h0 => by
        rw [h0] at hc
        rcases hc with hc | hc
        · exact absurd hc (nI_m9 (by omega))
        · rw [nI_ltI (by omega) (by omega)] at hc; exact hc
      rw [e] at hI2 ⊢
      refine ⟨fun q hq => ?_, fun q hq hq1 => ?_, fun c hcb hc1 => ?_, hI2⟩
      · by_cases eq : q = F2 T i a b
        · subst eq
          refine Or.inl ⟨hself, v, if_pos rfl, hd, ?_⟩
          rcases hA _ ht with ⟨k1, v0, k2, _, k3⟩ | ⟨_, k2⟩
          · have := hbd _ v0 ht k3
            exact Cl_up hmono (Cl_le (Nat.le_of_lt (hdec v0 (by omega) k2)) k3)
          · exact hnew k2
        · have e1 : (Nat.lor Sb (Nat.shiftLeft 1 (F2 T i a b))).testBit q = Sb.testBit q := by rw [or1_tb, decide_eq_false (fun z => eq z.symm), Bool.or_false]
          have e2 : fu s.1 (F2 T i a b) (nI v) q = s.1 q := if_neg eq
          show ((Nat.lor Sb (Nat.shiftLeft 1 (F2 T i a b))).testBit q = true ∧ ∃ v', fu s.1 (F2 T i a b) (nI v) q = nI v' ∧ _) ∨ (_ ∧ fu s.1 (F2 T i a b) (nI v) q = -9)
          rw [e1, e2]
          rcases hA q hq with ⟨k1, v0, k2, k3, k4⟩ | k1
          · exact Or.inl ⟨k1, v0, k2, k3, Cl_up hmono k4⟩
          · exact Or.inr k1
      · obtain ⟨v0, k1, k2⟩ := hS q hq hq1
        show ∃ v', fu s.1 (F2 T i a b) (nI v) q = nI v' ∧ v' + 9 ≤ w q
        by_cases eq : q = F2 T i a b
        · have := hw q hq hq1
          have h3 := hdec v0 (by omega) (by rw [← eq]; exact k1)
          exact ⟨v, if_pos eq, by omega⟩
        · exact ⟨v0, (if_neg eq).trans k1, k2⟩
      · show ∃ v', fu s.1 (F2 T i a b) (nI v) (F2 T i a c) = nI v' ∧ v' + 9 ≤ wa + w c
        by_cases eb : c = b
        · subst eb
          obtain ⟨y0, k1, k2⟩ := hS c hb256 hc1
          have := hw c hb256 hc1
          have : y = y0 := (nI_eq (by omega) (by omega)).mp (g2.symm.trans k1)
          exact ⟨v, if_pos rfl, by omega⟩
        · obtain ⟨v0, k1, k2⟩ := hC c (by omega) hc1
          by_cases eq : F2 T i a c = F2 T i a b
          · have := hw c (by omega) hc1
            have h3 := hdec v0 (by omega) (by rw [← eq]; exact k1)
            exact ⟨v, if_pos eq, by omega⟩
          · exact ⟨v0, (if_neg eq).trans k1, k2⟩
    · have e : fsT (F2 T i a b) (nI v) s = s := if_neg hc
      rw [e] at hI2 ⊢
      have hfo : Sb.testBit (F2 T i a b) = true ∧ ∃ v0, s.1 (F2 T i a b) = nI v0 ∧ v0 ≤ v := by
        rcases hA _ ht with ⟨k1, v0, k2, _, k3⟩ | ⟨_, k2⟩
        · have := hbd _ v0 ht k3
          refine ⟨k1, v0, k2, ?_⟩
          have h5 : ¬ nI v < s.1 (F2 T i a b) := fun z => hc (Or.inr z)
          rw [k2, nI_ltI (by omega) (by omega)] at h5
          omega
        · exact absurd (Or.inl k2) hc
      have e1 : ∀ q, (Nat.lor Sb (Nat.shiftLeft 1 (F2 T i a b))).testBit q = Sb.testBit q := fun q => by
        rw [or1_tb]
        by_cases eq : F2 T i a b = q
        · rw [← eq, hfo.1]; rfl
        · rw [decide_eq_false eq, Bool.or_false]
      refine ⟨fun q hq => ?_, hS, fun c hcb hc1 => ?_, hI2⟩
      · rw [e1]
        rcases hA q hq with ⟨k1, v0, k2, k3, k4⟩ | k1
        · exact Or.inl ⟨k1, v0, k2, k3, Cl_up hmono k4⟩
        · exact Or.inr k1
      · by_cases eb : c = b
        · subst eb
          obtain ⟨y0, k1, k2⟩ := hS c hb256 hc1
          have := hw c hb256 hc1
          have : y = y0 := (nI_eq (by omega) (by omega)).mp (g2.symm.trans k1)
          obtain ⟨_, v0, k3, k4⟩ := hfo
          exact ⟨v0, k3, by omega⟩
        · exact hC c (by omega) hc1
  · rw [g1, if_pos g2]
    show RI m P T K B i a S1 w wa Mw f0 (b + 1) Sb s
    refine ⟨hA, hS, fun c hc hc1 => ?_, hI⟩
    by_cases e : c = b
    · subst e
      obtain ⟨v, h1, h2⟩ := hS c hb256 hc1
      have := hw c hb256 hc1
      exact absurd (h1.symm.trans g2) (nI_m9 (by omega))
    · exact hC c (by omega) hc1
end ROW
