section SWP
variable {m : Nat} {P T K : Nat → Nat} {B : Nat}
theorem fCD_ok {i a b : Nat} (ha : a < 256) (hb2 : b < 256) : Nat.xor (fC (tB (T i) 0) (tB (T i) 1) a) (Nat.land b (fD (tB (T i) 0) (tB (T i) 2) (tB (T i) 1) (tB (T i) 3) a)) = F2 T i a b := by
  have h255 : ∀ x, x < 256 → ∀ j, j < 8 → (Nat.xor x 255).testBit j = !(x.testBit j) ∧ Nat.xor x 255 < 256 := by decide +kernel
  have hc : ∀ (o : Bool) j, j < 8 → (cond o 255 0).testBit j = o := by decide +kernel
  have hlt : ∀ (o : Bool) x, x < 256 → Nat.land x (cond o 255 0) < 256 := fun o x hx => Nat.lt_of_le_of_lt Nat.and_le_left hx
  have hor : ∀ x y, x < 256 → y < 256 → Nat.lor x y < 256 := fun x y hx hy => Nat.or_lt_two_pow (n := 8) hx hy
  have hxr : ∀ x y, x < 256 → y < 256 → Nat.xor x y < 256 := fun x y hx hy => Nat.xor_lt_two_pow (n := 8) hx hy
  have hn := (h255 a ha 0 (by decide)).2
  refine eq8 _ _ (hxr _ _ (hor _ _ (hlt _ _ ha) (hlt _ _ hn)) (Nat.lt_of_le_of_lt Nat.and_le_left hb2)) F2_lt (fun j hj => ?_)
  rw [F2_tb hj]
  unfold fC fD
  show (((a &&& cond (tB (T i) 1) 255 0) ||| ((Nat.xor a 255) &&& cond (tB (T i) 0) 255 0)) ^^^ (b &&& ((a &&& cond (Bool.xor (tB (T i) 1) (tB (T i) 3)) 255 0) ||| ((Nat.xor a 255) &&& cond (Bool.xor (tB (T i) 0) (tB (T i) 2)) 255 0)))).testBit j = _
  rw [Nat.testBit_xor, Nat.testBit_or, Nat.testBit_and, Nat.testBit_and, Nat.testBit_and, Nat.testBit_or, Nat.testBit_and, Nat.testBit_and, hc _ j hj, hc _ j hj, hc _ j hj, hc _ j hj, (h255 a ha j hj).1]
  generalize tB (T i) 0 = p
  generalize tB (T i) 1 = r
  generalize tB (T i) 2 = q
  generalize tB (T i) 3 = s
  generalize a.testBit j = x
  generalize b.testBit j = y
  cases p <;> cases q <;> cases r <;> cases s <;> cases x <;> cases y <;> rfl
/-- a row, to its end -/
theorem row_loop {i a S1 wa Mw x0 : Nat} {w : Nat → Nat} {f0 : Nat → Int32} (hi : i < m) (hP : P i = 2) (hK : K i ≤ 9) (hB : B + 9 < 2 ^ 30) (hx : x0 + 9 ≤ wa) (hxd : Dv m P T K 3 a x0) (hw : ∀ t, t < 256 → S1.testBit t = true → w t ≤ Mw) (hWB : wa + wa + Mw ≤ B + 9) (ha : a < 256) : ∀ (j b Sb : Nat) (s : (Nat → Int32) × Bool), b + j = 256 → RI m P T K B i a S1 w wa Mw f0 b Sb s → RI m P T K B i a S1 w wa Mw f0 256 (rX (fC (tB (T i) 0) (tB (T i) 1) a) (fD (tB (T i) 0) (tB (T i) 2) (tB (T i) 1) (tB (T i) 3) a) j b Sb) (zfor (fsB 2 (T i) (K i) 3 (z22 3) a (nI x0)) j b s) := by
  intro j
  induction j with
  | zero => intro b Sb s hb h; obtain rfl : b = 256 := by omega
            exact h
  | succ j ih =>
    intro b Sb s hb h
    have h1 := ih (b + 1) _ _ (by omega) (row_step hi hP hK hB hx hxd hw hWB (by omega) h)
    have e : rX (fC (tB (T i) 0) (tB (T i) 1) a) (fD (tB (T i) 0) (tB (T i) 2) (tB (T i) 1) (tB (T i) 3) a) (j + 1) b Sb = rX (fC (tB (T i) 0) (tB (T i) 1) a) (fD (tB (T i) 0) (tB (T i) 2) (tB (T i) 1) (tB (T i) 3) a) j (b + 1) (cond (Sb.testBit b) (Nat.lor Sb (Nat.shiftLeft 1 (F2 T i a b))) Sb) := by
      show rX _ _ j (b + 1) (cond (bB Sb b) (Nat.lor Sb (Nat.shiftLeft 1 (Nat.xor (fC (tB (T i) 0) (tB (T i) 1) a) (Nat.land b (fD (tB (T i) 0) (tB (T i) 2) (tB (T i) 1) (tB (T i) 3) a))))) Sb) = _
      rw [bB_tb, fCD_ok ha (by omega)]
    rw [e]
    exact h1
/-- a row's end: the found tables, and the bounds of the new ones -/
theorem row_end {i a S1 S' I0 wa Mw X z : Nat} {w : Nat → Nat} {f0 : Nat → Int32} {s : (Nat → Int32) × Bool} (hi : i < m) (hP : P i = 2) (hK : K i ≤ 9) (hB : B + 9 < 2 ^ 30) (hw : ∀ t, t < 256 → S1.testBit t = true → w t ≤ Mw) (hWB : wa + wa + Mw ≤ B + 9) (ha : a < 256) (haS : S1.testBit a = true) (hwa : w a = wa) (hF : FS m P T K S1 w s.1) (hI : BI m P T K 3 B f0 s)
    (hI0 : ∀ t, t < 256 → I0.testBit t = true → ∃ c, c < 256 ∧ S1.testBit c = true ∧ F2 T i a c = t ∧ w c ≤ X)
    (hS' : ((∀ t, t < 256 → S'.testBit t = (S1.testBit t || (mg (tB (T i) 0) (tB (T i) 2) (tB (T i) 1) (tB (T i) 3) a S1).testBit t)) ∧ (∀ t, t < 256 → (mg (tB (T i) 0) (tB (T i) 2) (tB (T i) 1) (tB (T i) 3) a (mg (tB (T i) 0) (tB (T i) 2) (tB (T i) 1) (tB (T i) 3) a S1)).testBit t = true → (S1.testBit t || (mg (tB (T i) 0) (tB (T i) 2) (tB (T i) 1) (tB (T i) 3) a S1).testBit t) = true) ∧ z = wa + Mw) ∨ (S' = rX (fC (tB (T i) 0) (tB (T i) 1) a) (fD (tB (T i) 0) (tB (T i) 2) (tB (T i) 1) (tB (T i) 3) a) 256 0 S1 ∧ z = wa + wa + Mw)) :
    FS m P T K S' (fun t => if S1.testBit t = true then w t else if I0.testBit t = true then wa + X else z) (fsA 2 (T i) (K i) 3 (z22 3) a s).1 ∧ BI m P T K 3 B f0 (fsA 2 (T i) (K i) 3 (z22 3) a s) ∧ ∀ t, t < 256 → S1.testBit t = true → S'.testBit t = true := by
  rcases hF a ha with ⟨_, x0, hx1, hx2, hx3⟩ | ⟨h1, _⟩
  · have hMa := hw a ha haS
    have e : fsA 2 (T i) (K i) 3 (z22 3) a s = zfor (fsB 2 (T i) (K i) 3 (z22 3) a (nI x0)) 256 0 s := by
      unfold fsA fsX
      rw [show zx 0 2 s.1 a = s.1 a from rfl, hx1, if_neg (nI_m9 (by omega)), show zfs 1 2 (z22 3) = 256 by decide]
    rw [e]
    have h0 : RI m P T K B i a S1 w wa Mw f0 0 S1 s := by
      refine ⟨fun t ht => ?_, fun t ht h1 => ?_, fun c hc => absurd hc (by omega), hI⟩
      · rcases hF t ht with ⟨k1, v, k2, k3, k4⟩ | k1
        · exact Or.inl ⟨k1, v, k2, k3, Or.inl ⟨k1, k4⟩⟩
        · exact Or.inr k1
      · rcases hF t ht with ⟨k1, v, k2, k3, k4⟩ | ⟨k1, _⟩
        · exact ⟨v, k2, k4⟩
        · rw [h1] at k1; cases k1
    obtain ⟨rA, rS, rC, rI⟩ := row_loop hi hP hK hB (by omega) hx2 hw hWB ha 256 0 S1 s (by omega) h0
    generalize hSb : rX (fC (tB (T i) 0) (tB (T i) 1) a) (fD (tB (T i) 0) (tB (T i) 2) (tB (T i) 1) (tB (T i) 3) a) 256 0 S1 = Sb at rA hS'
    generalize zfor (fsB 2 (T i) (K i) 3 (z22 3) a (nI x0)) 256 0 s = s' at rA rS rC rI
    have hfo : ∀ t v, t < 256 → s'.1 t = nI v → v < 2 ^ 31 → Sb.testBit t = true := fun t v ht h1 h2 => by
      rcases rA t ht with ⟨k1, _⟩ | ⟨_, k1⟩
      · exact k1
      · exact absurd (h1.symm.trans k1) (nI_m9 h2)
    have hS1b : ∀ t, t < 256 → S1.testBit t = true → Sb.testBit t = true := fun t ht h1 => by
      obtain ⟨v, k1, k2⟩ := rS t ht h1
      have := hw t ht h1
      exact hfo t v ht k1 (by omega)
    have hFb : ∀ c, c < 256 → S1.testBit c = true → Sb.testBit (F2 T i a c) = true := fun c hc h1 => by
      obtain ⟨v, k1, k2⟩ := rC c hc h1
      have := hw c hc h1
      exact hfo _ v F2_lt k1 (by omega)
    have hsame : ∀ t, t < 256 → S'.testBit t = Sb.testBit t := by
      intro t ht
      rcases hS' with ⟨h1, h2, _⟩ | ⟨h1, _⟩
      · rw [h1 t ht]
        cases hb : Sb.testBit t with
        | true =>
          rcases rA t ht with ⟨_, v, _, _, k3⟩ | ⟨k1, _⟩
          · rcases k3 with ⟨k4, _⟩ | ⟨c, k4, k5, k6, _⟩ | ⟨c, k4, k5, k6, _, _⟩
            · rw [k4]; rfl
            · rw [(mg_F2 ht).mpr ⟨c, k4, k5, k6.symm⟩, Bool.or_true]
            · exact h2 t ht ((mg_F2 ht).mpr ⟨F2 T i a c, F2_lt, (mg_F2 F2_lt).mpr ⟨c, k4, k5, rfl⟩, k6.symm⟩)
          · rw [hb] at k1; cases k1
        | false =>
          have h3 : S1.testBit t = false := by
            cases hq : S1.testBit t with
            | false => rfl
            | true => rw [hS1b t ht hq] at hb; cases hb
          have h4 : (mg (tB (T i) 0) (tB (T i) 2) (tB (T i) 1) (tB (T i) 3) a S1).testBit t = false := by
            cases hq : (mg (tB (T i) 0) (tB (T i) 2) (tB (T i) 1) (tB (T i) 3) a S1).testBit t with
            | false => rfl
            | true =>
              obtain ⟨c, k1, k2, k3⟩ := (mg_F2 ht).mp hq
              have := hFb c k1 k2
              rw [k3, hb] at this
              cases this
          rw [h3, h4]; rfl
      · rw [h1]
    refine ⟨fun t ht => ?_, rI, fun t ht h1 => by rw [hsame t ht]; exact hS1b t ht h1⟩
    rw [hsame t ht]
    rcases rA t ht with ⟨k1, v, k2, k3, k4⟩ | k1
    · refine Or.inl ⟨k1, v, k2, k3, ?_⟩
      dsimp only
      by_cases h1 : S1.testBit t = true
      · rw [if_pos h1]
        obtain ⟨v0, k5, k6⟩ := rS t ht h1
        have := hw t ht h1
        have hcb : v + 9 ≤ wa + wa + Mw := by
          rcases k4 with ⟨k7, k8⟩ | ⟨c, _, _, _, k8⟩ | ⟨c, _, _, _, _, k8⟩ <;> omega
        have : v = v0 := (nI_eq (by omega) (by omega)).mp (k2.symm.trans k5)
        omega
      · rw [if_neg h1]
        have hcb : v + 9 ≤ wa + wa + Mw := by
          rcases k4 with ⟨k7, k8⟩ | ⟨c, _, _, _, k8⟩ | ⟨c, _, _, _, _, k8⟩
          · exact absurd k7 h1
          · omega
          · omega
        have hval : ∀ c, c < 256 → S1.testBit c = true → F2 T i a c = t → v + 9 ≤ wa + w c := fun c h2 h3 h4 => by
          obtain ⟨v0, k5, k6⟩ := rC c h2 h3
          have := hw c h2 h3
          rw [h4] at k5
          have : v = v0 := (nI_eq (by omega) (by omega)).mp (k2.symm.trans k5)
          omega
        by_cases h2 : I0.testBit t = true
        · rw [if_pos h2]
          obtain ⟨c, c1, c2, c3, c4⟩ := hI0 t ht h2
          have := hval c c1 c2 c3
          omega
        · rw [if_neg h2]
          rcases hS' with ⟨h3, _, hz⟩ | ⟨_, hz⟩
          · have h4 : S'.testBit t = true := by rw [hsame t ht]; exact k1
            rw [h3 t ht, Bool.or_eq_true] at h4
            rcases h4 with h5 | h5
            · exact absurd h5 h1
            · obtain ⟨c, c1, c2, c3⟩ := (mg_F2 ht).mp h5
              have := hval c c1 c2 c3
              have := hw c c1 c2
              omega
          · omega
    · exact Or.inr k1
  · rw [haS] at h1; cases h1
end SWP
