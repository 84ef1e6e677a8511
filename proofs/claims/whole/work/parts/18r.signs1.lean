section SGO
variable {m : Nat} {P T K : Nat → Nat} {B : Nat}
/-- a sign of one place -/
def F1 (T : Nat → Nat) (i a : Nat) : Nat := toN (T i) (1 <<< 3) a 0 0
theorem F1_lt {i a : Nat} : F1 T i a < 256 := zt_256 (by decide)
theorem F1_tb {i a j : Nat} (hj : j < 8) : (F1 T i a).testBit j = cond (a.testBit j) (tB (T i) 1) (tB (T i) 0) := by
  unfold F1
  rw [toN_bit, decide_eq_true (show j < 1 <<< 3 from hj), Bool.true_and]
  unfold zrw tB
  rw [zbitv a j, zbitv 0 j, Nat.zero_testBit]
  cases a.testBit j <;> rfl
theorem F1_F1 {i c : Nat} (hc : c < 256) : F1 T i (F1 T i c) = F1 T i c ∨ F1 T i (F1 T i c) = c := by
  by_cases h : tB (T i) 0 = true ∧ tB (T i) 1 = false
  · refine Or.inr (eq8 _ _ F1_lt hc (fun j hj => ?_))
    rw [F1_tb hj, F1_tb hj, h.1, h.2]
    cases c.testBit j <;> rfl
  · refine Or.inl (eq8 _ _ F1_lt F1_lt (fun j hj => ?_))
    rw [F1_tb hj, F1_tb hj]
    generalize tB (T i) 0 = p at h ⊢
    generalize tB (T i) 1 = r at h ⊢
    cases p <;> cases r <;> cases c.testBit j <;> first | rfl | exact absurd ⟨rfl, rfl⟩ h
theorem mg_F1 {i S t : Nat} (ht : t < 256) : (mg (tB (T i) 0) (tB (T i) 1) (tB (T i) 0) (tB (T i) 1) 0 S).testBit t = true ↔ ∃ b, b < 256 ∧ S.testBit b = true ∧ F1 T i b = t := by
  rw [mg_tb ht]
  have e : ∀ x y, hb (tB (T i) 0) (tB (T i) 1) (tB (T i) 0) (tB (T i) 1) x y = cond y (tB (T i) 1) (tB (T i) 0) := fun x y => by cases x <;> rfl
  constructor
  · rintro ⟨b, b1, b2, b3⟩
    exact ⟨b, b1, b2, (eq8 t _ ht F1_lt (fun j hj => by rw [b3 j hj, F1_tb hj, e])).symm⟩
  · rintro ⟨b, b1, b2, rfl⟩
    exact ⟨b, b1, b2, fun j hj => by rw [F1_tb hj, e]⟩
theorem fsA_1 {a : Nat} {T0 K0 : Nat} {s : (Nat → Int32) × Bool} : fsA 1 T0 K0 3 (z22 3) a s = if s.1 a = -9 then s else fsT (toN T0 (1 <<< 3) a 0 0) (nI K0 + s.1 a + nI 0 + nI 0) s := by
  unfold fsA fsX
  rw [show zx 0 1 s.1 a = s.1 a from rfl]
  by_cases h : s.1 a = -9
  · rw [if_pos h, if_pos h]
  · rw [if_neg h, if_neg h]
    show fsB 1 T0 K0 3 (z22 3) a (s.1 a) 0 s = _
    unfold fsB fsY
    rw [show zx 1 1 s.1 0 = nI 0 from rfl, if_neg (by decide)]
    show fsC 1 T0 K0 3 a 0 (s.1 a) (nI 0) 0 s = _
    unfold fsC fsZ
    rw [show zx 2 1 s.1 0 = nI 0 from rfl, if_neg (by decide)]
/-- the costs behind the rows before a -/
def U1 (m : Nat) (P T K : Nat → Nat) (B i S X : Nat) (f0 : Nat → Int32) (a : Nat) (s : (Nat → Int32) × Bool) : Prop := (∀ t, t < 256 → (S.testBit t = true ∧ ∃ v, s.1 t = nI v ∧ Dv m P T K 3 t v ∧ v + 9 ≤ X) ∨ (S.testBit t = false ∧ (∃ c, c < 256 ∧ S.testBit c = true ∧ t = F1 T i c) ∧ ∃ v, s.1 t = nI v ∧ Dv m P T K 3 t v ∧ v + 9 ≤ 2 * X) ∨ (S.testBit t = false ∧ s.1 t = -9)) ∧ (∀ c, c < a → S.testBit c = true → ¬ s.1 (F1 T i c) = -9) ∧ BI m P T K 3 B f0 s
theorem U1_T {i S X a v : Nat} {f0 : Nat → Int32} {s : (Nat → Int32) × Bool} {t : Nat} (hX : 2 * X < 2 ^ 30) (h : U1 m P T K B i S X f0 a s) (ht : t < 256) (hd : Dv m P T K 3 t v) (hv31 : v < 2 ^ 31) (hB : B < 2 ^ 31) (hnew : s.1 t = -9 → v + 9 ≤ 2 * X ∧ v ≤ B ∧ ∃ c, c < 256 ∧ S.testBit c = true ∧ t = F1 T i c) : U1 m P T K B i S X f0 a (fsT t (nI v) s) ∧ ¬ (fsT t (nI v) s).1 t = -9 := by
  obtain ⟨h1, h2, h3⟩ := h
  have hI2 := fsT_BI hB h3 (by rw [z22_3]; exact ht) hv31 hd (fun h9 => (hnew h9).2.1)
  by_cases hc : s.1 t = -9 ∨ nI v < s.1 t
  · have e : fsT t (nI v) s = (fu s.1 t (nI v), true) := if_pos hc
    rw [e] at hI2 ⊢
    have hdec : ∀ v0, v0 + 9 ≤ 2 * X → s.1 t = nI v0 → v < v0 := fun v0 h31 h0 => by
      rw [h0] at hc
      rcases hc with hc | hc
      · exact absurd hc (nI_m9 (by omega))
      · rw [nI_ltI (by omega) (by omega)] at hc; exact hc
    refine ⟨⟨fun q hq => ?_, fun c hc1 hc2 => ?_, hI2⟩, by show ¬ fu s.1 t (nI v) t = -9; unfold fu; rw [if_pos rfl]; exact nI_m9 hv31⟩
    · show (S.testBit q = true ∧ ∃ v', fu s.1 t (nI v) q = nI v' ∧ _) ∨ (S.testBit q = false ∧ _ ∧ ∃ v', fu s.1 t (nI v) q = nI v' ∧ _) ∨ (_ ∧ fu s.1 t (nI v) q = -9)
      by_cases eq : q = t
      · subst eq
        rw [show fu s.1 q (nI v) q = nI v from if_pos rfl]
        rcases h1 q hq with ⟨k1, v0, k2, k3, k4⟩ | ⟨k1, k0, v0, k2, k3, k4⟩ | ⟨k1, k2⟩
        · exact Or.inl ⟨k1, v, rfl, hd, by have := hdec v0 (by omega) k2; omega⟩
        · exact Or.inr (Or.inl ⟨k1, k0, v, rfl, hd, by have := hdec v0 k4 k2; omega⟩)
        · obtain ⟨n1, _, n3⟩ := hnew k2
          exact Or.inr (Or.inl ⟨k1, n3, v, rfl, hd, n1⟩)
      · rw [show fu s.1 t (nI v) q = s.1 q from if_neg eq]
        exact h1 q hq
    · show ¬ fu s.1 t (nI v) (F1 T i c) = -9
      unfold fu
      split
      · exact nI_m9 hv31
      · exact h2 c hc1 hc2
  · have e : fsT t (nI v) s = s := if_neg hc
    rw [e]
    exact ⟨⟨h1, h2, h3⟩, fun h9 => hc (Or.inl h9)⟩
theorem U1_s {i S X a : Nat} {f0 : Nat → Int32} {s : (Nat → Int32) × Bool} (hi : i < m) (hP : P i = 1) (hK : K i ≤ 9) (hX9 : 9 ≤ X) (hX : 2 * X ≤ B + 9) (hB : B + 9 < 2 ^ 30) (ha : a < 256) (h : U1 m P T K B i S X f0 a s) : U1 m P T K B i S X f0 (a + 1) (fsA 1 (T i) (K i) 3 (z22 3) a s) := by
  rw [fsA_1]
  have hh := h
  obtain ⟨h1, h2, h3⟩ := h
  have step : ∀ y, s.1 a = nI y → Dv m P T K 3 a y → y + 9 ≤ 2 * X → (s.1 (F1 T i a) = -9 → S.testBit a = true ∧ y + 9 ≤ X) → U1 m P T K B i S X f0 (a + 1) (if s.1 a = -9 then s else fsT (toN (T i) (1 <<< 3) a 0 0) (nI (K i) + s.1 a + nI 0 + nI 0) s) := by
    intro y hy hyd hy2 hnw
    rw [if_neg (by rw [hy]; exact nI_m9 (by omega)), hy, nI_add, nI_add, nI_add]
    have hd : Dv m P T K 3 (F1 T i a) (K i + y + 0 + 0) := (Dv_cl m P T K 3).2 i a 0 0 y 0 0 hi (dvA_y (by omega) hyd) (dvA_n (by omega)) (dvA_n (by omega))
    obtain ⟨u1, u2⟩ := U1_T (t := F1 T i a) (v := K i + y + 0 + 0) (by omega) hh F1_lt hd (by omega) (by omega) (fun h9 => by
      obtain ⟨n1, n2⟩ := hnw h9
      exact ⟨by omega, by omega, a, ha, n1, rfl⟩)
    refine ⟨u1.1, fun c hc1 hc2 => ?_, u1.2.2⟩
    by_cases e : c = a
    · rw [e]; exact u2
    · exact u1.2.1 c (by omega) hc2
  rcases h1 a ha with ⟨k1, y, k2, k3, k4⟩ | ⟨k1, ⟨c, c1, c2, c3⟩, y, k2, k3, k4⟩ | ⟨k1, k2⟩
  · exact step y k2 k3 (by omega) (fun _ => ⟨k1, k4⟩)
  · refine step y k2 k3 k4 (fun h9 => ?_)
    exfalso
    rcases F1_F1 (T := T) (i := i) c1 with e | e
    · rw [← c3] at e
      rw [e, k2] at h9
      exact nI_m9 (by omega) h9
    · rw [← c3] at e
      rw [e] at h9
      rcases h1 c c1 with ⟨_, v, q2, _, q4⟩ | ⟨q1, _⟩ | ⟨q1, _⟩
      · exact nI_m9 (by omega) (q2.symm.trans h9)
      · rw [c2] at q1; cases q1
      · rw [c2] at q1; cases q1
  · rw [if_pos k2]
    refine ⟨h1, fun c hc1 hc2 => ?_, h3⟩
    by_cases e : c = a
    · rw [e] at hc2; rw [k1] at hc2; cases hc2
    · exact h2 c (by omega) hc2
/-- where a sign of one place, or none, leads: the set I is added -/
noncomputable def ck1 (I T5 k : Nat) : Bool := cond (Nat.beq (Nat.lor (gS k) I) (gS (gN k T5))) (cond (Nat.beq (Nat.lor (gS k) I) (gS k)) (Nat.ble (gP k) (gP (gN k T5))) (Nat.ble (Nat.mul 2 (gP k)) (gP (gN k T5)))) false
theorem ck1_ok {I T5 k : Nat} (h : ck1 I T5 k = true) : (∀ t, (gS (gN k T5)).testBit t = ((gS k).testBit t || I.testBit t)) ∧ ((∀ t, I.testBit t = true → (gS k).testBit t = true) ∧ gP k ≤ gP (gN k T5) ∨ 2 * gP k ≤ gP (gN k T5)) := by
  unfold ck1 at h
  cases h1 : Nat.beq (Nat.lor (gS k) I) (gS (gN k T5)) with
  | false => rw [h1] at h; cases h
  | true =>
    rw [h1] at h
    have e1 : Nat.lor (gS k) I = gS (gN k T5) := Nat.eq_of_beq_eq_true h1
    refine ⟨fun t => by rw [← e1]; exact Nat.testBit_or _ _ _, ?_⟩
    dsimp only [cond_true] at h
    cases h2 : Nat.beq (Nat.lor (gS k) I) (gS k) with
    | false => rw [h2] at h; exact Or.inr (Nat.le_of_ble_eq_true h)
    | true =>
      rw [h2] at h
      have e2 : Nat.lor (gS k) I = gS k := Nat.eq_of_beq_eq_true h2
      refine Or.inl ⟨fun t ht => ?_, Nat.le_of_ble_eq_true h⟩
      have e3 : (gS k ||| I).testBit t = (gS k).testBit t := by
        show (Nat.lor (gS k) I).testBit t = _
        rw [e2]
      rw [Nat.testBit_or, ht, Bool.or_true] at e3
      exact e3.symm
theorem sign1 {i k T5 : Nat} {f0 : Nat → Int32} {s : (Nat → Int32) × Bool} (hi : i < m) (hP : P i = 1) (hK : K i ≤ 9) (hB : B + 9 < 2 ^ 30) (hk : 1 ≤ gP k) (hck : ck1 (mg (tB (T i) 0) (tB (T i) 1) (tB (T i) 0) (tB (T i) 1) 0 (gS k)) T5 k = true) (hB2 : 27 * gP k ≤ B + 9) (hF : FS m P T K (gS k) (fun _ => 9 * gP k) s.1) (hI : BI m P T K 3 B f0 s) : FS m P T K (gS (gN k T5)) (fun _ => 9 * gP (gN k T5)) (fsI P T K 3 (z22 3) i s).1 ∧ BI m P T K 3 B f0 (fsI P T K 3 (z22 3) i s) := by
  obtain ⟨e1, e2⟩ := ck1_ok hck
  have h0 : U1 m P T K B i (gS k) (9 * gP k) f0 0 s := ⟨fun t ht => by
    rcases hF t ht with ⟨k1, v, k2, k3, k4⟩ | k1
    · exact Or.inl ⟨k1, v, k2, k3, k4⟩
    · exact Or.inr (Or.inr k1), fun c hc => absurd hc (by omega), hI⟩
  have hall : ∀ j a s, a + j = 256 → U1 m P T K B i (gS k) (9 * gP k) f0 a s → U1 m P T K B i (gS k) (9 * gP k) f0 256 (zfor (fsA 1 (T i) (K i) 3 (z22 3)) j a s) := by
    intro j
    induction j with
    | zero => intro a s ha h; obtain rfl : a = 256 := by omega
              exact h
    | succ j ih => intro a s ha h; exact ih (a + 1) _ (by omega) (U1_s hi hP hK (by omega) (by omega) hB (by omega) h)
  have e4 : fsI P T K 3 (z22 3) i s = zfor (fsA 1 (T i) (K i) 3 (z22 3)) 256 0 s := by
    unfold fsI
    rw [hP]
    rfl
  rw [e4]
  obtain ⟨r1, r2, r3⟩ := hall 256 0 s (by omega) h0
  refine ⟨fun t ht => ?_, r3⟩
  rw [e1 t]
  rcases r1 t ht with ⟨k1, v, k2, k3, k4⟩ | ⟨k1, ⟨c, c1, c2, c3⟩, v, k2, k3, k4⟩ | ⟨k1, k2⟩
  · refine Or.inl ⟨by rw [k1]; rfl, v, k2, k3, ?_⟩
    dsimp only
    rcases e2 with ⟨_, e2⟩ | e2 <;> omega
  · have hm := (mg_F1 (T := T) (i := i) (S := gS k) ht).mpr ⟨c, c1, c2, c3.symm⟩
    refine Or.inl ⟨by rw [hm, Bool.or_true], v, k2, k3, ?_⟩
    dsimp only
    rcases e2 with ⟨e2, _⟩ | e2
    · have := e2 t hm
      rw [k1] at this; cases this
    · omega
  · refine Or.inr ⟨?_, k2⟩
    rw [k1]
    cases hq : (mg (tB (T i) 0) (tB (T i) 1) (tB (T i) 0) (tB (T i) 1) 0 (gS k)).testBit t with
    | false => rfl
    | true =>
      obtain ⟨c, c1, c2, c3⟩ := (mg_F1 ht).mp hq
      exact absurd (by rw [c3]; exact k2) (r2 c c1 c2)
/-- a sign of no places -/
theorem sign0 {i k T5 : Nat} {f0 : Nat → Int32} {s : (Nat → Int32) × Bool} (hi : i < m) (hP : P i = 0) (hK : K i ≤ 9) (hB : B + 9 < 2 ^ 30) (hk : 1 ≤ gP k) (hck : ck1 (Nat.shiftLeft 1 (toN (T i) 8 0 0 0)) T5 k = true) (hB2 : 27 * gP k ≤ B + 9) (hF : FS m P T K (gS k) (fun _ => 9 * gP k) s.1) (hI : BI m P T K 3 B f0 s) : FS m P T K (gS (gN k T5)) (fun _ => 9 * gP (gN k T5)) (fsI P T K 3 (z22 3) i s).1 ∧ BI m P T K 3 B f0 (fsI P T K 3 (z22 3) i s) := by
  obtain ⟨e1, e2⟩ := ck1_ok hck
  have hone : ∀ q, (Nat.shiftLeft 1 (toN (T i) 8 0 0 0)).testBit q = decide (toN (T i) 8 0 0 0 = q) := fun q => by
    show (1 <<< toN (T i) 8 0 0 0).testBit q = _
    rw [Nat.one_shiftLeft, Nat.testBit_two_pow]
  have ht : toN (T i) 8 0 0 0 < 256 := zt_256 (n := 3) (by decide)
  have e4 : fsI P T K 3 (z22 3) i s = fsT (toN (T i) 8 0 0 0) (nI (K i)) s := by
    unfold fsI
    rw [hP]
    show fsA 0 (T i) (K i) 3 (z22 3) 0 s = _
    unfold fsA fsX
    rw [show zx 0 0 s.1 0 = nI 0 from rfl, if_neg (by decide)]
    show fsB 0 (T i) (K i) 3 (z22 3) 0 (nI 0) 0 s = _
    unfold fsB fsY
    rw [show zx 1 0 s.1 0 = nI 0 from rfl, if_neg (by decide)]
    show fsC 0 (T i) (K i) 3 0 0 (nI 0) (nI 0) 0 s = _
    unfold fsC fsZ
    rw [show zx 2 0 s.1 0 = nI 0 from rfl, if_neg (by decide), nI_add, nI_add, nI_add]
    rfl
  have hd : Dv m P T K 3 (toN (T i) 8 0 0 0) (K i) := (Dv_cl m P T K 3).2 i 0 0 0 0 0 0 hi (dvA_n (by omega)) (dvA_n (by omega)) (dvA_n (by omega))
  rw [e4]
  refine ⟨fun q hq => ?_, fsT_BI (by omega) hI (by rw [z22_3]; exact ht) (by omega) hd (fun _ => by omega)⟩
  rw [e1 q, hone]
  unfold fsT
  generalize toN (T i) 8 0 0 0 = t at *
  split
  · rename_i hc
    by_cases eq : q = t
    · subst eq
      refine Or.inl ⟨by rw [decide_eq_true rfl, Bool.or_true], K i, if_pos rfl, hd, ?_⟩
      dsimp only
      rcases e2 with ⟨_, e2⟩ | e2
      · rcases hF q hq with ⟨k1, v, k2, k3, k4⟩ | ⟨k1, k2⟩
        · dsimp only at k4
          rcases hc with hc | hc
          · exact absurd (k2.symm.trans hc) (nI_m9 (by omega))
          · rw [k2, nI_ltI (by omega) (by omega)] at hc; omega
        · rename_i e3
          have := e3 q (by rw [hone]; exact decide_eq_true rfl)
          rw [k1] at this; cases this
      · omega
    · show (_ ∧ ∃ v, fu s.1 t (nI (K i)) q = nI v ∧ _) ∨ (_ ∧ fu s.1 t (nI (K i)) q = -9)
      rw [show fu s.1 t (nI (K i)) q = s.1 q from if_neg eq, decide_eq_false (fun z => eq z.symm), Bool.or_false]
      rcases hF q hq with ⟨k1, v, k2, k3, k4⟩ | k1
      · refine Or.inl ⟨k1, v, k2, k3, ?_⟩
        dsimp only at k4 ⊢
        rcases e2 with ⟨_, e2⟩ | e2 <;> omega
      · exact Or.inr k1
  · rename_i hc
    rcases hF q hq with ⟨k1, v, k2, k3, k4⟩ | ⟨k1, k2⟩
    · refine Or.inl ⟨by rw [k1]; rfl, v, k2, k3, ?_⟩
      dsimp only at k4 ⊢
      rcases e2 with ⟨_, e2⟩ | e2 <;> omega
    · refine Or.inr ⟨?_, k2⟩
      rw [k1, decide_eq_false (fun z => by rw [z] at hc; exact hc (Or.inl k2))]
      rfl
end SGO
