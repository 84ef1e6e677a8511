section SAM
variable {N : Nat} {c : Nat → Nat} {f : Nat → Int32}
/-- both sides' costs are the same -/
def AG (N : Nat) (c : Nat → Nat) (f : Nat → Int32) : Prop := ∀ t, t < N → (c t = 1073741824 ∧ f t = -9) ∨ (c t < 1073741824 ∧ f t = nI (c t))
theorem AG_9 {t : Nat} (h : AG N c f) (ht : t < N) : f t = -9 ↔ c t = 1073741824 := by
  rcases h t ht with ⟨h1, h2⟩ | ⟨h1, h2⟩
  · exact ⟨fun _ => h1, fun _ => h2⟩
  · exact ⟨fun e => absurd (h2.symm.trans e) (nI_m9 (by omega)), fun e => by omega⟩
theorem AG_l {t : Nat} (h : AG N c f) (ht : t < N) : (if c t = 1073741824 then -9 else nI (c t)) = f t := by
  rcases h t ht with ⟨h1, h2⟩ | ⟨h1, h2⟩
  · rw [if_pos h1, h2]
  · rw [if_neg (by omega), h2]
theorem zfor_sm {F : Nat → Nat → Nat} {h : Nat → Nat} : ∀ N, (∀ t v, t < N → F t v = v + h t) → zfor F N 0 0 = sm h N := by
  intro N
  induction N with
  | zero => intro _; rfl
  | succ N ih =>
    intro hF
    rw [zfor_snoc, ih (fun t v ht => hF t v (by omega)), hF _ _ (by omega), Nat.zero_add]
    rfl
theorem sm_cong {h g : Nat → Nat} : ∀ N, (∀ t, t < N → h t = g t) → sm h N = sm g N := by
  intro N
  induction N with
  | zero => intro _; rfl
  | succ N ih => intro hh; show sm h N + h N = sm g N + g N; rw [ih (fun t ht => hh t (by omega)), hh N (by omega)]
theorem same_reached {M Mc : zM} {rc : Nat} (h : AG N c f) (hf : M 37 = f) (hc : ∀ t, t < N → Mc (rc + 1) t = nI (c t) ∧ c t ≤ 1073741824) : sm (fun q => if Mc (rc + 1) q = nI 1073741824 then 0 else 1) N = rdN M N := by
  unfold rdN
  rw [zfor_sm (h := fun q => if Mc (rc + 1) q = nI 1073741824 then 0 else 1) N (fun t v ht => ?_)]
  unfold rdF
  rw [hf, (hc t ht).1]
  have h1 := AG_9 h ht
  have h2 : nI (c t) = nI 1073741824 ↔ c t = 1073741824 := nI_eq (by have := (hc t ht).2; omega) (by decide)
  by_cases e : c t = 1073741824
  · rw [if_pos (h1.mpr e), if_pos (h2.mpr e)]
  · rw [if_neg (fun z => e (h1.mp z)), if_neg (fun z => e (h2.mp z))]
theorem same_costing {M : zM} {x : Int32} (h : AG N c f) (hf : M 37 = f) (hx : 0 ≤ x) : hmN c N x = csN M x N := by
  unfold hmN csN
  refine zfor_cong _ _ _ (fun t v _ ht => ?_)
  unfold hmF csF
  rw [hf]
  have hx9 : ¬ (-9 : Int32) = x := fun e => by rw [← e] at hx; exact absurd hx (by decide)
  rcases h t (by omega) with ⟨h1, h2⟩ | ⟨h1, h2⟩
  · rw [if_neg (fun z => z.1 h1), h2, if_neg hx9]
    rfl
  · rw [h2]
    by_cases e : nI (c t) = x
    · rw [if_pos ⟨by omega, e⟩, if_pos e]
    · rw [if_neg (fun z => e z.2), if_neg e]
      rfl
theorem zfirst_snoc {g : Nat → Bool} : ∀ j i, i + j < 2 ^ 31 → zfirst g (j + 1) i = if zfirst g j i = -9 then (if g (i + j) = true then nI (i + j) else -9) else zfirst g j i := by
  intro j
  induction j with
  | zero =>
    intro i hi
    show zfirst g 1 i = if (-9 : Int32) = -9 then _ else _
    rw [if_pos rfl]
    cases hg : g i with
    | true => rw [zfirst_y hg]; rfl
    | false => rw [zfirst_n hg]; rfl
  | succ j ih =>
    intro i hi
    cases hg : g i with
    | true =>
      rw [zfirst_y hg, zfirst_y hg, if_neg (nI_m9 (by omega))]
    | false =>
      rw [zfirst_n hg, zfirst_n hg, ih (i + 1) (by omega), show i + 1 + j = i + (j + 1) by omega]
theorem zfirst_no {g : Nat → Bool} : ∀ j i, (∀ t, i ≤ t → t < i + j → g t = false) → zfirst g j i = -9 := by
  intro j
  induction j with
  | zero => intro i _; rfl
  | succ j ih =>
    intro i h
    rw [zfirst_n (h i (by omega) (by omega))]
    exact ih (i + 1) (fun t h1 h2 => h t (by omega) (by omega))
theorem zfirst_is {g : Nat → Bool} : ∀ j i, i + j < 2 ^ 31 → zfirst g j i = -9 → ∀ t, i ≤ t → t < i + j → g t = false := by
  intro j
  induction j with
  | zero => intro i _ _ t h1 h2; exact absurd h2 (by omega)
  | succ j ih =>
    intro i hi h t h1 h2
    cases hg : g i with
    | true => rw [zfirst_y hg] at h; exact absurd h (nI_m9 (by omega))
    | false =>
      rw [zfirst_n hg] at h
      by_cases e : t = i
      · rw [e]; exact hg
      · exact ih (i + 1) (by omega) h t (by omega) (by omega)
theorem fcB_n {x : Int32} {t : Nat} (h : c t = 1073741824) : fcB c x t = false := by
  unfold fcB
  rw [decide_eq_false (fun z => z h)]
  rfl
/-- farthest: the loop over the first i tables -/
theorem same_far (h : AG N c f) (hN : N < 2 ^ 30) : ∀ i, i ≤ N → (zfor (gcF c) i 0 0 ≤ 1073741824) ∧ (∀ t, t < i → ¬ c t = 1073741824 → c t ≤ zfor (gcF c) i 0 0) ∧ zfor (faF f) i 0 (nI 0, -9, -9) = (nI (zfor (gcF c) i 0 0), zfirst (fcB c (nI (zfor (gcF c) i 0 0))) i 0, zfirst (fuB c) i 0) ∧ (zfirst (fcB c (nI (zfor (gcF c) i 0 0))) i 0 = -9 → (∀ t, t < i → c t = 1073741824) ∧ zfor (gcF c) i 0 0 = 0) := by
  intro i
  induction i with
  | zero => intro _; exact ⟨Nat.zero_le _, fun t ht => absurd ht (by omega), rfl, fun _ => ⟨fun t ht => absurd ht (by omega), rfl⟩⟩
  | succ i ih =>
    intro hi
    obtain ⟨h1, h2, h3, h4⟩ := ih (by omega)
    rw [zfor_snoc, zfor_snoc, h3, Nat.zero_add]
    generalize hmx : zfor (gcF c) i 0 0 = mx at h1 h2 h4
    have hs1 := zfirst_snoc (g := fuB c) i 0 (by omega)
    rw [Nat.zero_add] at hs1
    rcases h i (by omega) with ⟨c1, f1⟩ | ⟨c1, f1⟩
    · have hg : gcF c i mx = mx := if_pos c1
      rw [hg]
      have hu : fuB c i = true := decide_eq_true c1
      have hs2 := zfirst_snoc (g := fcB c (nI mx)) i 0 (by omega)
      rw [Nat.zero_add, fcB_n c1] at hs2
      have e2 : zfirst (fcB c (nI mx)) (i + 1) 0 = zfirst (fcB c (nI mx)) i 0 := by
        rw [hs2]
        by_cases e : zfirst (fcB c (nI mx)) i 0 = -9
        · rw [if_pos e, if_neg (by decide), e]
        · rw [if_neg e]
      refine ⟨h1, fun t ht hc => ?_, ?_, fun e => ?_⟩
      · by_cases e : t = i
        · rw [e] at hc; exact absurd c1 hc
        · exact h2 t (by omega) hc
      · unfold faF
        rw [if_pos f1, e2, hs1, hu, if_pos (rfl : true = true)]
      · rw [e2] at e
        obtain ⟨a1, a2⟩ := h4 e
        refine ⟨fun t ht => ?_, a2⟩
        by_cases e' : t = i
        · rw [e']; exact c1
        · exact a1 t (by omega)
    · have hu : fuB c i = false := decide_eq_false (by omega)
      rw [hu] at hs1
      have e1 : zfirst (fuB c) (i + 1) 0 = zfirst (fuB c) i 0 := by
        rw [hs1]
        by_cases e : zfirst (fuB c) i 0 = -9
        · rw [if_pos e, if_neg (by decide), e]
        · rw [if_neg e]
      have hg : gcF c i mx = if mx < c i then c i else mx := if_neg (by omega)
      have hf9 : ¬ f i = -9 := by rw [f1]; exact nI_m9 (by omega)
      by_cases hup : zfirst (fcB c (nI mx)) i 0 = -9 ∨ mx < c i
      · have hnone : ∀ t, 0 ≤ t → t < 0 + i → fcB c (nI (c i)) t = false := by
          intro t _ ht
          rcases hup with h5 | h5
          · exact fcB_n ((h4 h5).1 t (by omega))
          · by_cases e : c t = 1073741824
            · exact fcB_n e
            · unfold fcB
              rw [decide_eq_false (p := nI (c t) = nI (c i)) (fun z => by
                have := h2 t (by omega) e
                have := (nI_eq (by omega) (by omega)).mp z
                omega), Bool.and_false]
        have hmx2 : gcF c i mx = c i := by
          rw [hg]
          rcases hup with h5 | h5
          · have := (h4 h5).2
            split <;> omega
          · rw [if_pos h5]
        have hs2 := zfirst_snoc (g := fcB c (nI (c i))) i 0 (by omega)
        rw [Nat.zero_add, zfirst_no _ _ hnone, if_pos rfl, show fcB c (nI (c i)) i = true by unfold fcB; rw [decide_eq_true (show ¬ c i = 1073741824 by omega), decide_eq_true rfl]; rfl, if_pos rfl] at hs2
        rw [hmx2]
        refine ⟨by omega, fun t ht hc => ?_, ?_, fun e => ?_⟩
        · by_cases e : t = i
          · rw [e]; exact Nat.le_refl _
          · rcases hup with h5 | h5
            · exact absurd ((h4 h5).1 t (by omega)) hc
            · have := h2 t (by omega) hc; omega
        · unfold faF
          rw [if_neg hf9, e1, hs2]
          dsimp only
          rw [if_pos (by
            rcases hup with h5 | h5
            · exact Or.inl h5
            · refine Or.inr ?_
              rw [f1, nI_ltI (by omega) (by omega)]
              exact h5), f1]
        · rw [hs2] at e
          exact absurd e (nI_m9 (by omega))
      · have hb : ¬ zfirst (fcB c (nI mx)) i 0 = -9 := fun z => hup (Or.inl z)
        have hlt : ¬ mx < c i := fun z => hup (Or.inr z)
        rw [hg, if_neg hlt]
        have hs2 := zfirst_snoc (g := fcB c (nI mx)) i 0 (by omega)
        rw [if_neg hb] at hs2
        refine ⟨h1, fun t ht hc => ?_, ?_, fun e => ?_⟩
        · by_cases e : t = i
          · rw [e]; omega
          · exact h2 t (by omega) hc
        · unfold faF
          rw [if_neg hf9, e1, hs2]
          dsimp only
          rw [if_neg (fun z => z.elim hb (fun z => by rw [f1, nI_ltI (by omega) (by omega)] at z; exact hlt z))]
        · rw [hs2] at e
          exact absurd e hb
theorem same_farthest {w : Nat} (h : AG N c f) (hN : N < 2 ^ 30) : (if w = 0 then nI (gcN c N) else if w = 1 then zfirst (fcB c (nI (gcN c N))) N 0 else zfirst (fuB c) N 0) = (if w = 0 then (faN f N).1 else if w = 1 then (faN f N).2.1 else (faN f N).2.2) := by
  have h1 := (same_far h hN N (Nat.le_refl _)).2.2.1
  unfold faN
  rw [h1]
  rfl
end SAM
