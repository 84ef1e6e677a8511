section DIJ
variable {m : Nat} {P T K : Nat → Nat} {n B rc N : Nat}
theorem CA_mono {s cb nx i at0 : Nat} {o cs : Nat → Nat} {M M' : zM} (h : Tr rc M M') (hc : CA rc P T K n s o cs cb nx M i at0) : CA rc P T K n s o cs cb nx M' i at0 := fun y z x1 x2 hy hz => h _ _ _ (hc y z x1 x2 hy hz)
theorem jn_ok {s cb D i nx : Nat} {o cs : Nat → Nat} (hL : HL m P T K n B) (hs : ST m P T K n N s o cs cb D) (hi : i < m) (hb : SE s o cs nx cb) : ∀ (j at0 : Nat) (M : zM), at0 + j = P i → PI m P T K n rc N s o cs D M →
    PI m P T K n rc N s o cs D (jnM rc N s o (nI D) (P i) (K i) (T i * zrep (P i)) i nx j at0 M) ∧ Tr rc M (jnM rc N s o (nI D) (P i) (K i) (T i * zrep (P i)) i nx j at0 M) ∧ ∀ a', at0 ≤ a' → a' < P i → CA rc P T K n s o cs cb nx (jnM rc N s o (nI D) (P i) (K i) (T i * zrep (P i)) i nx j at0 M) i a' := by
  intro j
  induction j with
  | zero => intro at0 M hj hI; exact ⟨hI, Tr_rf, fun a' h1 h2 => absurd h2 (by omega)⟩
  | succ j ih =>
    intro at0 M hj hI
    have hc : M (rc + 1) nx = nI cb := by
      obtain ⟨k, hk, rfl, rfl⟩ := hb
      exact hI.2.1 k hk
    obtain ⟨i1, i2, i3⟩ := jA_ok (at0 := at0) hL hs hI hi (by omega) (SE_LE hs hb) hc
    obtain ⟨j1, j2, j3⟩ := ih (at0 + 1) _ (by omega) i1
    refine ⟨j1, Tr_tr i2 j2, fun a' h1 h2 => ?_⟩
    by_cases e : a' = at0
    · rw [e]; exact CA_mono j2 i3
    · exact j3 a' (by omega) h2
theorem js_ok {s cb D nx : Nat} {o cs : Nat → Nat} (hL : HL m P T K n B) (hs : ST m P T K n N s o cs cb D) (hb : SE s o cs nx cb) : ∀ (j i : Nat) (M : zM), i + j = m → PI m P T K n rc N s o cs D M →
    PI m P T K n rc N s o cs D (jsM rc N s o (nI D) P T K nx j i M) ∧ Tr rc M (jsM rc N s o (nI D) P T K nx j i M) ∧ ∀ i' a', i ≤ i' → i' < m → a' < P i' → CA rc P T K n s o cs cb nx (jsM rc N s o (nI D) P T K nx j i M) i' a' := by
  intro j
  induction j with
  | zero => intro i M hj hI; exact ⟨hI, Tr_rf, fun i' a' h1 h2 => absurd h2 (by omega)⟩
  | succ j ih =>
    intro i M hj hI
    obtain ⟨i1, i2, i3⟩ := jn_ok hL hs (show i < m by omega) hb (P i) 0 M (by omega) hI
    obtain ⟨j1, j2, j3⟩ := ih (i + 1) _ (by omega) i1
    refine ⟨j1, Tr_tr i2 j2, fun i' a' h1 h2 h3 => ?_⟩
    by_cases e : i' = i
    · subst e; exact CA_mono j2 (i3 a' (Nat.zero_le _) h3)
    · exact j3 i' a' (by omega) h2 h3
/-- what holds at the head of the exploring loop -/
def EX (m : Nat) (P T K : Nat → Nat) (n rc N s : Nat) (o cs : Nat → Nat) (M : zM) : Prop :=
  (∀ q, q < N → SO m P T K n rc M q) ∧ (∀ k, k < s → o k < N ∧ LE m P T K n (o k) (cs k) ∧ M (rc + 1) (o k) = nI (cs k)) ∧ (∀ k k', k ≤ k' → k' < s → cs k ≤ cs k') ∧
  (∀ k q x, k < s → q < N → (∀ k', k' < s → ¬ o k' = q) → M (rc + 1) q = nI x → x ≤ 1073741824 → cs k ≤ x) ∧
  (∀ q, q < N → (M (rc + 3) q = nI 1 ∧ ∃ k, k < s ∧ o k = q) ∨ (M (rc + 3) q = nI 0 ∧ ∀ k, k < s → ¬ o k = q)) ∧
  (∀ i a b c x y z, i < m → dvA 0 (P i) (SE s o cs) a x → dvA 1 (P i) (SE s o cs) b y → dvA 2 (P i) (SE s o cs) c z → CV rc M (toN (T i) (1 <<< n) a b c) (K i + x + y + z) (cd i a b c)) ∧
  (∀ i, i < n → M (rc + 1) (plN n i) = nI 0 ∧ M (rc + 2) (plN n i) = -1) ∧ M rc 1 = nI (N - 1) ∧ sm (sM rc M) N = s ∧ M rc 7 = nI s
theorem dj_part {s X k p a x : Nat} {o cs : Nat → Nat} (h : dvA k p (fun t v => (∃ k, k < s ∧ o k = t ∧ cs k ≤ v) ∨ X ≤ v) a x) : (∃ x', x' ≤ x ∧ dvA k p (SE s o cs) a x') ∨ X ≤ x := by
  by_cases hk : k < p
  · rcases dvA_y' hk h with ⟨q, h1, h2, h3⟩ | h1
    · exact Or.inl ⟨cs q, h3, dvA_y hk ⟨q, h1, h2, rfl⟩⟩
    · exact Or.inr h1
  · obtain ⟨rfl, rfl⟩ := dvA_n' (by omega) h
    exact Or.inl ⟨0, Nat.le_refl _, dvA_n (by omega)⟩
/-- what costs less than every table that isn't settled is settled -/
theorem dj {s X : Nat} {o cs : Nat → Nat} {M : zM} (hL : HL m P T K n B) (hN : N = z22 n) (hE : EX m P T K n rc N s o cs M) (hX : ∀ q x, q < N → (∀ k', k' < s → ¬ o k' = q) → M (rc + 1) q = nI x → x ≤ 1073741824 → X ≤ x) : ∀ t v, Dv m P T K n t v → (∃ k, k < s ∧ o k = t ∧ cs k ≤ v) ∨ X ≤ v := by
  obtain ⟨e1, e2, e3, e4, e5, e6, e7, e8, e9, e10⟩ := hE
  have hn := hL.2.2.1
  have h5 := hL.1
  intro t v hd
  refine hd (fun t v => (∃ k, k < s ∧ o k = t ∧ cs k ≤ v) ∨ X ≤ v) ⟨fun i hi => ?_, fun i a b c x y z hi ha hb hc => ?_⟩
  · have hp := (e7 i hi).1
    by_cases hset : ∃ k, k < s ∧ o k = plN n i
    · obtain ⟨k, hk, hk2⟩ := hset
      have h1 := e2 k hk
      rw [hk2, hp] at h1
      have h2 := LE_B hL h1.2.1
      have := (nI_eq (by decide) (by omega)).mp h1.2.2
      exact Or.inl ⟨k, hk, hk2, by omega⟩
    · exact Or.inr (hX _ 0 (by rw [hN]; exact plN_z22 n hn i hi) (fun k hk hk2 => hset ⟨k, hk, hk2⟩) hp (by decide))
  · rcases dj_part ha with ⟨x', hx1, hx2⟩ | h
    · rcases dj_part hb with ⟨y', hy1, hy2⟩ | h
      · rcases dj_part hc with ⟨z', hz1, hz2⟩ | h
        · obtain ⟨v', c1, c2, c3⟩ := e6 i a b c x' y' z' hi hx2 hy2 hz2
          have hle : v' ≤ K i + x + y + z := by rcases c3 with c3 | c3 <;> omega
          by_cases hset : ∃ k, k < s ∧ o k = toN (T i) (1 <<< n) a b c
          · obtain ⟨k, hk, hk2⟩ := hset
            have h1 := e2 k hk
            rw [hk2, c1] at h1
            have h2 := LE_B hL h1.2.1
            have := (nI_eq (by omega) (by omega)).mp h1.2.2
            exact Or.inl ⟨k, hk, hk2, by omega⟩
          · exact Or.inr (Nat.le_trans (hX _ v' (by rw [hN]; exact toN_z22) (fun k hk hk2 => hset ⟨k, hk, hk2⟩) c1 c2) hle)
        · exact Or.inr (by omega)
      · exact Or.inr (by omega)
    · exact Or.inr (by omega)
/-- the search for the cheapest -/
theorem coN_ok {c st : Nat → Nat} {N : Nat} (hc : ∀ q, q < N → c q ≤ 1073741824) : ∀ j i ob dr, i + j = N → dr ≤ 1073741824 → (∀ q, q < i → c q ≤ dr) → (ob = none → ∀ q, q < i → c q = 1073741824 ∨ ¬ st q = 0) → (∀ b, ob = some b → b < N ∧ ¬ c b = 1073741824 ∧ st b = 0 ∧ ∀ q, q < i → ¬ c q = 1073741824 → st q = 0 → c b ≤ c q) →
    (coN c st j i ob dr).2 ≤ 1073741824 ∧ (∀ q, q < N → c q ≤ (coN c st j i ob dr).2) ∧ ((coN c st j i ob dr).1 = none → ∀ q, q < N → c q = 1073741824 ∨ ¬ st q = 0) ∧ (∀ b, (coN c st j i ob dr).1 = some b → b < N ∧ ¬ c b = 1073741824 ∧ st b = 0 ∧ ∀ q, q < N → ¬ c q = 1073741824 → st q = 0 → c b ≤ c q) := by
  intro j
  induction j with
  | zero =>
    intro i ob dr hi h0 h1 h2 h3
    obtain rfl : i = N := by omega
    exact ⟨h0, h1, h2, h3⟩
  | succ j ih =>
    intro i ob dr hi h0 h1 h2 h3
    have hci := hc i (by omega)
    refine ih (i + 1) (coB c st i ob) (coD c i dr) (by omega) (by unfold coD; split <;> omega) (fun q hq => ?_) (fun h q hq => ?_) (fun b h => ?_)
    · unfold coD
      by_cases e : q = i
      · rw [e]; split <;> omega
      · have := h1 q (by omega); split <;> omega
    · unfold coB at h
      by_cases hi1 : c i = 1073741824
      · rw [if_pos hi1] at h
        by_cases e : q = i
        · rw [e]; exact Or.inl hi1
        · exact h2 h q (by omega)
      · rw [if_neg hi1] at h
        by_cases hi2 : ¬ st i = 0
        · rw [if_pos hi2] at h
          by_cases e : q = i
          · rw [e]; exact Or.inr hi2
          · exact h2 h q (by omega)
        · rw [if_neg hi2] at h
          cases ob with
          | none => cases h
          | some b0 => dsimp only at h; split at h <;> cases h
    · unfold coB at h
      by_cases hi1 : c i = 1073741824
      · rw [if_pos hi1] at h
        obtain ⟨a1, a2, a3, a4⟩ := h3 b h
        refine ⟨a1, a2, a3, fun q hq h5 h6 => ?_⟩
        by_cases e : q = i
        · rw [e] at h5; exact absurd hi1 h5
        · exact a4 q (by omega) h5 h6
      · rw [if_neg hi1] at h
        by_cases hi2 : ¬ st i = 0
        · rw [if_pos hi2] at h
          obtain ⟨a1, a2, a3, a4⟩ := h3 b h
          refine ⟨a1, a2, a3, fun q hq h5 h6 => ?_⟩
          by_cases e : q = i
          · rw [e] at h6; exact absurd h6 hi2
          · exact a4 q (by omega) h5 h6
        · rw [if_neg hi2] at h
          have hi3 : st i = 0 := Classical.not_not.mp hi2
          cases ob with
          | none =>
            cases h
            refine ⟨by omega, hi1, hi3, fun q hq h5 h6 => ?_⟩
            by_cases e : q = i
            · rw [e]; exact Nat.le_refl _
            · rcases h2 rfl q (by omega) with h7 | h7
              · exact absurd h7 h5
              · exact absurd h6 h7
          | some b0 =>
            dsimp only at h
            obtain ⟨a1, a2, a3, a4⟩ := h3 b0 rfl
            by_cases hle : c b0 ≤ c i
            · rw [if_pos hle] at h
              cases h
              refine ⟨a1, a2, a3, fun q hq h5 h6 => ?_⟩
              by_cases e : q = i
              · rw [e]; exact hle
              · exact a4 q (by omega) h5 h6
            · rw [if_neg hle] at h
              cases h
              refine ⟨by omega, hi1, hi3, fun q hq h5 h6 => ?_⟩
              by_cases e : q = i
              · rw [e]; exact Nat.le_refl _
              · have := a4 q (by omega) h5 h6; omega
theorem EX_rcS {s : Nat} {o cs : Nat → Nat} {M : zM} (hL : HL m P T K n B) (hE : EX m P T K n rc N s o cs M) : rcS M rc N (cM rc M) (sM rc M) := by
  obtain ⟨e1, e2, e3, e4, e5, e6, e7, e8, e9, e10⟩ := hE
  refine ⟨e8, fun t ht => ?_⟩
  obtain ⟨v, h1, h2⟩ := SO_B hL (e1 t ht)
  have hc : cM rc M t = v := by unfold cM; rw [h1, nI_clamp (by omega)]
  rw [hc]
  rcases e5 t ht with ⟨h3, _⟩ | ⟨h3, _⟩
  · have hs : sM rc M t = 1 := by unfold sM; rw [h3, nI_clamp (by decide)]
    rw [hs]
    exact ⟨h1, h2, h3, by decide⟩
  · have hs : sM rc M t = 0 := by unfold sM; rw [h3, nI_clamp (by decide)]
    rw [hs]
    exact ⟨h1, h2, h3, by decide⟩
theorem sm_up {h g : Nat → Nat} {b : Nat} : ∀ N, (∀ q, ¬ q = b → h q = g q) → b < N → h b = g b + 1 → sm h N = sm g N + 1 := by
  intro N
  induction N with
  | zero => intro _ hb; exact absurd hb (by omega)
  | succ N ih =>
    intro h1 h2 h3
    show sm h N + h N = sm g N + g N + 1
    by_cases e : b = N
    · subst e
      have : ∀ N, N ≤ b → sm h N = sm g N := by
        intro N
        induction N with
        | zero => intro _; rfl
        | succ N ih2 => intro hN; show sm h N + h N = sm g N + g N; rw [ih2 (by omega), h1 N (by omega)]
      rw [this b (Nat.le_refl _), h3]
      omega
    · rw [ih h1 (by omega) h3, h1 N (fun z => e z.symm)]
      omega
theorem sm_all {h : Nat → Nat} : ∀ N, (∀ q, q < N → h q ≤ 1) → sm h N = N → ∀ q, q < N → h q = 1 := by
  intro N
  induction N with
  | zero => intro _ _ q hq; exact absurd hq (by omega)
  | succ N ih =>
    intro h1 h2 q hq
    have h3 : sm h N + h N = N + 1 := h2
    have h4 := sm_le (h := h) (g := fun _ => 1) N (fun t ht => h1 t (by omega))
    rw [sm_one] at h4
    have h5 := h1 N (by omega)
    by_cases e : q = N
    · rw [e]; omega
    · exact ih (fun t ht => h1 t (by omega)) (by omega) q (by omega)
end DIJ
