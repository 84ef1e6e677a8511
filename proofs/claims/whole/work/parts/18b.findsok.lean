theorem nI_m9 {x : Nat} (h : x < 2 ^ 31) : ¬ nI x = -9 := by
  intro e
  have h1 := congrArg Int32.toInt e
  rw [nI_toInt h] at h1
  have h2 : (-9 : Int32).toInt = -9 := by decide
  omega
def sm (h : Nat → Nat) : Nat → Nat
  | 0 => 0
  | N + 1 => sm h N + h N
theorem sm_le {h g : Nat → Nat} : ∀ N, (∀ t, t < N → h t ≤ g t) → sm h N ≤ sm g N := by
  intro N
  induction N with
  | zero => intro _; exact Nat.le_refl _
  | succ N ih =>
    intro hh
    have h1 := ih (fun t ht => hh t (by omega))
    have h2 := hh N (by omega)
    show sm h N + h N ≤ sm g N + g N
    omega
theorem sm_lt {h g : Nat → Nat} {t0 : Nat} : ∀ N, (∀ t, t < N → h t ≤ g t) → t0 < N → h t0 < g t0 → sm h N < sm g N := by
  intro N
  induction N with
  | zero => intro _ h0; exact absurd h0 (by omega)
  | succ N ih =>
    intro hh h0 h1
    have h2 := hh N (by omega)
    show sm h N + h N < sm g N + g N
    by_cases e : t0 = N
    · subst e
      have h3 := sm_le t0 (fun t ht => hh t (by omega))
      omega
    · have h3 := ih (fun t ht => hh t (by omega)) (by omega) h1
      omega
section FOK
variable {m : Nat} {P T K : Nat → Nat} {n B : Nat}
def Wb (m : Nat) (P T K : Nat → Nat) (n B : Nat) (f : Nat → Int32) : Prop := ∀ t, t < z22 n → f t = -9 ∨ ∃ v, f t = nI v ∧ v ≤ B ∧ Dv m P T K n t v
def PLf (n : Nat) (f : Nat → Int32) : Prop := ∀ i, i < n → f (plN n i) = nI 0
def mh (B : Nat) (f : Nat → Int32) (t : Nat) : Nat := if f t = -9 then B + 1 else (f t).toNatClampNeg
/-- what a sweep from f0 keeps -/
def BI (m : Nat) (P T K : Nat → Nat) (n B : Nat) (f0 : Nat → Int32) (s : (Nat → Int32) × Bool) : Prop := Wb m P T K n B s.1 ∧ PLf n s.1 ∧ sm (mh B s.1) (z22 n) ≤ sm (mh B f0) (z22 n) ∧ (s.2 = true → sm (mh B s.1) (z22 n) < sm (mh B f0) (z22 n))
theorem fsT_BI {f0 : Nat → Int32} {s : (Nat → Int32) × Bool} {t v : Nat} (hB : B < 2 ^ 31) (hI : BI m P T K n B f0 s) (ht : t < z22 n) (hv : v < 2 ^ 31) (hd : Dv m P T K n t v) (hn : s.1 t = -9 → v ≤ B) : BI m P T K n B f0 (fsT t (nI v) s) := by
  obtain ⟨h1, h2, h3, h4⟩ := hI
  unfold fsT
  split
  · rename_i hc
    have hvB : v ≤ B ∧ v < mh B s.1 t := by
      unfold mh
      rcases h1 t ht with h | ⟨w, hw, hwB, _⟩
      · rw [if_pos h]; have := hn h; omega
      · rw [hw, if_neg (nI_m9 (by omega)), nI_clamp (by omega)]
        rcases hc with h | h
        · exact absurd (hw.symm.trans h) (nI_m9 (by omega))
        · rw [hw, nI_ltI hv (by omega)] at h; omega
    have hm : mh B (fu s.1 t (nI v)) t = v := by
      unfold mh fu
      rw [if_pos rfl, if_neg (nI_m9 hv), nI_clamp hv]
    have hne : ∀ q, ¬ q = t → mh B (fu s.1 t (nI v)) q = mh B s.1 q := fun q hq => by unfold mh fu; rw [if_neg hq]
    have hlt : sm (mh B (fu s.1 t (nI v))) (z22 n) < sm (mh B s.1) (z22 n) := by
      refine sm_lt (t0 := t) _ (fun q hq => ?_) ht (by rw [hm]; exact hvB.2)
      by_cases e : q = t
      · rw [e, hm]; omega
      · rw [hne q e]; exact Nat.le_refl _
    refine ⟨fun q hq => ?_, fun i hi => ?_, by show sm (mh B (fu s.1 t (nI v))) (z22 n) ≤ _; omega, fun _ => by show sm (mh B (fu s.1 t (nI v))) (z22 n) < _; omega⟩
    · show fu s.1 t (nI v) q = -9 ∨ ∃ v', fu s.1 t (nI v) q = nI v' ∧ v' ≤ B ∧ Dv m P T K n q v'
      by_cases e : q = t
      · subst e
        exact Or.inr ⟨v, if_pos rfl, hvB.1, hd⟩
      · unfold fu
        rw [if_neg e]
        exact h1 q hq
    · show fu s.1 t (nI v) (plN n i) = nI 0
      unfold fu
      by_cases e : plN n i = t
      · have h5 := h2 i hi
        rw [e] at h5
        rw [h5] at hc
        rcases hc with h | h
        · exact absurd h (nI_m9 (by decide))
        · rw [nI_ltI hv (by decide)] at h; omega
      · rw [if_neg e]; exact h2 i hi
  · exact ⟨h1, h2, h3, h4⟩
/-- the least costs -/
def FX (m : Nat) (P T K : Nat → Nat) (n B : Nat) (f : Nat → Int32) : Prop := ∀ t, t < z22 n → (f t = -9 ∧ ∀ v, ¬ Dv m P T K n t v) ∨ ∃ v, f t = nI v ∧ v ≤ B ∧ LE m P T K n t v
theorem fx_part {f : Nat → Int32} {k p a x : Nat} (h : dvA k p (fun t v => t < z22 n ∧ ∃ w, w ≤ v ∧ f t = nI w ∧ w ≤ B) a x) : a < zfs k p (z22 n) ∧ ∃ w, w ≤ x ∧ zx k p f a = nI w ∧ w ≤ B := by
  by_cases hk : k < p
  · have h1 := dvA_y' hk h
    unfold zfs zx
    rw [if_pos hk, if_pos hk]
    exact h1
  · have h1 := dvA_n' (by omega) h
    unfold zfs zx
    rw [if_neg hk, if_neg hk]
    exact ⟨by omega, 0, by omega, rfl, Nat.zero_le _⟩
theorem fx_of_nc {f : Nat → Int32} (hn : n < 4) (hB : 3 * B + 9 < 2 ^ 31) (hK : ∀ i, i < m → K i ≤ 9) (hW : Wb m P T K n B f) (hP : PLf n f) (h : (fsW m P T K n (z22 n) f).2 = false) : FX m P T K n B f := by
  have hcl := (fsW_nc h).2
  have key : ∀ t v, Dv m P T K n t v → t < z22 n ∧ ∃ w, w ≤ v ∧ f t = nI w ∧ w ≤ B := by
    intro t v hd
    refine hd (fun t v => t < z22 n ∧ ∃ w, w ≤ v ∧ f t = nI w ∧ w ≤ B) ⟨fun i hi => ⟨plN_z22 n hn i hi, 0, Nat.le_refl _, hP i hi, Nat.zero_le _⟩, fun i a b c x y z hi ha hb hc => ?_⟩
    obtain ⟨ha1, w1, ha2, ha3, ha4⟩ := fx_part ha
    obtain ⟨hb1, w2, hb2, hb3, hb4⟩ := fx_part hb
    obtain ⟨hc1, w3, hc2, hc3, hc4⟩ := fx_part hc
    have h9 := hcl i a b c hi ha1 hb1 hc1 (by rw [ha3]; exact nI_m9 (by omega)) (by rw [hb3]; exact nI_m9 (by omega)) (by rw [hc3]; exact nI_m9 (by omega))
    have hKi := hK i hi
    refine ⟨toN_z22, ?_⟩
    rw [ha3, hb3, hc3, nI_add, nI_add, nI_add] at h9
    rcases hW (toN (T i) (1 <<< n) a b c) toN_z22 with h | ⟨w, hw, hwB, _⟩
    · exact absurd (Or.inl h) h9
    · refine ⟨w, ?_, hw, hwB⟩
      have h10 : ¬ nI (K i + w1 + w2 + w3) < f (toN (T i) (1 <<< n) a b c) := fun z => h9 (Or.inr z)
      rw [hw, nI_ltI (by omega) (by omega)] at h10
      omega
  intro t ht
  rcases hW t ht with h | ⟨v, hv, hvB, hd⟩
  · refine Or.inl ⟨h, fun v hd => ?_⟩
    obtain ⟨_, w, _, hw, hwB⟩ := key t v hd
    exact nI_m9 (by omega) (hw.symm.trans h)
  · refine Or.inr ⟨v, hv, hvB, hd, fun v' hd' => ?_⟩
    obtain ⟨_, w, hwv, hw, hwB⟩ := key t v' hd'
    have : v = w := (nI_eq (by omega) (by omega)).mp (hv.symm.trans hw)
    omega
theorem finds_ok {IV : (Nat → Int32) → Prop} (hn : n < 4) (hB : 3 * B + 9 < 2 ^ 31) (hK : ∀ i, i < m → K i ≤ 9) (hsw : ∀ f, IV f → Wb m P T K n B f → PLf n f → IV (fsW m P T K n (z22 n) f).1 ∧ BI m P T K n B f (fsW m P T K n (z22 n) f)) : ∀ k f, IV f → Wb m P T K n B f → PLf n f → sm (mh B f) (z22 n) < k → fsOK m P T K n (z22 n) k f ∧ FX m P T K n B (fsR m P T K n (z22 n) k f) := by
  intro k
  induction k with
  | zero => intro f _ _ _ h; exact absurd h (by omega)
  | succ k ih =>
    intro f h1 h2 h3 hk
    obtain ⟨i1, i2, i3, i4, i5⟩ := hsw f h1 h2 h3
    have hR : fsR m P T K n (z22 n) (k + 1) f = if (fsW m P T K n (z22 n) f).2 = true then fsR m P T K n (z22 n) k (fsW m P T K n (z22 n) f).1 else (fsW m P T K n (z22 n) f).1 := rfl
    rw [hR]
    cases hb : (fsW m P T K n (z22 n) f).2 with
    | true =>
      have h5 := ih _ i1 i2 i3 (by have := i5 hb; omega)
      rw [if_pos rfl]
      exact ⟨fun _ => h5.1, h5.2⟩
    | false =>
      rw [if_neg (by decide), (fsW_nc hb).1]
      exact ⟨fun z => absurd (hb.symm.trans z) (by decide), fx_of_nc hn hB hK h2 h3 hb⟩
end FOK
