/-- the judge's run, with the height -/
def jdT (P T K X : Nat → Nat) : Nat → Nat → Nat → (Nat → Nat) → (Nat → Nat) → (Nat → Nat) → Nat × (Nat → Nat) × (Nat → Nat) × (Nat → Nat)
  | 0, _, h, V, C, E => (h, V, C, E)
  | j + 1, t, h, V, C, E =>
    if 120 ≤ X t then jdT P T K X j (t + 1) (h + 1) (fn V h (plN 3 (X t - 120))) (fn C h 0) (fn E h 0)
    else jdT P T K X j (t + 1) (h - P (X t - 112) + 1) (fn V (h - P (X t - 112)) (jdV (T (X t - 112)) V (P (X t - 112)) (h - P (X t - 112)))) (fn C (h - P (X t - 112)) (jdC (K (X t - 112)) C (P (X t - 112)) (h - P (X t - 112)))) (fn E (h - P (X t - 112)) (jdE E (P (X t - 112)) (h - P (X t - 112)) + 1))
theorem jdR_T {P T K X : Nat → Nat} : ∀ j t h V C E, jdR P T K X j t h V C E = (jdT P T K X j t h V C E).2 := by
  intro j
  induction j with
  | zero => intro t h V C E; rfl
  | succ j ih =>
    intro t h V C E
    unfold jdR jdT
    split
    · exact ih _ _ _ _ _
    · exact ih _ _ _ _ _
/-- the letters t .. t + j - 1 can be judged from a stack of h, and what it is then -/
theorem jdT_add {P T K X : Nat → Nat} : ∀ j i t h V C E, jdT P T K X (j + i) t h V C E = jdT P T K X i (t + j) (jdT P T K X j t h V C E).1 (jdT P T K X j t h V C E).2.1 (jdT P T K X j t h V C E).2.2.1 (jdT P T K X j t h V C E).2.2.2 := by
  intro j
  induction j with
  | zero => intro i t h V C E; rw [Nat.zero_add]; rfl
  | succ j ih =>
    intro i t h V C E
    rw [show j + 1 + i = (j + i) + 1 by omega, show t + (j + 1) = (t + 1) + j by omega]
    by_cases hx : 120 ≤ X t
    · have e1 : ∀ q, jdT P T K X (q + 1) t h V C E = jdT P T K X q (t + 1) (h + 1) (fn V h (plN 3 (X t - 120))) (fn C h 0) (fn E h 0) := fun q => if_pos hx
      rw [e1, e1, ih]
    · have e1 : ∀ q, jdT P T K X (q + 1) t h V C E = jdT P T K X q (t + 1) (h - P (X t - 112) + 1) (fn V (h - P (X t - 112)) (jdV (T (X t - 112)) V (P (X t - 112)) (h - P (X t - 112)))) (fn C (h - P (X t - 112)) (jdC (K (X t - 112)) C (P (X t - 112)) (h - P (X t - 112)))) (fn E (h - P (X t - 112)) (jdE E (P (X t - 112)) (h - P (X t - 112)) + 1)) := fun q => if_neg hx
      rw [e1, e1, ih]
theorem jdT_cong {P T K X X2 : Nat → Nat} : ∀ j t h V C E, (∀ k, t ≤ k → k < t + j → X k = X2 k) → jdT P T K X j t h V C E = jdT P T K X2 j t h V C E := by
  intro j
  induction j with
  | zero => intro t h V C E _; rfl
  | succ j ih =>
    intro t h V C E hX
    have h0 := hX t (by omega) (by omega)
    unfold jdT
    rw [h0]
    split
    · exact ih _ _ _ _ _ (fun k h1 h2 => hX k (by omega) (by omega))
    · exact ih _ _ _ _ _ (fun k h1 h2 => hX k (by omega) (by omega))
theorem jdO_cong {m : Nat} {P X X2 : Nat → Nat} : ∀ j t h, (∀ k, t ≤ k → k < t + j → X k = X2 k) → jdO m P X j t h → jdO m P X2 j t h := by
  intro j
  induction j with
  | zero => intro t h _ _; exact trivial
  | succ j ih =>
    intro t h hX hO
    have h0 := hX t (by omega) (by omega)
    unfold jdO at hO ⊢
    rw [← h0]
    split at hO
    · rename_i hx
      rw [if_pos hx]
      exact ⟨hO.1, ih _ _ (fun k h1 h2 => hX k (by omega) (by omega)) hO.2⟩
    · rename_i hx
      rw [if_neg hx]
      exact ⟨hO.1, hO.2.1, hO.2.2.1, ih _ _ (fun k h1 h2 => hX k (by omega) (by omega)) hO.2.2.2⟩
theorem jdO_add {m : Nat} {P T K X : Nat → Nat} : ∀ j i t h V C E, jdO m P X j t h → jdO m P X i (t + j) (jdT P T K X j t h V C E).1 → jdO m P X (j + i) t h := by
  intro j
  induction j with
  | zero => intro i t h V C E _ h2; rw [Nat.zero_add]; exact h2
  | succ j ih =>
    intro i t h V C E hO h2
    rw [show j + 1 + i = (j + i) + 1 by omega]
    rw [show t + (j + 1) = (t + 1) + j by omega] at h2
    unfold jdO at hO ⊢
    by_cases hx : 120 ≤ X t
    · rw [if_pos hx] at hO ⊢
      have e1 : jdT P T K X (j + 1) t h V C E = jdT P T K X j (t + 1) (h + 1) (fn V h (plN 3 (X t - 120))) (fn C h 0) (fn E h 0) := if_pos hx
      rw [e1] at h2
      exact ⟨hO.1, ih _ _ _ _ _ _ hO.2 h2⟩
    · rw [if_neg hx] at hO ⊢
      have e1 : jdT P T K X (j + 1) t h V C E = jdT P T K X j (t + 1) (h - P (X t - 112) + 1) (fn V (h - P (X t - 112)) (jdV (T (X t - 112)) V (P (X t - 112)) (h - P (X t - 112)))) (fn C (h - P (X t - 112)) (jdC (K (X t - 112)) C (P (X t - 112)) (h - P (X t - 112)))) (fn E (h - P (X t - 112)) (jdE E (P (X t - 112)) (h - P (X t - 112)) + 1)) := if_neg hx
      rw [e1] at h2
      exact ⟨hO.1, hO.2.1, hO.2.2.1, ih _ _ _ _ _ _ hO.2.2.2 h2⟩
/-- the word X[k .. k') pushes n values W with costs Cc and depths Ee -/
def EvQ (m : Nat) (P T K X : Nat → Nat) (k k' n : Nat) (W Cc Ee : Nat → Nat) : Prop :=
  k ≤ k' ∧ ∀ (h : Nat) (V C E : Nat → Nat), jdO m P X (k' - k) k h ∧ ∃ V' C' E', jdT P T K X (k' - k) k h V C E = (h + n, V', C', E') ∧ (∀ q, q < h → V' q = V q ∧ C' q = C q ∧ E' q = E q) ∧ ∀ q, q < n → V' (h + q) = W q ∧ C' (h + q) = Cc q ∧ E' (h + q) = Ee q
def Ev (m : Nat) (P T K X : Nat → Nat) (k k' t c e : Nat) : Prop := EvQ m P T K X k k' 1 (fun _ => t) (fun _ => c) (fun _ => e)
theorem EvQ_cong {m : Nat} {P T K X X2 : Nat → Nat} {k k' n : Nat} {W Cc Ee : Nat → Nat} (hX : ∀ q, k ≤ q → q < k' → X q = X2 q) (h : EvQ m P T K X k k' n W Cc Ee) : EvQ m P T K X2 k k' n W Cc Ee := by
  refine ⟨h.1, fun h0 V C E => ?_⟩
  have hX' : ∀ q, k ≤ q → q < k + (k' - k) → X q = X2 q := fun q h1 h2 => hX q h1 (by have := h.1; omega)
  obtain ⟨h1, V', C', E', h2, h3, h4⟩ := h.2 h0 V C E
  exact ⟨jdO_cong _ _ _ hX' h1, V', C', E', by rw [← jdT_cong _ _ _ _ _ _ hX']; exact h2, h3, h4⟩
theorem EvQ_0 {m : Nat} {P T K X : Nat → Nat} {k : Nat} {W Cc Ee : Nat → Nat} : EvQ m P T K X k k 0 W Cc Ee := by
  refine ⟨Nat.le_refl _, fun h V C E => ?_⟩
  rw [Nat.sub_self]
  exact ⟨trivial, V, C, E, rfl, fun q _ => ⟨rfl, rfl, rfl⟩, fun q hq => absurd hq (by omega)⟩
theorem EvQ_s {m : Nat} {P T K X : Nat → Nat} {k k1 k2 n t c e : Nat} {W Cc Ee : Nat → Nat} (h1 : EvQ m P T K X k k1 n W Cc Ee) (h2 : Ev m P T K X k1 k2 t c e) : EvQ m P T K X k k2 (n + 1) (fn W n t) (fn Cc n c) (fn Ee n e) := by
  have hk1 := h1.1
  have hk2 := h2.1
  refine ⟨by omega, fun h V C E => ?_⟩
  obtain ⟨o1, V1, C1, E1, t1, a1, v1⟩ := h1.2 h V C E
  obtain ⟨o2, V2, C2, E2, t2, a2, v2⟩ := h2.2 (h + n) V1 C1 E1
  have ek : k2 - k = (k1 - k) + (k2 - k1) := by omega
  have ek2 : k + (k1 - k) = k1 := by omega
  refine ⟨?_, V2, C2, E2, ?_, fun q hq => ?_, fun q hq => ?_⟩
  · rw [ek]
    refine jdO_add (T := T) (K := K) _ _ _ _ V C E o1 ?_
    rw [t1, ek2]
    exact o2
  · rw [ek, jdT_add, t1, ek2]
    exact t2
  · have b1 := a1 q hq
    have b2 := a2 q (by omega)
    exact ⟨b2.1.trans b1.1, b2.2.1.trans b1.2.1, b2.2.2.trans b1.2.2⟩
  · unfold fn
    by_cases e : q = n
    · subst e
      have b2 := v2 0 (by decide)
      rw [if_pos rfl, if_pos rfl, if_pos rfl]
      exact b2
    · rw [if_neg e, if_neg e, if_neg e]
      have b1 := v1 q (by omega)
      have b2 := a2 (h + q) (by omega)
      exact ⟨b2.1.trans b1.1, b2.2.1.trans b1.2.1, b2.2.2.trans b1.2.2⟩
/-- a letter x, y, z -/
theorem Ev_pl {m : Nat} {P T K X : Nat → Nat} {k : Nat} (h1 : 120 ≤ X k) (h2 : X k ≤ 122) : Ev m P T K X k (k + 1) (plN 3 (X k - 120)) 0 0 := by
  refine ⟨by omega, fun h V C E => ?_⟩
  rw [show k + 1 - k = 1 by omega]
  refine ⟨?_, fn V h (plN 3 (X k - 120)), fn C h 0, fn E h 0, ?_, fun q hq => ?_, fun q hq => ?_⟩
  · unfold jdO
    rw [if_pos h1]
    exact ⟨h2, trivial⟩
  · unfold jdT
    rw [if_pos h1]
    rfl
  · unfold fn
    rw [if_neg (by omega), if_neg (by omega), if_neg (by omega)]
    exact ⟨rfl, rfl, rfl⟩
  · obtain rfl : q = 0 := by omega
    unfold fn
    exact ⟨if_pos rfl, if_pos rfl, if_pos rfl⟩
/-- the values of a sign's parts -/
def jw (k n : Nat) (W : Nat → Nat) : Nat := if k < n then W k else 0
theorem zfor_cong {α : Type} {f g : Nat → α → α} : ∀ j i a, (∀ k x, i ≤ k → k < i + j → f k x = g k x) → zfor f j i a = zfor g j i a := by
  intro j
  induction j with
  | zero => intro i a _; rfl
  | succ j ih =>
    intro i a h
    show zfor f j (i + 1) (f i a) = zfor g j (i + 1) (g i a)
    rw [h i a (by omega) (by omega)]
    exact ih _ _ (fun k x h1 h2 => h k x (by omega) (by omega))
/-- a sign behind its parts -/
theorem Ev_sg {m : Nat} {P T K X : Nat → Nat} {k k' i : Nat} {W Cc Ee : Nat → Nat} (h : EvQ m P T K X k k' (P i) W Cc Ee) (hX : X k' = 112 + i) (hi : i < m) (hm : m ≤ 6) : Ev m P T K X k (k' + 1) (toN (T i) (1 <<< 3) (jw 0 (P i) W) (jw 1 (P i) W) (jw 2 (P i) W)) (zfor (jcF Cc 0) (P i) 0 (K i)) (zfor (jeF Ee 0) (P i) 0 0 + 1) := by
  have hk := h.1
  refine ⟨by omega, fun h0 V C E => ?_⟩
  obtain ⟨o1, V1, C1, E1, t1, a1, v1⟩ := h.2 h0 V C E
  have ek : k' + 1 - k = (k' - k) + 1 := by omega
  have ek2 : k + (k' - k) = k' := by omega
  have ei : X k' - 112 = i := by omega
  have hn : ¬ 120 ≤ X k' := by omega
  have eh : h0 + P i - P i = h0 := by omega
  have eV : jdV (T i) V1 (P i) h0 = toN (T i) (1 <<< 3) (jw 0 (P i) W) (jw 1 (P i) W) (jw 2 (P i) W) := by
    unfold jdV jv jw
    have w : ∀ q, (if q < P i then V1 (h0 + q) else 0) = (if q < P i then W q else 0) := fun q => by
      by_cases hq : q < P i
      · rw [if_pos hq, if_pos hq]; exact (v1 q hq).1
      · rw [if_neg hq, if_neg hq]
    rw [w, w, w]
  have eC : jdC (K i) C1 (P i) h0 = zfor (jcF Cc 0) (P i) 0 (K i) := by
    unfold jdC
    refine zfor_cong _ _ _ (fun q x _ hq => ?_)
    unfold jcF
    rw [(v1 q (by omega)).2.1, Nat.zero_add]
  have eE : jdE E1 (P i) h0 = zfor (jeF Ee 0) (P i) 0 0 := by
    unfold jdE
    refine zfor_cong _ _ _ (fun q x _ hq => ?_)
    unfold jeF
    rw [(v1 q (by omega)).2.2, Nat.zero_add]
  have t2 : jdT P T K X 1 k' (h0 + P i) V1 C1 E1 = (h0 + 1, fn V1 h0 (jdV (T i) V1 (P i) h0), fn C1 h0 (jdC (K i) C1 (P i) h0), fn E1 h0 (jdE E1 (P i) h0 + 1)) := by
    unfold jdT
    rw [if_neg hn, ei, eh]
    rfl
  refine ⟨?_, fn V1 h0 (jdV (T i) V1 (P i) h0), fn C1 h0 (jdC (K i) C1 (P i) h0), fn E1 h0 (jdE E1 (P i) h0 + 1), ?_, fun q hq => ?_, fun q hq => ?_⟩
  · rw [ek]
    refine jdO_add (T := T) (K := K) _ _ _ _ V C E o1 ?_
    rw [t1, ek2]
    unfold jdO
    rw [if_neg hn, ei]
    exact ⟨by omega, by omega, by show P i ≤ h0 + P i; omega, trivial⟩
  · rw [ek, jdT_add, t1, ek2]
    exact t2
  · unfold fn
    rw [if_neg (by omega), if_neg (by omega), if_neg (by omega)]
    exact a1 q hq
  · obtain rfl : q = 0 := by omega
    unfold fn
    exact ⟨(if_pos rfl).trans eV, (if_pos rfl).trans eC, (if_pos rfl).trans (by rw [eE])⟩
