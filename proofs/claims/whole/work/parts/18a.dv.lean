/-- a part's word: where the sign has the place k, Q; else nothing -/
def dvA (k p : Nat) (Q : Nat → Nat → Prop) (a x : Nat) : Prop := if k < p then Q a x else (a = 0 ∧ x = 0)
def dvC (m : Nat) (P T K : Nat → Nat) (n : Nat) (Q : Nat → Nat → Prop) : Prop := (∀ i, i < n → Q (plN n i) 0) ∧ ∀ i a b c x y z, i < m → dvA 0 (P i) Q a x → dvA 1 (P i) Q b y → dvA 2 (P i) Q c z → Q (toN (T i) (1 <<< n) a b c) (K i + x + y + z)
/-- some formula has the table t at the cost v -/
def Dv (m : Nat) (P T K : Nat → Nat) (n t v : Nat) : Prop := ∀ Q : Nat → Nat → Prop, dvC m P T K n Q → Q t v
theorem dvA_mono {k p : Nat} {Q Q2 : Nat → Nat → Prop} {a x : Nat} (h : ∀ a x, Q a x → Q2 a x) (hd : dvA k p Q a x) : dvA k p Q2 a x := by
  unfold dvA at hd ⊢
  split at hd
  · rename_i hk; rw [if_pos hk]; exact h a x hd
  · rename_i hk; rw [if_neg hk]; exact hd
theorem dvA_y {k p : Nat} {Q : Nat → Nat → Prop} {a x : Nat} (hk : k < p) (h : Q a x) : dvA k p Q a x := by unfold dvA; rw [if_pos hk]; exact h
theorem dvA_n {k p : Nat} {Q : Nat → Nat → Prop} (hk : p ≤ k) : dvA k p Q 0 0 := by unfold dvA; rw [if_neg (by omega)]; exact ⟨rfl, rfl⟩
theorem dvA_y' {k p : Nat} {Q : Nat → Nat → Prop} {a x : Nat} (hk : k < p) (h : dvA k p Q a x) : Q a x := by unfold dvA at h; rw [if_pos hk] at h; exact h
theorem dvA_n' {k p : Nat} {Q : Nat → Nat → Prop} {a x : Nat} (hk : p ≤ k) (h : dvA k p Q a x) : a = 0 ∧ x = 0 := by unfold dvA at h; rw [if_neg (by omega)] at h; exact h
theorem Dv_cl (m : Nat) (P T K : Nat → Nat) (n : Nat) : dvC m P T K n (Dv m P T K n) := by
  refine ⟨fun i hi Q hQ => hQ.1 i hi, fun i a b c x y z hi ha hb hc Q hQ => hQ.2 i a b c x y z hi ?_ ?_ ?_⟩
  · exact dvA_mono (fun a x h => h Q hQ) ha
  · exact dvA_mono (fun a x h => h Q hQ) hb
  · exact dvA_mono (fun a x h => h Q hQ) hc
theorem toN_z22 {t n a b c : Nat} : toN t (1 <<< n) a b c < z22 n := by rw [z22_pow]; exact toN_lt _ _ _ _ _
theorem plN_z22 : ∀ n, n < 4 → ∀ i, i < n → plN n i < z22 n := by decide +kernel
theorem Dv_lt {m : Nat} {P T K : Nat → Nat} {n t v : Nat} (hn : n < 4) (h : Dv m P T K n t v) : t < z22 n :=
  h (fun t _ => t < z22 n) ⟨fun i hi => plN_z22 n hn i hi, fun i a b c x y z _ _ _ _ => toN_z22⟩
/-- v is the least cost of t -/
def LE (m : Nat) (P T K : Nat → Nat) (n t v : Nat) : Prop := Dv m P T K n t v ∧ ∀ v', Dv m P T K n t v' → v ≤ v'
theorem LE_un {m : Nat} {P T K : Nat → Nat} {n t v w : Nat} (h1 : LE m P T K n t v) (h2 : LE m P T K n t w) : v = w := Nat.le_antisymm (h1.2 w h2.1) (h2.2 v h1.1)
/-- turns of a loop keep what holds -/
theorem zfor_inv {α : Type} {f : Nat → α → α} {I : α → Prop} : ∀ j i a, (∀ k x, i ≤ k → k < i + j → I x → I (f k x)) → I a → I (zfor f j i a) := by
  intro j
  induction j with
  | zero => intro i a _ h; exact h
  | succ j ih =>
    intro i a hf h
    exact ih (i + 1) (f i a) (fun k x h1 h2 => hf k x (by omega) (by omega)) (hf i a (by omega) (by omega) h)
/-- a flag that stays down says that no turn did anything -/
theorem zfor_nc {α : Type} {f : Nat → α × Bool → α × Bool} : ∀ j i s, (∀ k s, (f k s).2 = false → f k s = s) → (zfor f j i s).2 = false → zfor f j i s = s ∧ ∀ k, i ≤ k → k < i + j → f k s = s := by
  intro j
  induction j with
  | zero => intro i s _ _; exact ⟨rfl, fun k h1 h2 => absurd h2 (by omega)⟩
  | succ j ih =>
    intro i s hf h
    obtain ⟨h1, h2⟩ := ih (i + 1) (f i s) hf h
    have h0 : f i s = s := by
      refine hf i s ?_
      have h3 : (zfor f j (i + 1) (f i s)).2 = false := h
      rw [h1] at h3
      exact h3
    refine ⟨?_, fun k hk1 hk2 => ?_⟩
    · show zfor f j (i + 1) (f i s) = s
      rw [h1]; exact h0
    · by_cases e : k = i
      · rw [e]; exact h0
      · have h3 := h2 k (by omega) (by omega)
        rw [h0] at h3
        exact h3
theorem fsT_nc {t : Nat} {v : Int32} {s : (Nat → Int32) × Bool} (h : (fsT t v s).2 = false) : fsT t v s = s ∧ ¬ (s.1 t = -9 ∨ v < s.1 t) := by
  unfold fsT at h ⊢
  split at h
  · cases h
  · rename_i hn
    exact ⟨if_neg hn, hn⟩
section FNC
variable {p T K n N a b : Nat} {x y : Int32}
theorem fsZ_nc {z : Int32} {c : Nat} {s : (Nat → Int32) × Bool} (h : (fsZ p T K n a b x y z c s).2 = false) : fsZ p T K n a b x y z c s = s := by
  unfold fsZ at h ⊢
  split at h
  · rename_i e; exact if_pos e
  · rename_i e; rw [if_neg e]; exact (fsT_nc h).1
theorem fsC_nc (c : Nat) (s : (Nat → Int32) × Bool) (h : (fsC p T K n a b x y c s).2 = false) : fsC p T K n a b x y c s = s := fsZ_nc h
theorem fsY_nc {b : Nat} {y : Int32} {s : (Nat → Int32) × Bool} (h : (fsY p T K n N a x y b s).2 = false) : fsY p T K n N a x y b s = s := by
  unfold fsY at h ⊢
  split at h
  · rename_i e; exact if_pos e
  · rename_i e; rw [if_neg e]; exact (zfor_nc _ _ _ fsC_nc h).1
theorem fsB_nc (b : Nat) (s : (Nat → Int32) × Bool) (h : (fsB p T K n N a x b s).2 = false) : fsB p T K n N a x b s = s := fsY_nc h
theorem fsX_nc {x : Int32} {a : Nat} {s : (Nat → Int32) × Bool} (h : (fsX p T K n N x a s).2 = false) : fsX p T K n N x a s = s := by
  unfold fsX at h ⊢
  split at h
  · rename_i e; exact if_pos e
  · rename_i e; rw [if_neg e]; exact (zfor_nc _ _ _ fsB_nc h).1
theorem fsA_nc (a : Nat) (s : (Nat → Int32) × Bool) (h : (fsA p T K n N a s).2 = false) : fsA p T K n N a s = s := fsX_nc h
end FNC
theorem fsI_nc {P T K : Nat → Nat} {n N : Nat} (i : Nat) (s : (Nat → Int32) × Bool) (h : (fsI P T K n N i s).2 = false) : fsI P T K n N i s = s := (zfor_nc _ _ _ fsA_nc h).1
/-- a sweep that changes nothing: no join is better -/
theorem fsW_nc {m : Nat} {P T K : Nat → Nat} {n N : Nat} {f : Nat → Int32} (h : (fsW m P T K n N f).2 = false) : (fsW m P T K n N f).1 = f ∧ ∀ i a b c, i < m → a < zfs 0 (P i) N → b < zfs 1 (P i) N → c < zfs 2 (P i) N → ¬ zx 0 (P i) f a = -9 → ¬ zx 1 (P i) f b = -9 → ¬ zx 2 (P i) f c = -9 → ¬ (f (toN (T i) (1 <<< n) a b c) = -9 ∨ nI (K i) + zx 0 (P i) f a + zx 1 (P i) f b + zx 2 (P i) f c < f (toN (T i) (1 <<< n) a b c)) := by
  obtain ⟨h1, h2⟩ := zfor_nc _ _ _ fsI_nc h
  refine ⟨by show (zfor (fsI P T K n N) m 0 (f, false)).1 = f; rw [h1], fun i a b c hi ha hb hc hx hy hz => ?_⟩
  have hI := h2 i (Nat.zero_le _) (by omega)
  have hI2 : (zfor (fsA (P i) (T i) (K i) n N) (zfs 0 (P i) N) 0 (f, false)).2 = false := by
    have : zfor (fsA (P i) (T i) (K i) n N) (zfs 0 (P i) N) 0 (f, false) = (f, false) := hI
    rw [this]
  have hA := (zfor_nc _ _ _ fsA_nc hI2).2 a (Nat.zero_le _) (by omega)
  have hA2 : (zfor (fsB (P i) (T i) (K i) n N a (zx 0 (P i) f a)) (zfs 1 (P i) N) 0 (f, false)).2 = false := by
    have : fsX (P i) (T i) (K i) n N (zx 0 (P i) f a) a (f, false) = (f, false) := hA
    unfold fsX at this
    rw [if_neg hx] at this
    rw [this]
  have hB := (zfor_nc _ _ _ fsB_nc hA2).2 b (Nat.zero_le _) (by omega)
  have hB2 : (zfor (fsC (P i) (T i) (K i) n a b (zx 0 (P i) f a) (zx 1 (P i) f b)) (zfs 2 (P i) N) 0 (f, false)).2 = false := by
    have : fsY (P i) (T i) (K i) n N a (zx 0 (P i) f a) (zx 1 (P i) f b) b (f, false) = (f, false) := hB
    unfold fsY at this
    rw [if_neg hy] at this
    rw [this]
  have hC := (zfor_nc _ _ _ fsC_nc hB2).2 c (Nat.zero_le _) (by omega)
  have hC2 : (fsT (toN (T i) (1 <<< n) a b c) (nI (K i) + zx 0 (P i) f a + zx 1 (P i) f b + zx 2 (P i) f c) (f, false)).2 = false := by
    have : fsZ (P i) (T i) (K i) n a b (zx 0 (P i) f a) (zx 1 (P i) f b) (zx 2 (P i) f c) c (f, false) = (f, false) := hC
    unfold fsZ at this
    rw [if_neg hz] at this
    rw [this]
  exact (fsT_nc hC2).2
