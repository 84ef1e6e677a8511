/-- the reference's text: len bytes Y -/
def txM (M : zM) (len : Nat) (Y : Nat → Nat) : Prop := M 33 10 = nI len ∧ len ≤ 80 ∧ ∀ j, j < len → M 38 j = nI (Y j) ∧ Y j < 256
def zYN (v : Int64) : Nat → Nat → (Nat → Nat) → Nat → Nat
  | 0, _, Y => Y
  | j + 1, len, Y => zYN v j (len + 1) (fun k => if k = len then bvN v j else Y k)
theorem zapC_tx (v : Int64) : ∀ (j len : Nat) (M : zM) (Y : Nat → Nat), j ≤ 8 → len + j ≤ 80 → txC M len Y → txC (zapC v j len M) (len + j) (zYN v j len Y) := by
  intro j
  induction j with
  | zero => intro len M Y _ _ h; exact h
  | succ j ih =>
    intro len M Y h8 h80 h
    rw [show len + (j + 1) = len + 1 + j by omega]
    refine ih (len + 1) _ _ (by omega) (by omega) ⟨by simp [zup], by omega, fun k hk => ?_⟩
    dsimp only
    by_cases e : k = len
    · subst e
      rw [if_pos rfl]
      refine ⟨?_, bvN_lt v j⟩
      rw [show zup (zup M 25 k (bvC v j)) 24 1 (nI (k + 1)) 25 k = bvC v j by simp [zup]]
      exact bvC_ok v (by omega)
    · rw [if_neg e]
      have := h.2.2 k (by omega)
      refine ⟨?_, this.2⟩
      rw [show zup (zup M 25 len (bvC v j)) 24 1 (nI (len + 1)) 25 k = M 25 k by simp [zup, e]]
      exact this.1
theorem zapM_tx (v : Int64) : ∀ (j len : Nat) (M : zM) (Y : Nat → Nat), j ≤ 8 → len + j ≤ 80 → txM M len Y → txM (zapM v j len M) (len + j) (zYN v j len Y) := by
  intro j
  induction j with
  | zero => intro len M Y _ _ h; exact h
  | succ j ih =>
    intro len M Y h8 h80 h
    rw [show len + (j + 1) = len + 1 + j by omega]
    refine ih (len + 1) _ _ (by omega) (by omega) ⟨by simp [zup], by omega, fun k hk => ?_⟩
    dsimp only
    by_cases e : k = len
    · subst e
      rw [if_pos rfl]
      refine ⟨?_, bvN_lt v j⟩
      rw [show zup (zup M 38 k (bvM v j)) 33 10 (nI (k + 1)) 38 k = bvM v j by simp [zup]]
      exact bvM_ok v (by omega)
    · rw [if_neg e]
      have := h.2.2 k (by omega)
      refine ⟨?_, this.2⟩
      rw [show zup (zup M 38 len (bvM v j)) 33 10 (nI (len + 1)) 38 k = M 38 k by simp [zup, e]]
      exact this.1
theorem zapC_ne (v : Int64) {a : Nat} (b : Nat) (h1 : ¬ a = 24) (h2 : ¬ a = 25) : ∀ (j len : Nat) (M : zM), zapC v j len M a b = M a b := by
  intro j
  induction j with
  | zero => intro len M; rfl
  | succ j ih =>
    intro len M
    show zapC v j (len + 1) _ a b = _
    rw [ih]
    unfold zup
    rw [if_neg h1, if_neg h2]
theorem zapM_ne (v : Int64) {a b : Nat} (h1 : ¬ (a = 33 ∧ b = 10)) (h2 : ¬ a = 38) : ∀ (j len : Nat) (M : zM), zapM v j len M a b = M a b := by
  intro j
  induction j with
  | zero => intro len M; rfl
  | succ j ih =>
    intro len M
    show zapM v j (len + 1) _ a b = _
    rw [ih]
    unfold zup
    by_cases e : a = 33
    · rw [if_pos e, if_neg (fun z => h1 ⟨e, z⟩), if_neg h2]
    · rw [if_neg e, if_neg h2]
