/-! the pure machine's pictures in the machine's own words -/
def ztr (ad : Nat → Nat) : Value → Value
  | .ref k => .ref (ad k)
  | v => v
def zpr (ad : Nat → Nat) : Nat → List Value → List (Nat × Value)
  | _, [] => []
  | i, .null :: r => zpr ad (i + 1) r
  | i, v :: r => (i, ztr ad v) :: zpr ad (i + 1) r
theorem zpr_tail {ad : Nat → Nat} {q : Nat × Value} (a : Value) (r : List Value) (b : Nat) (h : q ∈ zpr ad (b + 1) r) : q ∈ zpr ad b (a :: r) := by
  cases a <;> simp only [zpr] <;> first | exact h | exact List.mem_cons_of_mem _ h
theorem zpr_cases {ad : Nat → Nat} {q : Nat × Value} {a : Value} {r : List Value} {b : Nat} (h : q ∈ zpr ad b (a :: r)) : q ∈ zpr ad (b + 1) r ∨ (q = (b, ztr ad a) ∧ ¬ a = .null) := by
  cases a <;> simp only [zpr] at h <;> first | exact Or.inl h | (rcases List.mem_cons.mp h with h | h; exact Or.inr ⟨h, by simp⟩; exact Or.inl h)
theorem zpr_ge {ad : Nat → Nat} {q : Nat × Value} : ∀ (L : List Value) (b : Nat), q ∈ zpr ad b L → b ≤ q.1 := by
  intro L
  induction L with
  | nil => intro b h; simp [zpr] at h
  | cons a r ih =>
    intro b h
    rcases zpr_cases h with h | ⟨h, -⟩
    · exact Nat.le_of_succ_le (ih _ h)
    · rw [h]; exact Nat.le_refl _
theorem zpr_get {ad : Nat → Nat} {v : Value} (hv : ¬ v = .null) : ∀ (L : List Value) (b i : Nat), zget L i = some v → (b + i, ztr ad v) ∈ zpr ad b L := by
  intro L
  induction L with
  | nil => intro b i h; simp [zget] at h
  | cons a r ih =>
    intro b i h
    cases i with
    | zero =>
      simp only [zget, Option.some.injEq] at h
      subst h
      cases a <;> simp [zpr] at hv ⊢
    | succ n =>
      have := ih (b + 1) n h
      rw [show b + 1 + n = b + (n + 1) by omega] at this
      exact zpr_tail a r b this
theorem zsl_cons (a : Value) (r : List Value) (n : Nat) (v : Value) : zsl (a :: r) (n + 1) v = .null :: zsl r n v ∨ (zsl (a :: r) (n + 1) v = a :: zsl r n v ∧ ¬ (n = 0 ∧ a.category = 2)) := by
  cases a <;> cases n <;> simp [zsl, Value.category]
theorem zsl_length (v : Value) : ∀ (L : List Value) (i : Nat), (zsl L i v).length = L.length := by
  intro L
  induction L with
  | nil => intro i; simp [zsl]
  | cons a r ih =>
    intro i
    cases i with
    | zero => simp [zsl]
    | succ n => rcases zsl_cons a r n v with h | ⟨h, -⟩ <;> rw [h] <;> simp [ih]
theorem ztr_cat (ad : Nat → Nat) (v : Value) : (ztr ad v).category = v.category := by cases v <;> rfl
theorem zpr_sl {ad : Nat → Nat} {v : Value} (hv : ¬ v = .null) {q : Nat × Value} : ∀ (L : List Value) (i b : Nat), q ∈ zpr ad b (zsl L i v) → q = (b + i, ztr ad v) ∨ (q ∈ zpr ad b L ∧ ¬ q.1 = b + i ∧ ¬ (q.1 + 1 = b + i ∧ q.2.category = 2)) := by
  intro L
  induction L with
  | nil => intro i b h; simp [zsl, zpr] at h
  | cons a r ih =>
    intro i b h
    cases i with
    | zero =>
      simp only [zsl] at h
      rcases zpr_cases h with h | ⟨h, -⟩
      · have := zpr_ge _ _ h
        exact Or.inr ⟨zpr_tail a r b h, by omega, by omega⟩
      · exact Or.inl h
    | succ n =>
      rcases zsl_cons a r n v with e | ⟨e, hn⟩
      · rw [e] at h
        rcases zpr_cases h with h | ⟨h, h2⟩
        · rcases ih n (b + 1) h with h | ⟨h1, h2, h3⟩
          · exact Or.inl (by rw [h]; congr 1; omega)
          · exact Or.inr ⟨zpr_tail a r b h1, by omega, fun z => h3 ⟨by omega, z.2⟩⟩
        · exact absurd rfl h2
      · rw [e] at h
        rcases zpr_cases h with h | ⟨h, h2⟩
        · rcases ih n (b + 1) h with h | ⟨h1, h2, h3⟩
          · exact Or.inl (by rw [h]; congr 1; omega)
          · exact Or.inr ⟨zpr_tail a r b h1, by omega, fun z => h3 ⟨by omega, z.2⟩⟩
        · refine Or.inr ⟨?_, by rw [h]; show ¬ b = _; omega, ?_⟩
          · rw [h]
            exact zpr_get (v := a) h2 (a :: r) b 0 rfl
          · rw [h]
            rintro ⟨z1, z2⟩
            rw [ztr_cat] at z2
            exact hn ⟨by dsimp only at z1; omega, z2⟩
theorem zhas_sub {ls : Array Slot} {nL : Nat} {l l' : List (Nat × Value)} (h : lv_has ls nL l) (hs : ∀ q ∈ l', q ∈ l) : lv_has ls nL l' := ⟨h.1, h.2.1, fun q hq => h.2.2 q (hs q hq)⟩
theorem zhas_store {ad : Nat → Nat} {ls : Array Slot} {nL i : Nat} {L : List Value} {v : Value} (hv : ¬ v = .null) (h : lv_has ls nL ((i, ztr ad v) :: (zpr ad 0 L).filter (fun q => !(q.1 == i) && !(q.1 + 1 == i && q.2.category == 2)))) : lv_has ls nL (zpr ad 0 (zsl L i v)) := by
  refine zhas_sub h (fun q hq => ?_)
  rcases zpr_sl hv L i 0 hq with h | ⟨h1, h2, h3⟩
  · rw [h]; simp
  · refine List.mem_cons_of_mem _ (List.mem_filter.mpr ⟨h1, ?_⟩)
    simp only [Nat.zero_add] at h2 h3
    simp only [Bool.and_eq_true, Bool.not_eq_true', beq_eq_false_iff_ne, ne_eq, Bool.and_eq_false_iff]
    refine ⟨h2, ?_⟩
    by_cases z : q.1 + 1 = i
    · exact Or.inr (fun w => h3 ⟨z, by exact w⟩)
    · exact Or.inl z
theorem zlo_length (ad : Nat → Nat) : ∀ as : List Value, (lg_sl (as.map (ztr ad))).length = (zlo as).length := by
  intro as
  induction as with
  | nil => rfl
  | cons a r ih => cases a <;> simp [lg_sl, zlo, ztr, Value.category] at ih ⊢ <;> omega
theorem zlo_args (ad : Nat → Nat) {q : Nat × Value} : ∀ (as : List Value) (b : Nat), q ∈ zpr ad b (zlo as) → q ∈ lv_args b (as.map (ztr ad)) := by
  intro as
  induction as with
  | nil => intro b h; simp [zlo, zpr] at h
  | cons a r ih =>
    intro b h
    cases a <;> simp only [zlo, zpr, List.map_cons, lv_args, ztr, Value.category] at h ⊢ <;> simp at h ⊢ <;> first | exact Or.inr (ih _ h) | (rcases h with h | h; exact Or.inl h; exact Or.inr (ih _ h))
theorem zpad_pr (ad : Nat → Nat) : ∀ (n : Nat) (L : List Value) (b : Nat), L.length ≤ n → zpr ad b (zpad n L) = zpr ad b L ∧ (zpad n L).length = n := by
  intro n
  induction n with
  | zero => intro L b h; cases L with
    | nil => exact ⟨rfl, rfl⟩
    | cons a r => simp at h
  | succ n ih =>
    intro L b h
    cases L with
    | nil =>
      have := ih [] (b + 1) (Nat.zero_le _)
      exact ⟨by simp only [zpad, zpr]; rw [this.1]; simp [zpr], by simp [zpad, this.2]⟩
    | cons a r =>
      have := ih r (b + 1) (by simpa using h)
      exact ⟨by cases a <;> simp only [zpad, zpr, this.1], by simp [zpad, this.2]⟩
theorem zget_eq {α : Type} : ∀ (l : List α) (k : Nat), zget l k = l[k]? := by
  intro l
  induction l with
  | nil => intro k; simp [zget]
  | cons a r ih => intro k; cases k with
    | zero => simp [zget]
    | succ n => simp [zget, ih]
theorem zget_mem {α : Type} {l : List α} {k : Nat} {x : α} (h : zget l k = some x) : x ∈ l := by rw [zget_eq] at h; exact List.mem_of_getElem? h
theorem zpop_spec : ∀ (n : Nat) (acc st as r : List Value), zpop n acc st = some (as, r) → ∃ bs, as = bs ++ acc ∧ st = bs.reverse ++ r ∧ bs.length = n := by
  intro n
  induction n with
  | zero => intro acc st as r h; simp only [zpop, Option.some.injEq, Prod.mk.injEq] at h; exact ⟨[], by simp [h.1], by simp [h.2], rfl⟩
  | succ n ih =>
    intro acc st as r h
    cases st with
    | nil => simp [zpop] at h
    | cons v st =>
      obtain ⟨bs, h1, h2, h3⟩ := ih (v :: acc) st as r h
      exact ⟨bs ++ [v], by simp [h1], by simp [h2], by simp [h3]⟩
theorem zslots_sum (ad : Nat → Nat) : ∀ r : List Value, ((r.map (ztr ad)).map fun v => v.category).sum = zslots r := by
  intro r
  induction r with
  | nil => rfl
  | cons a r ih => simp only [List.map_cons, List.sum_cons, zslots, ih, ztr_cat]
def zfv (ad : Nat → Nat) (f : Nat → Int32) : Nat → List (Option Nat) → List Value
  | _, [] => []
  | b, some q :: r => .ref (ad q) :: zfv ad f (b + 1) r
  | b, none :: r => .int (f b) :: zfv ad f (b + 1) r
theorem zfv_length (ad : Nat → Nat) (f : Nat → Int32) : ∀ (fs : List (Option Nat)) (b : Nat), (zfv ad f b fs).length = fs.length := by
  intro fs
  induction fs with
  | nil => intro b; rfl
  | cons a r ih => intro b; cases a <;> simp [zfv, ih]
theorem zfv_get (ad : Nat → Nat) (f : Nat → Int32) : ∀ (fs : List (Option Nat)) (b j : Nat) (o : Option Nat), zget fs j = some o → (zfv ad f b fs)[j]? = some (match o with | some q => .ref (ad q) | none => .int (f (b + j))) := by
  intro fs
  induction fs with
  | nil => intro b j o h; simp [zget] at h
  | cons a r ih =>
    intro b j o h
    cases j with
    | zero => simp only [zget, Option.some.injEq] at h; subst h; cases a <;> simp [zfv]
    | succ n =>
      have := ih (b + 1) n o h
      rw [show b + 1 + n = b + (n + 1) by omega] at this
      cases a <;> simp [zfv, this]
theorem zfv_low (ad : Nat → Nat) (f : Nat → Int32) (j : Nat) (x : Int32) : ∀ (fs : List (Option Nat)) (b : Nat), j < b → zfv ad (upd f j x) b fs = zfv ad f b fs := by
  intro fs
  induction fs with
  | nil => intro b h; rfl
  | cons a r ih =>
    intro b h
    cases a with
    | none => simp only [zfv, ih (b + 1) (by omega)]; rw [show upd f j x b = f b by unfold upd; rw [if_neg (by omega)]]
    | some q => simp only [zfv, ih (b + 1) (by omega)]
theorem zfv_set (ad : Nat → Nat) (f : Nat → Int32) (x : Int32) : ∀ (fs : List (Option Nat)) (b j : Nat), zget fs j = some none → (zfv ad f b fs).set j (.int x) = zfv ad (upd f (b + j) x) b fs := by
  intro fs
  induction fs with
  | nil => intro b j h; simp [zget] at h
  | cons a r ih =>
    intro b j h
    cases j with
    | zero =>
      simp only [zget, Option.some.injEq] at h; subst h
      simp only [zfv, List.set_cons_zero, Nat.add_zero, zfv_low ad f b x r (b + 1) (Nat.lt_succ_self b)]
      rw [show upd f b x b = x by unfold upd; rw [if_pos rfl]]
    | succ n =>
      have := ih (b + 1) n h
      rw [show b + 1 + n = b + (n + 1) by omega] at this
      cases a with
      | none => simp only [zfv, List.set_cons_succ, this]; rw [show upd f (b + (n + 1)) x b = f b by unfold upd; rw [if_neg (by omega)]]
      | some q => simp only [zfv, List.set_cons_succ, this]
def zce (ad : Nat → Nat) (cA : Nat → ClassId) (k : Nat) (f : Nat → Int32) : va_E := match zget zlyL k with
  | some (.inl (ci, fs)) => .inr (ci, zfv ad f 0 fs)
  | some (.inr (n, _, [])) => .inl (cA k, n, .inl f)
  | some (.inr (n, _, q :: qs)) => .inl (cA k, n, .inr (.inr (.inr (.inr (fun j => (zget (q :: qs) j).map ad)))))
  | none => .inr (0, [])
def zwd (NC : Nat) (ad : Nat → Nat) (cA : Nat → ClassId) (M : zM) : va_W := (List.range NC).map (fun k => (ad k, zce ad cA k (M k)))
def zty (k : Nat) : FieldType := match zget zlyL k with
  | some (.inr (_, ty, _)) => ty
  | _ => .int
def ztys (NC : Nat) (cA : Nat → ClassId) : List (ClassId × FieldType) := (List.range NC).map (fun k => (cA k, zty k))
theorem zwd_at {NC : Nat} {ad : Nat → Nat} {cA : Nat → ClassId} {M : zM} {k : Nat} (h : k < NC) : (zwd NC ad cA M)[k]? = some (ad k, zce ad cA k (M k)) := by
  simp [zwd, h]
theorem ztys_at {NC : Nat} {cA : Nat → ClassId} {k : Nat} (h : k < NC) : (ztys NC cA)[k]? = some (cA k, zty k) := by
  simp [ztys, h]
theorem zup_same (M : zM) (k j : Nat) (x : Int32) : zup M k j x k = upd (M k) j x := by
  funext b
  simp [zup, upd]
theorem zup_ne (M : zM) {k a : Nat} (j : Nat) (x : Int32) (h : ¬ a = k) : zup M k j x a = M a := by
  funext b
  simp [zup, h]
theorem zwd_set {NC : Nat} {ad : Nat → Nat} {cA : Nat → ClassId} {M : zM} {k j : Nat} {x : Int32} {y : va_E} (h : zce ad cA k (upd (M k) j x) = y) : (zwd NC ad cA M).set k (ad k, y) = zwd NC ad cA (zup M k j x) := by
  refine List.ext_getElem? (fun i => ?_)
  by_cases hi : i < NC
  · rw [zwd_at hi, List.getElem?_set]
    by_cases e : k = i
    · subst e
      rw [if_pos rfl, if_pos (by simpa [zwd] using hi), zup_same, h]
    · rw [if_neg e, zwd_at hi, zup_ne M j x (fun z => e z.symm)]
  · rw [List.getElem?_eq_none (by simp [zwd]; omega), List.getElem?_eq_none (by simp [zwd]; omega)]
theorem zlay_some {NC k : Nat} {x : zLy} (h : zlay NC k = some x) : k < NC ∧ zget zlyL k = some x := by
  unfold zlay at h
  cases hb : Nat.ble NC k with
  | true => rw [hb] at h; simp at h
  | false =>
    rw [hb] at h
    exact ⟨Nat.lt_of_not_le (fun z => by rw [Nat.ble_eq_true_of_le z] at hb; cases hb), h⟩
theorem zly_ok : zlyL.all (fun x => match x with
    | .inl (ci, fs) => (match zget vwCl ci with
      | some q => Nat.beq fs.length q.2.2 && Nat.blt ci 8
      | none => false)
    | .inr (n, ty, qs) => (match ty with
      | .int => qs.isEmpty
      | .byte => qs.isEmpty
      | .boolean => qs.isEmpty
      | .object _ => Nat.beq qs.length n && !qs.isEmpty
      | _ => false)) = true := by decide +kernel
theorem zly_obj {k ci : Nat} {fs : List (Option Nat)} (h : zget zlyL k = some (.inl (ci, fs))) : ∃ q, zget vwCl ci = some q ∧ fs.length = q.2.2 ∧ ci < 8 := by
  have := List.all_eq_true.mp zly_ok _ (zget_mem h)
  dsimp only at this
  cases hq : zget vwCl ci with
  | none => rw [hq] at this; simp at this
  | some q =>
    rw [hq] at this
    simp only [Bool.and_eq_true] at this
    exact ⟨q, rfl, Nat.eq_of_beq_eq_true this.1, Nat.lt_succ_of_le (by have := this.2; simpa [Nat.blt] using this)⟩
theorem zly_arr {k n : Nat} {ty : FieldType} {qs : List Nat} (h : zget zlyL k = some (.inr (n, ty, qs))) (hty : ty = .int ∨ ty = .byte ∨ ty = .boolean) : qs = [] := by
  have := List.all_eq_true.mp zly_ok _ (zget_mem h)
  rcases hty with rfl | rfl | rfl <;> simpa using this
theorem zly_ref {k n : Nat} {C : String} {qs : List Nat} (h : zget zlyL k = some (.inr (n, .object C, qs))) : ∃ q r, qs = q :: r ∧ qs.length = n := by
  have := List.all_eq_true.mp zly_ok _ (zget_mem h)
  cases qs with
  | nil => simp at this
  | cons q r => exact ⟨q, r, rfl, by simpa using this⟩
theorem zcl_ok : ∀ (ci : Nat) (q : vw_C), zget vwCl ci = some q → (∀ w ∈ u_ws q.1 q.2.1 q.2.2, w ∈ zT) ∧ ∃ ty0 : Nat → FieldType, (∀ k, k < q.2.2 → parseFieldDescriptor (q.2.1 k).2.2.1 = some (ty0 k)) ∧ (∀ a, a < q.2.2 → ∀ b, b < q.2.2 → a ≠ b → (q.2.1 a).2.1 ≠ (q.2.1 b).2.1) := by
  intro ci q h
  match ci, h with
  | 0, h => cases h; exact ⟨by decide +kernel, tyX0, tyX0_ok, nmX0⟩
  | 1, h => cases h; exact ⟨by decide +kernel, tyX1, tyX1_ok, nmX1⟩
  | 2, h => cases h; exact ⟨by decide +kernel, tyX2, tyX2_ok, nmX2⟩
  | 3, h => cases h; exact ⟨by decide +kernel, tyX3, tyX3_ok, nmX3⟩
  | 4, h => cases h; exact ⟨by decide +kernel, tyX4, tyX4_ok, nmX4⟩
  | 5, h => cases h; exact ⟨by decide +kernel, tyX6, tyX6_ok, nmX6⟩
  | 6, h => cases h; exact ⟨by decide +kernel, tyX8, tyX8_ok, nmX8⟩
  | 7, h => cases h; exact ⟨by decide +kernel, tyX9, tyX9_ok, nmX9⟩
  | k + 8, h => exact absurd h (by rw [show zget vwCl (k + 8) = none from rfl]; simp)
