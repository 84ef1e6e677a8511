/-- between two calls -/
def RInv (M : zM) (m : Nat) (P T K : Nat → Nat) : Prop := ∀ rc n N, zrc rc n N → M rc 0 = nI n ∧ M rc 1 = nI (N - 1) ∧ (M rc 8 = nI 0 ∨ (M rc 8 = nI 1 ∧ RX m P T K n B0 rc N M))
def IV (M : zM) (m : Nat) (P T K : Nat → Nat) (len : Nat) (Y tb co de le : Nat → Nat) (X : Nat → Nat → Nat) : Prop :=
  sgC M m P T K ∧ sgM M m P T K ∧ txC M len Y ∧ txM M len Y ∧ foC M tb co de le ∧ (∀ i, i < 4 → foM M i (le i) (X i) ∧ Ev m P T K (X i) 0 (le i) (tb i) (co i) (de i)) ∧ (∀ q, 1 ≤ q → q < 4 → M 32 q = -1 ∨ M 32 q = nI (pcN P T m q)) ∧ RInv M m P T K
def INV (M : zM) : Prop := ∃ m P T K len Y tb co de le X, IV M m P T K len Y tb co de le X
/-- the places that the invariant speaks of -/
def zrel (a b : Nat) : Prop := a ≤ 25 ∨ (28 ≤ a ∧ a ≤ 32) ∨ (a = 33 ∧ (b = 0 ∨ b = 1 ∨ b = 10)) ∨ (34 ≤ a ∧ a ≤ 36) ∨ (38 ≤ a ∧ a ≤ 40)
section IVF
variable {M M' : zM} {m len : Nat} {P T K Y tb co de le : Nat → Nat} {X : Nat → Nat → Nat}
theorem sgM_fr (h : ∀ a b, (a = 33 ∧ b ≤ 1) ∨ (34 ≤ a ∧ a ≤ 36) → M' a b = M a b) (hs : sgM M m P T K) : sgM M' m P T K := by
  obtain ⟨h1, h2, h3, h4, h5⟩ := hs
  refine ⟨by rw [h 33 0 (Or.inl ⟨rfl, by decide⟩)]; exact h1, by rw [h 33 1 (Or.inl ⟨rfl, by decide⟩)]; exact h2, h3, h4, fun i hi => ?_⟩
  rw [h 34 i (Or.inr (by decide)), h 35 i (Or.inr (by decide)), h 36 i (Or.inr (by decide))]
  exact h5 i hi
theorem txC_fr (h1 : M' 24 1 = M 24 1) (h2 : ∀ b, M' 25 b = M 25 b) (hs : txC M len Y) : txC M' len Y := ⟨by rw [h1]; exact hs.1, hs.2.1, fun j hj => by rw [h2]; exact hs.2.2 j hj⟩
theorem txM_fr (h1 : M' 33 10 = M 33 10) (h2 : ∀ b, M' 38 b = M 38 b) (hs : txM M len Y) : txM M' len Y := ⟨by rw [h1]; exact hs.1, hs.2.1, fun j hj => by rw [h2]; exact hs.2.2 j hj⟩
theorem foC_fr (h : ∀ a b, 28 ≤ a → a ≤ 31 → M' a b = M a b) (hs : foC M tb co de le) : foC M' tb co de le := ⟨fun i hi => by
  rw [h (28 + i) 0 (by omega) (by omega), h (28 + i) 1 (by omega) (by omega), h (28 + i) 2 (by omega) (by omega), h (28 + i) 3 (by omega) (by omega)]
  exact hs.1 i hi, hs.2⟩
theorem foM_fr {i l : Nat} {Z : Nat → Nat} (h : ∀ a b, 39 ≤ a → a ≤ 40 → M' a b = M a b) (hs : foM M i l Z) : foM M' i l Z := ⟨by rw [h 40 i (by decide) (by decide)]; exact hs.1, hs.2.1, fun k hk => by rw [h 39 _ (by decide) (by decide)]; exact hs.2.2 k hk⟩
theorem RX_fr {n rc N : Nat} (h : ∀ a b, rc ≤ a → a ≤ rc + 4 → M' a b = M a b) (hs : RX m P T K n B0 rc N M) : RX m P T K n B0 rc N M' := by
  refine ⟨fun q hq => ?_, ?_⟩
  · rw [h (rc + 1) q (by omega) (by omega), h (rc + 2) q (by omega) (by omega)]
    exact hs.1 q hq
  · rw [h rc 7 (by omega) (by omega), hs.2]
    congr 2
    funext q
    rw [h (rc + 1) q (by omega) (by omega)]
theorem zrc_le {rc n N : Nat} (h : zrc rc n N) : 9 ≤ rc ∧ rc + 4 ≤ 23 := by rcases h with ⟨rfl, -, -⟩ | ⟨rfl, -, -⟩ | ⟨rfl, -, -⟩ <;> decide
theorem RInv_fr (h : ∀ a b, 9 ≤ a → a ≤ 23 → M' a b = M a b) (hs : RInv M m P T K) : RInv M' m P T K := by
  intro rc n N hrc
  have hr := zrc_le hrc
  obtain ⟨h1, h2, h3⟩ := hs rc n N hrc
  rw [h rc 0 (by omega) (by omega), h rc 1 (by omega) (by omega), h rc 8 (by omega) (by omega)]
  refine ⟨h1, h2, ?_⟩
  rcases h3 with h3 | ⟨h3, h4⟩
  · exact Or.inl h3
  · exact Or.inr ⟨h3, RX_fr (fun a b h5 h6 => h a b (by omega) (by omega)) h4⟩
theorem IV_fr (h : ∀ a b, zrel a b → M' a b = M a b) (hI : IV M m P T K len Y tb co de le X) : IV M' m P T K len Y tb co de le X := by
  obtain ⟨i1, i2, i3, i4, i5, i6, i7, i8⟩ := hI
  refine ⟨sg_frame (fun a b ha => h a b (Or.inl (by omega))) i1, sgM_fr (fun a b ha => h a b ?_) i2, txC_fr (h 24 1 (Or.inl (by decide))) (fun b => h 25 b (Or.inl (by decide))) i3, txM_fr (h 33 10 (Or.inr (Or.inr (Or.inl ⟨rfl, Or.inr (Or.inr rfl)⟩)))) (fun b => h 38 b (Or.inr (Or.inr (Or.inr (Or.inr (by decide)))))) i4, foC_fr (fun a b h1 h2 => h a b (Or.inr (Or.inl ⟨h1, by omega⟩))) i5, fun i hi => ⟨foM_fr (fun a b h1 h2 => h a b (Or.inr (Or.inr (Or.inr (Or.inr ⟨by omega, h2⟩))))) (i6 i hi).1, (i6 i hi).2⟩, fun q h1 h2 => by rw [h 32 q (Or.inr (Or.inl (by decide)))]; exact i7 q h1 h2, RInv_fr (fun a b h1 h2 => h a b (Or.inl (by omega))) i8⟩
  rcases ha with ⟨rfl, ha⟩ | ha
  · exact Or.inr (Or.inr (Or.inl ⟨rfl, by omega⟩))
  · exact Or.inr (Or.inr (Or.inr (Or.inl ha)))
end IVF
/-- a call of the class, then of the reference: the same answer -/
def OP (sc : Nat × (Nat → Int32)) (kc kr : Nat) (as : List Value) (M : zM) : Prop := ∃ v M1 M2, zC 47 sc 30 kc (.ref 0 :: as) M (some (.int v)) M1 ∧ zC 47 sc 30 kr (.ref 33 :: as) M1 (some (.int v)) M2 ∧ INV M2
section OPS
variable {sc : Nat × (Nat → Int32)} {M : zM}
theorem op_about {x y : Int32} (hI : INV M) : OP sc 58 95 [.int x, .int y] M := by
  obtain ⟨m, P, T, K, len, Y, tb, co, de, le, X, h⟩ := id hI
  exact ⟨_, M, M, c_58 (d := 28) h.1, c_95 (d := 28) h.2.1, hI⟩
theorem op_keeps {x y : Int32} (hI : INV M) : OP sc 59 96 [.int x, .int y] M := by
  obtain ⟨m, P, T, K, len, Y, tb, co, de, le, X, h⟩ := id hI
  exact ⟨_, M, M, c_59 (d := 26), c_96 (d := 28) h.2.1, hI⟩
theorem op_says {x : Int32} (hI : INV M) : OP sc 65 110 [.int x] M := by
  obtain ⟨m, P, T, K, len, Y, tb, co, de, le, X, h⟩ := id hI
  exact ⟨_, M, M, c_65 (d := 27) h.1, c_110 (d := 27) h.2.1, hI⟩
theorem op_lacks {x : Int32} (hI : INV M) : OP sc 66 111 [.int x] M := by
  obtain ⟨m, P, T, K, len, Y, tb, co, de, le, X, h⟩ := id hI
  exact ⟨_, M, M, c_66 (d := 27) h.1, c_111 (d := 27) h.2.1, hI⟩
theorem op_sets {x : Int32} (hI : INV M) : OP sc 67 113 [.int x] M := by
  obtain ⟨m, P, T, K, len, Y, tb, co, de, le, X, h⟩ := id hI
  exact ⟨_, M, M, c_67 (d := 26) h.1, c_113 (d := 26) h.2.1, hI⟩
theorem op_alone {x : Int32} (hI : INV M) : OP sc 68 114 [.int x] M := by
  obtain ⟨m, P, T, K, len, Y, tb, co, de, le, X, h⟩ := id hI
  exact ⟨_, M, M, c_68 (d := 26), c_114 (d := 28) h.2.1, hI⟩
theorem op_lets {x y z : Int32} (hI : INV M) : OP sc 69 119 [.int x, .int y, .int z] M := by
  obtain ⟨m, P, T, K, len, Y, tb, co, de, le, X, h⟩ := id hI
  exact ⟨_, M, M, c_69 (d := 25) h.1, c_119 (d := 26) h.2.1, hI⟩
theorem op_letting {x y : Int32} (hI : INV M) : OP sc 70 121 [.int x, .int y] M := by
  obtain ⟨m, P, T, K, len, Y, tb, co, de, le, X, h⟩ := id hI
  exact ⟨_, M, M, c_70 (d := 25) h.1, c_121 (d := 25) h.2.1, hI⟩
theorem op_around {x y : Int32} (hI : INV M) : OP sc 71 122 [.int x, .int y] M := by
  obtain ⟨m, P, T, K, len, Y, tb, co, de, le, X, h⟩ := id hI
  exact ⟨_, M, M, c_71 (d := 25) h.1, c_122 (d := 27) h.2.1, hI⟩
theorem op_sorts {x y : Int32} (hI : INV M) : OP sc 72 123 [.int x, .int y] M := by
  obtain ⟨m, P, T, K, len, Y, tb, co, de, le, X, h⟩ := id hI
  exact ⟨_, M, M, c_72 (d := 26), c_123 (d := 27) h.2.1, hI⟩
theorem op_count {x : Int32} (hI : INV M) : OP sc 80 136 [.int x] M := by
  obtain ⟨m, P, T, K, len, Y, tb, co, de, le, X, h⟩ := id hI
  exact ⟨_, M, M, c_80 (d := 28) h.1 h.2.2.1.1, c_136 (d := 28) h.2.1 h.2.2.2.1.1, hI⟩
theorem op_kept {x : Int32} (hI : INV M) : OP sc 73 124 [.int x] M := by
  obtain ⟨m, P, T, K, len, Y, tb, co, de, le, X, h⟩ := id hI
  cases hx : zcnt x with
  | false =>
    have e : fKept P T m x = -1 := by unfold fKept; rw [hx]; rfl
    have h2 := c_124 (sc := sc) (d := 25) (x := x) h.2.1
    rw [e] at h2
    exact ⟨_, M, M, c_73c (d := 23) hx, h2, hI⟩
  | true =>
    obtain ⟨q, hq1, hq, rfl⟩ := zcnt_x hx
    have e : fKept P T m (nI q) = nI (pcN P T m q) := by unfold fKept; rw [if_pos hx, nI_clamp (by omega)]
    rcases h.2.2.2.2.2.2.1 q hq1 hq with h1 | h1
    · have hI2 : IV (zup M 32 q (nI (pcN P T m q))) m P T K len Y tb co de le X := by
        have hne : ∀ a b, ¬ a = 32 → zup M 32 q (nI (pcN P T m q)) a b = M a b := fun a b ha => if_neg ha
        obtain ⟨i1, i2, i3, i4, i5, i6, i7, i8⟩ := h
        refine ⟨sg_frame (fun a b ha => hne a b (by omega)) i1, sgM_fr (fun a b ha => hne a b (by omega)) i2, txC_fr (hne _ _ (by decide)) (fun b => hne _ _ (by decide)) i3, txM_fr (hne _ _ (by decide)) (fun b => hne _ _ (by decide)) i4, foC_fr (fun a b h1 h2 => hne _ _ (by omega)) i5, fun i hi => ⟨foM_fr (fun a b h1 h2 => hne _ _ (by omega)) (i6 i hi).1, (i6 i hi).2⟩, fun p h2 h3 => ?_, RInv_fr (fun a b h1 h2 => hne _ _ (by omega)) i8⟩
        by_cases ep : p = q
        · subst ep; exact Or.inr (by unfold zup; rw [if_pos rfl, if_pos rfl])
        · have : zup M 32 q (nI (pcN P T m q)) 32 p = M 32 p := by unfold zup; rw [if_pos rfl, if_neg ep]
          rw [this]; exact i7 p h2 h3
      have h2 := c_124 (sc := sc) (d := 25) (x := nI q) hI2.2.1
      rw [e] at h2
      exact ⟨_, _, _, c_73b (d := 23) h.1 hq1 hq h1, h2, ⟨m, P, T, K, len, Y, tb, co, de, le, X, hI2⟩⟩
    · have h2 := c_124 (sc := sc) (d := 25) (x := nI q) h.2.1
      rw [e] at h2
      exact ⟨_, M, M, c_73a (d := 23) h.1 hq1 hq h1, h2, hI⟩
theorem op_clear (hI : INV M) : OP sc 75 126 [] M := by
  obtain ⟨m, P, T, K, len, Y, tb, co, de, le, X, h⟩ := id hI
  obtain ⟨i1, i2, i3, i4, i5, i6, i7, i8⟩ := h
  have hsm1 : sgM (zup M 24 1 (nI 0)) m P T K := sgM_fr (fun a b ha => if_neg (by omega)) i2
  refine ⟨_, _, _, c_75 (d := 29) i3.1, c_126 (d := 29) hsm1 (show zup M 24 1 (nI 0) 33 10 = nI len from i4.1), m, P, T, K, 0, Y, tb, co, de, le, X, ?_⟩
  have hne : ∀ a b, ¬ (a = 24 ∧ b = 1) → ¬ (a = 33 ∧ b = 10) → zup (zup M 24 1 (nI 0)) 33 10 (nI 0) a b = M a b := fun a b h1 h2 => by
    unfold zup
    by_cases e1 : a = 33
    · rw [if_pos e1, if_neg (fun z => h2 ⟨e1, z⟩), if_neg (by omega)]
    · rw [if_neg e1]
      by_cases e2 : a = 24
      · rw [if_pos e2, if_neg (fun z => h1 ⟨e2, z⟩)]
      · rw [if_neg e2]
  exact ⟨sg_frame (fun a b ha => hne a b (by omega) (by omega)) i1, sgM_fr (fun a b ha => hne a b (by omega) (by omega)) i2, ⟨rfl, by decide, fun j hj => absurd hj (by omega)⟩, ⟨rfl, by decide, fun j hj => absurd hj (by omega)⟩, foC_fr (fun a b h1 h2 => hne _ _ (by omega) (by omega)) i5, fun i hi => ⟨foM_fr (fun a b h1 h2 => hne _ _ (by omega) (by omega)) (i6 i hi).1, (i6 i hi).2⟩, fun q h1 h2 => by rw [hne 32 q (by omega) (by omega)]; exact i7 q h1 h2, RInv_fr (fun a b h1 h2 => hne _ _ (by omega) (by omega)) i8⟩
theorem op_type {v : Int64} {x : Int32} (hI : INV M) : OP sc 74 125 [.long v, .int x] M := by
  obtain ⟨m, P, T, K, len, Y, tb, co, de, le, X, h⟩ := id hI
  obtain ⟨i1, i2, i3, i4, i5, i6, i7, i8⟩ := h
  cases hx : zin x (nI 1) (nI 8) with
  | false => exact ⟨_, M, M, c_74a (d := 28) hx, c_125a (d := 28) i2 hx, hI⟩
  | true =>
    obtain ⟨k, hk1, hk8, rfl⟩ := zin_x2 (by decide) (by decide) hx
    by_cases hf : len + k ≤ 80
    · have hsm1 : sgM (zapC v k len M) m P T K := sgM_fr (fun a b ha => zapC_ne v b (by omega) (by omega) k len M) i2
      have hty : zapC v k len M 33 10 = nI len := by rw [zapC_ne v 10 (by decide) (by decide)]; exact i4.1
      refine ⟨_, _, _, c_74c (d := 28) i3.1 i3.2.1 hk1 hk8 hf, c_125c (d := 28) hsm1 hty i3.2.1 hk1 hk8 hf, m, P, T, K, len + k, zYN v k len Y, tb, co, de, le, X, ?_⟩
      have hne : ∀ a b, ¬ a = 24 → ¬ a = 25 → ¬ (a = 33 ∧ b = 10) → ¬ a = 38 → zapM v k len (zapC v k len M) a b = M a b := fun a b h1 h2 h3 h4 => by rw [zapM_ne v h3 h4, zapC_ne v b h1 h2]
      have t1 := zapC_tx v k len M Y hk8 hf i3
      have t2 : txM (zapC v k len M) len Y := txM_fr (zapC_ne v 10 (by decide) (by decide) k len M) (fun b => zapC_ne v b (by decide) (by decide) k len M) i4
      have t3 := zapM_tx v k len (zapC v k len M) Y hk8 hf t2
      exact ⟨sg_frame (fun a b ha => hne a b (by omega) (by omega) (by omega) (by omega)) i1, sgM_fr (fun a b ha => hne a b (by omega) (by omega) (by omega) (by omega)) i2, txC_fr (zapM_ne v (by decide) (by decide) k len _) (fun b => zapM_ne v (by omega) (by decide) k len _) t1, t3, foC_fr (fun a b h1 h2 => hne _ _ (by omega) (by omega) (by omega) (by omega)) i5, fun i hi => ⟨foM_fr (fun a b h1 h2 => hne _ _ (by omega) (by omega) (by omega) (by omega)) (i6 i hi).1, (i6 i hi).2⟩, fun q h1 h2 => by rw [hne 32 q (by omega) (by omega) (by omega) (by omega)]; exact i7 q h1 h2, RInv_fr (fun a b h1 h2 => hne _ _ (by omega) (by omega) (by omega) (by omega)) i8⟩
    · exact ⟨_, M, M, c_74b (d := 28) i3.1 i3.2.1 hk1 hk8 hf, c_125b (d := 28) i2 i4.1 i4.2.1 hk1 hk8 hf, hI⟩
end OPS
