section BYW
/-- a join that may be the way -/
def Cn (f : Nat → Int32) (p T n t : Nat) (rest : Int32) (a b c : Nat) : Prop := ¬ zx 0 p f a = -9 ∧ ¬ zx 1 p f b = -9 ∧ ¬ zx 2 p f c = -9 ∧ zx 0 p f a + zx 1 p f b + zx 2 p f c = rest ∧ toN T (1 <<< n) a b c = t
variable {f : Nat → Int32} {p T n N t : Nat} {rest : Int32}
theorem ibC_ok {a b : Nat} (hx : ¬ zx 0 p f a = -9) (hy : ¬ zx 1 p f b = -9) : ∀ j c, (ibC f p T n t rest a b (zx 0 p f a) (zx 1 p f b) j c = none ∧ ∀ c', c ≤ c' → c' < c + j → ¬ Cn f p T n t rest a b c') ∨ ∃ c', c ≤ c' ∧ c' < c + j ∧ ibC f p T n t rest a b (zx 0 p f a) (zx 1 p f b) j c = some (a, b, c') ∧ Cn f p T n t rest a b c' ∧ ∀ c'', c ≤ c'' → c'' < c' → ¬ Cn f p T n t rest a b c'' := by
  intro j
  induction j with
  | zero => intro c; exact Or.inl ⟨rfl, fun c' h1 h2 => absurd h2 (by omega)⟩
  | succ j ih =>
    intro c
    have e : ibC f p T n t rest a b (zx 0 p f a) (zx 1 p f b) (j + 1) c = if zx 0 p f a + zx 1 p f b + zx 2 p f c = rest ∧ ¬ zx 2 p f c = -9 ∧ toN T (1 <<< n) a b c = t then some (a, b, c) else ibC f p T n t rest a b (zx 0 p f a) (zx 1 p f b) j (c + 1) := rfl
    rw [e]
    by_cases hc : zx 0 p f a + zx 1 p f b + zx 2 p f c = rest ∧ ¬ zx 2 p f c = -9 ∧ toN T (1 <<< n) a b c = t
    · rw [if_pos hc]
      exact Or.inr ⟨c, by omega, by omega, rfl, ⟨hx, hy, hc.2.1, hc.1, hc.2.2⟩, fun c'' h1 h2 => absurd h2 (by omega)⟩
    · rw [if_neg hc]
      have hno : ¬ Cn f p T n t rest a b c := fun z => hc ⟨z.2.2.2.1, z.2.2.1, z.2.2.2.2⟩
      rcases ih (c + 1) with ⟨h1, h2⟩ | ⟨c', h1, h2, h3, h4, h5⟩
      · refine Or.inl ⟨h1, fun c' h3 h4 => ?_⟩
        by_cases e2 : c' = c
        · rw [e2]; exact hno
        · exact h2 c' (by omega) (by omega)
      · refine Or.inr ⟨c', by omega, by omega, h3, h4, fun c'' h6 h7 => ?_⟩
        by_cases e2 : c'' = c
        · rw [e2]; exact hno
        · exact h5 c'' (by omega) h7
theorem ibY_ok {a b : Nat} (hx : ¬ zx 0 p f a = -9) (hpr : ∀ c, c < zfs 2 p N → Cn f p T n t rest a b c → ¬ rest < zx 0 p f a + zx 1 p f b) : (ibY f p T n N t rest a b (zx 0 p f a) (zx 1 p f b) = none ∧ ∀ c', c' < zfs 2 p N → ¬ Cn f p T n t rest a b c') ∨ ∃ c', c' < zfs 2 p N ∧ ibY f p T n N t rest a b (zx 0 p f a) (zx 1 p f b) = some (a, b, c') ∧ Cn f p T n t rest a b c' ∧ ∀ c'', c'' < c' → ¬ Cn f p T n t rest a b c'' := by
  unfold ibY
  by_cases hy : zx 1 p f b = -9 ∨ rest < zx 0 p f a + zx 1 p f b
  · rw [if_pos hy]
    refine Or.inl ⟨rfl, fun c' hc' hC => ?_⟩
    rcases hy with h | h
    · exact hC.2.1 h
    · exact hpr c' hc' hC h
  · rw [if_neg hy]
    rcases ibC_ok (T := T) (n := n) (t := t) (rest := rest) hx (fun z => hy (Or.inl z)) (zfs 2 p N) 0 with ⟨h1, h2⟩ | ⟨c', h1, h2, h3, h4, h5⟩
    · exact Or.inl ⟨h1, fun c' h => h2 c' (Nat.zero_le _) (by omega)⟩
    · exact Or.inr ⟨c', by omega, h3, h4, fun c'' h => h5 c'' (Nat.zero_le _) h⟩
theorem ibB_ok {a : Nat} (hx : ¬ zx 0 p f a = -9) (hpr : ∀ b c, b < zfs 1 p N → c < zfs 2 p N → Cn f p T n t rest a b c → ¬ rest < zx 0 p f a + zx 1 p f b) : ∀ j b, b + j ≤ zfs 1 p N → (ibB f p T n N t rest a (zx 0 p f a) j b = none ∧ ∀ b' c', b ≤ b' → b' < b + j → c' < zfs 2 p N → ¬ Cn f p T n t rest a b' c') ∨ ∃ b' c', b ≤ b' ∧ b' < b + j ∧ c' < zfs 2 p N ∧ ibB f p T n N t rest a (zx 0 p f a) j b = some (a, b', c') ∧ Cn f p T n t rest a b' c' ∧ ∀ b'' c'', b ≤ b'' → c'' < zfs 2 p N → b'' < b' ∨ (b'' = b' ∧ c'' < c') → ¬ Cn f p T n t rest a b'' c'' := by
  intro j
  induction j with
  | zero => intro b _; exact Or.inl ⟨rfl, fun b' c' h1 h2 => absurd h2 (by omega)⟩
  | succ j ih =>
    intro b hbj
    have e : ibB f p T n N t rest a (zx 0 p f a) (j + 1) b = match ibY f p T n N t rest a b (zx 0 p f a) (zx 1 p f b) with
      | some v => some v
      | none => ibB f p T n N t rest a (zx 0 p f a) j (b + 1) := rfl
    rw [e]
    rcases ibY_ok (N := N) (b := b) hx (fun c hc => hpr b c (by omega) hc) with ⟨h1, h2⟩ | ⟨c', h1, h2, h3, h4⟩
    · rw [h1]
      dsimp only
      rcases ih (b + 1) (by omega) with ⟨i1, i2⟩ | ⟨b', c', i1, i2, i3, i4, i5, i6⟩
      · refine Or.inl ⟨i1, fun b' c' h3 h4 h5 => ?_⟩
        by_cases e2 : b' = b
        · rw [e2]; exact h2 c' h5
        · exact i2 b' c' (by omega) (by omega) h5
      · refine Or.inr ⟨b', c', by omega, by omega, i3, i4, i5, fun b'' c'' h5 h6 h7 => ?_⟩
        by_cases e2 : b'' = b
        · rw [e2]; exact h2 c'' h6
        · exact i6 b'' c'' (by omega) h6 h7
    · rw [h2]
      refine Or.inr ⟨b, c', by omega, by omega, h1, rfl, h3, fun b'' c'' h5 h6 h7 => ?_⟩
      rcases h7 with h7 | ⟨rfl, h7⟩
      · omega
      · exact h4 c'' h7
theorem ibA_ok (hpr : ∀ a b c, a < zfs 0 p N → b < zfs 1 p N → c < zfs 2 p N → Cn f p T n t rest a b c → ¬ rest < zx 0 p f a + zx 1 p f b ∧ ¬ rest < zx 0 p f a) : ∀ j a, a + j ≤ zfs 0 p N → (ibA f p T n N t rest j a = none ∧ ∀ a' b' c', a ≤ a' → a' < a + j → b' < zfs 1 p N → c' < zfs 2 p N → ¬ Cn f p T n t rest a' b' c') ∨ ∃ a' b' c', a ≤ a' ∧ a' < a + j ∧ b' < zfs 1 p N ∧ c' < zfs 2 p N ∧ ibA f p T n N t rest j a = some (a', b', c') ∧ Cn f p T n t rest a' b' c' ∧ ∀ a'' b'' c'', a ≤ a'' → b'' < zfs 1 p N → c'' < zfs 2 p N → a'' < a' ∨ (a'' = a' ∧ (b'' < b' ∨ (b'' = b' ∧ c'' < c'))) → ¬ Cn f p T n t rest a'' b'' c'' := by
  intro j
  induction j with
  | zero => intro a _; exact Or.inl ⟨rfl, fun a' b' c' h1 h2 => absurd h2 (by omega)⟩
  | succ j ih =>
    intro a haj
    have e : ibA f p T n N t rest (j + 1) a = match ibX f p T n N t rest a (zx 0 p f a) with
      | some v => some v
      | none => ibA f p T n N t rest j (a + 1) := rfl
    rw [e]
    have hX : (ibX f p T n N t rest a (zx 0 p f a) = none ∧ ∀ b' c', b' < zfs 1 p N → c' < zfs 2 p N → ¬ Cn f p T n t rest a b' c') ∨ ∃ b' c', b' < zfs 1 p N ∧ c' < zfs 2 p N ∧ ibX f p T n N t rest a (zx 0 p f a) = some (a, b', c') ∧ Cn f p T n t rest a b' c' ∧ ∀ b'' c'', c'' < zfs 2 p N → b'' < b' ∨ (b'' = b' ∧ c'' < c') → ¬ Cn f p T n t rest a b'' c'' := by
      unfold ibX
      by_cases hx : zx 0 p f a = -9 ∨ rest < zx 0 p f a
      · rw [if_pos hx]
        refine Or.inl ⟨rfl, fun b' c' hb' hc' hC => ?_⟩
        rcases hx with h | h
        · exact hC.1 h
        · exact (hpr a b' c' (by omega) hb' hc' hC).2 h
      · rw [if_neg hx]
        rcases ibB_ok (N := N) (fun z => hx (Or.inl z)) (fun b c hb hc h => (hpr a b c (by omega) hb hc h).1) (zfs 1 p N) 0 (by omega) with ⟨h1, h2⟩ | ⟨b', c', h1, h2, h3, h4, h5, h6⟩
        · exact Or.inl ⟨h1, fun b' c' h3 h4 => h2 b' c' (Nat.zero_le _) (by omega) h4⟩
        · exact Or.inr ⟨b', c', by omega, h3, h4, h5, fun b'' c'' h7 h8 => h6 b'' c'' (Nat.zero_le _) h7 h8⟩
    rcases hX with ⟨h1, h2⟩ | ⟨b', c', h1, h2, h3, h4, h5⟩
    · rw [h1]
      dsimp only
      rcases ih (a + 1) (by omega) with ⟨i1, i2⟩ | ⟨a', b', c', i1, i2, i3, i4, i5, i6, i7⟩
      · refine Or.inl ⟨i1, fun a' b' c' h3 h4 h5 h6 => ?_⟩
        by_cases e2 : a' = a
        · rw [e2]; exact h2 b' c' h5 h6
        · exact i2 a' b' c' (by omega) (by omega) h5 h6
      · refine Or.inr ⟨a', b', c', by omega, by omega, i3, i4, i5, i6, fun a'' b'' c'' h5 h6 h7 h8 => ?_⟩
        by_cases e2 : a'' = a
        · rw [e2]; exact h2 b'' c'' h6 h7
        · exact i7 a'' b'' c'' (by omega) h6 h7 h8
    · rw [h3]
      refine Or.inr ⟨a, b', c', by omega, by omega, h1, h2, rfl, h4, fun a'' b'' c'' h6 h7 h8 h9 => ?_⟩
      rcases h9 with h9 | ⟨rfl, h9⟩
      · omega
      · exact h5 b'' c'' h8 h9
end BYW
section BYX
variable {m : Nat} {P T K : Nat → Nat} {n B : Nat} {f : Nat → Int32}
/-- a part's value in f -/
theorem Cn_part {k p a : Nat} (hF : FX m P T K n B f) (hB : B < 2 ^ 31) (ha : a < zfs k p (z22 n)) (h9 : ¬ zx k p f a = -9) : ∃ x, x ≤ B ∧ zx k p f a = nI x ∧ dvA k p (LE m P T K n) a x := by
  unfold zfs at ha
  by_cases hk : k < p
  · rw [if_pos hk] at ha
    rw [zx_y hk] at h9 ⊢
    rcases hF a ha with ⟨h1, _⟩ | ⟨v, h1, h2, h3⟩
    · exact absurd h1 h9
    · exact ⟨v, h2, h1, dvA_y hk h3⟩
  · rw [if_neg hk] at ha
    rw [zx_n (by omega)]
    obtain rfl : a = 0 := by omega
    exact ⟨0, Nat.zero_le _, rfl, dvA_n (by omega)⟩
theorem part_Cn {k p a x : Nat} (hF : FX m P T K n B f) (hn : n < 4) (hB : B < 2 ^ 31) (h : dvA k p (LE m P T K n) a x) : a < zfs k p (z22 n) ∧ zx k p f a = nI x ∧ x ≤ B := by
  by_cases hk : k < p
  · have h1 := dvA_y' hk h
    have ha := Dv_lt hn h1.1
    unfold zfs
    rw [if_pos hk, zx_y hk]
    rcases hF a ha with ⟨_, h2⟩ | ⟨v, h2, h3, h4⟩
    · exact absurd h1.1 (h2 x)
    · have := LE_un h1 h4
      subst this
      exact ⟨ha, h2, h3⟩
  · obtain ⟨rfl, rfl⟩ := dvA_n' (by omega) h
    unfold zfs
    rw [if_neg hk, zx_n (by omega)]
    exact ⟨by decide, rfl, Nat.zero_le _⟩
/-- a way is a join of least parts -/
theorem Cn_JL {i t v a b c : Nat} (hF : FX m P T K n B f) (hB : 3 * B + 9 < 2 ^ 31) (hi : i < m) (hK : K i ≤ 9) (hv : v ≤ B) (ht : f t = nI v) (ha : a < zfs 0 (P i) (z22 n)) (hb : b < zfs 1 (P i) (z22 n)) (hc : c < zfs 2 (P i) (z22 n)) (h : Cn f (P i) (T i) n t (f t - nI (K i)) a b c) : JL m P T K n t v (cd i a b c) := by
  obtain ⟨h1, h2, h3, h4, h5⟩ := h
  obtain ⟨x, x1, x2, x3⟩ := Cn_part hF (by omega) ha h1
  obtain ⟨y, y1, y2, y3⟩ := Cn_part hF (by omega) hb h2
  obtain ⟨z, z1, z2, z3⟩ := Cn_part hF (by omega) hc h3
  refine ⟨i, a, b, c, x, y, z, hi, x3, y3, z3, h5.symm, ?_, rfl⟩
  rw [x2, y2, z2, ht, nI_add, nI_add] at h4
  have h6 : nI (x + y + z) + nI (K i) = nI v := by rw [h4, Int32.sub_add_cancel]
  rw [nI_add] at h6
  have := (nI_eq (by omega) (by omega)).mp h6
  omega
theorem JL_Cn {i t v a b c x y z : Nat} (hF : FX m P T K n B f) (hn : n < 4) (hB : 3 * B + 9 < 2 ^ 31) (ht : f t = nI v) (hx : dvA 0 (P i) (LE m P T K n) a x) (hy : dvA 1 (P i) (LE m P T K n) b y) (hz : dvA 2 (P i) (LE m P T K n) c z) (e : t = toN (T i) (1 <<< n) a b c) (ev : v = K i + x + y + z) : a < zfs 0 (P i) (z22 n) ∧ b < zfs 1 (P i) (z22 n) ∧ c < zfs 2 (P i) (z22 n) ∧ Cn f (P i) (T i) n t (f t - nI (K i)) a b c := by
  obtain ⟨a1, a2, a3⟩ := part_Cn hF hn (by omega) hx
  obtain ⟨b1, b2, b3⟩ := part_Cn hF hn (by omega) hy
  obtain ⟨c1, c2, c3⟩ := part_Cn hF hn (by omega) hz
  refine ⟨a1, b1, c1, by rw [a2]; exact nI_m9 (by omega), by rw [b2]; exact nI_m9 (by omega), by rw [c2]; exact nI_m9 (by omega), ?_, e.symm⟩
  rw [a2, b2, c2, ht, nI_add, nI_add, ev, zN_sub (by omega)]
  congr 1
  omega
theorem Cn_pr {i t v : Nat} (hF : FX m P T K n B f) (hn : n < 4) (hB : 3 * B + 9 < 2 ^ 31) (hi : i < m) (hK : K i ≤ 9) (hv : v ≤ B) (ht : f t = nI v) (htz : t < z22 n) : ∀ a b c, a < zfs 0 (P i) (z22 n) → b < zfs 1 (P i) (z22 n) → c < zfs 2 (P i) (z22 n) → Cn f (P i) (T i) n t (f t - nI (K i)) a b c → ¬ f t - nI (K i) < zx 0 (P i) f a + zx 1 (P i) f b ∧ ¬ f t - nI (K i) < zx 0 (P i) f a := by
  intro a b c ha hb hc h
  obtain ⟨h1, h2, h3, h4, h5⟩ := h
  obtain ⟨x, x1, x2, x3⟩ := Cn_part hF (by omega) ha h1
  obtain ⟨y, y1, y2, y3⟩ := Cn_part hF (by omega) hb h2
  obtain ⟨z, z1, z2, z3⟩ := Cn_part hF (by omega) hc h3
  rw [← h4, x2, y2, z2, nI_add, nI_add, nI_ltI (by omega) (by omega), nI_ltI (by omega) (by omega)]
  omega
theorem cd_lt {i a b c i' a' b' c' : Nat} (ha : a < 256) (hb : b < 256) (hc : c < 256) (ha' : a' < 256) (hb' : b' < 256) (hc' : c' < 256) : cd i a b c ≤ cd i' a' b' c' ↔ i < i' ∨ (i = i' ∧ (a < a' ∨ (a = a' ∧ (b < b' ∨ (b = b' ∧ c ≤ c'))))) := by
  unfold cd
  omega
theorem zfs_256 {k p a : Nat} (hn : n < 4) (h : a < zfs k p (z22 n)) : a < 256 := by
  have h1 := z22_lt hn
  unfold zfs at h
  split at h <;> omega
/-- the first way, as the reference finds it, is the least one -/
theorem by_same {t v i a b c : Nat} (hF : FX m P T K n B f) (hn : n < 4) (hB : 3 * B + 9 < 2 ^ 31) (hK : ∀ i, i < m → K i ≤ 9) (htz : t < z22 n) (hv : v ≤ B) (ht : f t = nI v) (hi : i < m) (hJ : JL m P T K n t v (cd i a b c)) (ha : a < 256) (hb : b < 256) (hc : c < 256) (hmin : ∀ g', JL m P T K n t v g' → cd i a b c ≤ g') : ibN f (P i) (T i) (K i) n (z22 n) t = some (a, b, c) ∧ ∀ i', i' < i → ibN f (P i') (T i') (K i') n (z22 n) t = none := by
  have hall : ∀ i', i' < m → (ibN f (P i') (T i') (K i') n (z22 n) t = none ∧ ∀ a' b' c', a' < zfs 0 (P i') (z22 n) → b' < zfs 1 (P i') (z22 n) → c' < zfs 2 (P i') (z22 n) → ¬ Cn f (P i') (T i') n t (f t - nI (K i')) a' b' c') ∨ ∃ a' b' c', a' < zfs 0 (P i') (z22 n) ∧ b' < zfs 1 (P i') (z22 n) ∧ c' < zfs 2 (P i') (z22 n) ∧ ibN f (P i') (T i') (K i') n (z22 n) t = some (a', b', c') ∧ Cn f (P i') (T i') n t (f t - nI (K i')) a' b' c' ∧ ∀ a'' b'' c'', b'' < zfs 1 (P i') (z22 n) → c'' < zfs 2 (P i') (z22 n) → a'' < a' ∨ (a'' = a' ∧ (b'' < b' ∨ (b'' = b' ∧ c'' < c'))) → ¬ Cn f (P i') (T i') n t (f t - nI (K i')) a'' b'' c'' := by
    intro i' hi'
    unfold ibN
    rcases ibA_ok (N := z22 n) (Cn_pr hF hn hB hi' (hK i' hi') hv ht htz) (zfs 0 (P i') (z22 n)) 0 (by omega) with ⟨h1, h2⟩ | ⟨a', b', c', h1, h2, h3, h4, h5, h6, h7⟩
    · exact Or.inl ⟨h1, fun a' b' c' h3 h4 h5 => h2 a' b' c' (Nat.zero_le _) (by omega) h4 h5⟩
    · exact Or.inr ⟨a', b', c', by omega, h3, h4, h5, h6, fun a'' b'' c'' h8 h9 h10 => h7 a'' b'' c'' (Nat.zero_le _) h8 h9 h10⟩
  have hcode : ∀ i' a' b' c', i' < m → a' < zfs 0 (P i') (z22 n) → b' < zfs 1 (P i') (z22 n) → c' < zfs 2 (P i') (z22 n) → Cn f (P i') (T i') n t (f t - nI (K i')) a' b' c' → cd i a b c ≤ cd i' a' b' c' := fun i' a' b' c' h1 h2 h3 h4 h5 => hmin _ (Cn_JL hF hB h1 (hK i' h1) hv ht h2 h3 h4 h5)
  refine ⟨?_, fun i' hi' => ?_⟩
  · obtain ⟨i2, a2, b2, c2, x, y, z, hi2, hx, hy, hz, et, ev, eg⟩ := hJ
    obtain ⟨r1, r2, r3, hC⟩ := JL_Cn hF hn hB ht hx hy hz et ev
    have e4 : i = i2 ∧ a = a2 ∧ b = b2 ∧ c = c2 := by
      have q1 := zfs_256 hn r1
      have q2 := zfs_256 hn r2
      have q3 := zfs_256 hn r3
      unfold cd at eg
      omega
    obtain ⟨rfl, rfl, rfl, rfl⟩ := e4
    rcases hall i hi with ⟨_, h2⟩ | ⟨a', b', c', h1, h2, h3, h4, h5, h6⟩
    · exact absurd hC (h2 a b c r1 r2 r3)
    · rw [h4]
      have h7 := hcode i a' b' c' hi h1 h2 h3 h5
      rw [cd_lt ha hb hc (zfs_256 hn h1) (zfs_256 hn h2) (zfs_256 hn h3)] at h7
      have h8 : ¬ (a < a' ∨ (a = a' ∧ (b < b' ∨ (b = b' ∧ c < c')))) := fun z => h6 a b c r2 r3 z hC
      have : a = a' ∧ b = b' ∧ c = c' := by omega
      obtain ⟨rfl, rfl, rfl⟩ := this
      rfl
  · rcases hall i' (by omega) with ⟨h1, _⟩ | ⟨a', b', c', h1, h2, h3, h4, h5, h6⟩
    · exact h1
    · have h7 := hcode i' a' b' c' (by omega) h1 h2 h3 h5
      rw [cd_lt ha hb hc (zfs_256 hn h1) (zfs_256 hn h2) (zfs_256 hn h3)] at h7
      omega
theorem cd_24 {i a b c : Nat} (ha : a < 256) (hb : b < 256) (hc : c < 256) : cd i a b c >>> 24 = i := by
  rw [Nat.shiftRight_eq_div_pow]
  unfold cd
  omega
theorem cd_p {i a b c q : Nat} (ha : a < 256) (hb : b < 256) (hc : c < 256) (hq : q < 3) : (cd i a b c >>> (8 * (2 - q)) &&& 255) = if q = 0 then a else if q = 1 then b else c := by
  rw [show (255 : Nat) = 2 ^ 8 - 1 from rfl, Nat.and_two_pow_sub_one_eq_mod, Nat.shiftRight_eq_div_pow]
  unfold cd
  rcases (show q = 0 ∨ q = 1 ∨ q = 2 by omega) with rfl | rfl | rfl
  · rw [if_pos rfl]
    show (i * 16777216 + a * 65536 + b * 256 + c) / 2 ^ 16 % 2 ^ 8 = a
    omega
  · rw [if_neg (by decide), if_pos rfl]
    show (i * 16777216 + a * 65536 + b * 256 + c) / 2 ^ 8 % 2 ^ 8 = b
    omega
  · rw [if_neg (by decide), if_neg (by decide)]
    show (i * 16777216 + a * 65536 + b * 256 + c) / 2 ^ 0 % 2 ^ 8 = c
    omega
end BYX
