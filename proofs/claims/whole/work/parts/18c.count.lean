/-- a bound by the number of tables found -/
def gk : Nat → Nat
  | 0 => 0
  | k + 1 => 9 + 3 * gk k
theorem gk_mono {a b : Nat} (h : a ≤ b) : gk a ≤ gk b := by
  induction b with
  | zero => rw [show a = 0 by omega]; exact Nat.le_refl _
  | succ b ih =>
    by_cases e : a = b + 1
    · rw [e]; exact Nat.le_refl _
    · have h1 := ih (by omega)
      show gk a ≤ 9 + 3 * gk b
      omega
def fnd (f : Nat → Int32) (t : Nat) : Nat := if f t = -9 then 0 else 1
def cntF (n : Nat) (f : Nat → Int32) : Nat := sm (fnd f) (z22 n)
theorem sm_one : ∀ N, sm (fun _ => 1) N = N := by
  intro N
  induction N with
  | zero => rfl
  | succ N ih => show sm (fun _ => 1) N + 1 = N + 1; rw [ih]
theorem cntF_le {n : Nat} {f : Nat → Int32} : cntF n f ≤ z22 n := by
  have h := sm_le (h := fnd f) (g := fun _ => 1) (z22 n) (fun t _ => by unfold fnd; split <;> omega)
  rw [sm_one] at h
  exact h
section CNT
variable {m : Nat} {P T K : Nat → Nat} {n : Nat}
def CI (m : Nat) (P T K : Nat → Nat) (n B : Nat) (f0 : Nat → Int32) (s : (Nat → Int32) × Bool) : Prop := Wb m P T K n (gk (cntF n s.1)) s.1 ∧ BI m P T K n B f0 s
def Vl (m : Nat) (P T K : Nat → Nat) (n k p a : Nat) (x : Int32) (s : (Nat → Int32) × Bool) : Prop := x = -9 ∨ ∃ w, x = nI w ∧ w ≤ gk (cntF n s.1) ∧ dvA k p (Dv m P T K n) a w
theorem cnt_T {t : Nat} {v : Nat} {s : (Nat → Int32) × Bool} (hv : v < 2 ^ 31) (ht : t < z22 n) : cntF n s.1 ≤ cntF n (fsT t (nI v) s).1 ∧ (s.1 t = -9 → cntF n s.1 + 1 ≤ cntF n (fsT t (nI v) s).1) := by
  unfold fsT
  split
  · have hle : ∀ q, q < z22 n → fnd s.1 q ≤ fnd (fu s.1 t (nI v)) q := fun q _ => by
      unfold fnd fu
      by_cases e : q = t
      · rw [if_pos e, if_neg (nI_m9 hv)]; split <;> omega
      · rw [if_neg e]; exact Nat.le_refl _
    refine ⟨sm_le _ hle, fun h9 => ?_⟩
    exact sm_lt (h := fnd s.1) (g := fnd (fu s.1 t (nI v))) (t0 := t) _ hle ht (by unfold fnd fu; rw [if_pos h9, if_pos rfl, if_neg (nI_m9 hv)]; decide)
  · rename_i hn
    exact ⟨Nat.le_refl _, fun h9 => absurd (Or.inl h9) hn⟩
theorem Vl_T {k p a t v : Nat} {x : Int32} {s : (Nat → Int32) × Bool} (hv : v < 2 ^ 31) (ht : t < z22 n) (h : Vl m P T K n k p a x s) : Vl m P T K n k p a x (fsT t (nI v) s) := by
  rcases h with h | ⟨w, h1, h2, h3⟩
  · exact Or.inl h
  · exact Or.inr ⟨w, h1, Nat.le_trans h2 (gk_mono (cnt_T hv ht).1), h3⟩
theorem CI_Z {f0 : Nat → Int32} {s : (Nat → Int32) × Bool} {i a b c : Nat} {x y z : Int32} (hn : n < 3) (hi : i < m) (hK : K i ≤ 9) (hI : CI m P T K n (gk 16) f0 s) (hx : Vl m P T K n 0 (P i) a x s) (hy : Vl m P T K n 1 (P i) b y s) (hz : Vl m P T K n 2 (P i) c z s) (hx9 : ¬ x = -9) (hy9 : ¬ y = -9) :
    CI m P T K n (gk 16) f0 (fsZ (P i) (T i) (K i) n a b x y z c s) ∧ Vl m P T K n 0 (P i) a x (fsZ (P i) (T i) (K i) n a b x y z c s) ∧ Vl m P T K n 1 (P i) b y (fsZ (P i) (T i) (K i) n a b x y z c s) := by
  unfold fsZ
  by_cases hz9 : z = -9
  · rw [if_pos hz9]; exact ⟨hI, hx, hy⟩
  · rw [if_neg hz9]
    rcases id hx with h | ⟨w1, rfl, a2, a3⟩
    · exact absurd h hx9
    · rcases id hy with h | ⟨w2, rfl, b2, b3⟩
      · exact absurd h hy9
      · rcases id hz with h | ⟨w3, rfl, c2, c3⟩
        · exact absurd h hz9
        · have hg16 : gk 16 = 193710240 := by decide
          have hz16 : z22 n ≤ 16 := by rcases (show n = 0 ∨ n = 1 ∨ n = 2 by omega) with rfl | rfl | rfl <;> decide
          have hc16 := cntF_le (n := n) (f := s.1)
          have hgc : gk (cntF n s.1) ≤ gk 16 := gk_mono (by omega)
          rw [nI_add, nI_add, nI_add]
          have hd : Dv m P T K n (toN (T i) (1 <<< n) a b c) (K i + w1 + w2 + w3) := (Dv_cl m P T K n).2 i a b c w1 w2 w3 hi a3 b3 c3
          have hv : K i + w1 + w2 + w3 < 2 ^ 31 := by omega
          have ht : toN (T i) (1 <<< n) a b c < z22 n := toN_z22
          have hct := cnt_T (s := s) hv ht
          have hc2 := cntF_le (n := n) (f := (fsT (toN (T i) (1 <<< n) a b c) (nI (K i + w1 + w2 + w3)) s).1)
          have hvg : s.1 (toN (T i) (1 <<< n) a b c) = -9 → K i + w1 + w2 + w3 ≤ gk (cntF n (fsT (toN (T i) (1 <<< n) a b c) (nI (K i + w1 + w2 + w3)) s).1) := fun h9 => by
            have h1 : gk (cntF n s.1 + 1) ≤ _ := gk_mono (hct.2 h9)
            have h2 : gk (cntF n s.1 + 1) = 9 + 3 * gk (cntF n s.1) := rfl
            omega
          refine ⟨⟨?_, fsT_BI (by omega) hI.2 ht hv hd (fun h9 => Nat.le_trans (hvg h9) (gk_mono (by omega)))⟩, Vl_T hv ht hx, Vl_T hv ht hy⟩
          have hmono := gk_mono hct.1
          intro q hq
          generalize hgg : gk (cntF n (fsT (toN (T i) (1 <<< n) a b c) (nI (K i + w1 + w2 + w3)) s).1) = G at hmono hvg ⊢
          have hWq := hI.1
          unfold fsT
          split
          · rename_i hcc
            by_cases e : q = toN (T i) (1 <<< n) a b c
            · subst e
              refine Or.inr ⟨K i + w1 + w2 + w3, if_pos rfl, ?_, hd⟩
              rcases hWq _ ht with h | ⟨w, hw, hwB, _⟩
              · exact hvg h
              · rcases hcc with h | h
                · exact hvg h
                · rw [hw, nI_ltI hv (by omega)] at h; omega
            · show fu s.1 _ _ q = -9 ∨ ∃ v, fu s.1 _ _ q = nI v ∧ v ≤ G ∧ Dv m P T K n q v
              unfold fu
              rw [if_neg e]
              rcases hWq q hq with h | ⟨w, hw, hwB, hwd⟩
              · exact Or.inl h
              · exact Or.inr ⟨w, hw, by omega, hwd⟩
          · rcases hWq q hq with h | ⟨w, hw, hwB, hwd⟩
            · exact Or.inl h
            · exact Or.inr ⟨w, hw, by omega, hwd⟩
theorem Vl_zx {B : Nat} {f0 : Nat → Int32} {s : (Nat → Int32) × Bool} {k p a : Nat} (hI : CI m P T K n B f0 s) (ha : a < zfs k p (z22 n)) : Vl m P T K n k p a (zx k p s.1 a) s := by
  unfold zfs at ha
  unfold zx
  by_cases hk : k < p
  · rw [if_pos hk] at ha
    rw [if_pos hk]
    rcases hI.1 a ha with h | ⟨w, h1, h2, h3⟩
    · exact Or.inl h
    · exact Or.inr ⟨w, h1, h2, dvA_y hk h3⟩
  · rw [if_neg hk] at ha
    rw [if_neg hk]
    obtain rfl : a = 0 := by omega
    exact Or.inr ⟨0, rfl, Nat.zero_le _, dvA_n (by omega)⟩
theorem CI_W {f0 f : Nat → Int32} (hn : n < 3) (hK : ∀ i, i < m → K i ≤ 9) (hI : CI m P T K n (gk 16) f0 (f, false)) : CI m P T K n (gk 16) f0 (fsW m P T K n (z22 n) f) := by
  unfold fsW
  refine zfor_inv (I := CI m P T K n (gk 16) f0) _ _ _ (fun i s _ hi hs => ?_) hI
  have hKi := hK i (by omega)
  unfold fsI
  refine zfor_inv (I := CI m P T K n (gk 16) f0) _ _ _ (fun a s _ ha hs => ?_) hs
  unfold fsA
  have hx := Vl_zx (k := 0) (p := P i) (a := a) hs (by omega)
  generalize zx 0 (P i) s.1 a = x at hx
  unfold fsX
  by_cases hx9 : x = -9
  · rw [if_pos hx9]; exact hs
  · rw [if_neg hx9]
    refine (zfor_inv (I := fun s => CI m P T K n (gk 16) f0 s ∧ Vl m P T K n 0 (P i) a x s) _ _ _ (fun b s _ hb hs => ?_) ⟨hs, hx⟩).1
    unfold fsB
    have hy := Vl_zx (k := 1) (p := P i) (a := b) hs.1 (by omega)
    generalize zx 1 (P i) s.1 b = y at hy
    unfold fsY
    by_cases hy9 : y = -9
    · rw [if_pos hy9]; exact hs
    · rw [if_neg hy9]
      have h3 := zfor_inv (I := fun s => CI m P T K n (gk 16) f0 s ∧ Vl m P T K n 0 (P i) a x s ∧ Vl m P T K n 1 (P i) b y s) (f := fsC (P i) (T i) (K i) n a b x y) (zfs 2 (P i) (z22 n)) 0 s (fun c s _ hc hs => CI_Z hn (by omega) hKi hs.1 hs.2.1 hs.2.2 (Vl_zx hs.1 (by omega)) hx9 hy9) ⟨hs.1, hs.2, hy⟩
      exact ⟨h3.1, h3.2.1⟩
/-- finds for one and two places -/
theorem finds_12 {f : Nat → Int32} (hn : n < 3) (hK : ∀ i, i < m → K i ≤ 9) (hW : Wb m P T K n 0 f) (hP : PLf n f) : ∃ k, fsOK m P T K n (z22 n) k f ∧ FX m P T K n (gk 16) (fsR m P T K n (z22 n) k f) := by
  have hg16 : gk 16 = 193710240 := by decide
  have hup : ∀ B, Wb m P T K n B f := fun B t ht => by
    rcases hW t ht with h | ⟨v, h1, h2, h3⟩
    · exact Or.inl h
    · exact Or.inr ⟨v, h1, by omega, h3⟩
  refine ⟨sm (mh (gk 16) f) (z22 n) + 1, finds_ok (IV := fun f => Wb m P T K n (gk (cntF n f)) f) (by omega) (by omega) hK (fun f h1 h2 h3 => ?_) _ f (hup _) (hup _) hP (by omega)⟩
  have h4 := CI_W (f0 := f) hn hK ⟨h1, h2, h3, Nat.le_refl _, fun z => by cases z⟩
  exact h4
end CNT
