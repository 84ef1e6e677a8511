section STA
variable {m : Nat} {P T K : Nat → Nat} {n B rc N : Nat}
theorem t0_cut : ∀ n, n < 4 → ∀ t, t < 2 → (t * zFF &&& (z22 n - 1)) = toN t (1 <<< n) 0 0 0 := by decide +kernel
theorem cd_0 (i : Nat) : i <<< 24 = cd i 0 0 0 := by
  rw [Nat.shiftLeft_eq]
  unfold cd
  omega
/-- a sign of no places -/
theorem JL_0 {i : Nat} (hi : i < m) (h0 : P i = 0) : JL m P T K n (toN (T i) (1 <<< n) 0 0 0) (K i) (cd i 0 0 0) := ⟨i, 0, 0, 0, 0, 0, 0, hi, dvA_n (by omega), dvA_n (by omega), dvA_n (by omega), rfl, rfl, rfl⟩
theorem bg3_ok (hL : HL m P T K n B) (hN : N = z22 n) : ∀ (j i : Nat) (M : zM), i + j = m → (∀ q, q < N → SO m P T K n rc M q) → (∀ q, q < N → SO m P T K n rc (bg3 rc N P T K j i M) q) ∧ Tr rc M (bg3 rc N P T K j i M) ∧ ∀ i', i ≤ i' → i' < m → P i' = 0 → CV rc (bg3 rc N P T K j i M) (toN (T i') (1 <<< n) 0 0 0) (K i') (cd i' 0 0 0) := by
  intro j
  induction j with
  | zero => intro i M hj hS; exact ⟨hS, Tr_rf, fun i' h1 h2 => absurd h2 (by omega)⟩
  | succ j ih =>
    intro i M hj hS
    have hi : i < m := by omega
    have e : bg3 rc N P T K (j + 1) i M = bg3 rc N P T K j (i + 1) (if P i = 0 then ofM rc N M (T i * zFF) (nI (K i)) (i <<< 24) else M) := rfl
    rw [e]
    by_cases h0 : P i = 0
    · rw [if_pos h0]
      have hR := hL.2.2.2.1 i hi
      have hT : T i < 2 := by have := hR.2.1; rw [h0] at this; exact this
      have et : (T i * zFF &&& (N - 1)) = toN (T i) (1 <<< n) 0 0 0 := by rw [hN]; exact t0_cut n hL.2.2.1 _ hT
      have hJ : JL m P T K n (T i * zFF &&& (N - 1)) (K i) (i <<< 24) := by rw [et, cd_0]; exact JL_0 hi h0
      have hv := JL_B hL hJ
      have ht : (T i * zFF &&& (N - 1)) < N := by rw [et, hN]; exact toN_z22
      obtain ⟨i1, i2, i3⟩ := ih (i + 1) (ofM rc N M (T i * zFF) (nI (K i)) (i <<< 24)) (by omega) (fun q hq => of_SO hJ (hS q hq))
      have h2 : Tr rc M (ofM rc N M (T i * zFF) (nI (K i)) (i <<< 24)) := fun q v g h => of_mono hv.2.1 h
      refine ⟨i1, Tr_tr h2 i2, fun i' h3 h4 h5 => ?_⟩
      by_cases ei : i' = i
      · rw [ei]
        rw [← et, ← cd_0]
        exact i2 _ _ _ (of_CV hL hv.2.1 (hS _ ht))
      · exact i3 i' (by omega) h4 h5
    · rw [if_neg h0]
      obtain ⟨i1, i2, i3⟩ := ih (i + 1) M (by omega) hS
      refine ⟨i1, i2, fun i' h3 h4 h5 => ?_⟩
      by_cases ei : i' = i
      · rw [ei] at h5; exact absurd h5 h0
      · exact i3 i' (by omega) h4 h5
theorem bg2_at {q : Nat} : ∀ (j i : Nat) (M : zM), bg2 rc N j i M (rc + 1) q = nI 0 ∧ (∃ k, i ≤ k ∧ k < i + j ∧ q = (zpl k &&& (N - 1))) ∨ bg2 rc N j i M (rc + 1) q = M (rc + 1) q ∧ ∀ k, i ≤ k → k < i + j → ¬ q = (zpl k &&& (N - 1)) := by
  intro j
  induction j with
  | zero => intro i M; exact Or.inr ⟨rfl, fun k h1 h2 => absurd h2 (by omega)⟩
  | succ j ih =>
    intro i M
    have e : bg2 rc N (j + 1) i M = bg2 rc N j (i + 1) (zup M (rc + 1) (zpl i &&& (N - 1)) (nI 0)) := rfl
    rw [e]
    rcases ih (i + 1) (zup M (rc + 1) (zpl i &&& (N - 1)) (nI 0)) with ⟨h1, k, h2, h3, h4⟩ | ⟨h1, h2⟩
    · exact Or.inl ⟨h1, k, by omega, by omega, h4⟩
    · by_cases hq : q = (zpl i &&& (N - 1))
      · refine Or.inl ⟨?_, i, by omega, by omega, hq⟩
        rw [h1]
        unfold zup
        rw [if_pos rfl, if_pos hq]
      · refine Or.inr ⟨?_, fun k h3 h4 => ?_⟩
        · rw [h1]
          unfold zup
          rw [if_pos rfl, if_neg hq]
        · by_cases ek : k = i
          · rw [ek]; exact hq
          · exact h2 k (by omega) (by omega)
/-- begin: nothing is settled, and all is told that there is to tell -/
theorem bg_EX {M : zM} (hL : HL m P T K n B) (hN : N = z22 n) (hF : M rc 1 = nI (N - 1)) : EX m P T K n rc N 0 (fun _ => 0) (fun _ => 0) (bgM rc n N m P T K M) := by
  have hn := hL.2.2.1
  have hrc := bgM_rc (rc := rc) (n := n) (N := N) (m := m) (P := P) (T := T) (K := K) (M := M)
  have h3 : ∀ q, q < N → bgM rc n N m P T K M (rc + 3) q = nI 0 := fun q hq => by
    unfold bgM
    rw [bg3_ne (by omega) (by omega), bg2_ne (by omega)]
    unfold bgF
    rw [if_pos ⟨by omega, by omega⟩, if_neg (by omega), if_neg (by omega), if_pos rfl]
  have hS0 : ∀ q, q < N → SO m P T K n rc (bg2 rc N n 0 (bgF rc (zup M rc 7 (nI 0)) 0 N)) q ∧ ∀ i, i < n → q = plN n i → bg2 rc N n 0 (bgF rc (zup M rc 7 (nI 0)) 0 N) (rc + 1) q = nI 0 ∧ bg2 rc N n 0 (bgF rc (zup M rc 7 (nI 0)) 0 N) (rc + 2) q = -1 := fun q hq => by
    have hw : bg2 rc N n 0 (bgF rc (zup M rc 7 (nI 0)) 0 N) (rc + 2) q = -1 := by
      rw [bg2_ne (by omega)]
      unfold bgF
      rw [if_pos ⟨by omega, by omega⟩, if_neg (by omega), if_pos rfl]
    have hc : bgF rc (zup M rc 7 (nI 0)) 0 N (rc + 1) q = nI 1073741824 := by
      unfold bgF
      rw [if_pos ⟨by omega, by omega⟩, if_pos rfl]
    rcases bg2_at (rc := rc) (N := N) (q := q) n 0 (bgF rc (zup M rc 7 (nI 0)) 0 N) with ⟨h1, k, h2, h4, h5⟩ | ⟨h1, h2⟩
    · exact ⟨Or.inr (Or.inl ⟨h1, hw, k, by omega, by rw [h5, hN]; exact (pl_pl n hn k (by omega)).symm⟩), fun i hi _ => ⟨h1, hw⟩⟩
    · refine ⟨Or.inl ⟨h1.trans hc, hw⟩, fun i hi e => absurd ?_ (h2 i (Nat.zero_le _) (by omega))⟩
      rw [e, hN]
      exact pl_pl n hn i hi
  obtain ⟨b1, b2, b3⟩ := bg3_ok (rc := rc) (N := N) hL hN m 0 (bg2 rc N n 0 (bgF rc (zup M rc 7 (nI 0)) 0 N)) (by omega) (fun q hq => (hS0 q hq).1)
  have eM : bg3 rc N P T K m 0 (bg2 rc N n 0 (bgF rc (zup M rc 7 (nI 0)) 0 N)) = bgM rc n N m P T K M := rfl
  rw [eM] at b1 b2 b3
  refine ⟨b1, fun k hk => absurd hk (by omega), fun k k' _ hk => absurd hk (by omega), fun k q x hk => absurd hk (by omega), fun q hq => Or.inr ⟨h3 q hq, fun k hk => absurd hk (by omega)⟩, fun i a b c x y z hi ha hb hc => ?_, fun i hi => ?_, ?_, ?_, ?_⟩
  · by_cases h0 : P i = 0
    · obtain ⟨rfl, rfl⟩ := dvA_n' (by omega) ha
      obtain ⟨rfl, rfl⟩ := dvA_n' (by omega) hb
      obtain ⟨rfl, rfl⟩ := dvA_n' (by omega) hc
      exact b3 i (Nat.zero_le _) hi h0
    · obtain ⟨k, hk, _⟩ := dvA_y' (by omega) ha
      exact absurd hk (by omega)
  · have hpN : plN n i < N := by rw [hN]; exact plN_z22 n hn i hi
    have hp := (hS0 _ hpN).2 i hi rfl
    have h0 : CV rc (bg2 rc N n 0 (bgF rc (zup M rc 7 (nI 0)) 0 N)) (plN n i) 0 0 := ⟨0, hp.1, by decide, Or.inr ⟨rfl, by rw [hp.2]; exact nI_nlt1 (by decide)⟩⟩
    obtain ⟨v', c1, c2, c3⟩ := b2 _ _ _ h0
    have hv0 : v' = 0 := by rcases c3 with c3 | c3 <;> omega
    rw [hv0] at c1
    refine ⟨c1, ?_⟩
    rcases b1 _ hpN with ⟨h1, _⟩ | ⟨_, h1, _⟩ | ⟨v, g, h1, _, h2⟩
    · exact absurd ((nI_eq (by decide) (by decide)).mp (c1.symm.trans h1)) (by decide)
    · exact h1
    · have h3 := JL_B hL h2
      have := (nI_eq (by decide) (by omega)).mp (c1.symm.trans h1)
      omega
  · rw [hrc, if_neg (by decide)]; exact hF
  · have : ∀ j, j ≤ N → sm (sM rc (bgM rc n N m P T K M)) j = 0 := by
      intro j
      induction j with
      | zero => intro _; rfl
      | succ j ih =>
        intro hj
        show sm _ j + sM rc (bgM rc n N m P T K M) j = 0
        rw [ih (by omega)]
        unfold sM
        rw [h3 j (by omega), nI_clamp (by decide)]
    exact this N (Nat.le_refl _)
  · rw [hrc, if_pos rfl]
theorem RX_8 {M : zM} {x : Int32} (h : RX m P T K n B rc N M) : RX m P T K n B rc N (zup M rc 8 x) := by
  have m1 : ∀ a q, rc < a → zup M rc 8 x a q = M a q := fun a q h => by unfold zup; rw [if_neg (by omega)]
  refine ⟨fun q hq => ?_, ?_⟩
  · rw [m1 _ _ (by omega), m1 _ _ (by omega)]
    exact h.1 q hq
  · have e : zup M rc 8 x rc 7 = M rc 7 := by unfold zup; rw [if_pos rfl, if_neg (by decide)]
    rw [e, h.2]
    congr 2
    funext q
    rw [m1 _ _ (by omega)]
/-- explore of the class, in the end -/
theorem ex_RX {M : zM} (hL : HL m P T K n B) (hN : N = z22 n) (hF : M rc 1 = nI (N - 1)) : exOK rc N m P T K N 0 (fun _ => 0) (bgM rc n N m P T K M) ∧ RX m P T K n B rc N (zup (exM rc N m P T K N 0 (fun _ => 0) (bgM rc n N m P T K M)) rc 8 (nI 1)) := by
  obtain ⟨h1, h2⟩ := ex_ok (rc := rc) hL hN N 0 (fun _ => 0) (fun _ => 0) _ (by omega) (bg_EX hL hN hF)
  exact ⟨h1, RX_8 (FN_RX hL hN h2)⟩
/-- the start of finds -/
theorem fi0_at {q : Nat} : ∀ (j i : Nat) (f : Nat → Int32), (i ≤ q ∧ q < i + j → fi0 j i f q = -9) ∧ (¬ (i ≤ q ∧ q < i + j) → fi0 j i f q = f q) := by
  intro j
  induction j with
  | zero => intro i f; exact ⟨fun h => absurd h (by omega), fun _ => rfl⟩
  | succ j ih =>
    intro i f
    obtain ⟨h1, h2⟩ := ih (i + 1) (fu f i (-9))
    have e : fi0 (j + 1) i f = fi0 j (i + 1) (fu f i (-9)) := rfl
    rw [e]
    refine ⟨fun h => ?_, fun h => ?_⟩
    · by_cases eq : q = i
      · rw [h2 (by omega)]
        unfold fu
        rw [if_pos eq]
      · exact h1 (by omega)
    · rw [h2 (by omega)]
      unfold fu
      rw [if_neg (by omega)]
theorem fi1_at {q : Nat} : ∀ (j i : Nat) (f : Nat → Int32), (fi1 n j i f q = nI 0 ∧ ∃ k, i ≤ k ∧ k < i + j ∧ q = plN n k) ∨ (fi1 n j i f q = f q ∧ ∀ k, i ≤ k → k < i + j → ¬ q = plN n k) := by
  intro j
  induction j with
  | zero => intro i f; exact Or.inr ⟨rfl, fun k h1 h2 => absurd h2 (by omega)⟩
  | succ j ih =>
    intro i f
    have e : fi1 n (j + 1) i f = fi1 n j (i + 1) (fu f (plN n i) (nI 0)) := rfl
    rw [e]
    rcases ih (i + 1) (fu f (plN n i) (nI 0)) with ⟨h1, k, h2, h3, h4⟩ | ⟨h1, h2⟩
    · exact Or.inl ⟨h1, k, by omega, by omega, h4⟩
    · by_cases hq : q = plN n i
      · refine Or.inl ⟨?_, i, by omega, by omega, hq⟩
        rw [h1]
        unfold fu
        rw [if_pos hq]
      · refine Or.inr ⟨?_, fun k h3 h4 => ?_⟩
        · rw [h1]
          unfold fu
          rw [if_neg hq]
        · by_cases ek : k = i
          · rw [ek]; exact hq
          · exact h2 k (by omega) (by omega)
theorem fi_W {f : Nat → Int32} : Wb m P T K n 0 (fi1 n n 0 (fi0 (z22 n) 0 f)) ∧ PLf n (fi1 n n 0 (fi0 (z22 n) 0 f)) := by
  refine ⟨fun t ht => ?_, fun i hi => ?_⟩
  · rcases fi1_at (n := n) (q := t) n 0 (fi0 (z22 n) 0 f) with ⟨h1, k, _, h2, h3⟩ | ⟨h1, _⟩
    · refine Or.inr ⟨0, h1, Nat.le_refl _, ?_⟩
      rw [h3]
      exact (Dv_cl m P T K n).1 k (by omega)
    · refine Or.inl (h1.trans ((fi0_at (z22 n) 0 f).1 ⟨Nat.zero_le _, by omega⟩))
  · rcases fi1_at (n := n) (q := plN n i) n 0 (fi0 (z22 n) 0 f) with ⟨h1, _⟩ | ⟨_, h2⟩
    · exact h1
    · exact absurd rfl (h2 i (Nat.zero_le _) (by omega))
end STA
