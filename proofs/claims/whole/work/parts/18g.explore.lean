section DIK
variable {m : Nat} {P T K : Nat → Nat} {n B rc N : Nat}
theorem zoo_lt {o : Nat → Nat} {s b k : Nat} (h : k < s) : zoo o s b k = o k := if_neg (by omega)
theorem zoo_eq {o : Nat → Nat} {s b : Nat} : zoo o s b s = b := if_pos rfl
theorem SE_split {s b cb a x : Nat} {o cs : Nat → Nat} (h : SE (s + 1) (zoo o s b) (zoo cs s cb) a x) : (a = b ∧ x = cb) ∨ SE s o cs a x := by
  obtain ⟨k, hk, h1, h2⟩ := h
  by_cases e : k = s
  · subst e
    rw [zoo_eq] at h1 h2
    exact Or.inl ⟨h1.symm, h2.symm⟩
  · rw [zoo_lt (by omega)] at h1 h2
    exact Or.inr ⟨k, by omega, h1, h2⟩
theorem SE_dv {s b cb a x k p : Nat} {o cs : Nat → Nat} (h : dvA k p (SE (s + 1) (zoo o s b) (zoo cs s cb)) a x) : (k < p ∧ a = b ∧ x = cb) ∨ dvA k p (SE s o cs) a x := by
  by_cases hk : k < p
  · rcases SE_split (dvA_y' hk h) with h1 | h1
    · exact Or.inl ⟨hk, h1⟩
    · exact Or.inr (dvA_y hk h1)
  · obtain ⟨rfl, rfl⟩ := dvA_n' (by omega) h
    exact Or.inr (dvA_n (by omega))
theorem CV_cg {M M1 : zM} {q v g : Nat} (h1 : M1 (rc + 1) q = M (rc + 1) q) (h2 : M1 (rc + 2) q = M (rc + 2) q) (h : CV rc M q v g) : CV rc M1 q v g := by
  unfold CV
  rw [h1, h2]
  exact h
theorem SO_cg {M M1 : zM} {q : Nat} (h1 : M1 (rc + 1) q = M (rc + 1) q) (h2 : M1 (rc + 2) q = M (rc + 2) q) (h : SO m P T K n rc M q) : SO m P T K n rc M1 q := by
  unfold SO
  rw [h1, h2]
  exact h
theorem nI_nlt1 {g : Nat} (h : g < 2 ^ 31) : ¬ nI g < -1 := fun z => nI_pos h (Int32.lt_trans z (by decide))
theorem ex_step {s b dr : Nat} {o cs : Nat → Nat} {M : zM} (hL : HL m P T K n B) (hN : N = z22 n) (hE : EX m P T K n rc N s o cs M) (hco : coN (cM rc M) (sM rc M) N 0 none 0 = (some b, dr)) : EX m P T K n rc N (s + 1) (zoo o s b) (zoo cs s (cM rc M b)) (spM rc N m P T K s o b dr M) := by
  have hS := EX_rcS hL hE
  have hck := coN_ok (c := cM rc M) (st := sM rc M) (N := N) (fun q hq => (hS.2 q hq).2.1) N 0 none 0 (by omega) (by decide) (fun q hq => absurd hq (by omega)) (fun _ q hq => absurd hq (by omega)) (fun b h => by cases h)
  rw [hco] at hck
  obtain ⟨k1, k2, -, k4⟩ := hck
  dsimp only at k1 k2 k4
  obtain ⟨hbN, hb30, hb0, hbm⟩ := k4 b rfl
  have hdj := dj (X := cM rc M b) hL hN hE
  obtain ⟨e1, e2, e3, e4, e5, e6, e7, e8, e9, e10⟩ := hE
  have hbS := hS.2 b hbN
  have hcb := hbS.1
  have hb30' := hbS.2.1
  generalize hcbe : cM rc M b = cb at *
  have hun : ∀ k, k < s → ¬ o k = b := by
    rcases e5 b hbN with ⟨h1, _⟩ | ⟨_, h1⟩
    · rw [hbS.2.2.1, hb0] at h1
      exact absurd h1 (by decide)
    · exact h1
  have hX : ∀ q x, q < N → (∀ k', k' < s → ¬ o k' = q) → M (rc + 1) q = nI x → x ≤ 1073741824 → cb ≤ x := by
    intro q x hq hu hx hx30
    have hq2 := hS.2 q hq
    have hcq : cM rc M q = x := by unfold cM; rw [hx, nI_clamp (by omega)]
    by_cases e : x = 1073741824
    · omega
    · have hst : sM rc M q = 0 := by
        rcases e5 q hq with ⟨_, k, hk, hk2⟩ | ⟨h1, _⟩
        · exact absurd hk2 (hu k hk)
        · unfold sM; rw [h1, nI_clamp (by decide)]
      have := hbm q hq (by rw [hcq]; exact e) hst
      omega
  have hdj := hdj hX
  have hLb : LE m P T K n b cb := by
    refine ⟨?_, fun v' hv' => ?_⟩
    · rcases e1 b hbN with ⟨h1, _⟩ | ⟨h1, _, i, hi, h2⟩ | ⟨v, g, h1, _, h2⟩
      · exact absurd ((nI_eq (by omega) (by decide)).mp (hcb.symm.trans h1)) hb30
      · rw [(nI_eq (by omega) (by decide)).mp (hcb.symm.trans h1), h2]
        exact (Dv_cl m P T K n).1 i hi
      · have h3 := JL_B hL h2
        rw [(nI_eq (by omega) (by omega)).mp (hcb.symm.trans h1)]
        exact h3.2.2.2
    · rcases hdj b v' hv' with ⟨k, hk, hk2, _⟩ | h
      · exact absurd hk2 (hun k hk)
      · exact h
  have hcsb : ∀ k, k < s → cs k ≤ cb := fun k hk => e4 k b cb hk hbN hun hcb hb30'
  have hST : ST m P T K n N (s + 1) (zoo o s b) (zoo cs s cb) cb dr := by
    refine ⟨fun k hk => ?_, fun k k' h1 h2 => ?_, k1, hN⟩
    · by_cases e : k = s
      · rw [e, zoo_eq, zoo_eq]; exact ⟨hbN, hLb, Nat.le_refl _⟩
      · rw [zoo_lt (by omega), zoo_lt (by omega)]
        exact ⟨(e2 k (by omega)).1, (e2 k (by omega)).2.1, hcsb k (by omega)⟩
    · by_cases e : k' = s
      · rw [e, zoo_eq]
        by_cases e' : k = s
        · rw [e', zoo_eq]; exact Nat.le_refl _
        · rw [zoo_lt (by omega)]; exact hcsb k (by omega)
      · rw [zoo_lt (by omega), zoo_lt (by omega)]; exact e3 k k' h1 (by omega)
  have hSEb : SE (s + 1) (zoo o s b) (zoo cs s cb) b cb := ⟨s, by omega, zoo_eq, zoo_eq⟩
  unfold spM
  generalize hM1 : zup (zup (zup (zup M rc 6 (nI dr)) (rc + 3) b (nI 1)) (rc + 4) s (nI b)) rc 7 (nI (s + 1)) = M1
  have m1 : ∀ q, M1 (rc + 1) q = M (rc + 1) q := fun q => by
    rw [← hM1]; unfold zup; rw [if_neg (by omega), if_neg (by omega), if_neg (by omega), if_neg (by omega)]
  have m2 : ∀ q, M1 (rc + 2) q = M (rc + 2) q := fun q => by
    rw [← hM1]; unfold zup; rw [if_neg (by omega), if_neg (by omega), if_neg (by omega), if_neg (by omega)]
  have m3 : ∀ q, M1 (rc + 3) q = if q = b then nI 1 else M (rc + 3) q := fun q => by
    rw [← hM1]; unfold zup; rw [if_neg (by omega), if_neg (by omega), if_pos rfl, if_neg (show ¬ rc + 3 = rc by omega)]
  have hPI : PI m P T K n rc N (s + 1) (zoo o s b) (zoo cs s cb) dr M1 := by
    refine ⟨fun q hq => SO_cg (m1 q) (m2 q) (e1 q hq), fun k hk => ?_, fun q hq => ?_⟩
    · rw [m1]
      by_cases e : k = s
      · rw [e, zoo_eq, zoo_eq]; exact hcb
      · rw [zoo_lt (by omega), zoo_lt (by omega)]; exact (e2 k (by omega)).2.2
    · rw [m1]
      exact ⟨cM rc M q, k2 q hq, (hS.2 q hq).1⟩
  obtain ⟨j1, j2, j3⟩ := js_ok hL hST hSEb m 0 M1 (by omega) hPI
  have hne : ∀ a x, ¬ a = rc + 1 → ¬ a = rc + 2 → jsM rc N (s + 1) (zoo o s b) (nI dr) P T K b m 0 M1 a x = M1 a x := fun a x h1 h2 => jsM_ne h1 h2 x _ _ _
  generalize jsM rc N (s + 1) (zoo o s b) (nI dr) P T K b m 0 M1 = M2 at *
  refine ⟨j1.1, fun k hk => ⟨(hST.1 k hk).1, (hST.1 k hk).2.1, j1.2.1 k hk⟩, hST.2.1, fun k q x hk hq hu hx hx30 => ?_, fun q hq => ?_, fun i a b' c x y z hi ha hb hc => ?_, fun i hi => ?_, ?_, ?_, ?_⟩
  · have hkb := (hST.1 k hk).2.2
    have huo : ∀ k', k' < s → ¬ o k' = q := fun k' hk' h => hu k' (by omega) (by rw [zoo_lt hk']; exact h)
    refine Nat.le_trans hkb ?_
    rcases j1.1 q hq with ⟨h1, _⟩ | ⟨h1, _, i, hi, h2⟩ | ⟨v, g, h1, _, h2⟩
    · have := (nI_eq (by omega) (by decide)).mp (hx.symm.trans h1); omega
    · have h3 := hX q 0 hq huo (by rw [h2]; exact (e7 i hi).1) (by decide)
      omega
    · have h3 := JL_B hL h2
      have h4 := (nI_eq (by omega) (by omega)).mp (hx.symm.trans h1)
      rcases hdj q v h3.2.2.2 with ⟨k', hk', hk2, _⟩ | h5
      · exact absurd hk2 (huo k' hk')
      · omega
  · rw [hne _ _ (by omega) (by omega), m3]
    by_cases e : q = b
    · rw [if_pos e]
      exact Or.inl ⟨rfl, s, by omega, by rw [zoo_eq, e]⟩
    · rw [if_neg e]
      rcases e5 q hq with ⟨h1, k, hk, hk2⟩ | ⟨h1, h2⟩
      · exact Or.inl ⟨h1, k, by omega, by rw [zoo_lt hk]; exact hk2⟩
      · refine Or.inr ⟨h1, fun k hk => ?_⟩
        by_cases e' : k = s
        · rw [e', zoo_eq]; exact fun z => e z.symm
        · rw [zoo_lt (by omega)]; exact h2 k (by omega)
  · have hP4 := (hL.2.2.2.1 i hi).1
    rcases SE_dv ha with ⟨hp, rfl, rfl⟩ | ha'
    · exact j3 i 0 (Nat.zero_le _) hi hp b' c y z hb hc
    · rcases SE_dv hb with ⟨hp, rfl, rfl⟩ | hb'
      · have h1 := j3 i 1 (Nat.zero_le _) hi hp a c x z (dvA_y hp (dvA_y' (by omega) ha)) hc
        rw [show K i + x + y + z = K i + y + x + z by omega]
        exact h1
      · rcases SE_dv hc with ⟨hp, rfl, rfl⟩ | hc'
        · have h1 := j3 i 2 (Nat.zero_le _) hi hp a b' x y (dvA_y (by omega) (dvA_y' (by omega) ha)) (dvA_y hp (dvA_y' (by omega) hb))
          rw [show K i + x + y + z = K i + z + x + y by omega]
          exact h1
        · exact j2 _ _ _ (CV_cg (m1 _) (m2 _) (e6 i a b' c x y z hi ha' hb' hc'))
  · have hp := e7 i hi
    have hpN : plN n i < N := by rw [hN]; exact plN_z22 n hL.2.2.1 i hi
    have h0 : CV rc M1 (plN n i) 0 0 := ⟨0, by rw [m1]; exact hp.1, by decide, Or.inr ⟨rfl, by rw [m2, hp.2]; exact nI_nlt1 (by decide)⟩⟩
    obtain ⟨v', c1, c2, c3⟩ := j2 _ _ _ h0
    have hv0 : v' = 0 := by rcases c3 with c3 | c3 <;> omega
    rw [hv0] at c1
    refine ⟨c1, ?_⟩
    rcases j1.1 _ hpN with ⟨h1, _⟩ | ⟨_, h1, _⟩ | ⟨v, g, h1, _, h2⟩
    · exact absurd ((nI_eq (by decide) (by decide)).mp (c1.symm.trans h1)) (by decide)
    · exact h1
    · have h3 := JL_B hL h2
      have := (nI_eq (by decide) (by omega)).mp (c1.symm.trans h1)
      omega
  · rw [hne _ _ (by omega) (by omega), ← hM1]
    unfold zup
    rw [if_pos rfl, if_neg (by decide), if_neg (by omega), if_neg (by omega), if_pos rfl, if_neg (by decide)]
    exact e8
  · have h1 : sM rc M2 b = 1 := by unfold sM; rw [hne _ _ (by omega) (by omega), m3, if_pos rfl, nI_clamp (by decide)]
    have h2 := sm_up (h := sM rc M2) (g := sM rc M) (b := b) N (fun q hq => by
      unfold sM
      rw [hne _ _ (by omega) (by omega), m3, if_neg hq]) hbN (by rw [h1, hb0])
    rw [h2, e9]
  · rw [hne _ _ (by omega) (by omega), ← hM1]
    unfold zup
    rw [if_pos rfl, if_pos rfl]
theorem EX_6 {s : Nat} {o cs : Nat → Nat} {M : zM} {x : Int32} (hE : EX m P T K n rc N s o cs M) : EX m P T K n rc N s o cs (zup M rc 6 x) := by
  have m1 : ∀ a q, rc < a → zup M rc 6 x a q = M a q := fun a q h => by unfold zup; rw [if_neg (by omega)]
  obtain ⟨e1, e2, e3, e4, e5, e6, e7, e8, e9, e10⟩ := hE
  refine ⟨fun q hq => SO_cg (m1 _ q (by omega)) (m1 _ q (by omega)) (e1 q hq), fun k hk => by rw [m1 _ _ (by omega)]; exact e2 k hk, e3, fun k q y h1 h2 h3 h4 => by rw [m1 _ _ (by omega)] at h4; exact e4 k q y h1 h2 h3 h4, fun q hq => by rw [m1 _ _ (by omega)]; exact e5 q hq, fun i a b c x y z h1 h2 h3 h4 => CV_cg (m1 _ _ (by omega)) (m1 _ _ (by omega)) (e6 i a b c x y z h1 h2 h3 h4), fun i hi => by rw [m1 _ _ (by omega), m1 _ _ (by omega)]; exact e7 i hi, ?_, ?_, ?_⟩
  · unfold zup; rw [if_pos rfl, if_neg (by decide)]; exact e8
  · rw [show sM rc (zup M rc 6 x) = sM rc M by funext q; unfold sM; rw [m1 _ _ (by omega)]]; exact e9
  · unfold zup; rw [if_pos rfl, if_neg (by decide)]; exact e10
/-- all that is reached is settled -/
def FN (m : Nat) (P T K : Nat → Nat) (n rc N : Nat) (M : zM) : Prop := ∃ s o cs, EX m P T K n rc N s o cs M ∧ ∀ q, q < N → (∃ k, k < s ∧ o k = q) ∨ M (rc + 1) q = nI 1073741824
theorem ex_ok (hL : HL m P T K n B) (hN : N = z22 n) : ∀ (j s : Nat) (o cs : Nat → Nat) (M : zM), s + j = N → EX m P T K n rc N s o cs M → exOK rc N m P T K j s o M ∧ FN m P T K n rc N (exM rc N m P T K j s o M) := by
  intro j
  induction j with
  | zero =>
    intro s o cs M hs hE
    refine ⟨trivial, s, o, cs, hE, fun q hq => Or.inl ?_⟩
    have hS := EX_rcS hL hE
    obtain ⟨e1, e2, e3, e4, e5, e6, e7, e8, e9, e10⟩ := hE
    have h1 := sm_all (h := sM rc M) N (fun q hq => by have := (hS.2 q hq).2.2.2; omega) (by rw [e9]; omega) q hq
    rcases e5 q hq with ⟨_, h2⟩ | ⟨h2, _⟩
    · exact h2
    · unfold sM at h1
      rw [h2, nI_clamp (by decide)] at h1
      exact absurd h1 (by decide)
  | succ j ih =>
    intro s o cs M hs hE
    have hS := EX_rcS hL hE
    have hex : exM rc N m P T K (j + 1) s o M = match coN (cM rc M) (sM rc M) N 0 none 0 with
      | (none, dr) => zup M rc 6 (nI dr)
      | (some b, dr) => exM rc N m P T K j (s + 1) (zoo o s b) (spM rc N m P T K s o b dr M) := rfl
    have hok : exOK rc N m P T K (j + 1) s o M = (rcS M rc N (cM rc M) (sM rc M) ∧ match coN (cM rc M) (sM rc M) N 0 none 0 with
      | (none, _) => True
      | (some b, dr) => exOK rc N m P T K j (s + 1) (zoo o s b) (spM rc N m P T K s o b dr M)) := rfl
    rw [hex, hok]
    rcases hco : coN (cM rc M) (sM rc M) N 0 none 0 with ⟨ob, dr⟩
    cases ob with
    | none =>
      refine ⟨⟨hS, trivial⟩, s, o, cs, EX_6 hE, fun q hq => ?_⟩
      have hck := coN_ok (c := cM rc M) (st := sM rc M) (N := N) (fun q hq => (hS.2 q hq).2.1) N 0 none 0 (by omega) (by decide) (fun q hq => absurd hq (by omega)) (fun _ q hq => absurd hq (by omega)) (fun b h => by cases h)
      rw [hco] at hck
      rcases hck.2.2.1 rfl q hq with h1 | h1
      · refine Or.inr ?_
        show zup M rc 6 (nI dr) (rc + 1) q = _
        unfold zup
        rw [if_neg (by omega), (hS.2 q hq).1, h1]
      · refine Or.inl ?_
        rcases hE.2.2.2.2.1 q hq with ⟨_, h2⟩ | ⟨h2, _⟩
        · exact h2
        · unfold sM at h1
          rw [h2, nI_clamp (by decide)] at h1
          exact absurd rfl h1
    | some b =>
      have h1 := ih (s + 1) (zoo o s b) (zoo cs s (cM rc M b)) _ (by omega) (ex_step hL hN hE hco)
      exact ⟨⟨hS, h1.1⟩, h1.2⟩
/-- what the exploring has found -/
def RX (m : Nat) (P T K : Nat → Nat) (n B rc N : Nat) (M : zM) : Prop := (∀ q, q < N → (M (rc + 1) q = nI 1073741824 ∧ M (rc + 2) q = -1 ∧ ∀ v, ¬ Dv m P T K n q v) ∨ ∃ v, M (rc + 1) q = nI v ∧ v ≤ B ∧ LE m P T K n q v ∧ ((M (rc + 2) q = -1 ∧ v = 0) ∨ ∃ g, M (rc + 2) q = nI g ∧ 1 ≤ v ∧ JL m P T K n q v g ∧ ∀ g', JL m P T K n q v g' → g ≤ g')) ∧ M rc 7 = nI (sm (fun q => if M (rc + 1) q = nI 1073741824 then 0 else 1) N)
theorem FN_RX {M : zM} (hL : HL m P T K n B) (hN : N = z22 n) (h : FN m P T K n rc N M) : RX m P T K n B rc N M := by
  obtain ⟨s, o, cs, hE, hall⟩ := h
  have h30 := hL.1
  have hdj := dj (X := 1073741824) hL hN hE (fun q x hq hu hx hx30 => by
    rcases hall q hq with ⟨k, hk, hk2⟩ | h
    · exact absurd hk2 (hu k hk)
    · have := (nI_eq (by omega) (by decide)).mp (hx.symm.trans h); omega)
  obtain ⟨e1, e2, e3, e4, e5, e6, e7, e8, e9, e10⟩ := hE
  have hset : ∀ q v, LE m P T K n q v → SE s o cs q v := fun q v hq => by
    have hB := LE_B hL hq
    rcases hdj q v hq.1 with ⟨k, hk, rfl, _⟩ | h
    · exact ⟨k, hk, rfl, LE_un (e2 k hk).2.1 hq⟩
    · omega
  have key : ∀ q, q < N → (M (rc + 1) q = nI 1073741824 ∧ (∀ v, ¬ Dv m P T K n q v) ∧ ∀ k, k < s → ¬ o k = q) ∨ ∃ k, k < s ∧ o k = q ∧ M (rc + 1) q = nI (cs k) ∧ cs k ≤ B ∧ LE m P T K n q (cs k) := fun q hq => by
    rcases hall q hq with ⟨k, hk, rfl⟩ | h
    · have h1 := e2 k hk
      exact Or.inr ⟨k, hk, rfl, h1.2.2, (LE_B hL h1.2.1).1, h1.2.1⟩
    · have hno : ∀ k, k < s → ¬ o k = q := fun k hk hk2 => by
        have h1 := e2 k hk
        rw [hk2, h] at h1
        have h2 := LE_B hL h1.2.1
        have := (nI_eq (by decide) (by omega)).mp h1.2.2
        omega
      refine Or.inl ⟨h, fun v hd => ?_, hno⟩
      obtain ⟨w, _, hw⟩ := hL.2.2.2.2 q v hd
      obtain ⟨k, hk, hk2, _⟩ := hset q w hw
      exact hno k hk hk2
  refine ⟨fun q hq => ?_, ?_⟩
  · rcases key q hq with ⟨h1, h2, _⟩ | ⟨k, hk, hkq, h1, h2, h3⟩
    · refine Or.inl ⟨h1, ?_, h2⟩
      rcases e1 q hq with ⟨_, h4⟩ | ⟨h4, _, _⟩ | ⟨v, g, h4, _, h6⟩
      · exact h4
      · exact absurd ((nI_eq (by decide) (by decide)).mp (h1.symm.trans h4)) (by decide)
      · have h7 := JL_B hL h6
        have := (nI_eq (by decide) (by omega)).mp (h1.symm.trans h4)
        omega
    · refine Or.inr ⟨cs k, h1, h2, h3, ?_⟩
      rcases e1 q hq with ⟨h4, _⟩ | ⟨h4, h5, _⟩ | ⟨v, g, h4, h5, h6⟩
      · have := (nI_eq (by omega) (by decide)).mp (h1.symm.trans h4); omega
      · exact Or.inl ⟨h5, (nI_eq (by omega) (by decide)).mp (h1.symm.trans h4)⟩
      · have h7 := JL_B hL h6
        have h8 := (nI_eq (by omega) (by omega)).mp (h1.symm.trans h4)
        rw [h8]
        refine Or.inr ⟨g, h5, h7.1, h6, fun g' hg' => ?_⟩
        have h9 := JL_B hL hg'
        obtain ⟨i, a, b, c, x, y, z, hi, ha, hb, hc, e, f, e'⟩ := hg'
        obtain ⟨v', c1, c2, c3⟩ := e6 i a b c x y z hi (dvA_mono (fun _ _ h => hset _ _ h) ha) (dvA_mono (fun _ _ h => hset _ _ h) hb) (dvA_mono (fun _ _ h => hset _ _ h) hc)
        rw [← e, ← f, ← e'] at c3
        rw [← e, h4] at c1
        have h10 := (nI_eq (by omega) (by omega)).mp c1
        rcases c3 with c3 | ⟨_, c3⟩
        · omega
        · rw [h5, nI_ltI h9.2.2.1 h7.2.2.1] at c3
          omega
  · rw [e10, ← e9]
    congr 1
    have : ∀ j, j ≤ N → sm (sM rc M) j = sm (fun q => if M (rc + 1) q = nI 1073741824 then 0 else 1) j := by
      intro j
      induction j with
      | zero => intro _; rfl
      | succ j ih =>
        intro hj
        show sm (sM rc M) j + sM rc M j = sm _ j + (if M (rc + 1) j = nI 1073741824 then 0 else 1)
        rw [ih (by omega)]
        congr 1
        rcases key j (by omega) with ⟨h1, _, h2⟩ | ⟨k, hk, hkq, h1, h2, _⟩
        · rw [if_pos h1]
          rcases e5 j (by omega) with ⟨_, k, hk, hk2⟩ | ⟨h3, _⟩
          · exact absurd hk2 (h2 k hk)
          · unfold sM; rw [h3, nI_clamp (by decide)]
        · rw [if_neg (fun h => by have := (nI_eq (by omega) (by decide)).mp (h1.symm.trans h); omega)]
          rcases e5 j (by omega) with ⟨h3, _⟩ | ⟨_, h3⟩
          · unfold sM; rw [h3, nI_clamp (by decide)]
          · exact absurd hkq (h3 k hk)
    exact this N (Nat.le_refl _)
end DIK
