section PRT
variable {len m : Nat} {P T K Y : Nat → Nat}
theorem zpl_pl : ∀ i, i < 3 → zpl i = plN 3 i := by decide +kernel
theorem tw_0 : ∀ t, t < 2 → t * 255 = toN t (1 <<< 3) 0 0 0 := by decide +kernel
theorem zlt_p {p : Nat} (h : p < len) : zlt len Y p = Y p := if_pos h
theorem pn_sim {hi : Nat} {pt : Nat → zS → Option Nat × zS} (hm : m ≤ 6) (hR : ∀ i, i < m → P i < 4 ∧ T i < z22 (P i) ∧ 1 ≤ K i ∧ K i ≤ 9)
    (hpt : ∀ (i p co de le dr : Nat) (D O G : Nat → Nat), i < m → ¬ P i = 0 → 1 ≤ p → p ≤ len → le ≤ 30 → Y (p - 1) = 112 + i → GoodR len m P T K Y hi p co le dr D O G (mR len m P Y p (hi, le, false, 1, dr, D, O, G)) dr (K i) 1 (pt i (p, co, de, le))) : Sm len m P T K Y hi (pnF (zlt len Y) m P T K pt) := by
  intro p co de le dr D O G hp hle
  by_cases h30 : 30 ≤ le
  · rw [pn_30 h30]
    exact bad_n hp (fun hl => fs_0n (by decide) rfl (Or.inr (by omega)))
  · by_cases h1 : 120 ≤ zlt len Y p ∧ zlt len Y p ≤ 122
    · rw [pn_pl h30 h1]
      have hl := (zlt_y (by omega) (rfl : zlt len Y p = zlt len Y p)).1
      rw [zlt_p hl] at h1
      have hs := fs_0l (m := m) (P := P) (Y := Y) (at0 := p) (hi := hi) (fo := le) (wh := false) (st := 0) (dr := dr) (D := D) (O := O) (G := G) (by decide) rfl (fun h => h.elim (fun h => h (Or.inr h1)) (fun h => absurd h (by omega))) (fun h => absurd h.1.2 (by omega))
      rw [mR_y hl hs, zlt_p hl]
      refine ⟨by show p + 1 ≤ len; omega, by show le + 1 ≤ 30; omega, dr + 1, fn D dr (Y p), O, G, 0, by omega, fun k hk => fn_lt hk, fun k _ => ⟨rfl, rfl⟩, rfl, rfl, ?_, by show dr + 1 + le = dr + (le + 1) + 0; omega⟩
      have h2 := Ev_pl (m := m) (P := P) (T := T) (K := K) (X := fn D dr (Y p)) (k := dr) (by rw [fn_eq]; exact h1.1) (by rw [fn_eq]; exact h1.2)
      rw [fn_eq, ← zpl_pl _ (by omega)] at h2
      exact h2
    · by_cases h2 : 112 ≤ zlt len Y p ∧ zlt len Y p < 112 + m
      · have hl := (zlt_y (by omega) (rfl : zlt len Y p = zlt len Y p)).1
        have h2' := h2
        rw [zlt_p hl] at h2'
        have hPi := hR (zlt len Y p - 112) (by omega)
        have hnn : ¬ (¬ ((112 ≤ Y p ∧ Y p < 112 + m) ∨ (120 ≤ Y p ∧ Y p ≤ 122)) ∨ le = 30) := fun h => h.elim (fun h => h (Or.inl h2')) (fun h => absurd h (by omega))
        by_cases h3 : P (zlt len Y p - 112) = 0
        · rw [pn_0 h30 h1 h2 h3]
          rw [zlt_p hl] at h3 hPi
          have hs := fs_0l (m := m) (P := P) (Y := Y) (at0 := p) (hi := hi) (fo := le) (wh := false) (st := 0) (dr := dr) (D := D) (O := O) (G := G) (by decide) rfl hnn (fun h => absurd h.2 (by omega))
          rw [mR_y hl hs, zlt_p hl]
          refine ⟨by show p + 1 ≤ len; omega, by show le + 1 ≤ 30; omega, dr + 1, fn D dr (Y p), O, G, K (Y p - 112), by omega, fun k hk => fn_lt hk, fun k _ => ⟨rfl, rfl⟩, rfl, rfl, ?_, by show dr + 1 + le = dr + (le + 1) + 0; omega⟩
          have hE : EvQ m P T K (fn D dr (Y p)) dr dr (P (Y p - 112)) (fun _ => 0) (fun _ => 0) (fun _ => 0) := by rw [h3]; exact EvQ_0
          have h4 := Ev_sg hE (by rw [fn_eq]; omega) (by omega) hm
          have hT2 : T (Y p - 112) < 2 := by have := hPi.2.1; rw [h3] at this; exact this
          rw [h3] at h4
          rw [h3, Nat.zero_add]
          have e2 := tw_0 _ hT2
          rw [show zrep 0 = 255 from rfl, e2]
          exact h4
        · rw [pn_pt h30 h1 h2 h3]
          rw [zlt_p hl] at h3 hPi
          have hs := fs_0s (m := m) (P := P) (Y := Y) (at0 := p) (hi := hi) (fo := le) (wh := false) (st := 0) (dr := dr) (D := D) (O := O) (G := G) (by decide) rfl hnn ⟨h2', by omega⟩
          rw [mR_y hl hs, zlt_p hl]
          have h4 := hpt (Y p - 112) (p + 1) (co + K (Y p - 112)) de (le + 1) dr D O G (by omega) h3 (by omega) (by omega) (by omega) (by show Y p = _; omega)
          unfold GoodR at h4 ⊢
          split at h4
          · exact h4
          · rename_i t2 e
            obtain ⟨d1, d2, dr2, D2, O2, G2, c2, d3, d4, d5, d6, d7, d8, d9⟩ := h4
            exact ⟨d1, d2, dr2, D2, O2, G2, K (Y p - 112) + c2, d3, d4, d5, d6, by rw [d7]; omega, by rw [Nat.zero_add]; exact d8, by omega⟩
      · rw [pn_no h1 h2]
        refine bad_n hp (fun hl => fs_0n (by decide) rfl (Or.inl (fun h => ?_)))
        rw [zlt_p hl] at h1 h2
        exact h.elim h2 h1
theorem pN_sim (hm : m ≤ 6) (hR : ∀ i, i < m → P i < 4 ∧ T i < z22 (P i) ∧ 1 ≤ K i ∧ K i ≤ 9) : ∀ f hi, f + hi = 8 → Sm len m P T K Y hi (pN (zlt len Y) m P T K f) := by
  intro f
  induction f with
  | zero =>
    intro hi hf
    refine pn_sim hm hR (fun i p co de le dr D O G hi6 hP0 hp1 hp hle hY => ?_)
    exact bad_n hp (fun hl => fs_1n (by decide) (by decide) rfl (Or.inr (by omega)))
  | succ f ih =>
    intro hi hf
    refine pn_sim hm hR (fun i p co de le dr D O G hi6 hP0 hp1 hp hle hY => ?_)
    by_cases h40 : zlt len Y p = 40
    · have hl := zlt_y (by decide) h40
      rw [show ptF (pN (zlt len Y) m P T K f) (zlt len Y) (P i) (T i * zrep (P i)) (p, co, de, le) = pqF (pN (zlt len Y) m P T K f) (zlt len Y) (T i * zrep (P i)) (P i) 0 0 0 0 0 (p + 1, co, de, le) from if_pos h40]
      have hs := fs_1y (m := m) (P := P) (Y := Y) (at0 := p) (hi := hi) (fo := le) (wh := false) (st := 1) (dr := dr) (D := D) (O := O) (G := G) (by decide) (by decide) rfl (fun h => h.elim (fun h => h hl.2) (fun h => absurd h (by omega)))
      rw [mR_y hl.1 hs, hY]
      have h4 := pq_sim (K := K) (dr0 := dr) (hi := hi) hm hi6 ⟨(hR i hi6).1, (hR i hi6).2.1⟩ (by omega) (ih (hi + 1) (by omega)) (P i) 0 (p + 1) co de le dr D (fn O hi (112 + i)) (fn G hi 0) (fun _ => 0) (fun _ => 0) (fun _ => 0) (by omega) (by omega) hle fn_eq fn_eq EvQ_0
      unfold GoodR at h4 ⊢
      rw [show stq 0 = 0 from rfl] at h4
      split at h4
      · rename_i e
        rw [show pqF (pN (zlt len Y) m P T K f) (zlt len Y) (T i * zrep (P i)) (P i) 0 0 0 0 0 (p + 1, co, de, le) = pqF (pN (zlt len Y) m P T K f) (zlt len Y) (T i * zrep (P i)) (P i) 0 (jw 0 0 fun _ => 0) (jw 1 0 fun _ => 0) (jw 2 0 fun _ => 0) (zfor (jeF (fun _ => 0) 0) 0 0 0) (p + 1, co, de, le) from rfl, e]
        exact h4
      · rename_i t2 e
        rw [show pqF (pN (zlt len Y) m P T K f) (zlt len Y) (T i * zrep (P i)) (P i) 0 0 0 0 0 (p + 1, co, de, le) = pqF (pN (zlt len Y) m P T K f) (zlt len Y) (T i * zrep (P i)) (P i) 0 (jw 0 0 fun _ => 0) (jw 1 0 fun _ => 0) (jw 2 0 fun _ => 0) (zfor (jeF (fun _ => 0) 0) 0 0 0) (p + 1, co, de, le) from rfl, e]
        obtain ⟨d1, d2, dr2, D2, O2, G2, c2, d3, d4, d5, d6, d7, d8, d9⟩ := h4
        refine ⟨d1, d2, dr2, D2, O2, G2, c2, d3, d4, fun k hk => ?_, d6, d7, d8, d9⟩
        have e1 := d5 k hk
        exact ⟨e1.1.trans (fn_lt hk), e1.2.trans (fn_lt hk)⟩
    · rw [show ptF (pN (zlt len Y) m P T K f) (zlt len Y) (P i) (T i * zrep (P i)) (p, co, de, le) = (none, (p, co, de, le)) from if_neg h40]
      exact bad_n hp (fun hl => fs_1n (by decide) (by decide) rfl (Or.inl (fun h => h40 (by rw [zlt_p hl]; exact h))))
/-- both readers say the same -/
theorem rd_fm (hm : m ≤ 6) (hR : ∀ i, i < m → P i < 4 ∧ T i < z22 (P i) ∧ 1 ≤ K i ∧ K i ≤ 9) (D O G : Nat → Nat) :
    (fmW len m P Y D O G).1 = rdB len (rdR len m Y P T K) ∧ (rdB len (rdR len m Y P T K) = false → (fmW len m P Y D O G).2.1 = (rdR len m Y P T K).2.1) ∧
    (rdB len (rdR len m Y P T K) = true → ∃ t, (rdR len m Y P T K).1 = some t ∧ (fmW len m P Y D O G).2.2.2.2.2.2.1 = (rdR len m Y P T K).2.2.2.2 ∧ Ev m P T K (fmW len m P Y D O G).2.2.2.2.2.2.2.1 0 (fmW len m P Y D O G).2.2.2.2.2.2.1 t (rdR len m Y P T K).2.2.1 (rdR len m Y P T K).2.2.2.1) := by
  have h := pN_sim (len := len) (Y := Y) hm hR 8 0 rfl 0 0 0 0 0 D O G (Nat.zero_le _) (Nat.zero_le _)
  have e0 : mR len m P Y 0 (0, 0, false, 0, 0, D, O, G) = fmW len m P Y D O G := rfl
  have e1 : pN (zlt len Y) m P T K 8 (0, 0, 0, 0) = rdR len m Y P T K := rfl
  rw [e0, e1] at h
  rcases hr : rdR len m Y P T K with ⟨ot, p, co, de, le⟩
  rw [hr] at h
  cases ot with
  | none =>
    have h' : BadR p (fmW len m P Y D O G) := h
    exact ⟨h'.1, fun _ => h'.2, fun hb => by cases hb⟩
  | some t =>
    obtain ⟨b1, b2, dr', D', O', G', c, b3, b4, b5, b6, b7, b8, b9⟩ := h
    dsimp only at b1 b2 b6 b7 b8 b9
    rw [show fmD 0 le dr' D' O' G' = (0, le, true, 2, dr', D', O', G') from rfl] at b6
    rw [Nat.zero_add] at b7 b8
    by_cases hp : p = len
    · subst hp
      rw [b6, mR_e]
      have hb : rdB p (some t, p, co, de, le) = true := by unfold rdB; rw [decide_eq_true rfl]; rfl
      rw [hb]
      refine ⟨rfl, fun z => (by cases z), fun _ => ⟨t, rfl, ?_, ?_⟩⟩
      · show dr' = le; omega
      · show Ev m P T K D' 0 dr' t co de
        rw [b7]; exact b8
    · have hl : p < len := by omega
      rw [b6, mR_n hl (fs_w rfl)]
      have hb : rdB len (some t, p, co, de, le) = false := by unfold rdB; rw [decide_eq_false hp]; rfl
      rw [hb]
      exact ⟨rfl, fun _ => rfl, fun z => by cases z⟩
end PRT
