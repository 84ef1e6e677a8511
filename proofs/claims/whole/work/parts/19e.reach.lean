section RCH
variable {sc : Nat × (Nat → Int32)} {M : zM} {m len : Nat} {P T K Y tb co de le : Nat → Nat} {X : Nat → Nat → Nat}
theorem zrc_of {q : Nat} (h1 : 1 ≤ q) (h : q < 4) : ∃ rc, zrc rc q (z22 q) := by
  rcases (show q = 1 ∨ q = 2 ∨ q = 3 by omega) with rfl | rfl | rfl
  · exact ⟨9, Or.inl ⟨rfl, rfl, rfl⟩⟩
  · exact ⟨14, Or.inr (Or.inl ⟨rfl, rfl, rfl⟩)⟩
  · exact ⟨19, Or.inr (Or.inr ⟨rfl, rfl, rfl⟩)⟩
theorem zrc_ap {rc n N rc' n' N' : Nat} (h : zrc rc n N) (h' : zrc rc' n' N') : (rc = rc' ∧ n = n' ∧ N = N') ∨ rc + 5 ≤ rc' ∨ rc' + 5 ≤ rc := by
  rcases h with ⟨rfl, rfl, rfl⟩ | ⟨rfl, rfl, rfl⟩ | ⟨rfl, rfl, rfl⟩ <;> rcases h' with ⟨rfl, rfl, rfl⟩ | ⟨rfl, rfl, rfl⟩ | ⟨rfl, rfl, rfl⟩ <;> omega
/-- reachOf: what is known is known, or is found -/
theorem reach_ok {d rc q N : Nat} (hI : IV M m P T K len Y tb co de le X) (hrc : zrc rc q N) (hL : HL m P T K q B0) : ∃ M1, zC 47 sc (d + 9) 86 [.ref 0, .int (nI q)] M (some (.ref rc)) M1 ∧ IV M1 m P T K len Y tb co de le X ∧ RX m P T K q B0 rc N M1 := by
  obtain ⟨h0, h1, h2⟩ := hI.2.2.2.2.2.2.2 rc q N hrc
  rcases h2 with h2 | ⟨h2, h3⟩
  · have hN := (zl_N hrc).2.2.1
    have hr := zrc_le hrc
    obtain ⟨hok, hRX⟩ := ex_RX (rc := rc) (N := N) hL hN h1
    have hE := c_41 (sc := sc) (d := d + 2) hrc h1 h0 hI.1 hok
    refine ⟨_, c_86n hrc h2 hE, ?_, hRX⟩
    have hne : ∀ a b, (a < rc ∨ rc + 4 < a ∨ (a = rc ∧ ¬ b = 6 ∧ ¬ b = 7 ∧ ¬ b = 8)) → zup (exM rc N m P T K N 0 (fun _ => 0) (bgM rc q N m P T K M)) rc 8 (nI 1) a b = M a b := fun a b h => by
      have e : zup (exM rc N m P T K N 0 (fun _ => 0) (bgM rc q N m P T K M)) rc 8 (nI 1) a b = exM rc N m P T K N 0 (fun _ => 0) (bgM rc q N m P T K M) a b := by
        unfold zup
        by_cases e : a = rc
        · rw [if_pos e, if_neg (by omega)]
        · rw [if_neg e]
      rw [e, ex_ne (by omega)]
      by_cases e2 : a = rc
      · subst e2; rw [bgM_rc, if_neg (by omega)]
      · exact bgM_ne (by omega) (by omega) (by omega) e2 b
    have h8 : zup (exM rc N m P T K N 0 (fun _ => 0) (bgM rc q N m P T K M)) rc 8 (nI 1) rc 8 = nI 1 := by unfold zup; rw [if_pos rfl, if_pos rfl]
    generalize zup (exM rc N m P T K N 0 (fun _ => 0) (bgM rc q N m P T K M)) rc 8 (nI 1) = M1 at hRX hne h8
    obtain ⟨i1, i2, i3, i4, i5, i6, i7, i8⟩ := hI
    refine ⟨sg_frame (fun a b ha => hne a b (by omega)) i1, sgM_fr (fun a b ha => hne a b (by omega)) i2, txC_fr (hne _ _ (by omega)) (fun b => hne _ _ (by omega)) i3, txM_fr (hne _ _ (by omega)) (fun b => hne _ _ (by omega)) i4, foC_fr (fun a b h1 h2 => hne _ _ (by omega)) i5, fun i hi => ⟨foM_fr (fun a b h1 h2 => hne _ _ (by omega)) (i6 i hi).1, (i6 i hi).2⟩, fun p h1 h2 => by rw [hne 32 p (by omega)]; exact i7 p h1 h2, fun rc' n' N' hrc' => ?_⟩
    rcases zrc_ap hrc hrc' with ⟨rfl, rfl, rfl⟩ | hap
    · exact ⟨by rw [hne _ _ (by omega)]; exact h0, by rw [hne _ _ (by omega)]; exact h1, Or.inr ⟨h8, hRX⟩⟩
    · obtain ⟨a1, a2, a3⟩ := i8 rc' n' N' hrc'
      rw [hne _ _ (by omega), hne _ _ (by omega), hne _ _ (by omega)]
      refine ⟨a1, a2, ?_⟩
      rcases a3 with a3 | ⟨a3, a4⟩
      · exact Or.inl a3
      · exact Or.inr ⟨a3, RX_fr (fun a b h5 h6 => hne a b (by omega)) a4⟩
  · exact ⟨M, c_86f hrc h2, hI, h3⟩
/-- finds, and both sides then agree -/
theorem both_ok (H3 : FD3) {d q : Nat} (hI : IV M m P T K len Y tb co de le X) (hq1 : 1 ≤ q) (hq : q < 4) (hb : zbar P m q = false) : ∃ rc M1 f, zrc rc q (z22 q) ∧ zC 47 sc (d + 9) 86 [.ref 0, .int (nI q)] M (some (.ref rc)) M1 ∧ IV M1 m P T K len Y tb co de le X ∧ RX m P T K q B0 rc (z22 q) M1 ∧ FX m P T K q B0 f ∧ AG (z22 q) (cM rc M1) f ∧ rcC M1 rc (z22 q) (cM rc M1) ∧ HL m P T K q B0 ∧ ∀ M2 : zM, sgM M2 m P T K → M2 37 = M1 37 → zC 47 sc (d + 9) 100 [.ref 33, .int (nI q)] M2 none (lsM M2 f) := by
  have hm := hI.1.1
  have hR := hI.1.2.2.1
  obtain ⟨k0, hok0, hFX0⟩ := finds_all H3 hm hR hq hb (M 37)
  have hL := FX_HL hm hR hq hFX0
  obtain ⟨rc, hrc⟩ := zrc_of hq1 hq
  obtain ⟨M1, h1, h2, h3⟩ := reach_ok (sc := sc) (d := d) hI hrc hL
  obtain ⟨k, hok, hFX⟩ := finds_all H3 hm hR hq hb (M1 37)
  obtain ⟨hA, hc⟩ := RX_AG rfl hFX h3
  have hF1 := (h2.2.2.2.2.2.2.2 rc q _ hrc).2.1
  refine ⟨rc, M1, _, hrc, h1, h2, h3, hFX, hA, ⟨hF1, hc⟩, hL, fun M2 hs2 h37 => ?_⟩
  rw [← h37] at hok ⊢
  exact c_100 (d := d + 7) hs2 hq hok
theorem lsM_fr {f : Nat → Int32} {a b : Nat} (h : zrel a b) : lsM M f a b = M a b := lsM_ne (by unfold zrel at h; omega) b
theorem op_reached (H3 : FD3) {x : Int32} (hI : INV M) : OP sc 60 102 [.int x] M := by
  obtain ⟨m, P, T, K, len, Y, tb, co, de, le, X, h⟩ := id hI
  cases hx : zcnt x with
  | false => exact ⟨_, M, M, c_60b (d := 20) hx, c_102b (d := 20) h.2.1 hx, hI⟩
  | true =>
    obtain ⟨q, hq1, hq, rfl⟩ := zcnt_x hx
    cases hb : zbar P m q with
    | true => exact ⟨_, M, M, c_60s (M2 := M) (rc := 0) (N := 0) (c := fun _ => 0) (s := 0) (d := 20) h.1 hq1 hq hb, c_102s (d := 20) h.2.1 hq1 hq hb, hI⟩
    | false =>
      obtain ⟨rc, M1, f, hrc, h1, h2, h3, hF, hA, hC, hL, hFi⟩ := both_ok (sc := sc) (d := 20) H3 h hq1 hq hb
      have hr := c_102 (sc := sc) (d := 20) h2.2.1 hq1 hq hb (hFi M1 h2.2.1 rfl)
      rw [← same_reached (M := lsM M1 f) (Mc := M1) (rc := rc) hA rfl hC.2] at hr
      exact ⟨_, _, _, c_60 (c := fun _ => 0) (d := 20) h.1 hq1 hq hb hrc h1 h3.2, hr, m, P, T, K, len, Y, tb, co, de, le, X, IV_fr (fun a b hz => lsM_fr hz) h2⟩
theorem op_least (H3 : FD3) {x y : Int32} (hI : INV M) : OP sc 61 103 [.int x, .int y] M := by
  obtain ⟨m, P, T, K, len, Y, tb, co, de, le, X, h⟩ := id hI
  cases hx : zrl x y with
  | false => exact ⟨_, M, M, c_61b (d := 20) hx, c_103b (d := 20) h.2.1 hx, hI⟩
  | true =>
    obtain ⟨q, t, hq1, hq, ht, rfl, rfl⟩ := zrl_x hx
    cases hb : zbar P m q with
    | true => exact ⟨_, M, M, c_61s (M2 := M) (rc := 0) (N := 0) (c := fun _ => 0) (d := 20) h.1 hq1 hq ht hb, c_103s (d := 20) h.2.1 hq1 hq ht hb, hI⟩
    | false =>
      obtain ⟨rc, M1, f, hrc, h1, h2, h3, hF, hA, hC, hL, hFi⟩ := both_ok (sc := sc) (d := 20) H3 h hq1 hq hb
      have hr := c_103 (sc := sc) (d := 20) h2.2.1 hq1 hq ht hb (hFi M1 h2.2.1 rfl)
      rw [show lsM M1 f 37 t = f t from rfl, ← AG_l hA ht] at hr
      exact ⟨_, _, _, c_61 (d := 20) h.1 hq1 hq ht hb hrc h1 hC, hr, m, P, T, K, len, Y, tb, co, de, le, X, IV_fr (fun a b hz => lsM_fr hz) h2⟩
theorem op_costing (H3 : FD3) {x y : Int32} (hI : INV M) : OP sc 64 107 [.int x, .int y] M := by
  obtain ⟨m, P, T, K, len, Y, tb, co, de, le, X, h⟩ := id hI
  by_cases hx : zcnt x = true ∧ 0 ≤ y
  · obtain ⟨q, hq1, hq, rfl⟩ := zcnt_x hx.1
    cases hb : zbar P m q with
    | true => exact ⟨_, M, M, c_64s (M2 := M) (rc := 0) (N := 0) (c := fun _ => 0) (d := 20) h.1 hq1 hq hx.2 hb, c_107s (d := 20) h.2.1 hq1 hq hx.2 hb, hI⟩
    | false =>
      obtain ⟨rc, M1, f, hrc, h1, h2, h3, hF, hA, hC, hL, hFi⟩ := both_ok (sc := sc) (d := 20) H3 h hq1 hq hb
      have hr := c_107 (sc := sc) (d := 20) h2.2.1 hq1 hq hx.2 hb (hFi M1 h2.2.1 rfl)
      rw [← same_costing (M := lsM M1 f) hA rfl hx.2] at hr
      exact ⟨_, _, _, c_64 (d := 20) h.1 hq1 hq hx.2 hb hrc h1 hC, hr, m, P, T, K, len, Y, tb, co, de, le, X, IV_fr (fun a b hz => lsM_fr hz) h2⟩
  · exact ⟨_, M, M, c_64b (d := 20) hx, c_107b (d := 20) h.2.1 hx, hI⟩
theorem op_farthest (H3 : FD3) {x y : Int32} (hI : INV M) : OP sc 63 106 [.int x, .int y] M := by
  obtain ⟨m, P, T, K, len, Y, tb, co, de, le, X, h⟩ := id hI
  by_cases hx : zcnt x = true ∧ zin y (nI 0) (nI 2) = true
  · obtain ⟨q, hq1, hq, rfl⟩ := zcnt_x hx.1
    obtain ⟨w, hw0, hw, rfl⟩ := zin_x2 (by decide) (by decide) hx.2
    cases hb : zbar P m q with
    | true => exact ⟨_, M, M, c_63s (M2 := M) (rc := 0) (N := 0) (c := fun _ => 0) (d := 20) h.1 hq1 hq hw hb, c_106s (d := 20) h.2.1 hq1 hq hw hb, hI⟩
    | false =>
      obtain ⟨rc, M1, f, hrc, h1, h2, h3, hF, hA, hC, hL, hFi⟩ := both_ok (sc := sc) (d := 20) H3 h hq1 hq hb
      have hr := c_106 (sc := sc) (d := 20) h2.2.1 hq1 hq hw hb (hFi M1 h2.2.1 rfl)
      have hz := z22_lt hq
      rw [show lsM M1 f 37 = f from rfl, ← same_farthest (w := w) hA (by omega)] at hr
      exact ⟨_, _, _, c_63 (d := 20) h.1 hq1 hq hw hb hrc h1 hC, hr, m, P, T, K, len, Y, tb, co, de, le, X, IV_fr (fun a b hz => lsM_fr hz) h2⟩
  · exact ⟨_, M, M, c_63b (d := 20) hx, c_106b (d := 20) h.2.1 hx, hI⟩
theorem op_leastened (H3 : FD3) {x : Int32} (hI : INV M) : OP sc 78 134 [.int x] M := by
  obtain ⟨m, P, T, K, len, Y, tb, co, de, le, X, h⟩ := id hI
  cases hx : zfo x with
  | false => exact ⟨_, M, M, c_78b (d := 20) hx, c_134b (d := 20) h.2.1 (by rw [← zfo_zin]; exact hx), hI⟩
  | true =>
    obtain ⟨i, hi, rfl⟩ := zfo_x hx
    cases hb : zbar P m 3 with
    | true => exact ⟨_, M, M, c_78s (d := 20) h.1 hi hb, c_134s (d := 20) h.2.1 hi hb, hI⟩
    | false =>
      obtain ⟨rc, M1, f, hrc, h1, h2, h3, hF, hA, hC, hL, hFi⟩ := both_ok (sc := sc) (d := 20) H3 h (by decide) (by decide) hb
      obtain ⟨i1, i2, i3, i4, i5, i6, i7, i8⟩ := id h2
      obtain ⟨r, hT, _, _⟩ := tb_ok (sc := sc) (d := 26) i2 hi (i6 i hi).1 (i6 i hi).2
      have hr := c_134 (sc := sc) (d := 20) i2 hi hb hT (i5.2 i hi) (hFi (jdQ M1 r) i2 rfl)
      have hti := i5.2 i hi
      rw [show lsM (jdQ M1 r) f 37 (tb i) = f (tb i) from rfl, ← AG_l hA (by rw [z22_3]; exact hti)] at hr
      refine ⟨_, _, _, c_78 (d := 20) h.1 hi hb hrc h1 (by rw [← z22_3]; exact hC) i5, hr, m, P, T, K, len, Y, tb, co, de, le, X, IV_fr (fun a b hz => ?_) h2⟩
      rw [lsM_fr hz]
      exact jdQ_ne (by unfold zrel at hz; omega)
theorem byM_fr {x y z : Int32} {a b : Nat} (h : zrel a b) : byM M x y z a b = M a b := byM_ne (by unfold zrel at h; omega)
theorem op_by (H3 : FD3) {x y z : Int32} (hI : INV M) : OP sc 62 105 [.int x, .int y, .int z] M := by
  obtain ⟨m, P, T, K, len, Y, tb, co, de, le, X, h⟩ := id hI
  by_cases hx : zrl x y = true ∧ ¬ z < -1 ∧ z < nI 3
  · obtain ⟨hx0, hz1, hz2⟩ := hx
    obtain ⟨q, t, hq1, hq, ht, rfl, rfl⟩ := zrl_x hx0
    cases hb : zbar P m q with
    | true => exact ⟨_, M, M, c_62s (d := 20) h.1 hq1 hq ht hb hz1 hz2, c_105s (d := 20) h.2.1 hq1 hq ht hz1 hz2 hb, hI⟩
    | false =>
      obtain ⟨rc, M1, f, hrc, h1, h2, h3, hF, hA, hC, hL, hFi⟩ := both_ok (sc := sc) (d := 20) H3 h hq1 hq hb
      have hfi := hFi M1 h2.2.1 rfl
      have hB : B0 = 193710240 := rfl
      have hI1 : INV (lsM M1 f) := ⟨m, P, T, K, len, Y, tb, co, de, le, X, IV_fr (fun a b hz => lsM_fr hz) h2⟩
      rcases h3.1 t ht with ⟨g1, g2, g3⟩ | ⟨v, g1, g2, g3, g4⟩
      · have hf9 : f t = -9 := by
          rcases hF t ht with ⟨k1, _⟩ | ⟨w, _, _, k1⟩
          · exact k1
          · exact absurd k1.1 (g3 w)
        exact ⟨_, _, _, c_62n (d := 20) h.1 hq1 hq ht hb hrc h1 hC hz1 hz2 g2, c_105n (d := 20) h2.2.1 hq1 hq ht hz1 hz2 hb hfi (Or.inl hf9), hI1⟩
      · have hfv : f t = nI v := by
          rcases hF t ht with ⟨_, k1⟩ | ⟨w, k1, _, k2⟩
          · exact absurd g3.1 (k1 v)
          · rw [k1, LE_un g3 k2]
        rcases g4 with ⟨g4, rfl⟩ | ⟨g, g4, hv1, hJ, hmin⟩
        · exact ⟨_, _, _, c_62n (d := 20) h.1 hq1 hq ht hb hrc h1 hC hz1 hz2 g4, c_105n (d := 20) h2.2.1 hq1 hq ht hz1 hz2 hb hfi (Or.inr (hfv.trans rfl)), hI1⟩
        · have hgB := JL_B hL hJ
          obtain ⟨i, a, b, c, x', y', z', hi, ha, hb', hc, et, ev, eg⟩ := id hJ
          have ha2 := (dvA_B hL ha).2
          have hb2 := (dvA_B hL hb').2
          have hc2 := (dvA_B hL hc).2
          subst eg
          obtain ⟨s1, s2⟩ := by_same hF hq (by omega) (fun i hi => (h.1.2.2.1 i hi).2.2.2) ht g2 hfv hi hJ ha2 hb2 hc2 hmin
          have hct : ¬ cM rc M1 t = 1073741824 := by unfold cM; rw [g1, nI_clamp (by omega)]; omega
          have h9 : ¬ (lsM M1 f 37 t = -9 ∨ lsM M1 f 37 t = 0) := by
            show ¬ (f t = -9 ∨ f t = 0)
            rw [hfv]
            intro hz
            rcases hz with hz | hz
            · exact nI_m9 (by omega) hz
            · have := (nI_eq (b := 0) (by omega) (by decide)).mp hz; omega
          have href := c_105 (sc := sc) (d := 20) h2.2.1 hq1 hq ht hz1 hz2 hb hfi (lsM_sm h2.2.1) h9 hi s1 s2
          have hI2 : INV (ibM (lsM M1 f) (P i) (some (a, b, c))) := ⟨m, P, T, K, len, Y, tb, co, de, le, X, IV_fr (fun a' b' hz => by
            show byM (lsM M1 f) _ _ _ a' b' = M1 a' b'
            rw [byM_fr hz, lsM_fr hz]) h2⟩
          by_cases hzm : z = -1
          · subst hzm
            have hcl := c_62l (sc := sc) (d := 20) h.1 hq1 hq ht hb hrc h1 hC hct g4 hgB.2.2.1
            rw [cd_24 ha2 hb2 hc2] at hcl
            exact ⟨_, _, _, hcl, href, hI2⟩
          · have hz0 : ∃ p, p < 3 ∧ z = nI p := by
              have hz0 : ¬ z < 0 := by
                intro hz
                rw [Int32.lt_iff_toInt_lt] at hz hz1
                have e1 : (-1 : Int32).toInt = -1 := by decide
                have e2 : (0 : Int32).toInt = 0 := by decide
                rw [e1] at hz1
                rw [e2] at hz
                exact hzm (Int32.toInt_inj.mp (by rw [e1]; omega))
              obtain ⟨p, hp, rfl⟩ := nI_of hz0
              exact ⟨p, by rw [nI_ltI hp (by decide)] at hz2; omega, rfl⟩
            obtain ⟨p, hp, rfl⟩ := hz0
            have hcl := c_62p (sc := sc) (d := 20) h.1 hq1 hq ht hb hrc h1 hC hct g4 hgB.2.2.1 hp h2.1 (by rw [cd_24 ha2 hb2 hc2]; exact hi)
            rw [cd_24 ha2 hb2 hc2, cd_p ha2 hb2 hc2 hp] at hcl
            have e : byR (nI p) i (P i) (a, b, c) = if p < P i then nI (if p = 0 then a else if p = 1 then b else c) else -9 := by
              unfold byR zbp
              rw [if_neg (nI_pos (by omega))]
              rcases (show p = 0 ∨ p = 1 ∨ p = 2 by omega) with rfl | rfl | rfl <;> rfl
            rw [e] at href
            exact ⟨_, _, _, hcl, href, hI2⟩
  · exact ⟨_, M, M, c_62b (d := 20) hx, c_105b (d := 20) h.2.1 hx, hI⟩
end RCH
