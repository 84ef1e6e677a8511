/-- the reader's state: place, cost, depth, letters -/
abbrev zS : Type := Nat × Nat × Nat × Nat
def rdM (M : zM) (p co de le : Nat) : zM := fun a b => if a = 26 then (if b = 2 then nI p else if b = 4 then nI co else if b = 5 then nI de else if b = 6 then nI le else M a b) else M a b
def rdQ (M : zM) (s : zS) : zM := rdM M s.1 s.2.1 s.2.2.1 s.2.2.2
theorem rdM_2 {M : zM} {p co de le : Nat} (x : Nat) : zup (rdM M p co de le) 26 2 (nI x) = rdM M x co de le := by
  funext a b
  unfold zup rdM
  by_cases h : a = 26
  · simp only [h, if_true]
    by_cases h2 : b = 2
    · simp [h2]
    · simp [h2]
  · simp [h]
theorem rdM_4 {M : zM} {p co de le : Nat} (x : Nat) : zup (rdM M p co de le) 26 4 (nI x) = rdM M p x de le := by
  funext a b
  unfold zup rdM
  by_cases h : a = 26
  · simp only [h, if_true]
    by_cases h2 : b = 4
    · simp [h2]
    · simp [h2]
  · simp [h]
theorem rdM_5 {M : zM} {p co de le : Nat} (x : Nat) : zup (rdM M p co de le) 26 5 (nI x) = rdM M p co x le := by
  funext a b
  unfold zup rdM
  by_cases h : a = 26
  · simp only [h, if_true]
    by_cases h2 : b = 5
    · simp [h2]
    · simp [h2]
  · simp [h]
theorem rdM_6 {M : zM} {p co de le : Nat} (x : Nat) : zup (rdM M p co de le) 26 6 (nI x) = rdM M p co de x := by
  funext a b
  unfold zup rdM
  by_cases h : a = 26
  · simp only [h, if_true]
    by_cases h2 : b = 6
    · simp [h2]
    · simp [h2]
  · simp [h]
theorem rdM_all {M : zM} {p co de le : Nat} : zup (zup (zup (zup M 26 2 (nI p)) 26 4 (nI co)) 26 5 (nI de)) 26 6 (nI le) = rdM M p co de le := by
  funext a b
  unfold zup rdM
  by_cases h : a = 26
  · simp only [h, if_true]
    by_cases h6 : b = 6
    · simp [h6]
    · by_cases h5 : b = 5
      · simp [h5]
      · by_cases h4 : b = 4
        · simp [h4]
        · simp [h6, h5, h4]
  · simp [h]
theorem rdM_ne {M : zM} {p co de le a : Nat} (h : ¬ a = 26) (b : Nat) : rdM M p co de le a b = M a b := if_neg h
theorem rd_sg {M : zM} {p co de le m : Nat} {P T K : Nat → Nat} (h : sgC M m P T K) : sgC (rdM M p co de le) m P T K := sg_frame (fun a b ha => rdM_ne (by omega) b) h
theorem rd_tx {M : zM} {p co de le len : Nat} {Y : Nat → Nat} (h : txC M len Y) : txC (rdM M p co de le) len Y := h
/-- the byte at a place; 0 behind the text -/
def zlt (len : Nat) (Y : Nat → Nat) (p : Nat) : Nat := if p < len then Y p else 0
theorem zlt_y {len : Nat} {Y : Nat → Nat} {p ch : Nat} (hc : ¬ ch = 0) (h : zlt len Y p = ch) : p < len ∧ Y p = ch := by
  unfold zlt at h
  split at h
  · rename_i q; exact ⟨q, h⟩
  · exact absurd h.symm hc
theorem zlt_n {len : Nat} {Y : Nat → Nat} {p ch : Nat} (h : ¬ zlt len Y p = ch) : ¬ (p < len ∧ Y p = ch) := fun q => h (by unfold zlt; rw [if_pos q.1]; exact q.2)
def zoi (o : Option Nat) : Int32 := match o with
  | none => -1
  | some t => nI t
/-- a formula that begins here; pt: the parts of a sign -/
def pnF (lt : Nat → Nat) (m : Nat) (P T K : Nat → Nat) (pt : Nat → zS → Option Nat × zS) (s : zS) : Option Nat × zS :=
  if 30 ≤ s.2.2.2 then (none, s)
  else if 120 ≤ lt s.1 ∧ lt s.1 ≤ 122 then (some (zpl (lt s.1 - 120)), (s.1 + 1, s.2.1, 0, s.2.2.2 + 1))
  else if 112 ≤ lt s.1 ∧ lt s.1 < 112 + m then
    (if P (lt s.1 - 112) = 0 then (some (T (lt s.1 - 112) * zrep (P (lt s.1 - 112))), (s.1 + 1, s.2.1 + K (lt s.1 - 112), 1, s.2.2.2 + 1))
     else pt (lt s.1 - 112) (s.1 + 1, s.2.1 + K (lt s.1 - 112), s.2.2.1, s.2.2.2 + 1))
  else (none, s)
/-- parts: j are left -/
def pqF (nx : zS → Option Nat × zS) (lt : Nat → Nat) (w : Nat) : Nat → Nat → Nat → Nat → Nat → Nat → zS → Option Nat × zS
  | 0, _, a, b, c, dp, s => if lt s.1 = 41 then (some (pkN c (zttN (w >>> 4) a b) (zttN w a b) &&& 255), (s.1 + 1, s.2.1, dp + 1, s.2.2.2)) else (none, s)
  | j + 1, q, a, b, c, dp, s =>
    if 0 < q ∧ ¬ lt s.1 = 44 then (none, s)
    else match nx (if 0 < q then s.1 + 1 else s.1, s.2) with
      | (none, s2) => (none, s2)
      | (some t, s2) => pqF nx lt w j (q + 1) (if q = 0 then t else a) (if q = 1 then t else b) (if q = 2 then t else c) (if dp < s2.2.2.1 then s2.2.2.1 else dp) s2
def ptF (nx : zS → Option Nat × zS) (lt : Nat → Nat) (p w : Nat) (s : zS) : Option Nat × zS :=
  if lt s.1 = 40 then pqF nx lt w p 0 0 0 0 0 (s.1 + 1, s.2) else (none, s)
/-- the recursive descent; f brackets may still be opened -/
def pN (lt : Nat → Nat) (m : Nat) (P T K : Nat → Nat) : Nat → zS → Option Nat × zS
  | 0 => pnF lt m P T K (fun _ s => (none, s))
  | f + 1 => pnF lt m P T K (fun i s => ptF (pN lt m P T K f) lt (P i) (T i * zrep (P i)) s)
def okS (len : Nat) (s : zS) : Prop := s.1 ≤ len ∧ s.2.2.2 ≤ 30 ∧ s.2.2.1 ≤ 9
theorem zhas_112 : ∀ m, m < 7 → ∀ c, c < 256 → zhas m (nI c - nI 112) = (decide (112 ≤ c) && decide (c < 112 + m)) := by decide +kernel
theorem zhas_m1 : ∀ m, m < 7 → zhas m (-1 - nI 112) = false := by decide +kernel
theorem zlt_lt {len : Nat} {Y : Nat → Nat} {p : Nat} (h : ∀ j, j < len → Y j < 256) : zlt len Y p < 256 := by
  unfold zlt
  split
  · rename_i q; exact h p q
  · decide
theorem pn_30 {lt : Nat → Nat} {m : Nat} {P T K : Nat → Nat} {pt : Nat → zS → Option Nat × zS} {p co de le : Nat} (h : 30 ≤ le) : pnF lt m P T K pt (p, co, de, le) = (none, (p, co, de, le)) := if_pos h
theorem pn_pl {lt : Nat → Nat} {m : Nat} {P T K : Nat → Nat} {pt : Nat → zS → Option Nat × zS} {p co de le : Nat} (h : ¬ 30 ≤ le) (h1 : 120 ≤ lt p ∧ lt p ≤ 122) : pnF lt m P T K pt (p, co, de, le) = (some (zpl (lt p - 120)), (p + 1, co, 0, le + 1)) := (if_neg h).trans (if_pos h1)
theorem pn_no {lt : Nat → Nat} {m : Nat} {P T K : Nat → Nat} {pt : Nat → zS → Option Nat × zS} {p co de le : Nat} (h1 : ¬ (120 ≤ lt p ∧ lt p ≤ 122)) (h2 : ¬ (112 ≤ lt p ∧ lt p < 112 + m)) : pnF lt m P T K pt (p, co, de, le) = (none, (p, co, de, le)) := by
  by_cases h : 30 ≤ le
  · exact if_pos h
  · exact (if_neg h).trans ((if_neg h1).trans (if_neg h2))
theorem pn_0 {lt : Nat → Nat} {m : Nat} {P T K : Nat → Nat} {pt : Nat → zS → Option Nat × zS} {p co de le : Nat} (h : ¬ 30 ≤ le) (h1 : ¬ (120 ≤ lt p ∧ lt p ≤ 122)) (h2 : 112 ≤ lt p ∧ lt p < 112 + m) (h3 : P (lt p - 112) = 0) : pnF lt m P T K pt (p, co, de, le) = (some (T (lt p - 112) * zrep (P (lt p - 112))), (p + 1, co + K (lt p - 112), 1, le + 1)) := (if_neg h).trans ((if_neg h1).trans ((if_pos h2).trans (if_pos h3)))
theorem pn_pt {lt : Nat → Nat} {m : Nat} {P T K : Nat → Nat} {pt : Nat → zS → Option Nat × zS} {p co de le : Nat} (h : ¬ 30 ≤ le) (h1 : ¬ (120 ≤ lt p ∧ lt p ≤ 122)) (h2 : 112 ≤ lt p ∧ lt p < 112 + m) (h3 : ¬ P (lt p - 112) = 0) : pnF lt m P T K pt (p, co, de, le) = pt (lt p - 112) (p + 1, co + K (lt p - 112), de, le + 1) := (if_neg h).trans ((if_neg h1).trans ((if_pos h2).trans (if_neg h3)))
theorem pl_0 {nx : zS → Option Nat × zS} {lt : Nat → Nat} {w q a b c dp : Nat} {p co de le : Nat} (h : lt p = 41) : pqF nx lt w 0 q a b c dp (p, co, de, le) = (some (pkN c (zttN (w >>> 4) a b) (zttN w a b) &&& 255), (p + 1, co, dp + 1, le)) := if_pos h
theorem pl_0n {nx : zS → Option Nat × zS} {lt : Nat → Nat} {w q a b c dp : Nat} {p co de le : Nat} (h : ¬ lt p = 41) : pqF nx lt w 0 q a b c dp (p, co, de, le) = (none, (p, co, de, le)) := if_neg h
theorem pl_c {nx : zS → Option Nat × zS} {lt : Nat → Nat} {w j q a b c dp : Nat} {p co de le : Nat} (h : 0 < q ∧ ¬ lt p = 44) : pqF nx lt w (j + 1) q a b c dp (p, co, de, le) = (none, (p, co, de, le)) := if_pos h
def pqG (nx : zS → Option Nat × zS) (lt : Nat → Nat) (w j q a b c dp : Nat) (s : zS) : Option Nat × zS := match nx s with
  | (none, s2) => (none, s2)
  | (some t, s2) => pqF nx lt w j (q + 1) (if q = 0 then t else a) (if q = 1 then t else b) (if q = 2 then t else c) (if dp < s2.2.2.1 then s2.2.2.1 else dp) s2
theorem pl_g0 {nx : zS → Option Nat × zS} {lt : Nat → Nat} {w j a b c dp : Nat} {p co de le : Nat} : pqF nx lt w (j + 1) 0 a b c dp (p, co, de, le) = pqG nx lt w j 0 a b c dp (p, co, de, le) := if_neg (fun h => absurd h.1 (by decide))
theorem pl_gs {nx : zS → Option Nat × zS} {lt : Nat → Nat} {w j q a b c dp : Nat} {p co de le : Nat} (hq : 0 < q) (h : lt p = 44) : pqF nx lt w (j + 1) q a b c dp (p, co, de, le) = pqG nx lt w j q a b c dp (p + 1, co, de, le) := by
  refine (if_neg (fun z => z.2 h)).trans ?_
  simp only [if_pos hq]
  rfl
theorem pl_gn {nx : zS → Option Nat × zS} {lt : Nat → Nat} {w j q a b c dp : Nat} {s s2 : zS} (h : nx s = (none, s2)) : pqG nx lt w j q a b c dp s = (none, s2) := by unfold pqG; rw [h]
theorem pl_gy {nx : zS → Option Nat × zS} {lt : Nat → Nat} {w j q a b c dp t : Nat} {s s2 : zS} (h : nx s = (some t, s2)) : pqG nx lt w j q a b c dp s = pqF nx lt w j (q + 1) (if q = 0 then t else a) (if q = 1 then t else b) (if q = 2 then t else c) (if dp < s2.2.2.1 then s2.2.2.1 else dp) s2 := by unfold pqG; rw [h]
theorem nI_lk1 : (nI 1).toInt = 1 := by decide
set_option maxRecDepth 100000 in
set_option maxHeartbeats 4000000 in
theorem st_38_29 {sc : Nat × (Nat → Int32)} {d : Nat} {M : zM} {len m : Nat} {Y P T K : Nat → Nat} {o c p co de le : Nat} {b : Bool} {pt : Nat → zS → Option Nat × zS} (hsg : sgC M m P T K) (htx : txC M len Y) (h39 : ∀ (i : Nat) (s : zS), i < m → ¬ P i = 0 → okS len s → zC 47 sc (d + 4) 39 [.ref 26, .ref (3 + i), .int (nI o)] (rdQ M s) (some (.int (zoi (pt i s).1))) (rdQ M (pt i s).2)) (hpl : p < len) (hc : Y p = c) (hde : de ≤ 9) (hle : le ≤ 30) (hb : b = decide (120 ≤ c ∧ c ≤ 122)) : zK 47 sc (zC 47 sc (d + 4)) 38 (some (.int (zoi (pnF (zlt len Y) m P T K pt (p, co, de, le)).1))) (rdQ M (pnF (zlt len Y) m P T K pt (p, co, de, le)).2) 29 [.ref 26, .int (nI o), .int (nI c), .null, .null] [.int (zB b)] (rdM M p co de le) := by
  obtain ⟨hm6, hmn, hR, hS⟩ := id hsg
  obtain ⟨hln, hl8, hB⟩ := id htx
  have hlc : zlt len Y p = c := by unfold zlt; rw [if_pos hpl]; exact hc
  have hc256 : c < 256 := by rw [← hc]; exact (hB p hpl).2
  have hh := zhas_112 m (by omega) c hc256
  refine zK.blk rfl ?_
  refine p_istoren_3 rfl ?_
  refine p_aloadn_0 ?_
  refine p_geti (v := nI le) rfl rfl rfl ?_
  refine p_bipush (v := nI 30) (by decide) ?_
  refine p_icmpN_ge (tgt := 57) (by decide) (by omega) (by omega) (fun hc36 => ?_) (fun hc36 => ?_)
  · skip
    rw [pn_30 hc36]
    refine zK.blk rfl ?_
    refine p_iconst (v := -1) (by decide) ?_
    exact p_iret trivial rfl rfl
  · skip
    refine p_iloadn_3 ?_
    refine p_ifB_ne (tgt := 59) (by decide) (fun hc40 => ?_) (fun hc40 => ?_)
    · skip
      have hpb : 120 ≤ c ∧ c ≤ 122 := of_decide_eq_true (hb.symm.trans hc40)
      have hpb2 : 112 ≤ c ∧ (c < 112 + m ∨ 120 ≤ c) := ⟨by omega, Or.inr hpb.1⟩
      refine zK.blk rfl ?_
      refine p_aloadn_0 ?_
      refine p_dupa ?_
      refine p_geti (v := nI p) rfl rfl rfl ?_
      refine p_iconst (v := nI 1) (by decide) ?_
      refine p_iaddN ?_
      refine p_put rfl rfl (by simp) ?_
      rw [rdM_2]
      refine p_aloadn_0 ?_
      refine p_dupa ?_
      refine p_geti (v := nI le) rfl rfl rfl ?_
      refine p_iconst (v := nI 1) (by decide) ?_
      refine p_iaddN ?_
      refine p_put rfl rfl (by simp) ?_
      rw [rdM_6]
      refine p_iloadn_3 ?_
      refine p_ifB_eq (tgt := 96) (by decide) (fun hc80 => ?_) (fun hc80 => ?_)
      · skip
        have hnb : ¬ (120 ≤ zlt len Y p ∧ zlt len Y p ≤ 122) := by rw [hlc]; have := of_decide_eq_false (hb.symm.trans hc80); exact this
        have hcm : c < 112 + m := by rw [hlc] at hnb; omega
        have hPc := hR (c - 112) (by omega)
        have hwc := zwide_lt _ hPc.1 _ hPc.2.1
        refine zK.blk rfl ?_
        refine p_aloadn_0 ?_
        refine p_getr rfl rfl ?_
        refine p_getr rfl rfl ?_
        refine p_iloadn_2 ?_
        refine p_bipush (v := nI 112) (by decide) ?_
        refine p_isubN (by omega) ?_
        refine p_aald rfl (by omega) (by decide) (zget_sg (by omega)) ?_
        refine p_astore_4 rfl ?_
        refine p_aloadn_0 ?_
        refine p_dupa ?_
        refine p_geti (v := nI co) rfl rfl rfl ?_
        refine p_aload_4 ?_
        refine p_geti (zlay_sg (by omega)) rfl (((rd_sg hsg).2.2.2 _ (by omega)).2.2.1) ?_
        refine p_iaddN ?_
        refine p_put rfl rfl (by simp) ?_
        rw [rdM_4]
        refine p_aload_4 ?_
        refine p_geti (zlay_sg (by omega)) rfl (((rd_sg hsg).2.2.2 _ (by omega)).1) ?_
        refine p_ifN_ne (tgt := 143) (by decide) (by omega) (fun hc129 => ?_) (fun hc129 => ?_)
        · skip
          have h0 : ¬ P (c - 112) = 0 := by omega
          rw [pn_pt (by omega) hnb (by rw [hlc]; omega) (by rw [hlc]; exact h0), hlc]
          refine zK.blk rfl ?_
          refine p_aloadn_0 ?_
          refine p_aload_4 ?_
          refine p_iloadn_1 ?_
          refine p_cv2i rfl rfl rfl rfl rfl (h39 (c - 112) (p + 1, co + K (c - 112), de, le + 1) (by omega) h0 ⟨by show p + 1 ≤ len; omega, by show le + 1 ≤ 30; omega, hde⟩) ?_
          exact p_iret trivial rfl rfl
        · skip
          have h0 : P (c - 112) = 0 := by omega
          rw [pn_0 (by omega) hnb (by rw [hlc]; omega) (by rw [hlc]; exact h0), hlc]
          refine p_aloadn_0 ?_
          refine p_iconst (v := nI 1) (by decide) ?_
          refine p_put rfl rfl (by simp) ?_
          rw [rdM_5]
          refine p_aload_4 ?_
          refine p_geti (zlay_sg (by omega)) rfl (((rd_sg hsg).2.2.2 _ (by omega)).2.2.2.1) ?_
          exact p_iret trivial rfl rfl
      · skip
        have hpb : 120 ≤ c ∧ c ≤ 122 := of_decide_eq_true (hb.symm.trans hc80)
        rw [pn_pl (by omega) (by rw [hlc]; exact hpb), hlc]
        refine p_aloadn_0 ?_
        refine p_iconst (v := nI 0) (by decide) ?_
        refine p_put rfl rfl (by simp) ?_
        rw [rdM_5]
        refine p_iloadn_2 ?_
        refine p_bipush (v := nI 120) (by decide) ?_
        refine p_isubN (by omega) ?_
        refine p_cs1i rfl rfl rfl rfl rfl (c_2 (by omega)) ?_
        exact p_iret trivial rfl rfl
    · skip
      refine p_aloadn_0 ?_
      refine p_getr rfl rfl ?_
      refine p_iloadn_2 ?_
      refine p_bipush (v := nI 112) (by decide) ?_
      refine p_isub ?_
      refine p_cv1i rfl rfl rfl rfl rfl (c_24 (rd_sg hsg)) ?_
      refine p_ifB_ne (tgt := 59) (by decide) (fun hc54 => ?_) (fun hc54 => ?_)
      · skip
        rw [hh] at hc54; simp only [Bool.and_eq_true, Bool.and_eq_false_iff, decide_eq_true_eq, decide_eq_false_iff_not] at hc54
        have hpb2 : 112 ≤ c ∧ (c < 112 + m ∨ 120 ≤ c) := ⟨hc54.1, Or.inl hc54.2⟩
        refine zK.blk rfl ?_
        refine p_aloadn_0 ?_
        refine p_dupa ?_
        refine p_geti (v := nI p) rfl rfl rfl ?_
        refine p_iconst (v := nI 1) (by decide) ?_
        refine p_iaddN ?_
        refine p_put rfl rfl (by simp) ?_
        rw [rdM_2]
        refine p_aloadn_0 ?_
        refine p_dupa ?_
        refine p_geti (v := nI le) rfl rfl rfl ?_
        refine p_iconst (v := nI 1) (by decide) ?_
        refine p_iaddN ?_
        refine p_put rfl rfl (by simp) ?_
        rw [rdM_6]
        refine p_iloadn_3 ?_
        refine p_ifB_eq (tgt := 96) (by decide) (fun hc80 => ?_) (fun hc80 => ?_)
        · skip
          have hnb : ¬ (120 ≤ zlt len Y p ∧ zlt len Y p ≤ 122) := by rw [hlc]; have := of_decide_eq_false (hb.symm.trans hc80); exact this
          have hcm : c < 112 + m := by rw [hlc] at hnb; omega
          have hPc := hR (c - 112) (by omega)
          have hwc := zwide_lt _ hPc.1 _ hPc.2.1
          refine zK.blk rfl ?_
          refine p_aloadn_0 ?_
          refine p_getr rfl rfl ?_
          refine p_getr rfl rfl ?_
          refine p_iloadn_2 ?_
          refine p_bipush (v := nI 112) (by decide) ?_
          refine p_isubN (by omega) ?_
          refine p_aald rfl (by omega) (by decide) (zget_sg (by omega)) ?_
          refine p_astore_4 rfl ?_
          refine p_aloadn_0 ?_
          refine p_dupa ?_
          refine p_geti (v := nI co) rfl rfl rfl ?_
          refine p_aload_4 ?_
          refine p_geti (zlay_sg (by omega)) rfl (((rd_sg hsg).2.2.2 _ (by omega)).2.2.1) ?_
          refine p_iaddN ?_
          refine p_put rfl rfl (by simp) ?_
          rw [rdM_4]
          refine p_aload_4 ?_
          refine p_geti (zlay_sg (by omega)) rfl (((rd_sg hsg).2.2.2 _ (by omega)).1) ?_
          refine p_ifN_ne (tgt := 143) (by decide) (by omega) (fun hc129 => ?_) (fun hc129 => ?_)
          · skip
            have h0 : ¬ P (c - 112) = 0 := by omega
            rw [pn_pt (by omega) hnb (by rw [hlc]; omega) (by rw [hlc]; exact h0), hlc]
            refine zK.blk rfl ?_
            refine p_aloadn_0 ?_
            refine p_aload_4 ?_
            refine p_iloadn_1 ?_
            refine p_cv2i rfl rfl rfl rfl rfl (h39 (c - 112) (p + 1, co + K (c - 112), de, le + 1) (by omega) h0 ⟨by show p + 1 ≤ len; omega, by show le + 1 ≤ 30; omega, hde⟩) ?_
            exact p_iret trivial rfl rfl
          · skip
            have h0 : P (c - 112) = 0 := by omega
            rw [pn_0 (by omega) hnb (by rw [hlc]; omega) (by rw [hlc]; exact h0), hlc]
            refine p_aloadn_0 ?_
            refine p_iconst (v := nI 1) (by decide) ?_
            refine p_put rfl rfl (by simp) ?_
            rw [rdM_5]
            refine p_aload_4 ?_
            refine p_geti (zlay_sg (by omega)) rfl (((rd_sg hsg).2.2.2 _ (by omega)).2.2.2.1) ?_
            exact p_iret trivial rfl rfl
        · skip
          have hpb : 120 ≤ c ∧ c ≤ 122 := of_decide_eq_true (hb.symm.trans hc80)
          rw [pn_pl (by omega) (by rw [hlc]; exact hpb), hlc]
          refine p_aloadn_0 ?_
          refine p_iconst (v := nI 0) (by decide) ?_
          refine p_put rfl rfl (by simp) ?_
          rw [rdM_5]
          refine p_iloadn_2 ?_
          refine p_bipush (v := nI 120) (by decide) ?_
          refine p_isubN (by omega) ?_
          refine p_cs1i rfl rfl rfl rfl rfl (c_2 (by omega)) ?_
          exact p_iret trivial rfl rfl
      · skip
        rw [hh] at hc54; simp only [Bool.and_eq_true, Bool.and_eq_false_iff, decide_eq_true_eq, decide_eq_false_iff_not] at hc54
        have hnb : ¬ (120 ≤ zlt len Y p ∧ zlt len Y p ≤ 122) := by rw [hlc]; have := of_decide_eq_false (hb.symm.trans hc40); exact this
        rw [pn_no hnb (by rw [hlc]; omega)]
        refine zK.blk rfl ?_
        refine p_iconst (v := -1) (by decide) ?_
        exact p_iret trivial rfl rfl
set_option maxRecDepth 100000 in
set_option maxHeartbeats 4000000 in
theorem st_38 {sc : Nat × (Nat → Int32)} {d : Nat} {M : zM} {len m : Nat} {Y P T K : Nat → Nat} {o : Nat} {s : zS} {pt : Nat → zS → Option Nat × zS} (hsg : sgC M m P T K) (htx : txC M len Y) (h39 : ∀ (i : Nat) (s : zS), i < m → ¬ P i = 0 → okS len s → zC 47 sc (d + 4) 39 [.ref 26, .ref (3 + i), .int (nI o)] (rdQ M s) (some (.int (zoi (pt i s).1))) (rdQ M (pt i s).2)) (hs : okS len s) : zC 47 sc (d + 5) 38 [.ref 26, .int (nI o)] (rdQ M s) (some (.int (zoi (pnF (zlt len Y) m P T K pt s).1))) (rdQ M (pnF (zlt len Y) m P T K pt s).2) := by
  obtain ⟨p, co, de, le⟩ := s
  obtain ⟨hm6, hmn, hR, hS⟩ := id hsg
  obtain ⟨hln, hl8, hB⟩ := id htx
  obtain ⟨hp1, hp2, hp3⟩ := hs
  dsimp only at hp1 hp2 hp3
  refine z_enter (L := [.ref 26, .int (nI o), .null, .null, .null]) rfl rfl rfl ?_
  show zK 47 sc (zC 47 sc (d + 4)) 38 (some (.int (zoi (pnF (zlt len Y) m P T K pt (p, co, de, le)).1))) (rdQ M (pnF (zlt len Y) m P T K pt (p, co, de, le)).2) 0 [.ref 26, .int (nI o), .null, .null, .null] [] (rdM M p co de le)
  by_cases hpl : p < len
  · have hzb : zby len Y p = nI (Y p) := if_pos hpl
    have hc256 := (hB p hpl).2
    refine zK.blk rfl ?_
    refine p_aloadn_0 ?_
    refine p_getr rfl rfl ?_
    refine p_aloadn_0 ?_
    refine p_geti (v := nI p) rfl rfl rfl ?_
    refine p_cv1i rfl rfl rfl rfl rfl (c_36 (rd_tx htx) (by omega)) ?_
    rw [hzb]
    refine p_istoren_2 rfl ?_
    refine p_iloadn_2 ?_
    refine p_bipush (v := nI 120) (by decide) ?_
    refine p_icmpN_lt (tgt := 28) (by decide) (by omega) (by omega) (fun hc15 => ?_) (fun hc15 => ?_)
    · skip
      refine zK.blk rfl ?_
      refine p_iconst (v := zB false) (by decide) ?_
      exact st_38_29 hsg htx h39 hpl rfl hp3 hp2 (by first | exact (decide_eq_true (by omega)).symm | exact (decide_eq_false (by omega)).symm)
    · skip
      refine p_iloadn_2 ?_
      refine p_bipush (v := nI 122) (by decide) ?_
      refine p_icmpN_gt (tgt := 28) (by decide) (by omega) (by omega) (fun hc21 => ?_) (fun hc21 => ?_)
      · skip
        refine zK.blk rfl ?_
        refine p_iconst (v := zB false) (by decide) ?_
        exact st_38_29 hsg htx h39 hpl rfl hp3 hp2 (by first | exact (decide_eq_true (by omega)).symm | exact (decide_eq_false (by omega)).symm)
      · skip
        refine p_iconst (v := zB true) (by decide) ?_
        refine p_goto (tgt := 29) (by decide) ?_
        exact st_38_29 hsg htx h39 hpl rfl hp3 hp2 (by first | exact (decide_eq_true (by omega)).symm | exact (decide_eq_false (by omega)).symm)
  · have hzb : zby len Y p = -1 := if_neg hpl
    have hlz : zlt len Y p = 0 := if_neg hpl
    rw [pn_no (by rw [hlz]; omega) (by rw [hlz]; omega)]
    refine zK.blk rfl ?_
    refine p_aloadn_0 ?_
    refine p_getr rfl rfl ?_
    refine p_aloadn_0 ?_
    refine p_geti (v := nI p) rfl rfl rfl ?_
    refine p_cv1i rfl rfl rfl rfl rfl (c_36 (rd_tx htx) (by omega)) ?_
    rw [hzb]
    refine p_istoren_2 rfl ?_
    refine p_iloadn_2 ?_
    refine p_bipush (v := nI 120) (by decide) ?_
    refine p_icmp_lt (tgt := 28) (by decide) (fun hc15 => ?_) (fun hc15 => ?_)
    · skip
      refine zK.blk rfl ?_
      refine p_iconst (v := zB false) (by decide) ?_
      refine zK.blk rfl ?_
      refine p_istoren_3 rfl ?_
      refine p_aloadn_0 ?_
      refine p_geti (v := nI le) rfl rfl rfl ?_
      refine p_bipush (v := nI 30) (by decide) ?_
      refine p_icmpN_ge (tgt := 57) (by decide) (by omega) (by omega) (fun hc36 => ?_) (fun hc36 => ?_)
      · skip
        refine zK.blk rfl ?_
        refine p_iconst (v := -1) (by decide) ?_
        exact p_iret trivial rfl rfl
      · skip
        refine p_iloadn_3 ?_
        refine p_ifB_ne (tgt := 59) (by decide) (fun hc40 => ?_) (fun hc40 => ?_)
        · skip
          cases hc40 --STOP
        · skip
          refine p_aloadn_0 ?_
          refine p_getr rfl rfl ?_
          refine p_iloadn_2 ?_
          refine p_bipush (v := nI 112) (by decide) ?_
          refine p_isub ?_
          refine p_cv1i rfl rfl rfl rfl rfl (c_24 (rd_sg hsg)) ?_
          refine p_ifB_ne (tgt := 59) (by decide) (fun hc54 => ?_) (fun hc54 => ?_)
          · skip
            rw [zhas_m1 m (by omega)] at hc54; cases hc54 --STOP
          · skip
            refine zK.blk rfl ?_
            refine p_iconst (v := -1) (by decide) ?_
            exact p_iret trivial rfl rfl
    · skip
      exact absurd (by decide) hc15 --STOP
set_option maxRecDepth 100000 in
set_option maxHeartbeats 4000000 in
theorem st_39_0 {sc : Nat × (Nat → Int32)} {d : Nat} {M : zM} {i : Nat} : zC 47 sc (d + 4) 39 [.ref 26, .ref (3 + i), .int (nI 8)] M (some (.int (-1))) M := by
  refine z_enter (L := [.ref 26, .ref (3 + i), .int (nI 8), .null, .null, .null, .null, .null, .null]) rfl rfl rfl ?_
  refine zK.blk rfl ?_
  refine p_iloadn_2 ?_
  refine p_bipush (v := nI 8) (by decide) ?_
  refine p_icmpN_ge (tgt := 15) (by decide) (by omega) (by omega) (fun hc3 => ?_) (fun hc3 => ?_)
  · skip
    refine zK.blk rfl ?_
    refine p_iconst (v := -1) (by decide) ?_
    exact p_iret trivial rfl rfl
  · skip
    exact absurd hc3 (by omega) --STOP
set_option maxRecDepth 100000 in
set_option maxHeartbeats 4000000 in
theorem st_39_56 {sc : Nat × (Nat → Int32)} {d : Nat} {M : zM} {len m : Nat} {Y P T K : Nat → Nat} {i o : Nat} {nx : zS → Option Nat × zS} {j q a b c dp : Nat} {s : zS} (hsg : sgC M m P T K) (htx : txC M len Y) (hi : i < m) (h38 : ∀ s : zS, okS len s → zC 47 sc (d + 3) 38 [.ref 26, .int (nI (o + 1))] (rdQ M s) (some (.int (zoi (nx s).1))) (rdQ M (nx s).2)) (hnx : ∀ s : zS, okS len s → okS len (nx s).2 ∧ ∀ t, (nx s).1 = some t → t < 256) (hq : q + j + 1 = P i) (hs : okS len s) (hdp : dp ≤ 9) (ha : a < 256) (hb : b < 256) (hc : c < 256) (ih : ∀ (a b c dp : Nat) (s : zS), dp ≤ 9 → okS len s → a < 256 → b < 256 → c < 256 → zK 47 sc (zC 47 sc (d + 3)) 39 (some (.int (zoi (pqF nx (zlt len Y) (T i * zrep (P i)) j (q + 1) a b c dp s).1))) (rdQ M (pqF nx (zlt len Y) (T i * zrep (P i)) j (q + 1) a b c dp s).2) 31 [.ref 26, .ref (3 + i), .int (nI o), .int (nI a), .int (nI b), .int (nI c), .int (nI dp), .int (nI (q + 1)), .null] [] (rdQ M s)) : zK 47 sc (zC 47 sc (d + 3)) 39 (some (.int (zoi (pqG nx (zlt len Y) (T i * zrep (P i)) j q a b c dp s).1))) (rdQ M (pqG nx (zlt len Y) (T i * zrep (P i)) j q a b c dp s).2) 56 [.ref 26, .ref (3 + i), .int (nI o), .int (nI a), .int (nI b), .int (nI c), .int (nI dp), .int (nI q), .null] [] (rdQ M s) := by
  obtain ⟨hm6, hmn, hR, hS⟩ := id hsg
  have hPi := hR i hi
  have hwi := zwide_lt _ hPi.1 _ hPi.2.1
  have hcall := h38 s hs
  have hfa := hnx s hs
  rcases hr : nx s with ⟨ot, s2⟩
  rw [hr] at hcall hfa
  cases ot with
  | none =>
    rw [pl_gn hr]
    refine zK.blk rfl ?_
    refine p_aloadn_0 ?_
    refine p_iloadn_2 ?_
    refine p_iconst (v := nI 1) (by decide) ?_
    refine p_iaddN ?_
    refine p_cv1i rfl rfl rfl rfl rfl (hcall) ?_
    refine p_istore_8 rfl ?_
    refine p_iload_8 ?_
    refine p_iconst (v := -1) (by decide) ?_
    refine p_icmp_ne (tgt := 73) (by decide) (fun hc68 => ?_) (fun hc68 => ?_)
    · skip
      exact absurd rfl hc68 --STOP
    · skip
      refine p_iconst (v := -1) (by decide) ?_
      exact p_iret trivial rfl rfl
  | some t =>
    rw [pl_gy hr]
    have ht256 := hfa.2 t rfl
    have hok2 : okS len s2 := hfa.1
    have hdp2 : (if dp < s2.2.2.1 then s2.2.2.1 else dp) ≤ 9 := by have := hok2.2.2; split <;> omega
    refine zK.blk rfl ?_
    refine p_aloadn_0 ?_
    refine p_iloadn_2 ?_
    refine p_iconst (v := nI 1) (by decide) ?_
    refine p_iaddN ?_
    refine p_cv1i rfl rfl rfl rfl rfl (hcall) ?_
    refine p_istore_8 rfl ?_
    refine p_iload_8 ?_
    refine p_iconst (v := -1) (by decide) ?_
    refine p_icmp_ne (tgt := 73) (by decide) (fun hc68 => ?_) (fun hc68 => absurd (Classical.not_not.mp hc68) (fun z => nI_nm1 (show t < 2 ^ 31 by omega) z))
    refine zK.blk rfl ?_
    refine p_iload_6 ?_
    refine p_aloadn_0 ?_
    refine p_geti (v := nI s2.2.2.1) rfl rfl rfl ?_
    refine p_max rfl rfl ?_
    rw [zN_max (by omega) (by have := hok2.2.2; omega)]
    refine p_istore_6 rfl ?_
    refine p_iload_7 ?_
    rcases (show q = 0 ∨ q = 1 ∨ q = 2 by omega) with rfl | rfl | rfl
    · refine p_lk (off := 26) (tgt := 112) rfl (by decide) (by decide) ?_
      refine zK.blk rfl ?_
      refine p_iload_8 ?_
      refine p_istoren_3 rfl ?_
      refine p_goto (tgt := 129) (by decide) ?_
      refine zK.blk rfl ?_
      refine p_iinc_7 (zN_inc _ 1) rfl ?_
      refine p_goto (tgt := 31) (by decide) ?_
      refine zK.forget _ ?_ (ih _ _ _ _ s2 hdp2 hok2 (by first | exact ht256 | assumption) (by first | exact ht256 | assumption) (by first | exact ht256 | assumption))
      exact ⟨Or.inl rfl, Or.inl rfl, Or.inl rfl, Or.inl rfl, Or.inl rfl, Or.inl rfl, Or.inl rfl, Or.inl rfl, Or.inr rfl, trivial⟩
    · refine p_lk (off := 32) (tgt := 118) rfl (by decide) (by decide) ?_
      refine zK.blk rfl ?_
      refine p_iload_8 ?_
      refine p_istore_4 rfl ?_
      refine p_goto (tgt := 129) (by decide) ?_
      refine zK.blk rfl ?_
      refine p_iinc_7 (zN_inc _ 1) rfl ?_
      refine p_goto (tgt := 31) (by decide) ?_
      refine zK.forget _ ?_ (ih _ _ _ _ s2 hdp2 hok2 (by first | exact ht256 | assumption) (by first | exact ht256 | assumption) (by first | exact ht256 | assumption))
      exact ⟨Or.inl rfl, Or.inl rfl, Or.inl rfl, Or.inl rfl, Or.inl rfl, Or.inl rfl, Or.inl rfl, Or.inl rfl, Or.inr rfl, trivial⟩
    · refine p_lk (off := 39) (tgt := 125) rfl (by decide) (by decide) ?_
      refine zK.blk rfl ?_
      refine p_iload_8 ?_
      refine p_istore_5 rfl ?_
      refine zK.blk rfl ?_
      refine p_iinc_7 (zN_inc _ 1) rfl ?_
      refine p_goto (tgt := 31) (by decide) ?_
      refine zK.forget _ ?_ (ih _ _ _ _ s2 hdp2 hok2 (by first | exact ht256 | assumption) (by first | exact ht256 | assumption) (by first | exact ht256 | assumption))
      exact ⟨Or.inl rfl, Or.inl rfl, Or.inl rfl, Or.inl rfl, Or.inl rfl, Or.inl rfl, Or.inl rfl, Or.inl rfl, Or.inr rfl, trivial⟩
set_option maxRecDepth 100000 in
set_option maxHeartbeats 4000000 in
theorem lp_39_31 {sc : Nat × (Nat → Int32)} {d : Nat} {M : zM} {len m : Nat} {Y P T K : Nat → Nat} {i o : Nat} {nx : zS → Option Nat × zS} (hsg : sgC M m P T K) (htx : txC M len Y) (hi : i < m) (h38 : ∀ s : zS, okS len s → zC 47 sc (d + 3) 38 [.ref 26, .int (nI (o + 1))] (rdQ M s) (some (.int (zoi (nx s).1))) (rdQ M (nx s).2)) (hnx : ∀ s : zS, okS len s → okS len (nx s).2 ∧ ∀ t, (nx s).1 = some t → t < 256) : ∀ (j q a b c dp : Nat) (s : zS), q + j = P i → dp ≤ 9 → okS len s → a < 256 → b < 256 → c < 256 → zK 47 sc (zC 47 sc (d + 3)) 39 (some (.int (zoi (pqF nx (zlt len Y) (T i * zrep (P i)) j q a b c dp s).1))) (rdQ M (pqF nx (zlt len Y) (T i * zrep (P i)) j q a b c dp s).2) 31 [.ref 26, .ref (3 + i), .int (nI o), .int (nI a), .int (nI b), .int (nI c), .int (nI dp), .int (nI q), .null] [] (rdQ M s) := by
  obtain ⟨hm6, hmn, hR, hS⟩ := id hsg
  have hPi := hR i hi
  have hwi := zwide_lt _ hPi.1 _ hPi.2.1
  obtain ⟨hln, hl8, hB⟩ := id htx
  intro j
  induction j with
  | zero =>
    intro q a b c dp s hq hdp hs ha hb hc
    obtain ⟨p, co, de, le⟩ := s
    obtain ⟨hp1, hp2, hp3⟩ := id hs
    dsimp only at hp1 hp2 hp3
    have hqq : q = P i := by omega
    subst hqq
    show zK 47 sc (zC 47 sc (d + 3)) 39 (some (.int (zoi (pqF nx (zlt len Y) (T i * zrep (P i)) 0 (P i) a b c dp (p, co, de, le)).1))) (rdQ M (pqF nx (zlt len Y) (T i * zrep (P i)) 0 (P i) a b c dp (p, co, de, le)).2) 31 [.ref 26, .ref (3 + i), .int (nI o), .int (nI a), .int (nI b), .int (nI c), .int (nI dp), .int (nI (P i)), .null] [] (rdM M p co de le)
    by_cases h41 : zlt len Y p = 41
    · have h41y := zlt_y (by decide) h41
      rw [pl_0 h41]
      refine zK.blk rfl ?_
      refine p_iload_7 ?_
      refine p_aloadn_1 ?_
      refine p_geti (zlay_sg (by omega)) rfl (((rd_sg hsg).2.2.2 _ (by omega)).1) ?_
      refine p_icmpN_ge (tgt := 135) (by decide) (by omega) (by omega) (fun hc37 => ?_) (fun hc37 => ?_)
      · skip
        refine zK.blk rfl ?_
        refine p_aloadn_0 ?_
        refine p_bipush (v := nI 41) (by decide) ?_
        refine p_cv1i rfl rfl rfl rfl rfl (c_40y (rd_tx htx) rfl (by omega) h41y.1 h41y.2) ?_
        rw [rdM_2]
        refine p_ifN_ne (tgt := 146) (by decide) (by omega) (fun hc141 => ?_) (fun hc141 => ?_)
        · skip
          refine zK.blk rfl ?_
          refine p_aloadn_0 ?_
          refine p_iload_6 ?_
          refine p_iconst (v := nI 1) (by decide) ?_
          refine p_iaddN ?_
          refine p_put rfl rfl (by simp) ?_
          rw [rdM_5]
          refine p_aloadn_1 ?_
          refine p_geti (zlay_sg (by omega)) rfl (((rd_sg hsg).2.2.2 _ (by omega)).2.2.2.1) ?_
          refine p_iloadn_3 ?_
          refine p_iload_4 ?_
          refine p_iload_5 ?_
          refine p_cs4i rfl rfl rfl rfl rfl (c_7 (by omega)) ?_
          refine p_iconst (v := nI 3) (by decide) ?_
          refine p_cs1i rfl rfl rfl rfl rfl (c_1 (by decide)) ?_
          refine p_iandN ?_
          exact p_iret trivial rfl rfl
        · skip
          exact absurd (by decide) hc141 --STOP
      · skip
        exact absurd hc37 (by omega) --STOP
    · rw [pl_0n h41]
      refine zK.blk rfl ?_
      refine p_iload_7 ?_
      refine p_aloadn_1 ?_
      refine p_geti (zlay_sg (by omega)) rfl (((rd_sg hsg).2.2.2 _ (by omega)).1) ?_
      refine p_icmpN_ge (tgt := 135) (by decide) (by omega) (by omega) (fun hc37 => ?_) (fun hc37 => ?_)
      · skip
        refine zK.blk rfl ?_
        refine p_aloadn_0 ?_
        refine p_bipush (v := nI 41) (by decide) ?_
        refine p_cv1i rfl rfl rfl rfl rfl (c_40n (rd_tx htx) rfl (by omega) (by decide) (zlt_n h41)) ?_
        refine p_ifN_ne (tgt := 146) (by decide) (by omega) (fun hc141 => ?_) (fun hc141 => ?_)
        · skip
          exact absurd rfl hc141 --STOP
        · skip
          refine p_iconst (v := -1) (by decide) ?_
          exact p_iret trivial rfl rfl
      · skip
        exact absurd hc37 (by omega) --STOP
  | succ j ih =>
    intro q a b c dp s hq hdp hs ha hb hc
    obtain ⟨p, co, de, le⟩ := s
    obtain ⟨hp1, hp2, hp3⟩ := id hs
    dsimp only at hp1 hp2 hp3
    have ih2 := fun a b c dp s h1 h2 h3 h4 h5 => ih (q + 1) a b c dp s (by omega) h1 h2 h3 h4 h5
    show zK 47 sc (zC 47 sc (d + 3)) 39 (some (.int (zoi (pqF nx (zlt len Y) (T i * zrep (P i)) (j + 1) q a b c dp (p, co, de, le)).1))) (rdQ M (pqF nx (zlt len Y) (T i * zrep (P i)) (j + 1) q a b c dp (p, co, de, le)).2) 31 [.ref 26, .ref (3 + i), .int (nI o), .int (nI a), .int (nI b), .int (nI c), .int (nI dp), .int (nI q), .null] [] (rdM M p co de le)
    by_cases hq0 : q = 0
    · subst hq0
      rw [pl_g0]
      refine zK.blk rfl ?_
      refine p_iload_7 ?_
      refine p_aloadn_1 ?_
      refine p_geti (zlay_sg (by omega)) rfl (((rd_sg hsg).2.2.2 _ (by omega)).1) ?_
      refine p_icmpN_ge (tgt := 135) (by decide) (by omega) (by omega) (fun hc37 => ?_) (fun hc37 => ?_)
      · skip
        exact absurd hc37 (by omega) --STOP
      · skip
        refine p_iload_7 ?_
        refine p_ifN_le (tgt := 56) (by decide) (by omega) (fun hc42 => ?_) (fun hc42 => ?_)
        · skip
          exact st_39_56 (s := (p, co, de, le)) hsg htx hi h38 hnx (by omega) hs hdp ha hb hc ih2
        · skip
          exact absurd (Nat.le_refl 0) hc42 --STOP
    · by_cases h44 : zlt len Y p = 44
      · have h44y := zlt_y (by decide) h44
        rw [pl_gs (by omega) h44]
        refine zK.blk rfl ?_
        refine p_iload_7 ?_
        refine p_aloadn_1 ?_
        refine p_geti (zlay_sg (by omega)) rfl (((rd_sg hsg).2.2.2 _ (by omega)).1) ?_
        refine p_icmpN_ge (tgt := 135) (by decide) (by omega) (by omega) (fun hc37 => ?_) (fun hc37 => ?_)
        · skip
          exact absurd hc37 (by omega) --STOP
        · skip
          refine p_iload_7 ?_
          refine p_ifN_le (tgt := 56) (by decide) (by omega) (fun hc42 => ?_) (fun hc42 => ?_)
          · skip
            exact absurd hc42 (by omega) --STOP
          · skip
            refine p_aloadn_0 ?_
            refine p_bipush (v := nI 44) (by decide) ?_
            refine p_cv1i rfl rfl rfl rfl rfl (c_40y (rd_tx htx) rfl (by omega) h44y.1 h44y.2) ?_
            rw [rdM_2]
            refine p_ifN_ne (tgt := 56) (by decide) (by omega) (fun hc51 => ?_) (fun hc51 => ?_)
            · skip
              exact st_39_56 (s := (p + 1, co, de, le)) hsg htx hi h38 hnx (by omega) ⟨by show p + 1 ≤ len; omega, hp2, hp3⟩ hdp ha hb hc ih2
            · skip
              exact absurd (by decide) hc51 --STOP
      · rw [pl_c ⟨by omega, h44⟩]
        refine zK.blk rfl ?_
        refine p_iload_7 ?_
        refine p_aloadn_1 ?_
        refine p_geti (zlay_sg (by omega)) rfl (((rd_sg hsg).2.2.2 _ (by omega)).1) ?_
        refine p_icmpN_ge (tgt := 135) (by decide) (by omega) (by omega) (fun hc37 => ?_) (fun hc37 => ?_)
        · skip
          exact absurd hc37 (by omega) --STOP
        · skip
          refine p_iload_7 ?_
          refine p_ifN_le (tgt := 56) (by decide) (by omega) (fun hc42 => ?_) (fun hc42 => ?_)
          · skip
            exact absurd hc42 (by omega) --STOP
          · skip
            refine p_aloadn_0 ?_
            refine p_bipush (v := nI 44) (by decide) ?_
            refine p_cv1i rfl rfl rfl rfl rfl (c_40n (rd_tx htx) rfl (by omega) (by decide) (zlt_n h44)) ?_
            refine p_ifN_ne (tgt := 56) (by decide) (by omega) (fun hc51 => ?_) (fun hc51 => ?_)
            · skip
              exact absurd rfl hc51 --STOP
            · skip
              refine p_iconst (v := -1) (by decide) ?_
              exact p_iret trivial rfl rfl
set_option maxRecDepth 100000 in
set_option maxHeartbeats 4000000 in
theorem st_39 {sc : Nat × (Nat → Int32)} {d : Nat} {M : zM} {len m : Nat} {Y P T K : Nat → Nat} {i o : Nat} {nx : zS → Option Nat × zS} {s : zS} (hsg : sgC M m P T K) (htx : txC M len Y) (hi : i < m) (ho : o < 8) (h38 : ∀ s : zS, okS len s → zC 47 sc (d + 3) 38 [.ref 26, .int (nI (o + 1))] (rdQ M s) (some (.int (zoi (nx s).1))) (rdQ M (nx s).2)) (hnx : ∀ s : zS, okS len s → okS len (nx s).2 ∧ ∀ t, (nx s).1 = some t → t < 256) (hs : okS len s) : zC 47 sc (d + 4) 39 [.ref 26, .ref (3 + i), .int (nI o)] (rdQ M s) (some (.int (zoi (ptF nx (zlt len Y) (P i) (T i * zrep (P i)) s).1))) (rdQ M (ptF nx (zlt len Y) (P i) (T i * zrep (P i)) s).2) := by
  obtain ⟨p, co, de, le⟩ := s
  obtain ⟨hln, hl8, hB⟩ := id htx
  obtain ⟨hp1, hp2, hp3⟩ := id hs
  dsimp only at hp1 hp2 hp3
  refine z_enter (L := [.ref 26, .ref (3 + i), .int (nI o), .null, .null, .null, .null, .null, .null]) rfl rfl rfl ?_
  show zK 47 sc (zC 47 sc (d + 3)) 39 (some (.int (zoi (ptF nx (zlt len Y) (P i) (T i * zrep (P i)) (p, co, de, le)).1))) (rdQ M (ptF nx (zlt len Y) (P i) (T i * zrep (P i)) (p, co, de, le)).2) 0 [.ref 26, .ref (3 + i), .int (nI o), .null, .null, .null, .null, .null, .null] [] (rdM M p co de le)
  by_cases h40 : zlt len Y p = 40
  · have h40y := zlt_y (by decide) h40
    rw [show ptF nx (zlt len Y) (P i) (T i * zrep (P i)) (p, co, de, le) = pqF nx (zlt len Y) (T i * zrep (P i)) (P i) 0 0 0 0 0 (p + 1, co, de, le) from if_pos h40]
    refine zK.blk rfl ?_
    refine p_iloadn_2 ?_
    refine p_bipush (v := nI 8) (by decide) ?_
    refine p_icmpN_ge (tgt := 15) (by decide) (by omega) (by omega) (fun hc3 => ?_) (fun hc3 => ?_)
    · skip
      exact absurd hc3 (by omega) --STOP
    · skip
      refine p_aloadn_0 ?_
      refine p_bipush (v := nI 40) (by decide) ?_
      refine p_cv1i rfl rfl rfl rfl rfl (c_40y (rd_tx htx) rfl (by omega) h40y.1 h40y.2) ?_
      rw [rdM_2]
      refine p_ifN_ne (tgt := 17) (by decide) (by omega) (fun hc12 => ?_) (fun hc12 => ?_)
      · skip
        refine zK.blk rfl ?_
        refine p_iconst (v := nI 0) (by decide) ?_
        refine p_istoren_3 rfl ?_
        refine p_iconst (v := nI 0) (by decide) ?_
        refine p_istore_4 rfl ?_
        refine p_iconst (v := nI 0) (by decide) ?_
        refine p_istore_5 rfl ?_
        refine p_iconst (v := nI 0) (by decide) ?_
        refine p_istore_6 rfl ?_
        refine p_iconst (v := nI 0) (by decide) ?_
        refine p_istore_7 rfl ?_
        exact lp_39_31 hsg htx hi h38 hnx (P i) 0 0 0 0 0 (p + 1, co, de, le) (by omega) (by omega) ⟨by show p + 1 ≤ len; omega, hp2, hp3⟩ (by omega) (by omega) (by omega)
      · skip
        exact absurd (by decide) hc12 --STOP
  · rw [show ptF nx (zlt len Y) (P i) (T i * zrep (P i)) (p, co, de, le) = (none, (p, co, de, le)) from if_neg h40]
    refine zK.blk rfl ?_
    refine p_iloadn_2 ?_
    refine p_bipush (v := nI 8) (by decide) ?_
    refine p_icmpN_ge (tgt := 15) (by decide) (by omega) (by omega) (fun hc3 => ?_) (fun hc3 => ?_)
    · skip
      exact absurd hc3 (by omega) --STOP
    · skip
      refine p_aloadn_0 ?_
      refine p_bipush (v := nI 40) (by decide) ?_
      refine p_cv1i rfl rfl rfl rfl rfl (c_40n (rd_tx htx) rfl (by omega) (by decide) (zlt_n h40)) ?_
      refine p_ifN_ne (tgt := 17) (by decide) (by omega) (fun hc12 => ?_) (fun hc12 => ?_)
      · skip
        exact absurd rfl hc12 --STOP
      · skip
        refine zK.blk rfl ?_
        refine p_iconst (v := -1) (by decide) ?_
        exact p_iret trivial rfl rfl
