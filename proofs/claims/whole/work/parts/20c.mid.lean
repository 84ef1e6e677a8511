/-! THE CONSTRUCTORS of Reach and Signs -/
theorem dX5_full_0 : decode cX5_full 0 = .ok (.iconst 1, 1) := by decide +kernel
theorem dX5_full_1 : decode cX5_full 1 = .ok (.iconst 1, 1) := by decide +kernel
theorem dX5_full_2 : decode cX5_full 2 = .ok (.iload_n 0, 1) := by decide +kernel
theorem dX5_full_3 : decode cX5_full 3 = .ok (.ishl, 1) := by decide +kernel
theorem dX5_full_4 : decode cX5_full 4 = .ok (.ishl, 1) := by decide +kernel
theorem dX5_full_5 : decode cX5_full 5 = .ok (.iconst 1, 1) := by decide +kernel
theorem dX5_full_6 : decode cX5_full 6 = .ok (.isub, 1) := by decide +kernel
theorem dX5_full_7 : decode cX5_full 7 = .ok (.ireturn, 1) := by decide +kernel
theorem dX1_init_0 : decode cX1_init 0 = .ok (.aload_n 0, 1) := by decide +kernel
theorem dX1_init_1 : decode cX1_init 1 = .ok (.invokespecial 3, 3) := by decide +kernel
theorem dX1_init_4 : decode cX1_init 4 = .ok (.aload_n 0, 1) := by decide +kernel
theorem dX1_init_5 : decode cX1_init 5 = .ok (.iload_n 1, 1) := by decide +kernel
theorem dX1_init_6 : decode cX1_init 6 = .ok (.putfield 9, 3) := by decide +kernel
theorem dX1_init_9 : decode cX1_init 9 = .ok (.aload_n 0, 1) := by decide +kernel
theorem dX1_init_10 : decode cX1_init 10 = .ok (.iload_n 1, 1) := by decide +kernel
theorem dX1_init_11 : decode cX1_init 11 = .ok (.invokestatic 15, 3) := by decide +kernel
theorem dX1_init_14 : decode cX1_init 14 = .ok (.putfield 21, 3) := by decide +kernel
theorem dX1_init_17 : decode cX1_init 17 = .ok (.aload_n 0, 1) := by decide +kernel
theorem dX1_init_18 : decode cX1_init 18 = .ok (.aload_n 0, 1) := by decide +kernel
theorem dX1_init_19 : decode cX1_init 19 = .ok (.getfield 21, 3) := by decide +kernel
theorem dX1_init_22 : decode cX1_init 22 = .ok (.iconst 1, 1) := by decide +kernel
theorem dX1_init_23 : decode cX1_init 23 = .ok (.iadd, 1) := by decide +kernel
theorem dX1_init_24 : decode cX1_init 24 = .ok (.newarray .int, 2) := by decide +kernel
theorem dX1_init_26 : decode cX1_init 26 = .ok (.putfield 23, 3) := by decide +kernel
theorem dX1_init_29 : decode cX1_init 29 = .ok (.aload_n 0, 1) := by decide +kernel
theorem dX1_init_30 : decode cX1_init 30 = .ok (.aload_n 0, 1) := by decide +kernel
theorem dX1_init_31 : decode cX1_init 31 = .ok (.getfield 21, 3) := by decide +kernel
theorem dX1_init_34 : decode cX1_init 34 = .ok (.iconst 1, 1) := by decide +kernel
theorem dX1_init_35 : decode cX1_init 35 = .ok (.iadd, 1) := by decide +kernel
theorem dX1_init_36 : decode cX1_init 36 = .ok (.newarray .int, 2) := by decide +kernel
theorem dX1_init_38 : decode cX1_init 38 = .ok (.putfield 27, 3) := by decide +kernel
theorem dX1_init_41 : decode cX1_init 41 = .ok (.aload_n 0, 1) := by decide +kernel
theorem dX1_init_42 : decode cX1_init 42 = .ok (.aload_n 0, 1) := by decide +kernel
theorem dX1_init_43 : decode cX1_init 43 = .ok (.getfield 21, 3) := by decide +kernel
theorem dX1_init_46 : decode cX1_init 46 = .ok (.iconst 1, 1) := by decide +kernel
theorem dX1_init_47 : decode cX1_init 47 = .ok (.iadd, 1) := by decide +kernel
theorem dX1_init_48 : decode cX1_init 48 = .ok (.newarray .boolean, 2) := by decide +kernel
theorem dX1_init_50 : decode cX1_init 50 = .ok (.putfield 30, 3) := by decide +kernel
theorem dX1_init_53 : decode cX1_init 53 = .ok (.aload_n 0, 1) := by decide +kernel
theorem dX1_init_54 : decode cX1_init 54 = .ok (.aload_n 0, 1) := by decide +kernel
theorem dX1_init_55 : decode cX1_init 55 = .ok (.getfield 21, 3) := by decide +kernel
theorem dX1_init_58 : decode cX1_init 58 = .ok (.iconst 1, 1) := by decide +kernel
theorem dX1_init_59 : decode cX1_init 59 = .ok (.iadd, 1) := by decide +kernel
theorem dX1_init_60 : decode cX1_init 60 = .ok (.newarray .int, 2) := by decide +kernel
theorem dX1_init_62 : decode cX1_init 62 = .ok (.putfield 34, 3) := by decide +kernel
theorem dX1_init_65 : decode cX1_init 65 = .ok (.return_, 1) := by decide +kernel
theorem dX4_init_0 : decode cX4_init 0 = .ok (.aload_n 0, 1) := by decide +kernel
theorem dX4_init_1 : decode cX4_init 1 = .ok (.invokespecial 3, 3) := by decide +kernel
theorem dX4_init_4 : decode cX4_init 4 = .ok (.aload_n 0, 1) := by decide +kernel
theorem dX4_init_5 : decode cX4_init 5 = .ok (.bipush 6, 2) := by decide +kernel
theorem dX4_init_7 : decode cX4_init 7 = .ok (.anewarray 9, 3) := by decide +kernel
theorem dX4_init_10 : decode cX4_init 10 = .ok (.putfield 11, 3) := by decide +kernel
theorem dX4_init_13 : decode cX4_init 13 = .ok (.iconst 0, 1) := by decide +kernel
theorem dX4_init_14 : decode cX4_init 14 = .ok (.istore_n 1, 1) := by decide +kernel
theorem dX4_init_15 : decode cX4_init 15 = .ok (.iload_n 1, 1) := by decide +kernel
theorem dX4_init_16 : decode cX4_init 16 = .ok (.bipush 6, 2) := by decide +kernel
theorem dX4_init_18 : decode cX4_init 18 = .ok (.if_icmp .ge 22, 3) := by decide +kernel
theorem dX4_init_21 : decode cX4_init 21 = .ok (.aload_n 0, 1) := by decide +kernel
theorem dX4_init_22 : decode cX4_init 22 = .ok (.getfield 11, 3) := by decide +kernel
theorem dX4_init_25 : decode cX4_init 25 = .ok (.iload_n 1, 1) := by decide +kernel
theorem dX4_init_26 : decode cX4_init 26 = .ok (.new 9, 3) := by decide +kernel
theorem dX4_init_29 : decode cX4_init 29 = .ok (.dup, 1) := by decide +kernel
theorem dX4_init_30 : decode cX4_init 30 = .ok (.invokespecial 17, 3) := by decide +kernel
theorem dX4_init_33 : decode cX4_init 33 = .ok (.aastore, 1) := by decide +kernel
theorem dX4_init_34 : decode cX4_init 34 = .ok (.iinc 1 1, 3) := by decide +kernel
theorem dX4_init_37 : decode cX4_init 37 = .ok (.goto (-22), 3) := by decide +kernel
theorem dX4_init_40 : decode cX4_init 40 = .ok (.return_, 1) := by decide +kernel
theorem kg_full : GoodIn zT (va_wsS RX1 15 yX5_full (Cond.code yX5_full cX5_full 1 (some .int) :: zT)) := zT_good (fun w hw => by
  simp only [va_wsS, List.mem_append, List.mem_cons, List.not_mem_nil, or_false] at hw
  rcases hw with (rfl | rfl | rfl) | rfl | hw
  · exact zT_in (i := 109) (by decide +kernel) rfl
  · exact zT_in (i := 110) (by decide +kernel) rfl
  · exact zT_in (i := 32) (by decide +kernel) rfl
  · exact zT_in (i := 111) (by decide +kernel) rfl
  · exact hw)
theorem kw_108 : Cond.methodLink RX1 3 objectInit ∈ zT := zT_in (i := 108) (by decide +kernel) rfl
theorem kw_112 : Cond.fieldLink RX1 9 "FewSigns$Reach" "places" "I" ∈ zT := zT_in (i := 112) (by decide +kernel) rfl
theorem kw_113 : Cond.fieldLink RX1 21 "FewSigns$Reach" "full" "I" ∈ zT := zT_in (i := 113) (by decide +kernel) rfl
theorem kw_142 : Cond.arrayClass .int ∈ zT := zT_in (i := 142) (by decide +kernel) rfl
theorem kw_114 : Cond.fieldLink RX1 23 "FewSigns$Reach" "cost" "[I" ∈ zT := zT_in (i := 114) (by decide +kernel) rfl
theorem kw_115 : Cond.fieldLink RX1 27 "FewSigns$Reach" "way" "[I" ∈ zT := zT_in (i := 115) (by decide +kernel) rfl
theorem kw_143 : Cond.arrayClass .boolean ∈ zT := zT_in (i := 143) (by decide +kernel) rfl
theorem kw_116 : Cond.fieldLink RX1 30 "FewSigns$Reach" "isSettled" "[Z" ∈ zT := zT_in (i := 116) (by decide +kernel) rfl
theorem kw_117 : Cond.fieldLink RX1 34 "FewSigns$Reach" "order" "[I" ∈ zT := zT_in (i := 117) (by decide +kernel) rfl
theorem kw_53 : Cond.methodLink RX4 3 objectInit ∈ zT := zT_in (i := 53) (by decide +kernel) rfl
theorem kw_54 : Cond.classLink RX4 9 RX3 ∈ zT := zT_in (i := 54) (by decide +kernel) rfl
theorem kw_91 : Cond.fieldLink RX4 11 "FewSigns$Signs" "list" "[LFewSigns$Sign;" ∈ zT := zT_in (i := 91) (by decide +kernel) rfl
theorem kw_56 : Cond.instantiable RX3 5 ∈ zT := zT_in (i := 56) (by decide +kernel) rfl
theorem kw_30 : Cond.initialized RX3 ∈ zT := zT_in (i := 30) (by decide +kernel) rfl
theorem kw_58 : Cond.instanceMethod yX3_init ∈ zT := zT_in (i := 58) (by decide +kernel) rfl
theorem kg_X3 : GoodIn zT (Cond.code yX3_init cX3_init 1 none :: zT) := zT_good (fun w hw => by
  rcases List.mem_cons.mp hw with rfl | h
  · exact zT_in (i := 59) (by decide +kernel) rfl
  · exact h)
theorem k_up6 (s0 s1 s2 s3 s4 s5 : Nat) : (va_up (va_up (va_up (va_up (va_up (va_up (fun _ => none) (0 : Int32).toNatClampNeg (some s0)) (1 : Int32).toNatClampNeg (some s1)) (2 : Int32).toNatClampNeg (some s2)) (3 : Int32).toNatClampNeg (some s3)) (4 : Int32).toNatClampNeg (some s4)) (5 : Int32).toNatClampNeg (some s5)) = (fun j => zget [s0, s1, s2, s3, s4, s5] j) := by
  funext j
  match j with
  | 0 => rfl
  | 1 => rfl
  | 2 => rfl
  | 3 => rfl
  | 4 => rfl
  | 5 => rfl
  | n + 6 =>
    have h : ∀ k : Int32, k.toNatClampNeg < 6 → ¬ n + 6 = k.toNatClampNeg := fun k hk => by omega
    simp only [va_up, zget]
    rw [if_neg (h 5 (by decide)), if_neg (h 4 (by decide)), if_neg (h 3 (by decide)), if_neg (h 2 (by decide)), if_neg (h 1 (by decide)), if_neg (h 0 (by decide))]
set_option maxHeartbeats 4000000 in
set_option maxRecDepth 100000 in
theorem k_full (l : Launch) (dC : Nat → ClassId) (dI : Nat → Nat → Nat) (ad0 : Nat → Nat) (sc : Nat × (Nat → Int32)) (sz : Nat) (x r0 : Int32) (hr0 : (1 : Int32) <<< ((1 : Int32) <<< (x &&& 31) &&& 31) - 1 = r0) : Met l yX5_full (Cond.code yX5_full cX5_full 1 (some .int) :: zT) { frames := 0, cells := 0, slots := 0, locals := 0 } (va_Pc [.int x] (kPre dC dI ad0 sc [] [] sz)) (va_Qi (fun (r : Int32) (u : kU) => r = r0 ∧ u = ([], [])) (kB dC dI (va_A [] sz)) (va_A [] sz)) 0 0 (va_A [] sz) := by
  refine Met.ofW (cc := cX5_full) (maxL := 1) (ret := some .int) (by decide) rfl ?_
  intro p e s m args below meth c s₁ B hml hv
  obtain ⟨rfl, hsz, hP, hK, hD0, hX, hRO⟩ := hv
  have hx := B.exec
  have hb := B.bytes
  have hr := B.returns
  subst hsz
  have hD := hD0.self (sz := s.heap.size)
  generalize hAe : va_A [] s.heap.size = A at hD ⊢
  have hA : ∀ q : Nat, s.heap.size ≤ q → A q := fun q h => by rw [← hAe]; exact Or.inr h
  have hS : va_S A s.heap s.heap [] := va_S.rf
  have hl := lv_entry [.int x] (n := 1) (Nat.le_of_ble_eq_true rfl)
  rw [lg_entry_eq]
  generalize (lg_sl [.int x] ++ List.replicate (1 - (lg_sl [.int x]).length) Slot.unset).toArray = ls at hl ⊢
  have hl : lv_has ls 1 [(0, .int x)] := hl
  refine lv_iconst (v := 1) hx hb dX5_full_0 (by decide) ?_
  refine lv_iconst (v := 1) hx hb dX5_full_1 (by decide) ?_
  refine lv_iload_n hx hb dX5_full_2 rfl (lv_at hl 0 rfl) ?_
  refine lv_ishl hx hb dX5_full_3 ?_
  refine lv_ishl hx hb dX5_full_4 ?_
  refine lv_iconst (v := 1) hx hb dX5_full_5 (by decide) ?_
  refine lv_isub hx hb dX5_full_6 ?_
  refine lv_topi (fun r er => ?_)
  exact W.iret (v := r) hx hb hr (fun t ht hW => ⟨⟨r, ([], []), rfl, ⟨er.trans hr0, rfl⟩, by rw [ht]; exact hP, va_K.moved hW.alike hK, hD⟩, hS.F ht⟩) hS.2.2 dX5_full_7
set_option maxHeartbeats 4000000 in
set_option maxRecDepth 100000 in
theorem kX1_1 (l : Launch) (ad0 : Nat → Nat) (sc : Nat × (Nat → Int32)) (h : Nat) : kMet l yX1_init cX1_init 2 1 20 4 16 [.ref h, .int 1] ad0 sc [(h, .inr (1, [.int 0, .int 0, .null, .null, .null, .null, .int 0, .int 0, .int 0]))] [] (fun u => ∃ q1 c1 q2 c2 q3 c3 q4 c4, u = ([(h, .inr (1, [.int 1, .int 3, .ref q1, .ref q2, .ref q3, .ref q4, .int 0, .int 0, .int 0])), (q1, .inl (c1, 4, .inl (fun _ => 0))), (q2, .inl (c2, 4, .inl (fun _ => 0))), (q3, .inl (c3, 4, .inl (fun _ => 0))), (q4, .inl (c4, 4, .inl (fun _ => 0)))], [(c1, .int), (c2, .int), (c3, .boolean), (c4, .int)])) := by
  unfold kMet
  intro dC dI sz
  refine Met.ofW (cc := cX1_init) (maxL := 2) (ret := none) (by decide) rfl ?_
  intro p e s m args below meth c s₁ B hml hv
  obtain ⟨rfl, hsz, hP, hK, hD0, hX, hRO⟩ := hv
  have hx := B.exec
  have hb := B.bytes
  have hr := B.returns
  have hts0 := atoms_spec (ws := Cond.code yX1_init cX1_init 2 none :: zT) B.pre
  have hts : ∀ w ∈ zT, w.before ([.ref h, .int 1] : List Value).toArray s = true := fun w hw => hts0 w (List.mem_cons_of_mem _ hw)
  have hown : s.vm.findClass RX1 = some m.cls := findClass_of_methodNamed B.named
  have hin : meth.name = "<init>" := (name_of_methodNamed B.named B.method).1
  subst hsz
  have hD := hD0.self (sz := s.heap.size)
  generalize hAe : va_A [(h, .inr (1, [.int 0, .int 0, .null, .null, .null, .null, .int 0, .int 0, .int 0]))] s.heap.size = A at hD hRO ⊢
  have hA : ∀ q : Nat, s.heap.size ≤ q → A q := fun q h => by rw [← hAe]; exact Or.inr h
  have hS : va_S A s.heap s.heap [] := va_S.rf
  have hl := lv_entry [.ref h, .int 1] (n := 2) (Nat.le_of_ble_eq_true rfl)
  rw [lg_entry_eq]
  generalize (lg_sl ([.ref h, .int 1]) ++ List.replicate (2 - (lg_sl ([.ref h, .int 1])).length) Slot.unset).toArray = ls at hl ⊢
  have hl : lv_has ls 2 [(0, .ref h), (1, .int 1)] := hl
  refine lv_aload_n hx hb dX1_init_0 rfl (lv_at hl 0 rfl) ?_
  refine W.objInit hx hb hown (hts _ kw_108) (hts _ kw_46) (hts _ kw_47) rfl (by rw [hml]; exact hl.1) rfl dX1_init_1 (Nat.le_of_ble_eq_true rfl) (Nat.le_of_ble_eq_true rfl) ?_
  refine W.eq (g2 := F0 m 4 ls []) rfl ?_
  refine lv_aload_n hx hb dX1_init_4 rfl (lv_at hl 0 rfl) ?_
  refine lv_iload_n hx hb dX1_init_5 rfl (lv_at hl 1 rfl) ?_
  refine va_putF (D := (dC, dI)) (ci := 1) (v := .int 1) (ty := .int) (C := RX1) (T := TX1) (N := 9) hx hb hts (zcl_ok 1 (RX1, TX1, 9) rfl).1 tyX1 tyX1_ok nmX1 hown hK hP hD hS 0 rfl rfl 0 (by decide) (hts _ kw_112) (fun _ h9 => h9) rfl hin rfl (by decide +kernel) rfl rfl (Nat.le_of_ble_eq_true rfl) dX1_init_6 (fun H locs hP hD hS => ?_)
  have hP : va_P (dC, dI) vwCl [(h, .inr (1, [.int 1, .int 0, .null, .null, .null, .null, .int 0, .int 0, .int 0]))] H := hP
  have hD : va_D A [(h, .inr (1, [.int 1, .int 0, .null, .null, .null, .null, .int 0, .int 0, .int 0]))] := hD
  refine lv_aload_n hx hb dX1_init_9 rfl (lv_at hl 0 rfl) ?_
  refine lv_iload_n hx hb dX1_init_10 rfl (lv_at hl 1 rfl) ?_
  have hPc := hP.sub (ws' := []) [] rfl
  have hDc := hD.sub (ws' := []) [] (by decide) rfl
  have hKc := hK.sub (tys' := []) [] rfl
  have hFc := va_free (wc := []) hD hS hA [] rfl
  refine va_calli (va_runS (As := [.int 1]) (rest := [.ref h]) ⟨hx, hb, hml, hown, hts⟩ (k_full l dC dI ad0 sc H.size 1 3 (by decide)) (va_cwS 1 hts kg_full rfl rfl rfl (by decide +kernel) ⟨(Nat.le_of_ble_eq_true rfl), (Nat.le_of_ble_eq_true rfl)⟩) ⟨kPre.blind, fun U hU hW => ⟨rfl, by rw [hU], by rw [hU]; exact hPc, va_K.moved hW.alike hKc, hDc.weaken (fun _ _ _ _ => trivial), kX.warm hW hX, by rw [hU]; exact ((hRO.kept hS.2.1).moved hW.alike).narrow hFc⟩⟩ rfl rfl hl.1 rfl (lv_room (Nat.le_of_ble_eq_true rfl)) dX1_init_11 ⟨(Nat.le_of_ble_eq_true rfl), (Nat.le_of_ble_eq_true rfl)⟩) hS (fun q _ h => hFc q h) hFc (fun r u t H1 locs ht hvm hw hB hz1 hk1 hS => ?_)
  obtain ⟨hr9, hu⟩ := hw
  subst hr9 hu
  obtain ⟨hP1, hK1, hD1⟩ := hB
  rw [ht] at hP1
  obtain ⟨hP, hD⟩ := va_join (wr := [(h, .inr (1, [.int 1, .int 0, .null, .null, .null, .null, .int 0, .int 0, .int 0]))]) (w1 := []) hP hD [] [0] rfl rfl (by decide) (by decide) hk1 hFc hP1 hD1
  generalize H1 = H at hP hS ⊢
  have hP : va_P (dC, dI) vwCl [(h, .inr (1, [.int 1, .int 0, .null, .null, .null, .null, .int 0, .int 0, .int 0]))] H := hP
  have hD : va_D A [(h, .inr (1, [.int 1, .int 0, .null, .null, .null, .null, .int 0, .int 0, .int 0]))] := hD
  refine va_putF (D := (dC, dI)) (ci := 1) (v := .int 3) (ty := .int) (C := RX1) (T := TX1) (N := 9) hx hb hts (zcl_ok 1 (RX1, TX1, 9) rfl).1 tyX1 tyX1_ok nmX1 hown hK hP hD hS 0 rfl rfl 1 (by decide) (hts _ kw_113) (fun _ h9 => h9) rfl hin rfl (by decide +kernel) rfl rfl (Nat.le_of_ble_eq_true rfl) dX1_init_14 (fun H locs hP hD hS => ?_)
  have hP : va_P (dC, dI) vwCl [(h, .inr (1, [.int 1, .int 3, .null, .null, .null, .null, .int 0, .int 0, .int 0]))] H := hP
  have hD : va_D A [(h, .inr (1, [.int 1, .int 3, .null, .null, .null, .null, .int 0, .int 0, .int 0]))] := hD
  refine lv_aload_n hx hb dX1_init_17 rfl (lv_at hl 0 rfl) ?_
  refine lv_aload_n hx hb dX1_init_18 rfl (lv_at hl 0 rfl) ?_
  refine va_get (D := (dC, dI)) (ci := 1) (v := .int 3) (C := RX1) (T := TX1) (N := 9) hx hb hts (zcl_ok 1 (RX1, TX1, 9) rfl).1 hown hK hP 0 rfl rfl 1 (by decide) (hts _ kw_113) (fun _ h9 => h9) rfl dX1_init_19 ?_
  refine lv_iconst (v := 1) hx hb dX1_init_22 (by decide) ?_
  refine lv_iadd hx hb dX1_init_23 ?_
  refine va_newa (atype := .int) (ty := .int) (N' := 4) (a0 := (4, .inl (fun _ => 0))) hx hb (hts _ kw_142) rfl hK hP hD hS hA (fun _ => rfl) (by decide) (by decide) (by decide) (Nat.le_of_ble_eq_true rfl) (Nat.le_of_ble_eq_true rfl) dX1_init_24 (fun q1 c1 H hK hP hD hS => ?_)
  have hP : va_P (dC, dI) vwCl [(h, .inr (1, [.int 1, .int 3, .null, .null, .null, .null, .int 0, .int 0, .int 0])), (q1, .inl (c1, 4, .inl (fun _ => 0)))] H := hP
  have hD : va_D A [(h, .inr (1, [.int 1, .int 3, .null, .null, .null, .null, .int 0, .int 0, .int 0])), (q1, .inl (c1, 4, .inl (fun _ => 0)))] := hD
  have hK : va_K (dC, dI) vwCl [(c1, .int)] s := hK
  refine va_putF (D := (dC, dI)) (ci := 1) (v := .ref q1) (ty := .array .int) (C := RX1) (T := TX1) (N := 9) hx hb hts (zcl_ok 1 (RX1, TX1, 9) rfl).1 tyX1 tyX1_ok nmX1 hown hK hP hD hS 0 rfl rfl 2 (by decide) (hts _ kw_114) (fun _ h9 => h9) rfl hin rfl (by decide +kernel) rfl rfl (Nat.le_of_ble_eq_true rfl) dX1_init_26 (fun H locs hP hD hS => ?_)
  have hP : va_P (dC, dI) vwCl [(h, .inr (1, [.int 1, .int 3, .ref q1, .null, .null, .null, .int 0, .int 0, .int 0])), (q1, .inl (c1, 4, .inl (fun _ => 0)))] H := hP
  have hD : va_D A [(h, .inr (1, [.int 1, .int 3, .ref q1, .null, .null, .null, .int 0, .int 0, .int 0])), (q1, .inl (c1, 4, .inl (fun _ => 0)))] := hD
  refine lv_aload_n hx hb dX1_init_29 rfl (lv_at hl 0 rfl) ?_
  refine lv_aload_n hx hb dX1_init_30 rfl (lv_at hl 0 rfl) ?_
  refine va_get (D := (dC, dI)) (ci := 1) (v := .int 3) (C := RX1) (T := TX1) (N := 9) hx hb hts (zcl_ok 1 (RX1, TX1, 9) rfl).1 hown hK hP 0 rfl rfl 1 (by decide) (hts _ kw_113) (fun _ h9 => h9) rfl dX1_init_31 ?_
  refine lv_iconst (v := 1) hx hb dX1_init_34 (by decide) ?_
  refine lv_iadd hx hb dX1_init_35 ?_
  refine va_newa (atype := .int) (ty := .int) (N' := 4) (a0 := (4, .inl (fun _ => 0))) hx hb (hts _ kw_142) rfl hK hP hD hS hA (fun _ => rfl) (by decide) (by decide) (by decide) (Nat.le_of_ble_eq_true rfl) (Nat.le_of_ble_eq_true rfl) dX1_init_36 (fun q2 c2 H hK hP hD hS => ?_)
  have hP : va_P (dC, dI) vwCl [(h, .inr (1, [.int 1, .int 3, .ref q1, .null, .null, .null, .int 0, .int 0, .int 0])), (q1, .inl (c1, 4, .inl (fun _ => 0))), (q2, .inl (c2, 4, .inl (fun _ => 0)))] H := hP
  have hD : va_D A [(h, .inr (1, [.int 1, .int 3, .ref q1, .null, .null, .null, .int 0, .int 0, .int 0])), (q1, .inl (c1, 4, .inl (fun _ => 0))), (q2, .inl (c2, 4, .inl (fun _ => 0)))] := hD
  have hK : va_K (dC, dI) vwCl [(c1, .int), (c2, .int)] s := hK
  refine va_putF (D := (dC, dI)) (ci := 1) (v := .ref q2) (ty := .array .int) (C := RX1) (T := TX1) (N := 9) hx hb hts (zcl_ok 1 (RX1, TX1, 9) rfl).1 tyX1 tyX1_ok nmX1 hown hK hP hD hS 0 rfl rfl 3 (by decide) (hts _ kw_115) (fun _ h9 => h9) rfl hin rfl (by decide +kernel) rfl rfl (Nat.le_of_ble_eq_true rfl) dX1_init_38 (fun H locs hP hD hS => ?_)
  have hP : va_P (dC, dI) vwCl [(h, .inr (1, [.int 1, .int 3, .ref q1, .ref q2, .null, .null, .int 0, .int 0, .int 0])), (q1, .inl (c1, 4, .inl (fun _ => 0))), (q2, .inl (c2, 4, .inl (fun _ => 0)))] H := hP
  have hD : va_D A [(h, .inr (1, [.int 1, .int 3, .ref q1, .ref q2, .null, .null, .int 0, .int 0, .int 0])), (q1, .inl (c1, 4, .inl (fun _ => 0))), (q2, .inl (c2, 4, .inl (fun _ => 0)))] := hD
  refine lv_aload_n hx hb dX1_init_41 rfl (lv_at hl 0 rfl) ?_
  refine lv_aload_n hx hb dX1_init_42 rfl (lv_at hl 0 rfl) ?_
  refine va_get (D := (dC, dI)) (ci := 1) (v := .int 3) (C := RX1) (T := TX1) (N := 9) hx hb hts (zcl_ok 1 (RX1, TX1, 9) rfl).1 hown hK hP 0 rfl rfl 1 (by decide) (hts _ kw_113) (fun _ h9 => h9) rfl dX1_init_43 ?_
  refine lv_iconst (v := 1) hx hb dX1_init_46 (by decide) ?_
  refine lv_iadd hx hb dX1_init_47 ?_
  refine va_newa (atype := .boolean) (ty := .boolean) (N' := 4) (a0 := (4, .inl (fun _ => 0))) hx hb (hts _ kw_143) rfl hK hP hD hS hA (fun _ => rfl) (by decide) (by decide) (by decide) (Nat.le_of_ble_eq_true rfl) (Nat.le_of_ble_eq_true rfl) dX1_init_48 (fun q3 c3 H hK hP hD hS => ?_)
  have hP : va_P (dC, dI) vwCl [(h, .inr (1, [.int 1, .int 3, .ref q1, .ref q2, .null, .null, .int 0, .int 0, .int 0])), (q1, .inl (c1, 4, .inl (fun _ => 0))), (q2, .inl (c2, 4, .inl (fun _ => 0))), (q3, .inl (c3, 4, .inl (fun _ => 0)))] H := hP
  have hD : va_D A [(h, .inr (1, [.int 1, .int 3, .ref q1, .ref q2, .null, .null, .int 0, .int 0, .int 0])), (q1, .inl (c1, 4, .inl (fun _ => 0))), (q2, .inl (c2, 4, .inl (fun _ => 0))), (q3, .inl (c3, 4, .inl (fun _ => 0)))] := hD
  have hK : va_K (dC, dI) vwCl [(c1, .int), (c2, .int), (c3, .boolean)] s := hK
  refine va_putF (D := (dC, dI)) (ci := 1) (v := .ref q3) (ty := .array .boolean) (C := RX1) (T := TX1) (N := 9) hx hb hts (zcl_ok 1 (RX1, TX1, 9) rfl).1 tyX1 tyX1_ok nmX1 hown hK hP hD hS 0 rfl rfl 4 (by decide) (hts _ kw_116) (fun _ h9 => h9) rfl hin rfl (by decide +kernel) rfl rfl (Nat.le_of_ble_eq_true rfl) dX1_init_50 (fun H locs hP hD hS => ?_)
  have hP : va_P (dC, dI) vwCl [(h, .inr (1, [.int 1, .int 3, .ref q1, .ref q2, .ref q3, .null, .int 0, .int 0, .int 0])), (q1, .inl (c1, 4, .inl (fun _ => 0))), (q2, .inl (c2, 4, .inl (fun _ => 0))), (q3, .inl (c3, 4, .inl (fun _ => 0)))] H := hP
  have hD : va_D A [(h, .inr (1, [.int 1, .int 3, .ref q1, .ref q2, .ref q3, .null, .int 0, .int 0, .int 0])), (q1, .inl (c1, 4, .inl (fun _ => 0))), (q2, .inl (c2, 4, .inl (fun _ => 0))), (q3, .inl (c3, 4, .inl (fun _ => 0)))] := hD
  refine lv_aload_n hx hb dX1_init_53 rfl (lv_at hl 0 rfl) ?_
  refine lv_aload_n hx hb dX1_init_54 rfl (lv_at hl 0 rfl) ?_
  refine va_get (D := (dC, dI)) (ci := 1) (v := .int 3) (C := RX1) (T := TX1) (N := 9) hx hb hts (zcl_ok 1 (RX1, TX1, 9) rfl).1 hown hK hP 0 rfl rfl 1 (by decide) (hts _ kw_113) (fun _ h9 => h9) rfl dX1_init_55 ?_
  refine lv_iconst (v := 1) hx hb dX1_init_58 (by decide) ?_
  refine lv_iadd hx hb dX1_init_59 ?_
  refine va_newa (atype := .int) (ty := .int) (N' := 4) (a0 := (4, .inl (fun _ => 0))) hx hb (hts _ kw_142) rfl hK hP hD hS hA (fun _ => rfl) (by decide) (by decide) (by decide) (Nat.le_of_ble_eq_true rfl) (Nat.le_of_ble_eq_true rfl) dX1_init_60 (fun q4 c4 H hK hP hD hS => ?_)
  have hP : va_P (dC, dI) vwCl [(h, .inr (1, [.int 1, .int 3, .ref q1, .ref q2, .ref q3, .null, .int 0, .int 0, .int 0])), (q1, .inl (c1, 4, .inl (fun _ => 0))), (q2, .inl (c2, 4, .inl (fun _ => 0))), (q3, .inl (c3, 4, .inl (fun _ => 0))), (q4, .inl (c4, 4, .inl (fun _ => 0)))] H := hP
  have hD : va_D A [(h, .inr (1, [.int 1, .int 3, .ref q1, .ref q2, .ref q3, .null, .int 0, .int 0, .int 0])), (q1, .inl (c1, 4, .inl (fun _ => 0))), (q2, .inl (c2, 4, .inl (fun _ => 0))), (q3, .inl (c3, 4, .inl (fun _ => 0))), (q4, .inl (c4, 4, .inl (fun _ => 0)))] := hD
  have hK : va_K (dC, dI) vwCl [(c1, .int), (c2, .int), (c3, .boolean), (c4, .int)] s := hK
  refine va_putF (D := (dC, dI)) (ci := 1) (v := .ref q4) (ty := .array .int) (C := RX1) (T := TX1) (N := 9) hx hb hts (zcl_ok 1 (RX1, TX1, 9) rfl).1 tyX1 tyX1_ok nmX1 hown hK hP hD hS 0 rfl rfl 5 (by decide) (hts _ kw_117) (fun _ h9 => h9) rfl hin rfl (by decide +kernel) rfl rfl (Nat.le_of_ble_eq_true rfl) dX1_init_62 (fun H locs hP hD hS => ?_)
  have hP : va_P (dC, dI) vwCl [(h, .inr (1, [.int 1, .int 3, .ref q1, .ref q2, .ref q3, .ref q4, .int 0, .int 0, .int 0])), (q1, .inl (c1, 4, .inl (fun _ => 0))), (q2, .inl (c2, 4, .inl (fun _ => 0))), (q3, .inl (c3, 4, .inl (fun _ => 0))), (q4, .inl (c4, 4, .inl (fun _ => 0)))] H := hP
  have hD : va_D A [(h, .inr (1, [.int 1, .int 3, .ref q1, .ref q2, .ref q3, .ref q4, .int 0, .int 0, .int 0])), (q1, .inl (c1, 4, .inl (fun _ => 0))), (q2, .inl (c2, 4, .inl (fun _ => 0))), (q3, .inl (c3, 4, .inl (fun _ => 0))), (q4, .inl (c4, 4, .inl (fun _ => 0)))] := hD
  refine W.widen (k := 4) (n := 16) (Nat.le_of_ble_eq_true rfl) (Nat.le_of_ble_eq_true rfl) ?_
  exact W.vret hx hb hr (fun t ht hW => ⟨⟨([(h, .inr (1, [.int 1, .int 3, .ref q1, .ref q2, .ref q3, .ref q4, .int 0, .int 0, .int 0])), (q1, .inl (c1, 4, .inl (fun _ => 0))), (q2, .inl (c2, 4, .inl (fun _ => 0))), (q3, .inl (c3, 4, .inl (fun _ => 0))), (q4, .inl (c4, 4, .inl (fun _ => 0)))], [(c1, .int), (c2, .int), (c3, .boolean), (c4, .int)]), rfl, ⟨q1, c1, q2, c2, q3, c3, q4, c4, rfl⟩, by rw [ht]; exact hP, va_K.moved hW.alike hK, hD⟩, hS.F ht⟩) hS.2.2 dX1_init_65
set_option maxHeartbeats 4000000 in
set_option maxRecDepth 100000 in
theorem kX1_2 (l : Launch) (ad0 : Nat → Nat) (sc : Nat × (Nat → Int32)) (h : Nat) : kMet l yX1_init cX1_init 2 1 20 4 64 [.ref h, .int 2] ad0 sc [(h, .inr (1, [.int 0, .int 0, .null, .null, .null, .null, .int 0, .int 0, .int 0]))] [] (fun u => ∃ q1 c1 q2 c2 q3 c3 q4 c4, u = ([(h, .inr (1, [.int 2, .int 15, .ref q1, .ref q2, .ref q3, .ref q4, .int 0, .int 0, .int 0])), (q1, .inl (c1, 16, .inl (fun _ => 0))), (q2, .inl (c2, 16, .inl (fun _ => 0))), (q3, .inl (c3, 16, .inl (fun _ => 0))), (q4, .inl (c4, 16, .inl (fun _ => 0)))], [(c1, .int), (c2, .int), (c3, .boolean), (c4, .int)])) := by
  unfold kMet
  intro dC dI sz
  refine Met.ofW (cc := cX1_init) (maxL := 2) (ret := none) (by decide) rfl ?_
  intro p e s m args below meth c s₁ B hml hv
  obtain ⟨rfl, hsz, hP, hK, hD0, hX, hRO⟩ := hv
  have hx := B.exec
  have hb := B.bytes
  have hr := B.returns
  have hts0 := atoms_spec (ws := Cond.code yX1_init cX1_init 2 none :: zT) B.pre
  have hts : ∀ w ∈ zT, w.before ([.ref h, .int 2] : List Value).toArray s = true := fun w hw => hts0 w (List.mem_cons_of_mem _ hw)
  have hown : s.vm.findClass RX1 = some m.cls := findClass_of_methodNamed B.named
  have hin : meth.name = "<init>" := (name_of_methodNamed B.named B.method).1
  subst hsz
  have hD := hD0.self (sz := s.heap.size)
  generalize hAe : va_A [(h, .inr (1, [.int 0, .int 0, .null, .null, .null, .null, .int 0, .int 0, .int 0]))] s.heap.size = A at hD hRO ⊢
  have hA : ∀ q : Nat, s.heap.size ≤ q → A q := fun q h => by rw [← hAe]; exact Or.inr h
  have hS : va_S A s.heap s.heap [] := va_S.rf
  have hl := lv_entry [.ref h, .int 2] (n := 2) (Nat.le_of_ble_eq_true rfl)
  rw [lg_entry_eq]
  generalize (lg_sl ([.ref h, .int 2]) ++ List.replicate (2 - (lg_sl ([.ref h, .int 2])).length) Slot.unset).toArray = ls at hl ⊢
  have hl : lv_has ls 2 [(0, .ref h), (1, .int 2)] := hl
  refine lv_aload_n hx hb dX1_init_0 rfl (lv_at hl 0 rfl) ?_
  refine W.objInit hx hb hown (hts _ kw_108) (hts _ kw_46) (hts _ kw_47) rfl (by rw [hml]; exact hl.1) rfl dX1_init_1 (Nat.le_of_ble_eq_true rfl) (Nat.le_of_ble_eq_true rfl) ?_
  refine W.eq (g2 := F0 m 4 ls []) rfl ?_
  refine lv_aload_n hx hb dX1_init_4 rfl (lv_at hl 0 rfl) ?_
  refine lv_iload_n hx hb dX1_init_5 rfl (lv_at hl 1 rfl) ?_
  refine va_putF (D := (dC, dI)) (ci := 1) (v := .int 2) (ty := .int) (C := RX1) (T := TX1) (N := 9) hx hb hts (zcl_ok 1 (RX1, TX1, 9) rfl).1 tyX1 tyX1_ok nmX1 hown hK hP hD hS 0 rfl rfl 0 (by decide) (hts _ kw_112) (fun _ h9 => h9) rfl hin rfl (by decide +kernel) rfl rfl (Nat.le_of_ble_eq_true rfl) dX1_init_6 (fun H locs hP hD hS => ?_)
  have hP : va_P (dC, dI) vwCl [(h, .inr (1, [.int 2, .int 0, .null, .null, .null, .null, .int 0, .int 0, .int 0]))] H := hP
  have hD : va_D A [(h, .inr (1, [.int 2, .int 0, .null, .null, .null, .null, .int 0, .int 0, .int 0]))] := hD
  refine lv_aload_n hx hb dX1_init_9 rfl (lv_at hl 0 rfl) ?_
  refine lv_iload_n hx hb dX1_init_10 rfl (lv_at hl 1 rfl) ?_
  have hPc := hP.sub (ws' := []) [] rfl
  have hDc := hD.sub (ws' := []) [] (by decide) rfl
  have hKc := hK.sub (tys' := []) [] rfl
  have hFc := va_free (wc := []) hD hS hA [] rfl
  refine va_calli (va_runS (As := [.int 2]) (rest := [.ref h]) ⟨hx, hb, hml, hown, hts⟩ (k_full l dC dI ad0 sc H.size 2 15 (by decide)) (va_cwS 1 hts kg_full rfl rfl rfl (by decide +kernel) ⟨(Nat.le_of_ble_eq_true rfl), (Nat.le_of_ble_eq_true rfl)⟩) ⟨kPre.blind, fun U hU hW => ⟨rfl, by rw [hU], by rw [hU]; exact hPc, va_K.moved hW.alike hKc, hDc.weaken (fun _ _ _ _ => trivial), kX.warm hW hX, by rw [hU]; exact ((hRO.kept hS.2.1).moved hW.alike).narrow hFc⟩⟩ rfl rfl hl.1 rfl (lv_room (Nat.le_of_ble_eq_true rfl)) dX1_init_11 ⟨(Nat.le_of_ble_eq_true rfl), (Nat.le_of_ble_eq_true rfl)⟩) hS (fun q _ h => hFc q h) hFc (fun r u t H1 locs ht hvm hw hB hz1 hk1 hS => ?_)
  obtain ⟨hr9, hu⟩ := hw
  subst hr9 hu
  obtain ⟨hP1, hK1, hD1⟩ := hB
  rw [ht] at hP1
  obtain ⟨hP, hD⟩ := va_join (wr := [(h, .inr (1, [.int 2, .int 0, .null, .null, .null, .null, .int 0, .int 0, .int 0]))]) (w1 := []) hP hD [] [0] rfl rfl (by decide) (by decide) hk1 hFc hP1 hD1
  generalize H1 = H at hP hS ⊢
  have hP : va_P (dC, dI) vwCl [(h, .inr (1, [.int 2, .int 0, .null, .null, .null, .null, .int 0, .int 0, .int 0]))] H := hP
  have hD : va_D A [(h, .inr (1, [.int 2, .int 0, .null, .null, .null, .null, .int 0, .int 0, .int 0]))] := hD
  refine va_putF (D := (dC, dI)) (ci := 1) (v := .int 15) (ty := .int) (C := RX1) (T := TX1) (N := 9) hx hb hts (zcl_ok 1 (RX1, TX1, 9) rfl).1 tyX1 tyX1_ok nmX1 hown hK hP hD hS 0 rfl rfl 1 (by decide) (hts _ kw_113) (fun _ h9 => h9) rfl hin rfl (by decide +kernel) rfl rfl (Nat.le_of_ble_eq_true rfl) dX1_init_14 (fun H locs hP hD hS => ?_)
  have hP : va_P (dC, dI) vwCl [(h, .inr (1, [.int 2, .int 15, .null, .null, .null, .null, .int 0, .int 0, .int 0]))] H := hP
  have hD : va_D A [(h, .inr (1, [.int 2, .int 15, .null, .null, .null, .null, .int 0, .int 0, .int 0]))] := hD
  refine lv_aload_n hx hb dX1_init_17 rfl (lv_at hl 0 rfl) ?_
  refine lv_aload_n hx hb dX1_init_18 rfl (lv_at hl 0 rfl) ?_
  refine va_get (D := (dC, dI)) (ci := 1) (v := .int 15) (C := RX1) (T := TX1) (N := 9) hx hb hts (zcl_ok 1 (RX1, TX1, 9) rfl).1 hown hK hP 0 rfl rfl 1 (by decide) (hts _ kw_113) (fun _ h9 => h9) rfl dX1_init_19 ?_
  refine lv_iconst (v := 1) hx hb dX1_init_22 (by decide) ?_
  refine lv_iadd hx hb dX1_init_23 ?_
  refine va_newa (atype := .int) (ty := .int) (N' := 16) (a0 := (16, .inl (fun _ => 0))) hx hb (hts _ kw_142) rfl hK hP hD hS hA (fun _ => rfl) (by decide) (by decide) (by decide) (Nat.le_of_ble_eq_true rfl) (Nat.le_of_ble_eq_true rfl) dX1_init_24 (fun q1 c1 H hK hP hD hS => ?_)
  have hP : va_P (dC, dI) vwCl [(h, .inr (1, [.int 2, .int 15, .null, .null, .null, .null, .int 0, .int 0, .int 0])), (q1, .inl (c1, 16, .inl (fun _ => 0)))] H := hP
  have hD : va_D A [(h, .inr (1, [.int 2, .int 15, .null, .null, .null, .null, .int 0, .int 0, .int 0])), (q1, .inl (c1, 16, .inl (fun _ => 0)))] := hD
  have hK : va_K (dC, dI) vwCl [(c1, .int)] s := hK
  refine va_putF (D := (dC, dI)) (ci := 1) (v := .ref q1) (ty := .array .int) (C := RX1) (T := TX1) (N := 9) hx hb hts (zcl_ok 1 (RX1, TX1, 9) rfl).1 tyX1 tyX1_ok nmX1 hown hK hP hD hS 0 rfl rfl 2 (by decide) (hts _ kw_114) (fun _ h9 => h9) rfl hin rfl (by decide +kernel) rfl rfl (Nat.le_of_ble_eq_true rfl) dX1_init_26 (fun H locs hP hD hS => ?_)
  have hP : va_P (dC, dI) vwCl [(h, .inr (1, [.int 2, .int 15, .ref q1, .null, .null, .null, .int 0, .int 0, .int 0])), (q1, .inl (c1, 16, .inl (fun _ => 0)))] H := hP
  have hD : va_D A [(h, .inr (1, [.int 2, .int 15, .ref q1, .null, .null, .null, .int 0, .int 0, .int 0])), (q1, .inl (c1, 16, .inl (fun _ => 0)))] := hD
  refine lv_aload_n hx hb dX1_init_29 rfl (lv_at hl 0 rfl) ?_
  refine lv_aload_n hx hb dX1_init_30 rfl (lv_at hl 0 rfl) ?_
  refine va_get (D := (dC, dI)) (ci := 1) (v := .int 15) (C := RX1) (T := TX1) (N := 9) hx hb hts (zcl_ok 1 (RX1, TX1, 9) rfl).1 hown hK hP 0 rfl rfl 1 (by decide) (hts _ kw_113) (fun _ h9 => h9) rfl dX1_init_31 ?_
  refine lv_iconst (v := 1) hx hb dX1_init_34 (by decide) ?_
  refine lv_iadd hx hb dX1_init_35 ?_
  refine va_newa (atype := .int) (ty := .int) (N' := 16) (a0 := (16, .inl (fun _ => 0))) hx hb (hts _ kw_142) rfl hK hP hD hS hA (fun _ => rfl) (by decide) (by decide) (by decide) (Nat.le_of_ble_eq_true rfl) (Nat.le_of_ble_eq_true rfl) dX1_init_36 (fun q2 c2 H hK hP hD hS => ?_)
  have hP : va_P (dC, dI) vwCl [(h, .inr (1, [.int 2, .int 15, .ref q1, .null, .null, .null, .int 0, .int 0, .int 0])), (q1, .inl (c1, 16, .inl (fun _ => 0))), (q2, .inl (c2, 16, .inl (fun _ => 0)))] H := hP
  have hD : va_D A [(h, .inr (1, [.int 2, .int 15, .ref q1, .null, .null, .null, .int 0, .int 0, .int 0])), (q1, .inl (c1, 16, .inl (fun _ => 0))), (q2, .inl (c2, 16, .inl (fun _ => 0)))] := hD
  have hK : va_K (dC, dI) vwCl [(c1, .int), (c2, .int)] s := hK
  refine va_putF (D := (dC, dI)) (ci := 1) (v := .ref q2) (ty := .array .int) (C := RX1) (T := TX1) (N := 9) hx hb hts (zcl_ok 1 (RX1, TX1, 9) rfl).1 tyX1 tyX1_ok nmX1 hown hK hP hD hS 0 rfl rfl 3 (by decide) (hts _ kw_115) (fun _ h9 => h9) rfl hin rfl (by decide +kernel) rfl rfl (Nat.le_of_ble_eq_true rfl) dX1_init_38 (fun H locs hP hD hS => ?_)
  have hP : va_P (dC, dI) vwCl [(h, .inr (1, [.int 2, .int 15, .ref q1, .ref q2, .null, .null, .int 0, .int 0, .int 0])), (q1, .inl (c1, 16, .inl (fun _ => 0))), (q2, .inl (c2, 16, .inl (fun _ => 0)))] H := hP
  have hD : va_D A [(h, .inr (1, [.int 2, .int 15, .ref q1, .ref q2, .null, .null, .int 0, .int 0, .int 0])), (q1, .inl (c1, 16, .inl (fun _ => 0))), (q2, .inl (c2, 16, .inl (fun _ => 0)))] := hD
  refine lv_aload_n hx hb dX1_init_41 rfl (lv_at hl 0 rfl) ?_
  refine lv_aload_n hx hb dX1_init_42 rfl (lv_at hl 0 rfl) ?_
  refine va_get (D := (dC, dI)) (ci := 1) (v := .int 15) (C := RX1) (T := TX1) (N := 9) hx hb hts (zcl_ok 1 (RX1, TX1, 9) rfl).1 hown hK hP 0 rfl rfl 1 (by decide) (hts _ kw_113) (fun _ h9 => h9) rfl dX1_init_43 ?_
  refine lv_iconst (v := 1) hx hb dX1_init_46 (by decide) ?_
  refine lv_iadd hx hb dX1_init_47 ?_
  refine va_newa (atype := .boolean) (ty := .boolean) (N' := 16) (a0 := (16, .inl (fun _ => 0))) hx hb (hts _ kw_143) rfl hK hP hD hS hA (fun _ => rfl) (by decide) (by decide) (by decide) (Nat.le_of_ble_eq_true rfl) (Nat.le_of_ble_eq_true rfl) dX1_init_48 (fun q3 c3 H hK hP hD hS => ?_)
  have hP : va_P (dC, dI) vwCl [(h, .inr (1, [.int 2, .int 15, .ref q1, .ref q2, .null, .null, .int 0, .int 0, .int 0])), (q1, .inl (c1, 16, .inl (fun _ => 0))), (q2, .inl (c2, 16, .inl (fun _ => 0))), (q3, .inl (c3, 16, .inl (fun _ => 0)))] H := hP
  have hD : va_D A [(h, .inr (1, [.int 2, .int 15, .ref q1, .ref q2, .null, .null, .int 0, .int 0, .int 0])), (q1, .inl (c1, 16, .inl (fun _ => 0))), (q2, .inl (c2, 16, .inl (fun _ => 0))), (q3, .inl (c3, 16, .inl (fun _ => 0)))] := hD
  have hK : va_K (dC, dI) vwCl [(c1, .int), (c2, .int), (c3, .boolean)] s := hK
  refine va_putF (D := (dC, dI)) (ci := 1) (v := .ref q3) (ty := .array .boolean) (C := RX1) (T := TX1) (N := 9) hx hb hts (zcl_ok 1 (RX1, TX1, 9) rfl).1 tyX1 tyX1_ok nmX1 hown hK hP hD hS 0 rfl rfl 4 (by decide) (hts _ kw_116) (fun _ h9 => h9) rfl hin rfl (by decide +kernel) rfl rfl (Nat.le_of_ble_eq_true rfl) dX1_init_50 (fun H locs hP hD hS => ?_)
  have hP : va_P (dC, dI) vwCl [(h, .inr (1, [.int 2, .int 15, .ref q1, .ref q2, .ref q3, .null, .int 0, .int 0, .int 0])), (q1, .inl (c1, 16, .inl (fun _ => 0))), (q2, .inl (c2, 16, .inl (fun _ => 0))), (q3, .inl (c3, 16, .inl (fun _ => 0)))] H := hP
  have hD : va_D A [(h, .inr (1, [.int 2, .int 15, .ref q1, .ref q2, .ref q3, .null, .int 0, .int 0, .int 0])), (q1, .inl (c1, 16, .inl (fun _ => 0))), (q2, .inl (c2, 16, .inl (fun _ => 0))), (q3, .inl (c3, 16, .inl (fun _ => 0)))] := hD
  refine lv_aload_n hx hb dX1_init_53 rfl (lv_at hl 0 rfl) ?_
  refine lv_aload_n hx hb dX1_init_54 rfl (lv_at hl 0 rfl) ?_
  refine va_get (D := (dC, dI)) (ci := 1) (v := .int 15) (C := RX1) (T := TX1) (N := 9) hx hb hts (zcl_ok 1 (RX1, TX1, 9) rfl).1 hown hK hP 0 rfl rfl 1 (by decide) (hts _ kw_113) (fun _ h9 => h9) rfl dX1_init_55 ?_
  refine lv_iconst (v := 1) hx hb dX1_init_58 (by decide) ?_
  refine lv_iadd hx hb dX1_init_59 ?_
  refine va_newa (atype := .int) (ty := .int) (N' := 16) (a0 := (16, .inl (fun _ => 0))) hx hb (hts _ kw_142) rfl hK hP hD hS hA (fun _ => rfl) (by decide) (by decide) (by decide) (Nat.le_of_ble_eq_true rfl) (Nat.le_of_ble_eq_true rfl) dX1_init_60 (fun q4 c4 H hK hP hD hS => ?_)
  have hP : va_P (dC, dI) vwCl [(h, .inr (1, [.int 2, .int 15, .ref q1, .ref q2, .ref q3, .null, .int 0, .int 0, .int 0])), (q1, .inl (c1, 16, .inl (fun _ => 0))), (q2, .inl (c2, 16, .inl (fun _ => 0))), (q3, .inl (c3, 16, .inl (fun _ => 0))), (q4, .inl (c4, 16, .inl (fun _ => 0)))] H := hP
  have hD : va_D A [(h, .inr (1, [.int 2, .int 15, .ref q1, .ref q2, .ref q3, .null, .int 0, .int 0, .int 0])), (q1, .inl (c1, 16, .inl (fun _ => 0))), (q2, .inl (c2, 16, .inl (fun _ => 0))), (q3, .inl (c3, 16, .inl (fun _ => 0))), (q4, .inl (c4, 16, .inl (fun _ => 0)))] := hD
  have hK : va_K (dC, dI) vwCl [(c1, .int), (c2, .int), (c3, .boolean), (c4, .int)] s := hK
  refine va_putF (D := (dC, dI)) (ci := 1) (v := .ref q4) (ty := .array .int) (C := RX1) (T := TX1) (N := 9) hx hb hts (zcl_ok 1 (RX1, TX1, 9) rfl).1 tyX1 tyX1_ok nmX1 hown hK hP hD hS 0 rfl rfl 5 (by decide) (hts _ kw_117) (fun _ h9 => h9) rfl hin rfl (by decide +kernel) rfl rfl (Nat.le_of_ble_eq_true rfl) dX1_init_62 (fun H locs hP hD hS => ?_)
  have hP : va_P (dC, dI) vwCl [(h, .inr (1, [.int 2, .int 15, .ref q1, .ref q2, .ref q3, .ref q4, .int 0, .int 0, .int 0])), (q1, .inl (c1, 16, .inl (fun _ => 0))), (q2, .inl (c2, 16, .inl (fun _ => 0))), (q3, .inl (c3, 16, .inl (fun _ => 0))), (q4, .inl (c4, 16, .inl (fun _ => 0)))] H := hP
  have hD : va_D A [(h, .inr (1, [.int 2, .int 15, .ref q1, .ref q2, .ref q3, .ref q4, .int 0, .int 0, .int 0])), (q1, .inl (c1, 16, .inl (fun _ => 0))), (q2, .inl (c2, 16, .inl (fun _ => 0))), (q3, .inl (c3, 16, .inl (fun _ => 0))), (q4, .inl (c4, 16, .inl (fun _ => 0)))] := hD
  refine W.widen (k := 4) (n := 64) (Nat.le_of_ble_eq_true rfl) (Nat.le_of_ble_eq_true rfl) ?_
  exact W.vret hx hb hr (fun t ht hW => ⟨⟨([(h, .inr (1, [.int 2, .int 15, .ref q1, .ref q2, .ref q3, .ref q4, .int 0, .int 0, .int 0])), (q1, .inl (c1, 16, .inl (fun _ => 0))), (q2, .inl (c2, 16, .inl (fun _ => 0))), (q3, .inl (c3, 16, .inl (fun _ => 0))), (q4, .inl (c4, 16, .inl (fun _ => 0)))], [(c1, .int), (c2, .int), (c3, .boolean), (c4, .int)]), rfl, ⟨q1, c1, q2, c2, q3, c3, q4, c4, rfl⟩, by rw [ht]; exact hP, va_K.moved hW.alike hK, hD⟩, hS.F ht⟩) hS.2.2 dX1_init_65
set_option maxHeartbeats 4000000 in
set_option maxRecDepth 100000 in
theorem kX1_3 (l : Launch) (ad0 : Nat → Nat) (sc : Nat × (Nat → Int32)) (h : Nat) : kMet l yX1_init cX1_init 2 1 20 4 1024 [.ref h, .int 3] ad0 sc [(h, .inr (1, [.int 0, .int 0, .null, .null, .null, .null, .int 0, .int 0, .int 0]))] [] (fun u => ∃ q1 c1 q2 c2 q3 c3 q4 c4, u = ([(h, .inr (1, [.int 3, .int 255, .ref q1, .ref q2, .ref q3, .ref q4, .int 0, .int 0, .int 0])), (q1, .inl (c1, 256, .inl (fun _ => 0))), (q2, .inl (c2, 256, .inl (fun _ => 0))), (q3, .inl (c3, 256, .inl (fun _ => 0))), (q4, .inl (c4, 256, .inl (fun _ => 0)))], [(c1, .int), (c2, .int), (c3, .boolean), (c4, .int)])) := by
  unfold kMet
  intro dC dI sz
  refine Met.ofW (cc := cX1_init) (maxL := 2) (ret := none) (by decide) rfl ?_
  intro p e s m args below meth c s₁ B hml hv
  obtain ⟨rfl, hsz, hP, hK, hD0, hX, hRO⟩ := hv
  have hx := B.exec
  have hb := B.bytes
  have hr := B.returns
  have hts0 := atoms_spec (ws := Cond.code yX1_init cX1_init 2 none :: zT) B.pre
  have hts : ∀ w ∈ zT, w.before ([.ref h, .int 3] : List Value).toArray s = true := fun w hw => hts0 w (List.mem_cons_of_mem _ hw)
  have hown : s.vm.findClass RX1 = some m.cls := findClass_of_methodNamed B.named
  have hin : meth.name = "<init>" := (name_of_methodNamed B.named B.method).1
  subst hsz
  have hD := hD0.self (sz := s.heap.size)
  generalize hAe : va_A [(h, .inr (1, [.int 0, .int 0, .null, .null, .null, .null, .int 0, .int 0, .int 0]))] s.heap.size = A at hD hRO ⊢
  have hA : ∀ q : Nat, s.heap.size ≤ q → A q := fun q h => by rw [← hAe]; exact Or.inr h
  have hS : va_S A s.heap s.heap [] := va_S.rf
  have hl := lv_entry [.ref h, .int 3] (n := 2) (Nat.le_of_ble_eq_true rfl)
  rw [lg_entry_eq]
  generalize (lg_sl ([.ref h, .int 3]) ++ List.replicate (2 - (lg_sl ([.ref h, .int 3])).length) Slot.unset).toArray = ls at hl ⊢
  have hl : lv_has ls 2 [(0, .ref h), (1, .int 3)] := hl
  refine lv_aload_n hx hb dX1_init_0 rfl (lv_at hl 0 rfl) ?_
  refine W.objInit hx hb hown (hts _ kw_108) (hts _ kw_46) (hts _ kw_47) rfl (by rw [hml]; exact hl.1) rfl dX1_init_1 (Nat.le_of_ble_eq_true rfl) (Nat.le_of_ble_eq_true rfl) ?_
  refine W.eq (g2 := F0 m 4 ls []) rfl ?_
  refine lv_aload_n hx hb dX1_init_4 rfl (lv_at hl 0 rfl) ?_
  refine lv_iload_n hx hb dX1_init_5 rfl (lv_at hl 1 rfl) ?_
  refine va_putF (D := (dC, dI)) (ci := 1) (v := .int 3) (ty := .int) (C := RX1) (T := TX1) (N := 9) hx hb hts (zcl_ok 1 (RX1, TX1, 9) rfl).1 tyX1 tyX1_ok nmX1 hown hK hP hD hS 0 rfl rfl 0 (by decide) (hts _ kw_112) (fun _ h9 => h9) rfl hin rfl (by decide +kernel) rfl rfl (Nat.le_of_ble_eq_true rfl) dX1_init_6 (fun H locs hP hD hS => ?_)
  have hP : va_P (dC, dI) vwCl [(h, .inr (1, [.int 3, .int 0, .null, .null, .null, .null, .int 0, .int 0, .int 0]))] H := hP
  have hD : va_D A [(h, .inr (1, [.int 3, .int 0, .null, .null, .null, .null, .int 0, .int 0, .int 0]))] := hD
  refine lv_aload_n hx hb dX1_init_9 rfl (lv_at hl 0 rfl) ?_
  refine lv_iload_n hx hb dX1_init_10 rfl (lv_at hl 1 rfl) ?_
  have hPc := hP.sub (ws' := []) [] rfl
  have hDc := hD.sub (ws' := []) [] (by decide) rfl
  have hKc := hK.sub (tys' := []) [] rfl
  have hFc := va_free (wc := []) hD hS hA [] rfl
  refine va_calli (va_runS (As := [.int 3]) (rest := [.ref h]) ⟨hx, hb, hml, hown, hts⟩ (k_full l dC dI ad0 sc H.size 3 255 (by decide)) (va_cwS 1 hts kg_full rfl rfl rfl (by decide +kernel) ⟨(Nat.le_of_ble_eq_true rfl), (Nat.le_of_ble_eq_true rfl)⟩) ⟨kPre.blind, fun U hU hW => ⟨rfl, by rw [hU], by rw [hU]; exact hPc, va_K.moved hW.alike hKc, hDc.weaken (fun _ _ _ _ => trivial), kX.warm hW hX, by rw [hU]; exact ((hRO.kept hS.2.1).moved hW.alike).narrow hFc⟩⟩ rfl rfl hl.1 rfl (lv_room (Nat.le_of_ble_eq_true rfl)) dX1_init_11 ⟨(Nat.le_of_ble_eq_true rfl), (Nat.le_of_ble_eq_true rfl)⟩) hS (fun q _ h => hFc q h) hFc (fun r u t H1 locs ht hvm hw hB hz1 hk1 hS => ?_)
  obtain ⟨hr9, hu⟩ := hw
  subst hr9 hu
  obtain ⟨hP1, hK1, hD1⟩ := hB
  rw [ht] at hP1
  obtain ⟨hP, hD⟩ := va_join (wr := [(h, .inr (1, [.int 3, .int 0, .null, .null, .null, .null, .int 0, .int 0, .int 0]))]) (w1 := []) hP hD [] [0] rfl rfl (by decide) (by decide) hk1 hFc hP1 hD1
  generalize H1 = H at hP hS ⊢
  have hP : va_P (dC, dI) vwCl [(h, .inr (1, [.int 3, .int 0, .null, .null, .null, .null, .int 0, .int 0, .int 0]))] H := hP
  have hD : va_D A [(h, .inr (1, [.int 3, .int 0, .null, .null, .null, .null, .int 0, .int 0, .int 0]))] := hD
  refine va_putF (D := (dC, dI)) (ci := 1) (v := .int 255) (ty := .int) (C := RX1) (T := TX1) (N := 9) hx hb hts (zcl_ok 1 (RX1, TX1, 9) rfl).1 tyX1 tyX1_ok nmX1 hown hK hP hD hS 0 rfl rfl 1 (by decide) (hts _ kw_113) (fun _ h9 => h9) rfl hin rfl (by decide +kernel) rfl rfl (Nat.le_of_ble_eq_true rfl) dX1_init_14 (fun H locs hP hD hS => ?_)
  have hP : va_P (dC, dI) vwCl [(h, .inr (1, [.int 3, .int 255, .null, .null, .null, .null, .int 0, .int 0, .int 0]))] H := hP
  have hD : va_D A [(h, .inr (1, [.int 3, .int 255, .null, .null, .null, .null, .int 0, .int 0, .int 0]))] := hD
  refine lv_aload_n hx hb dX1_init_17 rfl (lv_at hl 0 rfl) ?_
  refine lv_aload_n hx hb dX1_init_18 rfl (lv_at hl 0 rfl) ?_
  refine va_get (D := (dC, dI)) (ci := 1) (v := .int 255) (C := RX1) (T := TX1) (N := 9) hx hb hts (zcl_ok 1 (RX1, TX1, 9) rfl).1 hown hK hP 0 rfl rfl 1 (by decide) (hts _ kw_113) (fun _ h9 => h9) rfl dX1_init_19 ?_
  refine lv_iconst (v := 1) hx hb dX1_init_22 (by decide) ?_
  refine lv_iadd hx hb dX1_init_23 ?_
  refine va_newa (atype := .int) (ty := .int) (N' := 256) (a0 := (256, .inl (fun _ => 0))) hx hb (hts _ kw_142) rfl hK hP hD hS hA (fun _ => rfl) (by decide) (by decide) (by decide) (Nat.le_of_ble_eq_true rfl) (Nat.le_of_ble_eq_true rfl) dX1_init_24 (fun q1 c1 H hK hP hD hS => ?_)
  have hP : va_P (dC, dI) vwCl [(h, .inr (1, [.int 3, .int 255, .null, .null, .null, .null, .int 0, .int 0, .int 0])), (q1, .inl (c1, 256, .inl (fun _ => 0)))] H := hP
  have hD : va_D A [(h, .inr (1, [.int 3, .int 255, .null, .null, .null, .null, .int 0, .int 0, .int 0])), (q1, .inl (c1, 256, .inl (fun _ => 0)))] := hD
  have hK : va_K (dC, dI) vwCl [(c1, .int)] s := hK
  refine va_putF (D := (dC, dI)) (ci := 1) (v := .ref q1) (ty := .array .int) (C := RX1) (T := TX1) (N := 9) hx hb hts (zcl_ok 1 (RX1, TX1, 9) rfl).1 tyX1 tyX1_ok nmX1 hown hK hP hD hS 0 rfl rfl 2 (by decide) (hts _ kw_114) (fun _ h9 => h9) rfl hin rfl (by decide +kernel) rfl rfl (Nat.le_of_ble_eq_true rfl) dX1_init_26 (fun H locs hP hD hS => ?_)
  have hP : va_P (dC, dI) vwCl [(h, .inr (1, [.int 3, .int 255, .ref q1, .null, .null, .null, .int 0, .int 0, .int 0])), (q1, .inl (c1, 256, .inl (fun _ => 0)))] H := hP
  have hD : va_D A [(h, .inr (1, [.int 3, .int 255, .ref q1, .null, .null, .null, .int 0, .int 0, .int 0])), (q1, .inl (c1, 256, .inl (fun _ => 0)))] := hD
  refine lv_aload_n hx hb dX1_init_29 rfl (lv_at hl 0 rfl) ?_
  refine lv_aload_n hx hb dX1_init_30 rfl (lv_at hl 0 rfl) ?_
  refine va_get (D := (dC, dI)) (ci := 1) (v := .int 255) (C := RX1) (T := TX1) (N := 9) hx hb hts (zcl_ok 1 (RX1, TX1, 9) rfl).1 hown hK hP 0 rfl rfl 1 (by decide) (hts _ kw_113) (fun _ h9 => h9) rfl dX1_init_31 ?_
  refine lv_iconst (v := 1) hx hb dX1_init_34 (by decide) ?_
  refine lv_iadd hx hb dX1_init_35 ?_
  refine va_newa (atype := .int) (ty := .int) (N' := 256) (a0 := (256, .inl (fun _ => 0))) hx hb (hts _ kw_142) rfl hK hP hD hS hA (fun _ => rfl) (by decide) (by decide) (by decide) (Nat.le_of_ble_eq_true rfl) (Nat.le_of_ble_eq_true rfl) dX1_init_36 (fun q2 c2 H hK hP hD hS => ?_)
  have hP : va_P (dC, dI) vwCl [(h, .inr (1, [.int 3, .int 255, .ref q1, .null, .null, .null, .int 0, .int 0, .int 0])), (q1, .inl (c1, 256, .inl (fun _ => 0))), (q2, .inl (c2, 256, .inl (fun _ => 0)))] H := hP
  have hD : va_D A [(h, .inr (1, [.int 3, .int 255, .ref q1, .null, .null, .null, .int 0, .int 0, .int 0])), (q1, .inl (c1, 256, .inl (fun _ => 0))), (q2, .inl (c2, 256, .inl (fun _ => 0)))] := hD
  have hK : va_K (dC, dI) vwCl [(c1, .int), (c2, .int)] s := hK
  refine va_putF (D := (dC, dI)) (ci := 1) (v := .ref q2) (ty := .array .int) (C := RX1) (T := TX1) (N := 9) hx hb hts (zcl_ok 1 (RX1, TX1, 9) rfl).1 tyX1 tyX1_ok nmX1 hown hK hP hD hS 0 rfl rfl 3 (by decide) (hts _ kw_115) (fun _ h9 => h9) rfl hin rfl (by decide +kernel) rfl rfl (Nat.le_of_ble_eq_true rfl) dX1_init_38 (fun H locs hP hD hS => ?_)
  have hP : va_P (dC, dI) vwCl [(h, .inr (1, [.int 3, .int 255, .ref q1, .ref q2, .null, .null, .int 0, .int 0, .int 0])), (q1, .inl (c1, 256, .inl (fun _ => 0))), (q2, .inl (c2, 256, .inl (fun _ => 0)))] H := hP
  have hD : va_D A [(h, .inr (1, [.int 3, .int 255, .ref q1, .ref q2, .null, .null, .int 0, .int 0, .int 0])), (q1, .inl (c1, 256, .inl (fun _ => 0))), (q2, .inl (c2, 256, .inl (fun _ => 0)))] := hD
  refine lv_aload_n hx hb dX1_init_41 rfl (lv_at hl 0 rfl) ?_
  refine lv_aload_n hx hb dX1_init_42 rfl (lv_at hl 0 rfl) ?_
  refine va_get (D := (dC, dI)) (ci := 1) (v := .int 255) (C := RX1) (T := TX1) (N := 9) hx hb hts (zcl_ok 1 (RX1, TX1, 9) rfl).1 hown hK hP 0 rfl rfl 1 (by decide) (hts _ kw_113) (fun _ h9 => h9) rfl dX1_init_43 ?_
  refine lv_iconst (v := 1) hx hb dX1_init_46 (by decide) ?_
  refine lv_iadd hx hb dX1_init_47 ?_
  refine va_newa (atype := .boolean) (ty := .boolean) (N' := 256) (a0 := (256, .inl (fun _ => 0))) hx hb (hts _ kw_143) rfl hK hP hD hS hA (fun _ => rfl) (by decide) (by decide) (by decide) (Nat.le_of_ble_eq_true rfl) (Nat.le_of_ble_eq_true rfl) dX1_init_48 (fun q3 c3 H hK hP hD hS => ?_)
  have hP : va_P (dC, dI) vwCl [(h, .inr (1, [.int 3, .int 255, .ref q1, .ref q2, .null, .null, .int 0, .int 0, .int 0])), (q1, .inl (c1, 256, .inl (fun _ => 0))), (q2, .inl (c2, 256, .inl (fun _ => 0))), (q3, .inl (c3, 256, .inl (fun _ => 0)))] H := hP
  have hD : va_D A [(h, .inr (1, [.int 3, .int 255, .ref q1, .ref q2, .null, .null, .int 0, .int 0, .int 0])), (q1, .inl (c1, 256, .inl (fun _ => 0))), (q2, .inl (c2, 256, .inl (fun _ => 0))), (q3, .inl (c3, 256, .inl (fun _ => 0)))] := hD
  have hK : va_K (dC, dI) vwCl [(c1, .int), (c2, .int), (c3, .boolean)] s := hK
  refine va_putF (D := (dC, dI)) (ci := 1) (v := .ref q3) (ty := .array .boolean) (C := RX1) (T := TX1) (N := 9) hx hb hts (zcl_ok 1 (RX1, TX1, 9) rfl).1 tyX1 tyX1_ok nmX1 hown hK hP hD hS 0 rfl rfl 4 (by decide) (hts _ kw_116) (fun _ h9 => h9) rfl hin rfl (by decide +kernel) rfl rfl (Nat.le_of_ble_eq_true rfl) dX1_init_50 (fun H locs hP hD hS => ?_)
  have hP : va_P (dC, dI) vwCl [(h, .inr (1, [.int 3, .int 255, .ref q1, .ref q2, .ref q3, .null, .int 0, .int 0, .int 0])), (q1, .inl (c1, 256, .inl (fun _ => 0))), (q2, .inl (c2, 256, .inl (fun _ => 0))), (q3, .inl (c3, 256, .inl (fun _ => 0)))] H := hP
  have hD : va_D A [(h, .inr (1, [.int 3, .int 255, .ref q1, .ref q2, .ref q3, .null, .int 0, .int 0, .int 0])), (q1, .inl (c1, 256, .inl (fun _ => 0))), (q2, .inl (c2, 256, .inl (fun _ => 0))), (q3, .inl (c3, 256, .inl (fun _ => 0)))] := hD
  refine lv_aload_n hx hb dX1_init_53 rfl (lv_at hl 0 rfl) ?_
  refine lv_aload_n hx hb dX1_init_54 rfl (lv_at hl 0 rfl) ?_
  refine va_get (D := (dC, dI)) (ci := 1) (v := .int 255) (C := RX1) (T := TX1) (N := 9) hx hb hts (zcl_ok 1 (RX1, TX1, 9) rfl).1 hown hK hP 0 rfl rfl 1 (by decide) (hts _ kw_113) (fun _ h9 => h9) rfl dX1_init_55 ?_
  refine lv_iconst (v := 1) hx hb dX1_init_58 (by decide) ?_
  refine lv_iadd hx hb dX1_init_59 ?_
  refine va_newa (atype := .int) (ty := .int) (N' := 256) (a0 := (256, .inl (fun _ => 0))) hx hb (hts _ kw_142) rfl hK hP hD hS hA (fun _ => rfl) (by decide) (by decide) (by decide) (Nat.le_of_ble_eq_true rfl) (Nat.le_of_ble_eq_true rfl) dX1_init_60 (fun q4 c4 H hK hP hD hS => ?_)
  have hP : va_P (dC, dI) vwCl [(h, .inr (1, [.int 3, .int 255, .ref q1, .ref q2, .ref q3, .null, .int 0, .int 0, .int 0])), (q1, .inl (c1, 256, .inl (fun _ => 0))), (q2, .inl (c2, 256, .inl (fun _ => 0))), (q3, .inl (c3, 256, .inl (fun _ => 0))), (q4, .inl (c4, 256, .inl (fun _ => 0)))] H := hP
  have hD : va_D A [(h, .inr (1, [.int 3, .int 255, .ref q1, .ref q2, .ref q3, .null, .int 0, .int 0, .int 0])), (q1, .inl (c1, 256, .inl (fun _ => 0))), (q2, .inl (c2, 256, .inl (fun _ => 0))), (q3, .inl (c3, 256, .inl (fun _ => 0))), (q4, .inl (c4, 256, .inl (fun _ => 0)))] := hD
  have hK : va_K (dC, dI) vwCl [(c1, .int), (c2, .int), (c3, .boolean), (c4, .int)] s := hK
  refine va_putF (D := (dC, dI)) (ci := 1) (v := .ref q4) (ty := .array .int) (C := RX1) (T := TX1) (N := 9) hx hb hts (zcl_ok 1 (RX1, TX1, 9) rfl).1 tyX1 tyX1_ok nmX1 hown hK hP hD hS 0 rfl rfl 5 (by decide) (hts _ kw_117) (fun _ h9 => h9) rfl hin rfl (by decide +kernel) rfl rfl (Nat.le_of_ble_eq_true rfl) dX1_init_62 (fun H locs hP hD hS => ?_)
  have hP : va_P (dC, dI) vwCl [(h, .inr (1, [.int 3, .int 255, .ref q1, .ref q2, .ref q3, .ref q4, .int 0, .int 0, .int 0])), (q1, .inl (c1, 256, .inl (fun _ => 0))), (q2, .inl (c2, 256, .inl (fun _ => 0))), (q3, .inl (c3, 256, .inl (fun _ => 0))), (q4, .inl (c4, 256, .inl (fun _ => 0)))] H := hP
  have hD : va_D A [(h, .inr (1, [.int 3, .int 255, .ref q1, .ref q2, .ref q3, .ref q4, .int 0, .int 0, .int 0])), (q1, .inl (c1, 256, .inl (fun _ => 0))), (q2, .inl (c2, 256, .inl (fun _ => 0))), (q3, .inl (c3, 256, .inl (fun _ => 0))), (q4, .inl (c4, 256, .inl (fun _ => 0)))] := hD
  refine W.widen (k := 4) (n := 1024) (Nat.le_of_ble_eq_true rfl) (Nat.le_of_ble_eq_true rfl) ?_
  exact W.vret hx hb hr (fun t ht hW => ⟨⟨([(h, .inr (1, [.int 3, .int 255, .ref q1, .ref q2, .ref q3, .ref q4, .int 0, .int 0, .int 0])), (q1, .inl (c1, 256, .inl (fun _ => 0))), (q2, .inl (c2, 256, .inl (fun _ => 0))), (q3, .inl (c3, 256, .inl (fun _ => 0))), (q4, .inl (c4, 256, .inl (fun _ => 0)))], [(c1, .int), (c2, .int), (c3, .boolean), (c4, .int)]), rfl, ⟨q1, c1, q2, c2, q3, c3, q4, c4, rfl⟩, by rw [ht]; exact hP, va_K.moved hW.alike hK, hD⟩, hS.F ht⟩) hS.2.2 dX1_init_65
set_option maxHeartbeats 4000000 in
set_option maxRecDepth 100000 in
theorem kX4 (l : Launch) (ad0 : Nat → Nat) (sc : Nat × (Nat → Int32)) (h : Nat) : kMet l yX4_init cX4_init 2 2 60 7 36 [.ref h] ad0 sc [(h, .inr (4, [.null, .int 0]))] [] (fun u => ∃ q1 c1 s0 s1 s2 s3 s4 s5, u = ([(h, .inr (4, [.ref q1, .int 0])), (q1, .inl (c1, 6, .inr (.inr (.inr (.inr (fun j => zget [s0, s1, s2, s3, s4, s5] j)))))), (s0, .inr (3, [.int 0, .int 0, .int 0, .int 0, .int 0])), (s1, .inr (3, [.int 0, .int 0, .int 0, .int 0, .int 0])), (s2, .inr (3, [.int 0, .int 0, .int 0, .int 0, .int 0])), (s3, .inr (3, [.int 0, .int 0, .int 0, .int 0, .int 0])), (s4, .inr (3, [.int 0, .int 0, .int 0, .int 0, .int 0])), (s5, .inr (3, [.int 0, .int 0, .int 0, .int 0, .int 0]))], [(c1, .object RX3)])) := by
  unfold kMet
  intro dC dI sz
  refine Met.ofW (cc := cX4_init) (maxL := 2) (ret := none) (by decide) rfl ?_
  intro p e s m args below meth c s₁ B hml hv
  obtain ⟨rfl, hsz, hP, hK, hD0, hX, hRO⟩ := hv
  have hx := B.exec
  have hb := B.bytes
  have hr := B.returns
  have hts0 := atoms_spec (ws := Cond.code yX4_init cX4_init 2 none :: zT) B.pre
  have hts : ∀ w ∈ zT, w.before ([.ref h] : List Value).toArray s = true := fun w hw => hts0 w (List.mem_cons_of_mem _ hw)
  have hown : s.vm.findClass RX4 = some m.cls := findClass_of_methodNamed B.named
  have hin : meth.name = "<init>" := (name_of_methodNamed B.named B.method).1
  subst hsz
  have hD := hD0.self (sz := s.heap.size)
  generalize hAe : va_A [(h, .inr (4, [.null, .int 0]))] s.heap.size = A at hD hRO ⊢
  have hA : ∀ q : Nat, s.heap.size ≤ q → A q := fun q h => by rw [← hAe]; exact Or.inr h
  have hS : va_S A s.heap s.heap [] := va_S.rf
  have hl := lv_entry [.ref h] (n := 2) (Nat.le_of_ble_eq_true rfl)
  rw [lg_entry_eq]
  generalize (lg_sl ([.ref h]) ++ List.replicate (2 - (lg_sl ([.ref h])).length) Slot.unset).toArray = ls at hl ⊢
  have hl : lv_has ls 2 [(0, .ref h)] := hl
  refine lv_aload_n hx hb dX4_init_0 rfl (lv_at hl 0 rfl) ?_
  refine W.objInit hx hb hown (hts _ kw_53) (hts _ kw_46) (hts _ kw_47) rfl (by rw [hml]; exact hl.1) rfl dX4_init_1 (Nat.le_of_ble_eq_true rfl) (Nat.le_of_ble_eq_true rfl) ?_
  refine W.eq (g2 := F0 m 4 ls []) rfl ?_
  refine lv_aload_n hx hb dX4_init_4 rfl (lv_at hl 0 rfl) ?_
  refine lv_bipush (v := 6) hx hb dX4_init_5 (by decide) ?_
  refine va_newq (C := RX3) (N' := 6) hx hb hown (hts _ kw_54) hX.2.2.2.1 hK hP hD hS hA (by decide) (by decide) (by decide) (Nat.le_of_ble_eq_true rfl) (Nat.le_of_ble_eq_true rfl) dX4_init_7 (fun q1 c1 H hK hP hD hS => ?_)
  have hP : va_P (dC, dI) vwCl [(h, .inr (4, [.null, .int 0])), (q1, .inl (c1, 6, .inr (.inr (.inr (.inr (fun _ => none))))))] H := hP
  have hD : va_D A [(h, .inr (4, [.null, .int 0])), (q1, .inl (c1, 6, .inr (.inr (.inr (.inr (fun _ => none))))))] := hD
  have hK : va_K (dC, dI) vwCl [(c1, .object RX3)] s := hK
  refine va_putF (D := (dC, dI)) (ci := 4) (v := .ref q1) (ty := .array (.object "FewSigns$Sign")) (C := RX4) (T := TX4) (N := 2) hx hb hts (zcl_ok 4 (RX4, TX4, 2) rfl).1 tyX4 tyX4_ok nmX4 hown hK hP hD hS 0 rfl rfl 0 (by decide) (hts _ kw_91) (fun _ h9 => h9) rfl hin rfl (by decide +kernel) rfl rfl (Nat.le_of_ble_eq_true rfl) dX4_init_10 (fun H locs hP hD hS => ?_)
  have hP : va_P (dC, dI) vwCl [(h, .inr (4, [.ref q1, .int 0])), (q1, .inl (c1, 6, .inr (.inr (.inr (.inr (fun _ => none))))))] H := hP
  have hD : va_D A [(h, .inr (4, [.ref q1, .int 0])), (q1, .inl (c1, 6, .inr (.inr (.inr (.inr (fun _ => none))))))] := hD
  refine lv_iconst (v := 0) hx hb dX4_init_13 (by decide) ?_
  refine lv_istore_n (lv' := [(1, .int 0), (0, .ref h)]) hx hb dX4_init_14 rfl hl (by decide) rfl (fun ls hl => ?_)
  refine lv_iload_n hx hb dX4_init_15 rfl (lv_at hl 0 rfl) ?_
  refine lv_bipush (v := 6) hx hb dX4_init_16 (by decide) ?_
  refine lv_icmp_ge (tgt := 40) hx hb dX4_init_18 (by decide) (fun c9 => ?_) (fun c9 => ?_)
  · exact absurd c9 (by decide)
  refine lv_aload_n hx hb dX4_init_21 rfl (lv_at hl 1 rfl) ?_
  refine va_get (D := (dC, dI)) (ci := 4) (v := .ref q1) (C := RX4) (T := TX4) (N := 2) hx hb hts (zcl_ok 4 (RX4, TX4, 2) rfl).1 hown hK hP 0 rfl rfl 0 (by decide) (hts _ kw_91) (fun _ h9 => h9) rfl dX4_init_22 ?_
  refine lv_iload_n hx hb dX4_init_25 rfl (lv_at hl 0 rfl) ?_
  refine va_new (ci := 3) (fs := [.int 0, .int 0, .int 0, .int 0, .int 0]) (C := RX3) (T := TX3) (N := 5) hx hb hts (zcl_ok 3 (RX3, TX3, 5) rfl).1 tyX3 tyX3_ok hown (hts _ kw_54) (hts _ kw_56) (hts _ kw_30) hK hP hD hS hA rfl (by decide +kernel) (Nat.le_of_ble_eq_true rfl) (Nat.le_of_ble_eq_true rfl) dX4_init_26 (fun s0 H hP hD hS => ?_)
  have hP : va_P (dC, dI) vwCl [(h, .inr (4, [.ref q1, .int 0])), (q1, .inl (c1, 6, .inr (.inr (.inr (.inr (fun _ => none)))))), (s0, .inr (3, [.int 0, .int 0, .int 0, .int 0, .int 0]))] H := hP
  have hD : va_D A [(h, .inr (4, [.ref q1, .int 0])), (q1, .inl (c1, 6, .inr (.inr (.inr (.inr (fun _ => none)))))), (s0, .inr (3, [.int 0, .int 0, .int 0, .int 0, .int 0]))] := hD
  refine lv_dup hx hb dX4_init_29 rfl ?_
  refine k_callN (wr := [(h, .inr (4, [.ref q1, .int 0])), (q1, .inl (c1, 6, .inr (.inr (.inr (.inr (fun _ => none))))))]) (rest := [.ref s0, .int 0, .ref q1]) (As := []) ⟨hx, hb, hml, hown, hts⟩ (kX3 l ad0 sc s0) ⟨va_cnB 0 hts kg_X3 rfl rfl rfl hX.1 (hts _ kw_30) (by decide +kernel) ⟨(Nat.le_of_ble_eq_true rfl), (Nat.le_of_ble_eq_true rfl)⟩, rfl, hts _ kw_58⟩ hX hRO hP hD hK hS hA rfl hl.1 (Nat.le_of_ble_eq_true rfl) dX4_init_30 ⟨(Nat.le_of_ble_eq_true rfl), (Nat.le_of_ble_eq_true rfl)⟩ (fun u H locs hu hP hD hK hS => ?_)
  subst hu
  have hP : va_P (dC, dI) vwCl [(h, .inr (4, [.ref q1, .int 0])), (q1, .inl (c1, 6, .inr (.inr (.inr (.inr (fun _ => none)))))), (s0, .inr (3, [.int 0, .int 0, .int 0, .int 0, .int 0]))] H := hP
  have hD : va_D A [(h, .inr (4, [.ref q1, .int 0])), (q1, .inl (c1, 6, .inr (.inr (.inr (.inr (fun _ => none)))))), (s0, .inr (3, [.int 0, .int 0, .int 0, .int 0, .int 0]))] := hD
  have hK : va_K (dC, dI) vwCl [(c1, .object RX3)] s := hK
  refine va_astq (r := (RX3, TX3, 5)) hx hb hK hP hD hS 1 0 2 3 rfl rfl rfl rfl (by unfold vp_in; decide) dX4_init_33 (fun H locs hP hD hS => ?_)
  have hP : va_P (dC, dI) vwCl [(h, .inr (4, [.ref q1, .int 0])), (q1, .inl (c1, 6, .inr (.inr (.inr (.inr (va_up (fun _ => none) (0 : Int32).toNatClampNeg (some s0))))))), (s0, .inr (3, [.int 0, .int 0, .int 0, .int 0, .int 0]))] H := hP
  have hD : va_D A [(h, .inr (4, [.ref q1, .int 0])), (q1, .inl (c1, 6, .inr (.inr (.inr (.inr (va_up (fun _ => none) (0 : Int32).toNatClampNeg (some s0))))))), (s0, .inr (3, [.int 0, .int 0, .int 0, .int 0, .int 0]))] := hD
  refine lv_iinc (v := 1) (lv' := [(1, .int 1), (0, .ref h)]) hx hb dX4_init_34 hl (k := 0) rfl (by decide) (by decide) rfl (fun ls hl => ?_)
  refine lv_goto (tgt := 15) hx hb dX4_init_37 (by decide) ?_
  refine lv_iload_n hx hb dX4_init_15 rfl (lv_at hl 0 rfl) ?_
  refine lv_bipush (v := 6) hx hb dX4_init_16 (by decide) ?_
  refine lv_icmp_ge (tgt := 40) hx hb dX4_init_18 (by decide) (fun c9 => ?_) (fun c9 => ?_)
  · exact absurd c9 (by decide)
  refine lv_aload_n hx hb dX4_init_21 rfl (lv_at hl 1 rfl) ?_
  refine va_get (D := (dC, dI)) (ci := 4) (v := .ref q1) (C := RX4) (T := TX4) (N := 2) hx hb hts (zcl_ok 4 (RX4, TX4, 2) rfl).1 hown hK hP 0 rfl rfl 0 (by decide) (hts _ kw_91) (fun _ h9 => h9) rfl dX4_init_22 ?_
  refine lv_iload_n hx hb dX4_init_25 rfl (lv_at hl 0 rfl) ?_
  refine va_new (ci := 3) (fs := [.int 0, .int 0, .int 0, .int 0, .int 0]) (C := RX3) (T := TX3) (N := 5) hx hb hts (zcl_ok 3 (RX3, TX3, 5) rfl).1 tyX3 tyX3_ok hown (hts _ kw_54) (hts _ kw_56) (hts _ kw_30) hK hP hD hS hA rfl (by decide +kernel) (Nat.le_of_ble_eq_true rfl) (Nat.le_of_ble_eq_true rfl) dX4_init_26 (fun s1 H hP hD hS => ?_)
  have hP : va_P (dC, dI) vwCl [(h, .inr (4, [.ref q1, .int 0])), (q1, .inl (c1, 6, .inr (.inr (.inr (.inr (va_up (fun _ => none) (0 : Int32).toNatClampNeg (some s0))))))), (s0, .inr (3, [.int 0, .int 0, .int 0, .int 0, .int 0])), (s1, .inr (3, [.int 0, .int 0, .int 0, .int 0, .int 0]))] H := hP
  have hD : va_D A [(h, .inr (4, [.ref q1, .int 0])), (q1, .inl (c1, 6, .inr (.inr (.inr (.inr (va_up (fun _ => none) (0 : Int32).toNatClampNeg (some s0))))))), (s0, .inr (3, [.int 0, .int 0, .int 0, .int 0, .int 0])), (s1, .inr (3, [.int 0, .int 0, .int 0, .int 0, .int 0]))] := hD
  refine lv_dup hx hb dX4_init_29 rfl ?_
  refine k_callN (wr := [(h, .inr (4, [.ref q1, .int 0])), (q1, .inl (c1, 6, .inr (.inr (.inr (.inr (va_up (fun _ => none) (0 : Int32).toNatClampNeg (some s0))))))), (s0, .inr (3, [.int 0, .int 0, .int 0, .int 0, .int 0]))]) (rest := [.ref s1, .int 1, .ref q1]) (As := []) ⟨hx, hb, hml, hown, hts⟩ (kX3 l ad0 sc s1) ⟨va_cnB 0 hts kg_X3 rfl rfl rfl hX.1 (hts _ kw_30) (by decide +kernel) ⟨(Nat.le_of_ble_eq_true rfl), (Nat.le_of_ble_eq_true rfl)⟩, rfl, hts _ kw_58⟩ hX hRO hP hD hK hS hA rfl hl.1 (Nat.le_of_ble_eq_true rfl) dX4_init_30 ⟨(Nat.le_of_ble_eq_true rfl), (Nat.le_of_ble_eq_true rfl)⟩ (fun u H locs hu hP hD hK hS => ?_)
  subst hu
  have hP : va_P (dC, dI) vwCl [(h, .inr (4, [.ref q1, .int 0])), (q1, .inl (c1, 6, .inr (.inr (.inr (.inr (va_up (fun _ => none) (0 : Int32).toNatClampNeg (some s0))))))), (s0, .inr (3, [.int 0, .int 0, .int 0, .int 0, .int 0])), (s1, .inr (3, [.int 0, .int 0, .int 0, .int 0, .int 0]))] H := hP
  have hD : va_D A [(h, .inr (4, [.ref q1, .int 0])), (q1, .inl (c1, 6, .inr (.inr (.inr (.inr (va_up (fun _ => none) (0 : Int32).toNatClampNeg (some s0))))))), (s0, .inr (3, [.int 0, .int 0, .int 0, .int 0, .int 0])), (s1, .inr (3, [.int 0, .int 0, .int 0, .int 0, .int 0]))] := hD
  have hK : va_K (dC, dI) vwCl [(c1, .object RX3)] s := hK
  refine va_astq (r := (RX3, TX3, 5)) hx hb hK hP hD hS 1 0 3 3 rfl rfl rfl rfl (by unfold vp_in; decide) dX4_init_33 (fun H locs hP hD hS => ?_)
  have hP : va_P (dC, dI) vwCl [(h, .inr (4, [.ref q1, .int 0])), (q1, .inl (c1, 6, .inr (.inr (.inr (.inr (va_up (va_up (fun _ => none) (0 : Int32).toNatClampNeg (some s0)) (1 : Int32).toNatClampNeg (some s1))))))), (s0, .inr (3, [.int 0, .int 0, .int 0, .int 0, .int 0])), (s1, .inr (3, [.int 0, .int 0, .int 0, .int 0, .int 0]))] H := hP
  have hD : va_D A [(h, .inr (4, [.ref q1, .int 0])), (q1, .inl (c1, 6, .inr (.inr (.inr (.inr (va_up (va_up (fun _ => none) (0 : Int32).toNatClampNeg (some s0)) (1 : Int32).toNatClampNeg (some s1))))))), (s0, .inr (3, [.int 0, .int 0, .int 0, .int 0, .int 0])), (s1, .inr (3, [.int 0, .int 0, .int 0, .int 0, .int 0]))] := hD
  refine lv_iinc (v := 2) (lv' := [(1, .int 2), (0, .ref h)]) hx hb dX4_init_34 hl (k := 0) rfl (by decide) (by decide) rfl (fun ls hl => ?_)
  refine lv_goto (tgt := 15) hx hb dX4_init_37 (by decide) ?_
  refine lv_iload_n hx hb dX4_init_15 rfl (lv_at hl 0 rfl) ?_
  refine lv_bipush (v := 6) hx hb dX4_init_16 (by decide) ?_
  refine lv_icmp_ge (tgt := 40) hx hb dX4_init_18 (by decide) (fun c9 => ?_) (fun c9 => ?_)
  · exact absurd c9 (by decide)
  refine lv_aload_n hx hb dX4_init_21 rfl (lv_at hl 1 rfl) ?_
  refine va_get (D := (dC, dI)) (ci := 4) (v := .ref q1) (C := RX4) (T := TX4) (N := 2) hx hb hts (zcl_ok 4 (RX4, TX4, 2) rfl).1 hown hK hP 0 rfl rfl 0 (by decide) (hts _ kw_91) (fun _ h9 => h9) rfl dX4_init_22 ?_
  refine lv_iload_n hx hb dX4_init_25 rfl (lv_at hl 0 rfl) ?_
  refine va_new (ci := 3) (fs := [.int 0, .int 0, .int 0, .int 0, .int 0]) (C := RX3) (T := TX3) (N := 5) hx hb hts (zcl_ok 3 (RX3, TX3, 5) rfl).1 tyX3 tyX3_ok hown (hts _ kw_54) (hts _ kw_56) (hts _ kw_30) hK hP hD hS hA rfl (by decide +kernel) (Nat.le_of_ble_eq_true rfl) (Nat.le_of_ble_eq_true rfl) dX4_init_26 (fun s2 H hP hD hS => ?_)
  have hP : va_P (dC, dI) vwCl [(h, .inr (4, [.ref q1, .int 0])), (q1, .inl (c1, 6, .inr (.inr (.inr (.inr (va_up (va_up (fun _ => none) (0 : Int32).toNatClampNeg (some s0)) (1 : Int32).toNatClampNeg (some s1))))))), (s0, .inr (3, [.int 0, .int 0, .int 0, .int 0, .int 0])), (s1, .inr (3, [.int 0, .int 0, .int 0, .int 0, .int 0])), (s2, .inr (3, [.int 0, .int 0, .int 0, .int 0, .int 0]))] H := hP
  have hD : va_D A [(h, .inr (4, [.ref q1, .int 0])), (q1, .inl (c1, 6, .inr (.inr (.inr (.inr (va_up (va_up (fun _ => none) (0 : Int32).toNatClampNeg (some s0)) (1 : Int32).toNatClampNeg (some s1))))))), (s0, .inr (3, [.int 0, .int 0, .int 0, .int 0, .int 0])), (s1, .inr (3, [.int 0, .int 0, .int 0, .int 0, .int 0])), (s2, .inr (3, [.int 0, .int 0, .int 0, .int 0, .int 0]))] := hD
  refine lv_dup hx hb dX4_init_29 rfl ?_
  refine k_callN (wr := [(h, .inr (4, [.ref q1, .int 0])), (q1, .inl (c1, 6, .inr (.inr (.inr (.inr (va_up (va_up (fun _ => none) (0 : Int32).toNatClampNeg (some s0)) (1 : Int32).toNatClampNeg (some s1))))))), (s0, .inr (3, [.int 0, .int 0, .int 0, .int 0, .int 0])), (s1, .inr (3, [.int 0, .int 0, .int 0, .int 0, .int 0]))]) (rest := [.ref s2, .int 2, .ref q1]) (As := []) ⟨hx, hb, hml, hown, hts⟩ (kX3 l ad0 sc s2) ⟨va_cnB 0 hts kg_X3 rfl rfl rfl hX.1 (hts _ kw_30) (by decide +kernel) ⟨(Nat.le_of_ble_eq_true rfl), (Nat.le_of_ble_eq_true rfl)⟩, rfl, hts _ kw_58⟩ hX hRO hP hD hK hS hA rfl hl.1 (Nat.le_of_ble_eq_true rfl) dX4_init_30 ⟨(Nat.le_of_ble_eq_true rfl), (Nat.le_of_ble_eq_true rfl)⟩ (fun u H locs hu hP hD hK hS => ?_)
  subst hu
  have hP : va_P (dC, dI) vwCl [(h, .inr (4, [.ref q1, .int 0])), (q1, .inl (c1, 6, .inr (.inr (.inr (.inr (va_up (va_up (fun _ => none) (0 : Int32).toNatClampNeg (some s0)) (1 : Int32).toNatClampNeg (some s1))))))), (s0, .inr (3, [.int 0, .int 0, .int 0, .int 0, .int 0])), (s1, .inr (3, [.int 0, .int 0, .int 0, .int 0, .int 0])), (s2, .inr (3, [.int 0, .int 0, .int 0, .int 0, .int 0]))] H := hP
  have hD : va_D A [(h, .inr (4, [.ref q1, .int 0])), (q1, .inl (c1, 6, .inr (.inr (.inr (.inr (va_up (va_up (fun _ => none) (0 : Int32).toNatClampNeg (some s0)) (1 : Int32).toNatClampNeg (some s1))))))), (s0, .inr (3, [.int 0, .int 0, .int 0, .int 0, .int 0])), (s1, .inr (3, [.int 0, .int 0, .int 0, .int 0, .int 0])), (s2, .inr (3, [.int 0, .int 0, .int 0, .int 0, .int 0]))] := hD
  have hK : va_K (dC, dI) vwCl [(c1, .object RX3)] s := hK
  refine va_astq (r := (RX3, TX3, 5)) hx hb hK hP hD hS 1 0 4 3 rfl rfl rfl rfl (by unfold vp_in; decide) dX4_init_33 (fun H locs hP hD hS => ?_)
  have hP : va_P (dC, dI) vwCl [(h, .inr (4, [.ref q1, .int 0])), (q1, .inl (c1, 6, .inr (.inr (.inr (.inr (va_up (va_up (va_up (fun _ => none) (0 : Int32).toNatClampNeg (some s0)) (1 : Int32).toNatClampNeg (some s1)) (2 : Int32).toNatClampNeg (some s2))))))), (s0, .inr (3, [.int 0, .int 0, .int 0, .int 0, .int 0])), (s1, .inr (3, [.int 0, .int 0, .int 0, .int 0, .int 0])), (s2, .inr (3, [.int 0, .int 0, .int 0, .int 0, .int 0]))] H := hP
  have hD : va_D A [(h, .inr (4, [.ref q1, .int 0])), (q1, .inl (c1, 6, .inr (.inr (.inr (.inr (va_up (va_up (va_up (fun _ => none) (0 : Int32).toNatClampNeg (some s0)) (1 : Int32).toNatClampNeg (some s1)) (2 : Int32).toNatClampNeg (some s2))))))), (s0, .inr (3, [.int 0, .int 0, .int 0, .int 0, .int 0])), (s1, .inr (3, [.int 0, .int 0, .int 0, .int 0, .int 0])), (s2, .inr (3, [.int 0, .int 0, .int 0, .int 0, .int 0]))] := hD
  refine lv_iinc (v := 3) (lv' := [(1, .int 3), (0, .ref h)]) hx hb dX4_init_34 hl (k := 0) rfl (by decide) (by decide) rfl (fun ls hl => ?_)
  refine lv_goto (tgt := 15) hx hb dX4_init_37 (by decide) ?_
  refine lv_iload_n hx hb dX4_init_15 rfl (lv_at hl 0 rfl) ?_
  refine lv_bipush (v := 6) hx hb dX4_init_16 (by decide) ?_
  refine lv_icmp_ge (tgt := 40) hx hb dX4_init_18 (by decide) (fun c9 => ?_) (fun c9 => ?_)
  · exact absurd c9 (by decide)
  refine lv_aload_n hx hb dX4_init_21 rfl (lv_at hl 1 rfl) ?_
  refine va_get (D := (dC, dI)) (ci := 4) (v := .ref q1) (C := RX4) (T := TX4) (N := 2) hx hb hts (zcl_ok 4 (RX4, TX4, 2) rfl).1 hown hK hP 0 rfl rfl 0 (by decide) (hts _ kw_91) (fun _ h9 => h9) rfl dX4_init_22 ?_
  refine lv_iload_n hx hb dX4_init_25 rfl (lv_at hl 0 rfl) ?_
  refine va_new (ci := 3) (fs := [.int 0, .int 0, .int 0, .int 0, .int 0]) (C := RX3) (T := TX3) (N := 5) hx hb hts (zcl_ok 3 (RX3, TX3, 5) rfl).1 tyX3 tyX3_ok hown (hts _ kw_54) (hts _ kw_56) (hts _ kw_30) hK hP hD hS hA rfl (by decide +kernel) (Nat.le_of_ble_eq_true rfl) (Nat.le_of_ble_eq_true rfl) dX4_init_26 (fun s3 H hP hD hS => ?_)
  have hP : va_P (dC, dI) vwCl [(h, .inr (4, [.ref q1, .int 0])), (q1, .inl (c1, 6, .inr (.inr (.inr (.inr (va_up (va_up (va_up (fun _ => none) (0 : Int32).toNatClampNeg (some s0)) (1 : Int32).toNatClampNeg (some s1)) (2 : Int32).toNatClampNeg (some s2))))))), (s0, .inr (3, [.int 0, .int 0, .int 0, .int 0, .int 0])), (s1, .inr (3, [.int 0, .int 0, .int 0, .int 0, .int 0])), (s2, .inr (3, [.int 0, .int 0, .int 0, .int 0, .int 0])), (s3, .inr (3, [.int 0, .int 0, .int 0, .int 0, .int 0]))] H := hP
  have hD : va_D A [(h, .inr (4, [.ref q1, .int 0])), (q1, .inl (c1, 6, .inr (.inr (.inr (.inr (va_up (va_up (va_up (fun _ => none) (0 : Int32).toNatClampNeg (some s0)) (1 : Int32).toNatClampNeg (some s1)) (2 : Int32).toNatClampNeg (some s2))))))), (s0, .inr (3, [.int 0, .int 0, .int 0, .int 0, .int 0])), (s1, .inr (3, [.int 0, .int 0, .int 0, .int 0, .int 0])), (s2, .inr (3, [.int 0, .int 0, .int 0, .int 0, .int 0])), (s3, .inr (3, [.int 0, .int 0, .int 0, .int 0, .int 0]))] := hD
  refine lv_dup hx hb dX4_init_29 rfl ?_
  refine k_callN (wr := [(h, .inr (4, [.ref q1, .int 0])), (q1, .inl (c1, 6, .inr (.inr (.inr (.inr (va_up (va_up (va_up (fun _ => none) (0 : Int32).toNatClampNeg (some s0)) (1 : Int32).toNatClampNeg (some s1)) (2 : Int32).toNatClampNeg (some s2))))))), (s0, .inr (3, [.int 0, .int 0, .int 0, .int 0, .int 0])), (s1, .inr (3, [.int 0, .int 0, .int 0, .int 0, .int 0])), (s2, .inr (3, [.int 0, .int 0, .int 0, .int 0, .int 0]))]) (rest := [.ref s3, .int 3, .ref q1]) (As := []) ⟨hx, hb, hml, hown, hts⟩ (kX3 l ad0 sc s3) ⟨va_cnB 0 hts kg_X3 rfl rfl rfl hX.1 (hts _ kw_30) (by decide +kernel) ⟨(Nat.le_of_ble_eq_true rfl), (Nat.le_of_ble_eq_true rfl)⟩, rfl, hts _ kw_58⟩ hX hRO hP hD hK hS hA rfl hl.1 (Nat.le_of_ble_eq_true rfl) dX4_init_30 ⟨(Nat.le_of_ble_eq_true rfl), (Nat.le_of_ble_eq_true rfl)⟩ (fun u H locs hu hP hD hK hS => ?_)
  subst hu
  have hP : va_P (dC, dI) vwCl [(h, .inr (4, [.ref q1, .int 0])), (q1, .inl (c1, 6, .inr (.inr (.inr (.inr (va_up (va_up (va_up (fun _ => none) (0 : Int32).toNatClampNeg (some s0)) (1 : Int32).toNatClampNeg (some s1)) (2 : Int32).toNatClampNeg (some s2))))))), (s0, .inr (3, [.int 0, .int 0, .int 0, .int 0, .int 0])), (s1, .inr (3, [.int 0, .int 0, .int 0, .int 0, .int 0])), (s2, .inr (3, [.int 0, .int 0, .int 0, .int 0, .int 0])), (s3, .inr (3, [.int 0, .int 0, .int 0, .int 0, .int 0]))] H := hP
  have hD : va_D A [(h, .inr (4, [.ref q1, .int 0])), (q1, .inl (c1, 6, .inr (.inr (.inr (.inr (va_up (va_up (va_up (fun _ => none) (0 : Int32).toNatClampNeg (some s0)) (1 : Int32).toNatClampNeg (some s1)) (2 : Int32).toNatClampNeg (some s2))))))), (s0, .inr (3, [.int 0, .int 0, .int 0, .int 0, .int 0])), (s1, .inr (3, [.int 0, .int 0, .int 0, .int 0, .int 0])), (s2, .inr (3, [.int 0, .int 0, .int 0, .int 0, .int 0])), (s3, .inr (3, [.int 0, .int 0, .int 0, .int 0, .int 0]))] := hD
  have hK : va_K (dC, dI) vwCl [(c1, .object RX3)] s := hK
  refine va_astq (r := (RX3, TX3, 5)) hx hb hK hP hD hS 1 0 5 3 rfl rfl rfl rfl (by unfold vp_in; decide) dX4_init_33 (fun H locs hP hD hS => ?_)
  have hP : va_P (dC, dI) vwCl [(h, .inr (4, [.ref q1, .int 0])), (q1, .inl (c1, 6, .inr (.inr (.inr (.inr (va_up (va_up (va_up (va_up (fun _ => none) (0 : Int32).toNatClampNeg (some s0)) (1 : Int32).toNatClampNeg (some s1)) (2 : Int32).toNatClampNeg (some s2)) (3 : Int32).toNatClampNeg (some s3))))))), (s0, .inr (3, [.int 0, .int 0, .int 0, .int 0, .int 0])), (s1, .inr (3, [.int 0, .int 0, .int 0, .int 0, .int 0])), (s2, .inr (3, [.int 0, .int 0, .int 0, .int 0, .int 0])), (s3, .inr (3, [.int 0, .int 0, .int 0, .int 0, .int 0]))] H := hP
  have hD : va_D A [(h, .inr (4, [.ref q1, .int 0])), (q1, .inl (c1, 6, .inr (.inr (.inr (.inr (va_up (va_up (va_up (va_up (fun _ => none) (0 : Int32).toNatClampNeg (some s0)) (1 : Int32).toNatClampNeg (some s1)) (2 : Int32).toNatClampNeg (some s2)) (3 : Int32).toNatClampNeg (some s3))))))), (s0, .inr (3, [.int 0, .int 0, .int 0, .int 0, .int 0])), (s1, .inr (3, [.int 0, .int 0, .int 0, .int 0, .int 0])), (s2, .inr (3, [.int 0, .int 0, .int 0, .int 0, .int 0])), (s3, .inr (3, [.int 0, .int 0, .int 0, .int 0, .int 0]))] := hD
  refine lv_iinc (v := 4) (lv' := [(1, .int 4), (0, .ref h)]) hx hb dX4_init_34 hl (k := 0) rfl (by decide) (by decide) rfl (fun ls hl => ?_)
  refine lv_goto (tgt := 15) hx hb dX4_init_37 (by decide) ?_
  refine lv_iload_n hx hb dX4_init_15 rfl (lv_at hl 0 rfl) ?_
  refine lv_bipush (v := 6) hx hb dX4_init_16 (by decide) ?_
  refine lv_icmp_ge (tgt := 40) hx hb dX4_init_18 (by decide) (fun c9 => ?_) (fun c9 => ?_)
  · exact absurd c9 (by decide)
  refine lv_aload_n hx hb dX4_init_21 rfl (lv_at hl 1 rfl) ?_
  refine va_get (D := (dC, dI)) (ci := 4) (v := .ref q1) (C := RX4) (T := TX4) (N := 2) hx hb hts (zcl_ok 4 (RX4, TX4, 2) rfl).1 hown hK hP 0 rfl rfl 0 (by decide) (hts _ kw_91) (fun _ h9 => h9) rfl dX4_init_22 ?_
  refine lv_iload_n hx hb dX4_init_25 rfl (lv_at hl 0 rfl) ?_
  refine va_new (ci := 3) (fs := [.int 0, .int 0, .int 0, .int 0, .int 0]) (C := RX3) (T := TX3) (N := 5) hx hb hts (zcl_ok 3 (RX3, TX3, 5) rfl).1 tyX3 tyX3_ok hown (hts _ kw_54) (hts _ kw_56) (hts _ kw_30) hK hP hD hS hA rfl (by decide +kernel) (Nat.le_of_ble_eq_true rfl) (Nat.le_of_ble_eq_true rfl) dX4_init_26 (fun s4 H hP hD hS => ?_)
  have hP : va_P (dC, dI) vwCl [(h, .inr (4, [.ref q1, .int 0])), (q1, .inl (c1, 6, .inr (.inr (.inr (.inr (va_up (va_up (va_up (va_up (fun _ => none) (0 : Int32).toNatClampNeg (some s0)) (1 : Int32).toNatClampNeg (some s1)) (2 : Int32).toNatClampNeg (some s2)) (3 : Int32).toNatClampNeg (some s3))))))), (s0, .inr (3, [.int 0, .int 0, .int 0, .int 0, .int 0])), (s1, .inr (3, [.int 0, .int 0, .int 0, .int 0, .int 0])), (s2, .inr (3, [.int 0, .int 0, .int 0, .int 0, .int 0])), (s3, .inr (3, [.int 0, .int 0, .int 0, .int 0, .int 0])), (s4, .inr (3, [.int 0, .int 0, .int 0, .int 0, .int 0]))] H := hP
  have hD : va_D A [(h, .inr (4, [.ref q1, .int 0])), (q1, .inl (c1, 6, .inr (.inr (.inr (.inr (va_up (va_up (va_up (va_up (fun _ => none) (0 : Int32).toNatClampNeg (some s0)) (1 : Int32).toNatClampNeg (some s1)) (2 : Int32).toNatClampNeg (some s2)) (3 : Int32).toNatClampNeg (some s3))))))), (s0, .inr (3, [.int 0, .int 0, .int 0, .int 0, .int 0])), (s1, .inr (3, [.int 0, .int 0, .int 0, .int 0, .int 0])), (s2, .inr (3, [.int 0, .int 0, .int 0, .int 0, .int 0])), (s3, .inr (3, [.int 0, .int 0, .int 0, .int 0, .int 0])), (s4, .inr (3, [.int 0, .int 0, .int 0, .int 0, .int 0]))] := hD
  refine lv_dup hx hb dX4_init_29 rfl ?_
  refine k_callN (wr := [(h, .inr (4, [.ref q1, .int 0])), (q1, .inl (c1, 6, .inr (.inr (.inr (.inr (va_up (va_up (va_up (va_up (fun _ => none) (0 : Int32).toNatClampNeg (some s0)) (1 : Int32).toNatClampNeg (some s1)) (2 : Int32).toNatClampNeg (some s2)) (3 : Int32).toNatClampNeg (some s3))))))), (s0, .inr (3, [.int 0, .int 0, .int 0, .int 0, .int 0])), (s1, .inr (3, [.int 0, .int 0, .int 0, .int 0, .int 0])), (s2, .inr (3, [.int 0, .int 0, .int 0, .int 0, .int 0])), (s3, .inr (3, [.int 0, .int 0, .int 0, .int 0, .int 0]))]) (rest := [.ref s4, .int 4, .ref q1]) (As := []) ⟨hx, hb, hml, hown, hts⟩ (kX3 l ad0 sc s4) ⟨va_cnB 0 hts kg_X3 rfl rfl rfl hX.1 (hts _ kw_30) (by decide +kernel) ⟨(Nat.le_of_ble_eq_true rfl), (Nat.le_of_ble_eq_true rfl)⟩, rfl, hts _ kw_58⟩ hX hRO hP hD hK hS hA rfl hl.1 (Nat.le_of_ble_eq_true rfl) dX4_init_30 ⟨(Nat.le_of_ble_eq_true rfl), (Nat.le_of_ble_eq_true rfl)⟩ (fun u H locs hu hP hD hK hS => ?_)
  subst hu
  have hP : va_P (dC, dI) vwCl [(h, .inr (4, [.ref q1, .int 0])), (q1, .inl (c1, 6, .inr (.inr (.inr (.inr (va_up (va_up (va_up (va_up (fun _ => none) (0 : Int32).toNatClampNeg (some s0)) (1 : Int32).toNatClampNeg (some s1)) (2 : Int32).toNatClampNeg (some s2)) (3 : Int32).toNatClampNeg (some s3))))))), (s0, .inr (3, [.int 0, .int 0, .int 0, .int 0, .int 0])), (s1, .inr (3, [.int 0, .int 0, .int 0, .int 0, .int 0])), (s2, .inr (3, [.int 0, .int 0, .int 0, .int 0, .int 0])), (s3, .inr (3, [.int 0, .int 0, .int 0, .int 0, .int 0])), (s4, .inr (3, [.int 0, .int 0, .int 0, .int 0, .int 0]))] H := hP
  have hD : va_D A [(h, .inr (4, [.ref q1, .int 0])), (q1, .inl (c1, 6, .inr (.inr (.inr (.inr (va_up (va_up (va_up (va_up (fun _ => none) (0 : Int32).toNatClampNeg (some s0)) (1 : Int32).toNatClampNeg (some s1)) (2 : Int32).toNatClampNeg (some s2)) (3 : Int32).toNatClampNeg (some s3))))))), (s0, .inr (3, [.int 0, .int 0, .int 0, .int 0, .int 0])), (s1, .inr (3, [.int 0, .int 0, .int 0, .int 0, .int 0])), (s2, .inr (3, [.int 0, .int 0, .int 0, .int 0, .int 0])), (s3, .inr (3, [.int 0, .int 0, .int 0, .int 0, .int 0])), (s4, .inr (3, [.int 0, .int 0, .int 0, .int 0, .int 0]))] := hD
  have hK : va_K (dC, dI) vwCl [(c1, .object RX3)] s := hK
  refine va_astq (r := (RX3, TX3, 5)) hx hb hK hP hD hS 1 0 6 3 rfl rfl rfl rfl (by unfold vp_in; decide) dX4_init_33 (fun H locs hP hD hS => ?_)
  have hP : va_P (dC, dI) vwCl [(h, .inr (4, [.ref q1, .int 0])), (q1, .inl (c1, 6, .inr (.inr (.inr (.inr (va_up (va_up (va_up (va_up (va_up (fun _ => none) (0 : Int32).toNatClampNeg (some s0)) (1 : Int32).toNatClampNeg (some s1)) (2 : Int32).toNatClampNeg (some s2)) (3 : Int32).toNatClampNeg (some s3)) (4 : Int32).toNatClampNeg (some s4))))))), (s0, .inr (3, [.int 0, .int 0, .int 0, .int 0, .int 0])), (s1, .inr (3, [.int 0, .int 0, .int 0, .int 0, .int 0])), (s2, .inr (3, [.int 0, .int 0, .int 0, .int 0, .int 0])), (s3, .inr (3, [.int 0, .int 0, .int 0, .int 0, .int 0])), (s4, .inr (3, [.int 0, .int 0, .int 0, .int 0, .int 0]))] H := hP
  have hD : va_D A [(h, .inr (4, [.ref q1, .int 0])), (q1, .inl (c1, 6, .inr (.inr (.inr (.inr (va_up (va_up (va_up (va_up (va_up (fun _ => none) (0 : Int32).toNatClampNeg (some s0)) (1 : Int32).toNatClampNeg (some s1)) (2 : Int32).toNatClampNeg (some s2)) (3 : Int32).toNatClampNeg (some s3)) (4 : Int32).toNatClampNeg (some s4))))))), (s0, .inr (3, [.int 0, .int 0, .int 0, .int 0, .int 0])), (s1, .inr (3, [.int 0, .int 0, .int 0, .int 0, .int 0])), (s2, .inr (3, [.int 0, .int 0, .int 0, .int 0, .int 0])), (s3, .inr (3, [.int 0, .int 0, .int 0, .int 0, .int 0])), (s4, .inr (3, [.int 0, .int 0, .int 0, .int 0, .int 0]))] := hD
  refine lv_iinc (v := 5) (lv' := [(1, .int 5), (0, .ref h)]) hx hb dX4_init_34 hl (k := 0) rfl (by decide) (by decide) rfl (fun ls hl => ?_)
  refine lv_goto (tgt := 15) hx hb dX4_init_37 (by decide) ?_
  refine lv_iload_n hx hb dX4_init_15 rfl (lv_at hl 0 rfl) ?_
  refine lv_bipush (v := 6) hx hb dX4_init_16 (by decide) ?_
  refine lv_icmp_ge (tgt := 40) hx hb dX4_init_18 (by decide) (fun c9 => ?_) (fun c9 => ?_)
  · exact absurd c9 (by decide)
  refine lv_aload_n hx hb dX4_init_21 rfl (lv_at hl 1 rfl) ?_
  refine va_get (D := (dC, dI)) (ci := 4) (v := .ref q1) (C := RX4) (T := TX4) (N := 2) hx hb hts (zcl_ok 4 (RX4, TX4, 2) rfl).1 hown hK hP 0 rfl rfl 0 (by decide) (hts _ kw_91) (fun _ h9 => h9) rfl dX4_init_22 ?_
  refine lv_iload_n hx hb dX4_init_25 rfl (lv_at hl 0 rfl) ?_
  refine va_new (ci := 3) (fs := [.int 0, .int 0, .int 0, .int 0, .int 0]) (C := RX3) (T := TX3) (N := 5) hx hb hts (zcl_ok 3 (RX3, TX3, 5) rfl).1 tyX3 tyX3_ok hown (hts _ kw_54) (hts _ kw_56) (hts _ kw_30) hK hP hD hS hA rfl (by decide +kernel) (Nat.le_of_ble_eq_true rfl) (Nat.le_of_ble_eq_true rfl) dX4_init_26 (fun s5 H hP hD hS => ?_)
  have hP : va_P (dC, dI) vwCl [(h, .inr (4, [.ref q1, .int 0])), (q1, .inl (c1, 6, .inr (.inr (.inr (.inr (va_up (va_up (va_up (va_up (va_up (fun _ => none) (0 : Int32).toNatClampNeg (some s0)) (1 : Int32).toNatClampNeg (some s1)) (2 : Int32).toNatClampNeg (some s2)) (3 : Int32).toNatClampNeg (some s3)) (4 : Int32).toNatClampNeg (some s4))))))), (s0, .inr (3, [.int 0, .int 0, .int 0, .int 0, .int 0])), (s1, .inr (3, [.int 0, .int 0, .int 0, .int 0, .int 0])), (s2, .inr (3, [.int 0, .int 0, .int 0, .int 0, .int 0])), (s3, .inr (3, [.int 0, .int 0, .int 0, .int 0, .int 0])), (s4, .inr (3, [.int 0, .int 0, .int 0, .int 0, .int 0])), (s5, .inr (3, [.int 0, .int 0, .int 0, .int 0, .int 0]))] H := hP
  have hD : va_D A [(h, .inr (4, [.ref q1, .int 0])), (q1, .inl (c1, 6, .inr (.inr (.inr (.inr (va_up (va_up (va_up (va_up (va_up (fun _ => none) (0 : Int32).toNatClampNeg (some s0)) (1 : Int32).toNatClampNeg (some s1)) (2 : Int32).toNatClampNeg (some s2)) (3 : Int32).toNatClampNeg (some s3)) (4 : Int32).toNatClampNeg (some s4))))))), (s0, .inr (3, [.int 0, .int 0, .int 0, .int 0, .int 0])), (s1, .inr (3, [.int 0, .int 0, .int 0, .int 0, .int 0])), (s2, .inr (3, [.int 0, .int 0, .int 0, .int 0, .int 0])), (s3, .inr (3, [.int 0, .int 0, .int 0, .int 0, .int 0])), (s4, .inr (3, [.int 0, .int 0, .int 0, .int 0, .int 0])), (s5, .inr (3, [.int 0, .int 0, .int 0, .int 0, .int 0]))] := hD
  refine lv_dup hx hb dX4_init_29 rfl ?_
  refine k_callN (wr := [(h, .inr (4, [.ref q1, .int 0])), (q1, .inl (c1, 6, .inr (.inr (.inr (.inr (va_up (va_up (va_up (va_up (va_up (fun _ => none) (0 : Int32).toNatClampNeg (some s0)) (1 : Int32).toNatClampNeg (some s1)) (2 : Int32).toNatClampNeg (some s2)) (3 : Int32).toNatClampNeg (some s3)) (4 : Int32).toNatClampNeg (some s4))))))), (s0, .inr (3, [.int 0, .int 0, .int 0, .int 0, .int 0])), (s1, .inr (3, [.int 0, .int 0, .int 0, .int 0, .int 0])), (s2, .inr (3, [.int 0, .int 0, .int 0, .int 0, .int 0])), (s3, .inr (3, [.int 0, .int 0, .int 0, .int 0, .int 0])), (s4, .inr (3, [.int 0, .int 0, .int 0, .int 0, .int 0]))]) (rest := [.ref s5, .int 5, .ref q1]) (As := []) ⟨hx, hb, hml, hown, hts⟩ (kX3 l ad0 sc s5) ⟨va_cnB 0 hts kg_X3 rfl rfl rfl hX.1 (hts _ kw_30) (by decide +kernel) ⟨(Nat.le_of_ble_eq_true rfl), (Nat.le_of_ble_eq_true rfl)⟩, rfl, hts _ kw_58⟩ hX hRO hP hD hK hS hA rfl hl.1 (Nat.le_of_ble_eq_true rfl) dX4_init_30 ⟨(Nat.le_of_ble_eq_true rfl), (Nat.le_of_ble_eq_true rfl)⟩ (fun u H locs hu hP hD hK hS => ?_)
  subst hu
  have hP : va_P (dC, dI) vwCl [(h, .inr (4, [.ref q1, .int 0])), (q1, .inl (c1, 6, .inr (.inr (.inr (.inr (va_up (va_up (va_up (va_up (va_up (fun _ => none) (0 : Int32).toNatClampNeg (some s0)) (1 : Int32).toNatClampNeg (some s1)) (2 : Int32).toNatClampNeg (some s2)) (3 : Int32).toNatClampNeg (some s3)) (4 : Int32).toNatClampNeg (some s4))))))), (s0, .inr (3, [.int 0, .int 0, .int 0, .int 0, .int 0])), (s1, .inr (3, [.int 0, .int 0, .int 0, .int 0, .int 0])), (s2, .inr (3, [.int 0, .int 0, .int 0, .int 0, .int 0])), (s3, .inr (3, [.int 0, .int 0, .int 0, .int 0, .int 0])), (s4, .inr (3, [.int 0, .int 0, .int 0, .int 0, .int 0])), (s5, .inr (3, [.int 0, .int 0, .int 0, .int 0, .int 0]))] H := hP
  have hD : va_D A [(h, .inr (4, [.ref q1, .int 0])), (q1, .inl (c1, 6, .inr (.inr (.inr (.inr (va_up (va_up (va_up (va_up (va_up (fun _ => none) (0 : Int32).toNatClampNeg (some s0)) (1 : Int32).toNatClampNeg (some s1)) (2 : Int32).toNatClampNeg (some s2)) (3 : Int32).toNatClampNeg (some s3)) (4 : Int32).toNatClampNeg (some s4))))))), (s0, .inr (3, [.int 0, .int 0, .int 0, .int 0, .int 0])), (s1, .inr (3, [.int 0, .int 0, .int 0, .int 0, .int 0])), (s2, .inr (3, [.int 0, .int 0, .int 0, .int 0, .int 0])), (s3, .inr (3, [.int 0, .int 0, .int 0, .int 0, .int 0])), (s4, .inr (3, [.int 0, .int 0, .int 0, .int 0, .int 0])), (s5, .inr (3, [.int 0, .int 0, .int 0, .int 0, .int 0]))] := hD
  have hK : va_K (dC, dI) vwCl [(c1, .object RX3)] s := hK
  refine va_astq (r := (RX3, TX3, 5)) hx hb hK hP hD hS 1 0 7 3 rfl rfl rfl rfl (by unfold vp_in; decide) dX4_init_33 (fun H locs hP hD hS => ?_)
  have hP : va_P (dC, dI) vwCl [(h, .inr (4, [.ref q1, .int 0])), (q1, .inl (c1, 6, .inr (.inr (.inr (.inr (va_up (va_up (va_up (va_up (va_up (va_up (fun _ => none) (0 : Int32).toNatClampNeg (some s0)) (1 : Int32).toNatClampNeg (some s1)) (2 : Int32).toNatClampNeg (some s2)) (3 : Int32).toNatClampNeg (some s3)) (4 : Int32).toNatClampNeg (some s4)) (5 : Int32).toNatClampNeg (some s5))))))), (s0, .inr (3, [.int 0, .int 0, .int 0, .int 0, .int 0])), (s1, .inr (3, [.int 0, .int 0, .int 0, .int 0, .int 0])), (s2, .inr (3, [.int 0, .int 0, .int 0, .int 0, .int 0])), (s3, .inr (3, [.int 0, .int 0, .int 0, .int 0, .int 0])), (s4, .inr (3, [.int 0, .int 0, .int 0, .int 0, .int 0])), (s5, .inr (3, [.int 0, .int 0, .int 0, .int 0, .int 0]))] H := hP
  have hD : va_D A [(h, .inr (4, [.ref q1, .int 0])), (q1, .inl (c1, 6, .inr (.inr (.inr (.inr (va_up (va_up (va_up (va_up (va_up (va_up (fun _ => none) (0 : Int32).toNatClampNeg (some s0)) (1 : Int32).toNatClampNeg (some s1)) (2 : Int32).toNatClampNeg (some s2)) (3 : Int32).toNatClampNeg (some s3)) (4 : Int32).toNatClampNeg (some s4)) (5 : Int32).toNatClampNeg (some s5))))))), (s0, .inr (3, [.int 0, .int 0, .int 0, .int 0, .int 0])), (s1, .inr (3, [.int 0, .int 0, .int 0, .int 0, .int 0])), (s2, .inr (3, [.int 0, .int 0, .int 0, .int 0, .int 0])), (s3, .inr (3, [.int 0, .int 0, .int 0, .int 0, .int 0])), (s4, .inr (3, [.int 0, .int 0, .int 0, .int 0, .int 0])), (s5, .inr (3, [.int 0, .int 0, .int 0, .int 0, .int 0]))] := hD
  refine lv_iinc (v := 6) (lv' := [(1, .int 6), (0, .ref h)]) hx hb dX4_init_34 hl (k := 0) rfl (by decide) (by decide) rfl (fun ls hl => ?_)
  refine lv_goto (tgt := 15) hx hb dX4_init_37 (by decide) ?_
  refine lv_iload_n hx hb dX4_init_15 rfl (lv_at hl 0 rfl) ?_
  refine lv_bipush (v := 6) hx hb dX4_init_16 (by decide) ?_
  refine lv_icmp_ge (tgt := 40) hx hb dX4_init_18 (by decide) (fun c9 => ?_) (fun c9 => ?_)
  rotate_left
  · exact absurd (by decide) c9
  rw [k_up6] at hP hD
  refine W.widen (k := 7) (n := 36) (Nat.le_of_ble_eq_true rfl) (Nat.le_of_ble_eq_true rfl) ?_
  exact W.vret hx hb hr (fun t ht hW => ⟨⟨([(h, .inr (4, [.ref q1, .int 0])), (q1, .inl (c1, 6, .inr (.inr (.inr (.inr (fun j => zget [s0, s1, s2, s3, s4, s5] j)))))), (s0, .inr (3, [.int 0, .int 0, .int 0, .int 0, .int 0])), (s1, .inr (3, [.int 0, .int 0, .int 0, .int 0, .int 0])), (s2, .inr (3, [.int 0, .int 0, .int 0, .int 0, .int 0])), (s3, .inr (3, [.int 0, .int 0, .int 0, .int 0, .int 0])), (s4, .inr (3, [.int 0, .int 0, .int 0, .int 0, .int 0])), (s5, .inr (3, [.int 0, .int 0, .int 0, .int 0, .int 0]))], [(c1, .object RX3)]), rfl, ⟨q1, c1, s0, s1, s2, s3, s4, s5, rfl⟩, by rw [ht]; exact hP, va_K.moved hW.alike hK, hD⟩, hS.F ht⟩) hS.2.2 dX4_init_40
