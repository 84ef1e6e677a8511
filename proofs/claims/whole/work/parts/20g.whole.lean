def R_law : String := "FewSignsLaw"
def lw_P (b : Addr) (xs : List Int32) (args : Array Value) (s : State) : Prop := args = #[.ref b] ∧ s.IntsAt b xs ∧ xs.length ≤ 2048 ∧ (Jvm.Cond.and given_1 narrow_1).before args s = true
def lw_Q (_ : Array Value) (s : State) (o : Outcome) (t : State) : Prop := o = .returned (some (.int 1)) ∧ Framed s o t [] 600000 7302250
def lw_Z (below : List Frame) (a : Array Value) (s : State) : State → Prop := fun t => ∃ o, t.status = .running ∧ Ended t below o ∧ lw_Q a s o t
/-- the law's own end, with 1 on the stack, nothing written that was there before, its room as the claim has it -/
theorem lw_ret {p : Program} {l : Launch} {e : Env} {s : State} {m : MethodId} {below : List Frame} {meth : Method} {c : Code} {b : Nat} (hx : p.tables.exec = Jvm.exec) (hb : c.code = code) (hr : meth.sig.returnType = ret) (hlocks : meth.locks = false) {pc : Nat} {H : Heap} {ls : Array Slot} (hdg : decode code pc = .ok (.ireturn, 1)) : W p l e room_1 s m #[Value.ref b] below meth c H [] 600000 7302250 (lw_Z below #[Value.ref b] s) (F0 m pc ls [.int 1]) := by
  intro T hT X
  obtain ⟨fs, hret, hrun, hended, hW, hframe⟩ := X.leave (v := some (.int 1)) (hlocks := hlocks) (fun h => by rw [hr] at h; cases h)
  have hmeth' : T.vm.method? m = some meth := X.method'
  refine ⟨T.setFrames fs, ?_, .returned (some (.int 1)), hrun, hended, rfl, ⟨_, rfl⟩, hW, hframe⟩
  jvm_step X.here [X.here.top, hx, hb, hdg, hmeth', hr, ret, narrow_b1]
  (try refine ⟨rfl, ?_⟩); (try refine ⟨rfl, ?_⟩)
  first | (intro acts; rw [hret _ acts rfl rfl rfl]) | rw [hret _ _ rfl rfl rfl]
  exact Steps.refl _
/-- what holds at the law's entry: the machine, the code, the tables' words (any of lw_tbl by 'hts w (by decide +kernel)'), the script of L ints xs at the cell b, what the Statement gives of the start (any of its parts by flat_of_before) -/
def lw_At (p : Program) (s : State) (m : MethodId) (meth : Method) (c : Code) (b L : Nat) (xs : Nat → Int32) : Prop :=
  p.tables.exec = Jvm.exec ∧ c.code = code ∧ meth.sig.returnType = ret ∧ c.maxLocals = 4 ∧ s.vm.findClass R_law = some m.cls ∧ (∀ w ∈ lw_tbl, w.before #[Value.ref b] s = true) ∧ va_X b L xs s s.heap ∧ b < s.heap.size ∧ meth.locks = false ∧ (Jvm.Cond.and given_1 narrow_1).before #[Value.ref b] s = true
theorem dL_law_0 : decode cL_law 0 = .ok (.new 7, 3) := by decide +kernel
theorem dL_law_3 : decode cL_law 3 = .ok (.dup, 1) := by decide +kernel
theorem dL_law_4 : decode cL_law 4 = .ok (.invokespecial 9, 3) := by decide +kernel
theorem dL_law_7 : decode cL_law 7 = .ok (.astore_n 1, 1) := by decide +kernel
theorem dL_law_8 : decode cL_law 8 = .ok (.new 10, 3) := by decide +kernel
theorem dL_law_11 : decode cL_law 11 = .ok (.dup, 1) := by decide +kernel
theorem dL_law_12 : decode cL_law 12 = .ok (.invokespecial 12, 3) := by decide +kernel
theorem dL_law_15 : decode cL_law 15 = .ok (.astore_n 2, 1) := by decide +kernel
theorem kw_41 : Cond.instantiable RX8 8 ∈ zT := zT_in (i := 41) (by decide +kernel) rfl
theorem kw_599 : Cond.instantiable RX9 21 ∈ zT := zT_in (i := 599) (by decide +kernel) rfl
theorem kw_40 : Cond.classLink RL 7 RX8 ∈ zT := zT_in (i := 40) (by decide +kernel) rfl
theorem kw_28 : Cond.initialized RX8 ∈ zT := zT_in (i := 28) (by decide +kernel) rfl
theorem kw_42 : Cond.methodLink RL 9 yX8_init ∈ zT := zT_in (i := 42) (by decide +kernel) rfl
theorem kw_43 : Cond.instanceMethod yX8_init ∈ zT := zT_in (i := 43) (by decide +kernel) rfl
theorem kw_598 : Cond.classLink RL 10 RX9 ∈ zT := zT_in (i := 598) (by decide +kernel) rfl
theorem kw_36 : Cond.initialized RX9 ∈ zT := zT_in (i := 36) (by decide +kernel) rfl
theorem kw_600 : Cond.methodLink RL 12 yX9_init ∈ zT := zT_in (i := 600) (by decide +kernel) rfl
theorem kw_601 : Cond.instanceMethod yX9_init ∈ zT := zT_in (i := 601) (by decide +kernel) rfl
theorem kg_X8 : GoodIn zT (Cond.code yX8_init cX8_init 2 none :: zT) := zT_good (fun w hw => by
  rcases List.mem_cons.mp hw with rfl | h
  · exact zT_in (i := 44) (by decide +kernel) rfl
  · exact h)
theorem kg_X9 : GoodIn zT (Cond.code yX9_init cX9_init 1 none :: zT) := zT_good (fun w hw => by
  rcases List.mem_cons.mp hw with rfl | h
  · exact zT_in (i := 602) (by decide +kernel) rfl
  · exact h)
set_option maxHeartbeats 4000000 in
set_option maxRecDepth 100000 in
theorem k_start {s : State} {b L : Nat} {xs : Nat → Int32} (hts : ∀ w ∈ lw_tbl, w.before #[Value.ref b] s = true) (hX : va_X b L xs s s.heap) (hbl : b < s.heap.size) (hgv : (Jvm.Cond.and given_1 narrow_1).before #[Value.ref b] s = true) : ∃ ad0 : Nat → Nat, ad0 100 = b ∧ zRO ad0 (L, xs) (fun q : Nat => s.heap.size ≤ q) s s.heap := by
  have hs := flat_of_before _ hgv
  have hA : ∀ a : Nat, a < s.heap.size → ¬ (fun q : Nat => s.heap.size ≤ q) a := fun a h1 h2 => absurd h1 (Nat.not_lt.mpr h2)
  have hT0 : va_T .int b L (fun j => .int (xs j)) (fun q : Nat => s.heap.size ≤ q) s s.heap := by
    obtain ⟨scr, h1, h2, h3, h4, h5⟩ := hX
    exact ⟨scr, h1, h2, h3, by rw [h4]; exact Nat.le_refl L, by rw [h4], h5, hA b hbl⟩
  have hr_l : (Cond.eq (.length (.static "FewSigns$Tables" "REPEATS" "[I")) (.int 4)).before #[Value.ref b] s = true := hs _ (by decide +kernel)
  have hr_a : (Cond.arrayOf (.static "FewSigns$Tables" "REPEATS" "[I") .int).before #[Value.ref b] s = true := hs _ (by decide +kernel)
  have hr_0 : (Cond.eq (.elem (.static "FewSigns$Tables" "REPEATS" "[I") (.int 0)) (.int 255)).before #[Value.ref b] s = true := hs _ (by decide +kernel)
  have hr_1 : (Cond.eq (.elem (.static "FewSigns$Tables" "REPEATS" "[I") (.int 1)) (.int 85)).before #[Value.ref b] s = true := hs _ (by decide +kernel)
  have hr_2 : (Cond.eq (.elem (.static "FewSigns$Tables" "REPEATS" "[I") (.int 2)) (.int 17)).before #[Value.ref b] s = true := hs _ (by decide +kernel)
  have hr_3 : (Cond.eq (.elem (.static "FewSigns$Tables" "REPEATS" "[I") (.int 3)) (.int 1)).before #[Value.ref b] s = true := hs _ (by decide +kernel)
  obtain ⟨tr, er, Tr⟩ := va_Tof (tm := .static "FewSigns$Tables" "REPEATS" "[I") (ty := .int) (N := 4) (f := fun j => .int ((zro (L, xs) 101).2 j)) (by decide) hr_a (va_eqt hr_l) (fun j hj => by
    rcases (show j = 0 ∨ j = 1 ∨ j = 2 ∨ j = 3 by omega) with rfl | rfl | rfl | rfl
    · exact va_eqt hr_0
    · exact va_eqt hr_1
    · exact va_eqt hr_2
    · exact va_eqt hr_3) hA
  have Zr := va_Zref (t := tr) (A := fun q : Nat => s.heap.size ≤ q) (hts (.laysStatic "FewSigns$Tables" "REPEATS" "[I") (List.mem_of_getElem? (i := 277) (by decide +kernel))) (hts (.initialized "FewSigns$Tables") (List.mem_of_getElem? (i := 32) (by decide +kernel))) er hA
  have hp_l : (Cond.eq (.length (.static "FewSigns" "SORT_PLACES" "[I")) (.int 6)).before #[Value.ref b] s = true := hs _ (by decide +kernel)
  have hp_a : (Cond.arrayOf (.static "FewSigns" "SORT_PLACES" "[I") .int).before #[Value.ref b] s = true := hs _ (by decide +kernel)
  have hp_0 : (Cond.eq (.elem (.static "FewSigns" "SORT_PLACES" "[I") (.int 0)) (.int 0)).before #[Value.ref b] s = true := hs _ (by decide +kernel)
  have hp_1 : (Cond.eq (.elem (.static "FewSigns" "SORT_PLACES" "[I") (.int 1)) (.int 0)).before #[Value.ref b] s = true := hs _ (by decide +kernel)
  have hp_2 : (Cond.eq (.elem (.static "FewSigns" "SORT_PLACES" "[I") (.int 2)) (.int 2)).before #[Value.ref b] s = true := hs _ (by decide +kernel)
  have hp_3 : (Cond.eq (.elem (.static "FewSigns" "SORT_PLACES" "[I") (.int 3)) (.int 2)).before #[Value.ref b] s = true := hs _ (by decide +kernel)
  have hp_4 : (Cond.eq (.elem (.static "FewSigns" "SORT_PLACES" "[I") (.int 4)) (.int 3)).before #[Value.ref b] s = true := hs _ (by decide +kernel)
  have hp_5 : (Cond.eq (.elem (.static "FewSigns" "SORT_PLACES" "[I") (.int 5)) (.int 3)).before #[Value.ref b] s = true := hs _ (by decide +kernel)
  obtain ⟨tp, ep, Tp⟩ := va_Tof (tm := .static "FewSigns" "SORT_PLACES" "[I") (ty := .int) (N := 6) (f := fun j => .int ((zro (L, xs) 102).2 j)) (by decide) hp_a (va_eqt hp_l) (fun j hj => by
    rcases (show j = 0 ∨ j = 1 ∨ j = 2 ∨ j = 3 ∨ j = 4 ∨ j = 5 by omega) with rfl | rfl | rfl | rfl | rfl | rfl
    · exact va_eqt hp_0
    · exact va_eqt hp_1
    · exact va_eqt hp_2
    · exact va_eqt hp_3
    · exact va_eqt hp_4
    · exact va_eqt hp_5) hA
  have Zp := va_Zref (t := tp) (A := fun q : Nat => s.heap.size ≤ q) (hts (.laysStatic "FewSigns" "SORT_PLACES" "[I") (List.mem_of_getElem? (i := 504) (by decide +kernel))) (hts (.initialized "FewSigns") (List.mem_of_getElem? (i := 28) (by decide +kernel))) ep hA
  have hq_l : (Cond.eq (.length (.static "FewSigns" "SORT_TABLES" "[I")) (.int 6)).before #[Value.ref b] s = true := hs _ (by decide +kernel)
  have hq_a : (Cond.arrayOf (.static "FewSigns" "SORT_TABLES" "[I") .int).before #[Value.ref b] s = true := hs _ (by decide +kernel)
  have hq_0 : (Cond.eq (.elem (.static "FewSigns" "SORT_TABLES" "[I") (.int 0)) (.int 0)).before #[Value.ref b] s = true := hs _ (by decide +kernel)
  have hq_1 : (Cond.eq (.elem (.static "FewSigns" "SORT_TABLES" "[I") (.int 1)) (.int 1)).before #[Value.ref b] s = true := hs _ (by decide +kernel)
  have hq_2 : (Cond.eq (.elem (.static "FewSigns" "SORT_TABLES" "[I") (.int 2)) (.int 8)).before #[Value.ref b] s = true := hs _ (by decide +kernel)
  have hq_3 : (Cond.eq (.elem (.static "FewSigns" "SORT_TABLES" "[I") (.int 3)) (.int 14)).before #[Value.ref b] s = true := hs _ (by decide +kernel)
  have hq_4 : (Cond.eq (.elem (.static "FewSigns" "SORT_TABLES" "[I") (.int 4)) (.int 150)).before #[Value.ref b] s = true := hs _ (by decide +kernel)
  have hq_5 : (Cond.eq (.elem (.static "FewSigns" "SORT_TABLES" "[I") (.int 5)) (.int 232)).before #[Value.ref b] s = true := hs _ (by decide +kernel)
  obtain ⟨tq, eq, Tq⟩ := va_Tof (tm := .static "FewSigns" "SORT_TABLES" "[I") (ty := .int) (N := 6) (f := fun j => .int ((zro (L, xs) 103).2 j)) (by decide) hq_a (va_eqt hq_l) (fun j hj => by
    rcases (show j = 0 ∨ j = 1 ∨ j = 2 ∨ j = 3 ∨ j = 4 ∨ j = 5 by omega) with rfl | rfl | rfl | rfl | rfl | rfl
    · exact va_eqt hq_0
    · exact va_eqt hq_1
    · exact va_eqt hq_2
    · exact va_eqt hq_3
    · exact va_eqt hq_4
    · exact va_eqt hq_5) hA
  have Zq := va_Zref (t := tq) (A := fun q : Nat => s.heap.size ≤ q) (hts (.laysStatic "FewSigns" "SORT_TABLES" "[I") (List.mem_of_getElem? (i := 502) (by decide +kernel))) (hts (.initialized "FewSigns") (List.mem_of_getElem? (i := 28) (by decide +kernel))) eq hA
  refine ⟨fun k => if k = 100 then b else if k = 101 then tr else if k = 102 then tp else tq, rfl, fun r h1 h2 => ?_, fun r h1 h2 => ?_⟩
  · rcases (show r = 100 ∨ r = 101 ∨ r = 102 ∨ r = 103 by omega) with rfl | rfl | rfl | rfl
    · exact hT0
    · exact Tr
    · exact Tp
    · exact Tq
  · rcases (show r = 101 ∨ r = 102 ∨ r = 103 by omega) with rfl | rfl | rfl
    · exact Zr
    · exact Zp
    · exact Zq
theorem k_frontP {D : va_G} {cl : List vw_C} {x : Nat × va_E} {w : va_W} {H : Heap} (hP : va_P D cl (w ++ [x]) H) : va_P D cl (x :: w) H := by
  intro k q hq
  obtain ⟨i, hi⟩ := List.getElem?_of_mem ((List.perm_append_singleton x w).mem_iff.mpr (List.mem_of_getElem? hq))
  exact hP i q hi
theorem k_frontD {A : Nat → Prop} {x : Nat × va_E} {w : va_W} (hD : va_D A (w ++ [x])) : va_D A (x :: w) := by
  have hp := List.perm_append_singleton x w
  refine k_ofNodup ((hp.map (fun q => q.1)).nodup_iff.mp (k_nodup hD)) (fun q hq => ?_)
  obtain ⟨i, hi⟩ := List.getElem?_of_mem (hp.mem_iff.mpr hq)
  exact hD.2 i q hi
set_option maxHeartbeats 4000000 in
set_option maxRecDepth 100000 in
/-- THE LAW, from its entry -/
theorem whole_start {p : Program} {e : Env} {s : State} {m : MethodId} {below : List Frame} {meth : Method} {c : Code} (l : Launch) {b L : Nat} {xs : Nat → Int32} (hL : L ≤ 2048) (C0 : lw_At p s m meth c b L xs) : W p l e room_1 s m #[Value.ref b] below meth c s.heap [] 0 0 (lw_Z below #[Value.ref b] s) (entryFrame m ([Value.ref b] : List Value).toArray 4) := by
  obtain ⟨hx, hb, hr, hml, hown, hts0, hXs, hbl, hlocks, hgv⟩ := id C0
  have hts : ∀ w ∈ zT, w.before #[Value.ref b] s = true := fun w hw => hts0 w (List.mem_filter.mp hw).1
  obtain ⟨ad0, hb0, hRO⟩ := k_start hts0 hXs hbl hgv
  have hX : kX s := ⟨va_Nw.of rfl (hts0 _ (List.mem_of_getElem? (i := 57) (by decide +kernel))), va_Nw.of rfl (hts0 _ (List.mem_of_getElem? (i := 146) (by decide +kernel))), va_Nw.of rfl (hts0 _ (List.mem_of_getElem? (i := 196) (by decide +kernel))), va_AO.of (hts0 _ (List.mem_of_getElem? (i := 55) (by decide +kernel))), va_AO.of (hts0 _ (List.mem_of_getElem? (i := 194) (by decide +kernel)))⟩
  generalize hAe : (fun q : Nat => s.heap.size ≤ q) = A at hRO
  have hA : ∀ q : Nat, s.heap.size ≤ q → A q := fun q h => by rw [← hAe]; exact h
  obtain ⟨c0, i0, hKn0⟩ := u_known (C := RX0) (T := TX0) (N := 4) (n := 4) hts (zcl_ok 0 (RX0, TX0, 4) rfl).1 (hts _ kw_195)
  obtain ⟨c1, i1, hKn1⟩ := u_known (C := RX1) (T := TX1) (N := 9) (n := 9) hts (zcl_ok 1 (RX1, TX1, 9) rfl).1 (hts _ kw_104)
  obtain ⟨c2, i2, hKn2⟩ := u_known (C := RX2) (T := TX2) (N := 7) (n := 7) hts (zcl_ok 2 (RX2, TX2, 7) rfl).1 (hts _ kw_161)
  obtain ⟨c3, i3, hKn3⟩ := u_known (C := RX3) (T := TX3) (N := 5) (n := 5) hts (zcl_ok 3 (RX3, TX3, 5) rfl).1 (hts _ kw_56)
  obtain ⟨c4, i4, hKn4⟩ := u_known (C := RX4) (T := TX4) (N := 2) (n := 2) hts (zcl_ok 4 (RX4, TX4, 2) rfl).1 (hts _ kw_49)
  obtain ⟨c5, i5, hKn5⟩ := u_known (C := RX6) (T := TX6) (N := 2) (n := 2) hts (zcl_ok 5 (RX6, TX6, 2) rfl).1 (hts _ kw_145)
  obtain ⟨c6, i6, hKn6⟩ := u_known (C := RX8) (T := TX8) (N := 8) (n := 8) hts (zcl_ok 6 (RX8, TX8, 8) rfl).1 (hts _ kw_41)
  obtain ⟨c7, i7, hKn7⟩ := u_known (C := RX9) (T := TX9) (N := 21) (n := 21) hts (zcl_ok 7 (RX9, TX9, 21) rfl).1 (hts _ kw_599)
  obtain ⟨dC, dI, hKc⟩ : ∃ (dC : Nat → ClassId) (dI : Nat → Nat → Nat), ∀ (k : Nat) (q : vw_C), vwCl[k]? = some q → u_Kn s q.1 q.2.1 q.2.2 (dC k) (dI k) := by
    refine ⟨fun k => match k with | 0 => c0 | 1 => c1 | 2 => c2 | 3 => c3 | 4 => c4 | 5 => c5 | 6 => c6 | _ => c7, fun k => match k with | 0 => i0 | 1 => i1 | 2 => i2 | 3 => i3 | 4 => i4 | 5 => i5 | 6 => i6 | _ => i7, ?_⟩
    intro k q hq
    match k, hq with
    | 0, hq => cases hq; exact hKn0
    | 1, hq => cases hq; exact hKn1
    | 2, hq => cases hq; exact hKn2
    | 3, hq => cases hq; exact hKn3
    | 4, hq => cases hq; exact hKn4
    | 5, hq => cases hq; exact hKn5
    | 6, hq => cases hq; exact hKn6
    | 7, hq => cases hq; exact hKn7
    | k + 8, hq => simp [vwCl] at hq
  have hS : va_S A s.heap s.heap [] := va_S.rf
  have hK : va_K (dC, dI) vwCl [] s := ⟨hKc, fun k q h => by simp at h⟩
  have hP : va_P (dC, dI) vwCl [] s.heap := fun k q h => by simp at h
  have hD : va_D A [] := ⟨fun i j p q h => by simp at h, fun k q h => by simp at h⟩
  have hown : s.vm.findClass RL = some m.cls := hown
  have hl := lv_entry ([.ref b]) (n := 4) (Nat.le_of_ble_eq_true rfl)
  rw [lg_entry_eq]
  generalize (lg_sl ([.ref b]) ++ List.replicate (4 - (lg_sl ([.ref b])).length) Slot.unset).toArray = ls at hl ⊢
  have hl : lv_has ls 4 [(0, .ref b)] := hl
  refine va_new (ci := 6) (fs := [.null, .null, .null, .null, .null, .null, .null, .null]) (C := RX8) (T := TX8) (N := 8) hx hb hts (zcl_ok 6 (RX8, TX8, 8) rfl).1 tyX8 tyX8_ok hown (hts _ kw_40) (hts _ kw_41) (hts _ kw_28) hK hP hD hS hA rfl (by decide +kernel) (Nat.le_of_ble_eq_true rfl) (Nat.le_of_ble_eq_true rfl) dL_law_0 (fun q0 H hP hD hS => ?_)
  refine lv_dup hx hb dL_law_3 rfl ?_
  refine k_callI (wr := []) (rest := [.ref q0]) (As := []) ⟨hx, hb, hml, hown, hts⟩ (kX8 l ad0 (L, xs) q0) (cwI 0 hts kg_X8 rfl rfl rfl (hts _ kw_28) (hts _ kw_42) (hts _ kw_43) rfl (by decide +kernel) ⟨(Nat.le_of_ble_eq_true rfl), (Nat.le_of_ble_eq_true rfl)⟩) hX hRO hP hD hK hS hA rfl hl.1 (Nat.le_of_ble_eq_true rfl) dL_law_4 ⟨(Nat.le_of_ble_eq_true rfl), (Nat.le_of_ble_eq_true rfl)⟩ (fun u H locs hu hP hD hK hS => ?_)
  obtain ⟨qs, c0', cs, hql, hcl, hq0, rfl⟩ := hu
  have hP : va_P (dC, dI) vwCl (zwd 33 (kad qs ad0) (kcA c0' cs) (zfa kM0)) H := hP
  have hD : va_D A (zwd 33 (kad qs ad0) (kcA c0' cs) (zfa kM0)) := hD
  have hK : va_K (dC, dI) vwCl (ztys 33 (kcA c0' cs)) s := hK
  refine lv_astore_n (lv' := [(1, .ref q0), (0, .ref b)]) hx hb dL_law_7 rfl hl (by decide) rfl (fun ls hl => ?_)
  refine va_new (ci := 7) (fs := [.int 0, .int 0, .null, .null, .null, .null, .int 0, .int 0, .int 0, .null, .int 0, .null, .null, .null, .int 0, .int 0, .null, .null, .null, .null, .null]) (C := RX9) (T := TX9) (N := 21) hx hb hts (zcl_ok 7 (RX9, TX9, 21) rfl).1 tyX9 tyX9_ok hown (hts _ kw_598) (hts _ kw_599) (hts _ kw_36) hK hP hD hS hA rfl (by decide +kernel) (Nat.le_of_ble_eq_true rfl) (Nat.le_of_ble_eq_true rfl) dL_law_8 (fun q1 H hP hD hS => ?_)
  have hP := k_frontP hP
  have hD := k_frontD hD
  refine lv_dup hx hb dL_law_11 rfl ?_
  refine k_callW (rest := [.ref q1]) (As := []) ⟨hx, hb, hml, hown, hts⟩ (kX9w l ad0 (L, xs) q1 (kad qs ad0) (kcA c0' cs) (zfa kM0) _ _ rfl rfl) (cwI 0 hts kg_X9 rfl rfl rfl (hts _ kw_36) (hts _ kw_600) (hts _ kw_601) rfl (by decide +kernel) ⟨(Nat.le_of_ble_eq_true rfl), (Nat.le_of_ble_eq_true rfl)⟩) hX hRO hP hD hK hS hA rfl hl.1 (Nat.le_of_ble_eq_true rfl) dL_law_12 ⟨(Nat.le_of_ble_eq_true rfl), (Nat.le_of_ble_eq_true rfl)⟩ (fun u H locs hu hP hD hK hS => ?_)
  obtain ⟨ad, cA, had, h33, hr0, rfl⟩ := hu
  have hP : va_P (dC, dI) vwCl (zwd 47 ad cA kMS) H := hP
  have hD : va_D A (zwd 47 ad cA kMS) := hD
  have hK : va_K (dC, dI) vwCl (ztys 47 cA) s := hK
  refine lv_astore_n (lv' := [(2, .ref q1), (1, .ref q0), (0, .ref b)]) hx hb dL_law_15 rfl hl (by decide) rfl (fun ls hl => ?_)
  have hRO2 : zRO ad (L, xs) A s s.heap := ⟨fun r h1 h2 => by rw [hr0 r h1]; exact hRO.1 r h1 h2, fun r h1 h2 => by rw [hr0 r (by omega)]; exact hRO.2 r h1 h2⟩
  have h100 : ad 100 = b := (hr0 100 (by decide)).trans hb0
  have h0 : ad 0 = q0 := by rw [had 0 (by decide)]; unfold kad; rw [hq0]
  have hzl : zpr ad 0 [.ref 100, .ref 0, .ref 33, .null] = [(0, .ref b), (1, .ref q0), (2, .ref q1)] := by
    show [(0, Value.ref (ad 100)), (1, Value.ref (ad 0)), (2, Value.ref (ad 33))] = _
    rw [h100, h0, h33]
  obtain ⟨M', hz⟩ := lw_all (sc := (L, xs)) fd3 hL kMS_INV
  refine W.widen (k := 600000) (n := 7302250) (Nat.le_of_ble_eq_true rfl) (Nat.le_of_ble_eq_true rfl) ?_
  refine zK_sound (A := A) (k := 137) (d := 30) (NC := 47) (ad := ad) (cA := cA) (sc := (L, xs)) (st := []) rfl hx hb hml hown hts hK hA hRO2 (Nat.le_of_ble_eq_true rfl) (Nat.le_of_ble_eq_true rfl) (Nat.le_of_ble_eq_true rfl) (Nat.le_of_ble_eq_true rfl) (fun k as M r M' h => zC_sound l dC dI ad cA 47 (L, xs) 30 k as M r M' h) (fun pc ls H locs hfit hdec hP hD hS => ?_) hz ⟨rfl, by rw [hzl]; exact lv_sub hl [2, 1, 0] rfl, hP, hD, hS⟩
  refine va_forget (fun q hq => by have := hS.2.2 q hq; rw [← hAe] at this; exact this) ?_
  exact lw_ret hx hb hr hlocks hdec
