/-! THE CONSTRUCTOR of the reference: fourteen cells beside the thirty-three, then it empties itself -/
def kM2 (M1 : zM) : zM := fun a => bif Nat.blt a 33 then M1 a else fun _ => 0
def kadM (ad : Nat → Nat) (qs : List Nat) (ad0 : Nat → Nat) : Nat → Nat := fun k => bif Nat.blt k 33 then ad k else bif Nat.blt k 47 then kad qs ad0 (k - 33) else ad0 k
def kcAM (cA : Nat → ClassId) (c0 : ClassId) (cs : List ClassId) : Nat → ClassId := fun k => bif Nat.blt k 33 then cA k else kcA c0 cs (k - 33)
theorem k_blt {a b : Nat} (h : a < b) : Nat.blt a b = true := Nat.ble_eq_true_of_le h
theorem k_nblt {a b : Nat} (h : b ≤ a) : Nat.blt a b = false := by
  cases e : Nat.blt a b with
  | false => rfl
  | true => have := Nat.le_of_ble_eq_true e; omega
theorem k_M2 {M1 : zM} {k : Nat} (h : k < 33) : kM2 M1 k = M1 k := by unfold kM2; rw [k_blt h]; rfl
theorem k_adM {ad : Nat → Nat} {qs : List Nat} {ad0 : Nat → Nat} {k : Nat} (h : k < 33) : kadM ad qs ad0 k = ad k := by unfold kadM; rw [k_blt h]; rfl
theorem k_adM2 {ad : Nat → Nat} {qs : List Nat} {ad0 : Nat → Nat} {k : Nat} (h : 100 ≤ k) : kadM ad qs ad0 k = ad0 k := by unfold kadM; rw [k_nblt (by omega), k_nblt (by omega)]; rfl
theorem k_cAM {cA : Nat → ClassId} {c0 : ClassId} {cs : List ClassId} {k : Nat} (h : k < 33) : kcAM cA c0 cs k = cA k := by unfold kcAM; rw [k_blt h]; rfl
theorem k_roM {ad : Nat → Nat} {qs : List Nat} {ad0 : Nat → Nat} {sc : Nat × (Nat → Int32)} {A : Nat → Prop} {U : State} {H : Heap} (hR : zRO ad0 sc A U H) : zRO (kadM ad qs ad0) sc A U H := by
  refine ⟨fun r h1 h2 => ?_, fun r h1 h2 => ?_⟩
  · rw [k_adM2 h1]; exact hR.1 r h1 h2
  · rw [k_adM2 (by omega)]; exact hR.2 r h1 h2
def zlyOK (x : zLy) : Bool := match x with
  | .inl (_, fs) => fs.all (fun o => match o with
    | some q => Nat.blt q 33
    | none => true)
  | .inr (_, _, qs) => qs.all (fun q => Nat.blt q 33)
theorem zlyOK_all : ∀ k, k < 33 → (zget zlyL k).map zlyOK = some true := by decide +kernel
theorem k_zfv {ad ad' : Nat → Nat} (h : ∀ k, k < 33 → ad' k = ad k) (f : Nat → Int32) : ∀ (fs : List (Option Nat)) (b : Nat), fs.all (fun o => match o with | some q => Nat.blt q 33 | none => true) = true → zfv ad' f b fs = zfv ad f b fs := by
  intro fs
  induction fs with
  | nil => intro b _; rfl
  | cons a r ih =>
    intro b hh
    rw [List.all_cons, Bool.and_eq_true] at hh
    cases a with
    | none => simp only [zfv, ih (b + 1) hh.2]
    | some q => simp only [zfv, ih (b + 1) hh.2, h q (Nat.le_of_ble_eq_true hh.1)]
theorem k_zg {ad ad' : Nat → Nat} (h : ∀ k, k < 33 → ad' k = ad k) : ∀ (qs : List Nat) (j : Nat), qs.all (fun q => Nat.blt q 33) = true → (zget qs j).map ad' = (zget qs j).map ad := by
  intro qs
  induction qs with
  | nil => intro j _; rfl
  | cons a r ih =>
    intro j hh
    rw [List.all_cons, Bool.and_eq_true] at hh
    cases j with
    | zero => simp only [zget, Option.map_some, h a (Nat.le_of_ble_eq_true hh.1)]
    | succ n => exact ih n hh.2
theorem k_ext {ad ad' : Nat → Nat} {cA cA' : Nat → ClassId} {M M' : zM} (h : ∀ k, k < 33 → ad' k = ad k) (hc : ∀ k, k < 33 → cA' k = cA k) (hM : ∀ k, k < 33 → M' k = M k) : zwd 33 ad' cA' M' = zwd 33 ad cA M := by
  refine List.map_congr_left (fun k hk => ?_)
  have hk := List.mem_range.mp hk
  rw [h k hk, hM k hk]
  have ho := zlyOK_all k hk
  unfold zce
  cases hz : zget zlyL k with
  | none => rfl
  | some x =>
    rw [hz] at ho
    have ho : zlyOK x = true := by simpa using ho
    match x, ho with
    | .inl (ci, fs), ho => simp only [k_zfv h (M k) fs 0 ho]
    | .inr (n, ty, []), ho => simp only [hc k hk]
    | .inr (n, ty, q :: qs), ho =>
      have e : (fun j => (zget (q :: qs) j).map ad') = (fun j => (zget (q :: qs) j).map ad) := funext (fun j => k_zg h (q :: qs) j ho)
      simp only [hc k hk, e]
theorem k_moveP {D : va_G} {cl : List vw_C} {x : Nat × va_E} {w r : va_W} {H : Heap} (hP : va_P D cl (x :: (w ++ r)) H) : va_P D cl (w ++ x :: r) H := by
  intro k q hq
  have hm : q ∈ x :: (w ++ r) := by
    rcases List.mem_append.mp (List.mem_of_getElem? hq) with h | h
    · exact List.mem_cons_of_mem _ (List.mem_append_left _ h)
    · rcases List.mem_cons.mp h with rfl | h
      · exact List.mem_cons_self
      · exact List.mem_cons_of_mem _ (List.mem_append_right _ h)
  obtain ⟨i, hi⟩ := List.getElem?_of_mem hm
  exact hP i q hi
theorem k_nodup {A : Nat → Prop} {ws : va_W} (h : va_D A ws) : (ws.map (fun q => q.1)).Nodup := by
  refine List.pairwise_iff_getElem.mpr (fun i j hi hj hij e => ?_)
  rw [List.length_map] at hi hj
  rw [List.getElem_map, List.getElem_map] at e
  have := h.1 i j ws[i] ws[j] (List.getElem?_eq_getElem hi) (List.getElem?_eq_getElem hj) e
  omega
theorem k_ofNodup {A : Nat → Prop} {ws : va_W} (h : (ws.map (fun q => q.1)).Nodup) (hA : ∀ q ∈ ws, A q.1) : va_D A ws := by
  have key : ∀ (i j : Nat) (p q : Nat × va_E), i < j → ws[i]? = some p → ws[j]? = some q → ¬ p.1 = q.1 := by
    intro i j p q hij h1 h2 e
    obtain ⟨hi, e1⟩ := List.getElem?_eq_some_iff.mp h1
    obtain ⟨hj, e2⟩ := List.getElem?_eq_some_iff.mp h2
    have := List.pairwise_iff_getElem.mp h i j (by rw [List.length_map]; exact hi) (by rw [List.length_map]; exact hj) hij
    rw [List.getElem_map, List.getElem_map, e1, e2] at this
    exact this e
  refine ⟨fun i j p q h1 h2 e => ?_, fun k q hq => hA q (List.mem_of_getElem? hq)⟩
  rcases Nat.lt_trichotomy i j with hlt | heq | hgt
  · exact absurd e (key i j p q hlt h1 h2)
  · exact heq
  · exact absurd e.symm (key j i q p hgt h2 h1)
theorem k_moveD {A : Nat → Prop} {x : Nat × va_E} {w r : va_W} (hD : va_D A (x :: (w ++ r))) : va_D A (w ++ x :: r) := by
  have hp : (x :: (w ++ r)).Perm (w ++ x :: r) := List.perm_middle.symm
  refine k_ofNodup ((hp.map (fun q => q.1)).nodup_iff.mp (k_nodup hD)) (fun q hq => ?_)
  obtain ⟨i, hi⟩ := List.getElem?_of_mem (hp.mem_iff.mpr hq)
  exact hD.2 i q hi
theorem k_K {D : va_G} {cl : List vw_C} {t1 t2 : List (ClassId × FieldType)} {U : State} (h : va_K D cl t1 U) (hs : ∀ q ∈ t2, q ∈ t1) : va_K D cl t2 U := by
  refine ⟨h.1, fun k q hq => ?_⟩
  obtain ⟨i, hi⟩ := List.getElem?_of_mem (hs q (List.mem_of_getElem? hq))
  exact h.2 i q hi
theorem k_range : List.range 47 = List.range 33 ++ [33, 34, 35, 36, 37, 38, 39, 40, 41, 42, 43, 44, 45, 46] := by decide +kernel
theorem zwd_47 {ad : Nat → Nat} {cA : Nat → ClassId} {M : zM} : zwd 47 ad cA M = zwd 33 ad cA M ++ [33, 34, 35, 36, 37, 38, 39, 40, 41, 42, 43, 44, 45, 46].map (fun k => (ad k, zce ad cA k (M k))) := by
  unfold zwd
  rw [k_range, List.map_append]
theorem ztys_47 {cA : Nat → ClassId} : ztys 47 cA = ztys 33 cA ++ [33, 34, 35, 36, 37, 38, 39, 40, 41, 42, 43, 44, 45, 46].map (fun k => (cA k, zty k)) := by
  unfold ztys
  rw [k_range, List.map_append]
theorem k_tys {cA cA' : Nat → ClassId} (h : ∀ k, k < 33 → cA' k = cA k) : ztys 33 cA' = ztys 33 cA := by
  refine List.map_congr_left (fun k hk => ?_)
  rw [h k (List.mem_range.mp hk)]
theorem dX9_init_0 : decode cX9_init 0 = .ok (.aload_n 0, 1) := by decide +kernel
theorem dX9_init_1 : decode cX9_init 1 = .ok (.invokespecial 1, 3) := by decide +kernel
theorem dX9_init_4 : decode cX9_init 4 = .ok (.aload_n 0, 1) := by decide +kernel
theorem dX9_init_5 : decode cX9_init 5 = .ok (.bipush 6, 2) := by decide +kernel
theorem dX9_init_7 : decode cX9_init 7 = .ok (.newarray .int, 2) := by decide +kernel
theorem dX9_init_9 : decode cX9_init 9 = .ok (.putfield 7, 3) := by decide +kernel
theorem dX9_init_12 : decode cX9_init 12 = .ok (.aload_n 0, 1) := by decide +kernel
theorem dX9_init_13 : decode cX9_init 13 = .ok (.bipush 6, 2) := by decide +kernel
theorem dX9_init_15 : decode cX9_init 15 = .ok (.newarray .int, 2) := by decide +kernel
theorem dX9_init_17 : decode cX9_init 17 = .ok (.putfield 13, 3) := by decide +kernel
theorem dX9_init_20 : decode cX9_init 20 = .ok (.aload_n 0, 1) := by decide +kernel
theorem dX9_init_21 : decode cX9_init 21 = .ok (.bipush 6, 2) := by decide +kernel
theorem dX9_init_23 : decode cX9_init 23 = .ok (.newarray .int, 2) := by decide +kernel
theorem dX9_init_25 : decode cX9_init 25 = .ok (.putfield 16, 3) := by decide +kernel
theorem dX9_init_28 : decode cX9_init 28 = .ok (.aload_n 0, 1) := by decide +kernel
theorem dX9_init_29 : decode cX9_init 29 = .ok (.sipush 256, 3) := by decide +kernel
theorem dX9_init_32 : decode cX9_init 32 = .ok (.newarray .int, 2) := by decide +kernel
theorem dX9_init_34 : decode cX9_init 34 = .ok (.putfield 19, 3) := by decide +kernel
theorem dX9_init_37 : decode cX9_init 37 = .ok (.aload_n 0, 1) := by decide +kernel
theorem dX9_init_38 : decode cX9_init 38 = .ok (.bipush 80, 2) := by decide +kernel
theorem dX9_init_40 : decode cX9_init 40 = .ok (.newarray .int, 2) := by decide +kernel
theorem dX9_init_42 : decode cX9_init 42 = .ok (.putfield 22, 3) := by decide +kernel
theorem dX9_init_45 : decode cX9_init 45 = .ok (.aload_n 0, 1) := by decide +kernel
theorem dX9_init_46 : decode cX9_init 46 = .ok (.bipush 120, 2) := by decide +kernel
theorem dX9_init_48 : decode cX9_init 48 = .ok (.newarray .int, 2) := by decide +kernel
theorem dX9_init_50 : decode cX9_init 50 = .ok (.putfield 25, 3) := by decide +kernel
theorem dX9_init_53 : decode cX9_init 53 = .ok (.aload_n 0, 1) := by decide +kernel
theorem dX9_init_54 : decode cX9_init 54 = .ok (.iconst 4, 1) := by decide +kernel
theorem dX9_init_55 : decode cX9_init 55 = .ok (.newarray .int, 2) := by decide +kernel
theorem dX9_init_57 : decode cX9_init 57 = .ok (.putfield 28, 3) := by decide +kernel
theorem dX9_init_60 : decode cX9_init 60 = .ok (.aload_n 0, 1) := by decide +kernel
theorem dX9_init_61 : decode cX9_init 61 = .ok (.bipush 30, 2) := by decide +kernel
theorem dX9_init_63 : decode cX9_init 63 = .ok (.newarray .int, 2) := by decide +kernel
theorem dX9_init_65 : decode cX9_init 65 = .ok (.putfield 31, 3) := by decide +kernel
theorem dX9_init_68 : decode cX9_init 68 = .ok (.aload_n 0, 1) := by decide +kernel
theorem dX9_init_69 : decode cX9_init 69 = .ok (.bipush 8, 2) := by decide +kernel
theorem dX9_init_71 : decode cX9_init 71 = .ok (.newarray .int, 2) := by decide +kernel
theorem dX9_init_73 : decode cX9_init 73 = .ok (.putfield 34, 3) := by decide +kernel
theorem dX9_init_76 : decode cX9_init 76 = .ok (.aload_n 0, 1) := by decide +kernel
theorem dX9_init_77 : decode cX9_init 77 = .ok (.bipush 8, 2) := by decide +kernel
theorem dX9_init_79 : decode cX9_init 79 = .ok (.newarray .int, 2) := by decide +kernel
theorem dX9_init_81 : decode cX9_init 81 = .ok (.putfield 37, 3) := by decide +kernel
theorem dX9_init_84 : decode cX9_init 84 = .ok (.aload_n 0, 1) := by decide +kernel
theorem dX9_init_85 : decode cX9_init 85 = .ok (.bipush 32, 2) := by decide +kernel
theorem dX9_init_87 : decode cX9_init 87 = .ok (.newarray .int, 2) := by decide +kernel
theorem dX9_init_89 : decode cX9_init 89 = .ok (.putfield 40, 3) := by decide +kernel
theorem dX9_init_92 : decode cX9_init 92 = .ok (.aload_n 0, 1) := by decide +kernel
theorem dX9_init_93 : decode cX9_init 93 = .ok (.bipush 32, 2) := by decide +kernel
theorem dX9_init_95 : decode cX9_init 95 = .ok (.newarray .int, 2) := by decide +kernel
theorem dX9_init_97 : decode cX9_init 97 = .ok (.putfield 43, 3) := by decide +kernel
theorem dX9_init_100 : decode cX9_init 100 = .ok (.aload_n 0, 1) := by decide +kernel
theorem dX9_init_101 : decode cX9_init 101 = .ok (.bipush 32, 2) := by decide +kernel
theorem dX9_init_103 : decode cX9_init 103 = .ok (.newarray .int, 2) := by decide +kernel
theorem dX9_init_105 : decode cX9_init 105 = .ok (.putfield 46, 3) := by decide +kernel
theorem dX9_init_108 : decode cX9_init 108 = .ok (.aload_n 0, 1) := by decide +kernel
theorem dX9_init_109 : decode cX9_init 109 = .ok (.invokevirtual 49, 3) := by decide +kernel
theorem dX9_init_112 : decode cX9_init 112 = .ok (.return_, 1) := by decide +kernel
theorem kw_603 : Cond.methodLink RX9 1 objectInit ∈ zT := zT_in (i := 603) (by decide +kernel) rfl
theorem kw_610 : Cond.fieldLink RX9 7 "FewSignsModel" "places" "[I" ∈ zT := zT_in (i := 610) (by decide +kernel) rfl
theorem kw_611 : Cond.fieldLink RX9 13 "FewSignsModel" "table" "[I" ∈ zT := zT_in (i := 611) (by decide +kernel) rfl
theorem kw_612 : Cond.fieldLink RX9 16 "FewSignsModel" "cost" "[I" ∈ zT := zT_in (i := 612) (by decide +kernel) rfl
theorem kw_613 : Cond.fieldLink RX9 19 "FewSignsModel" "least" "[I" ∈ zT := zT_in (i := 613) (by decide +kernel) rfl
theorem kw_617 : Cond.fieldLink RX9 22 "FewSignsModel" "text" "[I" ∈ zT := zT_in (i := 617) (by decide +kernel) rfl
theorem kw_619 : Cond.fieldLink RX9 25 "FewSignsModel" "letter" "[I" ∈ zT := zT_in (i := 619) (by decide +kernel) rfl
theorem kw_620 : Cond.fieldLink RX9 28 "FewSignsModel" "letters" "[I" ∈ zT := zT_in (i := 620) (by decide +kernel) rfl
theorem kw_621 : Cond.fieldLink RX9 31 "FewSignsModel" "draft" "[I" ∈ zT := zT_in (i := 621) (by decide +kernel) rfl
theorem kw_624 : Cond.fieldLink RX9 34 "FewSignsModel" "open" "[I" ∈ zT := zT_in (i := 624) (by decide +kernel) rfl
theorem kw_625 : Cond.fieldLink RX9 37 "FewSignsModel" "got" "[I" ∈ zT := zT_in (i := 625) (by decide +kernel) rfl
theorem kw_626 : Cond.fieldLink RX9 40 "FewSignsModel" "values" "[I" ∈ zT := zT_in (i := 626) (by decide +kernel) rfl
theorem kw_627 : Cond.fieldLink RX9 43 "FewSignsModel" "costs" "[I" ∈ zT := zT_in (i := 627) (by decide +kernel) rfl
theorem kw_628 : Cond.fieldLink RX9 46 "FewSignsModel" "depths" "[I" ∈ zT := zT_in (i := 628) (by decide +kernel) rfl
set_option maxHeartbeats 4000000 in
set_option maxRecDepth 100000 in
theorem kX9w (l : Launch) (ad0 : Nat → Nat) (sc : Nat × (Nat → Int32)) (h : Nat) (ad : Nat → Nat) (cA : Nat → ClassId) (M1 : zM) (w0 : va_W) (t0 : List (ClassId × FieldType)) (hw0 : w0 = zwd 33 ad cA M1) (ht0 : t0 = ztys 33 cA) : kMet l yX9_init cX9_init 1 2 120 13 620 [.ref h] ad0 sc ((h, .inr (7, [.int 0, .int 0, .null, .null, .null, .null, .int 0, .int 0, .int 0, .null, .int 0, .null, .null, .null, .int 0, .int 0, .null, .null, .null, .null, .null])) :: w0) t0 (fun u => ∃ ad' cA', (∀ k, k < 33 → ad' k = ad k) ∧ ad' 33 = h ∧ (∀ r, 100 ≤ r → ad' r = ad0 r) ∧ u = (zwd 47 ad' cA' (zem (kM2 M1) 0 4), ztys 47 cA')) := by
  unfold kMet
  intro dC dI sz
  refine Met.ofW (cc := cX9_init) (maxL := 1) (ret := none) (by decide) rfl ?_
  intro p e s m args below meth c s₁ B hml hv
  obtain ⟨rfl, hsz, hP, hK, hD0, hX, hRO⟩ := hv
  have hx := B.exec
  have hb := B.bytes
  have hr := B.returns
  have hts0 := atoms_spec (ws := Cond.code yX9_init cX9_init 1 none :: zT) B.pre
  have hts : ∀ w ∈ zT, w.before ([.ref h] : List Value).toArray s = true := fun w hw => hts0 w (List.mem_cons_of_mem _ hw)
  have hown : s.vm.findClass RX9 = some m.cls := findClass_of_methodNamed B.named
  have hin : meth.name = "<init>" := (name_of_methodNamed B.named B.method).1
  subst hsz
  have hD := hD0.self (sz := s.heap.size)
  generalize hAe : va_A ((h, .inr (7, [.int 0, .int 0, .null, .null, .null, .null, .int 0, .int 0, .int 0, .null, .int 0, .null, .null, .null, .int 0, .int 0, .null, .null, .null, .null, .null])) :: w0) s.heap.size = A at hD hRO ⊢
  have hA : ∀ q : Nat, s.heap.size ≤ q → A q := fun q h => by rw [← hAe]; exact Or.inr h
  have hS : va_S A s.heap s.heap [] := va_S.rf
  have hl := lv_entry [.ref h] (n := 1) (Nat.le_of_ble_eq_true rfl)
  rw [lg_entry_eq]
  generalize (lg_sl ([.ref h]) ++ List.replicate (1 - (lg_sl ([.ref h])).length) Slot.unset).toArray = ls at hl ⊢
  have hl : lv_has ls 1 [(0, .ref h)] := hl
  refine lv_aload_n hx hb dX9_init_0 rfl (lv_at hl 0 rfl) ?_
  refine W.objInit hx hb hown (hts _ kw_603) (hts _ kw_46) (hts _ kw_47) rfl (by rw [hml]; exact hl.1) rfl dX9_init_1 (Nat.le_of_ble_eq_true rfl) (Nat.le_of_ble_eq_true rfl) ?_
  refine W.eq (g2 := F0 m 4 ls []) rfl ?_
  refine lv_aload_n hx hb dX9_init_4 rfl (lv_at hl 0 rfl) ?_
  refine lv_bipush (v := 6) hx hb dX9_init_5 (by decide) ?_
  refine va_newa (atype := .int) (ty := .int) (N' := 6) (a0 := (6, .inl (fun _ => 0))) hx hb (hts _ kw_142) rfl hK hP hD hS hA (fun _ => rfl) (by decide) (by decide) (by decide) (Nat.le_of_ble_eq_true rfl) (Nat.le_of_ble_eq_true rfl) dX9_init_7 (fun q1 c1 H hK hP hD hS => ?_)
  have hP : va_P (dC, dI) vwCl ((h, .inr (7, [.int 0, .int 0, .null, .null, .null, .null, .int 0, .int 0, .int 0, .null, .int 0, .null, .null, .null, .int 0, .int 0, .null, .null, .null, .null, .null])) :: (w0 ++ [(q1, .inl (c1, 6, .inl (fun _ => 0)))])) H := hP
  have hD : va_D A ((h, .inr (7, [.int 0, .int 0, .null, .null, .null, .null, .int 0, .int 0, .int 0, .null, .int 0, .null, .null, .null, .int 0, .int 0, .null, .null, .null, .null, .null])) :: (w0 ++ [(q1, .inl (c1, 6, .inl (fun _ => 0)))])) := hD
  have hK : va_K (dC, dI) vwCl (t0 ++ [(c1, .int)]) s := hK
  refine va_putF (D := (dC, dI)) (ci := 7) (v := .ref q1) (ty := .array .int) (C := RX9) (T := TX9) (N := 21) hx hb hts (zcl_ok 7 (RX9, TX9, 21) rfl).1 tyX9 tyX9_ok nmX9 hown hK hP hD hS 0 rfl rfl 2 (by decide) (hts _ kw_610) (fun _ h9 => h9) rfl hin rfl (by decide +kernel) rfl rfl (Nat.le_of_ble_eq_true rfl) dX9_init_9 (fun H locs hP hD hS => ?_)
  have hP : va_P (dC, dI) vwCl ((h, .inr (7, [.int 0, .int 0, .ref q1, .null, .null, .null, .int 0, .int 0, .int 0, .null, .int 0, .null, .null, .null, .int 0, .int 0, .null, .null, .null, .null, .null])) :: (w0 ++ [(q1, .inl (c1, 6, .inl (fun _ => 0)))])) H := hP
  have hD : va_D A ((h, .inr (7, [.int 0, .int 0, .ref q1, .null, .null, .null, .int 0, .int 0, .int 0, .null, .int 0, .null, .null, .null, .int 0, .int 0, .null, .null, .null, .null, .null])) :: (w0 ++ [(q1, .inl (c1, 6, .inl (fun _ => 0)))])) := hD
  refine lv_aload_n hx hb dX9_init_12 rfl (lv_at hl 0 rfl) ?_
  refine lv_bipush (v := 6) hx hb dX9_init_13 (by decide) ?_
  refine va_newa (atype := .int) (ty := .int) (N' := 6) (a0 := (6, .inl (fun _ => 0))) hx hb (hts _ kw_142) rfl hK hP hD hS hA (fun _ => rfl) (by decide) (by decide) (by decide) (Nat.le_of_ble_eq_true rfl) (Nat.le_of_ble_eq_true rfl) dX9_init_15 (fun q2 c2 H hK hP hD hS => ?_)
  have hP : va_P (dC, dI) vwCl ((h, .inr (7, [.int 0, .int 0, .ref q1, .null, .null, .null, .int 0, .int 0, .int 0, .null, .int 0, .null, .null, .null, .int 0, .int 0, .null, .null, .null, .null, .null])) :: ((w0 ++ [(q1, .inl (c1, 6, .inl (fun _ => 0)))]) ++ [(q2, .inl (c2, 6, .inl (fun _ => 0)))])) H := hP
  have hD : va_D A ((h, .inr (7, [.int 0, .int 0, .ref q1, .null, .null, .null, .int 0, .int 0, .int 0, .null, .int 0, .null, .null, .null, .int 0, .int 0, .null, .null, .null, .null, .null])) :: ((w0 ++ [(q1, .inl (c1, 6, .inl (fun _ => 0)))]) ++ [(q2, .inl (c2, 6, .inl (fun _ => 0)))])) := hD
  have hK : va_K (dC, dI) vwCl (t0 ++ [(c1, .int)] ++ [(c2, .int)]) s := hK
  refine va_putF (D := (dC, dI)) (ci := 7) (v := .ref q2) (ty := .array .int) (C := RX9) (T := TX9) (N := 21) hx hb hts (zcl_ok 7 (RX9, TX9, 21) rfl).1 tyX9 tyX9_ok nmX9 hown hK hP hD hS 0 rfl rfl 3 (by decide) (hts _ kw_611) (fun _ h9 => h9) rfl hin rfl (by decide +kernel) rfl rfl (Nat.le_of_ble_eq_true rfl) dX9_init_17 (fun H locs hP hD hS => ?_)
  have hP : va_P (dC, dI) vwCl ((h, .inr (7, [.int 0, .int 0, .ref q1, .ref q2, .null, .null, .int 0, .int 0, .int 0, .null, .int 0, .null, .null, .null, .int 0, .int 0, .null, .null, .null, .null, .null])) :: ((w0 ++ [(q1, .inl (c1, 6, .inl (fun _ => 0)))]) ++ [(q2, .inl (c2, 6, .inl (fun _ => 0)))])) H := hP
  have hD : va_D A ((h, .inr (7, [.int 0, .int 0, .ref q1, .ref q2, .null, .null, .int 0, .int 0, .int 0, .null, .int 0, .null, .null, .null, .int 0, .int 0, .null, .null, .null, .null, .null])) :: ((w0 ++ [(q1, .inl (c1, 6, .inl (fun _ => 0)))]) ++ [(q2, .inl (c2, 6, .inl (fun _ => 0)))])) := hD
  refine lv_aload_n hx hb dX9_init_20 rfl (lv_at hl 0 rfl) ?_
  refine lv_bipush (v := 6) hx hb dX9_init_21 (by decide) ?_
  refine va_newa (atype := .int) (ty := .int) (N' := 6) (a0 := (6, .inl (fun _ => 0))) hx hb (hts _ kw_142) rfl hK hP hD hS hA (fun _ => rfl) (by decide) (by decide) (by decide) (Nat.le_of_ble_eq_true rfl) (Nat.le_of_ble_eq_true rfl) dX9_init_23 (fun q3 c3 H hK hP hD hS => ?_)
  have hP : va_P (dC, dI) vwCl ((h, .inr (7, [.int 0, .int 0, .ref q1, .ref q2, .null, .null, .int 0, .int 0, .int 0, .null, .int 0, .null, .null, .null, .int 0, .int 0, .null, .null, .null, .null, .null])) :: (((w0 ++ [(q1, .inl (c1, 6, .inl (fun _ => 0)))]) ++ [(q2, .inl (c2, 6, .inl (fun _ => 0)))]) ++ [(q3, .inl (c3, 6, .inl (fun _ => 0)))])) H := hP
  have hD : va_D A ((h, .inr (7, [.int 0, .int 0, .ref q1, .ref q2, .null, .null, .int 0, .int 0, .int 0, .null, .int 0, .null, .null, .null, .int 0, .int 0, .null, .null, .null, .null, .null])) :: (((w0 ++ [(q1, .inl (c1, 6, .inl (fun _ => 0)))]) ++ [(q2, .inl (c2, 6, .inl (fun _ => 0)))]) ++ [(q3, .inl (c3, 6, .inl (fun _ => 0)))])) := hD
  have hK : va_K (dC, dI) vwCl (t0 ++ [(c1, .int)] ++ [(c2, .int)] ++ [(c3, .int)]) s := hK
  refine va_putF (D := (dC, dI)) (ci := 7) (v := .ref q3) (ty := .array .int) (C := RX9) (T := TX9) (N := 21) hx hb hts (zcl_ok 7 (RX9, TX9, 21) rfl).1 tyX9 tyX9_ok nmX9 hown hK hP hD hS 0 rfl rfl 4 (by decide) (hts _ kw_612) (fun _ h9 => h9) rfl hin rfl (by decide +kernel) rfl rfl (Nat.le_of_ble_eq_true rfl) dX9_init_25 (fun H locs hP hD hS => ?_)
  have hP : va_P (dC, dI) vwCl ((h, .inr (7, [.int 0, .int 0, .ref q1, .ref q2, .ref q3, .null, .int 0, .int 0, .int 0, .null, .int 0, .null, .null, .null, .int 0, .int 0, .null, .null, .null, .null, .null])) :: (((w0 ++ [(q1, .inl (c1, 6, .inl (fun _ => 0)))]) ++ [(q2, .inl (c2, 6, .inl (fun _ => 0)))]) ++ [(q3, .inl (c3, 6, .inl (fun _ => 0)))])) H := hP
  have hD : va_D A ((h, .inr (7, [.int 0, .int 0, .ref q1, .ref q2, .ref q3, .null, .int 0, .int 0, .int 0, .null, .int 0, .null, .null, .null, .int 0, .int 0, .null, .null, .null, .null, .null])) :: (((w0 ++ [(q1, .inl (c1, 6, .inl (fun _ => 0)))]) ++ [(q2, .inl (c2, 6, .inl (fun _ => 0)))]) ++ [(q3, .inl (c3, 6, .inl (fun _ => 0)))])) := hD
  refine lv_aload_n hx hb dX9_init_28 rfl (lv_at hl 0 rfl) ?_
  refine lv_sipush (v := 256) hx hb dX9_init_29 (by decide) ?_
  refine va_newa (atype := .int) (ty := .int) (N' := 256) (a0 := (256, .inl (fun _ => 0))) hx hb (hts _ kw_142) rfl hK hP hD hS hA (fun _ => rfl) (by decide) (by decide) (by decide) (Nat.le_of_ble_eq_true rfl) (Nat.le_of_ble_eq_true rfl) dX9_init_32 (fun q4 c4 H hK hP hD hS => ?_)
  have hP : va_P (dC, dI) vwCl ((h, .inr (7, [.int 0, .int 0, .ref q1, .ref q2, .ref q3, .null, .int 0, .int 0, .int 0, .null, .int 0, .null, .null, .null, .int 0, .int 0, .null, .null, .null, .null, .null])) :: ((((w0 ++ [(q1, .inl (c1, 6, .inl (fun _ => 0)))]) ++ [(q2, .inl (c2, 6, .inl (fun _ => 0)))]) ++ [(q3, .inl (c3, 6, .inl (fun _ => 0)))]) ++ [(q4, .inl (c4, 256, .inl (fun _ => 0)))])) H := hP
  have hD : va_D A ((h, .inr (7, [.int 0, .int 0, .ref q1, .ref q2, .ref q3, .null, .int 0, .int 0, .int 0, .null, .int 0, .null, .null, .null, .int 0, .int 0, .null, .null, .null, .null, .null])) :: ((((w0 ++ [(q1, .inl (c1, 6, .inl (fun _ => 0)))]) ++ [(q2, .inl (c2, 6, .inl (fun _ => 0)))]) ++ [(q3, .inl (c3, 6, .inl (fun _ => 0)))]) ++ [(q4, .inl (c4, 256, .inl (fun _ => 0)))])) := hD
  have hK : va_K (dC, dI) vwCl (t0 ++ [(c1, .int)] ++ [(c2, .int)] ++ [(c3, .int)] ++ [(c4, .int)]) s := hK
  refine va_putF (D := (dC, dI)) (ci := 7) (v := .ref q4) (ty := .array .int) (C := RX9) (T := TX9) (N := 21) hx hb hts (zcl_ok 7 (RX9, TX9, 21) rfl).1 tyX9 tyX9_ok nmX9 hown hK hP hD hS 0 rfl rfl 5 (by decide) (hts _ kw_613) (fun _ h9 => h9) rfl hin rfl (by decide +kernel) rfl rfl (Nat.le_of_ble_eq_true rfl) dX9_init_34 (fun H locs hP hD hS => ?_)
  have hP : va_P (dC, dI) vwCl ((h, .inr (7, [.int 0, .int 0, .ref q1, .ref q2, .ref q3, .ref q4, .int 0, .int 0, .int 0, .null, .int 0, .null, .null, .null, .int 0, .int 0, .null, .null, .null, .null, .null])) :: ((((w0 ++ [(q1, .inl (c1, 6, .inl (fun _ => 0)))]) ++ [(q2, .inl (c2, 6, .inl (fun _ => 0)))]) ++ [(q3, .inl (c3, 6, .inl (fun _ => 0)))]) ++ [(q4, .inl (c4, 256, .inl (fun _ => 0)))])) H := hP
  have hD : va_D A ((h, .inr (7, [.int 0, .int 0, .ref q1, .ref q2, .ref q3, .ref q4, .int 0, .int 0, .int 0, .null, .int 0, .null, .null, .null, .int 0, .int 0, .null, .null, .null, .null, .null])) :: ((((w0 ++ [(q1, .inl (c1, 6, .inl (fun _ => 0)))]) ++ [(q2, .inl (c2, 6, .inl (fun _ => 0)))]) ++ [(q3, .inl (c3, 6, .inl (fun _ => 0)))]) ++ [(q4, .inl (c4, 256, .inl (fun _ => 0)))])) := hD
  refine lv_aload_n hx hb dX9_init_37 rfl (lv_at hl 0 rfl) ?_
  refine lv_bipush (v := 80) hx hb dX9_init_38 (by decide) ?_
  refine va_newa (atype := .int) (ty := .int) (N' := 80) (a0 := (80, .inl (fun _ => 0))) hx hb (hts _ kw_142) rfl hK hP hD hS hA (fun _ => rfl) (by decide) (by decide) (by decide) (Nat.le_of_ble_eq_true rfl) (Nat.le_of_ble_eq_true rfl) dX9_init_40 (fun q5 c5 H hK hP hD hS => ?_)
  have hP : va_P (dC, dI) vwCl ((h, .inr (7, [.int 0, .int 0, .ref q1, .ref q2, .ref q3, .ref q4, .int 0, .int 0, .int 0, .null, .int 0, .null, .null, .null, .int 0, .int 0, .null, .null, .null, .null, .null])) :: (((((w0 ++ [(q1, .inl (c1, 6, .inl (fun _ => 0)))]) ++ [(q2, .inl (c2, 6, .inl (fun _ => 0)))]) ++ [(q3, .inl (c3, 6, .inl (fun _ => 0)))]) ++ [(q4, .inl (c4, 256, .inl (fun _ => 0)))]) ++ [(q5, .inl (c5, 80, .inl (fun _ => 0)))])) H := hP
  have hD : va_D A ((h, .inr (7, [.int 0, .int 0, .ref q1, .ref q2, .ref q3, .ref q4, .int 0, .int 0, .int 0, .null, .int 0, .null, .null, .null, .int 0, .int 0, .null, .null, .null, .null, .null])) :: (((((w0 ++ [(q1, .inl (c1, 6, .inl (fun _ => 0)))]) ++ [(q2, .inl (c2, 6, .inl (fun _ => 0)))]) ++ [(q3, .inl (c3, 6, .inl (fun _ => 0)))]) ++ [(q4, .inl (c4, 256, .inl (fun _ => 0)))]) ++ [(q5, .inl (c5, 80, .inl (fun _ => 0)))])) := hD
  have hK : va_K (dC, dI) vwCl (t0 ++ [(c1, .int)] ++ [(c2, .int)] ++ [(c3, .int)] ++ [(c4, .int)] ++ [(c5, .int)]) s := hK
  refine va_putF (D := (dC, dI)) (ci := 7) (v := .ref q5) (ty := .array .int) (C := RX9) (T := TX9) (N := 21) hx hb hts (zcl_ok 7 (RX9, TX9, 21) rfl).1 tyX9 tyX9_ok nmX9 hown hK hP hD hS 0 rfl rfl 9 (by decide) (hts _ kw_617) (fun _ h9 => h9) rfl hin rfl (by decide +kernel) rfl rfl (Nat.le_of_ble_eq_true rfl) dX9_init_42 (fun H locs hP hD hS => ?_)
  have hP : va_P (dC, dI) vwCl ((h, .inr (7, [.int 0, .int 0, .ref q1, .ref q2, .ref q3, .ref q4, .int 0, .int 0, .int 0, .ref q5, .int 0, .null, .null, .null, .int 0, .int 0, .null, .null, .null, .null, .null])) :: (((((w0 ++ [(q1, .inl (c1, 6, .inl (fun _ => 0)))]) ++ [(q2, .inl (c2, 6, .inl (fun _ => 0)))]) ++ [(q3, .inl (c3, 6, .inl (fun _ => 0)))]) ++ [(q4, .inl (c4, 256, .inl (fun _ => 0)))]) ++ [(q5, .inl (c5, 80, .inl (fun _ => 0)))])) H := hP
  have hD : va_D A ((h, .inr (7, [.int 0, .int 0, .ref q1, .ref q2, .ref q3, .ref q4, .int 0, .int 0, .int 0, .ref q5, .int 0, .null, .null, .null, .int 0, .int 0, .null, .null, .null, .null, .null])) :: (((((w0 ++ [(q1, .inl (c1, 6, .inl (fun _ => 0)))]) ++ [(q2, .inl (c2, 6, .inl (fun _ => 0)))]) ++ [(q3, .inl (c3, 6, .inl (fun _ => 0)))]) ++ [(q4, .inl (c4, 256, .inl (fun _ => 0)))]) ++ [(q5, .inl (c5, 80, .inl (fun _ => 0)))])) := hD
  refine lv_aload_n hx hb dX9_init_45 rfl (lv_at hl 0 rfl) ?_
  refine lv_bipush (v := 120) hx hb dX9_init_46 (by decide) ?_
  refine va_newa (atype := .int) (ty := .int) (N' := 120) (a0 := (120, .inl (fun _ => 0))) hx hb (hts _ kw_142) rfl hK hP hD hS hA (fun _ => rfl) (by decide) (by decide) (by decide) (Nat.le_of_ble_eq_true rfl) (Nat.le_of_ble_eq_true rfl) dX9_init_48 (fun q6 c6 H hK hP hD hS => ?_)
  have hP : va_P (dC, dI) vwCl ((h, .inr (7, [.int 0, .int 0, .ref q1, .ref q2, .ref q3, .ref q4, .int 0, .int 0, .int 0, .ref q5, .int 0, .null, .null, .null, .int 0, .int 0, .null, .null, .null, .null, .null])) :: ((((((w0 ++ [(q1, .inl (c1, 6, .inl (fun _ => 0)))]) ++ [(q2, .inl (c2, 6, .inl (fun _ => 0)))]) ++ [(q3, .inl (c3, 6, .inl (fun _ => 0)))]) ++ [(q4, .inl (c4, 256, .inl (fun _ => 0)))]) ++ [(q5, .inl (c5, 80, .inl (fun _ => 0)))]) ++ [(q6, .inl (c6, 120, .inl (fun _ => 0)))])) H := hP
  have hD : va_D A ((h, .inr (7, [.int 0, .int 0, .ref q1, .ref q2, .ref q3, .ref q4, .int 0, .int 0, .int 0, .ref q5, .int 0, .null, .null, .null, .int 0, .int 0, .null, .null, .null, .null, .null])) :: ((((((w0 ++ [(q1, .inl (c1, 6, .inl (fun _ => 0)))]) ++ [(q2, .inl (c2, 6, .inl (fun _ => 0)))]) ++ [(q3, .inl (c3, 6, .inl (fun _ => 0)))]) ++ [(q4, .inl (c4, 256, .inl (fun _ => 0)))]) ++ [(q5, .inl (c5, 80, .inl (fun _ => 0)))]) ++ [(q6, .inl (c6, 120, .inl (fun _ => 0)))])) := hD
  have hK : va_K (dC, dI) vwCl (t0 ++ [(c1, .int)] ++ [(c2, .int)] ++ [(c3, .int)] ++ [(c4, .int)] ++ [(c5, .int)] ++ [(c6, .int)]) s := hK
  refine va_putF (D := (dC, dI)) (ci := 7) (v := .ref q6) (ty := .array .int) (C := RX9) (T := TX9) (N := 21) hx hb hts (zcl_ok 7 (RX9, TX9, 21) rfl).1 tyX9 tyX9_ok nmX9 hown hK hP hD hS 0 rfl rfl 11 (by decide) (hts _ kw_619) (fun _ h9 => h9) rfl hin rfl (by decide +kernel) rfl rfl (Nat.le_of_ble_eq_true rfl) dX9_init_50 (fun H locs hP hD hS => ?_)
  have hP : va_P (dC, dI) vwCl ((h, .inr (7, [.int 0, .int 0, .ref q1, .ref q2, .ref q3, .ref q4, .int 0, .int 0, .int 0, .ref q5, .int 0, .ref q6, .null, .null, .int 0, .int 0, .null, .null, .null, .null, .null])) :: ((((((w0 ++ [(q1, .inl (c1, 6, .inl (fun _ => 0)))]) ++ [(q2, .inl (c2, 6, .inl (fun _ => 0)))]) ++ [(q3, .inl (c3, 6, .inl (fun _ => 0)))]) ++ [(q4, .inl (c4, 256, .inl (fun _ => 0)))]) ++ [(q5, .inl (c5, 80, .inl (fun _ => 0)))]) ++ [(q6, .inl (c6, 120, .inl (fun _ => 0)))])) H := hP
  have hD : va_D A ((h, .inr (7, [.int 0, .int 0, .ref q1, .ref q2, .ref q3, .ref q4, .int 0, .int 0, .int 0, .ref q5, .int 0, .ref q6, .null, .null, .int 0, .int 0, .null, .null, .null, .null, .null])) :: ((((((w0 ++ [(q1, .inl (c1, 6, .inl (fun _ => 0)))]) ++ [(q2, .inl (c2, 6, .inl (fun _ => 0)))]) ++ [(q3, .inl (c3, 6, .inl (fun _ => 0)))]) ++ [(q4, .inl (c4, 256, .inl (fun _ => 0)))]) ++ [(q5, .inl (c5, 80, .inl (fun _ => 0)))]) ++ [(q6, .inl (c6, 120, .inl (fun _ => 0)))])) := hD
  refine lv_aload_n hx hb dX9_init_53 rfl (lv_at hl 0 rfl) ?_
  refine lv_iconst (v := 4) hx hb dX9_init_54 (by decide) ?_
  refine va_newa (atype := .int) (ty := .int) (N' := 4) (a0 := (4, .inl (fun _ => 0))) hx hb (hts _ kw_142) rfl hK hP hD hS hA (fun _ => rfl) (by decide) (by decide) (by decide) (Nat.le_of_ble_eq_true rfl) (Nat.le_of_ble_eq_true rfl) dX9_init_55 (fun q7 c7 H hK hP hD hS => ?_)
  have hP : va_P (dC, dI) vwCl ((h, .inr (7, [.int 0, .int 0, .ref q1, .ref q2, .ref q3, .ref q4, .int 0, .int 0, .int 0, .ref q5, .int 0, .ref q6, .null, .null, .int 0, .int 0, .null, .null, .null, .null, .null])) :: (((((((w0 ++ [(q1, .inl (c1, 6, .inl (fun _ => 0)))]) ++ [(q2, .inl (c2, 6, .inl (fun _ => 0)))]) ++ [(q3, .inl (c3, 6, .inl (fun _ => 0)))]) ++ [(q4, .inl (c4, 256, .inl (fun _ => 0)))]) ++ [(q5, .inl (c5, 80, .inl (fun _ => 0)))]) ++ [(q6, .inl (c6, 120, .inl (fun _ => 0)))]) ++ [(q7, .inl (c7, 4, .inl (fun _ => 0)))])) H := hP
  have hD : va_D A ((h, .inr (7, [.int 0, .int 0, .ref q1, .ref q2, .ref q3, .ref q4, .int 0, .int 0, .int 0, .ref q5, .int 0, .ref q6, .null, .null, .int 0, .int 0, .null, .null, .null, .null, .null])) :: (((((((w0 ++ [(q1, .inl (c1, 6, .inl (fun _ => 0)))]) ++ [(q2, .inl (c2, 6, .inl (fun _ => 0)))]) ++ [(q3, .inl (c3, 6, .inl (fun _ => 0)))]) ++ [(q4, .inl (c4, 256, .inl (fun _ => 0)))]) ++ [(q5, .inl (c5, 80, .inl (fun _ => 0)))]) ++ [(q6, .inl (c6, 120, .inl (fun _ => 0)))]) ++ [(q7, .inl (c7, 4, .inl (fun _ => 0)))])) := hD
  have hK : va_K (dC, dI) vwCl (t0 ++ [(c1, .int)] ++ [(c2, .int)] ++ [(c3, .int)] ++ [(c4, .int)] ++ [(c5, .int)] ++ [(c6, .int)] ++ [(c7, .int)]) s := hK
  refine va_putF (D := (dC, dI)) (ci := 7) (v := .ref q7) (ty := .array .int) (C := RX9) (T := TX9) (N := 21) hx hb hts (zcl_ok 7 (RX9, TX9, 21) rfl).1 tyX9 tyX9_ok nmX9 hown hK hP hD hS 0 rfl rfl 12 (by decide) (hts _ kw_620) (fun _ h9 => h9) rfl hin rfl (by decide +kernel) rfl rfl (Nat.le_of_ble_eq_true rfl) dX9_init_57 (fun H locs hP hD hS => ?_)
  have hP : va_P (dC, dI) vwCl ((h, .inr (7, [.int 0, .int 0, .ref q1, .ref q2, .ref q3, .ref q4, .int 0, .int 0, .int 0, .ref q5, .int 0, .ref q6, .ref q7, .null, .int 0, .int 0, .null, .null, .null, .null, .null])) :: (((((((w0 ++ [(q1, .inl (c1, 6, .inl (fun _ => 0)))]) ++ [(q2, .inl (c2, 6, .inl (fun _ => 0)))]) ++ [(q3, .inl (c3, 6, .inl (fun _ => 0)))]) ++ [(q4, .inl (c4, 256, .inl (fun _ => 0)))]) ++ [(q5, .inl (c5, 80, .inl (fun _ => 0)))]) ++ [(q6, .inl (c6, 120, .inl (fun _ => 0)))]) ++ [(q7, .inl (c7, 4, .inl (fun _ => 0)))])) H := hP
  have hD : va_D A ((h, .inr (7, [.int 0, .int 0, .ref q1, .ref q2, .ref q3, .ref q4, .int 0, .int 0, .int 0, .ref q5, .int 0, .ref q6, .ref q7, .null, .int 0, .int 0, .null, .null, .null, .null, .null])) :: (((((((w0 ++ [(q1, .inl (c1, 6, .inl (fun _ => 0)))]) ++ [(q2, .inl (c2, 6, .inl (fun _ => 0)))]) ++ [(q3, .inl (c3, 6, .inl (fun _ => 0)))]) ++ [(q4, .inl (c4, 256, .inl (fun _ => 0)))]) ++ [(q5, .inl (c5, 80, .inl (fun _ => 0)))]) ++ [(q6, .inl (c6, 120, .inl (fun _ => 0)))]) ++ [(q7, .inl (c7, 4, .inl (fun _ => 0)))])) := hD
  refine lv_aload_n hx hb dX9_init_60 rfl (lv_at hl 0 rfl) ?_
  refine lv_bipush (v := 30) hx hb dX9_init_61 (by decide) ?_
  refine va_newa (atype := .int) (ty := .int) (N' := 30) (a0 := (30, .inl (fun _ => 0))) hx hb (hts _ kw_142) rfl hK hP hD hS hA (fun _ => rfl) (by decide) (by decide) (by decide) (Nat.le_of_ble_eq_true rfl) (Nat.le_of_ble_eq_true rfl) dX9_init_63 (fun q8 c8 H hK hP hD hS => ?_)
  have hP : va_P (dC, dI) vwCl ((h, .inr (7, [.int 0, .int 0, .ref q1, .ref q2, .ref q3, .ref q4, .int 0, .int 0, .int 0, .ref q5, .int 0, .ref q6, .ref q7, .null, .int 0, .int 0, .null, .null, .null, .null, .null])) :: ((((((((w0 ++ [(q1, .inl (c1, 6, .inl (fun _ => 0)))]) ++ [(q2, .inl (c2, 6, .inl (fun _ => 0)))]) ++ [(q3, .inl (c3, 6, .inl (fun _ => 0)))]) ++ [(q4, .inl (c4, 256, .inl (fun _ => 0)))]) ++ [(q5, .inl (c5, 80, .inl (fun _ => 0)))]) ++ [(q6, .inl (c6, 120, .inl (fun _ => 0)))]) ++ [(q7, .inl (c7, 4, .inl (fun _ => 0)))]) ++ [(q8, .inl (c8, 30, .inl (fun _ => 0)))])) H := hP
  have hD : va_D A ((h, .inr (7, [.int 0, .int 0, .ref q1, .ref q2, .ref q3, .ref q4, .int 0, .int 0, .int 0, .ref q5, .int 0, .ref q6, .ref q7, .null, .int 0, .int 0, .null, .null, .null, .null, .null])) :: ((((((((w0 ++ [(q1, .inl (c1, 6, .inl (fun _ => 0)))]) ++ [(q2, .inl (c2, 6, .inl (fun _ => 0)))]) ++ [(q3, .inl (c3, 6, .inl (fun _ => 0)))]) ++ [(q4, .inl (c4, 256, .inl (fun _ => 0)))]) ++ [(q5, .inl (c5, 80, .inl (fun _ => 0)))]) ++ [(q6, .inl (c6, 120, .inl (fun _ => 0)))]) ++ [(q7, .inl (c7, 4, .inl (fun _ => 0)))]) ++ [(q8, .inl (c8, 30, .inl (fun _ => 0)))])) := hD
  have hK : va_K (dC, dI) vwCl (t0 ++ [(c1, .int)] ++ [(c2, .int)] ++ [(c3, .int)] ++ [(c4, .int)] ++ [(c5, .int)] ++ [(c6, .int)] ++ [(c7, .int)] ++ [(c8, .int)]) s := hK
  refine va_putF (D := (dC, dI)) (ci := 7) (v := .ref q8) (ty := .array .int) (C := RX9) (T := TX9) (N := 21) hx hb hts (zcl_ok 7 (RX9, TX9, 21) rfl).1 tyX9 tyX9_ok nmX9 hown hK hP hD hS 0 rfl rfl 13 (by decide) (hts _ kw_621) (fun _ h9 => h9) rfl hin rfl (by decide +kernel) rfl rfl (Nat.le_of_ble_eq_true rfl) dX9_init_65 (fun H locs hP hD hS => ?_)
  have hP : va_P (dC, dI) vwCl ((h, .inr (7, [.int 0, .int 0, .ref q1, .ref q2, .ref q3, .ref q4, .int 0, .int 0, .int 0, .ref q5, .int 0, .ref q6, .ref q7, .ref q8, .int 0, .int 0, .null, .null, .null, .null, .null])) :: ((((((((w0 ++ [(q1, .inl (c1, 6, .inl (fun _ => 0)))]) ++ [(q2, .inl (c2, 6, .inl (fun _ => 0)))]) ++ [(q3, .inl (c3, 6, .inl (fun _ => 0)))]) ++ [(q4, .inl (c4, 256, .inl (fun _ => 0)))]) ++ [(q5, .inl (c5, 80, .inl (fun _ => 0)))]) ++ [(q6, .inl (c6, 120, .inl (fun _ => 0)))]) ++ [(q7, .inl (c7, 4, .inl (fun _ => 0)))]) ++ [(q8, .inl (c8, 30, .inl (fun _ => 0)))])) H := hP
  have hD : va_D A ((h, .inr (7, [.int 0, .int 0, .ref q1, .ref q2, .ref q3, .ref q4, .int 0, .int 0, .int 0, .ref q5, .int 0, .ref q6, .ref q7, .ref q8, .int 0, .int 0, .null, .null, .null, .null, .null])) :: ((((((((w0 ++ [(q1, .inl (c1, 6, .inl (fun _ => 0)))]) ++ [(q2, .inl (c2, 6, .inl (fun _ => 0)))]) ++ [(q3, .inl (c3, 6, .inl (fun _ => 0)))]) ++ [(q4, .inl (c4, 256, .inl (fun _ => 0)))]) ++ [(q5, .inl (c5, 80, .inl (fun _ => 0)))]) ++ [(q6, .inl (c6, 120, .inl (fun _ => 0)))]) ++ [(q7, .inl (c7, 4, .inl (fun _ => 0)))]) ++ [(q8, .inl (c8, 30, .inl (fun _ => 0)))])) := hD
  refine lv_aload_n hx hb dX9_init_68 rfl (lv_at hl 0 rfl) ?_
  refine lv_bipush (v := 8) hx hb dX9_init_69 (by decide) ?_
  refine va_newa (atype := .int) (ty := .int) (N' := 8) (a0 := (8, .inl (fun _ => 0))) hx hb (hts _ kw_142) rfl hK hP hD hS hA (fun _ => rfl) (by decide) (by decide) (by decide) (Nat.le_of_ble_eq_true rfl) (Nat.le_of_ble_eq_true rfl) dX9_init_71 (fun q9 c9 H hK hP hD hS => ?_)
  have hP : va_P (dC, dI) vwCl ((h, .inr (7, [.int 0, .int 0, .ref q1, .ref q2, .ref q3, .ref q4, .int 0, .int 0, .int 0, .ref q5, .int 0, .ref q6, .ref q7, .ref q8, .int 0, .int 0, .null, .null, .null, .null, .null])) :: (((((((((w0 ++ [(q1, .inl (c1, 6, .inl (fun _ => 0)))]) ++ [(q2, .inl (c2, 6, .inl (fun _ => 0)))]) ++ [(q3, .inl (c3, 6, .inl (fun _ => 0)))]) ++ [(q4, .inl (c4, 256, .inl (fun _ => 0)))]) ++ [(q5, .inl (c5, 80, .inl (fun _ => 0)))]) ++ [(q6, .inl (c6, 120, .inl (fun _ => 0)))]) ++ [(q7, .inl (c7, 4, .inl (fun _ => 0)))]) ++ [(q8, .inl (c8, 30, .inl (fun _ => 0)))]) ++ [(q9, .inl (c9, 8, .inl (fun _ => 0)))])) H := hP
  have hD : va_D A ((h, .inr (7, [.int 0, .int 0, .ref q1, .ref q2, .ref q3, .ref q4, .int 0, .int 0, .int 0, .ref q5, .int 0, .ref q6, .ref q7, .ref q8, .int 0, .int 0, .null, .null, .null, .null, .null])) :: (((((((((w0 ++ [(q1, .inl (c1, 6, .inl (fun _ => 0)))]) ++ [(q2, .inl (c2, 6, .inl (fun _ => 0)))]) ++ [(q3, .inl (c3, 6, .inl (fun _ => 0)))]) ++ [(q4, .inl (c4, 256, .inl (fun _ => 0)))]) ++ [(q5, .inl (c5, 80, .inl (fun _ => 0)))]) ++ [(q6, .inl (c6, 120, .inl (fun _ => 0)))]) ++ [(q7, .inl (c7, 4, .inl (fun _ => 0)))]) ++ [(q8, .inl (c8, 30, .inl (fun _ => 0)))]) ++ [(q9, .inl (c9, 8, .inl (fun _ => 0)))])) := hD
  have hK : va_K (dC, dI) vwCl (t0 ++ [(c1, .int)] ++ [(c2, .int)] ++ [(c3, .int)] ++ [(c4, .int)] ++ [(c5, .int)] ++ [(c6, .int)] ++ [(c7, .int)] ++ [(c8, .int)] ++ [(c9, .int)]) s := hK
  refine va_putF (D := (dC, dI)) (ci := 7) (v := .ref q9) (ty := .array .int) (C := RX9) (T := TX9) (N := 21) hx hb hts (zcl_ok 7 (RX9, TX9, 21) rfl).1 tyX9 tyX9_ok nmX9 hown hK hP hD hS 0 rfl rfl 16 (by decide) (hts _ kw_624) (fun _ h9 => h9) rfl hin rfl (by decide +kernel) rfl rfl (Nat.le_of_ble_eq_true rfl) dX9_init_73 (fun H locs hP hD hS => ?_)
  have hP : va_P (dC, dI) vwCl ((h, .inr (7, [.int 0, .int 0, .ref q1, .ref q2, .ref q3, .ref q4, .int 0, .int 0, .int 0, .ref q5, .int 0, .ref q6, .ref q7, .ref q8, .int 0, .int 0, .ref q9, .null, .null, .null, .null])) :: (((((((((w0 ++ [(q1, .inl (c1, 6, .inl (fun _ => 0)))]) ++ [(q2, .inl (c2, 6, .inl (fun _ => 0)))]) ++ [(q3, .inl (c3, 6, .inl (fun _ => 0)))]) ++ [(q4, .inl (c4, 256, .inl (fun _ => 0)))]) ++ [(q5, .inl (c5, 80, .inl (fun _ => 0)))]) ++ [(q6, .inl (c6, 120, .inl (fun _ => 0)))]) ++ [(q7, .inl (c7, 4, .inl (fun _ => 0)))]) ++ [(q8, .inl (c8, 30, .inl (fun _ => 0)))]) ++ [(q9, .inl (c9, 8, .inl (fun _ => 0)))])) H := hP
  have hD : va_D A ((h, .inr (7, [.int 0, .int 0, .ref q1, .ref q2, .ref q3, .ref q4, .int 0, .int 0, .int 0, .ref q5, .int 0, .ref q6, .ref q7, .ref q8, .int 0, .int 0, .ref q9, .null, .null, .null, .null])) :: (((((((((w0 ++ [(q1, .inl (c1, 6, .inl (fun _ => 0)))]) ++ [(q2, .inl (c2, 6, .inl (fun _ => 0)))]) ++ [(q3, .inl (c3, 6, .inl (fun _ => 0)))]) ++ [(q4, .inl (c4, 256, .inl (fun _ => 0)))]) ++ [(q5, .inl (c5, 80, .inl (fun _ => 0)))]) ++ [(q6, .inl (c6, 120, .inl (fun _ => 0)))]) ++ [(q7, .inl (c7, 4, .inl (fun _ => 0)))]) ++ [(q8, .inl (c8, 30, .inl (fun _ => 0)))]) ++ [(q9, .inl (c9, 8, .inl (fun _ => 0)))])) := hD
  refine lv_aload_n hx hb dX9_init_76 rfl (lv_at hl 0 rfl) ?_
  refine lv_bipush (v := 8) hx hb dX9_init_77 (by decide) ?_
  refine va_newa (atype := .int) (ty := .int) (N' := 8) (a0 := (8, .inl (fun _ => 0))) hx hb (hts _ kw_142) rfl hK hP hD hS hA (fun _ => rfl) (by decide) (by decide) (by decide) (Nat.le_of_ble_eq_true rfl) (Nat.le_of_ble_eq_true rfl) dX9_init_79 (fun q10 c10 H hK hP hD hS => ?_)
  have hP : va_P (dC, dI) vwCl ((h, .inr (7, [.int 0, .int 0, .ref q1, .ref q2, .ref q3, .ref q4, .int 0, .int 0, .int 0, .ref q5, .int 0, .ref q6, .ref q7, .ref q8, .int 0, .int 0, .ref q9, .null, .null, .null, .null])) :: ((((((((((w0 ++ [(q1, .inl (c1, 6, .inl (fun _ => 0)))]) ++ [(q2, .inl (c2, 6, .inl (fun _ => 0)))]) ++ [(q3, .inl (c3, 6, .inl (fun _ => 0)))]) ++ [(q4, .inl (c4, 256, .inl (fun _ => 0)))]) ++ [(q5, .inl (c5, 80, .inl (fun _ => 0)))]) ++ [(q6, .inl (c6, 120, .inl (fun _ => 0)))]) ++ [(q7, .inl (c7, 4, .inl (fun _ => 0)))]) ++ [(q8, .inl (c8, 30, .inl (fun _ => 0)))]) ++ [(q9, .inl (c9, 8, .inl (fun _ => 0)))]) ++ [(q10, .inl (c10, 8, .inl (fun _ => 0)))])) H := hP
  have hD : va_D A ((h, .inr (7, [.int 0, .int 0, .ref q1, .ref q2, .ref q3, .ref q4, .int 0, .int 0, .int 0, .ref q5, .int 0, .ref q6, .ref q7, .ref q8, .int 0, .int 0, .ref q9, .null, .null, .null, .null])) :: ((((((((((w0 ++ [(q1, .inl (c1, 6, .inl (fun _ => 0)))]) ++ [(q2, .inl (c2, 6, .inl (fun _ => 0)))]) ++ [(q3, .inl (c3, 6, .inl (fun _ => 0)))]) ++ [(q4, .inl (c4, 256, .inl (fun _ => 0)))]) ++ [(q5, .inl (c5, 80, .inl (fun _ => 0)))]) ++ [(q6, .inl (c6, 120, .inl (fun _ => 0)))]) ++ [(q7, .inl (c7, 4, .inl (fun _ => 0)))]) ++ [(q8, .inl (c8, 30, .inl (fun _ => 0)))]) ++ [(q9, .inl (c9, 8, .inl (fun _ => 0)))]) ++ [(q10, .inl (c10, 8, .inl (fun _ => 0)))])) := hD
  have hK : va_K (dC, dI) vwCl (t0 ++ [(c1, .int)] ++ [(c2, .int)] ++ [(c3, .int)] ++ [(c4, .int)] ++ [(c5, .int)] ++ [(c6, .int)] ++ [(c7, .int)] ++ [(c8, .int)] ++ [(c9, .int)] ++ [(c10, .int)]) s := hK
  refine va_putF (D := (dC, dI)) (ci := 7) (v := .ref q10) (ty := .array .int) (C := RX9) (T := TX9) (N := 21) hx hb hts (zcl_ok 7 (RX9, TX9, 21) rfl).1 tyX9 tyX9_ok nmX9 hown hK hP hD hS 0 rfl rfl 17 (by decide) (hts _ kw_625) (fun _ h9 => h9) rfl hin rfl (by decide +kernel) rfl rfl (Nat.le_of_ble_eq_true rfl) dX9_init_81 (fun H locs hP hD hS => ?_)
  have hP : va_P (dC, dI) vwCl ((h, .inr (7, [.int 0, .int 0, .ref q1, .ref q2, .ref q3, .ref q4, .int 0, .int 0, .int 0, .ref q5, .int 0, .ref q6, .ref q7, .ref q8, .int 0, .int 0, .ref q9, .ref q10, .null, .null, .null])) :: ((((((((((w0 ++ [(q1, .inl (c1, 6, .inl (fun _ => 0)))]) ++ [(q2, .inl (c2, 6, .inl (fun _ => 0)))]) ++ [(q3, .inl (c3, 6, .inl (fun _ => 0)))]) ++ [(q4, .inl (c4, 256, .inl (fun _ => 0)))]) ++ [(q5, .inl (c5, 80, .inl (fun _ => 0)))]) ++ [(q6, .inl (c6, 120, .inl (fun _ => 0)))]) ++ [(q7, .inl (c7, 4, .inl (fun _ => 0)))]) ++ [(q8, .inl (c8, 30, .inl (fun _ => 0)))]) ++ [(q9, .inl (c9, 8, .inl (fun _ => 0)))]) ++ [(q10, .inl (c10, 8, .inl (fun _ => 0)))])) H := hP
  have hD : va_D A ((h, .inr (7, [.int 0, .int 0, .ref q1, .ref q2, .ref q3, .ref q4, .int 0, .int 0, .int 0, .ref q5, .int 0, .ref q6, .ref q7, .ref q8, .int 0, .int 0, .ref q9, .ref q10, .null, .null, .null])) :: ((((((((((w0 ++ [(q1, .inl (c1, 6, .inl (fun _ => 0)))]) ++ [(q2, .inl (c2, 6, .inl (fun _ => 0)))]) ++ [(q3, .inl (c3, 6, .inl (fun _ => 0)))]) ++ [(q4, .inl (c4, 256, .inl (fun _ => 0)))]) ++ [(q5, .inl (c5, 80, .inl (fun _ => 0)))]) ++ [(q6, .inl (c6, 120, .inl (fun _ => 0)))]) ++ [(q7, .inl (c7, 4, .inl (fun _ => 0)))]) ++ [(q8, .inl (c8, 30, .inl (fun _ => 0)))]) ++ [(q9, .inl (c9, 8, .inl (fun _ => 0)))]) ++ [(q10, .inl (c10, 8, .inl (fun _ => 0)))])) := hD
  refine lv_aload_n hx hb dX9_init_84 rfl (lv_at hl 0 rfl) ?_
  refine lv_bipush (v := 32) hx hb dX9_init_85 (by decide) ?_
  refine va_newa (atype := .int) (ty := .int) (N' := 32) (a0 := (32, .inl (fun _ => 0))) hx hb (hts _ kw_142) rfl hK hP hD hS hA (fun _ => rfl) (by decide) (by decide) (by decide) (Nat.le_of_ble_eq_true rfl) (Nat.le_of_ble_eq_true rfl) dX9_init_87 (fun q11 c11 H hK hP hD hS => ?_)
  have hP : va_P (dC, dI) vwCl ((h, .inr (7, [.int 0, .int 0, .ref q1, .ref q2, .ref q3, .ref q4, .int 0, .int 0, .int 0, .ref q5, .int 0, .ref q6, .ref q7, .ref q8, .int 0, .int 0, .ref q9, .ref q10, .null, .null, .null])) :: (((((((((((w0 ++ [(q1, .inl (c1, 6, .inl (fun _ => 0)))]) ++ [(q2, .inl (c2, 6, .inl (fun _ => 0)))]) ++ [(q3, .inl (c3, 6, .inl (fun _ => 0)))]) ++ [(q4, .inl (c4, 256, .inl (fun _ => 0)))]) ++ [(q5, .inl (c5, 80, .inl (fun _ => 0)))]) ++ [(q6, .inl (c6, 120, .inl (fun _ => 0)))]) ++ [(q7, .inl (c7, 4, .inl (fun _ => 0)))]) ++ [(q8, .inl (c8, 30, .inl (fun _ => 0)))]) ++ [(q9, .inl (c9, 8, .inl (fun _ => 0)))]) ++ [(q10, .inl (c10, 8, .inl (fun _ => 0)))]) ++ [(q11, .inl (c11, 32, .inl (fun _ => 0)))])) H := hP
  have hD : va_D A ((h, .inr (7, [.int 0, .int 0, .ref q1, .ref q2, .ref q3, .ref q4, .int 0, .int 0, .int 0, .ref q5, .int 0, .ref q6, .ref q7, .ref q8, .int 0, .int 0, .ref q9, .ref q10, .null, .null, .null])) :: (((((((((((w0 ++ [(q1, .inl (c1, 6, .inl (fun _ => 0)))]) ++ [(q2, .inl (c2, 6, .inl (fun _ => 0)))]) ++ [(q3, .inl (c3, 6, .inl (fun _ => 0)))]) ++ [(q4, .inl (c4, 256, .inl (fun _ => 0)))]) ++ [(q5, .inl (c5, 80, .inl (fun _ => 0)))]) ++ [(q6, .inl (c6, 120, .inl (fun _ => 0)))]) ++ [(q7, .inl (c7, 4, .inl (fun _ => 0)))]) ++ [(q8, .inl (c8, 30, .inl (fun _ => 0)))]) ++ [(q9, .inl (c9, 8, .inl (fun _ => 0)))]) ++ [(q10, .inl (c10, 8, .inl (fun _ => 0)))]) ++ [(q11, .inl (c11, 32, .inl (fun _ => 0)))])) := hD
  have hK : va_K (dC, dI) vwCl (t0 ++ [(c1, .int)] ++ [(c2, .int)] ++ [(c3, .int)] ++ [(c4, .int)] ++ [(c5, .int)] ++ [(c6, .int)] ++ [(c7, .int)] ++ [(c8, .int)] ++ [(c9, .int)] ++ [(c10, .int)] ++ [(c11, .int)]) s := hK
  refine va_putF (D := (dC, dI)) (ci := 7) (v := .ref q11) (ty := .array .int) (C := RX9) (T := TX9) (N := 21) hx hb hts (zcl_ok 7 (RX9, TX9, 21) rfl).1 tyX9 tyX9_ok nmX9 hown hK hP hD hS 0 rfl rfl 18 (by decide) (hts _ kw_626) (fun _ h9 => h9) rfl hin rfl (by decide +kernel) rfl rfl (Nat.le_of_ble_eq_true rfl) dX9_init_89 (fun H locs hP hD hS => ?_)
  have hP : va_P (dC, dI) vwCl ((h, .inr (7, [.int 0, .int 0, .ref q1, .ref q2, .ref q3, .ref q4, .int 0, .int 0, .int 0, .ref q5, .int 0, .ref q6, .ref q7, .ref q8, .int 0, .int 0, .ref q9, .ref q10, .ref q11, .null, .null])) :: (((((((((((w0 ++ [(q1, .inl (c1, 6, .inl (fun _ => 0)))]) ++ [(q2, .inl (c2, 6, .inl (fun _ => 0)))]) ++ [(q3, .inl (c3, 6, .inl (fun _ => 0)))]) ++ [(q4, .inl (c4, 256, .inl (fun _ => 0)))]) ++ [(q5, .inl (c5, 80, .inl (fun _ => 0)))]) ++ [(q6, .inl (c6, 120, .inl (fun _ => 0)))]) ++ [(q7, .inl (c7, 4, .inl (fun _ => 0)))]) ++ [(q8, .inl (c8, 30, .inl (fun _ => 0)))]) ++ [(q9, .inl (c9, 8, .inl (fun _ => 0)))]) ++ [(q10, .inl (c10, 8, .inl (fun _ => 0)))]) ++ [(q11, .inl (c11, 32, .inl (fun _ => 0)))])) H := hP
  have hD : va_D A ((h, .inr (7, [.int 0, .int 0, .ref q1, .ref q2, .ref q3, .ref q4, .int 0, .int 0, .int 0, .ref q5, .int 0, .ref q6, .ref q7, .ref q8, .int 0, .int 0, .ref q9, .ref q10, .ref q11, .null, .null])) :: (((((((((((w0 ++ [(q1, .inl (c1, 6, .inl (fun _ => 0)))]) ++ [(q2, .inl (c2, 6, .inl (fun _ => 0)))]) ++ [(q3, .inl (c3, 6, .inl (fun _ => 0)))]) ++ [(q4, .inl (c4, 256, .inl (fun _ => 0)))]) ++ [(q5, .inl (c5, 80, .inl (fun _ => 0)))]) ++ [(q6, .inl (c6, 120, .inl (fun _ => 0)))]) ++ [(q7, .inl (c7, 4, .inl (fun _ => 0)))]) ++ [(q8, .inl (c8, 30, .inl (fun _ => 0)))]) ++ [(q9, .inl (c9, 8, .inl (fun _ => 0)))]) ++ [(q10, .inl (c10, 8, .inl (fun _ => 0)))]) ++ [(q11, .inl (c11, 32, .inl (fun _ => 0)))])) := hD
  refine lv_aload_n hx hb dX9_init_92 rfl (lv_at hl 0 rfl) ?_
  refine lv_bipush (v := 32) hx hb dX9_init_93 (by decide) ?_
  refine va_newa (atype := .int) (ty := .int) (N' := 32) (a0 := (32, .inl (fun _ => 0))) hx hb (hts _ kw_142) rfl hK hP hD hS hA (fun _ => rfl) (by decide) (by decide) (by decide) (Nat.le_of_ble_eq_true rfl) (Nat.le_of_ble_eq_true rfl) dX9_init_95 (fun q12 c12 H hK hP hD hS => ?_)
  have hP : va_P (dC, dI) vwCl ((h, .inr (7, [.int 0, .int 0, .ref q1, .ref q2, .ref q3, .ref q4, .int 0, .int 0, .int 0, .ref q5, .int 0, .ref q6, .ref q7, .ref q8, .int 0, .int 0, .ref q9, .ref q10, .ref q11, .null, .null])) :: ((((((((((((w0 ++ [(q1, .inl (c1, 6, .inl (fun _ => 0)))]) ++ [(q2, .inl (c2, 6, .inl (fun _ => 0)))]) ++ [(q3, .inl (c3, 6, .inl (fun _ => 0)))]) ++ [(q4, .inl (c4, 256, .inl (fun _ => 0)))]) ++ [(q5, .inl (c5, 80, .inl (fun _ => 0)))]) ++ [(q6, .inl (c6, 120, .inl (fun _ => 0)))]) ++ [(q7, .inl (c7, 4, .inl (fun _ => 0)))]) ++ [(q8, .inl (c8, 30, .inl (fun _ => 0)))]) ++ [(q9, .inl (c9, 8, .inl (fun _ => 0)))]) ++ [(q10, .inl (c10, 8, .inl (fun _ => 0)))]) ++ [(q11, .inl (c11, 32, .inl (fun _ => 0)))]) ++ [(q12, .inl (c12, 32, .inl (fun _ => 0)))])) H := hP
  have hD : va_D A ((h, .inr (7, [.int 0, .int 0, .ref q1, .ref q2, .ref q3, .ref q4, .int 0, .int 0, .int 0, .ref q5, .int 0, .ref q6, .ref q7, .ref q8, .int 0, .int 0, .ref q9, .ref q10, .ref q11, .null, .null])) :: ((((((((((((w0 ++ [(q1, .inl (c1, 6, .inl (fun _ => 0)))]) ++ [(q2, .inl (c2, 6, .inl (fun _ => 0)))]) ++ [(q3, .inl (c3, 6, .inl (fun _ => 0)))]) ++ [(q4, .inl (c4, 256, .inl (fun _ => 0)))]) ++ [(q5, .inl (c5, 80, .inl (fun _ => 0)))]) ++ [(q6, .inl (c6, 120, .inl (fun _ => 0)))]) ++ [(q7, .inl (c7, 4, .inl (fun _ => 0)))]) ++ [(q8, .inl (c8, 30, .inl (fun _ => 0)))]) ++ [(q9, .inl (c9, 8, .inl (fun _ => 0)))]) ++ [(q10, .inl (c10, 8, .inl (fun _ => 0)))]) ++ [(q11, .inl (c11, 32, .inl (fun _ => 0)))]) ++ [(q12, .inl (c12, 32, .inl (fun _ => 0)))])) := hD
  have hK : va_K (dC, dI) vwCl (t0 ++ [(c1, .int)] ++ [(c2, .int)] ++ [(c3, .int)] ++ [(c4, .int)] ++ [(c5, .int)] ++ [(c6, .int)] ++ [(c7, .int)] ++ [(c8, .int)] ++ [(c9, .int)] ++ [(c10, .int)] ++ [(c11, .int)] ++ [(c12, .int)]) s := hK
  refine va_putF (D := (dC, dI)) (ci := 7) (v := .ref q12) (ty := .array .int) (C := RX9) (T := TX9) (N := 21) hx hb hts (zcl_ok 7 (RX9, TX9, 21) rfl).1 tyX9 tyX9_ok nmX9 hown hK hP hD hS 0 rfl rfl 19 (by decide) (hts _ kw_627) (fun _ h9 => h9) rfl hin rfl (by decide +kernel) rfl rfl (Nat.le_of_ble_eq_true rfl) dX9_init_97 (fun H locs hP hD hS => ?_)
  have hP : va_P (dC, dI) vwCl ((h, .inr (7, [.int 0, .int 0, .ref q1, .ref q2, .ref q3, .ref q4, .int 0, .int 0, .int 0, .ref q5, .int 0, .ref q6, .ref q7, .ref q8, .int 0, .int 0, .ref q9, .ref q10, .ref q11, .ref q12, .null])) :: ((((((((((((w0 ++ [(q1, .inl (c1, 6, .inl (fun _ => 0)))]) ++ [(q2, .inl (c2, 6, .inl (fun _ => 0)))]) ++ [(q3, .inl (c3, 6, .inl (fun _ => 0)))]) ++ [(q4, .inl (c4, 256, .inl (fun _ => 0)))]) ++ [(q5, .inl (c5, 80, .inl (fun _ => 0)))]) ++ [(q6, .inl (c6, 120, .inl (fun _ => 0)))]) ++ [(q7, .inl (c7, 4, .inl (fun _ => 0)))]) ++ [(q8, .inl (c8, 30, .inl (fun _ => 0)))]) ++ [(q9, .inl (c9, 8, .inl (fun _ => 0)))]) ++ [(q10, .inl (c10, 8, .inl (fun _ => 0)))]) ++ [(q11, .inl (c11, 32, .inl (fun _ => 0)))]) ++ [(q12, .inl (c12, 32, .inl (fun _ => 0)))])) H := hP
  have hD : va_D A ((h, .inr (7, [.int 0, .int 0, .ref q1, .ref q2, .ref q3, .ref q4, .int 0, .int 0, .int 0, .ref q5, .int 0, .ref q6, .ref q7, .ref q8, .int 0, .int 0, .ref q9, .ref q10, .ref q11, .ref q12, .null])) :: ((((((((((((w0 ++ [(q1, .inl (c1, 6, .inl (fun _ => 0)))]) ++ [(q2, .inl (c2, 6, .inl (fun _ => 0)))]) ++ [(q3, .inl (c3, 6, .inl (fun _ => 0)))]) ++ [(q4, .inl (c4, 256, .inl (fun _ => 0)))]) ++ [(q5, .inl (c5, 80, .inl (fun _ => 0)))]) ++ [(q6, .inl (c6, 120, .inl (fun _ => 0)))]) ++ [(q7, .inl (c7, 4, .inl (fun _ => 0)))]) ++ [(q8, .inl (c8, 30, .inl (fun _ => 0)))]) ++ [(q9, .inl (c9, 8, .inl (fun _ => 0)))]) ++ [(q10, .inl (c10, 8, .inl (fun _ => 0)))]) ++ [(q11, .inl (c11, 32, .inl (fun _ => 0)))]) ++ [(q12, .inl (c12, 32, .inl (fun _ => 0)))])) := hD
  refine lv_aload_n hx hb dX9_init_100 rfl (lv_at hl 0 rfl) ?_
  refine lv_bipush (v := 32) hx hb dX9_init_101 (by decide) ?_
  refine va_newa (atype := .int) (ty := .int) (N' := 32) (a0 := (32, .inl (fun _ => 0))) hx hb (hts _ kw_142) rfl hK hP hD hS hA (fun _ => rfl) (by decide) (by decide) (by decide) (Nat.le_of_ble_eq_true rfl) (Nat.le_of_ble_eq_true rfl) dX9_init_103 (fun q13 c13 H hK hP hD hS => ?_)
  have hP : va_P (dC, dI) vwCl ((h, .inr (7, [.int 0, .int 0, .ref q1, .ref q2, .ref q3, .ref q4, .int 0, .int 0, .int 0, .ref q5, .int 0, .ref q6, .ref q7, .ref q8, .int 0, .int 0, .ref q9, .ref q10, .ref q11, .ref q12, .null])) :: (((((((((((((w0 ++ [(q1, .inl (c1, 6, .inl (fun _ => 0)))]) ++ [(q2, .inl (c2, 6, .inl (fun _ => 0)))]) ++ [(q3, .inl (c3, 6, .inl (fun _ => 0)))]) ++ [(q4, .inl (c4, 256, .inl (fun _ => 0)))]) ++ [(q5, .inl (c5, 80, .inl (fun _ => 0)))]) ++ [(q6, .inl (c6, 120, .inl (fun _ => 0)))]) ++ [(q7, .inl (c7, 4, .inl (fun _ => 0)))]) ++ [(q8, .inl (c8, 30, .inl (fun _ => 0)))]) ++ [(q9, .inl (c9, 8, .inl (fun _ => 0)))]) ++ [(q10, .inl (c10, 8, .inl (fun _ => 0)))]) ++ [(q11, .inl (c11, 32, .inl (fun _ => 0)))]) ++ [(q12, .inl (c12, 32, .inl (fun _ => 0)))]) ++ [(q13, .inl (c13, 32, .inl (fun _ => 0)))])) H := hP
  have hD : va_D A ((h, .inr (7, [.int 0, .int 0, .ref q1, .ref q2, .ref q3, .ref q4, .int 0, .int 0, .int 0, .ref q5, .int 0, .ref q6, .ref q7, .ref q8, .int 0, .int 0, .ref q9, .ref q10, .ref q11, .ref q12, .null])) :: (((((((((((((w0 ++ [(q1, .inl (c1, 6, .inl (fun _ => 0)))]) ++ [(q2, .inl (c2, 6, .inl (fun _ => 0)))]) ++ [(q3, .inl (c3, 6, .inl (fun _ => 0)))]) ++ [(q4, .inl (c4, 256, .inl (fun _ => 0)))]) ++ [(q5, .inl (c5, 80, .inl (fun _ => 0)))]) ++ [(q6, .inl (c6, 120, .inl (fun _ => 0)))]) ++ [(q7, .inl (c7, 4, .inl (fun _ => 0)))]) ++ [(q8, .inl (c8, 30, .inl (fun _ => 0)))]) ++ [(q9, .inl (c9, 8, .inl (fun _ => 0)))]) ++ [(q10, .inl (c10, 8, .inl (fun _ => 0)))]) ++ [(q11, .inl (c11, 32, .inl (fun _ => 0)))]) ++ [(q12, .inl (c12, 32, .inl (fun _ => 0)))]) ++ [(q13, .inl (c13, 32, .inl (fun _ => 0)))])) := hD
  have hK : va_K (dC, dI) vwCl (t0 ++ [(c1, .int)] ++ [(c2, .int)] ++ [(c3, .int)] ++ [(c4, .int)] ++ [(c5, .int)] ++ [(c6, .int)] ++ [(c7, .int)] ++ [(c8, .int)] ++ [(c9, .int)] ++ [(c10, .int)] ++ [(c11, .int)] ++ [(c12, .int)] ++ [(c13, .int)]) s := hK
  refine va_putF (D := (dC, dI)) (ci := 7) (v := .ref q13) (ty := .array .int) (C := RX9) (T := TX9) (N := 21) hx hb hts (zcl_ok 7 (RX9, TX9, 21) rfl).1 tyX9 tyX9_ok nmX9 hown hK hP hD hS 0 rfl rfl 20 (by decide) (hts _ kw_628) (fun _ h9 => h9) rfl hin rfl (by decide +kernel) rfl rfl (Nat.le_of_ble_eq_true rfl) dX9_init_105 (fun H locs hP hD hS => ?_)
  have hP : va_P (dC, dI) vwCl ((h, .inr (7, [.int 0, .int 0, .ref q1, .ref q2, .ref q3, .ref q4, .int 0, .int 0, .int 0, .ref q5, .int 0, .ref q6, .ref q7, .ref q8, .int 0, .int 0, .ref q9, .ref q10, .ref q11, .ref q12, .ref q13])) :: (((((((((((((w0 ++ [(q1, .inl (c1, 6, .inl (fun _ => 0)))]) ++ [(q2, .inl (c2, 6, .inl (fun _ => 0)))]) ++ [(q3, .inl (c3, 6, .inl (fun _ => 0)))]) ++ [(q4, .inl (c4, 256, .inl (fun _ => 0)))]) ++ [(q5, .inl (c5, 80, .inl (fun _ => 0)))]) ++ [(q6, .inl (c6, 120, .inl (fun _ => 0)))]) ++ [(q7, .inl (c7, 4, .inl (fun _ => 0)))]) ++ [(q8, .inl (c8, 30, .inl (fun _ => 0)))]) ++ [(q9, .inl (c9, 8, .inl (fun _ => 0)))]) ++ [(q10, .inl (c10, 8, .inl (fun _ => 0)))]) ++ [(q11, .inl (c11, 32, .inl (fun _ => 0)))]) ++ [(q12, .inl (c12, 32, .inl (fun _ => 0)))]) ++ [(q13, .inl (c13, 32, .inl (fun _ => 0)))])) H := hP
  have hD : va_D A ((h, .inr (7, [.int 0, .int 0, .ref q1, .ref q2, .ref q3, .ref q4, .int 0, .int 0, .int 0, .ref q5, .int 0, .ref q6, .ref q7, .ref q8, .int 0, .int 0, .ref q9, .ref q10, .ref q11, .ref q12, .ref q13])) :: (((((((((((((w0 ++ [(q1, .inl (c1, 6, .inl (fun _ => 0)))]) ++ [(q2, .inl (c2, 6, .inl (fun _ => 0)))]) ++ [(q3, .inl (c3, 6, .inl (fun _ => 0)))]) ++ [(q4, .inl (c4, 256, .inl (fun _ => 0)))]) ++ [(q5, .inl (c5, 80, .inl (fun _ => 0)))]) ++ [(q6, .inl (c6, 120, .inl (fun _ => 0)))]) ++ [(q7, .inl (c7, 4, .inl (fun _ => 0)))]) ++ [(q8, .inl (c8, 30, .inl (fun _ => 0)))]) ++ [(q9, .inl (c9, 8, .inl (fun _ => 0)))]) ++ [(q10, .inl (c10, 8, .inl (fun _ => 0)))]) ++ [(q11, .inl (c11, 32, .inl (fun _ => 0)))]) ++ [(q12, .inl (c12, 32, .inl (fun _ => 0)))]) ++ [(q13, .inl (c13, 32, .inl (fun _ => 0)))])) := hD
  refine lv_aload_n hx hb dX9_init_108 rfl (lv_at hl 0 rfl) ?_
  simp only [List.append_assoc, List.cons_append, List.nil_append] at hP hD hK
  have hP := k_moveP hP
  have hD := k_moveD hD
  have e47 : w0 ++ [(h, .inr (7, [.int 0, .int 0, .ref q1, .ref q2, .ref q3, .ref q4, .int 0, .int 0, .int 0, .ref q5, .int 0, .ref q6, .ref q7, .ref q8, .int 0, .int 0, .ref q9, .ref q10, .ref q11, .ref q12, .ref q13])), (q1, .inl (c1, 6, .inl (fun _ => 0))), (q2, .inl (c2, 6, .inl (fun _ => 0))), (q3, .inl (c3, 6, .inl (fun _ => 0))), (q4, .inl (c4, 256, .inl (fun _ => 0))), (q5, .inl (c5, 80, .inl (fun _ => 0))), (q6, .inl (c6, 120, .inl (fun _ => 0))), (q7, .inl (c7, 4, .inl (fun _ => 0))), (q8, .inl (c8, 30, .inl (fun _ => 0))), (q9, .inl (c9, 8, .inl (fun _ => 0))), (q10, .inl (c10, 8, .inl (fun _ => 0))), (q11, .inl (c11, 32, .inl (fun _ => 0))), (q12, .inl (c12, 32, .inl (fun _ => 0))), (q13, .inl (c13, 32, .inl (fun _ => 0)))] = zwd 47 (kadM ad [h, q1, q2, q3, q4, q5, q6, q7, q8, q9, q10, q11, q12, q13] ad0) (kcAM cA c1 [c1, c1, c2, c3, c4, c5, c6, c7, c8, c9, c10, c11, c12, c13]) (kM2 M1) := by
    rw [hw0, zwd_47, k_ext (ad := ad) (ad' := (kadM ad [h, q1, q2, q3, q4, q5, q6, q7, q8, q9, q10, q11, q12, q13] ad0)) (cA := cA) (cA' := (kcAM cA c1 [c1, c1, c2, c3, c4, c5, c6, c7, c8, c9, c10, c11, c12, c13])) (M := M1) (M' := kM2 M1) (fun k hk => k_adM hk) (fun k hk => k_cAM hk) (fun k hk => k_M2 hk)]
    rfl
  rw [e47] at hP hD
  have hK : va_K (dC, dI) vwCl (ztys 47 (kcAM cA c1 [c1, c1, c2, c3, c4, c5, c6, c7, c8, c9, c10, c11, c12, c13])) s := k_K hK (fun q hq => by
    rw [ztys_47, k_tys (cA' := (kcAM cA c1 [c1, c1, c2, c3, c4, c5, c6, c7, c8, c9, c10, c11, c12, c13])) (cA := cA) (fun k hk => k_cAM hk), ← ht0] at hq
    rcases List.mem_append.mp hq with h9 | h9
    · exact List.mem_append_left _ h9
    · refine List.mem_append_right _ ?_
      have h9 : q ∈ (c1, FieldType.int) :: [(c1, .int), (c2, .int), (c3, .int), (c4, .int), (c5, .int), (c6, .int), (c7, .int), (c8, .int), (c9, .int), (c10, .int), (c11, .int), (c12, .int), (c13, .int)] := h9
      rcases List.mem_cons.mp h9 with rfl | h9
      · exact List.mem_cons_self
      · exact h9)
  have hRO : zRO (kadM ad [h, q1, q2, q3, q4, q5, q6, q7, q8, q9, q10, q11, q12, q13] ad0) sc A s s.heap := k_roM hRO
  refine W.widen (k := 13) (n := 620) (Nat.le_of_ble_eq_true rfl) (Nat.le_of_ble_eq_true rfl) ?_
  refine k_callZ (q := 33) (t := 604) (rest := []) (ad := (kadM ad [h, q1, q2, q3, q4, q5, q6, q7, q8, q9, q10, q11, q12, q13] ad0)) hx hb hml hown hts rfl zi_90 rfl rfl (c_90 (d := 0)) (by decide) rfl (by decide +kernel) hK hP hD hS hA hRO hl.1 (Nat.le_of_ble_eq_true rfl) (Nat.le_of_ble_eq_true rfl) (Nat.le_of_ble_eq_true rfl) ⟨(Nat.le_of_ble_eq_true rfl), (Nat.le_of_ble_eq_true rfl)⟩ dX9_init_109 (fun H locs hP hD hS => ?_)
  exact W.vret hx hb hr (fun t ht hW => ⟨⟨(zwd 47 (kadM ad [h, q1, q2, q3, q4, q5, q6, q7, q8, q9, q10, q11, q12, q13] ad0) (kcAM cA c1 [c1, c1, c2, c3, c4, c5, c6, c7, c8, c9, c10, c11, c12, c13]) (zem (kM2 M1) 0 4), ztys 47 (kcAM cA c1 [c1, c1, c2, c3, c4, c5, c6, c7, c8, c9, c10, c11, c12, c13])), rfl, ⟨(kadM ad [h, q1, q2, q3, q4, q5, q6, q7, q8, q9, q10, q11, q12, q13] ad0), (kcAM cA c1 [c1, c1, c2, c3, c4, c5, c6, c7, c8, c9, c10, c11, c12, c13]), fun k hk => k_adM hk, rfl, fun r hr => k_adM2 hr, rfl⟩, by rw [ht]; exact hP, va_K.moved hW.alike hK, hD⟩, hS.F ht⟩) hS.2.2 dX9_init_112
