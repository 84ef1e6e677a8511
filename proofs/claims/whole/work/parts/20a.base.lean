/-! THE CONSTRUCTORS: what a constructor is handed, what it leaves; a call of one -/
def kX (U : State) : Prop := va_Nw (.methodLinkNest RX4 17 yX3_init RX8) U ∧ va_Nw (.methodLinkNest RX8 33 yX6_init RX8) U ∧ va_Nw (.methodLinkNest RX8 53 yX0_init RX8) U ∧ va_AO RX3 U ∧ va_AO RX0 U
theorem kX.same {u U : State} (hvm : u.vm = U.vm) (h : kX u) : kX U := ⟨va_Nw.same rfl hvm h.1, va_Nw.same rfl hvm h.2.1, va_Nw.same rfl hvm h.2.2.1, va_AO.moved (hvm ▸ Vm.Alike.refl u.vm) h.2.2.2.1, va_AO.moved (hvm ▸ Vm.Alike.refl u.vm) h.2.2.2.2⟩
theorem kX.warm {u U : State} (hW : u.WarmedH U.vm) (h : kX u) : kX U := ⟨va_Nw.warmM hW h.1, va_Nw.warmM hW h.2.1, va_Nw.warmM hW h.2.2.1, va_AO.moved hW.alike h.2.2.2.1, va_AO.moved hW.alike h.2.2.2.2⟩
def kPre (dC : Nat → ClassId) (dI : Nat → Nat → Nat) (ad0 : Nat → Nat) (sc : Nat × (Nat → Int32)) (ws : va_W) (tys : List (ClassId × FieldType)) (sz : Nat) (U : State) : Prop :=
  U.heap.size = sz ∧ va_P (dC, dI) vwCl ws U.heap ∧ va_K (dC, dI) vwCl tys U ∧ va_D (fun _ => True) ws ∧ kX U ∧ zRO ad0 sc (va_A ws sz) U U.heap
abbrev kU : Type := va_W × List (ClassId × FieldType)
def kB (dC : Nat → ClassId) (dI : Nat → Nat → Nat) (A : Nat → Prop) (u : kU) (t : State) : Prop := va_P (dC, dI) vwCl u.1 t.heap ∧ va_K (dC, dI) vwCl u.2 t ∧ va_D A u.1
/-- a constructor's contract: its own cell is handed in, cells of 'shape' come back -/
def kMet (l : Launch) (y : MethodName) (bytes : ByteArray) (mL fr lo mc ms : Nat) (as : List Value) (ad0 : Nat → Nat) (sc : Nat × (Nat → Int32)) (ws : va_W) (tys : List (ClassId × FieldType)) (shape : kU → Prop) : Prop :=
  ∀ (dC : Nat → ClassId) (dI : Nat → Nat → Nat) (sz : Nat), Met l y (Cond.code y bytes mL none :: zT) { frames := fr, cells := mc, slots := ms, locals := lo } (va_Pc as (kPre dC dI ad0 sc ws tys sz)) (va_Qv shape (kB dC dI (va_A ws sz)) (va_A ws sz)) mc ms (va_A ws sz)
theorem kPre.blind {dC : Nat → ClassId} {dI : Nat → Nat → Nat} {ad0 : Nat → Nat} {sc : Nat × (Nat → Int32)} {ws : va_W} {tys : List (ClassId × FieldType)} {sz : Nat} {av : List Value} : FrameBlind (va_Pc av (kPre dC dI ad0 sc ws tys sz)) := by
  intro a U g mk q
  obtain ⟨q0, q1, q2, q3, q4, q5, q6⟩ := q
  exact ⟨q0, q1, q2, va_K.moved (u := U) (U := U.calling g mk a) (Vm.Alike.refl U.vm) q3, q4, kX.same (u := U) (U := U.calling g mk a) rfl q5, zRO.moved (u := U) (U := U.calling g mk a) (Vm.Alike.refl U.vm) q6⟩
theorem k_map {α : Type} (w : List α) (x : α) : (List.range w.length).map (fun i => (w ++ [x])[i]?) = w.map some := by
  refine List.ext_getElem? (fun i => ?_)
  by_cases h : i < w.length
  · simp [h, List.getElem?_append_left h]
  · simp [h]
theorem k_last {α : Type} (w : List α) (x : α) : [w.length].map (fun i => (w ++ [x])[i]?) = [x].map some := by
  simp
theorem k_nd : ∀ l : List Nat, l.Nodup → va_nd l = true := by
  intro l
  induction l with
  | nil => intro _; rfl
  | cons a r ih =>
    intro h
    rw [List.nodup_cons] at h
    simp only [va_nd, Bool.and_eq_true, decide_eq_true_eq]
    exact ⟨h.1, ih h.2⟩
theorem va_nd_range (n : Nat) : va_nd (List.range n) = true := k_nd _ List.nodup_range
section KK
variable {p : Program} {l : Launch} {e : Env} {R : Room} {s : State} {m : MethodId} {args : Array Value} {below : List Frame} {meth : Method} {c : Code} {cells slots : Nat} {Q : State → Prop}
variable {dC : Nat → ClassId} {dI : Nat → Nat → Nat} {A : Nat → Prop} {H : Heap} {locs : List Loc} {ls : Array Slot} {pc : Nat} {rest : List Value} {ad0 : Nat → Nat} {sc : Nat × (Nat → Int32)}
theorem k_back {wr : va_W} {x : Nat × va_E} {tys : List (ClassId × FieldType)} {shape : kU → Prop} {mc ms : Nat} {st0 : List Value} {a : Array Value}
    (hP : va_P (dC, dI) vwCl (wr ++ [x]) H) (hD : va_D A (wr ++ [x])) (hK : va_K (dC, dI) vwCl tys s) (hS : va_S A s.heap H locs) (hA : ∀ q, s.heap.size ≤ q → A q)
    (hr : va_Run p l e R s m args below meth c H locs cells slots mc ms (F0 m pc ls st0) rest (va_Qv shape (kB dC dI (va_A [x] H.size)) (va_A [x] H.size) a) (va_A [x] H.size))
    (kk : ∀ (u : kU) (H1 : Heap) (locs1 : List Loc), shape u → va_P (dC, dI) vwCl (wr ++ u.1) H1 → va_D A (wr ++ u.1) → va_K (dC, dI) vwCl (tys ++ u.2) s → va_S A s.heap H1 locs1 → W p l e R s m args below meth c H1 locs1 (cells + mc) (slots + ms) Q (F0 m (pc + 3) ls rest)) :
    W p l e R s m args below meth c H locs cells slots Q (F0 m pc ls st0) := by
  have hF : ∀ q, va_A [x] H.size q → A q := va_free (wc := [x]) hD hS hA [wr.length] (k_last wr x)
  refine va_callv hr hS (fun q _ h => hF q h) hF (fun u t H1 locs1 ht hvm hw hB hz1 hk1 hS1 => ?_)
  obtain ⟨hP1, hK1, hD1⟩ := hB
  rw [ht] at hP1
  obtain ⟨hP2, hD2⟩ := va_join (wr := wr) (w1 := u.1) hP hD [wr.length] (List.range wr.length) (k_last wr x) (k_map wr x) (va_nd_range _) (fun i hi => by have := List.mem_range.mp hi; simp; omega) hk1 hF hP1 hD1
  exact kk u H1 locs1 hw hP2 hD2 (hK.app (va_K.moved hvm.symm hK1)) hS1
/-- new .. invokespecial <init>, of a class that is not private here -/
theorem k_callI {y : MethodName} {bytes cc : ByteArray} {mL nL fr lo mc ms n index : Nat} {own : String} {As : List Value} {b : Nat} {e1 : va_E} {wr : va_W} {tys : List (ClassId × FieldType)} {shape : kU → Prop}
    (S : CallFix p m c cc nL s args zT own) (hM : kMet l y bytes mL fr lo mc ms (.ref b :: As) ad0 sc [(b, e1)] [] shape)
    (cw : CallB R s args own index y bytes mL none (Cond.code y bytes mL none :: zT) { frames := fr, cells := mc, slots := ms, locals := lo } mc ms n ∧ y.name = "<init>" ∧ (Cond.instanceMethod y).before args s = true)
    (hX : kX s) (hRO : zRO ad0 sc A s s.heap) (hP : va_P (dC, dI) vwCl (wr ++ [(b, e1)]) H) (hD : va_D A (wr ++ [(b, e1)])) (hK : va_K (dC, dI) vwCl tys s) (hS : va_S A s.heap H locs) (hA : ∀ q, s.heap.size ≤ q → A q)
    (hn : As.length = n) (hsize : ls.size = nL) (hW : (rest.map fun v => v.category).sum ≤ 8) (hdg : decode cc pc = .ok (.invokespecial index, 3)) (hf : cells + mc ≤ R.cells ∧ slots + ms ≤ R.slots)
    (kk : ∀ (u : kU) (H1 : Heap) (locs1 : List Loc), shape u → va_P (dC, dI) vwCl (wr ++ u.1) H1 → va_D A (wr ++ u.1) → va_K (dC, dI) vwCl (tys ++ u.2) s → va_S A s.heap H1 locs1 → W p l e R s m args below meth c H1 locs1 (cells + mc) (slots + ms) Q (F0 m (pc + 3) ls rest)) :
    W p l e R s m args below meth c H locs cells slots Q (F0 m pc ls (As.reverse ++ .ref b :: rest)) := by
  have hPc := hP.sub (ws' := [(b, e1)]) [wr.length] (by simp)
  have hDc := hD.sub (ws' := [(b, e1)]) [wr.length] rfl (k_last wr _)
  have hKc := hK.sub (tys' := []) [] rfl
  have hF : ∀ q, va_A [(b, e1)] H.size q → A q := va_free (wc := [(b, e1)]) hD hS hA [wr.length] (k_last wr _)
  refine k_back hP hD hK hS hA (va_runI (As := As) (rest := rest) S (hM dC dI H.size) cw ⟨kPre.blind, fun U hU hW => ⟨rfl, by rw [hU], by rw [hU]; exact hPc, va_K.moved hW.alike hKc, hDc.weaken (fun _ _ _ _ => trivial), kX.warm hW hX, by rw [hU]; exact ((hRO.kept hS.2.1).moved hW.alike).narrow hF⟩⟩ rfl hn hsize rfl (lv_room hW) hdg hf) kk
/-- the same, of a nest mate's private constructor -/
theorem k_callN {y : MethodName} {bytes cc : ByteArray} {mL nL fr lo mc ms n index : Nat} {own host : String} {As : List Value} {b : Nat} {e1 : va_E} {wr : va_W} {tys : List (ClassId × FieldType)} {shape : kU → Prop}
    (S : CallFix p m c cc nL s args zT own) (hM : kMet l y bytes mL fr lo mc ms (.ref b :: As) ad0 sc [(b, e1)] [] shape)
    (cw : va_CN R s args own index y host bytes mL none (Cond.code y bytes mL none :: zT) { frames := fr, cells := mc, slots := ms, locals := lo } mc ms n ∧ y.name = "<init>" ∧ (Cond.instanceMethod y).before args s = true)
    (hX : kX s) (hRO : zRO ad0 sc A s s.heap) (hP : va_P (dC, dI) vwCl (wr ++ [(b, e1)]) H) (hD : va_D A (wr ++ [(b, e1)])) (hK : va_K (dC, dI) vwCl tys s) (hS : va_S A s.heap H locs) (hA : ∀ q, s.heap.size ≤ q → A q)
    (hn : As.length = n) (hsize : ls.size = nL) (hW : (rest.map fun v => v.category).sum ≤ 8) (hdg : decode cc pc = .ok (.invokespecial index, 3)) (hf : cells + mc ≤ R.cells ∧ slots + ms ≤ R.slots)
    (kk : ∀ (u : kU) (H1 : Heap) (locs1 : List Loc), shape u → va_P (dC, dI) vwCl (wr ++ u.1) H1 → va_D A (wr ++ u.1) → va_K (dC, dI) vwCl (tys ++ u.2) s → va_S A s.heap H1 locs1 → W p l e R s m args below meth c H1 locs1 (cells + mc) (slots + ms) Q (F0 m (pc + 3) ls rest)) :
    W p l e R s m args below meth c H locs cells slots Q (F0 m pc ls (As.reverse ++ .ref b :: rest)) := by
  have hPc := hP.sub (ws' := [(b, e1)]) [wr.length] (by simp)
  have hDc := hD.sub (ws' := [(b, e1)]) [wr.length] rfl (k_last wr _)
  have hKc := hK.sub (tys' := []) [] rfl
  have hF : ∀ q, va_A [(b, e1)] H.size q → A q := va_free (wc := [(b, e1)]) hD hS hA [wr.length] (k_last wr _)
  refine k_back hP hD hK hS hA (va_runIN (As := As) (rest := rest) S (hM dC dI H.size) cw ⟨kPre.blind, fun U hU hW => ⟨rfl, by rw [hU], by rw [hU]; exact hPc, va_K.moved hW.alike hKc, hDc.weaken (fun _ _ _ _ => trivial), kX.warm hW hX, by rw [hU]; exact ((hRO.kept hS.2.1).moved hW.alike).narrow hF⟩⟩ rfl hn hsize rfl (lv_room hW) hdg hf) kk
/-- the whole world is handed to the constructor -/
theorem k_callW {y : MethodName} {bytes cc : ByteArray} {mL nL fr lo mc ms n index : Nat} {own : String} {As : List Value} {b : Nat} {ws : va_W} {tys : List (ClassId × FieldType)} {shape : kU → Prop}
    (S : CallFix p m c cc nL s args zT own) (hM : kMet l y bytes mL fr lo mc ms (.ref b :: As) ad0 sc ws tys shape)
    (cw : CallB R s args own index y bytes mL none (Cond.code y bytes mL none :: zT) { frames := fr, cells := mc, slots := ms, locals := lo } mc ms n ∧ y.name = "<init>" ∧ (Cond.instanceMethod y).before args s = true)
    (hX : kX s) (hRO : zRO ad0 sc A s s.heap) (hP : va_P (dC, dI) vwCl ws H) (hD : va_D A ws) (hK : va_K (dC, dI) vwCl tys s) (hS : va_S A s.heap H locs) (hA : ∀ q, s.heap.size ≤ q → A q)
    (hn : As.length = n) (hsize : ls.size = nL) (hW : (rest.map fun v => v.category).sum ≤ 8) (hdg : decode cc pc = .ok (.invokespecial index, 3)) (hf : cells + mc ≤ R.cells ∧ slots + ms ≤ R.slots)
    (kk : ∀ (u : kU) (H1 : Heap) (locs1 : List Loc), shape u → va_P (dC, dI) vwCl u.1 H1 → va_D A u.1 → va_K (dC, dI) vwCl u.2 s → va_S A s.heap H1 locs1 → W p l e R s m args below meth c H1 locs1 (cells + mc) (slots + ms) Q (F0 m (pc + 3) ls rest)) :
    W p l e R s m args below meth c H locs cells slots Q (F0 m pc ls (As.reverse ++ .ref b :: rest)) := by
  have hF : ∀ q, va_A ws H.size q → A q := zfree hD hS hA
  refine va_callv (va_runI (As := As) (rest := rest) S (hM dC dI H.size) cw ⟨kPre.blind, fun U hU hW => ⟨rfl, by rw [hU], by rw [hU]; exact hP, va_K.moved hW.alike hK, hD.weaken (fun _ _ _ _ => trivial), kX.warm hW hX, by rw [hU]; exact ((hRO.kept hS.2.1).moved hW.alike).narrow hF⟩⟩ rfl hn hsize rfl (lv_room hW) hdg hf) hS (fun q _ h => hF q h) hF (fun u t H1 locs1 ht hvm hw hB hz1 hk1 hS1 => ?_)
  obtain ⟨hP1, hK1, hD1⟩ := hB
  rw [ht] at hP1
  exact kk u H1 locs1 hw hP1 ⟨hD1.1, fun k q hq => hF _ (hD1.2 k q hq)⟩ (va_K.moved hvm.symm hK1) hS1
/-- a call of a method of the pure machine, with no arguments and no answer -/
theorem k_callZ {i : zI} {k d NC q t ix nL : Nat} {fs : List (Option Nat)} {own : String} {cc : ByteArray} {ad : Nat → Nat} {cA : Nat → ClassId} {M M' : zM}
    (hx : p.tables.exec = Jvm.exec) (hb : c.code = cc) (hml : c.maxLocals = nL) (hown : s.vm.findClass own = some m.cls) (hts : ∀ w ∈ zT, w.before args s = true) (hi : zinfo k = some i) (hok : zIok i) (hst : i.2.2.2.2.2.1 = false) (hn : i.2.2.2.2.2.2.2.1 = 0) (hC : zC NC sc d k [.ref q] M none M') (hq : q < NC) (hg : zget zlyL q = some (.inl (i.2.2.2.2.2.2.1, fs))) (hlk : lw_tbl[t]? = some (.methodLink own ix i.2.1))
    (hK : va_K (dC, dI) vwCl (ztys NC cA) s) (hP : va_P (dC, dI) vwCl (zwd NC ad cA M) H) (hD : va_D A (zwd NC ad cA M)) (hS : va_S A s.heap H locs) (hA : ∀ q, s.heap.size ≤ q → A q) (hRO : zRO ad sc A s s.heap)
    (hsize : ls.size = nL) (hW : (rest.map fun v => v.category).sum ≤ 8) (hfr : d + 1 ≤ R.frames) (hlo : 60 * (d + 1) ≤ R.locals) (hf : cells ≤ R.cells ∧ slots ≤ R.slots) (hdg : decode cc pc = .ok (.invokevirtual ix, 3))
    (kk : ∀ (H1 : Heap) (locs1 : List Loc), va_P (dC, dI) vwCl (zwd NC ad cA M') H1 → va_D A (zwd NC ad cA M') → va_S A s.heap H1 locs1 → W p l e R s m args below meth c H1 locs1 cells slots Q (F0 m (pc + 3) ls rest)) :
    W p l e R s m args below meth c H locs cells slots Q (F0 m pc ls (.ref (ad q) :: rest)) := by
  have hM := zC_sound l dC dI ad cA NC sc d k [.ref q] M none M' hC i hi hok H.size
  obtain ⟨k1, k2, -, k4, k5, k6, k7, k8, k9, k10⟩ := hok
  obtain ⟨k41, k42, k43⟩ := k4 hst
  obtain ⟨q8, hq8, hfl, hc8⟩ := zly_obj hg
  rw [hq8] at k43
  have hqc : q8.1 = i.2.1.cls := by simpa using k43
  have he : (zwd NC ad cA M)[q]? = some (ad q, .inr (i.2.2.2.2.2.2.1, zfv ad (M q) 0 fs)) := by
    rw [zwd_at hq]; unfold zce; rw [hg]
  have hG : GoodIn zT (wsV own ix i.2.1.cls i.2.1 (Cond.code i.2.1 i.2.2.1 i.2.2.2.1 i.2.2.2.2.1 :: zT)) := by
    refine zT_good (fun w hw => ?_)
    simp only [wsV, List.mem_append, List.mem_cons, List.not_mem_nil, or_false] at hw
    rcases hw with (rfl | rfl | rfl | rfl) | rfl | hw
    · exact zT_in hlk rfl
    · exact zT_in k41 rfl
    · exact zT_in k42 rfl
    · exact zT_in k2 rfl
    · exact zT_in k1 rfl
    · exact hw
  have hrecv := va_recv hK hP (ci := i.2.2.2.2.2.2.1) (by rw [← zget_eq]; exact hq8) he
  rw [hqc] at hrecv
  have hfree := zfree hD hS hA
  refine zcall (A := A) (va_runV (As := []) (rest := rest) ⟨hx, hb, hml, hown, hts⟩ hM (cwV i.2.2.2.2.2.2.2.1 hts hG rfl rfl rfl ⟨rfl, k6, k7, k9⟩ ⟨hfr, by show 8 + (i.2.2.2.1 + 11) + 60 * d ≤ R.locals; omega⟩) ⟨zPre.blind, hrecv, fun U hU hW => ⟨rfl, by rw [hU], by rw [hU]; exact hP, va_K.moved hW.alike hK, hD.weaken (fun _ _ _ _ => trivial), ?_⟩⟩ rfl (by rw [hn]; rfl) hsize rfl (lv_room hW) hdg hf) hS hfree hfree (fun H1 locs1 hP1 hD1 hS1 => kk H1 locs1 hP1 hD1 hS1)
  rw [hU]
  exact ((hRO.kept hS.2.1).moved hW.alike).narrow hfree
end KK
