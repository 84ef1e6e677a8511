/-! THE CONSTRUCTORS: what a constructor is handed, what it leaves; a call of one -/
def kX (U : State) : Prop := va_Nw (.methodLinkNest RX4 17 yX3_init RX8) U ∧ va_Nw (.methodLinkNest RX8 33 yX6_init RX8) U ∧ va_Nw (.methodLinkNest RX8 53 yX0_init RX8) U ∧ va_AO RX3 U ∧ va_AO RX0 U
theorem kX.same {u U : State} (hvm : u.vm = U.vm) (h : kX u) : kX U := ⟨va_Nw.same rfl hvm h.1, va_Nw.same rfl hvm h.2.1, va_Nw.same rfl hvm h.2.2.1, va_AO.moved (hvm ▸ Vm.Alike.refl u.vm) h.2.2.2.1, va_AO.moved (hvm ▸ Vm.Alike.refl u.vm) h.2.2.2.2⟩
theorem kX.warm {u U : State} (hW : u.WarmedH U.vm) (h : kX u) : kX U := ⟨va_Nw.warmM hW h.1, va_Nw.warmM hW h.2.1, va_Nw.warmM hW h.2.2.1, va_AO.moved hW.alike h.2.2.2.1, va_AO.moved hW.alike h.2.2.2.2⟩
def kPre (dC : Nat → ClassId) (dI : Nat → Nat → Nat) (ws : va_W) (sz : Nat) (U : State) : Prop :=
  U.heap.size = sz ∧ va_P (dC, dI) vwCl ws U.heap ∧ va_K (dC, dI) vwCl [] U ∧ va_D (fun _ => True) ws ∧ kX U
abbrev kU : Type := va_W × List (ClassId × FieldType)
def kB (dC : Nat → ClassId) (dI : Nat → Nat → Nat) (A : Nat → Prop) (u : kU) (t : State) : Prop := va_P (dC, dI) vwCl u.1 t.heap ∧ va_K (dC, dI) vwCl u.2 t ∧ va_D A u.1
/-- a constructor's contract: its own cell is handed in, cells of 'shape' come back -/
def kMet (l : Launch) (y : MethodName) (bytes : ByteArray) (mL fr lo mc ms : Nat) (as : List Value) (ws : va_W) (shape : kU → Prop) : Prop :=
  ∀ (dC : Nat → ClassId) (dI : Nat → Nat → Nat) (sz : Nat), Met l y (Cond.code y bytes mL none :: zT) { frames := fr, cells := mc, slots := ms, locals := lo } (va_Pc as (kPre dC dI ws sz)) (va_Qv shape (kB dC dI (va_A ws sz)) (va_A ws sz)) mc ms (va_A ws sz)
theorem kPre.blind {dC : Nat → ClassId} {dI : Nat → Nat → Nat} {ws : va_W} {sz : Nat} {av : List Value} : FrameBlind (va_Pc av (kPre dC dI ws sz)) := by
  intro a U g mk q
  obtain ⟨q0, q1, q2, q3, q4, q5⟩ := q
  exact ⟨q0, q1, q2, va_K.moved (u := U) (U := U.calling g mk a) (Vm.Alike.refl U.vm) q3, q4, kX.same (u := U) (U := U.calling g mk a) rfl q5⟩
theorem k_map {α : Type} (w : List α) (x : α) : (List.range w.length).map (fun i => (w ++ [x])[i]?) = w.map some := by
  refine List.ext_getElem? (fun i => ?_)
  by_cases h : i < w.length
  · simp [h, List.getElem?_append_left h]
  · simp [h]
theorem k_last {α : Type} (w : List α) (x : α) : [w.length].map (fun i => (w ++ [x])[i]?) = [x].map some := by
  simp
theorem k_nd : ∀ l : List Nat, l.Nodup → va_nd l = true := by
  intro l
  induction l with
  | nil => intro _; rfl
  | cons a r ih =>
    intro h
    rw [List.nodup_cons] at h
    simp only [va_nd, Bool.and_eq_true, decide_eq_true_eq]
    exact ⟨h.1, ih h.2⟩
theorem va_nd_range (n : Nat) : va_nd (List.range n) = true := k_nd _ List.nodup_range
section KK
variable {p : Program} {l : Launch} {e : Env} {R : Room} {s : State} {m : MethodId} {args : Array Value} {below : List Frame} {meth : Method} {c : Code} {cells slots : Nat} {Q : State → Prop}
variable {dC : Nat → ClassId} {dI : Nat → Nat → Nat} {A : Nat → Prop} {H : Heap} {locs : List Loc} {ls : Array Slot} {pc : Nat} {rest : List Value}
theorem k_back {wr : va_W} {x : Nat × va_E} {tys : List (ClassId × FieldType)} {shape : kU → Prop} {mc ms : Nat} {st0 : List Value} {a : Array Value}
    (hP : va_P (dC, dI) vwCl (wr ++ [x]) H) (hD : va_D A (wr ++ [x])) (hK : va_K (dC, dI) vwCl tys s) (hS : va_S A s.heap H locs) (hA : ∀ q, s.heap.size ≤ q → A q)
    (hr : va_Run p l e R s m args below meth c H locs cells slots mc ms (F0 m pc ls st0) rest (va_Qv shape (kB dC dI (va_A [x] H.size)) (va_A [x] H.size) a) (va_A [x] H.size))
    (kk : ∀ (u : kU) (H1 : Heap) (locs1 : List Loc), shape u → va_P (dC, dI) vwCl (wr ++ u.1) H1 → va_D A (wr ++ u.1) → va_K (dC, dI) vwCl (tys ++ u.2) s → va_S A s.heap H1 locs1 → W p l e R s m args below meth c H1 locs1 (cells + mc) (slots + ms) Q (F0 m (pc + 3) ls rest)) :
    W p l e R s m args below meth c H locs cells slots Q (F0 m pc ls st0) := by
  have hF : ∀ q, va_A [x] H.size q → A q := va_free (wc := [x]) hD hS hA [wr.length] (k_last wr x)
  refine va_callv hr hS (fun q _ h => hF q h) hF (fun u t H1 locs1 ht hvm hw hB hz1 hk1 hS1 => ?_)
  obtain ⟨hP1, hK1, hD1⟩ := hB
  rw [ht] at hP1
  obtain ⟨hP2, hD2⟩ := va_join (wr := wr) (w1 := u.1) hP hD [wr.length] (List.range wr.length) (k_last wr x) (k_map wr x) (va_nd_range _) (fun i hi => by have := List.mem_range.mp hi; simp; omega) hk1 hF hP1 hD1
  exact kk u H1 locs1 hw hP2 hD2 (hK.app (va_K.moved hvm.symm hK1)) hS1
/-- new .. invokespecial <init>, of a class that is not private here -/
theorem k_callI {y : MethodName} {bytes cc : ByteArray} {mL nL fr lo mc ms n index : Nat} {own : String} {As : List Value} {b : Nat} {e1 : va_E} {wr : va_W} {tys : List (ClassId × FieldType)} {shape : kU → Prop}
    (S : CallFix p m c cc nL s args zT own) (hM : kMet l y bytes mL fr lo mc ms (.ref b :: As) [(b, e1)] shape)
    (cw : CallB R s args own index y bytes mL none (Cond.code y bytes mL none :: zT) { frames := fr, cells := mc, slots := ms, locals := lo } mc ms n ∧ y.name = "<init>" ∧ (Cond.instanceMethod y).before args s = true)
    (hX : kX s) (hP : va_P (dC, dI) vwCl (wr ++ [(b, e1)]) H) (hD : va_D A (wr ++ [(b, e1)])) (hK : va_K (dC, dI) vwCl tys s) (hS : va_S A s.heap H locs) (hA : ∀ q, s.heap.size ≤ q → A q)
    (hn : As.length = n) (hsize : ls.size = nL) (hW : (rest.map fun v => v.category).sum ≤ 8) (hdg : decode cc pc = .ok (.invokespecial index, 3)) (hf : cells + mc ≤ R.cells ∧ slots + ms ≤ R.slots)
    (kk : ∀ (u : kU) (H1 : Heap) (locs1 : List Loc), shape u → va_P (dC, dI) vwCl (wr ++ u.1) H1 → va_D A (wr ++ u.1) → va_K (dC, dI) vwCl (tys ++ u.2) s → va_S A s.heap H1 locs1 → W p l e R s m args below meth c H1 locs1 (cells + mc) (slots + ms) Q (F0 m (pc + 3) ls rest)) :
    W p l e R s m args below meth c H locs cells slots Q (F0 m pc ls (As.reverse ++ .ref b :: rest)) := by
  have hPc := hP.sub (ws' := [(b, e1)]) [wr.length] (by simp)
  have hDc := hD.sub (ws' := [(b, e1)]) [wr.length] rfl (k_last wr _)
  have hKc := hK.sub (tys' := []) [] rfl
  refine k_back hP hD hK hS hA (va_runI (As := As) (rest := rest) S (hM dC dI H.size) cw ⟨kPre.blind, fun U hU hW => ⟨rfl, by rw [hU], by rw [hU]; exact hPc, va_K.moved hW.alike hKc, hDc.weaken (fun _ _ _ _ => trivial), kX.warm hW hX⟩⟩ rfl hn hsize rfl (lv_room hW) hdg hf) kk
/-- the same, of a nest mate's private constructor -/
theorem k_callN {y : MethodName} {bytes cc : ByteArray} {mL nL fr lo mc ms n index : Nat} {own host : String} {As : List Value} {b : Nat} {e1 : va_E} {wr : va_W} {tys : List (ClassId × FieldType)} {shape : kU → Prop}
    (S : CallFix p m c cc nL s args zT own) (hM : kMet l y bytes mL fr lo mc ms (.ref b :: As) [(b, e1)] shape)
    (cw : va_CN R s args own index y host bytes mL none (Cond.code y bytes mL none :: zT) { frames := fr, cells := mc, slots := ms, locals := lo } mc ms n ∧ y.name = "<init>" ∧ (Cond.instanceMethod y).before args s = true)
    (hX : kX s) (hP : va_P (dC, dI) vwCl (wr ++ [(b, e1)]) H) (hD : va_D A (wr ++ [(b, e1)])) (hK : va_K (dC, dI) vwCl tys s) (hS : va_S A s.heap H locs) (hA : ∀ q, s.heap.size ≤ q → A q)
    (hn : As.length = n) (hsize : ls.size = nL) (hW : (rest.map fun v => v.category).sum ≤ 8) (hdg : decode cc pc = .ok (.invokespecial index, 3)) (hf : cells + mc ≤ R.cells ∧ slots + ms ≤ R.slots)
    (kk : ∀ (u : kU) (H1 : Heap) (locs1 : List Loc), shape u → va_P (dC, dI) vwCl (wr ++ u.1) H1 → va_D A (wr ++ u.1) → va_K (dC, dI) vwCl (tys ++ u.2) s → va_S A s.heap H1 locs1 → W p l e R s m args below meth c H1 locs1 (cells + mc) (slots + ms) Q (F0 m (pc + 3) ls rest)) :
    W p l e R s m args below meth c H locs cells slots Q (F0 m pc ls (As.reverse ++ .ref b :: rest)) := by
  have hPc := hP.sub (ws' := [(b, e1)]) [wr.length] (by simp)
  have hDc := hD.sub (ws' := [(b, e1)]) [wr.length] rfl (k_last wr _)
  have hKc := hK.sub (tys' := []) [] rfl
  refine k_back hP hD hK hS hA (va_runIN (As := As) (rest := rest) S (hM dC dI H.size) cw ⟨kPre.blind, fun U hU hW => ⟨rfl, by rw [hU], by rw [hU]; exact hPc, va_K.moved hW.alike hKc, hDc.weaken (fun _ _ _ _ => trivial), kX.warm hW hX⟩⟩ rfl hn hsize rfl (lv_room hW) hdg hf) kk
end KK
