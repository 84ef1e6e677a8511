theorem zfb_mem {α : Type} : ∀ (l : List (Nat × α)) (n : Nat) (x : α), zfb l n = some x → (n, x) ∈ l := by
  intro l
  induction l with
  | nil => intro n x h; simp [zfb] at h
  | cons q r ih =>
    intro n x h
    obtain ⟨a, y⟩ := q
    simp only [zfb] at h
    cases hb : Nat.beq a n with
    | true =>
      rw [hb] at h
      have h1 : y = x := by simpa using h
      rw [← h1, ← Nat.eq_of_beq_eq_true hb]
      exact List.mem_cons_self
    | false =>
      rw [hb] at h
      exact List.mem_cons_of_mem _ (ih n x h)
theorem zblk_ok {k pc np : Nat} {es : List zE} {i : zI} (h : zblk k pc = some (es, np)) (hi : zinfo k = some i) : zok1 i.1 i.2.2.1 np pc es = true := by
  unfold zblk at h
  cases hz : zget zcodes k with
  | none => rw [hz] at h; simp at h
  | some bl =>
    rw [hz] at h
    have h1 := zokK_all k
    unfold zokK at h1
    rw [hi, hz] at h1
    exact List.all_eq_true.mp h1 _ (zfb_mem _ _ _ h)
/-- from here the method k ends with r, M' -/
def zK (NC : Nat) (sc : Nat × (Nat → Int32)) (C : Nat → List Value → zM → Option Value → zM → Prop) (k : Nat) (r : Option Value) (M' : zM) (pc : Nat) (L st : List Value) (M : zM) : Prop :=
  ∀ P : Nat → List Value → List Value → zM → Prop, (∀ (pc : Nat) (L st : List Value) (M : zM) (es : List zE) (np : Nat), zblk k pc = some (es, np) → zwp NC sc zinfo C P (fun v M1 => zfit k v ∧ v = r ∧ M1 = M') np es L st M → P pc L st M) → P pc L st M
/-- the method k, called with these values, ends with r, M'; at most d frames -/
def zC (NC : Nat) (sc : Nat × (Nat → Int32)) : Nat → Nat → List Value → zM → Option Value → zM → Prop
  | 0 => fun _ _ _ _ _ => False
  | d + 1 => fun k as M r M' => match zinfo k with
    | some i => Nat.ble (zlo as).length i.2.2.2.1 = true ∧ zK NC sc (zC NC sc d) k r M' 0 (zpad i.2.2.2.1 (zlo as)) [] M
    | none => False
section ZB
variable {p : Program} {l : Launch} {e : Env} {R : Room} {s : State} {m : MethodId} {args : Array Value} {below : List Frame} {meth : Method} {c : Code} {cells slots : Nat} {Q : State → Prop}
variable {dC : Nat → ClassId} {dI : Nat → Nat → Nat} {ad : Nat → Nat} {cA : Nat → ClassId} {NC : Nat} {sc : Nat × (Nat → Int32)} {A : Nat → Prop}
theorem zblock {bytes : ByteArray} {own : String} {nL d : Nat} (hx : p.tables.exec = Jvm.exec) (hb : c.code = bytes) (hml : c.maxLocals = nL) (hown : s.vm.findClass own = some m.cls) (hts : ∀ w ∈ zT, w.before args s = true)
    (hK : va_K (dC, dI) vwCl (ztys NC cA) s) (hA : ∀ q, s.heap.size ≤ q → A q) (hRO : zRO ad sc A s s.heap) (hcell : cells ≤ R.cells) (hslot : slots ≤ R.slots) (hfr : d + 1 ≤ R.frames) (hlo : 60 * (d + 1) ≤ R.locals)
    {C : Nat → List Value → zM → Option Value → zM → Prop} (hC : ∀ k as M r M', C k as M r M' → zMet l dC dI ad cA NC sc d k as M r M')
    {J : Nat → List Value → List Value → zM → Prop} (hJ : ∀ pc L st M ls H locs, J pc L st M → zcon s dC dI ad cA NC A nL L M ls H locs → W p l e R s m args below meth c H locs cells slots Q (F0 m pc ls (st.map (ztr ad))))
    {fin : Option Value → zM → Prop} (hF : ∀ r M pc ls H locs, fin r M → decode bytes pc = .ok (zri r, 1) → va_P (dC, dI) vwCl (zwd NC ad cA M) H → va_D A (zwd NC ad cA M) → va_S A s.heap H locs → W p l e R s m args below meth c H locs cells slots Q (F0 m pc ls (r.toList.map (ztr ad))))
    (np : Nat) : ∀ (es : List zE) (pc : Nat) (L st : List Value) (M : zM) (ls : Array Slot) (H : Heap) (locs : List Loc), zok1 own bytes np pc es = true → zwp NC sc zinfo C J fin np es L st M → zcon s dC dI ad cA NC A nL L M ls H locs → W p l e R s m args below meth c H locs cells slots Q (F0 m pc ls (st.map (ztr ad))) := by
  intro es
  induction es with
  | nil =>
    intro pc L st M ls H locs hok hw hcon
    obtain rfl : pc = np := Nat.eq_of_beq_eq_true hok
    exact hJ _ _ _ _ _ _ _ hw hcon
  | cons E es ih =>
    intro pc L st M ls H locs hok hw hcon
    simp only [zok1, Bool.and_eq_true] at hok
    obtain ⟨⟨⟨⟨h1, h2⟩, h3⟩, h4⟩, h5⟩ := hok
    have h1' : E.1 = pc := Nat.eq_of_beq_eq_true h1
    subst h1'
    exact zins hx hb hml hown hts hK hA hRO hcell hslot hfr hlo hC hJ hF (κ := fun L' st' M' => zwp NC sc zinfo C J fin np es L' st' M') (fun L' st' M' ls' H' locs' hk hc => ih _ _ _ _ _ _ _ h5 hk hc) (of_decide_eq_true h2) h3 h4 hw hcon
theorem zK_sound {i : zI} {k d : Nat} {r : Option Value} {M' : zM} (hi : zinfo k = some i) (hx : p.tables.exec = Jvm.exec) (hb : c.code = i.2.2.1) (hml : c.maxLocals = i.2.2.2.1) (hown : s.vm.findClass i.1 = some m.cls) (hts : ∀ w ∈ zT, w.before args s = true)
    (hK : va_K (dC, dI) vwCl (ztys NC cA) s) (hA : ∀ q, s.heap.size ≤ q → A q) (hRO : zRO ad sc A s s.heap) (hcell : cells ≤ R.cells) (hslot : slots ≤ R.slots) (hfr : d + 1 ≤ R.frames) (hlo : 60 * (d + 1) ≤ R.locals)
    (hC : ∀ k as M r M', zC NC sc d k as M r M' → zMet l dC dI ad cA NC sc d k as M r M')
    (hF : ∀ pc ls H locs, zfit k r → decode i.2.2.1 pc = .ok (zri r, 1) → va_P (dC, dI) vwCl (zwd NC ad cA M') H → va_D A (zwd NC ad cA M') → va_S A s.heap H locs → W p l e R s m args below meth c H locs cells slots Q (F0 m pc ls (r.toList.map (ztr ad))))
    {pc : Nat} {L st : List Value} {M : zM} {ls : Array Slot} {H : Heap} {locs : List Loc} (h : zK NC sc (zC NC sc d) k r M' pc L st M) (hcon : zcon s dC dI ad cA NC A i.2.2.2.1 L M ls H locs) : W p l e R s m args below meth c H locs cells slots Q (F0 m pc ls (st.map (ztr ad))) := by
  refine h (fun pc L st M => ∀ (ls : Array Slot) (H : Heap) (locs : List Loc), zcon s dC dI ad cA NC A i.2.2.2.1 L M ls H locs → W p l e R s m args below meth c H locs cells slots Q (F0 m pc ls (st.map (ztr ad)))) ?_ ls H locs hcon
  intro pc L st M es np hblk hw ls H locs hcon
  refine zblock hx hb hml hown hts hK hA hRO hcell hslot hfr hlo hC (fun pc L st M ls H locs hj hc => hj ls H locs hc) (fin := fun v M1 => zfit k v ∧ v = r ∧ M1 = M') (fun v M1 pc ls H locs hf hdec hP hD hS => ?_) np es pc L st M ls H locs (zblk_ok hblk hi) hw hcon
  obtain ⟨h1, rfl, rfl⟩ := hf
  exact hF pc ls H locs h1 hdec hP hD hS
end ZB
set_option maxHeartbeats 1000000 in
/-- a call of the pure machine is a contract of the machine -/
theorem zC_sound (l : Launch) (dC : Nat → ClassId) (dI : Nat → Nat → Nat) (ad : Nat → Nat) (cA : Nat → ClassId) (NC : Nat) (sc : Nat × (Nat → Int32)) : ∀ (d k : Nat) (as : List Value) (M : zM) (r : Option Value) (M' : zM), zC NC sc d k as M r M' → zMet l dC dI ad cA NC sc d k as M r M' := by
  intro d
  induction d with
  | zero => intro k as M r M' h; exact h.elim
  | succ d ih =>
    intro k as M r M' h i hi hok sz
    simp only [zC] at h
    rw [hi] at h
    obtain ⟨hlen, hn⟩ := h
    have hlen' : (zlo as).length ≤ i.2.2.2.1 := Nat.le_of_ble_eq_true hlen
    obtain ⟨k1, k2, k3, k4, k5, k6, k7, k8, k9, k10⟩ := hok
    refine Met.ofW (cc := i.2.2.1) (maxL := i.2.2.2.1) (ret := i.2.2.2.2.1) k8 rfl ?_
    intro p e s m args below meth c s₁ B hml hv
    obtain ⟨rfl, hsz, hP, hK, hD0, hRO⟩ := hv
    have hts0 := atoms_spec (ws := Cond.code i.2.1 i.2.2.1 i.2.2.2.1 i.2.2.2.2.1 :: zT) B.pre
    have hts : ∀ w ∈ zT, w.before ((as.map (ztr ad)).toArray) s = true := fun w hw => hts0 w (List.mem_cons_of_mem _ hw)
    have hown : s.vm.findClass i.1 = some m.cls := by rw [← k5]; exact findClass_of_methodNamed B.named
    have hlocks := B.notSynchronized
    have hr := B.returns
    subst hsz
    have hD := hD0.self (sz := s.heap.size)
    have hA : ∀ q : Nat, s.heap.size ≤ q → va_A (zwd NC ad cA M) s.heap.size q := fun q h => Or.inr h
    have hl := lv_entry (as.map (ztr ad)) (n := i.2.2.2.1) (by rw [zlo_length]; exact hlen')
    rw [lg_entry_eq]
    generalize (lg_sl (as.map (ztr ad)) ++ List.replicate (i.2.2.2.1 - (lg_sl (as.map (ztr ad))).length) Slot.unset).toArray = ls at hl ⊢
    obtain ⟨hp1, hp2⟩ := zpad_pr ad i.2.2.2.1 (zlo as) 0 hlen'
    refine zK_sound (A := va_A (zwd NC ad cA M) s.heap.size) hi B.exec B.bytes hml hown hts hK hA hRO (Nat.zero_le _) (Nat.zero_le _) (d := d) (Nat.le_refl _) (Nat.le_refl _) ih (fun pc ls H locs hfit hdec hP1 hD1 hS1 => ?_) (st := []) hn ⟨hp2, zhas_sub hl (fun q hq => zlo_args ad as 0 (by rw [hp1] at hq; exact hq)), hP, hD, va_S.rf⟩
    have hq : ∀ t : State, t.heap = H → s.WarmedH t.vm → zQ dC dI ad cA NC r M' (va_A (zwd NC ad cA M) s.heap.size) ((as.map (ztr ad)).toArray) s (.returned (r.map (ztr ad))) t := fun t ht hW => ⟨⟨rfl, by rw [ht]; exact hP1, va_K.moved hW.alike hK, hD1⟩, hS1.F ht⟩
    unfold zfit at hfit
    rw [hi] at hfit
    dsimp only at hfit
    split at hfit
    · rename_i e1
      exact W.vret B.exec B.bytes (by rw [hr, e1]) hq hS1.2.2 hdec
    · rename_i e1
      exact W.zret B.exec B.bytes (by rw [hr, e1]) rfl hq hS1.2.2 hdec
    · rename_i v e1
      exact W.zret B.exec B.bytes (by rw [hr, e1]) (by rcases hfit with rfl | rfl <;> decide) hq hS1.2.2 hdec
    · rename_i e1
      exact W.aret B.exec B.bytes (by rw [hr, e1]) (Or.inl ⟨_, rfl⟩) (Or.inr ⟨_, rfl⟩) hq hS1.2.2 hdec
    · exact hfit.elim
