/-! THE PURE MACHINE IS SOUND: what it does, the machine does -/
def zRO (ad : Nat → Nat) (sc : Nat × (Nat → Int32)) (A : Nat → Prop) (U : State) (H : Heap) : Prop :=
  (∀ r, 100 ≤ r → r ≤ 103 → va_T .int (ad r) (zro sc r).1 (fun j => .int ((zro sc r).2 j)) A U H) ∧ ∀ r, 101 ≤ r → r ≤ 103 → va_Z (zSt r).1 (zSt r).2 "[I" (.ref (ad r)) A U H
theorem zRO.moved {ad : Nat → Nat} {sc : Nat × (Nat → Int32)} {A : Nat → Prop} {u U : State} {H : Heap} (hvm : u.vm.Alike U.vm) (h : zRO ad sc A u H) : zRO ad sc A U H := ⟨fun r h1 h2 => (h.1 r h1 h2).moved hvm, fun r h1 h2 => (h.2 r h1 h2).moved hvm⟩
theorem zRO.kept {ad : Nat → Nat} {sc : Nat × (Nat → Int32)} {A : Nat → Prop} {U : State} {H H1 : Heap} (h : zRO ad sc A U H) (hq : ∀ a : Nat, a < H.size → ¬ A a → H1[a]? = H[a]?) : zRO ad sc A U H1 := ⟨fun r h1 h2 => (h.1 r h1 h2).kept hq, fun r h1 h2 => (h.2 r h1 h2).kept hq⟩
theorem zRO.narrow {ad : Nat → Nat} {sc : Nat × (Nat → Int32)} {A B : Nat → Prop} {U : State} {H : Heap} (h : zRO ad sc A U H) (hAB : ∀ q, B q → A q) : zRO ad sc B U H := ⟨fun r h1 h2 => (h.1 r h1 h2).narrow hAB, fun r h1 h2 => (h.2 r h1 h2).narrow hAB⟩
def zrm (d : Nat) : Room := { frames := d, cells := 0, slots := 0, locals := 60 * d }
def zPre (dC : Nat → ClassId) (dI : Nat → Nat → Nat) (ad : Nat → Nat) (cA : Nat → ClassId) (NC : Nat) (sc : Nat × (Nat → Int32)) (M : zM) (sz : Nat) (U : State) : Prop :=
  U.heap.size = sz ∧ va_P (dC, dI) vwCl (zwd NC ad cA M) U.heap ∧ va_K (dC, dI) vwCl (ztys NC cA) U ∧ va_D (fun _ => True) (zwd NC ad cA M) ∧ zRO ad sc (va_A (zwd NC ad cA M) sz) U U.heap
def zQ (dC : Nat → ClassId) (dI : Nat → Nat → Nat) (ad : Nat → Nat) (cA : Nat → ClassId) (NC : Nat) (r : Option Value) (M' : zM) (A : Nat → Prop) : Array Value → State → Outcome → State → Prop := fun _ st oc t =>
  (oc = .returned (r.map (ztr ad)) ∧ va_P (dC, dI) vwCl (zwd NC ad cA M') t.heap ∧ va_K (dC, dI) vwCl (ztys NC cA) t ∧ va_D A (zwd NC ad cA M')) ∧ va_F A st t
def zMet (l : Launch) (dC : Nat → ClassId) (dI : Nat → Nat → Nat) (ad : Nat → Nat) (cA : Nat → ClassId) (NC : Nat) (sc : Nat × (Nat → Int32)) (d k : Nat) (as : List Value) (M : zM) (r : Option Value) (M' : zM) : Prop :=
  ∀ i, zinfo k = some i → zIok i → ∀ sz, Met l i.2.1 (Cond.code i.2.1 i.2.2.1 i.2.2.2.1 i.2.2.2.2.1 :: zT) (zrm d) (va_Pc (as.map (ztr ad)) (zPre dC dI ad cA NC sc M sz)) (zQ dC dI ad cA NC r M' (va_A (zwd NC ad cA M) sz)) 0 0 (va_A (zwd NC ad cA M) sz)
theorem zPre.blind {dC : Nat → ClassId} {dI : Nat → Nat → Nat} {ad : Nat → Nat} {cA : Nat → ClassId} {NC : Nat} {sc : Nat × (Nat → Int32)} {M : zM} {sz : Nat} {av : List Value} : FrameBlind (va_Pc av (zPre dC dI ad cA NC sc M sz)) := by
  intro a U g mk q
  obtain ⟨q0, q1, q2, q3, q4, q5⟩ := q
  exact ⟨q0, q1, q2, va_K.moved (u := U) (U := U.calling g mk a) (Vm.Alike.refl U.vm) q3, q4, zRO.moved (u := U) (U := U.calling g mk a) (Vm.Alike.refl U.vm) q5⟩
theorem zfree {A : Nat → Prop} {ws : va_W} {H0 H : Heap} {locs : List Loc} (hD : va_D A ws) (hS : va_S A H0 H locs) (hA : ∀ q, H0.size ≤ q → A q) : ∀ q, va_A ws H.size q → A q := by
  intro q h
  rcases h with ⟨k, e, h⟩ | h
  · exact hD.2 k _ h
  · exact hA q (Nat.le_trans hS.1 h)
theorem zl_eq {i : Instr} {len : Nat} (h : (zisw i || Nat.beq len (zil i)) = true) (hi : zisw i = false) : len = zil i := by
  rw [hi, Bool.false_or] at h
  exact Nat.eq_of_beq_eq_true h
theorem zldI_x {L : List Value} {i : Nat} {κ : Value → Prop} (h : zldI L i κ) : ∃ x, zget L i = some (.int x) ∧ κ (.int x) := by
  unfold zldI at h
  split at h
  · exact ⟨_, by assumption, h⟩
  · exact h.elim
theorem zldJ_x {L : List Value} {i : Nat} {κ : Value → Prop} (h : zldJ L i κ) : ∃ x, zget L i = some (.long x) ∧ κ (.long x) := by
  unfold zldJ at h
  split at h
  · exact ⟨_, by assumption, h⟩
  · exact h.elim
theorem zldA_x {L : List Value} {i : Nat} {κ : Value → Prop} (h : zldA L i κ) : ∃ x, zget L i = some (.ref x) ∧ κ (.ref x) := by
  unfold zldA at h
  split at h
  · exact ⟨_, by assumption, h⟩
  · exact h.elim
theorem zstI_x {L : List Value} {i : Nat} {st : List Value} {κ : List Value → List Value → Prop} (h : zstI L i st κ) : ∃ x r, st = .int x :: r ∧ i < L.length ∧ κ (zsl L i (.int x)) r := by
  unfold zstI at h
  split at h
  · exact ⟨_, _, rfl, h⟩
  · exact h.elim
theorem zstA_x {L : List Value} {i : Nat} {st : List Value} {κ : List Value → List Value → Prop} (h : zstA L i st κ) : ∃ x r, st = .ref x :: r ∧ i < L.length ∧ κ (zsl L i (.ref x)) r := by
  unfold zstA at h
  split at h
  · exact ⟨_, _, rfl, h⟩
  · exact h.elim
theorem zinc_x {L : List Value} {i : Nat} {n : Int} {κ : List Value → Prop} (h : zinc L i n κ) : ∃ x, zget L i = some (.int x) ∧ i < L.length ∧ κ (zsl L i (.int (x + Int32.ofInt n))) := by
  unfold zinc at h
  split at h
  · exact ⟨_, by assumption, h⟩
  · exact h.elim
theorem zb2_x {f : Int32 → Int32 → Int32} {κ : List Value → Prop} {st : List Value} (h : zb2 f κ st) : ∃ x y r, st = .int y :: .int x :: r ∧ κ (.int (f x y) :: r) := by
  unfold zb2 at h
  split at h
  · exact ⟨_, _, _, rfl, h⟩
  · exact h.elim
theorem zl2_x {f : Int64 → Int64 → Int64} {κ : List Value → Prop} {st : List Value} (h : zl2 f κ st) : ∃ x y r, st = .long y :: .long x :: r ∧ κ (.long (f x y) :: r) := by
  unfold zl2 at h
  split at h
  · exact ⟨_, _, _, rfl, h⟩
  · exact h.elim
theorem zls_x {f : Int64 → Int32 → Int64} {κ : List Value → Prop} {st : List Value} (h : zls f κ st) : ∃ x y r, st = .int y :: .long x :: r ∧ κ (.long (f x y) :: r) := by
  unfold zls at h
  split at h
  · exact ⟨_, _, _, rfl, h⟩
  · exact h.elim
theorem zu1_x {f : Int32 → Int32} {κ : List Value → Prop} {st : List Value} (h : zu1 f κ st) : ∃ x r, st = .int x :: r ∧ κ (.int (f x) :: r) := by
  unfold zu1 at h
  split at h
  · exact ⟨_, _, rfl, h⟩
  · exact h.elim
theorem zi2l_x {κ : List Value → Prop} {st : List Value} (h : zi2l st κ) : ∃ x r, st = .int x :: r ∧ κ (.long x.toInt64 :: r) := by
  unfold zi2l at h
  split at h
  · exact ⟨_, _, rfl, h⟩
  · exact h.elim
theorem zl2i_x {κ : List Value → Prop} {st : List Value} (h : zl2i st κ) : ∃ x r, st = .long x :: r ∧ κ (.int x.toInt32 :: r) := by
  unfold zl2i at h
  split at h
  · exact ⟨_, _, rfl, h⟩
  · exact h.elim
theorem zrem_x {κ : List Value → Prop} {st : List Value} (h : zrem st κ) : ∃ x y r, st = .int y :: .int x :: r ∧ ¬ y = 0 ∧ κ (.int (x - x / y * y) :: r) := by
  unfold zrem at h
  split at h
  · exact ⟨_, _, _, rfl, h⟩
  · exact h.elim
theorem zmx_x {κ : List Value → Prop} {st : List Value} (h : zmx st κ) : ∃ x y r, st = .int y :: .int x :: r ∧ zslots r ≤ 8 ∧ κ (.int (if x < y then y else x) :: r) := by
  unfold zmx at h
  split at h
  · exact ⟨_, _, _, rfl, h⟩
  · exact h.elim
theorem zdup_x {κ : List Value → Prop} {st : List Value} (h : zdup st κ) : ∃ v r, st = v :: r ∧ v.category = 1 ∧ κ (v :: v :: r) := by
  unfold zdup at h
  split at h
  · exact ⟨_, _, rfl, h⟩
  · exact h.elim
theorem zdup2_x {κ : List Value → Prop} {st : List Value} (h : zdup2 st κ) : ∃ v w r, st = v :: w :: r ∧ v.category = 1 ∧ w.category = 1 ∧ κ (v :: w :: v :: w :: r) := by
  unfold zdup2 at h
  split at h
  · exact ⟨_, _, _, rfl, h⟩
  · exact h.elim
theorem zifc_x {c : ClassFile.Cond} {pc : Nat} {off : Int} {st : List Value} {J : Nat → List Value → Prop} {κ : List Value → Prop} (h : zifc c pc off st J κ) : ∃ x r, st = .int x :: r ∧ (pc : Int) + off = (((pc : Int) + off).toNat : Int) ∧ (zcmp c x 0 → J ((pc : Int) + off).toNat r) ∧ (¬ zcmp c x 0 → κ r) := by
  unfold zifc at h
  split at h
  · exact ⟨_, _, rfl, h⟩
  · exact h.elim
theorem zicm_x {c : ClassFile.Cond} {pc : Nat} {off : Int} {st : List Value} {J : Nat → List Value → Prop} {κ : List Value → Prop} (h : zicm c pc off st J κ) : ∃ x y r, st = .int y :: .int x :: r ∧ (pc : Int) + off = (((pc : Int) + off).toNat : Int) ∧ (zcmp c x y → J ((pc : Int) + off).toNat r) ∧ (¬ zcmp c x y → κ r) := by
  unfold zicm at h
  split at h
  · exact ⟨_, _, _, rfl, h⟩
  · exact h.elim
theorem zts_x {pc : Nat} {d lo hi : Int} {offs : Array Int} {st : List Value} {J : Nat → List Value → Prop} (h : zts pc d lo hi offs st J) : ∃ x r, st = .int x :: r ∧ (x.toInt < lo ∨ hi < x.toInt → zjmp pc d (fun t => J t r)) ∧ (¬ x.toInt < lo → ¬ hi < x.toInt → ∃ off, offs[(x.toInt - lo).toNat]? = some off ∧ zjmp pc off (fun t => J t r)) := by
  unfold zts at h
  split at h
  · exact ⟨_, _, rfl, h⟩
  · exact h.elim
theorem zlks_x {pc : Nat} {d : Int} {ps : Array (Int × Int)} {st : List Value} {J : Nat → List Value → Prop} (h : zlks pc d ps st J) : ∃ x r, st = .int x :: r ∧ (ps.toList.zip (ps.toList.drop 1)).all (fun (a, next) => a.1 < next.1) = true ∧ zjmp pc (Op.lookupswitch.offset ps.toList d x.toInt) (fun t => J t r) := by
  unfold zlks at h
  split at h
  · exact ⟨_, _, rfl, h⟩
  · exact h.elim
theorem zgf_x {NC ci j : Nat} {M : zM} {st : List Value} {κ : List Value → Prop} (h : zgf NC ci j M st κ) : ∃ k r fs o, st = .ref k :: r ∧ zlay NC k = some (.inl (ci, fs)) ∧ zget fs j = some o ∧ κ ((match o with | some q => .ref q | none => .int (M k j)) :: r) := by
  unfold zgf at h
  split at h
  · split at h
    · obtain ⟨rfl, h⟩ := h
      split at h
      · exact ⟨_, _, _, some _, rfl, by assumption, by assumption, h⟩
      · exact ⟨_, _, _, none, rfl, by assumption, by assumption, h⟩
      · exact h.elim
    · exact h.elim
  · exact h.elim
theorem zpf_x {NC ci j : Nat} {M : zM} {st : List Value} {κ : List Value → zM → Prop} (h : zpf NC ci j M st κ) : ∃ x k r fs, st = .int x :: .ref k :: r ∧ zlay NC k = some (.inl (ci, fs)) ∧ zget fs j = some none ∧ (ci = 1 ∧ j = 8 → x = 0 ∨ x = 1) ∧ κ r (zup M k j x) := by
  unfold zpf at h
  split at h
  · split at h
    · obtain ⟨rfl, h⟩ := h
      split at h
      · exact ⟨_, _, _, _, rfl, by assumption, by assumption, h⟩
      · exact h.elim
    · exact h.elim
  · exact h.elim
theorem zald_x {NC : Nat} {sc : Nat × (Nat → Int32)} {M : zM} {st : List Value} {κ : List Value → Prop} (h : zald NC sc M st κ) : ∃ i k r, st = .int i :: .ref k :: r ∧ ((∃ n qs, zlay NC k = some (.inr (n, .int, qs)) ∧ vp_in i n ∧ κ (.int (M k i.toNatClampNeg) :: r)) ∨ (100 ≤ k ∧ k ≤ 103 ∧ vp_in i (zro sc k).1 ∧ κ (.int ((zro sc k).2 i.toNatClampNeg) :: r))) := by
  unfold zald at h
  split at h
  · split at h
    · exact ⟨_, _, _, rfl, Or.inl ⟨_, _, by assumption, h⟩⟩
    · exact ⟨_, _, _, rfl, Or.inr h⟩
    · exact h.elim
  · exact h.elim
theorem zbld_x {NC : Nat} {M : zM} {st : List Value} {κ : List Value → Prop} (h : zbld NC M st κ) : ∃ i k r n ty qs, st = .int i :: .ref k :: r ∧ zlay NC k = some (.inr (n, ty, qs)) ∧ (ty = .byte ∨ ty = .boolean) ∧ vp_in i n ∧ κ (.int (M k i.toNatClampNeg) :: r) := by
  unfold zbld at h
  split at h
  · split at h
    · exact ⟨_, _, _, _, _, _, rfl, by assumption, Or.inl rfl, h⟩
    · exact ⟨_, _, _, _, _, _, rfl, by assumption, Or.inr rfl, h⟩
    · exact h.elim
  · exact h.elim
theorem zast_x {NC : Nat} {M : zM} {st : List Value} {κ : List Value → zM → Prop} (h : zast NC M st κ) : ∃ x i k r n qs, st = .int x :: .int i :: .ref k :: r ∧ zlay NC k = some (.inr (n, .int, qs)) ∧ vp_in i n ∧ κ r (zup M k i.toNatClampNeg x) := by
  unfold zast at h
  split at h
  · split at h
    · exact ⟨_, _, _, _, _, _, rfl, by assumption, h⟩
    · exact h.elim
  · exact h.elim
theorem zbst_x {NC : Nat} {M : zM} {st : List Value} {κ : List Value → zM → Prop} (h : zbst NC M st κ) : ∃ x i k r n ty qs, st = .int x :: .int i :: .ref k :: r ∧ zlay NC k = some (.inr (n, ty, qs)) ∧ (ty = .byte ∨ ty = .boolean) ∧ vp_in i n ∧ κ r (zup M k i.toNatClampNeg (vp_nar ty x)) := by
  unfold zbst at h
  split at h
  · split at h
    · exact ⟨_, _, _, _, _, _, _, rfl, by assumption, Or.inl rfl, h⟩
    · exact ⟨_, _, _, _, _, _, _, rfl, by assumption, Or.inr rfl, h⟩
    · exact h.elim
  · exact h.elim
theorem zrld_x {NC : Nat} {st : List Value} {κ : List Value → Prop} (h : zrld NC st κ) : ∃ i k r n C qs q, st = .int i :: .ref k :: r ∧ zlay NC k = some (.inr (n, .object C, qs)) ∧ vp_in i n ∧ zget qs i.toNatClampNeg = some q ∧ κ (.ref q :: r) := by
  unfold zrld at h
  split at h
  · split at h
    · obtain ⟨h1, h2⟩ := h
      split at h2
      · exact ⟨_, _, _, _, _, _, _, rfl, by assumption, h1, by assumption, h2⟩
      · exact h2.elim
    · exact h.elim
  · exact h.elim
theorem zlen_x {NC : Nat} {sc : Nat × (Nat → Int32)} {st : List Value} {κ : List Value → Prop} (h : zlen NC sc st κ) : ∃ k r, st = .ref k :: r ∧ ((∃ n ty qs, zlay NC k = some (.inr (n, ty, qs)) ∧ κ (.int (Int32.ofNat n) :: r)) ∨ (100 ≤ k ∧ k ≤ 103 ∧ κ (.int (Int32.ofNat (zro sc k).1) :: r))) := by
  unfold zlen at h
  split at h
  · split at h
    · exact ⟨_, _, rfl, Or.inl ⟨_, _, _, by assumption, h⟩⟩
    · exact ⟨_, _, rfl, Or.inr h⟩
    · exact h.elim
  · exact h.elim
theorem zcs_x {I : Nat → Option zI} {C : Nat → List Value → zM → Option Value → zM → Prop} {a : Nat} {st : List Value} {M : zM} {κ : List Value → zM → Prop} (h : zcs I C a st M κ) : ∃ i as r v M', I a = some i ∧ i.2.2.2.2.2.1 = true ∧ zpop i.2.2.2.2.2.2.2.1 [] st = some (as, r) ∧ zslots r ≤ 8 ∧ C a as M v M' ∧ κ (v.toList ++ r) M' := by
  unfold zcs at h
  split at h
  · obtain ⟨h0, h⟩ := h
    split at h
    · obtain ⟨h1, v, M', h2, h3⟩ := h
      exact ⟨_, _, _, v, M', by assumption, h0, by assumption, h1, h2, h3⟩
    · exact h.elim
  · exact h.elim
theorem zcv_x {NC : Nat} {I : Nat → Option zI} {C : Nat → List Value → zM → Option Value → zM → Prop} {a : Nat} {st : List Value} {M : zM} {κ : List Value → zM → Prop} (h : zcv NC I C a st M κ) : ∃ i as k r fs v M', I a = some i ∧ i.2.2.2.2.2.1 = false ∧ zpop i.2.2.2.2.2.2.2.1 [] st = some (as, .ref k :: r) ∧ zslots r ≤ 8 ∧ zlay NC k = some (.inl (i.2.2.2.2.2.2.1, fs)) ∧ C a (.ref k :: as) M v M' ∧ κ (v.toList ++ r) M' := by
  unfold zcv at h
  split at h
  · obtain ⟨h0, h⟩ := h
    split at h
    · obtain ⟨h1, h⟩ := h
      split at h
      · obtain ⟨h2, v, M', h3, h4⟩ := h
        subst h2
        exact ⟨_, _, _, _, _, v, M', by assumption, h0, by assumption, h1, by assumption, h3, h4⟩
      · exact h.elim
    · exact h.elim
  · exact h.elim
