/-! a local that is forgotten (null) may hold anything -/
def zsub : List Value → List Value → Prop
  | [], [] => True
  | a :: r, b :: s => (a = b ∨ a = .null) ∧ zsub r s
  | _, _ => False
theorem zsub_rf : ∀ L : List Value, zsub L L
  | [] => trivial
  | _ :: r => ⟨Or.inl rfl, zsub_rf r⟩
theorem zsub_len : ∀ {A L : List Value}, zsub A L → A.length = L.length
  | [], [], _ => rfl
  | _ :: r, _ :: s, h => by simp [zsub_len h.2]
  | [], _ :: _, h => h.elim
  | _ :: _, [], h => h.elim
theorem zsub_get {v : Value} (hv : ¬ v = .null) : ∀ {A L : List Value} {i : Nat}, zsub A L → zget A i = some v → zget L i = some v
  | [], [], _, _, h => h
  | a :: r, b :: s, 0, h, g => by
    simp only [zget, Option.some.injEq] at g ⊢
    rcases h.1 with e | e
    · rw [← e]; exact g
    · exact absurd (g.symm.trans e) hv
  | _ :: r, _ :: s, i + 1, h, g => zsub_get hv (A := r) (L := s) (i := i) h.2 g
  | [], _ :: _, _, h, _ => h.elim
  | _ :: _, [], _, h, _ => h.elim
theorem zsub_sl (v : Value) : ∀ {A L : List Value} {i : Nat}, zsub A L → zsub (zsl A i v) (zsl L i v)
  | [], [], _, _ => by simp [zsl, zsub]
  | a :: r, b :: s, 0, h => ⟨Or.inl rfl, h.2⟩
  | a :: r, b :: s, i + 1, h => by
    have ih := zsub_sl v (A := r) (L := s) (i := i) h.2
    rcases h.1 with e | e
    · subst e
      rcases zsl_cons a r i v with e1 | ⟨e1, n1⟩ <;> rcases zsl_cons a s i v with e2 | ⟨e2, n2⟩
      · rw [e1, e2]; exact ⟨Or.inl rfl, ih⟩
      · rw [e1, e2]; exact ⟨Or.inr rfl, ih⟩
      · cases a <;> cases i <;> first | (rw [e1, e2]; exact ⟨Or.inl rfl, ih⟩) | (exfalso; simp [zsl] at e2; done) | (exfalso; simp [Value.category] at n1; done)
      · rw [e1, e2]; exact ⟨Or.inl rfl, ih⟩
    · subst e
      rcases zsl_cons b s i v with e2 | ⟨e2, n2⟩
      · rw [e2]; cases i <;> exact ⟨Or.inl rfl, ih⟩
      · rw [e2]; cases i <;> exact ⟨Or.inr rfl, ih⟩
  | [], _ :: _, _, h => h.elim
  | _ :: _, [], _, h => h.elim
section ZM
variable {NC : Nat} {sc : Nat × (Nat → Int32)} {C : Nat → List Value → zM → Option Value → zM → Prop} {J J' : Nat → List Value → List Value → zM → Prop} {fin : Option Value → zM → Prop} {κ κ' : List Value → List Value → zM → Prop}
set_option maxHeartbeats 2000000 in
theorem zop_forget (hJ0 : ∀ t A L st M, J t A st M → zsub A L → J' t L st M) (hκ0 : ∀ A L st M, κ A st M → zsub A L → κ' L st M) {E : zE} {A L st : List Value} {M : zM} (hs : zsub A L) (h : zop NC sc zinfo C J fin κ E A st M) : zop NC sc zinfo C J' fin κ' E L st M := by
  have hκ : ∀ st M, κ A st M → κ' L st M := fun st M h => hκ0 A L st M h hs
  have hJ : ∀ t st M, J t A st M → J' t L st M := fun t st M h => hJ0 t A L st M h hs
  obtain ⟨pc, i, len, a, b, t⟩ := E
  cases i
  all_goals (try dsimp only [zop] at h ⊢)
  case iconst n => exact hκ _ _ h
  case bipush n => exact hκ _ _ h
  case sipush n => exact hκ _ _ h
  case ldc n => exact hκ _ _ h
  case ldc_w n => exact hκ _ _ h
  case ldc2_w n => exact hκ _ _ h
  case iload_n i =>
    obtain ⟨x, h1, h2⟩ := zldI_x h
    unfold zldI
    rw [zsub_get (by simp) hs h1]
    exact hκ _ _ h2
  case iload i =>
    obtain ⟨x, h1, h2⟩ := zldI_x h
    unfold zldI
    rw [zsub_get (by simp) hs h1]
    exact hκ _ _ h2
  case lload_n i =>
    obtain ⟨x, h1, h2⟩ := zldJ_x h
    unfold zldJ
    rw [zsub_get (by simp) hs h1]
    exact hκ _ _ h2
  case aload_n i =>
    obtain ⟨x, h1, h2⟩ := zldA_x h
    unfold zldA
    rw [zsub_get (by simp) hs h1]
    exact hκ _ _ h2
  case aload i =>
    obtain ⟨x, h1, h2⟩ := zldA_x h
    unfold zldA
    rw [zsub_get (by simp) hs h1]
    exact hκ _ _ h2
  case istore_n i =>
    obtain ⟨x, r, rfl, h1, h2⟩ := zstI_x h
    exact ⟨by rw [← zsub_len hs]; exact h1, hκ0 _ _ _ _ h2 (zsub_sl _ hs)⟩
  case istore i =>
    obtain ⟨x, r, rfl, h1, h2⟩ := zstI_x h
    exact ⟨by rw [← zsub_len hs]; exact h1, hκ0 _ _ _ _ h2 (zsub_sl _ hs)⟩
  case astore_n i =>
    obtain ⟨x, r, rfl, h1, h2⟩ := zstA_x h
    exact ⟨by rw [← zsub_len hs]; exact h1, hκ0 _ _ _ _ h2 (zsub_sl _ hs)⟩
  case astore i =>
    obtain ⟨x, r, rfl, h1, h2⟩ := zstA_x h
    exact ⟨by rw [← zsub_len hs]; exact h1, hκ0 _ _ _ _ h2 (zsub_sl _ hs)⟩
  case iinc i n =>
    obtain ⟨x, h0, h1, h2⟩ := zinc_x h
    unfold zinc
    rw [zsub_get (by simp) hs h0]
    exact ⟨by rw [← zsub_len hs]; exact h1, hκ0 _ _ _ _ h2 (zsub_sl _ hs)⟩
  case iadd =>
    obtain ⟨x, y, r, rfl, h1⟩ := zb2_x h
    exact hκ _ _ h1
  case isub =>
    obtain ⟨x, y, r, rfl, h1⟩ := zb2_x h
    exact hκ _ _ h1
  case imul =>
    obtain ⟨x, y, r, rfl, h1⟩ := zb2_x h
    exact hκ _ _ h1
  case iand =>
    obtain ⟨x, y, r, rfl, h1⟩ := zb2_x h
    exact hκ _ _ h1
  case ior =>
    obtain ⟨x, y, r, rfl, h1⟩ := zb2_x h
    exact hκ _ _ h1
  case ixor =>
    obtain ⟨x, y, r, rfl, h1⟩ := zb2_x h
    exact hκ _ _ h1
  case ishl =>
    obtain ⟨x, y, r, rfl, h1⟩ := zb2_x h
    exact hκ _ _ h1
  case ishr =>
    obtain ⟨x, y, r, rfl, h1⟩ := zb2_x h
    exact hκ _ _ h1
  case iushr =>
    obtain ⟨x, y, r, rfl, h1⟩ := zb2_x h
    exact hκ _ _ h1
  case ineg =>
    obtain ⟨x, r, rfl, h1⟩ := zu1_x h
    exact hκ _ _ h1
  case i2b =>
    obtain ⟨x, r, rfl, h1⟩ := zu1_x h
    exact hκ _ _ h1
  case i2l =>
    obtain ⟨x, r, rfl, h1⟩ := zi2l_x h
    exact hκ _ _ h1
  case l2i =>
    obtain ⟨x, r, rfl, h1⟩ := zl2i_x h
    exact hκ _ _ h1
  case land =>
    obtain ⟨x, y, r, rfl, h1⟩ := zl2_x h
    exact hκ _ _ h1
  case lor =>
    obtain ⟨x, y, r, rfl, h1⟩ := zl2_x h
    exact hκ _ _ h1
  case lshl =>
    obtain ⟨x, y, r, rfl, h1⟩ := zls_x h
    exact hκ _ _ h1
  case lshr =>
    obtain ⟨x, y, r, rfl, h1⟩ := zls_x h
    exact hκ _ _ h1
  case lushr =>
    obtain ⟨x, y, r, rfl, h1⟩ := zls_x h
    exact hκ _ _ h1
  case irem =>
    obtain ⟨x, y, r, rfl, h0, h1⟩ := zrem_x h
    exact ⟨h0, hκ _ _ h1⟩
  case dup =>
    obtain ⟨v, r, rfl, h0, h1⟩ := zdup_x h
    exact ⟨h0, hκ _ _ h1⟩
  case dup2 =>
    obtain ⟨v, w, r, rfl, h0, h1, h2⟩ := zdup2_x h
    exact ⟨h0, h1, hκ _ _ h2⟩
  case goto off => exact zjmp_m h (fun t => hJ _ _ _)
  case ifCond cd off =>
    obtain ⟨x, r, rfl, h0, h1, h2⟩ := zifc_x h
    exact ⟨h0, fun q => hJ _ _ _ (h1 q), fun q => hκ _ _ (h2 q)⟩
  case if_icmp cd off =>
    obtain ⟨x, y, r, rfl, h0, h1, h2⟩ := zicm_x h
    exact ⟨h0, fun q => hJ _ _ _ (h1 q), fun q => hκ _ _ (h2 q)⟩
  case tableswitch df lo hi offs =>
    obtain ⟨x, r, rfl, h1, h2⟩ := zts_x h
    exact ⟨fun q => zjmp_m (h1 q) (fun t => hJ _ _ _), fun q1 q2 => by
      obtain ⟨off, h3, h4⟩ := h2 q1 q2
      exact ⟨off, h3, zjmp_m h4 (fun t => hJ _ _ _)⟩⟩
  case lookupswitch df ps =>
    obtain ⟨x, r, rfl, h1, h2⟩ := zlks_x h
    exact ⟨h1, zjmp_m h2 (fun t => hJ _ _ _)⟩
  case getfield ix =>
    obtain ⟨k, r, fs, q, rfl, h1, h2, h3⟩ := zgf_x h
    unfold zgf
    dsimp only
    rw [h1]
    refine ⟨rfl, ?_⟩
    rw [h2]
    cases q <;> exact hκ _ _ h3
  case putfield ix =>
    obtain ⟨x, k, r, fs, rfl, h1, h2, h4, h3⟩ := zpf_x h
    unfold zpf
    dsimp only
    rw [h1]
    refine ⟨rfl, ?_⟩
    rw [h2]
    exact ⟨h4, hκ _ _ h3⟩
  case getstatic ix => exact ⟨h.1, hκ _ _ h.2⟩
  case iaload =>
    have h0 : zald NC sc M st (fun r => κ A r M) := h
    show zald NC sc M st (fun r => κ' L r M)
    unfold zald at h0 ⊢
    split at h0
    · split at h0
      · exact ⟨h0.1, hκ _ _ h0.2⟩
      · exact ⟨h0.1, h0.2.1, h0.2.2.1, hκ _ _ h0.2.2.2⟩
      · exact h0.elim
    · exact h0.elim
  case baload =>
    have h0 : zbld NC M st (fun r => κ A r M) := h
    show zbld NC M st (fun r => κ' L r M)
    unfold zbld at h0 ⊢
    split at h0
    · split at h0
      · exact ⟨h0.1, hκ _ _ h0.2⟩
      · exact ⟨h0.1, hκ _ _ h0.2⟩
      · exact h0.elim
    · exact h0.elim
  case iastore =>
    have h0 : zast NC M st (fun r M' => κ A r M') := h
    show zast NC M st (fun r M' => κ' L r M')
    unfold zast at h0 ⊢
    split at h0
    · split at h0
      · exact ⟨h0.1, hκ _ _ h0.2⟩
      · exact h0.elim
    · exact h0.elim
  case bastore =>
    have h0 : zbst NC M st (fun r M' => κ A r M') := h
    show zbst NC M st (fun r M' => κ' L r M')
    unfold zbst at h0 ⊢
    split at h0
    · split at h0
      · exact ⟨h0.1, hκ _ _ h0.2⟩
      · exact ⟨h0.1, hκ _ _ h0.2⟩
      · exact h0.elim
    · exact h0.elim
  case aaload =>
    have h0 : zrld NC st (fun r => κ A r M) := h
    show zrld NC st (fun r => κ' L r M)
    unfold zrld at h0 ⊢
    split at h0
    · split at h0
      · refine ⟨h0.1, ?_⟩
        have h1 := h0.2
        split at h1
        · exact hκ _ _ h1
        · exact h1.elim
      · exact h0.elim
    · exact h0.elim
  case arraylength =>
    have h0 : zlen NC sc st (fun r => κ A r M) := h
    show zlen NC sc st (fun r => κ' L r M)
    unfold zlen at h0 ⊢
    split at h0
    · split at h0
      · exact hκ _ _ h0
      · exact ⟨h0.1, h0.2.1, hκ _ _ h0.2.2⟩
      · exact h0.elim
    · exact h0.elim
  case invokestatic ix =>
    have h0 : (bif Nat.beq a 88 then zmx st (fun st' => κ A st' M) else zcs zinfo C a st M (fun r M' => κ A r M')) := h
    show (bif Nat.beq a 88 then zmx st (fun st' => κ' L st' M) else zcs zinfo C a st M (fun r M' => κ' L r M'))
    cases h88 : Nat.beq a 88 with
    | true =>
      rw [h88] at h0
      have h0' : zmx st (fun st' => κ A st' M) := h0
      obtain ⟨x, y, r, rfl, h1, h2⟩ := zmx_x h0'
      exact ⟨h1, hκ _ _ h2⟩
    | false =>
      rw [h88] at h0
      have h0' : zcs zinfo C a st M (fun r M' => κ A r M') := h0
      obtain ⟨i, as, r, v, M', hi, hst, hpop, hsl, hCk, h3⟩ := zcs_x h0'
      show zcs zinfo C a st M (fun r M' => κ' L r M')
      unfold zcs
      rw [hi]
      refine ⟨hst, ?_⟩
      rw [hpop]
      exact ⟨hsl, v, M', hCk, hκ _ _ h3⟩
  case invokevirtual ix =>
    obtain ⟨i, as, k, r, fs, v, M', hi, hst, hpop, hsl, hly, hCk, h3⟩ := zcv_x h
    unfold zcv
    rw [hi]
    refine ⟨hst, ?_⟩
    rw [hpop]
    refine ⟨hsl, ?_⟩
    rw [hly]
    exact ⟨rfl, v, M', hCk, hκ _ _ h3⟩
  case ireturn => exact h
  case areturn => exact h
  case return_ => exact h
  all_goals exact h.elim
theorem zwp_forget {np : Nat} (hJ : ∀ t A L st M, J t A st M → zsub A L → J' t L st M) : ∀ (es : List zE) (A L st : List Value) (M : zM), zsub A L → zwp NC sc zinfo C J fin np es A st M → zwp NC sc zinfo C J' fin np es L st M := by
  intro es
  induction es with
  | nil => intro A L st M hs h; exact hJ _ _ _ _ _ h hs
  | cons E es ih => intro A L st M hs h; exact zop_forget hJ (fun A L st M h hs => ih A L st M hs h) hs h
end ZM
theorem zK.forget {NC : Nat} {sc : Nat × (Nat → Int32)} {C : Nat → List Value → zM → Option Value → zM → Prop} {k : Nat} {r : Option Value} {M' : zM} {pc : Nat} (A : List Value) {L st : List Value} {M : zM} (hs : zsub A L) (h : zK NC sc C k r M' pc A st M) : zK NC sc C k r M' pc L st M := by
  refine h (fun pc A st M => ∀ L, zsub A L → zK NC sc C k r M' pc L st M) ?_ L hs
  intro pc A st M es np hb hw L hs
  exact zK.blk hb (zwp_forget (fun t A L st M hj hs => hj L hs) es A L st M hs hw)
