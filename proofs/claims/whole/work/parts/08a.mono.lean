/-! steps of the pure machine, goal first -/
section ZM
variable {NC : Nat} {sc : Nat × (Nat → Int32)} {C : Nat → List Value → zM → Option Value → zM → Prop} {J J' : Nat → List Value → List Value → zM → Prop} {fin : Option Value → zM → Prop} {κ κ' : List Value → List Value → zM → Prop}
theorem zjmp_m {pc : Nat} {off : Int} {J J' : Nat → Prop} (h : zjmp pc off J) (hJ : ∀ t, J t → J' t) : zjmp pc off J' := ⟨h.1, hJ _ h.2⟩
set_option maxHeartbeats 2000000 in
theorem zop_mono (hJ : ∀ t L st M, J t L st M → J' t L st M) (hκ : ∀ L st M, κ L st M → κ' L st M) {E : zE} {L st : List Value} {M : zM} (h : zop NC sc zinfo C J fin κ E L st M) : zop NC sc zinfo C J' fin κ' E L st M := by
  obtain ⟨pc, i, len, a, b, t⟩ := E
  cases i
  all_goals (try dsimp only [zop] at h ⊢)
  case iconst n => exact hκ _ _ _ h
  case bipush n => exact hκ _ _ _ h
  case sipush n => exact hκ _ _ _ h
  case ldc n => exact hκ _ _ _ h
  case ldc_w n => exact hκ _ _ _ h
  case ldc2_w n => exact hκ _ _ _ h
  case iload_n i =>
    obtain ⟨x, h1, h2⟩ := zldI_x h
    unfold zldI
    rw [h1]
    exact hκ _ _ _ h2
  case iload i =>
    obtain ⟨x, h1, h2⟩ := zldI_x h
    unfold zldI
    rw [h1]
    exact hκ _ _ _ h2
  case lload_n i =>
    obtain ⟨x, h1, h2⟩ := zldJ_x h
    unfold zldJ
    rw [h1]
    exact hκ _ _ _ h2
  case aload_n i =>
    obtain ⟨x, h1, h2⟩ := zldA_x h
    unfold zldA
    rw [h1]
    exact hκ _ _ _ h2
  case aload i =>
    obtain ⟨x, h1, h2⟩ := zldA_x h
    unfold zldA
    rw [h1]
    exact hκ _ _ _ h2
  case istore_n i =>
    obtain ⟨x, r, rfl, h1, h2⟩ := zstI_x h
    exact ⟨h1, hκ _ _ _ h2⟩
  case istore i =>
    obtain ⟨x, r, rfl, h1, h2⟩ := zstI_x h
    exact ⟨h1, hκ _ _ _ h2⟩
  case astore_n i =>
    obtain ⟨x, r, rfl, h1, h2⟩ := zstA_x h
    exact ⟨h1, hκ _ _ _ h2⟩
  case astore i =>
    obtain ⟨x, r, rfl, h1, h2⟩ := zstA_x h
    exact ⟨h1, hκ _ _ _ h2⟩
  case iinc i n =>
    obtain ⟨x, h0, h1, h2⟩ := zinc_x h
    unfold zinc
    rw [h0]
    exact ⟨h1, hκ _ _ _ h2⟩
  case iadd =>
    obtain ⟨x, y, r, rfl, h1⟩ := zb2_x h
    exact hκ _ _ _ h1
  case isub =>
    obtain ⟨x, y, r, rfl, h1⟩ := zb2_x h
    exact hκ _ _ _ h1
  case imul =>
    obtain ⟨x, y, r, rfl, h1⟩ := zb2_x h
    exact hκ _ _ _ h1
  case iand =>
    obtain ⟨x, y, r, rfl, h1⟩ := zb2_x h
    exact hκ _ _ _ h1
  case ior =>
    obtain ⟨x, y, r, rfl, h1⟩ := zb2_x h
    exact hκ _ _ _ h1
  case ixor =>
    obtain ⟨x, y, r, rfl, h1⟩ := zb2_x h
    exact hκ _ _ _ h1
  case ishl =>
    obtain ⟨x, y, r, rfl, h1⟩ := zb2_x h
    exact hκ _ _ _ h1
  case ishr =>
    obtain ⟨x, y, r, rfl, h1⟩ := zb2_x h
    exact hκ _ _ _ h1
  case iushr =>
    obtain ⟨x, y, r, rfl, h1⟩ := zb2_x h
    exact hκ _ _ _ h1
  case ineg =>
    obtain ⟨x, r, rfl, h1⟩ := zu1_x h
    exact hκ _ _ _ h1
  case i2b =>
    obtain ⟨x, r, rfl, h1⟩ := zu1_x h
    exact hκ _ _ _ h1
  case i2l =>
    obtain ⟨x, r, rfl, h1⟩ := zi2l_x h
    exact hκ _ _ _ h1
  case l2i =>
    obtain ⟨x, r, rfl, h1⟩ := zl2i_x h
    exact hκ _ _ _ h1
  case land =>
    obtain ⟨x, y, r, rfl, h1⟩ := zl2_x h
    exact hκ _ _ _ h1
  case lor =>
    obtain ⟨x, y, r, rfl, h1⟩ := zl2_x h
    exact hκ _ _ _ h1
  case lshl =>
    obtain ⟨x, y, r, rfl, h1⟩ := zls_x h
    exact hκ _ _ _ h1
  case lshr =>
    obtain ⟨x, y, r, rfl, h1⟩ := zls_x h
    exact hκ _ _ _ h1
  case lushr =>
    obtain ⟨x, y, r, rfl, h1⟩ := zls_x h
    exact hκ _ _ _ h1
  case irem =>
    obtain ⟨x, y, r, rfl, h0, h1⟩ := zrem_x h
    exact ⟨h0, hκ _ _ _ h1⟩
  case dup =>
    obtain ⟨v, r, rfl, h0, h1⟩ := zdup_x h
    exact ⟨h0, hκ _ _ _ h1⟩
  case dup2 =>
    obtain ⟨v, w, r, rfl, h0, h1, h2⟩ := zdup2_x h
    exact ⟨h0, h1, hκ _ _ _ h2⟩
  case goto off => exact zjmp_m h (fun t => hJ _ _ _ _)
  case ifCond cd off =>
    obtain ⟨x, r, rfl, h0, h1, h2⟩ := zifc_x h
    exact ⟨h0, fun q => hJ _ _ _ _ (h1 q), fun q => hκ _ _ _ (h2 q)⟩
  case if_icmp cd off =>
    obtain ⟨x, y, r, rfl, h0, h1, h2⟩ := zicm_x h
    exact ⟨h0, fun q => hJ _ _ _ _ (h1 q), fun q => hκ _ _ _ (h2 q)⟩
  case tableswitch df lo hi offs =>
    obtain ⟨x, r, rfl, h1, h2⟩ := zts_x h
    exact ⟨fun q => zjmp_m (h1 q) (fun t => hJ _ _ _ _), fun q1 q2 => by
      obtain ⟨off, h3, h4⟩ := h2 q1 q2
      exact ⟨off, h3, zjmp_m h4 (fun t => hJ _ _ _ _)⟩⟩
  case lookupswitch df ps =>
    obtain ⟨x, r, rfl, h1, h2⟩ := zlks_x h
    exact ⟨h1, zjmp_m h2 (fun t => hJ _ _ _ _)⟩
  case getfield ix =>
    obtain ⟨k, r, fs, q, rfl, h1, h2, h3⟩ := zgf_x h
    unfold zgf
    dsimp only
    rw [h1]
    refine ⟨rfl, ?_⟩
    rw [h2]
    cases q <;> exact hκ _ _ _ h3
  case putfield ix =>
    obtain ⟨x, k, r, fs, rfl, h1, h2, h4, h3⟩ := zpf_x h
    unfold zpf
    dsimp only
    rw [h1]
    refine ⟨rfl, ?_⟩
    rw [h2]
    exact ⟨h4, hκ _ _ _ h3⟩
  case getstatic ix => exact ⟨h.1, hκ _ _ _ h.2⟩
  case iaload =>
    have h0 : zald NC sc M st (fun r => κ L r M) := h
    show zald NC sc M st (fun r => κ' L r M)
    unfold zald at h0 ⊢
    split at h0
    · split at h0
      · exact ⟨h0.1, hκ _ _ _ h0.2⟩
      · exact ⟨h0.1, h0.2.1, h0.2.2.1, hκ _ _ _ h0.2.2.2⟩
      · exact h0.elim
    · exact h0.elim
  case baload =>
    have h0 : zbld NC M st (fun r => κ L r M) := h
    show zbld NC M st (fun r => κ' L r M)
    unfold zbld at h0 ⊢
    split at h0
    · split at h0
      · exact ⟨h0.1, hκ _ _ _ h0.2⟩
      · exact ⟨h0.1, hκ _ _ _ h0.2⟩
      · exact h0.elim
    · exact h0.elim
  case iastore =>
    have h0 : zast NC M st (fun r M' => κ L r M') := h
    show zast NC M st (fun r M' => κ' L r M')
    unfold zast at h0 ⊢
    split at h0
    · split at h0
      · exact ⟨h0.1, hκ _ _ _ h0.2⟩
      · exact h0.elim
    · exact h0.elim
  case bastore =>
    have h0 : zbst NC M st (fun r M' => κ L r M') := h
    show zbst NC M st (fun r M' => κ' L r M')
    unfold zbst at h0 ⊢
    split at h0
    · split at h0
      · exact ⟨h0.1, hκ _ _ _ h0.2⟩
      · exact ⟨h0.1, hκ _ _ _ h0.2⟩
      · exact h0.elim
    · exact h0.elim
  case aaload =>
    have h0 : zrld NC st (fun r => κ L r M) := h
    show zrld NC st (fun r => κ' L r M)
    unfold zrld at h0 ⊢
    split at h0
    · split at h0
      · refine ⟨h0.1, ?_⟩
        have h1 := h0.2
        split at h1
        · exact hκ _ _ _ h1
        · exact h1.elim
      · exact h0.elim
    · exact h0.elim
  case arraylength =>
    have h0 : zlen NC sc st (fun r => κ L r M) := h
    show zlen NC sc st (fun r => κ' L r M)
    unfold zlen at h0 ⊢
    split at h0
    · split at h0
      · exact hκ _ _ _ h0
      · exact ⟨h0.1, h0.2.1, hκ _ _ _ h0.2.2⟩
      · exact h0.elim
    · exact h0.elim
  case invokestatic ix =>
    have h0 : (bif Nat.beq a 88 then zmx st (fun st' => κ L st' M) else zcs zinfo C a st M (fun r M' => κ L r M')) := h
    show (bif Nat.beq a 88 then zmx st (fun st' => κ' L st' M) else zcs zinfo C a st M (fun r M' => κ' L r M'))
    cases h88 : Nat.beq a 88 with
    | true =>
      rw [h88] at h0
      have h0' : zmx st (fun st' => κ L st' M) := h0
      obtain ⟨x, y, r, rfl, h1, h2⟩ := zmx_x h0'
      exact ⟨h1, hκ _ _ _ h2⟩
    | false =>
      rw [h88] at h0
      have h0' : zcs zinfo C a st M (fun r M' => κ L r M') := h0
      obtain ⟨i, as, r, v, M', hi, hst, hpop, hsl, hCk, h3⟩ := zcs_x h0'
      show zcs zinfo C a st M (fun r M' => κ' L r M')
      unfold zcs
      rw [hi]
      refine ⟨hst, ?_⟩
      rw [hpop]
      exact ⟨hsl, v, M', hCk, hκ _ _ _ h3⟩
  case invokevirtual ix =>
    obtain ⟨i, as, k, r, fs, v, M', hi, hst, hpop, hsl, hly, hCk, h3⟩ := zcv_x h
    unfold zcv
    rw [hi]
    refine ⟨hst, ?_⟩
    rw [hpop]
    refine ⟨hsl, ?_⟩
    rw [hly]
    exact ⟨rfl, v, M', hCk, hκ _ _ _ h3⟩
  case ireturn => exact h
  case areturn => exact h
  case return_ => exact h
  all_goals exact h.elim
theorem zwp_mono {np : Nat} (hJ : ∀ t L st M, J t L st M → J' t L st M) : ∀ (es : List zE) (L st : List Value) (M : zM), zwp NC sc zinfo C J fin np es L st M → zwp NC sc zinfo C J' fin np es L st M := by
  intro es
  induction es with
  | nil => intro L st M h; exact hJ _ _ _ _ h
  | cons E es ih => intro L st M h; exact zop_mono hJ (fun L st M h => ih L st M h) h
end ZM
abbrev zfin (k : Nat) (r : Option Value) (M' : zM) : Option Value → zM → Prop := fun v M1 => zfit k v ∧ v = r ∧ M1 = M'
theorem zK.blk {NC : Nat} {sc : Nat × (Nat → Int32)} {C : Nat → List Value → zM → Option Value → zM → Prop} {k : Nat} {r : Option Value} {M' : zM} {pc np : Nat} {es : List zE} {L st : List Value} {M : zM} (hb : zblk k pc = some (es, np)) (h : zwp NC sc zinfo C (zK NC sc C k r M') (zfin k r M') np es L st M) : zK NC sc C k r M' pc L st M := by
  intro P hP
  exact hP pc L st M es np hb (zwp_mono (fun t L st M hz => hz P hP) es L st M h)
theorem z_enter {NC : Nat} {sc : Nat × (Nat → Int32)} {d k : Nat} {as L : List Value} {r : Option Value} {M M' : zM} {i : zI} (hi : zinfo k = some i) (hl : Nat.ble (zlo as).length i.2.2.2.1 = true) (hL : zpad i.2.2.2.1 (zlo as) = L) (h : zK NC sc (zC NC sc d) k r M' 0 L [] M) : zC NC sc (d + 1) k as M r M' := by
  simp only [zC]
  rw [hi]
  exact ⟨hl, by rw [hL]; exact h⟩
