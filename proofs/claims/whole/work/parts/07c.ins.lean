section ZS
variable {p : Program} {l : Launch} {e : Env} {R : Room} {s : State} {m : MethodId} {args : Array Value} {below : List Frame} {meth : Method} {c : Code} {cells slots : Nat} {Q : State → Prop}
variable {dC : Nat → ClassId} {dI : Nat → Nat → Nat} {ad : Nat → Nat} {cA : Nat → ClassId} {NC : Nat} {sc : Nat × (Nat → Int32)} {A : Nat → Prop}
/-- a state of the pure machine, and the machine's -/
def zcon (s : State) (dC : Nat → ClassId) (dI : Nat → Nat → Nat) (ad : Nat → Nat) (cA : Nat → ClassId) (NC : Nat) (A : Nat → Prop) (nL : Nat) (L : List Value) (M : zM) (ls : Array Slot) (H : Heap) (locs : List Loc) : Prop :=
  L.length = nL ∧ lv_has ls nL (zpr ad 0 L) ∧ va_P (dC, dI) vwCl (zwd NC ad cA M) H ∧ va_D A (zwd NC ad cA M) ∧ va_S A s.heap H locs
theorem zcon.at {nL i : Nat} {L : List Value} {M : zM} {ls : Array Slot} {H : Heap} {locs : List Loc} {v : Value} (h : zcon s dC dI ad cA NC A nL L M ls H locs) (hg : zget L i = some v) (hv : ¬ v = .null) : ls[i]? = some (.val (ztr ad v)) := by
  have := h.2.1.2.2 _ (zpr_get (ad := ad) hv L 0 i hg)
  rwa [Nat.zero_add] at this
theorem zcon.store {nL i : Nat} {L : List Value} {M : zM} {ls ls' : Array Slot} {H : Heap} {locs : List Loc} {v : Value} (h : zcon s dC dI ad cA NC A nL L M ls H locs) (hv : ¬ v = .null) (h2 : lv_has ls' nL ((i, ztr ad v) :: (zpr ad 0 L).filter (fun q => !(q.1 == i) && !(q.1 + 1 == i && q.2.category == 2)))) : zcon s dC dI ad cA NC A nL (zsl L i v) M ls' H locs :=
  ⟨by rw [zsl_length]; exact h.1, zhas_store hv h2, h.2.2⟩
theorem zcall {pc : Nat} {ls : Array Slot} {rest st0 : List Value} {a : Array Value} {A1 free : Nat → Prop} {H : Heap} {locs : List Loc} {r : Option Value} {M' : zM} (hr : va_Run p l e R s m args below meth c H locs cells slots 0 0 (F0 m pc ls st0) rest (zQ dC dI ad cA NC r M' A1 a) free) (hS : va_S A s.heap H locs) (hA1 : ∀ q, A1 q → A q) (hf : ∀ q, free q → A q)
    (kk : ∀ (H1 : Heap) (locs1 : List Loc), va_P (dC, dI) vwCl (zwd NC ad cA M') H1 → va_D A (zwd NC ad cA M') → va_S A s.heap H1 locs1 → W p l e R s m args below meth c H1 locs1 cells slots Q (F0 m (pc + 3) ls ((r.map (ztr ad)).toList ++ rest))) : W p l e R s m args below meth c H locs cells slots Q (F0 m pc ls st0) := by
  intro T hT X
  obtain ⟨v, st₀, t, T', L, h0, X', hL, e1, e2, ⟨⟨hv, hP, hK, hD⟩, hz, hk⟩, st⟩ := hr T hT X
  cases hv
  rw [h0] at hz hk
  obtain ⟨t2, a1, b1⟩ := kk T'.heap (locs ++ L) (by rw [e1]; exact hP) ⟨hD.1, fun k q hq => hA1 _ (hD.2 k q hq)⟩
    ⟨Nat.le_trans hS.1 (by rw [e1]; exact hz), fun q h1 h2 => by rw [e1, hk q (Nat.lt_of_lt_of_le h1 hS.1) (fun z => h2 (hA1 q z))]; exact hS.2.1 q h1 h2, fun q hq => by
      rcases List.mem_append.mp hq with h | h
      · exact hS.2.2 q h
      · exact hf _ (hL q h)⟩ T' rfl X'
  exact ⟨t2, st t2 a1, b1⟩
/-- which instruction returns this -/
def zri : Option Value → Instr
  | none => .return_
  | some (.int _) => .ireturn
  | some _ => .areturn
set_option maxHeartbeats 4000000 in
set_option maxRecDepth 100000 in
theorem zins {bytes : ByteArray} {own : String} {nL d : Nat} (hx : p.tables.exec = Jvm.exec) (hb : c.code = bytes) (hml : c.maxLocals = nL) (hown : s.vm.findClass own = some m.cls) (hts : ∀ w ∈ zT, w.before args s = true)
    (hK : va_K (dC, dI) vwCl (ztys NC cA) s) (hA : ∀ q, s.heap.size ≤ q → A q) (hRO : zRO ad sc A s s.heap) (hcell : cells ≤ R.cells) (hslot : slots ≤ R.slots) (hfr : d + 1 ≤ R.frames) (hlo : 60 * (d + 1) ≤ R.locals)
    {C : Nat → List Value → zM → Option Value → zM → Prop} (hC : ∀ k as M r M', C k as M r M' → zMet l dC dI ad cA NC sc d k as M r M')
    {J : Nat → List Value → List Value → zM → Prop} (hJ : ∀ pc L st M ls H locs, J pc L st M → zcon s dC dI ad cA NC A nL L M ls H locs → W p l e R s m args below meth c H locs cells slots Q (F0 m pc ls (st.map (ztr ad))))
    {fin : Option Value → zM → Prop} (hF : ∀ r M pc ls H locs, fin r M → decode bytes pc = .ok (zri r, 1) → va_P (dC, dI) vwCl (zwd NC ad cA M) H → va_D A (zwd NC ad cA M) → va_S A s.heap H locs → W p l e R s m args below meth c H locs cells slots Q (F0 m pc ls (r.toList.map (ztr ad))))
    {κ : List Value → List Value → zM → Prop} {E : zE} (hκ : ∀ L st M ls H locs, κ L st M → zcon s dC dI ad cA NC A nL L M ls H locs → W p l e R s m args below meth c H locs cells slots Q (F0 m (E.1 + E.2.2.1) ls (st.map (ztr ad))))
    (hd : decode bytes E.1 = .ok (E.2.1, E.2.2.1)) (hz : (zisw E.2.1 || Nat.beq E.2.2.1 (zil E.2.1)) = true) (hlk : zlk own E = true)
    {L st : List Value} {M : zM} {ls : Array Slot} {H : Heap} {locs : List Loc} (hop : zop NC sc zinfo C J fin κ E L st M) (hcon : zcon s dC dI ad cA NC A nL L M ls H locs) : W p l e R s m args below meth c H locs cells slots Q (F0 m E.1 ls (st.map (ztr ad))) := by
  obtain ⟨pc, i, len, a, b, t⟩ := E
  dsimp only at hd hz hκ ⊢
  have hP := hcon.2.2.1
  have hD := hcon.2.2.2.1
  have hS := hcon.2.2.2.2
  have hfree := zfree hD hS hA
  cases i
  all_goals (try dsimp only [zop] at hop)
  case iconst n =>
    obtain rfl : len = 1 := zl_eq hz rfl
    exact lv_iconst hx hb hd rfl (hκ _ _ _ _ _ _ hop hcon)
  case bipush n =>
    obtain rfl : len = 2 := zl_eq hz rfl
    exact lv_bipush hx hb hd rfl (hκ _ _ _ _ _ _ hop hcon)
  case sipush n =>
    obtain rfl : len = 3 := zl_eq hz rfl
    exact lv_sipush hx hb hd rfl (hκ _ _ _ _ _ _ hop hcon)
  case ldc n =>
    obtain rfl : len = 2 := zl_eq hz rfl
    exact lv_ldc hx hb hown (hts _ (zT_in (of_decide_eq_true hlk) rfl)) hd (hκ _ _ _ _ _ _ hop hcon)
  case ldc_w n =>
    obtain rfl : len = 3 := zl_eq hz rfl
    exact lv_ldcw hx hb hown (hts _ (zT_in (of_decide_eq_true hlk) rfl)) hd (hκ _ _ _ _ _ _ hop hcon)
  case ldc2_w n =>
    obtain rfl : len = 3 := zl_eq hz rfl
    exact lv_ldc2 hx hb hown (hts _ (zT_in (of_decide_eq_true hlk) rfl)) hd (hκ _ _ _ _ _ _ hop hcon)
  case iload_n i =>
    obtain rfl : len = 1 := zl_eq hz rfl
    obtain ⟨x, h1, h2⟩ := zldI_x hop
    exact lv_iload_n hx hb hd rfl (hcon.at h1 (by simp)) (hκ _ _ _ _ _ _ h2 hcon)
  case iload i =>
    obtain rfl : len = 2 := zl_eq hz rfl
    obtain ⟨x, h1, h2⟩ := zldI_x hop
    exact lv_iload hx hb hd (hcon.at h1 (by simp)) (hκ _ _ _ _ _ _ h2 hcon)
  case lload_n i =>
    obtain rfl : len = 1 := zl_eq hz rfl
    obtain ⟨x, h1, h2⟩ := zldJ_x hop
    exact lv_lload_n hx hb hd rfl (hcon.at h1 (by simp)) (hκ _ _ _ _ _ _ h2 hcon)
  case aload_n i =>
    obtain rfl : len = 1 := zl_eq hz rfl
    obtain ⟨x, h1, h2⟩ := zldA_x hop
    exact lv_aload_n hx hb hd rfl (hcon.at h1 (by simp)) (hκ _ _ _ _ _ _ h2 hcon)
  case aload i =>
    obtain rfl : len = 2 := zl_eq hz rfl
    obtain ⟨x, h1, h2⟩ := zldA_x hop
    exact lv_aload hx hb hd (hcon.at h1 (by simp)) (hκ _ _ _ _ _ _ h2 hcon)
  case istore_n i =>
    obtain rfl : len = 1 := zl_eq hz rfl
    obtain ⟨x, r, rfl, h1, h2⟩ := zstI_x hop
    exact lv_istore_n hx hb hd rfl hcon.2.1 (by rw [← hcon.1]; exact h1) rfl (fun ls' hl' => hκ _ _ _ _ _ _ h2 (hcon.store (v := .int x) (by simp) hl'))
  case istore i =>
    obtain rfl : len = 2 := zl_eq hz rfl
    obtain ⟨x, r, rfl, h1, h2⟩ := zstI_x hop
    exact lv_istore hx hb hd hcon.2.1 (by rw [← hcon.1]; exact h1) rfl (fun ls' hl' => hκ _ _ _ _ _ _ h2 (hcon.store (v := .int x) (by simp) hl'))
  case astore_n i =>
    obtain rfl : len = 1 := zl_eq hz rfl
    obtain ⟨x, r, rfl, h1, h2⟩ := zstA_x hop
    exact lv_astore_n hx hb hd rfl hcon.2.1 (by rw [← hcon.1]; exact h1) rfl (fun ls' hl' => hκ _ _ _ _ _ _ h2 (hcon.store (v := .ref x) (by simp) hl'))
  case astore i =>
    obtain rfl : len = 2 := zl_eq hz rfl
    obtain ⟨x, r, rfl, h1, h2⟩ := zstA_x hop
    exact lv_astore hx hb hd hcon.2.1 (by rw [← hcon.1]; exact h1) rfl (fun ls' hl' => hκ _ _ _ _ _ _ h2 (hcon.store (v := .ref x) (by simp) hl'))
  case iinc i n =>
    obtain rfl : len = 3 := zl_eq hz rfl
    obtain ⟨x, h0, h1, h2⟩ := zinc_x hop
    have hm := zpr_get (ad := ad) (v := .int x) (by simp) L 0 i h0
    rw [Nat.zero_add] at hm
    obtain ⟨k, hk⟩ := List.getElem?_of_mem hm
    exact lv_iinc hx hb hd hcon.2.1 hk rfl (by rw [← hcon.1]; exact h1) rfl (fun ls' hl' => hκ _ _ _ _ _ _ h2 (hcon.store (v := .int (x + Int32.ofInt n)) (by simp) hl'))
  case iadd =>
    obtain rfl : len = 1 := zl_eq hz rfl
    obtain ⟨x, y, r, rfl, h⟩ := zb2_x hop
    exact lv_iadd hx hb hd (hκ _ _ _ _ _ _ h hcon)
  case isub =>
    obtain rfl : len = 1 := zl_eq hz rfl
    obtain ⟨x, y, r, rfl, h⟩ := zb2_x hop
    exact lv_isub hx hb hd (hκ _ _ _ _ _ _ h hcon)
  case imul =>
    obtain rfl : len = 1 := zl_eq hz rfl
    obtain ⟨x, y, r, rfl, h⟩ := zb2_x hop
    exact lv_imul hx hb hd (hκ _ _ _ _ _ _ h hcon)
  case iand =>
    obtain rfl : len = 1 := zl_eq hz rfl
    obtain ⟨x, y, r, rfl, h⟩ := zb2_x hop
    exact lv_iand hx hb hd (hκ _ _ _ _ _ _ h hcon)
  case ior =>
    obtain rfl : len = 1 := zl_eq hz rfl
    obtain ⟨x, y, r, rfl, h⟩ := zb2_x hop
    exact lv_ior hx hb hd (hκ _ _ _ _ _ _ h hcon)
  case ixor =>
    obtain rfl : len = 1 := zl_eq hz rfl
    obtain ⟨x, y, r, rfl, h⟩ := zb2_x hop
    exact lv_ixor hx hb hd (hκ _ _ _ _ _ _ h hcon)
  case ishl =>
    obtain rfl : len = 1 := zl_eq hz rfl
    obtain ⟨x, y, r, rfl, h⟩ := zb2_x hop
    exact lv_ishl hx hb hd (hκ _ _ _ _ _ _ h hcon)
  case ishr =>
    obtain rfl : len = 1 := zl_eq hz rfl
    obtain ⟨x, y, r, rfl, h⟩ := zb2_x hop
    exact lv_ishr hx hb hd (hκ _ _ _ _ _ _ h hcon)
  case iushr =>
    obtain rfl : len = 1 := zl_eq hz rfl
    obtain ⟨x, y, r, rfl, h⟩ := zb2_x hop
    exact lv_iushr hx hb hd rfl (hκ _ _ _ _ _ _ h hcon)
  case irem =>
    obtain rfl : len = 1 := zl_eq hz rfl
    obtain ⟨x, y, r, rfl, h0, h⟩ := zrem_x hop
    exact lv_irem hx hb hd h0 (hκ _ _ _ _ _ _ h hcon)
  case ineg =>
    obtain rfl : len = 1 := zl_eq hz rfl
    obtain ⟨x, r, rfl, h⟩ := zu1_x hop
    exact lv_ineg hx hb hd (hκ _ _ _ _ _ _ h hcon)
  case i2b =>
    obtain rfl : len = 1 := zl_eq hz rfl
    obtain ⟨x, r, rfl, h⟩ := zu1_x hop
    exact lv_i2b hx hb hd rfl (hκ _ _ _ _ _ _ h hcon)
  case i2l =>
    obtain rfl : len = 1 := zl_eq hz rfl
    obtain ⟨x, r, rfl, h⟩ := zi2l_x hop
    exact lv_i2l hx hb hd rfl (hκ _ _ _ _ _ _ h hcon)
  case l2i =>
    obtain rfl : len = 1 := zl_eq hz rfl
    obtain ⟨x, r, rfl, h⟩ := zl2i_x hop
    exact lv_l2i hx hb hd rfl (hκ _ _ _ _ _ _ h hcon)
  case land =>
    obtain rfl : len = 1 := zl_eq hz rfl
    obtain ⟨x, y, r, rfl, h⟩ := zl2_x hop
    exact lv_land hx hb hd (hκ _ _ _ _ _ _ h hcon)
  case lor =>
    obtain rfl : len = 1 := zl_eq hz rfl
    obtain ⟨x, y, r, rfl, h⟩ := zl2_x hop
    exact lv_lor hx hb hd (hκ _ _ _ _ _ _ h hcon)
  case lshl =>
    obtain rfl : len = 1 := zl_eq hz rfl
    obtain ⟨x, y, r, rfl, h⟩ := zls_x hop
    exact lv_lshl hx hb hd rfl (hκ _ _ _ _ _ _ h hcon)
  case lshr =>
    obtain rfl : len = 1 := zl_eq hz rfl
    obtain ⟨x, y, r, rfl, h⟩ := zls_x hop
    exact lv_lshr hx hb hd rfl (hκ _ _ _ _ _ _ h hcon)
  case lushr =>
    obtain rfl : len = 1 := zl_eq hz rfl
    obtain ⟨x, y, r, rfl, h⟩ := zls_x hop
    exact lv_lushr hx hb hd rfl (hκ _ _ _ _ _ _ h hcon)
  case dup =>
    obtain rfl : len = 1 := zl_eq hz rfl
    obtain ⟨v, r, rfl, h0, h⟩ := zdup_x hop
    exact lv_dup hx hb hd (by rw [ztr_cat]; exact h0) (hκ _ _ _ _ _ _ h hcon)
  case dup2 =>
    obtain rfl : len = 1 := zl_eq hz rfl
    obtain ⟨v, w, r, rfl, h0, h1, h⟩ := zdup2_x hop
    exact lv_dup2_11 hx hb hd (by rw [ztr_cat]; exact h0) (by rw [ztr_cat]; exact h1) (hκ _ _ _ _ _ _ h hcon)
  case goto off =>
    obtain rfl : len = 3 := zl_eq hz rfl
    exact lv_goto hx hb hd hop.1 (hJ _ _ _ _ _ _ _ hop.2 hcon)
  case ifCond cd off =>
    obtain rfl : len = 3 := zl_eq hz rfl
    obtain ⟨x, r, rfl, h0, h1, h2⟩ := zifc_x hop
    cases cd
    · exact lv_if_eq hx hb hd h0 (fun q => hJ _ _ _ _ _ _ _ (h1 q) hcon) (fun q => hκ _ _ _ _ _ _ (h2 q) hcon)
    · exact lv_if_ne hx hb hd h0 (fun q => hJ _ _ _ _ _ _ _ (h1 q) hcon) (fun q => hκ _ _ _ _ _ _ (h2 (fun z => z q)) hcon)
    · exact lv_if_lt hx hb hd h0 (fun q => hJ _ _ _ _ _ _ _ (h1 q) hcon) (fun q => hκ _ _ _ _ _ _ (h2 q) hcon)
    · exact lv_if_ge hx hb hd h0 (fun q => hJ _ _ _ _ _ _ _ (h1 q) hcon) (fun q => hκ _ _ _ _ _ _ (h2 q) hcon)
    · exact lv_if_gt hx hb hd h0 (fun q => hJ _ _ _ _ _ _ _ (h1 q) hcon) (fun q => hκ _ _ _ _ _ _ (h2 q) hcon)
    · exact lv_if_le hx hb hd h0 (fun q => hJ _ _ _ _ _ _ _ (h1 q) hcon) (fun q => hκ _ _ _ _ _ _ (h2 q) hcon)
  case if_icmp cd off =>
    obtain rfl : len = 3 := zl_eq hz rfl
    obtain ⟨x, y, r, rfl, h0, h1, h2⟩ := zicm_x hop
    cases cd
    · exact lv_icmp_eq hx hb hd h0 (fun q => hJ _ _ _ _ _ _ _ (h1 q) hcon) (fun q => hκ _ _ _ _ _ _ (h2 q) hcon)
    · exact lv_icmp_ne hx hb hd h0 (fun q => hJ _ _ _ _ _ _ _ (h1 q) hcon) (fun q => hκ _ _ _ _ _ _ (h2 (fun z => z q)) hcon)
    · exact lv_icmp_lt hx hb hd h0 (fun q => hJ _ _ _ _ _ _ _ (h1 q) hcon) (fun q => hκ _ _ _ _ _ _ (h2 q) hcon)
    · exact lv_icmp_ge hx hb hd h0 (fun q => hJ _ _ _ _ _ _ _ (h1 q) hcon) (fun q => hκ _ _ _ _ _ _ (h2 q) hcon)
    · exact lv_icmp_gt hx hb hd h0 (fun q => hJ _ _ _ _ _ _ _ (h1 q) hcon) (fun q => hκ _ _ _ _ _ _ (h2 q) hcon)
    · exact lv_icmp_le hx hb hd h0 (fun q => hJ _ _ _ _ _ _ _ (h1 q) hcon) (fun q => hκ _ _ _ _ _ _ (h2 q) hcon)
  case tableswitch df lo hi offs =>
    obtain ⟨x, r, rfl, h1, h2⟩ := zts_x hop
    by_cases q : x.toInt < lo ∨ hi < x.toInt
    · exact lv_tableOut hx hb hd q (h1 q).1 (hJ _ _ _ _ _ _ _ (h1 q).2 hcon)
    · have q1 : ¬ x.toInt < lo := fun z => q (Or.inl z)
      have q2 : ¬ hi < x.toInt := fun z => q (Or.inr z)
      obtain ⟨off, h3, h4⟩ := h2 q1 q2
      exact lv_tableIn hx hb hd q1 q2 h3 h4.1 (hJ _ _ _ _ _ _ _ h4.2 hcon)
  case lookupswitch df ps =>
    obtain ⟨x, r, rfl, h1, h2⟩ := zlks_x hop
    exact lv_lookup hx hb hd h1 rfl h2.1 (hJ _ _ _ _ _ _ _ h2.2 hcon)
  case getfield ix =>
    obtain rfl : len = 3 := zl_eq hz rfl
    obtain ⟨k, r, fs, o, rfl, h1, h2, h3⟩ := zgf_x hop
    obtain ⟨hk, hg⟩ := zlay_some h1
    obtain ⟨q, hq, hfl, -⟩ := zly_obj hg
    have hlk2 := of_decide_eq_true hlk
    have hj : b < q.2.2 := by
      rw [← hfl]
      rw [zget_eq] at h2
      exact (List.getElem?_eq_some_iff.mp h2).1
    have he : (zwd NC ad cA M)[k]? = some (ad k, .inr (a, zfv ad (M k) 0 fs)) := by
      rw [zwd_at hk]; unfold zce; rw [hg]
    have hF0 : zF a b = q.2.1 b := by unfold zF; rw [hq]
    rw [hF0] at hlk2
    refine va_get (D := (dC, dI)) (ci := a) (C := q.1) (T := q.2.1) (N := q.2.2) hx hb hts (zcl_ok a q hq).1 hown hK hP k he (by rw [← zget_eq]; exact hq) b hj (hts _ (zT_in hlk2 rfl)) (fun _ h9 => h9) (zfv_get ad (M k) fs 0 b o h2) hd ?_
    have := hκ _ _ _ _ _ _ h3 hcon
    cases o with
    | none => rw [Nat.zero_add]; exact this
    | some z => exact this
  case putfield ix =>
    obtain rfl : len = 3 := zl_eq hz rfl
    obtain ⟨x, k, r, fs, rfl, h1, h2, h4, h3⟩ := zpf_x hop
    obtain ⟨hk, hg⟩ := zlay_some h1
    obtain ⟨q, hq, hfl, -⟩ := zly_obj hg
    have hj : b < q.2.2 := by
      rw [← hfl]
      rw [zget_eq] at h2
      exact (List.getElem?_eq_some_iff.mp h2).1
    have he : (zwd NC ad cA M)[k]? = some (ad k, .inr (a, zfv ad (M k) 0 fs)) := by
      rw [zwd_at hk]; unfold zce; rw [hg]
    have hF0 : zF a b = q.2.1 b := by unfold zF; rw [hq]
    have hlk3 : (decide (lw_tbl[t]? = some (.fieldLink own ix (zF a b).1 (zF a b).2.1 (zF a b).2.2.1)) && decide ((zF a b).2.2.2 = false) && (decide ((zF a b).2.2.1 = "I") || (decide ((zF a b).2.2.1 = "Z") && Nat.beq a 1 && Nat.beq b 8))) = true := hlk
    rw [hF0] at hlk3
    simp only [Bool.and_eq_true, Bool.or_eq_true, decide_eq_true_eq] at hlk3
    obtain ⟨⟨hl1, hl2⟩, hl3⟩ := hlk3
    obtain ⟨hin, ty0, hty, hnm⟩ := zcl_ok a q hq
    obtain ⟨ty, hd1, hn1, hf1⟩ : ∃ ty, parseFieldDescriptor (q.2.1 b).2.2.1 = some ty ∧ narrow ty (.int x) = .int x ∧ fits ty (.int x) = true := by
      rcases hl3 with e1 | ⟨⟨e1, e2⟩, e3⟩
      · exact ⟨.int, by rw [e1]; decide +kernel, rfl, rfl⟩
      · refine ⟨.boolean, by rw [e1]; decide +kernel, ?_⟩
        rcases h4 ⟨Nat.eq_of_beq_eq_true e2, Nat.eq_of_beq_eq_true e3⟩ with rfl | rfl
        · exact ⟨by decide, by decide⟩
        · exact ⟨by decide, by decide⟩
    refine va_put (D := (dC, dI)) (ci := a) (ty := ty) (v := .int x) (C := q.1) (T := q.2.1) (N := q.2.2) hx hb hts hin ty0 hty hnm hown hK hP hD hS k he (by rw [← zget_eq]; exact hq) b hj (hts _ (zT_in hl1 rfl)) (fun _ h9 => h9) hl2 hd1 hn1 hf1 (by rw [zfv_length, hfl]; exact hj) hd (fun H1 locs1 hP1 hD1 hS1 => ?_)
    have hset := zfv_set ad (M k) x fs 0 b h2
    rw [Nat.zero_add] at hset
    rw [hset, zwd_set (j := b) (x := x) (by unfold zce; rw [hg])] at hP1 hD1
    exact hκ _ _ _ _ _ _ h3 ⟨hcon.1, hcon.2.1, hP1, hD1, hS1⟩
  case getstatic ix =>
    obtain rfl : len = 3 := zl_eq hz rfl
    obtain ⟨⟨h1, h2⟩, h3⟩ := hop
    exact va_gets hx hb (hRO.2 a h1 h2) hS hown (hts _ (zT_in (of_decide_eq_true hlk) rfl)) (fun _ h9 => h9) hd (hκ _ _ _ _ _ _ h3 hcon)
  case iaload =>
    obtain rfl : len = 1 := zl_eq hz rfl
    obtain ⟨i, k, r, rfl, ⟨n, qs, h1, h2, h3⟩ | ⟨h1, h1', h2, h3⟩⟩ := zald_x hop
    · obtain ⟨hk, hg⟩ := zlay_some h1
      obtain rfl := zly_arr hg (Or.inl rfl)
      exact va_iald hx hb hK hP k k (cA := cA k) (n := n) (f := M k) (by rw [zwd_at hk]; unfold zce; rw [hg]) (by rw [ztys_at hk]; unfold zty; rw [hg]) h2 hd (hκ _ _ _ _ _ _ h3 hcon)
    · exact va_ti hx hb (hRO.1 k h1 h1') hS h2 rfl hd (hκ _ _ _ _ _ _ h3 hcon)
  case baload =>
    obtain rfl : len = 1 := zl_eq hz rfl
    obtain ⟨i, k, r, n, ty, qs, rfl, h1, hty, h2, h3⟩ := zbld_x hop
    obtain ⟨hk, hg⟩ := zlay_some h1
    obtain rfl := zly_arr hg (Or.inr hty)
    rcases hty with rfl | rfl
    · exact va_bald hx hb hK hP k k (cA := cA k) (n := n) (f := M k) (by rw [zwd_at hk]; unfold zce; rw [hg]) (by rw [ztys_at hk]; unfold zty; rw [hg]) h2 hd (hκ _ _ _ _ _ _ h3 hcon)
    · exact va_zald hx hb hK hP k k (cA := cA k) (n := n) (f := M k) (by rw [zwd_at hk]; unfold zce; rw [hg]) (by rw [ztys_at hk]; unfold zty; rw [hg]) h2 hd (hκ _ _ _ _ _ _ h3 hcon)
  case iastore =>
    obtain rfl : len = 1 := zl_eq hz rfl
    obtain ⟨x, i, k, r, n, qs, rfl, h1, h2, h3⟩ := zast_x hop
    obtain ⟨hk, hg⟩ := zlay_some h1
    obtain rfl := zly_arr hg (Or.inl rfl)
    refine va_iast hx hb hK hP hD hS k k (cA := cA k) (n := n) (f := M k) (by rw [zwd_at hk]; unfold zce; rw [hg]) (by rw [ztys_at hk]; unfold zty; rw [hg]) h2 hd (fun H1 locs1 hP1 hD1 hS1 => ?_)
    rw [zwd_set (j := i.toNatClampNeg) (x := x) (by unfold zce; rw [hg])] at hP1 hD1
    exact hκ _ _ _ _ _ _ h3 ⟨hcon.1, hcon.2.1, hP1, hD1, hS1⟩
  case bastore =>
    obtain rfl : len = 1 := zl_eq hz rfl
    obtain ⟨x, i, k, r, n, ty, qs, rfl, h1, hty, h2, h3⟩ := zbst_x hop
    obtain ⟨hk, hg⟩ := zlay_some h1
    obtain rfl := zly_arr hg (Or.inr hty)
    rcases hty with rfl | rfl
    · refine va_bast hx hb hK hP hD hS k k (cA := cA k) (n := n) (f := M k) (by rw [zwd_at hk]; unfold zce; rw [hg]) (by rw [ztys_at hk]; unfold zty; rw [hg]) h2 hd (fun H1 locs1 hP1 hD1 hS1 => ?_)
      rw [zwd_set (j := i.toNatClampNeg) (x := vp_nar .byte x) (by unfold zce; rw [hg])] at hP1 hD1
      exact hκ _ _ _ _ _ _ h3 ⟨hcon.1, hcon.2.1, hP1, hD1, hS1⟩
    · refine va_zast hx hb hK hP hD hS k k (cA := cA k) (n := n) (f := M k) (by rw [zwd_at hk]; unfold zce; rw [hg]) (by rw [ztys_at hk]; unfold zty; rw [hg]) h2 hd (fun H1 locs1 hP1 hD1 hS1 => ?_)
      rw [zwd_set (j := i.toNatClampNeg) (x := vp_nar .boolean x) (by unfold zce; rw [hg])] at hP1 hD1
      exact hκ _ _ _ _ _ _ h3 ⟨hcon.1, hcon.2.1, hP1, hD1, hS1⟩
  case aaload =>
    obtain rfl : len = 1 := zl_eq hz rfl
    obtain ⟨i, k, r, n, C0, qs, q, rfl, h1, h2, h4, h3⟩ := zrld_x hop
    obtain ⟨hk, hg⟩ := zlay_some h1
    obtain ⟨q0, qr, rfl, -⟩ := zly_ref hg
    refine va_aldq hx hb hK hP k k (cA := cA k) (C := C0) (n := n) (f := fun j => (zget (q0 :: qr) j).map ad) (by rw [zwd_at hk]; unfold zce; rw [hg]) (by rw [ztys_at hk]; unfold zty; rw [hg]) h2 hd ?_
    rw [h4]
    exact hκ _ _ _ _ _ _ h3 hcon
  case arraylength =>
    obtain rfl : len = 1 := zl_eq hz rfl
    obtain ⟨k, r, rfl, ⟨n, ty, qs, h1, h3⟩ | ⟨h1, h1', h3⟩⟩ := zlen_x hop
    · obtain ⟨hk, hg⟩ := zlay_some h1
      cases qs with
      | nil => exact va_alen hx hb hK hP k k (cA := cA k) (x := (n, .inl (M k))) (by rw [zwd_at hk]; unfold zce; rw [hg]) (ztys_at hk) rfl hd (hκ _ _ _ _ _ _ h3 hcon)
      | cons q0 qr => exact va_alen hx hb hK hP k k (cA := cA k) (x := (n, .inr (.inr (.inr (.inr (fun j => (zget (q0 :: qr) j).map ad)))))) (by rw [zwd_at hk]; unfold zce; rw [hg]) (ztys_at hk) rfl hd (hκ _ _ _ _ _ _ h3 hcon)
    · exact va_tlen hx hb (hRO.1 k h1 h1') hS rfl hd (hκ _ _ _ _ _ _ h3 hcon)
  case invokestatic ix =>
    obtain rfl : len = 3 := zl_eq hz rfl
    cases h88 : Nat.beq a 88 with
    | true =>
      have h0 : (bif Nat.beq a 88 then zmx st (fun st' => κ L st' M) else zcs zinfo C a st M (fun r M' => κ L r M')) := hop
      rw [h88] at h0
      have h0' : zmx st (fun st' => κ L st' M) := h0
      obtain ⟨x, y, r, rfl, h1, h2⟩ := zmx_x h0'
      obtain rfl := Nat.eq_of_beq_eq_true h88
      have hlk2 : decide (lw_tbl[t]? = some (.methodLink own ix yJ9_max_7cf53)) = true := hlk
      exact va_mmax hx hb (by rw [hml]; exact hcon.2.1.1.symm) hown (hts _ (zT_in (of_decide_eq_true hlk2) rfl)) (hts _ (zT_in (i := 411) (by decide +kernel) rfl)) (hts _ (zT_in (i := 38) (by decide +kernel) rfl)) (hts _ (zT_in (i := 412) (by decide +kernel) rfl)) (by omega) (by rw [zslots_sum]; omega) hcell hslot hd (hκ _ _ _ _ _ _ h2 hcon)
    | false =>
      have h0 : (bif Nat.beq a 88 then zmx st (fun st' => κ L st' M) else zcs zinfo C a st M (fun r M' => κ L r M')) := hop
      rw [h88] at h0
      have h0' : zcs zinfo C a st M (fun r M' => κ L r M') := h0
      obtain ⟨i, as, r, v, M', hi, hst, hpop, hsl, hCk, h3⟩ := zcs_x h0'
      have hlk2 : (match zinfo a with
        | some q => decide (lw_tbl[t]? = some (.methodLink own ix q.2.1))
        | none => false) = true := hlk
      rw [hi] at hlk2
      have hlk3 := of_decide_eq_true hlk2
      rcases zi_all a i hi with hok | ⟨hno, -⟩
      · have hM := hC a as M v M' hCk i hi hok H.size
        obtain ⟨k1, k2, k3, -, k5, k6, k7, k8, k9, k10⟩ := hok
        obtain ⟨bs, hb1, hb2, hb3⟩ := zpop_spec _ _ _ _ _ hpop
        rw [List.append_nil] at hb1
        subst hb1
        have hG : GoodIn zT (va_wsS own ix i.2.1 (Cond.code i.2.1 i.2.2.1 i.2.2.2.1 i.2.2.2.2.1 :: zT)) := by
          refine zT_good (fun w hw => ?_)
          simp only [va_wsS, List.mem_append, List.mem_cons, List.not_mem_nil, or_false] at hw
          rcases hw with (rfl | rfl | rfl) | rfl | hw
          · exact zT_in hlk3 rfl
          · exact zT_in (k3 hst) rfl
          · exact zT_in k2 rfl
          · exact zT_in k1 rfl
          · exact hw
        refine zcall (A := A) (va_runS (As := as.map (ztr ad)) (rest := r.map (ztr ad)) ⟨hx, hb, hml, hown, hts⟩ hM (va_cwS i.2.2.2.2.2.2.2.1 hts hG rfl rfl rfl ⟨k6, k7, k9⟩ ⟨hfr, by show 8 + (i.2.2.2.1 + 11) + 60 * d ≤ R.locals; omega⟩) ⟨zPre.blind, fun U hU hW => ⟨rfl, by rw [hU], by rw [hU]; exact hP, va_K.moved hW.alike hK, hD.weaken (fun _ _ _ _ => trivial), ?_⟩⟩ rfl (by rw [List.length_map]; exact hb3) hcon.2.1.1 (by rw [hb2, List.map_append, List.map_reverse]) (lv_room (by rw [zslots_sum]; exact hsl)) hd ⟨hcell, hslot⟩) hS hfree hfree (fun H1 locs1 hP1 hD1 hS1 => ?_)
        · rw [hU]
          exact ((hRO.kept hS.2.1).moved hW.alike).narrow hfree
        · have := hκ _ _ _ _ _ _ h3 (⟨hcon.1, hcon.2.1, hP1, hD1, hS1⟩ : zcon s dC dI ad cA NC A nL L M' ls H1 locs1)
          rw [List.map_append] at this
          cases v <;> exact this
      · rw [hst] at hno; cases hno
  case invokevirtual ix =>
    obtain rfl : len = 3 := zl_eq hz rfl
    obtain ⟨i, as, k, r, fs, v, M', hi, hst, hpop, hsl, hly, hCk, h3⟩ := zcv_x hop
    have hlk2 : (match zinfo a with
      | some q => decide (lw_tbl[t]? = some (.methodLink own ix q.2.1))
      | none => false) = true := hlk
    rw [hi] at hlk2
    have hlk3 := of_decide_eq_true hlk2
    obtain ⟨hk, hg⟩ := zlay_some hly
    obtain ⟨q, hq, hfl, hc8⟩ := zly_obj hg
    rcases zi_all a i hi with hok | ⟨-, hno⟩
    · have hM := hC a (.ref k :: as) M v M' hCk i hi hok H.size
      obtain ⟨k1, k2, -, k4, k5, k6, k7, k8, k9, k10⟩ := hok
      obtain ⟨k41, k42, k43⟩ := k4 hst
      rw [hq] at k43
      have hqc : q.1 = i.2.1.cls := by simpa using k43
      obtain ⟨bs, hb1, hb2, hb3⟩ := zpop_spec _ _ _ _ _ hpop
      rw [List.append_nil] at hb1
      subst hb1
      have he : (zwd NC ad cA M)[k]? = some (ad k, .inr (i.2.2.2.2.2.2.1, zfv ad (M k) 0 fs)) := by
        rw [zwd_at hk]; unfold zce; rw [hg]
      have hG : GoodIn zT (wsV own ix i.2.1.cls i.2.1 (Cond.code i.2.1 i.2.2.1 i.2.2.2.1 i.2.2.2.2.1 :: zT)) := by
        refine zT_good (fun w hw => ?_)
        simp only [wsV, List.mem_append, List.mem_cons, List.not_mem_nil, or_false] at hw
        rcases hw with (rfl | rfl | rfl | rfl) | rfl | hw
        · exact zT_in hlk3 rfl
        · exact zT_in k41 rfl
        · exact zT_in k42 rfl
        · exact zT_in k2 rfl
        · exact zT_in k1 rfl
        · exact hw
      have hrecv := va_recv hK hP (ci := i.2.2.2.2.2.2.1) (by rw [← zget_eq]; exact hq) he
      rw [hqc] at hrecv
      refine zcall (A := A) (va_runV (As := as.map (ztr ad)) (rest := r.map (ztr ad)) ⟨hx, hb, hml, hown, hts⟩ hM (cwV i.2.2.2.2.2.2.2.1 hts hG rfl rfl rfl ⟨rfl, k6, k7, k9⟩ ⟨hfr, by show 8 + (i.2.2.2.1 + 11) + 60 * d ≤ R.locals; omega⟩) ⟨zPre.blind, hrecv, fun U hU hW => ⟨rfl, by rw [hU], by rw [hU]; exact hP, va_K.moved hW.alike hK, hD.weaken (fun _ _ _ _ => trivial), ?_⟩⟩ rfl (by rw [List.length_map]; exact hb3) hcon.2.1.1 (by rw [hb2, List.map_append, List.map_reverse]; rfl) (lv_room (by rw [zslots_sum]; exact hsl)) hd ⟨hcell, hslot⟩) hS hfree hfree (fun H1 locs1 hP1 hD1 hS1 => ?_)
      · rw [hU]
        exact ((hRO.kept hS.2.1).moved hW.alike).narrow hfree
      · have := hκ _ _ _ _ _ _ h3 (⟨hcon.1, hcon.2.1, hP1, hD1, hS1⟩ : zcon s dC dI ad cA NC A nL L M' ls H1 locs1)
        rw [List.map_append] at this
        cases v <;> exact this
    · rw [hno] at hc8; omega
  case ireturn =>
    obtain rfl : len = 1 := zl_eq hz rfl
    split at hop
    · exact hF _ _ _ _ _ _ hop hd hP hD hS
    · exact hop.elim
  case areturn =>
    obtain rfl : len = 1 := zl_eq hz rfl
    split at hop
    · exact hF _ _ _ _ _ _ hop hd hP hD hS
    · exact hop.elim
  case return_ =>
    obtain rfl : len = 1 := zl_eq hz rfl
    split at hop
    · exact hF _ _ _ _ _ _ hop hd hP hD hS
    · exact hop.elim
  all_goals exact hop.elim
end ZS
