section ZP
variable {NC : Nat} {sc : Nat × (Nat → Int32)} {C : Nat → List Value → zM → Option Value → zM → Prop} {J : Nat → List Value → List Value → zM → Prop} {fin : Option Value → zM → Prop} {np pc len a b t : Nat} {es : List zE} {L st : List Value} {M : zM}
theorem p_iconst {n : Int} {v : Int32} (hv : Int32.ofInt n = v) (h : zwp NC sc zinfo C J fin np es (L) (.int v :: st) M) : zwp NC sc zinfo C J fin np ((pc, .iconst n, len, a, b, t) :: es) (L) (st) M := by subst hv; exact h
theorem p_bipush {n : Int} {v : Int32} (hv : (Int8.ofInt n).toInt32 = v) (h : zwp NC sc zinfo C J fin np es (L) (.int v :: st) M) : zwp NC sc zinfo C J fin np ((pc, .bipush n, len, a, b, t) :: es) (L) (st) M := by subst hv; exact h
theorem p_sipush {n : Int} {v : Int32} (hv : (Int16.ofInt n).toInt32 = v) (h : zwp NC sc zinfo C J fin np es (L) (.int v :: st) M) : zwp NC sc zinfo C J fin np ((pc, .sipush n, len, a, b, t) :: es) (L) (st) M := by subst hv; exact h
theorem p_ldc {n : Nat} (h : zwp NC sc zinfo C J fin np es (L) (.int (nI a) :: st) M) : zwp NC sc zinfo C J fin np ((pc, .ldc n, len, a, b, t) :: es) (L) (st) M := h
theorem p_ldcw {n : Nat} (h : zwp NC sc zinfo C J fin np es (L) (.int (nI a) :: st) M) : zwp NC sc zinfo C J fin np ((pc, .ldc_w n, len, a, b, t) :: es) (L) (st) M := h
theorem p_ldc2 {n : Nat} (h : zwp NC sc zinfo C J fin np es (L) (.long (Int64.ofNat a) :: st) M) : zwp NC sc zinfo C J fin np ((pc, .ldc2_w n, len, a, b, t) :: es) (L) (st) M := h
theorem p_iloadn_0 {r : List Value} {x : Int32} (h : zwp NC sc zinfo C J fin np es (.int x :: r) (.int x :: st) M) : zwp NC sc zinfo C J fin np ((pc, .iload_n 0, len, a, b, t) :: es) (.int x :: r) (st) M := h
theorem p_iload_0 {r : List Value} {x : Int32} (h : zwp NC sc zinfo C J fin np es (.int x :: r) (.int x :: st) M) : zwp NC sc zinfo C J fin np ((pc, .iload 0, len, a, b, t) :: es) (.int x :: r) (st) M := h
theorem p_aloadn_0 {r : List Value} {x : Nat} (h : zwp NC sc zinfo C J fin np es (.ref x :: r) (.ref x :: st) M) : zwp NC sc zinfo C J fin np ((pc, .aload_n 0, len, a, b, t) :: es) (.ref x :: r) (st) M := h
theorem p_aload_0 {r : List Value} {x : Nat} (h : zwp NC sc zinfo C J fin np es (.ref x :: r) (.ref x :: st) M) : zwp NC sc zinfo C J fin np ((pc, .aload 0, len, a, b, t) :: es) (.ref x :: r) (st) M := h
theorem p_lloadn_0 {r : List Value} {x : Int64} (h : zwp NC sc zinfo C J fin np es (.long x :: r) (.long x :: st) M) : zwp NC sc zinfo C J fin np ((pc, .lload_n 0, len, a, b, t) :: es) (.long x :: r) (st) M := h
theorem p_istoren_0 {v0 : Value} {r : List Value} {x : Int32} (hz : zsl (v0 :: r) 0 (.int x) = .int x :: r) (h : zwp NC sc zinfo C J fin np es (.int x :: r) (st) M) : zwp NC sc zinfo C J fin np ((pc, .istore_n 0, len, a, b, t) :: es) (v0 :: r) (.int x :: st) M := ⟨by show 0 < _; simp, by show zwp NC sc zinfo C J fin np es (zsl (v0 :: r) 0 (.int x)) st M; rw [hz]; exact h⟩
theorem p_istore_0 {v0 : Value} {r : List Value} {x : Int32} (hz : zsl (v0 :: r) 0 (.int x) = .int x :: r) (h : zwp NC sc zinfo C J fin np es (.int x :: r) (st) M) : zwp NC sc zinfo C J fin np ((pc, .istore 0, len, a, b, t) :: es) (v0 :: r) (.int x :: st) M := ⟨by show 0 < _; simp, by show zwp NC sc zinfo C J fin np es (zsl (v0 :: r) 0 (.int x)) st M; rw [hz]; exact h⟩
theorem p_astoren_0 {v0 : Value} {r : List Value} {x : Nat} (hz : zsl (v0 :: r) 0 (.ref x) = .ref x :: r) (h : zwp NC sc zinfo C J fin np es (.ref x :: r) (st) M) : zwp NC sc zinfo C J fin np ((pc, .astore_n 0, len, a, b, t) :: es) (v0 :: r) (.ref x :: st) M := ⟨by show 0 < _; simp, by show zwp NC sc zinfo C J fin np es (zsl (v0 :: r) 0 (.ref x)) st M; rw [hz]; exact h⟩
theorem p_astore_0 {v0 : Value} {r : List Value} {x : Nat} (hz : zsl (v0 :: r) 0 (.ref x) = .ref x :: r) (h : zwp NC sc zinfo C J fin np es (.ref x :: r) (st) M) : zwp NC sc zinfo C J fin np ((pc, .astore 0, len, a, b, t) :: es) (v0 :: r) (.ref x :: st) M := ⟨by show 0 < _; simp, by show zwp NC sc zinfo C J fin np es (zsl (v0 :: r) 0 (.ref x)) st M; rw [hz]; exact h⟩
theorem p_iinc_0 {r : List Value} {x v : Int32} {n : Int} (hv : x + Int32.ofInt n = v) (hz : zsl (.int x :: r) 0 (.int v) = .int v :: r) (h : zwp NC sc zinfo C J fin np es (.int v :: r) (st) M) : zwp NC sc zinfo C J fin np ((pc, .iinc 0 n, len, a, b, t) :: es) (.int x :: r) (st) M := by subst hv; exact ⟨by simp, by rw [hz]; exact h⟩
theorem p_iloadn_1 {v0 : Value} {r : List Value} {x : Int32} (h : zwp NC sc zinfo C J fin np es (v0 :: .int x :: r) (.int x :: st) M) : zwp NC sc zinfo C J fin np ((pc, .iload_n 1, len, a, b, t) :: es) (v0 :: .int x :: r) (st) M := h
theorem p_iload_1 {v0 : Value} {r : List Value} {x : Int32} (h : zwp NC sc zinfo C J fin np es (v0 :: .int x :: r) (.int x :: st) M) : zwp NC sc zinfo C J fin np ((pc, .iload 1, len, a, b, t) :: es) (v0 :: .int x :: r) (st) M := h
theorem p_aloadn_1 {v0 : Value} {r : List Value} {x : Nat} (h : zwp NC sc zinfo C J fin np es (v0 :: .ref x :: r) (.ref x :: st) M) : zwp NC sc zinfo C J fin np ((pc, .aload_n 1, len, a, b, t) :: es) (v0 :: .ref x :: r) (st) M := h
theorem p_aload_1 {v0 : Value} {r : List Value} {x : Nat} (h : zwp NC sc zinfo C J fin np es (v0 :: .ref x :: r) (.ref x :: st) M) : zwp NC sc zinfo C J fin np ((pc, .aload 1, len, a, b, t) :: es) (v0 :: .ref x :: r) (st) M := h
theorem p_lloadn_1 {v0 : Value} {r : List Value} {x : Int64} (h : zwp NC sc zinfo C J fin np es (v0 :: .long x :: r) (.long x :: st) M) : zwp NC sc zinfo C J fin np ((pc, .lload_n 1, len, a, b, t) :: es) (v0 :: .long x :: r) (st) M := h
theorem p_istoren_1 {v0 v1 : Value} {r : List Value} {x : Int32} (hz : zsl (v0 :: v1 :: r) 1 (.int x) = v0 :: .int x :: r) (h : zwp NC sc zinfo C J fin np es (v0 :: .int x :: r) (st) M) : zwp NC sc zinfo C J fin np ((pc, .istore_n 1, len, a, b, t) :: es) (v0 :: v1 :: r) (.int x :: st) M := ⟨by show 1 < _; simp, by show zwp NC sc zinfo C J fin np es (zsl (v0 :: v1 :: r) 1 (.int x)) st M; rw [hz]; exact h⟩
theorem p_istore_1 {v0 v1 : Value} {r : List Value} {x : Int32} (hz : zsl (v0 :: v1 :: r) 1 (.int x) = v0 :: .int x :: r) (h : zwp NC sc zinfo C J fin np es (v0 :: .int x :: r) (st) M) : zwp NC sc zinfo C J fin np ((pc, .istore 1, len, a, b, t) :: es) (v0 :: v1 :: r) (.int x :: st) M := ⟨by show 1 < _; simp, by show zwp NC sc zinfo C J fin np es (zsl (v0 :: v1 :: r) 1 (.int x)) st M; rw [hz]; exact h⟩
theorem p_astoren_1 {v0 v1 : Value} {r : List Value} {x : Nat} (hz : zsl (v0 :: v1 :: r) 1 (.ref x) = v0 :: .ref x :: r) (h : zwp NC sc zinfo C J fin np es (v0 :: .ref x :: r) (st) M) : zwp NC sc zinfo C J fin np ((pc, .astore_n 1, len, a, b, t) :: es) (v0 :: v1 :: r) (.ref x :: st) M := ⟨by show 1 < _; simp, by show zwp NC sc zinfo C J fin np es (zsl (v0 :: v1 :: r) 1 (.ref x)) st M; rw [hz]; exact h⟩
theorem p_astore_1 {v0 v1 : Value} {r : List Value} {x : Nat} (hz : zsl (v0 :: v1 :: r) 1 (.ref x) = v0 :: .ref x :: r) (h : zwp NC sc zinfo C J fin np es (v0 :: .ref x :: r) (st) M) : zwp NC sc zinfo C J fin np ((pc, .astore 1, len, a, b, t) :: es) (v0 :: v1 :: r) (.ref x :: st) M := ⟨by show 1 < _; simp, by show zwp NC sc zinfo C J fin np es (zsl (v0 :: v1 :: r) 1 (.ref x)) st M; rw [hz]; exact h⟩
theorem p_iinc_1 {v0 : Value} {r : List Value} {x v : Int32} {n : Int} (hv : x + Int32.ofInt n = v) (hz : zsl (v0 :: .int x :: r) 1 (.int v) = v0 :: .int v :: r) (h : zwp NC sc zinfo C J fin np es (v0 :: .int v :: r) (st) M) : zwp NC sc zinfo C J fin np ((pc, .iinc 1 n, len, a, b, t) :: es) (v0 :: .int x :: r) (st) M := by subst hv; exact ⟨by simp, by rw [hz]; exact h⟩
theorem p_iloadn_2 {v0 v1 : Value} {r : List Value} {x : Int32} (h : zwp NC sc zinfo C J fin np es (v0 :: v1 :: .int x :: r) (.int x :: st) M) : zwp NC sc zinfo C J fin np ((pc, .iload_n 2, len, a, b, t) :: es) (v0 :: v1 :: .int x :: r) (st) M := h
theorem p_iload_2 {v0 v1 : Value} {r : List Value} {x : Int32} (h : zwp NC sc zinfo C J fin np es (v0 :: v1 :: .int x :: r) (.int x :: st) M) : zwp NC sc zinfo C J fin np ((pc, .iload 2, len, a, b, t) :: es) (v0 :: v1 :: .int x :: r) (st) M := h
theorem p_aloadn_2 {v0 v1 : Value} {r : List Value} {x : Nat} (h : zwp NC sc zinfo C J fin np es (v0 :: v1 :: .ref x :: r) (.ref x :: st) M) : zwp NC sc zinfo C J fin np ((pc, .aload_n 2, len, a, b, t) :: es) (v0 :: v1 :: .ref x :: r) (st) M := h
theorem p_aload_2 {v0 v1 : Value} {r : List Value} {x : Nat} (h : zwp NC sc zinfo C J fin np es (v0 :: v1 :: .ref x :: r) (.ref x :: st) M) : zwp NC sc zinfo C J fin np ((pc, .aload 2, len, a, b, t) :: es) (v0 :: v1 :: .ref x :: r) (st) M := h
theorem p_lloadn_2 {v0 v1 : Value} {r : List Value} {x : Int64} (h : zwp NC sc zinfo C J fin np es (v0 :: v1 :: .long x :: r) (.long x :: st) M) : zwp NC sc zinfo C J fin np ((pc, .lload_n 2, len, a, b, t) :: es) (v0 :: v1 :: .long x :: r) (st) M := h
theorem p_istoren_2 {v0 v1 v2 : Value} {r : List Value} {x : Int32} (hz : zsl (v0 :: v1 :: v2 :: r) 2 (.int x) = v0 :: v1 :: .int x :: r) (h : zwp NC sc zinfo C J fin np es (v0 :: v1 :: .int x :: r) (st) M) : zwp NC sc zinfo C J fin np ((pc, .istore_n 2, len, a, b, t) :: es) (v0 :: v1 :: v2 :: r) (.int x :: st) M := ⟨by show 2 < _; simp, by show zwp NC sc zinfo C J fin np es (zsl (v0 :: v1 :: v2 :: r) 2 (.int x)) st M; rw [hz]; exact h⟩
theorem p_istore_2 {v0 v1 v2 : Value} {r : List Value} {x : Int32} (hz : zsl (v0 :: v1 :: v2 :: r) 2 (.int x) = v0 :: v1 :: .int x :: r) (h : zwp NC sc zinfo C J fin np es (v0 :: v1 :: .int x :: r) (st) M) : zwp NC sc zinfo C J fin np ((pc, .istore 2, len, a, b, t) :: es) (v0 :: v1 :: v2 :: r) (.int x :: st) M := ⟨by show 2 < _; simp, by show zwp NC sc zinfo C J fin np es (zsl (v0 :: v1 :: v2 :: r) 2 (.int x)) st M; rw [hz]; exact h⟩
theorem p_astoren_2 {v0 v1 v2 : Value} {r : List Value} {x : Nat} (hz : zsl (v0 :: v1 :: v2 :: r) 2 (.ref x) = v0 :: v1 :: .ref x :: r) (h : zwp NC sc zinfo C J fin np es (v0 :: v1 :: .ref x :: r) (st) M) : zwp NC sc zinfo C J fin np ((pc, .astore_n 2, len, a, b, t) :: es) (v0 :: v1 :: v2 :: r) (.ref x :: st) M := ⟨by show 2 < _; simp, by show zwp NC sc zinfo C J fin np es (zsl (v0 :: v1 :: v2 :: r) 2 (.ref x)) st M; rw [hz]; exact h⟩
theorem p_astore_2 {v0 v1 v2 : Value} {r : List Value} {x : Nat} (hz : zsl (v0 :: v1 :: v2 :: r) 2 (.ref x) = v0 :: v1 :: .ref x :: r) (h : zwp NC sc zinfo C J fin np es (v0 :: v1 :: .ref x :: r) (st) M) : zwp NC sc zinfo C J fin np ((pc, .astore 2, len, a, b, t) :: es) (v0 :: v1 :: v2 :: r) (.ref x :: st) M := ⟨by show 2 < _; simp, by show zwp NC sc zinfo C J fin np es (zsl (v0 :: v1 :: v2 :: r) 2 (.ref x)) st M; rw [hz]; exact h⟩
theorem p_iinc_2 {v0 v1 : Value} {r : List Value} {x v : Int32} {n : Int} (hv : x + Int32.ofInt n = v) (hz : zsl (v0 :: v1 :: .int x :: r) 2 (.int v) = v0 :: v1 :: .int v :: r) (h : zwp NC sc zinfo C J fin np es (v0 :: v1 :: .int v :: r) (st) M) : zwp NC sc zinfo C J fin np ((pc, .iinc 2 n, len, a, b, t) :: es) (v0 :: v1 :: .int x :: r) (st) M := by subst hv; exact ⟨by simp, by rw [hz]; exact h⟩
theorem p_iloadn_3 {v0 v1 v2 : Value} {r : List Value} {x : Int32} (h : zwp NC sc zinfo C J fin np es (v0 :: v1 :: v2 :: .int x :: r) (.int x :: st) M) : zwp NC sc zinfo C J fin np ((pc, .iload_n 3, len, a, b, t) :: es) (v0 :: v1 :: v2 :: .int x :: r) (st) M := h
theorem p_iload_3 {v0 v1 v2 : Value} {r : List Value} {x : Int32} (h : zwp NC sc zinfo C J fin np es (v0 :: v1 :: v2 :: .int x :: r) (.int x :: st) M) : zwp NC sc zinfo C J fin np ((pc, .iload 3, len, a, b, t) :: es) (v0 :: v1 :: v2 :: .int x :: r) (st) M := h
theorem p_aloadn_3 {v0 v1 v2 : Value} {r : List Value} {x : Nat} (h : zwp NC sc zinfo C J fin np es (v0 :: v1 :: v2 :: .ref x :: r) (.ref x :: st) M) : zwp NC sc zinfo C J fin np ((pc, .aload_n 3, len, a, b, t) :: es) (v0 :: v1 :: v2 :: .ref x :: r) (st) M := h
theorem p_aload_3 {v0 v1 v2 : Value} {r : List Value} {x : Nat} (h : zwp NC sc zinfo C J fin np es (v0 :: v1 :: v2 :: .ref x :: r) (.ref x :: st) M) : zwp NC sc zinfo C J fin np ((pc, .aload 3, len, a, b, t) :: es) (v0 :: v1 :: v2 :: .ref x :: r) (st) M := h
theorem p_lloadn_3 {v0 v1 v2 : Value} {r : List Value} {x : Int64} (h : zwp NC sc zinfo C J fin np es (v0 :: v1 :: v2 :: .long x :: r) (.long x :: st) M) : zwp NC sc zinfo C J fin np ((pc, .lload_n 3, len, a, b, t) :: es) (v0 :: v1 :: v2 :: .long x :: r) (st) M := h
theorem p_istoren_3 {v0 v1 v2 v3 : Value} {r : List Value} {x : Int32} (hz : zsl (v0 :: v1 :: v2 :: v3 :: r) 3 (.int x) = v0 :: v1 :: v2 :: .int x :: r) (h : zwp NC sc zinfo C J fin np es (v0 :: v1 :: v2 :: .int x :: r) (st) M) : zwp NC sc zinfo C J fin np ((pc, .istore_n 3, len, a, b, t) :: es) (v0 :: v1 :: v2 :: v3 :: r) (.int x :: st) M := ⟨by show 3 < _; simp, by show zwp NC sc zinfo C J fin np es (zsl (v0 :: v1 :: v2 :: v3 :: r) 3 (.int x)) st M; rw [hz]; exact h⟩
theorem p_istore_3 {v0 v1 v2 v3 : Value} {r : List Value} {x : Int32} (hz : zsl (v0 :: v1 :: v2 :: v3 :: r) 3 (.int x) = v0 :: v1 :: v2 :: .int x :: r) (h : zwp NC sc zinfo C J fin np es (v0 :: v1 :: v2 :: .int x :: r) (st) M) : zwp NC sc zinfo C J fin np ((pc, .istore 3, len, a, b, t) :: es) (v0 :: v1 :: v2 :: v3 :: r) (.int x :: st) M := ⟨by show 3 < _; simp, by show zwp NC sc zinfo C J fin np es (zsl (v0 :: v1 :: v2 :: v3 :: r) 3 (.int x)) st M; rw [hz]; exact h⟩
theorem p_astoren_3 {v0 v1 v2 v3 : Value} {r : List Value} {x : Nat} (hz : zsl (v0 :: v1 :: v2 :: v3 :: r) 3 (.ref x) = v0 :: v1 :: v2 :: .ref x :: r) (h : zwp NC sc zinfo C J fin np es (v0 :: v1 :: v2 :: .ref x :: r) (st) M) : zwp NC sc zinfo C J fin np ((pc, .astore_n 3, len, a, b, t) :: es) (v0 :: v1 :: v2 :: v3 :: r) (.ref x :: st) M := ⟨by show 3 < _; simp, by show zwp NC sc zinfo C J fin np es (zsl (v0 :: v1 :: v2 :: v3 :: r) 3 (.ref x)) st M; rw [hz]; exact h⟩
theorem p_astore_3 {v0 v1 v2 v3 : Value} {r : List Value} {x : Nat} (hz : zsl (v0 :: v1 :: v2 :: v3 :: r) 3 (.ref x) = v0 :: v1 :: v2 :: .ref x :: r) (h : zwp NC sc zinfo C J fin np es (v0 :: v1 :: v2 :: .ref x :: r) (st) M) : zwp NC sc zinfo C J fin np ((pc, .astore 3, len, a, b, t) :: es) (v0 :: v1 :: v2 :: v3 :: r) (.ref x :: st) M := ⟨by show 3 < _; simp, by show zwp NC sc zinfo C J fin np es (zsl (v0 :: v1 :: v2 :: v3 :: r) 3 (.ref x)) st M; rw [hz]; exact h⟩
theorem p_iinc_3 {v0 v1 v2 : Value} {r : List Value} {x v : Int32} {n : Int} (hv : x + Int32.ofInt n = v) (hz : zsl (v0 :: v1 :: v2 :: .int x :: r) 3 (.int v) = v0 :: v1 :: v2 :: .int v :: r) (h : zwp NC sc zinfo C J fin np es (v0 :: v1 :: v2 :: .int v :: r) (st) M) : zwp NC sc zinfo C J fin np ((pc, .iinc 3 n, len, a, b, t) :: es) (v0 :: v1 :: v2 :: .int x :: r) (st) M := by subst hv; exact ⟨by simp, by rw [hz]; exact h⟩
theorem p_iload_4 {v0 v1 v2 v3 : Value} {r : List Value} {x : Int32} (h : zwp NC sc zinfo C J fin np es (v0 :: v1 :: v2 :: v3 :: .int x :: r) (.int x :: st) M) : zwp NC sc zinfo C J fin np ((pc, .iload 4, len, a, b, t) :: es) (v0 :: v1 :: v2 :: v3 :: .int x :: r) (st) M := h
theorem p_aload_4 {v0 v1 v2 v3 : Value} {r : List Value} {x : Nat} (h : zwp NC sc zinfo C J fin np es (v0 :: v1 :: v2 :: v3 :: .ref x :: r) (.ref x :: st) M) : zwp NC sc zinfo C J fin np ((pc, .aload 4, len, a, b, t) :: es) (v0 :: v1 :: v2 :: v3 :: .ref x :: r) (st) M := h
theorem p_istore_4 {v0 v1 v2 v3 v4 : Value} {r : List Value} {x : Int32} (hz : zsl (v0 :: v1 :: v2 :: v3 :: v4 :: r) 4 (.int x) = v0 :: v1 :: v2 :: v3 :: .int x :: r) (h : zwp NC sc zinfo C J fin np es (v0 :: v1 :: v2 :: v3 :: .int x :: r) (st) M) : zwp NC sc zinfo C J fin np ((pc, .istore 4, len, a, b, t) :: es) (v0 :: v1 :: v2 :: v3 :: v4 :: r) (.int x :: st) M := ⟨by show 4 < _; simp, by show zwp NC sc zinfo C J fin np es (zsl (v0 :: v1 :: v2 :: v3 :: v4 :: r) 4 (.int x)) st M; rw [hz]; exact h⟩
theorem p_astore_4 {v0 v1 v2 v3 v4 : Value} {r : List Value} {x : Nat} (hz : zsl (v0 :: v1 :: v2 :: v3 :: v4 :: r) 4 (.ref x) = v0 :: v1 :: v2 :: v3 :: .ref x :: r) (h : zwp NC sc zinfo C J fin np es (v0 :: v1 :: v2 :: v3 :: .ref x :: r) (st) M) : zwp NC sc zinfo C J fin np ((pc, .astore 4, len, a, b, t) :: es) (v0 :: v1 :: v2 :: v3 :: v4 :: r) (.ref x :: st) M := ⟨by show 4 < _; simp, by show zwp NC sc zinfo C J fin np es (zsl (v0 :: v1 :: v2 :: v3 :: v4 :: r) 4 (.ref x)) st M; rw [hz]; exact h⟩
theorem p_iinc_4 {v0 v1 v2 v3 : Value} {r : List Value} {x v : Int32} {n : Int} (hv : x + Int32.ofInt n = v) (hz : zsl (v0 :: v1 :: v2 :: v3 :: .int x :: r) 4 (.int v) = v0 :: v1 :: v2 :: v3 :: .int v :: r) (h : zwp NC sc zinfo C J fin np es (v0 :: v1 :: v2 :: v3 :: .int v :: r) (st) M) : zwp NC sc zinfo C J fin np ((pc, .iinc 4 n, len, a, b, t) :: es) (v0 :: v1 :: v2 :: v3 :: .int x :: r) (st) M := by subst hv; exact ⟨by simp, by rw [hz]; exact h⟩
theorem p_iload_5 {v0 v1 v2 v3 v4 : Value} {r : List Value} {x : Int32} (h : zwp NC sc zinfo C J fin np es (v0 :: v1 :: v2 :: v3 :: v4 :: .int x :: r) (.int x :: st) M) : zwp NC sc zinfo C J fin np ((pc, .iload 5, len, a, b, t) :: es) (v0 :: v1 :: v2 :: v3 :: v4 :: .int x :: r) (st) M := h
theorem p_aload_5 {v0 v1 v2 v3 v4 : Value} {r : List Value} {x : Nat} (h : zwp NC sc zinfo C J fin np es (v0 :: v1 :: v2 :: v3 :: v4 :: .ref x :: r) (.ref x :: st) M) : zwp NC sc zinfo C J fin np ((pc, .aload 5, len, a, b, t) :: es) (v0 :: v1 :: v2 :: v3 :: v4 :: .ref x :: r) (st) M := h
theorem p_istore_5 {v0 v1 v2 v3 v4 v5 : Value} {r : List Value} {x : Int32} (hz : zsl (v0 :: v1 :: v2 :: v3 :: v4 :: v5 :: r) 5 (.int x) = v0 :: v1 :: v2 :: v3 :: v4 :: .int x :: r) (h : zwp NC sc zinfo C J fin np es (v0 :: v1 :: v2 :: v3 :: v4 :: .int x :: r) (st) M) : zwp NC sc zinfo C J fin np ((pc, .istore 5, len, a, b, t) :: es) (v0 :: v1 :: v2 :: v3 :: v4 :: v5 :: r) (.int x :: st) M := ⟨by show 5 < _; simp, by show zwp NC sc zinfo C J fin np es (zsl (v0 :: v1 :: v2 :: v3 :: v4 :: v5 :: r) 5 (.int x)) st M; rw [hz]; exact h⟩
theorem p_astore_5 {v0 v1 v2 v3 v4 v5 : Value} {r : List Value} {x : Nat} (hz : zsl (v0 :: v1 :: v2 :: v3 :: v4 :: v5 :: r) 5 (.ref x) = v0 :: v1 :: v2 :: v3 :: v4 :: .ref x :: r) (h : zwp NC sc zinfo C J fin np es (v0 :: v1 :: v2 :: v3 :: v4 :: .ref x :: r) (st) M) : zwp NC sc zinfo C J fin np ((pc, .astore 5, len, a, b, t) :: es) (v0 :: v1 :: v2 :: v3 :: v4 :: v5 :: r) (.ref x :: st) M := ⟨by show 5 < _; simp, by show zwp NC sc zinfo C J fin np es (zsl (v0 :: v1 :: v2 :: v3 :: v4 :: v5 :: r) 5 (.ref x)) st M; rw [hz]; exact h⟩
theorem p_iinc_5 {v0 v1 v2 v3 v4 : Value} {r : List Value} {x v : Int32} {n : Int} (hv : x + Int32.ofInt n = v) (hz : zsl (v0 :: v1 :: v2 :: v3 :: v4 :: .int x :: r) 5 (.int v) = v0 :: v1 :: v2 :: v3 :: v4 :: .int v :: r) (h : zwp NC sc zinfo C J fin np es (v0 :: v1 :: v2 :: v3 :: v4 :: .int v :: r) (st) M) : zwp NC sc zinfo C J fin np ((pc, .iinc 5 n, len, a, b, t) :: es) (v0 :: v1 :: v2 :: v3 :: v4 :: .int x :: r) (st) M := by subst hv; exact ⟨by simp, by rw [hz]; exact h⟩
theorem p_iload_6 {v0 v1 v2 v3 v4 v5 : Value} {r : List Value} {x : Int32} (h : zwp NC sc zinfo C J fin np es (v0 :: v1 :: v2 :: v3 :: v4 :: v5 :: .int x :: r) (.int x :: st) M) : zwp NC sc zinfo C J fin np ((pc, .iload 6, len, a, b, t) :: es) (v0 :: v1 :: v2 :: v3 :: v4 :: v5 :: .int x :: r) (st) M := h
theorem p_aload_6 {v0 v1 v2 v3 v4 v5 : Value} {r : List Value} {x : Nat} (h : zwp NC sc zinfo C J fin np es (v0 :: v1 :: v2 :: v3 :: v4 :: v5 :: .ref x :: r) (.ref x :: st) M) : zwp NC sc zinfo C J fin np ((pc, .aload 6, len, a, b, t) :: es) (v0 :: v1 :: v2 :: v3 :: v4 :: v5 :: .ref x :: r) (st) M := h
theorem p_istore_6 {v0 v1 v2 v3 v4 v5 v6 : Value} {r : List Value} {x : Int32} (hz : zsl (v0 :: v1 :: v2 :: v3 :: v4 :: v5 :: v6 :: r) 6 (.int x) = v0 :: v1 :: v2 :: v3 :: v4 :: v5 :: .int x :: r) (h : zwp NC sc zinfo C J fin np es (v0 :: v1 :: v2 :: v3 :: v4 :: v5 :: .int x :: r) (st) M) : zwp NC sc zinfo C J fin np ((pc, .istore 6, len, a, b, t) :: es) (v0 :: v1 :: v2 :: v3 :: v4 :: v5 :: v6 :: r) (.int x :: st) M := ⟨by show 6 < _; simp, by show zwp NC sc zinfo C J fin np es (zsl (v0 :: v1 :: v2 :: v3 :: v4 :: v5 :: v6 :: r) 6 (.int x)) st M; rw [hz]; exact h⟩
theorem p_astore_6 {v0 v1 v2 v3 v4 v5 v6 : Value} {r : List Value} {x : Nat} (hz : zsl (v0 :: v1 :: v2 :: v3 :: v4 :: v5 :: v6 :: r) 6 (.ref x) = v0 :: v1 :: v2 :: v3 :: v4 :: v5 :: .ref x :: r) (h : zwp NC sc zinfo C J fin np es (v0 :: v1 :: v2 :: v3 :: v4 :: v5 :: .ref x :: r) (st) M) : zwp NC sc zinfo C J fin np ((pc, .astore 6, len, a, b, t) :: es) (v0 :: v1 :: v2 :: v3 :: v4 :: v5 :: v6 :: r) (.ref x :: st) M := ⟨by show 6 < _; simp, by show zwp NC sc zinfo C J fin np es (zsl (v0 :: v1 :: v2 :: v3 :: v4 :: v5 :: v6 :: r) 6 (.ref x)) st M; rw [hz]; exact h⟩
theorem p_iinc_6 {v0 v1 v2 v3 v4 v5 : Value} {r : List Value} {x v : Int32} {n : Int} (hv : x + Int32.ofInt n = v) (hz : zsl (v0 :: v1 :: v2 :: v3 :: v4 :: v5 :: .int x :: r) 6 (.int v) = v0 :: v1 :: v2 :: v3 :: v4 :: v5 :: .int v :: r) (h : zwp NC sc zinfo C J fin np es (v0 :: v1 :: v2 :: v3 :: v4 :: v5 :: .int v :: r) (st) M) : zwp NC sc zinfo C J fin np ((pc, .iinc 6 n, len, a, b, t) :: es) (v0 :: v1 :: v2 :: v3 :: v4 :: v5 :: .int x :: r) (st) M := by subst hv; exact ⟨by simp, by rw [hz]; exact h⟩
theorem p_iload_7 {v0 v1 v2 v3 v4 v5 v6 : Value} {r : List Value} {x : Int32} (h : zwp NC sc zinfo C J fin np es (v0 :: v1 :: v2 :: v3 :: v4 :: v5 :: v6 :: .int x :: r) (.int x :: st) M) : zwp NC sc zinfo C J fin np ((pc, .iload 7, len, a, b, t) :: es) (v0 :: v1 :: v2 :: v3 :: v4 :: v5 :: v6 :: .int x :: r) (st) M := h
theorem p_aload_7 {v0 v1 v2 v3 v4 v5 v6 : Value} {r : List Value} {x : Nat} (h : zwp NC sc zinfo C J fin np es (v0 :: v1 :: v2 :: v3 :: v4 :: v5 :: v6 :: .ref x :: r) (.ref x :: st) M) : zwp NC sc zinfo C J fin np ((pc, .aload 7, len, a, b, t) :: es) (v0 :: v1 :: v2 :: v3 :: v4 :: v5 :: v6 :: .ref x :: r) (st) M := h
theorem p_istore_7 {v0 v1 v2 v3 v4 v5 v6 v7 : Value} {r : List Value} {x : Int32} (hz : zsl (v0 :: v1 :: v2 :: v3 :: v4 :: v5 :: v6 :: v7 :: r) 7 (.int x) = v0 :: v1 :: v2 :: v3 :: v4 :: v5 :: v6 :: .int x :: r) (h : zwp NC sc zinfo C J fin np es (v0 :: v1 :: v2 :: v3 :: v4 :: v5 :: v6 :: .int x :: r) (st) M) : zwp NC sc zinfo C J fin np ((pc, .istore 7, len, a, b, t) :: es) (v0 :: v1 :: v2 :: v3 :: v4 :: v5 :: v6 :: v7 :: r) (.int x :: st) M := ⟨by show 7 < _; simp, by show zwp NC sc zinfo C J fin np es (zsl (v0 :: v1 :: v2 :: v3 :: v4 :: v5 :: v6 :: v7 :: r) 7 (.int x)) st M; rw [hz]; exact h⟩
theorem p_astore_7 {v0 v1 v2 v3 v4 v5 v6 v7 : Value} {r : List Value} {x : Nat} (hz : zsl (v0 :: v1 :: v2 :: v3 :: v4 :: v5 :: v6 :: v7 :: r) 7 (.ref x) = v0 :: v1 :: v2 :: v3 :: v4 :: v5 :: v6 :: .ref x :: r) (h : zwp NC sc zinfo C J fin np es (v0 :: v1 :: v2 :: v3 :: v4 :: v5 :: v6 :: .ref x :: r) (st) M) : zwp NC sc zinfo C J fin np ((pc, .astore 7, len, a, b, t) :: es) (v0 :: v1 :: v2 :: v3 :: v4 :: v5 :: v6 :: v7 :: r) (.ref x :: st) M := ⟨by show 7 < _; simp, by show zwp NC sc zinfo C J fin np es (zsl (v0 :: v1 :: v2 :: v3 :: v4 :: v5 :: v6 :: v7 :: r) 7 (.ref x)) st M; rw [hz]; exact h⟩
theorem p_iinc_7 {v0 v1 v2 v3 v4 v5 v6 : Value} {r : List Value} {x v : Int32} {n : Int} (hv : x + Int32.ofInt n = v) (hz : zsl (v0 :: v1 :: v2 :: v3 :: v4 :: v5 :: v6 :: .int x :: r) 7 (.int v) = v0 :: v1 :: v2 :: v3 :: v4 :: v5 :: v6 :: .int v :: r) (h : zwp NC sc zinfo C J fin np es (v0 :: v1 :: v2 :: v3 :: v4 :: v5 :: v6 :: .int v :: r) (st) M) : zwp NC sc zinfo C J fin np ((pc, .iinc 7 n, len, a, b, t) :: es) (v0 :: v1 :: v2 :: v3 :: v4 :: v5 :: v6 :: .int x :: r) (st) M := by subst hv; exact ⟨by simp, by rw [hz]; exact h⟩
theorem p_iload_8 {v0 v1 v2 v3 v4 v5 v6 v7 : Value} {r : List Value} {x : Int32} (h : zwp NC sc zinfo C J fin np es (v0 :: v1 :: v2 :: v3 :: v4 :: v5 :: v6 :: v7 :: .int x :: r) (.int x :: st) M) : zwp NC sc zinfo C J fin np ((pc, .iload 8, len, a, b, t) :: es) (v0 :: v1 :: v2 :: v3 :: v4 :: v5 :: v6 :: v7 :: .int x :: r) (st) M := h
theorem p_aload_8 {v0 v1 v2 v3 v4 v5 v6 v7 : Value} {r : List Value} {x : Nat} (h : zwp NC sc zinfo C J fin np es (v0 :: v1 :: v2 :: v3 :: v4 :: v5 :: v6 :: v7 :: .ref x :: r) (.ref x :: st) M) : zwp NC sc zinfo C J fin np ((pc, .aload 8, len, a, b, t) :: es) (v0 :: v1 :: v2 :: v3 :: v4 :: v5 :: v6 :: v7 :: .ref x :: r) (st) M := h
theorem p_istore_8 {v0 v1 v2 v3 v4 v5 v6 v7 v8 : Value} {r : List Value} {x : Int32} (hz : zsl (v0 :: v1 :: v2 :: v3 :: v4 :: v5 :: v6 :: v7 :: v8 :: r) 8 (.int x) = v0 :: v1 :: v2 :: v3 :: v4 :: v5 :: v6 :: v7 :: .int x :: r) (h : zwp NC sc zinfo C J fin np es (v0 :: v1 :: v2 :: v3 :: v4 :: v5 :: v6 :: v7 :: .int x :: r) (st) M) : zwp NC sc zinfo C J fin np ((pc, .istore 8, len, a, b, t) :: es) (v0 :: v1 :: v2 :: v3 :: v4 :: v5 :: v6 :: v7 :: v8 :: r) (.int x :: st) M := ⟨by show 8 < _; simp, by show zwp NC sc zinfo C J fin np es (zsl (v0 :: v1 :: v2 :: v3 :: v4 :: v5 :: v6 :: v7 :: v8 :: r) 8 (.int x)) st M; rw [hz]; exact h⟩
theorem p_astore_8 {v0 v1 v2 v3 v4 v5 v6 v7 v8 : Value} {r : List Value} {x : Nat} (hz : zsl (v0 :: v1 :: v2 :: v3 :: v4 :: v5 :: v6 :: v7 :: v8 :: r) 8 (.ref x) = v0 :: v1 :: v2 :: v3 :: v4 :: v5 :: v6 :: v7 :: .ref x :: r) (h : zwp NC sc zinfo C J fin np es (v0 :: v1 :: v2 :: v3 :: v4 :: v5 :: v6 :: v7 :: .ref x :: r) (st) M) : zwp NC sc zinfo C J fin np ((pc, .astore 8, len, a, b, t) :: es) (v0 :: v1 :: v2 :: v3 :: v4 :: v5 :: v6 :: v7 :: v8 :: r) (.ref x :: st) M := ⟨by show 8 < _; simp, by show zwp NC sc zinfo C J fin np es (zsl (v0 :: v1 :: v2 :: v3 :: v4 :: v5 :: v6 :: v7 :: v8 :: r) 8 (.ref x)) st M; rw [hz]; exact h⟩
theorem p_iinc_8 {v0 v1 v2 v3 v4 v5 v6 v7 : Value} {r : List Value} {x v : Int32} {n : Int} (hv : x + Int32.ofInt n = v) (hz : zsl (v0 :: v1 :: v2 :: v3 :: v4 :: v5 :: v6 :: v7 :: .int x :: r) 8 (.int v) = v0 :: v1 :: v2 :: v3 :: v4 :: v5 :: v6 :: v7 :: .int v :: r) (h : zwp NC sc zinfo C J fin np es (v0 :: v1 :: v2 :: v3 :: v4 :: v5 :: v6 :: v7 :: .int v :: r) (st) M) : zwp NC sc zinfo C J fin np ((pc, .iinc 8 n, len, a, b, t) :: es) (v0 :: v1 :: v2 :: v3 :: v4 :: v5 :: v6 :: v7 :: .int x :: r) (st) M := by subst hv; exact ⟨by simp, by rw [hz]; exact h⟩
theorem p_iload_9 {v0 v1 v2 v3 v4 v5 v6 v7 v8 : Value} {r : List Value} {x : Int32} (h : zwp NC sc zinfo C J fin np es (v0 :: v1 :: v2 :: v3 :: v4 :: v5 :: v6 :: v7 :: v8 :: .int x :: r) (.int x :: st) M) : zwp NC sc zinfo C J fin np ((pc, .iload 9, len, a, b, t) :: es) (v0 :: v1 :: v2 :: v3 :: v4 :: v5 :: v6 :: v7 :: v8 :: .int x :: r) (st) M := h
theorem p_aload_9 {v0 v1 v2 v3 v4 v5 v6 v7 v8 : Value} {r : List Value} {x : Nat} (h : zwp NC sc zinfo C J fin np es (v0 :: v1 :: v2 :: v3 :: v4 :: v5 :: v6 :: v7 :: v8 :: .ref x :: r) (.ref x :: st) M) : zwp NC sc zinfo C J fin np ((pc, .aload 9, len, a, b, t) :: es) (v0 :: v1 :: v2 :: v3 :: v4 :: v5 :: v6 :: v7 :: v8 :: .ref x :: r) (st) M := h
theorem p_istore_9 {v0 v1 v2 v3 v4 v5 v6 v7 v8 v9 : Value} {r : List Value} {x : Int32} (hz : zsl (v0 :: v1 :: v2 :: v3 :: v4 :: v5 :: v6 :: v7 :: v8 :: v9 :: r) 9 (.int x) = v0 :: v1 :: v2 :: v3 :: v4 :: v5 :: v6 :: v7 :: v8 :: .int x :: r) (h : zwp NC sc zinfo C J fin np es (v0 :: v1 :: v2 :: v3 :: v4 :: v5 :: v6 :: v7 :: v8 :: .int x :: r) (st) M) : zwp NC sc zinfo C J fin np ((pc, .istore 9, len, a, b, t) :: es) (v0 :: v1 :: v2 :: v3 :: v4 :: v5 :: v6 :: v7 :: v8 :: v9 :: r) (.int x :: st) M := ⟨by show 9 < _; simp, by show zwp NC sc zinfo C J fin np es (zsl (v0 :: v1 :: v2 :: v3 :: v4 :: v5 :: v6 :: v7 :: v8 :: v9 :: r) 9 (.int x)) st M; rw [hz]; exact h⟩
theorem p_astore_9 {v0 v1 v2 v3 v4 v5 v6 v7 v8 v9 : Value} {r : List Value} {x : Nat} (hz : zsl (v0 :: v1 :: v2 :: v3 :: v4 :: v5 :: v6 :: v7 :: v8 :: v9 :: r) 9 (.ref x) = v0 :: v1 :: v2 :: v3 :: v4 :: v5 :: v6 :: v7 :: v8 :: .ref x :: r) (h : zwp NC sc zinfo C J fin np es (v0 :: v1 :: v2 :: v3 :: v4 :: v5 :: v6 :: v7 :: v8 :: .ref x :: r) (st) M) : zwp NC sc zinfo C J fin np ((pc, .astore 9, len, a, b, t) :: es) (v0 :: v1 :: v2 :: v3 :: v4 :: v5 :: v6 :: v7 :: v8 :: v9 :: r) (.ref x :: st) M := ⟨by show 9 < _; simp, by show zwp NC sc zinfo C J fin np es (zsl (v0 :: v1 :: v2 :: v3 :: v4 :: v5 :: v6 :: v7 :: v8 :: v9 :: r) 9 (.ref x)) st M; rw [hz]; exact h⟩
theorem p_iinc_9 {v0 v1 v2 v3 v4 v5 v6 v7 v8 : Value} {r : List Value} {x v : Int32} {n : Int} (hv : x + Int32.ofInt n = v) (hz : zsl (v0 :: v1 :: v2 :: v3 :: v4 :: v5 :: v6 :: v7 :: v8 :: .int x :: r) 9 (.int v) = v0 :: v1 :: v2 :: v3 :: v4 :: v5 :: v6 :: v7 :: v8 :: .int v :: r) (h : zwp NC sc zinfo C J fin np es (v0 :: v1 :: v2 :: v3 :: v4 :: v5 :: v6 :: v7 :: v8 :: .int v :: r) (st) M) : zwp NC sc zinfo C J fin np ((pc, .iinc 9 n, len, a, b, t) :: es) (v0 :: v1 :: v2 :: v3 :: v4 :: v5 :: v6 :: v7 :: v8 :: .int x :: r) (st) M := by subst hv; exact ⟨by simp, by rw [hz]; exact h⟩
theorem p_iload_10 {v0 v1 v2 v3 v4 v5 v6 v7 v8 v9 : Value} {r : List Value} {x : Int32} (h : zwp NC sc zinfo C J fin np es (v0 :: v1 :: v2 :: v3 :: v4 :: v5 :: v6 :: v7 :: v8 :: v9 :: .int x :: r) (.int x :: st) M) : zwp NC sc zinfo C J fin np ((pc, .iload 10, len, a, b, t) :: es) (v0 :: v1 :: v2 :: v3 :: v4 :: v5 :: v6 :: v7 :: v8 :: v9 :: .int x :: r) (st) M := h
theorem p_aload_10 {v0 v1 v2 v3 v4 v5 v6 v7 v8 v9 : Value} {r : List Value} {x : Nat} (h : zwp NC sc zinfo C J fin np es (v0 :: v1 :: v2 :: v3 :: v4 :: v5 :: v6 :: v7 :: v8 :: v9 :: .ref x :: r) (.ref x :: st) M) : zwp NC sc zinfo C J fin np ((pc, .aload 10, len, a, b, t) :: es) (v0 :: v1 :: v2 :: v3 :: v4 :: v5 :: v6 :: v7 :: v8 :: v9 :: .ref x :: r) (st) M := h
theorem p_istore_10 {v0 v1 v2 v3 v4 v5 v6 v7 v8 v9 v10 : Value} {r : List Value} {x : Int32} (hz : zsl (v0 :: v1 :: v2 :: v3 :: v4 :: v5 :: v6 :: v7 :: v8 :: v9 :: v10 :: r) 10 (.int x) = v0 :: v1 :: v2 :: v3 :: v4 :: v5 :: v6 :: v7 :: v8 :: v9 :: .int x :: r) (h : zwp NC sc zinfo C J fin np es (v0 :: v1 :: v2 :: v3 :: v4 :: v5 :: v6 :: v7 :: v8 :: v9 :: .int x :: r) (st) M) : zwp NC sc zinfo C J fin np ((pc, .istore 10, len, a, b, t) :: es) (v0 :: v1 :: v2 :: v3 :: v4 :: v5 :: v6 :: v7 :: v8 :: v9 :: v10 :: r) (.int x :: st) M := ⟨by show 10 < _; simp, by show zwp NC sc zinfo C J fin np es (zsl (v0 :: v1 :: v2 :: v3 :: v4 :: v5 :: v6 :: v7 :: v8 :: v9 :: v10 :: r) 10 (.int x)) st M; rw [hz]; exact h⟩
theorem p_astore_10 {v0 v1 v2 v3 v4 v5 v6 v7 v8 v9 v10 : Value} {r : List Value} {x : Nat} (hz : zsl (v0 :: v1 :: v2 :: v3 :: v4 :: v5 :: v6 :: v7 :: v8 :: v9 :: v10 :: r) 10 (.ref x) = v0 :: v1 :: v2 :: v3 :: v4 :: v5 :: v6 :: v7 :: v8 :: v9 :: .ref x :: r) (h : zwp NC sc zinfo C J fin np es (v0 :: v1 :: v2 :: v3 :: v4 :: v5 :: v6 :: v7 :: v8 :: v9 :: .ref x :: r) (st) M) : zwp NC sc zinfo C J fin np ((pc, .astore 10, len, a, b, t) :: es) (v0 :: v1 :: v2 :: v3 :: v4 :: v5 :: v6 :: v7 :: v8 :: v9 :: v10 :: r) (.ref x :: st) M := ⟨by show 10 < _; simp, by show zwp NC sc zinfo C J fin np es (zsl (v0 :: v1 :: v2 :: v3 :: v4 :: v5 :: v6 :: v7 :: v8 :: v9 :: v10 :: r) 10 (.ref x)) st M; rw [hz]; exact h⟩
theorem p_iinc_10 {v0 v1 v2 v3 v4 v5 v6 v7 v8 v9 : Value} {r : List Value} {x v : Int32} {n : Int} (hv : x + Int32.ofInt n = v) (hz : zsl (v0 :: v1 :: v2 :: v3 :: v4 :: v5 :: v6 :: v7 :: v8 :: v9 :: .int x :: r) 10 (.int v) = v0 :: v1 :: v2 :: v3 :: v4 :: v5 :: v6 :: v7 :: v8 :: v9 :: .int v :: r) (h : zwp NC sc zinfo C J fin np es (v0 :: v1 :: v2 :: v3 :: v4 :: v5 :: v6 :: v7 :: v8 :: v9 :: .int v :: r) (st) M) : zwp NC sc zinfo C J fin np ((pc, .iinc 10 n, len, a, b, t) :: es) (v0 :: v1 :: v2 :: v3 :: v4 :: v5 :: v6 :: v7 :: v8 :: v9 :: .int x :: r) (st) M := by subst hv; exact ⟨by simp, by rw [hz]; exact h⟩
theorem p_iload_11 {v0 v1 v2 v3 v4 v5 v6 v7 v8 v9 v10 : Value} {r : List Value} {x : Int32} (h : zwp NC sc zinfo C J fin np es (v0 :: v1 :: v2 :: v3 :: v4 :: v5 :: v6 :: v7 :: v8 :: v9 :: v10 :: .int x :: r) (.int x :: st) M) : zwp NC sc zinfo C J fin np ((pc, .iload 11, len, a, b, t) :: es) (v0 :: v1 :: v2 :: v3 :: v4 :: v5 :: v6 :: v7 :: v8 :: v9 :: v10 :: .int x :: r) (st) M := h
theorem p_aload_11 {v0 v1 v2 v3 v4 v5 v6 v7 v8 v9 v10 : Value} {r : List Value} {x : Nat} (h : zwp NC sc zinfo C J fin np es (v0 :: v1 :: v2 :: v3 :: v4 :: v5 :: v6 :: v7 :: v8 :: v9 :: v10 :: .ref x :: r) (.ref x :: st) M) : zwp NC sc zinfo C J fin np ((pc, .aload 11, len, a, b, t) :: es) (v0 :: v1 :: v2 :: v3 :: v4 :: v5 :: v6 :: v7 :: v8 :: v9 :: v10 :: .ref x :: r) (st) M := h
theorem p_istore_11 {v0 v1 v2 v3 v4 v5 v6 v7 v8 v9 v10 v11 : Value} {r : List Value} {x : Int32} (hz : zsl (v0 :: v1 :: v2 :: v3 :: v4 :: v5 :: v6 :: v7 :: v8 :: v9 :: v10 :: v11 :: r) 11 (.int x) = v0 :: v1 :: v2 :: v3 :: v4 :: v5 :: v6 :: v7 :: v8 :: v9 :: v10 :: .int x :: r) (h : zwp NC sc zinfo C J fin np es (v0 :: v1 :: v2 :: v3 :: v4 :: v5 :: v6 :: v7 :: v8 :: v9 :: v10 :: .int x :: r) (st) M) : zwp NC sc zinfo C J fin np ((pc, .istore 11, len, a, b, t) :: es) (v0 :: v1 :: v2 :: v3 :: v4 :: v5 :: v6 :: v7 :: v8 :: v9 :: v10 :: v11 :: r) (.int x :: st) M := ⟨by show 11 < _; simp, by show zwp NC sc zinfo C J fin np es (zsl (v0 :: v1 :: v2 :: v3 :: v4 :: v5 :: v6 :: v7 :: v8 :: v9 :: v10 :: v11 :: r) 11 (.int x)) st M; rw [hz]; exact h⟩
theorem p_astore_11 {v0 v1 v2 v3 v4 v5 v6 v7 v8 v9 v10 v11 : Value} {r : List Value} {x : Nat} (hz : zsl (v0 :: v1 :: v2 :: v3 :: v4 :: v5 :: v6 :: v7 :: v8 :: v9 :: v10 :: v11 :: r) 11 (.ref x) = v0 :: v1 :: v2 :: v3 :: v4 :: v5 :: v6 :: v7 :: v8 :: v9 :: v10 :: .ref x :: r) (h : zwp NC sc zinfo C J fin np es (v0 :: v1 :: v2 :: v3 :: v4 :: v5 :: v6 :: v7 :: v8 :: v9 :: v10 :: .ref x :: r) (st) M) : zwp NC sc zinfo C J fin np ((pc, .astore 11, len, a, b, t) :: es) (v0 :: v1 :: v2 :: v3 :: v4 :: v5 :: v6 :: v7 :: v8 :: v9 :: v10 :: v11 :: r) (.ref x :: st) M := ⟨by show 11 < _; simp, by show zwp NC sc zinfo C J fin np es (zsl (v0 :: v1 :: v2 :: v3 :: v4 :: v5 :: v6 :: v7 :: v8 :: v9 :: v10 :: v11 :: r) 11 (.ref x)) st M; rw [hz]; exact h⟩
theorem p_iinc_11 {v0 v1 v2 v3 v4 v5 v6 v7 v8 v9 v10 : Value} {r : List Value} {x v : Int32} {n : Int} (hv : x + Int32.ofInt n = v) (hz : zsl (v0 :: v1 :: v2 :: v3 :: v4 :: v5 :: v6 :: v7 :: v8 :: v9 :: v10 :: .int x :: r) 11 (.int v) = v0 :: v1 :: v2 :: v3 :: v4 :: v5 :: v6 :: v7 :: v8 :: v9 :: v10 :: .int v :: r) (h : zwp NC sc zinfo C J fin np es (v0 :: v1 :: v2 :: v3 :: v4 :: v5 :: v6 :: v7 :: v8 :: v9 :: v10 :: .int v :: r) (st) M) : zwp NC sc zinfo C J fin np ((pc, .iinc 11 n, len, a, b, t) :: es) (v0 :: v1 :: v2 :: v3 :: v4 :: v5 :: v6 :: v7 :: v8 :: v9 :: v10 :: .int x :: r) (st) M := by subst hv; exact ⟨by simp, by rw [hz]; exact h⟩
theorem p_iload_12 {v0 v1 v2 v3 v4 v5 v6 v7 v8 v9 v10 v11 : Value} {r : List Value} {x : Int32} (h : zwp NC sc zinfo C J fin np es (v0 :: v1 :: v2 :: v3 :: v4 :: v5 :: v6 :: v7 :: v8 :: v9 :: v10 :: v11 :: .int x :: r) (.int x :: st) M) : zwp NC sc zinfo C J fin np ((pc, .iload 12, len, a, b, t) :: es) (v0 :: v1 :: v2 :: v3 :: v4 :: v5 :: v6 :: v7 :: v8 :: v9 :: v10 :: v11 :: .int x :: r) (st) M := h
theorem p_aload_12 {v0 v1 v2 v3 v4 v5 v6 v7 v8 v9 v10 v11 : Value} {r : List Value} {x : Nat} (h : zwp NC sc zinfo C J fin np es (v0 :: v1 :: v2 :: v3 :: v4 :: v5 :: v6 :: v7 :: v8 :: v9 :: v10 :: v11 :: .ref x :: r) (.ref x :: st) M) : zwp NC sc zinfo C J fin np ((pc, .aload 12, len, a, b, t) :: es) (v0 :: v1 :: v2 :: v3 :: v4 :: v5 :: v6 :: v7 :: v8 :: v9 :: v10 :: v11 :: .ref x :: r) (st) M := h
theorem p_istore_12 {v0 v1 v2 v3 v4 v5 v6 v7 v8 v9 v10 v11 v12 : Value} {r : List Value} {x : Int32} (hz : zsl (v0 :: v1 :: v2 :: v3 :: v4 :: v5 :: v6 :: v7 :: v8 :: v9 :: v10 :: v11 :: v12 :: r) 12 (.int x) = v0 :: v1 :: v2 :: v3 :: v4 :: v5 :: v6 :: v7 :: v8 :: v9 :: v10 :: v11 :: .int x :: r) (h : zwp NC sc zinfo C J fin np es (v0 :: v1 :: v2 :: v3 :: v4 :: v5 :: v6 :: v7 :: v8 :: v9 :: v10 :: v11 :: .int x :: r) (st) M) : zwp NC sc zinfo C J fin np ((pc, .istore 12, len, a, b, t) :: es) (v0 :: v1 :: v2 :: v3 :: v4 :: v5 :: v6 :: v7 :: v8 :: v9 :: v10 :: v11 :: v12 :: r) (.int x :: st) M := ⟨by show 12 < _; simp, by show zwp NC sc zinfo C J fin np es (zsl (v0 :: v1 :: v2 :: v3 :: v4 :: v5 :: v6 :: v7 :: v8 :: v9 :: v10 :: v11 :: v12 :: r) 12 (.int x)) st M; rw [hz]; exact h⟩
theorem p_astore_12 {v0 v1 v2 v3 v4 v5 v6 v7 v8 v9 v10 v11 v12 : Value} {r : List Value} {x : Nat} (hz : zsl (v0 :: v1 :: v2 :: v3 :: v4 :: v5 :: v6 :: v7 :: v8 :: v9 :: v10 :: v11 :: v12 :: r) 12 (.ref x) = v0 :: v1 :: v2 :: v3 :: v4 :: v5 :: v6 :: v7 :: v8 :: v9 :: v10 :: v11 :: .ref x :: r) (h : zwp NC sc zinfo C J fin np es (v0 :: v1 :: v2 :: v3 :: v4 :: v5 :: v6 :: v7 :: v8 :: v9 :: v10 :: v11 :: .ref x :: r) (st) M) : zwp NC sc zinfo C J fin np ((pc, .astore 12, len, a, b, t) :: es) (v0 :: v1 :: v2 :: v3 :: v4 :: v5 :: v6 :: v7 :: v8 :: v9 :: v10 :: v11 :: v12 :: r) (.ref x :: st) M := ⟨by show 12 < _; simp, by show zwp NC sc zinfo C J fin np es (zsl (v0 :: v1 :: v2 :: v3 :: v4 :: v5 :: v6 :: v7 :: v8 :: v9 :: v10 :: v11 :: v12 :: r) 12 (.ref x)) st M; rw [hz]; exact h⟩
theorem p_iinc_12 {v0 v1 v2 v3 v4 v5 v6 v7 v8 v9 v10 v11 : Value} {r : List Value} {x v : Int32} {n : Int} (hv : x + Int32.ofInt n = v) (hz : zsl (v0 :: v1 :: v2 :: v3 :: v4 :: v5 :: v6 :: v7 :: v8 :: v9 :: v10 :: v11 :: .int x :: r) 12 (.int v) = v0 :: v1 :: v2 :: v3 :: v4 :: v5 :: v6 :: v7 :: v8 :: v9 :: v10 :: v11 :: .int v :: r) (h : zwp NC sc zinfo C J fin np es (v0 :: v1 :: v2 :: v3 :: v4 :: v5 :: v6 :: v7 :: v8 :: v9 :: v10 :: v11 :: .int v :: r) (st) M) : zwp NC sc zinfo C J fin np ((pc, .iinc 12 n, len, a, b, t) :: es) (v0 :: v1 :: v2 :: v3 :: v4 :: v5 :: v6 :: v7 :: v8 :: v9 :: v10 :: v11 :: .int x :: r) (st) M := by subst hv; exact ⟨by simp, by rw [hz]; exact h⟩
theorem p_iload_13 {v0 v1 v2 v3 v4 v5 v6 v7 v8 v9 v10 v11 v12 : Value} {r : List Value} {x : Int32} (h : zwp NC sc zinfo C J fin np es (v0 :: v1 :: v2 :: v3 :: v4 :: v5 :: v6 :: v7 :: v8 :: v9 :: v10 :: v11 :: v12 :: .int x :: r) (.int x :: st) M) : zwp NC sc zinfo C J fin np ((pc, .iload 13, len, a, b, t) :: es) (v0 :: v1 :: v2 :: v3 :: v4 :: v5 :: v6 :: v7 :: v8 :: v9 :: v10 :: v11 :: v12 :: .int x :: r) (st) M := h
theorem p_aload_13 {v0 v1 v2 v3 v4 v5 v6 v7 v8 v9 v10 v11 v12 : Value} {r : List Value} {x : Nat} (h : zwp NC sc zinfo C J fin np es (v0 :: v1 :: v2 :: v3 :: v4 :: v5 :: v6 :: v7 :: v8 :: v9 :: v10 :: v11 :: v12 :: .ref x :: r) (.ref x :: st) M) : zwp NC sc zinfo C J fin np ((pc, .aload 13, len, a, b, t) :: es) (v0 :: v1 :: v2 :: v3 :: v4 :: v5 :: v6 :: v7 :: v8 :: v9 :: v10 :: v11 :: v12 :: .ref x :: r) (st) M := h
theorem p_istore_13 {v0 v1 v2 v3 v4 v5 v6 v7 v8 v9 v10 v11 v12 v13 : Value} {r : List Value} {x : Int32} (hz : zsl (v0 :: v1 :: v2 :: v3 :: v4 :: v5 :: v6 :: v7 :: v8 :: v9 :: v10 :: v11 :: v12 :: v13 :: r) 13 (.int x) = v0 :: v1 :: v2 :: v3 :: v4 :: v5 :: v6 :: v7 :: v8 :: v9 :: v10 :: v11 :: v12 :: .int x :: r) (h : zwp NC sc zinfo C J fin np es (v0 :: v1 :: v2 :: v3 :: v4 :: v5 :: v6 :: v7 :: v8 :: v9 :: v10 :: v11 :: v12 :: .int x :: r) (st) M) : zwp NC sc zinfo C J fin np ((pc, .istore 13, len, a, b, t) :: es) (v0 :: v1 :: v2 :: v3 :: v4 :: v5 :: v6 :: v7 :: v8 :: v9 :: v10 :: v11 :: v12 :: v13 :: r) (.int x :: st) M := ⟨by show 13 < _; simp, by show zwp NC sc zinfo C J fin np es (zsl (v0 :: v1 :: v2 :: v3 :: v4 :: v5 :: v6 :: v7 :: v8 :: v9 :: v10 :: v11 :: v12 :: v13 :: r) 13 (.int x)) st M; rw [hz]; exact h⟩
theorem p_astore_13 {v0 v1 v2 v3 v4 v5 v6 v7 v8 v9 v10 v11 v12 v13 : Value} {r : List Value} {x : Nat} (hz : zsl (v0 :: v1 :: v2 :: v3 :: v4 :: v5 :: v6 :: v7 :: v8 :: v9 :: v10 :: v11 :: v12 :: v13 :: r) 13 (.ref x) = v0 :: v1 :: v2 :: v3 :: v4 :: v5 :: v6 :: v7 :: v8 :: v9 :: v10 :: v11 :: v12 :: .ref x :: r) (h : zwp NC sc zinfo C J fin np es (v0 :: v1 :: v2 :: v3 :: v4 :: v5 :: v6 :: v7 :: v8 :: v9 :: v10 :: v11 :: v12 :: .ref x :: r) (st) M) : zwp NC sc zinfo C J fin np ((pc, .astore 13, len, a, b, t) :: es) (v0 :: v1 :: v2 :: v3 :: v4 :: v5 :: v6 :: v7 :: v8 :: v9 :: v10 :: v11 :: v12 :: v13 :: r) (.ref x :: st) M := ⟨by show 13 < _; simp, by show zwp NC sc zinfo C J fin np es (zsl (v0 :: v1 :: v2 :: v3 :: v4 :: v5 :: v6 :: v7 :: v8 :: v9 :: v10 :: v11 :: v12 :: v13 :: r) 13 (.ref x)) st M; rw [hz]; exact h⟩
theorem p_iinc_13 {v0 v1 v2 v3 v4 v5 v6 v7 v8 v9 v10 v11 v12 : Value} {r : List Value} {x v : Int32} {n : Int} (hv : x + Int32.ofInt n = v) (hz : zsl (v0 :: v1 :: v2 :: v3 :: v4 :: v5 :: v6 :: v7 :: v8 :: v9 :: v10 :: v11 :: v12 :: .int x :: r) 13 (.int v) = v0 :: v1 :: v2 :: v3 :: v4 :: v5 :: v6 :: v7 :: v8 :: v9 :: v10 :: v11 :: v12 :: .int v :: r) (h : zwp NC sc zinfo C J fin np es (v0 :: v1 :: v2 :: v3 :: v4 :: v5 :: v6 :: v7 :: v8 :: v9 :: v10 :: v11 :: v12 :: .int v :: r) (st) M) : zwp NC sc zinfo C J fin np ((pc, .iinc 13 n, len, a, b, t) :: es) (v0 :: v1 :: v2 :: v3 :: v4 :: v5 :: v6 :: v7 :: v8 :: v9 :: v10 :: v11 :: v12 :: .int x :: r) (st) M := by subst hv; exact ⟨by simp, by rw [hz]; exact h⟩
theorem p_iload_14 {v0 v1 v2 v3 v4 v5 v6 v7 v8 v9 v10 v11 v12 v13 : Value} {r : List Value} {x : Int32} (h : zwp NC sc zinfo C J fin np es (v0 :: v1 :: v2 :: v3 :: v4 :: v5 :: v6 :: v7 :: v8 :: v9 :: v10 :: v11 :: v12 :: v13 :: .int x :: r) (.int x :: st) M) : zwp NC sc zinfo C J fin np ((pc, .iload 14, len, a, b, t) :: es) (v0 :: v1 :: v2 :: v3 :: v4 :: v5 :: v6 :: v7 :: v8 :: v9 :: v10 :: v11 :: v12 :: v13 :: .int x :: r) (st) M := h
theorem p_aload_14 {v0 v1 v2 v3 v4 v5 v6 v7 v8 v9 v10 v11 v12 v13 : Value} {r : List Value} {x : Nat} (h : zwp NC sc zinfo C J fin np es (v0 :: v1 :: v2 :: v3 :: v4 :: v5 :: v6 :: v7 :: v8 :: v9 :: v10 :: v11 :: v12 :: v13 :: .ref x :: r) (.ref x :: st) M) : zwp NC sc zinfo C J fin np ((pc, .aload 14, len, a, b, t) :: es) (v0 :: v1 :: v2 :: v3 :: v4 :: v5 :: v6 :: v7 :: v8 :: v9 :: v10 :: v11 :: v12 :: v13 :: .ref x :: r) (st) M := h
theorem p_istore_14 {v0 v1 v2 v3 v4 v5 v6 v7 v8 v9 v10 v11 v12 v13 v14 : Value} {r : List Value} {x : Int32} (hz : zsl (v0 :: v1 :: v2 :: v3 :: v4 :: v5 :: v6 :: v7 :: v8 :: v9 :: v10 :: v11 :: v12 :: v13 :: v14 :: r) 14 (.int x) = v0 :: v1 :: v2 :: v3 :: v4 :: v5 :: v6 :: v7 :: v8 :: v9 :: v10 :: v11 :: v12 :: v13 :: .int x :: r) (h : zwp NC sc zinfo C J fin np es (v0 :: v1 :: v2 :: v3 :: v4 :: v5 :: v6 :: v7 :: v8 :: v9 :: v10 :: v11 :: v12 :: v13 :: .int x :: r) (st) M) : zwp NC sc zinfo C J fin np ((pc, .istore 14, len, a, b, t) :: es) (v0 :: v1 :: v2 :: v3 :: v4 :: v5 :: v6 :: v7 :: v8 :: v9 :: v10 :: v11 :: v12 :: v13 :: v14 :: r) (.int x :: st) M := ⟨by show 14 < _; simp, by show zwp NC sc zinfo C J fin np es (zsl (v0 :: v1 :: v2 :: v3 :: v4 :: v5 :: v6 :: v7 :: v8 :: v9 :: v10 :: v11 :: v12 :: v13 :: v14 :: r) 14 (.int x)) st M; rw [hz]; exact h⟩
theorem p_astore_14 {v0 v1 v2 v3 v4 v5 v6 v7 v8 v9 v10 v11 v12 v13 v14 : Value} {r : List Value} {x : Nat} (hz : zsl (v0 :: v1 :: v2 :: v3 :: v4 :: v5 :: v6 :: v7 :: v8 :: v9 :: v10 :: v11 :: v12 :: v13 :: v14 :: r) 14 (.ref x) = v0 :: v1 :: v2 :: v3 :: v4 :: v5 :: v6 :: v7 :: v8 :: v9 :: v10 :: v11 :: v12 :: v13 :: .ref x :: r) (h : zwp NC sc zinfo C J fin np es (v0 :: v1 :: v2 :: v3 :: v4 :: v5 :: v6 :: v7 :: v8 :: v9 :: v10 :: v11 :: v12 :: v13 :: .ref x :: r) (st) M) : zwp NC sc zinfo C J fin np ((pc, .astore 14, len, a, b, t) :: es) (v0 :: v1 :: v2 :: v3 :: v4 :: v5 :: v6 :: v7 :: v8 :: v9 :: v10 :: v11 :: v12 :: v13 :: v14 :: r) (.ref x :: st) M := ⟨by show 14 < _; simp, by show zwp NC sc zinfo C J fin np es (zsl (v0 :: v1 :: v2 :: v3 :: v4 :: v5 :: v6 :: v7 :: v8 :: v9 :: v10 :: v11 :: v12 :: v13 :: v14 :: r) 14 (.ref x)) st M; rw [hz]; exact h⟩
theorem p_iinc_14 {v0 v1 v2 v3 v4 v5 v6 v7 v8 v9 v10 v11 v12 v13 : Value} {r : List Value} {x v : Int32} {n : Int} (hv : x + Int32.ofInt n = v) (hz : zsl (v0 :: v1 :: v2 :: v3 :: v4 :: v5 :: v6 :: v7 :: v8 :: v9 :: v10 :: v11 :: v12 :: v13 :: .int x :: r) 14 (.int v) = v0 :: v1 :: v2 :: v3 :: v4 :: v5 :: v6 :: v7 :: v8 :: v9 :: v10 :: v11 :: v12 :: v13 :: .int v :: r) (h : zwp NC sc zinfo C J fin np es (v0 :: v1 :: v2 :: v3 :: v4 :: v5 :: v6 :: v7 :: v8 :: v9 :: v10 :: v11 :: v12 :: v13 :: .int v :: r) (st) M) : zwp NC sc zinfo C J fin np ((pc, .iinc 14 n, len, a, b, t) :: es) (v0 :: v1 :: v2 :: v3 :: v4 :: v5 :: v6 :: v7 :: v8 :: v9 :: v10 :: v11 :: v12 :: v13 :: .int x :: r) (st) M := by subst hv; exact ⟨by simp, by rw [hz]; exact h⟩
theorem p_iload_15 {v0 v1 v2 v3 v4 v5 v6 v7 v8 v9 v10 v11 v12 v13 v14 : Value} {r : List Value} {x : Int32} (h : zwp NC sc zinfo C J fin np es (v0 :: v1 :: v2 :: v3 :: v4 :: v5 :: v6 :: v7 :: v8 :: v9 :: v10 :: v11 :: v12 :: v13 :: v14 :: .int x :: r) (.int x :: st) M) : zwp NC sc zinfo C J fin np ((pc, .iload 15, len, a, b, t) :: es) (v0 :: v1 :: v2 :: v3 :: v4 :: v5 :: v6 :: v7 :: v8 :: v9 :: v10 :: v11 :: v12 :: v13 :: v14 :: .int x :: r) (st) M := h
theorem p_aload_15 {v0 v1 v2 v3 v4 v5 v6 v7 v8 v9 v10 v11 v12 v13 v14 : Value} {r : List Value} {x : Nat} (h : zwp NC sc zinfo C J fin np es (v0 :: v1 :: v2 :: v3 :: v4 :: v5 :: v6 :: v7 :: v8 :: v9 :: v10 :: v11 :: v12 :: v13 :: v14 :: .ref x :: r) (.ref x :: st) M) : zwp NC sc zinfo C J fin np ((pc, .aload 15, len, a, b, t) :: es) (v0 :: v1 :: v2 :: v3 :: v4 :: v5 :: v6 :: v7 :: v8 :: v9 :: v10 :: v11 :: v12 :: v13 :: v14 :: .ref x :: r) (st) M := h
theorem p_istore_15 {v0 v1 v2 v3 v4 v5 v6 v7 v8 v9 v10 v11 v12 v13 v14 v15 : Value} {r : List Value} {x : Int32} (hz : zsl (v0 :: v1 :: v2 :: v3 :: v4 :: v5 :: v6 :: v7 :: v8 :: v9 :: v10 :: v11 :: v12 :: v13 :: v14 :: v15 :: r) 15 (.int x) = v0 :: v1 :: v2 :: v3 :: v4 :: v5 :: v6 :: v7 :: v8 :: v9 :: v10 :: v11 :: v12 :: v13 :: v14 :: .int x :: r) (h : zwp NC sc zinfo C J fin np es (v0 :: v1 :: v2 :: v3 :: v4 :: v5 :: v6 :: v7 :: v8 :: v9 :: v10 :: v11 :: v12 :: v13 :: v14 :: .int x :: r) (st) M) : zwp NC sc zinfo C J fin np ((pc, .istore 15, len, a, b, t) :: es) (v0 :: v1 :: v2 :: v3 :: v4 :: v5 :: v6 :: v7 :: v8 :: v9 :: v10 :: v11 :: v12 :: v13 :: v14 :: v15 :: r) (.int x :: st) M := ⟨by show 15 < _; simp, by show zwp NC sc zinfo C J fin np es (zsl (v0 :: v1 :: v2 :: v3 :: v4 :: v5 :: v6 :: v7 :: v8 :: v9 :: v10 :: v11 :: v12 :: v13 :: v14 :: v15 :: r) 15 (.int x)) st M; rw [hz]; exact h⟩
theorem p_astore_15 {v0 v1 v2 v3 v4 v5 v6 v7 v8 v9 v10 v11 v12 v13 v14 v15 : Value} {r : List Value} {x : Nat} (hz : zsl (v0 :: v1 :: v2 :: v3 :: v4 :: v5 :: v6 :: v7 :: v8 :: v9 :: v10 :: v11 :: v12 :: v13 :: v14 :: v15 :: r) 15 (.ref x) = v0 :: v1 :: v2 :: v3 :: v4 :: v5 :: v6 :: v7 :: v8 :: v9 :: v10 :: v11 :: v12 :: v13 :: v14 :: .ref x :: r) (h : zwp NC sc zinfo C J fin np es (v0 :: v1 :: v2 :: v3 :: v4 :: v5 :: v6 :: v7 :: v8 :: v9 :: v10 :: v11 :: v12 :: v13 :: v14 :: .ref x :: r) (st) M) : zwp NC sc zinfo C J fin np ((pc, .astore 15, len, a, b, t) :: es) (v0 :: v1 :: v2 :: v3 :: v4 :: v5 :: v6 :: v7 :: v8 :: v9 :: v10 :: v11 :: v12 :: v13 :: v14 :: v15 :: r) (.ref x :: st) M := ⟨by show 15 < _; simp, by show zwp NC sc zinfo C J fin np es (zsl (v0 :: v1 :: v2 :: v3 :: v4 :: v5 :: v6 :: v7 :: v8 :: v9 :: v10 :: v11 :: v12 :: v13 :: v14 :: v15 :: r) 15 (.ref x)) st M; rw [hz]; exact h⟩
theorem p_iinc_15 {v0 v1 v2 v3 v4 v5 v6 v7 v8 v9 v10 v11 v12 v13 v14 : Value} {r : List Value} {x v : Int32} {n : Int} (hv : x + Int32.ofInt n = v) (hz : zsl (v0 :: v1 :: v2 :: v3 :: v4 :: v5 :: v6 :: v7 :: v8 :: v9 :: v10 :: v11 :: v12 :: v13 :: v14 :: .int x :: r) 15 (.int v) = v0 :: v1 :: v2 :: v3 :: v4 :: v5 :: v6 :: v7 :: v8 :: v9 :: v10 :: v11 :: v12 :: v13 :: v14 :: .int v :: r) (h : zwp NC sc zinfo C J fin np es (v0 :: v1 :: v2 :: v3 :: v4 :: v5 :: v6 :: v7 :: v8 :: v9 :: v10 :: v11 :: v12 :: v13 :: v14 :: .int v :: r) (st) M) : zwp NC sc zinfo C J fin np ((pc, .iinc 15 n, len, a, b, t) :: es) (v0 :: v1 :: v2 :: v3 :: v4 :: v5 :: v6 :: v7 :: v8 :: v9 :: v10 :: v11 :: v12 :: v13 :: v14 :: .int x :: r) (st) M := by subst hv; exact ⟨by simp, by rw [hz]; exact h⟩
theorem p_iload_16 {v0 v1 v2 v3 v4 v5 v6 v7 v8 v9 v10 v11 v12 v13 v14 v15 : Value} {r : List Value} {x : Int32} (h : zwp NC sc zinfo C J fin np es (v0 :: v1 :: v2 :: v3 :: v4 :: v5 :: v6 :: v7 :: v8 :: v9 :: v10 :: v11 :: v12 :: v13 :: v14 :: v15 :: .int x :: r) (.int x :: st) M) : zwp NC sc zinfo C J fin np ((pc, .iload 16, len, a, b, t) :: es) (v0 :: v1 :: v2 :: v3 :: v4 :: v5 :: v6 :: v7 :: v8 :: v9 :: v10 :: v11 :: v12 :: v13 :: v14 :: v15 :: .int x :: r) (st) M := h
theorem p_aload_16 {v0 v1 v2 v3 v4 v5 v6 v7 v8 v9 v10 v11 v12 v13 v14 v15 : Value} {r : List Value} {x : Nat} (h : zwp NC sc zinfo C J fin np es (v0 :: v1 :: v2 :: v3 :: v4 :: v5 :: v6 :: v7 :: v8 :: v9 :: v10 :: v11 :: v12 :: v13 :: v14 :: v15 :: .ref x :: r) (.ref x :: st) M) : zwp NC sc zinfo C J fin np ((pc, .aload 16, len, a, b, t) :: es) (v0 :: v1 :: v2 :: v3 :: v4 :: v5 :: v6 :: v7 :: v8 :: v9 :: v10 :: v11 :: v12 :: v13 :: v14 :: v15 :: .ref x :: r) (st) M := h
theorem p_istore_16 {v0 v1 v2 v3 v4 v5 v6 v7 v8 v9 v10 v11 v12 v13 v14 v15 v16 : Value} {r : List Value} {x : Int32} (hz : zsl (v0 :: v1 :: v2 :: v3 :: v4 :: v5 :: v6 :: v7 :: v8 :: v9 :: v10 :: v11 :: v12 :: v13 :: v14 :: v15 :: v16 :: r) 16 (.int x) = v0 :: v1 :: v2 :: v3 :: v4 :: v5 :: v6 :: v7 :: v8 :: v9 :: v10 :: v11 :: v12 :: v13 :: v14 :: v15 :: .int x :: r) (h : zwp NC sc zinfo C J fin np es (v0 :: v1 :: v2 :: v3 :: v4 :: v5 :: v6 :: v7 :: v8 :: v9 :: v10 :: v11 :: v12 :: v13 :: v14 :: v15 :: .int x :: r) (st) M) : zwp NC sc zinfo C J fin np ((pc, .istore 16, len, a, b, t) :: es) (v0 :: v1 :: v2 :: v3 :: v4 :: v5 :: v6 :: v7 :: v8 :: v9 :: v10 :: v11 :: v12 :: v13 :: v14 :: v15 :: v16 :: r) (.int x :: st) M := ⟨by show 16 < _; simp, by show zwp NC sc zinfo C J fin np es (zsl (v0 :: v1 :: v2 :: v3 :: v4 :: v5 :: v6 :: v7 :: v8 :: v9 :: v10 :: v11 :: v12 :: v13 :: v14 :: v15 :: v16 :: r) 16 (.int x)) st M; rw [hz]; exact h⟩
theorem p_astore_16 {v0 v1 v2 v3 v4 v5 v6 v7 v8 v9 v10 v11 v12 v13 v14 v15 v16 : Value} {r : List Value} {x : Nat} (hz : zsl (v0 :: v1 :: v2 :: v3 :: v4 :: v5 :: v6 :: v7 :: v8 :: v9 :: v10 :: v11 :: v12 :: v13 :: v14 :: v15 :: v16 :: r) 16 (.ref x) = v0 :: v1 :: v2 :: v3 :: v4 :: v5 :: v6 :: v7 :: v8 :: v9 :: v10 :: v11 :: v12 :: v13 :: v14 :: v15 :: .ref x :: r) (h : zwp NC sc zinfo C J fin np es (v0 :: v1 :: v2 :: v3 :: v4 :: v5 :: v6 :: v7 :: v8 :: v9 :: v10 :: v11 :: v12 :: v13 :: v14 :: v15 :: .ref x :: r) (st) M) : zwp NC sc zinfo C J fin np ((pc, .astore 16, len, a, b, t) :: es) (v0 :: v1 :: v2 :: v3 :: v4 :: v5 :: v6 :: v7 :: v8 :: v9 :: v10 :: v11 :: v12 :: v13 :: v14 :: v15 :: v16 :: r) (.ref x :: st) M := ⟨by show 16 < _; simp, by show zwp NC sc zinfo C J fin np es (zsl (v0 :: v1 :: v2 :: v3 :: v4 :: v5 :: v6 :: v7 :: v8 :: v9 :: v10 :: v11 :: v12 :: v13 :: v14 :: v15 :: v16 :: r) 16 (.ref x)) st M; rw [hz]; exact h⟩
theorem p_iinc_16 {v0 v1 v2 v3 v4 v5 v6 v7 v8 v9 v10 v11 v12 v13 v14 v15 : Value} {r : List Value} {x v : Int32} {n : Int} (hv : x + Int32.ofInt n = v) (hz : zsl (v0 :: v1 :: v2 :: v3 :: v4 :: v5 :: v6 :: v7 :: v8 :: v9 :: v10 :: v11 :: v12 :: v13 :: v14 :: v15 :: .int x :: r) 16 (.int v) = v0 :: v1 :: v2 :: v3 :: v4 :: v5 :: v6 :: v7 :: v8 :: v9 :: v10 :: v11 :: v12 :: v13 :: v14 :: v15 :: .int v :: r) (h : zwp NC sc zinfo C J fin np es (v0 :: v1 :: v2 :: v3 :: v4 :: v5 :: v6 :: v7 :: v8 :: v9 :: v10 :: v11 :: v12 :: v13 :: v14 :: v15 :: .int v :: r) (st) M) : zwp NC sc zinfo C J fin np ((pc, .iinc 16 n, len, a, b, t) :: es) (v0 :: v1 :: v2 :: v3 :: v4 :: v5 :: v6 :: v7 :: v8 :: v9 :: v10 :: v11 :: v12 :: v13 :: v14 :: v15 :: .int x :: r) (st) M := by subst hv; exact ⟨by simp, by rw [hz]; exact h⟩
theorem p_iadd {x y : Int32} (h : zwp NC sc zinfo C J fin np es (L) (.int (x + y) :: st) M) : zwp NC sc zinfo C J fin np ((pc, .iadd, len, a, b, t) :: es) (L) (.int y :: .int x :: st) M := h
theorem p_iaddv {x y v : Int32} (hv : x + y = v) (h : zwp NC sc zinfo C J fin np es (L) (.int v :: st) M) : zwp NC sc zinfo C J fin np ((pc, .iadd, len, a, b, t) :: es) (L) (.int y :: .int x :: st) M := by subst hv; exact h
theorem p_isub {x y : Int32} (h : zwp NC sc zinfo C J fin np es (L) (.int (x - y) :: st) M) : zwp NC sc zinfo C J fin np ((pc, .isub, len, a, b, t) :: es) (L) (.int y :: .int x :: st) M := h
theorem p_isubv {x y v : Int32} (hv : x - y = v) (h : zwp NC sc zinfo C J fin np es (L) (.int v :: st) M) : zwp NC sc zinfo C J fin np ((pc, .isub, len, a, b, t) :: es) (L) (.int y :: .int x :: st) M := by subst hv; exact h
theorem p_imul {x y : Int32} (h : zwp NC sc zinfo C J fin np es (L) (.int (x * y) :: st) M) : zwp NC sc zinfo C J fin np ((pc, .imul, len, a, b, t) :: es) (L) (.int y :: .int x :: st) M := h
theorem p_imulv {x y v : Int32} (hv : x * y = v) (h : zwp NC sc zinfo C J fin np es (L) (.int v :: st) M) : zwp NC sc zinfo C J fin np ((pc, .imul, len, a, b, t) :: es) (L) (.int y :: .int x :: st) M := by subst hv; exact h
theorem p_iand {x y : Int32} (h : zwp NC sc zinfo C J fin np es (L) (.int (x &&& y) :: st) M) : zwp NC sc zinfo C J fin np ((pc, .iand, len, a, b, t) :: es) (L) (.int y :: .int x :: st) M := h
theorem p_iandv {x y v : Int32} (hv : x &&& y = v) (h : zwp NC sc zinfo C J fin np es (L) (.int v :: st) M) : zwp NC sc zinfo C J fin np ((pc, .iand, len, a, b, t) :: es) (L) (.int y :: .int x :: st) M := by subst hv; exact h
theorem p_ior {x y : Int32} (h : zwp NC sc zinfo C J fin np es (L) (.int (x ||| y) :: st) M) : zwp NC sc zinfo C J fin np ((pc, .ior, len, a, b, t) :: es) (L) (.int y :: .int x :: st) M := h
theorem p_iorv {x y v : Int32} (hv : x ||| y = v) (h : zwp NC sc zinfo C J fin np es (L) (.int v :: st) M) : zwp NC sc zinfo C J fin np ((pc, .ior, len, a, b, t) :: es) (L) (.int y :: .int x :: st) M := by subst hv; exact h
theorem p_ixor {x y : Int32} (h : zwp NC sc zinfo C J fin np es (L) (.int (x ^^^ y) :: st) M) : zwp NC sc zinfo C J fin np ((pc, .ixor, len, a, b, t) :: es) (L) (.int y :: .int x :: st) M := h
theorem p_ixorv {x y v : Int32} (hv : x ^^^ y = v) (h : zwp NC sc zinfo C J fin np es (L) (.int v :: st) M) : zwp NC sc zinfo C J fin np ((pc, .ixor, len, a, b, t) :: es) (L) (.int y :: .int x :: st) M := by subst hv; exact h
theorem p_ishl {x y : Int32} (h : zwp NC sc zinfo C J fin np es (L) (.int (x <<< (y &&& 31)) :: st) M) : zwp NC sc zinfo C J fin np ((pc, .ishl, len, a, b, t) :: es) (L) (.int y :: .int x :: st) M := h
theorem p_ishlv {x y v : Int32} (hv : x <<< (y &&& 31) = v) (h : zwp NC sc zinfo C J fin np es (L) (.int v :: st) M) : zwp NC sc zinfo C J fin np ((pc, .ishl, len, a, b, t) :: es) (L) (.int y :: .int x :: st) M := by subst hv; exact h
theorem p_ishr {x y : Int32} (h : zwp NC sc zinfo C J fin np es (L) (.int (x >>> (y &&& 31)) :: st) M) : zwp NC sc zinfo C J fin np ((pc, .ishr, len, a, b, t) :: es) (L) (.int y :: .int x :: st) M := h
theorem p_ishrv {x y v : Int32} (hv : x >>> (y &&& 31) = v) (h : zwp NC sc zinfo C J fin np es (L) (.int v :: st) M) : zwp NC sc zinfo C J fin np ((pc, .ishr, len, a, b, t) :: es) (L) (.int y :: .int x :: st) M := by subst hv; exact h
theorem p_iushr {x y : Int32} (h : zwp NC sc zinfo C J fin np es (L) (.int ((x.toUInt32 >>> (y.toUInt32 &&& Int32.toUInt32 31)).toInt32) :: st) M) : zwp NC sc zinfo C J fin np ((pc, .iushr, len, a, b, t) :: es) (L) (.int y :: .int x :: st) M := h
theorem p_iushrv {x y v : Int32} (hv : (x.toUInt32 >>> (y.toUInt32 &&& Int32.toUInt32 31)).toInt32 = v) (h : zwp NC sc zinfo C J fin np es (L) (.int v :: st) M) : zwp NC sc zinfo C J fin np ((pc, .iushr, len, a, b, t) :: es) (L) (.int y :: .int x :: st) M := by subst hv; exact h
theorem p_ineg {x v : Int32} (hv : -x = v) (h : zwp NC sc zinfo C J fin np es (L) (.int v :: st) M) : zwp NC sc zinfo C J fin np ((pc, .ineg, len, a, b, t) :: es) (L) (.int x :: st) M := by subst hv; exact h
theorem p_i2b {x v : Int32} (hv : x.toInt8.toInt32 = v) (h : zwp NC sc zinfo C J fin np es (L) (.int v :: st) M) : zwp NC sc zinfo C J fin np ((pc, .i2b, len, a, b, t) :: es) (L) (.int x :: st) M := by subst hv; exact h
theorem p_i2l {x : Int32} (h : zwp NC sc zinfo C J fin np es (L) (.long x.toInt64 :: st) M) : zwp NC sc zinfo C J fin np ((pc, .i2l, len, a, b, t) :: es) (L) (.int x :: st) M := h
theorem p_l2i {x : Int64} {v : Int32} (hv : x.toInt32 = v) (h : zwp NC sc zinfo C J fin np es (L) (.int v :: st) M) : zwp NC sc zinfo C J fin np ((pc, .l2i, len, a, b, t) :: es) (L) (.long x :: st) M := by subst hv; exact h
theorem p_land {x y : Int64} (h : zwp NC sc zinfo C J fin np es (L) (.long (x &&& y) :: st) M) : zwp NC sc zinfo C J fin np ((pc, .land, len, a, b, t) :: es) (L) (.long y :: .long x :: st) M := h
theorem p_lor {x y : Int64} (h : zwp NC sc zinfo C J fin np es (L) (.long (x ||| y) :: st) M) : zwp NC sc zinfo C J fin np ((pc, .lor, len, a, b, t) :: es) (L) (.long y :: .long x :: st) M := h
theorem p_lshl {x : Int64} {y : Int32} (h : zwp NC sc zinfo C J fin np es (L) (.long (x <<< (y.toInt64 &&& 63)) :: st) M) : zwp NC sc zinfo C J fin np ((pc, .lshl, len, a, b, t) :: es) (L) (.int y :: .long x :: st) M := h
theorem p_lshr {x : Int64} {y : Int32} (h : zwp NC sc zinfo C J fin np es (L) (.long (x >>> (y.toInt64 &&& 63)) :: st) M) : zwp NC sc zinfo C J fin np ((pc, .lshr, len, a, b, t) :: es) (L) (.int y :: .long x :: st) M := h
theorem p_lushr {x : Int64} {y : Int32} (h : zwp NC sc zinfo C J fin np es (L) (.long ((x.toUInt64 >>> (y.toInt64.toUInt64 &&& Int64.toUInt64 63)).toInt64) :: st) M) : zwp NC sc zinfo C J fin np ((pc, .lushr, len, a, b, t) :: es) (L) (.int y :: .long x :: st) M := h
theorem p_irem {x y v : Int32} (hy : ¬ y = 0) (hv : x - x / y * y = v) (h : zwp NC sc zinfo C J fin np es (L) (.int v :: st) M) : zwp NC sc zinfo C J fin np ((pc, .irem, len, a, b, t) :: es) (L) (.int y :: .int x :: st) M := by subst hv; exact ⟨hy, h⟩
theorem p_dupi {x : Int32} (h : zwp NC sc zinfo C J fin np es (L) (.int x :: .int x :: st) M) : zwp NC sc zinfo C J fin np ((pc, .dup, len, a, b, t) :: es) (L) (.int x :: st) M := ⟨rfl, h⟩
theorem p_dupa {x : Nat} (h : zwp NC sc zinfo C J fin np es (L) (.ref x :: .ref x :: st) M) : zwp NC sc zinfo C J fin np ((pc, .dup, len, a, b, t) :: es) (L) (.ref x :: st) M := ⟨rfl, h⟩
theorem p_dup2 {x : Int32} {y : Nat} (h : zwp NC sc zinfo C J fin np es (L) (.int x :: .ref y :: .int x :: .ref y :: st) M) : zwp NC sc zinfo C J fin np ((pc, .dup2, len, a, b, t) :: es) (L) (.int x :: .ref y :: st) M := ⟨rfl, rfl, h⟩
theorem p_goto {off : Int} {tgt : Nat} (ht : (pc : Int) + off = (tgt : Int)) (h : J tgt L st M) : zwp NC sc zinfo C J fin np ((pc, .goto off, len, a, b, t) :: es) L st M := by
  dsimp only [zwp, zop, zjmp]
  rw [ht]
  exact ⟨rfl, h⟩
theorem p_if_eq {x : Int32} {off : Int} {tgt : Nat} (ht : (pc : Int) + off = (tgt : Int)) (h1 : x = 0 → J tgt L st M) (h2 : ¬ (x = 0) → zwp NC sc zinfo C J fin np es L st M) : zwp NC sc zinfo C J fin np ((pc, .ifCond .eq off, len, a, b, t) :: es) L (.int x :: st) M := by
  refine ⟨by rw [ht]; rfl, fun q => ?_, h2⟩
  rw [ht]
  exact h1 q
theorem p_icmp_eq {x y : Int32} {off : Int} {tgt : Nat} (ht : (pc : Int) + off = (tgt : Int)) (h1 : x = y → J tgt L st M) (h2 : ¬ (x = y) → zwp NC sc zinfo C J fin np es L st M) : zwp NC sc zinfo C J fin np ((pc, .if_icmp .eq off, len, a, b, t) :: es) L (.int y :: .int x :: st) M := by
  refine ⟨by rw [ht]; rfl, fun q => ?_, h2⟩
  rw [ht]
  exact h1 q
theorem p_if_ne {x : Int32} {off : Int} {tgt : Nat} (ht : (pc : Int) + off = (tgt : Int)) (h1 : ¬ x = 0 → J tgt L st M) (h2 : ¬ (¬ x = 0) → zwp NC sc zinfo C J fin np es L st M) : zwp NC sc zinfo C J fin np ((pc, .ifCond .ne off, len, a, b, t) :: es) L (.int x :: st) M := by
  refine ⟨by rw [ht]; rfl, fun q => ?_, h2⟩
  rw [ht]
  exact h1 q
theorem p_icmp_ne {x y : Int32} {off : Int} {tgt : Nat} (ht : (pc : Int) + off = (tgt : Int)) (h1 : ¬ x = y → J tgt L st M) (h2 : ¬ (¬ x = y) → zwp NC sc zinfo C J fin np es L st M) : zwp NC sc zinfo C J fin np ((pc, .if_icmp .ne off, len, a, b, t) :: es) L (.int y :: .int x :: st) M := by
  refine ⟨by rw [ht]; rfl, fun q => ?_, h2⟩
  rw [ht]
  exact h1 q
theorem p_if_lt {x : Int32} {off : Int} {tgt : Nat} (ht : (pc : Int) + off = (tgt : Int)) (h1 : x < 0 → J tgt L st M) (h2 : ¬ (x < 0) → zwp NC sc zinfo C J fin np es L st M) : zwp NC sc zinfo C J fin np ((pc, .ifCond .lt off, len, a, b, t) :: es) L (.int x :: st) M := by
  refine ⟨by rw [ht]; rfl, fun q => ?_, h2⟩
  rw [ht]
  exact h1 q
theorem p_icmp_lt {x y : Int32} {off : Int} {tgt : Nat} (ht : (pc : Int) + off = (tgt : Int)) (h1 : x < y → J tgt L st M) (h2 : ¬ (x < y) → zwp NC sc zinfo C J fin np es L st M) : zwp NC sc zinfo C J fin np ((pc, .if_icmp .lt off, len, a, b, t) :: es) L (.int y :: .int x :: st) M := by
  refine ⟨by rw [ht]; rfl, fun q => ?_, h2⟩
  rw [ht]
  exact h1 q
theorem p_if_ge {x : Int32} {off : Int} {tgt : Nat} (ht : (pc : Int) + off = (tgt : Int)) (h1 : 0 ≤ x → J tgt L st M) (h2 : ¬ (0 ≤ x) → zwp NC sc zinfo C J fin np es L st M) : zwp NC sc zinfo C J fin np ((pc, .ifCond .ge off, len, a, b, t) :: es) L (.int x :: st) M := by
  refine ⟨by rw [ht]; rfl, fun q => ?_, h2⟩
  rw [ht]
  exact h1 q
theorem p_icmp_ge {x y : Int32} {off : Int} {tgt : Nat} (ht : (pc : Int) + off = (tgt : Int)) (h1 : y ≤ x → J tgt L st M) (h2 : ¬ (y ≤ x) → zwp NC sc zinfo C J fin np es L st M) : zwp NC sc zinfo C J fin np ((pc, .if_icmp .ge off, len, a, b, t) :: es) L (.int y :: .int x :: st) M := by
  refine ⟨by rw [ht]; rfl, fun q => ?_, h2⟩
  rw [ht]
  exact h1 q
theorem p_if_gt {x : Int32} {off : Int} {tgt : Nat} (ht : (pc : Int) + off = (tgt : Int)) (h1 : 0 < x → J tgt L st M) (h2 : ¬ (0 < x) → zwp NC sc zinfo C J fin np es L st M) : zwp NC sc zinfo C J fin np ((pc, .ifCond .gt off, len, a, b, t) :: es) L (.int x :: st) M := by
  refine ⟨by rw [ht]; rfl, fun q => ?_, h2⟩
  rw [ht]
  exact h1 q
theorem p_icmp_gt {x y : Int32} {off : Int} {tgt : Nat} (ht : (pc : Int) + off = (tgt : Int)) (h1 : y < x → J tgt L st M) (h2 : ¬ (y < x) → zwp NC sc zinfo C J fin np es L st M) : zwp NC sc zinfo C J fin np ((pc, .if_icmp .gt off, len, a, b, t) :: es) L (.int y :: .int x :: st) M := by
  refine ⟨by rw [ht]; rfl, fun q => ?_, h2⟩
  rw [ht]
  exact h1 q
theorem p_if_le {x : Int32} {off : Int} {tgt : Nat} (ht : (pc : Int) + off = (tgt : Int)) (h1 : x ≤ 0 → J tgt L st M) (h2 : ¬ (x ≤ 0) → zwp NC sc zinfo C J fin np es L st M) : zwp NC sc zinfo C J fin np ((pc, .ifCond .le off, len, a, b, t) :: es) L (.int x :: st) M := by
  refine ⟨by rw [ht]; rfl, fun q => ?_, h2⟩
  rw [ht]
  exact h1 q
theorem p_icmp_le {x y : Int32} {off : Int} {tgt : Nat} (ht : (pc : Int) + off = (tgt : Int)) (h1 : x ≤ y → J tgt L st M) (h2 : ¬ (x ≤ y) → zwp NC sc zinfo C J fin np es L st M) : zwp NC sc zinfo C J fin np ((pc, .if_icmp .le off, len, a, b, t) :: es) L (.int y :: .int x :: st) M := by
  refine ⟨by rw [ht]; rfl, fun q => ?_, h2⟩
  rw [ht]
  exact h1 q
theorem p_icmpN_eq {x y : Nat} {off : Int} {tgt : Nat} (ht : (pc : Int) + off = (tgt : Int)) (hx : x < 2 ^ 31) (hy : y < 2 ^ 31) (h1 : x = y → J tgt L st M) (h2 : ¬ (x = y) → zwp NC sc zinfo C J fin np es L st M) : zwp NC sc zinfo C J fin np ((pc, .if_icmp .eq off, len, a, b, t) :: es) L (.int (nI y) :: .int (nI x) :: st) M := p_icmp_eq ht (fun q => h1 ((nI_eq hx hy).mp q)) (fun q => h2 (fun z => q ((nI_eq hx hy).mpr z)))
theorem p_ifN_eq {x : Nat} {off : Int} {tgt : Nat} (ht : (pc : Int) + off = (tgt : Int)) (hx : x < 2 ^ 31) (h1 : x = 0 → J tgt L st M) (h2 : ¬ (x = 0) → zwp NC sc zinfo C J fin np es L st M) : zwp NC sc zinfo C J fin np ((pc, .ifCond .eq off, len, a, b, t) :: es) L (.int (nI x) :: st) M := p_if_eq ht (fun q => h1 ((show _ from (nI_eq hx (by decide)) : _ ↔ _).mp (by rw [nI_0]; exact q))) (fun q => h2 (fun z => q (by have w := (show _ from (nI_eq hx (by decide)) : _ ↔ _).mpr z; rwa [nI_0] at w)))
theorem p_icmpN_ne {x y : Nat} {off : Int} {tgt : Nat} (ht : (pc : Int) + off = (tgt : Int)) (hx : x < 2 ^ 31) (hy : y < 2 ^ 31) (h1 : ¬ x = y → J tgt L st M) (h2 : ¬ (¬ x = y) → zwp NC sc zinfo C J fin np es L st M) : zwp NC sc zinfo C J fin np ((pc, .if_icmp .ne off, len, a, b, t) :: es) L (.int (nI y) :: .int (nI x) :: st) M := p_icmp_ne ht (fun q => h1 ((not_congr (nI_eq hx hy)).mp q)) (fun q => h2 (fun z => q ((not_congr (nI_eq hx hy)).mpr z)))
theorem p_ifN_ne {x : Nat} {off : Int} {tgt : Nat} (ht : (pc : Int) + off = (tgt : Int)) (hx : x < 2 ^ 31) (h1 : ¬ x = 0 → J tgt L st M) (h2 : ¬ (¬ x = 0) → zwp NC sc zinfo C J fin np es L st M) : zwp NC sc zinfo C J fin np ((pc, .ifCond .ne off, len, a, b, t) :: es) L (.int (nI x) :: st) M := p_if_ne ht (fun q => h1 ((show _ from (not_congr (nI_eq hx (by decide))) : _ ↔ _).mp (by rw [nI_0]; exact q))) (fun q => h2 (fun z => q (by have w := (show _ from (not_congr (nI_eq hx (by decide))) : _ ↔ _).mpr z; rwa [nI_0] at w)))
theorem p_icmpN_lt {x y : Nat} {off : Int} {tgt : Nat} (ht : (pc : Int) + off = (tgt : Int)) (hx : x < 2 ^ 31) (hy : y < 2 ^ 31) (h1 : x < y → J tgt L st M) (h2 : ¬ (x < y) → zwp NC sc zinfo C J fin np es L st M) : zwp NC sc zinfo C J fin np ((pc, .if_icmp .lt off, len, a, b, t) :: es) L (.int (nI y) :: .int (nI x) :: st) M := p_icmp_lt ht (fun q => h1 ((nI_ltI hx hy).mp q)) (fun q => h2 (fun z => q ((nI_ltI hx hy).mpr z)))
theorem p_ifN_lt {x : Nat} {off : Int} {tgt : Nat} (ht : (pc : Int) + off = (tgt : Int)) (hx : x < 2 ^ 31) (h1 : x < 0 → J tgt L st M) (h2 : ¬ (x < 0) → zwp NC sc zinfo C J fin np es L st M) : zwp NC sc zinfo C J fin np ((pc, .ifCond .lt off, len, a, b, t) :: es) L (.int (nI x) :: st) M := p_if_lt ht (fun q => h1 ((show _ from (nI_ltI hx (by decide)) : _ ↔ _).mp (by rw [nI_0]; exact q))) (fun q => h2 (fun z => q (by have w := (show _ from (nI_ltI hx (by decide)) : _ ↔ _).mpr z; rwa [nI_0] at w)))
theorem p_icmpN_ge {x y : Nat} {off : Int} {tgt : Nat} (ht : (pc : Int) + off = (tgt : Int)) (hx : x < 2 ^ 31) (hy : y < 2 ^ 31) (h1 : y ≤ x → J tgt L st M) (h2 : ¬ (y ≤ x) → zwp NC sc zinfo C J fin np es L st M) : zwp NC sc zinfo C J fin np ((pc, .if_icmp .ge off, len, a, b, t) :: es) L (.int (nI y) :: .int (nI x) :: st) M := p_icmp_ge ht (fun q => h1 ((nI_leI hy hx).mp q)) (fun q => h2 (fun z => q ((nI_leI hy hx).mpr z)))
theorem p_ifN_ge {x : Nat} {off : Int} {tgt : Nat} (ht : (pc : Int) + off = (tgt : Int)) (hx : x < 2 ^ 31) (h1 : 0 ≤ x → J tgt L st M) (h2 : ¬ (0 ≤ x) → zwp NC sc zinfo C J fin np es L st M) : zwp NC sc zinfo C J fin np ((pc, .ifCond .ge off, len, a, b, t) :: es) L (.int (nI x) :: st) M := p_if_ge ht (fun q => h1 ((show _ from (nI_leI (by decide) hx) : _ ↔ _).mp (by rw [nI_0]; exact q))) (fun q => h2 (fun z => q (by have w := (show _ from (nI_leI (by decide) hx) : _ ↔ _).mpr z; rwa [nI_0] at w)))
theorem p_icmpN_gt {x y : Nat} {off : Int} {tgt : Nat} (ht : (pc : Int) + off = (tgt : Int)) (hx : x < 2 ^ 31) (hy : y < 2 ^ 31) (h1 : y < x → J tgt L st M) (h2 : ¬ (y < x) → zwp NC sc zinfo C J fin np es L st M) : zwp NC sc zinfo C J fin np ((pc, .if_icmp .gt off, len, a, b, t) :: es) L (.int (nI y) :: .int (nI x) :: st) M := p_icmp_gt ht (fun q => h1 ((nI_ltI hy hx).mp q)) (fun q => h2 (fun z => q ((nI_ltI hy hx).mpr z)))
theorem p_ifN_gt {x : Nat} {off : Int} {tgt : Nat} (ht : (pc : Int) + off = (tgt : Int)) (hx : x < 2 ^ 31) (h1 : 0 < x → J tgt L st M) (h2 : ¬ (0 < x) → zwp NC sc zinfo C J fin np es L st M) : zwp NC sc zinfo C J fin np ((pc, .ifCond .gt off, len, a, b, t) :: es) L (.int (nI x) :: st) M := p_if_gt ht (fun q => h1 ((show _ from (nI_ltI (by decide) hx) : _ ↔ _).mp (by rw [nI_0]; exact q))) (fun q => h2 (fun z => q (by have w := (show _ from (nI_ltI (by decide) hx) : _ ↔ _).mpr z; rwa [nI_0] at w)))
theorem p_icmpN_le {x y : Nat} {off : Int} {tgt : Nat} (ht : (pc : Int) + off = (tgt : Int)) (hx : x < 2 ^ 31) (hy : y < 2 ^ 31) (h1 : x ≤ y → J tgt L st M) (h2 : ¬ (x ≤ y) → zwp NC sc zinfo C J fin np es L st M) : zwp NC sc zinfo C J fin np ((pc, .if_icmp .le off, len, a, b, t) :: es) L (.int (nI y) :: .int (nI x) :: st) M := p_icmp_le ht (fun q => h1 ((nI_leI hx hy).mp q)) (fun q => h2 (fun z => q ((nI_leI hx hy).mpr z)))
theorem p_ifN_le {x : Nat} {off : Int} {tgt : Nat} (ht : (pc : Int) + off = (tgt : Int)) (hx : x < 2 ^ 31) (h1 : x ≤ 0 → J tgt L st M) (h2 : ¬ (x ≤ 0) → zwp NC sc zinfo C J fin np es L st M) : zwp NC sc zinfo C J fin np ((pc, .ifCond .le off, len, a, b, t) :: es) L (.int (nI x) :: st) M := p_if_le ht (fun q => h1 ((show _ from (nI_leI hx (by decide)) : _ ↔ _).mp (by rw [nI_0]; exact q))) (fun q => h2 (fun z => q (by have w := (show _ from (nI_leI hx (by decide)) : _ ↔ _).mpr z; rwa [nI_0] at w)))
theorem p_iaddN {x y : Nat} (h : zwp NC sc zinfo C J fin np es (L) (.int (nI (x + y)) :: st) M) : zwp NC sc zinfo C J fin np ((pc, .iadd, len, a, b, t) :: es) (L) (.int (nI y) :: .int (nI x) :: st) M := p_iaddv (nI_add x y) h
theorem p_imulN {x y : Nat} (h : zwp NC sc zinfo C J fin np es (L) (.int (nI (x * y)) :: st) M) : zwp NC sc zinfo C J fin np ((pc, .imul, len, a, b, t) :: es) (L) (.int (nI y) :: .int (nI x) :: st) M := p_imulv (zN_mul x y) h
theorem p_iandN {x y : Nat} (h : zwp NC sc zinfo C J fin np es (L) (.int (nI (x &&& y)) :: st) M) : zwp NC sc zinfo C J fin np ((pc, .iand, len, a, b, t) :: es) (L) (.int (nI y) :: .int (nI x) :: st) M := p_iandv (zN_and x y) h
theorem p_iorN {x y : Nat} (h : zwp NC sc zinfo C J fin np es (L) (.int (nI (x ||| y)) :: st) M) : zwp NC sc zinfo C J fin np ((pc, .ior, len, a, b, t) :: es) (L) (.int (nI y) :: .int (nI x) :: st) M := p_iorv (zN_or x y) h
theorem p_ixorN {x y : Nat} (h : zwp NC sc zinfo C J fin np es (L) (.int (nI (x ^^^ y)) :: st) M) : zwp NC sc zinfo C J fin np ((pc, .ixor, len, a, b, t) :: es) (L) (.int (nI y) :: .int (nI x) :: st) M := p_ixorv (zN_xor x y) h
theorem p_isubN {x y : Nat} (hxy : y ≤ x) (h : zwp NC sc zinfo C J fin np es (L) (.int (nI (x - y)) :: st) M) : zwp NC sc zinfo C J fin np ((pc, .isub, len, a, b, t) :: es) (L) (.int (nI y) :: .int (nI x) :: st) M := p_isubv (zN_sub hxy) h
theorem p_ishlN {x y : Nat} (hy : y < 32) (h : zwp NC sc zinfo C J fin np es (L) (.int (nI (x <<< y)) :: st) M) : zwp NC sc zinfo C J fin np ((pc, .ishl, len, a, b, t) :: es) (L) (.int (nI y) :: .int (nI x) :: st) M := p_ishlv (zN_shl x hy) h
theorem p_ishrN {x y : Nat} (hx : x < 2 ^ 31) (hy : y < 32) (h : zwp NC sc zinfo C J fin np es (L) (.int (nI (x >>> y)) :: st) M) : zwp NC sc zinfo C J fin np ((pc, .ishr, len, a, b, t) :: es) (L) (.int (nI y) :: .int (nI x) :: st) M := p_ishrv (zN_shr hx hy) h
theorem p_getr {ix k q : Nat} {fs : List (Option Nat)} (h1 : zlay NC k = some (.inl (a, fs))) (h2 : zget fs b = some (some q)) (h : zwp NC sc zinfo C J fin np es L (.ref q :: st) M) : zwp NC sc zinfo C J fin np ((pc, .getfield ix, len, a, b, t) :: es) L (.ref k :: st) M := by
  dsimp only [zwp, zop, zgf]
  rw [h1]
  refine ⟨rfl, ?_⟩
  rw [h2]
  exact h
theorem p_geti {ix k : Nat} {v : Int32} {fs : List (Option Nat)} (h1 : zlay NC k = some (.inl (a, fs))) (h2 : zget fs b = some none) (hv : M k b = v) (h : zwp NC sc zinfo C J fin np es L (.int v :: st) M) : zwp NC sc zinfo C J fin np ((pc, .getfield ix, len, a, b, t) :: es) L (.ref k :: st) M := by
  subst hv
  dsimp only [zwp, zop, zgf]
  rw [h1]
  refine ⟨rfl, ?_⟩
  rw [h2]
  exact h
theorem p_put {ix k : Nat} {x : Int32} {fs : List (Option Nat)} (h1 : zlay NC k = some (.inl (a, fs))) (h2 : zget fs b = some none) (h3 : a = 1 ∧ b = 8 → x = 0 ∨ x = 1) (h : zwp NC sc zinfo C J fin np es L st (zup M k b x)) : zwp NC sc zinfo C J fin np ((pc, .putfield ix, len, a, b, t) :: es) L (.int x :: .ref k :: st) M := by
  dsimp only [zwp, zop, zpf]
  rw [h1]
  refine ⟨rfl, ?_⟩
  rw [h2]
  exact ⟨h3, h⟩
theorem p_gets {ix : Nat} (h1 : 101 ≤ a ∧ a ≤ 103) (h : zwp NC sc zinfo C J fin np es L (.ref a :: st) M) : zwp NC sc zinfo C J fin np ((pc, .getstatic ix, len, a, b, t) :: es) L st M := ⟨h1, h⟩
theorem p_iald {k n i : Nat} {v : Int32} {qs : List Nat} (h1 : zlay NC k = some (.inr (n, .int, qs))) (hi : i < n) (hn : n < 2 ^ 31) (hv : M k i = v) (h : zwp NC sc zinfo C J fin np es L (.int v :: st) M) : zwp NC sc zinfo C J fin np ((pc, .iaload, len, a, b, t) :: es) L (.int (nI i) :: .ref k :: st) M := by
  subst hv
  dsimp only [zwp, zop, zald]
  rw [h1]
  refine ⟨vp_in_nI hi hn, ?_⟩
  rw [nI_clamp (Nat.lt_trans hi hn)]
  exact h
theorem p_rald {k i : Nat} {v : Int32} (h1 : zlay NC k = none) (hk : 100 ≤ k ∧ k ≤ 103) (hi : i < (zro sc k).1) (hn : (zro sc k).1 < 2 ^ 31) (hv : (zro sc k).2 i = v) (h : zwp NC sc zinfo C J fin np es L (.int v :: st) M) : zwp NC sc zinfo C J fin np ((pc, .iaload, len, a, b, t) :: es) L (.int (nI i) :: .ref k :: st) M := by
  subst hv
  dsimp only [zwp, zop, zald]
  rw [h1]
  refine ⟨hk.1, hk.2, vp_in_nI hi hn, ?_⟩
  rw [nI_clamp (Nat.lt_trans hi hn)]
  exact h
theorem p_bald {k n i : Nat} {v : Int32} {qs : List Nat} (h1 : zlay NC k = some (.inr (n, .byte, qs))) (hi : i < n) (hn : n < 2 ^ 31) (hv : M k i = v) (h : zwp NC sc zinfo C J fin np es L (.int v :: st) M) : zwp NC sc zinfo C J fin np ((pc, .baload, len, a, b, t) :: es) L (.int (nI i) :: .ref k :: st) M := by
  subst hv
  dsimp only [zwp, zop, zbld]
  rw [h1]
  refine ⟨vp_in_nI hi hn, ?_⟩
  rw [nI_clamp (Nat.lt_trans hi hn)]
  exact h
theorem p_zald {k n i : Nat} {v : Int32} {qs : List Nat} (h1 : zlay NC k = some (.inr (n, .boolean, qs))) (hi : i < n) (hn : n < 2 ^ 31) (hv : M k i = v) (h : zwp NC sc zinfo C J fin np es L (.int v :: st) M) : zwp NC sc zinfo C J fin np ((pc, .baload, len, a, b, t) :: es) L (.int (nI i) :: .ref k :: st) M := by
  subst hv
  dsimp only [zwp, zop, zbld]
  rw [h1]
  refine ⟨vp_in_nI hi hn, ?_⟩
  rw [nI_clamp (Nat.lt_trans hi hn)]
  exact h
theorem p_iast {k n i : Nat} {x : Int32} {qs : List Nat} (h1 : zlay NC k = some (.inr (n, .int, qs))) (hi : i < n) (hn : n < 2 ^ 31) (h : zwp NC sc zinfo C J fin np es L st (zup M k i x)) : zwp NC sc zinfo C J fin np ((pc, .iastore, len, a, b, t) :: es) L (.int x :: .int (nI i) :: .ref k :: st) M := by
  dsimp only [zwp, zop, zast]
  rw [h1]
  refine ⟨vp_in_nI hi hn, ?_⟩
  rw [nI_clamp (Nat.lt_trans hi hn)]
  exact h
theorem p_bast {k n i : Nat} {x v : Int32} {qs : List Nat} (h1 : zlay NC k = some (.inr (n, .byte, qs))) (hi : i < n) (hn : n < 2 ^ 31) (hv : vp_nar .byte x = v) (h : zwp NC sc zinfo C J fin np es L st (zup M k i v)) : zwp NC sc zinfo C J fin np ((pc, .bastore, len, a, b, t) :: es) L (.int x :: .int (nI i) :: .ref k :: st) M := by
  subst hv
  dsimp only [zwp, zop, zbst]
  rw [h1]
  refine ⟨vp_in_nI hi hn, ?_⟩
  rw [nI_clamp (Nat.lt_trans hi hn)]
  exact h
theorem p_zast {k n i : Nat} {x v : Int32} {qs : List Nat} (h1 : zlay NC k = some (.inr (n, .boolean, qs))) (hi : i < n) (hn : n < 2 ^ 31) (hv : vp_nar .boolean x = v) (h : zwp NC sc zinfo C J fin np es L st (zup M k i v)) : zwp NC sc zinfo C J fin np ((pc, .bastore, len, a, b, t) :: es) L (.int x :: .int (nI i) :: .ref k :: st) M := by
  subst hv
  dsimp only [zwp, zop, zbst]
  rw [h1]
  refine ⟨vp_in_nI hi hn, ?_⟩
  rw [nI_clamp (Nat.lt_trans hi hn)]
  exact h
theorem p_aald {k n i q : Nat} {C0 : String} {qs : List Nat} (h1 : zlay NC k = some (.inr (n, .object C0, qs))) (hi : i < n) (hn : n < 2 ^ 31) (hq : zget qs i = some q) (h : zwp NC sc zinfo C J fin np es L (.ref q :: st) M) : zwp NC sc zinfo C J fin np ((pc, .aaload, len, a, b, t) :: es) L (.int (nI i) :: .ref k :: st) M := by
  dsimp only [zwp, zop, zrld]
  rw [h1]
  refine ⟨vp_in_nI hi hn, ?_⟩
  rw [nI_clamp (Nat.lt_trans hi hn), hq]
  exact h
theorem p_alen {k n : Nat} {ty : FieldType} {qs : List Nat} (h1 : zlay NC k = some (.inr (n, ty, qs))) (h : zwp NC sc zinfo C J fin np es L (.int (nI n) :: st) M) : zwp NC sc zinfo C J fin np ((pc, .arraylength, len, a, b, t) :: es) L (.ref k :: st) M := by
  dsimp only [zwp, zop, zlen]
  rw [h1]
  exact h
theorem p_rlen {k : Nat} (h1 : zlay NC k = none) (hk : 100 ≤ k ∧ k ≤ 103) (h : zwp NC sc zinfo C J fin np es L (.int (nI (zro sc k).1) :: st) M) : zwp NC sc zinfo C J fin np ((pc, .arraylength, len, a, b, t) :: es) L (.ref k :: st) M := by
  dsimp only [zwp, zop, zlen]
  rw [h1]
  exact ⟨hk.1, hk.2, h⟩
theorem p_cs0i {v : Int32} {i : zI} {ix : Nat} {M1 : zM} (hi : zinfo a = some i) (hs : i.2.2.2.2.2.1 = true) (hn : i.2.2.2.2.2.2.2.1 = 0) (h8 : Nat.ble (zslots st) 8 = true) (h88 : Nat.beq a 88 = false) (hc : C a [] M (some (.int v)) M1) (h : zwp NC sc zinfo C J fin np es L (.int v :: st) M1) : zwp NC sc zinfo C J fin np ((pc, .invokestatic ix, len, a, b, t) :: es) L (st) M := by
  show (bif Nat.beq a 88 then zmx _ _ else zcs zinfo C a _ _ _)
  rw [h88]
  show zcs zinfo C a _ _ _
  unfold zcs
  rw [hi]
  refine ⟨hs, ?_⟩
  rw [hn]
  exact ⟨Nat.le_of_ble_eq_true h8, _, _, hc, h⟩
theorem p_cv0i {v : Int32} {i : zI} {ix k : Nat} {fs : List (Option Nat)} {M1 : zM} (hi : zinfo a = some i) (hs : i.2.2.2.2.2.1 = false) (hn : i.2.2.2.2.2.2.2.1 = 0) (h8 : Nat.ble (zslots st) 8 = true) (hk : zlay NC k = some (.inl (i.2.2.2.2.2.2.1, fs))) (hc : C a [.ref k] M (some (.int v)) M1) (h : zwp NC sc zinfo C J fin np es L (.int v :: st) M1) : zwp NC sc zinfo C J fin np ((pc, .invokevirtual ix, len, a, b, t) :: es) L (.ref k :: st) M := by
  show zcv NC zinfo C a _ _ _
  unfold zcv
  rw [hi]
  refine ⟨hs, ?_⟩
  rw [hn]
  refine ⟨Nat.le_of_ble_eq_true h8, ?_⟩
  rw [hk]
  exact ⟨rfl, _, _, hc, h⟩
theorem p_cs0v {i : zI} {ix : Nat} {M1 : zM} (hi : zinfo a = some i) (hs : i.2.2.2.2.2.1 = true) (hn : i.2.2.2.2.2.2.2.1 = 0) (h8 : Nat.ble (zslots st) 8 = true) (h88 : Nat.beq a 88 = false) (hc : C a [] M (none) M1) (h : zwp NC sc zinfo C J fin np es L (st) M1) : zwp NC sc zinfo C J fin np ((pc, .invokestatic ix, len, a, b, t) :: es) L (st) M := by
  show (bif Nat.beq a 88 then zmx _ _ else zcs zinfo C a _ _ _)
  rw [h88]
  show zcs zinfo C a _ _ _
  unfold zcs
  rw [hi]
  refine ⟨hs, ?_⟩
  rw [hn]
  exact ⟨Nat.le_of_ble_eq_true h8, _, _, hc, h⟩
theorem p_cv0v {i : zI} {ix k : Nat} {fs : List (Option Nat)} {M1 : zM} (hi : zinfo a = some i) (hs : i.2.2.2.2.2.1 = false) (hn : i.2.2.2.2.2.2.2.1 = 0) (h8 : Nat.ble (zslots st) 8 = true) (hk : zlay NC k = some (.inl (i.2.2.2.2.2.2.1, fs))) (hc : C a [.ref k] M (none) M1) (h : zwp NC sc zinfo C J fin np es L (st) M1) : zwp NC sc zinfo C J fin np ((pc, .invokevirtual ix, len, a, b, t) :: es) L (.ref k :: st) M := by
  show zcv NC zinfo C a _ _ _
  unfold zcv
  rw [hi]
  refine ⟨hs, ?_⟩
  rw [hn]
  refine ⟨Nat.le_of_ble_eq_true h8, ?_⟩
  rw [hk]
  exact ⟨rfl, _, _, hc, h⟩
theorem p_cs0a {v : Nat} {i : zI} {ix : Nat} {M1 : zM} (hi : zinfo a = some i) (hs : i.2.2.2.2.2.1 = true) (hn : i.2.2.2.2.2.2.2.1 = 0) (h8 : Nat.ble (zslots st) 8 = true) (h88 : Nat.beq a 88 = false) (hc : C a [] M (some (.ref v)) M1) (h : zwp NC sc zinfo C J fin np es L (.ref v :: st) M1) : zwp NC sc zinfo C J fin np ((pc, .invokestatic ix, len, a, b, t) :: es) L (st) M := by
  show (bif Nat.beq a 88 then zmx _ _ else zcs zinfo C a _ _ _)
  rw [h88]
  show zcs zinfo C a _ _ _
  unfold zcs
  rw [hi]
  refine ⟨hs, ?_⟩
  rw [hn]
  exact ⟨Nat.le_of_ble_eq_true h8, _, _, hc, h⟩
theorem p_cv0a {v : Nat} {i : zI} {ix k : Nat} {fs : List (Option Nat)} {M1 : zM} (hi : zinfo a = some i) (hs : i.2.2.2.2.2.1 = false) (hn : i.2.2.2.2.2.2.2.1 = 0) (h8 : Nat.ble (zslots st) 8 = true) (hk : zlay NC k = some (.inl (i.2.2.2.2.2.2.1, fs))) (hc : C a [.ref k] M (some (.ref v)) M1) (h : zwp NC sc zinfo C J fin np es L (.ref v :: st) M1) : zwp NC sc zinfo C J fin np ((pc, .invokevirtual ix, len, a, b, t) :: es) L (.ref k :: st) M := by
  show zcv NC zinfo C a _ _ _
  unfold zcv
  rw [hi]
  refine ⟨hs, ?_⟩
  rw [hn]
  refine ⟨Nat.le_of_ble_eq_true h8, ?_⟩
  rw [hk]
  exact ⟨rfl, _, _, hc, h⟩
theorem p_cs1i {w0 : Value} {v : Int32} {i : zI} {ix : Nat} {M1 : zM} (hi : zinfo a = some i) (hs : i.2.2.2.2.2.1 = true) (hn : i.2.2.2.2.2.2.2.1 = 1) (h8 : Nat.ble (zslots st) 8 = true) (h88 : Nat.beq a 88 = false) (hc : C a [w0] M (some (.int v)) M1) (h : zwp NC sc zinfo C J fin np es L (.int v :: st) M1) : zwp NC sc zinfo C J fin np ((pc, .invokestatic ix, len, a, b, t) :: es) L (w0 :: st) M := by
  show (bif Nat.beq a 88 then zmx _ _ else zcs zinfo C a _ _ _)
  rw [h88]
  show zcs zinfo C a _ _ _
  unfold zcs
  rw [hi]
  refine ⟨hs, ?_⟩
  rw [hn]
  exact ⟨Nat.le_of_ble_eq_true h8, _, _, hc, h⟩
theorem p_cv1i {w0 : Value} {v : Int32} {i : zI} {ix k : Nat} {fs : List (Option Nat)} {M1 : zM} (hi : zinfo a = some i) (hs : i.2.2.2.2.2.1 = false) (hn : i.2.2.2.2.2.2.2.1 = 1) (h8 : Nat.ble (zslots st) 8 = true) (hk : zlay NC k = some (.inl (i.2.2.2.2.2.2.1, fs))) (hc : C a [.ref k, w0] M (some (.int v)) M1) (h : zwp NC sc zinfo C J fin np es L (.int v :: st) M1) : zwp NC sc zinfo C J fin np ((pc, .invokevirtual ix, len, a, b, t) :: es) L (w0 :: .ref k :: st) M := by
  show zcv NC zinfo C a _ _ _
  unfold zcv
  rw [hi]
  refine ⟨hs, ?_⟩
  rw [hn]
  refine ⟨Nat.le_of_ble_eq_true h8, ?_⟩
  rw [hk]
  exact ⟨rfl, _, _, hc, h⟩
theorem p_cs1v {w0 : Value} {i : zI} {ix : Nat} {M1 : zM} (hi : zinfo a = some i) (hs : i.2.2.2.2.2.1 = true) (hn : i.2.2.2.2.2.2.2.1 = 1) (h8 : Nat.ble (zslots st) 8 = true) (h88 : Nat.beq a 88 = false) (hc : C a [w0] M (none) M1) (h : zwp NC sc zinfo C J fin np es L (st) M1) : zwp NC sc zinfo C J fin np ((pc, .invokestatic ix, len, a, b, t) :: es) L (w0 :: st) M := by
  show (bif Nat.beq a 88 then zmx _ _ else zcs zinfo C a _ _ _)
  rw [h88]
  show zcs zinfo C a _ _ _
  unfold zcs
  rw [hi]
  refine ⟨hs, ?_⟩
  rw [hn]
  exact ⟨Nat.le_of_ble_eq_true h8, _, _, hc, h⟩
theorem p_cv1v {w0 : Value} {i : zI} {ix k : Nat} {fs : List (Option Nat)} {M1 : zM} (hi : zinfo a = some i) (hs : i.2.2.2.2.2.1 = false) (hn : i.2.2.2.2.2.2.2.1 = 1) (h8 : Nat.ble (zslots st) 8 = true) (hk : zlay NC k = some (.inl (i.2.2.2.2.2.2.1, fs))) (hc : C a [.ref k, w0] M (none) M1) (h : zwp NC sc zinfo C J fin np es L (st) M1) : zwp NC sc zinfo C J fin np ((pc, .invokevirtual ix, len, a, b, t) :: es) L (w0 :: .ref k :: st) M := by
  show zcv NC zinfo C a _ _ _
  unfold zcv
  rw [hi]
  refine ⟨hs, ?_⟩
  rw [hn]
  refine ⟨Nat.le_of_ble_eq_true h8, ?_⟩
  rw [hk]
  exact ⟨rfl, _, _, hc, h⟩
theorem p_cs1a {w0 : Value} {v : Nat} {i : zI} {ix : Nat} {M1 : zM} (hi : zinfo a = some i) (hs : i.2.2.2.2.2.1 = true) (hn : i.2.2.2.2.2.2.2.1 = 1) (h8 : Nat.ble (zslots st) 8 = true) (h88 : Nat.beq a 88 = false) (hc : C a [w0] M (some (.ref v)) M1) (h : zwp NC sc zinfo C J fin np es L (.ref v :: st) M1) : zwp NC sc zinfo C J fin np ((pc, .invokestatic ix, len, a, b, t) :: es) L (w0 :: st) M := by
  show (bif Nat.beq a 88 then zmx _ _ else zcs zinfo C a _ _ _)
  rw [h88]
  show zcs zinfo C a _ _ _
  unfold zcs
  rw [hi]
  refine ⟨hs, ?_⟩
  rw [hn]
  exact ⟨Nat.le_of_ble_eq_true h8, _, _, hc, h⟩
theorem p_cv1a {w0 : Value} {v : Nat} {i : zI} {ix k : Nat} {fs : List (Option Nat)} {M1 : zM} (hi : zinfo a = some i) (hs : i.2.2.2.2.2.1 = false) (hn : i.2.2.2.2.2.2.2.1 = 1) (h8 : Nat.ble (zslots st) 8 = true) (hk : zlay NC k = some (.inl (i.2.2.2.2.2.2.1, fs))) (hc : C a [.ref k, w0] M (some (.ref v)) M1) (h : zwp NC sc zinfo C J fin np es L (.ref v :: st) M1) : zwp NC sc zinfo C J fin np ((pc, .invokevirtual ix, len, a, b, t) :: es) L (w0 :: .ref k :: st) M := by
  show zcv NC zinfo C a _ _ _
  unfold zcv
  rw [hi]
  refine ⟨hs, ?_⟩
  rw [hn]
  refine ⟨Nat.le_of_ble_eq_true h8, ?_⟩
  rw [hk]
  exact ⟨rfl, _, _, hc, h⟩
theorem p_cs2i {w0 w1 : Value} {v : Int32} {i : zI} {ix : Nat} {M1 : zM} (hi : zinfo a = some i) (hs : i.2.2.2.2.2.1 = true) (hn : i.2.2.2.2.2.2.2.1 = 2) (h8 : Nat.ble (zslots st) 8 = true) (h88 : Nat.beq a 88 = false) (hc : C a [w0, w1] M (some (.int v)) M1) (h : zwp NC sc zinfo C J fin np es L (.int v :: st) M1) : zwp NC sc zinfo C J fin np ((pc, .invokestatic ix, len, a, b, t) :: es) L (w1 :: w0 :: st) M := by
  show (bif Nat.beq a 88 then zmx _ _ else zcs zinfo C a _ _ _)
  rw [h88]
  show zcs zinfo C a _ _ _
  unfold zcs
  rw [hi]
  refine ⟨hs, ?_⟩
  rw [hn]
  exact ⟨Nat.le_of_ble_eq_true h8, _, _, hc, h⟩
theorem p_cv2i {w0 w1 : Value} {v : Int32} {i : zI} {ix k : Nat} {fs : List (Option Nat)} {M1 : zM} (hi : zinfo a = some i) (hs : i.2.2.2.2.2.1 = false) (hn : i.2.2.2.2.2.2.2.1 = 2) (h8 : Nat.ble (zslots st) 8 = true) (hk : zlay NC k = some (.inl (i.2.2.2.2.2.2.1, fs))) (hc : C a [.ref k, w0, w1] M (some (.int v)) M1) (h : zwp NC sc zinfo C J fin np es L (.int v :: st) M1) : zwp NC sc zinfo C J fin np ((pc, .invokevirtual ix, len, a, b, t) :: es) L (w1 :: w0 :: .ref k :: st) M := by
  show zcv NC zinfo C a _ _ _
  unfold zcv
  rw [hi]
  refine ⟨hs, ?_⟩
  rw [hn]
  refine ⟨Nat.le_of_ble_eq_true h8, ?_⟩
  rw [hk]
  exact ⟨rfl, _, _, hc, h⟩
theorem p_cs2v {w0 w1 : Value} {i : zI} {ix : Nat} {M1 : zM} (hi : zinfo a = some i) (hs : i.2.2.2.2.2.1 = true) (hn : i.2.2.2.2.2.2.2.1 = 2) (h8 : Nat.ble (zslots st) 8 = true) (h88 : Nat.beq a 88 = false) (hc : C a [w0, w1] M (none) M1) (h : zwp NC sc zinfo C J fin np es L (st) M1) : zwp NC sc zinfo C J fin np ((pc, .invokestatic ix, len, a, b, t) :: es) L (w1 :: w0 :: st) M := by
  show (bif Nat.beq a 88 then zmx _ _ else zcs zinfo C a _ _ _)
  rw [h88]
  show zcs zinfo C a _ _ _
  unfold zcs
  rw [hi]
  refine ⟨hs, ?_⟩
  rw [hn]
  exact ⟨Nat.le_of_ble_eq_true h8, _, _, hc, h⟩
theorem p_cv2v {w0 w1 : Value} {i : zI} {ix k : Nat} {fs : List (Option Nat)} {M1 : zM} (hi : zinfo a = some i) (hs : i.2.2.2.2.2.1 = false) (hn : i.2.2.2.2.2.2.2.1 = 2) (h8 : Nat.ble (zslots st) 8 = true) (hk : zlay NC k = some (.inl (i.2.2.2.2.2.2.1, fs))) (hc : C a [.ref k, w0, w1] M (none) M1) (h : zwp NC sc zinfo C J fin np es L (st) M1) : zwp NC sc zinfo C J fin np ((pc, .invokevirtual ix, len, a, b, t) :: es) L (w1 :: w0 :: .ref k :: st) M := by
  show zcv NC zinfo C a _ _ _
  unfold zcv
  rw [hi]
  refine ⟨hs, ?_⟩
  rw [hn]
  refine ⟨Nat.le_of_ble_eq_true h8, ?_⟩
  rw [hk]
  exact ⟨rfl, _, _, hc, h⟩
theorem p_cs2a {w0 w1 : Value} {v : Nat} {i : zI} {ix : Nat} {M1 : zM} (hi : zinfo a = some i) (hs : i.2.2.2.2.2.1 = true) (hn : i.2.2.2.2.2.2.2.1 = 2) (h8 : Nat.ble (zslots st) 8 = true) (h88 : Nat.beq a 88 = false) (hc : C a [w0, w1] M (some (.ref v)) M1) (h : zwp NC sc zinfo C J fin np es L (.ref v :: st) M1) : zwp NC sc zinfo C J fin np ((pc, .invokestatic ix, len, a, b, t) :: es) L (w1 :: w0 :: st) M := by
  show (bif Nat.beq a 88 then zmx _ _ else zcs zinfo C a _ _ _)
  rw [h88]
  show zcs zinfo C a _ _ _
  unfold zcs
  rw [hi]
  refine ⟨hs, ?_⟩
  rw [hn]
  exact ⟨Nat.le_of_ble_eq_true h8, _, _, hc, h⟩
theorem p_cv2a {w0 w1 : Value} {v : Nat} {i : zI} {ix k : Nat} {fs : List (Option Nat)} {M1 : zM} (hi : zinfo a = some i) (hs : i.2.2.2.2.2.1 = false) (hn : i.2.2.2.2.2.2.2.1 = 2) (h8 : Nat.ble (zslots st) 8 = true) (hk : zlay NC k = some (.inl (i.2.2.2.2.2.2.1, fs))) (hc : C a [.ref k, w0, w1] M (some (.ref v)) M1) (h : zwp NC sc zinfo C J fin np es L (.ref v :: st) M1) : zwp NC sc zinfo C J fin np ((pc, .invokevirtual ix, len, a, b, t) :: es) L (w1 :: w0 :: .ref k :: st) M := by
  show zcv NC zinfo C a _ _ _
  unfold zcv
  rw [hi]
  refine ⟨hs, ?_⟩
  rw [hn]
  refine ⟨Nat.le_of_ble_eq_true h8, ?_⟩
  rw [hk]
  exact ⟨rfl, _, _, hc, h⟩
theorem p_cs3i {w0 w1 w2 : Value} {v : Int32} {i : zI} {ix : Nat} {M1 : zM} (hi : zinfo a = some i) (hs : i.2.2.2.2.2.1 = true) (hn : i.2.2.2.2.2.2.2.1 = 3) (h8 : Nat.ble (zslots st) 8 = true) (h88 : Nat.beq a 88 = false) (hc : C a [w0, w1, w2] M (some (.int v)) M1) (h : zwp NC sc zinfo C J fin np es L (.int v :: st) M1) : zwp NC sc zinfo C J fin np ((pc, .invokestatic ix, len, a, b, t) :: es) L (w2 :: w1 :: w0 :: st) M := by
  show (bif Nat.beq a 88 then zmx _ _ else zcs zinfo C a _ _ _)
  rw [h88]
  show zcs zinfo C a _ _ _
  unfold zcs
  rw [hi]
  refine ⟨hs, ?_⟩
  rw [hn]
  exact ⟨Nat.le_of_ble_eq_true h8, _, _, hc, h⟩
theorem p_cv3i {w0 w1 w2 : Value} {v : Int32} {i : zI} {ix k : Nat} {fs : List (Option Nat)} {M1 : zM} (hi : zinfo a = some i) (hs : i.2.2.2.2.2.1 = false) (hn : i.2.2.2.2.2.2.2.1 = 3) (h8 : Nat.ble (zslots st) 8 = true) (hk : zlay NC k = some (.inl (i.2.2.2.2.2.2.1, fs))) (hc : C a [.ref k, w0, w1, w2] M (some (.int v)) M1) (h : zwp NC sc zinfo C J fin np es L (.int v :: st) M1) : zwp NC sc zinfo C J fin np ((pc, .invokevirtual ix, len, a, b, t) :: es) L (w2 :: w1 :: w0 :: .ref k :: st) M := by
  show zcv NC zinfo C a _ _ _
  unfold zcv
  rw [hi]
  refine ⟨hs, ?_⟩
  rw [hn]
  refine ⟨Nat.le_of_ble_eq_true h8, ?_⟩
  rw [hk]
  exact ⟨rfl, _, _, hc, h⟩
theorem p_cs3v {w0 w1 w2 : Value} {i : zI} {ix : Nat} {M1 : zM} (hi : zinfo a = some i) (hs : i.2.2.2.2.2.1 = true) (hn : i.2.2.2.2.2.2.2.1 = 3) (h8 : Nat.ble (zslots st) 8 = true) (h88 : Nat.beq a 88 = false) (hc : C a [w0, w1, w2] M (none) M1) (h : zwp NC sc zinfo C J fin np es L (st) M1) : zwp NC sc zinfo C J fin np ((pc, .invokestatic ix, len, a, b, t) :: es) L (w2 :: w1 :: w0 :: st) M := by
  show (bif Nat.beq a 88 then zmx _ _ else zcs zinfo C a _ _ _)
  rw [h88]
  show zcs zinfo C a _ _ _
  unfold zcs
  rw [hi]
  refine ⟨hs, ?_⟩
  rw [hn]
  exact ⟨Nat.le_of_ble_eq_true h8, _, _, hc, h⟩
theorem p_cv3v {w0 w1 w2 : Value} {i : zI} {ix k : Nat} {fs : List (Option Nat)} {M1 : zM} (hi : zinfo a = some i) (hs : i.2.2.2.2.2.1 = false) (hn : i.2.2.2.2.2.2.2.1 = 3) (h8 : Nat.ble (zslots st) 8 = true) (hk : zlay NC k = some (.inl (i.2.2.2.2.2.2.1, fs))) (hc : C a [.ref k, w0, w1, w2] M (none) M1) (h : zwp NC sc zinfo C J fin np es L (st) M1) : zwp NC sc zinfo C J fin np ((pc, .invokevirtual ix, len, a, b, t) :: es) L (w2 :: w1 :: w0 :: .ref k :: st) M := by
  show zcv NC zinfo C a _ _ _
  unfold zcv
  rw [hi]
  refine ⟨hs, ?_⟩
  rw [hn]
  refine ⟨Nat.le_of_ble_eq_true h8, ?_⟩
  rw [hk]
  exact ⟨rfl, _, _, hc, h⟩
theorem p_cs3a {w0 w1 w2 : Value} {v : Nat} {i : zI} {ix : Nat} {M1 : zM} (hi : zinfo a = some i) (hs : i.2.2.2.2.2.1 = true) (hn : i.2.2.2.2.2.2.2.1 = 3) (h8 : Nat.ble (zslots st) 8 = true) (h88 : Nat.beq a 88 = false) (hc : C a [w0, w1, w2] M (some (.ref v)) M1) (h : zwp NC sc zinfo C J fin np es L (.ref v :: st) M1) : zwp NC sc zinfo C J fin np ((pc, .invokestatic ix, len, a, b, t) :: es) L (w2 :: w1 :: w0 :: st) M := by
  show (bif Nat.beq a 88 then zmx _ _ else zcs zinfo C a _ _ _)
  rw [h88]
  show zcs zinfo C a _ _ _
  unfold zcs
  rw [hi]
  refine ⟨hs, ?_⟩
  rw [hn]
  exact ⟨Nat.le_of_ble_eq_true h8, _, _, hc, h⟩
theorem p_cv3a {w0 w1 w2 : Value} {v : Nat} {i : zI} {ix k : Nat} {fs : List (Option Nat)} {M1 : zM} (hi : zinfo a = some i) (hs : i.2.2.2.2.2.1 = false) (hn : i.2.2.2.2.2.2.2.1 = 3) (h8 : Nat.ble (zslots st) 8 = true) (hk : zlay NC k = some (.inl (i.2.2.2.2.2.2.1, fs))) (hc : C a [.ref k, w0, w1, w2] M (some (.ref v)) M1) (h : zwp NC sc zinfo C J fin np es L (.ref v :: st) M1) : zwp NC sc zinfo C J fin np ((pc, .invokevirtual ix, len, a, b, t) :: es) L (w2 :: w1 :: w0 :: .ref k :: st) M := by
  show zcv NC zinfo C a _ _ _
  unfold zcv
  rw [hi]
  refine ⟨hs, ?_⟩
  rw [hn]
  refine ⟨Nat.le_of_ble_eq_true h8, ?_⟩
  rw [hk]
  exact ⟨rfl, _, _, hc, h⟩
theorem p_cs4i {w0 w1 w2 w3 : Value} {v : Int32} {i : zI} {ix : Nat} {M1 : zM} (hi : zinfo a = some i) (hs : i.2.2.2.2.2.1 = true) (hn : i.2.2.2.2.2.2.2.1 = 4) (h8 : Nat.ble (zslots st) 8 = true) (h88 : Nat.beq a 88 = false) (hc : C a [w0, w1, w2, w3] M (some (.int v)) M1) (h : zwp NC sc zinfo C J fin np es L (.int v :: st) M1) : zwp NC sc zinfo C J fin np ((pc, .invokestatic ix, len, a, b, t) :: es) L (w3 :: w2 :: w1 :: w0 :: st) M := by
  show (bif Nat.beq a 88 then zmx _ _ else zcs zinfo C a _ _ _)
  rw [h88]
  show zcs zinfo C a _ _ _
  unfold zcs
  rw [hi]
  refine ⟨hs, ?_⟩
  rw [hn]
  exact ⟨Nat.le_of_ble_eq_true h8, _, _, hc, h⟩
theorem p_cv4i {w0 w1 w2 w3 : Value} {v : Int32} {i : zI} {ix k : Nat} {fs : List (Option Nat)} {M1 : zM} (hi : zinfo a = some i) (hs : i.2.2.2.2.2.1 = false) (hn : i.2.2.2.2.2.2.2.1 = 4) (h8 : Nat.ble (zslots st) 8 = true) (hk : zlay NC k = some (.inl (i.2.2.2.2.2.2.1, fs))) (hc : C a [.ref k, w0, w1, w2, w3] M (some (.int v)) M1) (h : zwp NC sc zinfo C J fin np es L (.int v :: st) M1) : zwp NC sc zinfo C J fin np ((pc, .invokevirtual ix, len, a, b, t) :: es) L (w3 :: w2 :: w1 :: w0 :: .ref k :: st) M := by
  show zcv NC zinfo C a _ _ _
  unfold zcv
  rw [hi]
  refine ⟨hs, ?_⟩
  rw [hn]
  refine ⟨Nat.le_of_ble_eq_true h8, ?_⟩
  rw [hk]
  exact ⟨rfl, _, _, hc, h⟩
theorem p_cs4v {w0 w1 w2 w3 : Value} {i : zI} {ix : Nat} {M1 : zM} (hi : zinfo a = some i) (hs : i.2.2.2.2.2.1 = true) (hn : i.2.2.2.2.2.2.2.1 = 4) (h8 : Nat.ble (zslots st) 8 = true) (h88 : Nat.beq a 88 = false) (hc : C a [w0, w1, w2, w3] M (none) M1) (h : zwp NC sc zinfo C J fin np es L (st) M1) : zwp NC sc zinfo C J fin np ((pc, .invokestatic ix, len, a, b, t) :: es) L (w3 :: w2 :: w1 :: w0 :: st) M := by
  show (bif Nat.beq a 88 then zmx _ _ else zcs zinfo C a _ _ _)
  rw [h88]
  show zcs zinfo C a _ _ _
  unfold zcs
  rw [hi]
  refine ⟨hs, ?_⟩
  rw [hn]
  exact ⟨Nat.le_of_ble_eq_true h8, _, _, hc, h⟩
theorem p_cv4v {w0 w1 w2 w3 : Value} {i : zI} {ix k : Nat} {fs : List (Option Nat)} {M1 : zM} (hi : zinfo a = some i) (hs : i.2.2.2.2.2.1 = false) (hn : i.2.2.2.2.2.2.2.1 = 4) (h8 : Nat.ble (zslots st) 8 = true) (hk : zlay NC k = some (.inl (i.2.2.2.2.2.2.1, fs))) (hc : C a [.ref k, w0, w1, w2, w3] M (none) M1) (h : zwp NC sc zinfo C J fin np es L (st) M1) : zwp NC sc zinfo C J fin np ((pc, .invokevirtual ix, len, a, b, t) :: es) L (w3 :: w2 :: w1 :: w0 :: .ref k :: st) M := by
  show zcv NC zinfo C a _ _ _
  unfold zcv
  rw [hi]
  refine ⟨hs, ?_⟩
  rw [hn]
  refine ⟨Nat.le_of_ble_eq_true h8, ?_⟩
  rw [hk]
  exact ⟨rfl, _, _, hc, h⟩
theorem p_cs4a {w0 w1 w2 w3 : Value} {v : Nat} {i : zI} {ix : Nat} {M1 : zM} (hi : zinfo a = some i) (hs : i.2.2.2.2.2.1 = true) (hn : i.2.2.2.2.2.2.2.1 = 4) (h8 : Nat.ble (zslots st) 8 = true) (h88 : Nat.beq a 88 = false) (hc : C a [w0, w1, w2, w3] M (some (.ref v)) M1) (h : zwp NC sc zinfo C J fin np es L (.ref v :: st) M1) : zwp NC sc zinfo C J fin np ((pc, .invokestatic ix, len, a, b, t) :: es) L (w3 :: w2 :: w1 :: w0 :: st) M := by
  show (bif Nat.beq a 88 then zmx _ _ else zcs zinfo C a _ _ _)
  rw [h88]
  show zcs zinfo C a _ _ _
  unfold zcs
  rw [hi]
  refine ⟨hs, ?_⟩
  rw [hn]
  exact ⟨Nat.le_of_ble_eq_true h8, _, _, hc, h⟩
theorem p_cv4a {w0 w1 w2 w3 : Value} {v : Nat} {i : zI} {ix k : Nat} {fs : List (Option Nat)} {M1 : zM} (hi : zinfo a = some i) (hs : i.2.2.2.2.2.1 = false) (hn : i.2.2.2.2.2.2.2.1 = 4) (h8 : Nat.ble (zslots st) 8 = true) (hk : zlay NC k = some (.inl (i.2.2.2.2.2.2.1, fs))) (hc : C a [.ref k, w0, w1, w2, w3] M (some (.ref v)) M1) (h : zwp NC sc zinfo C J fin np es L (.ref v :: st) M1) : zwp NC sc zinfo C J fin np ((pc, .invokevirtual ix, len, a, b, t) :: es) L (w3 :: w2 :: w1 :: w0 :: .ref k :: st) M := by
  show zcv NC zinfo C a _ _ _
  unfold zcv
  rw [hi]
  refine ⟨hs, ?_⟩
  rw [hn]
  refine ⟨Nat.le_of_ble_eq_true h8, ?_⟩
  rw [hk]
  exact ⟨rfl, _, _, hc, h⟩
theorem p_cs5i {w0 w1 w2 w3 w4 : Value} {v : Int32} {i : zI} {ix : Nat} {M1 : zM} (hi : zinfo a = some i) (hs : i.2.2.2.2.2.1 = true) (hn : i.2.2.2.2.2.2.2.1 = 5) (h8 : Nat.ble (zslots st) 8 = true) (h88 : Nat.beq a 88 = false) (hc : C a [w0, w1, w2, w3, w4] M (some (.int v)) M1) (h : zwp NC sc zinfo C J fin np es L (.int v :: st) M1) : zwp NC sc zinfo C J fin np ((pc, .invokestatic ix, len, a, b, t) :: es) L (w4 :: w3 :: w2 :: w1 :: w0 :: st) M := by
  show (bif Nat.beq a 88 then zmx _ _ else zcs zinfo C a _ _ _)
  rw [h88]
  show zcs zinfo C a _ _ _
  unfold zcs
  rw [hi]
  refine ⟨hs, ?_⟩
  rw [hn]
  exact ⟨Nat.le_of_ble_eq_true h8, _, _, hc, h⟩
theorem p_cv5i {w0 w1 w2 w3 w4 : Value} {v : Int32} {i : zI} {ix k : Nat} {fs : List (Option Nat)} {M1 : zM} (hi : zinfo a = some i) (hs : i.2.2.2.2.2.1 = false) (hn : i.2.2.2.2.2.2.2.1 = 5) (h8 : Nat.ble (zslots st) 8 = true) (hk : zlay NC k = some (.inl (i.2.2.2.2.2.2.1, fs))) (hc : C a [.ref k, w0, w1, w2, w3, w4] M (some (.int v)) M1) (h : zwp NC sc zinfo C J fin np es L (.int v :: st) M1) : zwp NC sc zinfo C J fin np ((pc, .invokevirtual ix, len, a, b, t) :: es) L (w4 :: w3 :: w2 :: w1 :: w0 :: .ref k :: st) M := by
  show zcv NC zinfo C a _ _ _
  unfold zcv
  rw [hi]
  refine ⟨hs, ?_⟩
  rw [hn]
  refine ⟨Nat.le_of_ble_eq_true h8, ?_⟩
  rw [hk]
  exact ⟨rfl, _, _, hc, h⟩
theorem p_cs5v {w0 w1 w2 w3 w4 : Value} {i : zI} {ix : Nat} {M1 : zM} (hi : zinfo a = some i) (hs : i.2.2.2.2.2.1 = true) (hn : i.2.2.2.2.2.2.2.1 = 5) (h8 : Nat.ble (zslots st) 8 = true) (h88 : Nat.beq a 88 = false) (hc : C a [w0, w1, w2, w3, w4] M (none) M1) (h : zwp NC sc zinfo C J fin np es L (st) M1) : zwp NC sc zinfo C J fin np ((pc, .invokestatic ix, len, a, b, t) :: es) L (w4 :: w3 :: w2 :: w1 :: w0 :: st) M := by
  show (bif Nat.beq a 88 then zmx _ _ else zcs zinfo C a _ _ _)
  rw [h88]
  show zcs zinfo C a _ _ _
  unfold zcs
  rw [hi]
  refine ⟨hs, ?_⟩
  rw [hn]
  exact ⟨Nat.le_of_ble_eq_true h8, _, _, hc, h⟩
theorem p_cv5v {w0 w1 w2 w3 w4 : Value} {i : zI} {ix k : Nat} {fs : List (Option Nat)} {M1 : zM} (hi : zinfo a = some i) (hs : i.2.2.2.2.2.1 = false) (hn : i.2.2.2.2.2.2.2.1 = 5) (h8 : Nat.ble (zslots st) 8 = true) (hk : zlay NC k = some (.inl (i.2.2.2.2.2.2.1, fs))) (hc : C a [.ref k, w0, w1, w2, w3, w4] M (none) M1) (h : zwp NC sc zinfo C J fin np es L (st) M1) : zwp NC sc zinfo C J fin np ((pc, .invokevirtual ix, len, a, b, t) :: es) L (w4 :: w3 :: w2 :: w1 :: w0 :: .ref k :: st) M := by
  show zcv NC zinfo C a _ _ _
  unfold zcv
  rw [hi]
  refine ⟨hs, ?_⟩
  rw [hn]
  refine ⟨Nat.le_of_ble_eq_true h8, ?_⟩
  rw [hk]
  exact ⟨rfl, _, _, hc, h⟩
theorem p_cs5a {w0 w1 w2 w3 w4 : Value} {v : Nat} {i : zI} {ix : Nat} {M1 : zM} (hi : zinfo a = some i) (hs : i.2.2.2.2.2.1 = true) (hn : i.2.2.2.2.2.2.2.1 = 5) (h8 : Nat.ble (zslots st) 8 = true) (h88 : Nat.beq a 88 = false) (hc : C a [w0, w1, w2, w3, w4] M (some (.ref v)) M1) (h : zwp NC sc zinfo C J fin np es L (.ref v :: st) M1) : zwp NC sc zinfo C J fin np ((pc, .invokestatic ix, len, a, b, t) :: es) L (w4 :: w3 :: w2 :: w1 :: w0 :: st) M := by
  show (bif Nat.beq a 88 then zmx _ _ else zcs zinfo C a _ _ _)
  rw [h88]
  show zcs zinfo C a _ _ _
  unfold zcs
  rw [hi]
  refine ⟨hs, ?_⟩
  rw [hn]
  exact ⟨Nat.le_of_ble_eq_true h8, _, _, hc, h⟩
theorem p_cv5a {w0 w1 w2 w3 w4 : Value} {v : Nat} {i : zI} {ix k : Nat} {fs : List (Option Nat)} {M1 : zM} (hi : zinfo a = some i) (hs : i.2.2.2.2.2.1 = false) (hn : i.2.2.2.2.2.2.2.1 = 5) (h8 : Nat.ble (zslots st) 8 = true) (hk : zlay NC k = some (.inl (i.2.2.2.2.2.2.1, fs))) (hc : C a [.ref k, w0, w1, w2, w3, w4] M (some (.ref v)) M1) (h : zwp NC sc zinfo C J fin np es L (.ref v :: st) M1) : zwp NC sc zinfo C J fin np ((pc, .invokevirtual ix, len, a, b, t) :: es) L (w4 :: w3 :: w2 :: w1 :: w0 :: .ref k :: st) M := by
  show zcv NC zinfo C a _ _ _
  unfold zcv
  rw [hi]
  refine ⟨hs, ?_⟩
  rw [hn]
  refine ⟨Nat.le_of_ble_eq_true h8, ?_⟩
  rw [hk]
  exact ⟨rfl, _, _, hc, h⟩
theorem p_max {x y : Int32} {ix : Nat} (h88 : Nat.beq a 88 = true) (h8 : Nat.ble (zslots st) 8 = true) (h : zwp NC sc zinfo C J fin np es L (.int (if x < y then y else x) :: st) M) : zwp NC sc zinfo C J fin np ((pc, .invokestatic ix, len, a, b, t) :: es) L (.int y :: .int x :: st) M := by
  show (bif Nat.beq a 88 then zmx _ _ else zcs zinfo C a _ _ _)
  rw [h88]
  exact ⟨Nat.le_of_ble_eq_true h8, h⟩
end ZP
section ZQ
variable {NC : Nat} {sc : Nat × (Nat → Int32)} {C : Nat → List Value → zM → Option Value → zM → Prop} {J : Nat → List Value → List Value → zM → Prop} {np pc len a b t k : Nat} {r : Option Value} {es : List zE} {L st : List Value} {M M' : zM}
theorem p_iret {v : Int32} (hf : zfit k (some (.int v))) (hr : some (.int v) = r) (hM : M = M') : zwp NC sc zinfo C J (zfin k r M') np ((pc, .ireturn, len, a, b, t) :: es) L [.int v] M := ⟨hf, hr, hM⟩
theorem p_aret {v : Nat} (hf : zfit k (some (.ref v))) (hr : some (.ref v) = r) (hM : M = M') : zwp NC sc zinfo C J (zfin k r M') np ((pc, .areturn, len, a, b, t) :: es) L [.ref v] M := ⟨hf, hr, hM⟩
theorem p_vret (hf : zfit k none) (hr : none = r) (hM : M = M') : zwp NC sc zinfo C J (zfin k r M') np ((pc, .return_, len, a, b, t) :: es) L [] M := ⟨hf, hr, hM⟩
end ZQ
