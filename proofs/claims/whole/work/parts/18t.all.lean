theorem ckI_ok {p q r s : Bool} {T a : Nat} : ∀ n, ckI p q r s T a n = true → ∀ k, k < n → ck p q r s T (a + k) = true := by
  intro n
  induction n with
  | zero => intro _ k hk; exact absurd hk (by omega)
  | succ n ih =>
    intro h k hk
    have h1 : cond (ck p q r s T (Nat.add a n)) (ckI p q r s T a n) false = true := h
    cases hc : ck p q r s T (Nat.add a n) with
    | false => rw [hc] at h1; cases h1
    | true =>
      rw [hc] at h1
      by_cases e : k = n
      · rw [e]; exact hc
      · exact ih h1 k (by omega)
theorem cka_0 {k : Nat} (h : k < 555) : ck false false false false 0 k = true := by
  by_cases h0 : k < 37
  · have e := ckI_ok 37 ck_0_0 (k - 0) (by omega)
    rw [show 0 + (k - 0) = k by omega] at e
    exact e
  by_cases h37 : k < 74
  · have e := ckI_ok 37 ck_0_37 (k - 37) (by omega)
    rw [show 37 + (k - 37) = k by omega] at e
    exact e
  by_cases h74 : k < 111
  · have e := ckI_ok 37 ck_0_74 (k - 74) (by omega)
    rw [show 74 + (k - 74) = k by omega] at e
    exact e
  by_cases h111 : k < 148
  · have e := ckI_ok 37 ck_0_111 (k - 111) (by omega)
    rw [show 111 + (k - 111) = k by omega] at e
    exact e
  by_cases h148 : k < 185
  · have e := ckI_ok 37 ck_0_148 (k - 148) (by omega)
    rw [show 148 + (k - 148) = k by omega] at e
    exact e
  by_cases h185 : k < 222
  · have e := ckI_ok 37 ck_0_185 (k - 185) (by omega)
    rw [show 185 + (k - 185) = k by omega] at e
    exact e
  by_cases h222 : k < 259
  · have e := ckI_ok 37 ck_0_222 (k - 222) (by omega)
    rw [show 222 + (k - 222) = k by omega] at e
    exact e
  by_cases h259 : k < 296
  · have e := ckI_ok 37 ck_0_259 (k - 259) (by omega)
    rw [show 259 + (k - 259) = k by omega] at e
    exact e
  by_cases h296 : k < 333
  · have e := ckI_ok 37 ck_0_296 (k - 296) (by omega)
    rw [show 296 + (k - 296) = k by omega] at e
    exact e
  by_cases h333 : k < 370
  · have e := ckI_ok 37 ck_0_333 (k - 333) (by omega)
    rw [show 333 + (k - 333) = k by omega] at e
    exact e
  by_cases h370 : k < 407
  · have e := ckI_ok 37 ck_0_370 (k - 370) (by omega)
    rw [show 370 + (k - 370) = k by omega] at e
    exact e
  by_cases h407 : k < 444
  · have e := ckI_ok 37 ck_0_407 (k - 407) (by omega)
    rw [show 407 + (k - 407) = k by omega] at e
    exact e
  by_cases h444 : k < 481
  · have e := ckI_ok 37 ck_0_444 (k - 444) (by omega)
    rw [show 444 + (k - 444) = k by omega] at e
    exact e
  by_cases h481 : k < 518
  · have e := ckI_ok 37 ck_0_481 (k - 481) (by omega)
    rw [show 481 + (k - 481) = k by omega] at e
    exact e
  have e := ckI_ok 37 ck_0_518 (k - 518) (by omega)
  rw [show 518 + (k - 518) = k by omega] at e
  exact e
theorem cka_1 {k : Nat} (h : k < 555) : ck true false false false 1 k = true := by
  by_cases h0 : k < 37
  · have e := ckI_ok 37 ck_1_0 (k - 0) (by omega)
    rw [show 0 + (k - 0) = k by omega] at e
    exact e
  by_cases h37 : k < 74
  · have e := ckI_ok 37 ck_1_37 (k - 37) (by omega)
    rw [show 37 + (k - 37) = k by omega] at e
    exact e
  by_cases h74 : k < 111
  · have e := ckI_ok 37 ck_1_74 (k - 74) (by omega)
    rw [show 74 + (k - 74) = k by omega] at e
    exact e
  by_cases h111 : k < 148
  · have e := ckI_ok 37 ck_1_111 (k - 111) (by omega)
    rw [show 111 + (k - 111) = k by omega] at e
    exact e
  by_cases h148 : k < 185
  · have e := ckI_ok 37 ck_1_148 (k - 148) (by omega)
    rw [show 148 + (k - 148) = k by omega] at e
    exact e
  by_cases h185 : k < 222
  · have e := ckI_ok 37 ck_1_185 (k - 185) (by omega)
    rw [show 185 + (k - 185) = k by omega] at e
    exact e
  by_cases h222 : k < 259
  · have e := ckI_ok 37 ck_1_222 (k - 222) (by omega)
    rw [show 222 + (k - 222) = k by omega] at e
    exact e
  by_cases h259 : k < 296
  · have e := ckI_ok 37 ck_1_259 (k - 259) (by omega)
    rw [show 259 + (k - 259) = k by omega] at e
    exact e
  by_cases h296 : k < 333
  · have e := ckI_ok 37 ck_1_296 (k - 296) (by omega)
    rw [show 296 + (k - 296) = k by omega] at e
    exact e
  by_cases h333 : k < 370
  · have e := ckI_ok 37 ck_1_333 (k - 333) (by omega)
    rw [show 333 + (k - 333) = k by omega] at e
    exact e
  by_cases h370 : k < 407
  · have e := ckI_ok 37 ck_1_370 (k - 370) (by omega)
    rw [show 370 + (k - 370) = k by omega] at e
    exact e
  by_cases h407 : k < 444
  · have e := ckI_ok 37 ck_1_407 (k - 407) (by omega)
    rw [show 407 + (k - 407) = k by omega] at e
    exact e
  by_cases h444 : k < 481
  · have e := ckI_ok 37 ck_1_444 (k - 444) (by omega)
    rw [show 444 + (k - 444) = k by omega] at e
    exact e
  by_cases h481 : k < 518
  · have e := ckI_ok 37 ck_1_481 (k - 481) (by omega)
    rw [show 481 + (k - 481) = k by omega] at e
    exact e
  have e := ckI_ok 37 ck_1_518 (k - 518) (by omega)
  rw [show 518 + (k - 518) = k by omega] at e
  exact e
theorem cka_2 {k : Nat} (h : k < 555) : ck false false true false 2 k = true := by
  by_cases h0 : k < 37
  · have e := ckI_ok 37 ck_2_0 (k - 0) (by omega)
    rw [show 0 + (k - 0) = k by omega] at e
    exact e
  by_cases h37 : k < 74
  · have e := ckI_ok 37 ck_2_37 (k - 37) (by omega)
    rw [show 37 + (k - 37) = k by omega] at e
    exact e
  by_cases h74 : k < 111
  · have e := ckI_ok 37 ck_2_74 (k - 74) (by omega)
    rw [show 74 + (k - 74) = k by omega] at e
    exact e
  by_cases h111 : k < 148
  · have e := ckI_ok 37 ck_2_111 (k - 111) (by omega)
    rw [show 111 + (k - 111) = k by omega] at e
    exact e
  by_cases h148 : k < 185
  · have e := ckI_ok 37 ck_2_148 (k - 148) (by omega)
    rw [show 148 + (k - 148) = k by omega] at e
    exact e
  by_cases h185 : k < 222
  · have e := ckI_ok 37 ck_2_185 (k - 185) (by omega)
    rw [show 185 + (k - 185) = k by omega] at e
    exact e
  by_cases h222 : k < 259
  · have e := ckI_ok 37 ck_2_222 (k - 222) (by omega)
    rw [show 222 + (k - 222) = k by omega] at e
    exact e
  by_cases h259 : k < 296
  · have e := ckI_ok 37 ck_2_259 (k - 259) (by omega)
    rw [show 259 + (k - 259) = k by omega] at e
    exact e
  by_cases h296 : k < 333
  · have e := ckI_ok 37 ck_2_296 (k - 296) (by omega)
    rw [show 296 + (k - 296) = k by omega] at e
    exact e
  by_cases h333 : k < 370
  · have e := ckI_ok 37 ck_2_333 (k - 333) (by omega)
    rw [show 333 + (k - 333) = k by omega] at e
    exact e
  by_cases h370 : k < 407
  · have e := ckI_ok 37 ck_2_370 (k - 370) (by omega)
    rw [show 370 + (k - 370) = k by omega] at e
    exact e
  by_cases h407 : k < 444
  · have e := ckI_ok 37 ck_2_407 (k - 407) (by omega)
    rw [show 407 + (k - 407) = k by omega] at e
    exact e
  by_cases h444 : k < 481
  · have e := ckI_ok 37 ck_2_444 (k - 444) (by omega)
    rw [show 444 + (k - 444) = k by omega] at e
    exact e
  by_cases h481 : k < 518
  · have e := ckI_ok 37 ck_2_481 (k - 481) (by omega)
    rw [show 481 + (k - 481) = k by omega] at e
    exact e
  have e := ckI_ok 37 ck_2_518 (k - 518) (by omega)
  rw [show 518 + (k - 518) = k by omega] at e
  exact e
theorem cka_3 {k : Nat} (h : k < 555) : ck true false true false 3 k = true := by
  by_cases h0 : k < 37
  · have e := ckI_ok 37 ck_3_0 (k - 0) (by omega)
    rw [show 0 + (k - 0) = k by omega] at e
    exact e
  by_cases h37 : k < 74
  · have e := ckI_ok 37 ck_3_37 (k - 37) (by omega)
    rw [show 37 + (k - 37) = k by omega] at e
    exact e
  by_cases h74 : k < 111
  · have e := ckI_ok 37 ck_3_74 (k - 74) (by omega)
    rw [show 74 + (k - 74) = k by omega] at e
    exact e
  by_cases h111 : k < 148
  · have e := ckI_ok 37 ck_3_111 (k - 111) (by omega)
    rw [show 111 + (k - 111) = k by omega] at e
    exact e
  by_cases h148 : k < 185
  · have e := ckI_ok 37 ck_3_148 (k - 148) (by omega)
    rw [show 148 + (k - 148) = k by omega] at e
    exact e
  by_cases h185 : k < 222
  · have e := ckI_ok 37 ck_3_185 (k - 185) (by omega)
    rw [show 185 + (k - 185) = k by omega] at e
    exact e
  by_cases h222 : k < 259
  · have e := ckI_ok 37 ck_3_222 (k - 222) (by omega)
    rw [show 222 + (k - 222) = k by omega] at e
    exact e
  by_cases h259 : k < 296
  · have e := ckI_ok 37 ck_3_259 (k - 259) (by omega)
    rw [show 259 + (k - 259) = k by omega] at e
    exact e
  by_cases h296 : k < 333
  · have e := ckI_ok 37 ck_3_296 (k - 296) (by omega)
    rw [show 296 + (k - 296) = k by omega] at e
    exact e
  by_cases h333 : k < 370
  · have e := ckI_ok 37 ck_3_333 (k - 333) (by omega)
    rw [show 333 + (k - 333) = k by omega] at e
    exact e
  by_cases h370 : k < 407
  · have e := ckI_ok 37 ck_3_370 (k - 370) (by omega)
    rw [show 370 + (k - 370) = k by omega] at e
    exact e
  by_cases h407 : k < 444
  · have e := ckI_ok 37 ck_3_407 (k - 407) (by omega)
    rw [show 407 + (k - 407) = k by omega] at e
    exact e
  by_cases h444 : k < 481
  · have e := ckI_ok 37 ck_3_444 (k - 444) (by omega)
    rw [show 444 + (k - 444) = k by omega] at e
    exact e
  by_cases h481 : k < 518
  · have e := ckI_ok 37 ck_3_481 (k - 481) (by omega)
    rw [show 481 + (k - 481) = k by omega] at e
    exact e
  have e := ckI_ok 37 ck_3_518 (k - 518) (by omega)
  rw [show 518 + (k - 518) = k by omega] at e
  exact e
theorem cka_4 {k : Nat} (h : k < 555) : ck false true false false 4 k = true := by
  by_cases h0 : k < 37
  · have e := ckI_ok 37 ck_4_0 (k - 0) (by omega)
    rw [show 0 + (k - 0) = k by omega] at e
    exact e
  by_cases h37 : k < 74
  · have e := ckI_ok 37 ck_4_37 (k - 37) (by omega)
    rw [show 37 + (k - 37) = k by omega] at e
    exact e
  by_cases h74 : k < 111
  · have e := ckI_ok 37 ck_4_74 (k - 74) (by omega)
    rw [show 74 + (k - 74) = k by omega] at e
    exact e
  by_cases h111 : k < 148
  · have e := ckI_ok 37 ck_4_111 (k - 111) (by omega)
    rw [show 111 + (k - 111) = k by omega] at e
    exact e
  by_cases h148 : k < 185
  · have e := ckI_ok 37 ck_4_148 (k - 148) (by omega)
    rw [show 148 + (k - 148) = k by omega] at e
    exact e
  by_cases h185 : k < 222
  · have e := ckI_ok 37 ck_4_185 (k - 185) (by omega)
    rw [show 185 + (k - 185) = k by omega] at e
    exact e
  by_cases h222 : k < 259
  · have e := ckI_ok 37 ck_4_222 (k - 222) (by omega)
    rw [show 222 + (k - 222) = k by omega] at e
    exact e
  by_cases h259 : k < 296
  · have e := ckI_ok 37 ck_4_259 (k - 259) (by omega)
    rw [show 259 + (k - 259) = k by omega] at e
    exact e
  by_cases h296 : k < 333
  · have e := ckI_ok 37 ck_4_296 (k - 296) (by omega)
    rw [show 296 + (k - 296) = k by omega] at e
    exact e
  by_cases h333 : k < 370
  · have e := ckI_ok 37 ck_4_333 (k - 333) (by omega)
    rw [show 333 + (k - 333) = k by omega] at e
    exact e
  by_cases h370 : k < 407
  · have e := ckI_ok 37 ck_4_370 (k - 370) (by omega)
    rw [show 370 + (k - 370) = k by omega] at e
    exact e
  by_cases h407 : k < 444
  · have e := ckI_ok 37 ck_4_407 (k - 407) (by omega)
    rw [show 407 + (k - 407) = k by omega] at e
    exact e
  by_cases h444 : k < 481
  · have e := ckI_ok 37 ck_4_444 (k - 444) (by omega)
    rw [show 444 + (k - 444) = k by omega] at e
    exact e
  by_cases h481 : k < 518
  · have e := ckI_ok 37 ck_4_481 (k - 481) (by omega)
    rw [show 481 + (k - 481) = k by omega] at e
    exact e
  have e := ckI_ok 37 ck_4_518 (k - 518) (by omega)
  rw [show 518 + (k - 518) = k by omega] at e
  exact e
theorem cka_5 {k : Nat} (h : k < 555) : ck true true false false 5 k = true := by
  by_cases h0 : k < 37
  · have e := ckI_ok 37 ck_5_0 (k - 0) (by omega)
    rw [show 0 + (k - 0) = k by omega] at e
    exact e
  by_cases h37 : k < 74
  · have e := ckI_ok 37 ck_5_37 (k - 37) (by omega)
    rw [show 37 + (k - 37) = k by omega] at e
    exact e
  by_cases h74 : k < 111
  · have e := ckI_ok 37 ck_5_74 (k - 74) (by omega)
    rw [show 74 + (k - 74) = k by omega] at e
    exact e
  by_cases h111 : k < 148
  · have e := ckI_ok 37 ck_5_111 (k - 111) (by omega)
    rw [show 111 + (k - 111) = k by omega] at e
    exact e
  by_cases h148 : k < 185
  · have e := ckI_ok 37 ck_5_148 (k - 148) (by omega)
    rw [show 148 + (k - 148) = k by omega] at e
    exact e
  by_cases h185 : k < 222
  · have e := ckI_ok 37 ck_5_185 (k - 185) (by omega)
    rw [show 185 + (k - 185) = k by omega] at e
    exact e
  by_cases h222 : k < 259
  · have e := ckI_ok 37 ck_5_222 (k - 222) (by omega)
    rw [show 222 + (k - 222) = k by omega] at e
    exact e
  by_cases h259 : k < 296
  · have e := ckI_ok 37 ck_5_259 (k - 259) (by omega)
    rw [show 259 + (k - 259) = k by omega] at e
    exact e
  by_cases h296 : k < 333
  · have e := ckI_ok 37 ck_5_296 (k - 296) (by omega)
    rw [show 296 + (k - 296) = k by omega] at e
    exact e
  by_cases h333 : k < 370
  · have e := ckI_ok 37 ck_5_333 (k - 333) (by omega)
    rw [show 333 + (k - 333) = k by omega] at e
    exact e
  by_cases h370 : k < 407
  · have e := ckI_ok 37 ck_5_370 (k - 370) (by omega)
    rw [show 370 + (k - 370) = k by omega] at e
    exact e
  by_cases h407 : k < 444
  · have e := ckI_ok 37 ck_5_407 (k - 407) (by omega)
    rw [show 407 + (k - 407) = k by omega] at e
    exact e
  by_cases h444 : k < 481
  · have e := ckI_ok 37 ck_5_444 (k - 444) (by omega)
    rw [show 444 + (k - 444) = k by omega] at e
    exact e
  by_cases h481 : k < 518
  · have e := ckI_ok 37 ck_5_481 (k - 481) (by omega)
    rw [show 481 + (k - 481) = k by omega] at e
    exact e
  have e := ckI_ok 37 ck_5_518 (k - 518) (by omega)
  rw [show 518 + (k - 518) = k by omega] at e
  exact e
theorem cka_6 {k : Nat} (h : k < 555) : ck false true true false 6 k = true := by
  by_cases h0 : k < 37
  · have e := ckI_ok 37 ck_6_0 (k - 0) (by omega)
    rw [show 0 + (k - 0) = k by omega] at e
    exact e
  by_cases h37 : k < 74
  · have e := ckI_ok 37 ck_6_37 (k - 37) (by omega)
    rw [show 37 + (k - 37) = k by omega] at e
    exact e
  by_cases h74 : k < 111
  · have e := ckI_ok 37 ck_6_74 (k - 74) (by omega)
    rw [show 74 + (k - 74) = k by omega] at e
    exact e
  by_cases h111 : k < 148
  · have e := ckI_ok 37 ck_6_111 (k - 111) (by omega)
    rw [show 111 + (k - 111) = k by omega] at e
    exact e
  by_cases h148 : k < 185
  · have e := ckI_ok 37 ck_6_148 (k - 148) (by omega)
    rw [show 148 + (k - 148) = k by omega] at e
    exact e
  by_cases h185 : k < 222
  · have e := ckI_ok 37 ck_6_185 (k - 185) (by omega)
    rw [show 185 + (k - 185) = k by omega] at e
    exact e
  by_cases h222 : k < 259
  · have e := ckI_ok 37 ck_6_222 (k - 222) (by omega)
    rw [show 222 + (k - 222) = k by omega] at e
    exact e
  by_cases h259 : k < 296
  · have e := ckI_ok 37 ck_6_259 (k - 259) (by omega)
    rw [show 259 + (k - 259) = k by omega] at e
    exact e
  by_cases h296 : k < 333
  · have e := ckI_ok 37 ck_6_296 (k - 296) (by omega)
    rw [show 296 + (k - 296) = k by omega] at e
    exact e
  by_cases h333 : k < 370
  · have e := ckI_ok 37 ck_6_333 (k - 333) (by omega)
    rw [show 333 + (k - 333) = k by omega] at e
    exact e
  by_cases h370 : k < 407
  · have e := ckI_ok 37 ck_6_370 (k - 370) (by omega)
    rw [show 370 + (k - 370) = k by omega] at e
    exact e
  by_cases h407 : k < 444
  · have e := ckI_ok 37 ck_6_407 (k - 407) (by omega)
    rw [show 407 + (k - 407) = k by omega] at e
    exact e
  by_cases h444 : k < 481
  · have e := ckI_ok 37 ck_6_444 (k - 444) (by omega)
    rw [show 444 + (k - 444) = k by omega] at e
    exact e
  by_cases h481 : k < 518
  · have e := ckI_ok 37 ck_6_481 (k - 481) (by omega)
    rw [show 481 + (k - 481) = k by omega] at e
    exact e
  have e := ckI_ok 37 ck_6_518 (k - 518) (by omega)
  rw [show 518 + (k - 518) = k by omega] at e
  exact e
theorem cka_7 {k : Nat} (h : k < 555) : ck true true true false 7 k = true := by
  by_cases h0 : k < 37
  · have e := ckI_ok 37 ck_7_0 (k - 0) (by omega)
    rw [show 0 + (k - 0) = k by omega] at e
    exact e
  by_cases h37 : k < 74
  · have e := ckI_ok 37 ck_7_37 (k - 37) (by omega)
    rw [show 37 + (k - 37) = k by omega] at e
    exact e
  by_cases h74 : k < 111
  · have e := ckI_ok 37 ck_7_74 (k - 74) (by omega)
    rw [show 74 + (k - 74) = k by omega] at e
    exact e
  by_cases h111 : k < 148
  · have e := ckI_ok 37 ck_7_111 (k - 111) (by omega)
    rw [show 111 + (k - 111) = k by omega] at e
    exact e
  by_cases h148 : k < 185
  · have e := ckI_ok 37 ck_7_148 (k - 148) (by omega)
    rw [show 148 + (k - 148) = k by omega] at e
    exact e
  by_cases h185 : k < 222
  · have e := ckI_ok 37 ck_7_185 (k - 185) (by omega)
    rw [show 185 + (k - 185) = k by omega] at e
    exact e
  by_cases h222 : k < 259
  · have e := ckI_ok 37 ck_7_222 (k - 222) (by omega)
    rw [show 222 + (k - 222) = k by omega] at e
    exact e
  by_cases h259 : k < 296
  · have e := ckI_ok 37 ck_7_259 (k - 259) (by omega)
    rw [show 259 + (k - 259) = k by omega] at e
    exact e
  by_cases h296 : k < 333
  · have e := ckI_ok 37 ck_7_296 (k - 296) (by omega)
    rw [show 296 + (k - 296) = k by omega] at e
    exact e
  by_cases h333 : k < 370
  · have e := ckI_ok 37 ck_7_333 (k - 333) (by omega)
    rw [show 333 + (k - 333) = k by omega] at e
    exact e
  by_cases h370 : k < 407
  · have e := ckI_ok 37 ck_7_370 (k - 370) (by omega)
    rw [show 370 + (k - 370) = k by omega] at e
    exact e
  by_cases h407 : k < 444
  · have e := ckI_ok 37 ck_7_407 (k - 407) (by omega)
    rw [show 407 + (k - 407) = k by omega] at e
    exact e
  by_cases h444 : k < 481
  · have e := ckI_ok 37 ck_7_444 (k - 444) (by omega)
    rw [show 444 + (k - 444) = k by omega] at e
    exact e
  by_cases h481 : k < 518
  · have e := ckI_ok 37 ck_7_481 (k - 481) (by omega)
    rw [show 481 + (k - 481) = k by omega] at e
    exact e
  have e := ckI_ok 37 ck_7_518 (k - 518) (by omega)
  rw [show 518 + (k - 518) = k by omega] at e
  exact e
theorem cka_8 {k : Nat} (h : k < 555) : ck false false false true 8 k = true := by
  by_cases h0 : k < 37
  · have e := ckI_ok 37 ck_8_0 (k - 0) (by omega)
    rw [show 0 + (k - 0) = k by omega] at e
    exact e
  by_cases h37 : k < 74
  · have e := ckI_ok 37 ck_8_37 (k - 37) (by omega)
    rw [show 37 + (k - 37) = k by omega] at e
    exact e
  by_cases h74 : k < 111
  · have e := ckI_ok 37 ck_8_74 (k - 74) (by omega)
    rw [show 74 + (k - 74) = k by omega] at e
    exact e
  by_cases h111 : k < 148
  · have e := ckI_ok 37 ck_8_111 (k - 111) (by omega)
    rw [show 111 + (k - 111) = k by omega] at e
    exact e
  by_cases h148 : k < 185
  · have e := ckI_ok 37 ck_8_148 (k - 148) (by omega)
    rw [show 148 + (k - 148) = k by omega] at e
    exact e
  by_cases h185 : k < 222
  · have e := ckI_ok 37 ck_8_185 (k - 185) (by omega)
    rw [show 185 + (k - 185) = k by omega] at e
    exact e
  by_cases h222 : k < 259
  · have e := ckI_ok 37 ck_8_222 (k - 222) (by omega)
    rw [show 222 + (k - 222) = k by omega] at e
    exact e
  by_cases h259 : k < 296
  · have e := ckI_ok 37 ck_8_259 (k - 259) (by omega)
    rw [show 259 + (k - 259) = k by omega] at e
    exact e
  by_cases h296 : k < 333
  · have e := ckI_ok 37 ck_8_296 (k - 296) (by omega)
    rw [show 296 + (k - 296) = k by omega] at e
    exact e
  by_cases h333 : k < 370
  · have e := ckI_ok 37 ck_8_333 (k - 333) (by omega)
    rw [show 333 + (k - 333) = k by omega] at e
    exact e
  by_cases h370 : k < 407
  · have e := ckI_ok 37 ck_8_370 (k - 370) (by omega)
    rw [show 370 + (k - 370) = k by omega] at e
    exact e
  by_cases h407 : k < 444
  · have e := ckI_ok 37 ck_8_407 (k - 407) (by omega)
    rw [show 407 + (k - 407) = k by omega] at e
    exact e
  by_cases h444 : k < 481
  · have e := ckI_ok 37 ck_8_444 (k - 444) (by omega)
    rw [show 444 + (k - 444) = k by omega] at e
    exact e
  by_cases h481 : k < 518
  · have e := ckI_ok 37 ck_8_481 (k - 481) (by omega)
    rw [show 481 + (k - 481) = k by omega] at e
    exact e
  have e := ckI_ok 37 ck_8_518 (k - 518) (by omega)
  rw [show 518 + (k - 518) = k by omega] at e
  exact e
theorem cka_9 {k : Nat} (h : k < 555) : ck true false false true 9 k = true := by
  by_cases h0 : k < 37
  · have e := ckI_ok 37 ck_9_0 (k - 0) (by omega)
    rw [show 0 + (k - 0) = k by omega] at e
    exact e
  by_cases h37 : k < 74
  · have e := ckI_ok 37 ck_9_37 (k - 37) (by omega)
    rw [show 37 + (k - 37) = k by omega] at e
    exact e
  by_cases h74 : k < 111
  · have e := ckI_ok 37 ck_9_74 (k - 74) (by omega)
    rw [show 74 + (k - 74) = k by omega] at e
    exact e
  by_cases h111 : k < 148
  · have e := ckI_ok 37 ck_9_111 (k - 111) (by omega)
    rw [show 111 + (k - 111) = k by omega] at e
    exact e
  by_cases h148 : k < 185
  · have e := ckI_ok 37 ck_9_148 (k - 148) (by omega)
    rw [show 148 + (k - 148) = k by omega] at e
    exact e
  by_cases h185 : k < 222
  · have e := ckI_ok 37 ck_9_185 (k - 185) (by omega)
    rw [show 185 + (k - 185) = k by omega] at e
    exact e
  by_cases h222 : k < 259
  · have e := ckI_ok 37 ck_9_222 (k - 222) (by omega)
    rw [show 222 + (k - 222) = k by omega] at e
    exact e
  by_cases h259 : k < 296
  · have e := ckI_ok 37 ck_9_259 (k - 259) (by omega)
    rw [show 259 + (k - 259) = k by omega] at e
    exact e
  by_cases h296 : k < 333
  · have e := ckI_ok 37 ck_9_296 (k - 296) (by omega)
    rw [show 296 + (k - 296) = k by omega] at e
    exact e
  by_cases h333 : k < 370
  · have e := ckI_ok 37 ck_9_333 (k - 333) (by omega)
    rw [show 333 + (k - 333) = k by omega] at e
    exact e
  by_cases h370 : k < 407
  · have e := ckI_ok 37 ck_9_370 (k - 370) (by omega)
    rw [show 370 + (k - 370) = k by omega] at e
    exact e
  by_cases h407 : k < 444
  · have e := ckI_ok 37 ck_9_407 (k - 407) (by omega)
    rw [show 407 + (k - 407) = k by omega] at e
    exact e
  by_cases h444 : k < 481
  · have e := ckI_ok 37 ck_9_444 (k - 444) (by omega)
    rw [show 444 + (k - 444) = k by omega] at e
    exact e
  by_cases h481 : k < 518
  · have e := ckI_ok 37 ck_9_481 (k - 481) (by omega)
    rw [show 481 + (k - 481) = k by omega] at e
    exact e
  have e := ckI_ok 37 ck_9_518 (k - 518) (by omega)
  rw [show 518 + (k - 518) = k by omega] at e
  exact e
theorem cka_10 {k : Nat} (h : k < 555) : ck false false true true 10 k = true := by
  by_cases h0 : k < 37
  · have e := ckI_ok 37 ck_10_0 (k - 0) (by omega)
    rw [show 0 + (k - 0) = k by omega] at e
    exact e
  by_cases h37 : k < 74
  · have e := ckI_ok 37 ck_10_37 (k - 37) (by omega)
    rw [show 37 + (k - 37) = k by omega] at e
    exact e
  by_cases h74 : k < 111
  · have e := ckI_ok 37 ck_10_74 (k - 74) (by omega)
    rw [show 74 + (k - 74) = k by omega] at e
    exact e
  by_cases h111 : k < 148
  · have e := ckI_ok 37 ck_10_111 (k - 111) (by omega)
    rw [show 111 + (k - 111) = k by omega] at e
    exact e
  by_cases h148 : k < 185
  · have e := ckI_ok 37 ck_10_148 (k - 148) (by omega)
    rw [show 148 + (k - 148) = k by omega] at e
    exact e
  by_cases h185 : k < 222
  · have e := ckI_ok 37 ck_10_185 (k - 185) (by omega)
    rw [show 185 + (k - 185) = k by omega] at e
    exact e
  by_cases h222 : k < 259
  · have e := ckI_ok 37 ck_10_222 (k - 222) (by omega)
    rw [show 222 + (k - 222) = k by omega] at e
    exact e
  by_cases h259 : k < 296
  · have e := ckI_ok 37 ck_10_259 (k - 259) (by omega)
    rw [show 259 + (k - 259) = k by omega] at e
    exact e
  by_cases h296 : k < 333
  · have e := ckI_ok 37 ck_10_296 (k - 296) (by omega)
    rw [show 296 + (k - 296) = k by omega] at e
    exact e
  by_cases h333 : k < 370
  · have e := ckI_ok 37 ck_10_333 (k - 333) (by omega)
    rw [show 333 + (k - 333) = k by omega] at e
    exact e
  by_cases h370 : k < 407
  · have e := ckI_ok 37 ck_10_370 (k - 370) (by omega)
    rw [show 370 + (k - 370) = k by omega] at e
    exact e
  by_cases h407 : k < 444
  · have e := ckI_ok 37 ck_10_407 (k - 407) (by omega)
    rw [show 407 + (k - 407) = k by omega] at e
    exact e
  by_cases h444 : k < 481
  · have e := ckI_ok 37 ck_10_444 (k - 444) (by omega)
    rw [show 444 + (k - 444) = k by omega] at e
    exact e
  by_cases h481 : k < 518
  · have e := ckI_ok 37 ck_10_481 (k - 481) (by omega)
    rw [show 481 + (k - 481) = k by omega] at e
    exact e
  have e := ckI_ok 37 ck_10_518 (k - 518) (by omega)
  rw [show 518 + (k - 518) = k by omega] at e
  exact e
theorem cka_11 {k : Nat} (h : k < 555) : ck true false true true 11 k = true := by
  by_cases h0 : k < 37
  · have e := ckI_ok 37 ck_11_0 (k - 0) (by omega)
    rw [show 0 + (k - 0) = k by omega] at e
    exact e
  by_cases h37 : k < 74
  · have e := ckI_ok 37 ck_11_37 (k - 37) (by omega)
    rw [show 37 + (k - 37) = k by omega] at e
    exact e
  by_cases h74 : k < 111
  · have e := ckI_ok 37 ck_11_74 (k - 74) (by omega)
    rw [show 74 + (k - 74) = k by omega] at e
    exact e
  by_cases h111 : k < 148
  · have e := ckI_ok 37 ck_11_111 (k - 111) (by omega)
    rw [show 111 + (k - 111) = k by omega] at e
    exact e
  by_cases h148 : k < 185
  · have e := ckI_ok 37 ck_11_148 (k - 148) (by omega)
    rw [show 148 + (k - 148) = k by omega] at e
    exact e
  by_cases h185 : k < 222
  · have e := ckI_ok 37 ck_11_185 (k - 185) (by omega)
    rw [show 185 + (k - 185) = k by omega] at e
    exact e
  by_cases h222 : k < 259
  · have e := ckI_ok 37 ck_11_222 (k - 222) (by omega)
    rw [show 222 + (k - 222) = k by omega] at e
    exact e
  by_cases h259 : k < 296
  · have e := ckI_ok 37 ck_11_259 (k - 259) (by omega)
    rw [show 259 + (k - 259) = k by omega] at e
    exact e
  by_cases h296 : k < 333
  · have e := ckI_ok 37 ck_11_296 (k - 296) (by omega)
    rw [show 296 + (k - 296) = k by omega] at e
    exact e
  by_cases h333 : k < 370
  · have e := ckI_ok 37 ck_11_333 (k - 333) (by omega)
    rw [show 333 + (k - 333) = k by omega] at e
    exact e
  by_cases h370 : k < 407
  · have e := ckI_ok 37 ck_11_370 (k - 370) (by omega)
    rw [show 370 + (k - 370) = k by omega] at e
    exact e
  by_cases h407 : k < 444
  · have e := ckI_ok 37 ck_11_407 (k - 407) (by omega)
    rw [show 407 + (k - 407) = k by omega] at e
    exact e
  by_cases h444 : k < 481
  · have e := ckI_ok 37 ck_11_444 (k - 444) (by omega)
    rw [show 444 + (k - 444) = k by omega] at e
    exact e
  by_cases h481 : k < 518
  · have e := ckI_ok 37 ck_11_481 (k - 481) (by omega)
    rw [show 481 + (k - 481) = k by omega] at e
    exact e
  have e := ckI_ok 37 ck_11_518 (k - 518) (by omega)
  rw [show 518 + (k - 518) = k by omega] at e
  exact e
theorem cka_12 {k : Nat} (h : k < 555) : ck false true false true 12 k = true := by
  by_cases h0 : k < 37
  · have e := ckI_ok 37 ck_12_0 (k - 0) (by omega)
    rw [show 0 + (k - 0) = k by omega] at e
    exact e
  by_cases h37 : k < 74
  · have e := ckI_ok 37 ck_12_37 (k - 37) (by omega)
    rw [show 37 + (k - 37) = k by omega] at e
    exact e
  by_cases h74 : k < 111
  · have e := ckI_ok 37 ck_12_74 (k - 74) (by omega)
    rw [show 74 + (k - 74) = k by omega] at e
    exact e
  by_cases h111 : k < 148
  · have e := ckI_ok 37 ck_12_111 (k - 111) (by omega)
    rw [show 111 + (k - 111) = k by omega] at e
    exact e
  by_cases h148 : k < 185
  · have e := ckI_ok 37 ck_12_148 (k - 148) (by omega)
    rw [show 148 + (k - 148) = k by omega] at e
    exact e
  by_cases h185 : k < 222
  · have e := ckI_ok 37 ck_12_185 (k - 185) (by omega)
    rw [show 185 + (k - 185) = k by omega] at e
    exact e
  by_cases h222 : k < 259
  · have e := ckI_ok 37 ck_12_222 (k - 222) (by omega)
    rw [show 222 + (k - 222) = k by omega] at e
    exact e
  by_cases h259 : k < 296
  · have e := ckI_ok 37 ck_12_259 (k - 259) (by omega)
    rw [show 259 + (k - 259) = k by omega] at e
    exact e
  by_cases h296 : k < 333
  · have e := ckI_ok 37 ck_12_296 (k - 296) (by omega)
    rw [show 296 + (k - 296) = k by omega] at e
    exact e
  by_cases h333 : k < 370
  · have e := ckI_ok 37 ck_12_333 (k - 333) (by omega)
    rw [show 333 + (k - 333) = k by omega] at e
    exact e
  by_cases h370 : k < 407
  · have e := ckI_ok 37 ck_12_370 (k - 370) (by omega)
    rw [show 370 + (k - 370) = k by omega] at e
    exact e
  by_cases h407 : k < 444
  · have e := ckI_ok 37 ck_12_407 (k - 407) (by omega)
    rw [show 407 + (k - 407) = k by omega] at e
    exact e
  by_cases h444 : k < 481
  · have e := ckI_ok 37 ck_12_444 (k - 444) (by omega)
    rw [show 444 + (k - 444) = k by omega] at e
    exact e
  by_cases h481 : k < 518
  · have e := ckI_ok 37 ck_12_481 (k - 481) (by omega)
    rw [show 481 + (k - 481) = k by omega] at e
    exact e
  have e := ckI_ok 37 ck_12_518 (k - 518) (by omega)
  rw [show 518 + (k - 518) = k by omega] at e
  exact e
theorem cka_13 {k : Nat} (h : k < 555) : ck true true false true 13 k = true := by
  by_cases h0 : k < 37
  · have e := ckI_ok 37 ck_13_0 (k - 0) (by omega)
    rw [show 0 + (k - 0) = k by omega] at e
    exact e
  by_cases h37 : k < 74
  · have e := ckI_ok 37 ck_13_37 (k - 37) (by omega)
    rw [show 37 + (k - 37) = k by omega] at e
    exact e
  by_cases h74 : k < 111
  · have e := ckI_ok 37 ck_13_74 (k - 74) (by omega)
    rw [show 74 + (k - 74) = k by omega] at e
    exact e
  by_cases h111 : k < 148
  · have e := ckI_ok 37 ck_13_111 (k - 111) (by omega)
    rw [show 111 + (k - 111) = k by omega] at e
    exact e
  by_cases h148 : k < 185
  · have e := ckI_ok 37 ck_13_148 (k - 148) (by omega)
    rw [show 148 + (k - 148) = k by omega] at e
    exact e
  by_cases h185 : k < 222
  · have e := ckI_ok 37 ck_13_185 (k - 185) (by omega)
    rw [show 185 + (k - 185) = k by omega] at e
    exact e
  by_cases h222 : k < 259
  · have e := ckI_ok 37 ck_13_222 (k - 222) (by omega)
    rw [show 222 + (k - 222) = k by omega] at e
    exact e
  by_cases h259 : k < 296
  · have e := ckI_ok 37 ck_13_259 (k - 259) (by omega)
    rw [show 259 + (k - 259) = k by omega] at e
    exact e
  by_cases h296 : k < 333
  · have e := ckI_ok 37 ck_13_296 (k - 296) (by omega)
    rw [show 296 + (k - 296) = k by omega] at e
    exact e
  by_cases h333 : k < 370
  · have e := ckI_ok 37 ck_13_333 (k - 333) (by omega)
    rw [show 333 + (k - 333) = k by omega] at e
    exact e
  by_cases h370 : k < 407
  · have e := ckI_ok 37 ck_13_370 (k - 370) (by omega)
    rw [show 370 + (k - 370) = k by omega] at e
    exact e
  by_cases h407 : k < 444
  · have e := ckI_ok 37 ck_13_407 (k - 407) (by omega)
    rw [show 407 + (k - 407) = k by omega] at e
    exact e
  by_cases h444 : k < 481
  · have e := ckI_ok 37 ck_13_444 (k - 444) (by omega)
    rw [show 444 + (k - 444) = k by omega] at e
    exact e
  by_cases h481 : k < 518
  · have e := ckI_ok 37 ck_13_481 (k - 481) (by omega)
    rw [show 481 + (k - 481) = k by omega] at e
    exact e
  have e := ckI_ok 37 ck_13_518 (k - 518) (by omega)
  rw [show 518 + (k - 518) = k by omega] at e
  exact e
theorem cka_14 {k : Nat} (h : k < 555) : ck false true true true 14 k = true := by
  by_cases h0 : k < 37
  · have e := ckI_ok 37 ck_14_0 (k - 0) (by omega)
    rw [show 0 + (k - 0) = k by omega] at e
    exact e
  by_cases h37 : k < 74
  · have e := ckI_ok 37 ck_14_37 (k - 37) (by omega)
    rw [show 37 + (k - 37) = k by omega] at e
    exact e
  by_cases h74 : k < 111
  · have e := ckI_ok 37 ck_14_74 (k - 74) (by omega)
    rw [show 74 + (k - 74) = k by omega] at e
    exact e
  by_cases h111 : k < 148
  · have e := ckI_ok 37 ck_14_111 (k - 111) (by omega)
    rw [show 111 + (k - 111) = k by omega] at e
    exact e
  by_cases h148 : k < 185
  · have e := ckI_ok 37 ck_14_148 (k - 148) (by omega)
    rw [show 148 + (k - 148) = k by omega] at e
    exact e
  by_cases h185 : k < 222
  · have e := ckI_ok 37 ck_14_185 (k - 185) (by omega)
    rw [show 185 + (k - 185) = k by omega] at e
    exact e
  by_cases h222 : k < 259
  · have e := ckI_ok 37 ck_14_222 (k - 222) (by omega)
    rw [show 222 + (k - 222) = k by omega] at e
    exact e
  by_cases h259 : k < 296
  · have e := ckI_ok 37 ck_14_259 (k - 259) (by omega)
    rw [show 259 + (k - 259) = k by omega] at e
    exact e
  by_cases h296 : k < 333
  · have e := ckI_ok 37 ck_14_296 (k - 296) (by omega)
    rw [show 296 + (k - 296) = k by omega] at e
    exact e
  by_cases h333 : k < 370
  · have e := ckI_ok 37 ck_14_333 (k - 333) (by omega)
    rw [show 333 + (k - 333) = k by omega] at e
    exact e
  by_cases h370 : k < 407
  · have e := ckI_ok 37 ck_14_370 (k - 370) (by omega)
    rw [show 370 + (k - 370) = k by omega] at e
    exact e
  by_cases h407 : k < 444
  · have e := ckI_ok 37 ck_14_407 (k - 407) (by omega)
    rw [show 407 + (k - 407) = k by omega] at e
    exact e
  by_cases h444 : k < 481
  · have e := ckI_ok 37 ck_14_444 (k - 444) (by omega)
    rw [show 444 + (k - 444) = k by omega] at e
    exact e
  by_cases h481 : k < 518
  · have e := ckI_ok 37 ck_14_481 (k - 481) (by omega)
    rw [show 481 + (k - 481) = k by omega] at e
    exact e
  have e := ckI_ok 37 ck_14_518 (k - 518) (by omega)
  rw [show 518 + (k - 518) = k by omega] at e
  exact e
theorem cka_15 {k : Nat} (h : k < 555) : ck true true true true 15 k = true := by
  by_cases h0 : k < 37
  · have e := ckI_ok 37 ck_15_0 (k - 0) (by omega)
    rw [show 0 + (k - 0) = k by omega] at e
    exact e
  by_cases h37 : k < 74
  · have e := ckI_ok 37 ck_15_37 (k - 37) (by omega)
    rw [show 37 + (k - 37) = k by omega] at e
    exact e
  by_cases h74 : k < 111
  · have e := ckI_ok 37 ck_15_74 (k - 74) (by omega)
    rw [show 74 + (k - 74) = k by omega] at e
    exact e
  by_cases h111 : k < 148
  · have e := ckI_ok 37 ck_15_111 (k - 111) (by omega)
    rw [show 111 + (k - 111) = k by omega] at e
    exact e
  by_cases h148 : k < 185
  · have e := ckI_ok 37 ck_15_148 (k - 148) (by omega)
    rw [show 148 + (k - 148) = k by omega] at e
    exact e
  by_cases h185 : k < 222
  · have e := ckI_ok 37 ck_15_185 (k - 185) (by omega)
    rw [show 185 + (k - 185) = k by omega] at e
    exact e
  by_cases h222 : k < 259
  · have e := ckI_ok 37 ck_15_222 (k - 222) (by omega)
    rw [show 222 + (k - 222) = k by omega] at e
    exact e
  by_cases h259 : k < 296
  · have e := ckI_ok 37 ck_15_259 (k - 259) (by omega)
    rw [show 259 + (k - 259) = k by omega] at e
    exact e
  by_cases h296 : k < 333
  · have e := ckI_ok 37 ck_15_296 (k - 296) (by omega)
    rw [show 296 + (k - 296) = k by omega] at e
    exact e
  by_cases h333 : k < 370
  · have e := ckI_ok 37 ck_15_333 (k - 333) (by omega)
    rw [show 333 + (k - 333) = k by omega] at e
    exact e
  by_cases h370 : k < 407
  · have e := ckI_ok 37 ck_15_370 (k - 370) (by omega)
    rw [show 370 + (k - 370) = k by omega] at e
    exact e
  by_cases h407 : k < 444
  · have e := ckI_ok 37 ck_15_407 (k - 407) (by omega)
    rw [show 407 + (k - 407) = k by omega] at e
    exact e
  by_cases h444 : k < 481
  · have e := ckI_ok 37 ck_15_444 (k - 444) (by omega)
    rw [show 444 + (k - 444) = k by omega] at e
    exact e
  by_cases h481 : k < 518
  · have e := ckI_ok 37 ck_15_481 (k - 481) (by omega)
    rw [show 481 + (k - 481) = k by omega] at e
    exact e
  have e := ckI_ok 37 ck_15_518 (k - 518) (by omega)
  rw [show 518 + (k - 518) = k by omega] at e
  exact e
theorem g_ok : ∀ k, k < 555 → 1 ≤ gP k ∧ gP k ≤ 17558592 ∧ ∀ T, T < 16 → gN k T < 555 := by decide +kernel
theorem ckb_0 : ∀ k, k < 555 → ck1 (mg false false false false 0 (gS k)) 0 k = true := by decide +kernel
theorem ckb_1 : ∀ k, k < 555 → ck1 (mg true false true false 0 (gS k)) 5 k = true := by decide +kernel
theorem ckb_2 : ∀ k, k < 555 → ck1 (mg false true false true 0 (gS k)) 10 k = true := by decide +kernel
theorem ckb_3 : ∀ k, k < 555 → ck1 (mg true true true true 0 (gS k)) 15 k = true := by decide +kernel
theorem ckc_0 : ∀ k, k < 555 → ck1 (Nat.shiftLeft 1 (toN 0 8 0 0 0)) 0 k = true := by decide +kernel
theorem ckc_1 : ∀ k, k < 555 → ck1 (Nat.shiftLeft 1 (toN 1 8 0 0 0)) 15 k = true := by decide +kernel
