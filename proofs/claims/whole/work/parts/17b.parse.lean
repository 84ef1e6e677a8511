section PRS
variable {len m : Nat} {P T K Y : Nat → Nat}
/-- the reference's reader from place p on -/
def mR (len m : Nat) (P Y : Nat → Nat) (p : Nat) (s : fS) : Bool × Nat × fS := fmR len m P Y (len - p) p s
theorem mR_e {hi fo : Nat} {wh : Bool} {st dr : Nat} {D O G : Nat → Nat} : mR len m P Y len (hi, fo, wh, st, dr, D, O, G) = (wh, len, (hi, fo, wh, st, dr, D, O, G)) := by
  unfold mR
  rw [Nat.sub_self]
  rfl
theorem mR_n {p hi fo : Nat} {wh : Bool} {st dr : Nat} {D O G : Nat → Nat} (hp : p < len) (h : fmS m P Y p hi fo wh st dr D O G = none) : mR len m P Y p (hi, fo, wh, st, dr, D, O, G) = (false, p, (hi, fo, wh, st, dr, D, O, G)) := by
  unfold mR
  rw [show len - p = (len - (p + 1)) + 1 by omega]
  exact fm_n h
theorem mR_y {p hi fo : Nat} {wh : Bool} {st dr : Nat} {D O G : Nat → Nat} {s : fS} (hp : p < len) (h : fmS m P Y p hi fo wh st dr D O G = some s) : mR len m P Y p (hi, fo, wh, st, dr, D, O, G) = mR len m P Y (p + 1) s := by
  unfold mR
  rw [show len - p = (len - (p + 1)) + 1 by omega]
  exact fm_y h
def BadR (p : Nat) (r : Bool × Nat × fS) : Prop := r.1 = false ∧ r.2.1 = p
/-- not whole, and the byte here can't stand here -/
theorem bad_n {p hi fo st dr : Nat} {D O G : Nat → Nat} (hp : p ≤ len) (h : p < len → fmS m P Y p hi fo false st dr D O G = none) : BadR p (mR len m P Y p (hi, fo, false, st, dr, D, O, G)) := by
  by_cases hl : p < len
  · rw [mR_n hl (h hl)]; exact ⟨rfl, rfl⟩
  · obtain rfl : p = len := by omega
    rw [mR_e]; exact ⟨rfl, rfl⟩
/-- what a reader at a stack of hi does is what the recursive descent does -/
def GoodR (len m : Nat) (P T K Y : Nat → Nat) (hi p co le dr : Nat) (D O G : Nat → Nat) (r : Bool × Nat × fS) (dr0 c0 x : Nat) (g : Option Nat × zS) : Prop := match g.1 with
  | none => BadR g.2.1 r
  | some t => g.2.1 ≤ len ∧ g.2.2.2.2 ≤ 30 ∧ ∃ dr' D' O' G' c, dr ≤ dr' ∧ (∀ k, k < dr → D' k = D k) ∧ (∀ k, k < hi → O' k = O k ∧ G' k = G k) ∧ r = mR len m P Y g.2.1 (fmD hi g.2.2.2.2 dr' D' O' G') ∧ g.2.2.1 = co + c ∧ Ev m P T K D' dr0 dr' t (c0 + c) g.2.2.2.1 ∧ dr' + le = dr + g.2.2.2.2 + x
def Sm (len m : Nat) (P T K Y : Nat → Nat) (hi : Nat) (g : zS → Option Nat × zS) : Prop := ∀ (p co de le dr : Nat) (D O G : Nat → Nat), p ≤ len → le ≤ 30 → GoodR len m P T K Y hi p co le dr D O G (mR len m P Y p (hi, le, false, 0, dr, D, O, G)) dr 0 0 (g (p, co, de, le))
def stq (q : Nat) : Nat := if q = 0 then 0 else 2
theorem fn_lt {f : Nat → Nat} {k x q : Nat} (h : q < k) : fn f k x q = f q := if_neg (by omega)
theorem fn_eq {f : Nat → Nat} {k x : Nat} : fn f k x k = x := if_pos rfl
theorem fmD_s {hi fo dr : Nat} {D O G : Nat → Nat} : fmD (hi + 1) fo dr D O G = (hi + 1, fo, false, 2, dr, D, O, fn G hi (G hi + 1)) := by
  unfold fmD
  rw [decide_eq_false (by omega), if_neg (by omega)]
  rfl
theorem tl_8 {p t a b c : Nat} (hp : p < 4) (ht : t < z22 p) (h0 : p < 1 → a = 0) (h1 : p < 2 → b = 0) (h2 : p < 3 → c = 0) : pkN c (zttN ((t * zrep p) >>> 4) a b) (zttN (t * zrep p) a b) &&& 255 = toN t (1 <<< 3) a b c := by
  have h := tl_to (w := t * zrep p) (a := a) (b := b) (c := c) (m := 8) (by decide)
  rw [show (1 <<< 8 - 1 : Nat) = 255 from by decide] at h
  rw [h, to_wide hp ht h0 h1 h2]
  rfl
theorem max_eq (dp e : Nat) : (if dp < e then e else dp) = (if e ≤ dp then dp else e) := by
  by_cases h : dp < e
  · rw [if_pos h, if_neg (by omega)]
  · rw [if_neg h, if_pos (by omega)]
theorem zfor_snoc {α : Type} {f : Nat → α → α} : ∀ j i a, zfor f (j + 1) i a = f (i + j) (zfor f j i a) := by
  intro j
  induction j with
  | zero => intro i a; rfl
  | succ j ih =>
    intro i a
    show zfor f (j + 1) (i + 1) (f i a) = f (i + (j + 1)) (zfor f j (i + 1) (f i a))
    rw [ih, show i + 1 + j = i + (j + 1) by omega]
theorem jw_fn {k q t : Nat} {W : Nat → Nat} : jw k (q + 1) (fn W q t) = if q = k then t else jw k q W := by
  unfold jw fn
  by_cases h : q = k
  · subst h; rw [if_pos (by omega), if_pos rfl, if_pos rfl]
  · rw [if_neg h]
    by_cases h2 : k < q
    · rw [if_pos (show k < q + 1 by omega), if_neg (show ¬ k = q by omega), if_pos h2]
    · rw [if_neg (show ¬ k < q + 1 by omega), if_neg h2]
theorem jc_fn {q c K0 : Nat} {Cc : Nat → Nat} : zfor (jcF (fn Cc q c) 0) (q + 1) 0 K0 = zfor (jcF Cc 0) q 0 K0 + c := by
  rw [zfor_snoc]
  unfold jcF
  rw [Nat.zero_add, Nat.zero_add, fn_eq]
  congr 1
  exact zfor_cong _ _ _ (fun k x _ hk => by show x + fn Cc q c (0 + k) = x + Cc (0 + k); rw [fn_lt (by omega)])
theorem je_fn {q e : Nat} {Ee : Nat → Nat} : zfor (jeF (fn Ee q e) 0) (q + 1) 0 0 = (if zfor (jeF Ee 0) q 0 0 < e then e else zfor (jeF Ee 0) q 0 0) := by
  rw [zfor_snoc, max_eq]
  have h : zfor (jeF (fn Ee q e) 0) q 0 0 = zfor (jeF Ee 0) q 0 0 := zfor_cong _ _ _ (fun k x _ hk => by show (if fn Ee q e (0 + k) ≤ x then x else fn Ee q e (0 + k)) = (if Ee (0 + k) ≤ x then x else Ee (0 + k)); rw [fn_lt (by omega)])
  rw [h]
  show (if fn Ee q e (0 + (0 + q)) ≤ _ then _ else fn Ee q e (0 + (0 + q))) = _
  rw [Nat.zero_add, Nat.zero_add, fn_eq]
/-- the parts of the sign i -/
theorem pq_sim {hi i dr0 : Nat} {nx : zS → Option Nat × zS} (hm : m ≤ 6) (hi6 : i < m) (hR : P i < 4 ∧ T i < z22 (P i)) (hP0 : 0 < P i) (hnx : Sm len m P T K Y (hi + 1) nx) : ∀ (j q p co de le dr : Nat) (D O G W Cc Ee : Nat → Nat), q + j = P i → p ≤ len → le ≤ 30 → O hi = 112 + i → G hi = q → EvQ m P T K D dr0 dr q W Cc Ee → GoodR len m P T K Y hi p co le dr D O G (mR len m P Y p (hi + 1, le, false, stq q, dr, D, O, G)) dr0 (zfor (jcF Cc 0) q 0 (K i)) 1 (pqF nx (zlt len Y) (T i * zrep (P i)) j q (jw 0 q W) (jw 1 q W) (jw 2 q W) (zfor (jeF Ee 0) q 0 0) (p, co, de, le)) := by
  intro j
  induction j with
  | zero =>
    intro q p co de le dr D O G W Cc Ee hq hp hle hO hG hE
    have hqP : q = P i := by omega
    have hst : stq q = 2 := if_neg (by omega)
    have hg : ¬ G (hi + 1 - 1) < P (O (hi + 1 - 1) - 112) := by
      rw [show hi + 1 - 1 = hi by omega, hO, hG, show 112 + i - 112 = i by omega]; omega
    by_cases h41 : zlt len Y p = 41
    · have hl := zlt_y (by decide) h41
      rw [pl_0 h41, hst, mR_y hl.1 (fs_2ky (by decide) (by decide) (by decide) hg hl.2), show hi + 1 - 1 = hi by omega, hO]
      refine ⟨by show p + 1 ≤ len; omega, hle, dr + 1, fn D dr (112 + i), O, G, 0, by omega, fun k hk => fn_lt hk, fun k _ => ⟨rfl, rfl⟩, rfl, rfl, ?_, by show dr + 1 + le = dr + le + 1; omega⟩
      have hE2 : EvQ m P T K (fn D dr (112 + i)) dr0 dr (P i) W Cc Ee := by
        rw [← hqP]
        exact EvQ_cong (fun k _ hk => (fn_lt hk).symm) hE
      have h2 := Ev_sg hE2 fn_eq hi6 hm
      rw [hqP]
      have e8 := tl_8 (p := P i) (t := T i) (a := jw 0 (P i) W) (b := jw 1 (P i) W) (c := jw 2 (P i) W) hR.1 hR.2 (fun h => absurd h (by omega)) (fun h => if_neg (by omega)) (fun h => if_neg (by omega))
      rw [← e8] at h2
      exact h2
    · rw [pl_0n h41, hst]
      exact bad_n hp (fun hl => fs_2kn (by decide) (by decide) (by decide) hg (fun h => h41 (by unfold zlt; rw [if_pos hl]; exact h)))
  | succ j ih =>
    intro q p co de le dr D O G W Cc Ee hq hp hle hO hG hE
    have key : ∀ p1, p1 ≤ len → GoodR len m P T K Y hi p co le dr D O G (mR len m P Y p1 (hi + 1, le, false, 0, dr, D, O, G)) dr0 (zfor (jcF Cc 0) q 0 (K i)) 1 (pqG nx (zlt len Y) (T i * zrep (P i)) j q (jw 0 q W) (jw 1 q W) (jw 2 q W) (zfor (jeF Ee 0) q 0 0) (p1, co, de, le)) := by
      intro p1 hp1
      have h1 := hnx p1 co de le dr D O G hp1 hle
      rcases hr : nx (p1, co, de, le) with ⟨ot, p2, co2, de2, le2⟩
      rw [hr] at h1
      cases ot with
      | none => rw [pl_gn hr]; exact h1
      | some t =>
        rw [pl_gy hr]
        obtain ⟨b1, b2, dr', D', O', G', c, b3, b4, b5, b6, b7, b8, b9⟩ := h1
        dsimp only at b1 b2 b6 b7 b8 b9
        rw [Nat.zero_add] at b8
        rw [b6, fmD_s]
        have hO' : O' hi = 112 + i := by rw [(b5 hi (by omega)).1]; exact hO
        have hG' : G' hi = q := by rw [(b5 hi (by omega)).2]; exact hG
        have hE2 : EvQ m P T K D' dr0 dr' (q + 1) (fn W q t) (fn Cc q c) (fn Ee q de2) := EvQ_s (EvQ_cong (fun k _ hk => (b4 k hk).symm) hE) b8
        have h2 := ih (q + 1) p2 co2 de2 le2 dr' D' O' (fn G' hi (G' hi + 1)) (fn W q t) (fn Cc q c) (fn Ee q de2) (by omega) b1 b2 hO' (by rw [fn_eq, hG']) hE2
        rw [show stq (q + 1) = 2 from if_neg (by omega), jc_fn, je_fn, jw_fn, jw_fn, jw_fn] at h2
        dsimp only
        unfold GoodR at h2 ⊢
        split at h2
        · rename_i e; rw [e]; exact h2
        · rename_i t2 e
          rw [e]
          obtain ⟨d1, d2, dr2, D2, O2, G2, c2, d3, d4, d5, d6, d7, d8, d9⟩ := h2
          refine ⟨d1, d2, dr2, D2, O2, G2, c + c2, by omega, fun k hk => (d4 k (by omega)).trans (b4 k hk), fun k hk => ?_, d6, by rw [d7, b7]; omega, by rw [← Nat.add_assoc]; exact d8, by omega⟩
          have e1 := d5 k hk
          have e2 := b5 k (by omega)
          exact ⟨e1.1.trans e2.1, (e1.2.trans (fn_lt hk)).trans e2.2⟩
    by_cases hq0 : q = 0
    · subst hq0
      rw [pl_g0]
      exact key p hp
    · have hst : stq q = 2 := if_neg hq0
      have hg : G (hi + 1 - 1) < P (O (hi + 1 - 1) - 112) := by
        rw [show hi + 1 - 1 = hi by omega, hO, hG, show 112 + i - 112 = i by omega]; omega
      by_cases h44 : zlt len Y p = 44
      · have hl := zlt_y (by decide) h44
        rw [pl_gs (by omega) h44, hst, mR_y hl.1 (fs_2cy (by decide) (by decide) (by decide) hg hl.2)]
        exact key (p + 1) (by omega)
      · rw [pl_c ⟨by omega, h44⟩, hst]
        exact bad_n hp (fun hl => fs_2cn (by decide) (by decide) (by decide) hg (fun h => h44 (by unfold zlt; rw [if_pos hl]; exact h)))
end PRS
