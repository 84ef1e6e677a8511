/-- the class's formulas: table, cost, depth, letters -/
def foC (M : zM) (tb co de le : Nat → Nat) : Prop := (∀ i, i < 4 → M (28 + i) 0 = nI (tb i) ∧ M (28 + i) 1 = nI (co i) ∧ M (28 + i) 2 = nI (de i) ∧ M (28 + i) 3 = nI (le i)) ∧ ∀ i, i < 4 → tb i < 256
theorem zfo_x {x : Int32} (h : zfo x = true) : ∃ i, i < 4 ∧ x = nI i := by
  unfold zfo at h
  simp only [Bool.and_eq_true, decide_eq_true_eq] at h
  obtain ⟨j, hj, rfl⟩ := nI_of h.1
  exact ⟨j, by have h2 := h.2; rw [nI_leI (by decide) hj] at h2; omega, rfl⟩
def fForm (tb co de le : Nat → Nat) (x w : Int32) : Int32 := if zfo x = true then (if w = nI 0 then nI (tb x.toNatClampNeg) else if w = nI 1 then nI (co x.toNatClampNeg) else if w = nI 2 then nI (de x.toNatClampNeg) else if w = nI 3 then nI (le x.toNatClampNeg) else if w = nI 4 then nI (mpN 3 (tb x.toNatClampNeg)) else if w = nI 5 then nI (ohN 3 (tb x.toNatClampNeg)) else if w = nI 6 then nI (bcN (tb x.toNatClampNeg)) else if w = nI 7 then nI (kbN 3 (tb x.toNatClampNeg)) else -1) else -1
def fBoth (tb : Nat → Nat) (x y w : Int32) : Int32 := if zfo x = true ∧ zfo y = true then (if w = nI 0 then (if tb x.toNatClampNeg = tb y.toNatClampNeg then nI 1 else nI 0) else if w = nI 1 then (if tb x.toNatClampNeg &&& (tb y.toNatClampNeg ^^^ zFF) = 0 then nI 1 else nI 0) else if w = nI 2 then (if ohN 3 (tb x.toNatClampNeg) = tb y.toNatClampNeg then nI 1 else nI 0) else -1) else -1
section ZPL
variable {NC : Nat} {sc : Nat × (Nat → Int32)} {C : Nat → List Value → zM → Option Value → zM → Prop} {J : Nat → List Value → List Value → zM → Prop} {fin : Option Value → zM → Prop} {np pc len a b t : Nat} {es : List zE} {L st : List Value} {M : zM}
theorem p_lk {x : Int32} {d off : Int} {ps : Array (Int × Int)} {tgt : Nat} (hp : (ps.toList.zip (ps.toList.drop 1)).all (fun (a, next) => a.1 < next.1) = true) (ho : Op.lookupswitch.offset ps.toList d x.toInt = off) (ht : (pc : Int) + off = (tgt : Int)) (h : J tgt L st M) : zwp NC sc zinfo C J fin np ((pc, .lookupswitch d ps, len, a, b, t) :: es) L (.int x :: st) M := by
  dsimp only [zwp, zop, zlks, zjmp]
  refine ⟨hp, ?_⟩
  rw [ho, ht]
  exact ⟨rfl, h⟩
end ZPL
theorem z22_3 : z22 3 = 256 := by decide
set_option maxRecDepth 100000 in
set_option maxHeartbeats 4000000 in
theorem c_77 {sc : Nat × (Nat → Int32)} {d : Nat} {M : zM} {tb co de le : Nat → Nat} {x w : Int32} (hfo : foC M tb co de le) : zC 47 sc (d + 4) 77 [.ref 0, .int x, .int w] M (some (.int (fForm tb co de le x w))) (M) := by
  obtain ⟨hFo, hTb⟩ := id hfo
  unfold fForm
  refine z_enter (L := [.ref 0, .int x, .int w, .null]) rfl rfl rfl ?_
  refine zK.blk rfl ?_
  refine p_iloadn_1 ?_
  refine p_cs1i rfl rfl rfl rfl rfl (c_84) ?_
  refine p_ifB_ne (tgt := 9) (by decide) (fun hc4 => ?_) (fun hc4 => ?_)
  · skip
    rw [if_pos hc4]
    obtain ⟨i1, hi1, rfl⟩ := zfo_x hc4
    rw [nI_clamp (by omega)]
    have hTi := hTb i1 hi1
    refine zK.blk rfl ?_
    refine p_aloadn_0 ?_
    refine p_getr rfl rfl ?_
    refine p_iloadn_1 ?_
    refine p_aald rfl (by omega) (by decide) (zget_fo (by omega)) ?_
    refine p_astoren_3 rfl ?_
    refine p_iloadn_2 ?_
    refine p_tab (td := 119) (N := 7) (by decide) rfl (by decide) (fun i => if i = 0 then 64 else if i = 1 then 69 else if i = 2 then 74 else if i = 3 then 79 else if i = 4 then 84 else if i = 5 then 93 else if i = 6 then 102 else 110) (fun i hi => by rcases (show i = 0 ∨ i = 1 ∨ i = 2 ∨ i = 3 ∨ i = 4 ∨ i = 5 ∨ i = 6 ∨ i = 7 by omega) with rfl | rfl | rfl | rfl | rfl | rfl | rfl | rfl <;> exact ⟨_, rfl, by decide⟩) (fun hno => ?_) (fun i hi e => ?_)
    · rw [if_neg (hno 0 (by decide)), if_neg (hno 1 (by decide)), if_neg (hno 2 (by decide)), if_neg (hno 3 (by decide)), if_neg (hno 4 (by decide)), if_neg (hno 5 (by decide)), if_neg (hno 6 (by decide)), if_neg (hno 7 (by decide))]
      refine zK.blk rfl ?_
      refine p_iconst (v := -1) (by decide) ?_
      exact p_iret trivial rfl rfl
    · rcases (show i = 0 ∨ i = 1 ∨ i = 2 ∨ i = 3 ∨ i = 4 ∨ i = 5 ∨ i = 6 ∨ i = 7 by omega) with rfl | rfl | rfl | rfl | rfl | rfl | rfl | rfl
      · subst e
        rw [if_pos rfl]
        refine zK.blk rfl ?_
        refine p_aloadn_3 ?_
        refine p_geti (zlay_fo (by omega)) rfl ((hFo _ (by omega)).1) ?_
        exact p_iret trivial rfl rfl
      · subst e
        rw [if_neg (by decide), if_pos rfl]
        refine zK.blk rfl ?_
        refine p_aloadn_3 ?_
        refine p_geti (zlay_fo (by omega)) rfl ((hFo _ (by omega)).2.1) ?_
        exact p_iret trivial rfl rfl
      · subst e
        rw [if_neg (by decide), if_neg (by decide), if_pos rfl]
        refine zK.blk rfl ?_
        refine p_aloadn_3 ?_
        refine p_geti (zlay_fo (by omega)) rfl ((hFo _ (by omega)).2.2.1) ?_
        exact p_iret trivial rfl rfl
      · subst e
        rw [if_neg (by decide), if_neg (by decide), if_neg (by decide), if_pos rfl]
        refine zK.blk rfl ?_
        refine p_aloadn_3 ?_
        refine p_geti (zlay_fo (by omega)) rfl ((hFo _ (by omega)).2.2.2) ?_
        exact p_iret trivial rfl rfl
      · subst e
        rw [if_neg (by decide), if_neg (by decide), if_neg (by decide), if_neg (by decide), if_pos rfl]
        refine zK.blk rfl ?_
        refine p_iconst (v := nI 3) (by decide) ?_
        refine p_aloadn_3 ?_
        refine p_geti (zlay_fo (by omega)) rfl ((hFo _ (by omega)).1) ?_
        refine p_cs2i rfl rfl rfl rfl rfl (c_11 (by decide) (by omega)) ?_
        exact p_iret trivial rfl rfl
      · subst e
        rw [if_neg (by decide), if_neg (by decide), if_neg (by decide), if_neg (by decide), if_neg (by decide), if_pos rfl]
        refine zK.blk rfl ?_
        refine p_iconst (v := nI 3) (by decide) ?_
        refine p_aloadn_3 ?_
        refine p_geti (zlay_fo (by omega)) rfl ((hFo _ (by omega)).1) ?_
        refine p_cs2i rfl rfl rfl rfl rfl (c_10 (by decide) (by omega)) ?_
        exact p_iret trivial rfl rfl
      · subst e
        rw [if_neg (by decide), if_neg (by decide), if_neg (by decide), if_neg (by decide), if_neg (by decide), if_neg (by decide), if_pos rfl]
        refine zK.blk rfl ?_
        refine p_aloadn_3 ?_
        refine p_geti (zlay_fo (by omega)) rfl ((hFo _ (by omega)).1) ?_
        refine p_cs1i rfl rfl rfl rfl rfl (c_87 hTi) ?_
        exact p_iret trivial rfl rfl
      · subst e
        rw [if_neg (by decide), if_neg (by decide), if_neg (by decide), if_neg (by decide), if_neg (by decide), if_neg (by decide), if_neg (by decide), if_pos rfl]
        refine zK.blk rfl ?_
        refine p_iconst (v := nI 3) (by decide) ?_
        refine p_aloadn_3 ?_
        refine p_geti (zlay_fo (by omega)) rfl ((hFo _ (by omega)).1) ?_
        refine p_cs2i rfl rfl rfl rfl rfl (c_12 (by decide) (by rw [z22_3]; exact hTi)) ?_
        exact p_iret trivial rfl rfl
  · skip
    rw [if_neg (by rw [hc4]; decide)]
    refine p_iconst (v := -1) (by decide) ?_
    exact p_iret trivial rfl rfl
set_option maxRecDepth 100000 in
set_option maxHeartbeats 4000000 in
theorem st_79_1 {sc : Nat × (Nat → Int32)} {d : Nat} {M : zM} {x1 x2 x3 x4 x5 : Value} : zK 47 sc (zC 47 sc (d + 2)) 79 (some (.int (nI 1))) M 131 [.ref 0, x1, x2, x3, x4, x5, .int (nI 1)] [] M := by
  refine zK.blk rfl ?_
  refine p_iload_6 ?_
  refine p_ifN_eq (tgt := 140) (by decide) (by omega) (fun hc133 => ?_) (fun hc133 => ?_)
  · skip
    exact absurd hc133 (by decide) --STOP
  · skip
    skip
    refine p_iconst (v := nI 1) (by decide) ?_
    refine p_goto (tgt := 141) (by decide) ?_
    refine zK.blk rfl ?_
    exact p_iret trivial rfl rfl
set_option maxRecDepth 100000 in
set_option maxHeartbeats 4000000 in
theorem st_79_0 {sc : Nat × (Nat → Int32)} {d : Nat} {M : zM} {x1 x2 x3 x4 x5 : Value} : zK 47 sc (zC 47 sc (d + 2)) 79 (some (.int (nI 0))) M 131 [.ref 0, x1, x2, x3, x4, x5, .int (nI 0)] [] M := by
  refine zK.blk rfl ?_
  refine p_iload_6 ?_
  refine p_ifN_eq (tgt := 140) (by decide) (by omega) (fun hc133 => ?_) (fun hc133 => ?_)
  · skip
    skip
    refine zK.blk rfl ?_
    refine p_iconst (v := nI 0) (by decide) ?_
    refine zK.blk rfl ?_
    exact p_iret trivial rfl rfl
  · skip
    exact absurd rfl hc133 --STOP
set_option maxRecDepth 100000 in
set_option maxHeartbeats 4000000 in
theorem c_79 {sc : Nat × (Nat → Int32)} {d : Nat} {M : zM} {tb co de le : Nat → Nat} {x y w : Int32} (hfo : foC M tb co de le) : zC 47 sc (d + 3) 79 [.ref 0, .int x, .int y, .int w] M (some (.int (fBoth tb x y w))) (M) := by
  obtain ⟨hFo, hTb⟩ := id hfo
  unfold fBoth
  refine z_enter (L := [.ref 0, .int x, .int y, .int w, .null, .null, .null]) rfl rfl rfl ?_
  refine zK.blk rfl ?_
  refine p_iloadn_1 ?_
  refine p_cs1i rfl rfl rfl rfl rfl (c_84) ?_
  refine p_ifB_eq (tgt := 23) (by decide) (fun hc4 => ?_) (fun hc4 => ?_)
  · skip
    rw [if_neg (by rw [hc4]; simp)]
    refine zK.blk rfl ?_
    refine p_iconst (v := -1) (by decide) ?_
    exact p_iret trivial rfl rfl
  · skip
    refine p_iloadn_2 ?_
    refine p_cs1i rfl rfl rfl rfl rfl (c_84) ?_
    refine p_ifB_eq (tgt := 23) (by decide) (fun hc11 => ?_) (fun hc11 => ?_)
    · skip
      rw [if_neg (by rw [hc11]; simp)]
      refine zK.blk rfl ?_
      refine p_iconst (v := -1) (by decide) ?_
      exact p_iret trivial rfl rfl
    · skip
      rw [if_pos ⟨hc4, hc11⟩]
      obtain ⟨i, hi, rfl⟩ := zfo_x hc4
      obtain ⟨k, hk, rfl⟩ := zfo_x hc11
      rw [nI_clamp (by omega), nI_clamp (by omega)]
      have hTi := hTb i hi
      have hTk := hTb k hk
      have hoh := oh_mo (tb i) hTi
      have han : tb i &&& (tb k ^^^ zFF) < 256 := zand_lt hTi
      have hoh2 : ohN 3 (tb i) < 256 := by rw [hoh.1]; exact hoh.2
      refine p_iloadn_3 ?_
      refine p_if_lt (tgt := 23) (by decide) (fun hc15 => ?_) (fun hc15 => ?_)
      · skip
        rw [if_neg (fun z => by rw [z] at hc15; revert hc15; decide), if_neg (fun z => by rw [z] at hc15; revert hc15; decide), if_neg (fun z => by rw [z] at hc15; revert hc15; decide)]
        refine zK.blk rfl ?_
        refine p_iconst (v := -1) (by decide) ?_
        exact p_iret trivial rfl rfl
      · skip
        refine p_iloadn_3 ?_
        refine p_iconst (v := nI 2) (by decide) ?_
        refine p_icmp_le (tgt := 25) (by decide) (fun hc20 => ?_) (fun hc20 => ?_)
        · skip
          obtain ⟨w0, hw0, rfl⟩ := nI_of2 (M := nI 2) (n := 2) (by decide) hc15 hc20
          refine zK.blk rfl ?_
          refine p_aloadn_0 ?_
          refine p_getr rfl rfl ?_
          refine p_iloadn_1 ?_
          refine p_aald rfl (by omega) (by decide) (zget_fo (by omega)) ?_
          refine p_geti (zlay_fo (by omega)) rfl ((hFo _ (by omega)).1) ?_
          refine p_istore_4 rfl ?_
          refine p_aloadn_0 ?_
          refine p_getr rfl rfl ?_
          refine p_iloadn_2 ?_
          refine p_aald rfl (by omega) (by decide) (zget_fo (by omega)) ?_
          refine p_geti (zlay_fo (by omega)) rfl ((hFo _ (by omega)).1) ?_
          refine p_istore_5 rfl ?_
          refine p_iloadn_3 ?_
          rcases (show w0 = 0 ∨ w0 = 1 ∨ w0 = 2 by omega) with rfl | rfl | rfl
          · refine p_lk (off := 28) (tgt := 76) (by decide) (by decide) (by decide) ?_
            rw [if_pos rfl]
            refine zK.blk rfl ?_
            refine p_iload_4 ?_
            refine p_iload_5 ?_
            refine p_icmpN_ne (tgt := 87) (by decide) (by omega) (by omega) (fun hc80 => ?_) (fun hc80 => ?_)
            · skip
              rw [if_neg hc80]
              refine zK.blk rfl ?_
              refine p_iconst (v := nI 0) (by decide) ?_
              refine zK.blk rfl ?_
              refine p_istore_6 rfl ?_
              refine p_goto (tgt := 131) (by decide) ?_
              first | exact st_79_1 | exact st_79_0
            · skip
              rw [if_pos (by omega)]
              refine p_iconst (v := nI 1) (by decide) ?_
              refine p_goto (tgt := 88) (by decide) ?_
              refine zK.blk rfl ?_
              refine p_istore_6 rfl ?_
              refine p_goto (tgt := 131) (by decide) ?_
              first | exact st_79_1 | exact st_79_0
          · refine p_lk (off := 45) (tgt := 93) (by decide) (by decide) (by decide) ?_
            rw [if_neg (by decide), if_pos rfl]
            refine zK.blk rfl ?_
            refine p_iload_4 ?_
            refine p_iload_5 ?_
            refine p_iconst (v := nI zFF) (by decide) ?_
            refine p_ixorN ?_
            refine p_iandN ?_
            refine p_ifN_ne (tgt := 107) (by decide) (by omega) (fun hc100 => ?_) (fun hc100 => ?_)
            · skip
              rw [if_neg hc100]
              refine zK.blk rfl ?_
              refine p_iconst (v := nI 0) (by decide) ?_
              refine zK.blk rfl ?_
              refine p_istore_6 rfl ?_
              refine p_goto (tgt := 131) (by decide) ?_
              first | exact st_79_1 | exact st_79_0
            · skip
              rw [if_pos (by omega)]
              refine p_iconst (v := nI 1) (by decide) ?_
              refine p_goto (tgt := 108) (by decide) ?_
              refine zK.blk rfl ?_
              refine p_istore_6 rfl ?_
              refine p_goto (tgt := 131) (by decide) ?_
              first | exact st_79_1 | exact st_79_0
          · refine p_lk (off := 65) (tgt := 113) (by decide) (by decide) (by decide) ?_
            rw [if_neg (by decide), if_neg (by decide), if_pos rfl]
            refine zK.blk rfl ?_
            refine p_iconst (v := nI 3) (by decide) ?_
            refine p_iload_4 ?_
            refine p_cs2i rfl rfl rfl rfl rfl (c_10 (by decide) (by omega)) ?_
            refine p_iload_5 ?_
            refine p_icmpN_ne (tgt := 128) (by decide) (by omega) (by omega) (fun hc121 => ?_) (fun hc121 => ?_)
            · skip
              rw [if_neg hc121]
              refine zK.blk rfl ?_
              refine p_iconst (v := nI 0) (by decide) ?_
              refine zK.blk rfl ?_
              refine p_istore_6 rfl ?_
              first | exact st_79_1 | exact st_79_0
            · skip
              rw [if_pos (by omega)]
              refine p_iconst (v := nI 1) (by decide) ?_
              refine p_goto (tgt := 129) (by decide) ?_
              refine zK.blk rfl ?_
              refine p_istore_6 rfl ?_
              first | exact st_79_1 | exact st_79_0
        · skip
          rw [if_neg (fun z => by rw [z] at hc20; revert hc20; decide), if_neg (fun z => by rw [z] at hc20; revert hc20; decide), if_neg (fun z => by rw [z] at hc20; revert hc20; decide)]
          refine zK.blk rfl ?_
          refine p_iconst (v := -1) (by decide) ?_
          exact p_iret trivial rfl rfl
