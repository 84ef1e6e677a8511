def zinfo (k : Nat) : Option zI := zget zinfos k
def zblk (k pc : Nat) : Option (List zE × Nat) := match zget zcodes k with
  | some bl => zfb bl pc
  | none => none
/-- a return value as the method's descriptor lets it -/
def zfit (k : Nat) (r : Option Value) : Prop := match zinfo k with
  | some i => match i.2.2.2.2.1, r with
    | none, none => True
    | some .int, some (.int _) => True
    | some .boolean, some (.int v) => v = 0 ∨ v = 1
    | some (.object _), some (.ref _) => True
    | _, _ => False
  | none => False
/-- n jumps at most: from here the method k ends with r, M' -/
def zjn (NC : Nat) (sc : Nat × (Nat → Int32)) (C : Nat → List Value → zM → Option Value → zM → Prop) (k : Nat) (r : Option Value) (M' : zM) : Nat → Nat → List Value → List Value → zM → Prop
  | 0 => fun _ _ _ _ => False
  | n + 1 => fun pc L st M => match zblk k pc with
    | some (es, np) => zwp NC sc zinfo C (fun t L' st' M1 => zjn NC sc C k r M' n t L' st' M1) (fun v M1 => zfit k v ∧ v = r ∧ M1 = M') np es L st M
    | none => False
/-- the method k, called with these values, ends with r, M'; at most d frames -/
def zR (NC : Nat) (sc : Nat × (Nat → Int32)) : Nat → Nat → List Value → zM → Option Value → zM → Prop
  | 0 => fun _ _ _ _ _ => False
  | d + 1 => fun k as M r M' => match zinfo k with
    | some i => Nat.ble (zlo as).length i.2.2.2.1 = true ∧ ∃ n, zjn NC sc (zR NC sc d) k r M' n 0 (zpad i.2.2.2.1 (zlo as)) [] M
    | none => False
/-- from here the method k ends with r, M' -/
def zJ (NC : Nat) (sc : Nat × (Nat → Int32)) (d k : Nat) (r : Option Value) (M' : zM) (pc : Nat) (L st : List Value) (M : zM) : Prop := ∃ n, zjn NC sc (zR NC sc d) k r M' n pc L st M
