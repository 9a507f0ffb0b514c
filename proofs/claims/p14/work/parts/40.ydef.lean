/-! AN INTERVAL MACHINE over the little one. A cell of the heap has a region (yr_reg), a region has a kind, a length and a type for each of its places; a type is a range of ints (0), of longs (1), a reference into a region (2), such a one or null (3). A value of this machine is a number of which the type is known (.retAddr k an int, .double k a long, .ref k a reference: k a place in the store), or itself. What is read is kept (ym_C) until it may have been written -/
abbrev yT : Type := Nat × Int × Int
abbrev yV : Type := yT × Nat × Int
abbrev ym_S : Type := Nat × List (List (Option yV))
abbrev ym_C : Type := List (Nat × Nat × Value)
abbrev ym_St : Type := xm_L × List Value × ym_S × ym_C
abbrev yM : Type := List (Nat × Nat)
abbrev yW : Type := Nat × Nat × Nat × List yT
noncomputable def yr_of (j : Nat) : Nat := match xm_nth yr_reg j with
  | some r => r
  | none => 0
noncomputable def yr_row (r : Nat) : Option yW := bif Nat.beq r 0 then none else xm_nth yr_tab r
noncomputable def yr_ty (q : yW) (i : Nat) : Option yT := xm_nth q.2.2.2 (Nat.mod i q.2.2.1)
noncomputable def ym_ck (S : List (List (Option yV))) (j : Nat) : List (Option yV) := match xm_nth S j with
  | some c => c
  | none => []
noncomputable def ym_get (S : ym_S) (j : Nat) : Option yV := xm_jn (xm_nth (ym_ck S.2 (Nat.div j 16)) (Nat.mod j 16))
noncomputable def ym_sput (S : List (List (Option yV))) (j : Nat) (o : yV) : List (List (Option yV)) := xm_putx [] (xm_putx none (some o) (ym_ck S (Nat.div j 16)) (Nat.mod j 16)) S (Nat.div j 16)
noncomputable def ym_put (S : ym_S) (j : Nat) (o : yV) : ym_S := (S.1, ym_sput S.2 j o)
noncomputable def ym_new (S : ym_S) (o : yV) : ym_S := (Nat.succ S.1, ym_sput S.2 S.1 o)
def ym_i32 (r : Int × Int) : Bool := decide (-2147483648 ≤ r.1) && decide (r.2 ≤ 2147483647)
def ym_i64 (r : Int × Int) : Bool := decide (-9223372036854775808 ≤ r.1) && decide (r.2 ≤ 9223372036854775807)
/-- a number made plain -/
noncomputable def ym_fi {α : Type} (x : Int) (k : Int → α) : α := Int.rec (motive := fun _ => α) (fun n => Nat.rec (motive := fun _ => α) (k (Int.ofNat 0)) (fun m _ => k (Int.ofNat (Nat.succ m))) n) (fun n => Nat.rec (motive := fun _ => α) (k (Int.negSucc 0)) (fun m _ => k (Int.negSucc (Nat.succ m))) n) x
/-- an int's range -/
noncomputable def ym_ri (E : ym_S) (v : Value) : Option (Int × Int) := match v with
  | .int c => some (c.toInt, c.toInt)
  | .retAddr k => (match ym_get E k with
    | some ((t, r), _) => bif Nat.beq t 0 && ym_i32 r then some r else none
    | none => none)
  | _ => none
noncomputable def ym_rl (E : ym_S) (v : Value) : Option (Int × Int) := match v with
  | .long c => some (c.toInt, c.toInt)
  | .double k => (match ym_get E k.toNat with
    | some ((t, r), _) => bif Nat.beq t 1 && ym_i64 r then some r else none
    | none => none)
  | _ => none
/-- a reference's region -/
noncomputable def ym_ref (E : ym_S) (v : Value) : Option Nat := match v with
  | .ref k => (match ym_get E k with
    | some ((t, r, _), _) => bif Nat.beq t 2 then some r.toNat else none
    | none => none)
  | _ => none
/-- a fresh int of a range -/
noncomputable def ym_mi (E : ym_S) (r : Int × Int) : ym_S × Value :=
  ym_fi r.1 (fun lo => ym_fi r.2 (fun hi => bif ym_i32 (lo, hi) then (bif decide (lo = hi) then (E, .int (Int32.ofInt lo)) else (ym_new E ((0, lo, hi), E.1, 0), .retAddr E.1)) else (ym_new E ((0, -2147483648, 2147483647), E.1, 0), .retAddr E.1)))
noncomputable def ym_ml (E : ym_S) (r : Int × Int) : Option (ym_S × Value) :=
  bif Nat.blt E.1 1000000000 then ym_fi r.1 (fun lo => ym_fi r.2 (fun hi => bif ym_i64 (lo, hi) then some (ym_new E ((1, lo, hi), E.1, 0), .double (UInt64.ofNat E.1)) else some (ym_new E ((1, -9223372036854775808, 9223372036854775807), E.1, 0), .double (UInt64.ofNat E.1)))) else none
/-- a long that hangs on another number -/
noncomputable def ym_mlr (E : ym_S) (r : Int × Int) (rt : Nat) (off : Int) : Option (ym_S × Value) := bif Nat.blt E.1 1000000000 then some (ym_new E ((1, r.1, r.2), rt, off), .double (UInt64.ofNat E.1)) else none
noncomputable def ym_i2l (E : ym_S) (w : Value) (r : Int × Int) : Option (ym_S × Value) := match w with
  | .retAddr k => (match ym_get E k with
    | some (_, rt, off) => ym_mlr E r rt off
    | none => none)
  | _ => ym_ml E r
def ym_topi : Int × Int := (-2147483648, 2147483647)
def ym_topl : Int × Int := (-9223372036854775808, 9223372036854775807)
/-- a fresh value of a type -/
noncomputable def ym_mk (E : ym_S) (T : yT) : Option (ym_S × Value) := bif Nat.beq T.1 0 then some (ym_mi E T.2) else bif Nat.beq T.1 1 then ym_ml E T.2 else bif Nat.beq T.1 2 || Nat.beq T.1 3 then some (ym_new E (T, E.1, 0), .ref E.1) else none
/-- v + c -/
noncomputable def ym_addc (E : ym_S) (v : Value) (a : Int × Int) (c : Int) : ym_S × Value := ym_fi (a.1 + c) (fun lo => ym_fi (a.2 + c) (fun hi => bif ym_i32 (lo, hi) then (match v with
  | .retAddr k => (match ym_get E k with
    | some (_, rt, off) => bif decide (lo = hi) then (E, .int (Int32.ofInt lo)) else ym_fi (off + c) (fun o => (ym_new E ((0, lo, hi), rt, o), .retAddr E.1))
    | none => ym_mi E (lo, hi))
  | _ => ym_mi E (lo, hi)) else ym_mi E ym_topi))
/-- a number's range becomes narrower, and that of what it hangs on -/
noncomputable def ym_nark (E : ym_S) (k t : Nat) (lo hi : Int) : ym_S := match ym_get E k with
  | some (_, rt, off) => bif Nat.beq rt k then ym_put E k ((t, lo, hi), rt, off) else (match ym_get E rt with
    | some ((t0, a, b), rt2, off2) => bif Nat.beq t0 0 then ym_fi (max a (lo - off)) (fun a' => ym_fi (min b (hi - off)) (fun b' => ym_put (ym_put E rt ((0, a', b'), rt2, off2)) k ((t, lo, hi), rt, off))) else ym_put E k ((t, lo, hi), rt, off)
    | none => ym_put E k ((t, lo, hi), rt, off))
  | none => E
noncomputable def ym_nar (E : ym_S) (v : Value) (r : Int × Int) : ym_S := ym_fi r.1 (fun lo => ym_fi r.2 (fun hi => match v with
  | .retAddr k => ym_nark E k 0 lo hi
  | .double k => ym_nark E k.toNat 1 lo hi
  | _ => E))
noncomputable def ym_if1 {α : Type} (b : Bool) (x : α) (l : List α) : List α := bif b then x :: l else l
/-- less or not -/
noncomputable def ym_lt (E : ym_S) (v w : Value) (a b : Int × Int) : List (ym_S × Bool) :=
  ym_if1 (decide (a.1 < b.2)) (ym_nar (ym_nar E v (a.1, min a.2 (b.2 - 1))) w (max b.1 (a.1 + 1), b.2), true)
    (ym_if1 (decide (b.1 ≤ a.2)) (ym_nar (ym_nar E v (max a.1 b.1, a.2)) w (b.1, min b.2 a.2), false) [])
/-- a without the end c -/
def ym_not (a : Int × Int) (b : Int × Int) : Int × Int := bif decide (b.1 = b.2) then (bif decide (a.1 = b.1) then a.1 + 1 else a.1, bif decide (a.2 = b.1) then a.2 - 1 else a.2) else a
noncomputable def ym_eq (E : ym_S) (v w : Value) (a b : Int × Int) : List (ym_S × Bool) :=
  ym_if1 (decide (a.1 ≤ b.2) && decide (b.1 ≤ a.2)) (ym_nar (ym_nar E v (max a.1 b.1, min a.2 b.2)) w (max a.1 b.1, min a.2 b.2), true)
    (ym_if1 (!(decide (a.1 = a.2) && (decide (b.1 = b.2) && decide (a.1 = b.1)))) (ym_nar (ym_nar E v (ym_not a b)) w (ym_not b a), false) [])
noncomputable def ym_flip (l : List (ym_S × Bool)) : List (ym_S × Bool) := List.rec (motive := fun _ => List (ym_S × Bool)) [] (fun q _ ih => (q.1, !q.2) :: ih) l
noncomputable def ym_cond (c : Jvm.ClassFile.Cond) (E : ym_S) (v w : Value) (a b : Int × Int) : List (ym_S × Bool) := match c with
  | .eq => ym_eq E v w a b
  | .ne => ym_flip (ym_eq E v w a b)
  | .lt => ym_lt E v w a b
  | .ge => ym_flip (ym_lt E v w a b)
  | .gt => ym_lt E w v b a
  | .le => ym_flip (ym_lt E w v b a)
/-- less, alike, more: of longs -/
noncomputable def ym_cmp (E : ym_S) (v w : Value) (a b : Int × Int) : List (ym_S × Int) :=
  ym_if1 (decide (a.1 < b.2)) (ym_nar (ym_nar E v (a.1, min a.2 (b.2 - 1))) w (max b.1 (a.1 + 1), b.2), -1)
    (ym_if1 (decide (a.1 ≤ b.2) && decide (b.1 ≤ a.2)) (ym_nar (ym_nar E v (max a.1 b.1, min a.2 b.2)) w (max a.1 b.1, min a.2 b.2), 0)
      (ym_if1 (decide (b.1 < a.2)) (ym_nar (ym_nar E v (max a.1 (b.1 + 1), a.2)) w (b.1, min b.2 (a.2 - 1)), 1) []))
/-- a number taken as each that it can be -/
noncomputable def ym_each (E : ym_S) (v : Value) (lo : Int) (n : Nat) : List (ym_S × Int) := Nat.rec (motive := fun _ => List (ym_S × Int)) [] (fun j ih => ym_fi (lo + Int.ofNat j) (fun c => (ym_nar E v (c, c), c) :: ih)) n
/-- the least number of all ones that is not below n -/
noncomputable def ym_ones (n : Int) : Int := Int.ofNat (2 ^ (Nat.log2 n.toNat + 1) - 1)
/-- the range of an int operation's answer, where it can't fail -/
noncomputable def ym_iop (i : Instr) (a b : Int × Int) : Option (Int × Int) := match i with
  | .iadd => some (a.1 + b.1, a.2 + b.2)
  | .isub => some (a.1 - b.2, a.2 - b.1)
  | .imul => bif decide (b.1 = b.2) && decide (0 ≤ b.1) then some (a.1 * b.1, a.2 * b.1) else bif decide (a.1 = a.2) && decide (0 ≤ a.1) then some (b.1 * a.1, b.2 * a.1) else some ym_topi
  | .iand => bif decide (0 ≤ a.1) then some (0, bif decide (0 ≤ b.1) then min a.2 b.2 else a.2) else bif decide (0 ≤ b.1) then some (0, b.2) else some ym_topi
  | .ior => bif decide (0 ≤ a.1) && decide (0 ≤ b.1) then some (0, ym_ones (max a.2 b.2)) else some ym_topi
  | .ixor => some ym_topi
  | .ishl => some ym_topi
  | .ishr => bif decide (0 ≤ a.1) then some (0, a.2) else some ym_topi
  | .iushr => some ym_topi
  | .idiv => bif decide (1 ≤ b.1) then (bif decide (0 ≤ a.1) then some (0, a.2) else some ym_topi) else none
  | .irem => bif decide (1 ≤ b.1) then (bif decide (0 ≤ a.1) then some (0, b.2 - 1) else some ym_topi) else none
  | _ => none
noncomputable def ym_lop (i : Instr) (a b : Int × Int) : Option (Int × Int) := match i with
  | .ladd => some (a.1 + b.1, a.2 + b.2)
  | .lsub => some ym_topl
  | .lmul => bif decide (b.1 = b.2) && decide (0 ≤ b.1) then some (a.1 * b.1, a.2 * b.1) else some ym_topl
  | .land => some ym_topl
  | .lor => some ym_topl
  | .ldiv => bif decide (1 ≤ b.1) && (decide (0 ≤ a.1) && decide (b.1 = b.2)) then some (0, a.2 / b.1) else bif decide (1 ≤ b.1) || decide (b.2 ≤ -1) then some ym_topl else none
  | .lrem => bif decide (1 ≤ b.1) && decide (0 ≤ a.1) then some (0, b.2 - 1) else bif decide (1 ≤ b.1) || decide (b.2 ≤ -1) then some ym_topl else none
  | _ => none
/-- an int operation -/
noncomputable def ym_int2 (i : Instr) (E : ym_S) (u w : Value) : Option (List (ym_S × Value)) := match ym_ri E u, ym_ri E w with
  | some a, some b => bif decide (a.1 = a.2) && decide (b.1 = b.2) then (match xm_iop i (Int32.ofInt a.1) (Int32.ofInt b.1) with
      | some z => some [(E, .int (Int32.ofInt (ym_fi z.toInt (fun z => z))))]
      | none => none)
    else (match i with
      | .iadd => bif decide (b.1 = b.2) then some [ym_addc E u a b.1] else bif decide (a.1 = a.2) then some [ym_addc E w b a.1] else some [ym_mi E (a.1 + b.1, a.2 + b.2)]
      | .isub => bif decide (b.1 = b.2) then some [ym_addc E u a (-b.1)] else some [ym_mi E (a.1 - b.2, a.2 - b.1)]
      | _ => (match ym_iop i a b with
        | some r => some [ym_mi E r]
        | none => none))
  | _, _ => none
/-- does a value fit a type -/
noncomputable def ym_sub (E : ym_S) (v : Value) (T : yT) : Bool := match T with
  | (0, lo, hi) => (match ym_ri E v with
    | some a => decide (lo ≤ a.1) && decide (a.2 ≤ hi)
    | none => false)
  | (1, lo, hi) => (match ym_rl E v with
    | some a => decide (lo ≤ a.1) && decide (a.2 ≤ hi)
    | none => false)
  | (2, r, _) => (match v with
    | .ref k => (match ym_get E k with
      | some ((t, r2, _), _) => Nat.beq t 2 && decide (r = r2)
      | none => false)
    | _ => false)
  | (3, r, _) => (match v with
    | .null => true
    | .ref k => (match ym_get E k with
      | some ((t, r2, _), _) => (Nat.beq t 2 || Nat.beq t 3) && decide (r = r2)
      | none => false)
    | _ => false)
  | _ => false
noncomputable def ym_fit (E : ym_S) (ty : FieldType) (v : Value) : Bool := match ty with
  | .int => xm_isI v
  | .boolean => (match ym_ri E v with
    | some a => decide (0 ≤ a.1) && decide (a.2 ≤ 1)
    | none => false)
  | .long => xm_isL v
  | .object _ => xm_isA v
  | .array _ => xm_isA v
  | _ => false
noncomputable def ym_find (C : ym_C) (k i : Nat) : Option Value := List.rec (motive := fun _ => Option Value) none (fun q _ ih => bif Nat.beq q.1 k && Nat.beq q.2.1 i then some q.2.2 else ih) C
noncomputable def ym_mod (md : yM) (r i : Nat) : Bool := List.rec (motive := fun _ => Bool) false (fun q _ ih => (Nat.beq q.1 r && (Nat.beq q.2 i || Nat.beq q.2 100000)) || ih) md
/-- what is kept when a place of a region is written -/
noncomputable def ym_kill (E : ym_S) (C : ym_C) (p : Nat → Nat → Bool) : ym_C := List.rec (motive := fun _ => ym_C) [] (fun q _ ih => (match ym_ref E (.ref q.1) with
  | some r => bif p r q.2.1 then ih else q :: ih
  | none => ih)) C
/-- a value is read out of a region's place (its type's, or what is kept) -/
noncomputable def ym_rd (E : ym_S) (C : ym_C) (k : Nat) (q : yW) (i : Nat) : Option (Value × ym_S × ym_C) := match ym_find C k i with
  | some v => some (v, E, C)
  | none => (match yr_ty q i with
    | some T => (match ym_mk E T with
      | some (E, v) => some (v, E, (k, i, v) :: C)
      | none => none)
    | none => none)
noncomputable def ym_ald (ok : Nat → Bool) (s : ym_St) : Option (List (Option Nat × ym_St)) := match s with
  | (lv, ix :: .ref k :: st, E, C) => (match ym_ref E (.ref k), ym_ri E ix with
    | some r, some a => (match yr_row r with
      | some q => bif ok q.1 && (decide (0 ≤ a.1) && decide (a.2 < Int.ofNat q.2.1)) then
          (bif decide (a.1 = a.2) then (match ym_rd E C k q a.1.toNat with
            | some (v, E, C) => some [(none, (lv, v :: st, E, C))]
            | none => none)
          else bif Nat.beq q.2.2.1 1 then (match yr_ty q 0 with
            | some T => (match ym_mk E T with
              | some (E, v) => some [(none, (lv, v :: st, E, C))]
              | none => none)
            | none => none)
          else none)
        else none
      | none => none)
    | _, _ => none)
  | _ => none
/-- a value is written: into a place, or somewhere -/
noncomputable def ym_wr (md : yM) (E : ym_S) (C : ym_C) (k r : Nat) (q : yW) (a : Int × Int) (w : Value) (keep : Bool) : Option ym_C :=
  bif decide (a.1 = a.2) then (match yr_ty q a.1.toNat with
    | some T => bif ym_sub E w T && ym_mod md r a.1.toNat then some (bif keep then (k, a.1.toNat, w) :: ym_kill E C (fun r1 i1 => Nat.beq r1 r && Nat.beq i1 a.1.toNat) else ym_kill E C (fun r1 i1 => Nat.beq r1 r && Nat.beq i1 a.1.toNat)) else none
    | none => none)
  else bif Nat.beq q.2.2.1 1 && ym_mod md r 100000 then (match yr_ty q 0 with
    | some T => bif ym_sub E w T then some (ym_kill E C (fun r1 _ => Nat.beq r1 r)) else none
    | none => none)
  else none
noncomputable def ym_ast (md : yM) (ok : Nat → Bool) (s : ym_St) : Option (List (Option Nat × ym_St)) := match s with
  | (lv, w :: ix :: .ref k :: st, E, C) => (match ym_ref E (.ref k), ym_ri E ix with
    | some r, some a => (match yr_row r with
      | some q => bif ok q.1 && (decide (0 ≤ a.1) && decide (a.2 < Int.ofNat q.2.1)) then (match ym_wr md E C k r q a w true with
          | some C => some [(none, (lv, st, E, C))]
          | none => none) else none
      | none => none)
    | _, _ => none)
  | _ => none
/-- bytes: what is stored is cut to a byte -/
noncomputable def ym_bast (md : yM) (s : ym_St) : Option (List (Option Nat × ym_St)) := match s with
  | (lv, w :: ix :: .ref k :: st, E, C) => (match ym_ref E (.ref k), ym_ri E ix, ym_ri E w with
    | some r, some a, some b => (match yr_row r with
      | some q => bif (decide (0 ≤ a.1) && decide (a.2 < Int.ofNat q.2.1)) then
          (bif Nat.beq q.1 103 && (decide (0 ≤ b.1) && decide (b.2 ≤ 1)) then (match ym_wr md E C k r q a w true with
            | some C => some [(none, (lv, st, E, C))]
            | none => none)
          else bif Nat.beq q.1 101 && (Nat.beq q.2.2.1 1 && ym_mod md r 100000) then (match yr_ty q 0 with
            | some T => bif Nat.beq T.1 0 && (decide (T.2.1 ≤ -128) && decide (127 ≤ T.2.2)) then some [(none, (lv, st, E, ym_kill E C (fun r1 _ => Nat.beq r1 r)))] else none
            | none => none)
          else none) else none
      | none => none)
    | _, _, _ => none)
  | _ => none
noncomputable def ym_br (l : List (ym_S × Bool)) (a : Nat) (lv : xm_L) (st : List Value) (C : ym_C) : List (Option Nat × ym_St) := List.rec (motive := fun _ => List (Option Nat × ym_St)) [] (fun q _ ih => (bif q.2 then some a else none, (lv, st, q.1, C)) :: ih) l
noncomputable def ym_vs (l : List (ym_S × Value)) (lv : xm_L) (st : List Value) (C : ym_C) : List (Option Nat × ym_St) := List.rec (motive := fun _ => List (Option Nat × ym_St)) [] (fun q _ ih => (none, (lv, q.2 :: st, q.1, C)) :: ih) l
noncomputable def ym_ks (l : List (ym_S × Int)) (lv : xm_L) (st : List Value) (C : ym_C) : List (Option Nat × ym_St) := List.rec (motive := fun _ => List (Option Nat × ym_St)) [] (fun q _ ih => (none, (lv, .int (Int32.ofInt q.2) :: st, q.1, C)) :: ih) l
noncomputable def ym_i2 (i : Instr) (s : ym_St) : Option (List (Option Nat × ym_St)) := match s with
  | (lv, w :: u :: st, E, C) => (match ym_int2 i E u w with
    | some l => some (ym_vs l lv st C)
    | none => none)
  | _ => none
noncomputable def ym_l2 (i : Instr) (s : ym_St) : Option (List (Option Nat × ym_St)) := match s with
  | (lv, w :: u :: st, E, C) => (match ym_rl E u, ym_rl E w with
    | some a, some b => (match ym_lop i a b with
      | some r => (match ym_ml E r with
        | some (E, v) => some [(none, (lv, v :: st, E, C))]
        | none => none)
      | none => none)
    | _, _ => none)
  | _ => none
/-- a product: a number of few is taken as each that it can be -/
noncomputable def ym_mul (s : ym_St) : Option (List (Option Nat × ym_St)) := match s with
  | (lv, w :: u :: st, E, C) => (match ym_ri E u, ym_ri E w with
    | some a, some b => bif decide (b.1 = b.2) && (decide (a.1 < a.2) && decide (a.2 - a.1 < 32)) then
          some (ym_ks (List.rec (motive := fun _ => List (ym_S × Int)) [] (fun q _ ih => ym_fi ((Int32.ofInt q.2 * Int32.ofInt b.1).toInt) (fun z => (q.1, z) :: ih)) (ym_each E u a.1 (a.2 - a.1 + 1).toNat)) lv st C)
        else bif decide (a.1 = a.2) && (decide (b.1 < b.2) && decide (b.2 - b.1 < 32)) then
          some (ym_ks (List.rec (motive := fun _ => List (ym_S × Int)) [] (fun q _ ih => ym_fi ((Int32.ofInt a.1 * Int32.ofInt q.2).toInt) (fun z => (q.1, z) :: ih)) (ym_each E w b.1 (b.2 - b.1 + 1).toNat)) lv st C)
        else ym_i2 .imul s
    | _, _ => none)
  | _ => none
noncomputable def ym_tsw (E : ym_S) (v : Value) (a : Int × Int) (ts : List Nat) : Int → List (ym_S × Nat) :=
  List.rec (motive := fun _ => Int → List (ym_S × Nat)) (fun _ => []) (fun t _ ih c => ym_if1 (decide (a.1 ≤ c) && decide (c ≤ a.2)) (ym_nar E v (c, c), t) (ih (c + 1))) ts
noncomputable def ym_tab (E : ym_S) (v : Value) (a : Int × Int) (lo : Int) (d : Nat) (ts : List Nat) : List (ym_S × Nat) :=
  ym_if1 (decide (a.1 < lo)) (ym_nar E v (a.1, min a.2 (lo - 1)), d) (ym_if1 (decide (lo + Int.ofNat (xm_len ts) ≤ a.2)) (ym_nar E v (max a.1 (lo + Int.ofNat (xm_len ts)), a.2), d) (ym_tsw E v a ts lo))
noncomputable def ym_tos (l : List (ym_S × Nat)) (lv : xm_L) (st : List Value) (C : ym_C) : List (Option Nat × ym_St) := List.rec (motive := fun _ => List (Option Nat × ym_St)) [] (fun q _ ih => (some q.2, (lv, st, q.1, C)) :: ih) l
/-- a switch over keys: each key that can be, and the rest -/
noncomputable def ym_lk (E : ym_S) (v : Value) (a : Int × Int) (d : Nat) (ps : List (Int × Int)) : List Nat → List (ym_S × Nat) :=
  List.rec (motive := fun _ => List Nat → List (ym_S × Nat)) (fun _ => [(E, d)]) (fun q _ ih ts => match ts with
    | t :: ts => ym_if1 (decide (a.1 ≤ q.1) && decide (q.1 ≤ a.2)) (ym_nar E v (q.1, q.1), t) (ih ts)
    | [] => [(E, d)]) ps
def ym_top (p : Value → Bool) (s : ym_St) : Bool := match s with
  | (_, w :: _, _, _) => p w
  | _ => false
noncomputable def ym_step (nL : Nat) (md : yM) (e : xm_E) (s : ym_St) : Option (List (Option Nat × ym_St)) :=
  match e.2.1 with
  | .iconst _ | .bipush _ | .sipush _ | .lconst _ | .aconst_null | .ldc _ | .ldc_w _ | .ldc2_w _ => (match s, e.2.2.2.2.2 with
    | (lv, st, E, C), .int x => some [(none, (lv, .int x :: st, E, C))]
    | (lv, st, E, C), .long x => some [(none, (lv, .long x :: st, E, C))]
    | (lv, st, E, C), .null => some [(none, (lv, .null :: st, E, C))]
    | (lv, st, E, C), .ref j => some [(none, (lv, .ref E.1 :: st, ym_new E ((2, Int.ofNat (yr_of j), 0), E.1, 0), C))]
    | _, _ => none)
  | .iload _ | .iload_n _ => (match s with
    | (lv, st, E, C) => (match xm_get lv e.2.2.1 with
      | some w => bif xm_isI w then some [(none, (lv, w :: st, E, C))] else none
      | none => none))
  | .lload _ | .lload_n _ => (match s with
    | (lv, st, E, C) => (match xm_get lv e.2.2.1 with
      | some w => bif xm_isL w then some [(none, (lv, w :: st, E, C))] else none
      | none => none))
  | .aload _ | .aload_n _ => (match s with
    | (lv, st, E, C) => (match xm_get lv e.2.2.1 with
      | some w => bif xm_isA w then some [(none, (lv, w :: st, E, C))] else none
      | none => none))
  | .istore _ | .istore_n _ => (match s with
    | (lv, w :: st, E, C) => bif xm_isI w && Nat.blt e.2.2.1 nL then some [(none, (xm_set1 lv e.2.2.1 w, st, E, C))] else none
    | _ => none)
  | .lstore _ | .lstore_n _ => (match s with
    | (lv, w :: st, E, C) => bif xm_isL w && Nat.blt (e.2.2.1 + 1) nL then some [(none, (xm_set2 lv e.2.2.1 w, st, E, C))] else none
    | _ => none)
  | .astore _ | .astore_n _ => (match s with
    | (lv, w :: st, E, C) => bif xm_isA w && Nat.blt e.2.2.1 nL then some [(none, (xm_set1 lv e.2.2.1 w, st, E, C))] else none
    | _ => none)
  | .iinc _ c => (match s with
    | (lv, st, E, C) => (match xm_get lv e.2.2.1 with
      | some w => (match ym_ri E w with
        | some a => bif Nat.blt e.2.2.1 nL && (decide (-2147483648 ≤ c) && decide (c ≤ 2147483647)) then (match ym_addc E w a c with
          | (E, v) => some [(none, (xm_set1 lv e.2.2.1 v, st, E, C))]) else none
        | none => none)
      | none => none))
  | .iadd => ym_i2 .iadd s
  | .isub => ym_i2 .isub s
  | .imul => bif Nat.beq e.2.2.1 1 then ym_i2 .imul s else ym_mul s
  | .iand => ym_i2 .iand s
  | .ior => ym_i2 .ior s
  | .ixor => ym_i2 .ixor s
  | .ishl => ym_i2 .ishl s
  | .ishr => ym_i2 .ishr s
  | .iushr => ym_i2 .iushr s
  | .idiv => ym_i2 .idiv s
  | .irem => ym_i2 .irem s
  | .ineg => (match s with
    | (lv, w :: st, E, C) => (match ym_ri E w with
      | some a => (match ym_mi E (-a.2, -a.1) with
        | (E, v) => some [(none, (lv, v :: st, E, C))])
      | none => none)
    | _ => none)
  | .i2b => (match s with
    | (lv, w :: st, E, C) => (match ym_ri E w with
      | some _ => (match ym_mi E (-128, 127) with
        | (E, v) => some [(none, (lv, v :: st, E, C))])
      | none => none)
    | _ => none)
  | .i2l => (match s with
    | (lv, w :: st, E, C) => (match ym_ri E w with
      | some a => (match ym_i2l E w a with
        | some (E, v) => some [(none, (lv, v :: st, E, C))]
        | none => none)
      | none => none)
    | _ => none)
  | .l2i => (match s with
    | (lv, w :: st, E, C) => (match ym_rl E w with
      | some a => (match ym_mi E a with
        | (E, v) => some [(none, (lv, v :: st, E, C))])
      | none => none)
    | _ => none)
  | .ladd => ym_l2 .ladd s
  | .lsub => ym_l2 .lsub s
  | .lmul => ym_l2 .lmul s
  | .land => ym_l2 .land s
  | .lor => ym_l2 .lor s
  | .ldiv => ym_l2 .ldiv s
  | .lrem => ym_l2 .lrem s
  | .lshl | .lshr => (match s with
    | (lv, w :: u :: st, E, C) => (match ym_ri E w, ym_rl E u with
      | some _, some _ => (match ym_ml E ym_topl with
        | some (E, v) => some [(none, (lv, v :: st, E, C))]
        | none => none)
      | _, _ => none)
    | _ => none)
  | .lcmp => (match s with
    | (lv, w :: u :: st, E, C) => (match ym_rl E u, ym_rl E w with
      | some a, some b => some (ym_ks (ym_cmp E u w a b) lv st C)
      | _, _ => none)
    | _ => none)
  | .dup => (match s with
    | (lv, w :: st, E, C) => bif xm_cat1 w then some [(none, (lv, w :: w :: st, E, C))] else none
    | _ => none)
  | .pop => (match s with
    | (lv, w :: st, E, C) => bif xm_cat1 w then some [(none, (lv, st, E, C))] else none
    | _ => none)
  | .dup2 => (match s with
    | (lv, w :: u :: st, E, C) => bif xm_cat1 w && xm_cat1 u then some [(none, (lv, w :: u :: w :: u :: st, E, C))] else none
    | _ => none)
  | .goto _ => some [(some e.2.2.1, s)]
  | .ifCond c _ => (match s with
    | (lv, w :: st, E, C) => (match ym_ri E w with
      | some a => some (ym_br (ym_cond c E w (.int 0) a (0, 0)) e.2.2.1 lv st C)
      | none => none)
    | _ => none)
  | .if_icmp c _ => (match s with
    | (lv, w :: u :: st, E, C) => (match ym_ri E u, ym_ri E w with
      | some a, some b => some (ym_br (bif decide (u = w) then [(E, xm_holds c 0)] else ym_cond c E u w a b) e.2.2.1 lv st C)
      | _, _ => none)
    | _ => none)
  | .ifnonnull _ => (match s with
    | (lv, .ref k :: st, E, C) => (match ym_get E k with
      | some ((t, r, z), rt, off) => bif Nat.beq t 2 then some [(some e.2.2.1, (lv, st, E, C))] else bif Nat.beq t 3 then some [(some e.2.2.1, (lv, st, ym_put E k ((2, r, z), rt, off), C)), (none, (lv, st, E, C))] else none
      | none => none)
    | _ => none)
  | .tableswitch _ lo _ _ => (match s with
    | (lv, w :: st, E, C) => (match ym_ri E w with
      | some a => some (ym_tos (ym_tab E w a lo e.2.2.1 e.2.2.2.2.1) lv st C)
      | none => none)
    | _ => none)
  | .lookupswitch _ ps => (match s with
    | (lv, w :: st, E, C) => (match ym_ri E w with
      | some a => some (ym_tos (ym_lk E w a e.2.2.1 ps.toList e.2.2.2.2.1) lv st C)
      | none => none)
    | _ => none)
  | .iaload => ym_ald (fun t => Nat.beq t 100) s
  | .baload => ym_ald (fun t => Nat.beq t 101 || Nat.beq t 103) s
  | .laload => ym_ald (fun t => Nat.beq t 102) s
  | .aaload => ym_ald xm_isAr s
  | .iastore => bif ym_top xm_isI s then ym_ast md (fun t => Nat.beq t 100) s else none
  | .bastore => ym_bast md s
  | .lastore => bif ym_top xm_isL s then ym_ast md (fun t => Nat.beq t 102) s else none
  | .arraylength => (match s with
    | (lv, w :: st, E, C) => (match ym_ref E w with
      | some r => (match yr_row r with
        | some q => bif Nat.ble 100 q.1 && (Nat.blt q.1 108 && Nat.blt q.2.1 65536) then some [(none, (lv, .int (Int32.ofNat q.2.1) :: st, E, C))] else none
        | none => none)
      | none => none)
    | _ => none)
  | .getfield _ => (match s with
    | (lv, .ref k :: st, E, C) => (match ym_ref E (.ref k) with
      | some r => (match yr_row r with
        | some q => bif Nat.beq q.1 e.2.2.1 && Nat.blt e.2.2.2.1 q.2.1 then (match ym_rd E C k q e.2.2.2.1 with
          | some (v, E, C) => some [(none, (lv, v :: st, E, C))]
          | none => none) else none
        | none => none)
      | none => none)
    | _ => none)
  | .putfield _ => (match s with
    | (lv, w :: .ref k :: st, E, C) => (match ym_ref E (.ref k) with
      | some r => (match yr_row r with
        | some q => bif Nat.beq q.1 e.2.2.1 && (Nat.blt q.1 100 && (Nat.blt e.2.2.2.1 q.2.1 && ym_fit E (xm_ty q.1 e.2.2.2.1) w)) then (match ym_wr md E C k r q (Int.ofNat e.2.2.2.1, Int.ofNat e.2.2.2.1) w true with
          | some C => some [(none, (lv, st, E, C))]
          | none => none) else none
        | none => none)
      | none => none)
    | _ => none)
  | _ => none
