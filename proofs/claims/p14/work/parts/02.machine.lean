/-! A LITTLE MACHINE: the bytecode of this program over a plain picture of the heap. A value is a Value: .ref j is the j-th cell of the picture; .retAddr k stands for the k-th number of the script (k = 6: its length), of which a range is known; .double k for the same as a long; .float u for such a number shifted. -/
abbrev xm_O : Type := Nat × List Value
abbrev xm_G : Type := List (List (Option xm_O))
abbrev xm_H : Type := Nat × xm_G
abbrev xm_E : Type := Nat × Instr × Nat × Nat × List Nat × Value
abbrev xm_L : Type := List (Nat × Value)
abbrev xm_R : Type := List (Int × Int)
abbrev xm_Q : Type := Option Value → xm_H → xm_R → Bool
abbrev xm_K : Type := xm_L → List Value → xm_H → xm_R → Nat → Nat → Bool
abbrev xm_M : Type := Nat × MethodName × ByteArray × Nat × Option FieldType × Nat × Nat × Nat × List xm_E
/-! lists -/
noncomputable def xm_nth {α : Type} (l : List α) : Nat → Option α :=
  List.rec (motive := fun _ => Nat → Option α) (fun _ => none) (fun a _ ih n => Nat.rec (motive := fun _ => Option α) (some a) (fun j _ => ih j) n) l
noncomputable def xm_put {α : Type} (x : α) (l : List α) : Nat → List α :=
  List.rec (motive := fun _ => Nat → List α) (fun _ => []) (fun a t ih n => Nat.rec (motive := fun _ => List α) (x :: t) (fun j _ => a :: ih j) n) l
noncomputable def xm_ext {α : Type} (d x : α) (n : Nat) : List α :=
  Nat.rec (motive := fun _ => List α) [x] (fun _ ih => d :: ih) n
noncomputable def xm_putx {α : Type} (d x : α) (l : List α) : Nat → List α :=
  List.rec (motive := fun _ => Nat → List α) (fun n => xm_ext d x n) (fun a t ih n => Nat.rec (motive := fun _ => List α) (x :: t) (fun j _ => a :: ih j) n) l
noncomputable def xm_drop {α : Type} (n : Nat) : List α → List α :=
  Nat.rec (motive := fun _ => List α → List α) (fun l => l) (fun _ ih l => List.rec (motive := fun _ => List α) [] (fun _ t _ => ih t) l) n
noncomputable def xm_rep {α : Type} (x : α) (n : Nat) : List α := Nat.rec (motive := fun _ => List α) [] (fun _ ih => x :: ih) n
noncomputable def xm_len {α : Type} (l : List α) : Nat := List.rec (motive := fun _ => Nat) 0 (fun _ _ ih => Nat.succ ih) l
/-! the heap's picture -/
noncomputable def xm_jn {α : Type} (o : Option (Option α)) : Option α := match o with
  | some (some x) => some x
  | _ => none
noncomputable def xm_ck (G : xm_G) (j : Nat) : List (Option xm_O) := match xm_nth G j with
  | some c => c
  | none => []
noncomputable def xm_hget (G : xm_H) (j : Nat) : Option xm_O := xm_jn (xm_nth (xm_ck G.2 (Nat.div j 16)) (Nat.mod j 16))
noncomputable def xm_gput (G : xm_G) (j : Nat) (o : xm_O) : xm_G := xm_putx [] (xm_putx none (some o) (xm_ck G (Nat.div j 16)) (Nat.mod j 16)) G (Nat.div j 16)
noncomputable def xm_hput (G : xm_H) (j : Nat) (o : xm_O) : xm_H := (G.1, xm_gput G.2 j o)
noncomputable def xm_push (G : xm_H) (o : xm_O) : xm_H := (Nat.succ G.1, xm_gput G.2 G.1 o)
/-! locals -/
noncomputable def xm_get (l : xm_L) (i : Nat) : Option Value :=
  List.rec (motive := fun _ => Option Value) none (fun q _ ih => cond (Nat.beq q.1 i) (some q.2) ih) l
def xm_set1 (l : xm_L) (i : Nat) (v : Value) : xm_L := (i, v) :: l.filter (fun q => !(q.1 == i) && !(q.1 + 1 == i && q.2.category == 2))
def xm_set2 (l : xm_L) (i : Nat) (v : Value) : xm_L := (i, v) :: l.filter (fun q => !(q.1 == i) && (!(q.1 == i + 1) && !(q.1 + 1 == i && q.2.category == 2)))
/-! kinds of values -/
def xm_isI : Value → Bool
  | .int _ => true
  | .retAddr _ => true
  | .float _ => true
  | _ => false
def xm_isL : Value → Bool
  | .long _ => true
  | .double _ => true
  | _ => false
def xm_isA : Value → Bool
  | .ref _ => true
  | .null => true
  | _ => false
def xm_cat1 (v : Value) : Bool := !(xm_isL v)
noncomputable def xm_cats (st : List Value) : Nat := List.rec (motive := fun _ => Nat) 0 (fun v _ ih => Nat.add (cond (xm_isL v) 2 1) ih) st
/-! numbers: a number is made plain before it is kept -/
noncomputable def xm_frc (x : Int32) (k : Int32 → Bool) : Bool := Nat.rec (motive := fun _ => Bool) (k (Int32.ofNat 0)) (fun n _ => k (Int32.ofNat (Nat.succ n))) x.toBitVec.toNat
noncomputable def xm_all (lo : Int) (n : Nat) (k : Int → Bool) : Bool := Nat.rec (motive := fun _ => Bool) true (fun j ih => and (k (lo + Int.ofNat j)) ih) n
noncomputable def xm_conc (E : xm_R) (v : Value) (k : xm_R → Int32 → Bool) : Bool := match v with
  | .int x => k E x
  | .retAddr i => match xm_nth E i with
    | some (lo, hi) => cond (decide (hi - lo < 16)) (xm_all lo (hi - lo + 1).toNat (fun c => k (xm_put (c, c) E i) (Int32.ofInt c))) false
    | none => false
  | _ => false
def xm_sgn (a b : Int) : Int := bif decide (a < b) then -1 else bif decide (a = b) then 0 else 1
noncomputable def xm_split (E : xm_R) (i : Nat) (c : Int) (k : xm_R → Int → Bool) : Bool := match xm_nth E i with
  | some (lo, hi) => and (bif decide (lo < c) then k (xm_put (lo, min hi (c - 1)) E i) (-1) else true) (and (bif decide (lo ≤ c) && decide (c ≤ hi) then k (xm_put (c, c) E i) 0 else true) (bif decide (c < hi) then k (xm_put (max lo (c + 1), hi) E i) 1 else true))
  | none => false
noncomputable def xm_cmpI (E : xm_R) (v w : Value) (k : xm_R → Int → Bool) : Bool := match v, w with
  | .int x, .int y => k E (xm_sgn x.toInt y.toInt)
  | .retAddr i, .int y => xm_split E i y.toInt k
  | .int x, .retAddr i => xm_split E i x.toInt (fun E s => k E (-s))
  | .retAddr i, .retAddr j => bif Nat.beq i j then k E 0 else false
  | _, _ => false
noncomputable def xm_cmpL (E : xm_R) (v w : Value) (k : xm_R → Int → Bool) : Bool := match v, w with
  | .long x, .long y => k E (xm_sgn x.toInt y.toInt)
  | .double i, .long y => xm_split E i.toNat y.toInt k
  | .long x, .double i => xm_split E i.toNat x.toInt (fun E s => k E (-s))
  | _, _ => false
def xm_holds (c : Jvm.ClassFile.Cond) (s : Int) : Bool := match c with
  | .eq => decide (s = 0)
  | .ne => !decide (s = 0)
  | .lt => decide (s < 0)
  | .ge => !decide (s < 0)
  | .gt => decide (0 < s)
  | .le => !decide (0 < s)
def xm_iop (i : Instr) (x y : Int32) : Option Int32 := match i with
  | .iadd => some (x + y)
  | .isub => some (x - y)
  | .imul => some (x * y)
  | .iand => some (x &&& y)
  | .ior => some (x ||| y)
  | .ixor => some (x ^^^ y)
  | .ishl => some (x <<< (y &&& 31))
  | .ishr => some (x >>> (y &&& 31))
  | .iushr => some ((x.toUInt32 >>> (y.toUInt32 &&& Int32.toUInt32 31)).toInt32)
  | .idiv => bif decide (y = 0) then none else some (x / y)
  | .irem => bif decide (y = 0) then none else some (x - x / y * y)
  | _ => none
def xm_lop (i : Instr) (x y : Int64) : Option Int64 := match i with
  | .ladd => some (x + y)
  | .lsub => some (x - y)
  | .lmul => some (x * y)
  | .land => some (x &&& y)
  | .lor => some (x ||| y)
  | .ldiv => bif decide (y = 0) then none else some (x / y)
  | .lrem => bif decide (y = 0) then none else some (x - x / y * y)
  | _ => none
noncomputable def xm_int2 (i : Instr) (st : List Value) (E : xm_R) (k : List Value → xm_R → Bool) : Bool := match st with
  | w :: u :: st => xm_conc E w (fun E y => xm_conc E u (fun E x => match xm_iop i x y with
    | some z => xm_frc z (fun z => k (.int z :: st) E)
    | none => false))
  | _ => false
noncomputable def xm_iand (st : List Value) (E : xm_R) (k : List Value → xm_R → Bool) : Bool := match st with
  | .int m :: .retAddr j :: st => bif decide (m = 31) then xm_all 0 32 (fun c => k (.int (Int32.ofInt c) :: st) E) else false
  | st => xm_int2 .iand st E k
noncomputable def xm_ishr (st : List Value) (E : xm_R) (k : List Value → xm_R → Bool) : Bool := match st with
  | .int m :: .retAddr j :: st => bif decide (0 ≤ m.toInt) && (decide (m.toInt < 32) && Nat.blt j 1000) then k (.float (UInt32.ofNat (64 * j + m.toInt.toNat)) :: st) E else false
  | st => xm_int2 .ishr st E k
noncomputable def xm_long2 (i : Instr) (st : List Value) (k : List Value → Bool) : Bool := match st with
  | .long y :: .long x :: st => match xm_lop i x y with
    | some z => k (.long z :: st)
    | none => false
  | _ => false
noncomputable def xm_i2b (st : List Value) (E : xm_R) (k : List Value → xm_R → Bool) : Bool := match st with
  | .float u :: st => bif Nat.beq (u.toNat / 32 % 2) 0 && Nat.blt u.toNat 100000 then k (.float (UInt32.ofNat (u.toNat + 32)) :: st) E else false
  | w :: st => xm_conc E w (fun E x => k (.int x.toInt8.toInt32 :: st) E)
  | _ => false
noncomputable def xm_i2l (st : List Value) (k : List Value → Bool) : Bool := match st with
  | .int x :: st => k (.long x.toInt64 :: st)
  | .retAddr j :: st => bif Nat.blt j 1000 then k (.double (UInt64.ofNat j) :: st) else false
  | _ => false
/-- an array of kind t at the picture's place j, read at the place x -/
noncomputable def xm_rd (ok : Nat → Bool) (G : xm_H) (j : Nat) (x : Int32) (k : Value → Bool) : Bool := match xm_hget G j with
  | some (t, vs) => bif ok t && decide (0 ≤ x.toInt) then (match xm_nth vs x.toInt.toNat with
    | some w => k w
    | none => false) else false
  | none => false
noncomputable def xm_wr (ok : Nat → Bool) (G : xm_H) (j : Nat) (x : Int32) (w : Value) (k : xm_H → Bool) : Bool := match xm_hget G j with
  | some (t, vs) => bif ok t && (decide (0 ≤ x.toInt) && Nat.ble 7 j) then (match xm_nth vs x.toInt.toNat with
    | some _ => k (xm_hput G j (t, xm_put w vs x.toInt.toNat))
    | none => false) else false
  | none => false
noncomputable def xm_ald (ok : Nat → Bool) (st : List Value) (G : xm_H) (E : xm_R) (k : List Value → xm_R → Bool) : Bool := match st with
  | ix :: .ref j :: st => xm_conc E ix (fun E x => xm_rd ok G j x (fun w => k (w :: st) E))
  | _ => false
noncomputable def xm_iald (st : List Value) (G : xm_H) (E : xm_R) (k : List Value → xm_R → Bool) : Bool := match st with
  | ix :: .ref j :: st => bif Nat.beq j 0 then (match xm_hget G 0 with
      | some (t, _) => bif Nat.beq t 300 then xm_conc E ix (fun E x => match xm_nth E 6 with
        | some (lo, _) => bif decide (0 ≤ x.toInt) && decide (x.toInt < lo) then k (.retAddr x.toInt.toNat :: st) E else false
        | none => false) else xm_ald (fun t => Nat.beq t 301) (ix :: .ref 0 :: st) G E k
      | none => false)
    else xm_ald (fun t => Nat.beq t 100) (ix :: .ref j :: st) G E k
  | _ => false
noncomputable def xm_ast (ok : Nat → Bool) (okv : Value → Option Value) (st : List Value) (G : xm_H) (E : xm_R) (k : List Value → xm_H → xm_R → Bool) : Bool := match st with
  | w :: ix :: .ref j :: st => (match okv w with
    | some w => xm_conc E ix (fun E x => xm_wr ok G j x w (fun G => k st G E))
    | none => false)
  | _ => false
def xm_kI (v : Value) : Option Value := bif xm_isI v then some v else none
def xm_kL (v : Value) : Option Value := match v with
  | .long x => some (.long x)
  | _ => none
def xm_kB (v : Value) : Option Value := match v with
  | .int x => some (.int x.toInt8.toInt32)
  | .float u => bif Nat.beq (u.toNat / 32 % 2) 1 then some (.float u) else none
  | _ => none
def xm_kZ (v : Value) : Option Value := match v with
  | .int x => bif decide (x = 0) || decide (x = 1) then some (.int x) else none
  | _ => none
noncomputable def xm_bast (st : List Value) (G : xm_H) (E : xm_R) (k : List Value → xm_H → xm_R → Bool) : Bool := match st with
  | w :: ix :: .ref j :: st => (match xm_hget G j with
    | some (t, _) => bif Nat.beq t 103 then xm_ast (fun t => Nat.beq t 103) xm_kZ (w :: ix :: .ref j :: st) G E k else xm_ast (fun t => Nat.beq t 101) xm_kB (w :: ix :: .ref j :: st) G E k
    | none => false)
  | _ => false
noncomputable def xm_bald (st : List Value) (G : xm_H) (E : xm_R) (k : List Value → xm_R → Bool) : Bool := match st with
  | ix :: .ref j :: st => (match xm_hget G j with
    | some (t, _) => bif Nat.beq t 103 then xm_ald (fun t => Nat.beq t 103) (ix :: .ref j :: st) G E k else xm_ald (fun t => Nat.beq t 101) (ix :: .ref j :: st) G E k
    | none => false)
  | _ => false
/-- which class's objects an array of references holds: the array's number, the class's -/
def xm_ofA (t : Nat) : Option Nat := match t with
  | 104 => some 6
  | 105 => some 0
  | 106 => some 4
  | 107 => some 8
  | _ => none
noncomputable def xm_aast (st : List Value) (G : xm_H) (E : xm_R) (k : List Value → xm_H → xm_R → Bool) : Bool := match st with
  | .ref q :: ix :: .ref j :: st => (match xm_hget G q with
    | some (c, _) => xm_conc E ix (fun E x => xm_wr (fun t => (match xm_ofA t with
      | some c1 => Nat.beq c1 c && Nat.blt c 100
      | none => false)) G j x (.ref q) (fun G => k st G E))
    | none => false)
  | _ => false
def xm_isAr (t : Nat) : Bool := match t with
  | 104 => true
  | 105 => true
  | 106 => true
  | 107 => true
  | _ => false
noncomputable def xm_alen (st : List Value) (G : xm_H) (k : List Value → Bool) : Bool := match st with
  | .ref j :: st => (match xm_hget G j with
    | some (t, vs) => bif Nat.beq t 300 then k (.retAddr 6 :: st) else bif (Nat.ble 100 t && Nat.blt t 108) || Nat.beq t 301 then k (.int (Int32.ofNat (xm_len vs)) :: st) else false
    | none => false)
  | _ => false
/-- what a new array of a kind begins with -/
def xm_zero (t : Nat) : Value := match t with
  | 100 => .int 0
  | 101 => .int 0
  | 102 => .long 0
  | 103 => .int 0
  | _ => .null
noncomputable def xm_newa (t : Nat) (st : List Value) (G : xm_H) (E : xm_R) (kc ks mc ms : Nat) (k : List Value → xm_H → xm_R → Nat → Nat → Bool) : Bool := match st with
  | w :: st => xm_conc E w (fun E x => bif decide (0 ≤ x.toInt) && (Nat.ble (kc + 1) mc && (Nat.ble (ks + x.toInt.toNat) ms && Nat.ble x.toInt.toNat 65536)) then
      k (.ref G.1 :: st) (xm_push G (t, xm_rep (xm_zero t) x.toInt.toNat)) E (kc + 1) (ks + x.toInt.toNat) else false)
  | _ => false
noncomputable def xm_getf (a b : Nat) (st : List Value) (G : xm_H) (k : List Value → Bool) : Bool := match st with
  | .ref j :: st => (match xm_hget G j with
    | some (t, vs) => bif Nat.beq t a then (match xm_nth vs b with
      | some w => k (w :: st)
      | none => false) else false
    | none => false)
  | _ => false
def xm_fit (ty : FieldType) (v : Value) : Bool := match ty with
  | .int => xm_isI v
  | .boolean => (match v with
    | .int x => decide (x = 0) || decide (x = 1)
    | _ => false)
  | .long => xm_isL v
  | .object _ => xm_isA v
  | .array _ => xm_isA v
  | _ => false
noncomputable def xm_pop (n : Nat) : List Value → List Value → (List Value → List Value → Bool) → Bool :=
  Nat.rec (motive := fun _ => List Value → List Value → (List Value → List Value → Bool) → Bool) (fun acc st k => k acc st) (fun _ ih acc st k => match st with
    | v :: st => ih (v :: acc) st k
    | [] => false) n
noncomputable def xm_copy (sp dp n : Nat) (f g : List Value) : List Value := 
  Nat.rec (motive := fun _ => List Value) g (fun i ih => match xm_nth f (sp + i) with
    | some w => xm_put w ih (dp + i)
    | none => ih) n
noncomputable def xm_allI (l : List Value) : Bool := List.rec (motive := fun _ => Bool) true (fun v _ ih => xm_isI v && ih) l
noncomputable def xm_acopy (st : List Value) (G : xm_H) (k : List Value → xm_H → Bool) : Bool := match st with
  | .int n :: .int dp :: .ref j :: .int sp :: .ref i :: st => (match xm_hget G i, xm_hget G j with
    | some (t, vs), some (t1, ws) => bif Nat.beq t 100 && (Nat.beq t1 100 && (Nat.ble 7 j && (!(Nat.beq i j) && (Nat.ble (xm_cats st) 8 && (xm_allI vs && (decide (0 ≤ n.toInt) && (decide (0 ≤ dp.toInt) && (decide (0 ≤ sp.toInt) && (Nat.ble (sp.toInt.toNat + n.toInt.toNat) (xm_len vs) && Nat.ble (dp.toInt.toNat + n.toInt.toNat) (xm_len ws)))))))))) then
        k st (xm_hput G j (100, xm_copy sp.toInt.toNat dp.toInt.toNat n.toInt.toNat vs ws)) else false
    | _, _ => false)
  | _ => false
noncomputable def xm_tsw (j : Nat) (l h : Int) (E : xm_R) (k : xm_R → Nat → Bool) (ts : List Nat) : Int → Bool :=
  List.rec (motive := fun _ => Int → Bool) (fun _ => true) (fun t _ ih c => and (bif decide (l ≤ c) && decide (c ≤ h) then k (xm_put (c, c) E j) t else true) (ih (c + 1))) ts
noncomputable def xm_table (lo : Int) (a : Nat) (ts : List Nat) (w : Value) (E : xm_R) (k : xm_R → Nat → Bool) : Bool := match w with
  | .int x => bif decide (x.toInt < lo) || decide (lo + Int.ofNat (xm_len ts) ≤ x.toInt) then k E a else (match xm_nth ts (x.toInt - lo).toNat with
    | some t => k E t
    | none => false)
  | .retAddr j => (match xm_nth E j with
    | some (l, h) => and (bif decide (l < lo) then k (xm_put (l, min h (lo - 1)) E j) a else true) (and (bif decide (lo + Int.ofNat (xm_len ts) ≤ h) then k (xm_put (max l (lo + Int.ofNat (xm_len ts)), h) E j) a else true) (xm_tsw j l h E k ts lo))
    | none => false)
  | _ => false
noncomputable def xm_look (a : Nat) (ps : List (Int × Int)) (ts : List Nat) (x : Int) : Nat :=
  List.rec (motive := fun _ => List Nat → Nat) (fun _ => a) (fun q _ ih ts => match ts with
    | t :: ts => bif decide (q.1 = x) then t else ih ts
    | [] => a) ps ts
