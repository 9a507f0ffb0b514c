/-! calls and runs of the interval machine -/
abbrev yP : Type := Nat × List Nat × yT
abbrev yI : Type := Nat × List yT × List yP × List (Option yT × List yP) × yM
abbrev ym_K : Type := Nat → List xm_E → ym_St → Bool
abbrev ym_Q : Type := Option Value → ym_S → ym_C → Bool
abbrev ym_X : Type := Nat → List Value → ym_S → ym_C → ym_Q → Bool
noncomputable def ym_all {α : Type} (p : α → Bool) (l : List α) : Bool := List.rec (motive := fun _ => Bool) true (fun a _ ih => p a && ih) l
def ym_mx (a b : Int × Int) : Int × Int := (max a.1 b.1, max a.2 b.2)
def ym_mn (a b : Int × Int) : Int × Int := (min a.1 b.1, min a.2 b.2)
/-- Math -/
noncomputable def ym_math (m : Nat) (s : ym_St) : Option ym_St := bif Nat.beq m 1005 then (match s with
  | (lv, w :: st, E, C) => (match ym_ri E w with
    | some a => bif Nat.ble (xm_cats st) 8 then (match ym_mi E (0, max (-a.1) a.2) with
      | (E, v) => some (lv, v :: st, E, C)) else none
    | none => none)
  | _ => none) else (match s with
  | (lv, w :: u :: st, E, C) => (match ym_ri E u, ym_ri E w with
    | some a, some b => bif Nat.ble (xm_cats st) 8 then (match ym_mi E (bif Nat.beq m 1003 then ym_mx a b else ym_mn a b) with
      | (E, v) => some (lv, v :: st, E, C)) else none
    | _, _ => none)
  | _ => none)
/-- System.arraycopy of ints -/
noncomputable def ym_acopy (md : yM) (s : ym_St) : Option ym_St := match s with
  | (lv, .int n :: .int dp :: d :: .int sp :: c :: st, E, C) => (match ym_ref E c, ym_ref E d with
    | some r1, some r2 => (match yr_row r1, yr_row r2 with
      | some q1, some q2 => (match yr_ty q1 0, yr_ty q2 0 with
        | some T1, some T2 => bif Nat.beq q1.1 100 && (Nat.beq q2.1 100 && (!(Nat.beq r1 r2) && (Nat.ble (xm_cats st) 8 && (decide (0 ≤ n.toInt) && (decide (0 ≤ dp.toInt) && (decide (0 ≤ sp.toInt) && (Nat.ble (sp.toInt.toNat + n.toInt.toNat) q1.2.1 && (Nat.ble (dp.toInt.toNat + n.toInt.toNat) q2.2.1 && (Nat.beq q1.2.2.1 1 && (Nat.beq q2.2.2.1 1 && (ym_mod md r2 100000 && (Nat.beq T1.1 0 && (Nat.beq T2.1 0 && (decide (T2.2.1 ≤ T1.2.1) && decide (T1.2.2 ≤ T2.2.2))))))))))))))) then some (lv, st, E, ym_kill E C (fun r _ => Nat.beq r r2)) else none
        | _, _ => none)
      | _, _ => none)
    | _, _ => none)
  | _ => none
noncomputable def ym_args (E : ym_S) (As : List Value) : List yT → Bool := List.rec (motive := fun _ => List yT → Bool) (fun ts => match ts with
    | [] => true
    | _ => false) (fun v _ ih ts => match ts with
    | t :: ts => ym_sub E v t && ih ts
    | [] => false) As
/-- what is known of a place, by a path of fields and places -/
noncomputable def ym_walk (C : ym_C) (p : List Nat) : Value → Option Value := List.rec (motive := fun _ => Value → Option Value) (fun v => some v) (fun f _ ih v => match v with
  | .ref k => (match ym_find C k f with
    | some w => ih w
    | none => none)
  | _ => none) p
noncomputable def ym_fact (E : ym_S) (C : ym_C) (v : Option Value) (p : List Nat) (T : yT) : Bool := match v with
  | some v => (match ym_walk C p v with
    | some w => ym_sub E w T
    | none => false)
  | none => false
noncomputable def ym_facts (E : ym_S) (C : ym_C) (src : Nat → Option Value) (ps : List yP) : Bool := ym_all (fun p => ym_fact E C (src p.1) p.2.1 p.2.2) ps
/-- such a thing is taken as known -/
noncomputable def ym_lay (T : yT) (p : List Nat) : ym_S → ym_C → Value → Option (ym_S × ym_C) := List.rec (motive := fun _ => ym_S → ym_C → Value → Option (ym_S × ym_C)) (fun _ _ _ => none) (fun f t ih E C v => match v with
  | .ref k => (match t with
    | [] => (match ym_mk E T with
      | some (E, w) => some (E, (k, f, w) :: C)
      | none => none)
    | _ :: _ => (match ym_ref E (.ref k) with
      | some r => (match yr_row r with
        | some q => bif Nat.blt f q.2.1 then (match ym_rd E C k q f with
          | some (w, E, C) => ih E C w
          | none => none) else none
        | none => none)
      | none => none))
  | _ => none) p
noncomputable def ym_lays (src : Nat → Option Value) (ps : List yP) : ym_S → ym_C → Option (ym_S × ym_C) := List.rec (motive := fun _ => ym_S → ym_C → Option (ym_S × ym_C)) (fun E C => some (E, C)) (fun p _ ih E C => match src p.1 with
  | some v => (match ym_lay p.2.2 p.2.1 E C v with
    | some (E, C) => ih E C
    | none => none)
  | none => none) ps
noncomputable def ym_pick (tb : List yI) (a : Nat) (E : ym_S) (C : ym_C) (As : List Value) : Option yI := List.rec (motive := fun _ => Option yI) none (fun q _ ih => bif Nat.beq q.1 a && (ym_args E As q.2.1 && ym_facts E C (xm_nth As) q.2.2.1) then some q else ih) tb
noncomputable def ym_mds (md1 md : yM) : Bool := ym_all (fun q => ym_mod md q.1 q.2) md1
/-- how a call by contract can end -/
noncomputable def ym_case (c : Option yT × List yP) (As : List Value) (lv : xm_L) (st : List Value) (E : ym_S) (C : ym_C) : Option ym_St := match c.1 with
  | none => (match ym_lays (xm_nth As) c.2 E C with
    | some (E, C) => some (lv, st, E, C)
    | none => none)
  | some T => (match ym_mk E T with
    | some (E, v) => (match ym_lays (xm_nth As) c.2 E C with
      | some (E, C) => some (lv, v :: st, E, C)
      | none => none)
    | none => none)
noncomputable def ym_rcv (b : Nat) (cls : String) (E : ym_S) (As : List Value) : Bool := bif Nat.beq b 1 || Nat.beq b 3 then true else (match As with
  | v :: _ => (match ym_ref E v with
    | some r => bif Nat.beq b 0 then (match yr_row r with
      | some q => (match xm_nth xm_cls q.1 with
        | some (C, _, _) => decide (cls = C)
        | none => false)
      | none => false) else true
    | none => false)
  | [] => false)
noncomputable def ym_pop (n : Nat) : List Value → List Value → Option (List Value × List Value) := Nat.rec (motive := fun _ => List Value → List Value → Option (List Value × List Value)) (fun acc st => some (acc, st)) (fun _ ih acc st => match st with
  | v :: st => ih (v :: acc) st
  | [] => none) n
noncomputable def ym_inv (call : ym_X) (tb : List yI) (md : yM) (a b : Nat) (s : ym_St) (k : ym_St → Bool) : Bool := match xm_nth xm_mtab a with
  | some (_, y, _, _, _, n, mc1, ms1, _) => bif Nat.beq mc1 0 && Nat.beq ms1 0 then (match ym_pop (bif Nat.beq b 1 || Nat.beq b 3 then n else Nat.succ n) [] s.2.1 with
    | some (As, st) => bif Nat.ble (xm_cats st) 8 && ym_rcv b y.cls s.2.2.1 As then (match ym_pick tb a s.2.2.1 s.2.2.2 As with
      | some I => ym_mds I.2.2.2.2 md && ym_all (fun c => match ym_case c As s.1 st s.2.2.1 (ym_kill s.2.2.1 s.2.2.2 (fun r i => ym_mod I.2.2.2.2 r i)) with
        | some s => k s
        | none => false) I.2.2.2.1
      | none => call a As s.2.2.1 s.2.2.2 (fun r E C => k (s.1, (match r with
        | some v => v :: st
        | none => st), E, C))) else false
    | none => false) else false
  | none => false
noncomputable def ym_rok (E : ym_S) (ret : Option FieldType) (w : Value) : Bool := match ret with
  | some ty => ym_fit E ty w
  | none => false
/-- md: what may be written at all, mw: what may be written here itself -/
noncomputable def ym_body (call : ym_X) (tb : List yI) (md mw : yM) (nL : Nat) (full : List xm_E) (ret : Option FieldType) (Q : ym_Q) (ih : ym_K) (pos : Nat) (e : xm_E) (rest : List xm_E) (s : ym_St) : Bool := match e.2.1 with
  | .invokevirtual _ => ym_inv call tb md e.2.2.1 0 s (fun s => ih (Nat.succ pos) rest s)
  | .invokestatic _ => bif Nat.beq e.2.2.1 1001 then (match ym_acopy mw s with
      | some s => ih (Nat.succ pos) rest s
      | none => false)
    else bif Nat.beq e.2.2.1 1003 || (Nat.beq e.2.2.1 1004 || Nat.beq e.2.2.1 1005) then (match ym_math e.2.2.1 s with
      | some s => ih (Nat.succ pos) rest s
      | none => false)
    else bif Nat.beq e.2.2.2.1 3 then ym_inv call tb md e.2.2.1 3 s (fun s => ih (Nat.succ pos) rest s) else ym_inv call tb md e.2.2.1 1 s (fun s => ih (Nat.succ pos) rest s)
  | .ireturn => (match s with
    | (_, [w], E, C) => bif xm_isI w && ym_rok E ret w then Q (some w) E C else false
    | _ => false)
  | .lreturn => (match s with
    | (_, [w], E, C) => bif xm_isL w && ym_rok E ret w then Q (some w) E C else false
    | _ => false)
  | .areturn => (match s with
    | (_, [w], E, C) => bif xm_isA w && ym_rok E ret w then Q (some w) E C else false
    | _ => false)
  | .return_ => (match s with
    | (_, [], E, C) => bif ret.isNone then Q none E C else false
    | _ => false)
  | _ => (match ym_step nL mw e s with
    | some L => ym_all (fun q => match q.1 with
      | none => ih (Nat.succ pos) rest q.2
      | some t => ih t (xm_drop t full) q.2) L
    | none => false)
abbrev ym_J : Type := Nat → ym_St → Option (List (Nat × ym_St))
noncomputable def ym_run (call : ym_X) (tb : List yI) (md mw : yM) (nL : Nat) (full : List xm_E) (ret : Option FieldType) (arr : Nat → ym_St → Option Bool) (hk : ym_J) (Q : ym_Q) (f : Nat) : ym_K :=
  Nat.rec (motive := fun _ => ym_K) (fun _ _ _ => false) (fun _ ih pos suf s => match arr pos s with
    | some b => b
    | none => (match hk pos s with
      | some L => ym_all (fun q => ih q.1 (xm_drop q.1 full) q.2) L
      | none => List.rec (motive := fun _ => Bool) false (fun e rest _ => ym_body call tb md mw nL full ret Q ih pos e rest s) suf)) f
noncomputable def ym_exec (tb : List yI) (md mw : yM) (dp : Nat) : ym_X :=
  Nat.rec (motive := fun _ => ym_X) (fun _ _ _ _ _ => false) (fun _ ih a As E C Q => match xm_nth xm_mtab a with
    | some (_, _, _, nL, ret, _, _, _, c) => bif xm_nx c 0 && Nat.ble (xm_cats As) nL then ym_run ih tb md mw nL c ret (fun _ _ => none) (fun _ _ => none) Q 20000 0 c (lv_args 0 As, [], E, C) else false
    | none => false) dp
/-! loops: at a head (its place, its locals, which of them are taken as each number that they can be, the numbers that grow (a local, or 1000 and a number), what is known of fields, and fields that are bounded by numbers) all hangs on these; the weighted sum of the numbers grows from head to head -/
abbrev yB : Type := Nat × List Nat × Int × List (Int × Nat) × Int
abbrev yH : Type := Nat × List (Nat × yT) × List Nat × List Nat × List yP × List yB
noncomputable def ym_any {α : Type} (p : α → Bool) (l : List α) : Bool := List.rec (motive := fun _ => Bool) false (fun a _ ih => p a || ih) l
noncomputable def ym_hfind (H : List yH) (pos : Nat) : Option yH := List.rec (motive := fun _ => Option yH) none (fun h _ ih => bif Nat.beq h.1 pos then some h else ih) H
noncomputable def ym_locs (lv : xm_L) (E : ym_S) (ls : List (Nat × yT)) : Bool := ym_all (fun q => match xm_get lv q.1 with
  | some v => ym_sub E v q.2
  | none => false) ls
/-- how much a number has grown, at least -/
noncomputable def ym_dlow (E : ym_S) (v1 v0 : Value) : Option Int := match ym_ri E v1, ym_ri E v0 with
  | some a, some b => (match v1, v0 with
    | .retAddr k1, .retAddr k0 => (match ym_get E k1, ym_get E k0 with
      | some (_, rt1, o1), some (_, rt0, o0) => bif Nat.beq rt1 rt0 then some (o1 - o0) else some (a.1 - b.2)
      | _, _ => none)
    | _, _ => some (a.1 - b.2))
  | _, _ => none
noncomputable def ym_rv (lv : xm_L) (o : Nat) : Value := bif Nat.blt o 1000 then (match xm_get lv o with
    | some v => v
    | none => .null) else .int (Int32.ofNat (o - 1000))
/-- W: weights; the sum of the weighted growths, and the sum of the weighted upper ends -/
noncomputable def ym_rsum (E : ym_S) (W : List Int) : List Value → List Value → Option (Int × Int) := List.rec (motive := fun _ => List Value → List Value → Option (Int × Int)) (fun vs us => match vs, us with
  | [], [] => some (0, 0)
  | _, _ => none) (fun w _ ih vs us => match vs, us with
  | v :: vs, u :: us => (match ym_ri E v, ih vs us with
    | some a, some r => bif decide (0 ≤ w) then (match ym_dlow E v u with
      | some d => some (w * d + r.1, w * a.2 + r.2)
      | none => none) else (match ym_dlow E u v with
      | some d => some (-w * d + r.1, w * a.1 + r.2)
      | none => none)
    | _, _ => none)
  | _, _ => none) W
def ym_M : Int := 1000000000000000000
/-- a sum over locals: its least, its most -/
noncomputable def ym_lin (E : ym_S) (lv : xm_L) (c0 : Int) (cs : List (Int × Nat)) : Option (Int × Int) := List.rec (motive := fun _ => Option (Int × Int)) (some (c0, c0)) (fun q _ ih => match xm_get lv q.2, ih with
  | some v, some r => (match ym_ri E v with
    | some a => bif decide ((0 : Int) ≤ q.1) then some (q.1 * a.1 + r.1, q.1 * a.2 + r.2) else none
    | none => none)
  | _, _ => none) cs
noncomputable def ym_bchk (E : ym_S) (C : ym_C) (lv : xm_L) (bs : List yB) : Bool := ym_all (fun b => match ym_lin E lv b.2.2.2.2 b.2.2.2.1 with
  | some r => ym_fact E C (xm_get lv b.1) b.2.1 (0, b.2.2.1, r.1)
  | none => false) bs
noncomputable def ym_blay (lv : xm_L) (bs : List yB) : ym_S → ym_C → Option (ym_S × ym_C) := List.rec (motive := fun _ => ym_S → ym_C → Option (ym_S × ym_C)) (fun E C => some (E, C)) (fun b _ ih E C => match ym_lin E lv b.2.2.2.2 b.2.2.2.1, xm_get lv b.1 with
  | some r, some v => (match ym_lay (0, b.2.2.1, r.2) b.2.1 E C v with
    | some (E, C) => ih E C
    | none => none)
  | _, _ => none) bs
noncomputable def ym_hchk (W : List Int) (R0 : Option (List Value)) (h : yH) (s : ym_St) : Bool := match s with
  | (lv, [], E, C) => ym_locs lv E h.2.1 && (ym_facts E C (xm_get lv) h.2.2.2.2.1 && (ym_bchk E C lv h.2.2.2.2.2 && (match R0 with
    | some us => (match ym_rsum E W (h.2.2.2.1.map (ym_rv lv)) us with
      | some r => decide (1 ≤ r.1) && decide (r.2 ≤ ym_M)
      | none => false)
    | none => (match ym_rsum E W (h.2.2.2.1.map (ym_rv lv)) (h.2.2.2.1.map (fun _ => .int 0)) with
      | some r => decide (-ym_M ≤ r.1) && decide (r.2 ≤ ym_M)
      | none => false))))
  | _ => false
noncomputable def ym_arr (H : List yH) (W : List Int) (R0 : Option (List Value)) (pos : Nat) (s : ym_St) : Option Bool := match ym_hfind H pos with
  | some _ => some (ym_any (fun h => Nat.beq h.1 pos && ym_hchk W R0 h s) H)
  | none => none
/-- the locals of a head -/
noncomputable def ym_hst (ls : List (Nat × yT)) : Option (xm_L × ym_S) := List.rec (motive := fun _ => Option (xm_L × ym_S)) (some ([], (0, []))) (fun q _ ih => match ih with
  | some (lv, E) => (match ym_mk E q.2 with
    | some (E, v) => some ((q.1, v) :: lv, E)
    | none => none)
  | none => none) ls
/-- some locals taken as each number that they can be -/
noncomputable def ym_splits (lv : xm_L) (sp : List Nat) : ym_S → (ym_S → Bool) → Bool := List.rec (motive := fun _ => ym_S → (ym_S → Bool) → Bool) (fun E k => k E) (fun i _ ih E k => match xm_get lv i with
  | some v => (match ym_ri E v with
    | some a => ym_all (fun q => ih q.1 k) (ym_each E v a.1 (a.2 - a.1 + 1).toNat)
    | none => false)
  | none => false) sp
noncomputable def ym_ret (cs : List (Option yT × List yP)) (As : List Value) : ym_Q := fun r E C => List.rec (motive := fun _ => Bool) false (fun c _ ih => (((match c.1, r with
  | none, none => true
  | some T, some v => ym_sub E v T
  | _, _ => false) && ym_facts E C (xm_nth As) c.2) || ih)) cs
/-- the arguments of an instance -/
noncomputable def ym_mks (Ts : List yT) : ym_S → Option (ym_S × List Value) := List.rec (motive := fun _ => ym_S → Option (ym_S × List Value)) (fun E => some (E, [])) (fun T _ ih E => match ym_mk E T with
  | some (E, v) => (match ih E with
    | some (E, vs) => some (E, v :: vs)
    | none => none)
  | none => none) Ts
noncomputable def ym_uniq (ks : List Nat) : Bool := List.rec (motive := fun _ => Bool) true (fun k t ih => ym_all (fun j => !(Nat.beq k j)) t && ih) ks
/-- what the answer is held against: only arguments that stand in no head's way: cases with facts are for bodies without heads -/
noncomputable def yk_head (tb : List yI) (I : yI) (mw : yM) (dp f : Nat) (W : List Int) (H : List yH) (hk : ym_J) (nL : Nat) (c : List xm_E) (ret : Option FieldType) (h : yH) : Bool := ym_uniq (h.2.1.map Prod.fst) && (match ym_hst h.2.1, xm_drop h.1 c with
  | some (lv, E), e :: rest => ym_splits lv h.2.2.1 E (fun E => match ym_lays (xm_get lv) h.2.2.2.2.1 E [] with
    | some (E, C) => (match ym_blay lv h.2.2.2.2.2 E C with
      | some (E, C) => ym_body (ym_exec tb I.2.2.2.2 mw dp) tb I.2.2.2.2 mw nL c ret (ym_ret I.2.2.2.1 []) (ym_run (ym_exec tb I.2.2.2.2 mw dp) tb I.2.2.2.2 mw nL c ret (ym_arr H W (some (h.2.2.2.1.map (ym_rv lv)))) hk (ym_ret I.2.2.2.1 []) f) h.1 e rest (lv, [], E, C)
      | none => false)
    | none => false)
  | _, _ => false)
noncomputable def yk_entry (tb : List yI) (I : yI) (mw : yM) (dp f : Nat) (W : List Int) (H : List yH) (hk : ym_J) (sp : List Nat) (nL : Nat) (c : List xm_E) (ret : Option FieldType) : Bool := match ym_mks I.2.1 (0, []) with
  | some (E, As) => (match ym_lays (xm_nth As) I.2.2.1 E [] with
    | some (E, C) => bif xm_nx c 0 && Nat.ble (xm_cats As) nL then ym_splits (lv_args 0 As) sp E (fun E => ym_run (ym_exec tb I.2.2.2.2 mw dp) tb I.2.2.2.2 mw nL c ret (ym_arr H W none) hk (ym_ret I.2.2.2.1 As) f 0 c (lv_args 0 As, [], E, C)) else false
    | none => false)
  | none => false
/-- what an instance itself writes is among what it may write, and not of what is kept for others -/
noncomputable def yk_free (mw : yM) : Bool := ym_all (fun q => ym_all (fun w => !(Nat.beq w.1 q.1 && (Nat.beq w.2 q.2 || (Nat.beq w.2 100000 || Nat.beq q.2 100000)))) mw) yr_prot
noncomputable def yk_mw (md mw : yM) : Bool := ym_mds mw md && yk_free mw
noncomputable def yk_en (tb : List yI) (I : yI) (mw : yM) (W : List Int) (H : List yH) (hk : ym_J) (sp : List Nat) : Bool := match xm_nth xm_mtab I.1 with
  | some (_, _, _, nL, ret, _, _, _, c) => yk_mw I.2.2.2.2 mw && yk_entry tb I mw 3 100000 W H hk sp nL c ret
  | none => false
noncomputable def yk_hd (tb : List yI) (I : yI) (mw : yM) (W : List Int) (H : List yH) (hk : ym_J) (h : yH) : Bool := match xm_nth xm_mtab I.1 with
  | some (_, _, _, nL, ret, _, _, _, c) => yk_head tb I mw 3 100000 W H hk nL c ret h
  | none => false
/-- does an instance keep its contract -/
noncomputable def yk_inst (tb : List yI) (I : yI) (mw : yM) (W : List Int) (H : List yH) (hk : ym_J) (sp : List Nat) : Bool := yk_en tb I mw W H hk sp && ym_all (yk_hd tb I mw W H hk) H
