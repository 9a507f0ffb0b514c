abbrev xm_C : Type := Nat → List Value → xm_H → xm_R → xm_Q → Bool
/-- may this be answered by a method of that kind -/
def xm_rok (ret : Option FieldType) (v : Value) : Bool := match ret with
  | some ty => xm_fit ty v
  | none => false
noncomputable def xm_rcv0 (cls : String) (G : xm_H) (As : List Value) : Bool := match As with
  | .ref j :: _ => (match xm_hget G j with
    | some (t, _) => (match xm_nth xm_cls t with
      | some (C, _, _) => decide (cls = C)
      | none => false)
    | none => false)
  | _ => false
def xm_rcv1 (As : List Value) : Bool := match As with
  | .ref _ :: _ => true
  | _ => false
noncomputable def xm_rcv (b : Nat) (cls : String) (G : xm_H) (As : List Value) : Bool := bif Nat.beq b 0 then xm_rcv0 cls G As else bif Nat.beq b 2 || Nat.beq b 4 then xm_rcv1 As else true
noncomputable def xm_call (call : xm_C) (mc ms a b : Nat) (st : List Value) (G : xm_H) (E : xm_R) (kc ks : Nat) (k : List Value → xm_H → xm_R → Nat → Nat → Bool) : Bool := match xm_nth xm_mtab a with
  | some (_, y, _, _, ret, n, mc1, ms1, _) =>
    bif Nat.ble (kc + mc1) mc && Nat.ble (ks + ms1) ms then
      xm_pop (bif Nat.beq b 1 || Nat.beq b 3 then n else Nat.succ n) [] st (fun As st =>
        bif Nat.ble (xm_cats st) 8 && xm_rcv b y.cls G As then
          call a As G E (fun r G E => k (match r with
            | some v => v :: st
            | none => st) G E (kc + mc1) (ks + ms1))
        else false)
    else false
  | none => false
/-- Math.max, Math.min, Math.abs -/
noncomputable def xm_math (a : Nat) (st : List Value) (k : List Value → Bool) : Bool := bif Nat.beq a 1005 then (match st with
  | .int x :: st => bif Nat.ble (xm_cats st) 8 then xm_frc (if 0 ≤ x then x else 0 - x) (fun z => k (.int z :: st)) else false
  | _ => false) else (match st with
  | .int y :: .int x :: st => bif Nat.ble (xm_cats st) 8 then (bif Nat.beq a 1003 then k (.int (if x < y then y else x) :: st) else k (.int (if y < x then y else x) :: st)) else false
  | _ => false)
/-- the strings' bytes -/
def xm_stb : List (List Nat) := xm_str.map (fun q => q.2.2.toUTF8.toList.map UInt8.toNat)
noncomputable def xm_strv (j : Nat) (G : xm_H) : Option (List Nat) := match xm_hget G j with
  | some (t, _) => bif Nat.ble 200 t && Nat.blt t 206 then xm_nth xm_stb (t - 200) else none
  | none => none
/-- String.length, String.charAt -/
noncomputable def xm_strl (a : Nat) (st : List Value) (G : xm_H) (k : List Value → Bool) : Bool := bif Nat.beq a 1006 then (match st with
  | .ref j :: st => (match xm_strv j G with
    | some bs => bif Nat.ble (xm_cats st) 8 then k (.int (Int32.ofNat (xm_len bs)) :: st) else false
    | none => false)
  | _ => false) else (match st with
  | .int x :: .ref j :: st => (match xm_strv j G with
    | some bs => bif Nat.ble (xm_cats st) 8 && decide (0 ≤ x.toInt) then (match xm_nth bs x.toInt.toNat with
      | some c => k (.int (Int32.ofNat c) :: st)
      | none => false) else false
    | none => false)
  | _ => false)
noncomputable def xm_body (call : xm_C) (full : List xm_E) (nL mc ms : Nat) (ret : Option FieldType) (Q : xm_Q) (ih : List xm_E → xm_K) (e : xm_E) (rest : List xm_E) (lv : xm_L) (st : List Value) (G : xm_H) (E : xm_R) (kc ks : Nat) : Bool :=
  match e.2.1 with
  | .iconst _ | .bipush _ | .sipush _ | .lconst _ | .aconst_null | .ldc _ | .ldc_w _ | .ldc2_w _ => ih rest lv (e.2.2.2.2.2 :: st) G E kc ks
  | .iload _ | .iload_n _ => (match xm_get lv e.2.2.1 with
    | some w => bif xm_isI w then ih rest lv (w :: st) G E kc ks else false
    | none => false)
  | .lload _ | .lload_n _ => (match xm_get lv e.2.2.1 with
    | some w => bif xm_isL w then ih rest lv (w :: st) G E kc ks else false
    | none => false)
  | .aload _ | .aload_n _ => (match xm_get lv e.2.2.1 with
    | some w => bif xm_isA w then ih rest lv (w :: st) G E kc ks else false
    | none => false)
  | .istore _ | .istore_n _ => (match st with
    | w :: st => bif xm_isI w && Nat.blt e.2.2.1 nL then ih rest (xm_set1 lv e.2.2.1 w) st G E kc ks else false
    | _ => false)
  | .lstore _ | .lstore_n _ => (match st with
    | w :: st => bif xm_isL w && Nat.blt (e.2.2.1 + 1) nL then ih rest (xm_set2 lv e.2.2.1 w) st G E kc ks else false
    | _ => false)
  | .astore _ | .astore_n _ => (match st with
    | w :: st => bif xm_isA w && Nat.blt e.2.2.1 nL then ih rest (xm_set1 lv e.2.2.1 w) st G E kc ks else false
    | _ => false)
  | .iinc _ c => (match xm_get lv e.2.2.1 with
    | some w => bif Nat.blt e.2.2.1 nL then xm_conc E w (fun E x => xm_frc (x + Int32.ofInt c) (fun z => ih rest (xm_set1 lv e.2.2.1 (.int z)) st G E kc ks)) else false
    | none => false)
  | .iadd => xm_int2 .iadd st E (fun st E => ih rest lv st G E kc ks)
  | .isub => xm_int2 .isub st E (fun st E => ih rest lv st G E kc ks)
  | .imul => xm_int2 .imul st E (fun st E => ih rest lv st G E kc ks)
  | .iand => xm_iand st E (fun st E => ih rest lv st G E kc ks)
  | .ior => xm_int2 .ior st E (fun st E => ih rest lv st G E kc ks)
  | .ixor => xm_int2 .ixor st E (fun st E => ih rest lv st G E kc ks)
  | .ishl => xm_int2 .ishl st E (fun st E => ih rest lv st G E kc ks)
  | .ishr => xm_ishr st E (fun st E => ih rest lv st G E kc ks)
  | .iushr => xm_int2 .iushr st E (fun st E => ih rest lv st G E kc ks)
  | .idiv => xm_int2 .idiv st E (fun st E => ih rest lv st G E kc ks)
  | .irem => xm_int2 .irem st E (fun st E => ih rest lv st G E kc ks)
  | .ineg => (match st with
    | w :: st => xm_conc E w (fun E x => xm_frc (-x) (fun z => ih rest lv (.int z :: st) G E kc ks))
    | _ => false)
  | .i2b => xm_i2b st E (fun st E => ih rest lv st G E kc ks)
  | .i2l => xm_i2l st (fun st => ih rest lv st G E kc ks)
  | .l2i => (match st with
    | .long x :: st => xm_frc x.toInt32 (fun z => ih rest lv (.int z :: st) G E kc ks)
    | _ => false)
  | .ladd => xm_long2 .ladd st (fun st => ih rest lv st G E kc ks)
  | .lsub => xm_long2 .lsub st (fun st => ih rest lv st G E kc ks)
  | .lmul => xm_long2 .lmul st (fun st => ih rest lv st G E kc ks)
  | .land => xm_long2 .land st (fun st => ih rest lv st G E kc ks)
  | .lor => xm_long2 .lor st (fun st => ih rest lv st G E kc ks)
  | .ldiv => xm_long2 .ldiv st (fun st => ih rest lv st G E kc ks)
  | .lrem => xm_long2 .lrem st (fun st => ih rest lv st G E kc ks)
  | .lshl => (match st with
    | .int y :: .long x :: st => ih rest lv (.long (x <<< (y.toInt64 &&& 63)) :: st) G E kc ks
    | _ => false)
  | .lshr => (match st with
    | .int y :: .long x :: st => ih rest lv (.long (x >>> (y.toInt64 &&& 63)) :: st) G E kc ks
    | _ => false)
  | .lcmp => (match st with
    | w :: u :: st => xm_cmpL E u w (fun E s => ih rest lv (.int (Int32.ofInt s) :: st) G E kc ks)
    | _ => false)
  | .dup => (match st with
    | w :: st => bif xm_cat1 w then ih rest lv (w :: w :: st) G E kc ks else false
    | _ => false)
  | .pop => (match st with
    | w :: st => bif xm_cat1 w then ih rest lv st G E kc ks else false
    | _ => false)
  | .dup2 => (match st with
    | w :: u :: st => bif xm_cat1 w && xm_cat1 u then ih rest lv (w :: u :: w :: u :: st) G E kc ks else false
    | _ => false)
  | .goto _ => ih (xm_drop e.2.2.1 full) lv st G E kc ks
  | .ifCond c _ => (match st with
    | w :: st => xm_cmpI E w (.int 0) (fun E s => bif xm_holds c s then ih (xm_drop e.2.2.1 full) lv st G E kc ks else ih rest lv st G E kc ks)
    | _ => false)
  | .if_icmp c _ => (match st with
    | w :: u :: st => xm_cmpI E u w (fun E s => bif xm_holds c s then ih (xm_drop e.2.2.1 full) lv st G E kc ks else ih rest lv st G E kc ks)
    | _ => false)
  | .ifnull _ => (match st with
    | .ref _ :: st => ih rest lv st G E kc ks
    | .null :: st => ih (xm_drop e.2.2.1 full) lv st G E kc ks
    | _ => false)
  | .ifnonnull _ => (match st with
    | .ref _ :: st => ih (xm_drop e.2.2.1 full) lv st G E kc ks
    | .null :: st => ih rest lv st G E kc ks
    | _ => false)
  | .tableswitch _ lo _ _ => (match st with
    | w :: st => xm_table lo e.2.2.1 e.2.2.2.2.1 w E (fun E t => ih (xm_drop t full) lv st G E kc ks)
    | _ => false)
  | .lookupswitch _ ps => (match st with
    | .int x :: st => ih (xm_drop (xm_look e.2.2.1 ps.toList e.2.2.2.2.1 x.toInt) full) lv st G E kc ks
    | _ => false)
  | .iaload => xm_iald st G E (fun st E => ih rest lv st G E kc ks)
  | .baload => xm_bald st G E (fun st E => ih rest lv st G E kc ks)
  | .laload => xm_ald (fun t => Nat.beq t 102) st G E (fun st E => ih rest lv st G E kc ks)
  | .aaload => xm_ald xm_isAr st G E (fun st E => ih rest lv st G E kc ks)
  | .iastore => xm_ast (fun t => Nat.beq t 100) xm_kI st G E (fun st G E => ih rest lv st G E kc ks)
  | .bastore => xm_bast st G E (fun st G E => ih rest lv st G E kc ks)
  | .lastore => xm_ast (fun t => Nat.beq t 102) xm_kL st G E (fun st G E => ih rest lv st G E kc ks)
  | .aastore => xm_aast st G E (fun st G E => ih rest lv st G E kc ks)
  | .arraylength => xm_alen st G (fun st => ih rest lv st G E kc ks)
  | .newarray _ => xm_newa e.2.2.1 st G E kc ks mc ms (fun st G E kc ks => ih rest lv st G E kc ks)
  | .anewarray _ => xm_newa e.2.2.1 st G E kc ks mc ms (fun st G E kc ks => ih rest lv st G E kc ks)
  | .new _ => (match xm_nth xm_cls e.2.2.1 with
    | some (_, _, n) => bif Nat.ble (kc + 1) mc && Nat.ble (ks + n) ms then ih rest lv (.ref G.1 :: st) (xm_push G (e.2.2.1, xm_def e.2.2.1)) E (kc + 1) (ks + n) else false
    | none => false)
  | .getfield _ => xm_getf e.2.2.1 e.2.2.2.1 st G (fun st => ih rest lv st G E kc ks)
  | .putfield _ => (match st with
    | w :: .ref j :: st => (match xm_hget G j with
      | some (t, vs) => bif Nat.beq t e.2.2.1 && (Nat.ble 7 j && (xm_fit (xm_ty t e.2.2.2.1) w && Nat.blt e.2.2.2.1 (xm_len vs))) then ih rest lv st (xm_hput G j (t, xm_put w vs e.2.2.2.1)) E kc ks else false
      | none => false)
    | _ => false)
  | .invokevirtual _ => bif Nat.beq e.2.2.1 1006 || Nat.beq e.2.2.1 1007 then xm_strl e.2.2.1 st G (fun st => ih rest lv st G E kc ks) else xm_call call mc ms e.2.2.1 0 st G E kc ks (fun st G E kc ks => ih rest lv st G E kc ks)
  | .invokestatic _ => bif Nat.beq e.2.2.1 1001 then xm_acopy st G (fun st G => ih rest lv st G E kc ks) else bif Nat.beq e.2.2.1 1003 || (Nat.beq e.2.2.1 1004 || Nat.beq e.2.2.1 1005) then xm_math e.2.2.1 st (fun st => ih rest lv st G E kc ks) else bif Nat.beq e.2.2.2.1 3 then xm_call call mc ms e.2.2.1 3 st G E kc ks (fun st G E kc ks => ih rest lv st G E kc ks) else xm_call call mc ms e.2.2.1 1 st G E kc ks (fun st G E kc ks => ih rest lv st G E kc ks)
  | .invokespecial _ => bif Nat.beq e.2.2.1 1000 then (match st with
      | .ref _ :: st => bif Nat.ble (xm_cats st) 8 then ih rest lv st G E kc ks else false
      | _ => false)
    else bif Nat.beq e.2.2.2.1 4 then xm_call call mc ms e.2.2.1 4 st G E kc ks (fun st G E kc ks => ih rest lv st G E kc ks) else xm_call call mc ms e.2.2.1 2 st G E kc ks (fun st G E kc ks => ih rest lv st G E kc ks)
  | .ireturn => (match st with
    | [w] => bif xm_isI w && (xm_rok ret w && (Nat.ble kc mc && Nat.ble ks ms)) then Q (some w) G E else false
    | _ => false)
  | .lreturn => (match st with
    | [w] => bif xm_isL w && (xm_rok ret w && (Nat.ble kc mc && Nat.ble ks ms)) then Q (some w) G E else false
    | _ => false)
  | .areturn => (match st with
    | [w] => bif xm_isA w && (xm_rok ret w && (Nat.ble kc mc && Nat.ble ks ms)) then Q (some w) G E else false
    | _ => false)
  | .return_ => (match st with
    | [] => bif ret.isNone && (Nat.ble kc mc && Nat.ble ks ms) then Q none G E else false
    | _ => false)
  | _ => false
noncomputable def xm_run (call : xm_C) (full : List xm_E) (nL mc ms : Nat) (ret : Option FieldType) (Q : xm_Q) (f : Nat) : List xm_E → xm_K :=
  Nat.rec (motive := fun _ => List xm_E → xm_K) (fun _ _ _ _ _ _ _ => false) (fun _ ih suf lv st G E kc ks => List.rec (motive := fun _ => Bool) false (fun e rest _ => xm_body call full nL mc ms ret Q ih e rest lv st G E kc ks) suf) f
/-- steps of one body -/
def xm_fuel : Nat := 1267650600228229401496703205376
noncomputable def xm_exec (d : Nat) : xm_C :=
  Nat.rec (motive := fun _ => xm_C) (fun _ _ _ _ _ => false) (fun _ ih a As G E Q => match xm_nth xm_mtab a with
    | some (_, _, _, nL, ret, _, mc, ms, c) => bif xm_nx c 0 && Nat.ble (xm_cats As) nL then xm_run ih c nL mc ms ret Q xm_fuel c (lv_args 0 As) [] G E 0 0 else false
    | none => false) d
/-- the script's cell, and the strings -/
def xm_G0 : xm_H := (7, [[some (300, []), some (200, []), some (201, []), some (202, []), some (203, []), some (204, []), some (205, [])]])
def xm_E0 : xm_R := [(-2147483648, 2147483647), (-2147483648, 2147483647), (-2147483648, 2147483647), (-2147483648, 2147483647), (-2147483648, 2147483647), (-2147483648, 2147483647), (0, 6)]
