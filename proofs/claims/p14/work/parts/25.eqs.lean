/-! the machine's steps as equations -/
section XK
variable {call : xm_C} {full rest : List xm_E} {nL mc ms : Nat} {ret : Option FieldType} {Q : xm_Q} {ih : List xm_E → xm_K} {pc a b : Nat} {ts : List Nat} {v : Value} {lv : xm_L} {st : List Value} {G : xm_H} {E : xm_R} {kc ks : Nat}
theorem xr_cons {f : Nat} {e : xm_E} : xm_run call full nL mc ms ret Q (f + 1) (e :: rest) lv st G E kc ks = xm_body call full nL mc ms ret Q (xm_run call full nL mc ms ret Q f) e rest lv st G E kc ks := rfl
theorem xe_iconst {n : Int} : xm_body call full nL mc ms ret Q ih (pc, .iconst n, a, b, ts, v) rest lv st G E kc ks = (ih rest lv (v :: st) G E kc ks) := rfl
theorem xe_bipush {n : Int} : xm_body call full nL mc ms ret Q ih (pc, .bipush n, a, b, ts, v) rest lv st G E kc ks = (ih rest lv (v :: st) G E kc ks) := rfl
theorem xe_sipush {n : Int} : xm_body call full nL mc ms ret Q ih (pc, .sipush n, a, b, ts, v) rest lv st G E kc ks = (ih rest lv (v :: st) G E kc ks) := rfl
theorem xe_lconst {n : Fin 2} : xm_body call full nL mc ms ret Q ih (pc, .lconst n, a, b, ts, v) rest lv st G E kc ks = (ih rest lv (v :: st) G E kc ks) := rfl
theorem xe_aconst_null  : xm_body call full nL mc ms ret Q ih (pc, .aconst_null, a, b, ts, v) rest lv st G E kc ks = (ih rest lv (v :: st) G E kc ks) := rfl
theorem xe_ldc {i : Nat} : xm_body call full nL mc ms ret Q ih (pc, .ldc i, a, b, ts, v) rest lv st G E kc ks = (ih rest lv (v :: st) G E kc ks) := rfl
theorem xe_ldc_w {i : Nat} : xm_body call full nL mc ms ret Q ih (pc, .ldc_w i, a, b, ts, v) rest lv st G E kc ks = (ih rest lv (v :: st) G E kc ks) := rfl
theorem xe_ldc2_w {i : Nat} : xm_body call full nL mc ms ret Q ih (pc, .ldc2_w i, a, b, ts, v) rest lv st G E kc ks = (ih rest lv (v :: st) G E kc ks) := rfl
theorem xe_iload {i : Nat} : xm_body call full nL mc ms ret Q ih (pc, .iload i, a, b, ts, v) rest lv st G E kc ks = ((match xm_get lv a with
    | some w => bif xm_isI w then ih rest lv (w :: st) G E kc ks else false
    | none => false)) := rfl
theorem xe_iload_n {i : Fin 4} : xm_body call full nL mc ms ret Q ih (pc, .iload_n i, a, b, ts, v) rest lv st G E kc ks = ((match xm_get lv a with
    | some w => bif xm_isI w then ih rest lv (w :: st) G E kc ks else false
    | none => false)) := rfl
theorem xe_lload {i : Nat} : xm_body call full nL mc ms ret Q ih (pc, .lload i, a, b, ts, v) rest lv st G E kc ks = ((match xm_get lv a with
    | some w => bif xm_isL w then ih rest lv (w :: st) G E kc ks else false
    | none => false)) := rfl
theorem xe_lload_n {i : Fin 4} : xm_body call full nL mc ms ret Q ih (pc, .lload_n i, a, b, ts, v) rest lv st G E kc ks = ((match xm_get lv a with
    | some w => bif xm_isL w then ih rest lv (w :: st) G E kc ks else false
    | none => false)) := rfl
theorem xe_aload {i : Nat} : xm_body call full nL mc ms ret Q ih (pc, .aload i, a, b, ts, v) rest lv st G E kc ks = ((match xm_get lv a with
    | some w => bif xm_isA w then ih rest lv (w :: st) G E kc ks else false
    | none => false)) := rfl
theorem xe_aload_n {i : Fin 4} : xm_body call full nL mc ms ret Q ih (pc, .aload_n i, a, b, ts, v) rest lv st G E kc ks = ((match xm_get lv a with
    | some w => bif xm_isA w then ih rest lv (w :: st) G E kc ks else false
    | none => false)) := rfl
theorem xe_istore {i : Nat} : xm_body call full nL mc ms ret Q ih (pc, .istore i, a, b, ts, v) rest lv st G E kc ks = ((match st with
    | w :: st => bif xm_isI w && Nat.blt a nL then ih rest (xm_set1 lv a w) st G E kc ks else false
    | _ => false)) := rfl
theorem xe_istore_n {i : Fin 4} : xm_body call full nL mc ms ret Q ih (pc, .istore_n i, a, b, ts, v) rest lv st G E kc ks = ((match st with
    | w :: st => bif xm_isI w && Nat.blt a nL then ih rest (xm_set1 lv a w) st G E kc ks else false
    | _ => false)) := rfl
theorem xe_lstore {i : Nat} : xm_body call full nL mc ms ret Q ih (pc, .lstore i, a, b, ts, v) rest lv st G E kc ks = ((match st with
    | w :: st => bif xm_isL w && Nat.blt (a + 1) nL then ih rest (xm_set2 lv a w) st G E kc ks else false
    | _ => false)) := rfl
theorem xe_lstore_n {i : Fin 4} : xm_body call full nL mc ms ret Q ih (pc, .lstore_n i, a, b, ts, v) rest lv st G E kc ks = ((match st with
    | w :: st => bif xm_isL w && Nat.blt (a + 1) nL then ih rest (xm_set2 lv a w) st G E kc ks else false
    | _ => false)) := rfl
theorem xe_astore {i : Nat} : xm_body call full nL mc ms ret Q ih (pc, .astore i, a, b, ts, v) rest lv st G E kc ks = ((match st with
    | w :: st => bif xm_isA w && Nat.blt a nL then ih rest (xm_set1 lv a w) st G E kc ks else false
    | _ => false)) := rfl
theorem xe_astore_n {i : Fin 4} : xm_body call full nL mc ms ret Q ih (pc, .astore_n i, a, b, ts, v) rest lv st G E kc ks = ((match st with
    | w :: st => bif xm_isA w && Nat.blt a nL then ih rest (xm_set1 lv a w) st G E kc ks else false
    | _ => false)) := rfl
theorem xe_iinc {i : Nat} {c : Int} : xm_body call full nL mc ms ret Q ih (pc, .iinc i c, a, b, ts, v) rest lv st G E kc ks = ((match xm_get lv a with
    | some w => bif Nat.blt a nL then xm_conc E w (fun E x => xm_frc (x + Int32.ofInt c) (fun z => ih rest (xm_set1 lv a (.int z)) st G E kc ks)) else false
    | none => false)) := rfl
theorem xe_iadd  : xm_body call full nL mc ms ret Q ih (pc, .iadd, a, b, ts, v) rest lv st G E kc ks = (xm_int2 .iadd st E (fun st E => ih rest lv st G E kc ks)) := rfl
theorem xe_isub  : xm_body call full nL mc ms ret Q ih (pc, .isub, a, b, ts, v) rest lv st G E kc ks = (xm_int2 .isub st E (fun st E => ih rest lv st G E kc ks)) := rfl
theorem xe_imul  : xm_body call full nL mc ms ret Q ih (pc, .imul, a, b, ts, v) rest lv st G E kc ks = (xm_int2 .imul st E (fun st E => ih rest lv st G E kc ks)) := rfl
theorem xe_iand  : xm_body call full nL mc ms ret Q ih (pc, .iand, a, b, ts, v) rest lv st G E kc ks = (xm_iand st E (fun st E => ih rest lv st G E kc ks)) := rfl
theorem xe_ior  : xm_body call full nL mc ms ret Q ih (pc, .ior, a, b, ts, v) rest lv st G E kc ks = (xm_int2 .ior st E (fun st E => ih rest lv st G E kc ks)) := rfl
theorem xe_ixor  : xm_body call full nL mc ms ret Q ih (pc, .ixor, a, b, ts, v) rest lv st G E kc ks = (xm_int2 .ixor st E (fun st E => ih rest lv st G E kc ks)) := rfl
theorem xe_ishl  : xm_body call full nL mc ms ret Q ih (pc, .ishl, a, b, ts, v) rest lv st G E kc ks = (xm_int2 .ishl st E (fun st E => ih rest lv st G E kc ks)) := rfl
theorem xe_ishr  : xm_body call full nL mc ms ret Q ih (pc, .ishr, a, b, ts, v) rest lv st G E kc ks = (xm_ishr st E (fun st E => ih rest lv st G E kc ks)) := rfl
theorem xe_iushr  : xm_body call full nL mc ms ret Q ih (pc, .iushr, a, b, ts, v) rest lv st G E kc ks = (xm_int2 .iushr st E (fun st E => ih rest lv st G E kc ks)) := rfl
theorem xe_idiv  : xm_body call full nL mc ms ret Q ih (pc, .idiv, a, b, ts, v) rest lv st G E kc ks = (xm_int2 .idiv st E (fun st E => ih rest lv st G E kc ks)) := rfl
theorem xe_irem  : xm_body call full nL mc ms ret Q ih (pc, .irem, a, b, ts, v) rest lv st G E kc ks = (xm_int2 .irem st E (fun st E => ih rest lv st G E kc ks)) := rfl
theorem xe_ineg  : xm_body call full nL mc ms ret Q ih (pc, .ineg, a, b, ts, v) rest lv st G E kc ks = ((match st with
    | w :: st => xm_conc E w (fun E x => xm_frc (-x) (fun z => ih rest lv (.int z :: st) G E kc ks))
    | _ => false)) := rfl
theorem xe_i2b  : xm_body call full nL mc ms ret Q ih (pc, .i2b, a, b, ts, v) rest lv st G E kc ks = (xm_i2b st E (fun st E => ih rest lv st G E kc ks)) := rfl
theorem xe_i2l  : xm_body call full nL mc ms ret Q ih (pc, .i2l, a, b, ts, v) rest lv st G E kc ks = (xm_i2l st (fun st => ih rest lv st G E kc ks)) := rfl
theorem xe_l2i  : xm_body call full nL mc ms ret Q ih (pc, .l2i, a, b, ts, v) rest lv st G E kc ks = ((match st with
    | .long x :: st => xm_frc x.toInt32 (fun z => ih rest lv (.int z :: st) G E kc ks)
    | _ => false)) := rfl
theorem xe_ladd  : xm_body call full nL mc ms ret Q ih (pc, .ladd, a, b, ts, v) rest lv st G E kc ks = (xm_long2 .ladd st (fun st => ih rest lv st G E kc ks)) := rfl
theorem xe_lsub  : xm_body call full nL mc ms ret Q ih (pc, .lsub, a, b, ts, v) rest lv st G E kc ks = (xm_long2 .lsub st (fun st => ih rest lv st G E kc ks)) := rfl
theorem xe_lmul  : xm_body call full nL mc ms ret Q ih (pc, .lmul, a, b, ts, v) rest lv st G E kc ks = (xm_long2 .lmul st (fun st => ih rest lv st G E kc ks)) := rfl
theorem xe_land  : xm_body call full nL mc ms ret Q ih (pc, .land, a, b, ts, v) rest lv st G E kc ks = (xm_long2 .land st (fun st => ih rest lv st G E kc ks)) := rfl
theorem xe_lor  : xm_body call full nL mc ms ret Q ih (pc, .lor, a, b, ts, v) rest lv st G E kc ks = (xm_long2 .lor st (fun st => ih rest lv st G E kc ks)) := rfl
theorem xe_ldiv  : xm_body call full nL mc ms ret Q ih (pc, .ldiv, a, b, ts, v) rest lv st G E kc ks = (xm_long2 .ldiv st (fun st => ih rest lv st G E kc ks)) := rfl
theorem xe_lrem  : xm_body call full nL mc ms ret Q ih (pc, .lrem, a, b, ts, v) rest lv st G E kc ks = (xm_long2 .lrem st (fun st => ih rest lv st G E kc ks)) := rfl
theorem xe_lshl  : xm_body call full nL mc ms ret Q ih (pc, .lshl, a, b, ts, v) rest lv st G E kc ks = ((match st with
    | .int y :: .long x :: st => ih rest lv (.long (x <<< (y.toInt64 &&& 63)) :: st) G E kc ks
    | _ => false)) := rfl
theorem xe_lshr  : xm_body call full nL mc ms ret Q ih (pc, .lshr, a, b, ts, v) rest lv st G E kc ks = ((match st with
    | .int y :: .long x :: st => ih rest lv (.long (x >>> (y.toInt64 &&& 63)) :: st) G E kc ks
    | _ => false)) := rfl
theorem xe_lcmp  : xm_body call full nL mc ms ret Q ih (pc, .lcmp, a, b, ts, v) rest lv st G E kc ks = ((match st with
    | w :: u :: st => xm_cmpL E u w (fun E s => ih rest lv (.int (Int32.ofInt s) :: st) G E kc ks)
    | _ => false)) := rfl
theorem xe_dup  : xm_body call full nL mc ms ret Q ih (pc, .dup, a, b, ts, v) rest lv st G E kc ks = ((match st with
    | w :: st => bif xm_cat1 w then ih rest lv (w :: w :: st) G E kc ks else false
    | _ => false)) := rfl
theorem xe_pop  : xm_body call full nL mc ms ret Q ih (pc, .pop, a, b, ts, v) rest lv st G E kc ks = ((match st with
    | w :: st => bif xm_cat1 w then ih rest lv st G E kc ks else false
    | _ => false)) := rfl
theorem xe_dup2  : xm_body call full nL mc ms ret Q ih (pc, .dup2, a, b, ts, v) rest lv st G E kc ks = ((match st with
    | w :: u :: st => bif xm_cat1 w && xm_cat1 u then ih rest lv (w :: u :: w :: u :: st) G E kc ks else false
    | _ => false)) := rfl
theorem xe_goto {off : Int} : xm_body call full nL mc ms ret Q ih (pc, .goto off, a, b, ts, v) rest lv st G E kc ks = (ih (xm_drop a full) lv st G E kc ks) := rfl
theorem xe_ifCond {c : Jvm.ClassFile.Cond} {off : Int} : xm_body call full nL mc ms ret Q ih (pc, .ifCond c off, a, b, ts, v) rest lv st G E kc ks = ((match st with
    | w :: st => xm_cmpI E w (.int 0) (fun E s => bif xm_holds c s then ih (xm_drop a full) lv st G E kc ks else ih rest lv st G E kc ks)
    | _ => false)) := rfl
theorem xe_if_icmp {c : Jvm.ClassFile.Cond} {off : Int} : xm_body call full nL mc ms ret Q ih (pc, .if_icmp c off, a, b, ts, v) rest lv st G E kc ks = ((match st with
    | w :: u :: st => xm_cmpI E u w (fun E s => bif xm_holds c s then ih (xm_drop a full) lv st G E kc ks else ih rest lv st G E kc ks)
    | _ => false)) := rfl
theorem xe_ifnull {off : Int} : xm_body call full nL mc ms ret Q ih (pc, .ifnull off, a, b, ts, v) rest lv st G E kc ks = ((match st with
    | .ref _ :: st => ih rest lv st G E kc ks
    | .null :: st => ih (xm_drop a full) lv st G E kc ks
    | _ => false)) := rfl
theorem xe_ifnonnull {off : Int} : xm_body call full nL mc ms ret Q ih (pc, .ifnonnull off, a, b, ts, v) rest lv st G E kc ks = ((match st with
    | .ref _ :: st => ih (xm_drop a full) lv st G E kc ks
    | .null :: st => ih rest lv st G E kc ks
    | _ => false)) := rfl
theorem xe_tableswitch {dd lo hi : Int} {offs : Array Int} : xm_body call full nL mc ms ret Q ih (pc, .tableswitch dd lo hi offs, a, b, ts, v) rest lv st G E kc ks = ((match st with
    | w :: st => xm_table lo a ts w E (fun E t => ih (xm_drop t full) lv st G E kc ks)
    | _ => false)) := rfl
theorem xe_lookupswitch {dd : Int} {ps : Array (Int × Int)} : xm_body call full nL mc ms ret Q ih (pc, .lookupswitch dd ps, a, b, ts, v) rest lv st G E kc ks = ((match st with
    | .int x :: st => ih (xm_drop (xm_look a ps.toList ts x.toInt) full) lv st G E kc ks
    | _ => false)) := rfl
theorem xe_iaload  : xm_body call full nL mc ms ret Q ih (pc, .iaload, a, b, ts, v) rest lv st G E kc ks = (xm_iald st G E (fun st E => ih rest lv st G E kc ks)) := rfl
theorem xe_baload  : xm_body call full nL mc ms ret Q ih (pc, .baload, a, b, ts, v) rest lv st G E kc ks = (xm_bald st G E (fun st E => ih rest lv st G E kc ks)) := rfl
theorem xe_laload  : xm_body call full nL mc ms ret Q ih (pc, .laload, a, b, ts, v) rest lv st G E kc ks = (xm_ald (fun t => Nat.beq t 102) st G E (fun st E => ih rest lv st G E kc ks)) := rfl
theorem xe_aaload  : xm_body call full nL mc ms ret Q ih (pc, .aaload, a, b, ts, v) rest lv st G E kc ks = (xm_ald xm_isAr st G E (fun st E => ih rest lv st G E kc ks)) := rfl
theorem xe_iastore  : xm_body call full nL mc ms ret Q ih (pc, .iastore, a, b, ts, v) rest lv st G E kc ks = (xm_ast (fun t => Nat.beq t 100) xm_kI st G E (fun st G E => ih rest lv st G E kc ks)) := rfl
theorem xe_bastore  : xm_body call full nL mc ms ret Q ih (pc, .bastore, a, b, ts, v) rest lv st G E kc ks = (xm_bast st G E (fun st G E => ih rest lv st G E kc ks)) := rfl
theorem xe_lastore  : xm_body call full nL mc ms ret Q ih (pc, .lastore, a, b, ts, v) rest lv st G E kc ks = (xm_ast (fun t => Nat.beq t 102) xm_kL st G E (fun st G E => ih rest lv st G E kc ks)) := rfl
theorem xe_aastore  : xm_body call full nL mc ms ret Q ih (pc, .aastore, a, b, ts, v) rest lv st G E kc ks = (xm_aast st G E (fun st G E => ih rest lv st G E kc ks)) := rfl
theorem xe_arraylength  : xm_body call full nL mc ms ret Q ih (pc, .arraylength, a, b, ts, v) rest lv st G E kc ks = (xm_alen st G (fun st => ih rest lv st G E kc ks)) := rfl
theorem xe_newarray {t : ArrayType} : xm_body call full nL mc ms ret Q ih (pc, .newarray t, a, b, ts, v) rest lv st G E kc ks = (xm_newa a st G E kc ks mc ms (fun st G E kc ks => ih rest lv st G E kc ks)) := rfl
theorem xe_anewarray {i : Nat} : xm_body call full nL mc ms ret Q ih (pc, .anewarray i, a, b, ts, v) rest lv st G E kc ks = (xm_newa a st G E kc ks mc ms (fun st G E kc ks => ih rest lv st G E kc ks)) := rfl
theorem xe_new {i : Nat} : xm_body call full nL mc ms ret Q ih (pc, .new i, a, b, ts, v) rest lv st G E kc ks = ((match xm_nth xm_cls a with
    | some (_, _, n) => bif Nat.ble (kc + 1) mc && Nat.ble (ks + n) ms then ih rest lv (.ref G.1 :: st) (xm_push G (a, xm_def a)) E (kc + 1) (ks + n) else false
    | none => false)) := rfl
theorem xe_getfield {i : Nat} : xm_body call full nL mc ms ret Q ih (pc, .getfield i, a, b, ts, v) rest lv st G E kc ks = (xm_getf a b st G (fun st => ih rest lv st G E kc ks)) := rfl
theorem xe_putfield {i : Nat} : xm_body call full nL mc ms ret Q ih (pc, .putfield i, a, b, ts, v) rest lv st G E kc ks = ((match st with
    | w :: .ref j :: st => (match xm_hget G j with
      | some (t, vs) => bif Nat.beq t a && (Nat.ble 7 j && (xm_fit (xm_ty t b) w && Nat.blt b (xm_len vs))) then ih rest lv st (xm_hput G j (t, xm_put w vs b)) E kc ks else false
      | none => false)
    | _ => false)) := rfl
theorem xe_invokevirtual {i : Nat} : xm_body call full nL mc ms ret Q ih (pc, .invokevirtual i, a, b, ts, v) rest lv st G E kc ks = (bif Nat.beq a 1006 || Nat.beq a 1007 then xm_strl a st G (fun st => ih rest lv st G E kc ks) else xm_call call mc ms a 0 st G E kc ks (fun st G E kc ks => ih rest lv st G E kc ks)) := rfl
theorem xe_invokestatic {i : Nat} : xm_body call full nL mc ms ret Q ih (pc, .invokestatic i, a, b, ts, v) rest lv st G E kc ks = (bif Nat.beq a 1001 then xm_acopy st G (fun st G => ih rest lv st G E kc ks) else bif Nat.beq a 1003 || (Nat.beq a 1004 || Nat.beq a 1005) then xm_math a st (fun st => ih rest lv st G E kc ks) else bif Nat.beq b 3 then xm_call call mc ms a 3 st G E kc ks (fun st G E kc ks => ih rest lv st G E kc ks) else xm_call call mc ms a 1 st G E kc ks (fun st G E kc ks => ih rest lv st G E kc ks)) := rfl
theorem xe_invokespecial {i : Nat} : xm_body call full nL mc ms ret Q ih (pc, .invokespecial i, a, b, ts, v) rest lv st G E kc ks = (bif Nat.beq a 1000 then (match st with
      | .ref _ :: st => bif Nat.ble (xm_cats st) 8 then ih rest lv st G E kc ks else false
      | _ => false)
    else bif Nat.beq b 4 then xm_call call mc ms a 4 st G E kc ks (fun st G E kc ks => ih rest lv st G E kc ks) else xm_call call mc ms a 2 st G E kc ks (fun st G E kc ks => ih rest lv st G E kc ks)) := rfl
theorem xe_ireturn  : xm_body call full nL mc ms ret Q ih (pc, .ireturn, a, b, ts, v) rest lv st G E kc ks = ((match st with
    | [w] => bif xm_isI w && (xm_rok ret w && (Nat.ble kc mc && Nat.ble ks ms)) then Q (some w) G E else false
    | _ => false)) := rfl
theorem xe_lreturn  : xm_body call full nL mc ms ret Q ih (pc, .lreturn, a, b, ts, v) rest lv st G E kc ks = ((match st with
    | [w] => bif xm_isL w && (xm_rok ret w && (Nat.ble kc mc && Nat.ble ks ms)) then Q (some w) G E else false
    | _ => false)) := rfl
theorem xe_areturn  : xm_body call full nL mc ms ret Q ih (pc, .areturn, a, b, ts, v) rest lv st G E kc ks = ((match st with
    | [w] => bif xm_isA w && (xm_rok ret w && (Nat.ble kc mc && Nat.ble ks ms)) then Q (some w) G E else false
    | _ => false)) := rfl
theorem xe_return_  : xm_body call full nL mc ms ret Q ih (pc, .return_, a, b, ts, v) rest lv st G E kc ks = ((match st with
    | [] => bif ret.isNone && (Nat.ble kc mc && Nat.ble ks ms) then Q none G E else false
    | _ => false)) := rfl
end XK
