noncomputable def xm_putf (a b : Nat) (st : List Value) (G : xm_H) (k : List Value → xm_H → Bool) : Bool := match st with
    | w :: .ref j :: st => (match xm_hget G j with
      | some (t, vs) => bif Nat.beq t a && (Nat.ble 7 j && (xm_fit (xm_ty t b) w && Nat.blt b (xm_len vs))) then k st (xm_hput G j (t, xm_put w vs b)) else false
      | none => false)
    | _ => false
section XM
variable {call : xm_C} {nL mc ms : Nat} {ret : Option FieldType} {Q : xm_Q} {f : Nat} {lv : xm_L} {st : List Value} {G : xm_H} {E : xm_R} {kc ks : Nat}
theorem xz_60_0 : xm_run call xm_c60 nL mc ms ret Q (f + 1) (xm_drop 0 xm_c60) lv st G E kc ks = ((match xm_get lv 0 with
    | some w => bif xm_isA w then xm_run call xm_c60 nL mc ms ret Q f (xm_drop 1 xm_c60) lv (w :: st) G E kc ks else false
    | none => false)) := rfl
theorem xz_60_1 : xm_run call xm_c60 nL mc ms ret Q (f + 1) (xm_drop 1 xm_c60) lv st G E kc ks = (xm_getf 6 3 st G (fun st => xm_run call xm_c60 nL mc ms ret Q f (xm_drop 2 xm_c60) lv st G E kc ks)) := rfl
theorem xz_60_2 : xm_run call xm_c60 nL mc ms ret Q (f + 1) (xm_drop 2 xm_c60) lv st G E kc ks = ((match xm_get lv 0 with
    | some w => bif xm_isA w then xm_run call xm_c60 nL mc ms ret Q f (xm_drop 3 xm_c60) lv (w :: st) G E kc ks else false
    | none => false)) := rfl
theorem xz_60_3 : xm_run call xm_c60 nL mc ms ret Q (f + 1) (xm_drop 3 xm_c60) lv st G E kc ks = (xm_getf 6 0 st G (fun st => xm_run call xm_c60 nL mc ms ret Q f (xm_drop 4 xm_c60) lv st G E kc ks)) := rfl
theorem xz_60_4 : xm_run call xm_c60 nL mc ms ret Q (f + 1) (xm_drop 4 xm_c60) lv st G E kc ks = (xm_alen st G (fun st => xm_run call xm_c60 nL mc ms ret Q f (xm_drop 5 xm_c60) lv st G E kc ks)) := rfl
theorem xz_60_5 : xm_run call xm_c60 nL mc ms ret Q (f + 1) (xm_drop 5 xm_c60) lv st G E kc ks = ((match st with
    | w :: u :: st => xm_cmpI E u w (fun E s => bif xm_holds .ge s then xm_run call xm_c60 nL mc ms ret Q f (xm_drop 22 xm_c60) lv st G E kc ks else xm_run call xm_c60 nL mc ms ret Q f (xm_drop 6 xm_c60) lv st G E kc ks)
    | _ => false)) := rfl
theorem xz_60_6 : xm_run call xm_c60 nL mc ms ret Q (f + 1) (xm_drop 6 xm_c60) lv st G E kc ks = ((match xm_get lv 0 with
    | some w => bif xm_isA w then xm_run call xm_c60 nL mc ms ret Q f (xm_drop 7 xm_c60) lv (w :: st) G E kc ks else false
    | none => false)) := rfl
theorem xz_60_7 : xm_run call xm_c60 nL mc ms ret Q (f + 1) (xm_drop 7 xm_c60) lv st G E kc ks = (xm_getf 6 0 st G (fun st => xm_run call xm_c60 nL mc ms ret Q f (xm_drop 8 xm_c60) lv st G E kc ks)) := rfl
theorem xz_60_8 : xm_run call xm_c60 nL mc ms ret Q (f + 1) (xm_drop 8 xm_c60) lv st G E kc ks = ((match xm_get lv 0 with
    | some w => bif xm_isA w then xm_run call xm_c60 nL mc ms ret Q f (xm_drop 9 xm_c60) lv (w :: st) G E kc ks else false
    | none => false)) := rfl
theorem xz_60_9 : xm_run call xm_c60 nL mc ms ret Q (f + 1) (xm_drop 9 xm_c60) lv st G E kc ks = (xm_getf 6 3 st G (fun st => xm_run call xm_c60 nL mc ms ret Q f (xm_drop 10 xm_c60) lv st G E kc ks)) := rfl
theorem xz_60_10 : xm_run call xm_c60 nL mc ms ret Q (f + 1) (xm_drop 10 xm_c60) lv st G E kc ks = ((match xm_get lv 2 with
    | some w => bif xm_isI w then xm_run call xm_c60 nL mc ms ret Q f (xm_drop 11 xm_c60) lv (w :: st) G E kc ks else false
    | none => false)) := rfl
theorem xz_60_11 : xm_run call xm_c60 nL mc ms ret Q (f + 1) (xm_drop 11 xm_c60) lv st G E kc ks = (xm_run call xm_c60 nL mc ms ret Q f (xm_drop 12 xm_c60) lv ((.int 16) :: st) G E kc ks) := rfl
theorem xz_60_12 : xm_run call xm_c60 nL mc ms ret Q (f + 1) (xm_drop 12 xm_c60) lv st G E kc ks = (xm_int2 .imul st E (fun st E => xm_run call xm_c60 nL mc ms ret Q f (xm_drop 13 xm_c60) lv st G E kc ks)) := rfl
theorem xz_60_13 : xm_run call xm_c60 nL mc ms ret Q (f + 1) (xm_drop 13 xm_c60) lv st G E kc ks = ((match xm_get lv 1 with
    | some w => bif xm_isI w then xm_run call xm_c60 nL mc ms ret Q f (xm_drop 14 xm_c60) lv (w :: st) G E kc ks else false
    | none => false)) := rfl
theorem xz_60_14 : xm_run call xm_c60 nL mc ms ret Q (f + 1) (xm_drop 14 xm_c60) lv st G E kc ks = (xm_int2 .iadd st E (fun st E => xm_run call xm_c60 nL mc ms ret Q f (xm_drop 15 xm_c60) lv st G E kc ks)) := rfl
theorem xz_60_15 : xm_run call xm_c60 nL mc ms ret Q (f + 1) (xm_drop 15 xm_c60) lv st G E kc ks = (xm_ast (fun t => Nat.beq t 100) xm_kI st G E (fun st G E => xm_run call xm_c60 nL mc ms ret Q f (xm_drop 16 xm_c60) lv st G E kc ks)) := rfl
theorem xz_60_16 : xm_run call xm_c60 nL mc ms ret Q (f + 1) (xm_drop 16 xm_c60) lv st G E kc ks = ((match xm_get lv 0 with
    | some w => bif xm_isA w then xm_run call xm_c60 nL mc ms ret Q f (xm_drop 17 xm_c60) lv (w :: st) G E kc ks else false
    | none => false)) := rfl
theorem xz_60_17 : xm_run call xm_c60 nL mc ms ret Q (f + 1) (xm_drop 17 xm_c60) lv st G E kc ks = ((match st with
    | w :: st => bif xm_cat1 w then xm_run call xm_c60 nL mc ms ret Q f (xm_drop 18 xm_c60) lv (w :: w :: st) G E kc ks else false
    | _ => false)) := rfl
theorem xz_60_18 : xm_run call xm_c60 nL mc ms ret Q (f + 1) (xm_drop 18 xm_c60) lv st G E kc ks = (xm_getf 6 3 st G (fun st => xm_run call xm_c60 nL mc ms ret Q f (xm_drop 19 xm_c60) lv st G E kc ks)) := rfl
theorem xz_60_19 : xm_run call xm_c60 nL mc ms ret Q (f + 1) (xm_drop 19 xm_c60) lv st G E kc ks = (xm_run call xm_c60 nL mc ms ret Q f (xm_drop 20 xm_c60) lv ((.int 1) :: st) G E kc ks) := rfl
theorem xz_60_20 : xm_run call xm_c60 nL mc ms ret Q (f + 1) (xm_drop 20 xm_c60) lv st G E kc ks = (xm_int2 .iadd st E (fun st E => xm_run call xm_c60 nL mc ms ret Q f (xm_drop 21 xm_c60) lv st G E kc ks)) := rfl
theorem xz_60_21 : xm_run call xm_c60 nL mc ms ret Q (f + 1) (xm_drop 21 xm_c60) lv st G E kc ks = (xm_putf 6 3 st G (fun st G => xm_run call xm_c60 nL mc ms ret Q f (xm_drop 22 xm_c60) lv st G E kc ks)) := rfl
theorem xz_60_22 : xm_run call xm_c60 nL mc ms ret Q (f + 1) (xm_drop 22 xm_c60) lv st G E kc ks = ((match st with
    | [] => bif ret.isNone && (Nat.ble kc mc && Nat.ble ks ms) then Q none G E else false
    | _ => false)) := rfl
theorem xz_80_0 : xm_run call xm_c80 nL mc ms ret Q (f + 1) (xm_drop 0 xm_c80) lv st G E kc ks = ((match xm_get lv 0 with
    | some w => bif xm_isA w then xm_run call xm_c80 nL mc ms ret Q f (xm_drop 1 xm_c80) lv (w :: st) G E kc ks else false
    | none => false)) := rfl
theorem xz_80_1 : xm_run call xm_c80 nL mc ms ret Q (f + 1) (xm_drop 1 xm_c80) lv st G E kc ks = (xm_run call xm_c80 nL mc ms ret Q f (xm_drop 2 xm_c80) lv ((.int 0) :: st) G E kc ks) := rfl
theorem xz_80_2 : xm_run call xm_c80 nL mc ms ret Q (f + 1) (xm_drop 2 xm_c80) lv st G E kc ks = (xm_putf 9 5 st G (fun st G => xm_run call xm_c80 nL mc ms ret Q f (xm_drop 3 xm_c80) lv st G E kc ks)) := rfl
theorem xz_80_3 : xm_run call xm_c80 nL mc ms ret Q (f + 1) (xm_drop 3 xm_c80) lv st G E kc ks = ((match xm_get lv 0 with
    | some w => bif xm_isA w then xm_run call xm_c80 nL mc ms ret Q f (xm_drop 4 xm_c80) lv (w :: st) G E kc ks else false
    | none => false)) := rfl
theorem xz_80_4 : xm_run call xm_c80 nL mc ms ret Q (f + 1) (xm_drop 4 xm_c80) lv st G E kc ks = (xm_run call xm_c80 nL mc ms ret Q f (xm_drop 5 xm_c80) lv ((.int 0) :: st) G E kc ks) := rfl
theorem xz_80_5 : xm_run call xm_c80 nL mc ms ret Q (f + 1) (xm_drop 5 xm_c80) lv st G E kc ks = (xm_putf 9 3 st G (fun st G => xm_run call xm_c80 nL mc ms ret Q f (xm_drop 6 xm_c80) lv st G E kc ks)) := rfl
theorem xz_80_6 : xm_run call xm_c80 nL mc ms ret Q (f + 1) (xm_drop 6 xm_c80) lv st G E kc ks = ((match xm_get lv 0 with
    | some w => bif xm_isA w then xm_run call xm_c80 nL mc ms ret Q f (xm_drop 7 xm_c80) lv (w :: st) G E kc ks else false
    | none => false)) := rfl
theorem xz_80_7 : xm_run call xm_c80 nL mc ms ret Q (f + 1) (xm_drop 7 xm_c80) lv st G E kc ks = (xm_run call xm_c80 nL mc ms ret Q f (xm_drop 8 xm_c80) lv ((.int 0) :: st) G E kc ks) := rfl
theorem xz_80_8 : xm_run call xm_c80 nL mc ms ret Q (f + 1) (xm_drop 8 xm_c80) lv st G E kc ks = (xm_putf 9 4 st G (fun st G => xm_run call xm_c80 nL mc ms ret Q f (xm_drop 9 xm_c80) lv st G E kc ks)) := rfl
theorem xz_80_9 : xm_run call xm_c80 nL mc ms ret Q (f + 1) (xm_drop 9 xm_c80) lv st G E kc ks = ((match xm_get lv 0 with
    | some w => bif xm_isA w then xm_run call xm_c80 nL mc ms ret Q f (xm_drop 10 xm_c80) lv (w :: st) G E kc ks else false
    | none => false)) := rfl
theorem xz_80_10 : xm_run call xm_c80 nL mc ms ret Q (f + 1) (xm_drop 10 xm_c80) lv st G E kc ks = (bif Nat.beq 82 1006 || Nat.beq 82 1007 then xm_strl 82 st G (fun st => xm_run call xm_c80 nL mc ms ret Q f (xm_drop 11 xm_c80) lv st G E kc ks) else xm_call call mc ms 82 0 st G E kc ks (fun st G E kc ks => xm_run call xm_c80 nL mc ms ret Q f (xm_drop 11 xm_c80) lv st G E kc ks)) := rfl
theorem xz_80_11 : xm_run call xm_c80 nL mc ms ret Q (f + 1) (xm_drop 11 xm_c80) lv st G E kc ks = ((match st with
    | [] => bif ret.isNone && (Nat.ble kc mc && Nat.ble ks ms) then Q none G E else false
    | _ => false)) := rfl
theorem xz_81_0 : xm_run call xm_c81 nL mc ms ret Q (f + 1) (xm_drop 0 xm_c81) lv st G E kc ks = ((match xm_get lv 0 with
    | some w => bif xm_isA w then xm_run call xm_c81 nL mc ms ret Q f (xm_drop 1 xm_c81) lv (w :: st) G E kc ks else false
    | none => false)) := rfl
theorem xz_81_1 : xm_run call xm_c81 nL mc ms ret Q (f + 1) (xm_drop 1 xm_c81) lv st G E kc ks = (xm_getf 9 5 st G (fun st => xm_run call xm_c81 nL mc ms ret Q f (xm_drop 2 xm_c81) lv st G E kc ks)) := rfl
theorem xz_81_2 : xm_run call xm_c81 nL mc ms ret Q (f + 1) (xm_drop 2 xm_c81) lv st G E kc ks = ((match st with
    | w :: st => xm_cmpI E w (.int 0) (fun E s => bif xm_holds .ne s then xm_run call xm_c81 nL mc ms ret Q f (xm_drop 13 xm_c81) lv st G E kc ks else xm_run call xm_c81 nL mc ms ret Q f (xm_drop 3 xm_c81) lv st G E kc ks)
    | _ => false)) := rfl
theorem xz_81_3 : xm_run call xm_c81 nL mc ms ret Q (f + 1) (xm_drop 3 xm_c81) lv st G E kc ks = ((match xm_get lv 0 with
    | some w => bif xm_isA w then xm_run call xm_c81 nL mc ms ret Q f (xm_drop 4 xm_c81) lv (w :: st) G E kc ks else false
    | none => false)) := rfl
theorem xz_81_4 : xm_run call xm_c81 nL mc ms ret Q (f + 1) (xm_drop 4 xm_c81) lv st G E kc ks = (xm_run call xm_c81 nL mc ms ret Q f (xm_drop 5 xm_c81) lv ((.int 1) :: st) G E kc ks) := rfl
theorem xz_81_5 : xm_run call xm_c81 nL mc ms ret Q (f + 1) (xm_drop 5 xm_c81) lv st G E kc ks = (xm_run call xm_c81 nL mc ms ret Q f (xm_drop 6 xm_c81) lv ((.int 8) :: st) G E kc ks) := rfl
theorem xz_81_6 : xm_run call xm_c81 nL mc ms ret Q (f + 1) (xm_drop 6 xm_c81) lv st G E kc ks = ((match xm_get lv 0 with
    | some w => bif xm_isA w then xm_run call xm_c81 nL mc ms ret Q f (xm_drop 7 xm_c81) lv (w :: st) G E kc ks else false
    | none => false)) := rfl
theorem xz_81_7 : xm_run call xm_c81 nL mc ms ret Q (f + 1) (xm_drop 7 xm_c81) lv st G E kc ks = (xm_getf 9 3 st G (fun st => xm_run call xm_c81 nL mc ms ret Q f (xm_drop 8 xm_c81) lv st G E kc ks)) := rfl
theorem xz_81_8 : xm_run call xm_c81 nL mc ms ret Q (f + 1) (xm_drop 8 xm_c81) lv st G E kc ks = (xm_int2 .imul st E (fun st E => xm_run call xm_c81 nL mc ms ret Q f (xm_drop 9 xm_c81) lv st G E kc ks)) := rfl
theorem xz_81_9 : xm_run call xm_c81 nL mc ms ret Q (f + 1) (xm_drop 9 xm_c81) lv st G E kc ks = (xm_int2 .iadd st E (fun st E => xm_run call xm_c81 nL mc ms ret Q f (xm_drop 10 xm_c81) lv st G E kc ks)) := rfl
theorem xz_81_10 : xm_run call xm_c81 nL mc ms ret Q (f + 1) (xm_drop 10 xm_c81) lv st G E kc ks = ((match xm_get lv 1 with
    | some w => bif xm_isI w then xm_run call xm_c81 nL mc ms ret Q f (xm_drop 11 xm_c81) lv (w :: st) G E kc ks else false
    | none => false)) := rfl
theorem xz_81_11 : xm_run call xm_c81 nL mc ms ret Q (f + 1) (xm_drop 11 xm_c81) lv st G E kc ks = (xm_int2 .iadd st E (fun st E => xm_run call xm_c81 nL mc ms ret Q f (xm_drop 12 xm_c81) lv st G E kc ks)) := rfl
theorem xz_81_12 : xm_run call xm_c81 nL mc ms ret Q (f + 1) (xm_drop 12 xm_c81) lv st G E kc ks = (xm_putf 9 5 st G (fun st G => xm_run call xm_c81 nL mc ms ret Q f (xm_drop 13 xm_c81) lv st G E kc ks)) := rfl
theorem xz_81_13 : xm_run call xm_c81 nL mc ms ret Q (f + 1) (xm_drop 13 xm_c81) lv st G E kc ks = ((match xm_get lv 0 with
    | some w => bif xm_isA w then xm_run call xm_c81 nL mc ms ret Q f (xm_drop 14 xm_c81) lv (w :: st) G E kc ks else false
    | none => false)) := rfl
theorem xz_81_14 : xm_run call xm_c81 nL mc ms ret Q (f + 1) (xm_drop 14 xm_c81) lv st G E kc ks = (xm_run call xm_c81 nL mc ms ret Q f (xm_drop 15 xm_c81) lv ((.int (-2)) :: st) G E kc ks) := rfl
theorem xz_81_15 : xm_run call xm_c81 nL mc ms ret Q (f + 1) (xm_drop 15 xm_c81) lv st G E kc ks = (xm_putf 9 2 st G (fun st G => xm_run call xm_c81 nL mc ms ret Q f (xm_drop 16 xm_c81) lv st G E kc ks)) := rfl
theorem xz_81_16 : xm_run call xm_c81 nL mc ms ret Q (f + 1) (xm_drop 16 xm_c81) lv st G E kc ks = ((match xm_get lv 0 with
    | some w => bif xm_isA w then xm_run call xm_c81 nL mc ms ret Q f (xm_drop 17 xm_c81) lv (w :: st) G E kc ks else false
    | none => false)) := rfl
theorem xz_81_17 : xm_run call xm_c81 nL mc ms ret Q (f + 1) (xm_drop 17 xm_c81) lv st G E kc ks = (xm_run call xm_c81 nL mc ms ret Q f (xm_drop 18 xm_c81) lv ((.int 0) :: st) G E kc ks) := rfl
theorem xz_81_18 : xm_run call xm_c81 nL mc ms ret Q (f + 1) (xm_drop 18 xm_c81) lv st G E kc ks = (xm_putf 9 4 st G (fun st G => xm_run call xm_c81 nL mc ms ret Q f (xm_drop 19 xm_c81) lv st G E kc ks)) := rfl
theorem xz_81_19 : xm_run call xm_c81 nL mc ms ret Q (f + 1) (xm_drop 19 xm_c81) lv st G E kc ks = ((match st with
    | [] => bif ret.isNone && (Nat.ble kc mc && Nat.ble ks ms) then Q none G E else false
    | _ => false)) := rfl
theorem xz_82_0 : xm_run call xm_c82 nL mc ms ret Q (f + 1) (xm_drop 0 xm_c82) lv st G E kc ks = ((match xm_get lv 0 with
    | some w => bif xm_isA w then xm_run call xm_c82 nL mc ms ret Q f (xm_drop 1 xm_c82) lv (w :: st) G E kc ks else false
    | none => false)) := rfl
theorem xz_82_1 : xm_run call xm_c82 nL mc ms ret Q (f + 1) (xm_drop 1 xm_c82) lv st G E kc ks = (xm_getf 9 5 st G (fun st => xm_run call xm_c82 nL mc ms ret Q f (xm_drop 2 xm_c82) lv st G E kc ks)) := rfl
theorem xz_82_2 : xm_run call xm_c82 nL mc ms ret Q (f + 1) (xm_drop 2 xm_c82) lv st G E kc ks = ((match st with
    | w :: st => xm_cmpI E w (.int 0) (fun E s => bif xm_holds .eq s then xm_run call xm_c82 nL mc ms ret Q f (xm_drop 4 xm_c82) lv st G E kc ks else xm_run call xm_c82 nL mc ms ret Q f (xm_drop 3 xm_c82) lv st G E kc ks)
    | _ => false)) := rfl
theorem xz_82_3 : xm_run call xm_c82 nL mc ms ret Q (f + 1) (xm_drop 3 xm_c82) lv st G E kc ks = ((match st with
    | [] => bif ret.isNone && (Nat.ble kc mc && Nat.ble ks ms) then Q none G E else false
    | _ => false)) := rfl
theorem xz_82_4 : xm_run call xm_c82 nL mc ms ret Q (f + 1) (xm_drop 4 xm_c82) lv st G E kc ks = ((match xm_get lv 0 with
    | some w => bif xm_isA w then xm_run call xm_c82 nL mc ms ret Q f (xm_drop 5 xm_c82) lv (w :: st) G E kc ks else false
    | none => false)) := rfl
theorem xz_82_5 : xm_run call xm_c82 nL mc ms ret Q (f + 1) (xm_drop 5 xm_c82) lv st G E kc ks = ((match st with
    | w :: st => bif xm_cat1 w then xm_run call xm_c82 nL mc ms ret Q f (xm_drop 6 xm_c82) lv (w :: w :: st) G E kc ks else false
    | _ => false)) := rfl
theorem xz_82_6 : xm_run call xm_c82 nL mc ms ret Q (f + 1) (xm_drop 6 xm_c82) lv st G E kc ks = (xm_getf 9 3 st G (fun st => xm_run call xm_c82 nL mc ms ret Q f (xm_drop 7 xm_c82) lv st G E kc ks)) := rfl
theorem xz_82_7 : xm_run call xm_c82 nL mc ms ret Q (f + 1) (xm_drop 7 xm_c82) lv st G E kc ks = ((match xm_get lv 0 with
    | some w => bif xm_isA w then xm_run call xm_c82 nL mc ms ret Q f (xm_drop 8 xm_c82) lv (w :: st) G E kc ks else false
    | none => false)) := rfl
theorem xz_82_8 : xm_run call xm_c82 nL mc ms ret Q (f + 1) (xm_drop 8 xm_c82) lv st G E kc ks = (xm_getf 9 4 st G (fun st => xm_run call xm_c82 nL mc ms ret Q f (xm_drop 9 xm_c82) lv st G E kc ks)) := rfl
theorem xz_82_9 : xm_run call xm_c82 nL mc ms ret Q (f + 1) (xm_drop 9 xm_c82) lv st G E kc ks = (xm_int2 .iadd st E (fun st E => xm_run call xm_c82 nL mc ms ret Q f (xm_drop 10 xm_c82) lv st G E kc ks)) := rfl
theorem xz_82_10 : xm_run call xm_c82 nL mc ms ret Q (f + 1) (xm_drop 10 xm_c82) lv st G E kc ks = (xm_putf 9 3 st G (fun st G => xm_run call xm_c82 nL mc ms ret Q f (xm_drop 11 xm_c82) lv st G E kc ks)) := rfl
theorem xz_82_11 : xm_run call xm_c82 nL mc ms ret Q (f + 1) (xm_drop 11 xm_c82) lv st G E kc ks = ((match xm_get lv 0 with
    | some w => bif xm_isA w then xm_run call xm_c82 nL mc ms ret Q f (xm_drop 12 xm_c82) lv (w :: st) G E kc ks else false
    | none => false)) := rfl
theorem xz_82_12 : xm_run call xm_c82 nL mc ms ret Q (f + 1) (xm_drop 12 xm_c82) lv st G E kc ks = (xm_getf 9 3 st G (fun st => xm_run call xm_c82 nL mc ms ret Q f (xm_drop 13 xm_c82) lv st G E kc ks)) := rfl
theorem xz_82_13 : xm_run call xm_c82 nL mc ms ret Q (f + 1) (xm_drop 13 xm_c82) lv st G E kc ks = ((match xm_get lv 0 with
    | some w => bif xm_isA w then xm_run call xm_c82 nL mc ms ret Q f (xm_drop 14 xm_c82) lv (w :: st) G E kc ks else false
    | none => false)) := rfl
theorem xz_82_14 : xm_run call xm_c82 nL mc ms ret Q (f + 1) (xm_drop 14 xm_c82) lv st G E kc ks = (xm_getf 9 1 st G (fun st => xm_run call xm_c82 nL mc ms ret Q f (xm_drop 15 xm_c82) lv st G E kc ks)) := rfl
theorem xz_82_15 : xm_run call xm_c82 nL mc ms ret Q (f + 1) (xm_drop 15 xm_c82) lv st G E kc ks = ((match st with
    | w :: u :: st => xm_cmpI E u w (fun E s => bif xm_holds .ge s then xm_run call xm_c82 nL mc ms ret Q f (xm_drop 30 xm_c82) lv st G E kc ks else xm_run call xm_c82 nL mc ms ret Q f (xm_drop 16 xm_c82) lv st G E kc ks)
    | _ => false)) := rfl
theorem xz_82_16 : xm_run call xm_c82 nL mc ms ret Q (f + 1) (xm_drop 16 xm_c82) lv st G E kc ks = ((match xm_get lv 0 with
    | some w => bif xm_isA w then xm_run call xm_c82 nL mc ms ret Q f (xm_drop 17 xm_c82) lv (w :: st) G E kc ks else false
    | none => false)) := rfl
theorem xz_82_17 : xm_run call xm_c82 nL mc ms ret Q (f + 1) (xm_drop 17 xm_c82) lv st G E kc ks = (xm_getf 9 0 st G (fun st => xm_run call xm_c82 nL mc ms ret Q f (xm_drop 18 xm_c82) lv st G E kc ks)) := rfl
theorem xz_82_18 : xm_run call xm_c82 nL mc ms ret Q (f + 1) (xm_drop 18 xm_c82) lv st G E kc ks = ((match xm_get lv 0 with
    | some w => bif xm_isA w then xm_run call xm_c82 nL mc ms ret Q f (xm_drop 19 xm_c82) lv (w :: st) G E kc ks else false
    | none => false)) := rfl
theorem xz_82_19 : xm_run call xm_c82 nL mc ms ret Q (f + 1) (xm_drop 19 xm_c82) lv st G E kc ks = (xm_getf 9 3 st G (fun st => xm_run call xm_c82 nL mc ms ret Q f (xm_drop 20 xm_c82) lv st G E kc ks)) := rfl
theorem xz_82_20 : xm_run call xm_c82 nL mc ms ret Q (f + 1) (xm_drop 20 xm_c82) lv st G E kc ks = (xm_bald st G E (fun st E => xm_run call xm_c82 nL mc ms ret Q f (xm_drop 21 xm_c82) lv st G E kc ks)) := rfl
theorem xz_82_21 : xm_run call xm_c82 nL mc ms ret Q (f + 1) (xm_drop 21 xm_c82) lv st G E kc ks = (xm_run call xm_c82 nL mc ms ret Q f (xm_drop 22 xm_c82) lv ((.int 32) :: st) G E kc ks) := rfl
theorem xz_82_22 : xm_run call xm_c82 nL mc ms ret Q (f + 1) (xm_drop 22 xm_c82) lv st G E kc ks = ((match st with
    | w :: u :: st => xm_cmpI E u w (fun E s => bif xm_holds .ne s then xm_run call xm_c82 nL mc ms ret Q f (xm_drop 30 xm_c82) lv st G E kc ks else xm_run call xm_c82 nL mc ms ret Q f (xm_drop 23 xm_c82) lv st G E kc ks)
    | _ => false)) := rfl
theorem xz_82_23 : xm_run call xm_c82 nL mc ms ret Q (f + 1) (xm_drop 23 xm_c82) lv st G E kc ks = ((match xm_get lv 0 with
    | some w => bif xm_isA w then xm_run call xm_c82 nL mc ms ret Q f (xm_drop 24 xm_c82) lv (w :: st) G E kc ks else false
    | none => false)) := rfl
theorem xz_82_24 : xm_run call xm_c82 nL mc ms ret Q (f + 1) (xm_drop 24 xm_c82) lv st G E kc ks = ((match st with
    | w :: st => bif xm_cat1 w then xm_run call xm_c82 nL mc ms ret Q f (xm_drop 25 xm_c82) lv (w :: w :: st) G E kc ks else false
    | _ => false)) := rfl
theorem xz_82_25 : xm_run call xm_c82 nL mc ms ret Q (f + 1) (xm_drop 25 xm_c82) lv st G E kc ks = (xm_getf 9 3 st G (fun st => xm_run call xm_c82 nL mc ms ret Q f (xm_drop 26 xm_c82) lv st G E kc ks)) := rfl
theorem xz_82_26 : xm_run call xm_c82 nL mc ms ret Q (f + 1) (xm_drop 26 xm_c82) lv st G E kc ks = (xm_run call xm_c82 nL mc ms ret Q f (xm_drop 27 xm_c82) lv ((.int 1) :: st) G E kc ks) := rfl
theorem xz_82_27 : xm_run call xm_c82 nL mc ms ret Q (f + 1) (xm_drop 27 xm_c82) lv st G E kc ks = (xm_int2 .iadd st E (fun st E => xm_run call xm_c82 nL mc ms ret Q f (xm_drop 28 xm_c82) lv st G E kc ks)) := rfl
theorem xz_82_28 : xm_run call xm_c82 nL mc ms ret Q (f + 1) (xm_drop 28 xm_c82) lv st G E kc ks = (xm_putf 9 3 st G (fun st G => xm_run call xm_c82 nL mc ms ret Q f (xm_drop 29 xm_c82) lv st G E kc ks)) := rfl
theorem xz_82_29 : xm_run call xm_c82 nL mc ms ret Q (f + 1) (xm_drop 29 xm_c82) lv st G E kc ks = (xm_run call xm_c82 nL mc ms ret Q f (xm_drop 11 xm_c82) lv st G E kc ks) := rfl
theorem xz_82_30 : xm_run call xm_c82 nL mc ms ret Q (f + 1) (xm_drop 30 xm_c82) lv st G E kc ks = ((match xm_get lv 0 with
    | some w => bif xm_isA w then xm_run call xm_c82 nL mc ms ret Q f (xm_drop 31 xm_c82) lv (w :: st) G E kc ks else false
    | none => false)) := rfl
theorem xz_82_31 : xm_run call xm_c82 nL mc ms ret Q (f + 1) (xm_drop 31 xm_c82) lv st G E kc ks = ((match xm_get lv 0 with
    | some w => bif xm_isA w then xm_run call xm_c82 nL mc ms ret Q f (xm_drop 32 xm_c82) lv (w :: st) G E kc ks else false
    | none => false)) := rfl
theorem xz_82_32 : xm_run call xm_c82 nL mc ms ret Q (f + 1) (xm_drop 32 xm_c82) lv st G E kc ks = (xm_getf 9 3 st G (fun st => xm_run call xm_c82 nL mc ms ret Q f (xm_drop 33 xm_c82) lv st G E kc ks)) := rfl
theorem xz_82_33 : xm_run call xm_c82 nL mc ms ret Q (f + 1) (xm_drop 33 xm_c82) lv st G E kc ks = ((match xm_get lv 0 with
    | some w => bif xm_isA w then xm_run call xm_c82 nL mc ms ret Q f (xm_drop 34 xm_c82) lv (w :: st) G E kc ks else false
    | none => false)) := rfl
theorem xz_82_34 : xm_run call xm_c82 nL mc ms ret Q (f + 1) (xm_drop 34 xm_c82) lv st G E kc ks = (xm_getf 9 1 st G (fun st => xm_run call xm_c82 nL mc ms ret Q f (xm_drop 35 xm_c82) lv st G E kc ks)) := rfl
theorem xz_82_35 : xm_run call xm_c82 nL mc ms ret Q (f + 1) (xm_drop 35 xm_c82) lv st G E kc ks = ((match st with
    | w :: u :: st => xm_cmpI E u w (fun E s => bif xm_holds .ge s then xm_run call xm_c82 nL mc ms ret Q f (xm_drop 38 xm_c82) lv st G E kc ks else xm_run call xm_c82 nL mc ms ret Q f (xm_drop 36 xm_c82) lv st G E kc ks)
    | _ => false)) := rfl
theorem xz_82_36 : xm_run call xm_c82 nL mc ms ret Q (f + 1) (xm_drop 36 xm_c82) lv st G E kc ks = (xm_run call xm_c82 nL mc ms ret Q f (xm_drop 37 xm_c82) lv ((.int 1) :: st) G E kc ks) := rfl
theorem xz_82_37 : xm_run call xm_c82 nL mc ms ret Q (f + 1) (xm_drop 37 xm_c82) lv st G E kc ks = (xm_run call xm_c82 nL mc ms ret Q f (xm_drop 39 xm_c82) lv st G E kc ks) := rfl
theorem xz_82_38 : xm_run call xm_c82 nL mc ms ret Q (f + 1) (xm_drop 38 xm_c82) lv st G E kc ks = (xm_run call xm_c82 nL mc ms ret Q f (xm_drop 39 xm_c82) lv ((.int 0) :: st) G E kc ks) := rfl
theorem xz_82_39 : xm_run call xm_c82 nL mc ms ret Q (f + 1) (xm_drop 39 xm_c82) lv st G E kc ks = (xm_putf 9 4 st G (fun st G => xm_run call xm_c82 nL mc ms ret Q f (xm_drop 40 xm_c82) lv st G E kc ks)) := rfl
theorem xz_82_40 : xm_run call xm_c82 nL mc ms ret Q (f + 1) (xm_drop 40 xm_c82) lv st G E kc ks = ((match xm_get lv 0 with
    | some w => bif xm_isA w then xm_run call xm_c82 nL mc ms ret Q f (xm_drop 41 xm_c82) lv (w :: st) G E kc ks else false
    | none => false)) := rfl
theorem xz_82_41 : xm_run call xm_c82 nL mc ms ret Q (f + 1) (xm_drop 41 xm_c82) lv st G E kc ks = (xm_getf 9 4 st G (fun st => xm_run call xm_c82 nL mc ms ret Q f (xm_drop 42 xm_c82) lv st G E kc ks)) := rfl
theorem xz_82_42 : xm_run call xm_c82 nL mc ms ret Q (f + 1) (xm_drop 42 xm_c82) lv st G E kc ks = (xm_run call xm_c82 nL mc ms ret Q f (xm_drop 43 xm_c82) lv ((.int 1) :: st) G E kc ks) := rfl
theorem xz_82_43 : xm_run call xm_c82 nL mc ms ret Q (f + 1) (xm_drop 43 xm_c82) lv st G E kc ks = ((match st with
    | w :: u :: st => xm_cmpI E u w (fun E s => bif xm_holds .ne s then xm_run call xm_c82 nL mc ms ret Q f (xm_drop 52 xm_c82) lv st G E kc ks else xm_run call xm_c82 nL mc ms ret Q f (xm_drop 44 xm_c82) lv st G E kc ks)
    | _ => false)) := rfl
theorem xz_82_44 : xm_run call xm_c82 nL mc ms ret Q (f + 1) (xm_drop 44 xm_c82) lv st G E kc ks = ((match xm_get lv 0 with
    | some w => bif xm_isA w then xm_run call xm_c82 nL mc ms ret Q f (xm_drop 45 xm_c82) lv (w :: st) G E kc ks else false
    | none => false)) := rfl
theorem xz_82_45 : xm_run call xm_c82 nL mc ms ret Q (f + 1) (xm_drop 45 xm_c82) lv st G E kc ks = (xm_getf 9 0 st G (fun st => xm_run call xm_c82 nL mc ms ret Q f (xm_drop 46 xm_c82) lv st G E kc ks)) := rfl
theorem xz_82_46 : xm_run call xm_c82 nL mc ms ret Q (f + 1) (xm_drop 46 xm_c82) lv st G E kc ks = ((match xm_get lv 0 with
    | some w => bif xm_isA w then xm_run call xm_c82 nL mc ms ret Q f (xm_drop 47 xm_c82) lv (w :: st) G E kc ks else false
    | none => false)) := rfl
theorem xz_82_47 : xm_run call xm_c82 nL mc ms ret Q (f + 1) (xm_drop 47 xm_c82) lv st G E kc ks = (xm_getf 9 3 st G (fun st => xm_run call xm_c82 nL mc ms ret Q f (xm_drop 48 xm_c82) lv st G E kc ks)) := rfl
theorem xz_82_48 : xm_run call xm_c82 nL mc ms ret Q (f + 1) (xm_drop 48 xm_c82) lv st G E kc ks = (xm_bald st G E (fun st E => xm_run call xm_c82 nL mc ms ret Q f (xm_drop 49 xm_c82) lv st G E kc ks)) := rfl
theorem xz_82_49 : xm_run call xm_c82 nL mc ms ret Q (f + 1) (xm_drop 49 xm_c82) lv st G E kc ks = (xm_run call xm_c82 nL mc ms ret Q f (xm_drop 50 xm_c82) lv ((.int 255) :: st) G E kc ks) := rfl
theorem xz_82_50 : xm_run call xm_c82 nL mc ms ret Q (f + 1) (xm_drop 50 xm_c82) lv st G E kc ks = (xm_iand st E (fun st E => xm_run call xm_c82 nL mc ms ret Q f (xm_drop 51 xm_c82) lv st G E kc ks)) := rfl
theorem xz_82_51 : xm_run call xm_c82 nL mc ms ret Q (f + 1) (xm_drop 51 xm_c82) lv st G E kc ks = (xm_run call xm_c82 nL mc ms ret Q f (xm_drop 53 xm_c82) lv st G E kc ks) := rfl
theorem xz_82_52 : xm_run call xm_c82 nL mc ms ret Q (f + 1) (xm_drop 52 xm_c82) lv st G E kc ks = (xm_run call xm_c82 nL mc ms ret Q f (xm_drop 53 xm_c82) lv ((.int (-1)) :: st) G E kc ks) := rfl
theorem xz_82_53 : xm_run call xm_c82 nL mc ms ret Q (f + 1) (xm_drop 53 xm_c82) lv st G E kc ks = ((match st with
    | w :: st => bif xm_isI w && Nat.blt 1 nL then xm_run call xm_c82 nL mc ms ret Q f (xm_drop 54 xm_c82) (xm_set1 lv 1 w) st G E kc ks else false
    | _ => false)) := rfl
theorem xz_82_54 : xm_run call xm_c82 nL mc ms ret Q (f + 1) (xm_drop 54 xm_c82) lv st G E kc ks = ((match xm_get lv 0 with
    | some w => bif xm_isA w then xm_run call xm_c82 nL mc ms ret Q f (xm_drop 55 xm_c82) lv (w :: st) G E kc ks else false
    | none => false)) := rfl
theorem xz_82_55 : xm_run call xm_c82 nL mc ms ret Q (f + 1) (xm_drop 55 xm_c82) lv st G E kc ks = (xm_getf 9 3 st G (fun st => xm_run call xm_c82 nL mc ms ret Q f (xm_drop 56 xm_c82) lv st G E kc ks)) := rfl
theorem xz_82_56 : xm_run call xm_c82 nL mc ms ret Q (f + 1) (xm_drop 56 xm_c82) lv st G E kc ks = (xm_run call xm_c82 nL mc ms ret Q f (xm_drop 57 xm_c82) lv ((.int 1) :: st) G E kc ks) := rfl
theorem xz_82_57 : xm_run call xm_c82 nL mc ms ret Q (f + 1) (xm_drop 57 xm_c82) lv st G E kc ks = (xm_int2 .iadd st E (fun st E => xm_run call xm_c82 nL mc ms ret Q f (xm_drop 58 xm_c82) lv st G E kc ks)) := rfl
theorem xz_82_58 : xm_run call xm_c82 nL mc ms ret Q (f + 1) (xm_drop 58 xm_c82) lv st G E kc ks = ((match xm_get lv 0 with
    | some w => bif xm_isA w then xm_run call xm_c82 nL mc ms ret Q f (xm_drop 59 xm_c82) lv (w :: st) G E kc ks else false
    | none => false)) := rfl
theorem xz_82_59 : xm_run call xm_c82 nL mc ms ret Q (f + 1) (xm_drop 59 xm_c82) lv st G E kc ks = (xm_getf 9 1 st G (fun st => xm_run call xm_c82 nL mc ms ret Q f (xm_drop 60 xm_c82) lv st G E kc ks)) := rfl
theorem xz_82_60 : xm_run call xm_c82 nL mc ms ret Q (f + 1) (xm_drop 60 xm_c82) lv st G E kc ks = ((match st with
    | w :: u :: st => xm_cmpI E u w (fun E s => bif xm_holds .ge s then xm_run call xm_c82 nL mc ms ret Q f (xm_drop 69 xm_c82) lv st G E kc ks else xm_run call xm_c82 nL mc ms ret Q f (xm_drop 61 xm_c82) lv st G E kc ks)
    | _ => false)) := rfl
theorem xz_82_61 : xm_run call xm_c82 nL mc ms ret Q (f + 1) (xm_drop 61 xm_c82) lv st G E kc ks = ((match xm_get lv 0 with
    | some w => bif xm_isA w then xm_run call xm_c82 nL mc ms ret Q f (xm_drop 62 xm_c82) lv (w :: st) G E kc ks else false
    | none => false)) := rfl
theorem xz_82_62 : xm_run call xm_c82 nL mc ms ret Q (f + 1) (xm_drop 62 xm_c82) lv st G E kc ks = (xm_getf 9 0 st G (fun st => xm_run call xm_c82 nL mc ms ret Q f (xm_drop 63 xm_c82) lv st G E kc ks)) := rfl
theorem xz_82_63 : xm_run call xm_c82 nL mc ms ret Q (f + 1) (xm_drop 63 xm_c82) lv st G E kc ks = ((match xm_get lv 0 with
    | some w => bif xm_isA w then xm_run call xm_c82 nL mc ms ret Q f (xm_drop 64 xm_c82) lv (w :: st) G E kc ks else false
    | none => false)) := rfl
theorem xz_82_64 : xm_run call xm_c82 nL mc ms ret Q (f + 1) (xm_drop 64 xm_c82) lv st G E kc ks = (xm_getf 9 3 st G (fun st => xm_run call xm_c82 nL mc ms ret Q f (xm_drop 65 xm_c82) lv st G E kc ks)) := rfl
theorem xz_82_65 : xm_run call xm_c82 nL mc ms ret Q (f + 1) (xm_drop 65 xm_c82) lv st G E kc ks = (xm_run call xm_c82 nL mc ms ret Q f (xm_drop 66 xm_c82) lv ((.int 1) :: st) G E kc ks) := rfl
theorem xz_82_66 : xm_run call xm_c82 nL mc ms ret Q (f + 1) (xm_drop 66 xm_c82) lv st G E kc ks = (xm_int2 .iadd st E (fun st E => xm_run call xm_c82 nL mc ms ret Q f (xm_drop 67 xm_c82) lv st G E kc ks)) := rfl
theorem xz_82_67 : xm_run call xm_c82 nL mc ms ret Q (f + 1) (xm_drop 67 xm_c82) lv st G E kc ks = (xm_bald st G E (fun st E => xm_run call xm_c82 nL mc ms ret Q f (xm_drop 68 xm_c82) lv st G E kc ks)) := rfl
theorem xz_82_68 : xm_run call xm_c82 nL mc ms ret Q (f + 1) (xm_drop 68 xm_c82) lv st G E kc ks = (xm_run call xm_c82 nL mc ms ret Q f (xm_drop 70 xm_c82) lv st G E kc ks) := rfl
theorem xz_82_69 : xm_run call xm_c82 nL mc ms ret Q (f + 1) (xm_drop 69 xm_c82) lv st G E kc ks = (xm_run call xm_c82 nL mc ms ret Q f (xm_drop 70 xm_c82) lv ((.int (-1)) :: st) G E kc ks) := rfl
theorem xz_82_70 : xm_run call xm_c82 nL mc ms ret Q (f + 1) (xm_drop 70 xm_c82) lv st G E kc ks = ((match st with
    | w :: st => bif xm_isI w && Nat.blt 2 nL then xm_run call xm_c82 nL mc ms ret Q f (xm_drop 71 xm_c82) (xm_set1 lv 2 w) st G E kc ks else false
    | _ => false)) := rfl
theorem xz_82_71 : xm_run call xm_c82 nL mc ms ret Q (f + 1) (xm_drop 71 xm_c82) lv st G E kc ks = ((match xm_get lv 1 with
    | some w => bif xm_isI w then xm_run call xm_c82 nL mc ms ret Q f (xm_drop 72 xm_c82) lv (w :: st) G E kc ks else false
    | none => false)) := rfl
theorem xz_82_72 : xm_run call xm_c82 nL mc ms ret Q (f + 1) (xm_drop 72 xm_c82) lv st G E kc ks = (xm_run call xm_c82 nL mc ms ret Q f (xm_drop 73 xm_c82) lv ((.int 97) :: st) G E kc ks) := rfl
theorem xz_82_73 : xm_run call xm_c82 nL mc ms ret Q (f + 1) (xm_drop 73 xm_c82) lv st G E kc ks = ((match st with
    | w :: u :: st => xm_cmpI E u w (fun E s => bif xm_holds .lt s then xm_run call xm_c82 nL mc ms ret Q f (xm_drop 115 xm_c82) lv st G E kc ks else xm_run call xm_c82 nL mc ms ret Q f (xm_drop 74 xm_c82) lv st G E kc ks)
    | _ => false)) := rfl
theorem xz_82_74 : xm_run call xm_c82 nL mc ms ret Q (f + 1) (xm_drop 74 xm_c82) lv st G E kc ks = ((match xm_get lv 1 with
    | some w => bif xm_isI w then xm_run call xm_c82 nL mc ms ret Q f (xm_drop 75 xm_c82) lv (w :: st) G E kc ks else false
    | none => false)) := rfl
theorem xz_82_75 : xm_run call xm_c82 nL mc ms ret Q (f + 1) (xm_drop 75 xm_c82) lv st G E kc ks = (xm_run call xm_c82 nL mc ms ret Q f (xm_drop 76 xm_c82) lv ((.int 122) :: st) G E kc ks) := rfl
theorem xz_82_76 : xm_run call xm_c82 nL mc ms ret Q (f + 1) (xm_drop 76 xm_c82) lv st G E kc ks = ((match st with
    | w :: u :: st => xm_cmpI E u w (fun E s => bif xm_holds .gt s then xm_run call xm_c82 nL mc ms ret Q f (xm_drop 115 xm_c82) lv st G E kc ks else xm_run call xm_c82 nL mc ms ret Q f (xm_drop 77 xm_c82) lv st G E kc ks)
    | _ => false)) := rfl
theorem xz_82_77 : xm_run call xm_c82 nL mc ms ret Q (f + 1) (xm_drop 77 xm_c82) lv st G E kc ks = ((match xm_get lv 0 with
    | some w => bif xm_isA w then xm_run call xm_c82 nL mc ms ret Q f (xm_drop 78 xm_c82) lv (w :: st) G E kc ks else false
    | none => false)) := rfl
theorem xz_82_78 : xm_run call xm_c82 nL mc ms ret Q (f + 1) (xm_drop 78 xm_c82) lv st G E kc ks = (xm_run call xm_c82 nL mc ms ret Q f (xm_drop 79 xm_c82) lv ((.int 97) :: st) G E kc ks) := rfl
theorem xz_82_79 : xm_run call xm_c82 nL mc ms ret Q (f + 1) (xm_drop 79 xm_c82) lv st G E kc ks = (xm_putf 9 2 st G (fun st G => xm_run call xm_c82 nL mc ms ret Q f (xm_drop 80 xm_c82) lv st G E kc ks)) := rfl
theorem xz_82_80 : xm_run call xm_c82 nL mc ms ret Q (f + 1) (xm_drop 80 xm_c82) lv st G E kc ks = ((match xm_get lv 0 with
    | some w => bif xm_isA w then xm_run call xm_c82 nL mc ms ret Q f (xm_drop 81 xm_c82) lv (w :: st) G E kc ks else false
    | none => false)) := rfl
theorem xz_82_81 : xm_run call xm_c82 nL mc ms ret Q (f + 1) (xm_drop 81 xm_c82) lv st G E kc ks = (xm_getf 9 3 st G (fun st => xm_run call xm_c82 nL mc ms ret Q f (xm_drop 82 xm_c82) lv st G E kc ks)) := rfl
theorem xz_82_82 : xm_run call xm_c82 nL mc ms ret Q (f + 1) (xm_drop 82 xm_c82) lv st G E kc ks = ((match xm_get lv 0 with
    | some w => bif xm_isA w then xm_run call xm_c82 nL mc ms ret Q f (xm_drop 83 xm_c82) lv (w :: st) G E kc ks else false
    | none => false)) := rfl
theorem xz_82_83 : xm_run call xm_c82 nL mc ms ret Q (f + 1) (xm_drop 83 xm_c82) lv st G E kc ks = (xm_getf 9 4 st G (fun st => xm_run call xm_c82 nL mc ms ret Q f (xm_drop 84 xm_c82) lv st G E kc ks)) := rfl
theorem xz_82_84 : xm_run call xm_c82 nL mc ms ret Q (f + 1) (xm_drop 84 xm_c82) lv st G E kc ks = (xm_int2 .iadd st E (fun st E => xm_run call xm_c82 nL mc ms ret Q f (xm_drop 85 xm_c82) lv st G E kc ks)) := rfl
theorem xz_82_85 : xm_run call xm_c82 nL mc ms ret Q (f + 1) (xm_drop 85 xm_c82) lv st G E kc ks = ((match xm_get lv 0 with
    | some w => bif xm_isA w then xm_run call xm_c82 nL mc ms ret Q f (xm_drop 86 xm_c82) lv (w :: st) G E kc ks else false
    | none => false)) := rfl
theorem xz_82_86 : xm_run call xm_c82 nL mc ms ret Q (f + 1) (xm_drop 86 xm_c82) lv st G E kc ks = (xm_getf 9 1 st G (fun st => xm_run call xm_c82 nL mc ms ret Q f (xm_drop 87 xm_c82) lv st G E kc ks)) := rfl
theorem xz_82_87 : xm_run call xm_c82 nL mc ms ret Q (f + 1) (xm_drop 87 xm_c82) lv st G E kc ks = ((match st with
    | w :: u :: st => xm_cmpI E u w (fun E s => bif xm_holds .ge s then xm_run call xm_c82 nL mc ms ret Q f (xm_drop 183 xm_c82) lv st G E kc ks else xm_run call xm_c82 nL mc ms ret Q f (xm_drop 88 xm_c82) lv st G E kc ks)
    | _ => false)) := rfl
theorem xz_82_88 : xm_run call xm_c82 nL mc ms ret Q (f + 1) (xm_drop 88 xm_c82) lv st G E kc ks = ((match xm_get lv 0 with
    | some w => bif xm_isA w then xm_run call xm_c82 nL mc ms ret Q f (xm_drop 89 xm_c82) lv (w :: st) G E kc ks else false
    | none => false)) := rfl
theorem xz_82_89 : xm_run call xm_c82 nL mc ms ret Q (f + 1) (xm_drop 89 xm_c82) lv st G E kc ks = (xm_getf 9 0 st G (fun st => xm_run call xm_c82 nL mc ms ret Q f (xm_drop 90 xm_c82) lv st G E kc ks)) := rfl
theorem xz_82_90 : xm_run call xm_c82 nL mc ms ret Q (f + 1) (xm_drop 90 xm_c82) lv st G E kc ks = ((match xm_get lv 0 with
    | some w => bif xm_isA w then xm_run call xm_c82 nL mc ms ret Q f (xm_drop 91 xm_c82) lv (w :: st) G E kc ks else false
    | none => false)) := rfl
theorem xz_82_91 : xm_run call xm_c82 nL mc ms ret Q (f + 1) (xm_drop 91 xm_c82) lv st G E kc ks = (xm_getf 9 3 st G (fun st => xm_run call xm_c82 nL mc ms ret Q f (xm_drop 92 xm_c82) lv st G E kc ks)) := rfl
theorem xz_82_92 : xm_run call xm_c82 nL mc ms ret Q (f + 1) (xm_drop 92 xm_c82) lv st G E kc ks = ((match xm_get lv 0 with
    | some w => bif xm_isA w then xm_run call xm_c82 nL mc ms ret Q f (xm_drop 93 xm_c82) lv (w :: st) G E kc ks else false
    | none => false)) := rfl
theorem xz_82_93 : xm_run call xm_c82 nL mc ms ret Q (f + 1) (xm_drop 93 xm_c82) lv st G E kc ks = (xm_getf 9 4 st G (fun st => xm_run call xm_c82 nL mc ms ret Q f (xm_drop 94 xm_c82) lv st G E kc ks)) := rfl
theorem xz_82_94 : xm_run call xm_c82 nL mc ms ret Q (f + 1) (xm_drop 94 xm_c82) lv st G E kc ks = (xm_int2 .iadd st E (fun st E => xm_run call xm_c82 nL mc ms ret Q f (xm_drop 95 xm_c82) lv st G E kc ks)) := rfl
theorem xz_82_95 : xm_run call xm_c82 nL mc ms ret Q (f + 1) (xm_drop 95 xm_c82) lv st G E kc ks = (xm_bald st G E (fun st E => xm_run call xm_c82 nL mc ms ret Q f (xm_drop 96 xm_c82) lv st G E kc ks)) := rfl
theorem xz_82_96 : xm_run call xm_c82 nL mc ms ret Q (f + 1) (xm_drop 96 xm_c82) lv st G E kc ks = (xm_run call xm_c82 nL mc ms ret Q f (xm_drop 97 xm_c82) lv ((.int 97) :: st) G E kc ks) := rfl
theorem xz_82_97 : xm_run call xm_c82 nL mc ms ret Q (f + 1) (xm_drop 97 xm_c82) lv st G E kc ks = ((match st with
    | w :: u :: st => xm_cmpI E u w (fun E s => bif xm_holds .lt s then xm_run call xm_c82 nL mc ms ret Q f (xm_drop 183 xm_c82) lv st G E kc ks else xm_run call xm_c82 nL mc ms ret Q f (xm_drop 98 xm_c82) lv st G E kc ks)
    | _ => false)) := rfl
theorem xz_82_98 : xm_run call xm_c82 nL mc ms ret Q (f + 1) (xm_drop 98 xm_c82) lv st G E kc ks = ((match xm_get lv 0 with
    | some w => bif xm_isA w then xm_run call xm_c82 nL mc ms ret Q f (xm_drop 99 xm_c82) lv (w :: st) G E kc ks else false
    | none => false)) := rfl
theorem xz_82_99 : xm_run call xm_c82 nL mc ms ret Q (f + 1) (xm_drop 99 xm_c82) lv st G E kc ks = (xm_getf 9 0 st G (fun st => xm_run call xm_c82 nL mc ms ret Q f (xm_drop 100 xm_c82) lv st G E kc ks)) := rfl
theorem xz_82_100 : xm_run call xm_c82 nL mc ms ret Q (f + 1) (xm_drop 100 xm_c82) lv st G E kc ks = ((match xm_get lv 0 with
    | some w => bif xm_isA w then xm_run call xm_c82 nL mc ms ret Q f (xm_drop 101 xm_c82) lv (w :: st) G E kc ks else false
    | none => false)) := rfl
theorem xz_82_101 : xm_run call xm_c82 nL mc ms ret Q (f + 1) (xm_drop 101 xm_c82) lv st G E kc ks = (xm_getf 9 3 st G (fun st => xm_run call xm_c82 nL mc ms ret Q f (xm_drop 102 xm_c82) lv st G E kc ks)) := rfl
theorem xz_82_102 : xm_run call xm_c82 nL mc ms ret Q (f + 1) (xm_drop 102 xm_c82) lv st G E kc ks = ((match xm_get lv 0 with
    | some w => bif xm_isA w then xm_run call xm_c82 nL mc ms ret Q f (xm_drop 103 xm_c82) lv (w :: st) G E kc ks else false
    | none => false)) := rfl
theorem xz_82_103 : xm_run call xm_c82 nL mc ms ret Q (f + 1) (xm_drop 103 xm_c82) lv st G E kc ks = (xm_getf 9 4 st G (fun st => xm_run call xm_c82 nL mc ms ret Q f (xm_drop 104 xm_c82) lv st G E kc ks)) := rfl
theorem xz_82_104 : xm_run call xm_c82 nL mc ms ret Q (f + 1) (xm_drop 104 xm_c82) lv st G E kc ks = (xm_int2 .iadd st E (fun st E => xm_run call xm_c82 nL mc ms ret Q f (xm_drop 105 xm_c82) lv st G E kc ks)) := rfl
theorem xz_82_105 : xm_run call xm_c82 nL mc ms ret Q (f + 1) (xm_drop 105 xm_c82) lv st G E kc ks = (xm_bald st G E (fun st E => xm_run call xm_c82 nL mc ms ret Q f (xm_drop 106 xm_c82) lv st G E kc ks)) := rfl
theorem xz_82_106 : xm_run call xm_c82 nL mc ms ret Q (f + 1) (xm_drop 106 xm_c82) lv st G E kc ks = (xm_run call xm_c82 nL mc ms ret Q f (xm_drop 107 xm_c82) lv ((.int 122) :: st) G E kc ks) := rfl
theorem xz_82_107 : xm_run call xm_c82 nL mc ms ret Q (f + 1) (xm_drop 107 xm_c82) lv st G E kc ks = ((match st with
    | w :: u :: st => xm_cmpI E u w (fun E s => bif xm_holds .gt s then xm_run call xm_c82 nL mc ms ret Q f (xm_drop 183 xm_c82) lv st G E kc ks else xm_run call xm_c82 nL mc ms ret Q f (xm_drop 108 xm_c82) lv st G E kc ks)
    | _ => false)) := rfl
theorem xz_82_108 : xm_run call xm_c82 nL mc ms ret Q (f + 1) (xm_drop 108 xm_c82) lv st G E kc ks = ((match xm_get lv 0 with
    | some w => bif xm_isA w then xm_run call xm_c82 nL mc ms ret Q f (xm_drop 109 xm_c82) lv (w :: st) G E kc ks else false
    | none => false)) := rfl
theorem xz_82_109 : xm_run call xm_c82 nL mc ms ret Q (f + 1) (xm_drop 109 xm_c82) lv st G E kc ks = ((match st with
    | w :: st => bif xm_cat1 w then xm_run call xm_c82 nL mc ms ret Q f (xm_drop 110 xm_c82) lv (w :: w :: st) G E kc ks else false
    | _ => false)) := rfl
theorem xz_82_110 : xm_run call xm_c82 nL mc ms ret Q (f + 1) (xm_drop 110 xm_c82) lv st G E kc ks = (xm_getf 9 4 st G (fun st => xm_run call xm_c82 nL mc ms ret Q f (xm_drop 111 xm_c82) lv st G E kc ks)) := rfl
theorem xz_82_111 : xm_run call xm_c82 nL mc ms ret Q (f + 1) (xm_drop 111 xm_c82) lv st G E kc ks = (xm_run call xm_c82 nL mc ms ret Q f (xm_drop 112 xm_c82) lv ((.int 1) :: st) G E kc ks) := rfl
theorem xz_82_112 : xm_run call xm_c82 nL mc ms ret Q (f + 1) (xm_drop 112 xm_c82) lv st G E kc ks = (xm_int2 .iadd st E (fun st E => xm_run call xm_c82 nL mc ms ret Q f (xm_drop 113 xm_c82) lv st G E kc ks)) := rfl
theorem xz_82_113 : xm_run call xm_c82 nL mc ms ret Q (f + 1) (xm_drop 113 xm_c82) lv st G E kc ks = (xm_putf 9 4 st G (fun st G => xm_run call xm_c82 nL mc ms ret Q f (xm_drop 114 xm_c82) lv st G E kc ks)) := rfl
theorem xz_82_114 : xm_run call xm_c82 nL mc ms ret Q (f + 1) (xm_drop 114 xm_c82) lv st G E kc ks = (xm_run call xm_c82 nL mc ms ret Q f (xm_drop 80 xm_c82) lv st G E kc ks) := rfl
theorem xz_82_115 : xm_run call xm_c82 nL mc ms ret Q (f + 1) (xm_drop 115 xm_c82) lv st G E kc ks = ((match xm_get lv 1 with
    | some w => bif xm_isI w then xm_run call xm_c82 nL mc ms ret Q f (xm_drop 116 xm_c82) lv (w :: st) G E kc ks else false
    | none => false)) := rfl
theorem xz_82_116 : xm_run call xm_c82 nL mc ms ret Q (f + 1) (xm_drop 116 xm_c82) lv st G E kc ks = (xm_run call xm_c82 nL mc ms ret Q f (xm_drop 117 xm_c82) lv ((.int 48) :: st) G E kc ks) := rfl
theorem xz_82_117 : xm_run call xm_c82 nL mc ms ret Q (f + 1) (xm_drop 117 xm_c82) lv st G E kc ks = ((match st with
    | w :: u :: st => xm_cmpI E u w (fun E s => bif xm_holds .lt s then xm_run call xm_c82 nL mc ms ret Q f (xm_drop 159 xm_c82) lv st G E kc ks else xm_run call xm_c82 nL mc ms ret Q f (xm_drop 118 xm_c82) lv st G E kc ks)
    | _ => false)) := rfl
theorem xz_82_118 : xm_run call xm_c82 nL mc ms ret Q (f + 1) (xm_drop 118 xm_c82) lv st G E kc ks = ((match xm_get lv 1 with
    | some w => bif xm_isI w then xm_run call xm_c82 nL mc ms ret Q f (xm_drop 119 xm_c82) lv (w :: st) G E kc ks else false
    | none => false)) := rfl
theorem xz_82_119 : xm_run call xm_c82 nL mc ms ret Q (f + 1) (xm_drop 119 xm_c82) lv st G E kc ks = (xm_run call xm_c82 nL mc ms ret Q f (xm_drop 120 xm_c82) lv ((.int 57) :: st) G E kc ks) := rfl
theorem xz_82_120 : xm_run call xm_c82 nL mc ms ret Q (f + 1) (xm_drop 120 xm_c82) lv st G E kc ks = ((match st with
    | w :: u :: st => xm_cmpI E u w (fun E s => bif xm_holds .gt s then xm_run call xm_c82 nL mc ms ret Q f (xm_drop 159 xm_c82) lv st G E kc ks else xm_run call xm_c82 nL mc ms ret Q f (xm_drop 121 xm_c82) lv st G E kc ks)
    | _ => false)) := rfl
theorem xz_82_121 : xm_run call xm_c82 nL mc ms ret Q (f + 1) (xm_drop 121 xm_c82) lv st G E kc ks = ((match xm_get lv 0 with
    | some w => bif xm_isA w then xm_run call xm_c82 nL mc ms ret Q f (xm_drop 122 xm_c82) lv (w :: st) G E kc ks else false
    | none => false)) := rfl
theorem xz_82_122 : xm_run call xm_c82 nL mc ms ret Q (f + 1) (xm_drop 122 xm_c82) lv st G E kc ks = (xm_run call xm_c82 nL mc ms ret Q f (xm_drop 123 xm_c82) lv ((.int 48) :: st) G E kc ks) := rfl
theorem xz_82_123 : xm_run call xm_c82 nL mc ms ret Q (f + 1) (xm_drop 123 xm_c82) lv st G E kc ks = (xm_putf 9 2 st G (fun st G => xm_run call xm_c82 nL mc ms ret Q f (xm_drop 124 xm_c82) lv st G E kc ks)) := rfl
theorem xz_82_124 : xm_run call xm_c82 nL mc ms ret Q (f + 1) (xm_drop 124 xm_c82) lv st G E kc ks = ((match xm_get lv 0 with
    | some w => bif xm_isA w then xm_run call xm_c82 nL mc ms ret Q f (xm_drop 125 xm_c82) lv (w :: st) G E kc ks else false
    | none => false)) := rfl
theorem xz_82_125 : xm_run call xm_c82 nL mc ms ret Q (f + 1) (xm_drop 125 xm_c82) lv st G E kc ks = (xm_getf 9 3 st G (fun st => xm_run call xm_c82 nL mc ms ret Q f (xm_drop 126 xm_c82) lv st G E kc ks)) := rfl
theorem xz_82_126 : xm_run call xm_c82 nL mc ms ret Q (f + 1) (xm_drop 126 xm_c82) lv st G E kc ks = ((match xm_get lv 0 with
    | some w => bif xm_isA w then xm_run call xm_c82 nL mc ms ret Q f (xm_drop 127 xm_c82) lv (w :: st) G E kc ks else false
    | none => false)) := rfl
theorem xz_82_127 : xm_run call xm_c82 nL mc ms ret Q (f + 1) (xm_drop 127 xm_c82) lv st G E kc ks = (xm_getf 9 4 st G (fun st => xm_run call xm_c82 nL mc ms ret Q f (xm_drop 128 xm_c82) lv st G E kc ks)) := rfl
theorem xz_82_128 : xm_run call xm_c82 nL mc ms ret Q (f + 1) (xm_drop 128 xm_c82) lv st G E kc ks = (xm_int2 .iadd st E (fun st E => xm_run call xm_c82 nL mc ms ret Q f (xm_drop 129 xm_c82) lv st G E kc ks)) := rfl
theorem xz_82_129 : xm_run call xm_c82 nL mc ms ret Q (f + 1) (xm_drop 129 xm_c82) lv st G E kc ks = ((match xm_get lv 0 with
    | some w => bif xm_isA w then xm_run call xm_c82 nL mc ms ret Q f (xm_drop 130 xm_c82) lv (w :: st) G E kc ks else false
    | none => false)) := rfl
theorem xz_82_130 : xm_run call xm_c82 nL mc ms ret Q (f + 1) (xm_drop 130 xm_c82) lv st G E kc ks = (xm_getf 9 1 st G (fun st => xm_run call xm_c82 nL mc ms ret Q f (xm_drop 131 xm_c82) lv st G E kc ks)) := rfl
theorem xz_82_131 : xm_run call xm_c82 nL mc ms ret Q (f + 1) (xm_drop 131 xm_c82) lv st G E kc ks = ((match st with
    | w :: u :: st => xm_cmpI E u w (fun E s => bif xm_holds .ge s then xm_run call xm_c82 nL mc ms ret Q f (xm_drop 183 xm_c82) lv st G E kc ks else xm_run call xm_c82 nL mc ms ret Q f (xm_drop 132 xm_c82) lv st G E kc ks)
    | _ => false)) := rfl
theorem xz_82_132 : xm_run call xm_c82 nL mc ms ret Q (f + 1) (xm_drop 132 xm_c82) lv st G E kc ks = ((match xm_get lv 0 with
    | some w => bif xm_isA w then xm_run call xm_c82 nL mc ms ret Q f (xm_drop 133 xm_c82) lv (w :: st) G E kc ks else false
    | none => false)) := rfl
theorem xz_82_133 : xm_run call xm_c82 nL mc ms ret Q (f + 1) (xm_drop 133 xm_c82) lv st G E kc ks = (xm_getf 9 0 st G (fun st => xm_run call xm_c82 nL mc ms ret Q f (xm_drop 134 xm_c82) lv st G E kc ks)) := rfl
theorem xz_82_134 : xm_run call xm_c82 nL mc ms ret Q (f + 1) (xm_drop 134 xm_c82) lv st G E kc ks = ((match xm_get lv 0 with
    | some w => bif xm_isA w then xm_run call xm_c82 nL mc ms ret Q f (xm_drop 135 xm_c82) lv (w :: st) G E kc ks else false
    | none => false)) := rfl
theorem xz_82_135 : xm_run call xm_c82 nL mc ms ret Q (f + 1) (xm_drop 135 xm_c82) lv st G E kc ks = (xm_getf 9 3 st G (fun st => xm_run call xm_c82 nL mc ms ret Q f (xm_drop 136 xm_c82) lv st G E kc ks)) := rfl
theorem xz_82_136 : xm_run call xm_c82 nL mc ms ret Q (f + 1) (xm_drop 136 xm_c82) lv st G E kc ks = ((match xm_get lv 0 with
    | some w => bif xm_isA w then xm_run call xm_c82 nL mc ms ret Q f (xm_drop 137 xm_c82) lv (w :: st) G E kc ks else false
    | none => false)) := rfl
theorem xz_82_137 : xm_run call xm_c82 nL mc ms ret Q (f + 1) (xm_drop 137 xm_c82) lv st G E kc ks = (xm_getf 9 4 st G (fun st => xm_run call xm_c82 nL mc ms ret Q f (xm_drop 138 xm_c82) lv st G E kc ks)) := rfl
theorem xz_82_138 : xm_run call xm_c82 nL mc ms ret Q (f + 1) (xm_drop 138 xm_c82) lv st G E kc ks = (xm_int2 .iadd st E (fun st E => xm_run call xm_c82 nL mc ms ret Q f (xm_drop 139 xm_c82) lv st G E kc ks)) := rfl
theorem xz_82_139 : xm_run call xm_c82 nL mc ms ret Q (f + 1) (xm_drop 139 xm_c82) lv st G E kc ks = (xm_bald st G E (fun st E => xm_run call xm_c82 nL mc ms ret Q f (xm_drop 140 xm_c82) lv st G E kc ks)) := rfl
theorem xz_82_140 : xm_run call xm_c82 nL mc ms ret Q (f + 1) (xm_drop 140 xm_c82) lv st G E kc ks = (xm_run call xm_c82 nL mc ms ret Q f (xm_drop 141 xm_c82) lv ((.int 48) :: st) G E kc ks) := rfl
theorem xz_82_141 : xm_run call xm_c82 nL mc ms ret Q (f + 1) (xm_drop 141 xm_c82) lv st G E kc ks = ((match st with
    | w :: u :: st => xm_cmpI E u w (fun E s => bif xm_holds .lt s then xm_run call xm_c82 nL mc ms ret Q f (xm_drop 183 xm_c82) lv st G E kc ks else xm_run call xm_c82 nL mc ms ret Q f (xm_drop 142 xm_c82) lv st G E kc ks)
    | _ => false)) := rfl
theorem xz_82_142 : xm_run call xm_c82 nL mc ms ret Q (f + 1) (xm_drop 142 xm_c82) lv st G E kc ks = ((match xm_get lv 0 with
    | some w => bif xm_isA w then xm_run call xm_c82 nL mc ms ret Q f (xm_drop 143 xm_c82) lv (w :: st) G E kc ks else false
    | none => false)) := rfl
theorem xz_82_143 : xm_run call xm_c82 nL mc ms ret Q (f + 1) (xm_drop 143 xm_c82) lv st G E kc ks = (xm_getf 9 0 st G (fun st => xm_run call xm_c82 nL mc ms ret Q f (xm_drop 144 xm_c82) lv st G E kc ks)) := rfl
theorem xz_82_144 : xm_run call xm_c82 nL mc ms ret Q (f + 1) (xm_drop 144 xm_c82) lv st G E kc ks = ((match xm_get lv 0 with
    | some w => bif xm_isA w then xm_run call xm_c82 nL mc ms ret Q f (xm_drop 145 xm_c82) lv (w :: st) G E kc ks else false
    | none => false)) := rfl
theorem xz_82_145 : xm_run call xm_c82 nL mc ms ret Q (f + 1) (xm_drop 145 xm_c82) lv st G E kc ks = (xm_getf 9 3 st G (fun st => xm_run call xm_c82 nL mc ms ret Q f (xm_drop 146 xm_c82) lv st G E kc ks)) := rfl
theorem xz_82_146 : xm_run call xm_c82 nL mc ms ret Q (f + 1) (xm_drop 146 xm_c82) lv st G E kc ks = ((match xm_get lv 0 with
    | some w => bif xm_isA w then xm_run call xm_c82 nL mc ms ret Q f (xm_drop 147 xm_c82) lv (w :: st) G E kc ks else false
    | none => false)) := rfl
theorem xz_82_147 : xm_run call xm_c82 nL mc ms ret Q (f + 1) (xm_drop 147 xm_c82) lv st G E kc ks = (xm_getf 9 4 st G (fun st => xm_run call xm_c82 nL mc ms ret Q f (xm_drop 148 xm_c82) lv st G E kc ks)) := rfl
theorem xz_82_148 : xm_run call xm_c82 nL mc ms ret Q (f + 1) (xm_drop 148 xm_c82) lv st G E kc ks = (xm_int2 .iadd st E (fun st E => xm_run call xm_c82 nL mc ms ret Q f (xm_drop 149 xm_c82) lv st G E kc ks)) := rfl
theorem xz_82_149 : xm_run call xm_c82 nL mc ms ret Q (f + 1) (xm_drop 149 xm_c82) lv st G E kc ks = (xm_bald st G E (fun st E => xm_run call xm_c82 nL mc ms ret Q f (xm_drop 150 xm_c82) lv st G E kc ks)) := rfl
theorem xz_82_150 : xm_run call xm_c82 nL mc ms ret Q (f + 1) (xm_drop 150 xm_c82) lv st G E kc ks = (xm_run call xm_c82 nL mc ms ret Q f (xm_drop 151 xm_c82) lv ((.int 57) :: st) G E kc ks) := rfl
theorem xz_82_151 : xm_run call xm_c82 nL mc ms ret Q (f + 1) (xm_drop 151 xm_c82) lv st G E kc ks = ((match st with
    | w :: u :: st => xm_cmpI E u w (fun E s => bif xm_holds .gt s then xm_run call xm_c82 nL mc ms ret Q f (xm_drop 183 xm_c82) lv st G E kc ks else xm_run call xm_c82 nL mc ms ret Q f (xm_drop 152 xm_c82) lv st G E kc ks)
    | _ => false)) := rfl
theorem xz_82_152 : xm_run call xm_c82 nL mc ms ret Q (f + 1) (xm_drop 152 xm_c82) lv st G E kc ks = ((match xm_get lv 0 with
    | some w => bif xm_isA w then xm_run call xm_c82 nL mc ms ret Q f (xm_drop 153 xm_c82) lv (w :: st) G E kc ks else false
    | none => false)) := rfl
theorem xz_82_153 : xm_run call xm_c82 nL mc ms ret Q (f + 1) (xm_drop 153 xm_c82) lv st G E kc ks = ((match st with
    | w :: st => bif xm_cat1 w then xm_run call xm_c82 nL mc ms ret Q f (xm_drop 154 xm_c82) lv (w :: w :: st) G E kc ks else false
    | _ => false)) := rfl
theorem xz_82_154 : xm_run call xm_c82 nL mc ms ret Q (f + 1) (xm_drop 154 xm_c82) lv st G E kc ks = (xm_getf 9 4 st G (fun st => xm_run call xm_c82 nL mc ms ret Q f (xm_drop 155 xm_c82) lv st G E kc ks)) := rfl
theorem xz_82_155 : xm_run call xm_c82 nL mc ms ret Q (f + 1) (xm_drop 155 xm_c82) lv st G E kc ks = (xm_run call xm_c82 nL mc ms ret Q f (xm_drop 156 xm_c82) lv ((.int 1) :: st) G E kc ks) := rfl
theorem xz_82_156 : xm_run call xm_c82 nL mc ms ret Q (f + 1) (xm_drop 156 xm_c82) lv st G E kc ks = (xm_int2 .iadd st E (fun st E => xm_run call xm_c82 nL mc ms ret Q f (xm_drop 157 xm_c82) lv st G E kc ks)) := rfl
theorem xz_82_157 : xm_run call xm_c82 nL mc ms ret Q (f + 1) (xm_drop 157 xm_c82) lv st G E kc ks = (xm_putf 9 4 st G (fun st G => xm_run call xm_c82 nL mc ms ret Q f (xm_drop 158 xm_c82) lv st G E kc ks)) := rfl
theorem xz_82_158 : xm_run call xm_c82 nL mc ms ret Q (f + 1) (xm_drop 158 xm_c82) lv st G E kc ks = (xm_run call xm_c82 nL mc ms ret Q f (xm_drop 124 xm_c82) lv st G E kc ks) := rfl
theorem xz_82_159 : xm_run call xm_c82 nL mc ms ret Q (f + 1) (xm_drop 159 xm_c82) lv st G E kc ks = ((match xm_get lv 2 with
    | some w => bif xm_isI w then xm_run call xm_c82 nL mc ms ret Q f (xm_drop 160 xm_c82) lv (w :: st) G E kc ks else false
    | none => false)) := rfl
theorem xz_82_160 : xm_run call xm_c82 nL mc ms ret Q (f + 1) (xm_drop 160 xm_c82) lv st G E kc ks = (xm_run call xm_c82 nL mc ms ret Q f (xm_drop 161 xm_c82) lv ((.int 61) :: st) G E kc ks) := rfl
theorem xz_82_161 : xm_run call xm_c82 nL mc ms ret Q (f + 1) (xm_drop 161 xm_c82) lv st G E kc ks = ((match st with
    | w :: u :: st => xm_cmpI E u w (fun E s => bif xm_holds .ne s then xm_run call xm_c82 nL mc ms ret Q f (xm_drop 180 xm_c82) lv st G E kc ks else xm_run call xm_c82 nL mc ms ret Q f (xm_drop 162 xm_c82) lv st G E kc ks)
    | _ => false)) := rfl
theorem xz_82_162 : xm_run call xm_c82 nL mc ms ret Q (f + 1) (xm_drop 162 xm_c82) lv st G E kc ks = ((match xm_get lv 1 with
    | some w => bif xm_isI w then xm_run call xm_c82 nL mc ms ret Q f (xm_drop 163 xm_c82) lv (w :: st) G E kc ks else false
    | none => false)) := rfl
theorem xz_82_163 : xm_run call xm_c82 nL mc ms ret Q (f + 1) (xm_drop 163 xm_c82) lv st G E kc ks = (xm_run call xm_c82 nL mc ms ret Q f (xm_drop 164 xm_c82) lv ((.int 60) :: st) G E kc ks) := rfl
theorem xz_82_164 : xm_run call xm_c82 nL mc ms ret Q (f + 1) (xm_drop 164 xm_c82) lv st G E kc ks = ((match st with
    | w :: u :: st => xm_cmpI E u w (fun E s => bif xm_holds .eq s then xm_run call xm_c82 nL mc ms ret Q f (xm_drop 168 xm_c82) lv st G E kc ks else xm_run call xm_c82 nL mc ms ret Q f (xm_drop 165 xm_c82) lv st G E kc ks)
    | _ => false)) := rfl
theorem xz_82_165 : xm_run call xm_c82 nL mc ms ret Q (f + 1) (xm_drop 165 xm_c82) lv st G E kc ks = ((match xm_get lv 1 with
    | some w => bif xm_isI w then xm_run call xm_c82 nL mc ms ret Q f (xm_drop 166 xm_c82) lv (w :: st) G E kc ks else false
    | none => false)) := rfl
theorem xz_82_166 : xm_run call xm_c82 nL mc ms ret Q (f + 1) (xm_drop 166 xm_c82) lv st G E kc ks = (xm_run call xm_c82 nL mc ms ret Q f (xm_drop 167 xm_c82) lv ((.int 62) :: st) G E kc ks) := rfl
theorem xz_82_167 : xm_run call xm_c82 nL mc ms ret Q (f + 1) (xm_drop 167 xm_c82) lv st G E kc ks = ((match st with
    | w :: u :: st => xm_cmpI E u w (fun E s => bif xm_holds .ne s then xm_run call xm_c82 nL mc ms ret Q f (xm_drop 180 xm_c82) lv st G E kc ks else xm_run call xm_c82 nL mc ms ret Q f (xm_drop 168 xm_c82) lv st G E kc ks)
    | _ => false)) := rfl
theorem xz_82_168 : xm_run call xm_c82 nL mc ms ret Q (f + 1) (xm_drop 168 xm_c82) lv st G E kc ks = ((match xm_get lv 0 with
    | some w => bif xm_isA w then xm_run call xm_c82 nL mc ms ret Q f (xm_drop 169 xm_c82) lv (w :: st) G E kc ks else false
    | none => false)) := rfl
theorem xz_82_169 : xm_run call xm_c82 nL mc ms ret Q (f + 1) (xm_drop 169 xm_c82) lv st G E kc ks = ((match xm_get lv 1 with
    | some w => bif xm_isI w then xm_run call xm_c82 nL mc ms ret Q f (xm_drop 170 xm_c82) lv (w :: st) G E kc ks else false
    | none => false)) := rfl
theorem xz_82_170 : xm_run call xm_c82 nL mc ms ret Q (f + 1) (xm_drop 170 xm_c82) lv st G E kc ks = (xm_run call xm_c82 nL mc ms ret Q f (xm_drop 171 xm_c82) lv ((.int 60) :: st) G E kc ks) := rfl
theorem xz_82_171 : xm_run call xm_c82 nL mc ms ret Q (f + 1) (xm_drop 171 xm_c82) lv st G E kc ks = ((match st with
    | w :: u :: st => xm_cmpI E u w (fun E s => bif xm_holds .ne s then xm_run call xm_c82 nL mc ms ret Q f (xm_drop 174 xm_c82) lv st G E kc ks else xm_run call xm_c82 nL mc ms ret Q f (xm_drop 172 xm_c82) lv st G E kc ks)
    | _ => false)) := rfl
theorem xz_82_172 : xm_run call xm_c82 nL mc ms ret Q (f + 1) (xm_drop 172 xm_c82) lv st G E kc ks = (xm_run call xm_c82 nL mc ms ret Q f (xm_drop 173 xm_c82) lv ((.int 256) :: st) G E kc ks) := rfl
theorem xz_82_173 : xm_run call xm_c82 nL mc ms ret Q (f + 1) (xm_drop 173 xm_c82) lv st G E kc ks = (xm_run call xm_c82 nL mc ms ret Q f (xm_drop 175 xm_c82) lv st G E kc ks) := rfl
theorem xz_82_174 : xm_run call xm_c82 nL mc ms ret Q (f + 1) (xm_drop 174 xm_c82) lv st G E kc ks = (xm_run call xm_c82 nL mc ms ret Q f (xm_drop 175 xm_c82) lv ((.int 257) :: st) G E kc ks) := rfl
theorem xz_82_175 : xm_run call xm_c82 nL mc ms ret Q (f + 1) (xm_drop 175 xm_c82) lv st G E kc ks = (xm_putf 9 2 st G (fun st G => xm_run call xm_c82 nL mc ms ret Q f (xm_drop 176 xm_c82) lv st G E kc ks)) := rfl
theorem xz_82_176 : xm_run call xm_c82 nL mc ms ret Q (f + 1) (xm_drop 176 xm_c82) lv st G E kc ks = ((match xm_get lv 0 with
    | some w => bif xm_isA w then xm_run call xm_c82 nL mc ms ret Q f (xm_drop 177 xm_c82) lv (w :: st) G E kc ks else false
    | none => false)) := rfl
theorem xz_82_177 : xm_run call xm_c82 nL mc ms ret Q (f + 1) (xm_drop 177 xm_c82) lv st G E kc ks = (xm_run call xm_c82 nL mc ms ret Q f (xm_drop 178 xm_c82) lv ((.int 2) :: st) G E kc ks) := rfl
theorem xz_82_178 : xm_run call xm_c82 nL mc ms ret Q (f + 1) (xm_drop 178 xm_c82) lv st G E kc ks = (xm_putf 9 4 st G (fun st G => xm_run call xm_c82 nL mc ms ret Q f (xm_drop 179 xm_c82) lv st G E kc ks)) := rfl
theorem xz_82_179 : xm_run call xm_c82 nL mc ms ret Q (f + 1) (xm_drop 179 xm_c82) lv st G E kc ks = (xm_run call xm_c82 nL mc ms ret Q f (xm_drop 183 xm_c82) lv st G E kc ks) := rfl
theorem xz_82_180 : xm_run call xm_c82 nL mc ms ret Q (f + 1) (xm_drop 180 xm_c82) lv st G E kc ks = ((match xm_get lv 0 with
    | some w => bif xm_isA w then xm_run call xm_c82 nL mc ms ret Q f (xm_drop 181 xm_c82) lv (w :: st) G E kc ks else false
    | none => false)) := rfl
theorem xz_82_181 : xm_run call xm_c82 nL mc ms ret Q (f + 1) (xm_drop 181 xm_c82) lv st G E kc ks = ((match xm_get lv 1 with
    | some w => bif xm_isI w then xm_run call xm_c82 nL mc ms ret Q f (xm_drop 182 xm_c82) lv (w :: st) G E kc ks else false
    | none => false)) := rfl
theorem xz_82_182 : xm_run call xm_c82 nL mc ms ret Q (f + 1) (xm_drop 182 xm_c82) lv st G E kc ks = (xm_putf 9 2 st G (fun st G => xm_run call xm_c82 nL mc ms ret Q f (xm_drop 183 xm_c82) lv st G E kc ks)) := rfl
theorem xz_82_183 : xm_run call xm_c82 nL mc ms ret Q (f + 1) (xm_drop 183 xm_c82) lv st G E kc ks = ((match st with
    | [] => bif ret.isNone && (Nat.ble kc mc && Nat.ble ks ms) then Q none G E else false
    | _ => false)) := rfl
theorem xz_83_0 : xm_run call xm_c83 nL mc ms ret Q (f + 1) (xm_drop 0 xm_c83) lv st G E kc ks = (xm_run call xm_c83 nL mc ms ret Q f (xm_drop 1 xm_c83) lv ((.int 0) :: st) G E kc ks) := rfl
theorem xz_83_1 : xm_run call xm_c83 nL mc ms ret Q (f + 1) (xm_drop 1 xm_c83) lv st G E kc ks = ((match st with
    | w :: st => bif xm_isI w && Nat.blt 2 nL then xm_run call xm_c83 nL mc ms ret Q f (xm_drop 2 xm_c83) (xm_set1 lv 2 w) st G E kc ks else false
    | _ => false)) := rfl
theorem xz_83_2 : xm_run call xm_c83 nL mc ms ret Q (f + 1) (xm_drop 2 xm_c83) lv st G E kc ks = (xm_run call xm_c83 nL mc ms ret Q f (xm_drop 3 xm_c83) lv ((.int 0) :: st) G E kc ks) := rfl
theorem xz_83_3 : xm_run call xm_c83 nL mc ms ret Q (f + 1) (xm_drop 3 xm_c83) lv st G E kc ks = ((match st with
    | w :: st => bif xm_isI w && Nat.blt 3 nL then xm_run call xm_c83 nL mc ms ret Q f (xm_drop 4 xm_c83) (xm_set1 lv 3 w) st G E kc ks else false
    | _ => false)) := rfl
theorem xz_83_4 : xm_run call xm_c83 nL mc ms ret Q (f + 1) (xm_drop 4 xm_c83) lv st G E kc ks = (xm_run call xm_c83 nL mc ms ret Q f (xm_drop 5 xm_c83) lv ((.int 0) :: st) G E kc ks) := rfl
theorem xz_83_5 : xm_run call xm_c83 nL mc ms ret Q (f + 1) (xm_drop 5 xm_c83) lv st G E kc ks = ((match st with
    | w :: st => bif xm_isI w && Nat.blt 4 nL then xm_run call xm_c83 nL mc ms ret Q f (xm_drop 6 xm_c83) (xm_set1 lv 4 w) st G E kc ks else false
    | _ => false)) := rfl
theorem xz_83_6 : xm_run call xm_c83 nL mc ms ret Q (f + 1) (xm_drop 6 xm_c83) lv st G E kc ks = ((match xm_get lv 0 with
    | some w => bif xm_isA w then xm_run call xm_c83 nL mc ms ret Q f (xm_drop 7 xm_c83) lv (w :: st) G E kc ks else false
    | none => false)) := rfl
theorem xz_83_7 : xm_run call xm_c83 nL mc ms ret Q (f + 1) (xm_drop 7 xm_c83) lv st G E kc ks = (xm_getf 9 2 st G (fun st => xm_run call xm_c83 nL mc ms ret Q f (xm_drop 8 xm_c83) lv st G E kc ks)) := rfl
theorem xz_83_8 : xm_run call xm_c83 nL mc ms ret Q (f + 1) (xm_drop 8 xm_c83) lv st G E kc ks = (xm_run call xm_c83 nL mc ms ret Q f (xm_drop 9 xm_c83) lv ((.int 97) :: st) G E kc ks) := rfl
theorem xz_83_9 : xm_run call xm_c83 nL mc ms ret Q (f + 1) (xm_drop 9 xm_c83) lv st G E kc ks = ((match st with
    | w :: u :: st => xm_cmpI E u w (fun E s => bif xm_holds .ne s then xm_run call xm_c83 nL mc ms ret Q f (xm_drop 56 xm_c83) lv st G E kc ks else xm_run call xm_c83 nL mc ms ret Q f (xm_drop 10 xm_c83) lv st G E kc ks)
    | _ => false)) := rfl
theorem xz_83_10 : xm_run call xm_c83 nL mc ms ret Q (f + 1) (xm_drop 10 xm_c83) lv st G E kc ks = ((match xm_get lv 4 with
    | some w => bif xm_isI w then xm_run call xm_c83 nL mc ms ret Q f (xm_drop 11 xm_c83) lv (w :: st) G E kc ks else false
    | none => false)) := rfl
theorem xz_83_11 : xm_run call xm_c83 nL mc ms ret Q (f + 1) (xm_drop 11 xm_c83) lv st G E kc ks = ((match xm_get lv 1 with
    | some w => bif xm_isA w then xm_run call xm_c83 nL mc ms ret Q f (xm_drop 12 xm_c83) lv (w :: st) G E kc ks else false
    | none => false)) := rfl
theorem xz_83_12 : xm_run call xm_c83 nL mc ms ret Q (f + 1) (xm_drop 12 xm_c83) lv st G E kc ks = (bif Nat.beq 1006 1006 || Nat.beq 1006 1007 then xm_strl 1006 st G (fun st => xm_run call xm_c83 nL mc ms ret Q f (xm_drop 13 xm_c83) lv st G E kc ks) else xm_call call mc ms 1006 0 st G E kc ks (fun st G E kc ks => xm_run call xm_c83 nL mc ms ret Q f (xm_drop 13 xm_c83) lv st G E kc ks)) := rfl
theorem xz_83_13 : xm_run call xm_c83 nL mc ms ret Q (f + 1) (xm_drop 13 xm_c83) lv st G E kc ks = ((match st with
    | w :: u :: st => xm_cmpI E u w (fun E s => bif xm_holds .gt s then xm_run call xm_c83 nL mc ms ret Q f (xm_drop 56 xm_c83) lv st G E kc ks else xm_run call xm_c83 nL mc ms ret Q f (xm_drop 14 xm_c83) lv st G E kc ks)
    | _ => false)) := rfl
theorem xz_83_14 : xm_run call xm_c83 nL mc ms ret Q (f + 1) (xm_drop 14 xm_c83) lv st G E kc ks = ((match xm_get lv 4 with
    | some w => bif xm_isI w then xm_run call xm_c83 nL mc ms ret Q f (xm_drop 15 xm_c83) lv (w :: st) G E kc ks else false
    | none => false)) := rfl
theorem xz_83_15 : xm_run call xm_c83 nL mc ms ret Q (f + 1) (xm_drop 15 xm_c83) lv st G E kc ks = ((match xm_get lv 1 with
    | some w => bif xm_isA w then xm_run call xm_c83 nL mc ms ret Q f (xm_drop 16 xm_c83) lv (w :: st) G E kc ks else false
    | none => false)) := rfl
theorem xz_83_16 : xm_run call xm_c83 nL mc ms ret Q (f + 1) (xm_drop 16 xm_c83) lv st G E kc ks = (bif Nat.beq 1006 1006 || Nat.beq 1006 1007 then xm_strl 1006 st G (fun st => xm_run call xm_c83 nL mc ms ret Q f (xm_drop 17 xm_c83) lv st G E kc ks) else xm_call call mc ms 1006 0 st G E kc ks (fun st G E kc ks => xm_run call xm_c83 nL mc ms ret Q f (xm_drop 17 xm_c83) lv st G E kc ks)) := rfl
theorem xz_83_17 : xm_run call xm_c83 nL mc ms ret Q (f + 1) (xm_drop 17 xm_c83) lv st G E kc ks = ((match st with
    | w :: u :: st => xm_cmpI E u w (fun E s => bif xm_holds .eq s then xm_run call xm_c83 nL mc ms ret Q f (xm_drop 23 xm_c83) lv st G E kc ks else xm_run call xm_c83 nL mc ms ret Q f (xm_drop 18 xm_c83) lv st G E kc ks)
    | _ => false)) := rfl
theorem xz_83_18 : xm_run call xm_c83 nL mc ms ret Q (f + 1) (xm_drop 18 xm_c83) lv st G E kc ks = ((match xm_get lv 1 with
    | some w => bif xm_isA w then xm_run call xm_c83 nL mc ms ret Q f (xm_drop 19 xm_c83) lv (w :: st) G E kc ks else false
    | none => false)) := rfl
theorem xz_83_19 : xm_run call xm_c83 nL mc ms ret Q (f + 1) (xm_drop 19 xm_c83) lv st G E kc ks = ((match xm_get lv 4 with
    | some w => bif xm_isI w then xm_run call xm_c83 nL mc ms ret Q f (xm_drop 20 xm_c83) lv (w :: st) G E kc ks else false
    | none => false)) := rfl
theorem xz_83_20 : xm_run call xm_c83 nL mc ms ret Q (f + 1) (xm_drop 20 xm_c83) lv st G E kc ks = (bif Nat.beq 1007 1006 || Nat.beq 1007 1007 then xm_strl 1007 st G (fun st => xm_run call xm_c83 nL mc ms ret Q f (xm_drop 21 xm_c83) lv st G E kc ks) else xm_call call mc ms 1007 0 st G E kc ks (fun st G E kc ks => xm_run call xm_c83 nL mc ms ret Q f (xm_drop 21 xm_c83) lv st G E kc ks)) := rfl
theorem xz_83_21 : xm_run call xm_c83 nL mc ms ret Q (f + 1) (xm_drop 21 xm_c83) lv st G E kc ks = (xm_run call xm_c83 nL mc ms ret Q f (xm_drop 22 xm_c83) lv ((.int 32) :: st) G E kc ks) := rfl
theorem xz_83_22 : xm_run call xm_c83 nL mc ms ret Q (f + 1) (xm_drop 22 xm_c83) lv st G E kc ks = ((match st with
    | w :: u :: st => xm_cmpI E u w (fun E s => bif xm_holds .ne s then xm_run call xm_c83 nL mc ms ret Q f (xm_drop 33 xm_c83) lv st G E kc ks else xm_run call xm_c83 nL mc ms ret Q f (xm_drop 23 xm_c83) lv st G E kc ks)
    | _ => false)) := rfl
theorem xz_83_23 : xm_run call xm_c83 nL mc ms ret Q (f + 1) (xm_drop 23 xm_c83) lv st G E kc ks = ((match xm_get lv 3 with
    | some w => bif xm_isI w then xm_run call xm_c83 nL mc ms ret Q f (xm_drop 24 xm_c83) lv (w :: st) G E kc ks else false
    | none => false)) := rfl
theorem xz_83_24 : xm_run call xm_c83 nL mc ms ret Q (f + 1) (xm_drop 24 xm_c83) lv st G E kc ks = ((match xm_get lv 0 with
    | some w => bif xm_isA w then xm_run call xm_c83 nL mc ms ret Q f (xm_drop 25 xm_c83) lv (w :: st) G E kc ks else false
    | none => false)) := rfl
theorem xz_83_25 : xm_run call xm_c83 nL mc ms ret Q (f + 1) (xm_drop 25 xm_c83) lv st G E kc ks = (xm_getf 9 4 st G (fun st => xm_run call xm_c83 nL mc ms ret Q f (xm_drop 26 xm_c83) lv st G E kc ks)) := rfl
theorem xz_83_26 : xm_run call xm_c83 nL mc ms ret Q (f + 1) (xm_drop 26 xm_c83) lv st G E kc ks = ((match st with
    | w :: u :: st => xm_cmpI E u w (fun E s => bif xm_holds .ne s then xm_run call xm_c83 nL mc ms ret Q f (xm_drop 29 xm_c83) lv st G E kc ks else xm_run call xm_c83 nL mc ms ret Q f (xm_drop 27 xm_c83) lv st G E kc ks)
    | _ => false)) := rfl
theorem xz_83_27 : xm_run call xm_c83 nL mc ms ret Q (f + 1) (xm_drop 27 xm_c83) lv st G E kc ks = ((match xm_get lv 2 with
    | some w => bif xm_isI w then xm_run call xm_c83 nL mc ms ret Q f (xm_drop 28 xm_c83) lv (w :: st) G E kc ks else false
    | none => false)) := rfl
theorem xz_83_28 : xm_run call xm_c83 nL mc ms ret Q (f + 1) (xm_drop 28 xm_c83) lv st G E kc ks = ((match st with
    | [w] => bif xm_isI w && (xm_rok ret w && (Nat.ble kc mc && Nat.ble ks ms)) then Q (some w) G E else false
    | _ => false)) := rfl
theorem xz_83_29 : xm_run call xm_c83 nL mc ms ret Q (f + 1) (xm_drop 29 xm_c83) lv st G E kc ks = ((match xm_get lv 2 with
    | some w => bif Nat.blt 2 nL then xm_conc E w (fun E x => xm_frc (x + Int32.ofInt 1) (fun z => xm_run call xm_c83 nL mc ms ret Q f (xm_drop 30 xm_c83) (xm_set1 lv 2 (.int z)) st G E kc ks)) else false
    | none => false)) := rfl
theorem xz_83_30 : xm_run call xm_c83 nL mc ms ret Q (f + 1) (xm_drop 30 xm_c83) lv st G E kc ks = (xm_run call xm_c83 nL mc ms ret Q f (xm_drop 31 xm_c83) lv ((.int 0) :: st) G E kc ks) := rfl
theorem xz_83_31 : xm_run call xm_c83 nL mc ms ret Q (f + 1) (xm_drop 31 xm_c83) lv st G E kc ks = ((match st with
    | w :: st => bif xm_isI w && Nat.blt 3 nL then xm_run call xm_c83 nL mc ms ret Q f (xm_drop 32 xm_c83) (xm_set1 lv 3 w) st G E kc ks else false
    | _ => false)) := rfl
theorem xz_83_32 : xm_run call xm_c83 nL mc ms ret Q (f + 1) (xm_drop 32 xm_c83) lv st G E kc ks = (xm_run call xm_c83 nL mc ms ret Q f (xm_drop 54 xm_c83) lv st G E kc ks) := rfl
theorem xz_83_33 : xm_run call xm_c83 nL mc ms ret Q (f + 1) (xm_drop 33 xm_c83) lv st G E kc ks = ((match xm_get lv 3 with
    | some w => bif xm_isI w then xm_run call xm_c83 nL mc ms ret Q f (xm_drop 34 xm_c83) lv (w :: st) G E kc ks else false
    | none => false)) := rfl
theorem xz_83_34 : xm_run call xm_c83 nL mc ms ret Q (f + 1) (xm_drop 34 xm_c83) lv st G E kc ks = ((match st with
    | w :: st => xm_cmpI E w (.int 0) (fun E s => bif xm_holds .lt s then xm_run call xm_c83 nL mc ms ret Q f (xm_drop 52 xm_c83) lv st G E kc ks else xm_run call xm_c83 nL mc ms ret Q f (xm_drop 35 xm_c83) lv st G E kc ks)
    | _ => false)) := rfl
theorem xz_83_35 : xm_run call xm_c83 nL mc ms ret Q (f + 1) (xm_drop 35 xm_c83) lv st G E kc ks = ((match xm_get lv 3 with
    | some w => bif xm_isI w then xm_run call xm_c83 nL mc ms ret Q f (xm_drop 36 xm_c83) lv (w :: st) G E kc ks else false
    | none => false)) := rfl
theorem xz_83_36 : xm_run call xm_c83 nL mc ms ret Q (f + 1) (xm_drop 36 xm_c83) lv st G E kc ks = ((match xm_get lv 0 with
    | some w => bif xm_isA w then xm_run call xm_c83 nL mc ms ret Q f (xm_drop 37 xm_c83) lv (w :: st) G E kc ks else false
    | none => false)) := rfl
theorem xz_83_37 : xm_run call xm_c83 nL mc ms ret Q (f + 1) (xm_drop 37 xm_c83) lv st G E kc ks = (xm_getf 9 4 st G (fun st => xm_run call xm_c83 nL mc ms ret Q f (xm_drop 38 xm_c83) lv st G E kc ks)) := rfl
theorem xz_83_38 : xm_run call xm_c83 nL mc ms ret Q (f + 1) (xm_drop 38 xm_c83) lv st G E kc ks = ((match st with
    | w :: u :: st => xm_cmpI E u w (fun E s => bif xm_holds .ge s then xm_run call xm_c83 nL mc ms ret Q f (xm_drop 52 xm_c83) lv st G E kc ks else xm_run call xm_c83 nL mc ms ret Q f (xm_drop 39 xm_c83) lv st G E kc ks)
    | _ => false)) := rfl
theorem xz_83_39 : xm_run call xm_c83 nL mc ms ret Q (f + 1) (xm_drop 39 xm_c83) lv st G E kc ks = ((match xm_get lv 1 with
    | some w => bif xm_isA w then xm_run call xm_c83 nL mc ms ret Q f (xm_drop 40 xm_c83) lv (w :: st) G E kc ks else false
    | none => false)) := rfl
theorem xz_83_40 : xm_run call xm_c83 nL mc ms ret Q (f + 1) (xm_drop 40 xm_c83) lv st G E kc ks = ((match xm_get lv 4 with
    | some w => bif xm_isI w then xm_run call xm_c83 nL mc ms ret Q f (xm_drop 41 xm_c83) lv (w :: st) G E kc ks else false
    | none => false)) := rfl
theorem xz_83_41 : xm_run call xm_c83 nL mc ms ret Q (f + 1) (xm_drop 41 xm_c83) lv st G E kc ks = (bif Nat.beq 1007 1006 || Nat.beq 1007 1007 then xm_strl 1007 st G (fun st => xm_run call xm_c83 nL mc ms ret Q f (xm_drop 42 xm_c83) lv st G E kc ks) else xm_call call mc ms 1007 0 st G E kc ks (fun st G E kc ks => xm_run call xm_c83 nL mc ms ret Q f (xm_drop 42 xm_c83) lv st G E kc ks)) := rfl
theorem xz_83_42 : xm_run call xm_c83 nL mc ms ret Q (f + 1) (xm_drop 42 xm_c83) lv st G E kc ks = ((match xm_get lv 0 with
    | some w => bif xm_isA w then xm_run call xm_c83 nL mc ms ret Q f (xm_drop 43 xm_c83) lv (w :: st) G E kc ks else false
    | none => false)) := rfl
theorem xz_83_43 : xm_run call xm_c83 nL mc ms ret Q (f + 1) (xm_drop 43 xm_c83) lv st G E kc ks = (xm_getf 9 0 st G (fun st => xm_run call xm_c83 nL mc ms ret Q f (xm_drop 44 xm_c83) lv st G E kc ks)) := rfl
theorem xz_83_44 : xm_run call xm_c83 nL mc ms ret Q (f + 1) (xm_drop 44 xm_c83) lv st G E kc ks = ((match xm_get lv 0 with
    | some w => bif xm_isA w then xm_run call xm_c83 nL mc ms ret Q f (xm_drop 45 xm_c83) lv (w :: st) G E kc ks else false
    | none => false)) := rfl
theorem xz_83_45 : xm_run call xm_c83 nL mc ms ret Q (f + 1) (xm_drop 45 xm_c83) lv st G E kc ks = (xm_getf 9 3 st G (fun st => xm_run call xm_c83 nL mc ms ret Q f (xm_drop 46 xm_c83) lv st G E kc ks)) := rfl
theorem xz_83_46 : xm_run call xm_c83 nL mc ms ret Q (f + 1) (xm_drop 46 xm_c83) lv st G E kc ks = ((match xm_get lv 3 with
    | some w => bif xm_isI w then xm_run call xm_c83 nL mc ms ret Q f (xm_drop 47 xm_c83) lv (w :: st) G E kc ks else false
    | none => false)) := rfl
theorem xz_83_47 : xm_run call xm_c83 nL mc ms ret Q (f + 1) (xm_drop 47 xm_c83) lv st G E kc ks = (xm_int2 .iadd st E (fun st E => xm_run call xm_c83 nL mc ms ret Q f (xm_drop 48 xm_c83) lv st G E kc ks)) := rfl
theorem xz_83_48 : xm_run call xm_c83 nL mc ms ret Q (f + 1) (xm_drop 48 xm_c83) lv st G E kc ks = (xm_bald st G E (fun st E => xm_run call xm_c83 nL mc ms ret Q f (xm_drop 49 xm_c83) lv st G E kc ks)) := rfl
theorem xz_83_49 : xm_run call xm_c83 nL mc ms ret Q (f + 1) (xm_drop 49 xm_c83) lv st G E kc ks = ((match st with
    | w :: u :: st => xm_cmpI E u w (fun E s => bif xm_holds .ne s then xm_run call xm_c83 nL mc ms ret Q f (xm_drop 52 xm_c83) lv st G E kc ks else xm_run call xm_c83 nL mc ms ret Q f (xm_drop 50 xm_c83) lv st G E kc ks)
    | _ => false)) := rfl
theorem xz_83_50 : xm_run call xm_c83 nL mc ms ret Q (f + 1) (xm_drop 50 xm_c83) lv st G E kc ks = ((match xm_get lv 3 with
    | some w => bif Nat.blt 3 nL then xm_conc E w (fun E x => xm_frc (x + Int32.ofInt 1) (fun z => xm_run call xm_c83 nL mc ms ret Q f (xm_drop 51 xm_c83) (xm_set1 lv 3 (.int z)) st G E kc ks)) else false
    | none => false)) := rfl
theorem xz_83_51 : xm_run call xm_c83 nL mc ms ret Q (f + 1) (xm_drop 51 xm_c83) lv st G E kc ks = (xm_run call xm_c83 nL mc ms ret Q f (xm_drop 54 xm_c83) lv st G E kc ks) := rfl
theorem xz_83_52 : xm_run call xm_c83 nL mc ms ret Q (f + 1) (xm_drop 52 xm_c83) lv st G E kc ks = (xm_run call xm_c83 nL mc ms ret Q f (xm_drop 53 xm_c83) lv ((.int (-1)) :: st) G E kc ks) := rfl
theorem xz_83_53 : xm_run call xm_c83 nL mc ms ret Q (f + 1) (xm_drop 53 xm_c83) lv st G E kc ks = ((match st with
    | w :: st => bif xm_isI w && Nat.blt 3 nL then xm_run call xm_c83 nL mc ms ret Q f (xm_drop 54 xm_c83) (xm_set1 lv 3 w) st G E kc ks else false
    | _ => false)) := rfl
theorem xz_83_54 : xm_run call xm_c83 nL mc ms ret Q (f + 1) (xm_drop 54 xm_c83) lv st G E kc ks = ((match xm_get lv 4 with
    | some w => bif Nat.blt 4 nL then xm_conc E w (fun E x => xm_frc (x + Int32.ofInt 1) (fun z => xm_run call xm_c83 nL mc ms ret Q f (xm_drop 55 xm_c83) (xm_set1 lv 4 (.int z)) st G E kc ks)) else false
    | none => false)) := rfl
theorem xz_83_55 : xm_run call xm_c83 nL mc ms ret Q (f + 1) (xm_drop 55 xm_c83) lv st G E kc ks = (xm_run call xm_c83 nL mc ms ret Q f (xm_drop 6 xm_c83) lv st G E kc ks) := rfl
theorem xz_83_56 : xm_run call xm_c83 nL mc ms ret Q (f + 1) (xm_drop 56 xm_c83) lv st G E kc ks = (xm_run call xm_c83 nL mc ms ret Q f (xm_drop 57 xm_c83) lv ((.int (-1)) :: st) G E kc ks) := rfl
theorem xz_83_57 : xm_run call xm_c83 nL mc ms ret Q (f + 1) (xm_drop 57 xm_c83) lv st G E kc ks = ((match st with
    | [w] => bif xm_isI w && (xm_rok ret w && (Nat.ble kc mc && Nat.ble ks ms)) then Q (some w) G E else false
    | _ => false)) := rfl
theorem xz_84_0 : xm_run call xm_c84 nL mc ms ret Q (f + 1) (xm_drop 0 xm_c84) lv st G E kc ks = (xm_run call xm_c84 nL mc ms ret Q f (xm_drop 1 xm_c84) lv ((.int 0) :: st) G E kc ks) := rfl
theorem xz_84_1 : xm_run call xm_c84 nL mc ms ret Q (f + 1) (xm_drop 1 xm_c84) lv st G E kc ks = ((match st with
    | w :: st => bif xm_isI w && Nat.blt 1 nL then xm_run call xm_c84 nL mc ms ret Q f (xm_drop 2 xm_c84) (xm_set1 lv 1 w) st G E kc ks else false
    | _ => false)) := rfl
theorem xz_84_2 : xm_run call xm_c84 nL mc ms ret Q (f + 1) (xm_drop 2 xm_c84) lv st G E kc ks = (xm_run call xm_c84 nL mc ms ret Q f (xm_drop 3 xm_c84) lv ((.int 0) :: st) G E kc ks) := rfl
theorem xz_84_3 : xm_run call xm_c84 nL mc ms ret Q (f + 1) (xm_drop 3 xm_c84) lv st G E kc ks = ((match st with
    | w :: st => bif xm_isI w && Nat.blt 2 nL then xm_run call xm_c84 nL mc ms ret Q f (xm_drop 4 xm_c84) (xm_set1 lv 2 w) st G E kc ks else false
    | _ => false)) := rfl
theorem xz_84_4 : xm_run call xm_c84 nL mc ms ret Q (f + 1) (xm_drop 4 xm_c84) lv st G E kc ks = ((match xm_get lv 0 with
    | some w => bif xm_isA w then xm_run call xm_c84 nL mc ms ret Q f (xm_drop 5 xm_c84) lv (w :: st) G E kc ks else false
    | none => false)) := rfl
theorem xz_84_5 : xm_run call xm_c84 nL mc ms ret Q (f + 1) (xm_drop 5 xm_c84) lv st G E kc ks = (xm_getf 9 2 st G (fun st => xm_run call xm_c84 nL mc ms ret Q f (xm_drop 6 xm_c84) lv st G E kc ks)) := rfl
theorem xz_84_6 : xm_run call xm_c84 nL mc ms ret Q (f + 1) (xm_drop 6 xm_c84) lv st G E kc ks = (xm_run call xm_c84 nL mc ms ret Q f (xm_drop 7 xm_c84) lv ((.int 48) :: st) G E kc ks) := rfl
theorem xz_84_7 : xm_run call xm_c84 nL mc ms ret Q (f + 1) (xm_drop 7 xm_c84) lv st G E kc ks = ((match st with
    | w :: u :: st => xm_cmpI E u w (fun E s => bif xm_holds .ne s then xm_run call xm_c84 nL mc ms ret Q f (xm_drop 31 xm_c84) lv st G E kc ks else xm_run call xm_c84 nL mc ms ret Q f (xm_drop 8 xm_c84) lv st G E kc ks)
    | _ => false)) := rfl
theorem xz_84_8 : xm_run call xm_c84 nL mc ms ret Q (f + 1) (xm_drop 8 xm_c84) lv st G E kc ks = ((match xm_get lv 2 with
    | some w => bif xm_isI w then xm_run call xm_c84 nL mc ms ret Q f (xm_drop 9 xm_c84) lv (w :: st) G E kc ks else false
    | none => false)) := rfl
theorem xz_84_9 : xm_run call xm_c84 nL mc ms ret Q (f + 1) (xm_drop 9 xm_c84) lv st G E kc ks = ((match xm_get lv 0 with
    | some w => bif xm_isA w then xm_run call xm_c84 nL mc ms ret Q f (xm_drop 10 xm_c84) lv (w :: st) G E kc ks else false
    | none => false)) := rfl
theorem xz_84_10 : xm_run call xm_c84 nL mc ms ret Q (f + 1) (xm_drop 10 xm_c84) lv st G E kc ks = (xm_getf 9 4 st G (fun st => xm_run call xm_c84 nL mc ms ret Q f (xm_drop 11 xm_c84) lv st G E kc ks)) := rfl
theorem xz_84_11 : xm_run call xm_c84 nL mc ms ret Q (f + 1) (xm_drop 11 xm_c84) lv st G E kc ks = ((match st with
    | w :: u :: st => xm_cmpI E u w (fun E s => bif xm_holds .ge s then xm_run call xm_c84 nL mc ms ret Q f (xm_drop 31 xm_c84) lv st G E kc ks else xm_run call xm_c84 nL mc ms ret Q f (xm_drop 12 xm_c84) lv st G E kc ks)
    | _ => false)) := rfl
theorem xz_84_12 : xm_run call xm_c84 nL mc ms ret Q (f + 1) (xm_drop 12 xm_c84) lv st G E kc ks = ((match xm_get lv 2 with
    | some w => bif xm_isI w then xm_run call xm_c84 nL mc ms ret Q f (xm_drop 13 xm_c84) lv (w :: st) G E kc ks else false
    | none => false)) := rfl
theorem xz_84_13 : xm_run call xm_c84 nL mc ms ret Q (f + 1) (xm_drop 13 xm_c84) lv st G E kc ks = (xm_run call xm_c84 nL mc ms ret Q f (xm_drop 14 xm_c84) lv ((.int 5) :: st) G E kc ks) := rfl
theorem xz_84_14 : xm_run call xm_c84 nL mc ms ret Q (f + 1) (xm_drop 14 xm_c84) lv st G E kc ks = ((match st with
    | w :: u :: st => xm_cmpI E u w (fun E s => bif xm_holds .ge s then xm_run call xm_c84 nL mc ms ret Q f (xm_drop 31 xm_c84) lv st G E kc ks else xm_run call xm_c84 nL mc ms ret Q f (xm_drop 15 xm_c84) lv st G E kc ks)
    | _ => false)) := rfl
theorem xz_84_15 : xm_run call xm_c84 nL mc ms ret Q (f + 1) (xm_drop 15 xm_c84) lv st G E kc ks = ((match xm_get lv 1 with
    | some w => bif xm_isI w then xm_run call xm_c84 nL mc ms ret Q f (xm_drop 16 xm_c84) lv (w :: st) G E kc ks else false
    | none => false)) := rfl
theorem xz_84_16 : xm_run call xm_c84 nL mc ms ret Q (f + 1) (xm_drop 16 xm_c84) lv st G E kc ks = (xm_run call xm_c84 nL mc ms ret Q f (xm_drop 17 xm_c84) lv ((.int 10) :: st) G E kc ks) := rfl
theorem xz_84_17 : xm_run call xm_c84 nL mc ms ret Q (f + 1) (xm_drop 17 xm_c84) lv st G E kc ks = (xm_int2 .imul st E (fun st E => xm_run call xm_c84 nL mc ms ret Q f (xm_drop 18 xm_c84) lv st G E kc ks)) := rfl
theorem xz_84_18 : xm_run call xm_c84 nL mc ms ret Q (f + 1) (xm_drop 18 xm_c84) lv st G E kc ks = ((match xm_get lv 0 with
    | some w => bif xm_isA w then xm_run call xm_c84 nL mc ms ret Q f (xm_drop 19 xm_c84) lv (w :: st) G E kc ks else false
    | none => false)) := rfl
theorem xz_84_19 : xm_run call xm_c84 nL mc ms ret Q (f + 1) (xm_drop 19 xm_c84) lv st G E kc ks = (xm_getf 9 0 st G (fun st => xm_run call xm_c84 nL mc ms ret Q f (xm_drop 20 xm_c84) lv st G E kc ks)) := rfl
theorem xz_84_20 : xm_run call xm_c84 nL mc ms ret Q (f + 1) (xm_drop 20 xm_c84) lv st G E kc ks = ((match xm_get lv 0 with
    | some w => bif xm_isA w then xm_run call xm_c84 nL mc ms ret Q f (xm_drop 21 xm_c84) lv (w :: st) G E kc ks else false
    | none => false)) := rfl
theorem xz_84_21 : xm_run call xm_c84 nL mc ms ret Q (f + 1) (xm_drop 21 xm_c84) lv st G E kc ks = (xm_getf 9 3 st G (fun st => xm_run call xm_c84 nL mc ms ret Q f (xm_drop 22 xm_c84) lv st G E kc ks)) := rfl
theorem xz_84_22 : xm_run call xm_c84 nL mc ms ret Q (f + 1) (xm_drop 22 xm_c84) lv st G E kc ks = ((match xm_get lv 2 with
    | some w => bif xm_isI w then xm_run call xm_c84 nL mc ms ret Q f (xm_drop 23 xm_c84) lv (w :: st) G E kc ks else false
    | none => false)) := rfl
theorem xz_84_23 : xm_run call xm_c84 nL mc ms ret Q (f + 1) (xm_drop 23 xm_c84) lv st G E kc ks = (xm_int2 .iadd st E (fun st E => xm_run call xm_c84 nL mc ms ret Q f (xm_drop 24 xm_c84) lv st G E kc ks)) := rfl
theorem xz_84_24 : xm_run call xm_c84 nL mc ms ret Q (f + 1) (xm_drop 24 xm_c84) lv st G E kc ks = (xm_bald st G E (fun st E => xm_run call xm_c84 nL mc ms ret Q f (xm_drop 25 xm_c84) lv st G E kc ks)) := rfl
theorem xz_84_25 : xm_run call xm_c84 nL mc ms ret Q (f + 1) (xm_drop 25 xm_c84) lv st G E kc ks = (xm_int2 .iadd st E (fun st E => xm_run call xm_c84 nL mc ms ret Q f (xm_drop 26 xm_c84) lv st G E kc ks)) := rfl
theorem xz_84_26 : xm_run call xm_c84 nL mc ms ret Q (f + 1) (xm_drop 26 xm_c84) lv st G E kc ks = (xm_run call xm_c84 nL mc ms ret Q f (xm_drop 27 xm_c84) lv ((.int 48) :: st) G E kc ks) := rfl
theorem xz_84_27 : xm_run call xm_c84 nL mc ms ret Q (f + 1) (xm_drop 27 xm_c84) lv st G E kc ks = (xm_int2 .isub st E (fun st E => xm_run call xm_c84 nL mc ms ret Q f (xm_drop 28 xm_c84) lv st G E kc ks)) := rfl
theorem xz_84_28 : xm_run call xm_c84 nL mc ms ret Q (f + 1) (xm_drop 28 xm_c84) lv st G E kc ks = ((match st with
    | w :: st => bif xm_isI w && Nat.blt 1 nL then xm_run call xm_c84 nL mc ms ret Q f (xm_drop 29 xm_c84) (xm_set1 lv 1 w) st G E kc ks else false
    | _ => false)) := rfl
theorem xz_84_29 : xm_run call xm_c84 nL mc ms ret Q (f + 1) (xm_drop 29 xm_c84) lv st G E kc ks = ((match xm_get lv 2 with
    | some w => bif Nat.blt 2 nL then xm_conc E w (fun E x => xm_frc (x + Int32.ofInt 1) (fun z => xm_run call xm_c84 nL mc ms ret Q f (xm_drop 30 xm_c84) (xm_set1 lv 2 (.int z)) st G E kc ks)) else false
    | none => false)) := rfl
theorem xz_84_30 : xm_run call xm_c84 nL mc ms ret Q (f + 1) (xm_drop 30 xm_c84) lv st G E kc ks = (xm_run call xm_c84 nL mc ms ret Q f (xm_drop 4 xm_c84) lv st G E kc ks) := rfl
theorem xz_84_31 : xm_run call xm_c84 nL mc ms ret Q (f + 1) (xm_drop 31 xm_c84) lv st G E kc ks = ((match xm_get lv 1 with
    | some w => bif xm_isI w then xm_run call xm_c84 nL mc ms ret Q f (xm_drop 32 xm_c84) lv (w :: st) G E kc ks else false
    | none => false)) := rfl
theorem xz_84_32 : xm_run call xm_c84 nL mc ms ret Q (f + 1) (xm_drop 32 xm_c84) lv st G E kc ks = ((match st with
    | [w] => bif xm_isI w && (xm_rok ret w && (Nat.ble kc mc && Nat.ble ks ms)) then Q (some w) G E else false
    | _ => false)) := rfl
theorem xz_131_0 : xm_run call xm_c131 nL mc ms ret Q (f + 1) (xm_drop 0 xm_c131) lv st G E kc ks = ((match xm_get lv 0 with
    | some w => bif xm_isA w then xm_run call xm_c131 nL mc ms ret Q f (xm_drop 1 xm_c131) lv (w :: st) G E kc ks else false
    | none => false)) := rfl
theorem xz_131_1 : xm_run call xm_c131 nL mc ms ret Q (f + 1) (xm_drop 1 xm_c131) lv st G E kc ks = (xm_getf 11 9 st G (fun st => xm_run call xm_c131 nL mc ms ret Q f (xm_drop 2 xm_c131) lv st G E kc ks)) := rfl
theorem xz_131_2 : xm_run call xm_c131 nL mc ms ret Q (f + 1) (xm_drop 2 xm_c131) lv st G E kc ks = ((match st with
    | w :: st => xm_cmpI E w (.int 0) (fun E s => bif xm_holds .ne s then xm_run call xm_c131 nL mc ms ret Q f (xm_drop 12 xm_c131) lv st G E kc ks else xm_run call xm_c131 nL mc ms ret Q f (xm_drop 3 xm_c131) lv st G E kc ks)
    | _ => false)) := rfl
theorem xz_131_3 : xm_run call xm_c131 nL mc ms ret Q (f + 1) (xm_drop 3 xm_c131) lv st G E kc ks = ((match xm_get lv 0 with
    | some w => bif xm_isA w then xm_run call xm_c131 nL mc ms ret Q f (xm_drop 4 xm_c131) lv (w :: st) G E kc ks else false
    | none => false)) := rfl
theorem xz_131_4 : xm_run call xm_c131 nL mc ms ret Q (f + 1) (xm_drop 4 xm_c131) lv st G E kc ks = (xm_run call xm_c131 nL mc ms ret Q f (xm_drop 5 xm_c131) lv ((.int 1) :: st) G E kc ks) := rfl
theorem xz_131_5 : xm_run call xm_c131 nL mc ms ret Q (f + 1) (xm_drop 5 xm_c131) lv st G E kc ks = (xm_run call xm_c131 nL mc ms ret Q f (xm_drop 6 xm_c131) lv ((.int 8) :: st) G E kc ks) := rfl
theorem xz_131_6 : xm_run call xm_c131 nL mc ms ret Q (f + 1) (xm_drop 6 xm_c131) lv st G E kc ks = ((match xm_get lv 2 with
    | some w => bif xm_isI w then xm_run call xm_c131 nL mc ms ret Q f (xm_drop 7 xm_c131) lv (w :: st) G E kc ks else false
    | none => false)) := rfl
theorem xz_131_7 : xm_run call xm_c131 nL mc ms ret Q (f + 1) (xm_drop 7 xm_c131) lv st G E kc ks = (xm_int2 .imul st E (fun st E => xm_run call xm_c131 nL mc ms ret Q f (xm_drop 8 xm_c131) lv st G E kc ks)) := rfl
theorem xz_131_8 : xm_run call xm_c131 nL mc ms ret Q (f + 1) (xm_drop 8 xm_c131) lv st G E kc ks = (xm_int2 .iadd st E (fun st E => xm_run call xm_c131 nL mc ms ret Q f (xm_drop 9 xm_c131) lv st G E kc ks)) := rfl
theorem xz_131_9 : xm_run call xm_c131 nL mc ms ret Q (f + 1) (xm_drop 9 xm_c131) lv st G E kc ks = ((match xm_get lv 1 with
    | some w => bif xm_isI w then xm_run call xm_c131 nL mc ms ret Q f (xm_drop 10 xm_c131) lv (w :: st) G E kc ks else false
    | none => false)) := rfl
theorem xz_131_10 : xm_run call xm_c131 nL mc ms ret Q (f + 1) (xm_drop 10 xm_c131) lv st G E kc ks = (xm_int2 .iadd st E (fun st E => xm_run call xm_c131 nL mc ms ret Q f (xm_drop 11 xm_c131) lv st G E kc ks)) := rfl
theorem xz_131_11 : xm_run call xm_c131 nL mc ms ret Q (f + 1) (xm_drop 11 xm_c131) lv st G E kc ks = (xm_putf 11 9 st G (fun st G => xm_run call xm_c131 nL mc ms ret Q f (xm_drop 12 xm_c131) lv st G E kc ks)) := rfl
theorem xz_131_12 : xm_run call xm_c131 nL mc ms ret Q (f + 1) (xm_drop 12 xm_c131) lv st G E kc ks = (xm_run call xm_c131 nL mc ms ret Q f (xm_drop 13 xm_c131) lv ((.int 0) :: st) G E kc ks) := rfl
theorem xz_131_13 : xm_run call xm_c131 nL mc ms ret Q (f + 1) (xm_drop 13 xm_c131) lv st G E kc ks = ((match st with
    | [w] => bif xm_isI w && (xm_rok ret w && (Nat.ble kc mc && Nat.ble ks ms)) then Q (some w) G E else false
    | _ => false)) := rfl
theorem xz_132_0 : xm_run call xm_c132 nL mc ms ret Q (f + 1) (xm_drop 0 xm_c132) lv st G E kc ks = ((match xm_get lv 0 with
    | some w => bif xm_isA w then xm_run call xm_c132 nL mc ms ret Q f (xm_drop 1 xm_c132) lv (w :: st) G E kc ks else false
    | none => false)) := rfl
theorem xz_132_1 : xm_run call xm_c132 nL mc ms ret Q (f + 1) (xm_drop 1 xm_c132) lv st G E kc ks = (xm_getf 11 8 st G (fun st => xm_run call xm_c132 nL mc ms ret Q f (xm_drop 2 xm_c132) lv st G E kc ks)) := rfl
theorem xz_132_2 : xm_run call xm_c132 nL mc ms ret Q (f + 1) (xm_drop 2 xm_c132) lv st G E kc ks = ((match xm_get lv 0 with
    | some w => bif xm_isA w then xm_run call xm_c132 nL mc ms ret Q f (xm_drop 3 xm_c132) lv (w :: st) G E kc ks else false
    | none => false)) := rfl
theorem xz_132_3 : xm_run call xm_c132 nL mc ms ret Q (f + 1) (xm_drop 3 xm_c132) lv st G E kc ks = (xm_getf 11 1 st G (fun st => xm_run call xm_c132 nL mc ms ret Q f (xm_drop 4 xm_c132) lv st G E kc ks)) := rfl
theorem xz_132_4 : xm_run call xm_c132 nL mc ms ret Q (f + 1) (xm_drop 4 xm_c132) lv st G E kc ks = ((match st with
    | w :: u :: st => xm_cmpI E u w (fun E s => bif xm_holds .ge s then xm_run call xm_c132 nL mc ms ret Q f (xm_drop 19 xm_c132) lv st G E kc ks else xm_run call xm_c132 nL mc ms ret Q f (xm_drop 5 xm_c132) lv st G E kc ks)
    | _ => false)) := rfl
theorem xz_132_5 : xm_run call xm_c132 nL mc ms ret Q (f + 1) (xm_drop 5 xm_c132) lv st G E kc ks = ((match xm_get lv 0 with
    | some w => bif xm_isA w then xm_run call xm_c132 nL mc ms ret Q f (xm_drop 6 xm_c132) lv (w :: st) G E kc ks else false
    | none => false)) := rfl
theorem xz_132_6 : xm_run call xm_c132 nL mc ms ret Q (f + 1) (xm_drop 6 xm_c132) lv st G E kc ks = (xm_getf 11 0 st G (fun st => xm_run call xm_c132 nL mc ms ret Q f (xm_drop 7 xm_c132) lv st G E kc ks)) := rfl
theorem xz_132_7 : xm_run call xm_c132 nL mc ms ret Q (f + 1) (xm_drop 7 xm_c132) lv st G E kc ks = ((match xm_get lv 0 with
    | some w => bif xm_isA w then xm_run call xm_c132 nL mc ms ret Q f (xm_drop 8 xm_c132) lv (w :: st) G E kc ks else false
    | none => false)) := rfl
theorem xz_132_8 : xm_run call xm_c132 nL mc ms ret Q (f + 1) (xm_drop 8 xm_c132) lv st G E kc ks = (xm_getf 11 8 st G (fun st => xm_run call xm_c132 nL mc ms ret Q f (xm_drop 9 xm_c132) lv st G E kc ks)) := rfl
theorem xz_132_9 : xm_run call xm_c132 nL mc ms ret Q (f + 1) (xm_drop 9 xm_c132) lv st G E kc ks = (xm_bald st G E (fun st E => xm_run call xm_c132 nL mc ms ret Q f (xm_drop 10 xm_c132) lv st G E kc ks)) := rfl
theorem xz_132_10 : xm_run call xm_c132 nL mc ms ret Q (f + 1) (xm_drop 10 xm_c132) lv st G E kc ks = (xm_run call xm_c132 nL mc ms ret Q f (xm_drop 11 xm_c132) lv ((.int 32) :: st) G E kc ks) := rfl
theorem xz_132_11 : xm_run call xm_c132 nL mc ms ret Q (f + 1) (xm_drop 11 xm_c132) lv st G E kc ks = ((match st with
    | w :: u :: st => xm_cmpI E u w (fun E s => bif xm_holds .ne s then xm_run call xm_c132 nL mc ms ret Q f (xm_drop 19 xm_c132) lv st G E kc ks else xm_run call xm_c132 nL mc ms ret Q f (xm_drop 12 xm_c132) lv st G E kc ks)
    | _ => false)) := rfl
theorem xz_132_12 : xm_run call xm_c132 nL mc ms ret Q (f + 1) (xm_drop 12 xm_c132) lv st G E kc ks = ((match xm_get lv 0 with
    | some w => bif xm_isA w then xm_run call xm_c132 nL mc ms ret Q f (xm_drop 13 xm_c132) lv (w :: st) G E kc ks else false
    | none => false)) := rfl
theorem xz_132_13 : xm_run call xm_c132 nL mc ms ret Q (f + 1) (xm_drop 13 xm_c132) lv st G E kc ks = ((match st with
    | w :: st => bif xm_cat1 w then xm_run call xm_c132 nL mc ms ret Q f (xm_drop 14 xm_c132) lv (w :: w :: st) G E kc ks else false
    | _ => false)) := rfl
theorem xz_132_14 : xm_run call xm_c132 nL mc ms ret Q (f + 1) (xm_drop 14 xm_c132) lv st G E kc ks = (xm_getf 11 8 st G (fun st => xm_run call xm_c132 nL mc ms ret Q f (xm_drop 15 xm_c132) lv st G E kc ks)) := rfl
theorem xz_132_15 : xm_run call xm_c132 nL mc ms ret Q (f + 1) (xm_drop 15 xm_c132) lv st G E kc ks = (xm_run call xm_c132 nL mc ms ret Q f (xm_drop 16 xm_c132) lv ((.int 1) :: st) G E kc ks) := rfl
theorem xz_132_16 : xm_run call xm_c132 nL mc ms ret Q (f + 1) (xm_drop 16 xm_c132) lv st G E kc ks = (xm_int2 .iadd st E (fun st E => xm_run call xm_c132 nL mc ms ret Q f (xm_drop 17 xm_c132) lv st G E kc ks)) := rfl
theorem xz_132_17 : xm_run call xm_c132 nL mc ms ret Q (f + 1) (xm_drop 17 xm_c132) lv st G E kc ks = (xm_putf 11 8 st G (fun st G => xm_run call xm_c132 nL mc ms ret Q f (xm_drop 18 xm_c132) lv st G E kc ks)) := rfl
theorem xz_132_18 : xm_run call xm_c132 nL mc ms ret Q (f + 1) (xm_drop 18 xm_c132) lv st G E kc ks = (xm_run call xm_c132 nL mc ms ret Q f (xm_drop 0 xm_c132) lv st G E kc ks) := rfl
theorem xz_132_19 : xm_run call xm_c132 nL mc ms ret Q (f + 1) (xm_drop 19 xm_c132) lv st G E kc ks = ((match xm_get lv 0 with
    | some w => bif xm_isA w then xm_run call xm_c132 nL mc ms ret Q f (xm_drop 20 xm_c132) lv (w :: st) G E kc ks else false
    | none => false)) := rfl
theorem xz_132_20 : xm_run call xm_c132 nL mc ms ret Q (f + 1) (xm_drop 20 xm_c132) lv st G E kc ks = (xm_getf 11 8 st G (fun st => xm_run call xm_c132 nL mc ms ret Q f (xm_drop 21 xm_c132) lv st G E kc ks)) := rfl
theorem xz_132_21 : xm_run call xm_c132 nL mc ms ret Q (f + 1) (xm_drop 21 xm_c132) lv st G E kc ks = ((match xm_get lv 0 with
    | some w => bif xm_isA w then xm_run call xm_c132 nL mc ms ret Q f (xm_drop 22 xm_c132) lv (w :: st) G E kc ks else false
    | none => false)) := rfl
theorem xz_132_22 : xm_run call xm_c132 nL mc ms ret Q (f + 1) (xm_drop 22 xm_c132) lv st G E kc ks = (xm_getf 11 1 st G (fun st => xm_run call xm_c132 nL mc ms ret Q f (xm_drop 23 xm_c132) lv st G E kc ks)) := rfl
theorem xz_132_23 : xm_run call xm_c132 nL mc ms ret Q (f + 1) (xm_drop 23 xm_c132) lv st G E kc ks = ((match st with
    | w :: u :: st => xm_cmpI E u w (fun E s => bif xm_holds .ge s then xm_run call xm_c132 nL mc ms ret Q f (xm_drop 32 xm_c132) lv st G E kc ks else xm_run call xm_c132 nL mc ms ret Q f (xm_drop 24 xm_c132) lv st G E kc ks)
    | _ => false)) := rfl
theorem xz_132_24 : xm_run call xm_c132 nL mc ms ret Q (f + 1) (xm_drop 24 xm_c132) lv st G E kc ks = ((match xm_get lv 0 with
    | some w => bif xm_isA w then xm_run call xm_c132 nL mc ms ret Q f (xm_drop 25 xm_c132) lv (w :: st) G E kc ks else false
    | none => false)) := rfl
theorem xz_132_25 : xm_run call xm_c132 nL mc ms ret Q (f + 1) (xm_drop 25 xm_c132) lv st G E kc ks = (xm_getf 11 0 st G (fun st => xm_run call xm_c132 nL mc ms ret Q f (xm_drop 26 xm_c132) lv st G E kc ks)) := rfl
theorem xz_132_26 : xm_run call xm_c132 nL mc ms ret Q (f + 1) (xm_drop 26 xm_c132) lv st G E kc ks = ((match xm_get lv 0 with
    | some w => bif xm_isA w then xm_run call xm_c132 nL mc ms ret Q f (xm_drop 27 xm_c132) lv (w :: st) G E kc ks else false
    | none => false)) := rfl
theorem xz_132_27 : xm_run call xm_c132 nL mc ms ret Q (f + 1) (xm_drop 27 xm_c132) lv st G E kc ks = (xm_getf 11 8 st G (fun st => xm_run call xm_c132 nL mc ms ret Q f (xm_drop 28 xm_c132) lv st G E kc ks)) := rfl
theorem xz_132_28 : xm_run call xm_c132 nL mc ms ret Q (f + 1) (xm_drop 28 xm_c132) lv st G E kc ks = (xm_bald st G E (fun st E => xm_run call xm_c132 nL mc ms ret Q f (xm_drop 29 xm_c132) lv st G E kc ks)) := rfl
theorem xz_132_29 : xm_run call xm_c132 nL mc ms ret Q (f + 1) (xm_drop 29 xm_c132) lv st G E kc ks = (xm_run call xm_c132 nL mc ms ret Q f (xm_drop 30 xm_c132) lv ((.int 255) :: st) G E kc ks) := rfl
theorem xz_132_30 : xm_run call xm_c132 nL mc ms ret Q (f + 1) (xm_drop 30 xm_c132) lv st G E kc ks = (xm_iand st E (fun st E => xm_run call xm_c132 nL mc ms ret Q f (xm_drop 31 xm_c132) lv st G E kc ks)) := rfl
theorem xz_132_31 : xm_run call xm_c132 nL mc ms ret Q (f + 1) (xm_drop 31 xm_c132) lv st G E kc ks = (xm_run call xm_c132 nL mc ms ret Q f (xm_drop 33 xm_c132) lv st G E kc ks) := rfl
theorem xz_132_32 : xm_run call xm_c132 nL mc ms ret Q (f + 1) (xm_drop 32 xm_c132) lv st G E kc ks = (xm_run call xm_c132 nL mc ms ret Q f (xm_drop 33 xm_c132) lv ((.int (-1)) :: st) G E kc ks) := rfl
theorem xz_132_33 : xm_run call xm_c132 nL mc ms ret Q (f + 1) (xm_drop 33 xm_c132) lv st G E kc ks = ((match st with
    | [w] => bif xm_isI w && (xm_rok ret w && (Nat.ble kc mc && Nat.ble ks ms)) then Q (some w) G E else false
    | _ => false)) := rfl
theorem xz_133_0 : xm_run call xm_c133 nL mc ms ret Q (f + 1) (xm_drop 0 xm_c133) lv st G E kc ks = ((match xm_get lv 1 with
    | some w => bif xm_isI w then xm_run call xm_c133 nL mc ms ret Q f (xm_drop 1 xm_c133) lv (w :: st) G E kc ks else false
    | none => false)) := rfl
theorem xz_133_1 : xm_run call xm_c133 nL mc ms ret Q (f + 1) (xm_drop 1 xm_c133) lv st G E kc ks = ((match xm_get lv 0 with
    | some w => bif xm_isA w then xm_run call xm_c133 nL mc ms ret Q f (xm_drop 2 xm_c133) lv (w :: st) G E kc ks else false
    | none => false)) := rfl
theorem xz_133_2 : xm_run call xm_c133 nL mc ms ret Q (f + 1) (xm_drop 2 xm_c133) lv st G E kc ks = (xm_getf 11 1 st G (fun st => xm_run call xm_c133 nL mc ms ret Q f (xm_drop 3 xm_c133) lv st G E kc ks)) := rfl
theorem xz_133_3 : xm_run call xm_c133 nL mc ms ret Q (f + 1) (xm_drop 3 xm_c133) lv st G E kc ks = ((match st with
    | w :: u :: st => xm_cmpI E u w (fun E s => bif xm_holds .ge s then xm_run call xm_c133 nL mc ms ret Q f (xm_drop 18 xm_c133) lv st G E kc ks else xm_run call xm_c133 nL mc ms ret Q f (xm_drop 4 xm_c133) lv st G E kc ks)
    | _ => false)) := rfl
theorem xz_133_4 : xm_run call xm_c133 nL mc ms ret Q (f + 1) (xm_drop 4 xm_c133) lv st G E kc ks = ((match xm_get lv 0 with
    | some w => bif xm_isA w then xm_run call xm_c133 nL mc ms ret Q f (xm_drop 5 xm_c133) lv (w :: st) G E kc ks else false
    | none => false)) := rfl
theorem xz_133_5 : xm_run call xm_c133 nL mc ms ret Q (f + 1) (xm_drop 5 xm_c133) lv st G E kc ks = (xm_getf 11 0 st G (fun st => xm_run call xm_c133 nL mc ms ret Q f (xm_drop 6 xm_c133) lv st G E kc ks)) := rfl
theorem xz_133_6 : xm_run call xm_c133 nL mc ms ret Q (f + 1) (xm_drop 6 xm_c133) lv st G E kc ks = ((match xm_get lv 1 with
    | some w => bif xm_isI w then xm_run call xm_c133 nL mc ms ret Q f (xm_drop 7 xm_c133) lv (w :: st) G E kc ks else false
    | none => false)) := rfl
theorem xz_133_7 : xm_run call xm_c133 nL mc ms ret Q (f + 1) (xm_drop 7 xm_c133) lv st G E kc ks = (xm_bald st G E (fun st E => xm_run call xm_c133 nL mc ms ret Q f (xm_drop 8 xm_c133) lv st G E kc ks)) := rfl
theorem xz_133_8 : xm_run call xm_c133 nL mc ms ret Q (f + 1) (xm_drop 8 xm_c133) lv st G E kc ks = (xm_run call xm_c133 nL mc ms ret Q f (xm_drop 9 xm_c133) lv ((.int 48) :: st) G E kc ks) := rfl
theorem xz_133_9 : xm_run call xm_c133 nL mc ms ret Q (f + 1) (xm_drop 9 xm_c133) lv st G E kc ks = ((match st with
    | w :: u :: st => xm_cmpI E u w (fun E s => bif xm_holds .lt s then xm_run call xm_c133 nL mc ms ret Q f (xm_drop 18 xm_c133) lv st G E kc ks else xm_run call xm_c133 nL mc ms ret Q f (xm_drop 10 xm_c133) lv st G E kc ks)
    | _ => false)) := rfl
theorem xz_133_10 : xm_run call xm_c133 nL mc ms ret Q (f + 1) (xm_drop 10 xm_c133) lv st G E kc ks = ((match xm_get lv 0 with
    | some w => bif xm_isA w then xm_run call xm_c133 nL mc ms ret Q f (xm_drop 11 xm_c133) lv (w :: st) G E kc ks else false
    | none => false)) := rfl
theorem xz_133_11 : xm_run call xm_c133 nL mc ms ret Q (f + 1) (xm_drop 11 xm_c133) lv st G E kc ks = (xm_getf 11 0 st G (fun st => xm_run call xm_c133 nL mc ms ret Q f (xm_drop 12 xm_c133) lv st G E kc ks)) := rfl
theorem xz_133_12 : xm_run call xm_c133 nL mc ms ret Q (f + 1) (xm_drop 12 xm_c133) lv st G E kc ks = ((match xm_get lv 1 with
    | some w => bif xm_isI w then xm_run call xm_c133 nL mc ms ret Q f (xm_drop 13 xm_c133) lv (w :: st) G E kc ks else false
    | none => false)) := rfl
theorem xz_133_13 : xm_run call xm_c133 nL mc ms ret Q (f + 1) (xm_drop 13 xm_c133) lv st G E kc ks = (xm_bald st G E (fun st E => xm_run call xm_c133 nL mc ms ret Q f (xm_drop 14 xm_c133) lv st G E kc ks)) := rfl
theorem xz_133_14 : xm_run call xm_c133 nL mc ms ret Q (f + 1) (xm_drop 14 xm_c133) lv st G E kc ks = (xm_run call xm_c133 nL mc ms ret Q f (xm_drop 15 xm_c133) lv ((.int 57) :: st) G E kc ks) := rfl
theorem xz_133_15 : xm_run call xm_c133 nL mc ms ret Q (f + 1) (xm_drop 15 xm_c133) lv st G E kc ks = ((match st with
    | w :: u :: st => xm_cmpI E u w (fun E s => bif xm_holds .gt s then xm_run call xm_c133 nL mc ms ret Q f (xm_drop 18 xm_c133) lv st G E kc ks else xm_run call xm_c133 nL mc ms ret Q f (xm_drop 16 xm_c133) lv st G E kc ks)
    | _ => false)) := rfl
theorem xz_133_16 : xm_run call xm_c133 nL mc ms ret Q (f + 1) (xm_drop 16 xm_c133) lv st G E kc ks = (xm_run call xm_c133 nL mc ms ret Q f (xm_drop 17 xm_c133) lv ((.int 1) :: st) G E kc ks) := rfl
theorem xz_133_17 : xm_run call xm_c133 nL mc ms ret Q (f + 1) (xm_drop 17 xm_c133) lv st G E kc ks = (xm_run call xm_c133 nL mc ms ret Q f (xm_drop 19 xm_c133) lv st G E kc ks) := rfl
theorem xz_133_18 : xm_run call xm_c133 nL mc ms ret Q (f + 1) (xm_drop 18 xm_c133) lv st G E kc ks = (xm_run call xm_c133 nL mc ms ret Q f (xm_drop 19 xm_c133) lv ((.int 0) :: st) G E kc ks) := rfl
theorem xz_133_19 : xm_run call xm_c133 nL mc ms ret Q (f + 1) (xm_drop 19 xm_c133) lv st G E kc ks = ((match st with
    | [w] => bif xm_isI w && (xm_rok ret w && (Nat.ble kc mc && Nat.ble ks ms)) then Q (some w) G E else false
    | _ => false)) := rfl
theorem xz_134_0 : xm_run call xm_c134 nL mc ms ret Q (f + 1) (xm_drop 0 xm_c134) lv st G E kc ks = ((match xm_get lv 1 with
    | some w => bif xm_isI w then xm_run call xm_c134 nL mc ms ret Q f (xm_drop 1 xm_c134) lv (w :: st) G E kc ks else false
    | none => false)) := rfl
theorem xz_134_1 : xm_run call xm_c134 nL mc ms ret Q (f + 1) (xm_drop 1 xm_c134) lv st G E kc ks = ((match xm_get lv 0 with
    | some w => bif xm_isA w then xm_run call xm_c134 nL mc ms ret Q f (xm_drop 2 xm_c134) lv (w :: st) G E kc ks else false
    | none => false)) := rfl
theorem xz_134_2 : xm_run call xm_c134 nL mc ms ret Q (f + 1) (xm_drop 2 xm_c134) lv st G E kc ks = (xm_getf 11 1 st G (fun st => xm_run call xm_c134 nL mc ms ret Q f (xm_drop 3 xm_c134) lv st G E kc ks)) := rfl
theorem xz_134_3 : xm_run call xm_c134 nL mc ms ret Q (f + 1) (xm_drop 3 xm_c134) lv st G E kc ks = ((match st with
    | w :: u :: st => xm_cmpI E u w (fun E s => bif xm_holds .ge s then xm_run call xm_c134 nL mc ms ret Q f (xm_drop 18 xm_c134) lv st G E kc ks else xm_run call xm_c134 nL mc ms ret Q f (xm_drop 4 xm_c134) lv st G E kc ks)
    | _ => false)) := rfl
theorem xz_134_4 : xm_run call xm_c134 nL mc ms ret Q (f + 1) (xm_drop 4 xm_c134) lv st G E kc ks = ((match xm_get lv 0 with
    | some w => bif xm_isA w then xm_run call xm_c134 nL mc ms ret Q f (xm_drop 5 xm_c134) lv (w :: st) G E kc ks else false
    | none => false)) := rfl
theorem xz_134_5 : xm_run call xm_c134 nL mc ms ret Q (f + 1) (xm_drop 5 xm_c134) lv st G E kc ks = (xm_getf 11 0 st G (fun st => xm_run call xm_c134 nL mc ms ret Q f (xm_drop 6 xm_c134) lv st G E kc ks)) := rfl
theorem xz_134_6 : xm_run call xm_c134 nL mc ms ret Q (f + 1) (xm_drop 6 xm_c134) lv st G E kc ks = ((match xm_get lv 1 with
    | some w => bif xm_isI w then xm_run call xm_c134 nL mc ms ret Q f (xm_drop 7 xm_c134) lv (w :: st) G E kc ks else false
    | none => false)) := rfl
theorem xz_134_7 : xm_run call xm_c134 nL mc ms ret Q (f + 1) (xm_drop 7 xm_c134) lv st G E kc ks = (xm_bald st G E (fun st E => xm_run call xm_c134 nL mc ms ret Q f (xm_drop 8 xm_c134) lv st G E kc ks)) := rfl
theorem xz_134_8 : xm_run call xm_c134 nL mc ms ret Q (f + 1) (xm_drop 8 xm_c134) lv st G E kc ks = (xm_run call xm_c134 nL mc ms ret Q f (xm_drop 9 xm_c134) lv ((.int 97) :: st) G E kc ks) := rfl
theorem xz_134_9 : xm_run call xm_c134 nL mc ms ret Q (f + 1) (xm_drop 9 xm_c134) lv st G E kc ks = ((match st with
    | w :: u :: st => xm_cmpI E u w (fun E s => bif xm_holds .lt s then xm_run call xm_c134 nL mc ms ret Q f (xm_drop 18 xm_c134) lv st G E kc ks else xm_run call xm_c134 nL mc ms ret Q f (xm_drop 10 xm_c134) lv st G E kc ks)
    | _ => false)) := rfl
theorem xz_134_10 : xm_run call xm_c134 nL mc ms ret Q (f + 1) (xm_drop 10 xm_c134) lv st G E kc ks = ((match xm_get lv 0 with
    | some w => bif xm_isA w then xm_run call xm_c134 nL mc ms ret Q f (xm_drop 11 xm_c134) lv (w :: st) G E kc ks else false
    | none => false)) := rfl
theorem xz_134_11 : xm_run call xm_c134 nL mc ms ret Q (f + 1) (xm_drop 11 xm_c134) lv st G E kc ks = (xm_getf 11 0 st G (fun st => xm_run call xm_c134 nL mc ms ret Q f (xm_drop 12 xm_c134) lv st G E kc ks)) := rfl
theorem xz_134_12 : xm_run call xm_c134 nL mc ms ret Q (f + 1) (xm_drop 12 xm_c134) lv st G E kc ks = ((match xm_get lv 1 with
    | some w => bif xm_isI w then xm_run call xm_c134 nL mc ms ret Q f (xm_drop 13 xm_c134) lv (w :: st) G E kc ks else false
    | none => false)) := rfl
theorem xz_134_13 : xm_run call xm_c134 nL mc ms ret Q (f + 1) (xm_drop 13 xm_c134) lv st G E kc ks = (xm_bald st G E (fun st E => xm_run call xm_c134 nL mc ms ret Q f (xm_drop 14 xm_c134) lv st G E kc ks)) := rfl
theorem xz_134_14 : xm_run call xm_c134 nL mc ms ret Q (f + 1) (xm_drop 14 xm_c134) lv st G E kc ks = (xm_run call xm_c134 nL mc ms ret Q f (xm_drop 15 xm_c134) lv ((.int 122) :: st) G E kc ks) := rfl
theorem xz_134_15 : xm_run call xm_c134 nL mc ms ret Q (f + 1) (xm_drop 15 xm_c134) lv st G E kc ks = ((match st with
    | w :: u :: st => xm_cmpI E u w (fun E s => bif xm_holds .gt s then xm_run call xm_c134 nL mc ms ret Q f (xm_drop 18 xm_c134) lv st G E kc ks else xm_run call xm_c134 nL mc ms ret Q f (xm_drop 16 xm_c134) lv st G E kc ks)
    | _ => false)) := rfl
theorem xz_134_16 : xm_run call xm_c134 nL mc ms ret Q (f + 1) (xm_drop 16 xm_c134) lv st G E kc ks = (xm_run call xm_c134 nL mc ms ret Q f (xm_drop 17 xm_c134) lv ((.int 1) :: st) G E kc ks) := rfl
theorem xz_134_17 : xm_run call xm_c134 nL mc ms ret Q (f + 1) (xm_drop 17 xm_c134) lv st G E kc ks = (xm_run call xm_c134 nL mc ms ret Q f (xm_drop 19 xm_c134) lv st G E kc ks) := rfl
theorem xz_134_18 : xm_run call xm_c134 nL mc ms ret Q (f + 1) (xm_drop 18 xm_c134) lv st G E kc ks = (xm_run call xm_c134 nL mc ms ret Q f (xm_drop 19 xm_c134) lv ((.int 0) :: st) G E kc ks) := rfl
theorem xz_134_19 : xm_run call xm_c134 nL mc ms ret Q (f + 1) (xm_drop 19 xm_c134) lv st G E kc ks = ((match st with
    | [w] => bif xm_isI w && (xm_rok ret w && (Nat.ble kc mc && Nat.ble ks ms)) then Q (some w) G E else false
    | _ => false)) := rfl
theorem xz_135_0 : xm_run call xm_c135 nL mc ms ret Q (f + 1) (xm_drop 0 xm_c135) lv st G E kc ks = ((match xm_get lv 0 with
    | some w => bif xm_isA w then xm_run call xm_c135 nL mc ms ret Q f (xm_drop 1 xm_c135) lv (w :: st) G E kc ks else false
    | none => false)) := rfl
theorem xz_135_1 : xm_run call xm_c135 nL mc ms ret Q (f + 1) (xm_drop 1 xm_c135) lv st G E kc ks = (bif Nat.beq 132 1006 || Nat.beq 132 1007 then xm_strl 132 st G (fun st => xm_run call xm_c135 nL mc ms ret Q f (xm_drop 2 xm_c135) lv st G E kc ks) else xm_call call mc ms 132 0 st G E kc ks (fun st G E kc ks => xm_run call xm_c135 nL mc ms ret Q f (xm_drop 2 xm_c135) lv st G E kc ks)) := rfl
theorem xz_135_2 : xm_run call xm_c135 nL mc ms ret Q (f + 1) (xm_drop 2 xm_c135) lv st G E kc ks = ((match st with
    | w :: st => bif xm_cat1 w then xm_run call xm_c135 nL mc ms ret Q f (xm_drop 3 xm_c135) lv st G E kc ks else false
    | _ => false)) := rfl
theorem xz_135_3 : xm_run call xm_c135 nL mc ms ret Q (f + 1) (xm_drop 3 xm_c135) lv st G E kc ks = (xm_run call xm_c135 nL mc ms ret Q f (xm_drop 4 xm_c135) lv ((.long 0) :: st) G E kc ks) := rfl
theorem xz_135_4 : xm_run call xm_c135 nL mc ms ret Q (f + 1) (xm_drop 4 xm_c135) lv st G E kc ks = ((match st with
    | w :: st => bif xm_isL w && Nat.blt (3 + 1) nL then xm_run call xm_c135 nL mc ms ret Q f (xm_drop 5 xm_c135) (xm_set2 lv 3 w) st G E kc ks else false
    | _ => false)) := rfl
theorem xz_135_5 : xm_run call xm_c135 nL mc ms ret Q (f + 1) (xm_drop 5 xm_c135) lv st G E kc ks = (xm_run call xm_c135 nL mc ms ret Q f (xm_drop 6 xm_c135) lv ((.int 0) :: st) G E kc ks) := rfl
theorem xz_135_6 : xm_run call xm_c135 nL mc ms ret Q (f + 1) (xm_drop 6 xm_c135) lv st G E kc ks = ((match st with
    | w :: st => bif xm_isI w && Nat.blt 5 nL then xm_run call xm_c135 nL mc ms ret Q f (xm_drop 7 xm_c135) (xm_set1 lv 5 w) st G E kc ks else false
    | _ => false)) := rfl
theorem xz_135_7 : xm_run call xm_c135 nL mc ms ret Q (f + 1) (xm_drop 7 xm_c135) lv st G E kc ks = ((match xm_get lv 0 with
    | some w => bif xm_isA w then xm_run call xm_c135 nL mc ms ret Q f (xm_drop 8 xm_c135) lv (w :: st) G E kc ks else false
    | none => false)) := rfl
theorem xz_135_8 : xm_run call xm_c135 nL mc ms ret Q (f + 1) (xm_drop 8 xm_c135) lv st G E kc ks = ((match xm_get lv 0 with
    | some w => bif xm_isA w then xm_run call xm_c135 nL mc ms ret Q f (xm_drop 9 xm_c135) lv (w :: st) G E kc ks else false
    | none => false)) := rfl
theorem xz_135_9 : xm_run call xm_c135 nL mc ms ret Q (f + 1) (xm_drop 9 xm_c135) lv st G E kc ks = (xm_getf 11 8 st G (fun st => xm_run call xm_c135 nL mc ms ret Q f (xm_drop 10 xm_c135) lv st G E kc ks)) := rfl
theorem xz_135_10 : xm_run call xm_c135 nL mc ms ret Q (f + 1) (xm_drop 10 xm_c135) lv st G E kc ks = ((match xm_get lv 5 with
    | some w => bif xm_isI w then xm_run call xm_c135 nL mc ms ret Q f (xm_drop 11 xm_c135) lv (w :: st) G E kc ks else false
    | none => false)) := rfl
theorem xz_135_11 : xm_run call xm_c135 nL mc ms ret Q (f + 1) (xm_drop 11 xm_c135) lv st G E kc ks = (xm_int2 .iadd st E (fun st E => xm_run call xm_c135 nL mc ms ret Q f (xm_drop 12 xm_c135) lv st G E kc ks)) := rfl
theorem xz_135_12 : xm_run call xm_c135 nL mc ms ret Q (f + 1) (xm_drop 12 xm_c135) lv st G E kc ks = (bif Nat.beq 134 1006 || Nat.beq 134 1007 then xm_strl 134 st G (fun st => xm_run call xm_c135 nL mc ms ret Q f (xm_drop 13 xm_c135) lv st G E kc ks) else xm_call call mc ms 134 0 st G E kc ks (fun st G E kc ks => xm_run call xm_c135 nL mc ms ret Q f (xm_drop 13 xm_c135) lv st G E kc ks)) := rfl
theorem xz_135_13 : xm_run call xm_c135 nL mc ms ret Q (f + 1) (xm_drop 13 xm_c135) lv st G E kc ks = ((match st with
    | w :: st => xm_cmpI E w (.int 0) (fun E s => bif xm_holds .eq s then xm_run call xm_c135 nL mc ms ret Q f (xm_drop 32 xm_c135) lv st G E kc ks else xm_run call xm_c135 nL mc ms ret Q f (xm_drop 14 xm_c135) lv st G E kc ks)
    | _ => false)) := rfl
theorem xz_135_14 : xm_run call xm_c135 nL mc ms ret Q (f + 1) (xm_drop 14 xm_c135) lv st G E kc ks = ((match xm_get lv 5 with
    | some w => bif xm_isI w then xm_run call xm_c135 nL mc ms ret Q f (xm_drop 15 xm_c135) lv (w :: st) G E kc ks else false
    | none => false)) := rfl
theorem xz_135_15 : xm_run call xm_c135 nL mc ms ret Q (f + 1) (xm_drop 15 xm_c135) lv st G E kc ks = (xm_run call xm_c135 nL mc ms ret Q f (xm_drop 16 xm_c135) lv ((.int 8) :: st) G E kc ks) := rfl
theorem xz_135_16 : xm_run call xm_c135 nL mc ms ret Q (f + 1) (xm_drop 16 xm_c135) lv st G E kc ks = ((match st with
    | w :: u :: st => xm_cmpI E u w (fun E s => bif xm_holds .ge s then xm_run call xm_c135 nL mc ms ret Q f (xm_drop 30 xm_c135) lv st G E kc ks else xm_run call xm_c135 nL mc ms ret Q f (xm_drop 17 xm_c135) lv st G E kc ks)
    | _ => false)) := rfl
theorem xz_135_17 : xm_run call xm_c135 nL mc ms ret Q (f + 1) (xm_drop 17 xm_c135) lv st G E kc ks = ((match xm_get lv 3 with
    | some w => bif xm_isL w then xm_run call xm_c135 nL mc ms ret Q f (xm_drop 18 xm_c135) lv (w :: st) G E kc ks else false
    | none => false)) := rfl
theorem xz_135_18 : xm_run call xm_c135 nL mc ms ret Q (f + 1) (xm_drop 18 xm_c135) lv st G E kc ks = (xm_run call xm_c135 nL mc ms ret Q f (xm_drop 19 xm_c135) lv ((.int 8) :: st) G E kc ks) := rfl
theorem xz_135_19 : xm_run call xm_c135 nL mc ms ret Q (f + 1) (xm_drop 19 xm_c135) lv st G E kc ks = ((match st with
    | .int y :: .long x :: st => xm_run call xm_c135 nL mc ms ret Q f (xm_drop 20 xm_c135) lv (.long (x <<< (y.toInt64 &&& 63)) :: st) G E kc ks
    | _ => false)) := rfl
theorem xz_135_20 : xm_run call xm_c135 nL mc ms ret Q (f + 1) (xm_drop 20 xm_c135) lv st G E kc ks = ((match xm_get lv 0 with
    | some w => bif xm_isA w then xm_run call xm_c135 nL mc ms ret Q f (xm_drop 21 xm_c135) lv (w :: st) G E kc ks else false
    | none => false)) := rfl
theorem xz_135_21 : xm_run call xm_c135 nL mc ms ret Q (f + 1) (xm_drop 21 xm_c135) lv st G E kc ks = (xm_getf 11 0 st G (fun st => xm_run call xm_c135 nL mc ms ret Q f (xm_drop 22 xm_c135) lv st G E kc ks)) := rfl
theorem xz_135_22 : xm_run call xm_c135 nL mc ms ret Q (f + 1) (xm_drop 22 xm_c135) lv st G E kc ks = ((match xm_get lv 0 with
    | some w => bif xm_isA w then xm_run call xm_c135 nL mc ms ret Q f (xm_drop 23 xm_c135) lv (w :: st) G E kc ks else false
    | none => false)) := rfl
theorem xz_135_23 : xm_run call xm_c135 nL mc ms ret Q (f + 1) (xm_drop 23 xm_c135) lv st G E kc ks = (xm_getf 11 8 st G (fun st => xm_run call xm_c135 nL mc ms ret Q f (xm_drop 24 xm_c135) lv st G E kc ks)) := rfl
theorem xz_135_24 : xm_run call xm_c135 nL mc ms ret Q (f + 1) (xm_drop 24 xm_c135) lv st G E kc ks = ((match xm_get lv 5 with
    | some w => bif xm_isI w then xm_run call xm_c135 nL mc ms ret Q f (xm_drop 25 xm_c135) lv (w :: st) G E kc ks else false
    | none => false)) := rfl
theorem xz_135_25 : xm_run call xm_c135 nL mc ms ret Q (f + 1) (xm_drop 25 xm_c135) lv st G E kc ks = (xm_int2 .iadd st E (fun st E => xm_run call xm_c135 nL mc ms ret Q f (xm_drop 26 xm_c135) lv st G E kc ks)) := rfl
theorem xz_135_26 : xm_run call xm_c135 nL mc ms ret Q (f + 1) (xm_drop 26 xm_c135) lv st G E kc ks = (xm_bald st G E (fun st E => xm_run call xm_c135 nL mc ms ret Q f (xm_drop 27 xm_c135) lv st G E kc ks)) := rfl
theorem xz_135_27 : xm_run call xm_c135 nL mc ms ret Q (f + 1) (xm_drop 27 xm_c135) lv st G E kc ks = (xm_i2l st (fun st => xm_run call xm_c135 nL mc ms ret Q f (xm_drop 28 xm_c135) lv st G E kc ks)) := rfl
theorem xz_135_28 : xm_run call xm_c135 nL mc ms ret Q (f + 1) (xm_drop 28 xm_c135) lv st G E kc ks = (xm_long2 .lor st (fun st => xm_run call xm_c135 nL mc ms ret Q f (xm_drop 29 xm_c135) lv st G E kc ks)) := rfl
theorem xz_135_29 : xm_run call xm_c135 nL mc ms ret Q (f + 1) (xm_drop 29 xm_c135) lv st G E kc ks = ((match st with
    | w :: st => bif xm_isL w && Nat.blt (3 + 1) nL then xm_run call xm_c135 nL mc ms ret Q f (xm_drop 30 xm_c135) (xm_set2 lv 3 w) st G E kc ks else false
    | _ => false)) := rfl
theorem xz_135_30 : xm_run call xm_c135 nL mc ms ret Q (f + 1) (xm_drop 30 xm_c135) lv st G E kc ks = ((match xm_get lv 5 with
    | some w => bif Nat.blt 5 nL then xm_conc E w (fun E x => xm_frc (x + Int32.ofInt 1) (fun z => xm_run call xm_c135 nL mc ms ret Q f (xm_drop 31 xm_c135) (xm_set1 lv 5 (.int z)) st G E kc ks)) else false
    | none => false)) := rfl
theorem xz_135_31 : xm_run call xm_c135 nL mc ms ret Q (f + 1) (xm_drop 31 xm_c135) lv st G E kc ks = (xm_run call xm_c135 nL mc ms ret Q f (xm_drop 7 xm_c135) lv st G E kc ks) := rfl
theorem xz_135_32 : xm_run call xm_c135 nL mc ms ret Q (f + 1) (xm_drop 32 xm_c135) lv st G E kc ks = ((match xm_get lv 5 with
    | some w => bif xm_isI w then xm_run call xm_c135 nL mc ms ret Q f (xm_drop 33 xm_c135) lv (w :: st) G E kc ks else false
    | none => false)) := rfl
theorem xz_135_33 : xm_run call xm_c135 nL mc ms ret Q (f + 1) (xm_drop 33 xm_c135) lv st G E kc ks = ((match st with
    | w :: st => xm_cmpI E w (.int 0) (fun E s => bif xm_holds .le s then xm_run call xm_c135 nL mc ms ret Q f (xm_drop 43 xm_c135) lv st G E kc ks else xm_run call xm_c135 nL mc ms ret Q f (xm_drop 34 xm_c135) lv st G E kc ks)
    | _ => false)) := rfl
theorem xz_135_34 : xm_run call xm_c135 nL mc ms ret Q (f + 1) (xm_drop 34 xm_c135) lv st G E kc ks = ((match xm_get lv 5 with
    | some w => bif xm_isI w then xm_run call xm_c135 nL mc ms ret Q f (xm_drop 35 xm_c135) lv (w :: st) G E kc ks else false
    | none => false)) := rfl
theorem xz_135_35 : xm_run call xm_c135 nL mc ms ret Q (f + 1) (xm_drop 35 xm_c135) lv st G E kc ks = (xm_run call xm_c135 nL mc ms ret Q f (xm_drop 36 xm_c135) lv ((.int 8) :: st) G E kc ks) := rfl
theorem xz_135_36 : xm_run call xm_c135 nL mc ms ret Q (f + 1) (xm_drop 36 xm_c135) lv st G E kc ks = ((match st with
    | w :: u :: st => xm_cmpI E u w (fun E s => bif xm_holds .ge s then xm_run call xm_c135 nL mc ms ret Q f (xm_drop 43 xm_c135) lv st G E kc ks else xm_run call xm_c135 nL mc ms ret Q f (xm_drop 37 xm_c135) lv st G E kc ks)
    | _ => false)) := rfl
theorem xz_135_37 : xm_run call xm_c135 nL mc ms ret Q (f + 1) (xm_drop 37 xm_c135) lv st G E kc ks = ((match xm_get lv 3 with
    | some w => bif xm_isL w then xm_run call xm_c135 nL mc ms ret Q f (xm_drop 38 xm_c135) lv (w :: st) G E kc ks else false
    | none => false)) := rfl
theorem xz_135_38 : xm_run call xm_c135 nL mc ms ret Q (f + 1) (xm_drop 38 xm_c135) lv st G E kc ks = ((match xm_get lv 1 with
    | some w => bif xm_isL w then xm_run call xm_c135 nL mc ms ret Q f (xm_drop 39 xm_c135) lv (w :: st) G E kc ks else false
    | none => false)) := rfl
theorem xz_135_39 : xm_run call xm_c135 nL mc ms ret Q (f + 1) (xm_drop 39 xm_c135) lv st G E kc ks = ((match st with
    | w :: u :: st => xm_cmpL E u w (fun E s => xm_run call xm_c135 nL mc ms ret Q f (xm_drop 40 xm_c135) lv (.int (Int32.ofInt s) :: st) G E kc ks)
    | _ => false)) := rfl
theorem xz_135_40 : xm_run call xm_c135 nL mc ms ret Q (f + 1) (xm_drop 40 xm_c135) lv st G E kc ks = ((match st with
    | w :: st => xm_cmpI E w (.int 0) (fun E s => bif xm_holds .ne s then xm_run call xm_c135 nL mc ms ret Q f (xm_drop 43 xm_c135) lv st G E kc ks else xm_run call xm_c135 nL mc ms ret Q f (xm_drop 41 xm_c135) lv st G E kc ks)
    | _ => false)) := rfl
theorem xz_135_41 : xm_run call xm_c135 nL mc ms ret Q (f + 1) (xm_drop 41 xm_c135) lv st G E kc ks = (xm_run call xm_c135 nL mc ms ret Q f (xm_drop 42 xm_c135) lv ((.int 1) :: st) G E kc ks) := rfl
theorem xz_135_42 : xm_run call xm_c135 nL mc ms ret Q (f + 1) (xm_drop 42 xm_c135) lv st G E kc ks = (xm_run call xm_c135 nL mc ms ret Q f (xm_drop 44 xm_c135) lv st G E kc ks) := rfl
theorem xz_135_43 : xm_run call xm_c135 nL mc ms ret Q (f + 1) (xm_drop 43 xm_c135) lv st G E kc ks = (xm_run call xm_c135 nL mc ms ret Q f (xm_drop 44 xm_c135) lv ((.int 0) :: st) G E kc ks) := rfl
theorem xz_135_44 : xm_run call xm_c135 nL mc ms ret Q (f + 1) (xm_drop 44 xm_c135) lv st G E kc ks = ((match st with
    | [w] => bif xm_isI w && (xm_rok ret w && (Nat.ble kc mc && Nat.ble ks ms)) then Q (some w) G E else false
    | _ => false)) := rfl
theorem xz_136_0 : xm_run call xm_c136 nL mc ms ret Q (f + 1) (xm_drop 0 xm_c136) lv st G E kc ks = ((match xm_get lv 0 with
    | some w => bif xm_isA w then xm_run call xm_c136 nL mc ms ret Q f (xm_drop 1 xm_c136) lv (w :: st) G E kc ks else false
    | none => false)) := rfl
theorem xz_136_1 : xm_run call xm_c136 nL mc ms ret Q (f + 1) (xm_drop 1 xm_c136) lv st G E kc ks = ((match xm_get lv 0 with
    | some w => bif xm_isA w then xm_run call xm_c136 nL mc ms ret Q f (xm_drop 2 xm_c136) lv (w :: st) G E kc ks else false
    | none => false)) := rfl
theorem xz_136_2 : xm_run call xm_c136 nL mc ms ret Q (f + 1) (xm_drop 2 xm_c136) lv st G E kc ks = (xm_getf 11 8 st G (fun st => xm_run call xm_c136 nL mc ms ret Q f (xm_drop 3 xm_c136) lv st G E kc ks)) := rfl
theorem xz_136_3 : xm_run call xm_c136 nL mc ms ret Q (f + 1) (xm_drop 3 xm_c136) lv st G E kc ks = (bif Nat.beq 134 1006 || Nat.beq 134 1007 then xm_strl 134 st G (fun st => xm_run call xm_c136 nL mc ms ret Q f (xm_drop 4 xm_c136) lv st G E kc ks) else xm_call call mc ms 134 0 st G E kc ks (fun st G E kc ks => xm_run call xm_c136 nL mc ms ret Q f (xm_drop 4 xm_c136) lv st G E kc ks)) := rfl
theorem xz_136_4 : xm_run call xm_c136 nL mc ms ret Q (f + 1) (xm_drop 4 xm_c136) lv st G E kc ks = ((match st with
    | w :: st => xm_cmpI E w (.int 0) (fun E s => bif xm_holds .eq s then xm_run call xm_c136 nL mc ms ret Q f (xm_drop 12 xm_c136) lv st G E kc ks else xm_run call xm_c136 nL mc ms ret Q f (xm_drop 5 xm_c136) lv st G E kc ks)
    | _ => false)) := rfl
theorem xz_136_5 : xm_run call xm_c136 nL mc ms ret Q (f + 1) (xm_drop 5 xm_c136) lv st G E kc ks = ((match xm_get lv 0 with
    | some w => bif xm_isA w then xm_run call xm_c136 nL mc ms ret Q f (xm_drop 6 xm_c136) lv (w :: st) G E kc ks else false
    | none => false)) := rfl
theorem xz_136_6 : xm_run call xm_c136 nL mc ms ret Q (f + 1) (xm_drop 6 xm_c136) lv st G E kc ks = ((match st with
    | w :: st => bif xm_cat1 w then xm_run call xm_c136 nL mc ms ret Q f (xm_drop 7 xm_c136) lv (w :: w :: st) G E kc ks else false
    | _ => false)) := rfl
theorem xz_136_7 : xm_run call xm_c136 nL mc ms ret Q (f + 1) (xm_drop 7 xm_c136) lv st G E kc ks = (xm_getf 11 8 st G (fun st => xm_run call xm_c136 nL mc ms ret Q f (xm_drop 8 xm_c136) lv st G E kc ks)) := rfl
theorem xz_136_8 : xm_run call xm_c136 nL mc ms ret Q (f + 1) (xm_drop 8 xm_c136) lv st G E kc ks = (xm_run call xm_c136 nL mc ms ret Q f (xm_drop 9 xm_c136) lv ((.int 1) :: st) G E kc ks) := rfl
theorem xz_136_9 : xm_run call xm_c136 nL mc ms ret Q (f + 1) (xm_drop 9 xm_c136) lv st G E kc ks = (xm_int2 .iadd st E (fun st E => xm_run call xm_c136 nL mc ms ret Q f (xm_drop 10 xm_c136) lv st G E kc ks)) := rfl
theorem xz_136_10 : xm_run call xm_c136 nL mc ms ret Q (f + 1) (xm_drop 10 xm_c136) lv st G E kc ks = (xm_putf 11 8 st G (fun st G => xm_run call xm_c136 nL mc ms ret Q f (xm_drop 11 xm_c136) lv st G E kc ks)) := rfl
theorem xz_136_11 : xm_run call xm_c136 nL mc ms ret Q (f + 1) (xm_drop 11 xm_c136) lv st G E kc ks = (xm_run call xm_c136 nL mc ms ret Q f (xm_drop 0 xm_c136) lv st G E kc ks) := rfl
theorem xz_136_12 : xm_run call xm_c136 nL mc ms ret Q (f + 1) (xm_drop 12 xm_c136) lv st G E kc ks = ((match st with
    | [] => bif ret.isNone && (Nat.ble kc mc && Nat.ble ks ms) then Q none G E else false
    | _ => false)) := rfl
theorem xz_137_0 : xm_run call xm_c137 nL mc ms ret Q (f + 1) (xm_drop 0 xm_c137) lv st G E kc ks = ((match xm_get lv 0 with
    | some w => bif xm_isA w then xm_run call xm_c137 nL mc ms ret Q f (xm_drop 1 xm_c137) lv (w :: st) G E kc ks else false
    | none => false)) := rfl
theorem xz_137_1 : xm_run call xm_c137 nL mc ms ret Q (f + 1) (xm_drop 1 xm_c137) lv st G E kc ks = ((match xm_get lv 1 with
    | some w => bif xm_isL w then xm_run call xm_c137 nL mc ms ret Q f (xm_drop 2 xm_c137) lv (w :: st) G E kc ks else false
    | none => false)) := rfl
theorem xz_137_2 : xm_run call xm_c137 nL mc ms ret Q (f + 1) (xm_drop 2 xm_c137) lv st G E kc ks = (bif Nat.beq 135 1006 || Nat.beq 135 1007 then xm_strl 135 st G (fun st => xm_run call xm_c137 nL mc ms ret Q f (xm_drop 3 xm_c137) lv st G E kc ks) else xm_call call mc ms 135 0 st G E kc ks (fun st G E kc ks => xm_run call xm_c137 nL mc ms ret Q f (xm_drop 3 xm_c137) lv st G E kc ks)) := rfl
theorem xz_137_3 : xm_run call xm_c137 nL mc ms ret Q (f + 1) (xm_drop 3 xm_c137) lv st G E kc ks = ((match st with
    | w :: st => xm_cmpI E w (.int 0) (fun E s => bif xm_holds .ne s then xm_run call xm_c137 nL mc ms ret Q f (xm_drop 6 xm_c137) lv st G E kc ks else xm_run call xm_c137 nL mc ms ret Q f (xm_drop 4 xm_c137) lv st G E kc ks)
    | _ => false)) := rfl
theorem xz_137_4 : xm_run call xm_c137 nL mc ms ret Q (f + 1) (xm_drop 4 xm_c137) lv st G E kc ks = (xm_run call xm_c137 nL mc ms ret Q f (xm_drop 5 xm_c137) lv ((.int 0) :: st) G E kc ks) := rfl
theorem xz_137_5 : xm_run call xm_c137 nL mc ms ret Q (f + 1) (xm_drop 5 xm_c137) lv st G E kc ks = ((match st with
    | [w] => bif xm_isI w && (xm_rok ret w && (Nat.ble kc mc && Nat.ble ks ms)) then Q (some w) G E else false
    | _ => false)) := rfl
theorem xz_137_6 : xm_run call xm_c137 nL mc ms ret Q (f + 1) (xm_drop 6 xm_c137) lv st G E kc ks = ((match xm_get lv 0 with
    | some w => bif xm_isA w then xm_run call xm_c137 nL mc ms ret Q f (xm_drop 7 xm_c137) lv (w :: st) G E kc ks else false
    | none => false)) := rfl
theorem xz_137_7 : xm_run call xm_c137 nL mc ms ret Q (f + 1) (xm_drop 7 xm_c137) lv st G E kc ks = (bif Nat.beq 136 1006 || Nat.beq 136 1007 then xm_strl 136 st G (fun st => xm_run call xm_c137 nL mc ms ret Q f (xm_drop 8 xm_c137) lv st G E kc ks) else xm_call call mc ms 136 0 st G E kc ks (fun st G E kc ks => xm_run call xm_c137 nL mc ms ret Q f (xm_drop 8 xm_c137) lv st G E kc ks)) := rfl
theorem xz_137_8 : xm_run call xm_c137 nL mc ms ret Q (f + 1) (xm_drop 8 xm_c137) lv st G E kc ks = (xm_run call xm_c137 nL mc ms ret Q f (xm_drop 9 xm_c137) lv ((.int 1) :: st) G E kc ks) := rfl
theorem xz_137_9 : xm_run call xm_c137 nL mc ms ret Q (f + 1) (xm_drop 9 xm_c137) lv st G E kc ks = ((match st with
    | [w] => bif xm_isI w && (xm_rok ret w && (Nat.ble kc mc && Nat.ble ks ms)) then Q (some w) G E else false
    | _ => false)) := rfl
theorem xz_138_0 : xm_run call xm_c138 nL mc ms ret Q (f + 1) (xm_drop 0 xm_c138) lv st G E kc ks = ((match xm_get lv 0 with
    | some w => bif xm_isA w then xm_run call xm_c138 nL mc ms ret Q f (xm_drop 1 xm_c138) lv (w :: st) G E kc ks else false
    | none => false)) := rfl
theorem xz_138_1 : xm_run call xm_c138 nL mc ms ret Q (f + 1) (xm_drop 1 xm_c138) lv st G E kc ks = (bif Nat.beq 132 1006 || Nat.beq 132 1007 then xm_strl 132 st G (fun st => xm_run call xm_c138 nL mc ms ret Q f (xm_drop 2 xm_c138) lv st G E kc ks) else xm_call call mc ms 132 0 st G E kc ks (fun st G E kc ks => xm_run call xm_c138 nL mc ms ret Q f (xm_drop 2 xm_c138) lv st G E kc ks)) := rfl
theorem xz_138_2 : xm_run call xm_c138 nL mc ms ret Q (f + 1) (xm_drop 2 xm_c138) lv st G E kc ks = ((match st with
    | w :: st => bif xm_cat1 w then xm_run call xm_c138 nL mc ms ret Q f (xm_drop 3 xm_c138) lv st G E kc ks else false
    | _ => false)) := rfl
theorem xz_138_3 : xm_run call xm_c138 nL mc ms ret Q (f + 1) (xm_drop 3 xm_c138) lv st G E kc ks = ((match xm_get lv 0 with
    | some w => bif xm_isA w then xm_run call xm_c138 nL mc ms ret Q f (xm_drop 4 xm_c138) lv (w :: st) G E kc ks else false
    | none => false)) := rfl
theorem xz_138_4 : xm_run call xm_c138 nL mc ms ret Q (f + 1) (xm_drop 4 xm_c138) lv st G E kc ks = ((match xm_get lv 0 with
    | some w => bif xm_isA w then xm_run call xm_c138 nL mc ms ret Q f (xm_drop 5 xm_c138) lv (w :: st) G E kc ks else false
    | none => false)) := rfl
theorem xz_138_5 : xm_run call xm_c138 nL mc ms ret Q (f + 1) (xm_drop 5 xm_c138) lv st G E kc ks = (xm_getf 11 8 st G (fun st => xm_run call xm_c138 nL mc ms ret Q f (xm_drop 6 xm_c138) lv st G E kc ks)) := rfl
theorem xz_138_6 : xm_run call xm_c138 nL mc ms ret Q (f + 1) (xm_drop 6 xm_c138) lv st G E kc ks = (bif Nat.beq 133 1006 || Nat.beq 133 1007 then xm_strl 133 st G (fun st => xm_run call xm_c138 nL mc ms ret Q f (xm_drop 7 xm_c138) lv st G E kc ks) else xm_call call mc ms 133 0 st G E kc ks (fun st G E kc ks => xm_run call xm_c138 nL mc ms ret Q f (xm_drop 7 xm_c138) lv st G E kc ks)) := rfl
theorem xz_138_7 : xm_run call xm_c138 nL mc ms ret Q (f + 1) (xm_drop 7 xm_c138) lv st G E kc ks = ((match st with
    | w :: st => xm_cmpI E w (.int 0) (fun E s => bif xm_holds .ne s then xm_run call xm_c138 nL mc ms ret Q f (xm_drop 14 xm_c138) lv st G E kc ks else xm_run call xm_c138 nL mc ms ret Q f (xm_drop 8 xm_c138) lv st G E kc ks)
    | _ => false)) := rfl
theorem xz_138_8 : xm_run call xm_c138 nL mc ms ret Q (f + 1) (xm_drop 8 xm_c138) lv st G E kc ks = ((match xm_get lv 0 with
    | some w => bif xm_isA w then xm_run call xm_c138 nL mc ms ret Q f (xm_drop 9 xm_c138) lv (w :: st) G E kc ks else false
    | none => false)) := rfl
theorem xz_138_9 : xm_run call xm_c138 nL mc ms ret Q (f + 1) (xm_drop 9 xm_c138) lv st G E kc ks = (xm_run call xm_c138 nL mc ms ret Q f (xm_drop 10 xm_c138) lv ((.int 0) :: st) G E kc ks) := rfl
theorem xz_138_10 : xm_run call xm_c138 nL mc ms ret Q (f + 1) (xm_drop 10 xm_c138) lv st G E kc ks = ((match xm_get lv 0 with
    | some w => bif xm_isA w then xm_run call xm_c138 nL mc ms ret Q f (xm_drop 11 xm_c138) lv (w :: st) G E kc ks else false
    | none => false)) := rfl
theorem xz_138_11 : xm_run call xm_c138 nL mc ms ret Q (f + 1) (xm_drop 11 xm_c138) lv st G E kc ks = (xm_getf 11 8 st G (fun st => xm_run call xm_c138 nL mc ms ret Q f (xm_drop 12 xm_c138) lv st G E kc ks)) := rfl
theorem xz_138_12 : xm_run call xm_c138 nL mc ms ret Q (f + 1) (xm_drop 12 xm_c138) lv st G E kc ks = (bif Nat.beq 131 1006 || Nat.beq 131 1007 then xm_strl 131 st G (fun st => xm_run call xm_c138 nL mc ms ret Q f (xm_drop 13 xm_c138) lv st G E kc ks) else xm_call call mc ms 131 0 st G E kc ks (fun st G E kc ks => xm_run call xm_c138 nL mc ms ret Q f (xm_drop 13 xm_c138) lv st G E kc ks)) := rfl
theorem xz_138_13 : xm_run call xm_c138 nL mc ms ret Q (f + 1) (xm_drop 13 xm_c138) lv st G E kc ks = ((match st with
    | [w] => bif xm_isI w && (xm_rok ret w && (Nat.ble kc mc && Nat.ble ks ms)) then Q (some w) G E else false
    | _ => false)) := rfl
theorem xz_138_14 : xm_run call xm_c138 nL mc ms ret Q (f + 1) (xm_drop 14 xm_c138) lv st G E kc ks = ((match xm_get lv 0 with
    | some w => bif xm_isA w then xm_run call xm_c138 nL mc ms ret Q f (xm_drop 15 xm_c138) lv (w :: st) G E kc ks else false
    | none => false)) := rfl
theorem xz_138_15 : xm_run call xm_c138 nL mc ms ret Q (f + 1) (xm_drop 15 xm_c138) lv st G E kc ks = (xm_getf 11 8 st G (fun st => xm_run call xm_c138 nL mc ms ret Q f (xm_drop 16 xm_c138) lv st G E kc ks)) := rfl
theorem xz_138_16 : xm_run call xm_c138 nL mc ms ret Q (f + 1) (xm_drop 16 xm_c138) lv st G E kc ks = ((match st with
    | w :: st => bif xm_isI w && Nat.blt 3 nL then xm_run call xm_c138 nL mc ms ret Q f (xm_drop 17 xm_c138) (xm_set1 lv 3 w) st G E kc ks else false
    | _ => false)) := rfl
theorem xz_138_17 : xm_run call xm_c138 nL mc ms ret Q (f + 1) (xm_drop 17 xm_c138) lv st G E kc ks = (xm_run call xm_c138 nL mc ms ret Q f (xm_drop 18 xm_c138) lv ((.int 0) :: st) G E kc ks) := rfl
theorem xz_138_18 : xm_run call xm_c138 nL mc ms ret Q (f + 1) (xm_drop 18 xm_c138) lv st G E kc ks = ((match st with
    | w :: st => bif xm_isI w && Nat.blt 4 nL then xm_run call xm_c138 nL mc ms ret Q f (xm_drop 19 xm_c138) (xm_set1 lv 4 w) st G E kc ks else false
    | _ => false)) := rfl
theorem xz_138_19 : xm_run call xm_c138 nL mc ms ret Q (f + 1) (xm_drop 19 xm_c138) lv st G E kc ks = ((match xm_get lv 0 with
    | some w => bif xm_isA w then xm_run call xm_c138 nL mc ms ret Q f (xm_drop 20 xm_c138) lv (w :: st) G E kc ks else false
    | none => false)) := rfl
theorem xz_138_20 : xm_run call xm_c138 nL mc ms ret Q (f + 1) (xm_drop 20 xm_c138) lv st G E kc ks = ((match xm_get lv 0 with
    | some w => bif xm_isA w then xm_run call xm_c138 nL mc ms ret Q f (xm_drop 21 xm_c138) lv (w :: st) G E kc ks else false
    | none => false)) := rfl
theorem xz_138_21 : xm_run call xm_c138 nL mc ms ret Q (f + 1) (xm_drop 21 xm_c138) lv st G E kc ks = (xm_getf 11 8 st G (fun st => xm_run call xm_c138 nL mc ms ret Q f (xm_drop 22 xm_c138) lv st G E kc ks)) := rfl
theorem xz_138_22 : xm_run call xm_c138 nL mc ms ret Q (f + 1) (xm_drop 22 xm_c138) lv st G E kc ks = (bif Nat.beq 133 1006 || Nat.beq 133 1007 then xm_strl 133 st G (fun st => xm_run call xm_c138 nL mc ms ret Q f (xm_drop 23 xm_c138) lv st G E kc ks) else xm_call call mc ms 133 0 st G E kc ks (fun st G E kc ks => xm_run call xm_c138 nL mc ms ret Q f (xm_drop 23 xm_c138) lv st G E kc ks)) := rfl
theorem xz_138_23 : xm_run call xm_c138 nL mc ms ret Q (f + 1) (xm_drop 23 xm_c138) lv st G E kc ks = ((match st with
    | w :: st => xm_cmpI E w (.int 0) (fun E s => bif xm_holds .eq s then xm_run call xm_c138 nL mc ms ret Q f (xm_drop 49 xm_c138) lv st G E kc ks else xm_run call xm_c138 nL mc ms ret Q f (xm_drop 24 xm_c138) lv st G E kc ks)
    | _ => false)) := rfl
theorem xz_138_24 : xm_run call xm_c138 nL mc ms ret Q (f + 1) (xm_drop 24 xm_c138) lv st G E kc ks = ((match xm_get lv 0 with
    | some w => bif xm_isA w then xm_run call xm_c138 nL mc ms ret Q f (xm_drop 25 xm_c138) lv (w :: st) G E kc ks else false
    | none => false)) := rfl
theorem xz_138_25 : xm_run call xm_c138 nL mc ms ret Q (f + 1) (xm_drop 25 xm_c138) lv st G E kc ks = (xm_getf 11 8 st G (fun st => xm_run call xm_c138 nL mc ms ret Q f (xm_drop 26 xm_c138) lv st G E kc ks)) := rfl
theorem xz_138_26 : xm_run call xm_c138 nL mc ms ret Q (f + 1) (xm_drop 26 xm_c138) lv st G E kc ks = ((match xm_get lv 3 with
    | some w => bif xm_isI w then xm_run call xm_c138 nL mc ms ret Q f (xm_drop 27 xm_c138) lv (w :: st) G E kc ks else false
    | none => false)) := rfl
theorem xz_138_27 : xm_run call xm_c138 nL mc ms ret Q (f + 1) (xm_drop 27 xm_c138) lv st G E kc ks = (xm_int2 .isub st E (fun st E => xm_run call xm_c138 nL mc ms ret Q f (xm_drop 28 xm_c138) lv st G E kc ks)) := rfl
theorem xz_138_28 : xm_run call xm_c138 nL mc ms ret Q (f + 1) (xm_drop 28 xm_c138) lv st G E kc ks = (xm_run call xm_c138 nL mc ms ret Q f (xm_drop 29 xm_c138) lv ((.int 5) :: st) G E kc ks) := rfl
theorem xz_138_29 : xm_run call xm_c138 nL mc ms ret Q (f + 1) (xm_drop 29 xm_c138) lv st G E kc ks = ((match st with
    | w :: u :: st => xm_cmpI E u w (fun E s => bif xm_holds .ge s then xm_run call xm_c138 nL mc ms ret Q f (xm_drop 42 xm_c138) lv st G E kc ks else xm_run call xm_c138 nL mc ms ret Q f (xm_drop 30 xm_c138) lv st G E kc ks)
    | _ => false)) := rfl
theorem xz_138_30 : xm_run call xm_c138 nL mc ms ret Q (f + 1) (xm_drop 30 xm_c138) lv st G E kc ks = (xm_run call xm_c138 nL mc ms ret Q f (xm_drop 31 xm_c138) lv ((.int 10) :: st) G E kc ks) := rfl
theorem xz_138_31 : xm_run call xm_c138 nL mc ms ret Q (f + 1) (xm_drop 31 xm_c138) lv st G E kc ks = ((match xm_get lv 4 with
    | some w => bif xm_isI w then xm_run call xm_c138 nL mc ms ret Q f (xm_drop 32 xm_c138) lv (w :: st) G E kc ks else false
    | none => false)) := rfl
theorem xz_138_32 : xm_run call xm_c138 nL mc ms ret Q (f + 1) (xm_drop 32 xm_c138) lv st G E kc ks = (xm_int2 .imul st E (fun st E => xm_run call xm_c138 nL mc ms ret Q f (xm_drop 33 xm_c138) lv st G E kc ks)) := rfl
theorem xz_138_33 : xm_run call xm_c138 nL mc ms ret Q (f + 1) (xm_drop 33 xm_c138) lv st G E kc ks = ((match xm_get lv 0 with
    | some w => bif xm_isA w then xm_run call xm_c138 nL mc ms ret Q f (xm_drop 34 xm_c138) lv (w :: st) G E kc ks else false
    | none => false)) := rfl
theorem xz_138_34 : xm_run call xm_c138 nL mc ms ret Q (f + 1) (xm_drop 34 xm_c138) lv st G E kc ks = (xm_getf 11 0 st G (fun st => xm_run call xm_c138 nL mc ms ret Q f (xm_drop 35 xm_c138) lv st G E kc ks)) := rfl
theorem xz_138_35 : xm_run call xm_c138 nL mc ms ret Q (f + 1) (xm_drop 35 xm_c138) lv st G E kc ks = ((match xm_get lv 0 with
    | some w => bif xm_isA w then xm_run call xm_c138 nL mc ms ret Q f (xm_drop 36 xm_c138) lv (w :: st) G E kc ks else false
    | none => false)) := rfl
theorem xz_138_36 : xm_run call xm_c138 nL mc ms ret Q (f + 1) (xm_drop 36 xm_c138) lv st G E kc ks = (xm_getf 11 8 st G (fun st => xm_run call xm_c138 nL mc ms ret Q f (xm_drop 37 xm_c138) lv st G E kc ks)) := rfl
theorem xz_138_37 : xm_run call xm_c138 nL mc ms ret Q (f + 1) (xm_drop 37 xm_c138) lv st G E kc ks = (xm_bald st G E (fun st E => xm_run call xm_c138 nL mc ms ret Q f (xm_drop 38 xm_c138) lv st G E kc ks)) := rfl
theorem xz_138_38 : xm_run call xm_c138 nL mc ms ret Q (f + 1) (xm_drop 38 xm_c138) lv st G E kc ks = (xm_int2 .iadd st E (fun st E => xm_run call xm_c138 nL mc ms ret Q f (xm_drop 39 xm_c138) lv st G E kc ks)) := rfl
theorem xz_138_39 : xm_run call xm_c138 nL mc ms ret Q (f + 1) (xm_drop 39 xm_c138) lv st G E kc ks = (xm_run call xm_c138 nL mc ms ret Q f (xm_drop 40 xm_c138) lv ((.int 48) :: st) G E kc ks) := rfl
theorem xz_138_40 : xm_run call xm_c138 nL mc ms ret Q (f + 1) (xm_drop 40 xm_c138) lv st G E kc ks = (xm_int2 .isub st E (fun st E => xm_run call xm_c138 nL mc ms ret Q f (xm_drop 41 xm_c138) lv st G E kc ks)) := rfl
theorem xz_138_41 : xm_run call xm_c138 nL mc ms ret Q (f + 1) (xm_drop 41 xm_c138) lv st G E kc ks = ((match st with
    | w :: st => bif xm_isI w && Nat.blt 4 nL then xm_run call xm_c138 nL mc ms ret Q f (xm_drop 42 xm_c138) (xm_set1 lv 4 w) st G E kc ks else false
    | _ => false)) := rfl
theorem xz_138_42 : xm_run call xm_c138 nL mc ms ret Q (f + 1) (xm_drop 42 xm_c138) lv st G E kc ks = ((match xm_get lv 0 with
    | some w => bif xm_isA w then xm_run call xm_c138 nL mc ms ret Q f (xm_drop 43 xm_c138) lv (w :: st) G E kc ks else false
    | none => false)) := rfl
theorem xz_138_43 : xm_run call xm_c138 nL mc ms ret Q (f + 1) (xm_drop 43 xm_c138) lv st G E kc ks = ((match st with
    | w :: st => bif xm_cat1 w then xm_run call xm_c138 nL mc ms ret Q f (xm_drop 44 xm_c138) lv (w :: w :: st) G E kc ks else false
    | _ => false)) := rfl
theorem xz_138_44 : xm_run call xm_c138 nL mc ms ret Q (f + 1) (xm_drop 44 xm_c138) lv st G E kc ks = (xm_getf 11 8 st G (fun st => xm_run call xm_c138 nL mc ms ret Q f (xm_drop 45 xm_c138) lv st G E kc ks)) := rfl
theorem xz_138_45 : xm_run call xm_c138 nL mc ms ret Q (f + 1) (xm_drop 45 xm_c138) lv st G E kc ks = (xm_run call xm_c138 nL mc ms ret Q f (xm_drop 46 xm_c138) lv ((.int 1) :: st) G E kc ks) := rfl
theorem xz_138_46 : xm_run call xm_c138 nL mc ms ret Q (f + 1) (xm_drop 46 xm_c138) lv st G E kc ks = (xm_int2 .iadd st E (fun st E => xm_run call xm_c138 nL mc ms ret Q f (xm_drop 47 xm_c138) lv st G E kc ks)) := rfl
theorem xz_138_47 : xm_run call xm_c138 nL mc ms ret Q (f + 1) (xm_drop 47 xm_c138) lv st G E kc ks = (xm_putf 11 8 st G (fun st G => xm_run call xm_c138 nL mc ms ret Q f (xm_drop 48 xm_c138) lv st G E kc ks)) := rfl
theorem xz_138_48 : xm_run call xm_c138 nL mc ms ret Q (f + 1) (xm_drop 48 xm_c138) lv st G E kc ks = (xm_run call xm_c138 nL mc ms ret Q f (xm_drop 19 xm_c138) lv st G E kc ks) := rfl
theorem xz_138_49 : xm_run call xm_c138 nL mc ms ret Q (f + 1) (xm_drop 49 xm_c138) lv st G E kc ks = ((match xm_get lv 0 with
    | some w => bif xm_isA w then xm_run call xm_c138 nL mc ms ret Q f (xm_drop 50 xm_c138) lv (w :: st) G E kc ks else false
    | none => false)) := rfl
theorem xz_138_50 : xm_run call xm_c138 nL mc ms ret Q (f + 1) (xm_drop 50 xm_c138) lv st G E kc ks = ((match xm_get lv 4 with
    | some w => bif xm_isI w then xm_run call xm_c138 nL mc ms ret Q f (xm_drop 51 xm_c138) lv (w :: st) G E kc ks else false
    | none => false)) := rfl
theorem xz_138_51 : xm_run call xm_c138 nL mc ms ret Q (f + 1) (xm_drop 51 xm_c138) lv st G E kc ks = (xm_putf 11 10 st G (fun st G => xm_run call xm_c138 nL mc ms ret Q f (xm_drop 52 xm_c138) lv st G E kc ks)) := rfl
theorem xz_138_52 : xm_run call xm_c138 nL mc ms ret Q (f + 1) (xm_drop 52 xm_c138) lv st G E kc ks = ((match xm_get lv 0 with
    | some w => bif xm_isA w then xm_run call xm_c138 nL mc ms ret Q f (xm_drop 53 xm_c138) lv (w :: st) G E kc ks else false
    | none => false)) := rfl
theorem xz_138_53 : xm_run call xm_c138 nL mc ms ret Q (f + 1) (xm_drop 53 xm_c138) lv st G E kc ks = (xm_getf 11 8 st G (fun st => xm_run call xm_c138 nL mc ms ret Q f (xm_drop 54 xm_c138) lv st G E kc ks)) := rfl
theorem xz_138_54 : xm_run call xm_c138 nL mc ms ret Q (f + 1) (xm_drop 54 xm_c138) lv st G E kc ks = ((match xm_get lv 3 with
    | some w => bif xm_isI w then xm_run call xm_c138 nL mc ms ret Q f (xm_drop 55 xm_c138) lv (w :: st) G E kc ks else false
    | none => false)) := rfl
theorem xz_138_55 : xm_run call xm_c138 nL mc ms ret Q (f + 1) (xm_drop 55 xm_c138) lv st G E kc ks = (xm_int2 .isub st E (fun st E => xm_run call xm_c138 nL mc ms ret Q f (xm_drop 56 xm_c138) lv st G E kc ks)) := rfl
theorem xz_138_56 : xm_run call xm_c138 nL mc ms ret Q (f + 1) (xm_drop 56 xm_c138) lv st G E kc ks = (xm_run call xm_c138 nL mc ms ret Q f (xm_drop 57 xm_c138) lv ((.int 5) :: st) G E kc ks) := rfl
theorem xz_138_57 : xm_run call xm_c138 nL mc ms ret Q (f + 1) (xm_drop 57 xm_c138) lv st G E kc ks = ((match st with
    | w :: u :: st => xm_cmpI E u w (fun E s => bif xm_holds .gt s then xm_run call xm_c138 nL mc ms ret Q f (xm_drop 66 xm_c138) lv st G E kc ks else xm_run call xm_c138 nL mc ms ret Q f (xm_drop 58 xm_c138) lv st G E kc ks)
    | _ => false)) := rfl
theorem xz_138_58 : xm_run call xm_c138 nL mc ms ret Q (f + 1) (xm_drop 58 xm_c138) lv st G E kc ks = ((match xm_get lv 4 with
    | some w => bif xm_isI w then xm_run call xm_c138 nL mc ms ret Q f (xm_drop 59 xm_c138) lv (w :: st) G E kc ks else false
    | none => false)) := rfl
theorem xz_138_59 : xm_run call xm_c138 nL mc ms ret Q (f + 1) (xm_drop 59 xm_c138) lv st G E kc ks = (xm_i2l st (fun st => xm_run call xm_c138 nL mc ms ret Q f (xm_drop 60 xm_c138) lv st G E kc ks)) := rfl
theorem xz_138_60 : xm_run call xm_c138 nL mc ms ret Q (f + 1) (xm_drop 60 xm_c138) lv st G E kc ks = ((match xm_get lv 1 with
    | some w => bif xm_isI w then xm_run call xm_c138 nL mc ms ret Q f (xm_drop 61 xm_c138) lv (w :: st) G E kc ks else false
    | none => false)) := rfl
theorem xz_138_61 : xm_run call xm_c138 nL mc ms ret Q (f + 1) (xm_drop 61 xm_c138) lv st G E kc ks = (xm_i2l st (fun st => xm_run call xm_c138 nL mc ms ret Q f (xm_drop 62 xm_c138) lv st G E kc ks)) := rfl
theorem xz_138_62 : xm_run call xm_c138 nL mc ms ret Q (f + 1) (xm_drop 62 xm_c138) lv st G E kc ks = ((match xm_get lv 2 with
    | some w => bif xm_isI w then xm_run call xm_c138 nL mc ms ret Q f (xm_drop 63 xm_c138) lv (w :: st) G E kc ks else false
    | none => false)) := rfl
theorem xz_138_63 : xm_run call xm_c138 nL mc ms ret Q (f + 1) (xm_drop 63 xm_c138) lv st G E kc ks = (xm_i2l st (fun st => xm_run call xm_c138 nL mc ms ret Q f (xm_drop 64 xm_c138) lv st G E kc ks)) := rfl
theorem xz_138_64 : xm_run call xm_c138 nL mc ms ret Q (f + 1) (xm_drop 64 xm_c138) lv st G E kc ks = (bif Nat.beq 125 1001 then xm_acopy st G (fun st G => xm_run call xm_c138 nL mc ms ret Q f (xm_drop 65 xm_c138) lv st G E kc ks) else bif Nat.beq 125 1003 || (Nat.beq 125 1004 || Nat.beq 125 1005) then xm_math 125 st (fun st => xm_run call xm_c138 nL mc ms ret Q f (xm_drop 65 xm_c138) lv st G E kc ks) else bif Nat.beq 1 3 then xm_call call mc ms 125 3 st G E kc ks (fun st G E kc ks => xm_run call xm_c138 nL mc ms ret Q f (xm_drop 65 xm_c138) lv st G E kc ks) else xm_call call mc ms 125 1 st G E kc ks (fun st G E kc ks => xm_run call xm_c138 nL mc ms ret Q f (xm_drop 65 xm_c138) lv st G E kc ks)) := rfl
theorem xz_138_65 : xm_run call xm_c138 nL mc ms ret Q (f + 1) (xm_drop 65 xm_c138) lv st G E kc ks = ((match st with
    | w :: st => xm_cmpI E w (.int 0) (fun E s => bif xm_holds .ne s then xm_run call xm_c138 nL mc ms ret Q f (xm_drop 71 xm_c138) lv st G E kc ks else xm_run call xm_c138 nL mc ms ret Q f (xm_drop 66 xm_c138) lv st G E kc ks)
    | _ => false)) := rfl
theorem xz_138_66 : xm_run call xm_c138 nL mc ms ret Q (f + 1) (xm_drop 66 xm_c138) lv st G E kc ks = ((match xm_get lv 0 with
    | some w => bif xm_isA w then xm_run call xm_c138 nL mc ms ret Q f (xm_drop 67 xm_c138) lv (w :: st) G E kc ks else false
    | none => false)) := rfl
theorem xz_138_67 : xm_run call xm_c138 nL mc ms ret Q (f + 1) (xm_drop 67 xm_c138) lv st G E kc ks = (xm_run call xm_c138 nL mc ms ret Q f (xm_drop 68 xm_c138) lv ((.int 1) :: st) G E kc ks) := rfl
theorem xz_138_68 : xm_run call xm_c138 nL mc ms ret Q (f + 1) (xm_drop 68 xm_c138) lv st G E kc ks = ((match xm_get lv 3 with
    | some w => bif xm_isI w then xm_run call xm_c138 nL mc ms ret Q f (xm_drop 69 xm_c138) lv (w :: st) G E kc ks else false
    | none => false)) := rfl
theorem xz_138_69 : xm_run call xm_c138 nL mc ms ret Q (f + 1) (xm_drop 69 xm_c138) lv st G E kc ks = (bif Nat.beq 131 1006 || Nat.beq 131 1007 then xm_strl 131 st G (fun st => xm_run call xm_c138 nL mc ms ret Q f (xm_drop 70 xm_c138) lv st G E kc ks) else xm_call call mc ms 131 0 st G E kc ks (fun st G E kc ks => xm_run call xm_c138 nL mc ms ret Q f (xm_drop 70 xm_c138) lv st G E kc ks)) := rfl
theorem xz_138_70 : xm_run call xm_c138 nL mc ms ret Q (f + 1) (xm_drop 70 xm_c138) lv st G E kc ks = ((match st with
    | w :: st => xm_cmpI E w (.int 0) (fun E s => bif xm_holds .eq s then xm_run call xm_c138 nL mc ms ret Q f (xm_drop 73 xm_c138) lv st G E kc ks else xm_run call xm_c138 nL mc ms ret Q f (xm_drop 71 xm_c138) lv st G E kc ks)
    | _ => false)) := rfl
theorem xz_138_71 : xm_run call xm_c138 nL mc ms ret Q (f + 1) (xm_drop 71 xm_c138) lv st G E kc ks = (xm_run call xm_c138 nL mc ms ret Q f (xm_drop 72 xm_c138) lv ((.int 1) :: st) G E kc ks) := rfl
theorem xz_138_72 : xm_run call xm_c138 nL mc ms ret Q (f + 1) (xm_drop 72 xm_c138) lv st G E kc ks = (xm_run call xm_c138 nL mc ms ret Q f (xm_drop 74 xm_c138) lv st G E kc ks) := rfl
theorem xz_138_73 : xm_run call xm_c138 nL mc ms ret Q (f + 1) (xm_drop 73 xm_c138) lv st G E kc ks = (xm_run call xm_c138 nL mc ms ret Q f (xm_drop 74 xm_c138) lv ((.int 0) :: st) G E kc ks) := rfl
theorem xz_138_74 : xm_run call xm_c138 nL mc ms ret Q (f + 1) (xm_drop 74 xm_c138) lv st G E kc ks = ((match st with
    | [w] => bif xm_isI w && (xm_rok ret w && (Nat.ble kc mc && Nat.ble ks ms)) then Q (some w) G E else false
    | _ => false)) := rfl
theorem xz_167_0 : xm_run call xm_c167 nL mc ms ret Q (f + 1) (xm_drop 0 xm_c167) lv st G E kc ks = ((match xm_get lv 0 with
    | some w => bif xm_isA w then xm_run call xm_c167 nL mc ms ret Q f (xm_drop 1 xm_c167) lv (w :: st) G E kc ks else false
    | none => false)) := rfl
theorem xz_167_1 : xm_run call xm_c167 nL mc ms ret Q (f + 1) (xm_drop 1 xm_c167) lv st G E kc ks = (xm_getf 11 4 st G (fun st => xm_run call xm_c167 nL mc ms ret Q f (xm_drop 2 xm_c167) lv st G E kc ks)) := rfl
theorem xz_167_2 : xm_run call xm_c167 nL mc ms ret Q (f + 1) (xm_drop 2 xm_c167) lv st G E kc ks = ((match xm_get lv 0 with
    | some w => bif xm_isA w then xm_run call xm_c167 nL mc ms ret Q f (xm_drop 3 xm_c167) lv (w :: st) G E kc ks else false
    | none => false)) := rfl
theorem xz_167_3 : xm_run call xm_c167 nL mc ms ret Q (f + 1) (xm_drop 3 xm_c167) lv st G E kc ks = (xm_getf 11 11 st G (fun st => xm_run call xm_c167 nL mc ms ret Q f (xm_drop 4 xm_c167) lv st G E kc ks)) := rfl
theorem xz_167_4 : xm_run call xm_c167 nL mc ms ret Q (f + 1) (xm_drop 4 xm_c167) lv st G E kc ks = (xm_run call xm_c167 nL mc ms ret Q f (xm_drop 5 xm_c167) lv ((.int 0) :: st) G E kc ks) := rfl
theorem xz_167_5 : xm_run call xm_c167 nL mc ms ret Q (f + 1) (xm_drop 5 xm_c167) lv st G E kc ks = (xm_ast (fun t => Nat.beq t 100) xm_kI st G E (fun st G E => xm_run call xm_c167 nL mc ms ret Q f (xm_drop 6 xm_c167) lv st G E kc ks)) := rfl
theorem xz_167_6 : xm_run call xm_c167 nL mc ms ret Q (f + 1) (xm_drop 6 xm_c167) lv st G E kc ks = ((match xm_get lv 0 with
    | some w => bif xm_isA w then xm_run call xm_c167 nL mc ms ret Q f (xm_drop 7 xm_c167) lv (w :: st) G E kc ks else false
    | none => false)) := rfl
theorem xz_167_7 : xm_run call xm_c167 nL mc ms ret Q (f + 1) (xm_drop 7 xm_c167) lv st G E kc ks = (xm_run call xm_c167 nL mc ms ret Q f (xm_drop 8 xm_c167) lv ((.int 0) :: st) G E kc ks) := rfl
theorem xz_167_8 : xm_run call xm_c167 nL mc ms ret Q (f + 1) (xm_drop 8 xm_c167) lv st G E kc ks = (xm_putf 11 14 st G (fun st G => xm_run call xm_c167 nL mc ms ret Q f (xm_drop 9 xm_c167) lv st G E kc ks)) := rfl
theorem xz_167_9 : xm_run call xm_c167 nL mc ms ret Q (f + 1) (xm_drop 9 xm_c167) lv st G E kc ks = ((match xm_get lv 0 with
    | some w => bif xm_isA w then xm_run call xm_c167 nL mc ms ret Q f (xm_drop 10 xm_c167) lv (w :: st) G E kc ks else false
    | none => false)) := rfl
theorem xz_167_10 : xm_run call xm_c167 nL mc ms ret Q (f + 1) (xm_drop 10 xm_c167) lv st G E kc ks = (xm_run call xm_c167 nL mc ms ret Q f (xm_drop 11 xm_c167) lv ((.int 0) :: st) G E kc ks) := rfl
theorem xz_167_11 : xm_run call xm_c167 nL mc ms ret Q (f + 1) (xm_drop 11 xm_c167) lv st G E kc ks = (xm_putf 11 8 st G (fun st G => xm_run call xm_c167 nL mc ms ret Q f (xm_drop 12 xm_c167) lv st G E kc ks)) := rfl
theorem xz_167_12 : xm_run call xm_c167 nL mc ms ret Q (f + 1) (xm_drop 12 xm_c167) lv st G E kc ks = ((match xm_get lv 0 with
    | some w => bif xm_isA w then xm_run call xm_c167 nL mc ms ret Q f (xm_drop 13 xm_c167) lv (w :: st) G E kc ks else false
    | none => false)) := rfl
theorem xz_167_13 : xm_run call xm_c167 nL mc ms ret Q (f + 1) (xm_drop 13 xm_c167) lv st G E kc ks = (xm_run call xm_c167 nL mc ms ret Q f (xm_drop 14 xm_c167) lv ((.int 0) :: st) G E kc ks) := rfl
theorem xz_167_14 : xm_run call xm_c167 nL mc ms ret Q (f + 1) (xm_drop 14 xm_c167) lv st G E kc ks = (xm_putf 11 9 st G (fun st G => xm_run call xm_c167 nL mc ms ret Q f (xm_drop 15 xm_c167) lv st G E kc ks)) := rfl
theorem xz_167_15 : xm_run call xm_c167 nL mc ms ret Q (f + 1) (xm_drop 15 xm_c167) lv st G E kc ks = ((match xm_get lv 0 with
    | some w => bif xm_isA w then xm_run call xm_c167 nL mc ms ret Q f (xm_drop 16 xm_c167) lv (w :: st) G E kc ks else false
    | none => false)) := rfl
theorem xz_167_16 : xm_run call xm_c167 nL mc ms ret Q (f + 1) (xm_drop 16 xm_c167) lv st G E kc ks = (xm_run call xm_c167 nL mc ms ret Q f (xm_drop 17 xm_c167) lv ((.int 0) :: st) G E kc ks) := rfl
theorem xz_167_17 : xm_run call xm_c167 nL mc ms ret Q (f + 1) (xm_drop 17 xm_c167) lv st G E kc ks = (xm_putf 11 12 st G (fun st G => xm_run call xm_c167 nL mc ms ret Q f (xm_drop 18 xm_c167) lv st G E kc ks)) := rfl
theorem xz_167_18 : xm_run call xm_c167 nL mc ms ret Q (f + 1) (xm_drop 18 xm_c167) lv st G E kc ks = ((match xm_get lv 0 with
    | some w => bif xm_isA w then xm_run call xm_c167 nL mc ms ret Q f (xm_drop 19 xm_c167) lv (w :: st) G E kc ks else false
    | none => false)) := rfl
theorem xz_167_19 : xm_run call xm_c167 nL mc ms ret Q (f + 1) (xm_drop 19 xm_c167) lv st G E kc ks = (bif Nat.beq 166 1006 || Nat.beq 166 1007 then xm_strl 166 st G (fun st => xm_run call xm_c167 nL mc ms ret Q f (xm_drop 20 xm_c167) lv st G E kc ks) else xm_call call mc ms 166 0 st G E kc ks (fun st G E kc ks => xm_run call xm_c167 nL mc ms ret Q f (xm_drop 20 xm_c167) lv st G E kc ks)) := rfl
theorem xz_167_20 : xm_run call xm_c167 nL mc ms ret Q (f + 1) (xm_drop 20 xm_c167) lv st G E kc ks = ((match st with
    | w :: st => bif xm_isI w && Nat.blt 1 nL then xm_run call xm_c167 nL mc ms ret Q f (xm_drop 21 xm_c167) (xm_set1 lv 1 w) st G E kc ks else false
    | _ => false)) := rfl
theorem xz_167_21 : xm_run call xm_c167 nL mc ms ret Q (f + 1) (xm_drop 21 xm_c167) lv st G E kc ks = ((match xm_get lv 1 with
    | some w => bif xm_isI w then xm_run call xm_c167 nL mc ms ret Q f (xm_drop 22 xm_c167) lv (w :: st) G E kc ks else false
    | none => false)) := rfl
theorem xz_167_22 : xm_run call xm_c167 nL mc ms ret Q (f + 1) (xm_drop 22 xm_c167) lv st G E kc ks = ((match st with
    | w :: st => xm_cmpI E w (.int 0) (fun E s => bif xm_holds .eq s then xm_run call xm_c167 nL mc ms ret Q f (xm_drop 37 xm_c167) lv st G E kc ks else xm_run call xm_c167 nL mc ms ret Q f (xm_drop 23 xm_c167) lv st G E kc ks)
    | _ => false)) := rfl
theorem xz_167_23 : xm_run call xm_c167 nL mc ms ret Q (f + 1) (xm_drop 23 xm_c167) lv st G E kc ks = ((match xm_get lv 0 with
    | some w => bif xm_isA w then xm_run call xm_c167 nL mc ms ret Q f (xm_drop 24 xm_c167) lv (w :: st) G E kc ks else false
    | none => false)) := rfl
theorem xz_167_24 : xm_run call xm_c167 nL mc ms ret Q (f + 1) (xm_drop 24 xm_c167) lv st G E kc ks = (bif Nat.beq 132 1006 || Nat.beq 132 1007 then xm_strl 132 st G (fun st => xm_run call xm_c167 nL mc ms ret Q f (xm_drop 25 xm_c167) lv st G E kc ks) else xm_call call mc ms 132 0 st G E kc ks (fun st G E kc ks => xm_run call xm_c167 nL mc ms ret Q f (xm_drop 25 xm_c167) lv st G E kc ks)) := rfl
theorem xz_167_25 : xm_run call xm_c167 nL mc ms ret Q (f + 1) (xm_drop 25 xm_c167) lv st G E kc ks = (xm_run call xm_c167 nL mc ms ret Q f (xm_drop 26 xm_c167) lv ((.int 59) :: st) G E kc ks) := rfl
theorem xz_167_26 : xm_run call xm_c167 nL mc ms ret Q (f + 1) (xm_drop 26 xm_c167) lv st G E kc ks = ((match st with
    | w :: u :: st => xm_cmpI E u w (fun E s => bif xm_holds .ne s then xm_run call xm_c167 nL mc ms ret Q f (xm_drop 37 xm_c167) lv st G E kc ks else xm_run call xm_c167 nL mc ms ret Q f (xm_drop 27 xm_c167) lv st G E kc ks)
    | _ => false)) := rfl
theorem xz_167_27 : xm_run call xm_c167 nL mc ms ret Q (f + 1) (xm_drop 27 xm_c167) lv st G E kc ks = ((match xm_get lv 0 with
    | some w => bif xm_isA w then xm_run call xm_c167 nL mc ms ret Q f (xm_drop 28 xm_c167) lv (w :: st) G E kc ks else false
    | none => false)) := rfl
theorem xz_167_28 : xm_run call xm_c167 nL mc ms ret Q (f + 1) (xm_drop 28 xm_c167) lv st G E kc ks = ((match st with
    | w :: st => bif xm_cat1 w then xm_run call xm_c167 nL mc ms ret Q f (xm_drop 29 xm_c167) lv (w :: w :: st) G E kc ks else false
    | _ => false)) := rfl
theorem xz_167_29 : xm_run call xm_c167 nL mc ms ret Q (f + 1) (xm_drop 29 xm_c167) lv st G E kc ks = (xm_getf 11 8 st G (fun st => xm_run call xm_c167 nL mc ms ret Q f (xm_drop 30 xm_c167) lv st G E kc ks)) := rfl
theorem xz_167_30 : xm_run call xm_c167 nL mc ms ret Q (f + 1) (xm_drop 30 xm_c167) lv st G E kc ks = (xm_run call xm_c167 nL mc ms ret Q f (xm_drop 31 xm_c167) lv ((.int 1) :: st) G E kc ks) := rfl
theorem xz_167_31 : xm_run call xm_c167 nL mc ms ret Q (f + 1) (xm_drop 31 xm_c167) lv st G E kc ks = (xm_int2 .iadd st E (fun st E => xm_run call xm_c167 nL mc ms ret Q f (xm_drop 32 xm_c167) lv st G E kc ks)) := rfl
theorem xz_167_32 : xm_run call xm_c167 nL mc ms ret Q (f + 1) (xm_drop 32 xm_c167) lv st G E kc ks = (xm_putf 11 8 st G (fun st G => xm_run call xm_c167 nL mc ms ret Q f (xm_drop 33 xm_c167) lv st G E kc ks)) := rfl
theorem xz_167_33 : xm_run call xm_c167 nL mc ms ret Q (f + 1) (xm_drop 33 xm_c167) lv st G E kc ks = ((match xm_get lv 0 with
    | some w => bif xm_isA w then xm_run call xm_c167 nL mc ms ret Q f (xm_drop 34 xm_c167) lv (w :: st) G E kc ks else false
    | none => false)) := rfl
theorem xz_167_34 : xm_run call xm_c167 nL mc ms ret Q (f + 1) (xm_drop 34 xm_c167) lv st G E kc ks = (bif Nat.beq 166 1006 || Nat.beq 166 1007 then xm_strl 166 st G (fun st => xm_run call xm_c167 nL mc ms ret Q f (xm_drop 35 xm_c167) lv st G E kc ks) else xm_call call mc ms 166 0 st G E kc ks (fun st G E kc ks => xm_run call xm_c167 nL mc ms ret Q f (xm_drop 35 xm_c167) lv st G E kc ks)) := rfl
theorem xz_167_35 : xm_run call xm_c167 nL mc ms ret Q (f + 1) (xm_drop 35 xm_c167) lv st G E kc ks = ((match st with
    | w :: st => bif xm_isI w && Nat.blt 1 nL then xm_run call xm_c167 nL mc ms ret Q f (xm_drop 36 xm_c167) (xm_set1 lv 1 w) st G E kc ks else false
    | _ => false)) := rfl
theorem xz_167_36 : xm_run call xm_c167 nL mc ms ret Q (f + 1) (xm_drop 36 xm_c167) lv st G E kc ks = (xm_run call xm_c167 nL mc ms ret Q f (xm_drop 21 xm_c167) lv st G E kc ks) := rfl
theorem xz_167_37 : xm_run call xm_c167 nL mc ms ret Q (f + 1) (xm_drop 37 xm_c167) lv st G E kc ks = ((match xm_get lv 1 with
    | some w => bif xm_isI w then xm_run call xm_c167 nL mc ms ret Q f (xm_drop 38 xm_c167) lv (w :: st) G E kc ks else false
    | none => false)) := rfl
theorem xz_167_38 : xm_run call xm_c167 nL mc ms ret Q (f + 1) (xm_drop 38 xm_c167) lv st G E kc ks = ((match st with
    | w :: st => xm_cmpI E w (.int 0) (fun E s => bif xm_holds .eq s then xm_run call xm_c167 nL mc ms ret Q f (xm_drop 49 xm_c167) lv st G E kc ks else xm_run call xm_c167 nL mc ms ret Q f (xm_drop 39 xm_c167) lv st G E kc ks)
    | _ => false)) := rfl
theorem xz_167_39 : xm_run call xm_c167 nL mc ms ret Q (f + 1) (xm_drop 39 xm_c167) lv st G E kc ks = ((match xm_get lv 0 with
    | some w => bif xm_isA w then xm_run call xm_c167 nL mc ms ret Q f (xm_drop 40 xm_c167) lv (w :: st) G E kc ks else false
    | none => false)) := rfl
theorem xz_167_40 : xm_run call xm_c167 nL mc ms ret Q (f + 1) (xm_drop 40 xm_c167) lv st G E kc ks = (bif Nat.beq 132 1006 || Nat.beq 132 1007 then xm_strl 132 st G (fun st => xm_run call xm_c167 nL mc ms ret Q f (xm_drop 41 xm_c167) lv st G E kc ks) else xm_call call mc ms 132 0 st G E kc ks (fun st G E kc ks => xm_run call xm_c167 nL mc ms ret Q f (xm_drop 41 xm_c167) lv st G E kc ks)) := rfl
theorem xz_167_41 : xm_run call xm_c167 nL mc ms ret Q (f + 1) (xm_drop 41 xm_c167) lv st G E kc ks = (xm_run call xm_c167 nL mc ms ret Q f (xm_drop 42 xm_c167) lv ((.int (-1)) :: st) G E kc ks) := rfl
theorem xz_167_42 : xm_run call xm_c167 nL mc ms ret Q (f + 1) (xm_drop 42 xm_c167) lv st G E kc ks = ((match st with
    | w :: u :: st => xm_cmpI E u w (fun E s => bif xm_holds .eq s then xm_run call xm_c167 nL mc ms ret Q f (xm_drop 49 xm_c167) lv st G E kc ks else xm_run call xm_c167 nL mc ms ret Q f (xm_drop 43 xm_c167) lv st G E kc ks)
    | _ => false)) := rfl
theorem xz_167_43 : xm_run call xm_c167 nL mc ms ret Q (f + 1) (xm_drop 43 xm_c167) lv st G E kc ks = ((match xm_get lv 0 with
    | some w => bif xm_isA w then xm_run call xm_c167 nL mc ms ret Q f (xm_drop 44 xm_c167) lv (w :: st) G E kc ks else false
    | none => false)) := rfl
theorem xz_167_44 : xm_run call xm_c167 nL mc ms ret Q (f + 1) (xm_drop 44 xm_c167) lv st G E kc ks = (xm_run call xm_c167 nL mc ms ret Q f (xm_drop 45 xm_c167) lv ((.int 0) :: st) G E kc ks) := rfl
theorem xz_167_45 : xm_run call xm_c167 nL mc ms ret Q (f + 1) (xm_drop 45 xm_c167) lv st G E kc ks = ((match xm_get lv 0 with
    | some w => bif xm_isA w then xm_run call xm_c167 nL mc ms ret Q f (xm_drop 46 xm_c167) lv (w :: st) G E kc ks else false
    | none => false)) := rfl
theorem xz_167_46 : xm_run call xm_c167 nL mc ms ret Q (f + 1) (xm_drop 46 xm_c167) lv st G E kc ks = (xm_getf 11 8 st G (fun st => xm_run call xm_c167 nL mc ms ret Q f (xm_drop 47 xm_c167) lv st G E kc ks)) := rfl
theorem xz_167_47 : xm_run call xm_c167 nL mc ms ret Q (f + 1) (xm_drop 47 xm_c167) lv st G E kc ks = (bif Nat.beq 131 1006 || Nat.beq 131 1007 then xm_strl 131 st G (fun st => xm_run call xm_c167 nL mc ms ret Q f (xm_drop 48 xm_c167) lv st G E kc ks) else xm_call call mc ms 131 0 st G E kc ks (fun st G E kc ks => xm_run call xm_c167 nL mc ms ret Q f (xm_drop 48 xm_c167) lv st G E kc ks)) := rfl
theorem xz_167_48 : xm_run call xm_c167 nL mc ms ret Q (f + 1) (xm_drop 48 xm_c167) lv st G E kc ks = ((match st with
    | w :: st => bif xm_cat1 w then xm_run call xm_c167 nL mc ms ret Q f (xm_drop 49 xm_c167) lv st G E kc ks else false
    | _ => false)) := rfl
theorem xz_167_49 : xm_run call xm_c167 nL mc ms ret Q (f + 1) (xm_drop 49 xm_c167) lv st G E kc ks = ((match xm_get lv 0 with
    | some w => bif xm_isA w then xm_run call xm_c167 nL mc ms ret Q f (xm_drop 50 xm_c167) lv (w :: st) G E kc ks else false
    | none => false)) := rfl
theorem xz_167_50 : xm_run call xm_c167 nL mc ms ret Q (f + 1) (xm_drop 50 xm_c167) lv st G E kc ks = (xm_run call xm_c167 nL mc ms ret Q f (xm_drop 51 xm_c167) lv ((.int 0) :: st) G E kc ks) := rfl
theorem xz_167_51 : xm_run call xm_c167 nL mc ms ret Q (f + 1) (xm_drop 51 xm_c167) lv st G E kc ks = (xm_putf 11 1 st G (fun st G => xm_run call xm_c167 nL mc ms ret Q f (xm_drop 52 xm_c167) lv st G E kc ks)) := rfl
theorem xz_167_52 : xm_run call xm_c167 nL mc ms ret Q (f + 1) (xm_drop 52 xm_c167) lv st G E kc ks = ((match xm_get lv 0 with
    | some w => bif xm_isA w then xm_run call xm_c167 nL mc ms ret Q f (xm_drop 53 xm_c167) lv (w :: st) G E kc ks else false
    | none => false)) := rfl
theorem xz_167_53 : xm_run call xm_c167 nL mc ms ret Q (f + 1) (xm_drop 53 xm_c167) lv st G E kc ks = (xm_getf 11 9 st G (fun st => xm_run call xm_c167 nL mc ms ret Q f (xm_drop 54 xm_c167) lv st G E kc ks)) := rfl
theorem xz_167_54 : xm_run call xm_c167 nL mc ms ret Q (f + 1) (xm_drop 54 xm_c167) lv st G E kc ks = ((match st with
    | w :: st => xm_cmpI E w (.int 0) (fun E s => bif xm_holds .ne s then xm_run call xm_c167 nL mc ms ret Q f (xm_drop 57 xm_c167) lv st G E kc ks else xm_run call xm_c167 nL mc ms ret Q f (xm_drop 55 xm_c167) lv st G E kc ks)
    | _ => false)) := rfl
theorem xz_167_55 : xm_run call xm_c167 nL mc ms ret Q (f + 1) (xm_drop 55 xm_c167) lv st G E kc ks = (xm_run call xm_c167 nL mc ms ret Q f (xm_drop 56 xm_c167) lv ((.int 1) :: st) G E kc ks) := rfl
theorem xz_167_56 : xm_run call xm_c167 nL mc ms ret Q (f + 1) (xm_drop 56 xm_c167) lv st G E kc ks = (xm_run call xm_c167 nL mc ms ret Q f (xm_drop 58 xm_c167) lv st G E kc ks) := rfl
theorem xz_167_57 : xm_run call xm_c167 nL mc ms ret Q (f + 1) (xm_drop 57 xm_c167) lv st G E kc ks = (xm_run call xm_c167 nL mc ms ret Q f (xm_drop 58 xm_c167) lv ((.int 0) :: st) G E kc ks) := rfl
theorem xz_167_58 : xm_run call xm_c167 nL mc ms ret Q (f + 1) (xm_drop 58 xm_c167) lv st G E kc ks = ((match st with
    | [w] => bif xm_isI w && (xm_rok ret w && (Nat.ble kc mc && Nat.ble ks ms)) then Q (some w) G E else false
    | _ => false)) := rfl
end XM
