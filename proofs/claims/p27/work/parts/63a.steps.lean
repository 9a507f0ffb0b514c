/-! the steps of seed, image, back, printed -/
section XM
variable {call : xm_C} {nL mc ms : Nat} {ret : Option FieldType} {Q : xm_Q} {f : Nat} {lv : xm_L} {st : List Value} {G : xm_H} {E : xm_R} {kc ks : Nat}
theorem xz_76_0 : xm_run call xm_c76 nL mc ms ret Q (f + 1) (xm_drop 0 xm_c76) lv st G E kc ks = ((match xm_get lv 0 with
    | some w => bif xm_isA w then xm_run call xm_c76 nL mc ms ret Q f (xm_drop 1 xm_c76) lv (w :: st) G E kc ks else false
    | none => false)) := rfl
theorem xz_76_1 : xm_run call xm_c76 nL mc ms ret Q (f + 1) (xm_drop 1 xm_c76) lv st G E kc ks = (xm_getf 8 0 st G (fun st => xm_run call xm_c76 nL mc ms ret Q f (xm_drop 2 xm_c76) lv st G E kc ks)) := rfl
theorem xz_76_2 : xm_run call xm_c76 nL mc ms ret Q (f + 1) (xm_drop 2 xm_c76) lv st G E kc ks = ((match xm_get lv 1 with
    | some w => bif xm_isA w then xm_run call xm_c76 nL mc ms ret Q f (xm_drop 3 xm_c76) lv (w :: st) G E kc ks else false
    | none => false)) := rfl
theorem xz_76_3 : xm_run call xm_c76 nL mc ms ret Q (f + 1) (xm_drop 3 xm_c76) lv st G E kc ks = (xm_getf 8 0 st G (fun st => xm_run call xm_c76 nL mc ms ret Q f (xm_drop 4 xm_c76) lv st G E kc ks)) := rfl
theorem xz_76_4 : xm_run call xm_c76 nL mc ms ret Q (f + 1) (xm_drop 4 xm_c76) lv st G E kc ks = (bif Nat.beq 25 1006 || Nat.beq 25 1007 then xm_strl 25 st G (fun st => xm_run call xm_c76 nL mc ms ret Q f (xm_drop 5 xm_c76) lv st G E kc ks) else xm_call call mc ms 25 0 st G E kc ks (fun st G E kc ks => xm_run call xm_c76 nL mc ms ret Q f (xm_drop 5 xm_c76) lv st G E kc ks)) := rfl
theorem xz_76_5 : xm_run call xm_c76 nL mc ms ret Q (f + 1) (xm_drop 5 xm_c76) lv st G E kc ks = ((match xm_get lv 0 with
    | some w => bif xm_isA w then xm_run call xm_c76 nL mc ms ret Q f (xm_drop 6 xm_c76) lv (w :: st) G E kc ks else false
    | none => false)) := rfl
theorem xz_76_6 : xm_run call xm_c76 nL mc ms ret Q (f + 1) (xm_drop 6 xm_c76) lv st G E kc ks = (xm_getf 8 1 st G (fun st => xm_run call xm_c76 nL mc ms ret Q f (xm_drop 7 xm_c76) lv st G E kc ks)) := rfl
theorem xz_76_7 : xm_run call xm_c76 nL mc ms ret Q (f + 1) (xm_drop 7 xm_c76) lv st G E kc ks = ((match xm_get lv 1 with
    | some w => bif xm_isA w then xm_run call xm_c76 nL mc ms ret Q f (xm_drop 8 xm_c76) lv (w :: st) G E kc ks else false
    | none => false)) := rfl
theorem xz_76_8 : xm_run call xm_c76 nL mc ms ret Q (f + 1) (xm_drop 8 xm_c76) lv st G E kc ks = (xm_getf 8 1 st G (fun st => xm_run call xm_c76 nL mc ms ret Q f (xm_drop 9 xm_c76) lv st G E kc ks)) := rfl
theorem xz_76_9 : xm_run call xm_c76 nL mc ms ret Q (f + 1) (xm_drop 9 xm_c76) lv st G E kc ks = (bif Nat.beq 2 1006 || Nat.beq 2 1007 then xm_strl 2 st G (fun st => xm_run call xm_c76 nL mc ms ret Q f (xm_drop 10 xm_c76) lv st G E kc ks) else xm_call call mc ms 2 0 st G E kc ks (fun st G E kc ks => xm_run call xm_c76 nL mc ms ret Q f (xm_drop 10 xm_c76) lv st G E kc ks)) := rfl
theorem xz_76_10 : xm_run call xm_c76 nL mc ms ret Q (f + 1) (xm_drop 10 xm_c76) lv st G E kc ks = ((match xm_get lv 0 with
    | some w => bif xm_isA w then xm_run call xm_c76 nL mc ms ret Q f (xm_drop 11 xm_c76) lv (w :: st) G E kc ks else false
    | none => false)) := rfl
theorem xz_76_11 : xm_run call xm_c76 nL mc ms ret Q (f + 1) (xm_drop 11 xm_c76) lv st G E kc ks = (xm_getf 8 2 st G (fun st => xm_run call xm_c76 nL mc ms ret Q f (xm_drop 12 xm_c76) lv st G E kc ks)) := rfl
theorem xz_76_12 : xm_run call xm_c76 nL mc ms ret Q (f + 1) (xm_drop 12 xm_c76) lv st G E kc ks = ((match xm_get lv 1 with
    | some w => bif xm_isA w then xm_run call xm_c76 nL mc ms ret Q f (xm_drop 13 xm_c76) lv (w :: st) G E kc ks else false
    | none => false)) := rfl
theorem xz_76_13 : xm_run call xm_c76 nL mc ms ret Q (f + 1) (xm_drop 13 xm_c76) lv st G E kc ks = (xm_getf 8 2 st G (fun st => xm_run call xm_c76 nL mc ms ret Q f (xm_drop 14 xm_c76) lv st G E kc ks)) := rfl
theorem xz_76_14 : xm_run call xm_c76 nL mc ms ret Q (f + 1) (xm_drop 14 xm_c76) lv st G E kc ks = (bif Nat.beq 37 1006 || Nat.beq 37 1007 then xm_strl 37 st G (fun st => xm_run call xm_c76 nL mc ms ret Q f (xm_drop 15 xm_c76) lv st G E kc ks) else xm_call call mc ms 37 0 st G E kc ks (fun st G E kc ks => xm_run call xm_c76 nL mc ms ret Q f (xm_drop 15 xm_c76) lv st G E kc ks)) := rfl
theorem xz_76_15 : xm_run call xm_c76 nL mc ms ret Q (f + 1) (xm_drop 15 xm_c76) lv st G E kc ks = ((match xm_get lv 1 with
    | some w => bif xm_isA w then xm_run call xm_c76 nL mc ms ret Q f (xm_drop 16 xm_c76) lv (w :: st) G E kc ks else false
    | none => false)) := rfl
theorem xz_76_16 : xm_run call xm_c76 nL mc ms ret Q (f + 1) (xm_drop 16 xm_c76) lv st G E kc ks = (xm_getf 8 3 st G (fun st => xm_run call xm_c76 nL mc ms ret Q f (xm_drop 17 xm_c76) lv st G E kc ks)) := rfl
theorem xz_76_17 : xm_run call xm_c76 nL mc ms ret Q (f + 1) (xm_drop 17 xm_c76) lv st G E kc ks = (xm_run call xm_c76 nL mc ms ret Q f (xm_drop 18 xm_c76) lv ((.int 0) :: st) G E kc ks) := rfl
theorem xz_76_18 : xm_run call xm_c76 nL mc ms ret Q (f + 1) (xm_drop 18 xm_c76) lv st G E kc ks = ((match xm_get lv 0 with
    | some w => bif xm_isA w then xm_run call xm_c76 nL mc ms ret Q f (xm_drop 19 xm_c76) lv (w :: st) G E kc ks else false
    | none => false)) := rfl
theorem xz_76_19 : xm_run call xm_c76 nL mc ms ret Q (f + 1) (xm_drop 19 xm_c76) lv st G E kc ks = (xm_getf 8 3 st G (fun st => xm_run call xm_c76 nL mc ms ret Q f (xm_drop 20 xm_c76) lv st G E kc ks)) := rfl
theorem xz_76_20 : xm_run call xm_c76 nL mc ms ret Q (f + 1) (xm_drop 20 xm_c76) lv st G E kc ks = (xm_run call xm_c76 nL mc ms ret Q f (xm_drop 21 xm_c76) lv ((.int 0) :: st) G E kc ks) := rfl
theorem xz_76_21 : xm_run call xm_c76 nL mc ms ret Q (f + 1) (xm_drop 21 xm_c76) lv st G E kc ks = (xm_run call xm_c76 nL mc ms ret Q f (xm_drop 22 xm_c76) lv ((.int 10) :: st) G E kc ks) := rfl
theorem xz_76_22 : xm_run call xm_c76 nL mc ms ret Q (f + 1) (xm_drop 22 xm_c76) lv st G E kc ks = (bif Nat.beq 1001 1001 then xm_acopy st G (fun st G => xm_run call xm_c76 nL mc ms ret Q f (xm_drop 23 xm_c76) lv st G E kc ks) else bif Nat.beq 1001 1003 || (Nat.beq 1001 1004 || Nat.beq 1001 1005) then xm_math 1001 st (fun st => xm_run call xm_c76 nL mc ms ret Q f (xm_drop 23 xm_c76) lv st G E kc ks) else bif Nat.beq 0 3 then xm_call call mc ms 1001 3 st G E kc ks (fun st G E kc ks => xm_run call xm_c76 nL mc ms ret Q f (xm_drop 23 xm_c76) lv st G E kc ks) else xm_call call mc ms 1001 1 st G E kc ks (fun st G E kc ks => xm_run call xm_c76 nL mc ms ret Q f (xm_drop 23 xm_c76) lv st G E kc ks)) := rfl
theorem xz_76_23 : xm_run call xm_c76 nL mc ms ret Q (f + 1) (xm_drop 23 xm_c76) lv st G E kc ks = ((match xm_get lv 1 with
    | some w => bif xm_isA w then xm_run call xm_c76 nL mc ms ret Q f (xm_drop 24 xm_c76) lv (w :: st) G E kc ks else false
    | none => false)) := rfl
theorem xz_76_24 : xm_run call xm_c76 nL mc ms ret Q (f + 1) (xm_drop 24 xm_c76) lv st G E kc ks = (xm_getf 8 4 st G (fun st => xm_run call xm_c76 nL mc ms ret Q f (xm_drop 25 xm_c76) lv st G E kc ks)) := rfl
theorem xz_76_25 : xm_run call xm_c76 nL mc ms ret Q (f + 1) (xm_drop 25 xm_c76) lv st G E kc ks = (xm_run call xm_c76 nL mc ms ret Q f (xm_drop 26 xm_c76) lv ((.int 0) :: st) G E kc ks) := rfl
theorem xz_76_26 : xm_run call xm_c76 nL mc ms ret Q (f + 1) (xm_drop 26 xm_c76) lv st G E kc ks = ((match xm_get lv 0 with
    | some w => bif xm_isA w then xm_run call xm_c76 nL mc ms ret Q f (xm_drop 27 xm_c76) lv (w :: st) G E kc ks else false
    | none => false)) := rfl
theorem xz_76_27 : xm_run call xm_c76 nL mc ms ret Q (f + 1) (xm_drop 27 xm_c76) lv st G E kc ks = (xm_getf 8 4 st G (fun st => xm_run call xm_c76 nL mc ms ret Q f (xm_drop 28 xm_c76) lv st G E kc ks)) := rfl
theorem xz_76_28 : xm_run call xm_c76 nL mc ms ret Q (f + 1) (xm_drop 28 xm_c76) lv st G E kc ks = (xm_run call xm_c76 nL mc ms ret Q f (xm_drop 29 xm_c76) lv ((.int 0) :: st) G E kc ks) := rfl
theorem xz_76_29 : xm_run call xm_c76 nL mc ms ret Q (f + 1) (xm_drop 29 xm_c76) lv st G E kc ks = (xm_run call xm_c76 nL mc ms ret Q f (xm_drop 30 xm_c76) lv ((.int 10) :: st) G E kc ks) := rfl
theorem xz_76_30 : xm_run call xm_c76 nL mc ms ret Q (f + 1) (xm_drop 30 xm_c76) lv st G E kc ks = (bif Nat.beq 1001 1001 then xm_acopy st G (fun st G => xm_run call xm_c76 nL mc ms ret Q f (xm_drop 31 xm_c76) lv st G E kc ks) else bif Nat.beq 1001 1003 || (Nat.beq 1001 1004 || Nat.beq 1001 1005) then xm_math 1001 st (fun st => xm_run call xm_c76 nL mc ms ret Q f (xm_drop 31 xm_c76) lv st G E kc ks) else bif Nat.beq 0 3 then xm_call call mc ms 1001 3 st G E kc ks (fun st G E kc ks => xm_run call xm_c76 nL mc ms ret Q f (xm_drop 31 xm_c76) lv st G E kc ks) else xm_call call mc ms 1001 1 st G E kc ks (fun st G E kc ks => xm_run call xm_c76 nL mc ms ret Q f (xm_drop 31 xm_c76) lv st G E kc ks)) := rfl
theorem xz_76_31 : xm_run call xm_c76 nL mc ms ret Q (f + 1) (xm_drop 31 xm_c76) lv st G E kc ks = ((match xm_get lv 0 with
    | some w => bif xm_isA w then xm_run call xm_c76 nL mc ms ret Q f (xm_drop 32 xm_c76) lv (w :: st) G E kc ks else false
    | none => false)) := rfl
theorem xz_76_32 : xm_run call xm_c76 nL mc ms ret Q (f + 1) (xm_drop 32 xm_c76) lv st G E kc ks = ((match xm_get lv 1 with
    | some w => bif xm_isA w then xm_run call xm_c76 nL mc ms ret Q f (xm_drop 33 xm_c76) lv (w :: st) G E kc ks else false
    | none => false)) := rfl
theorem xz_76_33 : xm_run call xm_c76 nL mc ms ret Q (f + 1) (xm_drop 33 xm_c76) lv st G E kc ks = (xm_getf 8 5 st G (fun st => xm_run call xm_c76 nL mc ms ret Q f (xm_drop 34 xm_c76) lv st G E kc ks)) := rfl
theorem xz_76_34 : xm_run call xm_c76 nL mc ms ret Q (f + 1) (xm_drop 34 xm_c76) lv st G E kc ks = (xm_putf 8 5 st G (fun st G => xm_run call xm_c76 nL mc ms ret Q f (xm_drop 35 xm_c76) lv st G E kc ks)) := rfl
theorem xz_76_35 : xm_run call xm_c76 nL mc ms ret Q (f + 1) (xm_drop 35 xm_c76) lv st G E kc ks = ((match xm_get lv 0 with
    | some w => bif xm_isA w then xm_run call xm_c76 nL mc ms ret Q f (xm_drop 36 xm_c76) lv (w :: st) G E kc ks else false
    | none => false)) := rfl
theorem xz_76_36 : xm_run call xm_c76 nL mc ms ret Q (f + 1) (xm_drop 36 xm_c76) lv st G E kc ks = ((match xm_get lv 1 with
    | some w => bif xm_isA w then xm_run call xm_c76 nL mc ms ret Q f (xm_drop 37 xm_c76) lv (w :: st) G E kc ks else false
    | none => false)) := rfl
theorem xz_76_37 : xm_run call xm_c76 nL mc ms ret Q (f + 1) (xm_drop 37 xm_c76) lv st G E kc ks = (xm_getf 8 6 st G (fun st => xm_run call xm_c76 nL mc ms ret Q f (xm_drop 38 xm_c76) lv st G E kc ks)) := rfl
theorem xz_76_38 : xm_run call xm_c76 nL mc ms ret Q (f + 1) (xm_drop 38 xm_c76) lv st G E kc ks = (xm_putf 8 6 st G (fun st G => xm_run call xm_c76 nL mc ms ret Q f (xm_drop 39 xm_c76) lv st G E kc ks)) := rfl
theorem xz_76_39 : xm_run call xm_c76 nL mc ms ret Q (f + 1) (xm_drop 39 xm_c76) lv st G E kc ks = ((match xm_get lv 0 with
    | some w => bif xm_isA w then xm_run call xm_c76 nL mc ms ret Q f (xm_drop 40 xm_c76) lv (w :: st) G E kc ks else false
    | none => false)) := rfl
theorem xz_76_40 : xm_run call xm_c76 nL mc ms ret Q (f + 1) (xm_drop 40 xm_c76) lv st G E kc ks = ((match xm_get lv 1 with
    | some w => bif xm_isA w then xm_run call xm_c76 nL mc ms ret Q f (xm_drop 41 xm_c76) lv (w :: st) G E kc ks else false
    | none => false)) := rfl
theorem xz_76_41 : xm_run call xm_c76 nL mc ms ret Q (f + 1) (xm_drop 41 xm_c76) lv st G E kc ks = (xm_getf 8 7 st G (fun st => xm_run call xm_c76 nL mc ms ret Q f (xm_drop 42 xm_c76) lv st G E kc ks)) := rfl
theorem xz_76_42 : xm_run call xm_c76 nL mc ms ret Q (f + 1) (xm_drop 42 xm_c76) lv st G E kc ks = (xm_putf 8 7 st G (fun st G => xm_run call xm_c76 nL mc ms ret Q f (xm_drop 43 xm_c76) lv st G E kc ks)) := rfl
theorem xz_76_43 : xm_run call xm_c76 nL mc ms ret Q (f + 1) (xm_drop 43 xm_c76) lv st G E kc ks = ((match st with
    | [] => bif ret.isNone && (Nat.ble kc mc && Nat.ble ks ms) then Q none G E else false
    | _ => false)) := rfl
theorem xz_113_0 : xm_run call xm_c113 nL mc ms ret Q (f + 1) (xm_drop 0 xm_c113) lv st G E kc ks = ((match xm_get lv 1 with
    | some w => bif xm_isI w then xm_run call xm_c113 nL mc ms ret Q f (xm_drop 1 xm_c113) lv (w :: st) G E kc ks else false
    | none => false)) := rfl
theorem xz_113_1 : xm_run call xm_c113 nL mc ms ret Q (f + 1) (xm_drop 1 xm_c113) lv st G E kc ks = ((match st with
    | w :: st => xm_cmpI E w (.int 0) (fun E s => bif xm_holds .ge s then xm_run call xm_c113 nL mc ms ret Q f (xm_drop 4 xm_c113) lv st G E kc ks else xm_run call xm_c113 nL mc ms ret Q f (xm_drop 2 xm_c113) lv st G E kc ks)
    | _ => false)) := rfl
theorem xz_113_2 : xm_run call xm_c113 nL mc ms ret Q (f + 1) (xm_drop 2 xm_c113) lv st G E kc ks = (xm_run call xm_c113 nL mc ms ret Q f (xm_drop 3 xm_c113) lv ((.int (-1)) :: st) G E kc ks) := rfl
theorem xz_113_3 : xm_run call xm_c113 nL mc ms ret Q (f + 1) (xm_drop 3 xm_c113) lv st G E kc ks = ((match st with
    | [w] => bif xm_isI w && (xm_rok ret w && (Nat.ble kc mc && Nat.ble ks ms)) then Q (some w) G E else false
    | _ => false)) := rfl
theorem xz_113_4 : xm_run call xm_c113 nL mc ms ret Q (f + 1) (xm_drop 4 xm_c113) lv st G E kc ks = ((match xm_get lv 0 with
    | some w => bif xm_isA w then xm_run call xm_c113 nL mc ms ret Q f (xm_drop 5 xm_c113) lv (w :: st) G E kc ks else false
    | none => false)) := rfl
theorem xz_113_5 : xm_run call xm_c113 nL mc ms ret Q (f + 1) (xm_drop 5 xm_c113) lv st G E kc ks = (xm_getf 10 1 st G (fun st => xm_run call xm_c113 nL mc ms ret Q f (xm_drop 6 xm_c113) lv st G E kc ks)) := rfl
theorem xz_113_6 : xm_run call xm_c113 nL mc ms ret Q (f + 1) (xm_drop 6 xm_c113) lv st G E kc ks = (xm_getf 8 7 st G (fun st => xm_run call xm_c113 nL mc ms ret Q f (xm_drop 7 xm_c113) lv st G E kc ks)) := rfl
theorem xz_113_7 : xm_run call xm_c113 nL mc ms ret Q (f + 1) (xm_drop 7 xm_c113) lv st G E kc ks = ((match st with
    | w :: st => bif xm_isI w && Nat.blt 2 nL then xm_run call xm_c113 nL mc ms ret Q f (xm_drop 8 xm_c113) (xm_set1 lv 2 w) st G E kc ks else false
    | _ => false)) := rfl
theorem xz_113_8 : xm_run call xm_c113 nL mc ms ret Q (f + 1) (xm_drop 8 xm_c113) lv st G E kc ks = ((match xm_get lv 0 with
    | some w => bif xm_isA w then xm_run call xm_c113 nL mc ms ret Q f (xm_drop 9 xm_c113) lv (w :: st) G E kc ks else false
    | none => false)) := rfl
theorem xz_113_9 : xm_run call xm_c113 nL mc ms ret Q (f + 1) (xm_drop 9 xm_c113) lv st G E kc ks = (xm_getf 10 1 st G (fun st => xm_run call xm_c113 nL mc ms ret Q f (xm_drop 10 xm_c113) lv st G E kc ks)) := rfl
theorem xz_113_10 : xm_run call xm_c113 nL mc ms ret Q (f + 1) (xm_drop 10 xm_c113) lv st G E kc ks = ((match xm_get lv 1 with
    | some w => bif xm_isI w then xm_run call xm_c113 nL mc ms ret Q f (xm_drop 11 xm_c113) lv (w :: st) G E kc ks else false
    | none => false)) := rfl
theorem xz_113_11 : xm_run call xm_c113 nL mc ms ret Q (f + 1) (xm_drop 11 xm_c113) lv st G E kc ks = (xm_putf 8 7 st G (fun st G => xm_run call xm_c113 nL mc ms ret Q f (xm_drop 12 xm_c113) lv st G E kc ks)) := rfl
theorem xz_113_12 : xm_run call xm_c113 nL mc ms ret Q (f + 1) (xm_drop 12 xm_c113) lv st G E kc ks = ((match xm_get lv 2 with
    | some w => bif xm_isI w then xm_run call xm_c113 nL mc ms ret Q f (xm_drop 13 xm_c113) lv (w :: st) G E kc ks else false
    | none => false)) := rfl
theorem xz_113_13 : xm_run call xm_c113 nL mc ms ret Q (f + 1) (xm_drop 13 xm_c113) lv st G E kc ks = ((match st with
    | [w] => bif xm_isI w && (xm_rok ret w && (Nat.ble kc mc && Nat.ble ks ms)) then Q (some w) G E else false
    | _ => false)) := rfl
theorem xz_116_0 : xm_run call xm_c116 nL mc ms ret Q (f + 1) (xm_drop 0 xm_c116) lv st G E kc ks = ((match xm_get lv 1 with
    | some w => bif xm_isI w then xm_run call xm_c116 nL mc ms ret Q f (xm_drop 1 xm_c116) lv (w :: st) G E kc ks else false
    | none => false)) := rfl
theorem xz_116_1 : xm_run call xm_c116 nL mc ms ret Q (f + 1) (xm_drop 1 xm_c116) lv st G E kc ks = ((match st with
    | w :: st => xm_cmpI E w (.int 0) (fun E s => bif xm_holds .lt s then xm_run call xm_c116 nL mc ms ret Q f (xm_drop 5 xm_c116) lv st G E kc ks else xm_run call xm_c116 nL mc ms ret Q f (xm_drop 2 xm_c116) lv st G E kc ks)
    | _ => false)) := rfl
theorem xz_116_2 : xm_run call xm_c116 nL mc ms ret Q (f + 1) (xm_drop 2 xm_c116) lv st G E kc ks = ((match xm_get lv 1 with
    | some w => bif xm_isI w then xm_run call xm_c116 nL mc ms ret Q f (xm_drop 3 xm_c116) lv (w :: st) G E kc ks else false
    | none => false)) := rfl
theorem xz_116_3 : xm_run call xm_c116 nL mc ms ret Q (f + 1) (xm_drop 3 xm_c116) lv st G E kc ks = (xm_run call xm_c116 nL mc ms ret Q f (xm_drop 4 xm_c116) lv ((.int 4) :: st) G E kc ks) := rfl
theorem xz_116_4 : xm_run call xm_c116 nL mc ms ret Q (f + 1) (xm_drop 4 xm_c116) lv st G E kc ks = ((match st with
    | w :: u :: st => xm_cmpI E u w (fun E s => bif xm_holds .lt s then xm_run call xm_c116 nL mc ms ret Q f (xm_drop 7 xm_c116) lv st G E kc ks else xm_run call xm_c116 nL mc ms ret Q f (xm_drop 5 xm_c116) lv st G E kc ks)
    | _ => false)) := rfl
theorem xz_116_5 : xm_run call xm_c116 nL mc ms ret Q (f + 1) (xm_drop 5 xm_c116) lv st G E kc ks = (xm_run call xm_c116 nL mc ms ret Q f (xm_drop 6 xm_c116) lv ((.int (-1)) :: st) G E kc ks) := rfl
theorem xz_116_6 : xm_run call xm_c116 nL mc ms ret Q (f + 1) (xm_drop 6 xm_c116) lv st G E kc ks = ((match st with
    | [w] => bif xm_isI w && (xm_rok ret w && (Nat.ble kc mc && Nat.ble ks ms)) then Q (some w) G E else false
    | _ => false)) := rfl
theorem xz_116_7 : xm_run call xm_c116 nL mc ms ret Q (f + 1) (xm_drop 7 xm_c116) lv st G E kc ks = ((match xm_get lv 0 with
    | some w => bif xm_isA w then xm_run call xm_c116 nL mc ms ret Q f (xm_drop 8 xm_c116) lv (w :: st) G E kc ks else false
    | none => false)) := rfl
theorem xz_116_8 : xm_run call xm_c116 nL mc ms ret Q (f + 1) (xm_drop 8 xm_c116) lv st G E kc ks = (xm_getf 10 6 st G (fun st => xm_run call xm_c116 nL mc ms ret Q f (xm_drop 9 xm_c116) lv st G E kc ks)) := rfl
theorem xz_116_9 : xm_run call xm_c116 nL mc ms ret Q (f + 1) (xm_drop 9 xm_c116) lv st G E kc ks = ((match xm_get lv 1 with
    | some w => bif xm_isI w then xm_run call xm_c116 nL mc ms ret Q f (xm_drop 10 xm_c116) lv (w :: st) G E kc ks else false
    | none => false)) := rfl
theorem xz_116_10 : xm_run call xm_c116 nL mc ms ret Q (f + 1) (xm_drop 10 xm_c116) lv st G E kc ks = (xm_ald xm_isAr st G E (fun st E => xm_run call xm_c116 nL mc ms ret Q f (xm_drop 11 xm_c116) lv st G E kc ks)) := rfl
theorem xz_116_11 : xm_run call xm_c116 nL mc ms ret Q (f + 1) (xm_drop 11 xm_c116) lv st G E kc ks = ((match xm_get lv 0 with
    | some w => bif xm_isA w then xm_run call xm_c116 nL mc ms ret Q f (xm_drop 12 xm_c116) lv (w :: st) G E kc ks else false
    | none => false)) := rfl
theorem xz_116_12 : xm_run call xm_c116 nL mc ms ret Q (f + 1) (xm_drop 12 xm_c116) lv st G E kc ks = (xm_getf 10 1 st G (fun st => xm_run call xm_c116 nL mc ms ret Q f (xm_drop 13 xm_c116) lv st G E kc ks)) := rfl
theorem xz_116_13 : xm_run call xm_c116 nL mc ms ret Q (f + 1) (xm_drop 13 xm_c116) lv st G E kc ks = (bif Nat.beq 76 1006 || Nat.beq 76 1007 then xm_strl 76 st G (fun st => xm_run call xm_c116 nL mc ms ret Q f (xm_drop 14 xm_c116) lv st G E kc ks) else xm_call call mc ms 76 0 st G E kc ks (fun st G E kc ks => xm_run call xm_c116 nL mc ms ret Q f (xm_drop 14 xm_c116) lv st G E kc ks)) := rfl
theorem xz_116_14 : xm_run call xm_c116 nL mc ms ret Q (f + 1) (xm_drop 14 xm_c116) lv st G E kc ks = ((match xm_get lv 0 with
    | some w => bif xm_isA w then xm_run call xm_c116 nL mc ms ret Q f (xm_drop 15 xm_c116) lv (w :: st) G E kc ks else false
    | none => false)) := rfl
theorem xz_116_15 : xm_run call xm_c116 nL mc ms ret Q (f + 1) (xm_drop 15 xm_c116) lv st G E kc ks = (xm_getf 10 6 st G (fun st => xm_run call xm_c116 nL mc ms ret Q f (xm_drop 16 xm_c116) lv st G E kc ks)) := rfl
theorem xz_116_16 : xm_run call xm_c116 nL mc ms ret Q (f + 1) (xm_drop 16 xm_c116) lv st G E kc ks = ((match xm_get lv 1 with
    | some w => bif xm_isI w then xm_run call xm_c116 nL mc ms ret Q f (xm_drop 17 xm_c116) lv (w :: st) G E kc ks else false
    | none => false)) := rfl
theorem xz_116_17 : xm_run call xm_c116 nL mc ms ret Q (f + 1) (xm_drop 17 xm_c116) lv st G E kc ks = (xm_ald xm_isAr st G E (fun st E => xm_run call xm_c116 nL mc ms ret Q f (xm_drop 18 xm_c116) lv st G E kc ks)) := rfl
theorem xz_116_18 : xm_run call xm_c116 nL mc ms ret Q (f + 1) (xm_drop 18 xm_c116) lv st G E kc ks = (xm_run call xm_c116 nL mc ms ret Q f (xm_drop 19 xm_c116) lv ((.int 1) :: st) G E kc ks) := rfl
theorem xz_116_19 : xm_run call xm_c116 nL mc ms ret Q (f + 1) (xm_drop 19 xm_c116) lv st G E kc ks = (xm_putf 8 8 st G (fun st G => xm_run call xm_c116 nL mc ms ret Q f (xm_drop 20 xm_c116) lv st G E kc ks)) := rfl
theorem xz_116_20 : xm_run call xm_c116 nL mc ms ret Q (f + 1) (xm_drop 20 xm_c116) lv st G E kc ks = ((match xm_get lv 0 with
    | some w => bif xm_isA w then xm_run call xm_c116 nL mc ms ret Q f (xm_drop 21 xm_c116) lv (w :: st) G E kc ks else false
    | none => false)) := rfl
theorem xz_116_21 : xm_run call xm_c116 nL mc ms ret Q (f + 1) (xm_drop 21 xm_c116) lv st G E kc ks = (xm_getf 10 1 st G (fun st => xm_run call xm_c116 nL mc ms ret Q f (xm_drop 22 xm_c116) lv st G E kc ks)) := rfl
theorem xz_116_22 : xm_run call xm_c116 nL mc ms ret Q (f + 1) (xm_drop 22 xm_c116) lv st G E kc ks = (xm_getf 8 1 st G (fun st => xm_run call xm_c116 nL mc ms ret Q f (xm_drop 23 xm_c116) lv st G E kc ks)) := rfl
theorem xz_116_23 : xm_run call xm_c116 nL mc ms ret Q (f + 1) (xm_drop 23 xm_c116) lv st G E kc ks = (xm_getf 0 0 st G (fun st => xm_run call xm_c116 nL mc ms ret Q f (xm_drop 24 xm_c116) lv st G E kc ks)) := rfl
theorem xz_116_24 : xm_run call xm_c116 nL mc ms ret Q (f + 1) (xm_drop 24 xm_c116) lv st G E kc ks = ((match st with
    | [w] => bif xm_isI w && (xm_rok ret w && (Nat.ble kc mc && Nat.ble ks ms)) then Q (some w) G E else false
    | _ => false)) := rfl
theorem xz_117_0 : xm_run call xm_c117 nL mc ms ret Q (f + 1) (xm_drop 0 xm_c117) lv st G E kc ks = ((match xm_get lv 1 with
    | some w => bif xm_isI w then xm_run call xm_c117 nL mc ms ret Q f (xm_drop 1 xm_c117) lv (w :: st) G E kc ks else false
    | none => false)) := rfl
theorem xz_117_1 : xm_run call xm_c117 nL mc ms ret Q (f + 1) (xm_drop 1 xm_c117) lv st G E kc ks = ((match st with
    | w :: st => xm_cmpI E w (.int 0) (fun E s => bif xm_holds .lt s then xm_run call xm_c117 nL mc ms ret Q f (xm_drop 11 xm_c117) lv st G E kc ks else xm_run call xm_c117 nL mc ms ret Q f (xm_drop 2 xm_c117) lv st G E kc ks)
    | _ => false)) := rfl
theorem xz_117_2 : xm_run call xm_c117 nL mc ms ret Q (f + 1) (xm_drop 2 xm_c117) lv st G E kc ks = ((match xm_get lv 1 with
    | some w => bif xm_isI w then xm_run call xm_c117 nL mc ms ret Q f (xm_drop 3 xm_c117) lv (w :: st) G E kc ks else false
    | none => false)) := rfl
theorem xz_117_3 : xm_run call xm_c117 nL mc ms ret Q (f + 1) (xm_drop 3 xm_c117) lv st G E kc ks = (xm_run call xm_c117 nL mc ms ret Q f (xm_drop 4 xm_c117) lv ((.int 4) :: st) G E kc ks) := rfl
theorem xz_117_4 : xm_run call xm_c117 nL mc ms ret Q (f + 1) (xm_drop 4 xm_c117) lv st G E kc ks = ((match st with
    | w :: u :: st => xm_cmpI E u w (fun E s => bif xm_holds .ge s then xm_run call xm_c117 nL mc ms ret Q f (xm_drop 11 xm_c117) lv st G E kc ks else xm_run call xm_c117 nL mc ms ret Q f (xm_drop 5 xm_c117) lv st G E kc ks)
    | _ => false)) := rfl
theorem xz_117_5 : xm_run call xm_c117 nL mc ms ret Q (f + 1) (xm_drop 5 xm_c117) lv st G E kc ks = ((match xm_get lv 0 with
    | some w => bif xm_isA w then xm_run call xm_c117 nL mc ms ret Q f (xm_drop 6 xm_c117) lv (w :: st) G E kc ks else false
    | none => false)) := rfl
theorem xz_117_6 : xm_run call xm_c117 nL mc ms ret Q (f + 1) (xm_drop 6 xm_c117) lv st G E kc ks = (xm_getf 10 6 st G (fun st => xm_run call xm_c117 nL mc ms ret Q f (xm_drop 7 xm_c117) lv st G E kc ks)) := rfl
theorem xz_117_7 : xm_run call xm_c117 nL mc ms ret Q (f + 1) (xm_drop 7 xm_c117) lv st G E kc ks = ((match xm_get lv 1 with
    | some w => bif xm_isI w then xm_run call xm_c117 nL mc ms ret Q f (xm_drop 8 xm_c117) lv (w :: st) G E kc ks else false
    | none => false)) := rfl
theorem xz_117_8 : xm_run call xm_c117 nL mc ms ret Q (f + 1) (xm_drop 8 xm_c117) lv st G E kc ks = (xm_ald xm_isAr st G E (fun st E => xm_run call xm_c117 nL mc ms ret Q f (xm_drop 9 xm_c117) lv st G E kc ks)) := rfl
theorem xz_117_9 : xm_run call xm_c117 nL mc ms ret Q (f + 1) (xm_drop 9 xm_c117) lv st G E kc ks = (xm_getf 8 8 st G (fun st => xm_run call xm_c117 nL mc ms ret Q f (xm_drop 10 xm_c117) lv st G E kc ks)) := rfl
theorem xz_117_10 : xm_run call xm_c117 nL mc ms ret Q (f + 1) (xm_drop 10 xm_c117) lv st G E kc ks = ((match st with
    | w :: st => xm_cmpI E w (.int 0) (fun E s => bif xm_holds .ne s then xm_run call xm_c117 nL mc ms ret Q f (xm_drop 13 xm_c117) lv st G E kc ks else xm_run call xm_c117 nL mc ms ret Q f (xm_drop 11 xm_c117) lv st G E kc ks)
    | _ => false)) := rfl
theorem xz_117_11 : xm_run call xm_c117 nL mc ms ret Q (f + 1) (xm_drop 11 xm_c117) lv st G E kc ks = (xm_run call xm_c117 nL mc ms ret Q f (xm_drop 12 xm_c117) lv ((.int (-1)) :: st) G E kc ks) := rfl
theorem xz_117_12 : xm_run call xm_c117 nL mc ms ret Q (f + 1) (xm_drop 12 xm_c117) lv st G E kc ks = ((match st with
    | [w] => bif xm_isI w && (xm_rok ret w && (Nat.ble kc mc && Nat.ble ks ms)) then Q (some w) G E else false
    | _ => false)) := rfl
theorem xz_117_13 : xm_run call xm_c117 nL mc ms ret Q (f + 1) (xm_drop 13 xm_c117) lv st G E kc ks = ((match xm_get lv 0 with
    | some w => bif xm_isA w then xm_run call xm_c117 nL mc ms ret Q f (xm_drop 14 xm_c117) lv (w :: st) G E kc ks else false
    | none => false)) := rfl
theorem xz_117_14 : xm_run call xm_c117 nL mc ms ret Q (f + 1) (xm_drop 14 xm_c117) lv st G E kc ks = (xm_getf 10 1 st G (fun st => xm_run call xm_c117 nL mc ms ret Q f (xm_drop 15 xm_c117) lv st G E kc ks)) := rfl
theorem xz_117_15 : xm_run call xm_c117 nL mc ms ret Q (f + 1) (xm_drop 15 xm_c117) lv st G E kc ks = ((match xm_get lv 0 with
    | some w => bif xm_isA w then xm_run call xm_c117 nL mc ms ret Q f (xm_drop 16 xm_c117) lv (w :: st) G E kc ks else false
    | none => false)) := rfl
theorem xz_117_16 : xm_run call xm_c117 nL mc ms ret Q (f + 1) (xm_drop 16 xm_c117) lv st G E kc ks = (xm_getf 10 6 st G (fun st => xm_run call xm_c117 nL mc ms ret Q f (xm_drop 17 xm_c117) lv st G E kc ks)) := rfl
theorem xz_117_17 : xm_run call xm_c117 nL mc ms ret Q (f + 1) (xm_drop 17 xm_c117) lv st G E kc ks = ((match xm_get lv 1 with
    | some w => bif xm_isI w then xm_run call xm_c117 nL mc ms ret Q f (xm_drop 18 xm_c117) lv (w :: st) G E kc ks else false
    | none => false)) := rfl
theorem xz_117_18 : xm_run call xm_c117 nL mc ms ret Q (f + 1) (xm_drop 18 xm_c117) lv st G E kc ks = (xm_ald xm_isAr st G E (fun st E => xm_run call xm_c117 nL mc ms ret Q f (xm_drop 19 xm_c117) lv st G E kc ks)) := rfl
theorem xz_117_19 : xm_run call xm_c117 nL mc ms ret Q (f + 1) (xm_drop 19 xm_c117) lv st G E kc ks = (bif Nat.beq 76 1006 || Nat.beq 76 1007 then xm_strl 76 st G (fun st => xm_run call xm_c117 nL mc ms ret Q f (xm_drop 20 xm_c117) lv st G E kc ks) else xm_call call mc ms 76 0 st G E kc ks (fun st G E kc ks => xm_run call xm_c117 nL mc ms ret Q f (xm_drop 20 xm_c117) lv st G E kc ks)) := rfl
theorem xz_117_20 : xm_run call xm_c117 nL mc ms ret Q (f + 1) (xm_drop 20 xm_c117) lv st G E kc ks = ((match xm_get lv 0 with
    | some w => bif xm_isA w then xm_run call xm_c117 nL mc ms ret Q f (xm_drop 21 xm_c117) lv (w :: st) G E kc ks else false
    | none => false)) := rfl
theorem xz_117_21 : xm_run call xm_c117 nL mc ms ret Q (f + 1) (xm_drop 21 xm_c117) lv st G E kc ks = (xm_getf 10 5 st G (fun st => xm_run call xm_c117 nL mc ms ret Q f (xm_drop 22 xm_c117) lv st G E kc ks)) := rfl
theorem xz_117_22 : xm_run call xm_c117 nL mc ms ret Q (f + 1) (xm_drop 22 xm_c117) lv st G E kc ks = (bif Nat.beq 19 1006 || Nat.beq 19 1007 then xm_strl 19 st G (fun st => xm_run call xm_c117 nL mc ms ret Q f (xm_drop 23 xm_c117) lv st G E kc ks) else xm_call call mc ms 19 0 st G E kc ks (fun st G E kc ks => xm_run call xm_c117 nL mc ms ret Q f (xm_drop 23 xm_c117) lv st G E kc ks)) := rfl
theorem xz_117_23 : xm_run call xm_c117 nL mc ms ret Q (f + 1) (xm_drop 23 xm_c117) lv st G E kc ks = ((match xm_get lv 0 with
    | some w => bif xm_isA w then xm_run call xm_c117 nL mc ms ret Q f (xm_drop 24 xm_c117) lv (w :: st) G E kc ks else false
    | none => false)) := rfl
theorem xz_117_24 : xm_run call xm_c117 nL mc ms ret Q (f + 1) (xm_drop 24 xm_c117) lv st G E kc ks = (xm_getf 10 1 st G (fun st => xm_run call xm_c117 nL mc ms ret Q f (xm_drop 25 xm_c117) lv st G E kc ks)) := rfl
theorem xz_117_25 : xm_run call xm_c117 nL mc ms ret Q (f + 1) (xm_drop 25 xm_c117) lv st G E kc ks = (xm_getf 8 1 st G (fun st => xm_run call xm_c117 nL mc ms ret Q f (xm_drop 26 xm_c117) lv st G E kc ks)) := rfl
theorem xz_117_26 : xm_run call xm_c117 nL mc ms ret Q (f + 1) (xm_drop 26 xm_c117) lv st G E kc ks = (xm_getf 0 0 st G (fun st => xm_run call xm_c117 nL mc ms ret Q f (xm_drop 27 xm_c117) lv st G E kc ks)) := rfl
theorem xz_117_27 : xm_run call xm_c117 nL mc ms ret Q (f + 1) (xm_drop 27 xm_c117) lv st G E kc ks = ((match st with
    | [w] => bif xm_isI w && (xm_rok ret w && (Nat.ble kc mc && Nat.ble ks ms)) then Q (some w) G E else false
    | _ => false)) := rfl
theorem xz_231_0 : xm_run call xm_c231 nL mc ms ret Q (f + 1) (xm_drop 0 xm_c231) lv st G E kc ks = ((match xm_get lv 1 with
    | some w => bif xm_isI w then xm_run call xm_c231 nL mc ms ret Q f (xm_drop 1 xm_c231) lv (w :: st) G E kc ks else false
    | none => false)) := rfl
theorem xz_231_1 : xm_run call xm_c231 nL mc ms ret Q (f + 1) (xm_drop 1 xm_c231) lv st G E kc ks = ((match st with
    | w :: st => xm_cmpI E w (.int 0) (fun E s => bif xm_holds .ge s then xm_run call xm_c231 nL mc ms ret Q f (xm_drop 4 xm_c231) lv st G E kc ks else xm_run call xm_c231 nL mc ms ret Q f (xm_drop 2 xm_c231) lv st G E kc ks)
    | _ => false)) := rfl
theorem xz_231_2 : xm_run call xm_c231 nL mc ms ret Q (f + 1) (xm_drop 2 xm_c231) lv st G E kc ks = (xm_run call xm_c231 nL mc ms ret Q f (xm_drop 3 xm_c231) lv ((.int (-1)) :: st) G E kc ks) := rfl
theorem xz_231_3 : xm_run call xm_c231 nL mc ms ret Q (f + 1) (xm_drop 3 xm_c231) lv st G E kc ks = ((match st with
    | [w] => bif xm_isI w && (xm_rok ret w && (Nat.ble kc mc && Nat.ble ks ms)) then Q (some w) G E else false
    | _ => false)) := rfl
theorem xz_231_4 : xm_run call xm_c231 nL mc ms ret Q (f + 1) (xm_drop 4 xm_c231) lv st G E kc ks = ((match xm_get lv 0 with
    | some w => bif xm_isA w then xm_run call xm_c231 nL mc ms ret Q f (xm_drop 5 xm_c231) lv (w :: st) G E kc ks else false
    | none => false)) := rfl
theorem xz_231_5 : xm_run call xm_c231 nL mc ms ret Q (f + 1) (xm_drop 5 xm_c231) lv st G E kc ks = (xm_getf 11 22 st G (fun st => xm_run call xm_c231 nL mc ms ret Q f (xm_drop 6 xm_c231) lv st G E kc ks)) := rfl
theorem xz_231_6 : xm_run call xm_c231 nL mc ms ret Q (f + 1) (xm_drop 6 xm_c231) lv st G E kc ks = ((match st with
    | w :: st => bif xm_isI w && Nat.blt 2 nL then xm_run call xm_c231 nL mc ms ret Q f (xm_drop 7 xm_c231) (xm_set1 lv 2 w) st G E kc ks else false
    | _ => false)) := rfl
theorem xz_231_7 : xm_run call xm_c231 nL mc ms ret Q (f + 1) (xm_drop 7 xm_c231) lv st G E kc ks = ((match xm_get lv 0 with
    | some w => bif xm_isA w then xm_run call xm_c231 nL mc ms ret Q f (xm_drop 8 xm_c231) lv (w :: st) G E kc ks else false
    | none => false)) := rfl
theorem xz_231_8 : xm_run call xm_c231 nL mc ms ret Q (f + 1) (xm_drop 8 xm_c231) lv st G E kc ks = ((match xm_get lv 1 with
    | some w => bif xm_isI w then xm_run call xm_c231 nL mc ms ret Q f (xm_drop 9 xm_c231) lv (w :: st) G E kc ks else false
    | none => false)) := rfl
theorem xz_231_9 : xm_run call xm_c231 nL mc ms ret Q (f + 1) (xm_drop 9 xm_c231) lv st G E kc ks = (xm_putf 11 22 st G (fun st G => xm_run call xm_c231 nL mc ms ret Q f (xm_drop 10 xm_c231) lv st G E kc ks)) := rfl
theorem xz_231_10 : xm_run call xm_c231 nL mc ms ret Q (f + 1) (xm_drop 10 xm_c231) lv st G E kc ks = ((match xm_get lv 2 with
    | some w => bif xm_isI w then xm_run call xm_c231 nL mc ms ret Q f (xm_drop 11 xm_c231) lv (w :: st) G E kc ks else false
    | none => false)) := rfl
theorem xz_231_11 : xm_run call xm_c231 nL mc ms ret Q (f + 1) (xm_drop 11 xm_c231) lv st G E kc ks = ((match st with
    | [w] => bif xm_isI w && (xm_rok ret w && (Nat.ble kc mc && Nat.ble ks ms)) then Q (some w) G E else false
    | _ => false)) := rfl
theorem xz_236_0 : xm_run call xm_c236 nL mc ms ret Q (f + 1) (xm_drop 0 xm_c236) lv st G E kc ks = ((match xm_get lv 1 with
    | some w => bif xm_isI w then xm_run call xm_c236 nL mc ms ret Q f (xm_drop 1 xm_c236) lv (w :: st) G E kc ks else false
    | none => false)) := rfl
theorem xz_236_1 : xm_run call xm_c236 nL mc ms ret Q (f + 1) (xm_drop 1 xm_c236) lv st G E kc ks = (xm_i2l st (fun st => xm_run call xm_c236 nL mc ms ret Q f (xm_drop 2 xm_c236) lv st G E kc ks)) := rfl
theorem xz_236_2 : xm_run call xm_c236 nL mc ms ret Q (f + 1) (xm_drop 2 xm_c236) lv st G E kc ks = (xm_run call xm_c236 nL mc ms ret Q f (xm_drop 3 xm_c236) lv ((.long 0) :: st) G E kc ks) := rfl
theorem xz_236_3 : xm_run call xm_c236 nL mc ms ret Q (f + 1) (xm_drop 3 xm_c236) lv st G E kc ks = (xm_run call xm_c236 nL mc ms ret Q f (xm_drop 4 xm_c236) lv ((.long 3) :: st) G E kc ks) := rfl
theorem xz_236_4 : xm_run call xm_c236 nL mc ms ret Q (f + 1) (xm_drop 4 xm_c236) lv st G E kc ks = (bif Nat.beq 125 1001 then xm_acopy st G (fun st G => xm_run call xm_c236 nL mc ms ret Q f (xm_drop 5 xm_c236) lv st G E kc ks) else bif Nat.beq 125 1003 || (Nat.beq 125 1004 || Nat.beq 125 1005) then xm_math 125 st (fun st => xm_run call xm_c236 nL mc ms ret Q f (xm_drop 5 xm_c236) lv st G E kc ks) else bif Nat.beq 1 3 then xm_call call mc ms 125 3 st G E kc ks (fun st G E kc ks => xm_run call xm_c236 nL mc ms ret Q f (xm_drop 5 xm_c236) lv st G E kc ks) else xm_call call mc ms 125 1 st G E kc ks (fun st G E kc ks => xm_run call xm_c236 nL mc ms ret Q f (xm_drop 5 xm_c236) lv st G E kc ks)) := rfl
theorem xz_236_5 : xm_run call xm_c236 nL mc ms ret Q (f + 1) (xm_drop 5 xm_c236) lv st G E kc ks = ((match st with
    | w :: st => xm_cmpI E w (.int 0) (fun E s => bif xm_holds .ne s then xm_run call xm_c236 nL mc ms ret Q f (xm_drop 8 xm_c236) lv st G E kc ks else xm_run call xm_c236 nL mc ms ret Q f (xm_drop 6 xm_c236) lv st G E kc ks)
    | _ => false)) := rfl
theorem xz_236_6 : xm_run call xm_c236 nL mc ms ret Q (f + 1) (xm_drop 6 xm_c236) lv st G E kc ks = (xm_run call xm_c236 nL mc ms ret Q f (xm_drop 7 xm_c236) lv ((.int (-1)) :: st) G E kc ks) := rfl
theorem xz_236_7 : xm_run call xm_c236 nL mc ms ret Q (f + 1) (xm_drop 7 xm_c236) lv st G E kc ks = ((match st with
    | [w] => bif xm_isI w && (xm_rok ret w && (Nat.ble kc mc && Nat.ble ks ms)) then Q (some w) G E else false
    | _ => false)) := rfl
theorem xz_236_8 : xm_run call xm_c236 nL mc ms ret Q (f + 1) (xm_drop 8 xm_c236) lv st G E kc ks = ((match xm_get lv 0 with
    | some w => bif xm_isA w then xm_run call xm_c236 nL mc ms ret Q f (xm_drop 9 xm_c236) lv (w :: st) G E kc ks else false
    | none => false)) := rfl
theorem xz_236_9 : xm_run call xm_c236 nL mc ms ret Q (f + 1) (xm_drop 9 xm_c236) lv st G E kc ks = (xm_getf 11 35 st G (fun st => xm_run call xm_c236 nL mc ms ret Q f (xm_drop 10 xm_c236) lv st G E kc ks)) := rfl
theorem xz_236_10 : xm_run call xm_c236 nL mc ms ret Q (f + 1) (xm_drop 10 xm_c236) lv st G E kc ks = ((match xm_get lv 1 with
    | some w => bif xm_isI w then xm_run call xm_c236 nL mc ms ret Q f (xm_drop 11 xm_c236) lv (w :: st) G E kc ks else false
    | none => false)) := rfl
theorem xz_236_11 : xm_run call xm_c236 nL mc ms ret Q (f + 1) (xm_drop 11 xm_c236) lv st G E kc ks = (xm_run call xm_c236 nL mc ms ret Q f (xm_drop 12 xm_c236) lv ((.int 1) :: st) G E kc ks) := rfl
theorem xz_236_12 : xm_run call xm_c236 nL mc ms ret Q (f + 1) (xm_drop 12 xm_c236) lv st G E kc ks = (xm_bast st G E (fun st G E => xm_run call xm_c236 nL mc ms ret Q f (xm_drop 13 xm_c236) lv st G E kc ks)) := rfl
theorem xz_236_13 : xm_run call xm_c236 nL mc ms ret Q (f + 1) (xm_drop 13 xm_c236) lv st G E kc ks = ((match xm_get lv 0 with
    | some w => bif xm_isA w then xm_run call xm_c236 nL mc ms ret Q f (xm_drop 14 xm_c236) lv (w :: st) G E kc ks else false
    | none => false)) := rfl
theorem xz_236_14 : xm_run call xm_c236 nL mc ms ret Q (f + 1) (xm_drop 14 xm_c236) lv st G E kc ks = (xm_getf 11 33 st G (fun st => xm_run call xm_c236 nL mc ms ret Q f (xm_drop 15 xm_c236) lv st G E kc ks)) := rfl
theorem xz_236_15 : xm_run call xm_c236 nL mc ms ret Q (f + 1) (xm_drop 15 xm_c236) lv st G E kc ks = ((match xm_get lv 1 with
    | some w => bif xm_isI w then xm_run call xm_c236 nL mc ms ret Q f (xm_drop 16 xm_c236) lv (w :: st) G E kc ks else false
    | none => false)) := rfl
theorem xz_236_16 : xm_run call xm_c236 nL mc ms ret Q (f + 1) (xm_drop 16 xm_c236) lv st G E kc ks = ((match xm_get lv 0 with
    | some w => bif xm_isA w then xm_run call xm_c236 nL mc ms ret Q f (xm_drop 17 xm_c236) lv (w :: st) G E kc ks else false
    | none => false)) := rfl
theorem xz_236_17 : xm_run call xm_c236 nL mc ms ret Q (f + 1) (xm_drop 17 xm_c236) lv st G E kc ks = (xm_getf 11 21 st G (fun st => xm_run call xm_c236 nL mc ms ret Q f (xm_drop 18 xm_c236) lv st G E kc ks)) := rfl
theorem xz_236_18 : xm_run call xm_c236 nL mc ms ret Q (f + 1) (xm_drop 18 xm_c236) lv st G E kc ks = (xm_ast (fun t => Nat.beq t 100) xm_kI st G E (fun st G E => xm_run call xm_c236 nL mc ms ret Q f (xm_drop 19 xm_c236) lv st G E kc ks)) := rfl
theorem xz_236_19 : xm_run call xm_c236 nL mc ms ret Q (f + 1) (xm_drop 19 xm_c236) lv st G E kc ks = ((match xm_get lv 0 with
    | some w => bif xm_isA w then xm_run call xm_c236 nL mc ms ret Q f (xm_drop 20 xm_c236) lv (w :: st) G E kc ks else false
    | none => false)) := rfl
theorem xz_236_20 : xm_run call xm_c236 nL mc ms ret Q (f + 1) (xm_drop 20 xm_c236) lv st G E kc ks = (xm_getf 11 34 st G (fun st => xm_run call xm_c236 nL mc ms ret Q f (xm_drop 21 xm_c236) lv st G E kc ks)) := rfl
theorem xz_236_21 : xm_run call xm_c236 nL mc ms ret Q (f + 1) (xm_drop 21 xm_c236) lv st G E kc ks = ((match xm_get lv 1 with
    | some w => bif xm_isI w then xm_run call xm_c236 nL mc ms ret Q f (xm_drop 22 xm_c236) lv (w :: st) G E kc ks else false
    | none => false)) := rfl
theorem xz_236_22 : xm_run call xm_c236 nL mc ms ret Q (f + 1) (xm_drop 22 xm_c236) lv st G E kc ks = ((match xm_get lv 0 with
    | some w => bif xm_isA w then xm_run call xm_c236 nL mc ms ret Q f (xm_drop 23 xm_c236) lv (w :: st) G E kc ks else false
    | none => false)) := rfl
theorem xz_236_23 : xm_run call xm_c236 nL mc ms ret Q (f + 1) (xm_drop 23 xm_c236) lv st G E kc ks = (xm_getf 11 22 st G (fun st => xm_run call xm_c236 nL mc ms ret Q f (xm_drop 24 xm_c236) lv st G E kc ks)) := rfl
theorem xz_236_24 : xm_run call xm_c236 nL mc ms ret Q (f + 1) (xm_drop 24 xm_c236) lv st G E kc ks = (xm_ast (fun t => Nat.beq t 100) xm_kI st G E (fun st G E => xm_run call xm_c236 nL mc ms ret Q f (xm_drop 25 xm_c236) lv st G E kc ks)) := rfl
theorem xz_236_25 : xm_run call xm_c236 nL mc ms ret Q (f + 1) (xm_drop 25 xm_c236) lv st G E kc ks = (xm_run call xm_c236 nL mc ms ret Q f (xm_drop 26 xm_c236) lv ((.int 0) :: st) G E kc ks) := rfl
theorem xz_236_26 : xm_run call xm_c236 nL mc ms ret Q (f + 1) (xm_drop 26 xm_c236) lv st G E kc ks = ((match st with
    | w :: st => bif xm_isI w && Nat.blt 2 nL then xm_run call xm_c236 nL mc ms ret Q f (xm_drop 27 xm_c236) (xm_set1 lv 2 w) st G E kc ks else false
    | _ => false)) := rfl
theorem xz_236_27 : xm_run call xm_c236 nL mc ms ret Q (f + 1) (xm_drop 27 xm_c236) lv st G E kc ks = ((match xm_get lv 2 with
    | some w => bif xm_isI w then xm_run call xm_c236 nL mc ms ret Q f (xm_drop 28 xm_c236) lv (w :: st) G E kc ks else false
    | none => false)) := rfl
theorem xz_236_28 : xm_run call xm_c236 nL mc ms ret Q (f + 1) (xm_drop 28 xm_c236) lv st G E kc ks = (xm_run call xm_c236 nL mc ms ret Q f (xm_drop 29 xm_c236) lv ((.int 146) :: st) G E kc ks) := rfl
theorem xz_236_29 : xm_run call xm_c236 nL mc ms ret Q (f + 1) (xm_drop 29 xm_c236) lv st G E kc ks = ((match st with
    | w :: u :: st => xm_cmpI E u w (fun E s => bif xm_holds .ge s then xm_run call xm_c236 nL mc ms ret Q f (xm_drop 44 xm_c236) lv st G E kc ks else xm_run call xm_c236 nL mc ms ret Q f (xm_drop 30 xm_c236) lv st G E kc ks)
    | _ => false)) := rfl
theorem xz_236_30 : xm_run call xm_c236 nL mc ms ret Q (f + 1) (xm_drop 30 xm_c236) lv st G E kc ks = ((match xm_get lv 0 with
    | some w => bif xm_isA w then xm_run call xm_c236 nL mc ms ret Q f (xm_drop 31 xm_c236) lv (w :: st) G E kc ks else false
    | none => false)) := rfl
theorem xz_236_31 : xm_run call xm_c236 nL mc ms ret Q (f + 1) (xm_drop 31 xm_c236) lv st G E kc ks = (xm_getf 11 32 st G (fun st => xm_run call xm_c236 nL mc ms ret Q f (xm_drop 32 xm_c236) lv st G E kc ks)) := rfl
theorem xz_236_32 : xm_run call xm_c236 nL mc ms ret Q (f + 1) (xm_drop 32 xm_c236) lv st G E kc ks = (xm_run call xm_c236 nL mc ms ret Q f (xm_drop 33 xm_c236) lv ((.int 146) :: st) G E kc ks) := rfl
theorem xz_236_33 : xm_run call xm_c236 nL mc ms ret Q (f + 1) (xm_drop 33 xm_c236) lv st G E kc ks = ((match xm_get lv 1 with
    | some w => bif xm_isI w then xm_run call xm_c236 nL mc ms ret Q f (xm_drop 34 xm_c236) lv (w :: st) G E kc ks else false
    | none => false)) := rfl
theorem xz_236_34 : xm_run call xm_c236 nL mc ms ret Q (f + 1) (xm_drop 34 xm_c236) lv st G E kc ks = (xm_int2 .imul st E (fun st E => xm_run call xm_c236 nL mc ms ret Q f (xm_drop 35 xm_c236) lv st G E kc ks)) := rfl
theorem xz_236_35 : xm_run call xm_c236 nL mc ms ret Q (f + 1) (xm_drop 35 xm_c236) lv st G E kc ks = ((match xm_get lv 2 with
    | some w => bif xm_isI w then xm_run call xm_c236 nL mc ms ret Q f (xm_drop 36 xm_c236) lv (w :: st) G E kc ks else false
    | none => false)) := rfl
theorem xz_236_36 : xm_run call xm_c236 nL mc ms ret Q (f + 1) (xm_drop 36 xm_c236) lv st G E kc ks = (xm_int2 .iadd st E (fun st E => xm_run call xm_c236 nL mc ms ret Q f (xm_drop 37 xm_c236) lv st G E kc ks)) := rfl
theorem xz_236_37 : xm_run call xm_c236 nL mc ms ret Q (f + 1) (xm_drop 37 xm_c236) lv st G E kc ks = ((match xm_get lv 0 with
    | some w => bif xm_isA w then xm_run call xm_c236 nL mc ms ret Q f (xm_drop 38 xm_c236) lv (w :: st) G E kc ks else false
    | none => false)) := rfl
theorem xz_236_38 : xm_run call xm_c236 nL mc ms ret Q (f + 1) (xm_drop 38 xm_c236) lv st G E kc ks = (xm_getf 11 20 st G (fun st => xm_run call xm_c236 nL mc ms ret Q f (xm_drop 39 xm_c236) lv st G E kc ks)) := rfl
theorem xz_236_39 : xm_run call xm_c236 nL mc ms ret Q (f + 1) (xm_drop 39 xm_c236) lv st G E kc ks = ((match xm_get lv 2 with
    | some w => bif xm_isI w then xm_run call xm_c236 nL mc ms ret Q f (xm_drop 40 xm_c236) lv (w :: st) G E kc ks else false
    | none => false)) := rfl
theorem xz_236_40 : xm_run call xm_c236 nL mc ms ret Q (f + 1) (xm_drop 40 xm_c236) lv st G E kc ks = (xm_iald st G E (fun st E => xm_run call xm_c236 nL mc ms ret Q f (xm_drop 41 xm_c236) lv st G E kc ks)) := rfl
theorem xz_236_41 : xm_run call xm_c236 nL mc ms ret Q (f + 1) (xm_drop 41 xm_c236) lv st G E kc ks = (xm_ast (fun t => Nat.beq t 100) xm_kI st G E (fun st G E => xm_run call xm_c236 nL mc ms ret Q f (xm_drop 42 xm_c236) lv st G E kc ks)) := rfl
theorem xz_236_42 : xm_run call xm_c236 nL mc ms ret Q (f + 1) (xm_drop 42 xm_c236) lv st G E kc ks = ((match xm_get lv 2 with
    | some w => bif Nat.blt 2 nL then xm_conc E w (fun E x => xm_frc (x + Int32.ofInt 1) (fun z => xm_run call xm_c236 nL mc ms ret Q f (xm_drop 43 xm_c236) (xm_set1 lv 2 (.int z)) st G E kc ks)) else false
    | none => false)) := rfl
theorem xz_236_43 : xm_run call xm_c236 nL mc ms ret Q (f + 1) (xm_drop 43 xm_c236) lv st G E kc ks = (xm_run call xm_c236 nL mc ms ret Q f (xm_drop 27 xm_c236) lv st G E kc ks) := rfl
theorem xz_236_44 : xm_run call xm_c236 nL mc ms ret Q (f + 1) (xm_drop 44 xm_c236) lv st G E kc ks = ((match xm_get lv 0 with
    | some w => bif xm_isA w then xm_run call xm_c236 nL mc ms ret Q f (xm_drop 45 xm_c236) lv (w :: st) G E kc ks else false
    | none => false)) := rfl
theorem xz_236_45 : xm_run call xm_c236 nL mc ms ret Q (f + 1) (xm_drop 45 xm_c236) lv st G E kc ks = (xm_getf 11 20 st G (fun st => xm_run call xm_c236 nL mc ms ret Q f (xm_drop 46 xm_c236) lv st G E kc ks)) := rfl
theorem xz_236_46 : xm_run call xm_c236 nL mc ms ret Q (f + 1) (xm_drop 46 xm_c236) lv st G E kc ks = (xm_run call xm_c236 nL mc ms ret Q f (xm_drop 47 xm_c236) lv ((.int 4) :: st) G E kc ks) := rfl
theorem xz_236_47 : xm_run call xm_c236 nL mc ms ret Q (f + 1) (xm_drop 47 xm_c236) lv st G E kc ks = (xm_iald st G E (fun st E => xm_run call xm_c236 nL mc ms ret Q f (xm_drop 48 xm_c236) lv st G E kc ks)) := rfl
theorem xz_236_48 : xm_run call xm_c236 nL mc ms ret Q (f + 1) (xm_drop 48 xm_c236) lv st G E kc ks = ((match st with
    | [w] => bif xm_isI w && (xm_rok ret w && (Nat.ble kc mc && Nat.ble ks ms)) then Q (some w) G E else false
    | _ => false)) := rfl
theorem xz_237_0 : xm_run call xm_c237 nL mc ms ret Q (f + 1) (xm_drop 0 xm_c237) lv st G E kc ks = ((match xm_get lv 1 with
    | some w => bif xm_isI w then xm_run call xm_c237 nL mc ms ret Q f (xm_drop 1 xm_c237) lv (w :: st) G E kc ks else false
    | none => false)) := rfl
theorem xz_237_1 : xm_run call xm_c237 nL mc ms ret Q (f + 1) (xm_drop 1 xm_c237) lv st G E kc ks = (xm_i2l st (fun st => xm_run call xm_c237 nL mc ms ret Q f (xm_drop 2 xm_c237) lv st G E kc ks)) := rfl
theorem xz_237_2 : xm_run call xm_c237 nL mc ms ret Q (f + 1) (xm_drop 2 xm_c237) lv st G E kc ks = (xm_run call xm_c237 nL mc ms ret Q f (xm_drop 3 xm_c237) lv ((.long 0) :: st) G E kc ks) := rfl
theorem xz_237_3 : xm_run call xm_c237 nL mc ms ret Q (f + 1) (xm_drop 3 xm_c237) lv st G E kc ks = (xm_run call xm_c237 nL mc ms ret Q f (xm_drop 4 xm_c237) lv ((.long 3) :: st) G E kc ks) := rfl
theorem xz_237_4 : xm_run call xm_c237 nL mc ms ret Q (f + 1) (xm_drop 4 xm_c237) lv st G E kc ks = (bif Nat.beq 125 1001 then xm_acopy st G (fun st G => xm_run call xm_c237 nL mc ms ret Q f (xm_drop 5 xm_c237) lv st G E kc ks) else bif Nat.beq 125 1003 || (Nat.beq 125 1004 || Nat.beq 125 1005) then xm_math 125 st (fun st => xm_run call xm_c237 nL mc ms ret Q f (xm_drop 5 xm_c237) lv st G E kc ks) else bif Nat.beq 1 3 then xm_call call mc ms 125 3 st G E kc ks (fun st G E kc ks => xm_run call xm_c237 nL mc ms ret Q f (xm_drop 5 xm_c237) lv st G E kc ks) else xm_call call mc ms 125 1 st G E kc ks (fun st G E kc ks => xm_run call xm_c237 nL mc ms ret Q f (xm_drop 5 xm_c237) lv st G E kc ks)) := rfl
theorem xz_237_5 : xm_run call xm_c237 nL mc ms ret Q (f + 1) (xm_drop 5 xm_c237) lv st G E kc ks = ((match st with
    | w :: st => xm_cmpI E w (.int 0) (fun E s => bif xm_holds .eq s then xm_run call xm_c237 nL mc ms ret Q f (xm_drop 11 xm_c237) lv st G E kc ks else xm_run call xm_c237 nL mc ms ret Q f (xm_drop 6 xm_c237) lv st G E kc ks)
    | _ => false)) := rfl
theorem xz_237_6 : xm_run call xm_c237 nL mc ms ret Q (f + 1) (xm_drop 6 xm_c237) lv st G E kc ks = ((match xm_get lv 0 with
    | some w => bif xm_isA w then xm_run call xm_c237 nL mc ms ret Q f (xm_drop 7 xm_c237) lv (w :: st) G E kc ks else false
    | none => false)) := rfl
theorem xz_237_7 : xm_run call xm_c237 nL mc ms ret Q (f + 1) (xm_drop 7 xm_c237) lv st G E kc ks = (xm_getf 11 35 st G (fun st => xm_run call xm_c237 nL mc ms ret Q f (xm_drop 8 xm_c237) lv st G E kc ks)) := rfl
theorem xz_237_8 : xm_run call xm_c237 nL mc ms ret Q (f + 1) (xm_drop 8 xm_c237) lv st G E kc ks = ((match xm_get lv 1 with
    | some w => bif xm_isI w then xm_run call xm_c237 nL mc ms ret Q f (xm_drop 9 xm_c237) lv (w :: st) G E kc ks else false
    | none => false)) := rfl
theorem xz_237_9 : xm_run call xm_c237 nL mc ms ret Q (f + 1) (xm_drop 9 xm_c237) lv st G E kc ks = (xm_bald st G E (fun st E => xm_run call xm_c237 nL mc ms ret Q f (xm_drop 10 xm_c237) lv st G E kc ks)) := rfl
theorem xz_237_10 : xm_run call xm_c237 nL mc ms ret Q (f + 1) (xm_drop 10 xm_c237) lv st G E kc ks = ((match st with
    | w :: st => xm_cmpI E w (.int 0) (fun E s => bif xm_holds .ne s then xm_run call xm_c237 nL mc ms ret Q f (xm_drop 13 xm_c237) lv st G E kc ks else xm_run call xm_c237 nL mc ms ret Q f (xm_drop 11 xm_c237) lv st G E kc ks)
    | _ => false)) := rfl
theorem xz_237_11 : xm_run call xm_c237 nL mc ms ret Q (f + 1) (xm_drop 11 xm_c237) lv st G E kc ks = (xm_run call xm_c237 nL mc ms ret Q f (xm_drop 12 xm_c237) lv ((.int (-1)) :: st) G E kc ks) := rfl
theorem xz_237_12 : xm_run call xm_c237 nL mc ms ret Q (f + 1) (xm_drop 12 xm_c237) lv st G E kc ks = ((match st with
    | [w] => bif xm_isI w && (xm_rok ret w && (Nat.ble kc mc && Nat.ble ks ms)) then Q (some w) G E else false
    | _ => false)) := rfl
theorem xz_237_13 : xm_run call xm_c237 nL mc ms ret Q (f + 1) (xm_drop 13 xm_c237) lv st G E kc ks = ((match xm_get lv 0 with
    | some w => bif xm_isA w then xm_run call xm_c237 nL mc ms ret Q f (xm_drop 14 xm_c237) lv (w :: st) G E kc ks else false
    | none => false)) := rfl
theorem xz_237_14 : xm_run call xm_c237 nL mc ms ret Q (f + 1) (xm_drop 14 xm_c237) lv st G E kc ks = ((match xm_get lv 0 with
    | some w => bif xm_isA w then xm_run call xm_c237 nL mc ms ret Q f (xm_drop 15 xm_c237) lv (w :: st) G E kc ks else false
    | none => false)) := rfl
theorem xz_237_15 : xm_run call xm_c237 nL mc ms ret Q (f + 1) (xm_drop 15 xm_c237) lv st G E kc ks = (xm_getf 11 33 st G (fun st => xm_run call xm_c237 nL mc ms ret Q f (xm_drop 16 xm_c237) lv st G E kc ks)) := rfl
theorem xz_237_16 : xm_run call xm_c237 nL mc ms ret Q (f + 1) (xm_drop 16 xm_c237) lv st G E kc ks = ((match xm_get lv 1 with
    | some w => bif xm_isI w then xm_run call xm_c237 nL mc ms ret Q f (xm_drop 17 xm_c237) lv (w :: st) G E kc ks else false
    | none => false)) := rfl
theorem xz_237_17 : xm_run call xm_c237 nL mc ms ret Q (f + 1) (xm_drop 17 xm_c237) lv st G E kc ks = (xm_iald st G E (fun st E => xm_run call xm_c237 nL mc ms ret Q f (xm_drop 18 xm_c237) lv st G E kc ks)) := rfl
theorem xz_237_18 : xm_run call xm_c237 nL mc ms ret Q (f + 1) (xm_drop 18 xm_c237) lv st G E kc ks = (xm_putf 11 21 st G (fun st G => xm_run call xm_c237 nL mc ms ret Q f (xm_drop 19 xm_c237) lv st G E kc ks)) := rfl
theorem xz_237_19 : xm_run call xm_c237 nL mc ms ret Q (f + 1) (xm_drop 19 xm_c237) lv st G E kc ks = ((match xm_get lv 0 with
    | some w => bif xm_isA w then xm_run call xm_c237 nL mc ms ret Q f (xm_drop 20 xm_c237) lv (w :: st) G E kc ks else false
    | none => false)) := rfl
theorem xz_237_20 : xm_run call xm_c237 nL mc ms ret Q (f + 1) (xm_drop 20 xm_c237) lv st G E kc ks = ((match xm_get lv 0 with
    | some w => bif xm_isA w then xm_run call xm_c237 nL mc ms ret Q f (xm_drop 21 xm_c237) lv (w :: st) G E kc ks else false
    | none => false)) := rfl
theorem xz_237_21 : xm_run call xm_c237 nL mc ms ret Q (f + 1) (xm_drop 21 xm_c237) lv st G E kc ks = (xm_getf 11 34 st G (fun st => xm_run call xm_c237 nL mc ms ret Q f (xm_drop 22 xm_c237) lv st G E kc ks)) := rfl
theorem xz_237_22 : xm_run call xm_c237 nL mc ms ret Q (f + 1) (xm_drop 22 xm_c237) lv st G E kc ks = ((match xm_get lv 1 with
    | some w => bif xm_isI w then xm_run call xm_c237 nL mc ms ret Q f (xm_drop 23 xm_c237) lv (w :: st) G E kc ks else false
    | none => false)) := rfl
theorem xz_237_23 : xm_run call xm_c237 nL mc ms ret Q (f + 1) (xm_drop 23 xm_c237) lv st G E kc ks = (xm_iald st G E (fun st E => xm_run call xm_c237 nL mc ms ret Q f (xm_drop 24 xm_c237) lv st G E kc ks)) := rfl
theorem xz_237_24 : xm_run call xm_c237 nL mc ms ret Q (f + 1) (xm_drop 24 xm_c237) lv st G E kc ks = (xm_putf 11 22 st G (fun st G => xm_run call xm_c237 nL mc ms ret Q f (xm_drop 25 xm_c237) lv st G E kc ks)) := rfl
theorem xz_237_25 : xm_run call xm_c237 nL mc ms ret Q (f + 1) (xm_drop 25 xm_c237) lv st G E kc ks = ((match xm_get lv 0 with
    | some w => bif xm_isA w then xm_run call xm_c237 nL mc ms ret Q f (xm_drop 26 xm_c237) lv (w :: st) G E kc ks else false
    | none => false)) := rfl
theorem xz_237_26 : xm_run call xm_c237 nL mc ms ret Q (f + 1) (xm_drop 26 xm_c237) lv st G E kc ks = (xm_run call xm_c237 nL mc ms ret Q f (xm_drop 27 xm_c237) lv ((.int 0) :: st) G E kc ks) := rfl
theorem xz_237_27 : xm_run call xm_c237 nL mc ms ret Q (f + 1) (xm_drop 27 xm_c237) lv st G E kc ks = (xm_putf 11 26 st G (fun st G => xm_run call xm_c237 nL mc ms ret Q f (xm_drop 28 xm_c237) lv st G E kc ks)) := rfl
theorem xz_237_28 : xm_run call xm_c237 nL mc ms ret Q (f + 1) (xm_drop 28 xm_c237) lv st G E kc ks = (xm_run call xm_c237 nL mc ms ret Q f (xm_drop 29 xm_c237) lv ((.int 0) :: st) G E kc ks) := rfl
theorem xz_237_29 : xm_run call xm_c237 nL mc ms ret Q (f + 1) (xm_drop 29 xm_c237) lv st G E kc ks = ((match st with
    | w :: st => bif xm_isI w && Nat.blt 2 nL then xm_run call xm_c237 nL mc ms ret Q f (xm_drop 30 xm_c237) (xm_set1 lv 2 w) st G E kc ks else false
    | _ => false)) := rfl
theorem xz_237_30 : xm_run call xm_c237 nL mc ms ret Q (f + 1) (xm_drop 30 xm_c237) lv st G E kc ks = ((match xm_get lv 2 with
    | some w => bif xm_isI w then xm_run call xm_c237 nL mc ms ret Q f (xm_drop 31 xm_c237) lv (w :: st) G E kc ks else false
    | none => false)) := rfl
theorem xz_237_31 : xm_run call xm_c237 nL mc ms ret Q (f + 1) (xm_drop 31 xm_c237) lv st G E kc ks = (xm_run call xm_c237 nL mc ms ret Q f (xm_drop 32 xm_c237) lv ((.int 146) :: st) G E kc ks) := rfl
theorem xz_237_32 : xm_run call xm_c237 nL mc ms ret Q (f + 1) (xm_drop 32 xm_c237) lv st G E kc ks = ((match st with
    | w :: u :: st => xm_cmpI E u w (fun E s => bif xm_holds .ge s then xm_run call xm_c237 nL mc ms ret Q f (xm_drop 47 xm_c237) lv st G E kc ks else xm_run call xm_c237 nL mc ms ret Q f (xm_drop 33 xm_c237) lv st G E kc ks)
    | _ => false)) := rfl
theorem xz_237_33 : xm_run call xm_c237 nL mc ms ret Q (f + 1) (xm_drop 33 xm_c237) lv st G E kc ks = ((match xm_get lv 0 with
    | some w => bif xm_isA w then xm_run call xm_c237 nL mc ms ret Q f (xm_drop 34 xm_c237) lv (w :: st) G E kc ks else false
    | none => false)) := rfl
theorem xz_237_34 : xm_run call xm_c237 nL mc ms ret Q (f + 1) (xm_drop 34 xm_c237) lv st G E kc ks = (xm_getf 11 20 st G (fun st => xm_run call xm_c237 nL mc ms ret Q f (xm_drop 35 xm_c237) lv st G E kc ks)) := rfl
theorem xz_237_35 : xm_run call xm_c237 nL mc ms ret Q (f + 1) (xm_drop 35 xm_c237) lv st G E kc ks = ((match xm_get lv 2 with
    | some w => bif xm_isI w then xm_run call xm_c237 nL mc ms ret Q f (xm_drop 36 xm_c237) lv (w :: st) G E kc ks else false
    | none => false)) := rfl
theorem xz_237_36 : xm_run call xm_c237 nL mc ms ret Q (f + 1) (xm_drop 36 xm_c237) lv st G E kc ks = ((match xm_get lv 0 with
    | some w => bif xm_isA w then xm_run call xm_c237 nL mc ms ret Q f (xm_drop 37 xm_c237) lv (w :: st) G E kc ks else false
    | none => false)) := rfl
theorem xz_237_37 : xm_run call xm_c237 nL mc ms ret Q (f + 1) (xm_drop 37 xm_c237) lv st G E kc ks = (xm_getf 11 32 st G (fun st => xm_run call xm_c237 nL mc ms ret Q f (xm_drop 38 xm_c237) lv st G E kc ks)) := rfl
theorem xz_237_38 : xm_run call xm_c237 nL mc ms ret Q (f + 1) (xm_drop 38 xm_c237) lv st G E kc ks = (xm_run call xm_c237 nL mc ms ret Q f (xm_drop 39 xm_c237) lv ((.int 146) :: st) G E kc ks) := rfl
theorem xz_237_39 : xm_run call xm_c237 nL mc ms ret Q (f + 1) (xm_drop 39 xm_c237) lv st G E kc ks = ((match xm_get lv 1 with
    | some w => bif xm_isI w then xm_run call xm_c237 nL mc ms ret Q f (xm_drop 40 xm_c237) lv (w :: st) G E kc ks else false
    | none => false)) := rfl
theorem xz_237_40 : xm_run call xm_c237 nL mc ms ret Q (f + 1) (xm_drop 40 xm_c237) lv st G E kc ks = (xm_int2 .imul st E (fun st E => xm_run call xm_c237 nL mc ms ret Q f (xm_drop 41 xm_c237) lv st G E kc ks)) := rfl
theorem xz_237_41 : xm_run call xm_c237 nL mc ms ret Q (f + 1) (xm_drop 41 xm_c237) lv st G E kc ks = ((match xm_get lv 2 with
    | some w => bif xm_isI w then xm_run call xm_c237 nL mc ms ret Q f (xm_drop 42 xm_c237) lv (w :: st) G E kc ks else false
    | none => false)) := rfl
theorem xz_237_42 : xm_run call xm_c237 nL mc ms ret Q (f + 1) (xm_drop 42 xm_c237) lv st G E kc ks = (xm_int2 .iadd st E (fun st E => xm_run call xm_c237 nL mc ms ret Q f (xm_drop 43 xm_c237) lv st G E kc ks)) := rfl
theorem xz_237_43 : xm_run call xm_c237 nL mc ms ret Q (f + 1) (xm_drop 43 xm_c237) lv st G E kc ks = (xm_iald st G E (fun st E => xm_run call xm_c237 nL mc ms ret Q f (xm_drop 44 xm_c237) lv st G E kc ks)) := rfl
theorem xz_237_44 : xm_run call xm_c237 nL mc ms ret Q (f + 1) (xm_drop 44 xm_c237) lv st G E kc ks = (xm_ast (fun t => Nat.beq t 100) xm_kI st G E (fun st G E => xm_run call xm_c237 nL mc ms ret Q f (xm_drop 45 xm_c237) lv st G E kc ks)) := rfl
theorem xz_237_45 : xm_run call xm_c237 nL mc ms ret Q (f + 1) (xm_drop 45 xm_c237) lv st G E kc ks = ((match xm_get lv 2 with
    | some w => bif Nat.blt 2 nL then xm_conc E w (fun E x => xm_frc (x + Int32.ofInt 1) (fun z => xm_run call xm_c237 nL mc ms ret Q f (xm_drop 46 xm_c237) (xm_set1 lv 2 (.int z)) st G E kc ks)) else false
    | none => false)) := rfl
theorem xz_237_46 : xm_run call xm_c237 nL mc ms ret Q (f + 1) (xm_drop 46 xm_c237) lv st G E kc ks = (xm_run call xm_c237 nL mc ms ret Q f (xm_drop 30 xm_c237) lv st G E kc ks) := rfl
theorem xz_237_47 : xm_run call xm_c237 nL mc ms ret Q (f + 1) (xm_drop 47 xm_c237) lv st G E kc ks = ((match xm_get lv 0 with
    | some w => bif xm_isA w then xm_run call xm_c237 nL mc ms ret Q f (xm_drop 48 xm_c237) lv (w :: st) G E kc ks else false
    | none => false)) := rfl
theorem xz_237_48 : xm_run call xm_c237 nL mc ms ret Q (f + 1) (xm_drop 48 xm_c237) lv st G E kc ks = (xm_getf 11 20 st G (fun st => xm_run call xm_c237 nL mc ms ret Q f (xm_drop 49 xm_c237) lv st G E kc ks)) := rfl
theorem xz_237_49 : xm_run call xm_c237 nL mc ms ret Q (f + 1) (xm_drop 49 xm_c237) lv st G E kc ks = (xm_run call xm_c237 nL mc ms ret Q f (xm_drop 50 xm_c237) lv ((.int 4) :: st) G E kc ks) := rfl
theorem xz_237_50 : xm_run call xm_c237 nL mc ms ret Q (f + 1) (xm_drop 50 xm_c237) lv st G E kc ks = (xm_iald st G E (fun st E => xm_run call xm_c237 nL mc ms ret Q f (xm_drop 51 xm_c237) lv st G E kc ks)) := rfl
theorem xz_237_51 : xm_run call xm_c237 nL mc ms ret Q (f + 1) (xm_drop 51 xm_c237) lv st G E kc ks = ((match st with
    | [w] => bif xm_isI w && (xm_rok ret w && (Nat.ble kc mc && Nat.ble ks ms)) then Q (some w) G E else false
    | _ => false)) := rfl
end XM
