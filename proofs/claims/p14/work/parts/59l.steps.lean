/-! the steps of the reference's parser, printed -/
section XM
variable {call : xm_C} {nL mc ms : Nat} {ret : Option FieldType} {Q : xm_Q} {f : Nat} {lv : xm_L} {st : List Value} {G : xm_H} {E : xm_R} {kc ks : Nat}
theorem xz_139_0 : xm_run call xm_c139 nL mc ms ret Q (f + 1) (xm_drop 0 xm_c139) lv st G E kc ks = ((match xm_get lv 0 with
    | some w => bif xm_isA w then xm_run call xm_c139 nL mc ms ret Q f (xm_drop 1 xm_c139) lv (w :: st) G E kc ks else false
    | none => false)) := rfl
theorem xz_139_1 : xm_run call xm_c139 nL mc ms ret Q (f + 1) (xm_drop 1 xm_c139) lv st G E kc ks = (xm_run call xm_c139 nL mc ms ret Q f (xm_drop 2 xm_c139) lv ((.long 127978959562098) :: st) G E kc ks) := rfl
theorem xz_139_2 : xm_run call xm_c139 nL mc ms ret Q (f + 1) (xm_drop 2 xm_c139) lv st G E kc ks = (bif Nat.beq 135 1006 || Nat.beq 135 1007 then xm_strl 135 st G (fun st => xm_run call xm_c139 nL mc ms ret Q f (xm_drop 3 xm_c139) lv st G E kc ks) else xm_call call mc ms 135 0 st G E kc ks (fun st G E kc ks => xm_run call xm_c139 nL mc ms ret Q f (xm_drop 3 xm_c139) lv st G E kc ks)) := rfl
theorem xz_139_3 : xm_run call xm_c139 nL mc ms ret Q (f + 1) (xm_drop 3 xm_c139) lv st G E kc ks = ((match st with
    | w :: st => xm_cmpI E w (.int 0) (fun E s => bif xm_holds .eq s then xm_run call xm_c139 nL mc ms ret Q f (xm_drop 6 xm_c139) lv st G E kc ks else xm_run call xm_c139 nL mc ms ret Q f (xm_drop 4 xm_c139) lv st G E kc ks)
    | _ => false)) := rfl
theorem xz_139_4 : xm_run call xm_c139 nL mc ms ret Q (f + 1) (xm_drop 4 xm_c139) lv st G E kc ks = (xm_run call xm_c139 nL mc ms ret Q f (xm_drop 5 xm_c139) lv ((.int 0) :: st) G E kc ks) := rfl
theorem xz_139_5 : xm_run call xm_c139 nL mc ms ret Q (f + 1) (xm_drop 5 xm_c139) lv st G E kc ks = ((match st with
    | [w] => bif xm_isI w && (xm_rok ret w && (Nat.ble kc mc && Nat.ble ks ms)) then Q (some w) G E else false
    | _ => false)) := rfl
theorem xz_139_6 : xm_run call xm_c139 nL mc ms ret Q (f + 1) (xm_drop 6 xm_c139) lv st G E kc ks = ((match xm_get lv 0 with
    | some w => bif xm_isA w then xm_run call xm_c139 nL mc ms ret Q f (xm_drop 7 xm_c139) lv (w :: st) G E kc ks else false
    | none => false)) := rfl
theorem xz_139_7 : xm_run call xm_c139 nL mc ms ret Q (f + 1) (xm_drop 7 xm_c139) lv st G E kc ks = (xm_run call xm_c139 nL mc ms ret Q f (xm_drop 8 xm_c139) lv ((.long 114784635872626) :: st) G E kc ks) := rfl
theorem xz_139_8 : xm_run call xm_c139 nL mc ms ret Q (f + 1) (xm_drop 8 xm_c139) lv st G E kc ks = (bif Nat.beq 135 1006 || Nat.beq 135 1007 then xm_strl 135 st G (fun st => xm_run call xm_c139 nL mc ms ret Q f (xm_drop 9 xm_c139) lv st G E kc ks) else xm_call call mc ms 135 0 st G E kc ks (fun st G E kc ks => xm_run call xm_c139 nL mc ms ret Q f (xm_drop 9 xm_c139) lv st G E kc ks)) := rfl
theorem xz_139_9 : xm_run call xm_c139 nL mc ms ret Q (f + 1) (xm_drop 9 xm_c139) lv st G E kc ks = ((match st with
    | w :: st => xm_cmpI E w (.int 0) (fun E s => bif xm_holds .eq s then xm_run call xm_c139 nL mc ms ret Q f (xm_drop 12 xm_c139) lv st G E kc ks else xm_run call xm_c139 nL mc ms ret Q f (xm_drop 10 xm_c139) lv st G E kc ks)
    | _ => false)) := rfl
theorem xz_139_10 : xm_run call xm_c139 nL mc ms ret Q (f + 1) (xm_drop 10 xm_c139) lv st G E kc ks = (xm_run call xm_c139 nL mc ms ret Q f (xm_drop 11 xm_c139) lv ((.int 1) :: st) G E kc ks) := rfl
theorem xz_139_11 : xm_run call xm_c139 nL mc ms ret Q (f + 1) (xm_drop 11 xm_c139) lv st G E kc ks = ((match st with
    | [w] => bif xm_isI w && (xm_rok ret w && (Nat.ble kc mc && Nat.ble ks ms)) then Q (some w) G E else false
    | _ => false)) := rfl
theorem xz_139_12 : xm_run call xm_c139 nL mc ms ret Q (f + 1) (xm_drop 12 xm_c139) lv st G E kc ks = ((match xm_get lv 0 with
    | some w => bif xm_isA w then xm_run call xm_c139 nL mc ms ret Q f (xm_drop 13 xm_c139) lv (w :: st) G E kc ks else false
    | none => false)) := rfl
theorem xz_139_13 : xm_run call xm_c139 nL mc ms ret Q (f + 1) (xm_drop 13 xm_c139) lv st G E kc ks = (xm_run call xm_c139 nL mc ms ret Q f (xm_drop 14 xm_c139) lv ((.long 439905906546) :: st) G E kc ks) := rfl
theorem xz_139_14 : xm_run call xm_c139 nL mc ms ret Q (f + 1) (xm_drop 14 xm_c139) lv st G E kc ks = (bif Nat.beq 135 1006 || Nat.beq 135 1007 then xm_strl 135 st G (fun st => xm_run call xm_c139 nL mc ms ret Q f (xm_drop 15 xm_c139) lv st G E kc ks) else xm_call call mc ms 135 0 st G E kc ks (fun st G E kc ks => xm_run call xm_c139 nL mc ms ret Q f (xm_drop 15 xm_c139) lv st G E kc ks)) := rfl
theorem xz_139_15 : xm_run call xm_c139 nL mc ms ret Q (f + 1) (xm_drop 15 xm_c139) lv st G E kc ks = ((match st with
    | w :: st => xm_cmpI E w (.int 0) (fun E s => bif xm_holds .eq s then xm_run call xm_c139 nL mc ms ret Q f (xm_drop 18 xm_c139) lv st G E kc ks else xm_run call xm_c139 nL mc ms ret Q f (xm_drop 16 xm_c139) lv st G E kc ks)
    | _ => false)) := rfl
theorem xz_139_16 : xm_run call xm_c139 nL mc ms ret Q (f + 1) (xm_drop 16 xm_c139) lv st G E kc ks = (xm_run call xm_c139 nL mc ms ret Q f (xm_drop 17 xm_c139) lv ((.int 2) :: st) G E kc ks) := rfl
theorem xz_139_17 : xm_run call xm_c139 nL mc ms ret Q (f + 1) (xm_drop 17 xm_c139) lv st G E kc ks = ((match st with
    | [w] => bif xm_isI w && (xm_rok ret w && (Nat.ble kc mc && Nat.ble ks ms)) then Q (some w) G E else false
    | _ => false)) := rfl
theorem xz_139_18 : xm_run call xm_c139 nL mc ms ret Q (f + 1) (xm_drop 18 xm_c139) lv st G E kc ks = ((match xm_get lv 0 with
    | some w => bif xm_isA w then xm_run call xm_c139 nL mc ms ret Q f (xm_drop 19 xm_c139) lv (w :: st) G E kc ks else false
    | none => false)) := rfl
theorem xz_139_19 : xm_run call xm_c139 nL mc ms ret Q (f + 1) (xm_drop 19 xm_c139) lv st G E kc ks = (xm_run call xm_c139 nL mc ms ret Q f (xm_drop 20 xm_c139) lv ((.long 1650814060) :: st) G E kc ks) := rfl
theorem xz_139_20 : xm_run call xm_c139 nL mc ms ret Q (f + 1) (xm_drop 20 xm_c139) lv st G E kc ks = (bif Nat.beq 135 1006 || Nat.beq 135 1007 then xm_strl 135 st G (fun st => xm_run call xm_c139 nL mc ms ret Q f (xm_drop 21 xm_c139) lv st G E kc ks) else xm_call call mc ms 135 0 st G E kc ks (fun st G E kc ks => xm_run call xm_c139 nL mc ms ret Q f (xm_drop 21 xm_c139) lv st G E kc ks)) := rfl
theorem xz_139_21 : xm_run call xm_c139 nL mc ms ret Q (f + 1) (xm_drop 21 xm_c139) lv st G E kc ks = ((match st with
    | w :: st => xm_cmpI E w (.int 0) (fun E s => bif xm_holds .eq s then xm_run call xm_c139 nL mc ms ret Q f (xm_drop 24 xm_c139) lv st G E kc ks else xm_run call xm_c139 nL mc ms ret Q f (xm_drop 22 xm_c139) lv st G E kc ks)
    | _ => false)) := rfl
theorem xz_139_22 : xm_run call xm_c139 nL mc ms ret Q (f + 1) (xm_drop 22 xm_c139) lv st G E kc ks = (xm_run call xm_c139 nL mc ms ret Q f (xm_drop 23 xm_c139) lv ((.int 3) :: st) G E kc ks) := rfl
theorem xz_139_23 : xm_run call xm_c139 nL mc ms ret Q (f + 1) (xm_drop 23 xm_c139) lv st G E kc ks = ((match st with
    | [w] => bif xm_isI w && (xm_rok ret w && (Nat.ble kc mc && Nat.ble ks ms)) then Q (some w) G E else false
    | _ => false)) := rfl
theorem xz_139_24 : xm_run call xm_c139 nL mc ms ret Q (f + 1) (xm_drop 24 xm_c139) lv st G E kc ks = ((match xm_get lv 0 with
    | some w => bif xm_isA w then xm_run call xm_c139 nL mc ms ret Q f (xm_drop 25 xm_c139) lv (w :: st) G E kc ks else false
    | none => false)) := rfl
theorem xz_139_25 : xm_run call xm_c139 nL mc ms ret Q (f + 1) (xm_drop 25 xm_c139) lv st G E kc ks = (xm_run call xm_c139 nL mc ms ret Q f (xm_drop 26 xm_c139) lv ((.long 109299962049139) :: st) G E kc ks) := rfl
theorem xz_139_26 : xm_run call xm_c139 nL mc ms ret Q (f + 1) (xm_drop 26 xm_c139) lv st G E kc ks = (bif Nat.beq 135 1006 || Nat.beq 135 1007 then xm_strl 135 st G (fun st => xm_run call xm_c139 nL mc ms ret Q f (xm_drop 27 xm_c139) lv st G E kc ks) else xm_call call mc ms 135 0 st G E kc ks (fun st G E kc ks => xm_run call xm_c139 nL mc ms ret Q f (xm_drop 27 xm_c139) lv st G E kc ks)) := rfl
theorem xz_139_27 : xm_run call xm_c139 nL mc ms ret Q (f + 1) (xm_drop 27 xm_c139) lv st G E kc ks = ((match st with
    | w :: st => xm_cmpI E w (.int 0) (fun E s => bif xm_holds .eq s then xm_run call xm_c139 nL mc ms ret Q f (xm_drop 30 xm_c139) lv st G E kc ks else xm_run call xm_c139 nL mc ms ret Q f (xm_drop 28 xm_c139) lv st G E kc ks)
    | _ => false)) := rfl
theorem xz_139_28 : xm_run call xm_c139 nL mc ms ret Q (f + 1) (xm_drop 28 xm_c139) lv st G E kc ks = (xm_run call xm_c139 nL mc ms ret Q f (xm_drop 29 xm_c139) lv ((.int 4) :: st) G E kc ks) := rfl
theorem xz_139_29 : xm_run call xm_c139 nL mc ms ret Q (f + 1) (xm_drop 29 xm_c139) lv st G E kc ks = ((match st with
    | [w] => bif xm_isI w && (xm_rok ret w && (Nat.ble kc mc && Nat.ble ks ms)) then Q (some w) G E else false
    | _ => false)) := rfl
theorem xz_139_30 : xm_run call xm_c139 nL mc ms ret Q (f + 1) (xm_drop 30 xm_c139) lv st G E kc ks = ((match xm_get lv 0 with
    | some w => bif xm_isA w then xm_run call xm_c139 nL mc ms ret Q f (xm_drop 31 xm_c139) lv (w :: st) G E kc ks else false
    | none => false)) := rfl
theorem xz_139_31 : xm_run call xm_c139 nL mc ms ret Q (f + 1) (xm_drop 31 xm_c139) lv st G E kc ks = (xm_run call xm_c139 nL mc ms ret Q f (xm_drop 32 xm_c139) lv ((.long 495690081125) :: st) G E kc ks) := rfl
theorem xz_139_32 : xm_run call xm_c139 nL mc ms ret Q (f + 1) (xm_drop 32 xm_c139) lv st G E kc ks = (bif Nat.beq 135 1006 || Nat.beq 135 1007 then xm_strl 135 st G (fun st => xm_run call xm_c139 nL mc ms ret Q f (xm_drop 33 xm_c139) lv st G E kc ks) else xm_call call mc ms 135 0 st G E kc ks (fun st G E kc ks => xm_run call xm_c139 nL mc ms ret Q f (xm_drop 33 xm_c139) lv st G E kc ks)) := rfl
theorem xz_139_33 : xm_run call xm_c139 nL mc ms ret Q (f + 1) (xm_drop 33 xm_c139) lv st G E kc ks = ((match st with
    | w :: st => xm_cmpI E w (.int 0) (fun E s => bif xm_holds .eq s then xm_run call xm_c139 nL mc ms ret Q f (xm_drop 36 xm_c139) lv st G E kc ks else xm_run call xm_c139 nL mc ms ret Q f (xm_drop 34 xm_c139) lv st G E kc ks)
    | _ => false)) := rfl
theorem xz_139_34 : xm_run call xm_c139 nL mc ms ret Q (f + 1) (xm_drop 34 xm_c139) lv st G E kc ks = (xm_run call xm_c139 nL mc ms ret Q f (xm_drop 35 xm_c139) lv ((.int 5) :: st) G E kc ks) := rfl
theorem xz_139_35 : xm_run call xm_c139 nL mc ms ret Q (f + 1) (xm_drop 35 xm_c139) lv st G E kc ks = ((match st with
    | [w] => bif xm_isI w && (xm_rok ret w && (Nat.ble kc mc && Nat.ble ks ms)) then Q (some w) G E else false
    | _ => false)) := rfl
theorem xz_139_36 : xm_run call xm_c139 nL mc ms ret Q (f + 1) (xm_drop 36 xm_c139) lv st G E kc ks = ((match xm_get lv 0 with
    | some w => bif xm_isA w then xm_run call xm_c139 nL mc ms ret Q f (xm_drop 37 xm_c139) lv (w :: st) G E kc ks else false
    | none => false)) := rfl
theorem xz_139_37 : xm_run call xm_c139 nL mc ms ret Q (f + 1) (xm_drop 37 xm_c139) lv st G E kc ks = (xm_run call xm_c139 nL mc ms ret Q f (xm_drop 38 xm_c139) lv ((.long 1752132965) :: st) G E kc ks) := rfl
theorem xz_139_38 : xm_run call xm_c139 nL mc ms ret Q (f + 1) (xm_drop 38 xm_c139) lv st G E kc ks = (bif Nat.beq 135 1006 || Nat.beq 135 1007 then xm_strl 135 st G (fun st => xm_run call xm_c139 nL mc ms ret Q f (xm_drop 39 xm_c139) lv st G E kc ks) else xm_call call mc ms 135 0 st G E kc ks (fun st G E kc ks => xm_run call xm_c139 nL mc ms ret Q f (xm_drop 39 xm_c139) lv st G E kc ks)) := rfl
theorem xz_139_39 : xm_run call xm_c139 nL mc ms ret Q (f + 1) (xm_drop 39 xm_c139) lv st G E kc ks = ((match st with
    | w :: st => xm_cmpI E w (.int 0) (fun E s => bif xm_holds .eq s then xm_run call xm_c139 nL mc ms ret Q f (xm_drop 42 xm_c139) lv st G E kc ks else xm_run call xm_c139 nL mc ms ret Q f (xm_drop 40 xm_c139) lv st G E kc ks)
    | _ => false)) := rfl
theorem xz_139_40 : xm_run call xm_c139 nL mc ms ret Q (f + 1) (xm_drop 40 xm_c139) lv st G E kc ks = (xm_run call xm_c139 nL mc ms ret Q f (xm_drop 41 xm_c139) lv ((.int 6) :: st) G E kc ks) := rfl
theorem xz_139_41 : xm_run call xm_c139 nL mc ms ret Q (f + 1) (xm_drop 41 xm_c139) lv st G E kc ks = ((match st with
    | [w] => bif xm_isI w && (xm_rok ret w && (Nat.ble kc mc && Nat.ble ks ms)) then Q (some w) G E else false
    | _ => false)) := rfl
theorem xz_139_42 : xm_run call xm_c139 nL mc ms ret Q (f + 1) (xm_drop 42 xm_c139) lv st G E kc ks = ((match xm_get lv 0 with
    | some w => bif xm_isA w then xm_run call xm_c139 nL mc ms ret Q f (xm_drop 43 xm_c139) lv (w :: st) G E kc ks else false
    | none => false)) := rfl
theorem xz_139_43 : xm_run call xm_c139 nL mc ms ret Q (f + 1) (xm_drop 43 xm_c139) lv st G E kc ks = (xm_run call xm_c139 nL mc ms ret Q f (xm_drop 44 xm_c139) lv ((.long 499967685221) :: st) G E kc ks) := rfl
theorem xz_139_44 : xm_run call xm_c139 nL mc ms ret Q (f + 1) (xm_drop 44 xm_c139) lv st G E kc ks = (bif Nat.beq 135 1006 || Nat.beq 135 1007 then xm_strl 135 st G (fun st => xm_run call xm_c139 nL mc ms ret Q f (xm_drop 45 xm_c139) lv st G E kc ks) else xm_call call mc ms 135 0 st G E kc ks (fun st G E kc ks => xm_run call xm_c139 nL mc ms ret Q f (xm_drop 45 xm_c139) lv st G E kc ks)) := rfl
theorem xz_139_45 : xm_run call xm_c139 nL mc ms ret Q (f + 1) (xm_drop 45 xm_c139) lv st G E kc ks = ((match st with
    | w :: st => xm_cmpI E w (.int 0) (fun E s => bif xm_holds .eq s then xm_run call xm_c139 nL mc ms ret Q f (xm_drop 48 xm_c139) lv st G E kc ks else xm_run call xm_c139 nL mc ms ret Q f (xm_drop 46 xm_c139) lv st G E kc ks)
    | _ => false)) := rfl
theorem xz_139_46 : xm_run call xm_c139 nL mc ms ret Q (f + 1) (xm_drop 46 xm_c139) lv st G E kc ks = (xm_run call xm_c139 nL mc ms ret Q f (xm_drop 47 xm_c139) lv ((.int 7) :: st) G E kc ks) := rfl
theorem xz_139_47 : xm_run call xm_c139 nL mc ms ret Q (f + 1) (xm_drop 47 xm_c139) lv st G E kc ks = ((match st with
    | [w] => bif xm_isI w && (xm_rok ret w && (Nat.ble kc mc && Nat.ble ks ms)) then Q (some w) G E else false
    | _ => false)) := rfl
theorem xz_139_48 : xm_run call xm_c139 nL mc ms ret Q (f + 1) (xm_drop 48 xm_c139) lv st G E kc ks = ((match xm_get lv 0 with
    | some w => bif xm_isA w then xm_run call xm_c139 nL mc ms ret Q f (xm_drop 49 xm_c139) lv (w :: st) G E kc ks else false
    | none => false)) := rfl
theorem xz_139_49 : xm_run call xm_c139 nL mc ms ret Q (f + 1) (xm_drop 49 xm_c139) lv st G E kc ks = (xm_run call xm_c139 nL mc ms ret Q f (xm_drop 50 xm_c139) lv ((.long 461414299502) :: st) G E kc ks) := rfl
theorem xz_139_50 : xm_run call xm_c139 nL mc ms ret Q (f + 1) (xm_drop 50 xm_c139) lv st G E kc ks = (bif Nat.beq 135 1006 || Nat.beq 135 1007 then xm_strl 135 st G (fun st => xm_run call xm_c139 nL mc ms ret Q f (xm_drop 51 xm_c139) lv st G E kc ks) else xm_call call mc ms 135 0 st G E kc ks (fun st G E kc ks => xm_run call xm_c139 nL mc ms ret Q f (xm_drop 51 xm_c139) lv st G E kc ks)) := rfl
theorem xz_139_51 : xm_run call xm_c139 nL mc ms ret Q (f + 1) (xm_drop 51 xm_c139) lv st G E kc ks = ((match st with
    | w :: st => xm_cmpI E w (.int 0) (fun E s => bif xm_holds .eq s then xm_run call xm_c139 nL mc ms ret Q f (xm_drop 54 xm_c139) lv st G E kc ks else xm_run call xm_c139 nL mc ms ret Q f (xm_drop 52 xm_c139) lv st G E kc ks)
    | _ => false)) := rfl
theorem xz_139_52 : xm_run call xm_c139 nL mc ms ret Q (f + 1) (xm_drop 52 xm_c139) lv st G E kc ks = (xm_run call xm_c139 nL mc ms ret Q f (xm_drop 53 xm_c139) lv ((.int 8) :: st) G E kc ks) := rfl
theorem xz_139_53 : xm_run call xm_c139 nL mc ms ret Q (f + 1) (xm_drop 53 xm_c139) lv st G E kc ks = ((match st with
    | [w] => bif xm_isI w && (xm_rok ret w && (Nat.ble kc mc && Nat.ble ks ms)) then Q (some w) G E else false
    | _ => false)) := rfl
theorem xz_139_54 : xm_run call xm_c139 nL mc ms ret Q (f + 1) (xm_drop 54 xm_c139) lv st G E kc ks = ((match xm_get lv 0 with
    | some w => bif xm_isA w then xm_run call xm_c139 nL mc ms ret Q f (xm_drop 55 xm_c139) lv (w :: st) G E kc ks else false
    | none => false)) := rfl
theorem xz_139_55 : xm_run call xm_c139 nL mc ms ret Q (f + 1) (xm_drop 55 xm_c139) lv st G E kc ks = (xm_run call xm_c139 nL mc ms ret Q f (xm_drop 56 xm_c139) lv ((.long 474214787188) :: st) G E kc ks) := rfl
theorem xz_139_56 : xm_run call xm_c139 nL mc ms ret Q (f + 1) (xm_drop 56 xm_c139) lv st G E kc ks = (bif Nat.beq 135 1006 || Nat.beq 135 1007 then xm_strl 135 st G (fun st => xm_run call xm_c139 nL mc ms ret Q f (xm_drop 57 xm_c139) lv st G E kc ks) else xm_call call mc ms 135 0 st G E kc ks (fun st G E kc ks => xm_run call xm_c139 nL mc ms ret Q f (xm_drop 57 xm_c139) lv st G E kc ks)) := rfl
theorem xz_139_57 : xm_run call xm_c139 nL mc ms ret Q (f + 1) (xm_drop 57 xm_c139) lv st G E kc ks = ((match st with
    | w :: st => xm_cmpI E w (.int 0) (fun E s => bif xm_holds .eq s then xm_run call xm_c139 nL mc ms ret Q f (xm_drop 60 xm_c139) lv st G E kc ks else xm_run call xm_c139 nL mc ms ret Q f (xm_drop 58 xm_c139) lv st G E kc ks)
    | _ => false)) := rfl
theorem xz_139_58 : xm_run call xm_c139 nL mc ms ret Q (f + 1) (xm_drop 58 xm_c139) lv st G E kc ks = (xm_run call xm_c139 nL mc ms ret Q f (xm_drop 59 xm_c139) lv ((.int 9) :: st) G E kc ks) := rfl
theorem xz_139_59 : xm_run call xm_c139 nL mc ms ret Q (f + 1) (xm_drop 59 xm_c139) lv st G E kc ks = (xm_run call xm_c139 nL mc ms ret Q f (xm_drop 67 xm_c139) lv st G E kc ks) := rfl
theorem xz_139_60 : xm_run call xm_c139 nL mc ms ret Q (f + 1) (xm_drop 60 xm_c139) lv st G E kc ks = ((match xm_get lv 0 with
    | some w => bif xm_isA w then xm_run call xm_c139 nL mc ms ret Q f (xm_drop 61 xm_c139) lv (w :: st) G E kc ks else false
    | none => false)) := rfl
theorem xz_139_61 : xm_run call xm_c139 nL mc ms ret Q (f + 1) (xm_drop 61 xm_c139) lv st G E kc ks = (xm_run call xm_c139 nL mc ms ret Q f (xm_drop 62 xm_c139) lv ((.long 500219605876) :: st) G E kc ks) := rfl
theorem xz_139_62 : xm_run call xm_c139 nL mc ms ret Q (f + 1) (xm_drop 62 xm_c139) lv st G E kc ks = (bif Nat.beq 135 1006 || Nat.beq 135 1007 then xm_strl 135 st G (fun st => xm_run call xm_c139 nL mc ms ret Q f (xm_drop 63 xm_c139) lv st G E kc ks) else xm_call call mc ms 135 0 st G E kc ks (fun st G E kc ks => xm_run call xm_c139 nL mc ms ret Q f (xm_drop 63 xm_c139) lv st G E kc ks)) := rfl
theorem xz_139_63 : xm_run call xm_c139 nL mc ms ret Q (f + 1) (xm_drop 63 xm_c139) lv st G E kc ks = ((match st with
    | w :: st => xm_cmpI E w (.int 0) (fun E s => bif xm_holds .eq s then xm_run call xm_c139 nL mc ms ret Q f (xm_drop 66 xm_c139) lv st G E kc ks else xm_run call xm_c139 nL mc ms ret Q f (xm_drop 64 xm_c139) lv st G E kc ks)
    | _ => false)) := rfl
theorem xz_139_64 : xm_run call xm_c139 nL mc ms ret Q (f + 1) (xm_drop 64 xm_c139) lv st G E kc ks = (xm_run call xm_c139 nL mc ms ret Q f (xm_drop 65 xm_c139) lv ((.int 10) :: st) G E kc ks) := rfl
theorem xz_139_65 : xm_run call xm_c139 nL mc ms ret Q (f + 1) (xm_drop 65 xm_c139) lv st G E kc ks = (xm_run call xm_c139 nL mc ms ret Q f (xm_drop 67 xm_c139) lv st G E kc ks) := rfl
theorem xz_139_66 : xm_run call xm_c139 nL mc ms ret Q (f + 1) (xm_drop 66 xm_c139) lv st G E kc ks = (xm_run call xm_c139 nL mc ms ret Q f (xm_drop 67 xm_c139) lv ((.int (-1)) :: st) G E kc ks) := rfl
theorem xz_139_67 : xm_run call xm_c139 nL mc ms ret Q (f + 1) (xm_drop 67 xm_c139) lv st G E kc ks = ((match st with
    | [w] => bif xm_isI w && (xm_rok ret w && (Nat.ble kc mc && Nat.ble ks ms)) then Q (some w) G E else false
    | _ => false)) := rfl
theorem xz_140_0 : xm_run call xm_c140 nL mc ms ret Q (f + 1) (xm_drop 0 xm_c140) lv st G E kc ks = ((match xm_get lv 0 with
    | some w => bif xm_isA w then xm_run call xm_c140 nL mc ms ret Q f (xm_drop 1 xm_c140) lv (w :: st) G E kc ks else false
    | none => false)) := rfl
theorem xz_140_1 : xm_run call xm_c140 nL mc ms ret Q (f + 1) (xm_drop 1 xm_c140) lv st G E kc ks = (xm_getf 11 3 st G (fun st => xm_run call xm_c140 nL mc ms ret Q f (xm_drop 2 xm_c140) lv st G E kc ks)) := rfl
theorem xz_140_2 : xm_run call xm_c140 nL mc ms ret Q (f + 1) (xm_drop 2 xm_c140) lv st G E kc ks = (xm_run call xm_c140 nL mc ms ret Q f (xm_drop 3 xm_c140) lv ((.int 400) :: st) G E kc ks) := rfl
theorem xz_140_3 : xm_run call xm_c140 nL mc ms ret Q (f + 1) (xm_drop 3 xm_c140) lv st G E kc ks = ((match xm_get lv 0 with
    | some w => bif xm_isA w then xm_run call xm_c140 nL mc ms ret Q f (xm_drop 4 xm_c140) lv (w :: st) G E kc ks else false
    | none => false)) := rfl
theorem xz_140_4 : xm_run call xm_c140 nL mc ms ret Q (f + 1) (xm_drop 4 xm_c140) lv st G E kc ks = (xm_getf 11 11 st G (fun st => xm_run call xm_c140 nL mc ms ret Q f (xm_drop 5 xm_c140) lv st G E kc ks)) := rfl
theorem xz_140_5 : xm_run call xm_c140 nL mc ms ret Q (f + 1) (xm_drop 5 xm_c140) lv st G E kc ks = (xm_int2 .imul st E (fun st E => xm_run call xm_c140 nL mc ms ret Q f (xm_drop 6 xm_c140) lv st G E kc ks)) := rfl
theorem xz_140_6 : xm_run call xm_c140 nL mc ms ret Q (f + 1) (xm_drop 6 xm_c140) lv st G E kc ks = ((match xm_get lv 0 with
    | some w => bif xm_isA w then xm_run call xm_c140 nL mc ms ret Q f (xm_drop 7 xm_c140) lv (w :: st) G E kc ks else false
    | none => false)) := rfl
theorem xz_140_7 : xm_run call xm_c140 nL mc ms ret Q (f + 1) (xm_drop 7 xm_c140) lv st G E kc ks = (xm_getf 11 4 st G (fun st => xm_run call xm_c140 nL mc ms ret Q f (xm_drop 8 xm_c140) lv st G E kc ks)) := rfl
theorem xz_140_8 : xm_run call xm_c140 nL mc ms ret Q (f + 1) (xm_drop 8 xm_c140) lv st G E kc ks = ((match xm_get lv 0 with
    | some w => bif xm_isA w then xm_run call xm_c140 nL mc ms ret Q f (xm_drop 9 xm_c140) lv (w :: st) G E kc ks else false
    | none => false)) := rfl
theorem xz_140_9 : xm_run call xm_c140 nL mc ms ret Q (f + 1) (xm_drop 9 xm_c140) lv st G E kc ks = (xm_getf 11 11 st G (fun st => xm_run call xm_c140 nL mc ms ret Q f (xm_drop 10 xm_c140) lv st G E kc ks)) := rfl
theorem xz_140_10 : xm_run call xm_c140 nL mc ms ret Q (f + 1) (xm_drop 10 xm_c140) lv st G E kc ks = (xm_iald st G E (fun st E => xm_run call xm_c140 nL mc ms ret Q f (xm_drop 11 xm_c140) lv st G E kc ks)) := rfl
theorem xz_140_11 : xm_run call xm_c140 nL mc ms ret Q (f + 1) (xm_drop 11 xm_c140) lv st G E kc ks = (xm_int2 .iadd st E (fun st E => xm_run call xm_c140 nL mc ms ret Q f (xm_drop 12 xm_c140) lv st G E kc ks)) := rfl
theorem xz_140_12 : xm_run call xm_c140 nL mc ms ret Q (f + 1) (xm_drop 12 xm_c140) lv st G E kc ks = ((match xm_get lv 1 with
    | some w => bif xm_isI w then xm_run call xm_c140 nL mc ms ret Q f (xm_drop 13 xm_c140) lv (w :: st) G E kc ks else false
    | none => false)) := rfl
theorem xz_140_13 : xm_run call xm_c140 nL mc ms ret Q (f + 1) (xm_drop 13 xm_c140) lv st G E kc ks = (xm_run call xm_c140 nL mc ms ret Q f (xm_drop 14 xm_c140) lv ((.int 16) :: st) G E kc ks) := rfl
theorem xz_140_14 : xm_run call xm_c140 nL mc ms ret Q (f + 1) (xm_drop 14 xm_c140) lv st G E kc ks = ((match xm_get lv 2 with
    | some w => bif xm_isI w then xm_run call xm_c140 nL mc ms ret Q f (xm_drop 15 xm_c140) lv (w :: st) G E kc ks else false
    | none => false)) := rfl
theorem xz_140_15 : xm_run call xm_c140 nL mc ms ret Q (f + 1) (xm_drop 15 xm_c140) lv st G E kc ks = (xm_int2 .imul st E (fun st E => xm_run call xm_c140 nL mc ms ret Q f (xm_drop 16 xm_c140) lv st G E kc ks)) := rfl
theorem xz_140_16 : xm_run call xm_c140 nL mc ms ret Q (f + 1) (xm_drop 16 xm_c140) lv st G E kc ks = (xm_int2 .iadd st E (fun st E => xm_run call xm_c140 nL mc ms ret Q f (xm_drop 17 xm_c140) lv st G E kc ks)) := rfl
theorem xz_140_17 : xm_run call xm_c140 nL mc ms ret Q (f + 1) (xm_drop 17 xm_c140) lv st G E kc ks = (xm_ast (fun t => Nat.beq t 100) xm_kI st G E (fun st G E => xm_run call xm_c140 nL mc ms ret Q f (xm_drop 18 xm_c140) lv st G E kc ks)) := rfl
theorem xz_140_18 : xm_run call xm_c140 nL mc ms ret Q (f + 1) (xm_drop 18 xm_c140) lv st G E kc ks = ((match xm_get lv 0 with
    | some w => bif xm_isA w then xm_run call xm_c140 nL mc ms ret Q f (xm_drop 19 xm_c140) lv (w :: st) G E kc ks else false
    | none => false)) := rfl
theorem xz_140_19 : xm_run call xm_c140 nL mc ms ret Q (f + 1) (xm_drop 19 xm_c140) lv st G E kc ks = (xm_getf 11 4 st G (fun st => xm_run call xm_c140 nL mc ms ret Q f (xm_drop 20 xm_c140) lv st G E kc ks)) := rfl
theorem xz_140_20 : xm_run call xm_c140 nL mc ms ret Q (f + 1) (xm_drop 20 xm_c140) lv st G E kc ks = ((match xm_get lv 0 with
    | some w => bif xm_isA w then xm_run call xm_c140 nL mc ms ret Q f (xm_drop 21 xm_c140) lv (w :: st) G E kc ks else false
    | none => false)) := rfl
theorem xz_140_21 : xm_run call xm_c140 nL mc ms ret Q (f + 1) (xm_drop 21 xm_c140) lv st G E kc ks = (xm_getf 11 11 st G (fun st => xm_run call xm_c140 nL mc ms ret Q f (xm_drop 22 xm_c140) lv st G E kc ks)) := rfl
theorem xz_140_22 : xm_run call xm_c140 nL mc ms ret Q (f + 1) (xm_drop 22 xm_c140) lv st G E kc ks = ((match st with
    | w :: u :: st => bif xm_cat1 w && xm_cat1 u then xm_run call xm_c140 nL mc ms ret Q f (xm_drop 23 xm_c140) lv (w :: u :: w :: u :: st) G E kc ks else false
    | _ => false)) := rfl
theorem xz_140_23 : xm_run call xm_c140 nL mc ms ret Q (f + 1) (xm_drop 23 xm_c140) lv st G E kc ks = (xm_iald st G E (fun st E => xm_run call xm_c140 nL mc ms ret Q f (xm_drop 24 xm_c140) lv st G E kc ks)) := rfl
theorem xz_140_24 : xm_run call xm_c140 nL mc ms ret Q (f + 1) (xm_drop 24 xm_c140) lv st G E kc ks = (xm_run call xm_c140 nL mc ms ret Q f (xm_drop 25 xm_c140) lv ((.int 1) :: st) G E kc ks) := rfl
theorem xz_140_25 : xm_run call xm_c140 nL mc ms ret Q (f + 1) (xm_drop 25 xm_c140) lv st G E kc ks = (xm_int2 .iadd st E (fun st E => xm_run call xm_c140 nL mc ms ret Q f (xm_drop 26 xm_c140) lv st G E kc ks)) := rfl
theorem xz_140_26 : xm_run call xm_c140 nL mc ms ret Q (f + 1) (xm_drop 26 xm_c140) lv st G E kc ks = (xm_ast (fun t => Nat.beq t 100) xm_kI st G E (fun st G E => xm_run call xm_c140 nL mc ms ret Q f (xm_drop 27 xm_c140) lv st G E kc ks)) := rfl
theorem xz_140_27 : xm_run call xm_c140 nL mc ms ret Q (f + 1) (xm_drop 27 xm_c140) lv st G E kc ks = ((match st with
    | [] => bif ret.isNone && (Nat.ble kc mc && Nat.ble ks ms) then Q none G E else false
    | _ => false)) := rfl
theorem xz_141_0 : xm_run call xm_c141 nL mc ms ret Q (f + 1) (xm_drop 0 xm_c141) lv st G E kc ks = ((match xm_get lv 0 with
    | some w => bif xm_isA w then xm_run call xm_c141 nL mc ms ret Q f (xm_drop 1 xm_c141) lv (w :: st) G E kc ks else false
    | none => false)) := rfl
theorem xz_141_1 : xm_run call xm_c141 nL mc ms ret Q (f + 1) (xm_drop 1 xm_c141) lv st G E kc ks = (xm_getf 11 12 st G (fun st => xm_run call xm_c141 nL mc ms ret Q f (xm_drop 2 xm_c141) lv st G E kc ks)) := rfl
theorem xz_141_2 : xm_run call xm_c141 nL mc ms ret Q (f + 1) (xm_drop 2 xm_c141) lv st G E kc ks = (xm_run call xm_c141 nL mc ms ret Q f (xm_drop 3 xm_c141) lv ((.int 60) :: st) G E kc ks) := rfl
theorem xz_141_3 : xm_run call xm_c141 nL mc ms ret Q (f + 1) (xm_drop 3 xm_c141) lv st G E kc ks = ((match st with
    | w :: u :: st => xm_cmpI E u w (fun E s => bif xm_holds .ne s then xm_run call xm_c141 nL mc ms ret Q f (xm_drop 9 xm_c141) lv st G E kc ks else xm_run call xm_c141 nL mc ms ret Q f (xm_drop 4 xm_c141) lv st G E kc ks)
    | _ => false)) := rfl
theorem xz_141_4 : xm_run call xm_c141 nL mc ms ret Q (f + 1) (xm_drop 4 xm_c141) lv st G E kc ks = ((match xm_get lv 0 with
    | some w => bif xm_isA w then xm_run call xm_c141 nL mc ms ret Q f (xm_drop 5 xm_c141) lv (w :: st) G E kc ks else false
    | none => false)) := rfl
theorem xz_141_5 : xm_run call xm_c141 nL mc ms ret Q (f + 1) (xm_drop 5 xm_c141) lv st G E kc ks = (xm_run call xm_c141 nL mc ms ret Q f (xm_drop 6 xm_c141) lv ((.int 3) :: st) G E kc ks) := rfl
theorem xz_141_6 : xm_run call xm_c141 nL mc ms ret Q (f + 1) (xm_drop 6 xm_c141) lv st G E kc ks = ((match xm_get lv 1 with
    | some w => bif xm_isI w then xm_run call xm_c141 nL mc ms ret Q f (xm_drop 7 xm_c141) lv (w :: st) G E kc ks else false
    | none => false)) := rfl
theorem xz_141_7 : xm_run call xm_c141 nL mc ms ret Q (f + 1) (xm_drop 7 xm_c141) lv st G E kc ks = (bif Nat.beq 131 1006 || Nat.beq 131 1007 then xm_strl 131 st G (fun st => xm_run call xm_c141 nL mc ms ret Q f (xm_drop 8 xm_c141) lv st G E kc ks) else xm_call call mc ms 131 0 st G E kc ks (fun st G E kc ks => xm_run call xm_c141 nL mc ms ret Q f (xm_drop 8 xm_c141) lv st G E kc ks)) := rfl
theorem xz_141_8 : xm_run call xm_c141 nL mc ms ret Q (f + 1) (xm_drop 8 xm_c141) lv st G E kc ks = ((match st with
    | [w] => bif xm_isI w && (xm_rok ret w && (Nat.ble kc mc && Nat.ble ks ms)) then Q (some w) G E else false
    | _ => false)) := rfl
theorem xz_141_9 : xm_run call xm_c141 nL mc ms ret Q (f + 1) (xm_drop 9 xm_c141) lv st G E kc ks = ((match xm_get lv 0 with
    | some w => bif xm_isA w then xm_run call xm_c141 nL mc ms ret Q f (xm_drop 10 xm_c141) lv (w :: st) G E kc ks else false
    | none => false)) := rfl
theorem xz_141_10 : xm_run call xm_c141 nL mc ms ret Q (f + 1) (xm_drop 10 xm_c141) lv st G E kc ks = ((match st with
    | w :: st => bif xm_cat1 w then xm_run call xm_c141 nL mc ms ret Q f (xm_drop 11 xm_c141) lv (w :: w :: st) G E kc ks else false
    | _ => false)) := rfl
theorem xz_141_11 : xm_run call xm_c141 nL mc ms ret Q (f + 1) (xm_drop 11 xm_c141) lv st G E kc ks = (xm_getf 11 12 st G (fun st => xm_run call xm_c141 nL mc ms ret Q f (xm_drop 12 xm_c141) lv st G E kc ks)) := rfl
theorem xz_141_12 : xm_run call xm_c141 nL mc ms ret Q (f + 1) (xm_drop 12 xm_c141) lv st G E kc ks = (xm_run call xm_c141 nL mc ms ret Q f (xm_drop 13 xm_c141) lv ((.int 1) :: st) G E kc ks) := rfl
theorem xz_141_13 : xm_run call xm_c141 nL mc ms ret Q (f + 1) (xm_drop 13 xm_c141) lv st G E kc ks = (xm_int2 .iadd st E (fun st E => xm_run call xm_c141 nL mc ms ret Q f (xm_drop 14 xm_c141) lv st G E kc ks)) := rfl
theorem xz_141_14 : xm_run call xm_c141 nL mc ms ret Q (f + 1) (xm_drop 14 xm_c141) lv st G E kc ks = (xm_putf 11 12 st G (fun st G => xm_run call xm_c141 nL mc ms ret Q f (xm_drop 15 xm_c141) lv st G E kc ks)) := rfl
theorem xz_141_15 : xm_run call xm_c141 nL mc ms ret Q (f + 1) (xm_drop 15 xm_c141) lv st G E kc ks = (xm_run call xm_c141 nL mc ms ret Q f (xm_drop 16 xm_c141) lv ((.int 1) :: st) G E kc ks) := rfl
theorem xz_141_16 : xm_run call xm_c141 nL mc ms ret Q (f + 1) (xm_drop 16 xm_c141) lv st G E kc ks = ((match st with
    | [w] => bif xm_isI w && (xm_rok ret w && (Nat.ble kc mc && Nat.ble ks ms)) then Q (some w) G E else false
    | _ => false)) := rfl
theorem xz_142_0 : xm_run call xm_c142 nL mc ms ret Q (f + 1) (xm_drop 0 xm_c142) lv st G E kc ks = ((match xm_get lv 0 with
    | some w => bif xm_isA w then xm_run call xm_c142 nL mc ms ret Q f (xm_drop 1 xm_c142) lv (w :: st) G E kc ks else false
    | none => false)) := rfl
theorem xz_142_1 : xm_run call xm_c142 nL mc ms ret Q (f + 1) (xm_drop 1 xm_c142) lv st G E kc ks = (xm_getf 11 13 st G (fun st => xm_run call xm_c142 nL mc ms ret Q f (xm_drop 2 xm_c142) lv st G E kc ks)) := rfl
theorem xz_142_2 : xm_run call xm_c142 nL mc ms ret Q (f + 1) (xm_drop 2 xm_c142) lv st G E kc ks = (xm_run call xm_c142 nL mc ms ret Q f (xm_drop 3 xm_c142) lv ((.int 10) :: st) G E kc ks) := rfl
theorem xz_142_3 : xm_run call xm_c142 nL mc ms ret Q (f + 1) (xm_drop 3 xm_c142) lv st G E kc ks = ((match st with
    | w :: u :: st => xm_cmpI E u w (fun E s => bif xm_holds .ne s then xm_run call xm_c142 nL mc ms ret Q f (xm_drop 10 xm_c142) lv st G E kc ks else xm_run call xm_c142 nL mc ms ret Q f (xm_drop 4 xm_c142) lv st G E kc ks)
    | _ => false)) := rfl
theorem xz_142_4 : xm_run call xm_c142 nL mc ms ret Q (f + 1) (xm_drop 4 xm_c142) lv st G E kc ks = ((match xm_get lv 0 with
    | some w => bif xm_isA w then xm_run call xm_c142 nL mc ms ret Q f (xm_drop 5 xm_c142) lv (w :: st) G E kc ks else false
    | none => false)) := rfl
theorem xz_142_5 : xm_run call xm_c142 nL mc ms ret Q (f + 1) (xm_drop 5 xm_c142) lv st G E kc ks = (xm_run call xm_c142 nL mc ms ret Q f (xm_drop 6 xm_c142) lv ((.int 2) :: st) G E kc ks) := rfl
theorem xz_142_6 : xm_run call xm_c142 nL mc ms ret Q (f + 1) (xm_drop 6 xm_c142) lv st G E kc ks = ((match xm_get lv 0 with
    | some w => bif xm_isA w then xm_run call xm_c142 nL mc ms ret Q f (xm_drop 7 xm_c142) lv (w :: st) G E kc ks else false
    | none => false)) := rfl
theorem xz_142_7 : xm_run call xm_c142 nL mc ms ret Q (f + 1) (xm_drop 7 xm_c142) lv st G E kc ks = (xm_getf 11 8 st G (fun st => xm_run call xm_c142 nL mc ms ret Q f (xm_drop 8 xm_c142) lv st G E kc ks)) := rfl
theorem xz_142_8 : xm_run call xm_c142 nL mc ms ret Q (f + 1) (xm_drop 8 xm_c142) lv st G E kc ks = (bif Nat.beq 131 1006 || Nat.beq 131 1007 then xm_strl 131 st G (fun st => xm_run call xm_c142 nL mc ms ret Q f (xm_drop 9 xm_c142) lv st G E kc ks) else xm_call call mc ms 131 0 st G E kc ks (fun st G E kc ks => xm_run call xm_c142 nL mc ms ret Q f (xm_drop 9 xm_c142) lv st G E kc ks)) := rfl
theorem xz_142_9 : xm_run call xm_c142 nL mc ms ret Q (f + 1) (xm_drop 9 xm_c142) lv st G E kc ks = ((match st with
    | [w] => bif xm_isI w && (xm_rok ret w && (Nat.ble kc mc && Nat.ble ks ms)) then Q (some w) G E else false
    | _ => false)) := rfl
theorem xz_142_10 : xm_run call xm_c142 nL mc ms ret Q (f + 1) (xm_drop 10 xm_c142) lv st G E kc ks = ((match xm_get lv 0 with
    | some w => bif xm_isA w then xm_run call xm_c142 nL mc ms ret Q f (xm_drop 11 xm_c142) lv (w :: st) G E kc ks else false
    | none => false)) := rfl
theorem xz_142_11 : xm_run call xm_c142 nL mc ms ret Q (f + 1) (xm_drop 11 xm_c142) lv st G E kc ks = ((match st with
    | w :: st => bif xm_cat1 w then xm_run call xm_c142 nL mc ms ret Q f (xm_drop 12 xm_c142) lv (w :: w :: st) G E kc ks else false
    | _ => false)) := rfl
theorem xz_142_12 : xm_run call xm_c142 nL mc ms ret Q (f + 1) (xm_drop 12 xm_c142) lv st G E kc ks = (xm_getf 11 13 st G (fun st => xm_run call xm_c142 nL mc ms ret Q f (xm_drop 13 xm_c142) lv st G E kc ks)) := rfl
theorem xz_142_13 : xm_run call xm_c142 nL mc ms ret Q (f + 1) (xm_drop 13 xm_c142) lv st G E kc ks = (xm_run call xm_c142 nL mc ms ret Q f (xm_drop 14 xm_c142) lv ((.int 1) :: st) G E kc ks) := rfl
theorem xz_142_14 : xm_run call xm_c142 nL mc ms ret Q (f + 1) (xm_drop 14 xm_c142) lv st G E kc ks = (xm_int2 .iadd st E (fun st E => xm_run call xm_c142 nL mc ms ret Q f (xm_drop 15 xm_c142) lv st G E kc ks)) := rfl
theorem xz_142_15 : xm_run call xm_c142 nL mc ms ret Q (f + 1) (xm_drop 15 xm_c142) lv st G E kc ks = (xm_putf 11 13 st G (fun st G => xm_run call xm_c142 nL mc ms ret Q f (xm_drop 16 xm_c142) lv st G E kc ks)) := rfl
theorem xz_142_16 : xm_run call xm_c142 nL mc ms ret Q (f + 1) (xm_drop 16 xm_c142) lv st G E kc ks = ((match xm_get lv 0 with
    | some w => bif xm_isA w then xm_run call xm_c142 nL mc ms ret Q f (xm_drop 17 xm_c142) lv (w :: st) G E kc ks else false
    | none => false)) := rfl
theorem xz_142_17 : xm_run call xm_c142 nL mc ms ret Q (f + 1) (xm_drop 17 xm_c142) lv st G E kc ks = (xm_getf 11 15 st G (fun st => xm_run call xm_c142 nL mc ms ret Q f (xm_drop 18 xm_c142) lv st G E kc ks)) := rfl
theorem xz_142_18 : xm_run call xm_c142 nL mc ms ret Q (f + 1) (xm_drop 18 xm_c142) lv st G E kc ks = ((match xm_get lv 0 with
    | some w => bif xm_isA w then xm_run call xm_c142 nL mc ms ret Q f (xm_drop 19 xm_c142) lv (w :: st) G E kc ks else false
    | none => false)) := rfl
theorem xz_142_19 : xm_run call xm_c142 nL mc ms ret Q (f + 1) (xm_drop 19 xm_c142) lv st G E kc ks = (xm_getf 11 16 st G (fun st => xm_run call xm_c142 nL mc ms ret Q f (xm_drop 20 xm_c142) lv st G E kc ks)) := rfl
theorem xz_142_20 : xm_run call xm_c142 nL mc ms ret Q (f + 1) (xm_drop 20 xm_c142) lv st G E kc ks = ((match xm_get lv 1 with
    | some w => bif xm_isI w then xm_run call xm_c142 nL mc ms ret Q f (xm_drop 21 xm_c142) lv (w :: st) G E kc ks else false
    | none => false)) := rfl
theorem xz_142_21 : xm_run call xm_c142 nL mc ms ret Q (f + 1) (xm_drop 21 xm_c142) lv st G E kc ks = (xm_ast (fun t => Nat.beq t 100) xm_kI st G E (fun st G E => xm_run call xm_c142 nL mc ms ret Q f (xm_drop 22 xm_c142) lv st G E kc ks)) := rfl
theorem xz_142_22 : xm_run call xm_c142 nL mc ms ret Q (f + 1) (xm_drop 22 xm_c142) lv st G E kc ks = ((match xm_get lv 0 with
    | some w => bif xm_isA w then xm_run call xm_c142 nL mc ms ret Q f (xm_drop 23 xm_c142) lv (w :: st) G E kc ks else false
    | none => false)) := rfl
theorem xz_142_23 : xm_run call xm_c142 nL mc ms ret Q (f + 1) (xm_drop 23 xm_c142) lv st G E kc ks = ((match st with
    | w :: st => bif xm_cat1 w then xm_run call xm_c142 nL mc ms ret Q f (xm_drop 24 xm_c142) lv (w :: w :: st) G E kc ks else false
    | _ => false)) := rfl
theorem xz_142_24 : xm_run call xm_c142 nL mc ms ret Q (f + 1) (xm_drop 24 xm_c142) lv st G E kc ks = (xm_getf 11 16 st G (fun st => xm_run call xm_c142 nL mc ms ret Q f (xm_drop 25 xm_c142) lv st G E kc ks)) := rfl
theorem xz_142_25 : xm_run call xm_c142 nL mc ms ret Q (f + 1) (xm_drop 25 xm_c142) lv st G E kc ks = (xm_run call xm_c142 nL mc ms ret Q f (xm_drop 26 xm_c142) lv ((.int 1) :: st) G E kc ks) := rfl
theorem xz_142_26 : xm_run call xm_c142 nL mc ms ret Q (f + 1) (xm_drop 26 xm_c142) lv st G E kc ks = (xm_int2 .iadd st E (fun st E => xm_run call xm_c142 nL mc ms ret Q f (xm_drop 27 xm_c142) lv st G E kc ks)) := rfl
theorem xz_142_27 : xm_run call xm_c142 nL mc ms ret Q (f + 1) (xm_drop 27 xm_c142) lv st G E kc ks = (xm_putf 11 16 st G (fun st G => xm_run call xm_c142 nL mc ms ret Q f (xm_drop 28 xm_c142) lv st G E kc ks)) := rfl
theorem xz_142_28 : xm_run call xm_c142 nL mc ms ret Q (f + 1) (xm_drop 28 xm_c142) lv st G E kc ks = (xm_run call xm_c142 nL mc ms ret Q f (xm_drop 29 xm_c142) lv ((.int 1) :: st) G E kc ks) := rfl
theorem xz_142_29 : xm_run call xm_c142 nL mc ms ret Q (f + 1) (xm_drop 29 xm_c142) lv st G E kc ks = ((match st with
    | [w] => bif xm_isI w && (xm_rok ret w && (Nat.ble kc mc && Nat.ble ks ms)) then Q (some w) G E else false
    | _ => false)) := rfl
theorem xz_143_0 : xm_run call xm_c143 nL mc ms ret Q (f + 1) (xm_drop 0 xm_c143) lv st G E kc ks = ((match xm_get lv 0 with
    | some w => bif xm_isI w then xm_run call xm_c143 nL mc ms ret Q f (xm_drop 1 xm_c143) lv (w :: st) G E kc ks else false
    | none => false)) := rfl
theorem xz_143_1 : xm_run call xm_c143 nL mc ms ret Q (f + 1) (xm_drop 1 xm_c143) lv st G E kc ks = (xm_run call xm_c143 nL mc ms ret Q f (xm_drop 2 xm_c143) lv ((.int 13) :: st) G E kc ks) := rfl
theorem xz_143_2 : xm_run call xm_c143 nL mc ms ret Q (f + 1) (xm_drop 2 xm_c143) lv st G E kc ks = ((match st with
    | w :: u :: st => xm_cmpI E u w (fun E s => bif xm_holds .ne s then xm_run call xm_c143 nL mc ms ret Q f (xm_drop 5 xm_c143) lv st G E kc ks else xm_run call xm_c143 nL mc ms ret Q f (xm_drop 3 xm_c143) lv st G E kc ks)
    | _ => false)) := rfl
theorem xz_143_3 : xm_run call xm_c143 nL mc ms ret Q (f + 1) (xm_drop 3 xm_c143) lv st G E kc ks = (xm_run call xm_c143 nL mc ms ret Q f (xm_drop 4 xm_c143) lv ((.int 1) :: st) G E kc ks) := rfl
theorem xz_143_4 : xm_run call xm_c143 nL mc ms ret Q (f + 1) (xm_drop 4 xm_c143) lv st G E kc ks = (xm_run call xm_c143 nL mc ms ret Q f (xm_drop 16 xm_c143) lv st G E kc ks) := rfl
theorem xz_143_5 : xm_run call xm_c143 nL mc ms ret Q (f + 1) (xm_drop 5 xm_c143) lv st G E kc ks = ((match xm_get lv 0 with
    | some w => bif xm_isI w then xm_run call xm_c143 nL mc ms ret Q f (xm_drop 6 xm_c143) lv (w :: st) G E kc ks else false
    | none => false)) := rfl
theorem xz_143_6 : xm_run call xm_c143 nL mc ms ret Q (f + 1) (xm_drop 6 xm_c143) lv st G E kc ks = (xm_run call xm_c143 nL mc ms ret Q f (xm_drop 7 xm_c143) lv ((.int 12) :: st) G E kc ks) := rfl
theorem xz_143_7 : xm_run call xm_c143 nL mc ms ret Q (f + 1) (xm_drop 7 xm_c143) lv st G E kc ks = ((match st with
    | w :: u :: st => xm_cmpI E u w (fun E s => bif xm_holds .ne s then xm_run call xm_c143 nL mc ms ret Q f (xm_drop 10 xm_c143) lv st G E kc ks else xm_run call xm_c143 nL mc ms ret Q f (xm_drop 8 xm_c143) lv st G E kc ks)
    | _ => false)) := rfl
theorem xz_143_8 : xm_run call xm_c143 nL mc ms ret Q (f + 1) (xm_drop 8 xm_c143) lv st G E kc ks = (xm_run call xm_c143 nL mc ms ret Q f (xm_drop 9 xm_c143) lv ((.int 2) :: st) G E kc ks) := rfl
theorem xz_143_9 : xm_run call xm_c143 nL mc ms ret Q (f + 1) (xm_drop 9 xm_c143) lv st G E kc ks = (xm_run call xm_c143 nL mc ms ret Q f (xm_drop 16 xm_c143) lv st G E kc ks) := rfl
theorem xz_143_10 : xm_run call xm_c143 nL mc ms ret Q (f + 1) (xm_drop 10 xm_c143) lv st G E kc ks = ((match xm_get lv 0 with
    | some w => bif xm_isI w then xm_run call xm_c143 nL mc ms ret Q f (xm_drop 11 xm_c143) lv (w :: st) G E kc ks else false
    | none => false)) := rfl
theorem xz_143_11 : xm_run call xm_c143 nL mc ms ret Q (f + 1) (xm_drop 11 xm_c143) lv st G E kc ks = (xm_run call xm_c143 nL mc ms ret Q f (xm_drop 12 xm_c143) lv ((.int 11) :: st) G E kc ks) := rfl
theorem xz_143_12 : xm_run call xm_c143 nL mc ms ret Q (f + 1) (xm_drop 12 xm_c143) lv st G E kc ks = ((match st with
    | w :: u :: st => xm_cmpI E u w (fun E s => bif xm_holds .ne s then xm_run call xm_c143 nL mc ms ret Q f (xm_drop 15 xm_c143) lv st G E kc ks else xm_run call xm_c143 nL mc ms ret Q f (xm_drop 13 xm_c143) lv st G E kc ks)
    | _ => false)) := rfl
theorem xz_143_13 : xm_run call xm_c143 nL mc ms ret Q (f + 1) (xm_drop 13 xm_c143) lv st G E kc ks = (xm_run call xm_c143 nL mc ms ret Q f (xm_drop 14 xm_c143) lv ((.int 3) :: st) G E kc ks) := rfl
theorem xz_143_14 : xm_run call xm_c143 nL mc ms ret Q (f + 1) (xm_drop 14 xm_c143) lv st G E kc ks = (xm_run call xm_c143 nL mc ms ret Q f (xm_drop 16 xm_c143) lv st G E kc ks) := rfl
theorem xz_143_15 : xm_run call xm_c143 nL mc ms ret Q (f + 1) (xm_drop 15 xm_c143) lv st G E kc ks = (xm_run call xm_c143 nL mc ms ret Q f (xm_drop 16 xm_c143) lv ((.int 0) :: st) G E kc ks) := rfl
theorem xz_143_16 : xm_run call xm_c143 nL mc ms ret Q (f + 1) (xm_drop 16 xm_c143) lv st G E kc ks = ((match st with
    | [w] => bif xm_isI w && (xm_rok ret w && (Nat.ble kc mc && Nat.ble ks ms)) then Q (some w) G E else false
    | _ => false)) := rfl
theorem xz_144_0 : xm_run call xm_c144 nL mc ms ret Q (f + 1) (xm_drop 0 xm_c144) lv st G E kc ks = ((match xm_get lv 0 with
    | some w => bif xm_isA w then xm_run call xm_c144 nL mc ms ret Q f (xm_drop 1 xm_c144) lv (w :: st) G E kc ks else false
    | none => false)) := rfl
theorem xz_144_1 : xm_run call xm_c144 nL mc ms ret Q (f + 1) (xm_drop 1 xm_c144) lv st G E kc ks = (xm_getf 11 16 st G (fun st => xm_run call xm_c144 nL mc ms ret Q f (xm_drop 2 xm_c144) lv st G E kc ks)) := rfl
theorem xz_144_2 : xm_run call xm_c144 nL mc ms ret Q (f + 1) (xm_drop 2 xm_c144) lv st G E kc ks = ((match st with
    | w :: st => xm_cmpI E w (.int 0) (fun E s => bif xm_holds .le s then xm_run call xm_c144 nL mc ms ret Q f (xm_drop 41 xm_c144) lv st G E kc ks else xm_run call xm_c144 nL mc ms ret Q f (xm_drop 3 xm_c144) lv st G E kc ks)
    | _ => false)) := rfl
theorem xz_144_3 : xm_run call xm_c144 nL mc ms ret Q (f + 1) (xm_drop 3 xm_c144) lv st G E kc ks = ((match xm_get lv 0 with
    | some w => bif xm_isA w then xm_run call xm_c144 nL mc ms ret Q f (xm_drop 4 xm_c144) lv (w :: st) G E kc ks else false
    | none => false)) := rfl
theorem xz_144_4 : xm_run call xm_c144 nL mc ms ret Q (f + 1) (xm_drop 4 xm_c144) lv st G E kc ks = (xm_getf 11 15 st G (fun st => xm_run call xm_c144 nL mc ms ret Q f (xm_drop 5 xm_c144) lv st G E kc ks)) := rfl
theorem xz_144_5 : xm_run call xm_c144 nL mc ms ret Q (f + 1) (xm_drop 5 xm_c144) lv st G E kc ks = ((match xm_get lv 0 with
    | some w => bif xm_isA w then xm_run call xm_c144 nL mc ms ret Q f (xm_drop 6 xm_c144) lv (w :: st) G E kc ks else false
    | none => false)) := rfl
theorem xz_144_6 : xm_run call xm_c144 nL mc ms ret Q (f + 1) (xm_drop 6 xm_c144) lv st G E kc ks = (xm_getf 11 16 st G (fun st => xm_run call xm_c144 nL mc ms ret Q f (xm_drop 7 xm_c144) lv st G E kc ks)) := rfl
theorem xz_144_7 : xm_run call xm_c144 nL mc ms ret Q (f + 1) (xm_drop 7 xm_c144) lv st G E kc ks = (xm_run call xm_c144 nL mc ms ret Q f (xm_drop 8 xm_c144) lv ((.int 1) :: st) G E kc ks) := rfl
theorem xz_144_8 : xm_run call xm_c144 nL mc ms ret Q (f + 1) (xm_drop 8 xm_c144) lv st G E kc ks = (xm_int2 .isub st E (fun st E => xm_run call xm_c144 nL mc ms ret Q f (xm_drop 9 xm_c144) lv st G E kc ks)) := rfl
theorem xz_144_9 : xm_run call xm_c144 nL mc ms ret Q (f + 1) (xm_drop 9 xm_c144) lv st G E kc ks = (xm_iald st G E (fun st E => xm_run call xm_c144 nL mc ms ret Q f (xm_drop 10 xm_c144) lv st G E kc ks)) := rfl
theorem xz_144_10 : xm_run call xm_c144 nL mc ms ret Q (f + 1) (xm_drop 10 xm_c144) lv st G E kc ks = (bif Nat.beq 143 1001 then xm_acopy st G (fun st G => xm_run call xm_c144 nL mc ms ret Q f (xm_drop 11 xm_c144) lv st G E kc ks) else bif Nat.beq 143 1003 || (Nat.beq 143 1004 || Nat.beq 143 1005) then xm_math 143 st (fun st => xm_run call xm_c144 nL mc ms ret Q f (xm_drop 11 xm_c144) lv st G E kc ks) else bif Nat.beq 1 3 then xm_call call mc ms 143 3 st G E kc ks (fun st G E kc ks => xm_run call xm_c144 nL mc ms ret Q f (xm_drop 11 xm_c144) lv st G E kc ks) else xm_call call mc ms 143 1 st G E kc ks (fun st G E kc ks => xm_run call xm_c144 nL mc ms ret Q f (xm_drop 11 xm_c144) lv st G E kc ks)) := rfl
theorem xz_144_11 : xm_run call xm_c144 nL mc ms ret Q (f + 1) (xm_drop 11 xm_c144) lv st G E kc ks = ((match xm_get lv 1 with
    | some w => bif xm_isI w then xm_run call xm_c144 nL mc ms ret Q f (xm_drop 12 xm_c144) lv (w :: st) G E kc ks else false
    | none => false)) := rfl
theorem xz_144_12 : xm_run call xm_c144 nL mc ms ret Q (f + 1) (xm_drop 12 xm_c144) lv st G E kc ks = ((match st with
    | w :: u :: st => xm_cmpI E u w (fun E s => bif xm_holds .lt s then xm_run call xm_c144 nL mc ms ret Q f (xm_drop 41 xm_c144) lv st G E kc ks else xm_run call xm_c144 nL mc ms ret Q f (xm_drop 13 xm_c144) lv st G E kc ks)
    | _ => false)) := rfl
theorem xz_144_13 : xm_run call xm_c144 nL mc ms ret Q (f + 1) (xm_drop 13 xm_c144) lv st G E kc ks = ((match xm_get lv 0 with
    | some w => bif xm_isA w then xm_run call xm_c144 nL mc ms ret Q f (xm_drop 14 xm_c144) lv (w :: st) G E kc ks else false
    | none => false)) := rfl
theorem xz_144_14 : xm_run call xm_c144 nL mc ms ret Q (f + 1) (xm_drop 14 xm_c144) lv st G E kc ks = ((match st with
    | w :: st => bif xm_cat1 w then xm_run call xm_c144 nL mc ms ret Q f (xm_drop 15 xm_c144) lv (w :: w :: st) G E kc ks else false
    | _ => false)) := rfl
theorem xz_144_15 : xm_run call xm_c144 nL mc ms ret Q (f + 1) (xm_drop 15 xm_c144) lv st G E kc ks = (xm_getf 11 16 st G (fun st => xm_run call xm_c144 nL mc ms ret Q f (xm_drop 16 xm_c144) lv st G E kc ks)) := rfl
theorem xz_144_16 : xm_run call xm_c144 nL mc ms ret Q (f + 1) (xm_drop 16 xm_c144) lv st G E kc ks = (xm_run call xm_c144 nL mc ms ret Q f (xm_drop 17 xm_c144) lv ((.int 1) :: st) G E kc ks) := rfl
theorem xz_144_17 : xm_run call xm_c144 nL mc ms ret Q (f + 1) (xm_drop 17 xm_c144) lv st G E kc ks = (xm_int2 .isub st E (fun st E => xm_run call xm_c144 nL mc ms ret Q f (xm_drop 18 xm_c144) lv st G E kc ks)) := rfl
theorem xz_144_18 : xm_run call xm_c144 nL mc ms ret Q (f + 1) (xm_drop 18 xm_c144) lv st G E kc ks = (xm_putf 11 16 st G (fun st G => xm_run call xm_c144 nL mc ms ret Q f (xm_drop 19 xm_c144) lv st G E kc ks)) := rfl
theorem xz_144_19 : xm_run call xm_c144 nL mc ms ret Q (f + 1) (xm_drop 19 xm_c144) lv st G E kc ks = ((match xm_get lv 0 with
    | some w => bif xm_isA w then xm_run call xm_c144 nL mc ms ret Q f (xm_drop 20 xm_c144) lv (w :: st) G E kc ks else false
    | none => false)) := rfl
theorem xz_144_20 : xm_run call xm_c144 nL mc ms ret Q (f + 1) (xm_drop 20 xm_c144) lv st G E kc ks = ((match xm_get lv 0 with
    | some w => bif xm_isA w then xm_run call xm_c144 nL mc ms ret Q f (xm_drop 21 xm_c144) lv (w :: st) G E kc ks else false
    | none => false)) := rfl
theorem xz_144_21 : xm_run call xm_c144 nL mc ms ret Q (f + 1) (xm_drop 21 xm_c144) lv st G E kc ks = (xm_getf 11 15 st G (fun st => xm_run call xm_c144 nL mc ms ret Q f (xm_drop 22 xm_c144) lv st G E kc ks)) := rfl
theorem xz_144_22 : xm_run call xm_c144 nL mc ms ret Q (f + 1) (xm_drop 22 xm_c144) lv st G E kc ks = ((match xm_get lv 0 with
    | some w => bif xm_isA w then xm_run call xm_c144 nL mc ms ret Q f (xm_drop 23 xm_c144) lv (w :: st) G E kc ks else false
    | none => false)) := rfl
theorem xz_144_23 : xm_run call xm_c144 nL mc ms ret Q (f + 1) (xm_drop 23 xm_c144) lv st G E kc ks = (xm_getf 11 16 st G (fun st => xm_run call xm_c144 nL mc ms ret Q f (xm_drop 24 xm_c144) lv st G E kc ks)) := rfl
theorem xz_144_24 : xm_run call xm_c144 nL mc ms ret Q (f + 1) (xm_drop 24 xm_c144) lv st G E kc ks = (xm_iald st G E (fun st E => xm_run call xm_c144 nL mc ms ret Q f (xm_drop 25 xm_c144) lv st G E kc ks)) := rfl
theorem xz_144_25 : xm_run call xm_c144 nL mc ms ret Q (f + 1) (xm_drop 25 xm_c144) lv st G E kc ks = (xm_run call xm_c144 nL mc ms ret Q f (xm_drop 26 xm_c144) lv ((.int 0) :: st) G E kc ks) := rfl
theorem xz_144_26 : xm_run call xm_c144 nL mc ms ret Q (f + 1) (xm_drop 26 xm_c144) lv st G E kc ks = (bif Nat.beq 140 1006 || Nat.beq 140 1007 then xm_strl 140 st G (fun st => xm_run call xm_c144 nL mc ms ret Q f (xm_drop 27 xm_c144) lv st G E kc ks) else xm_call call mc ms 140 0 st G E kc ks (fun st G E kc ks => xm_run call xm_c144 nL mc ms ret Q f (xm_drop 27 xm_c144) lv st G E kc ks)) := rfl
theorem xz_144_27 : xm_run call xm_c144 nL mc ms ret Q (f + 1) (xm_drop 27 xm_c144) lv st G E kc ks = ((match xm_get lv 0 with
    | some w => bif xm_isA w then xm_run call xm_c144 nL mc ms ret Q f (xm_drop 28 xm_c144) lv (w :: st) G E kc ks else false
    | none => false)) := rfl
theorem xz_144_28 : xm_run call xm_c144 nL mc ms ret Q (f + 1) (xm_drop 28 xm_c144) lv st G E kc ks = (xm_getf 11 15 st G (fun st => xm_run call xm_c144 nL mc ms ret Q f (xm_drop 29 xm_c144) lv st G E kc ks)) := rfl
theorem xz_144_29 : xm_run call xm_c144 nL mc ms ret Q (f + 1) (xm_drop 29 xm_c144) lv st G E kc ks = ((match xm_get lv 0 with
    | some w => bif xm_isA w then xm_run call xm_c144 nL mc ms ret Q f (xm_drop 30 xm_c144) lv (w :: st) G E kc ks else false
    | none => false)) := rfl
theorem xz_144_30 : xm_run call xm_c144 nL mc ms ret Q (f + 1) (xm_drop 30 xm_c144) lv st G E kc ks = (xm_getf 11 16 st G (fun st => xm_run call xm_c144 nL mc ms ret Q f (xm_drop 31 xm_c144) lv st G E kc ks)) := rfl
theorem xz_144_31 : xm_run call xm_c144 nL mc ms ret Q (f + 1) (xm_drop 31 xm_c144) lv st G E kc ks = (xm_iald st G E (fun st E => xm_run call xm_c144 nL mc ms ret Q f (xm_drop 32 xm_c144) lv st G E kc ks)) := rfl
theorem xz_144_32 : xm_run call xm_c144 nL mc ms ret Q (f + 1) (xm_drop 32 xm_c144) lv st G E kc ks = (xm_run call xm_c144 nL mc ms ret Q f (xm_drop 33 xm_c144) lv ((.int 11) :: st) G E kc ks) := rfl
theorem xz_144_33 : xm_run call xm_c144 nL mc ms ret Q (f + 1) (xm_drop 33 xm_c144) lv st G E kc ks = ((match st with
    | w :: u :: st => xm_cmpI E u w (fun E s => bif xm_holds .ne s then xm_run call xm_c144 nL mc ms ret Q f (xm_drop 0 xm_c144) lv st G E kc ks else xm_run call xm_c144 nL mc ms ret Q f (xm_drop 34 xm_c144) lv st G E kc ks)
    | _ => false)) := rfl
theorem xz_144_34 : xm_run call xm_c144 nL mc ms ret Q (f + 1) (xm_drop 34 xm_c144) lv st G E kc ks = ((match xm_get lv 0 with
    | some w => bif xm_isA w then xm_run call xm_c144 nL mc ms ret Q f (xm_drop 35 xm_c144) lv (w :: st) G E kc ks else false
    | none => false)) := rfl
theorem xz_144_35 : xm_run call xm_c144 nL mc ms ret Q (f + 1) (xm_drop 35 xm_c144) lv st G E kc ks = ((match st with
    | w :: st => bif xm_cat1 w then xm_run call xm_c144 nL mc ms ret Q f (xm_drop 36 xm_c144) lv (w :: w :: st) G E kc ks else false
    | _ => false)) := rfl
theorem xz_144_36 : xm_run call xm_c144 nL mc ms ret Q (f + 1) (xm_drop 36 xm_c144) lv st G E kc ks = (xm_getf 11 13 st G (fun st => xm_run call xm_c144 nL mc ms ret Q f (xm_drop 37 xm_c144) lv st G E kc ks)) := rfl
theorem xz_144_37 : xm_run call xm_c144 nL mc ms ret Q (f + 1) (xm_drop 37 xm_c144) lv st G E kc ks = (xm_run call xm_c144 nL mc ms ret Q f (xm_drop 38 xm_c144) lv ((.int 1) :: st) G E kc ks) := rfl
theorem xz_144_38 : xm_run call xm_c144 nL mc ms ret Q (f + 1) (xm_drop 38 xm_c144) lv st G E kc ks = (xm_int2 .isub st E (fun st E => xm_run call xm_c144 nL mc ms ret Q f (xm_drop 39 xm_c144) lv st G E kc ks)) := rfl
theorem xz_144_39 : xm_run call xm_c144 nL mc ms ret Q (f + 1) (xm_drop 39 xm_c144) lv st G E kc ks = (xm_putf 11 13 st G (fun st G => xm_run call xm_c144 nL mc ms ret Q f (xm_drop 40 xm_c144) lv st G E kc ks)) := rfl
theorem xz_144_40 : xm_run call xm_c144 nL mc ms ret Q (f + 1) (xm_drop 40 xm_c144) lv st G E kc ks = (xm_run call xm_c144 nL mc ms ret Q f (xm_drop 0 xm_c144) lv st G E kc ks) := rfl
theorem xz_144_41 : xm_run call xm_c144 nL mc ms ret Q (f + 1) (xm_drop 41 xm_c144) lv st G E kc ks = ((match st with
    | [] => bif ret.isNone && (Nat.ble kc mc && Nat.ble ks ms) then Q none G E else false
    | _ => false)) := rfl
theorem xz_145_0 : xm_run call xm_c145 nL mc ms ret Q (f + 1) (xm_drop 0 xm_c145) lv st G E kc ks = ((match xm_get lv 0 with
    | some w => bif xm_isA w then xm_run call xm_c145 nL mc ms ret Q f (xm_drop 1 xm_c145) lv (w :: st) G E kc ks else false
    | none => false)) := rfl
theorem xz_145_1 : xm_run call xm_c145 nL mc ms ret Q (f + 1) (xm_drop 1 xm_c145) lv st G E kc ks = (bif Nat.beq 132 1006 || Nat.beq 132 1007 then xm_strl 132 st G (fun st => xm_run call xm_c145 nL mc ms ret Q f (xm_drop 2 xm_c145) lv st G E kc ks) else xm_call call mc ms 132 0 st G E kc ks (fun st G E kc ks => xm_run call xm_c145 nL mc ms ret Q f (xm_drop 2 xm_c145) lv st G E kc ks)) := rfl
theorem xz_145_2 : xm_run call xm_c145 nL mc ms ret Q (f + 1) (xm_drop 2 xm_c145) lv st G E kc ks = ((match st with
    | w :: st => bif xm_cat1 w then xm_run call xm_c145 nL mc ms ret Q f (xm_drop 3 xm_c145) lv st G E kc ks else false
    | _ => false)) := rfl
theorem xz_145_3 : xm_run call xm_c145 nL mc ms ret Q (f + 1) (xm_drop 3 xm_c145) lv st G E kc ks = ((match xm_get lv 0 with
    | some w => bif xm_isA w then xm_run call xm_c145 nL mc ms ret Q f (xm_drop 4 xm_c145) lv (w :: st) G E kc ks else false
    | none => false)) := rfl
theorem xz_145_4 : xm_run call xm_c145 nL mc ms ret Q (f + 1) (xm_drop 4 xm_c145) lv st G E kc ks = (xm_getf 11 8 st G (fun st => xm_run call xm_c145 nL mc ms ret Q f (xm_drop 5 xm_c145) lv st G E kc ks)) := rfl
theorem xz_145_5 : xm_run call xm_c145 nL mc ms ret Q (f + 1) (xm_drop 5 xm_c145) lv st G E kc ks = ((match st with
    | w :: st => bif xm_isI w && Nat.blt 1 nL then xm_run call xm_c145 nL mc ms ret Q f (xm_drop 6 xm_c145) (xm_set1 lv 1 w) st G E kc ks else false
    | _ => false)) := rfl
theorem xz_145_6 : xm_run call xm_c145 nL mc ms ret Q (f + 1) (xm_drop 6 xm_c145) lv st G E kc ks = ((match xm_get lv 0 with
    | some w => bif xm_isA w then xm_run call xm_c145 nL mc ms ret Q f (xm_drop 7 xm_c145) lv (w :: st) G E kc ks else false
    | none => false)) := rfl
theorem xz_145_7 : xm_run call xm_c145 nL mc ms ret Q (f + 1) (xm_drop 7 xm_c145) lv st G E kc ks = ((match xm_get lv 0 with
    | some w => bif xm_isA w then xm_run call xm_c145 nL mc ms ret Q f (xm_drop 8 xm_c145) lv (w :: st) G E kc ks else false
    | none => false)) := rfl
theorem xz_145_8 : xm_run call xm_c145 nL mc ms ret Q (f + 1) (xm_drop 8 xm_c145) lv st G E kc ks = (xm_getf 11 8 st G (fun st => xm_run call xm_c145 nL mc ms ret Q f (xm_drop 9 xm_c145) lv st G E kc ks)) := rfl
theorem xz_145_9 : xm_run call xm_c145 nL mc ms ret Q (f + 1) (xm_drop 9 xm_c145) lv st G E kc ks = (bif Nat.beq 133 1006 || Nat.beq 133 1007 then xm_strl 133 st G (fun st => xm_run call xm_c145 nL mc ms ret Q f (xm_drop 10 xm_c145) lv st G E kc ks) else xm_call call mc ms 133 0 st G E kc ks (fun st G E kc ks => xm_run call xm_c145 nL mc ms ret Q f (xm_drop 10 xm_c145) lv st G E kc ks)) := rfl
theorem xz_145_10 : xm_run call xm_c145 nL mc ms ret Q (f + 1) (xm_drop 10 xm_c145) lv st G E kc ks = ((match st with
    | w :: st => xm_cmpI E w (.int 0) (fun E s => bif xm_holds .eq s then xm_run call xm_c145 nL mc ms ret Q f (xm_drop 29 xm_c145) lv st G E kc ks else xm_run call xm_c145 nL mc ms ret Q f (xm_drop 11 xm_c145) lv st G E kc ks)
    | _ => false)) := rfl
theorem xz_145_11 : xm_run call xm_c145 nL mc ms ret Q (f + 1) (xm_drop 11 xm_c145) lv st G E kc ks = ((match xm_get lv 0 with
    | some w => bif xm_isA w then xm_run call xm_c145 nL mc ms ret Q f (xm_drop 12 xm_c145) lv (w :: st) G E kc ks else false
    | none => false)) := rfl
theorem xz_145_12 : xm_run call xm_c145 nL mc ms ret Q (f + 1) (xm_drop 12 xm_c145) lv st G E kc ks = (xm_run call xm_c145 nL mc ms ret Q f (xm_drop 13 xm_c145) lv ((.int 0) :: st) G E kc ks) := rfl
theorem xz_145_13 : xm_run call xm_c145 nL mc ms ret Q (f + 1) (xm_drop 13 xm_c145) lv st G E kc ks = (xm_run call xm_c145 nL mc ms ret Q f (xm_drop 14 xm_c145) lv ((.int 99999) :: st) G E kc ks) := rfl
theorem xz_145_14 : xm_run call xm_c145 nL mc ms ret Q (f + 1) (xm_drop 14 xm_c145) lv st G E kc ks = (bif Nat.beq 138 1006 || Nat.beq 138 1007 then xm_strl 138 st G (fun st => xm_run call xm_c145 nL mc ms ret Q f (xm_drop 15 xm_c145) lv st G E kc ks) else xm_call call mc ms 138 0 st G E kc ks (fun st G E kc ks => xm_run call xm_c145 nL mc ms ret Q f (xm_drop 15 xm_c145) lv st G E kc ks)) := rfl
theorem xz_145_15 : xm_run call xm_c145 nL mc ms ret Q (f + 1) (xm_drop 15 xm_c145) lv st G E kc ks = ((match st with
    | w :: st => xm_cmpI E w (.int 0) (fun E s => bif xm_holds .eq s then xm_run call xm_c145 nL mc ms ret Q f (xm_drop 20 xm_c145) lv st G E kc ks else xm_run call xm_c145 nL mc ms ret Q f (xm_drop 16 xm_c145) lv st G E kc ks)
    | _ => false)) := rfl
theorem xz_145_16 : xm_run call xm_c145 nL mc ms ret Q (f + 1) (xm_drop 16 xm_c145) lv st G E kc ks = ((match xm_get lv 0 with
    | some w => bif xm_isA w then xm_run call xm_c145 nL mc ms ret Q f (xm_drop 17 xm_c145) lv (w :: st) G E kc ks else false
    | none => false)) := rfl
theorem xz_145_17 : xm_run call xm_c145 nL mc ms ret Q (f + 1) (xm_drop 17 xm_c145) lv st G E kc ks = ((match xm_get lv 1 with
    | some w => bif xm_isI w then xm_run call xm_c145 nL mc ms ret Q f (xm_drop 18 xm_c145) lv (w :: st) G E kc ks else false
    | none => false)) := rfl
theorem xz_145_18 : xm_run call xm_c145 nL mc ms ret Q (f + 1) (xm_drop 18 xm_c145) lv st G E kc ks = (bif Nat.beq 141 1006 || Nat.beq 141 1007 then xm_strl 141 st G (fun st => xm_run call xm_c145 nL mc ms ret Q f (xm_drop 19 xm_c145) lv st G E kc ks) else xm_call call mc ms 141 0 st G E kc ks (fun st G E kc ks => xm_run call xm_c145 nL mc ms ret Q f (xm_drop 19 xm_c145) lv st G E kc ks)) := rfl
theorem xz_145_19 : xm_run call xm_c145 nL mc ms ret Q (f + 1) (xm_drop 19 xm_c145) lv st G E kc ks = ((match st with
    | w :: st => xm_cmpI E w (.int 0) (fun E s => bif xm_holds .ne s then xm_run call xm_c145 nL mc ms ret Q f (xm_drop 22 xm_c145) lv st G E kc ks else xm_run call xm_c145 nL mc ms ret Q f (xm_drop 20 xm_c145) lv st G E kc ks)
    | _ => false)) := rfl
theorem xz_145_20 : xm_run call xm_c145 nL mc ms ret Q (f + 1) (xm_drop 20 xm_c145) lv st G E kc ks = (xm_run call xm_c145 nL mc ms ret Q f (xm_drop 21 xm_c145) lv ((.int 0) :: st) G E kc ks) := rfl
theorem xz_145_21 : xm_run call xm_c145 nL mc ms ret Q (f + 1) (xm_drop 21 xm_c145) lv st G E kc ks = ((match st with
    | [w] => bif xm_isI w && (xm_rok ret w && (Nat.ble kc mc && Nat.ble ks ms)) then Q (some w) G E else false
    | _ => false)) := rfl
theorem xz_145_22 : xm_run call xm_c145 nL mc ms ret Q (f + 1) (xm_drop 22 xm_c145) lv st G E kc ks = ((match xm_get lv 0 with
    | some w => bif xm_isA w then xm_run call xm_c145 nL mc ms ret Q f (xm_drop 23 xm_c145) lv (w :: st) G E kc ks else false
    | none => false)) := rfl
theorem xz_145_23 : xm_run call xm_c145 nL mc ms ret Q (f + 1) (xm_drop 23 xm_c145) lv st G E kc ks = (xm_run call xm_c145 nL mc ms ret Q f (xm_drop 24 xm_c145) lv ((.int 0) :: st) G E kc ks) := rfl
theorem xz_145_24 : xm_run call xm_c145 nL mc ms ret Q (f + 1) (xm_drop 24 xm_c145) lv st G E kc ks = ((match xm_get lv 0 with
    | some w => bif xm_isA w then xm_run call xm_c145 nL mc ms ret Q f (xm_drop 25 xm_c145) lv (w :: st) G E kc ks else false
    | none => false)) := rfl
theorem xz_145_25 : xm_run call xm_c145 nL mc ms ret Q (f + 1) (xm_drop 25 xm_c145) lv st G E kc ks = (xm_getf 11 10 st G (fun st => xm_run call xm_c145 nL mc ms ret Q f (xm_drop 26 xm_c145) lv st G E kc ks)) := rfl
theorem xz_145_26 : xm_run call xm_c145 nL mc ms ret Q (f + 1) (xm_drop 26 xm_c145) lv st G E kc ks = (bif Nat.beq 140 1006 || Nat.beq 140 1007 then xm_strl 140 st G (fun st => xm_run call xm_c145 nL mc ms ret Q f (xm_drop 27 xm_c145) lv st G E kc ks) else xm_call call mc ms 140 0 st G E kc ks (fun st G E kc ks => xm_run call xm_c145 nL mc ms ret Q f (xm_drop 27 xm_c145) lv st G E kc ks)) := rfl
theorem xz_145_27 : xm_run call xm_c145 nL mc ms ret Q (f + 1) (xm_drop 27 xm_c145) lv st G E kc ks = (xm_run call xm_c145 nL mc ms ret Q f (xm_drop 28 xm_c145) lv ((.int 1) :: st) G E kc ks) := rfl
theorem xz_145_28 : xm_run call xm_c145 nL mc ms ret Q (f + 1) (xm_drop 28 xm_c145) lv st G E kc ks = ((match st with
    | [w] => bif xm_isI w && (xm_rok ret w && (Nat.ble kc mc && Nat.ble ks ms)) then Q (some w) G E else false
    | _ => false)) := rfl
theorem xz_145_29 : xm_run call xm_c145 nL mc ms ret Q (f + 1) (xm_drop 29 xm_c145) lv st G E kc ks = ((match xm_get lv 0 with
    | some w => bif xm_isA w then xm_run call xm_c145 nL mc ms ret Q f (xm_drop 30 xm_c145) lv (w :: st) G E kc ks else false
    | none => false)) := rfl
theorem xz_145_30 : xm_run call xm_c145 nL mc ms ret Q (f + 1) (xm_drop 30 xm_c145) lv st G E kc ks = (bif Nat.beq 139 1006 || Nat.beq 139 1007 then xm_strl 139 st G (fun st => xm_run call xm_c145 nL mc ms ret Q f (xm_drop 31 xm_c145) lv st G E kc ks) else xm_call call mc ms 139 0 st G E kc ks (fun st G E kc ks => xm_run call xm_c145 nL mc ms ret Q f (xm_drop 31 xm_c145) lv st G E kc ks)) := rfl
theorem xz_145_31 : xm_run call xm_c145 nL mc ms ret Q (f + 1) (xm_drop 31 xm_c145) lv st G E kc ks = ((match st with
    | w :: st => bif xm_isI w && Nat.blt 2 nL then xm_run call xm_c145 nL mc ms ret Q f (xm_drop 32 xm_c145) (xm_set1 lv 2 w) st G E kc ks else false
    | _ => false)) := rfl
theorem xz_145_32 : xm_run call xm_c145 nL mc ms ret Q (f + 1) (xm_drop 32 xm_c145) lv st G E kc ks = ((match xm_get lv 2 with
    | some w => bif xm_isI w then xm_run call xm_c145 nL mc ms ret Q f (xm_drop 33 xm_c145) lv (w :: st) G E kc ks else false
    | none => false)) := rfl
theorem xz_145_33 : xm_run call xm_c145 nL mc ms ret Q (f + 1) (xm_drop 33 xm_c145) lv st G E kc ks = ((match st with
    | w :: st => xm_cmpI E w (.int 0) (fun E s => bif xm_holds .ge s then xm_run call xm_c145 nL mc ms ret Q f (xm_drop 39 xm_c145) lv st G E kc ks else xm_run call xm_c145 nL mc ms ret Q f (xm_drop 34 xm_c145) lv st G E kc ks)
    | _ => false)) := rfl
theorem xz_145_34 : xm_run call xm_c145 nL mc ms ret Q (f + 1) (xm_drop 34 xm_c145) lv st G E kc ks = ((match xm_get lv 0 with
    | some w => bif xm_isA w then xm_run call xm_c145 nL mc ms ret Q f (xm_drop 35 xm_c145) lv (w :: st) G E kc ks else false
    | none => false)) := rfl
theorem xz_145_35 : xm_run call xm_c145 nL mc ms ret Q (f + 1) (xm_drop 35 xm_c145) lv st G E kc ks = (xm_run call xm_c145 nL mc ms ret Q f (xm_drop 36 xm_c145) lv ((.int 0) :: st) G E kc ks) := rfl
theorem xz_145_36 : xm_run call xm_c145 nL mc ms ret Q (f + 1) (xm_drop 36 xm_c145) lv st G E kc ks = ((match xm_get lv 1 with
    | some w => bif xm_isI w then xm_run call xm_c145 nL mc ms ret Q f (xm_drop 37 xm_c145) lv (w :: st) G E kc ks else false
    | none => false)) := rfl
theorem xz_145_37 : xm_run call xm_c145 nL mc ms ret Q (f + 1) (xm_drop 37 xm_c145) lv st G E kc ks = (bif Nat.beq 131 1006 || Nat.beq 131 1007 then xm_strl 131 st G (fun st => xm_run call xm_c145 nL mc ms ret Q f (xm_drop 38 xm_c145) lv st G E kc ks) else xm_call call mc ms 131 0 st G E kc ks (fun st G E kc ks => xm_run call xm_c145 nL mc ms ret Q f (xm_drop 38 xm_c145) lv st G E kc ks)) := rfl
theorem xz_145_38 : xm_run call xm_c145 nL mc ms ret Q (f + 1) (xm_drop 38 xm_c145) lv st G E kc ks = ((match st with
    | [w] => bif xm_isI w && (xm_rok ret w && (Nat.ble kc mc && Nat.ble ks ms)) then Q (some w) G E else false
    | _ => false)) := rfl
theorem xz_145_39 : xm_run call xm_c145 nL mc ms ret Q (f + 1) (xm_drop 39 xm_c145) lv st G E kc ks = ((match xm_get lv 0 with
    | some w => bif xm_isA w then xm_run call xm_c145 nL mc ms ret Q f (xm_drop 40 xm_c145) lv (w :: st) G E kc ks else false
    | none => false)) := rfl
theorem xz_145_40 : xm_run call xm_c145 nL mc ms ret Q (f + 1) (xm_drop 40 xm_c145) lv st G E kc ks = ((match xm_get lv 1 with
    | some w => bif xm_isI w then xm_run call xm_c145 nL mc ms ret Q f (xm_drop 41 xm_c145) lv (w :: st) G E kc ks else false
    | none => false)) := rfl
theorem xz_145_41 : xm_run call xm_c145 nL mc ms ret Q (f + 1) (xm_drop 41 xm_c145) lv st G E kc ks = (bif Nat.beq 141 1006 || Nat.beq 141 1007 then xm_strl 141 st G (fun st => xm_run call xm_c145 nL mc ms ret Q f (xm_drop 42 xm_c145) lv st G E kc ks) else xm_call call mc ms 141 0 st G E kc ks (fun st G E kc ks => xm_run call xm_c145 nL mc ms ret Q f (xm_drop 42 xm_c145) lv st G E kc ks)) := rfl
theorem xz_145_42 : xm_run call xm_c145 nL mc ms ret Q (f + 1) (xm_drop 42 xm_c145) lv st G E kc ks = ((match st with
    | w :: st => xm_cmpI E w (.int 0) (fun E s => bif xm_holds .ne s then xm_run call xm_c145 nL mc ms ret Q f (xm_drop 45 xm_c145) lv st G E kc ks else xm_run call xm_c145 nL mc ms ret Q f (xm_drop 43 xm_c145) lv st G E kc ks)
    | _ => false)) := rfl
theorem xz_145_43 : xm_run call xm_c145 nL mc ms ret Q (f + 1) (xm_drop 43 xm_c145) lv st G E kc ks = (xm_run call xm_c145 nL mc ms ret Q f (xm_drop 44 xm_c145) lv ((.int 0) :: st) G E kc ks) := rfl
theorem xz_145_44 : xm_run call xm_c145 nL mc ms ret Q (f + 1) (xm_drop 44 xm_c145) lv st G E kc ks = ((match st with
    | [w] => bif xm_isI w && (xm_rok ret w && (Nat.ble kc mc && Nat.ble ks ms)) then Q (some w) G E else false
    | _ => false)) := rfl
theorem xz_145_45 : xm_run call xm_c145 nL mc ms ret Q (f + 1) (xm_drop 45 xm_c145) lv st G E kc ks = ((match xm_get lv 0 with
    | some w => bif xm_isA w then xm_run call xm_c145 nL mc ms ret Q f (xm_drop 46 xm_c145) lv (w :: st) G E kc ks else false
    | none => false)) := rfl
theorem xz_145_46 : xm_run call xm_c145 nL mc ms ret Q (f + 1) (xm_drop 46 xm_c145) lv st G E kc ks = (bif Nat.beq 136 1006 || Nat.beq 136 1007 then xm_strl 136 st G (fun st => xm_run call xm_c145 nL mc ms ret Q f (xm_drop 47 xm_c145) lv st G E kc ks) else xm_call call mc ms 136 0 st G E kc ks (fun st G E kc ks => xm_run call xm_c145 nL mc ms ret Q f (xm_drop 47 xm_c145) lv st G E kc ks)) := rfl
theorem xz_145_47 : xm_run call xm_c145 nL mc ms ret Q (f + 1) (xm_drop 47 xm_c145) lv st G E kc ks = ((match xm_get lv 0 with
    | some w => bif xm_isA w then xm_run call xm_c145 nL mc ms ret Q f (xm_drop 48 xm_c145) lv (w :: st) G E kc ks else false
    | none => false)) := rfl
theorem xz_145_48 : xm_run call xm_c145 nL mc ms ret Q (f + 1) (xm_drop 48 xm_c145) lv st G E kc ks = (xm_run call xm_c145 nL mc ms ret Q f (xm_drop 49 xm_c145) lv ((.int 1) :: st) G E kc ks) := rfl
theorem xz_145_49 : xm_run call xm_c145 nL mc ms ret Q (f + 1) (xm_drop 49 xm_c145) lv st G E kc ks = ((match xm_get lv 2 with
    | some w => bif xm_isI w then xm_run call xm_c145 nL mc ms ret Q f (xm_drop 50 xm_c145) lv (w :: st) G E kc ks else false
    | none => false)) := rfl
theorem xz_145_50 : xm_run call xm_c145 nL mc ms ret Q (f + 1) (xm_drop 50 xm_c145) lv st G E kc ks = (bif Nat.beq 140 1006 || Nat.beq 140 1007 then xm_strl 140 st G (fun st => xm_run call xm_c145 nL mc ms ret Q f (xm_drop 51 xm_c145) lv st G E kc ks) else xm_call call mc ms 140 0 st G E kc ks (fun st G E kc ks => xm_run call xm_c145 nL mc ms ret Q f (xm_drop 51 xm_c145) lv st G E kc ks)) := rfl
theorem xz_145_51 : xm_run call xm_c145 nL mc ms ret Q (f + 1) (xm_drop 51 xm_c145) lv st G E kc ks = (xm_run call xm_c145 nL mc ms ret Q f (xm_drop 52 xm_c145) lv ((.int 1) :: st) G E kc ks) := rfl
theorem xz_145_52 : xm_run call xm_c145 nL mc ms ret Q (f + 1) (xm_drop 52 xm_c145) lv st G E kc ks = ((match st with
    | [w] => bif xm_isI w && (xm_rok ret w && (Nat.ble kc mc && Nat.ble ks ms)) then Q (some w) G E else false
    | _ => false)) := rfl
theorem xz_146_0 : xm_run call xm_c146 nL mc ms ret Q (f + 1) (xm_drop 0 xm_c146) lv st G E kc ks = ((match xm_get lv 0 with
    | some w => bif xm_isA w then xm_run call xm_c146 nL mc ms ret Q f (xm_drop 1 xm_c146) lv (w :: st) G E kc ks else false
    | none => false)) := rfl
theorem xz_146_1 : xm_run call xm_c146 nL mc ms ret Q (f + 1) (xm_drop 1 xm_c146) lv st G E kc ks = (bif Nat.beq 145 1006 || Nat.beq 145 1007 then xm_strl 145 st G (fun st => xm_run call xm_c146 nL mc ms ret Q f (xm_drop 2 xm_c146) lv st G E kc ks) else xm_call call mc ms 145 0 st G E kc ks (fun st G E kc ks => xm_run call xm_c146 nL mc ms ret Q f (xm_drop 2 xm_c146) lv st G E kc ks)) := rfl
theorem xz_146_2 : xm_run call xm_c146 nL mc ms ret Q (f + 1) (xm_drop 2 xm_c146) lv st G E kc ks = ((match st with
    | w :: st => xm_cmpI E w (.int 0) (fun E s => bif xm_holds .ne s then xm_run call xm_c146 nL mc ms ret Q f (xm_drop 5 xm_c146) lv st G E kc ks else xm_run call xm_c146 nL mc ms ret Q f (xm_drop 3 xm_c146) lv st G E kc ks)
    | _ => false)) := rfl
theorem xz_146_3 : xm_run call xm_c146 nL mc ms ret Q (f + 1) (xm_drop 3 xm_c146) lv st G E kc ks = (xm_run call xm_c146 nL mc ms ret Q f (xm_drop 4 xm_c146) lv ((.int 0) :: st) G E kc ks) := rfl
theorem xz_146_4 : xm_run call xm_c146 nL mc ms ret Q (f + 1) (xm_drop 4 xm_c146) lv st G E kc ks = ((match st with
    | [w] => bif xm_isI w && (xm_rok ret w && (Nat.ble kc mc && Nat.ble ks ms)) then Q (some w) G E else false
    | _ => false)) := rfl
theorem xz_146_5 : xm_run call xm_c146 nL mc ms ret Q (f + 1) (xm_drop 5 xm_c146) lv st G E kc ks = ((match xm_get lv 0 with
    | some w => bif xm_isA w then xm_run call xm_c146 nL mc ms ret Q f (xm_drop 6 xm_c146) lv (w :: st) G E kc ks else false
    | none => false)) := rfl
theorem xz_146_6 : xm_run call xm_c146 nL mc ms ret Q (f + 1) (xm_drop 6 xm_c146) lv st G E kc ks = (bif Nat.beq 132 1006 || Nat.beq 132 1007 then xm_strl 132 st G (fun st => xm_run call xm_c146 nL mc ms ret Q f (xm_drop 7 xm_c146) lv st G E kc ks) else xm_call call mc ms 132 0 st G E kc ks (fun st G E kc ks => xm_run call xm_c146 nL mc ms ret Q f (xm_drop 7 xm_c146) lv st G E kc ks)) := rfl
theorem xz_146_7 : xm_run call xm_c146 nL mc ms ret Q (f + 1) (xm_drop 7 xm_c146) lv st G E kc ks = (xm_run call xm_c146 nL mc ms ret Q f (xm_drop 8 xm_c146) lv ((.int 42) :: st) G E kc ks) := rfl
theorem xz_146_8 : xm_run call xm_c146 nL mc ms ret Q (f + 1) (xm_drop 8 xm_c146) lv st G E kc ks = ((match st with
    | w :: u :: st => xm_cmpI E u w (fun E s => bif xm_holds .eq s then xm_run call xm_c146 nL mc ms ret Q f (xm_drop 17 xm_c146) lv st G E kc ks else xm_run call xm_c146 nL mc ms ret Q f (xm_drop 9 xm_c146) lv st G E kc ks)
    | _ => false)) := rfl
theorem xz_146_9 : xm_run call xm_c146 nL mc ms ret Q (f + 1) (xm_drop 9 xm_c146) lv st G E kc ks = ((match xm_get lv 0 with
    | some w => bif xm_isA w then xm_run call xm_c146 nL mc ms ret Q f (xm_drop 10 xm_c146) lv (w :: st) G E kc ks else false
    | none => false)) := rfl
theorem xz_146_10 : xm_run call xm_c146 nL mc ms ret Q (f + 1) (xm_drop 10 xm_c146) lv st G E kc ks = (bif Nat.beq 132 1006 || Nat.beq 132 1007 then xm_strl 132 st G (fun st => xm_run call xm_c146 nL mc ms ret Q f (xm_drop 11 xm_c146) lv st G E kc ks) else xm_call call mc ms 132 0 st G E kc ks (fun st G E kc ks => xm_run call xm_c146 nL mc ms ret Q f (xm_drop 11 xm_c146) lv st G E kc ks)) := rfl
theorem xz_146_11 : xm_run call xm_c146 nL mc ms ret Q (f + 1) (xm_drop 11 xm_c146) lv st G E kc ks = (xm_run call xm_c146 nL mc ms ret Q f (xm_drop 12 xm_c146) lv ((.int 47) :: st) G E kc ks) := rfl
theorem xz_146_12 : xm_run call xm_c146 nL mc ms ret Q (f + 1) (xm_drop 12 xm_c146) lv st G E kc ks = ((match st with
    | w :: u :: st => xm_cmpI E u w (fun E s => bif xm_holds .eq s then xm_run call xm_c146 nL mc ms ret Q f (xm_drop 17 xm_c146) lv st G E kc ks else xm_run call xm_c146 nL mc ms ret Q f (xm_drop 13 xm_c146) lv st G E kc ks)
    | _ => false)) := rfl
theorem xz_146_13 : xm_run call xm_c146 nL mc ms ret Q (f + 1) (xm_drop 13 xm_c146) lv st G E kc ks = ((match xm_get lv 0 with
    | some w => bif xm_isA w then xm_run call xm_c146 nL mc ms ret Q f (xm_drop 14 xm_c146) lv (w :: st) G E kc ks else false
    | none => false)) := rfl
theorem xz_146_14 : xm_run call xm_c146 nL mc ms ret Q (f + 1) (xm_drop 14 xm_c146) lv st G E kc ks = (bif Nat.beq 132 1006 || Nat.beq 132 1007 then xm_strl 132 st G (fun st => xm_run call xm_c146 nL mc ms ret Q f (xm_drop 15 xm_c146) lv st G E kc ks) else xm_call call mc ms 132 0 st G E kc ks (fun st G E kc ks => xm_run call xm_c146 nL mc ms ret Q f (xm_drop 15 xm_c146) lv st G E kc ks)) := rfl
theorem xz_146_15 : xm_run call xm_c146 nL mc ms ret Q (f + 1) (xm_drop 15 xm_c146) lv st G E kc ks = (xm_run call xm_c146 nL mc ms ret Q f (xm_drop 16 xm_c146) lv ((.int 37) :: st) G E kc ks) := rfl
theorem xz_146_16 : xm_run call xm_c146 nL mc ms ret Q (f + 1) (xm_drop 16 xm_c146) lv st G E kc ks = ((match st with
    | w :: u :: st => xm_cmpI E u w (fun E s => bif xm_holds .ne s then xm_run call xm_c146 nL mc ms ret Q f (xm_drop 53 xm_c146) lv st G E kc ks else xm_run call xm_c146 nL mc ms ret Q f (xm_drop 17 xm_c146) lv st G E kc ks)
    | _ => false)) := rfl
theorem xz_146_17 : xm_run call xm_c146 nL mc ms ret Q (f + 1) (xm_drop 17 xm_c146) lv st G E kc ks = ((match xm_get lv 0 with
    | some w => bif xm_isA w then xm_run call xm_c146 nL mc ms ret Q f (xm_drop 18 xm_c146) lv (w :: st) G E kc ks else false
    | none => false)) := rfl
theorem xz_146_18 : xm_run call xm_c146 nL mc ms ret Q (f + 1) (xm_drop 18 xm_c146) lv st G E kc ks = (xm_getf 11 0 st G (fun st => xm_run call xm_c146 nL mc ms ret Q f (xm_drop 19 xm_c146) lv st G E kc ks)) := rfl
theorem xz_146_19 : xm_run call xm_c146 nL mc ms ret Q (f + 1) (xm_drop 19 xm_c146) lv st G E kc ks = ((match xm_get lv 0 with
    | some w => bif xm_isA w then xm_run call xm_c146 nL mc ms ret Q f (xm_drop 20 xm_c146) lv (w :: st) G E kc ks else false
    | none => false)) := rfl
theorem xz_146_20 : xm_run call xm_c146 nL mc ms ret Q (f + 1) (xm_drop 20 xm_c146) lv st G E kc ks = (xm_getf 11 8 st G (fun st => xm_run call xm_c146 nL mc ms ret Q f (xm_drop 21 xm_c146) lv st G E kc ks)) := rfl
theorem xz_146_21 : xm_run call xm_c146 nL mc ms ret Q (f + 1) (xm_drop 21 xm_c146) lv st G E kc ks = (xm_bald st G E (fun st E => xm_run call xm_c146 nL mc ms ret Q f (xm_drop 22 xm_c146) lv st G E kc ks)) := rfl
theorem xz_146_22 : xm_run call xm_c146 nL mc ms ret Q (f + 1) (xm_drop 22 xm_c146) lv st G E kc ks = (xm_run call xm_c146 nL mc ms ret Q f (xm_drop 23 xm_c146) lv ((.int 42) :: st) G E kc ks) := rfl
theorem xz_146_23 : xm_run call xm_c146 nL mc ms ret Q (f + 1) (xm_drop 23 xm_c146) lv st G E kc ks = ((match st with
    | w :: u :: st => xm_cmpI E u w (fun E s => bif xm_holds .ne s then xm_run call xm_c146 nL mc ms ret Q f (xm_drop 26 xm_c146) lv st G E kc ks else xm_run call xm_c146 nL mc ms ret Q f (xm_drop 24 xm_c146) lv st G E kc ks)
    | _ => false)) := rfl
theorem xz_146_24 : xm_run call xm_c146 nL mc ms ret Q (f + 1) (xm_drop 24 xm_c146) lv st G E kc ks = (xm_run call xm_c146 nL mc ms ret Q f (xm_drop 25 xm_c146) lv ((.int 4) :: st) G E kc ks) := rfl
theorem xz_146_25 : xm_run call xm_c146 nL mc ms ret Q (f + 1) (xm_drop 25 xm_c146) lv st G E kc ks = (xm_run call xm_c146 nL mc ms ret Q f (xm_drop 36 xm_c146) lv st G E kc ks) := rfl
theorem xz_146_26 : xm_run call xm_c146 nL mc ms ret Q (f + 1) (xm_drop 26 xm_c146) lv st G E kc ks = ((match xm_get lv 0 with
    | some w => bif xm_isA w then xm_run call xm_c146 nL mc ms ret Q f (xm_drop 27 xm_c146) lv (w :: st) G E kc ks else false
    | none => false)) := rfl
theorem xz_146_27 : xm_run call xm_c146 nL mc ms ret Q (f + 1) (xm_drop 27 xm_c146) lv st G E kc ks = (xm_getf 11 0 st G (fun st => xm_run call xm_c146 nL mc ms ret Q f (xm_drop 28 xm_c146) lv st G E kc ks)) := rfl
theorem xz_146_28 : xm_run call xm_c146 nL mc ms ret Q (f + 1) (xm_drop 28 xm_c146) lv st G E kc ks = ((match xm_get lv 0 with
    | some w => bif xm_isA w then xm_run call xm_c146 nL mc ms ret Q f (xm_drop 29 xm_c146) lv (w :: st) G E kc ks else false
    | none => false)) := rfl
theorem xz_146_29 : xm_run call xm_c146 nL mc ms ret Q (f + 1) (xm_drop 29 xm_c146) lv st G E kc ks = (xm_getf 11 8 st G (fun st => xm_run call xm_c146 nL mc ms ret Q f (xm_drop 30 xm_c146) lv st G E kc ks)) := rfl
theorem xz_146_30 : xm_run call xm_c146 nL mc ms ret Q (f + 1) (xm_drop 30 xm_c146) lv st G E kc ks = (xm_bald st G E (fun st E => xm_run call xm_c146 nL mc ms ret Q f (xm_drop 31 xm_c146) lv st G E kc ks)) := rfl
theorem xz_146_31 : xm_run call xm_c146 nL mc ms ret Q (f + 1) (xm_drop 31 xm_c146) lv st G E kc ks = (xm_run call xm_c146 nL mc ms ret Q f (xm_drop 32 xm_c146) lv ((.int 47) :: st) G E kc ks) := rfl
theorem xz_146_32 : xm_run call xm_c146 nL mc ms ret Q (f + 1) (xm_drop 32 xm_c146) lv st G E kc ks = ((match st with
    | w :: u :: st => xm_cmpI E u w (fun E s => bif xm_holds .ne s then xm_run call xm_c146 nL mc ms ret Q f (xm_drop 35 xm_c146) lv st G E kc ks else xm_run call xm_c146 nL mc ms ret Q f (xm_drop 33 xm_c146) lv st G E kc ks)
    | _ => false)) := rfl
theorem xz_146_33 : xm_run call xm_c146 nL mc ms ret Q (f + 1) (xm_drop 33 xm_c146) lv st G E kc ks = (xm_run call xm_c146 nL mc ms ret Q f (xm_drop 34 xm_c146) lv ((.int 5) :: st) G E kc ks) := rfl
theorem xz_146_34 : xm_run call xm_c146 nL mc ms ret Q (f + 1) (xm_drop 34 xm_c146) lv st G E kc ks = (xm_run call xm_c146 nL mc ms ret Q f (xm_drop 36 xm_c146) lv st G E kc ks) := rfl
theorem xz_146_35 : xm_run call xm_c146 nL mc ms ret Q (f + 1) (xm_drop 35 xm_c146) lv st G E kc ks = (xm_run call xm_c146 nL mc ms ret Q f (xm_drop 36 xm_c146) lv ((.int 14) :: st) G E kc ks) := rfl
theorem xz_146_36 : xm_run call xm_c146 nL mc ms ret Q (f + 1) (xm_drop 36 xm_c146) lv st G E kc ks = ((match st with
    | w :: st => bif xm_isI w && Nat.blt 1 nL then xm_run call xm_c146 nL mc ms ret Q f (xm_drop 37 xm_c146) (xm_set1 lv 1 w) st G E kc ks else false
    | _ => false)) := rfl
theorem xz_146_37 : xm_run call xm_c146 nL mc ms ret Q (f + 1) (xm_drop 37 xm_c146) lv st G E kc ks = ((match xm_get lv 0 with
    | some w => bif xm_isA w then xm_run call xm_c146 nL mc ms ret Q f (xm_drop 38 xm_c146) lv (w :: st) G E kc ks else false
    | none => false)) := rfl
theorem xz_146_38 : xm_run call xm_c146 nL mc ms ret Q (f + 1) (xm_drop 38 xm_c146) lv st G E kc ks = ((match st with
    | w :: st => bif xm_cat1 w then xm_run call xm_c146 nL mc ms ret Q f (xm_drop 39 xm_c146) lv (w :: w :: st) G E kc ks else false
    | _ => false)) := rfl
theorem xz_146_39 : xm_run call xm_c146 nL mc ms ret Q (f + 1) (xm_drop 39 xm_c146) lv st G E kc ks = (xm_getf 11 8 st G (fun st => xm_run call xm_c146 nL mc ms ret Q f (xm_drop 40 xm_c146) lv st G E kc ks)) := rfl
theorem xz_146_40 : xm_run call xm_c146 nL mc ms ret Q (f + 1) (xm_drop 40 xm_c146) lv st G E kc ks = (xm_run call xm_c146 nL mc ms ret Q f (xm_drop 41 xm_c146) lv ((.int 1) :: st) G E kc ks) := rfl
theorem xz_146_41 : xm_run call xm_c146 nL mc ms ret Q (f + 1) (xm_drop 41 xm_c146) lv st G E kc ks = (xm_int2 .iadd st E (fun st E => xm_run call xm_c146 nL mc ms ret Q f (xm_drop 42 xm_c146) lv st G E kc ks)) := rfl
theorem xz_146_42 : xm_run call xm_c146 nL mc ms ret Q (f + 1) (xm_drop 42 xm_c146) lv st G E kc ks = (xm_putf 11 8 st G (fun st G => xm_run call xm_c146 nL mc ms ret Q f (xm_drop 43 xm_c146) lv st G E kc ks)) := rfl
theorem xz_146_43 : xm_run call xm_c146 nL mc ms ret Q (f + 1) (xm_drop 43 xm_c146) lv st G E kc ks = ((match xm_get lv 0 with
    | some w => bif xm_isA w then xm_run call xm_c146 nL mc ms ret Q f (xm_drop 44 xm_c146) lv (w :: st) G E kc ks else false
    | none => false)) := rfl
theorem xz_146_44 : xm_run call xm_c146 nL mc ms ret Q (f + 1) (xm_drop 44 xm_c146) lv st G E kc ks = (bif Nat.beq 145 1006 || Nat.beq 145 1007 then xm_strl 145 st G (fun st => xm_run call xm_c146 nL mc ms ret Q f (xm_drop 45 xm_c146) lv st G E kc ks) else xm_call call mc ms 145 0 st G E kc ks (fun st G E kc ks => xm_run call xm_c146 nL mc ms ret Q f (xm_drop 45 xm_c146) lv st G E kc ks)) := rfl
theorem xz_146_45 : xm_run call xm_c146 nL mc ms ret Q (f + 1) (xm_drop 45 xm_c146) lv st G E kc ks = ((match st with
    | w :: st => xm_cmpI E w (.int 0) (fun E s => bif xm_holds .ne s then xm_run call xm_c146 nL mc ms ret Q f (xm_drop 48 xm_c146) lv st G E kc ks else xm_run call xm_c146 nL mc ms ret Q f (xm_drop 46 xm_c146) lv st G E kc ks)
    | _ => false)) := rfl
theorem xz_146_46 : xm_run call xm_c146 nL mc ms ret Q (f + 1) (xm_drop 46 xm_c146) lv st G E kc ks = (xm_run call xm_c146 nL mc ms ret Q f (xm_drop 47 xm_c146) lv ((.int 0) :: st) G E kc ks) := rfl
theorem xz_146_47 : xm_run call xm_c146 nL mc ms ret Q (f + 1) (xm_drop 47 xm_c146) lv st G E kc ks = ((match st with
    | [w] => bif xm_isI w && (xm_rok ret w && (Nat.ble kc mc && Nat.ble ks ms)) then Q (some w) G E else false
    | _ => false)) := rfl
theorem xz_146_48 : xm_run call xm_c146 nL mc ms ret Q (f + 1) (xm_drop 48 xm_c146) lv st G E kc ks = ((match xm_get lv 0 with
    | some w => bif xm_isA w then xm_run call xm_c146 nL mc ms ret Q f (xm_drop 49 xm_c146) lv (w :: st) G E kc ks else false
    | none => false)) := rfl
theorem xz_146_49 : xm_run call xm_c146 nL mc ms ret Q (f + 1) (xm_drop 49 xm_c146) lv st G E kc ks = ((match xm_get lv 1 with
    | some w => bif xm_isI w then xm_run call xm_c146 nL mc ms ret Q f (xm_drop 50 xm_c146) lv (w :: st) G E kc ks else false
    | none => false)) := rfl
theorem xz_146_50 : xm_run call xm_c146 nL mc ms ret Q (f + 1) (xm_drop 50 xm_c146) lv st G E kc ks = (xm_run call xm_c146 nL mc ms ret Q f (xm_drop 51 xm_c146) lv ((.int 0) :: st) G E kc ks) := rfl
theorem xz_146_51 : xm_run call xm_c146 nL mc ms ret Q (f + 1) (xm_drop 51 xm_c146) lv st G E kc ks = (bif Nat.beq 140 1006 || Nat.beq 140 1007 then xm_strl 140 st G (fun st => xm_run call xm_c146 nL mc ms ret Q f (xm_drop 52 xm_c146) lv st G E kc ks) else xm_call call mc ms 140 0 st G E kc ks (fun st G E kc ks => xm_run call xm_c146 nL mc ms ret Q f (xm_drop 52 xm_c146) lv st G E kc ks)) := rfl
theorem xz_146_52 : xm_run call xm_c146 nL mc ms ret Q (f + 1) (xm_drop 52 xm_c146) lv st G E kc ks = (xm_run call xm_c146 nL mc ms ret Q f (xm_drop 5 xm_c146) lv st G E kc ks) := rfl
theorem xz_146_53 : xm_run call xm_c146 nL mc ms ret Q (f + 1) (xm_drop 53 xm_c146) lv st G E kc ks = (xm_run call xm_c146 nL mc ms ret Q f (xm_drop 54 xm_c146) lv ((.int 1) :: st) G E kc ks) := rfl
theorem xz_146_54 : xm_run call xm_c146 nL mc ms ret Q (f + 1) (xm_drop 54 xm_c146) lv st G E kc ks = ((match st with
    | [w] => bif xm_isI w && (xm_rok ret w && (Nat.ble kc mc && Nat.ble ks ms)) then Q (some w) G E else false
    | _ => false)) := rfl
theorem xz_147_0 : xm_run call xm_c147 nL mc ms ret Q (f + 1) (xm_drop 0 xm_c147) lv st G E kc ks = ((match xm_get lv 0 with
    | some w => bif xm_isA w then xm_run call xm_c147 nL mc ms ret Q f (xm_drop 1 xm_c147) lv (w :: st) G E kc ks else false
    | none => false)) := rfl
theorem xz_147_1 : xm_run call xm_c147 nL mc ms ret Q (f + 1) (xm_drop 1 xm_c147) lv st G E kc ks = (bif Nat.beq 146 1006 || Nat.beq 146 1007 then xm_strl 146 st G (fun st => xm_run call xm_c147 nL mc ms ret Q f (xm_drop 2 xm_c147) lv st G E kc ks) else xm_call call mc ms 146 0 st G E kc ks (fun st G E kc ks => xm_run call xm_c147 nL mc ms ret Q f (xm_drop 2 xm_c147) lv st G E kc ks)) := rfl
theorem xz_147_2 : xm_run call xm_c147 nL mc ms ret Q (f + 1) (xm_drop 2 xm_c147) lv st G E kc ks = ((match st with
    | w :: st => xm_cmpI E w (.int 0) (fun E s => bif xm_holds .ne s then xm_run call xm_c147 nL mc ms ret Q f (xm_drop 5 xm_c147) lv st G E kc ks else xm_run call xm_c147 nL mc ms ret Q f (xm_drop 3 xm_c147) lv st G E kc ks)
    | _ => false)) := rfl
theorem xz_147_3 : xm_run call xm_c147 nL mc ms ret Q (f + 1) (xm_drop 3 xm_c147) lv st G E kc ks = (xm_run call xm_c147 nL mc ms ret Q f (xm_drop 4 xm_c147) lv ((.int 0) :: st) G E kc ks) := rfl
theorem xz_147_4 : xm_run call xm_c147 nL mc ms ret Q (f + 1) (xm_drop 4 xm_c147) lv st G E kc ks = ((match st with
    | [w] => bif xm_isI w && (xm_rok ret w && (Nat.ble kc mc && Nat.ble ks ms)) then Q (some w) G E else false
    | _ => false)) := rfl
theorem xz_147_5 : xm_run call xm_c147 nL mc ms ret Q (f + 1) (xm_drop 5 xm_c147) lv st G E kc ks = ((match xm_get lv 0 with
    | some w => bif xm_isA w then xm_run call xm_c147 nL mc ms ret Q f (xm_drop 6 xm_c147) lv (w :: st) G E kc ks else false
    | none => false)) := rfl
theorem xz_147_6 : xm_run call xm_c147 nL mc ms ret Q (f + 1) (xm_drop 6 xm_c147) lv st G E kc ks = (bif Nat.beq 132 1006 || Nat.beq 132 1007 then xm_strl 132 st G (fun st => xm_run call xm_c147 nL mc ms ret Q f (xm_drop 7 xm_c147) lv st G E kc ks) else xm_call call mc ms 132 0 st G E kc ks (fun st G E kc ks => xm_run call xm_c147 nL mc ms ret Q f (xm_drop 7 xm_c147) lv st G E kc ks)) := rfl
theorem xz_147_7 : xm_run call xm_c147 nL mc ms ret Q (f + 1) (xm_drop 7 xm_c147) lv st G E kc ks = (xm_run call xm_c147 nL mc ms ret Q f (xm_drop 8 xm_c147) lv ((.int 43) :: st) G E kc ks) := rfl
theorem xz_147_8 : xm_run call xm_c147 nL mc ms ret Q (f + 1) (xm_drop 8 xm_c147) lv st G E kc ks = ((match st with
    | w :: u :: st => xm_cmpI E u w (fun E s => bif xm_holds .eq s then xm_run call xm_c147 nL mc ms ret Q f (xm_drop 13 xm_c147) lv st G E kc ks else xm_run call xm_c147 nL mc ms ret Q f (xm_drop 9 xm_c147) lv st G E kc ks)
    | _ => false)) := rfl
theorem xz_147_9 : xm_run call xm_c147 nL mc ms ret Q (f + 1) (xm_drop 9 xm_c147) lv st G E kc ks = ((match xm_get lv 0 with
    | some w => bif xm_isA w then xm_run call xm_c147 nL mc ms ret Q f (xm_drop 10 xm_c147) lv (w :: st) G E kc ks else false
    | none => false)) := rfl
theorem xz_147_10 : xm_run call xm_c147 nL mc ms ret Q (f + 1) (xm_drop 10 xm_c147) lv st G E kc ks = (bif Nat.beq 132 1006 || Nat.beq 132 1007 then xm_strl 132 st G (fun st => xm_run call xm_c147 nL mc ms ret Q f (xm_drop 11 xm_c147) lv st G E kc ks) else xm_call call mc ms 132 0 st G E kc ks (fun st G E kc ks => xm_run call xm_c147 nL mc ms ret Q f (xm_drop 11 xm_c147) lv st G E kc ks)) := rfl
theorem xz_147_11 : xm_run call xm_c147 nL mc ms ret Q (f + 1) (xm_drop 11 xm_c147) lv st G E kc ks = (xm_run call xm_c147 nL mc ms ret Q f (xm_drop 12 xm_c147) lv ((.int 45) :: st) G E kc ks) := rfl
theorem xz_147_12 : xm_run call xm_c147 nL mc ms ret Q (f + 1) (xm_drop 12 xm_c147) lv st G E kc ks = ((match st with
    | w :: u :: st => xm_cmpI E u w (fun E s => bif xm_holds .ne s then xm_run call xm_c147 nL mc ms ret Q f (xm_drop 40 xm_c147) lv st G E kc ks else xm_run call xm_c147 nL mc ms ret Q f (xm_drop 13 xm_c147) lv st G E kc ks)
    | _ => false)) := rfl
theorem xz_147_13 : xm_run call xm_c147 nL mc ms ret Q (f + 1) (xm_drop 13 xm_c147) lv st G E kc ks = ((match xm_get lv 0 with
    | some w => bif xm_isA w then xm_run call xm_c147 nL mc ms ret Q f (xm_drop 14 xm_c147) lv (w :: st) G E kc ks else false
    | none => false)) := rfl
theorem xz_147_14 : xm_run call xm_c147 nL mc ms ret Q (f + 1) (xm_drop 14 xm_c147) lv st G E kc ks = (xm_getf 11 0 st G (fun st => xm_run call xm_c147 nL mc ms ret Q f (xm_drop 15 xm_c147) lv st G E kc ks)) := rfl
theorem xz_147_15 : xm_run call xm_c147 nL mc ms ret Q (f + 1) (xm_drop 15 xm_c147) lv st G E kc ks = ((match xm_get lv 0 with
    | some w => bif xm_isA w then xm_run call xm_c147 nL mc ms ret Q f (xm_drop 16 xm_c147) lv (w :: st) G E kc ks else false
    | none => false)) := rfl
theorem xz_147_16 : xm_run call xm_c147 nL mc ms ret Q (f + 1) (xm_drop 16 xm_c147) lv st G E kc ks = (xm_getf 11 8 st G (fun st => xm_run call xm_c147 nL mc ms ret Q f (xm_drop 17 xm_c147) lv st G E kc ks)) := rfl
theorem xz_147_17 : xm_run call xm_c147 nL mc ms ret Q (f + 1) (xm_drop 17 xm_c147) lv st G E kc ks = (xm_bald st G E (fun st E => xm_run call xm_c147 nL mc ms ret Q f (xm_drop 18 xm_c147) lv st G E kc ks)) := rfl
theorem xz_147_18 : xm_run call xm_c147 nL mc ms ret Q (f + 1) (xm_drop 18 xm_c147) lv st G E kc ks = (xm_run call xm_c147 nL mc ms ret Q f (xm_drop 19 xm_c147) lv ((.int 43) :: st) G E kc ks) := rfl
theorem xz_147_19 : xm_run call xm_c147 nL mc ms ret Q (f + 1) (xm_drop 19 xm_c147) lv st G E kc ks = ((match st with
    | w :: u :: st => xm_cmpI E u w (fun E s => bif xm_holds .ne s then xm_run call xm_c147 nL mc ms ret Q f (xm_drop 22 xm_c147) lv st G E kc ks else xm_run call xm_c147 nL mc ms ret Q f (xm_drop 20 xm_c147) lv st G E kc ks)
    | _ => false)) := rfl
theorem xz_147_20 : xm_run call xm_c147 nL mc ms ret Q (f + 1) (xm_drop 20 xm_c147) lv st G E kc ks = (xm_run call xm_c147 nL mc ms ret Q f (xm_drop 21 xm_c147) lv ((.int 2) :: st) G E kc ks) := rfl
theorem xz_147_21 : xm_run call xm_c147 nL mc ms ret Q (f + 1) (xm_drop 21 xm_c147) lv st G E kc ks = (xm_run call xm_c147 nL mc ms ret Q f (xm_drop 23 xm_c147) lv st G E kc ks) := rfl
theorem xz_147_22 : xm_run call xm_c147 nL mc ms ret Q (f + 1) (xm_drop 22 xm_c147) lv st G E kc ks = (xm_run call xm_c147 nL mc ms ret Q f (xm_drop 23 xm_c147) lv ((.int 3) :: st) G E kc ks) := rfl
theorem xz_147_23 : xm_run call xm_c147 nL mc ms ret Q (f + 1) (xm_drop 23 xm_c147) lv st G E kc ks = ((match st with
    | w :: st => bif xm_isI w && Nat.blt 1 nL then xm_run call xm_c147 nL mc ms ret Q f (xm_drop 24 xm_c147) (xm_set1 lv 1 w) st G E kc ks else false
    | _ => false)) := rfl
theorem xz_147_24 : xm_run call xm_c147 nL mc ms ret Q (f + 1) (xm_drop 24 xm_c147) lv st G E kc ks = ((match xm_get lv 0 with
    | some w => bif xm_isA w then xm_run call xm_c147 nL mc ms ret Q f (xm_drop 25 xm_c147) lv (w :: st) G E kc ks else false
    | none => false)) := rfl
theorem xz_147_25 : xm_run call xm_c147 nL mc ms ret Q (f + 1) (xm_drop 25 xm_c147) lv st G E kc ks = ((match st with
    | w :: st => bif xm_cat1 w then xm_run call xm_c147 nL mc ms ret Q f (xm_drop 26 xm_c147) lv (w :: w :: st) G E kc ks else false
    | _ => false)) := rfl
theorem xz_147_26 : xm_run call xm_c147 nL mc ms ret Q (f + 1) (xm_drop 26 xm_c147) lv st G E kc ks = (xm_getf 11 8 st G (fun st => xm_run call xm_c147 nL mc ms ret Q f (xm_drop 27 xm_c147) lv st G E kc ks)) := rfl
theorem xz_147_27 : xm_run call xm_c147 nL mc ms ret Q (f + 1) (xm_drop 27 xm_c147) lv st G E kc ks = (xm_run call xm_c147 nL mc ms ret Q f (xm_drop 28 xm_c147) lv ((.int 1) :: st) G E kc ks) := rfl
theorem xz_147_28 : xm_run call xm_c147 nL mc ms ret Q (f + 1) (xm_drop 28 xm_c147) lv st G E kc ks = (xm_int2 .iadd st E (fun st E => xm_run call xm_c147 nL mc ms ret Q f (xm_drop 29 xm_c147) lv st G E kc ks)) := rfl
theorem xz_147_29 : xm_run call xm_c147 nL mc ms ret Q (f + 1) (xm_drop 29 xm_c147) lv st G E kc ks = (xm_putf 11 8 st G (fun st G => xm_run call xm_c147 nL mc ms ret Q f (xm_drop 30 xm_c147) lv st G E kc ks)) := rfl
theorem xz_147_30 : xm_run call xm_c147 nL mc ms ret Q (f + 1) (xm_drop 30 xm_c147) lv st G E kc ks = ((match xm_get lv 0 with
    | some w => bif xm_isA w then xm_run call xm_c147 nL mc ms ret Q f (xm_drop 31 xm_c147) lv (w :: st) G E kc ks else false
    | none => false)) := rfl
theorem xz_147_31 : xm_run call xm_c147 nL mc ms ret Q (f + 1) (xm_drop 31 xm_c147) lv st G E kc ks = (bif Nat.beq 146 1006 || Nat.beq 146 1007 then xm_strl 146 st G (fun st => xm_run call xm_c147 nL mc ms ret Q f (xm_drop 32 xm_c147) lv st G E kc ks) else xm_call call mc ms 146 0 st G E kc ks (fun st G E kc ks => xm_run call xm_c147 nL mc ms ret Q f (xm_drop 32 xm_c147) lv st G E kc ks)) := rfl
theorem xz_147_32 : xm_run call xm_c147 nL mc ms ret Q (f + 1) (xm_drop 32 xm_c147) lv st G E kc ks = ((match st with
    | w :: st => xm_cmpI E w (.int 0) (fun E s => bif xm_holds .ne s then xm_run call xm_c147 nL mc ms ret Q f (xm_drop 35 xm_c147) lv st G E kc ks else xm_run call xm_c147 nL mc ms ret Q f (xm_drop 33 xm_c147) lv st G E kc ks)
    | _ => false)) := rfl
theorem xz_147_33 : xm_run call xm_c147 nL mc ms ret Q (f + 1) (xm_drop 33 xm_c147) lv st G E kc ks = (xm_run call xm_c147 nL mc ms ret Q f (xm_drop 34 xm_c147) lv ((.int 0) :: st) G E kc ks) := rfl
theorem xz_147_34 : xm_run call xm_c147 nL mc ms ret Q (f + 1) (xm_drop 34 xm_c147) lv st G E kc ks = ((match st with
    | [w] => bif xm_isI w && (xm_rok ret w && (Nat.ble kc mc && Nat.ble ks ms)) then Q (some w) G E else false
    | _ => false)) := rfl
theorem xz_147_35 : xm_run call xm_c147 nL mc ms ret Q (f + 1) (xm_drop 35 xm_c147) lv st G E kc ks = ((match xm_get lv 0 with
    | some w => bif xm_isA w then xm_run call xm_c147 nL mc ms ret Q f (xm_drop 36 xm_c147) lv (w :: st) G E kc ks else false
    | none => false)) := rfl
theorem xz_147_36 : xm_run call xm_c147 nL mc ms ret Q (f + 1) (xm_drop 36 xm_c147) lv st G E kc ks = ((match xm_get lv 1 with
    | some w => bif xm_isI w then xm_run call xm_c147 nL mc ms ret Q f (xm_drop 37 xm_c147) lv (w :: st) G E kc ks else false
    | none => false)) := rfl
theorem xz_147_37 : xm_run call xm_c147 nL mc ms ret Q (f + 1) (xm_drop 37 xm_c147) lv st G E kc ks = (xm_run call xm_c147 nL mc ms ret Q f (xm_drop 38 xm_c147) lv ((.int 0) :: st) G E kc ks) := rfl
theorem xz_147_38 : xm_run call xm_c147 nL mc ms ret Q (f + 1) (xm_drop 38 xm_c147) lv st G E kc ks = (bif Nat.beq 140 1006 || Nat.beq 140 1007 then xm_strl 140 st G (fun st => xm_run call xm_c147 nL mc ms ret Q f (xm_drop 39 xm_c147) lv st G E kc ks) else xm_call call mc ms 140 0 st G E kc ks (fun st G E kc ks => xm_run call xm_c147 nL mc ms ret Q f (xm_drop 39 xm_c147) lv st G E kc ks)) := rfl
theorem xz_147_39 : xm_run call xm_c147 nL mc ms ret Q (f + 1) (xm_drop 39 xm_c147) lv st G E kc ks = (xm_run call xm_c147 nL mc ms ret Q f (xm_drop 5 xm_c147) lv st G E kc ks) := rfl
theorem xz_147_40 : xm_run call xm_c147 nL mc ms ret Q (f + 1) (xm_drop 40 xm_c147) lv st G E kc ks = (xm_run call xm_c147 nL mc ms ret Q f (xm_drop 41 xm_c147) lv ((.int 1) :: st) G E kc ks) := rfl
theorem xz_147_41 : xm_run call xm_c147 nL mc ms ret Q (f + 1) (xm_drop 41 xm_c147) lv st G E kc ks = ((match st with
    | [w] => bif xm_isI w && (xm_rok ret w && (Nat.ble kc mc && Nat.ble ks ms)) then Q (some w) G E else false
    | _ => false)) := rfl
theorem xz_148_0 : xm_run call xm_c148 nL mc ms ret Q (f + 1) (xm_drop 0 xm_c148) lv st G E kc ks = ((match xm_get lv 0 with
    | some w => bif xm_isA w then xm_run call xm_c148 nL mc ms ret Q f (xm_drop 1 xm_c148) lv (w :: st) G E kc ks else false
    | none => false)) := rfl
theorem xz_148_1 : xm_run call xm_c148 nL mc ms ret Q (f + 1) (xm_drop 1 xm_c148) lv st G E kc ks = (bif Nat.beq 147 1006 || Nat.beq 147 1007 then xm_strl 147 st G (fun st => xm_run call xm_c148 nL mc ms ret Q f (xm_drop 2 xm_c148) lv st G E kc ks) else xm_call call mc ms 147 0 st G E kc ks (fun st G E kc ks => xm_run call xm_c148 nL mc ms ret Q f (xm_drop 2 xm_c148) lv st G E kc ks)) := rfl
theorem xz_148_2 : xm_run call xm_c148 nL mc ms ret Q (f + 1) (xm_drop 2 xm_c148) lv st G E kc ks = ((match st with
    | w :: st => xm_cmpI E w (.int 0) (fun E s => bif xm_holds .ne s then xm_run call xm_c148 nL mc ms ret Q f (xm_drop 5 xm_c148) lv st G E kc ks else xm_run call xm_c148 nL mc ms ret Q f (xm_drop 3 xm_c148) lv st G E kc ks)
    | _ => false)) := rfl
theorem xz_148_3 : xm_run call xm_c148 nL mc ms ret Q (f + 1) (xm_drop 3 xm_c148) lv st G E kc ks = (xm_run call xm_c148 nL mc ms ret Q f (xm_drop 4 xm_c148) lv ((.int 0) :: st) G E kc ks) := rfl
theorem xz_148_4 : xm_run call xm_c148 nL mc ms ret Q (f + 1) (xm_drop 4 xm_c148) lv st G E kc ks = ((match st with
    | [w] => bif xm_isI w && (xm_rok ret w && (Nat.ble kc mc && Nat.ble ks ms)) then Q (some w) G E else false
    | _ => false)) := rfl
theorem xz_148_5 : xm_run call xm_c148 nL mc ms ret Q (f + 1) (xm_drop 5 xm_c148) lv st G E kc ks = ((match xm_get lv 0 with
    | some w => bif xm_isA w then xm_run call xm_c148 nL mc ms ret Q f (xm_drop 6 xm_c148) lv (w :: st) G E kc ks else false
    | none => false)) := rfl
theorem xz_148_6 : xm_run call xm_c148 nL mc ms ret Q (f + 1) (xm_drop 6 xm_c148) lv st G E kc ks = (bif Nat.beq 132 1006 || Nat.beq 132 1007 then xm_strl 132 st G (fun st => xm_run call xm_c148 nL mc ms ret Q f (xm_drop 7 xm_c148) lv st G E kc ks) else xm_call call mc ms 132 0 st G E kc ks (fun st G E kc ks => xm_run call xm_c148 nL mc ms ret Q f (xm_drop 7 xm_c148) lv st G E kc ks)) := rfl
theorem xz_148_7 : xm_run call xm_c148 nL mc ms ret Q (f + 1) (xm_drop 7 xm_c148) lv st G E kc ks = ((match st with
    | w :: st => bif xm_isI w && Nat.blt 1 nL then xm_run call xm_c148 nL mc ms ret Q f (xm_drop 8 xm_c148) (xm_set1 lv 1 w) st G E kc ks else false
    | _ => false)) := rfl
theorem xz_148_8 : xm_run call xm_c148 nL mc ms ret Q (f + 1) (xm_drop 8 xm_c148) lv st G E kc ks = ((match xm_get lv 0 with
    | some w => bif xm_isA w then xm_run call xm_c148 nL mc ms ret Q f (xm_drop 9 xm_c148) lv (w :: st) G E kc ks else false
    | none => false)) := rfl
theorem xz_148_9 : xm_run call xm_c148 nL mc ms ret Q (f + 1) (xm_drop 9 xm_c148) lv st G E kc ks = (xm_getf 11 8 st G (fun st => xm_run call xm_c148 nL mc ms ret Q f (xm_drop 10 xm_c148) lv st G E kc ks)) := rfl
theorem xz_148_10 : xm_run call xm_c148 nL mc ms ret Q (f + 1) (xm_drop 10 xm_c148) lv st G E kc ks = ((match st with
    | w :: st => bif xm_isI w && Nat.blt 2 nL then xm_run call xm_c148 nL mc ms ret Q f (xm_drop 11 xm_c148) (xm_set1 lv 2 w) st G E kc ks else false
    | _ => false)) := rfl
theorem xz_148_11 : xm_run call xm_c148 nL mc ms ret Q (f + 1) (xm_drop 11 xm_c148) lv st G E kc ks = ((match xm_get lv 1 with
    | some w => bif xm_isI w then xm_run call xm_c148 nL mc ms ret Q f (xm_drop 12 xm_c148) lv (w :: st) G E kc ks else false
    | none => false)) := rfl
theorem xz_148_12 : xm_run call xm_c148 nL mc ms ret Q (f + 1) (xm_drop 12 xm_c148) lv st G E kc ks = (xm_run call xm_c148 nL mc ms ret Q f (xm_drop 13 xm_c148) lv ((.int 60) :: st) G E kc ks) := rfl
theorem xz_148_13 : xm_run call xm_c148 nL mc ms ret Q (f + 1) (xm_drop 13 xm_c148) lv st G E kc ks = ((match st with
    | w :: u :: st => xm_cmpI E u w (fun E s => bif xm_holds .eq s then xm_run call xm_c148 nL mc ms ret Q f (xm_drop 25 xm_c148) lv st G E kc ks else xm_run call xm_c148 nL mc ms ret Q f (xm_drop 14 xm_c148) lv st G E kc ks)
    | _ => false)) := rfl
theorem xz_148_14 : xm_run call xm_c148 nL mc ms ret Q (f + 1) (xm_drop 14 xm_c148) lv st G E kc ks = ((match xm_get lv 1 with
    | some w => bif xm_isI w then xm_run call xm_c148 nL mc ms ret Q f (xm_drop 15 xm_c148) lv (w :: st) G E kc ks else false
    | none => false)) := rfl
theorem xz_148_15 : xm_run call xm_c148 nL mc ms ret Q (f + 1) (xm_drop 15 xm_c148) lv st G E kc ks = (xm_run call xm_c148 nL mc ms ret Q f (xm_drop 16 xm_c148) lv ((.int 61) :: st) G E kc ks) := rfl
theorem xz_148_16 : xm_run call xm_c148 nL mc ms ret Q (f + 1) (xm_drop 16 xm_c148) lv st G E kc ks = ((match st with
    | w :: u :: st => xm_cmpI E u w (fun E s => bif xm_holds .eq s then xm_run call xm_c148 nL mc ms ret Q f (xm_drop 25 xm_c148) lv st G E kc ks else xm_run call xm_c148 nL mc ms ret Q f (xm_drop 17 xm_c148) lv st G E kc ks)
    | _ => false)) := rfl
theorem xz_148_17 : xm_run call xm_c148 nL mc ms ret Q (f + 1) (xm_drop 17 xm_c148) lv st G E kc ks = ((match xm_get lv 1 with
    | some w => bif xm_isI w then xm_run call xm_c148 nL mc ms ret Q f (xm_drop 18 xm_c148) lv (w :: st) G E kc ks else false
    | none => false)) := rfl
theorem xz_148_18 : xm_run call xm_c148 nL mc ms ret Q (f + 1) (xm_drop 18 xm_c148) lv st G E kc ks = (xm_run call xm_c148 nL mc ms ret Q f (xm_drop 19 xm_c148) lv ((.int 62) :: st) G E kc ks) := rfl
theorem xz_148_19 : xm_run call xm_c148 nL mc ms ret Q (f + 1) (xm_drop 19 xm_c148) lv st G E kc ks = ((match st with
    | w :: u :: st => xm_cmpI E u w (fun E s => bif xm_holds .eq s then xm_run call xm_c148 nL mc ms ret Q f (xm_drop 25 xm_c148) lv st G E kc ks else xm_run call xm_c148 nL mc ms ret Q f (xm_drop 20 xm_c148) lv st G E kc ks)
    | _ => false)) := rfl
theorem xz_148_20 : xm_run call xm_c148 nL mc ms ret Q (f + 1) (xm_drop 20 xm_c148) lv st G E kc ks = ((match xm_get lv 0 with
    | some w => bif xm_isA w then xm_run call xm_c148 nL mc ms ret Q f (xm_drop 21 xm_c148) lv (w :: st) G E kc ks else false
    | none => false)) := rfl
theorem xz_148_21 : xm_run call xm_c148 nL mc ms ret Q (f + 1) (xm_drop 21 xm_c148) lv st G E kc ks = (xm_run call xm_c148 nL mc ms ret Q f (xm_drop 22 xm_c148) lv ((.int 0) :: st) G E kc ks) := rfl
theorem xz_148_22 : xm_run call xm_c148 nL mc ms ret Q (f + 1) (xm_drop 22 xm_c148) lv st G E kc ks = ((match xm_get lv 2 with
    | some w => bif xm_isI w then xm_run call xm_c148 nL mc ms ret Q f (xm_drop 23 xm_c148) lv (w :: st) G E kc ks else false
    | none => false)) := rfl
theorem xz_148_23 : xm_run call xm_c148 nL mc ms ret Q (f + 1) (xm_drop 23 xm_c148) lv st G E kc ks = (bif Nat.beq 131 1006 || Nat.beq 131 1007 then xm_strl 131 st G (fun st => xm_run call xm_c148 nL mc ms ret Q f (xm_drop 24 xm_c148) lv st G E kc ks) else xm_call call mc ms 131 0 st G E kc ks (fun st G E kc ks => xm_run call xm_c148 nL mc ms ret Q f (xm_drop 24 xm_c148) lv st G E kc ks)) := rfl
theorem xz_148_24 : xm_run call xm_c148 nL mc ms ret Q (f + 1) (xm_drop 24 xm_c148) lv st G E kc ks = ((match st with
    | [w] => bif xm_isI w && (xm_rok ret w && (Nat.ble kc mc && Nat.ble ks ms)) then Q (some w) G E else false
    | _ => false)) := rfl
theorem xz_148_25 : xm_run call xm_c148 nL mc ms ret Q (f + 1) (xm_drop 25 xm_c148) lv st G E kc ks = ((match xm_get lv 0 with
    | some w => bif xm_isA w then xm_run call xm_c148 nL mc ms ret Q f (xm_drop 26 xm_c148) lv (w :: st) G E kc ks else false
    | none => false)) := rfl
theorem xz_148_26 : xm_run call xm_c148 nL mc ms ret Q (f + 1) (xm_drop 26 xm_c148) lv st G E kc ks = ((match st with
    | w :: st => bif xm_cat1 w then xm_run call xm_c148 nL mc ms ret Q f (xm_drop 27 xm_c148) lv (w :: w :: st) G E kc ks else false
    | _ => false)) := rfl
theorem xz_148_27 : xm_run call xm_c148 nL mc ms ret Q (f + 1) (xm_drop 27 xm_c148) lv st G E kc ks = (xm_getf 11 8 st G (fun st => xm_run call xm_c148 nL mc ms ret Q f (xm_drop 28 xm_c148) lv st G E kc ks)) := rfl
theorem xz_148_28 : xm_run call xm_c148 nL mc ms ret Q (f + 1) (xm_drop 28 xm_c148) lv st G E kc ks = (xm_run call xm_c148 nL mc ms ret Q f (xm_drop 29 xm_c148) lv ((.int 1) :: st) G E kc ks) := rfl
theorem xz_148_29 : xm_run call xm_c148 nL mc ms ret Q (f + 1) (xm_drop 29 xm_c148) lv st G E kc ks = (xm_int2 .iadd st E (fun st E => xm_run call xm_c148 nL mc ms ret Q f (xm_drop 30 xm_c148) lv st G E kc ks)) := rfl
theorem xz_148_30 : xm_run call xm_c148 nL mc ms ret Q (f + 1) (xm_drop 30 xm_c148) lv st G E kc ks = (xm_putf 11 8 st G (fun st G => xm_run call xm_c148 nL mc ms ret Q f (xm_drop 31 xm_c148) lv st G E kc ks)) := rfl
theorem xz_148_31 : xm_run call xm_c148 nL mc ms ret Q (f + 1) (xm_drop 31 xm_c148) lv st G E kc ks = ((match xm_get lv 1 with
    | some w => bif xm_isI w then xm_run call xm_c148 nL mc ms ret Q f (xm_drop 32 xm_c148) lv (w :: st) G E kc ks else false
    | none => false)) := rfl
theorem xz_148_32 : xm_run call xm_c148 nL mc ms ret Q (f + 1) (xm_drop 32 xm_c148) lv st G E kc ks = (xm_run call xm_c148 nL mc ms ret Q f (xm_drop 33 xm_c148) lv ((.int 61) :: st) G E kc ks) := rfl
theorem xz_148_33 : xm_run call xm_c148 nL mc ms ret Q (f + 1) (xm_drop 33 xm_c148) lv st G E kc ks = ((match st with
    | w :: u :: st => xm_cmpI E u w (fun E s => bif xm_holds .eq s then xm_run call xm_c148 nL mc ms ret Q f (xm_drop 48 xm_c148) lv st G E kc ks else xm_run call xm_c148 nL mc ms ret Q f (xm_drop 34 xm_c148) lv st G E kc ks)
    | _ => false)) := rfl
theorem xz_148_34 : xm_run call xm_c148 nL mc ms ret Q (f + 1) (xm_drop 34 xm_c148) lv st G E kc ks = ((match xm_get lv 0 with
    | some w => bif xm_isA w then xm_run call xm_c148 nL mc ms ret Q f (xm_drop 35 xm_c148) lv (w :: st) G E kc ks else false
    | none => false)) := rfl
theorem xz_148_35 : xm_run call xm_c148 nL mc ms ret Q (f + 1) (xm_drop 35 xm_c148) lv st G E kc ks = (xm_getf 11 8 st G (fun st => xm_run call xm_c148 nL mc ms ret Q f (xm_drop 36 xm_c148) lv st G E kc ks)) := rfl
theorem xz_148_36 : xm_run call xm_c148 nL mc ms ret Q (f + 1) (xm_drop 36 xm_c148) lv st G E kc ks = ((match xm_get lv 0 with
    | some w => bif xm_isA w then xm_run call xm_c148 nL mc ms ret Q f (xm_drop 37 xm_c148) lv (w :: st) G E kc ks else false
    | none => false)) := rfl
theorem xz_148_37 : xm_run call xm_c148 nL mc ms ret Q (f + 1) (xm_drop 37 xm_c148) lv st G E kc ks = (xm_getf 11 1 st G (fun st => xm_run call xm_c148 nL mc ms ret Q f (xm_drop 38 xm_c148) lv st G E kc ks)) := rfl
theorem xz_148_38 : xm_run call xm_c148 nL mc ms ret Q (f + 1) (xm_drop 38 xm_c148) lv st G E kc ks = ((match st with
    | w :: u :: st => xm_cmpI E u w (fun E s => bif xm_holds .ge s then xm_run call xm_c148 nL mc ms ret Q f (xm_drop 48 xm_c148) lv st G E kc ks else xm_run call xm_c148 nL mc ms ret Q f (xm_drop 39 xm_c148) lv st G E kc ks)
    | _ => false)) := rfl
theorem xz_148_39 : xm_run call xm_c148 nL mc ms ret Q (f + 1) (xm_drop 39 xm_c148) lv st G E kc ks = ((match xm_get lv 0 with
    | some w => bif xm_isA w then xm_run call xm_c148 nL mc ms ret Q f (xm_drop 40 xm_c148) lv (w :: st) G E kc ks else false
    | none => false)) := rfl
theorem xz_148_40 : xm_run call xm_c148 nL mc ms ret Q (f + 1) (xm_drop 40 xm_c148) lv st G E kc ks = (xm_getf 11 0 st G (fun st => xm_run call xm_c148 nL mc ms ret Q f (xm_drop 41 xm_c148) lv st G E kc ks)) := rfl
theorem xz_148_41 : xm_run call xm_c148 nL mc ms ret Q (f + 1) (xm_drop 41 xm_c148) lv st G E kc ks = ((match xm_get lv 0 with
    | some w => bif xm_isA w then xm_run call xm_c148 nL mc ms ret Q f (xm_drop 42 xm_c148) lv (w :: st) G E kc ks else false
    | none => false)) := rfl
theorem xz_148_42 : xm_run call xm_c148 nL mc ms ret Q (f + 1) (xm_drop 42 xm_c148) lv st G E kc ks = (xm_getf 11 8 st G (fun st => xm_run call xm_c148 nL mc ms ret Q f (xm_drop 43 xm_c148) lv st G E kc ks)) := rfl
theorem xz_148_43 : xm_run call xm_c148 nL mc ms ret Q (f + 1) (xm_drop 43 xm_c148) lv st G E kc ks = (xm_bald st G E (fun st E => xm_run call xm_c148 nL mc ms ret Q f (xm_drop 44 xm_c148) lv st G E kc ks)) := rfl
theorem xz_148_44 : xm_run call xm_c148 nL mc ms ret Q (f + 1) (xm_drop 44 xm_c148) lv st G E kc ks = (xm_run call xm_c148 nL mc ms ret Q f (xm_drop 45 xm_c148) lv ((.int 61) :: st) G E kc ks) := rfl
theorem xz_148_45 : xm_run call xm_c148 nL mc ms ret Q (f + 1) (xm_drop 45 xm_c148) lv st G E kc ks = ((match st with
    | w :: u :: st => xm_cmpI E u w (fun E s => bif xm_holds .ne s then xm_run call xm_c148 nL mc ms ret Q f (xm_drop 48 xm_c148) lv st G E kc ks else xm_run call xm_c148 nL mc ms ret Q f (xm_drop 46 xm_c148) lv st G E kc ks)
    | _ => false)) := rfl
theorem xz_148_46 : xm_run call xm_c148 nL mc ms ret Q (f + 1) (xm_drop 46 xm_c148) lv st G E kc ks = (xm_run call xm_c148 nL mc ms ret Q f (xm_drop 47 xm_c148) lv ((.int 1) :: st) G E kc ks) := rfl
theorem xz_148_47 : xm_run call xm_c148 nL mc ms ret Q (f + 1) (xm_drop 47 xm_c148) lv st G E kc ks = (xm_run call xm_c148 nL mc ms ret Q f (xm_drop 49 xm_c148) lv st G E kc ks) := rfl
theorem xz_148_48 : xm_run call xm_c148 nL mc ms ret Q (f + 1) (xm_drop 48 xm_c148) lv st G E kc ks = (xm_run call xm_c148 nL mc ms ret Q f (xm_drop 49 xm_c148) lv ((.int 0) :: st) G E kc ks) := rfl
theorem xz_148_49 : xm_run call xm_c148 nL mc ms ret Q (f + 1) (xm_drop 49 xm_c148) lv st G E kc ks = ((match st with
    | w :: st => bif xm_isI w && Nat.blt 3 nL then xm_run call xm_c148 nL mc ms ret Q f (xm_drop 50 xm_c148) (xm_set1 lv 3 w) st G E kc ks else false
    | _ => false)) := rfl
theorem xz_148_50 : xm_run call xm_c148 nL mc ms ret Q (f + 1) (xm_drop 50 xm_c148) lv st G E kc ks = ((match xm_get lv 3 with
    | some w => bif xm_isI w then xm_run call xm_c148 nL mc ms ret Q f (xm_drop 51 xm_c148) lv (w :: st) G E kc ks else false
    | none => false)) := rfl
theorem xz_148_51 : xm_run call xm_c148 nL mc ms ret Q (f + 1) (xm_drop 51 xm_c148) lv st G E kc ks = ((match st with
    | w :: st => xm_cmpI E w (.int 0) (fun E s => bif xm_holds .eq s then xm_run call xm_c148 nL mc ms ret Q f (xm_drop 58 xm_c148) lv st G E kc ks else xm_run call xm_c148 nL mc ms ret Q f (xm_drop 52 xm_c148) lv st G E kc ks)
    | _ => false)) := rfl
theorem xz_148_52 : xm_run call xm_c148 nL mc ms ret Q (f + 1) (xm_drop 52 xm_c148) lv st G E kc ks = ((match xm_get lv 0 with
    | some w => bif xm_isA w then xm_run call xm_c148 nL mc ms ret Q f (xm_drop 53 xm_c148) lv (w :: st) G E kc ks else false
    | none => false)) := rfl
theorem xz_148_53 : xm_run call xm_c148 nL mc ms ret Q (f + 1) (xm_drop 53 xm_c148) lv st G E kc ks = ((match st with
    | w :: st => bif xm_cat1 w then xm_run call xm_c148 nL mc ms ret Q f (xm_drop 54 xm_c148) lv (w :: w :: st) G E kc ks else false
    | _ => false)) := rfl
theorem xz_148_54 : xm_run call xm_c148 nL mc ms ret Q (f + 1) (xm_drop 54 xm_c148) lv st G E kc ks = (xm_getf 11 8 st G (fun st => xm_run call xm_c148 nL mc ms ret Q f (xm_drop 55 xm_c148) lv st G E kc ks)) := rfl
theorem xz_148_55 : xm_run call xm_c148 nL mc ms ret Q (f + 1) (xm_drop 55 xm_c148) lv st G E kc ks = (xm_run call xm_c148 nL mc ms ret Q f (xm_drop 56 xm_c148) lv ((.int 1) :: st) G E kc ks) := rfl
theorem xz_148_56 : xm_run call xm_c148 nL mc ms ret Q (f + 1) (xm_drop 56 xm_c148) lv st G E kc ks = (xm_int2 .iadd st E (fun st E => xm_run call xm_c148 nL mc ms ret Q f (xm_drop 57 xm_c148) lv st G E kc ks)) := rfl
theorem xz_148_57 : xm_run call xm_c148 nL mc ms ret Q (f + 1) (xm_drop 57 xm_c148) lv st G E kc ks = (xm_putf 11 8 st G (fun st G => xm_run call xm_c148 nL mc ms ret Q f (xm_drop 58 xm_c148) lv st G E kc ks)) := rfl
theorem xz_148_58 : xm_run call xm_c148 nL mc ms ret Q (f + 1) (xm_drop 58 xm_c148) lv st G E kc ks = ((match xm_get lv 0 with
    | some w => bif xm_isA w then xm_run call xm_c148 nL mc ms ret Q f (xm_drop 59 xm_c148) lv (w :: st) G E kc ks else false
    | none => false)) := rfl
theorem xz_148_59 : xm_run call xm_c148 nL mc ms ret Q (f + 1) (xm_drop 59 xm_c148) lv st G E kc ks = ((match xm_get lv 2 with
    | some w => bif xm_isI w then xm_run call xm_c148 nL mc ms ret Q f (xm_drop 60 xm_c148) lv (w :: st) G E kc ks else false
    | none => false)) := rfl
theorem xz_148_60 : xm_run call xm_c148 nL mc ms ret Q (f + 1) (xm_drop 60 xm_c148) lv st G E kc ks = (bif Nat.beq 141 1006 || Nat.beq 141 1007 then xm_strl 141 st G (fun st => xm_run call xm_c148 nL mc ms ret Q f (xm_drop 61 xm_c148) lv st G E kc ks) else xm_call call mc ms 141 0 st G E kc ks (fun st G E kc ks => xm_run call xm_c148 nL mc ms ret Q f (xm_drop 61 xm_c148) lv st G E kc ks)) := rfl
theorem xz_148_61 : xm_run call xm_c148 nL mc ms ret Q (f + 1) (xm_drop 61 xm_c148) lv st G E kc ks = ((match st with
    | w :: st => xm_cmpI E w (.int 0) (fun E s => bif xm_holds .ne s then xm_run call xm_c148 nL mc ms ret Q f (xm_drop 64 xm_c148) lv st G E kc ks else xm_run call xm_c148 nL mc ms ret Q f (xm_drop 62 xm_c148) lv st G E kc ks)
    | _ => false)) := rfl
theorem xz_148_62 : xm_run call xm_c148 nL mc ms ret Q (f + 1) (xm_drop 62 xm_c148) lv st G E kc ks = (xm_run call xm_c148 nL mc ms ret Q f (xm_drop 63 xm_c148) lv ((.int 0) :: st) G E kc ks) := rfl
theorem xz_148_63 : xm_run call xm_c148 nL mc ms ret Q (f + 1) (xm_drop 63 xm_c148) lv st G E kc ks = ((match st with
    | [w] => bif xm_isI w && (xm_rok ret w && (Nat.ble kc mc && Nat.ble ks ms)) then Q (some w) G E else false
    | _ => false)) := rfl
theorem xz_148_64 : xm_run call xm_c148 nL mc ms ret Q (f + 1) (xm_drop 64 xm_c148) lv st G E kc ks = ((match xm_get lv 1 with
    | some w => bif xm_isI w then xm_run call xm_c148 nL mc ms ret Q f (xm_drop 65 xm_c148) lv (w :: st) G E kc ks else false
    | none => false)) := rfl
theorem xz_148_65 : xm_run call xm_c148 nL mc ms ret Q (f + 1) (xm_drop 65 xm_c148) lv st G E kc ks = (xm_run call xm_c148 nL mc ms ret Q f (xm_drop 66 xm_c148) lv ((.int 60) :: st) G E kc ks) := rfl
theorem xz_148_66 : xm_run call xm_c148 nL mc ms ret Q (f + 1) (xm_drop 66 xm_c148) lv st G E kc ks = ((match st with
    | w :: u :: st => xm_cmpI E u w (fun E s => bif xm_holds .ne s then xm_run call xm_c148 nL mc ms ret Q f (xm_drop 73 xm_c148) lv st G E kc ks else xm_run call xm_c148 nL mc ms ret Q f (xm_drop 67 xm_c148) lv st G E kc ks)
    | _ => false)) := rfl
theorem xz_148_67 : xm_run call xm_c148 nL mc ms ret Q (f + 1) (xm_drop 67 xm_c148) lv st G E kc ks = ((match xm_get lv 3 with
    | some w => bif xm_isI w then xm_run call xm_c148 nL mc ms ret Q f (xm_drop 68 xm_c148) lv (w :: st) G E kc ks else false
    | none => false)) := rfl
theorem xz_148_68 : xm_run call xm_c148 nL mc ms ret Q (f + 1) (xm_drop 68 xm_c148) lv st G E kc ks = ((match st with
    | w :: st => xm_cmpI E w (.int 0) (fun E s => bif xm_holds .eq s then xm_run call xm_c148 nL mc ms ret Q f (xm_drop 71 xm_c148) lv st G E kc ks else xm_run call xm_c148 nL mc ms ret Q f (xm_drop 69 xm_c148) lv st G E kc ks)
    | _ => false)) := rfl
theorem xz_148_69 : xm_run call xm_c148 nL mc ms ret Q (f + 1) (xm_drop 69 xm_c148) lv st G E kc ks = (xm_run call xm_c148 nL mc ms ret Q f (xm_drop 70 xm_c148) lv ((.int 1) :: st) G E kc ks) := rfl
theorem xz_148_70 : xm_run call xm_c148 nL mc ms ret Q (f + 1) (xm_drop 70 xm_c148) lv st G E kc ks = (xm_run call xm_c148 nL mc ms ret Q f (xm_drop 83 xm_c148) lv st G E kc ks) := rfl
theorem xz_148_71 : xm_run call xm_c148 nL mc ms ret Q (f + 1) (xm_drop 71 xm_c148) lv st G E kc ks = (xm_run call xm_c148 nL mc ms ret Q f (xm_drop 72 xm_c148) lv ((.int 0) :: st) G E kc ks) := rfl
theorem xz_148_72 : xm_run call xm_c148 nL mc ms ret Q (f + 1) (xm_drop 72 xm_c148) lv st G E kc ks = (xm_run call xm_c148 nL mc ms ret Q f (xm_drop 83 xm_c148) lv st G E kc ks) := rfl
theorem xz_148_73 : xm_run call xm_c148 nL mc ms ret Q (f + 1) (xm_drop 73 xm_c148) lv st G E kc ks = ((match xm_get lv 1 with
    | some w => bif xm_isI w then xm_run call xm_c148 nL mc ms ret Q f (xm_drop 74 xm_c148) lv (w :: st) G E kc ks else false
    | none => false)) := rfl
theorem xz_148_74 : xm_run call xm_c148 nL mc ms ret Q (f + 1) (xm_drop 74 xm_c148) lv st G E kc ks = (xm_run call xm_c148 nL mc ms ret Q f (xm_drop 75 xm_c148) lv ((.int 61) :: st) G E kc ks) := rfl
theorem xz_148_75 : xm_run call xm_c148 nL mc ms ret Q (f + 1) (xm_drop 75 xm_c148) lv st G E kc ks = ((match st with
    | w :: u :: st => xm_cmpI E u w (fun E s => bif xm_holds .ne s then xm_run call xm_c148 nL mc ms ret Q f (xm_drop 78 xm_c148) lv st G E kc ks else xm_run call xm_c148 nL mc ms ret Q f (xm_drop 76 xm_c148) lv st G E kc ks)
    | _ => false)) := rfl
theorem xz_148_76 : xm_run call xm_c148 nL mc ms ret Q (f + 1) (xm_drop 76 xm_c148) lv st G E kc ks = (xm_run call xm_c148 nL mc ms ret Q f (xm_drop 77 xm_c148) lv ((.int 2) :: st) G E kc ks) := rfl
theorem xz_148_77 : xm_run call xm_c148 nL mc ms ret Q (f + 1) (xm_drop 77 xm_c148) lv st G E kc ks = (xm_run call xm_c148 nL mc ms ret Q f (xm_drop 83 xm_c148) lv st G E kc ks) := rfl
theorem xz_148_78 : xm_run call xm_c148 nL mc ms ret Q (f + 1) (xm_drop 78 xm_c148) lv st G E kc ks = ((match xm_get lv 3 with
    | some w => bif xm_isI w then xm_run call xm_c148 nL mc ms ret Q f (xm_drop 79 xm_c148) lv (w :: st) G E kc ks else false
    | none => false)) := rfl
theorem xz_148_79 : xm_run call xm_c148 nL mc ms ret Q (f + 1) (xm_drop 79 xm_c148) lv st G E kc ks = ((match st with
    | w :: st => xm_cmpI E w (.int 0) (fun E s => bif xm_holds .eq s then xm_run call xm_c148 nL mc ms ret Q f (xm_drop 82 xm_c148) lv st G E kc ks else xm_run call xm_c148 nL mc ms ret Q f (xm_drop 80 xm_c148) lv st G E kc ks)
    | _ => false)) := rfl
theorem xz_148_80 : xm_run call xm_c148 nL mc ms ret Q (f + 1) (xm_drop 80 xm_c148) lv st G E kc ks = (xm_run call xm_c148 nL mc ms ret Q f (xm_drop 81 xm_c148) lv ((.int 3) :: st) G E kc ks) := rfl
theorem xz_148_81 : xm_run call xm_c148 nL mc ms ret Q (f + 1) (xm_drop 81 xm_c148) lv st G E kc ks = (xm_run call xm_c148 nL mc ms ret Q f (xm_drop 83 xm_c148) lv st G E kc ks) := rfl
theorem xz_148_82 : xm_run call xm_c148 nL mc ms ret Q (f + 1) (xm_drop 82 xm_c148) lv st G E kc ks = (xm_run call xm_c148 nL mc ms ret Q f (xm_drop 83 xm_c148) lv ((.int 4) :: st) G E kc ks) := rfl
theorem xz_148_83 : xm_run call xm_c148 nL mc ms ret Q (f + 1) (xm_drop 83 xm_c148) lv st G E kc ks = ((match st with
    | w :: st => bif xm_isI w && Nat.blt 4 nL then xm_run call xm_c148 nL mc ms ret Q f (xm_drop 84 xm_c148) (xm_set1 lv 4 w) st G E kc ks else false
    | _ => false)) := rfl
theorem xz_148_84 : xm_run call xm_c148 nL mc ms ret Q (f + 1) (xm_drop 84 xm_c148) lv st G E kc ks = ((match xm_get lv 0 with
    | some w => bif xm_isA w then xm_run call xm_c148 nL mc ms ret Q f (xm_drop 85 xm_c148) lv (w :: st) G E kc ks else false
    | none => false)) := rfl
theorem xz_148_85 : xm_run call xm_c148 nL mc ms ret Q (f + 1) (xm_drop 85 xm_c148) lv st G E kc ks = (bif Nat.beq 147 1006 || Nat.beq 147 1007 then xm_strl 147 st G (fun st => xm_run call xm_c148 nL mc ms ret Q f (xm_drop 86 xm_c148) lv st G E kc ks) else xm_call call mc ms 147 0 st G E kc ks (fun st G E kc ks => xm_run call xm_c148 nL mc ms ret Q f (xm_drop 86 xm_c148) lv st G E kc ks)) := rfl
theorem xz_148_86 : xm_run call xm_c148 nL mc ms ret Q (f + 1) (xm_drop 86 xm_c148) lv st G E kc ks = ((match st with
    | w :: st => xm_cmpI E w (.int 0) (fun E s => bif xm_holds .ne s then xm_run call xm_c148 nL mc ms ret Q f (xm_drop 89 xm_c148) lv st G E kc ks else xm_run call xm_c148 nL mc ms ret Q f (xm_drop 87 xm_c148) lv st G E kc ks)
    | _ => false)) := rfl
theorem xz_148_87 : xm_run call xm_c148 nL mc ms ret Q (f + 1) (xm_drop 87 xm_c148) lv st G E kc ks = (xm_run call xm_c148 nL mc ms ret Q f (xm_drop 88 xm_c148) lv ((.int 0) :: st) G E kc ks) := rfl
theorem xz_148_88 : xm_run call xm_c148 nL mc ms ret Q (f + 1) (xm_drop 88 xm_c148) lv st G E kc ks = ((match st with
    | [w] => bif xm_isI w && (xm_rok ret w && (Nat.ble kc mc && Nat.ble ks ms)) then Q (some w) G E else false
    | _ => false)) := rfl
theorem xz_148_89 : xm_run call xm_c148 nL mc ms ret Q (f + 1) (xm_drop 89 xm_c148) lv st G E kc ks = ((match xm_get lv 0 with
    | some w => bif xm_isA w then xm_run call xm_c148 nL mc ms ret Q f (xm_drop 90 xm_c148) lv (w :: st) G E kc ks else false
    | none => false)) := rfl
theorem xz_148_90 : xm_run call xm_c148 nL mc ms ret Q (f + 1) (xm_drop 90 xm_c148) lv st G E kc ks = (xm_run call xm_c148 nL mc ms ret Q f (xm_drop 91 xm_c148) lv ((.int 6) :: st) G E kc ks) := rfl
theorem xz_148_91 : xm_run call xm_c148 nL mc ms ret Q (f + 1) (xm_drop 91 xm_c148) lv st G E kc ks = ((match xm_get lv 4 with
    | some w => bif xm_isI w then xm_run call xm_c148 nL mc ms ret Q f (xm_drop 92 xm_c148) lv (w :: st) G E kc ks else false
    | none => false)) := rfl
theorem xz_148_92 : xm_run call xm_c148 nL mc ms ret Q (f + 1) (xm_drop 92 xm_c148) lv st G E kc ks = (xm_int2 .iadd st E (fun st E => xm_run call xm_c148 nL mc ms ret Q f (xm_drop 93 xm_c148) lv st G E kc ks)) := rfl
theorem xz_148_93 : xm_run call xm_c148 nL mc ms ret Q (f + 1) (xm_drop 93 xm_c148) lv st G E kc ks = (xm_run call xm_c148 nL mc ms ret Q f (xm_drop 94 xm_c148) lv ((.int 0) :: st) G E kc ks) := rfl
theorem xz_148_94 : xm_run call xm_c148 nL mc ms ret Q (f + 1) (xm_drop 94 xm_c148) lv st G E kc ks = (bif Nat.beq 140 1006 || Nat.beq 140 1007 then xm_strl 140 st G (fun st => xm_run call xm_c148 nL mc ms ret Q f (xm_drop 95 xm_c148) lv st G E kc ks) else xm_call call mc ms 140 0 st G E kc ks (fun st G E kc ks => xm_run call xm_c148 nL mc ms ret Q f (xm_drop 95 xm_c148) lv st G E kc ks)) := rfl
theorem xz_148_95 : xm_run call xm_c148 nL mc ms ret Q (f + 1) (xm_drop 95 xm_c148) lv st G E kc ks = (xm_run call xm_c148 nL mc ms ret Q f (xm_drop 96 xm_c148) lv ((.int 1) :: st) G E kc ks) := rfl
theorem xz_148_96 : xm_run call xm_c148 nL mc ms ret Q (f + 1) (xm_drop 96 xm_c148) lv st G E kc ks = ((match st with
    | [w] => bif xm_isI w && (xm_rok ret w && (Nat.ble kc mc && Nat.ble ks ms)) then Q (some w) G E else false
    | _ => false)) := rfl
theorem xz_149_0 : xm_run call xm_c149 nL mc ms ret Q (f + 1) (xm_drop 0 xm_c149) lv st G E kc ks = (xm_run call xm_c149 nL mc ms ret Q f (xm_drop 1 xm_c149) lv ((.int 1) :: st) G E kc ks) := rfl
theorem xz_149_1 : xm_run call xm_c149 nL mc ms ret Q (f + 1) (xm_drop 1 xm_c149) lv st G E kc ks = ((match st with
    | w :: st => bif xm_isI w && Nat.blt 1 nL then xm_run call xm_c149 nL mc ms ret Q f (xm_drop 2 xm_c149) (xm_set1 lv 1 w) st G E kc ks else false
    | _ => false)) := rfl
theorem xz_149_2 : xm_run call xm_c149 nL mc ms ret Q (f + 1) (xm_drop 2 xm_c149) lv st G E kc ks = ((match xm_get lv 1 with
    | some w => bif xm_isI w then xm_run call xm_c149 nL mc ms ret Q f (xm_drop 3 xm_c149) lv (w :: st) G E kc ks else false
    | none => false)) := rfl
theorem xz_149_3 : xm_run call xm_c149 nL mc ms ret Q (f + 1) (xm_drop 3 xm_c149) lv st G E kc ks = ((match st with
    | w :: st => xm_cmpI E w (.int 0) (fun E s => bif xm_holds .eq s then xm_run call xm_c149 nL mc ms ret Q f (xm_drop 42 xm_c149) lv st G E kc ks else xm_run call xm_c149 nL mc ms ret Q f (xm_drop 4 xm_c149) lv st G E kc ks)
    | _ => false)) := rfl
theorem xz_149_4 : xm_run call xm_c149 nL mc ms ret Q (f + 1) (xm_drop 4 xm_c149) lv st G E kc ks = (xm_run call xm_c149 nL mc ms ret Q f (xm_drop 5 xm_c149) lv ((.int 0) :: st) G E kc ks) := rfl
theorem xz_149_5 : xm_run call xm_c149 nL mc ms ret Q (f + 1) (xm_drop 5 xm_c149) lv st G E kc ks = ((match st with
    | w :: st => bif xm_isI w && Nat.blt 1 nL then xm_run call xm_c149 nL mc ms ret Q f (xm_drop 6 xm_c149) (xm_set1 lv 1 w) st G E kc ks else false
    | _ => false)) := rfl
theorem xz_149_6 : xm_run call xm_c149 nL mc ms ret Q (f + 1) (xm_drop 6 xm_c149) lv st G E kc ks = ((match xm_get lv 0 with
    | some w => bif xm_isA w then xm_run call xm_c149 nL mc ms ret Q f (xm_drop 7 xm_c149) lv (w :: st) G E kc ks else false
    | none => false)) := rfl
theorem xz_149_7 : xm_run call xm_c149 nL mc ms ret Q (f + 1) (xm_drop 7 xm_c149) lv st G E kc ks = (bif Nat.beq 132 1006 || Nat.beq 132 1007 then xm_strl 132 st G (fun st => xm_run call xm_c149 nL mc ms ret Q f (xm_drop 8 xm_c149) lv st G E kc ks) else xm_call call mc ms 132 0 st G E kc ks (fun st G E kc ks => xm_run call xm_c149 nL mc ms ret Q f (xm_drop 8 xm_c149) lv st G E kc ks)) := rfl
theorem xz_149_8 : xm_run call xm_c149 nL mc ms ret Q (f + 1) (xm_drop 8 xm_c149) lv st G E kc ks = ((match st with
    | w :: st => bif xm_isI w && Nat.blt 2 nL then xm_run call xm_c149 nL mc ms ret Q f (xm_drop 9 xm_c149) (xm_set1 lv 2 w) st G E kc ks else false
    | _ => false)) := rfl
theorem xz_149_9 : xm_run call xm_c149 nL mc ms ret Q (f + 1) (xm_drop 9 xm_c149) lv st G E kc ks = ((match xm_get lv 0 with
    | some w => bif xm_isA w then xm_run call xm_c149 nL mc ms ret Q f (xm_drop 10 xm_c149) lv (w :: st) G E kc ks else false
    | none => false)) := rfl
theorem xz_149_10 : xm_run call xm_c149 nL mc ms ret Q (f + 1) (xm_drop 10 xm_c149) lv st G E kc ks = (xm_run call xm_c149 nL mc ms ret Q f (xm_drop 11 xm_c149) lv ((.long 7237492) :: st) G E kc ks) := rfl
theorem xz_149_11 : xm_run call xm_c149 nL mc ms ret Q (f + 1) (xm_drop 11 xm_c149) lv st G E kc ks = (bif Nat.beq 135 1006 || Nat.beq 135 1007 then xm_strl 135 st G (fun st => xm_run call xm_c149 nL mc ms ret Q f (xm_drop 12 xm_c149) lv st G E kc ks) else xm_call call mc ms 135 0 st G E kc ks (fun st G E kc ks => xm_run call xm_c149 nL mc ms ret Q f (xm_drop 12 xm_c149) lv st G E kc ks)) := rfl
theorem xz_149_12 : xm_run call xm_c149 nL mc ms ret Q (f + 1) (xm_drop 12 xm_c149) lv st G E kc ks = ((match st with
    | w :: st => xm_cmpI E w (.int 0) (fun E s => bif xm_holds .eq s then xm_run call xm_c149 nL mc ms ret Q f (xm_drop 24 xm_c149) lv st G E kc ks else xm_run call xm_c149 nL mc ms ret Q f (xm_drop 13 xm_c149) lv st G E kc ks)
    | _ => false)) := rfl
theorem xz_149_13 : xm_run call xm_c149 nL mc ms ret Q (f + 1) (xm_drop 13 xm_c149) lv st G E kc ks = ((match xm_get lv 0 with
    | some w => bif xm_isA w then xm_run call xm_c149 nL mc ms ret Q f (xm_drop 14 xm_c149) lv (w :: st) G E kc ks else false
    | none => false)) := rfl
theorem xz_149_14 : xm_run call xm_c149 nL mc ms ret Q (f + 1) (xm_drop 14 xm_c149) lv st G E kc ks = (xm_run call xm_c149 nL mc ms ret Q f (xm_drop 15 xm_c149) lv ((.int 11) :: st) G E kc ks) := rfl
theorem xz_149_15 : xm_run call xm_c149 nL mc ms ret Q (f + 1) (xm_drop 15 xm_c149) lv st G E kc ks = (bif Nat.beq 142 1006 || Nat.beq 142 1007 then xm_strl 142 st G (fun st => xm_run call xm_c149 nL mc ms ret Q f (xm_drop 16 xm_c149) lv st G E kc ks) else xm_call call mc ms 142 0 st G E kc ks (fun st G E kc ks => xm_run call xm_c149 nL mc ms ret Q f (xm_drop 16 xm_c149) lv st G E kc ks)) := rfl
theorem xz_149_16 : xm_run call xm_c149 nL mc ms ret Q (f + 1) (xm_drop 16 xm_c149) lv st G E kc ks = ((match st with
    | w :: st => xm_cmpI E w (.int 0) (fun E s => bif xm_holds .ne s then xm_run call xm_c149 nL mc ms ret Q f (xm_drop 19 xm_c149) lv st G E kc ks else xm_run call xm_c149 nL mc ms ret Q f (xm_drop 17 xm_c149) lv st G E kc ks)
    | _ => false)) := rfl
theorem xz_149_17 : xm_run call xm_c149 nL mc ms ret Q (f + 1) (xm_drop 17 xm_c149) lv st G E kc ks = (xm_run call xm_c149 nL mc ms ret Q f (xm_drop 18 xm_c149) lv ((.int 0) :: st) G E kc ks) := rfl
theorem xz_149_18 : xm_run call xm_c149 nL mc ms ret Q (f + 1) (xm_drop 18 xm_c149) lv st G E kc ks = ((match st with
    | [w] => bif xm_isI w && (xm_rok ret w && (Nat.ble kc mc && Nat.ble ks ms)) then Q (some w) G E else false
    | _ => false)) := rfl
theorem xz_149_19 : xm_run call xm_c149 nL mc ms ret Q (f + 1) (xm_drop 19 xm_c149) lv st G E kc ks = ((match xm_get lv 0 with
    | some w => bif xm_isA w then xm_run call xm_c149 nL mc ms ret Q f (xm_drop 20 xm_c149) lv (w :: st) G E kc ks else false
    | none => false)) := rfl
theorem xz_149_20 : xm_run call xm_c149 nL mc ms ret Q (f + 1) (xm_drop 20 xm_c149) lv st G E kc ks = (bif Nat.beq 136 1006 || Nat.beq 136 1007 then xm_strl 136 st G (fun st => xm_run call xm_c149 nL mc ms ret Q f (xm_drop 21 xm_c149) lv st G E kc ks) else xm_call call mc ms 136 0 st G E kc ks (fun st G E kc ks => xm_run call xm_c149 nL mc ms ret Q f (xm_drop 21 xm_c149) lv st G E kc ks)) := rfl
theorem xz_149_21 : xm_run call xm_c149 nL mc ms ret Q (f + 1) (xm_drop 21 xm_c149) lv st G E kc ks = (xm_run call xm_c149 nL mc ms ret Q f (xm_drop 22 xm_c149) lv ((.int 1) :: st) G E kc ks) := rfl
theorem xz_149_22 : xm_run call xm_c149 nL mc ms ret Q (f + 1) (xm_drop 22 xm_c149) lv st G E kc ks = ((match st with
    | w :: st => bif xm_isI w && Nat.blt 1 nL then xm_run call xm_c149 nL mc ms ret Q f (xm_drop 23 xm_c149) (xm_set1 lv 1 w) st G E kc ks else false
    | _ => false)) := rfl
theorem xz_149_23 : xm_run call xm_c149 nL mc ms ret Q (f + 1) (xm_drop 23 xm_c149) lv st G E kc ks = (xm_run call xm_c149 nL mc ms ret Q f (xm_drop 41 xm_c149) lv st G E kc ks) := rfl
theorem xz_149_24 : xm_run call xm_c149 nL mc ms ret Q (f + 1) (xm_drop 24 xm_c149) lv st G E kc ks = ((match xm_get lv 2 with
    | some w => bif xm_isI w then xm_run call xm_c149 nL mc ms ret Q f (xm_drop 25 xm_c149) lv (w :: st) G E kc ks else false
    | none => false)) := rfl
theorem xz_149_25 : xm_run call xm_c149 nL mc ms ret Q (f + 1) (xm_drop 25 xm_c149) lv st G E kc ks = (xm_run call xm_c149 nL mc ms ret Q f (xm_drop 26 xm_c149) lv ((.int 91) :: st) G E kc ks) := rfl
theorem xz_149_26 : xm_run call xm_c149 nL mc ms ret Q (f + 1) (xm_drop 26 xm_c149) lv st G E kc ks = ((match st with
    | w :: u :: st => xm_cmpI E u w (fun E s => bif xm_holds .ne s then xm_run call xm_c149 nL mc ms ret Q f (xm_drop 41 xm_c149) lv st G E kc ks else xm_run call xm_c149 nL mc ms ret Q f (xm_drop 27 xm_c149) lv st G E kc ks)
    | _ => false)) := rfl
theorem xz_149_27 : xm_run call xm_c149 nL mc ms ret Q (f + 1) (xm_drop 27 xm_c149) lv st G E kc ks = ((match xm_get lv 0 with
    | some w => bif xm_isA w then xm_run call xm_c149 nL mc ms ret Q f (xm_drop 28 xm_c149) lv (w :: st) G E kc ks else false
    | none => false)) := rfl
theorem xz_149_28 : xm_run call xm_c149 nL mc ms ret Q (f + 1) (xm_drop 28 xm_c149) lv st G E kc ks = (xm_run call xm_c149 nL mc ms ret Q f (xm_drop 29 xm_c149) lv ((.int 91) :: st) G E kc ks) := rfl
theorem xz_149_29 : xm_run call xm_c149 nL mc ms ret Q (f + 1) (xm_drop 29 xm_c149) lv st G E kc ks = (bif Nat.beq 142 1006 || Nat.beq 142 1007 then xm_strl 142 st G (fun st => xm_run call xm_c149 nL mc ms ret Q f (xm_drop 30 xm_c149) lv st G E kc ks) else xm_call call mc ms 142 0 st G E kc ks (fun st G E kc ks => xm_run call xm_c149 nL mc ms ret Q f (xm_drop 30 xm_c149) lv st G E kc ks)) := rfl
theorem xz_149_30 : xm_run call xm_c149 nL mc ms ret Q (f + 1) (xm_drop 30 xm_c149) lv st G E kc ks = ((match st with
    | w :: st => xm_cmpI E w (.int 0) (fun E s => bif xm_holds .ne s then xm_run call xm_c149 nL mc ms ret Q f (xm_drop 33 xm_c149) lv st G E kc ks else xm_run call xm_c149 nL mc ms ret Q f (xm_drop 31 xm_c149) lv st G E kc ks)
    | _ => false)) := rfl
theorem xz_149_31 : xm_run call xm_c149 nL mc ms ret Q (f + 1) (xm_drop 31 xm_c149) lv st G E kc ks = (xm_run call xm_c149 nL mc ms ret Q f (xm_drop 32 xm_c149) lv ((.int 0) :: st) G E kc ks) := rfl
theorem xz_149_32 : xm_run call xm_c149 nL mc ms ret Q (f + 1) (xm_drop 32 xm_c149) lv st G E kc ks = ((match st with
    | [w] => bif xm_isI w && (xm_rok ret w && (Nat.ble kc mc && Nat.ble ks ms)) then Q (some w) G E else false
    | _ => false)) := rfl
theorem xz_149_33 : xm_run call xm_c149 nL mc ms ret Q (f + 1) (xm_drop 33 xm_c149) lv st G E kc ks = ((match xm_get lv 0 with
    | some w => bif xm_isA w then xm_run call xm_c149 nL mc ms ret Q f (xm_drop 34 xm_c149) lv (w :: st) G E kc ks else false
    | none => false)) := rfl
theorem xz_149_34 : xm_run call xm_c149 nL mc ms ret Q (f + 1) (xm_drop 34 xm_c149) lv st G E kc ks = ((match st with
    | w :: st => bif xm_cat1 w then xm_run call xm_c149 nL mc ms ret Q f (xm_drop 35 xm_c149) lv (w :: w :: st) G E kc ks else false
    | _ => false)) := rfl
theorem xz_149_35 : xm_run call xm_c149 nL mc ms ret Q (f + 1) (xm_drop 35 xm_c149) lv st G E kc ks = (xm_getf 11 8 st G (fun st => xm_run call xm_c149 nL mc ms ret Q f (xm_drop 36 xm_c149) lv st G E kc ks)) := rfl
theorem xz_149_36 : xm_run call xm_c149 nL mc ms ret Q (f + 1) (xm_drop 36 xm_c149) lv st G E kc ks = (xm_run call xm_c149 nL mc ms ret Q f (xm_drop 37 xm_c149) lv ((.int 1) :: st) G E kc ks) := rfl
theorem xz_149_37 : xm_run call xm_c149 nL mc ms ret Q (f + 1) (xm_drop 37 xm_c149) lv st G E kc ks = (xm_int2 .iadd st E (fun st E => xm_run call xm_c149 nL mc ms ret Q f (xm_drop 38 xm_c149) lv st G E kc ks)) := rfl
theorem xz_149_38 : xm_run call xm_c149 nL mc ms ret Q (f + 1) (xm_drop 38 xm_c149) lv st G E kc ks = (xm_putf 11 8 st G (fun st G => xm_run call xm_c149 nL mc ms ret Q f (xm_drop 39 xm_c149) lv st G E kc ks)) := rfl
theorem xz_149_39 : xm_run call xm_c149 nL mc ms ret Q (f + 1) (xm_drop 39 xm_c149) lv st G E kc ks = (xm_run call xm_c149 nL mc ms ret Q f (xm_drop 40 xm_c149) lv ((.int 1) :: st) G E kc ks) := rfl
theorem xz_149_40 : xm_run call xm_c149 nL mc ms ret Q (f + 1) (xm_drop 40 xm_c149) lv st G E kc ks = ((match st with
    | w :: st => bif xm_isI w && Nat.blt 1 nL then xm_run call xm_c149 nL mc ms ret Q f (xm_drop 41 xm_c149) (xm_set1 lv 1 w) st G E kc ks else false
    | _ => false)) := rfl
theorem xz_149_41 : xm_run call xm_c149 nL mc ms ret Q (f + 1) (xm_drop 41 xm_c149) lv st G E kc ks = (xm_run call xm_c149 nL mc ms ret Q f (xm_drop 2 xm_c149) lv st G E kc ks) := rfl
theorem xz_149_42 : xm_run call xm_c149 nL mc ms ret Q (f + 1) (xm_drop 42 xm_c149) lv st G E kc ks = ((match xm_get lv 0 with
    | some w => bif xm_isA w then xm_run call xm_c149 nL mc ms ret Q f (xm_drop 43 xm_c149) lv (w :: st) G E kc ks else false
    | none => false)) := rfl
theorem xz_149_43 : xm_run call xm_c149 nL mc ms ret Q (f + 1) (xm_drop 43 xm_c149) lv st G E kc ks = (bif Nat.beq 148 1006 || Nat.beq 148 1007 then xm_strl 148 st G (fun st => xm_run call xm_c149 nL mc ms ret Q f (xm_drop 44 xm_c149) lv st G E kc ks) else xm_call call mc ms 148 0 st G E kc ks (fun st G E kc ks => xm_run call xm_c149 nL mc ms ret Q f (xm_drop 44 xm_c149) lv st G E kc ks)) := rfl
theorem xz_149_44 : xm_run call xm_c149 nL mc ms ret Q (f + 1) (xm_drop 44 xm_c149) lv st G E kc ks = ((match st with
    | [w] => bif xm_isI w && (xm_rok ret w && (Nat.ble kc mc && Nat.ble ks ms)) then Q (some w) G E else false
    | _ => false)) := rfl
theorem xz_150_0 : xm_run call xm_c150 nL mc ms ret Q (f + 1) (xm_drop 0 xm_c150) lv st G E kc ks = (xm_run call xm_c150 nL mc ms ret Q f (xm_drop 1 xm_c150) lv ((.int 0) :: st) G E kc ks) := rfl
theorem xz_150_1 : xm_run call xm_c150 nL mc ms ret Q (f + 1) (xm_drop 1 xm_c150) lv st G E kc ks = ((match st with
    | w :: st => bif xm_isI w && Nat.blt 1 nL then xm_run call xm_c150 nL mc ms ret Q f (xm_drop 2 xm_c150) (xm_set1 lv 1 w) st G E kc ks else false
    | _ => false)) := rfl
theorem xz_150_2 : xm_run call xm_c150 nL mc ms ret Q (f + 1) (xm_drop 2 xm_c150) lv st G E kc ks = ((match xm_get lv 1 with
    | some w => bif xm_isI w then xm_run call xm_c150 nL mc ms ret Q f (xm_drop 3 xm_c150) lv (w :: st) G E kc ks else false
    | none => false)) := rfl
theorem xz_150_3 : xm_run call xm_c150 nL mc ms ret Q (f + 1) (xm_drop 3 xm_c150) lv st G E kc ks = ((match xm_get lv 0 with
    | some w => bif xm_isA w then xm_run call xm_c150 nL mc ms ret Q f (xm_drop 4 xm_c150) lv (w :: st) G E kc ks else false
    | none => false)) := rfl
theorem xz_150_4 : xm_run call xm_c150 nL mc ms ret Q (f + 1) (xm_drop 4 xm_c150) lv st G E kc ks = (xm_getf 11 16 st G (fun st => xm_run call xm_c150 nL mc ms ret Q f (xm_drop 5 xm_c150) lv st G E kc ks)) := rfl
theorem xz_150_5 : xm_run call xm_c150 nL mc ms ret Q (f + 1) (xm_drop 5 xm_c150) lv st G E kc ks = ((match st with
    | w :: u :: st => xm_cmpI E u w (fun E s => bif xm_holds .ge s then xm_run call xm_c150 nL mc ms ret Q f (xm_drop 16 xm_c150) lv st G E kc ks else xm_run call xm_c150 nL mc ms ret Q f (xm_drop 6 xm_c150) lv st G E kc ks)
    | _ => false)) := rfl
theorem xz_150_6 : xm_run call xm_c150 nL mc ms ret Q (f + 1) (xm_drop 6 xm_c150) lv st G E kc ks = ((match xm_get lv 0 with
    | some w => bif xm_isA w then xm_run call xm_c150 nL mc ms ret Q f (xm_drop 7 xm_c150) lv (w :: st) G E kc ks else false
    | none => false)) := rfl
theorem xz_150_7 : xm_run call xm_c150 nL mc ms ret Q (f + 1) (xm_drop 7 xm_c150) lv st G E kc ks = (xm_getf 11 15 st G (fun st => xm_run call xm_c150 nL mc ms ret Q f (xm_drop 8 xm_c150) lv st G E kc ks)) := rfl
theorem xz_150_8 : xm_run call xm_c150 nL mc ms ret Q (f + 1) (xm_drop 8 xm_c150) lv st G E kc ks = ((match xm_get lv 1 with
    | some w => bif xm_isI w then xm_run call xm_c150 nL mc ms ret Q f (xm_drop 9 xm_c150) lv (w :: st) G E kc ks else false
    | none => false)) := rfl
theorem xz_150_9 : xm_run call xm_c150 nL mc ms ret Q (f + 1) (xm_drop 9 xm_c150) lv st G E kc ks = (xm_iald st G E (fun st E => xm_run call xm_c150 nL mc ms ret Q f (xm_drop 10 xm_c150) lv st G E kc ks)) := rfl
theorem xz_150_10 : xm_run call xm_c150 nL mc ms ret Q (f + 1) (xm_drop 10 xm_c150) lv st G E kc ks = (xm_run call xm_c150 nL mc ms ret Q f (xm_drop 11 xm_c150) lv ((.int 91) :: st) G E kc ks) := rfl
theorem xz_150_11 : xm_run call xm_c150 nL mc ms ret Q (f + 1) (xm_drop 11 xm_c150) lv st G E kc ks = ((match st with
    | w :: u :: st => xm_cmpI E u w (fun E s => bif xm_holds .ne s then xm_run call xm_c150 nL mc ms ret Q f (xm_drop 14 xm_c150) lv st G E kc ks else xm_run call xm_c150 nL mc ms ret Q f (xm_drop 12 xm_c150) lv st G E kc ks)
    | _ => false)) := rfl
theorem xz_150_12 : xm_run call xm_c150 nL mc ms ret Q (f + 1) (xm_drop 12 xm_c150) lv st G E kc ks = (xm_run call xm_c150 nL mc ms ret Q f (xm_drop 13 xm_c150) lv ((.int 1) :: st) G E kc ks) := rfl
theorem xz_150_13 : xm_run call xm_c150 nL mc ms ret Q (f + 1) (xm_drop 13 xm_c150) lv st G E kc ks = ((match st with
    | [w] => bif xm_isI w && (xm_rok ret w && (Nat.ble kc mc && Nat.ble ks ms)) then Q (some w) G E else false
    | _ => false)) := rfl
theorem xz_150_14 : xm_run call xm_c150 nL mc ms ret Q (f + 1) (xm_drop 14 xm_c150) lv st G E kc ks = ((match xm_get lv 1 with
    | some w => bif Nat.blt 1 nL then xm_conc E w (fun E x => xm_frc (x + Int32.ofInt 1) (fun z => xm_run call xm_c150 nL mc ms ret Q f (xm_drop 15 xm_c150) (xm_set1 lv 1 (.int z)) st G E kc ks)) else false
    | none => false)) := rfl
theorem xz_150_15 : xm_run call xm_c150 nL mc ms ret Q (f + 1) (xm_drop 15 xm_c150) lv st G E kc ks = (xm_run call xm_c150 nL mc ms ret Q f (xm_drop 2 xm_c150) lv st G E kc ks) := rfl
theorem xz_150_16 : xm_run call xm_c150 nL mc ms ret Q (f + 1) (xm_drop 16 xm_c150) lv st G E kc ks = (xm_run call xm_c150 nL mc ms ret Q f (xm_drop 17 xm_c150) lv ((.int 0) :: st) G E kc ks) := rfl
theorem xz_150_17 : xm_run call xm_c150 nL mc ms ret Q (f + 1) (xm_drop 17 xm_c150) lv st G E kc ks = ((match st with
    | [w] => bif xm_isI w && (xm_rok ret w && (Nat.ble kc mc && Nat.ble ks ms)) then Q (some w) G E else false
    | _ => false)) := rfl
theorem xz_151_0 : xm_run call xm_c151 nL mc ms ret Q (f + 1) (xm_drop 0 xm_c151) lv st G E kc ks = ((match xm_get lv 0 with
    | some w => bif xm_isA w then xm_run call xm_c151 nL mc ms ret Q f (xm_drop 1 xm_c151) lv (w :: st) G E kc ks else false
    | none => false)) := rfl
theorem xz_151_1 : xm_run call xm_c151 nL mc ms ret Q (f + 1) (xm_drop 1 xm_c151) lv st G E kc ks = (xm_run call xm_c151 nL mc ms ret Q f (xm_drop 2 xm_c151) lv ((.int 3) :: st) G E kc ks) := rfl
theorem xz_151_2 : xm_run call xm_c151 nL mc ms ret Q (f + 1) (xm_drop 2 xm_c151) lv st G E kc ks = (bif Nat.beq 144 1006 || Nat.beq 144 1007 then xm_strl 144 st G (fun st => xm_run call xm_c151 nL mc ms ret Q f (xm_drop 3 xm_c151) lv st G E kc ks) else xm_call call mc ms 144 0 st G E kc ks (fun st G E kc ks => xm_run call xm_c151 nL mc ms ret Q f (xm_drop 3 xm_c151) lv st G E kc ks)) := rfl
theorem xz_151_3 : xm_run call xm_c151 nL mc ms ret Q (f + 1) (xm_drop 3 xm_c151) lv st G E kc ks = ((match xm_get lv 0 with
    | some w => bif xm_isA w then xm_run call xm_c151 nL mc ms ret Q f (xm_drop 4 xm_c151) lv (w :: st) G E kc ks else false
    | none => false)) := rfl
theorem xz_151_4 : xm_run call xm_c151 nL mc ms ret Q (f + 1) (xm_drop 4 xm_c151) lv st G E kc ks = (bif Nat.beq 132 1006 || Nat.beq 132 1007 then xm_strl 132 st G (fun st => xm_run call xm_c151 nL mc ms ret Q f (xm_drop 5 xm_c151) lv st G E kc ks) else xm_call call mc ms 132 0 st G E kc ks (fun st G E kc ks => xm_run call xm_c151 nL mc ms ret Q f (xm_drop 5 xm_c151) lv st G E kc ks)) := rfl
theorem xz_151_5 : xm_run call xm_c151 nL mc ms ret Q (f + 1) (xm_drop 5 xm_c151) lv st G E kc ks = (xm_run call xm_c151 nL mc ms ret Q f (xm_drop 6 xm_c151) lv ((.int 93) :: st) G E kc ks) := rfl
theorem xz_151_6 : xm_run call xm_c151 nL mc ms ret Q (f + 1) (xm_drop 6 xm_c151) lv st G E kc ks = ((match st with
    | w :: u :: st => xm_cmpI E u w (fun E s => bif xm_holds .ne s then xm_run call xm_c151 nL mc ms ret Q f (xm_drop 35 xm_c151) lv st G E kc ks else xm_run call xm_c151 nL mc ms ret Q f (xm_drop 7 xm_c151) lv st G E kc ks)
    | _ => false)) := rfl
theorem xz_151_7 : xm_run call xm_c151 nL mc ms ret Q (f + 1) (xm_drop 7 xm_c151) lv st G E kc ks = ((match xm_get lv 0 with
    | some w => bif xm_isA w then xm_run call xm_c151 nL mc ms ret Q f (xm_drop 8 xm_c151) lv (w :: st) G E kc ks else false
    | none => false)) := rfl
theorem xz_151_8 : xm_run call xm_c151 nL mc ms ret Q (f + 1) (xm_drop 8 xm_c151) lv st G E kc ks = (bif Nat.beq 150 1006 || Nat.beq 150 1007 then xm_strl 150 st G (fun st => xm_run call xm_c151 nL mc ms ret Q f (xm_drop 9 xm_c151) lv st G E kc ks) else xm_call call mc ms 150 0 st G E kc ks (fun st G E kc ks => xm_run call xm_c151 nL mc ms ret Q f (xm_drop 9 xm_c151) lv st G E kc ks)) := rfl
theorem xz_151_9 : xm_run call xm_c151 nL mc ms ret Q (f + 1) (xm_drop 9 xm_c151) lv st G E kc ks = ((match st with
    | w :: st => xm_cmpI E w (.int 0) (fun E s => bif xm_holds .eq s then xm_run call xm_c151 nL mc ms ret Q f (xm_drop 35 xm_c151) lv st G E kc ks else xm_run call xm_c151 nL mc ms ret Q f (xm_drop 10 xm_c151) lv st G E kc ks)
    | _ => false)) := rfl
theorem xz_151_10 : xm_run call xm_c151 nL mc ms ret Q (f + 1) (xm_drop 10 xm_c151) lv st G E kc ks = ((match xm_get lv 0 with
    | some w => bif xm_isA w then xm_run call xm_c151 nL mc ms ret Q f (xm_drop 11 xm_c151) lv (w :: st) G E kc ks else false
    | none => false)) := rfl
theorem xz_151_11 : xm_run call xm_c151 nL mc ms ret Q (f + 1) (xm_drop 11 xm_c151) lv st G E kc ks = (xm_run call xm_c151 nL mc ms ret Q f (xm_drop 12 xm_c151) lv ((.int 1) :: st) G E kc ks) := rfl
theorem xz_151_12 : xm_run call xm_c151 nL mc ms ret Q (f + 1) (xm_drop 12 xm_c151) lv st G E kc ks = (bif Nat.beq 144 1006 || Nat.beq 144 1007 then xm_strl 144 st G (fun st => xm_run call xm_c151 nL mc ms ret Q f (xm_drop 13 xm_c151) lv st G E kc ks) else xm_call call mc ms 144 0 st G E kc ks (fun st G E kc ks => xm_run call xm_c151 nL mc ms ret Q f (xm_drop 13 xm_c151) lv st G E kc ks)) := rfl
theorem xz_151_13 : xm_run call xm_c151 nL mc ms ret Q (f + 1) (xm_drop 13 xm_c151) lv st G E kc ks = ((match xm_get lv 0 with
    | some w => bif xm_isA w then xm_run call xm_c151 nL mc ms ret Q f (xm_drop 14 xm_c151) lv (w :: st) G E kc ks else false
    | none => false)) := rfl
theorem xz_151_14 : xm_run call xm_c151 nL mc ms ret Q (f + 1) (xm_drop 14 xm_c151) lv st G E kc ks = ((match st with
    | w :: st => bif xm_cat1 w then xm_run call xm_c151 nL mc ms ret Q f (xm_drop 15 xm_c151) lv (w :: w :: st) G E kc ks else false
    | _ => false)) := rfl
theorem xz_151_15 : xm_run call xm_c151 nL mc ms ret Q (f + 1) (xm_drop 15 xm_c151) lv st G E kc ks = (xm_getf 11 16 st G (fun st => xm_run call xm_c151 nL mc ms ret Q f (xm_drop 16 xm_c151) lv st G E kc ks)) := rfl
theorem xz_151_16 : xm_run call xm_c151 nL mc ms ret Q (f + 1) (xm_drop 16 xm_c151) lv st G E kc ks = (xm_run call xm_c151 nL mc ms ret Q f (xm_drop 17 xm_c151) lv ((.int 1) :: st) G E kc ks) := rfl
theorem xz_151_17 : xm_run call xm_c151 nL mc ms ret Q (f + 1) (xm_drop 17 xm_c151) lv st G E kc ks = (xm_int2 .isub st E (fun st E => xm_run call xm_c151 nL mc ms ret Q f (xm_drop 18 xm_c151) lv st G E kc ks)) := rfl
theorem xz_151_18 : xm_run call xm_c151 nL mc ms ret Q (f + 1) (xm_drop 18 xm_c151) lv st G E kc ks = (xm_putf 11 16 st G (fun st G => xm_run call xm_c151 nL mc ms ret Q f (xm_drop 19 xm_c151) lv st G E kc ks)) := rfl
theorem xz_151_19 : xm_run call xm_c151 nL mc ms ret Q (f + 1) (xm_drop 19 xm_c151) lv st G E kc ks = ((match xm_get lv 0 with
    | some w => bif xm_isA w then xm_run call xm_c151 nL mc ms ret Q f (xm_drop 20 xm_c151) lv (w :: st) G E kc ks else false
    | none => false)) := rfl
theorem xz_151_20 : xm_run call xm_c151 nL mc ms ret Q (f + 1) (xm_drop 20 xm_c151) lv st G E kc ks = ((match st with
    | w :: st => bif xm_cat1 w then xm_run call xm_c151 nL mc ms ret Q f (xm_drop 21 xm_c151) lv (w :: w :: st) G E kc ks else false
    | _ => false)) := rfl
theorem xz_151_21 : xm_run call xm_c151 nL mc ms ret Q (f + 1) (xm_drop 21 xm_c151) lv st G E kc ks = (xm_getf 11 13 st G (fun st => xm_run call xm_c151 nL mc ms ret Q f (xm_drop 22 xm_c151) lv st G E kc ks)) := rfl
theorem xz_151_22 : xm_run call xm_c151 nL mc ms ret Q (f + 1) (xm_drop 22 xm_c151) lv st G E kc ks = (xm_run call xm_c151 nL mc ms ret Q f (xm_drop 23 xm_c151) lv ((.int 1) :: st) G E kc ks) := rfl
theorem xz_151_23 : xm_run call xm_c151 nL mc ms ret Q (f + 1) (xm_drop 23 xm_c151) lv st G E kc ks = (xm_int2 .isub st E (fun st E => xm_run call xm_c151 nL mc ms ret Q f (xm_drop 24 xm_c151) lv st G E kc ks)) := rfl
theorem xz_151_24 : xm_run call xm_c151 nL mc ms ret Q (f + 1) (xm_drop 24 xm_c151) lv st G E kc ks = (xm_putf 11 13 st G (fun st G => xm_run call xm_c151 nL mc ms ret Q f (xm_drop 25 xm_c151) lv st G E kc ks)) := rfl
theorem xz_151_25 : xm_run call xm_c151 nL mc ms ret Q (f + 1) (xm_drop 25 xm_c151) lv st G E kc ks = ((match xm_get lv 0 with
    | some w => bif xm_isA w then xm_run call xm_c151 nL mc ms ret Q f (xm_drop 26 xm_c151) lv (w :: st) G E kc ks else false
    | none => false)) := rfl
theorem xz_151_26 : xm_run call xm_c151 nL mc ms ret Q (f + 1) (xm_drop 26 xm_c151) lv st G E kc ks = ((match st with
    | w :: st => bif xm_cat1 w then xm_run call xm_c151 nL mc ms ret Q f (xm_drop 27 xm_c151) lv (w :: w :: st) G E kc ks else false
    | _ => false)) := rfl
theorem xz_151_27 : xm_run call xm_c151 nL mc ms ret Q (f + 1) (xm_drop 27 xm_c151) lv st G E kc ks = (xm_getf 11 8 st G (fun st => xm_run call xm_c151 nL mc ms ret Q f (xm_drop 28 xm_c151) lv st G E kc ks)) := rfl
theorem xz_151_28 : xm_run call xm_c151 nL mc ms ret Q (f + 1) (xm_drop 28 xm_c151) lv st G E kc ks = (xm_run call xm_c151 nL mc ms ret Q f (xm_drop 29 xm_c151) lv ((.int 1) :: st) G E kc ks) := rfl
theorem xz_151_29 : xm_run call xm_c151 nL mc ms ret Q (f + 1) (xm_drop 29 xm_c151) lv st G E kc ks = (xm_int2 .iadd st E (fun st E => xm_run call xm_c151 nL mc ms ret Q f (xm_drop 30 xm_c151) lv st G E kc ks)) := rfl
theorem xz_151_30 : xm_run call xm_c151 nL mc ms ret Q (f + 1) (xm_drop 30 xm_c151) lv st G E kc ks = (xm_putf 11 8 st G (fun st G => xm_run call xm_c151 nL mc ms ret Q f (xm_drop 31 xm_c151) lv st G E kc ks)) := rfl
theorem xz_151_31 : xm_run call xm_c151 nL mc ms ret Q (f + 1) (xm_drop 31 xm_c151) lv st G E kc ks = ((match xm_get lv 0 with
    | some w => bif xm_isA w then xm_run call xm_c151 nL mc ms ret Q f (xm_drop 32 xm_c151) lv (w :: st) G E kc ks else false
    | none => false)) := rfl
theorem xz_151_32 : xm_run call xm_c151 nL mc ms ret Q (f + 1) (xm_drop 32 xm_c151) lv st G E kc ks = (xm_run call xm_c151 nL mc ms ret Q f (xm_drop 33 xm_c151) lv ((.int 3) :: st) G E kc ks) := rfl
theorem xz_151_33 : xm_run call xm_c151 nL mc ms ret Q (f + 1) (xm_drop 33 xm_c151) lv st G E kc ks = (bif Nat.beq 144 1006 || Nat.beq 144 1007 then xm_strl 144 st G (fun st => xm_run call xm_c151 nL mc ms ret Q f (xm_drop 34 xm_c151) lv st G E kc ks) else xm_call call mc ms 144 0 st G E kc ks (fun st G E kc ks => xm_run call xm_c151 nL mc ms ret Q f (xm_drop 34 xm_c151) lv st G E kc ks)) := rfl
theorem xz_151_34 : xm_run call xm_c151 nL mc ms ret Q (f + 1) (xm_drop 34 xm_c151) lv st G E kc ks = (xm_run call xm_c151 nL mc ms ret Q f (xm_drop 3 xm_c151) lv st G E kc ks) := rfl
theorem xz_151_35 : xm_run call xm_c151 nL mc ms ret Q (f + 1) (xm_drop 35 xm_c151) lv st G E kc ks = ((match st with
    | [] => bif ret.isNone && (Nat.ble kc mc && Nat.ble ks ms) then Q none G E else false
    | _ => false)) := rfl
theorem xz_152_0 : xm_run call xm_c152 nL mc ms ret Q (f + 1) (xm_drop 0 xm_c152) lv st G E kc ks = ((match xm_get lv 0 with
    | some w => bif xm_isA w then xm_run call xm_c152 nL mc ms ret Q f (xm_drop 1 xm_c152) lv (w :: st) G E kc ks else false
    | none => false)) := rfl
theorem xz_152_1 : xm_run call xm_c152 nL mc ms ret Q (f + 1) (xm_drop 1 xm_c152) lv st G E kc ks = (xm_run call xm_c152 nL mc ms ret Q f (xm_drop 2 xm_c152) lv ((.int 0) :: st) G E kc ks) := rfl
theorem xz_152_2 : xm_run call xm_c152 nL mc ms ret Q (f + 1) (xm_drop 2 xm_c152) lv st G E kc ks = (xm_putf 11 16 st G (fun st G => xm_run call xm_c152 nL mc ms ret Q f (xm_drop 3 xm_c152) lv st G E kc ks)) := rfl
theorem xz_152_3 : xm_run call xm_c152 nL mc ms ret Q (f + 1) (xm_drop 3 xm_c152) lv st G E kc ks = ((match xm_get lv 0 with
    | some w => bif xm_isA w then xm_run call xm_c152 nL mc ms ret Q f (xm_drop 4 xm_c152) lv (w :: st) G E kc ks else false
    | none => false)) := rfl
theorem xz_152_4 : xm_run call xm_c152 nL mc ms ret Q (f + 1) (xm_drop 4 xm_c152) lv st G E kc ks = (xm_run call xm_c152 nL mc ms ret Q f (xm_drop 5 xm_c152) lv ((.int 0) :: st) G E kc ks) := rfl
theorem xz_152_5 : xm_run call xm_c152 nL mc ms ret Q (f + 1) (xm_drop 5 xm_c152) lv st G E kc ks = (xm_putf 11 13 st G (fun st G => xm_run call xm_c152 nL mc ms ret Q f (xm_drop 6 xm_c152) lv st G E kc ks)) := rfl
theorem xz_152_6 : xm_run call xm_c152 nL mc ms ret Q (f + 1) (xm_drop 6 xm_c152) lv st G E kc ks = (xm_run call xm_c152 nL mc ms ret Q f (xm_drop 7 xm_c152) lv ((.int 1) :: st) G E kc ks) := rfl
theorem xz_152_7 : xm_run call xm_c152 nL mc ms ret Q (f + 1) (xm_drop 7 xm_c152) lv st G E kc ks = ((match st with
    | w :: st => bif xm_isI w && Nat.blt 1 nL then xm_run call xm_c152 nL mc ms ret Q f (xm_drop 8 xm_c152) (xm_set1 lv 1 w) st G E kc ks else false
    | _ => false)) := rfl
theorem xz_152_8 : xm_run call xm_c152 nL mc ms ret Q (f + 1) (xm_drop 8 xm_c152) lv st G E kc ks = ((match xm_get lv 1 with
    | some w => bif xm_isI w then xm_run call xm_c152 nL mc ms ret Q f (xm_drop 9 xm_c152) lv (w :: st) G E kc ks else false
    | none => false)) := rfl
theorem xz_152_9 : xm_run call xm_c152 nL mc ms ret Q (f + 1) (xm_drop 9 xm_c152) lv st G E kc ks = ((match st with
    | w :: st => xm_cmpI E w (.int 0) (fun E s => bif xm_holds .eq s then xm_run call xm_c152 nL mc ms ret Q f (xm_drop 58 xm_c152) lv st G E kc ks else xm_run call xm_c152 nL mc ms ret Q f (xm_drop 10 xm_c152) lv st G E kc ks)
    | _ => false)) := rfl
theorem xz_152_10 : xm_run call xm_c152 nL mc ms ret Q (f + 1) (xm_drop 10 xm_c152) lv st G E kc ks = ((match xm_get lv 0 with
    | some w => bif xm_isA w then xm_run call xm_c152 nL mc ms ret Q f (xm_drop 11 xm_c152) lv (w :: st) G E kc ks else false
    | none => false)) := rfl
theorem xz_152_11 : xm_run call xm_c152 nL mc ms ret Q (f + 1) (xm_drop 11 xm_c152) lv st G E kc ks = (bif Nat.beq 149 1006 || Nat.beq 149 1007 then xm_strl 149 st G (fun st => xm_run call xm_c152 nL mc ms ret Q f (xm_drop 12 xm_c152) lv st G E kc ks) else xm_call call mc ms 149 0 st G E kc ks (fun st G E kc ks => xm_run call xm_c152 nL mc ms ret Q f (xm_drop 12 xm_c152) lv st G E kc ks)) := rfl
theorem xz_152_12 : xm_run call xm_c152 nL mc ms ret Q (f + 1) (xm_drop 12 xm_c152) lv st G E kc ks = ((match st with
    | w :: st => xm_cmpI E w (.int 0) (fun E s => bif xm_holds .ne s then xm_run call xm_c152 nL mc ms ret Q f (xm_drop 15 xm_c152) lv st G E kc ks else xm_run call xm_c152 nL mc ms ret Q f (xm_drop 13 xm_c152) lv st G E kc ks)
    | _ => false)) := rfl
theorem xz_152_13 : xm_run call xm_c152 nL mc ms ret Q (f + 1) (xm_drop 13 xm_c152) lv st G E kc ks = (xm_run call xm_c152 nL mc ms ret Q f (xm_drop 14 xm_c152) lv ((.int 0) :: st) G E kc ks) := rfl
theorem xz_152_14 : xm_run call xm_c152 nL mc ms ret Q (f + 1) (xm_drop 14 xm_c152) lv st G E kc ks = ((match st with
    | [w] => bif xm_isI w && (xm_rok ret w && (Nat.ble kc mc && Nat.ble ks ms)) then Q (some w) G E else false
    | _ => false)) := rfl
theorem xz_152_15 : xm_run call xm_c152 nL mc ms ret Q (f + 1) (xm_drop 15 xm_c152) lv st G E kc ks = ((match xm_get lv 0 with
    | some w => bif xm_isA w then xm_run call xm_c152 nL mc ms ret Q f (xm_drop 16 xm_c152) lv (w :: st) G E kc ks else false
    | none => false)) := rfl
theorem xz_152_16 : xm_run call xm_c152 nL mc ms ret Q (f + 1) (xm_drop 16 xm_c152) lv st G E kc ks = (bif Nat.beq 151 1006 || Nat.beq 151 1007 then xm_strl 151 st G (fun st => xm_run call xm_c152 nL mc ms ret Q f (xm_drop 17 xm_c152) lv st G E kc ks) else xm_call call mc ms 151 0 st G E kc ks (fun st G E kc ks => xm_run call xm_c152 nL mc ms ret Q f (xm_drop 17 xm_c152) lv st G E kc ks)) := rfl
theorem xz_152_17 : xm_run call xm_c152 nL mc ms ret Q (f + 1) (xm_drop 17 xm_c152) lv st G E kc ks = ((match xm_get lv 0 with
    | some w => bif xm_isA w then xm_run call xm_c152 nL mc ms ret Q f (xm_drop 18 xm_c152) lv (w :: st) G E kc ks else false
    | none => false)) := rfl
theorem xz_152_18 : xm_run call xm_c152 nL mc ms ret Q (f + 1) (xm_drop 18 xm_c152) lv st G E kc ks = (xm_run call xm_c152 nL mc ms ret Q f (xm_drop 19 xm_c152) lv ((.long 6385252) :: st) G E kc ks) := rfl
theorem xz_152_19 : xm_run call xm_c152 nL mc ms ret Q (f + 1) (xm_drop 19 xm_c152) lv st G E kc ks = (bif Nat.beq 135 1006 || Nat.beq 135 1007 then xm_strl 135 st G (fun st => xm_run call xm_c152 nL mc ms ret Q f (xm_drop 20 xm_c152) lv st G E kc ks) else xm_call call mc ms 135 0 st G E kc ks (fun st G E kc ks => xm_run call xm_c152 nL mc ms ret Q f (xm_drop 20 xm_c152) lv st G E kc ks)) := rfl
theorem xz_152_20 : xm_run call xm_c152 nL mc ms ret Q (f + 1) (xm_drop 20 xm_c152) lv st G E kc ks = ((match st with
    | w :: st => xm_cmpI E w (.int 0) (fun E s => bif xm_holds .ne s then xm_run call xm_c152 nL mc ms ret Q f (xm_drop 25 xm_c152) lv st G E kc ks else xm_run call xm_c152 nL mc ms ret Q f (xm_drop 21 xm_c152) lv st G E kc ks)
    | _ => false)) := rfl
theorem xz_152_21 : xm_run call xm_c152 nL mc ms ret Q (f + 1) (xm_drop 21 xm_c152) lv st G E kc ks = ((match xm_get lv 0 with
    | some w => bif xm_isA w then xm_run call xm_c152 nL mc ms ret Q f (xm_drop 22 xm_c152) lv (w :: st) G E kc ks else false
    | none => false)) := rfl
theorem xz_152_22 : xm_run call xm_c152 nL mc ms ret Q (f + 1) (xm_drop 22 xm_c152) lv st G E kc ks = (xm_run call xm_c152 nL mc ms ret Q f (xm_drop 23 xm_c152) lv ((.long 28530) :: st) G E kc ks) := rfl
theorem xz_152_23 : xm_run call xm_c152 nL mc ms ret Q (f + 1) (xm_drop 23 xm_c152) lv st G E kc ks = (bif Nat.beq 135 1006 || Nat.beq 135 1007 then xm_strl 135 st G (fun st => xm_run call xm_c152 nL mc ms ret Q f (xm_drop 24 xm_c152) lv st G E kc ks) else xm_call call mc ms 135 0 st G E kc ks (fun st G E kc ks => xm_run call xm_c152 nL mc ms ret Q f (xm_drop 24 xm_c152) lv st G E kc ks)) := rfl
theorem xz_152_24 : xm_run call xm_c152 nL mc ms ret Q (f + 1) (xm_drop 24 xm_c152) lv st G E kc ks = ((match st with
    | w :: st => xm_cmpI E w (.int 0) (fun E s => bif xm_holds .eq s then xm_run call xm_c152 nL mc ms ret Q f (xm_drop 27 xm_c152) lv st G E kc ks else xm_run call xm_c152 nL mc ms ret Q f (xm_drop 25 xm_c152) lv st G E kc ks)
    | _ => false)) := rfl
theorem xz_152_25 : xm_run call xm_c152 nL mc ms ret Q (f + 1) (xm_drop 25 xm_c152) lv st G E kc ks = (xm_run call xm_c152 nL mc ms ret Q f (xm_drop 26 xm_c152) lv ((.int 1) :: st) G E kc ks) := rfl
theorem xz_152_26 : xm_run call xm_c152 nL mc ms ret Q (f + 1) (xm_drop 26 xm_c152) lv st G E kc ks = (xm_run call xm_c152 nL mc ms ret Q f (xm_drop 28 xm_c152) lv st G E kc ks) := rfl
theorem xz_152_27 : xm_run call xm_c152 nL mc ms ret Q (f + 1) (xm_drop 27 xm_c152) lv st G E kc ks = (xm_run call xm_c152 nL mc ms ret Q f (xm_drop 28 xm_c152) lv ((.int 0) :: st) G E kc ks) := rfl
theorem xz_152_28 : xm_run call xm_c152 nL mc ms ret Q (f + 1) (xm_drop 28 xm_c152) lv st G E kc ks = ((match st with
    | w :: st => bif xm_isI w && Nat.blt 1 nL then xm_run call xm_c152 nL mc ms ret Q f (xm_drop 29 xm_c152) (xm_set1 lv 1 w) st G E kc ks else false
    | _ => false)) := rfl
theorem xz_152_29 : xm_run call xm_c152 nL mc ms ret Q (f + 1) (xm_drop 29 xm_c152) lv st G E kc ks = ((match xm_get lv 1 with
    | some w => bif xm_isI w then xm_run call xm_c152 nL mc ms ret Q f (xm_drop 30 xm_c152) lv (w :: st) G E kc ks else false
    | none => false)) := rfl
theorem xz_152_30 : xm_run call xm_c152 nL mc ms ret Q (f + 1) (xm_drop 30 xm_c152) lv st G E kc ks = ((match st with
    | w :: st => xm_cmpI E w (.int 0) (fun E s => bif xm_holds .eq s then xm_run call xm_c152 nL mc ms ret Q f (xm_drop 8 xm_c152) lv st G E kc ks else xm_run call xm_c152 nL mc ms ret Q f (xm_drop 31 xm_c152) lv st G E kc ks)
    | _ => false)) := rfl
theorem xz_152_31 : xm_run call xm_c152 nL mc ms ret Q (f + 1) (xm_drop 31 xm_c152) lv st G E kc ks = ((match xm_get lv 0 with
    | some w => bif xm_isA w then xm_run call xm_c152 nL mc ms ret Q f (xm_drop 32 xm_c152) lv (w :: st) G E kc ks else false
    | none => false)) := rfl
theorem xz_152_32 : xm_run call xm_c152 nL mc ms ret Q (f + 1) (xm_drop 32 xm_c152) lv st G E kc ks = (xm_run call xm_c152 nL mc ms ret Q f (xm_drop 33 xm_c152) lv ((.long 6385252) :: st) G E kc ks) := rfl
theorem xz_152_33 : xm_run call xm_c152 nL mc ms ret Q (f + 1) (xm_drop 33 xm_c152) lv st G E kc ks = (bif Nat.beq 135 1006 || Nat.beq 135 1007 then xm_strl 135 st G (fun st => xm_run call xm_c152 nL mc ms ret Q f (xm_drop 34 xm_c152) lv st G E kc ks) else xm_call call mc ms 135 0 st G E kc ks (fun st G E kc ks => xm_run call xm_c152 nL mc ms ret Q f (xm_drop 34 xm_c152) lv st G E kc ks)) := rfl
theorem xz_152_34 : xm_run call xm_c152 nL mc ms ret Q (f + 1) (xm_drop 34 xm_c152) lv st G E kc ks = ((match st with
    | w :: st => xm_cmpI E w (.int 0) (fun E s => bif xm_holds .eq s then xm_run call xm_c152 nL mc ms ret Q f (xm_drop 37 xm_c152) lv st G E kc ks else xm_run call xm_c152 nL mc ms ret Q f (xm_drop 35 xm_c152) lv st G E kc ks)
    | _ => false)) := rfl
theorem xz_152_35 : xm_run call xm_c152 nL mc ms ret Q (f + 1) (xm_drop 35 xm_c152) lv st G E kc ks = (xm_run call xm_c152 nL mc ms ret Q f (xm_drop 36 xm_c152) lv ((.int 12) :: st) G E kc ks) := rfl
theorem xz_152_36 : xm_run call xm_c152 nL mc ms ret Q (f + 1) (xm_drop 36 xm_c152) lv st G E kc ks = (xm_run call xm_c152 nL mc ms ret Q f (xm_drop 38 xm_c152) lv st G E kc ks) := rfl
theorem xz_152_37 : xm_run call xm_c152 nL mc ms ret Q (f + 1) (xm_drop 37 xm_c152) lv st G E kc ks = (xm_run call xm_c152 nL mc ms ret Q f (xm_drop 38 xm_c152) lv ((.int 13) :: st) G E kc ks) := rfl
theorem xz_152_38 : xm_run call xm_c152 nL mc ms ret Q (f + 1) (xm_drop 38 xm_c152) lv st G E kc ks = ((match st with
    | w :: st => bif xm_isI w && Nat.blt 2 nL then xm_run call xm_c152 nL mc ms ret Q f (xm_drop 39 xm_c152) (xm_set1 lv 2 w) st G E kc ks else false
    | _ => false)) := rfl
theorem xz_152_39 : xm_run call xm_c152 nL mc ms ret Q (f + 1) (xm_drop 39 xm_c152) lv st G E kc ks = ((match xm_get lv 0 with
    | some w => bif xm_isA w then xm_run call xm_c152 nL mc ms ret Q f (xm_drop 40 xm_c152) lv (w :: st) G E kc ks else false
    | none => false)) := rfl
theorem xz_152_40 : xm_run call xm_c152 nL mc ms ret Q (f + 1) (xm_drop 40 xm_c152) lv st G E kc ks = (bif Nat.beq 136 1006 || Nat.beq 136 1007 then xm_strl 136 st G (fun st => xm_run call xm_c152 nL mc ms ret Q f (xm_drop 41 xm_c152) lv st G E kc ks) else xm_call call mc ms 136 0 st G E kc ks (fun st G E kc ks => xm_run call xm_c152 nL mc ms ret Q f (xm_drop 41 xm_c152) lv st G E kc ks)) := rfl
theorem xz_152_41 : xm_run call xm_c152 nL mc ms ret Q (f + 1) (xm_drop 41 xm_c152) lv st G E kc ks = ((match xm_get lv 0 with
    | some w => bif xm_isA w then xm_run call xm_c152 nL mc ms ret Q f (xm_drop 42 xm_c152) lv (w :: st) G E kc ks else false
    | none => false)) := rfl
theorem xz_152_42 : xm_run call xm_c152 nL mc ms ret Q (f + 1) (xm_drop 42 xm_c152) lv st G E kc ks = ((match xm_get lv 2 with
    | some w => bif xm_isI w then xm_run call xm_c152 nL mc ms ret Q f (xm_drop 43 xm_c152) lv (w :: st) G E kc ks else false
    | none => false)) := rfl
theorem xz_152_43 : xm_run call xm_c152 nL mc ms ret Q (f + 1) (xm_drop 43 xm_c152) lv st G E kc ks = (bif Nat.beq 143 1001 then xm_acopy st G (fun st G => xm_run call xm_c152 nL mc ms ret Q f (xm_drop 44 xm_c152) lv st G E kc ks) else bif Nat.beq 143 1003 || (Nat.beq 143 1004 || Nat.beq 143 1005) then xm_math 143 st (fun st => xm_run call xm_c152 nL mc ms ret Q f (xm_drop 44 xm_c152) lv st G E kc ks) else bif Nat.beq 1 3 then xm_call call mc ms 143 3 st G E kc ks (fun st G E kc ks => xm_run call xm_c152 nL mc ms ret Q f (xm_drop 44 xm_c152) lv st G E kc ks) else xm_call call mc ms 143 1 st G E kc ks (fun st G E kc ks => xm_run call xm_c152 nL mc ms ret Q f (xm_drop 44 xm_c152) lv st G E kc ks)) := rfl
theorem xz_152_44 : xm_run call xm_c152 nL mc ms ret Q (f + 1) (xm_drop 44 xm_c152) lv st G E kc ks = (bif Nat.beq 144 1006 || Nat.beq 144 1007 then xm_strl 144 st G (fun st => xm_run call xm_c152 nL mc ms ret Q f (xm_drop 45 xm_c152) lv st G E kc ks) else xm_call call mc ms 144 0 st G E kc ks (fun st G E kc ks => xm_run call xm_c152 nL mc ms ret Q f (xm_drop 45 xm_c152) lv st G E kc ks)) := rfl
theorem xz_152_45 : xm_run call xm_c152 nL mc ms ret Q (f + 1) (xm_drop 45 xm_c152) lv st G E kc ks = ((match xm_get lv 0 with
    | some w => bif xm_isA w then xm_run call xm_c152 nL mc ms ret Q f (xm_drop 46 xm_c152) lv (w :: st) G E kc ks else false
    | none => false)) := rfl
theorem xz_152_46 : xm_run call xm_c152 nL mc ms ret Q (f + 1) (xm_drop 46 xm_c152) lv st G E kc ks = (xm_getf 11 15 st G (fun st => xm_run call xm_c152 nL mc ms ret Q f (xm_drop 47 xm_c152) lv st G E kc ks)) := rfl
theorem xz_152_47 : xm_run call xm_c152 nL mc ms ret Q (f + 1) (xm_drop 47 xm_c152) lv st G E kc ks = ((match xm_get lv 0 with
    | some w => bif xm_isA w then xm_run call xm_c152 nL mc ms ret Q f (xm_drop 48 xm_c152) lv (w :: st) G E kc ks else false
    | none => false)) := rfl
theorem xz_152_48 : xm_run call xm_c152 nL mc ms ret Q (f + 1) (xm_drop 48 xm_c152) lv st G E kc ks = (xm_getf 11 16 st G (fun st => xm_run call xm_c152 nL mc ms ret Q f (xm_drop 49 xm_c152) lv st G E kc ks)) := rfl
theorem xz_152_49 : xm_run call xm_c152 nL mc ms ret Q (f + 1) (xm_drop 49 xm_c152) lv st G E kc ks = ((match xm_get lv 2 with
    | some w => bif xm_isI w then xm_run call xm_c152 nL mc ms ret Q f (xm_drop 50 xm_c152) lv (w :: st) G E kc ks else false
    | none => false)) := rfl
theorem xz_152_50 : xm_run call xm_c152 nL mc ms ret Q (f + 1) (xm_drop 50 xm_c152) lv st G E kc ks = (xm_ast (fun t => Nat.beq t 100) xm_kI st G E (fun st G E => xm_run call xm_c152 nL mc ms ret Q f (xm_drop 51 xm_c152) lv st G E kc ks)) := rfl
theorem xz_152_51 : xm_run call xm_c152 nL mc ms ret Q (f + 1) (xm_drop 51 xm_c152) lv st G E kc ks = ((match xm_get lv 0 with
    | some w => bif xm_isA w then xm_run call xm_c152 nL mc ms ret Q f (xm_drop 52 xm_c152) lv (w :: st) G E kc ks else false
    | none => false)) := rfl
theorem xz_152_52 : xm_run call xm_c152 nL mc ms ret Q (f + 1) (xm_drop 52 xm_c152) lv st G E kc ks = ((match st with
    | w :: st => bif xm_cat1 w then xm_run call xm_c152 nL mc ms ret Q f (xm_drop 53 xm_c152) lv (w :: w :: st) G E kc ks else false
    | _ => false)) := rfl
theorem xz_152_53 : xm_run call xm_c152 nL mc ms ret Q (f + 1) (xm_drop 53 xm_c152) lv st G E kc ks = (xm_getf 11 16 st G (fun st => xm_run call xm_c152 nL mc ms ret Q f (xm_drop 54 xm_c152) lv st G E kc ks)) := rfl
theorem xz_152_54 : xm_run call xm_c152 nL mc ms ret Q (f + 1) (xm_drop 54 xm_c152) lv st G E kc ks = (xm_run call xm_c152 nL mc ms ret Q f (xm_drop 55 xm_c152) lv ((.int 1) :: st) G E kc ks) := rfl
theorem xz_152_55 : xm_run call xm_c152 nL mc ms ret Q (f + 1) (xm_drop 55 xm_c152) lv st G E kc ks = (xm_int2 .iadd st E (fun st E => xm_run call xm_c152 nL mc ms ret Q f (xm_drop 56 xm_c152) lv st G E kc ks)) := rfl
theorem xz_152_56 : xm_run call xm_c152 nL mc ms ret Q (f + 1) (xm_drop 56 xm_c152) lv st G E kc ks = (xm_putf 11 16 st G (fun st G => xm_run call xm_c152 nL mc ms ret Q f (xm_drop 57 xm_c152) lv st G E kc ks)) := rfl
theorem xz_152_57 : xm_run call xm_c152 nL mc ms ret Q (f + 1) (xm_drop 57 xm_c152) lv st G E kc ks = (xm_run call xm_c152 nL mc ms ret Q f (xm_drop 8 xm_c152) lv st G E kc ks) := rfl
theorem xz_152_58 : xm_run call xm_c152 nL mc ms ret Q (f + 1) (xm_drop 58 xm_c152) lv st G E kc ks = ((match xm_get lv 0 with
    | some w => bif xm_isA w then xm_run call xm_c152 nL mc ms ret Q f (xm_drop 59 xm_c152) lv (w :: st) G E kc ks else false
    | none => false)) := rfl
theorem xz_152_59 : xm_run call xm_c152 nL mc ms ret Q (f + 1) (xm_drop 59 xm_c152) lv st G E kc ks = (bif Nat.beq 150 1006 || Nat.beq 150 1007 then xm_strl 150 st G (fun st => xm_run call xm_c152 nL mc ms ret Q f (xm_drop 60 xm_c152) lv st G E kc ks) else xm_call call mc ms 150 0 st G E kc ks (fun st G E kc ks => xm_run call xm_c152 nL mc ms ret Q f (xm_drop 60 xm_c152) lv st G E kc ks)) := rfl
theorem xz_152_60 : xm_run call xm_c152 nL mc ms ret Q (f + 1) (xm_drop 60 xm_c152) lv st G E kc ks = ((match st with
    | w :: st => xm_cmpI E w (.int 0) (fun E s => bif xm_holds .eq s then xm_run call xm_c152 nL mc ms ret Q f (xm_drop 70 xm_c152) lv st G E kc ks else xm_run call xm_c152 nL mc ms ret Q f (xm_drop 61 xm_c152) lv st G E kc ks)
    | _ => false)) := rfl
theorem xz_152_61 : xm_run call xm_c152 nL mc ms ret Q (f + 1) (xm_drop 61 xm_c152) lv st G E kc ks = ((match xm_get lv 0 with
    | some w => bif xm_isA w then xm_run call xm_c152 nL mc ms ret Q f (xm_drop 62 xm_c152) lv (w :: st) G E kc ks else false
    | none => false)) := rfl
theorem xz_152_62 : xm_run call xm_c152 nL mc ms ret Q (f + 1) (xm_drop 62 xm_c152) lv st G E kc ks = (bif Nat.beq 132 1006 || Nat.beq 132 1007 then xm_strl 132 st G (fun st => xm_run call xm_c152 nL mc ms ret Q f (xm_drop 63 xm_c152) lv st G E kc ks) else xm_call call mc ms 132 0 st G E kc ks (fun st G E kc ks => xm_run call xm_c152 nL mc ms ret Q f (xm_drop 63 xm_c152) lv st G E kc ks)) := rfl
theorem xz_152_63 : xm_run call xm_c152 nL mc ms ret Q (f + 1) (xm_drop 63 xm_c152) lv st G E kc ks = ((match st with
    | w :: st => bif xm_cat1 w then xm_run call xm_c152 nL mc ms ret Q f (xm_drop 64 xm_c152) lv st G E kc ks else false
    | _ => false)) := rfl
theorem xz_152_64 : xm_run call xm_c152 nL mc ms ret Q (f + 1) (xm_drop 64 xm_c152) lv st G E kc ks = ((match xm_get lv 0 with
    | some w => bif xm_isA w then xm_run call xm_c152 nL mc ms ret Q f (xm_drop 65 xm_c152) lv (w :: st) G E kc ks else false
    | none => false)) := rfl
theorem xz_152_65 : xm_run call xm_c152 nL mc ms ret Q (f + 1) (xm_drop 65 xm_c152) lv st G E kc ks = (xm_run call xm_c152 nL mc ms ret Q f (xm_drop 66 xm_c152) lv ((.int 0) :: st) G E kc ks) := rfl
theorem xz_152_66 : xm_run call xm_c152 nL mc ms ret Q (f + 1) (xm_drop 66 xm_c152) lv st G E kc ks = ((match xm_get lv 0 with
    | some w => bif xm_isA w then xm_run call xm_c152 nL mc ms ret Q f (xm_drop 67 xm_c152) lv (w :: st) G E kc ks else false
    | none => false)) := rfl
theorem xz_152_67 : xm_run call xm_c152 nL mc ms ret Q (f + 1) (xm_drop 67 xm_c152) lv st G E kc ks = (xm_getf 11 8 st G (fun st => xm_run call xm_c152 nL mc ms ret Q f (xm_drop 68 xm_c152) lv st G E kc ks)) := rfl
theorem xz_152_68 : xm_run call xm_c152 nL mc ms ret Q (f + 1) (xm_drop 68 xm_c152) lv st G E kc ks = (bif Nat.beq 131 1006 || Nat.beq 131 1007 then xm_strl 131 st G (fun st => xm_run call xm_c152 nL mc ms ret Q f (xm_drop 69 xm_c152) lv st G E kc ks) else xm_call call mc ms 131 0 st G E kc ks (fun st G E kc ks => xm_run call xm_c152 nL mc ms ret Q f (xm_drop 69 xm_c152) lv st G E kc ks)) := rfl
theorem xz_152_69 : xm_run call xm_c152 nL mc ms ret Q (f + 1) (xm_drop 69 xm_c152) lv st G E kc ks = ((match st with
    | [w] => bif xm_isI w && (xm_rok ret w && (Nat.ble kc mc && Nat.ble ks ms)) then Q (some w) G E else false
    | _ => false)) := rfl
theorem xz_152_70 : xm_run call xm_c152 nL mc ms ret Q (f + 1) (xm_drop 70 xm_c152) lv st G E kc ks = ((match xm_get lv 0 with
    | some w => bif xm_isA w then xm_run call xm_c152 nL mc ms ret Q f (xm_drop 71 xm_c152) lv (w :: st) G E kc ks else false
    | none => false)) := rfl
theorem xz_152_71 : xm_run call xm_c152 nL mc ms ret Q (f + 1) (xm_drop 71 xm_c152) lv st G E kc ks = (xm_run call xm_c152 nL mc ms ret Q f (xm_drop 72 xm_c152) lv ((.int 1) :: st) G E kc ks) := rfl
theorem xz_152_72 : xm_run call xm_c152 nL mc ms ret Q (f + 1) (xm_drop 72 xm_c152) lv st G E kc ks = (bif Nat.beq 144 1006 || Nat.beq 144 1007 then xm_strl 144 st G (fun st => xm_run call xm_c152 nL mc ms ret Q f (xm_drop 73 xm_c152) lv st G E kc ks) else xm_call call mc ms 144 0 st G E kc ks (fun st G E kc ks => xm_run call xm_c152 nL mc ms ret Q f (xm_drop 73 xm_c152) lv st G E kc ks)) := rfl
theorem xz_152_73 : xm_run call xm_c152 nL mc ms ret Q (f + 1) (xm_drop 73 xm_c152) lv st G E kc ks = (xm_run call xm_c152 nL mc ms ret Q f (xm_drop 74 xm_c152) lv ((.int 1) :: st) G E kc ks) := rfl
theorem xz_152_74 : xm_run call xm_c152 nL mc ms ret Q (f + 1) (xm_drop 74 xm_c152) lv st G E kc ks = ((match st with
    | [w] => bif xm_isI w && (xm_rok ret w && (Nat.ble kc mc && Nat.ble ks ms)) then Q (some w) G E else false
    | _ => false)) := rfl
theorem xz_153_0 : xm_run call xm_c153 nL mc ms ret Q (f + 1) (xm_drop 0 xm_c153) lv st G E kc ks = ((match xm_get lv 0 with
    | some w => bif xm_isA w then xm_run call xm_c153 nL mc ms ret Q f (xm_drop 1 xm_c153) lv (w :: st) G E kc ks else false
    | none => false)) := rfl
theorem xz_153_1 : xm_run call xm_c153 nL mc ms ret Q (f + 1) (xm_drop 1 xm_c153) lv st G E kc ks = (bif Nat.beq 136 1006 || Nat.beq 136 1007 then xm_strl 136 st G (fun st => xm_run call xm_c153 nL mc ms ret Q f (xm_drop 2 xm_c153) lv st G E kc ks) else xm_call call mc ms 136 0 st G E kc ks (fun st G E kc ks => xm_run call xm_c153 nL mc ms ret Q f (xm_drop 2 xm_c153) lv st G E kc ks)) := rfl
theorem xz_153_2 : xm_run call xm_c153 nL mc ms ret Q (f + 1) (xm_drop 2 xm_c153) lv st G E kc ks = (xm_run call xm_c153 nL mc ms ret Q f (xm_drop 3 xm_c153) lv ((.int 48) :: st) G E kc ks) := rfl
theorem xz_153_3 : xm_run call xm_c153 nL mc ms ret Q (f + 1) (xm_drop 3 xm_c153) lv st G E kc ks = ((match xm_get lv 0 with
    | some w => bif xm_isA w then xm_run call xm_c153 nL mc ms ret Q f (xm_drop 4 xm_c153) lv (w :: st) G E kc ks else false
    | none => false)) := rfl
theorem xz_153_4 : xm_run call xm_c153 nL mc ms ret Q (f + 1) (xm_drop 4 xm_c153) lv st G E kc ks = (xm_getf 11 11 st G (fun st => xm_run call xm_c153 nL mc ms ret Q f (xm_drop 5 xm_c153) lv st G E kc ks)) := rfl
theorem xz_153_5 : xm_run call xm_c153 nL mc ms ret Q (f + 1) (xm_drop 5 xm_c153) lv st G E kc ks = (xm_int2 .imul st E (fun st E => xm_run call xm_c153 nL mc ms ret Q f (xm_drop 6 xm_c153) lv st G E kc ks)) := rfl
theorem xz_153_6 : xm_run call xm_c153 nL mc ms ret Q (f + 1) (xm_drop 6 xm_c153) lv st G E kc ks = (xm_run call xm_c153 nL mc ms ret Q f (xm_drop 7 xm_c153) lv ((.int 4) :: st) G E kc ks) := rfl
theorem xz_153_7 : xm_run call xm_c153 nL mc ms ret Q (f + 1) (xm_drop 7 xm_c153) lv st G E kc ks = ((match xm_get lv 0 with
    | some w => bif xm_isA w then xm_run call xm_c153 nL mc ms ret Q f (xm_drop 8 xm_c153) lv (w :: st) G E kc ks else false
    | none => false)) := rfl
theorem xz_153_8 : xm_run call xm_c153 nL mc ms ret Q (f + 1) (xm_drop 8 xm_c153) lv st G E kc ks = (xm_getf 11 6 st G (fun st => xm_run call xm_c153 nL mc ms ret Q f (xm_drop 9 xm_c153) lv st G E kc ks)) := rfl
theorem xz_153_9 : xm_run call xm_c153 nL mc ms ret Q (f + 1) (xm_drop 9 xm_c153) lv st G E kc ks = ((match xm_get lv 0 with
    | some w => bif xm_isA w then xm_run call xm_c153 nL mc ms ret Q f (xm_drop 10 xm_c153) lv (w :: st) G E kc ks else false
    | none => false)) := rfl
theorem xz_153_10 : xm_run call xm_c153 nL mc ms ret Q (f + 1) (xm_drop 10 xm_c153) lv st G E kc ks = (xm_getf 11 11 st G (fun st => xm_run call xm_c153 nL mc ms ret Q f (xm_drop 11 xm_c153) lv st G E kc ks)) := rfl
theorem xz_153_11 : xm_run call xm_c153 nL mc ms ret Q (f + 1) (xm_drop 11 xm_c153) lv st G E kc ks = (xm_iald st G E (fun st E => xm_run call xm_c153 nL mc ms ret Q f (xm_drop 12 xm_c153) lv st G E kc ks)) := rfl
theorem xz_153_12 : xm_run call xm_c153 nL mc ms ret Q (f + 1) (xm_drop 12 xm_c153) lv st G E kc ks = (xm_int2 .imul st E (fun st E => xm_run call xm_c153 nL mc ms ret Q f (xm_drop 13 xm_c153) lv st G E kc ks)) := rfl
theorem xz_153_13 : xm_run call xm_c153 nL mc ms ret Q (f + 1) (xm_drop 13 xm_c153) lv st G E kc ks = (xm_int2 .iadd st E (fun st E => xm_run call xm_c153 nL mc ms ret Q f (xm_drop 14 xm_c153) lv st G E kc ks)) := rfl
theorem xz_153_14 : xm_run call xm_c153 nL mc ms ret Q (f + 1) (xm_drop 14 xm_c153) lv st G E kc ks = ((match st with
    | w :: st => bif xm_isI w && Nat.blt 1 nL then xm_run call xm_c153 nL mc ms ret Q f (xm_drop 15 xm_c153) (xm_set1 lv 1 w) st G E kc ks else false
    | _ => false)) := rfl
theorem xz_153_15 : xm_run call xm_c153 nL mc ms ret Q (f + 1) (xm_drop 15 xm_c153) lv st G E kc ks = ((match xm_get lv 0 with
    | some w => bif xm_isA w then xm_run call xm_c153 nL mc ms ret Q f (xm_drop 16 xm_c153) lv (w :: st) G E kc ks else false
    | none => false)) := rfl
theorem xz_153_16 : xm_run call xm_c153 nL mc ms ret Q (f + 1) (xm_drop 16 xm_c153) lv st G E kc ks = (xm_getf 11 5 st G (fun st => xm_run call xm_c153 nL mc ms ret Q f (xm_drop 17 xm_c153) lv st G E kc ks)) := rfl
theorem xz_153_17 : xm_run call xm_c153 nL mc ms ret Q (f + 1) (xm_drop 17 xm_c153) lv st G E kc ks = ((match xm_get lv 1 with
    | some w => bif xm_isI w then xm_run call xm_c153 nL mc ms ret Q f (xm_drop 18 xm_c153) lv (w :: st) G E kc ks else false
    | none => false)) := rfl
theorem xz_153_18 : xm_run call xm_c153 nL mc ms ret Q (f + 1) (xm_drop 18 xm_c153) lv st G E kc ks = ((match xm_get lv 0 with
    | some w => bif xm_isA w then xm_run call xm_c153 nL mc ms ret Q f (xm_drop 19 xm_c153) lv (w :: st) G E kc ks else false
    | none => false)) := rfl
theorem xz_153_19 : xm_run call xm_c153 nL mc ms ret Q (f + 1) (xm_drop 19 xm_c153) lv st G E kc ks = (xm_getf 11 4 st G (fun st => xm_run call xm_c153 nL mc ms ret Q f (xm_drop 20 xm_c153) lv st G E kc ks)) := rfl
theorem xz_153_20 : xm_run call xm_c153 nL mc ms ret Q (f + 1) (xm_drop 20 xm_c153) lv st G E kc ks = ((match xm_get lv 0 with
    | some w => bif xm_isA w then xm_run call xm_c153 nL mc ms ret Q f (xm_drop 21 xm_c153) lv (w :: st) G E kc ks else false
    | none => false)) := rfl
theorem xz_153_21 : xm_run call xm_c153 nL mc ms ret Q (f + 1) (xm_drop 21 xm_c153) lv st G E kc ks = (xm_getf 11 11 st G (fun st => xm_run call xm_c153 nL mc ms ret Q f (xm_drop 22 xm_c153) lv st G E kc ks)) := rfl
theorem xz_153_22 : xm_run call xm_c153 nL mc ms ret Q (f + 1) (xm_drop 22 xm_c153) lv st G E kc ks = (xm_iald st G E (fun st E => xm_run call xm_c153 nL mc ms ret Q f (xm_drop 23 xm_c153) lv st G E kc ks)) := rfl
theorem xz_153_23 : xm_run call xm_c153 nL mc ms ret Q (f + 1) (xm_drop 23 xm_c153) lv st G E kc ks = (xm_ast (fun t => Nat.beq t 100) xm_kI st G E (fun st G E => xm_run call xm_c153 nL mc ms ret Q f (xm_drop 24 xm_c153) lv st G E kc ks)) := rfl
theorem xz_153_24 : xm_run call xm_c153 nL mc ms ret Q (f + 1) (xm_drop 24 xm_c153) lv st G E kc ks = ((match xm_get lv 0 with
    | some w => bif xm_isA w then xm_run call xm_c153 nL mc ms ret Q f (xm_drop 25 xm_c153) lv (w :: st) G E kc ks else false
    | none => false)) := rfl
theorem xz_153_25 : xm_run call xm_c153 nL mc ms ret Q (f + 1) (xm_drop 25 xm_c153) lv st G E kc ks = (bif Nat.beq 147 1006 || Nat.beq 147 1007 then xm_strl 147 st G (fun st => xm_run call xm_c153 nL mc ms ret Q f (xm_drop 26 xm_c153) lv st G E kc ks) else xm_call call mc ms 147 0 st G E kc ks (fun st G E kc ks => xm_run call xm_c153 nL mc ms ret Q f (xm_drop 26 xm_c153) lv st G E kc ks)) := rfl
theorem xz_153_26 : xm_run call xm_c153 nL mc ms ret Q (f + 1) (xm_drop 26 xm_c153) lv st G E kc ks = ((match st with
    | w :: st => xm_cmpI E w (.int 0) (fun E s => bif xm_holds .ne s then xm_run call xm_c153 nL mc ms ret Q f (xm_drop 29 xm_c153) lv st G E kc ks else xm_run call xm_c153 nL mc ms ret Q f (xm_drop 27 xm_c153) lv st G E kc ks)
    | _ => false)) := rfl
theorem xz_153_27 : xm_run call xm_c153 nL mc ms ret Q (f + 1) (xm_drop 27 xm_c153) lv st G E kc ks = (xm_run call xm_c153 nL mc ms ret Q f (xm_drop 28 xm_c153) lv ((.int 0) :: st) G E kc ks) := rfl
theorem xz_153_28 : xm_run call xm_c153 nL mc ms ret Q (f + 1) (xm_drop 28 xm_c153) lv st G E kc ks = ((match st with
    | [w] => bif xm_isI w && (xm_rok ret w && (Nat.ble kc mc && Nat.ble ks ms)) then Q (some w) G E else false
    | _ => false)) := rfl
theorem xz_153_29 : xm_run call xm_c153 nL mc ms ret Q (f + 1) (xm_drop 29 xm_c153) lv st G E kc ks = ((match xm_get lv 0 with
    | some w => bif xm_isA w then xm_run call xm_c153 nL mc ms ret Q f (xm_drop 30 xm_c153) lv (w :: st) G E kc ks else false
    | none => false)) := rfl
theorem xz_153_30 : xm_run call xm_c153 nL mc ms ret Q (f + 1) (xm_drop 30 xm_c153) lv st G E kc ks = (xm_getf 11 5 st G (fun st => xm_run call xm_c153 nL mc ms ret Q f (xm_drop 31 xm_c153) lv st G E kc ks)) := rfl
theorem xz_153_31 : xm_run call xm_c153 nL mc ms ret Q (f + 1) (xm_drop 31 xm_c153) lv st G E kc ks = ((match xm_get lv 1 with
    | some w => bif xm_isI w then xm_run call xm_c153 nL mc ms ret Q f (xm_drop 32 xm_c153) lv (w :: st) G E kc ks else false
    | none => false)) := rfl
theorem xz_153_32 : xm_run call xm_c153 nL mc ms ret Q (f + 1) (xm_drop 32 xm_c153) lv st G E kc ks = (xm_run call xm_c153 nL mc ms ret Q f (xm_drop 33 xm_c153) lv ((.int 1) :: st) G E kc ks) := rfl
theorem xz_153_33 : xm_run call xm_c153 nL mc ms ret Q (f + 1) (xm_drop 33 xm_c153) lv st G E kc ks = (xm_int2 .iadd st E (fun st E => xm_run call xm_c153 nL mc ms ret Q f (xm_drop 34 xm_c153) lv st G E kc ks)) := rfl
theorem xz_153_34 : xm_run call xm_c153 nL mc ms ret Q (f + 1) (xm_drop 34 xm_c153) lv st G E kc ks = ((match xm_get lv 0 with
    | some w => bif xm_isA w then xm_run call xm_c153 nL mc ms ret Q f (xm_drop 35 xm_c153) lv (w :: st) G E kc ks else false
    | none => false)) := rfl
theorem xz_153_35 : xm_run call xm_c153 nL mc ms ret Q (f + 1) (xm_drop 35 xm_c153) lv st G E kc ks = (xm_getf 11 4 st G (fun st => xm_run call xm_c153 nL mc ms ret Q f (xm_drop 36 xm_c153) lv st G E kc ks)) := rfl
theorem xz_153_36 : xm_run call xm_c153 nL mc ms ret Q (f + 1) (xm_drop 36 xm_c153) lv st G E kc ks = ((match xm_get lv 0 with
    | some w => bif xm_isA w then xm_run call xm_c153 nL mc ms ret Q f (xm_drop 37 xm_c153) lv (w :: st) G E kc ks else false
    | none => false)) := rfl
theorem xz_153_37 : xm_run call xm_c153 nL mc ms ret Q (f + 1) (xm_drop 37 xm_c153) lv st G E kc ks = (xm_getf 11 11 st G (fun st => xm_run call xm_c153 nL mc ms ret Q f (xm_drop 38 xm_c153) lv st G E kc ks)) := rfl
theorem xz_153_38 : xm_run call xm_c153 nL mc ms ret Q (f + 1) (xm_drop 38 xm_c153) lv st G E kc ks = (xm_iald st G E (fun st E => xm_run call xm_c153 nL mc ms ret Q f (xm_drop 39 xm_c153) lv st G E kc ks)) := rfl
theorem xz_153_39 : xm_run call xm_c153 nL mc ms ret Q (f + 1) (xm_drop 39 xm_c153) lv st G E kc ks = (xm_ast (fun t => Nat.beq t 100) xm_kI st G E (fun st G E => xm_run call xm_c153 nL mc ms ret Q f (xm_drop 40 xm_c153) lv st G E kc ks)) := rfl
theorem xz_153_40 : xm_run call xm_c153 nL mc ms ret Q (f + 1) (xm_drop 40 xm_c153) lv st G E kc ks = ((match xm_get lv 0 with
    | some w => bif xm_isA w then xm_run call xm_c153 nL mc ms ret Q f (xm_drop 41 xm_c153) lv (w :: st) G E kc ks else false
    | none => false)) := rfl
theorem xz_153_41 : xm_run call xm_c153 nL mc ms ret Q (f + 1) (xm_drop 41 xm_c153) lv st G E kc ks = (xm_getf 11 5 st G (fun st => xm_run call xm_c153 nL mc ms ret Q f (xm_drop 42 xm_c153) lv st G E kc ks)) := rfl
theorem xz_153_42 : xm_run call xm_c153 nL mc ms ret Q (f + 1) (xm_drop 42 xm_c153) lv st G E kc ks = ((match xm_get lv 1 with
    | some w => bif xm_isI w then xm_run call xm_c153 nL mc ms ret Q f (xm_drop 43 xm_c153) lv (w :: st) G E kc ks else false
    | none => false)) := rfl
theorem xz_153_43 : xm_run call xm_c153 nL mc ms ret Q (f + 1) (xm_drop 43 xm_c153) lv st G E kc ks = (xm_run call xm_c153 nL mc ms ret Q f (xm_drop 44 xm_c153) lv ((.int 2) :: st) G E kc ks) := rfl
theorem xz_153_44 : xm_run call xm_c153 nL mc ms ret Q (f + 1) (xm_drop 44 xm_c153) lv st G E kc ks = (xm_int2 .iadd st E (fun st E => xm_run call xm_c153 nL mc ms ret Q f (xm_drop 45 xm_c153) lv st G E kc ks)) := rfl
theorem xz_153_45 : xm_run call xm_c153 nL mc ms ret Q (f + 1) (xm_drop 45 xm_c153) lv st G E kc ks = (xm_run call xm_c153 nL mc ms ret Q f (xm_drop 46 xm_c153) lv ((.int (-1)) :: st) G E kc ks) := rfl
theorem xz_153_46 : xm_run call xm_c153 nL mc ms ret Q (f + 1) (xm_drop 46 xm_c153) lv st G E kc ks = (xm_ast (fun t => Nat.beq t 100) xm_kI st G E (fun st G E => xm_run call xm_c153 nL mc ms ret Q f (xm_drop 47 xm_c153) lv st G E kc ks)) := rfl
theorem xz_153_47 : xm_run call xm_c153 nL mc ms ret Q (f + 1) (xm_drop 47 xm_c153) lv st G E kc ks = ((match xm_get lv 0 with
    | some w => bif xm_isA w then xm_run call xm_c153 nL mc ms ret Q f (xm_drop 48 xm_c153) lv (w :: st) G E kc ks else false
    | none => false)) := rfl
theorem xz_153_48 : xm_run call xm_c153 nL mc ms ret Q (f + 1) (xm_drop 48 xm_c153) lv st G E kc ks = (xm_run call xm_c153 nL mc ms ret Q f (xm_drop 49 xm_c153) lv ((.long 26982) :: st) G E kc ks) := rfl
theorem xz_153_49 : xm_run call xm_c153 nL mc ms ret Q (f + 1) (xm_drop 49 xm_c153) lv st G E kc ks = (bif Nat.beq 137 1006 || Nat.beq 137 1007 then xm_strl 137 st G (fun st => xm_run call xm_c153 nL mc ms ret Q f (xm_drop 50 xm_c153) lv st G E kc ks) else xm_call call mc ms 137 0 st G E kc ks (fun st G E kc ks => xm_run call xm_c153 nL mc ms ret Q f (xm_drop 50 xm_c153) lv st G E kc ks)) := rfl
theorem xz_153_50 : xm_run call xm_c153 nL mc ms ret Q (f + 1) (xm_drop 50 xm_c153) lv st G E kc ks = ((match st with
    | w :: st => xm_cmpI E w (.int 0) (fun E s => bif xm_holds .eq s then xm_run call xm_c153 nL mc ms ret Q f (xm_drop 67 xm_c153) lv st G E kc ks else xm_run call xm_c153 nL mc ms ret Q f (xm_drop 51 xm_c153) lv st G E kc ks)
    | _ => false)) := rfl
theorem xz_153_51 : xm_run call xm_c153 nL mc ms ret Q (f + 1) (xm_drop 51 xm_c153) lv st G E kc ks = ((match xm_get lv 0 with
    | some w => bif xm_isA w then xm_run call xm_c153 nL mc ms ret Q f (xm_drop 52 xm_c153) lv (w :: st) G E kc ks else false
    | none => false)) := rfl
theorem xz_153_52 : xm_run call xm_c153 nL mc ms ret Q (f + 1) (xm_drop 52 xm_c153) lv st G E kc ks = (xm_getf 11 5 st G (fun st => xm_run call xm_c153 nL mc ms ret Q f (xm_drop 53 xm_c153) lv st G E kc ks)) := rfl
theorem xz_153_53 : xm_run call xm_c153 nL mc ms ret Q (f + 1) (xm_drop 53 xm_c153) lv st G E kc ks = ((match xm_get lv 1 with
    | some w => bif xm_isI w then xm_run call xm_c153 nL mc ms ret Q f (xm_drop 54 xm_c153) lv (w :: st) G E kc ks else false
    | none => false)) := rfl
theorem xz_153_54 : xm_run call xm_c153 nL mc ms ret Q (f + 1) (xm_drop 54 xm_c153) lv st G E kc ks = (xm_run call xm_c153 nL mc ms ret Q f (xm_drop 55 xm_c153) lv ((.int 2) :: st) G E kc ks) := rfl
theorem xz_153_55 : xm_run call xm_c153 nL mc ms ret Q (f + 1) (xm_drop 55 xm_c153) lv st G E kc ks = (xm_int2 .iadd st E (fun st E => xm_run call xm_c153 nL mc ms ret Q f (xm_drop 56 xm_c153) lv st G E kc ks)) := rfl
theorem xz_153_56 : xm_run call xm_c153 nL mc ms ret Q (f + 1) (xm_drop 56 xm_c153) lv st G E kc ks = ((match xm_get lv 0 with
    | some w => bif xm_isA w then xm_run call xm_c153 nL mc ms ret Q f (xm_drop 57 xm_c153) lv (w :: st) G E kc ks else false
    | none => false)) := rfl
theorem xz_153_57 : xm_run call xm_c153 nL mc ms ret Q (f + 1) (xm_drop 57 xm_c153) lv st G E kc ks = (xm_getf 11 4 st G (fun st => xm_run call xm_c153 nL mc ms ret Q f (xm_drop 58 xm_c153) lv st G E kc ks)) := rfl
theorem xz_153_58 : xm_run call xm_c153 nL mc ms ret Q (f + 1) (xm_drop 58 xm_c153) lv st G E kc ks = ((match xm_get lv 0 with
    | some w => bif xm_isA w then xm_run call xm_c153 nL mc ms ret Q f (xm_drop 59 xm_c153) lv (w :: st) G E kc ks else false
    | none => false)) := rfl
theorem xz_153_59 : xm_run call xm_c153 nL mc ms ret Q (f + 1) (xm_drop 59 xm_c153) lv st G E kc ks = (xm_getf 11 11 st G (fun st => xm_run call xm_c153 nL mc ms ret Q f (xm_drop 60 xm_c153) lv st G E kc ks)) := rfl
theorem xz_153_60 : xm_run call xm_c153 nL mc ms ret Q (f + 1) (xm_drop 60 xm_c153) lv st G E kc ks = (xm_iald st G E (fun st E => xm_run call xm_c153 nL mc ms ret Q f (xm_drop 61 xm_c153) lv st G E kc ks)) := rfl
theorem xz_153_61 : xm_run call xm_c153 nL mc ms ret Q (f + 1) (xm_drop 61 xm_c153) lv st G E kc ks = (xm_ast (fun t => Nat.beq t 100) xm_kI st G E (fun st G E => xm_run call xm_c153 nL mc ms ret Q f (xm_drop 62 xm_c153) lv st G E kc ks)) := rfl
theorem xz_153_62 : xm_run call xm_c153 nL mc ms ret Q (f + 1) (xm_drop 62 xm_c153) lv st G E kc ks = ((match xm_get lv 0 with
    | some w => bif xm_isA w then xm_run call xm_c153 nL mc ms ret Q f (xm_drop 63 xm_c153) lv (w :: st) G E kc ks else false
    | none => false)) := rfl
theorem xz_153_63 : xm_run call xm_c153 nL mc ms ret Q (f + 1) (xm_drop 63 xm_c153) lv st G E kc ks = (bif Nat.beq 152 1006 || Nat.beq 152 1007 then xm_strl 152 st G (fun st => xm_run call xm_c153 nL mc ms ret Q f (xm_drop 64 xm_c153) lv st G E kc ks) else xm_call call mc ms 152 0 st G E kc ks (fun st G E kc ks => xm_run call xm_c153 nL mc ms ret Q f (xm_drop 64 xm_c153) lv st G E kc ks)) := rfl
theorem xz_153_64 : xm_run call xm_c153 nL mc ms ret Q (f + 1) (xm_drop 64 xm_c153) lv st G E kc ks = ((match st with
    | w :: st => xm_cmpI E w (.int 0) (fun E s => bif xm_holds .ne s then xm_run call xm_c153 nL mc ms ret Q f (xm_drop 67 xm_c153) lv st G E kc ks else xm_run call xm_c153 nL mc ms ret Q f (xm_drop 65 xm_c153) lv st G E kc ks)
    | _ => false)) := rfl
theorem xz_153_65 : xm_run call xm_c153 nL mc ms ret Q (f + 1) (xm_drop 65 xm_c153) lv st G E kc ks = (xm_run call xm_c153 nL mc ms ret Q f (xm_drop 66 xm_c153) lv ((.int 0) :: st) G E kc ks) := rfl
theorem xz_153_66 : xm_run call xm_c153 nL mc ms ret Q (f + 1) (xm_drop 66 xm_c153) lv st G E kc ks = ((match st with
    | [w] => bif xm_isI w && (xm_rok ret w && (Nat.ble kc mc && Nat.ble ks ms)) then Q (some w) G E else false
    | _ => false)) := rfl
theorem xz_153_67 : xm_run call xm_c153 nL mc ms ret Q (f + 1) (xm_drop 67 xm_c153) lv st G E kc ks = ((match xm_get lv 0 with
    | some w => bif xm_isA w then xm_run call xm_c153 nL mc ms ret Q f (xm_drop 68 xm_c153) lv (w :: st) G E kc ks else false
    | none => false)) := rfl
theorem xz_153_68 : xm_run call xm_c153 nL mc ms ret Q (f + 1) (xm_drop 68 xm_c153) lv st G E kc ks = (xm_getf 11 5 st G (fun st => xm_run call xm_c153 nL mc ms ret Q f (xm_drop 69 xm_c153) lv st G E kc ks)) := rfl
theorem xz_153_69 : xm_run call xm_c153 nL mc ms ret Q (f + 1) (xm_drop 69 xm_c153) lv st G E kc ks = ((match xm_get lv 1 with
    | some w => bif xm_isI w then xm_run call xm_c153 nL mc ms ret Q f (xm_drop 70 xm_c153) lv (w :: st) G E kc ks else false
    | none => false)) := rfl
theorem xz_153_70 : xm_run call xm_c153 nL mc ms ret Q (f + 1) (xm_drop 70 xm_c153) lv st G E kc ks = (xm_run call xm_c153 nL mc ms ret Q f (xm_drop 71 xm_c153) lv ((.int 3) :: st) G E kc ks) := rfl
theorem xz_153_71 : xm_run call xm_c153 nL mc ms ret Q (f + 1) (xm_drop 71 xm_c153) lv st G E kc ks = (xm_int2 .iadd st E (fun st E => xm_run call xm_c153 nL mc ms ret Q f (xm_drop 72 xm_c153) lv st G E kc ks)) := rfl
theorem xz_153_72 : xm_run call xm_c153 nL mc ms ret Q (f + 1) (xm_drop 72 xm_c153) lv st G E kc ks = ((match xm_get lv 0 with
    | some w => bif xm_isA w then xm_run call xm_c153 nL mc ms ret Q f (xm_drop 73 xm_c153) lv (w :: st) G E kc ks else false
    | none => false)) := rfl
theorem xz_153_73 : xm_run call xm_c153 nL mc ms ret Q (f + 1) (xm_drop 73 xm_c153) lv st G E kc ks = (xm_getf 11 4 st G (fun st => xm_run call xm_c153 nL mc ms ret Q f (xm_drop 74 xm_c153) lv st G E kc ks)) := rfl
theorem xz_153_74 : xm_run call xm_c153 nL mc ms ret Q (f + 1) (xm_drop 74 xm_c153) lv st G E kc ks = ((match xm_get lv 0 with
    | some w => bif xm_isA w then xm_run call xm_c153 nL mc ms ret Q f (xm_drop 75 xm_c153) lv (w :: st) G E kc ks else false
    | none => false)) := rfl
theorem xz_153_75 : xm_run call xm_c153 nL mc ms ret Q (f + 1) (xm_drop 75 xm_c153) lv st G E kc ks = (xm_getf 11 11 st G (fun st => xm_run call xm_c153 nL mc ms ret Q f (xm_drop 76 xm_c153) lv st G E kc ks)) := rfl
theorem xz_153_76 : xm_run call xm_c153 nL mc ms ret Q (f + 1) (xm_drop 76 xm_c153) lv st G E kc ks = (xm_iald st G E (fun st E => xm_run call xm_c153 nL mc ms ret Q f (xm_drop 77 xm_c153) lv st G E kc ks)) := rfl
theorem xz_153_77 : xm_run call xm_c153 nL mc ms ret Q (f + 1) (xm_drop 77 xm_c153) lv st G E kc ks = (xm_ast (fun t => Nat.beq t 100) xm_kI st G E (fun st G E => xm_run call xm_c153 nL mc ms ret Q f (xm_drop 78 xm_c153) lv st G E kc ks)) := rfl
theorem xz_153_78 : xm_run call xm_c153 nL mc ms ret Q (f + 1) (xm_drop 78 xm_c153) lv st G E kc ks = ((match xm_get lv 0 with
    | some w => bif xm_isA w then xm_run call xm_c153 nL mc ms ret Q f (xm_drop 79 xm_c153) lv (w :: st) G E kc ks else false
    | none => false)) := rfl
theorem xz_153_79 : xm_run call xm_c153 nL mc ms ret Q (f + 1) (xm_drop 79 xm_c153) lv st G E kc ks = (xm_getf 11 6 st G (fun st => xm_run call xm_c153 nL mc ms ret Q f (xm_drop 80 xm_c153) lv st G E kc ks)) := rfl
theorem xz_153_80 : xm_run call xm_c153 nL mc ms ret Q (f + 1) (xm_drop 80 xm_c153) lv st G E kc ks = ((match xm_get lv 0 with
    | some w => bif xm_isA w then xm_run call xm_c153 nL mc ms ret Q f (xm_drop 81 xm_c153) lv (w :: st) G E kc ks else false
    | none => false)) := rfl
theorem xz_153_81 : xm_run call xm_c153 nL mc ms ret Q (f + 1) (xm_drop 81 xm_c153) lv st G E kc ks = (xm_getf 11 11 st G (fun st => xm_run call xm_c153 nL mc ms ret Q f (xm_drop 82 xm_c153) lv st G E kc ks)) := rfl
theorem xz_153_82 : xm_run call xm_c153 nL mc ms ret Q (f + 1) (xm_drop 82 xm_c153) lv st G E kc ks = ((match st with
    | w :: u :: st => bif xm_cat1 w && xm_cat1 u then xm_run call xm_c153 nL mc ms ret Q f (xm_drop 83 xm_c153) lv (w :: u :: w :: u :: st) G E kc ks else false
    | _ => false)) := rfl
theorem xz_153_83 : xm_run call xm_c153 nL mc ms ret Q (f + 1) (xm_drop 83 xm_c153) lv st G E kc ks = (xm_iald st G E (fun st E => xm_run call xm_c153 nL mc ms ret Q f (xm_drop 84 xm_c153) lv st G E kc ks)) := rfl
theorem xz_153_84 : xm_run call xm_c153 nL mc ms ret Q (f + 1) (xm_drop 84 xm_c153) lv st G E kc ks = (xm_run call xm_c153 nL mc ms ret Q f (xm_drop 85 xm_c153) lv ((.int 1) :: st) G E kc ks) := rfl
theorem xz_153_85 : xm_run call xm_c153 nL mc ms ret Q (f + 1) (xm_drop 85 xm_c153) lv st G E kc ks = (xm_int2 .iadd st E (fun st E => xm_run call xm_c153 nL mc ms ret Q f (xm_drop 86 xm_c153) lv st G E kc ks)) := rfl
theorem xz_153_86 : xm_run call xm_c153 nL mc ms ret Q (f + 1) (xm_drop 86 xm_c153) lv st G E kc ks = (xm_ast (fun t => Nat.beq t 100) xm_kI st G E (fun st G E => xm_run call xm_c153 nL mc ms ret Q f (xm_drop 87 xm_c153) lv st G E kc ks)) := rfl
theorem xz_153_87 : xm_run call xm_c153 nL mc ms ret Q (f + 1) (xm_drop 87 xm_c153) lv st G E kc ks = (xm_run call xm_c153 nL mc ms ret Q f (xm_drop 88 xm_c153) lv ((.int 1) :: st) G E kc ks) := rfl
theorem xz_153_88 : xm_run call xm_c153 nL mc ms ret Q (f + 1) (xm_drop 88 xm_c153) lv st G E kc ks = ((match st with
    | [w] => bif xm_isI w && (xm_rok ret w && (Nat.ble kc mc && Nat.ble ks ms)) then Q (some w) G E else false
    | _ => false)) := rfl
theorem xz_166_0 : xm_run call xm_c166 nL mc ms ret Q (f + 1) (xm_drop 0 xm_c166) lv st G E kc ks = ((match xm_get lv 0 with
    | some w => bif xm_isA w then xm_run call xm_c166 nL mc ms ret Q f (xm_drop 1 xm_c166) lv (w :: st) G E kc ks else false
    | none => false)) := rfl
theorem xz_166_1 : xm_run call xm_c166 nL mc ms ret Q (f + 1) (xm_drop 1 xm_c166) lv st G E kc ks = (bif Nat.beq 132 1006 || Nat.beq 132 1007 then xm_strl 132 st G (fun st => xm_run call xm_c166 nL mc ms ret Q f (xm_drop 2 xm_c166) lv st G E kc ks) else xm_call call mc ms 132 0 st G E kc ks (fun st G E kc ks => xm_run call xm_c166 nL mc ms ret Q f (xm_drop 2 xm_c166) lv st G E kc ks)) := rfl
theorem xz_166_2 : xm_run call xm_c166 nL mc ms ret Q (f + 1) (xm_drop 2 xm_c166) lv st G E kc ks = ((match st with
    | w :: st => bif xm_cat1 w then xm_run call xm_c166 nL mc ms ret Q f (xm_drop 3 xm_c166) lv st G E kc ks else false
    | _ => false)) := rfl
theorem xz_166_3 : xm_run call xm_c166 nL mc ms ret Q (f + 1) (xm_drop 3 xm_c166) lv st G E kc ks = ((match xm_get lv 0 with
    | some w => bif xm_isA w then xm_run call xm_c166 nL mc ms ret Q f (xm_drop 4 xm_c166) lv (w :: st) G E kc ks else false
    | none => false)) := rfl
theorem xz_166_4 : xm_run call xm_c166 nL mc ms ret Q (f + 1) (xm_drop 4 xm_c166) lv st G E kc ks = (xm_getf 11 8 st G (fun st => xm_run call xm_c166 nL mc ms ret Q f (xm_drop 5 xm_c166) lv st G E kc ks)) := rfl
theorem xz_166_5 : xm_run call xm_c166 nL mc ms ret Q (f + 1) (xm_drop 5 xm_c166) lv st G E kc ks = ((match st with
    | w :: st => bif xm_isI w && Nat.blt 1 nL then xm_run call xm_c166 nL mc ms ret Q f (xm_drop 6 xm_c166) (xm_set1 lv 1 w) st G E kc ks else false
    | _ => false)) := rfl
theorem xz_166_6 : xm_run call xm_c166 nL mc ms ret Q (f + 1) (xm_drop 6 xm_c166) lv st G E kc ks = ((match xm_get lv 0 with
    | some w => bif xm_isA w then xm_run call xm_c166 nL mc ms ret Q f (xm_drop 7 xm_c166) lv (w :: st) G E kc ks else false
    | none => false)) := rfl
theorem xz_166_7 : xm_run call xm_c166 nL mc ms ret Q (f + 1) (xm_drop 7 xm_c166) lv st G E kc ks = (xm_getf 11 11 st G (fun st => xm_run call xm_c166 nL mc ms ret Q f (xm_drop 8 xm_c166) lv st G E kc ks)) := rfl
theorem xz_166_8 : xm_run call xm_c166 nL mc ms ret Q (f + 1) (xm_drop 8 xm_c166) lv st G E kc ks = (xm_run call xm_c166 nL mc ms ret Q f (xm_drop 9 xm_c166) lv ((.int 6) :: st) G E kc ks) := rfl
theorem xz_166_9 : xm_run call xm_c166 nL mc ms ret Q (f + 1) (xm_drop 9 xm_c166) lv st G E kc ks = ((match st with
    | w :: u :: st => xm_cmpI E u w (fun E s => bif xm_holds .ne s then xm_run call xm_c166 nL mc ms ret Q f (xm_drop 12 xm_c166) lv st G E kc ks else xm_run call xm_c166 nL mc ms ret Q f (xm_drop 10 xm_c166) lv st G E kc ks)
    | _ => false)) := rfl
theorem xz_166_10 : xm_run call xm_c166 nL mc ms ret Q (f + 1) (xm_drop 10 xm_c166) lv st G E kc ks = (xm_run call xm_c166 nL mc ms ret Q f (xm_drop 11 xm_c166) lv ((.int 1) :: st) G E kc ks) := rfl
theorem xz_166_11 : xm_run call xm_c166 nL mc ms ret Q (f + 1) (xm_drop 11 xm_c166) lv st G E kc ks = (xm_run call xm_c166 nL mc ms ret Q f (xm_drop 13 xm_c166) lv st G E kc ks) := rfl
theorem xz_166_12 : xm_run call xm_c166 nL mc ms ret Q (f + 1) (xm_drop 12 xm_c166) lv st G E kc ks = (xm_run call xm_c166 nL mc ms ret Q f (xm_drop 13 xm_c166) lv ((.int 0) :: st) G E kc ks) := rfl
theorem xz_166_13 : xm_run call xm_c166 nL mc ms ret Q (f + 1) (xm_drop 13 xm_c166) lv st G E kc ks = ((match st with
    | w :: st => bif xm_isI w && Nat.blt 2 nL then xm_run call xm_c166 nL mc ms ret Q f (xm_drop 14 xm_c166) (xm_set1 lv 2 w) st G E kc ks else false
    | _ => false)) := rfl
theorem xz_166_14 : xm_run call xm_c166 nL mc ms ret Q (f + 1) (xm_drop 14 xm_c166) lv st G E kc ks = ((match xm_get lv 2 with
    | some w => bif xm_isI w then xm_run call xm_c166 nL mc ms ret Q f (xm_drop 15 xm_c166) lv (w :: st) G E kc ks else false
    | none => false)) := rfl
theorem xz_166_15 : xm_run call xm_c166 nL mc ms ret Q (f + 1) (xm_drop 15 xm_c166) lv st G E kc ks = ((match st with
    | w :: st => xm_cmpI E w (.int 0) (fun E s => bif xm_holds .eq s then xm_run call xm_c166 nL mc ms ret Q f (xm_drop 20 xm_c166) lv st G E kc ks else xm_run call xm_c166 nL mc ms ret Q f (xm_drop 16 xm_c166) lv st G E kc ks)
    | _ => false)) := rfl
theorem xz_166_16 : xm_run call xm_c166 nL mc ms ret Q (f + 1) (xm_drop 16 xm_c166) lv st G E kc ks = ((match xm_get lv 0 with
    | some w => bif xm_isA w then xm_run call xm_c166 nL mc ms ret Q f (xm_drop 17 xm_c166) lv (w :: st) G E kc ks else false
    | none => false)) := rfl
theorem xz_166_17 : xm_run call xm_c166 nL mc ms ret Q (f + 1) (xm_drop 17 xm_c166) lv st G E kc ks = (bif Nat.beq 165 1006 || Nat.beq 165 1007 then xm_strl 165 st G (fun st => xm_run call xm_c166 nL mc ms ret Q f (xm_drop 18 xm_c166) lv st G E kc ks) else xm_call call mc ms 165 0 st G E kc ks (fun st G E kc ks => xm_run call xm_c166 nL mc ms ret Q f (xm_drop 18 xm_c166) lv st G E kc ks)) := rfl
theorem xz_166_18 : xm_run call xm_c166 nL mc ms ret Q (f + 1) (xm_drop 18 xm_c166) lv st G E kc ks = ((match st with
    | w :: st => xm_cmpI E w (.int 0) (fun E s => bif xm_holds .ne s then xm_run call xm_c166 nL mc ms ret Q f (xm_drop 29 xm_c166) lv st G E kc ks else xm_run call xm_c166 nL mc ms ret Q f (xm_drop 19 xm_c166) lv st G E kc ks)
    | _ => false)) := rfl
theorem xz_166_19 : xm_run call xm_c166 nL mc ms ret Q (f + 1) (xm_drop 19 xm_c166) lv st G E kc ks = (xm_run call xm_c166 nL mc ms ret Q f (xm_drop 24 xm_c166) lv st G E kc ks) := rfl
theorem xz_166_20 : xm_run call xm_c166 nL mc ms ret Q (f + 1) (xm_drop 20 xm_c166) lv st G E kc ks = ((match xm_get lv 0 with
    | some w => bif xm_isA w then xm_run call xm_c166 nL mc ms ret Q f (xm_drop 21 xm_c166) lv (w :: st) G E kc ks else false
    | none => false)) := rfl
theorem xz_166_21 : xm_run call xm_c166 nL mc ms ret Q (f + 1) (xm_drop 21 xm_c166) lv st G E kc ks = (xm_run call xm_c166 nL mc ms ret Q f (xm_drop 22 xm_c166) lv ((.long 1952803948) :: st) G E kc ks) := rfl
theorem xz_166_22 : xm_run call xm_c166 nL mc ms ret Q (f + 1) (xm_drop 22 xm_c166) lv st G E kc ks = (bif Nat.beq 135 1006 || Nat.beq 135 1007 then xm_strl 135 st G (fun st => xm_run call xm_c166 nL mc ms ret Q f (xm_drop 23 xm_c166) lv st G E kc ks) else xm_call call mc ms 135 0 st G E kc ks (fun st G E kc ks => xm_run call xm_c166 nL mc ms ret Q f (xm_drop 23 xm_c166) lv st G E kc ks)) := rfl
theorem xz_166_23 : xm_run call xm_c166 nL mc ms ret Q (f + 1) (xm_drop 23 xm_c166) lv st G E kc ks = ((match st with
    | w :: st => xm_cmpI E w (.int 0) (fun E s => bif xm_holds .ne s then xm_run call xm_c166 nL mc ms ret Q f (xm_drop 29 xm_c166) lv st G E kc ks else xm_run call xm_c166 nL mc ms ret Q f (xm_drop 24 xm_c166) lv st G E kc ks)
    | _ => false)) := rfl
theorem xz_166_24 : xm_run call xm_c166 nL mc ms ret Q (f + 1) (xm_drop 24 xm_c166) lv st G E kc ks = ((match xm_get lv 0 with
    | some w => bif xm_isA w then xm_run call xm_c166 nL mc ms ret Q f (xm_drop 25 xm_c166) lv (w :: st) G E kc ks else false
    | none => false)) := rfl
theorem xz_166_25 : xm_run call xm_c166 nL mc ms ret Q (f + 1) (xm_drop 25 xm_c166) lv st G E kc ks = (xm_run call xm_c166 nL mc ms ret Q f (xm_drop 26 xm_c166) lv ((.int 0) :: st) G E kc ks) := rfl
theorem xz_166_26 : xm_run call xm_c166 nL mc ms ret Q (f + 1) (xm_drop 26 xm_c166) lv st G E kc ks = ((match xm_get lv 1 with
    | some w => bif xm_isI w then xm_run call xm_c166 nL mc ms ret Q f (xm_drop 27 xm_c166) lv (w :: st) G E kc ks else false
    | none => false)) := rfl
theorem xz_166_27 : xm_run call xm_c166 nL mc ms ret Q (f + 1) (xm_drop 27 xm_c166) lv st G E kc ks = (bif Nat.beq 131 1006 || Nat.beq 131 1007 then xm_strl 131 st G (fun st => xm_run call xm_c166 nL mc ms ret Q f (xm_drop 28 xm_c166) lv st G E kc ks) else xm_call call mc ms 131 0 st G E kc ks (fun st G E kc ks => xm_run call xm_c166 nL mc ms ret Q f (xm_drop 28 xm_c166) lv st G E kc ks)) := rfl
theorem xz_166_28 : xm_run call xm_c166 nL mc ms ret Q (f + 1) (xm_drop 28 xm_c166) lv st G E kc ks = ((match st with
    | [w] => bif xm_isI w && (xm_rok ret w && (Nat.ble kc mc && Nat.ble ks ms)) then Q (some w) G E else false
    | _ => false)) := rfl
theorem xz_166_29 : xm_run call xm_c166 nL mc ms ret Q (f + 1) (xm_drop 29 xm_c166) lv st G E kc ks = ((match xm_get lv 0 with
    | some w => bif xm_isA w then xm_run call xm_c166 nL mc ms ret Q f (xm_drop 30 xm_c166) lv (w :: st) G E kc ks else false
    | none => false)) := rfl
theorem xz_166_30 : xm_run call xm_c166 nL mc ms ret Q (f + 1) (xm_drop 30 xm_c166) lv st G E kc ks = (xm_getf 11 14 st G (fun st => xm_run call xm_c166 nL mc ms ret Q f (xm_drop 31 xm_c166) lv st G E kc ks)) := rfl
theorem xz_166_31 : xm_run call xm_c166 nL mc ms ret Q (f + 1) (xm_drop 31 xm_c166) lv st G E kc ks = ((match xm_get lv 2 with
    | some w => bif xm_isI w then xm_run call xm_c166 nL mc ms ret Q f (xm_drop 32 xm_c166) lv (w :: st) G E kc ks else false
    | none => false)) := rfl
theorem xz_166_32 : xm_run call xm_c166 nL mc ms ret Q (f + 1) (xm_drop 32 xm_c166) lv st G E kc ks = ((match st with
    | w :: st => xm_cmpI E w (.int 0) (fun E s => bif xm_holds .eq s then xm_run call xm_c166 nL mc ms ret Q f (xm_drop 35 xm_c166) lv st G E kc ks else xm_run call xm_c166 nL mc ms ret Q f (xm_drop 33 xm_c166) lv st G E kc ks)
    | _ => false)) := rfl
theorem xz_166_33 : xm_run call xm_c166 nL mc ms ret Q (f + 1) (xm_drop 33 xm_c166) lv st G E kc ks = (xm_run call xm_c166 nL mc ms ret Q f (xm_drop 34 xm_c166) lv ((.int 40) :: st) G E kc ks) := rfl
theorem xz_166_34 : xm_run call xm_c166 nL mc ms ret Q (f + 1) (xm_drop 34 xm_c166) lv st G E kc ks = (xm_run call xm_c166 nL mc ms ret Q f (xm_drop 36 xm_c166) lv st G E kc ks) := rfl
theorem xz_166_35 : xm_run call xm_c166 nL mc ms ret Q (f + 1) (xm_drop 35 xm_c166) lv st G E kc ks = (xm_run call xm_c166 nL mc ms ret Q f (xm_drop 36 xm_c166) lv ((.int 12) :: st) G E kc ks) := rfl
theorem xz_166_36 : xm_run call xm_c166 nL mc ms ret Q (f + 1) (xm_drop 36 xm_c166) lv st G E kc ks = ((match st with
    | w :: u :: st => xm_cmpI E u w (fun E s => bif xm_holds .ne s then xm_run call xm_c166 nL mc ms ret Q f (xm_drop 42 xm_c166) lv st G E kc ks else xm_run call xm_c166 nL mc ms ret Q f (xm_drop 37 xm_c166) lv st G E kc ks)
    | _ => false)) := rfl
theorem xz_166_37 : xm_run call xm_c166 nL mc ms ret Q (f + 1) (xm_drop 37 xm_c166) lv st G E kc ks = ((match xm_get lv 0 with
    | some w => bif xm_isA w then xm_run call xm_c166 nL mc ms ret Q f (xm_drop 38 xm_c166) lv (w :: st) G E kc ks else false
    | none => false)) := rfl
theorem xz_166_38 : xm_run call xm_c166 nL mc ms ret Q (f + 1) (xm_drop 38 xm_c166) lv st G E kc ks = (xm_run call xm_c166 nL mc ms ret Q f (xm_drop 39 xm_c166) lv ((.int 4) :: st) G E kc ks) := rfl
theorem xz_166_39 : xm_run call xm_c166 nL mc ms ret Q (f + 1) (xm_drop 39 xm_c166) lv st G E kc ks = ((match xm_get lv 1 with
    | some w => bif xm_isI w then xm_run call xm_c166 nL mc ms ret Q f (xm_drop 40 xm_c166) lv (w :: st) G E kc ks else false
    | none => false)) := rfl
theorem xz_166_40 : xm_run call xm_c166 nL mc ms ret Q (f + 1) (xm_drop 40 xm_c166) lv st G E kc ks = (bif Nat.beq 131 1006 || Nat.beq 131 1007 then xm_strl 131 st G (fun st => xm_run call xm_c166 nL mc ms ret Q f (xm_drop 41 xm_c166) lv st G E kc ks) else xm_call call mc ms 131 0 st G E kc ks (fun st G E kc ks => xm_run call xm_c166 nL mc ms ret Q f (xm_drop 41 xm_c166) lv st G E kc ks)) := rfl
theorem xz_166_41 : xm_run call xm_c166 nL mc ms ret Q (f + 1) (xm_drop 41 xm_c166) lv st G E kc ks = ((match st with
    | [w] => bif xm_isI w && (xm_rok ret w && (Nat.ble kc mc && Nat.ble ks ms)) then Q (some w) G E else false
    | _ => false)) := rfl
theorem xz_166_42 : xm_run call xm_c166 nL mc ms ret Q (f + 1) (xm_drop 42 xm_c166) lv st G E kc ks = ((match xm_get lv 0 with
    | some w => bif xm_isA w then xm_run call xm_c166 nL mc ms ret Q f (xm_drop 43 xm_c166) lv (w :: st) G E kc ks else false
    | none => false)) := rfl
theorem xz_166_43 : xm_run call xm_c166 nL mc ms ret Q (f + 1) (xm_drop 43 xm_c166) lv st G E kc ks = ((match st with
    | w :: st => bif xm_cat1 w then xm_run call xm_c166 nL mc ms ret Q f (xm_drop 44 xm_c166) lv (w :: w :: st) G E kc ks else false
    | _ => false)) := rfl
theorem xz_166_44 : xm_run call xm_c166 nL mc ms ret Q (f + 1) (xm_drop 44 xm_c166) lv st G E kc ks = (xm_getf 11 14 st G (fun st => xm_run call xm_c166 nL mc ms ret Q f (xm_drop 45 xm_c166) lv st G E kc ks)) := rfl
theorem xz_166_45 : xm_run call xm_c166 nL mc ms ret Q (f + 1) (xm_drop 45 xm_c166) lv st G E kc ks = (xm_run call xm_c166 nL mc ms ret Q f (xm_drop 46 xm_c166) lv ((.int 1) :: st) G E kc ks) := rfl
theorem xz_166_46 : xm_run call xm_c166 nL mc ms ret Q (f + 1) (xm_drop 46 xm_c166) lv st G E kc ks = (xm_int2 .iadd st E (fun st E => xm_run call xm_c166 nL mc ms ret Q f (xm_drop 47 xm_c166) lv st G E kc ks)) := rfl
theorem xz_166_47 : xm_run call xm_c166 nL mc ms ret Q (f + 1) (xm_drop 47 xm_c166) lv st G E kc ks = (xm_putf 11 14 st G (fun st G => xm_run call xm_c166 nL mc ms ret Q f (xm_drop 48 xm_c166) lv st G E kc ks)) := rfl
theorem xz_166_48 : xm_run call xm_c166 nL mc ms ret Q (f + 1) (xm_drop 48 xm_c166) lv st G E kc ks = ((match xm_get lv 2 with
    | some w => bif xm_isI w then xm_run call xm_c166 nL mc ms ret Q f (xm_drop 49 xm_c166) lv (w :: st) G E kc ks else false
    | none => false)) := rfl
theorem xz_166_49 : xm_run call xm_c166 nL mc ms ret Q (f + 1) (xm_drop 49 xm_c166) lv st G E kc ks = ((match st with
    | w :: st => xm_cmpI E w (.int 0) (fun E s => bif xm_holds .eq s then xm_run call xm_c166 nL mc ms ret Q f (xm_drop 54 xm_c166) lv st G E kc ks else xm_run call xm_c166 nL mc ms ret Q f (xm_drop 50 xm_c166) lv st G E kc ks)
    | _ => false)) := rfl
theorem xz_166_50 : xm_run call xm_c166 nL mc ms ret Q (f + 1) (xm_drop 50 xm_c166) lv st G E kc ks = ((match xm_get lv 0 with
    | some w => bif xm_isA w then xm_run call xm_c166 nL mc ms ret Q f (xm_drop 51 xm_c166) lv (w :: st) G E kc ks else false
    | none => false)) := rfl
theorem xz_166_51 : xm_run call xm_c166 nL mc ms ret Q (f + 1) (xm_drop 51 xm_c166) lv st G E kc ks = ((match xm_get lv 1 with
    | some w => bif xm_isI w then xm_run call xm_c166 nL mc ms ret Q f (xm_drop 52 xm_c166) lv (w :: st) G E kc ks else false
    | none => false)) := rfl
theorem xz_166_52 : xm_run call xm_c166 nL mc ms ret Q (f + 1) (xm_drop 52 xm_c166) lv st G E kc ks = (bif Nat.beq 164 1006 || Nat.beq 164 1007 then xm_strl 164 st G (fun st => xm_run call xm_c166 nL mc ms ret Q f (xm_drop 53 xm_c166) lv st G E kc ks) else xm_call call mc ms 164 0 st G E kc ks (fun st G E kc ks => xm_run call xm_c166 nL mc ms ret Q f (xm_drop 53 xm_c166) lv st G E kc ks)) := rfl
theorem xz_166_53 : xm_run call xm_c166 nL mc ms ret Q (f + 1) (xm_drop 53 xm_c166) lv st G E kc ks = (xm_run call xm_c166 nL mc ms ret Q f (xm_drop 56 xm_c166) lv st G E kc ks) := rfl
theorem xz_166_54 : xm_run call xm_c166 nL mc ms ret Q (f + 1) (xm_drop 54 xm_c166) lv st G E kc ks = ((match xm_get lv 0 with
    | some w => bif xm_isA w then xm_run call xm_c166 nL mc ms ret Q f (xm_drop 55 xm_c166) lv (w :: st) G E kc ks else false
    | none => false)) := rfl
theorem xz_166_55 : xm_run call xm_c166 nL mc ms ret Q (f + 1) (xm_drop 55 xm_c166) lv st G E kc ks = (bif Nat.beq 153 1006 || Nat.beq 153 1007 then xm_strl 153 st G (fun st => xm_run call xm_c166 nL mc ms ret Q f (xm_drop 56 xm_c166) lv st G E kc ks) else xm_call call mc ms 153 0 st G E kc ks (fun st G E kc ks => xm_run call xm_c166 nL mc ms ret Q f (xm_drop 56 xm_c166) lv st G E kc ks)) := rfl
theorem xz_166_56 : xm_run call xm_c166 nL mc ms ret Q (f + 1) (xm_drop 56 xm_c166) lv st G E kc ks = ((match st with
    | [w] => bif xm_isI w && (xm_rok ret w && (Nat.ble kc mc && Nat.ble ks ms)) then Q (some w) G E else false
    | _ => false)) := rfl
theorem xz_168_0 : xm_run call xm_c168 nL mc ms ret Q (f + 1) (xm_drop 0 xm_c168) lv st G E kc ks = ((match xm_get lv 0 with
    | some w => bif xm_isA w then xm_run call xm_c168 nL mc ms ret Q f (xm_drop 1 xm_c168) lv (w :: st) G E kc ks else false
    | none => false)) := rfl
theorem xz_168_1 : xm_run call xm_c168 nL mc ms ret Q (f + 1) (xm_drop 1 xm_c168) lv st G E kc ks = (xm_getf 11 2 st G (fun st => xm_run call xm_c168 nL mc ms ret Q f (xm_drop 2 xm_c168) lv st G E kc ks)) := rfl
theorem xz_168_2 : xm_run call xm_c168 nL mc ms ret Q (f + 1) (xm_drop 2 xm_c168) lv st G E kc ks = (xm_run call xm_c168 nL mc ms ret Q f (xm_drop 3 xm_c168) lv ((.int 6) :: st) G E kc ks) := rfl
theorem xz_168_3 : xm_run call xm_c168 nL mc ms ret Q (f + 1) (xm_drop 3 xm_c168) lv st G E kc ks = ((match st with
    | w :: u :: st => xm_cmpI E u w (fun E s => bif xm_holds .ne s then xm_run call xm_c168 nL mc ms ret Q f (xm_drop 6 xm_c168) lv st G E kc ks else xm_run call xm_c168 nL mc ms ret Q f (xm_drop 4 xm_c168) lv st G E kc ks)
    | _ => false)) := rfl
theorem xz_168_4 : xm_run call xm_c168 nL mc ms ret Q (f + 1) (xm_drop 4 xm_c168) lv st G E kc ks = (xm_run call xm_c168 nL mc ms ret Q f (xm_drop 5 xm_c168) lv ((.int (-1)) :: st) G E kc ks) := rfl
theorem xz_168_5 : xm_run call xm_c168 nL mc ms ret Q (f + 1) (xm_drop 5 xm_c168) lv st G E kc ks = ((match st with
    | [w] => bif xm_isI w && (xm_rok ret w && (Nat.ble kc mc && Nat.ble ks ms)) then Q (some w) G E else false
    | _ => false)) := rfl
theorem xz_168_6 : xm_run call xm_c168 nL mc ms ret Q (f + 1) (xm_drop 6 xm_c168) lv st G E kc ks = ((match xm_get lv 0 with
    | some w => bif xm_isA w then xm_run call xm_c168 nL mc ms ret Q f (xm_drop 7 xm_c168) lv (w :: st) G E kc ks else false
    | none => false)) := rfl
theorem xz_168_7 : xm_run call xm_c168 nL mc ms ret Q (f + 1) (xm_drop 7 xm_c168) lv st G E kc ks = ((match xm_get lv 0 with
    | some w => bif xm_isA w then xm_run call xm_c168 nL mc ms ret Q f (xm_drop 8 xm_c168) lv (w :: st) G E kc ks else false
    | none => false)) := rfl
theorem xz_168_8 : xm_run call xm_c168 nL mc ms ret Q (f + 1) (xm_drop 8 xm_c168) lv st G E kc ks = (xm_getf 11 2 st G (fun st => xm_run call xm_c168 nL mc ms ret Q f (xm_drop 9 xm_c168) lv st G E kc ks)) := rfl
theorem xz_168_9 : xm_run call xm_c168 nL mc ms ret Q (f + 1) (xm_drop 9 xm_c168) lv st G E kc ks = (xm_putf 11 11 st G (fun st G => xm_run call xm_c168 nL mc ms ret Q f (xm_drop 10 xm_c168) lv st G E kc ks)) := rfl
theorem xz_168_10 : xm_run call xm_c168 nL mc ms ret Q (f + 1) (xm_drop 10 xm_c168) lv st G E kc ks = ((match xm_get lv 0 with
    | some w => bif xm_isA w then xm_run call xm_c168 nL mc ms ret Q f (xm_drop 11 xm_c168) lv (w :: st) G E kc ks else false
    | none => false)) := rfl
theorem xz_168_11 : xm_run call xm_c168 nL mc ms ret Q (f + 1) (xm_drop 11 xm_c168) lv st G E kc ks = (xm_getf 11 6 st G (fun st => xm_run call xm_c168 nL mc ms ret Q f (xm_drop 12 xm_c168) lv st G E kc ks)) := rfl
theorem xz_168_12 : xm_run call xm_c168 nL mc ms ret Q (f + 1) (xm_drop 12 xm_c168) lv st G E kc ks = ((match xm_get lv 0 with
    | some w => bif xm_isA w then xm_run call xm_c168 nL mc ms ret Q f (xm_drop 13 xm_c168) lv (w :: st) G E kc ks else false
    | none => false)) := rfl
theorem xz_168_13 : xm_run call xm_c168 nL mc ms ret Q (f + 1) (xm_drop 13 xm_c168) lv st G E kc ks = (xm_getf 11 11 st G (fun st => xm_run call xm_c168 nL mc ms ret Q f (xm_drop 14 xm_c168) lv st G E kc ks)) := rfl
theorem xz_168_14 : xm_run call xm_c168 nL mc ms ret Q (f + 1) (xm_drop 14 xm_c168) lv st G E kc ks = (xm_run call xm_c168 nL mc ms ret Q f (xm_drop 15 xm_c168) lv ((.int 0) :: st) G E kc ks) := rfl
theorem xz_168_15 : xm_run call xm_c168 nL mc ms ret Q (f + 1) (xm_drop 15 xm_c168) lv st G E kc ks = (xm_ast (fun t => Nat.beq t 100) xm_kI st G E (fun st G E => xm_run call xm_c168 nL mc ms ret Q f (xm_drop 16 xm_c168) lv st G E kc ks)) := rfl
theorem xz_168_16 : xm_run call xm_c168 nL mc ms ret Q (f + 1) (xm_drop 16 xm_c168) lv st G E kc ks = ((match xm_get lv 0 with
    | some w => bif xm_isA w then xm_run call xm_c168 nL mc ms ret Q f (xm_drop 17 xm_c168) lv (w :: st) G E kc ks else false
    | none => false)) := rfl
theorem xz_168_17 : xm_run call xm_c168 nL mc ms ret Q (f + 1) (xm_drop 17 xm_c168) lv st G E kc ks = (bif Nat.beq 167 1006 || Nat.beq 167 1007 then xm_strl 167 st G (fun st => xm_run call xm_c168 nL mc ms ret Q f (xm_drop 18 xm_c168) lv st G E kc ks) else xm_call call mc ms 167 0 st G E kc ks (fun st G E kc ks => xm_run call xm_c168 nL mc ms ret Q f (xm_drop 18 xm_c168) lv st G E kc ks)) := rfl
theorem xz_168_18 : xm_run call xm_c168 nL mc ms ret Q (f + 1) (xm_drop 18 xm_c168) lv st G E kc ks = ((match st with
    | w :: st => xm_cmpI E w (.int 0) (fun E s => bif xm_holds .ne s then xm_run call xm_c168 nL mc ms ret Q f (xm_drop 24 xm_c168) lv st G E kc ks else xm_run call xm_c168 nL mc ms ret Q f (xm_drop 19 xm_c168) lv st G E kc ks)
    | _ => false)) := rfl
theorem xz_168_19 : xm_run call xm_c168 nL mc ms ret Q (f + 1) (xm_drop 19 xm_c168) lv st G E kc ks = (xm_run call xm_c168 nL mc ms ret Q f (xm_drop 20 xm_c168) lv ((.int (-2)) :: st) G E kc ks) := rfl
theorem xz_168_20 : xm_run call xm_c168 nL mc ms ret Q (f + 1) (xm_drop 20 xm_c168) lv st G E kc ks = ((match xm_get lv 0 with
    | some w => bif xm_isA w then xm_run call xm_c168 nL mc ms ret Q f (xm_drop 21 xm_c168) lv (w :: st) G E kc ks else false
    | none => false)) := rfl
theorem xz_168_21 : xm_run call xm_c168 nL mc ms ret Q (f + 1) (xm_drop 21 xm_c168) lv st G E kc ks = (xm_getf 11 9 st G (fun st => xm_run call xm_c168 nL mc ms ret Q f (xm_drop 22 xm_c168) lv st G E kc ks)) := rfl
theorem xz_168_22 : xm_run call xm_c168 nL mc ms ret Q (f + 1) (xm_drop 22 xm_c168) lv st G E kc ks = (xm_int2 .isub st E (fun st E => xm_run call xm_c168 nL mc ms ret Q f (xm_drop 23 xm_c168) lv st G E kc ks)) := rfl
theorem xz_168_23 : xm_run call xm_c168 nL mc ms ret Q (f + 1) (xm_drop 23 xm_c168) lv st G E kc ks = ((match st with
    | [w] => bif xm_isI w && (xm_rok ret w && (Nat.ble kc mc && Nat.ble ks ms)) then Q (some w) G E else false
    | _ => false)) := rfl
theorem xz_168_24 : xm_run call xm_c168 nL mc ms ret Q (f + 1) (xm_drop 24 xm_c168) lv st G E kc ks = ((match xm_get lv 0 with
    | some w => bif xm_isA w then xm_run call xm_c168 nL mc ms ret Q f (xm_drop 25 xm_c168) lv (w :: st) G E kc ks else false
    | none => false)) := rfl
theorem xz_168_25 : xm_run call xm_c168 nL mc ms ret Q (f + 1) (xm_drop 25 xm_c168) lv st G E kc ks = ((match st with
    | w :: st => bif xm_cat1 w then xm_run call xm_c168 nL mc ms ret Q f (xm_drop 26 xm_c168) lv (w :: w :: st) G E kc ks else false
    | _ => false)) := rfl
theorem xz_168_26 : xm_run call xm_c168 nL mc ms ret Q (f + 1) (xm_drop 26 xm_c168) lv st G E kc ks = (xm_getf 11 2 st G (fun st => xm_run call xm_c168 nL mc ms ret Q f (xm_drop 27 xm_c168) lv st G E kc ks)) := rfl
theorem xz_168_27 : xm_run call xm_c168 nL mc ms ret Q (f + 1) (xm_drop 27 xm_c168) lv st G E kc ks = (xm_run call xm_c168 nL mc ms ret Q f (xm_drop 28 xm_c168) lv ((.int 1) :: st) G E kc ks) := rfl
theorem xz_168_28 : xm_run call xm_c168 nL mc ms ret Q (f + 1) (xm_drop 28 xm_c168) lv st G E kc ks = (xm_int2 .iadd st E (fun st E => xm_run call xm_c168 nL mc ms ret Q f (xm_drop 29 xm_c168) lv st G E kc ks)) := rfl
theorem xz_168_29 : xm_run call xm_c168 nL mc ms ret Q (f + 1) (xm_drop 29 xm_c168) lv st G E kc ks = (xm_putf 11 2 st G (fun st G => xm_run call xm_c168 nL mc ms ret Q f (xm_drop 30 xm_c168) lv st G E kc ks)) := rfl
theorem xz_168_30 : xm_run call xm_c168 nL mc ms ret Q (f + 1) (xm_drop 30 xm_c168) lv st G E kc ks = ((match xm_get lv 0 with
    | some w => bif xm_isA w then xm_run call xm_c168 nL mc ms ret Q f (xm_drop 31 xm_c168) lv (w :: st) G E kc ks else false
    | none => false)) := rfl
theorem xz_168_31 : xm_run call xm_c168 nL mc ms ret Q (f + 1) (xm_drop 31 xm_c168) lv st G E kc ks = (xm_getf 11 2 st G (fun st => xm_run call xm_c168 nL mc ms ret Q f (xm_drop 32 xm_c168) lv st G E kc ks)) := rfl
theorem xz_168_32 : xm_run call xm_c168 nL mc ms ret Q (f + 1) (xm_drop 32 xm_c168) lv st G E kc ks = (xm_run call xm_c168 nL mc ms ret Q f (xm_drop 33 xm_c168) lv ((.int 1) :: st) G E kc ks) := rfl
theorem xz_168_33 : xm_run call xm_c168 nL mc ms ret Q (f + 1) (xm_drop 33 xm_c168) lv st G E kc ks = (xm_int2 .isub st E (fun st E => xm_run call xm_c168 nL mc ms ret Q f (xm_drop 34 xm_c168) lv st G E kc ks)) := rfl
theorem xz_168_34 : xm_run call xm_c168 nL mc ms ret Q (f + 1) (xm_drop 34 xm_c168) lv st G E kc ks = ((match st with
    | [w] => bif xm_isI w && (xm_rok ret w && (Nat.ble kc mc && Nat.ble ks ms)) then Q (some w) G E else false
    | _ => false)) := rfl
theorem xz_171_0 : xm_run call xm_c171 nL mc ms ret Q (f + 1) (xm_drop 0 xm_c171) lv st G E kc ks = ((match xm_get lv 0 with
    | some w => bif xm_isA w then xm_run call xm_c171 nL mc ms ret Q f (xm_drop 1 xm_c171) lv (w :: st) G E kc ks else false
    | none => false)) := rfl
theorem xz_171_1 : xm_run call xm_c171 nL mc ms ret Q (f + 1) (xm_drop 1 xm_c171) lv st G E kc ks = (xm_getf 11 17 st G (fun st => xm_run call xm_c171 nL mc ms ret Q f (xm_drop 2 xm_c171) lv st G E kc ks)) := rfl
theorem xz_171_2 : xm_run call xm_c171 nL mc ms ret Q (f + 1) (xm_drop 2 xm_c171) lv st G E kc ks = ((match xm_get lv 0 with
    | some w => bif xm_isA w then xm_run call xm_c171 nL mc ms ret Q f (xm_drop 3 xm_c171) lv (w :: st) G E kc ks else false
    | none => false)) := rfl
theorem xz_171_3 : xm_run call xm_c171 nL mc ms ret Q (f + 1) (xm_drop 3 xm_c171) lv st G E kc ks = (xm_getf 11 18 st G (fun st => xm_run call xm_c171 nL mc ms ret Q f (xm_drop 4 xm_c171) lv st G E kc ks)) := rfl
theorem xz_171_4 : xm_run call xm_c171 nL mc ms ret Q (f + 1) (xm_drop 4 xm_c171) lv st G E kc ks = ((match xm_get lv 1 with
    | some w => bif xm_isL w then xm_run call xm_c171 nL mc ms ret Q f (xm_drop 5 xm_c171) lv (w :: st) G E kc ks else false
    | none => false)) := rfl
theorem xz_171_5 : xm_run call xm_c171 nL mc ms ret Q (f + 1) (xm_drop 5 xm_c171) lv st G E kc ks = (xm_ast (fun t => Nat.beq t 102) xm_kL st G E (fun st G E => xm_run call xm_c171 nL mc ms ret Q f (xm_drop 6 xm_c171) lv st G E kc ks)) := rfl
theorem xz_171_6 : xm_run call xm_c171 nL mc ms ret Q (f + 1) (xm_drop 6 xm_c171) lv st G E kc ks = ((match xm_get lv 0 with
    | some w => bif xm_isA w then xm_run call xm_c171 nL mc ms ret Q f (xm_drop 7 xm_c171) lv (w :: st) G E kc ks else false
    | none => false)) := rfl
theorem xz_171_7 : xm_run call xm_c171 nL mc ms ret Q (f + 1) (xm_drop 7 xm_c171) lv st G E kc ks = ((match st with
    | w :: st => bif xm_cat1 w then xm_run call xm_c171 nL mc ms ret Q f (xm_drop 8 xm_c171) lv (w :: w :: st) G E kc ks else false
    | _ => false)) := rfl
theorem xz_171_8 : xm_run call xm_c171 nL mc ms ret Q (f + 1) (xm_drop 8 xm_c171) lv st G E kc ks = (xm_getf 11 18 st G (fun st => xm_run call xm_c171 nL mc ms ret Q f (xm_drop 9 xm_c171) lv st G E kc ks)) := rfl
theorem xz_171_9 : xm_run call xm_c171 nL mc ms ret Q (f + 1) (xm_drop 9 xm_c171) lv st G E kc ks = (xm_run call xm_c171 nL mc ms ret Q f (xm_drop 10 xm_c171) lv ((.int 1) :: st) G E kc ks) := rfl
theorem xz_171_10 : xm_run call xm_c171 nL mc ms ret Q (f + 1) (xm_drop 10 xm_c171) lv st G E kc ks = (xm_int2 .iadd st E (fun st E => xm_run call xm_c171 nL mc ms ret Q f (xm_drop 11 xm_c171) lv st G E kc ks)) := rfl
theorem xz_171_11 : xm_run call xm_c171 nL mc ms ret Q (f + 1) (xm_drop 11 xm_c171) lv st G E kc ks = (xm_putf 11 18 st G (fun st G => xm_run call xm_c171 nL mc ms ret Q f (xm_drop 12 xm_c171) lv st G E kc ks)) := rfl
theorem xz_171_12 : xm_run call xm_c171 nL mc ms ret Q (f + 1) (xm_drop 12 xm_c171) lv st G E kc ks = ((match st with
    | [] => bif ret.isNone && (Nat.ble kc mc && Nat.ble ks ms) then Q none G E else false
    | _ => false)) := rfl
theorem xz_172_0 : xm_run call xm_c172 nL mc ms ret Q (f + 1) (xm_drop 0 xm_c172) lv st G E kc ks = ((match xm_get lv 0 with
    | some w => bif xm_isA w then xm_run call xm_c172 nL mc ms ret Q f (xm_drop 1 xm_c172) lv (w :: st) G E kc ks else false
    | none => false)) := rfl
theorem xz_172_1 : xm_run call xm_c172 nL mc ms ret Q (f + 1) (xm_drop 1 xm_c172) lv st G E kc ks = ((match st with
    | w :: st => bif xm_cat1 w then xm_run call xm_c172 nL mc ms ret Q f (xm_drop 2 xm_c172) lv (w :: w :: st) G E kc ks else false
    | _ => false)) := rfl
theorem xz_172_2 : xm_run call xm_c172 nL mc ms ret Q (f + 1) (xm_drop 2 xm_c172) lv st G E kc ks = (xm_getf 11 18 st G (fun st => xm_run call xm_c172 nL mc ms ret Q f (xm_drop 3 xm_c172) lv st G E kc ks)) := rfl
theorem xz_172_3 : xm_run call xm_c172 nL mc ms ret Q (f + 1) (xm_drop 3 xm_c172) lv st G E kc ks = (xm_run call xm_c172 nL mc ms ret Q f (xm_drop 4 xm_c172) lv ((.int 1) :: st) G E kc ks) := rfl
theorem xz_172_4 : xm_run call xm_c172 nL mc ms ret Q (f + 1) (xm_drop 4 xm_c172) lv st G E kc ks = (xm_int2 .isub st E (fun st E => xm_run call xm_c172 nL mc ms ret Q f (xm_drop 5 xm_c172) lv st G E kc ks)) := rfl
theorem xz_172_5 : xm_run call xm_c172 nL mc ms ret Q (f + 1) (xm_drop 5 xm_c172) lv st G E kc ks = (xm_putf 11 18 st G (fun st G => xm_run call xm_c172 nL mc ms ret Q f (xm_drop 6 xm_c172) lv st G E kc ks)) := rfl
theorem xz_172_6 : xm_run call xm_c172 nL mc ms ret Q (f + 1) (xm_drop 6 xm_c172) lv st G E kc ks = ((match xm_get lv 0 with
    | some w => bif xm_isA w then xm_run call xm_c172 nL mc ms ret Q f (xm_drop 7 xm_c172) lv (w :: st) G E kc ks else false
    | none => false)) := rfl
theorem xz_172_7 : xm_run call xm_c172 nL mc ms ret Q (f + 1) (xm_drop 7 xm_c172) lv st G E kc ks = (xm_getf 11 17 st G (fun st => xm_run call xm_c172 nL mc ms ret Q f (xm_drop 8 xm_c172) lv st G E kc ks)) := rfl
theorem xz_172_8 : xm_run call xm_c172 nL mc ms ret Q (f + 1) (xm_drop 8 xm_c172) lv st G E kc ks = ((match xm_get lv 0 with
    | some w => bif xm_isA w then xm_run call xm_c172 nL mc ms ret Q f (xm_drop 9 xm_c172) lv (w :: st) G E kc ks else false
    | none => false)) := rfl
theorem xz_172_9 : xm_run call xm_c172 nL mc ms ret Q (f + 1) (xm_drop 9 xm_c172) lv st G E kc ks = (xm_getf 11 18 st G (fun st => xm_run call xm_c172 nL mc ms ret Q f (xm_drop 10 xm_c172) lv st G E kc ks)) := rfl
theorem xz_172_10 : xm_run call xm_c172 nL mc ms ret Q (f + 1) (xm_drop 10 xm_c172) lv st G E kc ks = (xm_ald (fun t => Nat.beq t 102) st G E (fun st E => xm_run call xm_c172 nL mc ms ret Q f (xm_drop 11 xm_c172) lv st G E kc ks)) := rfl
theorem xz_172_11 : xm_run call xm_c172 nL mc ms ret Q (f + 1) (xm_drop 11 xm_c172) lv st G E kc ks = ((match st with
    | [w] => bif xm_isL w && (xm_rok ret w && (Nat.ble kc mc && Nat.ble ks ms)) then Q (some w) G E else false
    | _ => false)) := rfl
theorem xz_173_0 : xm_run call xm_c173 nL mc ms ret Q (f + 1) (xm_drop 0 xm_c173) lv st G E kc ks = ((match xm_get lv 0 with
    | some w => bif xm_isI w then xm_run call xm_c173 nL mc ms ret Q f (xm_drop 1 xm_c173) lv (w :: st) G E kc ks else false
    | none => false)) := rfl
theorem xz_173_1 : xm_run call xm_c173 nL mc ms ret Q (f + 1) (xm_drop 1 xm_c173) lv st G E kc ks = ((match st with
    | w :: st => xm_table 2 78 [2, 6, 10, 14, 34, 42, 50, 58, 66, 78, 74, 78, 24] w E (fun E t => xm_run call xm_c173 nL mc ms ret Q f (xm_drop t xm_c173) lv st G E kc ks)
    | _ => false)) := rfl
theorem xz_173_2 : xm_run call xm_c173 nL mc ms ret Q (f + 1) (xm_drop 2 xm_c173) lv st G E kc ks = ((match xm_get lv 1 with
    | some w => bif xm_isL w then xm_run call xm_c173 nL mc ms ret Q f (xm_drop 3 xm_c173) lv (w :: st) G E kc ks else false
    | none => false)) := rfl
theorem xz_173_3 : xm_run call xm_c173 nL mc ms ret Q (f + 1) (xm_drop 3 xm_c173) lv st G E kc ks = ((match xm_get lv 3 with
    | some w => bif xm_isL w then xm_run call xm_c173 nL mc ms ret Q f (xm_drop 4 xm_c173) lv (w :: st) G E kc ks else false
    | none => false)) := rfl
theorem xz_173_4 : xm_run call xm_c173 nL mc ms ret Q (f + 1) (xm_drop 4 xm_c173) lv st G E kc ks = (xm_long2 .ladd st (fun st => xm_run call xm_c173 nL mc ms ret Q f (xm_drop 5 xm_c173) lv st G E kc ks)) := rfl
theorem xz_173_5 : xm_run call xm_c173 nL mc ms ret Q (f + 1) (xm_drop 5 xm_c173) lv st G E kc ks = ((match st with
    | [w] => bif xm_isL w && (xm_rok ret w && (Nat.ble kc mc && Nat.ble ks ms)) then Q (some w) G E else false
    | _ => false)) := rfl
theorem xz_173_6 : xm_run call xm_c173 nL mc ms ret Q (f + 1) (xm_drop 6 xm_c173) lv st G E kc ks = ((match xm_get lv 1 with
    | some w => bif xm_isL w then xm_run call xm_c173 nL mc ms ret Q f (xm_drop 7 xm_c173) lv (w :: st) G E kc ks else false
    | none => false)) := rfl
theorem xz_173_7 : xm_run call xm_c173 nL mc ms ret Q (f + 1) (xm_drop 7 xm_c173) lv st G E kc ks = ((match xm_get lv 3 with
    | some w => bif xm_isL w then xm_run call xm_c173 nL mc ms ret Q f (xm_drop 8 xm_c173) lv (w :: st) G E kc ks else false
    | none => false)) := rfl
theorem xz_173_8 : xm_run call xm_c173 nL mc ms ret Q (f + 1) (xm_drop 8 xm_c173) lv st G E kc ks = (xm_long2 .lsub st (fun st => xm_run call xm_c173 nL mc ms ret Q f (xm_drop 9 xm_c173) lv st G E kc ks)) := rfl
theorem xz_173_9 : xm_run call xm_c173 nL mc ms ret Q (f + 1) (xm_drop 9 xm_c173) lv st G E kc ks = ((match st with
    | [w] => bif xm_isL w && (xm_rok ret w && (Nat.ble kc mc && Nat.ble ks ms)) then Q (some w) G E else false
    | _ => false)) := rfl
theorem xz_173_10 : xm_run call xm_c173 nL mc ms ret Q (f + 1) (xm_drop 10 xm_c173) lv st G E kc ks = ((match xm_get lv 1 with
    | some w => bif xm_isL w then xm_run call xm_c173 nL mc ms ret Q f (xm_drop 11 xm_c173) lv (w :: st) G E kc ks else false
    | none => false)) := rfl
theorem xz_173_11 : xm_run call xm_c173 nL mc ms ret Q (f + 1) (xm_drop 11 xm_c173) lv st G E kc ks = ((match xm_get lv 3 with
    | some w => bif xm_isL w then xm_run call xm_c173 nL mc ms ret Q f (xm_drop 12 xm_c173) lv (w :: st) G E kc ks else false
    | none => false)) := rfl
theorem xz_173_12 : xm_run call xm_c173 nL mc ms ret Q (f + 1) (xm_drop 12 xm_c173) lv st G E kc ks = (xm_long2 .lmul st (fun st => xm_run call xm_c173 nL mc ms ret Q f (xm_drop 13 xm_c173) lv st G E kc ks)) := rfl
theorem xz_173_13 : xm_run call xm_c173 nL mc ms ret Q (f + 1) (xm_drop 13 xm_c173) lv st G E kc ks = ((match st with
    | [w] => bif xm_isL w && (xm_rok ret w && (Nat.ble kc mc && Nat.ble ks ms)) then Q (some w) G E else false
    | _ => false)) := rfl
theorem xz_173_14 : xm_run call xm_c173 nL mc ms ret Q (f + 1) (xm_drop 14 xm_c173) lv st G E kc ks = ((match xm_get lv 3 with
    | some w => bif xm_isL w then xm_run call xm_c173 nL mc ms ret Q f (xm_drop 15 xm_c173) lv (w :: st) G E kc ks else false
    | none => false)) := rfl
theorem xz_173_15 : xm_run call xm_c173 nL mc ms ret Q (f + 1) (xm_drop 15 xm_c173) lv st G E kc ks = (xm_run call xm_c173 nL mc ms ret Q f (xm_drop 16 xm_c173) lv ((.long 0) :: st) G E kc ks) := rfl
theorem xz_173_16 : xm_run call xm_c173 nL mc ms ret Q (f + 1) (xm_drop 16 xm_c173) lv st G E kc ks = ((match st with
    | w :: u :: st => xm_cmpL E u w (fun E s => xm_run call xm_c173 nL mc ms ret Q f (xm_drop 17 xm_c173) lv (.int (Int32.ofInt s) :: st) G E kc ks)
    | _ => false)) := rfl
theorem xz_173_17 : xm_run call xm_c173 nL mc ms ret Q (f + 1) (xm_drop 17 xm_c173) lv st G E kc ks = ((match st with
    | w :: st => xm_cmpI E w (.int 0) (fun E s => bif xm_holds .ne s then xm_run call xm_c173 nL mc ms ret Q f (xm_drop 20 xm_c173) lv st G E kc ks else xm_run call xm_c173 nL mc ms ret Q f (xm_drop 18 xm_c173) lv st G E kc ks)
    | _ => false)) := rfl
theorem xz_173_18 : xm_run call xm_c173 nL mc ms ret Q (f + 1) (xm_drop 18 xm_c173) lv st G E kc ks = (xm_run call xm_c173 nL mc ms ret Q f (xm_drop 19 xm_c173) lv ((.long 0) :: st) G E kc ks) := rfl
theorem xz_173_19 : xm_run call xm_c173 nL mc ms ret Q (f + 1) (xm_drop 19 xm_c173) lv st G E kc ks = (xm_run call xm_c173 nL mc ms ret Q f (xm_drop 23 xm_c173) lv st G E kc ks) := rfl
theorem xz_173_20 : xm_run call xm_c173 nL mc ms ret Q (f + 1) (xm_drop 20 xm_c173) lv st G E kc ks = ((match xm_get lv 1 with
    | some w => bif xm_isL w then xm_run call xm_c173 nL mc ms ret Q f (xm_drop 21 xm_c173) lv (w :: st) G E kc ks else false
    | none => false)) := rfl
theorem xz_173_21 : xm_run call xm_c173 nL mc ms ret Q (f + 1) (xm_drop 21 xm_c173) lv st G E kc ks = ((match xm_get lv 3 with
    | some w => bif xm_isL w then xm_run call xm_c173 nL mc ms ret Q f (xm_drop 22 xm_c173) lv (w :: st) G E kc ks else false
    | none => false)) := rfl
theorem xz_173_22 : xm_run call xm_c173 nL mc ms ret Q (f + 1) (xm_drop 22 xm_c173) lv st G E kc ks = (xm_long2 .ldiv st (fun st => xm_run call xm_c173 nL mc ms ret Q f (xm_drop 23 xm_c173) lv st G E kc ks)) := rfl
theorem xz_173_23 : xm_run call xm_c173 nL mc ms ret Q (f + 1) (xm_drop 23 xm_c173) lv st G E kc ks = ((match st with
    | [w] => bif xm_isL w && (xm_rok ret w && (Nat.ble kc mc && Nat.ble ks ms)) then Q (some w) G E else false
    | _ => false)) := rfl
theorem xz_173_24 : xm_run call xm_c173 nL mc ms ret Q (f + 1) (xm_drop 24 xm_c173) lv st G E kc ks = ((match xm_get lv 3 with
    | some w => bif xm_isL w then xm_run call xm_c173 nL mc ms ret Q f (xm_drop 25 xm_c173) lv (w :: st) G E kc ks else false
    | none => false)) := rfl
theorem xz_173_25 : xm_run call xm_c173 nL mc ms ret Q (f + 1) (xm_drop 25 xm_c173) lv st G E kc ks = (xm_run call xm_c173 nL mc ms ret Q f (xm_drop 26 xm_c173) lv ((.long 0) :: st) G E kc ks) := rfl
theorem xz_173_26 : xm_run call xm_c173 nL mc ms ret Q (f + 1) (xm_drop 26 xm_c173) lv st G E kc ks = ((match st with
    | w :: u :: st => xm_cmpL E u w (fun E s => xm_run call xm_c173 nL mc ms ret Q f (xm_drop 27 xm_c173) lv (.int (Int32.ofInt s) :: st) G E kc ks)
    | _ => false)) := rfl
theorem xz_173_27 : xm_run call xm_c173 nL mc ms ret Q (f + 1) (xm_drop 27 xm_c173) lv st G E kc ks = ((match st with
    | w :: st => xm_cmpI E w (.int 0) (fun E s => bif xm_holds .ne s then xm_run call xm_c173 nL mc ms ret Q f (xm_drop 30 xm_c173) lv st G E kc ks else xm_run call xm_c173 nL mc ms ret Q f (xm_drop 28 xm_c173) lv st G E kc ks)
    | _ => false)) := rfl
theorem xz_173_28 : xm_run call xm_c173 nL mc ms ret Q (f + 1) (xm_drop 28 xm_c173) lv st G E kc ks = (xm_run call xm_c173 nL mc ms ret Q f (xm_drop 29 xm_c173) lv ((.long 0) :: st) G E kc ks) := rfl
theorem xz_173_29 : xm_run call xm_c173 nL mc ms ret Q (f + 1) (xm_drop 29 xm_c173) lv st G E kc ks = (xm_run call xm_c173 nL mc ms ret Q f (xm_drop 33 xm_c173) lv st G E kc ks) := rfl
theorem xz_173_30 : xm_run call xm_c173 nL mc ms ret Q (f + 1) (xm_drop 30 xm_c173) lv st G E kc ks = ((match xm_get lv 1 with
    | some w => bif xm_isL w then xm_run call xm_c173 nL mc ms ret Q f (xm_drop 31 xm_c173) lv (w :: st) G E kc ks else false
    | none => false)) := rfl
theorem xz_173_31 : xm_run call xm_c173 nL mc ms ret Q (f + 1) (xm_drop 31 xm_c173) lv st G E kc ks = ((match xm_get lv 3 with
    | some w => bif xm_isL w then xm_run call xm_c173 nL mc ms ret Q f (xm_drop 32 xm_c173) lv (w :: st) G E kc ks else false
    | none => false)) := rfl
theorem xz_173_32 : xm_run call xm_c173 nL mc ms ret Q (f + 1) (xm_drop 32 xm_c173) lv st G E kc ks = (xm_long2 .lrem st (fun st => xm_run call xm_c173 nL mc ms ret Q f (xm_drop 33 xm_c173) lv st G E kc ks)) := rfl
theorem xz_173_33 : xm_run call xm_c173 nL mc ms ret Q (f + 1) (xm_drop 33 xm_c173) lv st G E kc ks = ((match st with
    | [w] => bif xm_isL w && (xm_rok ret w && (Nat.ble kc mc && Nat.ble ks ms)) then Q (some w) G E else false
    | _ => false)) := rfl
theorem xz_173_34 : xm_run call xm_c173 nL mc ms ret Q (f + 1) (xm_drop 34 xm_c173) lv st G E kc ks = ((match xm_get lv 1 with
    | some w => bif xm_isL w then xm_run call xm_c173 nL mc ms ret Q f (xm_drop 35 xm_c173) lv (w :: st) G E kc ks else false
    | none => false)) := rfl
theorem xz_173_35 : xm_run call xm_c173 nL mc ms ret Q (f + 1) (xm_drop 35 xm_c173) lv st G E kc ks = ((match xm_get lv 3 with
    | some w => bif xm_isL w then xm_run call xm_c173 nL mc ms ret Q f (xm_drop 36 xm_c173) lv (w :: st) G E kc ks else false
    | none => false)) := rfl
theorem xz_173_36 : xm_run call xm_c173 nL mc ms ret Q (f + 1) (xm_drop 36 xm_c173) lv st G E kc ks = ((match st with
    | w :: u :: st => xm_cmpL E u w (fun E s => xm_run call xm_c173 nL mc ms ret Q f (xm_drop 37 xm_c173) lv (.int (Int32.ofInt s) :: st) G E kc ks)
    | _ => false)) := rfl
theorem xz_173_37 : xm_run call xm_c173 nL mc ms ret Q (f + 1) (xm_drop 37 xm_c173) lv st G E kc ks = ((match st with
    | w :: st => xm_cmpI E w (.int 0) (fun E s => bif xm_holds .ge s then xm_run call xm_c173 nL mc ms ret Q f (xm_drop 40 xm_c173) lv st G E kc ks else xm_run call xm_c173 nL mc ms ret Q f (xm_drop 38 xm_c173) lv st G E kc ks)
    | _ => false)) := rfl
theorem xz_173_38 : xm_run call xm_c173 nL mc ms ret Q (f + 1) (xm_drop 38 xm_c173) lv st G E kc ks = (xm_run call xm_c173 nL mc ms ret Q f (xm_drop 39 xm_c173) lv ((.long 1) :: st) G E kc ks) := rfl
theorem xz_173_39 : xm_run call xm_c173 nL mc ms ret Q (f + 1) (xm_drop 39 xm_c173) lv st G E kc ks = (xm_run call xm_c173 nL mc ms ret Q f (xm_drop 41 xm_c173) lv st G E kc ks) := rfl
theorem xz_173_40 : xm_run call xm_c173 nL mc ms ret Q (f + 1) (xm_drop 40 xm_c173) lv st G E kc ks = (xm_run call xm_c173 nL mc ms ret Q f (xm_drop 41 xm_c173) lv ((.long 0) :: st) G E kc ks) := rfl
theorem xz_173_41 : xm_run call xm_c173 nL mc ms ret Q (f + 1) (xm_drop 41 xm_c173) lv st G E kc ks = ((match st with
    | [w] => bif xm_isL w && (xm_rok ret w && (Nat.ble kc mc && Nat.ble ks ms)) then Q (some w) G E else false
    | _ => false)) := rfl
theorem xz_173_42 : xm_run call xm_c173 nL mc ms ret Q (f + 1) (xm_drop 42 xm_c173) lv st G E kc ks = ((match xm_get lv 1 with
    | some w => bif xm_isL w then xm_run call xm_c173 nL mc ms ret Q f (xm_drop 43 xm_c173) lv (w :: st) G E kc ks else false
    | none => false)) := rfl
theorem xz_173_43 : xm_run call xm_c173 nL mc ms ret Q (f + 1) (xm_drop 43 xm_c173) lv st G E kc ks = ((match xm_get lv 3 with
    | some w => bif xm_isL w then xm_run call xm_c173 nL mc ms ret Q f (xm_drop 44 xm_c173) lv (w :: st) G E kc ks else false
    | none => false)) := rfl
theorem xz_173_44 : xm_run call xm_c173 nL mc ms ret Q (f + 1) (xm_drop 44 xm_c173) lv st G E kc ks = ((match st with
    | w :: u :: st => xm_cmpL E u w (fun E s => xm_run call xm_c173 nL mc ms ret Q f (xm_drop 45 xm_c173) lv (.int (Int32.ofInt s) :: st) G E kc ks)
    | _ => false)) := rfl
theorem xz_173_45 : xm_run call xm_c173 nL mc ms ret Q (f + 1) (xm_drop 45 xm_c173) lv st G E kc ks = ((match st with
    | w :: st => xm_cmpI E w (.int 0) (fun E s => bif xm_holds .gt s then xm_run call xm_c173 nL mc ms ret Q f (xm_drop 48 xm_c173) lv st G E kc ks else xm_run call xm_c173 nL mc ms ret Q f (xm_drop 46 xm_c173) lv st G E kc ks)
    | _ => false)) := rfl
theorem xz_173_46 : xm_run call xm_c173 nL mc ms ret Q (f + 1) (xm_drop 46 xm_c173) lv st G E kc ks = (xm_run call xm_c173 nL mc ms ret Q f (xm_drop 47 xm_c173) lv ((.long 1) :: st) G E kc ks) := rfl
theorem xz_173_47 : xm_run call xm_c173 nL mc ms ret Q (f + 1) (xm_drop 47 xm_c173) lv st G E kc ks = (xm_run call xm_c173 nL mc ms ret Q f (xm_drop 49 xm_c173) lv st G E kc ks) := rfl
theorem xz_173_48 : xm_run call xm_c173 nL mc ms ret Q (f + 1) (xm_drop 48 xm_c173) lv st G E kc ks = (xm_run call xm_c173 nL mc ms ret Q f (xm_drop 49 xm_c173) lv ((.long 0) :: st) G E kc ks) := rfl
theorem xz_173_49 : xm_run call xm_c173 nL mc ms ret Q (f + 1) (xm_drop 49 xm_c173) lv st G E kc ks = ((match st with
    | [w] => bif xm_isL w && (xm_rok ret w && (Nat.ble kc mc && Nat.ble ks ms)) then Q (some w) G E else false
    | _ => false)) := rfl
theorem xz_173_50 : xm_run call xm_c173 nL mc ms ret Q (f + 1) (xm_drop 50 xm_c173) lv st G E kc ks = ((match xm_get lv 1 with
    | some w => bif xm_isL w then xm_run call xm_c173 nL mc ms ret Q f (xm_drop 51 xm_c173) lv (w :: st) G E kc ks else false
    | none => false)) := rfl
theorem xz_173_51 : xm_run call xm_c173 nL mc ms ret Q (f + 1) (xm_drop 51 xm_c173) lv st G E kc ks = ((match xm_get lv 3 with
    | some w => bif xm_isL w then xm_run call xm_c173 nL mc ms ret Q f (xm_drop 52 xm_c173) lv (w :: st) G E kc ks else false
    | none => false)) := rfl
theorem xz_173_52 : xm_run call xm_c173 nL mc ms ret Q (f + 1) (xm_drop 52 xm_c173) lv st G E kc ks = ((match st with
    | w :: u :: st => xm_cmpL E u w (fun E s => xm_run call xm_c173 nL mc ms ret Q f (xm_drop 53 xm_c173) lv (.int (Int32.ofInt s) :: st) G E kc ks)
    | _ => false)) := rfl
theorem xz_173_53 : xm_run call xm_c173 nL mc ms ret Q (f + 1) (xm_drop 53 xm_c173) lv st G E kc ks = ((match st with
    | w :: st => xm_cmpI E w (.int 0) (fun E s => bif xm_holds .ne s then xm_run call xm_c173 nL mc ms ret Q f (xm_drop 56 xm_c173) lv st G E kc ks else xm_run call xm_c173 nL mc ms ret Q f (xm_drop 54 xm_c173) lv st G E kc ks)
    | _ => false)) := rfl
theorem xz_173_54 : xm_run call xm_c173 nL mc ms ret Q (f + 1) (xm_drop 54 xm_c173) lv st G E kc ks = (xm_run call xm_c173 nL mc ms ret Q f (xm_drop 55 xm_c173) lv ((.long 1) :: st) G E kc ks) := rfl
theorem xz_173_55 : xm_run call xm_c173 nL mc ms ret Q (f + 1) (xm_drop 55 xm_c173) lv st G E kc ks = (xm_run call xm_c173 nL mc ms ret Q f (xm_drop 57 xm_c173) lv st G E kc ks) := rfl
theorem xz_173_56 : xm_run call xm_c173 nL mc ms ret Q (f + 1) (xm_drop 56 xm_c173) lv st G E kc ks = (xm_run call xm_c173 nL mc ms ret Q f (xm_drop 57 xm_c173) lv ((.long 0) :: st) G E kc ks) := rfl
theorem xz_173_57 : xm_run call xm_c173 nL mc ms ret Q (f + 1) (xm_drop 57 xm_c173) lv st G E kc ks = ((match st with
    | [w] => bif xm_isL w && (xm_rok ret w && (Nat.ble kc mc && Nat.ble ks ms)) then Q (some w) G E else false
    | _ => false)) := rfl
theorem xz_173_58 : xm_run call xm_c173 nL mc ms ret Q (f + 1) (xm_drop 58 xm_c173) lv st G E kc ks = ((match xm_get lv 1 with
    | some w => bif xm_isL w then xm_run call xm_c173 nL mc ms ret Q f (xm_drop 59 xm_c173) lv (w :: st) G E kc ks else false
    | none => false)) := rfl
theorem xz_173_59 : xm_run call xm_c173 nL mc ms ret Q (f + 1) (xm_drop 59 xm_c173) lv st G E kc ks = ((match xm_get lv 3 with
    | some w => bif xm_isL w then xm_run call xm_c173 nL mc ms ret Q f (xm_drop 60 xm_c173) lv (w :: st) G E kc ks else false
    | none => false)) := rfl
theorem xz_173_60 : xm_run call xm_c173 nL mc ms ret Q (f + 1) (xm_drop 60 xm_c173) lv st G E kc ks = ((match st with
    | w :: u :: st => xm_cmpL E u w (fun E s => xm_run call xm_c173 nL mc ms ret Q f (xm_drop 61 xm_c173) lv (.int (Int32.ofInt s) :: st) G E kc ks)
    | _ => false)) := rfl
theorem xz_173_61 : xm_run call xm_c173 nL mc ms ret Q (f + 1) (xm_drop 61 xm_c173) lv st G E kc ks = ((match st with
    | w :: st => xm_cmpI E w (.int 0) (fun E s => bif xm_holds .lt s then xm_run call xm_c173 nL mc ms ret Q f (xm_drop 64 xm_c173) lv st G E kc ks else xm_run call xm_c173 nL mc ms ret Q f (xm_drop 62 xm_c173) lv st G E kc ks)
    | _ => false)) := rfl
theorem xz_173_62 : xm_run call xm_c173 nL mc ms ret Q (f + 1) (xm_drop 62 xm_c173) lv st G E kc ks = (xm_run call xm_c173 nL mc ms ret Q f (xm_drop 63 xm_c173) lv ((.long 1) :: st) G E kc ks) := rfl
theorem xz_173_63 : xm_run call xm_c173 nL mc ms ret Q (f + 1) (xm_drop 63 xm_c173) lv st G E kc ks = (xm_run call xm_c173 nL mc ms ret Q f (xm_drop 65 xm_c173) lv st G E kc ks) := rfl
theorem xz_173_64 : xm_run call xm_c173 nL mc ms ret Q (f + 1) (xm_drop 64 xm_c173) lv st G E kc ks = (xm_run call xm_c173 nL mc ms ret Q f (xm_drop 65 xm_c173) lv ((.long 0) :: st) G E kc ks) := rfl
theorem xz_173_65 : xm_run call xm_c173 nL mc ms ret Q (f + 1) (xm_drop 65 xm_c173) lv st G E kc ks = ((match st with
    | [w] => bif xm_isL w && (xm_rok ret w && (Nat.ble kc mc && Nat.ble ks ms)) then Q (some w) G E else false
    | _ => false)) := rfl
theorem xz_173_66 : xm_run call xm_c173 nL mc ms ret Q (f + 1) (xm_drop 66 xm_c173) lv st G E kc ks = ((match xm_get lv 1 with
    | some w => bif xm_isL w then xm_run call xm_c173 nL mc ms ret Q f (xm_drop 67 xm_c173) lv (w :: st) G E kc ks else false
    | none => false)) := rfl
theorem xz_173_67 : xm_run call xm_c173 nL mc ms ret Q (f + 1) (xm_drop 67 xm_c173) lv st G E kc ks = ((match xm_get lv 3 with
    | some w => bif xm_isL w then xm_run call xm_c173 nL mc ms ret Q f (xm_drop 68 xm_c173) lv (w :: st) G E kc ks else false
    | none => false)) := rfl
theorem xz_173_68 : xm_run call xm_c173 nL mc ms ret Q (f + 1) (xm_drop 68 xm_c173) lv st G E kc ks = ((match st with
    | w :: u :: st => xm_cmpL E u w (fun E s => xm_run call xm_c173 nL mc ms ret Q f (xm_drop 69 xm_c173) lv (.int (Int32.ofInt s) :: st) G E kc ks)
    | _ => false)) := rfl
theorem xz_173_69 : xm_run call xm_c173 nL mc ms ret Q (f + 1) (xm_drop 69 xm_c173) lv st G E kc ks = ((match st with
    | w :: st => xm_cmpI E w (.int 0) (fun E s => bif xm_holds .le s then xm_run call xm_c173 nL mc ms ret Q f (xm_drop 72 xm_c173) lv st G E kc ks else xm_run call xm_c173 nL mc ms ret Q f (xm_drop 70 xm_c173) lv st G E kc ks)
    | _ => false)) := rfl
theorem xz_173_70 : xm_run call xm_c173 nL mc ms ret Q (f + 1) (xm_drop 70 xm_c173) lv st G E kc ks = (xm_run call xm_c173 nL mc ms ret Q f (xm_drop 71 xm_c173) lv ((.long 1) :: st) G E kc ks) := rfl
theorem xz_173_71 : xm_run call xm_c173 nL mc ms ret Q (f + 1) (xm_drop 71 xm_c173) lv st G E kc ks = (xm_run call xm_c173 nL mc ms ret Q f (xm_drop 73 xm_c173) lv st G E kc ks) := rfl
theorem xz_173_72 : xm_run call xm_c173 nL mc ms ret Q (f + 1) (xm_drop 72 xm_c173) lv st G E kc ks = (xm_run call xm_c173 nL mc ms ret Q f (xm_drop 73 xm_c173) lv ((.long 0) :: st) G E kc ks) := rfl
theorem xz_173_73 : xm_run call xm_c173 nL mc ms ret Q (f + 1) (xm_drop 73 xm_c173) lv st G E kc ks = ((match st with
    | [w] => bif xm_isL w && (xm_rok ret w && (Nat.ble kc mc && Nat.ble ks ms)) then Q (some w) G E else false
    | _ => false)) := rfl
theorem xz_173_74 : xm_run call xm_c173 nL mc ms ret Q (f + 1) (xm_drop 74 xm_c173) lv st G E kc ks = ((match xm_get lv 1 with
    | some w => bif xm_isL w then xm_run call xm_c173 nL mc ms ret Q f (xm_drop 75 xm_c173) lv (w :: st) G E kc ks else false
    | none => false)) := rfl
theorem xz_173_75 : xm_run call xm_c173 nL mc ms ret Q (f + 1) (xm_drop 75 xm_c173) lv st G E kc ks = ((match xm_get lv 3 with
    | some w => bif xm_isL w then xm_run call xm_c173 nL mc ms ret Q f (xm_drop 76 xm_c173) lv (w :: st) G E kc ks else false
    | none => false)) := rfl
theorem xz_173_76 : xm_run call xm_c173 nL mc ms ret Q (f + 1) (xm_drop 76 xm_c173) lv st G E kc ks = (xm_long2 .land st (fun st => xm_run call xm_c173 nL mc ms ret Q f (xm_drop 77 xm_c173) lv st G E kc ks)) := rfl
theorem xz_173_77 : xm_run call xm_c173 nL mc ms ret Q (f + 1) (xm_drop 77 xm_c173) lv st G E kc ks = ((match st with
    | [w] => bif xm_isL w && (xm_rok ret w && (Nat.ble kc mc && Nat.ble ks ms)) then Q (some w) G E else false
    | _ => false)) := rfl
theorem xz_173_78 : xm_run call xm_c173 nL mc ms ret Q (f + 1) (xm_drop 78 xm_c173) lv st G E kc ks = ((match xm_get lv 1 with
    | some w => bif xm_isL w then xm_run call xm_c173 nL mc ms ret Q f (xm_drop 79 xm_c173) lv (w :: st) G E kc ks else false
    | none => false)) := rfl
theorem xz_173_79 : xm_run call xm_c173 nL mc ms ret Q (f + 1) (xm_drop 79 xm_c173) lv st G E kc ks = ((match xm_get lv 3 with
    | some w => bif xm_isL w then xm_run call xm_c173 nL mc ms ret Q f (xm_drop 80 xm_c173) lv (w :: st) G E kc ks else false
    | none => false)) := rfl
theorem xz_173_80 : xm_run call xm_c173 nL mc ms ret Q (f + 1) (xm_drop 80 xm_c173) lv st G E kc ks = (xm_long2 .lor st (fun st => xm_run call xm_c173 nL mc ms ret Q f (xm_drop 81 xm_c173) lv st G E kc ks)) := rfl
theorem xz_173_81 : xm_run call xm_c173 nL mc ms ret Q (f + 1) (xm_drop 81 xm_c173) lv st G E kc ks = ((match st with
    | [w] => bif xm_isL w && (xm_rok ret w && (Nat.ble kc mc && Nat.ble ks ms)) then Q (some w) G E else false
    | _ => false)) := rfl
theorem xz_174_0 : xm_run call xm_c174 nL mc ms ret Q (f + 1) (xm_drop 0 xm_c174) lv st G E kc ks = ((match xm_get lv 0 with
    | some w => bif xm_isA w then xm_run call xm_c174 nL mc ms ret Q f (xm_drop 1 xm_c174) lv (w :: st) G E kc ks else false
    | none => false)) := rfl
theorem xz_174_1 : xm_run call xm_c174 nL mc ms ret Q (f + 1) (xm_drop 1 xm_c174) lv st G E kc ks = (xm_run call xm_c174 nL mc ms ret Q f (xm_drop 2 xm_c174) lv ((.int 0) :: st) G E kc ks) := rfl
theorem xz_174_2 : xm_run call xm_c174 nL mc ms ret Q (f + 1) (xm_drop 2 xm_c174) lv st G E kc ks = (xm_putf 11 18 st G (fun st G => xm_run call xm_c174 nL mc ms ret Q f (xm_drop 3 xm_c174) lv st G E kc ks)) := rfl
theorem xz_174_3 : xm_run call xm_c174 nL mc ms ret Q (f + 1) (xm_drop 3 xm_c174) lv st G E kc ks = ((match xm_get lv 2 with
    | some w => bif xm_isI w then xm_run call xm_c174 nL mc ms ret Q f (xm_drop 4 xm_c174) lv (w :: st) G E kc ks else false
    | none => false)) := rfl
theorem xz_174_4 : xm_run call xm_c174 nL mc ms ret Q (f + 1) (xm_drop 4 xm_c174) lv st G E kc ks = ((match st with
    | w :: st => bif xm_isI w && Nat.blt 4 nL then xm_run call xm_c174 nL mc ms ret Q f (xm_drop 5 xm_c174) (xm_set1 lv 4 w) st G E kc ks else false
    | _ => false)) := rfl
theorem xz_174_5 : xm_run call xm_c174 nL mc ms ret Q (f + 1) (xm_drop 5 xm_c174) lv st G E kc ks = ((match xm_get lv 4 with
    | some w => bif xm_isI w then xm_run call xm_c174 nL mc ms ret Q f (xm_drop 6 xm_c174) lv (w :: st) G E kc ks else false
    | none => false)) := rfl
theorem xz_174_6 : xm_run call xm_c174 nL mc ms ret Q (f + 1) (xm_drop 6 xm_c174) lv st G E kc ks = ((match xm_get lv 3 with
    | some w => bif xm_isI w then xm_run call xm_c174 nL mc ms ret Q f (xm_drop 7 xm_c174) lv (w :: st) G E kc ks else false
    | none => false)) := rfl
theorem xz_174_7 : xm_run call xm_c174 nL mc ms ret Q (f + 1) (xm_drop 7 xm_c174) lv st G E kc ks = ((match st with
    | w :: u :: st => xm_cmpI E u w (fun E s => bif xm_holds .ge s then xm_run call xm_c174 nL mc ms ret Q f (xm_drop 71 xm_c174) lv st G E kc ks else xm_run call xm_c174 nL mc ms ret Q f (xm_drop 8 xm_c174) lv st G E kc ks)
    | _ => false)) := rfl
theorem xz_174_8 : xm_run call xm_c174 nL mc ms ret Q (f + 1) (xm_drop 8 xm_c174) lv st G E kc ks = ((match xm_get lv 0 with
    | some w => bif xm_isA w then xm_run call xm_c174 nL mc ms ret Q f (xm_drop 9 xm_c174) lv (w :: st) G E kc ks else false
    | none => false)) := rfl
theorem xz_174_9 : xm_run call xm_c174 nL mc ms ret Q (f + 1) (xm_drop 9 xm_c174) lv st G E kc ks = (xm_getf 11 3 st G (fun st => xm_run call xm_c174 nL mc ms ret Q f (xm_drop 10 xm_c174) lv st G E kc ks)) := rfl
theorem xz_174_10 : xm_run call xm_c174 nL mc ms ret Q (f + 1) (xm_drop 10 xm_c174) lv st G E kc ks = (xm_run call xm_c174 nL mc ms ret Q f (xm_drop 11 xm_c174) lv ((.int 400) :: st) G E kc ks) := rfl
theorem xz_174_11 : xm_run call xm_c174 nL mc ms ret Q (f + 1) (xm_drop 11 xm_c174) lv st G E kc ks = ((match xm_get lv 1 with
    | some w => bif xm_isI w then xm_run call xm_c174 nL mc ms ret Q f (xm_drop 12 xm_c174) lv (w :: st) G E kc ks else false
    | none => false)) := rfl
theorem xz_174_12 : xm_run call xm_c174 nL mc ms ret Q (f + 1) (xm_drop 12 xm_c174) lv st G E kc ks = (xm_int2 .imul st E (fun st E => xm_run call xm_c174 nL mc ms ret Q f (xm_drop 13 xm_c174) lv st G E kc ks)) := rfl
theorem xz_174_13 : xm_run call xm_c174 nL mc ms ret Q (f + 1) (xm_drop 13 xm_c174) lv st G E kc ks = ((match xm_get lv 4 with
    | some w => bif xm_isI w then xm_run call xm_c174 nL mc ms ret Q f (xm_drop 14 xm_c174) lv (w :: st) G E kc ks else false
    | none => false)) := rfl
theorem xz_174_14 : xm_run call xm_c174 nL mc ms ret Q (f + 1) (xm_drop 14 xm_c174) lv st G E kc ks = (xm_int2 .iadd st E (fun st E => xm_run call xm_c174 nL mc ms ret Q f (xm_drop 15 xm_c174) lv st G E kc ks)) := rfl
theorem xz_174_15 : xm_run call xm_c174 nL mc ms ret Q (f + 1) (xm_drop 15 xm_c174) lv st G E kc ks = (xm_iald st G E (fun st E => xm_run call xm_c174 nL mc ms ret Q f (xm_drop 16 xm_c174) lv st G E kc ks)) := rfl
theorem xz_174_16 : xm_run call xm_c174 nL mc ms ret Q (f + 1) (xm_drop 16 xm_c174) lv st G E kc ks = (xm_run call xm_c174 nL mc ms ret Q f (xm_drop 17 xm_c174) lv ((.int 15) :: st) G E kc ks) := rfl
theorem xz_174_17 : xm_run call xm_c174 nL mc ms ret Q (f + 1) (xm_drop 17 xm_c174) lv st G E kc ks = (xm_iand st E (fun st E => xm_run call xm_c174 nL mc ms ret Q f (xm_drop 18 xm_c174) lv st G E kc ks)) := rfl
theorem xz_174_18 : xm_run call xm_c174 nL mc ms ret Q (f + 1) (xm_drop 18 xm_c174) lv st G E kc ks = ((match st with
    | w :: st => bif xm_isI w && Nat.blt 5 nL then xm_run call xm_c174 nL mc ms ret Q f (xm_drop 19 xm_c174) (xm_set1 lv 5 w) st G E kc ks else false
    | _ => false)) := rfl
theorem xz_174_19 : xm_run call xm_c174 nL mc ms ret Q (f + 1) (xm_drop 19 xm_c174) lv st G E kc ks = ((match xm_get lv 0 with
    | some w => bif xm_isA w then xm_run call xm_c174 nL mc ms ret Q f (xm_drop 20 xm_c174) lv (w :: st) G E kc ks else false
    | none => false)) := rfl
theorem xz_174_20 : xm_run call xm_c174 nL mc ms ret Q (f + 1) (xm_drop 20 xm_c174) lv st G E kc ks = (xm_getf 11 3 st G (fun st => xm_run call xm_c174 nL mc ms ret Q f (xm_drop 21 xm_c174) lv st G E kc ks)) := rfl
theorem xz_174_21 : xm_run call xm_c174 nL mc ms ret Q (f + 1) (xm_drop 21 xm_c174) lv st G E kc ks = (xm_run call xm_c174 nL mc ms ret Q f (xm_drop 22 xm_c174) lv ((.int 400) :: st) G E kc ks) := rfl
theorem xz_174_22 : xm_run call xm_c174 nL mc ms ret Q (f + 1) (xm_drop 22 xm_c174) lv st G E kc ks = ((match xm_get lv 1 with
    | some w => bif xm_isI w then xm_run call xm_c174 nL mc ms ret Q f (xm_drop 23 xm_c174) lv (w :: st) G E kc ks else false
    | none => false)) := rfl
theorem xz_174_23 : xm_run call xm_c174 nL mc ms ret Q (f + 1) (xm_drop 23 xm_c174) lv st G E kc ks = (xm_int2 .imul st E (fun st E => xm_run call xm_c174 nL mc ms ret Q f (xm_drop 24 xm_c174) lv st G E kc ks)) := rfl
theorem xz_174_24 : xm_run call xm_c174 nL mc ms ret Q (f + 1) (xm_drop 24 xm_c174) lv st G E kc ks = ((match xm_get lv 4 with
    | some w => bif xm_isI w then xm_run call xm_c174 nL mc ms ret Q f (xm_drop 25 xm_c174) lv (w :: st) G E kc ks else false
    | none => false)) := rfl
theorem xz_174_25 : xm_run call xm_c174 nL mc ms ret Q (f + 1) (xm_drop 25 xm_c174) lv st G E kc ks = (xm_int2 .iadd st E (fun st E => xm_run call xm_c174 nL mc ms ret Q f (xm_drop 26 xm_c174) lv st G E kc ks)) := rfl
theorem xz_174_26 : xm_run call xm_c174 nL mc ms ret Q (f + 1) (xm_drop 26 xm_c174) lv st G E kc ks = (xm_iald st G E (fun st E => xm_run call xm_c174 nL mc ms ret Q f (xm_drop 27 xm_c174) lv st G E kc ks)) := rfl
theorem xz_174_27 : xm_run call xm_c174 nL mc ms ret Q (f + 1) (xm_drop 27 xm_c174) lv st G E kc ks = (xm_run call xm_c174 nL mc ms ret Q f (xm_drop 28 xm_c174) lv ((.int 4) :: st) G E kc ks) := rfl
theorem xz_174_28 : xm_run call xm_c174 nL mc ms ret Q (f + 1) (xm_drop 28 xm_c174) lv st G E kc ks = (xm_ishr st E (fun st E => xm_run call xm_c174 nL mc ms ret Q f (xm_drop 29 xm_c174) lv st G E kc ks)) := rfl
theorem xz_174_29 : xm_run call xm_c174 nL mc ms ret Q (f + 1) (xm_drop 29 xm_c174) lv st G E kc ks = ((match st with
    | w :: st => bif xm_isI w && Nat.blt 6 nL then xm_run call xm_c174 nL mc ms ret Q f (xm_drop 30 xm_c174) (xm_set1 lv 6 w) st G E kc ks else false
    | _ => false)) := rfl
theorem xz_174_30 : xm_run call xm_c174 nL mc ms ret Q (f + 1) (xm_drop 30 xm_c174) lv st G E kc ks = ((match xm_get lv 5 with
    | some w => bif xm_isI w then xm_run call xm_c174 nL mc ms ret Q f (xm_drop 31 xm_c174) lv (w :: st) G E kc ks else false
    | none => false)) := rfl
theorem xz_174_31 : xm_run call xm_c174 nL mc ms ret Q (f + 1) (xm_drop 31 xm_c174) lv st G E kc ks = ((match st with
    | w :: st => xm_cmpI E w (.int 0) (fun E s => bif xm_holds .ne s then xm_run call xm_c174 nL mc ms ret Q f (xm_drop 37 xm_c174) lv st G E kc ks else xm_run call xm_c174 nL mc ms ret Q f (xm_drop 32 xm_c174) lv st G E kc ks)
    | _ => false)) := rfl
theorem xz_174_32 : xm_run call xm_c174 nL mc ms ret Q (f + 1) (xm_drop 32 xm_c174) lv st G E kc ks = ((match xm_get lv 0 with
    | some w => bif xm_isA w then xm_run call xm_c174 nL mc ms ret Q f (xm_drop 33 xm_c174) lv (w :: st) G E kc ks else false
    | none => false)) := rfl
theorem xz_174_33 : xm_run call xm_c174 nL mc ms ret Q (f + 1) (xm_drop 33 xm_c174) lv st G E kc ks = ((match xm_get lv 6 with
    | some w => bif xm_isI w then xm_run call xm_c174 nL mc ms ret Q f (xm_drop 34 xm_c174) lv (w :: st) G E kc ks else false
    | none => false)) := rfl
theorem xz_174_34 : xm_run call xm_c174 nL mc ms ret Q (f + 1) (xm_drop 34 xm_c174) lv st G E kc ks = (xm_i2l st (fun st => xm_run call xm_c174 nL mc ms ret Q f (xm_drop 35 xm_c174) lv st G E kc ks)) := rfl
theorem xz_174_35 : xm_run call xm_c174 nL mc ms ret Q (f + 1) (xm_drop 35 xm_c174) lv st G E kc ks = (bif Nat.beq 171 1006 || Nat.beq 171 1007 then xm_strl 171 st G (fun st => xm_run call xm_c174 nL mc ms ret Q f (xm_drop 36 xm_c174) lv st G E kc ks) else xm_call call mc ms 171 0 st G E kc ks (fun st G E kc ks => xm_run call xm_c174 nL mc ms ret Q f (xm_drop 36 xm_c174) lv st G E kc ks)) := rfl
theorem xz_174_36 : xm_run call xm_c174 nL mc ms ret Q (f + 1) (xm_drop 36 xm_c174) lv st G E kc ks = (xm_run call xm_c174 nL mc ms ret Q f (xm_drop 69 xm_c174) lv st G E kc ks) := rfl
theorem xz_174_37 : xm_run call xm_c174 nL mc ms ret Q (f + 1) (xm_drop 37 xm_c174) lv st G E kc ks = ((match xm_get lv 5 with
    | some w => bif xm_isI w then xm_run call xm_c174 nL mc ms ret Q f (xm_drop 38 xm_c174) lv (w :: st) G E kc ks else false
    | none => false)) := rfl
theorem xz_174_38 : xm_run call xm_c174 nL mc ms ret Q (f + 1) (xm_drop 38 xm_c174) lv st G E kc ks = (xm_run call xm_c174 nL mc ms ret Q f (xm_drop 39 xm_c174) lv ((.int 1) :: st) G E kc ks) := rfl
theorem xz_174_39 : xm_run call xm_c174 nL mc ms ret Q (f + 1) (xm_drop 39 xm_c174) lv st G E kc ks = ((match st with
    | w :: u :: st => xm_cmpI E u w (fun E s => bif xm_holds .ne s then xm_run call xm_c174 nL mc ms ret Q f (xm_drop 47 xm_c174) lv st G E kc ks else xm_run call xm_c174 nL mc ms ret Q f (xm_drop 40 xm_c174) lv st G E kc ks)
    | _ => false)) := rfl
theorem xz_174_40 : xm_run call xm_c174 nL mc ms ret Q (f + 1) (xm_drop 40 xm_c174) lv st G E kc ks = ((match xm_get lv 0 with
    | some w => bif xm_isA w then xm_run call xm_c174 nL mc ms ret Q f (xm_drop 41 xm_c174) lv (w :: st) G E kc ks else false
    | none => false)) := rfl
theorem xz_174_41 : xm_run call xm_c174 nL mc ms ret Q (f + 1) (xm_drop 41 xm_c174) lv st G E kc ks = ((match xm_get lv 0 with
    | some w => bif xm_isA w then xm_run call xm_c174 nL mc ms ret Q f (xm_drop 42 xm_c174) lv (w :: st) G E kc ks else false
    | none => false)) := rfl
theorem xz_174_42 : xm_run call xm_c174 nL mc ms ret Q (f + 1) (xm_drop 42 xm_c174) lv st G E kc ks = (xm_getf 11 19 st G (fun st => xm_run call xm_c174 nL mc ms ret Q f (xm_drop 43 xm_c174) lv st G E kc ks)) := rfl
theorem xz_174_43 : xm_run call xm_c174 nL mc ms ret Q (f + 1) (xm_drop 43 xm_c174) lv st G E kc ks = ((match xm_get lv 6 with
    | some w => bif xm_isI w then xm_run call xm_c174 nL mc ms ret Q f (xm_drop 44 xm_c174) lv (w :: st) G E kc ks else false
    | none => false)) := rfl
theorem xz_174_44 : xm_run call xm_c174 nL mc ms ret Q (f + 1) (xm_drop 44 xm_c174) lv st G E kc ks = (xm_ald (fun t => Nat.beq t 102) st G E (fun st E => xm_run call xm_c174 nL mc ms ret Q f (xm_drop 45 xm_c174) lv st G E kc ks)) := rfl
theorem xz_174_45 : xm_run call xm_c174 nL mc ms ret Q (f + 1) (xm_drop 45 xm_c174) lv st G E kc ks = (bif Nat.beq 171 1006 || Nat.beq 171 1007 then xm_strl 171 st G (fun st => xm_run call xm_c174 nL mc ms ret Q f (xm_drop 46 xm_c174) lv st G E kc ks) else xm_call call mc ms 171 0 st G E kc ks (fun st G E kc ks => xm_run call xm_c174 nL mc ms ret Q f (xm_drop 46 xm_c174) lv st G E kc ks)) := rfl
theorem xz_174_46 : xm_run call xm_c174 nL mc ms ret Q (f + 1) (xm_drop 46 xm_c174) lv st G E kc ks = (xm_run call xm_c174 nL mc ms ret Q f (xm_drop 69 xm_c174) lv st G E kc ks) := rfl
theorem xz_174_47 : xm_run call xm_c174 nL mc ms ret Q (f + 1) (xm_drop 47 xm_c174) lv st G E kc ks = ((match xm_get lv 5 with
    | some w => bif xm_isI w then xm_run call xm_c174 nL mc ms ret Q f (xm_drop 48 xm_c174) lv (w :: st) G E kc ks else false
    | none => false)) := rfl
theorem xz_174_48 : xm_run call xm_c174 nL mc ms ret Q (f + 1) (xm_drop 48 xm_c174) lv st G E kc ks = (xm_run call xm_c174 nL mc ms ret Q f (xm_drop 49 xm_c174) lv ((.int 11) :: st) G E kc ks) := rfl
theorem xz_174_49 : xm_run call xm_c174 nL mc ms ret Q (f + 1) (xm_drop 49 xm_c174) lv st G E kc ks = ((match st with
    | w :: u :: st => xm_cmpI E u w (fun E s => bif xm_holds .ne s then xm_run call xm_c174 nL mc ms ret Q f (xm_drop 57 xm_c174) lv st G E kc ks else xm_run call xm_c174 nL mc ms ret Q f (xm_drop 50 xm_c174) lv st G E kc ks)
    | _ => false)) := rfl
theorem xz_174_50 : xm_run call xm_c174 nL mc ms ret Q (f + 1) (xm_drop 50 xm_c174) lv st G E kc ks = ((match xm_get lv 0 with
    | some w => bif xm_isA w then xm_run call xm_c174 nL mc ms ret Q f (xm_drop 51 xm_c174) lv (w :: st) G E kc ks else false
    | none => false)) := rfl
theorem xz_174_51 : xm_run call xm_c174 nL mc ms ret Q (f + 1) (xm_drop 51 xm_c174) lv st G E kc ks = (xm_run call xm_c174 nL mc ms ret Q f (xm_drop 52 xm_c174) lv ((.long 1) :: st) G E kc ks) := rfl
theorem xz_174_52 : xm_run call xm_c174 nL mc ms ret Q (f + 1) (xm_drop 52 xm_c174) lv st G E kc ks = ((match xm_get lv 0 with
    | some w => bif xm_isA w then xm_run call xm_c174 nL mc ms ret Q f (xm_drop 53 xm_c174) lv (w :: st) G E kc ks else false
    | none => false)) := rfl
theorem xz_174_53 : xm_run call xm_c174 nL mc ms ret Q (f + 1) (xm_drop 53 xm_c174) lv st G E kc ks = (bif Nat.beq 172 1006 || Nat.beq 172 1007 then xm_strl 172 st G (fun st => xm_run call xm_c174 nL mc ms ret Q f (xm_drop 54 xm_c174) lv st G E kc ks) else xm_call call mc ms 172 0 st G E kc ks (fun st G E kc ks => xm_run call xm_c174 nL mc ms ret Q f (xm_drop 54 xm_c174) lv st G E kc ks)) := rfl
theorem xz_174_54 : xm_run call xm_c174 nL mc ms ret Q (f + 1) (xm_drop 54 xm_c174) lv st G E kc ks = (xm_long2 .lsub st (fun st => xm_run call xm_c174 nL mc ms ret Q f (xm_drop 55 xm_c174) lv st G E kc ks)) := rfl
theorem xz_174_55 : xm_run call xm_c174 nL mc ms ret Q (f + 1) (xm_drop 55 xm_c174) lv st G E kc ks = (bif Nat.beq 171 1006 || Nat.beq 171 1007 then xm_strl 171 st G (fun st => xm_run call xm_c174 nL mc ms ret Q f (xm_drop 56 xm_c174) lv st G E kc ks) else xm_call call mc ms 171 0 st G E kc ks (fun st G E kc ks => xm_run call xm_c174 nL mc ms ret Q f (xm_drop 56 xm_c174) lv st G E kc ks)) := rfl
theorem xz_174_56 : xm_run call xm_c174 nL mc ms ret Q (f + 1) (xm_drop 56 xm_c174) lv st G E kc ks = (xm_run call xm_c174 nL mc ms ret Q f (xm_drop 69 xm_c174) lv st G E kc ks) := rfl
theorem xz_174_57 : xm_run call xm_c174 nL mc ms ret Q (f + 1) (xm_drop 57 xm_c174) lv st G E kc ks = ((match xm_get lv 0 with
    | some w => bif xm_isA w then xm_run call xm_c174 nL mc ms ret Q f (xm_drop 58 xm_c174) lv (w :: st) G E kc ks else false
    | none => false)) := rfl
theorem xz_174_58 : xm_run call xm_c174 nL mc ms ret Q (f + 1) (xm_drop 58 xm_c174) lv st G E kc ks = (bif Nat.beq 172 1006 || Nat.beq 172 1007 then xm_strl 172 st G (fun st => xm_run call xm_c174 nL mc ms ret Q f (xm_drop 59 xm_c174) lv st G E kc ks) else xm_call call mc ms 172 0 st G E kc ks (fun st G E kc ks => xm_run call xm_c174 nL mc ms ret Q f (xm_drop 59 xm_c174) lv st G E kc ks)) := rfl
theorem xz_174_59 : xm_run call xm_c174 nL mc ms ret Q (f + 1) (xm_drop 59 xm_c174) lv st G E kc ks = ((match st with
    | w :: st => bif xm_isL w && Nat.blt (7 + 1) nL then xm_run call xm_c174 nL mc ms ret Q f (xm_drop 60 xm_c174) (xm_set2 lv 7 w) st G E kc ks else false
    | _ => false)) := rfl
theorem xz_174_60 : xm_run call xm_c174 nL mc ms ret Q (f + 1) (xm_drop 60 xm_c174) lv st G E kc ks = ((match xm_get lv 0 with
    | some w => bif xm_isA w then xm_run call xm_c174 nL mc ms ret Q f (xm_drop 61 xm_c174) lv (w :: st) G E kc ks else false
    | none => false)) := rfl
theorem xz_174_61 : xm_run call xm_c174 nL mc ms ret Q (f + 1) (xm_drop 61 xm_c174) lv st G E kc ks = (bif Nat.beq 172 1006 || Nat.beq 172 1007 then xm_strl 172 st G (fun st => xm_run call xm_c174 nL mc ms ret Q f (xm_drop 62 xm_c174) lv st G E kc ks) else xm_call call mc ms 172 0 st G E kc ks (fun st G E kc ks => xm_run call xm_c174 nL mc ms ret Q f (xm_drop 62 xm_c174) lv st G E kc ks)) := rfl
theorem xz_174_62 : xm_run call xm_c174 nL mc ms ret Q (f + 1) (xm_drop 62 xm_c174) lv st G E kc ks = ((match st with
    | w :: st => bif xm_isL w && Nat.blt (9 + 1) nL then xm_run call xm_c174 nL mc ms ret Q f (xm_drop 63 xm_c174) (xm_set2 lv 9 w) st G E kc ks else false
    | _ => false)) := rfl
theorem xz_174_63 : xm_run call xm_c174 nL mc ms ret Q (f + 1) (xm_drop 63 xm_c174) lv st G E kc ks = ((match xm_get lv 0 with
    | some w => bif xm_isA w then xm_run call xm_c174 nL mc ms ret Q f (xm_drop 64 xm_c174) lv (w :: st) G E kc ks else false
    | none => false)) := rfl
theorem xz_174_64 : xm_run call xm_c174 nL mc ms ret Q (f + 1) (xm_drop 64 xm_c174) lv st G E kc ks = ((match xm_get lv 5 with
    | some w => bif xm_isI w then xm_run call xm_c174 nL mc ms ret Q f (xm_drop 65 xm_c174) lv (w :: st) G E kc ks else false
    | none => false)) := rfl
theorem xz_174_65 : xm_run call xm_c174 nL mc ms ret Q (f + 1) (xm_drop 65 xm_c174) lv st G E kc ks = ((match xm_get lv 9 with
    | some w => bif xm_isL w then xm_run call xm_c174 nL mc ms ret Q f (xm_drop 66 xm_c174) lv (w :: st) G E kc ks else false
    | none => false)) := rfl
theorem xz_174_66 : xm_run call xm_c174 nL mc ms ret Q (f + 1) (xm_drop 66 xm_c174) lv st G E kc ks = ((match xm_get lv 7 with
    | some w => bif xm_isL w then xm_run call xm_c174 nL mc ms ret Q f (xm_drop 67 xm_c174) lv (w :: st) G E kc ks else false
    | none => false)) := rfl
theorem xz_174_67 : xm_run call xm_c174 nL mc ms ret Q (f + 1) (xm_drop 67 xm_c174) lv st G E kc ks = (bif Nat.beq 173 1001 then xm_acopy st G (fun st G => xm_run call xm_c174 nL mc ms ret Q f (xm_drop 68 xm_c174) lv st G E kc ks) else bif Nat.beq 173 1003 || (Nat.beq 173 1004 || Nat.beq 173 1005) then xm_math 173 st (fun st => xm_run call xm_c174 nL mc ms ret Q f (xm_drop 68 xm_c174) lv st G E kc ks) else bif Nat.beq 1 3 then xm_call call mc ms 173 3 st G E kc ks (fun st G E kc ks => xm_run call xm_c174 nL mc ms ret Q f (xm_drop 68 xm_c174) lv st G E kc ks) else xm_call call mc ms 173 1 st G E kc ks (fun st G E kc ks => xm_run call xm_c174 nL mc ms ret Q f (xm_drop 68 xm_c174) lv st G E kc ks)) := rfl
theorem xz_174_68 : xm_run call xm_c174 nL mc ms ret Q (f + 1) (xm_drop 68 xm_c174) lv st G E kc ks = (bif Nat.beq 171 1006 || Nat.beq 171 1007 then xm_strl 171 st G (fun st => xm_run call xm_c174 nL mc ms ret Q f (xm_drop 69 xm_c174) lv st G E kc ks) else xm_call call mc ms 171 0 st G E kc ks (fun st G E kc ks => xm_run call xm_c174 nL mc ms ret Q f (xm_drop 69 xm_c174) lv st G E kc ks)) := rfl
theorem xz_174_69 : xm_run call xm_c174 nL mc ms ret Q (f + 1) (xm_drop 69 xm_c174) lv st G E kc ks = ((match xm_get lv 4 with
    | some w => bif Nat.blt 4 nL then xm_conc E w (fun E x => xm_frc (x + Int32.ofInt 1) (fun z => xm_run call xm_c174 nL mc ms ret Q f (xm_drop 70 xm_c174) (xm_set1 lv 4 (.int z)) st G E kc ks)) else false
    | none => false)) := rfl
theorem xz_174_70 : xm_run call xm_c174 nL mc ms ret Q (f + 1) (xm_drop 70 xm_c174) lv st G E kc ks = (xm_run call xm_c174 nL mc ms ret Q f (xm_drop 5 xm_c174) lv st G E kc ks) := rfl
theorem xz_174_71 : xm_run call xm_c174 nL mc ms ret Q (f + 1) (xm_drop 71 xm_c174) lv st G E kc ks = ((match xm_get lv 0 with
    | some w => bif xm_isA w then xm_run call xm_c174 nL mc ms ret Q f (xm_drop 72 xm_c174) lv (w :: st) G E kc ks else false
    | none => false)) := rfl
theorem xz_174_72 : xm_run call xm_c174 nL mc ms ret Q (f + 1) (xm_drop 72 xm_c174) lv st G E kc ks = (bif Nat.beq 172 1006 || Nat.beq 172 1007 then xm_strl 172 st G (fun st => xm_run call xm_c174 nL mc ms ret Q f (xm_drop 73 xm_c174) lv st G E kc ks) else xm_call call mc ms 172 0 st G E kc ks (fun st G E kc ks => xm_run call xm_c174 nL mc ms ret Q f (xm_drop 73 xm_c174) lv st G E kc ks)) := rfl
theorem xz_174_73 : xm_run call xm_c174 nL mc ms ret Q (f + 1) (xm_drop 73 xm_c174) lv st G E kc ks = ((match st with
    | [w] => bif xm_isL w && (xm_rok ret w && (Nat.ble kc mc && Nat.ble ks ms)) then Q (some w) G E else false
    | _ => false)) := rfl
theorem xz_193_0 : xm_run call xm_c193 nL mc ms ret Q (f + 1) (xm_drop 0 xm_c193) lv st G E kc ks = (xm_run call xm_c193 nL mc ms ret Q f (xm_drop 1 xm_c193) lv ((.int 0) :: st) G E kc ks) := rfl
theorem xz_193_1 : xm_run call xm_c193 nL mc ms ret Q (f + 1) (xm_drop 1 xm_c193) lv st G E kc ks = ((match st with
    | w :: st => bif xm_isI w && Nat.blt 2 nL then xm_run call xm_c193 nL mc ms ret Q f (xm_drop 2 xm_c193) (xm_set1 lv 2 w) st G E kc ks else false
    | _ => false)) := rfl
theorem xz_193_2 : xm_run call xm_c193 nL mc ms ret Q (f + 1) (xm_drop 2 xm_c193) lv st G E kc ks = ((match xm_get lv 2 with
    | some w => bif xm_isI w then xm_run call xm_c193 nL mc ms ret Q f (xm_drop 3 xm_c193) lv (w :: st) G E kc ks else false
    | none => false)) := rfl
theorem xz_193_3 : xm_run call xm_c193 nL mc ms ret Q (f + 1) (xm_drop 3 xm_c193) lv st G E kc ks = ((match xm_get lv 0 with
    | some w => bif xm_isA w then xm_run call xm_c193 nL mc ms ret Q f (xm_drop 4 xm_c193) lv (w :: st) G E kc ks else false
    | none => false)) := rfl
theorem xz_193_4 : xm_run call xm_c193 nL mc ms ret Q (f + 1) (xm_drop 4 xm_c193) lv st G E kc ks = (xm_getf 11 6 st G (fun st => xm_run call xm_c193 nL mc ms ret Q f (xm_drop 5 xm_c193) lv st G E kc ks)) := rfl
theorem xz_193_5 : xm_run call xm_c193 nL mc ms ret Q (f + 1) (xm_drop 5 xm_c193) lv st G E kc ks = ((match xm_get lv 1 with
    | some w => bif xm_isI w then xm_run call xm_c193 nL mc ms ret Q f (xm_drop 6 xm_c193) lv (w :: st) G E kc ks else false
    | none => false)) := rfl
theorem xz_193_6 : xm_run call xm_c193 nL mc ms ret Q (f + 1) (xm_drop 6 xm_c193) lv st G E kc ks = (xm_iald st G E (fun st E => xm_run call xm_c193 nL mc ms ret Q f (xm_drop 7 xm_c193) lv st G E kc ks)) := rfl
theorem xz_193_7 : xm_run call xm_c193 nL mc ms ret Q (f + 1) (xm_drop 7 xm_c193) lv st G E kc ks = ((match st with
    | w :: u :: st => xm_cmpI E u w (fun E s => bif xm_holds .ge s then xm_run call xm_c193 nL mc ms ret Q f (xm_drop 57 xm_c193) lv st G E kc ks else xm_run call xm_c193 nL mc ms ret Q f (xm_drop 8 xm_c193) lv st G E kc ks)
    | _ => false)) := rfl
theorem xz_193_8 : xm_run call xm_c193 nL mc ms ret Q (f + 1) (xm_drop 8 xm_c193) lv st G E kc ks = (xm_run call xm_c193 nL mc ms ret Q f (xm_drop 9 xm_c193) lv ((.int 48) :: st) G E kc ks) := rfl
theorem xz_193_9 : xm_run call xm_c193 nL mc ms ret Q (f + 1) (xm_drop 9 xm_c193) lv st G E kc ks = ((match xm_get lv 1 with
    | some w => bif xm_isI w then xm_run call xm_c193 nL mc ms ret Q f (xm_drop 10 xm_c193) lv (w :: st) G E kc ks else false
    | none => false)) := rfl
theorem xz_193_10 : xm_run call xm_c193 nL mc ms ret Q (f + 1) (xm_drop 10 xm_c193) lv st G E kc ks = (xm_int2 .imul st E (fun st E => xm_run call xm_c193 nL mc ms ret Q f (xm_drop 11 xm_c193) lv st G E kc ks)) := rfl
theorem xz_193_11 : xm_run call xm_c193 nL mc ms ret Q (f + 1) (xm_drop 11 xm_c193) lv st G E kc ks = (xm_run call xm_c193 nL mc ms ret Q f (xm_drop 12 xm_c193) lv ((.int 4) :: st) G E kc ks) := rfl
theorem xz_193_12 : xm_run call xm_c193 nL mc ms ret Q (f + 1) (xm_drop 12 xm_c193) lv st G E kc ks = ((match xm_get lv 2 with
    | some w => bif xm_isI w then xm_run call xm_c193 nL mc ms ret Q f (xm_drop 13 xm_c193) lv (w :: st) G E kc ks else false
    | none => false)) := rfl
theorem xz_193_13 : xm_run call xm_c193 nL mc ms ret Q (f + 1) (xm_drop 13 xm_c193) lv st G E kc ks = (xm_int2 .imul st E (fun st E => xm_run call xm_c193 nL mc ms ret Q f (xm_drop 14 xm_c193) lv st G E kc ks)) := rfl
theorem xz_193_14 : xm_run call xm_c193 nL mc ms ret Q (f + 1) (xm_drop 14 xm_c193) lv st G E kc ks = (xm_int2 .iadd st E (fun st E => xm_run call xm_c193 nL mc ms ret Q f (xm_drop 15 xm_c193) lv st G E kc ks)) := rfl
theorem xz_193_15 : xm_run call xm_c193 nL mc ms ret Q (f + 1) (xm_drop 15 xm_c193) lv st G E kc ks = ((match st with
    | w :: st => bif xm_isI w && Nat.blt 3 nL then xm_run call xm_c193 nL mc ms ret Q f (xm_drop 16 xm_c193) (xm_set1 lv 3 w) st G E kc ks else false
    | _ => false)) := rfl
theorem xz_193_16 : xm_run call xm_c193 nL mc ms ret Q (f + 1) (xm_drop 16 xm_c193) lv st G E kc ks = ((match xm_get lv 0 with
    | some w => bif xm_isA w then xm_run call xm_c193 nL mc ms ret Q f (xm_drop 17 xm_c193) lv (w :: st) G E kc ks else false
    | none => false)) := rfl
theorem xz_193_17 : xm_run call xm_c193 nL mc ms ret Q (f + 1) (xm_drop 17 xm_c193) lv st G E kc ks = (xm_getf 11 5 st G (fun st => xm_run call xm_c193 nL mc ms ret Q f (xm_drop 18 xm_c193) lv st G E kc ks)) := rfl
theorem xz_193_18 : xm_run call xm_c193 nL mc ms ret Q (f + 1) (xm_drop 18 xm_c193) lv st G E kc ks = ((match xm_get lv 3 with
    | some w => bif xm_isI w then xm_run call xm_c193 nL mc ms ret Q f (xm_drop 19 xm_c193) lv (w :: st) G E kc ks else false
    | none => false)) := rfl
theorem xz_193_19 : xm_run call xm_c193 nL mc ms ret Q (f + 1) (xm_drop 19 xm_c193) lv st G E kc ks = (xm_run call xm_c193 nL mc ms ret Q f (xm_drop 20 xm_c193) lv ((.int 2) :: st) G E kc ks) := rfl
theorem xz_193_20 : xm_run call xm_c193 nL mc ms ret Q (f + 1) (xm_drop 20 xm_c193) lv st G E kc ks = (xm_int2 .iadd st E (fun st E => xm_run call xm_c193 nL mc ms ret Q f (xm_drop 21 xm_c193) lv st G E kc ks)) := rfl
theorem xz_193_21 : xm_run call xm_c193 nL mc ms ret Q (f + 1) (xm_drop 21 xm_c193) lv st G E kc ks = (xm_iald st G E (fun st E => xm_run call xm_c193 nL mc ms ret Q f (xm_drop 22 xm_c193) lv st G E kc ks)) := rfl
theorem xz_193_22 : xm_run call xm_c193 nL mc ms ret Q (f + 1) (xm_drop 22 xm_c193) lv st G E kc ks = ((match st with
    | w :: st => xm_cmpI E w (.int 0) (fun E s => bif xm_holds .lt s then xm_run call xm_c193 nL mc ms ret Q f (xm_drop 41 xm_c193) lv st G E kc ks else xm_run call xm_c193 nL mc ms ret Q f (xm_drop 23 xm_c193) lv st G E kc ks)
    | _ => false)) := rfl
theorem xz_193_23 : xm_run call xm_c193 nL mc ms ret Q (f + 1) (xm_drop 23 xm_c193) lv st G E kc ks = ((match xm_get lv 0 with
    | some w => bif xm_isA w then xm_run call xm_c193 nL mc ms ret Q f (xm_drop 24 xm_c193) lv (w :: st) G E kc ks else false
    | none => false)) := rfl
theorem xz_193_24 : xm_run call xm_c193 nL mc ms ret Q (f + 1) (xm_drop 24 xm_c193) lv st G E kc ks = ((match xm_get lv 1 with
    | some w => bif xm_isI w then xm_run call xm_c193 nL mc ms ret Q f (xm_drop 25 xm_c193) lv (w :: st) G E kc ks else false
    | none => false)) := rfl
theorem xz_193_25 : xm_run call xm_c193 nL mc ms ret Q (f + 1) (xm_drop 25 xm_c193) lv st G E kc ks = ((match xm_get lv 0 with
    | some w => bif xm_isA w then xm_run call xm_c193 nL mc ms ret Q f (xm_drop 26 xm_c193) lv (w :: st) G E kc ks else false
    | none => false)) := rfl
theorem xz_193_26 : xm_run call xm_c193 nL mc ms ret Q (f + 1) (xm_drop 26 xm_c193) lv st G E kc ks = (xm_getf 11 5 st G (fun st => xm_run call xm_c193 nL mc ms ret Q f (xm_drop 27 xm_c193) lv st G E kc ks)) := rfl
theorem xz_193_27 : xm_run call xm_c193 nL mc ms ret Q (f + 1) (xm_drop 27 xm_c193) lv st G E kc ks = ((match xm_get lv 3 with
    | some w => bif xm_isI w then xm_run call xm_c193 nL mc ms ret Q f (xm_drop 28 xm_c193) lv (w :: st) G E kc ks else false
    | none => false)) := rfl
theorem xz_193_28 : xm_run call xm_c193 nL mc ms ret Q (f + 1) (xm_drop 28 xm_c193) lv st G E kc ks = (xm_run call xm_c193 nL mc ms ret Q f (xm_drop 29 xm_c193) lv ((.int 2) :: st) G E kc ks) := rfl
theorem xz_193_29 : xm_run call xm_c193 nL mc ms ret Q (f + 1) (xm_drop 29 xm_c193) lv st G E kc ks = (xm_int2 .iadd st E (fun st E => xm_run call xm_c193 nL mc ms ret Q f (xm_drop 30 xm_c193) lv st G E kc ks)) := rfl
theorem xz_193_30 : xm_run call xm_c193 nL mc ms ret Q (f + 1) (xm_drop 30 xm_c193) lv st G E kc ks = (xm_iald st G E (fun st E => xm_run call xm_c193 nL mc ms ret Q f (xm_drop 31 xm_c193) lv st G E kc ks)) := rfl
theorem xz_193_31 : xm_run call xm_c193 nL mc ms ret Q (f + 1) (xm_drop 31 xm_c193) lv st G E kc ks = ((match xm_get lv 0 with
    | some w => bif xm_isA w then xm_run call xm_c193 nL mc ms ret Q f (xm_drop 32 xm_c193) lv (w :: st) G E kc ks else false
    | none => false)) := rfl
theorem xz_193_32 : xm_run call xm_c193 nL mc ms ret Q (f + 1) (xm_drop 32 xm_c193) lv st G E kc ks = (xm_getf 11 5 st G (fun st => xm_run call xm_c193 nL mc ms ret Q f (xm_drop 33 xm_c193) lv st G E kc ks)) := rfl
theorem xz_193_33 : xm_run call xm_c193 nL mc ms ret Q (f + 1) (xm_drop 33 xm_c193) lv st G E kc ks = ((match xm_get lv 3 with
    | some w => bif xm_isI w then xm_run call xm_c193 nL mc ms ret Q f (xm_drop 34 xm_c193) lv (w :: st) G E kc ks else false
    | none => false)) := rfl
theorem xz_193_34 : xm_run call xm_c193 nL mc ms ret Q (f + 1) (xm_drop 34 xm_c193) lv st G E kc ks = (xm_run call xm_c193 nL mc ms ret Q f (xm_drop 35 xm_c193) lv ((.int 3) :: st) G E kc ks) := rfl
theorem xz_193_35 : xm_run call xm_c193 nL mc ms ret Q (f + 1) (xm_drop 35 xm_c193) lv st G E kc ks = (xm_int2 .iadd st E (fun st E => xm_run call xm_c193 nL mc ms ret Q f (xm_drop 36 xm_c193) lv st G E kc ks)) := rfl
theorem xz_193_36 : xm_run call xm_c193 nL mc ms ret Q (f + 1) (xm_drop 36 xm_c193) lv st G E kc ks = (xm_iald st G E (fun st E => xm_run call xm_c193 nL mc ms ret Q f (xm_drop 37 xm_c193) lv st G E kc ks)) := rfl
theorem xz_193_37 : xm_run call xm_c193 nL mc ms ret Q (f + 1) (xm_drop 37 xm_c193) lv st G E kc ks = (bif Nat.beq 174 1006 || Nat.beq 174 1007 then xm_strl 174 st G (fun st => xm_run call xm_c193 nL mc ms ret Q f (xm_drop 38 xm_c193) lv st G E kc ks) else xm_call call mc ms 174 0 st G E kc ks (fun st G E kc ks => xm_run call xm_c193 nL mc ms ret Q f (xm_drop 38 xm_c193) lv st G E kc ks)) := rfl
theorem xz_193_38 : xm_run call xm_c193 nL mc ms ret Q (f + 1) (xm_drop 38 xm_c193) lv st G E kc ks = (xm_run call xm_c193 nL mc ms ret Q f (xm_drop 39 xm_c193) lv ((.long 1) :: st) G E kc ks) := rfl
theorem xz_193_39 : xm_run call xm_c193 nL mc ms ret Q (f + 1) (xm_drop 39 xm_c193) lv st G E kc ks = ((match st with
    | w :: u :: st => xm_cmpL E u w (fun E s => xm_run call xm_c193 nL mc ms ret Q f (xm_drop 40 xm_c193) lv (.int (Int32.ofInt s) :: st) G E kc ks)
    | _ => false)) := rfl
theorem xz_193_40 : xm_run call xm_c193 nL mc ms ret Q (f + 1) (xm_drop 40 xm_c193) lv st G E kc ks = ((match st with
    | w :: st => xm_cmpI E w (.int 0) (fun E s => bif xm_holds .ne s then xm_run call xm_c193 nL mc ms ret Q f (xm_drop 55 xm_c193) lv st G E kc ks else xm_run call xm_c193 nL mc ms ret Q f (xm_drop 41 xm_c193) lv st G E kc ks)
    | _ => false)) := rfl
theorem xz_193_41 : xm_run call xm_c193 nL mc ms ret Q (f + 1) (xm_drop 41 xm_c193) lv st G E kc ks = ((match xm_get lv 0 with
    | some w => bif xm_isA w then xm_run call xm_c193 nL mc ms ret Q f (xm_drop 42 xm_c193) lv (w :: st) G E kc ks else false
    | none => false)) := rfl
theorem xz_193_42 : xm_run call xm_c193 nL mc ms ret Q (f + 1) (xm_drop 42 xm_c193) lv st G E kc ks = ((match xm_get lv 1 with
    | some w => bif xm_isI w then xm_run call xm_c193 nL mc ms ret Q f (xm_drop 43 xm_c193) lv (w :: st) G E kc ks else false
    | none => false)) := rfl
theorem xz_193_43 : xm_run call xm_c193 nL mc ms ret Q (f + 1) (xm_drop 43 xm_c193) lv st G E kc ks = ((match xm_get lv 0 with
    | some w => bif xm_isA w then xm_run call xm_c193 nL mc ms ret Q f (xm_drop 44 xm_c193) lv (w :: st) G E kc ks else false
    | none => false)) := rfl
theorem xz_193_44 : xm_run call xm_c193 nL mc ms ret Q (f + 1) (xm_drop 44 xm_c193) lv st G E kc ks = (xm_getf 11 5 st G (fun st => xm_run call xm_c193 nL mc ms ret Q f (xm_drop 45 xm_c193) lv st G E kc ks)) := rfl
theorem xz_193_45 : xm_run call xm_c193 nL mc ms ret Q (f + 1) (xm_drop 45 xm_c193) lv st G E kc ks = ((match xm_get lv 3 with
    | some w => bif xm_isI w then xm_run call xm_c193 nL mc ms ret Q f (xm_drop 46 xm_c193) lv (w :: st) G E kc ks else false
    | none => false)) := rfl
theorem xz_193_46 : xm_run call xm_c193 nL mc ms ret Q (f + 1) (xm_drop 46 xm_c193) lv st G E kc ks = (xm_iald st G E (fun st E => xm_run call xm_c193 nL mc ms ret Q f (xm_drop 47 xm_c193) lv st G E kc ks)) := rfl
theorem xz_193_47 : xm_run call xm_c193 nL mc ms ret Q (f + 1) (xm_drop 47 xm_c193) lv st G E kc ks = ((match xm_get lv 0 with
    | some w => bif xm_isA w then xm_run call xm_c193 nL mc ms ret Q f (xm_drop 48 xm_c193) lv (w :: st) G E kc ks else false
    | none => false)) := rfl
theorem xz_193_48 : xm_run call xm_c193 nL mc ms ret Q (f + 1) (xm_drop 48 xm_c193) lv st G E kc ks = (xm_getf 11 5 st G (fun st => xm_run call xm_c193 nL mc ms ret Q f (xm_drop 49 xm_c193) lv st G E kc ks)) := rfl
theorem xz_193_49 : xm_run call xm_c193 nL mc ms ret Q (f + 1) (xm_drop 49 xm_c193) lv st G E kc ks = ((match xm_get lv 3 with
    | some w => bif xm_isI w then xm_run call xm_c193 nL mc ms ret Q f (xm_drop 50 xm_c193) lv (w :: st) G E kc ks else false
    | none => false)) := rfl
theorem xz_193_50 : xm_run call xm_c193 nL mc ms ret Q (f + 1) (xm_drop 50 xm_c193) lv st G E kc ks = (xm_run call xm_c193 nL mc ms ret Q f (xm_drop 51 xm_c193) lv ((.int 1) :: st) G E kc ks) := rfl
theorem xz_193_51 : xm_run call xm_c193 nL mc ms ret Q (f + 1) (xm_drop 51 xm_c193) lv st G E kc ks = (xm_int2 .iadd st E (fun st E => xm_run call xm_c193 nL mc ms ret Q f (xm_drop 52 xm_c193) lv st G E kc ks)) := rfl
theorem xz_193_52 : xm_run call xm_c193 nL mc ms ret Q (f + 1) (xm_drop 52 xm_c193) lv st G E kc ks = (xm_iald st G E (fun st E => xm_run call xm_c193 nL mc ms ret Q f (xm_drop 53 xm_c193) lv st G E kc ks)) := rfl
theorem xz_193_53 : xm_run call xm_c193 nL mc ms ret Q (f + 1) (xm_drop 53 xm_c193) lv st G E kc ks = (bif Nat.beq 174 1006 || Nat.beq 174 1007 then xm_strl 174 st G (fun st => xm_run call xm_c193 nL mc ms ret Q f (xm_drop 54 xm_c193) lv st G E kc ks) else xm_call call mc ms 174 0 st G E kc ks (fun st G E kc ks => xm_run call xm_c193 nL mc ms ret Q f (xm_drop 54 xm_c193) lv st G E kc ks)) := rfl
theorem xz_193_54 : xm_run call xm_c193 nL mc ms ret Q (f + 1) (xm_drop 54 xm_c193) lv st G E kc ks = ((match st with
    | [w] => bif xm_isL w && (xm_rok ret w && (Nat.ble kc mc && Nat.ble ks ms)) then Q (some w) G E else false
    | _ => false)) := rfl
theorem xz_193_55 : xm_run call xm_c193 nL mc ms ret Q (f + 1) (xm_drop 55 xm_c193) lv st G E kc ks = ((match xm_get lv 2 with
    | some w => bif Nat.blt 2 nL then xm_conc E w (fun E x => xm_frc (x + Int32.ofInt 1) (fun z => xm_run call xm_c193 nL mc ms ret Q f (xm_drop 56 xm_c193) (xm_set1 lv 2 (.int z)) st G E kc ks)) else false
    | none => false)) := rfl
theorem xz_193_56 : xm_run call xm_c193 nL mc ms ret Q (f + 1) (xm_drop 56 xm_c193) lv st G E kc ks = (xm_run call xm_c193 nL mc ms ret Q f (xm_drop 2 xm_c193) lv st G E kc ks) := rfl
theorem xz_193_57 : xm_run call xm_c193 nL mc ms ret Q (f + 1) (xm_drop 57 xm_c193) lv st G E kc ks = (xm_run call xm_c193 nL mc ms ret Q f (xm_drop 58 xm_c193) lv ((.long 0) :: st) G E kc ks) := rfl
theorem xz_193_58 : xm_run call xm_c193 nL mc ms ret Q (f + 1) (xm_drop 58 xm_c193) lv st G E kc ks = ((match st with
    | [w] => bif xm_isL w && (xm_rok ret w && (Nat.ble kc mc && Nat.ble ks ms)) then Q (some w) G E else false
    | _ => false)) := rfl
end XM
