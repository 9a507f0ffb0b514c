section XM
variable {call : xm_C} {nL mc ms : Nat} {ret : Option FieldType} {Q : xm_Q} {f : Nat} {lv : xm_L} {st : List Value} {G : xm_H} {E : xm_R} {kc ks : Nat}
theorem xz_66_0 : xm_run call xm_c66 nL mc ms ret Q (f + 1) (xm_drop 0 xm_c66) lv st G E kc ks = ((match xm_get lv 0 with
    | some w => bif xm_isA w then xm_run call xm_c66 nL mc ms ret Q f (xm_drop 1 xm_c66) lv (w :: st) G E kc ks else false
    | none => false)) := rfl
theorem xz_66_1 : xm_run call xm_c66 nL mc ms ret Q (f + 1) (xm_drop 1 xm_c66) lv st G E kc ks = (xm_getf 7 0 st G (fun st => xm_run call xm_c66 nL mc ms ret Q f (xm_drop 2 xm_c66) lv st G E kc ks)) := rfl
theorem xz_66_2 : xm_run call xm_c66 nL mc ms ret Q (f + 1) (xm_drop 2 xm_c66) lv st G E kc ks = (bif Nat.beq 80 1006 || Nat.beq 80 1007 then xm_strl 80 st G (fun st => xm_run call xm_c66 nL mc ms ret Q f (xm_drop 3 xm_c66) lv st G E kc ks) else xm_call call mc ms 80 0 st G E kc ks (fun st G E kc ks => xm_run call xm_c66 nL mc ms ret Q f (xm_drop 3 xm_c66) lv st G E kc ks)) := rfl
theorem xz_66_3 : xm_run call xm_c66 nL mc ms ret Q (f + 1) (xm_drop 3 xm_c66) lv st G E kc ks = ((match xm_get lv 1 with
    | some w => bif xm_isA w then xm_run call xm_c66 nL mc ms ret Q f (xm_drop 4 xm_c66) lv (w :: st) G E kc ks else false
    | none => false)) := rfl
theorem xz_66_4 : xm_run call xm_c66 nL mc ms ret Q (f + 1) (xm_drop 4 xm_c66) lv st G E kc ks = (bif Nat.beq 59 1006 || Nat.beq 59 1007 then xm_strl 59 st G (fun st => xm_run call xm_c66 nL mc ms ret Q f (xm_drop 5 xm_c66) lv st G E kc ks) else xm_call call mc ms 59 0 st G E kc ks (fun st G E kc ks => xm_run call xm_c66 nL mc ms ret Q f (xm_drop 5 xm_c66) lv st G E kc ks)) := rfl
theorem xz_66_5 : xm_run call xm_c66 nL mc ms ret Q (f + 1) (xm_drop 5 xm_c66) lv st G E kc ks = ((match xm_get lv 0 with
    | some w => bif xm_isA w then xm_run call xm_c66 nL mc ms ret Q f (xm_drop 6 xm_c66) lv (w :: st) G E kc ks else false
    | none => false)) := rfl
theorem xz_66_6 : xm_run call xm_c66 nL mc ms ret Q (f + 1) (xm_drop 6 xm_c66) lv st G E kc ks = ((match xm_get lv 1 with
    | some w => bif xm_isA w then xm_run call xm_c66 nL mc ms ret Q f (xm_drop 7 xm_c66) lv (w :: st) G E kc ks else false
    | none => false)) := rfl
theorem xz_66_7 : xm_run call xm_c66 nL mc ms ret Q (f + 1) (xm_drop 7 xm_c66) lv st G E kc ks = (xm_putf 7 1 st G (fun st G => xm_run call xm_c66 nL mc ms ret Q f (xm_drop 8 xm_c66) lv st G E kc ks)) := rfl
theorem xz_66_8 : xm_run call xm_c66 nL mc ms ret Q (f + 1) (xm_drop 8 xm_c66) lv st G E kc ks = ((match xm_get lv 0 with
    | some w => bif xm_isA w then xm_run call xm_c66 nL mc ms ret Q f (xm_drop 9 xm_c66) lv (w :: st) G E kc ks else false
    | none => false)) := rfl
theorem xz_66_9 : xm_run call xm_c66 nL mc ms ret Q (f + 1) (xm_drop 9 xm_c66) lv st G E kc ks = (xm_run call xm_c66 nL mc ms ret Q f (xm_drop 10 xm_c66) lv ((.int 0) :: st) G E kc ks) := rfl
theorem xz_66_10 : xm_run call xm_c66 nL mc ms ret Q (f + 1) (xm_drop 10 xm_c66) lv st G E kc ks = (xm_putf 7 2 st G (fun st G => xm_run call xm_c66 nL mc ms ret Q f (xm_drop 11 xm_c66) lv st G E kc ks)) := rfl
theorem xz_66_11 : xm_run call xm_c66 nL mc ms ret Q (f + 1) (xm_drop 11 xm_c66) lv st G E kc ks = (xm_run call xm_c66 nL mc ms ret Q f (xm_drop 12 xm_c66) lv ((.int 1) :: st) G E kc ks) := rfl
theorem xz_66_12 : xm_run call xm_c66 nL mc ms ret Q (f + 1) (xm_drop 12 xm_c66) lv st G E kc ks = ((match st with
    | w :: st => bif xm_isI w && Nat.blt 2 nL then xm_run call xm_c66 nL mc ms ret Q f (xm_drop 13 xm_c66) (xm_set1 lv 2 w) st G E kc ks else false
    | _ => false)) := rfl
theorem xz_66_13 : xm_run call xm_c66 nL mc ms ret Q (f + 1) (xm_drop 13 xm_c66) lv st G E kc ks = (xm_run call xm_c66 nL mc ms ret Q f (xm_drop 14 xm_c66) lv ((.int 0) :: st) G E kc ks) := rfl
theorem xz_66_14 : xm_run call xm_c66 nL mc ms ret Q (f + 1) (xm_drop 14 xm_c66) lv st G E kc ks = ((match st with
    | w :: st => bif xm_isI w && Nat.blt 3 nL then xm_run call xm_c66 nL mc ms ret Q f (xm_drop 15 xm_c66) (xm_set1 lv 3 w) st G E kc ks else false
    | _ => false)) := rfl
theorem xz_66_15 : xm_run call xm_c66 nL mc ms ret Q (f + 1) (xm_drop 15 xm_c66) lv st G E kc ks = ((match xm_get lv 2 with
    | some w => bif xm_isI w then xm_run call xm_c66 nL mc ms ret Q f (xm_drop 16 xm_c66) lv (w :: st) G E kc ks else false
    | none => false)) := rfl
theorem xz_66_16 : xm_run call xm_c66 nL mc ms ret Q (f + 1) (xm_drop 16 xm_c66) lv st G E kc ks = ((match st with
    | w :: st => xm_cmpI E w (.int 0) (fun E s => bif xm_holds .eq s then xm_run call xm_c66 nL mc ms ret Q f (xm_drop 67 xm_c66) lv st G E kc ks else xm_run call xm_c66 nL mc ms ret Q f (xm_drop 17 xm_c66) lv st G E kc ks)
    | _ => false)) := rfl
theorem xz_66_17 : xm_run call xm_c66 nL mc ms ret Q (f + 1) (xm_drop 17 xm_c66) lv st G E kc ks = ((match xm_get lv 3 with
    | some w => bif xm_isI w then xm_run call xm_c66 nL mc ms ret Q f (xm_drop 18 xm_c66) lv (w :: st) G E kc ks else false
    | none => false)) := rfl
theorem xz_66_18 : xm_run call xm_c66 nL mc ms ret Q (f + 1) (xm_drop 18 xm_c66) lv st G E kc ks = (xm_run call xm_c66 nL mc ms ret Q f (xm_drop 19 xm_c66) lv ((.int 12) :: st) G E kc ks) := rfl
theorem xz_66_19 : xm_run call xm_c66 nL mc ms ret Q (f + 1) (xm_drop 19 xm_c66) lv st G E kc ks = ((match st with
    | w :: u :: st => xm_cmpI E u w (fun E s => bif xm_holds .gt s then xm_run call xm_c66 nL mc ms ret Q f (xm_drop 67 xm_c66) lv st G E kc ks else xm_run call xm_c66 nL mc ms ret Q f (xm_drop 20 xm_c66) lv st G E kc ks)
    | _ => false)) := rfl
theorem xz_66_20 : xm_run call xm_c66 nL mc ms ret Q (f + 1) (xm_drop 20 xm_c66) lv st G E kc ks = ((match xm_get lv 0 with
    | some w => bif xm_isA w then xm_run call xm_c66 nL mc ms ret Q f (xm_drop 21 xm_c66) lv (w :: st) G E kc ks else false
    | none => false)) := rfl
theorem xz_66_21 : xm_run call xm_c66 nL mc ms ret Q (f + 1) (xm_drop 21 xm_c66) lv st G E kc ks = (xm_getf 7 0 st G (fun st => xm_run call xm_c66 nL mc ms ret Q f (xm_drop 22 xm_c66) lv st G E kc ks)) := rfl
theorem xz_66_22 : xm_run call xm_c66 nL mc ms ret Q (f + 1) (xm_drop 22 xm_c66) lv st G E kc ks = (xm_run call xm_c66 nL mc ms ret Q f (xm_drop 23 xm_c66) lv ((.ref 2) :: st) G E kc ks) := rfl
theorem xz_66_23 : xm_run call xm_c66 nL mc ms ret Q (f + 1) (xm_drop 23 xm_c66) lv st G E kc ks = (bif Nat.beq 83 1006 || Nat.beq 83 1007 then xm_strl 83 st G (fun st => xm_run call xm_c66 nL mc ms ret Q f (xm_drop 24 xm_c66) lv st G E kc ks) else xm_call call mc ms 83 0 st G E kc ks (fun st G E kc ks => xm_run call xm_c66 nL mc ms ret Q f (xm_drop 24 xm_c66) lv st G E kc ks)) := rfl
theorem xz_66_24 : xm_run call xm_c66 nL mc ms ret Q (f + 1) (xm_drop 24 xm_c66) lv st G E kc ks = (xm_run call xm_c66 nL mc ms ret Q f (xm_drop 25 xm_c66) lv ((.int (-1)) :: st) G E kc ks) := rfl
theorem xz_66_25 : xm_run call xm_c66 nL mc ms ret Q (f + 1) (xm_drop 25 xm_c66) lv st G E kc ks = ((match st with
    | w :: u :: st => xm_cmpI E u w (fun E s => bif xm_holds .ne s then xm_run call xm_c66 nL mc ms ret Q f (xm_drop 31 xm_c66) lv st G E kc ks else xm_run call xm_c66 nL mc ms ret Q f (xm_drop 26 xm_c66) lv st G E kc ks)
    | _ => false)) := rfl
theorem xz_66_26 : xm_run call xm_c66 nL mc ms ret Q (f + 1) (xm_drop 26 xm_c66) lv st G E kc ks = ((match xm_get lv 0 with
    | some w => bif xm_isA w then xm_run call xm_c66 nL mc ms ret Q f (xm_drop 27 xm_c66) lv (w :: st) G E kc ks else false
    | none => false)) := rfl
theorem xz_66_27 : xm_run call xm_c66 nL mc ms ret Q (f + 1) (xm_drop 27 xm_c66) lv st G E kc ks = (xm_getf 7 0 st G (fun st => xm_run call xm_c66 nL mc ms ret Q f (xm_drop 28 xm_c66) lv st G E kc ks)) := rfl
theorem xz_66_28 : xm_run call xm_c66 nL mc ms ret Q (f + 1) (xm_drop 28 xm_c66) lv st G E kc ks = (xm_run call xm_c66 nL mc ms ret Q f (xm_drop 29 xm_c66) lv ((.int 0) :: st) G E kc ks) := rfl
theorem xz_66_29 : xm_run call xm_c66 nL mc ms ret Q (f + 1) (xm_drop 29 xm_c66) lv st G E kc ks = (bif Nat.beq 81 1006 || Nat.beq 81 1007 then xm_strl 81 st G (fun st => xm_run call xm_c66 nL mc ms ret Q f (xm_drop 30 xm_c66) lv st G E kc ks) else xm_call call mc ms 81 0 st G E kc ks (fun st G E kc ks => xm_run call xm_c66 nL mc ms ret Q f (xm_drop 30 xm_c66) lv st G E kc ks)) := rfl
theorem xz_66_30 : xm_run call xm_c66 nL mc ms ret Q (f + 1) (xm_drop 30 xm_c66) lv st G E kc ks = (xm_run call xm_c66 nL mc ms ret Q f (xm_drop 38 xm_c66) lv st G E kc ks) := rfl
theorem xz_66_31 : xm_run call xm_c66 nL mc ms ret Q (f + 1) (xm_drop 31 xm_c66) lv st G E kc ks = ((match xm_get lv 3 with
    | some w => bif xm_isI w then xm_run call xm_c66 nL mc ms ret Q f (xm_drop 32 xm_c66) lv (w :: st) G E kc ks else false
    | none => false)) := rfl
theorem xz_66_32 : xm_run call xm_c66 nL mc ms ret Q (f + 1) (xm_drop 32 xm_c66) lv st G E kc ks = (xm_run call xm_c66 nL mc ms ret Q f (xm_drop 33 xm_c66) lv ((.int 12) :: st) G E kc ks) := rfl
theorem xz_66_33 : xm_run call xm_c66 nL mc ms ret Q (f + 1) (xm_drop 33 xm_c66) lv st G E kc ks = ((match st with
    | w :: u :: st => xm_cmpI E u w (fun E s => bif xm_holds .lt s then xm_run call xm_c66 nL mc ms ret Q f (xm_drop 38 xm_c66) lv st G E kc ks else xm_run call xm_c66 nL mc ms ret Q f (xm_drop 34 xm_c66) lv st G E kc ks)
    | _ => false)) := rfl
theorem xz_66_34 : xm_run call xm_c66 nL mc ms ret Q (f + 1) (xm_drop 34 xm_c66) lv st G E kc ks = ((match xm_get lv 0 with
    | some w => bif xm_isA w then xm_run call xm_c66 nL mc ms ret Q f (xm_drop 35 xm_c66) lv (w :: st) G E kc ks else false
    | none => false)) := rfl
theorem xz_66_35 : xm_run call xm_c66 nL mc ms ret Q (f + 1) (xm_drop 35 xm_c66) lv st G E kc ks = (xm_getf 7 0 st G (fun st => xm_run call xm_c66 nL mc ms ret Q f (xm_drop 36 xm_c66) lv st G E kc ks)) := rfl
theorem xz_66_36 : xm_run call xm_c66 nL mc ms ret Q (f + 1) (xm_drop 36 xm_c66) lv st G E kc ks = (xm_run call xm_c66 nL mc ms ret Q f (xm_drop 37 xm_c66) lv ((.int 4) :: st) G E kc ks) := rfl
theorem xz_66_37 : xm_run call xm_c66 nL mc ms ret Q (f + 1) (xm_drop 37 xm_c66) lv st G E kc ks = (bif Nat.beq 81 1006 || Nat.beq 81 1007 then xm_strl 81 st G (fun st => xm_run call xm_c66 nL mc ms ret Q f (xm_drop 38 xm_c66) lv st G E kc ks) else xm_call call mc ms 81 0 st G E kc ks (fun st G E kc ks => xm_run call xm_c66 nL mc ms ret Q f (xm_drop 38 xm_c66) lv st G E kc ks)) := rfl
theorem xz_66_38 : xm_run call xm_c66 nL mc ms ret Q (f + 1) (xm_drop 38 xm_c66) lv st G E kc ks = ((match xm_get lv 0 with
    | some w => bif xm_isA w then xm_run call xm_c66 nL mc ms ret Q f (xm_drop 39 xm_c66) lv (w :: st) G E kc ks else false
    | none => false)) := rfl
theorem xz_66_39 : xm_run call xm_c66 nL mc ms ret Q (f + 1) (xm_drop 39 xm_c66) lv st G E kc ks = (xm_getf 7 0 st G (fun st => xm_run call xm_c66 nL mc ms ret Q f (xm_drop 40 xm_c66) lv st G E kc ks)) := rfl
theorem xz_66_40 : xm_run call xm_c66 nL mc ms ret Q (f + 1) (xm_drop 40 xm_c66) lv st G E kc ks = (bif Nat.beq 82 1006 || Nat.beq 82 1007 then xm_strl 82 st G (fun st => xm_run call xm_c66 nL mc ms ret Q f (xm_drop 41 xm_c66) lv st G E kc ks) else xm_call call mc ms 82 0 st G E kc ks (fun st G E kc ks => xm_run call xm_c66 nL mc ms ret Q f (xm_drop 41 xm_c66) lv st G E kc ks)) := rfl
theorem xz_66_41 : xm_run call xm_c66 nL mc ms ret Q (f + 1) (xm_drop 41 xm_c66) lv st G E kc ks = ((match xm_get lv 0 with
    | some w => bif xm_isA w then xm_run call xm_c66 nL mc ms ret Q f (xm_drop 42 xm_c66) lv (w :: st) G E kc ks else false
    | none => false)) := rfl
theorem xz_66_42 : xm_run call xm_c66 nL mc ms ret Q (f + 1) (xm_drop 42 xm_c66) lv st G E kc ks = (bif Nat.beq 71 1006 || Nat.beq 71 1007 then xm_strl 71 st G (fun st => xm_run call xm_c66 nL mc ms ret Q f (xm_drop 43 xm_c66) lv st G E kc ks) else xm_call call mc ms 71 0 st G E kc ks (fun st G E kc ks => xm_run call xm_c66 nL mc ms ret Q f (xm_drop 43 xm_c66) lv st G E kc ks)) := rfl
theorem xz_66_43 : xm_run call xm_c66 nL mc ms ret Q (f + 1) (xm_drop 43 xm_c66) lv st G E kc ks = ((match xm_get lv 0 with
    | some w => bif xm_isA w then xm_run call xm_c66 nL mc ms ret Q f (xm_drop 44 xm_c66) lv (w :: st) G E kc ks else false
    | none => false)) := rfl
theorem xz_66_44 : xm_run call xm_c66 nL mc ms ret Q (f + 1) (xm_drop 44 xm_c66) lv st G E kc ks = (xm_getf 7 1 st G (fun st => xm_run call xm_c66 nL mc ms ret Q f (xm_drop 45 xm_c66) lv st G E kc ks)) := rfl
theorem xz_66_45 : xm_run call xm_c66 nL mc ms ret Q (f + 1) (xm_drop 45 xm_c66) lv st G E kc ks = (bif Nat.beq 61 1006 || Nat.beq 61 1007 then xm_strl 61 st G (fun st => xm_run call xm_c66 nL mc ms ret Q f (xm_drop 46 xm_c66) lv st G E kc ks) else xm_call call mc ms 61 0 st G E kc ks (fun st G E kc ks => xm_run call xm_c66 nL mc ms ret Q f (xm_drop 46 xm_c66) lv st G E kc ks)) := rfl
theorem xz_66_46 : xm_run call xm_c66 nL mc ms ret Q (f + 1) (xm_drop 46 xm_c66) lv st G E kc ks = ((match xm_get lv 0 with
    | some w => bif xm_isA w then xm_run call xm_c66 nL mc ms ret Q f (xm_drop 47 xm_c66) lv (w :: st) G E kc ks else false
    | none => false)) := rfl
theorem xz_66_47 : xm_run call xm_c66 nL mc ms ret Q (f + 1) (xm_drop 47 xm_c66) lv st G E kc ks = (xm_getf 7 0 st G (fun st => xm_run call xm_c66 nL mc ms ret Q f (xm_drop 48 xm_c66) lv st G E kc ks)) := rfl
theorem xz_66_48 : xm_run call xm_c66 nL mc ms ret Q (f + 1) (xm_drop 48 xm_c66) lv st G E kc ks = (xm_run call xm_c66 nL mc ms ret Q f (xm_drop 49 xm_c66) lv ((.ref 4) :: st) G E kc ks) := rfl
theorem xz_66_49 : xm_run call xm_c66 nL mc ms ret Q (f + 1) (xm_drop 49 xm_c66) lv st G E kc ks = (bif Nat.beq 83 1006 || Nat.beq 83 1007 then xm_strl 83 st G (fun st => xm_run call xm_c66 nL mc ms ret Q f (xm_drop 50 xm_c66) lv st G E kc ks) else xm_call call mc ms 83 0 st G E kc ks (fun st G E kc ks => xm_run call xm_c66 nL mc ms ret Q f (xm_drop 50 xm_c66) lv st G E kc ks)) := rfl
theorem xz_66_50 : xm_run call xm_c66 nL mc ms ret Q (f + 1) (xm_drop 50 xm_c66) lv st G E kc ks = (xm_run call xm_c66 nL mc ms ret Q f (xm_drop 51 xm_c66) lv ((.int (-1)) :: st) G E kc ks) := rfl
theorem xz_66_51 : xm_run call xm_c66 nL mc ms ret Q (f + 1) (xm_drop 51 xm_c66) lv st G E kc ks = ((match st with
    | w :: u :: st => xm_cmpI E u w (fun E s => bif xm_holds .eq s then xm_run call xm_c66 nL mc ms ret Q f (xm_drop 58 xm_c66) lv st G E kc ks else xm_run call xm_c66 nL mc ms ret Q f (xm_drop 52 xm_c66) lv st G E kc ks)
    | _ => false)) := rfl
theorem xz_66_52 : xm_run call xm_c66 nL mc ms ret Q (f + 1) (xm_drop 52 xm_c66) lv st G E kc ks = ((match xm_get lv 0 with
    | some w => bif xm_isA w then xm_run call xm_c66 nL mc ms ret Q f (xm_drop 53 xm_c66) lv (w :: st) G E kc ks else false
    | none => false)) := rfl
theorem xz_66_53 : xm_run call xm_c66 nL mc ms ret Q (f + 1) (xm_drop 53 xm_c66) lv st G E kc ks = (xm_getf 7 0 st G (fun st => xm_run call xm_c66 nL mc ms ret Q f (xm_drop 54 xm_c66) lv st G E kc ks)) := rfl
theorem xz_66_54 : xm_run call xm_c66 nL mc ms ret Q (f + 1) (xm_drop 54 xm_c66) lv st G E kc ks = (bif Nat.beq 82 1006 || Nat.beq 82 1007 then xm_strl 82 st G (fun st => xm_run call xm_c66 nL mc ms ret Q f (xm_drop 55 xm_c66) lv st G E kc ks) else xm_call call mc ms 82 0 st G E kc ks (fun st G E kc ks => xm_run call xm_c66 nL mc ms ret Q f (xm_drop 55 xm_c66) lv st G E kc ks)) := rfl
theorem xz_66_55 : xm_run call xm_c66 nL mc ms ret Q (f + 1) (xm_drop 55 xm_c66) lv st G E kc ks = ((match xm_get lv 0 with
    | some w => bif xm_isA w then xm_run call xm_c66 nL mc ms ret Q f (xm_drop 56 xm_c66) lv (w :: st) G E kc ks else false
    | none => false)) := rfl
theorem xz_66_56 : xm_run call xm_c66 nL mc ms ret Q (f + 1) (xm_drop 56 xm_c66) lv st G E kc ks = (xm_run call xm_c66 nL mc ms ret Q f (xm_drop 57 xm_c66) lv ((.int 0) :: st) G E kc ks) := rfl
theorem xz_66_57 : xm_run call xm_c66 nL mc ms ret Q (f + 1) (xm_drop 57 xm_c66) lv st G E kc ks = (bif Nat.beq 67 1006 || Nat.beq 67 1007 then xm_strl 67 st G (fun st => xm_run call xm_c66 nL mc ms ret Q f (xm_drop 58 xm_c66) lv st G E kc ks) else xm_call call mc ms 67 0 st G E kc ks (fun st G E kc ks => xm_run call xm_c66 nL mc ms ret Q f (xm_drop 58 xm_c66) lv st G E kc ks)) := rfl
theorem xz_66_58 : xm_run call xm_c66 nL mc ms ret Q (f + 1) (xm_drop 58 xm_c66) lv st G E kc ks = ((match xm_get lv 0 with
    | some w => bif xm_isA w then xm_run call xm_c66 nL mc ms ret Q f (xm_drop 59 xm_c66) lv (w :: st) G E kc ks else false
    | none => false)) := rfl
theorem xz_66_59 : xm_run call xm_c66 nL mc ms ret Q (f + 1) (xm_drop 59 xm_c66) lv st G E kc ks = (xm_getf 7 1 st G (fun st => xm_run call xm_c66 nL mc ms ret Q f (xm_drop 60 xm_c66) lv st G E kc ks)) := rfl
theorem xz_66_60 : xm_run call xm_c66 nL mc ms ret Q (f + 1) (xm_drop 60 xm_c66) lv st G E kc ks = (bif Nat.beq 62 1006 || Nat.beq 62 1007 then xm_strl 62 st G (fun st => xm_run call xm_c66 nL mc ms ret Q f (xm_drop 61 xm_c66) lv st G E kc ks) else xm_call call mc ms 62 0 st G E kc ks (fun st G E kc ks => xm_run call xm_c66 nL mc ms ret Q f (xm_drop 61 xm_c66) lv st G E kc ks)) := rfl
theorem xz_66_61 : xm_run call xm_c66 nL mc ms ret Q (f + 1) (xm_drop 61 xm_c66) lv st G E kc ks = ((match xm_get lv 0 with
    | some w => bif xm_isA w then xm_run call xm_c66 nL mc ms ret Q f (xm_drop 62 xm_c66) lv (w :: st) G E kc ks else false
    | none => false)) := rfl
theorem xz_66_62 : xm_run call xm_c66 nL mc ms ret Q (f + 1) (xm_drop 62 xm_c66) lv st G E kc ks = (xm_getf 7 0 st G (fun st => xm_run call xm_c66 nL mc ms ret Q f (xm_drop 63 xm_c66) lv st G E kc ks)) := rfl
theorem xz_66_63 : xm_run call xm_c66 nL mc ms ret Q (f + 1) (xm_drop 63 xm_c66) lv st G E kc ks = (bif Nat.beq 86 1006 || Nat.beq 86 1007 then xm_strl 86 st G (fun st => xm_run call xm_c66 nL mc ms ret Q f (xm_drop 64 xm_c66) lv st G E kc ks) else xm_call call mc ms 86 0 st G E kc ks (fun st G E kc ks => xm_run call xm_c66 nL mc ms ret Q f (xm_drop 64 xm_c66) lv st G E kc ks)) := rfl
theorem xz_66_64 : xm_run call xm_c66 nL mc ms ret Q (f + 1) (xm_drop 64 xm_c66) lv st G E kc ks = ((match st with
    | w :: st => bif xm_isI w && Nat.blt 2 nL then xm_run call xm_c66 nL mc ms ret Q f (xm_drop 65 xm_c66) (xm_set1 lv 2 w) st G E kc ks else false
    | _ => false)) := rfl
theorem xz_66_65 : xm_run call xm_c66 nL mc ms ret Q (f + 1) (xm_drop 65 xm_c66) lv st G E kc ks = ((match xm_get lv 3 with
    | some w => bif Nat.blt 3 nL then xm_conc E w (fun E x => xm_frc (x + Int32.ofInt 1) (fun z => xm_run call xm_c66 nL mc ms ret Q f (xm_drop 66 xm_c66) (xm_set1 lv 3 (.int z)) st G E kc ks)) else false
    | none => false)) := rfl
theorem xz_66_66 : xm_run call xm_c66 nL mc ms ret Q (f + 1) (xm_drop 66 xm_c66) lv st G E kc ks = (xm_run call xm_c66 nL mc ms ret Q f (xm_drop 15 xm_c66) lv st G E kc ks) := rfl
theorem xz_66_67 : xm_run call xm_c66 nL mc ms ret Q (f + 1) (xm_drop 67 xm_c66) lv st G E kc ks = ((match xm_get lv 0 with
    | some w => bif xm_isA w then xm_run call xm_c66 nL mc ms ret Q f (xm_drop 68 xm_c66) lv (w :: st) G E kc ks else false
    | none => false)) := rfl
theorem xz_66_68 : xm_run call xm_c66 nL mc ms ret Q (f + 1) (xm_drop 68 xm_c66) lv st G E kc ks = (xm_getf 7 0 st G (fun st => xm_run call xm_c66 nL mc ms ret Q f (xm_drop 69 xm_c66) lv st G E kc ks)) := rfl
theorem xz_66_69 : xm_run call xm_c66 nL mc ms ret Q (f + 1) (xm_drop 69 xm_c66) lv st G E kc ks = (xm_getf 9 5 st G (fun st => xm_run call xm_c66 nL mc ms ret Q f (xm_drop 70 xm_c66) lv st G E kc ks)) := rfl
theorem xz_66_70 : xm_run call xm_c66 nL mc ms ret Q (f + 1) (xm_drop 70 xm_c66) lv st G E kc ks = ((match st with
    | [w] => bif xm_isI w && (xm_rok ret w && (Nat.ble kc mc && Nat.ble ks ms)) then Q (some w) G E else false
    | _ => false)) := rfl
theorem xz_67_0 : xm_run call xm_c67 nL mc ms ret Q (f + 1) (xm_drop 0 xm_c67) lv st G E kc ks = ((match xm_get lv 0 with
    | some w => bif xm_isA w then xm_run call xm_c67 nL mc ms ret Q f (xm_drop 1 xm_c67) lv (w :: st) G E kc ks else false
    | none => false)) := rfl
theorem xz_67_1 : xm_run call xm_c67 nL mc ms ret Q (f + 1) (xm_drop 1 xm_c67) lv st G E kc ks = ((match xm_get lv 1 with
    | some w => bif xm_isI w then xm_run call xm_c67 nL mc ms ret Q f (xm_drop 2 xm_c67) lv (w :: st) G E kc ks else false
    | none => false)) := rfl
theorem xz_67_2 : xm_run call xm_c67 nL mc ms ret Q (f + 1) (xm_drop 2 xm_c67) lv st G E kc ks = (bif Nat.beq 68 1006 || Nat.beq 68 1007 then xm_strl 68 st G (fun st => xm_run call xm_c67 nL mc ms ret Q f (xm_drop 3 xm_c67) lv st G E kc ks) else xm_call call mc ms 68 0 st G E kc ks (fun st G E kc ks => xm_run call xm_c67 nL mc ms ret Q f (xm_drop 3 xm_c67) lv st G E kc ks)) := rfl
theorem xz_67_3 : xm_run call xm_c67 nL mc ms ret Q (f + 1) (xm_drop 3 xm_c67) lv st G E kc ks = (xm_run call xm_c67 nL mc ms ret Q f (xm_drop 4 xm_c67) lv ((.int 0) :: st) G E kc ks) := rfl
theorem xz_67_4 : xm_run call xm_c67 nL mc ms ret Q (f + 1) (xm_drop 4 xm_c67) lv st G E kc ks = ((match st with
    | w :: st => bif xm_isI w && Nat.blt 2 nL then xm_run call xm_c67 nL mc ms ret Q f (xm_drop 5 xm_c67) (xm_set1 lv 2 w) st G E kc ks else false
    | _ => false)) := rfl
theorem xz_67_5 : xm_run call xm_c67 nL mc ms ret Q (f + 1) (xm_drop 5 xm_c67) lv st G E kc ks = ((match xm_get lv 0 with
    | some w => bif xm_isA w then xm_run call xm_c67 nL mc ms ret Q f (xm_drop 6 xm_c67) lv (w :: st) G E kc ks else false
    | none => false)) := rfl
theorem xz_67_6 : xm_run call xm_c67 nL mc ms ret Q (f + 1) (xm_drop 6 xm_c67) lv st G E kc ks = (xm_getf 7 0 st G (fun st => xm_run call xm_c67 nL mc ms ret Q f (xm_drop 7 xm_c67) lv st G E kc ks)) := rfl
theorem xz_67_7 : xm_run call xm_c67 nL mc ms ret Q (f + 1) (xm_drop 7 xm_c67) lv st G E kc ks = (xm_run call xm_c67 nL mc ms ret Q f (xm_drop 8 xm_c67) lv ((.ref 6) :: st) G E kc ks) := rfl
theorem xz_67_8 : xm_run call xm_c67 nL mc ms ret Q (f + 1) (xm_drop 8 xm_c67) lv st G E kc ks = (bif Nat.beq 83 1006 || Nat.beq 83 1007 then xm_strl 83 st G (fun st => xm_run call xm_c67 nL mc ms ret Q f (xm_drop 9 xm_c67) lv st G E kc ks) else xm_call call mc ms 83 0 st G E kc ks (fun st G E kc ks => xm_run call xm_c67 nL mc ms ret Q f (xm_drop 9 xm_c67) lv st G E kc ks)) := rfl
theorem xz_67_9 : xm_run call xm_c67 nL mc ms ret Q (f + 1) (xm_drop 9 xm_c67) lv st G E kc ks = ((match st with
    | w :: st => bif xm_isI w && Nat.blt 3 nL then xm_run call xm_c67 nL mc ms ret Q f (xm_drop 10 xm_c67) (xm_set1 lv 3 w) st G E kc ks else false
    | _ => false)) := rfl
theorem xz_67_10 : xm_run call xm_c67 nL mc ms ret Q (f + 1) (xm_drop 10 xm_c67) lv st G E kc ks = (xm_run call xm_c67 nL mc ms ret Q f (xm_drop 11 xm_c67) lv ((.int 0) :: st) G E kc ks) := rfl
theorem xz_67_11 : xm_run call xm_c67 nL mc ms ret Q (f + 1) (xm_drop 11 xm_c67) lv st G E kc ks = ((match st with
    | w :: st => bif xm_isI w && Nat.blt 4 nL then xm_run call xm_c67 nL mc ms ret Q f (xm_drop 12 xm_c67) (xm_set1 lv 4 w) st G E kc ks else false
    | _ => false)) := rfl
theorem xz_67_12 : xm_run call xm_c67 nL mc ms ret Q (f + 1) (xm_drop 12 xm_c67) lv st G E kc ks = ((match xm_get lv 4 with
    | some w => bif xm_isI w then xm_run call xm_c67 nL mc ms ret Q f (xm_drop 13 xm_c67) lv (w :: st) G E kc ks else false
    | none => false)) := rfl
theorem xz_67_13 : xm_run call xm_c67 nL mc ms ret Q (f + 1) (xm_drop 13 xm_c67) lv st G E kc ks = (xm_run call xm_c67 nL mc ms ret Q f (xm_drop 14 xm_c67) lv ((.int 400) :: st) G E kc ks) := rfl
theorem xz_67_14 : xm_run call xm_c67 nL mc ms ret Q (f + 1) (xm_drop 14 xm_c67) lv st G E kc ks = ((match st with
    | w :: u :: st => xm_cmpI E u w (fun E s => bif xm_holds .ge s then xm_run call xm_c67 nL mc ms ret Q f (xm_drop 57 xm_c67) lv st G E kc ks else xm_run call xm_c67 nL mc ms ret Q f (xm_drop 15 xm_c67) lv st G E kc ks)
    | _ => false)) := rfl
theorem xz_67_15 : xm_run call xm_c67 nL mc ms ret Q (f + 1) (xm_drop 15 xm_c67) lv st G E kc ks = ((match xm_get lv 3 with
    | some w => bif xm_isI w then xm_run call xm_c67 nL mc ms ret Q f (xm_drop 16 xm_c67) lv (w :: st) G E kc ks else false
    | none => false)) := rfl
theorem xz_67_16 : xm_run call xm_c67 nL mc ms ret Q (f + 1) (xm_drop 16 xm_c67) lv st G E kc ks = (xm_run call xm_c67 nL mc ms ret Q f (xm_drop 17 xm_c67) lv ((.int (-1)) :: st) G E kc ks) := rfl
theorem xz_67_17 : xm_run call xm_c67 nL mc ms ret Q (f + 1) (xm_drop 17 xm_c67) lv st G E kc ks = ((match st with
    | w :: u :: st => xm_cmpI E u w (fun E s => bif xm_holds .eq s then xm_run call xm_c67 nL mc ms ret Q f (xm_drop 57 xm_c67) lv st G E kc ks else xm_run call xm_c67 nL mc ms ret Q f (xm_drop 18 xm_c67) lv st G E kc ks)
    | _ => false)) := rfl
theorem xz_67_18 : xm_run call xm_c67 nL mc ms ret Q (f + 1) (xm_drop 18 xm_c67) lv st G E kc ks = ((match xm_get lv 0 with
    | some w => bif xm_isA w then xm_run call xm_c67 nL mc ms ret Q f (xm_drop 19 xm_c67) lv (w :: st) G E kc ks else false
    | none => false)) := rfl
theorem xz_67_19 : xm_run call xm_c67 nL mc ms ret Q (f + 1) (xm_drop 19 xm_c67) lv st G E kc ks = (xm_getf 7 0 st G (fun st => xm_run call xm_c67 nL mc ms ret Q f (xm_drop 20 xm_c67) lv st G E kc ks)) := rfl
theorem xz_67_20 : xm_run call xm_c67 nL mc ms ret Q (f + 1) (xm_drop 20 xm_c67) lv st G E kc ks = (bif Nat.beq 82 1006 || Nat.beq 82 1007 then xm_strl 82 st G (fun st => xm_run call xm_c67 nL mc ms ret Q f (xm_drop 21 xm_c67) lv st G E kc ks) else xm_call call mc ms 82 0 st G E kc ks (fun st G E kc ks => xm_run call xm_c67 nL mc ms ret Q f (xm_drop 21 xm_c67) lv st G E kc ks)) := rfl
theorem xz_67_21 : xm_run call xm_c67 nL mc ms ret Q (f + 1) (xm_drop 21 xm_c67) lv st G E kc ks = ((match xm_get lv 3 with
    | some w => bif xm_isI w then xm_run call xm_c67 nL mc ms ret Q f (xm_drop 22 xm_c67) lv (w :: st) G E kc ks else false
    | none => false)) := rfl
theorem xz_67_22 : xm_run call xm_c67 nL mc ms ret Q (f + 1) (xm_drop 22 xm_c67) lv st G E kc ks = (xm_run call xm_c67 nL mc ms ret Q f (xm_drop 23 xm_c67) lv ((.int 1) :: st) G E kc ks) := rfl
theorem xz_67_23 : xm_run call xm_c67 nL mc ms ret Q (f + 1) (xm_drop 23 xm_c67) lv st G E kc ks = ((match st with
    | w :: u :: st => xm_cmpI E u w (fun E s => bif xm_holds .ne s then xm_run call xm_c67 nL mc ms ret Q f (xm_drop 31 xm_c67) lv st G E kc ks else xm_run call xm_c67 nL mc ms ret Q f (xm_drop 24 xm_c67) lv st G E kc ks)
    | _ => false)) := rfl
theorem xz_67_24 : xm_run call xm_c67 nL mc ms ret Q (f + 1) (xm_drop 24 xm_c67) lv st G E kc ks = ((match xm_get lv 2 with
    | some w => bif xm_isI w then xm_run call xm_c67 nL mc ms ret Q f (xm_drop 25 xm_c67) lv (w :: st) G E kc ks else false
    | none => false)) := rfl
theorem xz_67_25 : xm_run call xm_c67 nL mc ms ret Q (f + 1) (xm_drop 25 xm_c67) lv st G E kc ks = ((match st with
    | w :: st => xm_cmpI E w (.int 0) (fun E s => bif xm_holds .eq s then xm_run call xm_c67 nL mc ms ret Q f (xm_drop 31 xm_c67) lv st G E kc ks else xm_run call xm_c67 nL mc ms ret Q f (xm_drop 26 xm_c67) lv st G E kc ks)
    | _ => false)) := rfl
theorem xz_67_26 : xm_run call xm_c67 nL mc ms ret Q (f + 1) (xm_drop 26 xm_c67) lv st G E kc ks = ((match xm_get lv 0 with
    | some w => bif xm_isA w then xm_run call xm_c67 nL mc ms ret Q f (xm_drop 27 xm_c67) lv (w :: st) G E kc ks else false
    | none => false)) := rfl
theorem xz_67_27 : xm_run call xm_c67 nL mc ms ret Q (f + 1) (xm_drop 27 xm_c67) lv st G E kc ks = (xm_getf 7 1 st G (fun st => xm_run call xm_c67 nL mc ms ret Q f (xm_drop 28 xm_c67) lv st G E kc ks)) := rfl
theorem xz_67_28 : xm_run call xm_c67 nL mc ms ret Q (f + 1) (xm_drop 28 xm_c67) lv st G E kc ks = (xm_run call xm_c67 nL mc ms ret Q f (xm_drop 29 xm_c67) lv ((.int 13) :: st) G E kc ks) := rfl
theorem xz_67_29 : xm_run call xm_c67 nL mc ms ret Q (f + 1) (xm_drop 29 xm_c67) lv st G E kc ks = (xm_run call xm_c67 nL mc ms ret Q f (xm_drop 30 xm_c67) lv ((.int 0) :: st) G E kc ks) := rfl
theorem xz_67_30 : xm_run call xm_c67 nL mc ms ret Q (f + 1) (xm_drop 30 xm_c67) lv st G E kc ks = (bif Nat.beq 60 1006 || Nat.beq 60 1007 then xm_strl 60 st G (fun st => xm_run call xm_c67 nL mc ms ret Q f (xm_drop 31 xm_c67) lv st G E kc ks) else xm_call call mc ms 60 0 st G E kc ks (fun st G E kc ks => xm_run call xm_c67 nL mc ms ret Q f (xm_drop 31 xm_c67) lv st G E kc ks)) := rfl
theorem xz_67_31 : xm_run call xm_c67 nL mc ms ret Q (f + 1) (xm_drop 31 xm_c67) lv st G E kc ks = ((match xm_get lv 0 with
    | some w => bif xm_isA w then xm_run call xm_c67 nL mc ms ret Q f (xm_drop 32 xm_c67) lv (w :: st) G E kc ks else false
    | none => false)) := rfl
theorem xz_67_32 : xm_run call xm_c67 nL mc ms ret Q (f + 1) (xm_drop 32 xm_c67) lv st G E kc ks = ((match xm_get lv 1 with
    | some w => bif xm_isI w then xm_run call xm_c67 nL mc ms ret Q f (xm_drop 33 xm_c67) lv (w :: st) G E kc ks else false
    | none => false)) := rfl
theorem xz_67_33 : xm_run call xm_c67 nL mc ms ret Q (f + 1) (xm_drop 33 xm_c67) lv st G E kc ks = (bif Nat.beq 68 1006 || Nat.beq 68 1007 then xm_strl 68 st G (fun st => xm_run call xm_c67 nL mc ms ret Q f (xm_drop 34 xm_c67) lv st G E kc ks) else xm_call call mc ms 68 0 st G E kc ks (fun st G E kc ks => xm_run call xm_c67 nL mc ms ret Q f (xm_drop 34 xm_c67) lv st G E kc ks)) := rfl
theorem xz_67_34 : xm_run call xm_c67 nL mc ms ret Q (f + 1) (xm_drop 34 xm_c67) lv st G E kc ks = ((match xm_get lv 3 with
    | some w => bif xm_isI w then xm_run call xm_c67 nL mc ms ret Q f (xm_drop 35 xm_c67) lv (w :: st) G E kc ks else false
    | none => false)) := rfl
theorem xz_67_35 : xm_run call xm_c67 nL mc ms ret Q (f + 1) (xm_drop 35 xm_c67) lv st G E kc ks = ((match st with
    | w :: st => xm_cmpI E w (.int 0) (fun E s => bif xm_holds .ne s then xm_run call xm_c67 nL mc ms ret Q f (xm_drop 41 xm_c67) lv st G E kc ks else xm_run call xm_c67 nL mc ms ret Q f (xm_drop 36 xm_c67) lv st G E kc ks)
    | _ => false)) := rfl
theorem xz_67_36 : xm_run call xm_c67 nL mc ms ret Q (f + 1) (xm_drop 36 xm_c67) lv st G E kc ks = ((match xm_get lv 0 with
    | some w => bif xm_isA w then xm_run call xm_c67 nL mc ms ret Q f (xm_drop 37 xm_c67) lv (w :: st) G E kc ks else false
    | none => false)) := rfl
theorem xz_67_37 : xm_run call xm_c67 nL mc ms ret Q (f + 1) (xm_drop 37 xm_c67) lv st G E kc ks = (xm_getf 7 1 st G (fun st => xm_run call xm_c67 nL mc ms ret Q f (xm_drop 38 xm_c67) lv st G E kc ks)) := rfl
theorem xz_67_38 : xm_run call xm_c67 nL mc ms ret Q (f + 1) (xm_drop 38 xm_c67) lv st G E kc ks = (xm_run call xm_c67 nL mc ms ret Q f (xm_drop 39 xm_c67) lv ((.int 12) :: st) G E kc ks) := rfl
theorem xz_67_39 : xm_run call xm_c67 nL mc ms ret Q (f + 1) (xm_drop 39 xm_c67) lv st G E kc ks = (xm_run call xm_c67 nL mc ms ret Q f (xm_drop 40 xm_c67) lv ((.int 0) :: st) G E kc ks) := rfl
theorem xz_67_40 : xm_run call xm_c67 nL mc ms ret Q (f + 1) (xm_drop 40 xm_c67) lv st G E kc ks = (bif Nat.beq 60 1006 || Nat.beq 60 1007 then xm_strl 60 st G (fun st => xm_run call xm_c67 nL mc ms ret Q f (xm_drop 41 xm_c67) lv st G E kc ks) else xm_call call mc ms 60 0 st G E kc ks (fun st G E kc ks => xm_run call xm_c67 nL mc ms ret Q f (xm_drop 41 xm_c67) lv st G E kc ks)) := rfl
theorem xz_67_41 : xm_run call xm_c67 nL mc ms ret Q (f + 1) (xm_drop 41 xm_c67) lv st G E kc ks = ((match xm_get lv 2 with
    | some w => bif xm_isI w then xm_run call xm_c67 nL mc ms ret Q f (xm_drop 42 xm_c67) lv (w :: st) G E kc ks else false
    | none => false)) := rfl
theorem xz_67_42 : xm_run call xm_c67 nL mc ms ret Q (f + 1) (xm_drop 42 xm_c67) lv st G E kc ks = ((match xm_get lv 3 with
    | some w => bif xm_isI w then xm_run call xm_c67 nL mc ms ret Q f (xm_drop 43 xm_c67) lv (w :: st) G E kc ks else false
    | none => false)) := rfl
theorem xz_67_43 : xm_run call xm_c67 nL mc ms ret Q (f + 1) (xm_drop 43 xm_c67) lv st G E kc ks = (xm_run call xm_c67 nL mc ms ret Q f (xm_drop 44 xm_c67) lv ((.int 1) :: st) G E kc ks) := rfl
theorem xz_67_44 : xm_run call xm_c67 nL mc ms ret Q (f + 1) (xm_drop 44 xm_c67) lv st G E kc ks = ((match st with
    | w :: u :: st => xm_cmpI E u w (fun E s => bif xm_holds .ne s then xm_run call xm_c67 nL mc ms ret Q f (xm_drop 47 xm_c67) lv st G E kc ks else xm_run call xm_c67 nL mc ms ret Q f (xm_drop 45 xm_c67) lv st G E kc ks)
    | _ => false)) := rfl
theorem xz_67_45 : xm_run call xm_c67 nL mc ms ret Q (f + 1) (xm_drop 45 xm_c67) lv st G E kc ks = (xm_run call xm_c67 nL mc ms ret Q f (xm_drop 46 xm_c67) lv ((.int 1) :: st) G E kc ks) := rfl
theorem xz_67_46 : xm_run call xm_c67 nL mc ms ret Q (f + 1) (xm_drop 46 xm_c67) lv st G E kc ks = (xm_run call xm_c67 nL mc ms ret Q f (xm_drop 48 xm_c67) lv st G E kc ks) := rfl
theorem xz_67_47 : xm_run call xm_c67 nL mc ms ret Q (f + 1) (xm_drop 47 xm_c67) lv st G E kc ks = (xm_run call xm_c67 nL mc ms ret Q f (xm_drop 48 xm_c67) lv ((.int 0) :: st) G E kc ks) := rfl
theorem xz_67_48 : xm_run call xm_c67 nL mc ms ret Q (f + 1) (xm_drop 48 xm_c67) lv st G E kc ks = (xm_int2 .ior st E (fun st E => xm_run call xm_c67 nL mc ms ret Q f (xm_drop 49 xm_c67) lv st G E kc ks)) := rfl
theorem xz_67_49 : xm_run call xm_c67 nL mc ms ret Q (f + 1) (xm_drop 49 xm_c67) lv st G E kc ks = ((match st with
    | w :: st => bif xm_isI w && Nat.blt 2 nL then xm_run call xm_c67 nL mc ms ret Q f (xm_drop 50 xm_c67) (xm_set1 lv 2 w) st G E kc ks else false
    | _ => false)) := rfl
theorem xz_67_50 : xm_run call xm_c67 nL mc ms ret Q (f + 1) (xm_drop 50 xm_c67) lv st G E kc ks = ((match xm_get lv 0 with
    | some w => bif xm_isA w then xm_run call xm_c67 nL mc ms ret Q f (xm_drop 51 xm_c67) lv (w :: st) G E kc ks else false
    | none => false)) := rfl
theorem xz_67_51 : xm_run call xm_c67 nL mc ms ret Q (f + 1) (xm_drop 51 xm_c67) lv st G E kc ks = (xm_getf 7 0 st G (fun st => xm_run call xm_c67 nL mc ms ret Q f (xm_drop 52 xm_c67) lv st G E kc ks)) := rfl
theorem xz_67_52 : xm_run call xm_c67 nL mc ms ret Q (f + 1) (xm_drop 52 xm_c67) lv st G E kc ks = (xm_run call xm_c67 nL mc ms ret Q f (xm_drop 53 xm_c67) lv ((.ref 6) :: st) G E kc ks) := rfl
theorem xz_67_53 : xm_run call xm_c67 nL mc ms ret Q (f + 1) (xm_drop 53 xm_c67) lv st G E kc ks = (bif Nat.beq 83 1006 || Nat.beq 83 1007 then xm_strl 83 st G (fun st => xm_run call xm_c67 nL mc ms ret Q f (xm_drop 54 xm_c67) lv st G E kc ks) else xm_call call mc ms 83 0 st G E kc ks (fun st G E kc ks => xm_run call xm_c67 nL mc ms ret Q f (xm_drop 54 xm_c67) lv st G E kc ks)) := rfl
theorem xz_67_54 : xm_run call xm_c67 nL mc ms ret Q (f + 1) (xm_drop 54 xm_c67) lv st G E kc ks = ((match st with
    | w :: st => bif xm_isI w && Nat.blt 3 nL then xm_run call xm_c67 nL mc ms ret Q f (xm_drop 55 xm_c67) (xm_set1 lv 3 w) st G E kc ks else false
    | _ => false)) := rfl
theorem xz_67_55 : xm_run call xm_c67 nL mc ms ret Q (f + 1) (xm_drop 55 xm_c67) lv st G E kc ks = ((match xm_get lv 4 with
    | some w => bif Nat.blt 4 nL then xm_conc E w (fun E x => xm_frc (x + Int32.ofInt 1) (fun z => xm_run call xm_c67 nL mc ms ret Q f (xm_drop 56 xm_c67) (xm_set1 lv 4 (.int z)) st G E kc ks)) else false
    | none => false)) := rfl
theorem xz_67_56 : xm_run call xm_c67 nL mc ms ret Q (f + 1) (xm_drop 56 xm_c67) lv st G E kc ks = (xm_run call xm_c67 nL mc ms ret Q f (xm_drop 12 xm_c67) lv st G E kc ks) := rfl
theorem xz_67_57 : xm_run call xm_c67 nL mc ms ret Q (f + 1) (xm_drop 57 xm_c67) lv st G E kc ks = ((match xm_get lv 2 with
    | some w => bif xm_isI w then xm_run call xm_c67 nL mc ms ret Q f (xm_drop 58 xm_c67) lv (w :: st) G E kc ks else false
    | none => false)) := rfl
theorem xz_67_58 : xm_run call xm_c67 nL mc ms ret Q (f + 1) (xm_drop 58 xm_c67) lv st G E kc ks = ((match st with
    | w :: st => xm_cmpI E w (.int 0) (fun E s => bif xm_holds .eq s then xm_run call xm_c67 nL mc ms ret Q f (xm_drop 64 xm_c67) lv st G E kc ks else xm_run call xm_c67 nL mc ms ret Q f (xm_drop 59 xm_c67) lv st G E kc ks)
    | _ => false)) := rfl
theorem xz_67_59 : xm_run call xm_c67 nL mc ms ret Q (f + 1) (xm_drop 59 xm_c67) lv st G E kc ks = ((match xm_get lv 0 with
    | some w => bif xm_isA w then xm_run call xm_c67 nL mc ms ret Q f (xm_drop 60 xm_c67) lv (w :: st) G E kc ks else false
    | none => false)) := rfl
theorem xz_67_60 : xm_run call xm_c67 nL mc ms ret Q (f + 1) (xm_drop 60 xm_c67) lv st G E kc ks = (xm_getf 7 1 st G (fun st => xm_run call xm_c67 nL mc ms ret Q f (xm_drop 61 xm_c67) lv st G E kc ks)) := rfl
theorem xz_67_61 : xm_run call xm_c67 nL mc ms ret Q (f + 1) (xm_drop 61 xm_c67) lv st G E kc ks = (xm_run call xm_c67 nL mc ms ret Q f (xm_drop 62 xm_c67) lv ((.int 13) :: st) G E kc ks) := rfl
theorem xz_67_62 : xm_run call xm_c67 nL mc ms ret Q (f + 1) (xm_drop 62 xm_c67) lv st G E kc ks = (xm_run call xm_c67 nL mc ms ret Q f (xm_drop 63 xm_c67) lv ((.int 0) :: st) G E kc ks) := rfl
theorem xz_67_63 : xm_run call xm_c67 nL mc ms ret Q (f + 1) (xm_drop 63 xm_c67) lv st G E kc ks = (bif Nat.beq 60 1006 || Nat.beq 60 1007 then xm_strl 60 st G (fun st => xm_run call xm_c67 nL mc ms ret Q f (xm_drop 64 xm_c67) lv st G E kc ks) else xm_call call mc ms 60 0 st G E kc ks (fun st G E kc ks => xm_run call xm_c67 nL mc ms ret Q f (xm_drop 64 xm_c67) lv st G E kc ks)) := rfl
theorem xz_67_64 : xm_run call xm_c67 nL mc ms ret Q (f + 1) (xm_drop 64 xm_c67) lv st G E kc ks = ((match st with
    | [] => bif ret.isNone && (Nat.ble kc mc && Nat.ble ks ms) then Q none G E else false
    | _ => false)) := rfl
theorem xz_68_0 : xm_run call xm_c68 nL mc ms ret Q (f + 1) (xm_drop 0 xm_c68) lv st G E kc ks = ((match xm_get lv 0 with
    | some w => bif xm_isA w then xm_run call xm_c68 nL mc ms ret Q f (xm_drop 1 xm_c68) lv (w :: st) G E kc ks else false
    | none => false)) := rfl
theorem xz_68_1 : xm_run call xm_c68 nL mc ms ret Q (f + 1) (xm_drop 1 xm_c68) lv st G E kc ks = (xm_getf 7 0 st G (fun st => xm_run call xm_c68 nL mc ms ret Q f (xm_drop 2 xm_c68) lv st G E kc ks)) := rfl
theorem xz_68_2 : xm_run call xm_c68 nL mc ms ret Q (f + 1) (xm_drop 2 xm_c68) lv st G E kc ks = (xm_run call xm_c68 nL mc ms ret Q f (xm_drop 3 xm_c68) lv ((.ref 5) :: st) G E kc ks) := rfl
theorem xz_68_3 : xm_run call xm_c68 nL mc ms ret Q (f + 1) (xm_drop 3 xm_c68) lv st G E kc ks = (bif Nat.beq 83 1006 || Nat.beq 83 1007 then xm_strl 83 st G (fun st => xm_run call xm_c68 nL mc ms ret Q f (xm_drop 4 xm_c68) lv st G E kc ks) else xm_call call mc ms 83 0 st G E kc ks (fun st G E kc ks => xm_run call xm_c68 nL mc ms ret Q f (xm_drop 4 xm_c68) lv st G E kc ks)) := rfl
theorem xz_68_4 : xm_run call xm_c68 nL mc ms ret Q (f + 1) (xm_drop 4 xm_c68) lv st G E kc ks = (xm_run call xm_c68 nL mc ms ret Q f (xm_drop 5 xm_c68) lv ((.int (-1)) :: st) G E kc ks) := rfl
theorem xz_68_5 : xm_run call xm_c68 nL mc ms ret Q (f + 1) (xm_drop 5 xm_c68) lv st G E kc ks = ((match st with
    | w :: u :: st => xm_cmpI E u w (fun E s => bif xm_holds .eq s then xm_run call xm_c68 nL mc ms ret Q f (xm_drop 8 xm_c68) lv st G E kc ks else xm_run call xm_c68 nL mc ms ret Q f (xm_drop 6 xm_c68) lv st G E kc ks)
    | _ => false)) := rfl
theorem xz_68_6 : xm_run call xm_c68 nL mc ms ret Q (f + 1) (xm_drop 6 xm_c68) lv st G E kc ks = (xm_run call xm_c68 nL mc ms ret Q f (xm_drop 7 xm_c68) lv ((.int 1) :: st) G E kc ks) := rfl
theorem xz_68_7 : xm_run call xm_c68 nL mc ms ret Q (f + 1) (xm_drop 7 xm_c68) lv st G E kc ks = (xm_run call xm_c68 nL mc ms ret Q f (xm_drop 9 xm_c68) lv st G E kc ks) := rfl
theorem xz_68_8 : xm_run call xm_c68 nL mc ms ret Q (f + 1) (xm_drop 8 xm_c68) lv st G E kc ks = (xm_run call xm_c68 nL mc ms ret Q f (xm_drop 9 xm_c68) lv ((.int 0) :: st) G E kc ks) := rfl
theorem xz_68_9 : xm_run call xm_c68 nL mc ms ret Q (f + 1) (xm_drop 9 xm_c68) lv st G E kc ks = ((match st with
    | w :: st => bif xm_isI w && Nat.blt 2 nL then xm_run call xm_c68 nL mc ms ret Q f (xm_drop 10 xm_c68) (xm_set1 lv 2 w) st G E kc ks else false
    | _ => false)) := rfl
theorem xz_68_10 : xm_run call xm_c68 nL mc ms ret Q (f + 1) (xm_drop 10 xm_c68) lv st G E kc ks = ((match xm_get lv 2 with
    | some w => bif xm_isI w then xm_run call xm_c68 nL mc ms ret Q f (xm_drop 11 xm_c68) lv (w :: st) G E kc ks else false
    | none => false)) := rfl
theorem xz_68_11 : xm_run call xm_c68 nL mc ms ret Q (f + 1) (xm_drop 11 xm_c68) lv st G E kc ks = ((match st with
    | w :: st => xm_cmpI E w (.int 0) (fun E s => bif xm_holds .ne s then xm_run call xm_c68 nL mc ms ret Q f (xm_drop 20 xm_c68) lv st G E kc ks else xm_run call xm_c68 nL mc ms ret Q f (xm_drop 12 xm_c68) lv st G E kc ks)
    | _ => false)) := rfl
theorem xz_68_12 : xm_run call xm_c68 nL mc ms ret Q (f + 1) (xm_drop 12 xm_c68) lv st G E kc ks = ((match xm_get lv 0 with
    | some w => bif xm_isA w then xm_run call xm_c68 nL mc ms ret Q f (xm_drop 13 xm_c68) lv (w :: st) G E kc ks else false
    | none => false)) := rfl
theorem xz_68_13 : xm_run call xm_c68 nL mc ms ret Q (f + 1) (xm_drop 13 xm_c68) lv st G E kc ks = (xm_getf 7 0 st G (fun st => xm_run call xm_c68 nL mc ms ret Q f (xm_drop 14 xm_c68) lv st G E kc ks)) := rfl
theorem xz_68_14 : xm_run call xm_c68 nL mc ms ret Q (f + 1) (xm_drop 14 xm_c68) lv st G E kc ks = (xm_getf 9 2 st G (fun st => xm_run call xm_c68 nL mc ms ret Q f (xm_drop 15 xm_c68) lv st G E kc ks)) := rfl
theorem xz_68_15 : xm_run call xm_c68 nL mc ms ret Q (f + 1) (xm_drop 15 xm_c68) lv st G E kc ks = (xm_run call xm_c68 nL mc ms ret Q f (xm_drop 16 xm_c68) lv ((.int 91) :: st) G E kc ks) := rfl
theorem xz_68_16 : xm_run call xm_c68 nL mc ms ret Q (f + 1) (xm_drop 16 xm_c68) lv st G E kc ks = ((match st with
    | w :: u :: st => xm_cmpI E u w (fun E s => bif xm_holds .eq s then xm_run call xm_c68 nL mc ms ret Q f (xm_drop 20 xm_c68) lv st G E kc ks else xm_run call xm_c68 nL mc ms ret Q f (xm_drop 17 xm_c68) lv st G E kc ks)
    | _ => false)) := rfl
theorem xz_68_17 : xm_run call xm_c68 nL mc ms ret Q (f + 1) (xm_drop 17 xm_c68) lv st G E kc ks = ((match xm_get lv 0 with
    | some w => bif xm_isA w then xm_run call xm_c68 nL mc ms ret Q f (xm_drop 18 xm_c68) lv (w :: st) G E kc ks else false
    | none => false)) := rfl
theorem xz_68_18 : xm_run call xm_c68 nL mc ms ret Q (f + 1) (xm_drop 18 xm_c68) lv st G E kc ks = (bif Nat.beq 69 1006 || Nat.beq 69 1007 then xm_strl 69 st G (fun st => xm_run call xm_c68 nL mc ms ret Q f (xm_drop 19 xm_c68) lv st G E kc ks) else xm_call call mc ms 69 0 st G E kc ks (fun st G E kc ks => xm_run call xm_c68 nL mc ms ret Q f (xm_drop 19 xm_c68) lv st G E kc ks)) := rfl
theorem xz_68_19 : xm_run call xm_c68 nL mc ms ret Q (f + 1) (xm_drop 19 xm_c68) lv st G E kc ks = (xm_run call xm_c68 nL mc ms ret Q f (xm_drop 64 xm_c68) lv st G E kc ks) := rfl
theorem xz_68_20 : xm_run call xm_c68 nL mc ms ret Q (f + 1) (xm_drop 20 xm_c68) lv st G E kc ks = ((match xm_get lv 1 with
    | some w => bif xm_isI w then xm_run call xm_c68 nL mc ms ret Q f (xm_drop 21 xm_c68) lv (w :: st) G E kc ks else false
    | none => false)) := rfl
theorem xz_68_21 : xm_run call xm_c68 nL mc ms ret Q (f + 1) (xm_drop 21 xm_c68) lv st G E kc ks = (xm_run call xm_c68 nL mc ms ret Q f (xm_drop 22 xm_c68) lv ((.int 10) :: st) G E kc ks) := rfl
theorem xz_68_22 : xm_run call xm_c68 nL mc ms ret Q (f + 1) (xm_drop 22 xm_c68) lv st G E kc ks = ((match st with
    | w :: u :: st => xm_cmpI E u w (fun E s => bif xm_holds .lt s then xm_run call xm_c68 nL mc ms ret Q f (xm_drop 28 xm_c68) lv st G E kc ks else xm_run call xm_c68 nL mc ms ret Q f (xm_drop 23 xm_c68) lv st G E kc ks)
    | _ => false)) := rfl
theorem xz_68_23 : xm_run call xm_c68 nL mc ms ret Q (f + 1) (xm_drop 23 xm_c68) lv st G E kc ks = ((match xm_get lv 0 with
    | some w => bif xm_isA w then xm_run call xm_c68 nL mc ms ret Q f (xm_drop 24 xm_c68) lv (w :: st) G E kc ks else false
    | none => false)) := rfl
theorem xz_68_24 : xm_run call xm_c68 nL mc ms ret Q (f + 1) (xm_drop 24 xm_c68) lv st G E kc ks = (xm_getf 7 0 st G (fun st => xm_run call xm_c68 nL mc ms ret Q f (xm_drop 25 xm_c68) lv st G E kc ks)) := rfl
theorem xz_68_25 : xm_run call xm_c68 nL mc ms ret Q (f + 1) (xm_drop 25 xm_c68) lv st G E kc ks = (xm_run call xm_c68 nL mc ms ret Q f (xm_drop 26 xm_c68) lv ((.int 2) :: st) G E kc ks) := rfl
theorem xz_68_26 : xm_run call xm_c68 nL mc ms ret Q (f + 1) (xm_drop 26 xm_c68) lv st G E kc ks = (bif Nat.beq 81 1006 || Nat.beq 81 1007 then xm_strl 81 st G (fun st => xm_run call xm_c68 nL mc ms ret Q f (xm_drop 27 xm_c68) lv st G E kc ks) else xm_call call mc ms 81 0 st G E kc ks (fun st G E kc ks => xm_run call xm_c68 nL mc ms ret Q f (xm_drop 27 xm_c68) lv st G E kc ks)) := rfl
theorem xz_68_27 : xm_run call xm_c68 nL mc ms ret Q (f + 1) (xm_drop 27 xm_c68) lv st G E kc ks = (xm_run call xm_c68 nL mc ms ret Q f (xm_drop 64 xm_c68) lv st G E kc ks) := rfl
theorem xz_68_28 : xm_run call xm_c68 nL mc ms ret Q (f + 1) (xm_drop 28 xm_c68) lv st G E kc ks = ((match xm_get lv 2 with
    | some w => bif xm_isI w then xm_run call xm_c68 nL mc ms ret Q f (xm_drop 29 xm_c68) lv (w :: st) G E kc ks else false
    | none => false)) := rfl
theorem xz_68_29 : xm_run call xm_c68 nL mc ms ret Q (f + 1) (xm_drop 29 xm_c68) lv st G E kc ks = ((match st with
    | w :: st => xm_cmpI E w (.int 0) (fun E s => bif xm_holds .eq s then xm_run call xm_c68 nL mc ms ret Q f (xm_drop 44 xm_c68) lv st G E kc ks else xm_run call xm_c68 nL mc ms ret Q f (xm_drop 30 xm_c68) lv st G E kc ks)
    | _ => false)) := rfl
theorem xz_68_30 : xm_run call xm_c68 nL mc ms ret Q (f + 1) (xm_drop 30 xm_c68) lv st G E kc ks = ((match xm_get lv 0 with
    | some w => bif xm_isA w then xm_run call xm_c68 nL mc ms ret Q f (xm_drop 31 xm_c68) lv (w :: st) G E kc ks else false
    | none => false)) := rfl
theorem xz_68_31 : xm_run call xm_c68 nL mc ms ret Q (f + 1) (xm_drop 31 xm_c68) lv st G E kc ks = (xm_getf 7 0 st G (fun st => xm_run call xm_c68 nL mc ms ret Q f (xm_drop 32 xm_c68) lv st G E kc ks)) := rfl
theorem xz_68_32 : xm_run call xm_c68 nL mc ms ret Q (f + 1) (xm_drop 32 xm_c68) lv st G E kc ks = (bif Nat.beq 82 1006 || Nat.beq 82 1007 then xm_strl 82 st G (fun st => xm_run call xm_c68 nL mc ms ret Q f (xm_drop 33 xm_c68) lv st G E kc ks) else xm_call call mc ms 82 0 st G E kc ks (fun st G E kc ks => xm_run call xm_c68 nL mc ms ret Q f (xm_drop 33 xm_c68) lv st G E kc ks)) := rfl
theorem xz_68_33 : xm_run call xm_c68 nL mc ms ret Q (f + 1) (xm_drop 33 xm_c68) lv st G E kc ks = ((match xm_get lv 0 with
    | some w => bif xm_isA w then xm_run call xm_c68 nL mc ms ret Q f (xm_drop 34 xm_c68) lv (w :: st) G E kc ks else false
    | none => false)) := rfl
theorem xz_68_34 : xm_run call xm_c68 nL mc ms ret Q (f + 1) (xm_drop 34 xm_c68) lv st G E kc ks = ((match xm_get lv 1 with
    | some w => bif xm_isI w then xm_run call xm_c68 nL mc ms ret Q f (xm_drop 35 xm_c68) lv (w :: st) G E kc ks else false
    | none => false)) := rfl
theorem xz_68_35 : xm_run call xm_c68 nL mc ms ret Q (f + 1) (xm_drop 35 xm_c68) lv st G E kc ks = (xm_run call xm_c68 nL mc ms ret Q f (xm_drop 36 xm_c68) lv ((.int 1) :: st) G E kc ks) := rfl
theorem xz_68_36 : xm_run call xm_c68 nL mc ms ret Q (f + 1) (xm_drop 36 xm_c68) lv st G E kc ks = (xm_int2 .iadd st E (fun st E => xm_run call xm_c68 nL mc ms ret Q f (xm_drop 37 xm_c68) lv st G E kc ks)) := rfl
theorem xz_68_37 : xm_run call xm_c68 nL mc ms ret Q (f + 1) (xm_drop 37 xm_c68) lv st G E kc ks = (bif Nat.beq 68 1006 || Nat.beq 68 1007 then xm_strl 68 st G (fun st => xm_run call xm_c68 nL mc ms ret Q f (xm_drop 38 xm_c68) lv st G E kc ks) else xm_call call mc ms 68 0 st G E kc ks (fun st G E kc ks => xm_run call xm_c68 nL mc ms ret Q f (xm_drop 38 xm_c68) lv st G E kc ks)) := rfl
theorem xz_68_38 : xm_run call xm_c68 nL mc ms ret Q (f + 1) (xm_drop 38 xm_c68) lv st G E kc ks = ((match xm_get lv 0 with
    | some w => bif xm_isA w then xm_run call xm_c68 nL mc ms ret Q f (xm_drop 39 xm_c68) lv (w :: st) G E kc ks else false
    | none => false)) := rfl
theorem xz_68_39 : xm_run call xm_c68 nL mc ms ret Q (f + 1) (xm_drop 39 xm_c68) lv st G E kc ks = (xm_getf 7 1 st G (fun st => xm_run call xm_c68 nL mc ms ret Q f (xm_drop 40 xm_c68) lv st G E kc ks)) := rfl
theorem xz_68_40 : xm_run call xm_c68 nL mc ms ret Q (f + 1) (xm_drop 40 xm_c68) lv st G E kc ks = (xm_run call xm_c68 nL mc ms ret Q f (xm_drop 41 xm_c68) lv ((.int 14) :: st) G E kc ks) := rfl
theorem xz_68_41 : xm_run call xm_c68 nL mc ms ret Q (f + 1) (xm_drop 41 xm_c68) lv st G E kc ks = (xm_run call xm_c68 nL mc ms ret Q f (xm_drop 42 xm_c68) lv ((.int 0) :: st) G E kc ks) := rfl
theorem xz_68_42 : xm_run call xm_c68 nL mc ms ret Q (f + 1) (xm_drop 42 xm_c68) lv st G E kc ks = (bif Nat.beq 60 1006 || Nat.beq 60 1007 then xm_strl 60 st G (fun st => xm_run call xm_c68 nL mc ms ret Q f (xm_drop 43 xm_c68) lv st G E kc ks) else xm_call call mc ms 60 0 st G E kc ks (fun st G E kc ks => xm_run call xm_c68 nL mc ms ret Q f (xm_drop 43 xm_c68) lv st G E kc ks)) := rfl
theorem xz_68_43 : xm_run call xm_c68 nL mc ms ret Q (f + 1) (xm_drop 43 xm_c68) lv st G E kc ks = (xm_run call xm_c68 nL mc ms ret Q f (xm_drop 64 xm_c68) lv st G E kc ks) := rfl
theorem xz_68_44 : xm_run call xm_c68 nL mc ms ret Q (f + 1) (xm_drop 44 xm_c68) lv st G E kc ks = ((match xm_get lv 0 with
    | some w => bif xm_isA w then xm_run call xm_c68 nL mc ms ret Q f (xm_drop 45 xm_c68) lv (w :: st) G E kc ks else false
    | none => false)) := rfl
theorem xz_68_45 : xm_run call xm_c68 nL mc ms ret Q (f + 1) (xm_drop 45 xm_c68) lv st G E kc ks = (xm_getf 7 0 st G (fun st => xm_run call xm_c68 nL mc ms ret Q f (xm_drop 46 xm_c68) lv st G E kc ks)) := rfl
theorem xz_68_46 : xm_run call xm_c68 nL mc ms ret Q (f + 1) (xm_drop 46 xm_c68) lv st G E kc ks = (bif Nat.beq 82 1006 || Nat.beq 82 1007 then xm_strl 82 st G (fun st => xm_run call xm_c68 nL mc ms ret Q f (xm_drop 47 xm_c68) lv st G E kc ks) else xm_call call mc ms 82 0 st G E kc ks (fun st G E kc ks => xm_run call xm_c68 nL mc ms ret Q f (xm_drop 47 xm_c68) lv st G E kc ks)) := rfl
theorem xz_68_47 : xm_run call xm_c68 nL mc ms ret Q (f + 1) (xm_drop 47 xm_c68) lv st G E kc ks = ((match xm_get lv 0 with
    | some w => bif xm_isA w then xm_run call xm_c68 nL mc ms ret Q f (xm_drop 48 xm_c68) lv (w :: st) G E kc ks else false
    | none => false)) := rfl
theorem xz_68_48 : xm_run call xm_c68 nL mc ms ret Q (f + 1) (xm_drop 48 xm_c68) lv st G E kc ks = ((match xm_get lv 1 with
    | some w => bif xm_isI w then xm_run call xm_c68 nL mc ms ret Q f (xm_drop 49 xm_c68) lv (w :: st) G E kc ks else false
    | none => false)) := rfl
theorem xz_68_49 : xm_run call xm_c68 nL mc ms ret Q (f + 1) (xm_drop 49 xm_c68) lv st G E kc ks = (xm_run call xm_c68 nL mc ms ret Q f (xm_drop 50 xm_c68) lv ((.int 1) :: st) G E kc ks) := rfl
theorem xz_68_50 : xm_run call xm_c68 nL mc ms ret Q (f + 1) (xm_drop 50 xm_c68) lv st G E kc ks = (xm_int2 .iadd st E (fun st E => xm_run call xm_c68 nL mc ms ret Q f (xm_drop 51 xm_c68) lv st G E kc ks)) := rfl
theorem xz_68_51 : xm_run call xm_c68 nL mc ms ret Q (f + 1) (xm_drop 51 xm_c68) lv st G E kc ks = (bif Nat.beq 67 1006 || Nat.beq 67 1007 then xm_strl 67 st G (fun st => xm_run call xm_c68 nL mc ms ret Q f (xm_drop 52 xm_c68) lv st G E kc ks) else xm_call call mc ms 67 0 st G E kc ks (fun st G E kc ks => xm_run call xm_c68 nL mc ms ret Q f (xm_drop 52 xm_c68) lv st G E kc ks)) := rfl
theorem xz_68_52 : xm_run call xm_c68 nL mc ms ret Q (f + 1) (xm_drop 52 xm_c68) lv st G E kc ks = ((match xm_get lv 0 with
    | some w => bif xm_isA w then xm_run call xm_c68 nL mc ms ret Q f (xm_drop 53 xm_c68) lv (w :: st) G E kc ks else false
    | none => false)) := rfl
theorem xz_68_53 : xm_run call xm_c68 nL mc ms ret Q (f + 1) (xm_drop 53 xm_c68) lv st G E kc ks = (xm_getf 7 0 st G (fun st => xm_run call xm_c68 nL mc ms ret Q f (xm_drop 54 xm_c68) lv st G E kc ks)) := rfl
theorem xz_68_54 : xm_run call xm_c68 nL mc ms ret Q (f + 1) (xm_drop 54 xm_c68) lv st G E kc ks = (xm_getf 9 2 st G (fun st => xm_run call xm_c68 nL mc ms ret Q f (xm_drop 55 xm_c68) lv st G E kc ks)) := rfl
theorem xz_68_55 : xm_run call xm_c68 nL mc ms ret Q (f + 1) (xm_drop 55 xm_c68) lv st G E kc ks = (xm_run call xm_c68 nL mc ms ret Q f (xm_drop 56 xm_c68) lv ((.int 93) :: st) G E kc ks) := rfl
theorem xz_68_56 : xm_run call xm_c68 nL mc ms ret Q (f + 1) (xm_drop 56 xm_c68) lv st G E kc ks = ((match st with
    | w :: u :: st => xm_cmpI E u w (fun E s => bif xm_holds .eq s then xm_run call xm_c68 nL mc ms ret Q f (xm_drop 61 xm_c68) lv st G E kc ks else xm_run call xm_c68 nL mc ms ret Q f (xm_drop 57 xm_c68) lv st G E kc ks)
    | _ => false)) := rfl
theorem xz_68_57 : xm_run call xm_c68 nL mc ms ret Q (f + 1) (xm_drop 57 xm_c68) lv st G E kc ks = ((match xm_get lv 0 with
    | some w => bif xm_isA w then xm_run call xm_c68 nL mc ms ret Q f (xm_drop 58 xm_c68) lv (w :: st) G E kc ks else false
    | none => false)) := rfl
theorem xz_68_58 : xm_run call xm_c68 nL mc ms ret Q (f + 1) (xm_drop 58 xm_c68) lv st G E kc ks = (xm_getf 7 0 st G (fun st => xm_run call xm_c68 nL mc ms ret Q f (xm_drop 59 xm_c68) lv st G E kc ks)) := rfl
theorem xz_68_59 : xm_run call xm_c68 nL mc ms ret Q (f + 1) (xm_drop 59 xm_c68) lv st G E kc ks = (xm_run call xm_c68 nL mc ms ret Q f (xm_drop 60 xm_c68) lv ((.int 0) :: st) G E kc ks) := rfl
theorem xz_68_60 : xm_run call xm_c68 nL mc ms ret Q (f + 1) (xm_drop 60 xm_c68) lv st G E kc ks = (bif Nat.beq 81 1006 || Nat.beq 81 1007 then xm_strl 81 st G (fun st => xm_run call xm_c68 nL mc ms ret Q f (xm_drop 61 xm_c68) lv st G E kc ks) else xm_call call mc ms 81 0 st G E kc ks (fun st G E kc ks => xm_run call xm_c68 nL mc ms ret Q f (xm_drop 61 xm_c68) lv st G E kc ks)) := rfl
theorem xz_68_61 : xm_run call xm_c68 nL mc ms ret Q (f + 1) (xm_drop 61 xm_c68) lv st G E kc ks = ((match xm_get lv 0 with
    | some w => bif xm_isA w then xm_run call xm_c68 nL mc ms ret Q f (xm_drop 62 xm_c68) lv (w :: st) G E kc ks else false
    | none => false)) := rfl
theorem xz_68_62 : xm_run call xm_c68 nL mc ms ret Q (f + 1) (xm_drop 62 xm_c68) lv st G E kc ks = (xm_getf 7 0 st G (fun st => xm_run call xm_c68 nL mc ms ret Q f (xm_drop 63 xm_c68) lv st G E kc ks)) := rfl
theorem xz_68_63 : xm_run call xm_c68 nL mc ms ret Q (f + 1) (xm_drop 63 xm_c68) lv st G E kc ks = (bif Nat.beq 82 1006 || Nat.beq 82 1007 then xm_strl 82 st G (fun st => xm_run call xm_c68 nL mc ms ret Q f (xm_drop 64 xm_c68) lv st G E kc ks) else xm_call call mc ms 82 0 st G E kc ks (fun st G E kc ks => xm_run call xm_c68 nL mc ms ret Q f (xm_drop 64 xm_c68) lv st G E kc ks)) := rfl
theorem xz_68_64 : xm_run call xm_c68 nL mc ms ret Q (f + 1) (xm_drop 64 xm_c68) lv st G E kc ks = ((match st with
    | [] => bif ret.isNone && (Nat.ble kc mc && Nat.ble ks ms) then Q none G E else false
    | _ => false)) := rfl
theorem xz_69_0 : xm_run call xm_c69 nL mc ms ret Q (f + 1) (xm_drop 0 xm_c69) lv st G E kc ks = ((match xm_get lv 0 with
    | some w => bif xm_isA w then xm_run call xm_c69 nL mc ms ret Q f (xm_drop 1 xm_c69) lv (w :: st) G E kc ks else false
    | none => false)) := rfl
theorem xz_69_1 : xm_run call xm_c69 nL mc ms ret Q (f + 1) (xm_drop 1 xm_c69) lv st G E kc ks = (bif Nat.beq 71 1006 || Nat.beq 71 1007 then xm_strl 71 st G (fun st => xm_run call xm_c69 nL mc ms ret Q f (xm_drop 2 xm_c69) lv st G E kc ks) else xm_call call mc ms 71 0 st G E kc ks (fun st G E kc ks => xm_run call xm_c69 nL mc ms ret Q f (xm_drop 2 xm_c69) lv st G E kc ks)) := rfl
theorem xz_69_2 : xm_run call xm_c69 nL mc ms ret Q (f + 1) (xm_drop 2 xm_c69) lv st G E kc ks = ((match xm_get lv 0 with
    | some w => bif xm_isA w then xm_run call xm_c69 nL mc ms ret Q f (xm_drop 3 xm_c69) lv (w :: st) G E kc ks else false
    | none => false)) := rfl
theorem xz_69_3 : xm_run call xm_c69 nL mc ms ret Q (f + 1) (xm_drop 3 xm_c69) lv st G E kc ks = (xm_getf 7 0 st G (fun st => xm_run call xm_c69 nL mc ms ret Q f (xm_drop 4 xm_c69) lv st G E kc ks)) := rfl
theorem xz_69_4 : xm_run call xm_c69 nL mc ms ret Q (f + 1) (xm_drop 4 xm_c69) lv st G E kc ks = (xm_getf 9 2 st G (fun st => xm_run call xm_c69 nL mc ms ret Q f (xm_drop 5 xm_c69) lv st G E kc ks)) := rfl
theorem xz_69_5 : xm_run call xm_c69 nL mc ms ret Q (f + 1) (xm_drop 5 xm_c69) lv st G E kc ks = (bif Nat.beq 70 1001 then xm_acopy st G (fun st G => xm_run call xm_c69 nL mc ms ret Q f (xm_drop 6 xm_c69) lv st G E kc ks) else bif Nat.beq 70 1003 || (Nat.beq 70 1004 || Nat.beq 70 1005) then xm_math 70 st (fun st => xm_run call xm_c69 nL mc ms ret Q f (xm_drop 6 xm_c69) lv st G E kc ks) else bif Nat.beq 1 3 then xm_call call mc ms 70 3 st G E kc ks (fun st G E kc ks => xm_run call xm_c69 nL mc ms ret Q f (xm_drop 6 xm_c69) lv st G E kc ks) else xm_call call mc ms 70 1 st G E kc ks (fun st G E kc ks => xm_run call xm_c69 nL mc ms ret Q f (xm_drop 6 xm_c69) lv st G E kc ks)) := rfl
theorem xz_69_6 : xm_run call xm_c69 nL mc ms ret Q (f + 1) (xm_drop 6 xm_c69) lv st G E kc ks = ((match st with
    | w :: st => bif xm_isI w && Nat.blt 1 nL then xm_run call xm_c69 nL mc ms ret Q f (xm_drop 7 xm_c69) (xm_set1 lv 1 w) st G E kc ks else false
    | _ => false)) := rfl
theorem xz_69_7 : xm_run call xm_c69 nL mc ms ret Q (f + 1) (xm_drop 7 xm_c69) lv st G E kc ks = ((match xm_get lv 1 with
    | some w => bif xm_isI w then xm_run call xm_c69 nL mc ms ret Q f (xm_drop 8 xm_c69) lv (w :: st) G E kc ks else false
    | none => false)) := rfl
theorem xz_69_8 : xm_run call xm_c69 nL mc ms ret Q (f + 1) (xm_drop 8 xm_c69) lv st G E kc ks = (xm_run call xm_c69 nL mc ms ret Q f (xm_drop 9 xm_c69) lv ((.int (-1)) :: st) G E kc ks) := rfl
theorem xz_69_9 : xm_run call xm_c69 nL mc ms ret Q (f + 1) (xm_drop 9 xm_c69) lv st G E kc ks = ((match st with
    | w :: u :: st => xm_cmpI E u w (fun E s => bif xm_holds .ne s then xm_run call xm_c69 nL mc ms ret Q f (xm_drop 15 xm_c69) lv st G E kc ks else xm_run call xm_c69 nL mc ms ret Q f (xm_drop 10 xm_c69) lv st G E kc ks)
    | _ => false)) := rfl
theorem xz_69_10 : xm_run call xm_c69 nL mc ms ret Q (f + 1) (xm_drop 10 xm_c69) lv st G E kc ks = ((match xm_get lv 0 with
    | some w => bif xm_isA w then xm_run call xm_c69 nL mc ms ret Q f (xm_drop 11 xm_c69) lv (w :: st) G E kc ks else false
    | none => false)) := rfl
theorem xz_69_11 : xm_run call xm_c69 nL mc ms ret Q (f + 1) (xm_drop 11 xm_c69) lv st G E kc ks = (xm_getf 7 0 st G (fun st => xm_run call xm_c69 nL mc ms ret Q f (xm_drop 12 xm_c69) lv st G E kc ks)) := rfl
theorem xz_69_12 : xm_run call xm_c69 nL mc ms ret Q (f + 1) (xm_drop 12 xm_c69) lv st G E kc ks = (xm_run call xm_c69 nL mc ms ret Q f (xm_drop 13 xm_c69) lv ((.int 0) :: st) G E kc ks) := rfl
theorem xz_69_13 : xm_run call xm_c69 nL mc ms ret Q (f + 1) (xm_drop 13 xm_c69) lv st G E kc ks = (bif Nat.beq 81 1006 || Nat.beq 81 1007 then xm_strl 81 st G (fun st => xm_run call xm_c69 nL mc ms ret Q f (xm_drop 14 xm_c69) lv st G E kc ks) else xm_call call mc ms 81 0 st G E kc ks (fun st G E kc ks => xm_run call xm_c69 nL mc ms ret Q f (xm_drop 14 xm_c69) lv st G E kc ks)) := rfl
theorem xz_69_14 : xm_run call xm_c69 nL mc ms ret Q (f + 1) (xm_drop 14 xm_c69) lv st G E kc ks = (xm_run call xm_c69 nL mc ms ret Q f (xm_drop 23 xm_c69) lv st G E kc ks) := rfl
theorem xz_69_15 : xm_run call xm_c69 nL mc ms ret Q (f + 1) (xm_drop 15 xm_c69) lv st G E kc ks = ((match xm_get lv 0 with
    | some w => bif xm_isA w then xm_run call xm_c69 nL mc ms ret Q f (xm_drop 16 xm_c69) lv (w :: st) G E kc ks else false
    | none => false)) := rfl
theorem xz_69_16 : xm_run call xm_c69 nL mc ms ret Q (f + 1) (xm_drop 16 xm_c69) lv st G E kc ks = (xm_getf 7 2 st G (fun st => xm_run call xm_c69 nL mc ms ret Q f (xm_drop 17 xm_c69) lv st G E kc ks)) := rfl
theorem xz_69_17 : xm_run call xm_c69 nL mc ms ret Q (f + 1) (xm_drop 17 xm_c69) lv st G E kc ks = (xm_run call xm_c69 nL mc ms ret Q f (xm_drop 18 xm_c69) lv ((.int 60) :: st) G E kc ks) := rfl
theorem xz_69_18 : xm_run call xm_c69 nL mc ms ret Q (f + 1) (xm_drop 18 xm_c69) lv st G E kc ks = ((match st with
    | w :: u :: st => xm_cmpI E u w (fun E s => bif xm_holds .lt s then xm_run call xm_c69 nL mc ms ret Q f (xm_drop 23 xm_c69) lv st G E kc ks else xm_run call xm_c69 nL mc ms ret Q f (xm_drop 19 xm_c69) lv st G E kc ks)
    | _ => false)) := rfl
theorem xz_69_19 : xm_run call xm_c69 nL mc ms ret Q (f + 1) (xm_drop 19 xm_c69) lv st G E kc ks = ((match xm_get lv 0 with
    | some w => bif xm_isA w then xm_run call xm_c69 nL mc ms ret Q f (xm_drop 20 xm_c69) lv (w :: st) G E kc ks else false
    | none => false)) := rfl
theorem xz_69_20 : xm_run call xm_c69 nL mc ms ret Q (f + 1) (xm_drop 20 xm_c69) lv st G E kc ks = (xm_getf 7 0 st G (fun st => xm_run call xm_c69 nL mc ms ret Q f (xm_drop 21 xm_c69) lv st G E kc ks)) := rfl
theorem xz_69_21 : xm_run call xm_c69 nL mc ms ret Q (f + 1) (xm_drop 21 xm_c69) lv st G E kc ks = (xm_run call xm_c69 nL mc ms ret Q f (xm_drop 22 xm_c69) lv ((.int 3) :: st) G E kc ks) := rfl
theorem xz_69_22 : xm_run call xm_c69 nL mc ms ret Q (f + 1) (xm_drop 22 xm_c69) lv st G E kc ks = (bif Nat.beq 81 1006 || Nat.beq 81 1007 then xm_strl 81 st G (fun st => xm_run call xm_c69 nL mc ms ret Q f (xm_drop 23 xm_c69) lv st G E kc ks) else xm_call call mc ms 81 0 st G E kc ks (fun st G E kc ks => xm_run call xm_c69 nL mc ms ret Q f (xm_drop 23 xm_c69) lv st G E kc ks)) := rfl
theorem xz_69_23 : xm_run call xm_c69 nL mc ms ret Q (f + 1) (xm_drop 23 xm_c69) lv st G E kc ks = ((match xm_get lv 0 with
    | some w => bif xm_isA w then xm_run call xm_c69 nL mc ms ret Q f (xm_drop 24 xm_c69) lv (w :: st) G E kc ks else false
    | none => false)) := rfl
theorem xz_69_24 : xm_run call xm_c69 nL mc ms ret Q (f + 1) (xm_drop 24 xm_c69) lv st G E kc ks = ((match st with
    | w :: st => bif xm_cat1 w then xm_run call xm_c69 nL mc ms ret Q f (xm_drop 25 xm_c69) lv (w :: w :: st) G E kc ks else false
    | _ => false)) := rfl
theorem xz_69_25 : xm_run call xm_c69 nL mc ms ret Q (f + 1) (xm_drop 25 xm_c69) lv st G E kc ks = (xm_getf 7 2 st G (fun st => xm_run call xm_c69 nL mc ms ret Q f (xm_drop 26 xm_c69) lv st G E kc ks)) := rfl
theorem xz_69_26 : xm_run call xm_c69 nL mc ms ret Q (f + 1) (xm_drop 26 xm_c69) lv st G E kc ks = (xm_run call xm_c69 nL mc ms ret Q f (xm_drop 27 xm_c69) lv ((.int 1) :: st) G E kc ks) := rfl
theorem xz_69_27 : xm_run call xm_c69 nL mc ms ret Q (f + 1) (xm_drop 27 xm_c69) lv st G E kc ks = (xm_int2 .iadd st E (fun st E => xm_run call xm_c69 nL mc ms ret Q f (xm_drop 28 xm_c69) lv st G E kc ks)) := rfl
theorem xz_69_28 : xm_run call xm_c69 nL mc ms ret Q (f + 1) (xm_drop 28 xm_c69) lv st G E kc ks = (xm_putf 7 2 st G (fun st G => xm_run call xm_c69 nL mc ms ret Q f (xm_drop 29 xm_c69) lv st G E kc ks)) := rfl
theorem xz_69_29 : xm_run call xm_c69 nL mc ms ret Q (f + 1) (xm_drop 29 xm_c69) lv st G E kc ks = ((match xm_get lv 0 with
    | some w => bif xm_isA w then xm_run call xm_c69 nL mc ms ret Q f (xm_drop 30 xm_c69) lv (w :: st) G E kc ks else false
    | none => false)) := rfl
theorem xz_69_30 : xm_run call xm_c69 nL mc ms ret Q (f + 1) (xm_drop 30 xm_c69) lv st G E kc ks = (xm_getf 7 0 st G (fun st => xm_run call xm_c69 nL mc ms ret Q f (xm_drop 31 xm_c69) lv st G E kc ks)) := rfl
theorem xz_69_31 : xm_run call xm_c69 nL mc ms ret Q (f + 1) (xm_drop 31 xm_c69) lv st G E kc ks = (bif Nat.beq 82 1006 || Nat.beq 82 1007 then xm_strl 82 st G (fun st => xm_run call xm_c69 nL mc ms ret Q f (xm_drop 32 xm_c69) lv st G E kc ks) else xm_call call mc ms 82 0 st G E kc ks (fun st G E kc ks => xm_run call xm_c69 nL mc ms ret Q f (xm_drop 32 xm_c69) lv st G E kc ks)) := rfl
theorem xz_69_32 : xm_run call xm_c69 nL mc ms ret Q (f + 1) (xm_drop 32 xm_c69) lv st G E kc ks = ((match xm_get lv 0 with
    | some w => bif xm_isA w then xm_run call xm_c69 nL mc ms ret Q f (xm_drop 33 xm_c69) lv (w :: st) G E kc ks else false
    | none => false)) := rfl
theorem xz_69_33 : xm_run call xm_c69 nL mc ms ret Q (f + 1) (xm_drop 33 xm_c69) lv st G E kc ks = (bif Nat.beq 71 1006 || Nat.beq 71 1007 then xm_strl 71 st G (fun st => xm_run call xm_c69 nL mc ms ret Q f (xm_drop 34 xm_c69) lv st G E kc ks) else xm_call call mc ms 71 0 st G E kc ks (fun st G E kc ks => xm_run call xm_c69 nL mc ms ret Q f (xm_drop 34 xm_c69) lv st G E kc ks)) := rfl
theorem xz_69_34 : xm_run call xm_c69 nL mc ms ret Q (f + 1) (xm_drop 34 xm_c69) lv st G E kc ks = ((match xm_get lv 0 with
    | some w => bif xm_isA w then xm_run call xm_c69 nL mc ms ret Q f (xm_drop 35 xm_c69) lv (w :: st) G E kc ks else false
    | none => false)) := rfl
theorem xz_69_35 : xm_run call xm_c69 nL mc ms ret Q (f + 1) (xm_drop 35 xm_c69) lv st G E kc ks = (xm_getf 7 1 st G (fun st => xm_run call xm_c69 nL mc ms ret Q f (xm_drop 36 xm_c69) lv st G E kc ks)) := rfl
theorem xz_69_36 : xm_run call xm_c69 nL mc ms ret Q (f + 1) (xm_drop 36 xm_c69) lv st G E kc ks = ((match xm_get lv 1 with
    | some w => bif xm_isI w then xm_run call xm_c69 nL mc ms ret Q f (xm_drop 37 xm_c69) lv (w :: st) G E kc ks else false
    | none => false)) := rfl
theorem xz_69_37 : xm_run call xm_c69 nL mc ms ret Q (f + 1) (xm_drop 37 xm_c69) lv st G E kc ks = (xm_run call xm_c69 nL mc ms ret Q f (xm_drop 38 xm_c69) lv ((.int 0) :: st) G E kc ks) := rfl
theorem xz_69_38 : xm_run call xm_c69 nL mc ms ret Q (f + 1) (xm_drop 38 xm_c69) lv st G E kc ks = (bif Nat.beq 60 1006 || Nat.beq 60 1007 then xm_strl 60 st G (fun st => xm_run call xm_c69 nL mc ms ret Q f (xm_drop 39 xm_c69) lv st G E kc ks) else xm_call call mc ms 60 0 st G E kc ks (fun st G E kc ks => xm_run call xm_c69 nL mc ms ret Q f (xm_drop 39 xm_c69) lv st G E kc ks)) := rfl
theorem xz_69_39 : xm_run call xm_c69 nL mc ms ret Q (f + 1) (xm_drop 39 xm_c69) lv st G E kc ks = ((match st with
    | [] => bif ret.isNone && (Nat.ble kc mc && Nat.ble ks ms) then Q none G E else false
    | _ => false)) := rfl
theorem xz_70_0 : xm_run call xm_c70 nL mc ms ret Q (f + 1) (xm_drop 0 xm_c70) lv st G E kc ks = ((match xm_get lv 0 with
    | some w => bif xm_isI w then xm_run call xm_c70 nL mc ms ret Q f (xm_drop 1 xm_c70) lv (w :: st) G E kc ks else false
    | none => false)) := rfl
theorem xz_70_1 : xm_run call xm_c70 nL mc ms ret Q (f + 1) (xm_drop 1 xm_c70) lv st G E kc ks = ((match st with
    | .int x :: st => xm_run call xm_c70 nL mc ms ret Q f (xm_drop (xm_look 12 (#[(60, 51), (61, 57), (62, 63), (256, 54), (257, 60)] : Array (Int × Int)).toList [2, 6, 10, 4, 8] x.toInt) xm_c70) lv st G E kc ks
    | _ => false)) := rfl
theorem xz_70_2 : xm_run call xm_c70 nL mc ms ret Q (f + 1) (xm_drop 2 xm_c70) lv st G E kc ks = (xm_run call xm_c70 nL mc ms ret Q f (xm_drop 3 xm_c70) lv ((.int 7) :: st) G E kc ks) := rfl
theorem xz_70_3 : xm_run call xm_c70 nL mc ms ret Q (f + 1) (xm_drop 3 xm_c70) lv st G E kc ks = ((match st with
    | [w] => bif xm_isI w && (xm_rok ret w && (Nat.ble kc mc && Nat.ble ks ms)) then Q (some w) G E else false
    | _ => false)) := rfl
theorem xz_70_4 : xm_run call xm_c70 nL mc ms ret Q (f + 1) (xm_drop 4 xm_c70) lv st G E kc ks = (xm_run call xm_c70 nL mc ms ret Q f (xm_drop 5 xm_c70) lv ((.int 8) :: st) G E kc ks) := rfl
theorem xz_70_5 : xm_run call xm_c70 nL mc ms ret Q (f + 1) (xm_drop 5 xm_c70) lv st G E kc ks = ((match st with
    | [w] => bif xm_isI w && (xm_rok ret w && (Nat.ble kc mc && Nat.ble ks ms)) then Q (some w) G E else false
    | _ => false)) := rfl
theorem xz_70_6 : xm_run call xm_c70 nL mc ms ret Q (f + 1) (xm_drop 6 xm_c70) lv st G E kc ks = (xm_run call xm_c70 nL mc ms ret Q f (xm_drop 7 xm_c70) lv ((.int 9) :: st) G E kc ks) := rfl
theorem xz_70_7 : xm_run call xm_c70 nL mc ms ret Q (f + 1) (xm_drop 7 xm_c70) lv st G E kc ks = ((match st with
    | [w] => bif xm_isI w && (xm_rok ret w && (Nat.ble kc mc && Nat.ble ks ms)) then Q (some w) G E else false
    | _ => false)) := rfl
theorem xz_70_8 : xm_run call xm_c70 nL mc ms ret Q (f + 1) (xm_drop 8 xm_c70) lv st G E kc ks = (xm_run call xm_c70 nL mc ms ret Q f (xm_drop 9 xm_c70) lv ((.int 10) :: st) G E kc ks) := rfl
theorem xz_70_9 : xm_run call xm_c70 nL mc ms ret Q (f + 1) (xm_drop 9 xm_c70) lv st G E kc ks = ((match st with
    | [w] => bif xm_isI w && (xm_rok ret w && (Nat.ble kc mc && Nat.ble ks ms)) then Q (some w) G E else false
    | _ => false)) := rfl
theorem xz_70_10 : xm_run call xm_c70 nL mc ms ret Q (f + 1) (xm_drop 10 xm_c70) lv st G E kc ks = (xm_run call xm_c70 nL mc ms ret Q f (xm_drop 11 xm_c70) lv ((.int 11) :: st) G E kc ks) := rfl
theorem xz_70_11 : xm_run call xm_c70 nL mc ms ret Q (f + 1) (xm_drop 11 xm_c70) lv st G E kc ks = ((match st with
    | [w] => bif xm_isI w && (xm_rok ret w && (Nat.ble kc mc && Nat.ble ks ms)) then Q (some w) G E else false
    | _ => false)) := rfl
theorem xz_70_12 : xm_run call xm_c70 nL mc ms ret Q (f + 1) (xm_drop 12 xm_c70) lv st G E kc ks = (xm_run call xm_c70 nL mc ms ret Q f (xm_drop 13 xm_c70) lv ((.int (-1)) :: st) G E kc ks) := rfl
theorem xz_70_13 : xm_run call xm_c70 nL mc ms ret Q (f + 1) (xm_drop 13 xm_c70) lv st G E kc ks = ((match st with
    | [w] => bif xm_isI w && (xm_rok ret w && (Nat.ble kc mc && Nat.ble ks ms)) then Q (some w) G E else false
    | _ => false)) := rfl
theorem xz_71_0 : xm_run call xm_c71 nL mc ms ret Q (f + 1) (xm_drop 0 xm_c71) lv st G E kc ks = ((match xm_get lv 0 with
    | some w => bif xm_isA w then xm_run call xm_c71 nL mc ms ret Q f (xm_drop 1 xm_c71) lv (w :: st) G E kc ks else false
    | none => false)) := rfl
theorem xz_71_1 : xm_run call xm_c71 nL mc ms ret Q (f + 1) (xm_drop 1 xm_c71) lv st G E kc ks = (bif Nat.beq 73 1006 || Nat.beq 73 1007 then xm_strl 73 st G (fun st => xm_run call xm_c71 nL mc ms ret Q f (xm_drop 2 xm_c71) lv st G E kc ks) else xm_call call mc ms 73 0 st G E kc ks (fun st G E kc ks => xm_run call xm_c71 nL mc ms ret Q f (xm_drop 2 xm_c71) lv st G E kc ks)) := rfl
theorem xz_71_2 : xm_run call xm_c71 nL mc ms ret Q (f + 1) (xm_drop 2 xm_c71) lv st G E kc ks = (xm_run call xm_c71 nL mc ms ret Q f (xm_drop 3 xm_c71) lv ((.int (-1)) :: st) G E kc ks) := rfl
theorem xz_71_3 : xm_run call xm_c71 nL mc ms ret Q (f + 1) (xm_drop 3 xm_c71) lv st G E kc ks = ((match st with
    | w :: st => bif xm_isI w && Nat.blt 1 nL then xm_run call xm_c71 nL mc ms ret Q f (xm_drop 4 xm_c71) (xm_set1 lv 1 w) st G E kc ks else false
    | _ => false)) := rfl
theorem xz_71_4 : xm_run call xm_c71 nL mc ms ret Q (f + 1) (xm_drop 4 xm_c71) lv st G E kc ks = ((match xm_get lv 0 with
    | some w => bif xm_isA w then xm_run call xm_c71 nL mc ms ret Q f (xm_drop 5 xm_c71) lv (w :: st) G E kc ks else false
    | none => false)) := rfl
theorem xz_71_5 : xm_run call xm_c71 nL mc ms ret Q (f + 1) (xm_drop 5 xm_c71) lv st G E kc ks = (xm_getf 7 0 st G (fun st => xm_run call xm_c71 nL mc ms ret Q f (xm_drop 6 xm_c71) lv st G E kc ks)) := rfl
theorem xz_71_6 : xm_run call xm_c71 nL mc ms ret Q (f + 1) (xm_drop 6 xm_c71) lv st G E kc ks = (xm_getf 9 2 st G (fun st => xm_run call xm_c71 nL mc ms ret Q f (xm_drop 7 xm_c71) lv st G E kc ks)) := rfl
theorem xz_71_7 : xm_run call xm_c71 nL mc ms ret Q (f + 1) (xm_drop 7 xm_c71) lv st G E kc ks = (bif Nat.beq 72 1001 then xm_acopy st G (fun st G => xm_run call xm_c71 nL mc ms ret Q f (xm_drop 8 xm_c71) lv st G E kc ks) else bif Nat.beq 72 1003 || (Nat.beq 72 1004 || Nat.beq 72 1005) then xm_math 72 st (fun st => xm_run call xm_c71 nL mc ms ret Q f (xm_drop 8 xm_c71) lv st G E kc ks) else bif Nat.beq 1 3 then xm_call call mc ms 72 3 st G E kc ks (fun st G E kc ks => xm_run call xm_c71 nL mc ms ret Q f (xm_drop 8 xm_c71) lv st G E kc ks) else xm_call call mc ms 72 1 st G E kc ks (fun st G E kc ks => xm_run call xm_c71 nL mc ms ret Q f (xm_drop 8 xm_c71) lv st G E kc ks)) := rfl
theorem xz_71_8 : xm_run call xm_c71 nL mc ms ret Q (f + 1) (xm_drop 8 xm_c71) lv st G E kc ks = ((match st with
    | w :: st => bif xm_isI w && Nat.blt 2 nL then xm_run call xm_c71 nL mc ms ret Q f (xm_drop 9 xm_c71) (xm_set1 lv 2 w) st G E kc ks else false
    | _ => false)) := rfl
theorem xz_71_9 : xm_run call xm_c71 nL mc ms ret Q (f + 1) (xm_drop 9 xm_c71) lv st G E kc ks = (xm_run call xm_c71 nL mc ms ret Q f (xm_drop 10 xm_c71) lv ((.int 0) :: st) G E kc ks) := rfl
theorem xz_71_10 : xm_run call xm_c71 nL mc ms ret Q (f + 1) (xm_drop 10 xm_c71) lv st G E kc ks = ((match st with
    | w :: st => bif xm_isI w && Nat.blt 3 nL then xm_run call xm_c71 nL mc ms ret Q f (xm_drop 11 xm_c71) (xm_set1 lv 3 w) st G E kc ks else false
    | _ => false)) := rfl
theorem xz_71_11 : xm_run call xm_c71 nL mc ms ret Q (f + 1) (xm_drop 11 xm_c71) lv st G E kc ks = ((match xm_get lv 3 with
    | some w => bif xm_isI w then xm_run call xm_c71 nL mc ms ret Q f (xm_drop 12 xm_c71) lv (w :: st) G E kc ks else false
    | none => false)) := rfl
theorem xz_71_12 : xm_run call xm_c71 nL mc ms ret Q (f + 1) (xm_drop 12 xm_c71) lv st G E kc ks = (xm_run call xm_c71 nL mc ms ret Q f (xm_drop 13 xm_c71) lv ((.int 400) :: st) G E kc ks) := rfl
theorem xz_71_13 : xm_run call xm_c71 nL mc ms ret Q (f + 1) (xm_drop 13 xm_c71) lv st G E kc ks = ((match st with
    | w :: u :: st => xm_cmpI E u w (fun E s => bif xm_holds .ge s then xm_run call xm_c71 nL mc ms ret Q f (xm_drop 59 xm_c71) lv st G E kc ks else xm_run call xm_c71 nL mc ms ret Q f (xm_drop 14 xm_c71) lv st G E kc ks)
    | _ => false)) := rfl
theorem xz_71_14 : xm_run call xm_c71 nL mc ms ret Q (f + 1) (xm_drop 14 xm_c71) lv st G E kc ks = ((match xm_get lv 2 with
    | some w => bif xm_isI w then xm_run call xm_c71 nL mc ms ret Q f (xm_drop 15 xm_c71) lv (w :: st) G E kc ks else false
    | none => false)) := rfl
theorem xz_71_15 : xm_run call xm_c71 nL mc ms ret Q (f + 1) (xm_drop 15 xm_c71) lv st G E kc ks = (xm_run call xm_c71 nL mc ms ret Q f (xm_drop 16 xm_c71) lv ((.int (-1)) :: st) G E kc ks) := rfl
theorem xz_71_16 : xm_run call xm_c71 nL mc ms ret Q (f + 1) (xm_drop 16 xm_c71) lv st G E kc ks = ((match st with
    | w :: u :: st => xm_cmpI E u w (fun E s => bif xm_holds .eq s then xm_run call xm_c71 nL mc ms ret Q f (xm_drop 59 xm_c71) lv st G E kc ks else xm_run call xm_c71 nL mc ms ret Q f (xm_drop 17 xm_c71) lv st G E kc ks)
    | _ => false)) := rfl
theorem xz_71_17 : xm_run call xm_c71 nL mc ms ret Q (f + 1) (xm_drop 17 xm_c71) lv st G E kc ks = ((match xm_get lv 2 with
    | some w => bif xm_isI w then xm_run call xm_c71 nL mc ms ret Q f (xm_drop 18 xm_c71) lv (w :: st) G E kc ks else false
    | none => false)) := rfl
theorem xz_71_18 : xm_run call xm_c71 nL mc ms ret Q (f + 1) (xm_drop 18 xm_c71) lv st G E kc ks = (xm_run call xm_c71 nL mc ms ret Q f (xm_drop 19 xm_c71) lv ((.int 2) :: st) G E kc ks) := rfl
theorem xz_71_19 : xm_run call xm_c71 nL mc ms ret Q (f + 1) (xm_drop 19 xm_c71) lv st G E kc ks = ((match st with
    | w :: u :: st => xm_cmpI E u w (fun E s => bif xm_holds .eq s then xm_run call xm_c71 nL mc ms ret Q f (xm_drop 23 xm_c71) lv st G E kc ks else xm_run call xm_c71 nL mc ms ret Q f (xm_drop 20 xm_c71) lv st G E kc ks)
    | _ => false)) := rfl
theorem xz_71_20 : xm_run call xm_c71 nL mc ms ret Q (f + 1) (xm_drop 20 xm_c71) lv st G E kc ks = ((match xm_get lv 2 with
    | some w => bif xm_isI w then xm_run call xm_c71 nL mc ms ret Q f (xm_drop 21 xm_c71) lv (w :: st) G E kc ks else false
    | none => false)) := rfl
theorem xz_71_21 : xm_run call xm_c71 nL mc ms ret Q (f + 1) (xm_drop 21 xm_c71) lv st G E kc ks = (xm_run call xm_c71 nL mc ms ret Q f (xm_drop 22 xm_c71) lv ((.int 3) :: st) G E kc ks) := rfl
theorem xz_71_22 : xm_run call xm_c71 nL mc ms ret Q (f + 1) (xm_drop 22 xm_c71) lv st G E kc ks = ((match st with
    | w :: u :: st => xm_cmpI E u w (fun E s => bif xm_holds .ne s then xm_run call xm_c71 nL mc ms ret Q f (xm_drop 25 xm_c71) lv st G E kc ks else xm_run call xm_c71 nL mc ms ret Q f (xm_drop 23 xm_c71) lv st G E kc ks)
    | _ => false)) := rfl
theorem xz_71_23 : xm_run call xm_c71 nL mc ms ret Q (f + 1) (xm_drop 23 xm_c71) lv st G E kc ks = (xm_run call xm_c71 nL mc ms ret Q f (xm_drop 24 xm_c71) lv ((.int 1) :: st) G E kc ks) := rfl
theorem xz_71_24 : xm_run call xm_c71 nL mc ms ret Q (f + 1) (xm_drop 24 xm_c71) lv st G E kc ks = (xm_run call xm_c71 nL mc ms ret Q f (xm_drop 26 xm_c71) lv st G E kc ks) := rfl
theorem xz_71_25 : xm_run call xm_c71 nL mc ms ret Q (f + 1) (xm_drop 25 xm_c71) lv st G E kc ks = (xm_run call xm_c71 nL mc ms ret Q f (xm_drop 26 xm_c71) lv ((.int 0) :: st) G E kc ks) := rfl
theorem xz_71_26 : xm_run call xm_c71 nL mc ms ret Q (f + 1) (xm_drop 26 xm_c71) lv st G E kc ks = ((match st with
    | w :: st => bif xm_isI w && Nat.blt 4 nL then xm_run call xm_c71 nL mc ms ret Q f (xm_drop 27 xm_c71) (xm_set1 lv 4 w) st G E kc ks else false
    | _ => false)) := rfl
theorem xz_71_27 : xm_run call xm_c71 nL mc ms ret Q (f + 1) (xm_drop 27 xm_c71) lv st G E kc ks = ((match xm_get lv 0 with
    | some w => bif xm_isA w then xm_run call xm_c71 nL mc ms ret Q f (xm_drop 28 xm_c71) lv (w :: st) G E kc ks else false
    | none => false)) := rfl
theorem xz_71_28 : xm_run call xm_c71 nL mc ms ret Q (f + 1) (xm_drop 28 xm_c71) lv st G E kc ks = (xm_getf 7 0 st G (fun st => xm_run call xm_c71 nL mc ms ret Q f (xm_drop 29 xm_c71) lv st G E kc ks)) := rfl
theorem xz_71_29 : xm_run call xm_c71 nL mc ms ret Q (f + 1) (xm_drop 29 xm_c71) lv st G E kc ks = (bif Nat.beq 82 1006 || Nat.beq 82 1007 then xm_strl 82 st G (fun st => xm_run call xm_c71 nL mc ms ret Q f (xm_drop 30 xm_c71) lv st G E kc ks) else xm_call call mc ms 82 0 st G E kc ks (fun st G E kc ks => xm_run call xm_c71 nL mc ms ret Q f (xm_drop 30 xm_c71) lv st G E kc ks)) := rfl
theorem xz_71_30 : xm_run call xm_c71 nL mc ms ret Q (f + 1) (xm_drop 30 xm_c71) lv st G E kc ks = ((match xm_get lv 4 with
    | some w => bif xm_isI w then xm_run call xm_c71 nL mc ms ret Q f (xm_drop 31 xm_c71) lv (w :: st) G E kc ks else false
    | none => false)) := rfl
theorem xz_71_31 : xm_run call xm_c71 nL mc ms ret Q (f + 1) (xm_drop 31 xm_c71) lv st G E kc ks = ((match st with
    | w :: st => xm_cmpI E w (.int 0) (fun E s => bif xm_holds .eq s then xm_run call xm_c71 nL mc ms ret Q f (xm_drop 40 xm_c71) lv st G E kc ks else xm_run call xm_c71 nL mc ms ret Q f (xm_drop 32 xm_c71) lv st G E kc ks)
    | _ => false)) := rfl
theorem xz_71_32 : xm_run call xm_c71 nL mc ms ret Q (f + 1) (xm_drop 32 xm_c71) lv st G E kc ks = ((match xm_get lv 1 with
    | some w => bif xm_isI w then xm_run call xm_c71 nL mc ms ret Q f (xm_drop 33 xm_c71) lv (w :: st) G E kc ks else false
    | none => false)) := rfl
theorem xz_71_33 : xm_run call xm_c71 nL mc ms ret Q (f + 1) (xm_drop 33 xm_c71) lv st G E kc ks = (xm_run call xm_c71 nL mc ms ret Q f (xm_drop 34 xm_c71) lv ((.int (-1)) :: st) G E kc ks) := rfl
theorem xz_71_34 : xm_run call xm_c71 nL mc ms ret Q (f + 1) (xm_drop 34 xm_c71) lv st G E kc ks = ((match st with
    | w :: u :: st => xm_cmpI E u w (fun E s => bif xm_holds .eq s then xm_run call xm_c71 nL mc ms ret Q f (xm_drop 40 xm_c71) lv st G E kc ks else xm_run call xm_c71 nL mc ms ret Q f (xm_drop 35 xm_c71) lv st G E kc ks)
    | _ => false)) := rfl
theorem xz_71_35 : xm_run call xm_c71 nL mc ms ret Q (f + 1) (xm_drop 35 xm_c71) lv st G E kc ks = ((match xm_get lv 0 with
    | some w => bif xm_isA w then xm_run call xm_c71 nL mc ms ret Q f (xm_drop 36 xm_c71) lv (w :: st) G E kc ks else false
    | none => false)) := rfl
theorem xz_71_36 : xm_run call xm_c71 nL mc ms ret Q (f + 1) (xm_drop 36 xm_c71) lv st G E kc ks = (xm_getf 7 1 st G (fun st => xm_run call xm_c71 nL mc ms ret Q f (xm_drop 37 xm_c71) lv st G E kc ks)) := rfl
theorem xz_71_37 : xm_run call xm_c71 nL mc ms ret Q (f + 1) (xm_drop 37 xm_c71) lv st G E kc ks = ((match xm_get lv 1 with
    | some w => bif xm_isI w then xm_run call xm_c71 nL mc ms ret Q f (xm_drop 38 xm_c71) lv (w :: st) G E kc ks else false
    | none => false)) := rfl
theorem xz_71_38 : xm_run call xm_c71 nL mc ms ret Q (f + 1) (xm_drop 38 xm_c71) lv st G E kc ks = (xm_run call xm_c71 nL mc ms ret Q f (xm_drop 39 xm_c71) lv ((.int 0) :: st) G E kc ks) := rfl
theorem xz_71_39 : xm_run call xm_c71 nL mc ms ret Q (f + 1) (xm_drop 39 xm_c71) lv st G E kc ks = (bif Nat.beq 60 1006 || Nat.beq 60 1007 then xm_strl 60 st G (fun st => xm_run call xm_c71 nL mc ms ret Q f (xm_drop 40 xm_c71) lv st G E kc ks) else xm_call call mc ms 60 0 st G E kc ks (fun st G E kc ks => xm_run call xm_c71 nL mc ms ret Q f (xm_drop 40 xm_c71) lv st G E kc ks)) := rfl
theorem xz_71_40 : xm_run call xm_c71 nL mc ms ret Q (f + 1) (xm_drop 40 xm_c71) lv st G E kc ks = ((match xm_get lv 0 with
    | some w => bif xm_isA w then xm_run call xm_c71 nL mc ms ret Q f (xm_drop 41 xm_c71) lv (w :: st) G E kc ks else false
    | none => false)) := rfl
theorem xz_71_41 : xm_run call xm_c71 nL mc ms ret Q (f + 1) (xm_drop 41 xm_c71) lv st G E kc ks = (bif Nat.beq 73 1006 || Nat.beq 73 1007 then xm_strl 73 st G (fun st => xm_run call xm_c71 nL mc ms ret Q f (xm_drop 42 xm_c71) lv st G E kc ks) else xm_call call mc ms 73 0 st G E kc ks (fun st G E kc ks => xm_run call xm_c71 nL mc ms ret Q f (xm_drop 42 xm_c71) lv st G E kc ks)) := rfl
theorem xz_71_42 : xm_run call xm_c71 nL mc ms ret Q (f + 1) (xm_drop 42 xm_c71) lv st G E kc ks = ((match xm_get lv 4 with
    | some w => bif xm_isI w then xm_run call xm_c71 nL mc ms ret Q f (xm_drop 43 xm_c71) lv (w :: st) G E kc ks else false
    | none => false)) := rfl
theorem xz_71_43 : xm_run call xm_c71 nL mc ms ret Q (f + 1) (xm_drop 43 xm_c71) lv st G E kc ks = ((match st with
    | w :: st => xm_cmpI E w (.int 0) (fun E s => bif xm_holds .eq s then xm_run call xm_c71 nL mc ms ret Q f (xm_drop 47 xm_c71) lv st G E kc ks else xm_run call xm_c71 nL mc ms ret Q f (xm_drop 44 xm_c71) lv st G E kc ks)
    | _ => false)) := rfl
theorem xz_71_44 : xm_run call xm_c71 nL mc ms ret Q (f + 1) (xm_drop 44 xm_c71) lv st G E kc ks = ((match xm_get lv 2 with
    | some w => bif xm_isI w then xm_run call xm_c71 nL mc ms ret Q f (xm_drop 45 xm_c71) lv (w :: st) G E kc ks else false
    | none => false)) := rfl
theorem xz_71_45 : xm_run call xm_c71 nL mc ms ret Q (f + 1) (xm_drop 45 xm_c71) lv st G E kc ks = ((match st with
    | w :: st => bif xm_isI w && Nat.blt 1 nL then xm_run call xm_c71 nL mc ms ret Q f (xm_drop 46 xm_c71) (xm_set1 lv 1 w) st G E kc ks else false
    | _ => false)) := rfl
theorem xz_71_46 : xm_run call xm_c71 nL mc ms ret Q (f + 1) (xm_drop 46 xm_c71) lv st G E kc ks = (xm_run call xm_c71 nL mc ms ret Q f (xm_drop 52 xm_c71) lv st G E kc ks) := rfl
theorem xz_71_47 : xm_run call xm_c71 nL mc ms ret Q (f + 1) (xm_drop 47 xm_c71) lv st G E kc ks = ((match xm_get lv 0 with
    | some w => bif xm_isA w then xm_run call xm_c71 nL mc ms ret Q f (xm_drop 48 xm_c71) lv (w :: st) G E kc ks else false
    | none => false)) := rfl
theorem xz_71_48 : xm_run call xm_c71 nL mc ms ret Q (f + 1) (xm_drop 48 xm_c71) lv st G E kc ks = (xm_getf 7 1 st G (fun st => xm_run call xm_c71 nL mc ms ret Q f (xm_drop 49 xm_c71) lv st G E kc ks)) := rfl
theorem xz_71_49 : xm_run call xm_c71 nL mc ms ret Q (f + 1) (xm_drop 49 xm_c71) lv st G E kc ks = ((match xm_get lv 2 with
    | some w => bif xm_isI w then xm_run call xm_c71 nL mc ms ret Q f (xm_drop 50 xm_c71) lv (w :: st) G E kc ks else false
    | none => false)) := rfl
theorem xz_71_50 : xm_run call xm_c71 nL mc ms ret Q (f + 1) (xm_drop 50 xm_c71) lv st G E kc ks = (xm_run call xm_c71 nL mc ms ret Q f (xm_drop 51 xm_c71) lv ((.int 0) :: st) G E kc ks) := rfl
theorem xz_71_51 : xm_run call xm_c71 nL mc ms ret Q (f + 1) (xm_drop 51 xm_c71) lv st G E kc ks = (bif Nat.beq 60 1006 || Nat.beq 60 1007 then xm_strl 60 st G (fun st => xm_run call xm_c71 nL mc ms ret Q f (xm_drop 52 xm_c71) lv st G E kc ks) else xm_call call mc ms 60 0 st G E kc ks (fun st G E kc ks => xm_run call xm_c71 nL mc ms ret Q f (xm_drop 52 xm_c71) lv st G E kc ks)) := rfl
theorem xz_71_52 : xm_run call xm_c71 nL mc ms ret Q (f + 1) (xm_drop 52 xm_c71) lv st G E kc ks = ((match xm_get lv 0 with
    | some w => bif xm_isA w then xm_run call xm_c71 nL mc ms ret Q f (xm_drop 53 xm_c71) lv (w :: st) G E kc ks else false
    | none => false)) := rfl
theorem xz_71_53 : xm_run call xm_c71 nL mc ms ret Q (f + 1) (xm_drop 53 xm_c71) lv st G E kc ks = (xm_getf 7 0 st G (fun st => xm_run call xm_c71 nL mc ms ret Q f (xm_drop 54 xm_c71) lv st G E kc ks)) := rfl
theorem xz_71_54 : xm_run call xm_c71 nL mc ms ret Q (f + 1) (xm_drop 54 xm_c71) lv st G E kc ks = (xm_getf 9 2 st G (fun st => xm_run call xm_c71 nL mc ms ret Q f (xm_drop 55 xm_c71) lv st G E kc ks)) := rfl
theorem xz_71_55 : xm_run call xm_c71 nL mc ms ret Q (f + 1) (xm_drop 55 xm_c71) lv st G E kc ks = (bif Nat.beq 72 1001 then xm_acopy st G (fun st G => xm_run call xm_c71 nL mc ms ret Q f (xm_drop 56 xm_c71) lv st G E kc ks) else bif Nat.beq 72 1003 || (Nat.beq 72 1004 || Nat.beq 72 1005) then xm_math 72 st (fun st => xm_run call xm_c71 nL mc ms ret Q f (xm_drop 56 xm_c71) lv st G E kc ks) else bif Nat.beq 1 3 then xm_call call mc ms 72 3 st G E kc ks (fun st G E kc ks => xm_run call xm_c71 nL mc ms ret Q f (xm_drop 56 xm_c71) lv st G E kc ks) else xm_call call mc ms 72 1 st G E kc ks (fun st G E kc ks => xm_run call xm_c71 nL mc ms ret Q f (xm_drop 56 xm_c71) lv st G E kc ks)) := rfl
theorem xz_71_56 : xm_run call xm_c71 nL mc ms ret Q (f + 1) (xm_drop 56 xm_c71) lv st G E kc ks = ((match st with
    | w :: st => bif xm_isI w && Nat.blt 2 nL then xm_run call xm_c71 nL mc ms ret Q f (xm_drop 57 xm_c71) (xm_set1 lv 2 w) st G E kc ks else false
    | _ => false)) := rfl
theorem xz_71_57 : xm_run call xm_c71 nL mc ms ret Q (f + 1) (xm_drop 57 xm_c71) lv st G E kc ks = ((match xm_get lv 3 with
    | some w => bif Nat.blt 3 nL then xm_conc E w (fun E x => xm_frc (x + Int32.ofInt 1) (fun z => xm_run call xm_c71 nL mc ms ret Q f (xm_drop 58 xm_c71) (xm_set1 lv 3 (.int z)) st G E kc ks)) else false
    | none => false)) := rfl
theorem xz_71_58 : xm_run call xm_c71 nL mc ms ret Q (f + 1) (xm_drop 58 xm_c71) lv st G E kc ks = (xm_run call xm_c71 nL mc ms ret Q f (xm_drop 11 xm_c71) lv st G E kc ks) := rfl
theorem xz_71_59 : xm_run call xm_c71 nL mc ms ret Q (f + 1) (xm_drop 59 xm_c71) lv st G E kc ks = ((match xm_get lv 1 with
    | some w => bif xm_isI w then xm_run call xm_c71 nL mc ms ret Q f (xm_drop 60 xm_c71) lv (w :: st) G E kc ks else false
    | none => false)) := rfl
theorem xz_71_60 : xm_run call xm_c71 nL mc ms ret Q (f + 1) (xm_drop 60 xm_c71) lv st G E kc ks = (xm_run call xm_c71 nL mc ms ret Q f (xm_drop 61 xm_c71) lv ((.int (-1)) :: st) G E kc ks) := rfl
theorem xz_71_61 : xm_run call xm_c71 nL mc ms ret Q (f + 1) (xm_drop 61 xm_c71) lv st G E kc ks = ((match st with
    | w :: u :: st => xm_cmpI E u w (fun E s => bif xm_holds .eq s then xm_run call xm_c71 nL mc ms ret Q f (xm_drop 67 xm_c71) lv st G E kc ks else xm_run call xm_c71 nL mc ms ret Q f (xm_drop 62 xm_c71) lv st G E kc ks)
    | _ => false)) := rfl
theorem xz_71_62 : xm_run call xm_c71 nL mc ms ret Q (f + 1) (xm_drop 62 xm_c71) lv st G E kc ks = ((match xm_get lv 0 with
    | some w => bif xm_isA w then xm_run call xm_c71 nL mc ms ret Q f (xm_drop 63 xm_c71) lv (w :: st) G E kc ks else false
    | none => false)) := rfl
theorem xz_71_63 : xm_run call xm_c71 nL mc ms ret Q (f + 1) (xm_drop 63 xm_c71) lv st G E kc ks = (xm_getf 7 1 st G (fun st => xm_run call xm_c71 nL mc ms ret Q f (xm_drop 64 xm_c71) lv st G E kc ks)) := rfl
theorem xz_71_64 : xm_run call xm_c71 nL mc ms ret Q (f + 1) (xm_drop 64 xm_c71) lv st G E kc ks = ((match xm_get lv 1 with
    | some w => bif xm_isI w then xm_run call xm_c71 nL mc ms ret Q f (xm_drop 65 xm_c71) lv (w :: st) G E kc ks else false
    | none => false)) := rfl
theorem xz_71_65 : xm_run call xm_c71 nL mc ms ret Q (f + 1) (xm_drop 65 xm_c71) lv st G E kc ks = (xm_run call xm_c71 nL mc ms ret Q f (xm_drop 66 xm_c71) lv ((.int 0) :: st) G E kc ks) := rfl
theorem xz_71_66 : xm_run call xm_c71 nL mc ms ret Q (f + 1) (xm_drop 66 xm_c71) lv st G E kc ks = (bif Nat.beq 60 1006 || Nat.beq 60 1007 then xm_strl 60 st G (fun st => xm_run call xm_c71 nL mc ms ret Q f (xm_drop 67 xm_c71) lv st G E kc ks) else xm_call call mc ms 60 0 st G E kc ks (fun st G E kc ks => xm_run call xm_c71 nL mc ms ret Q f (xm_drop 67 xm_c71) lv st G E kc ks)) := rfl
theorem xz_71_67 : xm_run call xm_c71 nL mc ms ret Q (f + 1) (xm_drop 67 xm_c71) lv st G E kc ks = ((match st with
    | [] => bif ret.isNone && (Nat.ble kc mc && Nat.ble ks ms) then Q none G E else false
    | _ => false)) := rfl
theorem xz_72_0 : xm_run call xm_c72 nL mc ms ret Q (f + 1) (xm_drop 0 xm_c72) lv st G E kc ks = ((match xm_get lv 0 with
    | some w => bif xm_isI w then xm_run call xm_c72 nL mc ms ret Q f (xm_drop 1 xm_c72) lv (w :: st) G E kc ks else false
    | none => false)) := rfl
theorem xz_72_1 : xm_run call xm_c72 nL mc ms ret Q (f + 1) (xm_drop 1 xm_c72) lv st G E kc ks = ((match st with
    | w :: st => xm_table 37 12 [10, 12, 12, 12, 12, 6, 2, 12, 4, 12, 8] w E (fun E t => xm_run call xm_c72 nL mc ms ret Q f (xm_drop t xm_c72) lv st G E kc ks)
    | _ => false)) := rfl
theorem xz_72_2 : xm_run call xm_c72 nL mc ms ret Q (f + 1) (xm_drop 2 xm_c72) lv st G E kc ks = (xm_run call xm_c72 nL mc ms ret Q f (xm_drop 3 xm_c72) lv ((.int 2) :: st) G E kc ks) := rfl
theorem xz_72_3 : xm_run call xm_c72 nL mc ms ret Q (f + 1) (xm_drop 3 xm_c72) lv st G E kc ks = ((match st with
    | [w] => bif xm_isI w && (xm_rok ret w && (Nat.ble kc mc && Nat.ble ks ms)) then Q (some w) G E else false
    | _ => false)) := rfl
theorem xz_72_4 : xm_run call xm_c72 nL mc ms ret Q (f + 1) (xm_drop 4 xm_c72) lv st G E kc ks = (xm_run call xm_c72 nL mc ms ret Q f (xm_drop 5 xm_c72) lv ((.int 3) :: st) G E kc ks) := rfl
theorem xz_72_5 : xm_run call xm_c72 nL mc ms ret Q (f + 1) (xm_drop 5 xm_c72) lv st G E kc ks = ((match st with
    | [w] => bif xm_isI w && (xm_rok ret w && (Nat.ble kc mc && Nat.ble ks ms)) then Q (some w) G E else false
    | _ => false)) := rfl
theorem xz_72_6 : xm_run call xm_c72 nL mc ms ret Q (f + 1) (xm_drop 6 xm_c72) lv st G E kc ks = (xm_run call xm_c72 nL mc ms ret Q f (xm_drop 7 xm_c72) lv ((.int 4) :: st) G E kc ks) := rfl
theorem xz_72_7 : xm_run call xm_c72 nL mc ms ret Q (f + 1) (xm_drop 7 xm_c72) lv st G E kc ks = ((match st with
    | [w] => bif xm_isI w && (xm_rok ret w && (Nat.ble kc mc && Nat.ble ks ms)) then Q (some w) G E else false
    | _ => false)) := rfl
theorem xz_72_8 : xm_run call xm_c72 nL mc ms ret Q (f + 1) (xm_drop 8 xm_c72) lv st G E kc ks = (xm_run call xm_c72 nL mc ms ret Q f (xm_drop 9 xm_c72) lv ((.int 5) :: st) G E kc ks) := rfl
theorem xz_72_9 : xm_run call xm_c72 nL mc ms ret Q (f + 1) (xm_drop 9 xm_c72) lv st G E kc ks = ((match st with
    | [w] => bif xm_isI w && (xm_rok ret w && (Nat.ble kc mc && Nat.ble ks ms)) then Q (some w) G E else false
    | _ => false)) := rfl
theorem xz_72_10 : xm_run call xm_c72 nL mc ms ret Q (f + 1) (xm_drop 10 xm_c72) lv st G E kc ks = (xm_run call xm_c72 nL mc ms ret Q f (xm_drop 11 xm_c72) lv ((.int 6) :: st) G E kc ks) := rfl
theorem xz_72_11 : xm_run call xm_c72 nL mc ms ret Q (f + 1) (xm_drop 11 xm_c72) lv st G E kc ks = ((match st with
    | [w] => bif xm_isI w && (xm_rok ret w && (Nat.ble kc mc && Nat.ble ks ms)) then Q (some w) G E else false
    | _ => false)) := rfl
theorem xz_72_12 : xm_run call xm_c72 nL mc ms ret Q (f + 1) (xm_drop 12 xm_c72) lv st G E kc ks = (xm_run call xm_c72 nL mc ms ret Q f (xm_drop 13 xm_c72) lv ((.int (-1)) :: st) G E kc ks) := rfl
theorem xz_72_13 : xm_run call xm_c72 nL mc ms ret Q (f + 1) (xm_drop 13 xm_c72) lv st G E kc ks = ((match st with
    | [w] => bif xm_isI w && (xm_rok ret w && (Nat.ble kc mc && Nat.ble ks ms)) then Q (some w) G E else false
    | _ => false)) := rfl
theorem xz_73_0 : xm_run call xm_c73 nL mc ms ret Q (f + 1) (xm_drop 0 xm_c73) lv st G E kc ks = ((match xm_get lv 0 with
    | some w => bif xm_isA w then xm_run call xm_c73 nL mc ms ret Q f (xm_drop 1 xm_c73) lv (w :: st) G E kc ks else false
    | none => false)) := rfl
theorem xz_73_1 : xm_run call xm_c73 nL mc ms ret Q (f + 1) (xm_drop 1 xm_c73) lv st G E kc ks = (xm_getf 7 0 st G (fun st => xm_run call xm_c73 nL mc ms ret Q f (xm_drop 2 xm_c73) lv st G E kc ks)) := rfl
theorem xz_73_2 : xm_run call xm_c73 nL mc ms ret Q (f + 1) (xm_drop 2 xm_c73) lv st G E kc ks = (xm_run call xm_c73 nL mc ms ret Q f (xm_drop 3 xm_c73) lv ((.ref 3) :: st) G E kc ks) := rfl
theorem xz_73_3 : xm_run call xm_c73 nL mc ms ret Q (f + 1) (xm_drop 3 xm_c73) lv st G E kc ks = (bif Nat.beq 83 1006 || Nat.beq 83 1007 then xm_strl 83 st G (fun st => xm_run call xm_c73 nL mc ms ret Q f (xm_drop 4 xm_c73) lv st G E kc ks) else xm_call call mc ms 83 0 st G E kc ks (fun st G E kc ks => xm_run call xm_c73 nL mc ms ret Q f (xm_drop 4 xm_c73) lv st G E kc ks)) := rfl
theorem xz_73_4 : xm_run call xm_c73 nL mc ms ret Q (f + 1) (xm_drop 4 xm_c73) lv st G E kc ks = ((match st with
    | w :: st => bif xm_isI w && Nat.blt 1 nL then xm_run call xm_c73 nL mc ms ret Q f (xm_drop 5 xm_c73) (xm_set1 lv 1 w) st G E kc ks else false
    | _ => false)) := rfl
theorem xz_73_5 : xm_run call xm_c73 nL mc ms ret Q (f + 1) (xm_drop 5 xm_c73) lv st G E kc ks = ((match xm_get lv 1 with
    | some w => bif xm_isI w then xm_run call xm_c73 nL mc ms ret Q f (xm_drop 6 xm_c73) lv (w :: st) G E kc ks else false
    | none => false)) := rfl
theorem xz_73_6 : xm_run call xm_c73 nL mc ms ret Q (f + 1) (xm_drop 6 xm_c73) lv st G E kc ks = (xm_run call xm_c73 nL mc ms ret Q f (xm_drop 7 xm_c73) lv ((.int (-1)) :: st) G E kc ks) := rfl
theorem xz_73_7 : xm_run call xm_c73 nL mc ms ret Q (f + 1) (xm_drop 7 xm_c73) lv st G E kc ks = ((match st with
    | w :: u :: st => xm_cmpI E u w (fun E s => bif xm_holds .ne s then xm_run call xm_c73 nL mc ms ret Q f (xm_drop 18 xm_c73) lv st G E kc ks else xm_run call xm_c73 nL mc ms ret Q f (xm_drop 8 xm_c73) lv st G E kc ks)
    | _ => false)) := rfl
theorem xz_73_8 : xm_run call xm_c73 nL mc ms ret Q (f + 1) (xm_drop 8 xm_c73) lv st G E kc ks = ((match xm_get lv 0 with
    | some w => bif xm_isA w then xm_run call xm_c73 nL mc ms ret Q f (xm_drop 9 xm_c73) lv (w :: st) G E kc ks else false
    | none => false)) := rfl
theorem xz_73_9 : xm_run call xm_c73 nL mc ms ret Q (f + 1) (xm_drop 9 xm_c73) lv st G E kc ks = (xm_getf 7 0 st G (fun st => xm_run call xm_c73 nL mc ms ret Q f (xm_drop 10 xm_c73) lv st G E kc ks)) := rfl
theorem xz_73_10 : xm_run call xm_c73 nL mc ms ret Q (f + 1) (xm_drop 10 xm_c73) lv st G E kc ks = (xm_getf 9 2 st G (fun st => xm_run call xm_c73 nL mc ms ret Q f (xm_drop 11 xm_c73) lv st G E kc ks)) := rfl
theorem xz_73_11 : xm_run call xm_c73 nL mc ms ret Q (f + 1) (xm_drop 11 xm_c73) lv st G E kc ks = (xm_run call xm_c73 nL mc ms ret Q f (xm_drop 12 xm_c73) lv ((.int 48) :: st) G E kc ks) := rfl
theorem xz_73_12 : xm_run call xm_c73 nL mc ms ret Q (f + 1) (xm_drop 12 xm_c73) lv st G E kc ks = ((match st with
    | w :: u :: st => xm_cmpI E u w (fun E s => bif xm_holds .eq s then xm_run call xm_c73 nL mc ms ret Q f (xm_drop 18 xm_c73) lv st G E kc ks else xm_run call xm_c73 nL mc ms ret Q f (xm_drop 13 xm_c73) lv st G E kc ks)
    | _ => false)) := rfl
theorem xz_73_13 : xm_run call xm_c73 nL mc ms ret Q (f + 1) (xm_drop 13 xm_c73) lv st G E kc ks = ((match xm_get lv 0 with
    | some w => bif xm_isA w then xm_run call xm_c73 nL mc ms ret Q f (xm_drop 14 xm_c73) lv (w :: st) G E kc ks else false
    | none => false)) := rfl
theorem xz_73_14 : xm_run call xm_c73 nL mc ms ret Q (f + 1) (xm_drop 14 xm_c73) lv st G E kc ks = (xm_getf 7 0 st G (fun st => xm_run call xm_c73 nL mc ms ret Q f (xm_drop 15 xm_c73) lv st G E kc ks)) := rfl
theorem xz_73_15 : xm_run call xm_c73 nL mc ms ret Q (f + 1) (xm_drop 15 xm_c73) lv st G E kc ks = (xm_run call xm_c73 nL mc ms ret Q f (xm_drop 16 xm_c73) lv ((.int 0) :: st) G E kc ks) := rfl
theorem xz_73_16 : xm_run call xm_c73 nL mc ms ret Q (f + 1) (xm_drop 16 xm_c73) lv st G E kc ks = (bif Nat.beq 81 1006 || Nat.beq 81 1007 then xm_strl 81 st G (fun st => xm_run call xm_c73 nL mc ms ret Q f (xm_drop 17 xm_c73) lv st G E kc ks) else xm_call call mc ms 81 0 st G E kc ks (fun st G E kc ks => xm_run call xm_c73 nL mc ms ret Q f (xm_drop 17 xm_c73) lv st G E kc ks)) := rfl
theorem xz_73_17 : xm_run call xm_c73 nL mc ms ret Q (f + 1) (xm_drop 17 xm_c73) lv st G E kc ks = (xm_run call xm_c73 nL mc ms ret Q f (xm_drop 58 xm_c73) lv st G E kc ks) := rfl
theorem xz_73_18 : xm_run call xm_c73 nL mc ms ret Q (f + 1) (xm_drop 18 xm_c73) lv st G E kc ks = ((match xm_get lv 0 with
    | some w => bif xm_isA w then xm_run call xm_c73 nL mc ms ret Q f (xm_drop 19 xm_c73) lv (w :: st) G E kc ks else false
    | none => false)) := rfl
theorem xz_73_19 : xm_run call xm_c73 nL mc ms ret Q (f + 1) (xm_drop 19 xm_c73) lv st G E kc ks = (xm_getf 7 0 st G (fun st => xm_run call xm_c73 nL mc ms ret Q f (xm_drop 20 xm_c73) lv st G E kc ks)) := rfl
theorem xz_73_20 : xm_run call xm_c73 nL mc ms ret Q (f + 1) (xm_drop 20 xm_c73) lv st G E kc ks = (xm_getf 9 2 st G (fun st => xm_run call xm_c73 nL mc ms ret Q f (xm_drop 21 xm_c73) lv st G E kc ks)) := rfl
theorem xz_73_21 : xm_run call xm_c73 nL mc ms ret Q (f + 1) (xm_drop 21 xm_c73) lv st G E kc ks = (xm_run call xm_c73 nL mc ms ret Q f (xm_drop 22 xm_c73) lv ((.int 48) :: st) G E kc ks) := rfl
theorem xz_73_22 : xm_run call xm_c73 nL mc ms ret Q (f + 1) (xm_drop 22 xm_c73) lv st G E kc ks = ((match st with
    | w :: u :: st => xm_cmpI E u w (fun E s => bif xm_holds .ne s then xm_run call xm_c73 nL mc ms ret Q f (xm_drop 33 xm_c73) lv st G E kc ks else xm_run call xm_c73 nL mc ms ret Q f (xm_drop 23 xm_c73) lv st G E kc ks)
    | _ => false)) := rfl
theorem xz_73_23 : xm_run call xm_c73 nL mc ms ret Q (f + 1) (xm_drop 23 xm_c73) lv st G E kc ks = ((match xm_get lv 0 with
    | some w => bif xm_isA w then xm_run call xm_c73 nL mc ms ret Q f (xm_drop 24 xm_c73) lv (w :: st) G E kc ks else false
    | none => false)) := rfl
theorem xz_73_24 : xm_run call xm_c73 nL mc ms ret Q (f + 1) (xm_drop 24 xm_c73) lv st G E kc ks = (xm_getf 7 0 st G (fun st => xm_run call xm_c73 nL mc ms ret Q f (xm_drop 25 xm_c73) lv st G E kc ks)) := rfl
theorem xz_73_25 : xm_run call xm_c73 nL mc ms ret Q (f + 1) (xm_drop 25 xm_c73) lv st G E kc ks = (xm_getf 9 4 st G (fun st => xm_run call xm_c73 nL mc ms ret Q f (xm_drop 26 xm_c73) lv st G E kc ks)) := rfl
theorem xz_73_26 : xm_run call xm_c73 nL mc ms ret Q (f + 1) (xm_drop 26 xm_c73) lv st G E kc ks = (xm_run call xm_c73 nL mc ms ret Q f (xm_drop 27 xm_c73) lv ((.int 5) :: st) G E kc ks) := rfl
theorem xz_73_27 : xm_run call xm_c73 nL mc ms ret Q (f + 1) (xm_drop 27 xm_c73) lv st G E kc ks = ((match st with
    | w :: u :: st => xm_cmpI E u w (fun E s => bif xm_holds .le s then xm_run call xm_c73 nL mc ms ret Q f (xm_drop 33 xm_c73) lv st G E kc ks else xm_run call xm_c73 nL mc ms ret Q f (xm_drop 28 xm_c73) lv st G E kc ks)
    | _ => false)) := rfl
theorem xz_73_28 : xm_run call xm_c73 nL mc ms ret Q (f + 1) (xm_drop 28 xm_c73) lv st G E kc ks = ((match xm_get lv 0 with
    | some w => bif xm_isA w then xm_run call xm_c73 nL mc ms ret Q f (xm_drop 29 xm_c73) lv (w :: st) G E kc ks else false
    | none => false)) := rfl
theorem xz_73_29 : xm_run call xm_c73 nL mc ms ret Q (f + 1) (xm_drop 29 xm_c73) lv st G E kc ks = (xm_getf 7 0 st G (fun st => xm_run call xm_c73 nL mc ms ret Q f (xm_drop 30 xm_c73) lv st G E kc ks)) := rfl
theorem xz_73_30 : xm_run call xm_c73 nL mc ms ret Q (f + 1) (xm_drop 30 xm_c73) lv st G E kc ks = (xm_run call xm_c73 nL mc ms ret Q f (xm_drop 31 xm_c73) lv ((.int 1) :: st) G E kc ks) := rfl
theorem xz_73_31 : xm_run call xm_c73 nL mc ms ret Q (f + 1) (xm_drop 31 xm_c73) lv st G E kc ks = (bif Nat.beq 81 1006 || Nat.beq 81 1007 then xm_strl 81 st G (fun st => xm_run call xm_c73 nL mc ms ret Q f (xm_drop 32 xm_c73) lv st G E kc ks) else xm_call call mc ms 81 0 st G E kc ks (fun st G E kc ks => xm_run call xm_c73 nL mc ms ret Q f (xm_drop 32 xm_c73) lv st G E kc ks)) := rfl
theorem xz_73_32 : xm_run call xm_c73 nL mc ms ret Q (f + 1) (xm_drop 32 xm_c73) lv st G E kc ks = (xm_run call xm_c73 nL mc ms ret Q f (xm_drop 58 xm_c73) lv st G E kc ks) := rfl
theorem xz_73_33 : xm_run call xm_c73 nL mc ms ret Q (f + 1) (xm_drop 33 xm_c73) lv st G E kc ks = ((match xm_get lv 0 with
    | some w => bif xm_isA w then xm_run call xm_c73 nL mc ms ret Q f (xm_drop 34 xm_c73) lv (w :: st) G E kc ks else false
    | none => false)) := rfl
theorem xz_73_34 : xm_run call xm_c73 nL mc ms ret Q (f + 1) (xm_drop 34 xm_c73) lv st G E kc ks = (xm_getf 7 2 st G (fun st => xm_run call xm_c73 nL mc ms ret Q f (xm_drop 35 xm_c73) lv st G E kc ks)) := rfl
theorem xz_73_35 : xm_run call xm_c73 nL mc ms ret Q (f + 1) (xm_drop 35 xm_c73) lv st G E kc ks = (xm_run call xm_c73 nL mc ms ret Q f (xm_drop 36 xm_c73) lv ((.int 60) :: st) G E kc ks) := rfl
theorem xz_73_36 : xm_run call xm_c73 nL mc ms ret Q (f + 1) (xm_drop 36 xm_c73) lv st G E kc ks = ((match st with
    | w :: u :: st => xm_cmpI E u w (fun E s => bif xm_holds .lt s then xm_run call xm_c73 nL mc ms ret Q f (xm_drop 42 xm_c73) lv st G E kc ks else xm_run call xm_c73 nL mc ms ret Q f (xm_drop 37 xm_c73) lv st G E kc ks)
    | _ => false)) := rfl
theorem xz_73_37 : xm_run call xm_c73 nL mc ms ret Q (f + 1) (xm_drop 37 xm_c73) lv st G E kc ks = ((match xm_get lv 0 with
    | some w => bif xm_isA w then xm_run call xm_c73 nL mc ms ret Q f (xm_drop 38 xm_c73) lv (w :: st) G E kc ks else false
    | none => false)) := rfl
theorem xz_73_38 : xm_run call xm_c73 nL mc ms ret Q (f + 1) (xm_drop 38 xm_c73) lv st G E kc ks = (xm_getf 7 0 st G (fun st => xm_run call xm_c73 nL mc ms ret Q f (xm_drop 39 xm_c73) lv st G E kc ks)) := rfl
theorem xz_73_39 : xm_run call xm_c73 nL mc ms ret Q (f + 1) (xm_drop 39 xm_c73) lv st G E kc ks = (xm_run call xm_c73 nL mc ms ret Q f (xm_drop 40 xm_c73) lv ((.int 3) :: st) G E kc ks) := rfl
theorem xz_73_40 : xm_run call xm_c73 nL mc ms ret Q (f + 1) (xm_drop 40 xm_c73) lv st G E kc ks = (bif Nat.beq 81 1006 || Nat.beq 81 1007 then xm_strl 81 st G (fun st => xm_run call xm_c73 nL mc ms ret Q f (xm_drop 41 xm_c73) lv st G E kc ks) else xm_call call mc ms 81 0 st G E kc ks (fun st G E kc ks => xm_run call xm_c73 nL mc ms ret Q f (xm_drop 41 xm_c73) lv st G E kc ks)) := rfl
theorem xz_73_41 : xm_run call xm_c73 nL mc ms ret Q (f + 1) (xm_drop 41 xm_c73) lv st G E kc ks = (xm_run call xm_c73 nL mc ms ret Q f (xm_drop 58 xm_c73) lv st G E kc ks) := rfl
theorem xz_73_42 : xm_run call xm_c73 nL mc ms ret Q (f + 1) (xm_drop 42 xm_c73) lv st G E kc ks = ((match xm_get lv 1 with
    | some w => bif xm_isI w then xm_run call xm_c73 nL mc ms ret Q f (xm_drop 43 xm_c73) lv (w :: st) G E kc ks else false
    | none => false)) := rfl
theorem xz_73_43 : xm_run call xm_c73 nL mc ms ret Q (f + 1) (xm_drop 43 xm_c73) lv st G E kc ks = (xm_run call xm_c73 nL mc ms ret Q f (xm_drop 44 xm_c73) lv ((.int (-1)) :: st) G E kc ks) := rfl
theorem xz_73_44 : xm_run call xm_c73 nL mc ms ret Q (f + 1) (xm_drop 44 xm_c73) lv st G E kc ks = ((match st with
    | w :: u :: st => xm_cmpI E u w (fun E s => bif xm_holds .eq s then xm_run call xm_c73 nL mc ms ret Q f (xm_drop 51 xm_c73) lv st G E kc ks else xm_run call xm_c73 nL mc ms ret Q f (xm_drop 45 xm_c73) lv st G E kc ks)
    | _ => false)) := rfl
theorem xz_73_45 : xm_run call xm_c73 nL mc ms ret Q (f + 1) (xm_drop 45 xm_c73) lv st G E kc ks = ((match xm_get lv 0 with
    | some w => bif xm_isA w then xm_run call xm_c73 nL mc ms ret Q f (xm_drop 46 xm_c73) lv (w :: st) G E kc ks else false
    | none => false)) := rfl
theorem xz_73_46 : xm_run call xm_c73 nL mc ms ret Q (f + 1) (xm_drop 46 xm_c73) lv st G E kc ks = (xm_getf 7 1 st G (fun st => xm_run call xm_c73 nL mc ms ret Q f (xm_drop 47 xm_c73) lv st G E kc ks)) := rfl
theorem xz_73_47 : xm_run call xm_c73 nL mc ms ret Q (f + 1) (xm_drop 47 xm_c73) lv st G E kc ks = (xm_run call xm_c73 nL mc ms ret Q f (xm_drop 48 xm_c73) lv ((.int 1) :: st) G E kc ks) := rfl
theorem xz_73_48 : xm_run call xm_c73 nL mc ms ret Q (f + 1) (xm_drop 48 xm_c73) lv st G E kc ks = ((match xm_get lv 1 with
    | some w => bif xm_isI w then xm_run call xm_c73 nL mc ms ret Q f (xm_drop 49 xm_c73) lv (w :: st) G E kc ks else false
    | none => false)) := rfl
theorem xz_73_49 : xm_run call xm_c73 nL mc ms ret Q (f + 1) (xm_drop 49 xm_c73) lv st G E kc ks = (bif Nat.beq 60 1006 || Nat.beq 60 1007 then xm_strl 60 st G (fun st => xm_run call xm_c73 nL mc ms ret Q f (xm_drop 50 xm_c73) lv st G E kc ks) else xm_call call mc ms 60 0 st G E kc ks (fun st G E kc ks => xm_run call xm_c73 nL mc ms ret Q f (xm_drop 50 xm_c73) lv st G E kc ks)) := rfl
theorem xz_73_50 : xm_run call xm_c73 nL mc ms ret Q (f + 1) (xm_drop 50 xm_c73) lv st G E kc ks = (xm_run call xm_c73 nL mc ms ret Q f (xm_drop 58 xm_c73) lv st G E kc ks) := rfl
theorem xz_73_51 : xm_run call xm_c73 nL mc ms ret Q (f + 1) (xm_drop 51 xm_c73) lv st G E kc ks = ((match xm_get lv 0 with
    | some w => bif xm_isA w then xm_run call xm_c73 nL mc ms ret Q f (xm_drop 52 xm_c73) lv (w :: st) G E kc ks else false
    | none => false)) := rfl
theorem xz_73_52 : xm_run call xm_c73 nL mc ms ret Q (f + 1) (xm_drop 52 xm_c73) lv st G E kc ks = (xm_getf 7 1 st G (fun st => xm_run call xm_c73 nL mc ms ret Q f (xm_drop 53 xm_c73) lv st G E kc ks)) := rfl
theorem xz_73_53 : xm_run call xm_c73 nL mc ms ret Q (f + 1) (xm_drop 53 xm_c73) lv st G E kc ks = (xm_run call xm_c73 nL mc ms ret Q f (xm_drop 54 xm_c73) lv ((.int 0) :: st) G E kc ks) := rfl
theorem xz_73_54 : xm_run call xm_c73 nL mc ms ret Q (f + 1) (xm_drop 54 xm_c73) lv st G E kc ks = ((match xm_get lv 0 with
    | some w => bif xm_isA w then xm_run call xm_c73 nL mc ms ret Q f (xm_drop 55 xm_c73) lv (w :: st) G E kc ks else false
    | none => false)) := rfl
theorem xz_73_55 : xm_run call xm_c73 nL mc ms ret Q (f + 1) (xm_drop 55 xm_c73) lv st G E kc ks = (xm_getf 7 0 st G (fun st => xm_run call xm_c73 nL mc ms ret Q f (xm_drop 56 xm_c73) lv st G E kc ks)) := rfl
theorem xz_73_56 : xm_run call xm_c73 nL mc ms ret Q (f + 1) (xm_drop 56 xm_c73) lv st G E kc ks = (bif Nat.beq 84 1006 || Nat.beq 84 1007 then xm_strl 84 st G (fun st => xm_run call xm_c73 nL mc ms ret Q f (xm_drop 57 xm_c73) lv st G E kc ks) else xm_call call mc ms 84 0 st G E kc ks (fun st G E kc ks => xm_run call xm_c73 nL mc ms ret Q f (xm_drop 57 xm_c73) lv st G E kc ks)) := rfl
theorem xz_73_57 : xm_run call xm_c73 nL mc ms ret Q (f + 1) (xm_drop 57 xm_c73) lv st G E kc ks = (bif Nat.beq 60 1006 || Nat.beq 60 1007 then xm_strl 60 st G (fun st => xm_run call xm_c73 nL mc ms ret Q f (xm_drop 58 xm_c73) lv st G E kc ks) else xm_call call mc ms 60 0 st G E kc ks (fun st G E kc ks => xm_run call xm_c73 nL mc ms ret Q f (xm_drop 58 xm_c73) lv st G E kc ks)) := rfl
theorem xz_73_58 : xm_run call xm_c73 nL mc ms ret Q (f + 1) (xm_drop 58 xm_c73) lv st G E kc ks = ((match xm_get lv 0 with
    | some w => bif xm_isA w then xm_run call xm_c73 nL mc ms ret Q f (xm_drop 59 xm_c73) lv (w :: st) G E kc ks else false
    | none => false)) := rfl
theorem xz_73_59 : xm_run call xm_c73 nL mc ms ret Q (f + 1) (xm_drop 59 xm_c73) lv st G E kc ks = ((match st with
    | w :: st => bif xm_cat1 w then xm_run call xm_c73 nL mc ms ret Q f (xm_drop 60 xm_c73) lv (w :: w :: st) G E kc ks else false
    | _ => false)) := rfl
theorem xz_73_60 : xm_run call xm_c73 nL mc ms ret Q (f + 1) (xm_drop 60 xm_c73) lv st G E kc ks = (xm_getf 7 2 st G (fun st => xm_run call xm_c73 nL mc ms ret Q f (xm_drop 61 xm_c73) lv st G E kc ks)) := rfl
theorem xz_73_61 : xm_run call xm_c73 nL mc ms ret Q (f + 1) (xm_drop 61 xm_c73) lv st G E kc ks = (xm_run call xm_c73 nL mc ms ret Q f (xm_drop 62 xm_c73) lv ((.int 1) :: st) G E kc ks) := rfl
theorem xz_73_62 : xm_run call xm_c73 nL mc ms ret Q (f + 1) (xm_drop 62 xm_c73) lv st G E kc ks = (xm_int2 .iadd st E (fun st E => xm_run call xm_c73 nL mc ms ret Q f (xm_drop 63 xm_c73) lv st G E kc ks)) := rfl
theorem xz_73_63 : xm_run call xm_c73 nL mc ms ret Q (f + 1) (xm_drop 63 xm_c73) lv st G E kc ks = (xm_putf 7 2 st G (fun st G => xm_run call xm_c73 nL mc ms ret Q f (xm_drop 64 xm_c73) lv st G E kc ks)) := rfl
theorem xz_73_64 : xm_run call xm_c73 nL mc ms ret Q (f + 1) (xm_drop 64 xm_c73) lv st G E kc ks = ((match xm_get lv 0 with
    | some w => bif xm_isA w then xm_run call xm_c73 nL mc ms ret Q f (xm_drop 65 xm_c73) lv (w :: st) G E kc ks else false
    | none => false)) := rfl
theorem xz_73_65 : xm_run call xm_c73 nL mc ms ret Q (f + 1) (xm_drop 65 xm_c73) lv st G E kc ks = (xm_getf 7 0 st G (fun st => xm_run call xm_c73 nL mc ms ret Q f (xm_drop 66 xm_c73) lv st G E kc ks)) := rfl
theorem xz_73_66 : xm_run call xm_c73 nL mc ms ret Q (f + 1) (xm_drop 66 xm_c73) lv st G E kc ks = (bif Nat.beq 82 1006 || Nat.beq 82 1007 then xm_strl 82 st G (fun st => xm_run call xm_c73 nL mc ms ret Q f (xm_drop 67 xm_c73) lv st G E kc ks) else xm_call call mc ms 82 0 st G E kc ks (fun st G E kc ks => xm_run call xm_c73 nL mc ms ret Q f (xm_drop 67 xm_c73) lv st G E kc ks)) := rfl
theorem xz_73_67 : xm_run call xm_c73 nL mc ms ret Q (f + 1) (xm_drop 67 xm_c73) lv st G E kc ks = ((match st with
    | [] => bif ret.isNone && (Nat.ble kc mc && Nat.ble ks ms) then Q none G E else false
    | _ => false)) := rfl
theorem xz_86_0 : xm_run call xm_c86 nL mc ms ret Q (f + 1) (xm_drop 0 xm_c86) lv st G E kc ks = ((match xm_get lv 0 with
    | some w => bif xm_isA w then xm_run call xm_c86 nL mc ms ret Q f (xm_drop 1 xm_c86) lv (w :: st) G E kc ks else false
    | none => false)) := rfl
theorem xz_86_1 : xm_run call xm_c86 nL mc ms ret Q (f + 1) (xm_drop 1 xm_c86) lv st G E kc ks = (xm_getf 9 2 st G (fun st => xm_run call xm_c86 nL mc ms ret Q f (xm_drop 2 xm_c86) lv st G E kc ks)) := rfl
theorem xz_86_2 : xm_run call xm_c86 nL mc ms ret Q (f + 1) (xm_drop 2 xm_c86) lv st G E kc ks = (xm_run call xm_c86 nL mc ms ret Q f (xm_drop 3 xm_c86) lv ((.int 59) :: st) G E kc ks) := rfl
theorem xz_86_3 : xm_run call xm_c86 nL mc ms ret Q (f + 1) (xm_drop 3 xm_c86) lv st G E kc ks = ((match st with
    | w :: u :: st => xm_cmpI E u w (fun E s => bif xm_holds .ne s then xm_run call xm_c86 nL mc ms ret Q f (xm_drop 8 xm_c86) lv st G E kc ks else xm_run call xm_c86 nL mc ms ret Q f (xm_drop 4 xm_c86) lv st G E kc ks)
    | _ => false)) := rfl
theorem xz_86_4 : xm_run call xm_c86 nL mc ms ret Q (f + 1) (xm_drop 4 xm_c86) lv st G E kc ks = ((match xm_get lv 0 with
    | some w => bif xm_isA w then xm_run call xm_c86 nL mc ms ret Q f (xm_drop 5 xm_c86) lv (w :: st) G E kc ks else false
    | none => false)) := rfl
theorem xz_86_5 : xm_run call xm_c86 nL mc ms ret Q (f + 1) (xm_drop 5 xm_c86) lv st G E kc ks = (bif Nat.beq 82 1006 || Nat.beq 82 1007 then xm_strl 82 st G (fun st => xm_run call xm_c86 nL mc ms ret Q f (xm_drop 6 xm_c86) lv st G E kc ks) else xm_call call mc ms 82 0 st G E kc ks (fun st G E kc ks => xm_run call xm_c86 nL mc ms ret Q f (xm_drop 6 xm_c86) lv st G E kc ks)) := rfl
theorem xz_86_6 : xm_run call xm_c86 nL mc ms ret Q (f + 1) (xm_drop 6 xm_c86) lv st G E kc ks = (xm_run call xm_c86 nL mc ms ret Q f (xm_drop 7 xm_c86) lv ((.int 1) :: st) G E kc ks) := rfl
theorem xz_86_7 : xm_run call xm_c86 nL mc ms ret Q (f + 1) (xm_drop 7 xm_c86) lv st G E kc ks = ((match st with
    | [w] => bif xm_isI w && (xm_rok ret w && (Nat.ble kc mc && Nat.ble ks ms)) then Q (some w) G E else false
    | _ => false)) := rfl
theorem xz_86_8 : xm_run call xm_c86 nL mc ms ret Q (f + 1) (xm_drop 8 xm_c86) lv st G E kc ks = ((match xm_get lv 0 with
    | some w => bif xm_isA w then xm_run call xm_c86 nL mc ms ret Q f (xm_drop 9 xm_c86) lv (w :: st) G E kc ks else false
    | none => false)) := rfl
theorem xz_86_9 : xm_run call xm_c86 nL mc ms ret Q (f + 1) (xm_drop 9 xm_c86) lv st G E kc ks = (xm_getf 9 2 st G (fun st => xm_run call xm_c86 nL mc ms ret Q f (xm_drop 10 xm_c86) lv st G E kc ks)) := rfl
theorem xz_86_10 : xm_run call xm_c86 nL mc ms ret Q (f + 1) (xm_drop 10 xm_c86) lv st G E kc ks = (xm_run call xm_c86 nL mc ms ret Q f (xm_drop 11 xm_c86) lv ((.int (-1)) :: st) G E kc ks) := rfl
theorem xz_86_11 : xm_run call xm_c86 nL mc ms ret Q (f + 1) (xm_drop 11 xm_c86) lv st G E kc ks = ((match st with
    | w :: u :: st => xm_cmpI E u w (fun E s => bif xm_holds .eq s then xm_run call xm_c86 nL mc ms ret Q f (xm_drop 15 xm_c86) lv st G E kc ks else xm_run call xm_c86 nL mc ms ret Q f (xm_drop 12 xm_c86) lv st G E kc ks)
    | _ => false)) := rfl
theorem xz_86_12 : xm_run call xm_c86 nL mc ms ret Q (f + 1) (xm_drop 12 xm_c86) lv st G E kc ks = ((match xm_get lv 0 with
    | some w => bif xm_isA w then xm_run call xm_c86 nL mc ms ret Q f (xm_drop 13 xm_c86) lv (w :: st) G E kc ks else false
    | none => false)) := rfl
theorem xz_86_13 : xm_run call xm_c86 nL mc ms ret Q (f + 1) (xm_drop 13 xm_c86) lv st G E kc ks = (xm_run call xm_c86 nL mc ms ret Q f (xm_drop 14 xm_c86) lv ((.int 0) :: st) G E kc ks) := rfl
theorem xz_86_14 : xm_run call xm_c86 nL mc ms ret Q (f + 1) (xm_drop 14 xm_c86) lv st G E kc ks = (bif Nat.beq 81 1006 || Nat.beq 81 1007 then xm_strl 81 st G (fun st => xm_run call xm_c86 nL mc ms ret Q f (xm_drop 15 xm_c86) lv st G E kc ks) else xm_call call mc ms 81 0 st G E kc ks (fun st G E kc ks => xm_run call xm_c86 nL mc ms ret Q f (xm_drop 15 xm_c86) lv st G E kc ks)) := rfl
theorem xz_86_15 : xm_run call xm_c86 nL mc ms ret Q (f + 1) (xm_drop 15 xm_c86) lv st G E kc ks = (xm_run call xm_c86 nL mc ms ret Q f (xm_drop 16 xm_c86) lv ((.int 0) :: st) G E kc ks) := rfl
theorem xz_86_16 : xm_run call xm_c86 nL mc ms ret Q (f + 1) (xm_drop 16 xm_c86) lv st G E kc ks = ((match st with
    | [w] => bif xm_isI w && (xm_rok ret w && (Nat.ble kc mc && Nat.ble ks ms)) then Q (some w) G E else false
    | _ => false)) := rfl
theorem xz_91_0 : xm_run call xm_c91 nL mc ms ret Q (f + 1) (xm_drop 0 xm_c91) lv st G E kc ks = ((match xm_get lv 0 with
    | some w => bif xm_isA w then xm_run call xm_c91 nL mc ms ret Q f (xm_drop 1 xm_c91) lv (w :: st) G E kc ks else false
    | none => false)) := rfl
theorem xz_91_1 : xm_run call xm_c91 nL mc ms ret Q (f + 1) (xm_drop 1 xm_c91) lv st G E kc ks = (xm_getf 10 8 st G (fun st => xm_run call xm_c91 nL mc ms ret Q f (xm_drop 2 xm_c91) lv st G E kc ks)) := rfl
theorem xz_91_2 : xm_run call xm_c91 nL mc ms ret Q (f + 1) (xm_drop 2 xm_c91) lv st G E kc ks = (xm_run call xm_c91 nL mc ms ret Q f (xm_drop 3 xm_c91) lv ((.int 6) :: st) G E kc ks) := rfl
theorem xz_91_3 : xm_run call xm_c91 nL mc ms ret Q (f + 1) (xm_drop 3 xm_c91) lv st G E kc ks = ((match st with
    | w :: u :: st => xm_cmpI E u w (fun E s => bif xm_holds .lt s then xm_run call xm_c91 nL mc ms ret Q f (xm_drop 6 xm_c91) lv st G E kc ks else xm_run call xm_c91 nL mc ms ret Q f (xm_drop 4 xm_c91) lv st G E kc ks)
    | _ => false)) := rfl
theorem xz_91_4 : xm_run call xm_c91 nL mc ms ret Q (f + 1) (xm_drop 4 xm_c91) lv st G E kc ks = (xm_run call xm_c91 nL mc ms ret Q f (xm_drop 5 xm_c91) lv ((.int (-1)) :: st) G E kc ks) := rfl
theorem xz_91_5 : xm_run call xm_c91 nL mc ms ret Q (f + 1) (xm_drop 5 xm_c91) lv st G E kc ks = ((match st with
    | [w] => bif xm_isI w && (xm_rok ret w && (Nat.ble kc mc && Nat.ble ks ms)) then Q (some w) G E else false
    | _ => false)) := rfl
theorem xz_91_6 : xm_run call xm_c91 nL mc ms ret Q (f + 1) (xm_drop 6 xm_c91) lv st G E kc ks = ((match xm_get lv 0 with
    | some w => bif xm_isA w then xm_run call xm_c91 nL mc ms ret Q f (xm_drop 7 xm_c91) lv (w :: st) G E kc ks else false
    | none => false)) := rfl
theorem xz_91_7 : xm_run call xm_c91 nL mc ms ret Q (f + 1) (xm_drop 7 xm_c91) lv st G E kc ks = (xm_getf 10 4 st G (fun st => xm_run call xm_c91 nL mc ms ret Q f (xm_drop 8 xm_c91) lv st G E kc ks)) := rfl
theorem xz_91_8 : xm_run call xm_c91 nL mc ms ret Q (f + 1) (xm_drop 8 xm_c91) lv st G E kc ks = ((match xm_get lv 0 with
    | some w => bif xm_isA w then xm_run call xm_c91 nL mc ms ret Q f (xm_drop 9 xm_c91) lv (w :: st) G E kc ks else false
    | none => false)) := rfl
theorem xz_91_9 : xm_run call xm_c91 nL mc ms ret Q (f + 1) (xm_drop 9 xm_c91) lv st G E kc ks = (xm_getf 10 3 st G (fun st => xm_run call xm_c91 nL mc ms ret Q f (xm_drop 10 xm_c91) lv st G E kc ks)) := rfl
theorem xz_91_10 : xm_run call xm_c91 nL mc ms ret Q (f + 1) (xm_drop 10 xm_c91) lv st G E kc ks = ((match xm_get lv 0 with
    | some w => bif xm_isA w then xm_run call xm_c91 nL mc ms ret Q f (xm_drop 11 xm_c91) lv (w :: st) G E kc ks else false
    | none => false)) := rfl
theorem xz_91_11 : xm_run call xm_c91 nL mc ms ret Q (f + 1) (xm_drop 11 xm_c91) lv st G E kc ks = (xm_getf 10 8 st G (fun st => xm_run call xm_c91 nL mc ms ret Q f (xm_drop 12 xm_c91) lv st G E kc ks)) := rfl
theorem xz_91_12 : xm_run call xm_c91 nL mc ms ret Q (f + 1) (xm_drop 12 xm_c91) lv st G E kc ks = (xm_ald xm_isAr st G E (fun st E => xm_run call xm_c91 nL mc ms ret Q f (xm_drop 13 xm_c91) lv st G E kc ks)) := rfl
theorem xz_91_13 : xm_run call xm_c91 nL mc ms ret Q (f + 1) (xm_drop 13 xm_c91) lv st G E kc ks = (bif Nat.beq 66 1006 || Nat.beq 66 1007 then xm_strl 66 st G (fun st => xm_run call xm_c91 nL mc ms ret Q f (xm_drop 14 xm_c91) lv st G E kc ks) else xm_call call mc ms 66 0 st G E kc ks (fun st G E kc ks => xm_run call xm_c91 nL mc ms ret Q f (xm_drop 14 xm_c91) lv st G E kc ks)) := rfl
theorem xz_91_14 : xm_run call xm_c91 nL mc ms ret Q (f + 1) (xm_drop 14 xm_c91) lv st G E kc ks = ((match st with
    | w :: st => bif xm_isI w && Nat.blt 1 nL then xm_run call xm_c91 nL mc ms ret Q f (xm_drop 15 xm_c91) (xm_set1 lv 1 w) st G E kc ks else false
    | _ => false)) := rfl
theorem xz_91_15 : xm_run call xm_c91 nL mc ms ret Q (f + 1) (xm_drop 15 xm_c91) lv st G E kc ks = ((match xm_get lv 0 with
    | some w => bif xm_isA w then xm_run call xm_c91 nL mc ms ret Q f (xm_drop 16 xm_c91) lv (w :: st) G E kc ks else false
    | none => false)) := rfl
theorem xz_91_16 : xm_run call xm_c91 nL mc ms ret Q (f + 1) (xm_drop 16 xm_c91) lv st G E kc ks = (xm_getf 10 0 st G (fun st => xm_run call xm_c91 nL mc ms ret Q f (xm_drop 17 xm_c91) lv st G E kc ks)) := rfl
theorem xz_91_17 : xm_run call xm_c91 nL mc ms ret Q (f + 1) (xm_drop 17 xm_c91) lv st G E kc ks = (xm_run call xm_c91 nL mc ms ret Q f (xm_drop 18 xm_c91) lv ((.int 0) :: st) G E kc ks) := rfl
theorem xz_91_18 : xm_run call xm_c91 nL mc ms ret Q (f + 1) (xm_drop 18 xm_c91) lv st G E kc ks = (xm_putf 9 1 st G (fun st G => xm_run call xm_c91 nL mc ms ret Q f (xm_drop 19 xm_c91) lv st G E kc ks)) := rfl
theorem xz_91_19 : xm_run call xm_c91 nL mc ms ret Q (f + 1) (xm_drop 19 xm_c91) lv st G E kc ks = ((match xm_get lv 1 with
    | some w => bif xm_isI w then xm_run call xm_c91 nL mc ms ret Q f (xm_drop 20 xm_c91) lv (w :: st) G E kc ks else false
    | none => false)) := rfl
theorem xz_91_20 : xm_run call xm_c91 nL mc ms ret Q (f + 1) (xm_drop 20 xm_c91) lv st G E kc ks = ((match st with
    | w :: st => xm_cmpI E w (.int 0) (fun E s => bif xm_holds .eq s then xm_run call xm_c91 nL mc ms ret Q f (xm_drop 25 xm_c91) lv st G E kc ks else xm_run call xm_c91 nL mc ms ret Q f (xm_drop 21 xm_c91) lv st G E kc ks)
    | _ => false)) := rfl
theorem xz_91_21 : xm_run call xm_c91 nL mc ms ret Q (f + 1) (xm_drop 21 xm_c91) lv st G E kc ks = (xm_run call xm_c91 nL mc ms ret Q f (xm_drop 22 xm_c91) lv ((.int (-2)) :: st) G E kc ks) := rfl
theorem xz_91_22 : xm_run call xm_c91 nL mc ms ret Q (f + 1) (xm_drop 22 xm_c91) lv st G E kc ks = ((match xm_get lv 1 with
    | some w => bif xm_isI w then xm_run call xm_c91 nL mc ms ret Q f (xm_drop 23 xm_c91) lv (w :: st) G E kc ks else false
    | none => false)) := rfl
theorem xz_91_23 : xm_run call xm_c91 nL mc ms ret Q (f + 1) (xm_drop 23 xm_c91) lv st G E kc ks = (xm_int2 .isub st E (fun st E => xm_run call xm_c91 nL mc ms ret Q f (xm_drop 24 xm_c91) lv st G E kc ks)) := rfl
theorem xz_91_24 : xm_run call xm_c91 nL mc ms ret Q (f + 1) (xm_drop 24 xm_c91) lv st G E kc ks = ((match st with
    | [w] => bif xm_isI w && (xm_rok ret w && (Nat.ble kc mc && Nat.ble ks ms)) then Q (some w) G E else false
    | _ => false)) := rfl
theorem xz_91_25 : xm_run call xm_c91 nL mc ms ret Q (f + 1) (xm_drop 25 xm_c91) lv st G E kc ks = ((match xm_get lv 0 with
    | some w => bif xm_isA w then xm_run call xm_c91 nL mc ms ret Q f (xm_drop 26 xm_c91) lv (w :: st) G E kc ks else false
    | none => false)) := rfl
theorem xz_91_26 : xm_run call xm_c91 nL mc ms ret Q (f + 1) (xm_drop 26 xm_c91) lv st G E kc ks = ((match st with
    | w :: st => bif xm_cat1 w then xm_run call xm_c91 nL mc ms ret Q f (xm_drop 27 xm_c91) lv (w :: w :: st) G E kc ks else false
    | _ => false)) := rfl
theorem xz_91_27 : xm_run call xm_c91 nL mc ms ret Q (f + 1) (xm_drop 27 xm_c91) lv st G E kc ks = (xm_getf 10 8 st G (fun st => xm_run call xm_c91 nL mc ms ret Q f (xm_drop 28 xm_c91) lv st G E kc ks)) := rfl
theorem xz_91_28 : xm_run call xm_c91 nL mc ms ret Q (f + 1) (xm_drop 28 xm_c91) lv st G E kc ks = (xm_run call xm_c91 nL mc ms ret Q f (xm_drop 29 xm_c91) lv ((.int 1) :: st) G E kc ks) := rfl
theorem xz_91_29 : xm_run call xm_c91 nL mc ms ret Q (f + 1) (xm_drop 29 xm_c91) lv st G E kc ks = (xm_int2 .iadd st E (fun st E => xm_run call xm_c91 nL mc ms ret Q f (xm_drop 30 xm_c91) lv st G E kc ks)) := rfl
theorem xz_91_30 : xm_run call xm_c91 nL mc ms ret Q (f + 1) (xm_drop 30 xm_c91) lv st G E kc ks = (xm_putf 10 8 st G (fun st G => xm_run call xm_c91 nL mc ms ret Q f (xm_drop 31 xm_c91) lv st G E kc ks)) := rfl
theorem xz_91_31 : xm_run call xm_c91 nL mc ms ret Q (f + 1) (xm_drop 31 xm_c91) lv st G E kc ks = ((match xm_get lv 0 with
    | some w => bif xm_isA w then xm_run call xm_c91 nL mc ms ret Q f (xm_drop 32 xm_c91) lv (w :: st) G E kc ks else false
    | none => false)) := rfl
theorem xz_91_32 : xm_run call xm_c91 nL mc ms ret Q (f + 1) (xm_drop 32 xm_c91) lv st G E kc ks = (xm_getf 10 8 st G (fun st => xm_run call xm_c91 nL mc ms ret Q f (xm_drop 33 xm_c91) lv st G E kc ks)) := rfl
theorem xz_91_33 : xm_run call xm_c91 nL mc ms ret Q (f + 1) (xm_drop 33 xm_c91) lv st G E kc ks = (xm_run call xm_c91 nL mc ms ret Q f (xm_drop 34 xm_c91) lv ((.int 1) :: st) G E kc ks) := rfl
theorem xz_91_34 : xm_run call xm_c91 nL mc ms ret Q (f + 1) (xm_drop 34 xm_c91) lv st G E kc ks = (xm_int2 .isub st E (fun st E => xm_run call xm_c91 nL mc ms ret Q f (xm_drop 35 xm_c91) lv st G E kc ks)) := rfl
theorem xz_91_35 : xm_run call xm_c91 nL mc ms ret Q (f + 1) (xm_drop 35 xm_c91) lv st G E kc ks = ((match st with
    | [w] => bif xm_isI w && (xm_rok ret w && (Nat.ble kc mc && Nat.ble ks ms)) then Q (some w) G E else false
    | _ => false)) := rfl
end XM
