section XM
variable {call : xm_C} {nL mc ms : Nat} {ret : Option FieldType} {Q : xm_Q} {f : Nat} {lv : xm_L} {st : List Value} {G : xm_H} {E : xm_R} {kc ks : Nat}
theorem xz_64_0 : xm_run call xm_c64 nL mc ms ret Q (f + 1) (xm_drop 0 xm_c64) lv st G E kc ks = (xm_run call xm_c64 nL mc ms ret Q f (xm_drop 1 xm_c64) lv ((.int 0) :: st) G E kc ks) := rfl
theorem xz_64_1 : xm_run call xm_c64 nL mc ms ret Q (f + 1) (xm_drop 1 xm_c64) lv st G E kc ks = ((match st with
    | w :: st => bif xm_isI w && Nat.blt 5 nL then xm_run call xm_c64 nL mc ms ret Q f (xm_drop 2 xm_c64) (xm_set1 lv 5 w) st G E kc ks else false
    | _ => false)) := rfl
theorem xz_64_2 : xm_run call xm_c64 nL mc ms ret Q (f + 1) (xm_drop 2 xm_c64) lv st G E kc ks = ((match xm_get lv 1 with
    | some w => bif xm_isI w then xm_run call xm_c64 nL mc ms ret Q f (xm_drop 3 xm_c64) lv (w :: st) G E kc ks else false
    | none => false)) := rfl
theorem xz_64_3 : xm_run call xm_c64 nL mc ms ret Q (f + 1) (xm_drop 3 xm_c64) lv st G E kc ks = ((match st with
    | w :: st => bif xm_isI w && Nat.blt 6 nL then xm_run call xm_c64 nL mc ms ret Q f (xm_drop 4 xm_c64) (xm_set1 lv 6 w) st G E kc ks else false
    | _ => false)) := rfl
theorem xz_64_4 : xm_run call xm_c64 nL mc ms ret Q (f + 1) (xm_drop 4 xm_c64) lv st G E kc ks = ((match xm_get lv 6 with
    | some w => bif xm_isI w then xm_run call xm_c64 nL mc ms ret Q f (xm_drop 5 xm_c64) lv (w :: st) G E kc ks else false
    | none => false)) := rfl
theorem xz_64_5 : xm_run call xm_c64 nL mc ms ret Q (f + 1) (xm_drop 5 xm_c64) lv st G E kc ks = ((match xm_get lv 2 with
    | some w => bif xm_isI w then xm_run call xm_c64 nL mc ms ret Q f (xm_drop 6 xm_c64) lv (w :: st) G E kc ks else false
    | none => false)) := rfl
theorem xz_64_6 : xm_run call xm_c64 nL mc ms ret Q (f + 1) (xm_drop 6 xm_c64) lv st G E kc ks = ((match st with
    | w :: u :: st => xm_cmpI E u w (fun E s => bif xm_holds .ge s then xm_run call xm_c64 nL mc ms ret Q f (xm_drop 230 xm_c64) lv st G E kc ks else xm_run call xm_c64 nL mc ms ret Q f (xm_drop 7 xm_c64) lv st G E kc ks)
    | _ => false)) := rfl
theorem xz_64_7 : xm_run call xm_c64 nL mc ms ret Q (f + 1) (xm_drop 7 xm_c64) lv st G E kc ks = ((match xm_get lv 6 with
    | some w => bif xm_isI w then xm_run call xm_c64 nL mc ms ret Q f (xm_drop 8 xm_c64) lv (w :: st) G E kc ks else false
    | none => false)) := rfl
theorem xz_64_8 : xm_run call xm_c64 nL mc ms ret Q (f + 1) (xm_drop 8 xm_c64) lv st G E kc ks = ((match xm_get lv 0 with
    | some w => bif xm_isA w then xm_run call xm_c64 nL mc ms ret Q f (xm_drop 9 xm_c64) lv (w :: st) G E kc ks else false
    | none => false)) := rfl
theorem xz_64_9 : xm_run call xm_c64 nL mc ms ret Q (f + 1) (xm_drop 9 xm_c64) lv st G E kc ks = (xm_getf 6 0 st G (fun st => xm_run call xm_c64 nL mc ms ret Q f (xm_drop 10 xm_c64) lv st G E kc ks)) := rfl
theorem xz_64_10 : xm_run call xm_c64 nL mc ms ret Q (f + 1) (xm_drop 10 xm_c64) lv st G E kc ks = (xm_alen st G (fun st => xm_run call xm_c64 nL mc ms ret Q f (xm_drop 11 xm_c64) lv st G E kc ks)) := rfl
theorem xz_64_11 : xm_run call xm_c64 nL mc ms ret Q (f + 1) (xm_drop 11 xm_c64) lv st G E kc ks = ((match st with
    | w :: u :: st => xm_cmpI E u w (fun E s => bif xm_holds .ge s then xm_run call xm_c64 nL mc ms ret Q f (xm_drop 230 xm_c64) lv st G E kc ks else xm_run call xm_c64 nL mc ms ret Q f (xm_drop 12 xm_c64) lv st G E kc ks)
    | _ => false)) := rfl
theorem xz_64_12 : xm_run call xm_c64 nL mc ms ret Q (f + 1) (xm_drop 12 xm_c64) lv st G E kc ks = ((match xm_get lv 0 with
    | some w => bif xm_isA w then xm_run call xm_c64 nL mc ms ret Q f (xm_drop 13 xm_c64) lv (w :: st) G E kc ks else false
    | none => false)) := rfl
theorem xz_64_13 : xm_run call xm_c64 nL mc ms ret Q (f + 1) (xm_drop 13 xm_c64) lv st G E kc ks = (xm_getf 6 0 st G (fun st => xm_run call xm_c64 nL mc ms ret Q f (xm_drop 14 xm_c64) lv st G E kc ks)) := rfl
theorem xz_64_14 : xm_run call xm_c64 nL mc ms ret Q (f + 1) (xm_drop 14 xm_c64) lv st G E kc ks = ((match xm_get lv 6 with
    | some w => bif xm_isI w then xm_run call xm_c64 nL mc ms ret Q f (xm_drop 15 xm_c64) lv (w :: st) G E kc ks else false
    | none => false)) := rfl
theorem xz_64_15 : xm_run call xm_c64 nL mc ms ret Q (f + 1) (xm_drop 15 xm_c64) lv st G E kc ks = (xm_iald st G E (fun st E => xm_run call xm_c64 nL mc ms ret Q f (xm_drop 16 xm_c64) lv st G E kc ks)) := rfl
theorem xz_64_16 : xm_run call xm_c64 nL mc ms ret Q (f + 1) (xm_drop 16 xm_c64) lv st G E kc ks = (xm_run call xm_c64 nL mc ms ret Q f (xm_drop 17 xm_c64) lv ((.int 15) :: st) G E kc ks) := rfl
theorem xz_64_17 : xm_run call xm_c64 nL mc ms ret Q (f + 1) (xm_drop 17 xm_c64) lv st G E kc ks = (xm_iand st E (fun st E => xm_run call xm_c64 nL mc ms ret Q f (xm_drop 18 xm_c64) lv st G E kc ks)) := rfl
theorem xz_64_18 : xm_run call xm_c64 nL mc ms ret Q (f + 1) (xm_drop 18 xm_c64) lv st G E kc ks = ((match st with
    | w :: st => bif xm_isI w && Nat.blt 7 nL then xm_run call xm_c64 nL mc ms ret Q f (xm_drop 19 xm_c64) (xm_set1 lv 7 w) st G E kc ks else false
    | _ => false)) := rfl
theorem xz_64_19 : xm_run call xm_c64 nL mc ms ret Q (f + 1) (xm_drop 19 xm_c64) lv st G E kc ks = ((match xm_get lv 0 with
    | some w => bif xm_isA w then xm_run call xm_c64 nL mc ms ret Q f (xm_drop 20 xm_c64) lv (w :: st) G E kc ks else false
    | none => false)) := rfl
theorem xz_64_20 : xm_run call xm_c64 nL mc ms ret Q (f + 1) (xm_drop 20 xm_c64) lv st G E kc ks = (xm_getf 6 0 st G (fun st => xm_run call xm_c64 nL mc ms ret Q f (xm_drop 21 xm_c64) lv st G E kc ks)) := rfl
theorem xz_64_21 : xm_run call xm_c64 nL mc ms ret Q (f + 1) (xm_drop 21 xm_c64) lv st G E kc ks = ((match xm_get lv 6 with
    | some w => bif xm_isI w then xm_run call xm_c64 nL mc ms ret Q f (xm_drop 22 xm_c64) lv (w :: st) G E kc ks else false
    | none => false)) := rfl
theorem xz_64_22 : xm_run call xm_c64 nL mc ms ret Q (f + 1) (xm_drop 22 xm_c64) lv st G E kc ks = (xm_iald st G E (fun st E => xm_run call xm_c64 nL mc ms ret Q f (xm_drop 23 xm_c64) lv st G E kc ks)) := rfl
theorem xz_64_23 : xm_run call xm_c64 nL mc ms ret Q (f + 1) (xm_drop 23 xm_c64) lv st G E kc ks = (xm_run call xm_c64 nL mc ms ret Q f (xm_drop 24 xm_c64) lv ((.int 4) :: st) G E kc ks) := rfl
theorem xz_64_24 : xm_run call xm_c64 nL mc ms ret Q (f + 1) (xm_drop 24 xm_c64) lv st G E kc ks = (xm_ishr st E (fun st E => xm_run call xm_c64 nL mc ms ret Q f (xm_drop 25 xm_c64) lv st G E kc ks)) := rfl
theorem xz_64_25 : xm_run call xm_c64 nL mc ms ret Q (f + 1) (xm_drop 25 xm_c64) lv st G E kc ks = ((match st with
    | w :: st => bif xm_isI w && Nat.blt 8 nL then xm_run call xm_c64 nL mc ms ret Q f (xm_drop 26 xm_c64) (xm_set1 lv 8 w) st G E kc ks else false
    | _ => false)) := rfl
theorem xz_64_26 : xm_run call xm_c64 nL mc ms ret Q (f + 1) (xm_drop 26 xm_c64) lv st G E kc ks = ((match xm_get lv 7 with
    | some w => bif xm_isI w then xm_run call xm_c64 nL mc ms ret Q f (xm_drop 27 xm_c64) lv (w :: st) G E kc ks else false
    | none => false)) := rfl
theorem xz_64_27 : xm_run call xm_c64 nL mc ms ret Q (f + 1) (xm_drop 27 xm_c64) lv st G E kc ks = ((match st with
    | w :: st => xm_cmpI E w (.int 0) (fun E s => bif xm_holds .eq s then xm_run call xm_c64 nL mc ms ret Q f (xm_drop 31 xm_c64) lv st G E kc ks else xm_run call xm_c64 nL mc ms ret Q f (xm_drop 28 xm_c64) lv st G E kc ks)
    | _ => false)) := rfl
theorem xz_64_28 : xm_run call xm_c64 nL mc ms ret Q (f + 1) (xm_drop 28 xm_c64) lv st G E kc ks = ((match xm_get lv 7 with
    | some w => bif xm_isI w then xm_run call xm_c64 nL mc ms ret Q f (xm_drop 29 xm_c64) lv (w :: st) G E kc ks else false
    | none => false)) := rfl
theorem xz_64_29 : xm_run call xm_c64 nL mc ms ret Q (f + 1) (xm_drop 29 xm_c64) lv st G E kc ks = (xm_run call xm_c64 nL mc ms ret Q f (xm_drop 30 xm_c64) lv ((.int 1) :: st) G E kc ks) := rfl
theorem xz_64_30 : xm_run call xm_c64 nL mc ms ret Q (f + 1) (xm_drop 30 xm_c64) lv st G E kc ks = ((match st with
    | w :: u :: st => xm_cmpI E u w (fun E s => bif xm_holds .ne s then xm_run call xm_c64 nL mc ms ret Q f (xm_drop 54 xm_c64) lv st G E kc ks else xm_run call xm_c64 nL mc ms ret Q f (xm_drop 31 xm_c64) lv st G E kc ks)
    | _ => false)) := rfl
theorem xz_64_31 : xm_run call xm_c64 nL mc ms ret Q (f + 1) (xm_drop 31 xm_c64) lv st G E kc ks = ((match xm_get lv 5 with
    | some w => bif xm_isI w then xm_run call xm_c64 nL mc ms ret Q f (xm_drop 32 xm_c64) lv (w :: st) G E kc ks else false
    | none => false)) := rfl
theorem xz_64_32 : xm_run call xm_c64 nL mc ms ret Q (f + 1) (xm_drop 32 xm_c64) lv st G E kc ks = ((match xm_get lv 4 with
    | some w => bif xm_isA w then xm_run call xm_c64 nL mc ms ret Q f (xm_drop 33 xm_c64) lv (w :: st) G E kc ks else false
    | none => false)) := rfl
theorem xz_64_33 : xm_run call xm_c64 nL mc ms ret Q (f + 1) (xm_drop 33 xm_c64) lv st G E kc ks = (xm_alen st G (fun st => xm_run call xm_c64 nL mc ms ret Q f (xm_drop 34 xm_c64) lv st G E kc ks)) := rfl
theorem xz_64_34 : xm_run call xm_c64 nL mc ms ret Q (f + 1) (xm_drop 34 xm_c64) lv st G E kc ks = ((match st with
    | w :: u :: st => xm_cmpI E u w (fun E s => bif xm_holds .ge s then xm_run call xm_c64 nL mc ms ret Q f (xm_drop 228 xm_c64) lv st G E kc ks else xm_run call xm_c64 nL mc ms ret Q f (xm_drop 35 xm_c64) lv st G E kc ks)
    | _ => false)) := rfl
theorem xz_64_35 : xm_run call xm_c64 nL mc ms ret Q (f + 1) (xm_drop 35 xm_c64) lv st G E kc ks = ((match xm_get lv 7 with
    | some w => bif xm_isI w then xm_run call xm_c64 nL mc ms ret Q f (xm_drop 36 xm_c64) lv (w :: st) G E kc ks else false
    | none => false)) := rfl
theorem xz_64_36 : xm_run call xm_c64 nL mc ms ret Q (f + 1) (xm_drop 36 xm_c64) lv st G E kc ks = ((match st with
    | w :: st => xm_cmpI E w (.int 0) (fun E s => bif xm_holds .eq s then xm_run call xm_c64 nL mc ms ret Q f (xm_drop 41 xm_c64) lv st G E kc ks else xm_run call xm_c64 nL mc ms ret Q f (xm_drop 37 xm_c64) lv st G E kc ks)
    | _ => false)) := rfl
theorem xz_64_37 : xm_run call xm_c64 nL mc ms ret Q (f + 1) (xm_drop 37 xm_c64) lv st G E kc ks = ((match xm_get lv 8 with
    | some w => bif xm_isI w then xm_run call xm_c64 nL mc ms ret Q f (xm_drop 38 xm_c64) lv (w :: st) G E kc ks else false
    | none => false)) := rfl
theorem xz_64_38 : xm_run call xm_c64 nL mc ms ret Q (f + 1) (xm_drop 38 xm_c64) lv st G E kc ks = ((match xm_get lv 3 with
    | some w => bif xm_isA w then xm_run call xm_c64 nL mc ms ret Q f (xm_drop 39 xm_c64) lv (w :: st) G E kc ks else false
    | none => false)) := rfl
theorem xz_64_39 : xm_run call xm_c64 nL mc ms ret Q (f + 1) (xm_drop 39 xm_c64) lv st G E kc ks = (xm_alen st G (fun st => xm_run call xm_c64 nL mc ms ret Q f (xm_drop 40 xm_c64) lv st G E kc ks)) := rfl
theorem xz_64_40 : xm_run call xm_c64 nL mc ms ret Q (f + 1) (xm_drop 40 xm_c64) lv st G E kc ks = ((match st with
    | w :: u :: st => xm_cmpI E u w (fun E s => bif xm_holds .ge s then xm_run call xm_c64 nL mc ms ret Q f (xm_drop 228 xm_c64) lv st G E kc ks else xm_run call xm_c64 nL mc ms ret Q f (xm_drop 41 xm_c64) lv st G E kc ks)
    | _ => false)) := rfl
theorem xz_64_41 : xm_run call xm_c64 nL mc ms ret Q (f + 1) (xm_drop 41 xm_c64) lv st G E kc ks = ((match xm_get lv 4 with
    | some w => bif xm_isA w then xm_run call xm_c64 nL mc ms ret Q f (xm_drop 42 xm_c64) lv (w :: st) G E kc ks else false
    | none => false)) := rfl
theorem xz_64_42 : xm_run call xm_c64 nL mc ms ret Q (f + 1) (xm_drop 42 xm_c64) lv st G E kc ks = ((match xm_get lv 5 with
    | some w => bif xm_isI w then xm_run call xm_c64 nL mc ms ret Q f (xm_drop 43 xm_c64) lv (w :: st) G E kc ks else false
    | none => false)) := rfl
theorem xz_64_43 : xm_run call xm_c64 nL mc ms ret Q (f + 1) (xm_drop 43 xm_c64) lv st G E kc ks = ((match xm_get lv 7 with
    | some w => bif xm_isI w then xm_run call xm_c64 nL mc ms ret Q f (xm_drop 44 xm_c64) lv (w :: st) G E kc ks else false
    | none => false)) := rfl
theorem xz_64_44 : xm_run call xm_c64 nL mc ms ret Q (f + 1) (xm_drop 44 xm_c64) lv st G E kc ks = ((match st with
    | w :: st => xm_cmpI E w (.int 0) (fun E s => bif xm_holds .ne s then xm_run call xm_c64 nL mc ms ret Q f (xm_drop 48 xm_c64) lv st G E kc ks else xm_run call xm_c64 nL mc ms ret Q f (xm_drop 45 xm_c64) lv st G E kc ks)
    | _ => false)) := rfl
theorem xz_64_45 : xm_run call xm_c64 nL mc ms ret Q (f + 1) (xm_drop 45 xm_c64) lv st G E kc ks = ((match xm_get lv 8 with
    | some w => bif xm_isI w then xm_run call xm_c64 nL mc ms ret Q f (xm_drop 46 xm_c64) lv (w :: st) G E kc ks else false
    | none => false)) := rfl
theorem xz_64_46 : xm_run call xm_c64 nL mc ms ret Q (f + 1) (xm_drop 46 xm_c64) lv st G E kc ks = (xm_i2l st (fun st => xm_run call xm_c64 nL mc ms ret Q f (xm_drop 47 xm_c64) lv st G E kc ks)) := rfl
theorem xz_64_47 : xm_run call xm_c64 nL mc ms ret Q (f + 1) (xm_drop 47 xm_c64) lv st G E kc ks = (xm_run call xm_c64 nL mc ms ret Q f (xm_drop 51 xm_c64) lv st G E kc ks) := rfl
theorem xz_64_48 : xm_run call xm_c64 nL mc ms ret Q (f + 1) (xm_drop 48 xm_c64) lv st G E kc ks = ((match xm_get lv 3 with
    | some w => bif xm_isA w then xm_run call xm_c64 nL mc ms ret Q f (xm_drop 49 xm_c64) lv (w :: st) G E kc ks else false
    | none => false)) := rfl
theorem xz_64_49 : xm_run call xm_c64 nL mc ms ret Q (f + 1) (xm_drop 49 xm_c64) lv st G E kc ks = ((match xm_get lv 8 with
    | some w => bif xm_isI w then xm_run call xm_c64 nL mc ms ret Q f (xm_drop 50 xm_c64) lv (w :: st) G E kc ks else false
    | none => false)) := rfl
theorem xz_64_50 : xm_run call xm_c64 nL mc ms ret Q (f + 1) (xm_drop 50 xm_c64) lv st G E kc ks = (xm_ald (fun t => Nat.beq t 102) st G E (fun st E => xm_run call xm_c64 nL mc ms ret Q f (xm_drop 51 xm_c64) lv st G E kc ks)) := rfl
theorem xz_64_51 : xm_run call xm_c64 nL mc ms ret Q (f + 1) (xm_drop 51 xm_c64) lv st G E kc ks = (xm_ast (fun t => Nat.beq t 102) xm_kL st G E (fun st G E => xm_run call xm_c64 nL mc ms ret Q f (xm_drop 52 xm_c64) lv st G E kc ks)) := rfl
theorem xz_64_52 : xm_run call xm_c64 nL mc ms ret Q (f + 1) (xm_drop 52 xm_c64) lv st G E kc ks = ((match xm_get lv 5 with
    | some w => bif Nat.blt 5 nL then xm_conc E w (fun E x => xm_frc (x + Int32.ofInt 1) (fun z => xm_run call xm_c64 nL mc ms ret Q f (xm_drop 53 xm_c64) (xm_set1 lv 5 (.int z)) st G E kc ks)) else false
    | none => false)) := rfl
theorem xz_64_53 : xm_run call xm_c64 nL mc ms ret Q (f + 1) (xm_drop 53 xm_c64) lv st G E kc ks = (xm_run call xm_c64 nL mc ms ret Q f (xm_drop 228 xm_c64) lv st G E kc ks) := rfl
theorem xz_64_54 : xm_run call xm_c64 nL mc ms ret Q (f + 1) (xm_drop 54 xm_c64) lv st G E kc ks = ((match xm_get lv 7 with
    | some w => bif xm_isI w then xm_run call xm_c64 nL mc ms ret Q f (xm_drop 55 xm_c64) lv (w :: st) G E kc ks else false
    | none => false)) := rfl
theorem xz_64_55 : xm_run call xm_c64 nL mc ms ret Q (f + 1) (xm_drop 55 xm_c64) lv st G E kc ks = (xm_run call xm_c64 nL mc ms ret Q f (xm_drop 56 xm_c64) lv ((.int 14) :: st) G E kc ks) := rfl
theorem xz_64_56 : xm_run call xm_c64 nL mc ms ret Q (f + 1) (xm_drop 56 xm_c64) lv st G E kc ks = ((match st with
    | w :: u :: st => xm_cmpI E u w (fun E s => bif xm_holds .ne s then xm_run call xm_c64 nL mc ms ret Q f (xm_drop 73 xm_c64) lv st G E kc ks else xm_run call xm_c64 nL mc ms ret Q f (xm_drop 57 xm_c64) lv st G E kc ks)
    | _ => false)) := rfl
theorem xz_64_57 : xm_run call xm_c64 nL mc ms ret Q (f + 1) (xm_drop 57 xm_c64) lv st G E kc ks = ((match xm_get lv 5 with
    | some w => bif xm_isI w then xm_run call xm_c64 nL mc ms ret Q f (xm_drop 58 xm_c64) lv (w :: st) G E kc ks else false
    | none => false)) := rfl
theorem xz_64_58 : xm_run call xm_c64 nL mc ms ret Q (f + 1) (xm_drop 58 xm_c64) lv st G E kc ks = (xm_run call xm_c64 nL mc ms ret Q f (xm_drop 59 xm_c64) lv ((.int 1) :: st) G E kc ks) := rfl
theorem xz_64_59 : xm_run call xm_c64 nL mc ms ret Q (f + 1) (xm_drop 59 xm_c64) lv st G E kc ks = ((match st with
    | w :: u :: st => xm_cmpI E u w (fun E s => bif xm_holds .lt s then xm_run call xm_c64 nL mc ms ret Q f (xm_drop 228 xm_c64) lv st G E kc ks else xm_run call xm_c64 nL mc ms ret Q f (xm_drop 60 xm_c64) lv st G E kc ks)
    | _ => false)) := rfl
theorem xz_64_60 : xm_run call xm_c64 nL mc ms ret Q (f + 1) (xm_drop 60 xm_c64) lv st G E kc ks = ((match xm_get lv 4 with
    | some w => bif xm_isA w then xm_run call xm_c64 nL mc ms ret Q f (xm_drop 61 xm_c64) lv (w :: st) G E kc ks else false
    | none => false)) := rfl
theorem xz_64_61 : xm_run call xm_c64 nL mc ms ret Q (f + 1) (xm_drop 61 xm_c64) lv st G E kc ks = ((match xm_get lv 5 with
    | some w => bif xm_isI w then xm_run call xm_c64 nL mc ms ret Q f (xm_drop 62 xm_c64) lv (w :: st) G E kc ks else false
    | none => false)) := rfl
theorem xz_64_62 : xm_run call xm_c64 nL mc ms ret Q (f + 1) (xm_drop 62 xm_c64) lv st G E kc ks = (xm_run call xm_c64 nL mc ms ret Q f (xm_drop 63 xm_c64) lv ((.int 1) :: st) G E kc ks) := rfl
theorem xz_64_63 : xm_run call xm_c64 nL mc ms ret Q (f + 1) (xm_drop 63 xm_c64) lv st G E kc ks = (xm_int2 .isub st E (fun st E => xm_run call xm_c64 nL mc ms ret Q f (xm_drop 64 xm_c64) lv st G E kc ks)) := rfl
theorem xz_64_64 : xm_run call xm_c64 nL mc ms ret Q (f + 1) (xm_drop 64 xm_c64) lv st G E kc ks = (xm_run call xm_c64 nL mc ms ret Q f (xm_drop 65 xm_c64) lv ((.long 1) :: st) G E kc ks) := rfl
theorem xz_64_65 : xm_run call xm_c64 nL mc ms ret Q (f + 1) (xm_drop 65 xm_c64) lv st G E kc ks = ((match xm_get lv 4 with
    | some w => bif xm_isA w then xm_run call xm_c64 nL mc ms ret Q f (xm_drop 66 xm_c64) lv (w :: st) G E kc ks else false
    | none => false)) := rfl
theorem xz_64_66 : xm_run call xm_c64 nL mc ms ret Q (f + 1) (xm_drop 66 xm_c64) lv st G E kc ks = ((match xm_get lv 5 with
    | some w => bif xm_isI w then xm_run call xm_c64 nL mc ms ret Q f (xm_drop 67 xm_c64) lv (w :: st) G E kc ks else false
    | none => false)) := rfl
theorem xz_64_67 : xm_run call xm_c64 nL mc ms ret Q (f + 1) (xm_drop 67 xm_c64) lv st G E kc ks = (xm_run call xm_c64 nL mc ms ret Q f (xm_drop 68 xm_c64) lv ((.int 1) :: st) G E kc ks) := rfl
theorem xz_64_68 : xm_run call xm_c64 nL mc ms ret Q (f + 1) (xm_drop 68 xm_c64) lv st G E kc ks = (xm_int2 .isub st E (fun st E => xm_run call xm_c64 nL mc ms ret Q f (xm_drop 69 xm_c64) lv st G E kc ks)) := rfl
theorem xz_64_69 : xm_run call xm_c64 nL mc ms ret Q (f + 1) (xm_drop 69 xm_c64) lv st G E kc ks = (xm_ald (fun t => Nat.beq t 102) st G E (fun st E => xm_run call xm_c64 nL mc ms ret Q f (xm_drop 70 xm_c64) lv st G E kc ks)) := rfl
theorem xz_64_70 : xm_run call xm_c64 nL mc ms ret Q (f + 1) (xm_drop 70 xm_c64) lv st G E kc ks = (xm_long2 .lsub st (fun st => xm_run call xm_c64 nL mc ms ret Q f (xm_drop 71 xm_c64) lv st G E kc ks)) := rfl
theorem xz_64_71 : xm_run call xm_c64 nL mc ms ret Q (f + 1) (xm_drop 71 xm_c64) lv st G E kc ks = (xm_ast (fun t => Nat.beq t 102) xm_kL st G E (fun st G E => xm_run call xm_c64 nL mc ms ret Q f (xm_drop 72 xm_c64) lv st G E kc ks)) := rfl
theorem xz_64_72 : xm_run call xm_c64 nL mc ms ret Q (f + 1) (xm_drop 72 xm_c64) lv st G E kc ks = (xm_run call xm_c64 nL mc ms ret Q f (xm_drop 228 xm_c64) lv st G E kc ks) := rfl
theorem xz_64_73 : xm_run call xm_c64 nL mc ms ret Q (f + 1) (xm_drop 73 xm_c64) lv st G E kc ks = ((match xm_get lv 5 with
    | some w => bif xm_isI w then xm_run call xm_c64 nL mc ms ret Q f (xm_drop 74 xm_c64) lv (w :: st) G E kc ks else false
    | none => false)) := rfl
theorem xz_64_74 : xm_run call xm_c64 nL mc ms ret Q (f + 1) (xm_drop 74 xm_c64) lv st G E kc ks = (xm_run call xm_c64 nL mc ms ret Q f (xm_drop 75 xm_c64) lv ((.int 2) :: st) G E kc ks) := rfl
theorem xz_64_75 : xm_run call xm_c64 nL mc ms ret Q (f + 1) (xm_drop 75 xm_c64) lv st G E kc ks = ((match st with
    | w :: u :: st => xm_cmpI E u w (fun E s => bif xm_holds .lt s then xm_run call xm_c64 nL mc ms ret Q f (xm_drop 228 xm_c64) lv st G E kc ks else xm_run call xm_c64 nL mc ms ret Q f (xm_drop 76 xm_c64) lv st G E kc ks)
    | _ => false)) := rfl
theorem xz_64_76 : xm_run call xm_c64 nL mc ms ret Q (f + 1) (xm_drop 76 xm_c64) lv st G E kc ks = ((match xm_get lv 5 with
    | some w => bif Nat.blt 5 nL then xm_conc E w (fun E x => xm_frc (x + Int32.ofInt (-1)) (fun z => xm_run call xm_c64 nL mc ms ret Q f (xm_drop 77 xm_c64) (xm_set1 lv 5 (.int z)) st G E kc ks)) else false
    | none => false)) := rfl
theorem xz_64_77 : xm_run call xm_c64 nL mc ms ret Q (f + 1) (xm_drop 77 xm_c64) lv st G E kc ks = ((match xm_get lv 4 with
    | some w => bif xm_isA w then xm_run call xm_c64 nL mc ms ret Q f (xm_drop 78 xm_c64) lv (w :: st) G E kc ks else false
    | none => false)) := rfl
theorem xz_64_78 : xm_run call xm_c64 nL mc ms ret Q (f + 1) (xm_drop 78 xm_c64) lv st G E kc ks = ((match xm_get lv 5 with
    | some w => bif xm_isI w then xm_run call xm_c64 nL mc ms ret Q f (xm_drop 79 xm_c64) lv (w :: st) G E kc ks else false
    | none => false)) := rfl
theorem xz_64_79 : xm_run call xm_c64 nL mc ms ret Q (f + 1) (xm_drop 79 xm_c64) lv st G E kc ks = (xm_run call xm_c64 nL mc ms ret Q f (xm_drop 80 xm_c64) lv ((.int 1) :: st) G E kc ks) := rfl
theorem xz_64_80 : xm_run call xm_c64 nL mc ms ret Q (f + 1) (xm_drop 80 xm_c64) lv st G E kc ks = (xm_int2 .isub st E (fun st E => xm_run call xm_c64 nL mc ms ret Q f (xm_drop 81 xm_c64) lv st G E kc ks)) := rfl
theorem xz_64_81 : xm_run call xm_c64 nL mc ms ret Q (f + 1) (xm_drop 81 xm_c64) lv st G E kc ks = (xm_ald (fun t => Nat.beq t 102) st G E (fun st E => xm_run call xm_c64 nL mc ms ret Q f (xm_drop 82 xm_c64) lv st G E kc ks)) := rfl
theorem xz_64_82 : xm_run call xm_c64 nL mc ms ret Q (f + 1) (xm_drop 82 xm_c64) lv st G E kc ks = ((match st with
    | w :: st => bif xm_isL w && Nat.blt (9 + 1) nL then xm_run call xm_c64 nL mc ms ret Q f (xm_drop 83 xm_c64) (xm_set2 lv 9 w) st G E kc ks else false
    | _ => false)) := rfl
theorem xz_64_83 : xm_run call xm_c64 nL mc ms ret Q (f + 1) (xm_drop 83 xm_c64) lv st G E kc ks = ((match xm_get lv 4 with
    | some w => bif xm_isA w then xm_run call xm_c64 nL mc ms ret Q f (xm_drop 84 xm_c64) lv (w :: st) G E kc ks else false
    | none => false)) := rfl
theorem xz_64_84 : xm_run call xm_c64 nL mc ms ret Q (f + 1) (xm_drop 84 xm_c64) lv st G E kc ks = ((match xm_get lv 5 with
    | some w => bif xm_isI w then xm_run call xm_c64 nL mc ms ret Q f (xm_drop 85 xm_c64) lv (w :: st) G E kc ks else false
    | none => false)) := rfl
theorem xz_64_85 : xm_run call xm_c64 nL mc ms ret Q (f + 1) (xm_drop 85 xm_c64) lv st G E kc ks = (xm_ald (fun t => Nat.beq t 102) st G E (fun st E => xm_run call xm_c64 nL mc ms ret Q f (xm_drop 86 xm_c64) lv st G E kc ks)) := rfl
theorem xz_64_86 : xm_run call xm_c64 nL mc ms ret Q (f + 1) (xm_drop 86 xm_c64) lv st G E kc ks = ((match st with
    | w :: st => bif xm_isL w && Nat.blt (11 + 1) nL then xm_run call xm_c64 nL mc ms ret Q f (xm_drop 87 xm_c64) (xm_set2 lv 11 w) st G E kc ks else false
    | _ => false)) := rfl
theorem xz_64_87 : xm_run call xm_c64 nL mc ms ret Q (f + 1) (xm_drop 87 xm_c64) lv st G E kc ks = ((match xm_get lv 7 with
    | some w => bif xm_isI w then xm_run call xm_c64 nL mc ms ret Q f (xm_drop 88 xm_c64) lv (w :: st) G E kc ks else false
    | none => false)) := rfl
theorem xz_64_88 : xm_run call xm_c64 nL mc ms ret Q (f + 1) (xm_drop 88 xm_c64) lv st G E kc ks = ((match st with
    | w :: st => xm_table 2 220 [89, 98, 107, 116, 131, 146, 159, 172, 185, 198, 211] w E (fun E t => xm_run call xm_c64 nL mc ms ret Q f (xm_drop t xm_c64) lv st G E kc ks)
    | _ => false)) := rfl
theorem xz_64_89 : xm_run call xm_c64 nL mc ms ret Q (f + 1) (xm_drop 89 xm_c64) lv st G E kc ks = ((match xm_get lv 4 with
    | some w => bif xm_isA w then xm_run call xm_c64 nL mc ms ret Q f (xm_drop 90 xm_c64) lv (w :: st) G E kc ks else false
    | none => false)) := rfl
theorem xz_64_90 : xm_run call xm_c64 nL mc ms ret Q (f + 1) (xm_drop 90 xm_c64) lv st G E kc ks = ((match xm_get lv 5 with
    | some w => bif xm_isI w then xm_run call xm_c64 nL mc ms ret Q f (xm_drop 91 xm_c64) lv (w :: st) G E kc ks else false
    | none => false)) := rfl
theorem xz_64_91 : xm_run call xm_c64 nL mc ms ret Q (f + 1) (xm_drop 91 xm_c64) lv st G E kc ks = (xm_run call xm_c64 nL mc ms ret Q f (xm_drop 92 xm_c64) lv ((.int 1) :: st) G E kc ks) := rfl
theorem xz_64_92 : xm_run call xm_c64 nL mc ms ret Q (f + 1) (xm_drop 92 xm_c64) lv st G E kc ks = (xm_int2 .isub st E (fun st E => xm_run call xm_c64 nL mc ms ret Q f (xm_drop 93 xm_c64) lv st G E kc ks)) := rfl
theorem xz_64_93 : xm_run call xm_c64 nL mc ms ret Q (f + 1) (xm_drop 93 xm_c64) lv st G E kc ks = ((match xm_get lv 9 with
    | some w => bif xm_isL w then xm_run call xm_c64 nL mc ms ret Q f (xm_drop 94 xm_c64) lv (w :: st) G E kc ks else false
    | none => false)) := rfl
theorem xz_64_94 : xm_run call xm_c64 nL mc ms ret Q (f + 1) (xm_drop 94 xm_c64) lv st G E kc ks = ((match xm_get lv 11 with
    | some w => bif xm_isL w then xm_run call xm_c64 nL mc ms ret Q f (xm_drop 95 xm_c64) lv (w :: st) G E kc ks else false
    | none => false)) := rfl
theorem xz_64_95 : xm_run call xm_c64 nL mc ms ret Q (f + 1) (xm_drop 95 xm_c64) lv st G E kc ks = (xm_long2 .ladd st (fun st => xm_run call xm_c64 nL mc ms ret Q f (xm_drop 96 xm_c64) lv st G E kc ks)) := rfl
theorem xz_64_96 : xm_run call xm_c64 nL mc ms ret Q (f + 1) (xm_drop 96 xm_c64) lv st G E kc ks = (xm_ast (fun t => Nat.beq t 102) xm_kL st G E (fun st G E => xm_run call xm_c64 nL mc ms ret Q f (xm_drop 97 xm_c64) lv st G E kc ks)) := rfl
theorem xz_64_97 : xm_run call xm_c64 nL mc ms ret Q (f + 1) (xm_drop 97 xm_c64) lv st G E kc ks = (xm_run call xm_c64 nL mc ms ret Q f (xm_drop 228 xm_c64) lv st G E kc ks) := rfl
theorem xz_64_98 : xm_run call xm_c64 nL mc ms ret Q (f + 1) (xm_drop 98 xm_c64) lv st G E kc ks = ((match xm_get lv 4 with
    | some w => bif xm_isA w then xm_run call xm_c64 nL mc ms ret Q f (xm_drop 99 xm_c64) lv (w :: st) G E kc ks else false
    | none => false)) := rfl
theorem xz_64_99 : xm_run call xm_c64 nL mc ms ret Q (f + 1) (xm_drop 99 xm_c64) lv st G E kc ks = ((match xm_get lv 5 with
    | some w => bif xm_isI w then xm_run call xm_c64 nL mc ms ret Q f (xm_drop 100 xm_c64) lv (w :: st) G E kc ks else false
    | none => false)) := rfl
theorem xz_64_100 : xm_run call xm_c64 nL mc ms ret Q (f + 1) (xm_drop 100 xm_c64) lv st G E kc ks = (xm_run call xm_c64 nL mc ms ret Q f (xm_drop 101 xm_c64) lv ((.int 1) :: st) G E kc ks) := rfl
theorem xz_64_101 : xm_run call xm_c64 nL mc ms ret Q (f + 1) (xm_drop 101 xm_c64) lv st G E kc ks = (xm_int2 .isub st E (fun st E => xm_run call xm_c64 nL mc ms ret Q f (xm_drop 102 xm_c64) lv st G E kc ks)) := rfl
theorem xz_64_102 : xm_run call xm_c64 nL mc ms ret Q (f + 1) (xm_drop 102 xm_c64) lv st G E kc ks = ((match xm_get lv 9 with
    | some w => bif xm_isL w then xm_run call xm_c64 nL mc ms ret Q f (xm_drop 103 xm_c64) lv (w :: st) G E kc ks else false
    | none => false)) := rfl
theorem xz_64_103 : xm_run call xm_c64 nL mc ms ret Q (f + 1) (xm_drop 103 xm_c64) lv st G E kc ks = ((match xm_get lv 11 with
    | some w => bif xm_isL w then xm_run call xm_c64 nL mc ms ret Q f (xm_drop 104 xm_c64) lv (w :: st) G E kc ks else false
    | none => false)) := rfl
theorem xz_64_104 : xm_run call xm_c64 nL mc ms ret Q (f + 1) (xm_drop 104 xm_c64) lv st G E kc ks = (xm_long2 .lsub st (fun st => xm_run call xm_c64 nL mc ms ret Q f (xm_drop 105 xm_c64) lv st G E kc ks)) := rfl
theorem xz_64_105 : xm_run call xm_c64 nL mc ms ret Q (f + 1) (xm_drop 105 xm_c64) lv st G E kc ks = (xm_ast (fun t => Nat.beq t 102) xm_kL st G E (fun st G E => xm_run call xm_c64 nL mc ms ret Q f (xm_drop 106 xm_c64) lv st G E kc ks)) := rfl
theorem xz_64_106 : xm_run call xm_c64 nL mc ms ret Q (f + 1) (xm_drop 106 xm_c64) lv st G E kc ks = (xm_run call xm_c64 nL mc ms ret Q f (xm_drop 228 xm_c64) lv st G E kc ks) := rfl
theorem xz_64_107 : xm_run call xm_c64 nL mc ms ret Q (f + 1) (xm_drop 107 xm_c64) lv st G E kc ks = ((match xm_get lv 4 with
    | some w => bif xm_isA w then xm_run call xm_c64 nL mc ms ret Q f (xm_drop 108 xm_c64) lv (w :: st) G E kc ks else false
    | none => false)) := rfl
theorem xz_64_108 : xm_run call xm_c64 nL mc ms ret Q (f + 1) (xm_drop 108 xm_c64) lv st G E kc ks = ((match xm_get lv 5 with
    | some w => bif xm_isI w then xm_run call xm_c64 nL mc ms ret Q f (xm_drop 109 xm_c64) lv (w :: st) G E kc ks else false
    | none => false)) := rfl
theorem xz_64_109 : xm_run call xm_c64 nL mc ms ret Q (f + 1) (xm_drop 109 xm_c64) lv st G E kc ks = (xm_run call xm_c64 nL mc ms ret Q f (xm_drop 110 xm_c64) lv ((.int 1) :: st) G E kc ks) := rfl
theorem xz_64_110 : xm_run call xm_c64 nL mc ms ret Q (f + 1) (xm_drop 110 xm_c64) lv st G E kc ks = (xm_int2 .isub st E (fun st E => xm_run call xm_c64 nL mc ms ret Q f (xm_drop 111 xm_c64) lv st G E kc ks)) := rfl
theorem xz_64_111 : xm_run call xm_c64 nL mc ms ret Q (f + 1) (xm_drop 111 xm_c64) lv st G E kc ks = ((match xm_get lv 9 with
    | some w => bif xm_isL w then xm_run call xm_c64 nL mc ms ret Q f (xm_drop 112 xm_c64) lv (w :: st) G E kc ks else false
    | none => false)) := rfl
theorem xz_64_112 : xm_run call xm_c64 nL mc ms ret Q (f + 1) (xm_drop 112 xm_c64) lv st G E kc ks = ((match xm_get lv 11 with
    | some w => bif xm_isL w then xm_run call xm_c64 nL mc ms ret Q f (xm_drop 113 xm_c64) lv (w :: st) G E kc ks else false
    | none => false)) := rfl
theorem xz_64_113 : xm_run call xm_c64 nL mc ms ret Q (f + 1) (xm_drop 113 xm_c64) lv st G E kc ks = (xm_long2 .lmul st (fun st => xm_run call xm_c64 nL mc ms ret Q f (xm_drop 114 xm_c64) lv st G E kc ks)) := rfl
theorem xz_64_114 : xm_run call xm_c64 nL mc ms ret Q (f + 1) (xm_drop 114 xm_c64) lv st G E kc ks = (xm_ast (fun t => Nat.beq t 102) xm_kL st G E (fun st G E => xm_run call xm_c64 nL mc ms ret Q f (xm_drop 115 xm_c64) lv st G E kc ks)) := rfl
theorem xz_64_115 : xm_run call xm_c64 nL mc ms ret Q (f + 1) (xm_drop 115 xm_c64) lv st G E kc ks = (xm_run call xm_c64 nL mc ms ret Q f (xm_drop 228 xm_c64) lv st G E kc ks) := rfl
theorem xz_64_116 : xm_run call xm_c64 nL mc ms ret Q (f + 1) (xm_drop 116 xm_c64) lv st G E kc ks = ((match xm_get lv 4 with
    | some w => bif xm_isA w then xm_run call xm_c64 nL mc ms ret Q f (xm_drop 117 xm_c64) lv (w :: st) G E kc ks else false
    | none => false)) := rfl
theorem xz_64_117 : xm_run call xm_c64 nL mc ms ret Q (f + 1) (xm_drop 117 xm_c64) lv st G E kc ks = ((match xm_get lv 5 with
    | some w => bif xm_isI w then xm_run call xm_c64 nL mc ms ret Q f (xm_drop 118 xm_c64) lv (w :: st) G E kc ks else false
    | none => false)) := rfl
theorem xz_64_118 : xm_run call xm_c64 nL mc ms ret Q (f + 1) (xm_drop 118 xm_c64) lv st G E kc ks = (xm_run call xm_c64 nL mc ms ret Q f (xm_drop 119 xm_c64) lv ((.int 1) :: st) G E kc ks) := rfl
theorem xz_64_119 : xm_run call xm_c64 nL mc ms ret Q (f + 1) (xm_drop 119 xm_c64) lv st G E kc ks = (xm_int2 .isub st E (fun st E => xm_run call xm_c64 nL mc ms ret Q f (xm_drop 120 xm_c64) lv st G E kc ks)) := rfl
theorem xz_64_120 : xm_run call xm_c64 nL mc ms ret Q (f + 1) (xm_drop 120 xm_c64) lv st G E kc ks = ((match xm_get lv 11 with
    | some w => bif xm_isL w then xm_run call xm_c64 nL mc ms ret Q f (xm_drop 121 xm_c64) lv (w :: st) G E kc ks else false
    | none => false)) := rfl
theorem xz_64_121 : xm_run call xm_c64 nL mc ms ret Q (f + 1) (xm_drop 121 xm_c64) lv st G E kc ks = (xm_run call xm_c64 nL mc ms ret Q f (xm_drop 122 xm_c64) lv ((.long 0) :: st) G E kc ks) := rfl
theorem xz_64_122 : xm_run call xm_c64 nL mc ms ret Q (f + 1) (xm_drop 122 xm_c64) lv st G E kc ks = ((match st with
    | w :: u :: st => xm_cmpL E u w (fun E s => xm_run call xm_c64 nL mc ms ret Q f (xm_drop 123 xm_c64) lv (.int (Int32.ofInt s) :: st) G E kc ks)
    | _ => false)) := rfl
theorem xz_64_123 : xm_run call xm_c64 nL mc ms ret Q (f + 1) (xm_drop 123 xm_c64) lv st G E kc ks = ((match st with
    | w :: st => xm_cmpI E w (.int 0) (fun E s => bif xm_holds .ne s then xm_run call xm_c64 nL mc ms ret Q f (xm_drop 126 xm_c64) lv st G E kc ks else xm_run call xm_c64 nL mc ms ret Q f (xm_drop 124 xm_c64) lv st G E kc ks)
    | _ => false)) := rfl
theorem xz_64_124 : xm_run call xm_c64 nL mc ms ret Q (f + 1) (xm_drop 124 xm_c64) lv st G E kc ks = (xm_run call xm_c64 nL mc ms ret Q f (xm_drop 125 xm_c64) lv ((.long 0) :: st) G E kc ks) := rfl
theorem xz_64_125 : xm_run call xm_c64 nL mc ms ret Q (f + 1) (xm_drop 125 xm_c64) lv st G E kc ks = (xm_run call xm_c64 nL mc ms ret Q f (xm_drop 129 xm_c64) lv st G E kc ks) := rfl
theorem xz_64_126 : xm_run call xm_c64 nL mc ms ret Q (f + 1) (xm_drop 126 xm_c64) lv st G E kc ks = ((match xm_get lv 9 with
    | some w => bif xm_isL w then xm_run call xm_c64 nL mc ms ret Q f (xm_drop 127 xm_c64) lv (w :: st) G E kc ks else false
    | none => false)) := rfl
theorem xz_64_127 : xm_run call xm_c64 nL mc ms ret Q (f + 1) (xm_drop 127 xm_c64) lv st G E kc ks = ((match xm_get lv 11 with
    | some w => bif xm_isL w then xm_run call xm_c64 nL mc ms ret Q f (xm_drop 128 xm_c64) lv (w :: st) G E kc ks else false
    | none => false)) := rfl
theorem xz_64_128 : xm_run call xm_c64 nL mc ms ret Q (f + 1) (xm_drop 128 xm_c64) lv st G E kc ks = (xm_long2 .ldiv st (fun st => xm_run call xm_c64 nL mc ms ret Q f (xm_drop 129 xm_c64) lv st G E kc ks)) := rfl
theorem xz_64_129 : xm_run call xm_c64 nL mc ms ret Q (f + 1) (xm_drop 129 xm_c64) lv st G E kc ks = (xm_ast (fun t => Nat.beq t 102) xm_kL st G E (fun st G E => xm_run call xm_c64 nL mc ms ret Q f (xm_drop 130 xm_c64) lv st G E kc ks)) := rfl
theorem xz_64_130 : xm_run call xm_c64 nL mc ms ret Q (f + 1) (xm_drop 130 xm_c64) lv st G E kc ks = (xm_run call xm_c64 nL mc ms ret Q f (xm_drop 228 xm_c64) lv st G E kc ks) := rfl
theorem xz_64_131 : xm_run call xm_c64 nL mc ms ret Q (f + 1) (xm_drop 131 xm_c64) lv st G E kc ks = ((match xm_get lv 4 with
    | some w => bif xm_isA w then xm_run call xm_c64 nL mc ms ret Q f (xm_drop 132 xm_c64) lv (w :: st) G E kc ks else false
    | none => false)) := rfl
theorem xz_64_132 : xm_run call xm_c64 nL mc ms ret Q (f + 1) (xm_drop 132 xm_c64) lv st G E kc ks = ((match xm_get lv 5 with
    | some w => bif xm_isI w then xm_run call xm_c64 nL mc ms ret Q f (xm_drop 133 xm_c64) lv (w :: st) G E kc ks else false
    | none => false)) := rfl
theorem xz_64_133 : xm_run call xm_c64 nL mc ms ret Q (f + 1) (xm_drop 133 xm_c64) lv st G E kc ks = (xm_run call xm_c64 nL mc ms ret Q f (xm_drop 134 xm_c64) lv ((.int 1) :: st) G E kc ks) := rfl
theorem xz_64_134 : xm_run call xm_c64 nL mc ms ret Q (f + 1) (xm_drop 134 xm_c64) lv st G E kc ks = (xm_int2 .isub st E (fun st E => xm_run call xm_c64 nL mc ms ret Q f (xm_drop 135 xm_c64) lv st G E kc ks)) := rfl
theorem xz_64_135 : xm_run call xm_c64 nL mc ms ret Q (f + 1) (xm_drop 135 xm_c64) lv st G E kc ks = ((match xm_get lv 11 with
    | some w => bif xm_isL w then xm_run call xm_c64 nL mc ms ret Q f (xm_drop 136 xm_c64) lv (w :: st) G E kc ks else false
    | none => false)) := rfl
theorem xz_64_136 : xm_run call xm_c64 nL mc ms ret Q (f + 1) (xm_drop 136 xm_c64) lv st G E kc ks = (xm_run call xm_c64 nL mc ms ret Q f (xm_drop 137 xm_c64) lv ((.long 0) :: st) G E kc ks) := rfl
theorem xz_64_137 : xm_run call xm_c64 nL mc ms ret Q (f + 1) (xm_drop 137 xm_c64) lv st G E kc ks = ((match st with
    | w :: u :: st => xm_cmpL E u w (fun E s => xm_run call xm_c64 nL mc ms ret Q f (xm_drop 138 xm_c64) lv (.int (Int32.ofInt s) :: st) G E kc ks)
    | _ => false)) := rfl
theorem xz_64_138 : xm_run call xm_c64 nL mc ms ret Q (f + 1) (xm_drop 138 xm_c64) lv st G E kc ks = ((match st with
    | w :: st => xm_cmpI E w (.int 0) (fun E s => bif xm_holds .ne s then xm_run call xm_c64 nL mc ms ret Q f (xm_drop 141 xm_c64) lv st G E kc ks else xm_run call xm_c64 nL mc ms ret Q f (xm_drop 139 xm_c64) lv st G E kc ks)
    | _ => false)) := rfl
theorem xz_64_139 : xm_run call xm_c64 nL mc ms ret Q (f + 1) (xm_drop 139 xm_c64) lv st G E kc ks = (xm_run call xm_c64 nL mc ms ret Q f (xm_drop 140 xm_c64) lv ((.long 0) :: st) G E kc ks) := rfl
theorem xz_64_140 : xm_run call xm_c64 nL mc ms ret Q (f + 1) (xm_drop 140 xm_c64) lv st G E kc ks = (xm_run call xm_c64 nL mc ms ret Q f (xm_drop 144 xm_c64) lv st G E kc ks) := rfl
theorem xz_64_141 : xm_run call xm_c64 nL mc ms ret Q (f + 1) (xm_drop 141 xm_c64) lv st G E kc ks = ((match xm_get lv 9 with
    | some w => bif xm_isL w then xm_run call xm_c64 nL mc ms ret Q f (xm_drop 142 xm_c64) lv (w :: st) G E kc ks else false
    | none => false)) := rfl
theorem xz_64_142 : xm_run call xm_c64 nL mc ms ret Q (f + 1) (xm_drop 142 xm_c64) lv st G E kc ks = ((match xm_get lv 11 with
    | some w => bif xm_isL w then xm_run call xm_c64 nL mc ms ret Q f (xm_drop 143 xm_c64) lv (w :: st) G E kc ks else false
    | none => false)) := rfl
theorem xz_64_143 : xm_run call xm_c64 nL mc ms ret Q (f + 1) (xm_drop 143 xm_c64) lv st G E kc ks = (xm_long2 .lrem st (fun st => xm_run call xm_c64 nL mc ms ret Q f (xm_drop 144 xm_c64) lv st G E kc ks)) := rfl
theorem xz_64_144 : xm_run call xm_c64 nL mc ms ret Q (f + 1) (xm_drop 144 xm_c64) lv st G E kc ks = (xm_ast (fun t => Nat.beq t 102) xm_kL st G E (fun st G E => xm_run call xm_c64 nL mc ms ret Q f (xm_drop 145 xm_c64) lv st G E kc ks)) := rfl
theorem xz_64_145 : xm_run call xm_c64 nL mc ms ret Q (f + 1) (xm_drop 145 xm_c64) lv st G E kc ks = (xm_run call xm_c64 nL mc ms ret Q f (xm_drop 228 xm_c64) lv st G E kc ks) := rfl
theorem xz_64_146 : xm_run call xm_c64 nL mc ms ret Q (f + 1) (xm_drop 146 xm_c64) lv st G E kc ks = ((match xm_get lv 4 with
    | some w => bif xm_isA w then xm_run call xm_c64 nL mc ms ret Q f (xm_drop 147 xm_c64) lv (w :: st) G E kc ks else false
    | none => false)) := rfl
theorem xz_64_147 : xm_run call xm_c64 nL mc ms ret Q (f + 1) (xm_drop 147 xm_c64) lv st G E kc ks = ((match xm_get lv 5 with
    | some w => bif xm_isI w then xm_run call xm_c64 nL mc ms ret Q f (xm_drop 148 xm_c64) lv (w :: st) G E kc ks else false
    | none => false)) := rfl
theorem xz_64_148 : xm_run call xm_c64 nL mc ms ret Q (f + 1) (xm_drop 148 xm_c64) lv st G E kc ks = (xm_run call xm_c64 nL mc ms ret Q f (xm_drop 149 xm_c64) lv ((.int 1) :: st) G E kc ks) := rfl
theorem xz_64_149 : xm_run call xm_c64 nL mc ms ret Q (f + 1) (xm_drop 149 xm_c64) lv st G E kc ks = (xm_int2 .isub st E (fun st E => xm_run call xm_c64 nL mc ms ret Q f (xm_drop 150 xm_c64) lv st G E kc ks)) := rfl
theorem xz_64_150 : xm_run call xm_c64 nL mc ms ret Q (f + 1) (xm_drop 150 xm_c64) lv st G E kc ks = ((match xm_get lv 9 with
    | some w => bif xm_isL w then xm_run call xm_c64 nL mc ms ret Q f (xm_drop 151 xm_c64) lv (w :: st) G E kc ks else false
    | none => false)) := rfl
theorem xz_64_151 : xm_run call xm_c64 nL mc ms ret Q (f + 1) (xm_drop 151 xm_c64) lv st G E kc ks = ((match xm_get lv 11 with
    | some w => bif xm_isL w then xm_run call xm_c64 nL mc ms ret Q f (xm_drop 152 xm_c64) lv (w :: st) G E kc ks else false
    | none => false)) := rfl
theorem xz_64_152 : xm_run call xm_c64 nL mc ms ret Q (f + 1) (xm_drop 152 xm_c64) lv st G E kc ks = ((match st with
    | w :: u :: st => xm_cmpL E u w (fun E s => xm_run call xm_c64 nL mc ms ret Q f (xm_drop 153 xm_c64) lv (.int (Int32.ofInt s) :: st) G E kc ks)
    | _ => false)) := rfl
theorem xz_64_153 : xm_run call xm_c64 nL mc ms ret Q (f + 1) (xm_drop 153 xm_c64) lv st G E kc ks = ((match st with
    | w :: st => xm_cmpI E w (.int 0) (fun E s => bif xm_holds .ge s then xm_run call xm_c64 nL mc ms ret Q f (xm_drop 156 xm_c64) lv st G E kc ks else xm_run call xm_c64 nL mc ms ret Q f (xm_drop 154 xm_c64) lv st G E kc ks)
    | _ => false)) := rfl
theorem xz_64_154 : xm_run call xm_c64 nL mc ms ret Q (f + 1) (xm_drop 154 xm_c64) lv st G E kc ks = (xm_run call xm_c64 nL mc ms ret Q f (xm_drop 155 xm_c64) lv ((.long 1) :: st) G E kc ks) := rfl
theorem xz_64_155 : xm_run call xm_c64 nL mc ms ret Q (f + 1) (xm_drop 155 xm_c64) lv st G E kc ks = (xm_run call xm_c64 nL mc ms ret Q f (xm_drop 157 xm_c64) lv st G E kc ks) := rfl
theorem xz_64_156 : xm_run call xm_c64 nL mc ms ret Q (f + 1) (xm_drop 156 xm_c64) lv st G E kc ks = (xm_run call xm_c64 nL mc ms ret Q f (xm_drop 157 xm_c64) lv ((.long 0) :: st) G E kc ks) := rfl
theorem xz_64_157 : xm_run call xm_c64 nL mc ms ret Q (f + 1) (xm_drop 157 xm_c64) lv st G E kc ks = (xm_ast (fun t => Nat.beq t 102) xm_kL st G E (fun st G E => xm_run call xm_c64 nL mc ms ret Q f (xm_drop 158 xm_c64) lv st G E kc ks)) := rfl
theorem xz_64_158 : xm_run call xm_c64 nL mc ms ret Q (f + 1) (xm_drop 158 xm_c64) lv st G E kc ks = (xm_run call xm_c64 nL mc ms ret Q f (xm_drop 228 xm_c64) lv st G E kc ks) := rfl
theorem xz_64_159 : xm_run call xm_c64 nL mc ms ret Q (f + 1) (xm_drop 159 xm_c64) lv st G E kc ks = ((match xm_get lv 4 with
    | some w => bif xm_isA w then xm_run call xm_c64 nL mc ms ret Q f (xm_drop 160 xm_c64) lv (w :: st) G E kc ks else false
    | none => false)) := rfl
theorem xz_64_160 : xm_run call xm_c64 nL mc ms ret Q (f + 1) (xm_drop 160 xm_c64) lv st G E kc ks = ((match xm_get lv 5 with
    | some w => bif xm_isI w then xm_run call xm_c64 nL mc ms ret Q f (xm_drop 161 xm_c64) lv (w :: st) G E kc ks else false
    | none => false)) := rfl
theorem xz_64_161 : xm_run call xm_c64 nL mc ms ret Q (f + 1) (xm_drop 161 xm_c64) lv st G E kc ks = (xm_run call xm_c64 nL mc ms ret Q f (xm_drop 162 xm_c64) lv ((.int 1) :: st) G E kc ks) := rfl
theorem xz_64_162 : xm_run call xm_c64 nL mc ms ret Q (f + 1) (xm_drop 162 xm_c64) lv st G E kc ks = (xm_int2 .isub st E (fun st E => xm_run call xm_c64 nL mc ms ret Q f (xm_drop 163 xm_c64) lv st G E kc ks)) := rfl
theorem xz_64_163 : xm_run call xm_c64 nL mc ms ret Q (f + 1) (xm_drop 163 xm_c64) lv st G E kc ks = ((match xm_get lv 9 with
    | some w => bif xm_isL w then xm_run call xm_c64 nL mc ms ret Q f (xm_drop 164 xm_c64) lv (w :: st) G E kc ks else false
    | none => false)) := rfl
theorem xz_64_164 : xm_run call xm_c64 nL mc ms ret Q (f + 1) (xm_drop 164 xm_c64) lv st G E kc ks = ((match xm_get lv 11 with
    | some w => bif xm_isL w then xm_run call xm_c64 nL mc ms ret Q f (xm_drop 165 xm_c64) lv (w :: st) G E kc ks else false
    | none => false)) := rfl
theorem xz_64_165 : xm_run call xm_c64 nL mc ms ret Q (f + 1) (xm_drop 165 xm_c64) lv st G E kc ks = ((match st with
    | w :: u :: st => xm_cmpL E u w (fun E s => xm_run call xm_c64 nL mc ms ret Q f (xm_drop 166 xm_c64) lv (.int (Int32.ofInt s) :: st) G E kc ks)
    | _ => false)) := rfl
theorem xz_64_166 : xm_run call xm_c64 nL mc ms ret Q (f + 1) (xm_drop 166 xm_c64) lv st G E kc ks = ((match st with
    | w :: st => xm_cmpI E w (.int 0) (fun E s => bif xm_holds .gt s then xm_run call xm_c64 nL mc ms ret Q f (xm_drop 169 xm_c64) lv st G E kc ks else xm_run call xm_c64 nL mc ms ret Q f (xm_drop 167 xm_c64) lv st G E kc ks)
    | _ => false)) := rfl
theorem xz_64_167 : xm_run call xm_c64 nL mc ms ret Q (f + 1) (xm_drop 167 xm_c64) lv st G E kc ks = (xm_run call xm_c64 nL mc ms ret Q f (xm_drop 168 xm_c64) lv ((.long 1) :: st) G E kc ks) := rfl
theorem xz_64_168 : xm_run call xm_c64 nL mc ms ret Q (f + 1) (xm_drop 168 xm_c64) lv st G E kc ks = (xm_run call xm_c64 nL mc ms ret Q f (xm_drop 170 xm_c64) lv st G E kc ks) := rfl
theorem xz_64_169 : xm_run call xm_c64 nL mc ms ret Q (f + 1) (xm_drop 169 xm_c64) lv st G E kc ks = (xm_run call xm_c64 nL mc ms ret Q f (xm_drop 170 xm_c64) lv ((.long 0) :: st) G E kc ks) := rfl
theorem xz_64_170 : xm_run call xm_c64 nL mc ms ret Q (f + 1) (xm_drop 170 xm_c64) lv st G E kc ks = (xm_ast (fun t => Nat.beq t 102) xm_kL st G E (fun st G E => xm_run call xm_c64 nL mc ms ret Q f (xm_drop 171 xm_c64) lv st G E kc ks)) := rfl
theorem xz_64_171 : xm_run call xm_c64 nL mc ms ret Q (f + 1) (xm_drop 171 xm_c64) lv st G E kc ks = (xm_run call xm_c64 nL mc ms ret Q f (xm_drop 228 xm_c64) lv st G E kc ks) := rfl
theorem xz_64_172 : xm_run call xm_c64 nL mc ms ret Q (f + 1) (xm_drop 172 xm_c64) lv st G E kc ks = ((match xm_get lv 4 with
    | some w => bif xm_isA w then xm_run call xm_c64 nL mc ms ret Q f (xm_drop 173 xm_c64) lv (w :: st) G E kc ks else false
    | none => false)) := rfl
theorem xz_64_173 : xm_run call xm_c64 nL mc ms ret Q (f + 1) (xm_drop 173 xm_c64) lv st G E kc ks = ((match xm_get lv 5 with
    | some w => bif xm_isI w then xm_run call xm_c64 nL mc ms ret Q f (xm_drop 174 xm_c64) lv (w :: st) G E kc ks else false
    | none => false)) := rfl
theorem xz_64_174 : xm_run call xm_c64 nL mc ms ret Q (f + 1) (xm_drop 174 xm_c64) lv st G E kc ks = (xm_run call xm_c64 nL mc ms ret Q f (xm_drop 175 xm_c64) lv ((.int 1) :: st) G E kc ks) := rfl
theorem xz_64_175 : xm_run call xm_c64 nL mc ms ret Q (f + 1) (xm_drop 175 xm_c64) lv st G E kc ks = (xm_int2 .isub st E (fun st E => xm_run call xm_c64 nL mc ms ret Q f (xm_drop 176 xm_c64) lv st G E kc ks)) := rfl
theorem xz_64_176 : xm_run call xm_c64 nL mc ms ret Q (f + 1) (xm_drop 176 xm_c64) lv st G E kc ks = ((match xm_get lv 9 with
    | some w => bif xm_isL w then xm_run call xm_c64 nL mc ms ret Q f (xm_drop 177 xm_c64) lv (w :: st) G E kc ks else false
    | none => false)) := rfl
theorem xz_64_177 : xm_run call xm_c64 nL mc ms ret Q (f + 1) (xm_drop 177 xm_c64) lv st G E kc ks = ((match xm_get lv 11 with
    | some w => bif xm_isL w then xm_run call xm_c64 nL mc ms ret Q f (xm_drop 178 xm_c64) lv (w :: st) G E kc ks else false
    | none => false)) := rfl
theorem xz_64_178 : xm_run call xm_c64 nL mc ms ret Q (f + 1) (xm_drop 178 xm_c64) lv st G E kc ks = ((match st with
    | w :: u :: st => xm_cmpL E u w (fun E s => xm_run call xm_c64 nL mc ms ret Q f (xm_drop 179 xm_c64) lv (.int (Int32.ofInt s) :: st) G E kc ks)
    | _ => false)) := rfl
theorem xz_64_179 : xm_run call xm_c64 nL mc ms ret Q (f + 1) (xm_drop 179 xm_c64) lv st G E kc ks = ((match st with
    | w :: st => xm_cmpI E w (.int 0) (fun E s => bif xm_holds .ne s then xm_run call xm_c64 nL mc ms ret Q f (xm_drop 182 xm_c64) lv st G E kc ks else xm_run call xm_c64 nL mc ms ret Q f (xm_drop 180 xm_c64) lv st G E kc ks)
    | _ => false)) := rfl
theorem xz_64_180 : xm_run call xm_c64 nL mc ms ret Q (f + 1) (xm_drop 180 xm_c64) lv st G E kc ks = (xm_run call xm_c64 nL mc ms ret Q f (xm_drop 181 xm_c64) lv ((.long 1) :: st) G E kc ks) := rfl
theorem xz_64_181 : xm_run call xm_c64 nL mc ms ret Q (f + 1) (xm_drop 181 xm_c64) lv st G E kc ks = (xm_run call xm_c64 nL mc ms ret Q f (xm_drop 183 xm_c64) lv st G E kc ks) := rfl
theorem xz_64_182 : xm_run call xm_c64 nL mc ms ret Q (f + 1) (xm_drop 182 xm_c64) lv st G E kc ks = (xm_run call xm_c64 nL mc ms ret Q f (xm_drop 183 xm_c64) lv ((.long 0) :: st) G E kc ks) := rfl
theorem xz_64_183 : xm_run call xm_c64 nL mc ms ret Q (f + 1) (xm_drop 183 xm_c64) lv st G E kc ks = (xm_ast (fun t => Nat.beq t 102) xm_kL st G E (fun st G E => xm_run call xm_c64 nL mc ms ret Q f (xm_drop 184 xm_c64) lv st G E kc ks)) := rfl
theorem xz_64_184 : xm_run call xm_c64 nL mc ms ret Q (f + 1) (xm_drop 184 xm_c64) lv st G E kc ks = (xm_run call xm_c64 nL mc ms ret Q f (xm_drop 228 xm_c64) lv st G E kc ks) := rfl
theorem xz_64_185 : xm_run call xm_c64 nL mc ms ret Q (f + 1) (xm_drop 185 xm_c64) lv st G E kc ks = ((match xm_get lv 4 with
    | some w => bif xm_isA w then xm_run call xm_c64 nL mc ms ret Q f (xm_drop 186 xm_c64) lv (w :: st) G E kc ks else false
    | none => false)) := rfl
theorem xz_64_186 : xm_run call xm_c64 nL mc ms ret Q (f + 1) (xm_drop 186 xm_c64) lv st G E kc ks = ((match xm_get lv 5 with
    | some w => bif xm_isI w then xm_run call xm_c64 nL mc ms ret Q f (xm_drop 187 xm_c64) lv (w :: st) G E kc ks else false
    | none => false)) := rfl
theorem xz_64_187 : xm_run call xm_c64 nL mc ms ret Q (f + 1) (xm_drop 187 xm_c64) lv st G E kc ks = (xm_run call xm_c64 nL mc ms ret Q f (xm_drop 188 xm_c64) lv ((.int 1) :: st) G E kc ks) := rfl
theorem xz_64_188 : xm_run call xm_c64 nL mc ms ret Q (f + 1) (xm_drop 188 xm_c64) lv st G E kc ks = (xm_int2 .isub st E (fun st E => xm_run call xm_c64 nL mc ms ret Q f (xm_drop 189 xm_c64) lv st G E kc ks)) := rfl
theorem xz_64_189 : xm_run call xm_c64 nL mc ms ret Q (f + 1) (xm_drop 189 xm_c64) lv st G E kc ks = ((match xm_get lv 9 with
    | some w => bif xm_isL w then xm_run call xm_c64 nL mc ms ret Q f (xm_drop 190 xm_c64) lv (w :: st) G E kc ks else false
    | none => false)) := rfl
theorem xz_64_190 : xm_run call xm_c64 nL mc ms ret Q (f + 1) (xm_drop 190 xm_c64) lv st G E kc ks = ((match xm_get lv 11 with
    | some w => bif xm_isL w then xm_run call xm_c64 nL mc ms ret Q f (xm_drop 191 xm_c64) lv (w :: st) G E kc ks else false
    | none => false)) := rfl
theorem xz_64_191 : xm_run call xm_c64 nL mc ms ret Q (f + 1) (xm_drop 191 xm_c64) lv st G E kc ks = ((match st with
    | w :: u :: st => xm_cmpL E u w (fun E s => xm_run call xm_c64 nL mc ms ret Q f (xm_drop 192 xm_c64) lv (.int (Int32.ofInt s) :: st) G E kc ks)
    | _ => false)) := rfl
theorem xz_64_192 : xm_run call xm_c64 nL mc ms ret Q (f + 1) (xm_drop 192 xm_c64) lv st G E kc ks = ((match st with
    | w :: st => xm_cmpI E w (.int 0) (fun E s => bif xm_holds .lt s then xm_run call xm_c64 nL mc ms ret Q f (xm_drop 195 xm_c64) lv st G E kc ks else xm_run call xm_c64 nL mc ms ret Q f (xm_drop 193 xm_c64) lv st G E kc ks)
    | _ => false)) := rfl
theorem xz_64_193 : xm_run call xm_c64 nL mc ms ret Q (f + 1) (xm_drop 193 xm_c64) lv st G E kc ks = (xm_run call xm_c64 nL mc ms ret Q f (xm_drop 194 xm_c64) lv ((.long 1) :: st) G E kc ks) := rfl
theorem xz_64_194 : xm_run call xm_c64 nL mc ms ret Q (f + 1) (xm_drop 194 xm_c64) lv st G E kc ks = (xm_run call xm_c64 nL mc ms ret Q f (xm_drop 196 xm_c64) lv st G E kc ks) := rfl
theorem xz_64_195 : xm_run call xm_c64 nL mc ms ret Q (f + 1) (xm_drop 195 xm_c64) lv st G E kc ks = (xm_run call xm_c64 nL mc ms ret Q f (xm_drop 196 xm_c64) lv ((.long 0) :: st) G E kc ks) := rfl
theorem xz_64_196 : xm_run call xm_c64 nL mc ms ret Q (f + 1) (xm_drop 196 xm_c64) lv st G E kc ks = (xm_ast (fun t => Nat.beq t 102) xm_kL st G E (fun st G E => xm_run call xm_c64 nL mc ms ret Q f (xm_drop 197 xm_c64) lv st G E kc ks)) := rfl
theorem xz_64_197 : xm_run call xm_c64 nL mc ms ret Q (f + 1) (xm_drop 197 xm_c64) lv st G E kc ks = (xm_run call xm_c64 nL mc ms ret Q f (xm_drop 228 xm_c64) lv st G E kc ks) := rfl
theorem xz_64_198 : xm_run call xm_c64 nL mc ms ret Q (f + 1) (xm_drop 198 xm_c64) lv st G E kc ks = ((match xm_get lv 4 with
    | some w => bif xm_isA w then xm_run call xm_c64 nL mc ms ret Q f (xm_drop 199 xm_c64) lv (w :: st) G E kc ks else false
    | none => false)) := rfl
theorem xz_64_199 : xm_run call xm_c64 nL mc ms ret Q (f + 1) (xm_drop 199 xm_c64) lv st G E kc ks = ((match xm_get lv 5 with
    | some w => bif xm_isI w then xm_run call xm_c64 nL mc ms ret Q f (xm_drop 200 xm_c64) lv (w :: st) G E kc ks else false
    | none => false)) := rfl
theorem xz_64_200 : xm_run call xm_c64 nL mc ms ret Q (f + 1) (xm_drop 200 xm_c64) lv st G E kc ks = (xm_run call xm_c64 nL mc ms ret Q f (xm_drop 201 xm_c64) lv ((.int 1) :: st) G E kc ks) := rfl
theorem xz_64_201 : xm_run call xm_c64 nL mc ms ret Q (f + 1) (xm_drop 201 xm_c64) lv st G E kc ks = (xm_int2 .isub st E (fun st E => xm_run call xm_c64 nL mc ms ret Q f (xm_drop 202 xm_c64) lv st G E kc ks)) := rfl
theorem xz_64_202 : xm_run call xm_c64 nL mc ms ret Q (f + 1) (xm_drop 202 xm_c64) lv st G E kc ks = ((match xm_get lv 9 with
    | some w => bif xm_isL w then xm_run call xm_c64 nL mc ms ret Q f (xm_drop 203 xm_c64) lv (w :: st) G E kc ks else false
    | none => false)) := rfl
theorem xz_64_203 : xm_run call xm_c64 nL mc ms ret Q (f + 1) (xm_drop 203 xm_c64) lv st G E kc ks = ((match xm_get lv 11 with
    | some w => bif xm_isL w then xm_run call xm_c64 nL mc ms ret Q f (xm_drop 204 xm_c64) lv (w :: st) G E kc ks else false
    | none => false)) := rfl
theorem xz_64_204 : xm_run call xm_c64 nL mc ms ret Q (f + 1) (xm_drop 204 xm_c64) lv st G E kc ks = ((match st with
    | w :: u :: st => xm_cmpL E u w (fun E s => xm_run call xm_c64 nL mc ms ret Q f (xm_drop 205 xm_c64) lv (.int (Int32.ofInt s) :: st) G E kc ks)
    | _ => false)) := rfl
theorem xz_64_205 : xm_run call xm_c64 nL mc ms ret Q (f + 1) (xm_drop 205 xm_c64) lv st G E kc ks = ((match st with
    | w :: st => xm_cmpI E w (.int 0) (fun E s => bif xm_holds .le s then xm_run call xm_c64 nL mc ms ret Q f (xm_drop 208 xm_c64) lv st G E kc ks else xm_run call xm_c64 nL mc ms ret Q f (xm_drop 206 xm_c64) lv st G E kc ks)
    | _ => false)) := rfl
theorem xz_64_206 : xm_run call xm_c64 nL mc ms ret Q (f + 1) (xm_drop 206 xm_c64) lv st G E kc ks = (xm_run call xm_c64 nL mc ms ret Q f (xm_drop 207 xm_c64) lv ((.long 1) :: st) G E kc ks) := rfl
theorem xz_64_207 : xm_run call xm_c64 nL mc ms ret Q (f + 1) (xm_drop 207 xm_c64) lv st G E kc ks = (xm_run call xm_c64 nL mc ms ret Q f (xm_drop 209 xm_c64) lv st G E kc ks) := rfl
theorem xz_64_208 : xm_run call xm_c64 nL mc ms ret Q (f + 1) (xm_drop 208 xm_c64) lv st G E kc ks = (xm_run call xm_c64 nL mc ms ret Q f (xm_drop 209 xm_c64) lv ((.long 0) :: st) G E kc ks) := rfl
theorem xz_64_209 : xm_run call xm_c64 nL mc ms ret Q (f + 1) (xm_drop 209 xm_c64) lv st G E kc ks = (xm_ast (fun t => Nat.beq t 102) xm_kL st G E (fun st G E => xm_run call xm_c64 nL mc ms ret Q f (xm_drop 210 xm_c64) lv st G E kc ks)) := rfl
theorem xz_64_210 : xm_run call xm_c64 nL mc ms ret Q (f + 1) (xm_drop 210 xm_c64) lv st G E kc ks = (xm_run call xm_c64 nL mc ms ret Q f (xm_drop 228 xm_c64) lv st G E kc ks) := rfl
theorem xz_64_211 : xm_run call xm_c64 nL mc ms ret Q (f + 1) (xm_drop 211 xm_c64) lv st G E kc ks = ((match xm_get lv 4 with
    | some w => bif xm_isA w then xm_run call xm_c64 nL mc ms ret Q f (xm_drop 212 xm_c64) lv (w :: st) G E kc ks else false
    | none => false)) := rfl
theorem xz_64_212 : xm_run call xm_c64 nL mc ms ret Q (f + 1) (xm_drop 212 xm_c64) lv st G E kc ks = ((match xm_get lv 5 with
    | some w => bif xm_isI w then xm_run call xm_c64 nL mc ms ret Q f (xm_drop 213 xm_c64) lv (w :: st) G E kc ks else false
    | none => false)) := rfl
theorem xz_64_213 : xm_run call xm_c64 nL mc ms ret Q (f + 1) (xm_drop 213 xm_c64) lv st G E kc ks = (xm_run call xm_c64 nL mc ms ret Q f (xm_drop 214 xm_c64) lv ((.int 1) :: st) G E kc ks) := rfl
theorem xz_64_214 : xm_run call xm_c64 nL mc ms ret Q (f + 1) (xm_drop 214 xm_c64) lv st G E kc ks = (xm_int2 .isub st E (fun st E => xm_run call xm_c64 nL mc ms ret Q f (xm_drop 215 xm_c64) lv st G E kc ks)) := rfl
theorem xz_64_215 : xm_run call xm_c64 nL mc ms ret Q (f + 1) (xm_drop 215 xm_c64) lv st G E kc ks = ((match xm_get lv 9 with
    | some w => bif xm_isL w then xm_run call xm_c64 nL mc ms ret Q f (xm_drop 216 xm_c64) lv (w :: st) G E kc ks else false
    | none => false)) := rfl
theorem xz_64_216 : xm_run call xm_c64 nL mc ms ret Q (f + 1) (xm_drop 216 xm_c64) lv st G E kc ks = ((match xm_get lv 11 with
    | some w => bif xm_isL w then xm_run call xm_c64 nL mc ms ret Q f (xm_drop 217 xm_c64) lv (w :: st) G E kc ks else false
    | none => false)) := rfl
theorem xz_64_217 : xm_run call xm_c64 nL mc ms ret Q (f + 1) (xm_drop 217 xm_c64) lv st G E kc ks = (xm_long2 .land st (fun st => xm_run call xm_c64 nL mc ms ret Q f (xm_drop 218 xm_c64) lv st G E kc ks)) := rfl
theorem xz_64_218 : xm_run call xm_c64 nL mc ms ret Q (f + 1) (xm_drop 218 xm_c64) lv st G E kc ks = (xm_ast (fun t => Nat.beq t 102) xm_kL st G E (fun st G E => xm_run call xm_c64 nL mc ms ret Q f (xm_drop 219 xm_c64) lv st G E kc ks)) := rfl
theorem xz_64_219 : xm_run call xm_c64 nL mc ms ret Q (f + 1) (xm_drop 219 xm_c64) lv st G E kc ks = (xm_run call xm_c64 nL mc ms ret Q f (xm_drop 228 xm_c64) lv st G E kc ks) := rfl
theorem xz_64_220 : xm_run call xm_c64 nL mc ms ret Q (f + 1) (xm_drop 220 xm_c64) lv st G E kc ks = ((match xm_get lv 4 with
    | some w => bif xm_isA w then xm_run call xm_c64 nL mc ms ret Q f (xm_drop 221 xm_c64) lv (w :: st) G E kc ks else false
    | none => false)) := rfl
theorem xz_64_221 : xm_run call xm_c64 nL mc ms ret Q (f + 1) (xm_drop 221 xm_c64) lv st G E kc ks = ((match xm_get lv 5 with
    | some w => bif xm_isI w then xm_run call xm_c64 nL mc ms ret Q f (xm_drop 222 xm_c64) lv (w :: st) G E kc ks else false
    | none => false)) := rfl
theorem xz_64_222 : xm_run call xm_c64 nL mc ms ret Q (f + 1) (xm_drop 222 xm_c64) lv st G E kc ks = (xm_run call xm_c64 nL mc ms ret Q f (xm_drop 223 xm_c64) lv ((.int 1) :: st) G E kc ks) := rfl
theorem xz_64_223 : xm_run call xm_c64 nL mc ms ret Q (f + 1) (xm_drop 223 xm_c64) lv st G E kc ks = (xm_int2 .isub st E (fun st E => xm_run call xm_c64 nL mc ms ret Q f (xm_drop 224 xm_c64) lv st G E kc ks)) := rfl
theorem xz_64_224 : xm_run call xm_c64 nL mc ms ret Q (f + 1) (xm_drop 224 xm_c64) lv st G E kc ks = ((match xm_get lv 9 with
    | some w => bif xm_isL w then xm_run call xm_c64 nL mc ms ret Q f (xm_drop 225 xm_c64) lv (w :: st) G E kc ks else false
    | none => false)) := rfl
theorem xz_64_225 : xm_run call xm_c64 nL mc ms ret Q (f + 1) (xm_drop 225 xm_c64) lv st G E kc ks = ((match xm_get lv 11 with
    | some w => bif xm_isL w then xm_run call xm_c64 nL mc ms ret Q f (xm_drop 226 xm_c64) lv (w :: st) G E kc ks else false
    | none => false)) := rfl
theorem xz_64_226 : xm_run call xm_c64 nL mc ms ret Q (f + 1) (xm_drop 226 xm_c64) lv st G E kc ks = (xm_long2 .lor st (fun st => xm_run call xm_c64 nL mc ms ret Q f (xm_drop 227 xm_c64) lv st G E kc ks)) := rfl
theorem xz_64_227 : xm_run call xm_c64 nL mc ms ret Q (f + 1) (xm_drop 227 xm_c64) lv st G E kc ks = (xm_ast (fun t => Nat.beq t 102) xm_kL st G E (fun st G E => xm_run call xm_c64 nL mc ms ret Q f (xm_drop 228 xm_c64) lv st G E kc ks)) := rfl
theorem xz_64_228 : xm_run call xm_c64 nL mc ms ret Q (f + 1) (xm_drop 228 xm_c64) lv st G E kc ks = ((match xm_get lv 6 with
    | some w => bif Nat.blt 6 nL then xm_conc E w (fun E x => xm_frc (x + Int32.ofInt 1) (fun z => xm_run call xm_c64 nL mc ms ret Q f (xm_drop 229 xm_c64) (xm_set1 lv 6 (.int z)) st G E kc ks)) else false
    | none => false)) := rfl
theorem xz_64_229 : xm_run call xm_c64 nL mc ms ret Q (f + 1) (xm_drop 229 xm_c64) lv st G E kc ks = (xm_run call xm_c64 nL mc ms ret Q f (xm_drop 4 xm_c64) lv st G E kc ks) := rfl
theorem xz_64_230 : xm_run call xm_c64 nL mc ms ret Q (f + 1) (xm_drop 230 xm_c64) lv st G E kc ks = ((match xm_get lv 5 with
    | some w => bif xm_isI w then xm_run call xm_c64 nL mc ms ret Q f (xm_drop 231 xm_c64) lv (w :: st) G E kc ks else false
    | none => false)) := rfl
theorem xz_64_231 : xm_run call xm_c64 nL mc ms ret Q (f + 1) (xm_drop 231 xm_c64) lv st G E kc ks = ((match st with
    | w :: st => xm_cmpI E w (.int 0) (fun E s => bif xm_holds .le s then xm_run call xm_c64 nL mc ms ret Q f (xm_drop 236 xm_c64) lv st G E kc ks else xm_run call xm_c64 nL mc ms ret Q f (xm_drop 232 xm_c64) lv st G E kc ks)
    | _ => false)) := rfl
theorem xz_64_232 : xm_run call xm_c64 nL mc ms ret Q (f + 1) (xm_drop 232 xm_c64) lv st G E kc ks = ((match xm_get lv 4 with
    | some w => bif xm_isA w then xm_run call xm_c64 nL mc ms ret Q f (xm_drop 233 xm_c64) lv (w :: st) G E kc ks else false
    | none => false)) := rfl
theorem xz_64_233 : xm_run call xm_c64 nL mc ms ret Q (f + 1) (xm_drop 233 xm_c64) lv st G E kc ks = (xm_run call xm_c64 nL mc ms ret Q f (xm_drop 234 xm_c64) lv ((.int 0) :: st) G E kc ks) := rfl
theorem xz_64_234 : xm_run call xm_c64 nL mc ms ret Q (f + 1) (xm_drop 234 xm_c64) lv st G E kc ks = (xm_ald (fun t => Nat.beq t 102) st G E (fun st E => xm_run call xm_c64 nL mc ms ret Q f (xm_drop 235 xm_c64) lv st G E kc ks)) := rfl
theorem xz_64_235 : xm_run call xm_c64 nL mc ms ret Q (f + 1) (xm_drop 235 xm_c64) lv st G E kc ks = (xm_run call xm_c64 nL mc ms ret Q f (xm_drop 237 xm_c64) lv st G E kc ks) := rfl
theorem xz_64_236 : xm_run call xm_c64 nL mc ms ret Q (f + 1) (xm_drop 236 xm_c64) lv st G E kc ks = (xm_run call xm_c64 nL mc ms ret Q f (xm_drop 237 xm_c64) lv ((.long 0) :: st) G E kc ks) := rfl
theorem xz_64_237 : xm_run call xm_c64 nL mc ms ret Q (f + 1) (xm_drop 237 xm_c64) lv st G E kc ks = ((match st with
    | [w] => bif xm_isL w && (xm_rok ret w && (Nat.ble kc mc && Nat.ble ks ms)) then Q (some w) G E else false
    | _ => false)) := rfl
end XM
