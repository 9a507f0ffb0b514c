/-! the steps of the law, printed -/
section XM
variable {call : xm_C} {nL mc ms : Nat} {ret : Option FieldType} {Q : xm_Q} {f : Nat} {lv : xm_L} {st : List Value} {G : xm_H} {E : xm_R} {kc ks : Nat}
theorem xz_0_0 : xm_run call xm_c0 nL mc ms ret Q (f + 1) (xm_drop 0 xm_c0) lv st G E kc ks = ((match xm_nth xm_cls 10 with
    | some (_, _, n) => bif Nat.ble (kc + 1) mc && Nat.ble (ks + n) ms then xm_run call xm_c0 nL mc ms ret Q f (xm_drop 1 xm_c0) lv (.ref G.1 :: st) (xm_push G (10, xm_def 10)) E (kc + 1) (ks + n) else false
    | none => false)) := rfl
theorem xz_0_1 : xm_run call xm_c0 nL mc ms ret Q (f + 1) (xm_drop 1 xm_c0) lv st G E kc ks = ((match st with
    | w :: st => bif xm_cat1 w then xm_run call xm_c0 nL mc ms ret Q f (xm_drop 2 xm_c0) lv (w :: w :: st) G E kc ks else false
    | _ => false)) := rfl
theorem xz_0_2 : xm_run call xm_c0 nL mc ms ret Q (f + 1) (xm_drop 2 xm_c0) lv st G E kc ks = (bif Nat.beq 87 1000 then (match st with
      | .ref _ :: st => bif Nat.ble (xm_cats st) 8 then xm_run call xm_c0 nL mc ms ret Q f (xm_drop 3 xm_c0) lv st G E kc ks else false
      | _ => false)
    else bif Nat.beq 2 4 then xm_call call mc ms 87 4 st G E kc ks (fun st G E kc ks => xm_run call xm_c0 nL mc ms ret Q f (xm_drop 3 xm_c0) lv st G E kc ks) else xm_call call mc ms 87 2 st G E kc ks (fun st G E kc ks => xm_run call xm_c0 nL mc ms ret Q f (xm_drop 3 xm_c0) lv st G E kc ks)) := rfl
theorem xz_0_3 : xm_run call xm_c0 nL mc ms ret Q (f + 1) (xm_drop 3 xm_c0) lv st G E kc ks = ((match st with
    | w :: st => bif xm_isA w && Nat.blt 1 nL then xm_run call xm_c0 nL mc ms ret Q f (xm_drop 4 xm_c0) (xm_set1 lv 1 w) st G E kc ks else false
    | _ => false)) := rfl
theorem xz_0_4 : xm_run call xm_c0 nL mc ms ret Q (f + 1) (xm_drop 4 xm_c0) lv st G E kc ks = ((match xm_nth xm_cls 11 with
    | some (_, _, n) => bif Nat.ble (kc + 1) mc && Nat.ble (ks + n) ms then xm_run call xm_c0 nL mc ms ret Q f (xm_drop 5 xm_c0) lv (.ref G.1 :: st) (xm_push G (11, xm_def 11)) E (kc + 1) (ks + n) else false
    | none => false)) := rfl
theorem xz_0_5 : xm_run call xm_c0 nL mc ms ret Q (f + 1) (xm_drop 5 xm_c0) lv st G E kc ks = ((match st with
    | w :: st => bif xm_cat1 w then xm_run call xm_c0 nL mc ms ret Q f (xm_drop 6 xm_c0) lv (w :: w :: st) G E kc ks else false
    | _ => false)) := rfl
theorem xz_0_6 : xm_run call xm_c0 nL mc ms ret Q (f + 1) (xm_drop 6 xm_c0) lv st G E kc ks = (bif Nat.beq 124 1000 then (match st with
      | .ref _ :: st => bif Nat.ble (xm_cats st) 8 then xm_run call xm_c0 nL mc ms ret Q f (xm_drop 7 xm_c0) lv st G E kc ks else false
      | _ => false)
    else bif Nat.beq 2 4 then xm_call call mc ms 124 4 st G E kc ks (fun st G E kc ks => xm_run call xm_c0 nL mc ms ret Q f (xm_drop 7 xm_c0) lv st G E kc ks) else xm_call call mc ms 124 2 st G E kc ks (fun st G E kc ks => xm_run call xm_c0 nL mc ms ret Q f (xm_drop 7 xm_c0) lv st G E kc ks)) := rfl
theorem xz_0_7 : xm_run call xm_c0 nL mc ms ret Q (f + 1) (xm_drop 7 xm_c0) lv st G E kc ks = ((match st with
    | w :: st => bif xm_isA w && Nat.blt 2 nL then xm_run call xm_c0 nL mc ms ret Q f (xm_drop 8 xm_c0) (xm_set1 lv 2 w) st G E kc ks else false
    | _ => false)) := rfl
theorem xz_0_8 : xm_run call xm_c0 nL mc ms ret Q (f + 1) (xm_drop 8 xm_c0) lv st G E kc ks = (xm_run call xm_c0 nL mc ms ret Q f (xm_drop 9 xm_c0) lv ((.int 0) :: st) G E kc ks) := rfl
theorem xz_0_9 : xm_run call xm_c0 nL mc ms ret Q (f + 1) (xm_drop 9 xm_c0) lv st G E kc ks = ((match st with
    | w :: st => bif xm_isI w && Nat.blt 3 nL then xm_run call xm_c0 nL mc ms ret Q f (xm_drop 10 xm_c0) (xm_set1 lv 3 w) st G E kc ks else false
    | _ => false)) := rfl
theorem xz_0_10 : xm_run call xm_c0 nL mc ms ret Q (f + 1) (xm_drop 10 xm_c0) lv st G E kc ks = ((match xm_get lv 3 with
    | some w => bif xm_isI w then xm_run call xm_c0 nL mc ms ret Q f (xm_drop 11 xm_c0) lv (w :: st) G E kc ks else false
    | none => false)) := rfl
theorem xz_0_11 : xm_run call xm_c0 nL mc ms ret Q (f + 1) (xm_drop 11 xm_c0) lv st G E kc ks = ((match xm_get lv 0 with
    | some w => bif xm_isA w then xm_run call xm_c0 nL mc ms ret Q f (xm_drop 12 xm_c0) lv (w :: st) G E kc ks else false
    | none => false)) := rfl
theorem xz_0_12 : xm_run call xm_c0 nL mc ms ret Q (f + 1) (xm_drop 12 xm_c0) lv st G E kc ks = (xm_alen st G (fun st => xm_run call xm_c0 nL mc ms ret Q f (xm_drop 13 xm_c0) lv st G E kc ks)) := rfl
theorem xz_0_13 : xm_run call xm_c0 nL mc ms ret Q (f + 1) (xm_drop 13 xm_c0) lv st G E kc ks = (xm_run call xm_c0 nL mc ms ret Q f (xm_drop 14 xm_c0) lv ((.int 6) :: st) G E kc ks) := rfl
theorem xz_0_14 : xm_run call xm_c0 nL mc ms ret Q (f + 1) (xm_drop 14 xm_c0) lv st G E kc ks = (xm_int2 .isub st E (fun st E => xm_run call xm_c0 nL mc ms ret Q f (xm_drop 15 xm_c0) lv st G E kc ks)) := rfl
theorem xz_0_15 : xm_run call xm_c0 nL mc ms ret Q (f + 1) (xm_drop 15 xm_c0) lv st G E kc ks = ((match st with
    | w :: u :: st => xm_cmpI E u w (fun E s => bif xm_holds .gt s then xm_run call xm_c0 nL mc ms ret Q f (xm_drop 684 xm_c0) lv st G E kc ks else xm_run call xm_c0 nL mc ms ret Q f (xm_drop 16 xm_c0) lv st G E kc ks)
    | _ => false)) := rfl
theorem xz_0_16 : xm_run call xm_c0 nL mc ms ret Q (f + 1) (xm_drop 16 xm_c0) lv st G E kc ks = ((match xm_get lv 0 with
    | some w => bif xm_isA w then xm_run call xm_c0 nL mc ms ret Q f (xm_drop 17 xm_c0) lv (w :: st) G E kc ks else false
    | none => false)) := rfl
theorem xz_0_17 : xm_run call xm_c0 nL mc ms ret Q (f + 1) (xm_drop 17 xm_c0) lv st G E kc ks = ((match xm_get lv 3 with
    | some w => bif xm_isI w then xm_run call xm_c0 nL mc ms ret Q f (xm_drop 18 xm_c0) lv (w :: st) G E kc ks else false
    | none => false)) := rfl
theorem xz_0_18 : xm_run call xm_c0 nL mc ms ret Q (f + 1) (xm_drop 18 xm_c0) lv st G E kc ks = (xm_iald st G E (fun st E => xm_run call xm_c0 nL mc ms ret Q f (xm_drop 19 xm_c0) lv st G E kc ks)) := rfl
theorem xz_0_19 : xm_run call xm_c0 nL mc ms ret Q (f + 1) (xm_drop 19 xm_c0) lv st G E kc ks = (xm_run call xm_c0 nL mc ms ret Q f (xm_drop 20 xm_c0) lv ((.int 31) :: st) G E kc ks) := rfl
theorem xz_0_20 : xm_run call xm_c0 nL mc ms ret Q (f + 1) (xm_drop 20 xm_c0) lv st G E kc ks = (xm_iand st E (fun st E => xm_run call xm_c0 nL mc ms ret Q f (xm_drop 21 xm_c0) lv st G E kc ks)) := rfl
theorem xz_0_21 : xm_run call xm_c0 nL mc ms ret Q (f + 1) (xm_drop 21 xm_c0) lv st G E kc ks = ((match st with
    | w :: st => xm_table 0 682 [22, 79, 96, 103, 110, 127, 154, 181, 208, 215, 242, 269, 286, 303, 310, 327, 354, 371, 418, 445, 462, 479, 506, 543, 560, 577, 594, 631, 648, 665] w E (fun E t => xm_run call xm_c0 nL mc ms ret Q f (xm_drop t xm_c0) lv st G E kc ks)
    | _ => false)) := rfl
theorem xz_0_22 : xm_run call xm_c0 nL mc ms ret Q (f + 1) (xm_drop 22 xm_c0) lv st G E kc ks = ((match xm_get lv 1 with
    | some w => bif xm_isA w then xm_run call xm_c0 nL mc ms ret Q f (xm_drop 23 xm_c0) lv (w :: st) G E kc ks else false
    | none => false)) := rfl
theorem xz_0_23 : xm_run call xm_c0 nL mc ms ret Q (f + 1) (xm_drop 23 xm_c0) lv st G E kc ks = ((match xm_get lv 0 with
    | some w => bif xm_isA w then xm_run call xm_c0 nL mc ms ret Q f (xm_drop 24 xm_c0) lv (w :: st) G E kc ks else false
    | none => false)) := rfl
theorem xz_0_24 : xm_run call xm_c0 nL mc ms ret Q (f + 1) (xm_drop 24 xm_c0) lv st G E kc ks = ((match xm_get lv 3 with
    | some w => bif xm_isI w then xm_run call xm_c0 nL mc ms ret Q f (xm_drop 25 xm_c0) lv (w :: st) G E kc ks else false
    | none => false)) := rfl
theorem xz_0_25 : xm_run call xm_c0 nL mc ms ret Q (f + 1) (xm_drop 25 xm_c0) lv st G E kc ks = (xm_run call xm_c0 nL mc ms ret Q f (xm_drop 26 xm_c0) lv ((.int 1) :: st) G E kc ks) := rfl
theorem xz_0_26 : xm_run call xm_c0 nL mc ms ret Q (f + 1) (xm_drop 26 xm_c0) lv st G E kc ks = (xm_int2 .iadd st E (fun st E => xm_run call xm_c0 nL mc ms ret Q f (xm_drop 27 xm_c0) lv st G E kc ks)) := rfl
theorem xz_0_27 : xm_run call xm_c0 nL mc ms ret Q (f + 1) (xm_drop 27 xm_c0) lv st G E kc ks = (xm_iald st G E (fun st E => xm_run call xm_c0 nL mc ms ret Q f (xm_drop 28 xm_c0) lv st G E kc ks)) := rfl
theorem xz_0_28 : xm_run call xm_c0 nL mc ms ret Q (f + 1) (xm_drop 28 xm_c0) lv st G E kc ks = ((match xm_get lv 0 with
    | some w => bif xm_isA w then xm_run call xm_c0 nL mc ms ret Q f (xm_drop 29 xm_c0) lv (w :: st) G E kc ks else false
    | none => false)) := rfl
theorem xz_0_29 : xm_run call xm_c0 nL mc ms ret Q (f + 1) (xm_drop 29 xm_c0) lv st G E kc ks = ((match xm_get lv 3 with
    | some w => bif xm_isI w then xm_run call xm_c0 nL mc ms ret Q f (xm_drop 30 xm_c0) lv (w :: st) G E kc ks else false
    | none => false)) := rfl
theorem xz_0_30 : xm_run call xm_c0 nL mc ms ret Q (f + 1) (xm_drop 30 xm_c0) lv st G E kc ks = (xm_run call xm_c0 nL mc ms ret Q f (xm_drop 31 xm_c0) lv ((.int 2) :: st) G E kc ks) := rfl
theorem xz_0_31 : xm_run call xm_c0 nL mc ms ret Q (f + 1) (xm_drop 31 xm_c0) lv st G E kc ks = (xm_int2 .iadd st E (fun st E => xm_run call xm_c0 nL mc ms ret Q f (xm_drop 32 xm_c0) lv st G E kc ks)) := rfl
theorem xz_0_32 : xm_run call xm_c0 nL mc ms ret Q (f + 1) (xm_drop 32 xm_c0) lv st G E kc ks = (xm_iald st G E (fun st E => xm_run call xm_c0 nL mc ms ret Q f (xm_drop 33 xm_c0) lv st G E kc ks)) := rfl
theorem xz_0_33 : xm_run call xm_c0 nL mc ms ret Q (f + 1) (xm_drop 33 xm_c0) lv st G E kc ks = ((match xm_get lv 0 with
    | some w => bif xm_isA w then xm_run call xm_c0 nL mc ms ret Q f (xm_drop 34 xm_c0) lv (w :: st) G E kc ks else false
    | none => false)) := rfl
theorem xz_0_34 : xm_run call xm_c0 nL mc ms ret Q (f + 1) (xm_drop 34 xm_c0) lv st G E kc ks = ((match xm_get lv 3 with
    | some w => bif xm_isI w then xm_run call xm_c0 nL mc ms ret Q f (xm_drop 35 xm_c0) lv (w :: st) G E kc ks else false
    | none => false)) := rfl
theorem xz_0_35 : xm_run call xm_c0 nL mc ms ret Q (f + 1) (xm_drop 35 xm_c0) lv st G E kc ks = (xm_run call xm_c0 nL mc ms ret Q f (xm_drop 36 xm_c0) lv ((.int 3) :: st) G E kc ks) := rfl
theorem xz_0_36 : xm_run call xm_c0 nL mc ms ret Q (f + 1) (xm_drop 36 xm_c0) lv st G E kc ks = (xm_int2 .iadd st E (fun st E => xm_run call xm_c0 nL mc ms ret Q f (xm_drop 37 xm_c0) lv st G E kc ks)) := rfl
theorem xz_0_37 : xm_run call xm_c0 nL mc ms ret Q (f + 1) (xm_drop 37 xm_c0) lv st G E kc ks = (xm_iald st G E (fun st E => xm_run call xm_c0 nL mc ms ret Q f (xm_drop 38 xm_c0) lv st G E kc ks)) := rfl
theorem xz_0_38 : xm_run call xm_c0 nL mc ms ret Q (f + 1) (xm_drop 38 xm_c0) lv st G E kc ks = ((match xm_get lv 0 with
    | some w => bif xm_isA w then xm_run call xm_c0 nL mc ms ret Q f (xm_drop 39 xm_c0) lv (w :: st) G E kc ks else false
    | none => false)) := rfl
theorem xz_0_39 : xm_run call xm_c0 nL mc ms ret Q (f + 1) (xm_drop 39 xm_c0) lv st G E kc ks = ((match xm_get lv 3 with
    | some w => bif xm_isI w then xm_run call xm_c0 nL mc ms ret Q f (xm_drop 40 xm_c0) lv (w :: st) G E kc ks else false
    | none => false)) := rfl
theorem xz_0_40 : xm_run call xm_c0 nL mc ms ret Q (f + 1) (xm_drop 40 xm_c0) lv st G E kc ks = (xm_run call xm_c0 nL mc ms ret Q f (xm_drop 41 xm_c0) lv ((.int 4) :: st) G E kc ks) := rfl
theorem xz_0_41 : xm_run call xm_c0 nL mc ms ret Q (f + 1) (xm_drop 41 xm_c0) lv st G E kc ks = (xm_int2 .iadd st E (fun st E => xm_run call xm_c0 nL mc ms ret Q f (xm_drop 42 xm_c0) lv st G E kc ks)) := rfl
theorem xz_0_42 : xm_run call xm_c0 nL mc ms ret Q (f + 1) (xm_drop 42 xm_c0) lv st G E kc ks = (xm_iald st G E (fun st E => xm_run call xm_c0 nL mc ms ret Q f (xm_drop 43 xm_c0) lv st G E kc ks)) := rfl
theorem xz_0_43 : xm_run call xm_c0 nL mc ms ret Q (f + 1) (xm_drop 43 xm_c0) lv st G E kc ks = ((match xm_get lv 0 with
    | some w => bif xm_isA w then xm_run call xm_c0 nL mc ms ret Q f (xm_drop 44 xm_c0) lv (w :: st) G E kc ks else false
    | none => false)) := rfl
theorem xz_0_44 : xm_run call xm_c0 nL mc ms ret Q (f + 1) (xm_drop 44 xm_c0) lv st G E kc ks = ((match xm_get lv 3 with
    | some w => bif xm_isI w then xm_run call xm_c0 nL mc ms ret Q f (xm_drop 45 xm_c0) lv (w :: st) G E kc ks else false
    | none => false)) := rfl
theorem xz_0_45 : xm_run call xm_c0 nL mc ms ret Q (f + 1) (xm_drop 45 xm_c0) lv st G E kc ks = (xm_run call xm_c0 nL mc ms ret Q f (xm_drop 46 xm_c0) lv ((.int 5) :: st) G E kc ks) := rfl
theorem xz_0_46 : xm_run call xm_c0 nL mc ms ret Q (f + 1) (xm_drop 46 xm_c0) lv st G E kc ks = (xm_int2 .iadd st E (fun st E => xm_run call xm_c0 nL mc ms ret Q f (xm_drop 47 xm_c0) lv st G E kc ks)) := rfl
theorem xz_0_47 : xm_run call xm_c0 nL mc ms ret Q (f + 1) (xm_drop 47 xm_c0) lv st G E kc ks = (xm_iald st G E (fun st E => xm_run call xm_c0 nL mc ms ret Q f (xm_drop 48 xm_c0) lv st G E kc ks)) := rfl
theorem xz_0_48 : xm_run call xm_c0 nL mc ms ret Q (f + 1) (xm_drop 48 xm_c0) lv st G E kc ks = (bif Nat.beq 88 1006 || Nat.beq 88 1007 then xm_strl 88 st G (fun st => xm_run call xm_c0 nL mc ms ret Q f (xm_drop 49 xm_c0) lv st G E kc ks) else xm_call call mc ms 88 0 st G E kc ks (fun st G E kc ks => xm_run call xm_c0 nL mc ms ret Q f (xm_drop 49 xm_c0) lv st G E kc ks)) := rfl
theorem xz_0_49 : xm_run call xm_c0 nL mc ms ret Q (f + 1) (xm_drop 49 xm_c0) lv st G E kc ks = ((match st with
    | w :: st => bif xm_cat1 w then xm_run call xm_c0 nL mc ms ret Q f (xm_drop 50 xm_c0) lv st G E kc ks else false
    | _ => false)) := rfl
theorem xz_0_50 : xm_run call xm_c0 nL mc ms ret Q (f + 1) (xm_drop 50 xm_c0) lv st G E kc ks = ((match xm_get lv 2 with
    | some w => bif xm_isA w then xm_run call xm_c0 nL mc ms ret Q f (xm_drop 51 xm_c0) lv (w :: st) G E kc ks else false
    | none => false)) := rfl
theorem xz_0_51 : xm_run call xm_c0 nL mc ms ret Q (f + 1) (xm_drop 51 xm_c0) lv st G E kc ks = ((match xm_get lv 0 with
    | some w => bif xm_isA w then xm_run call xm_c0 nL mc ms ret Q f (xm_drop 52 xm_c0) lv (w :: st) G E kc ks else false
    | none => false)) := rfl
theorem xz_0_52 : xm_run call xm_c0 nL mc ms ret Q (f + 1) (xm_drop 52 xm_c0) lv st G E kc ks = ((match xm_get lv 3 with
    | some w => bif xm_isI w then xm_run call xm_c0 nL mc ms ret Q f (xm_drop 53 xm_c0) lv (w :: st) G E kc ks else false
    | none => false)) := rfl
theorem xz_0_53 : xm_run call xm_c0 nL mc ms ret Q (f + 1) (xm_drop 53 xm_c0) lv st G E kc ks = (xm_run call xm_c0 nL mc ms ret Q f (xm_drop 54 xm_c0) lv ((.int 1) :: st) G E kc ks) := rfl
theorem xz_0_54 : xm_run call xm_c0 nL mc ms ret Q (f + 1) (xm_drop 54 xm_c0) lv st G E kc ks = (xm_int2 .iadd st E (fun st E => xm_run call xm_c0 nL mc ms ret Q f (xm_drop 55 xm_c0) lv st G E kc ks)) := rfl
theorem xz_0_55 : xm_run call xm_c0 nL mc ms ret Q (f + 1) (xm_drop 55 xm_c0) lv st G E kc ks = (xm_iald st G E (fun st E => xm_run call xm_c0 nL mc ms ret Q f (xm_drop 56 xm_c0) lv st G E kc ks)) := rfl
theorem xz_0_56 : xm_run call xm_c0 nL mc ms ret Q (f + 1) (xm_drop 56 xm_c0) lv st G E kc ks = ((match xm_get lv 0 with
    | some w => bif xm_isA w then xm_run call xm_c0 nL mc ms ret Q f (xm_drop 57 xm_c0) lv (w :: st) G E kc ks else false
    | none => false)) := rfl
theorem xz_0_57 : xm_run call xm_c0 nL mc ms ret Q (f + 1) (xm_drop 57 xm_c0) lv st G E kc ks = ((match xm_get lv 3 with
    | some w => bif xm_isI w then xm_run call xm_c0 nL mc ms ret Q f (xm_drop 58 xm_c0) lv (w :: st) G E kc ks else false
    | none => false)) := rfl
theorem xz_0_58 : xm_run call xm_c0 nL mc ms ret Q (f + 1) (xm_drop 58 xm_c0) lv st G E kc ks = (xm_run call xm_c0 nL mc ms ret Q f (xm_drop 59 xm_c0) lv ((.int 2) :: st) G E kc ks) := rfl
theorem xz_0_59 : xm_run call xm_c0 nL mc ms ret Q (f + 1) (xm_drop 59 xm_c0) lv st G E kc ks = (xm_int2 .iadd st E (fun st E => xm_run call xm_c0 nL mc ms ret Q f (xm_drop 60 xm_c0) lv st G E kc ks)) := rfl
theorem xz_0_60 : xm_run call xm_c0 nL mc ms ret Q (f + 1) (xm_drop 60 xm_c0) lv st G E kc ks = (xm_iald st G E (fun st E => xm_run call xm_c0 nL mc ms ret Q f (xm_drop 61 xm_c0) lv st G E kc ks)) := rfl
theorem xz_0_61 : xm_run call xm_c0 nL mc ms ret Q (f + 1) (xm_drop 61 xm_c0) lv st G E kc ks = ((match xm_get lv 0 with
    | some w => bif xm_isA w then xm_run call xm_c0 nL mc ms ret Q f (xm_drop 62 xm_c0) lv (w :: st) G E kc ks else false
    | none => false)) := rfl
theorem xz_0_62 : xm_run call xm_c0 nL mc ms ret Q (f + 1) (xm_drop 62 xm_c0) lv st G E kc ks = ((match xm_get lv 3 with
    | some w => bif xm_isI w then xm_run call xm_c0 nL mc ms ret Q f (xm_drop 63 xm_c0) lv (w :: st) G E kc ks else false
    | none => false)) := rfl
theorem xz_0_63 : xm_run call xm_c0 nL mc ms ret Q (f + 1) (xm_drop 63 xm_c0) lv st G E kc ks = (xm_run call xm_c0 nL mc ms ret Q f (xm_drop 64 xm_c0) lv ((.int 3) :: st) G E kc ks) := rfl
theorem xz_0_64 : xm_run call xm_c0 nL mc ms ret Q (f + 1) (xm_drop 64 xm_c0) lv st G E kc ks = (xm_int2 .iadd st E (fun st E => xm_run call xm_c0 nL mc ms ret Q f (xm_drop 65 xm_c0) lv st G E kc ks)) := rfl
theorem xz_0_65 : xm_run call xm_c0 nL mc ms ret Q (f + 1) (xm_drop 65 xm_c0) lv st G E kc ks = (xm_iald st G E (fun st E => xm_run call xm_c0 nL mc ms ret Q f (xm_drop 66 xm_c0) lv st G E kc ks)) := rfl
theorem xz_0_66 : xm_run call xm_c0 nL mc ms ret Q (f + 1) (xm_drop 66 xm_c0) lv st G E kc ks = ((match xm_get lv 0 with
    | some w => bif xm_isA w then xm_run call xm_c0 nL mc ms ret Q f (xm_drop 67 xm_c0) lv (w :: st) G E kc ks else false
    | none => false)) := rfl
theorem xz_0_67 : xm_run call xm_c0 nL mc ms ret Q (f + 1) (xm_drop 67 xm_c0) lv st G E kc ks = ((match xm_get lv 3 with
    | some w => bif xm_isI w then xm_run call xm_c0 nL mc ms ret Q f (xm_drop 68 xm_c0) lv (w :: st) G E kc ks else false
    | none => false)) := rfl
theorem xz_0_68 : xm_run call xm_c0 nL mc ms ret Q (f + 1) (xm_drop 68 xm_c0) lv st G E kc ks = (xm_run call xm_c0 nL mc ms ret Q f (xm_drop 69 xm_c0) lv ((.int 4) :: st) G E kc ks) := rfl
theorem xz_0_69 : xm_run call xm_c0 nL mc ms ret Q (f + 1) (xm_drop 69 xm_c0) lv st G E kc ks = (xm_int2 .iadd st E (fun st E => xm_run call xm_c0 nL mc ms ret Q f (xm_drop 70 xm_c0) lv st G E kc ks)) := rfl
theorem xz_0_70 : xm_run call xm_c0 nL mc ms ret Q (f + 1) (xm_drop 70 xm_c0) lv st G E kc ks = (xm_iald st G E (fun st E => xm_run call xm_c0 nL mc ms ret Q f (xm_drop 71 xm_c0) lv st G E kc ks)) := rfl
theorem xz_0_71 : xm_run call xm_c0 nL mc ms ret Q (f + 1) (xm_drop 71 xm_c0) lv st G E kc ks = ((match xm_get lv 0 with
    | some w => bif xm_isA w then xm_run call xm_c0 nL mc ms ret Q f (xm_drop 72 xm_c0) lv (w :: st) G E kc ks else false
    | none => false)) := rfl
theorem xz_0_72 : xm_run call xm_c0 nL mc ms ret Q (f + 1) (xm_drop 72 xm_c0) lv st G E kc ks = ((match xm_get lv 3 with
    | some w => bif xm_isI w then xm_run call xm_c0 nL mc ms ret Q f (xm_drop 73 xm_c0) lv (w :: st) G E kc ks else false
    | none => false)) := rfl
theorem xz_0_73 : xm_run call xm_c0 nL mc ms ret Q (f + 1) (xm_drop 73 xm_c0) lv st G E kc ks = (xm_run call xm_c0 nL mc ms ret Q f (xm_drop 74 xm_c0) lv ((.int 5) :: st) G E kc ks) := rfl
theorem xz_0_74 : xm_run call xm_c0 nL mc ms ret Q (f + 1) (xm_drop 74 xm_c0) lv st G E kc ks = (xm_int2 .iadd st E (fun st E => xm_run call xm_c0 nL mc ms ret Q f (xm_drop 75 xm_c0) lv st G E kc ks)) := rfl
theorem xz_0_75 : xm_run call xm_c0 nL mc ms ret Q (f + 1) (xm_drop 75 xm_c0) lv st G E kc ks = (xm_iald st G E (fun st E => xm_run call xm_c0 nL mc ms ret Q f (xm_drop 76 xm_c0) lv st G E kc ks)) := rfl
theorem xz_0_76 : xm_run call xm_c0 nL mc ms ret Q (f + 1) (xm_drop 76 xm_c0) lv st G E kc ks = (bif Nat.beq 129 1006 || Nat.beq 129 1007 then xm_strl 129 st G (fun st => xm_run call xm_c0 nL mc ms ret Q f (xm_drop 77 xm_c0) lv st G E kc ks) else xm_call call mc ms 129 0 st G E kc ks (fun st G E kc ks => xm_run call xm_c0 nL mc ms ret Q f (xm_drop 77 xm_c0) lv st G E kc ks)) := rfl
theorem xz_0_77 : xm_run call xm_c0 nL mc ms ret Q (f + 1) (xm_drop 77 xm_c0) lv st G E kc ks = ((match st with
    | w :: st => bif xm_cat1 w then xm_run call xm_c0 nL mc ms ret Q f (xm_drop 78 xm_c0) lv st G E kc ks else false
    | _ => false)) := rfl
theorem xz_0_78 : xm_run call xm_c0 nL mc ms ret Q (f + 1) (xm_drop 78 xm_c0) lv st G E kc ks = (xm_run call xm_c0 nL mc ms ret Q f (xm_drop 682 xm_c0) lv st G E kc ks) := rfl
theorem xz_0_79 : xm_run call xm_c0 nL mc ms ret Q (f + 1) (xm_drop 79 xm_c0) lv st G E kc ks = ((match xm_get lv 1 with
    | some w => bif xm_isA w then xm_run call xm_c0 nL mc ms ret Q f (xm_drop 80 xm_c0) lv (w :: st) G E kc ks else false
    | none => false)) := rfl
theorem xz_0_80 : xm_run call xm_c0 nL mc ms ret Q (f + 1) (xm_drop 80 xm_c0) lv st G E kc ks = ((match xm_get lv 0 with
    | some w => bif xm_isA w then xm_run call xm_c0 nL mc ms ret Q f (xm_drop 81 xm_c0) lv (w :: st) G E kc ks else false
    | none => false)) := rfl
theorem xz_0_81 : xm_run call xm_c0 nL mc ms ret Q (f + 1) (xm_drop 81 xm_c0) lv st G E kc ks = ((match xm_get lv 3 with
    | some w => bif xm_isI w then xm_run call xm_c0 nL mc ms ret Q f (xm_drop 82 xm_c0) lv (w :: st) G E kc ks else false
    | none => false)) := rfl
theorem xz_0_82 : xm_run call xm_c0 nL mc ms ret Q (f + 1) (xm_drop 82 xm_c0) lv st G E kc ks = (xm_run call xm_c0 nL mc ms ret Q f (xm_drop 83 xm_c0) lv ((.int 1) :: st) G E kc ks) := rfl
theorem xz_0_83 : xm_run call xm_c0 nL mc ms ret Q (f + 1) (xm_drop 83 xm_c0) lv st G E kc ks = (xm_int2 .iadd st E (fun st E => xm_run call xm_c0 nL mc ms ret Q f (xm_drop 84 xm_c0) lv st G E kc ks)) := rfl
theorem xz_0_84 : xm_run call xm_c0 nL mc ms ret Q (f + 1) (xm_drop 84 xm_c0) lv st G E kc ks = (xm_iald st G E (fun st E => xm_run call xm_c0 nL mc ms ret Q f (xm_drop 85 xm_c0) lv st G E kc ks)) := rfl
theorem xz_0_85 : xm_run call xm_c0 nL mc ms ret Q (f + 1) (xm_drop 85 xm_c0) lv st G E kc ks = (bif Nat.beq 89 1006 || Nat.beq 89 1007 then xm_strl 89 st G (fun st => xm_run call xm_c0 nL mc ms ret Q f (xm_drop 86 xm_c0) lv st G E kc ks) else xm_call call mc ms 89 0 st G E kc ks (fun st G E kc ks => xm_run call xm_c0 nL mc ms ret Q f (xm_drop 86 xm_c0) lv st G E kc ks)) := rfl
theorem xz_0_86 : xm_run call xm_c0 nL mc ms ret Q (f + 1) (xm_drop 86 xm_c0) lv st G E kc ks = ((match st with
    | w :: st => bif xm_cat1 w then xm_run call xm_c0 nL mc ms ret Q f (xm_drop 87 xm_c0) lv st G E kc ks else false
    | _ => false)) := rfl
theorem xz_0_87 : xm_run call xm_c0 nL mc ms ret Q (f + 1) (xm_drop 87 xm_c0) lv st G E kc ks = ((match xm_get lv 2 with
    | some w => bif xm_isA w then xm_run call xm_c0 nL mc ms ret Q f (xm_drop 88 xm_c0) lv (w :: st) G E kc ks else false
    | none => false)) := rfl
theorem xz_0_88 : xm_run call xm_c0 nL mc ms ret Q (f + 1) (xm_drop 88 xm_c0) lv st G E kc ks = ((match xm_get lv 0 with
    | some w => bif xm_isA w then xm_run call xm_c0 nL mc ms ret Q f (xm_drop 89 xm_c0) lv (w :: st) G E kc ks else false
    | none => false)) := rfl
theorem xz_0_89 : xm_run call xm_c0 nL mc ms ret Q (f + 1) (xm_drop 89 xm_c0) lv st G E kc ks = ((match xm_get lv 3 with
    | some w => bif xm_isI w then xm_run call xm_c0 nL mc ms ret Q f (xm_drop 90 xm_c0) lv (w :: st) G E kc ks else false
    | none => false)) := rfl
theorem xz_0_90 : xm_run call xm_c0 nL mc ms ret Q (f + 1) (xm_drop 90 xm_c0) lv st G E kc ks = (xm_run call xm_c0 nL mc ms ret Q f (xm_drop 91 xm_c0) lv ((.int 1) :: st) G E kc ks) := rfl
theorem xz_0_91 : xm_run call xm_c0 nL mc ms ret Q (f + 1) (xm_drop 91 xm_c0) lv st G E kc ks = (xm_int2 .iadd st E (fun st E => xm_run call xm_c0 nL mc ms ret Q f (xm_drop 92 xm_c0) lv st G E kc ks)) := rfl
theorem xz_0_92 : xm_run call xm_c0 nL mc ms ret Q (f + 1) (xm_drop 92 xm_c0) lv st G E kc ks = (xm_iald st G E (fun st E => xm_run call xm_c0 nL mc ms ret Q f (xm_drop 93 xm_c0) lv st G E kc ks)) := rfl
theorem xz_0_93 : xm_run call xm_c0 nL mc ms ret Q (f + 1) (xm_drop 93 xm_c0) lv st G E kc ks = (bif Nat.beq 130 1006 || Nat.beq 130 1007 then xm_strl 130 st G (fun st => xm_run call xm_c0 nL mc ms ret Q f (xm_drop 94 xm_c0) lv st G E kc ks) else xm_call call mc ms 130 0 st G E kc ks (fun st G E kc ks => xm_run call xm_c0 nL mc ms ret Q f (xm_drop 94 xm_c0) lv st G E kc ks)) := rfl
theorem xz_0_94 : xm_run call xm_c0 nL mc ms ret Q (f + 1) (xm_drop 94 xm_c0) lv st G E kc ks = ((match st with
    | w :: st => bif xm_cat1 w then xm_run call xm_c0 nL mc ms ret Q f (xm_drop 95 xm_c0) lv st G E kc ks else false
    | _ => false)) := rfl
theorem xz_0_95 : xm_run call xm_c0 nL mc ms ret Q (f + 1) (xm_drop 95 xm_c0) lv st G E kc ks = (xm_run call xm_c0 nL mc ms ret Q f (xm_drop 682 xm_c0) lv st G E kc ks) := rfl
theorem xz_0_96 : xm_run call xm_c0 nL mc ms ret Q (f + 1) (xm_drop 96 xm_c0) lv st G E kc ks = ((match xm_get lv 1 with
    | some w => bif xm_isA w then xm_run call xm_c0 nL mc ms ret Q f (xm_drop 97 xm_c0) lv (w :: st) G E kc ks else false
    | none => false)) := rfl
theorem xz_0_97 : xm_run call xm_c0 nL mc ms ret Q (f + 1) (xm_drop 97 xm_c0) lv st G E kc ks = (bif Nat.beq 90 1006 || Nat.beq 90 1007 then xm_strl 90 st G (fun st => xm_run call xm_c0 nL mc ms ret Q f (xm_drop 98 xm_c0) lv st G E kc ks) else xm_call call mc ms 90 0 st G E kc ks (fun st G E kc ks => xm_run call xm_c0 nL mc ms ret Q f (xm_drop 98 xm_c0) lv st G E kc ks)) := rfl
theorem xz_0_98 : xm_run call xm_c0 nL mc ms ret Q (f + 1) (xm_drop 98 xm_c0) lv st G E kc ks = ((match st with
    | w :: st => bif xm_cat1 w then xm_run call xm_c0 nL mc ms ret Q f (xm_drop 99 xm_c0) lv st G E kc ks else false
    | _ => false)) := rfl
theorem xz_0_99 : xm_run call xm_c0 nL mc ms ret Q (f + 1) (xm_drop 99 xm_c0) lv st G E kc ks = ((match xm_get lv 2 with
    | some w => bif xm_isA w then xm_run call xm_c0 nL mc ms ret Q f (xm_drop 100 xm_c0) lv (w :: st) G E kc ks else false
    | none => false)) := rfl
theorem xz_0_100 : xm_run call xm_c0 nL mc ms ret Q (f + 1) (xm_drop 100 xm_c0) lv st G E kc ks = (bif Nat.beq 169 1006 || Nat.beq 169 1007 then xm_strl 169 st G (fun st => xm_run call xm_c0 nL mc ms ret Q f (xm_drop 101 xm_c0) lv st G E kc ks) else xm_call call mc ms 169 0 st G E kc ks (fun st G E kc ks => xm_run call xm_c0 nL mc ms ret Q f (xm_drop 101 xm_c0) lv st G E kc ks)) := rfl
theorem xz_0_101 : xm_run call xm_c0 nL mc ms ret Q (f + 1) (xm_drop 101 xm_c0) lv st G E kc ks = ((match st with
    | w :: st => bif xm_cat1 w then xm_run call xm_c0 nL mc ms ret Q f (xm_drop 102 xm_c0) lv st G E kc ks else false
    | _ => false)) := rfl
theorem xz_0_102 : xm_run call xm_c0 nL mc ms ret Q (f + 1) (xm_drop 102 xm_c0) lv st G E kc ks = (xm_run call xm_c0 nL mc ms ret Q f (xm_drop 682 xm_c0) lv st G E kc ks) := rfl
theorem xz_0_103 : xm_run call xm_c0 nL mc ms ret Q (f + 1) (xm_drop 103 xm_c0) lv st G E kc ks = ((match xm_get lv 1 with
    | some w => bif xm_isA w then xm_run call xm_c0 nL mc ms ret Q f (xm_drop 104 xm_c0) lv (w :: st) G E kc ks else false
    | none => false)) := rfl
theorem xz_0_104 : xm_run call xm_c0 nL mc ms ret Q (f + 1) (xm_drop 104 xm_c0) lv st G E kc ks = (bif Nat.beq 91 1006 || Nat.beq 91 1007 then xm_strl 91 st G (fun st => xm_run call xm_c0 nL mc ms ret Q f (xm_drop 105 xm_c0) lv st G E kc ks) else xm_call call mc ms 91 0 st G E kc ks (fun st G E kc ks => xm_run call xm_c0 nL mc ms ret Q f (xm_drop 105 xm_c0) lv st G E kc ks)) := rfl
theorem xz_0_105 : xm_run call xm_c0 nL mc ms ret Q (f + 1) (xm_drop 105 xm_c0) lv st G E kc ks = ((match st with
    | w :: st => bif xm_cat1 w then xm_run call xm_c0 nL mc ms ret Q f (xm_drop 106 xm_c0) lv st G E kc ks else false
    | _ => false)) := rfl
theorem xz_0_106 : xm_run call xm_c0 nL mc ms ret Q (f + 1) (xm_drop 106 xm_c0) lv st G E kc ks = ((match xm_get lv 2 with
    | some w => bif xm_isA w then xm_run call xm_c0 nL mc ms ret Q f (xm_drop 107 xm_c0) lv (w :: st) G E kc ks else false
    | none => false)) := rfl
theorem xz_0_107 : xm_run call xm_c0 nL mc ms ret Q (f + 1) (xm_drop 107 xm_c0) lv st G E kc ks = (bif Nat.beq 168 1006 || Nat.beq 168 1007 then xm_strl 168 st G (fun st => xm_run call xm_c0 nL mc ms ret Q f (xm_drop 108 xm_c0) lv st G E kc ks) else xm_call call mc ms 168 0 st G E kc ks (fun st G E kc ks => xm_run call xm_c0 nL mc ms ret Q f (xm_drop 108 xm_c0) lv st G E kc ks)) := rfl
theorem xz_0_108 : xm_run call xm_c0 nL mc ms ret Q (f + 1) (xm_drop 108 xm_c0) lv st G E kc ks = ((match st with
    | w :: st => bif xm_cat1 w then xm_run call xm_c0 nL mc ms ret Q f (xm_drop 109 xm_c0) lv st G E kc ks else false
    | _ => false)) := rfl
theorem xz_0_109 : xm_run call xm_c0 nL mc ms ret Q (f + 1) (xm_drop 109 xm_c0) lv st G E kc ks = (xm_run call xm_c0 nL mc ms ret Q f (xm_drop 682 xm_c0) lv st G E kc ks) := rfl
theorem xz_0_110 : xm_run call xm_c0 nL mc ms ret Q (f + 1) (xm_drop 110 xm_c0) lv st G E kc ks = ((match xm_get lv 1 with
    | some w => bif xm_isA w then xm_run call xm_c0 nL mc ms ret Q f (xm_drop 111 xm_c0) lv (w :: st) G E kc ks else false
    | none => false)) := rfl
theorem xz_0_111 : xm_run call xm_c0 nL mc ms ret Q (f + 1) (xm_drop 111 xm_c0) lv st G E kc ks = ((match xm_get lv 0 with
    | some w => bif xm_isA w then xm_run call xm_c0 nL mc ms ret Q f (xm_drop 112 xm_c0) lv (w :: st) G E kc ks else false
    | none => false)) := rfl
theorem xz_0_112 : xm_run call xm_c0 nL mc ms ret Q (f + 1) (xm_drop 112 xm_c0) lv st G E kc ks = ((match xm_get lv 3 with
    | some w => bif xm_isI w then xm_run call xm_c0 nL mc ms ret Q f (xm_drop 113 xm_c0) lv (w :: st) G E kc ks else false
    | none => false)) := rfl
theorem xz_0_113 : xm_run call xm_c0 nL mc ms ret Q (f + 1) (xm_drop 113 xm_c0) lv st G E kc ks = (xm_run call xm_c0 nL mc ms ret Q f (xm_drop 114 xm_c0) lv ((.int 1) :: st) G E kc ks) := rfl
theorem xz_0_114 : xm_run call xm_c0 nL mc ms ret Q (f + 1) (xm_drop 114 xm_c0) lv st G E kc ks = (xm_int2 .iadd st E (fun st E => xm_run call xm_c0 nL mc ms ret Q f (xm_drop 115 xm_c0) lv st G E kc ks)) := rfl
theorem xz_0_115 : xm_run call xm_c0 nL mc ms ret Q (f + 1) (xm_drop 115 xm_c0) lv st G E kc ks = (xm_iald st G E (fun st E => xm_run call xm_c0 nL mc ms ret Q f (xm_drop 116 xm_c0) lv st G E kc ks)) := rfl
theorem xz_0_116 : xm_run call xm_c0 nL mc ms ret Q (f + 1) (xm_drop 116 xm_c0) lv st G E kc ks = (bif Nat.beq 92 1006 || Nat.beq 92 1007 then xm_strl 92 st G (fun st => xm_run call xm_c0 nL mc ms ret Q f (xm_drop 117 xm_c0) lv st G E kc ks) else xm_call call mc ms 92 0 st G E kc ks (fun st G E kc ks => xm_run call xm_c0 nL mc ms ret Q f (xm_drop 117 xm_c0) lv st G E kc ks)) := rfl
theorem xz_0_117 : xm_run call xm_c0 nL mc ms ret Q (f + 1) (xm_drop 117 xm_c0) lv st G E kc ks = ((match st with
    | w :: st => bif xm_cat1 w then xm_run call xm_c0 nL mc ms ret Q f (xm_drop 118 xm_c0) lv st G E kc ks else false
    | _ => false)) := rfl
theorem xz_0_118 : xm_run call xm_c0 nL mc ms ret Q (f + 1) (xm_drop 118 xm_c0) lv st G E kc ks = ((match xm_get lv 2 with
    | some w => bif xm_isA w then xm_run call xm_c0 nL mc ms ret Q f (xm_drop 119 xm_c0) lv (w :: st) G E kc ks else false
    | none => false)) := rfl
theorem xz_0_119 : xm_run call xm_c0 nL mc ms ret Q (f + 1) (xm_drop 119 xm_c0) lv st G E kc ks = ((match xm_get lv 0 with
    | some w => bif xm_isA w then xm_run call xm_c0 nL mc ms ret Q f (xm_drop 120 xm_c0) lv (w :: st) G E kc ks else false
    | none => false)) := rfl
theorem xz_0_120 : xm_run call xm_c0 nL mc ms ret Q (f + 1) (xm_drop 120 xm_c0) lv st G E kc ks = ((match xm_get lv 3 with
    | some w => bif xm_isI w then xm_run call xm_c0 nL mc ms ret Q f (xm_drop 121 xm_c0) lv (w :: st) G E kc ks else false
    | none => false)) := rfl
theorem xz_0_121 : xm_run call xm_c0 nL mc ms ret Q (f + 1) (xm_drop 121 xm_c0) lv st G E kc ks = (xm_run call xm_c0 nL mc ms ret Q f (xm_drop 122 xm_c0) lv ((.int 1) :: st) G E kc ks) := rfl
theorem xz_0_122 : xm_run call xm_c0 nL mc ms ret Q (f + 1) (xm_drop 122 xm_c0) lv st G E kc ks = (xm_int2 .iadd st E (fun st E => xm_run call xm_c0 nL mc ms ret Q f (xm_drop 123 xm_c0) lv st G E kc ks)) := rfl
theorem xz_0_123 : xm_run call xm_c0 nL mc ms ret Q (f + 1) (xm_drop 123 xm_c0) lv st G E kc ks = (xm_iald st G E (fun st E => xm_run call xm_c0 nL mc ms ret Q f (xm_drop 124 xm_c0) lv st G E kc ks)) := rfl
theorem xz_0_124 : xm_run call xm_c0 nL mc ms ret Q (f + 1) (xm_drop 124 xm_c0) lv st G E kc ks = (bif Nat.beq 183 1006 || Nat.beq 183 1007 then xm_strl 183 st G (fun st => xm_run call xm_c0 nL mc ms ret Q f (xm_drop 125 xm_c0) lv st G E kc ks) else xm_call call mc ms 183 0 st G E kc ks (fun st G E kc ks => xm_run call xm_c0 nL mc ms ret Q f (xm_drop 125 xm_c0) lv st G E kc ks)) := rfl
theorem xz_0_125 : xm_run call xm_c0 nL mc ms ret Q (f + 1) (xm_drop 125 xm_c0) lv st G E kc ks = ((match st with
    | w :: st => bif xm_cat1 w then xm_run call xm_c0 nL mc ms ret Q f (xm_drop 126 xm_c0) lv st G E kc ks else false
    | _ => false)) := rfl
theorem xz_0_126 : xm_run call xm_c0 nL mc ms ret Q (f + 1) (xm_drop 126 xm_c0) lv st G E kc ks = (xm_run call xm_c0 nL mc ms ret Q f (xm_drop 682 xm_c0) lv st G E kc ks) := rfl
theorem xz_0_127 : xm_run call xm_c0 nL mc ms ret Q (f + 1) (xm_drop 127 xm_c0) lv st G E kc ks = ((match xm_get lv 1 with
    | some w => bif xm_isA w then xm_run call xm_c0 nL mc ms ret Q f (xm_drop 128 xm_c0) lv (w :: st) G E kc ks else false
    | none => false)) := rfl
theorem xz_0_128 : xm_run call xm_c0 nL mc ms ret Q (f + 1) (xm_drop 128 xm_c0) lv st G E kc ks = ((match xm_get lv 0 with
    | some w => bif xm_isA w then xm_run call xm_c0 nL mc ms ret Q f (xm_drop 129 xm_c0) lv (w :: st) G E kc ks else false
    | none => false)) := rfl
theorem xz_0_129 : xm_run call xm_c0 nL mc ms ret Q (f + 1) (xm_drop 129 xm_c0) lv st G E kc ks = ((match xm_get lv 3 with
    | some w => bif xm_isI w then xm_run call xm_c0 nL mc ms ret Q f (xm_drop 130 xm_c0) lv (w :: st) G E kc ks else false
    | none => false)) := rfl
theorem xz_0_130 : xm_run call xm_c0 nL mc ms ret Q (f + 1) (xm_drop 130 xm_c0) lv st G E kc ks = (xm_run call xm_c0 nL mc ms ret Q f (xm_drop 131 xm_c0) lv ((.int 1) :: st) G E kc ks) := rfl
theorem xz_0_131 : xm_run call xm_c0 nL mc ms ret Q (f + 1) (xm_drop 131 xm_c0) lv st G E kc ks = (xm_int2 .iadd st E (fun st E => xm_run call xm_c0 nL mc ms ret Q f (xm_drop 132 xm_c0) lv st G E kc ks)) := rfl
theorem xz_0_132 : xm_run call xm_c0 nL mc ms ret Q (f + 1) (xm_drop 132 xm_c0) lv st G E kc ks = (xm_iald st G E (fun st E => xm_run call xm_c0 nL mc ms ret Q f (xm_drop 133 xm_c0) lv st G E kc ks)) := rfl
theorem xz_0_133 : xm_run call xm_c0 nL mc ms ret Q (f + 1) (xm_drop 133 xm_c0) lv st G E kc ks = ((match xm_get lv 0 with
    | some w => bif xm_isA w then xm_run call xm_c0 nL mc ms ret Q f (xm_drop 134 xm_c0) lv (w :: st) G E kc ks else false
    | none => false)) := rfl
theorem xz_0_134 : xm_run call xm_c0 nL mc ms ret Q (f + 1) (xm_drop 134 xm_c0) lv st G E kc ks = ((match xm_get lv 3 with
    | some w => bif xm_isI w then xm_run call xm_c0 nL mc ms ret Q f (xm_drop 135 xm_c0) lv (w :: st) G E kc ks else false
    | none => false)) := rfl
theorem xz_0_135 : xm_run call xm_c0 nL mc ms ret Q (f + 1) (xm_drop 135 xm_c0) lv st G E kc ks = (xm_run call xm_c0 nL mc ms ret Q f (xm_drop 136 xm_c0) lv ((.int 2) :: st) G E kc ks) := rfl
theorem xz_0_136 : xm_run call xm_c0 nL mc ms ret Q (f + 1) (xm_drop 136 xm_c0) lv st G E kc ks = (xm_int2 .iadd st E (fun st E => xm_run call xm_c0 nL mc ms ret Q f (xm_drop 137 xm_c0) lv st G E kc ks)) := rfl
theorem xz_0_137 : xm_run call xm_c0 nL mc ms ret Q (f + 1) (xm_drop 137 xm_c0) lv st G E kc ks = (xm_iald st G E (fun st E => xm_run call xm_c0 nL mc ms ret Q f (xm_drop 138 xm_c0) lv st G E kc ks)) := rfl
theorem xz_0_138 : xm_run call xm_c0 nL mc ms ret Q (f + 1) (xm_drop 138 xm_c0) lv st G E kc ks = (bif Nat.beq 93 1006 || Nat.beq 93 1007 then xm_strl 93 st G (fun st => xm_run call xm_c0 nL mc ms ret Q f (xm_drop 139 xm_c0) lv st G E kc ks) else xm_call call mc ms 93 0 st G E kc ks (fun st G E kc ks => xm_run call xm_c0 nL mc ms ret Q f (xm_drop 139 xm_c0) lv st G E kc ks)) := rfl
theorem xz_0_139 : xm_run call xm_c0 nL mc ms ret Q (f + 1) (xm_drop 139 xm_c0) lv st G E kc ks = ((match st with
    | w :: st => bif xm_cat1 w then xm_run call xm_c0 nL mc ms ret Q f (xm_drop 140 xm_c0) lv st G E kc ks else false
    | _ => false)) := rfl
theorem xz_0_140 : xm_run call xm_c0 nL mc ms ret Q (f + 1) (xm_drop 140 xm_c0) lv st G E kc ks = ((match xm_get lv 2 with
    | some w => bif xm_isA w then xm_run call xm_c0 nL mc ms ret Q f (xm_drop 141 xm_c0) lv (w :: st) G E kc ks else false
    | none => false)) := rfl
theorem xz_0_141 : xm_run call xm_c0 nL mc ms ret Q (f + 1) (xm_drop 141 xm_c0) lv st G E kc ks = ((match xm_get lv 0 with
    | some w => bif xm_isA w then xm_run call xm_c0 nL mc ms ret Q f (xm_drop 142 xm_c0) lv (w :: st) G E kc ks else false
    | none => false)) := rfl
theorem xz_0_142 : xm_run call xm_c0 nL mc ms ret Q (f + 1) (xm_drop 142 xm_c0) lv st G E kc ks = ((match xm_get lv 3 with
    | some w => bif xm_isI w then xm_run call xm_c0 nL mc ms ret Q f (xm_drop 143 xm_c0) lv (w :: st) G E kc ks else false
    | none => false)) := rfl
theorem xz_0_143 : xm_run call xm_c0 nL mc ms ret Q (f + 1) (xm_drop 143 xm_c0) lv st G E kc ks = (xm_run call xm_c0 nL mc ms ret Q f (xm_drop 144 xm_c0) lv ((.int 1) :: st) G E kc ks) := rfl
theorem xz_0_144 : xm_run call xm_c0 nL mc ms ret Q (f + 1) (xm_drop 144 xm_c0) lv st G E kc ks = (xm_int2 .iadd st E (fun st E => xm_run call xm_c0 nL mc ms ret Q f (xm_drop 145 xm_c0) lv st G E kc ks)) := rfl
theorem xz_0_145 : xm_run call xm_c0 nL mc ms ret Q (f + 1) (xm_drop 145 xm_c0) lv st G E kc ks = (xm_iald st G E (fun st E => xm_run call xm_c0 nL mc ms ret Q f (xm_drop 146 xm_c0) lv st G E kc ks)) := rfl
theorem xz_0_146 : xm_run call xm_c0 nL mc ms ret Q (f + 1) (xm_drop 146 xm_c0) lv st G E kc ks = ((match xm_get lv 0 with
    | some w => bif xm_isA w then xm_run call xm_c0 nL mc ms ret Q f (xm_drop 147 xm_c0) lv (w :: st) G E kc ks else false
    | none => false)) := rfl
theorem xz_0_147 : xm_run call xm_c0 nL mc ms ret Q (f + 1) (xm_drop 147 xm_c0) lv st G E kc ks = ((match xm_get lv 3 with
    | some w => bif xm_isI w then xm_run call xm_c0 nL mc ms ret Q f (xm_drop 148 xm_c0) lv (w :: st) G E kc ks else false
    | none => false)) := rfl
theorem xz_0_148 : xm_run call xm_c0 nL mc ms ret Q (f + 1) (xm_drop 148 xm_c0) lv st G E kc ks = (xm_run call xm_c0 nL mc ms ret Q f (xm_drop 149 xm_c0) lv ((.int 2) :: st) G E kc ks) := rfl
theorem xz_0_149 : xm_run call xm_c0 nL mc ms ret Q (f + 1) (xm_drop 149 xm_c0) lv st G E kc ks = (xm_int2 .iadd st E (fun st E => xm_run call xm_c0 nL mc ms ret Q f (xm_drop 150 xm_c0) lv st G E kc ks)) := rfl
theorem xz_0_150 : xm_run call xm_c0 nL mc ms ret Q (f + 1) (xm_drop 150 xm_c0) lv st G E kc ks = (xm_iald st G E (fun st E => xm_run call xm_c0 nL mc ms ret Q f (xm_drop 151 xm_c0) lv st G E kc ks)) := rfl
theorem xz_0_151 : xm_run call xm_c0 nL mc ms ret Q (f + 1) (xm_drop 151 xm_c0) lv st G E kc ks = (bif Nat.beq 184 1006 || Nat.beq 184 1007 then xm_strl 184 st G (fun st => xm_run call xm_c0 nL mc ms ret Q f (xm_drop 152 xm_c0) lv st G E kc ks) else xm_call call mc ms 184 0 st G E kc ks (fun st G E kc ks => xm_run call xm_c0 nL mc ms ret Q f (xm_drop 152 xm_c0) lv st G E kc ks)) := rfl
theorem xz_0_152 : xm_run call xm_c0 nL mc ms ret Q (f + 1) (xm_drop 152 xm_c0) lv st G E kc ks = ((match st with
    | w :: st => bif xm_cat1 w then xm_run call xm_c0 nL mc ms ret Q f (xm_drop 153 xm_c0) lv st G E kc ks else false
    | _ => false)) := rfl
theorem xz_0_153 : xm_run call xm_c0 nL mc ms ret Q (f + 1) (xm_drop 153 xm_c0) lv st G E kc ks = (xm_run call xm_c0 nL mc ms ret Q f (xm_drop 682 xm_c0) lv st G E kc ks) := rfl
theorem xz_0_154 : xm_run call xm_c0 nL mc ms ret Q (f + 1) (xm_drop 154 xm_c0) lv st G E kc ks = ((match xm_get lv 1 with
    | some w => bif xm_isA w then xm_run call xm_c0 nL mc ms ret Q f (xm_drop 155 xm_c0) lv (w :: st) G E kc ks else false
    | none => false)) := rfl
theorem xz_0_155 : xm_run call xm_c0 nL mc ms ret Q (f + 1) (xm_drop 155 xm_c0) lv st G E kc ks = ((match xm_get lv 0 with
    | some w => bif xm_isA w then xm_run call xm_c0 nL mc ms ret Q f (xm_drop 156 xm_c0) lv (w :: st) G E kc ks else false
    | none => false)) := rfl
theorem xz_0_156 : xm_run call xm_c0 nL mc ms ret Q (f + 1) (xm_drop 156 xm_c0) lv st G E kc ks = ((match xm_get lv 3 with
    | some w => bif xm_isI w then xm_run call xm_c0 nL mc ms ret Q f (xm_drop 157 xm_c0) lv (w :: st) G E kc ks else false
    | none => false)) := rfl
theorem xz_0_157 : xm_run call xm_c0 nL mc ms ret Q (f + 1) (xm_drop 157 xm_c0) lv st G E kc ks = (xm_run call xm_c0 nL mc ms ret Q f (xm_drop 158 xm_c0) lv ((.int 1) :: st) G E kc ks) := rfl
theorem xz_0_158 : xm_run call xm_c0 nL mc ms ret Q (f + 1) (xm_drop 158 xm_c0) lv st G E kc ks = (xm_int2 .iadd st E (fun st E => xm_run call xm_c0 nL mc ms ret Q f (xm_drop 159 xm_c0) lv st G E kc ks)) := rfl
theorem xz_0_159 : xm_run call xm_c0 nL mc ms ret Q (f + 1) (xm_drop 159 xm_c0) lv st G E kc ks = (xm_iald st G E (fun st E => xm_run call xm_c0 nL mc ms ret Q f (xm_drop 160 xm_c0) lv st G E kc ks)) := rfl
theorem xz_0_160 : xm_run call xm_c0 nL mc ms ret Q (f + 1) (xm_drop 160 xm_c0) lv st G E kc ks = ((match xm_get lv 0 with
    | some w => bif xm_isA w then xm_run call xm_c0 nL mc ms ret Q f (xm_drop 161 xm_c0) lv (w :: st) G E kc ks else false
    | none => false)) := rfl
theorem xz_0_161 : xm_run call xm_c0 nL mc ms ret Q (f + 1) (xm_drop 161 xm_c0) lv st G E kc ks = ((match xm_get lv 3 with
    | some w => bif xm_isI w then xm_run call xm_c0 nL mc ms ret Q f (xm_drop 162 xm_c0) lv (w :: st) G E kc ks else false
    | none => false)) := rfl
theorem xz_0_162 : xm_run call xm_c0 nL mc ms ret Q (f + 1) (xm_drop 162 xm_c0) lv st G E kc ks = (xm_run call xm_c0 nL mc ms ret Q f (xm_drop 163 xm_c0) lv ((.int 2) :: st) G E kc ks) := rfl
theorem xz_0_163 : xm_run call xm_c0 nL mc ms ret Q (f + 1) (xm_drop 163 xm_c0) lv st G E kc ks = (xm_int2 .iadd st E (fun st E => xm_run call xm_c0 nL mc ms ret Q f (xm_drop 164 xm_c0) lv st G E kc ks)) := rfl
theorem xz_0_164 : xm_run call xm_c0 nL mc ms ret Q (f + 1) (xm_drop 164 xm_c0) lv st G E kc ks = (xm_iald st G E (fun st E => xm_run call xm_c0 nL mc ms ret Q f (xm_drop 165 xm_c0) lv st G E kc ks)) := rfl
theorem xz_0_165 : xm_run call xm_c0 nL mc ms ret Q (f + 1) (xm_drop 165 xm_c0) lv st G E kc ks = (bif Nat.beq 94 1006 || Nat.beq 94 1007 then xm_strl 94 st G (fun st => xm_run call xm_c0 nL mc ms ret Q f (xm_drop 166 xm_c0) lv st G E kc ks) else xm_call call mc ms 94 0 st G E kc ks (fun st G E kc ks => xm_run call xm_c0 nL mc ms ret Q f (xm_drop 166 xm_c0) lv st G E kc ks)) := rfl
theorem xz_0_166 : xm_run call xm_c0 nL mc ms ret Q (f + 1) (xm_drop 166 xm_c0) lv st G E kc ks = ((match st with
    | w :: st => bif xm_cat1 w then xm_run call xm_c0 nL mc ms ret Q f (xm_drop 167 xm_c0) lv st G E kc ks else false
    | _ => false)) := rfl
theorem xz_0_167 : xm_run call xm_c0 nL mc ms ret Q (f + 1) (xm_drop 167 xm_c0) lv st G E kc ks = ((match xm_get lv 2 with
    | some w => bif xm_isA w then xm_run call xm_c0 nL mc ms ret Q f (xm_drop 168 xm_c0) lv (w :: st) G E kc ks else false
    | none => false)) := rfl
theorem xz_0_168 : xm_run call xm_c0 nL mc ms ret Q (f + 1) (xm_drop 168 xm_c0) lv st G E kc ks = ((match xm_get lv 0 with
    | some w => bif xm_isA w then xm_run call xm_c0 nL mc ms ret Q f (xm_drop 169 xm_c0) lv (w :: st) G E kc ks else false
    | none => false)) := rfl
theorem xz_0_169 : xm_run call xm_c0 nL mc ms ret Q (f + 1) (xm_drop 169 xm_c0) lv st G E kc ks = ((match xm_get lv 3 with
    | some w => bif xm_isI w then xm_run call xm_c0 nL mc ms ret Q f (xm_drop 170 xm_c0) lv (w :: st) G E kc ks else false
    | none => false)) := rfl
theorem xz_0_170 : xm_run call xm_c0 nL mc ms ret Q (f + 1) (xm_drop 170 xm_c0) lv st G E kc ks = (xm_run call xm_c0 nL mc ms ret Q f (xm_drop 171 xm_c0) lv ((.int 1) :: st) G E kc ks) := rfl
theorem xz_0_171 : xm_run call xm_c0 nL mc ms ret Q (f + 1) (xm_drop 171 xm_c0) lv st G E kc ks = (xm_int2 .iadd st E (fun st E => xm_run call xm_c0 nL mc ms ret Q f (xm_drop 172 xm_c0) lv st G E kc ks)) := rfl
theorem xz_0_172 : xm_run call xm_c0 nL mc ms ret Q (f + 1) (xm_drop 172 xm_c0) lv st G E kc ks = (xm_iald st G E (fun st E => xm_run call xm_c0 nL mc ms ret Q f (xm_drop 173 xm_c0) lv st G E kc ks)) := rfl
theorem xz_0_173 : xm_run call xm_c0 nL mc ms ret Q (f + 1) (xm_drop 173 xm_c0) lv st G E kc ks = ((match xm_get lv 0 with
    | some w => bif xm_isA w then xm_run call xm_c0 nL mc ms ret Q f (xm_drop 174 xm_c0) lv (w :: st) G E kc ks else false
    | none => false)) := rfl
theorem xz_0_174 : xm_run call xm_c0 nL mc ms ret Q (f + 1) (xm_drop 174 xm_c0) lv st G E kc ks = ((match xm_get lv 3 with
    | some w => bif xm_isI w then xm_run call xm_c0 nL mc ms ret Q f (xm_drop 175 xm_c0) lv (w :: st) G E kc ks else false
    | none => false)) := rfl
theorem xz_0_175 : xm_run call xm_c0 nL mc ms ret Q (f + 1) (xm_drop 175 xm_c0) lv st G E kc ks = (xm_run call xm_c0 nL mc ms ret Q f (xm_drop 176 xm_c0) lv ((.int 2) :: st) G E kc ks) := rfl
theorem xz_0_176 : xm_run call xm_c0 nL mc ms ret Q (f + 1) (xm_drop 176 xm_c0) lv st G E kc ks = (xm_int2 .iadd st E (fun st E => xm_run call xm_c0 nL mc ms ret Q f (xm_drop 177 xm_c0) lv st G E kc ks)) := rfl
theorem xz_0_177 : xm_run call xm_c0 nL mc ms ret Q (f + 1) (xm_drop 177 xm_c0) lv st G E kc ks = (xm_iald st G E (fun st E => xm_run call xm_c0 nL mc ms ret Q f (xm_drop 178 xm_c0) lv st G E kc ks)) := rfl
theorem xz_0_178 : xm_run call xm_c0 nL mc ms ret Q (f + 1) (xm_drop 178 xm_c0) lv st G E kc ks = (bif Nat.beq 185 1006 || Nat.beq 185 1007 then xm_strl 185 st G (fun st => xm_run call xm_c0 nL mc ms ret Q f (xm_drop 179 xm_c0) lv st G E kc ks) else xm_call call mc ms 185 0 st G E kc ks (fun st G E kc ks => xm_run call xm_c0 nL mc ms ret Q f (xm_drop 179 xm_c0) lv st G E kc ks)) := rfl
theorem xz_0_179 : xm_run call xm_c0 nL mc ms ret Q (f + 1) (xm_drop 179 xm_c0) lv st G E kc ks = ((match st with
    | w :: st => bif xm_cat1 w then xm_run call xm_c0 nL mc ms ret Q f (xm_drop 180 xm_c0) lv st G E kc ks else false
    | _ => false)) := rfl
theorem xz_0_180 : xm_run call xm_c0 nL mc ms ret Q (f + 1) (xm_drop 180 xm_c0) lv st G E kc ks = (xm_run call xm_c0 nL mc ms ret Q f (xm_drop 682 xm_c0) lv st G E kc ks) := rfl
theorem xz_0_181 : xm_run call xm_c0 nL mc ms ret Q (f + 1) (xm_drop 181 xm_c0) lv st G E kc ks = ((match xm_get lv 1 with
    | some w => bif xm_isA w then xm_run call xm_c0 nL mc ms ret Q f (xm_drop 182 xm_c0) lv (w :: st) G E kc ks else false
    | none => false)) := rfl
theorem xz_0_182 : xm_run call xm_c0 nL mc ms ret Q (f + 1) (xm_drop 182 xm_c0) lv st G E kc ks = ((match xm_get lv 0 with
    | some w => bif xm_isA w then xm_run call xm_c0 nL mc ms ret Q f (xm_drop 183 xm_c0) lv (w :: st) G E kc ks else false
    | none => false)) := rfl
theorem xz_0_183 : xm_run call xm_c0 nL mc ms ret Q (f + 1) (xm_drop 183 xm_c0) lv st G E kc ks = ((match xm_get lv 3 with
    | some w => bif xm_isI w then xm_run call xm_c0 nL mc ms ret Q f (xm_drop 184 xm_c0) lv (w :: st) G E kc ks else false
    | none => false)) := rfl
theorem xz_0_184 : xm_run call xm_c0 nL mc ms ret Q (f + 1) (xm_drop 184 xm_c0) lv st G E kc ks = (xm_run call xm_c0 nL mc ms ret Q f (xm_drop 185 xm_c0) lv ((.int 1) :: st) G E kc ks) := rfl
theorem xz_0_185 : xm_run call xm_c0 nL mc ms ret Q (f + 1) (xm_drop 185 xm_c0) lv st G E kc ks = (xm_int2 .iadd st E (fun st E => xm_run call xm_c0 nL mc ms ret Q f (xm_drop 186 xm_c0) lv st G E kc ks)) := rfl
theorem xz_0_186 : xm_run call xm_c0 nL mc ms ret Q (f + 1) (xm_drop 186 xm_c0) lv st G E kc ks = (xm_iald st G E (fun st E => xm_run call xm_c0 nL mc ms ret Q f (xm_drop 187 xm_c0) lv st G E kc ks)) := rfl
theorem xz_0_187 : xm_run call xm_c0 nL mc ms ret Q (f + 1) (xm_drop 187 xm_c0) lv st G E kc ks = ((match xm_get lv 0 with
    | some w => bif xm_isA w then xm_run call xm_c0 nL mc ms ret Q f (xm_drop 188 xm_c0) lv (w :: st) G E kc ks else false
    | none => false)) := rfl
theorem xz_0_188 : xm_run call xm_c0 nL mc ms ret Q (f + 1) (xm_drop 188 xm_c0) lv st G E kc ks = ((match xm_get lv 3 with
    | some w => bif xm_isI w then xm_run call xm_c0 nL mc ms ret Q f (xm_drop 189 xm_c0) lv (w :: st) G E kc ks else false
    | none => false)) := rfl
theorem xz_0_189 : xm_run call xm_c0 nL mc ms ret Q (f + 1) (xm_drop 189 xm_c0) lv st G E kc ks = (xm_run call xm_c0 nL mc ms ret Q f (xm_drop 190 xm_c0) lv ((.int 2) :: st) G E kc ks) := rfl
theorem xz_0_190 : xm_run call xm_c0 nL mc ms ret Q (f + 1) (xm_drop 190 xm_c0) lv st G E kc ks = (xm_int2 .iadd st E (fun st E => xm_run call xm_c0 nL mc ms ret Q f (xm_drop 191 xm_c0) lv st G E kc ks)) := rfl
theorem xz_0_191 : xm_run call xm_c0 nL mc ms ret Q (f + 1) (xm_drop 191 xm_c0) lv st G E kc ks = (xm_iald st G E (fun st E => xm_run call xm_c0 nL mc ms ret Q f (xm_drop 192 xm_c0) lv st G E kc ks)) := rfl
theorem xz_0_192 : xm_run call xm_c0 nL mc ms ret Q (f + 1) (xm_drop 192 xm_c0) lv st G E kc ks = (bif Nat.beq 95 1006 || Nat.beq 95 1007 then xm_strl 95 st G (fun st => xm_run call xm_c0 nL mc ms ret Q f (xm_drop 193 xm_c0) lv st G E kc ks) else xm_call call mc ms 95 0 st G E kc ks (fun st G E kc ks => xm_run call xm_c0 nL mc ms ret Q f (xm_drop 193 xm_c0) lv st G E kc ks)) := rfl
theorem xz_0_193 : xm_run call xm_c0 nL mc ms ret Q (f + 1) (xm_drop 193 xm_c0) lv st G E kc ks = ((match st with
    | w :: st => bif xm_cat1 w then xm_run call xm_c0 nL mc ms ret Q f (xm_drop 194 xm_c0) lv st G E kc ks else false
    | _ => false)) := rfl
theorem xz_0_194 : xm_run call xm_c0 nL mc ms ret Q (f + 1) (xm_drop 194 xm_c0) lv st G E kc ks = ((match xm_get lv 2 with
    | some w => bif xm_isA w then xm_run call xm_c0 nL mc ms ret Q f (xm_drop 195 xm_c0) lv (w :: st) G E kc ks else false
    | none => false)) := rfl
theorem xz_0_195 : xm_run call xm_c0 nL mc ms ret Q (f + 1) (xm_drop 195 xm_c0) lv st G E kc ks = ((match xm_get lv 0 with
    | some w => bif xm_isA w then xm_run call xm_c0 nL mc ms ret Q f (xm_drop 196 xm_c0) lv (w :: st) G E kc ks else false
    | none => false)) := rfl
theorem xz_0_196 : xm_run call xm_c0 nL mc ms ret Q (f + 1) (xm_drop 196 xm_c0) lv st G E kc ks = ((match xm_get lv 3 with
    | some w => bif xm_isI w then xm_run call xm_c0 nL mc ms ret Q f (xm_drop 197 xm_c0) lv (w :: st) G E kc ks else false
    | none => false)) := rfl
theorem xz_0_197 : xm_run call xm_c0 nL mc ms ret Q (f + 1) (xm_drop 197 xm_c0) lv st G E kc ks = (xm_run call xm_c0 nL mc ms ret Q f (xm_drop 198 xm_c0) lv ((.int 1) :: st) G E kc ks) := rfl
theorem xz_0_198 : xm_run call xm_c0 nL mc ms ret Q (f + 1) (xm_drop 198 xm_c0) lv st G E kc ks = (xm_int2 .iadd st E (fun st E => xm_run call xm_c0 nL mc ms ret Q f (xm_drop 199 xm_c0) lv st G E kc ks)) := rfl
theorem xz_0_199 : xm_run call xm_c0 nL mc ms ret Q (f + 1) (xm_drop 199 xm_c0) lv st G E kc ks = (xm_iald st G E (fun st E => xm_run call xm_c0 nL mc ms ret Q f (xm_drop 200 xm_c0) lv st G E kc ks)) := rfl
theorem xz_0_200 : xm_run call xm_c0 nL mc ms ret Q (f + 1) (xm_drop 200 xm_c0) lv st G E kc ks = ((match xm_get lv 0 with
    | some w => bif xm_isA w then xm_run call xm_c0 nL mc ms ret Q f (xm_drop 201 xm_c0) lv (w :: st) G E kc ks else false
    | none => false)) := rfl
theorem xz_0_201 : xm_run call xm_c0 nL mc ms ret Q (f + 1) (xm_drop 201 xm_c0) lv st G E kc ks = ((match xm_get lv 3 with
    | some w => bif xm_isI w then xm_run call xm_c0 nL mc ms ret Q f (xm_drop 202 xm_c0) lv (w :: st) G E kc ks else false
    | none => false)) := rfl
theorem xz_0_202 : xm_run call xm_c0 nL mc ms ret Q (f + 1) (xm_drop 202 xm_c0) lv st G E kc ks = (xm_run call xm_c0 nL mc ms ret Q f (xm_drop 203 xm_c0) lv ((.int 2) :: st) G E kc ks) := rfl
theorem xz_0_203 : xm_run call xm_c0 nL mc ms ret Q (f + 1) (xm_drop 203 xm_c0) lv st G E kc ks = (xm_int2 .iadd st E (fun st E => xm_run call xm_c0 nL mc ms ret Q f (xm_drop 204 xm_c0) lv st G E kc ks)) := rfl
theorem xz_0_204 : xm_run call xm_c0 nL mc ms ret Q (f + 1) (xm_drop 204 xm_c0) lv st G E kc ks = (xm_iald st G E (fun st E => xm_run call xm_c0 nL mc ms ret Q f (xm_drop 205 xm_c0) lv st G E kc ks)) := rfl
theorem xz_0_205 : xm_run call xm_c0 nL mc ms ret Q (f + 1) (xm_drop 205 xm_c0) lv st G E kc ks = (bif Nat.beq 186 1006 || Nat.beq 186 1007 then xm_strl 186 st G (fun st => xm_run call xm_c0 nL mc ms ret Q f (xm_drop 206 xm_c0) lv st G E kc ks) else xm_call call mc ms 186 0 st G E kc ks (fun st G E kc ks => xm_run call xm_c0 nL mc ms ret Q f (xm_drop 206 xm_c0) lv st G E kc ks)) := rfl
theorem xz_0_206 : xm_run call xm_c0 nL mc ms ret Q (f + 1) (xm_drop 206 xm_c0) lv st G E kc ks = ((match st with
    | w :: st => bif xm_cat1 w then xm_run call xm_c0 nL mc ms ret Q f (xm_drop 207 xm_c0) lv st G E kc ks else false
    | _ => false)) := rfl
theorem xz_0_207 : xm_run call xm_c0 nL mc ms ret Q (f + 1) (xm_drop 207 xm_c0) lv st G E kc ks = (xm_run call xm_c0 nL mc ms ret Q f (xm_drop 682 xm_c0) lv st G E kc ks) := rfl
theorem xz_0_208 : xm_run call xm_c0 nL mc ms ret Q (f + 1) (xm_drop 208 xm_c0) lv st G E kc ks = ((match xm_get lv 1 with
    | some w => bif xm_isA w then xm_run call xm_c0 nL mc ms ret Q f (xm_drop 209 xm_c0) lv (w :: st) G E kc ks else false
    | none => false)) := rfl
theorem xz_0_209 : xm_run call xm_c0 nL mc ms ret Q (f + 1) (xm_drop 209 xm_c0) lv st G E kc ks = (bif Nat.beq 96 1006 || Nat.beq 96 1007 then xm_strl 96 st G (fun st => xm_run call xm_c0 nL mc ms ret Q f (xm_drop 210 xm_c0) lv st G E kc ks) else xm_call call mc ms 96 0 st G E kc ks (fun st G E kc ks => xm_run call xm_c0 nL mc ms ret Q f (xm_drop 210 xm_c0) lv st G E kc ks)) := rfl
theorem xz_0_210 : xm_run call xm_c0 nL mc ms ret Q (f + 1) (xm_drop 210 xm_c0) lv st G E kc ks = ((match st with
    | w :: st => bif xm_cat1 w then xm_run call xm_c0 nL mc ms ret Q f (xm_drop 211 xm_c0) lv st G E kc ks else false
    | _ => false)) := rfl
theorem xz_0_211 : xm_run call xm_c0 nL mc ms ret Q (f + 1) (xm_drop 211 xm_c0) lv st G E kc ks = ((match xm_get lv 2 with
    | some w => bif xm_isA w then xm_run call xm_c0 nL mc ms ret Q f (xm_drop 212 xm_c0) lv (w :: st) G E kc ks else false
    | none => false)) := rfl
theorem xz_0_212 : xm_run call xm_c0 nL mc ms ret Q (f + 1) (xm_drop 212 xm_c0) lv st G E kc ks = (bif Nat.beq 200 1006 || Nat.beq 200 1007 then xm_strl 200 st G (fun st => xm_run call xm_c0 nL mc ms ret Q f (xm_drop 213 xm_c0) lv st G E kc ks) else xm_call call mc ms 200 0 st G E kc ks (fun st G E kc ks => xm_run call xm_c0 nL mc ms ret Q f (xm_drop 213 xm_c0) lv st G E kc ks)) := rfl
theorem xz_0_213 : xm_run call xm_c0 nL mc ms ret Q (f + 1) (xm_drop 213 xm_c0) lv st G E kc ks = ((match st with
    | w :: st => bif xm_cat1 w then xm_run call xm_c0 nL mc ms ret Q f (xm_drop 214 xm_c0) lv st G E kc ks else false
    | _ => false)) := rfl
theorem xz_0_214 : xm_run call xm_c0 nL mc ms ret Q (f + 1) (xm_drop 214 xm_c0) lv st G E kc ks = (xm_run call xm_c0 nL mc ms ret Q f (xm_drop 682 xm_c0) lv st G E kc ks) := rfl
theorem xz_0_215 : xm_run call xm_c0 nL mc ms ret Q (f + 1) (xm_drop 215 xm_c0) lv st G E kc ks = ((match xm_get lv 1 with
    | some w => bif xm_isA w then xm_run call xm_c0 nL mc ms ret Q f (xm_drop 216 xm_c0) lv (w :: st) G E kc ks else false
    | none => false)) := rfl
theorem xz_0_216 : xm_run call xm_c0 nL mc ms ret Q (f + 1) (xm_drop 216 xm_c0) lv st G E kc ks = ((match xm_get lv 0 with
    | some w => bif xm_isA w then xm_run call xm_c0 nL mc ms ret Q f (xm_drop 217 xm_c0) lv (w :: st) G E kc ks else false
    | none => false)) := rfl
theorem xz_0_217 : xm_run call xm_c0 nL mc ms ret Q (f + 1) (xm_drop 217 xm_c0) lv st G E kc ks = ((match xm_get lv 3 with
    | some w => bif xm_isI w then xm_run call xm_c0 nL mc ms ret Q f (xm_drop 218 xm_c0) lv (w :: st) G E kc ks else false
    | none => false)) := rfl
theorem xz_0_218 : xm_run call xm_c0 nL mc ms ret Q (f + 1) (xm_drop 218 xm_c0) lv st G E kc ks = (xm_run call xm_c0 nL mc ms ret Q f (xm_drop 219 xm_c0) lv ((.int 1) :: st) G E kc ks) := rfl
theorem xz_0_219 : xm_run call xm_c0 nL mc ms ret Q (f + 1) (xm_drop 219 xm_c0) lv st G E kc ks = (xm_int2 .iadd st E (fun st E => xm_run call xm_c0 nL mc ms ret Q f (xm_drop 220 xm_c0) lv st G E kc ks)) := rfl
theorem xz_0_220 : xm_run call xm_c0 nL mc ms ret Q (f + 1) (xm_drop 220 xm_c0) lv st G E kc ks = (xm_iald st G E (fun st E => xm_run call xm_c0 nL mc ms ret Q f (xm_drop 221 xm_c0) lv st G E kc ks)) := rfl
theorem xz_0_221 : xm_run call xm_c0 nL mc ms ret Q (f + 1) (xm_drop 221 xm_c0) lv st G E kc ks = ((match xm_get lv 0 with
    | some w => bif xm_isA w then xm_run call xm_c0 nL mc ms ret Q f (xm_drop 222 xm_c0) lv (w :: st) G E kc ks else false
    | none => false)) := rfl
theorem xz_0_222 : xm_run call xm_c0 nL mc ms ret Q (f + 1) (xm_drop 222 xm_c0) lv st G E kc ks = ((match xm_get lv 3 with
    | some w => bif xm_isI w then xm_run call xm_c0 nL mc ms ret Q f (xm_drop 223 xm_c0) lv (w :: st) G E kc ks else false
    | none => false)) := rfl
theorem xz_0_223 : xm_run call xm_c0 nL mc ms ret Q (f + 1) (xm_drop 223 xm_c0) lv st G E kc ks = (xm_run call xm_c0 nL mc ms ret Q f (xm_drop 224 xm_c0) lv ((.int 2) :: st) G E kc ks) := rfl
theorem xz_0_224 : xm_run call xm_c0 nL mc ms ret Q (f + 1) (xm_drop 224 xm_c0) lv st G E kc ks = (xm_int2 .iadd st E (fun st E => xm_run call xm_c0 nL mc ms ret Q f (xm_drop 225 xm_c0) lv st G E kc ks)) := rfl
theorem xz_0_225 : xm_run call xm_c0 nL mc ms ret Q (f + 1) (xm_drop 225 xm_c0) lv st G E kc ks = (xm_iald st G E (fun st E => xm_run call xm_c0 nL mc ms ret Q f (xm_drop 226 xm_c0) lv st G E kc ks)) := rfl
theorem xz_0_226 : xm_run call xm_c0 nL mc ms ret Q (f + 1) (xm_drop 226 xm_c0) lv st G E kc ks = (bif Nat.beq 97 1006 || Nat.beq 97 1007 then xm_strl 97 st G (fun st => xm_run call xm_c0 nL mc ms ret Q f (xm_drop 227 xm_c0) lv st G E kc ks) else xm_call call mc ms 97 0 st G E kc ks (fun st G E kc ks => xm_run call xm_c0 nL mc ms ret Q f (xm_drop 227 xm_c0) lv st G E kc ks)) := rfl
theorem xz_0_227 : xm_run call xm_c0 nL mc ms ret Q (f + 1) (xm_drop 227 xm_c0) lv st G E kc ks = ((match st with
    | w :: st => bif xm_cat1 w then xm_run call xm_c0 nL mc ms ret Q f (xm_drop 228 xm_c0) lv st G E kc ks else false
    | _ => false)) := rfl
theorem xz_0_228 : xm_run call xm_c0 nL mc ms ret Q (f + 1) (xm_drop 228 xm_c0) lv st G E kc ks = ((match xm_get lv 2 with
    | some w => bif xm_isA w then xm_run call xm_c0 nL mc ms ret Q f (xm_drop 229 xm_c0) lv (w :: st) G E kc ks else false
    | none => false)) := rfl
theorem xz_0_229 : xm_run call xm_c0 nL mc ms ret Q (f + 1) (xm_drop 229 xm_c0) lv st G E kc ks = ((match xm_get lv 0 with
    | some w => bif xm_isA w then xm_run call xm_c0 nL mc ms ret Q f (xm_drop 230 xm_c0) lv (w :: st) G E kc ks else false
    | none => false)) := rfl
theorem xz_0_230 : xm_run call xm_c0 nL mc ms ret Q (f + 1) (xm_drop 230 xm_c0) lv st G E kc ks = ((match xm_get lv 3 with
    | some w => bif xm_isI w then xm_run call xm_c0 nL mc ms ret Q f (xm_drop 231 xm_c0) lv (w :: st) G E kc ks else false
    | none => false)) := rfl
theorem xz_0_231 : xm_run call xm_c0 nL mc ms ret Q (f + 1) (xm_drop 231 xm_c0) lv st G E kc ks = (xm_run call xm_c0 nL mc ms ret Q f (xm_drop 232 xm_c0) lv ((.int 1) :: st) G E kc ks) := rfl
theorem xz_0_232 : xm_run call xm_c0 nL mc ms ret Q (f + 1) (xm_drop 232 xm_c0) lv st G E kc ks = (xm_int2 .iadd st E (fun st E => xm_run call xm_c0 nL mc ms ret Q f (xm_drop 233 xm_c0) lv st G E kc ks)) := rfl
theorem xz_0_233 : xm_run call xm_c0 nL mc ms ret Q (f + 1) (xm_drop 233 xm_c0) lv st G E kc ks = (xm_iald st G E (fun st E => xm_run call xm_c0 nL mc ms ret Q f (xm_drop 234 xm_c0) lv st G E kc ks)) := rfl
theorem xz_0_234 : xm_run call xm_c0 nL mc ms ret Q (f + 1) (xm_drop 234 xm_c0) lv st G E kc ks = ((match xm_get lv 0 with
    | some w => bif xm_isA w then xm_run call xm_c0 nL mc ms ret Q f (xm_drop 235 xm_c0) lv (w :: st) G E kc ks else false
    | none => false)) := rfl
theorem xz_0_235 : xm_run call xm_c0 nL mc ms ret Q (f + 1) (xm_drop 235 xm_c0) lv st G E kc ks = ((match xm_get lv 3 with
    | some w => bif xm_isI w then xm_run call xm_c0 nL mc ms ret Q f (xm_drop 236 xm_c0) lv (w :: st) G E kc ks else false
    | none => false)) := rfl
theorem xz_0_236 : xm_run call xm_c0 nL mc ms ret Q (f + 1) (xm_drop 236 xm_c0) lv st G E kc ks = (xm_run call xm_c0 nL mc ms ret Q f (xm_drop 237 xm_c0) lv ((.int 2) :: st) G E kc ks) := rfl
theorem xz_0_237 : xm_run call xm_c0 nL mc ms ret Q (f + 1) (xm_drop 237 xm_c0) lv st G E kc ks = (xm_int2 .iadd st E (fun st E => xm_run call xm_c0 nL mc ms ret Q f (xm_drop 238 xm_c0) lv st G E kc ks)) := rfl
theorem xz_0_238 : xm_run call xm_c0 nL mc ms ret Q (f + 1) (xm_drop 238 xm_c0) lv st G E kc ks = (xm_iald st G E (fun st E => xm_run call xm_c0 nL mc ms ret Q f (xm_drop 239 xm_c0) lv st G E kc ks)) := rfl
theorem xz_0_239 : xm_run call xm_c0 nL mc ms ret Q (f + 1) (xm_drop 239 xm_c0) lv st G E kc ks = (bif Nat.beq 202 1006 || Nat.beq 202 1007 then xm_strl 202 st G (fun st => xm_run call xm_c0 nL mc ms ret Q f (xm_drop 240 xm_c0) lv st G E kc ks) else xm_call call mc ms 202 0 st G E kc ks (fun st G E kc ks => xm_run call xm_c0 nL mc ms ret Q f (xm_drop 240 xm_c0) lv st G E kc ks)) := rfl
theorem xz_0_240 : xm_run call xm_c0 nL mc ms ret Q (f + 1) (xm_drop 240 xm_c0) lv st G E kc ks = ((match st with
    | w :: st => bif xm_cat1 w then xm_run call xm_c0 nL mc ms ret Q f (xm_drop 241 xm_c0) lv st G E kc ks else false
    | _ => false)) := rfl
theorem xz_0_241 : xm_run call xm_c0 nL mc ms ret Q (f + 1) (xm_drop 241 xm_c0) lv st G E kc ks = (xm_run call xm_c0 nL mc ms ret Q f (xm_drop 682 xm_c0) lv st G E kc ks) := rfl
theorem xz_0_242 : xm_run call xm_c0 nL mc ms ret Q (f + 1) (xm_drop 242 xm_c0) lv st G E kc ks = ((match xm_get lv 1 with
    | some w => bif xm_isA w then xm_run call xm_c0 nL mc ms ret Q f (xm_drop 243 xm_c0) lv (w :: st) G E kc ks else false
    | none => false)) := rfl
theorem xz_0_243 : xm_run call xm_c0 nL mc ms ret Q (f + 1) (xm_drop 243 xm_c0) lv st G E kc ks = ((match xm_get lv 0 with
    | some w => bif xm_isA w then xm_run call xm_c0 nL mc ms ret Q f (xm_drop 244 xm_c0) lv (w :: st) G E kc ks else false
    | none => false)) := rfl
theorem xz_0_244 : xm_run call xm_c0 nL mc ms ret Q (f + 1) (xm_drop 244 xm_c0) lv st G E kc ks = ((match xm_get lv 3 with
    | some w => bif xm_isI w then xm_run call xm_c0 nL mc ms ret Q f (xm_drop 245 xm_c0) lv (w :: st) G E kc ks else false
    | none => false)) := rfl
theorem xz_0_245 : xm_run call xm_c0 nL mc ms ret Q (f + 1) (xm_drop 245 xm_c0) lv st G E kc ks = (xm_run call xm_c0 nL mc ms ret Q f (xm_drop 246 xm_c0) lv ((.int 1) :: st) G E kc ks) := rfl
theorem xz_0_246 : xm_run call xm_c0 nL mc ms ret Q (f + 1) (xm_drop 246 xm_c0) lv st G E kc ks = (xm_int2 .iadd st E (fun st E => xm_run call xm_c0 nL mc ms ret Q f (xm_drop 247 xm_c0) lv st G E kc ks)) := rfl
theorem xz_0_247 : xm_run call xm_c0 nL mc ms ret Q (f + 1) (xm_drop 247 xm_c0) lv st G E kc ks = (xm_iald st G E (fun st E => xm_run call xm_c0 nL mc ms ret Q f (xm_drop 248 xm_c0) lv st G E kc ks)) := rfl
theorem xz_0_248 : xm_run call xm_c0 nL mc ms ret Q (f + 1) (xm_drop 248 xm_c0) lv st G E kc ks = ((match xm_get lv 0 with
    | some w => bif xm_isA w then xm_run call xm_c0 nL mc ms ret Q f (xm_drop 249 xm_c0) lv (w :: st) G E kc ks else false
    | none => false)) := rfl
theorem xz_0_249 : xm_run call xm_c0 nL mc ms ret Q (f + 1) (xm_drop 249 xm_c0) lv st G E kc ks = ((match xm_get lv 3 with
    | some w => bif xm_isI w then xm_run call xm_c0 nL mc ms ret Q f (xm_drop 250 xm_c0) lv (w :: st) G E kc ks else false
    | none => false)) := rfl
theorem xz_0_250 : xm_run call xm_c0 nL mc ms ret Q (f + 1) (xm_drop 250 xm_c0) lv st G E kc ks = (xm_run call xm_c0 nL mc ms ret Q f (xm_drop 251 xm_c0) lv ((.int 2) :: st) G E kc ks) := rfl
theorem xz_0_251 : xm_run call xm_c0 nL mc ms ret Q (f + 1) (xm_drop 251 xm_c0) lv st G E kc ks = (xm_int2 .iadd st E (fun st E => xm_run call xm_c0 nL mc ms ret Q f (xm_drop 252 xm_c0) lv st G E kc ks)) := rfl
theorem xz_0_252 : xm_run call xm_c0 nL mc ms ret Q (f + 1) (xm_drop 252 xm_c0) lv st G E kc ks = (xm_iald st G E (fun st E => xm_run call xm_c0 nL mc ms ret Q f (xm_drop 253 xm_c0) lv st G E kc ks)) := rfl
theorem xz_0_253 : xm_run call xm_c0 nL mc ms ret Q (f + 1) (xm_drop 253 xm_c0) lv st G E kc ks = (bif Nat.beq 98 1006 || Nat.beq 98 1007 then xm_strl 98 st G (fun st => xm_run call xm_c0 nL mc ms ret Q f (xm_drop 254 xm_c0) lv st G E kc ks) else xm_call call mc ms 98 0 st G E kc ks (fun st G E kc ks => xm_run call xm_c0 nL mc ms ret Q f (xm_drop 254 xm_c0) lv st G E kc ks)) := rfl
theorem xz_0_254 : xm_run call xm_c0 nL mc ms ret Q (f + 1) (xm_drop 254 xm_c0) lv st G E kc ks = ((match st with
    | w :: st => bif xm_cat1 w then xm_run call xm_c0 nL mc ms ret Q f (xm_drop 255 xm_c0) lv st G E kc ks else false
    | _ => false)) := rfl
theorem xz_0_255 : xm_run call xm_c0 nL mc ms ret Q (f + 1) (xm_drop 255 xm_c0) lv st G E kc ks = ((match xm_get lv 2 with
    | some w => bif xm_isA w then xm_run call xm_c0 nL mc ms ret Q f (xm_drop 256 xm_c0) lv (w :: st) G E kc ks else false
    | none => false)) := rfl
theorem xz_0_256 : xm_run call xm_c0 nL mc ms ret Q (f + 1) (xm_drop 256 xm_c0) lv st G E kc ks = ((match xm_get lv 0 with
    | some w => bif xm_isA w then xm_run call xm_c0 nL mc ms ret Q f (xm_drop 257 xm_c0) lv (w :: st) G E kc ks else false
    | none => false)) := rfl
theorem xz_0_257 : xm_run call xm_c0 nL mc ms ret Q (f + 1) (xm_drop 257 xm_c0) lv st G E kc ks = ((match xm_get lv 3 with
    | some w => bif xm_isI w then xm_run call xm_c0 nL mc ms ret Q f (xm_drop 258 xm_c0) lv (w :: st) G E kc ks else false
    | none => false)) := rfl
theorem xz_0_258 : xm_run call xm_c0 nL mc ms ret Q (f + 1) (xm_drop 258 xm_c0) lv st G E kc ks = (xm_run call xm_c0 nL mc ms ret Q f (xm_drop 259 xm_c0) lv ((.int 1) :: st) G E kc ks) := rfl
theorem xz_0_259 : xm_run call xm_c0 nL mc ms ret Q (f + 1) (xm_drop 259 xm_c0) lv st G E kc ks = (xm_int2 .iadd st E (fun st E => xm_run call xm_c0 nL mc ms ret Q f (xm_drop 260 xm_c0) lv st G E kc ks)) := rfl
theorem xz_0_260 : xm_run call xm_c0 nL mc ms ret Q (f + 1) (xm_drop 260 xm_c0) lv st G E kc ks = (xm_iald st G E (fun st E => xm_run call xm_c0 nL mc ms ret Q f (xm_drop 261 xm_c0) lv st G E kc ks)) := rfl
theorem xz_0_261 : xm_run call xm_c0 nL mc ms ret Q (f + 1) (xm_drop 261 xm_c0) lv st G E kc ks = ((match xm_get lv 0 with
    | some w => bif xm_isA w then xm_run call xm_c0 nL mc ms ret Q f (xm_drop 262 xm_c0) lv (w :: st) G E kc ks else false
    | none => false)) := rfl
theorem xz_0_262 : xm_run call xm_c0 nL mc ms ret Q (f + 1) (xm_drop 262 xm_c0) lv st G E kc ks = ((match xm_get lv 3 with
    | some w => bif xm_isI w then xm_run call xm_c0 nL mc ms ret Q f (xm_drop 263 xm_c0) lv (w :: st) G E kc ks else false
    | none => false)) := rfl
theorem xz_0_263 : xm_run call xm_c0 nL mc ms ret Q (f + 1) (xm_drop 263 xm_c0) lv st G E kc ks = (xm_run call xm_c0 nL mc ms ret Q f (xm_drop 264 xm_c0) lv ((.int 2) :: st) G E kc ks) := rfl
theorem xz_0_264 : xm_run call xm_c0 nL mc ms ret Q (f + 1) (xm_drop 264 xm_c0) lv st G E kc ks = (xm_int2 .iadd st E (fun st E => xm_run call xm_c0 nL mc ms ret Q f (xm_drop 265 xm_c0) lv st G E kc ks)) := rfl
theorem xz_0_265 : xm_run call xm_c0 nL mc ms ret Q (f + 1) (xm_drop 265 xm_c0) lv st G E kc ks = (xm_iald st G E (fun st E => xm_run call xm_c0 nL mc ms ret Q f (xm_drop 266 xm_c0) lv st G E kc ks)) := rfl
theorem xz_0_266 : xm_run call xm_c0 nL mc ms ret Q (f + 1) (xm_drop 266 xm_c0) lv st G E kc ks = (bif Nat.beq 204 1006 || Nat.beq 204 1007 then xm_strl 204 st G (fun st => xm_run call xm_c0 nL mc ms ret Q f (xm_drop 267 xm_c0) lv st G E kc ks) else xm_call call mc ms 204 0 st G E kc ks (fun st G E kc ks => xm_run call xm_c0 nL mc ms ret Q f (xm_drop 267 xm_c0) lv st G E kc ks)) := rfl
theorem xz_0_267 : xm_run call xm_c0 nL mc ms ret Q (f + 1) (xm_drop 267 xm_c0) lv st G E kc ks = ((match st with
    | w :: st => bif xm_cat1 w then xm_run call xm_c0 nL mc ms ret Q f (xm_drop 268 xm_c0) lv st G E kc ks else false
    | _ => false)) := rfl
theorem xz_0_268 : xm_run call xm_c0 nL mc ms ret Q (f + 1) (xm_drop 268 xm_c0) lv st G E kc ks = (xm_run call xm_c0 nL mc ms ret Q f (xm_drop 682 xm_c0) lv st G E kc ks) := rfl
theorem xz_0_269 : xm_run call xm_c0 nL mc ms ret Q (f + 1) (xm_drop 269 xm_c0) lv st G E kc ks = ((match xm_get lv 1 with
    | some w => bif xm_isA w then xm_run call xm_c0 nL mc ms ret Q f (xm_drop 270 xm_c0) lv (w :: st) G E kc ks else false
    | none => false)) := rfl
theorem xz_0_270 : xm_run call xm_c0 nL mc ms ret Q (f + 1) (xm_drop 270 xm_c0) lv st G E kc ks = ((match xm_get lv 0 with
    | some w => bif xm_isA w then xm_run call xm_c0 nL mc ms ret Q f (xm_drop 271 xm_c0) lv (w :: st) G E kc ks else false
    | none => false)) := rfl
theorem xz_0_271 : xm_run call xm_c0 nL mc ms ret Q (f + 1) (xm_drop 271 xm_c0) lv st G E kc ks = ((match xm_get lv 3 with
    | some w => bif xm_isI w then xm_run call xm_c0 nL mc ms ret Q f (xm_drop 272 xm_c0) lv (w :: st) G E kc ks else false
    | none => false)) := rfl
theorem xz_0_272 : xm_run call xm_c0 nL mc ms ret Q (f + 1) (xm_drop 272 xm_c0) lv st G E kc ks = (xm_run call xm_c0 nL mc ms ret Q f (xm_drop 273 xm_c0) lv ((.int 1) :: st) G E kc ks) := rfl
theorem xz_0_273 : xm_run call xm_c0 nL mc ms ret Q (f + 1) (xm_drop 273 xm_c0) lv st G E kc ks = (xm_int2 .iadd st E (fun st E => xm_run call xm_c0 nL mc ms ret Q f (xm_drop 274 xm_c0) lv st G E kc ks)) := rfl
theorem xz_0_274 : xm_run call xm_c0 nL mc ms ret Q (f + 1) (xm_drop 274 xm_c0) lv st G E kc ks = (xm_iald st G E (fun st E => xm_run call xm_c0 nL mc ms ret Q f (xm_drop 275 xm_c0) lv st G E kc ks)) := rfl
theorem xz_0_275 : xm_run call xm_c0 nL mc ms ret Q (f + 1) (xm_drop 275 xm_c0) lv st G E kc ks = (bif Nat.beq 99 1006 || Nat.beq 99 1007 then xm_strl 99 st G (fun st => xm_run call xm_c0 nL mc ms ret Q f (xm_drop 276 xm_c0) lv st G E kc ks) else xm_call call mc ms 99 0 st G E kc ks (fun st G E kc ks => xm_run call xm_c0 nL mc ms ret Q f (xm_drop 276 xm_c0) lv st G E kc ks)) := rfl
theorem xz_0_276 : xm_run call xm_c0 nL mc ms ret Q (f + 1) (xm_drop 276 xm_c0) lv st G E kc ks = ((match st with
    | w :: st => bif xm_cat1 w then xm_run call xm_c0 nL mc ms ret Q f (xm_drop 277 xm_c0) lv st G E kc ks else false
    | _ => false)) := rfl
theorem xz_0_277 : xm_run call xm_c0 nL mc ms ret Q (f + 1) (xm_drop 277 xm_c0) lv st G E kc ks = ((match xm_get lv 2 with
    | some w => bif xm_isA w then xm_run call xm_c0 nL mc ms ret Q f (xm_drop 278 xm_c0) lv (w :: st) G E kc ks else false
    | none => false)) := rfl
theorem xz_0_278 : xm_run call xm_c0 nL mc ms ret Q (f + 1) (xm_drop 278 xm_c0) lv st G E kc ks = ((match xm_get lv 0 with
    | some w => bif xm_isA w then xm_run call xm_c0 nL mc ms ret Q f (xm_drop 279 xm_c0) lv (w :: st) G E kc ks else false
    | none => false)) := rfl
theorem xz_0_279 : xm_run call xm_c0 nL mc ms ret Q (f + 1) (xm_drop 279 xm_c0) lv st G E kc ks = ((match xm_get lv 3 with
    | some w => bif xm_isI w then xm_run call xm_c0 nL mc ms ret Q f (xm_drop 280 xm_c0) lv (w :: st) G E kc ks else false
    | none => false)) := rfl
theorem xz_0_280 : xm_run call xm_c0 nL mc ms ret Q (f + 1) (xm_drop 280 xm_c0) lv st G E kc ks = (xm_run call xm_c0 nL mc ms ret Q f (xm_drop 281 xm_c0) lv ((.int 1) :: st) G E kc ks) := rfl
theorem xz_0_281 : xm_run call xm_c0 nL mc ms ret Q (f + 1) (xm_drop 281 xm_c0) lv st G E kc ks = (xm_int2 .iadd st E (fun st E => xm_run call xm_c0 nL mc ms ret Q f (xm_drop 282 xm_c0) lv st G E kc ks)) := rfl
theorem xz_0_282 : xm_run call xm_c0 nL mc ms ret Q (f + 1) (xm_drop 282 xm_c0) lv st G E kc ks = (xm_iald st G E (fun st E => xm_run call xm_c0 nL mc ms ret Q f (xm_drop 283 xm_c0) lv st G E kc ks)) := rfl
theorem xz_0_283 : xm_run call xm_c0 nL mc ms ret Q (f + 1) (xm_drop 283 xm_c0) lv st G E kc ks = (bif Nat.beq 205 1006 || Nat.beq 205 1007 then xm_strl 205 st G (fun st => xm_run call xm_c0 nL mc ms ret Q f (xm_drop 284 xm_c0) lv st G E kc ks) else xm_call call mc ms 205 0 st G E kc ks (fun st G E kc ks => xm_run call xm_c0 nL mc ms ret Q f (xm_drop 284 xm_c0) lv st G E kc ks)) := rfl
theorem xz_0_284 : xm_run call xm_c0 nL mc ms ret Q (f + 1) (xm_drop 284 xm_c0) lv st G E kc ks = ((match st with
    | w :: st => bif xm_cat1 w then xm_run call xm_c0 nL mc ms ret Q f (xm_drop 285 xm_c0) lv st G E kc ks else false
    | _ => false)) := rfl
theorem xz_0_285 : xm_run call xm_c0 nL mc ms ret Q (f + 1) (xm_drop 285 xm_c0) lv st G E kc ks = (xm_run call xm_c0 nL mc ms ret Q f (xm_drop 682 xm_c0) lv st G E kc ks) := rfl
theorem xz_0_286 : xm_run call xm_c0 nL mc ms ret Q (f + 1) (xm_drop 286 xm_c0) lv st G E kc ks = ((match xm_get lv 1 with
    | some w => bif xm_isA w then xm_run call xm_c0 nL mc ms ret Q f (xm_drop 287 xm_c0) lv (w :: st) G E kc ks else false
    | none => false)) := rfl
theorem xz_0_287 : xm_run call xm_c0 nL mc ms ret Q (f + 1) (xm_drop 287 xm_c0) lv st G E kc ks = ((match xm_get lv 0 with
    | some w => bif xm_isA w then xm_run call xm_c0 nL mc ms ret Q f (xm_drop 288 xm_c0) lv (w :: st) G E kc ks else false
    | none => false)) := rfl
theorem xz_0_288 : xm_run call xm_c0 nL mc ms ret Q (f + 1) (xm_drop 288 xm_c0) lv st G E kc ks = ((match xm_get lv 3 with
    | some w => bif xm_isI w then xm_run call xm_c0 nL mc ms ret Q f (xm_drop 289 xm_c0) lv (w :: st) G E kc ks else false
    | none => false)) := rfl
theorem xz_0_289 : xm_run call xm_c0 nL mc ms ret Q (f + 1) (xm_drop 289 xm_c0) lv st G E kc ks = (xm_run call xm_c0 nL mc ms ret Q f (xm_drop 290 xm_c0) lv ((.int 1) :: st) G E kc ks) := rfl
theorem xz_0_290 : xm_run call xm_c0 nL mc ms ret Q (f + 1) (xm_drop 290 xm_c0) lv st G E kc ks = (xm_int2 .iadd st E (fun st E => xm_run call xm_c0 nL mc ms ret Q f (xm_drop 291 xm_c0) lv st G E kc ks)) := rfl
theorem xz_0_291 : xm_run call xm_c0 nL mc ms ret Q (f + 1) (xm_drop 291 xm_c0) lv st G E kc ks = (xm_iald st G E (fun st E => xm_run call xm_c0 nL mc ms ret Q f (xm_drop 292 xm_c0) lv st G E kc ks)) := rfl
theorem xz_0_292 : xm_run call xm_c0 nL mc ms ret Q (f + 1) (xm_drop 292 xm_c0) lv st G E kc ks = (bif Nat.beq 100 1006 || Nat.beq 100 1007 then xm_strl 100 st G (fun st => xm_run call xm_c0 nL mc ms ret Q f (xm_drop 293 xm_c0) lv st G E kc ks) else xm_call call mc ms 100 0 st G E kc ks (fun st G E kc ks => xm_run call xm_c0 nL mc ms ret Q f (xm_drop 293 xm_c0) lv st G E kc ks)) := rfl
theorem xz_0_293 : xm_run call xm_c0 nL mc ms ret Q (f + 1) (xm_drop 293 xm_c0) lv st G E kc ks = ((match xm_get lv 2 with
    | some w => bif xm_isA w then xm_run call xm_c0 nL mc ms ret Q f (xm_drop 294 xm_c0) lv (w :: st) G E kc ks else false
    | none => false)) := rfl
theorem xz_0_294 : xm_run call xm_c0 nL mc ms ret Q (f + 1) (xm_drop 294 xm_c0) lv st G E kc ks = ((match xm_get lv 0 with
    | some w => bif xm_isA w then xm_run call xm_c0 nL mc ms ret Q f (xm_drop 295 xm_c0) lv (w :: st) G E kc ks else false
    | none => false)) := rfl
theorem xz_0_295 : xm_run call xm_c0 nL mc ms ret Q (f + 1) (xm_drop 295 xm_c0) lv st G E kc ks = ((match xm_get lv 3 with
    | some w => bif xm_isI w then xm_run call xm_c0 nL mc ms ret Q f (xm_drop 296 xm_c0) lv (w :: st) G E kc ks else false
    | none => false)) := rfl
theorem xz_0_296 : xm_run call xm_c0 nL mc ms ret Q (f + 1) (xm_drop 296 xm_c0) lv st G E kc ks = (xm_run call xm_c0 nL mc ms ret Q f (xm_drop 297 xm_c0) lv ((.int 1) :: st) G E kc ks) := rfl
theorem xz_0_297 : xm_run call xm_c0 nL mc ms ret Q (f + 1) (xm_drop 297 xm_c0) lv st G E kc ks = (xm_int2 .iadd st E (fun st E => xm_run call xm_c0 nL mc ms ret Q f (xm_drop 298 xm_c0) lv st G E kc ks)) := rfl
theorem xz_0_298 : xm_run call xm_c0 nL mc ms ret Q (f + 1) (xm_drop 298 xm_c0) lv st G E kc ks = (xm_iald st G E (fun st E => xm_run call xm_c0 nL mc ms ret Q f (xm_drop 299 xm_c0) lv st G E kc ks)) := rfl
theorem xz_0_299 : xm_run call xm_c0 nL mc ms ret Q (f + 1) (xm_drop 299 xm_c0) lv st G E kc ks = (bif Nat.beq 206 1006 || Nat.beq 206 1007 then xm_strl 206 st G (fun st => xm_run call xm_c0 nL mc ms ret Q f (xm_drop 300 xm_c0) lv st G E kc ks) else xm_call call mc ms 206 0 st G E kc ks (fun st G E kc ks => xm_run call xm_c0 nL mc ms ret Q f (xm_drop 300 xm_c0) lv st G E kc ks)) := rfl
theorem xz_0_300 : xm_run call xm_c0 nL mc ms ret Q (f + 1) (xm_drop 300 xm_c0) lv st G E kc ks = ((match st with
    | w :: u :: st => xm_cmpI E u w (fun E s => bif xm_holds .eq s then xm_run call xm_c0 nL mc ms ret Q f (xm_drop 682 xm_c0) lv st G E kc ks else xm_run call xm_c0 nL mc ms ret Q f (xm_drop 301 xm_c0) lv st G E kc ks)
    | _ => false)) := rfl
theorem xz_0_301 : xm_run call xm_c0 nL mc ms ret Q (f + 1) (xm_drop 301 xm_c0) lv st G E kc ks = (xm_run call xm_c0 nL mc ms ret Q f (xm_drop 302 xm_c0) lv ((.int 0) :: st) G E kc ks) := rfl
theorem xz_0_302 : xm_run call xm_c0 nL mc ms ret Q (f + 1) (xm_drop 302 xm_c0) lv st G E kc ks = ((match st with
    | [w] => bif xm_isI w && (xm_rok ret w && (Nat.ble kc mc && Nat.ble ks ms)) then Q (some w) G E else false
    | _ => false)) := rfl
theorem xz_0_303 : xm_run call xm_c0 nL mc ms ret Q (f + 1) (xm_drop 303 xm_c0) lv st G E kc ks = ((match xm_get lv 1 with
    | some w => bif xm_isA w then xm_run call xm_c0 nL mc ms ret Q f (xm_drop 304 xm_c0) lv (w :: st) G E kc ks else false
    | none => false)) := rfl
theorem xz_0_304 : xm_run call xm_c0 nL mc ms ret Q (f + 1) (xm_drop 304 xm_c0) lv st G E kc ks = (bif Nat.beq 101 1006 || Nat.beq 101 1007 then xm_strl 101 st G (fun st => xm_run call xm_c0 nL mc ms ret Q f (xm_drop 305 xm_c0) lv st G E kc ks) else xm_call call mc ms 101 0 st G E kc ks (fun st G E kc ks => xm_run call xm_c0 nL mc ms ret Q f (xm_drop 305 xm_c0) lv st G E kc ks)) := rfl
theorem xz_0_305 : xm_run call xm_c0 nL mc ms ret Q (f + 1) (xm_drop 305 xm_c0) lv st G E kc ks = ((match st with
    | w :: st => bif xm_cat1 w then xm_run call xm_c0 nL mc ms ret Q f (xm_drop 306 xm_c0) lv st G E kc ks else false
    | _ => false)) := rfl
theorem xz_0_306 : xm_run call xm_c0 nL mc ms ret Q (f + 1) (xm_drop 306 xm_c0) lv st G E kc ks = ((match xm_get lv 2 with
    | some w => bif xm_isA w then xm_run call xm_c0 nL mc ms ret Q f (xm_drop 307 xm_c0) lv (w :: st) G E kc ks else false
    | none => false)) := rfl
theorem xz_0_307 : xm_run call xm_c0 nL mc ms ret Q (f + 1) (xm_drop 307 xm_c0) lv st G E kc ks = (bif Nat.beq 199 1006 || Nat.beq 199 1007 then xm_strl 199 st G (fun st => xm_run call xm_c0 nL mc ms ret Q f (xm_drop 308 xm_c0) lv st G E kc ks) else xm_call call mc ms 199 0 st G E kc ks (fun st G E kc ks => xm_run call xm_c0 nL mc ms ret Q f (xm_drop 308 xm_c0) lv st G E kc ks)) := rfl
theorem xz_0_308 : xm_run call xm_c0 nL mc ms ret Q (f + 1) (xm_drop 308 xm_c0) lv st G E kc ks = ((match st with
    | w :: st => bif xm_cat1 w then xm_run call xm_c0 nL mc ms ret Q f (xm_drop 309 xm_c0) lv st G E kc ks else false
    | _ => false)) := rfl
theorem xz_0_309 : xm_run call xm_c0 nL mc ms ret Q (f + 1) (xm_drop 309 xm_c0) lv st G E kc ks = (xm_run call xm_c0 nL mc ms ret Q f (xm_drop 682 xm_c0) lv st G E kc ks) := rfl
theorem xz_0_310 : xm_run call xm_c0 nL mc ms ret Q (f + 1) (xm_drop 310 xm_c0) lv st G E kc ks = ((match xm_get lv 1 with
    | some w => bif xm_isA w then xm_run call xm_c0 nL mc ms ret Q f (xm_drop 311 xm_c0) lv (w :: st) G E kc ks else false
    | none => false)) := rfl
theorem xz_0_311 : xm_run call xm_c0 nL mc ms ret Q (f + 1) (xm_drop 311 xm_c0) lv st G E kc ks = ((match xm_get lv 0 with
    | some w => bif xm_isA w then xm_run call xm_c0 nL mc ms ret Q f (xm_drop 312 xm_c0) lv (w :: st) G E kc ks else false
    | none => false)) := rfl
theorem xz_0_312 : xm_run call xm_c0 nL mc ms ret Q (f + 1) (xm_drop 312 xm_c0) lv st G E kc ks = ((match xm_get lv 3 with
    | some w => bif xm_isI w then xm_run call xm_c0 nL mc ms ret Q f (xm_drop 313 xm_c0) lv (w :: st) G E kc ks else false
    | none => false)) := rfl
theorem xz_0_313 : xm_run call xm_c0 nL mc ms ret Q (f + 1) (xm_drop 313 xm_c0) lv st G E kc ks = (xm_run call xm_c0 nL mc ms ret Q f (xm_drop 314 xm_c0) lv ((.int 1) :: st) G E kc ks) := rfl
theorem xz_0_314 : xm_run call xm_c0 nL mc ms ret Q (f + 1) (xm_drop 314 xm_c0) lv st G E kc ks = (xm_int2 .iadd st E (fun st E => xm_run call xm_c0 nL mc ms ret Q f (xm_drop 315 xm_c0) lv st G E kc ks)) := rfl
theorem xz_0_315 : xm_run call xm_c0 nL mc ms ret Q (f + 1) (xm_drop 315 xm_c0) lv st G E kc ks = (xm_iald st G E (fun st E => xm_run call xm_c0 nL mc ms ret Q f (xm_drop 316 xm_c0) lv st G E kc ks)) := rfl
theorem xz_0_316 : xm_run call xm_c0 nL mc ms ret Q (f + 1) (xm_drop 316 xm_c0) lv st G E kc ks = (bif Nat.beq 102 1006 || Nat.beq 102 1007 then xm_strl 102 st G (fun st => xm_run call xm_c0 nL mc ms ret Q f (xm_drop 317 xm_c0) lv st G E kc ks) else xm_call call mc ms 102 0 st G E kc ks (fun st G E kc ks => xm_run call xm_c0 nL mc ms ret Q f (xm_drop 317 xm_c0) lv st G E kc ks)) := rfl
theorem xz_0_317 : xm_run call xm_c0 nL mc ms ret Q (f + 1) (xm_drop 317 xm_c0) lv st G E kc ks = ((match st with
    | w :: st => bif xm_cat1 w then xm_run call xm_c0 nL mc ms ret Q f (xm_drop 318 xm_c0) lv st G E kc ks else false
    | _ => false)) := rfl
theorem xz_0_318 : xm_run call xm_c0 nL mc ms ret Q (f + 1) (xm_drop 318 xm_c0) lv st G E kc ks = ((match xm_get lv 2 with
    | some w => bif xm_isA w then xm_run call xm_c0 nL mc ms ret Q f (xm_drop 319 xm_c0) lv (w :: st) G E kc ks else false
    | none => false)) := rfl
theorem xz_0_319 : xm_run call xm_c0 nL mc ms ret Q (f + 1) (xm_drop 319 xm_c0) lv st G E kc ks = ((match xm_get lv 0 with
    | some w => bif xm_isA w then xm_run call xm_c0 nL mc ms ret Q f (xm_drop 320 xm_c0) lv (w :: st) G E kc ks else false
    | none => false)) := rfl
theorem xz_0_320 : xm_run call xm_c0 nL mc ms ret Q (f + 1) (xm_drop 320 xm_c0) lv st G E kc ks = ((match xm_get lv 3 with
    | some w => bif xm_isI w then xm_run call xm_c0 nL mc ms ret Q f (xm_drop 321 xm_c0) lv (w :: st) G E kc ks else false
    | none => false)) := rfl
theorem xz_0_321 : xm_run call xm_c0 nL mc ms ret Q (f + 1) (xm_drop 321 xm_c0) lv st G E kc ks = (xm_run call xm_c0 nL mc ms ret Q f (xm_drop 322 xm_c0) lv ((.int 1) :: st) G E kc ks) := rfl
theorem xz_0_322 : xm_run call xm_c0 nL mc ms ret Q (f + 1) (xm_drop 322 xm_c0) lv st G E kc ks = (xm_int2 .iadd st E (fun st E => xm_run call xm_c0 nL mc ms ret Q f (xm_drop 323 xm_c0) lv st G E kc ks)) := rfl
theorem xz_0_323 : xm_run call xm_c0 nL mc ms ret Q (f + 1) (xm_drop 323 xm_c0) lv st G E kc ks = (xm_iald st G E (fun st E => xm_run call xm_c0 nL mc ms ret Q f (xm_drop 324 xm_c0) lv st G E kc ks)) := rfl
theorem xz_0_324 : xm_run call xm_c0 nL mc ms ret Q (f + 1) (xm_drop 324 xm_c0) lv st G E kc ks = (bif Nat.beq 210 1006 || Nat.beq 210 1007 then xm_strl 210 st G (fun st => xm_run call xm_c0 nL mc ms ret Q f (xm_drop 325 xm_c0) lv st G E kc ks) else xm_call call mc ms 210 0 st G E kc ks (fun st G E kc ks => xm_run call xm_c0 nL mc ms ret Q f (xm_drop 325 xm_c0) lv st G E kc ks)) := rfl
theorem xz_0_325 : xm_run call xm_c0 nL mc ms ret Q (f + 1) (xm_drop 325 xm_c0) lv st G E kc ks = ((match st with
    | w :: st => bif xm_cat1 w then xm_run call xm_c0 nL mc ms ret Q f (xm_drop 326 xm_c0) lv st G E kc ks else false
    | _ => false)) := rfl
theorem xz_0_326 : xm_run call xm_c0 nL mc ms ret Q (f + 1) (xm_drop 326 xm_c0) lv st G E kc ks = (xm_run call xm_c0 nL mc ms ret Q f (xm_drop 682 xm_c0) lv st G E kc ks) := rfl
theorem xz_0_327 : xm_run call xm_c0 nL mc ms ret Q (f + 1) (xm_drop 327 xm_c0) lv st G E kc ks = ((match xm_get lv 1 with
    | some w => bif xm_isA w then xm_run call xm_c0 nL mc ms ret Q f (xm_drop 328 xm_c0) lv (w :: st) G E kc ks else false
    | none => false)) := rfl
theorem xz_0_328 : xm_run call xm_c0 nL mc ms ret Q (f + 1) (xm_drop 328 xm_c0) lv st G E kc ks = ((match xm_get lv 0 with
    | some w => bif xm_isA w then xm_run call xm_c0 nL mc ms ret Q f (xm_drop 329 xm_c0) lv (w :: st) G E kc ks else false
    | none => false)) := rfl
theorem xz_0_329 : xm_run call xm_c0 nL mc ms ret Q (f + 1) (xm_drop 329 xm_c0) lv st G E kc ks = ((match xm_get lv 3 with
    | some w => bif xm_isI w then xm_run call xm_c0 nL mc ms ret Q f (xm_drop 330 xm_c0) lv (w :: st) G E kc ks else false
    | none => false)) := rfl
theorem xz_0_330 : xm_run call xm_c0 nL mc ms ret Q (f + 1) (xm_drop 330 xm_c0) lv st G E kc ks = (xm_run call xm_c0 nL mc ms ret Q f (xm_drop 331 xm_c0) lv ((.int 1) :: st) G E kc ks) := rfl
theorem xz_0_331 : xm_run call xm_c0 nL mc ms ret Q (f + 1) (xm_drop 331 xm_c0) lv st G E kc ks = (xm_int2 .iadd st E (fun st E => xm_run call xm_c0 nL mc ms ret Q f (xm_drop 332 xm_c0) lv st G E kc ks)) := rfl
theorem xz_0_332 : xm_run call xm_c0 nL mc ms ret Q (f + 1) (xm_drop 332 xm_c0) lv st G E kc ks = (xm_iald st G E (fun st E => xm_run call xm_c0 nL mc ms ret Q f (xm_drop 333 xm_c0) lv st G E kc ks)) := rfl
theorem xz_0_333 : xm_run call xm_c0 nL mc ms ret Q (f + 1) (xm_drop 333 xm_c0) lv st G E kc ks = ((match xm_get lv 0 with
    | some w => bif xm_isA w then xm_run call xm_c0 nL mc ms ret Q f (xm_drop 334 xm_c0) lv (w :: st) G E kc ks else false
    | none => false)) := rfl
theorem xz_0_334 : xm_run call xm_c0 nL mc ms ret Q (f + 1) (xm_drop 334 xm_c0) lv st G E kc ks = ((match xm_get lv 3 with
    | some w => bif xm_isI w then xm_run call xm_c0 nL mc ms ret Q f (xm_drop 335 xm_c0) lv (w :: st) G E kc ks else false
    | none => false)) := rfl
theorem xz_0_335 : xm_run call xm_c0 nL mc ms ret Q (f + 1) (xm_drop 335 xm_c0) lv st G E kc ks = (xm_run call xm_c0 nL mc ms ret Q f (xm_drop 336 xm_c0) lv ((.int 2) :: st) G E kc ks) := rfl
theorem xz_0_336 : xm_run call xm_c0 nL mc ms ret Q (f + 1) (xm_drop 336 xm_c0) lv st G E kc ks = (xm_int2 .iadd st E (fun st E => xm_run call xm_c0 nL mc ms ret Q f (xm_drop 337 xm_c0) lv st G E kc ks)) := rfl
theorem xz_0_337 : xm_run call xm_c0 nL mc ms ret Q (f + 1) (xm_drop 337 xm_c0) lv st G E kc ks = (xm_iald st G E (fun st E => xm_run call xm_c0 nL mc ms ret Q f (xm_drop 338 xm_c0) lv st G E kc ks)) := rfl
theorem xz_0_338 : xm_run call xm_c0 nL mc ms ret Q (f + 1) (xm_drop 338 xm_c0) lv st G E kc ks = (bif Nat.beq 103 1006 || Nat.beq 103 1007 then xm_strl 103 st G (fun st => xm_run call xm_c0 nL mc ms ret Q f (xm_drop 339 xm_c0) lv st G E kc ks) else xm_call call mc ms 103 0 st G E kc ks (fun st G E kc ks => xm_run call xm_c0 nL mc ms ret Q f (xm_drop 339 xm_c0) lv st G E kc ks)) := rfl
theorem xz_0_339 : xm_run call xm_c0 nL mc ms ret Q (f + 1) (xm_drop 339 xm_c0) lv st G E kc ks = ((match st with
    | w :: st => bif xm_cat1 w then xm_run call xm_c0 nL mc ms ret Q f (xm_drop 340 xm_c0) lv st G E kc ks else false
    | _ => false)) := rfl
theorem xz_0_340 : xm_run call xm_c0 nL mc ms ret Q (f + 1) (xm_drop 340 xm_c0) lv st G E kc ks = ((match xm_get lv 2 with
    | some w => bif xm_isA w then xm_run call xm_c0 nL mc ms ret Q f (xm_drop 341 xm_c0) lv (w :: st) G E kc ks else false
    | none => false)) := rfl
theorem xz_0_341 : xm_run call xm_c0 nL mc ms ret Q (f + 1) (xm_drop 341 xm_c0) lv st G E kc ks = ((match xm_get lv 0 with
    | some w => bif xm_isA w then xm_run call xm_c0 nL mc ms ret Q f (xm_drop 342 xm_c0) lv (w :: st) G E kc ks else false
    | none => false)) := rfl
theorem xz_0_342 : xm_run call xm_c0 nL mc ms ret Q (f + 1) (xm_drop 342 xm_c0) lv st G E kc ks = ((match xm_get lv 3 with
    | some w => bif xm_isI w then xm_run call xm_c0 nL mc ms ret Q f (xm_drop 343 xm_c0) lv (w :: st) G E kc ks else false
    | none => false)) := rfl
theorem xz_0_343 : xm_run call xm_c0 nL mc ms ret Q (f + 1) (xm_drop 343 xm_c0) lv st G E kc ks = (xm_run call xm_c0 nL mc ms ret Q f (xm_drop 344 xm_c0) lv ((.int 1) :: st) G E kc ks) := rfl
theorem xz_0_344 : xm_run call xm_c0 nL mc ms ret Q (f + 1) (xm_drop 344 xm_c0) lv st G E kc ks = (xm_int2 .iadd st E (fun st E => xm_run call xm_c0 nL mc ms ret Q f (xm_drop 345 xm_c0) lv st G E kc ks)) := rfl
theorem xz_0_345 : xm_run call xm_c0 nL mc ms ret Q (f + 1) (xm_drop 345 xm_c0) lv st G E kc ks = (xm_iald st G E (fun st E => xm_run call xm_c0 nL mc ms ret Q f (xm_drop 346 xm_c0) lv st G E kc ks)) := rfl
theorem xz_0_346 : xm_run call xm_c0 nL mc ms ret Q (f + 1) (xm_drop 346 xm_c0) lv st G E kc ks = ((match xm_get lv 0 with
    | some w => bif xm_isA w then xm_run call xm_c0 nL mc ms ret Q f (xm_drop 347 xm_c0) lv (w :: st) G E kc ks else false
    | none => false)) := rfl
theorem xz_0_347 : xm_run call xm_c0 nL mc ms ret Q (f + 1) (xm_drop 347 xm_c0) lv st G E kc ks = ((match xm_get lv 3 with
    | some w => bif xm_isI w then xm_run call xm_c0 nL mc ms ret Q f (xm_drop 348 xm_c0) lv (w :: st) G E kc ks else false
    | none => false)) := rfl
theorem xz_0_348 : xm_run call xm_c0 nL mc ms ret Q (f + 1) (xm_drop 348 xm_c0) lv st G E kc ks = (xm_run call xm_c0 nL mc ms ret Q f (xm_drop 349 xm_c0) lv ((.int 2) :: st) G E kc ks) := rfl
theorem xz_0_349 : xm_run call xm_c0 nL mc ms ret Q (f + 1) (xm_drop 349 xm_c0) lv st G E kc ks = (xm_int2 .iadd st E (fun st E => xm_run call xm_c0 nL mc ms ret Q f (xm_drop 350 xm_c0) lv st G E kc ks)) := rfl
theorem xz_0_350 : xm_run call xm_c0 nL mc ms ret Q (f + 1) (xm_drop 350 xm_c0) lv st G E kc ks = (xm_iald st G E (fun st E => xm_run call xm_c0 nL mc ms ret Q f (xm_drop 351 xm_c0) lv st G E kc ks)) := rfl
theorem xz_0_351 : xm_run call xm_c0 nL mc ms ret Q (f + 1) (xm_drop 351 xm_c0) lv st G E kc ks = (bif Nat.beq 211 1006 || Nat.beq 211 1007 then xm_strl 211 st G (fun st => xm_run call xm_c0 nL mc ms ret Q f (xm_drop 352 xm_c0) lv st G E kc ks) else xm_call call mc ms 211 0 st G E kc ks (fun st G E kc ks => xm_run call xm_c0 nL mc ms ret Q f (xm_drop 352 xm_c0) lv st G E kc ks)) := rfl
theorem xz_0_352 : xm_run call xm_c0 nL mc ms ret Q (f + 1) (xm_drop 352 xm_c0) lv st G E kc ks = ((match st with
    | w :: st => bif xm_cat1 w then xm_run call xm_c0 nL mc ms ret Q f (xm_drop 353 xm_c0) lv st G E kc ks else false
    | _ => false)) := rfl
theorem xz_0_353 : xm_run call xm_c0 nL mc ms ret Q (f + 1) (xm_drop 353 xm_c0) lv st G E kc ks = (xm_run call xm_c0 nL mc ms ret Q f (xm_drop 682 xm_c0) lv st G E kc ks) := rfl
theorem xz_0_354 : xm_run call xm_c0 nL mc ms ret Q (f + 1) (xm_drop 354 xm_c0) lv st G E kc ks = ((match xm_get lv 1 with
    | some w => bif xm_isA w then xm_run call xm_c0 nL mc ms ret Q f (xm_drop 355 xm_c0) lv (w :: st) G E kc ks else false
    | none => false)) := rfl
theorem xz_0_355 : xm_run call xm_c0 nL mc ms ret Q (f + 1) (xm_drop 355 xm_c0) lv st G E kc ks = ((match xm_get lv 0 with
    | some w => bif xm_isA w then xm_run call xm_c0 nL mc ms ret Q f (xm_drop 356 xm_c0) lv (w :: st) G E kc ks else false
    | none => false)) := rfl
theorem xz_0_356 : xm_run call xm_c0 nL mc ms ret Q (f + 1) (xm_drop 356 xm_c0) lv st G E kc ks = ((match xm_get lv 3 with
    | some w => bif xm_isI w then xm_run call xm_c0 nL mc ms ret Q f (xm_drop 357 xm_c0) lv (w :: st) G E kc ks else false
    | none => false)) := rfl
theorem xz_0_357 : xm_run call xm_c0 nL mc ms ret Q (f + 1) (xm_drop 357 xm_c0) lv st G E kc ks = (xm_run call xm_c0 nL mc ms ret Q f (xm_drop 358 xm_c0) lv ((.int 1) :: st) G E kc ks) := rfl
theorem xz_0_358 : xm_run call xm_c0 nL mc ms ret Q (f + 1) (xm_drop 358 xm_c0) lv st G E kc ks = (xm_int2 .iadd st E (fun st E => xm_run call xm_c0 nL mc ms ret Q f (xm_drop 359 xm_c0) lv st G E kc ks)) := rfl
theorem xz_0_359 : xm_run call xm_c0 nL mc ms ret Q (f + 1) (xm_drop 359 xm_c0) lv st G E kc ks = (xm_iald st G E (fun st E => xm_run call xm_c0 nL mc ms ret Q f (xm_drop 360 xm_c0) lv st G E kc ks)) := rfl
theorem xz_0_360 : xm_run call xm_c0 nL mc ms ret Q (f + 1) (xm_drop 360 xm_c0) lv st G E kc ks = (bif Nat.beq 104 1006 || Nat.beq 104 1007 then xm_strl 104 st G (fun st => xm_run call xm_c0 nL mc ms ret Q f (xm_drop 361 xm_c0) lv st G E kc ks) else xm_call call mc ms 104 0 st G E kc ks (fun st G E kc ks => xm_run call xm_c0 nL mc ms ret Q f (xm_drop 361 xm_c0) lv st G E kc ks)) := rfl
theorem xz_0_361 : xm_run call xm_c0 nL mc ms ret Q (f + 1) (xm_drop 361 xm_c0) lv st G E kc ks = ((match st with
    | w :: st => bif xm_cat1 w then xm_run call xm_c0 nL mc ms ret Q f (xm_drop 362 xm_c0) lv st G E kc ks else false
    | _ => false)) := rfl
theorem xz_0_362 : xm_run call xm_c0 nL mc ms ret Q (f + 1) (xm_drop 362 xm_c0) lv st G E kc ks = ((match xm_get lv 2 with
    | some w => bif xm_isA w then xm_run call xm_c0 nL mc ms ret Q f (xm_drop 363 xm_c0) lv (w :: st) G E kc ks else false
    | none => false)) := rfl
theorem xz_0_363 : xm_run call xm_c0 nL mc ms ret Q (f + 1) (xm_drop 363 xm_c0) lv st G E kc ks = ((match xm_get lv 0 with
    | some w => bif xm_isA w then xm_run call xm_c0 nL mc ms ret Q f (xm_drop 364 xm_c0) lv (w :: st) G E kc ks else false
    | none => false)) := rfl
theorem xz_0_364 : xm_run call xm_c0 nL mc ms ret Q (f + 1) (xm_drop 364 xm_c0) lv st G E kc ks = ((match xm_get lv 3 with
    | some w => bif xm_isI w then xm_run call xm_c0 nL mc ms ret Q f (xm_drop 365 xm_c0) lv (w :: st) G E kc ks else false
    | none => false)) := rfl
theorem xz_0_365 : xm_run call xm_c0 nL mc ms ret Q (f + 1) (xm_drop 365 xm_c0) lv st G E kc ks = (xm_run call xm_c0 nL mc ms ret Q f (xm_drop 366 xm_c0) lv ((.int 1) :: st) G E kc ks) := rfl
theorem xz_0_366 : xm_run call xm_c0 nL mc ms ret Q (f + 1) (xm_drop 366 xm_c0) lv st G E kc ks = (xm_int2 .iadd st E (fun st E => xm_run call xm_c0 nL mc ms ret Q f (xm_drop 367 xm_c0) lv st G E kc ks)) := rfl
theorem xz_0_367 : xm_run call xm_c0 nL mc ms ret Q (f + 1) (xm_drop 367 xm_c0) lv st G E kc ks = (xm_iald st G E (fun st E => xm_run call xm_c0 nL mc ms ret Q f (xm_drop 368 xm_c0) lv st G E kc ks)) := rfl
theorem xz_0_368 : xm_run call xm_c0 nL mc ms ret Q (f + 1) (xm_drop 368 xm_c0) lv st G E kc ks = (bif Nat.beq 212 1006 || Nat.beq 212 1007 then xm_strl 212 st G (fun st => xm_run call xm_c0 nL mc ms ret Q f (xm_drop 369 xm_c0) lv st G E kc ks) else xm_call call mc ms 212 0 st G E kc ks (fun st G E kc ks => xm_run call xm_c0 nL mc ms ret Q f (xm_drop 369 xm_c0) lv st G E kc ks)) := rfl
theorem xz_0_369 : xm_run call xm_c0 nL mc ms ret Q (f + 1) (xm_drop 369 xm_c0) lv st G E kc ks = ((match st with
    | w :: st => bif xm_cat1 w then xm_run call xm_c0 nL mc ms ret Q f (xm_drop 370 xm_c0) lv st G E kc ks else false
    | _ => false)) := rfl
theorem xz_0_370 : xm_run call xm_c0 nL mc ms ret Q (f + 1) (xm_drop 370 xm_c0) lv st G E kc ks = (xm_run call xm_c0 nL mc ms ret Q f (xm_drop 682 xm_c0) lv st G E kc ks) := rfl
theorem xz_0_371 : xm_run call xm_c0 nL mc ms ret Q (f + 1) (xm_drop 371 xm_c0) lv st G E kc ks = ((match xm_get lv 1 with
    | some w => bif xm_isA w then xm_run call xm_c0 nL mc ms ret Q f (xm_drop 372 xm_c0) lv (w :: st) G E kc ks else false
    | none => false)) := rfl
theorem xz_0_372 : xm_run call xm_c0 nL mc ms ret Q (f + 1) (xm_drop 372 xm_c0) lv st G E kc ks = ((match xm_get lv 0 with
    | some w => bif xm_isA w then xm_run call xm_c0 nL mc ms ret Q f (xm_drop 373 xm_c0) lv (w :: st) G E kc ks else false
    | none => false)) := rfl
theorem xz_0_373 : xm_run call xm_c0 nL mc ms ret Q (f + 1) (xm_drop 373 xm_c0) lv st G E kc ks = ((match xm_get lv 3 with
    | some w => bif xm_isI w then xm_run call xm_c0 nL mc ms ret Q f (xm_drop 374 xm_c0) lv (w :: st) G E kc ks else false
    | none => false)) := rfl
theorem xz_0_374 : xm_run call xm_c0 nL mc ms ret Q (f + 1) (xm_drop 374 xm_c0) lv st G E kc ks = (xm_run call xm_c0 nL mc ms ret Q f (xm_drop 375 xm_c0) lv ((.int 1) :: st) G E kc ks) := rfl
theorem xz_0_375 : xm_run call xm_c0 nL mc ms ret Q (f + 1) (xm_drop 375 xm_c0) lv st G E kc ks = (xm_int2 .iadd st E (fun st E => xm_run call xm_c0 nL mc ms ret Q f (xm_drop 376 xm_c0) lv st G E kc ks)) := rfl
theorem xz_0_376 : xm_run call xm_c0 nL mc ms ret Q (f + 1) (xm_drop 376 xm_c0) lv st G E kc ks = (xm_iald st G E (fun st E => xm_run call xm_c0 nL mc ms ret Q f (xm_drop 377 xm_c0) lv st G E kc ks)) := rfl
theorem xz_0_377 : xm_run call xm_c0 nL mc ms ret Q (f + 1) (xm_drop 377 xm_c0) lv st G E kc ks = ((match xm_get lv 0 with
    | some w => bif xm_isA w then xm_run call xm_c0 nL mc ms ret Q f (xm_drop 378 xm_c0) lv (w :: st) G E kc ks else false
    | none => false)) := rfl
theorem xz_0_378 : xm_run call xm_c0 nL mc ms ret Q (f + 1) (xm_drop 378 xm_c0) lv st G E kc ks = ((match xm_get lv 3 with
    | some w => bif xm_isI w then xm_run call xm_c0 nL mc ms ret Q f (xm_drop 379 xm_c0) lv (w :: st) G E kc ks else false
    | none => false)) := rfl
theorem xz_0_379 : xm_run call xm_c0 nL mc ms ret Q (f + 1) (xm_drop 379 xm_c0) lv st G E kc ks = (xm_run call xm_c0 nL mc ms ret Q f (xm_drop 380 xm_c0) lv ((.int 2) :: st) G E kc ks) := rfl
theorem xz_0_380 : xm_run call xm_c0 nL mc ms ret Q (f + 1) (xm_drop 380 xm_c0) lv st G E kc ks = (xm_int2 .iadd st E (fun st E => xm_run call xm_c0 nL mc ms ret Q f (xm_drop 381 xm_c0) lv st G E kc ks)) := rfl
theorem xz_0_381 : xm_run call xm_c0 nL mc ms ret Q (f + 1) (xm_drop 381 xm_c0) lv st G E kc ks = (xm_iald st G E (fun st E => xm_run call xm_c0 nL mc ms ret Q f (xm_drop 382 xm_c0) lv st G E kc ks)) := rfl
theorem xz_0_382 : xm_run call xm_c0 nL mc ms ret Q (f + 1) (xm_drop 382 xm_c0) lv st G E kc ks = ((match xm_get lv 0 with
    | some w => bif xm_isA w then xm_run call xm_c0 nL mc ms ret Q f (xm_drop 383 xm_c0) lv (w :: st) G E kc ks else false
    | none => false)) := rfl
theorem xz_0_383 : xm_run call xm_c0 nL mc ms ret Q (f + 1) (xm_drop 383 xm_c0) lv st G E kc ks = ((match xm_get lv 3 with
    | some w => bif xm_isI w then xm_run call xm_c0 nL mc ms ret Q f (xm_drop 384 xm_c0) lv (w :: st) G E kc ks else false
    | none => false)) := rfl
theorem xz_0_384 : xm_run call xm_c0 nL mc ms ret Q (f + 1) (xm_drop 384 xm_c0) lv st G E kc ks = (xm_run call xm_c0 nL mc ms ret Q f (xm_drop 385 xm_c0) lv ((.int 3) :: st) G E kc ks) := rfl
theorem xz_0_385 : xm_run call xm_c0 nL mc ms ret Q (f + 1) (xm_drop 385 xm_c0) lv st G E kc ks = (xm_int2 .iadd st E (fun st E => xm_run call xm_c0 nL mc ms ret Q f (xm_drop 386 xm_c0) lv st G E kc ks)) := rfl
theorem xz_0_386 : xm_run call xm_c0 nL mc ms ret Q (f + 1) (xm_drop 386 xm_c0) lv st G E kc ks = (xm_iald st G E (fun st E => xm_run call xm_c0 nL mc ms ret Q f (xm_drop 387 xm_c0) lv st G E kc ks)) := rfl
theorem xz_0_387 : xm_run call xm_c0 nL mc ms ret Q (f + 1) (xm_drop 387 xm_c0) lv st G E kc ks = ((match xm_get lv 0 with
    | some w => bif xm_isA w then xm_run call xm_c0 nL mc ms ret Q f (xm_drop 388 xm_c0) lv (w :: st) G E kc ks else false
    | none => false)) := rfl
theorem xz_0_388 : xm_run call xm_c0 nL mc ms ret Q (f + 1) (xm_drop 388 xm_c0) lv st G E kc ks = ((match xm_get lv 3 with
    | some w => bif xm_isI w then xm_run call xm_c0 nL mc ms ret Q f (xm_drop 389 xm_c0) lv (w :: st) G E kc ks else false
    | none => false)) := rfl
theorem xz_0_389 : xm_run call xm_c0 nL mc ms ret Q (f + 1) (xm_drop 389 xm_c0) lv st G E kc ks = (xm_run call xm_c0 nL mc ms ret Q f (xm_drop 390 xm_c0) lv ((.int 4) :: st) G E kc ks) := rfl
theorem xz_0_390 : xm_run call xm_c0 nL mc ms ret Q (f + 1) (xm_drop 390 xm_c0) lv st G E kc ks = (xm_int2 .iadd st E (fun st E => xm_run call xm_c0 nL mc ms ret Q f (xm_drop 391 xm_c0) lv st G E kc ks)) := rfl
theorem xz_0_391 : xm_run call xm_c0 nL mc ms ret Q (f + 1) (xm_drop 391 xm_c0) lv st G E kc ks = (xm_iald st G E (fun st E => xm_run call xm_c0 nL mc ms ret Q f (xm_drop 392 xm_c0) lv st G E kc ks)) := rfl
theorem xz_0_392 : xm_run call xm_c0 nL mc ms ret Q (f + 1) (xm_drop 392 xm_c0) lv st G E kc ks = (bif Nat.beq 105 1006 || Nat.beq 105 1007 then xm_strl 105 st G (fun st => xm_run call xm_c0 nL mc ms ret Q f (xm_drop 393 xm_c0) lv st G E kc ks) else xm_call call mc ms 105 0 st G E kc ks (fun st G E kc ks => xm_run call xm_c0 nL mc ms ret Q f (xm_drop 393 xm_c0) lv st G E kc ks)) := rfl
theorem xz_0_393 : xm_run call xm_c0 nL mc ms ret Q (f + 1) (xm_drop 393 xm_c0) lv st G E kc ks = ((match st with
    | w :: st => bif xm_cat1 w then xm_run call xm_c0 nL mc ms ret Q f (xm_drop 394 xm_c0) lv st G E kc ks else false
    | _ => false)) := rfl
theorem xz_0_394 : xm_run call xm_c0 nL mc ms ret Q (f + 1) (xm_drop 394 xm_c0) lv st G E kc ks = ((match xm_get lv 2 with
    | some w => bif xm_isA w then xm_run call xm_c0 nL mc ms ret Q f (xm_drop 395 xm_c0) lv (w :: st) G E kc ks else false
    | none => false)) := rfl
theorem xz_0_395 : xm_run call xm_c0 nL mc ms ret Q (f + 1) (xm_drop 395 xm_c0) lv st G E kc ks = ((match xm_get lv 0 with
    | some w => bif xm_isA w then xm_run call xm_c0 nL mc ms ret Q f (xm_drop 396 xm_c0) lv (w :: st) G E kc ks else false
    | none => false)) := rfl
theorem xz_0_396 : xm_run call xm_c0 nL mc ms ret Q (f + 1) (xm_drop 396 xm_c0) lv st G E kc ks = ((match xm_get lv 3 with
    | some w => bif xm_isI w then xm_run call xm_c0 nL mc ms ret Q f (xm_drop 397 xm_c0) lv (w :: st) G E kc ks else false
    | none => false)) := rfl
theorem xz_0_397 : xm_run call xm_c0 nL mc ms ret Q (f + 1) (xm_drop 397 xm_c0) lv st G E kc ks = (xm_run call xm_c0 nL mc ms ret Q f (xm_drop 398 xm_c0) lv ((.int 1) :: st) G E kc ks) := rfl
theorem xz_0_398 : xm_run call xm_c0 nL mc ms ret Q (f + 1) (xm_drop 398 xm_c0) lv st G E kc ks = (xm_int2 .iadd st E (fun st E => xm_run call xm_c0 nL mc ms ret Q f (xm_drop 399 xm_c0) lv st G E kc ks)) := rfl
theorem xz_0_399 : xm_run call xm_c0 nL mc ms ret Q (f + 1) (xm_drop 399 xm_c0) lv st G E kc ks = (xm_iald st G E (fun st E => xm_run call xm_c0 nL mc ms ret Q f (xm_drop 400 xm_c0) lv st G E kc ks)) := rfl
theorem xz_0_400 : xm_run call xm_c0 nL mc ms ret Q (f + 1) (xm_drop 400 xm_c0) lv st G E kc ks = ((match xm_get lv 0 with
    | some w => bif xm_isA w then xm_run call xm_c0 nL mc ms ret Q f (xm_drop 401 xm_c0) lv (w :: st) G E kc ks else false
    | none => false)) := rfl
theorem xz_0_401 : xm_run call xm_c0 nL mc ms ret Q (f + 1) (xm_drop 401 xm_c0) lv st G E kc ks = ((match xm_get lv 3 with
    | some w => bif xm_isI w then xm_run call xm_c0 nL mc ms ret Q f (xm_drop 402 xm_c0) lv (w :: st) G E kc ks else false
    | none => false)) := rfl
theorem xz_0_402 : xm_run call xm_c0 nL mc ms ret Q (f + 1) (xm_drop 402 xm_c0) lv st G E kc ks = (xm_run call xm_c0 nL mc ms ret Q f (xm_drop 403 xm_c0) lv ((.int 2) :: st) G E kc ks) := rfl
theorem xz_0_403 : xm_run call xm_c0 nL mc ms ret Q (f + 1) (xm_drop 403 xm_c0) lv st G E kc ks = (xm_int2 .iadd st E (fun st E => xm_run call xm_c0 nL mc ms ret Q f (xm_drop 404 xm_c0) lv st G E kc ks)) := rfl
theorem xz_0_404 : xm_run call xm_c0 nL mc ms ret Q (f + 1) (xm_drop 404 xm_c0) lv st G E kc ks = (xm_iald st G E (fun st E => xm_run call xm_c0 nL mc ms ret Q f (xm_drop 405 xm_c0) lv st G E kc ks)) := rfl
theorem xz_0_405 : xm_run call xm_c0 nL mc ms ret Q (f + 1) (xm_drop 405 xm_c0) lv st G E kc ks = ((match xm_get lv 0 with
    | some w => bif xm_isA w then xm_run call xm_c0 nL mc ms ret Q f (xm_drop 406 xm_c0) lv (w :: st) G E kc ks else false
    | none => false)) := rfl
theorem xz_0_406 : xm_run call xm_c0 nL mc ms ret Q (f + 1) (xm_drop 406 xm_c0) lv st G E kc ks = ((match xm_get lv 3 with
    | some w => bif xm_isI w then xm_run call xm_c0 nL mc ms ret Q f (xm_drop 407 xm_c0) lv (w :: st) G E kc ks else false
    | none => false)) := rfl
theorem xz_0_407 : xm_run call xm_c0 nL mc ms ret Q (f + 1) (xm_drop 407 xm_c0) lv st G E kc ks = (xm_run call xm_c0 nL mc ms ret Q f (xm_drop 408 xm_c0) lv ((.int 3) :: st) G E kc ks) := rfl
theorem xz_0_408 : xm_run call xm_c0 nL mc ms ret Q (f + 1) (xm_drop 408 xm_c0) lv st G E kc ks = (xm_int2 .iadd st E (fun st E => xm_run call xm_c0 nL mc ms ret Q f (xm_drop 409 xm_c0) lv st G E kc ks)) := rfl
theorem xz_0_409 : xm_run call xm_c0 nL mc ms ret Q (f + 1) (xm_drop 409 xm_c0) lv st G E kc ks = (xm_iald st G E (fun st E => xm_run call xm_c0 nL mc ms ret Q f (xm_drop 410 xm_c0) lv st G E kc ks)) := rfl
theorem xz_0_410 : xm_run call xm_c0 nL mc ms ret Q (f + 1) (xm_drop 410 xm_c0) lv st G E kc ks = ((match xm_get lv 0 with
    | some w => bif xm_isA w then xm_run call xm_c0 nL mc ms ret Q f (xm_drop 411 xm_c0) lv (w :: st) G E kc ks else false
    | none => false)) := rfl
theorem xz_0_411 : xm_run call xm_c0 nL mc ms ret Q (f + 1) (xm_drop 411 xm_c0) lv st G E kc ks = ((match xm_get lv 3 with
    | some w => bif xm_isI w then xm_run call xm_c0 nL mc ms ret Q f (xm_drop 412 xm_c0) lv (w :: st) G E kc ks else false
    | none => false)) := rfl
theorem xz_0_412 : xm_run call xm_c0 nL mc ms ret Q (f + 1) (xm_drop 412 xm_c0) lv st G E kc ks = (xm_run call xm_c0 nL mc ms ret Q f (xm_drop 413 xm_c0) lv ((.int 4) :: st) G E kc ks) := rfl
theorem xz_0_413 : xm_run call xm_c0 nL mc ms ret Q (f + 1) (xm_drop 413 xm_c0) lv st G E kc ks = (xm_int2 .iadd st E (fun st E => xm_run call xm_c0 nL mc ms ret Q f (xm_drop 414 xm_c0) lv st G E kc ks)) := rfl
theorem xz_0_414 : xm_run call xm_c0 nL mc ms ret Q (f + 1) (xm_drop 414 xm_c0) lv st G E kc ks = (xm_iald st G E (fun st E => xm_run call xm_c0 nL mc ms ret Q f (xm_drop 415 xm_c0) lv st G E kc ks)) := rfl
theorem xz_0_415 : xm_run call xm_c0 nL mc ms ret Q (f + 1) (xm_drop 415 xm_c0) lv st G E kc ks = (bif Nat.beq 215 1006 || Nat.beq 215 1007 then xm_strl 215 st G (fun st => xm_run call xm_c0 nL mc ms ret Q f (xm_drop 416 xm_c0) lv st G E kc ks) else xm_call call mc ms 215 0 st G E kc ks (fun st G E kc ks => xm_run call xm_c0 nL mc ms ret Q f (xm_drop 416 xm_c0) lv st G E kc ks)) := rfl
theorem xz_0_416 : xm_run call xm_c0 nL mc ms ret Q (f + 1) (xm_drop 416 xm_c0) lv st G E kc ks = ((match st with
    | w :: st => bif xm_cat1 w then xm_run call xm_c0 nL mc ms ret Q f (xm_drop 417 xm_c0) lv st G E kc ks else false
    | _ => false)) := rfl
theorem xz_0_417 : xm_run call xm_c0 nL mc ms ret Q (f + 1) (xm_drop 417 xm_c0) lv st G E kc ks = (xm_run call xm_c0 nL mc ms ret Q f (xm_drop 682 xm_c0) lv st G E kc ks) := rfl
theorem xz_0_418 : xm_run call xm_c0 nL mc ms ret Q (f + 1) (xm_drop 418 xm_c0) lv st G E kc ks = ((match xm_get lv 1 with
    | some w => bif xm_isA w then xm_run call xm_c0 nL mc ms ret Q f (xm_drop 419 xm_c0) lv (w :: st) G E kc ks else false
    | none => false)) := rfl
theorem xz_0_419 : xm_run call xm_c0 nL mc ms ret Q (f + 1) (xm_drop 419 xm_c0) lv st G E kc ks = ((match xm_get lv 0 with
    | some w => bif xm_isA w then xm_run call xm_c0 nL mc ms ret Q f (xm_drop 420 xm_c0) lv (w :: st) G E kc ks else false
    | none => false)) := rfl
theorem xz_0_420 : xm_run call xm_c0 nL mc ms ret Q (f + 1) (xm_drop 420 xm_c0) lv st G E kc ks = ((match xm_get lv 3 with
    | some w => bif xm_isI w then xm_run call xm_c0 nL mc ms ret Q f (xm_drop 421 xm_c0) lv (w :: st) G E kc ks else false
    | none => false)) := rfl
theorem xz_0_421 : xm_run call xm_c0 nL mc ms ret Q (f + 1) (xm_drop 421 xm_c0) lv st G E kc ks = (xm_run call xm_c0 nL mc ms ret Q f (xm_drop 422 xm_c0) lv ((.int 1) :: st) G E kc ks) := rfl
theorem xz_0_422 : xm_run call xm_c0 nL mc ms ret Q (f + 1) (xm_drop 422 xm_c0) lv st G E kc ks = (xm_int2 .iadd st E (fun st E => xm_run call xm_c0 nL mc ms ret Q f (xm_drop 423 xm_c0) lv st G E kc ks)) := rfl
theorem xz_0_423 : xm_run call xm_c0 nL mc ms ret Q (f + 1) (xm_drop 423 xm_c0) lv st G E kc ks = (xm_iald st G E (fun st E => xm_run call xm_c0 nL mc ms ret Q f (xm_drop 424 xm_c0) lv st G E kc ks)) := rfl
theorem xz_0_424 : xm_run call xm_c0 nL mc ms ret Q (f + 1) (xm_drop 424 xm_c0) lv st G E kc ks = ((match xm_get lv 0 with
    | some w => bif xm_isA w then xm_run call xm_c0 nL mc ms ret Q f (xm_drop 425 xm_c0) lv (w :: st) G E kc ks else false
    | none => false)) := rfl
theorem xz_0_425 : xm_run call xm_c0 nL mc ms ret Q (f + 1) (xm_drop 425 xm_c0) lv st G E kc ks = ((match xm_get lv 3 with
    | some w => bif xm_isI w then xm_run call xm_c0 nL mc ms ret Q f (xm_drop 426 xm_c0) lv (w :: st) G E kc ks else false
    | none => false)) := rfl
theorem xz_0_426 : xm_run call xm_c0 nL mc ms ret Q (f + 1) (xm_drop 426 xm_c0) lv st G E kc ks = (xm_run call xm_c0 nL mc ms ret Q f (xm_drop 427 xm_c0) lv ((.int 2) :: st) G E kc ks) := rfl
theorem xz_0_427 : xm_run call xm_c0 nL mc ms ret Q (f + 1) (xm_drop 427 xm_c0) lv st G E kc ks = (xm_int2 .iadd st E (fun st E => xm_run call xm_c0 nL mc ms ret Q f (xm_drop 428 xm_c0) lv st G E kc ks)) := rfl
theorem xz_0_428 : xm_run call xm_c0 nL mc ms ret Q (f + 1) (xm_drop 428 xm_c0) lv st G E kc ks = (xm_iald st G E (fun st E => xm_run call xm_c0 nL mc ms ret Q f (xm_drop 429 xm_c0) lv st G E kc ks)) := rfl
theorem xz_0_429 : xm_run call xm_c0 nL mc ms ret Q (f + 1) (xm_drop 429 xm_c0) lv st G E kc ks = (bif Nat.beq 106 1006 || Nat.beq 106 1007 then xm_strl 106 st G (fun st => xm_run call xm_c0 nL mc ms ret Q f (xm_drop 430 xm_c0) lv st G E kc ks) else xm_call call mc ms 106 0 st G E kc ks (fun st G E kc ks => xm_run call xm_c0 nL mc ms ret Q f (xm_drop 430 xm_c0) lv st G E kc ks)) := rfl
theorem xz_0_430 : xm_run call xm_c0 nL mc ms ret Q (f + 1) (xm_drop 430 xm_c0) lv st G E kc ks = ((match st with
    | w :: st => bif xm_cat1 w then xm_run call xm_c0 nL mc ms ret Q f (xm_drop 431 xm_c0) lv st G E kc ks else false
    | _ => false)) := rfl
theorem xz_0_431 : xm_run call xm_c0 nL mc ms ret Q (f + 1) (xm_drop 431 xm_c0) lv st G E kc ks = ((match xm_get lv 2 with
    | some w => bif xm_isA w then xm_run call xm_c0 nL mc ms ret Q f (xm_drop 432 xm_c0) lv (w :: st) G E kc ks else false
    | none => false)) := rfl
theorem xz_0_432 : xm_run call xm_c0 nL mc ms ret Q (f + 1) (xm_drop 432 xm_c0) lv st G E kc ks = ((match xm_get lv 0 with
    | some w => bif xm_isA w then xm_run call xm_c0 nL mc ms ret Q f (xm_drop 433 xm_c0) lv (w :: st) G E kc ks else false
    | none => false)) := rfl
theorem xz_0_433 : xm_run call xm_c0 nL mc ms ret Q (f + 1) (xm_drop 433 xm_c0) lv st G E kc ks = ((match xm_get lv 3 with
    | some w => bif xm_isI w then xm_run call xm_c0 nL mc ms ret Q f (xm_drop 434 xm_c0) lv (w :: st) G E kc ks else false
    | none => false)) := rfl
theorem xz_0_434 : xm_run call xm_c0 nL mc ms ret Q (f + 1) (xm_drop 434 xm_c0) lv st G E kc ks = (xm_run call xm_c0 nL mc ms ret Q f (xm_drop 435 xm_c0) lv ((.int 1) :: st) G E kc ks) := rfl
theorem xz_0_435 : xm_run call xm_c0 nL mc ms ret Q (f + 1) (xm_drop 435 xm_c0) lv st G E kc ks = (xm_int2 .iadd st E (fun st E => xm_run call xm_c0 nL mc ms ret Q f (xm_drop 436 xm_c0) lv st G E kc ks)) := rfl
theorem xz_0_436 : xm_run call xm_c0 nL mc ms ret Q (f + 1) (xm_drop 436 xm_c0) lv st G E kc ks = (xm_iald st G E (fun st E => xm_run call xm_c0 nL mc ms ret Q f (xm_drop 437 xm_c0) lv st G E kc ks)) := rfl
theorem xz_0_437 : xm_run call xm_c0 nL mc ms ret Q (f + 1) (xm_drop 437 xm_c0) lv st G E kc ks = ((match xm_get lv 0 with
    | some w => bif xm_isA w then xm_run call xm_c0 nL mc ms ret Q f (xm_drop 438 xm_c0) lv (w :: st) G E kc ks else false
    | none => false)) := rfl
theorem xz_0_438 : xm_run call xm_c0 nL mc ms ret Q (f + 1) (xm_drop 438 xm_c0) lv st G E kc ks = ((match xm_get lv 3 with
    | some w => bif xm_isI w then xm_run call xm_c0 nL mc ms ret Q f (xm_drop 439 xm_c0) lv (w :: st) G E kc ks else false
    | none => false)) := rfl
theorem xz_0_439 : xm_run call xm_c0 nL mc ms ret Q (f + 1) (xm_drop 439 xm_c0) lv st G E kc ks = (xm_run call xm_c0 nL mc ms ret Q f (xm_drop 440 xm_c0) lv ((.int 2) :: st) G E kc ks) := rfl
theorem xz_0_440 : xm_run call xm_c0 nL mc ms ret Q (f + 1) (xm_drop 440 xm_c0) lv st G E kc ks = (xm_int2 .iadd st E (fun st E => xm_run call xm_c0 nL mc ms ret Q f (xm_drop 441 xm_c0) lv st G E kc ks)) := rfl
theorem xz_0_441 : xm_run call xm_c0 nL mc ms ret Q (f + 1) (xm_drop 441 xm_c0) lv st G E kc ks = (xm_iald st G E (fun st E => xm_run call xm_c0 nL mc ms ret Q f (xm_drop 442 xm_c0) lv st G E kc ks)) := rfl
theorem xz_0_442 : xm_run call xm_c0 nL mc ms ret Q (f + 1) (xm_drop 442 xm_c0) lv st G E kc ks = (bif Nat.beq 216 1006 || Nat.beq 216 1007 then xm_strl 216 st G (fun st => xm_run call xm_c0 nL mc ms ret Q f (xm_drop 443 xm_c0) lv st G E kc ks) else xm_call call mc ms 216 0 st G E kc ks (fun st G E kc ks => xm_run call xm_c0 nL mc ms ret Q f (xm_drop 443 xm_c0) lv st G E kc ks)) := rfl
theorem xz_0_443 : xm_run call xm_c0 nL mc ms ret Q (f + 1) (xm_drop 443 xm_c0) lv st G E kc ks = ((match st with
    | w :: st => bif xm_cat1 w then xm_run call xm_c0 nL mc ms ret Q f (xm_drop 444 xm_c0) lv st G E kc ks else false
    | _ => false)) := rfl
theorem xz_0_444 : xm_run call xm_c0 nL mc ms ret Q (f + 1) (xm_drop 444 xm_c0) lv st G E kc ks = (xm_run call xm_c0 nL mc ms ret Q f (xm_drop 682 xm_c0) lv st G E kc ks) := rfl
theorem xz_0_445 : xm_run call xm_c0 nL mc ms ret Q (f + 1) (xm_drop 445 xm_c0) lv st G E kc ks = ((match xm_get lv 1 with
    | some w => bif xm_isA w then xm_run call xm_c0 nL mc ms ret Q f (xm_drop 446 xm_c0) lv (w :: st) G E kc ks else false
    | none => false)) := rfl
theorem xz_0_446 : xm_run call xm_c0 nL mc ms ret Q (f + 1) (xm_drop 446 xm_c0) lv st G E kc ks = ((match xm_get lv 0 with
    | some w => bif xm_isA w then xm_run call xm_c0 nL mc ms ret Q f (xm_drop 447 xm_c0) lv (w :: st) G E kc ks else false
    | none => false)) := rfl
theorem xz_0_447 : xm_run call xm_c0 nL mc ms ret Q (f + 1) (xm_drop 447 xm_c0) lv st G E kc ks = ((match xm_get lv 3 with
    | some w => bif xm_isI w then xm_run call xm_c0 nL mc ms ret Q f (xm_drop 448 xm_c0) lv (w :: st) G E kc ks else false
    | none => false)) := rfl
theorem xz_0_448 : xm_run call xm_c0 nL mc ms ret Q (f + 1) (xm_drop 448 xm_c0) lv st G E kc ks = (xm_run call xm_c0 nL mc ms ret Q f (xm_drop 449 xm_c0) lv ((.int 1) :: st) G E kc ks) := rfl
theorem xz_0_449 : xm_run call xm_c0 nL mc ms ret Q (f + 1) (xm_drop 449 xm_c0) lv st G E kc ks = (xm_int2 .iadd st E (fun st E => xm_run call xm_c0 nL mc ms ret Q f (xm_drop 450 xm_c0) lv st G E kc ks)) := rfl
theorem xz_0_450 : xm_run call xm_c0 nL mc ms ret Q (f + 1) (xm_drop 450 xm_c0) lv st G E kc ks = (xm_iald st G E (fun st E => xm_run call xm_c0 nL mc ms ret Q f (xm_drop 451 xm_c0) lv st G E kc ks)) := rfl
theorem xz_0_451 : xm_run call xm_c0 nL mc ms ret Q (f + 1) (xm_drop 451 xm_c0) lv st G E kc ks = (bif Nat.beq 107 1006 || Nat.beq 107 1007 then xm_strl 107 st G (fun st => xm_run call xm_c0 nL mc ms ret Q f (xm_drop 452 xm_c0) lv st G E kc ks) else xm_call call mc ms 107 0 st G E kc ks (fun st G E kc ks => xm_run call xm_c0 nL mc ms ret Q f (xm_drop 452 xm_c0) lv st G E kc ks)) := rfl
theorem xz_0_452 : xm_run call xm_c0 nL mc ms ret Q (f + 1) (xm_drop 452 xm_c0) lv st G E kc ks = ((match st with
    | w :: st => bif xm_cat1 w then xm_run call xm_c0 nL mc ms ret Q f (xm_drop 453 xm_c0) lv st G E kc ks else false
    | _ => false)) := rfl
theorem xz_0_453 : xm_run call xm_c0 nL mc ms ret Q (f + 1) (xm_drop 453 xm_c0) lv st G E kc ks = ((match xm_get lv 2 with
    | some w => bif xm_isA w then xm_run call xm_c0 nL mc ms ret Q f (xm_drop 454 xm_c0) lv (w :: st) G E kc ks else false
    | none => false)) := rfl
theorem xz_0_454 : xm_run call xm_c0 nL mc ms ret Q (f + 1) (xm_drop 454 xm_c0) lv st G E kc ks = ((match xm_get lv 0 with
    | some w => bif xm_isA w then xm_run call xm_c0 nL mc ms ret Q f (xm_drop 455 xm_c0) lv (w :: st) G E kc ks else false
    | none => false)) := rfl
theorem xz_0_455 : xm_run call xm_c0 nL mc ms ret Q (f + 1) (xm_drop 455 xm_c0) lv st G E kc ks = ((match xm_get lv 3 with
    | some w => bif xm_isI w then xm_run call xm_c0 nL mc ms ret Q f (xm_drop 456 xm_c0) lv (w :: st) G E kc ks else false
    | none => false)) := rfl
theorem xz_0_456 : xm_run call xm_c0 nL mc ms ret Q (f + 1) (xm_drop 456 xm_c0) lv st G E kc ks = (xm_run call xm_c0 nL mc ms ret Q f (xm_drop 457 xm_c0) lv ((.int 1) :: st) G E kc ks) := rfl
theorem xz_0_457 : xm_run call xm_c0 nL mc ms ret Q (f + 1) (xm_drop 457 xm_c0) lv st G E kc ks = (xm_int2 .iadd st E (fun st E => xm_run call xm_c0 nL mc ms ret Q f (xm_drop 458 xm_c0) lv st G E kc ks)) := rfl
theorem xz_0_458 : xm_run call xm_c0 nL mc ms ret Q (f + 1) (xm_drop 458 xm_c0) lv st G E kc ks = (xm_iald st G E (fun st E => xm_run call xm_c0 nL mc ms ret Q f (xm_drop 459 xm_c0) lv st G E kc ks)) := rfl
theorem xz_0_459 : xm_run call xm_c0 nL mc ms ret Q (f + 1) (xm_drop 459 xm_c0) lv st G E kc ks = (bif Nat.beq 222 1006 || Nat.beq 222 1007 then xm_strl 222 st G (fun st => xm_run call xm_c0 nL mc ms ret Q f (xm_drop 460 xm_c0) lv st G E kc ks) else xm_call call mc ms 222 0 st G E kc ks (fun st G E kc ks => xm_run call xm_c0 nL mc ms ret Q f (xm_drop 460 xm_c0) lv st G E kc ks)) := rfl
theorem xz_0_460 : xm_run call xm_c0 nL mc ms ret Q (f + 1) (xm_drop 460 xm_c0) lv st G E kc ks = ((match st with
    | w :: st => bif xm_cat1 w then xm_run call xm_c0 nL mc ms ret Q f (xm_drop 461 xm_c0) lv st G E kc ks else false
    | _ => false)) := rfl
theorem xz_0_461 : xm_run call xm_c0 nL mc ms ret Q (f + 1) (xm_drop 461 xm_c0) lv st G E kc ks = (xm_run call xm_c0 nL mc ms ret Q f (xm_drop 682 xm_c0) lv st G E kc ks) := rfl
theorem xz_0_462 : xm_run call xm_c0 nL mc ms ret Q (f + 1) (xm_drop 462 xm_c0) lv st G E kc ks = ((match xm_get lv 1 with
    | some w => bif xm_isA w then xm_run call xm_c0 nL mc ms ret Q f (xm_drop 463 xm_c0) lv (w :: st) G E kc ks else false
    | none => false)) := rfl
theorem xz_0_463 : xm_run call xm_c0 nL mc ms ret Q (f + 1) (xm_drop 463 xm_c0) lv st G E kc ks = ((match xm_get lv 0 with
    | some w => bif xm_isA w then xm_run call xm_c0 nL mc ms ret Q f (xm_drop 464 xm_c0) lv (w :: st) G E kc ks else false
    | none => false)) := rfl
theorem xz_0_464 : xm_run call xm_c0 nL mc ms ret Q (f + 1) (xm_drop 464 xm_c0) lv st G E kc ks = ((match xm_get lv 3 with
    | some w => bif xm_isI w then xm_run call xm_c0 nL mc ms ret Q f (xm_drop 465 xm_c0) lv (w :: st) G E kc ks else false
    | none => false)) := rfl
theorem xz_0_465 : xm_run call xm_c0 nL mc ms ret Q (f + 1) (xm_drop 465 xm_c0) lv st G E kc ks = (xm_run call xm_c0 nL mc ms ret Q f (xm_drop 466 xm_c0) lv ((.int 1) :: st) G E kc ks) := rfl
theorem xz_0_466 : xm_run call xm_c0 nL mc ms ret Q (f + 1) (xm_drop 466 xm_c0) lv st G E kc ks = (xm_int2 .iadd st E (fun st E => xm_run call xm_c0 nL mc ms ret Q f (xm_drop 467 xm_c0) lv st G E kc ks)) := rfl
theorem xz_0_467 : xm_run call xm_c0 nL mc ms ret Q (f + 1) (xm_drop 467 xm_c0) lv st G E kc ks = (xm_iald st G E (fun st E => xm_run call xm_c0 nL mc ms ret Q f (xm_drop 468 xm_c0) lv st G E kc ks)) := rfl
theorem xz_0_468 : xm_run call xm_c0 nL mc ms ret Q (f + 1) (xm_drop 468 xm_c0) lv st G E kc ks = (bif Nat.beq 108 1006 || Nat.beq 108 1007 then xm_strl 108 st G (fun st => xm_run call xm_c0 nL mc ms ret Q f (xm_drop 469 xm_c0) lv st G E kc ks) else xm_call call mc ms 108 0 st G E kc ks (fun st G E kc ks => xm_run call xm_c0 nL mc ms ret Q f (xm_drop 469 xm_c0) lv st G E kc ks)) := rfl
theorem xz_0_469 : xm_run call xm_c0 nL mc ms ret Q (f + 1) (xm_drop 469 xm_c0) lv st G E kc ks = ((match st with
    | w :: st => bif xm_cat1 w then xm_run call xm_c0 nL mc ms ret Q f (xm_drop 470 xm_c0) lv st G E kc ks else false
    | _ => false)) := rfl
theorem xz_0_470 : xm_run call xm_c0 nL mc ms ret Q (f + 1) (xm_drop 470 xm_c0) lv st G E kc ks = ((match xm_get lv 2 with
    | some w => bif xm_isA w then xm_run call xm_c0 nL mc ms ret Q f (xm_drop 471 xm_c0) lv (w :: st) G E kc ks else false
    | none => false)) := rfl
theorem xz_0_471 : xm_run call xm_c0 nL mc ms ret Q (f + 1) (xm_drop 471 xm_c0) lv st G E kc ks = ((match xm_get lv 0 with
    | some w => bif xm_isA w then xm_run call xm_c0 nL mc ms ret Q f (xm_drop 472 xm_c0) lv (w :: st) G E kc ks else false
    | none => false)) := rfl
theorem xz_0_472 : xm_run call xm_c0 nL mc ms ret Q (f + 1) (xm_drop 472 xm_c0) lv st G E kc ks = ((match xm_get lv 3 with
    | some w => bif xm_isI w then xm_run call xm_c0 nL mc ms ret Q f (xm_drop 473 xm_c0) lv (w :: st) G E kc ks else false
    | none => false)) := rfl
theorem xz_0_473 : xm_run call xm_c0 nL mc ms ret Q (f + 1) (xm_drop 473 xm_c0) lv st G E kc ks = (xm_run call xm_c0 nL mc ms ret Q f (xm_drop 474 xm_c0) lv ((.int 1) :: st) G E kc ks) := rfl
theorem xz_0_474 : xm_run call xm_c0 nL mc ms ret Q (f + 1) (xm_drop 474 xm_c0) lv st G E kc ks = (xm_int2 .iadd st E (fun st E => xm_run call xm_c0 nL mc ms ret Q f (xm_drop 475 xm_c0) lv st G E kc ks)) := rfl
theorem xz_0_475 : xm_run call xm_c0 nL mc ms ret Q (f + 1) (xm_drop 475 xm_c0) lv st G E kc ks = (xm_iald st G E (fun st E => xm_run call xm_c0 nL mc ms ret Q f (xm_drop 476 xm_c0) lv st G E kc ks)) := rfl
theorem xz_0_476 : xm_run call xm_c0 nL mc ms ret Q (f + 1) (xm_drop 476 xm_c0) lv st G E kc ks = (bif Nat.beq 224 1006 || Nat.beq 224 1007 then xm_strl 224 st G (fun st => xm_run call xm_c0 nL mc ms ret Q f (xm_drop 477 xm_c0) lv st G E kc ks) else xm_call call mc ms 224 0 st G E kc ks (fun st G E kc ks => xm_run call xm_c0 nL mc ms ret Q f (xm_drop 477 xm_c0) lv st G E kc ks)) := rfl
theorem xz_0_477 : xm_run call xm_c0 nL mc ms ret Q (f + 1) (xm_drop 477 xm_c0) lv st G E kc ks = ((match st with
    | w :: st => bif xm_cat1 w then xm_run call xm_c0 nL mc ms ret Q f (xm_drop 478 xm_c0) lv st G E kc ks else false
    | _ => false)) := rfl
theorem xz_0_478 : xm_run call xm_c0 nL mc ms ret Q (f + 1) (xm_drop 478 xm_c0) lv st G E kc ks = (xm_run call xm_c0 nL mc ms ret Q f (xm_drop 682 xm_c0) lv st G E kc ks) := rfl
theorem xz_0_479 : xm_run call xm_c0 nL mc ms ret Q (f + 1) (xm_drop 479 xm_c0) lv st G E kc ks = ((match xm_get lv 1 with
    | some w => bif xm_isA w then xm_run call xm_c0 nL mc ms ret Q f (xm_drop 480 xm_c0) lv (w :: st) G E kc ks else false
    | none => false)) := rfl
theorem xz_0_480 : xm_run call xm_c0 nL mc ms ret Q (f + 1) (xm_drop 480 xm_c0) lv st G E kc ks = ((match xm_get lv 0 with
    | some w => bif xm_isA w then xm_run call xm_c0 nL mc ms ret Q f (xm_drop 481 xm_c0) lv (w :: st) G E kc ks else false
    | none => false)) := rfl
theorem xz_0_481 : xm_run call xm_c0 nL mc ms ret Q (f + 1) (xm_drop 481 xm_c0) lv st G E kc ks = ((match xm_get lv 3 with
    | some w => bif xm_isI w then xm_run call xm_c0 nL mc ms ret Q f (xm_drop 482 xm_c0) lv (w :: st) G E kc ks else false
    | none => false)) := rfl
theorem xz_0_482 : xm_run call xm_c0 nL mc ms ret Q (f + 1) (xm_drop 482 xm_c0) lv st G E kc ks = (xm_run call xm_c0 nL mc ms ret Q f (xm_drop 483 xm_c0) lv ((.int 1) :: st) G E kc ks) := rfl
theorem xz_0_483 : xm_run call xm_c0 nL mc ms ret Q (f + 1) (xm_drop 483 xm_c0) lv st G E kc ks = (xm_int2 .iadd st E (fun st E => xm_run call xm_c0 nL mc ms ret Q f (xm_drop 484 xm_c0) lv st G E kc ks)) := rfl
theorem xz_0_484 : xm_run call xm_c0 nL mc ms ret Q (f + 1) (xm_drop 484 xm_c0) lv st G E kc ks = (xm_iald st G E (fun st E => xm_run call xm_c0 nL mc ms ret Q f (xm_drop 485 xm_c0) lv st G E kc ks)) := rfl
theorem xz_0_485 : xm_run call xm_c0 nL mc ms ret Q (f + 1) (xm_drop 485 xm_c0) lv st G E kc ks = ((match xm_get lv 0 with
    | some w => bif xm_isA w then xm_run call xm_c0 nL mc ms ret Q f (xm_drop 486 xm_c0) lv (w :: st) G E kc ks else false
    | none => false)) := rfl
theorem xz_0_486 : xm_run call xm_c0 nL mc ms ret Q (f + 1) (xm_drop 486 xm_c0) lv st G E kc ks = ((match xm_get lv 3 with
    | some w => bif xm_isI w then xm_run call xm_c0 nL mc ms ret Q f (xm_drop 487 xm_c0) lv (w :: st) G E kc ks else false
    | none => false)) := rfl
theorem xz_0_487 : xm_run call xm_c0 nL mc ms ret Q (f + 1) (xm_drop 487 xm_c0) lv st G E kc ks = (xm_run call xm_c0 nL mc ms ret Q f (xm_drop 488 xm_c0) lv ((.int 2) :: st) G E kc ks) := rfl
theorem xz_0_488 : xm_run call xm_c0 nL mc ms ret Q (f + 1) (xm_drop 488 xm_c0) lv st G E kc ks = (xm_int2 .iadd st E (fun st E => xm_run call xm_c0 nL mc ms ret Q f (xm_drop 489 xm_c0) lv st G E kc ks)) := rfl
theorem xz_0_489 : xm_run call xm_c0 nL mc ms ret Q (f + 1) (xm_drop 489 xm_c0) lv st G E kc ks = (xm_iald st G E (fun st E => xm_run call xm_c0 nL mc ms ret Q f (xm_drop 490 xm_c0) lv st G E kc ks)) := rfl
theorem xz_0_490 : xm_run call xm_c0 nL mc ms ret Q (f + 1) (xm_drop 490 xm_c0) lv st G E kc ks = (bif Nat.beq 109 1006 || Nat.beq 109 1007 then xm_strl 109 st G (fun st => xm_run call xm_c0 nL mc ms ret Q f (xm_drop 491 xm_c0) lv st G E kc ks) else xm_call call mc ms 109 0 st G E kc ks (fun st G E kc ks => xm_run call xm_c0 nL mc ms ret Q f (xm_drop 491 xm_c0) lv st G E kc ks)) := rfl
theorem xz_0_491 : xm_run call xm_c0 nL mc ms ret Q (f + 1) (xm_drop 491 xm_c0) lv st G E kc ks = ((match st with
    | w :: st => bif xm_cat1 w then xm_run call xm_c0 nL mc ms ret Q f (xm_drop 492 xm_c0) lv st G E kc ks else false
    | _ => false)) := rfl
theorem xz_0_492 : xm_run call xm_c0 nL mc ms ret Q (f + 1) (xm_drop 492 xm_c0) lv st G E kc ks = ((match xm_get lv 2 with
    | some w => bif xm_isA w then xm_run call xm_c0 nL mc ms ret Q f (xm_drop 493 xm_c0) lv (w :: st) G E kc ks else false
    | none => false)) := rfl
theorem xz_0_493 : xm_run call xm_c0 nL mc ms ret Q (f + 1) (xm_drop 493 xm_c0) lv st G E kc ks = ((match xm_get lv 0 with
    | some w => bif xm_isA w then xm_run call xm_c0 nL mc ms ret Q f (xm_drop 494 xm_c0) lv (w :: st) G E kc ks else false
    | none => false)) := rfl
theorem xz_0_494 : xm_run call xm_c0 nL mc ms ret Q (f + 1) (xm_drop 494 xm_c0) lv st G E kc ks = ((match xm_get lv 3 with
    | some w => bif xm_isI w then xm_run call xm_c0 nL mc ms ret Q f (xm_drop 495 xm_c0) lv (w :: st) G E kc ks else false
    | none => false)) := rfl
theorem xz_0_495 : xm_run call xm_c0 nL mc ms ret Q (f + 1) (xm_drop 495 xm_c0) lv st G E kc ks = (xm_run call xm_c0 nL mc ms ret Q f (xm_drop 496 xm_c0) lv ((.int 1) :: st) G E kc ks) := rfl
theorem xz_0_496 : xm_run call xm_c0 nL mc ms ret Q (f + 1) (xm_drop 496 xm_c0) lv st G E kc ks = (xm_int2 .iadd st E (fun st E => xm_run call xm_c0 nL mc ms ret Q f (xm_drop 497 xm_c0) lv st G E kc ks)) := rfl
theorem xz_0_497 : xm_run call xm_c0 nL mc ms ret Q (f + 1) (xm_drop 497 xm_c0) lv st G E kc ks = (xm_iald st G E (fun st E => xm_run call xm_c0 nL mc ms ret Q f (xm_drop 498 xm_c0) lv st G E kc ks)) := rfl
theorem xz_0_498 : xm_run call xm_c0 nL mc ms ret Q (f + 1) (xm_drop 498 xm_c0) lv st G E kc ks = ((match xm_get lv 0 with
    | some w => bif xm_isA w then xm_run call xm_c0 nL mc ms ret Q f (xm_drop 499 xm_c0) lv (w :: st) G E kc ks else false
    | none => false)) := rfl
theorem xz_0_499 : xm_run call xm_c0 nL mc ms ret Q (f + 1) (xm_drop 499 xm_c0) lv st G E kc ks = ((match xm_get lv 3 with
    | some w => bif xm_isI w then xm_run call xm_c0 nL mc ms ret Q f (xm_drop 500 xm_c0) lv (w :: st) G E kc ks else false
    | none => false)) := rfl
theorem xz_0_500 : xm_run call xm_c0 nL mc ms ret Q (f + 1) (xm_drop 500 xm_c0) lv st G E kc ks = (xm_run call xm_c0 nL mc ms ret Q f (xm_drop 501 xm_c0) lv ((.int 2) :: st) G E kc ks) := rfl
theorem xz_0_501 : xm_run call xm_c0 nL mc ms ret Q (f + 1) (xm_drop 501 xm_c0) lv st G E kc ks = (xm_int2 .iadd st E (fun st E => xm_run call xm_c0 nL mc ms ret Q f (xm_drop 502 xm_c0) lv st G E kc ks)) := rfl
theorem xz_0_502 : xm_run call xm_c0 nL mc ms ret Q (f + 1) (xm_drop 502 xm_c0) lv st G E kc ks = (xm_iald st G E (fun st E => xm_run call xm_c0 nL mc ms ret Q f (xm_drop 503 xm_c0) lv st G E kc ks)) := rfl
theorem xz_0_503 : xm_run call xm_c0 nL mc ms ret Q (f + 1) (xm_drop 503 xm_c0) lv st G E kc ks = (bif Nat.beq 225 1006 || Nat.beq 225 1007 then xm_strl 225 st G (fun st => xm_run call xm_c0 nL mc ms ret Q f (xm_drop 504 xm_c0) lv st G E kc ks) else xm_call call mc ms 225 0 st G E kc ks (fun st G E kc ks => xm_run call xm_c0 nL mc ms ret Q f (xm_drop 504 xm_c0) lv st G E kc ks)) := rfl
theorem xz_0_504 : xm_run call xm_c0 nL mc ms ret Q (f + 1) (xm_drop 504 xm_c0) lv st G E kc ks = ((match st with
    | w :: st => bif xm_cat1 w then xm_run call xm_c0 nL mc ms ret Q f (xm_drop 505 xm_c0) lv st G E kc ks else false
    | _ => false)) := rfl
theorem xz_0_505 : xm_run call xm_c0 nL mc ms ret Q (f + 1) (xm_drop 505 xm_c0) lv st G E kc ks = (xm_run call xm_c0 nL mc ms ret Q f (xm_drop 682 xm_c0) lv st G E kc ks) := rfl
theorem xz_0_506 : xm_run call xm_c0 nL mc ms ret Q (f + 1) (xm_drop 506 xm_c0) lv st G E kc ks = ((match xm_get lv 1 with
    | some w => bif xm_isA w then xm_run call xm_c0 nL mc ms ret Q f (xm_drop 507 xm_c0) lv (w :: st) G E kc ks else false
    | none => false)) := rfl
theorem xz_0_507 : xm_run call xm_c0 nL mc ms ret Q (f + 1) (xm_drop 507 xm_c0) lv st G E kc ks = ((match xm_get lv 0 with
    | some w => bif xm_isA w then xm_run call xm_c0 nL mc ms ret Q f (xm_drop 508 xm_c0) lv (w :: st) G E kc ks else false
    | none => false)) := rfl
theorem xz_0_508 : xm_run call xm_c0 nL mc ms ret Q (f + 1) (xm_drop 508 xm_c0) lv st G E kc ks = ((match xm_get lv 3 with
    | some w => bif xm_isI w then xm_run call xm_c0 nL mc ms ret Q f (xm_drop 509 xm_c0) lv (w :: st) G E kc ks else false
    | none => false)) := rfl
theorem xz_0_509 : xm_run call xm_c0 nL mc ms ret Q (f + 1) (xm_drop 509 xm_c0) lv st G E kc ks = (xm_run call xm_c0 nL mc ms ret Q f (xm_drop 510 xm_c0) lv ((.int 1) :: st) G E kc ks) := rfl
theorem xz_0_510 : xm_run call xm_c0 nL mc ms ret Q (f + 1) (xm_drop 510 xm_c0) lv st G E kc ks = (xm_int2 .iadd st E (fun st E => xm_run call xm_c0 nL mc ms ret Q f (xm_drop 511 xm_c0) lv st G E kc ks)) := rfl
theorem xz_0_511 : xm_run call xm_c0 nL mc ms ret Q (f + 1) (xm_drop 511 xm_c0) lv st G E kc ks = (xm_iald st G E (fun st E => xm_run call xm_c0 nL mc ms ret Q f (xm_drop 512 xm_c0) lv st G E kc ks)) := rfl
theorem xz_0_512 : xm_run call xm_c0 nL mc ms ret Q (f + 1) (xm_drop 512 xm_c0) lv st G E kc ks = ((match xm_get lv 0 with
    | some w => bif xm_isA w then xm_run call xm_c0 nL mc ms ret Q f (xm_drop 513 xm_c0) lv (w :: st) G E kc ks else false
    | none => false)) := rfl
theorem xz_0_513 : xm_run call xm_c0 nL mc ms ret Q (f + 1) (xm_drop 513 xm_c0) lv st G E kc ks = ((match xm_get lv 3 with
    | some w => bif xm_isI w then xm_run call xm_c0 nL mc ms ret Q f (xm_drop 514 xm_c0) lv (w :: st) G E kc ks else false
    | none => false)) := rfl
theorem xz_0_514 : xm_run call xm_c0 nL mc ms ret Q (f + 1) (xm_drop 514 xm_c0) lv st G E kc ks = (xm_run call xm_c0 nL mc ms ret Q f (xm_drop 515 xm_c0) lv ((.int 2) :: st) G E kc ks) := rfl
theorem xz_0_515 : xm_run call xm_c0 nL mc ms ret Q (f + 1) (xm_drop 515 xm_c0) lv st G E kc ks = (xm_int2 .iadd st E (fun st E => xm_run call xm_c0 nL mc ms ret Q f (xm_drop 516 xm_c0) lv st G E kc ks)) := rfl
theorem xz_0_516 : xm_run call xm_c0 nL mc ms ret Q (f + 1) (xm_drop 516 xm_c0) lv st G E kc ks = (xm_iald st G E (fun st E => xm_run call xm_c0 nL mc ms ret Q f (xm_drop 517 xm_c0) lv st G E kc ks)) := rfl
theorem xz_0_517 : xm_run call xm_c0 nL mc ms ret Q (f + 1) (xm_drop 517 xm_c0) lv st G E kc ks = ((match xm_get lv 0 with
    | some w => bif xm_isA w then xm_run call xm_c0 nL mc ms ret Q f (xm_drop 518 xm_c0) lv (w :: st) G E kc ks else false
    | none => false)) := rfl
theorem xz_0_518 : xm_run call xm_c0 nL mc ms ret Q (f + 1) (xm_drop 518 xm_c0) lv st G E kc ks = ((match xm_get lv 3 with
    | some w => bif xm_isI w then xm_run call xm_c0 nL mc ms ret Q f (xm_drop 519 xm_c0) lv (w :: st) G E kc ks else false
    | none => false)) := rfl
theorem xz_0_519 : xm_run call xm_c0 nL mc ms ret Q (f + 1) (xm_drop 519 xm_c0) lv st G E kc ks = (xm_run call xm_c0 nL mc ms ret Q f (xm_drop 520 xm_c0) lv ((.int 3) :: st) G E kc ks) := rfl
theorem xz_0_520 : xm_run call xm_c0 nL mc ms ret Q (f + 1) (xm_drop 520 xm_c0) lv st G E kc ks = (xm_int2 .iadd st E (fun st E => xm_run call xm_c0 nL mc ms ret Q f (xm_drop 521 xm_c0) lv st G E kc ks)) := rfl
theorem xz_0_521 : xm_run call xm_c0 nL mc ms ret Q (f + 1) (xm_drop 521 xm_c0) lv st G E kc ks = (xm_iald st G E (fun st E => xm_run call xm_c0 nL mc ms ret Q f (xm_drop 522 xm_c0) lv st G E kc ks)) := rfl
theorem xz_0_522 : xm_run call xm_c0 nL mc ms ret Q (f + 1) (xm_drop 522 xm_c0) lv st G E kc ks = (bif Nat.beq 110 1006 || Nat.beq 110 1007 then xm_strl 110 st G (fun st => xm_run call xm_c0 nL mc ms ret Q f (xm_drop 523 xm_c0) lv st G E kc ks) else xm_call call mc ms 110 0 st G E kc ks (fun st G E kc ks => xm_run call xm_c0 nL mc ms ret Q f (xm_drop 523 xm_c0) lv st G E kc ks)) := rfl
theorem xz_0_523 : xm_run call xm_c0 nL mc ms ret Q (f + 1) (xm_drop 523 xm_c0) lv st G E kc ks = ((match st with
    | w :: st => bif xm_cat1 w then xm_run call xm_c0 nL mc ms ret Q f (xm_drop 524 xm_c0) lv st G E kc ks else false
    | _ => false)) := rfl
theorem xz_0_524 : xm_run call xm_c0 nL mc ms ret Q (f + 1) (xm_drop 524 xm_c0) lv st G E kc ks = ((match xm_get lv 2 with
    | some w => bif xm_isA w then xm_run call xm_c0 nL mc ms ret Q f (xm_drop 525 xm_c0) lv (w :: st) G E kc ks else false
    | none => false)) := rfl
theorem xz_0_525 : xm_run call xm_c0 nL mc ms ret Q (f + 1) (xm_drop 525 xm_c0) lv st G E kc ks = ((match xm_get lv 0 with
    | some w => bif xm_isA w then xm_run call xm_c0 nL mc ms ret Q f (xm_drop 526 xm_c0) lv (w :: st) G E kc ks else false
    | none => false)) := rfl
theorem xz_0_526 : xm_run call xm_c0 nL mc ms ret Q (f + 1) (xm_drop 526 xm_c0) lv st G E kc ks = ((match xm_get lv 3 with
    | some w => bif xm_isI w then xm_run call xm_c0 nL mc ms ret Q f (xm_drop 527 xm_c0) lv (w :: st) G E kc ks else false
    | none => false)) := rfl
theorem xz_0_527 : xm_run call xm_c0 nL mc ms ret Q (f + 1) (xm_drop 527 xm_c0) lv st G E kc ks = (xm_run call xm_c0 nL mc ms ret Q f (xm_drop 528 xm_c0) lv ((.int 1) :: st) G E kc ks) := rfl
theorem xz_0_528 : xm_run call xm_c0 nL mc ms ret Q (f + 1) (xm_drop 528 xm_c0) lv st G E kc ks = (xm_int2 .iadd st E (fun st E => xm_run call xm_c0 nL mc ms ret Q f (xm_drop 529 xm_c0) lv st G E kc ks)) := rfl
theorem xz_0_529 : xm_run call xm_c0 nL mc ms ret Q (f + 1) (xm_drop 529 xm_c0) lv st G E kc ks = (xm_iald st G E (fun st E => xm_run call xm_c0 nL mc ms ret Q f (xm_drop 530 xm_c0) lv st G E kc ks)) := rfl
theorem xz_0_530 : xm_run call xm_c0 nL mc ms ret Q (f + 1) (xm_drop 530 xm_c0) lv st G E kc ks = ((match xm_get lv 0 with
    | some w => bif xm_isA w then xm_run call xm_c0 nL mc ms ret Q f (xm_drop 531 xm_c0) lv (w :: st) G E kc ks else false
    | none => false)) := rfl
theorem xz_0_531 : xm_run call xm_c0 nL mc ms ret Q (f + 1) (xm_drop 531 xm_c0) lv st G E kc ks = ((match xm_get lv 3 with
    | some w => bif xm_isI w then xm_run call xm_c0 nL mc ms ret Q f (xm_drop 532 xm_c0) lv (w :: st) G E kc ks else false
    | none => false)) := rfl
theorem xz_0_532 : xm_run call xm_c0 nL mc ms ret Q (f + 1) (xm_drop 532 xm_c0) lv st G E kc ks = (xm_run call xm_c0 nL mc ms ret Q f (xm_drop 533 xm_c0) lv ((.int 2) :: st) G E kc ks) := rfl
theorem xz_0_533 : xm_run call xm_c0 nL mc ms ret Q (f + 1) (xm_drop 533 xm_c0) lv st G E kc ks = (xm_int2 .iadd st E (fun st E => xm_run call xm_c0 nL mc ms ret Q f (xm_drop 534 xm_c0) lv st G E kc ks)) := rfl
theorem xz_0_534 : xm_run call xm_c0 nL mc ms ret Q (f + 1) (xm_drop 534 xm_c0) lv st G E kc ks = (xm_iald st G E (fun st E => xm_run call xm_c0 nL mc ms ret Q f (xm_drop 535 xm_c0) lv st G E kc ks)) := rfl
theorem xz_0_535 : xm_run call xm_c0 nL mc ms ret Q (f + 1) (xm_drop 535 xm_c0) lv st G E kc ks = ((match xm_get lv 0 with
    | some w => bif xm_isA w then xm_run call xm_c0 nL mc ms ret Q f (xm_drop 536 xm_c0) lv (w :: st) G E kc ks else false
    | none => false)) := rfl
theorem xz_0_536 : xm_run call xm_c0 nL mc ms ret Q (f + 1) (xm_drop 536 xm_c0) lv st G E kc ks = ((match xm_get lv 3 with
    | some w => bif xm_isI w then xm_run call xm_c0 nL mc ms ret Q f (xm_drop 537 xm_c0) lv (w :: st) G E kc ks else false
    | none => false)) := rfl
theorem xz_0_537 : xm_run call xm_c0 nL mc ms ret Q (f + 1) (xm_drop 537 xm_c0) lv st G E kc ks = (xm_run call xm_c0 nL mc ms ret Q f (xm_drop 538 xm_c0) lv ((.int 3) :: st) G E kc ks) := rfl
theorem xz_0_538 : xm_run call xm_c0 nL mc ms ret Q (f + 1) (xm_drop 538 xm_c0) lv st G E kc ks = (xm_int2 .iadd st E (fun st E => xm_run call xm_c0 nL mc ms ret Q f (xm_drop 539 xm_c0) lv st G E kc ks)) := rfl
theorem xz_0_539 : xm_run call xm_c0 nL mc ms ret Q (f + 1) (xm_drop 539 xm_c0) lv st G E kc ks = (xm_iald st G E (fun st E => xm_run call xm_c0 nL mc ms ret Q f (xm_drop 540 xm_c0) lv st G E kc ks)) := rfl
theorem xz_0_540 : xm_run call xm_c0 nL mc ms ret Q (f + 1) (xm_drop 540 xm_c0) lv st G E kc ks = (bif Nat.beq 226 1006 || Nat.beq 226 1007 then xm_strl 226 st G (fun st => xm_run call xm_c0 nL mc ms ret Q f (xm_drop 541 xm_c0) lv st G E kc ks) else xm_call call mc ms 226 0 st G E kc ks (fun st G E kc ks => xm_run call xm_c0 nL mc ms ret Q f (xm_drop 541 xm_c0) lv st G E kc ks)) := rfl
theorem xz_0_541 : xm_run call xm_c0 nL mc ms ret Q (f + 1) (xm_drop 541 xm_c0) lv st G E kc ks = ((match st with
    | w :: st => bif xm_cat1 w then xm_run call xm_c0 nL mc ms ret Q f (xm_drop 542 xm_c0) lv st G E kc ks else false
    | _ => false)) := rfl
theorem xz_0_542 : xm_run call xm_c0 nL mc ms ret Q (f + 1) (xm_drop 542 xm_c0) lv st G E kc ks = (xm_run call xm_c0 nL mc ms ret Q f (xm_drop 682 xm_c0) lv st G E kc ks) := rfl
theorem xz_0_543 : xm_run call xm_c0 nL mc ms ret Q (f + 1) (xm_drop 543 xm_c0) lv st G E kc ks = ((match xm_get lv 1 with
    | some w => bif xm_isA w then xm_run call xm_c0 nL mc ms ret Q f (xm_drop 544 xm_c0) lv (w :: st) G E kc ks else false
    | none => false)) := rfl
theorem xz_0_544 : xm_run call xm_c0 nL mc ms ret Q (f + 1) (xm_drop 544 xm_c0) lv st G E kc ks = ((match xm_get lv 0 with
    | some w => bif xm_isA w then xm_run call xm_c0 nL mc ms ret Q f (xm_drop 545 xm_c0) lv (w :: st) G E kc ks else false
    | none => false)) := rfl
theorem xz_0_545 : xm_run call xm_c0 nL mc ms ret Q (f + 1) (xm_drop 545 xm_c0) lv st G E kc ks = ((match xm_get lv 3 with
    | some w => bif xm_isI w then xm_run call xm_c0 nL mc ms ret Q f (xm_drop 546 xm_c0) lv (w :: st) G E kc ks else false
    | none => false)) := rfl
theorem xz_0_546 : xm_run call xm_c0 nL mc ms ret Q (f + 1) (xm_drop 546 xm_c0) lv st G E kc ks = (xm_run call xm_c0 nL mc ms ret Q f (xm_drop 547 xm_c0) lv ((.int 1) :: st) G E kc ks) := rfl
theorem xz_0_547 : xm_run call xm_c0 nL mc ms ret Q (f + 1) (xm_drop 547 xm_c0) lv st G E kc ks = (xm_int2 .iadd st E (fun st E => xm_run call xm_c0 nL mc ms ret Q f (xm_drop 548 xm_c0) lv st G E kc ks)) := rfl
theorem xz_0_548 : xm_run call xm_c0 nL mc ms ret Q (f + 1) (xm_drop 548 xm_c0) lv st G E kc ks = (xm_iald st G E (fun st E => xm_run call xm_c0 nL mc ms ret Q f (xm_drop 549 xm_c0) lv st G E kc ks)) := rfl
theorem xz_0_549 : xm_run call xm_c0 nL mc ms ret Q (f + 1) (xm_drop 549 xm_c0) lv st G E kc ks = (bif Nat.beq 111 1006 || Nat.beq 111 1007 then xm_strl 111 st G (fun st => xm_run call xm_c0 nL mc ms ret Q f (xm_drop 550 xm_c0) lv st G E kc ks) else xm_call call mc ms 111 0 st G E kc ks (fun st G E kc ks => xm_run call xm_c0 nL mc ms ret Q f (xm_drop 550 xm_c0) lv st G E kc ks)) := rfl
theorem xz_0_550 : xm_run call xm_c0 nL mc ms ret Q (f + 1) (xm_drop 550 xm_c0) lv st G E kc ks = ((match st with
    | w :: st => bif xm_cat1 w then xm_run call xm_c0 nL mc ms ret Q f (xm_drop 551 xm_c0) lv st G E kc ks else false
    | _ => false)) := rfl
theorem xz_0_551 : xm_run call xm_c0 nL mc ms ret Q (f + 1) (xm_drop 551 xm_c0) lv st G E kc ks = ((match xm_get lv 2 with
    | some w => bif xm_isA w then xm_run call xm_c0 nL mc ms ret Q f (xm_drop 552 xm_c0) lv (w :: st) G E kc ks else false
    | none => false)) := rfl
theorem xz_0_552 : xm_run call xm_c0 nL mc ms ret Q (f + 1) (xm_drop 552 xm_c0) lv st G E kc ks = ((match xm_get lv 0 with
    | some w => bif xm_isA w then xm_run call xm_c0 nL mc ms ret Q f (xm_drop 553 xm_c0) lv (w :: st) G E kc ks else false
    | none => false)) := rfl
theorem xz_0_553 : xm_run call xm_c0 nL mc ms ret Q (f + 1) (xm_drop 553 xm_c0) lv st G E kc ks = ((match xm_get lv 3 with
    | some w => bif xm_isI w then xm_run call xm_c0 nL mc ms ret Q f (xm_drop 554 xm_c0) lv (w :: st) G E kc ks else false
    | none => false)) := rfl
theorem xz_0_554 : xm_run call xm_c0 nL mc ms ret Q (f + 1) (xm_drop 554 xm_c0) lv st G E kc ks = (xm_run call xm_c0 nL mc ms ret Q f (xm_drop 555 xm_c0) lv ((.int 1) :: st) G E kc ks) := rfl
theorem xz_0_555 : xm_run call xm_c0 nL mc ms ret Q (f + 1) (xm_drop 555 xm_c0) lv st G E kc ks = (xm_int2 .iadd st E (fun st E => xm_run call xm_c0 nL mc ms ret Q f (xm_drop 556 xm_c0) lv st G E kc ks)) := rfl
theorem xz_0_556 : xm_run call xm_c0 nL mc ms ret Q (f + 1) (xm_drop 556 xm_c0) lv st G E kc ks = (xm_iald st G E (fun st E => xm_run call xm_c0 nL mc ms ret Q f (xm_drop 557 xm_c0) lv st G E kc ks)) := rfl
theorem xz_0_557 : xm_run call xm_c0 nL mc ms ret Q (f + 1) (xm_drop 557 xm_c0) lv st G E kc ks = (bif Nat.beq 228 1006 || Nat.beq 228 1007 then xm_strl 228 st G (fun st => xm_run call xm_c0 nL mc ms ret Q f (xm_drop 558 xm_c0) lv st G E kc ks) else xm_call call mc ms 228 0 st G E kc ks (fun st G E kc ks => xm_run call xm_c0 nL mc ms ret Q f (xm_drop 558 xm_c0) lv st G E kc ks)) := rfl
theorem xz_0_558 : xm_run call xm_c0 nL mc ms ret Q (f + 1) (xm_drop 558 xm_c0) lv st G E kc ks = ((match st with
    | w :: st => bif xm_cat1 w then xm_run call xm_c0 nL mc ms ret Q f (xm_drop 559 xm_c0) lv st G E kc ks else false
    | _ => false)) := rfl
theorem xz_0_559 : xm_run call xm_c0 nL mc ms ret Q (f + 1) (xm_drop 559 xm_c0) lv st G E kc ks = (xm_run call xm_c0 nL mc ms ret Q f (xm_drop 682 xm_c0) lv st G E kc ks) := rfl
theorem xz_0_560 : xm_run call xm_c0 nL mc ms ret Q (f + 1) (xm_drop 560 xm_c0) lv st G E kc ks = ((match xm_get lv 1 with
    | some w => bif xm_isA w then xm_run call xm_c0 nL mc ms ret Q f (xm_drop 561 xm_c0) lv (w :: st) G E kc ks else false
    | none => false)) := rfl
theorem xz_0_561 : xm_run call xm_c0 nL mc ms ret Q (f + 1) (xm_drop 561 xm_c0) lv st G E kc ks = ((match xm_get lv 0 with
    | some w => bif xm_isA w then xm_run call xm_c0 nL mc ms ret Q f (xm_drop 562 xm_c0) lv (w :: st) G E kc ks else false
    | none => false)) := rfl
theorem xz_0_562 : xm_run call xm_c0 nL mc ms ret Q (f + 1) (xm_drop 562 xm_c0) lv st G E kc ks = ((match xm_get lv 3 with
    | some w => bif xm_isI w then xm_run call xm_c0 nL mc ms ret Q f (xm_drop 563 xm_c0) lv (w :: st) G E kc ks else false
    | none => false)) := rfl
theorem xz_0_563 : xm_run call xm_c0 nL mc ms ret Q (f + 1) (xm_drop 563 xm_c0) lv st G E kc ks = (xm_run call xm_c0 nL mc ms ret Q f (xm_drop 564 xm_c0) lv ((.int 1) :: st) G E kc ks) := rfl
theorem xz_0_564 : xm_run call xm_c0 nL mc ms ret Q (f + 1) (xm_drop 564 xm_c0) lv st G E kc ks = (xm_int2 .iadd st E (fun st E => xm_run call xm_c0 nL mc ms ret Q f (xm_drop 565 xm_c0) lv st G E kc ks)) := rfl
theorem xz_0_565 : xm_run call xm_c0 nL mc ms ret Q (f + 1) (xm_drop 565 xm_c0) lv st G E kc ks = (xm_iald st G E (fun st E => xm_run call xm_c0 nL mc ms ret Q f (xm_drop 566 xm_c0) lv st G E kc ks)) := rfl
theorem xz_0_566 : xm_run call xm_c0 nL mc ms ret Q (f + 1) (xm_drop 566 xm_c0) lv st G E kc ks = (bif Nat.beq 112 1006 || Nat.beq 112 1007 then xm_strl 112 st G (fun st => xm_run call xm_c0 nL mc ms ret Q f (xm_drop 567 xm_c0) lv st G E kc ks) else xm_call call mc ms 112 0 st G E kc ks (fun st G E kc ks => xm_run call xm_c0 nL mc ms ret Q f (xm_drop 567 xm_c0) lv st G E kc ks)) := rfl
theorem xz_0_567 : xm_run call xm_c0 nL mc ms ret Q (f + 1) (xm_drop 567 xm_c0) lv st G E kc ks = ((match st with
    | w :: st => bif xm_cat1 w then xm_run call xm_c0 nL mc ms ret Q f (xm_drop 568 xm_c0) lv st G E kc ks else false
    | _ => false)) := rfl
theorem xz_0_568 : xm_run call xm_c0 nL mc ms ret Q (f + 1) (xm_drop 568 xm_c0) lv st G E kc ks = ((match xm_get lv 2 with
    | some w => bif xm_isA w then xm_run call xm_c0 nL mc ms ret Q f (xm_drop 569 xm_c0) lv (w :: st) G E kc ks else false
    | none => false)) := rfl
theorem xz_0_569 : xm_run call xm_c0 nL mc ms ret Q (f + 1) (xm_drop 569 xm_c0) lv st G E kc ks = ((match xm_get lv 0 with
    | some w => bif xm_isA w then xm_run call xm_c0 nL mc ms ret Q f (xm_drop 570 xm_c0) lv (w :: st) G E kc ks else false
    | none => false)) := rfl
theorem xz_0_570 : xm_run call xm_c0 nL mc ms ret Q (f + 1) (xm_drop 570 xm_c0) lv st G E kc ks = ((match xm_get lv 3 with
    | some w => bif xm_isI w then xm_run call xm_c0 nL mc ms ret Q f (xm_drop 571 xm_c0) lv (w :: st) G E kc ks else false
    | none => false)) := rfl
theorem xz_0_571 : xm_run call xm_c0 nL mc ms ret Q (f + 1) (xm_drop 571 xm_c0) lv st G E kc ks = (xm_run call xm_c0 nL mc ms ret Q f (xm_drop 572 xm_c0) lv ((.int 1) :: st) G E kc ks) := rfl
theorem xz_0_572 : xm_run call xm_c0 nL mc ms ret Q (f + 1) (xm_drop 572 xm_c0) lv st G E kc ks = (xm_int2 .iadd st E (fun st E => xm_run call xm_c0 nL mc ms ret Q f (xm_drop 573 xm_c0) lv st G E kc ks)) := rfl
theorem xz_0_573 : xm_run call xm_c0 nL mc ms ret Q (f + 1) (xm_drop 573 xm_c0) lv st G E kc ks = (xm_iald st G E (fun st E => xm_run call xm_c0 nL mc ms ret Q f (xm_drop 574 xm_c0) lv st G E kc ks)) := rfl
theorem xz_0_574 : xm_run call xm_c0 nL mc ms ret Q (f + 1) (xm_drop 574 xm_c0) lv st G E kc ks = (bif Nat.beq 230 1006 || Nat.beq 230 1007 then xm_strl 230 st G (fun st => xm_run call xm_c0 nL mc ms ret Q f (xm_drop 575 xm_c0) lv st G E kc ks) else xm_call call mc ms 230 0 st G E kc ks (fun st G E kc ks => xm_run call xm_c0 nL mc ms ret Q f (xm_drop 575 xm_c0) lv st G E kc ks)) := rfl
theorem xz_0_575 : xm_run call xm_c0 nL mc ms ret Q (f + 1) (xm_drop 575 xm_c0) lv st G E kc ks = ((match st with
    | w :: st => bif xm_cat1 w then xm_run call xm_c0 nL mc ms ret Q f (xm_drop 576 xm_c0) lv st G E kc ks else false
    | _ => false)) := rfl
theorem xz_0_576 : xm_run call xm_c0 nL mc ms ret Q (f + 1) (xm_drop 576 xm_c0) lv st G E kc ks = (xm_run call xm_c0 nL mc ms ret Q f (xm_drop 682 xm_c0) lv st G E kc ks) := rfl
theorem xz_0_577 : xm_run call xm_c0 nL mc ms ret Q (f + 1) (xm_drop 577 xm_c0) lv st G E kc ks = ((match xm_get lv 1 with
    | some w => bif xm_isA w then xm_run call xm_c0 nL mc ms ret Q f (xm_drop 578 xm_c0) lv (w :: st) G E kc ks else false
    | none => false)) := rfl
theorem xz_0_578 : xm_run call xm_c0 nL mc ms ret Q (f + 1) (xm_drop 578 xm_c0) lv st G E kc ks = ((match xm_get lv 0 with
    | some w => bif xm_isA w then xm_run call xm_c0 nL mc ms ret Q f (xm_drop 579 xm_c0) lv (w :: st) G E kc ks else false
    | none => false)) := rfl
theorem xz_0_579 : xm_run call xm_c0 nL mc ms ret Q (f + 1) (xm_drop 579 xm_c0) lv st G E kc ks = ((match xm_get lv 3 with
    | some w => bif xm_isI w then xm_run call xm_c0 nL mc ms ret Q f (xm_drop 580 xm_c0) lv (w :: st) G E kc ks else false
    | none => false)) := rfl
theorem xz_0_580 : xm_run call xm_c0 nL mc ms ret Q (f + 1) (xm_drop 580 xm_c0) lv st G E kc ks = (xm_run call xm_c0 nL mc ms ret Q f (xm_drop 581 xm_c0) lv ((.int 1) :: st) G E kc ks) := rfl
theorem xz_0_581 : xm_run call xm_c0 nL mc ms ret Q (f + 1) (xm_drop 581 xm_c0) lv st G E kc ks = (xm_int2 .iadd st E (fun st E => xm_run call xm_c0 nL mc ms ret Q f (xm_drop 582 xm_c0) lv st G E kc ks)) := rfl
theorem xz_0_582 : xm_run call xm_c0 nL mc ms ret Q (f + 1) (xm_drop 582 xm_c0) lv st G E kc ks = (xm_iald st G E (fun st E => xm_run call xm_c0 nL mc ms ret Q f (xm_drop 583 xm_c0) lv st G E kc ks)) := rfl
theorem xz_0_583 : xm_run call xm_c0 nL mc ms ret Q (f + 1) (xm_drop 583 xm_c0) lv st G E kc ks = (bif Nat.beq 113 1006 || Nat.beq 113 1007 then xm_strl 113 st G (fun st => xm_run call xm_c0 nL mc ms ret Q f (xm_drop 584 xm_c0) lv st G E kc ks) else xm_call call mc ms 113 0 st G E kc ks (fun st G E kc ks => xm_run call xm_c0 nL mc ms ret Q f (xm_drop 584 xm_c0) lv st G E kc ks)) := rfl
theorem xz_0_584 : xm_run call xm_c0 nL mc ms ret Q (f + 1) (xm_drop 584 xm_c0) lv st G E kc ks = ((match st with
    | w :: st => bif xm_cat1 w then xm_run call xm_c0 nL mc ms ret Q f (xm_drop 585 xm_c0) lv st G E kc ks else false
    | _ => false)) := rfl
theorem xz_0_585 : xm_run call xm_c0 nL mc ms ret Q (f + 1) (xm_drop 585 xm_c0) lv st G E kc ks = ((match xm_get lv 2 with
    | some w => bif xm_isA w then xm_run call xm_c0 nL mc ms ret Q f (xm_drop 586 xm_c0) lv (w :: st) G E kc ks else false
    | none => false)) := rfl
theorem xz_0_586 : xm_run call xm_c0 nL mc ms ret Q (f + 1) (xm_drop 586 xm_c0) lv st G E kc ks = ((match xm_get lv 0 with
    | some w => bif xm_isA w then xm_run call xm_c0 nL mc ms ret Q f (xm_drop 587 xm_c0) lv (w :: st) G E kc ks else false
    | none => false)) := rfl
theorem xz_0_587 : xm_run call xm_c0 nL mc ms ret Q (f + 1) (xm_drop 587 xm_c0) lv st G E kc ks = ((match xm_get lv 3 with
    | some w => bif xm_isI w then xm_run call xm_c0 nL mc ms ret Q f (xm_drop 588 xm_c0) lv (w :: st) G E kc ks else false
    | none => false)) := rfl
theorem xz_0_588 : xm_run call xm_c0 nL mc ms ret Q (f + 1) (xm_drop 588 xm_c0) lv st G E kc ks = (xm_run call xm_c0 nL mc ms ret Q f (xm_drop 589 xm_c0) lv ((.int 1) :: st) G E kc ks) := rfl
theorem xz_0_589 : xm_run call xm_c0 nL mc ms ret Q (f + 1) (xm_drop 589 xm_c0) lv st G E kc ks = (xm_int2 .iadd st E (fun st E => xm_run call xm_c0 nL mc ms ret Q f (xm_drop 590 xm_c0) lv st G E kc ks)) := rfl
theorem xz_0_590 : xm_run call xm_c0 nL mc ms ret Q (f + 1) (xm_drop 590 xm_c0) lv st G E kc ks = (xm_iald st G E (fun st E => xm_run call xm_c0 nL mc ms ret Q f (xm_drop 591 xm_c0) lv st G E kc ks)) := rfl
theorem xz_0_591 : xm_run call xm_c0 nL mc ms ret Q (f + 1) (xm_drop 591 xm_c0) lv st G E kc ks = (bif Nat.beq 231 1006 || Nat.beq 231 1007 then xm_strl 231 st G (fun st => xm_run call xm_c0 nL mc ms ret Q f (xm_drop 592 xm_c0) lv st G E kc ks) else xm_call call mc ms 231 0 st G E kc ks (fun st G E kc ks => xm_run call xm_c0 nL mc ms ret Q f (xm_drop 592 xm_c0) lv st G E kc ks)) := rfl
theorem xz_0_592 : xm_run call xm_c0 nL mc ms ret Q (f + 1) (xm_drop 592 xm_c0) lv st G E kc ks = ((match st with
    | w :: st => bif xm_cat1 w then xm_run call xm_c0 nL mc ms ret Q f (xm_drop 593 xm_c0) lv st G E kc ks else false
    | _ => false)) := rfl
theorem xz_0_593 : xm_run call xm_c0 nL mc ms ret Q (f + 1) (xm_drop 593 xm_c0) lv st G E kc ks = (xm_run call xm_c0 nL mc ms ret Q f (xm_drop 682 xm_c0) lv st G E kc ks) := rfl
theorem xz_0_594 : xm_run call xm_c0 nL mc ms ret Q (f + 1) (xm_drop 594 xm_c0) lv st G E kc ks = ((match xm_get lv 1 with
    | some w => bif xm_isA w then xm_run call xm_c0 nL mc ms ret Q f (xm_drop 595 xm_c0) lv (w :: st) G E kc ks else false
    | none => false)) := rfl
theorem xz_0_595 : xm_run call xm_c0 nL mc ms ret Q (f + 1) (xm_drop 595 xm_c0) lv st G E kc ks = ((match xm_get lv 0 with
    | some w => bif xm_isA w then xm_run call xm_c0 nL mc ms ret Q f (xm_drop 596 xm_c0) lv (w :: st) G E kc ks else false
    | none => false)) := rfl
theorem xz_0_596 : xm_run call xm_c0 nL mc ms ret Q (f + 1) (xm_drop 596 xm_c0) lv st G E kc ks = ((match xm_get lv 3 with
    | some w => bif xm_isI w then xm_run call xm_c0 nL mc ms ret Q f (xm_drop 597 xm_c0) lv (w :: st) G E kc ks else false
    | none => false)) := rfl
theorem xz_0_597 : xm_run call xm_c0 nL mc ms ret Q (f + 1) (xm_drop 597 xm_c0) lv st G E kc ks = (xm_run call xm_c0 nL mc ms ret Q f (xm_drop 598 xm_c0) lv ((.int 1) :: st) G E kc ks) := rfl
theorem xz_0_598 : xm_run call xm_c0 nL mc ms ret Q (f + 1) (xm_drop 598 xm_c0) lv st G E kc ks = (xm_int2 .iadd st E (fun st E => xm_run call xm_c0 nL mc ms ret Q f (xm_drop 599 xm_c0) lv st G E kc ks)) := rfl
theorem xz_0_599 : xm_run call xm_c0 nL mc ms ret Q (f + 1) (xm_drop 599 xm_c0) lv st G E kc ks = (xm_iald st G E (fun st E => xm_run call xm_c0 nL mc ms ret Q f (xm_drop 600 xm_c0) lv st G E kc ks)) := rfl
theorem xz_0_600 : xm_run call xm_c0 nL mc ms ret Q (f + 1) (xm_drop 600 xm_c0) lv st G E kc ks = ((match xm_get lv 0 with
    | some w => bif xm_isA w then xm_run call xm_c0 nL mc ms ret Q f (xm_drop 601 xm_c0) lv (w :: st) G E kc ks else false
    | none => false)) := rfl
theorem xz_0_601 : xm_run call xm_c0 nL mc ms ret Q (f + 1) (xm_drop 601 xm_c0) lv st G E kc ks = ((match xm_get lv 3 with
    | some w => bif xm_isI w then xm_run call xm_c0 nL mc ms ret Q f (xm_drop 602 xm_c0) lv (w :: st) G E kc ks else false
    | none => false)) := rfl
theorem xz_0_602 : xm_run call xm_c0 nL mc ms ret Q (f + 1) (xm_drop 602 xm_c0) lv st G E kc ks = (xm_run call xm_c0 nL mc ms ret Q f (xm_drop 603 xm_c0) lv ((.int 2) :: st) G E kc ks) := rfl
theorem xz_0_603 : xm_run call xm_c0 nL mc ms ret Q (f + 1) (xm_drop 603 xm_c0) lv st G E kc ks = (xm_int2 .iadd st E (fun st E => xm_run call xm_c0 nL mc ms ret Q f (xm_drop 604 xm_c0) lv st G E kc ks)) := rfl
theorem xz_0_604 : xm_run call xm_c0 nL mc ms ret Q (f + 1) (xm_drop 604 xm_c0) lv st G E kc ks = (xm_iald st G E (fun st E => xm_run call xm_c0 nL mc ms ret Q f (xm_drop 605 xm_c0) lv st G E kc ks)) := rfl
theorem xz_0_605 : xm_run call xm_c0 nL mc ms ret Q (f + 1) (xm_drop 605 xm_c0) lv st G E kc ks = ((match xm_get lv 0 with
    | some w => bif xm_isA w then xm_run call xm_c0 nL mc ms ret Q f (xm_drop 606 xm_c0) lv (w :: st) G E kc ks else false
    | none => false)) := rfl
theorem xz_0_606 : xm_run call xm_c0 nL mc ms ret Q (f + 1) (xm_drop 606 xm_c0) lv st G E kc ks = ((match xm_get lv 3 with
    | some w => bif xm_isI w then xm_run call xm_c0 nL mc ms ret Q f (xm_drop 607 xm_c0) lv (w :: st) G E kc ks else false
    | none => false)) := rfl
theorem xz_0_607 : xm_run call xm_c0 nL mc ms ret Q (f + 1) (xm_drop 607 xm_c0) lv st G E kc ks = (xm_run call xm_c0 nL mc ms ret Q f (xm_drop 608 xm_c0) lv ((.int 3) :: st) G E kc ks) := rfl
theorem xz_0_608 : xm_run call xm_c0 nL mc ms ret Q (f + 1) (xm_drop 608 xm_c0) lv st G E kc ks = (xm_int2 .iadd st E (fun st E => xm_run call xm_c0 nL mc ms ret Q f (xm_drop 609 xm_c0) lv st G E kc ks)) := rfl
theorem xz_0_609 : xm_run call xm_c0 nL mc ms ret Q (f + 1) (xm_drop 609 xm_c0) lv st G E kc ks = (xm_iald st G E (fun st E => xm_run call xm_c0 nL mc ms ret Q f (xm_drop 610 xm_c0) lv st G E kc ks)) := rfl
theorem xz_0_610 : xm_run call xm_c0 nL mc ms ret Q (f + 1) (xm_drop 610 xm_c0) lv st G E kc ks = (bif Nat.beq 114 1006 || Nat.beq 114 1007 then xm_strl 114 st G (fun st => xm_run call xm_c0 nL mc ms ret Q f (xm_drop 611 xm_c0) lv st G E kc ks) else xm_call call mc ms 114 0 st G E kc ks (fun st G E kc ks => xm_run call xm_c0 nL mc ms ret Q f (xm_drop 611 xm_c0) lv st G E kc ks)) := rfl
theorem xz_0_611 : xm_run call xm_c0 nL mc ms ret Q (f + 1) (xm_drop 611 xm_c0) lv st G E kc ks = ((match st with
    | w :: st => bif xm_cat1 w then xm_run call xm_c0 nL mc ms ret Q f (xm_drop 612 xm_c0) lv st G E kc ks else false
    | _ => false)) := rfl
theorem xz_0_612 : xm_run call xm_c0 nL mc ms ret Q (f + 1) (xm_drop 612 xm_c0) lv st G E kc ks = ((match xm_get lv 2 with
    | some w => bif xm_isA w then xm_run call xm_c0 nL mc ms ret Q f (xm_drop 613 xm_c0) lv (w :: st) G E kc ks else false
    | none => false)) := rfl
theorem xz_0_613 : xm_run call xm_c0 nL mc ms ret Q (f + 1) (xm_drop 613 xm_c0) lv st G E kc ks = ((match xm_get lv 0 with
    | some w => bif xm_isA w then xm_run call xm_c0 nL mc ms ret Q f (xm_drop 614 xm_c0) lv (w :: st) G E kc ks else false
    | none => false)) := rfl
theorem xz_0_614 : xm_run call xm_c0 nL mc ms ret Q (f + 1) (xm_drop 614 xm_c0) lv st G E kc ks = ((match xm_get lv 3 with
    | some w => bif xm_isI w then xm_run call xm_c0 nL mc ms ret Q f (xm_drop 615 xm_c0) lv (w :: st) G E kc ks else false
    | none => false)) := rfl
theorem xz_0_615 : xm_run call xm_c0 nL mc ms ret Q (f + 1) (xm_drop 615 xm_c0) lv st G E kc ks = (xm_run call xm_c0 nL mc ms ret Q f (xm_drop 616 xm_c0) lv ((.int 1) :: st) G E kc ks) := rfl
theorem xz_0_616 : xm_run call xm_c0 nL mc ms ret Q (f + 1) (xm_drop 616 xm_c0) lv st G E kc ks = (xm_int2 .iadd st E (fun st E => xm_run call xm_c0 nL mc ms ret Q f (xm_drop 617 xm_c0) lv st G E kc ks)) := rfl
theorem xz_0_617 : xm_run call xm_c0 nL mc ms ret Q (f + 1) (xm_drop 617 xm_c0) lv st G E kc ks = (xm_iald st G E (fun st E => xm_run call xm_c0 nL mc ms ret Q f (xm_drop 618 xm_c0) lv st G E kc ks)) := rfl
theorem xz_0_618 : xm_run call xm_c0 nL mc ms ret Q (f + 1) (xm_drop 618 xm_c0) lv st G E kc ks = ((match xm_get lv 0 with
    | some w => bif xm_isA w then xm_run call xm_c0 nL mc ms ret Q f (xm_drop 619 xm_c0) lv (w :: st) G E kc ks else false
    | none => false)) := rfl
theorem xz_0_619 : xm_run call xm_c0 nL mc ms ret Q (f + 1) (xm_drop 619 xm_c0) lv st G E kc ks = ((match xm_get lv 3 with
    | some w => bif xm_isI w then xm_run call xm_c0 nL mc ms ret Q f (xm_drop 620 xm_c0) lv (w :: st) G E kc ks else false
    | none => false)) := rfl
theorem xz_0_620 : xm_run call xm_c0 nL mc ms ret Q (f + 1) (xm_drop 620 xm_c0) lv st G E kc ks = (xm_run call xm_c0 nL mc ms ret Q f (xm_drop 621 xm_c0) lv ((.int 2) :: st) G E kc ks) := rfl
theorem xz_0_621 : xm_run call xm_c0 nL mc ms ret Q (f + 1) (xm_drop 621 xm_c0) lv st G E kc ks = (xm_int2 .iadd st E (fun st E => xm_run call xm_c0 nL mc ms ret Q f (xm_drop 622 xm_c0) lv st G E kc ks)) := rfl
theorem xz_0_622 : xm_run call xm_c0 nL mc ms ret Q (f + 1) (xm_drop 622 xm_c0) lv st G E kc ks = (xm_iald st G E (fun st E => xm_run call xm_c0 nL mc ms ret Q f (xm_drop 623 xm_c0) lv st G E kc ks)) := rfl
theorem xz_0_623 : xm_run call xm_c0 nL mc ms ret Q (f + 1) (xm_drop 623 xm_c0) lv st G E kc ks = ((match xm_get lv 0 with
    | some w => bif xm_isA w then xm_run call xm_c0 nL mc ms ret Q f (xm_drop 624 xm_c0) lv (w :: st) G E kc ks else false
    | none => false)) := rfl
theorem xz_0_624 : xm_run call xm_c0 nL mc ms ret Q (f + 1) (xm_drop 624 xm_c0) lv st G E kc ks = ((match xm_get lv 3 with
    | some w => bif xm_isI w then xm_run call xm_c0 nL mc ms ret Q f (xm_drop 625 xm_c0) lv (w :: st) G E kc ks else false
    | none => false)) := rfl
theorem xz_0_625 : xm_run call xm_c0 nL mc ms ret Q (f + 1) (xm_drop 625 xm_c0) lv st G E kc ks = (xm_run call xm_c0 nL mc ms ret Q f (xm_drop 626 xm_c0) lv ((.int 3) :: st) G E kc ks) := rfl
theorem xz_0_626 : xm_run call xm_c0 nL mc ms ret Q (f + 1) (xm_drop 626 xm_c0) lv st G E kc ks = (xm_int2 .iadd st E (fun st E => xm_run call xm_c0 nL mc ms ret Q f (xm_drop 627 xm_c0) lv st G E kc ks)) := rfl
theorem xz_0_627 : xm_run call xm_c0 nL mc ms ret Q (f + 1) (xm_drop 627 xm_c0) lv st G E kc ks = (xm_iald st G E (fun st E => xm_run call xm_c0 nL mc ms ret Q f (xm_drop 628 xm_c0) lv st G E kc ks)) := rfl
theorem xz_0_628 : xm_run call xm_c0 nL mc ms ret Q (f + 1) (xm_drop 628 xm_c0) lv st G E kc ks = (bif Nat.beq 234 1006 || Nat.beq 234 1007 then xm_strl 234 st G (fun st => xm_run call xm_c0 nL mc ms ret Q f (xm_drop 629 xm_c0) lv st G E kc ks) else xm_call call mc ms 234 0 st G E kc ks (fun st G E kc ks => xm_run call xm_c0 nL mc ms ret Q f (xm_drop 629 xm_c0) lv st G E kc ks)) := rfl
theorem xz_0_629 : xm_run call xm_c0 nL mc ms ret Q (f + 1) (xm_drop 629 xm_c0) lv st G E kc ks = ((match st with
    | w :: st => bif xm_cat1 w then xm_run call xm_c0 nL mc ms ret Q f (xm_drop 630 xm_c0) lv st G E kc ks else false
    | _ => false)) := rfl
theorem xz_0_630 : xm_run call xm_c0 nL mc ms ret Q (f + 1) (xm_drop 630 xm_c0) lv st G E kc ks = (xm_run call xm_c0 nL mc ms ret Q f (xm_drop 682 xm_c0) lv st G E kc ks) := rfl
theorem xz_0_631 : xm_run call xm_c0 nL mc ms ret Q (f + 1) (xm_drop 631 xm_c0) lv st G E kc ks = ((match xm_get lv 1 with
    | some w => bif xm_isA w then xm_run call xm_c0 nL mc ms ret Q f (xm_drop 632 xm_c0) lv (w :: st) G E kc ks else false
    | none => false)) := rfl
theorem xz_0_632 : xm_run call xm_c0 nL mc ms ret Q (f + 1) (xm_drop 632 xm_c0) lv st G E kc ks = ((match xm_get lv 0 with
    | some w => bif xm_isA w then xm_run call xm_c0 nL mc ms ret Q f (xm_drop 633 xm_c0) lv (w :: st) G E kc ks else false
    | none => false)) := rfl
theorem xz_0_633 : xm_run call xm_c0 nL mc ms ret Q (f + 1) (xm_drop 633 xm_c0) lv st G E kc ks = ((match xm_get lv 3 with
    | some w => bif xm_isI w then xm_run call xm_c0 nL mc ms ret Q f (xm_drop 634 xm_c0) lv (w :: st) G E kc ks else false
    | none => false)) := rfl
theorem xz_0_634 : xm_run call xm_c0 nL mc ms ret Q (f + 1) (xm_drop 634 xm_c0) lv st G E kc ks = (xm_run call xm_c0 nL mc ms ret Q f (xm_drop 635 xm_c0) lv ((.int 1) :: st) G E kc ks) := rfl
theorem xz_0_635 : xm_run call xm_c0 nL mc ms ret Q (f + 1) (xm_drop 635 xm_c0) lv st G E kc ks = (xm_int2 .iadd st E (fun st E => xm_run call xm_c0 nL mc ms ret Q f (xm_drop 636 xm_c0) lv st G E kc ks)) := rfl
theorem xz_0_636 : xm_run call xm_c0 nL mc ms ret Q (f + 1) (xm_drop 636 xm_c0) lv st G E kc ks = (xm_iald st G E (fun st E => xm_run call xm_c0 nL mc ms ret Q f (xm_drop 637 xm_c0) lv st G E kc ks)) := rfl
theorem xz_0_637 : xm_run call xm_c0 nL mc ms ret Q (f + 1) (xm_drop 637 xm_c0) lv st G E kc ks = (bif Nat.beq 115 1006 || Nat.beq 115 1007 then xm_strl 115 st G (fun st => xm_run call xm_c0 nL mc ms ret Q f (xm_drop 638 xm_c0) lv st G E kc ks) else xm_call call mc ms 115 0 st G E kc ks (fun st G E kc ks => xm_run call xm_c0 nL mc ms ret Q f (xm_drop 638 xm_c0) lv st G E kc ks)) := rfl
theorem xz_0_638 : xm_run call xm_c0 nL mc ms ret Q (f + 1) (xm_drop 638 xm_c0) lv st G E kc ks = ((match st with
    | w :: st => bif xm_cat1 w then xm_run call xm_c0 nL mc ms ret Q f (xm_drop 639 xm_c0) lv st G E kc ks else false
    | _ => false)) := rfl
theorem xz_0_639 : xm_run call xm_c0 nL mc ms ret Q (f + 1) (xm_drop 639 xm_c0) lv st G E kc ks = ((match xm_get lv 2 with
    | some w => bif xm_isA w then xm_run call xm_c0 nL mc ms ret Q f (xm_drop 640 xm_c0) lv (w :: st) G E kc ks else false
    | none => false)) := rfl
theorem xz_0_640 : xm_run call xm_c0 nL mc ms ret Q (f + 1) (xm_drop 640 xm_c0) lv st G E kc ks = ((match xm_get lv 0 with
    | some w => bif xm_isA w then xm_run call xm_c0 nL mc ms ret Q f (xm_drop 641 xm_c0) lv (w :: st) G E kc ks else false
    | none => false)) := rfl
theorem xz_0_641 : xm_run call xm_c0 nL mc ms ret Q (f + 1) (xm_drop 641 xm_c0) lv st G E kc ks = ((match xm_get lv 3 with
    | some w => bif xm_isI w then xm_run call xm_c0 nL mc ms ret Q f (xm_drop 642 xm_c0) lv (w :: st) G E kc ks else false
    | none => false)) := rfl
theorem xz_0_642 : xm_run call xm_c0 nL mc ms ret Q (f + 1) (xm_drop 642 xm_c0) lv st G E kc ks = (xm_run call xm_c0 nL mc ms ret Q f (xm_drop 643 xm_c0) lv ((.int 1) :: st) G E kc ks) := rfl
theorem xz_0_643 : xm_run call xm_c0 nL mc ms ret Q (f + 1) (xm_drop 643 xm_c0) lv st G E kc ks = (xm_int2 .iadd st E (fun st E => xm_run call xm_c0 nL mc ms ret Q f (xm_drop 644 xm_c0) lv st G E kc ks)) := rfl
theorem xz_0_644 : xm_run call xm_c0 nL mc ms ret Q (f + 1) (xm_drop 644 xm_c0) lv st G E kc ks = (xm_iald st G E (fun st E => xm_run call xm_c0 nL mc ms ret Q f (xm_drop 645 xm_c0) lv st G E kc ks)) := rfl
theorem xz_0_645 : xm_run call xm_c0 nL mc ms ret Q (f + 1) (xm_drop 645 xm_c0) lv st G E kc ks = (bif Nat.beq 235 1006 || Nat.beq 235 1007 then xm_strl 235 st G (fun st => xm_run call xm_c0 nL mc ms ret Q f (xm_drop 646 xm_c0) lv st G E kc ks) else xm_call call mc ms 235 0 st G E kc ks (fun st G E kc ks => xm_run call xm_c0 nL mc ms ret Q f (xm_drop 646 xm_c0) lv st G E kc ks)) := rfl
theorem xz_0_646 : xm_run call xm_c0 nL mc ms ret Q (f + 1) (xm_drop 646 xm_c0) lv st G E kc ks = ((match st with
    | w :: st => bif xm_cat1 w then xm_run call xm_c0 nL mc ms ret Q f (xm_drop 647 xm_c0) lv st G E kc ks else false
    | _ => false)) := rfl
theorem xz_0_647 : xm_run call xm_c0 nL mc ms ret Q (f + 1) (xm_drop 647 xm_c0) lv st G E kc ks = (xm_run call xm_c0 nL mc ms ret Q f (xm_drop 682 xm_c0) lv st G E kc ks) := rfl
theorem xz_0_648 : xm_run call xm_c0 nL mc ms ret Q (f + 1) (xm_drop 648 xm_c0) lv st G E kc ks = ((match xm_get lv 1 with
    | some w => bif xm_isA w then xm_run call xm_c0 nL mc ms ret Q f (xm_drop 649 xm_c0) lv (w :: st) G E kc ks else false
    | none => false)) := rfl
theorem xz_0_649 : xm_run call xm_c0 nL mc ms ret Q (f + 1) (xm_drop 649 xm_c0) lv st G E kc ks = ((match xm_get lv 0 with
    | some w => bif xm_isA w then xm_run call xm_c0 nL mc ms ret Q f (xm_drop 650 xm_c0) lv (w :: st) G E kc ks else false
    | none => false)) := rfl
theorem xz_0_650 : xm_run call xm_c0 nL mc ms ret Q (f + 1) (xm_drop 650 xm_c0) lv st G E kc ks = ((match xm_get lv 3 with
    | some w => bif xm_isI w then xm_run call xm_c0 nL mc ms ret Q f (xm_drop 651 xm_c0) lv (w :: st) G E kc ks else false
    | none => false)) := rfl
theorem xz_0_651 : xm_run call xm_c0 nL mc ms ret Q (f + 1) (xm_drop 651 xm_c0) lv st G E kc ks = (xm_run call xm_c0 nL mc ms ret Q f (xm_drop 652 xm_c0) lv ((.int 1) :: st) G E kc ks) := rfl
theorem xz_0_652 : xm_run call xm_c0 nL mc ms ret Q (f + 1) (xm_drop 652 xm_c0) lv st G E kc ks = (xm_int2 .iadd st E (fun st E => xm_run call xm_c0 nL mc ms ret Q f (xm_drop 653 xm_c0) lv st G E kc ks)) := rfl
theorem xz_0_653 : xm_run call xm_c0 nL mc ms ret Q (f + 1) (xm_drop 653 xm_c0) lv st G E kc ks = (xm_iald st G E (fun st E => xm_run call xm_c0 nL mc ms ret Q f (xm_drop 654 xm_c0) lv st G E kc ks)) := rfl
theorem xz_0_654 : xm_run call xm_c0 nL mc ms ret Q (f + 1) (xm_drop 654 xm_c0) lv st G E kc ks = (bif Nat.beq 116 1006 || Nat.beq 116 1007 then xm_strl 116 st G (fun st => xm_run call xm_c0 nL mc ms ret Q f (xm_drop 655 xm_c0) lv st G E kc ks) else xm_call call mc ms 116 0 st G E kc ks (fun st G E kc ks => xm_run call xm_c0 nL mc ms ret Q f (xm_drop 655 xm_c0) lv st G E kc ks)) := rfl
theorem xz_0_655 : xm_run call xm_c0 nL mc ms ret Q (f + 1) (xm_drop 655 xm_c0) lv st G E kc ks = ((match st with
    | w :: st => bif xm_cat1 w then xm_run call xm_c0 nL mc ms ret Q f (xm_drop 656 xm_c0) lv st G E kc ks else false
    | _ => false)) := rfl
theorem xz_0_656 : xm_run call xm_c0 nL mc ms ret Q (f + 1) (xm_drop 656 xm_c0) lv st G E kc ks = ((match xm_get lv 2 with
    | some w => bif xm_isA w then xm_run call xm_c0 nL mc ms ret Q f (xm_drop 657 xm_c0) lv (w :: st) G E kc ks else false
    | none => false)) := rfl
theorem xz_0_657 : xm_run call xm_c0 nL mc ms ret Q (f + 1) (xm_drop 657 xm_c0) lv st G E kc ks = ((match xm_get lv 0 with
    | some w => bif xm_isA w then xm_run call xm_c0 nL mc ms ret Q f (xm_drop 658 xm_c0) lv (w :: st) G E kc ks else false
    | none => false)) := rfl
theorem xz_0_658 : xm_run call xm_c0 nL mc ms ret Q (f + 1) (xm_drop 658 xm_c0) lv st G E kc ks = ((match xm_get lv 3 with
    | some w => bif xm_isI w then xm_run call xm_c0 nL mc ms ret Q f (xm_drop 659 xm_c0) lv (w :: st) G E kc ks else false
    | none => false)) := rfl
theorem xz_0_659 : xm_run call xm_c0 nL mc ms ret Q (f + 1) (xm_drop 659 xm_c0) lv st G E kc ks = (xm_run call xm_c0 nL mc ms ret Q f (xm_drop 660 xm_c0) lv ((.int 1) :: st) G E kc ks) := rfl
theorem xz_0_660 : xm_run call xm_c0 nL mc ms ret Q (f + 1) (xm_drop 660 xm_c0) lv st G E kc ks = (xm_int2 .iadd st E (fun st E => xm_run call xm_c0 nL mc ms ret Q f (xm_drop 661 xm_c0) lv st G E kc ks)) := rfl
theorem xz_0_661 : xm_run call xm_c0 nL mc ms ret Q (f + 1) (xm_drop 661 xm_c0) lv st G E kc ks = (xm_iald st G E (fun st E => xm_run call xm_c0 nL mc ms ret Q f (xm_drop 662 xm_c0) lv st G E kc ks)) := rfl
theorem xz_0_662 : xm_run call xm_c0 nL mc ms ret Q (f + 1) (xm_drop 662 xm_c0) lv st G E kc ks = (bif Nat.beq 236 1006 || Nat.beq 236 1007 then xm_strl 236 st G (fun st => xm_run call xm_c0 nL mc ms ret Q f (xm_drop 663 xm_c0) lv st G E kc ks) else xm_call call mc ms 236 0 st G E kc ks (fun st G E kc ks => xm_run call xm_c0 nL mc ms ret Q f (xm_drop 663 xm_c0) lv st G E kc ks)) := rfl
theorem xz_0_663 : xm_run call xm_c0 nL mc ms ret Q (f + 1) (xm_drop 663 xm_c0) lv st G E kc ks = ((match st with
    | w :: st => bif xm_cat1 w then xm_run call xm_c0 nL mc ms ret Q f (xm_drop 664 xm_c0) lv st G E kc ks else false
    | _ => false)) := rfl
theorem xz_0_664 : xm_run call xm_c0 nL mc ms ret Q (f + 1) (xm_drop 664 xm_c0) lv st G E kc ks = (xm_run call xm_c0 nL mc ms ret Q f (xm_drop 682 xm_c0) lv st G E kc ks) := rfl
theorem xz_0_665 : xm_run call xm_c0 nL mc ms ret Q (f + 1) (xm_drop 665 xm_c0) lv st G E kc ks = ((match xm_get lv 1 with
    | some w => bif xm_isA w then xm_run call xm_c0 nL mc ms ret Q f (xm_drop 666 xm_c0) lv (w :: st) G E kc ks else false
    | none => false)) := rfl
theorem xz_0_666 : xm_run call xm_c0 nL mc ms ret Q (f + 1) (xm_drop 666 xm_c0) lv st G E kc ks = ((match xm_get lv 0 with
    | some w => bif xm_isA w then xm_run call xm_c0 nL mc ms ret Q f (xm_drop 667 xm_c0) lv (w :: st) G E kc ks else false
    | none => false)) := rfl
theorem xz_0_667 : xm_run call xm_c0 nL mc ms ret Q (f + 1) (xm_drop 667 xm_c0) lv st G E kc ks = ((match xm_get lv 3 with
    | some w => bif xm_isI w then xm_run call xm_c0 nL mc ms ret Q f (xm_drop 668 xm_c0) lv (w :: st) G E kc ks else false
    | none => false)) := rfl
theorem xz_0_668 : xm_run call xm_c0 nL mc ms ret Q (f + 1) (xm_drop 668 xm_c0) lv st G E kc ks = (xm_run call xm_c0 nL mc ms ret Q f (xm_drop 669 xm_c0) lv ((.int 1) :: st) G E kc ks) := rfl
theorem xz_0_669 : xm_run call xm_c0 nL mc ms ret Q (f + 1) (xm_drop 669 xm_c0) lv st G E kc ks = (xm_int2 .iadd st E (fun st E => xm_run call xm_c0 nL mc ms ret Q f (xm_drop 670 xm_c0) lv st G E kc ks)) := rfl
theorem xz_0_670 : xm_run call xm_c0 nL mc ms ret Q (f + 1) (xm_drop 670 xm_c0) lv st G E kc ks = (xm_iald st G E (fun st E => xm_run call xm_c0 nL mc ms ret Q f (xm_drop 671 xm_c0) lv st G E kc ks)) := rfl
theorem xz_0_671 : xm_run call xm_c0 nL mc ms ret Q (f + 1) (xm_drop 671 xm_c0) lv st G E kc ks = (bif Nat.beq 117 1006 || Nat.beq 117 1007 then xm_strl 117 st G (fun st => xm_run call xm_c0 nL mc ms ret Q f (xm_drop 672 xm_c0) lv st G E kc ks) else xm_call call mc ms 117 0 st G E kc ks (fun st G E kc ks => xm_run call xm_c0 nL mc ms ret Q f (xm_drop 672 xm_c0) lv st G E kc ks)) := rfl
theorem xz_0_672 : xm_run call xm_c0 nL mc ms ret Q (f + 1) (xm_drop 672 xm_c0) lv st G E kc ks = ((match st with
    | w :: st => bif xm_cat1 w then xm_run call xm_c0 nL mc ms ret Q f (xm_drop 673 xm_c0) lv st G E kc ks else false
    | _ => false)) := rfl
theorem xz_0_673 : xm_run call xm_c0 nL mc ms ret Q (f + 1) (xm_drop 673 xm_c0) lv st G E kc ks = ((match xm_get lv 2 with
    | some w => bif xm_isA w then xm_run call xm_c0 nL mc ms ret Q f (xm_drop 674 xm_c0) lv (w :: st) G E kc ks else false
    | none => false)) := rfl
theorem xz_0_674 : xm_run call xm_c0 nL mc ms ret Q (f + 1) (xm_drop 674 xm_c0) lv st G E kc ks = ((match xm_get lv 0 with
    | some w => bif xm_isA w then xm_run call xm_c0 nL mc ms ret Q f (xm_drop 675 xm_c0) lv (w :: st) G E kc ks else false
    | none => false)) := rfl
theorem xz_0_675 : xm_run call xm_c0 nL mc ms ret Q (f + 1) (xm_drop 675 xm_c0) lv st G E kc ks = ((match xm_get lv 3 with
    | some w => bif xm_isI w then xm_run call xm_c0 nL mc ms ret Q f (xm_drop 676 xm_c0) lv (w :: st) G E kc ks else false
    | none => false)) := rfl
theorem xz_0_676 : xm_run call xm_c0 nL mc ms ret Q (f + 1) (xm_drop 676 xm_c0) lv st G E kc ks = (xm_run call xm_c0 nL mc ms ret Q f (xm_drop 677 xm_c0) lv ((.int 1) :: st) G E kc ks) := rfl
theorem xz_0_677 : xm_run call xm_c0 nL mc ms ret Q (f + 1) (xm_drop 677 xm_c0) lv st G E kc ks = (xm_int2 .iadd st E (fun st E => xm_run call xm_c0 nL mc ms ret Q f (xm_drop 678 xm_c0) lv st G E kc ks)) := rfl
theorem xz_0_678 : xm_run call xm_c0 nL mc ms ret Q (f + 1) (xm_drop 678 xm_c0) lv st G E kc ks = (xm_iald st G E (fun st E => xm_run call xm_c0 nL mc ms ret Q f (xm_drop 679 xm_c0) lv st G E kc ks)) := rfl
theorem xz_0_679 : xm_run call xm_c0 nL mc ms ret Q (f + 1) (xm_drop 679 xm_c0) lv st G E kc ks = (bif Nat.beq 237 1006 || Nat.beq 237 1007 then xm_strl 237 st G (fun st => xm_run call xm_c0 nL mc ms ret Q f (xm_drop 680 xm_c0) lv st G E kc ks) else xm_call call mc ms 237 0 st G E kc ks (fun st G E kc ks => xm_run call xm_c0 nL mc ms ret Q f (xm_drop 680 xm_c0) lv st G E kc ks)) := rfl
theorem xz_0_680 : xm_run call xm_c0 nL mc ms ret Q (f + 1) (xm_drop 680 xm_c0) lv st G E kc ks = ((match st with
    | w :: st => bif xm_cat1 w then xm_run call xm_c0 nL mc ms ret Q f (xm_drop 681 xm_c0) lv st G E kc ks else false
    | _ => false)) := rfl
theorem xz_0_681 : xm_run call xm_c0 nL mc ms ret Q (f + 1) (xm_drop 681 xm_c0) lv st G E kc ks = (xm_run call xm_c0 nL mc ms ret Q f (xm_drop 682 xm_c0) lv st G E kc ks) := rfl
theorem xz_0_682 : xm_run call xm_c0 nL mc ms ret Q (f + 1) (xm_drop 682 xm_c0) lv st G E kc ks = ((match xm_get lv 3 with
    | some w => bif Nat.blt 3 nL then xm_conc E w (fun E x => xm_frc (x + Int32.ofInt 6) (fun z => xm_run call xm_c0 nL mc ms ret Q f (xm_drop 683 xm_c0) (xm_set1 lv 3 (.int z)) st G E kc ks)) else false
    | none => false)) := rfl
theorem xz_0_683 : xm_run call xm_c0 nL mc ms ret Q (f + 1) (xm_drop 683 xm_c0) lv st G E kc ks = (xm_run call xm_c0 nL mc ms ret Q f (xm_drop 10 xm_c0) lv st G E kc ks) := rfl
theorem xz_0_684 : xm_run call xm_c0 nL mc ms ret Q (f + 1) (xm_drop 684 xm_c0) lv st G E kc ks = (xm_run call xm_c0 nL mc ms ret Q f (xm_drop 685 xm_c0) lv ((.int 1) :: st) G E kc ks) := rfl
theorem xz_0_685 : xm_run call xm_c0 nL mc ms ret Q (f + 1) (xm_drop 685 xm_c0) lv st G E kc ks = ((match st with
    | [w] => bif xm_isI w && (xm_rok ret w && (Nat.ble kc mc && Nat.ble ks ms)) then Q (some w) G E else false
    | _ => false)) := rfl
end XM
