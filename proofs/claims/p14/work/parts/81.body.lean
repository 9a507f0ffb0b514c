/-! a step of the machine, a step of the JVM: all instructions -/
def xs_Rt (ret : Option FieldType) (i : Instr) (v : Option Value) (st1 : List Value) : Prop :=
  (i = .ireturn ∧ ∃ w, st1 = [w] ∧ v = some w ∧ xm_isI w = true ∧ xm_rok ret w = true) ∨ (i = .lreturn ∧ ∃ w, st1 = [w] ∧ v = some w ∧ xm_isL w = true ∧ xm_rok ret w = true) ∨ (i = .areturn ∧ ∃ w, st1 = [w] ∧ v = some w ∧ xm_isA w = true ∧ xm_rok ret w = true) ∨ (i = .return_ ∧ st1 = [] ∧ v = none ∧ ret = none)
/-- what a return must give -/
def xs_RH (p : Program) (l : Launch) (e : Env) (R : Room) (s : State) (m : MethodId) (args : Array Value) (below : List Frame) (meth : Method) (c : Code) (Qf : State → Prop) (cc : ByteArray) (nL mc ms : Nat) (ret : Option FieldType) (Q : xm_Q) (Z : xs_Z) : Prop :=
  ∀ (pc : Nat) (i : Instr) (v : Option Value) (st1 : List Value) (kc ks : Nat) (lv : xm_L) (G : xm_H) (E : xm_R) (H : Heap) (locs : List Loc) (ls : Array Slot), decode cc pc = .ok (i, 1) → xs_Rt ret i v st1 → Q v G E = true → kc ≤ mc → ks ≤ ms → xs_St Z nL lv G E H locs ls → W p l e R s m args below meth c H locs kc ks Qf (F0 m pc ls (st1.map (xs_cv Z)))
theorem xn_mlen : xm_mtab.length = 241 := by decide +kernel
theorem xs_s {cc : ByteArray} {pc : Nat} {i : Instr} {q : Nat × Nat × List Nat × Value} {rest : List xm_E} {n : Nat} (h : xm_s cc (pc, i, q) rest n = true) : decode cc pc = .ok (i, n) ∧ ∃ e1 rest', rest = e1 :: rest' ∧ e1.1 = pc + n := by
  unfold xm_s xm_dc at h
  rw [Bool.and_eq_true, decide_eq_true_eq] at h
  refine ⟨h.1, ?_⟩
  have h2 := h.2
  unfold xm_nx at h2
  split at h2
  · rename_i e1 rest'
    exact ⟨e1, rest', rfl, Nat.eq_of_beq_eq_true h2⟩
  · cases h2
theorem xs_dw {cc : ByteArray} {pc : Nat} {i : Instr} {q : Nat × Nat × List Nat × Value} (h : xm_dw cc (pc, i, q) = true) : ∃ len, decode cc pc = .ok (i, len) := by
  unfold xm_dw at h
  dsimp only at h
  cases hd : decode cc pc with
  | error x => rw [hd] at h; cases h
  | ok y =>
    obtain ⟨i', len⟩ := y
    rw [hd] at h
    have h : i' = i := of_decide_eq_true h
    subst h
    exact ⟨len, rfl⟩
section XI
variable {p : Program} {l : Launch} {e : Env} {R : Room} {s : State} {m : MethodId} {args : Array Value} {below : List Frame} {meth : Method} {c : Code} {Qf : State → Prop} {cc : ByteArray} {nL o : Nat} {Z : xs_Z}
variable {lv : xm_L} {st : List Value} {G : xm_H} {E : xm_R} {kc ks pc mc ms : Nat} {k : xm_K} {H : Heap} {locs : List Loc} {ls : Array Slot}
set_option maxHeartbeats 4000000 in
theorem xs_body (X : xs_Cx p s m args c cc nL o Z) {call : xm_C} {d : Nat} {full rest : List xm_E} {ini : Bool} {ret : Option FieldType} {Q : xm_Q} {ih : List xm_E → xm_K} {e0 : xm_E} (hok : xn_okE o ini cc full rest e0 = true) (hini : ini = true → meth.name = "<init>") (hfit : kc ≤ mc ∧ ks ≤ ms) (hR : d + 9 ≤ R.frames ∧ 64 * (d + 9) ≤ R.locals ∧ mc ≤ R.cells ∧ ms ≤ R.slots) (hC : xs_CH l Z d call)
    (hrest : ∀ e1 rest', rest = e1 :: rest' → xs_good p l e R s m args below meth c Qf nL Z (ih rest) e1.1) (hjump : ∀ (t : Nat) (e1 : xm_E) (rest' : List xm_E), xm_drop t full = e1 :: rest' → xs_good p l e R s m args below meth c Qf nL Z (ih (xm_drop t full)) e1.1)
    (hret : xs_RH p l e R s m args below meth c Qf cc nL mc ms ret Q Z) (hk : xm_body call full nL mc ms ret Q ih e0 rest lv st G E kc ks = true) (S : xs_St Z nL lv G E H locs ls) : W p l e R s m args below meth c H locs kc ks Qf (F0 m e0.1 ls (st.map (xs_cv Z))) := by
  obtain ⟨pc, i, a, b, ts, v⟩ := e0
  show W p l e R s m args below meth c H locs kc ks Qf (F0 m pc ls (st.map (xs_cv Z)))
  have gs : ∀ {n : Nat}, xm_s cc (pc, i, a, b, ts, v) rest n = true → decode cc pc = .ok (i, n) ∧ xs_good p l e R s m args below meth c Qf nL Z (ih rest) (pc + n) := by
    intro n h
    obtain ⟨h1, e1, rest', h2, h3⟩ := xs_s h
    have h4 := hrest e1 rest' h2
    rw [h3] at h4
    exact ⟨h1, h4⟩
  have gj : ∀ {t : Nat} {off : Int}, xm_tg full t pc off = true → ∃ tgt : Nat, (pc : Int) + off = (tgt : Int) ∧ xs_good p l e R s m args below meth c Qf nL Z (ih (xm_drop t full)) tgt := by
    intro t off h
    obtain ⟨e1, rest', h2, h3⟩ := xs_tg h
    exact ⟨e1.1, h3, hjump t e1 rest' h2⟩
  cases i with
  | iconst n =>
    have hok : (xm_s cc (pc, .iconst n, a, b, ts, v) rest 1 && decide (v = .int (Int32.ofInt n))) = true := hok
    rw [Bool.and_eq_true] at hok
    obtain ⟨h1, h2⟩ := hok
    obtain ⟨hd, g⟩ := gs h1
    exact xb_iconst X hd (of_decide_eq_true h2) hk g S
  | bipush n =>
    have hok : (xm_s cc (pc, .bipush n, a, b, ts, v) rest 2 && decide (v = .int (Int8.ofInt n).toInt32)) = true := hok
    rw [Bool.and_eq_true] at hok
    obtain ⟨h1, h2⟩ := hok
    obtain ⟨hd, g⟩ := gs h1
    exact xb_bipush X hd (of_decide_eq_true h2) hk g S
  | sipush n =>
    have hok : (xm_s cc (pc, .sipush n, a, b, ts, v) rest 3 && decide (v = .int (Int16.ofInt n).toInt32)) = true := hok
    rw [Bool.and_eq_true] at hok
    obtain ⟨h1, h2⟩ := hok
    obtain ⟨hd, g⟩ := gs h1
    exact xb_sipush X hd (of_decide_eq_true h2) hk g S
  | lconst n =>
    have hok : (xm_s cc (pc, .lconst n, a, b, ts, v) rest 1 && decide (v = .long (Int64.ofNat (n : Nat)))) = true := hok
    rw [Bool.and_eq_true] at hok
    obtain ⟨h1, h2⟩ := hok
    obtain ⟨hd, g⟩ := gs h1
    exact xb_lconst X hd (of_decide_eq_true h2) hk g S
  | aconst_null =>
    have hok : (xm_s cc (pc, .aconst_null, a, b, ts, v) rest 1 && decide (v = .null)) = true := hok
    rw [Bool.and_eq_true] at hok
    obtain ⟨h1, h2⟩ := hok
    obtain ⟨hd, g⟩ := gs h1
    exact xb_aconst_null X hd (of_decide_eq_true h2) hk g S
  | ldc i =>
    have hok : (xm_s cc (pc, .ldc i, a, b, ts, v) rest 2 && (xm_atk (xm_kl o) i v && xm_ki v)) = true := hok
    rw [Bool.and_eq_true] at hok
    obtain ⟨h1, h2⟩ := hok
    obtain ⟨hd, g⟩ := gs h1
    rw [Bool.and_eq_true] at h2
    exact xb_ldc X hd h2.1 h2.2 hk g S
  | ldc_w i =>
    have hok : (xm_s cc (pc, .ldc_w i, a, b, ts, v) rest 3 && (xm_atk (xm_kl o) i v && xm_kii v)) = true := hok
    rw [Bool.and_eq_true] at hok
    obtain ⟨h1, h2⟩ := hok
    obtain ⟨hd, g⟩ := gs h1
    rw [Bool.and_eq_true] at h2
    exact xb_ldc_w X hd h2.1 h2.2 hk g S
  | ldc2_w i =>
    have hok : (xm_s cc (pc, .ldc2_w i, a, b, ts, v) rest 3 && (xm_atk (xm_kl o) i v && xm_kll v)) = true := hok
    rw [Bool.and_eq_true] at hok
    obtain ⟨h1, h2⟩ := hok
    obtain ⟨hd, g⟩ := gs h1
    rw [Bool.and_eq_true] at h2
    exact xb_ldc2_w X hd h2.1 h2.2 hk g S
  | iload i =>
    have hok : (xm_s cc (pc, .iload i, a, b, ts, v) rest 2 && Nat.beq a i) = true := hok
    rw [Bool.and_eq_true] at hok
    obtain ⟨h1, h2⟩ := hok
    obtain ⟨hd, g⟩ := gs h1
    have ha := Nat.eq_of_beq_eq_true h2
    replace hk : (match xm_get lv a with
      | some w => bif xm_isI w then ih rest lv (w :: st) G E kc ks else false
      | none => false) = true := hk
    cases hw : xm_get lv a with
    | none => rw [hw] at hk; cases hk
    | some w =>
      rw [hw] at hk
      dsimp only at hk
      cases hI : xm_isI w with
      | false => rw [hI] at hk; cases hk
      | true =>
        rw [hI, cond_true] at hk
        subst ha
        exact xb_iload X hd hw hI hk g S
  | iload_n i =>
    have hok : (xm_s cc (pc, .iload_n i, a, b, ts, v) rest 1 && Nat.beq a (i : Nat)) = true := hok
    rw [Bool.and_eq_true] at hok
    obtain ⟨h1, h2⟩ := hok
    obtain ⟨hd, g⟩ := gs h1
    have ha := Nat.eq_of_beq_eq_true h2
    replace hk : (match xm_get lv a with
      | some w => bif xm_isI w then ih rest lv (w :: st) G E kc ks else false
      | none => false) = true := hk
    cases hw : xm_get lv a with
    | none => rw [hw] at hk; cases hk
    | some w =>
      rw [hw] at hk
      dsimp only at hk
      cases hI : xm_isI w with
      | false => rw [hI] at hk; cases hk
      | true =>
        rw [hI, cond_true] at hk
        exact xb_iload_n X hd ha.symm hw hI hk g S
  | lload i =>
    have hok : (xm_s cc (pc, .lload i, a, b, ts, v) rest 2 && Nat.beq a i) = true := hok
    rw [Bool.and_eq_true] at hok
    obtain ⟨h1, h2⟩ := hok
    obtain ⟨hd, g⟩ := gs h1
    have ha := Nat.eq_of_beq_eq_true h2
    replace hk : (match xm_get lv a with
      | some w => bif xm_isL w then ih rest lv (w :: st) G E kc ks else false
      | none => false) = true := hk
    cases hw : xm_get lv a with
    | none => rw [hw] at hk; cases hk
    | some w =>
      rw [hw] at hk
      dsimp only at hk
      cases hI : xm_isL w with
      | false => rw [hI] at hk; cases hk
      | true =>
        rw [hI, cond_true] at hk
        subst ha
        exact xb_lload X hd hw hI hk g S
  | lload_n i =>
    have hok : (xm_s cc (pc, .lload_n i, a, b, ts, v) rest 1 && Nat.beq a (i : Nat)) = true := hok
    rw [Bool.and_eq_true] at hok
    obtain ⟨h1, h2⟩ := hok
    obtain ⟨hd, g⟩ := gs h1
    have ha := Nat.eq_of_beq_eq_true h2
    replace hk : (match xm_get lv a with
      | some w => bif xm_isL w then ih rest lv (w :: st) G E kc ks else false
      | none => false) = true := hk
    cases hw : xm_get lv a with
    | none => rw [hw] at hk; cases hk
    | some w =>
      rw [hw] at hk
      dsimp only at hk
      cases hI : xm_isL w with
      | false => rw [hI] at hk; cases hk
      | true =>
        rw [hI, cond_true] at hk
        exact xb_lload_n X hd ha.symm hw hI hk g S
  | aload i =>
    have hok : (xm_s cc (pc, .aload i, a, b, ts, v) rest 2 && Nat.beq a i) = true := hok
    rw [Bool.and_eq_true] at hok
    obtain ⟨h1, h2⟩ := hok
    obtain ⟨hd, g⟩ := gs h1
    have ha := Nat.eq_of_beq_eq_true h2
    replace hk : (match xm_get lv a with
      | some w => bif xm_isA w then ih rest lv (w :: st) G E kc ks else false
      | none => false) = true := hk
    cases hw : xm_get lv a with
    | none => rw [hw] at hk; cases hk
    | some w =>
      rw [hw] at hk
      dsimp only at hk
      cases hI : xm_isA w with
      | false => rw [hI] at hk; cases hk
      | true =>
        rw [hI, cond_true] at hk
        subst ha
        exact xb_aload X hd hw hI hk g S
  | aload_n i =>
    have hok : (xm_s cc (pc, .aload_n i, a, b, ts, v) rest 1 && Nat.beq a (i : Nat)) = true := hok
    rw [Bool.and_eq_true] at hok
    obtain ⟨h1, h2⟩ := hok
    obtain ⟨hd, g⟩ := gs h1
    have ha := Nat.eq_of_beq_eq_true h2
    replace hk : (match xm_get lv a with
      | some w => bif xm_isA w then ih rest lv (w :: st) G E kc ks else false
      | none => false) = true := hk
    cases hw : xm_get lv a with
    | none => rw [hw] at hk; cases hk
    | some w =>
      rw [hw] at hk
      dsimp only at hk
      cases hI : xm_isA w with
      | false => rw [hI] at hk; cases hk
      | true =>
        rw [hI, cond_true] at hk
        exact xb_aload_n X hd ha.symm hw hI hk g S
  | istore i =>
    have hok : (xm_s cc (pc, .istore i, a, b, ts, v) rest 2 && Nat.beq a i) = true := hok
    rw [Bool.and_eq_true] at hok
    obtain ⟨h1, h2⟩ := hok
    obtain ⟨hd, g⟩ := gs h1
    have ha := Nat.eq_of_beq_eq_true h2
    replace hk : (match (generalizing := false) st with
      | w :: st => bif xm_isI w && Nat.blt a nL then ih rest (xm_set1 lv a w) st G E kc ks else false
      | _ => false) = true := hk
    split at hk
    · rename_i w st'
      cases hI : (xm_isI w && Nat.blt a nL) with
      | false => rw [hI] at hk; cases hk
      | true =>
        rw [hI, cond_true] at hk
        rw [Bool.and_eq_true] at hI
        subst ha
        exact xb_istore X hd hI.1 (Nat.le_of_ble_eq_true hI.2) hk g S
    · cases hk
  | istore_n i =>
    have hok : (xm_s cc (pc, .istore_n i, a, b, ts, v) rest 1 && Nat.beq a (i : Nat)) = true := hok
    rw [Bool.and_eq_true] at hok
    obtain ⟨h1, h2⟩ := hok
    obtain ⟨hd, g⟩ := gs h1
    have ha := Nat.eq_of_beq_eq_true h2
    replace hk : (match (generalizing := false) st with
      | w :: st => bif xm_isI w && Nat.blt a nL then ih rest (xm_set1 lv a w) st G E kc ks else false
      | _ => false) = true := hk
    split at hk
    · rename_i w st'
      cases hI : (xm_isI w && Nat.blt a nL) with
      | false => rw [hI] at hk; cases hk
      | true =>
        rw [hI, cond_true] at hk
        rw [Bool.and_eq_true] at hI
        exact xb_istore_n X hd ha.symm hI.1 (Nat.le_of_ble_eq_true hI.2) hk g S
    · cases hk
  | lstore i =>
    have hok : (xm_s cc (pc, .lstore i, a, b, ts, v) rest 2 && Nat.beq a i) = true := hok
    rw [Bool.and_eq_true] at hok
    obtain ⟨h1, h2⟩ := hok
    obtain ⟨hd, g⟩ := gs h1
    have ha := Nat.eq_of_beq_eq_true h2
    replace hk : (match (generalizing := false) st with
      | w :: st => bif xm_isL w && Nat.blt (a + 1) nL then ih rest (xm_set2 lv a w) st G E kc ks else false
      | _ => false) = true := hk
    split at hk
    · rename_i w st'
      cases hI : (xm_isL w && Nat.blt (a + 1) nL) with
      | false => rw [hI] at hk; cases hk
      | true =>
        rw [hI, cond_true] at hk
        rw [Bool.and_eq_true] at hI
        subst ha
        exact xb_lstore X hd hI.1 (Nat.le_of_ble_eq_true hI.2) hk g S
    · cases hk
  | lstore_n i =>
    have hok : (xm_s cc (pc, .lstore_n i, a, b, ts, v) rest 1 && Nat.beq a (i : Nat)) = true := hok
    rw [Bool.and_eq_true] at hok
    obtain ⟨h1, h2⟩ := hok
    obtain ⟨hd, g⟩ := gs h1
    have ha := Nat.eq_of_beq_eq_true h2
    replace hk : (match (generalizing := false) st with
      | w :: st => bif xm_isL w && Nat.blt (a + 1) nL then ih rest (xm_set2 lv a w) st G E kc ks else false
      | _ => false) = true := hk
    split at hk
    · rename_i w st'
      cases hI : (xm_isL w && Nat.blt (a + 1) nL) with
      | false => rw [hI] at hk; cases hk
      | true =>
        rw [hI, cond_true] at hk
        rw [Bool.and_eq_true] at hI
        exact xb_lstore_n X hd ha.symm hI.1 (Nat.le_of_ble_eq_true hI.2) hk g S
    · cases hk
  | astore i =>
    have hok : (xm_s cc (pc, .astore i, a, b, ts, v) rest 2 && Nat.beq a i) = true := hok
    rw [Bool.and_eq_true] at hok
    obtain ⟨h1, h2⟩ := hok
    obtain ⟨hd, g⟩ := gs h1
    have ha := Nat.eq_of_beq_eq_true h2
    replace hk : (match (generalizing := false) st with
      | w :: st => bif xm_isA w && Nat.blt a nL then ih rest (xm_set1 lv a w) st G E kc ks else false
      | _ => false) = true := hk
    split at hk
    · rename_i w st'
      cases hI : (xm_isA w && Nat.blt a nL) with
      | false => rw [hI] at hk; cases hk
      | true =>
        rw [hI, cond_true] at hk
        rw [Bool.and_eq_true] at hI
        subst ha
        exact xb_astore X hd hI.1 (Nat.le_of_ble_eq_true hI.2) hk g S
    · cases hk
  | astore_n i =>
    have hok : (xm_s cc (pc, .astore_n i, a, b, ts, v) rest 1 && Nat.beq a (i : Nat)) = true := hok
    rw [Bool.and_eq_true] at hok
    obtain ⟨h1, h2⟩ := hok
    obtain ⟨hd, g⟩ := gs h1
    have ha := Nat.eq_of_beq_eq_true h2
    replace hk : (match (generalizing := false) st with
      | w :: st => bif xm_isA w && Nat.blt a nL then ih rest (xm_set1 lv a w) st G E kc ks else false
      | _ => false) = true := hk
    split at hk
    · rename_i w st'
      cases hI : (xm_isA w && Nat.blt a nL) with
      | false => rw [hI] at hk; cases hk
      | true =>
        rw [hI, cond_true] at hk
        rw [Bool.and_eq_true] at hI
        exact xb_astore_n X hd ha.symm hI.1 (Nat.le_of_ble_eq_true hI.2) hk g S
    · cases hk
  | iinc i n =>
    have hok : (xm_s cc (pc, .iinc i n, a, b, ts, v) rest 3 && Nat.beq a i) = true := hok
    rw [Bool.and_eq_true] at hok
    obtain ⟨h1, h2⟩ := hok
    obtain ⟨hd, g⟩ := gs h1
    have ha := Nat.eq_of_beq_eq_true h2
    replace hk : (match xm_get lv a with
      | some w => bif Nat.blt a nL then xm_conc E w (fun E x => xm_frc (x + Int32.ofInt n) (fun z => ih rest (xm_set1 lv a (.int z)) st G E kc ks)) else false
      | none => false) = true := hk
    cases hw : xm_get lv a with
    | none => rw [hw] at hk; cases hk
    | some w =>
      rw [hw] at hk
      dsimp only at hk
      cases hI : Nat.blt a nL with
      | false => rw [hI] at hk; cases hk
      | true =>
        rw [hI, cond_true] at hk
        subst ha
        exact xb_iinc X hd hw (Nat.le_of_ble_eq_true hI) hk g S
  | iadd =>
    have h1 : xm_s cc (pc, .iadd, a, b, ts, v) rest 1 = true := hok
    obtain ⟨hd, g⟩ := gs h1
    exact xb_iadd X hd hk g S
  | isub =>
    have h1 : xm_s cc (pc, .isub, a, b, ts, v) rest 1 = true := hok
    obtain ⟨hd, g⟩ := gs h1
    exact xb_isub X hd hk g S
  | imul =>
    have h1 : xm_s cc (pc, .imul, a, b, ts, v) rest 1 = true := hok
    obtain ⟨hd, g⟩ := gs h1
    exact xb_imul X hd hk g S
  | iand =>
    have h1 : xm_s cc (pc, .iand, a, b, ts, v) rest 1 = true := hok
    obtain ⟨hd, g⟩ := gs h1
    exact xb_iand X hd hk g S
  | ior =>
    have h1 : xm_s cc (pc, .ior, a, b, ts, v) rest 1 = true := hok
    obtain ⟨hd, g⟩ := gs h1
    exact xb_ior X hd hk g S
  | ixor =>
    have h1 : xm_s cc (pc, .ixor, a, b, ts, v) rest 1 = true := hok
    obtain ⟨hd, g⟩ := gs h1
    exact xb_ixor X hd hk g S
  | ishl =>
    have h1 : xm_s cc (pc, .ishl, a, b, ts, v) rest 1 = true := hok
    obtain ⟨hd, g⟩ := gs h1
    exact xb_ishl X hd hk g S
  | ishr =>
    have h1 : xm_s cc (pc, .ishr, a, b, ts, v) rest 1 = true := hok
    obtain ⟨hd, g⟩ := gs h1
    exact xb_ishr X hd hk g S
  | iushr =>
    have h1 : xm_s cc (pc, .iushr, a, b, ts, v) rest 1 = true := hok
    obtain ⟨hd, g⟩ := gs h1
    exact xb_iushr X hd hk g S
  | idiv =>
    have h1 : xm_s cc (pc, .idiv, a, b, ts, v) rest 1 = true := hok
    obtain ⟨hd, g⟩ := gs h1
    exact xb_idiv X hd hk g S
  | irem =>
    have h1 : xm_s cc (pc, .irem, a, b, ts, v) rest 1 = true := hok
    obtain ⟨hd, g⟩ := gs h1
    exact xb_irem X hd hk g S
  | i2b =>
    have h1 : xm_s cc (pc, .i2b, a, b, ts, v) rest 1 = true := hok
    obtain ⟨hd, g⟩ := gs h1
    exact xb_i2b X hd hk g S
  | i2l =>
    have h1 : xm_s cc (pc, .i2l, a, b, ts, v) rest 1 = true := hok
    obtain ⟨hd, g⟩ := gs h1
    exact xb_i2l X hd hk g S
  | ladd =>
    have h1 : xm_s cc (pc, .ladd, a, b, ts, v) rest 1 = true := hok
    obtain ⟨hd, g⟩ := gs h1
    exact xb_ladd X hd hk g S
  | lsub =>
    have h1 : xm_s cc (pc, .lsub, a, b, ts, v) rest 1 = true := hok
    obtain ⟨hd, g⟩ := gs h1
    exact xb_lsub X hd hk g S
  | lmul =>
    have h1 : xm_s cc (pc, .lmul, a, b, ts, v) rest 1 = true := hok
    obtain ⟨hd, g⟩ := gs h1
    exact xb_lmul X hd hk g S
  | land =>
    have h1 : xm_s cc (pc, .land, a, b, ts, v) rest 1 = true := hok
    obtain ⟨hd, g⟩ := gs h1
    exact xb_land X hd hk g S
  | lor =>
    have h1 : xm_s cc (pc, .lor, a, b, ts, v) rest 1 = true := hok
    obtain ⟨hd, g⟩ := gs h1
    exact xb_lor X hd hk g S
  | ldiv =>
    have h1 : xm_s cc (pc, .ldiv, a, b, ts, v) rest 1 = true := hok
    obtain ⟨hd, g⟩ := gs h1
    exact xb_ldiv X hd hk g S
  | lrem =>
    have h1 : xm_s cc (pc, .lrem, a, b, ts, v) rest 1 = true := hok
    obtain ⟨hd, g⟩ := gs h1
    exact xb_lrem X hd hk g S
  | iaload =>
    have h1 : xm_s cc (pc, .iaload, a, b, ts, v) rest 1 = true := hok
    obtain ⟨hd, g⟩ := gs h1
    exact xb_iaload X hd hk g S
  | baload =>
    have h1 : xm_s cc (pc, .baload, a, b, ts, v) rest 1 = true := hok
    obtain ⟨hd, g⟩ := gs h1
    exact xb_baload X hd hk g S
  | laload =>
    have h1 : xm_s cc (pc, .laload, a, b, ts, v) rest 1 = true := hok
    obtain ⟨hd, g⟩ := gs h1
    exact xb_laload X hd hk g S
  | aaload =>
    have h1 : xm_s cc (pc, .aaload, a, b, ts, v) rest 1 = true := hok
    obtain ⟨hd, g⟩ := gs h1
    exact xb_aaload X hd hk g S
  | iastore =>
    have h1 : xm_s cc (pc, .iastore, a, b, ts, v) rest 1 = true := hok
    obtain ⟨hd, g⟩ := gs h1
    exact xb_iastore X hd hk g S
  | bastore =>
    have h1 : xm_s cc (pc, .bastore, a, b, ts, v) rest 1 = true := hok
    obtain ⟨hd, g⟩ := gs h1
    exact xb_bastore X hd hk g S
  | lastore =>
    have h1 : xm_s cc (pc, .lastore, a, b, ts, v) rest 1 = true := hok
    obtain ⟨hd, g⟩ := gs h1
    exact xb_lastore X hd hk g S
  | aastore =>
    have h1 : xm_s cc (pc, .aastore, a, b, ts, v) rest 1 = true := hok
    obtain ⟨hd, g⟩ := gs h1
    exact xb_aastore X hd hk g S
  | arraylength =>
    have h1 : xm_s cc (pc, .arraylength, a, b, ts, v) rest 1 = true := hok
    obtain ⟨hd, g⟩ := gs h1
    exact xb_arraylength X hd hk g S
  | ineg =>
    have h1 : xm_s cc (pc, .ineg, a, b, ts, v) rest 1 = true := hok
    obtain ⟨hd, g⟩ := gs h1
    replace hk : (match (generalizing := false) st with
      | w :: st => xm_conc E w (fun E x => xm_frc (-x) (fun z => ih rest lv (.int z :: st) G E kc ks))
      | _ => false) = true := hk
    split at hk
    · exact xb_ineg X hd hk g S
    · cases hk
  | l2i =>
    have h1 : xm_s cc (pc, .l2i, a, b, ts, v) rest 1 = true := hok
    obtain ⟨hd, g⟩ := gs h1
    replace hk : (match (generalizing := false) st with
      | .long x :: st => xm_frc x.toInt32 (fun z => ih rest lv (.int z :: st) G E kc ks)
      | _ => false) = true := hk
    split at hk
    · exact xb_l2i X hd hk g S
    · cases hk
  | lshl =>
    have h1 : xm_s cc (pc, .lshl, a, b, ts, v) rest 1 = true := hok
    obtain ⟨hd, g⟩ := gs h1
    replace hk : (match (generalizing := false) st with
      | .int y :: .long x :: st => ih rest lv (.long (x <<< (y.toInt64 &&& 63)) :: st) G E kc ks
      | _ => false) = true := hk
    split at hk
    · exact xb_lshl X hd hk g S
    · cases hk
  | lshr =>
    have h1 : xm_s cc (pc, .lshr, a, b, ts, v) rest 1 = true := hok
    obtain ⟨hd, g⟩ := gs h1
    replace hk : (match (generalizing := false) st with
      | .int y :: .long x :: st => ih rest lv (.long (x >>> (y.toInt64 &&& 63)) :: st) G E kc ks
      | _ => false) = true := hk
    split at hk
    · exact xb_lshr X hd hk g S
    · cases hk
  | lcmp =>
    have h1 : xm_s cc (pc, .lcmp, a, b, ts, v) rest 1 = true := hok
    obtain ⟨hd, g⟩ := gs h1
    replace hk : (match (generalizing := false) st with
      | w :: u :: st => xm_cmpL E u w (fun E s => ih rest lv (.int (Int32.ofInt s) :: st) G E kc ks)
      | _ => false) = true := hk
    split at hk
    · exact xb_lcmp X hd hk g S
    · cases hk
  | dup =>
    have h1 : xm_s cc (pc, .dup, a, b, ts, v) rest 1 = true := hok
    obtain ⟨hd, g⟩ := gs h1
    replace hk : (match (generalizing := false) st with
      | w :: st => bif xm_cat1 w then ih rest lv (w :: w :: st) G E kc ks else false
      | _ => false) = true := hk
    split at hk
    · rename_i w st'
      cases hI : xm_cat1 w with
      | false => rw [hI] at hk; cases hk
      | true =>
        rw [hI, cond_true] at hk
        exact xb_dup X hd hI hk g S
    · cases hk
  | pop =>
    have h1 : xm_s cc (pc, .pop, a, b, ts, v) rest 1 = true := hok
    obtain ⟨hd, g⟩ := gs h1
    replace hk : (match (generalizing := false) st with
      | w :: st => bif xm_cat1 w then ih rest lv st G E kc ks else false
      | _ => false) = true := hk
    split at hk
    · rename_i w st'
      cases hI : xm_cat1 w with
      | false => rw [hI] at hk; cases hk
      | true =>
        rw [hI, cond_true] at hk
        exact xb_pop X hd hI hk g S
    · cases hk
  | dup2 =>
    have h1 : xm_s cc (pc, .dup2, a, b, ts, v) rest 1 = true := hok
    obtain ⟨hd, g⟩ := gs h1
    replace hk : (match (generalizing := false) st with
      | w :: u :: st => bif xm_cat1 w && xm_cat1 u then ih rest lv (w :: u :: w :: u :: st) G E kc ks else false
      | _ => false) = true := hk
    split at hk
    · rename_i w u st'
      cases hI : (xm_cat1 w && xm_cat1 u) with
      | false => rw [hI] at hk; cases hk
      | true =>
        rw [hI, cond_true] at hk
        rw [Bool.and_eq_true] at hI
        exact xb_dup2 X hd hI.1 hI.2 hk g S
    · cases hk
  | goto off =>
    have hok : (xm_dc cc (pc, .goto off, a, b, ts, v) 3 && xm_tg full a pc off) = true := hok
    rw [Bool.and_eq_true] at hok
    obtain ⟨tgt, ht, gt⟩ := gj hok.2
    have hd : decode cc pc = .ok (.goto off, 3) := of_decide_eq_true hok.1
    exact xb_goto X hd ht hk gt S
  | ifCond cnd off =>
    have hok : (xm_s cc (pc, .ifCond cnd off, a, b, ts, v) rest 3 && xm_tg full a pc off) = true := hok
    rw [Bool.and_eq_true] at hok
    obtain ⟨h1, h2⟩ := hok
    obtain ⟨hd, g⟩ := gs h1
    obtain ⟨tgt, ht, gt⟩ := gj h2
    replace hk : (match (generalizing := false) st with
      | w :: st => xm_cmpI E w (.int 0) (fun E s => bif xm_holds cnd s then ih (xm_drop a full) lv st G E kc ks else ih rest lv st G E kc ks)
      | _ => false) = true := hk
    split at hk
    · cases cnd with
      | eq => exact xb_ifCond_eq X hd ht hk gt g S
      | ne => exact xb_ifCond_ne X hd ht hk gt g S
      | lt => exact xb_ifCond_lt X hd ht hk gt g S
      | ge => exact xb_ifCond_ge X hd ht hk gt g S
      | gt => exact xb_ifCond_gt X hd ht hk gt g S
      | le => exact xb_ifCond_le X hd ht hk gt g S
    · cases hk
  | if_icmp cnd off =>
    have hok : (xm_s cc (pc, .if_icmp cnd off, a, b, ts, v) rest 3 && xm_tg full a pc off) = true := hok
    rw [Bool.and_eq_true] at hok
    obtain ⟨h1, h2⟩ := hok
    obtain ⟨hd, g⟩ := gs h1
    obtain ⟨tgt, ht, gt⟩ := gj h2
    replace hk : (match (generalizing := false) st with
      | w :: u :: st => xm_cmpI E u w (fun E s => bif xm_holds cnd s then ih (xm_drop a full) lv st G E kc ks else ih rest lv st G E kc ks)
      | _ => false) = true := hk
    split at hk
    · cases cnd with
      | eq => exact xb_if_icmp_eq X hd ht hk gt g S
      | ne => exact xb_if_icmp_ne X hd ht hk gt g S
      | lt => exact xb_if_icmp_lt X hd ht hk gt g S
      | ge => exact xb_if_icmp_ge X hd ht hk gt g S
      | gt => exact xb_if_icmp_gt X hd ht hk gt g S
      | le => exact xb_if_icmp_le X hd ht hk gt g S
    · cases hk
  | ifnull off =>
    have hok : (xm_s cc (pc, .ifnull off, a, b, ts, v) rest 3 && xm_tg full a pc off) = true := hok
    rw [Bool.and_eq_true] at hok
    obtain ⟨h1, h2⟩ := hok
    obtain ⟨hd, g⟩ := gs h1
    obtain ⟨tgt, ht, gt⟩ := gj h2
    replace hk : (match (generalizing := false) st with
      | .ref _ :: st => ih rest lv st G E kc ks
      | .null :: st => ih (xm_drop a full) lv st G E kc ks
      | _ => false) = true := hk
    split at hk
    · exact xb_ifnull_r X hd ht hk gt g S
    · exact xb_ifnull_n X hd ht hk gt g S
    · cases hk
  | ifnonnull off =>
    have hok : (xm_s cc (pc, .ifnonnull off, a, b, ts, v) rest 3 && xm_tg full a pc off) = true := hok
    rw [Bool.and_eq_true] at hok
    obtain ⟨h1, h2⟩ := hok
    obtain ⟨hd, g⟩ := gs h1
    obtain ⟨tgt, ht, gt⟩ := gj h2
    replace hk : (match (generalizing := false) st with
      | .ref _ :: st => ih (xm_drop a full) lv st G E kc ks
      | .null :: st => ih rest lv st G E kc ks
      | _ => false) = true := hk
    split at hk
    · exact xb_ifnonnull_r X hd ht hk gt g S
    · exact xb_ifnonnull_n X hd ht hk gt g S
    · cases hk
  | tableswitch dd lo hi offs =>
    have hok : (xm_dw cc (pc, .tableswitch dd lo hi offs, a, b, ts, v) && (xm_tg full a pc dd && (xm_tgs full pc offs.toList ts && decide (hi + 1 = lo + Int.ofNat (xm_len ts))))) = true := hok
    simp only [Bool.and_eq_true, decide_eq_true_eq] at hok
    obtain ⟨h1, h2, h3, h4⟩ := hok
    rw [xl_len] at h4
    obtain ⟨len, hd⟩ := xs_dw h1
    replace hk : (match (generalizing := false) st with
      | w :: st => xm_table lo a ts w E (fun E t => ih (xm_drop t full) lv st G E kc ks)
      | _ => false) = true := hk
    split at hk
    · exact xb_tableswitch X hd h2 h3 h4 hk hjump S
    · cases hk
  | lookupswitch dd ps =>
    have hok : (xm_dw cc (pc, .lookupswitch dd ps, a, b, ts, v) && (xm_tg full a pc dd && (xm_tgs full pc (ps.toList.map (fun q => q.2)) ts && (ps.toList.zip (ps.toList.drop 1)).all (fun (a, next) => a.1 < next.1)))) = true := hok
    rw [Bool.and_eq_true, Bool.and_eq_true, Bool.and_eq_true] at hok
    obtain ⟨h1, h2, h3, h4⟩ := hok
    obtain ⟨len, hd⟩ := xs_dw h1
    replace hk : (match (generalizing := false) st with
      | .int x :: st => ih (xm_drop (xm_look a ps.toList ts x.toInt) full) lv st G E kc ks
      | _ => false) = true := hk
    split at hk
    · exact xb_lookupswitch X hd h2 h3 h4 hk hjump S
    · cases hk
  | newarray t =>
    have hok : (xm_s cc (pc, .newarray t, a, b, ts, v) rest 2 && (Nat.beq a (xm_atyp t) && Nat.ble 100 a)) = true := hok
    rw [Bool.and_eq_true] at hok
    obtain ⟨h1, h2⟩ := hok
    obtain ⟨hd, g⟩ := gs h1
    rw [Bool.and_eq_true] at h2
    exact xb_newarray X hd (Nat.eq_of_beq_eq_true h2.1) (Nat.le_of_ble_eq_true h2.2) hR.2.2 hk g S
  | anewarray i =>
    have hok : (xm_s cc (pc, .anewarray i, a, b, ts, v) rest 3 && (match xm_ofA a with
      | some c => xm_at2 (xm_cl o) (i, c)
      | none => false)) = true := hok
    rw [Bool.and_eq_true] at hok
    obtain ⟨h1, h2⟩ := hok
    obtain ⟨hd, g⟩ := gs h1
    exact xb_anewarray X hd h2 hR.2.2 hk g S
  | new i =>
    have hok : (xm_s cc (pc, .new i, a, b, ts, v) rest 3 && xm_at2 (xm_cl o) (i, a)) = true := hok
    rw [Bool.and_eq_true] at hok
    obtain ⟨h1, h2⟩ := hok
    obtain ⟨hd, g⟩ := gs h1
    replace hk : (match xm_nth xm_cls a with
      | some (_, _, n) => bif Nat.ble (kc + 1) mc && Nat.ble (ks + n) ms then ih rest lv (.ref G.1 :: st) (xm_push G (a, xm_def a)) E (kc + 1) (ks + n) else false
      | none => false) = true := hk
    rw [xl_nth] at hk
    cases hr : xm_cls[a]? with
    | none => rw [hr] at hk; cases hk
    | some r =>
      rw [hr] at hk
      obtain ⟨C, TT, NN⟩ := r
      dsimp only at hk
      cases hc : (Nat.ble (kc + 1) mc && Nat.ble (ks + NN) ms) with
      | false => rw [hc] at hk; cases hk
      | true =>
        rw [hc, cond_true] at hk
        rw [Bool.and_eq_true] at hc
        exact xb_new X hd h2 hr hR.2.2 (Nat.le_of_ble_eq_true hc.1) (Nat.le_of_ble_eq_true hc.2) hk g S
  | getfield i =>
    have hok : (xm_s cc (pc, .getfield i, a, b, ts, v) rest 3 && xm_at3 (xm_fl o) (i, a, b)) = true := hok
    rw [Bool.and_eq_true] at hok
    obtain ⟨h1, h2⟩ := hok
    obtain ⟨hd, g⟩ := gs h1
    exact xb_getfield X hd h2 hk g S
  | putfield i =>
    have hok : (xm_s cc (pc, .putfield i, a, b, ts, v) rest 3 && (xm_at3 (xm_fl o) (i, a, b) && (!(xm_fin a b) || (ini && xm_mine a o)))) = true := hok
    rw [Bool.and_eq_true] at hok
    obtain ⟨h1, h2⟩ := hok
    obtain ⟨hd, g⟩ := gs h1
    rw [Bool.and_eq_true] at h2
    replace hk : (match (generalizing := false) st with
      | w :: .ref j :: st => (match xm_hget G j with
        | some (t, vs) => bif Nat.beq t a && (Nat.ble 7 j && (xm_fit (xm_ty t b) w && Nat.blt b (xm_len vs))) then ih rest lv st (xm_hput G j (t, xm_put w vs b)) E kc ks else false
        | none => false)
      | _ => false) = true := hk
    split at hk
    · rename_i w j st'
      cases h0 : xm_hget G j with
      | none => rw [h0] at hk; cases hk
      | some q =>
        obtain ⟨t, vs⟩ := q
        rw [h0] at hk
        dsimp only at hk
        cases hc : (Nat.beq t a && (Nat.ble 7 j && (xm_fit (xm_ty t b) w && Nat.blt b (xm_len vs)))) with
        | false => rw [hc] at hk; cases hk
        | true =>
          rw [hc, cond_true, xl_put] at hk
          rw [Bool.and_eq_true, Bool.and_eq_true, Bool.and_eq_true, xl_len] at hc
          exact xb_putfield X hd h2.1 hini h2.2 h0 (Nat.eq_of_beq_eq_true hc.1) (Nat.le_of_ble_eq_true hc.2.1) hc.2.2.1 (Nat.le_of_ble_eq_true hc.2.2.2) hk g S
    · cases hk
  | invokevirtual i =>
    have hok : (xm_s cc (pc, .invokevirtual i, a, b, ts, v) rest 3 && xm_at3 (xm_ml o) (i, a, 0)) = true := hok
    rw [Bool.and_eq_true] at hok
    obtain ⟨h1, h2⟩ := hok
    obtain ⟨hd, g⟩ := gs h1
    have hfR : kc ≤ R.cells ∧ ks ≤ R.slots := ⟨Nat.le_trans hfit.1 hR.2.2.1, Nat.le_trans hfit.2 hR.2.2.2⟩
    replace hk : (bif Nat.beq a 1006 || Nat.beq a 1007 then xm_strl a st G (fun st => ih rest lv st G E kc ks) else xm_call call mc ms a 0 st G E kc ks (fun st G E kc ks => ih rest lv st G E kc ks)) = true := hk
    cases c6 : Nat.beq a 1006 with
    | true =>
      have c6 := Nat.eq_of_beq_eq_true c6
      subst c6
      exact xb_slen X hd h2 ⟨hR.1, hR.2.1⟩ hfR hk g S
    | false =>
      cases c7 : Nat.beq a 1007 with
      | true =>
        have c7 := Nat.eq_of_beq_eq_true c7
        subst c7
        exact xb_schar X hd h2 ⟨hR.1, hR.2.1⟩ hfR hk g S
      | false =>
        rw [c6, c7, Bool.false_or, cond_false] at hk
        exact xb_call (b := 0) X (Or.inl rfl) hd h2 hR hC hk g S
  | invokestatic i =>
    have hfR : kc ≤ R.cells ∧ ks ≤ R.slots := ⟨Nat.le_trans hfit.1 hR.2.2.1, Nat.le_trans hfit.2 hR.2.2.2⟩
    cases cM : (Nat.beq a 1003 || (Nat.beq a 1004 || Nat.beq a 1005)) with
    | true =>
      have hok : (bif Nat.beq a 1003 || (Nat.beq a 1004 || Nat.beq a 1005) then xm_s cc (pc, .invokestatic i, a, b, ts, v) rest 3 && xm_at3 (xm_ml o) (i, a, 0) else xm_okE o ini cc full rest (pc, .invokestatic i, a, b, ts, v)) = true := hok
      rw [cM, cond_true, Bool.and_eq_true] at hok
      obtain ⟨h1, h2⟩ := hok
      obtain ⟨hd, g⟩ := gs h1
      rw [Bool.or_eq_true, Bool.or_eq_true] at cM
      rcases cM with c3 | c3 | c3
      · have c3 := Nat.eq_of_beq_eq_true c3
        subst c3
        exact xb_max X hd h2 ⟨hR.1, hR.2.1⟩ hfR hk g S
      · have c3 := Nat.eq_of_beq_eq_true c3
        subst c3
        exact xb_min X hd h2 ⟨hR.1, hR.2.1⟩ hfR hk g S
      · have c3 := Nat.eq_of_beq_eq_true c3
        subst c3
        exact xb_abs X hd h2 ⟨hR.1, hR.2.1⟩ hfR hk g S
    | false =>
      have hok : (bif Nat.beq a 1003 || (Nat.beq a 1004 || Nat.beq a 1005) then xm_s cc (pc, .invokestatic i, a, b, ts, v) rest 3 && xm_at3 (xm_ml o) (i, a, 0) else xm_okE o ini cc full rest (pc, .invokestatic i, a, b, ts, v)) = true := hok
      rw [cM, cond_false] at hok
      have hok : (xm_s cc (pc, .invokestatic i, a, b, ts, v) rest 3 && (bif Nat.beq a 1001 then xm_at3 (xm_ml o) (i, 1001, 0) else bif Nat.beq a 1002 then true else bif Nat.beq b 3 then xm_at3 (xm_ml o) (i, a, 3) else xm_at3 (xm_ml o) (i, a, 1))) = true := hok
      rw [Bool.and_eq_true] at hok
      obtain ⟨h1, h2⟩ := hok
      obtain ⟨hd, g⟩ := gs h1
      replace hk : (bif Nat.beq a 1001 then xm_acopy st G (fun st G => ih rest lv st G E kc ks) else bif Nat.beq a 1003 || (Nat.beq a 1004 || Nat.beq a 1005) then xm_math a st (fun st => ih rest lv st G E kc ks) else bif Nat.beq b 3 then xm_call call mc ms a 3 st G E kc ks (fun st G E kc ks => ih rest lv st G E kc ks) else xm_call call mc ms a 1 st G E kc ks (fun st G E kc ks => ih rest lv st G E kc ks)) = true := hk
      cases c1 : Nat.beq a 1001 with
      | true =>
        rw [c1, cond_true] at hk h2
        exact xb_arraycopy X hd h2 ⟨by omega, by omega⟩ hk g S
      | false =>
        rw [c1, cond_false, cM, cond_false] at hk
        rw [c1, cond_false] at h2
        cases c0 : Nat.beq a 1002 with
        | true =>
          have c0 := Nat.eq_of_beq_eq_true c0
          subst c0
          have hn : ∀ bb, xm_call call mc ms 1002 bb st G E kc ks (fun st G E kc ks => ih rest lv st G E kc ks) = false := by
            intro bb
            unfold xm_call
            rw [xl_nth, List.getElem?_eq_none (by rw [xn_mlen]; decide)]
          rw [hn, hn] at hk
          cases hb3 : Nat.beq b 3 with
          | true => rw [hb3] at hk; cases hk
          | false => rw [hb3] at hk; cases hk
        | false =>
        rw [c0, cond_false] at h2
        cases c2 : Nat.beq b 3 with
        | true =>
          rw [c2, cond_true] at hk h2
          exact xb_call (b := 3) X (Or.inr (Or.inr (Or.inr (Or.inl rfl)))) hd h2 hR hC hk g S
        | false =>
          rw [c2, cond_false] at hk h2
          exact xb_call (b := 1) X (Or.inr (Or.inl rfl)) hd h2 hR hC hk g S
  | invokespecial i =>
    have hok : (xm_s cc (pc, .invokespecial i, a, b, ts, v) rest 3 && (bif Nat.beq a 1000 then xm_at3 (xm_ml o) (i, 1000, 0) else bif Nat.beq b 4 then xm_at3 (xm_ml o) (i, a, 4) else xm_at3 (xm_ml o) (i, a, 2))) = true := hok
    rw [Bool.and_eq_true] at hok
    obtain ⟨h1, h2⟩ := hok
    obtain ⟨hd, g⟩ := gs h1
    replace hk : (bif Nat.beq a 1000 then (match (generalizing := false) st with
        | .ref _ :: st => bif Nat.ble (xm_cats st) 8 then ih rest lv st G E kc ks else false
        | _ => false)
      else bif Nat.beq b 4 then xm_call call mc ms a 4 st G E kc ks (fun st G E kc ks => ih rest lv st G E kc ks) else xm_call call mc ms a 2 st G E kc ks (fun st G E kc ks => ih rest lv st G E kc ks)) = true := hk
    cases c1 : Nat.beq a 1000 with
    | true =>
      rw [c1, cond_true] at hk h2
      split at hk
      · rename_i j st'
        cases c2 : Nat.ble (xm_cats st') 8 with
        | false => rw [c2] at hk; cases hk
        | true =>
          rw [c2, cond_true] at hk
          have c2 : xm_cats st' ≤ 8 := Nat.le_of_ble_eq_true c2
          obtain ⟨q, hq, e1, e2, e3⟩ := xs_at3 h2
          have h4 := List.all_eq_true.mp (xk_ml o X.2.2.2.2.2.2) q hq
          unfold xm_mlok at h4
          rw [e1, e2] at h4
          have h4 : xm_w q.2.2.2 (.methodLink (xm_own o) i objectInit) = true := h4
          refine W.objInit X.1 X.2.1 X.2.2.2.1 (xs_word X h4) (xs_word X xk_a8) (X.2.2.2.2.1 _ xk_oc) rfl (by rw [X.2.2.1]; exact S.2.2.1.1) (rest := st'.map (xs_cv Z)) rfl hd (by omega) ?_ (g lv st' G E kc ks hk H locs ls S)
          rw [xs_cats]
          show 2 * 0 + xm_cats st' + 12 ≤ R.locals
          omega
      · cases hk
    | false =>
      rw [c1, cond_false] at hk h2
      cases c2 : Nat.beq b 4 with
      | true =>
        rw [c2, cond_true] at hk h2
        exact xb_call (b := 4) X (Or.inr (Or.inr (Or.inr (Or.inr rfl)))) hd h2 hR hC hk g S
      | false =>
        rw [c2, cond_false] at hk h2
        exact xb_call (b := 2) X (Or.inr (Or.inr (Or.inl rfl))) hd h2 hR hC hk g S
  | ireturn =>
    have hd : decode cc pc = .ok (.ireturn, 1) := of_decide_eq_true hok
    replace hk : (match (generalizing := false) st with
      | [w] => bif xm_isI w && (xm_rok ret w && (Nat.ble kc mc && Nat.ble ks ms)) then Q (some w) G E else false
      | _ => false) = true := hk
    split at hk
    · rename_i w
      cases hc : (xm_isI w && (xm_rok ret w && (Nat.ble kc mc && Nat.ble ks ms))) with
      | false => rw [hc] at hk; cases hk
      | true =>
        rw [hc, cond_true] at hk
        rw [Bool.and_eq_true, Bool.and_eq_true, Bool.and_eq_true] at hc
        exact hret pc .ireturn (some w) [w] kc ks lv G E H locs ls hd (Or.inl ⟨rfl, w, rfl, rfl, hc.1, hc.2.1⟩) hk (Nat.le_of_ble_eq_true hc.2.2.1) (Nat.le_of_ble_eq_true hc.2.2.2) S
    · cases hk
  | lreturn =>
    have hd : decode cc pc = .ok (.lreturn, 1) := of_decide_eq_true hok
    replace hk : (match (generalizing := false) st with
      | [w] => bif xm_isL w && (xm_rok ret w && (Nat.ble kc mc && Nat.ble ks ms)) then Q (some w) G E else false
      | _ => false) = true := hk
    split at hk
    · rename_i w
      cases hc : (xm_isL w && (xm_rok ret w && (Nat.ble kc mc && Nat.ble ks ms))) with
      | false => rw [hc] at hk; cases hk
      | true =>
        rw [hc, cond_true] at hk
        rw [Bool.and_eq_true, Bool.and_eq_true, Bool.and_eq_true] at hc
        exact hret pc .lreturn (some w) [w] kc ks lv G E H locs ls hd (Or.inr <| Or.inl ⟨rfl, w, rfl, rfl, hc.1, hc.2.1⟩) hk (Nat.le_of_ble_eq_true hc.2.2.1) (Nat.le_of_ble_eq_true hc.2.2.2) S
    · cases hk
  | areturn =>
    have hd : decode cc pc = .ok (.areturn, 1) := of_decide_eq_true hok
    replace hk : (match (generalizing := false) st with
      | [w] => bif xm_isA w && (xm_rok ret w && (Nat.ble kc mc && Nat.ble ks ms)) then Q (some w) G E else false
      | _ => false) = true := hk
    split at hk
    · rename_i w
      cases hc : (xm_isA w && (xm_rok ret w && (Nat.ble kc mc && Nat.ble ks ms))) with
      | false => rw [hc] at hk; cases hk
      | true =>
        rw [hc, cond_true] at hk
        rw [Bool.and_eq_true, Bool.and_eq_true, Bool.and_eq_true] at hc
        exact hret pc .areturn (some w) [w] kc ks lv G E H locs ls hd (Or.inr <| Or.inr <| Or.inl ⟨rfl, w, rfl, rfl, hc.1, hc.2.1⟩) hk (Nat.le_of_ble_eq_true hc.2.2.1) (Nat.le_of_ble_eq_true hc.2.2.2) S
    · cases hk
  | return_ =>
    have hd : decode cc pc = .ok (.return_, 1) := of_decide_eq_true hok
    replace hk : (match (generalizing := false) st with
      | [] => bif ret.isNone && (Nat.ble kc mc && Nat.ble ks ms) then Q none G E else false
      | _ => false) = true := hk
    split at hk
    · cases hc : (ret.isNone && (Nat.ble kc mc && Nat.ble ks ms)) with
      | false => rw [hc] at hk; cases hk
      | true =>
        rw [hc, cond_true] at hk
        rw [Bool.and_eq_true, Bool.and_eq_true] at hc
        exact hret pc .return_ none [] kc ks lv G E H locs ls hd (Or.inr <| Or.inr <| Or.inr ⟨rfl, rfl, rfl, Option.isNone_iff_eq_none.mp hc.1⟩) hk (Nat.le_of_ble_eq_true hc.2.1) (Nat.le_of_ble_eq_true hc.2.2) S
    · cases hk
  | _ =>
    replace hk : false = true := hk
    cases hk
end XI
