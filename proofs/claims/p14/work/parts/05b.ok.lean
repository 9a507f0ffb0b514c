/-! is a code list what the bytes say, and do its numbers mean what the tables say -/
noncomputable def xm_nx (rest : List xm_E) (pc : Nat) : Bool := match rest with
  | e :: _ => Nat.beq e.1 pc
  | [] => false
noncomputable def xm_tg (full : List xm_E) (a pc : Nat) (off : Int) : Bool := match xm_drop a full with
  | e :: _ => decide ((pc : Int) + off = (e.1 : Int))
  | [] => false
noncomputable def xm_tgs (full : List xm_E) (pc : Nat) (offs : List Int) : List Nat → Bool :=
  List.rec (motive := fun _ => List Nat → Bool) (fun ts => match ts with
    | [] => true
    | _ => false) (fun o _ ih ts => match ts with
    | t :: ts => xm_tg full t pc o && ih ts
    | [] => false) offs
def xm_dc (cc : ByteArray) (e : xm_E) (n : Nat) : Bool := decide (decode cc e.1 = .ok (e.2.1, n))
def xm_dw (cc : ByteArray) (e : xm_E) : Bool := match decode cc e.1 with
  | .ok (i, _) => decide (i = e.2.1)
  | .error _ => false
/-- a straight instruction of n bytes -/
noncomputable def xm_s (cc : ByteArray) (e : xm_E) (rest : List xm_E) (n : Nat) : Bool := xm_dc cc e n && xm_nx rest (e.1 + n)
def xm_at3 (l : List (Nat × Nat × Nat × Nat)) (q : Nat × Nat × Nat) : Bool := l.any (fun r => Nat.beq r.1 q.1 && (Nat.beq r.2.1 q.2.1 && Nat.beq r.2.2.1 q.2.2))
def xm_at2 (l : List (Nat × Nat × Nat)) (q : Nat × Nat) : Bool := l.any (fun r => Nat.beq r.1 q.1 && Nat.beq r.2.1 q.2)
def xm_atk (l : List (Nat × Value × Nat)) (i : Nat) (v : Value) : Bool := l.any (fun r => Nat.beq r.1 i && decide (r.2.1 = v))
def xm_fin (a b : Nat) : Bool := match xm_cls[a]? with
  | some r => (r.2.1 b).2.2.2
  | none => true
def xm_mine (a o : Nat) : Bool := match xm_cls[a]? with
  | some r => decide (r.1 = xm_own o)
  | none => false
def xm_atyp (t : ArrayType) : Nat := match t with
  | .int => 100
  | .byte => 101
  | .long => 102
  | .boolean => 103
  | _ => 0
def xm_ki (v : Value) : Bool := match v with
  | .int _ => true
  | .ref _ => true
  | _ => false
def xm_kii (v : Value) : Bool := match v with
  | .int _ => true
  | _ => false
def xm_kll (v : Value) : Bool := match v with
  | .long _ => true
  | _ => false
noncomputable def xm_okE (o : Nat) (ini : Bool) (cc : ByteArray) (full rest : List xm_E) (e : xm_E) : Bool := match e.2.1 with
  | .iconst n => xm_s cc e rest 1 && decide (e.2.2.2.2.2 = .int (Int32.ofInt n))
  | .bipush n => xm_s cc e rest 2 && decide (e.2.2.2.2.2 = .int (Int8.ofInt n).toInt32)
  | .sipush n => xm_s cc e rest 3 && decide (e.2.2.2.2.2 = .int (Int16.ofInt n).toInt32)
  | .lconst n => xm_s cc e rest 1 && decide (e.2.2.2.2.2 = .long (Int64.ofNat (n : Nat)))
  | .aconst_null => xm_s cc e rest 1 && decide (e.2.2.2.2.2 = .null)
  | .ldc i => xm_s cc e rest 2 && (xm_atk (xm_kl o) i e.2.2.2.2.2 && xm_ki e.2.2.2.2.2)
  | .ldc_w i => xm_s cc e rest 3 && (xm_atk (xm_kl o) i e.2.2.2.2.2 && xm_kii e.2.2.2.2.2)
  | .ldc2_w i => xm_s cc e rest 3 && (xm_atk (xm_kl o) i e.2.2.2.2.2 && xm_kll e.2.2.2.2.2)
  | .iload i => xm_s cc e rest 2 && Nat.beq e.2.2.1 i
  | .lload i => xm_s cc e rest 2 && Nat.beq e.2.2.1 i
  | .aload i => xm_s cc e rest 2 && Nat.beq e.2.2.1 i
  | .istore i => xm_s cc e rest 2 && Nat.beq e.2.2.1 i
  | .lstore i => xm_s cc e rest 2 && Nat.beq e.2.2.1 i
  | .astore i => xm_s cc e rest 2 && Nat.beq e.2.2.1 i
  | .iload_n i => xm_s cc e rest 1 && Nat.beq e.2.2.1 (i : Nat)
  | .lload_n i => xm_s cc e rest 1 && Nat.beq e.2.2.1 (i : Nat)
  | .aload_n i => xm_s cc e rest 1 && Nat.beq e.2.2.1 (i : Nat)
  | .istore_n i => xm_s cc e rest 1 && Nat.beq e.2.2.1 (i : Nat)
  | .lstore_n i => xm_s cc e rest 1 && Nat.beq e.2.2.1 (i : Nat)
  | .astore_n i => xm_s cc e rest 1 && Nat.beq e.2.2.1 (i : Nat)
  | .iinc i _ => xm_s cc e rest 3 && Nat.beq e.2.2.1 i
  | .iadd | .isub | .imul | .iand | .ior | .ixor | .ishl | .ishr | .iushr | .idiv | .irem | .ineg | .i2b | .i2l | .l2i => xm_s cc e rest 1
  | .ladd | .lsub | .lmul | .land | .lor | .ldiv | .lrem | .lshl | .lshr | .lcmp | .dup | .pop | .dup2 => xm_s cc e rest 1
  | .iaload | .baload | .laload | .aaload | .iastore | .bastore | .lastore | .aastore | .arraylength => xm_s cc e rest 1
  | .goto off => xm_dc cc e 3 && xm_tg full e.2.2.1 e.1 off
  | .ifCond _ off => xm_s cc e rest 3 && xm_tg full e.2.2.1 e.1 off
  | .if_icmp _ off => xm_s cc e rest 3 && xm_tg full e.2.2.1 e.1 off
  | .ifnull off => xm_s cc e rest 3 && xm_tg full e.2.2.1 e.1 off
  | .ifnonnull off => xm_s cc e rest 3 && xm_tg full e.2.2.1 e.1 off
  | .tableswitch d lo hi offs => xm_dw cc e && (xm_tg full e.2.2.1 e.1 d && (xm_tgs full e.1 offs.toList e.2.2.2.2.1 && decide (hi + 1 = lo + Int.ofNat (xm_len e.2.2.2.2.1))))
  | .lookupswitch d ps => xm_dw cc e && (xm_tg full e.2.2.1 e.1 d && (xm_tgs full e.1 (ps.toList.map (fun q => q.2)) e.2.2.2.2.1 && (ps.toList.zip (ps.toList.drop 1)).all (fun (a, next) => a.1 < next.1)))
  | .newarray t => xm_s cc e rest 2 && (Nat.beq e.2.2.1 (xm_atyp t) && Nat.ble 100 e.2.2.1)
  | .anewarray i => xm_s cc e rest 3 && (match xm_ofA e.2.2.1 with
    | some c => xm_at2 (xm_cl o) (i, c)
    | none => false)
  | .new i => xm_s cc e rest 3 && xm_at2 (xm_cl o) (i, e.2.2.1)
  | .getfield i => xm_s cc e rest 3 && xm_at3 (xm_fl o) (i, e.2.2.1, e.2.2.2.1)
  | .putfield i => xm_s cc e rest 3 && (xm_at3 (xm_fl o) (i, e.2.2.1, e.2.2.2.1) && (!(xm_fin e.2.2.1 e.2.2.2.1) || (ini && xm_mine e.2.2.1 o)))
  | .invokevirtual i => xm_s cc e rest 3 && xm_at3 (xm_ml o) (i, e.2.2.1, 0)
  | .invokestatic i => xm_s cc e rest 3 && (bif Nat.beq e.2.2.1 1001 then xm_at3 (xm_ml o) (i, 1001, 0) else bif Nat.beq e.2.2.1 1002 then true else bif Nat.beq e.2.2.2.1 3 then xm_at3 (xm_ml o) (i, e.2.2.1, 3) else xm_at3 (xm_ml o) (i, e.2.2.1, 1))
  | .invokespecial i => xm_s cc e rest 3 && (bif Nat.beq e.2.2.1 1000 then xm_at3 (xm_ml o) (i, 1000, 0) else bif Nat.beq e.2.2.2.1 4 then xm_at3 (xm_ml o) (i, e.2.2.1, 4) else xm_at3 (xm_ml o) (i, e.2.2.1, 2))
  | .ireturn | .lreturn | .areturn | .return_ => xm_dc cc e 1
  | _ => true
noncomputable def xm_okC (o : Nat) (ini : Bool) (cc : ByteArray) (full : List xm_E) (suf : List xm_E) : Bool :=
  List.rec (motive := fun _ => Bool) true (fun e rest ih => xm_okE o ini cc full rest e && ih) suf
noncomputable def xm_okM (r : xm_M) : Bool := Nat.blt r.1 17 && (decide (r.2.1.cls = xm_own r.1) && xm_okC r.1 (decide (r.2.1.name = "<init>")) r.2.2.1 r.2.2.2.2.2.2.2.2 r.2.2.2.2.2.2.2.2)
noncomputable def xm_okR (o : Nat) (ini : Bool) (cc : ByteArray) (full : List xm_E) (n : Nat) : List xm_E → Bool :=
  Nat.rec (motive := fun _ => List xm_E → Bool) (fun _ => true) (fun _ ih suf => List.rec (motive := fun _ => Bool) true (fun e rest _ => xm_okE o ini cc full rest e && ih rest) suf) n
theorem xl_okR {o : Nat} {ini : Bool} {cc : ByteArray} {full : List xm_E} : ∀ (n : Nat) (suf : List xm_E), xm_okR o ini cc full n suf = true → xm_okC o ini cc full (xm_drop n suf) = true → xm_okC o ini cc full suf = true
  | 0, suf, _, h => h
  | n + 1, [], _, h => h
  | n + 1, e :: suf, h1, h2 => by
    have h3 : (xm_okE o ini cc full suf e && xm_okR o ini cc full n suf) = true := h1
    have h4 : xm_okC o ini cc full (xm_drop n suf) = true := h2
    rw [Bool.and_eq_true] at h3
    show (xm_okE o ini cc full suf e && xm_okC o ini cc full suf) = true
    rw [h3.1, xl_okR n suf h3.2 h4]
    rfl
theorem xl_dropdrop {α : Type} (a b : Nat) (l : List α) : xm_drop a (xm_drop b l) = xm_drop (b + a) l := by
  rw [xl_drop, xl_drop, xl_drop, List.drop_drop]
/-- a piece of a method's check -/
noncomputable def xm_okP (r : xm_M) (n k : Nat) : Bool := xm_okR r.1 (decide (r.2.1.name = "<init>")) r.2.2.1 r.2.2.2.2.2.2.2.2 n (xm_drop k r.2.2.2.2.2.2.2.2)
theorem xl_okP {r : xm_M} (n k : Nat) (h1 : xm_okP r n k = true) (h2 : xm_okC r.1 (decide (r.2.1.name = "<init>")) r.2.2.1 r.2.2.2.2.2.2.2.2 (xm_drop (k + n) r.2.2.2.2.2.2.2.2) = true) : xm_okC r.1 (decide (r.2.1.name = "<init>")) r.2.2.1 r.2.2.2.2.2.2.2.2 (xm_drop k r.2.2.2.2.2.2.2.2) = true := by
  refine xl_okR n _ h1 ?_
  rw [xl_dropdrop]
  exact h2
theorem xl_okM {r : xm_M} (h1 : Nat.blt r.1 17 = true) (h2 : decide (r.2.1.cls = xm_own r.1) = true) (h3 : xm_okC r.1 (decide (r.2.1.name = "<init>")) r.2.2.1 r.2.2.2.2.2.2.2.2 (xm_drop 0 r.2.2.2.2.2.2.2.2) = true) : xm_okM r = true := by
  have h3 : xm_okC r.1 (decide (r.2.1.name = "<init>")) r.2.2.1 r.2.2.2.2.2.2.2.2 r.2.2.2.2.2.2.2.2 = true := h3
  unfold xm_okM
  rw [h1, h2, h3]
  rfl
