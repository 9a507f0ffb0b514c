/-! is a code list what the bytes say: with Math's methods -/
noncomputable def xn_okE (o : Nat) (ini : Bool) (cc : ByteArray) (full rest : List xm_E) (e : xm_E) : Bool := match e.2.1 with
  | .invokestatic i => bif Nat.beq e.2.2.1 1003 || (Nat.beq e.2.2.1 1004 || Nat.beq e.2.2.1 1005) then xm_s cc e rest 3 && xm_at3 (xm_ml o) (i, e.2.2.1, 0) else xm_okE o ini cc full rest e
  | _ => xm_okE o ini cc full rest e
noncomputable def xn_okC (o : Nat) (ini : Bool) (cc : ByteArray) (full : List xm_E) (suf : List xm_E) : Bool :=
  List.rec (motive := fun _ => Bool) true (fun e rest ih => xn_okE o ini cc full rest e && ih) suf
noncomputable def xn_okM (r : xm_M) : Bool := Nat.blt r.1 17 && (decide (r.2.1.cls = xm_own r.1) && xn_okC r.1 (decide (r.2.1.name = "<init>")) r.2.2.1 r.2.2.2.2.2.2.2.2 r.2.2.2.2.2.2.2.2)
noncomputable def xn_okR (o : Nat) (ini : Bool) (cc : ByteArray) (full : List xm_E) (n : Nat) : List xm_E → Bool :=
  Nat.rec (motive := fun _ => List xm_E → Bool) (fun _ => true) (fun _ ih suf => List.rec (motive := fun _ => Bool) true (fun e rest _ => xn_okE o ini cc full rest e && ih rest) suf) n
theorem xn_lR {o : Nat} {ini : Bool} {cc : ByteArray} {full : List xm_E} : ∀ (n : Nat) (suf : List xm_E), xn_okR o ini cc full n suf = true → xn_okC o ini cc full (xm_drop n suf) = true → xn_okC o ini cc full suf = true
  | 0, suf, _, h => h
  | n + 1, [], _, h => h
  | n + 1, e :: suf, h1, h2 => by
    have h3 : (xn_okE o ini cc full suf e && xn_okR o ini cc full n suf) = true := h1
    have h4 : xn_okC o ini cc full (xm_drop n suf) = true := h2
    rw [Bool.and_eq_true] at h3
    show (xn_okE o ini cc full suf e && xn_okC o ini cc full suf) = true
    rw [h3.1, xn_lR n suf h3.2 h4]
    rfl
/-- a piece of a method's check -/
noncomputable def xn_okP (r : xm_M) (n k : Nat) : Bool := xn_okR r.1 (decide (r.2.1.name = "<init>")) r.2.2.1 r.2.2.2.2.2.2.2.2 n (xm_drop k r.2.2.2.2.2.2.2.2)
theorem xn_lP {r : xm_M} (n k : Nat) (h1 : xn_okP r n k = true) (h2 : xn_okC r.1 (decide (r.2.1.name = "<init>")) r.2.2.1 r.2.2.2.2.2.2.2.2 (xm_drop (k + n) r.2.2.2.2.2.2.2.2) = true) : xn_okC r.1 (decide (r.2.1.name = "<init>")) r.2.2.1 r.2.2.2.2.2.2.2.2 (xm_drop k r.2.2.2.2.2.2.2.2) = true := by
  refine xn_lR n _ h1 ?_
  rw [xl_dropdrop]
  exact h2
theorem xn_lM {r : xm_M} (h1 : Nat.blt r.1 17 = true) (h2 : decide (r.2.1.cls = xm_own r.1) = true) (h3 : xn_okC r.1 (decide (r.2.1.name = "<init>")) r.2.2.1 r.2.2.2.2.2.2.2.2 (xm_drop 0 r.2.2.2.2.2.2.2.2) = true) : xn_okM r = true := by
  have h3 : xn_okC r.1 (decide (r.2.1.name = "<init>")) r.2.2.1 r.2.2.2.2.2.2.2.2 r.2.2.2.2.2.2.2.2 = true := h3
  unfold xn_okM
  rw [h1, h2, h3]
  rfl
