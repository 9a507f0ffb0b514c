/-! completeness: where the little machine ends, the flat one does -/
def zokm (m : Nat) : Bool := Nat.blt 0 m && (Nat.blt m 241 && !([1, 11, 16, 20, 35, 41, 58, 65, 74, 78, 87, 124].contains m))
/-- an instruction that the flat machine doesn't refuse -/
def zck (e : xm_E) : Bool := match e.2.1 with
  | .iconst _ | .bipush _ | .sipush _ | .lconst _ | .aconst_null | .ldc _ | .ldc_w _ | .ldc2_w _ => zp e.2.2.2.2.2
  | .putfield _ => Nat.blt e.2.2.1 12 && (Nat.blt e.2.2.2.1 40 && (match zoff e.2.2.1 e.2.2.2.1 with
    | some _ => false
    | none => true))
  | .invokevirtual _ => Nat.beq e.2.2.1 1006 || (Nat.beq e.2.2.1 1007 || zokm e.2.2.1)
  | .invokestatic _ => Nat.beq e.2.2.1 1001 || (Nat.beq e.2.2.1 1003 || (Nat.beq e.2.2.1 1004 || (Nat.beq e.2.2.1 1005 || zokm e.2.2.1)))
  | .invokespecial _ => zokm e.2.2.1
  | .new _ | .newarray _ | .anewarray _ | .aastore => false
  | _ => true
def zSx (suf : List xm_E) : Prop := ∀ e ∈ suf, zck e = true
def zJH (full : List xm_E) (ih1 : List xm_E → xm_K) (nL : Nat) (E : xm_R) (Pq : Int × zS → Prop) : Prop := ∀ (suf : List xm_E), zSx suf → ∀ (lv : xm_L) (st : List Value) (G : xm_H) (kc ks : Nat) (lz : List Int) (zst : List zV) (s : zS), zL lv lz → lz.length = nL → zsr st zst → zR G s → ih1 suf lv st G E kc ks = true → ∃ F res, zm_run F full suf lz zst s = some res ∧ Pq res
section ZX
variable {call : xm_C} {full rest : List xm_E} {nL mc ms : Nat} {ret : Option FieldType} {Q1 : xm_Q} {ih1 : List xm_E → xm_K} {Pq : Int × zS → Prop} {pc a b : Nat} {ts : List Nat} {v : Value} {lv : xm_L} {st : List Value} {G : xm_H} {E : xm_R} {kc ks : Nat} {lz : List Int} {zst : List zV} {s : zS}
theorem zx_iadd  (hS1 : zSx rest) (hS2 : ∀ k, zSx (xm_drop k full)) (hi : zJH full ih1 nL E Pq) (hl : zL lv lz) (hn : lz.length = nL) (hs : zsr st zst) (hR : zR G s) (h : xm_body call full nL mc ms ret Q1 ih1 (pc, .iadd, a, b, ts, v) rest lv st G E kc ks = true) : ∃ F res, zm_body (zm_run F full) (zm_call (zm_run F) full) zrt none full (pc, .iadd, a, b, ts, v) rest lz zst s = some res ∧ Pq res := by
  have h : xm_int2 .iadd st E (fun st E => ih1 rest lv st G E kc ks) = true := h
  obtain ⟨w, u, st', zst', rfl, rfl, pw, pu, ⟨y, x, rfl, rfl⟩, ht⟩ := zs_2 (P := zPI) hs (f := fun st => xm_int2 .iadd st E (fun st E => ih1 rest lv st G E kc ks)) h rfl (fun w => by cases w <;> rfl) (fun w u st hw hu e => by cases w <;> cases u <;> first | rfl | (cases hw; done) | (cases hu; done) | exact absurd ⟨_, _, rfl, rfl⟩ e)
  have k0 : ∀ k : List Value → xm_R → Bool, xm_int2 .iadd (.int y :: .int x :: st') E k = k (.int (x + y) :: st') E := fun k => by show xm_int2 .iadd (.int y :: .int x :: st') E k = _; exact ys_fi2 rfl
  rw [k0] at h
  exact hi rest hS1 lv _ G kc ks lz _ s hl hn (zsr_c (b := false) (x := zw (x.toInt + y.toInt)) (by rfl) (by rfl) (by exact zw_add x y) ht) hR h
theorem zx_isub  (hS1 : zSx rest) (hS2 : ∀ k, zSx (xm_drop k full)) (hi : zJH full ih1 nL E Pq) (hl : zL lv lz) (hn : lz.length = nL) (hs : zsr st zst) (hR : zR G s) (h : xm_body call full nL mc ms ret Q1 ih1 (pc, .isub, a, b, ts, v) rest lv st G E kc ks = true) : ∃ F res, zm_body (zm_run F full) (zm_call (zm_run F) full) zrt none full (pc, .isub, a, b, ts, v) rest lz zst s = some res ∧ Pq res := by
  have h : xm_int2 .isub st E (fun st E => ih1 rest lv st G E kc ks) = true := h
  obtain ⟨w, u, st', zst', rfl, rfl, pw, pu, ⟨y, x, rfl, rfl⟩, ht⟩ := zs_2 (P := zPI) hs (f := fun st => xm_int2 .isub st E (fun st E => ih1 rest lv st G E kc ks)) h rfl (fun w => by cases w <;> rfl) (fun w u st hw hu e => by cases w <;> cases u <;> first | rfl | (cases hw; done) | (cases hu; done) | exact absurd ⟨_, _, rfl, rfl⟩ e)
  have k0 : ∀ k : List Value → xm_R → Bool, xm_int2 .isub (.int y :: .int x :: st') E k = k (.int (x - y) :: st') E := fun k => by show xm_int2 .isub (.int y :: .int x :: st') E k = _; exact ys_fi2 rfl
  rw [k0] at h
  exact hi rest hS1 lv _ G kc ks lz _ s hl hn (zsr_c (b := false) (x := zw (x.toInt - y.toInt)) (by rfl) (by rfl) (by exact zw_sub x y) ht) hR h
theorem zx_imul  (hS1 : zSx rest) (hS2 : ∀ k, zSx (xm_drop k full)) (hi : zJH full ih1 nL E Pq) (hl : zL lv lz) (hn : lz.length = nL) (hs : zsr st zst) (hR : zR G s) (h : xm_body call full nL mc ms ret Q1 ih1 (pc, .imul, a, b, ts, v) rest lv st G E kc ks = true) : ∃ F res, zm_body (zm_run F full) (zm_call (zm_run F) full) zrt none full (pc, .imul, a, b, ts, v) rest lz zst s = some res ∧ Pq res := by
  have h : xm_int2 .imul st E (fun st E => ih1 rest lv st G E kc ks) = true := h
  obtain ⟨w, u, st', zst', rfl, rfl, pw, pu, ⟨y, x, rfl, rfl⟩, ht⟩ := zs_2 (P := zPI) hs (f := fun st => xm_int2 .imul st E (fun st E => ih1 rest lv st G E kc ks)) h rfl (fun w => by cases w <;> rfl) (fun w u st hw hu e => by cases w <;> cases u <;> first | rfl | (cases hw; done) | (cases hu; done) | exact absurd ⟨_, _, rfl, rfl⟩ e)
  have k0 : ∀ k : List Value → xm_R → Bool, xm_int2 .imul (.int y :: .int x :: st') E k = k (.int (x * y) :: st') E := fun k => by show xm_int2 .imul (.int y :: .int x :: st') E k = _; exact ys_fi2 rfl
  rw [k0] at h
  exact hi rest hS1 lv _ G kc ks lz _ s hl hn (zsr_c (b := false) (x := zw (x.toInt * y.toInt)) (by rfl) (by rfl) (by exact zw_mul x y) ht) hR h
theorem zx_iand  (hS1 : zSx rest) (hS2 : ∀ k, zSx (xm_drop k full)) (hi : zJH full ih1 nL E Pq) (hl : zL lv lz) (hn : lz.length = nL) (hs : zsr st zst) (hR : zR G s) (h : xm_body call full nL mc ms ret Q1 ih1 (pc, .iand, a, b, ts, v) rest lv st G E kc ks = true) : ∃ F res, zm_body (zm_run F full) (zm_call (zm_run F) full) zrt none full (pc, .iand, a, b, ts, v) rest lz zst s = some res ∧ Pq res := by
  have h : xm_iand st E (fun st E => ih1 rest lv st G E kc ks) = true := h
  obtain ⟨w, u, st', zst', rfl, rfl, pw, pu, ⟨y, x, rfl, rfl⟩, ht⟩ := zs_2 (P := zPI) hs (f := fun st => xm_iand st E (fun st E => ih1 rest lv st G E kc ks)) h rfl (fun w => by cases w <;> rfl) (fun w u st hw hu e => by cases w <;> cases u <;> first | rfl | (cases hw; done) | (cases hu; done) | exact absurd ⟨_, _, rfl, rfl⟩ e)
  have k0 : ∀ k : List Value → xm_R → Bool, xm_iand (.int y :: .int x :: st') E k = k (.int (x &&& y) :: st') E := fun k => by show xm_int2 .iand (.int y :: .int x :: st') E k = _; exact ys_fi2 rfl
  rw [k0] at h
  exact hi rest hS1 lv _ G kc ks lz _ s hl hn (zsr_c (b := false) (x := zand x.toInt y.toInt) (by rfl) (by rfl) (by unfold zand; rw [Int32.ofInt_toInt, Int32.ofInt_toInt]; rfl) ht) hR h
theorem zx_ior  (hS1 : zSx rest) (hS2 : ∀ k, zSx (xm_drop k full)) (hi : zJH full ih1 nL E Pq) (hl : zL lv lz) (hn : lz.length = nL) (hs : zsr st zst) (hR : zR G s) (h : xm_body call full nL mc ms ret Q1 ih1 (pc, .ior, a, b, ts, v) rest lv st G E kc ks = true) : ∃ F res, zm_body (zm_run F full) (zm_call (zm_run F) full) zrt none full (pc, .ior, a, b, ts, v) rest lz zst s = some res ∧ Pq res := by
  have h : xm_int2 .ior st E (fun st E => ih1 rest lv st G E kc ks) = true := h
  obtain ⟨w, u, st', zst', rfl, rfl, pw, pu, ⟨y, x, rfl, rfl⟩, ht⟩ := zs_2 (P := zPI) hs (f := fun st => xm_int2 .ior st E (fun st E => ih1 rest lv st G E kc ks)) h rfl (fun w => by cases w <;> rfl) (fun w u st hw hu e => by cases w <;> cases u <;> first | rfl | (cases hw; done) | (cases hu; done) | exact absurd ⟨_, _, rfl, rfl⟩ e)
  have k0 : ∀ k : List Value → xm_R → Bool, xm_int2 .ior (.int y :: .int x :: st') E k = k (.int (x ||| y) :: st') E := fun k => by show xm_int2 .ior (.int y :: .int x :: st') E k = _; exact ys_fi2 rfl
  rw [k0] at h
  exact hi rest hS1 lv _ G kc ks lz _ s hl hn (zsr_c (b := false) (x := zor x.toInt y.toInt) (by rfl) (by rfl) (by unfold zor; rw [Int32.ofInt_toInt, Int32.ofInt_toInt]; rfl) ht) hR h
theorem zx_ixor  (hS1 : zSx rest) (hS2 : ∀ k, zSx (xm_drop k full)) (hi : zJH full ih1 nL E Pq) (hl : zL lv lz) (hn : lz.length = nL) (hs : zsr st zst) (hR : zR G s) (h : xm_body call full nL mc ms ret Q1 ih1 (pc, .ixor, a, b, ts, v) rest lv st G E kc ks = true) : ∃ F res, zm_body (zm_run F full) (zm_call (zm_run F) full) zrt none full (pc, .ixor, a, b, ts, v) rest lz zst s = some res ∧ Pq res := by
  have h : xm_int2 .ixor st E (fun st E => ih1 rest lv st G E kc ks) = true := h
  obtain ⟨w, u, st', zst', rfl, rfl, pw, pu, ⟨y, x, rfl, rfl⟩, ht⟩ := zs_2 (P := zPI) hs (f := fun st => xm_int2 .ixor st E (fun st E => ih1 rest lv st G E kc ks)) h rfl (fun w => by cases w <;> rfl) (fun w u st hw hu e => by cases w <;> cases u <;> first | rfl | (cases hw; done) | (cases hu; done) | exact absurd ⟨_, _, rfl, rfl⟩ e)
  have k0 : ∀ k : List Value → xm_R → Bool, xm_int2 .ixor (.int y :: .int x :: st') E k = k (.int (x ^^^ y) :: st') E := fun k => by show xm_int2 .ixor (.int y :: .int x :: st') E k = _; exact ys_fi2 rfl
  rw [k0] at h
  exact hi rest hS1 lv _ G kc ks lz _ s hl hn (zsr_c (b := false) (x := zxor x.toInt y.toInt) (by rfl) (by rfl) (by unfold zxor; rw [Int32.ofInt_toInt, Int32.ofInt_toInt]; rfl) ht) hR h
theorem zx_ishl  (hS1 : zSx rest) (hS2 : ∀ k, zSx (xm_drop k full)) (hi : zJH full ih1 nL E Pq) (hl : zL lv lz) (hn : lz.length = nL) (hs : zsr st zst) (hR : zR G s) (h : xm_body call full nL mc ms ret Q1 ih1 (pc, .ishl, a, b, ts, v) rest lv st G E kc ks = true) : ∃ F res, zm_body (zm_run F full) (zm_call (zm_run F) full) zrt none full (pc, .ishl, a, b, ts, v) rest lz zst s = some res ∧ Pq res := by
  have h : xm_int2 .ishl st E (fun st E => ih1 rest lv st G E kc ks) = true := h
  obtain ⟨w, u, st', zst', rfl, rfl, pw, pu, ⟨y, x, rfl, rfl⟩, ht⟩ := zs_2 (P := zPI) hs (f := fun st => xm_int2 .ishl st E (fun st E => ih1 rest lv st G E kc ks)) h rfl (fun w => by cases w <;> rfl) (fun w u st hw hu e => by cases w <;> cases u <;> first | rfl | (cases hw; done) | (cases hu; done) | exact absurd ⟨_, _, rfl, rfl⟩ e)
  have k0 : ∀ k : List Value → xm_R → Bool, xm_int2 .ishl (.int y :: .int x :: st') E k = k (.int (x <<< (y &&& 31)) :: st') E := fun k => by show xm_int2 .ishl (.int y :: .int x :: st') E k = _; exact ys_fi2 rfl
  rw [k0] at h
  exact hi rest hS1 lv _ G kc ks lz _ s hl hn (zsr_c (b := false) (x := zshl x.toInt y.toInt) (by rfl) (by rfl) (by unfold zshl; rw [Int32.ofInt_toInt, Int32.ofInt_toInt]; rfl) ht) hR h
theorem zx_ishr  (hS1 : zSx rest) (hS2 : ∀ k, zSx (xm_drop k full)) (hi : zJH full ih1 nL E Pq) (hl : zL lv lz) (hn : lz.length = nL) (hs : zsr st zst) (hR : zR G s) (h : xm_body call full nL mc ms ret Q1 ih1 (pc, .ishr, a, b, ts, v) rest lv st G E kc ks = true) : ∃ F res, zm_body (zm_run F full) (zm_call (zm_run F) full) zrt none full (pc, .ishr, a, b, ts, v) rest lz zst s = some res ∧ Pq res := by
  have h : xm_ishr st E (fun st E => ih1 rest lv st G E kc ks) = true := h
  obtain ⟨w, u, st', zst', rfl, rfl, pw, pu, ⟨y, x, rfl, rfl⟩, ht⟩ := zs_2 (P := zPI) hs (f := fun st => xm_ishr st E (fun st E => ih1 rest lv st G E kc ks)) h rfl (fun w => by cases w <;> rfl) (fun w u st hw hu e => by cases w <;> cases u <;> first | rfl | (cases hw; done) | (cases hu; done) | exact absurd ⟨_, _, rfl, rfl⟩ e)
  have k0 : ∀ k : List Value → xm_R → Bool, xm_ishr (.int y :: .int x :: st') E k = k (.int (x >>> (y &&& 31)) :: st') E := fun k => by show xm_int2 .ishr (.int y :: .int x :: st') E k = _; exact ys_fi2 rfl
  rw [k0] at h
  exact hi rest hS1 lv _ G kc ks lz _ s hl hn (zsr_c (b := false) (x := zshr x.toInt y.toInt) (by rfl) (by rfl) (by unfold zshr; rw [Int32.ofInt_toInt, Int32.ofInt_toInt]; rfl) ht) hR h
theorem zx_iushr  (hS1 : zSx rest) (hS2 : ∀ k, zSx (xm_drop k full)) (hi : zJH full ih1 nL E Pq) (hl : zL lv lz) (hn : lz.length = nL) (hs : zsr st zst) (hR : zR G s) (h : xm_body call full nL mc ms ret Q1 ih1 (pc, .iushr, a, b, ts, v) rest lv st G E kc ks = true) : ∃ F res, zm_body (zm_run F full) (zm_call (zm_run F) full) zrt none full (pc, .iushr, a, b, ts, v) rest lz zst s = some res ∧ Pq res := by
  have h : xm_int2 .iushr st E (fun st E => ih1 rest lv st G E kc ks) = true := h
  obtain ⟨w, u, st', zst', rfl, rfl, pw, pu, ⟨y, x, rfl, rfl⟩, ht⟩ := zs_2 (P := zPI) hs (f := fun st => xm_int2 .iushr st E (fun st E => ih1 rest lv st G E kc ks)) h rfl (fun w => by cases w <;> rfl) (fun w u st hw hu e => by cases w <;> cases u <;> first | rfl | (cases hw; done) | (cases hu; done) | exact absurd ⟨_, _, rfl, rfl⟩ e)
  have k0 : ∀ k : List Value → xm_R → Bool, xm_int2 .iushr (.int y :: .int x :: st') E k = k (.int ((x.toUInt32 >>> (y.toUInt32 &&& Int32.toUInt32 31)).toInt32) :: st') E := fun k => by show xm_int2 .iushr (.int y :: .int x :: st') E k = _; exact ys_fi2 rfl
  rw [k0] at h
  exact hi rest hS1 lv _ G kc ks lz _ s hl hn (zsr_c (b := false) (x := zushr x.toInt y.toInt) (by rfl) (by rfl) (by unfold zushr; rw [Int32.ofInt_toInt, Int32.ofInt_toInt]; rfl) ht) hR h
theorem zx_idiv  (hS1 : zSx rest) (hS2 : ∀ k, zSx (xm_drop k full)) (hi : zJH full ih1 nL E Pq) (hl : zL lv lz) (hn : lz.length = nL) (hs : zsr st zst) (hR : zR G s) (h : xm_body call full nL mc ms ret Q1 ih1 (pc, .idiv, a, b, ts, v) rest lv st G E kc ks = true) : ∃ F res, zm_body (zm_run F full) (zm_call (zm_run F) full) zrt none full (pc, .idiv, a, b, ts, v) rest lz zst s = some res ∧ Pq res := by
  have h : xm_int2 .idiv st E (fun st E => ih1 rest lv st G E kc ks) = true := h
  obtain ⟨w, u, st', zst', rfl, rfl, pw, pu, ⟨y, x, rfl, rfl⟩, ht⟩ := zs_2 (P := zPI) hs (f := fun st => xm_int2 .idiv st E (fun st E => ih1 rest lv st G E kc ks)) h rfl (fun w => by cases w <;> rfl) (fun w u st hw hu e => by cases w <;> cases u <;> first | rfl | (cases hw; done) | (cases hu; done) | exact absurd ⟨_, _, rfl, rfl⟩ e)
  by_cases hy : y = 0
  · subst hy
    have h : xm_int2 .idiv (.int 0 :: .int x :: st') E (fun st E => ih1 rest lv st G E kc ks) = true := h
    exact absurd (show false = true from h) (by decide)
  have k0 : ∀ k : List Value → xm_R → Bool, xm_int2 .idiv (.int y :: .int x :: st') E k = k (.int (x / y) :: st') E := fun k => ys_fi2 (by
    show (bif decide (y = 0) then none else some _) = _
    rw [decide_eq_false hy]
    rfl)
  rw [k0] at h
  exact hi rest hS1 lv _ G kc ks lz _ s hl hn (zsr_c (b := false) (x := zdiv x.toInt y.toInt) (by rfl) (by rfl) (by unfold zdiv; rw [Int32.ofInt_toInt, Int32.ofInt_toInt]; rfl) ht) hR h
theorem zx_irem  (hS1 : zSx rest) (hS2 : ∀ k, zSx (xm_drop k full)) (hi : zJH full ih1 nL E Pq) (hl : zL lv lz) (hn : lz.length = nL) (hs : zsr st zst) (hR : zR G s) (h : xm_body call full nL mc ms ret Q1 ih1 (pc, .irem, a, b, ts, v) rest lv st G E kc ks = true) : ∃ F res, zm_body (zm_run F full) (zm_call (zm_run F) full) zrt none full (pc, .irem, a, b, ts, v) rest lz zst s = some res ∧ Pq res := by
  have h : xm_int2 .irem st E (fun st E => ih1 rest lv st G E kc ks) = true := h
  obtain ⟨w, u, st', zst', rfl, rfl, pw, pu, ⟨y, x, rfl, rfl⟩, ht⟩ := zs_2 (P := zPI) hs (f := fun st => xm_int2 .irem st E (fun st E => ih1 rest lv st G E kc ks)) h rfl (fun w => by cases w <;> rfl) (fun w u st hw hu e => by cases w <;> cases u <;> first | rfl | (cases hw; done) | (cases hu; done) | exact absurd ⟨_, _, rfl, rfl⟩ e)
  by_cases hy : y = 0
  · subst hy
    have h : xm_int2 .irem (.int 0 :: .int x :: st') E (fun st E => ih1 rest lv st G E kc ks) = true := h
    exact absurd (show false = true from h) (by decide)
  have k0 : ∀ k : List Value → xm_R → Bool, xm_int2 .irem (.int y :: .int x :: st') E k = k (.int (x - x / y * y) :: st') E := fun k => ys_fi2 (by
    show (bif decide (y = 0) then none else some _) = _
    rw [decide_eq_false hy]
    rfl)
  rw [k0] at h
  exact hi rest hS1 lv _ G kc ks lz _ s hl hn (zsr_c (b := false) (x := zrem x.toInt y.toInt) (by rfl) (by rfl) (by unfold zrem; rw [Int32.ofInt_toInt, Int32.ofInt_toInt]; rfl) ht) hR h
theorem zx_ladd  (hS1 : zSx rest) (hS2 : ∀ k, zSx (xm_drop k full)) (hi : zJH full ih1 nL E Pq) (hl : zL lv lz) (hn : lz.length = nL) (hs : zsr st zst) (hR : zR G s) (h : xm_body call full nL mc ms ret Q1 ih1 (pc, .ladd, a, b, ts, v) rest lv st G E kc ks = true) : ∃ F res, zm_body (zm_run F full) (zm_call (zm_run F) full) zrt none full (pc, .ladd, a, b, ts, v) rest lz zst s = some res ∧ Pq res := by
  have h : xm_long2 .ladd st (fun st => ih1 rest lv st G E kc ks) = true := h
  obtain ⟨w, u, st', zst', rfl, rfl, pw, pu, ⟨y, x, rfl, rfl⟩, ht⟩ := zs_2 (P := zPL) hs (f := fun st => xm_long2 .ladd st (fun st => ih1 rest lv st G E kc ks)) h rfl (fun w => by cases w <;> rfl) (fun w u st hw hu e => by cases w <;> cases u <;> first | rfl | (cases hw; done) | (cases hu; done) | exact absurd ⟨_, _, rfl, rfl⟩ e)
  have h : ih1 rest lv (.long (x + y) :: st') G E kc ks = true := h
  exact hi rest hS1 lv _ G kc ks lz _ s hl hn (zsr_c (b := true) (x := zq (x.toInt + y.toInt)) (by rfl) (by rfl) (by exact zq_add x y) ht) hR h
theorem zx_lsub  (hS1 : zSx rest) (hS2 : ∀ k, zSx (xm_drop k full)) (hi : zJH full ih1 nL E Pq) (hl : zL lv lz) (hn : lz.length = nL) (hs : zsr st zst) (hR : zR G s) (h : xm_body call full nL mc ms ret Q1 ih1 (pc, .lsub, a, b, ts, v) rest lv st G E kc ks = true) : ∃ F res, zm_body (zm_run F full) (zm_call (zm_run F) full) zrt none full (pc, .lsub, a, b, ts, v) rest lz zst s = some res ∧ Pq res := by
  have h : xm_long2 .lsub st (fun st => ih1 rest lv st G E kc ks) = true := h
  obtain ⟨w, u, st', zst', rfl, rfl, pw, pu, ⟨y, x, rfl, rfl⟩, ht⟩ := zs_2 (P := zPL) hs (f := fun st => xm_long2 .lsub st (fun st => ih1 rest lv st G E kc ks)) h rfl (fun w => by cases w <;> rfl) (fun w u st hw hu e => by cases w <;> cases u <;> first | rfl | (cases hw; done) | (cases hu; done) | exact absurd ⟨_, _, rfl, rfl⟩ e)
  have h : ih1 rest lv (.long (x - y) :: st') G E kc ks = true := h
  exact hi rest hS1 lv _ G kc ks lz _ s hl hn (zsr_c (b := true) (x := zq (x.toInt - y.toInt)) (by rfl) (by rfl) (by exact zq_sub x y) ht) hR h
theorem zx_lmul  (hS1 : zSx rest) (hS2 : ∀ k, zSx (xm_drop k full)) (hi : zJH full ih1 nL E Pq) (hl : zL lv lz) (hn : lz.length = nL) (hs : zsr st zst) (hR : zR G s) (h : xm_body call full nL mc ms ret Q1 ih1 (pc, .lmul, a, b, ts, v) rest lv st G E kc ks = true) : ∃ F res, zm_body (zm_run F full) (zm_call (zm_run F) full) zrt none full (pc, .lmul, a, b, ts, v) rest lz zst s = some res ∧ Pq res := by
  have h : xm_long2 .lmul st (fun st => ih1 rest lv st G E kc ks) = true := h
  obtain ⟨w, u, st', zst', rfl, rfl, pw, pu, ⟨y, x, rfl, rfl⟩, ht⟩ := zs_2 (P := zPL) hs (f := fun st => xm_long2 .lmul st (fun st => ih1 rest lv st G E kc ks)) h rfl (fun w => by cases w <;> rfl) (fun w u st hw hu e => by cases w <;> cases u <;> first | rfl | (cases hw; done) | (cases hu; done) | exact absurd ⟨_, _, rfl, rfl⟩ e)
  have h : ih1 rest lv (.long (x * y) :: st') G E kc ks = true := h
  exact hi rest hS1 lv _ G kc ks lz _ s hl hn (zsr_c (b := true) (x := zq (x.toInt * y.toInt)) (by rfl) (by rfl) (by exact zq_mul x y) ht) hR h
theorem zx_land  (hS1 : zSx rest) (hS2 : ∀ k, zSx (xm_drop k full)) (hi : zJH full ih1 nL E Pq) (hl : zL lv lz) (hn : lz.length = nL) (hs : zsr st zst) (hR : zR G s) (h : xm_body call full nL mc ms ret Q1 ih1 (pc, .land, a, b, ts, v) rest lv st G E kc ks = true) : ∃ F res, zm_body (zm_run F full) (zm_call (zm_run F) full) zrt none full (pc, .land, a, b, ts, v) rest lz zst s = some res ∧ Pq res := by
  have h : xm_long2 .land st (fun st => ih1 rest lv st G E kc ks) = true := h
  obtain ⟨w, u, st', zst', rfl, rfl, pw, pu, ⟨y, x, rfl, rfl⟩, ht⟩ := zs_2 (P := zPL) hs (f := fun st => xm_long2 .land st (fun st => ih1 rest lv st G E kc ks)) h rfl (fun w => by cases w <;> rfl) (fun w u st hw hu e => by cases w <;> cases u <;> first | rfl | (cases hw; done) | (cases hu; done) | exact absurd ⟨_, _, rfl, rfl⟩ e)
  have h : ih1 rest lv (.long (x &&& y) :: st') G E kc ks = true := h
  exact hi rest hS1 lv _ G kc ks lz _ s hl hn (zsr_c (b := true) (x := zqand x.toInt y.toInt) (by rfl) (by rfl) (by unfold zqand; rw [Int64.ofInt_toInt, Int64.ofInt_toInt]; rfl) ht) hR h
theorem zx_lor  (hS1 : zSx rest) (hS2 : ∀ k, zSx (xm_drop k full)) (hi : zJH full ih1 nL E Pq) (hl : zL lv lz) (hn : lz.length = nL) (hs : zsr st zst) (hR : zR G s) (h : xm_body call full nL mc ms ret Q1 ih1 (pc, .lor, a, b, ts, v) rest lv st G E kc ks = true) : ∃ F res, zm_body (zm_run F full) (zm_call (zm_run F) full) zrt none full (pc, .lor, a, b, ts, v) rest lz zst s = some res ∧ Pq res := by
  have h : xm_long2 .lor st (fun st => ih1 rest lv st G E kc ks) = true := h
  obtain ⟨w, u, st', zst', rfl, rfl, pw, pu, ⟨y, x, rfl, rfl⟩, ht⟩ := zs_2 (P := zPL) hs (f := fun st => xm_long2 .lor st (fun st => ih1 rest lv st G E kc ks)) h rfl (fun w => by cases w <;> rfl) (fun w u st hw hu e => by cases w <;> cases u <;> first | rfl | (cases hw; done) | (cases hu; done) | exact absurd ⟨_, _, rfl, rfl⟩ e)
  have h : ih1 rest lv (.long (x ||| y) :: st') G E kc ks = true := h
  exact hi rest hS1 lv _ G kc ks lz _ s hl hn (zsr_c (b := true) (x := zqor x.toInt y.toInt) (by rfl) (by rfl) (by unfold zqor; rw [Int64.ofInt_toInt, Int64.ofInt_toInt]; rfl) ht) hR h
theorem zx_ldiv  (hS1 : zSx rest) (hS2 : ∀ k, zSx (xm_drop k full)) (hi : zJH full ih1 nL E Pq) (hl : zL lv lz) (hn : lz.length = nL) (hs : zsr st zst) (hR : zR G s) (h : xm_body call full nL mc ms ret Q1 ih1 (pc, .ldiv, a, b, ts, v) rest lv st G E kc ks = true) : ∃ F res, zm_body (zm_run F full) (zm_call (zm_run F) full) zrt none full (pc, .ldiv, a, b, ts, v) rest lz zst s = some res ∧ Pq res := by
  have h : xm_long2 .ldiv st (fun st => ih1 rest lv st G E kc ks) = true := h
  obtain ⟨w, u, st', zst', rfl, rfl, pw, pu, ⟨y, x, rfl, rfl⟩, ht⟩ := zs_2 (P := zPL) hs (f := fun st => xm_long2 .ldiv st (fun st => ih1 rest lv st G E kc ks)) h rfl (fun w => by cases w <;> rfl) (fun w u st hw hu e => by cases w <;> cases u <;> first | rfl | (cases hw; done) | (cases hu; done) | exact absurd ⟨_, _, rfl, rfl⟩ e)
  by_cases hy : y = 0
  · subst hy
    exact absurd (show false = true from h) (by decide)
  have k0 : ∀ k : List Value → Bool, xm_long2 .ldiv (.long y :: .long x :: st') k = k (.long (x / y) :: st') := fun k => by
    show (match (bif decide (y = 0) then none else some (x / y)) with
      | some z => k (.long z :: st')
      | none => false) = _
    rw [decide_eq_false hy]
    rfl
  rw [k0] at h
  exact hi rest hS1 lv _ G kc ks lz _ s hl hn (zsr_c (b := true) (x := zqdiv x.toInt y.toInt) (by rfl) (by rfl) (by unfold zqdiv; rw [Int64.ofInt_toInt, Int64.ofInt_toInt]; rfl) ht) hR h
theorem zx_lrem  (hS1 : zSx rest) (hS2 : ∀ k, zSx (xm_drop k full)) (hi : zJH full ih1 nL E Pq) (hl : zL lv lz) (hn : lz.length = nL) (hs : zsr st zst) (hR : zR G s) (h : xm_body call full nL mc ms ret Q1 ih1 (pc, .lrem, a, b, ts, v) rest lv st G E kc ks = true) : ∃ F res, zm_body (zm_run F full) (zm_call (zm_run F) full) zrt none full (pc, .lrem, a, b, ts, v) rest lz zst s = some res ∧ Pq res := by
  have h : xm_long2 .lrem st (fun st => ih1 rest lv st G E kc ks) = true := h
  obtain ⟨w, u, st', zst', rfl, rfl, pw, pu, ⟨y, x, rfl, rfl⟩, ht⟩ := zs_2 (P := zPL) hs (f := fun st => xm_long2 .lrem st (fun st => ih1 rest lv st G E kc ks)) h rfl (fun w => by cases w <;> rfl) (fun w u st hw hu e => by cases w <;> cases u <;> first | rfl | (cases hw; done) | (cases hu; done) | exact absurd ⟨_, _, rfl, rfl⟩ e)
  by_cases hy : y = 0
  · subst hy
    exact absurd (show false = true from h) (by decide)
  have k0 : ∀ k : List Value → Bool, xm_long2 .lrem (.long y :: .long x :: st') k = k (.long (x - x / y * y) :: st') := fun k => by
    show (match (bif decide (y = 0) then none else some (x - x / y * y)) with
      | some z => k (.long z :: st')
      | none => false) = _
    rw [decide_eq_false hy]
    rfl
  rw [k0] at h
  exact hi rest hS1 lv _ G kc ks lz _ s hl hn (zsr_c (b := true) (x := zqrem x.toInt y.toInt) (by rfl) (by rfl) (by unfold zqrem; rw [Int64.ofInt_toInt, Int64.ofInt_toInt]; rfl) ht) hR h
theorem zx_lshl  (hS1 : zSx rest) (hS2 : ∀ k, zSx (xm_drop k full)) (hi : zJH full ih1 nL E Pq) (hl : zL lv lz) (hn : lz.length = nL) (hs : zsr st zst) (hR : zR G s) (h : xm_body call full nL mc ms ret Q1 ih1 (pc, .lshl, a, b, ts, v) rest lv st G E kc ks = true) : ∃ F res, zm_body (zm_run F full) (zm_call (zm_run F) full) zrt none full (pc, .lshl, a, b, ts, v) rest lz zst s = some res ∧ Pq res := by
  have h : (match (generalizing := false) st with
    | .int y :: .long x :: st => ih1 rest lv (.long (x <<< (y.toInt64 &&& 63)) :: st) G E kc ks
    | _ => false) = true := h
  obtain ⟨w, u, st', zst', rfl, rfl, pw, pu, ⟨y, x, rfl, rfl⟩, ht⟩ := zs_2 (P := fun w u => ∃ y x, w = .int y ∧ u = .long x) hs (f := fun st => (match (generalizing := false) st with
    | .int y :: .long x :: st => ih1 rest lv (.long (x <<< (y.toInt64 &&& 63)) :: st) G E kc ks
    | _ => false)) h rfl (fun w => by cases w <;> rfl) (fun w u st hw hu e => by cases w <;> cases u <;> first | rfl | (cases hw; done) | (cases hu; done) | exact absurd ⟨_, _, rfl, rfl⟩ e)
  exact hi rest hS1 lv _ G kc ks lz _ s hl hn (zsr_c (b := true) (x := zqshl x.toInt y.toInt) (by rfl) (by rfl) (by unfold zqshl; rw [Int64.ofInt_toInt, Int32.ofInt_toInt]; rfl) ht) hR h
theorem zx_lshr  (hS1 : zSx rest) (hS2 : ∀ k, zSx (xm_drop k full)) (hi : zJH full ih1 nL E Pq) (hl : zL lv lz) (hn : lz.length = nL) (hs : zsr st zst) (hR : zR G s) (h : xm_body call full nL mc ms ret Q1 ih1 (pc, .lshr, a, b, ts, v) rest lv st G E kc ks = true) : ∃ F res, zm_body (zm_run F full) (zm_call (zm_run F) full) zrt none full (pc, .lshr, a, b, ts, v) rest lz zst s = some res ∧ Pq res := by
  have h : (match (generalizing := false) st with
    | .int y :: .long x :: st => ih1 rest lv (.long (x >>> (y.toInt64 &&& 63)) :: st) G E kc ks
    | _ => false) = true := h
  obtain ⟨w, u, st', zst', rfl, rfl, pw, pu, ⟨y, x, rfl, rfl⟩, ht⟩ := zs_2 (P := fun w u => ∃ y x, w = .int y ∧ u = .long x) hs (f := fun st => (match (generalizing := false) st with
    | .int y :: .long x :: st => ih1 rest lv (.long (x >>> (y.toInt64 &&& 63)) :: st) G E kc ks
    | _ => false)) h rfl (fun w => by cases w <;> rfl) (fun w u st hw hu e => by cases w <;> cases u <;> first | rfl | (cases hw; done) | (cases hu; done) | exact absurd ⟨_, _, rfl, rfl⟩ e)
  exact hi rest hS1 lv _ G kc ks lz _ s hl hn (zsr_c (b := true) (x := zqshr x.toInt y.toInt) (by rfl) (by rfl) (by unfold zqshr; rw [Int64.ofInt_toInt, Int32.ofInt_toInt]; rfl) ht) hR h
theorem zx_lcmp  (hS1 : zSx rest) (hS2 : ∀ k, zSx (xm_drop k full)) (hi : zJH full ih1 nL E Pq) (hl : zL lv lz) (hn : lz.length = nL) (hs : zsr st zst) (hR : zR G s) (h : xm_body call full nL mc ms ret Q1 ih1 (pc, .lcmp, a, b, ts, v) rest lv st G E kc ks = true) : ∃ F res, zm_body (zm_run F full) (zm_call (zm_run F) full) zrt none full (pc, .lcmp, a, b, ts, v) rest lz zst s = some res ∧ Pq res := by
  have h : (match (generalizing := false) st with
    | w :: u :: st => xm_cmpL E u w (fun E s => ih1 rest lv (.int (Int32.ofInt s) :: st) G E kc ks)
    | _ => false) = true := h
  obtain ⟨w, u, st', zst', rfl, rfl, pw, pu, ⟨y, x, rfl, rfl⟩, ht⟩ := zs_2 (P := zPL) hs (f := fun st => (match (generalizing := false) st with
    | w :: u :: st => xm_cmpL E u w (fun E s => ih1 rest lv (.int (Int32.ofInt s) :: st) G E kc ks)
    | _ => false)) h rfl (fun w => by cases w <;> rfl) (fun w u st hw hu e => by cases w <;> cases u <;> first | rfl | (cases hw; done) | (cases hu; done) | exact absurd ⟨_, _, rfl, rfl⟩ e)
  have h : ih1 rest lv (.int (Int32.ofInt (xm_sgn x.toInt y.toInt)) :: st') G E kc ks = true := h
  refine hi rest hS1 lv _ G kc ks lz _ s hl hn (zsr_c (b := false) (x := zsg x.toInt y.toInt) rfl rfl ?_ ht) hR h
  show (Int32.ofInt (xm_sgn x.toInt y.toInt)).toInt = zsg x.toInt y.toInt
  unfold xm_sgn zsg
  by_cases e : x.toInt < y.toInt
  · rw [decide_eq_true e, if_pos e]
    rfl
  · rw [decide_eq_false e, if_neg e]
    by_cases e2 : x.toInt = y.toInt
    · rw [decide_eq_true e2, if_pos e2]
      rfl
    · rw [decide_eq_false e2, if_neg e2]
      rfl
theorem zx_ineg  (hS1 : zSx rest) (hS2 : ∀ k, zSx (xm_drop k full)) (hi : zJH full ih1 nL E Pq) (hl : zL lv lz) (hn : lz.length = nL) (hs : zsr st zst) (hR : zR G s) (h : xm_body call full nL mc ms ret Q1 ih1 (pc, .ineg, a, b, ts, v) rest lv st G E kc ks = true) : ∃ F res, zm_body (zm_run F full) (zm_call (zm_run F) full) zrt none full (pc, .ineg, a, b, ts, v) rest lz zst s = some res ∧ Pq res := by
  have h : (match (generalizing := false) st with
    | w :: st => xm_conc E w (fun E x => xm_frc (-x) (fun z => ih1 rest lv (.int z :: st) G E kc ks))
    | _ => false) = true := h
  obtain ⟨w, st', zst', rfl, rfl, pw, ⟨x, rfl⟩, ht⟩ := zs_1 (P := fun w => ∃ x, w = .int x) hs (f := fun st => (match (generalizing := false) st with
    | w :: st => xm_conc E w (fun E x => xm_frc (-x) (fun z => ih1 rest lv (.int z :: st) G E kc ks))
    | _ => false)) h rfl (fun w st hw e => by cases w <;> first | rfl | (cases hw; done) | exact absurd ⟨_, rfl⟩ e)
  have h : xm_frc (-x) (fun z => ih1 rest lv (.int z :: st') G E kc ks) = true := h
  rw [xl_frc] at h
  have h : ih1 rest lv (.int (-x) :: st') G E kc ks = true := h
  exact hi rest hS1 lv _ G kc ks lz _ s hl hn (zsr_c (b := false) (x := zw (-x.toInt)) (by rfl) (by rfl) (by exact zw_neg x) ht) hR h
theorem zx_i2b  (hS1 : zSx rest) (hS2 : ∀ k, zSx (xm_drop k full)) (hi : zJH full ih1 nL E Pq) (hl : zL lv lz) (hn : lz.length = nL) (hs : zsr st zst) (hR : zR G s) (h : xm_body call full nL mc ms ret Q1 ih1 (pc, .i2b, a, b, ts, v) rest lv st G E kc ks = true) : ∃ F res, zm_body (zm_run F full) (zm_call (zm_run F) full) zrt none full (pc, .i2b, a, b, ts, v) rest lz zst s = some res ∧ Pq res := by
  have h : xm_i2b st E (fun st E => ih1 rest lv st G E kc ks) = true := h
  obtain ⟨w, st', zst', rfl, rfl, pw, ⟨x, rfl⟩, ht⟩ := zs_1 (P := fun w => ∃ x, w = .int x) hs (f := fun st => xm_i2b st E (fun st E => ih1 rest lv st G E kc ks)) h rfl (fun w st hw e => by cases w <;> first | rfl | (cases hw; done) | exact absurd ⟨_, rfl⟩ e)
  have h : ih1 rest lv (.int x.toInt8.toInt32 :: st') G E kc ks = true := h
  exact hi rest hS1 lv _ G kc ks lz _ s hl hn (zsr_c (b := false) (x := zb x.toInt) (by rfl) (by rfl) (by unfold zb; rw [Int32.ofInt_toInt]; rfl) ht) hR h
theorem zx_i2l  (hS1 : zSx rest) (hS2 : ∀ k, zSx (xm_drop k full)) (hi : zJH full ih1 nL E Pq) (hl : zL lv lz) (hn : lz.length = nL) (hs : zsr st zst) (hR : zR G s) (h : xm_body call full nL mc ms ret Q1 ih1 (pc, .i2l, a, b, ts, v) rest lv st G E kc ks = true) : ∃ F res, zm_body (zm_run F full) (zm_call (zm_run F) full) zrt none full (pc, .i2l, a, b, ts, v) rest lz zst s = some res ∧ Pq res := by
  have h : xm_i2l st (fun st => ih1 rest lv st G E kc ks) = true := h
  obtain ⟨w, st', zst', rfl, rfl, pw, ⟨x, rfl⟩, ht⟩ := zs_1 (P := fun w => ∃ x, w = .int x) hs (f := fun st => xm_i2l st (fun st => ih1 rest lv st G E kc ks)) h rfl (fun w st hw e => by cases w <;> first | rfl | (cases hw; done) | exact absurd ⟨_, rfl⟩ e)
  have h : ih1 rest lv (.long x.toInt64 :: st') G E kc ks = true := h
  exact hi rest hS1 lv _ G kc ks lz _ s hl hn (zsr_c (b := true) (x := x.toInt) (by rfl) (by rfl) (by exact Int32.toInt_toInt64 x) ht) hR h
theorem zx_l2i  (hS1 : zSx rest) (hS2 : ∀ k, zSx (xm_drop k full)) (hi : zJH full ih1 nL E Pq) (hl : zL lv lz) (hn : lz.length = nL) (hs : zsr st zst) (hR : zR G s) (h : xm_body call full nL mc ms ret Q1 ih1 (pc, .l2i, a, b, ts, v) rest lv st G E kc ks = true) : ∃ F res, zm_body (zm_run F full) (zm_call (zm_run F) full) zrt none full (pc, .l2i, a, b, ts, v) rest lz zst s = some res ∧ Pq res := by
  have h : (match (generalizing := false) st with
    | .long x :: st => xm_frc x.toInt32 (fun z => ih1 rest lv (.int z :: st) G E kc ks)
    | _ => false) = true := h
  obtain ⟨w, st', zst', rfl, rfl, pw, ⟨x, rfl⟩, ht⟩ := zs_1 (P := fun w => ∃ x, w = .long x) hs (f := fun st => (match (generalizing := false) st with
    | .long x :: st => xm_frc x.toInt32 (fun z => ih1 rest lv (.int z :: st) G E kc ks)
    | _ => false)) h rfl (fun w st hw e => by cases w <;> first | rfl | (cases hw; done) | exact absurd ⟨_, rfl⟩ e)
  have h : xm_frc x.toInt32 (fun z => ih1 rest lv (.int z :: st') G E kc ks) = true := h
  rw [xl_frc] at h
  have h : ih1 rest lv (.int x.toInt32 :: st') G E kc ks = true := h
  exact hi rest hS1 lv _ G kc ks lz _ s hl hn (zsr_c (b := false) (x := zw x.toInt) (by rfl) (by rfl) (by exact Int64.toInt_toInt32 x) ht) hR h
theorem zx_dup  (hS1 : zSx rest) (hS2 : ∀ k, zSx (xm_drop k full)) (hi : zJH full ih1 nL E Pq) (hl : zL lv lz) (hn : lz.length = nL) (hs : zsr st zst) (hR : zR G s) (h : xm_body call full nL mc ms ret Q1 ih1 (pc, .dup, a, b, ts, v) rest lv st G E kc ks = true) : ∃ F res, zm_body (zm_run F full) (zm_call (zm_run F) full) zrt none full (pc, .dup, a, b, ts, v) rest lz zst s = some res ∧ Pq res := by
  have h : (match (generalizing := false) st with
    | w :: st => bif xm_cat1 w then ih1 rest lv (w :: w :: st) G E kc ks else false
    | _ => false) = true := h
  obtain ⟨w, st', zst', rfl, rfl, pw, e, ht⟩ := zs_1 (P := fun w => xm_cat1 w = true) hs (f := fun st => (match (generalizing := false) st with
    | w :: st => bif xm_cat1 w then ih1 rest lv (w :: w :: st) G E kc ks else false
    | _ => false)) h rfl (fun w st hw e => by show (bif xm_cat1 w then _ else false) = false; rw [Bool.eq_false_iff.mpr e]; rfl)
  dsimp only at h
  rw [e, cond_true] at h
  exact hi rest hS1 lv _ G kc ks lz _ s hl hn (zsr_c pw rfl rfl (zsr_c pw rfl rfl ht)) hR h
theorem zx_pop  (hS1 : zSx rest) (hS2 : ∀ k, zSx (xm_drop k full)) (hi : zJH full ih1 nL E Pq) (hl : zL lv lz) (hn : lz.length = nL) (hs : zsr st zst) (hR : zR G s) (h : xm_body call full nL mc ms ret Q1 ih1 (pc, .pop, a, b, ts, v) rest lv st G E kc ks = true) : ∃ F res, zm_body (zm_run F full) (zm_call (zm_run F) full) zrt none full (pc, .pop, a, b, ts, v) rest lz zst s = some res ∧ Pq res := by
  have h : (match (generalizing := false) st with
    | w :: st => bif xm_cat1 w then ih1 rest lv (st) G E kc ks else false
    | _ => false) = true := h
  obtain ⟨w, st', zst', rfl, rfl, pw, e, ht⟩ := zs_1 (P := fun w => xm_cat1 w = true) hs (f := fun st => (match (generalizing := false) st with
    | w :: st => bif xm_cat1 w then ih1 rest lv (st) G E kc ks else false
    | _ => false)) h rfl (fun w st hw e => by show (bif xm_cat1 w then _ else false) = false; rw [Bool.eq_false_iff.mpr e]; rfl)
  dsimp only at h
  rw [e, cond_true] at h
  exact hi rest hS1 lv _ G kc ks lz _ s hl hn ht hR h
theorem zx_dup2  (hS1 : zSx rest) (hS2 : ∀ k, zSx (xm_drop k full)) (hi : zJH full ih1 nL E Pq) (hl : zL lv lz) (hn : lz.length = nL) (hs : zsr st zst) (hR : zR G s) (h : xm_body call full nL mc ms ret Q1 ih1 (pc, .dup2, a, b, ts, v) rest lv st G E kc ks = true) : ∃ F res, zm_body (zm_run F full) (zm_call (zm_run F) full) zrt none full (pc, .dup2, a, b, ts, v) rest lz zst s = some res ∧ Pq res := by
  have h : (match (generalizing := false) st with
    | w :: u :: st => bif xm_cat1 w && xm_cat1 u then ih1 rest lv (w :: u :: w :: u :: st) G E kc ks else false
    | _ => false) = true := h
  obtain ⟨w, u, st', zst', rfl, rfl, pw, pu, e, ht⟩ := zs_2 (P := fun w u => (xm_cat1 w && xm_cat1 u) = true) hs (f := fun st => (match (generalizing := false) st with
    | w :: u :: st => bif xm_cat1 w && xm_cat1 u then ih1 rest lv (w :: u :: w :: u :: st) G E kc ks else false
    | _ => false)) h rfl (fun _ => rfl) (fun w u st hw hu e => by show (bif xm_cat1 w && xm_cat1 u then _ else false) = false; rw [Bool.eq_false_iff.mpr e]; rfl)
  dsimp only at h
  rw [e, cond_true] at h
  exact hi rest hS1 lv _ G kc ks lz _ s hl hn (zsr_c pw rfl rfl (zsr_c pu rfl rfl (zsr_c pw rfl rfl (zsr_c pu rfl rfl ht)))) hR h
theorem zx_goto {off : Int} (hS1 : zSx rest) (hS2 : ∀ k, zSx (xm_drop k full)) (hi : zJH full ih1 nL E Pq) (hl : zL lv lz) (hn : lz.length = nL) (hs : zsr st zst) (hR : zR G s) (h : xm_body call full nL mc ms ret Q1 ih1 (pc, .goto off, a, b, ts, v) rest lv st G E kc ks = true) : ∃ F res, zm_body (zm_run F full) (zm_call (zm_run F) full) zrt none full (pc, .goto off, a, b, ts, v) rest lz zst s = some res ∧ Pq res := by
  exact hi (xm_drop a full) (hS2 a) lv st G kc ks lz zst s hl hn hs hR h
theorem zx_iload {n : Nat} (hS1 : zSx rest) (hS2 : ∀ k, zSx (xm_drop k full)) (hi : zJH full ih1 nL E Pq) (hl : zL lv lz) (hn : lz.length = nL) (hs : zsr st zst) (hR : zR G s) (h : xm_body call full nL mc ms ret Q1 ih1 (pc, .iload n, a, b, ts, v) rest lv st G E kc ks = true) : ∃ F res, zm_body (zm_run F full) (zm_call (zm_run F) full) zrt none full (pc, .iload n, a, b, ts, v) rest lz zst s = some res ∧ Pq res := by
  have h : (match xm_get lv a with
    | some w => bif xm_isI w then ih1 rest lv (w :: st) G E kc ks else false
    | none => false) = true := h
  cases hg : xm_get lv a with
  | none => rw [hg] at h; cases h
  | some w =>
    rw [hg] at h
    dsimp only at h
    obtain ⟨pw, gw⟩ := zl_get hl hg
    cases e : xm_isI w with
    | false => rw [e] at h; cases h
    | true =>
      rw [e, cond_true] at h
      have el : xm_isL w = false := by cases w <;> first | rfl | (cases e; done) | (cases pw; done)
      exact hi rest hS1 lv (w :: st) G kc ks lz _ s hl hn (zsr_c pw el gw.symm hs) hR h
theorem zx_iload_n {n : Fin 4} (hS1 : zSx rest) (hS2 : ∀ k, zSx (xm_drop k full)) (hi : zJH full ih1 nL E Pq) (hl : zL lv lz) (hn : lz.length = nL) (hs : zsr st zst) (hR : zR G s) (h : xm_body call full nL mc ms ret Q1 ih1 (pc, .iload_n n, a, b, ts, v) rest lv st G E kc ks = true) : ∃ F res, zm_body (zm_run F full) (zm_call (zm_run F) full) zrt none full (pc, .iload_n n, a, b, ts, v) rest lz zst s = some res ∧ Pq res := by
  have h : (match xm_get lv a with
    | some w => bif xm_isI w then ih1 rest lv (w :: st) G E kc ks else false
    | none => false) = true := h
  cases hg : xm_get lv a with
  | none => rw [hg] at h; cases h
  | some w =>
    rw [hg] at h
    dsimp only at h
    obtain ⟨pw, gw⟩ := zl_get hl hg
    cases e : xm_isI w with
    | false => rw [e] at h; cases h
    | true =>
      rw [e, cond_true] at h
      have el : xm_isL w = false := by cases w <;> first | rfl | (cases e; done) | (cases pw; done)
      exact hi rest hS1 lv (w :: st) G kc ks lz _ s hl hn (zsr_c pw el gw.symm hs) hR h
theorem zx_lload {n : Nat} (hS1 : zSx rest) (hS2 : ∀ k, zSx (xm_drop k full)) (hi : zJH full ih1 nL E Pq) (hl : zL lv lz) (hn : lz.length = nL) (hs : zsr st zst) (hR : zR G s) (h : xm_body call full nL mc ms ret Q1 ih1 (pc, .lload n, a, b, ts, v) rest lv st G E kc ks = true) : ∃ F res, zm_body (zm_run F full) (zm_call (zm_run F) full) zrt none full (pc, .lload n, a, b, ts, v) rest lz zst s = some res ∧ Pq res := by
  have h : (match xm_get lv a with
    | some w => bif xm_isL w then ih1 rest lv (w :: st) G E kc ks else false
    | none => false) = true := h
  cases hg : xm_get lv a with
  | none => rw [hg] at h; cases h
  | some w =>
    rw [hg] at h
    dsimp only at h
    obtain ⟨pw, gw⟩ := zl_get hl hg
    cases e : xm_isL w with
    | false => rw [e] at h; cases h
    | true =>
      rw [e, cond_true] at h
      have el : xm_isL w = true := by cases w <;> first | rfl | (cases e; done) | (cases pw; done)
      exact hi rest hS1 lv (w :: st) G kc ks lz _ s hl hn (zsr_c pw el gw.symm hs) hR h
theorem zx_lload_n {n : Fin 4} (hS1 : zSx rest) (hS2 : ∀ k, zSx (xm_drop k full)) (hi : zJH full ih1 nL E Pq) (hl : zL lv lz) (hn : lz.length = nL) (hs : zsr st zst) (hR : zR G s) (h : xm_body call full nL mc ms ret Q1 ih1 (pc, .lload_n n, a, b, ts, v) rest lv st G E kc ks = true) : ∃ F res, zm_body (zm_run F full) (zm_call (zm_run F) full) zrt none full (pc, .lload_n n, a, b, ts, v) rest lz zst s = some res ∧ Pq res := by
  have h : (match xm_get lv a with
    | some w => bif xm_isL w then ih1 rest lv (w :: st) G E kc ks else false
    | none => false) = true := h
  cases hg : xm_get lv a with
  | none => rw [hg] at h; cases h
  | some w =>
    rw [hg] at h
    dsimp only at h
    obtain ⟨pw, gw⟩ := zl_get hl hg
    cases e : xm_isL w with
    | false => rw [e] at h; cases h
    | true =>
      rw [e, cond_true] at h
      have el : xm_isL w = true := by cases w <;> first | rfl | (cases e; done) | (cases pw; done)
      exact hi rest hS1 lv (w :: st) G kc ks lz _ s hl hn (zsr_c pw el gw.symm hs) hR h
theorem zx_aload {n : Nat} (hS1 : zSx rest) (hS2 : ∀ k, zSx (xm_drop k full)) (hi : zJH full ih1 nL E Pq) (hl : zL lv lz) (hn : lz.length = nL) (hs : zsr st zst) (hR : zR G s) (h : xm_body call full nL mc ms ret Q1 ih1 (pc, .aload n, a, b, ts, v) rest lv st G E kc ks = true) : ∃ F res, zm_body (zm_run F full) (zm_call (zm_run F) full) zrt none full (pc, .aload n, a, b, ts, v) rest lz zst s = some res ∧ Pq res := by
  have h : (match xm_get lv a with
    | some w => bif xm_isA w then ih1 rest lv (w :: st) G E kc ks else false
    | none => false) = true := h
  cases hg : xm_get lv a with
  | none => rw [hg] at h; cases h
  | some w =>
    rw [hg] at h
    dsimp only at h
    obtain ⟨pw, gw⟩ := zl_get hl hg
    cases e : xm_isA w with
    | false => rw [e] at h; cases h
    | true =>
      rw [e, cond_true] at h
      have el : xm_isL w = false := by cases w <;> first | rfl | (cases e; done) | (cases pw; done)
      exact hi rest hS1 lv (w :: st) G kc ks lz _ s hl hn (zsr_c pw el gw.symm hs) hR h
theorem zx_aload_n {n : Fin 4} (hS1 : zSx rest) (hS2 : ∀ k, zSx (xm_drop k full)) (hi : zJH full ih1 nL E Pq) (hl : zL lv lz) (hn : lz.length = nL) (hs : zsr st zst) (hR : zR G s) (h : xm_body call full nL mc ms ret Q1 ih1 (pc, .aload_n n, a, b, ts, v) rest lv st G E kc ks = true) : ∃ F res, zm_body (zm_run F full) (zm_call (zm_run F) full) zrt none full (pc, .aload_n n, a, b, ts, v) rest lz zst s = some res ∧ Pq res := by
  have h : (match xm_get lv a with
    | some w => bif xm_isA w then ih1 rest lv (w :: st) G E kc ks else false
    | none => false) = true := h
  cases hg : xm_get lv a with
  | none => rw [hg] at h; cases h
  | some w =>
    rw [hg] at h
    dsimp only at h
    obtain ⟨pw, gw⟩ := zl_get hl hg
    cases e : xm_isA w with
    | false => rw [e] at h; cases h
    | true =>
      rw [e, cond_true] at h
      have el : xm_isL w = false := by cases w <;> first | rfl | (cases e; done) | (cases pw; done)
      exact hi rest hS1 lv (w :: st) G kc ks lz _ s hl hn (zsr_c pw el gw.symm hs) hR h
theorem zx_istore {n : Nat} (hS1 : zSx rest) (hS2 : ∀ k, zSx (xm_drop k full)) (hi : zJH full ih1 nL E Pq) (hl : zL lv lz) (hn : lz.length = nL) (hs : zsr st zst) (hR : zR G s) (h : xm_body call full nL mc ms ret Q1 ih1 (pc, .istore n, a, b, ts, v) rest lv st G E kc ks = true) : ∃ F res, zm_body (zm_run F full) (zm_call (zm_run F) full) zrt none full (pc, .istore n, a, b, ts, v) rest lz zst s = some res ∧ Pq res := by
  have h : (match (generalizing := false) st with
    | w :: st => bif xm_isI w && Nat.blt a nL then ih1 rest (xm_set1 lv a w) st G E kc ks else false
    | _ => false) = true := h
  obtain ⟨w, st', zst', rfl, rfl, pw, e, ht⟩ := zs_1 (P := fun w => (xm_isI w && Nat.blt a nL) = true) hs (f := fun st => (match (generalizing := false) st with
    | w :: st => bif xm_isI w && Nat.blt a nL then ih1 rest (xm_set1 lv a w) st G E kc ks else false
    | _ => false)) h rfl (fun w st hw e => by show (bif xm_isI w && Nat.blt a nL then _ else false) = false; rw [Bool.eq_false_iff.mpr e]; rfl)
  dsimp only at h
  rw [e, cond_true] at h
  rw [Bool.and_eq_true] at e
  have hb := Nat.le_of_ble_eq_true e.2
  exact hi rest hS1 _ st' G kc ks (zset lz a (zi w)) zst' s (zl_set1 hl (by omega) pw) (by rw [zl_len]; exact hn) ht hR h
theorem zx_istore_n {n : Fin 4} (hS1 : zSx rest) (hS2 : ∀ k, zSx (xm_drop k full)) (hi : zJH full ih1 nL E Pq) (hl : zL lv lz) (hn : lz.length = nL) (hs : zsr st zst) (hR : zR G s) (h : xm_body call full nL mc ms ret Q1 ih1 (pc, .istore_n n, a, b, ts, v) rest lv st G E kc ks = true) : ∃ F res, zm_body (zm_run F full) (zm_call (zm_run F) full) zrt none full (pc, .istore_n n, a, b, ts, v) rest lz zst s = some res ∧ Pq res := by
  have h : (match (generalizing := false) st with
    | w :: st => bif xm_isI w && Nat.blt a nL then ih1 rest (xm_set1 lv a w) st G E kc ks else false
    | _ => false) = true := h
  obtain ⟨w, st', zst', rfl, rfl, pw, e, ht⟩ := zs_1 (P := fun w => (xm_isI w && Nat.blt a nL) = true) hs (f := fun st => (match (generalizing := false) st with
    | w :: st => bif xm_isI w && Nat.blt a nL then ih1 rest (xm_set1 lv a w) st G E kc ks else false
    | _ => false)) h rfl (fun w st hw e => by show (bif xm_isI w && Nat.blt a nL then _ else false) = false; rw [Bool.eq_false_iff.mpr e]; rfl)
  dsimp only at h
  rw [e, cond_true] at h
  rw [Bool.and_eq_true] at e
  have hb := Nat.le_of_ble_eq_true e.2
  exact hi rest hS1 _ st' G kc ks (zset lz a (zi w)) zst' s (zl_set1 hl (by omega) pw) (by rw [zl_len]; exact hn) ht hR h
theorem zx_lstore {n : Nat} (hS1 : zSx rest) (hS2 : ∀ k, zSx (xm_drop k full)) (hi : zJH full ih1 nL E Pq) (hl : zL lv lz) (hn : lz.length = nL) (hs : zsr st zst) (hR : zR G s) (h : xm_body call full nL mc ms ret Q1 ih1 (pc, .lstore n, a, b, ts, v) rest lv st G E kc ks = true) : ∃ F res, zm_body (zm_run F full) (zm_call (zm_run F) full) zrt none full (pc, .lstore n, a, b, ts, v) rest lz zst s = some res ∧ Pq res := by
  have h : (match (generalizing := false) st with
    | w :: st => bif xm_isL w && Nat.blt (a + 1) nL then ih1 rest (xm_set2 lv a w) st G E kc ks else false
    | _ => false) = true := h
  obtain ⟨w, st', zst', rfl, rfl, pw, e, ht⟩ := zs_1 (P := fun w => (xm_isL w && Nat.blt (a + 1) nL) = true) hs (f := fun st => (match (generalizing := false) st with
    | w :: st => bif xm_isL w && Nat.blt (a + 1) nL then ih1 rest (xm_set2 lv a w) st G E kc ks else false
    | _ => false)) h rfl (fun w st hw e => by show (bif xm_isL w && Nat.blt (a + 1) nL then _ else false) = false; rw [Bool.eq_false_iff.mpr e]; rfl)
  dsimp only at h
  rw [e, cond_true] at h
  rw [Bool.and_eq_true] at e
  have hb := Nat.le_of_ble_eq_true e.2
  exact hi rest hS1 _ st' G kc ks (zset lz a (zi w)) zst' s (zl_set2 hl (by omega) pw) (by rw [zl_len]; exact hn) ht hR h
theorem zx_lstore_n {n : Fin 4} (hS1 : zSx rest) (hS2 : ∀ k, zSx (xm_drop k full)) (hi : zJH full ih1 nL E Pq) (hl : zL lv lz) (hn : lz.length = nL) (hs : zsr st zst) (hR : zR G s) (h : xm_body call full nL mc ms ret Q1 ih1 (pc, .lstore_n n, a, b, ts, v) rest lv st G E kc ks = true) : ∃ F res, zm_body (zm_run F full) (zm_call (zm_run F) full) zrt none full (pc, .lstore_n n, a, b, ts, v) rest lz zst s = some res ∧ Pq res := by
  have h : (match (generalizing := false) st with
    | w :: st => bif xm_isL w && Nat.blt (a + 1) nL then ih1 rest (xm_set2 lv a w) st G E kc ks else false
    | _ => false) = true := h
  obtain ⟨w, st', zst', rfl, rfl, pw, e, ht⟩ := zs_1 (P := fun w => (xm_isL w && Nat.blt (a + 1) nL) = true) hs (f := fun st => (match (generalizing := false) st with
    | w :: st => bif xm_isL w && Nat.blt (a + 1) nL then ih1 rest (xm_set2 lv a w) st G E kc ks else false
    | _ => false)) h rfl (fun w st hw e => by show (bif xm_isL w && Nat.blt (a + 1) nL then _ else false) = false; rw [Bool.eq_false_iff.mpr e]; rfl)
  dsimp only at h
  rw [e, cond_true] at h
  rw [Bool.and_eq_true] at e
  have hb := Nat.le_of_ble_eq_true e.2
  exact hi rest hS1 _ st' G kc ks (zset lz a (zi w)) zst' s (zl_set2 hl (by omega) pw) (by rw [zl_len]; exact hn) ht hR h
theorem zx_astore {n : Nat} (hS1 : zSx rest) (hS2 : ∀ k, zSx (xm_drop k full)) (hi : zJH full ih1 nL E Pq) (hl : zL lv lz) (hn : lz.length = nL) (hs : zsr st zst) (hR : zR G s) (h : xm_body call full nL mc ms ret Q1 ih1 (pc, .astore n, a, b, ts, v) rest lv st G E kc ks = true) : ∃ F res, zm_body (zm_run F full) (zm_call (zm_run F) full) zrt none full (pc, .astore n, a, b, ts, v) rest lz zst s = some res ∧ Pq res := by
  have h : (match (generalizing := false) st with
    | w :: st => bif xm_isA w && Nat.blt a nL then ih1 rest (xm_set1 lv a w) st G E kc ks else false
    | _ => false) = true := h
  obtain ⟨w, st', zst', rfl, rfl, pw, e, ht⟩ := zs_1 (P := fun w => (xm_isA w && Nat.blt a nL) = true) hs (f := fun st => (match (generalizing := false) st with
    | w :: st => bif xm_isA w && Nat.blt a nL then ih1 rest (xm_set1 lv a w) st G E kc ks else false
    | _ => false)) h rfl (fun w st hw e => by show (bif xm_isA w && Nat.blt a nL then _ else false) = false; rw [Bool.eq_false_iff.mpr e]; rfl)
  dsimp only at h
  rw [e, cond_true] at h
  rw [Bool.and_eq_true] at e
  have hb := Nat.le_of_ble_eq_true e.2
  exact hi rest hS1 _ st' G kc ks (zset lz a (zi w)) zst' s (zl_set1 hl (by omega) pw) (by rw [zl_len]; exact hn) ht hR h
theorem zx_astore_n {n : Fin 4} (hS1 : zSx rest) (hS2 : ∀ k, zSx (xm_drop k full)) (hi : zJH full ih1 nL E Pq) (hl : zL lv lz) (hn : lz.length = nL) (hs : zsr st zst) (hR : zR G s) (h : xm_body call full nL mc ms ret Q1 ih1 (pc, .astore_n n, a, b, ts, v) rest lv st G E kc ks = true) : ∃ F res, zm_body (zm_run F full) (zm_call (zm_run F) full) zrt none full (pc, .astore_n n, a, b, ts, v) rest lz zst s = some res ∧ Pq res := by
  have h : (match (generalizing := false) st with
    | w :: st => bif xm_isA w && Nat.blt a nL then ih1 rest (xm_set1 lv a w) st G E kc ks else false
    | _ => false) = true := h
  obtain ⟨w, st', zst', rfl, rfl, pw, e, ht⟩ := zs_1 (P := fun w => (xm_isA w && Nat.blt a nL) = true) hs (f := fun st => (match (generalizing := false) st with
    | w :: st => bif xm_isA w && Nat.blt a nL then ih1 rest (xm_set1 lv a w) st G E kc ks else false
    | _ => false)) h rfl (fun w st hw e => by show (bif xm_isA w && Nat.blt a nL then _ else false) = false; rw [Bool.eq_false_iff.mpr e]; rfl)
  dsimp only at h
  rw [e, cond_true] at h
  rw [Bool.and_eq_true] at e
  have hb := Nat.le_of_ble_eq_true e.2
  exact hi rest hS1 _ st' G kc ks (zset lz a (zi w)) zst' s (zl_set1 hl (by omega) pw) (by rw [zl_len]; exact hn) ht hR h
theorem zx_iinc {n : Nat} {c : Int} (hS1 : zSx rest) (hS2 : ∀ k, zSx (xm_drop k full)) (hi : zJH full ih1 nL E Pq) (hl : zL lv lz) (hn : lz.length = nL) (hs : zsr st zst) (hR : zR G s) (h : xm_body call full nL mc ms ret Q1 ih1 (pc, .iinc n c, a, b, ts, v) rest lv st G E kc ks = true) : ∃ F res, zm_body (zm_run F full) (zm_call (zm_run F) full) zrt none full (pc, .iinc n c, a, b, ts, v) rest lz zst s = some res ∧ Pq res := by
  have h : (match xm_get lv a with
    | some w => bif Nat.blt a nL then xm_conc E w (fun E x => xm_frc (x + Int32.ofInt c) (fun z => ih1 rest (xm_set1 lv a (.int z)) st G E kc ks)) else false
    | none => false) = true := h
  cases hg : xm_get lv a with
  | none => rw [hg] at h; cases h
  | some w =>
    rw [hg] at h
    dsimp only at h
    obtain ⟨pw, gw⟩ := zl_get hl hg
    cases e : Nat.blt a nL with
    | false => rw [e] at h; cases h
    | true =>
      rw [e, cond_true] at h
      cases w with
      | int x =>
        have h : xm_frc (x + Int32.ofInt c) (fun z => ih1 rest (xm_set1 lv a (.int z)) st G E kc ks) = true := h
        rw [xl_frc] at h
        have hb := Nat.le_of_ble_eq_true e
        have ez : zw (zget lz a + (Int32.ofInt c).toInt) = zi (.int (x + Int32.ofInt c)) := by
          rw [gw]
          exact (zw_add x (Int32.ofInt c)).symm
        obtain ⟨F, res, f1, f2⟩ := hi rest hS1 _ st G kc ks _ zst s (zl_set1 hl (by omega) rfl) (by rw [zl_len]; exact hn) hs hR h
        refine ⟨F, res, ?_, f2⟩
        show zm_run F full rest (zset lz a (zw (zget lz a + (Int32.ofInt c).toInt))) zst s = some res
        rw [ez]
        exact f1
      | _ => first | (cases pw; done) | (cases h; done)
theorem zx_iconst {n : Int} (hv : zp v = true) (hS1 : zSx rest) (hi : zJH full ih1 nL E Pq) (hl : zL lv lz) (hn : lz.length = nL) (hs : zsr st zst) (hR : zR G s) (h : xm_body call full nL mc ms ret Q1 ih1 (pc, .iconst n, a, b, ts, v) rest lv st G E kc ks = true) : ∃ F res, zm_body (zm_run F full) (zm_call (zm_run F) full) zrt none full (pc, .iconst n, a, b, ts, v) rest lz zst s = some res ∧ Pq res := by
  obtain ⟨F, res, h1, h2⟩ := hi rest hS1 lv (v :: st) G kc ks lz _ s hl hn (zsr_c hv rfl rfl hs) hR h
  refine ⟨F, res, ?_, h2⟩
  show (bif zp v then zm_run F full rest lz ((xm_isL v, zi v) :: zst) s else none) = some res
  rw [hv]
  exact h1
theorem zx_bipush {n : Int} (hv : zp v = true) (hS1 : zSx rest) (hi : zJH full ih1 nL E Pq) (hl : zL lv lz) (hn : lz.length = nL) (hs : zsr st zst) (hR : zR G s) (h : xm_body call full nL mc ms ret Q1 ih1 (pc, .bipush n, a, b, ts, v) rest lv st G E kc ks = true) : ∃ F res, zm_body (zm_run F full) (zm_call (zm_run F) full) zrt none full (pc, .bipush n, a, b, ts, v) rest lz zst s = some res ∧ Pq res := by
  obtain ⟨F, res, h1, h2⟩ := hi rest hS1 lv (v :: st) G kc ks lz _ s hl hn (zsr_c hv rfl rfl hs) hR h
  refine ⟨F, res, ?_, h2⟩
  show (bif zp v then zm_run F full rest lz ((xm_isL v, zi v) :: zst) s else none) = some res
  rw [hv]
  exact h1
theorem zx_sipush {n : Int} (hv : zp v = true) (hS1 : zSx rest) (hi : zJH full ih1 nL E Pq) (hl : zL lv lz) (hn : lz.length = nL) (hs : zsr st zst) (hR : zR G s) (h : xm_body call full nL mc ms ret Q1 ih1 (pc, .sipush n, a, b, ts, v) rest lv st G E kc ks = true) : ∃ F res, zm_body (zm_run F full) (zm_call (zm_run F) full) zrt none full (pc, .sipush n, a, b, ts, v) rest lz zst s = some res ∧ Pq res := by
  obtain ⟨F, res, h1, h2⟩ := hi rest hS1 lv (v :: st) G kc ks lz _ s hl hn (zsr_c hv rfl rfl hs) hR h
  refine ⟨F, res, ?_, h2⟩
  show (bif zp v then zm_run F full rest lz ((xm_isL v, zi v) :: zst) s else none) = some res
  rw [hv]
  exact h1
theorem zx_lconst {n : Fin 2} (hv : zp v = true) (hS1 : zSx rest) (hi : zJH full ih1 nL E Pq) (hl : zL lv lz) (hn : lz.length = nL) (hs : zsr st zst) (hR : zR G s) (h : xm_body call full nL mc ms ret Q1 ih1 (pc, .lconst n, a, b, ts, v) rest lv st G E kc ks = true) : ∃ F res, zm_body (zm_run F full) (zm_call (zm_run F) full) zrt none full (pc, .lconst n, a, b, ts, v) rest lz zst s = some res ∧ Pq res := by
  obtain ⟨F, res, h1, h2⟩ := hi rest hS1 lv (v :: st) G kc ks lz _ s hl hn (zsr_c hv rfl rfl hs) hR h
  refine ⟨F, res, ?_, h2⟩
  show (bif zp v then zm_run F full rest lz ((xm_isL v, zi v) :: zst) s else none) = some res
  rw [hv]
  exact h1
theorem zx_aconst_null  (hv : zp v = true) (hS1 : zSx rest) (hi : zJH full ih1 nL E Pq) (hl : zL lv lz) (hn : lz.length = nL) (hs : zsr st zst) (hR : zR G s) (h : xm_body call full nL mc ms ret Q1 ih1 (pc, .aconst_null, a, b, ts, v) rest lv st G E kc ks = true) : ∃ F res, zm_body (zm_run F full) (zm_call (zm_run F) full) zrt none full (pc, .aconst_null, a, b, ts, v) rest lz zst s = some res ∧ Pq res := by
  obtain ⟨F, res, h1, h2⟩ := hi rest hS1 lv (v :: st) G kc ks lz _ s hl hn (zsr_c hv rfl rfl hs) hR h
  refine ⟨F, res, ?_, h2⟩
  show (bif zp v then zm_run F full rest lz ((xm_isL v, zi v) :: zst) s else none) = some res
  rw [hv]
  exact h1
theorem zx_ldc {n : Nat} (hv : zp v = true) (hS1 : zSx rest) (hi : zJH full ih1 nL E Pq) (hl : zL lv lz) (hn : lz.length = nL) (hs : zsr st zst) (hR : zR G s) (h : xm_body call full nL mc ms ret Q1 ih1 (pc, .ldc n, a, b, ts, v) rest lv st G E kc ks = true) : ∃ F res, zm_body (zm_run F full) (zm_call (zm_run F) full) zrt none full (pc, .ldc n, a, b, ts, v) rest lz zst s = some res ∧ Pq res := by
  obtain ⟨F, res, h1, h2⟩ := hi rest hS1 lv (v :: st) G kc ks lz _ s hl hn (zsr_c hv rfl rfl hs) hR h
  refine ⟨F, res, ?_, h2⟩
  show (bif zp v then zm_run F full rest lz ((xm_isL v, zi v) :: zst) s else none) = some res
  rw [hv]
  exact h1
theorem zx_ldc_w {n : Nat} (hv : zp v = true) (hS1 : zSx rest) (hi : zJH full ih1 nL E Pq) (hl : zL lv lz) (hn : lz.length = nL) (hs : zsr st zst) (hR : zR G s) (h : xm_body call full nL mc ms ret Q1 ih1 (pc, .ldc_w n, a, b, ts, v) rest lv st G E kc ks = true) : ∃ F res, zm_body (zm_run F full) (zm_call (zm_run F) full) zrt none full (pc, .ldc_w n, a, b, ts, v) rest lz zst s = some res ∧ Pq res := by
  obtain ⟨F, res, h1, h2⟩ := hi rest hS1 lv (v :: st) G kc ks lz _ s hl hn (zsr_c hv rfl rfl hs) hR h
  refine ⟨F, res, ?_, h2⟩
  show (bif zp v then zm_run F full rest lz ((xm_isL v, zi v) :: zst) s else none) = some res
  rw [hv]
  exact h1
theorem zx_ldc2_w {n : Nat} (hv : zp v = true) (hS1 : zSx rest) (hi : zJH full ih1 nL E Pq) (hl : zL lv lz) (hn : lz.length = nL) (hs : zsr st zst) (hR : zR G s) (h : xm_body call full nL mc ms ret Q1 ih1 (pc, .ldc2_w n, a, b, ts, v) rest lv st G E kc ks = true) : ∃ F res, zm_body (zm_run F full) (zm_call (zm_run F) full) zrt none full (pc, .ldc2_w n, a, b, ts, v) rest lz zst s = some res ∧ Pq res := by
  obtain ⟨F, res, h1, h2⟩ := hi rest hS1 lv (v :: st) G kc ks lz _ s hl hn (zsr_c hv rfl rfl hs) hR h
  refine ⟨F, res, ?_, h2⟩
  show (bif zp v then zm_run F full rest lz ((xm_isL v, zi v) :: zst) s else none) = some res
  rw [hv]
  exact h1
theorem zx_iaload (hS1 : zSx rest) (hS2 : ∀ k, zSx (xm_drop k full)) (hi : zJH full ih1 nL E Pq) (hl : zL lv lz) (hn : lz.length = nL) (hs : zsr st zst) (hR : zR G s) (h : xm_body call full nL mc ms ret Q1 ih1 (pc, .iaload, a, b, ts, v) rest lv st G E kc ks = true) : ∃ F res, zm_body (zm_run F full) (zm_call (zm_run F) full) zrt none full (pc, .iaload, a, b, ts, v) rest lz zst s = some res ∧ Pq res := by
  have h : xm_iald st G E (fun st E => ih1 rest lv st G E kc ks) = true := h
  obtain ⟨w, u, st', zst', rfl, rfl, pw, pu, ⟨x, j, rfl, rfl⟩, ht⟩ := zs_2 (P := zPA) hs (f := fun st => xm_iald st G E (fun st E => ih1 rest lv st G E kc ks)) h rfl (fun w => by cases w <;> rfl) (fun w u st hw hu e => by
    cases u with
    | ref j =>
      have hc : ∀ (E : xm_R) (k : xm_R → Int32 → Bool), xm_conc E w k = false := by
        intro E k
        cases w with
        | int x => exact absurd ⟨_, _, rfl, rfl⟩ e
        | retAddr p => cases hw
        | _ => rfl
      have hk : ∀ (ok : Nat → Bool) (j : Nat) (k : List Value → xm_R → Bool), xm_ald ok (w :: .ref j :: st) G E k = false := fun ok j k => by
        show xm_conc E w (fun E x => xm_rd ok G j x (fun w => k (w :: st) E)) = false
        exact hc _ _
      show (bif Nat.beq j 0 then (match (generalizing := false) xm_hget G 0 with
        | some (t, _) => bif Nat.beq t 300 then xm_conc E w (fun E x => match xm_nth E 6 with
          | some (lo, _) => bif decide (0 ≤ x.toInt) && decide (x.toInt < lo) then ih1 rest lv (.retAddr x.toInt.toNat :: st) G E kc ks else false
          | none => false) else xm_ald (fun t => Nat.beq t 301) (w :: .ref 0 :: st) G E (fun st E => ih1 rest lv st G E kc ks)
        | none => false)
        else xm_ald (fun t => Nat.beq t 100) (w :: .ref j :: st) G E (fun st E => ih1 rest lv st G E kc ks)) = false
      cases Nat.beq j 0 with
      | false => rw [cond_false]; exact hk _ _ _
      | true =>
        cases xm_hget G 0 with
        | none => rfl
        | some p =>
          obtain ⟨t, vs⟩ := p
          rw [cond_true]
          dsimp only
          cases Nat.beq t 300 with
          | false => rw [cond_false]; exact hk _ _ _
          | true => rw [cond_true]; exact hc _ _
    | _ => cases w <;> rfl)
  have e : ∀ k, xm_iald (.int x :: .ref j :: st') G E k = (bif Nat.beq j 0 then (match xm_hget G 0 with
      | some (t, _) => bif Nat.beq t 300 then xm_conc E (.int x) (fun E x => match xm_nth E 6 with
        | some (lo, _) => bif decide (0 ≤ x.toInt) && decide (x.toInt < lo) then k (.retAddr x.toInt.toNat :: st') E else false
        | none => false) else xm_ald (fun t => Nat.beq t 301) (.int x :: .ref 0 :: st') G E k
      | none => false)
    else xm_ald (fun t => Nat.beq t 100) (.int x :: .ref j :: st') G E k) := fun _ => rfl
  rw [e] at h
  cases hj : Nat.beq j 0 with
  | false =>
    rw [hj, cond_false] at h
    obtain ⟨t, vs, w, g1, g2, g3, g4, g5⟩ := zs_ald h
    rw [g5] at h
    have et := Nat.eq_of_beq_eq_true g2
    subst et
    obtain ⟨q1, q2, q3⟩ := hR.rd g1 g3 g4 zc_100
    exact hi rest hS1 lv _ G kc ks lz _ s hl hn (zsr_c q1 q2 q3 ht) hR h
  | true =>
    have ej := Nat.eq_of_beq_eq_true hj
    subst ej
    rw [hj, cond_true] at h
    cases hg : xm_hget G 0 with
    | none => rw [hg] at h; cases h
    | some p =>
      obtain ⟨t, vs⟩ := p
      rw [hg] at h
      dsimp only at h
      have hne : Nat.beq t 300 = false := Bool.eq_false_iff.mpr (fun q => (hR 0 t vs hg).1.1 (Nat.eq_of_beq_eq_true q))
      rw [hne, cond_false] at h
      obtain ⟨t', vs', w, g1, g2, g3, g4, g5⟩ := zs_ald h
      rw [g5] at h
      have et := Nat.eq_of_beq_eq_true g2
      subst et
      obtain ⟨q1, q2, q3⟩ := hR.rd g1 g3 g4 zc_301
      exact hi rest hS1 lv _ G kc ks lz _ s hl hn (zsr_c q1 q2 q3 ht) hR h
theorem zx_baload (hS1 : zSx rest) (hS2 : ∀ k, zSx (xm_drop k full)) (hi : zJH full ih1 nL E Pq) (hl : zL lv lz) (hn : lz.length = nL) (hs : zsr st zst) (hR : zR G s) (h : xm_body call full nL mc ms ret Q1 ih1 (pc, .baload, a, b, ts, v) rest lv st G E kc ks = true) : ∃ F res, zm_body (zm_run F full) (zm_call (zm_run F) full) zrt none full (pc, .baload, a, b, ts, v) rest lz zst s = some res ∧ Pq res := by
  have h : xm_bald st G E (fun st E => ih1 rest lv st G E kc ks) = true := h
  obtain ⟨w, u, st', zst', rfl, rfl, pw, pu, ⟨x, j, rfl, rfl⟩, ht⟩ := zs_2 (P := zPA) hs (f := fun st => xm_bald st G E (fun st E => ih1 rest lv st G E kc ks)) h rfl (fun w => by cases w <;> rfl) (fun w u st hw hu e => by
    cases u with
    | ref j =>
      have hc : ∀ (E : xm_R) (k : xm_R → Int32 → Bool), xm_conc E w k = false := by
        intro E k
        cases w with
        | int x => exact absurd ⟨_, _, rfl, rfl⟩ e
        | retAddr p => cases hw
        | _ => rfl
      have hk : ∀ (ok : Nat → Bool) (j : Nat) (k : List Value → xm_R → Bool), xm_ald ok (w :: .ref j :: st) G E k = false := fun ok j k => by
        show xm_conc E w (fun E x => xm_rd ok G j x (fun w => k (w :: st) E)) = false
        exact hc _ _
      show (match (generalizing := false) xm_hget G j with
        | some (t, _) => bif Nat.beq t 103 then xm_ald (fun t => Nat.beq t 103) (w :: .ref j :: st) G E (fun st E => ih1 rest lv st G E kc ks) else xm_ald (fun t => Nat.beq t 101) (w :: .ref j :: st) G E (fun st E => ih1 rest lv st G E kc ks)
        | none => false) = false
      cases xm_hget G j with
      | none => rfl
      | some p =>
        obtain ⟨t, vs⟩ := p
        dsimp only
        cases Nat.beq t 103 with
        | false => rw [cond_false]; exact hk _ _ _
        | true => rw [cond_true]; exact hk _ _ _
    | _ => cases w <;> rfl)
  have e : ∀ k, xm_bald (.int x :: .ref j :: st') G E k = (match xm_hget G j with
    | some (t, _) => bif Nat.beq t 103 then xm_ald (fun t => Nat.beq t 103) (.int x :: .ref j :: st') G E k else xm_ald (fun t => Nat.beq t 101) (.int x :: .ref j :: st') G E k
    | none => false) := fun _ => rfl
  rw [e] at h
  cases hg : xm_hget G j with
  | none => rw [hg] at h; cases h
  | some p =>
    obtain ⟨t, vs⟩ := p
    rw [hg] at h
    dsimp only at h
    cases hq : Nat.beq t 103 with
    | false =>
      rw [hq, cond_false] at h
      obtain ⟨t', vs', w, g1, g2, g3, g4, g5⟩ := zs_ald h
      rw [g5] at h
      have et := Nat.eq_of_beq_eq_true g2
      subst et
      obtain ⟨q1, q2, q3⟩ := hR.rd g1 g3 g4 zc_101
      exact hi rest hS1 lv _ G kc ks lz _ s hl hn (zsr_c q1 q2 q3 ht) hR h
    | true =>
      rw [hq, cond_true] at h
      obtain ⟨t', vs', w, g1, g2, g3, g4, g5⟩ := zs_ald h
      rw [g5] at h
      have et := Nat.eq_of_beq_eq_true g2
      subst et
      obtain ⟨q1, q2, q3⟩ := hR.rd g1 g3 g4 zc_103
      exact hi rest hS1 lv _ G kc ks lz _ s hl hn (zsr_c q1 q2 q3 ht) hR h
theorem zx_laload (hS1 : zSx rest) (hS2 : ∀ k, zSx (xm_drop k full)) (hi : zJH full ih1 nL E Pq) (hl : zL lv lz) (hn : lz.length = nL) (hs : zsr st zst) (hR : zR G s) (h : xm_body call full nL mc ms ret Q1 ih1 (pc, .laload, a, b, ts, v) rest lv st G E kc ks = true) : ∃ F res, zm_body (zm_run F full) (zm_call (zm_run F) full) zrt none full (pc, .laload, a, b, ts, v) rest lz zst s = some res ∧ Pq res := by
  have h : xm_ald (fun t => Nat.beq t 102) st G E (fun st E => ih1 rest lv st G E kc ks) = true := h
  obtain ⟨w, u, st', zst', rfl, rfl, pw, pu, ⟨x, j, rfl, rfl⟩, ht⟩ := zs_2 (P := zPA) hs (f := fun st => xm_ald (fun t => Nat.beq t 102) st G E (fun st E => ih1 rest lv st G E kc ks)) h rfl (fun w => by cases w <;> rfl) (fun w u st hw hu e => by cases w <;> cases u <;> first | rfl | (cases hw; done) | (cases hu; done) | exact absurd ⟨_, _, rfl, rfl⟩ e)
  obtain ⟨t', vs', w, g1, g2, g3, g4, g5⟩ := zs_ald h
  rw [g5] at h
  have et := Nat.eq_of_beq_eq_true g2
  subst et
  obtain ⟨q1, q2, q3⟩ := hR.rd g1 g3 g4 zc_102
  exact hi rest hS1 lv _ G kc ks lz _ s hl hn (zsr_c q1 q2 q3 ht) hR h
theorem zx_aaload (hS1 : zSx rest) (hS2 : ∀ k, zSx (xm_drop k full)) (hi : zJH full ih1 nL E Pq) (hl : zL lv lz) (hn : lz.length = nL) (hs : zsr st zst) (hR : zR G s) (h : xm_body call full nL mc ms ret Q1 ih1 (pc, .aaload, a, b, ts, v) rest lv st G E kc ks = true) : ∃ F res, zm_body (zm_run F full) (zm_call (zm_run F) full) zrt none full (pc, .aaload, a, b, ts, v) rest lz zst s = some res ∧ Pq res := by
  have h : xm_ald xm_isAr st G E (fun st E => ih1 rest lv st G E kc ks) = true := h
  obtain ⟨w, u, st', zst', rfl, rfl, pw, pu, ⟨x, j, rfl, rfl⟩, ht⟩ := zs_2 (P := zPA) hs (f := fun st => xm_ald xm_isAr st G E (fun st E => ih1 rest lv st G E kc ks)) h rfl (fun w => by cases w <;> rfl) (fun w u st hw hu e => by cases w <;> cases u <;> first | rfl | (cases hw; done) | (cases hu; done) | exact absurd ⟨_, _, rfl, rfl⟩ e)
  obtain ⟨t, vs', w, g1, g2, g3, g4, g5⟩ := zs_ald h
  rw [g5] at h
  have ht4 : t = 104 ∨ t = 105 ∨ t = 106 ∨ t = 107 := by
    unfold xm_isAr at g2
    split at g2
    · exact Or.inl rfl
    · exact Or.inr (Or.inl rfl)
    · exact Or.inr (Or.inr (Or.inl rfl))
    · exact Or.inr (Or.inr (Or.inr rfl))
    · cases g2
  obtain ⟨b1, b2, b3⟩ := (hR j t vs' g1).2 _ w g4
  have hc : zcon t j x.toInt.toNat = some (zaa j x.toInt) := by
    unfold zcon
    rw [if_neg (by omega), if_pos (by omega), Int.toNat_of_nonneg g3]
  have hg : zlg t x.toInt.toNat = false := by rcases ht4 with rfl | rfl | rfl | rfl <;> rfl
  rw [hc] at b3
  rw [hg] at b2
  exact hi rest hS1 lv _ G kc ks lz _ s hl hn (zsr_c b1 b2 b3 ht) hR h
theorem zx_getfield {n : Nat} (hS1 : zSx rest) (hS2 : ∀ k, zSx (xm_drop k full)) (hi : zJH full ih1 nL E Pq) (hl : zL lv lz) (hn : lz.length = nL) (hs : zsr st zst) (hR : zR G s) (h : xm_body call full nL mc ms ret Q1 ih1 (pc, .getfield n, a, b, ts, v) rest lv st G E kc ks = true) : ∃ F res, zm_body (zm_run F full) (zm_call (zm_run F) full) zrt none full (pc, .getfield n, a, b, ts, v) rest lz zst s = some res ∧ Pq res := by
  replace h : xm_getf a b st G (fun st => ih1 rest lv st G E kc ks) = true := h
  obtain ⟨w, st', zst', rfl, rfl, pw, ⟨j, rfl⟩, ht⟩ := zs_1 (P := fun w => ∃ j, w = .ref j) hs (f := fun st => xm_getf a b st G (fun st => ih1 rest lv st G E kc ks)) h rfl (fun w st hw e => by cases w <;> first | rfl | (cases hw; done) | exact absurd ⟨_, rfl⟩ e)
  have e : ∀ k, xm_getf a b (.ref j :: st') G k = (match xm_hget G j with
    | some (t, vs) => bif Nat.beq t a then (match xm_nth vs b with
      | some w => k (w :: st')
      | none => false) else false
    | none => false) := fun _ => rfl
  rw [e] at h
  cases hg : xm_hget G j with
  | none => rw [hg] at h; cases h
  | some p =>
    obtain ⟨t, vs⟩ := p
    rw [hg] at h
    dsimp only at h
    cases hta : Nat.beq t a with
    | false => rw [hta] at h; cases h
    | true =>
      rw [hta, cond_true, xl_nth] at h
      have et := Nat.eq_of_beq_eq_true hta
      subst et
      cases hv : vs[b]? with
      | none => rw [hv] at h; cases h
      | some w =>
        rw [hv] at h
        obtain ⟨q1, q2, q3⟩ := (hR j t vs hg).2 b w hv
        exact hi rest hS1 lv _ G kc ks lz _ s hl hn (zsr_c q1 q2 q3 ht) hR h
theorem zx_lookupswitch {dd : Int} {ps : Array (Int × Int)} (hS1 : zSx rest) (hS2 : ∀ k, zSx (xm_drop k full)) (hi : zJH full ih1 nL E Pq) (hl : zL lv lz) (hn : lz.length = nL) (hs : zsr st zst) (hR : zR G s) (h : xm_body call full nL mc ms ret Q1 ih1 (pc, .lookupswitch dd ps, a, b, ts, v) rest lv st G E kc ks = true) : ∃ F res, zm_body (zm_run F full) (zm_call (zm_run F) full) zrt none full (pc, .lookupswitch dd ps, a, b, ts, v) rest lz zst s = some res ∧ Pq res := by
  replace h : (match (generalizing := false) st with
    | .int x :: st => ih1 (xm_drop (xm_look a ps.toList ts x.toInt) full) lv st G E kc ks
    | _ => false) = true := h
  obtain ⟨w, st', zst', rfl, rfl, pw, ⟨x, rfl⟩, ht⟩ := zs_1 (P := fun w => ∃ x, w = .int x) hs (f := fun st => (match (generalizing := false) st with
    | .int x :: st => ih1 (xm_drop (xm_look a ps.toList ts x.toInt) full) lv st G E kc ks
    | _ => false)) h rfl (fun w st hw e => by cases w <;> first | rfl | (cases hw; done) | exact absurd ⟨_, rfl⟩ e)
  exact hi _ (hS2 _) lv st' G kc ks lz zst' s hl hn ht hR h
theorem zx_br (P : Prop) (dP : Decidable P) (A B : List xm_E) {bb : Bool} (hb : bb = @decide P dP) (hA : zSx A) (hB : zSx B) (hi : zJH full ih1 nL E Pq) (hl : zL lv lz) (hn : lz.length = nL) (hs : zsr st zst) (hR : zR G s) (h : (bif bb then ih1 A lv st G E kc ks else ih1 B lv st G E kc ks) = true) : ∃ F res, zm_run F full (@ite _ P dP A B) lz zst s = some res ∧ Pq res := by
  subst hb
  cases dP with
  | isTrue p => exact hi A hA lv st G kc ks lz zst s hl hn hs hR h
  | isFalse p => exact hi B hB lv st G kc ks lz zst s hl hn hs hR h
theorem zx_brn (P : Prop) (dP : Decidable P) (A B : List xm_E) {bb : Bool} (hb : bb = !@decide P dP) (hA : zSx A) (hB : zSx B) (hi : zJH full ih1 nL E Pq) (hl : zL lv lz) (hn : lz.length = nL) (hs : zsr st zst) (hR : zR G s) (h : (bif bb then ih1 A lv st G E kc ks else ih1 B lv st G E kc ks) = true) : ∃ F res, zm_run F full (@ite _ P dP B A) lz zst s = some res ∧ Pq res := by
  subst hb
  cases dP with
  | isTrue p => exact hi B hB lv st G kc ks lz zst s hl hn hs hR h
  | isFalse p => exact hi A hA lv st G kc ks lz zst s hl hn hs hR h
theorem zx_ifCond {c : Jvm.ClassFile.Cond} {off : Int} (hS1 : zSx rest) (hS2 : ∀ k, zSx (xm_drop k full)) (hi : zJH full ih1 nL E Pq) (hl : zL lv lz) (hn : lz.length = nL) (hs : zsr st zst) (hR : zR G s) (h : xm_body call full nL mc ms ret Q1 ih1 (pc, .ifCond c off, a, b, ts, v) rest lv st G E kc ks = true) : ∃ F res, zm_body (zm_run F full) (zm_call (zm_run F) full) zrt none full (pc, .ifCond c off, a, b, ts, v) rest lz zst s = some res ∧ Pq res := by
  have h : (match (generalizing := false) st with
    | w :: st => xm_cmpI E w (.int 0) (fun E s => bif xm_holds c s then ih1 (xm_drop a full) lv st G E kc ks else ih1 rest lv st G E kc ks)
    | _ => false) = true := h
  obtain ⟨w, st', zst', rfl, rfl, pw, ⟨x, rfl⟩, ht⟩ := zs_1 (P := fun w => ∃ x, w = .int x) hs (f := fun st => (match (generalizing := false) st with
    | w :: st => xm_cmpI E w (.int 0) (fun E s => bif xm_holds c s then ih1 (xm_drop a full) lv st G E kc ks else ih1 rest lv st G E kc ks)
    | _ => false)) h rfl (fun w st hw e => by cases w <;> first | rfl | (cases hw; done) | exact absurd ⟨_, rfl⟩ e)
  cases c with
  | eq => exact zx_br (x.toInt = 0) _ _ _ xk_eq (hS2 _) hS1 hi hl hn ht hR h
  | ne => exact zx_brn (x.toInt = 0) _ _ _ xk_ne (hS2 _) hS1 hi hl hn ht hR h
  | lt => exact zx_br (x.toInt < 0) _ _ _ xk_lt (hS2 _) hS1 hi hl hn ht hR h
  | ge => exact zx_brn (x.toInt < 0) _ _ _ xk_ge (hS2 _) hS1 hi hl hn ht hR h
  | gt => exact zx_br (0 < x.toInt) _ _ _ xk_gt (hS2 _) hS1 hi hl hn ht hR h
  | le => exact zx_brn (0 < x.toInt) _ _ _ xk_le (hS2 _) hS1 hi hl hn ht hR h
theorem zx_if_icmp {c : Jvm.ClassFile.Cond} {off : Int} (hS1 : zSx rest) (hS2 : ∀ k, zSx (xm_drop k full)) (hi : zJH full ih1 nL E Pq) (hl : zL lv lz) (hn : lz.length = nL) (hs : zsr st zst) (hR : zR G s) (h : xm_body call full nL mc ms ret Q1 ih1 (pc, .if_icmp c off, a, b, ts, v) rest lv st G E kc ks = true) : ∃ F res, zm_body (zm_run F full) (zm_call (zm_run F) full) zrt none full (pc, .if_icmp c off, a, b, ts, v) rest lz zst s = some res ∧ Pq res := by
  have h : (match (generalizing := false) st with
    | w :: u :: st => xm_cmpI E u w (fun E s => bif xm_holds c s then ih1 (xm_drop a full) lv st G E kc ks else ih1 rest lv st G E kc ks)
    | _ => false) = true := h
  obtain ⟨w, u, st', zst', rfl, rfl, pw, pu, ⟨y, x, rfl, rfl⟩, ht⟩ := zs_2 (P := zPI) hs (f := fun st => (match (generalizing := false) st with
    | w :: u :: st => xm_cmpI E u w (fun E s => bif xm_holds c s then ih1 (xm_drop a full) lv st G E kc ks else ih1 rest lv st G E kc ks)
    | _ => false)) h rfl (fun w => rfl) (fun w u st hw hu e => by cases w <;> cases u <;> first | rfl | (cases hw; done) | (cases hu; done) | exact absurd ⟨_, _, rfl, rfl⟩ e)
  cases c with
  | eq => exact zx_br (x.toInt = y.toInt) _ _ _ xk_eq (hS2 _) hS1 hi hl hn ht hR h
  | ne => exact zx_brn (x.toInt = y.toInt) _ _ _ xk_ne (hS2 _) hS1 hi hl hn ht hR h
  | lt => exact zx_br (x.toInt < y.toInt) _ _ _ xk_lt (hS2 _) hS1 hi hl hn ht hR h
  | ge => exact zx_brn (x.toInt < y.toInt) _ _ _ xk_ge (hS2 _) hS1 hi hl hn ht hR h
  | gt => exact zx_br (y.toInt < x.toInt) _ _ _ xk_gt (hS2 _) hS1 hi hl hn ht hR h
  | le => exact zx_brn (y.toInt < x.toInt) _ _ _ xk_le (hS2 _) hS1 hi hl hn ht hR h
theorem zx_null (jmp : Bool) (hS1 : zSx rest) (hS2 : ∀ k, zSx (xm_drop k full)) (hi : zJH full ih1 nL E Pq) (hl : zL lv lz) (hn : lz.length = nL) (hs : zsr st zst) (hR : zR G s) (h : (match (generalizing := false) st with
    | .ref _ :: st => ih1 (bif jmp then xm_drop a full else rest) lv st G E kc ks
    | .null :: st => ih1 (bif jmp then rest else xm_drop a full) lv st G E kc ks
    | _ => false) = true) : ∃ F res, (match (generalizing := false) zst with
    | (_, x) :: st => zm_run F full (if x < 0 then (bif jmp then rest else xm_drop a full) else (bif jmp then xm_drop a full else rest)) lz st s
    | _ => none) = some res ∧ Pq res := by
  obtain ⟨w, st', zst', rfl, rfl, pw, e, ht⟩ := zs_1 (P := fun w => (∃ j, w = .ref j) ∨ w = .null) hs (f := fun st => (match (generalizing := false) st with
    | .ref _ :: st => ih1 (bif jmp then xm_drop a full else rest) lv st G E kc ks
    | .null :: st => ih1 (bif jmp then rest else xm_drop a full) lv st G E kc ks
    | _ => false)) h rfl (fun w st hw e => by cases w <;> first | rfl | (cases hw; done) | exact absurd (Or.inl ⟨_, rfl⟩) e | exact absurd (Or.inr rfl) e)
  have k1 : zSx (bif jmp then xm_drop a full else rest) := by cases jmp <;> first | exact hS1 | exact hS2 a
  have k2 : zSx (bif jmp then rest else xm_drop a full) := by cases jmp <;> first | exact hS1 | exact hS2 a
  dsimp only
  rcases e with ⟨j, rfl⟩ | rfl
  · rw [if_neg (show ¬ zi (Value.ref j) < 0 by show ¬ ((j : Nat) : Int) < 0; omega)]
    exact hi _ k1 lv st' G kc ks lz zst' s hl hn ht hR h
  · rw [if_pos (show zi Value.null < 0 by show (-1 : Int) < 0; omega)]
    exact hi _ k2 lv st' G kc ks lz zst' s hl hn ht hR h
theorem zx_tableswitch {dd lo hi0 : Int} {offs : Array Int} (hS2 : ∀ k, zSx (xm_drop k full)) (hi : zJH full ih1 nL E Pq) (hl : zL lv lz) (hn : lz.length = nL) (hs : zsr st zst) (hR : zR G s) (h : xm_body call full nL mc ms ret Q1 ih1 (pc, .tableswitch dd lo hi0 offs, a, b, ts, v) rest lv st G E kc ks = true) : ∃ F res, zm_body (zm_run F full) (zm_call (zm_run F) full) zrt none full (pc, .tableswitch dd lo hi0 offs, a, b, ts, v) rest lz zst s = some res ∧ Pq res := by
  replace h : (match (generalizing := false) st with
    | w :: st => xm_table lo a ts w E (fun E t => ih1 (xm_drop t full) lv st G E kc ks)
    | _ => false) = true := h
  obtain ⟨w, st', zst', rfl, rfl, pw, ⟨x, rfl⟩, ht⟩ := zs_1 (P := fun w => ∃ x, w = .int x) hs (f := fun st => (match (generalizing := false) st with
    | w :: st => xm_table lo a ts w E (fun E t => ih1 (xm_drop t full) lv st G E kc ks)
    | _ => false)) h rfl (fun w st hw e => by cases w <;> first | rfl | (cases hw; done) | exact absurd ⟨_, rfl⟩ e)
  have e : ∀ k : xm_R → Nat → Bool, xm_table lo a ts (.int x) E k = bif decide (x.toInt < lo) || decide (lo + Int.ofNat (xm_len ts) ≤ x.toInt) then k E a else (match xm_nth ts (x.toInt - lo).toNat with
    | some t => k E t
    | none => false) := fun _ => rfl
  dsimp only at h
  rw [e] at h
  show ∃ F res, (match (generalizing := false) zsw lo a ts x.toInt with
    | some t => zm_run F full (xm_drop t full) lz zst' s
    | none => none) = some res ∧ Pq res
  unfold zsw
  by_cases c : x.toInt < lo ∨ lo + Int.ofNat (xm_len ts) ≤ x.toInt
  · have c' : (decide (x.toInt < lo) || decide (lo + Int.ofNat (xm_len ts) ≤ x.toInt)) = true := by
      rw [Bool.or_eq_true, decide_eq_true_eq, decide_eq_true_eq]
      exact c
    rw [c', cond_true] at h
    rw [if_pos c]
    exact hi _ (hS2 _) lv st' G kc ks lz zst' s hl hn ht hR h
  · have c' : (decide (x.toInt < lo) || decide (lo + Int.ofNat (xm_len ts) ≤ x.toInt)) = false := by
      rw [Bool.eq_false_iff]
      intro q
      rw [Bool.or_eq_true, decide_eq_true_eq, decide_eq_true_eq] at q
      exact c q
    rw [c', cond_false] at h
    rw [if_neg c]
    cases hq : xm_nth ts (x.toInt - lo).toNat with
    | none => rw [hq] at h; cases h
    | some t =>
      rw [hq] at h
      exact hi _ (hS2 _) lv st' G kc ks lz zst' s hl hn ht hR h
theorem zx_arraylength (hS1 : zSx rest) (hi : zJH full ih1 nL E Pq) (hl : zL lv lz) (hn : lz.length = nL) (hs : zsr st zst) (hR : zR G s) (h : xm_body call full nL mc ms ret Q1 ih1 (pc, .arraylength, a, b, ts, v) rest lv st G E kc ks = true) : ∃ F res, zm_body (zm_run F full) (zm_call (zm_run F) full) zrt none full (pc, .arraylength, a, b, ts, v) rest lz zst s = some res ∧ Pq res := by
  replace h : xm_alen st G (fun st => ih1 rest lv st G E kc ks) = true := h
  obtain ⟨w, st', zst', rfl, rfl, pw, ⟨j, rfl⟩, ht⟩ := zs_1 (P := fun w => ∃ j, w = .ref j) hs (f := fun st => xm_alen st G (fun st => ih1 rest lv st G E kc ks)) h rfl (fun w st hw e => by cases w <;> first | rfl | (cases hw; done) | exact absurd ⟨_, rfl⟩ e)
  have e : ∀ k, xm_alen (.ref j :: st') G k = (match xm_hget G j with
    | some (t, vs) => bif Nat.beq t 300 then k (.retAddr 6 :: st') else bif (Nat.ble 100 t && Nat.blt t 108) || Nat.beq t 301 then k (.int (Int32.ofNat (xm_len vs)) :: st') else false
    | none => false) := fun _ => rfl
  rw [e] at h
  have ej : ¬ ((j : Nat) : Int) = 0 := by
    intro q
    have q : j = 0 := Int.ofNat.inj (show Int.ofNat j = Int.ofNat 0 from q)
    subst q
    cases pw
  cases hg : xm_hget G j with
  | none => rw [hg] at h; cases h
  | some p =>
    obtain ⟨t, vs⟩ := p
    rw [hg] at h
    dsimp only at h
    obtain ⟨⟨a1, a2, a3, a4⟩, -⟩ := hR j t vs hg
    have e1 : Nat.beq t 300 = false := Bool.eq_false_iff.mpr (fun q => a1 (Nat.eq_of_beq_eq_true q))
    have e2 : Nat.beq t 301 = false := Bool.eq_false_iff.mpr (fun q => ej (by have := a2 (Nat.eq_of_beq_eq_true q); omega))
    rw [e1, cond_false, e2, Bool.or_false] at h
    cases hc : (Nat.ble 100 t && Nat.blt t 108) with
    | false => rw [hc] at h; cases h
    | true =>
      rw [hc, cond_true] at h
      rw [Bool.and_eq_true] at hc
      have h1 := Nat.le_of_ble_eq_true hc.1
      have h2 := Nat.le_of_ble_eq_true hc.2
      have ez : zi (.int (Int32.ofNat (xm_len vs))) = zw (zlen j) := by
        show (Int32.ofNat (xm_len vs)).toInt = zw (zlen j)
        rw [Int32.toInt_ofNat', ← a4 h1 (by omega), xl_len]
        rfl
      obtain ⟨F, res, f1, f2⟩ := hi rest hS1 lv _ G kc ks lz _ s hl hn (zsr_c (b := false) rfl rfl ez ht) hR h
      refine ⟨F, res, ?_, f2⟩
      show (if ((j : Nat) : Int) = 0 then none else zm_run F full rest lz ((false, zw (zlen j)) :: zst') s) = some res
      rw [if_neg ej]
      exact f1
theorem zx_putfield {n : Nat} (hk : zck (pc, .putfield n, a, b, ts, v) = true) (hS1 : zSx rest) (hi : zJH full ih1 nL E Pq) (hl : zL lv lz) (hn : lz.length = nL) (hs : zsr st zst) (hR : zR G s) (h : xm_body call full nL mc ms ret Q1 ih1 (pc, .putfield n, a, b, ts, v) rest lv st G E kc ks = true) : ∃ F res, zm_body (zm_run F full) (zm_call (zm_run F) full) zrt none full (pc, .putfield n, a, b, ts, v) rest lz zst s = some res ∧ Pq res := by
  replace h : xm_putf a b st G (fun st G => ih1 rest lv st G E kc ks) = true := h
  obtain ⟨w, u, st', zst', rfl, rfl, pw, pu, ⟨j, rfl⟩, ht⟩ := zs_2 (P := fun _ u => ∃ j, u = .ref j) hs (f := fun st => xm_putf a b st G (fun st G => ih1 rest lv st G E kc ks)) h rfl (fun w => rfl) (fun w u st hw hu e => by cases u <;> first | rfl | (cases hu; done) | exact absurd ⟨_, rfl⟩ e)
  have e : ∀ k : List Value → xm_H → Bool, xm_putf a b (w :: .ref j :: st') G k = (match xm_hget G j with
      | some (t, vs) => bif Nat.beq t a && (Nat.ble 7 j && (xm_fit (xm_ty t b) w && Nat.blt b (xm_len vs))) then k st' (xm_hput G j (t, xm_put w vs b)) else false
      | none => false) := fun _ => rfl
  replace hk : (Nat.blt a 12 && (Nat.blt b 40 && (match zoff a b with
    | some _ => false
    | none => true))) = true := hk
  rw [Bool.and_eq_true, Bool.and_eq_true] at hk
  obtain ⟨k1, k2, k3⟩ := hk
  rw [e] at h
  cases hg : xm_hget G j with
  | none => rw [hg] at h; cases h
  | some p =>
    obtain ⟨t, vs⟩ := p
    rw [hg] at h
    dsimp only at h
    cases hq : (Nat.beq t a && (Nat.ble 7 j && (xm_fit (xm_ty t b) w && Nat.blt b (xm_len vs)))) with
    | false => rw [hq] at h; cases h
    | true =>
      rw [hq, cond_true] at h
      rw [Bool.and_eq_true, Bool.and_eq_true, Bool.and_eq_true] at hq
      have et := Nat.eq_of_beq_eq_true hq.1
      subst et
      have h12 := Nat.le_of_ble_eq_true k1
      have h40 := Nat.le_of_ble_eq_true k2
      have hc : zcon t j b = none := by
        unfold zcon
        rw [if_pos (by omega)]
        cases ho : zoff t b with
        | some d => rw [ho] at k3; cases k3
        | none => rfl
      have hL := zs_fit pw hq.2.2.1
      rw [zs_tyq t (by omega) b (by omega)] at hL
      obtain ⟨F, res, f1, f2⟩ := hi rest hS1 lv st' _ kc ks lz zst' _ hl hn ht (hR.put hg pw hL rfl hc) h
      refine ⟨F, res, ?_, f2⟩
      show (bif Nat.blt t 12 && Nat.blt b 40 then (match zcon t j b with
        | some _ => none
        | none => zm_run F full rest lz zst' (zu s j ((b : Nat) : Int) (zi w))) else none) = some res
      rw [k1, k2, Bool.and_self, cond_true, hc]
      exact f1
theorem zx_ast {ok : Nat → Bool} {okv : Value → Option Value} {zf : Int → Int} {L : Bool} (hok : ∀ t i, ok t = true → zlg t i = L ∧ ∀ j, zcon t j i = none) (hokv : ∀ w w', zp w = true → okv w = some w' → zp w' = true ∧ xm_isL w' = L ∧ zi w' = zf (zi w)) (hS1 : zSx rest) (hi : zJH full ih1 nL E Pq) (hl : zL lv lz) (hn : lz.length = nL) (hs : zsr st zst) (hR : zR G s) (h : xm_ast ok okv st G E (fun st G E => ih1 rest lv st G E kc ks) = true) : ∃ F res, (match (generalizing := false) zst with
    | (_, x) :: (_, i) :: (_, j) :: st => zm_run F full rest lz st (zu s j i (zf x))
    | _ => none) = some res ∧ Pq res := by
  obtain ⟨w, u, t, st', zst', rfl, rfl, pw, pu, pt, ⟨⟨x, j, rfl, rfl⟩, w', hw'⟩, ht⟩ := zs_3 (P := fun w u t => (∃ x j, u = .int x ∧ t = .ref j) ∧ ∃ w', okv w = some w') hs (f := fun st => xm_ast ok okv st G E (fun st G E => ih1 rest lv st G E kc ks)) h rfl (fun w => rfl) (fun w u => by cases u <;> rfl) (fun w u t st hw hu ht e => by
    cases t with
    | ref j =>
      show (match okv w with
        | some w => xm_conc E u _
        | none => false) = false
      cases hq : okv w with
      | none => rfl
      | some w' =>
        cases u with
        | int x => exact absurd ⟨⟨_, _, rfl, rfl⟩, w', hq⟩ e
        | retAddr p => cases hu
        | _ => rfl
    | _ => rfl)
  have e : ∀ k : List Value → xm_H → xm_R → Bool, xm_ast ok okv (w :: .int x :: .ref j :: st') G E k = xm_wr ok G j x w' (fun G => k st' G E) := by
    intro k
    show (match okv w with
        | some w => xm_conc E (.int x) (fun E x => xm_wr ok G j x w (fun G => k st' G E))
        | none => false) = _
    rw [hw']
    rfl
  rw [e] at h
  obtain ⟨t, vs, g1, g2, g3, g4⟩ := zs_wr h
  rw [g4] at h
  obtain ⟨k1, k2, k3⟩ := hokv w w' pw hw'
  obtain ⟨c1, c2⟩ := hok t x.toInt.toNat g2
  exact hi rest hS1 lv st' _ kc ks lz zst' _ hl hn ht (hR.wr g1 g3 k1 (by rw [k2, c1]) k3 (c2 j)) h
theorem zx_iastore (hS1 : zSx rest) (hi : zJH full ih1 nL E Pq) (hl : zL lv lz) (hn : lz.length = nL) (hs : zsr st zst) (hR : zR G s) (h : xm_body call full nL mc ms ret Q1 ih1 (pc, .iastore, a, b, ts, v) rest lv st G E kc ks = true) : ∃ F res, zm_body (zm_run F full) (zm_call (zm_run F) full) zrt none full (pc, .iastore, a, b, ts, v) rest lz zst s = some res ∧ Pq res :=
  zx_ast (ok := fun t => Nat.beq t 100) (okv := xm_kI) (zf := fun x => x) (L := false) (fun t i ht => by
    have et := Nat.eq_of_beq_eq_true ht
    subst et
    exact ⟨rfl, fun j => rfl⟩) (fun w w' hw hk => by
    cases w <;> first | (cases hw; done) | (cases hk; exact ⟨rfl, rfl, rfl⟩) | (cases hk; done)) hS1 hi hl hn hs hR h
theorem zx_lastore (hS1 : zSx rest) (hi : zJH full ih1 nL E Pq) (hl : zL lv lz) (hn : lz.length = nL) (hs : zsr st zst) (hR : zR G s) (h : xm_body call full nL mc ms ret Q1 ih1 (pc, .lastore, a, b, ts, v) rest lv st G E kc ks = true) : ∃ F res, zm_body (zm_run F full) (zm_call (zm_run F) full) zrt none full (pc, .lastore, a, b, ts, v) rest lz zst s = some res ∧ Pq res :=
  zx_ast (ok := fun t => Nat.beq t 102) (okv := xm_kL) (zf := fun x => x) (L := true) (fun t i ht => by
    have et := Nat.eq_of_beq_eq_true ht
    subst et
    exact ⟨rfl, fun j => rfl⟩) (fun w w' hw hk => by
    cases w <;> first | (cases hw; done) | (cases hk; exact ⟨rfl, rfl, rfl⟩) | (cases hk; done)) hS1 hi hl hn hs hR h
theorem zx_bastore (hS1 : zSx rest) (hi : zJH full ih1 nL E Pq) (hl : zL lv lz) (hn : lz.length = nL) (hs : zsr st zst) (hR : zR G s) (h : xm_body call full nL mc ms ret Q1 ih1 (pc, .bastore, a, b, ts, v) rest lv st G E kc ks = true) : ∃ F res, zm_body (zm_run F full) (zm_call (zm_run F) full) zrt none full (pc, .bastore, a, b, ts, v) rest lz zst s = some res ∧ Pq res := by
  replace h : xm_bast st G E (fun st G E => ih1 rest lv st G E kc ks) = true := h
  obtain ⟨w, u, t, st', zst', rfl, rfl, pw, pu, pt, ⟨j, rfl⟩, ht⟩ := zs_3 (P := fun w u t => ∃ j, t = .ref j) hs (f := fun st => xm_bast st G E (fun st G E => ih1 rest lv st G E kc ks)) h rfl (fun w => rfl) (fun w u => by cases u <;> rfl) (fun w u t st hw hu ht e => by
    cases t with
    | ref j => exact absurd ⟨_, rfl⟩ e
    | _ => rfl)
  have e : ∀ k : List Value → xm_H → xm_R → Bool, xm_bast (w :: u :: .ref j :: st') G E k = (match xm_hget G j with
    | some (t, _) => bif Nat.beq t 103 then xm_ast (fun t => Nat.beq t 103) xm_kZ (w :: u :: .ref j :: st') G E k else xm_ast (fun t => Nat.beq t 101) xm_kB (w :: u :: .ref j :: st') G E k
    | none => false) := fun _ => rfl
  rw [e] at h
  have hs : zsr (w :: u :: .ref j :: st') ((xm_isL w, zi w) :: (xm_isL u, zi u) :: (xm_isL (.ref j), zi (.ref j)) :: zst') := zsr_c pw rfl rfl (zsr_c pu rfl rfl (zsr_c pt rfl rfl ht))
  cases hg : xm_hget G j with
  | none => rw [hg] at h; cases h
  | some p =>
    obtain ⟨t, vs⟩ := p
    rw [hg] at h
    dsimp only at h
    cases hq : Nat.beq t 103 with
    | false =>
      rw [hq, cond_false] at h
      refine zx_ast (ok := fun t => Nat.beq t 101) (okv := xm_kB) (zf := zb) (L := false) (fun t i ht => by
        have et := Nat.eq_of_beq_eq_true ht
        subst et
        exact ⟨rfl, fun j => rfl⟩) (fun w w' hw hk => ?_) hS1 hi hl hn hs hR h
      cases w <;> first | (cases hw; done) | (cases hk; done) | skip
      cases hk
      refine ⟨rfl, rfl, ?_⟩
      unfold zb
      show _ = (Int32.ofInt (Int32.toInt _)).toInt8.toInt32.toInt
      rw [Int32.ofInt_toInt]
      rfl
    | true =>
      rw [hq, cond_true] at h
      refine zx_ast (ok := fun t => Nat.beq t 103) (okv := xm_kZ) (zf := zb) (L := false) (fun t i ht => by
        have et := Nat.eq_of_beq_eq_true ht
        subst et
        exact ⟨rfl, fun j => rfl⟩) (fun w w' hw hk => ?_) hS1 hi hl hn hs hR h
      cases w <;> first | (cases hw; done) | (cases hk; done) | skip
      rename_i x
      have hk : (bif decide (x = 0) || decide (x = 1) then some (Value.int x) else none) = some w' := hk
      cases hc : (decide (x = 0) || decide (x = 1)) with
      | false => rw [hc] at hk; cases hk
      | true =>
        rw [hc] at hk
        cases hk
        rw [Bool.or_eq_true, decide_eq_true_eq, decide_eq_true_eq] at hc
        refine ⟨rfl, rfl, ?_⟩
        rcases hc with rfl | rfl <;> rfl
end ZX
