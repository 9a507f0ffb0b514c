/-! completeness: where the little machine ends, the flat one does -/
def zJH (full : List xm_E) (ih1 : List xm_E → xm_K) (nL : Nat) (E : xm_R) (Pq : Int × zS → Prop) : Prop := ∀ (suf : List xm_E) (lv : xm_L) (st : List Value) (G : xm_H) (kc ks : Nat) (lz : List Int) (zst : List zV) (s : zS), zL lv lz → lz.length = nL → zsr st zst → zR G s → ih1 suf lv st G E kc ks = true → ∃ F res, zm_run F full suf lz zst s = some res ∧ Pq res
section ZX
variable {call : xm_C} {full rest : List xm_E} {nL mc ms : Nat} {ret : Option FieldType} {Q1 : xm_Q} {ih1 : List xm_E → xm_K} {Pq : Int × zS → Prop} {pc a b : Nat} {ts : List Nat} {v : Value} {lv : xm_L} {st : List Value} {G : xm_H} {E : xm_R} {kc ks : Nat} {lz : List Int} {zst : List zV} {s : zS}
theorem zx_iadd  (hi : zJH full ih1 nL E Pq) (hl : zL lv lz) (hn : lz.length = nL) (hs : zsr st zst) (hR : zR G s) (h : xm_body call full nL mc ms ret Q1 ih1 (pc, .iadd, a, b, ts, v) rest lv st G E kc ks = true) : ∃ F res, zm_body (zm_run F full) (zm_call (zm_run F) full) zrt none full (pc, .iadd, a, b, ts, v) rest lz zst s = some res ∧ Pq res := by
  have h : xm_int2 .iadd st E (fun st E => ih1 rest lv st G E kc ks) = true := h
  obtain ⟨w, u, st', zst', rfl, rfl, pw, pu, ⟨y, x, rfl, rfl⟩, ht⟩ := zs_2 (P := zPI) hs (f := fun st => xm_int2 .iadd st E (fun st E => ih1 rest lv st G E kc ks)) h rfl (fun w => by cases w <;> rfl) (fun w u st hw hu e => by cases w <;> cases u <;> first | rfl | (cases hw; done) | (cases hu; done) | exact absurd ⟨_, _, rfl, rfl⟩ e)
  have k0 : ∀ k : List Value → xm_R → Bool, xm_int2 .iadd (.int y :: .int x :: st') E k = k (.int (x + y) :: st') E := fun k => by show xm_int2 .iadd (.int y :: .int x :: st') E k = _; exact ys_fi2 rfl
  rw [k0] at h
  exact hi rest lv _ G kc ks lz _ s hl hn (zsr_c rfl rfl (zw_add x y) ht) hR h
theorem zx_isub  (hi : zJH full ih1 nL E Pq) (hl : zL lv lz) (hn : lz.length = nL) (hs : zsr st zst) (hR : zR G s) (h : xm_body call full nL mc ms ret Q1 ih1 (pc, .isub, a, b, ts, v) rest lv st G E kc ks = true) : ∃ F res, zm_body (zm_run F full) (zm_call (zm_run F) full) zrt none full (pc, .isub, a, b, ts, v) rest lz zst s = some res ∧ Pq res := by
  have h : xm_int2 .isub st E (fun st E => ih1 rest lv st G E kc ks) = true := h
  obtain ⟨w, u, st', zst', rfl, rfl, pw, pu, ⟨y, x, rfl, rfl⟩, ht⟩ := zs_2 (P := zPI) hs (f := fun st => xm_int2 .isub st E (fun st E => ih1 rest lv st G E kc ks)) h rfl (fun w => by cases w <;> rfl) (fun w u st hw hu e => by cases w <;> cases u <;> first | rfl | (cases hw; done) | (cases hu; done) | exact absurd ⟨_, _, rfl, rfl⟩ e)
  have k0 : ∀ k : List Value → xm_R → Bool, xm_int2 .isub (.int y :: .int x :: st') E k = k (.int (x - y) :: st') E := fun k => by show xm_int2 .isub (.int y :: .int x :: st') E k = _; exact ys_fi2 rfl
  rw [k0] at h
  exact hi rest lv _ G kc ks lz _ s hl hn (zsr_c rfl rfl (zw_sub x y) ht) hR h
theorem zx_imul  (hi : zJH full ih1 nL E Pq) (hl : zL lv lz) (hn : lz.length = nL) (hs : zsr st zst) (hR : zR G s) (h : xm_body call full nL mc ms ret Q1 ih1 (pc, .imul, a, b, ts, v) rest lv st G E kc ks = true) : ∃ F res, zm_body (zm_run F full) (zm_call (zm_run F) full) zrt none full (pc, .imul, a, b, ts, v) rest lz zst s = some res ∧ Pq res := by
  have h : xm_int2 .imul st E (fun st E => ih1 rest lv st G E kc ks) = true := h
  obtain ⟨w, u, st', zst', rfl, rfl, pw, pu, ⟨y, x, rfl, rfl⟩, ht⟩ := zs_2 (P := zPI) hs (f := fun st => xm_int2 .imul st E (fun st E => ih1 rest lv st G E kc ks)) h rfl (fun w => by cases w <;> rfl) (fun w u st hw hu e => by cases w <;> cases u <;> first | rfl | (cases hw; done) | (cases hu; done) | exact absurd ⟨_, _, rfl, rfl⟩ e)
  have k0 : ∀ k : List Value → xm_R → Bool, xm_int2 .imul (.int y :: .int x :: st') E k = k (.int (x * y) :: st') E := fun k => by show xm_int2 .imul (.int y :: .int x :: st') E k = _; exact ys_fi2 rfl
  rw [k0] at h
  exact hi rest lv _ G kc ks lz _ s hl hn (zsr_c rfl rfl (zw_mul x y) ht) hR h
theorem zx_iand  (hi : zJH full ih1 nL E Pq) (hl : zL lv lz) (hn : lz.length = nL) (hs : zsr st zst) (hR : zR G s) (h : xm_body call full nL mc ms ret Q1 ih1 (pc, .iand, a, b, ts, v) rest lv st G E kc ks = true) : ∃ F res, zm_body (zm_run F full) (zm_call (zm_run F) full) zrt none full (pc, .iand, a, b, ts, v) rest lz zst s = some res ∧ Pq res := by
  have h : xm_iand st E (fun st E => ih1 rest lv st G E kc ks) = true := h
  obtain ⟨w, u, st', zst', rfl, rfl, pw, pu, ⟨y, x, rfl, rfl⟩, ht⟩ := zs_2 (P := zPI) hs (f := fun st => xm_iand st E (fun st E => ih1 rest lv st G E kc ks)) h rfl (fun w => by cases w <;> rfl) (fun w u st hw hu e => by cases w <;> cases u <;> first | rfl | (cases hw; done) | (cases hu; done) | exact absurd ⟨_, _, rfl, rfl⟩ e)
  have k0 : ∀ k : List Value → xm_R → Bool, xm_iand (.int y :: .int x :: st') E k = k (.int (x &&& y) :: st') E := fun k => by show xm_int2 .iand (.int y :: .int x :: st') E k = _; exact ys_fi2 rfl
  rw [k0] at h
  exact hi rest lv _ G kc ks lz _ s hl hn (zsr_c rfl rfl (by unfold zand; rw [Int32.ofInt_toInt, Int32.ofInt_toInt]; rfl) ht) hR h
theorem zx_ior  (hi : zJH full ih1 nL E Pq) (hl : zL lv lz) (hn : lz.length = nL) (hs : zsr st zst) (hR : zR G s) (h : xm_body call full nL mc ms ret Q1 ih1 (pc, .ior, a, b, ts, v) rest lv st G E kc ks = true) : ∃ F res, zm_body (zm_run F full) (zm_call (zm_run F) full) zrt none full (pc, .ior, a, b, ts, v) rest lz zst s = some res ∧ Pq res := by
  have h : xm_int2 .ior st E (fun st E => ih1 rest lv st G E kc ks) = true := h
  obtain ⟨w, u, st', zst', rfl, rfl, pw, pu, ⟨y, x, rfl, rfl⟩, ht⟩ := zs_2 (P := zPI) hs (f := fun st => xm_int2 .ior st E (fun st E => ih1 rest lv st G E kc ks)) h rfl (fun w => by cases w <;> rfl) (fun w u st hw hu e => by cases w <;> cases u <;> first | rfl | (cases hw; done) | (cases hu; done) | exact absurd ⟨_, _, rfl, rfl⟩ e)
  have k0 : ∀ k : List Value → xm_R → Bool, xm_int2 .ior (.int y :: .int x :: st') E k = k (.int (x ||| y) :: st') E := fun k => by show xm_int2 .ior (.int y :: .int x :: st') E k = _; exact ys_fi2 rfl
  rw [k0] at h
  exact hi rest lv _ G kc ks lz _ s hl hn (zsr_c rfl rfl (by unfold zor; rw [Int32.ofInt_toInt, Int32.ofInt_toInt]; rfl) ht) hR h
theorem zx_ixor  (hi : zJH full ih1 nL E Pq) (hl : zL lv lz) (hn : lz.length = nL) (hs : zsr st zst) (hR : zR G s) (h : xm_body call full nL mc ms ret Q1 ih1 (pc, .ixor, a, b, ts, v) rest lv st G E kc ks = true) : ∃ F res, zm_body (zm_run F full) (zm_call (zm_run F) full) zrt none full (pc, .ixor, a, b, ts, v) rest lz zst s = some res ∧ Pq res := by
  have h : xm_int2 .ixor st E (fun st E => ih1 rest lv st G E kc ks) = true := h
  obtain ⟨w, u, st', zst', rfl, rfl, pw, pu, ⟨y, x, rfl, rfl⟩, ht⟩ := zs_2 (P := zPI) hs (f := fun st => xm_int2 .ixor st E (fun st E => ih1 rest lv st G E kc ks)) h rfl (fun w => by cases w <;> rfl) (fun w u st hw hu e => by cases w <;> cases u <;> first | rfl | (cases hw; done) | (cases hu; done) | exact absurd ⟨_, _, rfl, rfl⟩ e)
  have k0 : ∀ k : List Value → xm_R → Bool, xm_int2 .ixor (.int y :: .int x :: st') E k = k (.int (x ^^^ y) :: st') E := fun k => by show xm_int2 .ixor (.int y :: .int x :: st') E k = _; exact ys_fi2 rfl
  rw [k0] at h
  exact hi rest lv _ G kc ks lz _ s hl hn (zsr_c rfl rfl (by unfold zxor; rw [Int32.ofInt_toInt, Int32.ofInt_toInt]; rfl) ht) hR h
theorem zx_ishl  (hi : zJH full ih1 nL E Pq) (hl : zL lv lz) (hn : lz.length = nL) (hs : zsr st zst) (hR : zR G s) (h : xm_body call full nL mc ms ret Q1 ih1 (pc, .ishl, a, b, ts, v) rest lv st G E kc ks = true) : ∃ F res, zm_body (zm_run F full) (zm_call (zm_run F) full) zrt none full (pc, .ishl, a, b, ts, v) rest lz zst s = some res ∧ Pq res := by
  have h : xm_int2 .ishl st E (fun st E => ih1 rest lv st G E kc ks) = true := h
  obtain ⟨w, u, st', zst', rfl, rfl, pw, pu, ⟨y, x, rfl, rfl⟩, ht⟩ := zs_2 (P := zPI) hs (f := fun st => xm_int2 .ishl st E (fun st E => ih1 rest lv st G E kc ks)) h rfl (fun w => by cases w <;> rfl) (fun w u st hw hu e => by cases w <;> cases u <;> first | rfl | (cases hw; done) | (cases hu; done) | exact absurd ⟨_, _, rfl, rfl⟩ e)
  have k0 : ∀ k : List Value → xm_R → Bool, xm_int2 .ishl (.int y :: .int x :: st') E k = k (.int (x <<< (y &&& 31)) :: st') E := fun k => by show xm_int2 .ishl (.int y :: .int x :: st') E k = _; exact ys_fi2 rfl
  rw [k0] at h
  exact hi rest lv _ G kc ks lz _ s hl hn (zsr_c rfl rfl (by unfold zshl; rw [Int32.ofInt_toInt, Int32.ofInt_toInt]; rfl) ht) hR h
theorem zx_ishr  (hi : zJH full ih1 nL E Pq) (hl : zL lv lz) (hn : lz.length = nL) (hs : zsr st zst) (hR : zR G s) (h : xm_body call full nL mc ms ret Q1 ih1 (pc, .ishr, a, b, ts, v) rest lv st G E kc ks = true) : ∃ F res, zm_body (zm_run F full) (zm_call (zm_run F) full) zrt none full (pc, .ishr, a, b, ts, v) rest lz zst s = some res ∧ Pq res := by
  have h : xm_ishr st E (fun st E => ih1 rest lv st G E kc ks) = true := h
  obtain ⟨w, u, st', zst', rfl, rfl, pw, pu, ⟨y, x, rfl, rfl⟩, ht⟩ := zs_2 (P := zPI) hs (f := fun st => xm_ishr st E (fun st E => ih1 rest lv st G E kc ks)) h rfl (fun w => by cases w <;> rfl) (fun w u st hw hu e => by cases w <;> cases u <;> first | rfl | (cases hw; done) | (cases hu; done) | exact absurd ⟨_, _, rfl, rfl⟩ e)
  have k0 : ∀ k : List Value → xm_R → Bool, xm_ishr (.int y :: .int x :: st') E k = k (.int (x >>> (y &&& 31)) :: st') E := fun k => by show xm_int2 .ishr (.int y :: .int x :: st') E k = _; exact ys_fi2 rfl
  rw [k0] at h
  exact hi rest lv _ G kc ks lz _ s hl hn (zsr_c rfl rfl (by unfold zshr; rw [Int32.ofInt_toInt, Int32.ofInt_toInt]; rfl) ht) hR h
theorem zx_iushr  (hi : zJH full ih1 nL E Pq) (hl : zL lv lz) (hn : lz.length = nL) (hs : zsr st zst) (hR : zR G s) (h : xm_body call full nL mc ms ret Q1 ih1 (pc, .iushr, a, b, ts, v) rest lv st G E kc ks = true) : ∃ F res, zm_body (zm_run F full) (zm_call (zm_run F) full) zrt none full (pc, .iushr, a, b, ts, v) rest lz zst s = some res ∧ Pq res := by
  have h : xm_int2 .iushr st E (fun st E => ih1 rest lv st G E kc ks) = true := h
  obtain ⟨w, u, st', zst', rfl, rfl, pw, pu, ⟨y, x, rfl, rfl⟩, ht⟩ := zs_2 (P := zPI) hs (f := fun st => xm_int2 .iushr st E (fun st E => ih1 rest lv st G E kc ks)) h rfl (fun w => by cases w <;> rfl) (fun w u st hw hu e => by cases w <;> cases u <;> first | rfl | (cases hw; done) | (cases hu; done) | exact absurd ⟨_, _, rfl, rfl⟩ e)
  have k0 : ∀ k : List Value → xm_R → Bool, xm_int2 .iushr (.int y :: .int x :: st') E k = k (.int ((x.toUInt32 >>> (y.toUInt32 &&& Int32.toUInt32 31)).toInt32) :: st') E := fun k => by show xm_int2 .iushr (.int y :: .int x :: st') E k = _; exact ys_fi2 rfl
  rw [k0] at h
  exact hi rest lv _ G kc ks lz _ s hl hn (zsr_c rfl rfl (by unfold zushr; rw [Int32.ofInt_toInt, Int32.ofInt_toInt]; rfl) ht) hR h
theorem zx_idiv  (hi : zJH full ih1 nL E Pq) (hl : zL lv lz) (hn : lz.length = nL) (hs : zsr st zst) (hR : zR G s) (h : xm_body call full nL mc ms ret Q1 ih1 (pc, .idiv, a, b, ts, v) rest lv st G E kc ks = true) : ∃ F res, zm_body (zm_run F full) (zm_call (zm_run F) full) zrt none full (pc, .idiv, a, b, ts, v) rest lz zst s = some res ∧ Pq res := by
  have h : xm_int2 .idiv st E (fun st E => ih1 rest lv st G E kc ks) = true := h
  obtain ⟨w, u, st', zst', rfl, rfl, pw, pu, ⟨y, x, rfl, rfl⟩, ht⟩ := zs_2 (P := zPI) hs (f := fun st => xm_int2 .idiv st E (fun st E => ih1 rest lv st G E kc ks)) h rfl (fun w => by cases w <;> rfl) (fun w u st hw hu e => by cases w <;> cases u <;> first | rfl | (cases hw; done) | (cases hu; done) | exact absurd ⟨_, _, rfl, rfl⟩ e)
  by_cases hy : y = 0
  · subst hy
    have h : xm_int2 .idiv (.int 0 :: .int x :: st') E (fun st E => ih1 rest lv st G E kc ks) = true := h
    exact absurd (show false = true from h) (by decide)
  have k0 : ∀ k : List Value → xm_R → Bool, xm_int2 .idiv (.int y :: .int x :: st') E k = k (.int (x / y) :: st') E := fun k => ys_fi2 (by
    show (bif decide (y = 0) then none else some _) = _
    rw [decide_eq_false hy]
    rfl)
  rw [k0] at h
  exact hi rest lv _ G kc ks lz _ s hl hn (zsr_c rfl rfl (by unfold zdiv; rw [Int32.ofInt_toInt, Int32.ofInt_toInt]; rfl) ht) hR h
theorem zx_irem  (hi : zJH full ih1 nL E Pq) (hl : zL lv lz) (hn : lz.length = nL) (hs : zsr st zst) (hR : zR G s) (h : xm_body call full nL mc ms ret Q1 ih1 (pc, .irem, a, b, ts, v) rest lv st G E kc ks = true) : ∃ F res, zm_body (zm_run F full) (zm_call (zm_run F) full) zrt none full (pc, .irem, a, b, ts, v) rest lz zst s = some res ∧ Pq res := by
  have h : xm_int2 .irem st E (fun st E => ih1 rest lv st G E kc ks) = true := h
  obtain ⟨w, u, st', zst', rfl, rfl, pw, pu, ⟨y, x, rfl, rfl⟩, ht⟩ := zs_2 (P := zPI) hs (f := fun st => xm_int2 .irem st E (fun st E => ih1 rest lv st G E kc ks)) h rfl (fun w => by cases w <;> rfl) (fun w u st hw hu e => by cases w <;> cases u <;> first | rfl | (cases hw; done) | (cases hu; done) | exact absurd ⟨_, _, rfl, rfl⟩ e)
  by_cases hy : y = 0
  · subst hy
    have h : xm_int2 .irem (.int 0 :: .int x :: st') E (fun st E => ih1 rest lv st G E kc ks) = true := h
    exact absurd (show false = true from h) (by decide)
  have k0 : ∀ k : List Value → xm_R → Bool, xm_int2 .irem (.int y :: .int x :: st') E k = k (.int (x - x / y * y) :: st') E := fun k => ys_fi2 (by
    show (bif decide (y = 0) then none else some _) = _
    rw [decide_eq_false hy]
    rfl)
  rw [k0] at h
  exact hi rest lv _ G kc ks lz _ s hl hn (zsr_c rfl rfl (by unfold zrem; rw [Int32.ofInt_toInt, Int32.ofInt_toInt]; rfl) ht) hR h
theorem zx_ladd  (hi : zJH full ih1 nL E Pq) (hl : zL lv lz) (hn : lz.length = nL) (hs : zsr st zst) (hR : zR G s) (h : xm_body call full nL mc ms ret Q1 ih1 (pc, .ladd, a, b, ts, v) rest lv st G E kc ks = true) : ∃ F res, zm_body (zm_run F full) (zm_call (zm_run F) full) zrt none full (pc, .ladd, a, b, ts, v) rest lz zst s = some res ∧ Pq res := by
  have h : xm_long2 .ladd st (fun st => ih1 rest lv st G E kc ks) = true := h
  obtain ⟨w, u, st', zst', rfl, rfl, pw, pu, ⟨y, x, rfl, rfl⟩, ht⟩ := zs_2 (P := zPL) hs (f := fun st => xm_long2 .ladd st (fun st => ih1 rest lv st G E kc ks)) h rfl (fun w => by cases w <;> rfl) (fun w u st hw hu e => by cases w <;> cases u <;> first | rfl | (cases hw; done) | (cases hu; done) | exact absurd ⟨_, _, rfl, rfl⟩ e)
  have h : ih1 rest lv (.long (x + y) :: st') G E kc ks = true := h
  exact hi rest lv _ G kc ks lz _ s hl hn (zsr_c rfl rfl (zq_add x y) ht) hR h
theorem zx_lsub  (hi : zJH full ih1 nL E Pq) (hl : zL lv lz) (hn : lz.length = nL) (hs : zsr st zst) (hR : zR G s) (h : xm_body call full nL mc ms ret Q1 ih1 (pc, .lsub, a, b, ts, v) rest lv st G E kc ks = true) : ∃ F res, zm_body (zm_run F full) (zm_call (zm_run F) full) zrt none full (pc, .lsub, a, b, ts, v) rest lz zst s = some res ∧ Pq res := by
  have h : xm_long2 .lsub st (fun st => ih1 rest lv st G E kc ks) = true := h
  obtain ⟨w, u, st', zst', rfl, rfl, pw, pu, ⟨y, x, rfl, rfl⟩, ht⟩ := zs_2 (P := zPL) hs (f := fun st => xm_long2 .lsub st (fun st => ih1 rest lv st G E kc ks)) h rfl (fun w => by cases w <;> rfl) (fun w u st hw hu e => by cases w <;> cases u <;> first | rfl | (cases hw; done) | (cases hu; done) | exact absurd ⟨_, _, rfl, rfl⟩ e)
  have h : ih1 rest lv (.long (x - y) :: st') G E kc ks = true := h
  exact hi rest lv _ G kc ks lz _ s hl hn (zsr_c rfl rfl (zq_sub x y) ht) hR h
theorem zx_lmul  (hi : zJH full ih1 nL E Pq) (hl : zL lv lz) (hn : lz.length = nL) (hs : zsr st zst) (hR : zR G s) (h : xm_body call full nL mc ms ret Q1 ih1 (pc, .lmul, a, b, ts, v) rest lv st G E kc ks = true) : ∃ F res, zm_body (zm_run F full) (zm_call (zm_run F) full) zrt none full (pc, .lmul, a, b, ts, v) rest lz zst s = some res ∧ Pq res := by
  have h : xm_long2 .lmul st (fun st => ih1 rest lv st G E kc ks) = true := h
  obtain ⟨w, u, st', zst', rfl, rfl, pw, pu, ⟨y, x, rfl, rfl⟩, ht⟩ := zs_2 (P := zPL) hs (f := fun st => xm_long2 .lmul st (fun st => ih1 rest lv st G E kc ks)) h rfl (fun w => by cases w <;> rfl) (fun w u st hw hu e => by cases w <;> cases u <;> first | rfl | (cases hw; done) | (cases hu; done) | exact absurd ⟨_, _, rfl, rfl⟩ e)
  have h : ih1 rest lv (.long (x * y) :: st') G E kc ks = true := h
  exact hi rest lv _ G kc ks lz _ s hl hn (zsr_c rfl rfl (zq_mul x y) ht) hR h
theorem zx_land  (hi : zJH full ih1 nL E Pq) (hl : zL lv lz) (hn : lz.length = nL) (hs : zsr st zst) (hR : zR G s) (h : xm_body call full nL mc ms ret Q1 ih1 (pc, .land, a, b, ts, v) rest lv st G E kc ks = true) : ∃ F res, zm_body (zm_run F full) (zm_call (zm_run F) full) zrt none full (pc, .land, a, b, ts, v) rest lz zst s = some res ∧ Pq res := by
  have h : xm_long2 .land st (fun st => ih1 rest lv st G E kc ks) = true := h
  obtain ⟨w, u, st', zst', rfl, rfl, pw, pu, ⟨y, x, rfl, rfl⟩, ht⟩ := zs_2 (P := zPL) hs (f := fun st => xm_long2 .land st (fun st => ih1 rest lv st G E kc ks)) h rfl (fun w => by cases w <;> rfl) (fun w u st hw hu e => by cases w <;> cases u <;> first | rfl | (cases hw; done) | (cases hu; done) | exact absurd ⟨_, _, rfl, rfl⟩ e)
  have h : ih1 rest lv (.long (x &&& y) :: st') G E kc ks = true := h
  exact hi rest lv _ G kc ks lz _ s hl hn (zsr_c rfl rfl (by unfold zqand; rw [Int64.ofInt_toInt, Int64.ofInt_toInt]; rfl) ht) hR h
theorem zx_lor  (hi : zJH full ih1 nL E Pq) (hl : zL lv lz) (hn : lz.length = nL) (hs : zsr st zst) (hR : zR G s) (h : xm_body call full nL mc ms ret Q1 ih1 (pc, .lor, a, b, ts, v) rest lv st G E kc ks = true) : ∃ F res, zm_body (zm_run F full) (zm_call (zm_run F) full) zrt none full (pc, .lor, a, b, ts, v) rest lz zst s = some res ∧ Pq res := by
  have h : xm_long2 .lor st (fun st => ih1 rest lv st G E kc ks) = true := h
  obtain ⟨w, u, st', zst', rfl, rfl, pw, pu, ⟨y, x, rfl, rfl⟩, ht⟩ := zs_2 (P := zPL) hs (f := fun st => xm_long2 .lor st (fun st => ih1 rest lv st G E kc ks)) h rfl (fun w => by cases w <;> rfl) (fun w u st hw hu e => by cases w <;> cases u <;> first | rfl | (cases hw; done) | (cases hu; done) | exact absurd ⟨_, _, rfl, rfl⟩ e)
  have h : ih1 rest lv (.long (x ||| y) :: st') G E kc ks = true := h
  exact hi rest lv _ G kc ks lz _ s hl hn (zsr_c rfl rfl (by unfold zqor; rw [Int64.ofInt_toInt, Int64.ofInt_toInt]; rfl) ht) hR h
theorem zx_ldiv  (hi : zJH full ih1 nL E Pq) (hl : zL lv lz) (hn : lz.length = nL) (hs : zsr st zst) (hR : zR G s) (h : xm_body call full nL mc ms ret Q1 ih1 (pc, .ldiv, a, b, ts, v) rest lv st G E kc ks = true) : ∃ F res, zm_body (zm_run F full) (zm_call (zm_run F) full) zrt none full (pc, .ldiv, a, b, ts, v) rest lz zst s = some res ∧ Pq res := by
  have h : xm_long2 .ldiv st (fun st => ih1 rest lv st G E kc ks) = true := h
  obtain ⟨w, u, st', zst', rfl, rfl, pw, pu, ⟨y, x, rfl, rfl⟩, ht⟩ := zs_2 (P := zPL) hs (f := fun st => xm_long2 .ldiv st (fun st => ih1 rest lv st G E kc ks)) h rfl (fun w => by cases w <;> rfl) (fun w u st hw hu e => by cases w <;> cases u <;> first | rfl | (cases hw; done) | (cases hu; done) | exact absurd ⟨_, _, rfl, rfl⟩ e)
  by_cases hy : y = 0
  · subst hy
    exact absurd (show false = true from h) (by decide)
  have k0 : ∀ k : List Value → Bool, xm_long2 .ldiv (.long y :: .long x :: st') k = k (.long (x / y) :: st') := fun k => by
    show (match (bif decide (y = 0) then none else some (x / y)) with
      | some z => k (.long z :: st')
      | none => false) = _
    rw [decide_eq_false hy]
    rfl
  rw [k0] at h
  exact hi rest lv _ G kc ks lz _ s hl hn (zsr_c rfl rfl (by unfold zqdiv; rw [Int64.ofInt_toInt, Int64.ofInt_toInt]; rfl) ht) hR h
theorem zx_lrem  (hi : zJH full ih1 nL E Pq) (hl : zL lv lz) (hn : lz.length = nL) (hs : zsr st zst) (hR : zR G s) (h : xm_body call full nL mc ms ret Q1 ih1 (pc, .lrem, a, b, ts, v) rest lv st G E kc ks = true) : ∃ F res, zm_body (zm_run F full) (zm_call (zm_run F) full) zrt none full (pc, .lrem, a, b, ts, v) rest lz zst s = some res ∧ Pq res := by
  have h : xm_long2 .lrem st (fun st => ih1 rest lv st G E kc ks) = true := h
  obtain ⟨w, u, st', zst', rfl, rfl, pw, pu, ⟨y, x, rfl, rfl⟩, ht⟩ := zs_2 (P := zPL) hs (f := fun st => xm_long2 .lrem st (fun st => ih1 rest lv st G E kc ks)) h rfl (fun w => by cases w <;> rfl) (fun w u st hw hu e => by cases w <;> cases u <;> first | rfl | (cases hw; done) | (cases hu; done) | exact absurd ⟨_, _, rfl, rfl⟩ e)
  by_cases hy : y = 0
  · subst hy
    exact absurd (show false = true from h) (by decide)
  have k0 : ∀ k : List Value → Bool, xm_long2 .lrem (.long y :: .long x :: st') k = k (.long (x - x / y * y) :: st') := fun k => by
    show (match (bif decide (y = 0) then none else some (x - x / y * y)) with
      | some z => k (.long z :: st')
      | none => false) = _
    rw [decide_eq_false hy]
    rfl
  rw [k0] at h
  exact hi rest lv _ G kc ks lz _ s hl hn (zsr_c rfl rfl (by unfold zqrem; rw [Int64.ofInt_toInt, Int64.ofInt_toInt]; rfl) ht) hR h
theorem zx_lshl  (hi : zJH full ih1 nL E Pq) (hl : zL lv lz) (hn : lz.length = nL) (hs : zsr st zst) (hR : zR G s) (h : xm_body call full nL mc ms ret Q1 ih1 (pc, .lshl, a, b, ts, v) rest lv st G E kc ks = true) : ∃ F res, zm_body (zm_run F full) (zm_call (zm_run F) full) zrt none full (pc, .lshl, a, b, ts, v) rest lz zst s = some res ∧ Pq res := by
  have h : (match (generalizing := false) st with
    | .int y :: .long x :: st => ih1 rest lv (.long (x <<< (y.toInt64 &&& 63)) :: st) G E kc ks
    | _ => false) = true := h
  obtain ⟨w, u, st', zst', rfl, rfl, pw, pu, ⟨y, x, rfl, rfl⟩, ht⟩ := zs_2 (P := fun w u => ∃ y x, w = .int y ∧ u = .long x) hs (f := fun st => (match (generalizing := false) st with
    | .int y :: .long x :: st => ih1 rest lv (.long (x <<< (y.toInt64 &&& 63)) :: st) G E kc ks
    | _ => false)) h rfl (fun w => by cases w <;> rfl) (fun w u st hw hu e => by cases w <;> cases u <;> first | rfl | (cases hw; done) | (cases hu; done) | exact absurd ⟨_, _, rfl, rfl⟩ e)
  exact hi rest lv _ G kc ks lz _ s hl hn (zsr_c rfl rfl (by unfold zqshl; rw [Int64.ofInt_toInt, Int32.ofInt_toInt]; rfl) ht) hR h
theorem zx_lshr  (hi : zJH full ih1 nL E Pq) (hl : zL lv lz) (hn : lz.length = nL) (hs : zsr st zst) (hR : zR G s) (h : xm_body call full nL mc ms ret Q1 ih1 (pc, .lshr, a, b, ts, v) rest lv st G E kc ks = true) : ∃ F res, zm_body (zm_run F full) (zm_call (zm_run F) full) zrt none full (pc, .lshr, a, b, ts, v) rest lz zst s = some res ∧ Pq res := by
  have h : (match (generalizing := false) st with
    | .int y :: .long x :: st => ih1 rest lv (.long (x >>> (y.toInt64 &&& 63)) :: st) G E kc ks
    | _ => false) = true := h
  obtain ⟨w, u, st', zst', rfl, rfl, pw, pu, ⟨y, x, rfl, rfl⟩, ht⟩ := zs_2 (P := fun w u => ∃ y x, w = .int y ∧ u = .long x) hs (f := fun st => (match (generalizing := false) st with
    | .int y :: .long x :: st => ih1 rest lv (.long (x >>> (y.toInt64 &&& 63)) :: st) G E kc ks
    | _ => false)) h rfl (fun w => by cases w <;> rfl) (fun w u st hw hu e => by cases w <;> cases u <;> first | rfl | (cases hw; done) | (cases hu; done) | exact absurd ⟨_, _, rfl, rfl⟩ e)
  exact hi rest lv _ G kc ks lz _ s hl hn (zsr_c rfl rfl (by unfold zqshr; rw [Int64.ofInt_toInt, Int32.ofInt_toInt]; rfl) ht) hR h
theorem zx_lcmp  (hi : zJH full ih1 nL E Pq) (hl : zL lv lz) (hn : lz.length = nL) (hs : zsr st zst) (hR : zR G s) (h : xm_body call full nL mc ms ret Q1 ih1 (pc, .lcmp, a, b, ts, v) rest lv st G E kc ks = true) : ∃ F res, zm_body (zm_run F full) (zm_call (zm_run F) full) zrt none full (pc, .lcmp, a, b, ts, v) rest lz zst s = some res ∧ Pq res := by
  have h : (match (generalizing := false) st with
    | w :: u :: st => xm_cmpL E u w (fun E s => ih1 rest lv (.int (Int32.ofInt s) :: st) G E kc ks)
    | _ => false) = true := h
  obtain ⟨w, u, st', zst', rfl, rfl, pw, pu, ⟨y, x, rfl, rfl⟩, ht⟩ := zs_2 (P := zPL) hs (f := fun st => (match (generalizing := false) st with
    | w :: u :: st => xm_cmpL E u w (fun E s => ih1 rest lv (.int (Int32.ofInt s) :: st) G E kc ks)
    | _ => false)) h rfl (fun w => by cases w <;> rfl) (fun w u st hw hu e => by cases w <;> cases u <;> first | rfl | (cases hw; done) | (cases hu; done) | exact absurd ⟨_, _, rfl, rfl⟩ e)
  have h : ih1 rest lv (.int (Int32.ofInt (xm_sgn x.toInt y.toInt)) :: st') G E kc ks = true := h
  refine hi rest lv _ G kc ks lz _ s hl hn (zsr_c rfl rfl ?_ ht) hR h
  show (Int32.ofInt (xm_sgn x.toInt y.toInt)).toInt = zsg x.toInt y.toInt
  unfold xm_sgn zsg
  by_cases e : x.toInt < y.toInt
  · rw [decide_eq_true e, if_pos e]
    rfl
  · rw [decide_eq_false e, if_neg e]
    by_cases e2 : x.toInt = y.toInt
    · rw [decide_eq_true e2, if_pos e2]
      rfl
    · rw [decide_eq_false e2, if_neg e2]
      rfl
theorem zx_ineg  (hi : zJH full ih1 nL E Pq) (hl : zL lv lz) (hn : lz.length = nL) (hs : zsr st zst) (hR : zR G s) (h : xm_body call full nL mc ms ret Q1 ih1 (pc, .ineg, a, b, ts, v) rest lv st G E kc ks = true) : ∃ F res, zm_body (zm_run F full) (zm_call (zm_run F) full) zrt none full (pc, .ineg, a, b, ts, v) rest lz zst s = some res ∧ Pq res := by
  have h : (match (generalizing := false) st with
    | w :: st => xm_conc E w (fun E x => xm_frc (-x) (fun z => ih1 rest lv (.int z :: st) G E kc ks))
    | _ => false) = true := h
  obtain ⟨w, st', zst', rfl, rfl, pw, ⟨x, rfl⟩, ht⟩ := zs_1 (P := fun w => ∃ x, w = .int x) hs (f := fun st => (match (generalizing := false) st with
    | w :: st => xm_conc E w (fun E x => xm_frc (-x) (fun z => ih1 rest lv (.int z :: st) G E kc ks))
    | _ => false)) h rfl (fun w st hw e => by cases w <;> first | rfl | (cases hw; done) | exact absurd ⟨_, rfl⟩ e)
  have h : xm_frc (-x) (fun z => ih1 rest lv (.int z :: st') G E kc ks) = true := h
  rw [xl_frc] at h
  have h : ih1 rest lv (.int (-x) :: st') G E kc ks = true := h
  exact hi rest lv _ G kc ks lz _ s hl hn (zsr_c rfl rfl (zw_neg x) ht) hR h
theorem zx_i2b  (hi : zJH full ih1 nL E Pq) (hl : zL lv lz) (hn : lz.length = nL) (hs : zsr st zst) (hR : zR G s) (h : xm_body call full nL mc ms ret Q1 ih1 (pc, .i2b, a, b, ts, v) rest lv st G E kc ks = true) : ∃ F res, zm_body (zm_run F full) (zm_call (zm_run F) full) zrt none full (pc, .i2b, a, b, ts, v) rest lz zst s = some res ∧ Pq res := by
  have h : xm_i2b st E (fun st E => ih1 rest lv st G E kc ks) = true := h
  obtain ⟨w, st', zst', rfl, rfl, pw, ⟨x, rfl⟩, ht⟩ := zs_1 (P := fun w => ∃ x, w = .int x) hs (f := fun st => xm_i2b st E (fun st E => ih1 rest lv st G E kc ks)) h rfl (fun w st hw e => by cases w <;> first | rfl | (cases hw; done) | exact absurd ⟨_, rfl⟩ e)
  have h : ih1 rest lv (.int x.toInt8.toInt32 :: st') G E kc ks = true := h
  exact hi rest lv _ G kc ks lz _ s hl hn (zsr_c rfl rfl (by unfold zb; rw [Int32.ofInt_toInt]; rfl) ht) hR h
theorem zx_i2l  (hi : zJH full ih1 nL E Pq) (hl : zL lv lz) (hn : lz.length = nL) (hs : zsr st zst) (hR : zR G s) (h : xm_body call full nL mc ms ret Q1 ih1 (pc, .i2l, a, b, ts, v) rest lv st G E kc ks = true) : ∃ F res, zm_body (zm_run F full) (zm_call (zm_run F) full) zrt none full (pc, .i2l, a, b, ts, v) rest lz zst s = some res ∧ Pq res := by
  have h : xm_i2l st (fun st => ih1 rest lv st G E kc ks) = true := h
  obtain ⟨w, st', zst', rfl, rfl, pw, ⟨x, rfl⟩, ht⟩ := zs_1 (P := fun w => ∃ x, w = .int x) hs (f := fun st => xm_i2l st (fun st => ih1 rest lv st G E kc ks)) h rfl (fun w st hw e => by cases w <;> first | rfl | (cases hw; done) | exact absurd ⟨_, rfl⟩ e)
  have h : ih1 rest lv (.long x.toInt64 :: st') G E kc ks = true := h
  exact hi rest lv _ G kc ks lz _ s hl hn (zsr_c rfl rfl (Int32.toInt_toInt64 x) ht) hR h
theorem zx_l2i  (hi : zJH full ih1 nL E Pq) (hl : zL lv lz) (hn : lz.length = nL) (hs : zsr st zst) (hR : zR G s) (h : xm_body call full nL mc ms ret Q1 ih1 (pc, .l2i, a, b, ts, v) rest lv st G E kc ks = true) : ∃ F res, zm_body (zm_run F full) (zm_call (zm_run F) full) zrt none full (pc, .l2i, a, b, ts, v) rest lz zst s = some res ∧ Pq res := by
  have h : (match (generalizing := false) st with
    | .long x :: st => xm_frc x.toInt32 (fun z => ih1 rest lv (.int z :: st) G E kc ks)
    | _ => false) = true := h
  obtain ⟨w, st', zst', rfl, rfl, pw, ⟨x, rfl⟩, ht⟩ := zs_1 (P := fun w => ∃ x, w = .long x) hs (f := fun st => (match (generalizing := false) st with
    | .long x :: st => xm_frc x.toInt32 (fun z => ih1 rest lv (.int z :: st) G E kc ks)
    | _ => false)) h rfl (fun w st hw e => by cases w <;> first | rfl | (cases hw; done) | exact absurd ⟨_, rfl⟩ e)
  have h : xm_frc x.toInt32 (fun z => ih1 rest lv (.int z :: st') G E kc ks) = true := h
  rw [xl_frc] at h
  have h : ih1 rest lv (.int x.toInt32 :: st') G E kc ks = true := h
  exact hi rest lv _ G kc ks lz _ s hl hn (zsr_c rfl rfl (Int64.toInt_toInt32 x) ht) hR h
theorem zx_dup  (hi : zJH full ih1 nL E Pq) (hl : zL lv lz) (hn : lz.length = nL) (hs : zsr st zst) (hR : zR G s) (h : xm_body call full nL mc ms ret Q1 ih1 (pc, .dup, a, b, ts, v) rest lv st G E kc ks = true) : ∃ F res, zm_body (zm_run F full) (zm_call (zm_run F) full) zrt none full (pc, .dup, a, b, ts, v) rest lz zst s = some res ∧ Pq res := by
  have h : (match (generalizing := false) st with
    | w :: st => bif xm_cat1 w then ih1 rest lv (w :: w :: st) G E kc ks else false
    | _ => false) = true := h
  obtain ⟨w, st', zst', rfl, rfl, pw, e, ht⟩ := zs_1 (P := fun w => xm_cat1 w = true) hs (f := fun st => (match (generalizing := false) st with
    | w :: st => bif xm_cat1 w then ih1 rest lv (w :: w :: st) G E kc ks else false
    | _ => false)) h rfl (fun w st hw e => by show (bif xm_cat1 w then _ else false) = false; rw [Bool.eq_false_iff.mpr e]; rfl)
  dsimp only at h
  rw [e, cond_true] at h
  exact hi rest lv _ G kc ks lz _ s hl hn (zsr_c pw rfl rfl (zsr_c pw rfl rfl ht)) hR h
theorem zx_pop  (hi : zJH full ih1 nL E Pq) (hl : zL lv lz) (hn : lz.length = nL) (hs : zsr st zst) (hR : zR G s) (h : xm_body call full nL mc ms ret Q1 ih1 (pc, .pop, a, b, ts, v) rest lv st G E kc ks = true) : ∃ F res, zm_body (zm_run F full) (zm_call (zm_run F) full) zrt none full (pc, .pop, a, b, ts, v) rest lz zst s = some res ∧ Pq res := by
  have h : (match (generalizing := false) st with
    | w :: st => bif xm_cat1 w then ih1 rest lv (st) G E kc ks else false
    | _ => false) = true := h
  obtain ⟨w, st', zst', rfl, rfl, pw, e, ht⟩ := zs_1 (P := fun w => xm_cat1 w = true) hs (f := fun st => (match (generalizing := false) st with
    | w :: st => bif xm_cat1 w then ih1 rest lv (st) G E kc ks else false
    | _ => false)) h rfl (fun w st hw e => by show (bif xm_cat1 w then _ else false) = false; rw [Bool.eq_false_iff.mpr e]; rfl)
  dsimp only at h
  rw [e, cond_true] at h
  exact hi rest lv _ G kc ks lz _ s hl hn ht hR h
theorem zx_dup2  (hi : zJH full ih1 nL E Pq) (hl : zL lv lz) (hn : lz.length = nL) (hs : zsr st zst) (hR : zR G s) (h : xm_body call full nL mc ms ret Q1 ih1 (pc, .dup2, a, b, ts, v) rest lv st G E kc ks = true) : ∃ F res, zm_body (zm_run F full) (zm_call (zm_run F) full) zrt none full (pc, .dup2, a, b, ts, v) rest lz zst s = some res ∧ Pq res := by
  have h : (match (generalizing := false) st with
    | w :: u :: st => bif xm_cat1 w && xm_cat1 u then ih1 rest lv (w :: u :: w :: u :: st) G E kc ks else false
    | _ => false) = true := h
  obtain ⟨w, u, st', zst', rfl, rfl, pw, pu, e, ht⟩ := zs_2 (P := fun w u => (xm_cat1 w && xm_cat1 u) = true) hs (f := fun st => (match (generalizing := false) st with
    | w :: u :: st => bif xm_cat1 w && xm_cat1 u then ih1 rest lv (w :: u :: w :: u :: st) G E kc ks else false
    | _ => false)) h rfl (fun _ => rfl) (fun w u st hw hu e => by show (bif xm_cat1 w && xm_cat1 u then _ else false) = false; rw [Bool.eq_false_iff.mpr e]; rfl)
  dsimp only at h
  rw [e, cond_true] at h
  exact hi rest lv _ G kc ks lz _ s hl hn (zsr_c pw rfl rfl (zsr_c pu rfl rfl (zsr_c pw rfl rfl (zsr_c pu rfl rfl ht)))) hR h
theorem zx_goto {off : Int} (hi : zJH full ih1 nL E Pq) (hl : zL lv lz) (hn : lz.length = nL) (hs : zsr st zst) (hR : zR G s) (h : xm_body call full nL mc ms ret Q1 ih1 (pc, .goto off, a, b, ts, v) rest lv st G E kc ks = true) : ∃ F res, zm_body (zm_run F full) (zm_call (zm_run F) full) zrt none full (pc, .goto off, a, b, ts, v) rest lz zst s = some res ∧ Pq res := by
  exact hi (xm_drop a full) lv st G kc ks lz zst s hl hn hs hR h
theorem zx_iload {n : Nat} (hi : zJH full ih1 nL E Pq) (hl : zL lv lz) (hn : lz.length = nL) (hs : zsr st zst) (hR : zR G s) (h : xm_body call full nL mc ms ret Q1 ih1 (pc, .iload n, a, b, ts, v) rest lv st G E kc ks = true) : ∃ F res, zm_body (zm_run F full) (zm_call (zm_run F) full) zrt none full (pc, .iload n, a, b, ts, v) rest lz zst s = some res ∧ Pq res := by
  have h : (match xm_get lv a with
    | some w => bif xm_isI w then ih1 rest lv (w :: st) G E kc ks else false
    | none => false) = true := h
  cases hg : xm_get lv a with
  | none => rw [hg] at h; cases h
  | some w =>
    rw [hg] at h
    dsimp only at h
    obtain ⟨pw, gw⟩ := zl_get hl hg
    cases e : xm_isI w with
    | false => rw [e] at h; cases h
    | true =>
      rw [e, cond_true] at h
      have el : xm_isL w = false := by cases w <;> first | rfl | (cases e; done) | (cases pw; done)
      exact hi rest lv (w :: st) G kc ks lz _ s hl hn (zsr_c pw el gw.symm hs) hR h
theorem zx_iload_n {n : Fin 4} (hi : zJH full ih1 nL E Pq) (hl : zL lv lz) (hn : lz.length = nL) (hs : zsr st zst) (hR : zR G s) (h : xm_body call full nL mc ms ret Q1 ih1 (pc, .iload_n n, a, b, ts, v) rest lv st G E kc ks = true) : ∃ F res, zm_body (zm_run F full) (zm_call (zm_run F) full) zrt none full (pc, .iload_n n, a, b, ts, v) rest lz zst s = some res ∧ Pq res := by
  have h : (match xm_get lv a with
    | some w => bif xm_isI w then ih1 rest lv (w :: st) G E kc ks else false
    | none => false) = true := h
  cases hg : xm_get lv a with
  | none => rw [hg] at h; cases h
  | some w =>
    rw [hg] at h
    dsimp only at h
    obtain ⟨pw, gw⟩ := zl_get hl hg
    cases e : xm_isI w with
    | false => rw [e] at h; cases h
    | true =>
      rw [e, cond_true] at h
      have el : xm_isL w = false := by cases w <;> first | rfl | (cases e; done) | (cases pw; done)
      exact hi rest lv (w :: st) G kc ks lz _ s hl hn (zsr_c pw el gw.symm hs) hR h
theorem zx_lload {n : Nat} (hi : zJH full ih1 nL E Pq) (hl : zL lv lz) (hn : lz.length = nL) (hs : zsr st zst) (hR : zR G s) (h : xm_body call full nL mc ms ret Q1 ih1 (pc, .lload n, a, b, ts, v) rest lv st G E kc ks = true) : ∃ F res, zm_body (zm_run F full) (zm_call (zm_run F) full) zrt none full (pc, .lload n, a, b, ts, v) rest lz zst s = some res ∧ Pq res := by
  have h : (match xm_get lv a with
    | some w => bif xm_isL w then ih1 rest lv (w :: st) G E kc ks else false
    | none => false) = true := h
  cases hg : xm_get lv a with
  | none => rw [hg] at h; cases h
  | some w =>
    rw [hg] at h
    dsimp only at h
    obtain ⟨pw, gw⟩ := zl_get hl hg
    cases e : xm_isL w with
    | false => rw [e] at h; cases h
    | true =>
      rw [e, cond_true] at h
      have el : xm_isL w = true := by cases w <;> first | rfl | (cases e; done) | (cases pw; done)
      exact hi rest lv (w :: st) G kc ks lz _ s hl hn (zsr_c pw el gw.symm hs) hR h
theorem zx_lload_n {n : Fin 4} (hi : zJH full ih1 nL E Pq) (hl : zL lv lz) (hn : lz.length = nL) (hs : zsr st zst) (hR : zR G s) (h : xm_body call full nL mc ms ret Q1 ih1 (pc, .lload_n n, a, b, ts, v) rest lv st G E kc ks = true) : ∃ F res, zm_body (zm_run F full) (zm_call (zm_run F) full) zrt none full (pc, .lload_n n, a, b, ts, v) rest lz zst s = some res ∧ Pq res := by
  have h : (match xm_get lv a with
    | some w => bif xm_isL w then ih1 rest lv (w :: st) G E kc ks else false
    | none => false) = true := h
  cases hg : xm_get lv a with
  | none => rw [hg] at h; cases h
  | some w =>
    rw [hg] at h
    dsimp only at h
    obtain ⟨pw, gw⟩ := zl_get hl hg
    cases e : xm_isL w with
    | false => rw [e] at h; cases h
    | true =>
      rw [e, cond_true] at h
      have el : xm_isL w = true := by cases w <;> first | rfl | (cases e; done) | (cases pw; done)
      exact hi rest lv (w :: st) G kc ks lz _ s hl hn (zsr_c pw el gw.symm hs) hR h
theorem zx_aload {n : Nat} (hi : zJH full ih1 nL E Pq) (hl : zL lv lz) (hn : lz.length = nL) (hs : zsr st zst) (hR : zR G s) (h : xm_body call full nL mc ms ret Q1 ih1 (pc, .aload n, a, b, ts, v) rest lv st G E kc ks = true) : ∃ F res, zm_body (zm_run F full) (zm_call (zm_run F) full) zrt none full (pc, .aload n, a, b, ts, v) rest lz zst s = some res ∧ Pq res := by
  have h : (match xm_get lv a with
    | some w => bif xm_isA w then ih1 rest lv (w :: st) G E kc ks else false
    | none => false) = true := h
  cases hg : xm_get lv a with
  | none => rw [hg] at h; cases h
  | some w =>
    rw [hg] at h
    dsimp only at h
    obtain ⟨pw, gw⟩ := zl_get hl hg
    cases e : xm_isA w with
    | false => rw [e] at h; cases h
    | true =>
      rw [e, cond_true] at h
      have el : xm_isL w = false := by cases w <;> first | rfl | (cases e; done) | (cases pw; done)
      exact hi rest lv (w :: st) G kc ks lz _ s hl hn (zsr_c pw el gw.symm hs) hR h
theorem zx_aload_n {n : Fin 4} (hi : zJH full ih1 nL E Pq) (hl : zL lv lz) (hn : lz.length = nL) (hs : zsr st zst) (hR : zR G s) (h : xm_body call full nL mc ms ret Q1 ih1 (pc, .aload_n n, a, b, ts, v) rest lv st G E kc ks = true) : ∃ F res, zm_body (zm_run F full) (zm_call (zm_run F) full) zrt none full (pc, .aload_n n, a, b, ts, v) rest lz zst s = some res ∧ Pq res := by
  have h : (match xm_get lv a with
    | some w => bif xm_isA w then ih1 rest lv (w :: st) G E kc ks else false
    | none => false) = true := h
  cases hg : xm_get lv a with
  | none => rw [hg] at h; cases h
  | some w =>
    rw [hg] at h
    dsimp only at h
    obtain ⟨pw, gw⟩ := zl_get hl hg
    cases e : xm_isA w with
    | false => rw [e] at h; cases h
    | true =>
      rw [e, cond_true] at h
      have el : xm_isL w = false := by cases w <;> first | rfl | (cases e; done) | (cases pw; done)
      exact hi rest lv (w :: st) G kc ks lz _ s hl hn (zsr_c pw el gw.symm hs) hR h
theorem zx_istore {n : Nat} (hi : zJH full ih1 nL E Pq) (hl : zL lv lz) (hn : lz.length = nL) (hs : zsr st zst) (hR : zR G s) (h : xm_body call full nL mc ms ret Q1 ih1 (pc, .istore n, a, b, ts, v) rest lv st G E kc ks = true) : ∃ F res, zm_body (zm_run F full) (zm_call (zm_run F) full) zrt none full (pc, .istore n, a, b, ts, v) rest lz zst s = some res ∧ Pq res := by
  have h : (match (generalizing := false) st with
    | w :: st => bif xm_isI w && Nat.blt a nL then ih1 rest (xm_set1 lv a w) st G E kc ks else false
    | _ => false) = true := h
  obtain ⟨w, st', zst', rfl, rfl, pw, e, ht⟩ := zs_1 (P := fun w => (xm_isI w && Nat.blt a nL) = true) hs (f := fun st => (match (generalizing := false) st with
    | w :: st => bif xm_isI w && Nat.blt a nL then ih1 rest (xm_set1 lv a w) st G E kc ks else false
    | _ => false)) h rfl (fun w st hw e => by show (bif xm_isI w && Nat.blt a nL then _ else false) = false; rw [Bool.eq_false_iff.mpr e]; rfl)
  dsimp only at h
  rw [e, cond_true] at h
  rw [Bool.and_eq_true] at e
  have hb := Nat.le_of_ble_eq_true e.2
  exact hi rest _ st' G kc ks (zset lz a (zi w)) zst' s (zl_set1 hl (by omega) pw) (by rw [zl_len]; exact hn) ht hR h
theorem zx_istore_n {n : Fin 4} (hi : zJH full ih1 nL E Pq) (hl : zL lv lz) (hn : lz.length = nL) (hs : zsr st zst) (hR : zR G s) (h : xm_body call full nL mc ms ret Q1 ih1 (pc, .istore_n n, a, b, ts, v) rest lv st G E kc ks = true) : ∃ F res, zm_body (zm_run F full) (zm_call (zm_run F) full) zrt none full (pc, .istore_n n, a, b, ts, v) rest lz zst s = some res ∧ Pq res := by
  have h : (match (generalizing := false) st with
    | w :: st => bif xm_isI w && Nat.blt a nL then ih1 rest (xm_set1 lv a w) st G E kc ks else false
    | _ => false) = true := h
  obtain ⟨w, st', zst', rfl, rfl, pw, e, ht⟩ := zs_1 (P := fun w => (xm_isI w && Nat.blt a nL) = true) hs (f := fun st => (match (generalizing := false) st with
    | w :: st => bif xm_isI w && Nat.blt a nL then ih1 rest (xm_set1 lv a w) st G E kc ks else false
    | _ => false)) h rfl (fun w st hw e => by show (bif xm_isI w && Nat.blt a nL then _ else false) = false; rw [Bool.eq_false_iff.mpr e]; rfl)
  dsimp only at h
  rw [e, cond_true] at h
  rw [Bool.and_eq_true] at e
  have hb := Nat.le_of_ble_eq_true e.2
  exact hi rest _ st' G kc ks (zset lz a (zi w)) zst' s (zl_set1 hl (by omega) pw) (by rw [zl_len]; exact hn) ht hR h
theorem zx_lstore {n : Nat} (hi : zJH full ih1 nL E Pq) (hl : zL lv lz) (hn : lz.length = nL) (hs : zsr st zst) (hR : zR G s) (h : xm_body call full nL mc ms ret Q1 ih1 (pc, .lstore n, a, b, ts, v) rest lv st G E kc ks = true) : ∃ F res, zm_body (zm_run F full) (zm_call (zm_run F) full) zrt none full (pc, .lstore n, a, b, ts, v) rest lz zst s = some res ∧ Pq res := by
  have h : (match (generalizing := false) st with
    | w :: st => bif xm_isL w && Nat.blt (a + 1) nL then ih1 rest (xm_set2 lv a w) st G E kc ks else false
    | _ => false) = true := h
  obtain ⟨w, st', zst', rfl, rfl, pw, e, ht⟩ := zs_1 (P := fun w => (xm_isL w && Nat.blt (a + 1) nL) = true) hs (f := fun st => (match (generalizing := false) st with
    | w :: st => bif xm_isL w && Nat.blt (a + 1) nL then ih1 rest (xm_set2 lv a w) st G E kc ks else false
    | _ => false)) h rfl (fun w st hw e => by show (bif xm_isL w && Nat.blt (a + 1) nL then _ else false) = false; rw [Bool.eq_false_iff.mpr e]; rfl)
  dsimp only at h
  rw [e, cond_true] at h
  rw [Bool.and_eq_true] at e
  have hb := Nat.le_of_ble_eq_true e.2
  exact hi rest _ st' G kc ks (zset lz a (zi w)) zst' s (zl_set2 hl (by omega) pw) (by rw [zl_len]; exact hn) ht hR h
theorem zx_lstore_n {n : Fin 4} (hi : zJH full ih1 nL E Pq) (hl : zL lv lz) (hn : lz.length = nL) (hs : zsr st zst) (hR : zR G s) (h : xm_body call full nL mc ms ret Q1 ih1 (pc, .lstore_n n, a, b, ts, v) rest lv st G E kc ks = true) : ∃ F res, zm_body (zm_run F full) (zm_call (zm_run F) full) zrt none full (pc, .lstore_n n, a, b, ts, v) rest lz zst s = some res ∧ Pq res := by
  have h : (match (generalizing := false) st with
    | w :: st => bif xm_isL w && Nat.blt (a + 1) nL then ih1 rest (xm_set2 lv a w) st G E kc ks else false
    | _ => false) = true := h
  obtain ⟨w, st', zst', rfl, rfl, pw, e, ht⟩ := zs_1 (P := fun w => (xm_isL w && Nat.blt (a + 1) nL) = true) hs (f := fun st => (match (generalizing := false) st with
    | w :: st => bif xm_isL w && Nat.blt (a + 1) nL then ih1 rest (xm_set2 lv a w) st G E kc ks else false
    | _ => false)) h rfl (fun w st hw e => by show (bif xm_isL w && Nat.blt (a + 1) nL then _ else false) = false; rw [Bool.eq_false_iff.mpr e]; rfl)
  dsimp only at h
  rw [e, cond_true] at h
  rw [Bool.and_eq_true] at e
  have hb := Nat.le_of_ble_eq_true e.2
  exact hi rest _ st' G kc ks (zset lz a (zi w)) zst' s (zl_set2 hl (by omega) pw) (by rw [zl_len]; exact hn) ht hR h
theorem zx_astore {n : Nat} (hi : zJH full ih1 nL E Pq) (hl : zL lv lz) (hn : lz.length = nL) (hs : zsr st zst) (hR : zR G s) (h : xm_body call full nL mc ms ret Q1 ih1 (pc, .astore n, a, b, ts, v) rest lv st G E kc ks = true) : ∃ F res, zm_body (zm_run F full) (zm_call (zm_run F) full) zrt none full (pc, .astore n, a, b, ts, v) rest lz zst s = some res ∧ Pq res := by
  have h : (match (generalizing := false) st with
    | w :: st => bif xm_isA w && Nat.blt a nL then ih1 rest (xm_set1 lv a w) st G E kc ks else false
    | _ => false) = true := h
  obtain ⟨w, st', zst', rfl, rfl, pw, e, ht⟩ := zs_1 (P := fun w => (xm_isA w && Nat.blt a nL) = true) hs (f := fun st => (match (generalizing := false) st with
    | w :: st => bif xm_isA w && Nat.blt a nL then ih1 rest (xm_set1 lv a w) st G E kc ks else false
    | _ => false)) h rfl (fun w st hw e => by show (bif xm_isA w && Nat.blt a nL then _ else false) = false; rw [Bool.eq_false_iff.mpr e]; rfl)
  dsimp only at h
  rw [e, cond_true] at h
  rw [Bool.and_eq_true] at e
  have hb := Nat.le_of_ble_eq_true e.2
  exact hi rest _ st' G kc ks (zset lz a (zi w)) zst' s (zl_set1 hl (by omega) pw) (by rw [zl_len]; exact hn) ht hR h
theorem zx_astore_n {n : Fin 4} (hi : zJH full ih1 nL E Pq) (hl : zL lv lz) (hn : lz.length = nL) (hs : zsr st zst) (hR : zR G s) (h : xm_body call full nL mc ms ret Q1 ih1 (pc, .astore_n n, a, b, ts, v) rest lv st G E kc ks = true) : ∃ F res, zm_body (zm_run F full) (zm_call (zm_run F) full) zrt none full (pc, .astore_n n, a, b, ts, v) rest lz zst s = some res ∧ Pq res := by
  have h : (match (generalizing := false) st with
    | w :: st => bif xm_isA w && Nat.blt a nL then ih1 rest (xm_set1 lv a w) st G E kc ks else false
    | _ => false) = true := h
  obtain ⟨w, st', zst', rfl, rfl, pw, e, ht⟩ := zs_1 (P := fun w => (xm_isA w && Nat.blt a nL) = true) hs (f := fun st => (match (generalizing := false) st with
    | w :: st => bif xm_isA w && Nat.blt a nL then ih1 rest (xm_set1 lv a w) st G E kc ks else false
    | _ => false)) h rfl (fun w st hw e => by show (bif xm_isA w && Nat.blt a nL then _ else false) = false; rw [Bool.eq_false_iff.mpr e]; rfl)
  dsimp only at h
  rw [e, cond_true] at h
  rw [Bool.and_eq_true] at e
  have hb := Nat.le_of_ble_eq_true e.2
  exact hi rest _ st' G kc ks (zset lz a (zi w)) zst' s (zl_set1 hl (by omega) pw) (by rw [zl_len]; exact hn) ht hR h
theorem zx_iinc {n : Nat} {c : Int} (hi : zJH full ih1 nL E Pq) (hl : zL lv lz) (hn : lz.length = nL) (hs : zsr st zst) (hR : zR G s) (h : xm_body call full nL mc ms ret Q1 ih1 (pc, .iinc n c, a, b, ts, v) rest lv st G E kc ks = true) : ∃ F res, zm_body (zm_run F full) (zm_call (zm_run F) full) zrt none full (pc, .iinc n c, a, b, ts, v) rest lz zst s = some res ∧ Pq res := by
  have h : (match xm_get lv a with
    | some w => bif Nat.blt a nL then xm_conc E w (fun E x => xm_frc (x + Int32.ofInt c) (fun z => ih1 rest (xm_set1 lv a (.int z)) st G E kc ks)) else false
    | none => false) = true := h
  cases hg : xm_get lv a with
  | none => rw [hg] at h; cases h
  | some w =>
    rw [hg] at h
    dsimp only at h
    obtain ⟨pw, gw⟩ := zl_get hl hg
    cases e : Nat.blt a nL with
    | false => rw [e] at h; cases h
    | true =>
      rw [e, cond_true] at h
      cases w with
      | int x =>
        have h : xm_frc (x + Int32.ofInt c) (fun z => ih1 rest (xm_set1 lv a (.int z)) st G E kc ks) = true := h
        rw [xl_frc] at h
        have hb := Nat.le_of_ble_eq_true e
        have ez : zw (zget lz a + (Int32.ofInt c).toInt) = zi (.int (x + Int32.ofInt c)) := by
          rw [gw]
          exact (zw_add x (Int32.ofInt c)).symm
        rw [ez] at hz
        exact hi rest _ st G kc ks _ zst s (zl_set1 hl (by omega) rfl) (by rw [zl_len]; exact hn) hs hR h
      | _ => first | (cases pw; done) | (cases h; done)
theorem zx_iconst {n : Int} (hv : zp v = true) (hi : zJH full ih1 nL E Pq) (hl : zL lv lz) (hn : lz.length = nL) (hs : zsr st zst) (hR : zR G s) (h : xm_body call full nL mc ms ret Q1 ih1 (pc, .iconst n, a, b, ts, v) rest lv st G E kc ks = true) : ∃ F res, zm_body (zm_run F full) (zm_call (zm_run F) full) zrt none full (pc, .iconst n, a, b, ts, v) rest lz zst s = some res ∧ Pq res := by
  obtain ⟨F, res, h1, h2⟩ := hi rest lv (v :: st) G kc ks lz _ s hl hn (zsr_c hv rfl rfl hs) hR h
  refine ⟨F, res, ?_, h2⟩
  show (bif zp v then zm_run F full rest lz ((xm_isL v, zi v) :: zst) s else none) = some res
  rw [hv]
  exact h1
theorem zx_bipush {n : Int} (hv : zp v = true) (hi : zJH full ih1 nL E Pq) (hl : zL lv lz) (hn : lz.length = nL) (hs : zsr st zst) (hR : zR G s) (h : xm_body call full nL mc ms ret Q1 ih1 (pc, .bipush n, a, b, ts, v) rest lv st G E kc ks = true) : ∃ F res, zm_body (zm_run F full) (zm_call (zm_run F) full) zrt none full (pc, .bipush n, a, b, ts, v) rest lz zst s = some res ∧ Pq res := by
  obtain ⟨F, res, h1, h2⟩ := hi rest lv (v :: st) G kc ks lz _ s hl hn (zsr_c hv rfl rfl hs) hR h
  refine ⟨F, res, ?_, h2⟩
  show (bif zp v then zm_run F full rest lz ((xm_isL v, zi v) :: zst) s else none) = some res
  rw [hv]
  exact h1
theorem zx_sipush {n : Int} (hv : zp v = true) (hi : zJH full ih1 nL E Pq) (hl : zL lv lz) (hn : lz.length = nL) (hs : zsr st zst) (hR : zR G s) (h : xm_body call full nL mc ms ret Q1 ih1 (pc, .sipush n, a, b, ts, v) rest lv st G E kc ks = true) : ∃ F res, zm_body (zm_run F full) (zm_call (zm_run F) full) zrt none full (pc, .sipush n, a, b, ts, v) rest lz zst s = some res ∧ Pq res := by
  obtain ⟨F, res, h1, h2⟩ := hi rest lv (v :: st) G kc ks lz _ s hl hn (zsr_c hv rfl rfl hs) hR h
  refine ⟨F, res, ?_, h2⟩
  show (bif zp v then zm_run F full rest lz ((xm_isL v, zi v) :: zst) s else none) = some res
  rw [hv]
  exact h1
theorem zx_lconst {n : Fin 2} (hv : zp v = true) (hi : zJH full ih1 nL E Pq) (hl : zL lv lz) (hn : lz.length = nL) (hs : zsr st zst) (hR : zR G s) (h : xm_body call full nL mc ms ret Q1 ih1 (pc, .lconst n, a, b, ts, v) rest lv st G E kc ks = true) : ∃ F res, zm_body (zm_run F full) (zm_call (zm_run F) full) zrt none full (pc, .lconst n, a, b, ts, v) rest lz zst s = some res ∧ Pq res := by
  obtain ⟨F, res, h1, h2⟩ := hi rest lv (v :: st) G kc ks lz _ s hl hn (zsr_c hv rfl rfl hs) hR h
  refine ⟨F, res, ?_, h2⟩
  show (bif zp v then zm_run F full rest lz ((xm_isL v, zi v) :: zst) s else none) = some res
  rw [hv]
  exact h1
theorem zx_aconst_null  (hv : zp v = true) (hi : zJH full ih1 nL E Pq) (hl : zL lv lz) (hn : lz.length = nL) (hs : zsr st zst) (hR : zR G s) (h : xm_body call full nL mc ms ret Q1 ih1 (pc, .aconst_null, a, b, ts, v) rest lv st G E kc ks = true) : ∃ F res, zm_body (zm_run F full) (zm_call (zm_run F) full) zrt none full (pc, .aconst_null, a, b, ts, v) rest lz zst s = some res ∧ Pq res := by
  obtain ⟨F, res, h1, h2⟩ := hi rest lv (v :: st) G kc ks lz _ s hl hn (zsr_c hv rfl rfl hs) hR h
  refine ⟨F, res, ?_, h2⟩
  show (bif zp v then zm_run F full rest lz ((xm_isL v, zi v) :: zst) s else none) = some res
  rw [hv]
  exact h1
theorem zx_ldc {n : Nat} (hv : zp v = true) (hi : zJH full ih1 nL E Pq) (hl : zL lv lz) (hn : lz.length = nL) (hs : zsr st zst) (hR : zR G s) (h : xm_body call full nL mc ms ret Q1 ih1 (pc, .ldc n, a, b, ts, v) rest lv st G E kc ks = true) : ∃ F res, zm_body (zm_run F full) (zm_call (zm_run F) full) zrt none full (pc, .ldc n, a, b, ts, v) rest lz zst s = some res ∧ Pq res := by
  obtain ⟨F, res, h1, h2⟩ := hi rest lv (v :: st) G kc ks lz _ s hl hn (zsr_c hv rfl rfl hs) hR h
  refine ⟨F, res, ?_, h2⟩
  show (bif zp v then zm_run F full rest lz ((xm_isL v, zi v) :: zst) s else none) = some res
  rw [hv]
  exact h1
theorem zx_ldc_w {n : Nat} (hv : zp v = true) (hi : zJH full ih1 nL E Pq) (hl : zL lv lz) (hn : lz.length = nL) (hs : zsr st zst) (hR : zR G s) (h : xm_body call full nL mc ms ret Q1 ih1 (pc, .ldc_w n, a, b, ts, v) rest lv st G E kc ks = true) : ∃ F res, zm_body (zm_run F full) (zm_call (zm_run F) full) zrt none full (pc, .ldc_w n, a, b, ts, v) rest lz zst s = some res ∧ Pq res := by
  obtain ⟨F, res, h1, h2⟩ := hi rest lv (v :: st) G kc ks lz _ s hl hn (zsr_c hv rfl rfl hs) hR h
  refine ⟨F, res, ?_, h2⟩
  show (bif zp v then zm_run F full rest lz ((xm_isL v, zi v) :: zst) s else none) = some res
  rw [hv]
  exact h1
theorem zx_ldc2_w {n : Nat} (hv : zp v = true) (hi : zJH full ih1 nL E Pq) (hl : zL lv lz) (hn : lz.length = nL) (hs : zsr st zst) (hR : zR G s) (h : xm_body call full nL mc ms ret Q1 ih1 (pc, .ldc2_w n, a, b, ts, v) rest lv st G E kc ks = true) : ∃ F res, zm_body (zm_run F full) (zm_call (zm_run F) full) zrt none full (pc, .ldc2_w n, a, b, ts, v) rest lz zst s = some res ∧ Pq res := by
  obtain ⟨F, res, h1, h2⟩ := hi rest lv (v :: st) G kc ks lz _ s hl hn (zsr_c hv rfl rfl hs) hR h
  refine ⟨F, res, ?_, h2⟩
  show (bif zp v then zm_run F full rest lz ((xm_isL v, zi v) :: zst) s else none) = some res
  rw [hv]
  exact h1
theorem zx_iaload (hi : zJH full ih1 nL E Pq) (hl : zL lv lz) (hn : lz.length = nL) (hs : zsr st zst) (hR : zR G s) (h : xm_body call full nL mc ms ret Q1 ih1 (pc, .iaload, a, b, ts, v) rest lv st G E kc ks = true) : ∃ F res, zm_body (zm_run F full) (zm_call (zm_run F) full) zrt none full (pc, .iaload, a, b, ts, v) rest lz zst s = some res ∧ Pq res := by
  have h : xm_iald st G E (fun st E => ih1 rest lv st G E kc ks) = true := h
  obtain ⟨w, u, st', zst', rfl, rfl, pw, pu, ⟨x, j, rfl, rfl⟩, ht⟩ := zs_2 (P := zPA) hs (f := fun st => xm_iald st G E (fun st E => ih1 rest lv st G E kc ks)) h rfl (fun w => by cases w <;> rfl) (fun w u st hw hu e => by
    cases u with
    | ref j =>
      have hc : ∀ (E : xm_R) (k : xm_R → Int32 → Bool), xm_conc E w k = false := by
        intro E k
        cases w with
        | int x => exact absurd ⟨_, _, rfl, rfl⟩ e
        | retAddr p => cases hw
        | _ => rfl
      have hk : ∀ (ok : Nat → Bool) (j : Nat) (k : List Value → xm_R → Bool), xm_ald ok (w :: .ref j :: st) G E k = false := fun ok j k => by
        show xm_conc E w (fun E x => xm_rd ok G j x (fun w => k (w :: st) E)) = false
        exact hc _ _
      show (bif Nat.beq j 0 then (match (generalizing := false) xm_hget G 0 with
        | some (t, _) => bif Nat.beq t 300 then xm_conc E w (fun E x => match xm_nth E 6 with
          | some (lo, _) => bif decide (0 ≤ x.toInt) && decide (x.toInt < lo) then ih1 rest lv (.retAddr x.toInt.toNat :: st) G E kc ks else false
          | none => false) else xm_ald (fun t => Nat.beq t 301) (w :: .ref 0 :: st) G E (fun st E => ih1 rest lv st G E kc ks)
        | none => false)
        else xm_ald (fun t => Nat.beq t 100) (w :: .ref j :: st) G E (fun st E => ih1 rest lv st G E kc ks)) = false
      cases Nat.beq j 0 with
      | false => rw [cond_false]; exact hk _ _ _
      | true =>
        cases xm_hget G 0 with
        | none => rfl
        | some p =>
          obtain ⟨t, vs⟩ := p
          dsimp only
          cases Nat.beq t 300 with
          | false => rw [cond_false]; exact hk _ _ _
          | true => rw [cond_true]; exact hc _ _
    | _ => cases w <;> rfl)
  have e : ∀ k, xm_iald (.int x :: .ref j :: st') G E k = (bif Nat.beq j 0 then (match xm_hget G 0 with
      | some (t, _) => bif Nat.beq t 300 then xm_conc E (.int x) (fun E x => match xm_nth E 6 with
        | some (lo, _) => bif decide (0 ≤ x.toInt) && decide (x.toInt < lo) then k (.retAddr x.toInt.toNat :: st') E else false
        | none => false) else xm_ald (fun t => Nat.beq t 301) (.int x :: .ref 0 :: st') G E k
      | none => false)
    else xm_ald (fun t => Nat.beq t 100) (.int x :: .ref j :: st') G E k) := fun _ => rfl
  rw [e] at h
  cases hj : Nat.beq j 0 with
  | false =>
    rw [hj, cond_false] at h
    obtain ⟨t, vs, w, g1, g2, g3, g4, g5⟩ := zs_ald h
    rw [g5] at h
    have et := Nat.eq_of_beq_eq_true g2
    subst et
    obtain ⟨q1, q2, q3⟩ := hR.rd g1 g3 g4 zc_100
    exact hi rest lv _ G kc ks lz _ s hl hn (zsr_c q1 q2 q3 ht) hR h
  | true =>
    have ej := Nat.eq_of_beq_eq_true hj
    subst ej
    rw [hj, cond_true] at h
    cases hg : xm_hget G 0 with
    | none => rw [hg] at h; cases h
    | some p =>
      obtain ⟨t, vs⟩ := p
      rw [hg] at h
      dsimp only at h
      have hne : Nat.beq t 300 = false := Bool.eq_false_iff.mpr (fun q => (hR 0 t vs hg).1.1 (Nat.eq_of_beq_eq_true q))
      rw [hne, cond_false] at h
      obtain ⟨t', vs', w, g1, g2, g3, g4, g5⟩ := zs_ald h
      rw [g5] at h
      have et := Nat.eq_of_beq_eq_true g2
      subst et
      obtain ⟨q1, q2, q3⟩ := hR.rd g1 g3 g4 zc_301
      exact hi rest lv _ G kc ks lz _ s hl hn (zsr_c q1 q2 q3 ht) hR h
theorem zx_baload (hi : zJH full ih1 nL E Pq) (hl : zL lv lz) (hn : lz.length = nL) (hs : zsr st zst) (hR : zR G s) (h : xm_body call full nL mc ms ret Q1 ih1 (pc, .baload, a, b, ts, v) rest lv st G E kc ks = true) : ∃ F res, zm_body (zm_run F full) (zm_call (zm_run F) full) zrt none full (pc, .baload, a, b, ts, v) rest lz zst s = some res ∧ Pq res := by
  have h : xm_bald st G E (fun st E => ih1 rest lv st G E kc ks) = true := h
  obtain ⟨w, u, st', zst', rfl, rfl, pw, pu, ⟨x, j, rfl, rfl⟩, ht⟩ := zs_2 (P := zPA) hs (f := fun st => xm_bald st G E (fun st E => ih1 rest lv st G E kc ks)) h rfl (fun w => by cases w <;> rfl) (fun w u st hw hu e => by
    cases u with
    | ref j =>
      have hc : ∀ (E : xm_R) (k : xm_R → Int32 → Bool), xm_conc E w k = false := by
        intro E k
        cases w with
        | int x => exact absurd ⟨_, _, rfl, rfl⟩ e
        | retAddr p => cases hw
        | _ => rfl
      have hk : ∀ (ok : Nat → Bool) (j : Nat) (k : List Value → xm_R → Bool), xm_ald ok (w :: .ref j :: st) G E k = false := fun ok j k => by
        show xm_conc E w (fun E x => xm_rd ok G j x (fun w => k (w :: st) E)) = false
        exact hc _ _
      show (match (generalizing := false) xm_hget G j with
        | some (t, _) => bif Nat.beq t 103 then xm_ald (fun t => Nat.beq t 103) (w :: .ref j :: st) G E (fun st E => ih1 rest lv st G E kc ks) else xm_ald (fun t => Nat.beq t 101) (w :: .ref j :: st) G E (fun st E => ih1 rest lv st G E kc ks)
        | none => false) = false
      cases xm_hget G j with
      | none => rfl
      | some p =>
        obtain ⟨t, vs⟩ := p
        dsimp only
        cases Nat.beq t 103 with
        | false => rw [cond_false]; exact hk _ _ _
        | true => rw [cond_true]; exact hk _ _ _
    | _ => cases w <;> rfl)
  have e : ∀ k, xm_bald (.int x :: .ref j :: st') G E k = (match xm_hget G j with
    | some (t, _) => bif Nat.beq t 103 then xm_ald (fun t => Nat.beq t 103) (.int x :: .ref j :: st') G E k else xm_ald (fun t => Nat.beq t 101) (.int x :: .ref j :: st') G E k
    | none => false) := fun _ => rfl
  rw [e] at h
  cases hg : xm_hget G j with
  | none => rw [hg] at h; cases h
  | some p =>
    obtain ⟨t, vs⟩ := p
    rw [hg] at h
    dsimp only at h
    cases hq : Nat.beq t 103 with
    | false =>
      rw [hq, cond_false] at h
      obtain ⟨t', vs', w, g1, g2, g3, g4, g5⟩ := zs_ald h
      rw [g5] at h
      have et := Nat.eq_of_beq_eq_true g2
      subst et
      obtain ⟨q1, q2, q3⟩ := hR.rd g1 g3 g4 zc_101
      exact hi rest lv _ G kc ks lz _ s hl hn (zsr_c q1 q2 q3 ht) hR h
    | true =>
      rw [hq, cond_true] at h
      obtain ⟨t', vs', w, g1, g2, g3, g4, g5⟩ := zs_ald h
      rw [g5] at h
      have et := Nat.eq_of_beq_eq_true g2
      subst et
      obtain ⟨q1, q2, q3⟩ := hR.rd g1 g3 g4 zc_103
      exact hi rest lv _ G kc ks lz _ s hl hn (zsr_c q1 q2 q3 ht) hR h
theorem zx_laload (hi : zJH full ih1 nL E Pq) (hl : zL lv lz) (hn : lz.length = nL) (hs : zsr st zst) (hR : zR G s) (h : xm_body call full nL mc ms ret Q1 ih1 (pc, .laload, a, b, ts, v) rest lv st G E kc ks = true) : ∃ F res, zm_body (zm_run F full) (zm_call (zm_run F) full) zrt none full (pc, .laload, a, b, ts, v) rest lz zst s = some res ∧ Pq res := by
  have h : xm_ald (fun t => Nat.beq t 102) st G E (fun st E => ih1 rest lv st G E kc ks) = true := h
  obtain ⟨w, u, st', zst', rfl, rfl, pw, pu, ⟨x, j, rfl, rfl⟩, ht⟩ := zs_2 (P := zPA) hs (f := fun st => xm_ald (fun t => Nat.beq t 102) st G E (fun st E => ih1 rest lv st G E kc ks)) h rfl (fun w => by cases w <;> rfl) (fun w u st hw hu e => by cases w <;> cases u <;> first | rfl | (cases hw; done) | (cases hu; done) | exact absurd ⟨_, _, rfl, rfl⟩ e)
  obtain ⟨t', vs', w, g1, g2, g3, g4, g5⟩ := zs_ald h
  rw [g5] at h
  have et := Nat.eq_of_beq_eq_true g2
  subst et
  obtain ⟨q1, q2, q3⟩ := hR.rd g1 g3 g4 zc_102
  exact hi rest lv _ G kc ks lz _ s hl hn (zsr_c q1 q2 q3 ht) hR h
theorem zx_aaload (hi : zJH full ih1 nL E Pq) (hl : zL lv lz) (hn : lz.length = nL) (hs : zsr st zst) (hR : zR G s) (h : xm_body call full nL mc ms ret Q1 ih1 (pc, .aaload, a, b, ts, v) rest lv st G E kc ks = true) : ∃ F res, zm_body (zm_run F full) (zm_call (zm_run F) full) zrt none full (pc, .aaload, a, b, ts, v) rest lz zst s = some res ∧ Pq res := by
  have h : xm_ald xm_isAr st G E (fun st E => ih1 rest lv st G E kc ks) = true := h
  obtain ⟨w, u, st', zst', rfl, rfl, pw, pu, ⟨x, j, rfl, rfl⟩, ht⟩ := zs_2 (P := zPA) hs (f := fun st => xm_ald xm_isAr st G E (fun st E => ih1 rest lv st G E kc ks)) h rfl (fun w => by cases w <;> rfl) (fun w u st hw hu e => by cases w <;> cases u <;> first | rfl | (cases hw; done) | (cases hu; done) | exact absurd ⟨_, _, rfl, rfl⟩ e)
  obtain ⟨t, vs', w, g1, g2, g3, g4, g5⟩ := zs_ald h
  rw [g5] at h
  have ht4 : t = 104 ∨ t = 105 ∨ t = 106 ∨ t = 107 := by
    unfold xm_isAr at g2
    split at g2
    · exact Or.inl rfl
    · exact Or.inr (Or.inl rfl)
    · exact Or.inr (Or.inr (Or.inl rfl))
    · exact Or.inr (Or.inr (Or.inr rfl))
    · cases g2
  obtain ⟨b1, b2, b3⟩ := (hR j t vs' g1).2 _ w g4
  have hc : zcon t j x.toInt.toNat = some (zaa j x.toInt) := by
    unfold zcon
    rw [if_neg (by omega), if_pos (by omega), Int.toNat_of_nonneg g3]
  have hg : zlg t x.toInt.toNat = false := by rcases ht4 with rfl | rfl | rfl | rfl <;> rfl
  rw [hc] at b3
  rw [hg] at b2
  exact hi rest lv _ G kc ks lz _ s hl hn (zsr_c b1 b2 b3 ht) hR h
theorem zx_getfield {n : Nat} (hi : zJH full ih1 nL E Pq) (hl : zL lv lz) (hn : lz.length = nL) (hs : zsr st zst) (hR : zR G s) (h : xm_body call full nL mc ms ret Q1 ih1 (pc, .getfield n, a, b, ts, v) rest lv st G E kc ks = true) : ∃ F res, zm_body (zm_run F full) (zm_call (zm_run F) full) zrt none full (pc, .getfield n, a, b, ts, v) rest lz zst s = some res ∧ Pq res := by
  replace h : xm_getf a b st G (fun st => ih1 rest lv st G E kc ks) = true := h
  obtain ⟨w, st', zst', rfl, rfl, pw, ⟨j, rfl⟩, ht⟩ := zs_1 (P := fun w => ∃ j, w = .ref j) hs (f := fun st => xm_getf a b st G (fun st => ih1 rest lv st G E kc ks)) h rfl (fun w st hw e => by cases w <;> first | rfl | (cases hw; done) | exact absurd ⟨_, rfl⟩ e)
  have e : ∀ k, xm_getf a b (.ref j :: st') G k = (match xm_hget G j with
    | some (t, vs) => bif Nat.beq t a then (match xm_nth vs b with
      | some w => k (w :: st')
      | none => false) else false
    | none => false) := fun _ => rfl
  rw [e] at h
  cases hg : xm_hget G j with
  | none => rw [hg] at h; cases h
  | some p =>
    obtain ⟨t, vs⟩ := p
    rw [hg] at h
    dsimp only at h
    cases hta : Nat.beq t a with
    | false => rw [hta] at h; cases h
    | true =>
      rw [hta, cond_true, xl_nth] at h
      have et := Nat.eq_of_beq_eq_true hta
      subst et
      cases hv : vs[b]? with
      | none => rw [hv] at h; cases h
      | some w =>
        rw [hv] at h
        obtain ⟨q1, q2, q3⟩ := (hR j t vs hg).2 b w hv
        exact hi rest lv _ G kc ks lz _ s hl hn (zsr_c q1 q2 q3 ht) hR h
theorem zx_lookupswitch {dd : Int} {ps : Array (Int × Int)} (hi : zJH full ih1 nL E Pq) (hl : zL lv lz) (hn : lz.length = nL) (hs : zsr st zst) (hR : zR G s) (h : xm_body call full nL mc ms ret Q1 ih1 (pc, .lookupswitch dd ps, a, b, ts, v) rest lv st G E kc ks = true) : ∃ F res, zm_body (zm_run F full) (zm_call (zm_run F) full) zrt none full (pc, .lookupswitch dd ps, a, b, ts, v) rest lz zst s = some res ∧ Pq res := by
  replace h : (match (generalizing := false) st with
    | .int x :: st => ih1 (xm_drop (xm_look a ps.toList ts x.toInt) full) lv st G E kc ks
    | _ => false) = true := h
  obtain ⟨w, st', zst', rfl, rfl, pw, ⟨x, rfl⟩, ht⟩ := zs_1 (P := fun w => ∃ x, w = .int x) hs (f := fun st => (match (generalizing := false) st with
    | .int x :: st => ih1 (xm_drop (xm_look a ps.toList ts x.toInt) full) lv st G E kc ks
    | _ => false)) h rfl (fun w st hw e => by cases w <;> first | rfl | (cases hw; done) | exact absurd ⟨_, rfl⟩ e)
  exact hi _ lv st' G kc ks lz zst' s hl hn ht hR h
theorem zx_br (P : Prop) (dP : Decidable P) (A B : List xm_E) {bb : Bool} (hb : bb = @decide P dP) (hi : zJH full ih1 nL E Pq) (hl : zL lv lz) (hn : lz.length = nL) (hs : zsr st zst) (hR : zR G s) (h : (bif bb then ih1 A lv st G E kc ks else ih1 B lv st G E kc ks) = true) : ∃ F res, zm_run F full (@ite _ P dP A B) lz zst s = some res ∧ Pq res := by
  subst hb
  cases dP with
  | isTrue p => exact hi A lv st G kc ks lz zst s hl hn hs hR h
  | isFalse p => exact hi B lv st G kc ks lz zst s hl hn hs hR h
theorem zx_brn (P : Prop) (dP : Decidable P) (A B : List xm_E) {bb : Bool} (hb : bb = !@decide P dP) (hi : zJH full ih1 nL E Pq) (hl : zL lv lz) (hn : lz.length = nL) (hs : zsr st zst) (hR : zR G s) (h : (bif bb then ih1 A lv st G E kc ks else ih1 B lv st G E kc ks) = true) : ∃ F res, zm_run F full (@ite _ P dP B A) lz zst s = some res ∧ Pq res := by
  subst hb
  cases dP with
  | isTrue p => exact hi B lv st G kc ks lz zst s hl hn hs hR h
  | isFalse p => exact hi A lv st G kc ks lz zst s hl hn hs hR h
theorem zx_ifCond {c : Jvm.ClassFile.Cond} {off : Int} (hi : zJH full ih1 nL E Pq) (hl : zL lv lz) (hn : lz.length = nL) (hs : zsr st zst) (hR : zR G s) (h : xm_body call full nL mc ms ret Q1 ih1 (pc, .ifCond c off, a, b, ts, v) rest lv st G E kc ks = true) : ∃ F res, zm_body (zm_run F full) (zm_call (zm_run F) full) zrt none full (pc, .ifCond c off, a, b, ts, v) rest lz zst s = some res ∧ Pq res := by
  have h : (match (generalizing := false) st with
    | w :: st => xm_cmpI E w (.int 0) (fun E s => bif xm_holds c s then ih1 (xm_drop a full) lv st G E kc ks else ih1 rest lv st G E kc ks)
    | _ => false) = true := h
  obtain ⟨w, st', zst', rfl, rfl, pw, ⟨x, rfl⟩, ht⟩ := zs_1 (P := fun w => ∃ x, w = .int x) hs (f := fun st => (match (generalizing := false) st with
    | w :: st => xm_cmpI E w (.int 0) (fun E s => bif xm_holds c s then ih1 (xm_drop a full) lv st G E kc ks else ih1 rest lv st G E kc ks)
    | _ => false)) h rfl (fun w st hw e => by cases w <;> first | rfl | (cases hw; done) | exact absurd ⟨_, rfl⟩ e)
  cases c with
  | eq => exact zx_br (x.toInt = 0) _ _ _ xk_eq hi hl hn ht hR h
  | ne => exact zx_brn (x.toInt = 0) _ _ _ xk_ne hi hl hn ht hR h
  | lt => exact zx_br (x.toInt < 0) _ _ _ xk_lt hi hl hn ht hR h
  | ge => exact zx_brn (x.toInt < 0) _ _ _ xk_ge hi hl hn ht hR h
  | gt => exact zx_br (0 < x.toInt) _ _ _ xk_gt hi hl hn ht hR h
  | le => exact zx_brn (0 < x.toInt) _ _ _ xk_le hi hl hn ht hR h
theorem zx_if_icmp {c : Jvm.ClassFile.Cond} {off : Int} (hi : zJH full ih1 nL E Pq) (hl : zL lv lz) (hn : lz.length = nL) (hs : zsr st zst) (hR : zR G s) (h : xm_body call full nL mc ms ret Q1 ih1 (pc, .if_icmp c off, a, b, ts, v) rest lv st G E kc ks = true) : ∃ F res, zm_body (zm_run F full) (zm_call (zm_run F) full) zrt none full (pc, .if_icmp c off, a, b, ts, v) rest lz zst s = some res ∧ Pq res := by
  have h : (match (generalizing := false) st with
    | w :: u :: st => xm_cmpI E u w (fun E s => bif xm_holds c s then ih1 (xm_drop a full) lv st G E kc ks else ih1 rest lv st G E kc ks)
    | _ => false) = true := h
  obtain ⟨w, u, st', zst', rfl, rfl, pw, pu, ⟨y, x, rfl, rfl⟩, ht⟩ := zs_2 (P := zPI) hs (f := fun st => (match (generalizing := false) st with
    | w :: u :: st => xm_cmpI E u w (fun E s => bif xm_holds c s then ih1 (xm_drop a full) lv st G E kc ks else ih1 rest lv st G E kc ks)
    | _ => false)) h rfl (fun w => rfl) (fun w u st hw hu e => by cases w <;> cases u <;> first | rfl | (cases hw; done) | (cases hu; done) | exact absurd ⟨_, _, rfl, rfl⟩ e)
  cases c with
  | eq => exact zx_br (x.toInt = y.toInt) _ _ _ xk_eq hi hl hn ht hR h
  | ne => exact zx_brn (x.toInt = y.toInt) _ _ _ xk_ne hi hl hn ht hR h
  | lt => exact zx_br (x.toInt < y.toInt) _ _ _ xk_lt hi hl hn ht hR h
  | ge => exact zx_brn (x.toInt < y.toInt) _ _ _ xk_ge hi hl hn ht hR h
  | gt => exact zx_br (y.toInt < x.toInt) _ _ _ xk_gt hi hl hn ht hR h
  | le => exact zx_brn (y.toInt < x.toInt) _ _ _ xk_le hi hl hn ht hR h
end ZX
