/-! the flat machine answers what the little one answers: instruction by instruction -/
section ZS
variable {call : xm_C} {full rest : List xm_E} {nL mc ms : Nat} {ret : Option FieldType} {Q1 Q2 : xm_Q} {ih1 ih2 : List xm_E → xm_K} {nx : zN} {cl : Nat → Nat → List xm_E → List Int → List zV → zS → Option (Int × zS)} {rt : Int → zS → Option (Int × zS)} {pc a b : Nat} {ts : List Nat} {v : Value} {lv : xm_L} {st : List Value} {G : xm_H} {E : xm_R} {kc ks : Nat} {lz : List Int} {zst : List zV} {s : zS} {res : Int × zS}
theorem zs_iadd  (hi : zIH nx ih1 ih2 nL E res) (hl : zL lv lz) (hn : lz.length = nL) (hs : zsr st zst) (hR : zR G s) (hz : zm_body nx cl rt none full (pc, .iadd, a, b, ts, v) rest lz zst s = some res) (h : xm_body call full nL mc ms ret Q1 ih1 (pc, .iadd, a, b, ts, v) rest lv st G E kc ks = true) : xm_body call full nL mc ms ret Q2 ih2 (pc, .iadd, a, b, ts, v) rest lv st G E kc ks = true := by
  have h : xm_int2 .iadd st E (fun st E => ih1 rest lv st G E kc ks) = true := h
  show xm_int2 .iadd st E (fun st E => ih2 rest lv st G E kc ks) = true
  obtain ⟨w, u, st', zst', rfl, rfl, pw, pu, ⟨y, x, rfl, rfl⟩, ht⟩ := zs_2 (P := zPI) hs (f := fun st => xm_int2 .iadd st E (fun st E => ih1 rest lv st G E kc ks)) h rfl (fun w => by cases w <;> rfl) (fun w u st hw hu e => by cases w <;> cases u <;> first | rfl | (cases hw; done) | (cases hu; done) | exact absurd ⟨_, _, rfl, rfl⟩ e)
  have hz : nx rest lz ((false, zw (x.toInt + y.toInt)) :: zst') s = some res := hz
  have k0 : ∀ k : List Value → xm_R → Bool, xm_int2 .iadd (.int y :: .int x :: st') E k = k (.int (x + y) :: st') E := fun k => by show xm_int2 .iadd (.int y :: .int x :: st') E k = _; exact ys_fi2 rfl
  rw [k0] at h ⊢
  exact hi rest lv _ G kc ks lz _ s hl hn (zsr_c rfl rfl (zw_add x y) ht) hR hz h
theorem zs_isub  (hi : zIH nx ih1 ih2 nL E res) (hl : zL lv lz) (hn : lz.length = nL) (hs : zsr st zst) (hR : zR G s) (hz : zm_body nx cl rt none full (pc, .isub, a, b, ts, v) rest lz zst s = some res) (h : xm_body call full nL mc ms ret Q1 ih1 (pc, .isub, a, b, ts, v) rest lv st G E kc ks = true) : xm_body call full nL mc ms ret Q2 ih2 (pc, .isub, a, b, ts, v) rest lv st G E kc ks = true := by
  have h : xm_int2 .isub st E (fun st E => ih1 rest lv st G E kc ks) = true := h
  show xm_int2 .isub st E (fun st E => ih2 rest lv st G E kc ks) = true
  obtain ⟨w, u, st', zst', rfl, rfl, pw, pu, ⟨y, x, rfl, rfl⟩, ht⟩ := zs_2 (P := zPI) hs (f := fun st => xm_int2 .isub st E (fun st E => ih1 rest lv st G E kc ks)) h rfl (fun w => by cases w <;> rfl) (fun w u st hw hu e => by cases w <;> cases u <;> first | rfl | (cases hw; done) | (cases hu; done) | exact absurd ⟨_, _, rfl, rfl⟩ e)
  have hz : nx rest lz ((false, zw (x.toInt - y.toInt)) :: zst') s = some res := hz
  have k0 : ∀ k : List Value → xm_R → Bool, xm_int2 .isub (.int y :: .int x :: st') E k = k (.int (x - y) :: st') E := fun k => by show xm_int2 .isub (.int y :: .int x :: st') E k = _; exact ys_fi2 rfl
  rw [k0] at h ⊢
  exact hi rest lv _ G kc ks lz _ s hl hn (zsr_c rfl rfl (zw_sub x y) ht) hR hz h
theorem zs_imul  (hi : zIH nx ih1 ih2 nL E res) (hl : zL lv lz) (hn : lz.length = nL) (hs : zsr st zst) (hR : zR G s) (hz : zm_body nx cl rt none full (pc, .imul, a, b, ts, v) rest lz zst s = some res) (h : xm_body call full nL mc ms ret Q1 ih1 (pc, .imul, a, b, ts, v) rest lv st G E kc ks = true) : xm_body call full nL mc ms ret Q2 ih2 (pc, .imul, a, b, ts, v) rest lv st G E kc ks = true := by
  have h : xm_int2 .imul st E (fun st E => ih1 rest lv st G E kc ks) = true := h
  show xm_int2 .imul st E (fun st E => ih2 rest lv st G E kc ks) = true
  obtain ⟨w, u, st', zst', rfl, rfl, pw, pu, ⟨y, x, rfl, rfl⟩, ht⟩ := zs_2 (P := zPI) hs (f := fun st => xm_int2 .imul st E (fun st E => ih1 rest lv st G E kc ks)) h rfl (fun w => by cases w <;> rfl) (fun w u st hw hu e => by cases w <;> cases u <;> first | rfl | (cases hw; done) | (cases hu; done) | exact absurd ⟨_, _, rfl, rfl⟩ e)
  have hz : nx rest lz ((false, zw (x.toInt * y.toInt)) :: zst') s = some res := hz
  have k0 : ∀ k : List Value → xm_R → Bool, xm_int2 .imul (.int y :: .int x :: st') E k = k (.int (x * y) :: st') E := fun k => by show xm_int2 .imul (.int y :: .int x :: st') E k = _; exact ys_fi2 rfl
  rw [k0] at h ⊢
  exact hi rest lv _ G kc ks lz _ s hl hn (zsr_c rfl rfl (zw_mul x y) ht) hR hz h
theorem zs_iand  (hi : zIH nx ih1 ih2 nL E res) (hl : zL lv lz) (hn : lz.length = nL) (hs : zsr st zst) (hR : zR G s) (hz : zm_body nx cl rt none full (pc, .iand, a, b, ts, v) rest lz zst s = some res) (h : xm_body call full nL mc ms ret Q1 ih1 (pc, .iand, a, b, ts, v) rest lv st G E kc ks = true) : xm_body call full nL mc ms ret Q2 ih2 (pc, .iand, a, b, ts, v) rest lv st G E kc ks = true := by
  have h : xm_iand st E (fun st E => ih1 rest lv st G E kc ks) = true := h
  show xm_iand st E (fun st E => ih2 rest lv st G E kc ks) = true
  obtain ⟨w, u, st', zst', rfl, rfl, pw, pu, ⟨y, x, rfl, rfl⟩, ht⟩ := zs_2 (P := zPI) hs (f := fun st => xm_iand st E (fun st E => ih1 rest lv st G E kc ks)) h rfl (fun w => by cases w <;> rfl) (fun w u st hw hu e => by cases w <;> cases u <;> first | rfl | (cases hw; done) | (cases hu; done) | exact absurd ⟨_, _, rfl, rfl⟩ e)
  have hz : nx rest lz ((false, zand x.toInt y.toInt) :: zst') s = some res := hz
  have k0 : ∀ k : List Value → xm_R → Bool, xm_iand (.int y :: .int x :: st') E k = k (.int (x &&& y) :: st') E := fun k => by show xm_int2 .iand (.int y :: .int x :: st') E k = _; exact ys_fi2 rfl
  rw [k0] at h ⊢
  exact hi rest lv _ G kc ks lz _ s hl hn (zsr_c rfl rfl (by unfold zand; rw [Int32.ofInt_toInt, Int32.ofInt_toInt]; rfl) ht) hR hz h
theorem zs_ior  (hi : zIH nx ih1 ih2 nL E res) (hl : zL lv lz) (hn : lz.length = nL) (hs : zsr st zst) (hR : zR G s) (hz : zm_body nx cl rt none full (pc, .ior, a, b, ts, v) rest lz zst s = some res) (h : xm_body call full nL mc ms ret Q1 ih1 (pc, .ior, a, b, ts, v) rest lv st G E kc ks = true) : xm_body call full nL mc ms ret Q2 ih2 (pc, .ior, a, b, ts, v) rest lv st G E kc ks = true := by
  have h : xm_int2 .ior st E (fun st E => ih1 rest lv st G E kc ks) = true := h
  show xm_int2 .ior st E (fun st E => ih2 rest lv st G E kc ks) = true
  obtain ⟨w, u, st', zst', rfl, rfl, pw, pu, ⟨y, x, rfl, rfl⟩, ht⟩ := zs_2 (P := zPI) hs (f := fun st => xm_int2 .ior st E (fun st E => ih1 rest lv st G E kc ks)) h rfl (fun w => by cases w <;> rfl) (fun w u st hw hu e => by cases w <;> cases u <;> first | rfl | (cases hw; done) | (cases hu; done) | exact absurd ⟨_, _, rfl, rfl⟩ e)
  have hz : nx rest lz ((false, zor x.toInt y.toInt) :: zst') s = some res := hz
  have k0 : ∀ k : List Value → xm_R → Bool, xm_int2 .ior (.int y :: .int x :: st') E k = k (.int (x ||| y) :: st') E := fun k => by show xm_int2 .ior (.int y :: .int x :: st') E k = _; exact ys_fi2 rfl
  rw [k0] at h ⊢
  exact hi rest lv _ G kc ks lz _ s hl hn (zsr_c rfl rfl (by unfold zor; rw [Int32.ofInt_toInt, Int32.ofInt_toInt]; rfl) ht) hR hz h
theorem zs_ixor  (hi : zIH nx ih1 ih2 nL E res) (hl : zL lv lz) (hn : lz.length = nL) (hs : zsr st zst) (hR : zR G s) (hz : zm_body nx cl rt none full (pc, .ixor, a, b, ts, v) rest lz zst s = some res) (h : xm_body call full nL mc ms ret Q1 ih1 (pc, .ixor, a, b, ts, v) rest lv st G E kc ks = true) : xm_body call full nL mc ms ret Q2 ih2 (pc, .ixor, a, b, ts, v) rest lv st G E kc ks = true := by
  have h : xm_int2 .ixor st E (fun st E => ih1 rest lv st G E kc ks) = true := h
  show xm_int2 .ixor st E (fun st E => ih2 rest lv st G E kc ks) = true
  obtain ⟨w, u, st', zst', rfl, rfl, pw, pu, ⟨y, x, rfl, rfl⟩, ht⟩ := zs_2 (P := zPI) hs (f := fun st => xm_int2 .ixor st E (fun st E => ih1 rest lv st G E kc ks)) h rfl (fun w => by cases w <;> rfl) (fun w u st hw hu e => by cases w <;> cases u <;> first | rfl | (cases hw; done) | (cases hu; done) | exact absurd ⟨_, _, rfl, rfl⟩ e)
  have hz : nx rest lz ((false, zxor x.toInt y.toInt) :: zst') s = some res := hz
  have k0 : ∀ k : List Value → xm_R → Bool, xm_int2 .ixor (.int y :: .int x :: st') E k = k (.int (x ^^^ y) :: st') E := fun k => by show xm_int2 .ixor (.int y :: .int x :: st') E k = _; exact ys_fi2 rfl
  rw [k0] at h ⊢
  exact hi rest lv _ G kc ks lz _ s hl hn (zsr_c rfl rfl (by unfold zxor; rw [Int32.ofInt_toInt, Int32.ofInt_toInt]; rfl) ht) hR hz h
theorem zs_ishl  (hi : zIH nx ih1 ih2 nL E res) (hl : zL lv lz) (hn : lz.length = nL) (hs : zsr st zst) (hR : zR G s) (hz : zm_body nx cl rt none full (pc, .ishl, a, b, ts, v) rest lz zst s = some res) (h : xm_body call full nL mc ms ret Q1 ih1 (pc, .ishl, a, b, ts, v) rest lv st G E kc ks = true) : xm_body call full nL mc ms ret Q2 ih2 (pc, .ishl, a, b, ts, v) rest lv st G E kc ks = true := by
  have h : xm_int2 .ishl st E (fun st E => ih1 rest lv st G E kc ks) = true := h
  show xm_int2 .ishl st E (fun st E => ih2 rest lv st G E kc ks) = true
  obtain ⟨w, u, st', zst', rfl, rfl, pw, pu, ⟨y, x, rfl, rfl⟩, ht⟩ := zs_2 (P := zPI) hs (f := fun st => xm_int2 .ishl st E (fun st E => ih1 rest lv st G E kc ks)) h rfl (fun w => by cases w <;> rfl) (fun w u st hw hu e => by cases w <;> cases u <;> first | rfl | (cases hw; done) | (cases hu; done) | exact absurd ⟨_, _, rfl, rfl⟩ e)
  have hz : nx rest lz ((false, zshl x.toInt y.toInt) :: zst') s = some res := hz
  have k0 : ∀ k : List Value → xm_R → Bool, xm_int2 .ishl (.int y :: .int x :: st') E k = k (.int (x <<< (y &&& 31)) :: st') E := fun k => by show xm_int2 .ishl (.int y :: .int x :: st') E k = _; exact ys_fi2 rfl
  rw [k0] at h ⊢
  exact hi rest lv _ G kc ks lz _ s hl hn (zsr_c rfl rfl (by unfold zshl; rw [Int32.ofInt_toInt, Int32.ofInt_toInt]; rfl) ht) hR hz h
theorem zs_ishr  (hi : zIH nx ih1 ih2 nL E res) (hl : zL lv lz) (hn : lz.length = nL) (hs : zsr st zst) (hR : zR G s) (hz : zm_body nx cl rt none full (pc, .ishr, a, b, ts, v) rest lz zst s = some res) (h : xm_body call full nL mc ms ret Q1 ih1 (pc, .ishr, a, b, ts, v) rest lv st G E kc ks = true) : xm_body call full nL mc ms ret Q2 ih2 (pc, .ishr, a, b, ts, v) rest lv st G E kc ks = true := by
  have h : xm_ishr st E (fun st E => ih1 rest lv st G E kc ks) = true := h
  show xm_ishr st E (fun st E => ih2 rest lv st G E kc ks) = true
  obtain ⟨w, u, st', zst', rfl, rfl, pw, pu, ⟨y, x, rfl, rfl⟩, ht⟩ := zs_2 (P := zPI) hs (f := fun st => xm_ishr st E (fun st E => ih1 rest lv st G E kc ks)) h rfl (fun w => by cases w <;> rfl) (fun w u st hw hu e => by cases w <;> cases u <;> first | rfl | (cases hw; done) | (cases hu; done) | exact absurd ⟨_, _, rfl, rfl⟩ e)
  have hz : nx rest lz ((false, zshr x.toInt y.toInt) :: zst') s = some res := hz
  have k0 : ∀ k : List Value → xm_R → Bool, xm_ishr (.int y :: .int x :: st') E k = k (.int (x >>> (y &&& 31)) :: st') E := fun k => by show xm_int2 .ishr (.int y :: .int x :: st') E k = _; exact ys_fi2 rfl
  rw [k0] at h ⊢
  exact hi rest lv _ G kc ks lz _ s hl hn (zsr_c rfl rfl (by unfold zshr; rw [Int32.ofInt_toInt, Int32.ofInt_toInt]; rfl) ht) hR hz h
theorem zs_iushr  (hi : zIH nx ih1 ih2 nL E res) (hl : zL lv lz) (hn : lz.length = nL) (hs : zsr st zst) (hR : zR G s) (hz : zm_body nx cl rt none full (pc, .iushr, a, b, ts, v) rest lz zst s = some res) (h : xm_body call full nL mc ms ret Q1 ih1 (pc, .iushr, a, b, ts, v) rest lv st G E kc ks = true) : xm_body call full nL mc ms ret Q2 ih2 (pc, .iushr, a, b, ts, v) rest lv st G E kc ks = true := by
  have h : xm_int2 .iushr st E (fun st E => ih1 rest lv st G E kc ks) = true := h
  show xm_int2 .iushr st E (fun st E => ih2 rest lv st G E kc ks) = true
  obtain ⟨w, u, st', zst', rfl, rfl, pw, pu, ⟨y, x, rfl, rfl⟩, ht⟩ := zs_2 (P := zPI) hs (f := fun st => xm_int2 .iushr st E (fun st E => ih1 rest lv st G E kc ks)) h rfl (fun w => by cases w <;> rfl) (fun w u st hw hu e => by cases w <;> cases u <;> first | rfl | (cases hw; done) | (cases hu; done) | exact absurd ⟨_, _, rfl, rfl⟩ e)
  have hz : nx rest lz ((false, zushr x.toInt y.toInt) :: zst') s = some res := hz
  have k0 : ∀ k : List Value → xm_R → Bool, xm_int2 .iushr (.int y :: .int x :: st') E k = k (.int ((x.toUInt32 >>> (y.toUInt32 &&& Int32.toUInt32 31)).toInt32) :: st') E := fun k => by show xm_int2 .iushr (.int y :: .int x :: st') E k = _; exact ys_fi2 rfl
  rw [k0] at h ⊢
  exact hi rest lv _ G kc ks lz _ s hl hn (zsr_c rfl rfl (by unfold zushr; rw [Int32.ofInt_toInt, Int32.ofInt_toInt]; rfl) ht) hR hz h
theorem zs_idiv  (hi : zIH nx ih1 ih2 nL E res) (hl : zL lv lz) (hn : lz.length = nL) (hs : zsr st zst) (hR : zR G s) (hz : zm_body nx cl rt none full (pc, .idiv, a, b, ts, v) rest lz zst s = some res) (h : xm_body call full nL mc ms ret Q1 ih1 (pc, .idiv, a, b, ts, v) rest lv st G E kc ks = true) : xm_body call full nL mc ms ret Q2 ih2 (pc, .idiv, a, b, ts, v) rest lv st G E kc ks = true := by
  have h : xm_int2 .idiv st E (fun st E => ih1 rest lv st G E kc ks) = true := h
  show xm_int2 .idiv st E (fun st E => ih2 rest lv st G E kc ks) = true
  obtain ⟨w, u, st', zst', rfl, rfl, pw, pu, ⟨y, x, rfl, rfl⟩, ht⟩ := zs_2 (P := zPI) hs (f := fun st => xm_int2 .idiv st E (fun st E => ih1 rest lv st G E kc ks)) h rfl (fun w => by cases w <;> rfl) (fun w u st hw hu e => by cases w <;> cases u <;> first | rfl | (cases hw; done) | (cases hu; done) | exact absurd ⟨_, _, rfl, rfl⟩ e)
  have hz : nx rest lz ((false, zdiv x.toInt y.toInt) :: zst') s = some res := hz
  by_cases hy : y = 0
  · subst hy
    have h : xm_int2 .idiv (.int 0 :: .int x :: st') E (fun st E => ih1 rest lv st G E kc ks) = true := h
    exact absurd (show false = true from h) (by decide)
  have k0 : ∀ k : List Value → xm_R → Bool, xm_int2 .idiv (.int y :: .int x :: st') E k = k (.int (x / y) :: st') E := fun k => ys_fi2 (by
    show (bif decide (y = 0) then none else some _) = _
    rw [decide_eq_false hy]
    rfl)
  rw [k0] at h ⊢
  exact hi rest lv _ G kc ks lz _ s hl hn (zsr_c rfl rfl (by unfold zdiv; rw [Int32.ofInt_toInt, Int32.ofInt_toInt]; rfl) ht) hR hz h
theorem zs_irem  (hi : zIH nx ih1 ih2 nL E res) (hl : zL lv lz) (hn : lz.length = nL) (hs : zsr st zst) (hR : zR G s) (hz : zm_body nx cl rt none full (pc, .irem, a, b, ts, v) rest lz zst s = some res) (h : xm_body call full nL mc ms ret Q1 ih1 (pc, .irem, a, b, ts, v) rest lv st G E kc ks = true) : xm_body call full nL mc ms ret Q2 ih2 (pc, .irem, a, b, ts, v) rest lv st G E kc ks = true := by
  have h : xm_int2 .irem st E (fun st E => ih1 rest lv st G E kc ks) = true := h
  show xm_int2 .irem st E (fun st E => ih2 rest lv st G E kc ks) = true
  obtain ⟨w, u, st', zst', rfl, rfl, pw, pu, ⟨y, x, rfl, rfl⟩, ht⟩ := zs_2 (P := zPI) hs (f := fun st => xm_int2 .irem st E (fun st E => ih1 rest lv st G E kc ks)) h rfl (fun w => by cases w <;> rfl) (fun w u st hw hu e => by cases w <;> cases u <;> first | rfl | (cases hw; done) | (cases hu; done) | exact absurd ⟨_, _, rfl, rfl⟩ e)
  have hz : nx rest lz ((false, zrem x.toInt y.toInt) :: zst') s = some res := hz
  by_cases hy : y = 0
  · subst hy
    have h : xm_int2 .irem (.int 0 :: .int x :: st') E (fun st E => ih1 rest lv st G E kc ks) = true := h
    exact absurd (show false = true from h) (by decide)
  have k0 : ∀ k : List Value → xm_R → Bool, xm_int2 .irem (.int y :: .int x :: st') E k = k (.int (x - x / y * y) :: st') E := fun k => ys_fi2 (by
    show (bif decide (y = 0) then none else some _) = _
    rw [decide_eq_false hy]
    rfl)
  rw [k0] at h ⊢
  exact hi rest lv _ G kc ks lz _ s hl hn (zsr_c rfl rfl (by unfold zrem; rw [Int32.ofInt_toInt, Int32.ofInt_toInt]; rfl) ht) hR hz h
theorem zs_ladd  (hi : zIH nx ih1 ih2 nL E res) (hl : zL lv lz) (hn : lz.length = nL) (hs : zsr st zst) (hR : zR G s) (hz : zm_body nx cl rt none full (pc, .ladd, a, b, ts, v) rest lz zst s = some res) (h : xm_body call full nL mc ms ret Q1 ih1 (pc, .ladd, a, b, ts, v) rest lv st G E kc ks = true) : xm_body call full nL mc ms ret Q2 ih2 (pc, .ladd, a, b, ts, v) rest lv st G E kc ks = true := by
  have h : xm_long2 .ladd st (fun st => ih1 rest lv st G E kc ks) = true := h
  show xm_long2 .ladd st (fun st => ih2 rest lv st G E kc ks) = true
  obtain ⟨w, u, st', zst', rfl, rfl, pw, pu, ⟨y, x, rfl, rfl⟩, ht⟩ := zs_2 (P := zPL) hs (f := fun st => xm_long2 .ladd st (fun st => ih1 rest lv st G E kc ks)) h rfl (fun w => by cases w <;> rfl) (fun w u st hw hu e => by cases w <;> cases u <;> first | rfl | (cases hw; done) | (cases hu; done) | exact absurd ⟨_, _, rfl, rfl⟩ e)
  have hz : nx rest lz ((true, zq (x.toInt + y.toInt)) :: zst') s = some res := hz
  have h : ih1 rest lv (.long (x + y) :: st') G E kc ks = true := h
  show ih2 rest lv (.long (x + y) :: st') G E kc ks = true
  exact hi rest lv _ G kc ks lz _ s hl hn (zsr_c rfl rfl (zq_add x y) ht) hR hz h
theorem zs_lsub  (hi : zIH nx ih1 ih2 nL E res) (hl : zL lv lz) (hn : lz.length = nL) (hs : zsr st zst) (hR : zR G s) (hz : zm_body nx cl rt none full (pc, .lsub, a, b, ts, v) rest lz zst s = some res) (h : xm_body call full nL mc ms ret Q1 ih1 (pc, .lsub, a, b, ts, v) rest lv st G E kc ks = true) : xm_body call full nL mc ms ret Q2 ih2 (pc, .lsub, a, b, ts, v) rest lv st G E kc ks = true := by
  have h : xm_long2 .lsub st (fun st => ih1 rest lv st G E kc ks) = true := h
  show xm_long2 .lsub st (fun st => ih2 rest lv st G E kc ks) = true
  obtain ⟨w, u, st', zst', rfl, rfl, pw, pu, ⟨y, x, rfl, rfl⟩, ht⟩ := zs_2 (P := zPL) hs (f := fun st => xm_long2 .lsub st (fun st => ih1 rest lv st G E kc ks)) h rfl (fun w => by cases w <;> rfl) (fun w u st hw hu e => by cases w <;> cases u <;> first | rfl | (cases hw; done) | (cases hu; done) | exact absurd ⟨_, _, rfl, rfl⟩ e)
  have hz : nx rest lz ((true, zq (x.toInt - y.toInt)) :: zst') s = some res := hz
  have h : ih1 rest lv (.long (x - y) :: st') G E kc ks = true := h
  show ih2 rest lv (.long (x - y) :: st') G E kc ks = true
  exact hi rest lv _ G kc ks lz _ s hl hn (zsr_c rfl rfl (zq_sub x y) ht) hR hz h
theorem zs_lmul  (hi : zIH nx ih1 ih2 nL E res) (hl : zL lv lz) (hn : lz.length = nL) (hs : zsr st zst) (hR : zR G s) (hz : zm_body nx cl rt none full (pc, .lmul, a, b, ts, v) rest lz zst s = some res) (h : xm_body call full nL mc ms ret Q1 ih1 (pc, .lmul, a, b, ts, v) rest lv st G E kc ks = true) : xm_body call full nL mc ms ret Q2 ih2 (pc, .lmul, a, b, ts, v) rest lv st G E kc ks = true := by
  have h : xm_long2 .lmul st (fun st => ih1 rest lv st G E kc ks) = true := h
  show xm_long2 .lmul st (fun st => ih2 rest lv st G E kc ks) = true
  obtain ⟨w, u, st', zst', rfl, rfl, pw, pu, ⟨y, x, rfl, rfl⟩, ht⟩ := zs_2 (P := zPL) hs (f := fun st => xm_long2 .lmul st (fun st => ih1 rest lv st G E kc ks)) h rfl (fun w => by cases w <;> rfl) (fun w u st hw hu e => by cases w <;> cases u <;> first | rfl | (cases hw; done) | (cases hu; done) | exact absurd ⟨_, _, rfl, rfl⟩ e)
  have hz : nx rest lz ((true, zq (x.toInt * y.toInt)) :: zst') s = some res := hz
  have h : ih1 rest lv (.long (x * y) :: st') G E kc ks = true := h
  show ih2 rest lv (.long (x * y) :: st') G E kc ks = true
  exact hi rest lv _ G kc ks lz _ s hl hn (zsr_c rfl rfl (zq_mul x y) ht) hR hz h
theorem zs_land  (hi : zIH nx ih1 ih2 nL E res) (hl : zL lv lz) (hn : lz.length = nL) (hs : zsr st zst) (hR : zR G s) (hz : zm_body nx cl rt none full (pc, .land, a, b, ts, v) rest lz zst s = some res) (h : xm_body call full nL mc ms ret Q1 ih1 (pc, .land, a, b, ts, v) rest lv st G E kc ks = true) : xm_body call full nL mc ms ret Q2 ih2 (pc, .land, a, b, ts, v) rest lv st G E kc ks = true := by
  have h : xm_long2 .land st (fun st => ih1 rest lv st G E kc ks) = true := h
  show xm_long2 .land st (fun st => ih2 rest lv st G E kc ks) = true
  obtain ⟨w, u, st', zst', rfl, rfl, pw, pu, ⟨y, x, rfl, rfl⟩, ht⟩ := zs_2 (P := zPL) hs (f := fun st => xm_long2 .land st (fun st => ih1 rest lv st G E kc ks)) h rfl (fun w => by cases w <;> rfl) (fun w u st hw hu e => by cases w <;> cases u <;> first | rfl | (cases hw; done) | (cases hu; done) | exact absurd ⟨_, _, rfl, rfl⟩ e)
  have hz : nx rest lz ((true, zqand x.toInt y.toInt) :: zst') s = some res := hz
  have h : ih1 rest lv (.long (x &&& y) :: st') G E kc ks = true := h
  show ih2 rest lv (.long (x &&& y) :: st') G E kc ks = true
  exact hi rest lv _ G kc ks lz _ s hl hn (zsr_c rfl rfl (by unfold zqand; rw [Int64.ofInt_toInt, Int64.ofInt_toInt]; rfl) ht) hR hz h
theorem zs_lor  (hi : zIH nx ih1 ih2 nL E res) (hl : zL lv lz) (hn : lz.length = nL) (hs : zsr st zst) (hR : zR G s) (hz : zm_body nx cl rt none full (pc, .lor, a, b, ts, v) rest lz zst s = some res) (h : xm_body call full nL mc ms ret Q1 ih1 (pc, .lor, a, b, ts, v) rest lv st G E kc ks = true) : xm_body call full nL mc ms ret Q2 ih2 (pc, .lor, a, b, ts, v) rest lv st G E kc ks = true := by
  have h : xm_long2 .lor st (fun st => ih1 rest lv st G E kc ks) = true := h
  show xm_long2 .lor st (fun st => ih2 rest lv st G E kc ks) = true
  obtain ⟨w, u, st', zst', rfl, rfl, pw, pu, ⟨y, x, rfl, rfl⟩, ht⟩ := zs_2 (P := zPL) hs (f := fun st => xm_long2 .lor st (fun st => ih1 rest lv st G E kc ks)) h rfl (fun w => by cases w <;> rfl) (fun w u st hw hu e => by cases w <;> cases u <;> first | rfl | (cases hw; done) | (cases hu; done) | exact absurd ⟨_, _, rfl, rfl⟩ e)
  have hz : nx rest lz ((true, zqor x.toInt y.toInt) :: zst') s = some res := hz
  have h : ih1 rest lv (.long (x ||| y) :: st') G E kc ks = true := h
  show ih2 rest lv (.long (x ||| y) :: st') G E kc ks = true
  exact hi rest lv _ G kc ks lz _ s hl hn (zsr_c rfl rfl (by unfold zqor; rw [Int64.ofInt_toInt, Int64.ofInt_toInt]; rfl) ht) hR hz h
theorem zs_ldiv  (hi : zIH nx ih1 ih2 nL E res) (hl : zL lv lz) (hn : lz.length = nL) (hs : zsr st zst) (hR : zR G s) (hz : zm_body nx cl rt none full (pc, .ldiv, a, b, ts, v) rest lz zst s = some res) (h : xm_body call full nL mc ms ret Q1 ih1 (pc, .ldiv, a, b, ts, v) rest lv st G E kc ks = true) : xm_body call full nL mc ms ret Q2 ih2 (pc, .ldiv, a, b, ts, v) rest lv st G E kc ks = true := by
  have h : xm_long2 .ldiv st (fun st => ih1 rest lv st G E kc ks) = true := h
  show xm_long2 .ldiv st (fun st => ih2 rest lv st G E kc ks) = true
  obtain ⟨w, u, st', zst', rfl, rfl, pw, pu, ⟨y, x, rfl, rfl⟩, ht⟩ := zs_2 (P := zPL) hs (f := fun st => xm_long2 .ldiv st (fun st => ih1 rest lv st G E kc ks)) h rfl (fun w => by cases w <;> rfl) (fun w u st hw hu e => by cases w <;> cases u <;> first | rfl | (cases hw; done) | (cases hu; done) | exact absurd ⟨_, _, rfl, rfl⟩ e)
  have hz : nx rest lz ((true, zqdiv x.toInt y.toInt) :: zst') s = some res := hz
  by_cases hy : y = 0
  · subst hy
    exact absurd (show false = true from h) (by decide)
  have k0 : ∀ k : List Value → Bool, xm_long2 .ldiv (.long y :: .long x :: st') k = k (.long (x / y) :: st') := fun k => by
    show (match (bif decide (y = 0) then none else some (x / y)) with
      | some z => k (.long z :: st')
      | none => false) = _
    rw [decide_eq_false hy]
    rfl
  rw [k0] at h ⊢
  exact hi rest lv _ G kc ks lz _ s hl hn (zsr_c rfl rfl (by unfold zqdiv; rw [Int64.ofInt_toInt, Int64.ofInt_toInt]; rfl) ht) hR hz h
theorem zs_lrem  (hi : zIH nx ih1 ih2 nL E res) (hl : zL lv lz) (hn : lz.length = nL) (hs : zsr st zst) (hR : zR G s) (hz : zm_body nx cl rt none full (pc, .lrem, a, b, ts, v) rest lz zst s = some res) (h : xm_body call full nL mc ms ret Q1 ih1 (pc, .lrem, a, b, ts, v) rest lv st G E kc ks = true) : xm_body call full nL mc ms ret Q2 ih2 (pc, .lrem, a, b, ts, v) rest lv st G E kc ks = true := by
  have h : xm_long2 .lrem st (fun st => ih1 rest lv st G E kc ks) = true := h
  show xm_long2 .lrem st (fun st => ih2 rest lv st G E kc ks) = true
  obtain ⟨w, u, st', zst', rfl, rfl, pw, pu, ⟨y, x, rfl, rfl⟩, ht⟩ := zs_2 (P := zPL) hs (f := fun st => xm_long2 .lrem st (fun st => ih1 rest lv st G E kc ks)) h rfl (fun w => by cases w <;> rfl) (fun w u st hw hu e => by cases w <;> cases u <;> first | rfl | (cases hw; done) | (cases hu; done) | exact absurd ⟨_, _, rfl, rfl⟩ e)
  have hz : nx rest lz ((true, zqrem x.toInt y.toInt) :: zst') s = some res := hz
  by_cases hy : y = 0
  · subst hy
    exact absurd (show false = true from h) (by decide)
  have k0 : ∀ k : List Value → Bool, xm_long2 .lrem (.long y :: .long x :: st') k = k (.long (x - x / y * y) :: st') := fun k => by
    show (match (bif decide (y = 0) then none else some (x - x / y * y)) with
      | some z => k (.long z :: st')
      | none => false) = _
    rw [decide_eq_false hy]
    rfl
  rw [k0] at h ⊢
  exact hi rest lv _ G kc ks lz _ s hl hn (zsr_c rfl rfl (by unfold zqrem; rw [Int64.ofInt_toInt, Int64.ofInt_toInt]; rfl) ht) hR hz h
theorem zs_lshl  (hi : zIH nx ih1 ih2 nL E res) (hl : zL lv lz) (hn : lz.length = nL) (hs : zsr st zst) (hR : zR G s) (hz : zm_body nx cl rt none full (pc, .lshl, a, b, ts, v) rest lz zst s = some res) (h : xm_body call full nL mc ms ret Q1 ih1 (pc, .lshl, a, b, ts, v) rest lv st G E kc ks = true) : xm_body call full nL mc ms ret Q2 ih2 (pc, .lshl, a, b, ts, v) rest lv st G E kc ks = true := by
  have h : (match (generalizing := false) st with
    | .int y :: .long x :: st => ih1 rest lv (.long (x <<< (y.toInt64 &&& 63)) :: st) G E kc ks
    | _ => false) = true := h
  show (match (generalizing := false) st with
    | .int y :: .long x :: st => ih2 rest lv (.long (x <<< (y.toInt64 &&& 63)) :: st) G E kc ks
    | _ => false) = true
  obtain ⟨w, u, st', zst', rfl, rfl, pw, pu, ⟨y, x, rfl, rfl⟩, ht⟩ := zs_2 (P := fun w u => ∃ y x, w = .int y ∧ u = .long x) hs (f := fun st => (match (generalizing := false) st with
    | .int y :: .long x :: st => ih1 rest lv (.long (x <<< (y.toInt64 &&& 63)) :: st) G E kc ks
    | _ => false)) h rfl (fun w => by cases w <;> rfl) (fun w u st hw hu e => by cases w <;> cases u <;> first | rfl | (cases hw; done) | (cases hu; done) | exact absurd ⟨_, _, rfl, rfl⟩ e)
  have hz : nx rest lz ((true, zqshl x.toInt y.toInt) :: zst') s = some res := hz
  exact hi rest lv _ G kc ks lz _ s hl hn (zsr_c rfl rfl (by unfold zqshl; rw [Int64.ofInt_toInt, Int32.ofInt_toInt]; rfl) ht) hR hz h
theorem zs_lshr  (hi : zIH nx ih1 ih2 nL E res) (hl : zL lv lz) (hn : lz.length = nL) (hs : zsr st zst) (hR : zR G s) (hz : zm_body nx cl rt none full (pc, .lshr, a, b, ts, v) rest lz zst s = some res) (h : xm_body call full nL mc ms ret Q1 ih1 (pc, .lshr, a, b, ts, v) rest lv st G E kc ks = true) : xm_body call full nL mc ms ret Q2 ih2 (pc, .lshr, a, b, ts, v) rest lv st G E kc ks = true := by
  have h : (match (generalizing := false) st with
    | .int y :: .long x :: st => ih1 rest lv (.long (x >>> (y.toInt64 &&& 63)) :: st) G E kc ks
    | _ => false) = true := h
  show (match (generalizing := false) st with
    | .int y :: .long x :: st => ih2 rest lv (.long (x >>> (y.toInt64 &&& 63)) :: st) G E kc ks
    | _ => false) = true
  obtain ⟨w, u, st', zst', rfl, rfl, pw, pu, ⟨y, x, rfl, rfl⟩, ht⟩ := zs_2 (P := fun w u => ∃ y x, w = .int y ∧ u = .long x) hs (f := fun st => (match (generalizing := false) st with
    | .int y :: .long x :: st => ih1 rest lv (.long (x >>> (y.toInt64 &&& 63)) :: st) G E kc ks
    | _ => false)) h rfl (fun w => by cases w <;> rfl) (fun w u st hw hu e => by cases w <;> cases u <;> first | rfl | (cases hw; done) | (cases hu; done) | exact absurd ⟨_, _, rfl, rfl⟩ e)
  have hz : nx rest lz ((true, zqshr x.toInt y.toInt) :: zst') s = some res := hz
  exact hi rest lv _ G kc ks lz _ s hl hn (zsr_c rfl rfl (by unfold zqshr; rw [Int64.ofInt_toInt, Int32.ofInt_toInt]; rfl) ht) hR hz h
theorem zs_lcmp  (hi : zIH nx ih1 ih2 nL E res) (hl : zL lv lz) (hn : lz.length = nL) (hs : zsr st zst) (hR : zR G s) (hz : zm_body nx cl rt none full (pc, .lcmp, a, b, ts, v) rest lz zst s = some res) (h : xm_body call full nL mc ms ret Q1 ih1 (pc, .lcmp, a, b, ts, v) rest lv st G E kc ks = true) : xm_body call full nL mc ms ret Q2 ih2 (pc, .lcmp, a, b, ts, v) rest lv st G E kc ks = true := by
  have h : (match (generalizing := false) st with
    | w :: u :: st => xm_cmpL E u w (fun E s => ih1 rest lv (.int (Int32.ofInt s) :: st) G E kc ks)
    | _ => false) = true := h
  show (match (generalizing := false) st with
    | w :: u :: st => xm_cmpL E u w (fun E s => ih2 rest lv (.int (Int32.ofInt s) :: st) G E kc ks)
    | _ => false) = true
  obtain ⟨w, u, st', zst', rfl, rfl, pw, pu, ⟨y, x, rfl, rfl⟩, ht⟩ := zs_2 (P := zPL) hs (f := fun st => (match (generalizing := false) st with
    | w :: u :: st => xm_cmpL E u w (fun E s => ih1 rest lv (.int (Int32.ofInt s) :: st) G E kc ks)
    | _ => false)) h rfl (fun w => by cases w <;> rfl) (fun w u st hw hu e => by cases w <;> cases u <;> first | rfl | (cases hw; done) | (cases hu; done) | exact absurd ⟨_, _, rfl, rfl⟩ e)
  have hz : nx rest lz ((false, zsg x.toInt y.toInt) :: zst') s = some res := hz
  have h : ih1 rest lv (.int (Int32.ofInt (xm_sgn x.toInt y.toInt)) :: st') G E kc ks = true := h
  show ih2 rest lv (.int (Int32.ofInt (xm_sgn x.toInt y.toInt)) :: st') G E kc ks = true
  refine hi rest lv _ G kc ks lz _ s hl hn (zsr_c rfl rfl ?_ ht) hR hz h
  show (Int32.ofInt (xm_sgn x.toInt y.toInt)).toInt = zsg x.toInt y.toInt
  unfold xm_sgn zsg
  by_cases e : x.toInt < y.toInt
  · rw [decide_eq_true e, if_pos e]
    rfl
  · rw [decide_eq_false e, if_neg e]
    by_cases e2 : x.toInt = y.toInt
    · rw [decide_eq_true e2, if_pos e2]
      rfl
    · rw [decide_eq_false e2, if_neg e2]
      rfl
theorem zs_ineg  (hi : zIH nx ih1 ih2 nL E res) (hl : zL lv lz) (hn : lz.length = nL) (hs : zsr st zst) (hR : zR G s) (hz : zm_body nx cl rt none full (pc, .ineg, a, b, ts, v) rest lz zst s = some res) (h : xm_body call full nL mc ms ret Q1 ih1 (pc, .ineg, a, b, ts, v) rest lv st G E kc ks = true) : xm_body call full nL mc ms ret Q2 ih2 (pc, .ineg, a, b, ts, v) rest lv st G E kc ks = true := by
  have h : (match (generalizing := false) st with
    | w :: st => xm_conc E w (fun E x => xm_frc (-x) (fun z => ih1 rest lv (.int z :: st) G E kc ks))
    | _ => false) = true := h
  show (match (generalizing := false) st with
    | w :: st => xm_conc E w (fun E x => xm_frc (-x) (fun z => ih2 rest lv (.int z :: st) G E kc ks))
    | _ => false) = true
  obtain ⟨w, st', zst', rfl, rfl, pw, ⟨x, rfl⟩, ht⟩ := zs_1 (P := fun w => ∃ x, w = .int x) hs (f := fun st => (match (generalizing := false) st with
    | w :: st => xm_conc E w (fun E x => xm_frc (-x) (fun z => ih1 rest lv (.int z :: st) G E kc ks))
    | _ => false)) h rfl (fun w st hw e => by cases w <;> first | rfl | (cases hw; done) | exact absurd ⟨_, rfl⟩ e)
  have hz : nx rest lz ((false, zw (-x.toInt)) :: zst') s = some res := hz
  have h : xm_frc (-x) (fun z => ih1 rest lv (.int z :: st') G E kc ks) = true := h
  show xm_frc (-x) (fun z => ih2 rest lv (.int z :: st') G E kc ks) = true
  rw [xl_frc] at h ⊢
  have h : ih1 rest lv (.int (-x) :: st') G E kc ks = true := h
  show ih2 rest lv (.int (-x) :: st') G E kc ks = true
  exact hi rest lv _ G kc ks lz _ s hl hn (zsr_c rfl rfl (zw_neg x) ht) hR hz h
theorem zs_i2b  (hi : zIH nx ih1 ih2 nL E res) (hl : zL lv lz) (hn : lz.length = nL) (hs : zsr st zst) (hR : zR G s) (hz : zm_body nx cl rt none full (pc, .i2b, a, b, ts, v) rest lz zst s = some res) (h : xm_body call full nL mc ms ret Q1 ih1 (pc, .i2b, a, b, ts, v) rest lv st G E kc ks = true) : xm_body call full nL mc ms ret Q2 ih2 (pc, .i2b, a, b, ts, v) rest lv st G E kc ks = true := by
  have h : xm_i2b st E (fun st E => ih1 rest lv st G E kc ks) = true := h
  show xm_i2b st E (fun st E => ih2 rest lv st G E kc ks) = true
  obtain ⟨w, st', zst', rfl, rfl, pw, ⟨x, rfl⟩, ht⟩ := zs_1 (P := fun w => ∃ x, w = .int x) hs (f := fun st => xm_i2b st E (fun st E => ih1 rest lv st G E kc ks)) h rfl (fun w st hw e => by cases w <;> first | rfl | (cases hw; done) | exact absurd ⟨_, rfl⟩ e)
  have hz : nx rest lz ((false, zb x.toInt) :: zst') s = some res := hz
  have h : ih1 rest lv (.int x.toInt8.toInt32 :: st') G E kc ks = true := h
  show ih2 rest lv (.int x.toInt8.toInt32 :: st') G E kc ks = true
  exact hi rest lv _ G kc ks lz _ s hl hn (zsr_c rfl rfl (by unfold zb; rw [Int32.ofInt_toInt]; rfl) ht) hR hz h
theorem zs_i2l  (hi : zIH nx ih1 ih2 nL E res) (hl : zL lv lz) (hn : lz.length = nL) (hs : zsr st zst) (hR : zR G s) (hz : zm_body nx cl rt none full (pc, .i2l, a, b, ts, v) rest lz zst s = some res) (h : xm_body call full nL mc ms ret Q1 ih1 (pc, .i2l, a, b, ts, v) rest lv st G E kc ks = true) : xm_body call full nL mc ms ret Q2 ih2 (pc, .i2l, a, b, ts, v) rest lv st G E kc ks = true := by
  have h : xm_i2l st (fun st => ih1 rest lv st G E kc ks) = true := h
  show xm_i2l st (fun st => ih2 rest lv st G E kc ks) = true
  obtain ⟨w, st', zst', rfl, rfl, pw, ⟨x, rfl⟩, ht⟩ := zs_1 (P := fun w => ∃ x, w = .int x) hs (f := fun st => xm_i2l st (fun st => ih1 rest lv st G E kc ks)) h rfl (fun w st hw e => by cases w <;> first | rfl | (cases hw; done) | exact absurd ⟨_, rfl⟩ e)
  have hz : nx rest lz ((true, x.toInt) :: zst') s = some res := hz
  have h : ih1 rest lv (.long x.toInt64 :: st') G E kc ks = true := h
  show ih2 rest lv (.long x.toInt64 :: st') G E kc ks = true
  exact hi rest lv _ G kc ks lz _ s hl hn (zsr_c rfl rfl (Int32.toInt_toInt64 x) ht) hR hz h
theorem zs_l2i  (hi : zIH nx ih1 ih2 nL E res) (hl : zL lv lz) (hn : lz.length = nL) (hs : zsr st zst) (hR : zR G s) (hz : zm_body nx cl rt none full (pc, .l2i, a, b, ts, v) rest lz zst s = some res) (h : xm_body call full nL mc ms ret Q1 ih1 (pc, .l2i, a, b, ts, v) rest lv st G E kc ks = true) : xm_body call full nL mc ms ret Q2 ih2 (pc, .l2i, a, b, ts, v) rest lv st G E kc ks = true := by
  have h : (match (generalizing := false) st with
    | .long x :: st => xm_frc x.toInt32 (fun z => ih1 rest lv (.int z :: st) G E kc ks)
    | _ => false) = true := h
  show (match (generalizing := false) st with
    | .long x :: st => xm_frc x.toInt32 (fun z => ih2 rest lv (.int z :: st) G E kc ks)
    | _ => false) = true
  obtain ⟨w, st', zst', rfl, rfl, pw, ⟨x, rfl⟩, ht⟩ := zs_1 (P := fun w => ∃ x, w = .long x) hs (f := fun st => (match (generalizing := false) st with
    | .long x :: st => xm_frc x.toInt32 (fun z => ih1 rest lv (.int z :: st) G E kc ks)
    | _ => false)) h rfl (fun w st hw e => by cases w <;> first | rfl | (cases hw; done) | exact absurd ⟨_, rfl⟩ e)
  have hz : nx rest lz ((false, zw x.toInt) :: zst') s = some res := hz
  have h : xm_frc x.toInt32 (fun z => ih1 rest lv (.int z :: st') G E kc ks) = true := h
  show xm_frc x.toInt32 (fun z => ih2 rest lv (.int z :: st') G E kc ks) = true
  rw [xl_frc] at h ⊢
  have h : ih1 rest lv (.int x.toInt32 :: st') G E kc ks = true := h
  show ih2 rest lv (.int x.toInt32 :: st') G E kc ks = true
  exact hi rest lv _ G kc ks lz _ s hl hn (zsr_c rfl rfl (Int64.toInt_toInt32 x) ht) hR hz h
theorem zs_dup  (hi : zIH nx ih1 ih2 nL E res) (hl : zL lv lz) (hn : lz.length = nL) (hs : zsr st zst) (hR : zR G s) (hz : zm_body nx cl rt none full (pc, .dup, a, b, ts, v) rest lz zst s = some res) (h : xm_body call full nL mc ms ret Q1 ih1 (pc, .dup, a, b, ts, v) rest lv st G E kc ks = true) : xm_body call full nL mc ms ret Q2 ih2 (pc, .dup, a, b, ts, v) rest lv st G E kc ks = true := by
  have h : (match (generalizing := false) st with
    | w :: st => bif xm_cat1 w then ih1 rest lv (w :: w :: st) G E kc ks else false
    | _ => false) = true := h
  show (match (generalizing := false) st with
    | w :: st => bif xm_cat1 w then ih2 rest lv (w :: w :: st) G E kc ks else false
    | _ => false) = true
  obtain ⟨w, st', zst', rfl, rfl, pw, e, ht⟩ := zs_1 (P := fun w => xm_cat1 w = true) hs (f := fun st => (match (generalizing := false) st with
    | w :: st => bif xm_cat1 w then ih1 rest lv (w :: w :: st) G E kc ks else false
    | _ => false)) h rfl (fun w st hw e => by show (bif xm_cat1 w then _ else false) = false; rw [Bool.eq_false_iff.mpr e]; rfl)
  dsimp only at h ⊢
  rw [e, cond_true] at h ⊢
  exact hi rest lv _ G kc ks lz _ s hl hn (zsr_c pw rfl rfl (zsr_c pw rfl rfl ht)) hR hz h
theorem zs_pop  (hi : zIH nx ih1 ih2 nL E res) (hl : zL lv lz) (hn : lz.length = nL) (hs : zsr st zst) (hR : zR G s) (hz : zm_body nx cl rt none full (pc, .pop, a, b, ts, v) rest lz zst s = some res) (h : xm_body call full nL mc ms ret Q1 ih1 (pc, .pop, a, b, ts, v) rest lv st G E kc ks = true) : xm_body call full nL mc ms ret Q2 ih2 (pc, .pop, a, b, ts, v) rest lv st G E kc ks = true := by
  have h : (match (generalizing := false) st with
    | w :: st => bif xm_cat1 w then ih1 rest lv (st) G E kc ks else false
    | _ => false) = true := h
  show (match (generalizing := false) st with
    | w :: st => bif xm_cat1 w then ih2 rest lv (st) G E kc ks else false
    | _ => false) = true
  obtain ⟨w, st', zst', rfl, rfl, pw, e, ht⟩ := zs_1 (P := fun w => xm_cat1 w = true) hs (f := fun st => (match (generalizing := false) st with
    | w :: st => bif xm_cat1 w then ih1 rest lv (st) G E kc ks else false
    | _ => false)) h rfl (fun w st hw e => by show (bif xm_cat1 w then _ else false) = false; rw [Bool.eq_false_iff.mpr e]; rfl)
  dsimp only at h ⊢
  rw [e, cond_true] at h ⊢
  exact hi rest lv _ G kc ks lz _ s hl hn ht hR hz h
theorem zs_dup2  (hi : zIH nx ih1 ih2 nL E res) (hl : zL lv lz) (hn : lz.length = nL) (hs : zsr st zst) (hR : zR G s) (hz : zm_body nx cl rt none full (pc, .dup2, a, b, ts, v) rest lz zst s = some res) (h : xm_body call full nL mc ms ret Q1 ih1 (pc, .dup2, a, b, ts, v) rest lv st G E kc ks = true) : xm_body call full nL mc ms ret Q2 ih2 (pc, .dup2, a, b, ts, v) rest lv st G E kc ks = true := by
  have h : (match (generalizing := false) st with
    | w :: u :: st => bif xm_cat1 w && xm_cat1 u then ih1 rest lv (w :: u :: w :: u :: st) G E kc ks else false
    | _ => false) = true := h
  show (match (generalizing := false) st with
    | w :: u :: st => bif xm_cat1 w && xm_cat1 u then ih2 rest lv (w :: u :: w :: u :: st) G E kc ks else false
    | _ => false) = true
  obtain ⟨w, u, st', zst', rfl, rfl, pw, pu, e, ht⟩ := zs_2 (P := fun w u => (xm_cat1 w && xm_cat1 u) = true) hs (f := fun st => (match (generalizing := false) st with
    | w :: u :: st => bif xm_cat1 w && xm_cat1 u then ih1 rest lv (w :: u :: w :: u :: st) G E kc ks else false
    | _ => false)) h rfl (fun _ => rfl) (fun w u st hw hu e => by show (bif xm_cat1 w && xm_cat1 u then _ else false) = false; rw [Bool.eq_false_iff.mpr e]; rfl)
  dsimp only at h ⊢
  rw [e, cond_true] at h ⊢
  exact hi rest lv _ G kc ks lz _ s hl hn (zsr_c pw rfl rfl (zsr_c pu rfl rfl (zsr_c pw rfl rfl (zsr_c pu rfl rfl ht)))) hR hz h
theorem zs_goto {off : Int} (hi : zIH nx ih1 ih2 nL E res) (hl : zL lv lz) (hn : lz.length = nL) (hs : zsr st zst) (hR : zR G s) (hz : zm_body nx cl rt none full (pc, .goto off, a, b, ts, v) rest lz zst s = some res) (h : xm_body call full nL mc ms ret Q1 ih1 (pc, .goto off, a, b, ts, v) rest lv st G E kc ks = true) : xm_body call full nL mc ms ret Q2 ih2 (pc, .goto off, a, b, ts, v) rest lv st G E kc ks = true := by
  exact hi (xm_drop a full) lv st G kc ks lz zst s hl hn hs hR hz h
theorem zs_iconst {n : Int} (hi : zIH nx ih1 ih2 nL E res) (hl : zL lv lz) (hn : lz.length = nL) (hs : zsr st zst) (hR : zR G s) (hz : zm_body nx cl rt none full (pc, .iconst n, a, b, ts, v) rest lz zst s = some res) (h : xm_body call full nL mc ms ret Q1 ih1 (pc, .iconst n, a, b, ts, v) rest lv st G E kc ks = true) : xm_body call full nL mc ms ret Q2 ih2 (pc, .iconst n, a, b, ts, v) rest lv st G E kc ks = true := by
  have hz : (bif zp v then nx rest lz ((xm_isL v, zi v) :: zst) s else none) = some res := hz
  cases e : zp v with
  | false => rw [e] at hz; cases hz
  | true =>
    rw [e] at hz
    exact hi rest lv (v :: st) G kc ks lz _ s hl hn (zsr_c e rfl rfl hs) hR hz h
theorem zs_bipush {n : Int} (hi : zIH nx ih1 ih2 nL E res) (hl : zL lv lz) (hn : lz.length = nL) (hs : zsr st zst) (hR : zR G s) (hz : zm_body nx cl rt none full (pc, .bipush n, a, b, ts, v) rest lz zst s = some res) (h : xm_body call full nL mc ms ret Q1 ih1 (pc, .bipush n, a, b, ts, v) rest lv st G E kc ks = true) : xm_body call full nL mc ms ret Q2 ih2 (pc, .bipush n, a, b, ts, v) rest lv st G E kc ks = true := by
  have hz : (bif zp v then nx rest lz ((xm_isL v, zi v) :: zst) s else none) = some res := hz
  cases e : zp v with
  | false => rw [e] at hz; cases hz
  | true =>
    rw [e] at hz
    exact hi rest lv (v :: st) G kc ks lz _ s hl hn (zsr_c e rfl rfl hs) hR hz h
theorem zs_sipush {n : Int} (hi : zIH nx ih1 ih2 nL E res) (hl : zL lv lz) (hn : lz.length = nL) (hs : zsr st zst) (hR : zR G s) (hz : zm_body nx cl rt none full (pc, .sipush n, a, b, ts, v) rest lz zst s = some res) (h : xm_body call full nL mc ms ret Q1 ih1 (pc, .sipush n, a, b, ts, v) rest lv st G E kc ks = true) : xm_body call full nL mc ms ret Q2 ih2 (pc, .sipush n, a, b, ts, v) rest lv st G E kc ks = true := by
  have hz : (bif zp v then nx rest lz ((xm_isL v, zi v) :: zst) s else none) = some res := hz
  cases e : zp v with
  | false => rw [e] at hz; cases hz
  | true =>
    rw [e] at hz
    exact hi rest lv (v :: st) G kc ks lz _ s hl hn (zsr_c e rfl rfl hs) hR hz h
theorem zs_lconst {n : Fin 2} (hi : zIH nx ih1 ih2 nL E res) (hl : zL lv lz) (hn : lz.length = nL) (hs : zsr st zst) (hR : zR G s) (hz : zm_body nx cl rt none full (pc, .lconst n, a, b, ts, v) rest lz zst s = some res) (h : xm_body call full nL mc ms ret Q1 ih1 (pc, .lconst n, a, b, ts, v) rest lv st G E kc ks = true) : xm_body call full nL mc ms ret Q2 ih2 (pc, .lconst n, a, b, ts, v) rest lv st G E kc ks = true := by
  have hz : (bif zp v then nx rest lz ((xm_isL v, zi v) :: zst) s else none) = some res := hz
  cases e : zp v with
  | false => rw [e] at hz; cases hz
  | true =>
    rw [e] at hz
    exact hi rest lv (v :: st) G kc ks lz _ s hl hn (zsr_c e rfl rfl hs) hR hz h
theorem zs_aconst_null  (hi : zIH nx ih1 ih2 nL E res) (hl : zL lv lz) (hn : lz.length = nL) (hs : zsr st zst) (hR : zR G s) (hz : zm_body nx cl rt none full (pc, .aconst_null, a, b, ts, v) rest lz zst s = some res) (h : xm_body call full nL mc ms ret Q1 ih1 (pc, .aconst_null, a, b, ts, v) rest lv st G E kc ks = true) : xm_body call full nL mc ms ret Q2 ih2 (pc, .aconst_null, a, b, ts, v) rest lv st G E kc ks = true := by
  have hz : (bif zp v then nx rest lz ((xm_isL v, zi v) :: zst) s else none) = some res := hz
  cases e : zp v with
  | false => rw [e] at hz; cases hz
  | true =>
    rw [e] at hz
    exact hi rest lv (v :: st) G kc ks lz _ s hl hn (zsr_c e rfl rfl hs) hR hz h
theorem zs_ldc {n : Nat} (hi : zIH nx ih1 ih2 nL E res) (hl : zL lv lz) (hn : lz.length = nL) (hs : zsr st zst) (hR : zR G s) (hz : zm_body nx cl rt none full (pc, .ldc n, a, b, ts, v) rest lz zst s = some res) (h : xm_body call full nL mc ms ret Q1 ih1 (pc, .ldc n, a, b, ts, v) rest lv st G E kc ks = true) : xm_body call full nL mc ms ret Q2 ih2 (pc, .ldc n, a, b, ts, v) rest lv st G E kc ks = true := by
  have hz : (bif zp v then nx rest lz ((xm_isL v, zi v) :: zst) s else none) = some res := hz
  cases e : zp v with
  | false => rw [e] at hz; cases hz
  | true =>
    rw [e] at hz
    exact hi rest lv (v :: st) G kc ks lz _ s hl hn (zsr_c e rfl rfl hs) hR hz h
theorem zs_ldc_w {n : Nat} (hi : zIH nx ih1 ih2 nL E res) (hl : zL lv lz) (hn : lz.length = nL) (hs : zsr st zst) (hR : zR G s) (hz : zm_body nx cl rt none full (pc, .ldc_w n, a, b, ts, v) rest lz zst s = some res) (h : xm_body call full nL mc ms ret Q1 ih1 (pc, .ldc_w n, a, b, ts, v) rest lv st G E kc ks = true) : xm_body call full nL mc ms ret Q2 ih2 (pc, .ldc_w n, a, b, ts, v) rest lv st G E kc ks = true := by
  have hz : (bif zp v then nx rest lz ((xm_isL v, zi v) :: zst) s else none) = some res := hz
  cases e : zp v with
  | false => rw [e] at hz; cases hz
  | true =>
    rw [e] at hz
    exact hi rest lv (v :: st) G kc ks lz _ s hl hn (zsr_c e rfl rfl hs) hR hz h
theorem zs_ldc2_w {n : Nat} (hi : zIH nx ih1 ih2 nL E res) (hl : zL lv lz) (hn : lz.length = nL) (hs : zsr st zst) (hR : zR G s) (hz : zm_body nx cl rt none full (pc, .ldc2_w n, a, b, ts, v) rest lz zst s = some res) (h : xm_body call full nL mc ms ret Q1 ih1 (pc, .ldc2_w n, a, b, ts, v) rest lv st G E kc ks = true) : xm_body call full nL mc ms ret Q2 ih2 (pc, .ldc2_w n, a, b, ts, v) rest lv st G E kc ks = true := by
  have hz : (bif zp v then nx rest lz ((xm_isL v, zi v) :: zst) s else none) = some res := hz
  cases e : zp v with
  | false => rw [e] at hz; cases hz
  | true =>
    rw [e] at hz
    exact hi rest lv (v :: st) G kc ks lz _ s hl hn (zsr_c e rfl rfl hs) hR hz h
theorem zs_iload {n : Nat} (hi : zIH nx ih1 ih2 nL E res) (hl : zL lv lz) (hn : lz.length = nL) (hs : zsr st zst) (hR : zR G s) (hz : zm_body nx cl rt none full (pc, .iload n, a, b, ts, v) rest lz zst s = some res) (h : xm_body call full nL mc ms ret Q1 ih1 (pc, .iload n, a, b, ts, v) rest lv st G E kc ks = true) : xm_body call full nL mc ms ret Q2 ih2 (pc, .iload n, a, b, ts, v) rest lv st G E kc ks = true := by
  have h : (match xm_get lv a with
    | some w => bif xm_isI w then ih1 rest lv (w :: st) G E kc ks else false
    | none => false) = true := h
  show (match xm_get lv a with
    | some w => bif xm_isI w then ih2 rest lv (w :: st) G E kc ks else false
    | none => false) = true
  cases hg : xm_get lv a with
  | none => rw [hg] at h; cases h
  | some w =>
    rw [hg] at h
    dsimp only at h ⊢
    obtain ⟨pw, gw⟩ := zl_get hl hg
    cases e : xm_isI w with
    | false => rw [e] at h; cases h
    | true =>
      rw [e, cond_true] at h
      rw [cond_true]
      have hz : nx rest lz ((false, zget lz a) :: zst) s = some res := hz
      have el : xm_isL w = false := by cases w <;> first | rfl | (cases e; done) | (cases pw; done)
      exact hi rest lv (w :: st) G kc ks lz _ s hl hn (zsr_c pw el gw.symm hs) hR hz h
theorem zs_iload_n {n : Fin 4} (hi : zIH nx ih1 ih2 nL E res) (hl : zL lv lz) (hn : lz.length = nL) (hs : zsr st zst) (hR : zR G s) (hz : zm_body nx cl rt none full (pc, .iload_n n, a, b, ts, v) rest lz zst s = some res) (h : xm_body call full nL mc ms ret Q1 ih1 (pc, .iload_n n, a, b, ts, v) rest lv st G E kc ks = true) : xm_body call full nL mc ms ret Q2 ih2 (pc, .iload_n n, a, b, ts, v) rest lv st G E kc ks = true := by
  have h : (match xm_get lv a with
    | some w => bif xm_isI w then ih1 rest lv (w :: st) G E kc ks else false
    | none => false) = true := h
  show (match xm_get lv a with
    | some w => bif xm_isI w then ih2 rest lv (w :: st) G E kc ks else false
    | none => false) = true
  cases hg : xm_get lv a with
  | none => rw [hg] at h; cases h
  | some w =>
    rw [hg] at h
    dsimp only at h ⊢
    obtain ⟨pw, gw⟩ := zl_get hl hg
    cases e : xm_isI w with
    | false => rw [e] at h; cases h
    | true =>
      rw [e, cond_true] at h
      rw [cond_true]
      have hz : nx rest lz ((false, zget lz a) :: zst) s = some res := hz
      have el : xm_isL w = false := by cases w <;> first | rfl | (cases e; done) | (cases pw; done)
      exact hi rest lv (w :: st) G kc ks lz _ s hl hn (zsr_c pw el gw.symm hs) hR hz h
theorem zs_lload {n : Nat} (hi : zIH nx ih1 ih2 nL E res) (hl : zL lv lz) (hn : lz.length = nL) (hs : zsr st zst) (hR : zR G s) (hz : zm_body nx cl rt none full (pc, .lload n, a, b, ts, v) rest lz zst s = some res) (h : xm_body call full nL mc ms ret Q1 ih1 (pc, .lload n, a, b, ts, v) rest lv st G E kc ks = true) : xm_body call full nL mc ms ret Q2 ih2 (pc, .lload n, a, b, ts, v) rest lv st G E kc ks = true := by
  have h : (match xm_get lv a with
    | some w => bif xm_isL w then ih1 rest lv (w :: st) G E kc ks else false
    | none => false) = true := h
  show (match xm_get lv a with
    | some w => bif xm_isL w then ih2 rest lv (w :: st) G E kc ks else false
    | none => false) = true
  cases hg : xm_get lv a with
  | none => rw [hg] at h; cases h
  | some w =>
    rw [hg] at h
    dsimp only at h ⊢
    obtain ⟨pw, gw⟩ := zl_get hl hg
    cases e : xm_isL w with
    | false => rw [e] at h; cases h
    | true =>
      rw [e, cond_true] at h
      rw [cond_true]
      have hz : nx rest lz ((true, zget lz a) :: zst) s = some res := hz
      have el : xm_isL w = true := by cases w <;> first | rfl | (cases e; done) | (cases pw; done)
      exact hi rest lv (w :: st) G kc ks lz _ s hl hn (zsr_c pw el gw.symm hs) hR hz h
theorem zs_lload_n {n : Fin 4} (hi : zIH nx ih1 ih2 nL E res) (hl : zL lv lz) (hn : lz.length = nL) (hs : zsr st zst) (hR : zR G s) (hz : zm_body nx cl rt none full (pc, .lload_n n, a, b, ts, v) rest lz zst s = some res) (h : xm_body call full nL mc ms ret Q1 ih1 (pc, .lload_n n, a, b, ts, v) rest lv st G E kc ks = true) : xm_body call full nL mc ms ret Q2 ih2 (pc, .lload_n n, a, b, ts, v) rest lv st G E kc ks = true := by
  have h : (match xm_get lv a with
    | some w => bif xm_isL w then ih1 rest lv (w :: st) G E kc ks else false
    | none => false) = true := h
  show (match xm_get lv a with
    | some w => bif xm_isL w then ih2 rest lv (w :: st) G E kc ks else false
    | none => false) = true
  cases hg : xm_get lv a with
  | none => rw [hg] at h; cases h
  | some w =>
    rw [hg] at h
    dsimp only at h ⊢
    obtain ⟨pw, gw⟩ := zl_get hl hg
    cases e : xm_isL w with
    | false => rw [e] at h; cases h
    | true =>
      rw [e, cond_true] at h
      rw [cond_true]
      have hz : nx rest lz ((true, zget lz a) :: zst) s = some res := hz
      have el : xm_isL w = true := by cases w <;> first | rfl | (cases e; done) | (cases pw; done)
      exact hi rest lv (w :: st) G kc ks lz _ s hl hn (zsr_c pw el gw.symm hs) hR hz h
theorem zs_aload {n : Nat} (hi : zIH nx ih1 ih2 nL E res) (hl : zL lv lz) (hn : lz.length = nL) (hs : zsr st zst) (hR : zR G s) (hz : zm_body nx cl rt none full (pc, .aload n, a, b, ts, v) rest lz zst s = some res) (h : xm_body call full nL mc ms ret Q1 ih1 (pc, .aload n, a, b, ts, v) rest lv st G E kc ks = true) : xm_body call full nL mc ms ret Q2 ih2 (pc, .aload n, a, b, ts, v) rest lv st G E kc ks = true := by
  have h : (match xm_get lv a with
    | some w => bif xm_isA w then ih1 rest lv (w :: st) G E kc ks else false
    | none => false) = true := h
  show (match xm_get lv a with
    | some w => bif xm_isA w then ih2 rest lv (w :: st) G E kc ks else false
    | none => false) = true
  cases hg : xm_get lv a with
  | none => rw [hg] at h; cases h
  | some w =>
    rw [hg] at h
    dsimp only at h ⊢
    obtain ⟨pw, gw⟩ := zl_get hl hg
    cases e : xm_isA w with
    | false => rw [e] at h; cases h
    | true =>
      rw [e, cond_true] at h
      rw [cond_true]
      have hz : nx rest lz ((false, zget lz a) :: zst) s = some res := hz
      have el : xm_isL w = false := by cases w <;> first | rfl | (cases e; done) | (cases pw; done)
      exact hi rest lv (w :: st) G kc ks lz _ s hl hn (zsr_c pw el gw.symm hs) hR hz h
theorem zs_aload_n {n : Fin 4} (hi : zIH nx ih1 ih2 nL E res) (hl : zL lv lz) (hn : lz.length = nL) (hs : zsr st zst) (hR : zR G s) (hz : zm_body nx cl rt none full (pc, .aload_n n, a, b, ts, v) rest lz zst s = some res) (h : xm_body call full nL mc ms ret Q1 ih1 (pc, .aload_n n, a, b, ts, v) rest lv st G E kc ks = true) : xm_body call full nL mc ms ret Q2 ih2 (pc, .aload_n n, a, b, ts, v) rest lv st G E kc ks = true := by
  have h : (match xm_get lv a with
    | some w => bif xm_isA w then ih1 rest lv (w :: st) G E kc ks else false
    | none => false) = true := h
  show (match xm_get lv a with
    | some w => bif xm_isA w then ih2 rest lv (w :: st) G E kc ks else false
    | none => false) = true
  cases hg : xm_get lv a with
  | none => rw [hg] at h; cases h
  | some w =>
    rw [hg] at h
    dsimp only at h ⊢
    obtain ⟨pw, gw⟩ := zl_get hl hg
    cases e : xm_isA w with
    | false => rw [e] at h; cases h
    | true =>
      rw [e, cond_true] at h
      rw [cond_true]
      have hz : nx rest lz ((false, zget lz a) :: zst) s = some res := hz
      have el : xm_isL w = false := by cases w <;> first | rfl | (cases e; done) | (cases pw; done)
      exact hi rest lv (w :: st) G kc ks lz _ s hl hn (zsr_c pw el gw.symm hs) hR hz h
theorem zs_istore {n : Nat} (hi : zIH nx ih1 ih2 nL E res) (hl : zL lv lz) (hn : lz.length = nL) (hs : zsr st zst) (hR : zR G s) (hz : zm_body nx cl rt none full (pc, .istore n, a, b, ts, v) rest lz zst s = some res) (h : xm_body call full nL mc ms ret Q1 ih1 (pc, .istore n, a, b, ts, v) rest lv st G E kc ks = true) : xm_body call full nL mc ms ret Q2 ih2 (pc, .istore n, a, b, ts, v) rest lv st G E kc ks = true := by
  have h : (match (generalizing := false) st with
    | w :: st => bif xm_isI w && Nat.blt a nL then ih1 rest (xm_set1 lv a w) st G E kc ks else false
    | _ => false) = true := h
  show (match (generalizing := false) st with
    | w :: st => bif xm_isI w && Nat.blt a nL then ih2 rest (xm_set1 lv a w) st G E kc ks else false
    | _ => false) = true
  obtain ⟨w, st', zst', rfl, rfl, pw, e, ht⟩ := zs_1 (P := fun w => (xm_isI w && Nat.blt a nL) = true) hs (f := fun st => (match (generalizing := false) st with
    | w :: st => bif xm_isI w && Nat.blt a nL then ih1 rest (xm_set1 lv a w) st G E kc ks else false
    | _ => false)) h rfl (fun w st hw e => by show (bif xm_isI w && Nat.blt a nL then _ else false) = false; rw [Bool.eq_false_iff.mpr e]; rfl)
  dsimp only at h ⊢
  rw [e, cond_true] at h ⊢
  rw [Bool.and_eq_true] at e
  have hb := Nat.le_of_ble_eq_true e.2
  exact hi rest _ st' G kc ks (zset lz a (zi w)) zst' s (zl_set1 hl (by omega) pw) (by rw [zl_len]; exact hn) ht hR hz h
theorem zs_istore_n {n : Fin 4} (hi : zIH nx ih1 ih2 nL E res) (hl : zL lv lz) (hn : lz.length = nL) (hs : zsr st zst) (hR : zR G s) (hz : zm_body nx cl rt none full (pc, .istore_n n, a, b, ts, v) rest lz zst s = some res) (h : xm_body call full nL mc ms ret Q1 ih1 (pc, .istore_n n, a, b, ts, v) rest lv st G E kc ks = true) : xm_body call full nL mc ms ret Q2 ih2 (pc, .istore_n n, a, b, ts, v) rest lv st G E kc ks = true := by
  have h : (match (generalizing := false) st with
    | w :: st => bif xm_isI w && Nat.blt a nL then ih1 rest (xm_set1 lv a w) st G E kc ks else false
    | _ => false) = true := h
  show (match (generalizing := false) st with
    | w :: st => bif xm_isI w && Nat.blt a nL then ih2 rest (xm_set1 lv a w) st G E kc ks else false
    | _ => false) = true
  obtain ⟨w, st', zst', rfl, rfl, pw, e, ht⟩ := zs_1 (P := fun w => (xm_isI w && Nat.blt a nL) = true) hs (f := fun st => (match (generalizing := false) st with
    | w :: st => bif xm_isI w && Nat.blt a nL then ih1 rest (xm_set1 lv a w) st G E kc ks else false
    | _ => false)) h rfl (fun w st hw e => by show (bif xm_isI w && Nat.blt a nL then _ else false) = false; rw [Bool.eq_false_iff.mpr e]; rfl)
  dsimp only at h ⊢
  rw [e, cond_true] at h ⊢
  rw [Bool.and_eq_true] at e
  have hb := Nat.le_of_ble_eq_true e.2
  exact hi rest _ st' G kc ks (zset lz a (zi w)) zst' s (zl_set1 hl (by omega) pw) (by rw [zl_len]; exact hn) ht hR hz h
theorem zs_lstore {n : Nat} (hi : zIH nx ih1 ih2 nL E res) (hl : zL lv lz) (hn : lz.length = nL) (hs : zsr st zst) (hR : zR G s) (hz : zm_body nx cl rt none full (pc, .lstore n, a, b, ts, v) rest lz zst s = some res) (h : xm_body call full nL mc ms ret Q1 ih1 (pc, .lstore n, a, b, ts, v) rest lv st G E kc ks = true) : xm_body call full nL mc ms ret Q2 ih2 (pc, .lstore n, a, b, ts, v) rest lv st G E kc ks = true := by
  have h : (match (generalizing := false) st with
    | w :: st => bif xm_isL w && Nat.blt (a + 1) nL then ih1 rest (xm_set2 lv a w) st G E kc ks else false
    | _ => false) = true := h
  show (match (generalizing := false) st with
    | w :: st => bif xm_isL w && Nat.blt (a + 1) nL then ih2 rest (xm_set2 lv a w) st G E kc ks else false
    | _ => false) = true
  obtain ⟨w, st', zst', rfl, rfl, pw, e, ht⟩ := zs_1 (P := fun w => (xm_isL w && Nat.blt (a + 1) nL) = true) hs (f := fun st => (match (generalizing := false) st with
    | w :: st => bif xm_isL w && Nat.blt (a + 1) nL then ih1 rest (xm_set2 lv a w) st G E kc ks else false
    | _ => false)) h rfl (fun w st hw e => by show (bif xm_isL w && Nat.blt (a + 1) nL then _ else false) = false; rw [Bool.eq_false_iff.mpr e]; rfl)
  dsimp only at h ⊢
  rw [e, cond_true] at h ⊢
  rw [Bool.and_eq_true] at e
  have hb := Nat.le_of_ble_eq_true e.2
  exact hi rest _ st' G kc ks (zset lz a (zi w)) zst' s (zl_set2 hl (by omega) pw) (by rw [zl_len]; exact hn) ht hR hz h
theorem zs_lstore_n {n : Fin 4} (hi : zIH nx ih1 ih2 nL E res) (hl : zL lv lz) (hn : lz.length = nL) (hs : zsr st zst) (hR : zR G s) (hz : zm_body nx cl rt none full (pc, .lstore_n n, a, b, ts, v) rest lz zst s = some res) (h : xm_body call full nL mc ms ret Q1 ih1 (pc, .lstore_n n, a, b, ts, v) rest lv st G E kc ks = true) : xm_body call full nL mc ms ret Q2 ih2 (pc, .lstore_n n, a, b, ts, v) rest lv st G E kc ks = true := by
  have h : (match (generalizing := false) st with
    | w :: st => bif xm_isL w && Nat.blt (a + 1) nL then ih1 rest (xm_set2 lv a w) st G E kc ks else false
    | _ => false) = true := h
  show (match (generalizing := false) st with
    | w :: st => bif xm_isL w && Nat.blt (a + 1) nL then ih2 rest (xm_set2 lv a w) st G E kc ks else false
    | _ => false) = true
  obtain ⟨w, st', zst', rfl, rfl, pw, e, ht⟩ := zs_1 (P := fun w => (xm_isL w && Nat.blt (a + 1) nL) = true) hs (f := fun st => (match (generalizing := false) st with
    | w :: st => bif xm_isL w && Nat.blt (a + 1) nL then ih1 rest (xm_set2 lv a w) st G E kc ks else false
    | _ => false)) h rfl (fun w st hw e => by show (bif xm_isL w && Nat.blt (a + 1) nL then _ else false) = false; rw [Bool.eq_false_iff.mpr e]; rfl)
  dsimp only at h ⊢
  rw [e, cond_true] at h ⊢
  rw [Bool.and_eq_true] at e
  have hb := Nat.le_of_ble_eq_true e.2
  exact hi rest _ st' G kc ks (zset lz a (zi w)) zst' s (zl_set2 hl (by omega) pw) (by rw [zl_len]; exact hn) ht hR hz h
theorem zs_astore {n : Nat} (hi : zIH nx ih1 ih2 nL E res) (hl : zL lv lz) (hn : lz.length = nL) (hs : zsr st zst) (hR : zR G s) (hz : zm_body nx cl rt none full (pc, .astore n, a, b, ts, v) rest lz zst s = some res) (h : xm_body call full nL mc ms ret Q1 ih1 (pc, .astore n, a, b, ts, v) rest lv st G E kc ks = true) : xm_body call full nL mc ms ret Q2 ih2 (pc, .astore n, a, b, ts, v) rest lv st G E kc ks = true := by
  have h : (match (generalizing := false) st with
    | w :: st => bif xm_isA w && Nat.blt a nL then ih1 rest (xm_set1 lv a w) st G E kc ks else false
    | _ => false) = true := h
  show (match (generalizing := false) st with
    | w :: st => bif xm_isA w && Nat.blt a nL then ih2 rest (xm_set1 lv a w) st G E kc ks else false
    | _ => false) = true
  obtain ⟨w, st', zst', rfl, rfl, pw, e, ht⟩ := zs_1 (P := fun w => (xm_isA w && Nat.blt a nL) = true) hs (f := fun st => (match (generalizing := false) st with
    | w :: st => bif xm_isA w && Nat.blt a nL then ih1 rest (xm_set1 lv a w) st G E kc ks else false
    | _ => false)) h rfl (fun w st hw e => by show (bif xm_isA w && Nat.blt a nL then _ else false) = false; rw [Bool.eq_false_iff.mpr e]; rfl)
  dsimp only at h ⊢
  rw [e, cond_true] at h ⊢
  rw [Bool.and_eq_true] at e
  have hb := Nat.le_of_ble_eq_true e.2
  exact hi rest _ st' G kc ks (zset lz a (zi w)) zst' s (zl_set1 hl (by omega) pw) (by rw [zl_len]; exact hn) ht hR hz h
theorem zs_astore_n {n : Fin 4} (hi : zIH nx ih1 ih2 nL E res) (hl : zL lv lz) (hn : lz.length = nL) (hs : zsr st zst) (hR : zR G s) (hz : zm_body nx cl rt none full (pc, .astore_n n, a, b, ts, v) rest lz zst s = some res) (h : xm_body call full nL mc ms ret Q1 ih1 (pc, .astore_n n, a, b, ts, v) rest lv st G E kc ks = true) : xm_body call full nL mc ms ret Q2 ih2 (pc, .astore_n n, a, b, ts, v) rest lv st G E kc ks = true := by
  have h : (match (generalizing := false) st with
    | w :: st => bif xm_isA w && Nat.blt a nL then ih1 rest (xm_set1 lv a w) st G E kc ks else false
    | _ => false) = true := h
  show (match (generalizing := false) st with
    | w :: st => bif xm_isA w && Nat.blt a nL then ih2 rest (xm_set1 lv a w) st G E kc ks else false
    | _ => false) = true
  obtain ⟨w, st', zst', rfl, rfl, pw, e, ht⟩ := zs_1 (P := fun w => (xm_isA w && Nat.blt a nL) = true) hs (f := fun st => (match (generalizing := false) st with
    | w :: st => bif xm_isA w && Nat.blt a nL then ih1 rest (xm_set1 lv a w) st G E kc ks else false
    | _ => false)) h rfl (fun w st hw e => by show (bif xm_isA w && Nat.blt a nL then _ else false) = false; rw [Bool.eq_false_iff.mpr e]; rfl)
  dsimp only at h ⊢
  rw [e, cond_true] at h ⊢
  rw [Bool.and_eq_true] at e
  have hb := Nat.le_of_ble_eq_true e.2
  exact hi rest _ st' G kc ks (zset lz a (zi w)) zst' s (zl_set1 hl (by omega) pw) (by rw [zl_len]; exact hn) ht hR hz h
theorem zs_iinc {n : Nat} {c : Int} (hi : zIH nx ih1 ih2 nL E res) (hl : zL lv lz) (hn : lz.length = nL) (hs : zsr st zst) (hR : zR G s) (hz : zm_body nx cl rt none full (pc, .iinc n c, a, b, ts, v) rest lz zst s = some res) (h : xm_body call full nL mc ms ret Q1 ih1 (pc, .iinc n c, a, b, ts, v) rest lv st G E kc ks = true) : xm_body call full nL mc ms ret Q2 ih2 (pc, .iinc n c, a, b, ts, v) rest lv st G E kc ks = true := by
  have h : (match xm_get lv a with
    | some w => bif Nat.blt a nL then xm_conc E w (fun E x => xm_frc (x + Int32.ofInt c) (fun z => ih1 rest (xm_set1 lv a (.int z)) st G E kc ks)) else false
    | none => false) = true := h
  show (match xm_get lv a with
    | some w => bif Nat.blt a nL then xm_conc E w (fun E x => xm_frc (x + Int32.ofInt c) (fun z => ih2 rest (xm_set1 lv a (.int z)) st G E kc ks)) else false
    | none => false) = true
  cases hg : xm_get lv a with
  | none => rw [hg] at h; cases h
  | some w =>
    rw [hg] at h
    dsimp only at h ⊢
    obtain ⟨pw, gw⟩ := zl_get hl hg
    cases e : Nat.blt a nL with
    | false => rw [e] at h; cases h
    | true =>
      rw [e, cond_true] at h
      rw [cond_true]
      cases w with
      | int x =>
        have h : xm_frc (x + Int32.ofInt c) (fun z => ih1 rest (xm_set1 lv a (.int z)) st G E kc ks) = true := h
        show xm_frc (x + Int32.ofInt c) (fun z => ih2 rest (xm_set1 lv a (.int z)) st G E kc ks) = true
        rw [xl_frc] at h ⊢
        have hb := Nat.le_of_ble_eq_true e
        have hz : nx rest (zset lz a (zw (zget lz a + (Int32.ofInt c).toInt))) zst s = some res := hz
        have ez : zw (zget lz a + (Int32.ofInt c).toInt) = zi (.int (x + Int32.ofInt c)) := by
          rw [gw]
          exact (zw_add x (Int32.ofInt c)).symm
        rw [ez] at hz
        exact hi rest _ st G kc ks _ zst s (zl_set1 hl (by omega) rfl) (by rw [zl_len]; exact hn) hs hR hz h
      | _ => first | (cases pw; done) | (cases h; done)
end ZS
