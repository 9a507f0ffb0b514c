/-! String.length, String.charAt: the JDK's own code, walked -/
def xn_ws (y : MethodName) (bytes : ByteArray) (maxL : Nat) (ret : Option FieldType) : List Jvm.Cond := .code y bytes maxL ret :: xm_tb
def xn_rm (f : Nat) : Room := { frames := f, cells := 0, slots := 0, locals := 64 * f }
def xn_Q (v : Option Value) : Array Value → State → Outcome → State → Prop := fun _ st oc t => oc = .returned v ∧ t.heap = st.heap
def xn_F : Addr → Prop := fun _ => False
theorem xn_good_w {w : Jvm.Cond} (h : w ∈ xm_tb) : (w.onTables && w.keeps) = true ∨ ∃ ty, w = .arrayClass ty := good_of_word (List.mem_filter.mp h).2
theorem xn_slots (vs : List Value) : (lg_sl vs).length = (vs.map fun v => v.category).sum := by
  induction vs with
  | nil => rfl
  | cons v vs ih =>
    have h : lg_sl (v :: vs) = lg_sl [v] ++ lg_sl vs := by simp [lg_sl]
    rw [h, List.length_append, ih, List.map_cons, List.sum_cons]
    congr 1
    cases v <;> rfl
theorem xn_met {l : Launch} {y : MethodName} {bytes : ByteArray} {maxL : Nat} {ret : Option FieldType} {f : Nat} {Pc : Array Value → State → Prop} {Qc : Array Value → State → Outcome → State → Prop} (As : List Value) (hpl : plainName y.cls = true) (hs : (As.map fun v => v.category).sum ≤ maxL) (hA : ∀ (a : Array Value) (U : State), Pc a U → a = As.toArray)
    (body : ∀ (p : Program) (e : Env) (s : State) (m : MethodId) (below : List Frame) (meth : Method) (c : Code) (ls : Array Slot), CallFix p m c bytes maxL s As.toArray xm_tb y.cls → meth.sig.returnType = ret → meth.locks = false → Pc As.toArray s → lv_has ls maxL (lv_args 0 As) → W p l e (xn_rm f) s m As.toArray below meth c s.heap [] 0 0 (MQ below Qc As.toArray s 0 0 xn_F) (F0 m 0 ls [])) :
    Met l y (xn_ws y bytes maxL ret) (xn_rm f) Pc Qc 0 0 xn_F := by
  refine Met.ofW (cc := bytes) (maxL := maxL) (ret := ret) hpl rfl ?_
  intro p e s m args below meth c s₁ B hml hv
  have ha := hA _ _ hv
  subst ha
  have hx := B.exec
  have hb := B.bytes
  have hr2 := B.returns
  have hts := atoms_spec (ws := xn_ws y bytes maxL ret) B.pre
  have hown : s.vm.findClass y.cls = some m.cls := findClass_of_methodNamed B.named
  have hlocks := B.notSynchronized
  have hl := lv_entry As (n := maxL) (by rw [xn_slots]; exact hs)
  rw [lg_entry_eq]
  generalize (lg_sl As ++ List.replicate (maxL - (lg_sl As).length) Slot.unset).toArray = ls at hl ⊢
  exact body p e s m below meth c ls ⟨hx, hb, hml, hown, fun w hw => hts w (List.mem_cons_of_mem _ hw)⟩ hr2 hlocks hv hl
section XSTR
variable {p : Program} {l : Launch} {e : Env} {R : Room} {s : State} {m : MethodId} {args : Array Value} {below : List Frame} {meth : Method} {c : Code} {Qf : State → Prop} {cc : ByteArray} {nL : Nat} {own : String} {H : Heap} {locs : List Loc} {kc ks pc : Nat} {ls : Array Slot}
theorem xn_after {g : JFrame} {rest : List Value} {v : Option Value} {a1 : Array Value} (hr : va_Run p l e R s m args below meth c H locs kc ks 0 0 g rest (xn_Q v a1) xn_F) (k : W p l e R s m args below meth c H locs kc ks Qf { g with pc := g.pc + 3, stack := v.toList ++ rest }) : W p l e R s m args below meth c H locs kc ks Qf g := by
  intro T hT XX
  obtain ⟨v', st₀, t, T', L, h0, X', hL, e1, e2, ⟨q1, q2⟩, hst⟩ := hr T hT XX
  cases q1
  have hLn : L = [] := List.eq_nil_iff_forall_not_mem.mpr (fun q hq => hL q hq)
  subst hLn
  rw [List.append_nil] at X'
  obtain ⟨t2, a2, b2⟩ := k T' (by rw [e1, q2, h0]) X'
  exact ⟨t2, hst t2 a2, b2⟩
theorem xn_pay (S : CallFix p m c cc nL s args xm_tb own) {y : MethodName} {bytes : ByteArray} {maxL : Nat} {ret : Option FieldType} (hc : Jvm.Cond.code y bytes maxL ret ∈ xm_tb) : ∀ w ∈ xn_ws y bytes maxL ret, ∀ (a' : Array Value) (U : State), s.WarmedH U.vm → w.before a' U = true := by
  intro w hw a' U hW
  have h1 : w ∈ xm_tb := by
    rcases List.mem_cons.mp hw with rfl | h
    · exact hc
    · exact h
  exact word_at hW (xn_good_w h1) (S.2.2.2.2 w h1)
theorem xn_callS (S : CallFix p m c cc nL s args xm_tb own) {y : MethodName} {bytes : ByteArray} {maxL : Nat} {ret : Option FieldType} {f n index : Nat} {v : Option Value} {Pc : Array Value → State → Prop} {As rest : List Value} (hM : Met l y (xn_ws y bytes maxL ret) (xn_rm f) Pc (xn_Q v) 0 0 xn_F) (hcode : Jvm.Cond.code y bytes maxL ret ∈ xm_tb) (hini : Jvm.Cond.initialized y.cls ∈ xm_tb) (hlk : Jvm.Cond.methodLink own index y ∈ xm_tb) (hst : Jvm.Cond.static y ∈ xm_tb) (hcls : y.cls ≠ "java/lang/invoke/MethodHandle" ∧ y.cls ≠ "java/lang/invoke/VarHandle") (hds : (parseMethodDescriptor y.desc).map (fun d => d.parameters.length) = some n)
    (hR : f + 1 ≤ R.frames ∧ 8 + (maxL + 11) + 64 * f ≤ R.locals) (hfit : kc ≤ R.cells ∧ ks ≤ R.slots) (hbl : FrameBlind Pc) (hpre : ∀ U : State, U.heap = H → s.WarmedH U.vm → Pc As.toArray U) (hn : As.length = n) (hsz : ls.size = nL) (hroom : (rest.map fun v => v.category).sum ≤ 8) (hd : decode cc pc = .ok (.invokestatic index, 3))
    (k : W p l e R s m args below meth c H locs kc ks Qf (F0 m (pc + 3) ls (v.toList ++ rest))) : W p l e R s m args below meth c H locs kc ks Qf (F0 m pc ls (As.reverse ++ rest)) := by
  have hlen : ∀ sig, parseMethodDescriptor y.desc = some sig → n = sig.parameters.length := by
    intro sig h
    rw [h] at hds
    exact (Option.some.inj hds).symm
  exact xn_after (va_runS (g := F0 m pc ls (As.reverse ++ rest)) (rest := rest) S hM ⟨⟨rfl, rfl, hR.1, hR.2, xn_pay S hcode, List.mem_cons_self, S.2.2.2.2 _ hcode, S.2.2.2.2 _ hini, hcls, hlen, S.2.2.2.2 _ hlk⟩, S.2.2.2.2 _ hst⟩ ⟨hbl, hpre⟩ rfl hn hsz rfl (lv_room hroom) hd hfit) k
theorem xn_callV (S : CallFix p m c cc nL s args xm_tb own) {y : MethodName} {bytes : ByteArray} {maxL : Nat} {ret : Option FieldType} {f n index b : Nat} {v : Option Value} {Pc : Array Value → State → Prop} {As rest : List Value} (hM : Met l y (xn_ws y bytes maxL ret) (xn_rm f) Pc (xn_Q v) 0 0 xn_F) (hcode : Jvm.Cond.code y bytes maxL ret ∈ xm_tb) (hini : Jvm.Cond.initialized y.cls ∈ xm_tb) (hlk : Jvm.Cond.methodLink own index y ∈ xm_tb) (hin : Jvm.Cond.instanceMethod y ∈ xm_tb) (hse : Jvm.Cond.selects y.cls y y ∈ xm_tb) (hcls : y.cls ≠ "java/lang/invoke/MethodHandle" ∧ y.cls ≠ "java/lang/invoke/VarHandle") (hds : (parseMethodDescriptor y.desc).map (fun d => d.parameters.length) = some n)
    (hR : f + 1 ≤ R.frames ∧ 8 + (maxL + 11) + 64 * f ≤ R.locals) (hfit : kc ≤ R.cells ∧ ks ≤ R.slots) (hbl : FrameBlind Pc) (hcell : ∃ cellB : Cell, H[b]? = some cellB ∧ cellB.vm.isStatics = false ∧ s.vm.findClass y.cls = some cellB.cls) (hpre : ∀ U : State, U.heap = H → s.WarmedH U.vm → Pc (Value.ref b :: As).toArray U) (hn : As.length = n) (hsz : ls.size = nL) (hroom : (rest.map fun v => v.category).sum ≤ 8) (hd : decode cc pc = .ok (.invokevirtual index, 3))
    (k : W p l e R s m args below meth c H locs kc ks Qf (F0 m (pc + 3) ls (v.toList ++ rest))) : W p l e R s m args below meth c H locs kc ks Qf (F0 m pc ls (As.reverse ++ .ref b :: rest)) := by
  have hlen : ∀ sig, parseMethodDescriptor y.desc = some sig → n = sig.parameters.length := by
    intro sig h
    rw [h] at hds
    exact (Option.some.inj hds).symm
  exact xn_after (va_runV (C := y.cls) (g := F0 m pc ls (As.reverse ++ .ref b :: rest)) (rest := rest) S hM ⟨⟨rfl, rfl, hR.1, hR.2, xn_pay S hcode, List.mem_cons_self, S.2.2.2.2 _ hcode, S.2.2.2.2 _ hini, hcls, hlen, S.2.2.2.2 _ hlk⟩, S.2.2.2.2 _ hin, S.2.2.2.2 _ hse⟩ ⟨hbl, hcell, hpre⟩ rfl hn hsz rfl (lv_room hroom) hd hfit) k
end XSTR
abbrev xn_y1 : MethodName := ⟨"java/lang/String", "length", "()I"⟩
abbrev xn_y2 : MethodName := ⟨"java/lang/String", "coder", "()B"⟩
abbrev xn_y3 : MethodName := ⟨"java/lang/String", "charAt", "(I)C"⟩
abbrev xn_y4 : MethodName := ⟨"java/lang/String", "isLatin1", "()Z"⟩
abbrev xn_y5 : MethodName := ⟨"java/lang/StringLatin1", "charAt", "([BI)C"⟩
abbrev xn_y6 : MethodName := ⟨"java/lang/String", "checkIndex", "(II)V"⟩
abbrev xn_y7 : MethodName := ⟨"jdk/internal/util/Preconditions", "checkIndex", "(IILjava/util/function/BiFunction;)I"⟩
theorem xk_s1 : Jvm.Cond.instanceMethod xn_y1 ∈ xm_tb := xk_w (i := 589) (by decide +kernel)
theorem xk_s2 : Jvm.Cond.selects "java/lang/String" xn_y1 xn_y1 ∈ xm_tb := xk_w (i := 590) (by decide +kernel)
theorem xk_s3 : Jvm.Cond.code xn_y1 prog_17_method_54_code 1 (some .int) ∈ xm_tb := xk_w (i := 591) (by decide +kernel)
theorem xk_s4 : Jvm.Cond.methodLink "java/lang/String" 335 xn_y2 ∈ xm_tb := xk_w (i := 592) (by decide +kernel)
theorem xk_s5 : Jvm.Cond.instanceMethod xn_y2 ∈ xm_tb := xk_w (i := 593) (by decide +kernel)
theorem xk_s6 : Jvm.Cond.selects "java/lang/String" xn_y2 xn_y2 ∈ xm_tb := xk_w (i := 594) (by decide +kernel)
theorem xk_s7 : Jvm.Cond.code xn_y2 prog_17_method_152_code 1 (some .byte) ∈ xm_tb := xk_w (i := 595) (by decide +kernel)
theorem xk_s8 : Jvm.Cond.fieldLink "java/lang/String" 38 "java/lang/String" "COMPACT_STRINGS" "Z" ∈ xm_tb := xk_w (i := 596) (by decide +kernel)
theorem xk_s9 : Jvm.Cond.instanceMethod xn_y3 ∈ xm_tb := xk_w (i := 599) (by decide +kernel)
theorem xk_s10 : Jvm.Cond.selects "java/lang/String" xn_y3 xn_y3 ∈ xm_tb := xk_w (i := 600) (by decide +kernel)
theorem xk_s11 : Jvm.Cond.code xn_y3 prog_17_method_56_code 2 (some .char) ∈ xm_tb := xk_w (i := 601) (by decide +kernel)
theorem xk_s12 : Jvm.Cond.methodLink "java/lang/String" 492 xn_y4 ∈ xm_tb := xk_w (i := 602) (by decide +kernel)
theorem xk_s13 : Jvm.Cond.instanceMethod xn_y4 ∈ xm_tb := xk_w (i := 603) (by decide +kernel)
theorem xk_s14 : Jvm.Cond.selects "java/lang/String" xn_y4 xn_y4 ∈ xm_tb := xk_w (i := 604) (by decide +kernel)
theorem xk_s15 : Jvm.Cond.code xn_y4 prog_17_method_154_code 1 (some .boolean) ∈ xm_tb := xk_w (i := 605) (by decide +kernel)
theorem xk_s16 : Jvm.Cond.methodLink "java/lang/String" 495 xn_y5 ∈ xm_tb := xk_w (i := 606) (by decide +kernel)
theorem xk_s17 : Jvm.Cond.static xn_y5 ∈ xm_tb := xk_w (i := 607) (by decide +kernel)
theorem xk_s18 : Jvm.Cond.code xn_y5 prog_18_method_2_code 2 (some .char) ∈ xm_tb := xk_w (i := 608) (by decide +kernel)
theorem xk_s19 : Jvm.Cond.methodLink "java/lang/StringLatin1" 9 xn_y6 ∈ xm_tb := xk_w (i := 609) (by decide +kernel)
theorem xk_s20 : Jvm.Cond.static xn_y6 ∈ xm_tb := xk_w (i := 610) (by decide +kernel)
theorem xk_s21 : Jvm.Cond.code xn_y6 prog_17_method_155_code 2 none ∈ xm_tb := xk_w (i := 611) (by decide +kernel)
theorem xk_s22 : Jvm.Cond.fieldLink "java/lang/String" 1053 "jdk/internal/util/Preconditions" "SIOOBE_FORMATTER" "Ljava/util/function/BiFunction;" ∈ xm_tb := xk_w (i := 612) (by decide +kernel)
theorem xk_s23 : Jvm.Cond.methodLink "java/lang/String" 1059 xn_y7 ∈ xm_tb := xk_w (i := 614) (by decide +kernel)
theorem xk_s24 : Jvm.Cond.static xn_y7 ∈ xm_tb := xk_w (i := 615) (by decide +kernel)
theorem xk_s25 : Jvm.Cond.code xn_y7 prog_22_method_11_code 3 (some .int) ∈ xm_tb := xk_w (i := 616) (by decide +kernel)
theorem xk_s26 : Jvm.Cond.initialized "java/lang/String" ∈ xm_tb := xk_w (i := 106) (by decide +kernel)
theorem xk_s27 : Jvm.Cond.initialized "java/lang/StringLatin1" ∈ xm_tb := xk_w (i := 107) (by decide +kernel)
theorem xk_s28 : Jvm.Cond.initialized "jdk/internal/util/Preconditions" ∈ xm_tb := xk_w (i := 108) (by decide +kernel)
theorem xk_s29 : Jvm.Cond.fieldLink "java/lang/String" 9 "java/lang/String" "value" "[B" ∈ xm_tb := xk_w (i := 1705) (by decide +kernel)
theorem xk_s30 : Jvm.Cond.fieldLink "java/lang/String" 15 "java/lang/String" "coder" "B" ∈ xm_tb := xk_w (i := 1706) (by decide +kernel)
theorem xn_shr : ∀ n : Nat, n < 128 → Int32.ofNat n >>> ((0 : Int32) &&& 31) = Int32.ofNat n := by decide +kernel
theorem xn_chr : ∀ n : Nat, n < 128 → ((Int32.ofNat n &&& 255).toUInt32 % 65536).toInt32 = Int32.ofNat n := by decide +kernel
theorem xn_nar : ∀ n : Nat, n < 128 → narrow .char (.int (Int32.ofNat n)) = .int (Int32.ofNat n) := by decide +kernel
theorem xn_stb : ∀ bs ∈ xm_stb, bs.length < 128 ∧ ∀ c ∈ bs, c < 128 := by decide +kernel
/-- Preconditions.checkIndex, inside -/
theorem xn_M7 (l : Launch) {k n : Int32} {v : Value} (hv : v.category = 1) (h0 : ¬ k < 0) (h1 : k < n) : Met l xn_y7 (xn_ws xn_y7 prog_22_method_11_code 3 (some .int)) (xn_rm 0) (fun a _ => a = ([.int k, .int n, v] : List Value).toArray) (xn_Q (some (.int k))) 0 0 xn_F := by
  refine xn_met [.int k, .int n, v] (by decide) ?_ (fun a U h => h) ?_
  · show 1 + (1 + (v.category + 0)) ≤ 3
    omega
  · intro p e s m below meth c ls S hr hlocks hP hl
    have a0 : ls[0]? = some (.val (.int k)) := lv_at hl 0 rfl
    have a1 : ls[1]? = some (.val (.int n)) := lv_at hl 1 rfl
    refine lv_iload_n S.1 S.2.1 (k := 0) (by decide +kernel) rfl a0 ?_
    refine lv_if_lt S.1 S.2.1 (off := 8) (tgt := 9) (by decide +kernel) rfl (fun h => absurd h h0) (fun _ => ?_)
    refine lv_iload_n S.1 S.2.1 (k := 0) (by decide +kernel) rfl a0 ?_
    refine lv_iload_n S.1 S.2.1 (k := 1) (by decide +kernel) rfl a1 ?_
    refine lv_icmp_lt S.1 S.2.1 (off := 10) (tgt := 16) (by decide +kernel) rfl (fun _ => ?_) (fun h => absurd h1 h)
    refine lv_iload_n S.1 S.2.1 (k := 0) (by decide +kernel) rfl a0 ?_
    exact W.zret S.1 S.2.1 hr rfl (fun t ht hW => ⟨rfl, ht⟩) (fun q hq => by cases hq) (by decide +kernel) hlocks
/-- String.checkIndex, inside -/
theorem xn_M6 (l : Launch) {k n : Int32} (h0 : ¬ k < 0) (h1 : k < n) : Met l xn_y6 (xn_ws xn_y6 prog_17_method_155_code 2 none) (xn_rm 1) (fun a U => a = ([.int k, .int n] : List Value).toArray ∧ ∃ v : Value, v.category = 1 ∧ va_Z "jdk/internal/util/Preconditions" "SIOOBE_FORMATTER" "Ljava/util/function/BiFunction;" v xn_A U U.heap) (xn_Q none) 0 0 xn_F := by
  refine xn_met [.int k, .int n] (by decide) (Nat.le_refl 2) (fun a U h => h.1) ?_
  intro p e s m below meth c ls S hr hlocks hP hl
  obtain ⟨-, v, hv, hZ⟩ := hP
  have a0 : ls[0]? = some (.val (.int k)) := lv_at hl 0 rfl
  have a1 : ls[1]? = some (.val (.int n)) := lv_at hl 1 rfl
  refine lv_iload_n S.1 S.2.1 (k := 0) (by decide +kernel) rfl a0 ?_
  refine lv_iload_n S.1 S.2.1 (k := 1) (by decide +kernel) rfl a1 ?_
  refine va_gets S.1 S.2.1 hZ va_S.rf S.2.2.2.1 (S.2.2.2.2 _ xk_s22) (fun _ h => h) (by decide +kernel) ?_
  refine xn_callS (n := 3) (As := [.int k, .int n, v]) (rest := []) S (xn_M7 l hv h0 h1) xk_s25 xk_s28 xk_s23 xk_s24 (by decide) (by decide +kernel) ⟨Nat.le_refl _, by decide⟩ ⟨Nat.le_refl 0, Nat.le_refl 0⟩ (fun a U g mk h => h) (fun U _ _ => rfl) rfl hl.1 (Nat.zero_le _) (by decide +kernel) ?_
  refine lv_pop S.1 S.2.1 (va := .int k) (by decide +kernel) rfl ?_
  exact W.vret S.1 S.2.1 hr (fun t ht hW => ⟨rfl, ht⟩) (fun q hq => by cases hq) (by decide +kernel) hlocks
/-- StringLatin1.charAt, inside -/
theorem xn_M5 (l : Launch) {k : Int32} {av ch : Nat} {bs : List Nat} (hb : bs.length < 128) (h0 : 0 ≤ k.toInt) (h1 : bs[k.toInt.toNat]? = some ch) (hc : ch < 128) : Met l xn_y5 (xn_ws xn_y5 prog_18_method_2_code 2 (some .char)) (xn_rm 2) (fun a U => a = ([.ref av, .int k] : List Value).toArray ∧ (∃ v : Value, v.category = 1 ∧ va_Z "jdk/internal/util/Preconditions" "SIOOBE_FORMATTER" "Ljava/util/function/BiFunction;" v xn_A U U.heap) ∧ va_T .byte av bs.length (fun j => .int (Int32.ofNat (bs.getD j 0))) xn_A U U.heap) (xn_Q (some (.int (Int32.ofNat ch)))) 0 0 xn_F := by
  refine xn_met [.ref av, .int k] (by decide) (Nat.le_refl 2) (fun a U h => h.1) ?_
  intro p e s m below meth c ls S hr hlocks hP hl
  obtain ⟨-, ⟨v, hv, hZ⟩, hT⟩ := hP
  obtain ⟨cell, t1, t2, t3, t4, t5, t6, -⟩ := hT
  have hlt := (List.getElem?_eq_some_iff.mp h1).1
  have hk0 : ¬ k < 0 := xs_clamp h0
  have hk1 : k < Int32.ofNat bs.length := by
    have hq := nI_toInt (n := bs.length) (by omega)
    rw [Int32.lt_iff_toInt_lt]
    show k.toInt < (nI bs.length).toInt
    rw [hq]
    omega
  have a0 : ls[0]? = some (.val (.ref av)) := lv_at hl 0 rfl
  have a1 : ls[1]? = some (.val (.int k)) := lv_at hl 1 rfl
  refine lv_iload_n S.1 S.2.1 (k := 1) (by decide +kernel) rfl a1 ?_
  refine lv_aload_n S.1 S.2.1 (k := 0) (by decide +kernel) rfl a0 ?_
  refine W.alen (n := Int32.ofNat bs.length) S.1 S.2.1 t1 t2 t5 rfl rfl (show decode prog_18_method_2_code 2 = .ok (.arraylength, 1) by decide +kernel) ?_
  refine xn_callS (n := 2) (pc := 3) (As := [.int k, .int (Int32.ofNat bs.length)]) (rest := []) S (xn_M6 l hk0 hk1) xk_s21 xk_s26 xk_s19 xk_s20 (by decide) (by decide +kernel) ⟨Nat.le_refl _, by decide⟩ ⟨Nat.le_refl 0, Nat.le_refl 0⟩ (fun a U g mk h => ⟨h.1, h.2.choose, h.2.choose_spec.1, va_Z.moved (u := U) (U := U.calling g mk a) (Vm.Alike.refl _) h.2.choose_spec.2⟩) (fun U hU hW => ⟨rfl, v, hv, by rw [hU]; exact va_Z.moved hW.alike hZ⟩) rfl hl.1 (Nat.zero_le _) (by decide +kernel) ?_
  refine lv_aload_n (pc := 6) S.1 S.2.1 (k := 0) (by decide +kernel) rfl a0 ?_
  refine lv_iload_n S.1 S.2.1 (k := 1) (by decide +kernel) rfl a1 ?_
  have hkn : k.toNatClampNeg = k.toInt.toNat := rfl
  refine W.bald (v := .int (Int32.ofNat ch)) S.1 S.2.1 t1 t2 t3 (xs_in h0 (by omega)) (by rw [hkn, t6 _ hlt]; show some (Value.int (Int32.ofNat (bs.getD k.toInt.toNat 0))) = _; rw [List.getD_eq_getElem?_getD, h1]; rfl) rfl rfl (show decode prog_18_method_2_code 8 = .ok (.baload, 1) by decide +kernel) ?_
  refine lv_sipush (pc := 9) S.1 S.2.1 (n := 255) (v := 255) (by decide +kernel) rfl ?_
  refine lv_iand S.1 S.2.1 (by decide +kernel) ?_
  refine lv_i2c S.1 S.2.1 (by decide +kernel) (xn_chr ch hc) ?_
  exact W.zret S.1 S.2.1 hr (xn_nar ch hc) (fun t ht hW => ⟨rfl, ht⟩) (fun q hq => by cases hq) (by decide +kernel) hlocks
/-- isLatin1 -/
theorem xn_M4 (l : Launch) {a av : Nat} {bs : List Nat} : Met l xn_y4 (xn_ws xn_y4 prog_17_method_154_code 1 (some .boolean)) (xn_rm 0) (fun v U => v = ([.ref a] : List Value).toArray ∧ xn_W1 a av bs U U.heap) (xn_Q (some (.int 1))) 0 0 xn_F := by
  refine xn_met [.ref a] (by decide) (Nat.le_refl 1) (fun a U h => h.1) ?_
  intro p e s m below meth c ls S hr hlocks hP hl
  obtain ⟨-, z1, -, z2, z3, z4, z5⟩ := hP
  have a0 : ls[0]? = some (.val (.ref a)) := lv_at hl 0 rfl
  refine va_gets S.1 S.2.1 z1 va_S.rf S.2.2.2.1 (S.2.2.2.2 _ xk_s8) (fun _ h => h) (by decide +kernel) ?_
  refine lv_if_eq S.1 S.2.1 (off := 14) (tgt := 17) (by decide +kernel) rfl (fun h => absurd h (by decide)) (fun _ => ?_)
  refine lv_aload_n S.1 S.2.1 (k := 0) (by decide +kernel) rfl a0 ?_
  refine vk_getf S.1 S.2.1 z3 va_S.rf S.2.2.2.1 (S.2.2.2.2 _ xk_s30) (fun _ h => h) (by decide +kernel) ?_
  refine lv_if_ne S.1 S.2.1 (off := 7) (tgt := 17) (by decide +kernel) rfl (fun h => absurd rfl h) (fun _ => ?_)
  refine lv_iconst S.1 S.2.1 (n := 1) (v := 1) (by decide +kernel) rfl ?_
  refine lv_goto S.1 S.2.1 (off := 4) (tgt := 18) (by decide +kernel) rfl ?_
  exact W.zret S.1 S.2.1 hr rfl (fun t ht hW => ⟨rfl, ht⟩) (fun q hq => by cases hq) (by decide +kernel) hlocks
/-- coder -/
theorem xn_M2 (l : Launch) {a av : Nat} {bs : List Nat} : Met l xn_y2 (xn_ws xn_y2 prog_17_method_152_code 1 (some .byte)) (xn_rm 0) (fun v U => v = ([.ref a] : List Value).toArray ∧ xn_W1 a av bs U U.heap) (xn_Q (some (.int 0))) 0 0 xn_F := by
  refine xn_met [.ref a] (by decide) (Nat.le_refl 1) (fun a U h => h.1) ?_
  intro p e s m below meth c ls S hr hlocks hP hl
  obtain ⟨-, z1, -, z2, z3, z4, z5⟩ := hP
  have a0 : ls[0]? = some (.val (.ref a)) := lv_at hl 0 rfl
  refine va_gets S.1 S.2.1 z1 va_S.rf S.2.2.2.1 (S.2.2.2.2 _ xk_s8) (fun _ h => h) (by decide +kernel) ?_
  refine lv_if_eq S.1 S.2.1 (off := 10) (tgt := 13) (by decide +kernel) rfl (fun h => absurd h (by decide)) (fun _ => ?_)
  refine lv_aload_n S.1 S.2.1 (k := 0) (by decide +kernel) rfl a0 ?_
  refine vk_getf S.1 S.2.1 z3 va_S.rf S.2.2.2.1 (S.2.2.2.2 _ xk_s30) (fun _ h => h) (by decide +kernel) ?_
  refine lv_goto S.1 S.2.1 (off := 4) (tgt := 14) (by decide +kernel) rfl ?_
  exact W.zret S.1 S.2.1 hr rfl (fun t ht hW => ⟨rfl, ht⟩) (fun q hq => by cases hq) (by decide +kernel) hlocks
theorem xn_bl (a av : Nat) (bs : List Nat) (As : List Value) : FrameBlind (fun v U => v = As.toArray ∧ xn_W1 a av bs U U.heap) := fun b U g mk h => ⟨h.1, xn_W1.moved (u := U) (U := U.calling g mk b) (Vm.Alike.refl _) h.2⟩
theorem xn_recv {a av : Nat} {bs : List Nat} {s : State} {H : Heap} (h : xn_W1 a av bs s H) : ∃ cellB : Cell, H[a]? = some cellB ∧ cellB.vm.isStatics = false ∧ s.vm.findClass "java/lang/String" = some cellB.cls := by
  obtain ⟨-, -, ⟨cell, h1, h2, h3, -⟩, -⟩ := h
  exact ⟨cell, h1, h2, h3⟩
/-- length -/
theorem xn_M1 (l : Launch) {a av : Nat} {bs : List Nat} (hb : bs.length < 128) : Met l xn_y1 (xn_ws xn_y1 prog_17_method_54_code 1 (some .int)) (xn_rm 1) (fun v U => v = ([.ref a] : List Value).toArray ∧ xn_W1 a av bs U U.heap) (xn_Q (some (.int (Int32.ofNat bs.length)))) 0 0 xn_F := by
  refine xn_met [.ref a] (by decide) (Nat.le_refl 1) (fun a U h => h.1) ?_
  intro p e s m below meth c ls S hr hlocks hP hl
  obtain ⟨-, hW1⟩ := hP
  have hW2 := hW1
  obtain ⟨z1, -, z2, z3, z4, ⟨cell, t1, t2, t3, t4, t5, t6, -⟩⟩ := hW1
  have a0 : ls[0]? = some (.val (.ref a)) := lv_at hl 0 rfl
  refine lv_aload_n S.1 S.2.1 (k := 0) (by decide +kernel) rfl a0 ?_
  refine vk_getf S.1 S.2.1 z4 va_S.rf S.2.2.2.1 (S.2.2.2.2 _ xk_s29) (fun _ h => h) (by decide +kernel) ?_
  refine W.alen (n := Int32.ofNat bs.length) S.1 S.2.1 t1 t2 t5 rfl rfl (show decode prog_17_method_54_code 4 = .ok (.arraylength, 1) by decide +kernel) ?_
  refine lv_aload_n (pc := 5) S.1 S.2.1 (k := 0) (by decide +kernel) rfl a0 ?_
  refine xn_callV (n := 0) (pc := 6) (As := []) (rest := [.int (Int32.ofNat bs.length)]) S (xn_M2 l (a := a) (av := av) (bs := bs)) xk_s7 xk_s26 xk_s4 xk_s5 xk_s6 (by decide) (by decide +kernel) ⟨Nat.le_refl _, by decide⟩ ⟨Nat.le_refl 0, Nat.le_refl 0⟩ (xn_bl a av bs _) (xn_recv hW2) (fun U hU hW => ⟨rfl, by rw [hU]; exact hW2.moved hW.alike⟩) rfl hl.1 (by show 1 + 0 ≤ 8; omega) (by decide +kernel) ?_
  refine lv_ishr (pc := 9) S.1 S.2.1 (by decide +kernel) ?_
  rw [xn_shr _ hb]
  exact W.zret S.1 S.2.1 hr rfl (fun t ht hW => ⟨rfl, ht⟩) (fun q hq => by cases hq) (by decide +kernel) hlocks
/-- charAt, inside -/
theorem xn_M3 (l : Launch) {a av ch : Nat} {bs : List Nat} {k : Int32} (hb : bs.length < 128) (h0 : 0 ≤ k.toInt) (h1 : bs[k.toInt.toNat]? = some ch) (hc : ch < 128) : Met l xn_y3 (xn_ws xn_y3 prog_17_method_56_code 2 (some .char)) (xn_rm 3) (fun v U => v = ([.ref a, .int k] : List Value).toArray ∧ xn_W1 a av bs U U.heap) (xn_Q (some (.int (Int32.ofNat ch)))) 0 0 xn_F := by
  refine xn_met [.ref a, .int k] (by decide) (Nat.le_refl 2) (fun a U h => h.1) ?_
  intro p e s m below meth c ls S hr hlocks hP hl
  obtain ⟨-, hW1⟩ := hP
  have hW2 := hW1
  obtain ⟨z1, z0, z2, z3, z4, z5⟩ := hW1
  have a0 : ls[0]? = some (.val (.ref a)) := lv_at hl 0 rfl
  have a1 : ls[1]? = some (.val (.int k)) := lv_at hl 1 rfl
  refine lv_aload_n S.1 S.2.1 (k := 0) (by decide +kernel) rfl a0 ?_
  refine xn_callV (n := 0) (pc := 1) (As := []) (rest := []) S (xn_M4 l (a := a) (av := av) (bs := bs)) xk_s15 xk_s26 xk_s12 xk_s13 xk_s14 (by decide) (by decide +kernel) ⟨by decide, by decide⟩ ⟨Nat.le_refl 0, Nat.le_refl 0⟩ (xn_bl a av bs _) (xn_recv hW2) (fun U hU hW => ⟨rfl, by rw [hU]; exact hW2.moved hW.alike⟩) rfl hl.1 (Nat.zero_le _) (by decide +kernel) ?_
  refine lv_if_eq (pc := 4) S.1 S.2.1 (x := 1) (rest := []) (off := 12) (tgt := 16) (by decide +kernel) rfl (fun h => absurd h (by decide)) (fun _ => ?_)
  refine lv_aload_n S.1 S.2.1 (k := 0) (by decide +kernel) rfl a0 ?_
  refine vk_getf S.1 S.2.1 z4 va_S.rf S.2.2.2.1 (S.2.2.2.2 _ xk_s29) (fun _ h => h) (by decide +kernel) ?_
  refine lv_iload_n S.1 S.2.1 (k := 1) (by decide +kernel) rfl a1 ?_
  refine xn_callS (n := 2) (pc := 12) (As := [.ref av, .int k]) (rest := []) S (xn_M5 l (av := av) hb h0 h1 hc) xk_s18 xk_s27 xk_s16 xk_s17 (by decide) (by decide +kernel) ⟨Nat.le_refl _, by decide⟩ ⟨Nat.le_refl 0, Nat.le_refl 0⟩ (fun b U g mk h => ⟨h.1, ⟨h.2.1.choose, h.2.1.choose_spec.1, va_Z.moved (u := U) (U := U.calling g mk b) (Vm.Alike.refl _) h.2.1.choose_spec.2⟩, va_T.moved (u := U) (U := U.calling g mk b) (Vm.Alike.refl _) h.2.2⟩) (fun U hU hW => ⟨rfl, ⟨z0.choose, z0.choose_spec.1, by rw [hU]; exact va_Z.moved hW.alike z0.choose_spec.2⟩, by rw [hU]; exact va_T.moved hW.alike z5⟩) rfl hl.1 (Nat.zero_le _) (by decide +kernel) ?_
  exact W.zret (pc := 15) S.1 S.2.1 hr (xn_nar ch hc) (fun t ht hW => ⟨rfl, ht⟩) (fun q hq => by cases hq) (by decide +kernel) hlocks
