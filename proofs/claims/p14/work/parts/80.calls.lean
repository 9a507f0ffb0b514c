/-! calls -/
def xs_ws (r : xm_M) : List Jvm.Cond := .code r.2.1 r.2.2.1 r.2.2.2.1 r.2.2.2.2.1 :: xm_tb
def xs_rm (d : Nat) (r : xm_M) : Room := { frames := d + 8, cells := r.2.2.2.2.2.2.1, slots := r.2.2.2.2.2.2.2.1, locals := 64 * (d + 8) }
def xs_Pc (Z : xs_Z) (As : List Value) (G : xm_H) : Array Value → State → Prop := fun v U => v = (As.map (xs_cv Z)).toArray ∧ xs_HW Z G U.heap ∧ xs_KW Z U
def xs_Qc (Z : xs_Z) (Q : xm_Q) : Array Value → State → Outcome → State → Prop := fun _ _ oc t => ∃ r G' E', Q r G' E' = true ∧ xs_sat Z E' ∧ oc = .returned (r.map (xs_cv Z)) ∧ xs_HW Z G' t.heap
/-- the contracts of all methods at a depth -/
def xs_CH (l : Launch) (Z : xs_Z) (d : Nat) (call : xm_C) : Prop := ∀ (a : Nat) (r : xm_M), 1 ≤ a → xm_mtab[a]? = some r → ∀ (As : List Value) (G : xm_H) (E : xm_R) (Q : xm_Q), call a As G E Q = true → xs_sat Z E → Met l r.2.1 (xs_ws r) (xs_rm d r) (xs_Pc Z As G) (xs_Qc Z Q) r.2.2.2.2.2.2.1 r.2.2.2.2.2.2.2.1 (fun q => xs_b Z ≤ q)
theorem xs_blind (Z : xs_Z) (As : List Value) (G : xm_H) : FrameBlind (xs_Pc Z As G) := fun a U g mk h => ⟨h.1, h.2.1, xs_KW.same (s := U) (U := U.calling g mk a) rfl h.2.2⟩
theorem xs_pop : ∀ {n : Nat} {acc st : List Value} {kk : List Value → List Value → Bool}, xm_pop n acc st kk = true → ∃ xs st', st = xs ++ st' ∧ xs.length = n ∧ kk (xs.reverse ++ acc) st' = true
  | 0, acc, st, kk, h => ⟨[], st, rfl, rfl, h⟩
  | n + 1, acc, [], kk, h => by cases h
  | n + 1, acc, v :: st, kk, h => by
    have h1 : xm_pop n (v :: acc) st kk = true := h
    obtain ⟨xs, st', e1, e2, e3⟩ := xs_pop h1
    exact ⟨v :: xs, st', by rw [e1]; rfl, by simp [e2], by simpa using e3⟩
theorem xs_mok {r : xm_M} {f : Nat × Nat × Nat × Nat × Nat} (h : xm_mok r f = true) : Jvm.Cond.initialized r.2.1.cls ∈ xm_tb ∧ (f.1 = 0 → Jvm.Cond.static r.2.1 ∈ xm_tb) ∧ (f.1 = 1 → Jvm.Cond.instanceMethod r.2.1 ∈ xm_tb ∧ r.2.1.name = "<init>" ∧ r.2.2.2.2.1 = none) ∧ (f.1 = 2 → Jvm.Cond.instanceMethod r.2.1 ∈ xm_tb ∧ Jvm.Cond.selects r.2.1.cls r.2.1 r.2.1 ∈ xm_tb) ∧ plainName r.2.1.cls = true ∧ (r.2.1.cls ≠ "java/lang/invoke/MethodHandle" ∧ r.2.1.cls ≠ "java/lang/invoke/VarHandle") ∧ (parseMethodDescriptor r.2.1.desc).map (fun d => d.parameters.length) = some r.2.2.2.2.2.1 ∧ Jvm.Cond.code r.2.1 r.2.2.1 r.2.2.2.1 r.2.2.2.2.1 ∈ xm_tb ∧ r.2.2.2.1 ≤ 40 := by
  unfold xm_mok at h
  simp only [Bool.and_eq_true, Bool.not_eq_true', decide_eq_false_iff_not, decide_eq_true_eq] at h
  obtain ⟨h1, h2, h3, h4, h5, h6, h7, h8⟩ := h
  refine ⟨xk_w h1, fun e => ?_, fun e => ?_, fun e => ?_, h3, ⟨h4, h5⟩, h6, xk_w h7, Nat.le_of_ble_eq_true h8⟩
  · rw [e] at h2
    exact xk_w h2
  · rw [e] at h2
    simp only [Bool.and_eq_true, decide_eq_true_eq] at h2
    exact ⟨xk_w h2.1, h2.2.1, Option.isNone_iff_eq_none.mp h2.2.2⟩
  · rw [e] at h2
    simp only [Bool.and_eq_true] at h2
    exact ⟨xk_w h2.1, xk_w h2.2⟩
theorem xs_mall {a : Nat} {r : xm_M} (h1 : 1 ≤ a) (hr : xm_mtab[a]? = some r) : ∃ f, xm_mf[a]? = some f ∧ xm_mok r f = true := by
  have h2 : a < 241 := (List.getElem?_eq_some_iff.mp hr).1
  have h := xk_mall h1 h2
  unfold xm_mokN at h
  rw [hr] at h
  split at h
  · rename_i r' f e1 e2
    cases e1
    exact ⟨f, e2, h⟩
  · cases h
theorem xs_rcv1 {As : List Value} (h : xm_rcv1 As = true) : ∃ j As', As = .ref j :: As' := by
  unfold xm_rcv1 at h
  split at h
  · exact ⟨_, _, rfl⟩
  · cases h
theorem xs_rcv0 {cls : String} {G : xm_H} {As : List Value} (h : xm_rcv0 cls G As = true) : ∃ j As' t vs TT NN, As = .ref j :: As' ∧ xm_hget G j = some (t, vs) ∧ xm_cls[t]? = some (cls, TT, NN) := by
  unfold xm_rcv0 at h
  split at h
  · rename_i j As'
    cases hj : xm_hget G j with
    | none => rw [hj] at h; cases h
    | some q =>
      obtain ⟨t, vs⟩ := q
      rw [hj] at h
      dsimp only at h
      rw [xl_nth] at h
      cases ht : xm_cls[t]? with
      | none => rw [ht] at h; cases h
      | some rc =>
        obtain ⟨C, TT, NN⟩ := rc
        rw [ht] at h
        have h : cls = C := of_decide_eq_true h
        subst h
        exact ⟨j, As', t, vs, TT, NN, rfl, hj, ht⟩
  · cases h
set_option maxRecDepth 20000 in
theorem xn_lo {rL d L : Nat} (h1 : rL ≤ 40) (h2 : 64 * (d + 9) ≤ L) : 8 + (rL + 11) + 64 * (d + 8) ≤ L := by omega
section XH
variable {p : Program} {l : Launch} {e : Env} {R : Room} {s : State} {m : MethodId} {args : Array Value} {below : List Frame} {meth : Method} {c : Code} {Qf : State → Prop} {cc : ByteArray} {nL o : Nat} {Z : xs_Z}
variable {lv : xm_L} {st : List Value} {G : xm_H} {E : xm_R} {kc ks pc mc ms : Nat} {k : xm_K} {H : Heap} {locs : List Loc} {ls : Array Slot}
theorem xs_ml (X : xs_Cx p s m args c cc nL o Z) {i a b : Nat} {r : xm_M} (h : xm_at3 (xm_ml o) (i, a, b) = true) (hr : xm_mtab[a]? = some r) : 1 ≤ a ∧ ∃ f, xm_mok r f = true ∧ (b = 0 → f.1 = 2 ∧ (Jvm.Cond.methodLink (xm_own o) i r.2.1).before args s = true) ∧ (b = 1 → f.1 = 0 ∧ (Jvm.Cond.methodLink (xm_own o) i r.2.1).before args s = true) ∧ (b = 2 → f.1 = 1 ∧ (Jvm.Cond.methodLink (xm_own o) i r.2.1).before args s = true) ∧ (b = 3 → f.1 = 0 ∧ va_Nw (.methodLinkNest (xm_own o) i r.2.1 "StairNews") s) ∧ (b = 4 → f.1 = 1 ∧ va_Nw (.methodLinkNest (xm_own o) i r.2.1 "StairNews") s) := by
  obtain ⟨q, hq, e1, e2, e3⟩ := xs_at3 h
  have h4 := List.all_eq_true.mp (xk_ml o X.2.2.2.2.2.2) q hq
  have ha : a < 241 := (List.getElem?_eq_some_iff.mp hr).1
  have n0 : Nat.beq a 1000 = false := Bool.eq_false_iff.mpr (fun q => by have := Nat.eq_of_beq_eq_true q; omega)
  have n1 : Nat.beq a 1001 = false := Bool.eq_false_iff.mpr (fun q => by have := Nat.eq_of_beq_eq_true q; omega)
  have n3 : Nat.beq a 1003 = false := Bool.eq_false_iff.mpr (fun q => by have := Nat.eq_of_beq_eq_true q; omega)
  have n4 : Nat.beq a 1004 = false := Bool.eq_false_iff.mpr (fun q => by have := Nat.eq_of_beq_eq_true q; omega)
  have n5 : Nat.beq a 1005 = false := Bool.eq_false_iff.mpr (fun q => by have := Nat.eq_of_beq_eq_true q; omega)
  have n6 : Nat.beq a 1006 = false := Bool.eq_false_iff.mpr (fun q => by have := Nat.eq_of_beq_eq_true q; omega)
  have n7 : Nat.beq a 1007 = false := Bool.eq_false_iff.mpr (fun q => by have := Nat.eq_of_beq_eq_true q; omega)
  unfold xm_mlok at h4
  rw [e1, e2, e3, n0, n1, n3, n4, n5, n6, n7, cond_false, cond_false, cond_false, cond_false, cond_false, cond_false, cond_false, hr] at h4
  have ha1 : 1 ≤ a := by
    rcases Nat.eq_zero_or_pos a with rfl | h9
    · exfalso
      have h5 : xm_mf[0]? = some (9, 0, 0, 0, 0) := rfl
      rw [h5] at h4
      dsimp only at h4
      split at h4
      · rw [Bool.and_eq_true] at h4; exact absurd h4.2 (by decide)
      · rw [Bool.and_eq_true] at h4; exact absurd h4.2 (by decide)
      · rw [Bool.and_eq_true] at h4; exact absurd h4.2 (by decide)
      · rw [Bool.and_eq_true] at h4; exact absurd h4.2 (by decide)
      · rw [Bool.and_eq_true] at h4; exact absurd h4.2 (by decide)
      · cases h4
    · exact h9
  obtain ⟨f, hf, hm⟩ := xs_mall ha1 hr
  rw [hf] at h4
  refine ⟨ha1, f, hm, fun eb => ?_, fun eb => ?_, fun eb => ?_, fun eb => ?_, fun eb => ?_⟩
  · subst eb
    have h4 : (xm_w q.2.2.2 (.methodLink (xm_own o) i r.2.1) && Nat.beq f.1 2) = true := h4
    rw [Bool.and_eq_true] at h4
    exact ⟨Nat.eq_of_beq_eq_true h4.2, xs_word X h4.1⟩
  · subst eb
    have h4 : (xm_w q.2.2.2 (.methodLink (xm_own o) i r.2.1) && Nat.beq f.1 0) = true := h4
    rw [Bool.and_eq_true] at h4
    exact ⟨Nat.eq_of_beq_eq_true h4.2, xs_word X h4.1⟩
  · subst eb
    have h4 : (xm_w q.2.2.2 (.methodLink (xm_own o) i r.2.1) && Nat.beq f.1 1) = true := h4
    rw [Bool.and_eq_true] at h4
    exact ⟨Nat.eq_of_beq_eq_true h4.2, xs_word X h4.1⟩
  · subst eb
    have h4 : (decide (Jvm.Cond.methodLinkNest (xm_own o) i r.2.1 "StairNews" ∈ xm_nest) && Nat.beq f.1 0) = true := h4
    rw [Bool.and_eq_true, decide_eq_true_eq] at h4
    exact ⟨Nat.eq_of_beq_eq_true h4.2, X.2.2.2.2.2.1.2.1 _ h4.1⟩
  · subst eb
    have h4 : (decide (Jvm.Cond.methodLinkNest (xm_own o) i r.2.1 "StairNews" ∈ xm_nest) && Nat.beq f.1 1) = true := h4
    rw [Bool.and_eq_true, decide_eq_true_eq] at h4
    exact ⟨Nat.eq_of_beq_eq_true h4.2, X.2.2.2.2.2.1.2.1 _ h4.1⟩
theorem xs_good_w {w : Jvm.Cond} (h : w ∈ xm_tb) : (w.onTables && w.keeps) = true ∨ ∃ ty, w = .arrayClass ty := good_of_word (List.mem_filter.mp h).2
theorem xs_pay (X : xs_Cx p s m args c cc nL o Z) {r : xm_M} (hc : Jvm.Cond.code r.2.1 r.2.2.1 r.2.2.2.1 r.2.2.2.2.1 ∈ xm_tb) : ∀ w ∈ xs_ws r, ∀ (a' : Array Value) (U : State), s.WarmedH U.vm → w.before a' U = true := by
  intro w hw a' U hW
  have h1 : w ∈ xm_tb := by
    rcases List.mem_cons.mp hw with rfl | h
    · exact hc
    · exact h
  exact word_at hW (xs_good_w h1) (X.2.2.2.2.1 w h1)
/-- behind a call -/
theorem xs_after {n0 : Nat} {st0 : List Value} {r : xm_M} {kk : xm_Q} {a1 : Array Value} {rest : List Value} (S : xs_St Z nL lv G E H locs ls) (hr : va_Run p l e R s m args below meth c H locs kc ks r.2.2.2.2.2.2.1 r.2.2.2.2.2.2.2.1 (F0 m pc ls st0) (rest.map (xs_cv Z)) (xs_Qc Z kk a1) (fun q => xs_b Z ≤ q)) (hkk : ∀ v G' E', kk v G' E' = true → k lv (match v with
    | some v => v :: rest
    | none => rest) G' E' (kc + r.2.2.2.2.2.2.1) (ks + r.2.2.2.2.2.2.2.1) = true) (g : xs_good p l e R s m args below meth c Qf nL Z k (pc + 3)) : W p l e R s m args below meth c H locs kc ks Qf (F0 m pc ls st0) := by
  intro T hT XX
  obtain ⟨v, st₀, t, T', L, h0, X', hL, e1, e2, ⟨u, G', E', q1, q2, q3, q4⟩, hst⟩ := hr T hT XX
  cases q3
  obtain ⟨t2, a2, b2⟩ := g lv _ G' E' _ _ (hkk u G' E' q1) T'.heap (locs ++ L) ls ⟨q2, by rw [e1]; exact q4, S.2.2.1, fun q hq => by
    rcases List.mem_append.mp hq with h | h
    · exact S.2.2.2 q h
    · exact hL q h⟩ T' rfl X'
  refine ⟨t2, hst t2 ?_, b2⟩
  cases u with
  | none => exact a2
  | some w => exact a2
theorem xb_call (X : xs_Cx p s m args c cc nL o Z) {call : xm_C} {d i a b : Nat} (hb : b = 0 ∨ b = 1 ∨ b = 2 ∨ b = 3 ∨ b = 4) (hd : decode cc pc = .ok ((match b with
    | 0 => Instr.invokevirtual i
    | 1 => .invokestatic i
    | 3 => .invokestatic i
    | _ => .invokespecial i), 3)) (hml : xm_at3 (xm_ml o) (i, a, b) = true) (hR : d + 9 ≤ R.frames ∧ 64 * (d + 9) ≤ R.locals ∧ mc ≤ R.cells ∧ ms ≤ R.slots) (hC : xs_CH l Z d call) (hk : xm_call call mc ms a b st G E kc ks (fun st G E kc ks => k lv st G E kc ks) = true) (g : xs_good p l e R s m args below meth c Qf nL Z k (pc + 3)) (S : xs_St Z nL lv G E H locs ls) : W p l e R s m args below meth c H locs kc ks Qf (F0 m pc ls (st.map (xs_cv Z))) := by
  unfold xm_call at hk
  rw [xl_nth] at hk
  cases hr : xm_mtab[a]? with
  | none => rw [hr] at hk; cases hk
  | some r =>
    rw [hr] at hk
    obtain ⟨ha1, f, hm, L0, L1, L2, L3, L4⟩ := xs_ml X hml hr
    obtain ⟨w1, w2, w3, w4, w5, w6, w7, w8, w9⟩ := xs_mok hm
    obtain ⟨ro, ry, rb, rL, rr, rn, rmc, rms, rcode⟩ := r
    dsimp only at hk w1 w2 w3 w4 w5 w6 w7 w8 w9 L0 L1 L2 L3 L4
    cases hc : (Nat.ble (kc + rmc) mc && Nat.ble (ks + rms) ms) with
    | false => rw [hc] at hk; cases hk
    | true =>
      rw [hc, cond_true] at hk
      rw [Bool.and_eq_true] at hc
      have c1 : kc + rmc ≤ mc := Nat.le_of_ble_eq_true hc.1
      have c2 : ks + rms ≤ ms := Nat.le_of_ble_eq_true hc.2
      obtain ⟨xs, st', e1, e2, h3⟩ := xs_pop hk
      rw [List.append_nil] at h3
      generalize hAs : xs.reverse = As at h3
      have hxs : xs = As.reverse := by rw [← hAs, List.reverse_reverse]
      cases h4 : (Nat.ble (xm_cats st') 8 && xm_rcv b ry.cls G As) with
      | false => rw [h4] at h3; cases h3
      | true =>
        rw [h4, cond_true] at h3
        rw [Bool.and_eq_true] at h4
        obtain ⟨h4, h5⟩ := h4
        have h4 : xm_cats st' ≤ 8 := Nat.le_of_ble_eq_true h4
        have hM := hC a _ ha1 hr As G E _ h3 S.1
        have hpay := xs_pay X (r := (ro, ry, rb, rL, rr, rn, rmc, rms, rcode)) w8
        have hlen : ∀ sig, parseMethodDescriptor ry.desc = some sig → rn = sig.parameters.length := by
          intro sig hs
          rw [hs] at w7
          exact (Option.some.inj w7).symm
        have hroom : 2 * (F0 m pc ls (st.map (xs_cv Z))).monitorRoom + ((st'.map (xs_cv Z)).map fun v => v.category).sum ≤ 8 := lv_room (by rw [xs_cats]; exact h4)
        have hfit : kc + rmc ≤ R.cells ∧ ks + rms ≤ R.slots := ⟨Nat.le_trans c1 hR.2.2.1, Nat.le_trans c2 hR.2.2.2⟩
        have hfr : d + 8 + 1 ≤ R.frames := hR.1
        have hlo : 8 + (rL + 11) + 64 * (d + 8) ≤ R.locals := xn_lo w9 hR.2.1
        have hcode := X.2.2.2.2.1 _ w8
        have hini := X.2.2.2.2.1 _ w1
        have S0 : CallFix p m c cc nL s args xm_tb (xm_own o) := ⟨X.1, X.2.1, X.2.2.1, X.2.2.2.1, X.2.2.2.2.1⟩
        have hsize : (F0 m pc ls (st.map (xs_cv Z))).locals.size = nL := S.2.2.1.1
        have hpre : PreS s H (xs_Pc Z As G) (As.map (xs_cv Z)) := ⟨xs_blind Z As G, fun U hU hW => ⟨rfl, by rw [hU]; exact S.2.1, X.2.2.2.2.2.1.warm hW⟩⟩
        have hB : ∀ hl : (Jvm.Cond.methodLink (xm_own o) i ry).before args s = true, CallB R s args (xm_own o) i ry rb rL rr (xs_ws (ro, ry, rb, rL, rr, rn, rmc, rms, rcode)) (xs_rm d (ro, ry, rb, rL, rr, rn, rmc, rms, rcode)) rmc rms rn := fun hl => ⟨rfl, rfl, hfr, hlo, hpay, List.mem_cons_self, hcode, hini, w6, hlen, hl⟩
        have hN : ∀ hl : va_Nw (.methodLinkNest (xm_own o) i ry "StairNews") s, va_CN R s args (xm_own o) i ry "StairNews" rb rL rr (xs_ws (ro, ry, rb, rL, rr, rn, rmc, rms, rcode)) (xs_rm d (ro, ry, rb, rL, rr, rn, rmc, rms, rcode)) rmc rms rn := fun hl => ⟨⟨rfl, rfl, hfr, hlo, hpay, List.mem_cons_self⟩, hcode, hini, w6, hlen, va_Nw.use rfl hl⟩
        have hst : ∀ zs : List Value, zs = As.map (xs_cv Z) → (F0 m pc ls (st.map (xs_cv Z))).stack = zs.reverse ++ st'.map (xs_cv Z) := by
          intro zs hz
          show st.map (xs_cv Z) = _
          rw [e1, hxs, hz, List.map_append, List.map_reverse]
        rcases hb with rfl | rfl | rfl | rfl | rfl
        · -- virtual
          obtain ⟨f2, hl⟩ := L0 rfl
          obtain ⟨i1, i2⟩ := w4 f2
          obtain ⟨j, As', t, vs, TT, NN, rfl, hj, ht⟩ := xs_rcv0 (show xm_rcv0 ry.cls G As = true from h5)
          obtain ⟨cell, v1, v2, v3, -⟩ := xs_recv X S.2.1 hj ht
          refine xs_after (n0 := 0) S (va_runV (As := As'.map (xs_cv Z)) S0 hM ⟨hB hl, X.2.2.2.2.1 _ i1, X.2.2.2.2.1 _ i2⟩ ⟨xs_blind Z _ G, ⟨cell, v1, by rw [v2]; rfl, v3⟩, hpre.2⟩ rfl ?_ hsize ?_ hroom hd hfit) (fun v G' E' h => h) g
          · have h7 := congrArg List.length hxs
            have e2 : xs.length = rn + 1 := e2
            rw [e2, List.length_reverse, List.length_cons] at h7
            rw [List.length_map]
            omega
          · rw [hst _ rfl]
            simp [xs_cv]
        · obtain ⟨f2, hl⟩ := L1 rfl
          refine xs_after (n0 := 0) S (va_runS S0 hM ⟨hB hl, X.2.2.2.2.1 _ (w2 f2)⟩ hpre rfl ?_ hsize (hst _ rfl) hroom hd hfit) (fun v G' E' h => h) g
          have h7 := congrArg List.length hxs
          have e2 : xs.length = rn := e2
          rw [e2, List.length_reverse] at h7
          rw [List.length_map]
          exact h7.symm
        · obtain ⟨f2, hl⟩ := L2 rfl
          obtain ⟨i1, i2, i3⟩ := w3 f2
          have i3 : rr = none := i3
          subst i3
          obtain ⟨j, As', rfl⟩ := xs_rcv1 (show xm_rcv1 As = true from h5)
          · refine xs_after (n0 := 0) S (va_runI (As := As'.map (xs_cv Z)) S0 hM ⟨hB hl, i2, X.2.2.2.2.1 _ i1⟩ hpre rfl ?_ hsize ?_ hroom hd hfit) (fun v G' E' h => h) g
            · have h7 := congrArg List.length hxs
              have e2 : xs.length = rn + 1 := e2
              rw [e2, List.length_reverse, List.length_cons] at h7
              rw [List.length_map]
              omega
            · rw [hst _ rfl]
              simp [xs_cv]
        · obtain ⟨f2, hl⟩ := L3 rfl
          refine xs_after (n0 := 0) S (va_runSN (host := "StairNews") S0 hM ⟨hN hl, X.2.2.2.2.1 _ (w2 f2), trivial⟩ hpre rfl ?_ hsize (hst _ rfl) hroom hd hfit) (fun v G' E' h => h) g
          have h7 := congrArg List.length hxs
          have e2 : xs.length = rn := e2
          rw [e2, List.length_reverse] at h7
          rw [List.length_map]
          exact h7.symm
        · obtain ⟨f2, hl⟩ := L4 rfl
          obtain ⟨i1, i2, i3⟩ := w3 f2
          have i3 : rr = none := i3
          subst i3
          obtain ⟨j, As', rfl⟩ := xs_rcv1 (show xm_rcv1 As = true from h5)
          · refine xs_after (n0 := 0) S (va_runIN (host := "StairNews") (As := As'.map (xs_cv Z)) S0 hM ⟨hN hl, i2, X.2.2.2.2.1 _ i1⟩ hpre rfl ?_ hsize ?_ hroom hd hfit) (fun v G' E' h => h) g
            · have h7 := congrArg List.length hxs
              have e2 : xs.length = rn + 1 := e2
              rw [e2, List.length_reverse, List.length_cons] at h7
              rw [List.length_map]
              omega
            · rw [hst _ rfl]
              simp [xs_cv]
end XH
