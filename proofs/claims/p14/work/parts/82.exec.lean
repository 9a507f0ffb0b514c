/-! a run of the machine, a run of the JVM; the contracts of all methods -/
theorem xn_okdrop {o : Nat} {ini : Bool} {cc : ByteArray} {full : List xm_E} : ∀ (n : Nat) (suf : List xm_E), xn_okC o ini cc full suf = true → xn_okC o ini cc full (xm_drop n suf) = true
  | 0, suf, h => h
  | n + 1, [], h => h
  | n + 1, e :: suf, h => by
    have h1 : (xn_okE o ini cc full suf e && xn_okC o ini cc full suf) = true := h
    rw [Bool.and_eq_true] at h1
    show xn_okC o ini cc full (xm_drop n suf) = true
    exact xn_okdrop n suf h1.2
theorem xs_slots (vs : List Value) : (lg_sl vs).length = (vs.map fun v => v.category).sum := by
  induction vs with
  | nil => rfl
  | cons v vs ih =>
    have h : lg_sl (v :: vs) = lg_sl [v] ++ lg_sl vs := by simp [lg_sl]
    rw [h, List.length_append, ih, List.map_cons, List.sum_cons]
    congr 1
    cases v <;> rfl
section XJ
variable {p : Program} {l : Launch} {e : Env} {R : Room} {s : State} {m : MethodId} {args : Array Value} {below : List Frame} {meth : Method} {c : Code} {Qf : State → Prop} {cc : ByteArray} {nL o : Nat} {Z : xs_Z} {mc ms : Nat}
/-- the machine's run, with another end in place of 'no fuel' -/
noncomputable def xn_run (K : List xm_E → xm_K) (call : xm_C) (full : List xm_E) (nL mc ms : Nat) (ret : Option FieldType) (Q : xm_Q) (f : Nat) : List xm_E → xm_K :=
  Nat.rec (motive := fun _ => List xm_E → xm_K) K (fun _ ih suf lv st G E kc ks => List.rec (motive := fun _ => Bool) false (fun e rest _ => xm_body call full nL mc ms ret Q ih e rest lv st G E kc ks) suf) f
theorem xs_runK (X : xs_Cx p s m args c cc nL o Z) {call : xm_C} {d : Nat} {full : List xm_E} {ini : Bool} {ret : Option FieldType} {Q : xm_Q} {K : List xm_E → xm_K} (hK : ∀ suf e1 rest', suf = e1 :: rest' → xs_good p l e R s m args below meth c Qf nL Z (xn_fi mc ms K suf) e1.1) (hfull : xn_okC o ini cc full full = true) (hini : ini = true → meth.name = "<init>") (hR : d + 9 ≤ R.frames ∧ 64 * (d + 9) ≤ R.locals ∧ mc ≤ R.cells ∧ ms ≤ R.slots) (hC : xs_CH l Z d call) (hret : xs_RH p l e R s m args below meth c Qf cc nL mc ms ret Q Z) : ∀ (f : Nat) (suf : List xm_E), xn_okC o ini cc full suf = true → ∀ e1 rest', suf = e1 :: rest' → xs_good p l e R s m args below meth c Qf nL Z (xn_fi mc ms (xn_run K call full nL mc ms ret Q f) suf) e1.1
  | 0, suf, _, e1, rest', he => hK suf e1 rest' he
  | f + 1, suf, hok, e1, rest', he => by
    intro lv st G E kc ks hk H locs ls S
    subst he
    obtain ⟨g1, g2, g3⟩ := xn_fi_of hk
    have g3 : xm_body call full nL mc ms ret Q (xn_run K call full nL mc ms ret Q f) e1 rest' lv st G E kc ks = true := g3
    have hok : (xn_okE o ini cc full rest' e1 && xn_okC o ini cc full rest') = true := hok
    rw [Bool.and_eq_true] at hok
    exact xs_body X hok.1 hini ⟨g1, g2⟩ hR hC (fun e2 r2 h2 => xs_runK X hK hfull hini hR hC hret f rest' hok.2 e2 r2 h2) (fun t e2 r2 h2 => xs_runK X hK hfull hini hR hC hret f (xm_drop t full) (xn_okdrop t full hfull) e2 r2 h2) hret (xn_fit g1 g2 g3) S
theorem xs_run (X : xs_Cx p s m args c cc nL o Z) {call : xm_C} {d : Nat} {full : List xm_E} {ini : Bool} {ret : Option FieldType} {Q : xm_Q} (hfull : xn_okC o ini cc full full = true) (hini : ini = true → meth.name = "<init>") (hR : d + 9 ≤ R.frames ∧ 64 * (d + 9) ≤ R.locals ∧ mc ≤ R.cells ∧ ms ≤ R.slots) (hC : xs_CH l Z d call) (hret : xs_RH p l e R s m args below meth c Qf cc nL mc ms ret Q Z) (f : Nat) (suf : List xm_E) (hok : xn_okC o ini cc full suf = true) (e1 : xm_E) (rest' : List xm_E) (he : suf = e1 :: rest') {lv : xm_L} {st : List Value} {G : xm_H} {E : xm_R} {kc ks : Nat} (hk : xm_run call full nL mc ms ret Q f suf lv st G E kc ks = true) (h1 : kc ≤ mc) (h2 : ks ≤ ms) {H : Heap} {locs : List Loc} {ls : Array Slot} (S : xs_St Z nL lv G E H locs ls) : W p l e R s m args below meth c H locs kc ks Qf (F0 m e1.1 ls (st.map (xs_cv Z))) := by
  have hK : ∀ (suf : List xm_E) (e1 : xm_E) (rest' : List xm_E), suf = e1 :: rest' → xs_good p l e R s m args below meth c Qf nL Z (xn_fi mc ms (fun _ _ _ _ _ _ _ => false) suf) e1.1 := by
    intro suf e1 rest' _ lv st G E kc ks hk
    have h := (xn_fi_of hk).2.2
    cases h
  refine xs_runK (K := fun _ _ _ _ _ _ _ => false) X hK hfull hini hR hC hret f suf hok e1 rest' he lv st G E kc ks ?_ H locs ls S
  rw [xn_fi_eq h1 h2]
  exact hk
end XJ
theorem xs_okM {r : xm_M} (h : xn_okM r = true) : r.1 < 17 ∧ r.2.1.cls = xm_own r.1 ∧ xn_okC r.1 (decide (r.2.1.name = "<init>")) r.2.2.1 r.2.2.2.2.2.2.2.2 r.2.2.2.2.2.2.2.2 = true := by
  unfold xn_okM at h
  rw [Bool.and_eq_true, Bool.and_eq_true, decide_eq_true_eq] at h
  exact ⟨Nat.le_of_ble_eq_true h.1, h.2.1, h.2.2⟩
/-- a return of a method -/
theorem xs_rets {p : Program} {l : Launch} {e : Env} {R : Room} {s : State} {m : MethodId} {args : Array Value} {below : List Frame} {meth : Method} {c : Code} {cc : ByteArray} {nL mc ms : Nat} {ret : Option FieldType} {Q : xm_Q} {Z : xs_Z} (hx : p.tables.exec = Jvm.exec) (hb : c.code = cc) (hr : meth.sig.returnType = ret) (hlocks : meth.locks = false) : xs_RH p l e R s m args below meth c (MQ below (xs_Qc Z Q) args s mc ms (fun q => xs_b Z ≤ q)) cc nL mc ms ret Q Z := by
  intro pc i v st1 kc ks lv G E H locs ls hd hrt hQ h1 h2 S
  refine W.widen (k := mc) (n := ms) h1 h2 ?_
  rcases hrt with ⟨rfl, w, rfl, rfl, a1, a2⟩ | ⟨rfl, w, rfl, rfl, a1, a2⟩ | ⟨rfl, w, rfl, rfl, a1, a2⟩ | ⟨rfl, rfl, rfl, a1⟩
  · cases ret with
    | none => cases a2
    | some ty =>
      have a2 : xm_fit ty w = true := a2
      obtain ⟨x, hw⟩ := xs_I (Z := Z) a1
      have hn := (xs_fit (Z := Z) a2).1
      rw [List.map_cons, hw]
      rw [hw] at hn
      exact W.zret hx hb hr hn (fun t ht hW => ⟨some w, G, E, hQ, S.1, by rw [Option.map_some, hw], by rw [ht]; exact S.2.1⟩) S.2.2.2 hd hlocks
  · cases ret with
    | none => cases a2
    | some ty =>
      have a2 : xm_fit ty w = true := a2
      obtain ⟨x, hw⟩ := xs_L (Z := Z) a1
      have hty : ty = .long := by
        have hf := (xs_fit (Z := Z) a2).2
        rw [hw] at hf
        cases ty <;> first | rfl | cases hf
      subst hty
      rw [List.map_cons, hw]
      exact W.lret hx hb hr (fun t ht hW => ⟨some w, G, E, hQ, S.1, by rw [Option.map_some, hw], by rw [ht]; exact S.2.1⟩) S.2.2.2 hd hlocks
  · cases ret with
    | none => cases a2
    | some ty =>
      have a2 : xm_fit ty w = true := a2
      have hty : (∃ n, ty = .object n) ∨ ∃ t, ty = .array t := by
        have hf := (xs_fit (Z := Z) a2).2
        rcases xs_A (Z := Z) a1 with ⟨-, hw⟩ | ⟨j, -, hw⟩
        · rw [hw] at hf
          cases ty <;> first | exact Or.inl ⟨_, rfl⟩ | exact Or.inr ⟨_, rfl⟩ | cases hf
        · rw [hw] at hf
          cases ty <;> first | exact Or.inl ⟨_, rfl⟩ | exact Or.inr ⟨_, rfl⟩ | cases hf
      have hv : xs_cv Z w = .null ∨ ∃ a, xs_cv Z w = .ref a := by
        rcases xs_A (Z := Z) a1 with ⟨-, hw⟩ | ⟨j, -, hw⟩
        · exact Or.inl hw
        · exact Or.inr ⟨_, hw⟩
      exact W.aret hx hb hr hty hv (fun t ht hW => ⟨some w, G, E, hQ, S.1, rfl, by rw [ht]; exact S.2.1⟩) S.2.2.2 hd hlocks
  · subst a1
    exact W.vret hx hb hr (fun t ht hW => ⟨none, G, E, hQ, S.1, rfl, by rw [ht]; exact S.2.1⟩) S.2.2.2 hd hlocks
theorem xs_exec (l : Launch) (Z : xs_Z) : ∀ d, xs_CH l Z d (xm_exec d)
  | 0 => by
    intro a r _ _ As G E Q hk
    have hk : false = true := hk
    cases hk
  | d + 1 => by
    intro a r ha hr As G E Q hk hsat
    have hC := xs_exec l Z d
    obtain ⟨f, -, hm⟩ := xs_mall ha hr
    obtain ⟨w1, w2, w3, w4, w5, w6, w7, w8, w9⟩ := xs_mok hm
    obtain ⟨k1, k2, k3⟩ := xs_okM (xk_okall r (List.mem_of_getElem? hr))
    have hk : (match xm_nth xm_mtab a with
      | some (_, _, _, nL, ret, _, mc, ms, c) => bif xm_nx c 0 && Nat.ble (xm_cats As) nL then xm_run (xm_exec d) c nL mc ms ret Q xm_fuel c (lv_args 0 As) [] G E 0 0 else false
      | none => false) = true := hk
    rw [xl_nth, hr] at hk
    obtain ⟨ro, ry, rb, rL, rr, rn, rmc, rms, rcode⟩ := r
    dsimp only at hk w1 w5 w8 w9 k1 k2 k3
    cases hc : (xm_nx rcode 0 && Nat.ble (xm_cats As) rL) with
    | false => rw [hc] at hk; cases hk
    | true =>
      rw [hc, cond_true] at hk
      rw [Bool.and_eq_true] at hc
      have hcat : xm_cats As ≤ rL := Nat.le_of_ble_eq_true hc.2
      refine Met.ofW (cc := rb) (maxL := rL) (ret := rr) w5 rfl ?_
      intro p e s m args below meth c s₁ B hml hv
      obtain ⟨rfl, hHW, hKW⟩ := hv
      have hx := B.exec
      have hb := B.bytes
      have hr2 := B.returns
      have hts := atoms_spec (ws := xs_ws (ro, ry, rb, rL, rr, rn, rmc, rms, rcode)) B.pre
      have hown : s.vm.findClass ry.cls = some m.cls := findClass_of_methodNamed B.named
      have hlocks := B.notSynchronized
      have hin : meth.name = ry.name := (name_of_methodNamed B.named B.method).1
      have X : xs_Cx p s m (As.map (xs_cv Z)).toArray c rb rL ro Z := ⟨hx, hb, hml, by rw [← k2]; exact hown, fun w hw => hts w (List.mem_cons_of_mem _ hw), hKW, k1⟩
      have hl := lv_entry (As.map (xs_cv Z)) (n := rL) (by rw [xs_slots, xs_cats]; exact hcat)
      rw [lg_entry_eq]
      generalize (lg_sl (As.map (xs_cv Z)) ++ List.replicate (rL - (lg_sl (As.map (xs_cv Z))).length) Slot.unset).toArray = ls at hl ⊢
      have hnx := hc.1
      unfold xm_nx at hnx
      split at hnx
      · rename_i e1 rest'
        have h0 := Nat.eq_of_beq_eq_true hnx
        have hW := xs_run (R := xs_rm (d + 1) (ro, ry, rb, rL, rr, rn, rmc, rms, e1 :: rest')) (l := l) (e := e) (below := below) (meth := meth) (mc := rmc) (ms := rms) X k3 (fun hi => by rw [hin]; exact of_decide_eq_true hi) ⟨Nat.le_refl _, Nat.le_refl _, Nat.le_refl _, Nat.le_refl _⟩ hC (xs_rets (Q := Q) hx hb hr2 hlocks) xm_fuel _ k3 e1 rest' rfl hk (Nat.zero_le _) (Nat.zero_le _) (H := s.heap) (locs := []) (ls := ls) ⟨hsat, hHW, by rw [xs_args]; exact hl, fun q hq => by cases hq⟩
        rw [h0] at hW
        exact hW
      · cases hnx
