/-! one row an instruction: arraycopy, switches -/
section XG
variable {p : Program} {l : Launch} {e : Env} {R : Room} {s : State} {m : MethodId} {args : Array Value} {below : List Frame} {meth : Method} {c : Code} {Qf : State → Prop} {cc : ByteArray} {nL o : Nat} {Z : xs_Z}
variable {lv : xm_L} {st : List Value} {G : xm_H} {E : xm_R} {kc ks pc mc ms : Nat} {k : xm_K} {H : Heap} {locs : List Loc} {ls : Array Slot}
theorem xs_copylen (sp dp : Nat) (f g : List Value) : ∀ n, (xm_copy sp dp n f g).length = g.length
  | 0 => rfl
  | n + 1 => by
    show (match xm_nth f (sp + n) with
      | some w => xm_put w (xm_copy sp dp n f g) (dp + n)
      | none => xm_copy sp dp n f g).length = _
    split
    · rw [xl_put, List.length_set]
      exact xs_copylen sp dp f g n
    · exact xs_copylen sp dp f g n
theorem xs_copy (sp dp : Nat) (f g : List Value) : ∀ n, sp + n ≤ f.length → dp + n ≤ g.length → ∀ i : Nat, (xm_copy sp dp n f g).getD i .null = if dp ≤ i ∧ i < dp + n then f.getD (sp + (i - dp)) .null else g.getD i .null
  | 0, _, _, i => by
    rw [if_neg (by omega)]
    rfl
  | n + 1, h1, h2, i => by
    have ih := xs_copy sp dp f g n (by omega) (by omega)
    have hl := xs_copylen sp dp f g n
    show (match xm_nth f (sp + n) with
      | some w => xm_put w (xm_copy sp dp n f g) (dp + n)
      | none => xm_copy sp dp n f g).getD i .null = _
    rw [xl_nth, List.getElem?_eq_getElem (show sp + n < f.length by omega)]
    dsimp only
    rw [xl_put]
    by_cases e : i = dp + n
    · subst e
      rw [List.getD_eq_getElem?_getD, List.getElem?_set_self (by omega), if_pos (by omega), show sp + (dp + n - dp) = sp + n by omega, List.getD_eq_getElem?_getD, List.getElem?_eq_getElem (show sp + n < f.length by omega)]
    · rw [List.getD_eq_getElem?_getD, List.getElem?_set_ne (fun q => e q.symm), ← List.getD_eq_getElem?_getD, ih i]
      by_cases e2 : dp ≤ i ∧ i < dp + n
      · rw [if_pos e2, if_pos (by omega)]
      · rw [if_neg e2, if_neg (by omega)]
theorem xs_allI : ∀ {l : List Value}, xm_allI l = true → ∀ v ∈ l, xm_isI v = true
  | [], _, v, h => by cases h
  | a :: l, h, v, hv => by
    have h1 : (xm_isI a && xm_allI l) = true := h
    rw [Bool.and_eq_true] at h1
    rcases List.mem_cons.mp hv with rfl | hv
    · exact h1.1
    · exact xs_allI h1.2 v hv
theorem xs_nn {z : Int32} (h : 0 ≤ z.toInt) : z.toInt = (z.toNatClampNeg : Int) := by
  show z.toInt = ((z.toInt.toNat : Nat) : Int)
  omega
theorem xb_arraycopy (X : xs_Cx p s m args c cc nL o Z) {i : Nat} (hd : decode cc pc = .ok (.invokestatic i, 3)) (hml : xm_at3 (xm_ml o) (i, 1001, 0) = true) (hR : 1 ≤ R.frames ∧ 64 ≤ R.locals) (hk : xm_acopy st G (fun st G => k lv st G E kc ks) = true) (g : xs_good p l e R s m args below meth c Qf nL Z k (pc + 3)) (S : xs_St Z nL lv G E H locs ls) : W p l e R s m args below meth c H locs kc ks Qf (F0 m pc ls (st.map (xs_cv Z))) := by
  unfold xm_acopy at hk
  split at hk
  · rename_i n dp j sp js st'
    split at hk
    · rename_i t vs t1 ws g0 g1
      cases hc : (Nat.beq t 100 && (Nat.beq t1 100 && (Nat.ble 7 j && (!(Nat.beq js j) && (Nat.ble (xm_cats st') 8 && (xm_allI vs && (decide (0 ≤ n.toInt) && (decide (0 ≤ dp.toInt) && (decide (0 ≤ sp.toInt) && (Nat.ble (sp.toInt.toNat + n.toInt.toNat) (xm_len vs) && Nat.ble (dp.toInt.toNat + n.toInt.toNat) (xm_len ws))))))))))) with
      | false => rw [hc] at hk; cases hk
      | true =>
        rw [hc, cond_true] at hk
        simp only [Bool.and_eq_true, decide_eq_true_eq] at hc
        obtain ⟨c1, c2, c3, c4, c5, cI, c6, c7, c8, c9, c10⟩ := hc
        have c1 := Nat.eq_of_beq_eq_true c1
        have c2 := Nat.eq_of_beq_eq_true c2
        have c3 : 7 ≤ j := Nat.le_of_ble_eq_true c3
        have c5 : xm_cats st' ≤ 8 := Nat.le_of_ble_eq_true c5
        have c9 : sp.toInt.toNat + n.toInt.toNat ≤ vs.length := by rw [← xl_len]; exact Nat.le_of_ble_eq_true c9
        have c10 : dp.toInt.toNat + n.toInt.toNat ≤ ws.length := by rw [← xl_len]; exact Nat.le_of_ble_eq_true c10
        subst c1 c2
        obtain ⟨q, hq, e1, e2, e3⟩ := xs_at3 hml
        have h4 := List.all_eq_true.mp (xk_ml o X.2.2.2.2.2.2) q hq
        unfold xm_mlok at h4
        rw [e1, e2] at h4
        have h4 : xm_w q.2.2.2 (.methodLink (xm_own o) i arraycopyName) = true := h4
        obtain ⟨hl0, hc0⟩ := xs_arr S.2.1 g0 (by decide) (by decide)
        obtain ⟨hl1, hc1⟩ := xs_arr S.2.1 g1 (by decide) (by decide)
        have hK := (X.2.2.2.2.2.1.1.2 0 _ rfl).1
        obtain ⟨-, k0, hk0, cm0, hkk0⟩ := hK vs.length (fun k => xs_cv Z (vs.getD k .null))
        obtain ⟨-, k1, hk1, cm1, hkk1⟩ := hK ws.length (fun k => xs_cv Z (ws.getD k .null))
        intro T hT XX
        have hall := xs_allI cI
        obtain ⟨vm', X', step⟩ := XX.arraycopy X.1 X.2.2.2.1 (xs_word X h4) (xs_word X xk_a9) (xs_word X xk_a10) (xs_word X xk_a11) (src := xs_rho Z js) (dst := xs_rho Z j) (cs := arrV (Z.2.1 0) vs.length (fun k => xs_cv Z (vs.getD k .null))) (cd := arrV (Z.2.1 0) ws.length (fun k => xs_cv Z (ws.getD k .null))) (srcPos := sp) (destPos := dp) (n := n) (by rw [hT]; exact hc0) (by rw [hT]; exact hc1)
          (fun _ h => by cases h) (fun _ h => by cases h) (fun h => by cases h) (fun h => by cases h) hk0 hk1 hkk0 hkk1 (by simp [refKind]) (xs_clamp c8) (xs_clamp c7) (xs_clamp c6)
          (by rw [xs_nn c8, xs_nn c6, arrV_size]; show ¬ ((sp.toInt.toNat : Nat) : Int) + ((n.toInt.toNat : Nat) : Int) > _; omega)
          (by rw [xs_nn c7, xs_nn c6, arrV_size]; show ¬ ((dp.toInt.toNat : Nat) : Int) + ((n.toInt.toNat : Nat) : Int) > _; omega)
          (fun vm₁ _ i hi => by
            have hi : i < n.toInt.toNat := hi
            have hlt : sp.toInt.toNat + i < vs.length := by omega
            have e : (arrV (Z.2.1 0) vs.length (fun k => xs_cv Z (vs.getD k .null))).slots.getD (sp.toNatClampNeg + i) .null = xs_cv Z vs[sp.toInt.toNat + i] := by
              show (arrV (Z.2.1 0) vs.length (fun k => xs_cv Z (vs.getD k .null))).slots.getD (sp.toInt.toNat + i) .null = _
              rw [Array.getD_eq_getD_getElem?, arrV_read _ _ hlt, List.getD_eq_getElem?_getD, List.getElem?_eq_getElem hlt]
              rfl
            obtain ⟨z, hz⟩ := xs_I (Z := Z) (hall _ (List.getElem_mem hlt))
            rw [e, hz]
            exact ⟨rfl, trivial⟩)
          (g := F0 m pc ls (.int n :: .int dp :: .ref (xs_rho Z j) :: .int sp :: .ref (xs_rho Z js) :: st'.map (xs_cv Z))) rfl (by rw [X.2.2.1]; exact S.2.2.1.1) (rest := st'.map (xs_cv Z)) rfl (by rw [X.2.1]; exact hd) hR.1 (by rw [xs_cats]; show 2 * 0 + xm_cats st' + (7 + 11) ≤ R.locals; omega)
        have e1 : copied (arrV (Z.2.1 0) vs.length (fun k => xs_cv Z (vs.getD k .null))) (arrV (Z.2.1 0) ws.length (fun k => xs_cv Z (ws.getD k .null))) sp dp n = arrV (Z.2.1 0) (xm_copy sp.toInt.toNat dp.toInt.toNat n.toInt.toNat vs ws).length (fun k => xs_cv Z ((xm_copy sp.toInt.toNat dp.toInt.toNat n.toInt.toNat vs ws).getD k .null)) := by
          have e2 := va_copied (fun z : Value => z) (Z.2.1 0) (Z.2.1 0) (n1 := ws.length) (sp := sp.toInt.toNat) (dp := dp.toInt.toNat) (n := n.toInt.toNat) (fun k => xs_cv Z (vs.getD k .null)) (fun k => xs_cv Z (ws.getD k .null)) c9
          refine Eq.trans e2 ?_
          rw [xs_copylen]
          apply xs_arrcongr
          intro i hi
          rw [xs_copy _ _ _ _ _ c9 c10]
          unfold va_cpy
          split <;> rfl
        rw [e1] at X' step
        have hl : xs_rho Z j < H.size := (Array.getElem?_eq_some_iff.mp hc1).1
        obtain ⟨t, a1, b1⟩ := g lv st' _ E kc ks hk (H.setIfInBounds (xs_rho Z j) (arrV (Z.2.1 0) (xm_copy sp.toInt.toNat dp.toInt.toNat n.toInt.toNat vs ws).length (fun k => xs_cv Z ((xm_copy sp.toInt.toNat dp.toInt.toNat n.toInt.toNat vs ws).getD k .null)))) _ ls ⟨S.1, S.2.1.put X.2.2.2.2.2.1.2.2.2.2.1 c3 hl1 (by simp) (fun q hq => by simp [Array.getElem?_setIfInBounds, Ne.symm hq]) (Or.inr (Or.inl ⟨Nat.le_refl 100, show 100 < 108 by decide, by simp [Array.getElem?_setIfInBounds, hl]⟩)), S.2.2.1, fun q hq => by
            rcases List.mem_append.mp hq with h | h
            · exact S.2.2.2 q h
            · obtain ⟨z, -, hz⟩ := List.mem_map.mp h
              rw [← hz]
              exact xs_lo c3⟩ _ (by rw [← hT]; rfl) X'
        exact ⟨t, step t a1, b1⟩
    · cases hk
  · cases hk
theorem xs_tg {full : List xm_E} {a : Nat} {off : Int} (h : xm_tg full a pc off = true) : ∃ e rest, xm_drop a full = e :: rest ∧ (pc : Int) + off = (e.1 : Int) := by
  unfold xm_tg at h
  split at h
  · rename_i e rest he
    exact ⟨e, rest, he, of_decide_eq_true h⟩
  · cases h
theorem xs_tgs {full : List xm_E} : ∀ {offs : List Int} {ts : List Nat}, xm_tgs full pc offs ts = true → offs.length = ts.length ∧ ∀ (i t : Nat), ts[i]? = some t → ∃ off, offs[i]? = some off ∧ xm_tg full t pc off = true
  | [], [], _ => ⟨rfl, fun i t h => by simp at h⟩
  | [], _ :: _, h => by cases h
  | _ :: _, [], h => by cases h
  | off :: offs, t :: ts, h => by
    have h1 : (xm_tg full t pc off && xm_tgs full pc offs ts) = true := h
    rw [Bool.and_eq_true] at h1
    obtain ⟨h2, h3⟩ := xs_tgs h1.2
    refine ⟨by simp [h2], fun i t' hi => ?_⟩
    cases i with
    | zero =>
      rw [List.getElem?_cons_zero] at hi
      cases hi
      exact ⟨off, rfl, h1.1⟩
    | succ i =>
      rw [List.getElem?_cons_succ] at hi
      obtain ⟨off', q1, q2⟩ := h3 i t' hi
      exact ⟨off', by rw [List.getElem?_cons_succ]; exact q1, q2⟩
theorem xs_tsw {j : Nat} {lo0 hi0 : Int} {kk : xm_R → Nat → Bool} : ∀ {ts : List Nat} {c0 : Int}, xm_tsw j lo0 hi0 E kk ts c0 = true → ∀ (i t : Nat), ts[i]? = some t → lo0 ≤ c0 + i → c0 + i ≤ hi0 → kk (xm_put (c0 + i, c0 + i) E j) t = true
  | [], c0, _, i, t, h, _, _ => by simp at h
  | t0 :: ts, c0, h, i, t, hi, b1, b2 => by
    have h1 : ((bif decide (lo0 ≤ c0) && decide (c0 ≤ hi0) then kk (xm_put (c0, c0) E j) t0 else true) && xm_tsw j lo0 hi0 E kk ts (c0 + 1)) = true := h
    rw [Bool.and_eq_true] at h1
    cases i with
    | zero =>
      rw [List.getElem?_cons_zero] at hi
      cases hi
      have e : c0 + ((0 : Nat) : Int) = c0 := by omega
      rw [e] at b1 b2 ⊢
      have h2 := h1.1
      rw [decide_eq_true b1, decide_eq_true b2] at h2
      exact h2
    | succ i =>
      rw [List.getElem?_cons_succ] at hi
      have h2 := xs_tsw h1.2 i t hi (by omega) (by omega)
      have e : c0 + 1 + (i : Int) = c0 + ((i + 1 : Nat) : Int) := by omega
      rw [e] at h2
      exact h2
/-- which way a table goes: the default, or a place of it -/
theorem xs_table {lo : Int} {a : Nat} {ts : List Nat} {w : Value} {kk : xm_R → Nat → Bool} (h : xm_table lo a ts w E kk = true) (hs : xs_sat Z E) : ∃ x E', xs_cv Z w = .int x ∧ xs_sat Z E' ∧ (((x.toInt < lo ∨ lo + (ts.length : Int) ≤ x.toInt) ∧ kk E' a = true) ∨ (lo ≤ x.toInt ∧ x.toInt < lo + (ts.length : Int) ∧ ∃ t, ts[(x.toInt - lo).toNat]? = some t ∧ kk E' t = true)) := by
  cases w with
  | int x =>
    have h : (bif decide (x.toInt < lo) || decide (lo + Int.ofNat (xm_len ts) ≤ x.toInt) then kk E a else (match xm_nth ts (x.toInt - lo).toNat with
      | some t => kk E t
      | none => false)) = true := h
    rw [xl_len, xl_nth] at h
    refine ⟨x, E, rfl, hs, ?_⟩
    cases hc : (decide (x.toInt < lo) || decide (lo + Int.ofNat ts.length ≤ x.toInt)) with
    | true =>
      rw [hc] at h
      rw [Bool.or_eq_true, decide_eq_true_eq, decide_eq_true_eq] at hc
      exact Or.inl ⟨hc, h⟩
    | false =>
      rw [hc] at h
      rw [Bool.or_eq_false_iff, decide_eq_false_iff_not, decide_eq_false_iff_not] at hc
      have q2 : ¬ lo + (ts.length : Int) ≤ x.toInt := hc.2
      refine Or.inr ⟨by omega, by omega, ?_⟩
      cases ht : ts[(x.toInt - lo).toNat]? with
      | none => rw [ht] at h; cases h
      | some t =>
        rw [ht] at h
        exact ⟨t, rfl, h⟩
  | retAddr j =>
    have h : (match xm_nth E j with
      | some (l, h) => and (bif decide (l < lo) then kk (xm_put (l, min h (lo - 1)) E j) a else true) (and (bif decide (lo + Int.ofNat (xm_len ts) ≤ h) then kk (xm_put (max l (lo + Int.ofNat (xm_len ts)), h) E j) a else true) (xm_tsw j l h E kk ts lo))
      | none => false) = true := h
    rw [xl_nth] at h
    cases hE : E[j]? with
    | none => rw [hE] at h; cases h
    | some q =>
      obtain ⟨l0, h0⟩ := q
      rw [hE] at h
      dsimp only at h
      rw [xl_len] at h
      simp only [Bool.and_eq_true] at h
      obtain ⟨h1, h2, h3⟩ := h
      have hb := hs j l0 h0 hE
      by_cases c1 : (xs_n Z j).toInt < lo
      · have d1 : decide (l0 < lo) = true := decide_eq_true (by omega)
        rw [d1] at h1
        exact ⟨xs_n Z j, _, rfl, xs_sat_put hs hb.1 (by omega), Or.inl ⟨Or.inl c1, h1⟩⟩
      · by_cases c2 : lo + (ts.length : Int) ≤ (xs_n Z j).toInt
        · have d1 : decide (lo + Int.ofNat ts.length ≤ h0) = true := decide_eq_true (by show lo + (ts.length : Int) ≤ h0; omega)
          rw [d1] at h2
          exact ⟨xs_n Z j, _, rfl, xs_sat_put hs (by show max l0 (lo + (ts.length : Int)) ≤ _; omega) hb.2, Or.inl ⟨Or.inr c2, h2⟩⟩
        · have c3 : ((xs_n Z j).toInt - lo).toNat < ts.length := by omega
          have c4 := List.getElem?_eq_getElem c3
          have h4 := xs_tsw h3 _ _ c4 (by omega) (by omega)
          have e : lo + (((xs_n Z j).toInt - lo).toNat : Int) = (xs_n Z j).toInt := by omega
          rw [e] at h4
          exact ⟨xs_n Z j, _, rfl, xs_sat_put hs (Int.le_refl _) (Int.le_refl _), Or.inr ⟨by omega, by omega, _, c4, h4⟩⟩
  | _ => cases h
theorem xb_tableswitch (X : xs_Cx p s m args c cc nL o Z) {full : List xm_E} {kj : List xm_E → xm_K} {d lo hi : Int} {offs : Array Int} {len a : Nat} {ts : List Nat} {w : Value} (hd : decode cc pc = .ok (.tableswitch d lo hi offs, len)) (h1 : xm_tg full a pc d = true) (h2 : xm_tgs full pc offs.toList ts = true) (h3 : hi + 1 = lo + (ts.length : Int)) (hk : xm_table lo a ts w E (fun E t => kj (xm_drop t full) lv st G E kc ks) = true) (g : ∀ (t : Nat) (e0 : xm_E) (rest : List xm_E), xm_drop t full = e0 :: rest → xs_good p l e R s m args below meth c Qf nL Z (kj (xm_drop t full)) e0.1) (S : xs_St Z nL lv G E H locs ls) : W p l e R s m args below meth c H locs kc ks Qf (F0 m pc ls ((w :: st).map (xs_cv Z))) := by
  obtain ⟨x, E', hx, s1, hh⟩ := xs_table hk S.1
  rw [List.map_cons, hx]
  rcases hh with ⟨b1, b2⟩ | ⟨b1, b2, t, ht, b3⟩
  · obtain ⟨e0, rest, f1, f2⟩ := xs_tg h1
    exact lv_tableOut X.1 X.2.1 hd (by omega) f2 (g a e0 rest f1 lv st G E' kc ks b2 H locs ls ⟨s1, S.2⟩)
  · obtain ⟨off, o1, o2⟩ := (xs_tgs h2).2 _ _ ht
    obtain ⟨e0, rest, f1, f2⟩ := xs_tg o2
    exact lv_tableIn X.1 X.2.1 hd (by omega) (by omega) (by rw [← Array.getElem?_toList]; exact o1) f2 (g t e0 rest f1 lv st G E' kc ks b3 H locs ls ⟨s1, S.2⟩)
theorem xs_look {full : List xm_E} {a : Nat} {d x : Int} (h1 : xm_tg full a pc d = true) : ∀ {ps : List (Int × Int)} {ts : List Nat}, xm_tgs full pc (ps.map (fun q => q.2)) ts = true → ∃ off, Op.lookupswitch.offset ps d x = off ∧ xm_tg full (xm_look a ps ts x) pc off = true
  | [], [], _ => ⟨d, rfl, h1⟩
  | [], _ :: _, h => by cases h
  | _ :: _, [], h => by cases h
  | q :: ps, t :: ts, h => by
    have h2 : (xm_tg full t pc q.2 && xm_tgs full pc (ps.map (fun q => q.2)) ts) = true := h
    rw [Bool.and_eq_true] at h2
    obtain ⟨off, o1, o2⟩ := xs_look h1 (x := x) h2.2
    by_cases e : q.1 = x
    · refine ⟨q.2, ?_, ?_⟩
      · simp [Op.lookupswitch.offset, e]
      · show xm_tg full (bif decide (q.1 = x) then t else xm_look a ps ts x) pc q.2 = true
        rw [decide_eq_true e]
        exact h2.1
    · refine ⟨off, ?_, ?_⟩
      · rw [← o1]
        simp [Op.lookupswitch.offset, e]
      · show xm_tg full (bif decide (q.1 = x) then t else xm_look a ps ts x) pc off = true
        rw [decide_eq_false e]
        exact o2
theorem xb_lookupswitch (X : xs_Cx p s m args c cc nL o Z) {full : List xm_E} {kj : List xm_E → xm_K} {d : Int} {ps : Array (Int × Int)} {len a : Nat} {ts : List Nat} {x : Int32} (hd : decode cc pc = .ok (.lookupswitch d ps, len)) (h1 : xm_tg full a pc d = true) (h2 : xm_tgs full pc (ps.toList.map (fun q => q.2)) ts = true) (h3 : (ps.toList.zip (ps.toList.drop 1)).all (fun (a, next) => a.1 < next.1) = true) (hk : kj (xm_drop (xm_look a ps.toList ts x.toInt) full) lv st G E kc ks = true) (g : ∀ (t : Nat) (e0 : xm_E) (rest : List xm_E), xm_drop t full = e0 :: rest → xs_good p l e R s m args below meth c Qf nL Z (kj (xm_drop t full)) e0.1) (S : xs_St Z nL lv G E H locs ls) : W p l e R s m args below meth c H locs kc ks Qf (F0 m pc ls ((.int x :: st).map (xs_cv Z))) := by
  obtain ⟨off, o1, o2⟩ := xs_look h1 (x := x.toInt) h2
  obtain ⟨e0, rest, f1, f2⟩ := xs_tg o2
  exact lv_lookup X.1 X.2.1 hd h3 o1 f2 (g _ e0 rest f1 lv st G E kc ks hk H locs ls S)
end XG
