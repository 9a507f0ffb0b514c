/-! a step of the interval machine is a step of the little one -/
theorem yr_lo0 : (List.range 7).all (fun j => match yr_row (yr_of j) with
  | some q => Nat.ble 200 q.1
  | none => true) = true := by decide +kernel
theorem yr_lo {j : Nat} {q : yW} (h : yr_row (yr_of j) = some q) (hq : q.1 < 200) : 7 ≤ j := by
  rcases Nat.lt_or_ge j 7 with hj | hj
  · exfalso
    have h0 := List.all_eq_true.mp yr_lo0 j (List.mem_range.mpr hj)
    rw [h] at h0
    have := Nat.le_of_ble_eq_true h0
    omega
  · exact hj
noncomputable def ys_tg (t : Option Nat) (full rest : List xm_E) : List xm_E := match t with
  | none => rest
  | some a => xm_drop a full
def ys_go (nL : Nat) (md : yM) (e : xm_E) (L : List (Option Nat × ym_St)) (y : Nat → Int) (n : Nat) (lv : xm_L) (st : List Value) (G : xm_H) : Prop := ∃ (t : Option Nat) (s' : ym_St) (y' : Nat → Int) (lv' : xm_L) (st' : List Value) (G' : xm_H), (t, s') ∈ L ∧ ys_R y' s' lv' st' G' ∧ ys_Fr md G G' ∧ (ys_ext n y y' ∧ n ≤ s'.2.2.1.1) ∧ ∀ (call : xm_C) (full : List xm_E) (mc ms : Nat) (ret : Option FieldType) (Q : xm_Q) (ih : List xm_E → xm_K) (rest : List xm_E) (E : xm_R), xm_body call full nL mc ms ret Q ih e rest lv st G E 0 0 = ih (ys_tg t full rest) lv' st' G' E 0 0
theorem yl_br {a : Nat} {lv : xm_L} {st : List Value} {C : ym_C} {q : ym_S × Bool} : ∀ {l : List (ym_S × Bool)}, q ∈ l → (bif q.2 then some a else none, (lv, st, q.1, C)) ∈ ym_br l a lv st C
  | p :: l, h => by
    show _ ∈ _ :: ym_br l a lv st C
    rcases List.mem_cons.mp h with rfl | h
    · exact List.mem_cons_self
    · exact List.mem_cons_of_mem _ (yl_br h)
theorem yl_vs {lv : xm_L} {st : List Value} {C : ym_C} {q : ym_S × Value} : ∀ {l : List (ym_S × Value)}, q ∈ l → (none, (lv, q.2 :: st, q.1, C)) ∈ ym_vs l lv st C
  | p :: l, h => by
    show _ ∈ _ :: ym_vs l lv st C
    rcases List.mem_cons.mp h with rfl | h
    · exact List.mem_cons_self
    · exact List.mem_cons_of_mem _ (yl_vs h)
theorem yl_ks {lv : xm_L} {st : List Value} {C : ym_C} {q : ym_S × Int} : ∀ {l : List (ym_S × Int)}, q ∈ l → (none, (lv, .int (Int32.ofInt q.2) :: st, q.1, C)) ∈ ym_ks l lv st C
  | p :: l, h => by
    show _ ∈ _ :: ym_ks l lv st C
    rcases List.mem_cons.mp h with rfl | h
    · exact List.mem_cons_self
    · exact List.mem_cons_of_mem _ (yl_ks h)
theorem yl_tos {lv : xm_L} {st : List Value} {C : ym_C} {q : ym_S × Nat} : ∀ {l : List (ym_S × Nat)}, q ∈ l → (some q.2, (lv, st, q.1, C)) ∈ ym_tos l lv st C
  | p :: l, h => by
    show _ ∈ _ :: ym_tos l lv st C
    rcases List.mem_cons.mp h with rfl | h
    · exact List.mem_cons_self
    · exact List.mem_cons_of_mem _ (yl_tos h)
theorem yl_mul {f : Int → Int} {q : ym_S × Int} : ∀ {l : List (ym_S × Int)}, q ∈ l → (q.1, f q.2) ∈ (List.rec (motive := fun _ => List (ym_S × Int)) [] (fun q _ ih => ym_fi (f q.2) (fun z => (q.1, z) :: ih)) l : List (ym_S × Int))
  | p :: l, h => by
    show _ ∈ ym_fi (f p.2) (fun z => (p.1, z) :: (List.rec (motive := fun _ => List (ym_S × Int)) [] (fun q _ ih => ym_fi (f q.2) (fun z => (q.1, z) :: ih)) l : List (ym_S × Int)))
    rw [yl_fi]
    rcases List.mem_cons.mp h with rfl | h
    · exact List.mem_cons_self
    · exact List.mem_cons_of_mem _ (yl_mul h)
theorem ys_nvi {y : Nat → Int} {v : Value} {x : Int} (h1 : ∀ k, v = .retAddr k → y k = x) (h2 : ∀ u, v = .double u → False) : ys_nv y v x := ⟨h1, fun u hu => absurd hu (fun q => h2 u q)⟩
theorem ys_nvl {y : Nat → Int} {v : Value} {x : Int} (h1 : ∀ k, v = .retAddr k → False) (h2 : ∀ u, v = .double u → y u.toNat = x) : ys_nv y v x := ⟨fun u hu => absurd hu (fun q => h1 u q), h2⟩
theorem ys_int2 {i : Instr} {y : Nat → Int} {E : ym_S} {u w : Value} {l : List (ym_S × Value)} (h : ym_int2 i E u w = some l) (hs : ys_sat y E) : ∃ x z c, ys_cv y u = .int x ∧ ys_cv y w = .int z ∧ xm_iop i x z = some c ∧ ∃ q ∈ l, ys_fr y E q.1 q.2 (.int c) := by
  unfold ym_int2 at h
  cases hu : ym_ri E u with
  | none => rw [hu] at h; cases h
  | some a =>
    cases hw : ym_ri E w with
    | none => rw [hu, hw] at h; cases h
    | some b =>
      rw [hu, hw] at h
      dsimp only at h
      obtain ⟨x, x1, x2, x3, x4, x5, x6⟩ := ys_ri hu hs
      obtain ⟨z, z1, z2, z3, z4, z5, z6⟩ := ys_ri hw hs
      cases hd : (decide (a.1 = a.2) && decide (b.1 = b.2)) with
      | true =>
        rw [hd, cond_true] at h
        rw [Bool.and_eq_true, decide_eq_true_eq, decide_eq_true_eq] at hd
        have e1 : Int32.ofInt a.1 = x := by rw [show a.1 = x.toInt by omega, Int32.ofInt_toInt]
        have e2 : Int32.ofInt b.1 = z := by rw [show b.1 = z.toInt by omega, Int32.ofInt_toInt]
        rw [e1, e2] at h
        cases hc : xm_iop i x z with
        | none => rw [hc] at h; cases h
        | some c =>
          rw [hc] at h
          cases h
          refine ⟨x, z, c, x1, z1, hc, _, List.mem_cons_self, ?_⟩
          rw [yl_fi, Int32.ofInt_toInt]
          exact ys_fr_refl hs trivial rfl
      | false =>
        rw [hd, cond_false] at h
        have gen : ∀ r, ym_iop i a b = some r → ∃ c, xm_iop i x z = some c ∧ ys_fr y E (ym_mi E r).1 (ym_mi E r).2 (.int c) := by
          intro r hr
          obtain ⟨c, hc⟩ := ys_iopd (x := x) hr z2
          exact ⟨c, hc, ys_mi hs c (fun h32 => ys_iop hr hc x2 x3 z2 z3 h32)⟩
        have fin : (match ym_iop i a b with
            | some r => some [ym_mi E r]
            | none => none) = some l → ∃ x z c, ys_cv y u = .int x ∧ ys_cv y w = .int z ∧ xm_iop i x z = some c ∧ ∃ q ∈ l, ys_fr y E q.1 q.2 (.int c) := by
          intro h
          cases hr : ym_iop i a b with
          | none => rw [hr] at h; cases h
          | some r =>
            rw [hr] at h
            cases h
            obtain ⟨c, c1, c2⟩ := gen r hr
            exact ⟨x, z, c, x1, z1, c1, _, List.mem_cons_self, c2⟩
        split at h
        · by_cases p1 : b.1 = b.2
          · rw [decide_eq_true p1, cond_true] at h
            cases h
            refine ⟨x, z, x + z, x1, z1, rfl, _, List.mem_cons_self, ?_⟩
            have e2 : Int32.ofInt b.1 = z := by rw [show b.1 = z.toInt by omega, Int32.ofInt_toInt]
            have k := ys_addc (c := b.1) hu hs x1
            rw [e2] at k
            exact k
          · rw [decide_eq_false p1, cond_false] at h
            by_cases p2 : a.1 = a.2
            · rw [decide_eq_true p2, cond_true] at h
              cases h
              refine ⟨x, z, x + z, x1, z1, rfl, _, List.mem_cons_self, ?_⟩
              have e2 : Int32.ofInt a.1 = x := by rw [show a.1 = x.toInt by omega, Int32.ofInt_toInt]
              have k := ys_addc (c := a.1) hw hs z1
              rw [e2, Int32.add_comm] at k
              exact k
            · rw [decide_eq_false p2, cond_false] at h
              cases h
              obtain ⟨c, c1, c2⟩ := gen _ rfl
              exact ⟨x, z, c, x1, z1, c1, _, List.mem_cons_self, c2⟩
        · by_cases p1 : b.1 = b.2
          · rw [decide_eq_true p1, cond_true] at h
            cases h
            refine ⟨x, z, x - z, x1, z1, rfl, _, List.mem_cons_self, ?_⟩
            have e2 : Int32.ofInt (-b.1) = -z := by
              rw [Int32.ofInt_neg, show b.1 = z.toInt by omega, Int32.ofInt_toInt]
            have k := ys_addc (c := -b.1) hu hs x1
            rw [e2, ← Int32.sub_eq_add_neg] at k
            exact k
          · rw [decide_eq_false p1, cond_false] at h
            cases h
            obtain ⟨c, c1, c2⟩ := gen _ rfl
            exact ⟨x, z, c, x1, z1, c1, _, List.mem_cons_self, c2⟩
        · exact fin h
section YG
variable {nL : Nat} {md : yM} {e : xm_E} {L : List (Option Nat × ym_St)} {y : Nat → Int} {l lv : xm_L} {st sc : List Value} {E : ym_S} {C : ym_C} {G : xm_H}
theorem ys_xr {y : Nat → Int} {n : Nat} : ys_ext n y y ∧ n ≤ n := ⟨fun _ _ => rfl, Nat.le_refl _⟩
theorem ys_xn {y : Nat → Int} {n m : Nat} (h : m = n) : ys_ext n y y ∧ n ≤ m := ⟨fun _ _ => rfl, Nat.le_of_eq h.symm⟩
theorem ys_go1 {y' : Nat → Int} {n : Nat} {s' : ym_St} {lv' : xm_L} {st' : List Value} (hR : ys_R y' s' lv' st' G) (hx : ys_ext n y y' ∧ n ≤ s'.2.2.1.1) (h : ∀ (call : xm_C) (full : List xm_E) (mc ms : Nat) (ret : Option FieldType) (Q : xm_Q) (ih : List xm_E → xm_K) (rest : List xm_E) (E : xm_R), xm_body call full nL mc ms ret Q ih e rest lv sc G E 0 0 = ih rest lv' st' G E 0 0) : ys_go nL md e [(none, s')] y n lv sc G :=
  ⟨none, s', y', lv', st', G, List.mem_cons_self, hR, ys_Fr.refl md G, hx, h⟩
theorem ys_gom {y' : Nat → Int} {n : Nat} {t : Option Nat} {s' : ym_St} {lv' : xm_L} {st' : List Value} (hm : (t, s') ∈ L) (hR : ys_R y' s' lv' st' G) (hx : ys_ext n y y' ∧ n ≤ s'.2.2.1.1) (h : ∀ (call : xm_C) (full : List xm_E) (mc ms : Nat) (ret : Option FieldType) (Q : xm_Q) (ih : List xm_E → xm_K) (rest : List xm_E) (E : xm_R), xm_body call full nL mc ms ret Q ih e rest lv sc G E 0 0 = ih (ys_tg t full rest) lv' st' G E 0 0) : ys_go nL md e L y n lv sc G :=
  ⟨t, s', y', lv', st', G, hm, hR, ys_Fr.refl md G, hx, h⟩
/-- a constant -/
theorem ys_const {v : Value} (h : (match ((l, st, E, C) : ym_St), v with
    | (lv, st, E, C), .int x => some [(none, (lv, .int x :: st, E, C))]
    | (lv, st, E, C), .long x => some [(none, (lv, .long x :: st, E, C))]
    | (lv, st, E, C), .null => some [(none, (lv, .null :: st, E, C))]
    | (lv, st, E, C), .ref j => some [(none, (lv, .ref E.1 :: st, ym_new E ((2, Int.ofNat (yr_of j), 0), E.1, 0), C))]
    | _, _ => none) = some L) (hR : ys_R y (l, st, E, C) lv sc G) (hb : ∀ (call : xm_C) (full : List xm_E) (mc ms : Nat) (ret : Option FieldType) (Q : xm_Q) (ih : List xm_E → xm_K) (rest : List xm_E) (E : xm_R), xm_body call full nL mc ms ret Q ih e rest lv sc G E 0 0 = ih rest lv (v :: sc) G E 0 0) : ys_go nL md e L y E.1 lv sc G := by
  cases v with
  | int x => cases h; exact ys_go1 (hR.push (v := .int x) trivial) ys_xr hb
  | long x => cases h; exact ys_go1 (hR.push (v := .long x) trivial) ys_xr hb
  | null => cases h; exact ys_go1 (hR.push (v := .null) trivial) ys_xr hb
  | ref j =>
    cases h
    have hf : ys_fr y E (ym_new E ((2, Int.ofNat (yr_of j), 0), E.1, 0)) (.ref E.1) (.ref j) := by
      obtain ⟨s1, s2⟩ := ys_new (T := (2, Int.ofNat (yr_of j), 0)) (rt := E.1) (off := 0) (z := (j : Int)) hR.1 ⟨(fun q => (by dsimp only at q; omega)), (fun _ => ⟨by omega, rfl⟩), (fun _ => Or.inr rfl)⟩ (Or.inl ⟨rfl, rfl⟩)
      refine ⟨_, s1, s2, Nat.le_succ _, Nat.lt_succ_self _, ?_⟩
      show (if (if E.1 = E.1 then (j : Int) else y E.1) < 0 then Value.null else .ref (if E.1 = E.1 then (j : Int) else y E.1).toNat) = .ref j
      rw [if_pos rfl, if_neg (by omega)]
      rfl
    obtain ⟨y', a1, ax, -⟩ := hR.fresh hf
    exact ys_go1 a1 ax hb
  | _ => cases h
theorem ys_fi2 {i : Instr} {x z c : Int32} {R : xm_R} {k : List Value → xm_R → Bool} (h : xm_iop i x z = some c) : xm_int2 i (.int z :: .int x :: sc) R k = k (.int c :: sc) R := by
  show (match xm_iop i x z with
    | some z => xm_frc z (fun z => k (.int z :: sc) R)
    | none => false) = _
  rw [h]
  exact xl_frc c _
theorem ys_i2 {i : Instr} (h : ym_i2 i (l, st, E, C) = some L) (hR : ys_R y (l, st, E, C) lv sc G) (hb : ∀ (call : xm_C) (full : List xm_E) (mc ms : Nat) (ret : Option FieldType) (Q : xm_Q) (ih : List xm_E → xm_K) (rest : List xm_E) (R : xm_R) (x z : Int32) (s : List Value), sc = .int z :: .int x :: s → xm_body call full nL mc ms ret Q ih e rest lv sc G R 0 0 = xm_int2 i sc R (fun st R => ih rest lv st G R 0 0)) : ys_go nL md e L y E.1 lv sc G := by
  unfold ym_i2 at h
  split at h
  · rename_i lv' w u st' E' C' es
    cases es
    cases hi : ym_int2 i E u w with
    | none => rw [hi] at h; cases h
    | some l2 =>
      rw [hi] at h
      cases h
      obtain ⟨x, z, c, e1, e2, e3, q, e4, e5⟩ := ys_int2 hi hR.1
      obtain ⟨s1, f1, -, hR1⟩ := hR.pop
      obtain ⟨s2, f2, -, hR2⟩ := hR1.pop
      subst f1 f2
      obtain ⟨y', a1, ax, -⟩ := hR2.fresh e5
      refine ys_gom (yl_vs e4) a1 ax (fun call full mc ms ret Q ih rest R => ?_)
      rw [hb call full mc ms ret Q ih rest R x z s2 (by rw [e1, e2]), e1, e2]
      exact ys_fi2 e3
  · cases h
theorem ys_l2 {i : Instr} (h : ym_l2 i (l, st, E, C) = some L) (hR : ys_R y (l, st, E, C) lv sc G) (hb : ∀ (call : xm_C) (full : List xm_E) (mc ms : Nat) (ret : Option FieldType) (Q : xm_Q) (ih : List xm_E → xm_K) (rest : List xm_E) (R : xm_R), xm_body call full nL mc ms ret Q ih e rest lv sc G R 0 0 = xm_long2 i sc (fun st => ih rest lv st G R 0 0)) : ys_go nL md e L y E.1 lv sc G := by
  unfold ym_l2 at h
  split at h
  · rename_i lv' w u st' E' C' es
    cases es
    cases hu : ym_rl E u with
    | none => rw [hu] at h; cases h
    | some a =>
      cases hw : ym_rl E w with
      | none => rw [hu, hw] at h; cases h
      | some b =>
        rw [hu, hw] at h
        dsimp only at h
        cases hi : ym_lop i a b with
        | none => rw [hi] at h; cases h
        | some r =>
          rw [hi] at h
          dsimp only at h
          cases hm : ym_ml E r with
          | none => rw [hm] at h; cases h
          | some q =>
            obtain ⟨E1, v⟩ := q
            rw [hm] at h
            cases h
            obtain ⟨x, x1, x2, x3, x4, x5⟩ := ys_rl hu hR.1
            obtain ⟨z, z1, z2, z3, z4, z5⟩ := ys_rl hw hR.1
            obtain ⟨c, c1, c2⟩ := ys_lop hi x2 x3 z2 z3
            have hf := ys_ml hm hR.1 c c2
            obtain ⟨s1, f1, -, hR1⟩ := hR.pop
            obtain ⟨s2, f2, -, hR2⟩ := hR1.pop
            subst f1 f2
            obtain ⟨y', a1, ax, -⟩ := hR2.fresh hf
            refine ys_go1 a1 ax (fun call full mc ms ret Q ih rest R => ?_)
            rw [hb, x1, z1]
            show (match xm_lop i x z with
              | some z => ih rest lv (.long z :: s2) G R 0 0
              | none => false) = _
            rw [c1]
  · cases h
theorem ys_mul (h : ym_mul (l, st, E, C) = some L) (hR : ys_R y (l, st, E, C) lv sc G) (hb : ∀ (call : xm_C) (full : List xm_E) (mc ms : Nat) (ret : Option FieldType) (Q : xm_Q) (ih : List xm_E → xm_K) (rest : List xm_E) (R : xm_R), xm_body call full nL mc ms ret Q ih e rest lv sc G R 0 0 = xm_int2 .imul sc R (fun st R => ih rest lv st G R 0 0)) : ys_go nL md e L y E.1 lv sc G := by
  unfold ym_mul at h
  split at h
  · rename_i lv' w u st' E' C' es
    cases es
    cases hu : ym_ri E u with
    | none => rw [hu] at h; cases h
    | some a =>
      cases hw : ym_ri E w with
      | none => rw [hu, hw] at h; cases h
      | some b =>
        rw [hu, hw] at h
        dsimp only at h
        obtain ⟨x, x1, x2, x3, x4, x5, x6⟩ := ys_ri hu hR.1
        obtain ⟨z, z1, z2, z3, z4, z5, z6⟩ := ys_ri hw hR.1
        cases hd : (decide (b.1 = b.2) && (decide (a.1 < a.2) && decide (a.2 - a.1 < 32))) with
        | true =>
          rw [hd, cond_true] at h
          cases h
          rw [Bool.and_eq_true, Bool.and_eq_true, decide_eq_true_eq, decide_eq_true_eq, decide_eq_true_eq] at hd
          obtain ⟨q, q1, q2, q3, q4⟩ := ys_each (v := u) (x := x.toInt) (lo := a.1) (n := (a.2 - a.1 + 1).toNat) hR.1 (ys_nvi x5 x6) x2 (by omega)
          have e2 : Int32.ofInt b.1 = z := by rw [show b.1 = z.toInt by omega, Int32.ofInt_toInt]
          have m := yl_mul (f := fun q => (Int32.ofInt q * Int32.ofInt b.1).toInt) q1
          obtain ⟨s1, f1, -, hR1⟩ := hR.pop
          obtain ⟨s2, f2, -, hR2⟩ := hR1.pop
          subst f1 f2
          refine ys_gom (yl_ks m) ((hR2.nar q2 q3).push (v := .int _) trivial) (ys_xn q3) (fun call full mc ms ret Q ih rest R => ?_)
          rw [hb, x1, z1, ys_fi2 (c := x * z) rfl]
          show _ = ih rest lv (.int (Int32.ofInt ((Int32.ofInt q.2 * Int32.ofInt b.1).toInt)) :: s2) G R 0 0
          rw [Int32.ofInt_toInt, e2, q4, Int32.ofInt_toInt]
        | false =>
          rw [hd, cond_false] at h
          cases hd2 : (decide (a.1 = a.2) && (decide (b.1 < b.2) && decide (b.2 - b.1 < 32))) with
          | true =>
            rw [hd2, cond_true] at h
            cases h
            rw [Bool.and_eq_true, Bool.and_eq_true, decide_eq_true_eq, decide_eq_true_eq, decide_eq_true_eq] at hd2
            obtain ⟨q, q1, q2, q3, q4⟩ := ys_each (v := w) (x := z.toInt) (lo := b.1) (n := (b.2 - b.1 + 1).toNat) hR.1 (ys_nvi z5 z6) z2 (by omega)
            have e2 : Int32.ofInt a.1 = x := by rw [show a.1 = x.toInt by omega, Int32.ofInt_toInt]
            have m := yl_mul (f := fun q => (Int32.ofInt a.1 * Int32.ofInt q).toInt) q1
            obtain ⟨s1, f1, -, hR1⟩ := hR.pop
            obtain ⟨s2, f2, -, hR2⟩ := hR1.pop
            subst f1 f2
            refine ys_gom (yl_ks m) ((hR2.nar q2 q3).push (v := .int _) trivial) (ys_xn q3) (fun call full mc ms ret Q ih rest R => ?_)
            rw [hb, x1, z1, ys_fi2 (c := x * z) rfl]
            show _ = ih rest lv (.int (Int32.ofInt ((Int32.ofInt a.1 * Int32.ofInt q.2).toInt)) :: s2) G R 0 0
            rw [Int32.ofInt_toInt, e2, q4, Int32.ofInt_toInt]
          | false =>
            rw [hd2, cond_false] at h
            exact ys_i2 h hR (fun call full mc ms ret Q ih rest R _ _ _ _ => hb call full mc ms ret Q ih rest R)
  · cases h
/-- an array is read -/
theorem ys_ald {ok : Nat → Bool} (h : ym_ald ok (l, st, E, C) = some L) (hR : ys_R y (l, st, E, C) lv sc G) (hb : ∀ (call : xm_C) (full : List xm_E) (mc ms : Nat) (ret : Option FieldType) (Q : xm_Q) (ih : List xm_E → xm_K) (rest : List xm_E) (R : xm_R) (x : Int32) (j t : Nat) (vs s : List Value) (w : Value), sc = .int x :: .ref j :: s → xm_hget G j = some (t, vs) → yr_row (yr_of j) ≠ none → (∀ q, yr_row (yr_of j) = some q → q.1 = t) → ok t = true → 0 ≤ x.toInt → vs[x.toInt.toNat]? = some w → xm_body call full nL mc ms ret Q ih e rest lv sc G R 0 0 = ih rest lv (w :: s) G R 0 0) : ys_go nL md e L y E.1 lv sc G := by
  unfold ym_ald at h
  split at h
  · rename_i lv' ix k st' E' C' es
    cases es
    cases hr : ym_ref E (.ref k) with
    | none => rw [hr] at h; cases h
    | some r =>
      cases hx : ym_ri E ix with
      | none => rw [hr, hx] at h; cases h
      | some a =>
        rw [hr, hx] at h
        dsimp only at h
        cases hq : yr_row r with
        | none => rw [hq] at h; cases h
        | some q =>
          rw [hq] at h
          dsimp only at h
          cases hd : (ok q.1 && (decide (0 ≤ a.1) && decide (a.2 < Int.ofNat q.2.1))) with
          | false => rw [hd] at h; cases h
          | true =>
            rw [hd, cond_true] at h
            rw [Bool.and_eq_true, Bool.and_eq_true, decide_eq_true_eq, decide_eq_true_eq] at hd
            obtain ⟨hok, ha0, ha1⟩ := hd
            obtain ⟨k', j, m1, m2, m3, m4, m5⟩ := ys_ref hr hR.1
            cases m1
            obtain ⟨x, x1, x2, x3, x4, x5, x6⟩ := ys_ri hx hR.1
            obtain ⟨vs, g1, g2, g3⟩ := hR.2.2.2.2.at m5 hq
            have hlt : x.toInt.toNat < vs.length := by
              rw [g2]
              have : Int.ofNat q.2.1 = (q.2.1 : Int) := rfl
              omega
            obtain ⟨w, hw⟩ : ∃ w, vs[x.toInt.toNat]? = some w := ⟨_, List.getElem?_eq_getElem hlt⟩
            obtain ⟨T, t1, t2⟩ := g3 _ _ hw
            obtain ⟨s1, f1, -, hR1⟩ := hR.pop
            obtain ⟨s2, f2, -, hR2⟩ := hR1.pop
            subst f1 f2
            have body := fun call full mc ms ret Q ih rest R => hb call full mc ms ret Q ih rest R x j q.1 vs s2 w (by rw [x1, m4]) g1 (by rw [m5, hq]; exact Option.some_ne_none q) (fun q' hq' => by rw [m5, hq] at hq'; cases hq'; rfl) hok (by omega) hw
            by_cases e1 : a.1 = a.2
            · rw [decide_eq_true e1, cond_true] at h
              have ei : a.1.toNat = x.toInt.toNat := by omega
              rw [ei] at h
              cases hrd : ym_rd E C k q x.toInt.toNat with
              | none => rw [hrd] at h; cases h
              | some p =>
                obtain ⟨v, E1, C1⟩ := p
                rw [hrd] at h
                cases h
                obtain ⟨y', hR', ax, -⟩ := ys_rd hrd hR2 m2 m3 g1 hw (fun T' hT' => by rw [t1] at hT'; cases hT'; exact t2)
                exact ys_go1 hR' ax body
            · rw [decide_eq_false e1, cond_false] at h
              cases hu : Nat.beq q.2.2.1 1 with
              | false => rw [hu] at h; cases h
              | true =>
                rw [hu, cond_true] at h
                have e2 := Nat.eq_of_beq_eq_true hu
                have ty0 : yr_ty q x.toInt.toNat = yr_ty q 0 := by
                  unfold yr_ty
                  rw [e2]
                  show xm_nth _ (_ % 1) = xm_nth _ (0 % 1)
                  rw [Nat.mod_one]
                rw [← ty0, t1] at h
                dsimp only at h
                cases hm : ym_mk E T with
                | none => rw [hm] at h; cases h
                | some p =>
                  obtain ⟨E1, v⟩ := p
                  rw [hm] at h
                  cases h
                  obtain ⟨y', hR', ax, -⟩ := hR2.fresh (ys_mk hm hR2.1 t2)
                  exact ys_go1 hR' ax body
  · cases h
theorem ys_ast {ok : Nat → Bool} (h : ym_ast md ok (l, st, E, C) = some L) (hR : ys_R y (l, st, E, C) lv sc G) (hok200 : ∀ t, ok t = true → t < 200) (hb : ∀ (call : xm_C) (full : List xm_E) (mc ms : Nat) (ret : Option FieldType) (Q : xm_Q) (ih : List xm_E → xm_K) (rest : List xm_E) (R : xm_R) (x : Int32) (j t : Nat) (T : yT) (vs s : List Value) (w : Value), sc = w :: .int x :: .ref j :: s → xm_hget G j = some (t, vs) → 7 ≤ j → ok t = true → ys_T T w → (∃ q, yr_row (yr_of j) = some q ∧ q.1 = t ∧ yr_ty q x.toInt.toNat = some T) → 0 ≤ x.toInt → x.toInt.toNat < vs.length → xm_body call full nL mc ms ret Q ih e rest lv sc G R 0 0 = ih rest lv s (xm_hput G j (t, xm_put w vs x.toInt.toNat)) R 0 0) : ys_go nL md e L y E.1 lv sc G := by
  unfold ym_ast at h
  split at h
  · rename_i lv' w ix k st' E' C' es
    cases es
    cases hr : ym_ref E (.ref k) with
    | none => rw [hr] at h; cases h
    | some r =>
      cases hx : ym_ri E ix with
      | none => rw [hr, hx] at h; cases h
      | some a =>
        rw [hr, hx] at h
        dsimp only at h
        cases hq : yr_row r with
        | none => rw [hq] at h; cases h
        | some q =>
          rw [hq] at h
          dsimp only at h
          cases hd : (ok q.1 && (decide (0 ≤ a.1) && decide (a.2 < Int.ofNat q.2.1))) with
          | false => rw [hd] at h; cases h
          | true =>
            rw [hd, cond_true] at h
            rw [Bool.and_eq_true, Bool.and_eq_true, decide_eq_true_eq, decide_eq_true_eq] at hd
            obtain ⟨hok, ha0, ha1⟩ := hd
            cases hwr : ym_wr md E C k r q a w true with
            | none => rw [hwr] at h; cases h
            | some C1 =>
              rw [hwr] at h
              cases h
              obtain ⟨k', j, m1, m2, m3, m4, m5⟩ := ys_ref hr hR.1
              cases m1
              obtain ⟨x, x1, x2, x3, x4, x5, x6⟩ := ys_ri hx hR.1
              obtain ⟨vs, g1, g2, g3⟩ := hR.2.2.2.2.at m5 hq
              have hlt : x.toInt.toNat < vs.length := by
                rw [g2]
                have : Int.ofNat q.2.1 = (q.2.1 : Int) := rfl
                omega
              obtain ⟨s0, f0, hw, hR1⟩ := hR.pop
              obtain ⟨s1, f1, -, hR2⟩ := hR1.pop
              obtain ⟨s2, f2, -, hR3⟩ := hR2.pop
              subst f0 f1 f2
              obtain ⟨p1, p2⟩ := ys_wr (i := x.toInt.toNat) hwr hR3 hw m2 m3 m5 hq g1 (by omega) (by omega) hlt (fun _ => trivial)
              obtain ⟨vs', k1, k2, k3⟩ := p1.2.2.2.2.at m5 hq
              rw [xl_hput, if_pos rfl] at k1
              cases k1
              obtain ⟨T, t1, t2⟩ := k3 x.toInt.toNat (ys_cv y w) (by rw [xl_put, List.getElem?_set, if_pos rfl, if_pos hlt])
              refine ⟨none, _, y, _, _, _, List.mem_cons_self, p1, p2, ys_xr, fun call full mc ms ret Q ih rest R => ?_⟩
              exact hb call full mc ms ret Q ih rest R x j q.1 T vs s2 (ys_cv y w) (by rw [x1, m4]) g1 (yr_lo (by rw [m5]; exact hq) (hok200 _ hok)) hok t2 ⟨q, by rw [m5]; exact hq, rfl, t1⟩ (by omega) hlt
  · cases h
end YG
