/-! every step -/
section YH
variable {nL : Nat} {md : yM} {L : List (Option Nat × ym_St)} {y : Nat → Int} {l lv : xm_L} {st sc : List Value} {E : ym_S} {C : ym_C} {G : xm_H} {pc a b : Nat} {ts : List Nat} {v : Value}
theorem ys_xald {ok : Nat → Bool} {x : Int32} {j t : Nat} {vs s : List Value} {w : Value} {R : xm_R} {k : List Value → xm_R → Bool} (hg : xm_hget G j = some (t, vs)) (hok : ok t = true) (h0 : 0 ≤ x.toInt) (hw : vs[x.toInt.toNat]? = some w) : xm_ald ok (.int x :: .ref j :: s) G R k = k (w :: s) R := by
  show xm_rd ok G j x (fun w => k (w :: s) R) = _
  unfold xm_rd
  rw [hg]
  dsimp only
  rw [hok, decide_eq_true h0, Bool.and_self, cond_true, xl_nth, hw]
theorem ys_xast {ok : Nat → Bool} {okv : Value → Option Value} {x : Int32} {j t : Nat} {vs s : List Value} {w w' : Value} {R : xm_R} {k : List Value → xm_H → xm_R → Bool} (hv : okv w = some w') (hg : xm_hget G j = some (t, vs)) (hok : ok t = true) (hj : 7 ≤ j) (h0 : 0 ≤ x.toInt) (hl : x.toInt.toNat < vs.length) : xm_ast ok okv (w :: .int x :: .ref j :: s) G R k = k s (xm_hput G j (t, xm_put w' vs x.toInt.toNat)) R := by
  show (match okv w with
    | some w => xm_conc R (.int x) (fun E x => xm_wr ok G j x w (fun G => k s G E))
    | none => false) = _
  rw [hv]
  show xm_wr ok G j x w' (fun G => k s G R) = _
  unfold xm_wr
  rw [hg]
  dsimp only
  have hb : Nat.ble 7 j = true := Nat.ble_eq_true_of_le hj
  rw [hok, decide_eq_true h0, hb, Bool.and_self, Bool.and_self, cond_true, xl_nth, List.getElem?_eq_getElem hl]
theorem ys_loc1 {i : Instr} {p : Value → Bool} {w : Value} (hg : xm_get l a = some w) (hp : p w = true) (hpc : p (ys_cv y w) = true) (hR : ys_R y (l, st, E, C) lv sc G) (hb : ∀ (call : xm_C) (full : List xm_E) (mc ms : Nat) (ret : Option FieldType) (Q : xm_Q) (ih : List xm_E → xm_K) (rest : List xm_E) (R : xm_R), xm_body call full nL mc ms ret Q ih (pc, i, a, b, ts, v) rest lv sc G R 0 0 = (match xm_get lv a with
    | some w => bif p w then ih rest lv (w :: sc) G R 0 0 else false
    | none => false)) : ys_go nL md (pc, i, a, b, ts, v) [(none, (l, w :: st, E, C))] y E.1 lv sc G := by
  obtain ⟨h1, h2⟩ := hR.loc hg
  refine ys_go1 (hR.push h1) ys_xr (fun call full mc ms ret Q ih rest R => ?_)
  rw [hb, h2]
  dsimp only
  rw [hpc]
  rfl
theorem ys_load {i : Instr} {p : Value → Bool} (h : (match ((l, st, E, C) : ym_St) with
    | (lv, st, E, C) => (match xm_get lv a with
      | some w => bif p w then some [((none : Option Nat), ((lv, w :: st, E, C) : ym_St))] else none
      | none => none)) = some L) (hpc : ∀ w, ys_in E.1 w → p w = true → p (ys_cv y w) = true) (hR : ys_R y (l, st, E, C) lv sc G) (hb : ∀ (call : xm_C) (full : List xm_E) (mc ms : Nat) (ret : Option FieldType) (Q : xm_Q) (ih : List xm_E → xm_K) (rest : List xm_E) (R : xm_R), xm_body call full nL mc ms ret Q ih (pc, i, a, b, ts, v) rest lv sc G R 0 0 = (match xm_get lv a with
    | some w => bif p w then ih rest lv (w :: sc) G R 0 0 else false
    | none => false)) : ys_go nL md (pc, i, a, b, ts, v) L y E.1 lv sc G := by
  dsimp only at h
  cases hg : xm_get l a with
  | none => rw [hg] at h; cases h
  | some w =>
    rw [hg] at h
    dsimp only at h
    cases hp : p w with
    | false => rw [hp] at h; cases h
    | true =>
      rw [hp] at h
      cases h
      exact ys_loc1 hg hp (hpc w (hR.loc hg).1 hp) hR hb
theorem ys_keepI {w : Value} (h : ys_in E.1 w) (h2 : xm_isI w = true) : xm_isI (ys_cv y w) = true := by rw [ys_kI h]; exact h2
theorem ys_keepL {w : Value} (_ : ys_in E.1 w) (h2 : xm_isL w = true) : xm_isL (ys_cv y w) = true := by rw [ys_kL]; exact h2
theorem ys_keepA {w : Value} (_ : ys_in E.1 w) (h2 : xm_isA w = true) : xm_isA (ys_cv y w) = true := ys_isA h2
theorem ys_keepC {w : Value} (h2 : xm_cat1 w = true) : xm_cat1 (ys_cv y w) = true := by unfold xm_cat1 at h2 ⊢; rw [ys_kL]; exact h2
theorem ys_store {i : Instr} {p : Value → Bool} {n : Nat} {st1 : xm_L → Nat → Value → xm_L} (h : (match ((l, st, E, C) : ym_St) with
    | (lv, w :: st, E, C) => bif p w && Nat.blt n nL then some [((none : Option Nat), ((st1 lv a w, st, E, C) : ym_St))] else none
    | _ => none) = some L) (hpc : ∀ w, ys_in E.1 w → p w = true → p (ys_cv y w) = true) (hset : ∀ {st sc : List Value} {w : Value}, ys_R y (l, st, E, C) lv sc G → ys_in E.1 w → ys_R y (st1 l a w, st, E, C) (st1 lv a (ys_cv y w)) sc G) (hR : ys_R y (l, st, E, C) lv sc G) (hb : ∀ (call : xm_C) (full : List xm_E) (mc ms : Nat) (ret : Option FieldType) (Q : xm_Q) (ih : List xm_E → xm_K) (rest : List xm_E) (R : xm_R), xm_body call full nL mc ms ret Q ih (pc, i, a, b, ts, v) rest lv sc G R 0 0 = (match (generalizing := false) sc with
    | w :: st => bif p w && Nat.blt n nL then ih rest (st1 lv a w) st G R 0 0 else false
    | _ => false)) : ys_go nL md (pc, i, a, b, ts, v) L y E.1 lv sc G := by
  cases st with
  | nil => cases h
  | cons w st =>
    dsimp only at h
    cases hp : (p w && Nat.blt n nL) with
    | false => rw [hp] at h; cases h
    | true =>
      rw [hp] at h
      cases h
      rw [Bool.and_eq_true] at hp
      obtain ⟨s1, f1, h1, hR1⟩ := hR.pop
      subst f1
      refine ys_go1 (hset hR1 h1) ys_xr (fun call full mc ms ret Q ih rest R => ?_)
      rw [hb]
      dsimp only
      rw [hpc w h1 hp.1, hp.2]
      rfl
theorem ys_jn {c : Jvm.ClassFile.Cond} {x z : Int} {q : ym_S × Bool} {f g : Bool} (h : q.2 = xm_holds c (xm_sgn x z)) : (bif xm_holds c (xm_sgn x z) then f else g) = (bif q.2 then f else g) := by rw [h]
theorem ys_tgb {q : Bool} {a : Nat} {full rest : List xm_E} : ys_tg (bif q then some a else none) full rest = bif q then xm_drop a full else rest := by cases q <;> rfl
theorem ys_bif {α β : Type} {q : Bool} {f : α → β} {x z : α} : (bif q then f x else f z) = f (bif q then x else z) := by cases q <;> rfl
theorem ys_look {ps : List (Int × Int)} {w : Value} {x : Int} {r : Int × Int} (hs : ys_sat y E) (hx : ys_nv y w x) (r1 : r.1 ≤ x) (r2 : x ≤ r.2) {d : Nat} : ∀ {ts : List Nat}, ∃ q ∈ ym_lk E w r d ps ts, ys_sat y q.1 ∧ q.1.1 = E.1 ∧ q.2 = xm_look d ps ts x := by
  induction ps with
  | nil => intro ts; exact ⟨(E, d), List.mem_cons_self, hs, rfl, rfl⟩
  | cons p ps ih =>
    intro ts
    cases ts with
    | nil => exact ⟨(E, d), List.mem_cons_self, hs, rfl, rfl⟩
    | cons t ts =>
      show ∃ q ∈ ym_if1 (decide (r.1 ≤ p.1) && decide (p.1 ≤ r.2)) (ym_nar E w (p.1, p.1), t) (ym_lk E w r d ps ts), ys_sat y q.1 ∧ q.1.1 = E.1 ∧ q.2 = (bif decide (p.1 = x) then t else xm_look d ps ts x)
      by_cases e : p.1 = x
      · rw [decide_eq_true e]
        obtain ⟨s1, s2⟩ := ys_nar (r := (p.1, p.1)) hs hx (by dsimp only; omega) (by dsimp only; omega)
        exact ⟨_, yl_if1l (by rw [Bool.and_eq_true, decide_eq_true_eq, decide_eq_true_eq]; omega), s1, s2, rfl⟩
      · rw [decide_eq_false e]
        obtain ⟨q, q1, q2⟩ := ih (ts := ts)
        exact ⟨q, yl_if1r q1, q2⟩
theorem ys_shl {i : Instr} {f : Int64 → Int32 → Int64} (h : (match ((l, st, E, C) : ym_St) with
    | (lv, w :: u :: st, E, C) => (match ym_ri E w, ym_rl E u with
      | some _, some _ => (match ym_ml E ym_topl with
        | some (E, v) => some [((none : Option Nat), ((lv, v :: st, E, C) : ym_St))]
        | none => none)
      | _, _ => none)
    | _ => none) = some L) (hR : ys_R y (l, st, E, C) lv sc G) (hb : ∀ (call : xm_C) (full : List xm_E) (mc ms : Nat) (ret : Option FieldType) (Q : xm_Q) (ih : List xm_E → xm_K) (rest : List xm_E) (R : xm_R), xm_body call full nL mc ms ret Q ih (pc, i, a, b, ts, v) rest lv sc G R 0 0 = (match (generalizing := false) sc with
    | .int y :: .long x :: st => ih rest lv (.long (f x y) :: st) G R 0 0
    | _ => false)) : ys_go nL md (pc, i, a, b, ts, v) L y E.1 lv sc G := by
  split at h
  · rename_i lv' w u st' E' C' es
    cases es
    cases hw : ym_ri E w with
    | none => rw [hw] at h; cases h
    | some r1 =>
      cases hu : ym_rl E u with
      | none => rw [hw, hu] at h; cases h
      | some r2 =>
        rw [hw, hu] at h
        dsimp only at h
        cases hm : ym_ml E ym_topl with
        | none => rw [hm] at h; cases h
        | some q =>
          obtain ⟨E1, v1⟩ := q
          rw [hm] at h
          cases h
          obtain ⟨x, x1, -⟩ := ys_ri hw hR.1
          obtain ⟨z, z1, -⟩ := ys_rl hu hR.1
          obtain ⟨s1, f1, -, hR1⟩ := hR.pop
          obtain ⟨s2, f2, -, hR2⟩ := hR1.pop
          subst f1 f2
          obtain ⟨y', a1, ax, -⟩ := hR2.fresh (ys_ml hm hR.1 (f z x) (fun _ => ys_b64 _))
          refine ys_go1 a1 ax (fun call full mc ms ret Q ih rest R => ?_)
          rw [hb, x1, z1]
  · cases h
theorem ys_un1 {i : Instr} {r : Int × Int → Int × Int} {f : Int32 → Int32} (hf : ∀ (q : Int × Int) (x : Int32), q.1 ≤ x.toInt → x.toInt ≤ q.2 → ym_i32 (r q) = true → (r q).1 ≤ (f x).toInt ∧ (f x).toInt ≤ (r q).2) (h : (match ((l, st, E, C) : ym_St) with
    | (lv, w :: st, E, C) => (match ym_ri E w with
      | some a => (match ym_mi E (r a) with
        | (E, v) => some [((none : Option Nat), ((lv, v :: st, E, C) : ym_St))])
      | none => none)
    | _ => none) = some L) (hR : ys_R y (l, st, E, C) lv sc G) (hb : ∀ (call : xm_C) (full : List xm_E) (mc ms : Nat) (ret : Option FieldType) (Q : xm_Q) (ih : List xm_E → xm_K) (rest : List xm_E) (R : xm_R) (x : Int32) (s : List Value), sc = .int x :: s → xm_body call full nL mc ms ret Q ih (pc, i, a, b, ts, v) rest lv sc G R 0 0 = ih rest lv (.int (f x) :: s) G R 0 0) : ys_go nL md (pc, i, a, b, ts, v) L y E.1 lv sc G := by
  cases st with
  | nil => cases h
  | cons w st =>
    dsimp only at h
    cases hw : ym_ri E w with
    | none => rw [hw] at h; cases h
    | some q =>
      rw [hw] at h
      dsimp only at h
      cases h
      obtain ⟨x, x1, x2, x3, -⟩ := ys_ri hw hR.1
      obtain ⟨s1, f1, -, hR1⟩ := hR.pop
      subst f1
      obtain ⟨y', a1, ax, -⟩ := hR1.fresh (ys_mi (r := r q) hR.1 (f x) (hf q x x2 x3))
      refine ys_go1 a1 ax (fun call full mc ms ret Q ih rest R => ?_)
      exact hb call full mc ms ret Q ih rest R x s1 (by rw [x1])
theorem ys_toi8 (x : Int32) : -128 ≤ x.toInt8.toInt32.toInt ∧ x.toInt8.toInt32.toInt ≤ 127 := by
  rw [Int8.toInt_toInt32]
  have h1 := Int8.le_toInt x.toInt8
  have h2 := Int8.toInt_lt x.toInt8
  omega
/-- bytes and booleans are written -/
theorem ys_bast (h : ym_bast md (l, st, E, C) = some L) (hR : ys_R y (l, st, E, C) lv sc G) : ys_go nL md (pc, .bastore, a, b, ts, v) L y E.1 lv sc G := by
  unfold ym_bast at h
  split at h
  · rename_i lv' w ix k st' E' C' es
    cases es
    cases hr : ym_ref E (.ref k) with
    | none => rw [hr] at h; cases h
    | some r =>
      cases hx : ym_ri E ix with
      | none => rw [hr, hx] at h; cases h
      | some ra =>
        cases hw : ym_ri E w with
        | none => rw [hr, hx, hw] at h; cases h
        | some rb =>
          rw [hr, hx, hw] at h
          dsimp only at h
          cases hq : yr_row r with
          | none => rw [hq] at h; cases h
          | some q =>
            rw [hq] at h
            dsimp only at h
            cases hd : (decide (0 ≤ ra.1) && decide (ra.2 < Int.ofNat q.2.1)) with
            | false => rw [hd] at h; cases h
            | true =>
              rw [hd, cond_true] at h
              rw [Bool.and_eq_true, decide_eq_true_eq, decide_eq_true_eq] at hd
              obtain ⟨ha0, ha1⟩ := hd
              obtain ⟨k', j, m1, m2, m3, m4, m5⟩ := ys_ref hr hR.1
              cases m1
              obtain ⟨x, x1, x2, x3, x4, x5, x6⟩ := ys_ri hx hR.1
              obtain ⟨z, z1, z2, z3, z4, z5, z6⟩ := ys_ri hw hR.1
              obtain ⟨vs, g1, g2, g3⟩ := hR.2.2.2.2.at m5 hq
              have hlt : x.toInt.toNat < vs.length := by
                rw [g2]
                have : Int.ofNat q.2.1 = (q.2.1 : Int) := rfl
                omega
              obtain ⟨s0, f0, hv, hR1⟩ := hR.pop
              obtain ⟨s1, f1, -, hR2⟩ := hR1.pop
              obtain ⟨s2, f2, -, hR3⟩ := hR2.pop
              subst f0 f1 f2
              cases hb1 : (Nat.beq q.1 103 && (decide (0 ≤ rb.1) && decide (rb.2 ≤ 1))) with
              | true =>
                rw [hb1, cond_true] at h
                rw [Bool.and_eq_true, Bool.and_eq_true, decide_eq_true_eq, decide_eq_true_eq] at hb1
                obtain ⟨hk, hb2, hb3⟩ := hb1
                have e := Nat.eq_of_beq_eq_true hk
                cases hwr : ym_wr md E C k r q ra w true with
                | none => rw [hwr] at h; cases h
                | some C1 =>
                  rw [hwr] at h
                  cases h
                  obtain ⟨p1, p2⟩ := ys_wr (i := x.toInt.toNat) hwr hR3 hv m2 m3 m5 hq g1 (by omega) (by omega) hlt (fun _ => trivial)
                  refine ⟨none, _, y, _, _, _, List.mem_cons_self, p1, p2, ys_xr, fun call full mc ms ret Q ih rest R => ?_⟩
                  rw [z1, x1, m4]
                  show (match xm_hget G j with
                    | some (t, _) => bif Nat.beq t 103 then xm_ast (fun t => Nat.beq t 103) xm_kZ (.int z :: .int x :: .ref j :: s2) G R (fun st G E => ih rest lv st G E 0 0) else xm_ast (fun t => Nat.beq t 101) xm_kB (.int z :: .int x :: .ref j :: s2) G R (fun st G E => ih rest lv st G E 0 0)
                    | none => false) = _
                  rw [g1]
                  dsimp only
                  rw [hk, cond_true]
                  have hz : xm_kZ (.int z) = some (.int z) := by
                    show (bif decide (z = 0) || decide (z = 1) then some (Value.int z) else none) = _
                    have : z.toInt = 0 ∨ z.toInt = 1 := by omega
                    rcases this with q | q
                    · have : z = 0 := Int32.toInt_inj.mp q
                      rw [this]; rfl
                    · have : z = 1 := Int32.toInt_inj.mp q
                      rw [this]; rfl
                  rw [ys_xast hz g1 hk (yr_lo (by rw [m5]; exact hq) (by omega)) (by omega) hlt]
                  rfl
              | false =>
                rw [hb1, cond_false] at h
                cases hb2 : (Nat.beq q.1 101 && (Nat.beq q.2.2.1 1 && ym_mod md r 100000)) with
                | false => rw [hb2] at h; cases h
                | true =>
                  rw [hb2, cond_true] at h
                  rw [Bool.and_eq_true, Bool.and_eq_true] at hb2
                  obtain ⟨hk, hu, hm⟩ := hb2
                  have e := Nat.eq_of_beq_eq_true hk
                  cases hT : yr_ty q 0 with
                  | none => rw [hT] at h; cases h
                  | some T =>
                    rw [hT] at h
                    dsimp only at h
                    cases hc : (Nat.beq T.1 0 && (decide (T.2.1 ≤ -128) && decide (127 ≤ T.2.2))) with
                    | false => rw [hc] at h; cases h
                    | true =>
                      rw [hc, cond_true] at h
                      cases h
                      rw [Bool.and_eq_true, Bool.and_eq_true, decide_eq_true_eq, decide_eq_true_eq] at hc
                      obtain ⟨t0, t1, t2⟩ := hc
                      have eT := Nat.eq_of_beq_eq_true t0
                      have b8 := ys_toi8 z
                      have hsub : ym_sub E (.int z.toInt8.toInt32) T = true := by
                        obtain ⟨tt, lo, hi⟩ := T
                        dsimp only at eT t1 t2
                        subst eT
                        show (decide (lo ≤ z.toInt8.toInt32.toInt) && decide (z.toInt8.toInt32.toInt ≤ hi)) = true
                        rw [Bool.and_eq_true, decide_eq_true_eq, decide_eq_true_eq]
                        omega
                      have hwr : ym_wr md E C k r q (0, Int.ofNat q.2.1) (.int z.toInt8.toInt32) false = some (ym_kill E C (fun r1 _ => Nat.beq r1 r)) := by
                        have hne : ¬ (0 : Int) = Int.ofNat q.2.1 := by
                          have : Int.ofNat q.2.1 = (q.2.1 : Int) := rfl
                          omega
                        unfold ym_wr
                        dsimp only
                        rw [decide_eq_false hne, cond_false, hu, hm, Bool.and_self, cond_true, hT]
                        dsimp only
                        rw [hsub]
                        rfl
                      obtain ⟨p1, p2⟩ := ys_wr (i := x.toInt.toNat) hwr hR3 trivial m2 m3 m5 hq g1 (by dsimp only; omega) (by dsimp only; have : Int.ofNat q.2.1 = (q.2.1 : Int) := rfl; omega) hlt (fun _ => trivial)
                      refine ⟨none, _, y, _, _, _, List.mem_cons_self, p1, p2, ys_xr, fun call full mc ms ret Q ih rest R => ?_⟩
                      rw [z1, x1, m4]
                      show (match xm_hget G j with
                        | some (t, _) => bif Nat.beq t 103 then xm_ast (fun t => Nat.beq t 103) xm_kZ (.int z :: .int x :: .ref j :: s2) G R (fun st G E => ih rest lv st G E 0 0) else xm_ast (fun t => Nat.beq t 101) xm_kB (.int z :: .int x :: .ref j :: s2) G R (fun st G E => ih rest lv st G E 0 0)
                        | none => false) = _
                      rw [g1]
                      dsimp only
                      have hn : Nat.beq q.1 103 = false := by rw [e]; rfl
                      rw [hn, cond_false, ys_xast (okv := xm_kB) (w := .int z) (w' := .int z.toInt8.toInt32) rfl g1 hk (yr_lo (by rw [m5]; exact hq) (by omega)) (by omega) hlt]
                      rfl
  · cases h
end YH
section YJ
variable {nL : Nat} {md : yM} {L : List (Option Nat × ym_St)} {y : Nat → Int} {lv : xm_L} {sc : List Value} {G : xm_H}
set_option maxHeartbeats 4000000 in
theorem ys_step {e : xm_E} {s : ym_St} (h : ym_step nL md e s = some L) (hR : ys_R y s lv sc G) : ys_go nL md e L y s.2.2.1.1 lv sc G := by
  obtain ⟨pc, i, a, b, ts, v⟩ := e
  obtain ⟨l, st, E, C⟩ := s
  cases i with
  | iconst n => exact ys_const h hR (fun call full mc ms ret Q ih rest R => rfl)
  | bipush n => exact ys_const h hR (fun call full mc ms ret Q ih rest R => rfl)
  | sipush n => exact ys_const h hR (fun call full mc ms ret Q ih rest R => rfl)
  | lconst n => exact ys_const h hR (fun call full mc ms ret Q ih rest R => rfl)
  | aconst_null => exact ys_const h hR (fun call full mc ms ret Q ih rest R => rfl)
  | ldc n => exact ys_const h hR (fun call full mc ms ret Q ih rest R => rfl)
  | ldc_w n => exact ys_const h hR (fun call full mc ms ret Q ih rest R => rfl)
  | ldc2_w n => exact ys_const h hR (fun call full mc ms ret Q ih rest R => rfl)
  | iload n => exact ys_load h (fun w => ys_keepI) hR (fun call full mc ms ret Q ih rest R => rfl)
  | iload_n n => exact ys_load h (fun w => ys_keepI) hR (fun call full mc ms ret Q ih rest R => rfl)
  | lload n => exact ys_load h (fun w => ys_keepL) hR (fun call full mc ms ret Q ih rest R => rfl)
  | lload_n n => exact ys_load h (fun w => ys_keepL) hR (fun call full mc ms ret Q ih rest R => rfl)
  | aload n => exact ys_load h (fun w => ys_keepA) hR (fun call full mc ms ret Q ih rest R => rfl)
  | aload_n n => exact ys_load h (fun w => ys_keepA) hR (fun call full mc ms ret Q ih rest R => rfl)
  | istore n => exact ys_store (st1 := xm_set1) h (fun w => ys_keepI) (fun h1 h2 => h1.set1 h2) hR (fun call full mc ms ret Q ih rest R => rfl)
  | istore_n n => exact ys_store (st1 := xm_set1) h (fun w => ys_keepI) (fun h1 h2 => h1.set1 h2) hR (fun call full mc ms ret Q ih rest R => rfl)
  | lstore n => exact ys_store (st1 := xm_set2) h (fun w => ys_keepL) (fun h1 h2 => h1.set2 h2) hR (fun call full mc ms ret Q ih rest R => rfl)
  | lstore_n n => exact ys_store (st1 := xm_set2) h (fun w => ys_keepL) (fun h1 h2 => h1.set2 h2) hR (fun call full mc ms ret Q ih rest R => rfl)
  | astore n => exact ys_store (st1 := xm_set1) h (fun w => ys_keepA) (fun h1 h2 => h1.set1 h2) hR (fun call full mc ms ret Q ih rest R => rfl)
  | astore_n n => exact ys_store (st1 := xm_set1) h (fun w => ys_keepA) (fun h1 h2 => h1.set1 h2) hR (fun call full mc ms ret Q ih rest R => rfl)
  | iinc n c =>
    have h : (match xm_get l a with
      | some w => (match ym_ri E w with
        | some r => bif Nat.blt a nL && (decide (-2147483648 ≤ c) && decide (c ≤ 2147483647)) then (match ym_addc E w r c with
          | (E, v) => some [((none : Option Nat), ((xm_set1 l a v, st, E, C) : ym_St))]) else none
        | none => none)
      | none => none) = some L := h
    cases hg : xm_get l a with
    | none => rw [hg] at h; cases h
    | some w =>
      rw [hg] at h
      dsimp only at h
      cases hr : ym_ri E w with
      | none => rw [hr] at h; cases h
      | some r =>
        rw [hr] at h
        dsimp only at h
        cases hc : (Nat.blt a nL && (decide (-2147483648 ≤ c) && decide (c ≤ 2147483647))) with
        | false => rw [hc] at h; cases h
        | true =>
          rw [hc, cond_true] at h
          cases h
          rw [Bool.and_eq_true] at hc
          obtain ⟨h1, h2⟩ := hR.loc hg
          obtain ⟨x, x1, -⟩ := ys_ri hr hR.1
          obtain ⟨y', k1, k2, k3, k4, k5⟩ := ys_addc (c := c) hr hR.1 x1
          have hR2 := (hR.mv k1 k2 k3).set1 (i := a) k4
          rw [k5] at hR2
          refine ys_go1 hR2 ⟨k2, k3⟩ (fun call full mc ms ret Q ih rest R => ?_)
          show (match xm_get lv a with
            | some w => bif Nat.blt a nL then xm_conc R w (fun E x => xm_frc (x + Int32.ofInt c) (fun z => ih rest (xm_set1 lv a (.int z)) sc G E 0 0)) else false
            | none => false) = _
          rw [h2, x1]
          dsimp only
          rw [hc.1, cond_true]
          exact xl_frc (x + Int32.ofInt c) (fun z => ih rest (xm_set1 lv a (.int z)) sc G R 0 0)
  | iadd => exact ys_i2 h hR (fun call full mc ms ret Q ih rest R _ _ _ _ => rfl)
  | isub => exact ys_i2 h hR (fun call full mc ms ret Q ih rest R _ _ _ _ => rfl)
  | imul =>
    have h : (bif Nat.beq a 1 then ym_i2 .imul (l, st, E, C) else ym_mul (l, st, E, C)) = some L := h
    cases ha : Nat.beq a 1 with
    | true =>
      rw [ha, cond_true] at h
      exact ys_i2 h hR (fun call full mc ms ret Q ih rest R _ _ _ _ => rfl)
    | false =>
      rw [ha, cond_false] at h
      exact ys_mul h hR (fun call full mc ms ret Q ih rest R => rfl)
  | iand => exact ys_i2 h hR (fun call full mc ms ret Q ih rest R x z s hs => by subst hs; rfl)
  | ior => exact ys_i2 h hR (fun call full mc ms ret Q ih rest R _ _ _ _ => rfl)
  | ixor => exact ys_i2 h hR (fun call full mc ms ret Q ih rest R _ _ _ _ => rfl)
  | ishl => exact ys_i2 h hR (fun call full mc ms ret Q ih rest R _ _ _ _ => rfl)
  | ishr => exact ys_i2 h hR (fun call full mc ms ret Q ih rest R x z s hs => by subst hs; rfl)
  | iushr => exact ys_i2 h hR (fun call full mc ms ret Q ih rest R _ _ _ _ => rfl)
  | idiv => exact ys_i2 h hR (fun call full mc ms ret Q ih rest R _ _ _ _ => rfl)
  | irem => exact ys_i2 h hR (fun call full mc ms ret Q ih rest R _ _ _ _ => rfl)
  | ineg =>
    refine ys_un1 (r := fun a => (-a.2, -a.1)) (f := fun x => -x) (fun q x h1 h2 h3 => ?_) h hR (fun call full mc ms ret Q ih rest R x s hs => ?_)
    · have k := ys_i32 h3
      dsimp only at k ⊢
      rw [Int32.toInt_neg, ys_bm (by omega) (by omega)]
      omega
    · subst hs
      exact xl_frc (-x) (fun z => ih rest lv (.int z :: s) G R 0 0)
  | i2b =>
    refine ys_un1 (r := fun _ => (-128, 127)) (f := fun x => x.toInt8.toInt32) (fun q x h1 h2 h3 => ys_toi8 x) h hR (fun call full mc ms ret Q ih rest R x s hs => ?_)
    subst hs
    rfl
  | i2l =>
    have h : (match st with
      | w :: st => (match ym_ri E w with
        | some r => (match ym_i2l E w r with
          | some (E, v) => some [((none : Option Nat), ((l, v :: st, E, C) : ym_St))]
          | none => none)
        | none => none)
      | _ => none) = some L := by cases st <;> exact h
    cases st with
    | nil => cases h
    | cons w st =>
      dsimp only at h
      cases hr : ym_ri E w with
      | none => rw [hr] at h; cases h
      | some r =>
        rw [hr] at h
        dsimp only at h
        cases hm : ym_i2l E w r with
        | none => rw [hm] at h; cases h
        | some q =>
          obtain ⟨E1, v1⟩ := q
          rw [hm] at h
          cases h
          obtain ⟨x, x1, x2, x3, -⟩ := ys_ri hr hR.1
          obtain ⟨s1, f1, -, hR1⟩ := hR.pop
          subst f1
          obtain ⟨y', a1, ax, -⟩ := hR1.fresh (ys_i2l hm hr hR.1 x1)
          refine ys_go1 a1 ax (fun call full mc ms ret Q ih rest R => ?_)
          rw [x1]
          rfl
  | l2i =>
    have h : (match st with
      | w :: st => (match ym_rl E w with
        | some r => (match ym_mi E r with
          | (E, v) => some [((none : Option Nat), ((l, v :: st, E, C) : ym_St))])
        | none => none)
      | _ => none) = some L := by cases st <;> exact h
    cases st with
    | nil => cases h
    | cons w st =>
      dsimp only at h
      cases hr : ym_rl E w with
      | none => rw [hr] at h; cases h
      | some r =>
        rw [hr] at h
        dsimp only at h
        cases h
        obtain ⟨x, x1, x2, x3, -⟩ := ys_rl hr hR.1
        obtain ⟨s1, f1, -, hR1⟩ := hR.pop
        subst f1
        obtain ⟨y', a1, ax, -⟩ := hR1.fresh (ys_mi (r := r) hR.1 x.toInt32 (fun h32 => by
          have k := ys_i32 h32
          rw [Int64.toInt_toInt32, ys_bm (by omega) (by omega)]
          exact ⟨x2, x3⟩))
        refine ys_go1 a1 ax (fun call full mc ms ret Q ih rest R => ?_)
        rw [x1]
        exact xl_frc x.toInt32 (fun z => ih rest lv (.int z :: s1) G R 0 0)
  | ladd => exact ys_l2 (i := .ladd) (l := l) (st := st) (E := E) (C := C) h hR (fun call full mc ms ret Q ih rest R => rfl)
  | lsub => exact ys_l2 (i := .lsub) (l := l) (st := st) (E := E) (C := C) h hR (fun call full mc ms ret Q ih rest R => rfl)
  | lmul => exact ys_l2 (i := .lmul) (l := l) (st := st) (E := E) (C := C) h hR (fun call full mc ms ret Q ih rest R => rfl)
  | land => exact ys_l2 (i := .land) (l := l) (st := st) (E := E) (C := C) h hR (fun call full mc ms ret Q ih rest R => rfl)
  | lor => exact ys_l2 (i := .lor) (l := l) (st := st) (E := E) (C := C) h hR (fun call full mc ms ret Q ih rest R => rfl)
  | ldiv => exact ys_l2 (i := .ldiv) (l := l) (st := st) (E := E) (C := C) h hR (fun call full mc ms ret Q ih rest R => rfl)
  | lrem => exact ys_l2 (i := .lrem) (l := l) (st := st) (E := E) (C := C) h hR (fun call full mc ms ret Q ih rest R => rfl)
  | lshl => exact ys_shl (f := fun x y => x <<< (y.toInt64 &&& 63)) h hR (fun call full mc ms ret Q ih rest R => rfl)
  | lshr => exact ys_shl (f := fun x y => x >>> (y.toInt64 &&& 63)) h hR (fun call full mc ms ret Q ih rest R => rfl)
  | lcmp =>
    have h : (match st with
      | w :: u :: st => (match ym_rl E u, ym_rl E w with
        | some r1, some r2 => some (ym_ks (ym_cmp E u w r1 r2) l st C)
        | _, _ => none)
      | _ => none) = some L := by rcases st with _ | ⟨w, _ | ⟨u, st⟩⟩ <;> exact h
    rcases st with _ | ⟨w, _ | ⟨u, st⟩⟩
    · cases h
    · cases h
    · dsimp only at h
      cases hu : ym_rl E u with
      | none => rw [hu] at h; cases h
      | some r1 =>
        cases hw : ym_rl E w with
        | none => rw [hu, hw] at h; cases h
        | some r2 =>
          rw [hu, hw] at h
          cases h
          obtain ⟨x, x1, x2, x3, x4, x5, x6⟩ := ys_rl hu hR.1
          obtain ⟨z, z1, z2, z3, z4, z5, z6⟩ := ys_rl hw hR.1
          obtain ⟨q, q1, q2, q3, q4⟩ := ys_cmp hR.1 (ys_nvl x5 x6) (ys_nvl z5 z6) x2 x3 z2 z3
          obtain ⟨s1, f1, -, hR1⟩ := hR.pop
          obtain ⟨s2, f2, -, hR2⟩ := hR1.pop
          subst f1 f2
          refine ys_gom (yl_ks q1) ((hR2.nar q2 q3).push (v := .int _) trivial) (ys_xn q3) (fun call full mc ms ret Q ih rest R => ?_)
          rw [x1, z1]
          show ih rest lv (.int (Int32.ofInt (xm_sgn x.toInt z.toInt)) :: s2) G R 0 0 = ih rest lv (.int (Int32.ofInt q.2) :: s2) G R 0 0
          rw [q4]
  | dup =>
    have h : (match st with
      | w :: st => bif xm_cat1 w then some [((none : Option Nat), ((l, w :: w :: st, E, C) : ym_St))] else none
      | _ => none) = some L := by cases st <;> exact h
    cases st with
    | nil => cases h
    | cons w st =>
      dsimp only at h
      cases hc : xm_cat1 w with
      | false => rw [hc] at h; cases h
      | true =>
        rw [hc] at h
        cases h
        obtain ⟨s1, f1, h1, hR1⟩ := hR.pop
        subst f1
        refine ys_go1 (hR.push h1) ys_xr (fun call full mc ms ret Q ih rest R => ?_)
        show (bif xm_cat1 (ys_cv y w) then ih rest lv (ys_cv y w :: ys_cv y w :: s1) G R 0 0 else false) = _
        rw [ys_keepC hc]
        rfl
  | pop =>
    have h : (match st with
      | w :: st => bif xm_cat1 w then some [((none : Option Nat), ((l, st, E, C) : ym_St))] else none
      | _ => none) = some L := by cases st <;> exact h
    cases st with
    | nil => cases h
    | cons w st =>
      dsimp only at h
      cases hc : xm_cat1 w with
      | false => rw [hc] at h; cases h
      | true =>
        rw [hc] at h
        cases h
        obtain ⟨s1, f1, h1, hR1⟩ := hR.pop
        subst f1
        refine ys_go1 hR1 ys_xr (fun call full mc ms ret Q ih rest R => ?_)
        show (bif xm_cat1 (ys_cv y w) then ih rest lv s1 G R 0 0 else false) = _
        rw [ys_keepC hc]
        rfl
  | dup2 =>
    have h : (match st with
      | w :: u :: st => bif xm_cat1 w && xm_cat1 u then some [((none : Option Nat), ((l, w :: u :: w :: u :: st, E, C) : ym_St))] else none
      | _ => none) = some L := by rcases st with _ | ⟨w, _ | ⟨u, st⟩⟩ <;> exact h
    rcases st with _ | ⟨w, _ | ⟨u, st⟩⟩
    · cases h
    · cases h
    · dsimp only at h
      cases hc : (xm_cat1 w && xm_cat1 u) with
      | false => rw [hc] at h; cases h
      | true =>
        rw [hc] at h
        cases h
        rw [Bool.and_eq_true] at hc
        obtain ⟨s1, f1, h1, hR1⟩ := hR.pop
        obtain ⟨s2, f2, h2, hR2⟩ := hR1.pop
        subst f1 f2
        refine ys_go1 ((hR.push h2).push h1) ys_xr (fun call full mc ms ret Q ih rest R => ?_)
        show (bif xm_cat1 (ys_cv y w) && xm_cat1 (ys_cv y u) then ih rest lv (ys_cv y w :: ys_cv y u :: ys_cv y w :: ys_cv y u :: s2) G R 0 0 else false) = _
        rw [ys_keepC hc.1, ys_keepC hc.2]
        rfl
  | goto off =>
    cases h
    exact ys_gom List.mem_cons_self hR ys_xr (fun call full mc ms ret Q ih rest R => rfl)
  | ifCond c off =>
    have h : (match st with
      | w :: st => (match ym_ri E w with
        | some r => some (ym_br (ym_cond c E w (.int 0) r (0, 0)) a l st C)
        | none => none)
      | _ => none) = some L := by cases st <;> exact h
    cases st with
    | nil => cases h
    | cons w st =>
      dsimp only at h
      cases hr : ym_ri E w with
      | none => rw [hr] at h; cases h
      | some r =>
        rw [hr] at h
        cases h
        obtain ⟨x, x1, x2, x3, x4, x5, x6⟩ := ys_ri hr hR.1
        obtain ⟨q, q1, q2, q3, q4⟩ := ys_cond (c := c) (w := .int 0) (z := 0) (b := (0, 0)) hR.1 (ys_nvi x5 x6) ⟨(fun k hk => (by cases hk)), (fun k hk => (by cases hk))⟩ x2 x3 (Int.le_refl _) (Int.le_refl _)
        obtain ⟨s1, f1, h1, hR1⟩ := hR.pop
        subst f1
        refine ys_gom (yl_br q1) (hR1.nar q2 q3) (ys_xn q3) (fun call full mc ms ret Q ih rest R => ?_)
        rw [x1, ys_tgb]
        show (bif xm_holds c (xm_sgn x.toInt 0) then ih (xm_drop a full) lv s1 G R 0 0 else ih rest lv s1 G R 0 0) = _
        rw [← q4]
        cases q.2 <;> rfl
  | if_icmp c off =>
    have h : (match st with
      | w :: u :: st => (match ym_ri E u, ym_ri E w with
        | some r1, some r2 => some (ym_br (bif decide (u = w) then [(E, xm_holds c 0)] else ym_cond c E u w r1 r2) a l st C)
        | _, _ => none)
      | _ => none) = some L := by rcases st with _ | ⟨w, _ | ⟨u, st⟩⟩ <;> exact h
    rcases st with _ | ⟨w, _ | ⟨u, st⟩⟩
    · cases h
    · cases h
    · dsimp only at h
      cases hu : ym_ri E u with
      | none => rw [hu] at h; cases h
      | some r1 =>
        cases hw : ym_ri E w with
        | none => rw [hu, hw] at h; cases h
        | some r2 =>
          rw [hu, hw] at h
          cases h
          obtain ⟨x, x1, x2, x3, x4, x5, x6⟩ := ys_ri hu hR.1
          obtain ⟨z, z1, z2, z3, z4, z5, z6⟩ := ys_ri hw hR.1
          obtain ⟨q, q1, q2, q3, q4⟩ : ∃ q ∈ (bif decide (u = w) then [(E, xm_holds c 0)] else ym_cond c E u w r1 r2), ys_sat y q.1 ∧ q.1.1 = E.1 ∧ q.2 = xm_holds c (xm_sgn x.toInt z.toInt) := by
            by_cases e : u = w
            · rw [decide_eq_true e, cond_true]
              subst e
              rw [x1] at z1
              cases z1
              refine ⟨_, List.mem_cons_self, hR.1, rfl, ?_⟩
              have : xm_sgn x.toInt x.toInt = 0 := by
                unfold xm_sgn
                rw [decide_eq_false (Int.lt_irrefl _), decide_eq_true rfl]
                rfl
              rw [this]
            · rw [decide_eq_false e, cond_false]
              exact ys_cond hR.1 (ys_nvi x5 x6) (ys_nvi z5 z6) x2 x3 z2 z3
          obtain ⟨s1, f1, -, hR1⟩ := hR.pop
          obtain ⟨s2, f2, -, hR2⟩ := hR1.pop
          subst f1 f2
          refine ys_gom (yl_br q1) (hR2.nar q2 q3) (ys_xn q3) (fun call full mc ms ret Q ih rest R => ?_)
          rw [x1, z1, ys_tgb]
          show (bif xm_holds c (xm_sgn x.toInt z.toInt) then ih (xm_drop a full) lv s2 G R 0 0 else ih rest lv s2 G R 0 0) = _
          rw [← q4]
          cases q.2 <;> rfl
  | ifnonnull off =>
    have h : (match st with
      | .ref k :: st => (match ym_get E k with
        | some ((t, r, z), rt, off) => bif Nat.beq t 2 then some [(some a, ((l, st, E, C) : ym_St))] else bif Nat.beq t 3 then some [(some a, (l, st, ym_put E k ((2, r, z), rt, off), C)), (none, (l, st, E, C))] else none
        | none => none)
      | _ => none) = some L := by
      rcases st with _ | ⟨w, st⟩
      · exact h
      · cases w <;> exact h
    rcases st with _ | ⟨w, st⟩
    · cases h
    · cases w with
      | ref k =>
        dsimp only at h
        cases hk : ym_get E k with
        | none => rw [hk] at h; cases h
        | some q =>
          obtain ⟨⟨t, r, z⟩, rt, off⟩ := q
          rw [hk] at h
          dsimp only at h
          obtain ⟨k1, k2, k3, k4⟩ := hR.1 k _ _ _ hk
          obtain ⟨s1, f1, -, hR1⟩ := hR.pop
          subst f1
          have hcv : ys_cv y (.ref k) = if y k < 0 then .null else .ref (y k).toNat := rfl
          cases h2 : Nat.beq t 2 with
          | true =>
            rw [h2] at h
            cases h
            have e := Nat.eq_of_beq_eq_true h2
            have h0 := (k3.2.1 e).1
            rw [if_neg (by omega)] at hcv
            refine ys_gom List.mem_cons_self hR1 ys_xr (fun call full mc ms ret Q ih rest R => ?_)
            rw [hcv]
            rfl
          | false =>
            rw [h2, cond_false] at h
            cases h3 : Nat.beq t 3 with
            | false => rw [h3] at h; cases h
            | true =>
              rw [h3, cond_true] at h
              cases h
              have e := Nat.eq_of_beq_eq_true h3
              by_cases hn : y k < 0
              · rw [if_pos hn] at hcv
                refine ys_gom (List.mem_cons_of_mem _ List.mem_cons_self) hR1 ys_xr (fun call full mc ms ret Q ih rest R => ?_)
                rw [hcv]
                rfl
              · rw [if_neg hn] at hcv
                have hs2 : ys_sat y (ym_put E k ((2, r, z), rt, off)) := by
                  refine ys_put hR.1 hk ⟨(fun q => (by dsimp only at q; omega)), (fun _ => ⟨by omega, ?_⟩), (fun q => (by dsimp only at q; omega))⟩
                  rcases k3.2.2 e with q | q
                  · exact absurd q hn
                  · exact q
                refine ys_gom List.mem_cons_self (hR1.nar hs2 rfl) ys_xr (fun call full mc ms ret Q ih rest R => ?_)
                rw [hcv]
                rfl
      | _ => cases h
  | tableswitch d lo hi tb =>
    have h : (match st with
      | w :: st => (match ym_ri E w with
        | some r => some (ym_tos (ym_tab E w r lo a ts) l st C)
        | none => none)
      | _ => none) = some L := by cases st <;> exact h
    cases st with
    | nil => cases h
    | cons w st =>
      dsimp only at h
      cases hr : ym_ri E w with
      | none => rw [hr] at h; cases h
      | some r =>
        rw [hr] at h
        cases h
        obtain ⟨x, x1, x2, x3, x4, x5, x6⟩ := ys_ri hr hR.1
        obtain ⟨s1, f1, h1, hR1⟩ := hR.pop
        subst f1
        have hlen : Int.ofNat (xm_len ts) = (ts.length : Int) := by rw [xl_len]; rfl
        obtain ⟨q, q1, q2, q3, q4⟩ : ∃ q ∈ ym_tab E w r lo a ts, ys_sat y q.1 ∧ q.1.1 = E.1 ∧ ∀ (R : xm_R) (k : xm_R → Nat → Bool), xm_table lo a ts (.int x) R k = k R q.2 := by
          unfold ym_tab
          rw [hlen]
          by_cases c1 : x.toInt < lo
          · obtain ⟨s1, s2⟩ := ys_nar (r := (r.1, min r.2 (lo - 1))) hR.1 (ys_nvi x5 x6) (by dsimp only; omega) (by dsimp only; omega)
            refine ⟨_, yl_if1l (decide_eq_true (by omega)), s1, s2, fun R k => ?_⟩
            show (bif decide (x.toInt < lo) || decide (lo + Int.ofNat (xm_len ts) ≤ x.toInt) then k R a else _) = _
            rw [decide_eq_true c1]
            rfl
          · by_cases c2 : lo + (ts.length : Int) ≤ x.toInt
            · obtain ⟨s1, s2⟩ := ys_nar (r := (max r.1 (lo + (ts.length : Int)), r.2)) hR.1 (ys_nvi x5 x6) (by dsimp only; omega) (by dsimp only; omega)
              refine ⟨_, yl_if1r (yl_if1l (decide_eq_true (by omega))), s1, s2, fun R k => ?_⟩
              show (bif decide (x.toInt < lo) || decide (lo + Int.ofNat (xm_len ts) ≤ x.toInt) then k R a else _) = _
              rw [hlen, decide_eq_true c2, Bool.or_true]
              rfl
            · obtain ⟨q, q1, q2, q3, q4⟩ := ys_tsw (ts := ts) (lo := lo) hR.1 (ys_nvi x5 x6) x2 x3 (by omega) (by omega)
              refine ⟨q, yl_if1r (yl_if1r q1), q2, q3, fun R k => ?_⟩
              show (bif decide (x.toInt < lo) || decide (lo + Int.ofNat (xm_len ts) ≤ x.toInt) then k R a else (match xm_nth ts (x.toInt - lo).toNat with
                | some t => k R t
                | none => false)) = _
              rw [hlen, decide_eq_false c1, decide_eq_false c2, xl_nth, q4]
              rfl
        refine ys_gom (yl_tos q1) (hR1.nar q2 q3) (ys_xn q3) (fun call full mc ms ret Q ih rest R => ?_)
        rw [x1]
        show xm_table lo a ts (.int x) R (fun E t => ih (xm_drop t full) lv s1 G E 0 0) = _
        rw [q4]
        rfl
  | lookupswitch d ps =>
    have h : (match st with
      | w :: st => (match ym_ri E w with
        | some r => some (ym_tos (ym_lk E w r a ps.toList ts) l st C)
        | none => none)
      | _ => none) = some L := by cases st <;> exact h
    cases st with
    | nil => cases h
    | cons w st =>
      dsimp only at h
      cases hr : ym_ri E w with
      | none => rw [hr] at h; cases h
      | some r =>
        rw [hr] at h
        cases h
        obtain ⟨x, x1, x2, x3, x4, x5, x6⟩ := ys_ri hr hR.1
        obtain ⟨q, q1, q2, q3, q4⟩ := ys_look (ps := ps.toList) (d := a) (ts := ts) hR.1 (ys_nvi x5 x6) x2 x3
        obtain ⟨s1, f1, h1, hR1⟩ := hR.pop
        subst f1
        refine ys_gom (yl_tos q1) (hR1.nar q2 q3) (ys_xn q3) (fun call full mc ms ret Q ih rest R => ?_)
        rw [x1]
        show ih (xm_drop (xm_look a ps.toList ts x.toInt) full) lv s1 G R 0 0 = _
        rw [← q4]
        rfl
  | iaload =>
    refine ys_ald (ok := fun t => Nat.beq t 100) (l := l) (st := st) (E := E) (C := C) h hR (fun call full mc ms ret Q ih rest R x j t vs s w hs hg hn ht hok h0 hw => ?_)
    subst hs
    have e : t = 100 := Nat.eq_of_beq_eq_true hok
    obtain ⟨q, hq⟩ := Option.ne_none_iff_exists'.mp hn
    have hj := yr_lo hq (by rw [ht q hq]; omega)
    have hz : Nat.beq j 0 = false := Bool.eq_false_iff.mpr (fun q => by have := Nat.eq_of_beq_eq_true q; omega)
    show (bif Nat.beq j 0 then _ else xm_ald (fun t => Nat.beq t 100) (.int x :: .ref j :: s) G R (fun st E => ih rest lv st G E 0 0)) = _
    rw [hz, cond_false, ys_xald hg hok h0 hw]
  | baload =>
    refine ys_ald (ok := fun t => Nat.beq t 101 || Nat.beq t 103) (l := l) (st := st) (E := E) (C := C) h hR (fun call full mc ms ret Q ih rest R x j t vs s w hs hg hn ht hok h0 hw => ?_)
    subst hs
    show (match xm_hget G j with
      | some (t, _) => bif Nat.beq t 103 then xm_ald (fun t => Nat.beq t 103) (.int x :: .ref j :: s) G R (fun st E => ih rest lv st G E 0 0) else xm_ald (fun t => Nat.beq t 101) (.int x :: .ref j :: s) G R (fun st E => ih rest lv st G E 0 0)
      | none => false) = _
    rw [hg]
    dsimp only
    cases h3 : Nat.beq t 103 with
    | true => rw [cond_true, ys_xald hg h3 h0 hw]
    | false =>
      rw [h3, Bool.or_false] at hok
      rw [cond_false, ys_xald hg hok h0 hw]
  | laload =>
    refine ys_ald (ok := fun t => Nat.beq t 102) (l := l) (st := st) (E := E) (C := C) h hR (fun call full mc ms ret Q ih rest R x j t vs s w hs hg hn ht hok h0 hw => ?_)
    subst hs
    exact ys_xald (ok := fun t => Nat.beq t 102) (k := fun st E => ih rest lv st G E 0 0) hg hok h0 hw
  | aaload =>
    refine ys_ald (ok := xm_isAr) (l := l) (st := st) (E := E) (C := C) h hR (fun call full mc ms ret Q ih rest R x j t vs s w hs hg hn ht hok h0 hw => ?_)
    subst hs
    exact ys_xald (ok := xm_isAr) (k := fun st E => ih rest lv st G E 0 0) hg hok h0 hw
  | iastore =>
    have h : (bif ym_top xm_isI (l, st, E, C) then ym_ast md (fun t => Nat.beq t 100) (l, st, E, C) else none) = some L := h
    cases ht : ym_top xm_isI (l, st, E, C) with
    | false => rw [ht] at h; cases h
    | true =>
      rw [ht, cond_true] at h
      rcases st with _ | ⟨w0, st⟩
      · cases ht
      have ht : xm_isI w0 = true := ht
      refine ys_ast h hR (fun t q => by have := Nat.eq_of_beq_eq_true q; omega) (fun call full mc ms ret Q ih rest R x j t T vs s w hs hg hj hok hT hq h0 hl => ?_)
      obtain ⟨s1, f1, h1, -⟩ := hR.pop
      have hw : xm_kI w = some w := by
        rw [hs] at f1
        cases f1
        show (bif xm_isI (ys_cv y w0) then some (ys_cv y w0) else none) = _
        rw [ys_kI h1, ht]
        rfl
      subst hs
      exact ys_xast (ok := fun t => Nat.beq t 100) (okv := xm_kI) (k := fun st G E => ih rest lv st G E 0 0) hw hg hok hj h0 hl
  | bastore => exact ys_bast h hR
  | lastore =>
    have h : (bif ym_top xm_isL (l, st, E, C) then ym_ast md (fun t => Nat.beq t 102) (l, st, E, C) else none) = some L := h
    cases ht : ym_top xm_isL (l, st, E, C) with
    | false => rw [ht] at h; cases h
    | true =>
      rw [ht, cond_true] at h
      rcases st with _ | ⟨w0, st⟩
      · cases ht
      have ht : xm_isL w0 = true := ht
      refine ys_ast h hR (fun t q => by have := Nat.eq_of_beq_eq_true q; omega) (fun call full mc ms ret Q ih rest R x j t T vs s w hs hg hj hok hT hq h0 hl => ?_)
      obtain ⟨s1, f1, h1, -⟩ := hR.pop
      have hw : xm_kL w = some w := by
        rw [hs] at f1
        cases f1
        obtain ⟨z, hz⟩ := ys_isL (y := y) ht
        rw [hz]
        rfl
      subst hs
      exact ys_xast (ok := fun t => Nat.beq t 102) (okv := xm_kL) (k := fun st G E => ih rest lv st G E 0 0) hw hg hok hj h0 hl
  | arraylength =>
    have h : (match st with
      | w :: st => (match ym_ref E w with
        | some r => (match yr_row r with
          | some q => bif Nat.ble 100 q.1 && (Nat.blt q.1 108 && Nat.blt q.2.1 65536) then some [((none : Option Nat), ((l, .int (Int32.ofNat q.2.1) :: st, E, C) : ym_St))] else none
          | none => none)
        | none => none)
      | _ => none) = some L := by cases st <;> exact h
    cases st with
    | nil => cases h
    | cons w st =>
      dsimp only at h
      cases hr : ym_ref E w with
      | none => rw [hr] at h; cases h
      | some r =>
        rw [hr] at h
        dsimp only at h
        cases hq : yr_row r with
        | none => rw [hq] at h; cases h
        | some q =>
          rw [hq] at h
          dsimp only at h
          cases hc : (Nat.ble 100 q.1 && (Nat.blt q.1 108 && Nat.blt q.2.1 65536)) with
          | false => rw [hc] at h; cases h
          | true =>
            rw [hc] at h
            cases h
            rw [Bool.and_eq_true, Bool.and_eq_true] at hc
            obtain ⟨k', j, m1, m2, m3, m4, m5⟩ := ys_ref hr hR.1
            obtain ⟨vs, g1, g2, g3⟩ := hR.2.2.2.2.at m5 hq
            obtain ⟨s1, f1, h1, hR1⟩ := hR.pop
            subst f1
            refine ys_go1 (hR1.push (v := .int _) trivial) ys_xr (fun call full mc ms ret Q ih rest R => ?_)
            rw [m4]
            show (match xm_hget G j with
              | some (t, vs) => bif Nat.beq t 300 then ih rest lv (.retAddr 6 :: s1) G R 0 0 else bif (Nat.ble 100 t && Nat.blt t 108) || Nat.beq t 301 then ih rest lv (.int (Int32.ofNat (xm_len vs)) :: s1) G R 0 0 else false
              | none => false) = _
            rw [g1]
            dsimp only
            have h8 : q.1 < 108 := Nat.le_of_ble_eq_true hc.2.1
            have hz : Nat.beq q.1 300 = false := Bool.eq_false_iff.mpr (fun q => by have := Nat.eq_of_beq_eq_true q; omega)
            rw [hz, cond_false, hc.1, hc.2.1, Bool.and_self, Bool.true_or, cond_true, xl_len, g2]
            rfl
  | getfield n =>
    have h : (match st with
      | .ref k :: st => (match ym_ref E (.ref k) with
        | some r => (match yr_row r with
          | some q => bif Nat.beq q.1 a && Nat.blt b q.2.1 then (match ym_rd E C k q b with
            | some (v, E, C) => some [((none : Option Nat), ((l, v :: st, E, C) : ym_St))]
            | none => none) else none
          | none => none)
        | none => none)
      | _ => none) = some L := by
      rcases st with _ | ⟨w, st⟩
      · exact h
      · cases w <;> exact h
    rcases st with _ | ⟨w, st⟩
    · cases h
    · cases w with
      | ref k =>
        dsimp only at h
        cases hr : ym_ref E (.ref k) with
        | none => rw [hr] at h; cases h
        | some r =>
          rw [hr] at h
          dsimp only at h
          cases hq : yr_row r with
          | none => rw [hq] at h; cases h
          | some q =>
            rw [hq] at h
            dsimp only at h
            cases hc : (Nat.beq q.1 a && Nat.blt b q.2.1) with
            | false => rw [hc] at h; cases h
            | true =>
              rw [hc, cond_true] at h
              rw [Bool.and_eq_true] at hc
              cases hrd : ym_rd E C k q b with
              | none => rw [hrd] at h; cases h
              | some p =>
                obtain ⟨v1, E1, C1⟩ := p
                rw [hrd] at h
                cases h
                obtain ⟨k', j, m1, m2, m3, m4, m5⟩ := ys_ref hr hR.1
                cases m1
                obtain ⟨vs, g1, g2, g3⟩ := hR.2.2.2.2.at m5 hq
                have hb : b < vs.length := by rw [g2]; exact Nat.le_of_ble_eq_true hc.2
                obtain ⟨w, hw⟩ : ∃ w, vs[b]? = some w := ⟨_, List.getElem?_eq_getElem hb⟩
                obtain ⟨T, t1, t2⟩ := g3 _ _ hw
                obtain ⟨s1, f1, h1, hR1⟩ := hR.pop
                subst f1
                obtain ⟨y', hR', ax, -⟩ := ys_rd hrd hR1 m2 m3 g1 hw (fun T' hT' => by rw [t1] at hT'; cases hT'; exact t2)
                refine ys_go1 hR' ax (fun call full mc ms ret Q ih rest R => ?_)
                rw [m4]
                show (match xm_hget G j with
                  | some (t, vs) => bif Nat.beq t a then (match xm_nth vs b with
                    | some w => ih rest lv (w :: s1) G R 0 0
                    | none => false) else false
                  | none => false) = _
                rw [g1]
                dsimp only
                rw [hc.1, cond_true, xl_nth, hw]
      | _ => cases h
  | putfield n =>
    have h : (match st with
      | w :: .ref k :: st => (match ym_ref E (.ref k) with
        | some r => (match yr_row r with
          | some q => bif Nat.beq q.1 a && (Nat.blt q.1 100 && (Nat.blt b q.2.1 && ym_fit E (xm_ty q.1 b) w)) then (match ym_wr md E C k r q (Int.ofNat b, Int.ofNat b) w true with
            | some C => some [((none : Option Nat), ((l, st, E, C) : ym_St))]
            | none => none) else none
          | none => none)
        | none => none)
      | _ => none) = some L := by
      rcases st with _ | ⟨w, _ | ⟨u, st⟩⟩
      · exact h
      · exact h
      · cases u <;> exact h
    rcases st with _ | ⟨w, _ | ⟨u, st⟩⟩
    · cases h
    · cases h
    · cases u with
      | ref k =>
        dsimp only at h
        cases hr : ym_ref E (.ref k) with
        | none => rw [hr] at h; cases h
        | some r =>
          rw [hr] at h
          dsimp only at h
          cases hq : yr_row r with
          | none => rw [hq] at h; cases h
          | some q =>
            rw [hq] at h
            dsimp only at h
            cases hc : (Nat.beq q.1 a && (Nat.blt q.1 100 && (Nat.blt b q.2.1 && ym_fit E (xm_ty q.1 b) w))) with
            | false => rw [hc] at h; cases h
            | true =>
              rw [hc, cond_true] at h
              rw [Bool.and_eq_true, Bool.and_eq_true, Bool.and_eq_true] at hc
              cases hwr : ym_wr md E C k r q (Int.ofNat b, Int.ofNat b) w true with
              | none => rw [hwr] at h; cases h
              | some C1 =>
                rw [hwr] at h
                cases h
                obtain ⟨k', j, m1, m2, m3, m4, m5⟩ := ys_ref hr hR.1
                cases m1
                obtain ⟨vs, g1, g2, g3⟩ := hR.2.2.2.2.at m5 hq
                have hb : b < vs.length := by rw [g2]; exact Nat.le_of_ble_eq_true hc.2.2.1
                obtain ⟨s0, f0, h0, hR1⟩ := hR.pop
                obtain ⟨s1, f1, h1, hR2⟩ := hR1.pop
                subst f0 f1
                have hfit := ys_fit hc.2.2.2 hR.1 h0
                have ea := Nat.eq_of_beq_eq_true hc.1
                obtain ⟨p1, p2⟩ := ys_wr (i := b) hwr hR2 h0 m2 m3 m5 hq g1 (Int.le_refl _) (Int.le_refl _) hb (fun _ => trivial)
                have hty : q.1 < 200 := by have : q.1 < 100 := Nat.le_of_ble_eq_true hc.2.1; omega
                refine ⟨none, _, y, _, _, _, List.mem_cons_self, p1, p2, ys_xr, fun call full mc ms ret Q ih rest R => ?_⟩
                rw [m4]
                show (match xm_hget G j with
                  | some (t, vs) => bif Nat.beq t a && (Nat.ble 7 j && (xm_fit (xm_ty t b) (ys_cv y w) && Nat.blt b (xm_len vs))) then ih rest lv s1 (xm_hput G j (t, xm_put (ys_cv y w) vs b)) R 0 0 else false
                  | none => false) = _
                rw [g1]
                dsimp only
                have h7 : Nat.ble 7 j = true := Nat.ble_eq_true_of_le (yr_lo (by rw [m5]; exact hq) hty)
                have hlb : Nat.blt b (xm_len vs) = true := by rw [xl_len]; exact Nat.ble_eq_true_of_le hb
                rw [hc.1, h7, hfit, hlb]
                rfl
      | _ => cases h
  | _ => cases h
end YJ
