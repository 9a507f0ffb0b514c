/-! contracts, and calls by them -/
def ys_args : List Value → List yT → Prop
  | [], [] => True
  | v :: vs, T :: Ts => ys_T T v ∧ ys_args vs Ts
  | _, _ => False
noncomputable def ys_walk (G : xm_H) : List Nat → Value → Option Value
  | [], v => some v
  | f :: p, .ref j => (match xm_hget G j with
    | some (_, vs) => (match vs[f]? with
      | some w => ys_walk G p w
      | none => none)
    | none => none)
  | _ :: _, _ => none
def ys_fact (G : xm_H) (v : Value) (p : List Nat) (T : yT) : Prop := ∃ w, ys_walk G p v = some w ∧ ys_T T w
def ys_facts (G : xm_H) (src : Nat → Option Value) (ps : List yP) : Prop := ∀ q ∈ ps, ∃ v, src q.1 = some v ∧ ys_fact G v q.2.1 q.2.2
def ys_fits (o : Option yT) (r : Option Value) : Prop := match o, r with
  | none, none => True
  | some T, some v => ys_T T v
  | _, _ => False
def ys_case (c : Option yT × List yP) (As : List Value) (r : Option Value) (G : xm_H) : Prop := ys_fits c.1 r ∧ ys_facts G (fun i => As[i]?) c.2
def yc_ok (Inv : xm_H → Prop) (I : yI) (call : xm_C) : Prop := ∀ (G : xm_H) (As : List Value) (Ec : xm_R) (Q : xm_Q), ys_HT G → Inv G → ys_args As I.2.1 → ys_facts G (fun i => As[i]?) I.2.2.1 → (∀ (r : Option Value) (G' : xm_H), ys_HT G' → Inv G' → ys_Fr I.2.2.2.2 G G' → (∃ c ∈ I.2.2.2.1, ys_case c As r G') → Q r G' Ec = true) → call I.1 As G Ec Q = true
theorem ys_Fr.mds {md md' : yM} {G G' : xm_H} (hm : ym_mds md md' = true) (h : ys_Fr md G G') : ys_Fr md' G G' := by
  intro j t vs hj
  obtain ⟨vs1, g1, g2, g3⟩ := h j t vs hj
  refine ⟨vs1, g1, g2, fun i v hv => ?_⟩
  rcases g3 i v hv with q | q
  · left
    replace hm := yl_all hm
    revert q
    generalize yr_of j = r
    clear h hj g1 g2 g3 hv
    induction md with
    | nil => intro q; cases q
    | cons p md ih =>
      intro q
      have q : ((Nat.beq p.1 r && (Nat.beq p.2 i || Nat.beq p.2 100000)) || ym_mod md r i) = true := q
      rw [Bool.or_eq_true] at q
      rcases q with q | q
      · rw [Bool.and_eq_true, Bool.or_eq_true] at q
        have h1 := hm p List.mem_cons_self
        have e1 := Nat.eq_of_beq_eq_true q.1
        rw [e1] at h1
        rcases q.2 with q2 | q2
        · have e2 := Nat.eq_of_beq_eq_true q2
          rw [e2] at h1
          exact h1
        · have e2 := Nat.eq_of_beq_eq_true q2
          rw [e2] at h1
          exact ys_modw h1
      · exact ih (fun a ha => hm a (List.mem_cons_of_mem _ ha)) q
  · exact Or.inr q
section YN
variable {y : Nat → Int} {l lv : xm_L} {st sc : List Value} {E : ym_S} {C : ym_C} {G G' : xm_H} {v w : Value}
theorem ys_walks : ∀ {p : List Nat} {v w : Value}, ym_walk C p v = some w → ys_ca y E C G → ys_in E.1 v → ys_walk G p (ys_cv y v) = some (ys_cv y w) ∧ ys_in E.1 w
  | [], v, w, h, hc, hv => by
    have h : some v = some w := h
    cases h
    exact ⟨rfl, hv⟩
  | f :: p, v, w, h, hc, hv => by
    cases v with
    | ref k =>
      have h : (match ym_find C k f with
        | some w => ym_walk C p w
        | none => none) = some w := h
      cases hf : ym_find C k f with
      | none => rw [hf] at h; cases h
      | some w1 =>
        rw [hf] at h
        obtain ⟨h1, h2, j, t, vs, h3, h4, h5⟩ := hc _ (yl_find hf)
        dsimp only at h1 h2 h3 h5
        obtain ⟨i1, i2⟩ := ys_walks (p := p) h hc h2
        have e : ys_cv y (.ref k) = .ref j := by
          show (if y k < 0 then Value.null else .ref (y k).toNat) = _
          rw [h3, if_neg (by omega)]
          rfl
        refine ⟨?_, i2⟩
        rw [e]
        show (match xm_hget G j with
          | some (_, vs) => (match vs[f]? with
            | some w => ys_walk G p w
            | none => none)
          | none => none) = _
        rw [h4]
        dsimp only
        rw [h5]
        exact i1
    | _ => cases h
theorem ys_factq {o : Option Value} {p : List Nat} {T : yT} (h : ym_fact E C o p T = true) (hs : ys_sat y E) (hc : ys_ca y E C G) (ho : ∀ v, o = some v → ys_in E.1 v) : ∃ v, o = some v ∧ ys_fact G (ys_cv y v) p T := by
  unfold ym_fact at h
  cases o with
  | none => cases h
  | some v =>
    dsimp only at h
    cases hw : ym_walk C p v with
    | none => rw [hw] at h; cases h
    | some w =>
      rw [hw] at h
      obtain ⟨h1, h2⟩ := ys_walks hw hc (ho v rfl)
      exact ⟨v, rfl, _, h1, (ys_sub h hs).1⟩
theorem ys_factsq {src srcc : Nat → Option Value} {ps : List yP} (h : ym_facts E C src ps = true) (hs : ys_sat y E) (hc : ys_ca y E C G) (ho : ∀ i v, src i = some v → ys_in E.1 v ∧ srcc i = some (ys_cv y v)) : ys_facts G srcc ps := by
  intro q hq
  obtain ⟨v, h1, h2⟩ := ys_factq (yl_all h q hq) hs hc (fun v hv => (ho _ v hv).1)
  exact ⟨_, (ho _ v h1).2, h2⟩
/-- what is known is laid down -/
theorem ys_lay {T : yT} : ∀ {p : List Nat} {y : Nat → Int} {E : ym_S} {C : ym_C} {v : Value} {q : ym_S × ym_C}, ym_lay T p E C v = some q → ys_R y (l, st, E, C) lv sc G → ys_in E.1 v → ys_fact G (ys_cv y v) p T → ∃ y', ys_R y' (l, st, q.1, q.2) lv sc G ∧ (ys_ext E.1 y y' ∧ E.1 ≤ q.1.1)
  | [], y, E, C, v, q, h, hR, hv, hf => by cases h
  | f :: t, y, E, C, v, q, h, hR, hv, hf => by
    cases v with
    | ref k =>
      obtain ⟨w, hw1, hw2⟩ := hf
      have hcv : ys_cv y (.ref k) = if y k < 0 then .null else .ref (y k).toNat := rfl
      have hy : ¬ y k < 0 := by
        intro hn
        rw [hcv, if_pos hn] at hw1
        cases hw1
      rw [hcv, if_neg hy] at hw1
      have hw1 : (match xm_hget G (y k).toNat with
        | some (_, vs) => (match vs[f]? with
          | some w => ys_walk G t w
          | none => none)
        | none => none) = some w := hw1
      cases hg : xm_hget G (y k).toNat with
      | none => rw [hg] at hw1; cases hw1
      | some o =>
        obtain ⟨t0, vs⟩ := o
        rw [hg] at hw1
        dsimp only at hw1
        cases hvf : vs[f]? with
        | none => rw [hvf] at hw1; cases hw1
        | some w1 =>
          rw [hvf] at hw1
          dsimp only at hw1
          cases t with
          | nil =>
            have hw1 : some w1 = some w := hw1
            cases hw1
            have h : (match ym_mk E T with
              | some (E, w) => some (E, (k, f, w) :: C)
              | none => none) = some q := h
            cases hm : ym_mk E T with
            | none => rw [hm] at h; cases h
            | some p =>
              obtain ⟨E1, v1⟩ := p
              rw [hm] at h
              cases h
              obtain ⟨y', a1, a2, a3, a4⟩ := hR.fresh (ys_mk hm hR.1 hw2)
              obtain ⟨sc', f1, -, hR2⟩ := a1.pop
              rw [a4] at f1
              cases f1
              refine ⟨y', ⟨hR2.1, hR2.2.1, hR2.2.2.1, ?_, hR2.2.2.2.2⟩, a2⟩
              intro q' hq'
              rcases List.mem_cons.mp hq' with rfl | hq'
              · exact ⟨Nat.lt_of_lt_of_le hv a2.2, a3, (y k).toNat, t0, vs, by rw [a2.1 k hv]; omega, hg, by dsimp only; rw [a4]; exact hvf⟩
              · exact hR2.2.2.2.1 q' hq'
          | cons f2 t2 =>
            have h : (match ym_ref E (.ref k) with
              | some r => (match yr_row r with
                | some q => bif Nat.blt f q.2.1 then (match ym_rd E C k q f with
                  | some (w, E, C) => ym_lay T (f2 :: t2) E C w
                  | none => none) else none
                | none => none)
              | none => none) = some q := h
            cases hr : ym_ref E (.ref k) with
            | none => rw [hr] at h; cases h
            | some r =>
              rw [hr] at h
              dsimp only at h
              cases hq : yr_row r with
              | none => rw [hq] at h; cases h
              | some q1 =>
                rw [hq] at h
                dsimp only at h
                cases hb : Nat.blt f q1.2.1 with
                | false => rw [hb] at h; cases h
                | true =>
                  rw [hb, cond_true] at h
                  cases hrd : ym_rd E C k q1 f with
                  | none => rw [hrd] at h; cases h
                  | some x =>
                    obtain ⟨w2, E1, C1⟩ := x
                    rw [hrd] at h
                    dsimp only at h
                    obtain ⟨k', j, m1, m2, m3, m4, m5⟩ := ys_ref hr hR.1
                    cases m1
                    have ej : (y k).toNat = j := by omega
                    rw [ej] at hg
                    obtain ⟨vs', g1, g2, g3⟩ := hR.2.2.2.2.at m5 hq
                    rw [hg] at g1
                    cases g1
                    obtain ⟨T', u1, u2⟩ := g3 _ _ hvf
                    obtain ⟨y', a1, a2, a3, a4⟩ := ys_rd hrd hR m2 m3 hg hvf (fun T2 hT2 => by rw [u1] at hT2; cases hT2; exact u2)
                    obtain ⟨sc', f1, -, hR2⟩ := a1.pop
                    dsimp only at a3 a4 a2 f1 hR2
                    rw [a4] at f1
                    cases f1
                    obtain ⟨y2, b1, b2⟩ := ys_lay (p := f2 :: t2) h hR2 a3 (by rw [a4]; exact ⟨w, hw1, hw2⟩)
                    exact ⟨y2, b1, fun k hk => by rw [b2.1 k (Nat.lt_of_lt_of_le hk a2.2), a2.1 k hk], Nat.le_trans a2.2 b2.2⟩
    | _ => cases h
theorem ys_lays {src : Nat → Option Value} : ∀ {ps : List yP} {y : Nat → Int} {E : ym_S} {C : ym_C} {q : ym_S × ym_C}, ym_lays src ps E C = some q → ys_R y (l, st, E, C) lv sc G → (∀ i v, src i = some v → ys_in E.1 v) → (∀ p ∈ ps, ∀ v, src p.1 = some v → ys_fact G (ys_cv y v) p.2.1 p.2.2) → ∃ y', ys_R y' (l, st, q.1, q.2) lv sc G ∧ (ys_ext E.1 y y' ∧ E.1 ≤ q.1.1)
  | [], y, E, C, q, h, hR, hs, hf => by
    have h : some (E, C) = some q := h
    cases h
    exact ⟨y, hR, ys_xr⟩
  | p :: ps, y, E, C, q, h, hR, hs, hf => by
    have h : (match src p.1 with
      | some v => (match ym_lay p.2.2 p.2.1 E C v with
        | some (E, C) => ym_lays src ps E C
        | none => none)
      | none => none) = some q := h
    cases hv : src p.1 with
    | none => rw [hv] at h; cases h
    | some v =>
      rw [hv] at h
      dsimp only at h
      cases hl : ym_lay p.2.2 p.2.1 E C v with
      | none => rw [hl] at h; cases h
      | some x =>
        obtain ⟨E1, C1⟩ := x
        rw [hl] at h
        dsimp only at h
        obtain ⟨y1, a1, a2⟩ := ys_lay hl hR (hs _ v hv) (hf p List.mem_cons_self v hv)
        obtain ⟨y2, b1, b2⟩ := ys_lays (ps := ps) h a1 (fun i v hv => ys_in_le a2.2 (hs i v hv)) (fun p' hp' v' hv' => by
          rw [ys_cv_ext a2.1 (hs _ v' hv')]
          exact hf p' (List.mem_cons_of_mem _ hp') v' hv')
        exact ⟨y2, b1, fun k hk => by rw [b2.1 k (Nat.lt_of_lt_of_le hk a2.2), a2.1 k hk], Nat.le_trans a2.2 b2.2⟩
/-- behind a call that writes no more than md -/
theorem ys_R.frame {md : yM} (h : ys_R y (l, st, E, C) lv sc G) (hf : ys_Fr md G G') (hT : ys_HT G') : ys_R y (l, st, E, ym_kill E C (fun r i => ym_mod md r i)) lv sc G' := by
  obtain ⟨R1, R2, R3, R4, R5⟩ := h
  refine ⟨R1, R2, R3, ?_, hT⟩
  intro q hq
  have hq : q ∈ ym_kill E C (fun r i => ym_mod md r i) := hq
  obtain ⟨h1, r', h2, h3⟩ := yl_kill hq
  obtain ⟨w1, w2, j, t, vs, w3, w4, w5⟩ := R4 q h1
  obtain ⟨vs', g1, g2, g3⟩ := hf j t vs w4
  refine ⟨w1, w2, j, t, vs', w3, g1, ?_⟩
  rcases g3 _ _ w5 with k | k
  · exfalso
    obtain ⟨k', j2, p1, p2, p3, p4, p5⟩ := ys_ref h2 R1
    cases p1
    have e3 : j2 = j := by omega
    subst e3
    rw [p5] at k
    rw [k] at h3
    cases h3
  · exact k
theorem ys_argsq : ∀ {As : List Value} {Ts : List yT}, ym_args E As Ts = true → ys_sat y E → ys_args (As.map (ys_cv y)) Ts ∧ ∀ v ∈ As, ys_in E.1 v
  | [], [], _, _ => ⟨trivial, fun v hv => by cases hv⟩
  | [], _ :: _, h, _ => by cases h
  | _ :: _, [], h, _ => by cases h
  | v :: vs, T :: Ts, h, hs => by
    have h : (ym_sub E v T && ym_args E vs Ts) = true := h
    rw [Bool.and_eq_true] at h
    obtain ⟨h1, h2⟩ := ys_sub h.1 hs
    obtain ⟨h3, h4⟩ := ys_argsq h.2 hs
    refine ⟨⟨h1, h3⟩, fun w hw => ?_⟩
    rcases List.mem_cons.mp hw with rfl | hw
    · exact h2
    · exact h4 w hw
theorem yl_pick {a : Nat} {As : List Value} {I : yI} : ∀ {tb : List yI}, ym_pick tb a E C As = some I → I ∈ tb ∧ I.1 = a ∧ ym_args E As I.2.1 = true ∧ ym_facts E C (xm_nth As) I.2.2.1 = true
  | [], h => by cases h
  | q :: tb, h => by
    have h : (bif Nat.beq q.1 a && (ym_args E As q.2.1 && ym_facts E C (xm_nth As) q.2.2.1) then some q else ym_pick tb a E C As) = some I := h
    cases hc : (Nat.beq q.1 a && (ym_args E As q.2.1 && ym_facts E C (xm_nth As) q.2.2.1)) with
    | true =>
      rw [hc] at h
      cases h
      rw [Bool.and_eq_true, Bool.and_eq_true] at hc
      exact ⟨List.mem_cons_self, Nat.eq_of_beq_eq_true hc.1, hc.2.1, hc.2.2⟩
    | false =>
      rw [hc] at h
      obtain ⟨h1, h2⟩ := yl_pick (tb := tb) h
      exact ⟨List.mem_cons_of_mem _ h1, h2⟩
/-- a case of a contract, behind the call -/
theorem ys_caseq {c : Option yT × List yP} {As : List Value} {r : Option Value} {s1 : ym_St} (h : ym_case c As l st E C = some s1) (hR : ys_R y (l, st, E, C) lv sc G) (hA : ∀ v ∈ As, ys_in E.1 v) (hc : ys_case c (As.map (ys_cv y)) r G) : ∃ y', ys_R y' s1 lv (match (generalizing := false) r with
    | some v => v :: sc
    | none => sc) G ∧ (ys_ext E.1 y y' ∧ E.1 ≤ s1.2.2.1.1) := by
  unfold ym_case at h
  obtain ⟨o, ps⟩ := c
  obtain ⟨h1, h2⟩ := hc
  dsimp only at h h1 h2
  have hsrc : ∀ i v, xm_nth As i = some v → ys_in E.1 v := fun i v hv => by
    rw [xl_nth] at hv
    exact hA v (List.mem_of_getElem? hv)
  have hfs : ∀ p ∈ ps, ∀ v, xm_nth As p.1 = some v → ys_fact G (ys_cv y v) p.2.1 p.2.2 := by
    intro p hp v hv
    obtain ⟨v', k1, k2⟩ := h2 p hp
    rw [xl_nth] at hv
    dsimp only at k1
    rw [List.getElem?_map, hv] at k1
    cases k1
    exact k2
  cases o with
  | none =>
    dsimp only at h
    cases r with
    | some v => exact False.elim h1
    | none =>
      cases hl : ym_lays (xm_nth As) ps E C with
      | none => rw [hl] at h; cases h
      | some x =>
        obtain ⟨E1, C1⟩ := x
        rw [hl] at h
        cases h
        exact ys_lays hl hR hsrc hfs
  | some T =>
    dsimp only at h
    cases r with
    | none => exact False.elim h1
    | some v =>
      have h1 : ys_T T v := h1
      cases hm : ym_mk E T with
      | none => rw [hm] at h; cases h
      | some x =>
        obtain ⟨E1, v1⟩ := x
        rw [hm] at h
        dsimp only at h
        cases hl : ym_lays (xm_nth As) ps E1 C with
        | none => rw [hl] at h; cases h
        | some x =>
          obtain ⟨E2, C2⟩ := x
          rw [hl] at h
          cases h
          obtain ⟨y1, a1, a2, a3, a4⟩ := hR.fresh (ys_mk hm hR.1 h1)
          obtain ⟨y2, b1, b2⟩ := ys_lays hl a1 (fun i v hv => ys_in_le a2.2 (hsrc i v hv)) (fun p hp v hv => by
            rw [ys_cv_ext a2.1 (hsrc _ v hv)]
            exact hfs p hp v hv)
          exact ⟨y2, b1, fun k hk => by rw [b2.1 k (Nat.lt_of_lt_of_le hk a2.2), a2.1 k hk], Nat.le_trans a2.2 b2.2⟩
end YN
