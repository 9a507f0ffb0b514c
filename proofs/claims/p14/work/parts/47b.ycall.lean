/-! what the interval machine's calls stand for -/
theorem yl_all {α : Type} {p : α → Bool} : ∀ {l : List α}, ym_all p l = true → ∀ a ∈ l, p a = true
  | [], _, a, h => by cases h
  | b :: l, h, a, ha => by
    have h : (p b && ym_all p l) = true := h
    rw [Bool.and_eq_true] at h
    rcases List.mem_cons.mp ha with rfl | ha
    · exact h.1
    · exact yl_all h.2 a ha
theorem ys_cats {y : Nat → Int} : ∀ st : List Value, xm_cats (st.map (ys_cv y)) = xm_cats st
  | [] => rfl
  | v :: st => by
    show Nat.add (cond (xm_isL (ys_cv y v)) 2 1) (xm_cats (st.map (ys_cv y))) = Nat.add (cond (xm_isL v) 2 1) (xm_cats st)
    rw [ys_kL, ys_cats st]
section YM
variable {y : Nat → Int} {l lv : xm_L} {st sc : List Value} {E : ym_S} {C : ym_C} {G : xm_H} {s' : ym_St}
theorem ys_stq (h : ys_R y (l, st, E, C) lv sc G) : sc = st.map (ys_cv y) := h.2.2.1.1
theorem ys_math {m : Nat} (h : ym_math m (l, st, E, C) = some s') (hR : ys_R y (l, st, E, C) lv sc G) (hm : m = 1003 ∨ m = 1004 ∨ m = 1005) : ∃ y' sc', ys_R y' s' lv sc' G ∧ (ys_ext E.1 y y' ∧ E.1 ≤ s'.2.2.1.1) ∧ ∀ k, xm_math m sc k = k sc' := by
  unfold ym_math at h
  unfold xm_math
  cases h5 : Nat.beq m 1005 with
  | true =>
    rw [h5, cond_true] at h
    simp only [cond_true]
    cases st with
    | nil => cases h
    | cons w st =>
      dsimp only at h
      cases hw : ym_ri E w with
      | none => rw [hw] at h; cases h
      | some a =>
        rw [hw] at h
        dsimp only at h
        cases hc : Nat.ble (xm_cats st) 8 with
        | false => rw [hc] at h; cases h
        | true =>
          rw [hc, cond_true] at h
          cases h
          obtain ⟨x, x1, x2, x3, -⟩ := ys_ri hw hR.1
          obtain ⟨s1, f1, -, hR1⟩ := hR.pop
          subst f1
          have hf := ys_mi (r := (0, max (-a.1) a.2)) hR.1 (if 0 ≤ x then x else 0 - x) (fun h32 => by
            have k := ys_i32 h32
            dsimp only at k ⊢
            by_cases p : 0 ≤ x
            · rw [if_pos p]
              have p' := Int32.le_iff_toInt_le.mp p
              have e : (0 : Int32).toInt = 0 := rfl
              omega
            · rw [if_neg p]
              have p' : x.toInt < 0 := by
                rcases Int.lt_or_le x.toInt 0 with q | q
                · exact q
                · exact absurd (Int32.le_iff_toInt_le.mpr (show (0 : Int32).toInt ≤ x.toInt from q)) p
              have e : (0 : Int32).toInt = 0 := rfl
              rw [Int32.toInt_sub, e, ys_bm (by omega) (by omega)]
              omega)
          obtain ⟨y', a1, ax, -⟩ := hR1.fresh hf
          refine ⟨y', _, a1, ax, fun k => ?_⟩
          rw [x1]
          dsimp only
          rw [show Nat.ble (xm_cats s1) 8 = true by rw [ys_stq hR1, ys_cats]; exact hc, cond_true]
          exact xl_frc _ (fun z => k (.int z :: s1))
  | false =>
    rw [h5, cond_false] at h
    simp only [cond_false]
    rcases st with _ | ⟨w, _ | ⟨u, st⟩⟩
    · cases h
    · cases h
    · dsimp only at h
      cases hu : ym_ri E u with
      | none => rw [hu] at h; cases h
      | some a =>
        cases hw : ym_ri E w with
        | none => rw [hu, hw] at h; cases h
        | some b =>
          rw [hu, hw] at h
          dsimp only at h
          cases hc : Nat.ble (xm_cats st) 8 with
          | false => rw [hc] at h; cases h
          | true =>
            rw [hc, cond_true] at h
            cases h
            obtain ⟨x, x1, x2, x3, -⟩ := ys_ri hu hR.1
            obtain ⟨z, z1, z2, z3, -⟩ := ys_ri hw hR.1
            obtain ⟨s1, f1, -, hR1⟩ := hR.pop
            obtain ⟨s2, f2, -, hR2⟩ := hR1.pop
            subst f1 f2
            have hcat : Nat.ble (xm_cats s2) 8 = true := by rw [ys_stq hR2, ys_cats]; exact hc
            cases h3 : Nat.beq m 1003 with
            | true =>
              simp only [cond_true]
              have hf := ys_mi (r := ym_mx a b) hR.1 (if x < z then z else x) (fun h32 => by
                unfold ym_mx
                dsimp only
                by_cases p : x < z
                · rw [if_pos p]
                  have p' := Int32.lt_iff_toInt_lt.mp p
                  omega
                · rw [if_neg p]
                  have p' : z.toInt ≤ x.toInt := by
                    rcases Int.lt_or_le x.toInt z.toInt with q | q
                    · exact absurd (Int32.lt_iff_toInt_lt.mpr q) p
                    · exact q
                  omega)
              obtain ⟨y', a1, ax, -⟩ := hR2.fresh hf
              refine ⟨y', _, a1, ax, fun k => ?_⟩
              rw [x1, z1]
              dsimp only
              rw [hcat]
              rfl
            | false =>
              simp only [cond_false]
              have hf := ys_mi (r := ym_mn a b) hR.1 (if z < x then z else x) (fun h32 => by
                unfold ym_mn
                dsimp only
                by_cases p : z < x
                · rw [if_pos p]
                  have p' := Int32.lt_iff_toInt_lt.mp p
                  omega
                · rw [if_neg p]
                  have p' : x.toInt ≤ z.toInt := by
                    rcases Int.lt_or_le z.toInt x.toInt with q | q
                    · exact absurd (Int32.lt_iff_toInt_lt.mpr q) p
                    · exact q
                  omega)
              obtain ⟨y', a1, ax, -⟩ := hR2.fresh hf
              refine ⟨y', _, a1, ax, fun k => ?_⟩
              rw [x1, z1]
              dsimp only
              rw [hcat]
              rfl
/-! System.arraycopy -/
theorem yl_copy (f g : List Value) (sp dp : Nat) : ∀ n, (xm_copy sp dp n f g).length = g.length ∧ ∀ (i : Nat) (v : Value), (xm_copy sp dp n f g)[i]? = some v → g[i]? = some v ∨ v ∈ f
  | 0 => ⟨rfl, fun i v h => Or.inl h⟩
  | n + 1 => by
    obtain ⟨h1, h2⟩ := yl_copy f g sp dp n
    have e : xm_copy sp dp (n + 1) f g = (match xm_nth f (sp + n) with
      | some w => xm_put w (xm_copy sp dp n f g) (dp + n)
      | none => xm_copy sp dp n f g) := rfl
    rw [e, xl_nth]
    cases hf : f[sp + n]? with
    | none => exact ⟨h1, h2⟩
    | some w =>
      dsimp only
      rw [xl_put]
      refine ⟨by rw [List.length_set]; exact h1, fun i v hv => ?_⟩
      rw [List.getElem?_set] at hv
      split at hv
      · split at hv
        · cases hv
          exact Or.inr (List.mem_of_getElem? hf)
        · cases hv
      · exact h2 i v hv
theorem ys_modw {md : yM} {r i : Nat} (h : ym_mod md r 100000 = true) : ym_mod md r i = true := by
  induction md with
  | nil => cases h
  | cons p md ih =>
    have h : ((Nat.beq p.1 r && (Nat.beq p.2 100000 || Nat.beq p.2 100000)) || ym_mod md r 100000) = true := h
    show ((Nat.beq p.1 r && (Nat.beq p.2 i || Nat.beq p.2 100000)) || ym_mod md r i) = true
    rw [Bool.or_eq_true] at h ⊢
    rcases h with h | h
    · left
      rw [Bool.and_eq_true] at h ⊢
      rw [Bool.or_self] at h
      exact ⟨h.1, by rw [h.2, Bool.or_true]⟩
    · exact Or.inr (ih h)
theorem ys_acopy {md : yM} (h : ym_acopy md (l, st, E, C) = some s') (hR : ys_R y (l, st, E, C) lv sc G) : ∃ sc' G', ys_R y s' lv sc' G' ∧ ys_Fr md G G' ∧ (ys_ext E.1 y y ∧ E.1 ≤ s'.2.2.1.1) ∧ ∀ k, xm_acopy sc G k = k sc' G' := by
  unfold ym_acopy at h
  split at h
  · rename_i lv' n dp d sp c st' E' C' es
    cases es
    cases hc1 : ym_ref E c with
    | none => rw [hc1] at h; cases h
    | some r1 =>
      cases hd1 : ym_ref E d with
      | none => rw [hc1, hd1] at h; cases h
      | some r2 =>
        rw [hc1, hd1] at h
        dsimp only at h
        cases hq1 : yr_row r1 with
        | none => rw [hq1] at h; cases h
        | some q1 =>
          cases hq2 : yr_row r2 with
          | none => rw [hq1, hq2] at h; cases h
          | some q2 =>
            rw [hq1, hq2] at h
            dsimp only at h
            cases ht1 : yr_ty q1 0 with
            | none => rw [ht1] at h; cases h
            | some T1 =>
              cases ht2 : yr_ty q2 0 with
              | none => rw [ht1, ht2] at h; cases h
              | some T2 =>
                rw [ht1, ht2] at h
                dsimp only at h
                cases hb : (Nat.beq q1.1 100 && (Nat.beq q2.1 100 && (!(Nat.beq r1 r2) && (Nat.ble (xm_cats st') 8 && (decide (0 ≤ n.toInt) && (decide (0 ≤ dp.toInt) && (decide (0 ≤ sp.toInt) && (Nat.ble (sp.toInt.toNat + n.toInt.toNat) q1.2.1 && (Nat.ble (dp.toInt.toNat + n.toInt.toNat) q2.2.1 && (Nat.beq q1.2.2.1 1 && (Nat.beq q2.2.2.1 1 && (ym_mod md r2 100000 && (Nat.beq T1.1 0 && (Nat.beq T2.1 0 && (decide (T2.2.1 ≤ T1.2.1) && decide (T1.2.2 ≤ T2.2.2)))))))))))))))) with
                | false => rw [hb] at h; cases h
                | true =>
                  rw [hb, cond_true] at h
                  cases h
                  simp only [Bool.and_eq_true, Bool.not_eq_true', decide_eq_true_eq] at hb
                  obtain ⟨b1, b2, b3, b4, b5, b6, b7, b8, b9, b10, b11, b12, b13, b14, b15, b16⟩ := hb
                  obtain ⟨kc, i, m1, m2, m3, m4, m5⟩ := ys_ref hc1 hR.1
                  obtain ⟨kd, j, o1, o2, o3, o4, o5⟩ := ys_ref hd1 hR.1
                  obtain ⟨s1, f1, -, hR1⟩ := hR.pop
                  obtain ⟨s2, f2, -, hR2⟩ := hR1.pop
                  obtain ⟨s3, f3, -, hR3⟩ := hR2.pop
                  obtain ⟨s4, f4, -, hR4⟩ := hR3.pop
                  obtain ⟨s5, f5, -, hR5⟩ := hR4.pop
                  subst f1 f2 f3 f4 f5
                  obtain ⟨vs, g1, g2, g3⟩ := hR.2.2.2.2.at m5 hq1
                  obtain ⟨ws, k1, k2, k3⟩ := hR.2.2.2.2.at o5 hq2
                  have e1 := Nat.eq_of_beq_eq_true b1
                  have e2 := Nat.eq_of_beq_eq_true b2
                  have e10 := Nat.eq_of_beq_eq_true b10
                  have e11 := Nat.eq_of_beq_eq_true b11
                  have e13 := Nat.eq_of_beq_eq_true b13
                  have e14 := Nat.eq_of_beq_eq_true b14
                  have hij : i ≠ j := by
                    intro q
                    subst q
                    rw [← m5, ← o5, Nat.beq_refl] at b3
                    cases b3
                  have ty1 : ∀ x, yr_ty q1 x = some T1 := by
                    intro x
                    rw [← ht1]
                    unfold yr_ty
                    rw [e10]
                    show xm_nth _ (x % 1) = xm_nth _ (0 % 1)
                    rw [Nat.mod_one]
                  have ty2 : ∀ x, yr_ty q2 x = some T2 := by
                    intro x
                    rw [← ht2]
                    unfold yr_ty
                    rw [e11]
                    show xm_nth _ (x % 1) = xm_nth _ (0 % 1)
                    rw [Nat.mod_one]
                  have vsI : ∀ v ∈ vs, ys_T T2 v := by
                    intro v hv
                    obtain ⟨x, hx⟩ := List.getElem?_of_mem hv
                    obtain ⟨T, t1, t2⟩ := g3 x v hx
                    rw [ty1] at t1
                    cases t1
                    cases v with
                    | int z => exact ⟨e14, by have := t2.2.1; omega, by have := t2.2.2; omega⟩
                    | long z => exact absurd t2.1 (by rw [e13]; decide)
                    | ref z => rcases t2.1 with q | q <;> rw [e13] at q <;> cases q
                    | null => exact absurd (show T1.1 = 3 from t2) (by rw [e13]; decide)
                    | _ => exact False.elim t2
                  have allI : xm_allI vs = true := by
                    have key : ∀ l : List Value, (∀ v ∈ l, ys_T T2 v) → xm_allI l = true := by
                      intro l
                      induction l with
                      | nil => intro _; rfl
                      | cons v l ih =>
                        intro hl
                        show (xm_isI v && xm_allI l) = true
                        rw [ih (fun v hv => hl v (List.mem_cons_of_mem _ hv)), Bool.and_true]
                        have t2 := hl v List.mem_cons_self
                        cases v with
                        | int z => rfl
                        | long z => exact absurd t2.1 (by rw [e14]; decide)
                        | ref z => rcases t2.1 with q | q <;> rw [e14] at q <;> cases q
                        | null => exact absurd (show T2.1 = 3 from t2) (by rw [e14]; decide)
                        | _ => exact False.elim t2
                    exact key vs vsI
                  obtain ⟨c1, c2⟩ := yl_copy vs ws sp.toInt.toNat dp.toInt.toNat n.toInt.toNat
                  obtain ⟨R1, R2, R3, R4, R5⟩ := hR5
                  dsimp only at R1 R2 R3 R4
                  refine ⟨s5, xm_hput G j (100, xm_copy sp.toInt.toNat dp.toInt.toNat n.toInt.toNat vs ws), ⟨R1, R2, R3, ?_, ?_⟩, ?_, ys_xr, fun k => ?_⟩
                  · intro q hq
                    have hq : q ∈ ym_kill E C (fun r _ => Nat.beq r r2) := hq
                    obtain ⟨h1, r', h2, h3⟩ := yl_kill hq
                    obtain ⟨w1, w2, j', t', vs', w3, w4, w5⟩ := R4 q h1
                    refine ⟨w1, w2, j', t', vs', w3, ?_, w5⟩
                    rw [xl_hput, if_neg]
                    · exact w4
                    · intro q2
                      subst q2
                      obtain ⟨k', j2, p1, p2, p3, p4, p5⟩ := ys_ref h2 R1
                      cases p1
                      have e3 : j2 = j' := by omega
                      subst e3
                      rw [← p5, ← o5, Nat.beq_refl] at h3
                      cases h3
                  · intro j' q' hq'
                    obtain ⟨vs', w1, w2, w3⟩ := R5 j' q' hq'
                    rw [xl_hput]
                    by_cases e : j' = j
                    · subst e
                      rw [if_pos rfl]
                      rw [o5, hq2] at hq'
                      cases hq'
                      rw [k1] at w1
                      cases w1
                      refine ⟨_, by rw [e2], c1.trans k2, fun x v hv => ⟨T2, ty2 x, ?_⟩⟩
                      rcases c2 x v hv with q | q
                      · obtain ⟨T, t1, t2⟩ := k3 x v q
                        rw [ty2] at t1
                        cases t1
                        exact t2
                      · exact vsI v q
                    · rw [if_neg e]
                      exact ⟨vs', w1, w2, w3⟩
                  · intro j' t' vs' hj'
                    rw [xl_hput]
                    by_cases e : j' = j
                    · subst e
                      rw [if_pos rfl]
                      rw [k1] at hj'
                      cases hj'
                      exact ⟨_, by rw [e2], c1, fun x v hv => Or.inl (by rw [o5]; exact ys_modw b12)⟩
                    · rw [if_neg e]
                      exact ⟨vs', hj', rfl, fun x v hv => Or.inr hv⟩
                  · rw [m4, o4]
                    show (match xm_hget G i, xm_hget G j with
                      | some (t, vs), some (t1, ws) => bif Nat.beq t 100 && (Nat.beq t1 100 && (Nat.ble 7 j && (!(Nat.beq i j) && (Nat.ble (xm_cats s5) 8 && (xm_allI vs && (decide (0 ≤ n.toInt) && (decide (0 ≤ dp.toInt) && (decide (0 ≤ sp.toInt) && (Nat.ble (sp.toInt.toNat + n.toInt.toNat) (xm_len vs) && Nat.ble (dp.toInt.toNat + n.toInt.toNat) (xm_len ws)))))))))) then
                          k s5 (xm_hput G j (100, xm_copy sp.toInt.toNat dp.toInt.toNat n.toInt.toNat vs ws)) else false
                      | _, _ => false) = _
                    rw [g1, k1]
                    dsimp only
                    have h7 : Nat.ble 7 j = true := Nat.ble_eq_true_of_le (yr_lo (by rw [o5]; exact hq2) (by omega))
                    have hn : Nat.beq i j = false := Bool.eq_false_iff.mpr (fun q => hij (Nat.eq_of_beq_eq_true q))
                    have h8 : Nat.ble (xm_cats s5) 8 = true := by rw [R3.1, ys_cats]; exact b4
                    rw [b1, b2, h7, hn, h8, allI, decide_eq_true b5, decide_eq_true b6, decide_eq_true b7, xl_len, xl_len, g2, k2, b8, b9]
                    rfl
  · cases h
end YM
