/-! the contract of an instance -/
noncomputable def ys_lin (lv : xm_L) (c0 : Int) : List (Int × Nat) → Int
  | [] => c0
  | q :: cs => q.1 * (match xm_get lv q.2 with
    | some v => ys_num v
    | none => 0) + ys_lin lv c0 cs
def ys_hd (h : yH) (lv : xm_L) (G : xm_H) : Prop := ys_un lv ∧ (∀ q ∈ h.2.1, ∃ v, xm_get lv q.1 = some v ∧ ys_T q.2 v) ∧ ys_facts G (xm_get lv) h.2.2.2.2.1 ∧ (∀ b ∈ h.2.2.2.2.2, ∃ v, xm_get lv b.1 = some v ∧ ys_fact G v b.2.1 (0, b.2.2.1, ys_lin lv b.2.2.2.2 b.2.2.2.1))
theorem ys_Tmono {lo hi hi' : Int} {v : Value} (h : ys_T (0, lo, hi) v) (hle : hi ≤ hi') : ys_T (0, lo, hi') v := by
  cases v with
  | int x => exact ⟨rfl, h.2.1, Int.le_trans h.2.2 hle⟩
  | long x => exact absurd (show (0 : Nat) = 1 from h.1) (by decide)
  | ref j => rcases h.1 with q | q <;> cases q
  | null => exact absurd (show (0 : Nat) = 3 from h) (by decide)
  | _ => exact False.elim h
theorem yl_any {α : Type} {p : α → Bool} : ∀ {l : List α}, ym_any p l = true → ∃ a ∈ l, p a = true
  | [], h => by cases h
  | b :: l, h => by
    have h : (p b || ym_any p l) = true := h
    rw [Bool.or_eq_true] at h
    rcases h with h | h
    · exact ⟨b, List.mem_cons_self, h⟩
    · obtain ⟨a, h1, h2⟩ := yl_any h
      exact ⟨a, List.mem_cons_of_mem _ h1, h2⟩
section YI
variable {y : Nat → Int} {E : ym_S} {C : ym_C} {l lv : xm_L} {G : xm_H} {sc : List Value}
theorem ys_linq (hs : ys_sat y E) (hl : ys_lr y E.1 l lv) {c0 : Int} : ∀ {cs : List (Int × Nat)} {r : Int × Int}, ym_lin E l c0 cs = some r → r.1 ≤ ys_lin lv c0 cs ∧ ys_lin lv c0 cs ≤ r.2
  | [], r, h => by
    have h : some (c0, c0) = some r := h
    cases h
    exact ⟨Int.le_refl _, Int.le_refl _⟩
  | q :: cs, r, h => by
    have h : (match xm_get l q.2, ym_lin E l c0 cs with
      | some v, some r => (match ym_ri E v with
        | some a => bif decide ((0 : Int) ≤ q.1) then some (q.1 * a.1 + r.1, q.1 * a.2 + r.2) else none
        | none => none)
      | _, _ => none) = some r := h
    cases hg : xm_get l q.2 with
    | none => rw [hg] at h; cases h
    | some v =>
      cases hr : ym_lin E l c0 cs with
      | none => rw [hg, hr] at h; cases h
      | some r1 =>
        rw [hg, hr] at h
        dsimp only at h
        cases hv : ym_ri E v with
        | none => rw [hv] at h; cases h
        | some a =>
          rw [hv] at h
          dsimp only at h
          by_cases hw : 0 ≤ q.1
          · rw [decide_eq_true hw] at h
            cases h
            obtain ⟨i1, i2⟩ := ys_linq hs hl hr
            obtain ⟨x, x1, x2, x3, -⟩ := ys_ri hv hs
            have e : ys_lin lv c0 (q :: cs) = q.1 * x.toInt + ys_lin lv c0 cs := by
              show q.1 * (match xm_get lv q.2 with
                | some v => ys_num v
                | none => 0) + ys_lin lv c0 cs = _
              rw [(hl.2.2 _ _ hg).2, x1]
              rfl
            rw [e]
            have m1 : q.1 * a.1 ≤ q.1 * x.toInt := Int.mul_le_mul_of_nonneg_left x2 hw
            have m2 : q.1 * x.toInt ≤ q.1 * a.2 := Int.mul_le_mul_of_nonneg_left x3 hw
            dsimp only
            omega
          · rw [decide_eq_false hw] at h
            cases h
theorem yl_nonull : ∀ {W : List Int} {vs us : List Value} {r : Int × Int}, ym_rsum E W vs us = some r → ∀ u ∈ us, u ≠ .null
  | [], [], [], r, h, u, hu => by cases hu
  | [], [], _ :: _, r, h, u, hu => by cases h
  | [], _ :: _, _, r, h, u, hu => by cases h
  | w :: W, [], _, r, h, u, hu => by cases h
  | w :: W, _ :: _, [], r, h, u, hu => by cases h
  | w :: W, v :: vs, u0 :: us, r, h, u, hu => by
    have h : (match ym_ri E v, ym_rsum E W vs us with
      | some a, some r => bif decide (0 ≤ w) then (match ym_dlow E v u0 with
        | some d => some (w * d + r.1, w * a.2 + r.2)
        | none => none) else (match ym_dlow E u0 v with
        | some d => some (-w * d + r.1, w * a.1 + r.2)
        | none => none)
      | _, _ => none) = some r := h
    cases hv : ym_ri E v with
    | none => rw [hv] at h; cases h
    | some a =>
      cases hr : ym_rsum E W vs us with
      | none => rw [hv, hr] at h; cases h
      | some r1 =>
        rcases List.mem_cons.mp hu with rfl | hu
        · intro e
          subst e
          rw [hv, hr] at h
          have e1 : ym_dlow E v .null = none := by
            unfold ym_dlow
            rw [hv]
            rfl
          have e2 : ym_dlow E .null v = none := rfl
          rw [e1, e2] at h
          cases hw : decide (0 ≤ w) <;> (rw [hw] at h; cases h)
        · exact yl_nonull hr u hu
/-- what an arrival at a head tells -/
theorem ys_hchk {W : List Int} {R0 : Option (List Value)} {h : yH} {s : ym_St} (hc : ym_hchk W R0 h s = true) (hR : ys_R y s lv sc G) : sc = [] ∧ ys_hd h lv G ∧ ys_wsum W (h.2.2.2.1.map (ys_rv lv)) ≤ ym_M ∧ (match (generalizing := false) R0 with
    | some us => 1 ≤ ys_wsum W (h.2.2.2.1.map (ys_rv lv)) - ys_wsum W (us.map (fun v => ys_num (ys_cv y v))) ∧ ∀ u ∈ us, u ≠ .null
    | none => -ym_M ≤ ys_wsum W (h.2.2.2.1.map (ys_rv lv)) - ys_wsum W (h.2.2.2.1.map (fun _ => (0 : Int)))) := by
  obtain ⟨l, st, E, C⟩ := s
  cases st with
  | cons w st => cases hc
  | nil =>
    replace hc : (ym_locs l E h.2.1 && (ym_facts E C (xm_get l) h.2.2.2.2.1 && (ym_bchk E C l h.2.2.2.2.2 && (match (generalizing := false) R0 with
      | some us => (match ym_rsum E W (h.2.2.2.1.map (ym_rv l)) us with
        | some r => decide (1 ≤ r.1) && decide (r.2 ≤ ym_M)
        | none => false)
      | none => (match ym_rsum E W (h.2.2.2.1.map (ym_rv l)) (h.2.2.2.1.map (fun _ => .int 0)) with
        | some r => decide (-ym_M ≤ r.1) && decide (r.2 ≤ ym_M)
        | none => false))))) = true := hc
    rw [Bool.and_eq_true, Bool.and_eq_true, Bool.and_eq_true] at hc
    obtain ⟨c1, c2, c3, c4⟩ := hc
    have hl : ys_lr y E.1 l lv := hR.2.1
    have hs : ys_sat y E := hR.1
    have hca : ys_ca y E C G := hR.2.2.2.1
    refine ⟨ys_stq hR, ⟨hl.2.1, ?_, ?_, ?_⟩, ?_⟩
    · intro q hq
      have k := yl_all c1 q hq
      cases hg : xm_get l q.1 with
      | none => rw [hg] at k; cases k
      | some v =>
        rw [hg] at k
        exact ⟨_, (hl.2.2 _ _ hg).2, (ys_sub k hs).1⟩
    · exact ys_factsq c2 hs hca (fun i v hv => hl.2.2 i v hv)
    · intro b hb
      have k := yl_all c3 b hb
      cases hr : ym_lin E l b.2.2.2.2 b.2.2.2.1 with
      | none => rw [hr] at k; cases k
      | some r =>
        rw [hr] at k
        dsimp only at k
        obtain ⟨v, k1, w, k2, k3⟩ := ys_factq k hs hca (fun v hv => (hl.2.2 _ _ hv).1)
        exact ⟨_, (hl.2.2 _ _ k1).2, w, k2, ys_Tmono k3 (ys_linq hs hl hr).1⟩
    · cases R0 with
      | some us =>
        dsimp only at c4
        cases hr : ym_rsum E W (h.2.2.2.1.map (ym_rv l)) us with
        | none => rw [hr] at c4; cases c4
        | some r =>
          rw [hr] at c4
          dsimp only at c4
          rw [Bool.and_eq_true, decide_eq_true_eq, decide_eq_true_eq] at c4
          obtain ⟨i1, i2⟩ := ys_rsum hr hs
          rw [ys_rvs hl hr] at i1 i2
          exact ⟨Int.le_trans i2 c4.2, Int.le_trans c4.1 i1, yl_nonull hr⟩
      | none =>
        dsimp only at c4
        cases hr : ym_rsum E W (h.2.2.2.1.map (ym_rv l)) (h.2.2.2.1.map (fun _ => .int 0)) with
        | none => rw [hr] at c4; cases c4
        | some r =>
          rw [hr] at c4
          dsimp only at c4
          rw [Bool.and_eq_true, decide_eq_true_eq, decide_eq_true_eq] at c4
          obtain ⟨i1, i2⟩ := ys_rsum hr hs
          rw [ys_rvs hl hr] at i1 i2
          rw [List.map_map] at i1
          exact ⟨Int.le_trans i2 c4.2, Int.le_trans c4.1 i1⟩
theorem ys_splitsq {k : ym_S → Bool} : ∀ {sp : List Nat} {E : ym_S}, ym_splits l sp E k = true → ys_sat y E → ∃ E', k E' = true ∧ ys_sat y E' ∧ E'.1 = E.1
  | [], E, h, hs => ⟨E, h, hs, rfl⟩
  | i :: sp, E, h, hs => by
    have h : (match xm_get l i with
      | some v => (match ym_ri E v with
        | some a => ym_all (fun q => ym_splits l sp q.1 k) (ym_each E v a.1 (a.2 - a.1 + 1).toNat)
        | none => false)
      | none => false) = true := h
    cases hg : xm_get l i with
    | none => rw [hg] at h; cases h
    | some v =>
      rw [hg] at h
      dsimp only at h
      cases hv : ym_ri E v with
      | none => rw [hv] at h; cases h
      | some a =>
        rw [hv] at h
        dsimp only at h
        obtain ⟨x, x1, x2, x3, x4, x5, x6⟩ := ys_ri hv hs
        obtain ⟨q, q1, q2, q3, q4⟩ := ys_each (v := v) (x := x.toInt) (lo := a.1) (n := (a.2 - a.1 + 1).toNat) hs (ys_nvi x5 x6) x2 (by omega)
        obtain ⟨E', e1, e2, e3⟩ := ys_splitsq (sp := sp) (yl_all h q q1) q2
        exact ⟨E', e1, e2, e3.trans q3⟩
theorem yl_uniq : ∀ {ks : List Nat}, ym_uniq ks = true → ks.Nodup
  | [], _ => List.nodup_nil
  | k :: ks, h => by
    have h : (ym_all (fun j => !(Nat.beq k j)) ks && ym_uniq ks) = true := h
    rw [Bool.and_eq_true] at h
    rw [List.nodup_cons]
    refine ⟨fun hk => ?_, yl_uniq h.2⟩
    have := yl_all h.1 k hk
    rw [Nat.beq_refl] at this
    cases this
theorem ys_hstq : ∀ {ls : List (Nat × yT)} {q : xm_L × ym_S}, ym_hst ls = some q → (ls.map Prod.fst).Nodup → ys_un lv → (∀ p ∈ ls, ∃ v, xm_get lv p.1 = some v ∧ ys_T p.2 v) → ∃ y, ys_sat y q.2 ∧ ys_lr y q.2.1 q.1 lv ∧ q.1.map Prod.fst = ls.map Prod.fst
  | [], q, h, _, hu, _ => by
    have h : some (([] : xm_L), ((0, []) : ym_S)) = some q := h
    cases h
    refine ⟨fun _ => 0, fun k T rt off hk => ?_, ⟨List.nodup_nil, hu, fun i v hv => by cases hv⟩, rfl⟩
    have hk : xm_jn (xm_nth (ym_ck [] (k / 16)) (k % 16)) = some (T, rt, off) := hk
    cases hk
  | p :: ls, q, h, hn, hu, hT => by
    have h : (match ym_hst ls with
      | some (lv, E) => (match ym_mk E p.2 with
        | some (E, v) => some ((p.1, v) :: lv, E)
        | none => none)
      | none => none) = some q := h
    rw [List.map_cons, List.nodup_cons] at hn
    cases hh : ym_hst ls with
    | none => rw [hh] at h; cases h
    | some x =>
      obtain ⟨l1, E1⟩ := x
      rw [hh] at h
      dsimp only at h
      cases hm : ym_mk E1 p.2 with
      | none => rw [hm] at h; cases h
      | some x =>
        obtain ⟨E2, v⟩ := x
        rw [hm] at h
        cases h
        obtain ⟨y, i1, i2, i3⟩ := ys_hstq hh hn.2 hu (fun p' hp' => hT p' (List.mem_cons_of_mem _ hp'))
        obtain ⟨w, w1, w2⟩ := hT p List.mem_cons_self
        obtain ⟨y', a1, a2, a3, a4, a5⟩ := ys_mk hm i1 w2
        have i2' := i2.mv a2 a3
        have hu2 : ys_un ((p.1, v) :: l1) := by
          show (p.1 :: l1.map Prod.fst).Nodup
          rw [List.nodup_cons]
          exact ⟨by rw [i3]; exact hn.1, i2.1⟩
        refine ⟨y', a1, ⟨hu2, hu, fun i u hu' => ?_⟩, by show p.1 :: l1.map Prod.fst = p.1 :: ls.map Prod.fst; rw [i3]⟩
        have hu' : cond (Nat.beq p.1 i) (some v) (xm_get l1 i) = some u := hu'
        cases hb : Nat.beq p.1 i with
        | true =>
          rw [hb] at hu'
          cases hu'
          have e := Nat.eq_of_beq_eq_true hb
          subst e
          exact ⟨a4, by rw [a5]; exact w1⟩
        | false =>
          rw [hb] at hu'
          exact i2'.2.2 i u hu'
theorem ys_blayq : ∀ {bs : List yB} {y : Nat → Int} {E : ym_S} {C : ym_C} {q : ym_S × ym_C}, ym_blay l bs E C = some q → ys_R y (l, [], E, C) lv sc G → (∀ b ∈ bs, ∃ v, xm_get lv b.1 = some v ∧ ys_fact G v b.2.1 (0, b.2.2.1, ys_lin lv b.2.2.2.2 b.2.2.2.1)) → ∃ y', ys_R y' (l, [], q.1, q.2) lv sc G ∧ (ys_ext E.1 y y' ∧ E.1 ≤ q.1.1)
  | [], y, E, C, q, h, hR, _ => by
    have h : some (E, C) = some q := h
    cases h
    exact ⟨y, hR, ys_xr⟩
  | b :: bs, y, E, C, q, h, hR, hb => by
    have h : (match ym_lin E l b.2.2.2.2 b.2.2.2.1, xm_get l b.1 with
      | some r, some v => (match ym_lay (0, b.2.2.1, r.2) b.2.1 E C v with
        | some (E, C) => ym_blay l bs E C
        | none => none)
      | _, _ => none) = some q := h
    cases hr : ym_lin E l b.2.2.2.2 b.2.2.2.1 with
    | none => rw [hr] at h; cases h
    | some r =>
      cases hg : xm_get l b.1 with
      | none => rw [hr, hg] at h; cases h
      | some v =>
        rw [hr, hg] at h
        dsimp only at h
        cases hl : ym_lay (0, b.2.2.1, r.2) b.2.1 E C v with
        | none => rw [hl] at h; cases h
        | some x =>
          obtain ⟨E1, C1⟩ := x
          rw [hl] at h
          dsimp only at h
          obtain ⟨v', k1, w, k2, k3⟩ := hb b List.mem_cons_self
          obtain ⟨g1, g2⟩ := hR.loc hg
          rw [g2] at k1
          cases k1
          obtain ⟨y1, a1, a2⟩ := ys_lay hl hR g1 ⟨w, k2, ys_Tmono k3 (ys_linq hR.1 hR.2.1 hr).2⟩
          obtain ⟨y2, b1, b2⟩ := ys_blayq h a1 (fun b' hb' => hb b' (List.mem_cons_of_mem _ hb'))
          exact ⟨y2, b1, fun k hk => by rw [b2.1 k (Nat.lt_of_lt_of_le hk a2.2), a2.1 k hk], Nat.le_trans a2.2 b2.2⟩
end YI
theorem ys_retc {cs : List (Option yT × List yP)} {As : List Value} {r : Option Value} {E : ym_S} {C : ym_C} {y : Nat → Int} {G : xm_H} (hs : ys_sat y E) (hc : ys_ca y E C G) (hA : ∀ v ∈ As, ys_in E.1 v) : ym_ret cs As r E C = true → ∃ c ∈ cs, ys_fits c.1 (r.map (ys_cv y)) ∧ ys_facts G (fun i => (As.map (ys_cv y))[i]?) c.2 := by
  induction cs with
  | nil => intro h; cases h
  | cons c cs ih =>
    intro h
    have h : (((match (generalizing := false) c.1, r with
      | none, none => true
      | some T, some v => ym_sub E v T
      | _, _ => false) && ym_facts E C (xm_nth As) c.2) || ym_ret cs As r E C) = true := h
    rw [Bool.or_eq_true, Bool.and_eq_true] at h
    rcases h with ⟨h1, h2⟩ | h
    · refine ⟨c, List.mem_cons_self, ?_, ys_factsq h2 hs hc (fun i v hv => ?_)⟩
      · cases hc1 : c.1 with
        | none =>
          rw [hc1] at h1
          cases r with
          | none => trivial
          | some v => cases h1
        | some T =>
          rw [hc1] at h1
          cases r with
          | none => cases h1
          | some v => exact (ys_sub h1 hs).1
      · rw [xl_nth] at hv
        exact ⟨hA v (List.mem_of_getElem? hv), by rw [List.getElem?_map, hv]; rfl⟩
    · obtain ⟨c', h1, h2⟩ := ih h
      exact ⟨c', List.mem_cons_of_mem _ h1, h2⟩
theorem ys_zero (W : List Int) : ∀ (n : List Nat), ys_wsum W (n.map (fun _ => (0 : Int))) = 0 := by
  induction W with
  | nil => intro n; cases n <;> rfl
  | cons w W ih =>
    intro n
    cases n with
    | nil => rfl
    | cons a n =>
      show w * 0 + ys_wsum W (n.map (fun _ => (0 : Int))) = 0
      rw [ih, Int.mul_zero]
      rfl
section YK
variable {Inv : xm_H → Prop} {tb : List yI} {I : yI} {mw : yM} {G0 : xm_H} {W : List Int} {H : List yH} {hk : ym_J} {cc : xm_C} {Ec : xm_R} {Qc : xm_Q} {nL mc ms : Nat} {c : List xm_E} {ret : Option FieldType}
/-- a macro step is one -/
def ys_hkok (Inv : xm_H → Prop) (m : Nat) (hk : ym_J) : Prop := ∀ (r1 : Nat) (r2 : MethodName) (r3 : ByteArray) (nL : Nat) (ret : Option FieldType) (r6 mc ms : Nat) (c : List xm_E), xm_nth xm_mtab m = some (r1, r2, r3, nL, ret, r6, mc, ms, c) → ∀ (cc : xm_C) (Qc : xm_Q) (Ec : xm_R) (pos : Nat) (s : ym_St) (L : List (Nat × ym_St)), hk pos s = some L → ∀ (y : Nat → Int) (lv : xm_L) (sc : List Value) (G : xm_H), ys_R y s lv sc G → Inv G → ∃ q ∈ L, ∃ (y' : Nat → Int) (lv' : xm_L) (sc' : List Value) (n : Nat), n ≤ 20 ∧ ys_R y' q.2 lv' sc' G ∧ (ys_ext s.2.2.1.1 y y' ∧ s.2.2.1.1 ≤ q.2.2.2.1.1) ∧ ∀ fc, xm_run cc c nL mc ms ret Qc (fc + n) (xm_drop pos c) lv sc G Ec 0 0 = xm_run cc c nL mc ms ret Qc fc (xm_drop q.1 c) lv' sc' G Ec 0 0
theorem ys_nohk (Inv : xm_H → Prop) (m : Nat) : ys_hkok Inv m (fun _ _ => none) := fun r1 r2 r3 nL ret r6 mc ms c _ cc Qc Ec pos s L h => by cases h
theorem ys_heads_step {n : Nat} (hcon : ∀ J ∈ tb, yc_ok Inv J cc) (hX : ys_X Inv I.2.2.2.2 G0 (ym_exec tb I.2.2.2.2 mw 3) cc) (hm : ym_mds mw I.2.2.2.2 = true) (hInv : ∀ G G', ys_HT G' → ys_Fr mw G G' → Inv G → Inv G')
    (hhk : ∀ pos s L, hk pos s = some L → ∀ (y : Nat → Int) (lv : xm_L) (sc : List Value) (G : xm_H), ys_R y s lv sc G → Inv G → ∃ q ∈ L, ∃ (y' : Nat → Int) (lv' : xm_L) (sc' : List Value) (n : Nat), n ≤ 20 ∧ ys_R y' q.2 lv' sc' G ∧ (ys_ext s.2.2.1.1 y y' ∧ s.2.2.1.1 ≤ q.2.2.2.1.1) ∧ ∀ fc, xm_run cc c nL mc ms ret Qc (fc + n) (xm_drop pos c) lv sc G Ec 0 0 = xm_run cc c nL mc ms ret Qc fc (xm_drop q.1 c) lv' sc' G Ec 0 0)
    (hH : ∀ h ∈ H, yk_head tb I mw 3 100000 W H hk nL c ret h = true)
    (hQ : ∀ (r : Option Value) (G' : xm_H), ys_HT G' → Inv G' → ys_Fr I.2.2.2.2 G0 G' → (∃ c ∈ I.2.2.2.1, ys_fits c.1 r ∧ c.2 = []) → Qc r G' Ec = true) (ih : ∀ m, m + 1 = n → ∀ (h : yH), h ∈ H → ∀ (lv : xm_L) (G : xm_H), ys_hd h lv G → ys_HT G → Inv G → ys_Fr I.2.2.2.2 G0 G → ys_wsum W (h.2.2.2.1.map (ys_rv lv)) ≤ ym_M → (ym_M - ys_wsum W (h.2.2.2.1.map (ys_rv lv))).toNat ≤ m → ∀ fc, (m + 1) * 3000000 ≤ fc → xm_run cc c nL mc ms ret Qc fc (xm_drop h.1 c) lv [] G Ec 0 0 = true) : ∀ (h : yH), h ∈ H → ∀ (lv : xm_L) (G : xm_H), ys_hd h lv G → ys_HT G → Inv G → ys_Fr I.2.2.2.2 G0 G → ys_wsum W (h.2.2.2.1.map (ys_rv lv)) ≤ ym_M → (ym_M - ys_wsum W (h.2.2.2.1.map (ys_rv lv))).toNat ≤ n → ∀ fc, (n + 1) * 3000000 ≤ fc → xm_run cc c nL mc ms ret Qc fc (xm_drop h.1 c) lv [] G Ec 0 0 = true := by
  intro h hh lv G hd hT hI hF hS hn fc hfc
  have hk1 := hH h hh
  unfold yk_head at hk1
  rw [Bool.and_eq_true] at hk1
  obtain ⟨u1, u2⟩ := hk1
  cases hst : ym_hst h.2.1 with
  | none => rw [hst] at u2; cases u2
  | some x =>
    obtain ⟨l, E0⟩ := x
    rw [hst] at u2
    cases hdr : xm_drop h.1 c with
    | nil => rw [hdr] at u2; cases u2
    | cons e rest =>
      rw [hdr] at u2
      dsimp only at u2
      obtain ⟨y0, s1, s2, s3⟩ := ys_hstq (lv := lv) hst (yl_uniq u1) hd.1 hd.2.1
      dsimp only at s1 s2 s3
      obtain ⟨E1, v1, v2, v3⟩ := ys_splitsq u2 s1
      have R0 : ys_R y0 (l, [], E1, []) lv [] G := ⟨v2, s2.mv (fun _ _ => rfl) (Nat.le_of_eq v3.symm), ⟨rfl, (fun v hv => (by cases hv))⟩, (fun q hq => (by cases hq)), hT⟩
      cases hl : ym_lays (xm_get l) h.2.2.2.2.1 E1 [] with
      | none => rw [hl] at v1; cases v1
      | some x =>
        obtain ⟨E2, C2⟩ := x
        rw [hl] at v1
        dsimp only at v1
        obtain ⟨y1, a1, a2⟩ := ys_lays hl R0 (fun i v hv => (R0.loc hv).1) (fun p hp v hv => by
          obtain ⟨v', k1, k2⟩ := hd.2.2.1 p hp
          rw [(R0.loc hv).2] at k1
          cases k1
          exact k2)
        cases hb : ym_blay l h.2.2.2.2.2 E2 C2 with
        | none => rw [hb] at v1; cases v1
        | some x =>
          obtain ⟨E3, C3⟩ := x
          rw [hb] at v1
          dsimp only at v1
          obtain ⟨y2, b1, b2⟩ := ys_blayq hb a1 hd.2.2.2
          dsimp only at b1 b2
          obtain ⟨m, rfl⟩ : ∃ m, fc = m + 1 := ⟨fc - 1, by omega⟩
          have HH : ys_H Inv tb I.2.2.2.2 mw G0 E3.1 y2 (ym_exec tb I.2.2.2.2 mw 3) cc Ec (ym_ret I.2.2.2.1 []) Qc := by
            refine ⟨hcon, hX, hm, hInv, fun r E C y G' h1 h2 h3 h4 h5 h6 h7 h8 h9 => ?_⟩
            obtain ⟨c', k1, k2, k3⟩ := ys_retc h2 h6 (fun v hv => by cases hv) h1
            refine hQ _ G' h7 h8 h9 ⟨c', k1, k2, ?_⟩
            cases hc2 : c'.2 with
            | nil => rfl
            | cons p ps =>
              obtain ⟨v, w1, -⟩ := k3 p (by rw [hc2]; exact List.mem_cons_self)
              cases w1
          show xm_body cc c nL mc ms ret Qc (xm_run cc c nL mc ms ret Qc m) e rest lv [] G Ec 0 0 = true
          refine ys_body HH (fun pos' suf' hs' => ?_) hdr v1 b1 hI hF (fun _ _ => rfl) (Nat.le_refl _)
          intro y3 s3 lv3 sc3 G3 g1 g2 g3 g4 g5 g6
          refine ys_run (Nn := n * 3000000) HH ?_ hhk 100000 pos' suf' s3 hs' g1 y3 lv3 sc3 G3 m g2 g3 g4 g5 g6 (by omega)
          intro pos s ha y4 lv4 sc4 G4 fc4 q1 q2 q3 q4 q5 q6
          unfold ym_arr at ha
          cases hf : ym_hfind H pos with
          | none => rw [hf] at ha; cases ha
          | some h0 =>
            rw [hf] at ha
            dsimp only at ha
            obtain ⟨h', w1, w2⟩ := yl_any (Option.some.inj ha)
            rw [Bool.and_eq_true] at w2
            have ep := Nat.eq_of_beq_eq_true w2.1
            obtain ⟨z1, z2, z3, z4⟩ := ys_hchk w2.2 q1
            dsimp only at z4
            have eus : (h.2.2.2.1.map (ym_rv l)).map (fun v => ys_num (ys_cv y4 v)) = h.2.2.2.1.map (ys_rv lv) := by
              rw [List.map_map]
              refine List.map_congr_left (fun o ho => ?_)
              have hne := z4.2 (ym_rv l o) (List.mem_map_of_mem ho)
              show ys_num (ys_cv y4 (ym_rv l o)) = ys_rv lv o
              unfold ym_rv at hne ⊢
              unfold ys_rv
              generalize hz : Int32.ofNat (o - 1000) = z at hne ⊢
              cases hb : Nat.blt o 1000 with
              | false => rfl
              | true =>
                rw [hb, cond_true] at hne
                rw [cond_true, cond_true]
                cases hg : xm_get l o with
                | none => rw [hg] at hne; exact absurd rfl hne
                | some v =>
                  obtain ⟨l1, l2⟩ := b1.loc hg
                  rw [l2]
                  dsimp only
                  rw [ys_cv_ext q4 l1]
            replace z4 := z4.1
            rw [eus] at z4
            obtain ⟨k, hk'⟩ : ∃ k, n = k + 1 := ⟨n - 1, by omega⟩
            subst z1
            rw [← ep]
            exact ih k hk'.symm h' w1 lv4 G4 z2 q1.2.2.2.2 q2 q3 z3 (by omega) fc4 (by rw [← hk']; exact q6)
theorem ys_heads (hcon : ∀ J ∈ tb, yc_ok Inv J cc) (hX : ys_X Inv I.2.2.2.2 G0 (ym_exec tb I.2.2.2.2 mw 3) cc) (hm : ym_mds mw I.2.2.2.2 = true) (hInv : ∀ G G', ys_HT G' → ys_Fr mw G G' → Inv G → Inv G')
    (hhk : ∀ pos s L, hk pos s = some L → ∀ (y : Nat → Int) (lv : xm_L) (sc : List Value) (G : xm_H), ys_R y s lv sc G → Inv G → ∃ q ∈ L, ∃ (y' : Nat → Int) (lv' : xm_L) (sc' : List Value) (n : Nat), n ≤ 20 ∧ ys_R y' q.2 lv' sc' G ∧ (ys_ext s.2.2.1.1 y y' ∧ s.2.2.1.1 ≤ q.2.2.2.1.1) ∧ ∀ fc, xm_run cc c nL mc ms ret Qc (fc + n) (xm_drop pos c) lv sc G Ec 0 0 = xm_run cc c nL mc ms ret Qc fc (xm_drop q.1 c) lv' sc' G Ec 0 0)
    (hH : ∀ h ∈ H, yk_head tb I mw 3 100000 W H hk nL c ret h = true)
    (hQ : ∀ (r : Option Value) (G' : xm_H), ys_HT G' → Inv G' → ys_Fr I.2.2.2.2 G0 G' → (∃ c ∈ I.2.2.2.1, ys_fits c.1 r ∧ c.2 = []) → Qc r G' Ec = true) :
    ∀ (n : Nat) (h : yH), h ∈ H → ∀ (lv : xm_L) (G : xm_H), ys_hd h lv G → ys_HT G → Inv G → ys_Fr I.2.2.2.2 G0 G → ys_wsum W (h.2.2.2.1.map (ys_rv lv)) ≤ ym_M → (ym_M - ys_wsum W (h.2.2.2.1.map (ys_rv lv))).toNat ≤ n → ∀ fc, (n + 1) * 3000000 ≤ fc → xm_run cc c nL mc ms ret Qc fc (xm_drop h.1 c) lv [] G Ec 0 0 = true := by
  intro n
  induction n with
  | zero =>
    intro h hh lv G hd hT hI hF hS hn fc hfc
    exact ys_heads_step (n := 0) hcon hX hm hInv hhk hH hQ (fun m hm' => by omega) h hh lv G hd hT hI hF hS hn fc hfc
  | succ n ih =>
    intro h hh lv G hd hT hI hF hS hn fc hfc
    exact ys_heads_step (n := n + 1) hcon hX hm hInv hhk hH hQ (fun m hm' => (show m = n by omega) ▸ ih) h hh lv G hd hT hI hF hS hn fc hfc
end YK
theorem ys_mksq : ∀ {Ts : List yT} {E : ym_S} {q : ym_S × List Value} {y : Nat → Int} {As : List Value}, ym_mks Ts E = some q → ys_sat y E → ys_args As Ts → ∃ y', ys_sat y' q.1 ∧ (ys_ext E.1 y y' ∧ E.1 ≤ q.1.1) ∧ As = q.2.map (ys_cv y') ∧ ∀ v ∈ q.2, ys_in q.1.1 v
  | [], E, q, y, As, h, hs, hA => by
    have h : some (E, ([] : List Value)) = some q := h
    cases h
    cases As with
    | nil => exact ⟨y, hs, ys_xr, rfl, fun v hv => by cases hv⟩
    | cons a As => exact False.elim hA
  | T :: Ts, E, q, y, As, h, hs, hA => by
    have h : (match ym_mk E T with
      | some (E, v) => (match ym_mks Ts E with
        | some (E, vs) => some (E, v :: vs)
        | none => none)
      | none => none) = some q := h
    cases As with
    | nil => exact False.elim hA
    | cons a As =>
      obtain ⟨hA1, hA2⟩ := hA
      cases hm : ym_mk E T with
      | none => rw [hm] at h; cases h
      | some x =>
        obtain ⟨E1, v⟩ := x
        rw [hm] at h
        dsimp only at h
        cases hr : ym_mks Ts E1 with
        | none => rw [hr] at h; cases h
        | some x =>
          obtain ⟨E2, vs⟩ := x
          rw [hr] at h
          cases h
          obtain ⟨y1, a1, a2, a3, a4, a5⟩ := ys_mk hm hs hA1
          obtain ⟨y2, b1, b2, b3, b4⟩ := ys_mksq hr a1 hA2
          dsimp only at a1 a2 a3 a4 a5 b1 b2 b3 b4
          refine ⟨y2, b1, ⟨fun k hk => by rw [b2.1 k (Nat.lt_of_lt_of_le hk a3), a2 k hk], Nat.le_trans a3 b2.2⟩, ?_, fun w hw => ?_⟩
          · rw [List.map_cons, ← b3, ys_cv_ext b2.1 a4, a5]
          · rcases List.mem_cons.mp hw with rfl | hw
            · exact ys_in_le b2.2 a4
            · exact b4 w hw
/-- AN INSTANCE THAT PASSES KEEPS ITS CONTRACT -/
theorem ys_inst {Inv : xm_H → Prop} {tb : List yI} {I : yI} {mw : yM} {W : List Int} {H : List yH} {hk : ym_J} {sp : List Nat} {D0 : Nat} (hP : ∀ mw : yM, yk_free mw = true → ∀ G G', ys_HT G' → ys_Fr mw G G' → Inv G → Inv G') (hcon : ∀ J ∈ tb, ∀ d, D0 ≤ d → yc_ok Inv J (xm_exec d)) (hhk : ys_hkok Inv I.1 hk) (hE : yk_en tb I mw W H hk sp = true) (hH : ∀ h ∈ H, yk_hd tb I mw W H hk h = true) : ∀ d, D0 + 4 ≤ d → yc_ok Inv I (xm_exec d) := by
  intro d hd G As Ec Q hT hI hA hFa hQ
  obtain ⟨d', rfl⟩ : ∃ d', d = d' + 1 := ⟨d - 1, by omega⟩
  unfold yk_en at hE
  show (match xm_nth xm_mtab I.1 with
    | some (_, _, _, nL, ret, _, mc, ms, c) => bif xm_nx c 0 && Nat.ble (xm_cats As) nL then xm_run (xm_exec d') c nL mc ms ret Q xm_fuel c (lv_args 0 As) [] G Ec 0 0 else false
    | none => false) = true
  cases hr : xm_nth xm_mtab I.1 with
  | none => rw [hr] at hE; cases hE
  | some r =>
    obtain ⟨r1, r2, r3, nL, ret, r6, mc, ms, c⟩ := r
    rw [hr] at hE
    dsimp only at hE ⊢
    rw [Bool.and_eq_true] at hE
    obtain ⟨e1, e2⟩ := hE
    unfold yk_mw at e1
    rw [Bool.and_eq_true] at e1
    have hH' : ∀ h ∈ H, yk_head tb I mw 3 100000 W H hk nL c ret h = true := by
      intro h hh
      have := hH h hh
      unfold yk_hd at this
      rw [hr] at this
      exact this
    have hInv := hP mw e1.2
    unfold yk_entry at e2
    cases hm : ym_mks I.2.1 (0, []) with
    | none => rw [hm] at e2; cases e2
    | some x =>
      obtain ⟨E, Aa⟩ := x
      rw [hm] at e2
      dsimp only at e2
      have hs0 : ys_sat (fun _ => 0) ((0, []) : ym_S) := fun k T rt off hk => by
        have hk : xm_jn (xm_nth (ym_ck [] (k / 16)) (k % 16)) = some (T, rt, off) := hk
        cases hk
      obtain ⟨y, s1, s2, s3, s4⟩ := ys_mksq hm hs0 hA
      dsimp only at s1 s2 s3 s4
      subst s3
      have R0 : ys_R y (lv_args 0 Aa, [], E, []) (lv_args 0 (Aa.map (ys_cv y))) [] G := ⟨s1, ys_lrargs s4, ⟨rfl, (fun v hv => (by cases hv))⟩, (fun q hq => (by cases hq)), hT⟩
      cases hl : ym_lays (xm_nth Aa) I.2.2.1 E [] with
      | none => rw [hl] at e2; cases e2
      | some x =>
        obtain ⟨E1, C1⟩ := x
        rw [hl] at e2
        dsimp only at e2
        obtain ⟨y1, a1, a2⟩ := ys_lays hl R0 (fun i v hv => by
            rw [xl_nth] at hv
            exact s4 v (List.mem_of_getElem? hv)) (fun p hp v hv => by
          obtain ⟨v', k1, k2⟩ := hFa p hp
          rw [xl_nth] at hv
          dsimp only at k1
          rw [List.getElem?_map, hv] at k1
          cases k1
          exact k2)
        dsimp only at a1 a2
        rw [ys_cats]
        cases hb : (xm_nx c 0 && Nat.ble (xm_cats Aa) nL) with
        | false => rw [hb] at e2; cases e2
        | true =>
          rw [hb, cond_true] at e2
          rw [cond_true]
          obtain ⟨E2, v1, v2, v3⟩ := ys_splitsq e2 a1.1
          have R2 := a1.nar v2 v3
          have hAy : Aa.map (ys_cv y1) = Aa.map (ys_cv y) := List.map_congr_left (fun v hv => ys_cv_ext a2.1 (s4 v hv))
          have hcon' : ∀ J ∈ tb, yc_ok Inv J (xm_exec d') := fun J hJ => hcon J hJ d' (by omega)
          have hX : ys_X Inv I.2.2.2.2 G (ym_exec tb I.2.2.2.2 mw 3) (xm_exec d') := ys_exec hcon e1.1 hInv 3 d' (by omega)
          have hhk' := hhk r1 r2 r3 nL ret r6 mc ms c hr (xm_exec d') Q Ec
          have HH : ys_H Inv tb I.2.2.2.2 mw G E2.1 y1 (ym_exec tb I.2.2.2.2 mw 3) (xm_exec d') Ec (ym_ret I.2.2.2.1 Aa) Q := by
            refine ⟨hcon', hX, e1.1, hInv, fun r E' C' y' G' h1 h2 h3 h4 h5 h6 h7 h8 h9 => ?_⟩
            have hin : ∀ v ∈ Aa, ys_in E2.1 v := fun v hv => by rw [v3]; exact ys_in_le a2.2 (s4 v hv)
            obtain ⟨c', k1, k2, k3⟩ := ys_retc h2 h6 (fun v hv => ys_in_le h4 (hin v hv)) h1
            have e : Aa.map (ys_cv y') = Aa.map (ys_cv y) := by
              rw [← hAy]
              exact List.map_congr_left (fun v hv => ys_cv_ext h3 (hin v hv))
            rw [e] at k3
            exact hQ _ G' h7 h8 h9 ⟨c', k1, k2, k3⟩
          refine ys_run (Nn := 2000000000000000001 * 3000000) HH ?_ hhk' 100000 0 c _ rfl v1 y1 _ [] G xm_fuel R2 hI (ys_Fr.refl _ _) (fun _ _ => rfl) (Nat.le_refl _) (yl_fuel _ (by omega))
          intro pos s ha y4 lv4 sc4 G4 fc4 q1 q2 q3 q4 q5 q6
          unfold ym_arr at ha
          cases hf : ym_hfind H pos with
          | none => rw [hf] at ha; cases ha
          | some h0 =>
            rw [hf] at ha
            dsimp only at ha
            obtain ⟨h', w1, w2⟩ := yl_any (Option.some.inj ha)
            rw [Bool.and_eq_true] at w2
            have ep := Nat.eq_of_beq_eq_true w2.1
            obtain ⟨z1, z2, z3, z4⟩ := ys_hchk w2.2 q1
            dsimp only at z4
            rw [ys_zero] at z4
            subst z1
            rw [← ep]
            refine ys_heads (Ec := Ec) hcon' hX e1.1 hInv hhk' hH' (fun r G' h1 h2 h3 h4 => ?_) 2000000000000000000 h' w1 lv4 G4 z2 q1.2.2.2.2 q2 q3 z3 (by unfold ym_M at *; omega) fc4 q6
            obtain ⟨c', k1, k2, k3⟩ := h4
            exact hQ r G' h1 h2 h3 ⟨c', k1, k2, by rw [k3]; intro p hp; cases hp⟩
