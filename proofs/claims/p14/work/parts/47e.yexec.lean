/-! bodies taken in; heads of loops; the contract of an instance -/
theorem yl_lvkeys : ∀ (As : List Value) (n : Nat), (∀ q ∈ lv_args n As, n ≤ q.1) ∧ ys_un (lv_args n As)
  | [], n => ⟨(fun q hq => (by cases hq)), List.nodup_nil⟩
  | v :: vs, n => by
    obtain ⟨h1, h2⟩ := yl_lvkeys vs (if v.category = 2 then n + 2 else n + 1)
    have hle : n + 1 ≤ (if v.category = 2 then n + 2 else n + 1) := by split <;> omega
    refine ⟨fun q hq => ?_, ?_⟩
    · rcases List.mem_cons.mp hq with rfl | hq
      · exact Nat.le_refl _
      · have := h1 q hq
        omega
    · show (n :: (lv_args _ vs).map Prod.fst).Nodup
      rw [List.nodup_cons]
      refine ⟨fun h => ?_, h2⟩
      obtain ⟨q, q1, q2⟩ := List.mem_map.mp h
      have := h1 q q1
      omega
theorem yl_lvmap {y : Nat → Int} : ∀ (As : List Value) (n : Nat), lv_args n (As.map (ys_cv y)) = (lv_args n As).map (fun q => (q.1, ys_cv y q.2))
  | [], n => rfl
  | v :: vs, n => by
    show (n, ys_cv y v) :: lv_args (if (ys_cv y v).category = 2 then n + 2 else n + 1) (vs.map (ys_cv y)) = (n, ys_cv y v) :: (lv_args (if v.category = 2 then n + 2 else n + 1) vs).map (fun q => (q.1, ys_cv y q.2))
    rw [ys_cat, yl_lvmap vs]
theorem yl_lvin : ∀ (As : List Value) (n : Nat), ∀ q ∈ lv_args n As, q.2 ∈ As
  | [], n, q, h => by cases h
  | v :: vs, n, q, h => by
    rcases List.mem_cons.mp h with rfl | h
    · exact List.mem_cons_self
    · exact List.mem_cons_of_mem _ (yl_lvin vs _ q h)
theorem ys_lrargs {y : Nat → Int} {n : Nat} {As : List Value} (h : ∀ v ∈ As, ys_in n v) : ys_lr y n (lv_args 0 As) (lv_args 0 (As.map (ys_cv y))) := by
  refine ⟨(yl_lvkeys As 0).2, (yl_lvkeys _ 0).2, fun i v hv => ?_⟩
  rw [yl_get (yl_lvkeys As 0).2] at hv
  refine ⟨h v (yl_lvin As 0 _ hv), ?_⟩
  rw [yl_get (yl_lvkeys _ 0).2, yl_lvmap]
  exact List.mem_map_of_mem (f := fun q : Nat × Value => (q.1, ys_cv y q.2)) hv
theorem yl_fuel (n : Nat) (h : n ≤ 1000000000000000000000000000) : n ≤ xm_fuel := by
  unfold xm_fuel
  omega
section YE
variable {Inv : xm_H → Prop} {tb : List yI} {md mw : yM} {G0 : xm_H} {D0 : Nat}
theorem ys_exec (hcon : ∀ I ∈ tb, ∀ d, D0 ≤ d → yc_ok Inv I (xm_exec d)) (hm : ym_mds mw md = true) (hInv : ∀ G G', ys_HT G' → ys_Fr mw G G' → Inv G → Inv G') : ∀ (dp d : Nat), D0 + dp ≤ d → ys_X Inv md G0 (ym_exec tb md mw dp) (xm_exec d)
  | 0, d, _ => by
    intro a As E C Qa y G Ec Qc h
    cases h
  | dp + 1, 0, hd => by omega
  | dp + 1, d + 1, hd => by
    intro a As E C Qa y G Ec Qc h hs hA hc hT hI hF hQ
    have ih := ys_exec hcon hm hInv dp d (by omega)
    replace h : (match xm_nth xm_mtab a with
      | some (_, _, _, nL, ret, _, _, _, c) => bif xm_nx c 0 && Nat.ble (xm_cats As) nL then ym_run (ym_exec tb md mw dp) tb md mw nL c ret (fun _ _ => none) (fun _ _ => none) Qa 20000 0 c (lv_args 0 As, [], E, C) else false
      | none => false) = true := h
    show (match xm_nth xm_mtab a with
      | some (_, _, _, nL, ret, _, mc, ms, c) => bif xm_nx c 0 && Nat.ble (xm_cats (As.map (ys_cv y))) nL then xm_run (xm_exec d) c nL mc ms ret Qc xm_fuel c (lv_args 0 (As.map (ys_cv y))) [] G Ec 0 0 else false
      | none => false) = true
    cases hr : xm_nth xm_mtab a with
    | none => rw [hr] at h; cases h
    | some r =>
      obtain ⟨r1, r2, r3, nL, ret, r6, mc, ms, c⟩ := r
      rw [hr] at h
      dsimp only at h ⊢
      rw [ys_cats]
      cases hb : (xm_nx c 0 && Nat.ble (xm_cats As) nL) with
      | false => rw [hb] at h; cases h
      | true =>
        rw [hb, cond_true] at h
        rw [cond_true]
        have H : ys_H Inv tb md mw G0 E.1 y (ym_exec tb md mw dp) (xm_exec d) Ec Qa Qc := ⟨fun I hI => hcon I hI d (by omega), ih, hm, hInv, fun r E' C' y' G' h1 h2 h3 h4 h5 h6 h7 h8 h9 => hQ r E' C' y' G' h1 h2 h3 h4 h5 h6 h7 h8 h9⟩
        exact ys_run (Nn := 0) H (fun pos s hx => by cases hx) (fun pos s L hx => by cases hx) 20000 0 c _ rfl h y _ [] G xm_fuel ⟨hs, ys_lrargs hA, ⟨rfl, fun v hv => by cases hv⟩, hc, hT⟩ hI hF (fun _ _ => rfl) (Nat.le_refl _) (yl_fuel _ (by omega))
end YE
/-! numbers at heads -/
def ys_num (v : Value) : Int := match v with
  | .int x => x.toInt
  | _ => 0
noncomputable def ys_rv (lv : xm_L) (o : Nat) : Int := bif Nat.blt o 1000 then (match xm_get lv o with
    | some v => ys_num v
    | none => 0) else (Int32.ofNat (o - 1000)).toInt
def ys_wsum : List Int → List Int → Int
  | w :: W, x :: xs => w * x + ys_wsum W xs
  | _, _ => 0
section YQ
variable {y : Nat → Int} {E : ym_S} {C : ym_C} {l lv : xm_L} {G : xm_H}
theorem ys_dlow {v1 v0 : Value} {d : Int} (h : ym_dlow E v1 v0 = some d) (hs : ys_sat y E) : d ≤ ys_num (ys_cv y v1) - ys_num (ys_cv y v0) := by
  unfold ym_dlow at h
  cases h1 : ym_ri E v1 with
  | none => rw [h1] at h; cases h
  | some a =>
    cases h0 : ym_ri E v0 with
    | none => rw [h1, h0] at h; cases h
    | some b =>
      rw [h1, h0] at h
      dsimp only at h
      obtain ⟨x, x1, x2, x3, x4, x5, -⟩ := ys_ri h1 hs
      obtain ⟨z, z1, z2, z3, z4, z5, -⟩ := ys_ri h0 hs
      rw [x1, z1]
      show d ≤ x.toInt - z.toInt
      have base : some (a.1 - b.2) = some d → d ≤ x.toInt - z.toInt := by
        intro h
        cases h
        omega
      cases v1 with
      | retAddr k1 =>
        cases v0 with
        | retAddr k0 =>
          dsimp only at h
          cases g1 : ym_get E k1 with
          | none => rw [g1] at h; cases h
          | some q1 =>
            cases g0 : ym_get E k0 with
            | none => rw [g1, g0] at h; cases h
            | some q0 =>
              obtain ⟨T1, rt1, o1⟩ := q1
              obtain ⟨T0, rt0, o0⟩ := q0
              rw [g1, g0] at h
              dsimp only at h
              cases hb : Nat.beq rt1 rt0 with
              | false => rw [hb] at h; exact base h
              | true =>
                rw [hb] at h
                cases h
                have e := Nat.eq_of_beq_eq_true hb
                subst e
                have e1 := (hs k1 _ _ _ g1).2.2.2
                have e0 := (hs k0 _ _ _ g0).2.2.2
                have f1 := x5 k1 rfl
                have f0 := z5 k0 rfl
                omega
        | _ => exact base h
      | _ => exact base h
theorem ys_rsum : ∀ {W : List Int} {vs us : List Value} {r : Int × Int}, ym_rsum E W vs us = some r → ys_sat y E → r.1 ≤ ys_wsum W (vs.map (fun v => ys_num (ys_cv y v))) - ys_wsum W (us.map (fun v => ys_num (ys_cv y v))) ∧ ys_wsum W (vs.map (fun v => ys_num (ys_cv y v))) ≤ r.2
  | [], [], [], r, h, hs => by
    have h : some ((0 : Int), (0 : Int)) = some r := h
    cases h
    exact ⟨Int.le_refl _, Int.le_refl _⟩
  | [], [], _ :: _, r, h, hs => by cases h
  | [], _ :: _, _, r, h, hs => by cases h
  | w :: W, [], _, r, h, hs => by cases h
  | w :: W, _ :: _, [], r, h, hs => by cases h
  | w :: W, v :: vs, u :: us, r, h, hs => by
    have h : (match ym_ri E v, ym_rsum E W vs us with
      | some a, some r => bif decide (0 ≤ w) then (match ym_dlow E v u with
        | some d => some (w * d + r.1, w * a.2 + r.2)
        | none => none) else (match ym_dlow E u v with
        | some d => some (-w * d + r.1, w * a.1 + r.2)
        | none => none)
      | _, _ => none) = some r := h
    cases hv : ym_ri E v with
    | none => rw [hv] at h; cases h
    | some a =>
      cases hr : ym_rsum E W vs us with
      | none => rw [hv, hr] at h; cases h
      | some r1 =>
        rw [hv, hr] at h
        dsimp only at h
        obtain ⟨i1, i2⟩ := ys_rsum hr hs
        obtain ⟨x, x1, x2, x3, -⟩ := ys_ri hv hs
        have ex : ys_num (ys_cv y v) = x.toInt := by rw [x1]; rfl
        show r.1 ≤ (w * ys_num (ys_cv y v) + ys_wsum W (vs.map (fun v => ys_num (ys_cv y v)))) - (w * ys_num (ys_cv y u) + ys_wsum W (us.map (fun v => ys_num (ys_cv y v)))) ∧ w * ys_num (ys_cv y v) + ys_wsum W (vs.map (fun v => ys_num (ys_cv y v))) ≤ r.2
        by_cases hw : 0 ≤ w
        · rw [decide_eq_true hw, cond_true] at h
          cases hd : ym_dlow E v u with
          | none => rw [hd] at h; cases h
          | some d =>
            rw [hd] at h
            cases h
            have k := ys_dlow hd hs
            have m1 : w * d ≤ w * (ys_num (ys_cv y v) - ys_num (ys_cv y u)) := Int.mul_le_mul_of_nonneg_left k hw
            have m2 : w * ys_num (ys_cv y v) ≤ w * a.2 := Int.mul_le_mul_of_nonneg_left (by rw [ex]; exact x3) hw
            rw [Int.mul_sub] at m1
            dsimp only
            omega
        · rw [decide_eq_false hw, cond_false] at h
          cases hd : ym_dlow E u v with
          | none => rw [hd] at h; cases h
          | some d =>
            rw [hd] at h
            cases h
            have k := ys_dlow hd hs
            have m1 : -w * d ≤ -w * (ys_num (ys_cv y u) - ys_num (ys_cv y v)) := Int.mul_le_mul_of_nonneg_left k (by omega)
            have m2 : -w * a.1 ≤ -w * ys_num (ys_cv y v) := Int.mul_le_mul_of_nonneg_left (by rw [ex]; exact x2) (by omega)
            rw [Int.mul_sub, Int.neg_mul, Int.neg_mul, Int.neg_mul] at m1
            rw [Int.neg_mul, Int.neg_mul] at m2
            dsimp only
            rw [Int.neg_mul]
            omega
theorem ys_rvq (hl : ys_lr y E.1 l lv) {o : Nat} (h : ym_ri E (ym_rv l o) ≠ none) : ys_num (ys_cv y (ym_rv l o)) = ys_rv lv o := by
  unfold ym_rv at h ⊢
  unfold ys_rv
  generalize hz : Int32.ofNat (o - 1000) = z at h ⊢
  cases hb : Nat.blt o 1000 with
  | false => rfl
  | true =>
    rw [hb, cond_true] at h
    rw [cond_true, cond_true]
    cases hg : xm_get l o with
    | none => rw [hg] at h; exact absurd rfl h
    | some v =>
      rw [(hl.2.2 o v hg).2]
theorem ys_rvs (hl : ys_lr y E.1 l lv) : ∀ {W : List Int} {os : List Nat} {us : List Value} {r : Int × Int}, ym_rsum E W (os.map (ym_rv l)) us = some r → (os.map (ym_rv l)).map (fun v => ys_num (ys_cv y v)) = os.map (ys_rv lv)
  | _, [], us, r, h => rfl
  | [], o :: os, us, r, h => by cases h
  | w :: W, o :: os, [], r, h => by cases h
  | w :: W, o :: os, u :: us, r, h => by
    have h : (match ym_ri E (ym_rv l o), ym_rsum E W (os.map (ym_rv l)) us with
      | some a, some r => bif decide (0 ≤ w) then (match ym_dlow E (ym_rv l o) u with
        | some d => some (w * d + r.1, w * a.2 + r.2)
        | none => none) else (match ym_dlow E u (ym_rv l o) with
        | some d => some (-w * d + r.1, w * a.1 + r.2)
        | none => none)
      | _, _ => none) = some r := h
    cases hv : ym_ri E (ym_rv l o) with
    | none => rw [hv] at h; cases h
    | some a =>
      cases hr : ym_rsum E W (os.map (ym_rv l)) us with
      | none => rw [hv, hr] at h; cases h
      | some r1 =>
        show ys_num (ys_cv y (ym_rv l o)) :: (os.map (ym_rv l)).map (fun v => ys_num (ys_cv y v)) = ys_rv lv o :: os.map (ys_rv lv)
        rw [ys_rvq hl (by rw [hv]; exact Option.some_ne_none a), ys_rvs hl hr]
end YQ
