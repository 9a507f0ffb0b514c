/-! Rule.compute's two readings of code[i] -/
theorem yk_shru (x : Int32) : (x >>> (4 &&& 31 : Int32)).toInt ≤ 134217727 := by
  have e : (x >>> (4 &&& 31 : Int32)).toInt = x.toInt >>> ((4 &&& 31 : Int32).toBitVec.smod 32).toNat := by
    show (BitVec.sshiftRight' x.toBitVec ((4 &&& 31 : Int32).toBitVec.smod 32)).toInt = _
    rw [BitVec.toInt_sshiftRight']
    rfl
  have e4 : ((4 &&& 31 : Int32).toBitVec.smod 32).toNat = 4 := by decide
  rw [e, e4, Int.shiftRight_eq_div_pow]
  have hb := ys_b32 x
  omega
theorem yk_hookok (J : xm_H → Prop) : ys_hkok (yi_Inv J) 64 yk_hook := by
  intro r1 r2 r3 nL ret r6 mc ms c hr cc Qc Ec pos s L h y lv sc G hR hI
  have hr : some xm_m64 = some (r1, r2, r3, nL, ret, r6, mc, ms, c) := hr
  cases hr
  unfold yk_hook at h
  cases hp : Nat.beq pos 12 with
  | false => rw [hp] at h; cases h
  | true =>
    rw [hp, cond_true] at h
    have ep := Nat.eq_of_beq_eq_true hp
    subst ep
    obtain ⟨l, st, E, C⟩ := s
    dsimp only at h
    cases h6 : xm_get l 6 with
    | none => rw [h6] at h; cases h
    | some w =>
      cases h0 : xm_get l 0 with
      | none => rw [h6, h0] at h; cases h
      | some o =>
        rw [h6, h0] at h
        dsimp only at h
        cases hw : ym_ri E w with
        | none => rw [hw] at h; cases h
        | some a =>
          cases ho : ym_ref E o with
          | none => rw [hw, ho] at h; cases h
          | some r =>
            rw [hw, ho] at h
            dsimp only at h
            cases hc : (decide (0 ≤ a.1) && (decide (a.2 < 240) && Nat.beq r 69)) with
            | false => rw [hc] at h; cases h
            | true =>
              rw [hc, cond_true] at h
              rw [Bool.and_eq_true, Bool.and_eq_true, decide_eq_true_eq, decide_eq_true_eq] at hc
              obtain ⟨a0, a1, ar⟩ := hc
              have er := Nat.eq_of_beq_eq_true ar
              subst er
              rcases hm1 : ym_mi E (0, 134217727) with ⟨E1, v1⟩
              rcases hm2 : ym_mi E ym_topi with ⟨E2, v2⟩
              rcases hm3 : ym_mi E (2, 15) with ⟨E3, v3⟩
              rcases hm4 : ym_mi E3 ym_topi with ⟨E4, v4⟩
              rw [hm1, hm2, hm3] at h
              dsimp only at h
              rw [hm4] at h
              dsimp only at h
              cases h
              obtain ⟨i, i1, i2, i3, -⟩ := ys_ri hw hR.1
              obtain ⟨k, j, m1, m2, m3, m4, m5⟩ := ys_ref ho hR.1
              obtain ⟨-, q6⟩ := hR.loc h6
              obtain ⟨-, q0⟩ := hR.loc h0
              rw [i1] at q6
              rw [m4] at q0
              have hT : ys_HT G := hR.2.2.2.2
              obtain ⟨vs, g1, g2, g3⟩ := hT.at m5 yq_69
              obtain ⟨b0, b1, b2, b3, b4, rfl⟩ := yl_5 g2
              obtain ⟨T0, t0, u0⟩ := g3 0 b0 rfl
              cases t0
              obtain ⟨cd, rfl, w0⟩ := yv_ref u0 rfl
              have hcd : yr_of cd = 70 := Int.ofNat.inj w0
              have g1 : xm_hget G j = some (6, [.ref cd, b1, b2, b3, b4]) := g1
              obtain ⟨cs, c1, c2, c3⟩ := hT.at hcd yq_70
              have c1 : xm_hget G cd = some (100, cs) := c1
              have c2 : cs.length = 240 := c2
              obtain ⟨v, hv⟩ : ∃ v, cs[i.toInt.toNat]? = some v := ⟨_, List.getElem?_eq_getElem (by omega)⟩
              obtain ⟨T, t1, t2⟩ := c3 _ _ hv
              have t1' : yr_ty (100, 240, 1, [yr_top]) i.toInt.toNat = some yr_top := by
                show xm_nth [yr_top] (i.toInt.toNat % 1) = _
                rw [Nat.mod_one]
                rfl
              rw [t1'] at t1
              cases t1
              obtain ⟨x, rfl, -⟩ := yv_int t2 rfl
              obtain ⟨cs', d1, d2⟩ := hI.2.1 cd hcd
              rw [c1] at d1
              cases d1
              have hcw := d2 _ x hv
              have hcd0 : Nat.beq cd 0 = false := Bool.eq_false_iff.mpr (fun q => by
                have e := Nat.eq_of_beq_eq_true q
                have : 7 ≤ cd := yr_lo (by rw [hcd]; exact yq_70) (by decide)
                omega)
              have ald : ∀ (s : List Value) (R : xm_R) (k : List Value → xm_R → Bool), xm_iald (.int i :: .ref cd :: s) G R k = k (.int x :: s) R := by
                intro s R k
                show (bif Nat.beq cd 0 then _ else xm_ald (fun t => Nat.beq t 100) (.int i :: .ref cd :: s) G R k) = _
                rw [hcd0, cond_false, ys_xald c1 rfl (by omega) hv]
              have run : ∀ fc, xm_run cc xm_c64 13 0 0 (some .long) Qc (fc + 14) (xm_drop 12 xm_c64) lv sc G Ec 0 0 = xm_run cc xm_c64 13 0 0 (some .long) Qc fc (xm_drop 26 xm_c64) (xm_set1 (xm_set1 lv 7 (.int (x &&& 15))) 8 (.int (x >>> (4 &&& 31)))) sc G Ec 0 0 := by
                intro fc
                have q0' : xm_get (xm_set1 lv 7 (.int (x &&& 15))) 0 = some (.ref j) := xl_gs0 (by decide) rfl q0
                have q6' : xm_get (xm_set1 lv 7 (.int (x &&& 15))) 6 = some (.int i) := xl_gs0 (by decide) rfl q6
                simp only [xz_64_12, xz_64_13, xz_64_14, xz_64_15, xz_64_16, xz_64_17, xz_64_18, q0, q6, xm_isI, xm_isA, cond_true, xk_getf g1 (show ([.ref cd, b1, b2, b3, b4] : List Value)[0]? = some (.ref cd) from rfl), ald, xk_and, show Nat.blt 7 13 = true from rfl, Bool.and_self]
                simp only [xz_64_19, xz_64_20, xz_64_21, xz_64_22, xz_64_23, xz_64_24, xz_64_25, q0', q6', xm_isI, xm_isA, cond_true, xk_getf g1 (show ([.ref cd, b1, b2, b3, b4] : List Value)[0]? = some (.ref cd) from rfl), ald, show Nat.blt 8 13 = true from rfl, Bool.and_self, xm_ishr, ys_fi2 (i := .ishr) (x := x) (z := 4) (c := x >>> (4 &&& 31)) rfl]
              have an := ys_andr (x := x) (z := 15) (by decide)
              have e15 : (15 : Int32).toInt = 15 := rfl
              have fit : ∀ (v7 v8 : Value) (E' : ym_S) (y' : Nat → Int), ys_sat y' E' → ys_ext E.1 y y' → E.1 ≤ E'.1 → ys_in E'.1 v7 → ys_in E'.1 v8 → ys_cv y' v7 = .int (x &&& 15) → ys_cv y' v8 = .int (x >>> (4 &&& 31)) → ys_R y' (xm_set1 (xm_set1 l 7 v7) 8 v8, st, E', C) (xm_set1 (xm_set1 lv 7 (.int (x &&& 15))) 8 (.int (x >>> (4 &&& 31)))) sc G := by
                intro v7 v8 E' y' s1 s2 s3 s4 s5 s6 s7
                have := ((hR.mv s1 s2 s3).set1 (i := 7) s4).set1 (i := 8) s5
                rw [s6, s7] at this
                exact this
              by_cases o1 : x &&& 15 = 1
              · have k := ys_mi (r := (0, 134217727)) hR.1 (x >>> (4 &&& 31)) (fun _ => ⟨hcw o1, yk_shru x⟩)
                have k : ys_fr y E (ym_mi E (0, 134217727)).1 (ym_mi E (0, 134217727)).2 (.int (x >>> (4 &&& 31))) := k
                rw [hm1] at k
                obtain ⟨y', s1, s2, s3, s4, s5⟩ := k
                exact ⟨(26, (xm_set1 (xm_set1 l 7 (.int 1)) 8 v1, st, E1, C)), List.mem_cons_self, y', _, sc, 14, by omega, fit (.int 1) v1 E1 y' s1 s2 s3 trivial s4 (by rw [o1]; rfl) s5, ⟨s2, s3⟩, run⟩
              · by_cases o0 : x &&& 15 = 0
                · have k := ys_mi (r := ym_topi) hR.1 (x >>> (4 &&& 31)) (fun _ => ys_b32 _)
                  have k : ys_fr y E (ym_mi E ym_topi).1 (ym_mi E ym_topi).2 (.int (x >>> (4 &&& 31))) := k
                  rw [hm2] at k
                  obtain ⟨y', s1, s2, s3, s4, s5⟩ := k
                  exact ⟨(26, (xm_set1 (xm_set1 l 7 (.int 0)) 8 v2, st, E2, C)), List.mem_cons_of_mem _ List.mem_cons_self, y', _, sc, 14, by omega, fit (.int 0) v2 E2 y' s1 s2 s3 trivial s4 (by rw [o0]; rfl) s5, ⟨s2, s3⟩, run⟩
                · have n1 : (x &&& 15).toInt ≠ 1 := fun q => o1 (Int32.toInt_inj.mp q)
                  have n0 : (x &&& 15).toInt ≠ 0 := fun q => o0 (Int32.toInt_inj.mp q)
                  have k := ys_mi (r := (2, 15)) hR.1 (x &&& 15) (fun _ => ⟨by dsimp only; omega, by dsimp only; omega⟩)
                  have k : ys_fr y E (ym_mi E (2, 15)).1 (ym_mi E (2, 15)).2 (.int (x &&& 15)) := k
                  rw [hm3] at k
                  obtain ⟨y1, s1, s2, s3, s4, s5⟩ := k
                  have k2 := ys_mi (r := ym_topi) s1 (x >>> (4 &&& 31)) (fun _ => ys_b32 _)
                  dsimp only at k2
                  rw [hm4] at k2
                  obtain ⟨y', r1, r2, r3, r4, r5⟩ := k2
                  dsimp only at s1 s2 s3 s4 s5 r1 r2 r3 r4 r5
                  refine ⟨(26, (xm_set1 (xm_set1 l 7 v3) 8 v4, st, E4, C)), List.mem_cons_of_mem _ (List.mem_cons_of_mem _ List.mem_cons_self), y', _, sc, 14, by omega, fit v3 v4 E4 y' r1 (fun k hk => by rw [r2 k (Nat.lt_of_lt_of_le hk s3), s2 k hk]) (Nat.le_trans s3 r3) (ys_in_le r3 s4) r4 (by rw [ys_cv_ext r2 s4]; exact s5) r5, ⟨fun k hk => by rw [r2 k (Nat.lt_of_lt_of_le hk s3), s2 k hk], Nat.le_trans s3 r3⟩, run⟩
