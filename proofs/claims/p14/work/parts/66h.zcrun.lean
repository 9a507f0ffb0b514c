/-! completeness: calls, returns, the run -/
def zcc (call : xm_C) : Prop := ∀ (m r1 : Nat) (y : MethodName) (r3 : ByteArray) (nL : Nat) (ret : Option FieldType) (n mc ms : Nat) (c : List xm_E), zokm m = true → xm_nth xm_mtab m = some (r1, y, r3, nL, ret, n, mc, ms, c) → ∀ (As : List Value) (zs : List zV) (G : xm_H) (E : xm_R) (Q1 : xm_Q) (s : zS), zsr As zs → zR G s → call m As G E Q1 = true → ∃ F r s', zm_run F c c (zpad nL (zslots zs)) [] s = some (r, s') ∧ ∃ v G', zres ret v r ∧ zR G' s' ∧ Q1 v G' E = true
section ZY
variable {call : xm_C} {full rest : List xm_E} {nL mc ms : Nat} {ret : Option FieldType} {Q1 : xm_Q} {ih1 : List xm_E → xm_K} {Pq : Int × zS → Prop} {pc a b : Nat} {ts : List Nat} {v : Value} {lv : xm_L} {st : List Value} {G : xm_H} {E : xm_R} {kc ks : Nat} {lz : List Int} {zst : List zV} {s : zS}
theorem zx_callg {m bx bz : Nat} (hm1 : zokm m = true) (hb : (Nat.beq bx 1 || Nat.beq bx 3) = Nat.beq bz 1) (hc : zcc call) (hS1 : zSx rest) (hi : zJH full ih1 nL E Pq) (hl : zL lv lz) (hn : lz.length = nL) (hs : zsr st zst) (hR : zR G s) (h : xm_call call mc ms m bx st G E kc ks (fun st G E kc ks => ih1 rest lv st G E kc ks) = true) : ∃ F res, zm_call (zm_run F) full m bz rest lz zst s = some res ∧ Pq res := by
  unfold zm_call
  unfold xm_call at h
  cases hm : xm_nth xm_mtab m with
  | none => rw [hm] at h; cases h
  | some r =>
    obtain ⟨r1, y, r3, nL1, ret1, n, mc1, ms1, c⟩ := r
    rw [hm] at h
    dsimp only at h ⊢
    cases hk : (Nat.ble (kc + mc1) mc && Nat.ble (ks + ms1) ms) with
    | false => rw [hk] at h; cases h
    | true =>
      rw [hk, cond_true] at h
      rw [hb] at h
      obtain ⟨As, st', q1, q2, q3⟩ := zs_popn _ hs (acc := []) (zacc := []) trivial h
      rw [q3] at h
      cases hr : (Nat.ble (xm_cats st') 8 && xm_rcv bx y.cls G As) with
      | false => rw [hr] at h; cases h
      | true =>
        rw [hr, cond_true] at h
        obtain ⟨F1, r, s1, f1, v, G', z1, z2, z3⟩ := hc m r1 y r3 nL1 ret1 n mc1 ms1 c hm1 hm As _ G E _ s q1 hR h
        have go : ∀ (stk : List zV) (stv : List Value), zsr stv stk → ih1 rest lv stv G' E (kc + mc1) (ks + ms1) = true → zpush ret1 r (zpop (bif Nat.beq bz 1 then n else Nat.succ n) [] zst).2 = stk → ∃ F res, (match zm_run F c c (zpad nL1 (zslots (zpop (bif Nat.beq bz 1 then n else Nat.succ n) [] zst).1)) [] s with
          | some (r, s1) => zm_run F full rest lz (zpush ret1 r (zpop (bif Nat.beq bz 1 then n else Nat.succ n) [] zst).2) s1
          | none => none) = some res ∧ Pq res := by
          intro stk stv g1 g2 g3
          obtain ⟨F2, res, f2, f3⟩ := hi rest hS1 lv stv G' _ _ lz stk s1 hl hn g1 z2 g2
          refine ⟨F1 + F2, res, ?_, f3⟩
          rw [zm_le f1 F2]
          dsimp only
          rw [g3, Nat.add_comm]
          exact zm_le f2 F1
        cases v with
        | none =>
          obtain ⟨e1, -⟩ := z1
          subst e1
          exact go _ st' q2 z3 rfl
        | some v =>
          obtain ⟨e1, e2, e3, e4⟩ := z1
          exact go _ (v :: st') (zsr_c e1 e3 e2 q2) z3 (zl_push e4)
theorem zx_str {j : Nat} {bs : List Nat} (hR : zR G s) (hj : xm_strv j G = some bs) : zstr j = bs := by
  unfold xm_strv at hj
  cases hg : xm_hget G j with
  | none => rw [hg] at hj; cases hj
  | some p =>
    obtain ⟨t, vs⟩ := p
    rw [hg] at hj
    dsimp only at hj
    cases hc : (Nat.ble 200 t && Nat.blt t 206) with
    | false => rw [hc] at hj; cases hj
    | true =>
      rw [hc, cond_true] at hj
      rw [Bool.and_eq_true] at hc
      have h1 := Nat.le_of_ble_eq_true hc.1
      have h2 := Nat.le_of_ble_eq_true hc.2
      have e := (hR j t vs hg).1.2.2.1 h1 (by omega)
      unfold zstr
      rw [show ((j : Nat) : Int).toNat - 1 = t - 200 by omega, hj]
theorem zx_invokevirtual {n : Nat} (hk : zck (pc, .invokevirtual n, a, b, ts, v) = true) (hc : zcc call) (hS1 : zSx rest) (hi : zJH full ih1 nL E Pq) (hl : zL lv lz) (hn : lz.length = nL) (hs : zsr st zst) (hR : zR G s) (h : xm_body call full nL mc ms ret Q1 ih1 (pc, .invokevirtual n, a, b, ts, v) rest lv st G E kc ks = true) : ∃ F res, zm_body (zm_run F full) (zm_call (zm_run F) full) zrt none full (pc, .invokevirtual n, a, b, ts, v) rest lz zst s = some res ∧ Pq res := by
  replace hk : (Nat.beq a 1006 || (Nat.beq a 1007 || zokm a)) = true := hk
  replace h : (bif Nat.beq a 1006 || Nat.beq a 1007 then xm_strl a st G (fun st => ih1 rest lv st G E kc ks) else xm_call call mc ms a 0 st G E kc ks (fun st G E kc ks => ih1 rest lv st G E kc ks)) = true := h
  cases h6 : Nat.beq a 1006 with
  | true =>
    have ea := Nat.eq_of_beq_eq_true h6
    subst ea
    replace h : (match (generalizing := false) st with
      | .ref j :: st => (match xm_strv j G with
        | some bs => bif Nat.ble (xm_cats st) 8 then ih1 rest lv (.int (Int32.ofNat (xm_len bs)) :: st) G E kc ks else false
        | none => false)
      | _ => false) = true := h
    obtain ⟨w, st', zst', rfl, rfl, pw, ⟨j, rfl⟩, ht⟩ := zs_1 (P := fun w => ∃ j, w = .ref j) hs (f := fun st => (match (generalizing := false) st with
      | .ref j :: st => (match xm_strv j G with
        | some bs => bif Nat.ble (xm_cats st) 8 then ih1 rest lv (.int (Int32.ofNat (xm_len bs)) :: st) G E kc ks else false
        | none => false)
      | _ => false)) h rfl (fun w st hw e => by cases w <;> first | rfl | (cases hw; done) | exact absurd ⟨_, rfl⟩ e)
    dsimp only at h
    cases hv : xm_strv j G with
    | none => rw [hv] at h; cases h
    | some bs =>
      rw [hv] at h
      dsimp only at h
      cases hk : Nat.ble (xm_cats st') 8 with
      | false => rw [hk] at h; cases h
      | true =>
        rw [hk, cond_true] at h
        have ez : zi (.int (Int32.ofNat (xm_len bs))) = zslen j := by unfold zslen; rw [zx_str hR hv]; rfl
        exact hi rest hS1 lv _ G kc ks lz _ s hl hn (zsr_c (b := false) rfl rfl ez ht) hR h
  | false =>
    cases h7 : Nat.beq a 1007 with
    | true =>
      have ea := Nat.eq_of_beq_eq_true h7
      subst ea
      replace h : (match (generalizing := false) st with
        | .int x :: .ref j :: st => (match xm_strv j G with
          | some bs => bif Nat.ble (xm_cats st) 8 && decide (0 ≤ x.toInt) then (match xm_nth bs x.toInt.toNat with
            | some c => ih1 rest lv (.int (Int32.ofNat c) :: st) G E kc ks
            | none => false) else false
          | none => false)
        | _ => false) = true := h
      obtain ⟨w, u, st', zst', rfl, rfl, pw, pu, ⟨x, j, rfl, rfl⟩, ht⟩ := zs_2 (P := zPA) hs (f := fun st => (match (generalizing := false) st with
        | .int x :: .ref j :: st => (match xm_strv j G with
          | some bs => bif Nat.ble (xm_cats st) 8 && decide (0 ≤ x.toInt) then (match xm_nth bs x.toInt.toNat with
            | some c => ih1 rest lv (.int (Int32.ofNat c) :: st) G E kc ks
            | none => false) else false
          | none => false)
        | _ => false)) h rfl (fun w => by cases w <;> rfl) (fun w u st hw hu e => by cases w <;> cases u <;> first | rfl | (cases hw; done) | (cases hu; done) | exact absurd ⟨_, _, rfl, rfl⟩ e)
      dsimp only at h
      cases hv : xm_strv j G with
      | none => rw [hv] at h; cases h
      | some bs =>
        rw [hv] at h
        dsimp only at h
        cases hk : (Nat.ble (xm_cats st') 8 && decide (0 ≤ x.toInt)) with
        | false => rw [hk] at h; cases h
        | true =>
          rw [hk, cond_true] at h
          cases hb : xm_nth bs x.toInt.toNat with
          | none => rw [hb] at h; cases h
          | some c =>
            rw [hb] at h
            dsimp only at h
            have ez : zi (.int (Int32.ofNat c)) = zchar j x.toInt := by unfold zchar; rw [zx_str hR hv, hb]; rfl
            exact hi rest hS1 lv _ G kc ks lz _ s hl hn (zsr_c (b := false) rfl rfl ez ht) hR h
    | false =>
      rw [h6, h7, Bool.or_self, cond_false] at h
      rw [h6, h7, Bool.false_or, Bool.false_or] at hk
      obtain ⟨F, res, f1, f2⟩ := zx_callg (bz := 0) hk (by rfl) hc hS1 hi hl hn hs hR h
      refine ⟨F, res, ?_, f2⟩
      show (bif Nat.beq a 1006 then _ else bif Nat.beq a 1007 then _ else zm_call (zm_run F) full a 0 rest lz zst s) = some res
      rw [h6, h7, cond_false, cond_false]
      exact f1
theorem zx_invokespecial {n : Nat} (hk : zck (pc, .invokespecial n, a, b, ts, v) = true) (hc : zcc call) (hS1 : zSx rest) (hi : zJH full ih1 nL E Pq) (hl : zL lv lz) (hn : lz.length = nL) (hs : zsr st zst) (hR : zR G s) (h : xm_body call full nL mc ms ret Q1 ih1 (pc, .invokespecial n, a, b, ts, v) rest lv st G E kc ks = true) : ∃ F res, zm_body (zm_run F full) (zm_call (zm_run F) full) zrt none full (pc, .invokespecial n, a, b, ts, v) rest lz zst s = some res ∧ Pq res := by
  replace hk : zokm a = true := hk
  have h6 : Nat.beq a 1000 = false := Bool.eq_false_iff.mpr (fun q => by
    have := Nat.eq_of_beq_eq_true q
    subst this
    exact absurd hk (by decide))
  replace h : (bif Nat.beq a 1000 then (match (generalizing := false) st with
      | .ref _ :: st => bif Nat.ble (xm_cats st) 8 then ih1 rest lv st G E kc ks else false
      | _ => false)
    else bif Nat.beq b 4 then xm_call call mc ms a 4 st G E kc ks (fun st G E kc ks => ih1 rest lv st G E kc ks) else xm_call call mc ms a 2 st G E kc ks (fun st G E kc ks => ih1 rest lv st G E kc ks)) = true := h
  rw [h6, cond_false] at h
  have fin : (∃ F res, zm_call (zm_run F) full a 2 rest lz zst s = some res ∧ Pq res) → ∃ F res, zm_body (zm_run F full) (zm_call (zm_run F) full) zrt none full (pc, .invokespecial n, a, b, ts, v) rest lz zst s = some res ∧ Pq res := by
    rintro ⟨F, res, f1, f2⟩
    refine ⟨F, res, ?_, f2⟩
    show (bif Nat.beq a 1000 then none else zm_call (zm_run F) full a 2 rest lz zst s) = some res
    rw [h6, cond_false]
    exact f1
  cases h4 : Nat.beq b 4 with
  | true =>
    rw [h4, cond_true] at h
    exact fin (zx_callg (bz := 2) hk (by rfl) hc hS1 hi hl hn hs hR h)
  | false =>
    rw [h4, cond_false] at h
    exact fin (zx_callg (bz := 2) hk (by rfl) hc hS1 hi hl hn hs hR h)
theorem zx_math {a : Nat} (ha : a = 1003 ∨ a = 1004) {zf : Int → Int → Int} (hzf : ∀ x y : Int32, zf x.toInt y.toInt = (if a = 1003 then (if x < y then y else x) else (if y < x then y else x) : Int32).toInt) (hS1 : zSx rest) (hi : zJH full ih1 nL E Pq) (hl : zL lv lz) (hn : lz.length = nL) (hs : zsr st zst) (hR : zR G s) (h : xm_math a st (fun st => ih1 rest lv st G E kc ks) = true) : ∃ F res, (match (generalizing := false) zst with
    | (_, y) :: (_, x) :: st => zm_run F full rest lz ((false, zf x y) :: st) s
    | _ => none) = some res ∧ Pq res := by
  have h5 : Nat.beq a 1005 = false := by rcases ha with rfl | rfl <;> rfl
  have e : ∀ st k, xm_math a st k = (match (generalizing := false) st with
    | .int y :: .int x :: st => bif Nat.ble (xm_cats st) 8 then (bif Nat.beq a 1003 then k (.int (if x < y then y else x) :: st) else k (.int (if y < x then y else x) :: st)) else false
    | _ => false) := by
    intro st k
    unfold xm_math
    rw [h5, cond_false]
    rfl
  rw [e] at h
  obtain ⟨w, u, st', zst', rfl, rfl, pw, pu, ⟨y, x, rfl, rfl⟩, ht⟩ := zs_2 (P := zPI) hs (f := fun st => (match (generalizing := false) st with
    | .int y :: .int x :: st => bif Nat.ble (xm_cats st) 8 then (bif Nat.beq a 1003 then ih1 rest lv (.int (if x < y then y else x) :: st) G E kc ks else ih1 rest lv (.int (if y < x then y else x) :: st) G E kc ks) else false
    | _ => false)) h rfl (fun w => by cases w <;> rfl) (fun w u st hw hu e => by cases w <;> cases u <;> first | rfl | (cases hw; done) | (cases hu; done) | exact absurd ⟨_, _, rfl, rfl⟩ e)
  dsimp only at h
  cases hk : Nat.ble (xm_cats st') 8 with
  | false => rw [hk] at h; cases h
  | true =>
    rw [hk, cond_true] at h
    have hq := hzf x y
    rcases ha with rfl | rfl
    · exact hi rest hS1 lv _ G kc ks lz _ s hl hn (zsr_c (b := false) (x := zf x.toInt y.toInt) (by rfl) (by rfl) (by exact hq.symm) ht) hR h
    · exact hi rest hS1 lv _ G kc ks lz _ s hl hn (zsr_c (b := false) (x := zf x.toInt y.toInt) (by rfl) (by rfl) (by exact hq.symm) ht) hR h
theorem zx_acopy (hS1 : zSx rest) (hi : zJH full ih1 nL E Pq) (hl : zL lv lz) (hn : lz.length = nL) (hs : zsr st zst) (hR : zR G s) (h : xm_acopy st G (fun st G => ih1 rest lv st G E kc ks) = true) : ∃ F res, (match (generalizing := false) zst with
      | (_, n) :: (_, dp) :: (_, j) :: (_, sp) :: (_, i) :: st => zm_run F full rest lz st (zcpy s i sp j dp n)
      | _ => none) = some res ∧ Pq res := by
  obtain ⟨a1, a2, a3, a4, a5, st', zst', rfl, rfl, ⟨n, dp, j, sp, i, rfl, rfl, rfl, rfl, rfl⟩, ht⟩ := zs_5 (P := fun a b c d e => ∃ n dp j sp i, a = .int n ∧ b = .int dp ∧ c = .ref j ∧ d = .int sp ∧ e = .ref i) hs (f := fun st => xm_acopy st G (fun st G => ih1 rest lv st G E kc ks)) h rfl (fun a => by cases a <;> rfl) (fun a b => by cases a <;> first | rfl | (cases b <;> rfl)) (fun a b c => by cases a <;> first | rfl | (cases b <;> first | rfl | (cases c <;> rfl))) (fun a b c d => by cases a <;> first | rfl | (cases b <;> first | rfl | (cases c <;> first | rfl | (cases d <;> rfl)))) (fun a b c d e st _ _ _ _ _ hq => by cases a <;> first | rfl | (cases b <;> first | rfl | (cases c <;> first | rfl | (cases d <;> first | rfl | (cases e <;> first | rfl | exact absurd ⟨_, _, _, _, _, rfl, rfl, rfl, rfl, rfl⟩ hq)))))
  have e : ∀ k : List Value → xm_H → Bool, xm_acopy (.int n :: .int dp :: .ref j :: .int sp :: .ref i :: st') G k = (match xm_hget G i, xm_hget G j with
    | some (t, vs), some (t1, ws) => bif Nat.beq t 100 && (Nat.beq t1 100 && (Nat.ble 7 j && (!(Nat.beq i j) && (Nat.ble (xm_cats st') 8 && (xm_allI vs && (decide (0 ≤ n.toInt) && (decide (0 ≤ dp.toInt) && (decide (0 ≤ sp.toInt) && (Nat.ble (sp.toInt.toNat + n.toInt.toNat) (xm_len vs) && Nat.ble (dp.toInt.toNat + n.toInt.toNat) (xm_len ws)))))))))) then
      k st' (xm_hput G j (100, xm_copy sp.toInt.toNat dp.toInt.toNat n.toInt.toNat vs ws)) else false
    | _, _ => false) := fun _ => rfl
  rw [e] at h
  cases g1 : xm_hget G i with
  | none => rw [g1] at h; cases h
  | some p =>
    obtain ⟨t, vs⟩ := p
    cases g2 : xm_hget G j with
    | none => rw [g1, g2] at h; cases h
    | some p =>
      obtain ⟨t1, ws⟩ := p
      rw [g1, g2] at h
      dsimp only at h
      cases hc : (Nat.beq t 100 && (Nat.beq t1 100 && (Nat.ble 7 j && (!(Nat.beq i j) && (Nat.ble (xm_cats st') 8 && (xm_allI vs && (decide (0 ≤ n.toInt) && (decide (0 ≤ dp.toInt) && (decide (0 ≤ sp.toInt) && (Nat.ble (sp.toInt.toNat + n.toInt.toNat) (xm_len vs) && Nat.ble (dp.toInt.toNat + n.toInt.toNat) (xm_len ws))))))))))) with
      | false => rw [hc] at h; cases h
      | true =>
        rw [hc, cond_true] at h
        simp only [Bool.and_eq_true, decide_eq_true_eq] at hc
        obtain ⟨c1, c2, c3, c4, c5, c6, c7, c8, c9, c10, c11⟩ := hc
        have e1 := Nat.eq_of_beq_eq_true c1
        have e2 := Nat.eq_of_beq_eq_true c2
        subst e1 e2
        have k1 := Nat.le_of_ble_eq_true c10
        have k2 := Nat.le_of_ble_eq_true c11
        rw [xl_len] at k1 k2
        have hR' := hR.copy g1 g2 k1 k2
        rw [Int.toNat_of_nonneg c7, Int.toNat_of_nonneg c8, Int.toNat_of_nonneg c9] at hR'
        exact hi rest hS1 lv st' _ kc ks lz zst' _ hl hn ht hR' h
theorem zx_abs (hS1 : zSx rest) (hi : zJH full ih1 nL E Pq) (hl : zL lv lz) (hn : lz.length = nL) (hs : zsr st zst) (hR : zR G s) (h : xm_math 1005 st (fun st => ih1 rest lv st G E kc ks) = true) : ∃ F res, (match (generalizing := false) zst with
      | (_, x) :: st => zm_run F full rest lz ((false, if 0 ≤ x then x else zw (0 - x)) :: st) s
      | _ => none) = some res ∧ Pq res := by
  replace h : (match (generalizing := false) st with
    | .int x :: st => bif Nat.ble (xm_cats st) 8 then xm_frc (if 0 ≤ x then x else 0 - x) (fun z => ih1 rest lv (.int z :: st) G E kc ks) else false
    | _ => false) = true := h
  obtain ⟨w, st', zst', rfl, rfl, pw, ⟨x, rfl⟩, ht⟩ := zs_1 (P := fun w => ∃ x, w = .int x) hs (f := fun st => (match (generalizing := false) st with
    | .int x :: st => bif Nat.ble (xm_cats st) 8 then xm_frc (if 0 ≤ x then x else 0 - x) (fun z => ih1 rest lv (.int z :: st) G E kc ks) else false
    | _ => false)) h rfl (fun w st hw e => by cases w <;> first | rfl | (cases hw; done) | exact absurd ⟨_, rfl⟩ e)
  dsimp only at h
  cases hk : Nat.ble (xm_cats st') 8 with
  | false => rw [hk] at h; cases h
  | true =>
    rw [hk, cond_true, xl_frc] at h
    have e0 : (0 : Int32).toInt = 0 := rfl
    have ez : zi (.int (if 0 ≤ x then x else 0 - x)) = (if 0 ≤ x.toInt then x.toInt else zw (0 - x.toInt)) := by
      show (if 0 ≤ x then x else 0 - x : Int32).toInt = _
      by_cases e : 0 ≤ x.toInt
      · rw [if_pos e, if_pos (Int32.le_iff_toInt_le.mpr (by rw [e0]; exact e))]
      · rw [if_neg e, if_neg (fun q => e (by have := Int32.le_iff_toInt_le.mp q; rw [e0] at this; exact this))]
        exact zw_sub 0 x
    exact hi rest hS1 lv _ G kc ks lz _ s hl hn (zsr_c (b := false) rfl rfl ez ht) hR h
theorem zx_invokestatic {n : Nat} (hk : zck (pc, .invokestatic n, a, b, ts, v) = true) (hc : zcc call) (hS1 : zSx rest) (hi : zJH full ih1 nL E Pq) (hl : zL lv lz) (hn : lz.length = nL) (hs : zsr st zst) (hR : zR G s) (h : xm_body call full nL mc ms ret Q1 ih1 (pc, .invokestatic n, a, b, ts, v) rest lv st G E kc ks = true) : ∃ F res, zm_body (zm_run F full) (zm_call (zm_run F) full) zrt none full (pc, .invokestatic n, a, b, ts, v) rest lz zst s = some res ∧ Pq res := by
  replace hk : (Nat.beq a 1001 || (Nat.beq a 1003 || (Nat.beq a 1004 || (Nat.beq a 1005 || zokm a)))) = true := hk
  replace h : (bif Nat.beq a 1001 then xm_acopy st G (fun st G => ih1 rest lv st G E kc ks) else bif Nat.beq a 1003 || (Nat.beq a 1004 || Nat.beq a 1005) then xm_math a st (fun st => ih1 rest lv st G E kc ks) else bif Nat.beq b 3 then xm_call call mc ms a 3 st G E kc ks (fun st G E kc ks => ih1 rest lv st G E kc ks) else xm_call call mc ms a 1 st G E kc ks (fun st G E kc ks => ih1 rest lv st G E kc ks)) = true := h
  cases h1 : Nat.beq a 1001 with
  | true =>
    have ea := Nat.eq_of_beq_eq_true h1
    subst ea
    exact zx_acopy hS1 hi hl hn hs hR h
  | false =>
    rw [h1, cond_false] at h
    rw [h1, Bool.false_or] at hk
    cases h3 : Nat.beq a 1003 with
    | true =>
      have ea := Nat.eq_of_beq_eq_true h3
      subst ea
      refine zx_math (zf := fun x y => if x < y then y else x) (Or.inl rfl) (fun x y => ?_) hS1 hi hl hn hs hR h
      rw [if_pos rfl]
      by_cases e : x.toInt < y.toInt
      · rw [if_pos e, if_pos (Int32.lt_iff_toInt_lt.mpr e)]
      · rw [if_neg e, if_neg (fun q => e (Int32.lt_iff_toInt_lt.mp q))]
    | false =>
      rw [h3, Bool.false_or] at h hk
      cases h4 : Nat.beq a 1004 with
      | true =>
        have ea := Nat.eq_of_beq_eq_true h4
        subst ea
        refine zx_math (zf := fun x y => if y < x then y else x) (Or.inr rfl) (fun x y => ?_) hS1 hi hl hn hs hR h
        rw [if_neg (show ¬ (1004 = 1003) by decide)]
        by_cases e : y.toInt < x.toInt
        · rw [if_pos e, if_pos (Int32.lt_iff_toInt_lt.mpr e)]
        · rw [if_neg e, if_neg (fun q => e (Int32.lt_iff_toInt_lt.mp q))]
      | false =>
        rw [h4, Bool.false_or] at h hk
        cases h5 : Nat.beq a 1005 with
        | true =>
          have ea := Nat.eq_of_beq_eq_true h5
          subst ea
          exact zx_abs hS1 hi hl hn hs hR h
        | false =>
          rw [h5, cond_false] at h
          rw [h5, Bool.false_or] at hk
          have fin : (∃ F res, zm_call (zm_run F) full a 1 rest lz zst s = some res ∧ Pq res) → ∃ F res, zm_body (zm_run F full) (zm_call (zm_run F) full) zrt none full (pc, .invokestatic n, a, b, ts, v) rest lz zst s = some res ∧ Pq res := by
            rintro ⟨F, res, f1, f2⟩
            refine ⟨F, res, ?_, f2⟩
            show (bif Nat.beq a 1001 then _ else bif Nat.beq a 1003 then _ else bif Nat.beq a 1004 then _ else bif Nat.beq a 1005 then _ else zm_call (zm_run F) full a 1 rest lz zst s) = some res
            rw [h1, h3, h4, h5, cond_false, cond_false, cond_false, cond_false]
            exact f1
          cases hb3 : Nat.beq b 3 with
          | true =>
            rw [hb3, cond_true] at h
            exact fin (zx_callg (bz := 1) hk (by rfl) hc hS1 hi hl hn hs hR h)
          | false =>
            rw [hb3, cond_false] at h
            exact fin (zx_callg (bz := 1) hk (by rfl) hc hS1 hi hl hn hs hR h)
theorem zx_ireturn (hs : zsr st zst) (hR : zR G s) (h : xm_body call full nL mc ms ret Q1 ih1 (pc, .ireturn, a, b, ts, v) rest lv st G E kc ks = true) : ∃ res, (∀ F, zm_body (zm_run F full) (zm_call (zm_run F) full) zrt none full (pc, .ireturn, a, b, ts, v) rest lz zst s = some res) ∧ ∃ v G', zres ret v res.1 ∧ zR G' res.2 ∧ Q1 v G' E = true := by
  replace h : (match (generalizing := false) st with
    | [w] => bif xm_isI w && (xm_rok ret w && (Nat.ble kc mc && Nat.ble ks ms)) then Q1 (some w) G E else false
    | _ => false) = true := h
  match st, zst, hs with
  | [], _, _ => cases h
  | _ :: _ :: _, _, _ => cases h
  | [w], [], hs => exact False.elim hs
  | [w], _ :: _ :: _, hs => exact False.elim hs.2
  | [w], [(b, x)], hs =>
    obtain ⟨⟨pw, lw, iw⟩, -⟩ := hs
    dsimp only at lw iw h
    cases hc : (xm_isI w && (xm_rok ret w && (Nat.ble kc mc && Nat.ble ks ms))) with
    | false => rw [hc] at h; cases h
    | true =>
      rw [hc, cond_true] at h
      rw [Bool.and_eq_true, Bool.and_eq_true] at hc
      refine ⟨(x, s), fun F => rfl, some w, G, ?_, hR, h⟩
      have hf := hc.2.1
      cases ret with
      | none => cases hf
      | some ty =>
        have hL := zs_fit pw (show xm_fit ty w = true from hf)
        exact ⟨pw, iw, by rw [hL]; cases ty <;> rfl, fun q => by cases q⟩
theorem zx_lreturn (hs : zsr st zst) (hR : zR G s) (h : xm_body call full nL mc ms ret Q1 ih1 (pc, .lreturn, a, b, ts, v) rest lv st G E kc ks = true) : ∃ res, (∀ F, zm_body (zm_run F full) (zm_call (zm_run F) full) zrt none full (pc, .lreturn, a, b, ts, v) rest lz zst s = some res) ∧ ∃ v G', zres ret v res.1 ∧ zR G' res.2 ∧ Q1 v G' E = true := by
  replace h : (match (generalizing := false) st with
    | [w] => bif xm_isL w && (xm_rok ret w && (Nat.ble kc mc && Nat.ble ks ms)) then Q1 (some w) G E else false
    | _ => false) = true := h
  match st, zst, hs with
  | [], _, _ => cases h
  | _ :: _ :: _, _, _ => cases h
  | [w], [], hs => exact False.elim hs
  | [w], _ :: _ :: _, hs => exact False.elim hs.2
  | [w], [(b, x)], hs =>
    obtain ⟨⟨pw, lw, iw⟩, -⟩ := hs
    dsimp only at lw iw h
    cases hc : (xm_isL w && (xm_rok ret w && (Nat.ble kc mc && Nat.ble ks ms))) with
    | false => rw [hc] at h; cases h
    | true =>
      rw [hc, cond_true] at h
      rw [Bool.and_eq_true, Bool.and_eq_true] at hc
      refine ⟨(x, s), fun F => rfl, some w, G, ?_, hR, h⟩
      have hf := hc.2.1
      cases ret with
      | none => cases hf
      | some ty =>
        have hL := zs_fit pw (show xm_fit ty w = true from hf)
        exact ⟨pw, iw, by rw [hL]; cases ty <;> rfl, fun q => by cases q⟩
theorem zx_areturn (hs : zsr st zst) (hR : zR G s) (h : xm_body call full nL mc ms ret Q1 ih1 (pc, .areturn, a, b, ts, v) rest lv st G E kc ks = true) : ∃ res, (∀ F, zm_body (zm_run F full) (zm_call (zm_run F) full) zrt none full (pc, .areturn, a, b, ts, v) rest lz zst s = some res) ∧ ∃ v G', zres ret v res.1 ∧ zR G' res.2 ∧ Q1 v G' E = true := by
  replace h : (match (generalizing := false) st with
    | [w] => bif xm_isA w && (xm_rok ret w && (Nat.ble kc mc && Nat.ble ks ms)) then Q1 (some w) G E else false
    | _ => false) = true := h
  match st, zst, hs with
  | [], _, _ => cases h
  | _ :: _ :: _, _, _ => cases h
  | [w], [], hs => exact False.elim hs
  | [w], _ :: _ :: _, hs => exact False.elim hs.2
  | [w], [(b, x)], hs =>
    obtain ⟨⟨pw, lw, iw⟩, -⟩ := hs
    dsimp only at lw iw h
    cases hc : (xm_isA w && (xm_rok ret w && (Nat.ble kc mc && Nat.ble ks ms))) with
    | false => rw [hc] at h; cases h
    | true =>
      rw [hc, cond_true] at h
      rw [Bool.and_eq_true, Bool.and_eq_true] at hc
      refine ⟨(x, s), fun F => rfl, some w, G, ?_, hR, h⟩
      have hf := hc.2.1
      cases ret with
      | none => cases hf
      | some ty =>
        have hL := zs_fit pw (show xm_fit ty w = true from hf)
        exact ⟨pw, iw, by rw [hL]; cases ty <;> rfl, fun q => by cases q⟩
theorem zx_return_ (hs : zsr st zst) (hR : zR G s) (h : xm_body call full nL mc ms ret Q1 ih1 (pc, .return_, a, b, ts, v) rest lv st G E kc ks = true) : ∃ res, (∀ F, zm_body (zm_run F full) (zm_call (zm_run F) full) zrt none full (pc, .return_, a, b, ts, v) rest lz zst s = some res) ∧ ∃ v G', zres ret v res.1 ∧ zR G' res.2 ∧ Q1 v G' E = true := by
  replace h : (match (generalizing := false) st with
    | [] => bif ret.isNone && (Nat.ble kc mc && Nat.ble ks ms) then Q1 none G E else false
    | _ => false) = true := h
  match st, zst, hs with
  | _ :: _, _, _ => cases h
  | [], _ :: _, hs => exact False.elim hs
  | [], [], _ =>
    dsimp only at h
    cases hc : (ret.isNone && (Nat.ble kc mc && Nat.ble ks ms)) with
    | false => rw [hc] at h; cases h
    | true =>
      rw [hc, cond_true] at h
      rw [Bool.and_eq_true] at hc
      refine ⟨(0, s), fun F => rfl, none, G, ?_, hR, h⟩
      cases ret with
      | none => exact ⟨rfl, rfl⟩
      | some ty => cases hc.1
theorem zx_body {i : Instr} (hk : zck (pc, i, a, b, ts, v) = true) (hc : zcc call) (hS1 : zSx rest) (hS2 : ∀ k, zSx (xm_drop k full)) (hi : zJH full ih1 nL E (fun res => ∃ v G', zres ret v res.1 ∧ zR G' res.2 ∧ Q1 v G' E = true)) (hl : zL lv lz) (hn : lz.length = nL) (hs : zsr st zst) (hR : zR G s) (h : xm_body call full nL mc ms ret Q1 ih1 (pc, i, a, b, ts, v) rest lv st G E kc ks = true) : ∃ F res, zm_body (zm_run F full) (zm_call (zm_run F) full) zrt none full (pc, i, a, b, ts, v) rest lz zst s = some res ∧ ∃ v G', zres ret v res.1 ∧ zR G' res.2 ∧ Q1 v G' E = true := by
  cases i with
  | iload => exact zx_iload hS1 hS2 hi hl hn hs hR h
  | iload_n => exact zx_iload_n hS1 hS2 hi hl hn hs hR h
  | lload => exact zx_lload hS1 hS2 hi hl hn hs hR h
  | lload_n => exact zx_lload_n hS1 hS2 hi hl hn hs hR h
  | aload => exact zx_aload hS1 hS2 hi hl hn hs hR h
  | aload_n => exact zx_aload_n hS1 hS2 hi hl hn hs hR h
  | istore => exact zx_istore hS1 hS2 hi hl hn hs hR h
  | istore_n => exact zx_istore_n hS1 hS2 hi hl hn hs hR h
  | lstore => exact zx_lstore hS1 hS2 hi hl hn hs hR h
  | lstore_n => exact zx_lstore_n hS1 hS2 hi hl hn hs hR h
  | astore => exact zx_astore hS1 hS2 hi hl hn hs hR h
  | astore_n => exact zx_astore_n hS1 hS2 hi hl hn hs hR h
  | iinc => exact zx_iinc hS1 hS2 hi hl hn hs hR h
  | iadd => exact zx_iadd hS1 hS2 hi hl hn hs hR h
  | isub => exact zx_isub hS1 hS2 hi hl hn hs hR h
  | imul => exact zx_imul hS1 hS2 hi hl hn hs hR h
  | iand => exact zx_iand hS1 hS2 hi hl hn hs hR h
  | ior => exact zx_ior hS1 hS2 hi hl hn hs hR h
  | ixor => exact zx_ixor hS1 hS2 hi hl hn hs hR h
  | ishl => exact zx_ishl hS1 hS2 hi hl hn hs hR h
  | ishr => exact zx_ishr hS1 hS2 hi hl hn hs hR h
  | iushr => exact zx_iushr hS1 hS2 hi hl hn hs hR h
  | idiv => exact zx_idiv hS1 hS2 hi hl hn hs hR h
  | irem => exact zx_irem hS1 hS2 hi hl hn hs hR h
  | ineg => exact zx_ineg hS1 hS2 hi hl hn hs hR h
  | i2b => exact zx_i2b hS1 hS2 hi hl hn hs hR h
  | i2l => exact zx_i2l hS1 hS2 hi hl hn hs hR h
  | l2i => exact zx_l2i hS1 hS2 hi hl hn hs hR h
  | ladd => exact zx_ladd hS1 hS2 hi hl hn hs hR h
  | lsub => exact zx_lsub hS1 hS2 hi hl hn hs hR h
  | lmul => exact zx_lmul hS1 hS2 hi hl hn hs hR h
  | land => exact zx_land hS1 hS2 hi hl hn hs hR h
  | lor => exact zx_lor hS1 hS2 hi hl hn hs hR h
  | ldiv => exact zx_ldiv hS1 hS2 hi hl hn hs hR h
  | lrem => exact zx_lrem hS1 hS2 hi hl hn hs hR h
  | lshl => exact zx_lshl hS1 hS2 hi hl hn hs hR h
  | lshr => exact zx_lshr hS1 hS2 hi hl hn hs hR h
  | lcmp => exact zx_lcmp hS1 hS2 hi hl hn hs hR h
  | dup => exact zx_dup hS1 hS2 hi hl hn hs hR h
  | pop => exact zx_pop hS1 hS2 hi hl hn hs hR h
  | dup2 => exact zx_dup2 hS1 hS2 hi hl hn hs hR h
  | goto => exact zx_goto hS1 hS2 hi hl hn hs hR h
  | ifCond => exact zx_ifCond hS1 hS2 hi hl hn hs hR h
  | if_icmp => exact zx_if_icmp hS1 hS2 hi hl hn hs hR h
  | lookupswitch => exact zx_lookupswitch hS1 hS2 hi hl hn hs hR h
  | iaload => exact zx_iaload hS1 hS2 hi hl hn hs hR h
  | baload => exact zx_baload hS1 hS2 hi hl hn hs hR h
  | laload => exact zx_laload hS1 hS2 hi hl hn hs hR h
  | aaload => exact zx_aaload hS1 hS2 hi hl hn hs hR h
  | getfield => exact zx_getfield hS1 hS2 hi hl hn hs hR h
  | iconst => exact zx_iconst hk hS1 hi hl hn hs hR h
  | bipush => exact zx_bipush hk hS1 hi hl hn hs hR h
  | sipush => exact zx_sipush hk hS1 hi hl hn hs hR h
  | lconst => exact zx_lconst hk hS1 hi hl hn hs hR h
  | aconst_null => exact zx_aconst_null hk hS1 hi hl hn hs hR h
  | ldc => exact zx_ldc hk hS1 hi hl hn hs hR h
  | ldc_w => exact zx_ldc_w hk hS1 hi hl hn hs hR h
  | ldc2_w => exact zx_ldc2_w hk hS1 hi hl hn hs hR h
  | tableswitch => exact zx_tableswitch hS2 hi hl hn hs hR h
  | arraylength => exact zx_arraylength hS1 hi hl hn hs hR h
  | iastore => exact zx_iastore hS1 hi hl hn hs hR h
  | lastore => exact zx_lastore hS1 hi hl hn hs hR h
  | bastore => exact zx_bastore hS1 hi hl hn hs hR h
  | putfield => exact zx_putfield hk hS1 hi hl hn hs hR h
  | ifnull => exact zx_null false hS1 hS2 hi hl hn hs hR h
  | ifnonnull => exact zx_null true hS1 hS2 hi hl hn hs hR h
  | invokevirtual => exact zx_invokevirtual hk hc hS1 hi hl hn hs hR h
  | invokespecial => exact zx_invokespecial hk hc hS1 hi hl hn hs hR h
  | invokestatic => exact zx_invokestatic hk hc hS1 hi hl hn hs hR h
  | ireturn =>
    obtain ⟨res, h1, h2⟩ := zx_ireturn (lz := lz) hs hR h
    exact ⟨0, res, h1 0, h2⟩
  | lreturn =>
    obtain ⟨res, h1, h2⟩ := zx_lreturn (lz := lz) hs hR h
    exact ⟨0, res, h1 0, h2⟩
  | areturn =>
    obtain ⟨res, h1, h2⟩ := zx_areturn (lz := lz) hs hR h
    exact ⟨0, res, h1 0, h2⟩
  | return_ =>
    obtain ⟨res, h1, h2⟩ := zx_return_ (lz := lz) hs hR h
    exact ⟨0, res, h1 0, h2⟩
  | _ => first | (exact absurd (show false = true from h) (by decide)) | (exact absurd (show false = true from hk) (by decide))
end ZY
theorem zx_run {call : xm_C} (hc : zcc call) {full : List xm_E} (hS : ∀ k, zSx (xm_drop k full)) {nL mc ms : Nat} {ret : Option FieldType} {Q1 : xm_Q} {E : xm_R} : ∀ (N : Nat), zJH full (xm_run call full nL mc ms ret Q1 N) nL E (fun res => ∃ v G', zres ret v res.1 ∧ zR G' res.2 ∧ Q1 v G' E = true)
  | 0 => fun suf hs0 lv st G kc ks lz zst s hl hn hs hR h => by
    have h : false = true := h
    cases h
  | N + 1 => fun suf hs0 lv st G kc ks lz zst s hl hn hs hR h => by
    match suf, hs0, h with
    | [], _, h =>
      have h : false = true := h
      cases h
    | (pc, i, a, b, ts, v) :: rest, hs0, h =>
      obtain ⟨F, res, f1, f2⟩ := zx_body (hs0 _ List.mem_cons_self) hc (fun e he => hs0 e (List.mem_cons_of_mem _ he)) hS (zx_run hc hS N) hl hn hs hR h
      exact ⟨F + 1, res, f1, f2⟩
noncomputable def zckm (m : Nat) : Bool := match xm_nth xm_mtab m with
  | some (_, _, _, _, _, _, _, _, c) => c.all zck
  | none => false
theorem zckm_1 : ∀ m < 60, (!(zokm m) || zckm m) = true := by decide +kernel
theorem zckm_2 : ∀ m < 60, (!(zokm (m + 60)) || zckm (m + 60)) = true := by decide +kernel
theorem zckm_3 : ∀ m < 60, (!(zokm (m + 120)) || zckm (m + 120)) = true := by decide +kernel
theorem zckm_4 : ∀ m < 61, (!(zokm (m + 180)) || zckm (m + 180)) = true := by decide +kernel
theorem zckm_all {m : Nat} (h : zokm m = true) : zckm m = true := by
  have hm : m < 241 := by
    unfold zokm at h
    rw [Bool.and_eq_true, Bool.and_eq_true] at h
    exact Nat.le_of_ble_eq_true h.2.1
  have key : (!(zokm m) || zckm m) = true := by
    by_cases h1 : m < 60
    · exact zckm_1 m h1
    · by_cases h2 : m < 120
      · have := zckm_2 (m - 60) (by omega)
        rw [show m - 60 + 60 = m by omega] at this
        exact this
      · by_cases h3 : m < 180
        · have := zckm_3 (m - 120) (by omega)
          rw [show m - 120 + 120 = m by omega] at this
          exact this
        · have := zckm_4 (m - 180) (by omega)
          rw [show m - 180 + 180 = m by omega] at this
          exact this
  rw [h] at key
  exact key
theorem zx_exec : ∀ (d : Nat), zcc (xm_exec d)
  | 0 => fun m r1 y r3 nL ret n mc ms c hok hm As zs G E Q1 s ha hR h => by
    have h : false = true := h
    cases h
  | d + 1 => fun m r1 y r3 nL ret n mc ms c hok hm As zs G E Q1 s ha hR h => by
    replace h : (match (generalizing := false) xm_nth xm_mtab m with
      | some (_, _, _, nL, ret, _, mc, ms, c) => bif xm_nx c 0 && Nat.ble (xm_cats As) nL then xm_run (xm_exec d) c nL mc ms ret Q1 xm_fuel c (lv_args 0 As) [] G E 0 0 else false
      | none => false) = true := h
    have hck := zckm_all hok
    unfold zckm at hck
    rw [hm] at h hck
    dsimp only at h hck
    cases hc : (xm_nx c 0 && Nat.ble (xm_cats As) nL) with
    | false => rw [hc] at h; cases h
    | true =>
      rw [hc, cond_true] at h
      rw [Bool.and_eq_true] at hc
      have hle := Nat.le_of_ble_eq_true hc.2
      have hS : ∀ k, zSx (xm_drop k c) := fun k e he => by
        rw [xl_drop] at he
        exact List.all_eq_true.mp hck e (List.mem_of_mem_drop he)
      have hS0 : zSx c := fun e he => List.all_eq_true.mp hck e he
      obtain ⟨F, res, f1, f2⟩ := zx_run (zx_exec d) hS xm_fuel c hS0 (lv_args 0 As) [] G 0 0 (zpad nL (zslots zs)) [] s (fun q hq => by
        obtain ⟨b1, b2, b3, b4⟩ := zl_args As zs 0 ha q hq
        exact ⟨b3, by rw [zl_pad (by omega)]; exact b4⟩) zl_padl trivial hR h
      exact ⟨F, res.1, res.2, f1, f2⟩
/-- a contract gives the flat machine's answer, with what is said of it -/
theorem zE_of {I : yI} {Inv : xm_H → Prop} {d m r1 nL n mc ms : Nat} {y : MethodName} {r3 : ByteArray} {ret : Option FieldType} {c : List xm_E} (hc : yc_ok Inv I (xm_exec d)) (hok : zokm I.1 = true) (hm : xm_nth xm_mtab I.1 = some (r1, y, r3, nL, ret, n, mc, ms, c)) {G : xm_H} {As : List Value} {zs : List zV} {s : zS} (E : xm_R) (hT : ys_HT G) (hI : Inv G) (hA : ys_args As I.2.1) (hf : ys_facts G (fun i => As[i]?) I.2.2.1) (ha : zsr As zs) (hR : zR G s) : ∃ r s', zE c (zpad nL (zslots zs)) s r s' ∧ ∃ v G', zres ret v r ∧ zR G' s' ∧ ys_HT G' ∧ Inv G' ∧ ys_Fr I.2.2.2.2 G G' ∧ ∃ c ∈ I.2.2.2.1, ys_case c As v G' := by
  obtain ⟨F, r, s', f1, v, G', f2, f3, f4⟩ := zx_exec d I.1 r1 y r3 nL ret n mc ms c hok hm As zs G E (fun v G' _ => @decide (ys_HT G' ∧ Inv G' ∧ ys_Fr I.2.2.2.2 G G' ∧ ∃ c ∈ I.2.2.2.1, ys_case c As v G') (Classical.propDecidable _)) s ha hR (hc G As E _ hT hI hA hf (fun r G' h1 h2 h3 h4 => @decide_eq_true _ (Classical.propDecidable _) ⟨h1, h2, h3, h4⟩))
  have f4 := @of_decide_eq_true _ (Classical.propDecidable _) f4
  exact ⟨r, s', ⟨F, f1⟩, v, G', f2, f3, f4.1, f4.2.1, f4.2.2.1, f4.2.2.2⟩

