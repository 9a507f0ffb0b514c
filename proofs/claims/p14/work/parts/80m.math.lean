/-! Math.max, min, abs; String.length, charAt: rows of the machine -/
set_option maxRecDepth 20000 in
theorem xn_l13 {d L x : Nat} (h2 : 64 * (d + 9) ≤ L) (hx : x ≤ 8) : x + 13 ≤ L := by omega
set_option maxRecDepth 20000 in
theorem xn_l300 {d L : Nat} (h2 : 64 * (d + 9) ≤ L) : 300 ≤ L := by omega
section XMS
variable {p : Program} {l : Launch} {e : Env} {R : Room} {s : State} {m : MethodId} {args : Array Value} {below : List Frame} {meth : Method} {c : Code} {Qf : State → Prop} {cc : ByteArray} {nL o : Nat} {Z : xs_Z}
variable {lv : xm_L} {st : List Value} {G : xm_H} {E : xm_R} {kc ks pc mc ms : Nat} {k : xm_K} {H : Heap} {locs : List Loc} {ls : Array Slot}
theorem xb_max (X : xs_Cx p s m args c cc nL o Z) {d i : Nat} (hd : decode cc pc = .ok (.invokestatic i, 3)) (hml : xm_at3 (xm_ml o) (i, 1003, 0) = true) (hR : d + 9 ≤ R.frames ∧ 64 * (d + 9) ≤ R.locals) (hfit : kc ≤ R.cells ∧ ks ≤ R.slots) (hk : xm_math 1003 st (fun st => k lv st G E kc ks) = true) (g : xs_good p l e R s m args below meth c Qf nL Z k (pc + 3)) (S : xs_St Z nL lv G E H locs ls) : W p l e R s m args below meth c H locs kc ks Qf (F0 m pc ls (st.map (xs_cv Z))) := by
  obtain ⟨q, hq, e1, e2, e3⟩ := xs_at3 hml
  have h4 := List.all_eq_true.mp (xk_ml o X.2.2.2.2.2.2) q hq
  unfold xm_mlok at h4
  rw [e1, e2] at h4
  have h4 : xm_w q.2.2.2 (.methodLink (xm_own o) i Lib.Math.max.name) = true := h4
  replace hk : (match (generalizing := false) st with
    | .int y :: .int x :: st => bif Nat.ble (xm_cats st) 8 then k lv (.int (if x < y then y else x) :: st) G E kc ks else false
    | _ => false) = true := hk
  split at hk
  · rename_i y x st'
    cases c2 : Nat.ble (xm_cats st') 8 with
    | false => rw [c2] at hk; cases hk
    | true =>
      rw [c2, cond_true] at hk
      have c2 : xm_cats st' ≤ 8 := Nat.le_of_ble_eq_true c2
      exact va_mmax (x := x) (y := y) (rest := st'.map (xs_cv Z)) X.1 X.2.1 (X.2.2.1.trans S.2.2.1.1.symm) X.2.2.2.1 (xs_word X h4) (xs_word X xk_b3) (xs_word X xk_b0) (xs_word X xk_b4) (by omega) (by rw [xs_cats]; exact xn_l13 hR.2 c2) hfit.1 hfit.2 hd (g lv (.int (if x < y then y else x) :: st') G E kc ks hk H locs ls S)
  · cases hk
theorem xb_min (X : xs_Cx p s m args c cc nL o Z) {d i : Nat} (hd : decode cc pc = .ok (.invokestatic i, 3)) (hml : xm_at3 (xm_ml o) (i, 1004, 0) = true) (hR : d + 9 ≤ R.frames ∧ 64 * (d + 9) ≤ R.locals) (hfit : kc ≤ R.cells ∧ ks ≤ R.slots) (hk : xm_math 1004 st (fun st => k lv st G E kc ks) = true) (g : xs_good p l e R s m args below meth c Qf nL Z k (pc + 3)) (S : xs_St Z nL lv G E H locs ls) : W p l e R s m args below meth c H locs kc ks Qf (F0 m pc ls (st.map (xs_cv Z))) := by
  obtain ⟨q, hq, e1, e2, e3⟩ := xs_at3 hml
  have h4 := List.all_eq_true.mp (xk_ml o X.2.2.2.2.2.2) q hq
  unfold xm_mlok at h4
  rw [e1, e2] at h4
  have h4 : xm_w q.2.2.2 (.methodLink (xm_own o) i Lib.Math.min.name) = true := h4
  replace hk : (match (generalizing := false) st with
    | .int y :: .int x :: st => bif Nat.ble (xm_cats st) 8 then k lv (.int (if y < x then y else x) :: st) G E kc ks else false
    | _ => false) = true := hk
  split at hk
  · rename_i y x st'
    cases c2 : Nat.ble (xm_cats st') 8 with
    | false => rw [c2] at hk; cases hk
    | true =>
      rw [c2, cond_true] at hk
      have c2 : xm_cats st' ≤ 8 := Nat.le_of_ble_eq_true c2
      exact va_mmin (x := x) (y := y) (rest := st'.map (xs_cv Z)) X.1 X.2.1 (X.2.2.1.trans S.2.2.1.1.symm) X.2.2.2.1 (xs_word X h4) (xs_word X xk_b1) (xs_word X xk_b0) (xs_word X xk_b2) (by omega) (by rw [xs_cats]; exact xn_l13 hR.2 c2) hfit.1 hfit.2 hd (g lv (.int (if y < x then y else x) :: st') G E kc ks hk H locs ls S)
  · cases hk
theorem xb_abs (X : xs_Cx p s m args c cc nL o Z) {d i : Nat} (hd : decode cc pc = .ok (.invokestatic i, 3)) (hml : xm_at3 (xm_ml o) (i, 1005, 0) = true) (hR : d + 9 ≤ R.frames ∧ 64 * (d + 9) ≤ R.locals) (hfit : kc ≤ R.cells ∧ ks ≤ R.slots) (hk : xm_math 1005 st (fun st => k lv st G E kc ks) = true) (g : xs_good p l e R s m args below meth c Qf nL Z k (pc + 3)) (S : xs_St Z nL lv G E H locs ls) : W p l e R s m args below meth c H locs kc ks Qf (F0 m pc ls (st.map (xs_cv Z))) := by
  obtain ⟨q, hq, e1, e2, e3⟩ := xs_at3 hml
  have h4 := List.all_eq_true.mp (xk_ml o X.2.2.2.2.2.2) q hq
  unfold xm_mlok at h4
  rw [e1, e2] at h4
  have h4 : xm_w q.2.2.2 (.methodLink (xm_own o) i Lib.Math.abs.name) = true := h4
  replace hk : (match (generalizing := false) st with
    | .int x :: st => bif Nat.ble (xm_cats st) 8 then xm_frc (if 0 ≤ x then x else 0 - x) (fun z => k lv (.int z :: st) G E kc ks) else false
    | _ => false) = true := hk
  split at hk
  · rename_i x st'
    cases c2 : Nat.ble (xm_cats st') 8 with
    | false => rw [c2] at hk; cases hk
    | true =>
      rw [c2, cond_true, xl_frc] at hk
      have c2 : xm_cats st' ≤ 8 := Nat.le_of_ble_eq_true c2
      exact va_mabs (x := x) (rest := st'.map (xs_cv Z)) X.1 X.2.1 (X.2.2.1.trans S.2.2.1.1.symm) X.2.2.2.1 (xs_word X h4) (xs_word X xk_b5) (xs_word X xk_b0) (xs_word X xk_b6) (by omega) (by rw [xs_cats]; exact xn_l13 hR.2 c2) hfit.1 hfit.2 hd (g lv (.int (if 0 ≤ x then x else 0 - x) :: st') G E kc ks hk H locs ls S)
  · cases hk
theorem xs_strv (X : xs_Cx p s m args c cc nL o Z) (S : xs_St Z nL lv G E H locs ls) {j : Nat} {bs : List Nat} (h : xm_strv j G = some bs) : ∃ av : Nat, xn_W1 (xs_rho Z j) av bs s H ∧ bs ∈ xm_stb := by
  unfold xm_strv at h
  cases h0 : xm_hget G j with
  | none => rw [h0] at h; cases h
  | some q =>
    obtain ⟨t, vs⟩ := q
    rw [h0] at h
    dsimp only at h
    cases h1 : (Nat.ble 200 t && Nat.blt t 206) with
    | false => rw [h1] at h; cases h
    | true =>
      rw [h1, cond_true, xl_nth] at h
      rw [Bool.and_eq_true] at h1
      have t1 : 200 ≤ t := Nat.le_of_ble_eq_true h1.1
      have t2 : t < 206 := Nat.le_of_ble_eq_true h1.2
      obtain ⟨hj, hh⟩ := S.2.1.2.2 j _ h0
      rcases hh with ⟨r', q1, -⟩ | ⟨-, q, -⟩ | ⟨q, -⟩ | ⟨-, -, q3, q4⟩ | ⟨q, -⟩
      · have q1 : xm_cls[t]? = some r' := q1
        rw [xs_nocls (by omega)] at q1
        cases q1
      · have q : t < 108 := q
        omega
      · have q : t = 302 := q
        omega
      · have q3 : j + 199 = t := q3
        obtain ⟨hz, adV, hS⟩ := X.2.2.2.2.2.1.2.2.2.1.2.2.2
        have hW := hS (t - 200) bs h
        have hr : xs_rho Z j = Z.2.2.2.1 (t - 200 + 1) := by
          unfold xs_rho
          rw [if_pos (by omega), show t - 200 + 1 = j by omega]
        rw [hr]
        exact ⟨adV (t - 200), hW.kept (fun q hq => q4 q (Nat.lt_of_lt_of_le hq hz)), List.mem_of_getElem? h⟩
      · have q : t = 301 := q
        omega
theorem xb_slen (X : xs_Cx p s m args c cc nL o Z) {d i : Nat} (hd : decode cc pc = .ok (.invokevirtual i, 3)) (hml : xm_at3 (xm_ml o) (i, 1006, 0) = true) (hR : d + 9 ≤ R.frames ∧ 64 * (d + 9) ≤ R.locals) (hfit : kc ≤ R.cells ∧ ks ≤ R.slots) (hk : xm_strl 1006 st G (fun st => k lv st G E kc ks) = true) (g : xs_good p l e R s m args below meth c Qf nL Z k (pc + 3)) (S : xs_St Z nL lv G E H locs ls) : W p l e R s m args below meth c H locs kc ks Qf (F0 m pc ls (st.map (xs_cv Z))) := by
  obtain ⟨q, hq, e1, e2, e3⟩ := xs_at3 hml
  have h4 := List.all_eq_true.mp (xk_ml o X.2.2.2.2.2.2) q hq
  unfold xm_mlok at h4
  rw [e1, e2] at h4
  have h4 : xm_w q.2.2.2 (.methodLink (xm_own o) i xn_y1) = true := h4
  have S0 : CallFix p m c cc nL s args xm_tb (xm_own o) := ⟨X.1, X.2.1, X.2.2.1, X.2.2.2.1, X.2.2.2.2.1⟩
  replace hk : (match (generalizing := false) st with
    | .ref j :: st => (match xm_strv j G with
      | some bs => bif Nat.ble (xm_cats st) 8 then k lv (.int (Int32.ofNat (xm_len bs)) :: st) G E kc ks else false
      | none => false)
    | _ => false) = true := hk
  split at hk
  · rename_i j st'
    cases hv : xm_strv j G with
    | none => rw [hv] at hk; cases hk
    | some bs =>
      rw [hv] at hk
      dsimp only at hk
      cases c2 : Nat.ble (xm_cats st') 8 with
      | false => rw [c2] at hk; cases hk
      | true =>
        rw [c2, cond_true, xl_len] at hk
        have c2 : xm_cats st' ≤ 8 := Nat.le_of_ble_eq_true c2
        obtain ⟨av, hW, hm⟩ := xs_strv X S hv
        refine xn_callV (n := 0) (b := xs_rho Z j) (As := []) (rest := st'.map (xs_cv Z)) S0 (xn_M1 l (a := xs_rho Z j) (av := av) (xn_stb bs hm).1) xk_s3 xk_s26 (xk_w h4) xk_s1 xk_s2 (by decide) (by decide +kernel) ⟨Nat.le_trans (by omega) hR.1, Nat.le_trans (by decide) (xn_l300 hR.2)⟩ hfit (xn_bl _ av bs _) (xn_recv hW) (fun U hU hWm => ⟨rfl, by rw [hU]; exact hW.moved hWm.alike⟩) rfl S.2.2.1.1 (by rw [xs_cats]; exact c2) hd ?_
        exact g lv (.int (Int32.ofNat bs.length) :: st') G E kc ks hk H locs ls S
  · cases hk
theorem xb_schar (X : xs_Cx p s m args c cc nL o Z) {d i : Nat} (hd : decode cc pc = .ok (.invokevirtual i, 3)) (hml : xm_at3 (xm_ml o) (i, 1007, 0) = true) (hR : d + 9 ≤ R.frames ∧ 64 * (d + 9) ≤ R.locals) (hfit : kc ≤ R.cells ∧ ks ≤ R.slots) (hk : xm_strl 1007 st G (fun st => k lv st G E kc ks) = true) (g : xs_good p l e R s m args below meth c Qf nL Z k (pc + 3)) (S : xs_St Z nL lv G E H locs ls) : W p l e R s m args below meth c H locs kc ks Qf (F0 m pc ls (st.map (xs_cv Z))) := by
  obtain ⟨q, hq, e1, e2, e3⟩ := xs_at3 hml
  have h4 := List.all_eq_true.mp (xk_ml o X.2.2.2.2.2.2) q hq
  unfold xm_mlok at h4
  rw [e1, e2] at h4
  have h4 : xm_w q.2.2.2 (.methodLink (xm_own o) i xn_y3) = true := h4
  have S0 : CallFix p m c cc nL s args xm_tb (xm_own o) := ⟨X.1, X.2.1, X.2.2.1, X.2.2.2.1, X.2.2.2.2.1⟩
  replace hk : (match (generalizing := false) st with
    | .int x :: .ref j :: st => (match xm_strv j G with
      | some bs => bif Nat.ble (xm_cats st) 8 && decide (0 ≤ x.toInt) then (match xm_nth bs x.toInt.toNat with
        | some c => k lv (.int (Int32.ofNat c) :: st) G E kc ks
        | none => false) else false
      | none => false)
    | _ => false) = true := hk
  split at hk
  · rename_i x j st'
    cases hv : xm_strv j G with
    | none => rw [hv] at hk; cases hk
    | some bs =>
      rw [hv] at hk
      dsimp only at hk
      cases c2 : (Nat.ble (xm_cats st') 8 && decide (0 ≤ x.toInt)) with
      | false => rw [c2] at hk; cases hk
      | true =>
        rw [c2, cond_true, xl_nth] at hk
        rw [Bool.and_eq_true, decide_eq_true_eq] at c2
        have c3 : xm_cats st' ≤ 8 := Nat.le_of_ble_eq_true c2.1
        cases hb : bs[x.toInt.toNat]? with
        | none => rw [hb] at hk; cases hk
        | some ch =>
          rw [hb] at hk
          dsimp only at hk
          obtain ⟨av, hW, hm⟩ := xs_strv X S hv
          refine xn_callV (n := 1) (b := xs_rho Z j) (As := [.int x]) (rest := st'.map (xs_cv Z)) S0 (xn_M3 l (a := xs_rho Z j) (av := av) (xn_stb bs hm).1 c2.2 hb ((xn_stb bs hm).2 ch (List.mem_of_getElem? hb))) xk_s11 xk_s26 (xk_w h4) xk_s9 xk_s10 (by decide) (by decide +kernel) ⟨Nat.le_trans (by omega) hR.1, Nat.le_trans (by decide) (xn_l300 hR.2)⟩ hfit (xn_bl _ av bs _) (xn_recv hW) (fun U hU hWm => ⟨rfl, by rw [hU]; exact hW.moved hWm.alike⟩) rfl S.2.2.1.1 (by rw [xs_cats]; exact c3) hd ?_
          exact g lv (.int (Int32.ofNat ch) :: st') G E kc ks hk H locs ls S
  · cases hk
end XMS
/-! a run that stays within its room at every step -/
def xn_fi (mc ms : Nat) (ih : List xm_E → xm_K) : List xm_E → xm_K := fun suf lv st G E kc ks => Nat.ble kc mc && (Nat.ble ks ms && ih suf lv st G E kc ks)
theorem xn_fi_eq {mc ms kc ks : Nat} (h1 : kc ≤ mc) (h2 : ks ≤ ms) (ih : List xm_E → xm_K) (suf : List xm_E) (lv : xm_L) (st : List Value) (G : xm_H) (E : xm_R) : xn_fi mc ms ih suf lv st G E kc ks = ih suf lv st G E kc ks := by
  unfold xn_fi
  rw [Nat.ble_eq_true_of_le h1, Nat.ble_eq_true_of_le h2]
  rfl
theorem xn_fi_of {mc ms kc ks : Nat} {ih : List xm_E → xm_K} {suf : List xm_E} {lv : xm_L} {st : List Value} {G : xm_H} {E : xm_R} (h : xn_fi mc ms ih suf lv st G E kc ks = true) : kc ≤ mc ∧ ks ≤ ms ∧ ih suf lv st G E kc ks = true := by
  unfold xn_fi at h
  rw [Bool.and_eq_true, Bool.and_eq_true] at h
  exact ⟨Nat.le_of_ble_eq_true h.1, Nat.le_of_ble_eq_true h.2.1, h.2.2⟩
theorem xn_callk {call : xm_C} {mc ms a b : Nat} {st : List Value} {G : xm_H} {E : xm_R} {kc ks : Nat} {k k2 : List Value → xm_H → xm_R → Nat → Nat → Bool} (h : ∀ st G E kc ks, kc ≤ mc → ks ≤ ms → k2 st G E kc ks = k st G E kc ks) : xm_call call mc ms a b st G E kc ks k2 = xm_call call mc ms a b st G E kc ks k := by
  unfold xm_call
  cases hr : xm_nth xm_mtab a with
  | none => rfl
  | some r =>
    obtain ⟨ro, ry, rb, rL, rr, rn, rmc, rms, rcode⟩ := r
    dsimp only
    cases hc : (Nat.ble (kc + rmc) mc && Nat.ble (ks + rms) ms) with
    | false => rfl
    | true =>
      rw [Bool.and_eq_true] at hc
      have e0 : ∀ st G E, k2 st G E (kc + rmc) (ks + rms) = k st G E (kc + rmc) (ks + rms) := fun st G E => h st G E _ _ (Nat.le_of_ble_eq_true hc.1) (Nat.le_of_ble_eq_true hc.2)
      simp only [e0]
theorem xn_all {lo : Int} {k k2 : Int → Bool} (h : ∀ c, k c = true → k2 c = true) : ∀ n, xm_all lo n k = true → xm_all lo n k2 = true
  | 0, _ => rfl
  | n + 1, h1 => by
    have h1 : (k (lo + Int.ofNat n) && xm_all lo n k) = true := h1
    rw [Bool.and_eq_true] at h1
    show (k2 (lo + Int.ofNat n) && xm_all lo n k2) = true
    rw [Bool.and_eq_true]
    exact ⟨h _ h1.1, xn_all h n h1.2⟩
theorem xn_conc {E : xm_R} {v : Value} {k k2 : xm_R → Int32 → Bool} (h : ∀ E x, k E x = true → k2 E x = true) (h1 : xm_conc E v k = true) : xm_conc E v k2 = true := by
  cases v with
  | int x => exact h E x h1
  | retAddr i =>
    have h1 : (match xm_nth E i with
      | some (lo, hi) => cond (decide (hi - lo < 16)) (xm_all lo (hi - lo + 1).toNat (fun c => k (xm_put (c, c) E i) (Int32.ofInt c))) false
      | none => false) = true := h1
    show (match xm_nth E i with
      | some (lo, hi) => cond (decide (hi - lo < 16)) (xm_all lo (hi - lo + 1).toNat (fun c => k2 (xm_put (c, c) E i) (Int32.ofInt c))) false
      | none => false) = true
    cases hE : xm_nth E i with
    | none => rw [hE] at h1; cases h1
    | some q =>
      obtain ⟨lo, hi⟩ := q
      rw [hE] at h1
      dsimp only at h1 ⊢
      cases hd : decide (hi - lo < 16) with
      | false => rw [hd] at h1; cases h1
      | true =>
        rw [hd, cond_true] at h1
        rw [cond_true]
        exact xn_all (fun c => h _ _) _ h1
  | null => cases h1
  | long x => cases h1
  | float x => cases h1
  | double x => cases h1
  | ref x => cases h1
theorem xn_newak {t : Nat} {st : List Value} {G : xm_H} {E : xm_R} {kc ks mc ms : Nat} {k k2 : List Value → xm_H → xm_R → Nat → Nat → Bool} (h : ∀ st G E kc ks, kc ≤ mc → ks ≤ ms → k2 st G E kc ks = k st G E kc ks) (h1 : xm_newa t st G E kc ks mc ms k = true) : xm_newa t st G E kc ks mc ms k2 = true := by
  cases st with
  | nil => cases h1
  | cons w st =>
    have h1 : xm_conc E w (fun E x => bif decide (0 ≤ x.toInt) && (Nat.ble (kc + 1) mc && (Nat.ble (ks + x.toInt.toNat) ms && Nat.ble x.toInt.toNat 65536)) then
      k (.ref G.1 :: st) (xm_push G (t, xm_rep (xm_zero t) x.toInt.toNat)) E (kc + 1) (ks + x.toInt.toNat) else false) = true := h1
    show xm_conc E w (fun E x => bif decide (0 ≤ x.toInt) && (Nat.ble (kc + 1) mc && (Nat.ble (ks + x.toInt.toNat) ms && Nat.ble x.toInt.toNat 65536)) then
      k2 (.ref G.1 :: st) (xm_push G (t, xm_rep (xm_zero t) x.toInt.toNat)) E (kc + 1) (ks + x.toInt.toNat) else false) = true
    refine xn_conc (fun E x hx => ?_) h1
    cases hc : (decide (0 ≤ x.toInt) && (Nat.ble (kc + 1) mc && (Nat.ble (ks + x.toInt.toNat) ms && Nat.ble x.toInt.toNat 65536))) with
    | false => rw [hc] at hx; cases hx
    | true =>
      rw [hc, cond_true] at hx
      rw [cond_true]
      rw [Bool.and_eq_true, Bool.and_eq_true, Bool.and_eq_true] at hc
      rw [h _ _ _ _ _ (Nat.le_of_ble_eq_true hc.2.1) (Nat.le_of_ble_eq_true hc.2.2.1)]
      exact hx
theorem xn_fit0 {call : xm_C} {full : List xm_E} {nL mc ms : Nat} {ret : Option FieldType} {Q : xm_Q} {ih : List xm_E → xm_K} {e : xm_E} {rest : List xm_E} {lv : xm_L} {st : List Value} {G : xm_H} {E : xm_R} {kc ks : Nat} (he : ∀ ih1 : List xm_E → xm_K, xm_body call full nL mc ms ret Q ih1 e rest lv st G E kc ks = xm_body call full nL mc ms ret Q (fun suf lv st G E _ _ => ih1 suf lv st G E kc ks) e rest lv st G E kc ks) (h1 : kc ≤ mc) (h2 : ks ≤ ms) (h : xm_body call full nL mc ms ret Q ih e rest lv st G E kc ks = true) : xm_body call full nL mc ms ret Q (xn_fi mc ms ih) e rest lv st G E kc ks = true := by
  have e0 : (fun suf lv st G E (_ _ : Nat) => xn_fi mc ms ih suf lv st G E kc ks : List xm_E → xm_K) = (fun suf lv st G E (_ _ : Nat) => ih suf lv st G E kc ks) := by
    funext suf lv st G E _ _
    exact xn_fi_eq h1 h2 ih suf lv st G E
  exact (he (xn_fi mc ms ih)).trans ((congrArg (fun z : List xm_E → xm_K => xm_body call full nL mc ms ret Q z e rest lv st G E kc ks) e0).trans ((he ih).symm.trans h))
set_option maxHeartbeats 4000000 in
theorem xn_fit {call : xm_C} {full : List xm_E} {nL mc ms : Nat} {ret : Option FieldType} {Q : xm_Q} {ih : List xm_E → xm_K} {e : xm_E} {rest : List xm_E} {lv : xm_L} {st : List Value} {G : xm_H} {E : xm_R} {kc ks : Nat} (h1 : kc ≤ mc) (h2 : ks ≤ ms) (h : xm_body call full nL mc ms ret Q ih e rest lv st G E kc ks = true) : xm_body call full nL mc ms ret Q (xn_fi mc ms ih) e rest lv st G E kc ks = true := by
  have e1 : ∀ suf lv st G E, xn_fi mc ms ih suf lv st G E kc ks = ih suf lv st G E kc ks := fun suf lv st G E => xn_fi_eq h1 h2 ih suf lv st G E
  have hc : ∀ b a, xm_call call mc ms a b st G E kc ks (fun st G E kc ks => xn_fi mc ms ih rest lv st G E kc ks) = xm_call call mc ms a b st G E kc ks (fun st G E kc ks => ih rest lv st G E kc ks) := fun b a => xn_callk (fun st G E kc ks g1 g2 => xn_fi_eq g1 g2 ih rest lv st G E)
  obtain ⟨pc, i, a, b, ts, v⟩ := e
  cases i
  case newarray t => exact xn_newak (fun st G E kc ks g1 g2 => xn_fi_eq g1 g2 ih rest lv st G E) h
  case anewarray t => exact xn_newak (fun st G E kc ks g1 g2 => xn_fi_eq g1 g2 ih rest lv st G E) h
  case new t =>
    replace h : (match xm_nth xm_cls a with
      | some (_, _, n) => bif Nat.ble (kc + 1) mc && Nat.ble (ks + n) ms then ih rest lv (.ref G.1 :: st) (xm_push G (a, xm_def a)) E (kc + 1) (ks + n) else false
      | none => false) = true := h
    show (match xm_nth xm_cls a with
      | some (_, _, n) => bif Nat.ble (kc + 1) mc && Nat.ble (ks + n) ms then xn_fi mc ms ih rest lv (.ref G.1 :: st) (xm_push G (a, xm_def a)) E (kc + 1) (ks + n) else false
      | none => false) = true
    cases hq : xm_nth xm_cls a with
    | none => rw [hq] at h; cases h
    | some q =>
      obtain ⟨q1, q2, n⟩ := q
      rw [hq] at h
      dsimp only at h ⊢
      cases hb : (Nat.ble (kc + 1) mc && Nat.ble (ks + n) ms) with
      | false => rw [hb] at h; cases h
      | true =>
        rw [hb, cond_true] at h
        rw [cond_true]
        rw [Bool.and_eq_true] at hb
        rw [xn_fi_eq (Nat.le_of_ble_eq_true hb.1) (Nat.le_of_ble_eq_true hb.2)]
        exact h
  case invokevirtual t =>
    show (bif Nat.beq a 1006 || Nat.beq a 1007 then xm_strl a st G (fun st => xn_fi mc ms ih rest lv st G E kc ks) else xm_call call mc ms a 0 st G E kc ks (fun st G E kc ks => xn_fi mc ms ih rest lv st G E kc ks)) = true
    rw [hc]
    simp only [e1]
    exact h
  case invokestatic t =>
    show (bif Nat.beq a 1001 then xm_acopy st G (fun st G => xn_fi mc ms ih rest lv st G E kc ks) else bif Nat.beq a 1003 || (Nat.beq a 1004 || Nat.beq a 1005) then xm_math a st (fun st => xn_fi mc ms ih rest lv st G E kc ks) else bif Nat.beq b 3 then xm_call call mc ms a 3 st G E kc ks (fun st G E kc ks => xn_fi mc ms ih rest lv st G E kc ks) else xm_call call mc ms a 1 st G E kc ks (fun st G E kc ks => xn_fi mc ms ih rest lv st G E kc ks)) = true
    rw [hc, hc]
    simp only [e1]
    exact h
  case invokespecial t =>
    show (bif Nat.beq a 1000 then (match (generalizing := false) st with
        | .ref _ :: st => bif Nat.ble (xm_cats st) 8 then xn_fi mc ms ih rest lv st G E kc ks else false
        | _ => false)
      else bif Nat.beq b 4 then xm_call call mc ms a 4 st G E kc ks (fun st G E kc ks => xn_fi mc ms ih rest lv st G E kc ks) else xm_call call mc ms a 2 st G E kc ks (fun st G E kc ks => xn_fi mc ms ih rest lv st G E kc ks)) = true
    rw [hc, hc]
    simp only [e1]
    exact h
  all_goals exact xn_fit0 (fun _ => rfl) h1 h2 h
