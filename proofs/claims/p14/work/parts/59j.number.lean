section XM
variable {call : xm_C} {nL mc ms : Nat} {ret : Option FieldType} {Q : xm_Q} {f : Nat} {lv : xm_L} {st : List Value} {G : xm_H} {E : xm_R} {kc ks : Nat}
theorem xz_125_0 : xm_run call xm_c125 nL mc ms ret Q (f + 1) (xm_drop 0 xm_c125) lv st G E kc ks = ((match xm_get lv 0 with
    | some w => bif xm_isL w then xm_run call xm_c125 nL mc ms ret Q f (xm_drop 1 xm_c125) lv (w :: st) G E kc ks else false
    | none => false)) := rfl
theorem xz_125_1 : xm_run call xm_c125 nL mc ms ret Q (f + 1) (xm_drop 1 xm_c125) lv st G E kc ks = ((match xm_get lv 2 with
    | some w => bif xm_isL w then xm_run call xm_c125 nL mc ms ret Q f (xm_drop 2 xm_c125) lv (w :: st) G E kc ks else false
    | none => false)) := rfl
theorem xz_125_2 : xm_run call xm_c125 nL mc ms ret Q (f + 1) (xm_drop 2 xm_c125) lv st G E kc ks = ((match st with
    | w :: u :: st => xm_cmpL E u w (fun E s => xm_run call xm_c125 nL mc ms ret Q f (xm_drop 3 xm_c125) lv (.int (Int32.ofInt s) :: st) G E kc ks)
    | _ => false)) := rfl
theorem xz_125_3 : xm_run call xm_c125 nL mc ms ret Q (f + 1) (xm_drop 3 xm_c125) lv st G E kc ks = ((match st with
    | w :: st => xm_cmpI E w (.int 0) (fun E s => bif xm_holds .lt s then xm_run call xm_c125 nL mc ms ret Q f (xm_drop 10 xm_c125) lv st G E kc ks else xm_run call xm_c125 nL mc ms ret Q f (xm_drop 4 xm_c125) lv st G E kc ks)
    | _ => false)) := rfl
theorem xz_125_4 : xm_run call xm_c125 nL mc ms ret Q (f + 1) (xm_drop 4 xm_c125) lv st G E kc ks = ((match xm_get lv 0 with
    | some w => bif xm_isL w then xm_run call xm_c125 nL mc ms ret Q f (xm_drop 5 xm_c125) lv (w :: st) G E kc ks else false
    | none => false)) := rfl
theorem xz_125_5 : xm_run call xm_c125 nL mc ms ret Q (f + 1) (xm_drop 5 xm_c125) lv st G E kc ks = ((match xm_get lv 4 with
    | some w => bif xm_isL w then xm_run call xm_c125 nL mc ms ret Q f (xm_drop 6 xm_c125) lv (w :: st) G E kc ks else false
    | none => false)) := rfl
theorem xz_125_6 : xm_run call xm_c125 nL mc ms ret Q (f + 1) (xm_drop 6 xm_c125) lv st G E kc ks = ((match st with
    | w :: u :: st => xm_cmpL E u w (fun E s => xm_run call xm_c125 nL mc ms ret Q f (xm_drop 7 xm_c125) lv (.int (Int32.ofInt s) :: st) G E kc ks)
    | _ => false)) := rfl
theorem xz_125_7 : xm_run call xm_c125 nL mc ms ret Q (f + 1) (xm_drop 7 xm_c125) lv st G E kc ks = ((match st with
    | w :: st => xm_cmpI E w (.int 0) (fun E s => bif xm_holds .gt s then xm_run call xm_c125 nL mc ms ret Q f (xm_drop 10 xm_c125) lv st G E kc ks else xm_run call xm_c125 nL mc ms ret Q f (xm_drop 8 xm_c125) lv st G E kc ks)
    | _ => false)) := rfl
theorem xz_125_8 : xm_run call xm_c125 nL mc ms ret Q (f + 1) (xm_drop 8 xm_c125) lv st G E kc ks = (xm_run call xm_c125 nL mc ms ret Q f (xm_drop 9 xm_c125) lv ((.int 1) :: st) G E kc ks) := rfl
theorem xz_125_9 : xm_run call xm_c125 nL mc ms ret Q (f + 1) (xm_drop 9 xm_c125) lv st G E kc ks = (xm_run call xm_c125 nL mc ms ret Q f (xm_drop 11 xm_c125) lv st G E kc ks) := rfl
theorem xz_125_10 : xm_run call xm_c125 nL mc ms ret Q (f + 1) (xm_drop 10 xm_c125) lv st G E kc ks = (xm_run call xm_c125 nL mc ms ret Q f (xm_drop 11 xm_c125) lv ((.int 0) :: st) G E kc ks) := rfl
theorem xz_125_11 : xm_run call xm_c125 nL mc ms ret Q (f + 1) (xm_drop 11 xm_c125) lv st G E kc ks = ((match st with
    | [w] => bif xm_isI w && (xm_rok ret w && (Nat.ble kc mc && Nat.ble ks ms)) then Q (some w) G E else false
    | _ => false)) := rfl
end XM
/-! the reference's fails, in, numberHere -/
theorem yO_putHT {md : yM} {G : xm_H} {vs : List Value} {i : Nat} {w : Value} {T : yT} (hT : ys_HT G) (h : yO G vs) (ht : ∃ q, yr_row 93 = some q ∧ q.1 = 11 ∧ yr_ty q i = some T) (hw : ys_T T w) (hm : ym_mod md 93 i = true) : ys_HT (xm_hput G 344 (11, vs.set i w)) ∧ ys_Fr md G (xm_hput G 344 (11, vs.set i w)) ∧ yO (xm_hput G 344 (11, vs.set i w)) (vs.set i w) := by
  obtain ⟨q, q0, q1, q2⟩ := ht
  have hh := hT.put (md := md) (j := 344) (i := i) (q := q) (w := w) (vs := vs) (by rw [ym_344]; exact q0) (by rw [q1]; exact h.1) q2 hw (by rw [ym_344]; exact hm)
  rw [q1, xl_put] at hh
  exact ⟨hh.1, hh.2, by rw [xl_hput, if_pos rfl], by rw [List.length_set]; exact h.2⟩
theorem yO_t9 : ∃ q, yr_row 93 = some q ∧ q.1 = 11 ∧ yr_ty q 9 = some yr_top := ⟨_, rfl, rfl, rfl⟩
theorem yO_t10 : ∃ q, yr_row 93 = some q ∧ q.1 = 11 ∧ yr_ty q 10 = some yr_top := ⟨_, rfl, rfl, rfl⟩
theorem yO_get {G : xm_H} {vs : List Value} (h : yO G vs) {i : Nat} (hi : i < 36) : ∃ v, vs[i]? = some v := ⟨_, List.getElem?_eq_getElem (by have := h.2; omega)⟩
theorem yO_int {G : xm_H} {vs : List Value} (hT : ys_HT G) (h : yO G vs) {i : Nat} {T : yT} (hi : i < 36) (ht : ∃ q, yr_row 93 = some q ∧ q.1 = 11 ∧ yr_ty q i = some T) (h0 : T.1 = 0) : ∃ x : Int32, vs[i]? = some (.int x) ∧ T.2.1 ≤ x.toInt ∧ x.toInt ≤ T.2.2 := by
  obtain ⟨q, q0, q1, q2⟩ := ht
  obtain ⟨us, g1, g2, g3⟩ := hT.at ym_344 q0
  rw [q1, h.1] at g1
  cases g1
  obtain ⟨v, hv⟩ := yO_get h hi
  obtain ⟨T', t1, t2⟩ := g3 i v hv
  rw [q2] at t1
  cases t1
  obtain ⟨x, rfl, w⟩ := yv_int t2 h0
  exact ⟨x, hv, w⟩
theorem yO_fails {Q : xm_Q} {G : xm_H} {E : xm_R} {vs : List Value} {d : Nat} {k a : Int32} (hT : ys_HT G) (hM : yO G vs) (hQ : ∀ G', ys_HT G' → ys_Fr [(93, 9)] G G' → Q (some (.int 0)) G' E = true) : xm_exec (d + 1) 131 [.ref 344, .int k, .int a] G E Q = true := by
  refine yx_exec (m := 131) rfl rfl (Nat.le_of_ble_eq_true rfl) ?_
  obtain ⟨g, hg⟩ : ∃ g, xm_fuel = g + 30 := ⟨xm_fuel - 30, by have := yl_fuel 30 (by omega); omega⟩
  rw [hg]
  have l0 : xm_get (lv_args 0 [Value.ref 344, .int k, .int a]) 0 = some (.ref 344) := rfl
  have l1 : xm_get (lv_args 0 [Value.ref 344, .int k, .int a]) 1 = some (.int k) := rfl
  have l2 : xm_get (lv_args 0 [Value.ref 344, .int k, .int a]) 2 = some (.int a) := rfl
  obtain ⟨w, h9, -⟩ := yO_int hT hM (i := 9) (by omega) yO_t9 rfl
  show xm_run (xm_exec d) xm_c131 3 0 0 (some .boolean) Q (g + 30) (xm_drop 0 xm_c131) (lv_args 0 [.ref 344, .int k, .int a]) [] G E 0 0 = true
  simp only [xz_131_0, xz_131_1, xz_131_2, l0, xm_isA, cond_true, xk_getf hM.1 h9, xc_int]
  cases hq : xm_holds .ne (xm_sgn w.toInt (0 : Int32).toInt) with
  | true =>
    rw [cond_true]
    simp only [xz_131_12, xz_131_13, xm_isI, cond_true]
    exact hQ G hT (ys_Fr.refl _ _)
  | false =>
    rw [cond_false]
    simp only [xz_131_3, xz_131_4, xz_131_5, xz_131_6, xz_131_7, xz_131_8, xz_131_9, xz_131_10, xz_131_11, l0, l1, l2, xm_isI, xm_isA, cond_true, xk_mul, xk_add]
    rw [xk_putf hM.1 (by decide) rfl (by rw [hM.2]; decide)]
    obtain ⟨p1, p2, p3⟩ := yO_putHT (md := [(93, 9)]) (i := 9) (w := .int (1 + 8 * a + k)) hT hM yO_t9 ⟨rfl, ys_b32 _⟩ rfl
    simp only [xz_131_12, xz_131_13, xm_isI, cond_true]
    exact hQ _ p1 p2
theorem yO_in {Q : xm_Q} {G : xm_H} {E : xm_R} {d : Nat} {v lo hi : Int64} (hQ : ∀ r : Int32, (r = 0 ∨ (r = 1 ∧ lo.toInt ≤ v.toInt ∧ v.toInt ≤ hi.toInt)) → Q (some (.int r)) G E = true) : xm_exec (d + 1) 125 [.long v, .long lo, .long hi] G E Q = true := by
  refine yx_exec (m := 125) rfl rfl (Nat.le_of_ble_eq_true rfl) ?_
  obtain ⟨g, hg⟩ : ∃ g, xm_fuel = g + 30 := ⟨xm_fuel - 30, by have := yl_fuel 30 (by omega); omega⟩
  rw [hg]
  have l0 : xm_get (lv_args 0 [Value.long v, .long lo, .long hi]) 0 = some (.long v) := rfl
  have l1 : xm_get (lv_args 0 [Value.long v, .long lo, .long hi]) 2 = some (.long lo) := rfl
  have l2 : xm_get (lv_args 0 [Value.long v, .long lo, .long hi]) 4 = some (.long hi) := rfl
  have cl : ∀ (E : xm_R) (x z : Int64) (k : xm_R → Int → Bool), xm_cmpL E (.long x) (.long z) k = k E (xm_sgn x.toInt z.toInt) := fun _ _ _ _ => rfl
  have sg : ∀ a b : Int, (Int32.ofInt (xm_sgn a b)).toInt = xm_sgn a b := fun a b => ys_of32 (by unfold xm_sgn; cases decide (a < b) <;> cases decide (a = b) <;> decide) (by unfold xm_sgn; cases decide (a < b) <;> cases decide (a = b) <;> decide)
  have e0 : (0 : Int32).toInt = 0 := rfl
  have hlt : ∀ a b : Int, xm_holds .lt (xm_sgn (xm_sgn a b) 0) = decide (a < b) := fun a b => by
    rw [xk_lt]
    unfold xm_sgn
    by_cases h : a < b
    · rw [decide_eq_true h]; rfl
    · rw [decide_eq_false h]
      cases decide (a = b) <;> rfl
  have hgt : ∀ a b : Int, xm_holds .gt (xm_sgn (xm_sgn a b) 0) = decide (b < a) := fun a b => by
    rw [xk_gt]
    unfold xm_sgn
    by_cases h : a < b
    · rw [decide_eq_true h, decide_eq_false (show ¬ b < a by omega)]; rfl
    · by_cases h2 : a = b
      · rw [decide_eq_false h, decide_eq_true h2, decide_eq_false (show ¬ b < a by omega)]; rfl
      · rw [decide_eq_false h, decide_eq_false h2, decide_eq_true (show b < a by omega)]; rfl
  have t10 : ∀ F, 2 ≤ F → xm_run (xm_exec d) xm_c125 6 0 0 (some .boolean) Q F (xm_drop 10 xm_c125) (lv_args 0 [.long v, .long lo, .long hi]) [] G E 0 0 = true := by
    intro F hF
    obtain ⟨g, rfl⟩ : ∃ g, F = g + 2 := ⟨F - 2, by omega⟩
    simp only [xz_125_10, xz_125_11, xm_isI, cond_true]
    exact hQ 0 (Or.inl rfl)
  show xm_run (xm_exec d) xm_c125 6 0 0 (some .boolean) Q (g + 30) (xm_drop 0 xm_c125) (lv_args 0 [.long v, .long lo, .long hi]) [] G E 0 0 = true
  simp only [xz_125_0, xz_125_1, xz_125_2, xz_125_3, l0, l1, xm_isL, cond_true, cl, xc_int, sg, e0, hlt]
  by_cases h1 : v.toInt < lo.toInt
  · rw [decide_eq_true h1, cond_true]
    exact t10 _ (by omega)
  · rw [decide_eq_false h1, cond_false]
    simp only [xz_125_4, xz_125_5, xz_125_6, xz_125_7, l0, l2, xm_isL, cond_true, cl, xc_int, sg, e0, hgt]
    by_cases h2 : hi.toInt < v.toInt
    · rw [decide_eq_true h2, cond_true]
      exact t10 _ (by omega)
    · rw [decide_eq_false h2, cond_false]
      simp only [xz_125_8, xz_125_9]
      simp only [xz_125_11, xm_isI, cond_true]
      exact hQ 1 (Or.inr ⟨rfl, by omega, by omega⟩)
