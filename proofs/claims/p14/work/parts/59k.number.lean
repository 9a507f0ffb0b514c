/-- a byte of a range stands there -/
def yO_C (lo hi : Int) (bs : List Value) (t x : Int32) : Prop := x.toInt < t.toInt ∧ ∃ c : Int32, bs[x.toInt.toNat]? = some (.int c) ∧ lo ≤ c.toInt ∧ c.toInt ≤ hi
theorem yO_digits {Q : xm_Q} {G : xm_H} {E : xm_R} {vs bs : List Value} {tb d : Nat} {t : Int32} (hb1 : xm_hget G tb = some (101, bs)) (hb2 : ∀ x : Int32, 0 ≤ x.toInt → x.toInt < 400 → ∃ c : Int32, bs[x.toInt.toNat]? = some (.int c)) (h0 : vs[0]? = some (.ref tb)) (h1 : vs[1]? = some (.int t)) (ht : t.toInt ≤ 400) (hM : yO G vs) {x : Int32} (x0 : 0 ≤ x.toInt) (hQ : ∀ r : Int32, ((r = 0 ∧ ¬ yO_C 48 57 bs t x) ∨ (r = 1 ∧ yO_C 48 57 bs t x)) → Q (some (.int r)) G E = true) : xm_exec (d + 1) 133 [.ref 344, .int x] G E Q = true := by
  refine yx_exec (m := 133) rfl rfl (Nat.le_of_ble_eq_true rfl) ?_
  obtain ⟨g, hg⟩ : ∃ g, xm_fuel = g + 30 := ⟨xm_fuel - 30, by have := yl_fuel 30 (by omega); omega⟩
  rw [hg]
  have l0 : xm_get (lv_args 0 [Value.ref 344, .int x]) 0 = some (.ref 344) := rfl
  have l1 : xm_get (lv_args 0 [Value.ref 344, .int x]) 1 = some (.int x) := rfl
  have t18 : ¬ yO_C 48 57 bs t x → ∀ F, 2 ≤ F → xm_run (xm_exec d) xm_c133 2 0 0 (some .boolean) Q F (xm_drop 18 xm_c133) (lv_args 0 [.ref 344, .int x]) [] G E 0 0 = true := by
    intro hno F hF
    obtain ⟨g, rfl⟩ : ∃ g, F = g + 2 := ⟨F - 2, by omega⟩
    simp only [xz_133_18, xz_133_19, xm_isI, cond_true]
    exact hQ 0 (Or.inl ⟨rfl, hno⟩)
  show xm_run (xm_exec d) xm_c133 2 0 0 (some .boolean) Q (g + 30) (xm_drop 0 xm_c133) (lv_args 0 [.ref 344, .int x]) [] G E 0 0 = true
  simp only [xz_133_0, xz_133_1, xz_133_2, xz_133_3, l0, l1, xm_isI, xm_isA, cond_true, xk_getf hM.1 h1, xc_int, xk_ge]
  by_cases hc : x.toInt < t.toInt
  · rw [decide_eq_true hc, Bool.not_true, cond_false]
    obtain ⟨c, hcc⟩ := hb2 x x0 (by omega)
    have e1 : (48 : Int32).toInt = 48 := rfl
    have e2 : (57 : Int32).toInt = 57 := rfl
    simp only [xz_133_4, xz_133_5, xz_133_6, xz_133_7, xz_133_8, xz_133_9, l0, l1, xm_isI, xm_isA, cond_true, xk_getf hM.1 h0, yk_bald hb1 x0 hcc, xc_int, xk_lt, e1]
    by_cases q1 : c.toInt < 48
    · rw [decide_eq_true q1, cond_true]
      exact t18 (fun k => by
        obtain ⟨-, c', k1, k2, k3⟩ := k
        rw [hcc] at k1
        cases k1
        omega) _ (by omega)
    · rw [decide_eq_false q1, cond_false]
      simp only [xz_133_10, xz_133_11, xz_133_12, xz_133_13, xz_133_14, xz_133_15, l0, l1, xm_isI, xm_isA, cond_true, xk_getf hM.1 h0, yk_bald hb1 x0 hcc, xc_int, xk_gt, e2]
      by_cases q2 : 57 < c.toInt
      · rw [decide_eq_true q2, cond_true]
        exact t18 (fun k => by
          obtain ⟨-, c', k1, k2, k3⟩ := k
          rw [hcc] at k1
          cases k1
          omega) _ (by omega)
      · rw [decide_eq_false q2, cond_false]
        simp only [xz_133_16, xz_133_17]
        simp only [xz_133_19, xm_isI, cond_true]
        exact hQ 1 (Or.inr ⟨rfl, hc, c, hcc, by omega, by omega⟩)
  · rw [decide_eq_false hc, Bool.not_false, cond_true]
    exact t18 (fun k => hc k.1) _ (by omega)
theorem yO_letters {Q : xm_Q} {G : xm_H} {E : xm_R} {vs bs : List Value} {tb d : Nat} {t : Int32} (hb1 : xm_hget G tb = some (101, bs)) (hb2 : ∀ x : Int32, 0 ≤ x.toInt → x.toInt < 400 → ∃ c : Int32, bs[x.toInt.toNat]? = some (.int c)) (h0 : vs[0]? = some (.ref tb)) (h1 : vs[1]? = some (.int t)) (ht : t.toInt ≤ 400) (hM : yO G vs) {x : Int32} (x0 : 0 ≤ x.toInt) (hQ : ∀ r : Int32, ((r = 0 ∧ ¬ yO_C 97 122 bs t x) ∨ (r = 1 ∧ yO_C 97 122 bs t x)) → Q (some (.int r)) G E = true) : xm_exec (d + 1) 134 [.ref 344, .int x] G E Q = true := by
  refine yx_exec (m := 134) rfl rfl (Nat.le_of_ble_eq_true rfl) ?_
  obtain ⟨g, hg⟩ : ∃ g, xm_fuel = g + 30 := ⟨xm_fuel - 30, by have := yl_fuel 30 (by omega); omega⟩
  rw [hg]
  have l0 : xm_get (lv_args 0 [Value.ref 344, .int x]) 0 = some (.ref 344) := rfl
  have l1 : xm_get (lv_args 0 [Value.ref 344, .int x]) 1 = some (.int x) := rfl
  have t18 : ¬ yO_C 97 122 bs t x → ∀ F, 2 ≤ F → xm_run (xm_exec d) xm_c134 2 0 0 (some .boolean) Q F (xm_drop 18 xm_c134) (lv_args 0 [.ref 344, .int x]) [] G E 0 0 = true := by
    intro hno F hF
    obtain ⟨g, rfl⟩ : ∃ g, F = g + 2 := ⟨F - 2, by omega⟩
    simp only [xz_134_18, xz_134_19, xm_isI, cond_true]
    exact hQ 0 (Or.inl ⟨rfl, hno⟩)
  show xm_run (xm_exec d) xm_c134 2 0 0 (some .boolean) Q (g + 30) (xm_drop 0 xm_c134) (lv_args 0 [.ref 344, .int x]) [] G E 0 0 = true
  simp only [xz_134_0, xz_134_1, xz_134_2, xz_134_3, l0, l1, xm_isI, xm_isA, cond_true, xk_getf hM.1 h1, xc_int, xk_ge]
  by_cases hc : x.toInt < t.toInt
  · rw [decide_eq_true hc, Bool.not_true, cond_false]
    obtain ⟨c, hcc⟩ := hb2 x x0 (by omega)
    have e1 : (97 : Int32).toInt = 97 := rfl
    have e2 : (122 : Int32).toInt = 122 := rfl
    simp only [xz_134_4, xz_134_5, xz_134_6, xz_134_7, xz_134_8, xz_134_9, l0, l1, xm_isI, xm_isA, cond_true, xk_getf hM.1 h0, yk_bald hb1 x0 hcc, xc_int, xk_lt, e1]
    by_cases q1 : c.toInt < 97
    · rw [decide_eq_true q1, cond_true]
      exact t18 (fun k => by
        obtain ⟨-, c', k1, k2, k3⟩ := k
        rw [hcc] at k1
        cases k1
        omega) _ (by omega)
    · rw [decide_eq_false q1, cond_false]
      simp only [xz_134_10, xz_134_11, xz_134_12, xz_134_13, xz_134_14, xz_134_15, l0, l1, xm_isI, xm_isA, cond_true, xk_getf hM.1 h0, yk_bald hb1 x0 hcc, xc_int, xk_gt, e2]
      by_cases q2 : 122 < c.toInt
      · rw [decide_eq_true q2, cond_true]
        exact t18 (fun k => by
          obtain ⟨-, c', k1, k2, k3⟩ := k
          rw [hcc] at k1
          cases k1
          omega) _ (by omega)
      · rw [decide_eq_false q2, cond_false]
        simp only [xz_134_16, xz_134_17]
        simp only [xz_134_19, xm_isI, cond_true]
        exact hQ 1 (Or.inr ⟨rfl, hc, c, hcc, by omega, by omega⟩)
  · rw [decide_eq_false hc, Bool.not_false, cond_true]
    exact t18 (fun k => hc k.1) _ (by omega)
/-! the reference's numberHere -/
theorem yO_scall {call : xm_C} {G : xm_H} {E : xm_R} {mc ms : Nat} {v1 v2 v3 : Value} {st : List Value} {k : List Value → xm_H → xm_R → Nat → Nat → Bool} (hc : xm_cats st ≤ 8) : xm_call call mc ms 125 1 (v3 :: v2 :: v1 :: st) G E 0 0 k = call 125 [v1, v2, v3] G E (fun r G E => k (match r with
    | some v => v :: st
    | none => st) G E 0 0) := by
  unfold xm_call
  show (bif Nat.ble (xm_cats st) 8 && xm_rcv 1 "StairNewsModel" G [v1, v2, v3] then call 125 [v1, v2, v3] G E _ else false) = _
  rw [Nat.ble_eq_true_of_le hc]
  rfl
theorem xk_i2l {x : Int32} {st : List Value} {k : List Value → Bool} : xm_i2l (.int x :: st) k = k (.long x.toInt64 :: st) := rfl
section MN
variable {Q : xm_Q} {G : xm_H} {E : xm_R} {vs bs : List Value} {tb d : Nat} {t n lo hi : Int32}
/-- how numberHere ends -/
def yO_numq (Q : xm_Q) (E : xm_R) (G : xm_H) (n lo hi : Int32) : Prop := ∀ (r : Int32) (G' : xm_H), ys_HT G' → ys_Fr [(93, 8), (93, 9), (93, 10)] G G' → (r = 0 ∨ (r = 1 ∧ ∃ (us : List Value) (v n' : Int32), yO G' us ∧ us[10]? = some (.int v) ∧ lo.toInt ≤ v.toInt ∧ v.toInt ≤ hi.toInt ∧ us[8]? = some (.int n') ∧ n.toInt + 1 ≤ n'.toInt ∧ n'.toInt ≤ 400)) → Q (some (.int r)) G' E = true
theorem yO_b1 : Nat.beq 125 1001 = false := by decide +kernel
theorem yO_b2 : (Nat.beq 125 1003 || (Nat.beq 125 1004 || Nat.beq 125 1005)) = false := by decide +kernel
theorem yO_b3 : Nat.beq 1 3 = false := by decide +kernel
theorem yO_b4 : xm_cats [] ≤ 8 := Nat.le_of_ble_eq_true rfl
theorem yO_m10 : ym_mod [(93, 8), (93, 9), (93, 10)] 93 10 = true := by decide +kernel
theorem yO_md9 : ym_mds [(93, 9)] [(93, 8), (93, 9), (93, 10)] = true := by decide +kernel
theorem yO_md8 : ym_mds [(93, 8)] [(93, 8), (93, 9), (93, 10)] = true := by decide +kernel
theorem yO_num66 {G1 : xm_H} {us : List Value} (hQ : yO_numq Q E G n lo hi) (hT : ys_HT G1) (hM : yO G1 us) (hF : ys_Fr [(93, 8), (93, 9), (93, 10)] G G1) {lv : xm_L} {a : Int32} (l0 : xm_get lv 0 = some (.ref 344)) (l3 : xm_get lv 3 = some (.int a)) {F : Nat} (hFu : 20 ≤ F) : xm_run (xm_exec (d + 1)) xm_c138 5 0 0 (some .boolean) Q F (xm_drop 66 xm_c138) lv [] G1 E 0 0 = true := by
  obtain ⟨g, rfl⟩ : ∃ g, F = g + 20 := ⟨F - 20, by omega⟩
  simp only [xz_138_66, xz_138_67, xz_138_68, xz_138_69, l0, l3, xm_isI, xm_isA, cond_true, show (Nat.beq 131 1006 || Nat.beq 131 1007) = false from rfl, cond_false]
  rw [yO_call2 (a := 131) rfl hM (Nat.le_of_ble_eq_true rfl)]
  refine yO_fails hT hM (fun G' q1 q2 => ?_)
  simp only [xz_138_70, xc_int, xk_eq, decide_true, cond_true]
  simp only [xz_138_73, xz_138_74, xm_isI, cond_true]
  have fin := hQ 0 G' q1 (hF.trans (q2.mds yO_md9)) (Or.inl rfl)
  rw [show (true && (xm_rok (some FieldType.boolean) (Value.int 0) && (Nat.ble 0 0 && Nat.ble 0 0))) = true from rfl, cond_true]
  exact fin
theorem xO_s58 {call : xm_C} {mc ms nL kc ks f : Nat} {ret : Option FieldType} {Q : xm_Q} {G : xm_H} {E : xm_R} {lv : xm_L} {st : List Value} {x : Int32} (h : xm_get lv 4 = some (.int x)) : xm_run call xm_c138 nL mc ms ret Q (f + 2) (xm_drop 58 xm_c138) lv st G E kc ks = xm_run call xm_c138 nL mc ms ret Q f (xm_drop 60 xm_c138) lv (.long x.toInt64 :: st) G E kc ks := by
  rw [xz_138_58, h]
  rfl
theorem xO_s60 {call : xm_C} {mc ms nL kc ks f : Nat} {ret : Option FieldType} {Q : xm_Q} {G : xm_H} {E : xm_R} {lv : xm_L} {st : List Value} {x : Int32} (h : xm_get lv 1 = some (.int x)) : xm_run call xm_c138 nL mc ms ret Q (f + 2) (xm_drop 60 xm_c138) lv st G E kc ks = xm_run call xm_c138 nL mc ms ret Q f (xm_drop 62 xm_c138) lv (.long x.toInt64 :: st) G E kc ks := by
  rw [xz_138_60, h]
  rfl
theorem xO_s62 {call : xm_C} {mc ms nL kc ks f : Nat} {ret : Option FieldType} {Q : xm_Q} {G : xm_H} {E : xm_R} {lv : xm_L} {st : List Value} {x : Int32} (h : xm_get lv 2 = some (.int x)) : xm_run call xm_c138 nL mc ms ret Q (f + 2) (xm_drop 62 xm_c138) lv st G E kc ks = xm_run call xm_c138 nL mc ms ret Q f (xm_drop 64 xm_c138) lv (.long x.toInt64 :: st) G E kc ks := by
  rw [xz_138_62, h]
  rfl

theorem yO_num58 {G2 : xm_H} {us : List Value} {n' : Int32} (hQ : yO_numq Q E G n lo hi) (p1 : ys_HT G2) (p3 : yO G2 us) (hF : ys_Fr [(93, 8), (93, 9), (93, 10)] G G2) {a v : Int32} (h8' : us[8]? = some (.int n')) (h10 : us[10]? = some (.int v)) (hn : n.toInt + 1 ≤ n'.toInt) (hn4 : n'.toInt ≤ 400) {lv : xm_L} (l0 : xm_get lv 0 = some (.ref 344)) (l1 : xm_get lv 1 = some (.int lo)) (l2 : xm_get lv 2 = some (.int hi)) (l3 : xm_get lv 3 = some (.int a)) (l4 : xm_get lv 4 = some (.int v)) {F : Nat} (hFu : 40 ≤ F) : xm_run (xm_exec (d + 1)) xm_c138 5 0 0 (some .boolean) Q F (xm_drop 58 xm_c138) lv [] G2 E 0 0 = true := by
  obtain ⟨g, rfl⟩ : ∃ g, F = g + 40 := ⟨F - 40, by omega⟩
  rw [xO_s58 l4, xO_s60 l1, xO_s62 l2, xz_138_64, yO_b1, yO_b2, yO_b3, cond_false, cond_false, cond_false]
  rw [yO_scall (st := []) yO_b4]
  refine yO_in (fun r hr => ?_)
  rcases hr with rfl | ⟨rfl, hr1, hr2⟩
  · show xm_run (xm_exec (d + 1)) xm_c138 5 0 0 (some .boolean) Q (g + 33) (xm_drop 65 xm_c138) lv [.int 0] G2 E 0 0 = true
    rw [xz_138_65]
    show xm_run (xm_exec (d + 1)) xm_c138 5 0 0 (some .boolean) Q (g + 32) (xm_drop 66 xm_c138) lv [] G2 E 0 0 = true
    exact yO_num66 hQ p1 p3 hF l0 l3 (by omega)
  · show xm_run (xm_exec (d + 1)) xm_c138 5 0 0 (some .boolean) Q (g + 33) (xm_drop 65 xm_c138) lv [.int 1] G2 E 0 0 = true
    rw [xz_138_65]
    show xm_run (xm_exec (d + 1)) xm_c138 5 0 0 (some .boolean) Q (g + 32) (xm_drop 71 xm_c138) lv [] G2 E 0 0 = true
    rw [xz_138_71, xz_138_72, xz_138_74]
    rw [Int32.toInt_toInt64, Int32.toInt_toInt64] at hr1 hr2
    have fin := hQ 1 G2 p1 hF (Or.inr ⟨rfl, _, v, n', p3, h10, hr1, hr2, h8', hn, hn4⟩)
    show (bif (true && (xm_rok (some FieldType.boolean) (Value.int 1) && (Nat.ble 0 0 && Nat.ble 0 0))) then _ else false) = true
    rw [show (true && (xm_rok (some FieldType.boolean) (Value.int 1) && (Nat.ble 0 0 && Nat.ble 0 0))) = true from rfl, cond_true]
    exact fin
theorem yO_num49 {G1 : xm_H} {us : List Value} {n' : Int32} (hQ : yO_numq Q E G n lo hi) (hT : ys_HT G1) (hM : yO G1 us) (hF : ys_Fr [(93, 8), (93, 9), (93, 10)] G G1) (h8 : us[8]? = some (.int n')) (hn : n.toInt + 1 ≤ n'.toInt) (hn4 : n'.toInt ≤ 400) {lv : xm_L} {a v : Int32} (l0 : xm_get lv 0 = some (.ref 344)) (l1 : xm_get lv 1 = some (.int lo)) (l2 : xm_get lv 2 = some (.int hi)) (l3 : xm_get lv 3 = some (.int a)) (l4 : xm_get lv 4 = some (.int v)) {F : Nat} (hFu : 60 ≤ F) : xm_run (xm_exec (d + 1)) xm_c138 5 0 0 (some .boolean) Q F (xm_drop 49 xm_c138) lv [] G1 E 0 0 = true := by
  obtain ⟨g, rfl⟩ : ∃ g, F = g + 60 := ⟨F - 60, by omega⟩
  simp only [xz_138_49, xz_138_50, xz_138_51, l0, l4, xm_isI, xm_isA, cond_true]
  rw [xk_putf hM.1 (by decide) rfl (by rw [hM.2]; decide)]
  obtain ⟨p1, p2, p3⟩ := yO_putHT (md := [(93, 8), (93, 9), (93, 10)]) (i := 10) (w := .int v) hT hM yO_t10 ⟨rfl, ys_b32 _⟩ yO_m10
  generalize hG2 : xm_hput G1 344 (11, us.set 10 (.int v)) = G2 at p1 p2 p3 ⊢
  have h8' : (us.set 10 (.int v))[8]? = some (.int n') := by rw [List.getElem?_set, if_neg (by decide)]; exact h8
  have h10 : (us.set 10 (.int v))[10]? = some (.int v) := by rw [List.getElem?_set, if_pos rfl, if_pos (by rw [hM.2]; decide)]
  simp only [xz_138_52, xz_138_53, xz_138_54, xz_138_55, xz_138_56, xz_138_57, l0, l3, xm_isI, xm_isA, cond_true, xk_getf p3.1 h8', xk_sub, xc_int]
  cases hq : xm_holds .gt (xm_sgn (n' - a).toInt (5 : Int32).toInt) with
  | true =>
    rw [cond_true]
    exact yO_num66 hQ p1 p3 (hF.trans p2) l0 l3 (by omega)
  | false =>
    rw [cond_false]
    exact yO_num58 hQ p1 p3 (hF.trans p2) h8' h10 hn hn4 l0 l1 l2 l3 l4 (by omega)
theorem yO_num19 (hQ : yO_numq Q E G n lo hi) (hT : ys_HT G) (hb1 : xm_hget G tb = some (101, bs)) (hb2 : ∀ x : Int32, 0 ≤ x.toInt → x.toInt < 400 → ∃ c : Int32, bs[x.toInt.toNat]? = some (.int c)) (htb : tb ≠ 344) (h0 : vs[0]? = some (.ref tb)) (h1 : vs[1]? = some (.int t)) (ht : t.toInt ≤ 400) (hM : yO G vs) (hn0 : 0 ≤ n.toInt) {a : Int32} : ∀ (m : Nat) (lv : xm_L) (x v : Int32), xm_get lv 0 = some (.ref 344) → xm_get lv 1 = some (.int lo) → xm_get lv 2 = some (.int hi) → xm_get lv 3 = some (.int a) → xm_get lv 4 = some (.int v) → n.toInt ≤ x.toInt → x.toInt ≤ 400 → (n.toInt + 1 ≤ x.toInt ∨ yO_C 48 57 bs t x) → (400 - x.toInt).toNat ≤ m → ∀ {F : Nat}, 60 * (m + 1) + 60 ≤ F → xm_run (xm_exec (d + 1)) xm_c138 5 0 0 (some .boolean) Q F (xm_drop 19 xm_c138) lv [] (yO_nx G vs x) E 0 0 = true := by
  intro m
  induction m with
  | zero =>
    intro lv x v l0 l1 l2 l3 l4 z1 z2 hx hm F hF
    obtain ⟨g, rfl⟩ : ∃ g, F = g + 60 := ⟨F - 60, by omega⟩
    have hN := yO_nxat hM x
    have g8 := yO_hit (w := .int x) hM.2
    obtain ⟨e1, e2⟩ := yO_nxHT (n := x) hT hM (by omega) z2
    simp only [xz_138_19, xz_138_20, xz_138_21, xz_138_22, l0, xm_isA, cond_true, xk_getf hN.1 g8, show (Nat.beq 133 1006 || Nat.beq 133 1007) = false from rfl, cond_false]
    rw [yO_call1 (a := 133) rfl hN (Nat.le_of_ble_eq_true rfl)]
    refine yO_digits (bs := bs) (by rw [yO_nxs (vs := vs) x tb htb]; exact hb1) hb2 (yO_set (w := .int x) h0 (by decide)) (yO_set (w := .int x) h1 (by decide)) ht hN (by omega) (fun r hr => ?_)
    rcases hr with ⟨rfl, hno⟩ | ⟨-, hlt⟩
    · simp only [xz_138_23, xc_int, xk_eq, decide_true, cond_true]
      exact yO_num49 hQ e1 hN (e2.mds yO_md8) g8 (hx.resolve_right hno) z2 l0 l1 l2 l3 l4 (by omega)
    · have := hlt.1
      omega
  | succ m ih =>
    intro lv x v l0 l1 l2 l3 l4 z1 z2 hx hm F hF
    obtain ⟨g, rfl⟩ : ∃ g, F = g + 60 := ⟨F - 60, by omega⟩
    have hN := yO_nxat hM x
    have g8 := yO_hit (w := .int x) hM.2
    obtain ⟨e1, e2⟩ := yO_nxHT (n := x) hT hM (by omega) z2
    simp only [xz_138_19, xz_138_20, xz_138_21, xz_138_22, l0, xm_isA, cond_true, xk_getf hN.1 g8, show (Nat.beq 133 1006 || Nat.beq 133 1007) = false from rfl, cond_false]
    rw [yO_call1 (a := 133) rfl hN (Nat.le_of_ble_eq_true rfl)]
    refine yO_digits (bs := bs) (by rw [yO_nxs (vs := vs) x tb htb]; exact hb1) hb2 (yO_set (w := .int x) h0 (by decide)) (yO_set (w := .int x) h1 (by decide)) ht hN (by omega) (fun r hr => ?_)
    rcases hr with ⟨rfl, hno⟩ | ⟨rfl, hC⟩
    · simp only [xz_138_23, xc_int, xk_eq, decide_true, cond_true]
      exact yO_num49 hQ e1 hN (e2.mds yO_md8) g8 (hx.resolve_right hno) z2 l0 l1 l2 l3 l4 (by omega)
    · have hlt := hC.1
      simp only [xz_138_23, xc_int, xk_eq]
      rw [show decide ((1 : Int32).toInt = (0 : Int32).toInt) = false from rfl, cond_false]
      have t42 : ∀ (lv : xm_L) (v : Int32), xm_get lv 0 = some (.ref 344) → xm_get lv 1 = some (.int lo) → xm_get lv 2 = some (.int hi) → xm_get lv 3 = some (.int a) → xm_get lv 4 = some (.int v) → ∀ F, 60 * (m + 1) + 60 + 10 ≤ F → xm_run (xm_exec (d + 1)) xm_c138 5 0 0 (some .boolean) Q F (xm_drop 42 xm_c138) lv [] (yO_nx G vs x) E 0 0 = true := by
        intro lv v l0 l1 l2 l3 l4 F hF
        obtain ⟨g, rfl⟩ : ∃ g, F = g + 10 := ⟨F - 10, by omega⟩
        simp only [xz_138_42, xz_138_43, xz_138_44, xz_138_45, xz_138_46, xz_138_47, l0, xm_isA, xm_cat1, xm_isL, Bool.not_false, cond_true, xk_getf hN.1 g8, xk_add]
        rw [xk_putf hN.1 (by decide) rfl (by rw [hN.2]; decide)]
        simp only [xz_138_48]
        have e1 : (1 : Int32).toInt = 1 := rfl
        have e2 := yk_add (x := x) (z := 1) (by omega) (by omega)
        have e3 : xm_hput (yO_nx G vs x) 344 (11, (vs.set 8 (.int x)).set 8 (.int (x + 1))) = yO_nx G vs (x + 1) := yO_nx2 x (x + 1)
        rw [e3]
        exact ih lv (x + 1) v l0 l1 l2 l3 l4 (by omega) (by omega) (Or.inl (by omega)) (by omega) (by omega)
      simp only [xz_138_24, xz_138_25, xz_138_26, xz_138_27, xz_138_28, xz_138_29, l0, l3, xm_isI, xm_isA, cond_true, xk_getf hN.1 g8, xk_sub, xc_int]
      cases hq : xm_holds .ge (xm_sgn (x - a).toInt (5 : Int32).toInt) with
      | true =>
        rw [cond_true]
        exact t42 lv v l0 l1 l2 l3 l4 _ (by omega)
      | false =>
        rw [cond_false]
        have hb1' : xm_hget (yO_nx G vs x) tb = some (101, bs) := by rw [yO_nxs (vs := vs) x tb htb]; exact hb1
        obtain ⟨c, hcc⟩ := hb2 x (by omega) (by omega)
        simp only [xz_138_30, xz_138_31, xz_138_32, xz_138_33, xz_138_34, xz_138_35, xz_138_36, xz_138_37, xz_138_38, xz_138_39, xz_138_40, xz_138_41, l0, l4, xm_isI, xm_isA, cond_true, xk_getf hN.1 g8, xk_getf hN.1 (yO_set (w := .int x) h0 (by decide)), xk_mul, xk_add, xk_sub, yk_bald hb1' (show 0 ≤ x.toInt by omega) hcc, show Nat.blt 4 5 = true from rfl, Bool.and_self]
        exact t42 _ _ (xl_s1 (by decide) (Or.inl rfl) l0) (xl_s1 (by decide) (Or.inl rfl) l1) (xl_s1 (by decide) (Or.inl rfl) l2) (xl_s1 (by decide) (Or.inl rfl) l3) xl_gs1 _ (by omega)
theorem yO_numx {Q : xm_Q} {G : xm_H} {E : xm_R} {vs bs : List Value} {tb d : Nat} {t n lo hi : Int32} (hT : ys_HT G) (hb1 : xm_hget G tb = some (101, bs)) (hb2 : ∀ x : Int32, 0 ≤ x.toInt → x.toInt < 400 → ∃ c : Int32, bs[x.toInt.toNat]? = some (.int c)) (htb : tb ≠ 344) (h0 : vs[0]? = some (.ref tb)) (h1 : vs[1]? = some (.int t)) (ht : t.toInt ≤ 400) (hM : yO G vs) (hn : vs[8]? = some (.int n)) (n0 : 0 ≤ n.toInt) (n4 : n.toInt ≤ 400) (hQ : yO_numq Q E G n lo hi) : xm_exec (d + 2) 138 [.ref 344, .int lo, .int hi] G E Q = true := by
  refine yx_exec (m := 138) rfl rfl (Nat.le_of_ble_eq_true rfl) ?_
  obtain ⟨g, hg⟩ : ∃ g, xm_fuel = g + 40000 := ⟨xm_fuel - 40000, by have := yl_fuel 40000 (by omega); omega⟩
  rw [hg]
  have l0 : xm_get (lv_args 0 [Value.ref 344, .int lo, .int hi]) 0 = some (.ref 344) := rfl
  have l1 : xm_get (lv_args 0 [Value.ref 344, .int lo, .int hi]) 1 = some (.int lo) := rfl
  have l2 : xm_get (lv_args 0 [Value.ref 344, .int lo, .int hi]) 2 = some (.int hi) := rfl
  show xm_run (xm_exec (d + 1)) xm_c138 5 0 0 (some .boolean) Q (g + 40000) (xm_drop 0 xm_c138) (lv_args 0 [.ref 344, .int lo, .int hi]) [] G E 0 0 = true
  simp only [xz_138_0, xz_138_1, l0, xm_isA, cond_true, show (Nat.beq 132 1006 || Nat.beq 132 1007) = false from rfl, cond_false]
  rw [yO_call0 (a := 132) rfl hM (Nat.le_of_ble_eq_true rfl)]
  refine yO_seex ⟨bs, hb1, hb2⟩ htb h0 h1 ht hM hn n0 n4 (fun x r r1 r2 r3 => ?_)
  have hN := yO_nxat hM x
  have g8 := yO_hit (w := .int x) hM.2
  obtain ⟨e1, e2⟩ := yO_nxHT (n := x) hT hM (by omega) r2
  simp only [xz_138_2, xz_138_3, xz_138_4, xz_138_5, xz_138_6, l0, xm_cat1, xm_isL, xm_isA, Bool.not_false, cond_true, xk_getf hN.1 g8, show (Nat.beq 133 1006 || Nat.beq 133 1007) = false from rfl, cond_false]
  rw [yO_call1 (a := 133) rfl hN (Nat.le_of_ble_eq_true rfl)]
  refine yO_digits (bs := bs) (by rw [yO_nxs (vs := vs) x tb htb]; exact hb1) hb2 (yO_set (w := .int x) h0 (by decide)) (yO_set (w := .int x) h1 (by decide)) ht hN (by omega) (fun q hq => ?_)
  rcases hq with ⟨rfl, -⟩ | ⟨rfl, hlt⟩
  · simp only [xz_138_7, xc_int, xk_ne, decide_true, Bool.not_true, cond_false]
    simp only [xz_138_8, xz_138_9, xz_138_10, xz_138_11, xz_138_12, l0, xm_isA, cond_true, xk_getf hN.1 g8, show (Nat.beq 131 1006 || Nat.beq 131 1007) = false from rfl, cond_false]
    rw [yO_call2 (a := 131) rfl hN (Nat.le_of_ble_eq_true rfl)]
    refine yO_fails e1 hN (fun G' q1 q2 => ?_)
    simp only [xz_138_13, xm_isI, cond_true]
    exact hQ 0 G' q1 ((e2.mds yO_md8).trans (q2.mds yO_md9)) (Or.inl rfl)
  · simp only [xz_138_7, xc_int, xk_ne]
    rw [show (!decide ((1 : Int32).toInt = (0 : Int32).toInt)) = true from rfl, cond_true]
    simp only [xz_138_14, xz_138_15, xz_138_16, xz_138_17, xz_138_18, l0, xm_isA, xm_isI, cond_true, xk_getf hN.1 g8, show Nat.blt 3 5 = true from rfl, show Nat.blt 4 5 = true from rfl, Bool.and_self]
    exact yO_num19 hQ hT hb1 hb2 htb h0 h1 ht hM n0 400 _ x 0 (xl_s1 (by decide) (Or.inl rfl) (xl_s1 (by decide) (Or.inl rfl) l0)) (xl_s1 (by decide) (Or.inl rfl) (xl_s1 (by decide) (Or.inl rfl) l1)) (xl_s1 (by decide) (Or.inl rfl) (xl_s1 (by decide) (Or.inl rfl) l2)) (xl_s1 (by decide) (Or.inl rfl) xl_gs1) xl_gs1 r1 r2 (Or.inr hlt) (by omega) (by omega)
end MN
