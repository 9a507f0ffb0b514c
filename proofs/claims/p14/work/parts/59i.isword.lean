/-! the reference's isWord -/
theorem xl_gf {i j : Nat} {w : Value} (p : Nat × Value → Bool) (hp : p (j, w) = true) : ∀ {l : xm_L}, xm_get l j = some w → xm_get (l.filter p) j = some w := by
  intro l hl
  induction l with
  | nil => cases hl
  | cons q l ih =>
    have hl : cond (Nat.beq q.1 j) (some q.2) (xm_get l j) = some w := hl
    rw [List.filter_cons]
    cases hb : Nat.beq q.1 j with
    | true =>
      rw [hb] at hl
      cases hl
      have e := Nat.eq_of_beq_eq_true hb
      have hq : q = (j, q.2) := by rw [← e]
      rw [if_pos (by rw [hq]; exact hp)]
      show cond (Nat.beq q.1 j) (some q.2) _ = some q.2
      rw [hb]
      rfl
    | false =>
      rw [hb] at hl
      split
      · show cond (Nat.beq q.1 j) (some q.2) _ = some w
        rw [hb]
        exact ih hl
      · exact ih hl
theorem xl_s1 {i j : Nat} {v w : Value} {l : xm_L} (h : j ≠ i) (hc : w.category = 1 ∨ j + 1 ≠ i) (hl : xm_get l j = some w) : xm_get (xm_set1 l i v) j = some w := by
  have hne : Nat.beq i j = false := Bool.eq_false_iff.mpr (fun q => h (Nat.eq_of_beq_eq_true q).symm)
  show xm_get ((i, v) :: l.filter _) j = some w
  rw [xg_miss hne]
  refine xl_gf (i := i) _ ?_ hl
  dsimp only
  have h1 : (j == i) = false := by simpa using h
  rw [h1]
  rcases hc with hc | hc
  · rw [hc]
    simp
  · have h2 : (j + 1 == i) = false := by simpa using hc
    rw [h2]
    rfl
theorem xl_s2 {i j : Nat} {v w : Value} {l : xm_L} (h : j ≠ i) (h' : j ≠ i + 1) (hc : w.category = 1 ∨ j + 1 ≠ i) (hl : xm_get l j = some w) : xm_get (xm_set2 l i v) j = some w := by
  have hne : Nat.beq i j = false := Bool.eq_false_iff.mpr (fun q => h (Nat.eq_of_beq_eq_true q).symm)
  show xm_get ((i, v) :: l.filter _) j = some w
  rw [xg_miss hne]
  refine xl_gf (i := i) _ ?_ hl
  dsimp only
  have h1 : (j == i) = false := by simpa using h
  have h3 : (j == i + 1) = false := by simpa using h'
  rw [h1, h3]
  rcases hc with hc | hc
  · rw [hc]
    simp
  · have h2 : (j + 1 == i) = false := by simpa using hc
    rw [h2]
    rfl
theorem xl_h2 {i : Nat} {v : Value} {l : xm_L} : xm_get (xm_set2 l i v) i = some v := xg_hit
theorem yO_isw {Q : xm_Q} {G : xm_H} {E : xm_R} {vs : List Value} {tb d : Nat} {t n : Int32} (hb : yt_bytes G tb) (h0 : vs[0]? = some (.ref tb)) (h1 : vs[1]? = some (.int t)) (ht : t.toInt ≤ 400) (hM : yO G vs) (hn : vs[8]? = some (.int n)) (n0 : 0 ≤ n.toInt) (n4 : n.toInt ≤ 400) (hQ : ∀ r : Int32, (r = 0 ∨ (r = 1 ∧ n.toInt < t.toInt)) → Q (some (.int r)) G E = true) : ∀ (m : Nat) (lv : xm_L) (i : Int32) (w v : Int64), xm_get lv 0 = some (.ref 344) → xm_get lv 1 = some (.long w) → xm_get lv 3 = some (.long v) → xm_get lv 5 = some (.int i) → 0 ≤ i.toInt → i.toInt ≤ 401 → (0 < i.toInt → n.toInt < t.toInt) → (401 - i.toInt).toNat ≤ m → ∀ {F : Nat}, 60 * (m + 1) ≤ F → xm_run (xm_exec (d + 1)) xm_c135 6 0 0 (some .boolean) Q F (xm_drop 7 xm_c135) lv [] G E 0 0 = true := by
  have t43 : ∀ (lv : xm_L) (F : Nat), 2 ≤ F → xm_run (xm_exec (d + 1)) xm_c135 6 0 0 (some .boolean) Q F (xm_drop 43 xm_c135) lv [] G E 0 0 = true := by
    intro lv F hF
    obtain ⟨g, rfl⟩ : ∃ g, F = g + 2 := ⟨F - 2, by omega⟩
    simp only [xz_135_43, xz_135_44, xm_isI, cond_true]
    exact hQ 0 (Or.inl rfl)
  have t32 : ∀ (lv : xm_L) (i : Int32) (w v : Int64), xm_get lv 1 = some (.long w) → xm_get lv 3 = some (.long v) → xm_get lv 5 = some (.int i) → (0 < i.toInt → n.toInt < t.toInt) → ∀ F, 20 ≤ F → xm_run (xm_exec (d + 1)) xm_c135 6 0 0 (some .boolean) Q F (xm_drop 32 xm_c135) lv [] G E 0 0 = true := by
    intro lv i w v l1 l3 l5 hi F hF
    obtain ⟨g, rfl⟩ : ∃ g, F = g + 20 := ⟨F - 20, by omega⟩
    simp only [xz_135_32, xz_135_33, l5, xm_isI, cond_true, xc_int, xk_le]
    have e0 : (0 : Int32).toInt = 0 := rfl
    by_cases hp : (0 : Int32).toInt < i.toInt
    · rw [decide_eq_true hp, Bool.not_true, cond_false]
      simp only [xz_135_34, xz_135_35, xz_135_36, l5, xm_isI, cond_true, xc_int]
      cases hq : xm_holds .ge (xm_sgn i.toInt (8 : Int32).toInt) with
      | true => rw [cond_true]; exact t43 _ _ (by omega)
      | false =>
        rw [cond_false]
        simp only [xz_135_37, xz_135_38, xz_135_39, l1, l3, xm_isL, cond_true]
        show xm_run (xm_exec (d + 1)) xm_c135 6 0 0 (some .boolean) Q (g + 12) (xm_drop 40 xm_c135) lv [.int (Int32.ofInt (xm_sgn v.toInt w.toInt))] G E 0 0 = true
        simp only [xz_135_40, xc_int]
        cases hq2 : xm_holds .ne (xm_sgn (Int32.ofInt (xm_sgn v.toInt w.toInt)).toInt (0 : Int32).toInt) with
        | true => rw [cond_true]; exact t43 _ _ (by omega)
        | false =>
          rw [cond_false]
          simp only [xz_135_41, xz_135_42]
          simp only [xz_135_44, xm_isI, cond_true]
          exact hQ 1 (Or.inr ⟨rfl, hi (by omega)⟩)
    · rw [decide_eq_false hp, Bool.not_false, cond_true]
      exact t43 _ _ (by omega)
  intro m
  induction m with
  | zero =>
    intro lv i w v l0 l1 l3 l5 i0 i1 hi hm F hF
    obtain ⟨g, rfl⟩ : ∃ g, F = g + 60 := ⟨F - 60, by omega⟩
    have e := yk_add (x := n) (z := i) (by omega) (by omega)
    simp only [xz_135_7, xz_135_8, xz_135_9, xz_135_10, xz_135_11, xz_135_12, l0, l5, xm_isI, xm_isA, cond_true, xk_getf hM.1 hn, xk_add, show (Nat.beq 134 1006 || Nat.beq 134 1007) = false from rfl, cond_false]
    rw [yO_call1 (a := 134) rfl hM (Nat.le_of_ble_eq_true rfl)]
    refine yO_letter hb h0 h1 ht hM (by omega) (fun r hr => ?_)
    rcases hr with rfl | ⟨-, hlt⟩
    · simp only [xz_135_13, xc_int, xk_eq, decide_true, cond_true]
      exact t32 lv i w v l1 l3 l5 hi _ (by omega)
    · omega
  | succ m ih =>
    intro lv i w v l0 l1 l3 l5 i0 i1 hi hm F hF
    obtain ⟨g, rfl⟩ : ∃ g, F = g + 60 := ⟨F - 60, by omega⟩
    have e := yk_add (x := n) (z := i) (by omega) (by omega)
    simp only [xz_135_7, xz_135_8, xz_135_9, xz_135_10, xz_135_11, xz_135_12, l0, l5, xm_isI, xm_isA, cond_true, xk_getf hM.1 hn, xk_add, show (Nat.beq 134 1006 || Nat.beq 134 1007) = false from rfl, cond_false]
    rw [yO_call1 (a := 134) rfl hM (Nat.le_of_ble_eq_true rfl)]
    refine yO_letter hb h0 h1 ht hM (by omega) (fun r hr => ?_)
    rcases hr with rfl | ⟨rfl, hlt⟩
    · simp only [xz_135_13, xc_int, xk_eq, decide_true, cond_true]
      exact t32 lv i w v l1 l3 l5 hi _ (by omega)
    · simp only [xz_135_13, xc_int, xk_eq]
      rw [show decide ((1 : Int32).toInt = (0 : Int32).toInt) = false from rfl, cond_false]
      have e1 : (Int32.ofInt 1).toInt = 1 := rfl
      have e2 := yk_add (x := i) (z := Int32.ofInt 1) (by omega) (by omega)
      have t30 : ∀ (lv : xm_L) (v : Int64), xm_get lv 0 = some (.ref 344) → xm_get lv 1 = some (.long w) → xm_get lv 3 = some (.long v) → xm_get lv 5 = some (.int i) → ∀ F, 60 * (m + 1) + 2 ≤ F → xm_run (xm_exec (d + 1)) xm_c135 6 0 0 (some .boolean) Q F (xm_drop 30 xm_c135) lv [] G E 0 0 = true := by
        intro lv v l0 l1 l3 l5 F hF
        obtain ⟨g, rfl⟩ : ∃ g, F = g + 2 := ⟨F - 2, by omega⟩
        simp only [xz_135_30, xz_135_31, l5, show Nat.blt 5 6 = true from rfl, cond_true, xk_inc, xl_frc]
        exact ih _ (i + Int32.ofInt 1) w v (xl_s1 (by decide) (Or.inl rfl) l0) (xl_s1 (by decide) (Or.inr (by decide)) l1) (xl_s1 (by decide) (Or.inr (by decide)) l3) xl_gs1 (by omega) (by omega) (fun _ => by omega) (by omega) (by omega)
      simp only [xz_135_14, xz_135_15, xz_135_16, l5, xm_isI, cond_true, xc_int]
      cases hq : xm_holds .ge (xm_sgn i.toInt (8 : Int32).toInt) with
      | true => rw [cond_true]; exact t30 lv v l0 l1 l3 l5 _ (by omega)
      | false =>
        rw [cond_false]
        obtain ⟨bs, hb1, hb2⟩ := hb
        obtain ⟨c, hcc⟩ := hb2 (n + i) (by omega) (by omega)
        simp only [xz_135_17, xz_135_18, xz_135_19, xz_135_20, xz_135_21, xz_135_22, xz_135_23, xz_135_24, xz_135_25, xz_135_26, l0, l3, l5, xm_isI, xm_isL, xm_isA, cond_true, xk_getf hM.1 hn, xk_getf hM.1 h0, xk_add, yk_bald hb1 (show 0 ≤ (n + i).toInt by omega) hcc]
        simp only [xz_135_27, xz_135_28, xz_135_29, xm_i2l, xm_long2, xm_lop, xm_isL, show Nat.blt (3 + 1) 6 = true from rfl, Bool.and_self, cond_true]
        exact t30 _ _ (xl_s2 (by decide) (by decide) (Or.inl rfl) l0) (xl_s2 (by decide) (by decide) (Or.inr (by decide)) l1) xl_h2 (xl_s2 (by decide) (by decide) (Or.inl rfl) l5) _ (by omega)
theorem yO_iswx {Q : xm_Q} {G : xm_H} {E : xm_R} {vs : List Value} {tb d : Nat} {t n : Int32} {w : Int64} (hb : yt_bytes G tb) (htb : tb ≠ 344) (h0 : vs[0]? = some (.ref tb)) (h1 : vs[1]? = some (.int t)) (ht : t.toInt ≤ 400) (hM : yO G vs) (hn : vs[8]? = some (.int n)) (n0 : 0 ≤ n.toInt) (n4 : n.toInt ≤ 400) (hQ : ∀ n' r : Int32, n.toInt ≤ n'.toInt → n'.toInt ≤ 400 → (r = 0 ∨ (r = 1 ∧ n'.toInt < t.toInt)) → Q (some (.int r)) (yO_nx G vs n') E = true) : xm_exec (d + 2) 135 [.ref 344, .long w] G E Q = true := by
  refine yx_exec (m := 135) rfl rfl (Nat.le_of_ble_eq_true rfl) ?_
  obtain ⟨g, hg⟩ : ∃ g, xm_fuel = g + 40000 := ⟨xm_fuel - 40000, by have := yl_fuel 40000 (by omega); omega⟩
  rw [hg]
  have l0 : xm_get (lv_args 0 [Value.ref 344, .long w]) 0 = some (.ref 344) := rfl
  show xm_run (xm_exec (d + 1)) xm_c135 6 0 0 (some .boolean) Q (g + 40000) (xm_drop 0 xm_c135) (lv_args 0 [.ref 344, .long w]) [] G E 0 0 = true
  simp only [xz_135_0, xz_135_1, l0, xm_isA, cond_true, show (Nat.beq 132 1006 || Nat.beq 132 1007) = false from rfl, cond_false]
  rw [yO_call0 (a := 132) rfl hM (Nat.le_of_ble_eq_true rfl)]
  refine yO_seex hb htb h0 h1 ht hM hn n0 n4 (fun n' r r1 r2 r3 => ?_)
  simp only [xz_135_2, xz_135_3, xz_135_4, xz_135_5, xz_135_6, xm_cat1, xm_isL, xm_isI, Bool.not_false, show Nat.blt (3 + 1) 6 = true from rfl, show Nat.blt 5 6 = true from rfl, Bool.and_self, cond_true]
  refine yO_isw (n := n') (hb.mv (yO_nxs (vs := vs) n') htb) (yO_set (w := .int n') h0 (by decide)) (yO_set (w := .int n') h1 (by decide)) ht (yO_nxat hM n') (yO_hit hM.2) (by omega) r2 (fun r' hr' => hQ n' r' r1 r2 hr') 401 _ 0 w 0 rfl rfl rfl rfl (by decide) (by decide) (fun h => absurd h (by decide)) (by decide) (by omega)
theorem yc_isw {J : xm_H → Prop} (hJ : yj_ok J) (d : Nat) : yc_ok (yi_Inv J) yi_164 (xm_exec (d + 2)) := by
  intro G As Ec Q hT hI hA hF hQ
  match As, hA with
  | [a, b], hA =>
    obtain ⟨j, rfl, hj⟩ := yv_ref hA.1 rfl
    obtain ⟨w, rfl⟩ := yv_long hA.2.1 rfl
    have hj := yr_oneM (Int.ofNat.inj hj)
    subst hj
    obtain ⟨vs, hM, tb, t, n, a0, a1, a8, b1, b2, b3, b4⟩ := yO_of hT
    refine yO_iswx b1 b2 a0 a1 b3.2 hM a8 b4.1 b4.2 (fun n' r r1 r2 r3 => ?_)
    obtain ⟨e1, e2⟩ := yO_nxHT (n := n') hT hM (by omega) r2
    refine hQ _ _ e1 (yi_nx hJ (fun w hw => by cases hw with
      | head => rfl
      | tail _ h => cases h) e1 e2 hI) e2 ⟨(some (0, 0, 1), []), List.mem_cons_self, ?_, fun q hq => by cases hq⟩
    rcases r3 with rfl | ⟨rfl, -⟩
    · exact ⟨rfl, by decide, by decide⟩
    · exact ⟨rfl, by decide, by decide⟩
