/-! Tape.next, by hand -/
theorem yk_add {x z : Int32} (h1 : -2147483648 ≤ x.toInt + z.toInt) (h2 : x.toInt + z.toInt ≤ 2147483647) : (x + z).toInt = x.toInt + z.toInt := by
  rw [Int32.toInt_add, ys_bm h1 h2]
theorem yk_bald {G : xm_H} {b : Nat} {bs st : List Value} {x : Int32} {w : Value} {E : xm_R} {k : List Value → xm_R → Bool} (hg : xm_hget G b = some (101, bs)) (h0 : 0 ≤ x.toInt) (hw : bs[x.toInt.toNat]? = some w) : xm_bald (.int x :: .ref b :: st) G E k = k (w :: st) E := by
  show (match xm_hget G b with
    | some (t, _) => bif Nat.beq t 103 then xm_ald (fun t => Nat.beq t 103) (.int x :: .ref b :: st) G E k else xm_ald (fun t => Nat.beq t 101) (.int x :: .ref b :: st) G E k
    | none => false) = _
  rw [hg]
  exact ys_xald hg rfl h0 hw
def yt_bytes (G : xm_H) (b : Nat) : Prop := ∃ bs, xm_hget G b = some (101, bs) ∧ ∀ x : Int32, 0 ≤ x.toInt → x.toInt < 400 → ∃ c : Int32, bs[x.toInt.toNat]? = some (.int c)
theorem yt_bytes.mv {G G' : xm_H} {j b : Nat} (h : yt_bytes G b) (hs : yt_same G G' j) (hb : b ≠ j) : yt_bytes G' b := by
  obtain ⟨bs, h1, h2⟩ := h
  exact ⟨bs, by rw [hs b hb]; exact h1, h2⟩
section TN
variable {call : xm_C} {Q : xm_Q} {j b : Nat} {G : xm_H} {E : xm_R} {len fault : Int32} {lv : xm_L}
def yt_post (Q : xm_Q) (E : xm_R) (G : xm_H) (j b : Nat) (len fault : Int32) : Prop := ∀ (G' : xm_H) (kind place size : Int32), yt_same G G' j → yt_at G' j b len kind place size fault → 0 ≤ place.toInt → 0 ≤ size.toInt → place.toInt + size.toInt ≤ 400 → Q none G' E = true
theorem yt_n183 (hQ : yt_post Q E G j b len fault) {G1 : xm_H} {kind place size : Int32} (hs : yt_same G G1 j) (h : yt_at G1 j b len kind place size fault) (p0 : 0 ≤ place.toInt) (s0 : 0 ≤ size.toInt) (ps : place.toInt + size.toInt ≤ 400) {F : Nat} (hF : 1 ≤ F) : xm_run call xm_c82 3 0 0 none Q F (xm_drop 183 xm_c82) lv [] G1 E 0 0 = true := by
  obtain ⟨g, rfl⟩ : ∃ g, F = g + 1 := ⟨F - 1, by omega⟩
  simp only [xz_82_183]
  exact hQ G1 kind place size hs h p0 s0 ps
theorem yt_n80 (hQ : yt_post Q E G j b len fault) (hb : yt_bytes G b) (hbj : b ≠ j) (hj : 7 ≤ j) (hlv : xm_get lv 0 = some (.ref j)) (hlen : len.toInt ≤ 400) : ∀ (m : Nat) {G1 : xm_H} {kind place size : Int32}, yt_same G G1 j → yt_at G1 j b len kind place size fault → 0 ≤ place.toInt → 0 ≤ size.toInt → place.toInt + size.toInt ≤ 400 → (400 - (place.toInt + size.toInt)).toNat ≤ m → ∀ {F : Nat}, 40 * (m + 1) ≤ F → xm_run call xm_c82 3 0 0 none Q F (xm_drop 80 xm_c82) lv [] G1 E 0 0 = true := by
  intro m
  induction m with
  | zero =>
    intro G1 kind place size hs h p0 s0 ps hm F hF
    obtain ⟨g, rfl⟩ : ∃ g, F = g + 40 := ⟨F - 40, by omega⟩
    have e := yk_add (x := place) (z := size) (by omega) (by omega)
    simp only [xz_82_80, xz_82_81, xz_82_82, xz_82_83, xz_82_84, xz_82_85, xz_82_86, xz_82_87, hlv, xm_isA, cond_true, yt_get h (i := 3) rfl, yt_get h (i := 4) rfl, yt_get h (i := 1) rfl, xk_add, xc_int, xk_ge, e]
    rw [decide_eq_false (show ¬ place.toInt + size.toInt < len.toInt by omega), Bool.not_false, cond_true]
    exact yt_n183 hQ hs h p0 s0 ps (by omega)
  | succ m ih =>
    intro G1 kind place size hs h p0 s0 ps hm F hF
    obtain ⟨g, rfl⟩ : ∃ g, F = g + 40 := ⟨F - 40, by omega⟩
    have e := yk_add (x := place) (z := size) (by omega) (by omega)
    simp only [xz_82_80, xz_82_81, xz_82_82, xz_82_83, xz_82_84, xz_82_85, xz_82_86, xz_82_87, hlv, xm_isA, cond_true, yt_get h (i := 3) rfl, yt_get h (i := 4) rfl, yt_get h (i := 1) rfl, xk_add, xc_int, xk_ge, e]
    by_cases hc : place.toInt + size.toInt < len.toInt
    · rw [decide_eq_true hc]
      simp only [Bool.not_true, cond_false]
      obtain ⟨bs, hb1, hb2⟩ := hb.mv hs hbj
      obtain ⟨c, hcc⟩ := hb2 (place + size) (by omega) (by omega)
      simp only [xz_82_88, xz_82_89, xz_82_90, xz_82_91, xz_82_92, xz_82_93, xz_82_94, xz_82_95, xz_82_96, xz_82_97, hlv, xm_isA, cond_true, yt_get h (i := 3) rfl, yt_get h (i := 4) rfl, yt_get h (i := 0) rfl, xk_add, yk_bald hb1 (show 0 ≤ (place + size).toInt by omega) hcc, xc_int]
      cases hq : xm_holds .lt (xm_sgn c.toInt (97 : Int32).toInt) with
      | true =>
        rw [cond_true]
        exact yt_n183 hQ hs h p0 s0 ps (by omega)
      | false =>
        rw [cond_false]
        simp only [xz_82_98, xz_82_99, xz_82_100, xz_82_101, xz_82_102, xz_82_103, xz_82_104, xz_82_105, xz_82_106, xz_82_107, hlv, xm_isA, cond_true, yt_get h (i := 3) rfl, yt_get h (i := 4) rfl, yt_get h (i := 0) rfl, xk_add, yk_bald hb1 (show 0 ≤ (place + size).toInt by omega) hcc, xc_int]
        cases hq2 : xm_holds .gt (xm_sgn c.toInt (122 : Int32).toInt) with
        | true =>
          rw [cond_true]
          exact yt_n183 hQ hs h p0 s0 ps (by omega)
        | false =>
          rw [cond_false]
          simp only [xz_82_108, xz_82_109, xz_82_110, xz_82_111, xz_82_112, xz_82_113, hlv, xm_isA, xm_cat1, xm_isL, Bool.not_false, cond_true, yt_get h (i := 4) rfl, xk_add]
          refine yt_put h hj rfl (by decide) rfl (fun G2 s2 h2 => ?_)
          simp only [xz_82_114]
          have e1 : (1 : Int32).toInt = 1 := rfl
          have e2 := yk_add (x := size) (z := 1) (by omega) (by omega)
          exact ih (hs.tr s2) h2 p0 (by omega) (by omega) (by omega) (by omega)
    · rw [decide_eq_false hc, Bool.not_false, cond_true]
      exact yt_n183 hQ hs h p0 s0 ps (by omega)
theorem yt_n124 (hQ : yt_post Q E G j b len fault) (hb : yt_bytes G b) (hbj : b ≠ j) (hj : 7 ≤ j) (hlv : xm_get lv 0 = some (.ref j)) (hlen : len.toInt ≤ 400) : ∀ (m : Nat) {G1 : xm_H} {kind place size : Int32}, yt_same G G1 j → yt_at G1 j b len kind place size fault → 0 ≤ place.toInt → 0 ≤ size.toInt → place.toInt + size.toInt ≤ 400 → (400 - (place.toInt + size.toInt)).toNat ≤ m → ∀ {F : Nat}, 40 * (m + 1) ≤ F → xm_run call xm_c82 3 0 0 none Q F (xm_drop 124 xm_c82) lv [] G1 E 0 0 = true := by
  intro m
  induction m with
  | zero =>
    intro G1 kind place size hs h p0 s0 ps hm F hF
    obtain ⟨g, rfl⟩ : ∃ g, F = g + 40 := ⟨F - 40, by omega⟩
    have e := yk_add (x := place) (z := size) (by omega) (by omega)
    simp only [xz_82_124, xz_82_125, xz_82_126, xz_82_127, xz_82_128, xz_82_129, xz_82_130, xz_82_131, hlv, xm_isA, cond_true, yt_get h (i := 3) rfl, yt_get h (i := 4) rfl, yt_get h (i := 1) rfl, xk_add, xc_int, xk_ge, e]
    rw [decide_eq_false (show ¬ place.toInt + size.toInt < len.toInt by omega), Bool.not_false, cond_true]
    exact yt_n183 hQ hs h p0 s0 ps (by omega)
  | succ m ih =>
    intro G1 kind place size hs h p0 s0 ps hm F hF
    obtain ⟨g, rfl⟩ : ∃ g, F = g + 40 := ⟨F - 40, by omega⟩
    have e := yk_add (x := place) (z := size) (by omega) (by omega)
    simp only [xz_82_124, xz_82_125, xz_82_126, xz_82_127, xz_82_128, xz_82_129, xz_82_130, xz_82_131, hlv, xm_isA, cond_true, yt_get h (i := 3) rfl, yt_get h (i := 4) rfl, yt_get h (i := 1) rfl, xk_add, xc_int, xk_ge, e]
    by_cases hc : place.toInt + size.toInt < len.toInt
    · rw [decide_eq_true hc]
      simp only [Bool.not_true, cond_false]
      obtain ⟨bs, hb1, hb2⟩ := hb.mv hs hbj
      obtain ⟨c, hcc⟩ := hb2 (place + size) (by omega) (by omega)
      simp only [xz_82_132, xz_82_133, xz_82_134, xz_82_135, xz_82_136, xz_82_137, xz_82_138, xz_82_139, xz_82_140, xz_82_141, hlv, xm_isA, cond_true, yt_get h (i := 3) rfl, yt_get h (i := 4) rfl, yt_get h (i := 0) rfl, xk_add, yk_bald hb1 (show 0 ≤ (place + size).toInt by omega) hcc, xc_int]
      cases hq : xm_holds .lt (xm_sgn c.toInt (48 : Int32).toInt) with
      | true =>
        rw [cond_true]
        exact yt_n183 hQ hs h p0 s0 ps (by omega)
      | false =>
        rw [cond_false]
        simp only [xz_82_142, xz_82_143, xz_82_144, xz_82_145, xz_82_146, xz_82_147, xz_82_148, xz_82_149, xz_82_150, xz_82_151, hlv, xm_isA, cond_true, yt_get h (i := 3) rfl, yt_get h (i := 4) rfl, yt_get h (i := 0) rfl, xk_add, yk_bald hb1 (show 0 ≤ (place + size).toInt by omega) hcc, xc_int]
        cases hq2 : xm_holds .gt (xm_sgn c.toInt (57 : Int32).toInt) with
        | true =>
          rw [cond_true]
          exact yt_n183 hQ hs h p0 s0 ps (by omega)
        | false =>
          rw [cond_false]
          simp only [xz_82_152, xz_82_153, xz_82_154, xz_82_155, xz_82_156, xz_82_157, hlv, xm_isA, xm_cat1, xm_isL, Bool.not_false, cond_true, yt_get h (i := 4) rfl, xk_add]
          refine yt_put h hj rfl (by decide) rfl (fun G2 s2 h2 => ?_)
          simp only [xz_82_158]
          have e1 : (1 : Int32).toInt = 1 := rfl
          have e2 := yk_add (x := size) (z := 1) (by omega) (by omega)
          exact ih (hs.tr s2) h2 p0 (by omega) (by omega) (by omega) (by omega)
    · rw [decide_eq_false hc, Bool.not_false, cond_true]
      exact yt_n183 hQ hs h p0 s0 ps (by omega)
theorem yt_n71 (hQ : yt_post Q E G j b len fault) (hb : yt_bytes G b) (hbj : b ≠ j) (hj : 7 ≤ j) (hlen : len.toInt ≤ 400) {G1 : xm_H} {kind place size c1 c2 : Int32} (hs : yt_same G G1 j) (h : yt_at G1 j b len kind place size fault) (p0 : 0 ≤ place.toInt) (s0 : 0 ≤ size.toInt) (ps : place.toInt + size.toInt ≤ 400) (h2 : c2.toInt = 61 → place.toInt + 2 ≤ 400) {F : Nat} (hF : 20000 ≤ F) : xm_run call xm_c82 3 0 0 none Q F (xm_drop 71 xm_c82) [(2, .int c2), (1, .int c1), (0, .ref j)] [] G1 E 0 0 = true := by
  obtain ⟨g, rfl⟩ : ∃ g, F = g + 200 := ⟨F - 200, by omega⟩
  have l0 : xm_get [(2, Value.int c2), (1, .int c1), (0, .ref j)] 0 = some (.ref j) := rfl
  have l1 : xm_get [(2, Value.int c2), (1, .int c1), (0, .ref j)] 1 = some (.int c1) := rfl
  have l2 : xm_get [(2, Value.int c2), (1, .int c1), (0, .ref j)] 2 = some (.int c2) := rfl
  have t180 : ∀ F, 4 ≤ F → xm_run call xm_c82 3 0 0 none Q F (xm_drop 180 xm_c82) [(2, .int c2), (1, .int c1), (0, .ref j)] [] G1 E 0 0 = true := by
    intro F hF
    obtain ⟨g, rfl⟩ : ∃ g, F = g + 4 := ⟨F - 4, by omega⟩
    simp only [xz_82_180, xz_82_181, xz_82_182, l0, l1, xm_isI, xm_isA, cond_true]
    refine yt_put h hj rfl (by decide) rfl (fun G2 s2 h2 => ?_)
    exact yt_n183 hQ (hs.tr s2) h2 p0 s0 ps (by omega)
  have t168 : c2.toInt = 61 → ∀ F, 20 ≤ F → xm_run call xm_c82 3 0 0 none Q F (xm_drop 168 xm_c82) [(2, .int c2), (1, .int c1), (0, .ref j)] [] G1 E 0 0 = true := by
    intro h61 F hF
    obtain ⟨g, rfl⟩ : ∃ g, F = g + 20 := ⟨F - 20, by omega⟩
    have t175 : ∀ (x : Int32) F, 10 ≤ F → xm_run call xm_c82 3 0 0 none Q F (xm_drop 175 xm_c82) [(2, .int c2), (1, .int c1), (0, .ref j)] [.int x, .ref j] G1 E 0 0 = true := by
      intro x F hF
      obtain ⟨g, rfl⟩ : ∃ g, F = g + 10 := ⟨F - 10, by omega⟩
      simp only [xz_82_175]
      refine yt_put h hj rfl (by decide) rfl (fun G2 s2 h3 => ?_)
      simp only [xz_82_176, xz_82_177, xz_82_178, l0, xm_isA, cond_true]
      refine yt_put h3 hj rfl (by decide) rfl (fun G3 s3 h4 => ?_)
      simp only [xz_82_179]
      have e2 : (2 : Int32).toInt = 2 := rfl
      exact yt_n183 hQ ((hs.tr s2).tr s3) h4 p0 (by omega) (by have := h2 h61; omega) (by omega)
    simp only [xz_82_168, xz_82_169, xz_82_170, xz_82_171, l0, l1, xm_isI, xm_isA, cond_true, xc_int]
    cases hq : xm_holds .ne (xm_sgn c1.toInt (60 : Int32).toInt) with
    | true =>
      rw [cond_true]
      simp only [xz_82_174]
      exact t175 257 _ (by omega)
    | false =>
      rw [cond_false]
      simp only [xz_82_172, xz_82_173]
      exact t175 256 _ (by omega)
  have t159 : ∀ F, 40 ≤ F → xm_run call xm_c82 3 0 0 none Q F (xm_drop 159 xm_c82) [(2, .int c2), (1, .int c1), (0, .ref j)] [] G1 E 0 0 = true := by
    intro F hF
    obtain ⟨g, rfl⟩ : ∃ g, F = g + 40 := ⟨F - 40, by omega⟩
    simp only [xz_82_159, xz_82_160, xz_82_161, l2, xm_isI, cond_true, xc_int, xk_ne]
    by_cases h61 : c2.toInt = 61
    · rw [decide_eq_true (show c2.toInt = (61 : Int32).toInt from h61), Bool.not_true, cond_false]
      simp only [xz_82_162, xz_82_163, xz_82_164, l1, xm_isI, cond_true, xc_int]
      cases hq : xm_holds .eq (xm_sgn c1.toInt (60 : Int32).toInt) with
      | true =>
        rw [cond_true]
        exact t168 h61 _ (by omega)
      | false =>
        rw [cond_false]
        simp only [xz_82_165, xz_82_166, xz_82_167, l1, xm_isI, cond_true, xc_int]
        cases hq2 : xm_holds .ne (xm_sgn c1.toInt (62 : Int32).toInt) with
        | true =>
          rw [cond_true]
          exact t180 _ (by omega)
        | false =>
          rw [cond_false]
          exact t168 h61 _ (by omega)
    · rw [decide_eq_false (show ¬ c2.toInt = (61 : Int32).toInt from h61), Bool.not_false, cond_true]
      exact t180 _ (by omega)
  have t115 : ∀ F, 19000 ≤ F → xm_run call xm_c82 3 0 0 none Q F (xm_drop 115 xm_c82) [(2, .int c2), (1, .int c1), (0, .ref j)] [] G1 E 0 0 = true := by
    intro F hF
    obtain ⟨g, rfl⟩ : ∃ g, F = g + 40 := ⟨F - 40, by omega⟩
    simp only [xz_82_115, xz_82_116, xz_82_117, l1, xm_isI, cond_true, xc_int]
    cases hq : xm_holds .lt (xm_sgn c1.toInt (48 : Int32).toInt) with
    | true =>
      rw [cond_true]
      exact t159 _ (by omega)
    | false =>
      rw [cond_false]
      simp only [xz_82_118, xz_82_119, xz_82_120, l1, xm_isI, cond_true, xc_int]
      cases hq2 : xm_holds .gt (xm_sgn c1.toInt (57 : Int32).toInt) with
      | true =>
        rw [cond_true]
        exact t159 _ (by omega)
      | false =>
        rw [cond_false]
        simp only [xz_82_121, xz_82_122, xz_82_123, l0, xm_isA, cond_true]
        refine yt_put h hj rfl (by decide) rfl (fun G2 s2 h3 => ?_)
        exact yt_n124 hQ hb hbj hj l0 hlen 400 (hs.tr s2) h3 p0 s0 ps (by omega) (by omega)
  simp only [xz_82_71, xz_82_72, xz_82_73, l1, xm_isI, cond_true, xc_int]
  cases hq : xm_holds .lt (xm_sgn c1.toInt (97 : Int32).toInt) with
  | true =>
    rw [cond_true]
    exact t115 _ (by omega)
  | false =>
    rw [cond_false]
    simp only [xz_82_74, xz_82_75, xz_82_76, l1, xm_isI, cond_true, xc_int]
    cases hq2 : xm_holds .gt (xm_sgn c1.toInt (122 : Int32).toInt) with
    | true =>
      rw [cond_true]
      exact t115 _ (by omega)
    | false =>
      rw [cond_false]
      simp only [xz_82_77, xz_82_78, xz_82_79, l0, xm_isA, cond_true]
      refine yt_put h hj rfl (by decide) rfl (fun G2 s2 h3 => ?_)
      exact yt_n80 hQ hb hbj hj l0 hlen 400 (hs.tr s2) h3 p0 s0 ps (by omega) (by omega)
theorem yt_n30 (hQ : yt_post Q E G j b len fault) (hb : yt_bytes G b) (hbj : b ≠ j) (hj : 7 ≤ j) (hlen : len.toInt ≤ 400) {G1 : xm_H} {kind place size : Int32} (hs : yt_same G G1 j) (h : yt_at G1 j b len kind place size fault) (p0 : 0 ≤ place.toInt) (p4 : place.toInt ≤ 400) {F : Nat} (hF : 21000 ≤ F) : xm_run call xm_c82 3 0 0 none Q F (xm_drop 30 xm_c82) [(0, .ref j)] [] G1 E 0 0 = true := by
  obtain ⟨g, rfl⟩ : ∃ g, F = g + 200 := ⟨F - 200, by omega⟩
  have e1 : (1 : Int32).toInt = 1 := rfl
  have ea := yk_add (x := place) (z := 1) (by omega) (by omega)
  have l0 : xm_get [(0, Value.ref j)] 0 = some (.ref j) := rfl
  have m0 : ∀ c1, xm_get [(1, Value.int c1), (0, .ref j)] 0 = some (.ref j) := fun c1 => rfl
  have q1 : ∀ c1, xm_set1 [(0, Value.ref j)] 1 (.int c1) = [(1, .int c1), (0, .ref j)] := fun c1 => rfl
  have q2 : ∀ c1 c2, xm_set1 [(1, Value.int c1), (0, .ref j)] 2 (.int c2) = [(2, .int c2), (1, .int c1), (0, .ref j)] := fun c1 c2 => rfl
  have t54 : ∀ {G2 : xm_H} {size : Int32} (c1 : Int32), yt_same G G2 j → yt_at G2 j b len kind place size fault → 0 ≤ size.toInt → place.toInt + size.toInt ≤ 400 → ∀ {F : Nat}, 20100 ≤ F → xm_run call xm_c82 3 0 0 none Q F (xm_drop 54 xm_c82) [(1, .int c1), (0, .ref j)] [] G2 E 0 0 = true := by
    intro G2 size c1 hs2 h2 s0 ps F hF
    obtain ⟨g, rfl⟩ : ∃ g, F = g + 60 := ⟨F - 60, by omega⟩
    simp only [xz_82_54, xz_82_55, xz_82_56, xz_82_57, xz_82_58, xz_82_59, xz_82_60, m0, xm_isA, cond_true, yt_get h2 (i := 3) rfl, yt_get h2 (i := 1) rfl, xk_add, xc_int, xk_ge, ea, e1]
    by_cases hc : place.toInt + 1 < len.toInt
    · rw [decide_eq_true hc, Bool.not_true, cond_false]
      obtain ⟨bs, hb1, hb2⟩ := hb.mv hs2 hbj
      obtain ⟨c, hcc⟩ := hb2 (place + 1) (by omega) (by omega)
      simp only [xz_82_61, xz_82_62, xz_82_63, xz_82_64, xz_82_65, xz_82_66, xz_82_67, xz_82_68, m0, xm_isA, cond_true, yt_get h2 (i := 3) rfl, yt_get h2 (i := 0) rfl, xk_add, yk_bald hb1 (show 0 ≤ (place + 1).toInt by omega) hcc]
      simp only [xz_82_70, xm_isI, show Nat.blt 2 3 = true from rfl, Bool.and_self, cond_true, q2]
      exact yt_n71 hQ hb hbj hj hlen hs2 h2 p0 s0 ps (fun _ => by omega) (by omega)
    · rw [decide_eq_false hc, Bool.not_false, cond_true]
      simp only [xz_82_69, xz_82_70, xm_isI, show Nat.blt 2 3 = true from rfl, Bool.and_self, cond_true, q2]
      exact yt_n71 hQ hb hbj hj hlen hs2 h2 p0 s0 ps (fun q => absurd q (by decide)) (by omega)
  have t39 : ∀ (x : Int32), (x = 1 ∧ place.toInt < len.toInt) ∨ x = 0 → ∀ {F : Nat}, 20500 ≤ F → xm_run call xm_c82 3 0 0 none Q F (xm_drop 39 xm_c82) [(0, .ref j)] [.int x, .ref j] G1 E 0 0 = true := by
    intro x hx F hF
    obtain ⟨g, rfl⟩ : ∃ g, F = g + 60 := ⟨F - 60, by omega⟩
    simp only [xz_82_39]
    refine yt_put h hj rfl (by decide) rfl (fun G2 s2 h2 => ?_)
    simp only [xz_82_40, xz_82_41, xz_82_42, xz_82_43, l0, xm_isA, cond_true, yt_get h2 (i := 4) rfl, xc_int, xk_ne, e1]
    rcases hx with ⟨rfl, hlt⟩ | rfl
    · simp only [e1, decide_true, Bool.not_true, cond_false]
      obtain ⟨bs, hb1, hb2⟩ := hb.mv (hs.tr s2) hbj
      obtain ⟨c, hcc⟩ := hb2 place p0 (by omega)
      simp only [xz_82_44, xz_82_45, xz_82_46, xz_82_47, xz_82_48, xz_82_49, xz_82_50, xz_82_51, l0, xm_isA, cond_true, yt_get h2 (i := 3) rfl, yt_get h2 (i := 0) rfl, yk_bald hb1 p0 hcc, xk_and]
      simp only [xz_82_53, xm_isI, show Nat.blt 1 3 = true from rfl, Bool.and_self, cond_true, q1]
      exact t54 _ (hs.tr s2) h2 (by decide) (by omega) (by omega)
    · have e0 : (0 : Int32).toInt = 0 := rfl
      simp only [e0, show decide ((0 : Int) = 1) = false from rfl, Bool.not_false, cond_true]
      simp only [xz_82_52, xz_82_53, xm_isI, show Nat.blt 1 3 = true from rfl, Bool.and_self, cond_true, q1]
      exact t54 _ (hs.tr s2) h2 (by decide) (by omega) (by omega)
  simp only [xz_82_30, xz_82_31, xz_82_32, xz_82_33, xz_82_34, xz_82_35, l0, xm_isA, cond_true, yt_get h (i := 3) rfl, yt_get h (i := 1) rfl, xc_int, xk_ge]
  by_cases hc : place.toInt < len.toInt
  · rw [decide_eq_true hc, Bool.not_true, cond_false]
    simp only [xz_82_36, xz_82_37]
    exact t39 1 (Or.inl ⟨rfl, hc⟩) (by omega)
  · rw [decide_eq_false hc, Bool.not_false, cond_true]
    simp only [xz_82_38]
    exact t39 0 (Or.inr rfl) (by omega)
theorem yt_n11 (hQ : yt_post Q E G j b len fault) (hb : yt_bytes G b) (hbj : b ≠ j) (hj : 7 ≤ j) (hlen : len.toInt ≤ 400) : ∀ (m : Nat) {G1 : xm_H} {kind place size : Int32}, yt_same G G1 j → yt_at G1 j b len kind place size fault → 0 ≤ place.toInt → place.toInt ≤ 400 → (400 - place.toInt).toNat ≤ m → ∀ {F : Nat}, 21100 + 20 * m ≤ F → xm_run call xm_c82 3 0 0 none Q F (xm_drop 11 xm_c82) [(0, .ref j)] [] G1 E 0 0 = true := by
  have l0 : xm_get [(0, Value.ref j)] 0 = some (.ref j) := rfl
  intro m
  induction m with
  | zero =>
    intro G1 kind place size hs h p0 p4 hm F hF
    obtain ⟨g, rfl⟩ : ∃ g, F = g + 20 := ⟨F - 20, by omega⟩
    simp only [xz_82_11, xz_82_12, xz_82_13, xz_82_14, xz_82_15, l0, xm_isA, cond_true, yt_get h (i := 3) rfl, yt_get h (i := 1) rfl, xc_int, xk_ge]
    rw [decide_eq_false (show ¬ place.toInt < len.toInt by omega), Bool.not_false, cond_true]
    exact yt_n30 hQ hb hbj hj hlen hs h p0 p4 (by omega)
  | succ m ih =>
    intro G1 kind place size hs h p0 p4 hm F hF
    obtain ⟨g, rfl⟩ : ∃ g, F = g + 20 := ⟨F - 20, by omega⟩
    simp only [xz_82_11, xz_82_12, xz_82_13, xz_82_14, xz_82_15, l0, xm_isA, cond_true, yt_get h (i := 3) rfl, yt_get h (i := 1) rfl, xc_int, xk_ge]
    by_cases hc : place.toInt < len.toInt
    · rw [decide_eq_true hc, Bool.not_true, cond_false]
      obtain ⟨bs, hb1, hb2⟩ := hb.mv hs hbj
      obtain ⟨c, hcc⟩ := hb2 place p0 (by omega)
      simp only [xz_82_16, xz_82_17, xz_82_18, xz_82_19, xz_82_20, xz_82_21, xz_82_22, l0, xm_isA, cond_true, yt_get h (i := 3) rfl, yt_get h (i := 0) rfl, yk_bald hb1 p0 hcc, xc_int]
      cases hq : xm_holds .ne (xm_sgn c.toInt (32 : Int32).toInt) with
      | true =>
        rw [cond_true]
        exact yt_n30 hQ hb hbj hj hlen hs h p0 p4 (by omega)
      | false =>
        rw [cond_false]
        simp only [xz_82_23, xz_82_24, xz_82_25, xz_82_26, xz_82_27, xz_82_28, l0, xm_isA, xm_cat1, xm_isL, Bool.not_false, cond_true, yt_get h (i := 3) rfl, xk_add]
        refine yt_put h hj rfl (by decide) rfl (fun G2 s2 h2 => ?_)
        simp only [xz_82_29]
        have e1 : (1 : Int32).toInt = 1 := rfl
        have e2 := yk_add (x := place) (z := 1) (by omega) (by omega)
        exact ih (hs.tr s2) h2 (by omega) (by omega) (by omega) (by omega)
    · rw [decide_eq_false hc, Bool.not_false, cond_true]
      exact yt_n30 hQ hb hbj hj hlen hs h p0 p4 (by omega)
theorem yt_next (hb : yt_bytes G b) (hbj : b ≠ j) (hj : 7 ≤ j) (hlen : len.toInt ≤ 400) {kind place size : Int32} (h : yt_at G j b len kind place size fault) (p0 : 0 ≤ place.toInt) (s0 : 0 ≤ size.toInt) (ps : place.toInt + size.toInt ≤ 400) (hQ : yt_post Q E G j b len fault) {F : Nat} (hF : 40000 ≤ F) : xm_run call xm_c82 3 0 0 none Q F (xm_drop 0 xm_c82) [(0, .ref j)] [] G E 0 0 = true := by
  obtain ⟨g, rfl⟩ : ∃ g, F = g + 40 := ⟨F - 40, by omega⟩
  have l0 : xm_get [(0, Value.ref j)] 0 = some (.ref j) := rfl
  simp only [xz_82_0, xz_82_1, xz_82_2, l0, xm_isA, cond_true, yt_get h (i := 5) rfl, xc_int]
  cases hq : xm_holds .eq (xm_sgn fault.toInt (0 : Int32).toInt) with
  | false =>
    rw [cond_false]
    simp only [xz_82_3]
    exact hQ G kind place size (fun _ _ => rfl) h p0 s0 ps
  | true =>
    rw [cond_true]
    have e := yk_add (x := place) (z := size) (by omega) (by omega)
    simp only [xz_82_4, xz_82_5, xz_82_6, xz_82_7, xz_82_8, xz_82_9, xz_82_10, l0, xm_isA, xm_cat1, xm_isL, Bool.not_false, cond_true, yt_get h (i := 3) rfl, yt_get h (i := 4) rfl, xk_add]
    refine yt_put h hj rfl (by decide) rfl (fun G2 s2 h2 => ?_)
    exact yt_n11 hQ hb hbj hj hlen 400 s2 h2 (by omega) (by omega) (by omega) (by omega)
end TN
