/-! Tape.next, what it comes to -/
theorem yg_255 {c : Int32} (h0 : -128 ≤ c.toInt) (h1 : c.toInt ≤ 127) : (c &&& 255).toInt = if c.toInt < 0 then c.toInt + 256 else c.toInt := by
  have k : ∀ n : Nat, n < 256 → ((Int32.ofInt ((n : Int) - 128)) &&& 255).toInt = if (n : Int) - 128 < 0 then (n : Int) - 128 + 256 else (n : Int) - 128 := by decide +kernel
  have e : c = Int32.ofInt (((c.toInt + 128).toNat : Int) - 128) := by
    rw [show (((c.toInt + 128).toNat : Int) - 128) = c.toInt by omega, Int32.ofInt_toInt]
  have q := k (c.toInt + 128).toNat (by omega)
  rw [← e, show (((c.toInt + 128).toNat : Int) - 128) = c.toInt by omega] at q
  exact q
def yu_by (B : List Value) : Prop := ∀ x : Int32, 0 ≤ x.toInt → x.toInt < 400 → ∃ c : Int32, B[x.toInt.toNat]? = some (.int c) ∧ -128 ≤ c.toInt ∧ c.toInt ≤ 127
section UN
variable {call : xm_C} {Q : xm_Q} {j b : Nat} {G : xm_H} {E : xm_R} {len fault : Int32} {lv : xm_L} {B : List Value} {T q : Nat}
def yu_post (B : List Value) (T : Nat) (Q : xm_Q) (E : xm_R) (G : xm_H) (j b : Nat) (len fault : Int32) (q : Nat) : Prop := ∀ (G' : xm_H) (kind place size : Int32), yt_same G G' j → yt_at G' j b len kind place size fault → place.toInt = q → kind.toInt = yg_kind B T q → size.toInt = yg_size B T q → Q none G' E = true
theorem yu_n183 (hQ : yu_post B T Q E G j b len fault q) {G1 : xm_H} {kind place size : Int32} (hs : yt_same G G1 j) (h : yt_at G1 j b len kind place size fault) (p0 : place.toInt = q) (k0 : kind.toInt = yg_kind B T q) (s0 : size.toInt = yg_size B T q) {F : Nat} (hF : 1 ≤ F) : xm_run call xm_c82 3 0 0 none Q F (xm_drop 183 xm_c82) lv [] G1 E 0 0 = true := by
  obtain ⟨g, rfl⟩ : ∃ g, F = g + 1 := ⟨F - 1, by omega⟩
  simp only [xz_82_183]
  exact hQ G1 kind place size hs h p0 k0 s0
theorem yu_n80 (hQ : yu_post B T Q E G j b len fault q) (hb : xm_hget G b = some (101, B)) (hby : yu_by B) (hbj : b ≠ j) (hj : 7 ≤ j) (hlv : xm_get lv 0 = some (.ref j)) (hlen : len.toInt ≤ 400) (hT : len.toInt = T) (hq : 97 ≤ yg_c B T q ∧ yg_c B T q ≤ 122) : ∀ (m : Nat) {G1 : xm_H} {kind place size : Int32}, yt_same G G1 j → yt_at G1 j b len kind place size fault → place.toInt = q → kind.toInt = 97 → 0 ≤ size.toInt → place.toInt + size.toInt ≤ 400 → (∀ i, q ≤ i → i < q + size.toInt.toNat → i < T ∧ 97 ≤ yg_b B i ∧ yg_b B i ≤ 122) → (400 - (place.toInt + size.toInt)).toNat ≤ m → ∀ {F : Nat}, 40 * (m + 1) + 40 ≤ F → xm_run call xm_c82 3 0 0 none Q F (xm_drop 80 xm_c82) lv [] G1 E 0 0 = true := by
  have fin : ∀ {G1 : xm_H} {kind place size : Int32}, yt_same G G1 j → yt_at G1 j b len kind place size fault → place.toInt = q → kind.toInt = 97 → 0 ≤ size.toInt → place.toInt + size.toInt ≤ 400 → (∀ i, q ≤ i → i < q + size.toInt.toNat → i < T ∧ 97 ≤ yg_b B i ∧ yg_b B i ≤ 122) → ¬ (q + size.toInt.toNat < T ∧ 97 ≤ yg_b B (q + size.toInt.toNat) ∧ yg_b B (q + size.toInt.toNat) ≤ 122) → ∀ {F : Nat}, 1 ≤ F → xm_run call xm_c82 3 0 0 none Q F (xm_drop 183 xm_c82) lv [] G1 E 0 0 = true := by
    intro G1 kind place size hs h p0 k0 s0 ps hi hn F hF
    refine yu_n183 hQ hs h p0 ?_ ?_ hF
    · unfold yg_kind
      rw [if_pos hq, k0]
    · unfold yg_size
      rw [if_pos hq, yg_runq (q := q + size.toInt.toNat) (by omega) (by omega) hi hn]
      omega
  intro m
  induction m with
  | zero =>
    intro G1 kind place size hs h p0 k0 s0 ps hi hm F hF
    obtain ⟨g, rfl⟩ : ∃ g, F = g + 40 := ⟨F - 40, by omega⟩
    have e := yk_add (x := place) (z := size) (by omega) (by omega)
    simp only [xz_82_80, xz_82_81, xz_82_82, xz_82_83, xz_82_84, xz_82_85, xz_82_86, xz_82_87, hlv, xm_isA, cond_true, yt_get h (i := 3) rfl, yt_get h (i := 4) rfl, yt_get h (i := 1) rfl, xk_add, xc_int, xk_ge, e]
    rw [decide_eq_false (show ¬ place.toInt + size.toInt < len.toInt by omega), Bool.not_false, cond_true]
    exact fin hs h p0 k0 s0 ps hi (fun z => by omega) (by omega)
  | succ m ih =>
    intro G1 kind place size hs h p0 k0 s0 ps hi hm F hF
    obtain ⟨g, rfl⟩ : ∃ g, F = g + 40 := ⟨F - 40, by omega⟩
    have e := yk_add (x := place) (z := size) (by omega) (by omega)
    simp only [xz_82_80, xz_82_81, xz_82_82, xz_82_83, xz_82_84, xz_82_85, xz_82_86, xz_82_87, hlv, xm_isA, cond_true, yt_get h (i := 3) rfl, yt_get h (i := 4) rfl, yt_get h (i := 1) rfl, xk_add, xc_int, xk_ge, e]
    by_cases hc : place.toInt + size.toInt < len.toInt
    · rw [decide_eq_true hc]
      simp only [Bool.not_true, cond_false]
      have hb1 : xm_hget G1 b = some (101, B) := by rw [hs b hbj]; exact hb
      obtain ⟨c, hcc, -, -⟩ := hby (place + size) (by omega) (by omega)
      have hcq := yg_bq hcc
      rw [show (place + size).toInt.toNat = q + size.toInt.toNat by omega] at hcq
      have e97 : (97 : Int32).toInt = 97 := rfl
      have e122 : (122 : Int32).toInt = 122 := rfl
      simp only [xz_82_88, xz_82_89, xz_82_90, xz_82_91, xz_82_92, xz_82_93, xz_82_94, xz_82_95, xz_82_96, xz_82_97, hlv, xm_isA, cond_true, yt_get h (i := 3) rfl, yt_get h (i := 4) rfl, yt_get h (i := 0) rfl, xk_add, yk_bald hb1 (show 0 ≤ (place + size).toInt by omega) hcc, xc_int, xk_lt]
      by_cases h97 : c.toInt < (97 : Int32).toInt
      · rw [decide_eq_true h97, cond_true]
        exact fin hs h p0 k0 s0 ps hi (fun z => by omega) (by omega)
      · rw [decide_eq_false h97, cond_false]
        simp only [xz_82_98, xz_82_99, xz_82_100, xz_82_101, xz_82_102, xz_82_103, xz_82_104, xz_82_105, xz_82_106, xz_82_107, hlv, xm_isA, cond_true, yt_get h (i := 3) rfl, yt_get h (i := 4) rfl, yt_get h (i := 0) rfl, xk_add, yk_bald hb1 (show 0 ≤ (place + size).toInt by omega) hcc, xc_int, xk_gt]
        by_cases h122 : (122 : Int32).toInt < c.toInt
        · rw [decide_eq_true h122, cond_true]
          exact fin hs h p0 k0 s0 ps hi (fun z => by omega) (by omega)
        · rw [decide_eq_false h122, cond_false]
          simp only [xz_82_108, xz_82_109, xz_82_110, xz_82_111, xz_82_112, xz_82_113, hlv, xm_isA, xm_cat1, xm_isL, Bool.not_false, cond_true, yt_get h (i := 4) rfl, xk_add]
          refine yt_put h hj rfl (by decide) rfl (fun G2 s2 h2 => ?_)
          simp only [xz_82_114]
          have e1 : (1 : Int32).toInt = 1 := rfl
          have e2 := yk_add (x := size) (z := 1) (by omega) (by omega)
          refine ih (hs.tr s2) h2 p0 k0 (by omega) (by omega) (fun i i0 i1 => ?_) (by omega) (by omega)
          by_cases ei : i = q + size.toInt.toNat
          · subst ei
            omega
          · exact hi i i0 (by omega)
    · rw [decide_eq_false hc, Bool.not_false, cond_true]
      exact fin hs h p0 k0 s0 ps hi (fun z => by omega) (by omega)
theorem yu_n124 (hQ : yu_post B T Q E G j b len fault q) (hb : xm_hget G b = some (101, B)) (hby : yu_by B) (hbj : b ≠ j) (hj : 7 ≤ j) (hlv : xm_get lv 0 = some (.ref j)) (hlen : len.toInt ≤ 400) (hT : len.toInt = T) (hq : 48 ≤ yg_c B T q ∧ yg_c B T q ≤ 57) : ∀ (m : Nat) {G1 : xm_H} {kind place size : Int32}, yt_same G G1 j → yt_at G1 j b len kind place size fault → place.toInt = q → kind.toInt = 48 → 0 ≤ size.toInt → place.toInt + size.toInt ≤ 400 → (∀ i, q ≤ i → i < q + size.toInt.toNat → i < T ∧ 48 ≤ yg_b B i ∧ yg_b B i ≤ 57) → (400 - (place.toInt + size.toInt)).toNat ≤ m → ∀ {F : Nat}, 40 * (m + 1) + 40 ≤ F → xm_run call xm_c82 3 0 0 none Q F (xm_drop 124 xm_c82) lv [] G1 E 0 0 = true := by
  have fin : ∀ {G1 : xm_H} {kind place size : Int32}, yt_same G G1 j → yt_at G1 j b len kind place size fault → place.toInt = q → kind.toInt = 48 → 0 ≤ size.toInt → place.toInt + size.toInt ≤ 400 → (∀ i, q ≤ i → i < q + size.toInt.toNat → i < T ∧ 48 ≤ yg_b B i ∧ yg_b B i ≤ 57) → ¬ (q + size.toInt.toNat < T ∧ 48 ≤ yg_b B (q + size.toInt.toNat) ∧ yg_b B (q + size.toInt.toNat) ≤ 57) → ∀ {F : Nat}, 1 ≤ F → xm_run call xm_c82 3 0 0 none Q F (xm_drop 183 xm_c82) lv [] G1 E 0 0 = true := by
    intro G1 kind place size hs h p0 k0 s0 ps hi hn F hF
    refine yu_n183 hQ hs h p0 ?_ ?_ hF
    · unfold yg_kind
      rw [if_neg (fun z => by omega), if_pos hq, k0]
    · unfold yg_size
      rw [if_neg (fun z => by omega), if_pos hq, yg_runq (q := q + size.toInt.toNat) (by omega) (by omega) hi hn]
      omega
  intro m
  induction m with
  | zero =>
    intro G1 kind place size hs h p0 k0 s0 ps hi hm F hF
    obtain ⟨g, rfl⟩ : ∃ g, F = g + 40 := ⟨F - 40, by omega⟩
    have e := yk_add (x := place) (z := size) (by omega) (by omega)
    simp only [xz_82_124, xz_82_125, xz_82_126, xz_82_127, xz_82_128, xz_82_129, xz_82_130, xz_82_131, hlv, xm_isA, cond_true, yt_get h (i := 3) rfl, yt_get h (i := 4) rfl, yt_get h (i := 1) rfl, xk_add, xc_int, xk_ge, e]
    rw [decide_eq_false (show ¬ place.toInt + size.toInt < len.toInt by omega), Bool.not_false, cond_true]
    exact fin hs h p0 k0 s0 ps hi (fun z => by omega) (by omega)
  | succ m ih =>
    intro G1 kind place size hs h p0 k0 s0 ps hi hm F hF
    obtain ⟨g, rfl⟩ : ∃ g, F = g + 40 := ⟨F - 40, by omega⟩
    have e := yk_add (x := place) (z := size) (by omega) (by omega)
    simp only [xz_82_124, xz_82_125, xz_82_126, xz_82_127, xz_82_128, xz_82_129, xz_82_130, xz_82_131, hlv, xm_isA, cond_true, yt_get h (i := 3) rfl, yt_get h (i := 4) rfl, yt_get h (i := 1) rfl, xk_add, xc_int, xk_ge, e]
    by_cases hc : place.toInt + size.toInt < len.toInt
    · rw [decide_eq_true hc]
      simp only [Bool.not_true, cond_false]
      have hb1 : xm_hget G1 b = some (101, B) := by rw [hs b hbj]; exact hb
      obtain ⟨c, hcc, -, -⟩ := hby (place + size) (by omega) (by omega)
      have hcq := yg_bq hcc
      rw [show (place + size).toInt.toNat = q + size.toInt.toNat by omega] at hcq
      have e97 : (48 : Int32).toInt = 48 := rfl
      have e122 : (57 : Int32).toInt = 57 := rfl
      simp only [xz_82_132, xz_82_133, xz_82_134, xz_82_135, xz_82_136, xz_82_137, xz_82_138, xz_82_139, xz_82_140, xz_82_141, hlv, xm_isA, cond_true, yt_get h (i := 3) rfl, yt_get h (i := 4) rfl, yt_get h (i := 0) rfl, xk_add, yk_bald hb1 (show 0 ≤ (place + size).toInt by omega) hcc, xc_int, xk_lt]
      by_cases h97 : c.toInt < (48 : Int32).toInt
      · rw [decide_eq_true h97, cond_true]
        exact fin hs h p0 k0 s0 ps hi (fun z => by omega) (by omega)
      · rw [decide_eq_false h97, cond_false]
        simp only [xz_82_142, xz_82_143, xz_82_144, xz_82_145, xz_82_146, xz_82_147, xz_82_148, xz_82_149, xz_82_150, xz_82_151, hlv, xm_isA, cond_true, yt_get h (i := 3) rfl, yt_get h (i := 4) rfl, yt_get h (i := 0) rfl, xk_add, yk_bald hb1 (show 0 ≤ (place + size).toInt by omega) hcc, xc_int, xk_gt]
        by_cases h122 : (57 : Int32).toInt < c.toInt
        · rw [decide_eq_true h122, cond_true]
          exact fin hs h p0 k0 s0 ps hi (fun z => by omega) (by omega)
        · rw [decide_eq_false h122, cond_false]
          simp only [xz_82_152, xz_82_153, xz_82_154, xz_82_155, xz_82_156, xz_82_157, hlv, xm_isA, xm_cat1, xm_isL, Bool.not_false, cond_true, yt_get h (i := 4) rfl, xk_add]
          refine yt_put h hj rfl (by decide) rfl (fun G2 s2 h2 => ?_)
          simp only [xz_82_158]
          have e1 : (1 : Int32).toInt = 1 := rfl
          have e2 := yk_add (x := size) (z := 1) (by omega) (by omega)
          refine ih (hs.tr s2) h2 p0 k0 (by omega) (by omega) (fun i i0 i1 => ?_) (by omega) (by omega)
          by_cases ei : i = q + size.toInt.toNat
          · subst ei
            omega
          · exact hi i i0 (by omega)
    · rw [decide_eq_false hc, Bool.not_false, cond_true]
      exact fin hs h p0 k0 s0 ps hi (fun z => by omega) (by omega)
/-- first and second byte are known -/
theorem yu_n71 (hQ : yu_post B T Q E G j b len fault q) (hb : xm_hget G b = some (101, B)) (hby : yu_by B) (hbj : b ≠ j) (hj : 7 ≤ j) (hlen : len.toInt ≤ 400) (hT : len.toInt = T) {G1 : xm_H} {kind place size c1 c2 : Int32} (hs : yt_same G G1 j) (h : yt_at G1 j b len kind place size fault) (p0 : place.toInt = q) (s0 : size.toInt = if q < T then 1 else 0) (h1 : c1.toInt = yg_c B T q) (h2 : c2.toInt = 61 ↔ (q + 1 < T ∧ yg_b B (q + 1) = 61)) {F : Nat} (hF : 20000 ≤ F) : xm_run call xm_c82 3 0 0 none Q F (xm_drop 71 xm_c82) [(2, .int c2), (1, .int c1), (0, .ref j)] [] G1 E 0 0 = true := by
  obtain ⟨g, rfl⟩ : ∃ g, F = g + 200 := ⟨F - 200, by omega⟩
  have l0 : xm_get [(2, Value.int c2), (1, .int c1), (0, .ref j)] 0 = some (.ref j) := rfl
  have l1 : xm_get [(2, Value.int c2), (1, .int c1), (0, .ref j)] 1 = some (.int c1) := rfl
  have l2 : xm_get [(2, Value.int c2), (1, .int c1), (0, .ref j)] 2 = some (.int c2) := rfl
  have e60 : (60 : Int32).toInt = 60 := rfl
  have e62 : (62 : Int32).toInt = 62 := rfl
  have e61 : (61 : Int32).toInt = 61 := rfl
  have e97 : (97 : Int32).toInt = 97 := rfl
  have e122 : (122 : Int32).toInt = 122 := rfl
  have e48 : (48 : Int32).toInt = 48 := rfl
  have e57 : (57 : Int32).toInt = 57 := rfl
  have hlt : 0 ≤ yg_c B T q → q < T := by
    intro z
    unfold yg_c at z
    by_cases e : q < T
    · exact e
    · rw [if_neg e] at z
      omega
  have hcb : 0 ≤ yg_c B T q → yg_c B T q ≤ 127 → yg_b B q = yg_c B T q := by
    intro z z1
    have e := hlt z
    unfold yg_c at z z1 ⊢
    rw [if_pos e] at z z1 ⊢
    obtain ⟨c, hcc, c0, c3⟩ := hby place (by omega) (by omega)
    have hcq := yg_bq hcc
    rw [show place.toInt.toNat = q by omega] at hcq
    by_cases e2 : yg_b B q < 0
    · rw [if_pos e2] at z1
      omega
    · rw [if_neg e2]
  have s1 : size.toInt = 1 ∨ size.toInt = 0 := by
    rw [s0]
    by_cases e : q < T
    · rw [if_pos e]; exact Or.inl rfl
    · rw [if_neg e]; exact Or.inr rfl
  have t180 : ¬ (97 ≤ yg_c B T q ∧ yg_c B T q ≤ 122) → ¬ (48 ≤ yg_c B T q ∧ yg_c B T q ≤ 57) → ¬ ((q + 1 < T ∧ yg_b B (q + 1) = 61) ∧ (yg_c B T q = 60 ∨ yg_c B T q = 62)) → ∀ F, 4 ≤ F → xm_run call xm_c82 3 0 0 none Q F (xm_drop 180 xm_c82) [(2, .int c2), (1, .int c1), (0, .ref j)] [] G1 E 0 0 = true := by
    intro z1 z2 z3 F hF
    obtain ⟨g, rfl⟩ : ∃ g, F = g + 4 := ⟨F - 4, by omega⟩
    simp only [xz_82_180, xz_82_181, xz_82_182, l0, l1, xm_isI, xm_isA, cond_true]
    refine yt_put h hj rfl (by decide) rfl (fun G2 s2 h2 => ?_)
    refine yu_n183 hQ (hs.tr s2) h2 p0 ?_ ?_ (by omega)
    · unfold yg_kind
      rw [if_neg z1, if_neg z2, if_neg z3, h1]
    · unfold yg_size
      rw [if_neg z1, if_neg z2, if_neg z3, s0]
      by_cases e : q < T
      · rw [if_pos e, if_pos e]; rfl
      · rw [if_neg e, if_neg e]; rfl
  have t168 : (q + 1 < T ∧ yg_b B (q + 1) = 61) → (yg_c B T q = 60 ∨ yg_c B T q = 62) → ∀ F, 20 ≤ F → xm_run call xm_c82 3 0 0 none Q F (xm_drop 168 xm_c82) [(2, .int c2), (1, .int c1), (0, .ref j)] [] G1 E 0 0 = true := by
    intro z1 z2 F hF
    obtain ⟨g, rfl⟩ : ∃ g, F = g + 20 := ⟨F - 20, by omega⟩
    have t175 : ∀ (x : Int32) F, x.toInt = (if yg_c B T q = 60 then 256 else 257) → 10 ≤ F → xm_run call xm_c82 3 0 0 none Q F (xm_drop 175 xm_c82) [(2, .int c2), (1, .int c1), (0, .ref j)] [.int x, .ref j] G1 E 0 0 = true := by
      intro x F hx hF
      obtain ⟨g, rfl⟩ : ∃ g, F = g + 10 := ⟨F - 10, by omega⟩
      simp only [xz_82_175]
      refine yt_put h hj rfl (by decide) rfl (fun G2 s2 h3 => ?_)
      simp only [xz_82_176, xz_82_177, xz_82_178, l0, xm_isA, cond_true]
      refine yt_put h3 hj rfl (by decide) rfl (fun G3 s3 h4 => ?_)
      simp only [xz_82_179]
      refine yu_n183 hQ ((hs.tr s2).tr s3) h4 p0 ?_ ?_ (by omega)
      · unfold yg_kind
        rw [if_neg (fun z => by omega), if_neg (fun z => by omega), if_pos ⟨z1, z2⟩, hx]
      · unfold yg_size
        rw [if_neg (fun z => by omega), if_neg (fun z => by omega), if_pos ⟨z1, z2⟩]
        rfl
    simp only [xz_82_168, xz_82_169, xz_82_170, xz_82_171, l0, l1, xm_isI, xm_isA, cond_true, xc_int, xk_ne]
    by_cases hq : c1.toInt = (60 : Int32).toInt
    · rw [decide_eq_true hq, Bool.not_true, cond_false]
      simp only [xz_82_172, xz_82_173]
      exact t175 256 _ (by rw [if_pos (by omega)]; rfl) (by omega)
    · rw [decide_eq_false hq, Bool.not_false, cond_true]
      simp only [xz_82_174]
      exact t175 257 _ (by rw [if_neg (by omega)]; rfl) (by omega)
  have t159 : ¬ (97 ≤ yg_c B T q ∧ yg_c B T q ≤ 122) → ¬ (48 ≤ yg_c B T q ∧ yg_c B T q ≤ 57) → ∀ F, 40 ≤ F → xm_run call xm_c82 3 0 0 none Q F (xm_drop 159 xm_c82) [(2, .int c2), (1, .int c1), (0, .ref j)] [] G1 E 0 0 = true := by
    intro z1 z2 F hF
    obtain ⟨g, rfl⟩ : ∃ g, F = g + 40 := ⟨F - 40, by omega⟩
    simp only [xz_82_159, xz_82_160, xz_82_161, l2, xm_isI, cond_true, xc_int, xk_ne]
    by_cases h61 : c2.toInt = 61
    · rw [decide_eq_true (show c2.toInt = (61 : Int32).toInt from h61), Bool.not_true, cond_false]
      simp only [xz_82_162, xz_82_163, xz_82_164, l1, xm_isI, cond_true, xc_int, xk_eq]
      by_cases hq : c1.toInt = (60 : Int32).toInt
      · rw [decide_eq_true hq, cond_true]
        exact t168 (h2.mp h61) (by omega) _ (by omega)
      · rw [decide_eq_false hq, cond_false]
        simp only [xz_82_165, xz_82_166, xz_82_167, l1, xm_isI, cond_true, xc_int, xk_ne]
        by_cases hq2 : c1.toInt = (62 : Int32).toInt
        · rw [decide_eq_true hq2, Bool.not_true, cond_false]
          exact t168 (h2.mp h61) (by omega) _ (by omega)
        · rw [decide_eq_false hq2, Bool.not_false, cond_true]
          exact t180 z1 z2 (fun z => by omega) _ (by omega)
    · rw [decide_eq_false (show ¬ c2.toInt = (61 : Int32).toInt from h61), Bool.not_false, cond_true]
      exact t180 z1 z2 (fun z => h61 (h2.mpr z.1)) _ (by omega)
  have t115 : ¬ (97 ≤ yg_c B T q ∧ yg_c B T q ≤ 122) → ∀ F, 19000 ≤ F → xm_run call xm_c82 3 0 0 none Q F (xm_drop 115 xm_c82) [(2, .int c2), (1, .int c1), (0, .ref j)] [] G1 E 0 0 = true := by
    intro z1 F hF
    obtain ⟨g, rfl⟩ : ∃ g, F = g + 40 := ⟨F - 40, by omega⟩
    simp only [xz_82_115, xz_82_116, xz_82_117, l1, xm_isI, cond_true, xc_int, xk_lt]
    by_cases hq : c1.toInt < (48 : Int32).toInt
    · rw [decide_eq_true hq, cond_true]
      exact t159 z1 (fun z => by omega) _ (by omega)
    · rw [decide_eq_false hq, cond_false]
      simp only [xz_82_118, xz_82_119, xz_82_120, l1, xm_isI, cond_true, xc_int, xk_gt]
      by_cases hq2 : (57 : Int32).toInt < c1.toInt
      · rw [decide_eq_true hq2, cond_true]
        exact t159 z1 (fun z => by omega) _ (by omega)
      · rw [decide_eq_false hq2, cond_false]
        simp only [xz_82_121, xz_82_122, xz_82_123, l0, xm_isA, cond_true]
        refine yt_put h hj rfl (by decide) rfl (fun G2 s2 h3 => ?_)
        have hT' := hlt (by omega)
        have hb' := hcb (by omega) (by omega)
        rw [if_pos hT'] at s0
        refine yu_n124 hQ hb hby hbj hj l0 hlen hT (by omega) 400 (hs.tr s2) h3 p0 rfl (by omega) (by omega) (fun i i0 i1 => ?_) (by omega) (by omega)
        have ei : i = q := by omega
        subst ei
        omega
  simp only [xz_82_71, xz_82_72, xz_82_73, l1, xm_isI, cond_true, xc_int, xk_lt]
  by_cases hq : c1.toInt < (97 : Int32).toInt
  · rw [decide_eq_true hq, cond_true]
    exact t115 (fun z => by omega) _ (by omega)
  · rw [decide_eq_false hq, cond_false]
    simp only [xz_82_74, xz_82_75, xz_82_76, l1, xm_isI, cond_true, xc_int, xk_gt]
    by_cases hq2 : (122 : Int32).toInt < c1.toInt
    · rw [decide_eq_true hq2, cond_true]
      exact t115 (fun z => by omega) _ (by omega)
    · rw [decide_eq_false hq2, cond_false]
      simp only [xz_82_77, xz_82_78, xz_82_79, l0, xm_isA, cond_true]
      refine yt_put h hj rfl (by decide) rfl (fun G2 s2 h3 => ?_)
      have hT' := hlt (by omega)
      have hb' := hcb (by omega) (by omega)
      rw [if_pos hT'] at s0
      refine yu_n80 hQ hb hby hbj hj l0 hlen hT (by omega) 400 (hs.tr s2) h3 p0 rfl (by omega) (by omega) (fun i i0 i1 => ?_) (by omega) (by omega)
      have ei : i = q := by omega
      subst ei
      omega
theorem yu_n30 (hQ : yu_post B T Q E G j b len fault q) (hb : xm_hget G b = some (101, B)) (hby : yu_by B) (hbj : b ≠ j) (hj : 7 ≤ j) (hlen : len.toInt ≤ 400) (hT : len.toInt = T) {G1 : xm_H} {kind place size : Int32} (hs : yt_same G G1 j) (h : yt_at G1 j b len kind place size fault) (p0 : place.toInt = q) (p4 : place.toInt ≤ 400) {F : Nat} (hF : 21000 ≤ F) : xm_run call xm_c82 3 0 0 none Q F (xm_drop 30 xm_c82) [(0, .ref j)] [] G1 E 0 0 = true := by
  obtain ⟨g, rfl⟩ : ∃ g, F = g + 200 := ⟨F - 200, by omega⟩
  have e1 : (1 : Int32).toInt = 1 := rfl
  have em1 : (-1 : Int32).toInt = -1 := rfl
  have ea := yk_add (x := place) (z := 1) (by omega) (by omega)
  have l0 : xm_get [(0, Value.ref j)] 0 = some (.ref j) := rfl
  have m0 : ∀ c1, xm_get [(1, Value.int c1), (0, .ref j)] 0 = some (.ref j) := fun c1 => rfl
  have q1 : ∀ c1, xm_set1 [(0, Value.ref j)] 1 (.int c1) = [(1, .int c1), (0, .ref j)] := fun c1 => rfl
  have q2 : ∀ c1 c2, xm_set1 [(1, Value.int c1), (0, .ref j)] 2 (.int c2) = [(2, .int c2), (1, .int c1), (0, .ref j)] := fun c1 c2 => rfl
  have t54 : ∀ {G2 : xm_H} {size : Int32} (c1 : Int32), yt_same G G2 j → yt_at G2 j b len kind place size fault → size.toInt = (if q < T then 1 else 0) → c1.toInt = yg_c B T q → ∀ {F : Nat}, 20100 ≤ F → xm_run call xm_c82 3 0 0 none Q F (xm_drop 54 xm_c82) [(1, .int c1), (0, .ref j)] [] G2 E 0 0 = true := by
    intro G2 size c1 hs2 h2 s0 hc1 F hF
    obtain ⟨g, rfl⟩ : ∃ g, F = g + 60 := ⟨F - 60, by omega⟩
    simp only [xz_82_54, xz_82_55, xz_82_56, xz_82_57, xz_82_58, xz_82_59, xz_82_60, m0, xm_isA, cond_true, yt_get h2 (i := 3) rfl, yt_get h2 (i := 1) rfl, xk_add, xc_int, xk_ge, ea, e1]
    by_cases hc : place.toInt + 1 < len.toInt
    · rw [decide_eq_true hc, Bool.not_true, cond_false]
      have hb1 : xm_hget G2 b = some (101, B) := by rw [hs2 b hbj]; exact hb
      obtain ⟨c, hcc, -, -⟩ := hby (place + 1) (by omega) (by omega)
      have hcq := yg_bq hcc
      rw [show (place + 1).toInt.toNat = q + 1 by omega] at hcq
      simp only [xz_82_61, xz_82_62, xz_82_63, xz_82_64, xz_82_65, xz_82_66, xz_82_67, xz_82_68, m0, xm_isA, cond_true, yt_get h2 (i := 3) rfl, yt_get h2 (i := 0) rfl, xk_add, yk_bald hb1 (show 0 ≤ (place + 1).toInt by omega) hcc]
      simp only [xz_82_70, xm_isI, show Nat.blt 2 3 = true from rfl, Bool.and_self, cond_true, q2]
      refine yu_n71 hQ hb hby hbj hj hlen hT hs2 h2 p0 s0 hc1 ?_ (by omega)
      rw [hcq]
      exact ⟨fun z => ⟨by omega, z⟩, fun z => z.2⟩
    · rw [decide_eq_false hc, Bool.not_false, cond_true]
      simp only [xz_82_69, xz_82_70, xm_isI, show Nat.blt 2 3 = true from rfl, Bool.and_self, cond_true, q2]
      refine yu_n71 hQ hb hby hbj hj hlen hT hs2 h2 p0 s0 hc1 ⟨fun z => ?_, fun z => ?_⟩ (by omega)
      · rw [em1] at z
        omega
      · omega
  have t39 : ∀ (x : Int32), (x = 1 ∧ place.toInt < len.toInt) ∨ (x = 0 ∧ ¬ place.toInt < len.toInt) → ∀ {F : Nat}, 20500 ≤ F → xm_run call xm_c82 3 0 0 none Q F (xm_drop 39 xm_c82) [(0, .ref j)] [.int x, .ref j] G1 E 0 0 = true := by
    intro x hx F hF
    obtain ⟨g, rfl⟩ : ∃ g, F = g + 60 := ⟨F - 60, by omega⟩
    simp only [xz_82_39]
    refine yt_put h hj rfl (by decide) rfl (fun G2 s2 h2 => ?_)
    simp only [xz_82_40, xz_82_41, xz_82_42, xz_82_43, l0, xm_isA, cond_true, yt_get h2 (i := 4) rfl, xc_int, xk_ne, e1]
    rcases hx with ⟨rfl, hlt⟩ | ⟨rfl, hlt⟩
    · simp only [e1, decide_true, Bool.not_true, cond_false]
      have hb1 : xm_hget G2 b = some (101, B) := by rw [(hs.tr s2) b hbj]; exact hb
      obtain ⟨c, hcc, c0, c3⟩ := hby place (by omega) (by omega)
      have hcq := yg_bq hcc
      rw [show place.toInt.toNat = q by omega] at hcq
      simp only [xz_82_44, xz_82_45, xz_82_46, xz_82_47, xz_82_48, xz_82_49, xz_82_50, xz_82_51, l0, xm_isA, cond_true, yt_get h2 (i := 3) rfl, yt_get h2 (i := 0) rfl, yk_bald hb1 (show 0 ≤ place.toInt by omega) hcc, xk_and]
      simp only [xz_82_53, xm_isI, show Nat.blt 1 3 = true from rfl, Bool.and_self, cond_true, q1]
      refine t54 _ (hs.tr s2) h2 (by rw [if_pos (by omega)]; rfl) ?_ (by omega)
      unfold yg_c
      rw [if_pos (by omega), hcq, yg_255 c0 c3]
    · have e0 : (0 : Int32).toInt = 0 := rfl
      simp only [e0, show decide ((0 : Int) = 1) = false from rfl, Bool.not_false, cond_true]
      simp only [xz_82_52, xz_82_53, xm_isI, show Nat.blt 1 3 = true from rfl, Bool.and_self, cond_true, q1]
      refine t54 _ (hs.tr s2) h2 (by rw [if_neg (by omega)]; rfl) ?_ (by omega)
      unfold yg_c
      rw [if_neg (by omega)]
      rfl
  simp only [xz_82_30, xz_82_31, xz_82_32, xz_82_33, xz_82_34, xz_82_35, l0, xm_isA, cond_true, yt_get h (i := 3) rfl, yt_get h (i := 1) rfl, xc_int, xk_ge]
  by_cases hc : place.toInt < len.toInt
  · rw [decide_eq_true hc, Bool.not_true, cond_false]
    simp only [xz_82_36, xz_82_37]
    exact t39 1 (Or.inl ⟨rfl, hc⟩) (by omega)
  · rw [decide_eq_false hc, Bool.not_false, cond_true]
    simp only [xz_82_38]
    exact t39 0 (Or.inr ⟨rfl, hc⟩) (by omega)
theorem yu_n11 {q0 : Nat} (hQ : yu_post B T Q E G j b len fault (yg_run B T 32 32 q0)) (hb : xm_hget G b = some (101, B)) (hby : yu_by B) (hbj : b ≠ j) (hj : 7 ≤ j) (hlen : len.toInt ≤ 400) (hT : len.toInt = T) : ∀ (m : Nat) {G1 : xm_H} {kind place size : Int32}, yt_same G G1 j → yt_at G1 j b len kind place size fault → (q0 : Int) ≤ place.toInt → place.toInt ≤ 400 → (∀ i, q0 ≤ i → i < place.toInt.toNat → i < T ∧ 32 ≤ yg_b B i ∧ yg_b B i ≤ 32) → (400 - place.toInt).toNat ≤ m → ∀ {F : Nat}, 21100 + 20 * m ≤ F → xm_run call xm_c82 3 0 0 none Q F (xm_drop 11 xm_c82) [(0, .ref j)] [] G1 E 0 0 = true := by
  have l0 : xm_get [(0, Value.ref j)] 0 = some (.ref j) := rfl
  have e32 : (32 : Int32).toInt = 32 := rfl
  have fin : ∀ {G1 : xm_H} {kind place size : Int32}, yt_same G G1 j → yt_at G1 j b len kind place size fault → (q0 : Int) ≤ place.toInt → place.toInt ≤ 400 → (∀ i, q0 ≤ i → i < place.toInt.toNat → i < T ∧ 32 ≤ yg_b B i ∧ yg_b B i ≤ 32) → ¬ (place.toInt.toNat < T ∧ 32 ≤ yg_b B place.toInt.toNat ∧ yg_b B place.toInt.toNat ≤ 32) → ∀ {F : Nat}, 21000 ≤ F → xm_run call xm_c82 3 0 0 none Q F (xm_drop 30 xm_c82) [(0, .ref j)] [] G1 E 0 0 = true := by
    intro G1 kind place size hs h p0 p4 hi hn F hF
    have er := yg_runq (p := q0) (q := place.toInt.toNat) (by omega) (by omega) hi hn
    rw [er] at hQ
    exact yu_n30 hQ hb hby hbj hj hlen hT hs h (by omega) p4 hF
  intro m
  induction m with
  | zero =>
    intro G1 kind place size hs h p0 p4 hi hm F hF
    obtain ⟨g, rfl⟩ : ∃ g, F = g + 20 := ⟨F - 20, by omega⟩
    simp only [xz_82_11, xz_82_12, xz_82_13, xz_82_14, xz_82_15, l0, xm_isA, cond_true, yt_get h (i := 3) rfl, yt_get h (i := 1) rfl, xc_int, xk_ge]
    rw [decide_eq_false (show ¬ place.toInt < len.toInt by omega), Bool.not_false, cond_true]
    exact fin hs h p0 p4 hi (fun z => by omega) (by omega)
  | succ m ih =>
    intro G1 kind place size hs h p0 p4 hi hm F hF
    obtain ⟨g, rfl⟩ : ∃ g, F = g + 20 := ⟨F - 20, by omega⟩
    simp only [xz_82_11, xz_82_12, xz_82_13, xz_82_14, xz_82_15, l0, xm_isA, cond_true, yt_get h (i := 3) rfl, yt_get h (i := 1) rfl, xc_int, xk_ge]
    by_cases hc : place.toInt < len.toInt
    · rw [decide_eq_true hc, Bool.not_true, cond_false]
      have hb1 : xm_hget G1 b = some (101, B) := by rw [hs b hbj]; exact hb
      obtain ⟨c, hcc, -, -⟩ := hby place (by omega) (by omega)
      have hcq := yg_bq hcc
      simp only [xz_82_16, xz_82_17, xz_82_18, xz_82_19, xz_82_20, xz_82_21, xz_82_22, l0, xm_isA, cond_true, yt_get h (i := 3) rfl, yt_get h (i := 0) rfl, yk_bald hb1 (show 0 ≤ place.toInt by omega) hcc, xc_int, xk_ne]
      by_cases hq : c.toInt = (32 : Int32).toInt
      · rw [decide_eq_true hq, Bool.not_true, cond_false]
        simp only [xz_82_23, xz_82_24, xz_82_25, xz_82_26, xz_82_27, xz_82_28, l0, xm_isA, xm_cat1, xm_isL, Bool.not_false, cond_true, yt_get h (i := 3) rfl, xk_add]
        refine yt_put h hj rfl (by decide) rfl (fun G2 s2 h2 => ?_)
        simp only [xz_82_29]
        have e1 : (1 : Int32).toInt = 1 := rfl
        have e2 := yk_add (x := place) (z := 1) (by omega) (by omega)
        refine ih (hs.tr s2) h2 (by omega) (by omega) (fun i i0 i1 => ?_) (by omega) (by omega)
        by_cases ei : i = place.toInt.toNat
        · subst ei
          omega
        · exact hi i i0 (by omega)
      · rw [decide_eq_false hq, Bool.not_false, cond_true]
        exact fin hs h p0 p4 hi (fun z => by omega) (by omega)
    · rw [decide_eq_false hc, Bool.not_false, cond_true]
      exact fin hs h p0 p4 hi (fun z => by omega) (by omega)
/-- behind no fault: on to the next token -/
theorem yu_next (hb : xm_hget G b = some (101, B)) (hby : yu_by B) (hbj : b ≠ j) (hj : 7 ≤ j) (hlen : len.toInt ≤ 400) (hT : len.toInt = T) {kind place size : Int32} (h : yt_at G j b len kind place size 0) (p0 : 0 ≤ place.toInt) (s0 : 0 ≤ size.toInt) (ps : place.toInt + size.toInt ≤ 400) {q0 : Nat} (hq0 : place.toInt + size.toInt = q0) (hQ : yu_post B T Q E G j b len 0 (yg_run B T 32 32 q0)) {F : Nat} (hF : 40000 ≤ F) : xm_run call xm_c82 3 0 0 none Q F (xm_drop 0 xm_c82) [(0, .ref j)] [] G E 0 0 = true := by
  obtain ⟨g, rfl⟩ : ∃ g, F = g + 40 := ⟨F - 40, by omega⟩
  have l0 : xm_get [(0, Value.ref j)] 0 = some (.ref j) := rfl
  simp only [xz_82_0, xz_82_1, xz_82_2, l0, xm_isA, cond_true, yt_get h (i := 5) rfl, xc_int, xk_eq, decide_true]
  have e := yk_add (x := place) (z := size) (by omega) (by omega)
  simp only [xz_82_4, xz_82_5, xz_82_6, xz_82_7, xz_82_8, xz_82_9, xz_82_10, l0, xm_isA, xm_cat1, xm_isL, Bool.not_false, cond_true, yt_get h (i := 3) rfl, yt_get h (i := 4) rfl, xk_add]
  refine yt_put h hj rfl (by decide) rfl (fun G2 s2 h2 => ?_)
  exact yu_n11 hQ hb hby hbj hj hlen hT 400 s2 h2 (by omega) (by omega) (fun i i0 i1 => by omega) (by omega) (by omega)
/-- behind a fault: nothing -/
theorem yu_next0 {kind place size : Int32} (h : yt_at G j b len kind place size fault) (hf : fault ≠ 0) (hQ : Q none G E = true) {F : Nat} (hF : 40000 ≤ F) : xm_run call xm_c82 3 0 0 none Q F (xm_drop 0 xm_c82) [(0, .ref j)] [] G E 0 0 = true := by
  obtain ⟨g, rfl⟩ : ∃ g, F = g + 40 := ⟨F - 40, by omega⟩
  have l0 : xm_get [(0, Value.ref j)] 0 = some (.ref j) := rfl
  have hz : ¬ fault.toInt = (0 : Int32).toInt := fun z => hf (Int32.toInt_inj.mp z)
  simp only [xz_82_0, xz_82_1, xz_82_2, l0, xm_isA, cond_true, yt_get h (i := 5) rfl, xc_int, xk_eq, decide_eq_false hz, cond_false]
  simp only [xz_82_3]
  exact hQ
end UN
