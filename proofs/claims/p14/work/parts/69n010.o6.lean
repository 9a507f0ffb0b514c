/-! the reference's lines of a house -/
theorem zhn_un1 {b : Int → Int} {T p lo hi x q v : Int} (h : zhn b T p lo hi (-1) = .inl (x, q)) : zhn b T p lo hi v = if x = v then .inr (1 + 8 * p + 1) else .inl (x, q) := by
  unfold zhn at h ⊢
  by_cases e : zg_kind b T p = 48
  · rw [if_pos e] at h ⊢
    by_cases e2 : 5 < zg_te b T p - p ∨ zhv b T p < lo ∨ hi < zhv b T p ∨ zhv b T p = -1
    · rw [if_pos e2] at h
      cases h
    · rw [if_neg e2] at h
      injection h with h
      injection h with h1 h2
      subst h1
      subst h2
      by_cases e3 : zhv b T p = v
      · rw [if_pos (by omega), if_pos e3]
      · rw [if_neg (by omega), if_neg e3]
  · rw [if_neg e] at h
    cases h
theorem zhn_un2 {b : Int → Int} {T p lo hi f v : Int} (hlo : 0 ≤ lo) (h : zhn b T p lo hi (-1) = .inr f) : zhn b T p lo hi v = .inr f := by
  unfold zhn at h ⊢
  by_cases e : zg_kind b T p = 48
  · rw [if_pos e] at h ⊢
    by_cases e2 : 5 < zg_te b T p - p ∨ zhv b T p < lo ∨ hi < zhv b T p ∨ zhv b T p = -1
    · rw [if_pos e2] at h
      rw [if_pos (by omega)]
      exact h
    · rw [if_neg e2] at h
      cases h
  · rw [if_neg e] at h ⊢
    exact h
/-- what a new person is besides the floor and the bells -/
def zhpS (s : zS) (i a n : Int) : zS := zu (zu (zu (zu (zu (zu (zu (zu (zu (zu s 350 (i + 1) a) 350 (i + 2) 0) 350 (i + 4) a) 350 (i + 5) 0) 350 (i + 6) 0) 350 (i + 7) 0) 350 (i + 8) (-1)) 350 (i + 9) 0) 350 (i + 10) (-1)) 350 1 n
theorem zm_it {p i k k' v : Int} {s : zS} {X : Int × zS} (h5 : 5 ≤ k) (h10 : k ≤ 10) (hi0 : 0 ≤ i) (hi : i ≤ 1000) (hk : k' = k + 1) (hv : v = if k = 8 ∨ k = 10 then -1 else 0) (z : zA xm_c156 72 [344, p, i, k'] [] (zu s 350 (i + k) v) X) : zA xm_c156 72 [344, p, i, k] [] s X := by
  have e1 : zw (i + k) = i + k := zw_id (by omega) (by omega)
  have e2 : zw (k + 1) = k' := by rw [hk]; exact zw_id (by omega) (by omega)
  refine zb_156_72 (fun _ => ?_) (fun q => absurd (by omega) q)
  refine zb_156_75 (fun q => zb_156_86 ?_) (fun q => zb_156_83 (fun q2 => zb_156_86 ?_) (fun q2 => zb_156_88 ?_))
  · rw [e1, e2]
    rw [if_pos (Or.inl q)] at hv
    rw [hv] at z
    exact z
  · rw [e1, e2]
    rw [if_pos (Or.inr q2)] at hv
    rw [hv] at z
    exact z
  · rw [e1, e2]
    rw [if_neg (fun w => w.elim q q2)] at hv
    rw [hv] at z
    exact z
theorem zm_156_43 {p i a n x3 : Int} {s : zS} (hi0 : 10 ≤ i) (hi : i ≤ 1000) (ha : s 350 i = a) (hn : s 350 1 + 1 = n) (hn0 : -1000 ≤ n) (hn1 : n ≤ 1000) : zA xm_c156 43 [344, p, i, x3] [] s (1, zhpS s i a n) := by
  refine zb_156_43 ?_
  rw [show (344 : Int) + 6 = 350 from rfl, zw_id (x := i + 1) (by omega) (by omega), zw_id (x := i + 2) (by omega) (by omega), zw_id (x := i + 4) (by omega) (by omega), zu_place (b := i) (by omega), zu_place (b := i) (by omega), ha]
  refine zm_it (k := 5) (k' := 6) (v := 0) (by decide) (by decide) (by omega) (by omega) (by decide) (by decide) ?_
  refine zm_it (k := 6) (k' := 7) (v := 0) (by decide) (by decide) (by omega) (by omega) (by decide) (by decide) ?_
  refine zm_it (k := 7) (k' := 8) (v := 0) (by decide) (by decide) (by omega) (by omega) (by decide) (by decide) ?_
  refine zm_it (k := 8) (k' := 9) (v := -1) (by decide) (by decide) (by omega) (by omega) (by decide) (by decide) ?_
  refine zm_it (k := 9) (k' := 10) (v := 0) (by decide) (by decide) (by omega) (by omega) (by decide) (by decide) ?_
  refine zm_it (k := 10) (k' := 11) (v := -1) (by decide) (by decide) (by omega) (by omega) (by decide) (by decide) ?_
  refine zb_156_72 (fun q => absurd q (by decide)) (fun _ => zb_156_92 ?_)
  rw [show (344 : Int) + 6 = 350 from rfl, zu_place (b := 1) (i := i + 10) (by omega), zu_place (b := 1) (i := i + 9) (by omega), zu_place (b := 1) (i := i + 8) (by omega), zu_place (b := 1) (i := i + 7) (by omega), zu_place (b := 1) (i := i + 6) (by omega), zu_place (b := 1) (i := i + 5) (by omega), zu_place (b := 1) (i := i + 4) (by omega), zu_place (b := 1) (i := i + 2) (by omega), zu_place (b := 1) (i := i + 1) (by omega), hn, zw_id (by omega) (by omega)]
  rfl
theorem zm_158_55 {p a c n x3 : Int} {s : zS} (ha0 : 0 ≤ a) (ha : a ≤ 9) (hc0 : 0 ≤ c) (hc : c ≤ 9) (hac : c ≠ a) (h10 : s 344 10 = c) (hn : s 350 3 + 1 = n) (hn0 : -1000 ≤ n) (hn1 : n ≤ 1000) : zA xm_c158 55 [344, p, a, x3] [] s (1, zu (zu (zu s 350 (10 + 11 * a + 5) (zor (s 350 (10 + 11 * a + 5)) (zshl 1 c))) 350 (10 + 11 * c + 5) (zor (s 350 (10 + 11 * c + 5)) (zshl 1 a))) 350 3 n) := by
  have e : ∀ x : Int, 0 ≤ x → x ≤ 9 → zw (zw (10 + zw (11 * x)) + 5) = 10 + 11 * x + 5 := fun x h0 h1 => by rw [zw_id (x := 11 * x) (by omega) (by omega), zw_id (x := 10 + 11 * x) (by omega) (by omega), zw_id (by omega) (by omega)]
  refine zb_158_55 ?_
  rw [show (344 : Int) + 6 = 350 from rfl, e a ha0 ha, zu_cell (show (344 : Int) ≠ 350 by decide), h10, e c hc0 hc, zu_place (b := 10 + 11 * c + 5) (i := 10 + 11 * a + 5) (by omega), zu_place (b := 3) (i := 10 + 11 * c + 5) (by omega), zu_place (b := 3) (i := 10 + 11 * a + 5) (by omega), hn, zw_id (by omega) (by omega)]
abbrev zhov2 (w : Int) (R : zHS) : Prop := (w = 0 ∧ 0 < R 0) ∨ (w ≠ 0 ∧ R 0 = 0) ∨ (w = 1 ∧ R 1 = 7) ∨ (w = 2 ∧ R 2 = 10) ∨ (w = 3 ∧ R 3 = 6) ∨ (w = 8 ∧ 0 ≤ R 5) ∨ (w = 10 ∧ 0 ≤ R 6)
section ML
variable {s0 s : zS} {t T N m ln l p : Int} {R : zHS}
theorem zm_l0 (hc : zCy s0 T) (hwf : zhwf l R) (h : zMs s0 6 p m R ln s) (h0 : 0 ≤ p) (h1 : p ≤ T) (hk : zg_kind (s0 345) T p = 97) : ∃ s', zE xm_c155 [344, p] s (zmr (if 0 < R 0 then .inr (1 + 8 * p + 4) else zhc (s0 345) T 0 (zg_nx (s0 345) T p) R)) s' ∧ zMq s0 T ln (if 0 < R 0 then .inr (1 + 8 * p + 4) else zhc (s0 345) T 0 (zg_nx (s0 345) T p) R) s' := by
  obtain ⟨w0, -, w2, w3, w4, -, -⟩ := hwf
  have r : ∀ k, s (344 + 6) k = R k := fun k => congrFun h.2.1 k
  have g4 := hc.2.2.2
  have nl := zg_nx_le (b := s0 345) (T := T) (p := p) hc.1 hc.2.2.2 h0
  obtain ⟨s1, a1, a2⟩ := zm_pass hc h h0 h1 hk
  have r1 : ∀ k, s1 (344 + 6) k = R k := fun k => congrFun a2.rd k
  have nz : ∀ {p lo hi un v q : Int}, 0 ≤ p → p ≤ T → zhn (s0 345) T p lo hi un = .inl (v, q) → (lo ≤ v ∧ v ≤ hi ∧ v ≠ un) ∧ p < q ∧ q ≤ T := fun x1 x2 x3 => zhn_i hc.1 hc.2.2.2 x1 x2 x3
  by_cases eo : 0 < R 0
  · rw [if_pos eo]
    obtain ⟨s2, f1, f2⟩ := zm_fail hc h (c := 4) (at_ := p) (by omega) (by omega) h0 h1
    exact ⟨s2, zb_155_0 (fun _ => zb_155_5 f1 (zb_155_9 rfl)) (fun z => absurd (by rw [r 0]; exact eo) z), f2⟩
  · rw [if_neg eo]
    rw [zhc_0]
    rcases zm_cell hc a2 0 2 9 (by decide) with ⟨v, q, s2, b1, b2, b3⟩ | ⟨f, s2, b1, b2, b3⟩
    · rw [b1, zhb_i]
      exact ⟨s2, zb_155_0 (fun z => absurd (by rw [← r 0]; exact z) eo) (fun _ => zb_155_10 a1 (zb_155_12 b2 (zb_155_17 rfl))), b3⟩
    · rw [b1, zhb_f]
      exact ⟨s2, zb_155_0 (fun z => absurd (by rw [← r 0]; exact z) eo) (fun _ => zb_155_10 a1 (zb_155_12 b2 (zb_155_17 rfl))), b3⟩
theorem zm_l1 (hc : zCy s0 T) (hwf : zhwf l R) (h : zMs s0 6 p m R ln s) (h0 : 0 ≤ p) (h1 : p ≤ T) (hk : zg_kind (s0 345) T p = 97) : ∃ s', zE xm_c156 [344, p, 0, 0] s (zmr (if R 1 = 7 then .inr (1 + 8 * p + 4) else zhc (s0 345) T 1 (zg_nx (s0 345) T p) R)) s' ∧ zMq s0 T ln (if R 1 = 7 then .inr (1 + 8 * p + 4) else zhc (s0 345) T 1 (zg_nx (s0 345) T p) R) s' := by
  obtain ⟨w0, -, w2, w3, w4, -, -⟩ := hwf
  have r : ∀ k, s (344 + 6) k = R k := fun k => congrFun h.2.1 k
  have g4 := hc.2.2.2
  have nl := zg_nx_le (b := s0 345) (T := T) (p := p) hc.1 hc.2.2.2 h0
  obtain ⟨s1, a1, a2⟩ := zm_pass hc h h0 h1 hk
  have r1 : ∀ k, s1 (344 + 6) k = R k := fun k => congrFun a2.rd k
  have nz : ∀ {p lo hi un v q : Int}, 0 ≤ p → p ≤ T → zhn (s0 345) T p lo hi un = .inl (v, q) → (lo ≤ v ∧ v ≤ hi ∧ v ≠ un) ∧ p < q ∧ q ≤ T := fun x1 x2 x3 => zhn_i hc.1 hc.2.2.2 x1 x2 x3
  by_cases eo : R 1 = 7
  · rw [if_pos eo]
    obtain ⟨s2, f1, f2⟩ := zm_fail hc h (c := 4) (at_ := p) (by omega) (by omega) h0 h1
    exact ⟨s2, zb_156_0 (fun _ => zb_156_6 f1 (zb_156_10 rfl)) (fun z => absurd (by rw [r 1]; exact eo) z), f2⟩
  · rw [if_neg eo]
    have ei : zw (10 + zw (11 * s1 (344 + 6) 1)) = 10 + 11 * R 1 := by rw [r1 1, zw_id (x := 11 * R 1) (by omega) (by omega), zw_id (by omega) (by omega)]
    have e0 : zw (s1 (344 + 6) 0 - 1) = R 0 - 1 := by rw [r1 0, zw_id (by omega) (by omega)]
    have ei3 : zw (10 + 11 * R 1 + 3) = 10 + 11 * R 1 + 3 := zw_id (by omega) (by omega)
    rw [zhc_1]
    rcases zm_cell hc a2 (10 + 11 * R 1) 0 (R 0 - 1) (by decide) with ⟨v, q, s2, b1, b2, b3⟩ | ⟨f, s2, b1, b2, b3⟩
    · rw [b1, zhb_i]
      have f1 := nz (by omega) (nl.2.1 h1) b1
      rcases zm_cell hc b3 (10 + 11 * R 1 + 3) 1 9 (by decide) with ⟨v2, q2, s3, c1, c2, c3⟩ | ⟨f, s3, c1, c2, c3⟩
      · rw [c1, zhb_i]
        have d1 : s3 350 (10 + 11 * R 1) = v := by rw [c3.rd, zhu_m (by omega), zhu_h]
        have d2 : s3 350 1 + 1 = R 1 + 1 := by rw [c3.rd, zhu_m (by omega), zhu_m (by omega)]
        refine ⟨zhpS s3 (10 + 11 * R 1) v (R 1 + 1), zb_156_0 (fun z => absurd (by rw [← r 1]; exact z) eo) (fun _ => zb_156_11 a1 (zb_156_13 (r := 1) (s1 := s2) (by rw [ei, e0]; exact b2) (by rw [ei]; exact zb_156_32 (fun z => absurd z (by decide)) (fun _ => zb_156_33 (by rw [ei3]; exact c2) (zb_156_40 (fun z => absurd z (by decide)) (fun _ => zm_156_43 (by omega) (by omega) d1 d2 (by omega) (by omega))))))), ?_⟩
        exact ((((((((((c3.put (i := 10 + 11 * R 1 + 1) (x := v)).put (i := 10 + 11 * R 1 + 2) (x := 0)).put (i := 10 + 11 * R 1 + 4) (x := v)).put (i := 10 + 11 * R 1 + 5) (x := 0)).put (i := 10 + 11 * R 1 + 6) (x := 0)).put (i := 10 + 11 * R 1 + 7) (x := 0)).put (i := 10 + 11 * R 1 + 8) (x := -1)).put (i := 10 + 11 * R 1 + 9) (x := 0)).put (i := 10 + 11 * R 1 + 10) (x := -1)).put (i := 1) (x := R 1 + 1))
      · rw [c1, zhb_f]
        exact ⟨s3, zb_156_0 (fun z => absurd (by rw [← r 1]; exact z) eo) (fun _ => zb_156_11 a1 (zb_156_13 (r := 1) (s1 := s2) (by rw [ei, e0]; exact b2) (by rw [ei]; exact zb_156_32 (fun z => absurd z (by decide)) (fun _ => zb_156_33 (by rw [ei3]; exact c2) (zb_156_40 (fun _ => zb_156_41 rfl) (fun z => absurd rfl z)))))), c3⟩
    · rw [b1, zhb_f]
      exact ⟨s2, zb_156_0 (fun z => absurd (by rw [← r 1]; exact z) eo) (fun _ => zb_156_11 a1 (zb_156_13 (r := 0) (s1 := s2) (by rw [ei, e0]; exact b2) (zb_156_32 (fun _ => zb_156_41 rfl) (fun z => absurd rfl z)))), b3⟩
theorem zm_l2 (hc : zCy s0 T) (hwf : zhwf l R) (h : zMs s0 6 p m R ln s) (h0 : 0 ≤ p) (h1 : p ≤ T) (hk : zg_kind (s0 345) T p = 97) : ∃ s', zE xm_c157 [344, p, 0] s (zmr (if R 2 = 10 then .inr (1 + 8 * p + 4) else zhc (s0 345) T 2 (zg_nx (s0 345) T p) R)) s' ∧ zMq s0 T ln (if R 2 = 10 then .inr (1 + 8 * p + 4) else zhc (s0 345) T 2 (zg_nx (s0 345) T p) R) s' := by
  obtain ⟨w0, -, w2, w3, w4, -, -⟩ := hwf
  have r : ∀ k, s (344 + 6) k = R k := fun k => congrFun h.2.1 k
  have g4 := hc.2.2.2
  have nl := zg_nx_le (b := s0 345) (T := T) (p := p) hc.1 hc.2.2.2 h0
  obtain ⟨s1, a1, a2⟩ := zm_pass hc h h0 h1 hk
  have r1 : ∀ k, s1 (344 + 6) k = R k := fun k => congrFun a2.rd k
  have nz : ∀ {p lo hi un v q : Int}, 0 ≤ p → p ≤ T → zhn (s0 345) T p lo hi un = .inl (v, q) → (lo ≤ v ∧ v ≤ hi ∧ v ≠ un) ∧ p < q ∧ q ≤ T := fun x1 x2 x3 => zhn_i hc.1 hc.2.2.2 x1 x2 x3
  by_cases eo : R 2 = 10
  · rw [if_pos eo]
    obtain ⟨s2, f1, f2⟩ := zm_fail hc h (c := 4) (at_ := p) (by omega) (by omega) h0 h1
    exact ⟨s2, zb_157_0 (fun _ => zb_157_6 f1 (zb_157_10 rfl)) (fun z => absurd (by rw [r 2]; exact eo) z), f2⟩
  · rw [if_neg eo]
    have ei : zw (87 + zw (3 * s1 (344 + 6) 2)) = 87 + 3 * R 2 := by rw [r1 2, zw_id (x := 3 * R 2) (by omega) (by omega), zw_id (by omega) (by omega)]
    have e1 : zw (s1 (344 + 6) 1 - 1) = R 1 - 1 := by rw [r1 1, zw_id (by omega) (by omega)]
    have ei1 : zw (87 + 3 * R 2 + 1) = 87 + 3 * R 2 + 1 := zw_id (by omega) (by omega)
    have ei2 : zw (87 + 3 * R 2 + 2) = 87 + 3 * R 2 + 2 := zw_id (by omega) (by omega)
    rw [zhc_2]
    rcases zm_cell hc a2 (87 + 3 * R 2) 0 (R 1 - 1) (by decide) with ⟨v, q, s2, b1, b2, b3⟩ | ⟨f, s2, b1, b2, b3⟩
    · rw [b1, zhb_i]
      have e0 : zw (s2 (344 + 6) 0 - 1) = R 0 - 1 := by
        rw [show s2 (344 + 6) 0 = R 0 from (congrFun b3.rd 0).trans (zhu_m (by omega)), zw_id (by omega) (by omega)]
      rcases zm_cell hc b3 (87 + 3 * R 2 + 1) 0 (R 0 - 1) (by decide) with ⟨v2, q2, s3, c1, c2, c3⟩ | ⟨f, s3, c1, c2, c3⟩
      · rw [c1, zhb_i]
        rcases zm_cell hc c3 (87 + 3 * R 2 + 2) 0 99 (by decide) with ⟨v3, q3, s4, g1, g2, g3⟩ | ⟨f, s4, g1, g2, g3⟩
        · rw [g1, zhb_i]
          have d2 : zw (s4 350 2 + 1) = R 2 + 1 := by rw [g3.rd, zhu_m (by omega), zhu_m (by omega), zhu_m (by omega), zw_id (by omega) (by omega)]
          refine ⟨zu s4 350 2 (R 2 + 1), zb_157_0 (fun z => absurd (by rw [← r 2]; exact z) eo) (fun _ => zb_157_11 a1 (zb_157_13 (r := 1) (s1 := s2) (by rw [ei, e1]; exact b2) (by rw [ei]; exact zb_157_32 (fun z => absurd z (by decide)) (fun _ => zb_157_33 (by rw [ei1, e0]; exact c2) (zb_157_45 (fun z => absurd z (by decide)) (fun _ => zb_157_46 (by rw [ei2]; exact g2) (zb_157_53 (fun z => absurd z (by decide)) (fun _ => zb_157_56 (by rw [show (344 : Int) + 6 = 350 from rfl, d2]; rfl))))))))), g3.put⟩
        · rw [g1, zhb_f]
          exact ⟨s4, zb_157_0 (fun z => absurd (by rw [← r 2]; exact z) eo) (fun _ => zb_157_11 a1 (zb_157_13 (r := 1) (s1 := s2) (by rw [ei, e1]; exact b2) (by rw [ei]; exact zb_157_32 (fun z => absurd z (by decide)) (fun _ => zb_157_33 (by rw [ei1, e0]; exact c2) (zb_157_45 (fun z => absurd z (by decide)) (fun _ => zb_157_46 (by rw [ei2]; exact g2) (zb_157_53 (fun _ => zb_157_54 rfl) (fun z => absurd rfl z)))))))), g3⟩
      · rw [c1, zhb_f]
        exact ⟨s3, zb_157_0 (fun z => absurd (by rw [← r 2]; exact z) eo) (fun _ => zb_157_11 a1 (zb_157_13 (r := 1) (s1 := s2) (by rw [ei, e1]; exact b2) (by rw [ei]; exact zb_157_32 (fun z => absurd z (by decide)) (fun _ => zb_157_33 (by rw [ei1, e0]; exact c2) (zb_157_45 (fun _ => zb_157_54 rfl) (fun z => absurd rfl z)))))), c3⟩
    · rw [b1, zhb_f]
      exact ⟨s2, zb_157_0 (fun z => absurd (by rw [← r 2]; exact z) eo) (fun _ => zb_157_11 a1 (zb_157_13 (r := 0) (s1 := s2) (by rw [ei, e1]; exact b2) (zb_157_32 (fun _ => zb_157_54 rfl) (fun z => absurd rfl z)))), b3⟩
theorem zm_l3 (hc : zCy s0 T) (hwf : zhwf l R) (h : zMs s0 6 p m R ln s) (h0 : 0 ≤ p) (h1 : p ≤ T) (hk : zg_kind (s0 345) T p = 97) : ∃ s', zE xm_c158 [344, p, 0, 0] s (zmr (if R 3 = 6 then .inr (1 + 8 * p + 4) else zhc (s0 345) T 3 (zg_nx (s0 345) T p) R)) s' ∧ zMq s0 T ln (if R 3 = 6 then .inr (1 + 8 * p + 4) else zhc (s0 345) T 3 (zg_nx (s0 345) T p) R) s' := by
  obtain ⟨w0, -, w2, w3, w4, -, -⟩ := hwf
  have r : ∀ k, s (344 + 6) k = R k := fun k => congrFun h.2.1 k
  have g4 := hc.2.2.2
  have nl := zg_nx_le (b := s0 345) (T := T) (p := p) hc.1 hc.2.2.2 h0
  obtain ⟨s1, a1, a2⟩ := zm_pass hc h h0 h1 hk
  have r1 : ∀ k, s1 (344 + 6) k = R k := fun k => congrFun a2.rd k
  have nz : ∀ {p lo hi un v q : Int}, 0 ≤ p → p ≤ T → zhn (s0 345) T p lo hi un = .inl (v, q) → (lo ≤ v ∧ v ≤ hi ∧ v ≠ un) ∧ p < q ∧ q ≤ T := fun x1 x2 x3 => zhn_i hc.1 hc.2.2.2 x1 x2 x3
  by_cases eo : R 3 = 6
  · rw [if_pos eo]
    obtain ⟨s2, f1, f2⟩ := zm_fail hc h (c := 4) (at_ := p) (by omega) (by omega) h0 h1
    exact ⟨s2, zb_158_0 (fun _ => zb_158_6 f1 (zb_158_10 rfl)) (fun z => absurd (by rw [r 3]; exact eo) z), f2⟩
  · rw [if_neg eo]
    have e1 : zw (s1 (344 + 6) 1 - 1) = R 1 - 1 := by rw [r1 1, zw_id (by omega) (by omega)]
    rw [zhc_3]
    rcases zm_num hc a2 0 (R 1 - 1) (by decide) with ⟨v, q, s2, b1, b2, b3, b4⟩ | ⟨f, s2, b1, b2, b3⟩
    · rw [b1, zhb_i]
      have f1 := nz (by omega) (nl.2.1 h1) b1
      obtain ⟨s3, m3, c1, c2, c3⟩ := zm_see hc b3
      have pq := b3.pl
      have e8 : s3 344 8 = q := c2.1.1
      have e2 : zw (s3 (344 + 6) 1 - 1) = R 1 - 1 := by rw [show s3 (344 + 6) 1 = R 1 from congrFun c2.2.1 1, zw_id (by omega) (by omega)]
      rcases zm_num hc (c2.q pq.1 pq.2 c3) 0 (R 1 - 1) (by decide) with ⟨v2, q2, s4, g1, g2, g3, g4⟩ | ⟨f, s4, g1, g2, g3⟩
      · rw [zhn_un1 g1]
        have f2 := nz pq.1 pq.2 g1
        by_cases ev : v2 = v
        · rw [if_pos ev, zhb_f]
          obtain ⟨N4, m4, k0, k1, k2⟩ := g3
          obtain ⟨s5, y1, y2⟩ := zm_fail hc k2 (c := 1) (at_ := q) (by omega) (by omega) pq.1 pq.2
          exact ⟨s5, zb_158_0 (fun z => absurd (by rw [← r 3]; exact z) eo) (fun _ => zb_158_11 a1 (zb_158_13 (r := 1) (s1 := s2) (by rw [e1]; exact b2) (zb_158_22 (fun z => absurd z (by decide)) (fun _ => zb_158_25 c1 (by rw [b4]; exact zb_158_30 (by rw [e2]; exact g2) (by rw [e8]; exact zb_158_43 (fun z => absurd z (by decide)) (fun _ => zb_158_46 (fun _ => zb_158_50 y1 (zb_158_54 rfl)) (fun z => absurd (by rw [g4]; exact ev) z)))))))), y2⟩
        · rw [if_neg ev, zhb_i]
          have d3 : s4 350 3 + 1 = R 3 + 1 := by rw [g3.rd]
          refine ⟨_, zb_158_0 (fun z => absurd (by rw [← r 3]; exact z) eo) (fun _ => zb_158_11 a1 (zb_158_13 (r := 1) (s1 := s2) (by rw [e1]; exact b2) (zb_158_22 (fun z => absurd z (by decide)) (fun _ => zb_158_25 c1 (by rw [b4]; exact zb_158_30 (by rw [e2]; exact g2) (by rw [e8]; exact zb_158_43 (fun z => absurd z (by decide)) (fun _ => zb_158_46 (fun z => absurd (by rw [← g4]; exact z) ev) (fun _ => zm_158_55 f1.1.1 (by omega) f2.1.1 (by omega) ev g4 d3 (by omega) (by omega))))))))), ?_⟩
          have k : ∀ i, s4 350 i = R i := fun i => congrFun g3.rd i
          rw [k, k]
          exact ((g3.put (i := 10 + 11 * v + 5) (x := zor (R (10 + 11 * v + 5)) (zshl 1 v2))).put (i := 10 + 11 * v2 + 5) (x := zor (R (10 + 11 * v2 + 5)) (zshl 1 v))).put (i := 3) (x := R 3 + 1)
      · rw [zhn_un2 (by decide) g1, zhb_f]
        exact ⟨s4, zb_158_0 (fun z => absurd (by rw [← r 3]; exact z) eo) (fun _ => zb_158_11 a1 (zb_158_13 (r := 1) (s1 := s2) (by rw [e1]; exact b2) (zb_158_22 (fun z => absurd z (by decide)) (fun _ => zb_158_25 c1 (by rw [b4]; exact zb_158_30 (by rw [e2]; exact g2) (zb_158_43 (fun _ => zb_158_44 rfl) (fun z => absurd rfl z))))))), g3⟩
    · rw [b1, zhb_f]
      exact ⟨s2, zb_158_0 (fun z => absurd (by rw [← r 3]; exact z) eo) (fun _ => zb_158_11 a1 (zb_158_13 (r := 0) (s1 := s2) (by rw [e1]; exact b2) (zb_158_22 (fun _ => zb_158_23 rfl) (fun z => absurd rfl z)))), b3⟩
theorem zm_l4 (hc : zCy s0 T) (hwf : zhwf l R) (h : zMs s0 6 p m R ln s) (h0 : 0 ≤ p) (h1 : p ≤ T) (hk : zg_kind (s0 345) T p = 97) : ∃ s', zE xm_c159 [344] s (zmr (zhc (s0 345) T 4 (zg_nx (s0 345) T p) R)) s' ∧ zMq s0 T ln (zhc (s0 345) T 4 (zg_nx (s0 345) T p) R) s' := by
  obtain ⟨w0, -, w2, w3, w4, -, -⟩ := hwf
  have r : ∀ k, s (344 + 6) k = R k := fun k => congrFun h.2.1 k
  have g4 := hc.2.2.2
  have nl := zg_nx_le (b := s0 345) (T := T) (p := p) hc.1 hc.2.2.2 h0
  obtain ⟨s1, a1, a2⟩ := zm_pass hc h h0 h1 hk
  have r1 : ∀ k, s1 (344 + 6) k = R k := fun k => congrFun a2.rd k
  have nz : ∀ {p lo hi un v q : Int}, 0 ≤ p → p ≤ T → zhn (s0 345) T p lo hi un = .inl (v, q) → (lo ≤ v ∧ v ≤ hi ∧ v ≠ un) ∧ p < q ∧ q ≤ T := fun x1 x2 x3 => zhn_i hc.1 hc.2.2.2 x1 x2 x3
  have e1 : zw (s1 (344 + 6) 1 - 1) = R 1 - 1 := by rw [r1 1, zw_id (by omega) (by omega)]
  rw [zhc_4]
  rcases zm_num hc a2 0 (R 1 - 1) (by decide) with ⟨v, q, s2, b1, b2, b3, b4⟩ | ⟨f, s2, b1, b2, b3⟩
  · rw [b1, zhb_i]
    have f1 := nz (by omega) (nl.2.1 h1) b1
    refine ⟨zu s2 350 (10 + 11 * v + 6) 1, zb_159_0 a1 (zb_159_2 (r := 1) (s1 := s2) (by rw [e1]; exact b2) (zb_159_11 (fun z => absurd z (by decide)) (fun _ => zb_159_14 ?_))), b3.put⟩
    rw [show (344 : Int) + 6 = 350 from rfl, b4, zw_id (x := 11 * v) (by omega) (by omega), zw_id (x := 10 + 11 * v) (by omega) (by omega), zw_id (by omega) (by omega)]
    rfl
  · rw [b1, zhb_f]
    exact ⟨s2, zb_159_0 a1 (zb_159_2 (r := 0) (s1 := s2) (by rw [e1]; exact b2) (zb_159_11 (fun _ => zb_159_12 rfl) (fun z => absurd rfl z))), b3⟩
theorem zm_l5 (hc : zCy s0 T) (hwf : zhwf l R) (h : zMs s0 6 p m R ln s) (h0 : 0 ≤ p) (h1 : p ≤ T) (hk : zg_kind (s0 345) T p = 97) : ∃ s', zE xm_c160 [344, 1, 0] s (zmr (zhc (s0 345) T 5 (zg_nx (s0 345) T p) R)) s' ∧ zMq s0 T ln (zhc (s0 345) T 5 (zg_nx (s0 345) T p) R) s' := by
  obtain ⟨w0, -, w2, w3, w4, -, -⟩ := hwf
  have r : ∀ k, s (344 + 6) k = R k := fun k => congrFun h.2.1 k
  have g4 := hc.2.2.2
  have nl := zg_nx_le (b := s0 345) (T := T) (p := p) hc.1 hc.2.2.2 h0
  obtain ⟨s1, a1, a2⟩ := zm_pass hc h h0 h1 hk
  have r1 : ∀ k, s1 (344 + 6) k = R k := fun k => congrFun a2.rd k
  have nz : ∀ {p lo hi un v q : Int}, 0 ≤ p → p ≤ T → zhn (s0 345) T p lo hi un = .inl (v, q) → (lo ≤ v ∧ v ≤ hi ∧ v ≠ un) ∧ p < q ∧ q ≤ T := fun x1 x2 x3 => zhn_i hc.1 hc.2.2.2 x1 x2 x3
  have e1 : zw (s1 (344 + 6) 1 - 1) = R 1 - 1 := by rw [r1 1, zw_id (by omega) (by omega)]
  rw [zhc_5]
  rcases zm_num hc a2 0 (R 1 - 1) (by decide) with ⟨v, q, s2, b1, b2, b3, b4⟩ | ⟨f, s2, b1, b2, b3⟩
  · rw [b1, zhb_i]
    have f1 := nz (by omega) (nl.2.1 h1) b1
    have ei : zw (10 + zw (11 * s2 344 10)) = 10 + 11 * v := by rw [b4, zw_id (x := 11 * v) (by omega) (by omega), zw_id (by omega) (by omega)]
    rcases zm_num hc b3 1 9 (by decide) with ⟨v2, q2, s3, c1, c2, c3, c4⟩ | ⟨f, s3, c1, c2, c3⟩
    · rw [c1, zhb_i]
      have f2 := nz (by omega) f1.2.2 c1
      refine ⟨zu s3 350 (10 + 11 * v + 7) (v2), zb_160_0 a1 (zb_160_2 (r := 1) (s1 := s2) (by rw [e1]; exact b2) (zb_160_11 (fun z => absurd z (by decide)) (fun _ => zb_160_14 c2 (by rw [ei]; exact zb_160_25 (fun z => absurd z (by decide)) (fun _ => zb_160_28 (by rw [show (344 : Int) + 6 = 350 from rfl, c4, zw_id (x := 10 + 11 * v + 7) (by omega) (by omega), zw_id (by omega) (by omega), Int.one_mul]; rfl)))))), c3.put⟩
    · rw [c1, zhb_f]
      exact ⟨s3, zb_160_0 a1 (zb_160_2 (r := 1) (s1 := s2) (by rw [e1]; exact b2) (zb_160_11 (fun z => absurd z (by decide)) (fun _ => zb_160_14 c2 (zb_160_25 (fun _ => zb_160_26 rfl) (fun z => absurd rfl z))))), c3⟩
  · rw [b1, zhb_f]
    exact ⟨s2, zb_160_0 a1 (zb_160_2 (r := 0) (s1 := s2) (by rw [e1]; exact b2) (zb_160_11 (fun _ => zb_160_12 rfl) (fun z => absurd rfl z))), b3⟩
theorem zm_l6 (hc : zCy s0 T) (hwf : zhwf l R) (h : zMs s0 6 p m R ln s) (h0 : 0 ≤ p) (h1 : p ≤ T) (hk : zg_kind (s0 345) T p = 97) : ∃ s', zE xm_c160 [344, (-1), 0] s (zmr (zhc (s0 345) T 6 (zg_nx (s0 345) T p) R)) s' ∧ zMq s0 T ln (zhc (s0 345) T 6 (zg_nx (s0 345) T p) R) s' := by
  obtain ⟨w0, -, w2, w3, w4, -, -⟩ := hwf
  have r : ∀ k, s (344 + 6) k = R k := fun k => congrFun h.2.1 k
  have g4 := hc.2.2.2
  have nl := zg_nx_le (b := s0 345) (T := T) (p := p) hc.1 hc.2.2.2 h0
  obtain ⟨s1, a1, a2⟩ := zm_pass hc h h0 h1 hk
  have r1 : ∀ k, s1 (344 + 6) k = R k := fun k => congrFun a2.rd k
  have nz : ∀ {p lo hi un v q : Int}, 0 ≤ p → p ≤ T → zhn (s0 345) T p lo hi un = .inl (v, q) → (lo ≤ v ∧ v ≤ hi ∧ v ≠ un) ∧ p < q ∧ q ≤ T := fun x1 x2 x3 => zhn_i hc.1 hc.2.2.2 x1 x2 x3
  have e1 : zw (s1 (344 + 6) 1 - 1) = R 1 - 1 := by rw [r1 1, zw_id (by omega) (by omega)]
  rw [zhc_6]
  rcases zm_num hc a2 0 (R 1 - 1) (by decide) with ⟨v, q, s2, b1, b2, b3, b4⟩ | ⟨f, s2, b1, b2, b3⟩
  · rw [b1, zhb_i]
    have f1 := nz (by omega) (nl.2.1 h1) b1
    have ei : zw (10 + zw (11 * s2 344 10)) = 10 + 11 * v := by rw [b4, zw_id (x := 11 * v) (by omega) (by omega), zw_id (by omega) (by omega)]
    rcases zm_num hc b3 1 9 (by decide) with ⟨v2, q2, s3, c1, c2, c3, c4⟩ | ⟨f, s3, c1, c2, c3⟩
    · rw [c1, zhb_i]
      have f2 := nz (by omega) f1.2.2 c1
      refine ⟨zu s3 350 (10 + 11 * v + 7) (-v2), zb_160_0 a1 (zb_160_2 (r := 1) (s1 := s2) (by rw [e1]; exact b2) (zb_160_11 (fun z => absurd z (by decide)) (fun _ => zb_160_14 c2 (by rw [ei]; exact zb_160_25 (fun z => absurd z (by decide)) (fun _ => zb_160_28 (by rw [show (344 : Int) + 6 = 350 from rfl, c4, zw_id (x := 10 + 11 * v + 7) (by omega) (by omega), zw_id (by omega) (by omega), Int.neg_one_mul]; rfl)))))), c3.put⟩
    · rw [c1, zhb_f]
      exact ⟨s3, zb_160_0 a1 (zb_160_2 (r := 1) (s1 := s2) (by rw [e1]; exact b2) (zb_160_11 (fun z => absurd z (by decide)) (fun _ => zb_160_14 c2 (zb_160_25 (fun _ => zb_160_26 rfl) (fun z => absurd rfl z))))), c3⟩
  · rw [b1, zhb_f]
    exact ⟨s2, zb_160_0 a1 (zb_160_2 (r := 0) (s1 := s2) (by rw [e1]; exact b2) (zb_160_11 (fun _ => zb_160_12 rfl) (fun z => absurd rfl z))), b3⟩
theorem zm_l7 (hc : zCy s0 T) (hwf : zhwf l R) (h : zMs s0 6 p m R ln s) (h0 : 0 ≤ p) (h1 : p ≤ T) (hk : zg_kind (s0 345) T p = 97) : ∃ s', zE xm_c161 [344, 8] s (zmr (zhc (s0 345) T 7 (zg_nx (s0 345) T p) R)) s' ∧ zMq s0 T ln (zhc (s0 345) T 7 (zg_nx (s0 345) T p) R) s' := by
  obtain ⟨w0, -, w2, w3, w4, -, -⟩ := hwf
  have r : ∀ k, s (344 + 6) k = R k := fun k => congrFun h.2.1 k
  have g4 := hc.2.2.2
  have nl := zg_nx_le (b := s0 345) (T := T) (p := p) hc.1 hc.2.2.2 h0
  obtain ⟨s1, a1, a2⟩ := zm_pass hc h h0 h1 hk
  have r1 : ∀ k, s1 (344 + 6) k = R k := fun k => congrFun a2.rd k
  have nz : ∀ {p lo hi un v q : Int}, 0 ≤ p → p ≤ T → zhn (s0 345) T p lo hi un = .inl (v, q) → (lo ≤ v ∧ v ≤ hi ∧ v ≠ un) ∧ p < q ∧ q ≤ T := fun x1 x2 x3 => zhn_i hc.1 hc.2.2.2 x1 x2 x3
  have e0 : zw (s1 (344 + 6) 0 - 1) = R 0 - 1 := by rw [r1 0, zw_id (by omega) (by omega)]
  rw [zhc_7]
  rcases zm_num hc a2 0 (R 0 - 1) (by decide) with ⟨v, q, s2, b1, b2, b3, b4⟩ | ⟨f, s2, b1, b2, b3⟩
  · rw [b1, zhb_i]
    have k : s2 350 8 = R 8 := congrFun b3.rd 8
    refine ⟨zu s2 350 8 (zor (R 8) (zshl 1 v)), zb_161_0 a1 (zb_161_2 (r := 1) (s1 := s2) (by rw [e0]; exact b2) (zb_161_11 (fun z => absurd z (by decide)) (fun _ => zb_161_14 ?_))), b3.put⟩
    rw [show (344 : Int) + 6 = 350 from rfl, b4, k]
    rfl
  · rw [b1, zhb_f]
    exact ⟨s2, zb_161_0 a1 (zb_161_2 (r := 0) (s1 := s2) (by rw [e0]; exact b2) (zb_161_11 (fun _ => zb_161_12 rfl) (fun z => absurd rfl z))), b3⟩
theorem zm_l9 (hc : zCy s0 T) (hwf : zhwf l R) (h : zMs s0 6 p m R ln s) (h0 : 0 ≤ p) (h1 : p ≤ T) (hk : zg_kind (s0 345) T p = 97) : ∃ s', zE xm_c161 [344, 9] s (zmr (zhc (s0 345) T 9 (zg_nx (s0 345) T p) R)) s' ∧ zMq s0 T ln (zhc (s0 345) T 9 (zg_nx (s0 345) T p) R) s' := by
  obtain ⟨w0, -, w2, w3, w4, -, -⟩ := hwf
  have r : ∀ k, s (344 + 6) k = R k := fun k => congrFun h.2.1 k
  have g4 := hc.2.2.2
  have nl := zg_nx_le (b := s0 345) (T := T) (p := p) hc.1 hc.2.2.2 h0
  obtain ⟨s1, a1, a2⟩ := zm_pass hc h h0 h1 hk
  have r1 : ∀ k, s1 (344 + 6) k = R k := fun k => congrFun a2.rd k
  have nz : ∀ {p lo hi un v q : Int}, 0 ≤ p → p ≤ T → zhn (s0 345) T p lo hi un = .inl (v, q) → (lo ≤ v ∧ v ≤ hi ∧ v ≠ un) ∧ p < q ∧ q ≤ T := fun x1 x2 x3 => zhn_i hc.1 hc.2.2.2 x1 x2 x3
  have e0 : zw (s1 (344 + 6) 0 - 1) = R 0 - 1 := by rw [r1 0, zw_id (by omega) (by omega)]
  rw [zhc_9]
  rcases zm_num hc a2 0 (R 0 - 1) (by decide) with ⟨v, q, s2, b1, b2, b3, b4⟩ | ⟨f, s2, b1, b2, b3⟩
  · rw [b1, zhb_i]
    have k : s2 350 9 = R 9 := congrFun b3.rd 9
    refine ⟨zu s2 350 9 (zor (R 9) (zshl 1 v)), zb_161_0 a1 (zb_161_2 (r := 1) (s1 := s2) (by rw [e0]; exact b2) (zb_161_11 (fun z => absurd z (by decide)) (fun _ => zb_161_14 ?_))), b3.put⟩
    rw [show (344 : Int) + 6 = 350 from rfl, b4, k]
    rfl
  · rw [b1, zhb_f]
    exact ⟨s2, zb_161_0 a1 (zb_161_2 (r := 0) (s1 := s2) (by rw [e0]; exact b2) (zb_161_11 (fun _ => zb_161_12 rfl) (fun z => absurd rfl z))), b3⟩
theorem zm_l8 (hc : zCy s0 T) (hwf : zhwf l R) (h : zMs s0 6 p m R ln s) (h0 : 0 ≤ p) (h1 : p ≤ T) (hk : zg_kind (s0 345) T p = 97) : ∃ s', zE xm_c162 [344, p] s (zmr (if 0 ≤ R 5 then .inr (1 + 8 * p + 4) else zhc (s0 345) T 8 (zg_nx (s0 345) T p) R)) s' ∧ zMq s0 T ln (if 0 ≤ R 5 then .inr (1 + 8 * p + 4) else zhc (s0 345) T 8 (zg_nx (s0 345) T p) R) s' := by
  obtain ⟨w0, -, w2, w3, w4, -, -⟩ := hwf
  have r : ∀ k, s (344 + 6) k = R k := fun k => congrFun h.2.1 k
  have g4 := hc.2.2.2
  have nl := zg_nx_le (b := s0 345) (T := T) (p := p) hc.1 hc.2.2.2 h0
  obtain ⟨s1, a1, a2⟩ := zm_pass hc h h0 h1 hk
  have r1 : ∀ k, s1 (344 + 6) k = R k := fun k => congrFun a2.rd k
  have nz : ∀ {p lo hi un v q : Int}, 0 ≤ p → p ≤ T → zhn (s0 345) T p lo hi un = .inl (v, q) → (lo ≤ v ∧ v ≤ hi ∧ v ≠ un) ∧ p < q ∧ q ≤ T := fun x1 x2 x3 => zhn_i hc.1 hc.2.2.2 x1 x2 x3
  by_cases eo : 0 ≤ R 5
  · rw [if_pos eo]
    obtain ⟨s2, f1, f2⟩ := zm_fail hc h (c := 4) (at_ := p) (by omega) (by omega) h0 h1
    exact ⟨s2, zb_162_0 (fun z => absurd z (by rw [r 5]; omega)) (fun _ => zb_162_5 f1 (zb_162_9 rfl)), f2⟩
  · rw [if_neg eo]
    rw [zhc_8]
    rcases zm_cell hc a2 5 0 99 (by decide) with ⟨v, q, s2, b1, b2, b3⟩ | ⟨f, s2, b1, b2, b3⟩
    · rw [b1, zhb_i]
      exact ⟨s2, zb_162_0 (fun _ => zb_162_10 a1 (zb_162_12 b2 (zb_162_17 rfl))) (fun z => absurd (show s (344 + 6) 5 < 0 by rw [r 5]; omega) z), b3⟩
    · rw [b1, zhb_f]
      exact ⟨s2, zb_162_0 (fun _ => zb_162_10 a1 (zb_162_12 b2 (zb_162_17 rfl))) (fun z => absurd (show s (344 + 6) 5 < 0 by rw [r 5]; omega) z), b3⟩
theorem zm_l10 (hc : zCy s0 T) (hwf : zhwf l R) (h : zMs s0 6 p m R ln s) (h0 : 0 ≤ p) (h1 : p ≤ T) (hk : zg_kind (s0 345) T p = 97) : ∃ s', zE xm_c163 [344, p, 0] s (zmr (if 0 ≤ R 6 then .inr (1 + 8 * p + 4) else zhc (s0 345) T 10 (zg_nx (s0 345) T p) R)) s' ∧ zMq s0 T ln (if 0 ≤ R 6 then .inr (1 + 8 * p + 4) else zhc (s0 345) T 10 (zg_nx (s0 345) T p) R) s' := by
  obtain ⟨w0, -, w2, w3, w4, -, -⟩ := hwf
  have r : ∀ k, s (344 + 6) k = R k := fun k => congrFun h.2.1 k
  have g4 := hc.2.2.2
  have nl := zg_nx_le (b := s0 345) (T := T) (p := p) hc.1 hc.2.2.2 h0
  obtain ⟨s1, a1, a2⟩ := zm_pass hc h h0 h1 hk
  have r1 : ∀ k, s1 (344 + 6) k = R k := fun k => congrFun a2.rd k
  have nz : ∀ {p lo hi un v q : Int}, 0 ≤ p → p ≤ T → zhn (s0 345) T p lo hi un = .inl (v, q) → (lo ≤ v ∧ v ≤ hi ∧ v ≠ un) ∧ p < q ∧ q ≤ T := fun x1 x2 x3 => zhn_i hc.1 hc.2.2.2 x1 x2 x3
  by_cases eo : 0 ≤ R 6
  · rw [if_pos eo]
    obtain ⟨s2, f1, f2⟩ := zm_fail hc h (c := 4) (at_ := p) (by omega) (by omega) h0 h1
    exact ⟨s2, zb_163_0 (fun z => absurd z (by rw [r 6]; omega)) (fun _ => zb_163_5 f1 (zb_163_9 rfl)), f2⟩
  · rw [if_neg eo]
    have e0 : zw (s1 (344 + 6) 0 - 1) = R 0 - 1 := by rw [r1 0, zw_id (by omega) (by omega)]
    rw [zhc_10]
    rcases zm_cell hc a2 6 0 (R 0 - 1) (by decide) with ⟨v, q, s2, b1, b2, b3⟩ | ⟨f, s2, b1, b2, b3⟩
    · rw [b1, zhb_i]
      obtain ⟨s3, m3, c1, c2, c3⟩ := zm_see hc b3
      have pq := b3.pl
      have e8 : s3 344 8 = q := c2.1.1
      have e2 : zw (s3 (344 + 6) 0 - 1) = R 0 - 1 := by
        rw [show s3 (344 + 6) 0 = R 0 from (congrFun c2.2.1 0).trans (zhu_m (by decide)), zw_id (by omega) (by omega)]
      rcases zm_cell hc (c2.q pq.1 pq.2 c3) 7 0 (R 0 - 1) (by decide) with ⟨v2, q2, s4, g1, g2, g3⟩ | ⟨f, s4, g1, g2, g3⟩
      · rw [zhn_un1 g1]
        have k7 : s4 (344 + 6) 7 = v2 := (congrFun g3.rd 7).trans zhu_h
        have k6 : s4 (344 + 6) 6 = v := (congrFun g3.rd 6).trans ((zhu_m (by decide)).trans zhu_h)
        by_cases ev : v2 = v
        · rw [if_pos ev, zhb_f]
          obtain ⟨N4, m4, x0, x1, x2⟩ := g3
          obtain ⟨s5, y1, y2⟩ := zm_fail hc x2 (c := 1) (at_ := q) (by omega) (by omega) pq.1 pq.2
          exact ⟨s5, zb_163_0 (fun _ => zb_163_10 a1 (zb_163_12 (r := 1) (s1 := s2) (by rw [e0]; exact b2) (zb_163_22 (fun z => absurd z (by decide)) (fun _ => zb_163_25 c1 (zb_163_27 (r := 1) (s1 := s4) (by rw [e2]; exact g2) (by rw [e8]; exact zb_163_41 (fun z => absurd z (by decide)) (fun _ => zb_163_42 (fun _ => zb_163_51 y1 (zb_163_55 (fun _ => zb_163_58 rfl) (fun z => absurd rfl z))) (fun z => absurd (by rw [k7, k6]; exact ev) z)))))))) (fun z => absurd (show s (344 + 6) 6 < 0 by rw [r 6]; omega) z), y2⟩
        · rw [if_neg ev, zhb_i]
          exact ⟨s4, zb_163_0 (fun _ => zb_163_10 a1 (zb_163_12 (r := 1) (s1 := s2) (by rw [e0]; exact b2) (zb_163_22 (fun z => absurd z (by decide)) (fun _ => zb_163_25 c1 (zb_163_27 (r := 1) (s1 := s4) (by rw [e2]; exact g2) (zb_163_41 (fun z => absurd z (by decide)) (fun _ => zb_163_42 (fun z => absurd (by rw [k7, k6] at z; exact z) ev) (fun _ => zb_163_56 rfl)))))))) (fun z => absurd (show s (344 + 6) 6 < 0 by rw [r 6]; omega) z), g3⟩
      · rw [zhn_un2 (by decide) g1, zhb_f]
        exact ⟨s4, zb_163_0 (fun _ => zb_163_10 a1 (zb_163_12 (r := 1) (s1 := s2) (by rw [e0]; exact b2) (zb_163_22 (fun z => absurd z (by decide)) (fun _ => zb_163_25 c1 (zb_163_27 (r := 0) (s1 := s4) (by rw [e2]; exact g2) (zb_163_41 (fun _ => zb_163_58 rfl) (fun z => absurd rfl z))))))) (fun z => absurd (show s (344 + 6) 6 < 0 by rw [r 6]; omega) z), g3⟩
    · rw [b1, zhb_f]
      exact ⟨s2, zb_163_0 (fun _ => zb_163_10 a1 (zb_163_12 (r := 0) (s1 := s2) (by rw [e0]; exact b2) (zb_163_22 (fun _ => zb_163_23 rfl) (fun z => absurd rfl z)))) (fun z => absurd (show s (344 + 6) 6 < 0 by rw [r 6]; omega) z), b3⟩
end ML
