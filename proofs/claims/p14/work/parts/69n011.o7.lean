/-! the reference's reading of a house -/
section MR
variable {s0 s : zS} {t T N m ln l p : Int} {R : zHS}
/-- houseLineHere -/
theorem zm_line (hc : zCy s0 T) (hwf : zhwf l R) (h : zMs s0 6 p m R ln s) (h0 : 0 ≤ p) (h1 : p ≤ T) (h2 : zg_sk (s0 345) T p = p) (hw : zhw (s0 345) T p ≠ -1) : ∃ s', zE xm_c164 [344, p] s (zmr (if zhov2 (zhw (s0 345) T p) R then .inr (1 + 8 * p + 4) else zhc (s0 345) T (zhw (s0 345) T p) (zg_nx (s0 345) T p) R)) s' ∧ zMq s0 T ln (if zhov2 (zhw (s0 345) T p) R then .inr (1 + 8 * p + 4) else zhc (s0 345) T (zhw (s0 345) T p) (zg_nx (s0 345) T p) R) s' := by
  have wr := zhw_r (b := s0 345) (T := T) (p := p)
  have hk := zhw_97 hw
  have hwf0 := hwf
  obtain ⟨w0, -, w2, w3, w4, -, -⟩ := hwf0
  obtain ⟨s1, u1, v1⟩ := zm_is0 hc h h0 h1 h2
  obtain ⟨s2, u2, v2⟩ := zm_is1 hc v1 h0 h1 h2
  obtain ⟨s3, u3, v3⟩ := zm_is2 hc v2 h0 h1 h2
  obtain ⟨s4, u4, v4⟩ := zm_is3 hc v3 h0 h1 h2
  obtain ⟨s5, u5, v5⟩ := zm_is4 hc v4 h0 h1 h2
  obtain ⟨s6, u6, v6⟩ := zm_is5 hc v5 h0 h1 h2
  obtain ⟨s7, u7, v7⟩ := zm_is6 hc v6 h0 h1 h2
  obtain ⟨s8, u8, v8⟩ := zm_is7 hc v7 h0 h1 h2
  obtain ⟨s10, u10, v10⟩ := zm_is9 hc v8 h0 h1 h2
  obtain ⟨s9, u9, v9⟩ := zm_is8 hc v10 h0 h1 h2
  have r1 : s1 (344 + 6) 0 = R 0 := congrFun v1.2.1 0
  have L0 := zm_l0 hc hwf v1 h0 h1 hk
  have L1 := zm_l1 hc hwf v2 h0 h1 hk
  have L2 := zm_l2 hc hwf v3 h0 h1 hk
  have L3 := zm_l3 hc hwf v4 h0 h1 hk
  have L4 := zm_l4 hc hwf v5 h0 h1 hk
  have L5 := zm_l5 hc hwf v6 h0 h1 hk
  have L6 := zm_l6 hc hwf v7 h0 h1 hk
  have L7 := zm_l7 hc hwf v8 h0 h1 hk
  have L8 := zm_l8 hc hwf v9 h0 h1 hk
  have L9 := zm_l9 hc hwf v10 h0 h1 hk
  have L10 := zm_l10 hc hwf v9 h0 h1 hk
  generalize zhw (s0 345) T p = w at wr hw u1 u2 u3 u4 u5 u6 u7 u8 u10 u9 ⊢
  rcases (show w = 0 ∨ w = 1 ∨ w = 2 ∨ w = 3 ∨ w = 4 ∨ w = 5 ∨ w = 6 ∨ w = 7 ∨ w = 8 ∨ w = 9 ∨ w = 10 by omega) with rfl | rfl | rfl | rfl | rfl | rfl | rfl | rfl | rfl | rfl | rfl
  · rw [if_pos rfl] at u1
    have e : (if zhov2 0 R then (.inr (1 + 8 * p + 4) : zHg) else zhc (s0 345) T 0 (zg_nx (s0 345) T p) R) = if 0 < R 0 then .inr (1 + 8 * p + 4) else zhc (s0 345) T 0 (zg_nx (s0 345) T p) R := zif_c (by unfold zhov2; omega) rfl rfl
    rw [e]
    obtain ⟨s', a1, a2⟩ := L0
    exact ⟨s', zb_164_0 u1 (zb_164_3 (fun z => absurd z (by decide)) (fun _ => zb_164_4 a1 (zb_164_7 rfl))), a2⟩
  · rw [if_neg (by decide)] at u1
    rw [if_pos rfl] at u2
    by_cases hz : R 0 = 0
    · rw [if_pos (show zhov2 1 R by unfold zhov2; omega)]
      obtain ⟨s', f1, f2⟩ := zm_fail hc v1 (c := 4) (at_ := p) (by omega) (by omega) h0 h1
      exact ⟨s', zb_164_0 u1 (zb_164_3 (fun _ => zb_164_8 (fun _ => zb_164_13 f1 (zb_164_17 rfl)) (fun z => absurd (by rw [r1]; exact hz) z)) (fun z => absurd rfl z)), f2⟩
    · have e : (if zhov2 1 R then (.inr (1 + 8 * p + 4) : zHg) else zhc (s0 345) T 1 (zg_nx (s0 345) T p) R) = if R 1 = 7 then .inr (1 + 8 * p + 4) else zhc (s0 345) T 1 (zg_nx (s0 345) T p) R := zif_c (by unfold zhov2; omega) rfl rfl
      rw [e]
      obtain ⟨s', a1, a2⟩ := L1
      exact ⟨s', zb_164_0 u1 (zb_164_3 (fun _ => zb_164_8 (fun z => absurd (by rw [← r1]; exact z) hz) (fun _ => zb_164_18 u2 (zb_164_21 (fun z => absurd z (by decide)) (fun _ => zb_164_22 a1 (zb_164_25 rfl))))) (fun z => absurd rfl z)), a2⟩
  · rw [if_neg (by decide)] at u1
    rw [if_neg (by decide)] at u2
    rw [if_pos rfl] at u3
    by_cases hz : R 0 = 0
    · rw [if_pos (show zhov2 2 R by unfold zhov2; omega)]
      obtain ⟨s', f1, f2⟩ := zm_fail hc v1 (c := 4) (at_ := p) (by omega) (by omega) h0 h1
      exact ⟨s', zb_164_0 u1 (zb_164_3 (fun _ => zb_164_8 (fun _ => zb_164_13 f1 (zb_164_17 rfl)) (fun z => absurd (by rw [r1]; exact hz) z)) (fun z => absurd rfl z)), f2⟩
    · have e : (if zhov2 2 R then (.inr (1 + 8 * p + 4) : zHg) else zhc (s0 345) T 2 (zg_nx (s0 345) T p) R) = if R 2 = 10 then .inr (1 + 8 * p + 4) else zhc (s0 345) T 2 (zg_nx (s0 345) T p) R := zif_c (by unfold zhov2; omega) rfl rfl
      rw [e]
      obtain ⟨s', a1, a2⟩ := L2
      exact ⟨s', zb_164_0 u1 (zb_164_3 (fun _ => zb_164_8 (fun z => absurd (by rw [← r1]; exact z) hz) (fun _ => zb_164_18 u2 (zb_164_21 (fun _ => zb_164_26 u3 (zb_164_29 (fun z => absurd z (by decide)) (fun _ => zb_164_30 a1 (zb_164_33 rfl)))) (fun z => absurd rfl z)))) (fun z => absurd rfl z)), a2⟩
  · rw [if_neg (by decide)] at u1
    rw [if_neg (by decide)] at u2
    rw [if_neg (by decide)] at u3
    rw [if_pos rfl] at u4
    by_cases hz : R 0 = 0
    · rw [if_pos (show zhov2 3 R by unfold zhov2; omega)]
      obtain ⟨s', f1, f2⟩ := zm_fail hc v1 (c := 4) (at_ := p) (by omega) (by omega) h0 h1
      exact ⟨s', zb_164_0 u1 (zb_164_3 (fun _ => zb_164_8 (fun _ => zb_164_13 f1 (zb_164_17 rfl)) (fun z => absurd (by rw [r1]; exact hz) z)) (fun z => absurd rfl z)), f2⟩
    · have e : (if zhov2 3 R then (.inr (1 + 8 * p + 4) : zHg) else zhc (s0 345) T 3 (zg_nx (s0 345) T p) R) = if R 3 = 6 then .inr (1 + 8 * p + 4) else zhc (s0 345) T 3 (zg_nx (s0 345) T p) R := zif_c (by unfold zhov2; omega) rfl rfl
      rw [e]
      obtain ⟨s', a1, a2⟩ := L3
      exact ⟨s', zb_164_0 u1 (zb_164_3 (fun _ => zb_164_8 (fun z => absurd (by rw [← r1]; exact z) hz) (fun _ => zb_164_18 u2 (zb_164_21 (fun _ => zb_164_26 u3 (zb_164_29 (fun _ => zb_164_34 u4 (zb_164_37 (fun z => absurd z (by decide)) (fun _ => zb_164_38 a1 (zb_164_41 rfl)))) (fun z => absurd rfl z))) (fun z => absurd rfl z)))) (fun z => absurd rfl z)), a2⟩
  · rw [if_neg (by decide)] at u1
    rw [if_neg (by decide)] at u2
    rw [if_neg (by decide)] at u3
    rw [if_neg (by decide)] at u4
    rw [if_pos rfl] at u5
    by_cases hz : R 0 = 0
    · rw [if_pos (show zhov2 4 R by unfold zhov2; omega)]
      obtain ⟨s', f1, f2⟩ := zm_fail hc v1 (c := 4) (at_ := p) (by omega) (by omega) h0 h1
      exact ⟨s', zb_164_0 u1 (zb_164_3 (fun _ => zb_164_8 (fun _ => zb_164_13 f1 (zb_164_17 rfl)) (fun z => absurd (by rw [r1]; exact hz) z)) (fun z => absurd rfl z)), f2⟩
    · rw [if_neg (show ¬ zhov2 4 R by unfold zhov2; omega)]
      obtain ⟨s', a1, a2⟩ := L4
      exact ⟨s', zb_164_0 u1 (zb_164_3 (fun _ => zb_164_8 (fun z => absurd (by rw [← r1]; exact z) hz) (fun _ => zb_164_18 u2 (zb_164_21 (fun _ => zb_164_26 u3 (zb_164_29 (fun _ => zb_164_34 u4 (zb_164_37 (fun _ => zb_164_42 u5 (zb_164_45 (fun z => absurd z (by decide)) (fun _ => zb_164_46 a1 (zb_164_48 rfl)))) (fun z => absurd rfl z))) (fun z => absurd rfl z))) (fun z => absurd rfl z)))) (fun z => absurd rfl z)), a2⟩
  · rw [if_neg (by decide)] at u1
    rw [if_neg (by decide)] at u2
    rw [if_neg (by decide)] at u3
    rw [if_neg (by decide)] at u4
    rw [if_neg (by decide)] at u5
    rw [if_pos rfl] at u6
    by_cases hz : R 0 = 0
    · rw [if_pos (show zhov2 5 R by unfold zhov2; omega)]
      obtain ⟨s', f1, f2⟩ := zm_fail hc v1 (c := 4) (at_ := p) (by omega) (by omega) h0 h1
      exact ⟨s', zb_164_0 u1 (zb_164_3 (fun _ => zb_164_8 (fun _ => zb_164_13 f1 (zb_164_17 rfl)) (fun z => absurd (by rw [r1]; exact hz) z)) (fun z => absurd rfl z)), f2⟩
    · rw [if_neg (show ¬ zhov2 5 R by unfold zhov2; omega)]
      obtain ⟨s', a1, a2⟩ := L5
      exact ⟨s', zb_164_0 u1 (zb_164_3 (fun _ => zb_164_8 (fun z => absurd (by rw [← r1]; exact z) hz) (fun _ => zb_164_18 u2 (zb_164_21 (fun _ => zb_164_26 u3 (zb_164_29 (fun _ => zb_164_34 u4 (zb_164_37 (fun _ => zb_164_42 u5 (zb_164_45 (fun _ => zb_164_49 u6 (zb_164_52 (fun z => absurd z (by decide)) (fun _ => zb_164_53 a1 (zb_164_56 rfl)))) (fun z => absurd rfl z))) (fun z => absurd rfl z))) (fun z => absurd rfl z))) (fun z => absurd rfl z)))) (fun z => absurd rfl z)), a2⟩
  · rw [if_neg (by decide)] at u1
    rw [if_neg (by decide)] at u2
    rw [if_neg (by decide)] at u3
    rw [if_neg (by decide)] at u4
    rw [if_neg (by decide)] at u5
    rw [if_neg (by decide)] at u6
    rw [if_pos rfl] at u7
    by_cases hz : R 0 = 0
    · rw [if_pos (show zhov2 6 R by unfold zhov2; omega)]
      obtain ⟨s', f1, f2⟩ := zm_fail hc v1 (c := 4) (at_ := p) (by omega) (by omega) h0 h1
      exact ⟨s', zb_164_0 u1 (zb_164_3 (fun _ => zb_164_8 (fun _ => zb_164_13 f1 (zb_164_17 rfl)) (fun z => absurd (by rw [r1]; exact hz) z)) (fun z => absurd rfl z)), f2⟩
    · rw [if_neg (show ¬ zhov2 6 R by unfold zhov2; omega)]
      obtain ⟨s', a1, a2⟩ := L6
      exact ⟨s', zb_164_0 u1 (zb_164_3 (fun _ => zb_164_8 (fun z => absurd (by rw [← r1]; exact z) hz) (fun _ => zb_164_18 u2 (zb_164_21 (fun _ => zb_164_26 u3 (zb_164_29 (fun _ => zb_164_34 u4 (zb_164_37 (fun _ => zb_164_42 u5 (zb_164_45 (fun _ => zb_164_49 u6 (zb_164_52 (fun _ => zb_164_57 u7 (zb_164_60 (fun z => absurd z (by decide)) (fun _ => zb_164_61 a1 (zb_164_64 rfl)))) (fun z => absurd rfl z))) (fun z => absurd rfl z))) (fun z => absurd rfl z))) (fun z => absurd rfl z))) (fun z => absurd rfl z)))) (fun z => absurd rfl z)), a2⟩
  · rw [if_neg (by decide)] at u1
    rw [if_neg (by decide)] at u2
    rw [if_neg (by decide)] at u3
    rw [if_neg (by decide)] at u4
    rw [if_neg (by decide)] at u5
    rw [if_neg (by decide)] at u6
    rw [if_neg (by decide)] at u7
    rw [if_pos rfl] at u8
    by_cases hz : R 0 = 0
    · rw [if_pos (show zhov2 7 R by unfold zhov2; omega)]
      obtain ⟨s', f1, f2⟩ := zm_fail hc v1 (c := 4) (at_ := p) (by omega) (by omega) h0 h1
      exact ⟨s', zb_164_0 u1 (zb_164_3 (fun _ => zb_164_8 (fun _ => zb_164_13 f1 (zb_164_17 rfl)) (fun z => absurd (by rw [r1]; exact hz) z)) (fun z => absurd rfl z)), f2⟩
    · rw [if_neg (show ¬ zhov2 7 R by unfold zhov2; omega)]
      obtain ⟨s', a1, a2⟩ := L7
      exact ⟨s', zb_164_0 u1 (zb_164_3 (fun _ => zb_164_8 (fun z => absurd (by rw [← r1]; exact z) hz) (fun _ => zb_164_18 u2 (zb_164_21 (fun _ => zb_164_26 u3 (zb_164_29 (fun _ => zb_164_34 u4 (zb_164_37 (fun _ => zb_164_42 u5 (zb_164_45 (fun _ => zb_164_49 u6 (zb_164_52 (fun _ => zb_164_57 u7 (zb_164_60 (fun _ => zb_164_65 u8 (zb_164_68 (fun z => absurd z (by decide)) (fun _ => zb_164_69 a1 (zb_164_72 rfl)))) (fun z => absurd rfl z))) (fun z => absurd rfl z))) (fun z => absurd rfl z))) (fun z => absurd rfl z))) (fun z => absurd rfl z))) (fun z => absurd rfl z)))) (fun z => absurd rfl z)), a2⟩
  · rw [if_neg (by decide)] at u1
    rw [if_neg (by decide)] at u2
    rw [if_neg (by decide)] at u3
    rw [if_neg (by decide)] at u4
    rw [if_neg (by decide)] at u5
    rw [if_neg (by decide)] at u6
    rw [if_neg (by decide)] at u7
    rw [if_neg (by decide)] at u8
    rw [if_neg (by decide)] at u10
    rw [if_pos rfl] at u9
    by_cases hz : R 0 = 0
    · rw [if_pos (show zhov2 8 R by unfold zhov2; omega)]
      obtain ⟨s', f1, f2⟩ := zm_fail hc v1 (c := 4) (at_ := p) (by omega) (by omega) h0 h1
      exact ⟨s', zb_164_0 u1 (zb_164_3 (fun _ => zb_164_8 (fun _ => zb_164_13 f1 (zb_164_17 rfl)) (fun z => absurd (by rw [r1]; exact hz) z)) (fun z => absurd rfl z)), f2⟩
    · have e : (if zhov2 8 R then (.inr (1 + 8 * p + 4) : zHg) else zhc (s0 345) T 8 (zg_nx (s0 345) T p) R) = if 0 ≤ R 5 then .inr (1 + 8 * p + 4) else zhc (s0 345) T 8 (zg_nx (s0 345) T p) R := zif_c (by unfold zhov2; omega) rfl rfl
      rw [e]
      obtain ⟨s', a1, a2⟩ := L8
      exact ⟨s', zb_164_0 u1 (zb_164_3 (fun _ => zb_164_8 (fun z => absurd (by rw [← r1]; exact z) hz) (fun _ => zb_164_18 u2 (zb_164_21 (fun _ => zb_164_26 u3 (zb_164_29 (fun _ => zb_164_34 u4 (zb_164_37 (fun _ => zb_164_42 u5 (zb_164_45 (fun _ => zb_164_49 u6 (zb_164_52 (fun _ => zb_164_57 u7 (zb_164_60 (fun _ => zb_164_65 u8 (zb_164_68 (fun _ => zb_164_73 u10 (zb_164_76 (fun _ => zb_164_81 u9 (zb_164_84 (fun z => absurd z (by decide)) (fun _ => zb_164_85 a1 (zb_164_88 rfl)))) (fun z => absurd rfl z))) (fun z => absurd rfl z))) (fun z => absurd rfl z))) (fun z => absurd rfl z))) (fun z => absurd rfl z))) (fun z => absurd rfl z))) (fun z => absurd rfl z))) (fun z => absurd rfl z)))) (fun z => absurd rfl z)), a2⟩
  · rw [if_neg (by decide)] at u1
    rw [if_neg (by decide)] at u2
    rw [if_neg (by decide)] at u3
    rw [if_neg (by decide)] at u4
    rw [if_neg (by decide)] at u5
    rw [if_neg (by decide)] at u6
    rw [if_neg (by decide)] at u7
    rw [if_neg (by decide)] at u8
    rw [if_pos rfl] at u10
    by_cases hz : R 0 = 0
    · rw [if_pos (show zhov2 9 R by unfold zhov2; omega)]
      obtain ⟨s', f1, f2⟩ := zm_fail hc v1 (c := 4) (at_ := p) (by omega) (by omega) h0 h1
      exact ⟨s', zb_164_0 u1 (zb_164_3 (fun _ => zb_164_8 (fun _ => zb_164_13 f1 (zb_164_17 rfl)) (fun z => absurd (by rw [r1]; exact hz) z)) (fun z => absurd rfl z)), f2⟩
    · rw [if_neg (show ¬ zhov2 9 R by unfold zhov2; omega)]
      obtain ⟨s', a1, a2⟩ := L9
      exact ⟨s', zb_164_0 u1 (zb_164_3 (fun _ => zb_164_8 (fun z => absurd (by rw [← r1]; exact z) hz) (fun _ => zb_164_18 u2 (zb_164_21 (fun _ => zb_164_26 u3 (zb_164_29 (fun _ => zb_164_34 u4 (zb_164_37 (fun _ => zb_164_42 u5 (zb_164_45 (fun _ => zb_164_49 u6 (zb_164_52 (fun _ => zb_164_57 u7 (zb_164_60 (fun _ => zb_164_65 u8 (zb_164_68 (fun _ => zb_164_73 u10 (zb_164_76 (fun z => absurd z (by decide)) (fun _ => zb_164_77 a1 (zb_164_80 rfl)))) (fun z => absurd rfl z))) (fun z => absurd rfl z))) (fun z => absurd rfl z))) (fun z => absurd rfl z))) (fun z => absurd rfl z))) (fun z => absurd rfl z))) (fun z => absurd rfl z)))) (fun z => absurd rfl z)), a2⟩
  · rw [if_neg (by decide)] at u1
    rw [if_neg (by decide)] at u2
    rw [if_neg (by decide)] at u3
    rw [if_neg (by decide)] at u4
    rw [if_neg (by decide)] at u5
    rw [if_neg (by decide)] at u6
    rw [if_neg (by decide)] at u7
    rw [if_neg (by decide)] at u8
    rw [if_neg (by decide)] at u10
    rw [if_neg (by decide)] at u9
    by_cases hz : R 0 = 0
    · rw [if_pos (show zhov2 10 R by unfold zhov2; omega)]
      obtain ⟨s', f1, f2⟩ := zm_fail hc v1 (c := 4) (at_ := p) (by omega) (by omega) h0 h1
      exact ⟨s', zb_164_0 u1 (zb_164_3 (fun _ => zb_164_8 (fun _ => zb_164_13 f1 (zb_164_17 rfl)) (fun z => absurd (by rw [r1]; exact hz) z)) (fun z => absurd rfl z)), f2⟩
    · have e : (if zhov2 10 R then (.inr (1 + 8 * p + 4) : zHg) else zhc (s0 345) T 10 (zg_nx (s0 345) T p) R) = if 0 ≤ R 6 then .inr (1 + 8 * p + 4) else zhc (s0 345) T 10 (zg_nx (s0 345) T p) R := zif_c (by unfold zhov2; omega) rfl rfl
      rw [e]
      obtain ⟨s', a1, a2⟩ := L10
      exact ⟨s', zb_164_0 u1 (zb_164_3 (fun _ => zb_164_8 (fun z => absurd (by rw [← r1]; exact z) hz) (fun _ => zb_164_18 u2 (zb_164_21 (fun _ => zb_164_26 u3 (zb_164_29 (fun _ => zb_164_34 u4 (zb_164_37 (fun _ => zb_164_42 u5 (zb_164_45 (fun _ => zb_164_49 u6 (zb_164_52 (fun _ => zb_164_57 u7 (zb_164_60 (fun _ => zb_164_65 u8 (zb_164_68 (fun _ => zb_164_73 u10 (zb_164_76 (fun _ => zb_164_81 u9 (zb_164_84 (fun _ => zb_164_89 a1 (zb_164_92 rfl)) (fun z => absurd rfl z))) (fun z => absurd rfl z))) (fun z => absurd rfl z))) (fun z => absurd rfl z))) (fun z => absurd rfl z))) (fun z => absurd rfl z))) (fun z => absurd rfl z))) (fun z => absurd rfl z))) (fun z => absurd rfl z)))) (fun z => absurd rfl z)), a2⟩
/-- clauseHere -/
theorem zm_clause (hc : zCy s0 T) (hwf : zhwf l R) (hl : l ≤ 40) (h : zMq s0 T l (.inl (p, R)) s) : ∃ s', zE xm_c166 [344, 0, 0] s (zmr (zhl (s0 345) T l p R)) s' ∧ zMq s0 T (l + 1) (zhl (s0 345) T l p R) s' := by
  have pq := h.pl
  obtain ⟨s1, m1, a1, a2, a3⟩ := zm_see hc h
  have e8 : s1 344 8 = p := a2.1.1
  have e11 : s1 344 11 = 6 := a2.1.2.2.1
  obtain ⟨s2, b1, b2⟩ := zm_hw hc a2 pq.1 pq.2 a3
  have e14 : s2 344 14 = l := b2.1.2.2.2.2
  have w1 := hwf.2.1
  have pre : ∀ (X : Int × zS), zA xm_c166 16 [344, p, 1] [] s1 X → zE xm_c166 [344, 0, 0] s X.1 X.2 := fun X z => zb_166_0 a1 (zb_166_2 (fun _ => zb_166_10 (fun q => absurd q (by decide)) (fun _ => by rw [e8]; exact z)) (fun q => absurd e11 q))
  unfold zhl
  by_cases ew : zhw (s0 345) T p = -1
  · rw [if_pos ew] at b1 ⊢
    obtain ⟨s3, f1, f2⟩ := zm_fail hc b2 (c := 0) (at_ := p) (by omega) (by omega) pq.1 pq.2
    exact ⟨s3, pre (_, s3) (zb_166_16 b1 (zb_166_18 (fun _ => zb_166_19 f1 (zb_166_28 rfl)) (fun z => absurd rfl z))), f2⟩
  · rw [if_neg ew] at b1 ⊢
    by_cases e40 : l = 40
    · rw [if_pos (show zhov (zhw (s0 345) T p) l R from Or.inl e40)]
      obtain ⟨s3, f1, f2⟩ := zm_fail hc b2 (c := 4) (at_ := p) (by omega) (by omega) pq.1 pq.2
      exact ⟨s3, pre (_, s3) (zb_166_16 b1 (zb_166_18 (fun z => absurd z (by decide)) (fun _ => zb_166_29 (fun z => absurd z (by decide)) (fun _ => zb_166_33 (fun _ => zb_166_37 f1 (zb_166_41 rfl)) (fun z => absurd (by rw [e14]; exact e40) z))))), f2⟩
    · have hz : zu s2 344 14 (zw (s2 344 14 + 1)) = zu s2 344 14 (l + 1) := by rw [e14, zw_id (by omega) (by omega)]
      have e : (if zhov (zhw (s0 345) T p) l R then (.inr (1 + 8 * p + 4) : zHg) else zhc (s0 345) T (zhw (s0 345) T p) (zg_nx (s0 345) T p) R) = if zhov2 (zhw (s0 345) T p) R then .inr (1 + 8 * p + 4) else zhc (s0 345) T (zhw (s0 345) T p) (zg_nx (s0 345) T p) R := zif_c ⟨fun q => q.resolve_left e40, fun q => Or.inr q⟩ rfl rfl
      rw [e]
      obtain ⟨s3, c1, c2⟩ := zm_line hc hwf (b2.setl (ln' := l + 1)) pq.1 pq.2 a3 ew
      exact ⟨s3, pre (_, s3) (zb_166_16 b1 (zb_166_18 (fun z => absurd z (by decide)) (fun _ => zb_166_29 (fun z => absurd z (by decide)) (fun _ => zb_166_33 (fun z => absurd (by rw [← e14]; exact z) e40) (fun _ => zb_166_42 (fun z => absurd z (by decide)) (fun _ => by rw [hz]; exact zb_166_50 c1 (zb_166_53 rfl))))))), c2⟩
/-- what stands when all is read: the fault, or none, and what is told -/
def zMf (s0 : zS) (f : Int) (R : zHS) (s : zS) : Prop := zFrh s0 f s ∧ (f = 0 → s 350 = R ∧ ∃ l, zhwf l R)
theorem zMf_of {f : Int} (h1 : s 344 9 = f) (h2 : zKh s0 s) (h3 : f = 0 → s 350 = R ∧ ∃ l, zhwf l R) : zMf s0 f R (zu s 344 1 0) := ⟨zFrh_of h1 h2, fun z => by rw [zM_350 (by decide)]; exact h3 z⟩
theorem zhl_okm {z : Int × zHS} (hc : zCy s0 T) (hp : 0 ≤ p) (hpT : p ≤ T) (hwf : zhwf l R) (h : zhl (s0 345) T l p R = .inl z) : zhwf (l + 1) z.2 ∧ l ≠ 40 := by
  have wr := zhw_r (b := s0 345) (T := T) (p := p)
  have hn := zg_nx_le (b := s0 345) (T := T) (p := p) hc.1 hc.2.2.2 hp
  unfold zhl at h
  by_cases e : zhw (s0 345) T p = -1
  · rw [if_pos e] at h
    cases h
  · rw [if_neg e] at h
    by_cases eo : zhov (zhw (s0 345) T p) l R
    · rw [if_pos eo] at h
      cases h
    · rw [if_neg eo] at h
      have := zhc_ok hc.1 hc.2.2.2 (by omega) (hn.2.1 hpT) (by omega) wr.2 hwf eo h
      exact ⟨this.1, fun q => eo (Or.inl q)⟩
theorem zm_bad {f : Int} (h : zMq s0 T ln (.inr f) s) : zA xm_c167 21 [344, 0] [] s (0, zu s 344 1 0) ∧ zMf s0 f R (zu s 344 1 0) ∧ f ≠ 0 := by
  have h : zRdh s0 f s := h
  exact ⟨zb_167_21 (fun _ => zb_167_37 (fun _ => zb_167_49 (fun q => absurd (by rw [zu_place (by decide)] at q; exact h.1.symm.trans q) h.2.1) (fun _ => zb_167_57 rfl)) (fun q => absurd rfl q)) (fun q => absurd rfl q), zMf_of h.1 h.2.2 (fun z => absurd z h.2.1), h.2.1⟩
/-- behind a clause, and more clauses -/
theorem zm_loop (hc : zCy s0 T) : ∀ (n : Nat) (p l : Int) (R : zHS) (s : zS), zMq s0 T l (.inl (p, R)) s → zhwf l R → l ≤ 40 → (40 - l).toNat < n → ∃ f R' s', zhr (s0 345) T n l p R = some (f, R') ∧ zMf s0 f R' s' ∧ ∀ (rest : Int → zS → Prop), (∀ s1, zE xm_c166 [344, 0, 0] s 0 s1 → zA xm_c167 21 [344, 0] [] s1 (if f = 0 then 1 else 0, s') → rest 0 s1) → (∀ s1, zE xm_c166 [344, 0, 0] s 1 s1 → zA xm_c167 21 [344, 1] [] s1 (if f = 0 then 1 else 0, s') → rest 1 s1) → ∃ r s1, rest r s1 := by
  intro n
  induction n with
  | zero =>
    intro p l R s h hwf hl hn
    omega
  | succ n ih =>
    intro p l R s h hwf hl hn
    have pq := h.pl
    have h4 := hc.2.2.2
    have w1 := hwf.2.1
    obtain ⟨s1, c1, c2⟩ := zm_clause hc hwf hl h
    unfold zhr
    cases hz : zhl (s0 345) T l p R with
    | inr f =>
      rw [hz] at c1 c2
      obtain ⟨b1, b2, b3⟩ := zm_bad (R := R) c2
      refine ⟨f, R, _, rfl, b2, fun rest k0 k1 => ⟨_, _, k0 s1 c1 ?_⟩⟩
      rw [if_neg b3]
      exact b1
    | inl z =>
      rw [hz] at c1 c2
      have ok := zhl_okm hc pq.1 pq.2 hwf hz
      obtain ⟨q, R1⟩ := z
      have ok : zhwf (l + 1) R1 ∧ l ≠ 40 := ok
      have pq1 := c2.pl
      obtain ⟨s2, m2, d1, d2, d3⟩ := zm_see hc c2
      have e8 : s2 344 8 = q := d2.1.1
      show ∃ f R' s', (if zg_kind (s0 345) T q = 59 then zhr (s0 345) T n (l + 1) (zg_nx (s0 345) T q) R1 else if zg_kind (s0 345) T q = -1 then some (0, R1) else some (1 + 8 * q + 0, R1)) = some (f, R') ∧ _
      have k59 := zg_kc (b := s0 345) (T := T) (p := q) (v := 59) (by omega) (by omega) (by omega)
      have km := zg_kc (b := s0 345) (T := T) (p := q) (v := -1) (by omega) (by omega) (by omega)
      by_cases e59 : zg_c (s0 345) T q = 59
      · have e := (zg_cv (v := 59) hc.1 hc.2.2.2 pq1.1 (by omega) (by omega)).mp e59
        have hte := k59.2 e59
        rw [if_pos e.1] at hte
        rw [if_pos (k59.1.mpr e59)]
        have hz : zu s2 344 8 (zw (s2 344 8 + 1)) = zu s2 344 8 (q + 1) := by rw [e8, zw_id (by omega) (by omega)]
        have d4 : zMq s0 T (l + 1) (.inl (zg_nx (s0 345) T q, R1)) (zu s2 344 8 (q + 1)) := ⟨q + 1, m2, ⟨by omega, by omega⟩, by unfold zg_nx; rw [hte], d2.setN⟩
        obtain ⟨f, R', s', u1, u2, u3⟩ := ih _ (l + 1) R1 _ d4 ok.1 (by omega) (by omega)
        have pre : ∀ (r : Int) (s3 : zS), zE xm_c166 [344, 0, 0] (zu s2 344 8 (q + 1)) r s3 → zA xm_c167 21 [344, r] [] s3 (if f = 0 then 1 else 0, s') → zA xm_c167 21 [344, 1] [] s1 (if f = 0 then 1 else 0, s') := fun r s3 z1 z2 => zb_167_21 (fun q => absurd q (by decide)) (fun _ => zb_167_23 d1 (zb_167_25 (fun _ => zb_167_27 (by rw [hz]; exact z1) (zb_167_35 z2)) (fun q => absurd e59 q)))
        refine ⟨f, R', s', u1, u2, fun rest k0 k1 => ⟨1, s1, k1 s1 c1 ?_⟩⟩
        obtain ⟨r, s3, z⟩ := u3 (fun _ _ => zA xm_c167 21 [344, 1] [] s1 (if f = 0 then 1 else 0, s')) (fun s3 z1 z2 => pre 0 s3 z1 z2) (fun s3 z1 z2 => pre 1 s3 z1 z2)
        exact z
      · have nk : ¬ zg_kind (s0 345) T q = 59 := fun z => e59 (k59.1.mp z)
        rw [if_neg nk]
        obtain ⟨s3, m3, g1, g2, g3⟩ := zm_see hc (d2.q pq1.1 pq1.2 d3)
        have pre : ∀ (X : Int × zS), zA xm_c167 37 [344, 1] [] s2 X → zA xm_c167 21 [344, 1] [] s1 X := fun X z => zb_167_21 (fun q => absurd q (by decide)) (fun _ => zb_167_23 d1 (zb_167_25 (fun q => absurd q e59) (fun _ => z)))
        by_cases em : zg_c (s0 345) T q = -1
        · rw [if_pos (km.1.mpr em)]
          refine ⟨0, R1, zu s3 344 1 0, rfl, zMf_of g2.1.2.1 g2.2.2 (fun _ => ⟨g2.2.1, _, ok.1⟩), fun rest k0 k1 => ⟨1, s1, k1 s1 c1 ?_⟩⟩
          rw [if_pos rfl]
          exact pre _ (zb_167_37 (fun q => absurd q (by decide)) (fun _ => zb_167_39 g1 (zb_167_41 (fun _ => zb_167_49 (fun _ => zb_167_55 rfl) (fun q => absurd (by rw [zu_place (by decide)]; exact g2.1.2.1) q)) (fun q => absurd em q))))
        · rw [if_neg (fun z => em (km.1.mp z))]
          obtain ⟨s4, f1, f2⟩ := zm_fail hc g2 (c := 0) (at_ := q) (by omega) (by omega) pq1.1 pq1.2
          have f2 : zRdh s0 (1 + 8 * q + 0) s4 := f2
          refine ⟨1 + 8 * q + 0, R1, zu s4 344 1 0, rfl, zMf_of f2.1 f2.2.2 (fun z => absurd z f2.2.1), fun rest k0 k1 => ⟨1, s1, k1 s1 c1 ?_⟩⟩
          rw [if_neg f2.2.1]
          exact pre _ (zb_167_37 (fun q => absurd q (by decide)) (fun _ => zb_167_39 g1 (zb_167_41 (fun q => absurd q em) (fun _ => zb_167_43 (by rw [g2.1.1]; exact f1) (zb_167_48 (fun q => absurd (by rw [zu_place (by decide)] at q; exact f2.1.symm.trans q) f2.2.1) (fun _ => zb_167_57 rfl))))))
/-- readsAll of a house -/
theorem zm_all (hc : zCy s0 T) (ht : s0 344 11 = 6) (hR : zh0 (s0 350)) : ∃ f R' s', zhr (s0 345) T 41 0 (zg_sk (s0 345) T 0) (s0 350) = some (f, R') ∧ zE xm_c167 [344, 0] s0 (if f = 0 then 1 else 0) s' ∧ zMf s0 f R' s' := by
  have hT := hc.2.2.1
  have h0 : zMq s0 T 0 (.inl (zg_sk (s0 345) T 0, s0 350)) (zu (zu (zu (zu (zu s0 (344 + 3) (s0 344 11) 0) 344 14 0) 344 8 0) 344 9 0) 344 12 0) := by
    refine ⟨0, 0, ⟨Int.le_refl _, hT⟩, rfl, ⟨?_, ?_, ?_, zu_hit, ?_⟩, ?_, zKh_u (zKh_u (zKh_u (zKh_u (zKh_u (fun _ _ _ _ _ _ => rfl) (by omega)) (by omega)) (by omega)) (by omega)) (by omega)⟩
    · rw [zu_place (by decide), zu_place (by decide), zu_hit]
    · rw [zu_place (by decide), zu_hit]
    · rw [zu_place (by decide), zu_place (by decide), zu_place (by decide), zu_place (by decide), zu_cell (by decide), ht]
    · rw [zu_place (by decide), zu_place (by decide), zu_place (by decide), zu_hit]
    · rw [zM_350 (by decide), zM_350 (by decide), zM_350 (by decide), zM_350 (by decide), zM_350 (by decide)]
  obtain ⟨f, R', s', u1, u2, u3⟩ := zm_loop hc 41 _ 0 _ _ h0 (zh0_wf hR) (by decide) (by decide)
  refine ⟨f, R', s', u1, ?_, u2⟩
  obtain ⟨r, s3, z⟩ := u3 (fun _ _ => zE xm_c167 [344, 0] s0 (if f = 0 then 1 else 0) s') (fun s1 z1 z2 => zb_167_0 z1 (zb_167_20 z2)) (fun s1 z1 z2 => zb_167_0 z1 (zb_167_20 z2))
  exact z
end MR
