/-! the class's reader of houses: clauses -/
section CK
variable {s0 s : zS} {T : Int} {R R' : zHS}
theorem zhb_i {v q : Int} {k : Int → Int → zHg} : zhb (.inl (v, q)) k = k v q := rfl
theorem zhb_f {f : Int} {k : Int → Int → zHg} : zhb (.inr f) k = .inr f := rfl
theorem zhc_0 {b : Int → Int} {T p : Int} {R : zHS} : zhc b T 0 p R = zhb (zhn b T p 2 9 (-1)) (fun x q => .inl (q, zhu R 0 x)) := by
  unfold zhc
  rw [if_pos rfl]
theorem zhc_1 {b : Int → Int} {T p : Int} {R : zHS} : zhc b T 1 p R = zhb (zhn b T p 0 (R 0 - 1) (-1)) (fun x q => zhb (zhn b T q 1 9 (-1)) (fun y q => .inl (q, zhp R (10 + 11 * R 1) x y))) := by
  unfold zhc
  rw [if_neg (by decide), if_pos rfl]
theorem zhc_2 {b : Int → Int} {T p : Int} {R : zHS} : zhc b T 2 p R = zhb (zhn b T p 0 (R 1 - 1) (-1)) (fun x q => zhb (zhn b T q 0 (R 0 - 1) (-1)) (fun y q => zhb (zhn b T q 0 99 (-1)) (fun z q => .inl (q, zhe R (87 + 3 * R 2) x y z)))) := by
  unfold zhc
  rw [if_neg (by decide), if_neg (by decide), if_pos rfl]
theorem zhc_3 {b : Int → Int} {T p : Int} {R : zHS} : zhc b T 3 p R = zhb (zhn b T p 0 (R 1 - 1) (-1)) (fun x q => zhb (zhn b T q 0 (R 1 - 1) x) (fun y q => .inl (q, zhh R x y))) := by
  unfold zhc
  rw [if_neg (by decide), if_neg (by decide), if_neg (by decide), if_pos rfl]
theorem zhc_4 {b : Int → Int} {T p : Int} {R : zHS} : zhc b T 4 p R = zhb (zhn b T p 0 (R 1 - 1) (-1)) (fun x q => .inl (q, zhu R (10 + 11 * x + 6) 1)) := by
  unfold zhc
  rw [if_neg (by decide), if_neg (by decide), if_neg (by decide), if_neg (by decide), if_pos rfl]
theorem zhc_5 {b : Int → Int} {T p : Int} {R : zHS} : zhc b T 5 p R = zhb (zhn b T p 0 (R 1 - 1) (-1)) (fun x q => zhb (zhn b T q 1 9 (-1)) (fun y q => .inl (q, zhu R (10 + 11 * x + 7) y))) := by
  unfold zhc
  rw [if_neg (by decide), if_neg (by decide), if_neg (by decide), if_neg (by decide), if_neg (by decide), if_pos rfl]
theorem zhc_6 {b : Int → Int} {T p : Int} {R : zHS} : zhc b T 6 p R = zhb (zhn b T p 0 (R 1 - 1) (-1)) (fun x q => zhb (zhn b T q 1 9 (-1)) (fun y q => .inl (q, zhu R (10 + 11 * x + 7) (-y)))) := by
  unfold zhc
  rw [if_neg (by decide), if_neg (by decide), if_neg (by decide), if_neg (by decide), if_neg (by decide), if_neg (by decide), if_pos rfl]
theorem zhc_7 {b : Int → Int} {T p : Int} {R : zHS} : zhc b T 7 p R = zhb (zhn b T p 0 (R 0 - 1) (-1)) (fun x q => .inl (q, zhu R 8 (zor (R 8) (zshl 1 x)))) := by
  unfold zhc
  rw [if_neg (by decide), if_neg (by decide), if_neg (by decide), if_neg (by decide), if_neg (by decide), if_neg (by decide), if_neg (by decide), if_pos rfl]
theorem zhc_8 {b : Int → Int} {T p : Int} {R : zHS} : zhc b T 8 p R = zhb (zhn b T p 0 99 (-1)) (fun x q => .inl (q, zhu R 5 x)) := by
  unfold zhc
  rw [if_neg (by decide), if_neg (by decide), if_neg (by decide), if_neg (by decide), if_neg (by decide), if_neg (by decide), if_neg (by decide), if_neg (by decide), if_pos rfl]
theorem zhc_9 {b : Int → Int} {T p : Int} {R : zHS} : zhc b T 9 p R = zhb (zhn b T p 0 (R 0 - 1) (-1)) (fun x q => .inl (q, zhu R 9 (zor (R 9) (zshl 1 x)))) := by
  unfold zhc
  rw [if_neg (by decide), if_neg (by decide), if_neg (by decide), if_neg (by decide), if_neg (by decide), if_neg (by decide), if_neg (by decide), if_neg (by decide), if_neg (by decide), if_pos rfl]
theorem zhc_10 {b : Int → Int} {T p : Int} {R : zHS} : zhc b T 10 p R = zhb (zhn b T p 0 (R 0 - 1) (-1)) (fun x q => zhb (zhn b T q 0 (R 0 - 1) x) (fun y q => .inl (q, zhu (zhu R 6 x) 7 y))) := by
  unfold zhc
  rw [if_neg (by decide), if_neg (by decide), if_neg (by decide), if_neg (by decide), if_neg (by decide), if_neg (by decide), if_neg (by decide), if_neg (by decide), if_neg (by decide), if_neg (by decide)]
theorem zc_w2 (hc : zCh s0 T) {p l : Int} (h : zCs s0 T (.inl (p, R)) s) (hwf : zhwf l R) (hov : ¬ zhov 2 l R) : ∃ s', zE xm_c32 [2, 8, 30] s 0 s' ∧ zCs s0 T (zhc (s0 9) T 2 p R) s' := by
  obtain ⟨w0, -, w2, w3, w4, -, -⟩ := hwf
  have r0 := h.hr.1.1
  have r1 := h.hr.1.2.1
  have h0 := h.1
  have e1 : zw (s 30 1 - 1) = R 1 - 1 := by rw [r1, zw_id (by omega) (by omega)]
  rw [zhc_2]
  rcases zc_num hc h 0 (R 1 - 1) (-1) with ⟨v, q, s1, x1, x2, x3⟩ | ⟨f, s1, x1, x2, x3⟩
  · rw [x1, zhb_i]
    have f1 := zhn_i hc.1 hc.2.2.2 h0.1 h0.2 x1
    have t0 := x3.hr.1.1
    have e2 : zw (s1 30 0 - 1) = R 0 - 1 := by rw [t0, zw_id (by omega) (by omega)]
    rcases zc_num hc x3 0 (R 0 - 1) (-1) with ⟨v2, q2, s2, y1, y2, y3⟩ | ⟨f, s2, y1, y2, y3⟩
    · rw [y1, zhb_i]
      rcases zc_num hc y3 0 99 (-1) with ⟨v3, q3, s3, z1, z2, z3⟩ | ⟨f, s3, z1, z2, z3⟩
      · rw [z1, zhb_i]
        have t2 := z3.hr.1.2.2.1
        have h10 : R 2 ≠ 10 := fun q => hov (Or.inr (Or.inr (Or.inr (Or.inr (Or.inl ⟨rfl, q⟩)))))
        refine ⟨_, (zb_32_0 (zb_32_1_c2 rfl (zb_32_2 (r := 0) (s1 := _) (zb_33_0 (r := v) (s1 := s1) (by rw [e1]; exact x2) (zb_33_8 (fun _ => zb_33_16 (r := v2) (s1 := s2) (by rw [e2]; exact y2) (zb_33_24 z2 (zb_33_30 (fun _ => zb_33_61 (zb_33_62_c2 rfl (zb_33_63 (r := 0) (s1 := _) (zb_27_0 (fun _ => zb_27_4 rfl) (fun q => absurd (show s3 30 2 < 10 by rw [t2]; omega) q)) (zb_33_68 rfl)))) (fun q => absurd z3.f0 q)))) (fun q => absurd rfl q))) (zb_32_6 rfl)))), ?_⟩
        have e : (zu (zu (zu s3 (30 + 5) (s3 30 2) v) (30 + 6) ((zu s3 (30 + 5) (s3 30 2) v) 30 2) v2) (30 + 7) ((zu (zu s3 (30 + 5) (s3 30 2) v) (30 + 6) ((zu s3 (30 + 5) (s3 30 2) v) 30 2) v2) 30 2) v3) 30 2 = R 2 := by
          rw [zu_cell (by decide), zu_cell (by decide), zu_cell (by decide)]
          exact t2
        rw [e, zw_id (by omega) (by omega)]
        exact z3.puts (fun x y hx => by rw [zu_cell (by omega), zu_cell (by omega), zu_cell (by omega), zu_cell (by omega)]) (zHr_w2 z3.hr w2.2 (by omega) t2 (by rw [zu_cell (by decide)]; exact t2) (by rw [zu_cell (by decide), zu_cell (by decide)]; exact t2) rfl)
      · rw [z1, zhb_f]
        exact ⟨s3, (zb_32_0 (zb_32_1_c2 rfl (zb_32_2 (r := 0) (s1 := s3) (zb_33_0 (r := v) (s1 := s1) (by rw [e1]; exact x2) (zb_33_8 (fun _ => zb_33_16 (r := v2) (s1 := s2) (by rw [e2]; exact y2) (zb_33_24 z2 (zb_33_30 (fun q => absurd q z3.fn) (fun _ => zb_33_60 rfl)))) (fun q => absurd rfl q))) (zb_32_6 rfl)))), z3⟩
    · rw [y1, zhb_f]
      obtain ⟨s3, z2, z3⟩ := zc_numd y3 0 99 (-1)
      exact ⟨s3, (zb_32_0 (zb_32_1_c2 rfl (zb_32_2 (r := 0) (s1 := s3) (zb_33_0 (r := v) (s1 := s1) (by rw [e1]; exact x2) (zb_33_8 (fun _ => zb_33_16 (r := 0) (s1 := s2) (by rw [e2]; exact y2) (zb_33_24 z2 (zb_33_30 (fun q => absurd q z3.fn) (fun _ => zb_33_60 rfl)))) (fun q => absurd rfl q))) (zb_32_6 rfl)))), z3⟩
  · rw [x1, zhb_f]
    obtain ⟨s2, y2, y3⟩ := zc_numd x3 0 (zw (s1 30 0 - 1)) (-1)
    obtain ⟨s3, z2, z3⟩ := zc_numd y3 0 99 (-1)
    exact ⟨s3, (zb_32_0 (zb_32_1_c2 rfl (zb_32_2 (r := 0) (s1 := s3) (zb_33_0 (r := 0) (s1 := s1) (by rw [e1]; exact x2) (zb_33_8 (fun _ => zb_33_16 y2 (zb_33_24 z2 (zb_33_30 (fun q => absurd q z3.fn) (fun _ => zb_33_60 rfl)))) (fun q => absurd rfl q))) (zb_32_6 rfl)))), z3⟩
theorem zc_w3 (hc : zCh s0 T) {p l : Int} (h : zCs s0 T (.inl (p, R)) s) (hwf : zhwf l R) (hov : ¬ zhov 3 l R) : ∃ s', zE xm_c32 [3, 8, 30] s 0 s' ∧ zCs s0 T (zhc (s0 9) T 3 p R) s' := by
  obtain ⟨w0, -, w2, w3, w4, -, -⟩ := hwf
  have r0 := h.hr.1.1
  have r1 := h.hr.1.2.1
  have h0 := h.1
  have e1 : zw (s 30 1 - 1) = R 1 - 1 := by rw [r1, zw_id (by omega) (by omega)]
  rw [zhc_3]
  rcases zc_num hc h 0 (R 1 - 1) (-1) with ⟨v, q, s1, x1, x2, x3⟩ | ⟨f, s1, x1, x2, x3⟩
  · rw [x1, zhb_i]
    have f1 := zhn_i hc.1 hc.2.2.2 h0.1 h0.2 x1
    have t1 := x3.hr.1.2.1
    have e2 : zw (s1 30 1 - 1) = R 1 - 1 := by rw [t1, zw_id (by omega) (by omega)]
    rcases zc_num hc x3 0 (R 1 - 1) v with ⟨v2, q2, s2, y1, y2, y3⟩ | ⟨f, s2, y1, y2, y3⟩
    · rw [y1, zhb_i]
      have f2 := zhn_i hc.1 hc.2.2.2 (by omega) f1.2.2 y1
      have t3 := y3.hr.1.2.2.2
      have h6 : R 3 ≠ 6 := fun q => hov (Or.inr (Or.inr (Or.inr (Or.inr (Or.inr (Or.inl ⟨rfl, q⟩))))))
      refine ⟨_, (zb_32_0 (zb_32_1_c3 rfl (zb_32_2 (r := 0) (s1 := _) (zb_33_0 (r := v) (s1 := s1) (by rw [e1]; exact x2) (zb_33_8 (fun q => absurd q (by decide)) (fun _ => zb_33_32 (fun _ => zb_33_35 (r := v2) (s1 := s2) (by rw [e2]; exact y2) (zb_33_43 (fun _ => zb_33_61 (zb_33_62_c3 rfl (zb_33_69 (r := 0) (s1 := _) (zb_28_0 rfl) (zb_33_73 rfl)))) (fun q => absurd y3.f0 q))) (fun q => absurd rfl q)))) (zb_32_6 rfl)))), ?_⟩
      have e : (zu (zu s2 (30 + 3) v (zor (s2 (30 + 3) v) (zshl 1 v2))) (30 + 3) v2 (zor ((zu s2 (30 + 3) v (zor (s2 (30 + 3) v) (zshl 1 v2))) (30 + 3) v2) (zshl 1 v))) 30 3 = R 3 := by
        rw [zu_cell (by decide), zu_cell (by decide)]
        exact t3
      rw [e, zw_id (by omega) (by omega)]
      exact y3.puts (fun x y hx => by rw [zu_cell (by omega), zu_cell (by omega), zu_cell (by omega)]) (zHr_w3 y3.hr w2.2 w3.2 (by omega) (by omega) f2.1.2.2 rfl)
    · rw [y1, zhb_f]
      exact ⟨s2, (zb_32_0 (zb_32_1_c3 rfl (zb_32_2 (r := 0) (s1 := s2) (zb_33_0 (r := v) (s1 := s1) (by rw [e1]; exact x2) (zb_33_8 (fun q => absurd q (by decide)) (fun _ => zb_33_32 (fun _ => zb_33_35 (r := 0) (s1 := s2) (by rw [e2]; exact y2) (zb_33_43 (fun q => absurd q y3.fn) (fun _ => zb_33_60 rfl))) (fun q => absurd rfl q)))) (zb_32_6 rfl)))), y3⟩
  · rw [x1, zhb_f]
    obtain ⟨s2, y2, y3⟩ := zc_numd x3 0 (zw (s1 30 1 - 1)) 0
    exact ⟨s2, (zb_32_0 (zb_32_1_c3 rfl (zb_32_2 (r := 0) (s1 := s2) (zb_33_0 (r := 0) (s1 := s1) (by rw [e1]; exact x2) (zb_33_8 (fun q => absurd q (by decide)) (fun _ => zb_33_32 (fun _ => zb_33_35 y2 (zb_33_43 (fun q => absurd q y3.fn) (fun _ => zb_33_60 rfl))) (fun q => absurd rfl q)))) (zb_32_6 rfl)))), y3⟩
theorem zc_w4 (hc : zCh s0 T) {p l : Int} (h : zCs s0 T (.inl (p, R)) s) (hwf : zhwf l R) (hov : ¬ zhov 4 l R) : ∃ s', zE xm_c32 [4, 8, 30] s 0 s' ∧ zCs s0 T (zhc (s0 9) T 4 p R) s' := by
  obtain ⟨w0, -, w2, w3, w4, -, -⟩ := hwf
  have r0 := h.hr.1.1
  have r1 := h.hr.1.2.1
  have h0 := h.1
  have e1 : zw (s 30 1 - 1) = R 1 - 1 := by rw [r1, zw_id (by omega) (by omega)]
  rw [zhc_4]
  rcases zc_num hc h 0 (R 1 - 1) (-1) with ⟨v, q, s1, x1, x2, x3⟩ | ⟨f, s1, x1, x2, x3⟩
  · rw [x1, zhb_i]
    have f1 := zhn_i hc.1 hc.2.2.2 h0.1 h0.2 x1
    refine ⟨_, (zb_32_0 (zb_32_1_c4 rfl (zb_32_2 (r := 0) (s1 := _) (zb_33_0 (r := v) (s1 := s1) (by rw [e1]; exact x2) (zb_33_8 (fun q => absurd q (by decide)) (fun _ => zb_33_32 (fun q => absurd q (by decide)) (fun _ => zb_33_45 (fun q => absurd q (by decide)) (fun _ => zb_33_48 (fun q => absurd q (by decide)) (fun _ => zb_33_57 (fun _ => zb_33_61 (zb_33_62_c4 rfl (zb_33_74 rfl))) (fun q => absurd x3.f0 q))))))) (zb_32_6 rfl)))), ?_⟩
    exact x3.puts (fun x y hx => zu_cell (by omega)) (zHr_w4 x3.hr w2.2 w3.2 (by omega))
  · rw [x1, zhb_f]
    exact ⟨s1, (zb_32_0 (zb_32_1_c4 rfl (zb_32_2 (r := 0) (s1 := s1) (zb_33_0 (r := 0) (s1 := s1) (by rw [e1]; exact x2) (zb_33_8 (fun q => absurd q (by decide)) (fun _ => zb_33_32 (fun q => absurd q (by decide)) (fun _ => zb_33_45 (fun q => absurd q (by decide)) (fun _ => zb_33_48 (fun q => absurd q (by decide)) (fun _ => zb_33_57 (fun q => absurd q x3.fn) (fun _ => zb_33_60 rfl))))))) (zb_32_6 rfl)))), x3⟩
theorem zc_w5 (hc : zCh s0 T) {p l : Int} (h : zCs s0 T (.inl (p, R)) s) (hwf : zhwf l R) (hov : ¬ zhov 5 l R) : ∃ s', zE xm_c32 [5, 8, 30] s 0 s' ∧ zCs s0 T (zhc (s0 9) T 5 p R) s' := by
  obtain ⟨w0, -, w2, w3, w4, -, -⟩ := hwf
  have r0 := h.hr.1.1
  have r1 := h.hr.1.2.1
  have h0 := h.1
  have e1 : zw (s 30 1 - 1) = R 1 - 1 := by rw [r1, zw_id (by omega) (by omega)]
  rw [zhc_5]
  rcases zc_num hc h 0 (R 1 - 1) (-1) with ⟨v, q, s1, x1, x2, x3⟩ | ⟨f, s1, x1, x2, x3⟩
  · rw [x1, zhb_i]
    have f1 := zhn_i hc.1 hc.2.2.2 h0.1 h0.2 x1
    rcases zc_num hc x3 1 9 (-1) with ⟨v2, q2, s2, y1, y2, y3⟩ | ⟨f, s2, y1, y2, y3⟩
    · rw [y1, zhb_i]
      refine ⟨_, (zb_32_0 (zb_32_1_c5 rfl (zb_32_2 (r := 0) (s1 := _) (zb_33_0 (r := v) (s1 := s1) (by rw [e1]; exact x2) (zb_33_8 (fun q => absurd q (by decide)) (fun _ => zb_33_32 (fun q => absurd q (by decide)) (fun _ => zb_33_45 (fun _ => zb_33_51 y2 (zb_33_56 (fun _ => zb_33_61 (zb_33_62_c5 rfl (zb_33_83 rfl))) (fun q => absurd y3.f0 q))) (fun q => absurd rfl q))))) (zb_32_6 rfl)))), ?_⟩
      exact y3.puts (fun x y hx => zu_cell (by omega)) (zHr_w5 y3.hr w2.2 w3.2 (by omega) (rfl))
    · rw [y1, zhb_f]
      exact ⟨s2, (zb_32_0 (zb_32_1_c5 rfl (zb_32_2 (r := 0) (s1 := s2) (zb_33_0 (r := v) (s1 := s1) (by rw [e1]; exact x2) (zb_33_8 (fun q => absurd q (by decide)) (fun _ => zb_33_32 (fun q => absurd q (by decide)) (fun _ => zb_33_45 (fun _ => zb_33_51 y2 (zb_33_56 (fun q => absurd q y3.fn) (fun _ => zb_33_60 rfl))) (fun q => absurd rfl q))))) (zb_32_6 rfl)))), y3⟩
  · rw [x1, zhb_f]
    obtain ⟨s2, y2, y3⟩ := zc_numd x3 1 9 (-1)
    exact ⟨s2, (zb_32_0 (zb_32_1_c5 rfl (zb_32_2 (r := 0) (s1 := s2) (zb_33_0 (r := 0) (s1 := s1) (by rw [e1]; exact x2) (zb_33_8 (fun q => absurd q (by decide)) (fun _ => zb_33_32 (fun q => absurd q (by decide)) (fun _ => zb_33_45 (fun _ => zb_33_51 y2 (zb_33_56 (fun q => absurd q y3.fn) (fun _ => zb_33_60 rfl))) (fun q => absurd rfl q))))) (zb_32_6 rfl)))), y3⟩
theorem zc_w6 (hc : zCh s0 T) {p l : Int} (h : zCs s0 T (.inl (p, R)) s) (hwf : zhwf l R) (hov : ¬ zhov 6 l R) : ∃ s', zE xm_c32 [6, 8, 30] s 0 s' ∧ zCs s0 T (zhc (s0 9) T 6 p R) s' := by
  obtain ⟨w0, -, w2, w3, w4, -, -⟩ := hwf
  have r0 := h.hr.1.1
  have r1 := h.hr.1.2.1
  have h0 := h.1
  have e1 : zw (s 30 1 - 1) = R 1 - 1 := by rw [r1, zw_id (by omega) (by omega)]
  rw [zhc_6]
  rcases zc_num hc h 0 (R 1 - 1) (-1) with ⟨v, q, s1, x1, x2, x3⟩ | ⟨f, s1, x1, x2, x3⟩
  · rw [x1, zhb_i]
    have f1 := zhn_i hc.1 hc.2.2.2 h0.1 h0.2 x1
    rcases zc_num hc x3 1 9 (-1) with ⟨v2, q2, s2, y1, y2, y3⟩ | ⟨f, s2, y1, y2, y3⟩
    · rw [y1, zhb_i]
      refine ⟨_, (zb_32_0 (zb_32_1_c6 rfl (zb_32_2 (r := 0) (s1 := _) (zb_33_0 (r := v) (s1 := s1) (by rw [e1]; exact x2) (zb_33_8 (fun q => absurd q (by decide)) (fun _ => zb_33_32 (fun q => absurd q (by decide)) (fun _ => zb_33_45 (fun q => absurd q (by decide)) (fun _ => zb_33_48 (fun _ => zb_33_51 y2 (zb_33_56 (fun _ => zb_33_61 (zb_33_62_d (by decide) (zb_33_89 rfl))) (fun q => absurd y3.f0 q))) (fun q => absurd rfl q)))))) (zb_32_6 rfl)))), ?_⟩
      exact y3.puts (fun x y hx => zu_cell (by omega)) (zHr_w5 y3.hr w2.2 w3.2 (by omega) (by have f2 := zhn_i hc.1 hc.2.2.2 (by omega) f1.2.2 y1; exact zw_id (by omega) (by omega)))
    · rw [y1, zhb_f]
      exact ⟨s2, (zb_32_0 (zb_32_1_c6 rfl (zb_32_2 (r := 0) (s1 := s2) (zb_33_0 (r := v) (s1 := s1) (by rw [e1]; exact x2) (zb_33_8 (fun q => absurd q (by decide)) (fun _ => zb_33_32 (fun q => absurd q (by decide)) (fun _ => zb_33_45 (fun q => absurd q (by decide)) (fun _ => zb_33_48 (fun _ => zb_33_51 y2 (zb_33_56 (fun q => absurd q y3.fn) (fun _ => zb_33_60 rfl))) (fun q => absurd rfl q)))))) (zb_32_6 rfl)))), y3⟩
  · rw [x1, zhb_f]
    obtain ⟨s2, y2, y3⟩ := zc_numd x3 1 9 (-1)
    exact ⟨s2, (zb_32_0 (zb_32_1_c6 rfl (zb_32_2 (r := 0) (s1 := s2) (zb_33_0 (r := 0) (s1 := s1) (by rw [e1]; exact x2) (zb_33_8 (fun q => absurd q (by decide)) (fun _ => zb_33_32 (fun q => absurd q (by decide)) (fun _ => zb_33_45 (fun q => absurd q (by decide)) (fun _ => zb_33_48 (fun _ => zb_33_51 y2 (zb_33_56 (fun q => absurd q y3.fn) (fun _ => zb_33_60 rfl))) (fun q => absurd rfl q)))))) (zb_32_6 rfl)))), y3⟩
theorem zc_w0 (hc : zCh s0 T) {p l : Int} (h : zCs s0 T (.inl (p, R)) s) (hwf : zhwf l R) (hov : ¬ zhov 0 l R) : ∃ s', zE xm_c32 [0, 8, 30] s 0 s' ∧ zCs s0 T (zhc (s0 9) T 0 p R) s' := by
  obtain ⟨w0, -, w2, w3, w4, -, -⟩ := hwf
  have r0 := h.hr.1.1
  have r1 := h.hr.1.2.1
  have h0 := h.1
  rw [zhc_0]
  rcases zc_num hc h 2 9 (-1) with ⟨v, q, s1, x1, x2, x3⟩ | ⟨f, s1, x1, x2, x3⟩
  · rw [x1, zhb_i]
    exact ⟨_, (zb_32_0 (zb_32_1_d (by decide) (zb_32_7 (r := 0) (s1 := _) (zb_34_0 (fun _ => zb_34_2 x2 (zb_34_8 rfl)) (fun q => absurd rfl q)) (zb_32_11 rfl)))), x3.puts (fun x y hx => zu_cell (by omega)) (zHr_w0 x3.hr w2.2 w3.2)⟩
  · rw [x1, zhb_f]
    exact ⟨_, (zb_32_0 (zb_32_1_d (by decide) (zb_32_7 (r := 0) (s1 := _) (zb_34_0 (fun _ => zb_34_2 x2 (zb_34_8 rfl)) (fun q => absurd rfl q)) (zb_32_11 rfl)))), x3.junk (by decide) (by decide)⟩
theorem zc_w8 (hc : zCh s0 T) {p l : Int} (h : zCs s0 T (.inl (p, R)) s) (hwf : zhwf l R) (hov : ¬ zhov 8 l R) : ∃ s', zE xm_c32 [8, 8, 30] s 0 s' ∧ zCs s0 T (zhc (s0 9) T 8 p R) s' := by
  obtain ⟨w0, -, w2, w3, w4, -, -⟩ := hwf
  have r0 := h.hr.1.1
  have r1 := h.hr.1.2.1
  have h0 := h.1
  rw [zhc_8]
  rcases zc_num hc h 0 99 (-1) with ⟨v, q, s1, x1, x2, x3⟩ | ⟨f, s1, x1, x2, x3⟩
  · rw [x1, zhb_i]
    exact ⟨_, (zb_32_0 (zb_32_1_d (by decide) (zb_32_7 (r := 0) (s1 := _) (zb_34_0 (fun q => absurd q (by decide)) (fun _ => zb_34_10 (fun _ => zb_34_13 x2 (zb_34_19 rfl)) (fun q => absurd rfl q))) (zb_32_11 rfl)))), x3.puts (fun x y hx => zu_cell (by omega)) (zHr_w8 x3.hr w2.2 w3.2)⟩
  · rw [x1, zhb_f]
    exact ⟨_, (zb_32_0 (zb_32_1_d (by decide) (zb_32_7 (r := 0) (s1 := _) (zb_34_0 (fun q => absurd q (by decide)) (fun _ => zb_34_10 (fun _ => zb_34_13 x2 (zb_34_19 rfl)) (fun q => absurd rfl q))) (zb_32_11 rfl)))), x3.junk (by decide) (by decide)⟩
theorem zc_w7 (hc : zCh s0 T) {p l : Int} (h : zCs s0 T (.inl (p, R)) s) (hwf : zhwf l R) (hov : ¬ zhov 7 l R) : ∃ s', zE xm_c32 [7, 8, 30] s 0 s' ∧ zCs s0 T (zhc (s0 9) T 7 p R) s' := by
  obtain ⟨w0, -, w2, w3, w4, -, -⟩ := hwf
  have r0 := h.hr.1.1
  have r1 := h.hr.1.2.1
  have h0 := h.1
  have e1 : zw (s 30 0 - 1) = R 0 - 1 := by rw [r0, zw_id (by omega) (by omega)]
  rw [zhc_7]
  rcases zc_num hc h 0 (R 0 - 1) (-1) with ⟨v, q, s1, x1, x2, x3⟩ | ⟨f, s1, x1, x2, x3⟩
  · rw [x1, zhb_i]
    refine ⟨_, (zb_32_0 (zb_32_1_d (by decide) (zb_32_7 (r := 0) (s1 := _) (zb_34_0 (fun q => absurd q (by decide)) (fun _ => zb_34_10 (fun q => absurd q (by decide)) (fun _ => zb_34_21 (r := v) (s1 := s1) (by rw [e1]; exact x2) (zb_34_29 (fun q => absurd q (by decide)) (fun _ => zb_34_42 (fun q => absurd q (by decide)) (fun _ => zb_34_54 (fun _ => zb_34_58 (zb_34_59_c7 rfl (zb_34_65 rfl))) (fun q => absurd x3.f0 q))))))) (zb_32_11 rfl)))), ?_⟩
    exact x3.puts (fun x y hx => zu_cell (by omega)) (zHr_w7 x3.hr w2.2 w3.2)
  · rw [x1, zhb_f]
    exact ⟨s1, (zb_32_0 (zb_32_1_d (by decide) (zb_32_7 (r := 0) (s1 := s1) (zb_34_0 (fun q => absurd q (by decide)) (fun _ => zb_34_10 (fun q => absurd q (by decide)) (fun _ => zb_34_21 (r := 0) (s1 := s1) (by rw [e1]; exact x2) (zb_34_29 (fun q => absurd q (by decide)) (fun _ => zb_34_42 (fun q => absurd q (by decide)) (fun _ => zb_34_54 (fun q => absurd q x3.fn) (fun _ => zb_34_57 rfl))))))) (zb_32_11 rfl)))), x3⟩
theorem zc_w9 (hc : zCh s0 T) {p l : Int} (h : zCs s0 T (.inl (p, R)) s) (hwf : zhwf l R) (hov : ¬ zhov 9 l R) : ∃ s', zE xm_c32 [9, 8, 30] s 0 s' ∧ zCs s0 T (zhc (s0 9) T 9 p R) s' := by
  obtain ⟨w0, -, w2, w3, w4, -, -⟩ := hwf
  have r0 := h.hr.1.1
  have r1 := h.hr.1.2.1
  have h0 := h.1
  have e1 : zw (s 30 0 - 1) = R 0 - 1 := by rw [r0, zw_id (by omega) (by omega)]
  rw [zhc_9]
  rcases zc_num hc h 0 (R 0 - 1) (-1) with ⟨v, q, s1, x1, x2, x3⟩ | ⟨f, s1, x1, x2, x3⟩
  · rw [x1, zhb_i]
    refine ⟨_, (zb_32_0 (zb_32_1_d (by decide) (zb_32_7 (r := 0) (s1 := _) (zb_34_0 (fun q => absurd q (by decide)) (fun _ => zb_34_10 (fun q => absurd q (by decide)) (fun _ => zb_34_21 (r := v) (s1 := s1) (by rw [e1]; exact x2) (zb_34_29 (fun q => absurd q (by decide)) (fun _ => zb_34_42 (fun q => absurd q (by decide)) (fun _ => zb_34_54 (fun _ => zb_34_58 (zb_34_59_c9 rfl (zb_34_74 rfl))) (fun q => absurd x3.f0 q))))))) (zb_32_11 rfl)))), ?_⟩
    exact x3.puts (fun x y hx => zu_cell (by omega)) (zHr_w9 x3.hr w2.2 w3.2)
  · rw [x1, zhb_f]
    exact ⟨s1, (zb_32_0 (zb_32_1_d (by decide) (zb_32_7 (r := 0) (s1 := s1) (zb_34_0 (fun q => absurd q (by decide)) (fun _ => zb_34_10 (fun q => absurd q (by decide)) (fun _ => zb_34_21 (r := 0) (s1 := s1) (by rw [e1]; exact x2) (zb_34_29 (fun q => absurd q (by decide)) (fun _ => zb_34_42 (fun q => absurd q (by decide)) (fun _ => zb_34_54 (fun q => absurd q x3.fn) (fun _ => zb_34_57 rfl))))))) (zb_32_11 rfl)))), x3⟩
theorem zc_w1 (hc : zCh s0 T) {p l : Int} (h : zCs s0 T (.inl (p, R)) s) (hwf : zhwf l R) (hov : ¬ zhov 1 l R) : ∃ s', zE xm_c32 [1, 8, 30] s 0 s' ∧ zCs s0 T (zhc (s0 9) T 1 p R) s' := by
  obtain ⟨w0, -, w2, w3, w4, -, -⟩ := hwf
  have r0 := h.hr.1.1
  have r1 := h.hr.1.2.1
  have h0 := h.1
  have e1 : zw (s 30 0 - 1) = R 0 - 1 := by rw [r0, zw_id (by omega) (by omega)]
  rw [zhc_1]
  rcases zc_num hc h 0 (R 0 - 1) (-1) with ⟨v, q, s1, x1, x2, x3⟩ | ⟨f, s1, x1, x2, x3⟩
  · rw [x1, zhb_i]
    rcases zc_num hc x3 1 9 (-1) with ⟨v2, q2, s2, y1, y2, y3⟩ | ⟨f, s2, y1, y2, y3⟩
    · rw [y1, zhb_i]
      have t1 := y3.hr.1.2.1
      have h7 : R 1 ≠ 7 := fun q => hov (Or.inr (Or.inr (Or.inr (Or.inl ⟨rfl, q⟩))))
      refine ⟨_, (zb_32_0 (zb_32_1_d (by decide) (zb_32_7 (r := 0) (s1 := _) (zb_34_0 (fun q => absurd q (by decide)) (fun _ => zb_34_10 (fun q => absurd q (by decide)) (fun _ => zb_34_21 (r := v) (s1 := s1) (by rw [e1]; exact x2) (zb_34_29 (fun _ => zb_34_35 y2 (zb_34_40 (fun _ => zb_34_58 (zb_34_59_c1 rfl (zb_34_60 (r := 0) (s1 := _) (zb_26_0 (fun _ => zb_26_4 rfl) (fun q => absurd (show s2 30 1 < 7 by rw [t1]; omega) q)) (zb_34_64 rfl)))) (fun q => absurd y3.f0 q))) (fun q => absurd rfl q))))) (zb_32_11 rfl)))), ?_⟩
      have e : (zu (zu s2 (30 + 1) (s2 30 1) v) (30 + 2) ((zu s2 (30 + 1) (s2 30 1) v) 30 1) v2) 30 1 = R 1 := by
        rw [zu_cell (by decide), zu_cell (by decide)]
        exact t1
      rw [e, zw_id (by omega) (by omega)]
      exact y3.puts (fun x y hx => by rw [zu_cell (by omega), zu_cell (by omega), zu_cell (by omega)]) (zHr_w1 y3.hr (by omega) w3.2 t1 (by rw [zu_cell (by decide)]; exact t1) rfl)
    · rw [y1, zhb_f]
      exact ⟨s2, (zb_32_0 (zb_32_1_d (by decide) (zb_32_7 (r := 0) (s1 := s2) (zb_34_0 (fun q => absurd q (by decide)) (fun _ => zb_34_10 (fun q => absurd q (by decide)) (fun _ => zb_34_21 (r := v) (s1 := s1) (by rw [e1]; exact x2) (zb_34_29 (fun _ => zb_34_35 y2 (zb_34_40 (fun q => absurd q y3.fn) (fun _ => zb_34_57 rfl))) (fun q => absurd rfl q))))) (zb_32_11 rfl)))), y3⟩
  · rw [x1, zhb_f]
    obtain ⟨s2, y2, y3⟩ := zc_numd x3 1 9 (-1)
    exact ⟨s2, (zb_32_0 (zb_32_1_d (by decide) (zb_32_7 (r := 0) (s1 := s2) (zb_34_0 (fun q => absurd q (by decide)) (fun _ => zb_34_10 (fun q => absurd q (by decide)) (fun _ => zb_34_21 (r := 0) (s1 := s1) (by rw [e1]; exact x2) (zb_34_29 (fun _ => zb_34_35 y2 (zb_34_40 (fun q => absurd q y3.fn) (fun _ => zb_34_57 rfl))) (fun q => absurd rfl q))))) (zb_32_11 rfl)))), y3⟩
theorem zc_w10 (hc : zCh s0 T) {p l : Int} (h : zCs s0 T (.inl (p, R)) s) (hwf : zhwf l R) (hov : ¬ zhov 10 l R) : ∃ s', zE xm_c32 [10, 8, 30] s 0 s' ∧ zCs s0 T (zhc (s0 9) T 10 p R) s' := by
  obtain ⟨w0, -, w2, w3, w4, -, -⟩ := hwf
  have r0 := h.hr.1.1
  have r1 := h.hr.1.2.1
  have h0 := h.1
  have e1 : zw (s 30 0 - 1) = R 0 - 1 := by rw [r0, zw_id (by omega) (by omega)]
  rw [zhc_10]
  rcases zc_num hc h 0 (R 0 - 1) (-1) with ⟨v, q, s1, x1, x2, x3⟩ | ⟨f, s1, x1, x2, x3⟩
  · rw [x1, zhb_i]
    have t0 := x3.hr.1.1
    have e2 : zw (s1 30 0 - 1) = R 0 - 1 := by rw [t0, zw_id (by omega) (by omega)]
    rcases zc_num hc x3 0 (R 0 - 1) v with ⟨v2, q2, s2, y1, y2, y3⟩ | ⟨f, s2, y1, y2, y3⟩
    · rw [y1, zhb_i]
      refine ⟨_, (zb_32_0 (zb_32_1_d (by decide) (zb_32_7 (r := 0) (s1 := _) (zb_34_0 (fun q => absurd q (by decide)) (fun _ => zb_34_10 (fun q => absurd q (by decide)) (fun _ => zb_34_21 (r := v) (s1 := s1) (by rw [e1]; exact x2) (zb_34_29 (fun q => absurd q (by decide)) (fun _ => zb_34_42 (fun _ => zb_34_45 (r := v2) (s1 := s2) (by rw [e2]; exact y2) (zb_34_53 (fun _ => zb_34_58 (zb_34_59_d (by decide) (zb_34_83 rfl))) (fun q => absurd y3.f0 q))) (fun q => absurd rfl q)))))) (zb_32_11 rfl)))), ?_⟩
      exact y3.puts (fun x y hx => by rw [zu_cell (by omega), zu_cell (by omega)]) (zHr_w10 y3.hr w2.2 w3.2)
    · rw [y1, zhb_f]
      exact ⟨s2, (zb_32_0 (zb_32_1_d (by decide) (zb_32_7 (r := 0) (s1 := s2) (zb_34_0 (fun q => absurd q (by decide)) (fun _ => zb_34_10 (fun q => absurd q (by decide)) (fun _ => zb_34_21 (r := v) (s1 := s1) (by rw [e1]; exact x2) (zb_34_29 (fun q => absurd q (by decide)) (fun _ => zb_34_42 (fun _ => zb_34_45 (r := 0) (s1 := s2) (by rw [e2]; exact y2) (zb_34_53 (fun q => absurd q y3.fn) (fun _ => zb_34_57 rfl))) (fun q => absurd rfl q)))))) (zb_32_11 rfl)))), y3⟩
  · rw [x1, zhb_f]
    obtain ⟨s2, y2, y3⟩ := zc_numd x3 0 (zw (s1 30 0 - 1)) 0
    exact ⟨s2, (zb_32_0 (zb_32_1_d (by decide) (zb_32_7 (r := 0) (s1 := s2) (zb_34_0 (fun q => absurd q (by decide)) (fun _ => zb_34_10 (fun q => absurd q (by decide)) (fun _ => zb_34_21 (r := 0) (s1 := s1) (by rw [e1]; exact x2) (zb_34_29 (fun q => absurd q (by decide)) (fun _ => zb_34_42 (fun _ => zb_34_45 y2 (zb_34_53 (fun q => absurd q y3.fn) (fun _ => zb_34_57 rfl))) (fun q => absurd rfl q)))))) (zb_32_11 rfl)))), y3⟩
theorem zc_nums (hc : zCh s0 T) {w p l : Int} (hw0 : 0 ≤ w) (hw : w ≤ 10) (h : zCs s0 T (.inl (p, R)) s) (hwf : zhwf l R) (hov : ¬ zhov w l R) : ∃ s', zE xm_c32 [w, 8, 30] s 0 s' ∧ zCs s0 T (zhc (s0 9) T w p R) s' := by
  rcases (show w = 0 ∨ w = 1 ∨ w = 2 ∨ w = 3 ∨ w = 4 ∨ w = 5 ∨ w = 6 ∨ w = 7 ∨ w = 8 ∨ w = 9 ∨ w = 10 by omega) with rfl | rfl | rfl | rfl | rfl | rfl | rfl | rfl | rfl | rfl | rfl
  · exact zc_w0 hc h hwf hov
  · exact zc_w1 hc h hwf hov
  · exact zc_w2 hc h hwf hov
  · exact zc_w3 hc h hwf hov
  · exact zc_w4 hc h hwf hov
  · exact zc_w5 hc h hwf hov
  · exact zc_w6 hc h hwf hov
  · exact zc_w7 hc h hwf hov
  · exact zc_w8 hc h hwf hov
  · exact zc_w9 hc h hwf hov
  · exact zc_w10 hc h hwf hov
end CK
