/-! the class's rule, with the code -/
theorem zlen_r {k : Int} (h0 : 0 ≤ k) (h5 : k ≤ 5) : zw (zlen (240 + 4 * k + 1)) = 240 := by
  rcases (show k = 0 ∨ k = 1 ∨ k = 2 ∨ k = 3 ∨ k = 4 ∨ k = 5 by omega) with rfl | rfl | rfl | rfl | rfl | rfl <;> rfl
theorem zCd_x {r : Int} {w : zW} {s s' : zS} (h : zCd r w s) (hs : ∀ x y, r ≤ x → x < r + 4 → s' x y = s x y) : zCd r w s' := by
  unfold zCd at h ⊢
  rw [hs r 3 (by omega) (by omega), hs r 4 (by omega) (by omega), hs (r + 2) 0 (by omega) (by omega)]
  refine ⟨⟨h.1.1, fun i h1 h2 => ?_⟩, h.2.1, h.2.2.1, fun i hi => ?_⟩
  · rw [hs (r + 1) _ (by omega) (by omega)]
    exact h.1.2 i h1 h2
  · rw [hs (r + 3) _ (by omega) (by omega), hs (r + 2) _ (by omega) (by omega)]
    exact h.2.2.2 i hi
theorem zo_ruleE {s : zS} (hb : zg_by (s 9)) (hT0 : 0 ≤ s 8 1) (hT4 : s 8 1 ≤ 400) (hc0 : 0 ≤ s 7 8) (hc6 : s 7 8 < 6) (h20 : s (240 + 4 * s 7 8 + 2) 0 = 0) : ∃ f w s1, zE xm_c91 [7, 0] s (zrq (s 7 8) f) s1 ∧ ze_end (s 9) (s 8 1) (0, 0, zg_sk (s 9) (s 8 1) 0, zW0, 0, []) (f, w) ∧ s1 8 1 = 0 ∧ s1 7 8 = (if f = 0 then s 7 8 + 1 else s 7 8) ∧ (f = 0 → zCd (240 + 4 * s 7 8) w s1) ∧ s1 (240 + 4 * s 7 8 + 2) 0 = 0 ∧ ∀ x y, x ≠ 8 → x ≠ 39 → ¬ (240 + 4 * s 7 8 ≤ x ∧ x < 240 + 4 * s 7 8 + 4) → ¬ (x = 7 ∧ y = 8) → s1 x y = s x y := by
  obtain ⟨f, w, s', e1, ⟨e2, e3, e4, e20, e5⟩, e6⟩ := zy_read (s0 := s) (r := 240 + 4 * s 7 8) hb rfl hT0 hT4 (by omega) (by omega) (zlen_r hc0 (by omega)) h20
  have k8 : s' 7 8 = s 7 8 := e5 7 8 (by decide) (by decide) (by omega)
  by_cases hf : f = 0
  · have r1 : zw (zu (zu s' 8 1 0) 7 8 (zw (zu s' 8 1 0 7 8 + 1)) 7 8 - 1) = zrq (s 7 8) f := by
      rw [zu_hit, zu_cell (by decide), k8]
      unfold zrq
      rw [if_pos hf, zw_id (x := s 7 8 + 1) (by omega) (by omega), zw_id (by omega) (by omega)]
      omega
    have r2 : zw (zu s' 8 1 0 7 8 + 1) = s 7 8 + 1 := by
      rw [zu_cell (by decide), k8, zw_id (by omega) (by omega)]
    refine ⟨f, w, zu (zu s' 8 1 0) 7 8 (s 7 8 + 1), zb_91_0 (fun _ => zb_91_6 (r := f) (s1 := s') e1 (zb_91_14 (fun _ => zb_91_25 (Prod.ext ?_ ?_)) (fun q => absurd hf q))) (fun q => absurd hc6 q), e6, ?_, ?_, fun _ => ?_, by rw [zu_cell (by omega), zu_cell (by omega)]; exact e20, fun x y a b c d => ?_⟩
    · exact r1
    · show zu (zu s' 8 1 0) 7 8 (zw (zu s' 8 1 0 7 8 + 1)) = _
      rw [r2]
    · rw [zu_cell (by decide), zu_hit]
    · rw [zu_hit, if_pos hf]
    · exact zCd_x (e3 hf) (fun x y h1 h2 => by rw [zu_cell (by omega), zu_cell (by omega)])
    · unfold zu
      rw [if_neg d, if_neg (fun q => a q.1)]
      exact e5 x y a b c
  · refine ⟨f, w, zu s' 8 1 0, zb_91_0 (fun _ => zb_91_6 (r := f) (s1 := s') e1 (zb_91_14 (fun q => absurd q hf) (fun _ => zb_91_21 (Prod.ext ?_ rfl)))) (fun q => absurd hc6 q), e6, zu_hit, ?_, fun q => absurd q hf, by rw [zu_cell (by omega)]; exact e20, fun x y a b c d => ?_⟩
    · show zw (-2 - f) = zrq (s 7 8) f
      unfold zrq
      rw [if_neg hf]
    · rw [zu_cell (by decide), k8, if_neg hf]
    · rw [zu_cell a]
      exact e5 x y a b c
