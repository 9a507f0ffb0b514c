/-! the tape, the rule in force and the seed on both sides -/
section JA
variable {bB : Int}
variable {s s2 : zS} {a x v x1 x2 x3 x4 x5 : Int}
theorem zap_o (h : x ≠ a) (h' : x ≠ a + 1) : zap a s v x = s x := by
  unfold zap
  exact funext (fun y => by rw [zu_cell h, zu_cell h'])
theorem zap_p {y : Int} (h : y ≠ 1) : zap a s v a y = s a y := by
  unfold zap
  rw [zu_place h, zu_cell (by omega)]
theorem zfe_o (h : x ≠ a) (h' : x ≠ a + 1) : zfe a s x1 x2 x3 x4 x5 x = s x := by
  unfold zfe
  by_cases c : 400 < s a 1 + 20
  · rw [if_pos c]
  · rw [if_neg c]
    unfold zap4
    rw [zap_o h h', zap_o h h', zap_o h h', zap_o h h', zap_o h h', zap_o h h', zap_o h h', zap_o h h', zap_o h h', zap_o h h', zap_o h h', zap_o h h', zap_o h h', zap_o h h', zap_o h h', zap_o h h', zap_o h h', zap_o h h', zap_o h h', zap_o h h']
theorem zfe_p {y : Int} (h : y ≠ 1) : zfe a s x1 x2 x3 x4 x5 a y = s a y := by
  unfold zfe
  by_cases c : 400 < s a 1 + 20
  · rw [if_pos c]
  · rw [if_neg c]
    unfold zap4
    rw [zap_p h, zap_p h, zap_p h, zap_p h, zap_p h, zap_p h, zap_p h, zap_p h, zap_p h, zap_p h, zap_p h, zap_p h, zap_p h, zap_p h, zap_p h, zap_p h, zap_p h, zap_p h, zap_p h, zap_p h]
/-- the tapes and the rules being read alone are otherwise -/
theorem zRZ_A (H : zRZ bB s) (h6 : s 7 8 ≤ 6) (f : ∀ x, x ≠ 8 → x ≠ 9 → x ≠ 344 → x ≠ 345 → s2 x = s x) (g : ∀ y, y ≠ 1 → s2 344 y = s 344 y) (hA : zgA s2) : zRZ bB s2 := by
  obtain ⟨-, B, C, ⟨n, m, D, E⟩, I⟩ := H
  have e7 : s2 7 8 = s 7 8 := by rw [f 7 (by decide) (by decide) (by decide) (by decide)]
  have f' : ∀ x, (10 ≤ x ∧ x ≤ 343) ∨ 346 ≤ x → s2 x = s x := fun x hx => f x (by omega) (by omega) (by omega) (by omega)
  exact ⟨hA, zgB_c B h6 e7 (fun x x1 x2 => f' x (by omega)) (fun x x1 x2 => f' x (by omega)) (g 2 (by decide)), zgC_c C e7 (by rw [f' 10 (by omega)]) (by rw [f' 10 (by omega)]) (g 21 (by decide)) (g 22 (by decide)), ⟨n, m, zgD_c D (fun x x1 x2 => f' x (by omega)) (by rw [f' 10 (by omega)]) (f' 354 (by omega)), zgE_c E (by rw [f' 40 (by omega)]) (by rw [f' 40 (by omega)]) (fun x x1 x2 => f' x (by omega)) (g 26 (by decide)) (f' 356 (by omega)) (f' 354 (by omega))⟩, zgF_c I (by rw [e7]; exact Int.le_refl _) (fun x x1 x2 => f' x (by omega)) (fun x x1 x2 => f' x (by omega))⟩
theorem zA_feed (H : zRZ bB s) (h6 : s 7 8 ≤ 6) (h0 : 0 ≤ s 8 1) (h4 : s 8 1 ≤ 400) : ∃ r s1 s2, zE xm_c88 [7, x1, x2, x3, x4, x5] s r s1 ∧ zE xm_c129 [344, x1, x2, x3, x4, x5] s1 r s2 ∧ zRZ bB s2 := by
  obtain ⟨a1, a2⟩ := H.1
  have l2 : zfe 8 s x1 x2 x3 x4 x5 344 = s 344 := zfe_o (by decide) (by decide)
  have l3 : zfe 8 s x1 x2 x3 x4 x5 345 = s 345 := zfe_o (by decide) (by decide)
  have h : zTp 8 344 s (zfe 8 s x1 x2 x3 x4 x5) := ⟨by rw [l2, a1], h0, fun k hk => by
    show s 9 k = zfe 8 s x1 x2 x3 x4 x5 345 k
    rw [l3]
    exact a2 k hk⟩
  obtain ⟨b1, -, b2⟩ := zTp_fe (x1 := x1) (x2 := x2) (x3 := x3) (x4 := x4) (x5 := x5) h
  have r1 : zfe 344 (zfe 8 s x1 x2 x3 x4 x5) x1 x2 x3 x4 x5 8 = zfe 8 s x1 x2 x3 x4 x5 8 := zfe_o (by decide) (by decide)
  have r2 : zfe 344 (zfe 8 s x1 x2 x3 x4 x5) x1 x2 x3 x4 x5 9 = zfe 8 s x1 x2 x3 x4 x5 9 := zfe_o (by decide) (by decide)
  have q := zr_feed (s := zfe 8 s x1 x2 x3 x4 x5) (x1 := x1) (x2 := x2) (x3 := x3) (x4 := x4) (x5 := x5) (by rw [l2, ← a1]; exact h0) (by rw [l2, ← a1]; exact h4)
  have e : zfr 344 (zfe 8 s x1 x2 x3 x4 x5) (zfe 344 (zfe 8 s x1 x2 x3 x4 x5) x1 x2 x3 x4 x5) = zfr 8 s (zfe 8 s x1 x2 x3 x4 x5) := by
    unfold zfr
    rw [l2, ← a1, b1]
  rw [e] at q
  refine ⟨_, _, _, zo_feed h0 h4, q, zRZ_A H h6 (fun x y1 y2 y3 y4 => by rw [zfe_o y3 y4, zfe_o y1 y2]) (fun y hy => by rw [zfe_p hy, l2]) ⟨?_, fun k hk => ?_⟩⟩
  · rw [r1]
    exact b1
  · rw [r2]
    exact b2 k hk
theorem zA_end (H : zRZ bB s) (h6 : s 7 8 ≤ 6) : ∃ r s1 s2, zE xm_c89 [7, x] s r s1 ∧ zE xm_c130 [344, x] s1 r s2 ∧ zRZ bB s2 := by
  obtain ⟨a1, a2⟩ := H.1
  have o : ∀ (a : Int) (s : zS) (y : Int), y ≠ a → zen a s x y = s y := fun a s y hy => by
    unfold zen
    by_cases c : x < 0 ∨ s a 1 < x
    · rw [if_pos c]
    · rw [if_neg c]
      exact funext (fun z => zu_cell hy)
  have p : ∀ (a : Int) (s : zS) (y : Int), y ≠ 1 → zen a s x a y = s a y := fun a s y hy => by
    unfold zen
    by_cases c : x < 0 ∨ s a 1 < x
    · rw [if_pos c]
    · rw [if_neg c, zu_place hy]
  have l2 : zen 8 s x 344 = s 344 := o 8 s 344 (by decide)
  have q := zr_end (s := zen 8 s x) (x := x)
  have e : zer 344 (zen 8 s x) x = zer 8 s x := by
    unfold zer
    rw [l2, a1]
  rw [e] at q
  refine ⟨_, _, _, zo_end, q, zRZ_A H h6 (fun y y1 y2 y3 y4 => by rw [o 344 _ y y3, o 8 s y y1]) (fun y hy => by rw [p 344 _ y hy, l2]) ⟨?_, fun k hk => ?_⟩⟩
  · rw [o 344 _ 8 (by decide), zen_1, zen_1, l2, a1]
  · rw [o 344 _ 9 (by decide), o 344 _ 345 (by decide), o 8 s 9 (by decide), o 8 s 345 (by decide)]
    exact a2 k hk
/-- the rule in force and the seed alone are otherwise -/
theorem zRZ_C (H : zRZ bB s) (h6 : s 7 8 ≤ 6) (f : ∀ x, x ≠ 10 → x ≠ 344 → s2 x = s x) (g5 : s2 10 5 = s 10 5) (g : ∀ y, y ≠ 21 → y ≠ 22 → s2 344 y = s 344 y) (hC : zgC s2) : zRZ bB s2 := by
  obtain ⟨A, B, -, ⟨n, m, D, E⟩, I⟩ := H
  have e7 : s2 7 8 = s 7 8 := by rw [f 7 (by decide) (by decide)]
  have f' : ∀ x, x < 10 ∨ (11 ≤ x ∧ x ≤ 343) ∨ 345 ≤ x → s2 x = s x := fun x hx => f x (by omega) (by omega)
  exact ⟨zgA_c A (by rw [f' 8 (by omega)]) (f' 9 (by omega)) (g 1 (by decide) (by decide)) (f' 345 (by omega)), zgB_c B h6 e7 (fun x x1 x2 => f' x (by omega)) (fun x x1 x2 => f' x (by omega)) (g 2 (by decide) (by decide)), hC, ⟨n, m, zgD_c D (fun x x1 x2 => f' x (by omega)) g5 (f' 354 (by omega)), zgE_c E (by rw [f' 40 (by omega)]) (by rw [f' 40 (by omega)]) (fun x x1 x2 => f' x (by omega)) (g 26 (by decide) (by decide)) (f' 356 (by omega)) (f' 354 (by omega))⟩, zgF_c I (by rw [e7]; exact Int.le_refl _) (fun x x1 x2 => f' x (by omega)) (fun x x1 x2 => f' x (by omega))⟩
theorem zA_force (H : zRZ bB s) (h6 : s 7 8 ≤ 6) : ∃ r s1 s2, zE xm_c92 [7, x, 0] s r s1 ∧ zE xm_c183 [344, x, 0] s1 r s2 ∧ zRZ bB s2 := by
  have hb := H.2.1.1
  obtain ⟨c1, ⟨c2, c3⟩, c4⟩ := H.2.2.1
  have o : ∀ (a i c k : Int) (s : zS) (y : Int), y ≠ a → zfo a i c k s x y = s y := fun a i c k s y hy => by
    unfold zfo
    by_cases w : x = -1 ∨ (0 ≤ x ∧ x < s c k)
    · rw [if_pos w]
      exact funext (fun z => zu_cell hy)
    · rw [if_neg w]
  have p : ∀ (a i c k : Int) (s : zS) (y : Int), y ≠ i → zfo a i c k s x a y = s a y := fun a i c k s y hy => by
    unfold zfo
    by_cases w : x = -1 ∨ (0 ≤ x ∧ x < s c k)
    · rw [if_pos w, zu_place hy]
    · rw [if_neg w]
  have l2 : zfo 10 6 7 8 s x 344 = s 344 := o 10 6 7 8 s 344 (by decide)
  have q := zr_force (s := zfo 10 6 7 8 s x) (x := x)
  have e : zfq 344 21 344 2 (zfo 10 6 7 8 s x) x = zfq 10 6 7 8 s x := by
    unfold zfq
    rw [l2, hb, c1]
  rw [e] at q
  have v1 : zfo 10 6 7 8 s x 10 6 = if x = -1 ∨ (0 ≤ x ∧ x < s 7 8) then x else s 10 6 := by
    unfold zfo
    by_cases w : x = -1 ∨ (0 ≤ x ∧ x < s 7 8)
    · rw [if_pos w, if_pos w, zu_hit]
    · rw [if_neg w, if_neg w]
  have v2 : zfo 344 21 344 2 (zfo 10 6 7 8 s x) x 344 21 = if x = -1 ∨ (0 ≤ x ∧ x < s 7 8) then x else s 10 6 := by
    have hb2 : zfo 10 6 7 8 s x 344 2 = s 7 8 := by rw [l2, hb]
    unfold zfo at hb2 ⊢
    rw [hb2]
    by_cases w : x = -1 ∨ (0 ≤ x ∧ x < s 7 8)
    · rw [if_pos w, if_pos w, if_pos w, zu_hit]
    · rw [if_neg w, if_neg w, if_neg w, ← c1]
  refine ⟨_, _, _, zo_force, q, zRZ_C H h6 (fun y y1 y2 => by rw [o 344 21 344 2 _ y y2, o 10 6 7 8 s y y1]) (by rw [o 344 21 344 2 _ 10 (by decide), p 10 6 7 8 s 5 (by decide)]) (fun y y1 y2 => by rw [p 344 21 344 2 _ y y1, l2]) ⟨?_, ⟨?_, ?_⟩, ?_⟩⟩
  · rw [o 344 21 344 2 _ 10 (by decide), v1, v2]
  · rw [o 344 21 344 2 _ 10 (by decide), v1]
    by_cases w : x = -1 ∨ (0 ≤ x ∧ x < s 7 8)
    · rw [if_pos w]; omega
    · rw [if_neg w]; exact c2
  · rw [o 344 21 344 2 _ 10 (by decide), v1, o 344 21 344 2 _ 7 (by decide), o 10 6 7 8 s 7 (by decide)]
    by_cases w : x = -1 ∨ (0 ≤ x ∧ x < s 7 8)
    · rw [if_pos w]; omega
    · rw [if_neg w]; exact c3
  · rw [o 344 21 344 2 _ 10 (by decide), p 10 6 7 8 s 7 (by decide), p 344 21 344 2 _ 22 (by decide), l2]
    exact c4
theorem zA_seed (H : zRZ bB s) (h6 : s 7 8 ≤ 6) : ∃ r s1 s2, zE xm_c113 [7, x, 0] s r s1 ∧ zE xm_c231 [344, x, 0] s1 r s2 ∧ zRZ bB s2 := by
  obtain ⟨c1, c2, c4⟩ := H.2.2.1
  by_cases c : x < 0
  · exact zRZ_r H (r := -1) (zb_113_0 (fun _ => zb_113_2 rfl) (fun q => absurd c q)) (zb_231_0 (fun _ => zb_231_2 rfl) (fun q => absurd c q))
  · refine ⟨s 10 7, zu s 10 7 x, zu (zu s 10 7 x) 344 22 x, zb_113_0 (fun q => absurd q c) (fun _ => zb_113_4 rfl), zb_231_0 (fun q => absurd q c) (fun _ => zb_231_4 (Prod.ext ?_ rfl)), zRZ_C H h6 (fun y y1 y2 => funext (fun z => by rw [zu_cell y2, zu_cell y1])) (by rw [zu_cell (by decide), zu_place (by decide)]) (fun y y1 y2 => by rw [zu_place y2, zu_cell (by decide)]) ⟨?_, ?_, ?_⟩⟩
    · show zu s 10 7 x 344 22 = s 10 7
      rw [zu_cell (by decide), c4]
    · rw [zu_cell (by decide), zu_place (by decide), zu_place (by decide), zu_cell (by decide), c1]
    · rw [zu_cell (by decide), zu_place (by decide), zu_cell (by decide), zu_cell (by decide)]
      exact c2
    · rw [zu_cell (by decide), zu_hit, zu_hit]
end JA
