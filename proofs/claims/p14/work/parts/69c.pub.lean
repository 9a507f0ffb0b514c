/-! the tape filled, on both sides; the last call of rule -/
def zap (a : Int) (s : zS) (v : Int) : zS := zu (zu s (a + 1) (s a 1) v) a 1 (zw ((zu s (a + 1) (s a 1) v) a 1 + 1))
theorem zap_1 {a v : Int} {s : zS} (h0 : 0 ≤ s a 1) (h1 : s a 1 < 400) : zap a s v a 1 = s a 1 + 1 := by
  unfold zap
  rw [zu_hit, zu_cell (by omega), zw_id (by omega) (by omega)]
theorem zap_b {a v k : Int} {s : zS} : zap a s v (a + 1) k = if k = s a 1 then v else s (a + 1) k := by
  unfold zap
  rw [zu_cell (by omega)]
  unfold zu
  by_cases e : k = s a 1
  · rw [if_pos ⟨rfl, e⟩, if_pos e]
  · rw [if_neg (fun q => e q.2), if_neg e]
def zby (x k : Int) : Int := zb (zb (zshr x k))
def zap4 (a : Int) (s : zS) (x : Int) : zS := zap a (zap a (zap a (zap a s (zby x 24)) (zby x 16)) (zby x 8)) (zby x 0)
def zwl (l : List Int) : List Int := l.flatMap (fun x => [zby x 24, zby x 16, zby x 8, zby x 0])
/-- what is on the two tapes -/
def zTp (a b : Int) (s s' : zS) : Prop := s a 1 = s' b 1 ∧ 0 ≤ s a 1 ∧ ∀ k : Nat, k < 400 → s (a + 1) k = s' (b + 1) k
theorem zTp_ap {a b v : Int} {s s' : zS} (h : zTp a b s s') (h1 : s a 1 < 400) : zTp a b (zap a s v) (zap b s' v) ∧ zap a s v a 1 = s a 1 + 1 := by
  obtain ⟨e, h0, hk⟩ := h
  have e1 := zap_1 (v := v) h0 h1
  refine ⟨⟨by rw [e1, zap_1 (by omega) (by omega), e], by omega, fun k h => ?_⟩, e1⟩
  rw [zap_b, zap_b, e, hk k h]
theorem zTp_ap4 {a b x : Int} {s s' : zS} (h : zTp a b s s') (h1 : s a 1 + 4 ≤ 400) : zTp a b (zap4 a s x) (zap4 b s' x) ∧ zap4 a s x a 1 = s a 1 + 4 := by
  obtain ⟨a1, b1⟩ := zTp_ap (v := zby x 24) h (by omega)
  obtain ⟨a2, b2⟩ := zTp_ap (v := zby x 16) a1 (by omega)
  obtain ⟨a3, b3⟩ := zTp_ap (v := zby x 8) a2 (by omega)
  obtain ⟨a4, b4⟩ := zTp_ap (v := zby x 0) a3 (by omega)
  exact ⟨a4, by show zap _ _ _ _ _ = _; omega⟩
theorem zo_append {s : zS} {x : Int} (h0 : 0 ≤ s 8 1) (h1 : s 8 1 + 4 ≤ 400) : zE xm_c79 [8, x, 0] s 0 (zap4 8 s x) := by
  have e1 := zap_1 (v := zby x 24) h0 (by omega)
  have e2 := zap_1 (a := 8) (v := zby x 16) (s := zap 8 s (zby x 24)) (by omega) (by omega)
  have e3 := zap_1 (a := 8) (v := zby x 8) (s := zap 8 (zap 8 s (zby x 24)) (zby x 16)) (by omega) (by omega)
  refine zb_79_0 (zb_79_2 (fun q => absurd q (by decide)) (fun _ => zb_79_4 (fun _ => zb_79_8 ?_) (fun q => absurd (by omega) q)))
  rw [show zw (24 + (-8)) = 16 from rfl]
  refine zb_79_2 (fun q => absurd q (by decide)) (fun _ => zb_79_4 (fun _ => zb_79_8 ?_) (fun q => absurd (show zap 8 s (zby x 24) 8 1 < 400 by omega) q))
  rw [show zw (16 + (-8)) = 8 from rfl]
  refine zb_79_2 (fun q => absurd q (by decide)) (fun _ => zb_79_4 (fun _ => zb_79_8 ?_) (fun q => absurd (show zap 8 (zap 8 s (zby x 24)) (zby x 16) 8 1 < 400 by omega) q))
  rw [show zw (8 + (-8)) = 0 from rfl]
  refine zb_79_2 (fun q => absurd q (by decide)) (fun _ => zb_79_4 (fun _ => zb_79_8 ?_) (fun q => absurd (show zap 8 (zap 8 (zap 8 s (zby x 24)) (zby x 16)) (zby x 8) 8 1 < 400 by omega) q))
  rw [show zw (0 + (-8)) = -8 from rfl]
  exact zb_79_2 (fun _ => zb_79_25 rfl) (fun q => absurd (by decide) q)
theorem zo_four {s : zS} {x : Int} : zE xm_c128 [344, x, 0] s 0 (zap4 344 s x) := by
  refine zb_128_0 (zb_128_2 (fun q => absurd q (by decide)) (fun _ => zb_128_4 ?_))
  rw [show zw (24 + (-8)) = 16 from rfl]
  refine zb_128_2 (fun q => absurd q (by decide)) (fun _ => zb_128_4 ?_)
  rw [show zw (16 + (-8)) = 8 from rfl]
  refine zb_128_2 (fun q => absurd q (by decide)) (fun _ => zb_128_4 ?_)
  rw [show zw (8 + (-8)) = 0 from rfl]
  refine zb_128_2 (fun q => absurd q (by decide)) (fun _ => zb_128_4 ?_)
  rw [show zw (0 + (-8)) = -8 from rfl]
  exact zb_128_2 (fun _ => zb_128_21 rfl) (fun q => absurd (by decide) q)
/-- feed -/
def zfe (a : Int) (s : zS) (x1 x2 x3 x4 x5 : Int) : zS := if 400 < s a 1 + 20 then s else zap4 a (zap4 a (zap4 a (zap4 a (zap4 a s x1) x2) x3) x4) x5
theorem zTp_fe {a b x1 x2 x3 x4 x5 : Int} {s s' : zS} (h : zTp a b s s') : zTp a b (zfe a s x1 x2 x3 x4 x5) (zfe b s' x1 x2 x3 x4 x5) := by
  unfold zfe
  rw [← h.1]
  by_cases e : 400 < s a 1 + 20
  · rw [if_pos e, if_pos e]
    exact h
  · rw [if_neg e, if_neg e]
    obtain ⟨a1, b1⟩ := zTp_ap4 (x := x1) h (by omega)
    obtain ⟨a2, b2⟩ := zTp_ap4 (x := x2) a1 (by omega)
    obtain ⟨a3, b3⟩ := zTp_ap4 (x := x3) a2 (by omega)
    obtain ⟨a4, b4⟩ := zTp_ap4 (x := x4) a3 (by omega)
    exact (zTp_ap4 (x := x5) a4 (by omega)).1
def zfr (a : Int) (s s1 : zS) : Int := if 400 < s a 1 + 20 then -1 else s1 a 1
theorem zo_feed {s : zS} {x1 x2 x3 x4 x5 : Int} (h0 : 0 ≤ s 8 1) (h1 : s 8 1 ≤ 400) : zE xm_c88 [7, x1, x2, x3, x4, x5] s (zfr 8 s (zfe 8 s x1 x2 x3 x4 x5)) (zfe 8 s x1 x2 x3 x4 x5) := by
  have e : zw (s 8 1 + 20) = s 8 1 + 20 := zw_id (by omega) (by omega)
  have hs : zTp 8 8 s s := ⟨rfl, h0, fun _ _ => rfl⟩
  unfold zfr zfe
  refine zb_88_0 (fun q => ?_) (fun q => ?_)
  · replace q : 400 < zw (s 8 1 + 20) := q
    rw [e] at q
    rw [if_pos q, if_pos q]
    exact zb_88_7 rfl
  · replace q : ¬ 400 < zw (s 8 1 + 20) := q
    rw [e] at q
    rw [if_neg q, if_neg q]
    obtain ⟨a1, b1⟩ := zTp_ap4 (x := x1) hs (by omega)
    obtain ⟨a2, b2⟩ := zTp_ap4 (x := x2) a1 (by omega)
    obtain ⟨a3, b3⟩ := zTp_ap4 (x := x3) a2 (by omega)
    obtain ⟨a4, b4⟩ := zTp_ap4 (x := x4) a3 (by omega)
    exact zb_88_9 (zo_append h0 (by omega)) (zb_88_13 (zo_append a1.2.1 (by omega)) (zb_88_17 (zo_append a2.2.1 (by omega)) (zb_88_21 (zo_append a3.2.1 (by omega)) (zb_88_25 (zo_append a4.2.1 (by omega)) (zb_88_29 rfl)))))
theorem zr_feed {s : zS} {x1 x2 x3 x4 x5 : Int} (h0 : 0 ≤ s 344 1) (h1 : s 344 1 ≤ 400) : zE xm_c129 [344, x1, x2, x3, x4, x5] s (zfr 344 s (zfe 344 s x1 x2 x3 x4 x5)) (zfe 344 s x1 x2 x3 x4 x5) := by
  have e : zw (s 344 1 + 20) = s 344 1 + 20 := zw_id (by omega) (by omega)
  unfold zfr zfe
  refine zb_129_0 (fun q => ?_) (fun q => ?_)
  · rw [e] at q
    rw [if_pos q, if_pos q]
    exact zb_129_6 rfl
  · rw [e] at q
    rw [if_neg q, if_neg q]
    exact zb_129_8 zo_four (zb_129_11 zo_four (zb_129_14 zo_four (zb_129_17 zo_four (zb_129_20 zo_four (zb_129_23 rfl)))))
/-- end -/
def zen (a : Int) (s : zS) (x : Int) : zS := if x < 0 ∨ s a 1 < x then s else zu s a 1 x
def zer (a : Int) (s : zS) (x : Int) : Int := if x < 0 ∨ s a 1 < x then -1 else x
theorem zo_end {s : zS} {x : Int} : zE xm_c89 [7, x] s (zer 8 s x) (zen 8 s x) := by
  unfold zer zen
  refine zb_89_0 (fun q => ?_) (fun q => zb_89_2 (fun q' => ?_) (fun q' => ?_))
  · rw [if_pos (Or.inl q), if_pos (Or.inl q)]
    exact zb_89_7 rfl
  · replace q' : s 8 1 < x := q'
    rw [if_pos (Or.inr q'), if_pos (Or.inr q')]
    exact zb_89_7 rfl
  · replace q' : ¬ s 8 1 < x := q'
    have e : ¬ (x < 0 ∨ s 8 1 < x) := fun h => h.elim q q'
    rw [if_neg e, if_neg e]
    exact zb_89_9 rfl
theorem zr_end {s : zS} {x : Int} : zE xm_c130 [344, x] s (zer 344 s x) (zen 344 s x) := by
  unfold zer zen
  refine zb_130_0 (fun q => ?_) (fun q => zb_130_2 (fun q' => ?_) (fun q' => ?_))
  · rw [if_pos (Or.inl q), if_pos (Or.inl q)]
    exact zb_130_6 rfl
  · rw [if_pos (Or.inr q'), if_pos (Or.inr q')]
    exact zb_130_6 rfl
  · have e : ¬ (x < 0 ∨ s 344 1 < x) := fun h => h.elim q q'
    rw [if_neg e, if_neg e]
    exact zb_130_8 rfl
theorem zen_1 {a x : Int} {s : zS} : zen a s x a 1 = if x < 0 ∨ s a 1 < x then s a 1 else x := by
  unfold zen
  split
  · rfl
  · exact zu_hit
/-- force -/
def zfo (a i c k : Int) (s : zS) (x : Int) : zS := if x = -1 ∨ (0 ≤ x ∧ x < s c k) then zu s a i x else s
def zfq (a i c k : Int) (s : zS) (x : Int) : Int := if x = -1 ∨ (0 ≤ x ∧ x < s c k) then s a i else -2
theorem zo_force {s : zS} {x : Int} : zE xm_c92 [7, x, 0] s (zfq 10 6 7 8 s x) (zfo 10 6 7 8 s x) := by
  unfold zfq zfo
  refine zb_92_0 (fun q => ?_) (fun q => zb_92_3 (fun q' => ?_) (fun q' => zb_92_5 (fun q2 => ?_) (fun q2 => ?_)))
  · rw [if_pos (Or.inl q), if_pos (Or.inl q)]
    exact zb_92_11 rfl
  · have e : ¬ (x = -1 ∨ (0 ≤ x ∧ x < s 7 8)) := fun h => h.elim q (fun h => by omega)
    rw [if_neg e, if_neg e]
    exact zb_92_9 rfl
  · have e : x = -1 ∨ (0 ≤ x ∧ x < s 7 8) := Or.inr ⟨by omega, q2⟩
    rw [if_pos e, if_pos e]
    exact zb_92_11 rfl
  · have e : ¬ (x = -1 ∨ (0 ≤ x ∧ x < s 7 8)) := fun h => h.elim q (fun h => q2 h.2)
    rw [if_neg e, if_neg e]
    exact zb_92_9 rfl
theorem zr_force {s : zS} {x : Int} : zE xm_c183 [344, x, 0] s (zfq 344 21 344 2 s x) (zfo 344 21 344 2 s x) := by
  unfold zfq zfo
  refine zb_183_0 (fun q => ?_) (fun q => ?_)
  · rw [if_pos (Or.inl q), if_pos (Or.inl q)]
    exact zb_183_9 rfl
  · by_cases e : 0 ≤ x ∧ x < s 344 2
    · rw [if_pos (Or.inr e), if_pos (Or.inr e)]
      exact zb_183_3 (zb_170_0 (fun q' => absurd q' (by omega)) (fun _ => zb_170_2 (fun _ => zb_170_6 rfl) (fun q' => absurd e.2 q'))) (zb_183_6 (fun q' => absurd q' (by decide)) (fun _ => zb_183_9 rfl))
    · have e' : ¬ (x = -1 ∨ (0 ≤ x ∧ x < s 344 2)) := fun h => h.elim q e
      rw [if_neg e', if_neg e']
      refine zb_183_3 (r := 0) (s1 := s) (zb_170_0 (fun _ => zb_170_8 rfl) (fun q1 => zb_170_2 (fun q2 => absurd ⟨by omega, q2⟩ e) (fun _ => zb_170_8 rfl))) (zb_183_6 (fun _ => zb_183_7 rfl) (fun q' => absurd rfl q'))
theorem zfo_1 {a i c k x : Int} {s : zS} : zfo a i c k s x a i = if x = -1 ∨ (0 ≤ x ∧ x < s c k) then x else s a i := by
  unfold zfo
  split
  · exact zu_hit
  · rfl
