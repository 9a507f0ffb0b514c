/-! the class's reader of houses: all clauses -/
section CL
variable {s0 s : zS} {T l : Int} {R : zHS}
theorem zc_over (hr : zHr R s) (hwf : zhwf l R) {w : Int} (hw0 : 0 ≤ w) (hw : w ≤ 10) : zE xm_c31 [w, 30] s (if (w = 1 ∧ R 1 = 7) ∨ (w = 2 ∧ R 2 = 10) ∨ (w = 3 ∧ R 3 = 6) ∨ (w = 8 ∧ 0 ≤ R 5) ∨ (w = 10 ∧ 0 ≤ R 6) then 1 else 0) s := by
  obtain ⟨w0, w1, w2, w3, w4, w5, w6⟩ := hwf
  obtain ⟨⟨r0, r1, r2, r3⟩, r5, r6, r7, -⟩ := hr
  have no : ∀ (w : Int), zA xm_c31 42 [w, 30] [] s (0, s) := fun w => zb_31_42 rfl
  rcases (show w = 0 ∨ w = 1 ∨ w = 2 ∨ w = 3 ∨ w = 4 ∨ w = 5 ∨ w = 6 ∨ w = 7 ∨ w = 8 ∨ w = 9 ∨ w = 10 by omega) with rfl | rfl | rfl | rfl | rfl | rfl | rfl | rfl | rfl | rfl | rfl
  · rw [if_neg (by omega)]
    exact zb_31_0 (zb_31_1_d (by decide) (no _))
  · by_cases e : R 1 = 7
    · rw [if_pos (by omega)]
      exact zb_31_0 (zb_31_1_c1 rfl (zb_31_2 (fun q => absurd q (by rw [r1]; omega)) (fun _ => zb_31_6 rfl)))
    · rw [if_neg (by omega)]
      exact zb_31_0 (zb_31_1_c1 rfl (zb_31_2 (fun _ => zb_31_8 rfl) (fun q => absurd (show s 30 1 < 7 by rw [r1]; omega) q)))
  · by_cases e : R 2 = 10
    · rw [if_pos (by omega)]
      exact zb_31_0 (zb_31_1_c2 rfl (zb_31_10 (fun q => absurd q (by rw [r2]; omega)) (fun _ => zb_31_14 rfl)))
    · rw [if_neg (by omega)]
      exact zb_31_0 (zb_31_1_c2 rfl (zb_31_10 (fun _ => zb_31_16 rfl) (fun q => absurd (show s 30 2 < 10 by rw [r2]; omega) q)))
  · by_cases e : R 3 = 6
    · rw [if_pos (by omega)]
      exact zb_31_0 (zb_31_1_c3 rfl (zb_31_18 (fun q => absurd q (by rw [r3]; omega)) (fun _ => zb_31_22 rfl)))
    · rw [if_neg (by omega)]
      exact zb_31_0 (zb_31_1_c3 rfl (zb_31_18 (fun _ => zb_31_24 rfl) (fun q => absurd (show s 30 3 < 6 by rw [r3]; omega) q)))
  · rw [if_neg (by omega)]
    exact zb_31_0 (zb_31_1_c4 rfl (no _))
  · rw [if_neg (by omega)]
    exact zb_31_0 (zb_31_1_c5 rfl (no _))
  · rw [if_neg (by omega)]
    exact zb_31_0 (zb_31_1_c6 rfl (no _))
  · rw [if_neg (by omega)]
    exact zb_31_0 (zb_31_1_c7 rfl (no _))
  · by_cases e : 0 ≤ R 5
    · rw [if_pos (by omega)]
      exact zb_31_0 (zb_31_1_c8 rfl (zb_31_26 (fun q => absurd q (by rw [r5]; omega)) (fun _ => zb_31_30 rfl)))
    · rw [if_neg (by omega)]
      exact zb_31_0 (zb_31_1_c8 rfl (zb_31_26 (fun _ => zb_31_32 rfl) (fun q => absurd (show s 30 7 = -1 by rw [r5]; omega) q)))
  · rw [if_neg (by omega)]
    exact zb_31_0 (zb_31_1_c9 rfl (no _))
  · by_cases e : 0 ≤ R 6
    · rw [if_pos (by omega)]
      exact zb_31_0 (zb_31_1_c10 rfl (zb_31_34 (fun q => absurd q (by rw [r7]; omega)) (fun _ => zb_31_38 rfl)))
    · rw [if_neg (by omega)]
      exact zb_31_0 (zb_31_1_c10 rfl (zb_31_34 (fun _ => zb_31_40 rfl) (fun q => absurd (show s 30 9 = -1 by rw [r7]; omega) q)))
/-- HouseReader.readClause -/
theorem zc_clause (hc : zCh s0 T) {p l : Int} (h : zCs s0 T (.inl (p, R)) s) (hwf : zhwf l R) (hl : l ≤ 40) : ∃ s', zE xm_c30 [8, 30, l, 0] s 0 s' ∧ zCs s0 T (zhl (s0 9) T l p R) s' := by
  have hw := zc_word hc h
  have wr := zhw_r (b := s0 9) (T := T) (p := p)
  have h0 := h.1
  unfold zhl
  generalize zhw (s0 9) T p = w at hw wr ⊢
  by_cases e : w = -1
  · rw [if_pos e]
    obtain ⟨s2, f1, f2⟩ := zc_fail hc h (c := 0) (by omega) (by omega)
    exact ⟨s2, zb_30_0 hw (zb_30_3 (fun _ => zb_30_7 f1 (zb_30_10 rfl)) (fun q => absurd e q)), f2⟩
  · rw [if_neg e]
    have pre : ∀ (R' : Int × zS), zA xm_c30 11 [8, 30, l, w] [] s R' → zE xm_c30 [8, 30, l, 0] s R'.1 R'.2 := fun R' z => zb_30_0 hw (zb_30_3 (fun q => absurd q e) (fun _ => z))
    have hw0 : 0 ≤ w := by omega
    have hw10 : w ≤ 10 := by omega
    have over := zc_over (R := R) h.hr hwf (w := w) hw0 hw10
    obtain ⟨s2, f1, f2⟩ := zc_fail hc h (c := 4) (by omega) (by omega)
    have p29 : zA xm_c30 29 [8, 30, l, w] [] s (0, s2) := zb_30_29 f1 (zb_30_32 rfl)
    by_cases eo : zhov w l R
    · rw [if_pos eo]
      refine ⟨s2, pre (0, s2) ?_, f2⟩
      have w1 := hwf.2.1
      by_cases e40 : l < 40
      · refine zb_30_11 (fun _ => ?_) (fun q => absurd e40 q)
        have t25 : (w = 0 ↔ l = 0) → zA xm_c30 25 [8, 30, l, w] [] s (0, s2) := by
          intro q
          have : (w = 1 ∧ R 1 = 7) ∨ (w = 2 ∧ R 2 = 10) ∨ (w = 3 ∧ R 3 = 6) ∨ (w = 8 ∧ 0 ≤ R 5) ∨ (w = 10 ∧ 0 ≤ R 6) := by
            rcases eo with z | z | z | z
            · omega
            · omega
            · omega
            · exact z
          rw [if_pos this] at over
          exact zb_30_25 over (zb_30_28 (fun z => absurd z (by decide)) (fun _ => p29))
        by_cases ew : w = 0
        · by_cases el : l = 0
          · exact zb_30_14 (fun _ => zb_30_16 (fun _ => zb_30_21 (fun _ => t25 (by omega)) (fun z => absurd rfl z)) (fun z => absurd el z)) (fun z => absurd ew z)
          · exact zb_30_14 (fun _ => zb_30_16 (fun z => absurd z el) (fun _ => zb_30_23 (fun z => absurd z (by decide)) (fun _ => p29))) (fun z => absurd ew z)
        · by_cases el : l = 0
          · exact zb_30_14 (fun z => absurd z ew) (fun _ => zb_30_18 (fun _ => zb_30_21 (fun z => absurd z (by decide)) (fun _ => p29)) (fun z => absurd el z))
          · exact zb_30_14 (fun z => absurd z ew) (fun _ => zb_30_18 (fun z => absurd z el) (fun _ => zb_30_23 (fun _ => t25 (by omega)) (fun z => absurd rfl z)))
      · exact zb_30_11 (fun q => absurd q e40) (fun _ => p29)
    · rw [if_neg eo]
      have w1 := hwf.2.1
      have e40 : l < 40 := by
        have : l ≠ 40 := fun q => eo (Or.inl q)
        omega
      have nv : ¬ ((w = 1 ∧ R 1 = 7) ∨ (w = 2 ∧ R 2 = 10) ∨ (w = 3 ∧ R 3 = 6) ∨ (w = 8 ∧ 0 ≤ R 5) ∨ (w = 10 ∧ 0 ≤ R 6)) := fun q => eo (Or.inr (Or.inr (Or.inr q)))
      have nv2 : ¬ (w = 0 ∧ 0 < R 0) := fun q => eo (Or.inr (Or.inl q))
      have nv3 : ¬ (w ≠ 0 ∧ R 0 = 0) := fun q => eo (Or.inr (Or.inr (Or.inl q)))
      rw [if_neg nv] at over
      obtain ⟨s3, n1, n2⟩ := zc_next hc h
      have n2 : zCs s0 T (.inl (zg_nx (s0 9) T p, R)) s3 := n2
      obtain ⟨s4, g1, g2⟩ := zc_nums (s0 := s0) (T := T) (R := R) (p := zg_nx (s0 9) T p) (l := l) (s := s3) hc (w := w) hw0 hw10 n2 hwf eo
      have t25 : zA xm_c30 25 [8, 30, l, w] [] s (0, s4) := zb_30_25 over (zb_30_28 (fun _ => zb_30_33 n1 (zb_30_35 g1 (zb_30_39 rfl))) (fun z => absurd rfl z))
      refine ⟨s4, pre (0, s4) (zb_30_11 (fun _ => ?_) (fun q => absurd e40 q)), g2⟩
      have w00 := hwf.1
      by_cases ew : w = 0
      · have el : l = 0 := by omega
        exact zb_30_14 (fun _ => zb_30_16 (fun _ => zb_30_21 (fun _ => t25) (fun z => absurd rfl z)) (fun z => absurd el z)) (fun z => absurd ew z)
      · have el : ¬ l = 0 := by omega
        exact zb_30_14 (fun z => absurd z ew) (fun _ => zb_30_18 (fun z => absurd z el) (fun _ => zb_30_23 (fun _ => t25) (fun z => absurd rfl z)))
/-- with a fault, or with all told -/
def zCf (s0 : zS) (f : Int) (R : zHS) (s : zS) : Prop := s 8 5 = f ∧ (f = 0 → zHr R s) ∧ (∀ x y, x ≠ 8 → ¬ (30 ≤ x ∧ x < 38) → s x y = s0 x y)
theorem zCs.fin {p : Int} (h : zCs s0 T (.inl (p, R)) s) : zCf s0 0 R s := by
  refine ⟨h.f0, fun _ => h.hr, fun x y h1 h2 => ?_⟩
  obtain ⟨-, s1, e, -, hj⟩ := h
  rw [e, zT_o h1]
  exact hj.2 x y h1 h2
theorem zCs.finf {f : Int} (h : zCs s0 T (.inr f) s) : zCf s0 f R s := by
  refine ⟨h.ff, fun z => absurd z h.1, fun x y h1 h2 => ?_⟩
  obtain ⟨-, s1, p, e, hj⟩ := h
  rw [e, zT_o h1]
  exact hj.2 x y h1 h2
theorem zhl_ok {l p : Int} {z : Int × zHS} (hc : zCh s0 T) (hp : 0 ≤ p) (hpT : p ≤ T) (hwf : zhwf l R) (h : zhl (s0 9) T l p R = .inl z) : zhwf (l + 1) z.2 ∧ p ≤ z.1 ∧ z.1 ≤ T ∧ l ≠ 40 := by
  have wr := zhw_r (b := s0 9) (T := T) (p := p)
  have hn := zg_nx_le (b := s0 9) (T := T) (p := p) hc.1 hc.2.2.2 hp
  unfold zhl at h
  by_cases e : zhw (s0 9) T p = -1
  · rw [if_pos e] at h
    cases h
  · rw [if_neg e] at h
    by_cases eo : zhov (zhw (s0 9) T p) l R
    · rw [if_pos eo] at h
      cases h
    · rw [if_neg eo] at h
      have := zhc_ok hc.1 hc.2.2.2 (by omega) (hn.2.1 hpT) (by omega) wr.2 hwf eo h
      exact ⟨this.1, by omega, this.2.2, fun q => eo (Or.inl q)⟩
theorem zc_loop (hc : zCh s0 T) : ∀ (n : Nat) (p l : Int) (R : zHS) (s : zS), zCs s0 T (.inl (p, R)) s → zhwf l R → l ≤ 40 → (40 - l).toNat < n → ∃ f R' s', zhr (s0 9) T n l p R = some (f, R') ∧ zA xm_c29 8 [8, 30, 1, l] [] s (f, s') ∧ zCf s0 f R' s' := by
  intro n
  induction n with
  | zero =>
    intro p l R s h hwf hl hn
    omega
  | succ n ih =>
    intro p l R s h hwf hl hn
    obtain ⟨s1, c1, c2⟩ := zc_clause hc h hwf hl
    have h0 := h.1
    have w1 := hwf.2.1
    have hx : zw (l + 1) = l + 1 := zw_id (by omega) (by omega)
    have pre : ∀ (R' : Int × zS), zA xm_c29 17 [8, 30, 1, l] [] s1 R' → zA xm_c29 8 [8, 30, 1, l] [] s R' := fun R' z => zb_29_8 (fun q => absurd q (by decide)) (fun _ => zb_29_10 (fun q => absurd q (by omega)) (fun _ => zb_29_13 c1 z))
    have stop : ∀ (s2 : zS), zA xm_c29 19 [8, 30, 1, l] [(false, 0)] s2 (s2 8 5, s2) := fun s2 => zb_29_19 (zb_29_8 (fun _ => zb_29_22 rfl) (fun q => absurd rfl q))
    unfold zhr
    cases hz : zhl (s0 9) T l p R with
    | inr f =>
      rw [hz] at c2
      obtain ⟨s2, f1, f2⟩ := zc_faild c2 (c := 0)
      refine ⟨f, R, s2, rfl, pre (f, s2) (zb_29_17 (zb_86_0 (fun q => absurd (show s1 8 2 = 59 from q) (by rw [c2.kf]; decide)) (fun _ => zb_86_8 (fun q => absurd (show s1 8 2 = -1 from q) (by rw [c2.kf]; decide)) (fun _ => zb_86_12 f1 (zb_86_15 rfl)))) ?_), f2.finf⟩
      have := stop s2
      rw [f2.ff] at this
      exact this
    | inl z =>
      rw [hz] at c2
      have ok := zhl_ok hc h0.1 h0.2 hwf hz
      obtain ⟨q, R1⟩ := z
      have ok : zhwf (l + 1) R1 ∧ p ≤ q ∧ q ≤ T ∧ l ≠ 40 := ok
      have hk := c2.kd
      show ∃ f R' s', (if zg_kind (s0 9) T q = 59 then zhr (s0 9) T n (l + 1) (zg_nx (s0 9) T q) R1 else if zg_kind (s0 9) T q = -1 then some (0, R1) else some (1 + 8 * q + 0, R1)) = some (f, R') ∧ _
      by_cases e59 : zg_kind (s0 9) T q = 59
      · rw [if_pos e59]
        obtain ⟨s2, n1, n2⟩ := zc_next hc c2
        obtain ⟨f, R', s', u1, u2, u3⟩ := ih _ (l + 1) R1 s2 n2 ok.1 (by omega) (by omega)
        refine ⟨f, R', s', u1, pre _ (zb_29_17 (zb_86_0 (fun _ => zb_86_4 n1 (zb_86_6 rfl)) (fun q2 => absurd (show s1 8 2 = 59 by rw [hk]; exact e59) q2)) (zb_29_19 (by rw [hx]; exact u2))), u3⟩
      · rw [if_neg e59]
        by_cases em : zg_kind (s0 9) T q = -1
        · rw [if_pos em]
          refine ⟨0, R1, s1, rfl, pre _ (zb_29_17 (zb_86_0 (fun q2 => absurd (show s1 8 2 = 59 from q2) (by rw [hk]; exact e59)) (fun _ => zb_86_8 (fun _ => zb_86_15 rfl) (fun q2 => absurd (show s1 8 2 = -1 by rw [hk]; exact em) q2))) ?_), c2.fin⟩
          have := stop s1
          rw [c2.f0] at this
          exact this
        · rw [if_neg em]
          obtain ⟨s2, f1, f2⟩ := zc_fail hc c2 (c := 0) (by omega) (by omega)
          refine ⟨_, R1, s2, rfl, pre _ (zb_29_17 (zb_86_0 (fun q2 => absurd (show s1 8 2 = 59 from q2) (by rw [hk]; exact e59)) (fun _ => zb_86_8 (fun q2 => absurd (show s1 8 2 = -1 from q2) (by rw [hk]; exact em)) (fun _ => zb_86_12 f1 (zb_86_15 rfl)))) ?_), f2.finf⟩
          have := stop s2
          rw [f2.ff] at this
          exact this
/-- Arrays.fill -/
theorem zo_fill5 {j v L : Int} (hL : L ≤ 1000) : ∀ (n : Nat) (x : Int) (s : zS), (L - x).toNat ≤ n → 0 ≤ x → ∃ s', zA xm_c240 5 [j, v, x, L] [] s (0, s') ∧ (∀ a b, a ≠ j → s' a b = s a b) ∧ (∀ i, x ≤ i → i < L → s' j i = v) ∧ (∀ i, i < x → s' j i = s j i) := by
  intro n
  induction n with
  | zero =>
    intro x s hn hx
    exact ⟨s, zb_240_5 (fun q => absurd q (by omega)) (fun _ => zb_240_14 rfl), fun _ _ _ => rfl, fun i h1 h2 => by omega, fun _ _ => rfl⟩
  | succ n ih =>
    intro x s hn hx
    by_cases e : x < L
    · obtain ⟨s', u1, u2, u3, u4⟩ := ih (x + 1) (zu s j x v) (by omega) (by omega)
      have hz : zw (x + 1) = x + 1 := zw_id (by omega) (by omega)
      refine ⟨s', zb_240_5 (fun _ => zb_240_8 (by rw [hz]; exact u1)) (fun q => absurd e q), fun a b ha => by rw [u2 a b ha, zu_cell ha], fun i h1 h2 => ?_, fun i h1 => by rw [u4 i (by omega), zu_place (by omega)]⟩
      by_cases ei : i = x
      · subst ei
        rw [u4 i (by omega), zu_hit]
      · exact u3 i (by omega) h2
    · exact ⟨s, zb_240_5 (fun q => absurd q e) (fun _ => zb_240_14 rfl), fun _ _ _ => rfl, fun i h1 h2 => by omega, fun _ _ => rfl⟩
theorem zo_fill {j v L : Int} {s : zS} (hj : j ≠ 0) (hL : zw (zlen j) = L) (hL4 : L ≤ 1000) : ∃ s', zE xm_c240 [j, v, 0, 0] s 0 s' ∧ (∀ a b, a ≠ j → s' a b = s a b) ∧ (∀ i, 0 ≤ i → i < L → s' j i = v) := by
  obtain ⟨s', u1, u2, u3, -⟩ := zo_fill5 (j := j) (v := v) hL4 (L - 0).toNat 0 s (Nat.le_refl _) (Int.le_refl _)
  exact ⟨s', zb_240_0 (zb_240_3 hj (zb_240_4 (by rw [hL]; exact u1))), u2, u3⟩
theorem zlen_33 : zw (zlen 33) = 7 := by decide +kernel
theorem zlen_34 : zw (zlen 34) = 7 := by decide +kernel
/-- House.clear -/
theorem zc_clear (hR : R 0 = 0 ∧ R 1 = 0 ∧ R 2 = 0 ∧ R 3 = 0 ∧ R 5 = -1 ∧ R 6 = -1 ∧ R 7 = -1 ∧ R 4 = 0 ∧ R 8 = 0 ∧ R 9 = 0) : ∃ s', zE xm_c24 [30] s 0 s' ∧ zHr R s' ∧ ∀ x y, ¬ (30 ≤ x ∧ x < 38) → s' x y = s x y := by
  obtain ⟨s1, a1, a2, a3⟩ := zo_fill (j := 33) (v := 0) (s := zu (zu (zu (zu (zu (zu (zu (zu (zu (zu s 30 0 0) 30 1 0) 30 2 0) 30 3 0) 30 4 0) 30 5 0) 30 6 0) 30 7 (-1)) 30 8 (-1)) 30 9 (-1)) (by decide) zlen_33 (by decide)
  obtain ⟨s2, b1, b2, b3⟩ := zo_fill (j := 34) (v := 0) (s := s1) (by decide) zlen_34 (by decide)
  obtain ⟨r0, r1, r2, r3, r5, r6, r7, r4, r8, r9⟩ := hR
  have k : ∀ y, s2 30 y = (zu (zu (zu (zu (zu (zu (zu (zu (zu (zu s 30 0 0) 30 1 0) 30 2 0) 30 3 0) 30 4 0) 30 5 0) 30 6 0) 30 7 (-1)) 30 8 (-1)) 30 9 (-1)) 30 y := fun y => by rw [b2 30 y (by decide), a2 30 y (by decide)]
  refine ⟨s2, zb_24_0 a1 (zb_24_34 b1 (zb_24_38 rfl)), ⟨⟨?_, ?_, ?_, ?_⟩, ?_, ?_, ?_, ⟨?_, ?_⟩, fun p p7 => ?_, fun e he => absurd he (by rw [r2]; omega)⟩, fun x y hx => ?_⟩
  · rw [k, r0]
    rfl
  · rw [k, r1]
    rfl
  · rw [k, r2]
    rfl
  · rw [k, r3]
    rfl
  · rw [k, r5]
    rfl
  · rw [k, r6]
    rfl
  · rw [k, r7]
    rfl
  · rw [k, r8]
    rfl
  · rw [k, r9]
    rfl
  · have e33 : s2 33 ((p : Nat) : Int) = 0 := by rw [b2 33 _ (by decide), a3 _ (by omega) (by omega)]
    have e34 : s2 34 ((p : Nat) : Int) = 0 := b3 _ (by omega) (by omega)
    have e4 : s2 30 4 = 0 := by
      rw [k]
      rfl
    rw [e33, e34, e4, zbt_0, r1, if_neg (by omega), if_neg (by omega), if_neg (by omega)]
    exact ⟨fun q => absurd q (by omega), rfl, rfl, rfl⟩
  · rw [b2 x y (by omega), a2 x y (by omega)]
    have e : x ≠ 30 := by omega
    rw [zu_cell e, zu_cell e, zu_cell e, zu_cell e, zu_cell e, zu_cell e, zu_cell e, zu_cell e, zu_cell e, zu_cell e]
def zh0 (R : zHS) : Prop := R 0 = 0 ∧ R 1 = 0 ∧ R 2 = 0 ∧ R 3 = 0 ∧ R 5 = -1 ∧ R 6 = -1 ∧ R 7 = -1 ∧ R 4 = 0 ∧ R 8 = 0 ∧ R 9 = 0
theorem zh0_wf (h : zh0 R) : zhwf 0 R := by
  obtain ⟨r0, r1, r2, r3, r5, r6, r7, r4, -, -⟩ := h
  exact ⟨by omega, by omega, by omega, by omega, by omega, Or.inl r5, Or.inl ⟨r6, r7⟩⟩
/-- HouseReader.read -/
theorem zc_read (hb : zg_by (s0 9)) (hT : s0 8 1 = T) (hT0 : 0 ≤ T) (hT4 : T ≤ 400) (hR : zh0 R) : ∃ f R' s', zhr (s0 9) T 41 0 (zg_sk (s0 9) T 0) R = some (f, R') ∧ zE xm_c29 [8, 30, 0, 0] s0 f s' ∧ zCf s0 f R' s' := by
  have hc : zCh s0 T := ⟨hb, hT, hT0, hT4⟩
  have e0 : zu (zu (zu s0 8 5 0) 8 3 0) 8 4 0 = zT s0 (s0 8 2) 0 0 0 := by
    have := zT_id (s := s0)
    rw [← this, zu_T5, zu_T3, zu_T4, this]
  have sk : 0 ≤ zg_sk (s0 9) T 0 ∧ (zg_sk (s0 9) T 0 ≤ T ∨ zg_sk (s0 9) T 0 = 0) := zg_run_le
  have n1 := zt_next (s := s0) (T := T) (k := s0 8 2) (p := 0) (n := 0) hb hT hT4 (by omega) (by omega) (by omega) (q := zg_sk (s0 9) T 0) rfl
  rw [← e0] at n1
  obtain ⟨s1, d1, d2, d3⟩ := zc_clear (s := zT s0 (zg_kind (s0 9) T (zg_sk (s0 9) T 0)) (zg_sk (s0 9) T 0) (zg_te (s0 9) T (zg_sk (s0 9) T 0) - zg_sk (s0 9) T 0) 0) hR
  have h1 : zCs s0 T (.inl (zg_sk (s0 9) T 0, R)) s1 := by
    have k8 : ∀ b, (fun a b => if a = 8 then s0 a b else s1 a b : zS) 8 b = s0 8 b := fun b => if_pos rfl
    have kn : ∀ a b, a ≠ 8 → (fun a b => if a = 8 then s0 a b else s1 a b : zS) a b = s1 a b := fun a b h => if_neg h
    generalize (fun a b => if a = 8 then s0 a b else s1 a b : zS) = S at k8 kn
    refine ⟨by omega, S, ?_, ?_, k8 1, fun x y hx hy => ?_⟩
    · funext a b
      by_cases ea : a = 8
      · subst ea
        rw [d3 8 b (by omega)]
        unfold zT
        rw [k8]
      · rw [zT_o ea, kn a b ea]
    · exact zHr_c d2 (fun x y h1 h2 => kn x y (by omega))
    · rw [kn x y hx, d3 x y hy, zT_o hx]
  obtain ⟨f, R', s', u1, u2, u3⟩ := zc_loop hc 41 _ 0 R s1 h1 (zh0_wf hR) (by decide) (by decide)
  exact ⟨f, R', s', u1, zb_29_0 (zb_80_0 n1 (zb_80_11 rfl)) (zb_29_2 d1 (zb_29_4 u2)), u3⟩
end CL
