/-! house on both sides, all of the state -/
section JE
variable {bB : Int}
variable {s s2 : zS}
theorem zfs_0 {P : Nat → Prop} [DecidablePred P] : ∀ n : Nat, (∀ k, k < n → ¬ P k) → zfs P n = 0
  | 0, _ => rfl
  | n + 1, h => by
    show zor (zfs P n) (if P n then _ else 0) = 0
    rw [zfs_0 n (fun k hk => h k (by omega)), if_neg (h n (Nat.lt_succ_self n))]
    rfl
/-- what the class's house leaves -/
def zHo (R : zHS) (f : Int) (s s' : zS) : Prop := (s' 8 1 = 0 ∧ ∀ x, x ≠ 8 → x ≠ 10 → x ≠ 40 → ¬ (11 ≤ x ∧ x < 28) → ¬ (30 ≤ x ∧ x < 38) → s' x = s x) ∧ (f ≠ 0 → s' 10 = s 10 ∧ s' 40 = s 40 ∧ ∀ x, 11 ≤ x → x < 28 → s' x = s x) ∧ (f = 0 → (s' 10 5 = 0 ∧ ∀ y, y ≠ 5 → s' 10 y = s 10 y) ∧ (s' 40 3 = 0 ∧ ∀ y, y ≠ 3 → s' 40 y = s 40 y) ∧ ∃ t : zS, zHr R t ∧ (∀ k : Int, 0 ≤ k → k < 10 → s' 11 k = t 30 k) ∧ (∀ d : Int, 1 ≤ d → d ≤ 7 → ∀ k : Int, 0 ≤ k → k < 7 → s' (11 + d) k = t (30 + d) k) ∧ (∀ d : Int, 5 ≤ d → d ≤ 7 → ∀ k : Int, 0 ≤ k → k < 10 → s' (11 + d) k = t (30 + d) k) ∧ (s' 19 0 = 0 ∧ s' 19 1 = t 30 5) ∧ (∀ k : Int, 0 ≤ k → k < 7 → s' 20 k = t 31 k ∧ s' 21 k = t 31 k ∧ s' 22 k = 0 ∧ s' 23 k = t 32 k) ∧ s' 24 0 = 0 ∧ ∀ k : Int, 0 ≤ k → k < 7 → s' 25 k = -1 ∧ s' 26 k = 0 ∧ s' 27 k = -1)
theorem zo_house {R : zHS} (hb : zg_by (s 9)) (h0 : 0 ≤ s 8 1) (h4 : s 8 1 ≤ 400) (hR : zh0 R) : ∃ f R' s', zhr (s 9) (s 8 1) 41 0 (zg_sk (s 9) (s 8 1) 0) R = some (f, R') ∧ zE xm_c90 [7, 0] s (zhq f (R' 1)) s' ∧ zHo R' f s s' := by
  obtain ⟨f, R', s1, u1, u2, u3, u4, u5⟩ := zc_read hb rfl h0 h4 hR
  have v5 : ∀ x, x ≠ 8 → ¬ (30 ≤ x ∧ x < 38) → zu s1 8 1 0 x = s x := fun x h1 h2 => funext (fun y => by rw [zu_cell h1, u5 x y h1 h2])
  unfold zhq
  by_cases e : f = 0
  · obtain ⟨s2, a1, a2, a3, a4, a5⟩ := zo_cpH (s := zu s1 8 1 0) (f := 11) (g := 30) (fun i j _ _ _ _ => by omega)
    obtain ⟨s3, b1, b2, b3, b4⟩ := zo_gohome (s := s2)
    obtain ⟨s4, c1, c2, c3, c4⟩ := zo_lclear (s := s3)
    obtain ⟨w, hw⟩ : ∃ w : zS, w = zu (zu s4 10 5 0) 40 3 0 := ⟨_, rfl⟩
    have wx : ∀ x, x ≠ 10 → x ≠ 40 → w x = s4 x := fun x h1 h2 => by
      rw [hw]
      exact funext (fun y => by rw [zu_cell h2, zu_cell h1])
    have fr : ∀ x, ¬ (11 ≤ x ∧ x < 28) → s4 x = zu s1 8 1 0 x := fun x hx => by rw [c4 x (by omega), b4 x (by omega), a5 x (by omega)]
    have w11 : ∀ x, 11 ≤ x → x < 19 → w x = s2 x := fun x x1 x2 => by rw [wx x (by omega) (by omega), c4 x (by omega), b4 x (by omega)]
    have w19 : ∀ x, 19 ≤ x → x < 24 → w x = s3 x := fun x x1 x2 => by rw [wx x (by omega) (by omega), c4 x (by omega)]
    refine ⟨f, R', w, u1, ?_, ⟨?_, fun x x1 x2 x3 x4 x5 => ?_⟩, fun q => absurd e q, fun _ => ⟨⟨?_, fun y hy => ?_⟩, ⟨?_, fun y hy => ?_⟩, zu s1 8 1 0, ?_, fun k k0 k1 => ?_, fun d d0 d1 k k0 k1 => ?_, fun d d0 d1 k k0 k1 => ?_, ⟨?_, ?_⟩, fun k k0 k1 => ?_, ?_, fun k k0 k1 => ?_⟩⟩
    · rw [if_pos e]
      refine zb_90_0 u2 (zb_90_5 (fun _ => zb_90_16 (r := 0) (s1 := zu s4 10 5 0) (zb_75_0 a1 (zb_75_4 b1 (zb_75_9 c1 (zb_75_12 rfl)))) (zb_90_21 (r := 0) (s1 := w) (zb_19_0 (by rw [hw]; rfl)) (zb_90_24 ?_))) (fun q => absurd e q))
      have v : w (7 + 3 + 1) 1 = R' 1 := by
        show w 11 1 = R' 1
        rw [w11 11 (by decide) (by decide), a2 1 (by decide) (by decide), zu_cell (by decide)]
        exact (u4 e).1.2.1
      rw [v]
    · rw [wx 8 (by decide) (by decide), fr 8 (by decide), zu_hit]
    · rw [wx x x2 x3, fr x x4, v5 x x1 x5]
    · rw [hw, zu_cell (by decide), zu_hit]
    · rw [hw, zu_cell (by decide), zu_place hy, fr 10 (by decide), v5 10 (by decide) (by decide)]
    · rw [hw, zu_hit]
    · rw [hw, zu_place hy, zu_cell (by decide), fr 40 (by decide), v5 40 (by decide) (by decide)]
    · exact zHr_c (u4 e) (fun x y x1 x2 => zu_cell (by omega))
    · rw [w11 11 (by decide) (by decide)]
      exact a2 k k0 k1
    · rw [w11 _ (by omega) (by omega)]
      exact a3 d d0 d1 k k0 k1
    · rw [w11 _ (by omega) (by omega)]
      exact a4 d d0 d1 k k0 k1
    · rw [w19 19 (by decide) (by decide)]
      exact b2.1
    · rw [w19 19 (by decide) (by decide), b2.2]
      exact a2 5 (by decide) (by decide)
    · rw [w19 20 (by decide) (by decide), w19 21 (by decide) (by decide), w19 22 (by decide) (by decide), w19 23 (by decide) (by decide)]
      obtain ⟨q1, q2, q3, q4⟩ := b3 k k0 k1
      rw [q1, q2, q3, q4]
      exact ⟨a3 1 (by decide) (by decide) k k0 k1, a3 1 (by decide) (by decide) k k0 k1, rfl, a3 2 (by decide) (by decide) k k0 k1⟩
    · rw [wx 24 (by decide) (by decide)]
      exact c2
    · rw [wx 25 (by decide) (by decide), wx 26 (by decide) (by decide), wx 27 (by decide) (by decide)]
      exact c3 k k0 k1
  · refine ⟨f, R', zu s1 8 1 0, u1, ?_, ⟨zu_hit, fun x x1 x2 x3 x4 x5 => v5 x x1 x5⟩, fun _ => ⟨v5 10 (by decide) (by decide), v5 40 (by decide) (by decide), fun x x1 x2 => v5 x (by omega) (by omega)⟩, fun q => absurd q e⟩
    rw [if_neg e]
    exact zb_90_0 u2 (zb_90_5 (fun q => absurd q e) (fun _ => zb_90_12 rfl))
/-- what the reference's house leaves -/
def zRo (R : zHS) (f : Int) (s s' : zS) : Prop := (s' 344 1 = 0 ∧ (∀ y, y ≠ 1 → y ≠ 26 → ¬ (8 ≤ y ∧ y ≤ 16) → s' 344 y = s 344 y) ∧ (∀ x, x ≠ 344 → x ≠ 350 → x ≠ 351 → x ≠ 347 → x ≠ 354 → s' x = s x) ∧ ∀ y, y ≠ 6 → s' 347 y = s 347 y) ∧ (f ≠ 0 → s' 344 26 = s 344 26 ∧ s' 354 = s 354) ∧ (f = 0 → s' 344 26 = 0 ∧ (∀ k, 0 ≤ k → k < 117 → s' 354 k = R k) ∧ s' 354 137 = 0 ∧ s' 354 145 = R 8 ∧ ∀ p : Nat, ((p : Nat) : Int) < R 1 → s' 354 (138 + ((p : Nat) : Int)) = R (10 + 11 * ((p : Nat) : Int) + 3))
theorem zr_house (hb : zg_by (s 345)) (h0 : 0 ≤ s 344 1) (h4 : s 344 1 ≤ 400) : ∃ f R' s', zhr (s 345) (s 344 1) 41 0 (zg_sk (s 345) (s 344 1) 0) (zh00 (s 350)) = some (f, R') ∧ zE xm_c169 [344, 0] s (zhq f (R' 1)) s' ∧ zRo R' f s s' := by
  obtain ⟨s1, a1, a2, a3⟩ := zr_hinit 10 0 (zu s 344 11 6) (by decide) (by decide) (by decide)
  have e5 : s1 345 = s 345 := funext (fun b => by rw [a3 345 b (by decide), zu_cell (by decide)])
  have e1 : s1 344 1 = s 344 1 := by rw [a3 344 1 (by decide), zu_place (by decide)]
  have e11 : s1 344 11 = 6 := by rw [a3 344 11 (by decide), zu_hit]
  have e50 : s1 350 = zh00 (s 350) := funext (fun k => by rw [a2 k, zu_cell (by decide)]; rfl)
  obtain ⟨f, R', s2, u1, u2, ⟨⟨u3, u4, u5⟩, u6⟩⟩ := zm_all (s0 := s1) (T := s 344 1) ⟨by rw [e5]; exact hb, e1, h0, h4⟩ e11 (by rw [e50]; exact zh00_0 _)
  rw [e5, e50] at u1
  have o2 : ∀ x, x ≠ 344 → x ≠ 350 → x ≠ 351 → x ≠ 347 → s2 x = s x := fun x x1 x2 x3 x4 => funext (fun y => by
    rw [u5 x y (fun q => x1 q.1) (fun q => x1 q.1) x2 x3 (fun q => x4 q.1), a3 x y x2, zu_cell x1])
  have o344 : ∀ y, y ≠ 1 → ¬ (8 ≤ y ∧ y ≤ 16) → s2 344 y = s 344 y := fun y y1 y2 => by
    rw [u5 344 y (fun q => y1 q.2) (fun q => y2 q.2) (by decide) (by decide) (fun q => absurd q.1 (by decide)), a3 344 y (by decide), zu_place (by omega)]
  have o347 : ∀ y, y ≠ 6 → s2 347 y = s 347 y := fun y hy => by
    rw [u5 347 y (fun q => absurd q.1 (by decide)) (fun q => absurd q.1 (by decide)) (by decide) (by decide) (fun q => hy q.2), a3 347 y (by decide), zu_cell (by decide)]
  have pre : ∀ (X : Int × zS), zA xm_c169 28 [344, 10] [(false, if f = 0 then 1 else 0)] s2 X → zE xm_c169 [344, 0] s X.1 X.2 := fun X z => zb_169_0 (a1 X (zb_169_26 u2 z))
  unfold zhq
  by_cases e : f = 0
  · obtain ⟨v1, l, v2⟩ := u6 e
    have v3 := v2.2.2.1
    obtain ⟨s3, b1, b2, b3, b4⟩ := zr_hcopy 146 0 s2 (by decide) (by decide) (by decide)
    have k1 : s3 354 1 = R' 1 := by rw [b2 1 (by decide) (by decide), if_pos (by decide), v1]
    obtain ⟨s4, x', c1, c2, c4, c3⟩ := zr_htold 10 0 s3 (by decide) (by rw [k1]; exact v3.2) (by rw [k1]; omega)
    have w117 : ∀ k, 0 ≤ k → k < 117 → s4 354 k = R' k := fun k q0 q1 => by rw [c2 k (by omega), b2 k q0 (by omega), if_pos q1, v1]
    obtain ⟨w, hw⟩ : ∃ w : zS, w = zu (zu s4 354 145 (s4 354 8)) 344 26 0 := ⟨_, rfl⟩
    have o4 : ∀ x y, x ≠ 354 → s4 x y = s2 x y := fun x y hx => by rw [c3 x y hx, b4 x y hx]
    refine ⟨f, R', w, u1, ?_, ⟨?_, fun y y1 y2 y3 => ?_, fun x x1 x2 x3 x4 x5 => funext (fun y => ?_), fun y hy => ?_⟩, fun q => absurd e q, fun _ => ⟨?_, fun k q0 q1 => ?_, ?_, ?_, fun p hp => ?_⟩⟩
    · rw [if_pos e]
      rw [if_pos e] at pre
      have v : w (344 + 10) 1 = R' 1 := by
        show w 354 1 = _
        rw [hw, zu_cell (by decide), zu_place (by decide), w117 1 (by decide) (by decide)]
      refine pre (R' 1, w) (zb_169_28 (fun q => absurd q (by decide)) (fun _ => zb_169_34 (b1 _ (zb_169_54 (c1 _ (zb_169_74 ?_))))))
      show (zu (zu s4 354 145 (s4 354 8)) 344 26 0 (344 + 10) 1, zu (zu s4 354 145 (s4 354 8)) 344 26 0) = _
      rw [← hw, v]
    · rw [hw, zu_place (by decide), zu_cell (by decide), o4 344 1 (by decide)]
      exact u4
    · rw [hw, zu_place y2, zu_cell (by decide), o4 344 y (by decide), o344 y y1 y3]
    · rw [hw, zu_cell x1, zu_cell x5, o4 x y x5, o2 x x1 x2 x3 x4]
    · rw [hw, zu_cell (by decide), zu_cell (by decide), o4 347 y (by decide), o347 y hy]
    · rw [hw, zu_hit]
    · rw [hw, zu_cell (by decide), zu_place (by omega), w117 k q0 q1]
    · rw [hw, zu_cell (by decide), zu_place (by decide), c2 137 (by decide), b2 137 (by decide) (by decide), if_neg (by decide)]
    · rw [hw, zu_cell (by decide), zu_hit, w117 8 (by decide) (by decide)]
    · rw [hw, zu_cell (by decide), zu_place (by omega), c4 _ (Int.natCast_nonneg p) (by rw [k1]; exact hp), b2 _ (by omega) (by omega), if_pos (by omega), v1]
  · refine ⟨f, R', s2, u1, ?_, ⟨u4, fun y y1 y2 y3 => o344 y y1 y3, fun x x1 x2 x3 x4 x5 => o2 x x1 x2 x3 x4, o347⟩, fun _ => ⟨o344 26 (by decide) (by decide), o2 354 (by decide) (by decide) (by decide) (by decide)⟩, fun q => absurd q e⟩
    rw [if_neg e]
    rw [if_neg e] at pre
    refine pre (zw (-2 - f), s2) (zb_169_28 (fun _ => zb_169_29 ?_) (fun q => absurd rfl q))
    rw [u3]
theorem zgR_h {i : Nat} {w : zW} (H : zgR s i w) (hi : i < 6) (e1 : ∀ x, 240 ≤ x → x ≤ 263 → s2 x = s x) (e6 : s2 346 = s 346) (e7 : ∀ y, y ≠ 6 → s2 347 y = s 347 y) (e8 : s2 348 = s 348) (e9 : s2 349 = s 349) : zgR s2 i w := by
  obtain ⟨a, b, c, d⟩ := H
  refine ⟨zCd_x a (fun x y x1 x2 => by rw [e1 x (by omega) (by omega)]), ?_, ?_, d⟩
  · unfold zCr at b ⊢
    rw [e6, e7 _ (by omega)]
    exact b
  · unfold zMk at c ⊢
    rw [e8, e9]
    exact c
/-- house, on both sides -/
theorem zA_house (H : zRZ bB s) (h6 : s 7 8 ≤ 6) (h9 : s 9 = s 345) (hb : zg_by (s 9)) (h0 : 0 ≤ s 8 1) (h4 : s 8 1 ≤ 400) : ∃ r s1 s2, zE xm_c90 [7, 0] s r s1 ∧ zE xm_c169 [344, 0] s1 r s2 ∧ zRZ bB s2 := by
  obtain ⟨A, B, C, ⟨n0, m0, D, E⟩, I⟩ := H
  have hb0 : 0 ≤ bB := by
    have := D.2.1.1.2.2.2.2.2.2.2
    omega
  obtain ⟨f, R, s1, u1, u2, ⟨u3, u4⟩, u5, u6⟩ := zo_house (R := zh00 (s 350)) hb h0 h4 (zh00_0 _)
  have e344 : s1 344 = s 344 := u4 344 (by decide) (by decide) (by decide) (by decide) (by decide)
  have e345 : s1 345 = s 345 := u4 345 (by decide) (by decide) (by decide) (by decide) (by decide)
  have e350 : s1 350 = s 350 := u4 350 (by decide) (by decide) (by decide) (by decide) (by decide)
  have l1 := A.1
  obtain ⟨f', R', s2, v1, v2, ⟨v3, v4, v5, v7⟩, v6, v8⟩ := zr_house (s := s1) (by rw [e345, ← h9]; exact hb) (by rw [e344, ← l1]; exact h0) (by rw [e344, ← l1]; exact h4)
  rw [e345, e344, e350, ← h9, ← l1] at v1
  rw [v1] at u1
  injection u1 with u1
  injection u1 with q1 q2
  subst q1
  subst q2
  have o : ∀ x, (x < 344 ∨ x = 345 ∨ x = 346 ∨ x = 348 ∨ x = 349 ∨ 355 ≤ x) → x ≠ 8 → x ≠ 10 → x ≠ 40 → ¬ (11 ≤ x ∧ x < 28) → ¬ (30 ≤ x ∧ x < 38) → s2 x = s x := fun x hx h8 h10 h40 h11 h30 => by
    rw [v5 x (by omega) (by omega) (by omega) (by omega) (by omega), u4 x h8 h10 h40 h11 h30]
  have o1 : ∀ x, x < 344 → s2 x = s1 x := fun x hx => v5 x (by omega) (by omega) (by omega) (by omega) (by omega)
  have p344 : ∀ y, y ≠ 1 → y ≠ 26 → ¬ (8 ≤ y ∧ y ≤ 16) → s2 344 y = s 344 y := fun y y1 y2 y3 => by rw [v4 y y1 y2 y3, e344]
  have p347 : ∀ y, y ≠ 6 → s2 347 y = s 347 y := fun y hy => by rw [v7 y hy, u4 347 (by decide) (by decide) (by decide) (by decide) (by decide)]
  have e7 : s2 7 8 = s 7 8 := by rw [o 7 (by decide) (by decide) (by decide) (by decide) (by decide) (by decide)]
  have gA : zgA s2 := ⟨by rw [o1 8 (by decide), u3, v3], fun k hk => by
    rw [o 9 (by decide) (by decide) (by decide) (by decide) (by decide) (by decide), o 345 (by decide) (by decide) (by decide) (by decide) (by decide) (by decide)]
    exact A.2 k hk⟩
  have gB : zgB s2 := by
    obtain ⟨b1, b2, b3⟩ := B
    have x240 : ∀ x, 240 ≤ x → x ≤ 263 → s2 x = s x := fun x x1 x2 => o x (by omega) (by omega) (by omega) (by omega) (by omega) (by omega)
    refine ⟨by rw [e7, p344 2 (by decide) (by decide) (by decide), b1], fun i hi => by rw [x240 _ (by omega) (by omega)]; exact b2 i hi, fun i hi => ?_⟩
    rw [e7] at hi
    obtain ⟨w, hw⟩ := b3 i hi
    exact ⟨w, zgR_h hw (by omega) x240 (o 346 (by decide) (by decide) (by decide) (by decide) (by decide) (by decide)) p347 (o 348 (by decide) (by decide) (by decide) (by decide) (by decide) (by decide)) (o 349 (by decide) (by decide) (by decide) (by decide) (by decide) (by decide))⟩
  have gF : zgF bB s2 := zgF_c I (by rw [e7]; exact Int.le_refl _) (fun x x1 x2 => o x (by omega) (by omega) (by omega) (by omega) (by omega) (by omega)) (fun x x1 x2 => o x (by omega) (by omega) (by omega) (by omega) (by omega) (by omega))
  by_cases c : f' = 0
  case neg =>
    obtain ⟨w10, w40, w11⟩ := u5 c
    obtain ⟨x26, x354⟩ := v6 c
    have y354 : s2 354 = s 354 := by rw [x354, u4 354 (by decide) (by decide) (by decide) (by decide) (by decide)]
    have y26 : s2 344 26 = s 344 26 := by rw [x26, e344]
    have z10 : s2 10 = s 10 := by rw [o1 10 (by decide), w10]
    have z40 : s2 40 = s 40 := by rw [o1 40 (by decide), w40]
    have z11 : ∀ x, 11 ≤ x → x ≤ 29 → s2 x = s x := fun x x1 x2 => by
      by_cases d : x < 28
      · rw [o1 x (by omega), w11 x x1 d]
      · exact o x (by omega) (by omega) (by omega) (by omega) (by omega) (by omega)
    exact ⟨_, s1, s2, u2, v2, gA, gB, zgC_c C e7 (by rw [z10]) (by rw [z10]) (p344 21 (by decide) (by decide) (by decide)) (p344 22 (by decide) (by decide) (by decide)), ⟨n0, m0, zgD_c D z11 (by rw [z10]) y354, zgE_c E (by rw [z40]) (by rw [z40]) (fun x x1 x2 => o x (by omega) (by omega) (by omega) (by omega) (by omega) (by omega)) y26 (o 356 (by decide) (by decide) (by decide) (by decide) (by decide) (by decide)) y354⟩, gF⟩
  subst c
  obtain ⟨⟨t1, t2⟩, ⟨t3, t4⟩, t, hr, k1, k2, k3, ⟨k4, k5⟩, k6, k7, k8⟩ := u6 rfl
  obtain ⟨x26, x117, x137, x145, x138⟩ := v8 rfl
  have hX := zhr_X hb h4 41 0 (zg_sk (s 9) (s 8 1) 0) (zh00 (s 350)) (R' := R') (by
    have sk : 0 ≤ zg_sk (s 9) (s 8 1) 0 ∧ (zg_sk (s 9) (s 8 1) 0 ≤ s 8 1 ∨ zg_sk (s 9) (s 8 1) 0 = 0) := zg_run_le
    exact sk.1) (by
    have sk : 0 ≤ zg_sk (s 9) (s 8 1) 0 ∧ (zg_sk (s 9) (s 8 1) 0 ≤ s 8 1 ∨ zg_sk (s 9) (s 8 1) 0 = 0) := zg_run_le
    omega) (zh0_wf (zh00_0 _)) (zhX_0 (by
    obtain ⟨r0, r1, r2, r3, r5, r6, r7, r4, -, -⟩ := zh00_0 (s 350)
    exact ⟨r0, r1, r2, r4, r6, r7⟩)) v1
  have hT9 := zhr_T hb h4 41 0 (zg_sk (s 9) (s 8 1) 0) (zh00 (s 350)) (R' := R') (by
    have sk : 0 ≤ zg_sk (s 9) (s 8 1) 0 ∧ (zg_sk (s 9) (s 8 1) 0 ≤ s 8 1 ∨ zg_sk (s 9) (s 8 1) 0 = 0) := zg_run_le
    exact sk.1) (by
    have sk : 0 ≤ zg_sk (s 9) (s 8 1) 0 ∧ (zg_sk (s 9) (s 8 1) 0 ≤ s 8 1 ∨ zg_sk (s 9) (s 8 1) 0 = 0) := zg_run_le
    omega) (zh0_wf (zh00_0 _)) (zhT_0 (by
    obtain ⟨r0, r1, r2, r3, r5, r6, r7, r4, -, -⟩ := zh00_0 (s 350)
    exact r1)) v1
  obtain ⟨⟨⟨g4, g0, g1, g6⟩, gp, ge⟩, l, w0, w1, w2, w3, w4, w5, w6⟩ := hX
  obtain ⟨n, hn⟩ := Int.eq_ofNat_of_zero_le w2.1
  obtain ⟨m, hm⟩ := Int.eq_ofNat_of_zero_le w3.1
  obtain ⟨⟨h30, h31, h32, h33⟩, h37, h38, h39, ⟨h35, h36⟩, hp, he⟩ := hr
  have n7 : n ≤ 7 := by omega
  have m10 : m ≤ 10 := by omega
  have P : ∀ (p : Nat) (j : Int), p < n → 0 ≤ j → j ≤ 10 → zpe (s2 354) ((p : Nat) : Int) j = R' (10 + 11 * ((p : Nat) : Int) + j) := fun p j hpn j0 j1 => x117 _ (by omega) (by omega)
  have P0 : ∀ (p : Nat), p < n → zpe (s2 354) ((p : Nat) : Int) 0 = R' (10 + 11 * ((p : Nat) : Int)) := fun p hpn => by rw [P p 0 hpn (by decide) (by decide), Int.add_zero]
  have E117 : ∀ k : Nat, k < m → ∀ j : Int, 0 ≤ j → j ≤ 2 → s2 354 (87 + 3 * ((k : Nat) : Int) + j) = R' (87 + 3 * ((k : Nat) : Int) + j) := fun k hk j j0 j1 => x117 _ (by omega) (by omega)
  have E0 : ∀ k : Nat, k < m → s2 354 (87 + 3 * ((k : Nat) : Int)) = R' (87 + 3 * ((k : Nat) : Int)) := fun k hk => x117 _ (by omega) (by omega)
  have H0 : ∀ k, 0 ≤ k → k < 10 → s2 354 k = R' k := fun k a b => x117 k a (by omega)
  have K : ∀ k : Int, 0 ≤ k → k < 10 → s2 11 k = t 30 k := fun k a b => by rw [o1 11 (by decide)]; exact k1 k a b
  have K2 : ∀ d : Int, 1 ≤ d → d ≤ 7 → ∀ k : Int, 0 ≤ k → k < 7 → s2 (11 + d) k = t (30 + d) k := fun d a b k a' b' => by rw [o1 _ (by omega)]; exact k2 d a b k a' b'
  have K3 : ∀ d : Int, 5 ≤ d → d ≤ 7 → ∀ k : Int, 0 ≤ k → k < 10 → s2 (11 + d) k = t (30 + d) k := fun d a b k a' b' => by rw [o1 _ (by omega)]; exact k3 d a b k a' b'
  have zH : zRH s2 11 (s2 354) n m := by
    refine ⟨⟨?_, ?_, ?_, ?_, ?_, ?_, fun _ => ⟨?_, ?_⟩⟩, fun p hpn => ?_, fun i hi => ?_⟩
    · rw [K 0 (by decide) (by decide), h30, H0 0 (by decide) (by decide)]
    · rw [K 1 (by decide) (by decide), h31, H0 1 (by decide) (by decide)]
    · rw [K 2 (by decide) (by decide), h32, H0 2 (by decide) (by decide)]
    · rw [K 5 (by decide) (by decide), h35, x145]
    · rw [K 6 (by decide) (by decide), h36, H0 9 (by decide) (by decide)]
    · rw [K 7 (by decide) (by decide), h37, H0 5 (by decide) (by decide)]
    · rw [K 8 (by decide) (by decide), h38, H0 6 (by decide) (by decide)]
    · rw [K 9 (by decide) (by decide), h39, H0 7 (by decide) (by decide)]
    · have p0 : (0 : Int) ≤ ((p : Nat) : Int) := Int.natCast_nonneg p
      have p7 : ((p : Nat) : Int) < 7 := by omega
      have pR : ((p : Nat) : Int) < R' 1 := by omega
      obtain ⟨i1, i2, i3, i4⟩ := hp p (by omega)
      obtain ⟨i5, i6⟩ := i1 pR
      rw [if_pos pR] at i2 i3 i4
      rw [K2 1 (by decide) (by decide) _ p0 p7, K2 2 (by decide) (by decide) _ p0 p7, K2 3 (by decide) (by decide) _ p0 p7, K2 4 (by decide) (by decide) _ p0 p7, K 4 (by decide) (by decide), P p 4 hpn (by decide) (by decide), P p 5 hpn (by decide) (by decide), P p 6 hpn (by decide) (by decide), P p 7 hpn (by decide) (by decide), x138 p pR]
      obtain ⟨⟨-, -, -, -, j4, -⟩, -⟩ := gp p pR
      refine ⟨?_, i6, i2, i3, i4⟩
      rw [j4]
      exact i5
    · have p0 : (0 : Int) ≤ ((i : Nat) : Int) := Int.natCast_nonneg i
      have p1 : ((i : Nat) : Int) < 10 := by omega
      rw [K3 5 (by decide) (by decide) _ p0 p1, K3 6 (by decide) (by decide) _ p0 p1, K3 7 (by decide) (by decide) _ p0 p1, E0 i hi, E117 i hi 1 (by decide) (by decide), E117 i hi 2 (by decide) (by decide)]
      exact he i (by omega)
  have zF : zRF s2 19 (s2 354) n := by
    refine ⟨?_, ?_, fun p hpn => ?_⟩
    · rw [o1 19 (by decide), k4, H0 4 (by decide) (by decide), g4]
    · rw [o1 19 (by decide), k5, h35, H0 8 (by decide) (by decide)]
    · have p0 : (0 : Int) ≤ ((p : Nat) : Int) := Int.natCast_nonneg p
      have pR : ((p : Nat) : Int) < R' 1 := by omega
      obtain ⟨q1, q2, q3, q4⟩ := k6 ((p : Nat) : Int) p0 (by omega)
      obtain ⟨i5, i6⟩ := (hp p (by omega)).1 pR
      obtain ⟨⟨-, j1, j2, -⟩, -⟩ := gp p pR
      rw [show (19 : Int) + 1 = 20 from rfl, show (19 : Int) + 2 = 21 from rfl, show (19 : Int) + 3 = 22 from rfl, show (19 : Int) + 4 = 23 from rfl, o1 20 (by decide), o1 21 (by decide), o1 22 (by decide), o1 23 (by decide), q1, q2, q3, q4, P0 p hpn, P p 1 hpn (by decide) (by decide), P p 2 hpn (by decide) (by decide), P p 3 hpn (by decide) (by decide), j1, j2]
      exact ⟨i5, i5, rfl, i6⟩
  have zL : zRL s2 24 (s2 354) n := by
    refine ⟨?_, fun p hpn => ?_⟩
    · rw [o1 24 (by decide), k7, zfs_0 n (fun p hpn q => ?_)]
      obtain ⟨⟨-, -, -, -, -, -, j8, -⟩, -⟩ := gp p (by omega)
      unfold zkn at q
      rw [P p 8 hpn (by decide) (by decide), j8] at q
      exact q (by decide)
    · obtain ⟨⟨-, -, -, -, -, -, j8, j9, j10⟩, -⟩ := gp p (by omega)
      obtain ⟨q1, q2, q3⟩ := k8 ((p : Nat) : Int) (Int.natCast_nonneg p) (by omega)
      rw [show (24 : Int) + 1 = 25 from rfl, show (24 : Int) + 2 = 26 from rfl, show (24 : Int) + 3 = 27 from rfl, o1 25 (by decide), o1 26 (by decide), o1 27 (by decide), q1, q2, q3, P p 8 hpn (by decide) (by decide), P p 9 hpn (by decide) (by decide), P p 10 hpn (by decide) (by decide), j8, j9, j10]
      exact ⟨rfl, rfl, rfl⟩
  have zG : zGs bB (s2 354) n m := by
    refine ⟨⟨by rw [H0 1 (by decide) (by decide), hn], n7, by rw [H0 2 (by decide) (by decide), hm], m10, ?_, ?_, fun q => ?_, ?_, ?_⟩, fun p hpn => ?_, fun i hi => ?_⟩
    · rw [H0 0 (by decide) (by decide)]; exact w0.1
    · rw [H0 0 (by decide) (by decide)]; exact w0.2
    · rw [H0 0 (by decide) (by decide)]; omega
    · rw [H0 4 (by decide) (by decide), g4]; decide
    · rw [H0 4 (by decide) (by decide), g4]; exact ⟨by decide, hb0⟩
    · obtain ⟨⟨j0, j1, j2, j3, j4, j6, j8, j9, j10⟩, jb⟩ := gp p (by omega)
      rw [H0 0 (by decide) (by decide), P0 p hpn, P p 1 hpn (by decide) (by decide), P p 2 hpn (by decide) (by decide), P p 3 hpn (by decide) (by decide), P p 4 hpn (by decide) (by decide), P p 5 hpn (by decide) (by decide), P p 6 hpn (by decide) (by decide), P p 8 hpn (by decide) (by decide), x138 p (by omega), j1, j4, j8]
      refine ⟨j0, j0, j3, j0, fun q => absurd rfl q, by decide, j3, j6, fun q hq => ?_⟩
      rw [P q 5 hq (by decide) (by decide), jb q (by omega), if_pos (by omega)]
    · rw [H0 0 (by decide) (by decide), E0 i hi, E117 i hi 1 (by decide) (by decide)]
      exact ge i (by omega)
  have zW : zTw (s2 354) := fun p hp => by
    rw [H0 1 (by decide) (by decide)] at hp
    rw [P p 7 (by omega) (by decide) (by decide)]
    exact hT9 p hp
  have zT : zGt (s2 354) := by
    refine ⟨?_, fun _ => ?_⟩
    · rw [H0 5 (by decide) (by decide)]
      exact w5
    · rw [H0 6 (by decide) (by decide), H0 7 (by decide) (by decide), H0 0 (by decide) (by decide)]
      exact g6
  refine ⟨_, s1, s2, u2, v2, gA, gB, zgC_c C e7 (by rw [o1 10 (by decide), t2 6 (by decide)]) (by rw [o1 10 (by decide), t2 7 (by decide)]) (p344 21 (by decide) (by decide) (by decide)) (p344 22 (by decide) (by decide) (by decide)), ⟨n, m, ⟨⟨zH, zF, zL, ?_, fun k hk => ?_⟩, zG, zT, ?_, ?_, zNr_0 x137 zW⟩, zgE_0 (by rw [o1 40 (by decide), t3]) x26 (by rw [o1 40 (by decide), t4 2 (by decide)]; exact ⟨E.1.2.2.2.1, E.1.2.2.2.2⟩)⟩, gF⟩
  · rw [o1 10 (by decide), t1, x137]
  · rw [x137] at hk
    exact absurd hk (by omega)
  · rw [x137]
    decide
  · rw [x137]
    decide
end JE
