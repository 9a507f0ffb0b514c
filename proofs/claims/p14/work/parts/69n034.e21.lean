/-! the reference's running of a rule's code, and its sum -/
def zRk (v : List Int) (s : zS) : Prop := zVk 352 v s ∧ s 344 18 = ((v.length : Nat) : Int)
/-- but for the stack, all stays -/
def zKk (s s' : zS) : Prop := ∀ a b, a ≠ 352 → ¬ (a = 344 ∧ b = 18) → s' a b = s a b
section XL
variable {s : zS} {v : List Int} {x y c t : Int} {R : Int × zS}
theorem zKk_t {s s1 s2 : zS} (h : zKk s s1) (h' : zKk s1 s2) : zKk s s2 := fun a b ha hb => (h' a b ha hb).trans (h a b ha hb)
theorem zq_push (h : zRk v s) (hl : v.length ≤ 100) : ∃ s', zE xm_c171 [344, x, 0] s 0 s' ∧ zRk (x :: v) s' ∧ zKk s s' := by
  obtain ⟨h1, h2⟩ := h
  have e1 : (zu s 352 ((v.length : Nat) : Int) x) 344 18 = ((v.length : Nat) : Int) := by rw [zu_cell (by decide)]; exact h2
  refine ⟨zu (zu s 352 ((v.length : Nat) : Int) x) 344 18 (((v.length : Nat) : Int) + 1), zb_171_0 ?_, ⟨fun j hj => ?_, ?_⟩, fun a b ha hb => ?_⟩
  · show (0, zu (zu s 352 (s 344 18) x) 344 18 (zw (((zu s 352 (s 344 18) x) 344 18) + 1))) = _
    rw [h2, e1, zw_id (by omega) (by omega)]
  · rw [zu_cell (by decide)]
    exact zVk_push h1 j hj
  · rw [zu_hit]
    rfl
  · unfold zu
    rw [if_neg hb, if_neg (fun q => ha q.1)]
theorem zq_pop (h : zRk (x :: v) s) (hl : v.length ≤ 100) : ∃ s', zE xm_c172 [344] s x s' ∧ zRk v s' ∧ zKk s s' := by
  obtain ⟨h1, h2⟩ := h
  obtain ⟨h3, h4⟩ := zVk_tl h1
  have h2 : s 344 18 = ((v.length + 1 : Nat) : Int) := h2
  have e0 : zw (s 344 18 - 1) = ((v.length : Nat) : Int) := by
    rw [h2, zw_id (by omega) (by omega)]
    omega
  refine ⟨zu s 344 18 ((v.length : Nat) : Int), zb_172_0 ?_, ⟨fun j hj => ?_, zu_hit⟩, fun a b ha hb => ?_⟩
  · show ((zu s 344 18 (zw (s 344 18 - 1))) 352 ((zu s 344 18 (zw (s 344 18 - 1))) 344 18), zu s 344 18 (zw (s 344 18 - 1))) = _
    rw [e0, zu_hit, zu_cell (by decide), h4]
  · rw [zu_cell (by decide)]
    exact h3 j hj
  · unfold zu
    rw [if_neg hb]
theorem zq_op (hc : 2 ≤ c ∧ c ≤ 14 ∧ c ≠ 11) : zE xm_c173 [c, x, 0, y, 0] s (zbn c x y) s := by
  obtain ⟨b2, b3, b4, b5, b14, b6, b7, b8, b9, b10, b12, b13⟩ := zbn_e (c := c) (x := x) (y := y)
  refine zb_173_0 ?_
  rcases (show c = 2 ∨ c = 3 ∨ c = 4 ∨ c = 5 ∨ c = 6 ∨ c = 7 ∨ c = 8 ∨ c = 9 ∨ c = 10 ∨ c = 12 ∨ c = 13 ∨ c = 14 by omega) with rfl | rfl | rfl | rfl | rfl | rfl | rfl | rfl | rfl | rfl | rfl | rfl
  · exact zb_173_1_c2 rfl (zb_173_2 (by rw [b2]))
  · exact zb_173_1_c3 rfl (zb_173_6 (by rw [b3]))
  · exact zb_173_1_c4 rfl (zb_173_10 (by rw [b4]))
  · exact zb_173_1_c5 rfl (zb_173_14 (fun q => zb_173_18 (by rw [b5, if_pos (zsg_0.mp q)])) (fun q => zb_173_20 (by rw [b5, if_neg (fun z => q (zsg_0.mpr z))])))
  · exact zb_173_1_c6 rfl (zb_173_34 (fun q => zb_173_38 (by rw [b6, if_pos (zsg_l.mp q)])) (fun q => zb_173_40 (by rw [b6, if_neg (fun z => q (zsg_l.mpr z))])))
  · exact zb_173_1_c7 rfl (zb_173_42 (fun q => zb_173_48 (by rw [b7, if_neg (fun z => absurd (zsg_g.mp q) (by omega))])) (fun q => zb_173_46 (by rw [b7, if_pos (Int.not_lt.mp (fun z => q (zsg_g.mpr z)))])))
  · exact zb_173_1_c8 rfl (zb_173_50 (fun q => zb_173_54 (by rw [b8, if_pos (zsg_0.mp q)])) (fun q => zb_173_56 (by rw [b8, if_neg (fun z => q (zsg_0.mpr z))])))
  · exact zb_173_1_c9 rfl (zb_173_58 (fun q => zb_173_64 (by rw [b9, if_neg (fun z => absurd (zsg_l.mp q) (by omega))])) (fun q => zb_173_62 (by rw [b9, if_pos (Int.not_lt.mp (fun z => q (zsg_l.mpr z)))])))
  · exact zb_173_1_c10 rfl (zb_173_66 (fun q => zb_173_70 (by rw [b10, if_pos (zsg_g.mp q)])) (fun q => zb_173_72 (by rw [b10, if_neg (fun z => q (zsg_g.mpr z))])))
  · exact zb_173_1_c12 rfl (zb_173_74 (by rw [b12]))
  · exact zb_173_1_c13 rfl (zb_173_78 (by rw [b13]))
  · exact zb_173_1_c14 rfl (zb_173_24 (fun q => zb_173_28 (by rw [b14, if_pos (zsg_0.mp q)])) (fun q => zb_173_30 (by rw [b14, if_neg (fun z => q (zsg_0.mpr z))])))
theorem zq_step {ws : Int → Int} {i : Nat} {h h' : Nat × Nat} {x2 x3 x5 x6 x7 x8 x9 x10 : Int} (ht0 : 0 ≤ t) (ht : t ≤ 5) (hi : i < 240) (hto : ((i : Nat) : Int) < x3) (hcode : s 346 (400 * t + ((i : Nat) : Int)) = c) (hw : ∀ k : Int, 0 ≤ k → k ≤ 10 → s 353 k = ws k) (hk : zRk v s) (hv : zvh v h) (hs : zS1 c h = some h') : ∃ s' y5 y6 y7 y9, (∀ R, zA xm_c174 5 [344, t, x2, x3, ((i + 1 : Nat) : Int), y5, y6, y7, x8, y9, x10] [] s' R → zA xm_c174 5 [344, t, x2, x3, ((i : Nat) : Int), x5, x6, x7, x8, x9, x10] [] s R) ∧ zRk (zv1 ws c v) s' ∧ zKk s s' := by
  obtain ⟨v1, v2, v3⟩ := hv
  have z6 : zw (((i : Nat) : Int) + 1) = ((i + 1 : Nat) : Int) := zw_id (by omega) (by omega)
  have hc : zvl c ∨ (2 ≤ c ∧ c ≤ 14) := by
    rcases zS1_cs hs with ⟨c1, -⟩ | ⟨rfl, -⟩ | ⟨c1, -⟩ | ⟨c1, -⟩ | ⟨c1, -⟩
    · exact Or.inl c1
    · exact Or.inr (by decide)
    · exact Or.inr (by omega)
    · exact Or.inr (by omega)
    · exact Or.inr (by omega)
  obtain ⟨-, -, k1, k2⟩ := zcm_at hc
  have hz : s (344 + 2) (zw ((zw (400 * t)) + ((i : Nat) : Int))) = c := by
    show s 346 _ = c
    rw [zw_id (x := 400 * t) (by omega) (by omega), zw_id (by omega) (by omega)]
    exact hcode
  rw [← hz] at k1 k2
  have to8 : ∀ R, zA xm_c174 8 [344, t, x2, x3, ((i : Nat) : Int), x5, x6, x7, x8, x9, x10] [] s R → zA xm_c174 5 [344, t, x2, x3, ((i : Nat) : Int), x5, x6, x7, x8, x9, x10] [] s R := fun R z => zb_174_5 (fun _ => z) (fun q => absurd hto q)
  rcases zS1_cs hs with ⟨c1, d, -⟩ | ⟨c1, d1, d2, -⟩ | c1
  · rw [zv1_v c1]
    rcases c1 with ⟨m, n1, n2⟩ | ⟨m, n1, n2⟩
    · rw [hz, m] at k1
      rw [hz] at k2
      obtain ⟨s', p1, p2, p3⟩ := zq_push (x := c / 16) hk (by omega)
      rw [if_pos m]
      refine ⟨s', 0, c / 16, x7, x9, fun R z => to8 R (zb_174_8 (fun _ => ?_) (fun q => absurd (by rw [hz]; exact k1) q)), p2, p3⟩
      rw [hz, k1, k2]
      exact zb_174_32 p1 (zb_174_36 (by rw [z6]; exact z))
    · rw [hz, m] at k1
      rw [hz] at k2
      obtain ⟨s', p1, p2, p3⟩ := zq_push (x := ws (c / 16)) hk (by omega)
      rw [if_neg (by omega)]
      refine ⟨s', 1, c / 16, x7, x9, fun R z => to8 R (zb_174_8 (fun q => absurd q (by rw [hz, k1]; decide)) (fun _ => ?_)), p2, p3⟩
      rw [hz, k1, k2]
      exact zb_174_37 (fun _ => zb_174_40 (r := 0) (s1 := s') (by
        show zE xm_c171 [344, s 353 (c / 16), 0] s 0 s'
        rw [hw _ n1 n2]
        exact p1) (zb_174_46 (by rw [z6]; exact z))) (fun q => absurd rfl q)
  · subst c1
    match v, v1, hk with
    | [], v1, hk =>
      have v1 : 0 = h.1 + h.2 := v1
      omega
    | x :: v, v1, hk =>
      have v1 : v.length + 1 = h.1 + h.2 := v1
      rw [hz] at k1 k2
      have k1 : zand 11 15 = 11 := k1
      obtain ⟨s1, p1, p2, p3⟩ := zq_pop hk (by omega)
      obtain ⟨s', q1, q2, q3⟩ := zq_push (x := zq (1 - x)) p2 (by omega)
      rw [zv1_n]
      refine ⟨s', 11, zshr 11 4, x7, x9, fun R z => to8 R (zb_174_8 (fun q => absurd q (by rw [hz, k1]; decide)) (fun _ => ?_)), q2, zKk_t p3 q3⟩
      rw [hz, k1]
      exact zb_174_37 (fun q => absurd q (by decide)) (fun _ => zb_174_47 (fun _ => zb_174_50 p1 (zb_174_54 q1 (zb_174_56 (by rw [z6]; exact z)))) (fun q => absurd rfl q))
  · have c2 : (2 ≤ c ∧ c ≤ 14 ∧ c ≠ 11) ∧ 2 ≤ h.1 + h.2 := by
      rcases c1 with ⟨c1, d1, d2, -⟩ | ⟨c1, d1, -⟩ | ⟨c1, d1, -⟩ <;> omega
    obtain ⟨c3, d2⟩ := c2
    match v, v1, hk with
    | [], v1, hk =>
      have v1 : 0 = h.1 + h.2 := v1
      omega
    | [x], v1, hk =>
      have v1 : 0 + 1 = h.1 + h.2 := v1
      omega
    | y :: x :: v, v1, hk =>
      have v1 : v.length + 1 + 1 = h.1 + h.2 := v1
      have hl1 : (x :: v).length = v.length + 1 := rfl
      rw [hz] at k1 k2
      have hm : c % 16 = c := by omega
      rw [hm] at k1
      obtain ⟨s1, p1, p2, p3⟩ := zq_pop hk (by omega)
      obtain ⟨s2, q1, q2, q3⟩ := zq_pop p2 (by omega)
      obtain ⟨s', r1, r2, r3⟩ := zq_push (x := zbn c x y) q2 (by omega)
      rw [zv1_b c3]
      refine ⟨s', c, zshr c 4, y, x, fun R z => to8 R (zb_174_8 (fun q => absurd q (by rw [hz, k1]; omega)) (fun _ => ?_)), r2, zKk_t p3 (zKk_t q3 r3)⟩
      rw [hz, k1]
      exact zb_174_37 (fun q => absurd q (by omega)) (fun _ => zb_174_47 (fun q => absurd q c3.2.2) (fun _ => zb_174_57 p1 (zb_174_59 q1 (zb_174_62 (zq_op c3) (zb_174_68 r1 (zb_174_69 (by rw [z6]; exact z)))))))
theorem zq_run {ws : Int → Int} {o : List Int} {i : Nat} {x2 x3 x5 x6 x7 x8 x9 x10 : Int} (ht0 : 0 ≤ t) (ht : t ≤ 5) : ∀ (n : Nat) {h : Nat × Nat}, zsh (zat o) i n = some h → i + n ≤ 220 → ((i + n : Nat) : Int) ≤ x3 → (∀ j : Nat, j < i + n → s 346 (400 * t + ((j : Nat) : Int)) = zat o j) → (∀ k : Int, 0 ≤ k → k ≤ 10 → s 353 k = ws k) → s 344 18 = 0 → ∃ s' y5 y6 y7 y9, (∀ R, zA xm_c174 5 [344, t, x2, x3, ((i + n : Nat) : Int), y5, y6, y7, x8, y9, x10] [] s' R → zA xm_c174 5 [344, t, x2, x3, ((i : Nat) : Int), x5, x6, x7, x8, x9, x10] [] s R) ∧ zRk (zvs ws (zat o) i n) s' ∧ zKk s s'
  | 0, h, hs, h2, hx, hc, hw, h18 => ⟨s, x5, x6, x7, x9, fun R z => z, ⟨fun j hj => absurd hj (Nat.not_lt_zero j), h18⟩, fun _ _ _ _ => rfl⟩
  | n + 1, h, hs, h2, hx, hc, hw, h18 => by
    obtain ⟨h0, p1, p2⟩ := zsh_pre hs
    obtain ⟨s1, y5, y6, y7, y9, a1, a2, a3⟩ := zq_run (x2 := x2) (x3 := x3) (x5 := x5) (x6 := x6) (x7 := x7) (x8 := x8) (x9 := x9) (x10 := x10) ht0 ht n p1 (by omega) (by omega) (fun j hj => hc j (by omega)) hw h18
    obtain ⟨s2, u5, u6, u7, u9, b1, b2, b3⟩ := zq_step (x2 := x2) (x3 := x3) (x5 := y5) (x6 := y6) (x7 := y7) (x8 := x8) (x9 := y9) (x10 := x10) (i := i + n) (c := zat o (i + n)) (ws := ws) ht0 ht (by omega) (by omega) (by rw [a3 _ _ (by decide) (by omega)]; exact hc (i + n) (by omega)) (fun k k0 k1 => by rw [a3 _ _ (by decide) (by omega)]; exact hw k k0 k1) a2 (zvh_n n p1) p2
    exact ⟨s2, u5, u6, u7, u9, fun R z => a1 R (b1 R z), b2, zKk_t a3 b3⟩
theorem zq_comp {ws : Int → Int} {o : List Int} {i n : Nat} {h : Nat × Nat} (ht0 : 0 ≤ t) (ht : t ≤ 5) (hs : zsh (zat o) i n = some h) (h1 : h.1 + h.2 = 1) (h2 : i + n ≤ 220) (hc : ∀ j : Nat, j < i + n → s 346 (400 * t + ((j : Nat) : Int)) = zat o j) (hw : ∀ k : Int, 0 ≤ k → k ≤ 10 → s 353 k = ws k) : ∃ s', zE xm_c174 [344, t, ((i : Nat) : Int), ((i + n : Nat) : Int), 0, 0, 0, 0, 0, 0, 0] s (zsv ws (zat o) i n) s' ∧ zKk s s' := by
  obtain ⟨s1, y5, y6, y7, y9, a1, a2, a3⟩ := zq_run (s := zu s 344 18 0) (x2 := ((i : Nat) : Int)) (x3 := ((i + n : Nat) : Int)) (x5 := 0) (x6 := 0) (x7 := 0) (x8 := 0) (x9 := 0) (x10 := 0) (ws := ws) ht0 ht n hs h2 (Int.le_refl _) (fun j hj => by rw [zu_cell (by decide)]; exact hc j hj) (fun k k0 k1 => by rw [zu_cell (by decide)]; exact hw k k0 k1) zu_hit
  have hz := (zsv_1 (ws := ws) hs h1).1
  rw [hz] at a2
  obtain ⟨s2, p1, p2, p3⟩ := zq_pop a2 (Nat.zero_le _)
  refine ⟨s2, zb_174_0 (a1 _ (zb_174_5 (fun q => absurd q (Int.lt_irrefl _)) (fun _ => zb_174_71 p1 (zb_174_73 rfl)))), fun a b ha hb => ?_⟩
  rw [p3 a b ha hb, a3 a b ha hb]
  unfold zu
  rw [if_neg hb]
theorem zq_sum {w : zW} {ws : Int → Int} (ht0 : 0 ≤ t) (ht : t ≤ 5) (hcr : zCr t w.2.1 s) (hmk : zMk t w.2.2.2.2 s) (hlen : w.2.1.length ≤ 220) (hg : zGd w.2.1 w.2.2.2.2) (he : w.2.2.2.2.length % 2 = 0) (h24 : w.2.2.2.2.length ≤ 24) (hw : ∀ k : Int, 0 ≤ k → k ≤ 10 → s 353 k = ws k) : ∃ s', zE xm_c193 [344, t, 0, 0] s (zsu ws (zat w.2.1) w.2.2.2.2 (w.2.2.2.2.length / 2) 0) s' ∧ zKk s s' := by
  obtain ⟨c1, c2⟩ := hcr
  obtain ⟨d1, d2⟩ := hmk
  have m0 : ∀ i : Nat, 2 * i < w.2.2.2.2.length → zms w.2.2.2.2 i = ((zmk w.2.2.2.2 (2 * i) : Nat) : Int) := fun i hi => by
    match i, hi with
    | 0, hi => rfl
    | i + 1, hi =>
      obtain ⟨g1, -, -, -⟩ := hg (2 * i + 1) (by omega)
      show zat w.2.2.2.2 (2 * i + 1) = _
      rw [g1]
      rfl
  have loop : ∀ (k i : Nat) (s1 : zS) (x3 : Int), k + i = w.2.2.2.2.length / 2 → zKk s s1 → ∃ s', zA xm_c193 2 [344, t, ((i : Nat) : Int), x3] [] s1 (zsu ws (zat w.2.1) w.2.2.2.2 k i, s') ∧ zKk s s' := by
    intro k
    induction k with
    | zero =>
      intro i s1 x3 hk hf
      refine ⟨s1, zb_193_2 (fun q => ?_) (fun _ => zb_193_57 rfl), hf⟩
      have q : ((i : Nat) : Int) < s1 349 t := q
      rw [hf 349 t (by decide) (by omega), d1] at q
      omega
    | succ k ih =>
      intro i s1 x3 hk hf
      have hi : 2 * i + 1 < w.2.2.2.2.length := by omega
      obtain ⟨g1, g2, g3, g4⟩ := hg (2 * i) (by omega)
      obtain ⟨g5, g6, g7, g8⟩ := hg (2 * i + 1) hi
      have g4 := (g4.resolve_right (fun z => by omega)).2
      have g8 := (g8.resolve_left (fun z => by omega)).2
      obtain ⟨f0, f1, f2, f3⟩ := d2 i hi
      have x3e : zw ((zw (48 * t)) + (zw (4 * ((i : Nat) : Int)))) = 48 * t + 4 * ((i : Nat) : Int) := by
        rw [zw_id (x := 48 * t) (by omega) (by omega), zw_id (x := 4 * ((i : Nat) : Int)) (by omega) (by omega), zw_id (by omega) (by omega)]
      have z1 : zw (48 * t + 4 * ((i : Nat) : Int) + 1) = 48 * t + 4 * ((i : Nat) : Int) + 1 := zw_id (by omega) (by omega)
      have z2 : zw (48 * t + 4 * ((i : Nat) : Int) + 2) = 48 * t + 4 * ((i : Nat) : Int) + 2 := zw_id (by omega) (by omega)
      have z3 : zw (48 * t + 4 * ((i : Nat) : Int) + 3) = 48 * t + 4 * ((i : Nat) : Int) + 3 := zw_id (by omega) (by omega)
      have zi : zw (((i : Nat) : Int) + 1) = ((i + 1 : Nat) : Int) := zw_id (by omega) (by omega)
      rw [m0 i (by omega)] at f0
      rw [g1] at f1
      rw [g1, g5] at f2
      rw [g5] at f3
      have k8 : ∀ s2 : zS, zKk s s2 → ∀ j, s2 348 j = s 348 j := fun s2 h2 j => h2 348 j (by decide) (by omega)
      have cd : ∀ j : Nat, j < w.2.1.length → ∀ s2 : zS, zKk s s2 → s2 346 (400 * t + ((j : Nat) : Int)) = zat w.2.1 j := fun j hj s2 h2 => by
        rw [h2 _ _ (by decide) (by omega)]
        exact c2 j hj
      have wd2 : ∀ s2 : zS, zKk s s2 → ∀ k : Int, 0 ≤ k → k ≤ 10 → s2 353 k = ws k := fun s2 h2 k k0 k1 => by
        rw [h2 _ _ (by decide) (by omega)]
        exact hw k k0 k1
      have pre : ∀ R, zA xm_c193 8 [344, t, ((i : Nat) : Int), x3] [] s1 R → zA xm_c193 2 [344, t, ((i : Nat) : Int), x3] [] s1 R := fun R z => zb_193_2 (fun _ => z) (fun q => absurd (show ((i : Nat) : Int) < s1 349 t by rw [hf 349 t (by decide) (by omega), d1]; omega) q)
      -- the sum
      have sum : ∀ s2 : zS, zKk s s2 → ∃ s', zA xm_c193 41 [344, t, ((i : Nat) : Int), 48 * t + 4 * ((i : Nat) : Int)] [] s2 (zsv ws (zat w.2.1) (zmk w.2.2.2.2 (2 * i)) (zmk w.2.2.2.2 (2 * i + 1) - zmk w.2.2.2.2 (2 * i)), s') ∧ zKk s s' := fun s2 h2 => by
        obtain ⟨s', u1, u2⟩ := zq_comp (s := s2) (ws := ws) ht0 ht g4 rfl (by omega) (fun j hj => cd j (by omega) s2 h2) (wd2 s2 h2)
        rw [show zmk w.2.2.2.2 (2 * i) + (zmk w.2.2.2.2 (2 * i + 1) - zmk w.2.2.2.2 (2 * i)) = zmk w.2.2.2.2 (2 * i + 1) by omega] at u1
        refine ⟨s', zb_193_41 (s1 := s') (r := zsv ws (zat w.2.1) (zmk w.2.2.2.2 (2 * i)) (zmk w.2.2.2.2 (2 * i + 1) - zmk w.2.2.2.2 (2 * i))) ?_ (zb_193_54 rfl), zKk_t h2 u2⟩
        show zE xm_c174 [344, t, s2 348 (48 * t + 4 * ((i : Nat) : Int)), s2 348 (zw (48 * t + 4 * ((i : Nat) : Int) + 1)), 0, 0, 0, 0, 0, 0, 0] s2 _ s'
        rw [z1, k8 s2 h2, k8 s2 h2, f0, f1]
        exact u1
      show ∃ s', zA xm_c193 2 [344, t, ((i : Nat) : Int), x3] [] s1 ((if zmk w.2.2.2.2 (2 * i + 2) = zmk w.2.2.2.2 (2 * i + 1) ∨ zsv ws (zat w.2.1) (zmk w.2.2.2.2 (2 * i + 1)) (zmk w.2.2.2.2 (2 * i + 2) - zmk w.2.2.2.2 (2 * i + 1)) = 1 then zsv ws (zat w.2.1) (zmk w.2.2.2.2 (2 * i)) (zmk w.2.2.2.2 (2 * i + 1) - zmk w.2.2.2.2 (2 * i)) else zsu ws (zat w.2.1) w.2.2.2.2 k (i + 1)), s') ∧ zKk s s'
      by_cases em : zmk w.2.2.2.2 (2 * i + 2) = zmk w.2.2.2.2 (2 * i + 1)
      · rw [if_pos (Or.inl em)]
        have em2 : ((zmk w.2.2.2.2 (2 * i + 1) : Nat) : Int) = ((zmk w.2.2.2.2 (2 * i + 1 + 1) : Nat) : Int) := by
          show ((zmk w.2.2.2.2 (2 * i + 1) : Nat) : Int) = ((zmk w.2.2.2.2 (2 * i + 2) : Nat) : Int)
          rw [em]
        rw [if_pos em2] at f2
        have hneg : s1 (344 + 4) (zw ((zw ((zw (48 * t)) + (zw (4 * ((i : Nat) : Int))))) + 2)) < 0 := by
          show s1 348 _ < 0
          rw [x3e, z2, k8 s1 hf, f2]
          decide
        obtain ⟨s', u1, u2⟩ := sum s1 hf
        exact ⟨s', pre _ (zb_193_8 (fun _ => by rw [x3e]; exact u1) (fun q => absurd hneg q)), u2⟩
      · have g8 := g8.resolve_left em
        have em2 : ¬ ((zmk w.2.2.2.2 (2 * i + 1) : Nat) : Int) = ((zmk w.2.2.2.2 (2 * i + 1 + 1) : Nat) : Int) := fun q => em (by
          have q : ((zmk w.2.2.2.2 (2 * i + 1) : Nat) : Int) = ((zmk w.2.2.2.2 (2 * i + 2) : Nat) : Int) := q
          omega)
        rw [if_neg em2] at f2
        have hneg : ¬ s1 (344 + 4) (zw ((zw ((zw (48 * t)) + (zw (4 * ((i : Nat) : Int))))) + 2)) < 0 := by
          show ¬ s1 348 _ < 0
          rw [x3e, z2, k8 s1 hf, f2]
          omega
        obtain ⟨s2, u1, u2⟩ := zq_comp (s := s1) (ws := ws) ht0 ht g8 rfl (by omega) (fun j hj => cd j (by omega) s1 hf) (wd2 s1 hf)
        rw [show zmk w.2.2.2.2 (2 * i + 1) + (zmk w.2.2.2.2 (2 * i + 1 + 1) - zmk w.2.2.2.2 (2 * i + 1)) = zmk w.2.2.2.2 (2 * i + 1 + 1) by omega] at u1
        have hf2 : zKk s s2 := zKk_t hf u2
        have hrun : zE xm_c174 [344, t, s1 (344 + 4) (zw ((48 * t + 4 * ((i : Nat) : Int)) + 2)), s1 (344 + 4) (zw ((48 * t + 4 * ((i : Nat) : Int)) + 3)), 0, 0, 0, 0, 0, 0, 0] s1 (zsv ws (zat w.2.1) (zmk w.2.2.2.2 (2 * i + 1)) (zmk w.2.2.2.2 (2 * i + 2) - zmk w.2.2.2.2 (2 * i + 1))) s2 := by
          show zE xm_c174 [344, t, s1 348 (zw ((48 * t + 4 * ((i : Nat) : Int)) + 2)), s1 348 (zw ((48 * t + 4 * ((i : Nat) : Int)) + 3)), 0, 0, 0, 0, 0, 0, 0] s1 _ s2
          rw [z2, z3, k8 s1 hf, k8 s1 hf, f2, f3]
          exact u1
        generalize hy : zsv ws (zat w.2.1) (zmk w.2.2.2.2 (2 * i + 1)) (zmk w.2.2.2.2 (2 * i + 2) - zmk w.2.2.2.2 (2 * i + 1)) = y at hrun
        have to38 : ∀ R, zA xm_c193 38 [344, t, ((i : Nat) : Int), 48 * t + 4 * ((i : Nat) : Int)] [(true, y)] s2 R → zA xm_c193 2 [344, t, ((i : Nat) : Int), x3] [] s1 R := fun R z => pre R (zb_193_8 (fun q => absurd q hneg) (fun _ => by rw [x3e]; exact zb_193_23 hrun z))
        by_cases e1y : y = 1
        · rw [if_pos (Or.inr e1y)]
          obtain ⟨s', u3, u4⟩ := sum s2 hf2
          exact ⟨s', to38 _ (zb_193_38 (fun _ => u3) (fun q => absurd (zsg_0.mpr e1y) q)), u4⟩
        · rw [if_neg (fun z => z.elim em e1y)]
          obtain ⟨s', u3, u4⟩ := ih (i + 1) s2 (48 * t + 4 * ((i : Nat) : Int)) (by omega) hf2
          refine ⟨s', to38 _ (zb_193_38 (fun q => absurd (zsg_0.mp q) e1y) (fun _ => zb_193_55 ?_)), u4⟩
          rw [zi]
          exact u3
  obtain ⟨s', u1, u2⟩ := loop (w.2.2.2.2.length / 2) 0 s 0 (by omega) (fun _ _ _ _ => rfl)
  exact ⟨s', zb_193_0 u1, u2⟩
end XL
