/-! the class's sum of a rule -/
def zsv (ws : Int → Int) (f : Nat → Int) (i n : Nat) : Int := (zvs ws f i n).headD 0
/-- the sum of the first clause without a test, or whose test holds -/
def zsu (ws : Int → Int) (f : Nat → Int) (M : List Int) : Nat → Nat → Int
  | 0, _ => 0
  | k + 1, i => if zmk M (2 * i + 2) = zmk M (2 * i + 1) ∨ zsv ws f (zmk M (2 * i + 1)) (zmk M (2 * i + 2) - zmk M (2 * i + 1)) = 1 then zsv ws f (zmk M (2 * i)) (zmk M (2 * i + 1) - zmk M (2 * i)) else zsu ws f M k (i + 1)
theorem zsv_1 {ws : Int → Int} {f : Nat → Int} {i n : Nat} {h : Nat × Nat} (hs : zsh f i n = some h) (h1 : h.1 + h.2 = 1) : zvs ws f i n = [zsv ws f i n] ∧ (h.1 = 0 → z01 (zsv ws f i n)) := by
  have hv := zvh_n (ws := ws) n hs
  obtain ⟨v1, v2, v3⟩ := hv
  unfold zsv
  match hz : zvs ws f i n, v1, v3 with
  | [], v1, v3 =>
    have v1 : 0 = h.1 + h.2 := v1
    omega
  | [x], v1, v3 =>
    refine ⟨rfl, fun q => ?_⟩
    rw [q] at v3
    exact v3 x List.mem_cons_self
  | y :: x :: v, v1, v3 =>
    have v1 : v.length + 1 + 1 = h.1 + h.2 := v1
    omega
section XK
variable {r wd st : Int} {s : zS} {ws : Int → Int} {o : List Int}
theorem zk_run {x1 x2 x7 x8 x9 x10 x11 x12 : Int} {i : Nat} (hC : zkC r wd st) : ∀ (n : Nat) {h : Nat × Nat}, zsh (zat o) i n = some h → i + n ≤ 220 → ((i + n : Nat) : Int) ≤ x2 → (∀ j : Nat, j < i + n → s (r + 1) ((j : Nat) : Int) = zcm (zat o j)) → (∀ k : Int, 0 ≤ k → k ≤ 10 → s wd k = ws k) → ∃ s' y7 y8 y9 y11, (∀ R, zA xm_c64 4 [r, x1, x2, wd, st, (((zvs ws (zat o) i n).length : Nat) : Int), ((i + n : Nat) : Int), y7, y8, y9, x10, y11, x12] [] s' R → zA xm_c64 4 [r, x1, x2, wd, st, 0, ((i : Nat) : Int), x7, x8, x9, x10, x11, x12] [] s R) ∧ zVk st (zvs ws (zat o) i n) s' ∧ ∀ a b, a ≠ st → s' a b = s a b
  | 0, h, hs, h2, hx, hc, hw => ⟨s, x7, x8, x9, x11, fun R z => z, fun j hj => absurd hj (Nat.not_lt_zero j), fun _ _ _ => rfl⟩
  | n + 1, h, hs, h2, hx, hc, hw => by
    obtain ⟨h0, p1, p2⟩ := zsh_pre hs
    obtain ⟨s1, y7, y8, y9, y11, a1, a2, a3⟩ := zk_run (x1 := x1) (x2 := x2) (x7 := x7) (x8 := x8) (x9 := x9) (x10 := x10) (x11 := x11) (x12 := x12) hC n p1 (by omega) (by omega) (fun j hj => hc j (by omega)) hw
    have hst := hC.2.2.2.1
    have hst2 := hC.2.2.2.2.1
    obtain ⟨s2, u7, u8, u9, u11, b1, b2, b3⟩ := zk_step (x1 := x1) (x2 := x2) (x7 := y7) (x8 := y8) (x9 := y9) (x10 := x10) (x11 := y11) (x12 := x12) (i := i + n) (c := zat o (i + n)) (ws := ws) hC (by omega) (by omega) (by rw [a3 _ _ (fun q => hst q.symm)]; exact hc (i + n) (by omega)) (fun k k0 k1 => by rw [a3 _ _ (fun q => hst2 q.symm)]; exact hw k k0 k1) a2 (zvh_n n p1) p2
    exact ⟨s2, u7, u8, u9, u11, fun R z => a1 R (b1 R z), b2, fun a b ha => (b3 a b ha).trans (a3 a b ha)⟩
theorem zk_comp {i n : Nat} {h : Nat × Nat} (hC : zkC r wd st) (hs : zsh (zat o) i n = some h) (h1 : h.1 + h.2 = 1) (h2 : i + n ≤ 220) (hc : ∀ j : Nat, j < i + n → s (r + 1) ((j : Nat) : Int) = zcm (zat o j)) (hw : ∀ k : Int, 0 ≤ k → k ≤ 10 → s wd k = ws k) : ∃ s', zE xm_c64 [r, ((i : Nat) : Int), ((i + n : Nat) : Int), wd, st, 0, 0, 0, 0, 0, 0, 0, 0] s (zsv ws (zat o) i n) s' ∧ ∀ a b, a ≠ st → s' a b = s a b := by
  obtain ⟨s', y7, y8, y9, y11, a1, a2, a3⟩ := zk_run (x1 := ((i : Nat) : Int)) (x2 := ((i + n : Nat) : Int)) (x7 := 0) (x8 := 0) (x9 := 0) (x10 := 0) (x11 := 0) (x12 := 0) (ws := ws) hC n hs h2 (Int.le_refl _) hc hw
  have hz := (zsv_1 (ws := ws) hs h1).1
  rw [hz] at a1 a2
  have e0 : s' st 0 = zsv ws (zat o) i n := a2 0 Nat.one_pos
  exact ⟨s', zb_64_0 (a1 _ (zb_64_4 (fun q => absurd q (Int.lt_irrefl _)) (fun _ => zb_64_230 (fun _ => zb_64_232 (by rw [e0])) (fun q => absurd (show (0 : Int) < ((1 : Nat) : Int) by decide) q)))), a3⟩
theorem zk_sum {w : zW} (hC : zkC r wd st) (hne : st ≠ r ∧ st ≠ r + 2 ∧ st ≠ r + 3) (hd : zCd r w s) (hlen : w.2.1.length ≤ 220) (hg : zGd w.2.1 w.2.2.2.2) (he : w.2.2.2.2.length % 2 = 0) (h24 : w.2.2.2.2.length ≤ 24) (hw : ∀ k : Int, 0 ≤ k → k ≤ 10 → s wd k = ws k) : ∃ s', zE xm_c63 [r, wd, st, 0] s (zsu ws (zat w.2.1) w.2.2.2.2 (w.2.2.2.2.length / 2) 0) s' ∧ ∀ a b, a ≠ st → s' a b = s a b := by
  obtain ⟨⟨c1, c2⟩, c3, c4, c5⟩ := hd
  have n1 := hC.2.2.2.1
  have n2 := hC.2.2.2.2.1
  -- the marks as they stand
  have mk : ∀ i : Nat, 2 * i + 1 < w.2.2.2.2.length → s (r + 3) ((i : Nat) : Int) = ((zmk w.2.2.2.2 (2 * i + 1) : Nat) : Int) ∧ s (r + 2) ((i + 1 : Nat) : Int) = ((zmk w.2.2.2.2 (2 * i + 2) : Nat) : Int) := fun i hi => by
    obtain ⟨g1, -, g3, -⟩ := hg (2 * i) (by omega)
    obtain ⟨g4, -, g6, -⟩ := hg (2 * i + 1) (by omega)
    obtain ⟨m1, m2⟩ := c5 i (by omega)
    have m2 := m2 hi
    rw [g1] at m1
    rw [g4] at m2
    refine ⟨?_, ?_⟩
    · rw [m1, Int.min_eq_left (by omega)]
    · rw [m2, Int.min_eq_left (by omega)]
  have m0 : ∀ i : Nat, 2 * i < w.2.2.2.2.length → s (r + 2) ((i : Nat) : Int) = ((zmk w.2.2.2.2 (2 * i) : Nat) : Int) := fun i hi => by
    match i, hi with
    | 0, hi => exact c4
    | i + 1, hi =>
      rw [(mk i (by omega)).2]
      rfl
  have loop : ∀ (k i : Nat) (s1 : zS), k + i = w.2.2.2.2.length / 2 → (∀ a b, a ≠ st → s1 a b = s a b) → ∃ s', zA xm_c63 2 [r, wd, st, ((i : Nat) : Int)] [] s1 (zsu ws (zat w.2.1) w.2.2.2.2 k i, s') ∧ ∀ a b, a ≠ st → s' a b = s a b := by
    intro k
    induction k with
    | zero =>
      intro i s1 hk hf
      refine ⟨s1, zb_63_2 (fun q => ?_) (fun _ => zb_63_52 rfl), hf⟩
      rw [hf r 4 (fun q => hne.1 q.symm), c3] at q
      omega
    | succ k ih =>
      intro i s1 hk hf
      have hi : 2 * i + 1 < w.2.2.2.2.length := by omega
      obtain ⟨g1, g2, g3, g4⟩ := hg (2 * i) (by omega)
      obtain ⟨g5, g6, g7, g8⟩ := hg (2 * i + 1) hi
      have g4 := (g4.resolve_right (fun z => by omega)).2
      have g8 := (g8.resolve_left (fun z => by omega)).2
      have e1 : s1 (r + 3) ((i : Nat) : Int) = ((zmk w.2.2.2.2 (2 * i + 1) : Nat) : Int) := by rw [hf _ _ (fun q => hne.2.2 q.symm)]; exact (mk i hi).1
      have e2 : s1 (r + 2) (zw (((i : Nat) : Int) + 1)) = ((zmk w.2.2.2.2 (2 * i + 2) : Nat) : Int) := by
        rw [zw_id (by omega) (by omega), hf _ _ (fun q => hne.2.1 q.symm)]
        exact (mk i hi).2
      have e0 : s1 (r + 2) ((i : Nat) : Int) = ((zmk w.2.2.2.2 (2 * i) : Nat) : Int) := by rw [hf _ _ (fun q => hne.2.1 q.symm)]; exact m0 i (by omega)
      have cd : ∀ j : Nat, j < w.2.1.length → ∀ s2 : zS, (∀ a b, a ≠ st → s2 a b = s a b) → s2 (r + 1) ((j : Nat) : Int) = zcm (zat w.2.1 j) := fun j hj s2 h2 => by
        rw [h2 _ _ (fun q => n1 q.symm)]
        exact c2 j hj (by omega)
      have wd2 : ∀ s2 : zS, (∀ a b, a ≠ st → s2 a b = s a b) → ∀ k : Int, 0 ≤ k → k ≤ 10 → s2 wd k = ws k := fun s2 h2 k k0 k1 => by
        rw [h2 _ _ (fun q => n2 q.symm)]
        exact hw k k0 k1
      have pre : ∀ R, zA xm_c63 9 [r, wd, st, ((i : Nat) : Int)] [] s1 R → zA xm_c63 2 [r, wd, st, ((i : Nat) : Int)] [] s1 R := fun R z => zb_63_2 (fun _ => zb_63_6 (fun _ => z) (fun q => absurd (show ((i : Nat) : Int) < 12 by omega) q)) (fun q => absurd (by rw [hf r 4 (fun q => hne.1 q.symm), c3]; omega) q)
      -- the sum
      have sum : ∀ s2 : zS, (∀ a b, a ≠ st → s2 a b = s a b) → ∃ s', zA xm_c63 37 [r, wd, st, ((i : Nat) : Int)] [] s2 (zsv ws (zat w.2.1) (zmk w.2.2.2.2 (2 * i)) (zmk w.2.2.2.2 (2 * i + 1) - zmk w.2.2.2.2 (2 * i)), s') ∧ ∀ a b, a ≠ st → s' a b = s a b := fun s2 h2 => by
        obtain ⟨s', u1, u2⟩ := zk_comp (s := s2) (ws := ws) hC g4 rfl (by omega) (fun j hj => cd j (by omega) s2 h2) (wd2 s2 h2)
        rw [show zmk w.2.2.2.2 (2 * i) + (zmk w.2.2.2.2 (2 * i + 1) - zmk w.2.2.2.2 (2 * i)) = zmk w.2.2.2.2 (2 * i + 1) by omega] at u1
        refine ⟨s', zb_63_37 (s1 := s') (r := zsv ws (zat w.2.1) (zmk w.2.2.2.2 (2 * i)) (zmk w.2.2.2.2 (2 * i + 1) - zmk w.2.2.2.2 (2 * i))) ?_ (zb_63_49 rfl), fun a b ha => (u2 a b ha).trans (h2 a b ha)⟩
        rw [h2 _ _ (fun q => hne.2.1 q.symm), h2 _ _ (fun q => hne.2.2 q.symm), m0 i (by omega), (mk i hi).1]
        exact u1
      show ∃ s', zA xm_c63 2 [r, wd, st, ((i : Nat) : Int)] [] s1 ((if zmk w.2.2.2.2 (2 * i + 2) = zmk w.2.2.2.2 (2 * i + 1) ∨ zsv ws (zat w.2.1) (zmk w.2.2.2.2 (2 * i + 1)) (zmk w.2.2.2.2 (2 * i + 2) - zmk w.2.2.2.2 (2 * i + 1)) = 1 then zsv ws (zat w.2.1) (zmk w.2.2.2.2 (2 * i)) (zmk w.2.2.2.2 (2 * i + 1) - zmk w.2.2.2.2 (2 * i)) else zsu ws (zat w.2.1) w.2.2.2.2 k (i + 1)), s') ∧ ∀ a b, a ≠ st → s' a b = s a b
      by_cases em : zmk w.2.2.2.2 (2 * i + 2) = zmk w.2.2.2.2 (2 * i + 1)
      · rw [if_pos (Or.inl em)]
        obtain ⟨s', u1, u2⟩ := sum s1 hf
        exact ⟨s', pre _ (zb_63_9 (fun _ => u1) (fun q => absurd (by rw [e1, e2, em]) q)), u2⟩
      · have g8 := g8.resolve_left em
        obtain ⟨s2, u1, u2⟩ := zk_comp (s := s1) (ws := ws) hC g8 rfl (by omega) (fun j hj => cd j (by omega) s1 hf) (wd2 s1 hf)
        rw [show zmk w.2.2.2.2 (2 * i + 1) + (zmk w.2.2.2.2 (2 * i + 1 + 1) - zmk w.2.2.2.2 (2 * i + 1)) = zmk w.2.2.2.2 (2 * i + 1 + 1) by omega] at u1
        have hf2 : ∀ a b, a ≠ st → s2 a b = s a b := fun a b ha => (u2 a b ha).trans (hf a b ha)
        have h01 := (zsv_1 (ws := ws) g8 rfl).2 rfl
        have h01 : z01 (zsv ws (zat w.2.1) (zmk w.2.2.2.2 (2 * i + 1)) (zmk w.2.2.2.2 (2 * i + 2) - zmk w.2.2.2.2 (2 * i + 1))) := h01
        have u1 : zE xm_c64 [r, ((zmk w.2.2.2.2 (2 * i + 1) : Nat) : Int), ((zmk w.2.2.2.2 (2 * i + 2) : Nat) : Int), wd, st, 0, 0, 0, 0, 0, 0, 0, 0] s1 (zsv ws (zat w.2.1) (zmk w.2.2.2.2 (2 * i + 1)) (zmk w.2.2.2.2 (2 * i + 2) - zmk w.2.2.2.2 (2 * i + 1))) s2 := u1
        generalize hy : zsv ws (zat w.2.1) (zmk w.2.2.2.2 (2 * i + 1)) (zmk w.2.2.2.2 (2 * i + 2) - zmk w.2.2.2.2 (2 * i + 1)) = y at h01 u1
        have to34 : ∀ R, zA xm_c63 34 [r, wd, st, ((i : Nat) : Int)] [(true, y)] s2 R → zA xm_c63 2 [r, wd, st, ((i : Nat) : Int)] [] s1 R := fun R z => pre R (zb_63_9 (fun q => absurd (by rw [e1, e2] at q; omega) em) (fun _ => zb_63_20 (r := y) (s1 := s2) (by rw [e1, e2]; exact u1) z))
        by_cases e1y : y = 1
        · rw [if_pos (Or.inr e1y)]
          obtain ⟨s', u3, u4⟩ := sum s2 hf2
          exact ⟨s', to34 _ (zb_63_34 (fun q => absurd (zsg_0.mp q) (by omega)) (fun _ => u3)), u4⟩
        · rw [if_neg (fun z => z.elim em e1y)]
          have e0y : y = 0 := h01.resolve_right e1y
          obtain ⟨s', u3, u4⟩ := ih (i + 1) s2 (by omega) hf2
          refine ⟨s', to34 _ (zb_63_34 (fun _ => zb_63_50 ?_) (fun q => absurd (zsg_0.mpr e0y) q)), u4⟩
          rw [zw_id (by omega) (by omega)]
          exact u3
  obtain ⟨s', u1, u2⟩ := loop (w.2.2.2.2.length / 2) 0 s (by omega) (fun _ _ _ => rfl)
  exact ⟨s', zb_63_0 u1, u2⟩
end XK
