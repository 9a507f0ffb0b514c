/-! the class's reader of houses on the flat machine: state, numbers, words -/
def zJh (s0 s1 : zS) : Prop := s1 8 1 = s0 8 1 ∧ ∀ x y, x ≠ 8 → ¬ (30 ≤ x ∧ x < 38) → s1 x y = s0 x y
/-- the class's arrays of a house against what is told -/
def zHx (R : zHS) (s : zS) : Prop := (s 30 5 = R 8 ∧ s 30 6 = R 9) ∧ (∀ p : Nat, p < 7 → (((p : Nat) : Int) < R 1 → s 31 ((p : Nat) : Int) = R (10 + 11 * ((p : Nat) : Int)) ∧ s 32 ((p : Nat) : Int) = R (10 + 11 * ((p : Nat) : Int) + 3)) ∧ s 33 ((p : Nat) : Int) = (if ((p : Nat) : Int) < R 1 then R (10 + 11 * ((p : Nat) : Int) + 5) else 0) ∧ s 34 ((p : Nat) : Int) = (if ((p : Nat) : Int) < R 1 then R (10 + 11 * ((p : Nat) : Int) + 7) else 0) ∧ zbt (s 30 4) ((p : Nat) : Int) = (if ((p : Nat) : Int) < R 1 then R (10 + 11 * ((p : Nat) : Int) + 6) else 0)) ∧ ∀ e : Nat, ((e : Nat) : Int) < R 2 → s 35 ((e : Nat) : Int) = R (87 + 3 * ((e : Nat) : Int)) ∧ s 36 ((e : Nat) : Int) = R (87 + 3 * ((e : Nat) : Int) + 1) ∧ s 37 ((e : Nat) : Int) = R (87 + 3 * ((e : Nat) : Int) + 2)
/-- the class's record of a house against what is told -/
def zHr (R : zHS) (s : zS) : Prop := (s 30 0 = R 0 ∧ s 30 1 = R 1 ∧ s 30 2 = R 2 ∧ s 30 3 = R 3) ∧ s 30 7 = R 5 ∧ s 30 8 = R 6 ∧ s 30 9 = R 7 ∧ zHx R s
theorem zuo2 {s : zS} {j i v y : Int} : zu s j i v j y = if y = i then v else s j y := by
  unfold zu
  by_cases c : y = i
  · rw [if_pos ⟨rfl, c⟩, if_pos c]
  · rw [if_neg (fun q => c q.2), if_neg c]
section HV
variable {R R' : zHS} {s s' : zS} {a c f t v x y i j k : Int}
theorem zHr_c (h : zHr R s) (e : ∀ x y, 30 ≤ x → x < 38 → s' x y = s x y) : zHr R s' := by
  have f : ∀ x, 30 ≤ x → x < 38 → s' x = s x := fun x h1 h2 => funext (fun y => e x y h1 h2)
  unfold zHr zHx at h ⊢
  rw [f 30 (by decide) (by decide), f 31 (by decide) (by decide), f 32 (by decide) (by decide), f 33 (by decide) (by decide), f 34 (by decide) (by decide), f 35 (by decide) (by decide), f 36 (by decide) (by decide), f 37 (by decide) (by decide)]
  exact h
/-- no array is changed -/
theorem zHr_sc (h : zHr R s) (r1 : R 1 ≤ 7) (r2 : R 2 ≤ 10) (a : ∀ x, 31 ≤ x → x ≤ 37 → s' x = s x) (a4 : s' 30 4 = s 30 4) (o : ∀ k, (k = 1 ∨ k = 2 ∨ 10 ≤ k) → R' k = R k) (hd : (s' 30 0 = R' 0 ∧ s' 30 1 = R' 1 ∧ s' 30 2 = R' 2 ∧ s' 30 3 = R' 3) ∧ s' 30 7 = R' 5 ∧ s' 30 8 = R' 6 ∧ s' 30 9 = R' 7 ∧ s' 30 5 = R' 8 ∧ s' 30 6 = R' 9) : zHr R' s' := by
  obtain ⟨d0, d1, d2, d3, d4⟩ := hd
  obtain ⟨-, -, -, -, -, hp, he⟩ := h
  refine ⟨d0, d1, d2, d3, d4, fun p p7 => ?_, fun e he' => ?_⟩
  · rw [o 1 (Or.inl rfl), a 31 (by decide) (by decide), a 32 (by decide) (by decide), a 33 (by decide) (by decide), a 34 (by decide) (by decide), a4, o (10 + 11 * ((p : Nat) : Int)) (by omega), o (10 + 11 * ((p : Nat) : Int) + 3) (by omega), o (10 + 11 * ((p : Nat) : Int) + 5) (by omega), o (10 + 11 * ((p : Nat) : Int) + 7) (by omega), o (10 + 11 * ((p : Nat) : Int) + 6) (by omega)]
    exact hp p p7
  · rw [o 2 (Or.inr (Or.inl rfl))] at he'
    rw [a 35 (by decide) (by decide), a 36 (by decide) (by decide), a 37 (by decide) (by decide), o (87 + 3 * ((e : Nat) : Int)) (by omega), o (87 + 3 * ((e : Nat) : Int) + 1) (by omega), o (87 + 3 * ((e : Nat) : Int) + 2) (by omega)]
    exact he e he'
theorem zHr_w0 (h : zHr R s) (r1 : R 1 ≤ 7) (r2 : R 2 ≤ 10) : zHr (zhu R 0 v) (zu s 30 0 v) := zHr_sc h r1 r2 (fun x x1 x2 => funext (fun y => by rw [zu_cell (by omega)])) (by rw [zu_place (by decide)]) (fun k hk => by rw [zhu_m (by omega)]) ⟨⟨by rw [zu_hit, zhu_h], by rw [zu_place (by decide), zhu_m (by decide)]; exact h.1.2.1, by rw [zu_place (by decide), zhu_m (by decide)]; exact h.1.2.2.1, by rw [zu_place (by decide), zhu_m (by decide)]; exact h.1.2.2.2⟩, by rw [zu_place (by decide), zhu_m (by decide)]; exact h.2.1, by rw [zu_place (by decide), zhu_m (by decide)]; exact h.2.2.1, by rw [zu_place (by decide), zhu_m (by decide)]; exact h.2.2.2.1, by rw [zu_place (by decide), zhu_m (by decide)]; exact h.2.2.2.2.1.1, by rw [zu_place (by decide), zhu_m (by decide)]; exact h.2.2.2.2.1.2⟩
theorem zHr_w8 (h : zHr R s) (r1 : R 1 ≤ 7) (r2 : R 2 ≤ 10) : zHr (zhu R 5 v) (zu s 30 7 v) := zHr_sc h r1 r2 (fun x x1 x2 => funext (fun y => by rw [zu_cell (by omega)])) (by rw [zu_place (by decide)]) (fun k hk => by rw [zhu_m (by omega)]) ⟨⟨by rw [zu_place (by decide), zhu_m (by decide)]; exact h.1.1, by rw [zu_place (by decide), zhu_m (by decide)]; exact h.1.2.1, by rw [zu_place (by decide), zhu_m (by decide)]; exact h.1.2.2.1, by rw [zu_place (by decide), zhu_m (by decide)]; exact h.1.2.2.2⟩, by rw [zu_hit, zhu_h], by rw [zu_place (by decide), zhu_m (by decide)]; exact h.2.2.1, by rw [zu_place (by decide), zhu_m (by decide)]; exact h.2.2.2.1, by rw [zu_place (by decide), zhu_m (by decide)]; exact h.2.2.2.2.1.1, by rw [zu_place (by decide), zhu_m (by decide)]; exact h.2.2.2.2.1.2⟩
theorem zHr_w7 (h : zHr R s) (r1 : R 1 ≤ 7) (r2 : R 2 ≤ 10) : zHr (zhu R 8 (zor (R 8) x)) (zu s 30 5 (zor (s 30 5) x)) := zHr_sc h r1 r2 (fun x x1 x2 => funext (fun y => by rw [zu_cell (by omega)])) (by rw [zu_place (by decide)]) (fun k hk => by rw [zhu_m (by omega)]) ⟨⟨by rw [zu_place (by decide), zhu_m (by decide)]; exact h.1.1, by rw [zu_place (by decide), zhu_m (by decide)]; exact h.1.2.1, by rw [zu_place (by decide), zhu_m (by decide)]; exact h.1.2.2.1, by rw [zu_place (by decide), zhu_m (by decide)]; exact h.1.2.2.2⟩, by rw [zu_place (by decide), zhu_m (by decide)]; exact h.2.1, by rw [zu_place (by decide), zhu_m (by decide)]; exact h.2.2.1, by rw [zu_place (by decide), zhu_m (by decide)]; exact h.2.2.2.1, by rw [zu_hit, zhu_h, h.2.2.2.2.1.1], by rw [zu_place (by decide), zhu_m (by decide)]; exact h.2.2.2.2.1.2⟩
theorem zHr_w9 (h : zHr R s) (r1 : R 1 ≤ 7) (r2 : R 2 ≤ 10) : zHr (zhu R 9 (zor (R 9) x)) (zu s 30 6 (zor (s 30 6) x)) := zHr_sc h r1 r2 (fun x x1 x2 => funext (fun y => by rw [zu_cell (by omega)])) (by rw [zu_place (by decide)]) (fun k hk => by rw [zhu_m (by omega)]) ⟨⟨by rw [zu_place (by decide), zhu_m (by decide)]; exact h.1.1, by rw [zu_place (by decide), zhu_m (by decide)]; exact h.1.2.1, by rw [zu_place (by decide), zhu_m (by decide)]; exact h.1.2.2.1, by rw [zu_place (by decide), zhu_m (by decide)]; exact h.1.2.2.2⟩, by rw [zu_place (by decide), zhu_m (by decide)]; exact h.2.1, by rw [zu_place (by decide), zhu_m (by decide)]; exact h.2.2.1, by rw [zu_place (by decide), zhu_m (by decide)]; exact h.2.2.2.1, by rw [zu_place (by decide), zhu_m (by decide)]; exact h.2.2.2.2.1.1, by rw [zu_hit, zhu_h, h.2.2.2.2.1.2]⟩
theorem zHr_w10 (h : zHr R s) (r1 : R 1 ≤ 7) (r2 : R 2 ≤ 10) : zHr (zhu (zhu R 6 x) 7 y) (zu (zu s 30 8 x) 30 9 y) := zHr_sc h r1 r2 (fun x x1 x2 => funext (fun y => by rw [zu_cell (by omega), zu_cell (by omega)])) (by rw [zu_place (by decide), zu_place (by decide)]) (fun k hk => by rw [zhu_m (by omega), zhu_m (by omega)]) ⟨⟨by rw [zu_place (by decide), zu_place (by decide), zhu_m (by decide), zhu_m (by decide)]; exact h.1.1, by rw [zu_place (by decide), zu_place (by decide), zhu_m (by decide), zhu_m (by decide)]; exact h.1.2.1, by rw [zu_place (by decide), zu_place (by decide), zhu_m (by decide), zhu_m (by decide)]; exact h.1.2.2.1, by rw [zu_place (by decide), zu_place (by decide), zhu_m (by decide), zhu_m (by decide)]; exact h.1.2.2.2⟩, by rw [zu_place (by decide), zu_place (by decide), zhu_m (by decide), zhu_m (by decide)]; exact h.2.1, by rw [zu_place (by decide), zu_hit, zhu_m (by decide), zhu_h], by rw [zu_hit, zhu_h], by rw [zu_place (by decide), zu_place (by decide), zhu_m (by decide), zhu_m (by decide)]; exact h.2.2.2.2.1.1, by rw [zu_place (by decide), zu_place (by decide), zhu_m (by decide), zhu_m (by decide)]; exact h.2.2.2.2.1.2⟩
/-- a deaf one -/
theorem zHr_w4 (h : zHr R s) (r1 : R 1 ≤ 7) (r2 : R 2 ≤ 10) (hv : 0 ≤ v ∧ v < R 1) : zHr (zhu R (10 + 11 * v + 6) 1) (zu s 30 4 (zor (s 30 4) (zshl 1 v))) := by
  obtain ⟨n, rfl⟩ := Int.eq_ofNat_of_zero_le hv.1
  have m : ∀ k, ¬ (10 ≤ k ∧ k < 87 ∧ (k - 10) % 11 = 6) → zhu R (10 + 11 * ((n : Nat) : Int) + 6) 1 k = R k := fun k h => zhu_m (by omega)
  have p : ∀ y, y ≠ 4 → zu s 30 4 (zor (s 30 4) (zshl 1 ((n : Nat) : Int))) 30 y = s 30 y := fun y hy => zu_place hy
  have o : ∀ x, x ≠ 30 → zu s 30 4 (zor (s 30 4) (zshl 1 ((n : Nat) : Int))) x = s x := fun x hx => funext (fun y => zu_cell hx)
  obtain ⟨d0, d1, d2, d3, d4, hp, he⟩ := h
  refine ⟨?_, ?_, ?_, ?_, ?_, fun q q7 => ?_, fun e he' => ?_⟩
  · rw [p 0 (by decide), p 1 (by decide), p 2 (by decide), p 3 (by decide), m 0 (by decide), m 1 (by decide), m 2 (by decide), m 3 (by decide)]
    exact d0
  · rw [p 7 (by decide), m 5 (by decide)]
    exact d1
  · rw [p 8 (by decide), m 6 (by decide)]
    exact d2
  · rw [p 9 (by decide), m 7 (by decide)]
    exact d3
  · rw [p 5 (by decide), p 6 (by decide), m 8 (by decide), m 9 (by decide)]
    exact d4
  · obtain ⟨a1, a2, a3, a4⟩ := hp q q7
    rw [o 31 (by decide), o 32 (by decide), o 33 (by decide), o 34 (by decide), zu_hit, m 1 (by decide), m (10 + 11 * ((q : Nat) : Int)) (by omega), m (10 + 11 * ((q : Nat) : Int) + 3) (by omega), m (10 + 11 * ((q : Nat) : Int) + 5) (by omega), m (10 + 11 * ((q : Nat) : Int) + 7) (by omega)]
    refine ⟨a1, a2, a3, ?_⟩
    rw [zbt_os (by omega) q7]
    by_cases e : n = q
    · subst e
      rw [if_pos rfl, if_pos hv.2, zhu_h]
    · rw [if_neg e, a4, zhu_m (by omega)]
  · rw [m 2 (by decide)] at he'
    rw [o 35 (by decide), o 36 (by decide), o 37 (by decide), m (87 + 3 * ((e : Nat) : Int)) (by omega), m (87 + 3 * ((e : Nat) : Int) + 1) (by omega), m (87 + 3 * ((e : Nat) : Int) + 2) (by omega)]
    exact he e he'
/-- one who adds or takes chairs -/
theorem zHr_w5 (h : zHr R s) (r1 : R 1 ≤ 7) (r2 : R 2 ≤ 10) (hv : 0 ≤ v ∧ v < R 1) (hx : x = y) : zHr (zhu R (10 + 11 * v + 7) y) (zu s (30 + 4) v x) := by
  subst hx
  obtain ⟨n, rfl⟩ := Int.eq_ofNat_of_zero_le hv.1
  have m : ∀ k, ¬ (10 ≤ k ∧ k < 87 ∧ (k - 10) % 11 = 7) → zhu R (10 + 11 * ((n : Nat) : Int) + 7) x k = R k := fun k h => zhu_m (by omega)
  have o : ∀ z, z ≠ 34 → zu s (30 + 4) ((n : Nat) : Int) x z = s z := fun z hz => funext (fun y => zu_cell hz)
  obtain ⟨d0, d1, d2, d3, d4, hp, he⟩ := h
  refine ⟨?_, ?_, ?_, ?_, ?_, fun q q7 => ?_, fun e he' => ?_⟩
  · rw [o 30 (by decide), m 0 (by decide), m 1 (by decide), m 2 (by decide), m 3 (by decide)]
    exact d0
  · rw [o 30 (by decide), m 5 (by decide)]
    exact d1
  · rw [o 30 (by decide), m 6 (by decide)]
    exact d2
  · rw [o 30 (by decide), m 7 (by decide)]
    exact d3
  · rw [o 30 (by decide), m 8 (by decide), m 9 (by decide)]
    exact d4
  · obtain ⟨a1, a2, a3, a4⟩ := hp q q7
    rw [o 30 (by decide), o 31 (by decide), o 32 (by decide), o 33 (by decide), m 1 (by decide), m (10 + 11 * ((q : Nat) : Int)) (by omega), m (10 + 11 * ((q : Nat) : Int) + 3) (by omega), m (10 + 11 * ((q : Nat) : Int) + 5) (by omega), m (10 + 11 * ((q : Nat) : Int) + 6) (by omega)]
    refine ⟨a1, a2, ?_, a4⟩
    by_cases e : n = q
    · subst e
      rw [if_pos hv.2, zhu_h]
      exact zu_hit
    · rw [zhu_m (by omega), ← a3]
      exact zu_place (by omega)
  · rw [m 2 (by decide)] at he'
    rw [o 35 (by decide), o 36 (by decide), o 37 (by decide), m (87 + 3 * ((e : Nat) : Int)) (by omega), m (87 + 3 * ((e : Nat) : Int) + 1) (by omega), m (87 + 3 * ((e : Nat) : Int) + 2) (by omega)]
    exact he e he'
/-- one more person -/
theorem zHr_w1 (h : zHr R s) (r1 : 0 ≤ R 1 ∧ R 1 < 7) (r2 : R 2 ≤ 10) (hi : i = R 1) (hj : j = R 1) (hk : k = R 1 + 1) : zHr (zhp R (10 + 11 * R 1) a c) (zu (zu (zu s (30 + 1) i a) (30 + 2) j c) 30 1 k) := by
  subst hi hj hk
  obtain ⟨n, hn⟩ := Int.eq_ofNat_of_zero_le r1.1
  have i10 : 10 ≤ 10 + 11 * R 1 := by omega
  have m : ∀ k, k ≠ 1 → (k < 10 + 11 * R 1 ∨ 10 + 11 * R 1 + 10 < k) → zhp R (10 + 11 * R 1) a c k = R k := fun k h h' => zhp_o h h'
  have m1 : zhp R (10 + 11 * R 1) a c 1 = R 1 + 1 := zhu_h
  obtain ⟨t, ht⟩ : ∃ t : zS, t = zu (zu (zu s (30 + 1) (R 1) a) (30 + 2) (R 1) c) 30 1 (R 1 + 1) := ⟨_, rfl⟩
  rw [← ht]
  have t30 : ∀ y, y ≠ 1 → t 30 y = s 30 y := fun y hy => by rw [ht, zu_place hy, zu_cell (by decide), zu_cell (by decide)]
  have t31 : ∀ y, t 31 y = if y = R 1 then a else s 31 y := fun y => by
    rw [ht, zu_cell (by decide), zu_cell (by decide)]
    exact zuo2
  have t32 : ∀ y, t 32 y = if y = R 1 then c else s 32 y := fun y => by
    rw [ht, zu_cell (by decide)]
    show zu _ 32 _ _ _ _ = _
    rw [zuo2, zu_cell (by decide)]
  have o : ∀ x, x ≠ 30 → x ≠ 31 → x ≠ 32 → t x = s x := fun x h0 h1 h2 => funext (fun y => by rw [ht, zu_cell h0, zu_cell (show x ≠ 30 + 2 from h2), zu_cell (show x ≠ 30 + 1 from h1)])
  obtain ⟨d0, d1, d2, d3, d4, hp, he⟩ := h
  refine ⟨⟨?_, ?_, ?_, ?_⟩, ?_, ?_, ?_, ?_, fun q q7 => ?_, fun e he' => ?_⟩
  · rw [t30 0 (by decide), m 0 (by decide) (by omega)]
    exact d0.1
  · rw [ht, zu_hit, m1]
  · rw [t30 2 (by decide), m 2 (by decide) (by omega)]
    exact d0.2.2.1
  · rw [t30 3 (by decide), m 3 (by decide) (by omega)]
    exact d0.2.2.2
  · rw [t30 7 (by decide), m 5 (by decide) (by omega)]
    exact d1
  · rw [t30 8 (by decide), m 6 (by decide) (by omega)]
    exact d2
  · rw [t30 9 (by decide), m 7 (by decide) (by omega)]
    exact d3
  · rw [t30 5 (by decide), t30 6 (by decide), m 8 (by decide) (by omega), m 9 (by decide) (by omega)]
    exact d4
  · obtain ⟨a1, a2, a3, a4⟩ := hp q q7
    rw [t31, t32, o 33 (by decide) (by decide) (by decide), o 34 (by decide) (by decide) (by decide), t30 4 (by decide), m1]
    by_cases e : ((q : Nat) : Int) = R 1
    · rw [if_neg (by omega)] at a2 a3 a4
      rw [if_pos e, if_pos e, if_pos (by omega), if_pos (by omega), if_pos (by omega), a2, a3, a4, e]
      refine ⟨fun _ => ⟨?_, ?_⟩, ?_, ?_, ?_⟩
      · rw [zhp_at i10, if_neg (by omega), if_pos rfl]
      · rw [zhp_at i10, if_neg (by omega), if_neg (by omega), if_neg (by omega), if_neg (by omega), if_pos rfl]
      · rw [zhp_at i10, if_neg (by omega), if_neg (by omega), if_neg (by omega), if_neg (by omega), if_neg (by omega), if_neg (by omega), if_pos rfl]
      · rw [zhp_at i10, if_neg (by omega), if_neg (by omega), if_neg (by omega), if_neg (by omega), if_neg (by omega), if_neg (by omega), if_neg (by omega), if_neg (by omega), if_pos rfl]
      · rw [zhp_at i10, if_neg (by omega), if_neg (by omega), if_neg (by omega), if_neg (by omega), if_neg (by omega), if_neg (by omega), if_neg (by omega), if_pos rfl]
    · rw [if_neg e, if_neg e, a2, a3, a4]
      by_cases g : ((q : Nat) : Int) < R 1
      · rw [if_pos g, if_pos g, if_pos g, if_pos (by omega), if_pos (by omega), if_pos (by omega), m (10 + 11 * ((q : Nat) : Int)) (by omega) (by omega), m (10 + 11 * ((q : Nat) : Int) + 3) (by omega) (by omega), m (10 + 11 * ((q : Nat) : Int) + 5) (by omega) (by omega), m (10 + 11 * ((q : Nat) : Int) + 7) (by omega) (by omega), m (10 + 11 * ((q : Nat) : Int) + 6) (by omega) (by omega)]
        exact ⟨fun _ => a1 g, rfl, rfl, rfl⟩
      · rw [if_neg g, if_neg g, if_neg g, if_neg (by omega), if_neg (by omega), if_neg (by omega)]
        exact ⟨fun w => absurd w (by omega), rfl, rfl, rfl⟩
  · rw [m 2 (by decide) (by omega)] at he'
    rw [o 35 (by decide) (by decide) (by decide), o 36 (by decide) (by decide) (by decide), o 37 (by decide) (by decide) (by decide), m (87 + 3 * ((e : Nat) : Int)) (by omega) (by omega), m (87 + 3 * ((e : Nat) : Int) + 1) (by omega) (by omega), m (87 + 3 * ((e : Nat) : Int) + 2) (by omega) (by omega)]
    exact he e he'
/-- one more errand -/
theorem zHr_w2 (h : zHr R s) (r1 : R 1 ≤ 7) (r2 : 0 ≤ R 2 ∧ R 2 < 10) (hi : i = R 2) (hj : j = R 2) (hk : k = R 2) (hx : x = R 2 + 1) : zHr (zhe R (87 + 3 * R 2) a f t) (zu (zu (zu (zu s (30 + 5) i a) (30 + 6) j f) (30 + 7) k t) 30 2 x) := by
  subst hi hj hk hx
  have m : ∀ k, k ≠ 2 → (k < 87 + 3 * R 2 ∨ 87 + 3 * R 2 + 2 < k) → zhe R (87 + 3 * R 2) a f t k = R k := fun k h h' => zhe_o h h'
  have m1 : zhe R (87 + 3 * R 2) a f t 2 = R 2 + 1 := zhu_h
  obtain ⟨u, hu⟩ : ∃ u : zS, u = zu (zu (zu (zu s (30 + 5) (R 2) a) (30 + 6) (R 2) f) (30 + 7) (R 2) t) 30 2 (R 2 + 1) := ⟨_, rfl⟩
  rw [← hu]
  have t30 : ∀ y, y ≠ 2 → u 30 y = s 30 y := fun y hy => by rw [hu, zu_place hy, zu_cell (by decide), zu_cell (by decide), zu_cell (by decide)]
  have t35 : ∀ y, u 35 y = if y = R 2 then a else s 35 y := fun y => by
    rw [hu, zu_cell (by decide), zu_cell (by decide), zu_cell (by decide)]
    exact zuo2
  have t36 : ∀ y, u 36 y = if y = R 2 then f else s 36 y := fun y => by
    rw [hu, zu_cell (by decide), zu_cell (by decide)]
    show zu _ 36 _ _ _ _ = _
    rw [zuo2, zu_cell (by decide)]
  have t37 : ∀ y, u 37 y = if y = R 2 then t else s 37 y := fun y => by
    rw [hu, zu_cell (by decide)]
    show zu _ 37 _ _ _ _ = _
    rw [zuo2, zu_cell (by decide), zu_cell (by decide)]
  have o : ∀ x, x ≠ 30 → x < 35 → u x = s x := fun x h0 h1 => funext (fun y => by rw [hu, zu_cell h0, zu_cell (by omega), zu_cell (by omega), zu_cell (by omega)])
  obtain ⟨d0, d1, d2, d3, d4, hp, he⟩ := h
  refine ⟨⟨?_, ?_, ?_, ?_⟩, ?_, ?_, ?_, ?_, fun q q7 => ?_, fun e he' => ?_⟩
  · rw [t30 0 (by decide), m 0 (by decide) (by omega)]
    exact d0.1
  · rw [t30 1 (by decide), m 1 (by decide) (by omega)]
    exact d0.2.1
  · rw [hu, zu_hit, m1]
  · rw [t30 3 (by decide), m 3 (by decide) (by omega)]
    exact d0.2.2.2
  · rw [t30 7 (by decide), m 5 (by decide) (by omega)]
    exact d1
  · rw [t30 8 (by decide), m 6 (by decide) (by omega)]
    exact d2
  · rw [t30 9 (by decide), m 7 (by decide) (by omega)]
    exact d3
  · rw [t30 5 (by decide), t30 6 (by decide), m 8 (by decide) (by omega), m 9 (by decide) (by omega)]
    exact d4
  · rw [o 31 (by decide) (by decide), o 32 (by decide) (by decide), o 33 (by decide) (by decide), o 34 (by decide) (by decide), t30 4 (by decide), m 1 (by decide) (by omega), m (10 + 11 * ((q : Nat) : Int)) (by omega) (by omega), m (10 + 11 * ((q : Nat) : Int) + 3) (by omega) (by omega), m (10 + 11 * ((q : Nat) : Int) + 5) (by omega) (by omega), m (10 + 11 * ((q : Nat) : Int) + 7) (by omega) (by omega), m (10 + 11 * ((q : Nat) : Int) + 6) (by omega) (by omega)]
    exact hp q q7
  · rw [m1] at he'
    rw [t35, t36, t37]
    by_cases g : ((e : Nat) : Int) = R 2
    · rw [if_pos g, if_pos g, if_pos g, g]
      unfold zhe
      rw [zhu_m (by omega), zhu_m (by omega), zhu_m (by omega), zhu_h, zhu_m (by omega), zhu_m (by omega), zhu_h, zhu_m (by omega), zhu_h]
      exact ⟨rfl, rfl, rfl⟩
    · rw [if_neg g, if_neg g, if_neg g, m (87 + 3 * ((e : Nat) : Int)) (by omega) (by omega), m (87 + 3 * ((e : Nat) : Int) + 1) (by omega) (by omega), m (87 + 3 * ((e : Nat) : Int) + 2) (by omega) (by omega)]
      exact he e (by omega)
/-- one more pair that hates -/
theorem zHr_w3 (h : zHr R s) (r1 : R 1 ≤ 7) (r2 : R 2 ≤ 10) (ha : 0 ≤ a ∧ a < R 1) (hc : 0 ≤ c ∧ c < R 1) (ne : c ≠ a) (hk : k = R 3 + 1) : zHr (zhh R a c) (zu (zu (zu s (30 + 3) a (zor (s (30 + 3) a) (zshl 1 c))) (30 + 3) c (zor ((zu s (30 + 3) a (zor (s (30 + 3) a) (zshl 1 c))) (30 + 3) c) (zshl 1 a))) 30 3 k) := by
  subst hk
  obtain ⟨x, rfl⟩ := Int.eq_ofNat_of_zero_le ha.1
  obtain ⟨y, rfl⟩ := Int.eq_ofNat_of_zero_le hc.1
  have m : ∀ k, k ≠ 3 → ¬ (10 ≤ k ∧ k < 87 ∧ (k - 10) % 11 = 5) → zhh R ((x : Nat) : Int) ((y : Nat) : Int) k = R k := fun k h3 h => zhh_m h3 h (by omega) (by omega)
  have m3 : zhh R ((x : Nat) : Int) ((y : Nat) : Int) 3 = R 3 + 1 := zhu_h
  have e0 : zu s (30 + 3) ((x : Nat) : Int) (zor (s (30 + 3) ((x : Nat) : Int)) (zshl 1 ((y : Nat) : Int))) (30 + 3) ((y : Nat) : Int) = s 33 ((y : Nat) : Int) := zu_place ne
  rw [e0]
  obtain ⟨u, hu⟩ : ∃ u : zS, u = zu (zu (zu s (30 + 3) ((x : Nat) : Int) (zor (s (30 + 3) ((x : Nat) : Int)) (zshl 1 ((y : Nat) : Int)))) (30 + 3) ((y : Nat) : Int) (zor (s 33 ((y : Nat) : Int)) (zshl 1 ((x : Nat) : Int)))) 30 3 (R 3 + 1) := ⟨_, rfl⟩
  rw [← hu]
  have t30 : ∀ y, y ≠ 3 → u 30 y = s 30 y := fun y hy => by rw [hu, zu_place hy, zu_cell (by decide), zu_cell (by decide)]
  have t33 : ∀ q, u 33 q = if q = ((y : Nat) : Int) then zor (s 33 ((y : Nat) : Int)) (zshl 1 ((x : Nat) : Int)) else if q = ((x : Nat) : Int) then zor (s 33 ((x : Nat) : Int)) (zshl 1 ((y : Nat) : Int)) else s 33 q := fun q => by
    rw [hu, zu_cell (by decide)]
    show zu (zu s 33 _ _) 33 _ _ _ _ = _
    rw [zuo2, zuo2]
    rfl
  have o : ∀ x, x ≠ 30 → x ≠ 33 → u x = s x := fun x h0 h1 => funext (fun y => by rw [hu, zu_cell h0, zu_cell (show x ≠ 30 + 3 from h1), zu_cell (show x ≠ 30 + 3 from h1)])
  obtain ⟨d0, d1, d2, d3, d4, hp, he⟩ := h
  have bx := (hp x (by omega)).2.1
  have by_ := (hp y (by omega)).2.1
  rw [if_pos ha.2] at bx
  rw [if_pos hc.2] at by_
  refine ⟨⟨?_, ?_, ?_, ?_⟩, ?_, ?_, ?_, ?_, fun q q7 => ?_, fun e he' => ?_⟩
  · rw [t30 0 (by decide), m 0 (by decide) (by decide)]
    exact d0.1
  · rw [t30 1 (by decide), m 1 (by decide) (by decide)]
    exact d0.2.1
  · rw [t30 2 (by decide), m 2 (by decide) (by decide)]
    exact d0.2.2.1
  · rw [hu, zu_hit, m3]
  · rw [t30 7 (by decide), m 5 (by decide) (by decide)]
    exact d1
  · rw [t30 8 (by decide), m 6 (by decide) (by decide)]
    exact d2
  · rw [t30 9 (by decide), m 7 (by decide) (by decide)]
    exact d3
  · rw [t30 5 (by decide), t30 6 (by decide), m 8 (by decide) (by decide), m 9 (by decide) (by decide)]
    exact d4
  · obtain ⟨a1, a2, a3, a4⟩ := hp q q7
    rw [o 31 (by decide) (by decide), o 32 (by decide) (by decide), o 34 (by decide) (by decide), t30 4 (by decide), m 1 (by decide) (by decide), m (10 + 11 * ((q : Nat) : Int)) (by omega) (by omega), m (10 + 11 * ((q : Nat) : Int) + 3) (by omega) (by omega), m (10 + 11 * ((q : Nat) : Int) + 7) (by omega) (by omega), m (10 + 11 * ((q : Nat) : Int) + 6) (by omega) (by omega)]
    refine ⟨a1, ?_, a3, a4⟩
    rw [t33]
    by_cases g : q = y
    · subst g
      rw [if_pos rfl, if_pos hc.2, by_]
      unfold zhh
      rw [zhu_m (by omega), zhu_h]
    · rw [if_neg (by omega)]
      by_cases g2 : q = x
      · subst g2
        rw [if_pos rfl, if_pos ha.2, bx]
        unfold zhh
        rw [zhu_m (by omega), zhu_m (by omega), zhu_h]
      · rw [if_neg (by omega), a2]
        unfold zhh
        rw [zhu_m (by omega), zhu_m (by omega), zhu_m (by omega)]
  · rw [m 2 (by decide) (by decide)] at he'
    rw [o 35 (by decide) (by decide), o 36 (by decide) (by decide), o 37 (by decide) (by decide), m (87 + 3 * ((e : Nat) : Int)) (by omega) (by omega), m (87 + 3 * ((e : Nat) : Int) + 1) (by omega) (by omega), m (87 + 3 * ((e : Nat) : Int) + 2) (by omega) (by omega)]
    exact he e he'
end HV
def zCs (s0 : zS) (T : Int) : zHg → zS → Prop
  | .inl (p, R), s => (0 ≤ p ∧ p ≤ T) ∧ ∃ s1, s = zT s1 (zg_kind (s0 9) T p) p (zg_te (s0 9) T p - p) 0 ∧ zHr R s1 ∧ zJh s0 s1
  | .inr f, s => f ≠ 0 ∧ ∃ s1 p, s = zT s1 (-2) p 0 f ∧ zJh s0 s1
def zCh (s0 : zS) (T : Int) : Prop := zg_by (s0 9) ∧ s0 8 1 = T ∧ 0 ≤ T ∧ T ≤ 400
theorem zT_u {s1 : zS} {k p n f x y v : Int} (hx : x ≠ 8) : zu (zT s1 k p n f) x y v = zT (zu s1 x y v) k p n f := by
  funext a b
  unfold zu zT
  by_cases e : a = x ∧ b = y
  · obtain ⟨rfl, rfl⟩ := e
    simp only [and_self, if_true]
    rw [if_neg (by omega), if_neg (by omega), if_neg (by omega), if_neg (by omega)]
  · simp only [if_neg e]
theorem zJh_9 {s0 s1 : zS} (h : zJh s0 s1) : s1 9 = s0 9 := funext (fun y => h.2 9 y (by decide) (by omega))
theorem zJh_u {s0 s1 : zS} (h : zJh s0 s1) {x y v : Int} (h1 : 30 ≤ x) (h2 : x < 38) : zJh s0 (zu s1 x y v) := ⟨by rw [zu_cell (by omega)]; exact h.1, fun a b h3 h4 => by rw [zu_cell (by omega)]; exact h.2 a b h3 h4⟩
section CH
variable {s0 s : zS} {T : Int}
theorem zCs.hr {p : Int} {R : zHS} (h : zCs s0 T (.inl (p, R)) s) : zHr R s := by
  obtain ⟨-, s1, e, h1, -⟩ := h
  exact zHr_c h1 (fun x y h1 h2 => by rw [e]; exact zT_o (by omega))
theorem zCs.kd {p : Int} {R : zHS} (h : zCs s0 T (.inl (p, R)) s) : s 8 2 = zg_kind (s0 9) T p := by
  obtain ⟨-, s1, e, -⟩ := h
  rw [e]
  rfl
theorem zCs.pl {p : Int} {R : zHS} (h : zCs s0 T (.inl (p, R)) s) : s 8 3 = p := by
  obtain ⟨-, s1, e, -⟩ := h
  rw [e]
  rfl
theorem zCs.sz {p : Int} {R : zHS} (h : zCs s0 T (.inl (p, R)) s) : s 8 4 = zg_te (s0 9) T p - p := by
  obtain ⟨-, s1, e, -⟩ := h
  rw [e]
  rfl
theorem zCs.f0 {p : Int} {R : zHS} (h : zCs s0 T (.inl (p, R)) s) : s 8 5 = 0 := by
  obtain ⟨-, s1, e, -⟩ := h
  rw [e]
  rfl
theorem zCs.b9 {p : Int} {R : zHS} (h : zCs s0 T (.inl (p, R)) s) : s 9 = s0 9 := by
  obtain ⟨-, s1, e, -, hj⟩ := h
  rw [← zJh_9 hj, e]
  funext y
  exact zT_o (by decide)
theorem zCs.kf {f : Int} (h : zCs s0 T (.inr f) s) : s 8 2 = -2 := by
  obtain ⟨-, s1, p, e, -⟩ := h
  rw [e]
  rfl
theorem zCs.ff {f : Int} (h : zCs s0 T (.inr f) s) : s 8 5 = f := by
  obtain ⟨-, s1, p, e, -⟩ := h
  rw [e]
  rfl
theorem zCs.fn {f : Int} (h : zCs s0 T (.inr f) s) : ¬ s 8 5 = 0 := by
  rw [h.ff]
  exact h.1
/-- with a fault what is told may be what it will -/
theorem zCs.junk {f x y v : Int} (h : zCs s0 T (.inr f) s) (h1 : 30 ≤ x) (h2 : x < 38) : zCs s0 T (.inr f) (zu s x y v) := by
  obtain ⟨h0, s1, p, e, hj⟩ := h
  exact ⟨h0, zu s1 x y v, p, by rw [e, zT_u (by omega)], zJh_u hj h1 h2⟩
/-- without, what is told is put down -/
theorem zCs.puts {p : Int} {R R' : zHS} {t : zS} (h : zCs s0 T (.inl (p, R)) s) (ht : ∀ x y, ¬ (30 ≤ x ∧ x < 38) → t x y = s x y) (hr : zHr R' t) : zCs s0 T (.inl (p, R')) t := by
  obtain ⟨h0, s1, e, hh, hj⟩ := h
  obtain ⟨u, hu⟩ : ∃ u : zS, u = fun x y => if 30 ≤ x ∧ x < 38 then t x y else s1 x y := ⟨_, rfl⟩
  have u1 : ∀ x y, 30 ≤ x ∧ x < 38 → u x y = t x y := fun x y hx => by
    rw [hu]
    exact if_pos hx
  have u2 : ∀ x y, ¬ (30 ≤ x ∧ x < 38) → u x y = s1 x y := fun x y hx => by
    rw [hu]
    exact if_neg hx
  refine ⟨h0, u, ?_, zHr_c hr (fun x y x1 x2 => u1 x y ⟨x1, x2⟩), by rw [u2 8 1 (by decide)]; exact hj.1, fun x y h1 h2 => by rw [u2 x y h2]; exact hj.2 x y h1 h2⟩
  funext x y
  by_cases c : 30 ≤ x ∧ x < 38
  · rw [zT_o (by omega), u1 x y c]
  · rw [ht x y c, e]
    by_cases c8 : x = 8
    · subst c8
      unfold zT
      rw [u2 8 y (by decide)]
    · rw [zT_o c8, zT_o c8, u2 x y c]
theorem zc_next (hc : zCh s0 T) {p : Int} {R : zHS} (h : zCs s0 T (.inl (p, R)) s) : ∃ s', zE xm_c82 [8, 0, 0] s 0 s' ∧ zCs s0 T (.inl (zg_nx (s0 9) T p, R)) s' := by
  obtain ⟨c1, c2, c3, c4⟩ := hc
  obtain ⟨h0, s1, e, hh, hj⟩ := h
  have hl := zg_te_le c1 c4 h0.1
  have hn := zg_nx_le c1 c4 h0.1
  have e9 := zJh_9 hj
  refine ⟨zT s1 (zg_kind (s0 9) T (zg_nx (s0 9) T p)) (zg_nx (s0 9) T p) (zg_te (s0 9) T (zg_nx (s0 9) T p) - zg_nx (s0 9) T p) 0, ?_, ⟨by omega, s1, rfl, hh, hj⟩⟩
  have z := zt_next (s := s1) (T := T) (k := zg_kind (s0 9) T p) (p := p) (n := zg_te (s0 9) T p - p) (q := zg_nx (s0 9) T p) (by rw [e9]; exact c1) (by rw [hj.1]; exact c2) c4 h0.1 (by omega) (by omega) (by rw [e9]; unfold zg_nx; rw [show p + (zg_te (s0 9) T p - p) = zg_te (s0 9) T p by omega])
  rw [e9] at z
  rw [e]
  exact z
theorem zc_nextd {f : Int} (h : zCs s0 T (.inr f) s) : zE xm_c82 [8, 0, 0] s 0 s := by
  obtain ⟨h0, s1, p, e, hj⟩ := h
  rw [e]
  exact zt_next0 h0
theorem zc_fail (hc : zCh s0 T) {p : Int} {R : zHS} (h : zCs s0 T (.inl (p, R)) s) {c : Int} (hc0 : 0 ≤ c) (hc4 : c ≤ 4) : ∃ s', zE xm_c81 [8, c] s 0 s' ∧ zCs s0 T (.inr (1 + 8 * p + c)) s' := by
  obtain ⟨c1, c2, c3, c4⟩ := hc
  obtain ⟨h0, s1, e, hh, hj⟩ := h
  refine ⟨zT s1 (-2) p 0 (1 + 8 * p + c), ?_, ⟨by omega, s1, p, rfl, hj⟩⟩
  rw [e]
  exact zt_fail h0.1 (by omega) hc0 hc4
theorem zc_faild {f : Int} (h : zCs s0 T (.inr f) s) {c : Int} : ∃ s', zE xm_c81 [8, c] s 0 s' ∧ zCs s0 T (.inr f) s' := by
  obtain ⟨h0, s1, p, e, hj⟩ := h
  refine ⟨zT s1 (-2) p 0 f, ?_, ⟨h0, s1, p, rfl, hj⟩⟩
  rw [e]
  exact zt_fail0 h0
/-! the words -/
def zhsok : Bool := match xm_stb[0]? with
  | some bs => decide (bs = yg_cat zhws) && (decide (bs.length ≤ 100) && (bs.all (fun c => decide (c < 128)) && (zhws.all (fun w => w.all (fun c => decide (c ≠ 32))) && decide (zhws ≠ []))))
  | none => false
theorem zhsoks : zhsok = true := by decide +kernel
theorem zc_word (hc : zCh s0 T) {p : Int} {R : zHS} (h : zCs s0 T (.inl (p, R)) s) : zE xm_c83 [8, 1, 0, 0, 0] s (zhw (s0 9) T p) s := by
  have hk := h.kd
  have hp := h.pl
  have hn := h.sz
  have h9 := h.b9
  have h0 := h.1
  have hte := zg_te_le (b := s0 9) (T := T) (p := p) hc.1 hc.2.2.2 h0.1
  have h4 := hc.2.2.2
  unfold zhw
  by_cases e : zg_kind (s0 9) T p = 97
  · rw [if_pos e]
    have h0 := zhsoks
    unfold zhsok at h0
    cases hb : xm_stb[0]? with
    | none => rw [hb] at h0; cases h0
    | some bs =>
      rw [hb] at h0
      dsimp only at h0
      rw [Bool.and_eq_true, Bool.and_eq_true, Bool.and_eq_true, Bool.and_eq_true, decide_eq_true_eq, decide_eq_true_eq, decide_eq_true_eq] at h0
      have hstr : zstr 1 = bs := by
        unfold zstr
        rw [xl_nth, show (1 : Int).toNat - 1 = 0 by decide, hb]
      have z := zt_w6 (s := s) (j := 1) (p := p) (n := zg_te (s0 9) T p - p) (bs := bs) (tok := zg_w (s0 9) p (zg_te (s0 9) T p)) (R := yg_ix (zg_w (s0 9) p (zg_te (s0 9) T p)) zhws 0) (by rw [hk]; exact e) hp hn (by omega) (by omega) (by omega) (by rw [h9, show p + (zg_te (s0 9) T p - p) = zg_te (s0 9) T p by omega]) hstr h0.2.1 (fun c hc => of_decide_eq_true (List.all_eq_true.mp h0.2.2.1 c hc)) _ 0 0 0 (by omega) (by omega) (by omega) (by omega) (Or.inl ⟨by omega, by
        show yg_ww _ bs 0 0 = _
        rw [h0.1, yg_wix zhws 0 h0.2.2.2.2 (fun w hw c hc => of_decide_eq_true (List.all_eq_true.mp (List.all_eq_true.mp h0.2.2.2.1 w hw) c hc))]⟩) (Nat.le_refl _)
      exact zb_83_0 z
  · rw [if_neg e]
    exact zt_word0 (by rw [hk]; exact e)
/-! numbers -/
theorem zc_v4 {s : zS} {p : Int} {n : Nat} (hk : s 8 2 = 48) (hp : s 8 3 = p) (hn : s 8 4 = ((n : Nat) : Int)) (hp0 : 0 ≤ p) (hp4 : p ≤ 400) (hin : ∀ i : Nat, i < n → 48 ≤ s 9 (p + ((i : Nat) : Int)) ∧ s 9 (p + ((i : Nat) : Int)) ≤ 57) : ∀ (k i : Nat), min n 5 - i ≤ k → i ≤ min n 5 → zA xm_c84 4 [8, zval (s 9) p i, ((i : Nat) : Int)] [] s (zval (s 9) p (min n 5), s) := by
  intro k
  induction k with
  | zero =>
    intro i hk2 hi
    have e : i = min n 5 := by omega
    refine zb_84_4 (fun _ => zb_84_8 (fun q => zb_84_12 (fun q2 => ?_) (fun _ => zb_84_31 (by rw [e]))) (fun _ => zb_84_31 (by rw [e]))) (fun q => absurd hk q)
    rw [hn] at q
    omega
  | succ k ih =>
    intro i hk2 hi
    by_cases e : i = min n 5
    · refine zb_84_4 (fun _ => zb_84_8 (fun q => zb_84_12 (fun q2 => ?_) (fun _ => zb_84_31 (by rw [e]))) (fun _ => zb_84_31 (by rw [e]))) (fun q => absurd hk q)
      rw [hn] at q
      omega
    · have hlt : i < n := by omega
      have hlt5 : i < 5 := by omega
      have hb := zval_b (b := s 9) (p := p) i (by omega) (fun j hj => hin j (by omega))
      have hd := hin i hlt
      have hpow : (10 : Int) ^ i ≤ 10000 := by
        rcases (show i = 0 ∨ i = 1 ∨ i = 2 ∨ i = 3 ∨ i = 4 by omega) with rfl | rfl | rfl | rfl | rfl <;> decide
      refine zb_84_4 (fun _ => zb_84_8 (fun _ => zb_84_12 (fun _ => zb_84_15 ?_) (fun q => absurd (show ((i : Nat) : Int) < 5 by omega) q)) (fun q => absurd (show ((i : Nat) : Int) < s 8 4 by rw [hn]; omega) q)) (fun q => absurd hk q)
      have z := ih (i + 1) (by omega) (by omega)
      have e1 : zw (((i : Nat) : Int) + 1) = ((i + 1 : Nat) : Int) := zw_id (by omega) (by omega)
      have e2 : zw ((zw ((zw (zval (s 9) p i * 10)) + (s (8 + 1) (zw ((s 8 3) + ((i : Nat) : Int)))))) - 48) = zval (s 9) p (i + 1) := by
        have q1 : zw (p + ((i : Nat) : Int)) = p + ((i : Nat) : Int) := by
          clear hb hpow ih hd hin
          exact zw_id (by omega) (by omega)
        rw [hp, show (8 : Int) + 1 = 9 from rfl, q1, zw_id (x := zval (s 9) p i * 10) (by omega) (by omega), zw_id (x := zval (s 9) p i * 10 + s 9 (p + ((i : Nat) : Int))) (by omega) (by omega), zw_id (by omega) (by omega)]
        show _ = 10 * zval (s 9) p i + s 9 (p + ((i : Nat) : Int)) - 48
        omega
      rw [e1, e2]
      exact z
theorem zc_val (hc : zCh s0 T) {p : Int} {R : zHS} (h : zCs s0 T (.inl (p, R)) s) : ∃ v, zE xm_c84 [8, 0, 0] s v s ∧ (zg_kind (s0 9) T p = 48 → ¬ 5 < zg_te (s0 9) T p - p → v = zhv (s0 9) T p) := by
  have hk := h.kd
  have h0 := h.1
  have hkl := zg_kl (b := s0 9) (T := T) (p := p) hc.1 hc.2.2.2 h0.1
  have hte := zg_te_le (b := s0 9) (T := T) (p := p) hc.1 hc.2.2.2 h0.1
  have h4 := hc.2.2.2
  by_cases e : zg_kind (s0 9) T p = 48
  · have hr := hkl.2.2.2 e
    have z := zc_v4 (s := s) (p := p) (n := (zg_te (s0 9) T p - p).toNat) (by rw [hk]; exact e) h.pl (by rw [h.sz]; omega) (by omega) (by omega) (fun i hi => by
      rw [h.b9]
      exact (zg_run_in (b := s0 9) (T := T) (lo := 48) (hi := 57) (p := p) (i := p + ((i : Nat) : Int)) (by omega) (by omega)).2) _ 0 (Nat.le_refl _) (by omega)
    refine ⟨_, zb_84_0 z, fun _ h5 => ?_⟩
    rw [h.b9, show min (zg_te (s0 9) T p - p).toNat 5 = (zg_te (s0 9) T p - p).toNat by omega]
    rfl
  · exact ⟨0, zb_84_0 (zb_84_4 (fun q => absurd (show zg_kind (s0 9) T p = 48 by rw [← hk]; exact q) e) (fun _ => zb_84_31 rfl)), fun q => absurd q e⟩
/-- Tape.number -/
theorem zc_num (hc : zCh s0 T) {p : Int} {R : zHS} (h : zCs s0 T (.inl (p, R)) s) (lo hi un : Int) : (∃ v q s', zhn (s0 9) T p lo hi un = .inl (v, q) ∧ zE xm_c85 [8, lo, hi, un, 0] s v s' ∧ zCs s0 T (.inl (q, R)) s') ∨ (∃ f s', zhn (s0 9) T p lo hi un = .inr f ∧ zE xm_c85 [8, lo, hi, un, 0] s 0 s' ∧ zCs s0 T (.inr f) s') := by
  obtain ⟨v, v1, v2⟩ := zc_val hc h
  have hk := h.kd
  have hn := h.sz
  unfold zhn
  by_cases e : zg_kind (s0 9) T p = 48
  · rw [if_pos e]
    have bad : ∀ (x : Int), (∀ (s2 : zS), zE xm_c81 [8, 1] s 0 s2 → zA xm_c85 12 [8, lo, hi, un, v] [] s (0, s2)) → (5 < zg_te (s0 9) T p - p ∨ zhv (s0 9) T p < lo ∨ hi < zhv (s0 9) T p ∨ zhv (s0 9) T p = un) → (∃ v q s', (if 5 < zg_te (s0 9) T p - p ∨ zhv (s0 9) T p < lo ∨ hi < zhv (s0 9) T p ∨ zhv (s0 9) T p = un then (.inr (1 + 8 * p + 1) : (Int × Int) ⊕ Int) else .inl (zhv (s0 9) T p, zg_nx (s0 9) T p)) = .inl (v, q) ∧ zE xm_c85 [8, lo, hi, un, 0] s v s' ∧ zCs s0 T (.inl (q, R)) s') ∨ (∃ f s', (if 5 < zg_te (s0 9) T p - p ∨ zhv (s0 9) T p < lo ∨ hi < zhv (s0 9) T p ∨ zhv (s0 9) T p = un then (.inr (1 + 8 * p + 1) : (Int × Int) ⊕ Int) else .inl (zhv (s0 9) T p, zg_nx (s0 9) T p)) = .inr f ∧ zE xm_c85 [8, lo, hi, un, 0] s 0 s' ∧ zCs s0 T (.inr f) s') := by
      intro x run q
      obtain ⟨s2, f1, f2⟩ := zc_fail hc h (c := 1) (by omega) (by omega)
      rw [if_pos q]
      exact Or.inr ⟨_, s2, rfl, zb_85_0 v1 (zb_85_2 (fun _ => run s2 f1) (fun z => absurd (by rw [hk]; exact e) z)), f2⟩
    by_cases e5 : 5 < zg_te (s0 9) T p - p
    · exact bad 0 (fun s2 f1 => zb_85_12 (fun _ => zb_85_25 f1 (zb_85_28 rfl)) (fun z => absurd (by rw [hn]; exact e5) z)) (Or.inl e5)
    · have ev := v2 e e5
      have p16 : ∀ {R' : Int × zS}, zA xm_c85 16 [8, lo, hi, un, v] [] s R' → zA xm_c85 12 [8, lo, hi, un, v] [] s R' := fun z => zb_85_12 (fun q => absurd (by rw [hn] at q; exact q) e5) (fun _ => z)
      by_cases el : v < lo
      · exact bad 0 (fun s2 f1 => p16 (zb_85_16 (fun _ => zb_85_25 f1 (zb_85_28 rfl)) (fun z => absurd el z))) (Or.inr (Or.inl (by rw [← ev]; exact el)))
      · by_cases eh : hi < v
        · exact bad 0 (fun s2 f1 => p16 (zb_85_16 (fun z => absurd z el) (fun _ => zb_85_19 (fun _ => zb_85_25 f1 (zb_85_28 rfl)) (fun z => absurd eh z)))) (Or.inr (Or.inr (Or.inl (by rw [← ev]; exact eh))))
        · by_cases eu : v = un
          · exact bad 0 (fun s2 f1 => p16 (zb_85_16 (fun z => absurd z el) (fun _ => zb_85_19 (fun z => absurd z eh) (fun _ => zb_85_22 (fun _ => zb_85_25 f1 (zb_85_28 rfl)) (fun z => absurd eu z))))) (Or.inr (Or.inr (Or.inr (by rw [← ev]; exact eu))))
          · obtain ⟨s2, n1, n2⟩ := zc_next hc h
            rw [if_neg (by rw [← ev]; omega)]
            refine Or.inl ⟨_, _, s2, rfl, ?_, n2⟩
            rw [← ev]
            exact zb_85_0 v1 (zb_85_2 (fun _ => p16 (zb_85_16 (fun z => absurd z el) (fun _ => zb_85_19 (fun z => absurd z eh) (fun _ => zb_85_22 (fun z => absurd z eu) (fun _ => zb_85_30 n1 (zb_85_32 rfl)))))) (fun z => absurd (by rw [hk]; exact e) z))
  · obtain ⟨s2, f1, f2⟩ := zc_fail hc h (c := 0) (by omega) (by omega)
    rw [if_neg e]
    exact Or.inr ⟨_, s2, rfl, zb_85_0 v1 (zb_85_2 (fun z => absurd (by rw [← hk]; exact z) e) (fun _ => zb_85_7 f1 (zb_85_10 rfl))), f2⟩
theorem zc_numd {f : Int} (h : zCs s0 T (.inr f) s) (lo hi un : Int) : ∃ s', zE xm_c85 [8, lo, hi, un, 0] s 0 s' ∧ zCs s0 T (.inr f) s' := by
  have hk := h.kf
  obtain ⟨s2, f1, f2⟩ := zc_faild h (c := 0)
  have nk : ¬ s 8 2 = 48 := by rw [hk]; decide
  exact ⟨s2, zb_85_0 (r := 0) (s1 := s) (zb_84_0 (zb_84_4 (fun q => absurd q nk) (fun _ => zb_84_31 rfl))) (zb_85_2 (fun q => absurd q nk) (fun _ => zb_85_7 f1 (zb_85_10 rfl))), f2⟩
end CH
