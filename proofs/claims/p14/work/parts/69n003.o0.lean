/-! what a house's text tells lies in its ranges -/
/-- of what is told so far -/
def zhX (R : zHS) : Prop := (R 4 = 0 ∧ (R 0 = 0 ∨ 2 ≤ R 0) ∧ (R 0 = 0 → R 1 = 0 ∧ R 2 = 0) ∧ ((R 6 = -1 ∧ R 7 = -1) ∨ ((0 ≤ R 6 ∧ R 6 < R 0) ∧ (0 ≤ R 7 ∧ R 7 < R 0)))) ∧ (∀ p : Nat, ((p : Nat) : Int) < R 1 → ((0 ≤ R (10 + 11 * ((p : Nat) : Int)) ∧ R (10 + 11 * ((p : Nat) : Int)) < R 0) ∧ R (10 + 11 * ((p : Nat) : Int) + 1) = R (10 + 11 * ((p : Nat) : Int)) ∧ R (10 + 11 * ((p : Nat) : Int) + 2) = 0 ∧ (1 ≤ R (10 + 11 * ((p : Nat) : Int) + 3) ∧ R (10 + 11 * ((p : Nat) : Int) + 3) ≤ 9) ∧ R (10 + 11 * ((p : Nat) : Int) + 4) = R (10 + 11 * ((p : Nat) : Int)) ∧ (R (10 + 11 * ((p : Nat) : Int) + 6) = 0 ∨ R (10 + 11 * ((p : Nat) : Int) + 6) = 1) ∧ R (10 + 11 * ((p : Nat) : Int) + 8) = -1 ∧ R (10 + 11 * ((p : Nat) : Int) + 9) = 0 ∧ R (10 + 11 * ((p : Nat) : Int) + 10) = -1) ∧ ∀ q : Nat, q < 7 → zbt (R (10 + 11 * ((p : Nat) : Int) + 5)) ((q : Nat) : Int) = if ((q : Nat) : Int) < R 1 then zbt (R (10 + 11 * ((q : Nat) : Int) + 5)) ((p : Nat) : Int) else 0) ∧ ∀ e : Nat, ((e : Nat) : Int) < R 2 → (0 ≤ R (87 + 3 * ((e : Nat) : Int)) ∧ R (87 + 3 * ((e : Nat) : Int)) ≤ 6) ∧ 0 ≤ R (87 + 3 * ((e : Nat) : Int) + 1) ∧ R (87 + 3 * ((e : Nat) : Int) + 1) < R 0
section HX
variable {R R' : zHS} {a c f t : Int}
/-- persons and errands the same: floors, and what else is read of the head, too -/
theorem zhX_e (H : zhX R) (h1 : R 1 ≤ 7) (h2 : R 2 ≤ 10) (e0 : R' 0 = R 0) (e1 : R' 1 = R 1) (e2 : R' 2 = R 2) (e4 : R' 4 = R 4) (e6 : R' 6 = R 6) (e7 : R' 7 = R 7) (e : ∀ k, 10 ≤ k → k < 117 → (k < 87 → (k - 10) % 11 ≠ 7) → R' k = R k) : zhX R' := by
  obtain ⟨H0, H1, H2⟩ := H
  have pk : ∀ (p : Nat) (j : Int), ((p : Nat) : Int) < R 1 → 0 ≤ j → j ≤ 10 → j ≠ 7 → R' (10 + 11 * ((p : Nat) : Int) + j) = R (10 + 11 * ((p : Nat) : Int) + j) := fun p j hp j0 j1 j7 => e _ (by omega) (by omega) (by omega)
  have p0 : ∀ (p : Nat), ((p : Nat) : Int) < R 1 → R' (10 + 11 * ((p : Nat) : Int)) = R (10 + 11 * ((p : Nat) : Int)) := fun p hp => e _ (by omega) (by omega) (by omega)
  refine ⟨by rw [e0, e1, e2, e4, e6, e7]; exact H0, fun p hp => ?_, fun i hi => ?_⟩
  · rw [e1] at hp
    rw [e0, e1, p0 p hp, pk p 1 hp (by decide) (by decide) (by decide), pk p 2 hp (by decide) (by decide) (by decide), pk p 3 hp (by decide) (by decide) (by decide), pk p 4 hp (by decide) (by decide) (by decide), pk p 5 hp (by decide) (by decide) (by decide), pk p 6 hp (by decide) (by decide) (by decide), pk p 8 hp (by decide) (by decide) (by decide), pk p 9 hp (by decide) (by decide) (by decide), pk p 10 hp (by decide) (by decide) (by decide)]
    obtain ⟨a, b⟩ := H1 p hp
    refine ⟨a, fun q hq => ?_⟩
    rw [b q hq]
    by_cases d : ((q : Nat) : Int) < R 1
    · rw [if_pos d, if_pos d, pk q 5 d (by decide) (by decide) (by decide)]
    · rw [if_neg d, if_neg d]
  · rw [e2] at hi
    rw [e0, e (87 + 3 * ((i : Nat) : Int)) (by omega) (by omega) (by omega), e (87 + 3 * ((i : Nat) : Int) + 1) (by omega) (by omega) (by omega)]
    exact H2 i hi
/-- nothing told -/
theorem zhX_0 (h : R 0 = 0 ∧ R 1 = 0 ∧ R 2 = 0 ∧ R 4 = 0 ∧ R 6 = -1 ∧ R 7 = -1) : zhX R := by
  obtain ⟨r0, r1, r2, r4, r6, r7⟩ := h
  exact ⟨⟨r4, Or.inl r0, fun _ => ⟨r1, r2⟩, Or.inl ⟨r6, r7⟩⟩, fun p hp => absurd hp (by omega), fun p hp => absurd hp (by omega)⟩
/-- how many floors -/
theorem zhX_fl (H : zhX R) (h0 : R 0 = 0) (h : 2 ≤ a) : zhX (zhu R 0 a) := by
  obtain ⟨⟨k4, -, k1, k6⟩, H1, H2⟩ := H
  obtain ⟨k1, k2⟩ := k1 h0
  have m : ∀ k, k ≠ 0 → zhu R 0 a k = R k := fun k hk => zhu_m hk
  refine ⟨⟨by rw [m 4 (by decide)]; exact k4, Or.inr (by rw [zhu_h]; exact h), fun q => ?_, Or.inl ?_⟩, fun p hp => ?_, fun p hp => ?_⟩
  · rw [zhu_h] at q
    omega
  · rw [m 6 (by decide), m 7 (by decide)]
    omega
  · rw [m 1 (by decide)] at hp
    omega
  · rw [m 2 (by decide)] at hp
    omega
theorem zhp_at {i k : Int} (hi : 10 ≤ i) : zhp R i a c k = if k = 1 then R 1 + 1 else if k = i then a else if k = i + 1 then a else if k = i + 2 then 0 else if k = i + 3 then c else if k = i + 4 then a else if k = i + 5 then 0 else if k = i + 6 then 0 else if k = i + 7 then 0 else if k = i + 8 then -1 else if k = i + 9 then 0 else if k = i + 10 then -1 else R k := by
  unfold zhp zhu
  repeat' split
  all_goals first | rfl | omega
/-- one more person -/
theorem zhX_p (H : zhX R) (h1 : 0 ≤ R 1 ∧ R 1 < 7) (h2 : 0 ≤ R 2 ∧ R 2 ≤ 10) (h0 : R 0 ≠ 0) (ha : 0 ≤ a ∧ a < R 0) (hc : 1 ≤ c ∧ c ≤ 9) : zhX (zhp R (10 + 11 * R 1) a c) := by
  obtain ⟨⟨k4, k0, k1, k6⟩, H1, H2⟩ := H
  obtain ⟨n, hn⟩ := Int.eq_ofNat_of_zero_le h1.1
  have o : ∀ k, k ≠ 1 → (k < 10 + 11 * R 1 ∨ 10 + 11 * R 1 + 10 < k) → zhp R (10 + 11 * R 1) a c k = R k := fun k h h' => zhp_o h h'
  have pk : ∀ (p : Nat) (j : Int), ((p : Nat) : Int) < R 1 → 0 ≤ j → j ≤ 10 → zhp R (10 + 11 * R 1) a c (10 + 11 * ((p : Nat) : Int) + j) = R (10 + 11 * ((p : Nat) : Int) + j) := fun p j hp j0 j1 => o _ (by omega) (by omega)
  have p0 : ∀ (p : Nat), ((p : Nat) : Int) < R 1 → zhp R (10 + 11 * R 1) a c (10 + 11 * ((p : Nat) : Int)) = R (10 + 11 * ((p : Nat) : Int)) := fun p hp => o _ (by omega) (by omega)
  have i10 : 10 ≤ 10 + 11 * R 1 := by omega
  have e0 := o 0 (by decide) (by omega)
  have e1 : zhp R (10 + 11 * R 1) a c 1 = R 1 + 1 := zhu_h
  have e2 := o 2 (by decide) (by omega)
  refine ⟨⟨by rw [o 4 (by decide) (by omega)]; exact k4, by rw [e0]; exact k0, fun q => ?_, by rw [e0, o 6 (by decide) (by omega), o 7 (by decide) (by omega)]; exact k6⟩, fun p hp => ?_, fun i hi => ?_⟩
  · rw [e0] at q
    exact absurd q h0
  · rw [e1] at hp
    rw [e0, e1]
    by_cases d : ((p : Nat) : Int) = R 1
    · have pn : p = n := by omega
      have np : ∀ j : Int, zhp R (10 + 11 * R 1) a c (10 + 11 * ((p : Nat) : Int) + j) = zhp R (10 + 11 * R 1) a c (10 + 11 * R 1 + j) := fun j => by rw [d]
      have n0 : zhp R (10 + 11 * R 1) a c (10 + 11 * ((p : Nat) : Int)) = a := by
        rw [d, zhp_at i10, if_neg (by omega), if_pos rfl]
      have nj : ∀ j v : Int, zhp R (10 + 11 * R 1) a c (10 + 11 * R 1 + j) = v → zhp R (10 + 11 * R 1) a c (10 + 11 * ((p : Nat) : Int) + j) = v := fun j v h => (np j).trans h
      have n1 := nj 1 a (by rw [zhp_at i10, if_neg (by omega), if_neg (by omega), if_pos rfl])
      have n2 := nj 2 0 (by rw [zhp_at i10, if_neg (by omega), if_neg (by omega), if_neg (by omega), if_pos rfl])
      have n3 := nj 3 c (by rw [zhp_at i10, if_neg (by omega), if_neg (by omega), if_neg (by omega), if_neg (by omega), if_pos rfl])
      have n4 := nj 4 a (by rw [zhp_at i10, if_neg (by omega), if_neg (by omega), if_neg (by omega), if_neg (by omega), if_neg (by omega), if_pos rfl])
      have n5 := nj 5 0 (by rw [zhp_at i10, if_neg (by omega), if_neg (by omega), if_neg (by omega), if_neg (by omega), if_neg (by omega), if_neg (by omega), if_pos rfl])
      have n6 := nj 6 0 (by rw [zhp_at i10, if_neg (by omega), if_neg (by omega), if_neg (by omega), if_neg (by omega), if_neg (by omega), if_neg (by omega), if_neg (by omega), if_pos rfl])
      have n8 := nj 8 (-1) (by rw [zhp_at i10, if_neg (by omega), if_neg (by omega), if_neg (by omega), if_neg (by omega), if_neg (by omega), if_neg (by omega), if_neg (by omega), if_neg (by omega), if_neg (by omega), if_pos rfl])
      have n9 := nj 9 0 (by rw [zhp_at i10, if_neg (by omega), if_neg (by omega), if_neg (by omega), if_neg (by omega), if_neg (by omega), if_neg (by omega), if_neg (by omega), if_neg (by omega), if_neg (by omega), if_neg (by omega), if_pos rfl])
      have n10 := nj 10 (-1) (by rw [zhp_at i10, if_neg (by omega), if_neg (by omega), if_neg (by omega), if_neg (by omega), if_neg (by omega), if_neg (by omega), if_neg (by omega), if_neg (by omega), if_neg (by omega), if_neg (by omega), if_neg (by omega), if_pos rfl])
      rw [n0, n1, n2, n3, n4, n5, n6, n8, n9, n10]
      refine ⟨⟨ha, rfl, rfl, hc, rfl, Or.inl rfl, rfl, rfl, rfl⟩, fun q hq => ?_⟩
      rw [zbt_0]
      by_cases dq : ((q : Nat) : Int) < R 1 + 1
      · rw [if_pos dq]
        by_cases dn : ((q : Nat) : Int) = R 1
        · have qp : q = p := by omega
          rw [qp, n5, zbt_0]
        · rw [pk q 5 (by omega) (by decide) (by decide), (H1 q (by omega)).2 p (by omega), if_neg (by omega)]
      · rw [if_neg dq]
    · have hp' : ((p : Nat) : Int) < R 1 := by omega
      rw [p0 p hp', pk p 1 hp' (by decide) (by decide), pk p 2 hp' (by decide) (by decide), pk p 3 hp' (by decide) (by decide), pk p 4 hp' (by decide) (by decide), pk p 5 hp' (by decide) (by decide), pk p 6 hp' (by decide) (by decide), pk p 8 hp' (by decide) (by decide), pk p 9 hp' (by decide) (by decide), pk p 10 hp' (by decide) (by decide)]
      obtain ⟨x, y⟩ := H1 p hp'
      refine ⟨x, fun q hq => ?_⟩
      rw [y q hq]
      by_cases dq : ((q : Nat) : Int) < R 1
      · rw [if_pos dq, if_pos (by omega), pk q 5 dq (by decide) (by decide)]
      · rw [if_neg dq]
        by_cases dn : ((q : Nat) : Int) = R 1
        · rw [if_pos (by omega), dn, zhp_at i10, if_neg (by omega), if_neg (by omega), if_neg (by omega), if_neg (by omega), if_neg (by omega), if_neg (by omega), if_pos rfl, zbt_0]
        · rw [if_neg (by omega)]
  · rw [e2] at hi
    rw [e0, o (87 + 3 * ((i : Nat) : Int)) (by omega) (by omega), o (87 + 3 * ((i : Nat) : Int) + 1) (by omega) (by omega)]
    exact H2 i hi
/-- one more errand -/
theorem zhX_er (H : zhX R) (h1 : 0 ≤ R 1 ∧ R 1 ≤ 7) (h2 : 0 ≤ R 2 ∧ R 2 < 10) (h0 : R 0 ≠ 0) (ha : 0 ≤ a ∧ a < R 1) (hf : 0 ≤ f ∧ f < R 0) : zhX (zhe R (87 + 3 * R 2) a f t) := by
  obtain ⟨⟨k4, k0, k1, k6⟩, H1, H2⟩ := H
  have o : ∀ k, k ≠ 2 → (k < 87 + 3 * R 2 ∨ 87 + 3 * R 2 + 2 < k) → zhe R (87 + 3 * R 2) a f t k = R k := fun k h h' => zhe_o h h'
  have pk : ∀ (p : Nat) (j : Int), ((p : Nat) : Int) < R 1 → 0 ≤ j → j ≤ 10 → zhe R (87 + 3 * R 2) a f t (10 + 11 * ((p : Nat) : Int) + j) = R (10 + 11 * ((p : Nat) : Int) + j) := fun p j hp j0 j1 => o _ (by omega) (by omega)
  have p0 : ∀ (p : Nat), ((p : Nat) : Int) < R 1 → zhe R (87 + 3 * R 2) a f t (10 + 11 * ((p : Nat) : Int)) = R (10 + 11 * ((p : Nat) : Int)) := fun p hp => o _ (by omega) (by omega)
  have e0 := o 0 (by decide) (by omega)
  have e1 := o 1 (by decide) (by omega)
  have e2 : zhe R (87 + 3 * R 2) a f t 2 = R 2 + 1 := zhu_h
  refine ⟨⟨by rw [o 4 (by decide) (by omega)]; exact k4, by rw [e0]; exact k0, fun q => ?_, by rw [e0, o 6 (by decide) (by omega), o 7 (by decide) (by omega)]; exact k6⟩, fun p hp => ?_, fun i hi => ?_⟩
  · rw [e0] at q
    exact absurd q h0
  · rw [e1] at hp
    rw [e0, e1, p0 p hp, pk p 1 hp (by decide) (by decide), pk p 2 hp (by decide) (by decide), pk p 3 hp (by decide) (by decide), pk p 4 hp (by decide) (by decide), pk p 5 hp (by decide) (by decide), pk p 6 hp (by decide) (by decide), pk p 8 hp (by decide) (by decide), pk p 9 hp (by decide) (by decide), pk p 10 hp (by decide) (by decide)]
    obtain ⟨x, y⟩ := H1 p hp
    refine ⟨x, fun q hq => ?_⟩
    rw [y q hq]
    by_cases dq : ((q : Nat) : Int) < R 1
    · rw [if_pos dq, if_pos dq, pk q 5 dq (by decide) (by decide)]
    · rw [if_neg dq, if_neg dq]
  · rw [e2] at hi
    rw [e0]
    by_cases d : ((i : Nat) : Int) = R 2
    · rw [d]
      have v0 : zhe R (87 + 3 * R 2) a f t (87 + 3 * R 2) = a := by
        unfold zhe
        rw [zhu_m (by omega), zhu_m (by omega), zhu_m (by omega), zhu_h]
      have v1 : zhe R (87 + 3 * R 2) a f t (87 + 3 * R 2 + 1) = f := by
        unfold zhe
        rw [zhu_m (by omega), zhu_m (by omega), zhu_h]
      rw [v0, v1]
      omega
    · rw [o (87 + 3 * ((i : Nat) : Int)) (by omega) (by omega), o (87 + 3 * ((i : Nat) : Int) + 1) (by omega) (by omega)]
      exact H2 i (by omega)
theorem zbt_os {x : Int} {v p : Nat} (hv : v < 7) (hp : p < 7) : zbt (zor x (zshl 1 ((v : Nat) : Int))) ((p : Nat) : Int) = if v = p then 1 else zbt x ((p : Nat) : Int) := by
  rw [zbt_or, zbt_shl (by omega) (by omega)]
  by_cases e : v = p
  · rw [if_pos e, if_pos e]
    exact (zor_0 _ (zbt_01 x _)).2.2.1
  · rw [if_neg e, if_neg e]
    exact (zor_0 _ (zbt_01 x _)).1
/-- one more pair that hates: the bits -/
theorem zhh_b {x y p : Nat} (hx : x < 7) (hy : y < 7) (hp : p < 7) (ne : x ≠ y) (q : Nat) (hq : q < 7) : zbt (zhh R ((x : Nat) : Int) ((y : Nat) : Int) (10 + 11 * ((p : Nat) : Int) + 5)) ((q : Nat) : Int) = if (p = x ∧ q = y) ∨ (p = y ∧ q = x) then 1 else zbt (R (10 + 11 * ((p : Nat) : Int) + 5)) ((q : Nat) : Int) := by
  unfold zhh
  rw [zhu_m (by omega)]
  by_cases e1 : p = y
  · subst e1
    rw [zhu_h, zbt_os hx hq]
    by_cases e2 : x = q
    · rw [if_pos e2, if_pos (by omega)]
    · rw [if_neg e2, if_neg (by omega)]
  · rw [zhu_m (by omega)]
    by_cases e3 : p = x
    · subst e3
      rw [zhu_h, zbt_os hy hq]
      by_cases e2 : y = q
      · rw [if_pos e2, if_pos (by omega)]
      · rw [if_neg e2, if_neg (by omega)]
    · rw [zhu_m (by omega), if_neg (by omega)]
theorem zhh_m {k : Int} (h3 : k ≠ 3) (h : ¬ (10 ≤ k ∧ k < 87 ∧ (k - 10) % 11 = 5)) (ha : 0 ≤ a ∧ a < 7) (hc : 0 ≤ c ∧ c < 7) : zhh R a c k = R k := by
  unfold zhh
  rw [zhu_m h3, zhu_m (by omega), zhu_m (by omega)]
theorem zhX_h (H : zhX R) (h1 : 0 ≤ R 1 ∧ R 1 ≤ 7) (h2 : 0 ≤ R 2 ∧ R 2 ≤ 10) (ha : 0 ≤ a ∧ a < R 1) (hc : 0 ≤ c ∧ c < R 1) (ne : c ≠ a) : zhX (zhh R a c) := by
  obtain ⟨H0, H1, H2⟩ := H
  obtain ⟨x, rfl⟩ := Int.eq_ofNat_of_zero_le ha.1
  obtain ⟨y, rfl⟩ := Int.eq_ofNat_of_zero_le hc.1
  have m : ∀ k, k ≠ 3 → ¬ (10 ≤ k ∧ k < 87 ∧ (k - 10) % 11 = 5) → zhh R ((x : Nat) : Int) ((y : Nat) : Int) k = R k := fun k h3 h => zhh_m h3 h (by omega) (by omega)
  refine ⟨by rw [m 0 (by decide) (by decide), m 1 (by decide) (by decide), m 2 (by decide) (by decide), m 4 (by decide) (by decide), m 6 (by decide) (by decide), m 7 (by decide) (by decide)]; exact H0, fun p hp => ?_, fun i hi => ?_⟩
  · rw [m 1 (by decide) (by decide)] at hp
    obtain ⟨u, w⟩ := H1 p hp
    rw [m 0 (by decide) (by decide), m 1 (by decide) (by decide), m (10 + 11 * ((p : Nat) : Int)) (by omega) (by omega), m (10 + 11 * ((p : Nat) : Int) + 1) (by omega) (by omega), m (10 + 11 * ((p : Nat) : Int) + 2) (by omega) (by omega), m (10 + 11 * ((p : Nat) : Int) + 3) (by omega) (by omega), m (10 + 11 * ((p : Nat) : Int) + 4) (by omega) (by omega), m (10 + 11 * ((p : Nat) : Int) + 6) (by omega) (by omega), m (10 + 11 * ((p : Nat) : Int) + 8) (by omega) (by omega), m (10 + 11 * ((p : Nat) : Int) + 9) (by omega) (by omega), m (10 + 11 * ((p : Nat) : Int) + 10) (by omega) (by omega)]
    refine ⟨u, fun q hq => ?_⟩
    rw [zhh_b (by omega) (by omega) (by omega) (by omega) q hq, w q hq]
    by_cases dq : ((q : Nat) : Int) < R 1
    · rw [if_pos dq, if_pos dq, zhh_b (by omega) (by omega) (by omega) (by omega) p (by omega)]
      by_cases e : (p = x ∧ q = y) ∨ (p = y ∧ q = x)
      · rw [if_pos e, if_pos (by omega)]
      · rw [if_neg e, if_neg (by omega)]
    · rw [if_neg dq, if_neg dq, if_neg (by omega)]
  · rw [m 2 (by decide) (by decide)] at hi
    rw [m 0 (by decide) (by decide), m (87 + 3 * ((i : Nat) : Int)) (by omega) (by omega), m (87 + 3 * ((i : Nat) : Int) + 1) (by omega) (by omega)]
    exact H2 i hi
/-- a deaf one -/
theorem zhX_d (H : zhX R) (h1 : 0 ≤ R 1 ∧ R 1 ≤ 7) (h2 : 0 ≤ R 2 ∧ R 2 ≤ 10) (ha : 0 ≤ a ∧ a < R 1) : zhX (zhu R (10 + 11 * a + 6) 1) := by
  obtain ⟨H0, H1, H2⟩ := H
  have m : ∀ k, ¬ (10 ≤ k ∧ k < 87 ∧ (k - 10) % 11 = 6) → zhu R (10 + 11 * a + 6) 1 k = R k := fun k h => zhu_m (by omega)
  refine ⟨by rw [m 0 (by decide), m 1 (by decide), m 2 (by decide), m 4 (by decide), m 6 (by decide), m 7 (by decide)]; exact H0, fun p hp => ?_, fun i hi => ?_⟩
  · rw [m 1 (by decide)] at hp
    obtain ⟨⟨u0, u1, u2, u3, u4, u6, u7⟩, w⟩ := H1 p hp
    rw [m 0 (by decide), m 1 (by decide), m (10 + 11 * ((p : Nat) : Int)) (by omega), m (10 + 11 * ((p : Nat) : Int) + 1) (by omega), m (10 + 11 * ((p : Nat) : Int) + 2) (by omega), m (10 + 11 * ((p : Nat) : Int) + 3) (by omega), m (10 + 11 * ((p : Nat) : Int) + 4) (by omega), m (10 + 11 * ((p : Nat) : Int) + 5) (by omega), m (10 + 11 * ((p : Nat) : Int) + 8) (by omega), m (10 + 11 * ((p : Nat) : Int) + 9) (by omega), m (10 + 11 * ((p : Nat) : Int) + 10) (by omega)]
    refine ⟨⟨u0, u1, u2, u3, u4, ?_, u7⟩, fun q hq => ?_⟩
    · by_cases e : ((p : Nat) : Int) = a
      · rw [e, zhu_h]
        exact Or.inr rfl
      · rw [zhu_m (by omega)]
        exact u6
    · rw [w q hq, m (10 + 11 * ((q : Nat) : Int) + 5) (by omega)]
  · rw [m 2 (by decide)] at hi
    rw [m 0 (by decide), m (87 + 3 * ((i : Nat) : Int)) (by omega), m (87 + 3 * ((i : Nat) : Int) + 1) (by omega)]
    exact H2 i hi
/-- the bucket -/
theorem zhX_b (H : zhX R) (h1 : R 1 ≤ 7) (h2 : R 2 ≤ 10) (ha : 0 ≤ a ∧ a < R 0) (hc : 0 ≤ c ∧ c < R 0) : zhX (zhu (zhu R 6 a) 7 c) := by
  have m : ∀ k, k ≠ 6 → k ≠ 7 → zhu (zhu R 6 a) 7 c k = R k := fun k k6 k7 => by rw [zhu_m k7, zhu_m k6]
  have H' : zhX (zhu (zhu (zhu (zhu R 6 a) 7 c) 6 (R 6)) 7 (R 7)) := zhX_e H h1 h2 (by rw [zhu_m (by decide), zhu_m (by decide), m _ (by decide) (by decide)]) (by rw [zhu_m (by decide), zhu_m (by decide), m _ (by decide) (by decide)]) (by rw [zhu_m (by decide), zhu_m (by decide), m _ (by decide) (by decide)]) (by rw [zhu_m (by decide), zhu_m (by decide), m _ (by decide) (by decide)]) (by rw [zhu_m (by decide), zhu_h]) zhu_h (fun k k0 _ _ => by rw [zhu_m (by omega), zhu_m (by omega), m _ (by omega) (by omega)])
  obtain ⟨⟨k4, k0, k1, -⟩, H1, H2⟩ := H
  obtain ⟨-, H1', H2'⟩ := H'
  have mm : ∀ k, k ≠ 6 → k ≠ 7 → zhu (zhu (zhu (zhu R 6 a) 7 c) 6 (R 6)) 7 (R 7) k = zhu (zhu R 6 a) 7 c k := fun k k6 k7 => by rw [zhu_m k7, zhu_m k6]
  refine ⟨⟨by rw [m 4 (by decide) (by decide)]; exact k4, by rw [m 0 (by decide) (by decide)]; exact k0, by rw [m 0 (by decide) (by decide), m 1 (by decide) (by decide), m 2 (by decide) (by decide)]; exact k1, Or.inr ?_⟩, fun p hp => ?_, fun i hi => ?_⟩
  · rw [m 0 (by decide) (by decide), zhu_h, zhu_m (by decide), zhu_h]
    exact ⟨ha, hc⟩
  · have z := H1' p (by rw [mm 1 (by decide) (by decide)]; exact hp)
    rw [mm 0 (by decide) (by decide), mm 1 (by decide) (by decide), mm (10 + 11 * ((p : Nat) : Int)) (by omega) (by omega), mm (10 + 11 * ((p : Nat) : Int) + 1) (by omega) (by omega), mm (10 + 11 * ((p : Nat) : Int) + 2) (by omega) (by omega), mm (10 + 11 * ((p : Nat) : Int) + 3) (by omega) (by omega), mm (10 + 11 * ((p : Nat) : Int) + 4) (by omega) (by omega), mm (10 + 11 * ((p : Nat) : Int) + 5) (by omega) (by omega), mm (10 + 11 * ((p : Nat) : Int) + 6) (by omega) (by omega), mm (10 + 11 * ((p : Nat) : Int) + 8) (by omega) (by omega), mm (10 + 11 * ((p : Nat) : Int) + 9) (by omega) (by omega), mm (10 + 11 * ((p : Nat) : Int) + 10) (by omega) (by omega)] at z
    refine ⟨z.1, fun q hq => ?_⟩
    rw [z.2 q hq, mm (10 + 11 * ((q : Nat) : Int) + 5) (by omega) (by omega)]
  · have z := H2' i (by rw [mm 2 (by decide) (by decide)]; exact hi)
    rw [mm 0 (by decide) (by decide), mm (87 + 3 * ((i : Nat) : Int)) (by omega) (by omega), mm (87 + 3 * ((i : Nat) : Int) + 1) (by omega) (by omega)] at z
    exact z
/-- a clause keeps the ranges -/
theorem zhc_X {b : Int → Int} {T w p l : Int} {z : Int × zHS} (hb : zg_by b) (hT : T ≤ 400) (hp : 0 ≤ p) (hpT : p ≤ T) (hw0 : 0 ≤ w) (hw : w ≤ 10) (hwf : zhwf l R) (hov : ¬ zhov w l R) (H : zhX R) (h : zhc b T w p R = .inl z) : zhX z.2 := by
  obtain ⟨w0, w1, w2, w3, w4, w5, w6⟩ := hwf
  have one : ∀ {p lo hi un v q : Int}, 0 ≤ p → p ≤ T → zhn b T p lo hi un = .inl (v, q) → (lo ≤ v ∧ v ≤ hi ∧ v ≠ un) ∧ p < q ∧ q ≤ T := fun h1 h2 h3 => zhn_i hb hT h1 h2 h3
  have put : ∀ {i x q : Int}, (i = 5 ∨ i = 8 ∨ i = 9 ∨ (∃ v, 0 ≤ v ∧ v < R 1 ∧ i = 10 + 11 * v + 7)) → z = (q, zhu R i x) → zhX z.2 := by
    intro i x q hi e
    subst e
    have hi' : i = 5 ∨ i = 8 ∨ i = 9 ∨ (10 ≤ i ∧ i < 87 ∧ (i - 10) % 11 = 7) := by
      rcases hi with e | e | e | ⟨v, v0, v1, e⟩ <;> omega
    clear hi hov
    exact zhX_e H w2.2 w3.2 (zhu_m (by omega)) (zhu_m (by omega)) (zhu_m (by omega)) (zhu_m (by omega)) (zhu_m (by omega)) (zhu_m (by omega)) (fun k _ _ _ => zhu_m (by omega))
  have hR0 : w ≠ 0 → R 0 ≠ 0 := fun q r => hov (Or.inr (Or.inr (Or.inl ⟨q, r⟩)))
  unfold zhc at h
  by_cases e0 : w = 0
  · rw [if_pos e0] at h
    obtain ⟨v, q, x1, x2⟩ := zhb_l h
    have o1 := one hp hpT x1
    injection x2 with x2
    subst x2
    have r0 : R 0 = 0 := by
      have : ¬ (w = 0 ∧ 0 < R 0) := fun q => hov (Or.inr (Or.inl q))
      omega
    exact zhX_fl H r0 o1.1.1
  rw [if_neg e0] at h
  have r0 := hR0 e0
  by_cases e1 : w = 1
  · rw [if_pos e1] at h
    obtain ⟨v, q, x1, x2⟩ := zhb_l h
    have o1 := one hp hpT x1
    obtain ⟨v2, q2, y1, y2⟩ := zhb_l x2
    have o2 := one (by omega) o1.2.2 y1
    injection y2 with y2
    subst y2
    have h7 : R 1 ≠ 7 := fun q => hov (Or.inr (Or.inr (Or.inr (Or.inl ⟨e1, q⟩))))
    clear hov
    exact zhX_p H (by omega) w3 r0 (by omega) (by omega)
  rw [if_neg e1] at h
  by_cases e2 : w = 2
  · rw [if_pos e2] at h
    obtain ⟨v, q, x1, x2⟩ := zhb_l h
    have o1 := one hp hpT x1
    obtain ⟨v2, q2, y1, y2⟩ := zhb_l x2
    have o2 := one (by omega) o1.2.2 y1
    obtain ⟨v3, q3, z1, z2⟩ := zhb_l y2
    injection z2 with z2
    subst z2
    have h7 : R 2 ≠ 10 := fun q => hov (Or.inr (Or.inr (Or.inr (Or.inr (Or.inl ⟨e2, q⟩)))))
    clear hov
    exact zhX_er H w2 (by omega) r0 (by omega) (by omega)
  rw [if_neg e2] at h
  by_cases e3 : w = 3
  · rw [if_pos e3] at h
    obtain ⟨v, q, x1, x2⟩ := zhb_l h
    have o1 := one hp hpT x1
    obtain ⟨v2, q2, y1, y2⟩ := zhb_l x2
    have o2 := one (by omega) o1.2.2 y1
    injection y2 with y2
    subst y2
    clear hov
    exact zhX_h H w2 w3 (by omega) (by omega) o2.1.2.2
  rw [if_neg e3] at h
  by_cases e4 : w = 4
  · rw [if_pos e4] at h
    obtain ⟨v, q, x1, x2⟩ := zhb_l h
    have o1 := one hp hpT x1
    injection x2 with x2
    subst x2
    clear hov
    exact zhX_d H w2 w3 (by omega)
  rw [if_neg e4] at h
  by_cases e5 : w = 5
  · rw [if_pos e5] at h
    obtain ⟨v, q, x1, x2⟩ := zhb_l h
    have o1 := one hp hpT x1
    obtain ⟨v2, q2, y1, y2⟩ := zhb_l x2
    injection y2 with y2
    exact put (Or.inr (Or.inr (Or.inr ⟨v, o1.1.1, by omega, rfl⟩))) y2.symm
  rw [if_neg e5] at h
  by_cases e6 : w = 6
  · rw [if_pos e6] at h
    obtain ⟨v, q, x1, x2⟩ := zhb_l h
    have o1 := one hp hpT x1
    obtain ⟨v2, q2, y1, y2⟩ := zhb_l x2
    injection y2 with y2
    exact put (Or.inr (Or.inr (Or.inr ⟨v, o1.1.1, by omega, rfl⟩))) y2.symm
  rw [if_neg e6] at h
  by_cases e7 : w = 7
  · rw [if_pos e7] at h
    obtain ⟨v, q, x1, x2⟩ := zhb_l h
    injection x2 with x2
    exact put (Or.inr (Or.inl rfl)) x2.symm
  rw [if_neg e7] at h
  by_cases e8 : w = 8
  · rw [if_pos e8] at h
    obtain ⟨v, q, x1, x2⟩ := zhb_l h
    injection x2 with x2
    exact put (Or.inl rfl) x2.symm
  rw [if_neg e8] at h
  by_cases e9 : w = 9
  · rw [if_pos e9] at h
    obtain ⟨v, q, x1, x2⟩ := zhb_l h
    injection x2 with x2
    exact put (Or.inr (Or.inr (Or.inl rfl))) x2.symm
  rw [if_neg e9] at h
  obtain ⟨v, q, x1, x2⟩ := zhb_l h
  have o1 := one hp hpT x1
  obtain ⟨v2, q2, y1, y2⟩ := zhb_l x2
  have o2 := one (by omega) o1.2.2 y1
  injection y2 with y2
  subst y2
  clear hov
  exact zhX_b H w2.2 w3.2 (by omega) (by omega)
theorem zhb_r {x : (Int × Int) ⊕ Int} {k : Int → Int → zHg} {f : Int} (h : zhb x k = .inr f) : x = .inr f ∨ ∃ v q, x = .inl (v, q) ∧ k v q = .inr f := by
  match x, h with
  | .inl (v, q), h => exact Or.inr ⟨v, q, rfl, h⟩
  | .inr g, h =>
    have h : (.inr g : zHg) = .inr f := h
    injection h with h
    rw [h]
    exact Or.inl rfl
theorem zhc_nf {b : Int → Int} {T w p f : Int} (hb : zg_by b) (hT : T ≤ 400) (hp : 0 ≤ p) (hpT : p ≤ T) (h : zhc b T w p R = .inr f) : f ≠ 0 := by
  have r1 : ∀ {lo hi un : Int} {g : Int → Int → Int × zHS}, zhb (zhn b T p lo hi un) (fun x q => .inl (g x q)) = .inr f → f ≠ 0 := fun h => by
    rcases zhb_r h with x | ⟨v, q, x1, x2⟩
    · exact zhn_f hp x
    · cases x2
  have r2 : ∀ {lo hi un lo2 hi2 : Int} {u : Int → Int} {g : Int → Int → Int → Int × zHS}, zhb (zhn b T p lo hi un) (fun x q => zhb (zhn b T q lo2 hi2 (u x)) (fun y q => .inl (g x y q))) = .inr f → f ≠ 0 := fun h => by
    rcases zhb_r h with x | ⟨v, q, x1, x2⟩
    · exact zhn_f hp x
    · have o1 := zhn_i hb hT hp hpT x1
      rcases zhb_r x2 with y | ⟨v2, q2, y1, y2⟩
      · exact zhn_f (by omega) y
      · cases y2
  unfold zhc at h
  by_cases e0 : w = 0
  · rw [if_pos e0] at h
    exact r1 h
  rw [if_neg e0] at h
  by_cases e1 : w = 1
  · rw [if_pos e1] at h
    exact r2 h
  rw [if_neg e1] at h
  by_cases e2 : w = 2
  · rw [if_pos e2] at h
    rcases zhb_r h with x | ⟨v, q, x1, x2⟩
    · exact zhn_f hp x
    have o1 := zhn_i hb hT hp hpT x1
    rcases zhb_r x2 with y | ⟨v2, q2, y1, y2⟩
    · exact zhn_f (by omega) y
    have o2 := zhn_i hb hT (by omega) o1.2.2 y1
    rcases zhb_r y2 with z | ⟨v3, q3, z1, z2⟩
    · exact zhn_f (by omega) z
    cases z2
  rw [if_neg e2] at h
  by_cases e3 : w = 3
  · rw [if_pos e3] at h
    exact r2 h
  rw [if_neg e3] at h
  by_cases e4 : w = 4
  · rw [if_pos e4] at h
    exact r1 h
  rw [if_neg e4] at h
  by_cases e5 : w = 5
  · rw [if_pos e5] at h
    exact r2 h
  rw [if_neg e5] at h
  by_cases e6 : w = 6
  · rw [if_pos e6] at h
    exact r2 h
  rw [if_neg e6] at h
  by_cases e7 : w = 7
  · rw [if_pos e7] at h
    exact r1 h
  rw [if_neg e7] at h
  by_cases e8 : w = 8
  · rw [if_pos e8] at h
    exact r1 h
  rw [if_neg e8] at h
  by_cases e9 : w = 9
  · rw [if_pos e9] at h
    exact r1 h
  rw [if_neg e9] at h
  exact r2 h
/-- all told lies in its ranges -/
theorem zhr_X {b : Int → Int} {T : Int} (hb : zg_by b) (hT : T ≤ 400) : ∀ (n : Nat) (l p : Int) (R : zHS) {R' : zHS}, 0 ≤ p → p ≤ T → zhwf l R → zhX R → zhr b T n l p R = some (0, R') → zhX R' ∧ ∃ l, zhwf l R'
  | 0, _, _, _, _, _, _, _, _, h => by
    unfold zhr at h
    cases h
  | n + 1, l, p, R, R', hp, hpT, hwf, H, h => by
    have wr := zhw_r (b := b) (T := T) (p := p)
    have hn := zg_nx_le (b := b) (T := T) (p := p) hb hT hp
    unfold zhr at h
    cases hz : zhl b T l p R with
    | inr f =>
      rw [hz] at h
      injection h with h
      injection h with h1 h2
      unfold zhl at hz
      by_cases e : zhw b T p = -1
      · rw [if_pos e] at hz
        injection hz with hz
        omega
      · rw [if_neg e] at hz
        by_cases eo : zhov (zhw b T p) l R
        · rw [if_pos eo] at hz
          injection hz with hz
          clear eo
          omega
        · rw [if_neg eo] at hz
          exact absurd h1 (zhc_nf hb hT (by omega) (hn.2.1 hpT) hz)
    | inl z =>
      rw [hz] at h
      unfold zhl at hz
      by_cases e : zhw b T p = -1
      · rw [if_pos e] at hz
        cases hz
      · rw [if_neg e] at hz
        by_cases eo : zhov (zhw b T p) l R
        · rw [if_pos eo] at hz
          cases hz
        · rw [if_neg eo] at hz
          have ok := zhc_ok hb hT (by omega) (hn.2.1 hpT) (by omega) wr.2 hwf eo hz
          have okX := zhc_X hb hT (by omega) (hn.2.1 hpT) (by omega) wr.2 hwf eo H hz
          dsimp only at h
          by_cases c1 : zg_kind b T z.1 = 59
          · rw [if_pos c1] at h
            have hn2 := zg_nx_le (b := b) (T := T) (p := z.1) hb hT (by omega)
            exact zhr_X hb hT n (l + 1) _ z.2 (by omega) (hn2.2.1 ok.2.2) ok.1 okX h
          · rw [if_neg c1] at h
            by_cases c2 : zg_kind b T z.1 = -1
            · rw [if_pos c2] at h
              injection h with h
              injection h with h1 h2
              subst h2
              exact ⟨okX, _, ok.1⟩
            · rw [if_neg c2] at h
              injection h with h
              injection h with h1 h2
              omega
end HX
