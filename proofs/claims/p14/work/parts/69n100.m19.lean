/-! starts: whether all news are so -/
/-- what a person answers -/
def znf (τ : Int → Int) (q : Int) : Int := if zpe τ q 8 < 0 then -1000 else zpe τ q 9
/-- the first k news are so -/
def zNs (σ τ : Int → Int) : Nat → Bool
  | 0 => true
  | k + 1 => zNs σ τ k && decide (znf τ (σ (117 + 2 * ((k : Nat) : Int))) = σ (117 + 2 * ((k : Nat) : Int) + 1))
section MU
variable {bB : Int} {σ τ : Int → Int} {n m K B M : Nat} {F : Int} {U : (Int → Int) → Int} {s t : zS} {a c x y f h : Int} {p q b i : Nat}
theorem zpr {a b : Int} {s t : zS} (h : (a, s) = (b, t)) : a = b ∧ s = t := ⟨congrArg Prod.fst h, congrArg Prod.snd h⟩
theorem zNs_s (k : Nat) : zNs σ τ (k + 1) = (zNs σ τ k && decide (znf τ (σ (117 + 2 * ((k : Nat) : Int))) = σ (117 + 2 * ((k : Nat) : Int) + 1))) := rfl
theorem zNs_f {k : Nat} (h : zNs σ τ k = false) : ∀ j : Nat, zNs σ τ (k + j) = false
  | 0 => h
  | j + 1 => by
    show zNs σ τ (k + j + 1) = false
    rw [zNs_s, zNs_f h j]
    rfl
theorem zNs_n {k : Nat} (hk : k < M) (h : ¬ znf τ (σ (117 + 2 * ((k : Nat) : Int))) = σ (117 + 2 * ((k : Nat) : Int) + 1)) : zNs σ τ M = false := by
  have e : zNs σ τ (k + 1) = false := by
    rw [zNs_s, decide_eq_false h, Bool.and_false]
  have := zNs_f e (M - (k + 1))
  rw [Nat.add_sub_cancel' hk] at this
  exact this
theorem zB_217 {G : Nat} {R : Int × zS} (hs : t 354 = τ) (x0 : 0 ≤ x) (x6 : x ≤ 6) (e0 : zG G xm_c217 0 [344, x] [] t R) : R = (znf τ x, t) := by
  unfold znf
  obtain ⟨F1, l1, r1, s1, q1, e1⟩ := zi_217_0 e0
  obtain ⟨rfl, rfl⟩ := zdet q1 (zr_know hs x0 x6)
  by_cases w : zpe τ x 8 < 0
  · rw [if_pos w] at e1
    obtain ⟨F2, l2, w2⟩ := zi_217_3 e1
    rw [zi_217_9 (w2.resolve_right (fun q => absurd rfl q.1)).2, if_pos w]
  · rw [if_neg w] at e1
    obtain ⟨F2, l2, w2⟩ := zi_217_3 e1
    obtain ⟨F3, l3, r3, s3, q3, e3⟩ := zi_217_4 (w2.resolve_left (fun q => absurd q.1 (by decide))).2
    obtain ⟨rfl, rfl⟩ := zdet q3 (zr_per hs x0 x6 (by decide) (by decide))
    rw [zi_217_8 e3, if_neg w]
theorem zB_218 {G : Nat} {R : Int × zS} (hs : t 354 = τ) (h117 : ∀ k : Int, 117 ≤ k → k ≤ 137 → τ k = σ k) (hM : σ 137 = ((M : Nat) : Int)) (hM10 : M ≤ 10) (hr : ∀ k : Nat, k < M → 0 ≤ σ (117 + 2 * ((k : Nat) : Int)) ∧ σ (117 + 2 * ((k : Nat) : Int)) ≤ 6) (e0 : zG G xm_c218 0 [344, 0] [] t R) : R = (if zNs σ τ M = true then 1 else 0, t) := by
  have loop : ∀ (G k : Nat) (R : Int × zS), k ≤ M → zNs σ τ k = true → zG G xm_c218 2 [344, ((k : Nat) : Int)] [] t R → R = (if zNs σ τ M = true then 1 else 0, t) := by
    intro G
    induction G using Nat.strongRecOn with
    | _ G ih =>
      intro k R hk hN e0
      obtain ⟨F1, l1, ⟨c1, e1⟩ | ⟨c1, e1⟩⟩ := zi_218_2 e0
      · have c1 : ((k : Nat) : Int) < t 354 137 := c1
        have kM : k < M := by
          rw [hs, h117 137 (by decide) (by decide), hM] at c1
          exact Int.ofNat_lt.mp c1
        have k10 : ((k : Nat) : Int) ≤ 9 := by
          clear ih c1
          omega
        have en : zw (((k : Nat) : Int) + 1) = ((k + 1 : Nat) : Int) := by
          clear ih c1
          exact zw_id (by omega) (by omega)
        have z1 : zw (117 + zw (2 * ((k : Nat) : Int))) = 117 + 2 * ((k : Nat) : Int) := by
          clear ih c1
          rw [zw_id (x := 2 * ((k : Nat) : Int)) (by omega) (by omega), zw_id (by omega) (by omega)]
        have z2 : zw (117 + 2 * ((k : Nat) : Int) + 1) = 117 + 2 * ((k : Nat) : Int) + 1 := by
          clear ih c1
          exact zw_id (by omega) (by omega)
        obtain ⟨F2, l2, r2, s2, q2, e2⟩ := zi_218_8 e1
        have v1 : t (344 + 10) (117 + 2 * ((k : Nat) : Int)) = σ (117 + 2 * ((k : Nat) : Int)) := by
          show t 354 _ = _
          rw [hs, h117 _ (by omega) (by omega)]
        have v2 : t (344 + 10) (117 + 2 * ((k : Nat) : Int) + 1) = σ (117 + 2 * ((k : Nat) : Int) + 1) := by
          show t 354 _ = _
          rw [hs, h117 _ (by omega) (by omega)]
        rw [z1, v1] at q2
        have kk := zB_217 hs (hr k kM).1 (hr k kM).2 q2
        obtain ⟨k31, k32⟩ := zpr kk
        subst k31
        have k33 := k32.symm
        subst k33
        have step : zNs σ τ (k + 1) = (zNs σ τ k && decide (znf τ (σ (117 + 2 * ((k : Nat) : Int))) = σ (117 + 2 * ((k : Nat) : Int) + 1))) := rfl
        obtain ⟨F3, l3, ⟨c3, e3⟩ | ⟨c3, e3⟩⟩ := zi_218_18 e2
        · rw [z1, z2, v2] at c3
          obtain ⟨F4, l4, e4⟩ := zi_218_31 e3
          rw [en] at e4
          refine ih F4 (Nat.lt_trans l4 (Nat.lt_trans l3 (Nat.lt_trans l2 l1))) (k + 1) R kM ?_ e4
          rw [step, hN, decide_eq_true c3]
          rfl
        · rw [z1, z2, v2] at c3
          rw [zi_218_29 e3, zNs_n kM c3, if_neg (by decide)]
      · have c1 : ¬ ((k : Nat) : Int) < t 354 137 := c1
        have kM : k = M := by
          rw [hs, h117 137 (by decide) (by decide), hM] at c1
          exact Nat.le_antisymm hk (Nat.not_lt.mp (fun q => c1 (Int.ofNat_lt.mpr q)))
        rw [kM] at hN
        rw [zi_218_33 e1, if_pos hN]
  obtain ⟨F1, l1, e1⟩ := zi_218_0 e0
  exact loop F1 0 R (Nat.zero_le M) rfl e1
/-- what a person answers, in the class -/
theorem zB_40 {G : Nat} {R : Int × zS} (h7 : n ≤ 7) (hL : zRL t 230 τ n) (hq : q < n) (e0 : zG G xm_c40 0 [230, ((q : Nat) : Int)] [] t R) : R = (znf τ ((q : Nat) : Int), t) := by
  unfold znf
  obtain ⟨F1, l1, r1, s1, q1, e1⟩ := zi_40_0 e0
  obtain ⟨rfl, rfl⟩ := zdet q1 zo_bit
  have eb : zbt (t 230 0) ((q : Nat) : Int) = 1 ↔ zkn τ q := by
    rw [hL.1]
    exact zbt_fo1 hq (by omega)
  obtain ⟨F2, l2, ⟨c2, e2⟩ | ⟨c2, e2⟩⟩ := zi_40_4 e1
  · have w := eb.mp c2
    rw [zi_40_6 e2, if_neg w]
    exact congrArg (fun v => (v, t)) (hL.2 q hq).2.1
  · have w : zpe τ ((q : Nat) : Int) 8 < 0 := Decidable.not_not.mp (fun z => c2 (eb.mpr z))
    rw [zi_40_11 e2, if_pos w]
/-- of any number it answers something -/
theorem zB_40a {G : Nat} {R : Int × zS} (e0 : zG G xm_c40 0 [230, x] [] t R) : R.2 = t := by
  obtain ⟨F1, l1, r1, s1, q1, e1⟩ := zi_40_0 e0
  obtain ⟨rfl, rfl⟩ := zdet q1 zo_bit
  obtain ⟨F2, l2, ⟨c2, e2⟩ | ⟨c2, e2⟩⟩ := zi_40_4 e1
  · rw [zi_40_6 e2]
  · rw [zi_40_11 e2]
theorem zB_77 {G : Nat} {R : Int × zS} (h7 : n ≤ 7) (hL : zRL t 230 τ n) (h5 : t 10 5 = ((M : Nat) : Int)) (hM10 : M ≤ 10) (h28 : ∀ k : Nat, k < M → t 28 ((k : Nat) : Int) = σ (117 + 2 * ((k : Nat) : Int)) ∧ t 29 ((k : Nat) : Int) = σ (117 + 2 * ((k : Nat) : Int) + 1)) (hr : ∀ k : Nat, k < M → 0 ≤ σ (117 + 2 * ((k : Nat) : Int)) ∧ σ (117 + 2 * ((k : Nat) : Int)) < ((n : Nat) : Int)) (e0 : zG G xm_c77 0 [10, 230, 0] [] t R) : R = (if zNs σ τ M = true then 1 else 0, t) := by
  have loop : ∀ (G k : Nat) (R : Int × zS), k ≤ M → zNs σ τ k = true → zG G xm_c77 2 [10, 230, ((k : Nat) : Int)] [] t R → R = (if zNs σ τ M = true then 1 else 0, t) := by
    intro G
    induction G using Nat.strongRecOn with
    | _ G ih =>
      intro k R hk hN e0
      obtain ⟨F1, l1, ⟨c1, e1⟩ | ⟨c1, e1⟩⟩ := zi_77_2 e0
      · have kM : k < M := by
          rw [h5] at c1
          exact Int.ofNat_lt.mp c1
        have en : zw (((k : Nat) : Int) + 1) = ((k + 1 : Nat) : Int) := by
          clear ih c1
          exact zw_id (by omega) (by omega)
        obtain ⟨F2, l2, r2, s2, q2, e2⟩ := zi_77_6 e1
        obtain ⟨b1, b2⟩ := h28 k kM
        have v1 : t (10 + 18) ((k : Nat) : Int) = σ (117 + 2 * ((k : Nat) : Int)) := b1
        have v2 : t (10 + 19) ((k : Nat) : Int) = σ (117 + 2 * ((k : Nat) : Int) + 1) := b2
        rw [v1] at q2
        obtain ⟨q, hq⟩ := Int.eq_ofNat_of_zero_le (hr k kM).1
        have qn : q < n := by
          have := (hr k kM).2
          rw [hq] at this
          exact Int.ofNat_lt.mp this
        rw [hq] at q2
        have kk := zB_40 h7 hL qn q2
        obtain ⟨k31, k32⟩ := zpr kk
        subst k31
        have k33 := k32.symm
        subst k33
        rw [← hq] at e2
        have step : zNs σ τ (k + 1) = (zNs σ τ k && decide (znf τ (σ (117 + 2 * ((k : Nat) : Int))) = σ (117 + 2 * ((k : Nat) : Int) + 1))) := rfl
        obtain ⟨F3, l3, ⟨c3, e3⟩ | ⟨c3, e3⟩⟩ := zi_77_12 e2
        · rw [v2] at c3
          obtain ⟨F4, l4, e4⟩ := zi_77_19 e3
          rw [en] at e4
          refine ih F4 (Nat.lt_trans l4 (Nat.lt_trans l3 (Nat.lt_trans l2 l1))) (k + 1) R kM ?_ e4
          rw [step, hN, decide_eq_true c3]
          rfl
        · rw [v2] at c3
          rw [zi_77_17 e3, zNs_n kM c3, if_neg (by decide)]
      · have kM : k = M := by
          rw [h5] at c1
          exact Nat.le_antisymm hk (Nat.not_lt.mp (fun q => c1 (Int.ofNat_lt.mpr q)))
        rw [kM] at hN
        rw [zi_77_21 e1, if_pos hN]
  obtain ⟨F1, l1, e1⟩ := zi_77_0 e0
  exact loop F1 0 R (Nat.zero_le M) rfl e1
end MU
