/-! the tape on the flat machine -/
/-- the tape's kind, place, size, fault -/
def zT (s : zS) (k p n f : Int) : zS := fun a b => if a = 8 ∧ b = 2 then k else if a = 8 ∧ b = 3 then p else if a = 8 ∧ b = 4 then n else if a = 8 ∧ b = 5 then f else s a b
section ZTT
variable {s : zS} {k p n f x a b : Int}
theorem zT_1 : zT s k p n f 8 1 = s 8 1 := rfl
theorem zT_2 : zT s k p n f 8 2 = k := rfl
theorem zT_3 : zT s k p n f 8 3 = p := rfl
theorem zT_4 : zT s k p n f 8 4 = n := rfl
theorem zT_5 : zT s k p n f 8 5 = f := rfl
theorem zT_o (h : a ≠ 8) : zT s k p n f a b = s a b := by
  unfold zT
  rw [if_neg (fun q => h q.1), if_neg (fun q => h q.1), if_neg (fun q => h q.1), if_neg (fun q => h q.1)]
theorem zT_9 : zT s k p n f 9 b = s 9 b := zT_o (by decide)
theorem zu_T2 : zu (zT s k p n f) 8 2 x = zT s x p n f := by
  funext a b
  unfold zu zT
  by_cases e : a = 8 ∧ b = 2 <;> simp [e]
theorem zu_T3 : zu (zT s k p n f) 8 3 x = zT s k x n f := by
  funext a b
  unfold zu zT
  by_cases e : a = 8 ∧ b = 3
  · obtain ⟨rfl, rfl⟩ := e
    simp
  · simp [e]
theorem zu_T4 : zu (zT s k p n f) 8 4 x = zT s k p x f := by
  funext a b
  unfold zu zT
  by_cases e : a = 8 ∧ b = 4
  · obtain ⟨rfl, rfl⟩ := e
    simp
  · simp [e]
theorem zu_T5 : zu (zT s k p n f) 8 5 x = zT s k p n x := by
  funext a b
  unfold zu zT
  by_cases e : a = 8 ∧ b = 5
  · obtain ⟨rfl, rfl⟩ := e
    simp
  · simp [e]
theorem zT_id : zT s (s 8 2) (s 8 3) (s 8 4) (s 8 5) = s := by
  funext a b
  unfold zT
  by_cases e1 : a = 8 ∧ b = 2
  · obtain ⟨rfl, rfl⟩ := e1
    rw [if_pos ⟨rfl, rfl⟩]
  rw [if_neg e1]
  by_cases e1 : a = 8 ∧ b = 3
  · obtain ⟨rfl, rfl⟩ := e1
    rw [if_pos ⟨rfl, rfl⟩]
  rw [if_neg e1]
  by_cases e1 : a = 8 ∧ b = 4
  · obtain ⟨rfl, rfl⟩ := e1
    rw [if_pos ⟨rfl, rfl⟩]
  rw [if_neg e1]
  by_cases e1 : a = 8 ∧ b = 5
  · obtain ⟨rfl, rfl⟩ := e1
    rw [if_pos ⟨rfl, rfl⟩]
  rw [if_neg e1]
theorem zT_T {k' p' n' f' : Int} : zT (zT s k p n f) k' p' n' f' = zT s k' p' n' f' := by
  funext a b
  unfold zT
  by_cases e1 : a = 8 ∧ b = 2
  · simp only [if_pos e1]
  by_cases e2 : a = 8 ∧ b = 3
  · simp only [if_neg e1, if_pos e2]
  by_cases e3 : a = 8 ∧ b = 4
  · simp only [if_neg e1, if_neg e2, if_pos e3]
  by_cases e4 : a = 8 ∧ b = 5
  · simp only [if_neg e1, if_neg e2, if_neg e3, if_pos e4]
  simp only [if_neg e1, if_neg e2, if_neg e3, if_neg e4]
end ZTT
section ZTN
variable {s : zS} {T k z f x1 x2 : Int} {R : Int × zS}
theorem zt_n11 (hT : s 8 1 = T) (hT4 : T ≤ 400) : ∀ (m : Nat) (p : Int), (T - p).toNat ≤ m → 0 ≤ p → zA xm_c82 30 [8, x1, x2] [] (zT s k (zg_sk (s 9) T p) z f) R → zA xm_c82 11 [8, x1, x2] [] (zT s k p z f) R := by
  intro m
  induction m with
  | zero =>
    intro p hm hp h
    refine zb_82_11 (fun h1 => ?_) (fun h1 => ?_)
    · rw [zT_3, zT_1, hT] at h1
      omega
    · rw [zT_3, zT_1, hT] at h1
      unfold zg_sk at h
      rw [zg_run_n (fun q => h1 q.1)] at h
      exact h
  | succ m ih =>
    intro p hm hp h
    refine zb_82_11 (fun h1 => ?_) (fun h1 => ?_)
    · rw [zT_3, zT_1, hT] at h1
      refine zb_82_16 (fun h2 => ?_) (fun h2 => ?_)
      · rw [zT_3, show (8 : Int) + 1 = 9 from rfl, zT_9] at h2
        refine zb_82_23 ?_
        rw [zT_3, zw_id (by omega) (by omega), zu_T3]
        refine ih (p + 1) (by omega) (by omega) ?_
        unfold zg_sk at h ⊢
        rw [zg_run_y (by omega)] at h
        exact h
      · rw [zT_3, show (8 : Int) + 1 = 9 from rfl, zT_9] at h2
        unfold zg_sk at h
        rw [zg_run_n (by omega)] at h
        exact h
    · rw [zT_3, zT_1, hT] at h1
      unfold zg_sk at h
      rw [zg_run_n (fun q => h1 q.1)] at h
      exact h
/-- letters, on -/
theorem zt_n80 (hT : s 8 1 = T) (hT4 : T ≤ 400) {q : Int} (hq : 0 ≤ q) : ∀ (m : Nat) (n : Int), (T - (q + n)).toNat ≤ m → 0 ≤ n → q + n ≤ 400 → ((0 : Int), zT s k q (zg_run (s 9) T 97 122 (q + n) - q) f) = R → zA xm_c82 80 [8, x1, x2] [] (zT s k q n f) R := by
  intro m
  induction m with
  | zero =>
    intro n hm hn h4 h
    refine zb_82_80 (fun h1 => ?_) (fun h1 => ?_)
    · rw [zT_3, zT_4, zT_1, hT, zw_id (by omega) (by omega)] at h1
      omega
    · rw [zT_3, zT_4, zT_1, hT, zw_id (by omega) (by omega)] at h1
      rw [zg_run_n (fun q => h1 q.1), show q + n - q = n by omega] at h
      exact zb_82_183 h
  | succ m ih =>
    intro n hm hn h4 h
    refine zb_82_80 (fun h1 => ?_) (fun h1 => ?_)
    · rw [zT_3, zT_4, zT_1, hT, zw_id (by omega) (by omega)] at h1
      refine zb_82_88 (fun h2 => ?_) (fun h2 => ?_)
      · rw [zT_3, zT_4, show (8 : Int) + 1 = 9 from rfl, zT_9, zw_id (by omega) (by omega)] at h2
        rw [zg_run_n (by omega), show q + n - q = n by omega] at h
        exact zb_82_183 h
      · rw [zT_3, zT_4, show (8 : Int) + 1 = 9 from rfl, zT_9, zw_id (by omega) (by omega)] at h2
        refine zb_82_98 (fun h3 => ?_) (fun h3 => ?_)
        · rw [zT_3, zT_4, show (8 : Int) + 1 = 9 from rfl, zT_9, zw_id (by omega) (by omega)] at h3
          rw [zg_run_n (by omega), show q + n - q = n by omega] at h
          exact zb_82_183 h
        · rw [zT_3, zT_4, show (8 : Int) + 1 = 9 from rfl, zT_9, zw_id (by omega) (by omega)] at h3
          refine zb_82_108 ?_
          rw [zT_4, zw_id (by omega) (by omega), zu_T4]
          refine ih (n + 1) (by omega) (by omega) (by omega) ?_
          rw [zg_run_y (by omega), show q + n + 1 = q + (n + 1) by omega] at h
          exact h
    · rw [zT_3, zT_4, zT_1, hT, zw_id (by omega) (by omega)] at h1
      rw [zg_run_n (fun q => h1 q.1), show q + n - q = n by omega] at h
      exact zb_82_183 h
/-- digits, on -/
theorem zt_n124 (hT : s 8 1 = T) (hT4 : T ≤ 400) {q : Int} (hq : 0 ≤ q) : ∀ (m : Nat) (n : Int), (T - (q + n)).toNat ≤ m → 0 ≤ n → q + n ≤ 400 → ((0 : Int), zT s k q (zg_run (s 9) T 48 57 (q + n) - q) f) = R → zA xm_c82 124 [8, x1, x2] [] (zT s k q n f) R := by
  intro m
  induction m with
  | zero =>
    intro n hm hn h4 h
    refine zb_82_124 (fun h1 => ?_) (fun h1 => ?_)
    · rw [zT_3, zT_4, zT_1, hT, zw_id (by omega) (by omega)] at h1
      omega
    · rw [zT_3, zT_4, zT_1, hT, zw_id (by omega) (by omega)] at h1
      rw [zg_run_n (fun q => h1 q.1), show q + n - q = n by omega] at h
      exact zb_82_183 h
  | succ m ih =>
    intro n hm hn h4 h
    refine zb_82_124 (fun h1 => ?_) (fun h1 => ?_)
    · rw [zT_3, zT_4, zT_1, hT, zw_id (by omega) (by omega)] at h1
      refine zb_82_132 (fun h2 => ?_) (fun h2 => ?_)
      · rw [zT_3, zT_4, show (8 : Int) + 1 = 9 from rfl, zT_9, zw_id (by omega) (by omega)] at h2
        rw [zg_run_n (by omega), show q + n - q = n by omega] at h
        exact zb_82_183 h
      · rw [zT_3, zT_4, show (8 : Int) + 1 = 9 from rfl, zT_9, zw_id (by omega) (by omega)] at h2
        refine zb_82_142 (fun h3 => ?_) (fun h3 => ?_)
        · rw [zT_3, zT_4, show (8 : Int) + 1 = 9 from rfl, zT_9, zw_id (by omega) (by omega)] at h3
          rw [zg_run_n (by omega), show q + n - q = n by omega] at h
          exact zb_82_183 h
        · rw [zT_3, zT_4, show (8 : Int) + 1 = 9 from rfl, zT_9, zw_id (by omega) (by omega)] at h3
          refine zb_82_152 ?_
          rw [zT_4, zw_id (by omega) (by omega), zu_T4]
          refine ih (n + 1) (by omega) (by omega) (by omega) ?_
          rw [zg_run_y (by omega), show q + n + 1 = q + (n + 1) by omega] at h
          exact h
    · rw [zT_3, zT_4, zT_1, hT, zw_id (by omega) (by omega)] at h1
      rw [zg_run_n (fun q => h1 q.1), show q + n - q = n by omega] at h
      exact zb_82_183 h
/-- first and second byte are known -/
theorem zt_n71 (hb : zg_by (s 9)) (hT : s 8 1 = T) (hT4 : T ≤ 400) {q c1 c2 : Int} (hq : 0 ≤ q) (hq4 : q ≤ T) (h1 : c1 = zg_c (s 9) T q) (h2 : c2 = 61 ↔ (q + 1 < T ∧ s 9 (q + 1) = 61)) : ∀ (R : Int × zS), ((0 : Int), zT s (zg_kind (s 9) T q) q (zg_te (s 9) T q - q) f) = R → (c1 < 97 → zA xm_c82 115 [8, c1, c2] [] (zT s k q (if q < T then 1 else 0) f) R) ∧ (¬ c1 < 97 → zA xm_c82 74 [8, c1, c2] [] (zT s k q (if q < T then 1 else 0) f) R) := by
  intro R hR
  have cb := zg_cb hb hT4 hq
  rw [← h1] at cb
  have t159 : ¬ (97 ≤ c1 ∧ c1 ≤ 122) → ¬ (48 ≤ c1 ∧ c1 ≤ 57) → zA xm_c82 159 [8, c1, c2] [] (zT s k q (if q < T then 1 else 0) f) R := by
    intro z1 z2
    have two : (q + 1 < T ∧ s 9 (q + 1) = 61) → (c1 = 60 ∨ c1 = 62) → zA xm_c82 168 [8, c1, c2] [] (zT s k q (if q < T then 1 else 0) f) R := by
      intro z3 z4
      have hk : zg_kind (s 9) T q = if c1 = 60 then 256 else 257 := by
        unfold zg_kind
        rw [← h1, if_neg z1, if_neg z2, if_pos ⟨z3, z4⟩]
      have ht : zg_te (s 9) T q = q + 2 := by
        unfold zg_te
        rw [← h1, if_neg z1, if_neg z2, if_pos ⟨z3, z4⟩]
      rw [hk, ht, show q + 2 - q = 2 by omega] at hR
      refine zb_82_168 (fun h3 => ?_) (fun h3 => ?_)
      · refine zb_82_172 ?_
        rw [if_pos h3] at hR
        rw [zu_T2, zu_T4]
        exact hR
      · refine zb_82_174 ?_
        rw [if_neg h3] at hR
        rw [zu_T2, zu_T4]
        exact hR
    have one : ¬ ((q + 1 < T ∧ s 9 (q + 1) = 61) ∧ (c1 = 60 ∨ c1 = 62)) → zA xm_c82 180 [8, c1, c2] [] (zT s k q (if q < T then 1 else 0) f) R := by
      intro z3
      refine zb_82_180 ?_
      have hk : zg_kind (s 9) T q = c1 := by
        unfold zg_kind
        rw [← h1, if_neg z1, if_neg z2, if_neg z3]
      have ht : zg_te (s 9) T q - q = if q < T then 1 else 0 := by
        unfold zg_te
        rw [← h1, if_neg z1, if_neg z2, if_neg z3]
        by_cases e : q < T
        · rw [if_pos e, if_pos e]
          omega
        · rw [if_neg e, if_neg e]
          omega
      rw [hk, ht] at hR
      rw [zu_T2]
      exact hR
    refine zb_82_159 (fun h3 => ?_) (fun h3 => ?_)
    · refine zb_82_162 (fun h4 => two (h2.mp h3) (Or.inl h4)) (fun h4 => ?_)
      exact zb_82_165 (fun h5 => two (h2.mp h3) (Or.inr h5)) (fun h5 => one (fun z => by omega))
    · exact one (fun z => h3 (h2.mpr z.1))
  have t115 : ¬ (97 ≤ c1 ∧ c1 ≤ 122) → zA xm_c82 115 [8, c1, c2] [] (zT s k q (if q < T then 1 else 0) f) R := by
    intro z1
    refine zb_82_115 (fun h3 => t159 z1 (by omega)) (fun h3 => zb_82_118 (fun h4 => t159 z1 (by omega)) (fun h4 => ?_))
    refine zb_82_121 ?_
    have hk : zg_kind (s 9) T q = 48 := by
      unfold zg_kind
      rw [← h1, if_neg z1, if_pos (by omega)]
    have ht : zg_te (s 9) T q = zg_run (s 9) T 48 57 q := by
      unfold zg_te
      rw [← h1, if_neg z1, if_pos (by omega)]
    rw [hk, ht, zg_run_y (by omega)] at hR
    rw [if_pos (by omega), zu_T2]
    exact zt_n124 hT hT4 hq _ 1 (Nat.le_refl _) (by omega) (by omega) hR
  refine ⟨fun h3 => t115 (by omega), fun h3 => zb_82_74 (fun h4 => t115 (by omega)) (fun h4 => ?_)⟩
  refine zb_82_77 ?_
  have hk : zg_kind (s 9) T q = 97 := by
    unfold zg_kind
    rw [← h1, if_pos (by omega)]
  have ht : zg_te (s 9) T q = zg_run (s 9) T 97 122 q := by
    unfold zg_te
    rw [← h1, if_pos (by omega)]
  rw [hk, ht, zg_run_y (by omega)] at hR
  rw [if_pos (by omega), zu_T2]
  exact zt_n80 hT hT4 hq _ 1 (Nat.le_refl _) (by omega) (by omega) hR
/-- behind no fault: on to the next token -/
theorem zt_next (hb : zg_by (s 9)) (hT : s 8 1 = T) (hT4 : T ≤ 400) {p n : Int} (hp : 0 ≤ p) (hn : 0 ≤ n) (hpn : p + n ≤ T) {q : Int} (hq : zg_sk (s 9) T (p + n) = q) : zE xm_c82 [8, 0, 0] (zT s k p n 0) 0 (zT s (zg_kind (s 9) T q) q (zg_te (s 9) T q - q) 0) := by
  have rl := zg_run_le (b := s 9) (T := T) (lo := 32) (hi := 32) (p := p + n)
  refine zb_82_0 (fun h1 => ?_) (fun h1 => absurd zT_5 h1)
  refine zb_82_4 ?_
  rw [zT_3, zT_4, zw_id (by omega) (by omega), zu_T3]
  refine zt_n11 hT hT4 _ (p + n) (Nat.le_refl _) (by omega) ?_
  rw [hq]
  have rl2 : p + n ≤ q ∧ (q ≤ T ∨ q = p + n) := by rw [← hq]; exact rl
  have t52 : ∀ c1 z, c1 = zg_c (s 9) T q → z = (if q < T then 1 else 0) → (zw (q + 1) < T → (c1 < 97 → zA xm_c82 115 [8, c1, s 9 (zw (q + 1))] [] (zT s k q z 0) (0, zT s (zg_kind (s 9) T q) q (zg_te (s 9) T q - q) 0)) ∧ (¬ c1 < 97 → zA xm_c82 74 [8, c1, s 9 (zw (q + 1))] [] (zT s k q z 0) (0, zT s (zg_kind (s 9) T q) q (zg_te (s 9) T q - q) 0))) ∧ (¬ zw (q + 1) < T → (c1 < 97 → zA xm_c82 115 [8, c1, -1] [] (zT s k q z 0) (0, zT s (zg_kind (s 9) T q) q (zg_te (s 9) T q - q) 0)) ∧ (¬ c1 < 97 → zA xm_c82 74 [8, c1, -1] [] (zT s k q z 0) (0, zT s (zg_kind (s 9) T q) q (zg_te (s 9) T q - q) 0))) := by
    intro c1 z hc hz
    rw [hz, zw_id (by omega) (by omega)]
    refine ⟨fun h3 => zt_n71 hb hT hT4 (by omega) (by omega) hc ⟨fun h4 => ⟨h3, h4⟩, fun h4 => h4.2⟩ _ rfl, fun h3 => zt_n71 hb hT hT4 (by omega) (by omega) hc ⟨fun h4 => by omega, fun h4 => by omega⟩ _ rfl⟩
  refine zb_82_30 (fun h2 => ?_) (fun h2 => ?_)
  · rw [zT_3, zT_1, hT] at h2
    refine zb_82_36 (fun h3 => ?_) (fun h3 => absurd zu_hit h3)
    rw [zu_T4]
    obtain ⟨t1, t2⟩ := t52 (zand (s 9 q) 255) 1 (by unfold zg_c; rw [if_pos h2]) (by rw [if_pos h2])
    refine zb_82_44 (fun h4 => ?_) (fun h4 => ?_)
    · rw [zT_3, zT_1, hT] at h4
      rw [show (8 : Int) + 1 = 9 from rfl, zT_9, zT_3]
      refine zb_82_61 (fun h5 => ?_) (fun h5 => ?_)
      · rw [show (8 : Int) + 1 = 9 from rfl, zT_9, zT_3]
        exact (t1 h4).1 h5
      · rw [show (8 : Int) + 1 = 9 from rfl, zT_9, zT_3]
        exact (t1 h4).2 h5
    · rw [zT_3, zT_1, hT] at h4
      rw [show (8 : Int) + 1 = 9 from rfl, zT_9, zT_3]
      exact zb_82_69 (t2 h4).1 (t2 h4).2
  · rw [zT_3, zT_1, hT] at h2
    refine zb_82_38 (fun h3 => ?_) (fun h3 => ?_)
    · rw [zu_hit] at h3
      omega
    · rw [zu_T4]
      obtain ⟨t1, t2⟩ := t52 (-1) 0 (by unfold zg_c; rw [if_neg h2]) (by rw [if_neg h2])
      refine zb_82_52 (fun h4 => ?_) (fun h4 => ?_)
      · rw [zT_3, zT_1, hT] at h4
        refine zb_82_61 (fun h5 => ?_) (fun h5 => ?_)
        · rw [show (8 : Int) + 1 = 9 from rfl, zT_9, zT_3]
          exact (t1 h4).1 h5
        · rw [show (8 : Int) + 1 = 9 from rfl, zT_9, zT_3]
          exact (t1 h4).2 h5
      · rw [zT_3, zT_1, hT] at h4
        exact zb_82_69 (t2 h4).1 (t2 h4).2
/-- behind a fault: nothing -/
theorem zt_next0 {p n : Int} (hf : f ≠ 0) : zE xm_c82 [8, 0, 0] (zT s k p n f) 0 (zT s k p n f) :=
  zb_82_0 (fun h1 => absurd h1 hf) (fun _ => zb_82_3 rfl)
theorem zt_fail {p n c : Int} (hp : 0 ≤ p) (hp4 : p ≤ 400) (hc : 0 ≤ c) (hc4 : c ≤ 4) : zE xm_c81 [8, c] (zT s k p n 0) 0 (zT s (-2) p 0 (1 + 8 * p + c)) := by
  refine zb_81_0 (fun h1 => zb_81_3 ?_) (fun h1 => absurd zT_5 h1)
  rw [zT_3, zu_T5, zu_T2, zu_T4, zw_id (x := 8 * p) (by omega) (by omega), zw_id (x := 1 + 8 * p) (by omega) (by omega), zw_id (by omega) (by omega)]
theorem zt_fail0 {p n c : Int} (hf : f ≠ 0) : zE xm_c81 [8, c] (zT s k p n f) 0 (zT s (-2) p 0 f) := by
  refine zb_81_0 (fun h1 => absurd h1 hf) (fun h1 => zb_81_13 ?_)
  rw [zu_T2, zu_T4]
end ZTN
