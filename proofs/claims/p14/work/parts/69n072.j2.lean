/-! a rule told, on both sides -/
section JB
variable {bB : Int}
variable {s s2 : zS}
theorem zcan_Z (H : zRZ bB s) (h6 : s 7 8 ≤ 6) : zRZ bB (zcan s) ∧ zcan s 9 = zcan s 345 := by
  obtain ⟨a1, a2⟩ := H.1
  have o : ∀ x, x ≠ 9 → x ≠ 345 → zcan s x = s x := fun x h1 h2 => funext (fun y => zcan_o (by omega))
  have key : ∀ k : Nat, k < 400 → zcan s 9 k = zcan s 345 k := fun k hk => by
    rw [zcan_o (by omega), zcan_o (by omega)]
    exact a2 k hk
  refine ⟨zRZ_A H h6 (fun x x1 x2 x3 x4 => o x x2 x4) (fun y _ => by rw [o 344 (by decide) (by decide)]) ⟨by rw [o 8 (by decide) (by decide), o 344 (by decide) (by decide)]; exact a1, key⟩, ?_⟩
  funext b
  by_cases hb : 0 ≤ b ∧ b < 400
  · have q := key b.toNat (by omega)
    rw [Int.toNat_of_nonneg hb.1] at q
    exact q
  · unfold zcan
    rw [if_pos ⟨Or.inl rfl, hb⟩, if_pos ⟨Or.inr rfl, hb⟩]
theorem zA_rule (H : zRZ bB s) (h9 : s 9 = s 345) (hb : zg_by (s 9)) (h0 : 0 ≤ s 8 1) (h4 : s 8 1 ≤ 400) (c0 : 0 ≤ s 7 8) (c6 : s 7 8 ≤ 6) : ∃ r s1 s2, zE xm_c91 [7, 0] s r s1 ∧ zE xm_c168 [344] s1 r s2 ∧ zRZ bB s2 := by
  obtain ⟨a1, a2⟩ := H.1
  obtain ⟨b1, b2, b3⟩ := H.2.1
  by_cases c : s 7 8 = 6
  · have hr : zE xm_c168 [344] s (-1) s := by
      obtain ⟨r, z, u, v⟩ := zr_rule (s := s) (by rw [← h9]; exact hb) (by rw [← a1]; exact h0) (by rw [← a1]; exact h4) (by rw [← b1]; exact c0) (by rw [← b1]; exact c6)
      rcases v with ⟨v1, v2, v3⟩ | ⟨v1, -⟩
      · rw [v2, v3] at u
        exact u
      · exact absurd (by rw [← b1]; exact c) v1
    exact zRZ_r H (zb_91_0 (fun q => absurd q (by omega)) (fun _ => zb_91_4 rfl)) hr
  · have h20 : s (240 + 4 * s 7 8 + 2) 0 = 0 := by
      obtain ⟨k, hk⟩ := Int.eq_ofNat_of_zero_le c0
      have := b2 k (by omega)
      rw [hk, show (240 : Int) + 4 * ((k : Nat) : Int) + 2 = 242 + 4 * ((k : Nat) : Int) by omega]
      exact this
    obtain ⟨f, w, s1, z1, z2, z3, z4, z5, z6, z7⟩ := zo_ruleE hb h0 h4 c0 (by omega) h20
    have o1 : ∀ x, x ≠ 8 → x ≠ 39 → x ≠ 7 → ¬ (240 ≤ x ∧ x ≤ 263) → s1 x = s x := fun x x1 x2 x3 x4 => funext (fun y => z7 x y x1 x2 (by omega) (fun q => x3 q.1))
    have e344 : s1 344 = s 344 := o1 344 (by decide) (by decide) (by decide) (by decide)
    have e345 : s1 345 = s 345 := o1 345 (by decide) (by decide) (by decide) (by decide)
    obtain ⟨f', w', s2, y1, y2, y3, y4, y5, y6⟩ := zz_rule (s := s1) (by rw [e345, ← h9]; exact hb) (by rw [e344, ← a1]; exact h0) (by rw [e344, ← a1]; exact h4) (by rw [e344, ← b1]; exact c0) (by rw [e344, ← b1]; omega)
    rw [e345, e344, ← h9, ← a1] at y2
    have ed := ze_det z2 y2
    injection ed with e1 e2
    subst e1
    subst e2
    rw [e344, ← b1] at y1 y4 y5 y6
    have o2 : ∀ x, x ≠ 344 → ¬ (346 ≤ x ∧ x ≤ 349) → x ≠ 351 → s2 x = s1 x := fun x x1 x2 x3 => funext (fun y => y6 x y (fun q => x1 q.1) (fun q => x1 q.1) (fun q => by omega) (fun q => by omega) (fun q => by omega) (fun q => by omega) x3)
    have p2 : ∀ y, y ≠ 1 → y ≠ 2 → ¬ (8 ≤ y ∧ y ≤ 16) → s2 344 y = s 344 y := fun y k1 k2 k3 => by
      rw [y6 344 y (fun q => by omega) (fun q => k3 q.2) (fun q => absurd q.1 (by decide)) (fun q => absurd q.1 (by decide)) (fun q => absurd q.1 (by decide)) (fun q => absurd q.1 (by decide)) (by decide), e344]
    have oo : ∀ x, (10 ≤ x ∧ x ≤ 38) ∨ (40 ≤ x ∧ x ≤ 239) ∨ (264 ≤ x ∧ x ≤ 343) ∨ (352 ≤ x) → s2 x = s x := fun x hx => (o2 x (by omega) (by omega) (by omega)).trans (o1 x (by omega) (by omega) (by omega) (by omega))
    have n7 : s2 7 8 = s1 7 8 := by rw [o2 7 (by decide) (by decide) (by decide)]
    have mono : s 7 8 ≤ s2 7 8 := by
      rw [n7, z4]
      by_cases e : f = 0
      · rw [if_pos e]; omega
      · rw [if_neg e]; exact Int.le_refl _
    refine ⟨_, s1, s2, z1, y1, ⟨?_, ?_⟩, ⟨?_, fun i hi => ?_, fun i hi => ?_⟩, ?_, ?_, ?_⟩
    · rw [o2 8 (by decide) (by decide) (by decide), z3, y3]
    · intro k hk
      rw [o2 9 (by decide) (by decide) (by decide), o2 345 (by decide) (by decide) (by decide), e345, o1 9 (by decide) (by decide) (by decide) (by decide), h9]
    · rw [n7, z4, y4]
    · rw [o2 _ (by omega) (by omega) (by omega)]
      by_cases e : ((i : Nat) : Int) = s 7 8
      · rw [show (242 : Int) + 4 * ((i : Nat) : Int) = 240 + 4 * s 7 8 + 2 by omega]
        exact z6
      · rw [z7 _ 0 (by omega) (by omega) (by omega) (by omega)]
        exact b2 i hi
    · rw [n7, z4] at hi
      by_cases e : ((i : Nat) : Int) = s 7 8
      · -- the rule that was just told
        have f0 : f = 0 := by
          by_cases g : f = 0
          · exact g
          · rw [if_neg g] at hi
            omega
        have sk : 0 ≤ zg_sk (s 9) (s 8 1) 0 ∧ (zg_sk (s 9) (s 8 1) 0 ≤ s 8 1 ∨ zg_sk (s 9) (s 8 1) 0 = 0) := zg_run_le
        have gd := ze_good hb h4 ⟨sk.1, by omega⟩ z2 f0
        obtain ⟨v1, v2, v3, v4⟩ := y5 f0
        refine ⟨w, zCd_x (r := 240 + 4 * ((i : Nat) : Int)) (by rw [e]; exact z5 f0) (fun x y x1 x2 => by rw [o2 x (by omega) (by omega) (by omega)]), by rw [e]; exact v1, by rw [e]; exact v2, gd.1, gd.2.1, gd.2.2, v4⟩
      · have hi2 : ((i : Nat) : Int) < s 7 8 := by
          by_cases g : f = 0
          · rw [if_pos g] at hi
            omega
          · rw [if_neg g] at hi
            exact hi
        obtain ⟨v, q1, q2, q3, q4⟩ := b3 i hi2
        refine ⟨v, zCd_x q1 (fun x y x1 x2 => by rw [o2 x (by omega) (by omega) (by omega)]; exact z7 x y (by omega) (by omega) (by omega) (by omega)), ?_, ?_, q4⟩
        · have q4l := q4.1
          obtain ⟨u1, u2⟩ := q2
          have r7 : s2 347 ((i : Nat) : Int) = s1 347 ((i : Nat) : Int) := y6 347 _ (fun q => absurd q.1 (by decide)) (fun q => absurd q.1 (by decide)) (fun q => absurd q.1 (by decide)) (fun q => e q.2) (fun q => absurd q.1 (by decide)) (fun q => absurd q.1 (by decide)) (by decide)
          refine ⟨by rw [r7, o1 347 (by decide) (by decide) (by decide) (by decide)]; exact u1, fun j hj => ?_⟩
          rw [y6 346 _ (fun q => absurd q.1 (by decide)) (fun q => absurd q.1 (by decide)) (fun q => by omega) (fun q => absurd q.1 (by decide)) (fun q => absurd q.1 (by decide)) (fun q => absurd q.1 (by decide)) (by decide), o1 346 (by decide) (by decide) (by decide) (by decide)]
          exact u2 j hj
        · have q4m := q4.2.2.2
          obtain ⟨u1, u2⟩ := q3
          have r9 : s2 349 ((i : Nat) : Int) = s 349 ((i : Nat) : Int) := by rw [y6 349 _ (fun q => absurd q.1 (by decide)) (fun q => absurd q.1 (by decide)) (fun q => absurd q.1 (by decide)) (fun q => absurd q.1 (by decide)) (fun q => absurd q.1 (by decide)) (fun q => e q.2) (by decide), o1 349 (by decide) (by decide) (by decide) (by decide)]
          have r8 : ∀ y, 48 * ((i : Nat) : Int) ≤ y → y < 48 * ((i : Nat) : Int) + 48 → s2 348 y = s 348 y := fun y k1 k2 => by rw [y6 348 y (fun q => absurd q.1 (by decide)) (fun q => absurd q.1 (by decide)) (fun q => absurd q.1 (by decide)) (fun q => absurd q.1 (by decide)) (fun q => by omega) (fun q => absurd q.1 (by decide)) (by decide), o1 348 (by decide) (by decide) (by decide) (by decide)]
          refine ⟨by rw [r9]; exact u1, fun j hj => ?_⟩
          have := u2 j hj
          rw [r8 _ (by omega) (by omega), r8 _ (by omega) (by omega), r8 _ (by omega) (by omega), r8 _ (by omega) (by omega)]
          exact this
    · obtain ⟨c1, ⟨c2, c3⟩, c4⟩ := H.2.2.1
      have k10 : s2 10 = s 10 := oo 10 (by omega)
      refine ⟨by rw [k10, p2 21 (by decide) (by decide) (by decide)]; exact c1, ⟨by rw [k10]; exact c2, by rw [k10]; exact Int.lt_of_lt_of_le c3 mono⟩, by rw [k10, p2 22 (by decide) (by decide) (by decide)]; exact c4⟩
    · obtain ⟨n, m, D, E⟩ := H.2.2.2.1
      exact ⟨n, m, zgD_c D (fun x x1 x2 => oo x (by omega)) (by rw [oo 10 (by omega)]) (oo 354 (by omega)), zgE_c E (by rw [oo 40 (by omega)]) (by rw [oo 40 (by omega)]) (fun x x1 x2 => oo x (by omega)) (p2 26 (by decide) (by decide) (by decide)) (oo 356 (by omega)) (oo 354 (by omega))⟩
    · exact zgF_c H.2.2.2.2 mono (fun x x1 x2 => oo x (by omega)) (fun x x1 x2 => oo x (by omega))
end JB
