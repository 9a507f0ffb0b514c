/-! the read-only answers, on both sides: meeting, count -/
section LU
variable {bB : Int}
variable {s : zS} {x y : Int}
/-- flights from all to a floor -/
theorem zA_far {n : Nat} (h7 : n ≤ 7) (h1 : s 11 1 = ((n : Nat) : Int)) (gn : s 354 1 = ((n : Nat) : Int)) (fp : ∀ p : Nat, p < n → s 20 ((p : Nat) : Int) = s 354 (10 + 11 * ((p : Nat) : Int) + 0)) (r0 : ∀ p : Nat, p < n → 0 ≤ s 20 ((p : Nat) : Int) ∧ s 20 ((p : Nat) : Int) ≤ 9) (x0 : 0 ≤ x) (x9 : x ≤ 9) : ∃ v, zE xm_c119 [7, x, 0, 0] s v s ∧ zE xm_c227 [344, x, 0, 0] s v s := by
  have loop : ∀ (k i : Nat) (v0 : Int), i + k = n → 0 ≤ v0 → v0 ≤ 9 * ((i : Nat) : Int) → ∃ v, zA xm_c119 4 [7, x, v0, ((i : Nat) : Int)] [] s (v, s) ∧ zA xm_c227 4 [344, x, v0, ((i : Nat) : Int)] [] s (v, s) := by
    intro k
    induction k with
    | zero =>
      intro i v0 hi a0 a1
      exact ⟨v0, zb_119_4 (fun q => absurd (show ((i : Nat) : Int) < s 11 1 from q) (by omega)) (fun _ => zb_119_24 rfl), zb_227_4 (fun q => absurd (show ((i : Nat) : Int) < s 354 1 from q) (by omega)) (fun _ => zb_227_21 rfl)⟩
    | succ k ih =>
      intro i v0 hi a0 a1
      have e1 : zw (((i : Nat) : Int) + 1) = ((i + 1 : Nat) : Int) := zw_id (by omega) (by omega)
      have f := fp i (by omega)
      obtain ⟨b0, b9⟩ := r0 i (by omega)
      have cls : ∀ d, d = (if s 20 ((i : Nat) : Int) < x then x - s 20 ((i : Nat) : Int) else s 20 ((i : Nat) : Int) - x) → ∀ R, zA xm_c119 4 [7, x, v0 + d, ((i + 1 : Nat) : Int)] [] s R → zA xm_c119 4 [7, x, v0, ((i : Nat) : Int)] [] s R := fun d hd R z => zb_119_4 (fun _ => zb_119_10 (by
        show zA xm_c119 4 [7, x, zw (v0 + (if 0 ≤ zw (s 20 ((i : Nat) : Int) - x) then zw (s 20 ((i : Nat) : Int) - x) else zw (0 - zw (s 20 ((i : Nat) : Int) - x)))), zw (((i : Nat) : Int) + 1)] [] s R
        rw [e1, zw_id (x := s 20 ((i : Nat) : Int) - x) (by omega) (by omega)]
        have e : zw (v0 + (if 0 ≤ s 20 ((i : Nat) : Int) - x then s 20 ((i : Nat) : Int) - x else zw (0 - (s 20 ((i : Nat) : Int) - x)))) = v0 + d := by
          by_cases c : s 20 ((i : Nat) : Int) < x
          · rw [if_pos c] at hd
            rw [if_neg (by omega), zw_id (x := 0 - (s 20 ((i : Nat) : Int) - x)) (by omega) (by omega), zw_id (by omega) (by omega), hd]
            omega
          · rw [if_neg c] at hd
            rw [if_pos (by omega), zw_id (by omega) (by omega), hd]
        rw [e]
        exact z)) (fun q => absurd (show ((i : Nat) : Int) < s 11 1 by omega) q)
      have ref : ∀ d, d = (if s 20 ((i : Nat) : Int) < x then x - s 20 ((i : Nat) : Int) else s 20 ((i : Nat) : Int) - x) → ∀ R, zA xm_c227 4 [344, x, v0 + d, ((i + 1 : Nat) : Int)] [] s R → zA xm_c227 4 [344, x, v0, ((i : Nat) : Int)] [] s R := fun d hd R z => by
        have hc : zE xm_c203 [s 354 (10 + 11 * ((i : Nat) : Int) + 0), x] s d s := by
          rw [← f]
          by_cases c : s 20 ((i : Nat) : Int) < x
          · rw [if_pos c] at hd
            exact zb_203_0 (fun _ => zb_203_3 (by rw [zw_id (by omega) (by omega), hd])) (fun q => absurd c q)
          · rw [if_neg c] at hd
            exact zb_203_0 (fun q => absurd q c) (fun _ => zb_203_7 (by rw [zw_id (by omega) (by omega), hd]))
        have dr : 0 ≤ d ∧ d ≤ 9 := by
          by_cases c : s 20 ((i : Nat) : Int) < x
          · rw [if_pos c] at hd
            omega
          · rw [if_neg c] at hd
            omega
        exact zb_227_4 (fun _ => zb_227_10 (zr_at (Int.natCast_nonneg i) (by omega) (by decide) (by decide)) (zb_227_15 hc (zb_227_17 (by rw [e1, zw_id (x := v0 + d) (by omega) (by omega)]; exact z)))) (fun q => absurd (show ((i : Nat) : Int) < s 354 1 by omega) q)
      obtain ⟨d, hd⟩ : ∃ d : Int, d = (if s 20 ((i : Nat) : Int) < x then x - s 20 ((i : Nat) : Int) else s 20 ((i : Nat) : Int) - x) := ⟨_, rfl⟩
      have dr : 0 ≤ d ∧ d ≤ 9 := by
        by_cases c : s 20 ((i : Nat) : Int) < x
        · rw [if_pos c] at hd
          omega
        · rw [if_neg c] at hd
          omega
      obtain ⟨v, a, b⟩ := ih (i + 1) (v0 + d) (by omega) (by omega) (by omega)
      exact ⟨v, cls d hd _ a, ref d hd _ b⟩
  obtain ⟨v, a, b⟩ := loop n 0 0 (Nat.zero_add n) (Int.le_refl _) (by decide)
  exact ⟨v, zb_119_0 a, zb_227_0 b⟩
theorem zA_meeting (H : zRZ bB s) : ∃ r s1 s2, zE xm_c111 [7, x, 0, 0] s r s1 ∧ zE xm_c228 [344, x, 0, 0] s1 r s2 ∧ zRZ bB s2 := by
  obtain ⟨n, m, ⟨⟨⟨⟨h0, h1, -⟩, -, -⟩, ⟨-, -, fp⟩, -⟩, g, -⟩, -⟩ := H.2.2.2.1
  have h0 : s 11 0 = s 354 0 := h0
  have h1 : s 11 1 = s 354 1 := h1
  have n7 := g.1.2.1
  have gn : s 354 1 = ((n : Nat) : Int) := g.1.1
  have g0 : 0 ≤ s 354 0 := g.1.2.2.2.2.1
  have g9 : s 354 0 ≤ 9 := g.1.2.2.2.2.2.1
  by_cases c : 0 < s 354 0
  case neg =>
    exact zRZ_r H (r := -1) (zb_111_0 (r := 0) (s1 := s) (zb_21_0 (fun q => absurd (show 0 < s 11 0 from q) (by rw [h0]; exact c)) (fun _ => zb_21_5 rfl)) (zb_111_4 (fun _ => zb_111_8 rfl) (fun q => absurd rfl q))) (zb_228_0 (r := 0) (s1 := s) (zb_175_0 (fun q => absurd (show 0 < s 354 0 from q) c) (fun _ => zb_175_7 rfl)) (zb_228_2 (fun _ => zb_228_9 rfl) (fun q => absurd rfl q)))
  have cA : ∀ R, zA xm_c111 5 [7, x, 0, 0] [] s R → zA xm_c111 0 [7, x, 0, 0] [] s R := fun R z => zb_111_0 (r := 1) (s1 := s) (zb_21_0 (fun _ => zb_21_3 rfl) (fun q => absurd (show 0 < s 11 0 by rw [h0]; exact c) q)) (zb_111_4 (fun q => absurd q (by decide)) (fun _ => z))
  have cM : ∀ R, zA xm_c228 8 [344, x, 0, 0] [(false, if 0 ≤ x ∧ x ≤ 1 then 1 else 0)] s R → zA xm_c228 0 [344, x, 0, 0] [] s R := fun R z => zb_228_0 (r := 1) (s1 := s) (zb_175_0 (fun _ => zb_175_5 rfl) (fun q => absurd (show 0 < s 354 0 from c) q)) (zb_228_2 (fun q => absurd q (by decide)) (fun _ => zb_228_3 (zr_in2 (lo := 0) (hi := 1)) z))
  by_cases c1 : 0 ≤ x ∧ x ≤ 1
  case neg =>
    rw [if_neg c1] at cM
    exact zRZ_r H (r := -1) (cA _ (zb_111_5 (r := 0) (s1 := s) (zb_122_0 (fun q => absurd ⟨by omega, by omega⟩ c1) (fun _ => zb_122_2 (fun q => absurd ⟨by omega, by omega⟩ c1) (fun _ => zb_122_7 rfl))) (zb_111_7 (fun _ => zb_111_8 rfl) (fun q => absurd rfl q)))) (cM _ (zb_228_8 (fun _ => zb_228_9 rfl) (fun q => absurd rfl q)))
  rw [if_pos c1] at cM
  have c122 : zE xm_c122 [x] s 1 s := zb_122_0 (fun _ => zb_122_5 rfl) (fun q => zb_122_2 (fun _ => zb_122_5 rfl) (fun q2 => absurd (show x = 0 ∨ x = 1 by omega) (fun w => w.elim q q2)))
  have cA : ∀ R, zA xm_c111 14 [7, x, 0, 1] [] s R → zA xm_c111 0 [7, x, 0, 0] [] s R := fun R z => cA R (zb_111_5 c122 (zb_111_7 (fun q => absurd q (by decide)) (fun _ => zb_111_10 z)))
  have cM : ∀ R, zA xm_c228 15 [344, x, 0, 1] [] s R → zA xm_c228 0 [344, x, 0, 0] [] s R := fun R z => cM R (zb_228_8 (fun q => absurd q (by decide)) (fun _ => zb_228_11 z))
  obtain ⟨fl, hfl⟩ := Int.eq_ofNat_of_zero_le g0
  have r0 : ∀ p : Nat, p < n → 0 ≤ s 20 ((p : Nat) : Int) ∧ s 20 ((p : Nat) : Int) ≤ 9 := fun p hp => by
    have a := (g.2.1 p hp).1
    have b : s 20 ((p : Nat) : Int) = zpe (s 354) ((p : Nat) : Int) 0 := (fp p hp).1
    omega
  have nlt : ∀ i : Nat, i = fl → ¬ (((i : Nat) : Int) < s 11 0) ∧ ¬ (((i : Nat) : Int) < s 354 0) := fun i hi => by
    subst hi
    rw [h0, hfl]
    exact ⟨Int.lt_irrefl _, Int.lt_irrefl _⟩
  have lt : ∀ i : Nat, i < fl → ((i : Nat) : Int) < s 11 0 ∧ ((i : Nat) : Int) < s 354 0 := fun i hi => by
    rw [h0, hfl]
    exact ⟨Int.ofNat_lt.mpr hi, Int.ofNat_lt.mpr hi⟩
  have fl9 : fl ≤ 9 := by
    clear cA cM H fp r0
    omega
  have far : ∀ b : Nat, b < fl → ∃ v, zE xm_c119 [7, ((b : Nat) : Int), 0, 0] s v s ∧ zE xm_c227 [344, ((b : Nat) : Int), 0, 0] s v s := fun b hb => zA_far n7 (h1.trans gn) gn (fun p hp => (fp p hp).1) r0 (Int.natCast_nonneg b) (by omega)
  have loop : ∀ (k i b : Nat), i + k = fl → b < fl → 1 ≤ i → ∃ v, zA xm_c111 14 [7, x, ((b : Nat) : Int), ((i : Nat) : Int)] [] s (v, s) ∧ zA xm_c228 15 [344, x, ((b : Nat) : Int), ((i : Nat) : Int)] [] s (v, s) := by
    intro k
    induction k with
    | zero =>
      intro i b hi hb i1
      obtain ⟨w, w1, w2⟩ := far b hb
      have ca : ∀ R, zA xm_c111 31 [7, x, ((b : Nat) : Int), ((i : Nat) : Int)] [] s R → zA xm_c111 14 [7, x, ((b : Nat) : Int), ((i : Nat) : Int)] [] s R := fun R z => zb_111_14 (fun q => absurd (show ((i : Nat) : Int) < s 11 0 from q) (nlt i (by clear cA cM H fp r0 far; omega)).1) (fun _ => z)
      have cm : ∀ R, zA xm_c228 32 [344, x, ((b : Nat) : Int), ((i : Nat) : Int)] [] s R → zA xm_c228 15 [344, x, ((b : Nat) : Int), ((i : Nat) : Int)] [] s R := fun R z => zb_228_15 (fun q => absurd (show ((i : Nat) : Int) < s 354 0 from q) (nlt i (by clear cA cM H fp r0 far; omega)).2) (fun _ => z)
      by_cases e : x = 0
      · exact ⟨_, ca _ (zb_111_31 (fun _ => zb_111_33 rfl) (fun q => absurd e q)), cm _ (zb_228_32 (fun _ => zb_228_34 rfl) (fun q => absurd e q))⟩
      · exact ⟨w, ca _ (zb_111_31 (fun q => absurd q e) (fun _ => zb_111_35 w1 (zb_111_38 rfl))), cm _ (zb_228_32 (fun q => absurd q e) (fun _ => zb_228_36 w2 (zb_228_39 rfl)))⟩
    | succ k ih =>
      intro i b hi hb i1
      have e1 : zw (((i : Nat) : Int) + 1) = ((i + 1 : Nat) : Int) := zw_id (by omega) (by omega)
      obtain ⟨w, w1, w2⟩ := far b hb
      have k1 : i + 1 + k = fl := by rw [← hi, Nat.add_assoc, Nat.add_comm 1 k]
      have k2 : i < fl := by rw [← hi]; exact Nat.lt_add_of_pos_right (Nat.succ_pos k)
      have k3 : 1 ≤ i + 1 := Nat.le_add_left 1 i
      obtain ⟨u, u1, u2⟩ := far i k2
      have ca : ∀ R, zA xm_c111 26 [7, x, ((b : Nat) : Int), ((i : Nat) : Int)] [(false, w), (false, u)] s R → zA xm_c111 14 [7, x, ((b : Nat) : Int), ((i : Nat) : Int)] [] s R := fun R z => zb_111_14 (fun _ => zb_111_20 u1 (zb_111_23 w1 z)) (fun q => absurd (lt i k2).1 q)
      have cm : ∀ R, zA xm_c228 27 [344, x, ((b : Nat) : Int), ((i : Nat) : Int)] [(false, w), (false, u)] s R → zA xm_c228 15 [344, x, ((b : Nat) : Int), ((i : Nat) : Int)] [] s R := fun R z => zb_228_15 (fun _ => zb_228_21 u2 (zb_228_24 w2 z)) (fun q => absurd (lt i k2).2 q)
      by_cases e : u < w
      · obtain ⟨v, a, d⟩ := ih (i + 1) i k1 k2 k3
        exact ⟨v, ca _ (zb_111_26 (fun _ => zb_111_27 (by rw [e1]; exact a)) (fun q => absurd e q)), cm _ (zb_228_27 (fun _ => zb_228_28 (by rw [e1]; exact d)) (fun q => absurd e q))⟩
      · obtain ⟨v, a, d⟩ := ih (i + 1) b k1 hb k3
        exact ⟨v, ca _ (zb_111_26 (fun q => absurd q e) (fun _ => zb_111_29 (by rw [e1]; exact a))), cm _ (zb_228_27 (fun q => absurd q e) (fun _ => zb_228_30 (by rw [e1]; exact d)))⟩
  obtain ⟨v, a, b⟩ := loop (fl - 1) 1 0 (by omega) (by omega) (Nat.le_refl 1)
  exact zRZ_r H (r := v) (cA _ a) (cM _ b)
/-- who stands still -/
theorem zA_still {n : Nat} (h7 : n ≤ 7) (gn : s 354 1 = ((n : Nat) : Int)) (fp : ∀ p : Nat, p < n → s 20 ((p : Nat) : Int) = zpe (s 354) ((p : Nat) : Int) 0 ∧ s 21 ((p : Nat) : Int) = zpe (s 354) ((p : Nat) : Int) 1) (y0 : Int) : ∀ (k i : Nat) (v0 : Int), i + k = n → ∃ v, zA xm_c6 4 [19, ((n : Nat) : Int), v0, ((i : Nat) : Int)] [] s (v, s) ∧ zA xm_c235 25 [344, y0, v0, ((i : Nat) : Int)] [] s (v, s) := by
  intro k
  induction k with
  | zero =>
    intro i v0 hi
    exact ⟨v0, zb_6_4 (fun q => absurd q (by omega)) (fun _ => zb_6_21 rfl), zb_235_25 (fun q => absurd (show ((i : Nat) : Int) < s 354 1 from q) (by omega)) (fun _ => zb_235_45 rfl)⟩
  | succ k ih =>
    intro i v0 hi
    have e1 : zw (((i : Nat) : Int) + 1) = ((i + 1 : Nat) : Int) := zw_id (by omega) (by omega)
    obtain ⟨f0, f1⟩ := fp i (by omega)
    have st := zr_stand (s := s) (σ := s 354) (p := ((i : Nat) : Int)) rfl (Int.natCast_nonneg i) (by omega)
    by_cases c : s 20 ((i : Nat) : Int) = s 21 ((i : Nat) : Int)
    · rw [if_pos (by rw [← f0, ← f1]; exact c)] at st
      have s4 : zE xm_c4 [19, ((i : Nat) : Int)] s 1 s := zb_4_0 (fun _ => zb_4_9 rfl) (fun q => absurd c q)
      obtain ⟨v, a, b⟩ := ih (i + 1) (zor v0 0) (by omega)
      exact ⟨v, zb_6_4 (fun _ => zb_6_7 s4 (zb_6_11 (fun q => absurd q (by decide)) (fun _ => zb_6_12 (by rw [e1]; exact a)))) (fun q => absurd (show ((i : Nat) : Int) < ((n : Nat) : Int) by omega) q), zb_235_25 (fun _ => zb_235_31 st (zb_235_35 (fun q => absurd q (by decide)) (fun _ => zb_235_36 (by rw [e1]; exact b)))) (fun q => absurd (show ((i : Nat) : Int) < s 354 1 by omega) q)⟩
    · rw [if_neg (by rw [← f0, ← f1]; exact c)] at st
      have s4 : zE xm_c4 [19, ((i : Nat) : Int)] s 0 s := zb_4_0 (fun q => absurd q c) (fun _ => zb_4_11 rfl)
      obtain ⟨v, a, b⟩ := ih (i + 1) (zor v0 (zshl 1 ((i : Nat) : Int))) (by omega)
      exact ⟨v, zb_6_4 (fun _ => zb_6_7 s4 (zb_6_11 (fun _ => zb_6_14 (by rw [e1]; exact a)) (fun q => absurd rfl q))) (fun q => absurd (show ((i : Nat) : Int) < ((n : Nat) : Int) by omega) q), zb_235_25 (fun _ => zb_235_31 st (zb_235_35 (fun _ => zb_235_38 (by rw [e1]; exact b)) (fun q => absurd rfl q))) (fun q => absurd (show ((i : Nat) : Int) < s 354 1 by omega) q)⟩
theorem zA_count (H : zRZ bB s) : ∃ r s1 s2, zE xm_c115 [7, x] s r s1 ∧ zE xm_c235 [344, x, 0, 0] s1 r s2 ∧ zRZ bB s2 := by
  obtain ⟨hA, hB, hC, ⟨n, m, ⟨⟨⟨⟨h0, h1, h2, -, -, h7, -⟩, -, -⟩, ⟨f0, -, fp⟩, ⟨l0, -⟩, n5, -⟩, g, -⟩, hE⟩, -⟩ := id H
  have h0 : s 11 0 = s 354 0 := h0
  have h1 : s 11 1 = s 354 1 := h1
  have h2 : s 11 2 = s 354 2 := h2
  have h7 : s 11 7 = s 354 5 := h7
  have f0 : s 19 0 = s 354 4 := f0
  have l0 : s 24 0 = zfs (zkn (s 354)) n := l0
  have n7 := g.1.2.1
  have gn : s 354 1 = ((n : Nat) : Int) := g.1.1
  have fin : ∀ v w, (∀ R, (v, s) = R → zA xm_c115 1 [7, x] [(false, x)] s R) → (∀ R, (w, s) = R → zA xm_c235 3 [344, x, 0, 0] [(false, x)] s R) → v = w → ∃ r s1 s2, zE xm_c115 [7, x] s r s1 ∧ zE xm_c235 [344, x, 0, 0] s1 r s2 ∧ zRZ bB s2 := fun v w a b e => zRZ_r H (r := v) (zb_115_0 (a _ rfl)) (zb_235_0 (b _ (by rw [e])))
  by_cases c : x < 0 ∨ 13 ≤ x
  · exact fin (-1) (-1) (fun R e => zb_115_1_d c (zb_115_64 e)) (fun R e => zb_235_3_d c (zb_235_66 e)) rfl
  rcases (show x = 0 ∨ x = 1 ∨ x = 2 ∨ x = 3 ∨ x = 4 ∨ x = 5 ∨ x = 6 ∨ x = 7 ∨ x = 8 ∨ x = 9 ∨ x = 10 ∨ x = 11 ∨ x = 12 by omega) with rfl | rfl | rfl | rfl | rfl | rfl | rfl | rfl | rfl | rfl | rfl | rfl | rfl
  · exact fin _ _ (fun R e => zb_115_1_c0 rfl (zb_115_2 e)) (fun R e => zb_235_3_c0 rfl (zb_235_4 e)) h0
  · exact fin _ _ (fun R e => zb_115_1_c1 rfl (zb_115_7 e)) (fun R e => zb_235_3_c1 rfl (zb_235_4 e)) h1
  · exact fin _ _ (fun R e => zb_115_1_c2 rfl (zb_115_12 e)) (fun R e => zb_235_3_c2 rfl (zb_235_4 e)) h2
  · exact fin _ _ (fun R e => zb_115_1_c3 rfl (zb_115_17 e)) (fun R e => zb_235_3_c3 rfl (zb_235_9 e)) hB.1
  · exact fin _ _ (fun R e => zb_115_1_c4 rfl (zb_115_20 e)) (fun R e => zb_235_3_c4 rfl (zb_235_12 e)) hC.1
  · exact fin _ _ (fun R e => zb_115_1_c5 rfl (zb_115_24 e)) (fun R e => zb_235_3_c5 rfl (zb_235_15 e)) f0
  · exact fin _ _ (fun R e => zb_115_1_c6 rfl (zb_115_29 e)) (fun R e => zb_235_3_c6 rfl (zb_235_20 (zr_knowing rfl gn n7) (zb_235_22 e))) l0
  · obtain ⟨v, a, b⟩ := zA_still n7 gn (fun p hp => ⟨(fp p hp).1, (fp p hp).2.1⟩) 7 n 0 0 (Nat.zero_add n)
    have e1 : s (7 + 3 + 1) 1 = ((n : Nat) : Int) := h1.trans gn
    exact fin v v (fun R e => zb_115_1_c7 rfl (zb_115_34 (by rw [e1]; exact zb_6_0 a) (zb_115_42 e))) (fun R e => zb_235_3_c7 rfl (zb_235_23 (by rw [← e]; exact b))) rfl
  · exact fin _ _ (fun R e => zb_115_1_c8 rfl (zb_115_43 e)) (fun R e => zb_235_3_c8 rfl (zb_235_47 e)) n5
  · exact fin _ _ (fun R e => zb_115_1_c9 rfl (zb_115_47 e)) (fun R e => zb_235_3_c9 rfl (zb_235_52 e)) hE.1.1
  · exact fin _ _ (fun R e => zb_115_1_c10 rfl (zb_115_51 e)) (fun R e => zb_235_3_c10 rfl (zb_235_55 e)) hC.2.2
  · exact fin _ _ (fun R e => zb_115_1_c11 rfl (zb_115_55 e)) (fun R e => zb_235_3_c11 rfl (zb_235_58 e)) hA.1
  · exact fin _ _ (fun R e => zb_115_1_c12 rfl (zb_115_59 e)) (fun R e => zb_235_3_c12 rfl (zb_235_61 e)) h7
end LU
