/-! look answers alike -/
section NM
variable {bB : Int} {σ τ : Int → Int} {n m K B M : Nat} {F : Int} {U : (Int → Int) → Int} {s t z : zS} {a c x y f h : Int} {p q b i : Nat} {A : Nat × Nat → Nat → Int} {L : List (Nat × Nat)} {w : Nat → Int}
theorem zall_n : (zall σ n m F U B M n).length ≤ n * 41 := Nat.le_trans (zlp_n n) (Nat.mul_le_mul (Nat.le_refl n) zMx_r)
theorem zall_v (H : zGs bB σ n m) (hB : B ≤ 999) (hT : ∀ p : Nat, p < n → -9 ≤ zpe σ ((p : Nat) : Int) 7 ∧ zpe σ ((p : Nat) : Int) 7 ≤ 9) (hi : i < (zall σ n m F U B M n).length) (hq : q < n) : zan σ n m F U B (znt (zall σ n m F U B M n) i) q = -1000 ∨ (-54 ≤ zan σ n m F U B (znt (zall σ n m F U B M n) i) q ∧ zan σ n m F U B (znt (zall σ n m F U B M n) i) q ≤ 54) := by
  have z := zlp_m (ok := zok σ n m F U B M) (df := zdf σ) (M := zMx B) n _ (znt_m _ i hi)
  obtain ⟨b1, b2⟩ := zMx_b.mp z.2
  exact zan_r H z.1 b1 b2 hB hT hq
theorem zB_108 {G : Nat} {R : Int × zS} (hD : zgD bB s n m) (hM10 : M ≤ 10) (hM : s 354 137 = ((M : Nat) : Int)) (hr : ∀ k : Nat, k < M → 0 ≤ s 354 (117 + 2 * ((k : Nat) : Int)) ∧ s 354 (117 + 2 * ((k : Nat) : Int)) < ((n : Nat) : Int)) (hT : ∀ p : Nat, p < n → -9 ≤ zpe (s 354) ((p : Nat) : Int) 7 ∧ zpe (s 354) ((p : Nat) : Int) 7 ≤ 9) (hB : s 354 4 = ((B : Nat) : Int)) (hC : -1 ≤ s 10 6 ∧ s 10 6 < s 7 8) (uC : ∀ z : zS, (∀ x, 240 ≤ x → x ≤ 263 → z x = s x) → z 237 1 = (if s 10 6 < 0 then -1 else 240 + 4 * s 10 6) → zRc z (s 10 6) U) (e0 : zG G xm_c108 0 [7, y, 0] [] s R) : R.1 = if 0 < s 354 0 ∧ (0 ≤ y ∧ y ≤ 1) then zlka (zan (s 354) n m (s 10 6) U B) (zall (s 354) n m (s 10 6) U B M n) n y else -1 := by
  have h0 : s 11 0 = s 354 0 := hD.1.1.1.1
  have h7 := hD.2.1.1.2.1
  have h11 : s 11 1 = ((n : Nat) : Int) := hD.1.1.1.2.1.trans hD.2.1.1.1
  have B9 : B ≤ 999 := by
    have d := hD.2.1.1.2.2.2.2.2.2.2.2.1
    rw [hB] at d
    clear uC hr hD e0 hT
    omega
  obtain ⟨F1, l1, r1, s1, q1, e1⟩ := zi_108_0 e0
  obtain ⟨rfl, rfl⟩ := zdet q1 (zo_stands (h := 11))
  rw [h0] at e1
  by_cases c0 : 0 < s 354 0
  case neg =>
    rw [if_neg c0] at e1
    rw [if_neg (fun q => c0 q.1)]
    obtain ⟨F2, l2, ⟨c2, e2⟩ | ⟨c2, e2⟩⟩ := zi_108_4 e1
    · rw [zi_108_8 e2]
    · exact absurd rfl c2
  rw [if_pos c0] at e1
  obtain ⟨F2, l2, ⟨c2, e2⟩ | ⟨c2, e2⟩⟩ := zi_108_4 e1
  · exact absurd c2 (by decide)
  obtain ⟨F3, l3, r3, s3, q3, e3⟩ := zi_108_5 e2
  obtain ⟨rfl, rfl⟩ := zdet q3 zo_either
  by_cases cy : 0 ≤ y ∧ y ≤ 1
  case neg =>
    rw [if_neg cy] at e3
    rw [if_neg (fun q => cy q.2)]
    obtain ⟨F4, l4, ⟨c4, e4⟩ | ⟨c4, e4⟩⟩ := zi_108_7 e3
    · rw [zi_108_8 e4]
    · exact absurd rfl c4
  rw [if_pos cy] at e3
  rw [if_pos ⟨c0, cy⟩]
  obtain ⟨F4, l4, ⟨c4, e4⟩ | ⟨c4, e4⟩⟩ := zi_108_7 e3
  · exact absurd c4 (by decide)
  obtain ⟨F5, l5, r5, s5, q5, e5⟩ := zi_108_10 e4
  obtain ⟨rfl, rfl⟩ := zdet q5 (zo_rif hC.1 hC.2)
  obtain ⟨F6, l6, r6, s6, q6, e6⟩ := zi_108_14 e5
  obtain ⟨F7, l7, r7, s7, q7, e7⟩ := zi_108_15 e6
  have z : zCL (zan (s 354) n m (s 10 6) U B) n s7 (zall (s 354) n m (s 10 6) U B M n) := zB_50 (M := M) (R0 := (r6, s6)) (R := (r7, s7)) hD.1 hD.2.1 hD.2.2.1 hM10 hM hr hB uC q6 q7
  have z6 : zQf s s6 := zQ_42 q6
  have z7 : zQf s6 s7 := zQ_50 q7
  have s11 : s7 11 1 = ((n : Nat) : Int) := by
    rw [z7 11 (by decide), z6 11 (by decide), h11]
  unfold zlka
  have w8 : s7 (7 + 217) 8 = (((zall (s 354) n m (s 10 6) U B M n).length : Nat) : Int) := z.1
  obtain ⟨F9, l9, ⟨c9, e9⟩ | ⟨c9, e9⟩⟩ := zi_108_18 e7
  · rw [w8] at c9
    rw [zi_108_22 e9, if_pos (Int.ofNat.inj c9)]
  rw [w8] at c9
  have L0 : (zall (s 354) n m (s 10 6) U B M n).length ≠ 0 := fun q => c9 (by
    rw [q]
    rfl)
  rw [if_neg L0]
  have n0 : n ≠ 0 := fun q => L0 (by
    have d := zall_n (σ := s 354) (n := n) (m := m) (F := s 10 6) (U := U) (B := B) (M := M)
    rw [q, Nat.zero_mul] at d
    rw [q]
    exact Nat.le_zero.mp d)
  have hl : (zall (s 354) n m (s 10 6) U B M n).length ≤ 287 := Nat.le_trans zall_n (by
    clear uC hr hD e0 hT z
    omega)
  obtain ⟨F10, l10, r10, s10, q10, e10⟩ := zi_108_24 e9
  obtain ⟨k1, k2⟩ := zB_52 h7 n0 s11 z hl (fun i p hi hp => zall_v hD.2.1 B9 hT hi hp) q10
  have k1 : r10 = (zbs (zwk (zan (s 354) n m (s 10 6) U B) (zall (s 354) n m (s 10 6) U B M n)) n).1 := k1
  have k2 : s10 224 11 = (zbs (zwk (zan (s 354) n m (s 10 6) U B) (zall (s 354) n m (s 10 6) U B M n)) n).2 := k2
  obtain ⟨F11, l11, ⟨c11, e11⟩ | ⟨c11, e11⟩⟩ := zi_108_27 e10
  · rw [zi_108_30 e11, if_pos c11]
    exact k1
  · rw [zi_108_32 e11, if_neg c11]
    exact k2
theorem zB_224 {G : Nat} {R : Int × zS} (H : zGs bB σ n m) (hM10 : M ≤ 10) (hM : σ 137 = ((M : Nat) : Int)) (hr : ∀ k : Nat, k < M → 0 ≤ σ (117 + 2 * ((k : Nat) : Int)) ∧ σ (117 + 2 * ((k : Nat) : Int)) < ((n : Nat) : Int)) (hB : σ 4 = ((B : Nat) : Int)) (hU : ¬ F < 0 → zRu z F U) (hJ : zJb σ F z t) (e0 : zG G xm_c224 0 [344, y, 0, 0, 0, 0] [] t R) : R.1 = if 0 < σ 0 ∧ (0 ≤ y ∧ y ≤ 1) then zlka (zan σ n m F U B) (zall σ n m F U B M n) n y else -1 := by
  have h7 := H.1.2.1
  have gn := H.1.1
  have a := hJ.1
  obtain ⟨F1, l1, r1, s1, q1, e1⟩ := zi_224_0 e0
  obtain ⟨rfl, rfl⟩ := zdet q1 zq_house
  rw [a] at e1
  by_cases c0 : 0 < σ 0
  case neg =>
    rw [if_neg c0] at e1
    rw [if_neg (fun q => c0 q.1)]
    obtain ⟨F2, l2, ⟨c2, e2⟩ | ⟨c2, e2⟩⟩ := zi_224_2 e1
    · rw [zi_224_9 e2]
    · exact absurd rfl c2
  rw [if_pos c0] at e1
  obtain ⟨F2, l2, ⟨c2, e2⟩ | ⟨c2, e2⟩⟩ := zi_224_2 e1
  · exact absurd c2 (by decide)
  obtain ⟨F3, l3, r3, s3, q3, e3⟩ := zi_224_3 e2
  obtain ⟨rfl, rfl⟩ := zdet q3 (zr_in2 (lo := 0) (hi := 1))
  by_cases c1 : 0 ≤ y ∧ y ≤ 1
  case neg =>
    rw [if_neg c1] at e3
    rw [if_neg (fun q => c1 q.2)]
    obtain ⟨F4, l4, ⟨c4, e4⟩ | ⟨c4, e4⟩⟩ := zi_224_8 e3
    · rw [zi_224_9 e4]
    · exact absurd rfl c4
  rw [if_pos c1] at e3
  rw [if_pos ⟨c0, c1⟩]
  obtain ⟨F4, l4, ⟨c4, e4⟩ | ⟨c4, e4⟩⟩ := zi_224_8 e3
  · exact absurd c4 (by decide)
  obtain ⟨F5, l5, r5, s5, q5, e5⟩ := zi_224_11 e4
  obtain ⟨z, a5⟩ := zB_220 (M := M) (R := (r5, s5)) H hM10 hM hr hB hU hJ q5
  have z : zML (zan σ n m F U B) n s5 (zall σ n m F U B M n) := z
  have a5 : s5 354 = σ := a5
  have hl : (zall σ n m F U B M n).length ≤ 287 := Nat.le_trans zall_n (by
    clear hU hr H e0 z
    omega)
  have z30 : s5 344 30 = (((zall σ n m F U B M n).length : Nat) : Int) := z.1
  have fin : ∀ (G : Nat) (x4 x5 best few : Int) (R : Int × zS), zG G xm_c224 44 [344, y, best, few, x4, x5] [] s5 R → R.1 = if y = 0 then best else few := fun G x4 x5 best few R e0 => by
    obtain ⟨F1, l1, ⟨c1, e1⟩ | ⟨c1, e1⟩⟩ := zi_224_44 e0
    · rw [zi_224_46 e1, if_pos c1]
    · rw [zi_224_48 e1, if_neg c1]
  obtain ⟨F6, l6, e6⟩ := zi_224_13 e5
  unfold zlka
  by_cases L0 : (zall σ n m F U B M n).length = 0
  · rw [if_pos L0]
    have two : ∀ (F : Nat) (x4 x5 : Int), zG F xm_c224 44 [344, y, -2, -2, x4, x5] [] s5 R → R.1 = -2 := fun F x4 x5 e => by
      have d := fin F x4 x5 (-2) (-2) R e
      by_cases c : y = 0
      · rw [if_pos c] at d
        exact d
      · rw [if_neg c] at d
        exact d
    obtain ⟨F7, l7, ⟨c7, e7⟩ | ⟨c7, e7⟩⟩ := zi_224_19 e6
    · obtain ⟨F8, l8, ⟨c8, e8⟩ | ⟨c8, e8⟩⟩ := zi_224_25 e7
      · exfalso
        rw [z30, L0] at c8
        exact absurd c8 (by decide)
      · exact two F8 _ _ e8
    · exact two F7 _ _ e7
  rw [if_neg L0]
  have loop : ∀ (G p : Nat) (x5 : Int) (R : Int × zS), p ≤ n → zG G xm_c224 19 [344, y, (zbs (zwk (zan σ n m F U B) (zall σ n m F U B M n)) p).1, (zbs (zwk (zan σ n m F U B) (zall σ n m F U B M n)) p).2, ((p : Nat) : Int), x5] [] s5 R → R.1 = if y = 0 then (zbs (zwk (zan σ n m F U B) (zall σ n m F U B M n)) n).1 else (zbs (zwk (zan σ n m F U B) (zall σ n m F U B M n)) n).2 := by
    intro G
    induction G using Nat.strongRecOn with
    | _ G ih =>
      intro p x5 R hp e0
      obtain ⟨F1, l1, ⟨c1, e1⟩ | ⟨c1, e1⟩⟩ := zi_224_19 e0
      · have c1 : ((p : Nat) : Int) < s5 354 1 := c1
        have pL : p < n := by
          rw [a5, gn] at c1
          exact Int.ofNat_lt.mp c1
        have en : zw (((p : Nat) : Int) + 1) = ((p + 1 : Nat) : Int) := by
          clear ih c1 hr hU H z
          exact zw_id (by omega) (by omega)
        have eS : zbs (zwk (zan σ n m F U B) (zall σ n m F U B M n)) (p + 1) = if (zbs (zwk (zan σ n m F U B) (zall σ n m F U B M n)) p).1 < 0 ∨ zwk (zan σ n m F U B) (zall σ n m F U B M n) p < (zbs (zwk (zan σ n m F U B) (zall σ n m F U B M n)) p).2 then (((p : Nat) : Int), zwk (zan σ n m F U B) (zall σ n m F U B M n) p) else zbs (zwk (zan σ n m F U B) (zall σ n m F U B M n)) p := rfl
        obtain ⟨F2, l2, ⟨c2, e2⟩ | ⟨c2, e2⟩⟩ := zi_224_25 e1
        · obtain ⟨F3, l3, r3, s3, q3, e3⟩ := zi_224_28 e2
          have kk := zB_223 h7 pL z hl q3
          obtain ⟨k31, k32⟩ := zpr kk
          subst k31
          have k33 := k32.symm
          subst k33
          have lt3 : F3 < G := Nat.lt_trans l3 (Nat.lt_trans l2 l1)
          have put : ∀ F5, F5 < G → ((zbs (zwk (zan σ n m F U B) (zall σ n m F U B M n)) p).1 < 0 ∨ zwk (zan σ n m F U B) (zall σ n m F U B M n) p < (zbs (zwk (zan σ n m F U B) (zall σ n m F U B M n)) p).2) → zG F5 xm_c224 38 [344, y, (zbs (zwk (zan σ n m F U B) (zall σ n m F U B M n)) p).1, (zbs (zwk (zan σ n m F U B) (zall σ n m F U B M n)) p).2, ((p : Nat) : Int), zwk (zan σ n m F U B) (zall σ n m F U B M n) p] [] s5 R → R.1 = if y = 0 then (zbs (zwk (zan σ n m F U B) (zall σ n m F U B M n)) n).1 else (zbs (zwk (zan σ n m F U B) (zall σ n m F U B M n)) n).2 := fun F5 l5 d e5 => by
            obtain ⟨F6, l6, e6⟩ := zi_224_38 e5
            rw [en] at e6
            refine ih F6 (Nat.lt_trans l6 l5) (p + 1) (zwk (zan σ n m F U B) (zall σ n m F U B M n) p) R pL ?_
            rw [eS, if_pos d]
            exact e6
          obtain ⟨F4, l4, ⟨c4, e4⟩ | ⟨c4, e4⟩⟩ := zi_224_31 e3
          · exact put F4 (Nat.lt_trans l4 lt3) (Or.inl c4) e4
          · obtain ⟨F5, l5, ⟨c5, e5⟩ | ⟨c5, e5⟩⟩ := zi_224_34 e4
            · exact put F5 (Nat.lt_trans l5 (Nat.lt_trans l4 lt3)) (Or.inr c5) e5
            · obtain ⟨F6, l6, e6⟩ := zi_224_37 e5
              rw [en] at e6
              refine ih F6 (Nat.lt_trans l6 (Nat.lt_trans l5 (Nat.lt_trans l4 lt3))) (p + 1) (zwk (zan σ n m F U B) (zall σ n m F U B M n) p) R pL ?_
              rw [eS, if_neg (fun q => q.elim c4 c5)]
              exact e6
        · exfalso
          rw [z30] at c2
          exact c2 (Int.ofNat_lt.mpr (Nat.pos_of_ne_zero L0))
      · have c1 : ¬ ((p : Nat) : Int) < s5 354 1 := c1
        have pL : p = n := by
          rw [a5, gn] at c1
          exact Nat.le_antisymm hp (Nat.not_lt.mp (fun q => c1 (Int.ofNat_lt.mpr q)))
        rw [pL] at e1
        exact fin F1 _ _ _ _ R e1
  exact loop F6 0 _ R (Nat.zero_le n) e6
end NM
