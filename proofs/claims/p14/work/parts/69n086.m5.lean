/-! ahead, on both sides -/
section MF
variable {bB : Int} {σ : Int → Int} {n m : Nat} {F : Int} {U : (Int → Int) → Int} {s t : zS} {x y : Int}
/-- what is looked ahead in the class -/
theorem zB_look {G1 G2 : Nat} {s5 : zS} {R1 R2 : Int × zS} {r : Int} (hD : zgD bB s n m) (uC : ∀ z : zS, (∀ x, 240 ≤ x → x ≤ 263 → z x = s x) → z 237 1 = (if s 10 6 < 0 then -1 else 240 + 4 * s 10 6) → zRc z (s 10 6) U) {K : Nat} (hK : K ≤ 100) (h : bB + 100 ≤ 999) {G0 : Nat} {R0 : Int × zS} (e0 : zG G0 xm_c42 0 [224, if s 10 6 < 0 then -1 else 240 + 4 * s 10 6] [] s R0) (e1 : zG G1 xm_c44 0 [224, ((K : Nat) : Int), 0] [] R0.2 R1) (e2 : zG G2 xm_c45 0 [224, 0, ((K : Nat) : Int), 0] [] R1.2 R2) : zRL R2.2 230 (zPn (s 354) n m (s 10 6) U K) n := by
  obtain ⟨⟨hH, hF, hL, -⟩, hG, hGt, -⟩ := hD
  have h7 := hG.1.2.1
  obtain ⟨w, w1, ⟨w2, w3, w4⟩, w5, w6, w7⟩ := zo_prepR (s := s) (r := if s 10 6 < 0 then -1 else 240 + 4 * s 10 6)
  obtain ⟨r0, t0⟩ := R0
  obtain ⟨rfl, rfl⟩ := zdet e0 w1
  obtain ⟨r1, t1⟩ := R1
  have hHw : zRH w 11 (s 354) n m := zRH_c hH (fun x x1 x2 => w7 x (by omega) (by omega))
  obtain ⟨v1, v2, v3, v4⟩ := zB_44 (s 10 6) U hG hK (by omega) hHw (w5 _ n h7 hF) e1
  have o : ∀ x, x ≠ 224 → x ≠ 234 → ¬ (225 ≤ x ∧ x ≤ 228) → t1 x = w x := v4
  have f1 : s 19 1 = s 354 8 := hF.2.1
  refine (zB_45 hG hGt hK (by omega) (zRH_c hHw (fun x x1 x2 => o x (by omega) (by omega) (by omega))) (zRL_c (w6 _ n h7 hL) (fun x x1 x2 => o x (by omega) (by omega) (by omega))) v1 v2 ?_ ?_ (fun z hz hz1 => uC z (fun x x1 x2 => ?_) ?_) e2).1
  · show t1 237 2 = _
    rw [o 237 (by decide) (by decide) (by decide), w3, f1]
  · show t1 237 3 = t1 11 4
    rw [o 237 (by decide) (by decide) (by decide), w4, o 11 (by decide) (by decide) (by decide), w7 11 (by decide) (by decide)]
  · rw [hz x x1 x2]
    show t1 x = s x
    rw [o x (by omega) (by omega) (by omega), w7 x (by omega) (by omega)]
  · rw [hz1]
    show t1 237 1 = _
    rw [o 237 (by decide) (by decide) (by decide), w2]
/-- what ahead answers -/
def zah (σ : Int → Int) (n m : Nat) (F : Int) (U : (Int → Int) → Int) (x : Int) : Int := if 0 < σ 0 then (if 0 ≤ x ∧ x ≤ 100 then zfs (zkn (zPn σ n m F U x.toNat)) n else -1) else -1
theorem zB_102 {G : Nat} {R : Int × zS} (hD : zgD bB s n m) (hC : -1 ≤ s 10 6 ∧ s 10 6 < s 7 8) (uC : ∀ z : zS, (∀ x, 240 ≤ x → x ≤ 263 → z x = s x) → z 237 1 = (if s 10 6 < 0 then -1 else 240 + 4 * s 10 6) → zRc z (s 10 6) U) (h : bB + 100 ≤ 999) (e0 : zG G xm_c102 0 [7, x] [] s R) : R.1 = zah (s 354) n m (s 10 6) U x := by
  have h0 : s 11 0 = s 354 0 := hD.1.1.1.1
  unfold zah
  obtain ⟨F1, l1, r1, s1, q1, e1⟩ := zi_102_0 e0
  obtain ⟨rfl, rfl⟩ := zdet q1 (zo_stands (h := 11))
  rw [h0] at e1
  by_cases c0 : 0 < s 354 0
  case neg =>
    rw [if_neg c0] at e1 ⊢
    obtain ⟨F2, l2, ⟨c2, e2⟩ | ⟨c2, e2⟩⟩ := zi_102_4 e1
    · have k := zi_102_10 e2
      rw [k]
    · exact absurd rfl c2
  rw [if_pos c0] at e1 ⊢
  obtain ⟨F2, l2, ⟨c2, e2⟩ | ⟨c2, e2⟩⟩ := zi_102_4 e1
  · exact absurd c2 (by decide)
  obtain ⟨F3, l3, ⟨c3, e3⟩ | ⟨c3, e3⟩⟩ := zi_102_5 e2
  · have k := zi_102_10 e3
    rw [k, if_neg (fun q => absurd q.1 (Int.not_le.mpr c3))]
  obtain ⟨F4, l4, ⟨c4, e4⟩ | ⟨c4, e4⟩⟩ := zi_102_7 e3
  · have k := zi_102_10 e4
    rw [k, if_neg (fun q => absurd q.2 (Int.not_le.mpr c4))]
  rw [if_pos ⟨Int.not_lt.mp c3, Int.not_lt.mp c4⟩]
  obtain ⟨K, rfl⟩ := Int.eq_ofNat_of_zero_le (Int.not_lt.mp c3)
  have hK : K ≤ 100 := by
    clear e0 q1 e1 e2 e3 e4 uC
    omega
  obtain ⟨F5, l5, r5, s5, q5, e5⟩ := zi_102_12 e4
  obtain ⟨rfl, rfl⟩ := zdet q5 (zo_rif hC.1 hC.2)
  obtain ⟨F6, l6, r6, s6, q6, e6⟩ := zi_102_16 e5
  obtain ⟨F7, l7, r7, s7, q7, e7⟩ := zi_102_17 e6
  obtain ⟨F8, l8, r8, s8, q8, e8⟩ := zi_102_21 e7
  have k := zi_102_26 e8
  rw [k]
  exact (zB_look (s5 := s) (r := 0) hD uC hK h q6 q7 q8).1
theorem zB_210 {G : Nat} {R : Int × zS} {z : zS} (hG : zGs bB σ n m) (h : bB + 100 ≤ 999) (hU : ¬ F < 0 → zRu z F U) (hB : zJb σ F z t) (e0 : zG G xm_c210 0 [344, x, 0] [] t R) : R.1 = zah σ n m F U x := by
  have gn : σ 1 = ((n : Nat) : Int) := hG.1.1
  have h7 := hG.1.2.1
  have a := hB.1
  unfold zah
  obtain ⟨F1, l1, r1, s1, q1, e1⟩ := zi_210_0 e0
  obtain ⟨rfl, rfl⟩ := zdet q1 zq_house
  rw [a] at e1
  by_cases c0 : 0 < σ 0
  case neg =>
    rw [if_neg c0] at e1 ⊢
    obtain ⟨F2, l2, ⟨c2, e2⟩ | ⟨c2, e2⟩⟩ := zi_210_2 e1
    · have k := zi_210_9 e2
      rw [k]
    · exact absurd rfl c2
  rw [if_pos c0] at e1 ⊢
  obtain ⟨F2, l2, ⟨c2, e2⟩ | ⟨c2, e2⟩⟩ := zi_210_2 e1
  · exact absurd c2 (by decide)
  obtain ⟨F3, l3, r3, s3, q3, e3⟩ := zi_210_3 e2
  obtain ⟨rfl, rfl⟩ := zdet q3 (zr_in2 (lo := 0) (hi := 100))
  by_cases c1 : 0 ≤ x ∧ x ≤ 100
  case neg =>
    rw [if_neg c1] at e3 ⊢
    obtain ⟨F4, l4, ⟨c4, e4⟩ | ⟨c4, e4⟩⟩ := zi_210_8 e3
    · have k := zi_210_9 e4
      rw [k]
    · exact absurd rfl c4
  rw [if_pos c1] at e3 ⊢
  obtain ⟨F4, l4, ⟨c4, e4⟩ | ⟨c4, e4⟩⟩ := zi_210_8 e3
  · exact absurd c4 (by decide)
  obtain ⟨K, rfl⟩ := Int.eq_ofNat_of_zero_le c1.1
  have hK : K ≤ 100 := by
    clear e0 q1 q3 e1 e2 e3 e4 hU
    omega
  obtain ⟨F5, l5, r5, s5, q5, e5⟩ := zi_210_11 e4
  obtain ⟨j1, j2⟩ := zJ_207 hB q5
  obtain ⟨F6, l6, r6, s6, q6, e6⟩ := zi_210_13 e5
  obtain ⟨b1, b2, b3⟩ := zB_209 hG (by omega) hU q6 j2 j1.2.2.2.1 j1.2.2.2.2
  have b1 : s6 354 = zPn σ n m F U K := b1
  obtain ⟨F7, l7, r7, s7, q7, e7⟩ := zi_210_16 e6
  obtain ⟨rfl, rfl⟩ := zdet q7 (zr_knowing b1 ((zPn_st h7 K 1 (Or.inl (by unfold zst; omega))).trans gn) h7)
  obtain ⟨F8, l8, r8, s8, q8, e8⟩ := zi_210_18 e7
  have k := zi_210_21 e8
  rw [k]
  rfl
/-- ahead answers alike -/
theorem zB_ahead {s1 s2 : zS} {q1 q2 : Int} (H : zRZ bB s) (h6 : s 7 8 ≤ 6) (h : bB + 100 ≤ 999) (e1 : zE xm_c102 [7, x] s q1 s1) (e2 : zE xm_c210 [344, x, 0] s1 q2 s2) : q1 = q2 := by
  obtain ⟨G1, f1⟩ := e1
  obtain ⟨G2, f2⟩ := e2
  have hq : zQf s s1 := zQ_102 f1
  obtain ⟨U, uC, uM⟩ := zUw H.2.1 h6 H.2.2.1
  obtain ⟨n, m, hD, -⟩ := H.2.2.2.1
  have c1 := H.2.2.1.1
  have a : q1 = zah (s 354) n m (s 10 6) U x := zB_102 hD H.2.2.1.2.1 uC h f1
  have o : ∀ x, x < 224 ∨ 240 ≤ x → s1 x = s x := fun x hx => hq x (by omega)
  have b : q2 = zah (s 354) n m (s 10 6) U x := zB_210 (z := s1) (t := s1) hD.2.1 h (fun q => uM q s1 (fun x x1 x2 => o x (by omega))) ⟨by rw [o 354 (by omega)], by rw [o 344 (by omega), c1], fun _ _ _ => rfl⟩ f2
  rw [a, b]
end MF
