/-! cost, on both sides -/
/-- with a heel broken -/
def zcs (σ : Int → Int) (x : Int) : Int → Int := zu1 σ (10 + 11 * x + 3) (zpe σ x 3 + 1)
/-- what cost answers -/
def zcos (σ : Int → Int) (n m : Nat) (F : Int) (U : (Int → Int) → Int) (x : Int) : Int := if 0 ≤ x ∧ x < σ 1 then (if zpe σ x 3 = 9 then -1000 else if zlh (zcs σ x) n m F U 100 < 0 ∨ zlh σ n m F U 100 < 0 then -1000 else zw (zlh (zcs σ x) n m F U 100 - zlh σ n m F U 100)) else -1000
section MJ
variable {bB : Int} {σ : Int → Int} {n m : Nat} {F : Int} {U : (Int → Int) → Int} {s t : zS} {x y l : Int} {p : Nat}
theorem zcs_st {k : Int} (x0 : 0 ≤ x) (x6 : x ≤ 6) (hk : zst k ∨ ¬ (0 ≤ k ∧ k < 87)) : zcs σ x k = σ k := by
  refine if_neg ?_
  unfold zst at hk
  omega
theorem zcs_lo {k : Int} (x0 : 0 ≤ x) (hk : k < 10) : zcs σ x k = σ k := if_neg (by omega)
theorem zcs_G (H : zGs bB σ n m) (hp : p < n) (h3 : zpe σ ((p : Nat) : Int) 3 < 9) : zGs bB (zcs σ ((p : Nat) : Int)) n m := by
  have h7 := H.1.2.1
  have p6 : ((p : Nat) : Int) ≤ 6 := by
    clear H h3
    omega
  refine zGs_s H (fun k hk => zcs_st (Int.natCast_nonneg p) p6 (hk.imp_right (fun q => by omega))) ?_ (fun q hq => ?_)
  · rw [zcs_lo (Int.natCast_nonneg p) (k := 4) (by decide)]
    exact H.1.2.2.2.2.2.2.2
  · obtain ⟨d0, d1, d3, d4, d5, d6, -⟩ := H.2.1 q hq
    unfold zcs
    rw [zu1_p (j := 0) (by omega), zu1_p (j := 1) (by omega), zu1_p (j := 2) (by omega), zu1_p (j := 8) (by omega)]
    refine ⟨d0, d1, ?_, d5, d6⟩
    by_cases e : q = p
    · subst e
      have ev : zpe (zu1 σ (10 + 11 * ((q : Nat) : Int) + 3) (zpe σ ((q : Nat) : Int) 3 + 1)) ((q : Nat) : Int) 3 = zpe σ ((q : Nat) : Int) 3 + 1 := if_pos rfl
      rw [ev]
      omega
    · rw [zu1_p (by omega)]
      exact d3
theorem zcs_L (H : zRL t l σ n) : zRL t l (zcs σ ((p : Nat) : Int)) n := by
  obtain ⟨b1, b2⟩ := H
  refine ⟨b1.trans (zfo_congr n (fun q hq => ?_)), fun q hq => ?_⟩
  · unfold zkn zcs
    rw [zu1_p (by omega)]
  · unfold zcs
    rw [zu1_p (by omega), zu1_p (by omega), zu1_p (by omega)]
    exact b2 q hq
theorem zcs_F {v : Int} (H : zRF t 225 σ n) (hv : v = zpe σ ((p : Nat) : Int) 3 + 1) : zRF (zu t 229 ((p : Nat) : Int) v) 225 (zcs σ ((p : Nat) : Int)) n := by
  have o1 : ∀ x, x ≠ 229 → zu t 229 ((p : Nat) : Int) v x = t x := fun x hx => funext (fun y => zu_cell hx)
  obtain ⟨b1, b2, b3⟩ := H
  refine ⟨?_, ?_, fun q hq => ?_⟩
  · rw [o1 225 (by decide), zcs_lo (Int.natCast_nonneg p) (k := 4) (by decide)]
    exact b1
  · rw [o1 225 (by decide), zcs_lo (Int.natCast_nonneg p) (k := 8) (by decide)]
    exact b2
  · obtain ⟨d0, d1, d2, d3⟩ := b3 q hq
    unfold zcs
    rw [zu1_p (by omega), zu1_p (by omega), zu1_p (by omega), o1 (225 + 1) (by decide), o1 (225 + 2) (by decide), o1 (225 + 3) (by decide)]
    refine ⟨d0, d1, d2, ?_⟩
    show zu t 229 ((p : Nat) : Int) v 229 ((q : Nat) : Int) = _
    by_cases e : q = p
    · subst e
      rw [zu_hit, hv]
      exact (if_pos rfl).symm
    · rw [zu_place (by omega), zu1_p (by omega)]
      exact d3
theorem zB_112 {G : Nat} {R : Int × zS} (hD : zgD bB s n m) (hC : -1 ≤ s 10 6 ∧ s 10 6 < s 7 8) (uC : ∀ z : zS, (∀ x, 240 ≤ x → x ≤ 263 → z x = s x) → z 237 1 = (if s 10 6 < 0 then -1 else 240 + 4 * s 10 6) → zRc z (s 10 6) U) (h : bB + 100 ≤ 999) (e0 : zG G xm_c112 0 [7, x, 0, 0] [] s R) : R.1 = zcos (s 354) n m (s 10 6) U x := by
  obtain ⟨⟨hH, hF, hL, -⟩, hG, hGt, -⟩ := hD
  have h1 : s 11 1 = s 354 1 := hH.1.2.1
  have gn : s 354 1 = ((n : Nat) : Int) := hG.1.1
  have h7 := hG.1.2.1
  have f1 : s 19 1 = s 354 8 := hF.2.1
  unfold zcos
  obtain ⟨F1, l1, r1, s1, q1, e1⟩ := zi_112_0 e0
  obtain ⟨rfl, rfl⟩ := zdet q1 (zo_hasP (h := 11))
  rw [h1] at e1
  by_cases c0 : 0 ≤ x ∧ x < s 354 1
  case neg =>
    rw [if_neg c0] at e1 ⊢
    obtain ⟨F2, l2, ⟨c2, e2⟩ | ⟨c2, e2⟩⟩ := zi_112_5 e1
    · rw [zi_112_14 e2]
    · exact absurd rfl c2
  rw [if_pos c0] at e1 ⊢
  obtain ⟨F2, l2, ⟨c2, e2⟩ | ⟨c2, e2⟩⟩ := zi_112_5 e1
  · exact absurd c2 (by decide)
  obtain ⟨p, rfl⟩ := Int.eq_ofNat_of_zero_le c0.1
  have hp : p < n := by
    clear e0 q1 e1 e2 uC
    omega
  have p6 : ((p : Nat) : Int) ≤ 6 := by
    clear e0 q1 e1 e2 uC
    omega
  have ep : s 23 ((p : Nat) : Int) = zpe (s 354) ((p : Nat) : Int) 3 := (hF.2.2 p hp).2.2.2
  have r3 := (hG.2.1 p hp).2.2.1
  obtain ⟨F3, l3, ⟨c3, e3⟩ | ⟨c3, e3⟩⟩ := zi_112_6 e2
  case inr =>
    have c3 : ¬ s 23 ((p : Nat) : Int) < 9 := c3
    rw [ep] at c3
    rw [zi_112_14 e3, if_pos (Int.le_antisymm r3.2 (Int.not_lt.mp c3))]
  have c3 : s 23 ((p : Nat) : Int) < 9 := c3
  rw [ep] at c3
  rw [if_neg (fun q => absurd q (Int.ne_of_lt c3))]
  obtain ⟨F5, l5, r5, s5, q5, e5⟩ := zi_112_16 e3
  obtain ⟨rfl, rfl⟩ := zdet q5 (zo_rif hC.1 hC.2)
  obtain ⟨F6, l6, r6, s6, q6, e6⟩ := zi_112_20 e5
  obtain ⟨w, w1, ⟨w2, w3, w4⟩, w5, w6, w7⟩ := zo_prepR (s := s) (r := if s 10 6 < 0 then -1 else 240 + 4 * s 10 6)
  obtain ⟨rfl, rfl⟩ := zdet q6 w1
  obtain ⟨F7, l7, r7, s7, q7, e7⟩ := zi_112_21 e6
  have a : r7 = zlh (s 354) n m (s 10 6) U 100 := zB_55 (R := (r7, s7)) hG hGt h (zRH_c hH (fun x x1 x2 => w7 x (by omega) (by omega))) (w5 _ n h7 hF) (w6 _ n h7 hL) (w3.trans f1) (by rw [w4, w7 11 (by decide) (by decide)]) (by rw [w7 24 (by decide) (by decide)]; exact hL.1) (fun z hz hz1 => uC z (fun x x1 x2 => by rw [hz x x1 x2, w7 x (by omega) (by omega)]) (by rw [hz1, w2])) q7
  have k7 : ∀ x, ¬ (224 ≤ x ∧ x < 240) → s7 x = s x := fun x hx => ((zQ_55 q7) x hx).trans (w7 x (by omega) (by omega))
  obtain ⟨F8, l8, r8, s8, q8, e8⟩ := zi_112_24 e7
  obtain ⟨rfl, rfl⟩ := zdet q8 (zo_rif (s := s7) (by rw [k7 10 (by decide)]; exact hC.1) (by rw [k7 10 (by decide), k7 7 (by decide)]; exact hC.2))
  rw [k7 10 (by decide)] at e8
  obtain ⟨F9, l9, r9, s9, q9, e9⟩ := zi_112_29 e8
  obtain ⟨v, v1, ⟨v2, v3, v4⟩, v5, v6, v7⟩ := zo_prepR (s := s7) (r := if s 10 6 < 0 then -1 else 240 + 4 * s 10 6)
  obtain ⟨rfl, rfl⟩ := zdet q9 v1
  obtain ⟨F10, l10, r10, s10, q10, e10⟩ := zi_112_30 e9
  have vF : zRF v 225 (s 354) n := v5 _ n h7 (zRF_c hF (fun x x1 x2 => k7 x (by omega)))
  have vL : zRL v 230 (s 354) n := v6 _ n h7 (zRL_c hL (fun x x1 x2 => k7 x (by omega)))
  have ev : zw (v (7 + 217 + 1 + 4) ((p : Nat) : Int) + 1) = zpe (s 354) ((p : Nat) : Int) 3 + 1 := by
    have e : v (7 + 217 + 1 + 4) ((p : Nat) : Int) = zpe (s 354) ((p : Nat) : Int) 3 := (vF.2.2 p hp).2.2.2
    rw [e]
    clear e0 q1 e1 e2 e3 e5 e6 e7 e8 e9 e10 q10 q9 q8 q7 q6 q5 uC
    exact zw_id (by omega) (by omega)
  rw [ev] at q10
  have q10 : zG F10 xm_c55 0 [224, 0, 0] [] (zu v 229 ((p : Nat) : Int) (zpe (s 354) ((p : Nat) : Int) 3 + 1)) (r10, s10) := q10
  have o9 : ∀ x, x ≠ 229 → zu v 229 ((p : Nat) : Int) (zpe (s 354) ((p : Nat) : Int) 3 + 1) x = v x := fun x hx => funext (fun y => zu_cell hx)
  have kv : ∀ x, ¬ (224 ≤ x ∧ x < 240) → zu v 229 ((p : Nat) : Int) (zpe (s 354) ((p : Nat) : Int) 3 + 1) x = s x := fun x hx => by
    rw [o9 x (by omega), v7 x (by omega) (by omega), k7 x hx]
  have p0 := Int.natCast_nonneg p
  have b : r10 = zlh (zcs (s 354) ((p : Nat) : Int)) n m (s 10 6) U 100 := zB_55 (R := (r10, s10)) (zcs_G hG hp c3) (zGt_s hGt (fun k hk => zcs_st p0 p6 (Or.inl hk))) h (zRH_s (zRH_c hH (fun x x1 x2 => kv x (by omega))) h7 (fun k hk => zcs_st p0 p6 (hk.imp_right (fun q => by omega)))) (zcs_F vF rfl) (zRL_c (zcs_L vL) (fun x x1 x2 => o9 x (by omega))) (by
    rw [o9 237 (by decide), v3, k7 19 (by decide), f1, zcs_lo p0 (by decide)]) (by
    rw [o9 237 (by decide), v4, kv 11 (by decide), k7 11 (by decide)]) (by
    rw [kv 24 (by decide)]
    exact (zcs_L hL).1) (fun z hz hz1 => uC z (fun x x1 x2 => by rw [hz x x1 x2, kv x (by omega)]) (by rw [hz1, o9 237 (by decide), v2])) q10
  have ra := (zlh_i (F := s 10 6) (U := U) hG (K := 100) h 100 (Nat.le_refl 100)).1.1
  have rb := (zlh_i (F := s 10 6) (U := U) (zcs_G hG hp c3) (K := 100) h 100 (Nat.le_refl 100)).1.1
  rw [← a] at ra ⊢
  rw [← b] at rb ⊢
  obtain ⟨F11, l11, ⟨c11, e11⟩ | ⟨c11, e11⟩⟩ := zi_112_43 e10
  · rw [zi_112_50 e11, if_pos (Or.inr (by rw [c11]; decide))]
  obtain ⟨F12, l12, ⟨c12, e12⟩ | ⟨c12, e12⟩⟩ := zi_112_47 e11
  · rw [zi_112_50 e12, if_pos (Or.inl (by rw [c12]; decide))]
  rw [zi_112_52 e12, if_neg (fun q => ?_)]
  clear e0 q1 e1 e2 e3 e5 e6 e7 e8 e9 e10 e11 e12 q10 q9 q8 q7 q6 q5 uC a b
  rcases q with q | q
  · omega
  · omega
theorem zB_230 {G : Nat} {R : Int × zS} {z : zS} (hG : zGs bB σ n m) (h : bB + 100 ≤ 999) (hU : ¬ F < 0 → zRu z F U) (hB : zJb σ F z t) (e0 : zG G xm_c230 0 [344, x, 0, 0] [] t R) : R.1 = zcos σ n m F U x := by
  have gn : σ 1 = ((n : Nat) : Int) := hG.1.1
  have h7 := hG.1.2.1
  have g : zJg σ F z n m U := ⟨hG.1.1, h7, hG.1.2.2.1, hG.1.2.2.2.1, hU⟩
  have a := hB.1
  unfold zcos
  obtain ⟨F1, l1, r1, s1, q1, e1⟩ := zi_230_0 e0
  obtain ⟨rfl, rfl⟩ := zdet q1 zq_isP
  rw [a] at e1
  by_cases c0 : 0 ≤ x ∧ x < σ 1
  case neg =>
    rw [if_neg c0] at e1 ⊢
    obtain ⟨F2, l2, ⟨c2, e2⟩ | ⟨c2, e2⟩⟩ := zi_230_3 e1
    · rw [zi_230_10 e2]
    · exact absurd rfl c2
  rw [if_pos c0] at e1 ⊢
  obtain ⟨F2, l2, ⟨c2, e2⟩ | ⟨c2, e2⟩⟩ := zi_230_3 e1
  · exact absurd c2 (by decide)
  obtain ⟨p, rfl⟩ := Int.eq_ofNat_of_zero_le c0.1
  have hp : p < n := by
    clear e0 q1 e1 e2 hU g
    omega
  have p6 : ((p : Nat) : Int) ≤ 6 := by
    clear e0 q1 e1 e2 hU g
    omega
  have p0 := Int.natCast_nonneg p
  have r3 := (hG.2.1 p hp).2.2.1
  obtain ⟨F3, l3, r3', s3, q3, e3⟩ := zi_230_4 e2
  obtain ⟨rfl, rfl⟩ := zdet q3 (zr_per a p0 p6 (by decide) (by decide))
  obtain ⟨F4, l4, ⟨c4, e4⟩ | ⟨c4, e4⟩⟩ := zi_230_8 e3
  · rw [zi_230_10 e4, if_pos c4]
  rw [if_neg c4]
  have c3 : zpe σ ((p : Nat) : Int) 3 < 9 := by
    clear e0 q1 e1 e2 e3 e4 q3 hU g
    omega
  obtain ⟨F5, l5, r5, s5, q5, e5⟩ := zi_230_12 e4
  obtain ⟨j1, j2⟩ := zJ_207 hB q5
  obtain ⟨F6, l6, r6, s6, q6, e6⟩ := zi_230_14 e5
  have ea : r6 = zlh σ n m F U 100 := zB_229 (R := (r6, s6)) hG h hU q6 j2 j1.2.2.2.1 j1.2.2.2.2
  obtain ⟨k1, k2⟩ := zJ_229 g j1 q6
  have k2 : s6 354 = σ := k2
  obtain ⟨F7, l7, r7, s7, q7, e7⟩ := zi_230_16 e6
  rw [zpp2 p0 p6 (by decide) (by decide)] at q7
  have ev : zw (s6 (344 + 10) (10 + 11 * ((p : Nat) : Int) + 3) + 1) = zpe σ ((p : Nat) : Int) 3 + 1 := by
    have e : s6 (344 + 10) (10 + 11 * ((p : Nat) : Int) + 3) = zpe σ ((p : Nat) : Int) 3 := by
      show s6 354 _ = _
      rw [k2]
      rfl
    rw [e]
    clear e0 q1 e1 e2 e3 e4 e5 e6 e7 q3 q5 q6 q7 hU g
    exact zw_id (by omega) (by omega)
  rw [ev] at q7
  have K2 := zJk_u (v := zpe σ ((p : Nat) : Int) 3 + 1) k1 (i := 10 + 11 * ((p : Nat) : Int) + 3) (by omega) (by omega)
  have eb : r7 = zlh (zcs σ ((p : Nat) : Int)) n m F U 100 := zB_229 (R := (r7, s7)) (zcs_G hG hp c3) h hU q7 (funext (fun k => by
    show zu s6 354 _ _ 354 k = _
    rw [zu2, k2]
    rfl)) K2.2.2.2.1 K2.2.2.2.2
  rw [← ea, ← eb]
  obtain ⟨F8, l8, ⟨c8, e8⟩ | ⟨c8, e8⟩⟩ := zi_230_33 e7
  · rw [zi_230_38 e8, if_pos (Or.inl c8)]
  obtain ⟨F9, l9, ⟨c9, e9⟩ | ⟨c9, e9⟩⟩ := zi_230_36 e8
  · rw [zi_230_38 e9, if_pos (Or.inr c9)]
  rw [zi_230_40 e9, if_neg (fun q => q.elim c8 c9)]
/-- cost answers alike -/
theorem zB_cost {s1 s2 : zS} {q1 q2 : Int} (H : zRZ bB s) (h6 : s 7 8 ≤ 6) (h : bB + 100 ≤ 999) (e1 : zE xm_c112 [7, x, 0, 0] s q1 s1) (e2 : zE xm_c230 [344, x, 0, 0] s1 q2 s2) : q1 = q2 := by
  obtain ⟨G1, f1⟩ := e1
  obtain ⟨G2, f2⟩ := e2
  have hq : zQf s s1 := zQ_112 f1
  obtain ⟨U, uC, uM⟩ := zUw H.2.1 h6 H.2.2.1
  obtain ⟨n, m, hD, -⟩ := H.2.2.2.1
  have c1 := H.2.2.1.1
  have a : q1 = zcos (s 354) n m (s 10 6) U x := zB_112 hD H.2.2.1.2.1 uC h f1
  have o : ∀ x, x < 224 ∨ 240 ≤ x → s1 x = s x := fun x hx => hq x (by omega)
  have b : q2 = zcos (s 354) n m (s 10 6) U x := zB_230 (z := s1) (t := s1) hD.2.1 h (fun q => uM q s1 (fun x x1 x2 => o x (by omega))) ⟨by rw [o 354 (by omega)], by rw [o 344 (by omega), c1], fun _ _ _ => rfl⟩ f2
  rw [a, b]
end MJ
