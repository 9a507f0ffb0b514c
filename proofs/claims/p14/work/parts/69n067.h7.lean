/-! heel, send, whisper, undo on both sides -/
section HY
variable {bB : Int}
variable {s s1 s2 t : zS} {σ τ : Int → Int} {n m : Nat} {p f x y c : Int}
/-- one place of a person anew -/
def zu1 (σ : Int → Int) (i v : Int) : Int → Int := fun k => if k = i then v else σ k
theorem zu1_p {q : Nat} {i v j : Int} (h : 10 + 11 * ((q : Nat) : Int) + j ≠ i) : zpe (zu1 σ i v) ((q : Nat) : Int) j = zpe σ ((q : Nat) : Int) j := if_neg h
theorem zA_heel (H : zRZ bB s) (h6 : s 7 8 ≤ 6) : ∃ r s1 s2, zE xm_c100 [7, x] s r s1 ∧ zE xm_c206 [344, x] s1 r s2 ∧ zRZ bB s2 := by
  obtain ⟨n, m, hD, hE⟩ := H.2.2.2.1
  have h1 : s 11 1 = s 354 1 := hD.1.1.1.2.1
  have g1 := hD.2.1.1.1
  have h7 := hD.2.1.1.2.1
  by_cases c0 : 0 ≤ x ∧ x < s 354 1
  case neg =>
    exact zRZ_r H (r := -1) (zb_100_0 zo_hasP (zb_100_5 (fun _ => zb_100_14 rfl) (fun q => absurd (z01' (by rw [show s (7 + 3 + 1) 1 = s 354 1 from h1]; exact c0)) q))) (zb_206_0 zq_isP (zb_206_3 (fun _ => zb_206_10 rfl) (fun q => absurd (z01' c0) q)))
  obtain ⟨p, rfl⟩ := Int.eq_ofNat_of_zero_le c0.1
  have hp : p < n := by omega
  have p6 : ((p : Nat) : Int) ≤ 6 := by omega
  have hpf := (hD.1.2.1.2.2 p hp).2.2.2
  obtain ⟨r0, r1, r3, r4, r5, r6, -⟩ := hD.2.1.2.1 p hp
  have e0 : s (7 + 3 + 9 + 4) ((p : Nat) : Int) = zpe (s 354) ((p : Nat) : Int) 3 := hpf
  have toC : ∀ R, (zA xm_c100 16 [7, ((p : Nat) : Int)] [] s R) → zpe (s 354) ((p : Nat) : Int) 3 < 9 → zA xm_c100 0 [7, ((p : Nat) : Int)] [] s R := fun R z h => zb_100_0 zo_hasP (zb_100_5 (fun q => absurd q (z10 (by rw [show s (7 + 3 + 1) 1 = s 354 1 from h1]; exact c0))) (fun _ => zb_100_6 (fun _ => z) (fun q => absurd (by rw [e0]; exact h) q)))
  by_cases c1 : zpe (s 354) ((p : Nat) : Int) 3 = 9
  · exact zRZ_r H (r := -1) (zb_100_0 zo_hasP (zb_100_5 (fun q => absurd q (z10 (by rw [show s (7 + 3 + 1) 1 = s 354 1 from h1]; exact c0))) (fun _ => zb_100_6 (fun q => absurd q (by rw [e0, c1]; decide)) (fun _ => zb_100_14 rfl)))) (zb_206_0 zq_isP (zb_206_3 (fun q => absurd q (z10 c0)) (fun _ => zb_206_4 (zr_per rfl (by omega) p6 (by decide) (by decide)) (zb_206_8 (fun _ => zb_206_10 rfl) (fun q => absurd c1 q)))))
  have c9 : zpe (s 354) ((p : Nat) : Int) 3 < 9 := by omega
  obtain ⟨t, a1, a2, a3, a4⟩ := zo_kept hD hE
  have nx := hE.1.2.2.2.1
  have tF := zRF_c hD.1.2.1 (s' := t) (fun x x1 x2 => a4 x (by omega) (by omega))
  obtain ⟨v, hv⟩ : ∃ v, v = zpe (s 354) ((p : Nat) : Int) 3 + 1 := ⟨_, rfl⟩
  have tp : t 23 ((p : Nat) : Int) = zpe (s 354) ((p : Nat) : Int) 3 := (tF.2.2 p hp).2.2.2
  have wv : zw (zpe (s 354) ((p : Nat) : Int) 3 + 1) = v := by rw [hv]; exact zw_id (by omega) (by omega)
  have o1 : ∀ x, x ≠ 23 → zu t 23 ((p : Nat) : Int) v x = t x := fun x hx => funext (fun y => zu_cell hx)
  have lo : ∀ k : Int, k < 10 → zu1 (s 354) (10 + 11 * ((p : Nat) : Int) + 3) v k = s 354 k := fun k hk => if_neg (by omega)
  have hF : zRF (zu t 23 ((p : Nat) : Int) v) 19 (zu1 (s 354) (10 + 11 * ((p : Nat) : Int) + 3) v) n := by
    obtain ⟨b1, b2, b3⟩ := tF
    refine ⟨?_, ?_, fun q hq => ?_⟩
    · rw [o1 19 (by decide), lo 4 (by decide)]; exact b1
    · rw [o1 19 (by decide), lo 8 (by decide)]; exact b2
    · obtain ⟨d0, d1, d2, d3⟩ := b3 q hq
      rw [zu1_p (by omega), zu1_p (by omega), zu1_p (by omega), o1 (19 + 1) (by decide), o1 (19 + 2) (by decide), o1 (19 + 3) (by decide)]
      refine ⟨d0, d1, d2, ?_⟩
      show zu t 23 ((p : Nat) : Int) v 23 ((q : Nat) : Int) = _
      by_cases e : q = p
      · subst e
        rw [zu_hit]
        exact (if_pos rfl).symm
      · rw [zu_place (by omega), zu1_p (by omega)]
        exact d3
  have hL : zRL (zu t 23 ((p : Nat) : Int) v) 24 (zu1 (s 354) (10 + 11 * ((p : Nat) : Int) + 3) v) n := by
    obtain ⟨b1, b2⟩ := zRL_c hD.1.2.2.1 (s' := zu t 23 ((p : Nat) : Int) v) (fun x x1 x2 => by rw [o1 x (by omega), a4 x (by omega) (by omega)])
    refine ⟨b1.trans (zfo_congr n (fun q hq => ?_)), fun q hq => ?_⟩
    · unfold zkn
      rw [zu1_p (by omega)]
    · rw [zu1_p (by omega), zu1_p (by omega), zu1_p (by omega)]
      exact b2 q hq
  have hc : zCa s (zu t 23 ((p : Nat) : Int) v) n (zu1 (s 354) (10 + 11 * ((p : Nat) : Int) + 3) v) := zCa_of hE a2 a3 a4 hF hL (fun x x1 x2 => o1 x (by omega))
  have e344 : zu t 23 ((p : Nat) : Int) v 344 = s 344 := hc.2.2.2.2 344 (by decide) (by decide) (by decide) (by decide)
  have e354 : zu t 23 ((p : Nat) : Int) v 354 = s 354 := hc.2.2.2.2 354 (by decide) (by decide) (by decide) (by decide)
  obtain ⟨w, b1, b2, b3, b4⟩ := zr_kept (s1 := zu t 23 ((p : Nat) : Int) v) hE e344
  have w354 : w 354 = s 354 := by rw [b3 354 (by decide) (by decide), e354]
  have z354 : zu w 354 (10 + 11 * ((p : Nat) : Int) + 3) v 354 = zu1 (s 354) (10 + 11 * ((p : Nat) : Int) + 3) v := funext (fun k => by rw [zu2, w354]; rfl)
  have hM : zMa (zu t 23 ((p : Nat) : Int) v) (zu w 354 (10 + 11 * ((p : Nat) : Int) + 3) v) (zu1 (s 354) (10 + 11 * ((p : Nat) : Int) + 3) v) := by
    refine ⟨z354, ?_, fun x x1 x2 => ?_, fun y y1 y2 y3 => ?_⟩
    · rw [zu_cell (by decide)]
      have : zu w 354 (10 + 11 * ((p : Nat) : Int) + 3) v 356 = w 356 := funext (fun y => zu_cell (by decide))
      rw [this]
      exact b2
    · rw [← b3 x x1 (by omega)]
      exact funext (fun y => zu_cell (by omega))
    · rw [zu_cell (by decide)]
      exact b4 y y3
  have hst : ∀ k, zst k ∨ ¬ (0 ≤ k ∧ k < 87) → zu1 (s 354) (10 + 11 * ((p : Nat) : Int) + 3) v k = s 354 k := fun k hk => by
    refine if_neg ?_
    unfold zst at hk
    omega
  obtain ⟨q1, q2⟩ := zAct hD hE hc hM hst (zGs_s hD.2.1 (fun k hk => hst k (hk.imp_right (fun q => by omega))) (by rw [lo 4 (by decide)]; exact hD.2.1.1.2.2.2.2.2.2.2) (fun q hq => by
    obtain ⟨d0, d1, d3, d4, d5, d6, -⟩ := hD.2.1.2.1 q hq
    rw [zu1_p (j := 0) (by omega), zu1_p (j := 1) (by omega), zu1_p (j := 2) (by omega), zu1_p (j := 8) (by omega)]
    refine ⟨d0, d1, ?_, d5, d6⟩
    by_cases e : q = p
    · subst e
      have : zpe (zu1 (s 354) (10 + 11 * ((q : Nat) : Int) + 3) v) ((q : Nat) : Int) 3 = v := if_pos rfl
      rw [this, hv]
      omega
    · rw [zu1_p (by omega)]
      exact d3))
  have z3 := zpp2 (p := ((p : Nat) : Int)) (k := 3) (by omega) p6 (by decide) (by decide)
  refine ⟨v, zu t 23 ((p : Nat) : Int) v, zu w 354 (10 + 11 * ((p : Nat) : Int) + 3) v, toC _ (zb_100_16 (s1 := t) (r := 0) a1 (zb_100_21 ?_)) c9, zb_206_0 zq_isP (zb_206_3 (fun q => absurd q (z10 (by rw [e354]; exact c0))) (fun _ => zb_206_4 (zr_per e354 (by omega) p6 (by decide) (by decide)) (zb_206_8 (fun q => absurd q c1) (fun _ => zb_206_12 (s1 := w) (r := 0) b1 (zb_206_14 (s1 := zu w 354 (10 + 11 * ((p : Nat) : Int) + 3) v) (r := v) ?_ (zb_206_32 rfl)))))), zRZ_D H h6 (zFr1_of hc.2.2.2.2 hM.2.2) ⟨n, m, q1, q2⟩⟩
  · show ((zu t 23 ((p : Nat) : Int) (zw (t 23 ((p : Nat) : Int) + 1))) 23 ((p : Nat) : Int), zu t 23 ((p : Nat) : Int) (zw (t 23 ((p : Nat) : Int) + 1))) = _
    rw [tp, wv, zu_hit]
  · show zE xm_c178 [344, ((p : Nat) : Int), 3] (zu w 354 (zw (zw (10 + zw (11 * ((p : Nat) : Int))) + 3)) (zw (w 354 (zw (zw (10 + zw (11 * ((p : Nat) : Int))) + 3)) + 1))) v _
    rw [z3, w354]
    have ep : s 354 (10 + 11 * ((p : Nat) : Int) + 3) = zpe (s 354) ((p : Nat) : Int) 3 := rfl
    rw [ep, wv]
    have z := zr_per (s := zu w 354 (10 + 11 * ((p : Nat) : Int) + 3) v) (p := ((p : Nat) : Int)) (k := 3) z354 (by omega) p6 (by decide) (by decide)
    have : zpe (zu1 (s 354) (10 + 11 * ((p : Nat) : Int) + 3) v) ((p : Nat) : Int) 3 = v := if_pos rfl
    rw [this] at z
    exact z
/-- send -/
theorem zA_send (H : zRZ bB s) (h6 : s 7 8 ≤ 6) : ∃ r s1 s2, zE xm_c98 [7, x, f] s r s1 ∧ zE xm_c204 [344, x, f] s1 r s2 ∧ zRZ bB s2 := by
  obtain ⟨n, m, hD, hE⟩ := H.2.2.2.1
  have h0 : s 11 0 = s 354 0 := hD.1.1.1.1
  have h1 : s 11 1 = s 354 1 := hD.1.1.1.2.1
  have g1 := hD.2.1.1.1
  have h7 := hD.2.1.1.2.1
  by_cases c0 : 0 ≤ x ∧ x < s 354 1
  case neg =>
    exact zRZ_r H (r := -1) (zb_98_0 zo_hasP (zb_98_5 (fun _ => zb_98_12 rfl) (fun q => absurd (z01' (by rw [show s (7 + 3 + 1) 1 = s 354 1 from h1]; exact c0)) q))) (zb_204_0 zq_isP (zb_204_3 (fun _ => zb_204_18 rfl) (fun q => absurd (z01' c0) q)))
  have cA : ∀ R, zA xm_c98 6 [7, x, f] [] s R → zA xm_c98 0 [7, x, f] [] s R := fun R z => zb_98_0 zo_hasP (zb_98_5 (fun q => absurd q (z10 (by rw [show s (7 + 3 + 1) 1 = s 354 1 from h1]; exact c0))) (fun _ => z))
  by_cases cf : 0 ≤ f ∧ f < s 354 0
  case neg =>
    exact zRZ_r H (r := -1) (cA _ (zb_98_6 zo_hasF (zb_98_11 (fun _ => zb_98_12 rfl) (fun q => absurd (z01' (by rw [show s (7 + 3 + 1) 0 = s 354 0 from h0]; exact cf)) q)))) (zb_204_0 zq_isP (zb_204_3 (fun q => absurd q (z10 c0)) (fun _ => zb_204_4 zq_isF (zb_204_7 (fun _ => zb_204_18 rfl) (fun q => absurd (z01' cf) q)))))
  have cB : ∀ R, zA xm_c98 14 [7, x, f] [] s R → zA xm_c98 0 [7, x, f] [] s R := fun R z => cA R (zb_98_6 zo_hasF (zb_98_11 (fun q => absurd q (z10 (by rw [show s (7 + 3 + 1) 0 = s 354 0 from h0]; exact cf))) (fun _ => z)))
  obtain ⟨p, rfl⟩ := Int.eq_ofNat_of_zero_le c0.1
  have hp : p < n := by omega
  have p6 : ((p : Nat) : Int) ≤ 6 := by omega
  obtain ⟨v0, v1, v2, v3⟩ := hD.1.2.1.2.2 p hp
  obtain ⟨r0, r1, r3, r4, r5, r6, -⟩ := hD.2.1.2.1 p hp
  have g6 := hD.2.1.1.2.2.2.2.2.1
  have u0 : s (7 + 3 + 9 + 1) ((p : Nat) : Int) = zpe (s 354) ((p : Nat) : Int) 0 := v0
  have u1 : s (7 + 3 + 9 + 2) ((p : Nat) : Int) = zpe (s 354) ((p : Nat) : Int) 1 := v1
  by_cases c1 : zpe (s 354) ((p : Nat) : Int) 0 = zpe (s 354) ((p : Nat) : Int) 1
  case neg =>
    exact zRZ_r H (r := -1) (cB _ (zb_98_14 zo_stand (zb_98_19 (fun _ => zb_98_28 rfl) (fun q => absurd (z01' (by rw [u0, u1]; exact c1)) q)))) (zb_204_0 zq_isP (zb_204_3 (fun q => absurd q (z10 c0)) (fun _ => zb_204_4 zq_isF (zb_204_7 (fun q => absurd q (z10 cf)) (fun _ => zb_204_8 (zr_stand rfl (by omega) p6) (zb_204_11 (fun _ => zb_204_18 rfl) (fun q => absurd (z01' c1) q)))))))
  have cC : ∀ R, zA xm_c98 20 [7, ((p : Nat) : Int), f] [] s R → zA xm_c98 0 [7, ((p : Nat) : Int), f] [] s R := fun R z => cB R (zb_98_14 zo_stand (zb_98_19 (fun q => absurd q (z10 (by rw [u0, u1]; exact c1))) (fun _ => z)))
  by_cases c2 : zpe (s 354) ((p : Nat) : Int) 0 = f
  · exact zRZ_r H (r := -1) (cC _ (zb_98_20 (fun _ => zb_98_28 rfl) (fun q => absurd (by rw [u0]; exact c2) q))) (zb_204_0 zq_isP (zb_204_3 (fun q => absurd q (z10 c0)) (fun _ => zb_204_4 zq_isF (zb_204_7 (fun q => absurd q (z10 cf)) (fun _ => zb_204_8 (zr_stand rfl (by omega) p6) (zb_204_11 (fun q => absurd q (z10 c1)) (fun _ => zb_204_12 (zr_per rfl (by omega) p6 (by decide) (by decide)) (zb_204_16 (fun _ => zb_204_18 rfl) (fun q => absurd c2 q)))))))))
  obtain ⟨t, a1, a2, a3, a4⟩ := zo_kept hD hE
  have nx := hE.1.2.2.2.1
  have tF := zRF_c hD.1.2.1 (s' := t) (fun x x1 x2 => a4 x (by omega) (by omega))
  obtain ⟨w0, w1, w2, w3⟩ := tF.2.2 p hp
  obtain ⟨T, hT⟩ : ∃ T, T = zup (s 354) ((p : Nat) : Int) (zpe (s 354) ((p : Nat) : Int) 0) f (zpe (s 354) ((p : Nat) : Int) 3) := ⟨_, rfl⟩
  have o1 : ∀ x, x ≠ 21 → x ≠ 22 → zu (zu t 21 ((p : Nat) : Int) f) 22 ((p : Nat) : Int) (t 23 ((p : Nat) : Int)) x = t x := fun x h1 h2 => funext (fun y => by rw [zu_cell h2, zu_cell h1])
  have far : ∀ k : Int, ¬ (10 + 11 * ((p : Nat) : Int) ≤ k ∧ k ≤ 10 + 11 * ((p : Nat) : Int) + 2) → T k = s 354 k := fun k hk => by
    rw [hT]
    unfold zup
    rw [if_neg (by omega), if_neg (by omega), if_neg (by omega)]
  have Tq : ∀ (q : Nat) (j : Int), 0 ≤ j → j ≤ 10 → (q ≠ p ∨ 3 ≤ j) → zpe T ((q : Nat) : Int) j = zpe (s 354) ((q : Nat) : Int) j := fun q j j0 j1 hq => far _ (by omega)
  have T0 : zpe T ((p : Nat) : Int) 0 = zpe (s 354) ((p : Nat) : Int) 0 := by rw [hT]; exact zup_0
  have T1 : zpe T ((p : Nat) : Int) 1 = f := by rw [hT]; exact zup_1
  have T2 : zpe T ((p : Nat) : Int) 2 = zpe (s 354) ((p : Nat) : Int) 3 := by rw [hT]; exact zup_2
  have hF : zRF (zu (zu t 21 ((p : Nat) : Int) f) 22 ((p : Nat) : Int) (t 23 ((p : Nat) : Int))) 19 T n := by
    obtain ⟨b1, b2, b3⟩ := tF
    refine ⟨?_, ?_, fun q hq => ?_⟩
    · rw [o1 19 (by decide) (by decide), far 4 (by omega)]; exact b1
    · rw [o1 19 (by decide) (by decide), far 8 (by omega)]; exact b2
    · obtain ⟨d0, d1, d2, d3⟩ := b3 q hq
      rw [o1 (19 + 1) (by decide) (by decide), o1 (19 + 4) (by decide) (by decide), Tq q 3 (by decide) (by decide) (Or.inr (by decide))]
      show _ ∧ zu (zu t 21 ((p : Nat) : Int) f) 22 ((p : Nat) : Int) (t 23 ((p : Nat) : Int)) 21 ((q : Nat) : Int) = _ ∧ zu (zu t 21 ((p : Nat) : Int) f) 22 ((p : Nat) : Int) (t 23 ((p : Nat) : Int)) 22 ((q : Nat) : Int) = _ ∧ _
      rw [zu_cell (by decide)]
      by_cases e : q = p
      · subst e
        rw [zu_hit, zu_hit, T0, T1, T2]
        exact ⟨d0, rfl, w3, d3⟩
      · rw [zu_place (by omega), zu_place (by omega), zu_cell (by decide), Tq q 0 (by decide) (by decide) (Or.inl e), Tq q 1 (by decide) (by decide) (Or.inl e), Tq q 2 (by decide) (by decide) (Or.inl e)]
        exact ⟨d0, d1, d2, d3⟩
  have hL : zRL (zu (zu t 21 ((p : Nat) : Int) f) 22 ((p : Nat) : Int) (t 23 ((p : Nat) : Int))) 24 T n := by
    obtain ⟨b1, b2⟩ := zRL_c hD.1.2.2.1 (s' := zu (zu t 21 ((p : Nat) : Int) f) 22 ((p : Nat) : Int) (t 23 ((p : Nat) : Int))) (fun x x1 x2 => by rw [o1 x (by omega) (by omega), a4 x (by omega) (by omega)])
    refine ⟨b1.trans (zfo_congr n (fun q hq => ?_)), fun q hq => ?_⟩
    · unfold zkn
      rw [Tq q 8 (by decide) (by decide) (Or.inr (by decide))]
    · rw [Tq q 8 (by decide) (by decide) (Or.inr (by decide)), Tq q 9 (by decide) (by decide) (Or.inr (by decide)), Tq q 10 (by decide) (by decide) (Or.inr (by decide))]
      exact b2 q hq
  have hc : zCa s (zu (zu t 21 ((p : Nat) : Int) f) 22 ((p : Nat) : Int) (t 23 ((p : Nat) : Int))) n T := zCa_of hE a2 a3 a4 hF hL (fun x x1 x2 => o1 x (by omega) (by omega))
  have e344 : zu (zu t 21 ((p : Nat) : Int) f) 22 ((p : Nat) : Int) (t 23 ((p : Nat) : Int)) 344 = s 344 := hc.2.2.2.2 344 (by decide) (by decide) (by decide) (by decide)
  have e354 : zu (zu t 21 ((p : Nat) : Int) f) 22 ((p : Nat) : Int) (t 23 ((p : Nat) : Int)) 354 = s 354 := hc.2.2.2.2 354 (by decide) (by decide) (by decide) (by decide)
  obtain ⟨w, b1, b2, b3, b4⟩ := zr_kept (s1 := zu (zu t 21 ((p : Nat) : Int) f) 22 ((p : Nat) : Int) (t 23 ((p : Nat) : Int))) hE e344
  have w354 : w 354 = s 354 := by rw [b3 354 (by decide) (by decide), e354]
  obtain ⟨z, d1, d2, d3, d4⟩ := zr_setsOut (f := f) (p := ((p : Nat) : Int)) w354 (by omega) p6
  rw [← hT] at d2
  have hM : zMa (zu (zu t 21 ((p : Nat) : Int) f) 22 ((p : Nat) : Int) (t 23 ((p : Nat) : Int))) z T := by
    refine ⟨d2, ?_, fun x x1 x2 => ?_, fun y y1 y2 y3 => ?_⟩
    · rw [d3, d4.1 356 (by decide) (by decide)]
      exact b2
    · rw [d4.1 x (by omega) x1]
      exact b3 x x1 (by omega)
    · rw [d3]
      exact b4 y y3
  have hst : ∀ k, zst k ∨ ¬ (0 ≤ k ∧ k < 87) → T k = s 354 k := fun k hk => by
    refine far k ?_
    unfold zst at hk
    omega
  obtain ⟨q1, q2⟩ := zAct hD hE hc hM hst (zGs_s hD.2.1 (fun k hk => hst k (hk.imp_right (fun q => by omega))) (by rw [far 4 (by omega)]; exact hD.2.1.1.2.2.2.2.2.2.2) (fun q hq => by
    obtain ⟨y0, y1, y3, y4, y5, y6, -⟩ := hD.2.1.2.1 q hq
    rw [Tq q 3 (by decide) (by decide) (Or.inr (by decide)), Tq q 8 (by decide) (by decide) (Or.inr (by decide))]
    by_cases e : q = p
    · subst e
      rw [T0, T1, T2]
      exact ⟨y0, cf, y3, fun _ => y3, y6⟩
    · rw [Tq q 0 (by decide) (by decide) (Or.inl e), Tq q 1 (by decide) (by decide) (Or.inl e), Tq q 2 (by decide) (by decide) (Or.inl e)]
      exact ⟨y0, y1, y3, y5, y6⟩))
  have res : (if 0 ≤ zw (f - zpe (s 354) ((p : Nat) : Int) 0) then zw (f - zpe (s 354) ((p : Nat) : Int) 0) else zw (0 - zw (f - zpe (s 354) ((p : Nat) : Int) 0))) = (if zpe (s 354) ((p : Nat) : Int) 0 < f then zw (f - zpe (s 354) ((p : Nat) : Int) 0) else zw (zpe (s 354) ((p : Nat) : Int) 0 - f)) := by
    have e1 : zw (f - zpe (s 354) ((p : Nat) : Int) 0) = f - zpe (s 354) ((p : Nat) : Int) 0 := zw_id (by omega) (by omega)
    have e2 : zw (zpe (s 354) ((p : Nat) : Int) 0 - f) = zpe (s 354) ((p : Nat) : Int) 0 - f := zw_id (by omega) (by omega)
    rw [e1, e2]
    by_cases k : zpe (s 354) ((p : Nat) : Int) 0 < f
    · rw [if_pos k, if_pos (by omega)]
    · rw [if_neg k, if_neg (by omega), zw_id (by omega) (by omega)]
      omega
  have tz : zu (zu t 21 ((p : Nat) : Int) f) 22 ((p : Nat) : Int) (t 23 ((p : Nat) : Int)) 20 ((p : Nat) : Int) = zpe (s 354) ((p : Nat) : Int) 0 := by rw [zu_cell (by decide), zu_cell (by decide)]; exact w0
  refine ⟨_, zu (zu t 21 ((p : Nat) : Int) f) 22 ((p : Nat) : Int) (t 23 ((p : Nat) : Int)), z, cC _ (zb_98_20 (fun q => absurd (by rw [u0] at q; exact q) c2) (fun _ => zb_98_30 (s1 := t) (r := 0) a1 (zb_98_35 (r := 0) zo_setOut (zb_98_41 rfl)))), ?_, zRZ_D H h6 (zFr1_of hc.2.2.2.2 hM.2.2) ⟨n, m, q1, q2⟩⟩
  show zE xm_c204 [344, ((p : Nat) : Int), f] _ (if 0 ≤ zw (f - zu (zu t 21 ((p : Nat) : Int) f) 22 ((p : Nat) : Int) (t 23 ((p : Nat) : Int)) 20 ((p : Nat) : Int)) then zw (f - zu (zu t 21 ((p : Nat) : Int) f) 22 ((p : Nat) : Int) (t 23 ((p : Nat) : Int)) 20 ((p : Nat) : Int)) else zw (0 - zw (f - zu (zu t 21 ((p : Nat) : Int) f) 22 ((p : Nat) : Int) (t 23 ((p : Nat) : Int)) 20 ((p : Nat) : Int)))) z
  rw [tz, res]
  refine zb_204_0 zq_isP (zb_204_3 (fun q => absurd q (z10 (by rw [e354]; exact c0))) (fun _ => zb_204_4 zq_isF (zb_204_7 (fun q => absurd q (z10 (by rw [e354]; exact cf))) (fun _ => zb_204_8 (zr_stand e354 (by omega) p6) (zb_204_11 (fun q => absurd q (z10 c1)) (fun _ => zb_204_12 (zr_per e354 (by omega) p6 (by decide) (by decide)) (zb_204_16 (fun q => absurd q c2) (fun _ => zb_204_20 (s1 := w) (r := 0) b1 (zb_204_22 (s1 := z) (r := 0) d1 (zb_204_26 (s1 := z) (r := zpe T ((p : Nat) : Int) 0) (zr_per d2 (by omega) p6 (by decide) (by decide)) (zb_204_30 zq_apart (zb_204_32 ?_))))))))))))
  rw [T0]
end HY
