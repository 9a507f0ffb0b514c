/-! block answers alike -/
/-- what block answers -/
noncomputable def zblk (σ : Int → Int) (n m : Nat) (F : Int) (U : (Int → Int) → Int) (x y : Int) : Int := if 0 < σ 0 ∧ (1 ≤ x ∧ x ≤ 60) ∧ (0 ≤ y ∧ y ≤ 1) then (if y = 0 then (zbb σ n m F U x.toNat (σ 0).toNat).1 else (zbb σ n m F U x.toNat (σ 0).toNat).2) else -1
section MB3
variable {bB : Int} {σ : Int → Int} {n m : Nat} {F : Int} {U : (Int → Int) → Int} {s t : zS} {x y : Int}
theorem zo_either : zE xm_c122 [x] s (if 0 ≤ x ∧ x ≤ 1 then 1 else 0) s := by
  by_cases c : 0 ≤ x ∧ x ≤ 1
  · rw [if_pos c]
    exact zb_122_0 (fun _ => zb_122_5 rfl) (fun q => zb_122_2 (fun _ => zb_122_5 rfl) (fun q2 => absurd (show x = 0 ∨ x = 1 by omega) (fun w => w.elim q q2)))
  · rw [if_neg c]
    exact zb_122_0 (fun q => absurd ⟨by omega, by omega⟩ c) (fun _ => zb_122_2 (fun q => absurd ⟨by omega, by omega⟩ c) (fun _ => zb_122_7 rfl))
theorem zB_121 {G : Nat} {R : Int × zS} (e0 : zG G xm_c121 0 [x] [] s R) : R = (if 1 ≤ x ∧ x ≤ 60 then 1 else 0, s) := by
  obtain ⟨F1, l1, ⟨c1, e1⟩ | ⟨c1, e1⟩⟩ := zi_121_0 e0
  · rw [zi_121_8 e1, if_neg (fun q => absurd q.1 (Int.not_le.mpr c1))]
  · obtain ⟨F2, l2, ⟨c2, e2⟩ | ⟨c2, e2⟩⟩ := zi_121_3 e1
    · rw [zi_121_8 e2, if_neg (fun q => absurd q.2 (Int.not_le.mpr c2))]
    · rw [zi_121_6 e2, if_pos ⟨Int.not_lt.mp c1, Int.not_lt.mp c2⟩]
theorem zB_109 {G : Nat} {R : Int × zS} (hD : zgD bB s n m) (hC : -1 ≤ s 10 6 ∧ s 10 6 < s 7 8) (uC : ∀ z : zS, (∀ x, 240 ≤ x → x ≤ 263 → z x = s x) → z 237 1 = (if s 10 6 < 0 then -1 else 240 + 4 * s 10 6) → zRc z (s 10 6) U) (h : bB + 100 ≤ 999) (e0 : zG G xm_c109 0 [7, x, y, 0] [] s R) : R.1 = zblk (s 354) n m (s 10 6) U x y := by
  have h0 : s 11 0 = s 354 0 := hD.1.1.1.1
  unfold zblk
  obtain ⟨F1, l1, r1, s1, q1, e1⟩ := zi_109_0 e0
  obtain ⟨rfl, rfl⟩ := zdet q1 (zo_stands (h := 11))
  rw [h0] at e1
  by_cases c0 : 0 < s 354 0
  case neg =>
    rw [if_neg c0] at e1
    rw [if_neg (fun q => c0 q.1)]
    obtain ⟨F2, l2, ⟨c2, e2⟩ | ⟨c2, e2⟩⟩ := zi_109_4 e1
    · rw [zi_109_11 e2]
    · exact absurd rfl c2
  rw [if_pos c0] at e1
  obtain ⟨F2, l2, ⟨c2, e2⟩ | ⟨c2, e2⟩⟩ := zi_109_4 e1
  · exact absurd c2 (by decide)
  obtain ⟨F3, l3, r3, s3, q3, e3⟩ := zi_109_5 e2
  have k3 := zB_121 q3
  injection k3 with k31 k32
  subst k31
  have k33 := k32.symm
  subst k33
  by_cases c1 : 1 ≤ x ∧ x ≤ 60
  case neg =>
    rw [if_neg c1] at e3
    rw [if_neg (fun q => c1 q.2.1)]
    obtain ⟨F4, l4, ⟨c4, e4⟩ | ⟨c4, e4⟩⟩ := zi_109_7 e3
    · rw [zi_109_11 e4]
    · exact absurd rfl c4
  rw [if_pos c1] at e3
  obtain ⟨F4, l4, ⟨c4, e4⟩ | ⟨c4, e4⟩⟩ := zi_109_7 e3
  · exact absurd c4 (by decide)
  obtain ⟨F5, l5, r5, s5, q5, e5⟩ := zi_109_8 e4
  obtain ⟨rfl, rfl⟩ := zdet q5 zo_either
  by_cases cy : 0 ≤ y ∧ y ≤ 1
  case neg =>
    rw [if_neg cy] at e5
    rw [if_neg (fun q => cy q.2.2)]
    obtain ⟨F6, l6, ⟨c6, e6⟩ | ⟨c6, e6⟩⟩ := zi_109_10 e5
    · rw [zi_109_11 e6]
    · exact absurd rfl c6
  rw [if_pos cy] at e5
  rw [if_pos ⟨c0, c1, cy⟩]
  obtain ⟨F6, l6, ⟨c6, e6⟩ | ⟨c6, e6⟩⟩ := zi_109_10 e5
  · exact absurd c6 (by decide)
  obtain ⟨K, rfl⟩ := Int.eq_ofNat_of_zero_le (Int.le_trans (by decide) c1.1)
  obtain ⟨fl, hfl⟩ := Int.eq_ofNat_of_zero_le (Int.le_of_lt c0)
  have hK : K ≤ 100 := by
    have := c1.2
    clear e0 q1 e1 e2 e3 e4 e5 e6 q3 q5 uC
    omega
  obtain ⟨F7, l7, r7, s7, q7, e7⟩ := zi_109_13 e6
  obtain ⟨rfl, rfl⟩ := zdet q7 (zo_rif hC.1 hC.2)
  obtain ⟨F8, l8, r8, s8, q8, e8⟩ := zi_109_17 e7
  obtain ⟨F9, l9, r9, s9, q9, e9⟩ := zi_109_18 e8
  obtain ⟨k1, k2⟩ := zB_54 hD uC hK h q8 q9 hfl
  have k1 : r9 = (zbb (s 354) n m (s 10 6) U K fl).1 := k1
  have k2 : r9 ≠ -2 → s9 224 12 = (zbb (s 354) n m (s 10 6) U K fl).2 := k2
  rw [hfl, Int.toNat_natCast, Int.toNat_natCast]
  obtain ⟨F10, l10, ⟨c10, e10⟩ | ⟨c10, e10⟩⟩ := zi_109_22 e9
  · rw [zi_109_28 e10]
    show r9 = _
    have z1 : (zbb (s 354) n m (s 10 6) U K fl).1 = -2 := k1.symm.trans c10
    rw [zbb_b fl z1, z1, c10]
    by_cases c : y = 0
    · rw [if_pos c]
    · rw [if_neg c]
  · obtain ⟨F11, l11, ⟨c11, e11⟩ | ⟨c11, e11⟩⟩ := zi_109_26 e10
    · rw [zi_109_28 e11, if_pos c11]
      exact k1
    · rw [zi_109_30 e11, if_neg c11]
      exact k2 c10
theorem zB_225 {G : Nat} {R : Int × zS} {z : zS} (hG : zGs bB σ n m) (h : bB + 100 ≤ 999) (hU : ¬ F < 0 → zRu z F U) (hB : zJb σ F z t) (e0 : zG G xm_c225 0 [344, x, y, 0, 0, 0, 0] [] t R) : R.1 = zblk σ n m F U x y := by
  have gn : σ 1 = ((n : Nat) : Int) := hG.1.1
  have h7 := hG.1.2.1
  have g9 : σ 0 ≤ 9 := hG.1.2.2.2.2.2.1
  have g : zJg σ F z n m U := ⟨hG.1.1, h7, hG.1.2.2.1, hG.1.2.2.2.1, hU⟩
  have a := hB.1
  unfold zblk
  obtain ⟨F1, l1, r1, s1, q1, e1⟩ := zi_225_0 e0
  obtain ⟨rfl, rfl⟩ := zdet q1 zq_house
  rw [a] at e1
  by_cases c0 : 0 < σ 0
  case neg =>
    rw [if_neg c0] at e1
    rw [if_neg (fun q => c0 q.1)]
    obtain ⟨F2, l2, ⟨c2, e2⟩ | ⟨c2, e2⟩⟩ := zi_225_2 e1
    · rw [zi_225_15 e2]
    · exact absurd rfl c2
  rw [if_pos c0] at e1
  obtain ⟨F2, l2, ⟨c2, e2⟩ | ⟨c2, e2⟩⟩ := zi_225_2 e1
  · exact absurd c2 (by decide)
  obtain ⟨F3, l3, r3, s3, q3, e3⟩ := zi_225_3 e2
  obtain ⟨rfl, rfl⟩ := zdet q3 (zr_in2 (lo := 1) (hi := 60))
  by_cases c1 : 1 ≤ x ∧ x ≤ 60
  case neg =>
    rw [if_neg c1] at e3
    rw [if_neg (fun q => c1 q.2.1)]
    obtain ⟨F4, l4, ⟨c4, e4⟩ | ⟨c4, e4⟩⟩ := zi_225_8 e3
    · rw [zi_225_15 e4]
    · exact absurd rfl c4
  rw [if_pos c1] at e3
  obtain ⟨F4, l4, ⟨c4, e4⟩ | ⟨c4, e4⟩⟩ := zi_225_8 e3
  · exact absurd c4 (by decide)
  obtain ⟨F5, l5, r5, s5, q5, e5⟩ := zi_225_9 e4
  obtain ⟨rfl, rfl⟩ := zdet q5 (zr_in2 (lo := 0) (hi := 1))
  by_cases cy : 0 ≤ y ∧ y ≤ 1
  case neg =>
    rw [if_neg cy] at e5
    rw [if_neg (fun q => cy q.2.2)]
    obtain ⟨F6, l6, ⟨c6, e6⟩ | ⟨c6, e6⟩⟩ := zi_225_14 e5
    · rw [zi_225_15 e6]
    · exact absurd rfl c6
  rw [if_pos cy] at e5
  rw [if_pos ⟨c0, c1, cy⟩]
  obtain ⟨F6, l6, ⟨c6, e6⟩ | ⟨c6, e6⟩⟩ := zi_225_14 e5
  · exact absurd c6 (by decide)
  obtain ⟨K, rfl⟩ := Int.eq_ofNat_of_zero_le (Int.le_trans (by decide) c1.1)
  obtain ⟨fl, hfl⟩ := Int.eq_ofNat_of_zero_le (Int.le_of_lt c0)
  have hK : K ≤ 100 := by
    have := c1.2
    clear e0 q1 e1 e2 e3 e4 e5 e6 q3 q5 hU g
    omega
  have hK9 : bB + ((K : Nat) : Int) ≤ 999 := by
    clear e0 q1 e1 e2 e3 e4 e5 e6 q3 q5 hU g
    omega
  rw [hfl, Int.toNat_natCast, Int.toNat_natCast]
  obtain ⟨F7, l7, r7, s7, q7, e7⟩ := zi_225_17 e6
  obtain ⟨j1, j2⟩ := zJ_207 hB q7
  obtain ⟨F8, l8, e8⟩ := zi_225_23 e7
  have loop : ∀ (G f : Nat) (u : zS) (R : Int × zS) (x6 : Int), f ≤ fl → zG G xm_c225 25 [344, ((K : Nat) : Int), y, (zbb σ n m F U K f).1, (zbb σ n m F U K f).2, ((f : Nat) : Int), x6] [] u R → zJk σ F z u → u 354 = σ → R.1 = if y = 0 then (zbb σ n m F U K fl).1 else (zbb σ n m F U K fl).2 := by
    intro G
    induction G using Nat.strongRecOn with
    | _ G ih =>
      intro f u R x6 hf e0 K0 a
      obtain ⟨F1, l1, ⟨c1, e1⟩ | ⟨c1, e1⟩⟩ := zi_225_25 e0
      · have c1 : ((f : Nat) : Int) < u 354 0 := c1
        have fL : f < fl := by
          rw [a, hfl] at c1
          exact Int.ofNat_lt.mp c1
        have f9 : f < 16 := by
          rw [hfl] at g9
          clear ih c1 hU g e0 e1
          omega
        have en : zw (((f : Nat) : Int) + 1) = ((f + 1 : Nat) : Int) := by
          clear ih c1 hU g e0 e1
          exact zw_id (by omega) (by omega)
        obtain ⟨F2, l2, r2, s2, q2, e2⟩ := zi_225_31 e1
        obtain ⟨rfl, rfl⟩ := zdet q2 zq_is
        have ea : u (344 + 10) 8 = σ 8 := by
          show u 354 8 = _
          rw [a]
        rw [ea] at e2
        by_cases cp : zbt (σ 8) ((f : Nat) : Int) = 1
        · rw [if_pos cp] at e2
          have eS : zbb σ n m F U K (f + 1) = zbb σ n m F U K f := if_pos cp
          obtain ⟨F3, l3, ⟨c3, e3⟩ | ⟨c3, e3⟩⟩ := zi_225_37 e2
          · exact absurd c3 (by decide)
          · obtain ⟨F4, l4, e4⟩ := zi_225_38 e3
            rw [en, ← eS] at e4
            exact ih F4 (Nat.lt_trans l4 (Nat.lt_trans l3 (Nat.lt_trans l2 l1))) (f + 1) u R x6 fL e4 K0 a
        · rw [if_neg cp] at e2
          obtain ⟨F3, l3, w3⟩ := zi_225_37 e2
          have e3 := (w3.resolve_right (fun q => q.1 rfl)).2
          obtain ⟨F4, l4, r4, s4, q4, e4⟩ := zi_225_39 e3
          rw [ea] at q4
          have K1 := zJk_u (v := zor (σ 8) (zshl 1 ((f : Nat) : Int))) K0 (i := 8) (by decide) (by decide)
          have K2 : zJk σ F z s4 := zJ_209 g K1 q4
          obtain ⟨b1, b2, b3⟩ := zB_209 (σ := zbp σ ((f : Nat) : Int)) (zbp_G hG) hK9 hU q4 (funext (fun k => by
            show zu u 354 8 _ 354 k = _
            rw [zu2, a]
            rfl)) K1.2.2.2.1 K1.2.2.2.2
          have b1 : s4 354 = zPn (zbp σ ((f : Nat) : Int)) n m F U K := b1
          obtain ⟨F5, l5, r5, s5, q5, e5⟩ := zi_225_52 e4
          obtain ⟨rfl, rfl⟩ := zdet q5 (zr_knowing b1 ((zPn_st h7 K 1 (Or.inl (by unfold zst; omega))).trans gn) h7)
          obtain ⟨F6, l6, r6, s6, q6, e6⟩ := zi_225_54 e5
          have hr := zfo_r (P := zkn (zPn (zbp σ ((f : Nat) : Int)) n m F U K)) n h7
          obtain ⟨rfl, rfl⟩ := zdet q6 (zq_bits hr.1 hr.2)
          obtain ⟨F7, l7, r7, s7, q7, e7⟩ := zi_225_55 e6
          obtain ⟨K3, a3⟩ := zJ_208 K2 q7
          have lt7 : F7 < G := Nat.lt_trans l7 (Nat.lt_trans l6 (Nat.lt_trans l5 (Nat.lt_trans l4 (Nat.lt_trans l3 (Nat.lt_trans l2 l1)))))
          have put : ∀ (F9 : Nat), F9 < G → ((zbb σ n m F U K f).1 < 0 ∨ zbq σ n m F U K ((f : Nat) : Int) < (zbb σ n m F U K f).2) → zG F9 xm_c225 25 [344, ((K : Nat) : Int), y, ((f : Nat) : Int), zbq σ n m F U K ((f : Nat) : Int), ((f + 1 : Nat) : Int), zbq σ n m F U K ((f : Nat) : Int)] [] s7 R → R.1 = if y = 0 then (zbb σ n m F U K fl).1 else (zbb σ n m F U K fl).2 := fun F9 l9 c e9 => by
            have eS : zbb σ n m F U K (f + 1) = (((f : Nat) : Int), zbq σ n m F U K ((f : Nat) : Int)) := (if_neg cp).trans (if_pos c)
            exact ih F9 l9 (f + 1) s7 R _ fL (by rw [eS]; exact e9) K3 a3
          obtain ⟨F8, l8, ⟨c8, e8⟩ | ⟨c8, e8⟩⟩ := zi_225_58 e7
          · obtain ⟨F9, l9, e9⟩ := zi_225_64 e8
            rw [en] at e9
            exact put F9 (Nat.lt_trans l9 (Nat.lt_trans l8 lt7)) (Or.inl c8) e9
          · obtain ⟨F9, l9, ⟨c9, e9⟩ | ⟨c9, e9⟩⟩ := zi_225_60 e8
            · obtain ⟨F10, l10, e10⟩ := zi_225_64 e9
              rw [en] at e10
              exact put F10 (Nat.lt_trans l10 (Nat.lt_trans l9 (Nat.lt_trans l8 lt7))) (Or.inr c9) e10
            · obtain ⟨F10, l10, e10⟩ := zi_225_63 e9
              rw [en] at e10
              have eS : zbb σ n m F U K (f + 1) = zbb σ n m F U K f := (if_neg cp).trans (if_neg (fun q => q.elim c8 c9))
              rw [← eS] at e10
              exact ih F10 (Nat.lt_trans l10 (Nat.lt_trans l9 (Nat.lt_trans l8 lt7))) (f + 1) s7 R _ fL e10 K3 a3
      · have c1 : ¬ ((f : Nat) : Int) < u 354 0 := c1
        have fL : f = fl := by
          rw [a, hfl] at c1
          exact Nat.le_antisymm hf (Nat.not_lt.mp (fun q => c1 (Int.ofNat_lt.mpr q)))
        subst fL
        obtain ⟨F2, l2, ⟨c2, e2⟩ | ⟨c2, e2⟩⟩ := zi_225_70 e1
        · rw [zi_225_72 e2, if_pos c2]
        · rw [zi_225_74 e2, if_neg c2]
  exact loop F8 0 s7 R 0 (Nat.zero_le fl) e8 j1 j2
/-- block answers alike -/
theorem zB_block {s1 s2 : zS} {q1 q2 : Int} (H : zRZ bB s) (h6 : s 7 8 ≤ 6) (h : bB + 100 ≤ 999) (e1 : zE xm_c109 [7, x, y, 0] s q1 s1) (e2 : zE xm_c225 [344, x, y, 0, 0, 0, 0] s1 q2 s2) : q1 = q2 := by
  obtain ⟨G1, f1⟩ := e1
  obtain ⟨G2, f2⟩ := e2
  have hq : zQf s s1 := zQ_109 f1
  obtain ⟨U, uC, uM⟩ := zUw H.2.1 h6 H.2.2.1
  obtain ⟨n, m, hD, -⟩ := H.2.2.2.1
  have c1 := H.2.2.1.1
  have a : q1 = zblk (s 354) n m (s 10 6) U x y := zB_109 hD H.2.2.1.2.1 uC h f1
  have o : ∀ x, x < 224 ∨ 240 ≤ x → s1 x = s x := fun x hx => hq x (by omega)
  have b : q2 = zblk (s 354) n m (s 10 6) U x y := zB_225 (z := s1) (t := s1) hD.2.1 h (fun q => uM q s1 (fun x x1 x2 => o x (by omega))) ⟨by rw [o 354 (by omega)], by rw [o 344 (by omega), c1], fun _ _ _ => rfl⟩ f2
  rw [a, b]
end MB3
