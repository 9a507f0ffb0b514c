/-! the numbers drawn in the reference -/
theorem zj64 : (2 : Nat) ^ 64 = 18446744073709551616 := by decide
theorem zj_div {a b : Int} (a0 : 0 ≤ a) (a1 : a < 9223372036854775808) (b0 : 0 < b) (b1 : b < 9223372036854775808) : zqdiv a b = a / b := by
  have ha : (Int64.ofInt a).toInt = a := Int64.toInt_ofInt_of_le (by show -9223372036854775808 ≤ a; omega) (by show a < 9223372036854775808; omega)
  have hb : (Int64.ofInt b).toInt = b := Int64.toInt_ofInt_of_le (by show -9223372036854775808 ≤ b; omega) (by show b < 9223372036854775808; omega)
  show (Int64.ofInt a / Int64.ofInt b).toInt = _
  rw [Int64.toInt_div, ha, hb, Int.tdiv_eq_ediv_of_nonneg a0]
  have h1 : a / b ≤ a := Int.ediv_le_self b a0
  have h2 : 0 ≤ a / b := Int.ediv_nonneg a0 (by omega)
  exact Int.bmod_eq_of_le (by show -(18446744073709551616 / 2 : Int) ≤ _; omega) (by show _ < ((18446744073709551616 + 1) / 2 : Int); omega)
theorem zj_rem {a b : Int} (a0 : 0 ≤ a) (a1 : a < 9223372036854775808) (b0 : 0 < b) (b1 : b < 9223372036854775808) : zqrem a b = a % b := by
  have ha : (Int64.ofInt a).toInt = a := Int64.toInt_ofInt_of_le (by show -9223372036854775808 ≤ a; omega) (by show a < 9223372036854775808; omega)
  have hb : (Int64.ofInt b).toInt = b := Int64.toInt_ofInt_of_le (by show -9223372036854775808 ≤ b; omega) (by show b < 9223372036854775808; omega)
  have hd : (Int64.ofInt a / Int64.ofInt b).toInt = a / b := zj_div a0 a1 b0 b1
  have e : a % b = a - a / b * b := by rw [Int.mul_comm]; exact Int.emod_def a b
  have h3 : 0 ≤ a % b := Int.emod_nonneg a (by omega)
  have h4 : a % b < b := Int.emod_lt_of_pos a b0
  show (Int64.ofInt a - Int64.ofInt a / Int64.ofInt b * Int64.ofInt b).toInt = _
  rw [Int64.toInt_sub, Int64.toInt_mul, ha, hb, hd]
  have h5 : (a - (a / b * b).bmod (2 ^ 64)).bmod (2 ^ 64) = (a - a / b * b).bmod (2 ^ 64) := Int.sub_bmod_bmod
  rw [h5, ← e]
  exact Int.bmod_eq_of_le (by show -(18446744073709551616 / 2 : Int) ≤ _; omega) (by show _ < ((18446744073709551616 + 1) / 2 : Int); omega)
/-- the number drawn last is one that a draw can leave -/
def zJee (σ : Int → Int) (F0 : Int) (z t : zS) : Prop := zJk σ F0 z t ∧ 0 ≤ t 344 31 ∧ t 344 31 < 2147483648
def zJf (σ : Int → Int) (F0 : Int) (z t : zS) : Prop := zJb σ F0 z t ∧ (0 ≤ t 344 22 ∧ t 344 22 < 2147483648) ∧ True
def zJhh (σ : Int → Int) (F0 : Int) (z t : zS) : Prop := zJb σ F0 z t ∧ 0 ≤ t 344 31 ∧ t 344 31 < 2147483648
section FE
variable {σ : Int → Int} {F0 : Int} {z t : zS} {F : Nat} {R : Int × zS} {n m : Nat} {U : (Int → Int) → Int}
theorem zJf_u (K : zJf σ F0 z t) : zJhh σ F0 z (zu t 344 31 (t 344 22)) := ⟨zJb_o K.1 (by decide), by rw [zu_hit]; exact K.2.1⟩
theorem zJo_207 (e0 : zG F xm_c207 0 [344, 0] [] t R) : R.2 344 = t 344 := by
  have loop : ∀ F : Nat, ∀ (x1 : Int) (s : zS) (R : Int × zS), zG F xm_c207 2 [344, x1] [] s R → R.2 344 = s 344 := by
    intro F
    induction F using Nat.strongRecOn with
    | _ F ih =>
      intro x1 s R e0
      obtain ⟨F1, l1, ⟨c1, e1⟩ | ⟨c1, e1⟩⟩ := zi_207_2 e0
      · obtain ⟨F2, l2, e2⟩ := zi_207_5 e1
        have h := ih _ (Nat.lt_trans l2 l1) _ _ _ e2
        exact h
      · have k := zi_207_15 e1
        subst k
        rfl
  obtain ⟨F1, l1, e1⟩ := zi_207_0 e0
  exact loop _ _ _ _ e1
theorem zJo_208 (e0 : zG F xm_c208 0 [344, 0] [] t R) : R.2 344 = t 344 := by
  have loop : ∀ F : Nat, ∀ (x1 : Int) (s : zS) (R : Int × zS), zG F xm_c208 2 [344, x1] [] s R → R.2 344 = s 344 := by
    intro F
    induction F using Nat.strongRecOn with
    | _ F ih =>
      intro x1 s R e0
      obtain ⟨F1, l1, ⟨c1, e1⟩ | ⟨c1, e1⟩⟩ := zi_208_2 e0
      · obtain ⟨F2, l2, e2⟩ := zi_208_5 e1
        have h := ih _ (Nat.lt_trans l2 l1) _ _ _ e2
        exact h
      · have k := zi_208_15 e1
        subst k
        rfl
  obtain ⟨F1, l1, e1⟩ := zi_208_0 e0
  exact loop _ _ _ _ e1
theorem zJe_207 (B : zJhh σ F0 z t) (q : zG F xm_c207 0 [344, 0] [] t R) : zJee σ F0 z R.2 ∧ R.2 354 = σ := by
  obtain ⟨a, b⟩ := zJ_207 B.1 q
  refine ⟨⟨a, ?_⟩, b⟩
  rw [zJo_207 q]
  exact B.2
theorem zJe_208 (K : zJee σ F0 z t) (q : zG F xm_c208 0 [344, 0] [] t R) : zJee σ F0 z R.2 ∧ R.2 354 = σ := by
  obtain ⟨a, b⟩ := zJ_208 K.1 q
  refine ⟨⟨a, ?_⟩, b⟩
  rw [zJo_208 q]
  exact K.2
theorem zJe_196 (g : zJg σ F0 z n m U) (K : zJee σ F0 z t) (q : zG F xm_c196 0 [344, 0, 0, 0] [] t R) : zJee σ F0 z R.2 := by
  refine ⟨zJ_196 g K.1 q, ?_⟩
  obtain ⟨g1, g2, g3, g4, g5⟩ := g
  obtain ⟨⟨a, ⟨b0, b1, b2⟩, c, d, e⟩, h⟩ := K
  obtain ⟨s', u1, u2, u3⟩ := zr_passes (s := t) (σ := t 354) (n := n) (m := m) (F := F0) (U := U) rfl (by rw [b1, g1]) g2 (by rw [b2, g3]) g4 d (fun h t' ws x1 x2 => g5 h t' ws (fun x a1 a2 => by rw [x1 x a1 a2, e x a1 a2]) x2)
  have e' := zG_A q u1
  subst e'
  show 0 ≤ s' 344 31 ∧ s' 344 31 < 2147483648
  rw [u3.2 31 (by decide) (by decide)]
  exact h
theorem zJ_232 {y : Int} (d0 : 0 ≤ t 344 31) (d1 : t 344 31 < 2147483648) (y0 : 0 < y) (y1 : y < 2147483648) (q : zG F xm_c232 0 [344, y] [] t R) : ∃ v, 0 ≤ v ∧ v < 2147483648 ∧ R.2 = zu t 344 31 v ∧ 0 ≤ R.1 ∧ R.1 < y := by
  have k := zi_232_0 q
  have e1 : zq (zq (t 344 31 * 1103515245) + 12345) = t 344 31 * 1103515245 + 12345 := by
    rw [zq_id (x := t 344 31 * 1103515245) (by omega) (by omega), zq_id (by omega) (by omega)]
  have e2 : zqrem (zq (zq (t 344 31 * 1103515245) + 12345)) 2147483648 = (t 344 31 * 1103515245 + 12345) % 2147483648 := by
    rw [e1]
    exact zj_rem (by omega) (by omega) (by decide) (by decide)
  rw [e2] at k
  have h0 : 0 ≤ (t 344 31 * 1103515245 + 12345) % 2147483648 := Int.emod_nonneg _ (by decide)
  have h1 : (t 344 31 * 1103515245 + 12345) % 2147483648 < 2147483648 := Int.emod_lt_of_pos _ (by decide)
  generalize (t 344 31 * 1103515245 + 12345) % 2147483648 = v at k h0 h1
  subst k
  refine ⟨v, h0, h1, rfl, ?_⟩
  show 0 ≤ zw (zqrem (zqdiv (zu t 344 31 v 344 31) 65536) y) ∧ zw (zqrem (zqdiv (zu t 344 31 v 344 31) 65536) y) < y
  rw [zu_hit, zj_div h0 (by omega) (by decide) (by decide)]
  have h2 : 0 ≤ v / 65536 := Int.ediv_nonneg h0 (by decide)
  rw [zj_rem h2 (by omega) y0 (by omega)]
  have h3 : 0 ≤ v / 65536 % y := Int.emod_nonneg _ (by omega)
  have h4 : v / 65536 % y < y := Int.emod_lt_of_pos _ y0
  rw [zw_id (by omega) (by omega)]
  exact ⟨h3, h4⟩
theorem zJe_233 (g : zJg σ F0 z n m U) (hf : σ 1 ≠ 0 → 0 < σ 0 ∧ σ 0 < 2147483648) (K : zJee σ F0 z t) (e0 : zG F xm_c233 0 [344, 0, 0] [] t R) : zJee σ F0 z R.2 := by
  obtain ⟨F1, l1, ⟨c1, e1⟩ | ⟨c1, e1⟩⟩ := zi_233_0 e0
  · have k := zi_233_5 e1
    subst k
    exact K
  · obtain ⟨F2, l2, r2, s2, q2, e2⟩ := zi_233_6 e1
    have c1 : ¬ t 354 1 = 0 := c1
    have t1 : t 354 1 = σ 1 := K.1.2.1.2.1
    have t0 : t 354 0 = σ 0 := K.1.2.1.1
    have g1 := g.1
    have g2 := g.2.1
    have y0 : 0 < t 354 1 := by rw [t1, g1] at c1 ⊢; omega
    have y1 : t 354 1 ≤ 7 := by rw [t1, g1]; omega
    obtain ⟨hf0, hf1⟩ := hf (by rw [← t1]; exact c1)
    obtain ⟨v, v0, v1, v2, v3, v4⟩ := zJ_232 (y := t 354 1) K.2.1 K.2.2 y0 (by omega) q2
    have v2 : s2 = zu t 344 31 v := v2
    have v3 : 0 ≤ r2 := v3
    have v4 : r2 < t 354 1 := v4
    have K2 : zJee σ F0 z s2 := ⟨by rw [v2]; exact zJk_o K.1 (by decide), by rw [v2, zu_hit]; exact ⟨v0, v1⟩⟩
    obtain ⟨F3, l3, r3, s3, q3, e3⟩ := zi_233_12 e2
    have s20 : s2 354 0 = σ 0 := K2.1.2.1.1
    obtain ⟨w, w0, w1, w2, w3, w4⟩ := zJ_232 (y := s2 354 0) K2.2.1 K2.2.2 (by rw [s20]; exact hf0) (by rw [s20]; exact hf1) q3
    have w2 : s3 = zu s2 344 31 w := w2
    have K3 : zJee σ F0 z s3 := ⟨by rw [w2]; exact zJk_o K2.1 (by decide), by rw [w2, zu_hit]; exact ⟨w0, w1⟩⟩
    obtain ⟨F4, l4, r4, s4, q4, e4⟩ := zi_233_19 e3
    have k4 : s4 = _ := zJ_180 q4
    subst k4
    obtain ⟨F5, l5, ⟨c5, e5⟩ | ⟨c5, e5⟩⟩ := zi_233_23 e4
    · have k := zi_233_34 e5
      subst k
      exact K3
    · obtain ⟨F6, l6, r6, s6, q6, e6⟩ := zi_233_24 e5
      have k6 : s6 = _ := zJ_178 q6
      subst k6
      obtain ⟨F7, l7, ⟨c7, e7⟩ | ⟨c7, e7⟩⟩ := zi_233_28 e6
      · have k := zi_233_34 e7
        subst k
        exact K3
      · obtain ⟨F8, l8, r8, s8, q8, e8⟩ := zi_233_30 e7
        have k := zi_233_34 e8
        subst k
        have a8 : zJk σ F0 z s8 := zJ_187 (R := (r8, s8)) K3.1 v3 (by omega) q8
        refine ⟨a8, ?_⟩
        have p0 : 0 ≤ r2 := v3
        have p6 : r2 ≤ 6 := by omega
        have e' := zG_A q8 (zb_187_0 (s1 := zu _ (344 + 10) (zw ((zw (10 + (zw (11 * r2)))) + 1)) _) (zr_per rfl p0 p6 (by decide) (by decide)) (zb_187_24 rfl))
        cases e'
        exact K3.2
end FE
