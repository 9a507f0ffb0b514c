/-! the read-only answers, on both sides: floor -/
section LS
variable {bB : Int}
variable {s : zS} {x y : Int}
theorem zA_onF {n : Nat} (h7 : n ≤ 7) (gn : s 354 1 = ((n : Nat) : Int)) (fp : ∀ p : Nat, p < n → s (19 + 1) ((p : Nat) : Int) = s 354 (10 + 11 * ((p : Nat) : Int) + 0)) : ∀ (k i : Nat) (v0 : Int), i + k = n → ∃ v, zA xm_c7 4 [19, x, ((n : Nat) : Int), v0, ((i : Nat) : Int)] [] s (v, s) ∧ zA xm_c186 29 [344, x, 0, v0, ((i : Nat) : Int)] [] s (v, s) := by
  intro k
  induction k with
  | zero =>
    intro i v0 hi
    have gn' : s (344 + 10) 1 = ((n : Nat) : Int) := gn
    exact ⟨v0, zb_7_4 (fun q => absurd q (by omega)) (fun _ => zb_7_23 rfl), zb_186_29 (fun q => absurd q (by rw [gn']; omega)) (fun _ => zb_186_51 rfl)⟩
  | succ k ih =>
    intro i v0 hi
    have e1 : zw (((i : Nat) : Int) + 1) = ((i + 1 : Nat) : Int) := zw_id (by omega) (by omega)
    have f := fp i (by omega)
    have gn' : s (344 + 10) 1 = ((n : Nat) : Int) := gn
    by_cases c : s (19 + 1) ((i : Nat) : Int) = x
    · obtain ⟨v, a, b⟩ := ih (i + 1) (zor v0 (zshl 1 ((i : Nat) : Int))) (by omega)
      exact ⟨v, zb_7_4 (fun _ => zb_7_7 (fun _ => zb_7_14 (by rw [e1]; exact a)) (fun q => absurd c q)) (fun q => absurd (show ((i : Nat) : Int) < ((n : Nat) : Int) by omega) q), zb_186_29 (fun _ => zb_186_35 (zr_at (Int.natCast_nonneg i) (by omega) (by decide) (by decide)) (zb_186_40 (fun _ => zb_186_42 (by rw [e1]; exact b)) (fun q => absurd (by rw [← f]; exact c) q))) (fun q => absurd (by rw [gn']; omega) q)⟩
    · obtain ⟨v, a, b⟩ := ih (i + 1) (zor v0 0) (by omega)
      exact ⟨v, zb_7_4 (fun _ => zb_7_7 (fun q => absurd q c) (fun _ => zb_7_18 (by rw [e1]; exact a))) (fun q => absurd (show ((i : Nat) : Int) < ((n : Nat) : Int) by omega) q), zb_186_29 (fun _ => zb_186_35 (zr_at (Int.natCast_nonneg i) (by omega) (by decide) (by decide)) (zb_186_40 (fun q => absurd (by rw [f]; exact q) c) (fun _ => zb_186_46 (by rw [e1]; exact b)))) (fun q => absurd (by rw [gn']; omega) q)⟩
theorem zA_floor (H : zRZ bB s) : ∃ r s1 s2, zE xm_c95 [7, x, y] s r s1 ∧ zE xm_c186 [344, x, y, 0, 0] s1 r s2 ∧ zRZ bB s2 := by
  obtain ⟨n, m, ⟨⟨⟨⟨h0, h1, -, -, h6, -⟩, -, -⟩, ⟨-, f1, fp⟩, -⟩, g, -⟩, -⟩ := H.2.2.2.1
  have h0 : s 11 0 = s 354 0 := h0
  have h1 : s 11 1 = s 354 1 := h1
  have h6 : s 11 6 = s 354 9 := h6
  have f1 : s 19 1 = s 354 8 := f1
  have n7 := g.1.2.1
  have gn : s 354 1 = ((n : Nat) : Int) := g.1.1
  by_cases c0 : 0 ≤ x ∧ x < s 354 0
  case neg =>
    exact zRZ_r H (r := -1) (zb_95_0 zo_hasF (zb_95_5 (fun _ => zb_95_6 rfl) (fun q => absurd (z01' (by rw [show s (7 + 3 + 1) 0 = s 354 0 from h0]; exact c0)) q))) (zb_186_0 zq_isF (zb_186_3 (fun _ => zb_186_10 rfl) (fun q => absurd (z01' c0) q)))
  have cA : ∀ R, zA xm_c95 8 [7, x, y] [] s R → zA xm_c95 0 [7, x, y] [] s R := fun R z => zb_95_0 zo_hasF (zb_95_5 (fun q => absurd q (z10 (by rw [show s (7 + 3 + 1) 0 = s 354 0 from h0]; exact c0))) (fun _ => z))
  have cM : ∀ R, zA xm_c186 9 [344, x, y, 0, 0] [(false, if 0 ≤ y ∧ y ≤ 2 then 1 else 0)] s R → zA xm_c186 0 [344, x, y, 0, 0] [] s R := fun R z => zb_186_0 zq_isF (zb_186_3 (fun q => absurd q (z10 c0)) (fun _ => zb_186_4 (zr_in2 (lo := 0) (hi := 2)) z))
  by_cases c1 : 0 ≤ y ∧ y ≤ 2
  case neg =>
    rw [if_neg c1] at cM
    exact zRZ_r H (r := -1) (cA _ (zb_95_8 (zb_95_9_d (by omega) (zb_95_34 rfl)))) (cM _ (zb_186_9 (fun _ => zb_186_10 rfl) (fun q => absurd rfl q)))
  rw [if_pos c1] at cM
  have cM : ∀ R, zA xm_c186 12 [344, x, y, 0, 0] [] s R → zA xm_c186 0 [344, x, y, 0, 0] [] s R := fun R z => cM R (zb_186_9 (fun q => absurd q (by decide)) (fun _ => z))
  rcases (show y = 0 ∨ y = 1 ∨ y = 2 by omega) with rfl | rfl | rfl
  · obtain ⟨v, a, b⟩ := zA_onF (x := x) n7 gn (fun p hp => (fp p hp).1) n 0 0 (Nat.zero_add n)
    have e1 : s (7 + 3 + 1) 1 = ((n : Nat) : Int) := h1.trans gn
    exact zRZ_r H (r := v) (cA _ (zb_95_8 (zb_95_9_c0 rfl (zb_95_10 (by rw [e1]; exact zb_7_0 a) (zb_95_19 rfl))))) (cM _ (zb_186_12 (fun q => absurd q (by decide)) (fun _ => zb_186_25 b)))
  · refine zRZ_r H (r := zbt (s 354 8) x) (cA _ (zb_95_8 (zb_95_9_c1 rfl (zb_95_20 (zb_120_0 rfl) (zb_95_26 ?_))))) (cM _ (zb_186_12 (fun _ => zb_186_14 rfl) (fun q => absurd (show (0 : Int) < 1 by decide) q)))
    rw [show s (7 + 3 + 9) 1 = s 354 8 from f1]
    rfl
  · refine zRZ_r H (r := zbt (s 354 9) x) (cA _ (zb_95_8 (zb_95_9_c2 rfl (zb_95_27 (zb_120_0 rfl) (zb_95_33 ?_))))) (cM _ (zb_186_12 (fun _ => zb_186_14 rfl) (fun q => absurd (show (0 : Int) < 2 by decide) q)))
    rw [show s (7 + 3 + 1) 6 = s 354 9 from h6]
    rfl
end LS
