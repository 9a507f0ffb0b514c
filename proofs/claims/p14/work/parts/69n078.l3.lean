/-! the read-only answers, on both sides: person, knows -/
section LR
variable {bB : Int}
variable {s : zS} {x y : Int}
theorem zr_at {j : Int} (x0 : 0 ≤ x) (x7 : x < 7) (j0 : 0 ≤ j) (j1 : j ≤ 10) : zE xm_c178 [344, x, j] s (s 354 (10 + 11 * x + j)) s := zb_178_0 (by
  rw [zw_id (x := 11 * x) (by omega) (by omega), zw_id (x := 10 + 11 * x) (by omega) (by omega), zw_id (x := 10 + 11 * x + j) (by omega) (by omega)]
  rfl)
theorem zA_person (H : zRZ bB s) : ∃ r s1 s2, zE xm_c93 [7, x, y] s r s1 ∧ zE xm_c184 [344, x, y] s1 r s2 ∧ zRZ bB s2 := by
  obtain ⟨n, m, ⟨⟨⟨⟨-, h1, -⟩, hp, -⟩, ⟨-, -, fp⟩, -⟩, g, -⟩, -⟩ := H.2.2.2.1
  have h1 : s 11 1 = s 354 1 := h1
  have n7 := g.1.2.1
  have gn : s 354 1 = ((n : Nat) : Int) := g.1.1
  by_cases c0 : 0 ≤ x ∧ x < s 354 1
  case neg =>
    exact zRZ_r H (r := -1000) (zb_93_0 zo_hasP (zb_93_5 (fun _ => zb_93_6 rfl) (fun q => absurd (z01' (by rw [show s (7 + 3 + 1) 1 = s 354 1 from h1]; exact c0)) q))) (zb_184_0 zq_isP (zb_184_3 (fun _ => zb_184_15 rfl) (fun q => absurd (z01' c0) q)))
  have cA : ∀ R, zA xm_c93 8 [7, x, y] [] s R → zA xm_c93 0 [7, x, y] [] s R := fun R z => zb_93_0 zo_hasP (zb_93_5 (fun q => absurd q (z10 (by rw [show s (7 + 3 + 1) 1 = s 354 1 from h1]; exact c0))) (fun _ => z))
  have cM : ∀ R, zA xm_c184 9 [344, x, y] [(false, if 0 ≤ y ∧ y ≤ 7 then 1 else 0)] s R → zA xm_c184 0 [344, x, y] [] s R := fun R z => zb_184_0 zq_isP (zb_184_3 (fun q => absurd q (z10 c0)) (fun _ => zb_184_4 (zr_in2 (lo := 0) (hi := 7)) z))
  by_cases c1 : 0 ≤ y ∧ y ≤ 7
  case neg =>
    rw [if_neg c1] at cM
    exact zRZ_r H (r := -1000) (cA _ (zb_93_8 (zb_93_9_d (by omega) (zb_93_66 rfl)))) (cM _ (zb_184_9 (fun _ => zb_184_15 rfl) (fun q => absurd rfl q)))
  rw [if_pos c1] at cM
  obtain ⟨p, rfl⟩ := Int.eq_ofNat_of_zero_le c0.1
  have hpn : p < n := by omega
  obtain ⟨a4, -, a5, a7, a6⟩ := hp p hpn
  obtain ⟨b0, b1, b2, b3⟩ := fp p hpn
  have mm : zE xm_c184 [344, ((p : Nat) : Int), y] s (s 354 (10 + 11 * ((p : Nat) : Int) + y)) s := cM _ (zb_184_9 (fun q => absurd q (by decide)) (fun _ => zb_184_10 (zr_at (by omega) (by omega) c1.1 (by omega)) (zb_184_14 rfl)))
  have fin : ∀ v, zE xm_c93 [7, ((p : Nat) : Int), y] s v s → v = s 354 (10 + 11 * ((p : Nat) : Int) + y) → ∃ r s1 s2, zE xm_c93 [7, ((p : Nat) : Int), y] s r s1 ∧ zE xm_c184 [344, ((p : Nat) : Int), y] s1 r s2 ∧ zRZ bB s2 := fun v z e => zRZ_r H z (e ▸ mm)
  rcases (show y = 0 ∨ y = 1 ∨ y = 2 ∨ y = 3 ∨ y = 4 ∨ y = 5 ∨ y = 6 ∨ y = 7 by omega) with rfl | rfl | rfl | rfl | rfl | rfl | rfl | rfl
  · exact fin _ (cA _ (zb_93_8 (zb_93_9_c0 rfl (zb_93_10 rfl)))) b0
  · exact fin _ (cA _ (zb_93_8 (zb_93_9_c1 rfl (zb_93_17 rfl)))) b1
  · exact fin _ (cA _ (zb_93_8 (zb_93_9_c2 rfl (zb_93_24 rfl)))) b2
  · exact fin _ (cA _ (zb_93_8 (zb_93_9_c3 rfl (zb_93_31 rfl)))) b3
  · exact fin _ (cA _ (zb_93_8 (zb_93_9_c4 rfl (zb_93_38 rfl)))) a4
  · exact fin _ (cA _ (zb_93_8 (zb_93_9_c5 rfl (zb_93_45 rfl)))) a5
  · exact fin _ (cA _ (zb_93_8 (zb_93_9_c6 rfl (zb_93_52 (zb_120_0 rfl) (zb_93_58 rfl))))) a6
  · exact fin _ (cA _ (zb_93_8 (zb_93_9_c7 rfl (zb_93_59 rfl)))) a7
theorem zA_knows (H : zRZ bB s) : ∃ r s1 s2, zE xm_c94 [7, x, y] s r s1 ∧ zE xm_c185 [344, x, y] s1 r s2 ∧ zRZ bB s2 := by
  obtain ⟨n, m, ⟨⟨⟨⟨-, h1, -⟩, -, -⟩, -, ⟨-, lp⟩, -⟩, g, -⟩, -⟩ := H.2.2.2.1
  have h1 : s 11 1 = s 354 1 := h1
  have n7 := g.1.2.1
  have gn : s 354 1 = ((n : Nat) : Int) := g.1.1
  by_cases c0 : 0 ≤ x ∧ x < s 354 1
  case neg =>
    exact zRZ_r H (r := -1000) (zb_94_0 zo_hasP (zb_94_5 (fun _ => zb_94_6 rfl) (fun q => absurd (z01' (by rw [show s (7 + 3 + 1) 1 = s 354 1 from h1]; exact c0)) q))) (zb_185_0 zq_isP (zb_185_3 (fun _ => zb_185_17 rfl) (fun q => absurd (z01' c0) q)))
  have cA : ∀ R, zA xm_c94 8 [7, x, y] [] s R → zA xm_c94 0 [7, x, y] [] s R := fun R z => zb_94_0 zo_hasP (zb_94_5 (fun q => absurd q (z10 (by rw [show s (7 + 3 + 1) 1 = s 354 1 from h1]; exact c0))) (fun _ => z))
  have cM : ∀ R, zA xm_c185 9 [344, x, y] [(false, if 0 ≤ y ∧ y ≤ 2 then 1 else 0)] s R → zA xm_c185 0 [344, x, y] [] s R := fun R z => zb_185_0 zq_isP (zb_185_3 (fun q => absurd q (z10 c0)) (fun _ => zb_185_4 (zr_in2 (lo := 0) (hi := 2)) z))
  by_cases c1 : 0 ≤ y ∧ y ≤ 2
  case neg =>
    rw [if_neg c1] at cM
    exact zRZ_r H (r := -1000) (cA _ (zb_94_8 (zb_94_9_d (by omega) (zb_94_31 rfl)))) (cM _ (zb_185_9 (fun _ => zb_185_17 rfl) (fun q => absurd rfl q)))
  rw [if_pos c1] at cM
  obtain ⟨p, rfl⟩ := Int.eq_ofNat_of_zero_le c0.1
  have hpn : p < n := by omega
  obtain ⟨b0, b1, b2⟩ := lp p hpn
  have e8 : zw (8 + y) = 8 + y := zw_id (by omega) (by omega)
  have mm : zE xm_c185 [344, ((p : Nat) : Int), y] s (s 354 (10 + 11 * ((p : Nat) : Int) + (8 + y))) s := cM _ (zb_185_9 (fun q => absurd q (by decide)) (fun _ => zb_185_10 (by rw [e8]; exact zr_at (by omega) (by omega) (by omega) (by omega)) (zb_185_16 rfl)))
  have fin : ∀ v, zE xm_c94 [7, ((p : Nat) : Int), y] s v s → v = s 354 (10 + 11 * ((p : Nat) : Int) + (8 + y)) → ∃ r s1 s2, zE xm_c94 [7, ((p : Nat) : Int), y] s r s1 ∧ zE xm_c185 [344, ((p : Nat) : Int), y] s1 r s2 ∧ zRZ bB s2 := fun v z e => zRZ_r H z (e ▸ mm)
  rcases (show y = 0 ∨ y = 1 ∨ y = 2 by omega) with rfl | rfl | rfl
  · exact fin _ (cA _ (zb_94_8 (zb_94_9_c0 rfl (zb_94_10 rfl)))) b0
  · exact fin _ (cA _ (zb_94_8 (zb_94_9_c1 rfl (zb_94_17 rfl)))) b1
  · exact fin _ (cA _ (zb_94_8 (zb_94_9_c2 rfl (zb_94_24 rfl)))) b2
end LR
