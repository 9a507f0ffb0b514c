/-! starts answers alike -/
section NH
variable {bB : Int} {s : zS} {y : Int}
theorem zB_starts {s1 s2 : zS} {q1 q2 : Int} (H : zRZ bB s) (h6 : s 7 8 ≤ 6) (h : bB + 100 ≤ 999) (e1 : zE xm_c107 [7, y] s q1 s1) (e2 : zE xm_c222 [344, y] s1 q2 s2) : q1 = q2 := by
  obtain ⟨G1, f1⟩ := e1
  obtain ⟨G2, f2⟩ := e2
  have hq : zQf s s1 := zQ_107 f1
  obtain ⟨U, uC, uM⟩ := zUw H.2.1 h6 H.2.2.1
  obtain ⟨n, m, hD, -⟩ := H.2.2.2.1
  have c1 := H.2.2.1.1
  have gn : s 354 1 = ((n : Nat) : Int) := hD.2.1.1.1
  obtain ⟨M, hM⟩ := Int.eq_ofNat_of_zero_le hD.2.2.2.1
  obtain ⟨B, hB⟩ := Int.eq_ofNat_of_zero_le hD.2.1.1.2.2.2.2.2.2.2.1
  have hM10 : M ≤ 10 := by
    have d := hD.2.2.2.2.1
    rw [hM] at d
    exact Int.ofNat_le.mp d
  have hr : ∀ k : Nat, k < M → 0 ≤ s 354 (117 + 2 * ((k : Nat) : Int)) ∧ s 354 (117 + 2 * ((k : Nat) : Int)) < ((n : Nat) : Int) := fun k hk => by
    have d := hD.2.2.2.2.2.1 k (by rw [hM]; exact Int.ofNat_lt.mpr hk)
    rw [gn] at d
    exact d
  have a : q1 = _ := zB_107 (M := M) (B := B) hD hM10 hM hr hB H.2.2.1.2.1 uC f1
  have o : ∀ x, x < 224 ∨ 240 ≤ x → s1 x = s x := fun x hx => hq x (by omega)
  have b : q2 = _ := zB_222 (M := M) (B := B) (σ := s 354) (F := s 10 6) (U := U) (z := s1) (t := s1) hD.2.1 hM10 hM hr hB (fun q => uM q s1 (fun x x1 x2 => o x (by omega))) ⟨by rw [o 354 (by omega)], by rw [o 344 (by omega), c1], fun _ _ _ => rfl⟩ f2
  rw [a, b]
end NH
