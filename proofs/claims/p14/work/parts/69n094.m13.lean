/-! the set behind a set, in the class -/
section MM
variable {t : zS} {u : Nat} {al : Int}
theorem zB_49 {G : Nat} {R : Int × zS} (hu : u < 128) (e0 : zG G xm_c49 0 [((u : Nat) : Int), al, 0, 0, 0, 0] [] t R) : R.2 = t ∧ zNx al u R.1 := by
  have loop : ∀ (G i sz : Nat) (fr x2 : Int) (R : Int × zS), sz ≤ 7 → i ≤ 128 → (∀ w : Nat, w < 128 → zsb w al → zky u < zky w → ((sz : Nat) : Int) ≤ zbc ((w : Nat) : Int) ∧ (zbc ((w : Nat) : Int) = ((sz : Nat) : Int) → i ≤ w)) → (zbc ((u : Nat) : Int) < ((sz : Nat) : Int) ∨ (zbc ((u : Nat) : Int) = ((sz : Nat) : Int) ∧ u < i)) → zG G xm_c49 14 [((u : Nat) : Int), al, x2, fr, ((sz : Nat) : Int), ((i : Nat) : Int)] [] t R → R.2 = t ∧ zNx al u R.1 := by
    intro G
    induction G using Nat.strongRecOn with
    | _ G ih =>
      intro i sz fr x2 R hs hi hA hB e0
      obtain ⟨F1, l1, ⟨c1, e1⟩ | ⟨c1, e1⟩⟩ := zi_49_14 e0
      · have i8 : i = 128 := by
          clear ih hA hB
          omega
        have hA2 : ∀ w : Nat, w < 128 → zsb w al → zky u < zky w → ((sz : Nat) : Int) + 1 ≤ zbc ((w : Nat) : Int) := fun w hw s q => by
          obtain ⟨a, b⟩ := hA w hw s q
          by_cases e : zbc ((w : Nat) : Int) = ((sz : Nat) : Int)
          · have := b e
            exfalso
            clear ih hA hB b
            omega
          · clear ih hA hB b
            omega
        obtain ⟨F2, l2, e2⟩ := zi_49_31 e1
        have en : zw (((sz : Nat) : Int) + 1) = ((sz + 1 : Nat) : Int) := by
          clear ih hA hB hA2
          exact zw_id (by omega) (by omega)
        rw [en] at e2
        obtain ⟨F3, l3, ⟨c3, e3⟩ | ⟨c3, e3⟩⟩ := zi_49_9 e2
        · rw [zi_49_35 e3]
          refine ⟨rfl, Or.inl ⟨rfl, fun w hw s => ?_⟩⟩
          by_cases q : zky u < zky w
          · exfalso
            have a := hA2 w hw s q
            have b := (zbc_r ((w : Nat) : Int)).2
            clear ih hA hB hA2
            omega
          · exact Int.not_lt.mp q
        · obtain ⟨F4, l4, e4⟩ := zi_49_12 e3
          refine ih F4 (Nat.lt_trans l4 (Nat.lt_trans l3 (Nat.lt_trans l2 l1))) 0 (sz + 1) 0 x2 R ?_ (Nat.zero_le _) (fun w hw s q => ⟨?_, fun _ => Nat.zero_le w⟩) (Or.inl ?_) e4
          · clear ih hA hB hA2
            omega
          · have := hA2 w hw s q
            clear ih hA hB hA2
            omega
          · clear ih hA hA2
            omega
      · have i8 : i < 128 := by
          clear ih hA hB
          omega
        have en : zw (((i : Nat) : Int) + 1) = ((i + 1 : Nat) : Int) := by
          clear ih hA hB
          exact zw_id (by omega) (by omega)
        have next : ∀ F3, F3 < G → ¬ (zsb i al ∧ zbc ((i : Nat) : Int) = ((sz : Nat) : Int)) → zG F3 xm_c49 29 [((u : Nat) : Int), al, x2, fr, ((sz : Nat) : Int), ((i : Nat) : Int)] [] t R → R.2 = t ∧ zNx al u R.1 := fun F3 l3 no e3 => by
          obtain ⟨F4, l4, e4⟩ := zi_49_29 e3
          rw [en] at e4
          refine ih F4 (Nat.lt_trans l4 l3) (i + 1) sz fr x2 R hs i8 (fun w hw s q => ⟨(hA w hw s q).1, fun b => ?_⟩) (hB.imp_right (fun z => ⟨z.1, Nat.lt_succ_of_lt z.2⟩)) e4
          refine Nat.lt_of_le_of_ne ((hA w hw s q).2 b) (fun z => no ?_)
          rw [z]
          exact ⟨s, b⟩
        obtain ⟨F2, l2, ⟨c2, e2⟩ | ⟨c2, e2⟩⟩ := zi_49_17 e1
        · obtain ⟨F3, l3, r3, s3, q3, e3⟩ := zi_49_23 e2
          obtain ⟨rfl, rfl⟩ := zdet q3 (zo_count (Int.natCast_nonneg i) (by clear ih hA hB next; omega))
          obtain ⟨F4, l4, ⟨c4, e4⟩ | ⟨c4, e4⟩⟩ := zi_49_25 e3
          · rw [zi_49_27 e4]
            refine ⟨rfl, Or.inr ⟨i, i8, rfl, c2, (zky_lt hu i8).mpr ?_, fun w hw s q => (zky_le i8 hw).mpr ?_⟩⟩
            · rw [c4]
              exact hB
            · obtain ⟨a, b⟩ := hA w hw s q
              rw [c4]
              by_cases e : zbc ((w : Nat) : Int) = ((sz : Nat) : Int)
              · exact Or.inr ⟨e.symm, b e⟩
              · exact Or.inl (zlt_ne a (fun z => e z.symm))
          · exact next F4 (Nat.lt_trans l4 (Nat.lt_trans l3 (Nat.lt_trans l2 l1))) (fun z => c4 z.2) e4
        · exact next F2 (Nat.lt_trans l2 l1) (fun z => c2 z.1) e2
  obtain ⟨F1, l1, r1, s1, q1, e1⟩ := zi_49_0 e0
  obtain ⟨rfl, rfl⟩ := zdet q1 (zo_count (Int.natCast_nonneg u) (by omega))
  obtain ⟨F2, l2, e2⟩ := zi_49_2 e1
  have br := zbc_r ((u : Nat) : Int)
  obtain ⟨sz, hs⟩ := Int.eq_ofNat_of_zero_le br.1
  have en : zw (((u : Nat) : Int) + 1) = ((u + 1 : Nat) : Int) := zw_id (by omega) (by omega)
  rw [hs, en] at e2
  rw [hs] at br
  obtain ⟨F3, l3, ⟨c3, e3⟩ | ⟨c3, e3⟩⟩ := zi_49_9 e2
  · exfalso
    clear loop
    omega
  · obtain ⟨F4, l4, e4⟩ := zi_49_12 e3
    refine loop F4 (u + 1) sz _ _ R (by clear loop; omega) hu (fun w hw s q => ?_) (Or.inr ⟨hs, Nat.lt_succ_self u⟩) e4
    have z := (zky_lt hu hw).mp q
    rw [hs] at z
    clear loop
    refine ⟨by omega, fun e => ?_⟩
    omega
end MM
