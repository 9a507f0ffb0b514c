/-! the reference's acts -/
/-- an act kept in the reference: u acts ahead, of what is told σ -/
def zKA (w w' : Int → Int) (u u' : Int) (σ : Int → Int) : Prop := u' = (if u = 20 then 20 else u + 1) ∧ ∀ j k : Int, 0 ≤ j → j < u' → 0 ≤ k → k < 87 → w' (87 * j + k) = (if j = u' - 1 then σ k else if u = 20 then w (87 * (j + 1) + k) else w (87 * j + k))
section HA
variable {s t : zS} {σ τ : Int → Int} {p f x y : Int} {n m : Nat}
theorem zr_in2 {lo hi : Int} : zE xm_c125 [x, 0, lo, 0, hi, 0] s (if lo ≤ x ∧ x ≤ hi then 1 else 0) s := by
  have e1 : zsg x lo < 0 ↔ x < lo := by
    unfold zsg
    by_cases h : x < lo
    · rw [if_pos h]; exact ⟨fun _ => h, fun _ => by decide⟩
    · rw [if_neg h]
      by_cases h2 : x = lo
      · rw [if_pos h2]; exact ⟨fun q => absurd q (by decide), fun q => absurd q h⟩
      · rw [if_neg h2]; exact ⟨fun q => absurd q (by decide), fun q => absurd q h⟩
  have e2 : 0 < zsg x hi ↔ hi < x := by
    unfold zsg
    by_cases h : x < hi
    · rw [if_pos h]; exact ⟨fun q => absurd q (by decide), fun q => by omega⟩
    · rw [if_neg h]
      by_cases h2 : x = hi
      · rw [if_pos h2]; exact ⟨fun q => absurd q (by decide), fun q => by omega⟩
      · rw [if_neg h2]; exact ⟨fun q => by omega, fun q => by decide⟩
  refine zb_125_0 (fun q => zb_125_10 ?_) (fun q => zb_125_4 (fun q2 => zb_125_10 ?_) (fun q2 => zb_125_8 ?_))
  · rw [if_neg (fun z => absurd z.1 (Int.not_le.mpr (e1.mp q)))]
  · rw [if_neg (fun z => absurd z.2 (Int.not_le.mpr (e2.mp q2)))]
  · rw [if_pos ⟨Int.not_lt.mp (fun z => q (e1.mpr z)), Int.not_lt.mp (fun z => q2 (e2.mpr z))⟩]
theorem zr_keepsAct (u0 : 0 ≤ s 344 26) (u1 : s 344 26 ≤ 20) : ∃ s', zE xm_c198 [344, 0] s 0 s' ∧ zKA (s 356) (s' 356) (s 344 26) (s' 344 26) (s 354) ∧ (∀ x, x ≠ 344 → x ≠ 356 → s' x = s x) ∧ ∀ y, y ≠ 26 → s' 344 y = s 344 y := by
  -- the copy of what is told
  have copy : ∀ (v : Int) (w : Int → Int), 0 ≤ v → v ≤ 19 → ∀ (t : zS), t 344 26 = v → t 356 = w → t 354 = s 354 → (∀ x, x ≠ 344 → x ≠ 356 → t x = s x) → (∀ y, y ≠ 26 → t 344 y = s 344 y) → ∃ s', zA xm_c198 29 [344, 0] [] t (0, s') ∧ s' 344 26 = v + 1 ∧ (∀ k : Int, s' 356 k = if 87 * v ≤ k ∧ k < 87 * v + 87 then s 354 (k - 87 * v) else w k) ∧ (∀ x, x ≠ 344 → x ≠ 356 → s' x = s x) ∧ ∀ y, y ≠ 26 → s' 344 y = s 344 y := fun v w v0 v1 t t26 tw t4 to t3 => by
    have loop : ∀ (k i : Nat) (z : zS), i + k = 87 → z 344 = t 344 → (∀ x, x ≠ 344 → x ≠ 356 → z x = s x) → (∀ k : Int, z 356 k = if 87 * v ≤ k ∧ k < 87 * v + ((i : Nat) : Int) then s 354 (k - 87 * v) else w k) → ∃ s', zA xm_c198 29 [344, ((i : Nat) : Int)] [] z (0, s') ∧ s' 344 26 = v + 1 ∧ (∀ k : Int, s' 356 k = if 87 * v ≤ k ∧ k < 87 * v + 87 then s 354 (k - 87 * v) else w k) ∧ (∀ x, x ≠ 344 → x ≠ 356 → s' x = s x) ∧ ∀ y, y ≠ 26 → s' 344 y = s 344 y := by
      intro k
      induction k with
      | zero =>
        intro i z hi h1 h2 h3
        have e : i = 87 := by omega
        subst e
        have z26 : z 344 26 = v := by rw [h1, t26]
        refine ⟨zu z 344 26 (v + 1), zb_198_29 (fun q => absurd q (by decide)) (fun _ => zb_198_47 ?_), zu_hit, fun k => ?_, fun x x1 x2 => ?_, fun y hy => ?_⟩
        · rw [z26, zw_id (x := v + 1) (by clear h3 h2; omega) (by clear h3 h2; omega)]
        · rw [zu_cell (by decide)]
          exact h3 k
        · rw [← h2 x x1 x2]
          exact funext (fun y => zu_cell x1)
        · rw [zu_place hy, h1, t3 y hy]
      | succ k ih =>
        intro i z hi h1 h2 h3
        have lt : ((i : Nat) : Int) < 87 := by clear ih h3 h2 h1; omega
        have e2 : zw (((i : Nat) : Int) + 1) = ((i + 1 : Nat) : Int) := zw_id (by clear ih h3 h2 h1; omega) (by clear ih h3 h2 h1; omega)
        have z26 : z 344 26 = v := by rw [h1, t26]
        have e3 : zw (zw (87 * z 344 26) + ((i : Nat) : Int)) = 87 * v + ((i : Nat) : Int) := by
          rw [z26, zw_id (x := 87 * v) (by clear ih h3 h2 h1; omega) (by clear ih h3 h2 h1; omega), zw_id (by clear ih h3 h2 h1; omega) (by clear ih h3 h2 h1; omega)]
        have z4 : z 354 = s 354 := h2 354 (by decide) (by decide)
        obtain ⟨s', a1, a2⟩ := ih (i + 1) (zu z 356 (87 * v + ((i : Nat) : Int)) (s 354 ((i : Nat) : Int))) (by clear ih h3 h2 h1; omega) (by rw [← h1]; exact funext (fun y => zu_cell (by decide))) (fun x x1 x2 => by
          rw [← h2 x x1 x2]
          exact funext (fun y => zu_cell x2)) (fun k => by
          rw [zu2, h3 k]
          by_cases c : k = 87 * v + ((i : Nat) : Int)
          · rw [if_pos c, if_pos (by clear ih h3 h2 h1; omega), show k - 87 * v = ((i : Nat) : Int) by clear ih h3 h2 h1; omega]
          · rw [if_neg c]
            by_cases d : 87 * v ≤ k ∧ k < 87 * v + ((i : Nat) : Int)
            · rw [if_pos d, if_pos (by clear ih h3 h2 h1; omega)]
            · rw [if_neg d, if_neg (by clear ih h3 h2 h1; omega)])
        refine ⟨s', zb_198_29 (fun _ => zb_198_32 ?_) (fun q => absurd lt q), a2⟩
        show zA xm_c198 29 [344, zw (((i : Nat) : Int) + 1)] [] (zu z 356 (zw (zw (87 * z 344 26) + ((i : Nat) : Int))) (z 354 ((i : Nat) : Int))) _
        rw [e2, e3, z4]
        exact a1
    exact loop 87 0 t rfl rfl (fun x x1 x2 => to x x1 x2) (fun k => by rw [if_neg (by omega), tw])
  by_cases c : s 344 26 = 20
  · -- the oldest goes
    have loop : ∀ (k i : Nat) (z : zS), i + k = 1740 → 87 ≤ i → z 344 = s 344 → (∀ x, x ≠ 356 → z x = s x) → (∀ k : Int, z 356 k = if 0 ≤ k ∧ k < ((i : Nat) : Int) - 87 then s 356 (k + 87) else s 356 k) → ∃ z', (∀ R, zA xm_c198 21 [344, 1740] [] z' R → zA xm_c198 6 [344, ((i : Nat) : Int)] [] z R) ∧ z' 344 = s 344 ∧ (∀ x, x ≠ 356 → z' x = s x) ∧ (∀ k : Int, z' 356 k = if 0 ≤ k ∧ k < 1653 then s 356 (k + 87) else s 356 k) := by
      intro k
      induction k with
      | zero =>
        intro i z hi hi2 h1 h2 h3
        have e : i = 1740 := by omega
        subst e
        exact ⟨z, fun R r => zb_198_6 (fun q => absurd q (by decide)) (fun _ => r), h1, h2, h3⟩
      | succ k ih =>
        intro i z hi hi2 h1 h2 h3
        have lt : ((i : Nat) : Int) < 1740 := by clear ih h3 h2 h1 copy; omega
        have e2 : zw (((i : Nat) : Int) + 1) = ((i + 1 : Nat) : Int) := zw_id (by clear ih h3 h2 h1 copy; omega) (by clear ih h3 h2 h1 copy; omega)
        have e3 : zw (((i : Nat) : Int) - 87) = ((i : Nat) : Int) - 87 := zw_id (by clear ih h3 h2 h1 copy; omega) (by clear ih h3 h2 h1 copy; omega)
        have zi : z 356 ((i : Nat) : Int) = s 356 ((i : Nat) : Int) := by rw [h3, if_neg (by clear ih h3 h2 h1 copy; omega)]
        obtain ⟨z', a1, a2⟩ := ih (i + 1) (zu z 356 (((i : Nat) : Int) - 87) (s 356 ((i : Nat) : Int))) (by clear ih h3 h2 h1 copy; omega) (by clear ih h3 h2 h1 copy; omega) (by rw [← h1]; exact funext (fun y => zu_cell (by decide))) (fun x x2 => by
          rw [← h2 x x2]
          exact funext (fun y => zu_cell x2)) (fun k => by
          rw [zu2, h3 k]
          by_cases c : k = ((i : Nat) : Int) - 87
          · rw [if_pos c, if_pos (by clear ih h3 h2 h1 copy; omega), show k + 87 = ((i : Nat) : Int) by clear ih h3 h2 h1 copy; omega]
          · rw [if_neg c]
            by_cases d : 0 ≤ k ∧ k < ((i : Nat) : Int) - 87
            · rw [if_pos d, if_pos (by clear ih h3 h2 h1 copy; omega)]
            · rw [if_neg d, if_neg (by clear ih h3 h2 h1 copy; omega)])
        refine ⟨z', fun R r => zb_198_6 (fun _ => zb_198_9 ?_) (fun q => absurd lt q), a2⟩
        show zA xm_c198 6 [344, zw (((i : Nat) : Int) + 1)] [] (zu z 356 (zw (((i : Nat) : Int) - 87)) (z 356 ((i : Nat) : Int))) _
        rw [e2, e3, zi]
        exact a1 R r
    obtain ⟨z, a1, a2, a3, a4⟩ := loop 1653 87 s rfl (by decide) rfl (fun _ _ => rfl) (fun k => by rw [if_neg (by omega)])
    have z26 : zw (z 344 26 - 1) = 19 := by
      rw [a2, c]
      decide
    obtain ⟨s', b1, b2, b3, b4, b5⟩ := copy 19 (z 356) (by decide) (by decide) (zu z 344 26 19) zu_hit (funext (fun y => zu_cell (by decide))) (by rw [← a3 354 (by decide)]; exact funext (fun y => zu_cell (by decide))) (fun x x1 x2 => by
      rw [← a3 x x2]
      exact funext (fun y => zu_cell x1)) (fun y hy => by rw [zu_place hy, a2])
    refine ⟨s', zb_198_0 (fun _ => zb_198_4 (a1 _ (zb_198_21 (by rw [z26]; exact b1)))) (fun q => absurd c q), ⟨?_, fun j k j0 j1 k0 k1 => ?_⟩, b4, b5⟩
    · rw [b2, c, if_pos rfl]
      rfl
    · rw [b2] at j1 ⊢
      rw [b3, c, if_pos rfl]
      by_cases d : j = 19
      · subst d
        rw [if_pos (by omega), if_pos (by decide)]
        congr 1
        omega
      · rw [if_neg (by omega), if_neg (by omega), a4, if_pos (by omega)]
        congr 1
        omega
  · obtain ⟨s', b1, b2, b3, b4, b5⟩ := copy (s 344 26) (s 356) u0 (by omega) s rfl rfl rfl (fun _ _ _ => rfl) (fun _ _ => rfl)
    refine ⟨s', zb_198_0 (fun q => absurd q c) (fun _ => zb_198_27 b1), ⟨by rw [b2, if_neg c], fun j k j0 j1 k0 k1 => ?_⟩, b4, b5⟩
    rw [b2] at j1 ⊢
    rw [b3, if_neg c]
    by_cases d : j = s 344 26
    · subst d
      rw [if_pos (by omega), if_pos (by omega)]
      congr 1
      omega
    · rw [if_neg (by omega), if_neg (by omega)]
/-- an act taken back in the reference -/
theorem zr_undo (u0 : 0 ≤ s 344 26) (u1 : s 344 26 ≤ 20) : (s 344 26 = 0 ∧ zE xm_c199 [344, 0] s (-1) s) ∨ (s 344 26 ≠ 0 ∧ ∃ s', zE xm_c199 [344, 0] s (s 344 26 - 1) s' ∧ s' 344 26 = s 344 26 - 1 ∧ s' 354 = (fun k => if 0 ≤ k ∧ k < 87 then s 356 (87 * (s 344 26 - 1) + k) else s 354 k) ∧ (∀ x, x ≠ 344 → x ≠ 354 → s' x = s x) ∧ ∀ y, y ≠ 26 → s' 344 y = s 344 y) := by
  by_cases c : s 344 26 = 0
  · exact Or.inl ⟨c, zb_199_0 (fun _ => zb_199_3 rfl) (fun q => absurd c q)⟩
  · refine Or.inr ⟨c, ?_⟩
    have e1 : zw (s 344 26 - 1) = s 344 26 - 1 := zw_id (by omega) (by omega)
    have loop : ∀ (k i : Nat) (z : zS), i + k = 87 → z 344 = zu s 344 26 (s 344 26 - 1) 344 → (∀ x, x ≠ 344 → x ≠ 354 → z x = s x) → (∀ k : Int, z 354 k = if 0 ≤ k ∧ k < ((i : Nat) : Int) then s 356 (87 * (s 344 26 - 1) + k) else s 354 k) → ∃ s', zA xm_c199 13 [344, ((i : Nat) : Int)] [] z (s 344 26 - 1, s') ∧ s' 344 26 = s 344 26 - 1 ∧ s' 354 = (fun k => if 0 ≤ k ∧ k < 87 then s 356 (87 * (s 344 26 - 1) + k) else s 354 k) ∧ (∀ x, x ≠ 344 → x ≠ 354 → s' x = s x) ∧ ∀ y, y ≠ 26 → s' 344 y = s 344 y := by
      intro k
      induction k with
      | zero =>
        intro i z hi h1 h2 h3
        have e : i = 87 := by omega
        subst e
        have z26 : z 344 26 = s 344 26 - 1 := by rw [h1, zu_hit]
        exact ⟨z, zb_199_13 (fun q => absurd q (by decide)) (fun _ => zb_199_31 (by rw [z26])), z26, funext h3, h2, fun y hy => by rw [h1, zu_place hy]⟩
      | succ k ih =>
        intro i z hi h1 h2 h3
        have lt : ((i : Nat) : Int) < 87 := by clear ih h3 h2 h1; omega
        have e2 : zw (((i : Nat) : Int) + 1) = ((i + 1 : Nat) : Int) := zw_id (by clear ih h3 h2 h1; omega) (by clear ih h3 h2 h1; omega)
        have z26 : z 344 26 = s 344 26 - 1 := by rw [h1, zu_hit]
        have e3 : zw (zw (87 * z 344 26) + ((i : Nat) : Int)) = 87 * (s 344 26 - 1) + ((i : Nat) : Int) := by
          rw [z26, zw_id (x := 87 * (s 344 26 - 1)) (by clear ih h3 h2 h1; omega) (by clear ih h3 h2 h1; omega), zw_id (by clear ih h3 h2 h1; omega) (by clear ih h3 h2 h1; omega)]
        have z6 : z 356 = s 356 := h2 356 (by decide) (by decide)
        obtain ⟨s', a1, a2⟩ := ih (i + 1) (zu z 354 ((i : Nat) : Int) (s 356 (87 * (s 344 26 - 1) + ((i : Nat) : Int)))) (by clear ih h3 h2 h1; omega) (by rw [← h1]; exact funext (fun y => zu_cell (by decide))) (fun x x1 x2 => by
          rw [← h2 x x1 x2]
          exact funext (fun y => zu_cell x2)) (fun k => by
          rw [zu2, h3 k]
          by_cases c : k = ((i : Nat) : Int)
          · rw [if_pos c, if_pos (by clear ih h3 h2 h1; omega), c]
          · rw [if_neg c]
            by_cases d : 0 ≤ k ∧ k < ((i : Nat) : Int)
            · rw [if_pos d, if_pos (by clear ih h3 h2 h1; omega)]
            · rw [if_neg d, if_neg (by clear ih h3 h2 h1; omega)])
        refine ⟨s', zb_199_13 (fun _ => zb_199_16 ?_) (fun q => absurd lt q), a2⟩
        show zA xm_c199 13 [344, zw (((i : Nat) : Int) + 1)] [] (zu z 354 ((i : Nat) : Int) (z 356 (zw (zw (87 * z 344 26) + ((i : Nat) : Int))))) _
        rw [e2, e3, z6]
        exact a1
    obtain ⟨s', a1, a2⟩ := loop 87 0 (zu s 344 26 (s 344 26 - 1)) rfl rfl (fun x x1 x2 => funext (fun y => zu_cell x1)) (fun k => by
      rw [if_neg (by omega), zu_cell (by decide)])
    exact ⟨s', zb_199_0 (fun q => absurd q c) (fun _ => zb_199_5 (by rw [e1]; exact a1)), a2⟩
end HA
