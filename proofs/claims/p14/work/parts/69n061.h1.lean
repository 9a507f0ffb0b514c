/-! copies in the class -/
theorem zcpH {s : zS} {i j n b : Int} (h0 : 0 ≤ b) (h1 : b < n) : zcpy s i 0 j 0 n j b = s i b := by
  unfold zcpy
  rw [if_pos ⟨rfl, by omega, by omega⟩]
  congr 1
  omega
theorem zcpC {s : zS} {i j n a b : Int} (h : a ≠ j) : zcpy s i 0 j 0 n a b = s a b := by
  unfold zcpy
  rw [if_neg (fun q => h q.1)]
section HC
variable {s : zS} {f g : Int}
/-- where all are and go, copied -/
theorem zo_cpF (hd : ∀ i j : Int, 0 ≤ i → i ≤ 4 → 0 ≤ j → j ≤ 4 → f + i ≠ g + j) : ∃ s', zE xm_c2 [f, g] s 0 s' ∧ (s' f 0 = s g 0 ∧ s' f 1 = s g 1) ∧ (∀ k : Int, 0 ≤ k → k < 7 → s' (f + 1) k = s (g + 1) k ∧ s' (f + 2) k = s (g + 2) k ∧ s' (f + 3) k = s (g + 3) k ∧ s' (f + 4) k = s (g + 4) k) ∧ ∀ x, ¬ (f ≤ x ∧ x ≤ f + 4) → s' x = s x := by
  have d := fun (i j : Int) a b c e => hd i j a b c e
  have n0 : g ≠ f := fun q => hd 0 0 (by decide) (by decide) (by decide) (by decide) (by omega)
  have A : ∀ (z : zS) (i v y : Int), zu z f i v g y = z g y := fun z i v y => zu_cell n0
  have e : zE xm_c2 [f, g] s 0 (zcpy (zcpy (zcpy (zcpy (zu (zu s f 0 (s g 0)) f 1 (s g 1)) (g + 1) 0 (f + 1) 0 7) (g + 2) 0 (f + 2) 0 7) (g + 3) 0 (f + 3) 0 7) (g + 4) 0 (f + 4) 0 7) := zb_2_0 (by rw [A])
  have gj : ∀ j : Int, 1 ≤ j → j ≤ 4 → ∀ i : Int, 0 ≤ i → i ≤ 4 → g + j ≠ f + i := fun j j0 j1 i i0 i1 q => hd i j i0 i1 (by omega) j1 q.symm
  have gf : ∀ j : Int, 1 ≤ j → j ≤ 4 → g + j ≠ f := fun j j0 j1 q => gj j j0 j1 0 (by decide) (by decide) (by omega)
  refine ⟨_, e, ⟨?_, ?_⟩, fun k k0 k1 => ⟨?_, ?_, ?_, ?_⟩, fun x hx => funext (fun y => ?_)⟩
  · rw [zcpC (by omega), zcpC (by omega), zcpC (by omega), zcpC (by omega), zu_place (by decide), zu_hit]
  · rw [zcpC (by omega), zcpC (by omega), zcpC (by omega), zcpC (by omega), zu_hit]
  · rw [zcpC (by omega), zcpC (by omega), zcpC (by omega), zcpH k0 k1, zu_cell (gf 1 (by decide) (by decide)), zu_cell (gf 1 (by decide) (by decide))]
  · rw [zcpC (by omega), zcpC (by omega), zcpH k0 k1, zcpC (gj 2 (by decide) (by decide) 1 (by decide) (by decide)), zu_cell (gf 2 (by decide) (by decide)), zu_cell (gf 2 (by decide) (by decide))]
  · rw [zcpC (by omega), zcpH k0 k1, zcpC (gj 3 (by decide) (by decide) 2 (by decide) (by decide)), zcpC (gj 3 (by decide) (by decide) 1 (by decide) (by decide)), zu_cell (gf 3 (by decide) (by decide)), zu_cell (gf 3 (by decide) (by decide))]
  · rw [zcpH k0 k1, zcpC (gj 4 (by decide) (by decide) 3 (by decide) (by decide)), zcpC (gj 4 (by decide) (by decide) 2 (by decide) (by decide)), zcpC (gj 4 (by decide) (by decide) 1 (by decide) (by decide)), zu_cell (gf 4 (by decide) (by decide)), zu_cell (gf 4 (by decide) (by decide))]
  · rw [zcpC (by omega), zcpC (by omega), zcpC (by omega), zcpC (by omega), zu_cell (by omega), zu_cell (by omega)]
theorem zo_cpL (hd : ∀ i j : Int, 0 ≤ i → i ≤ 3 → 0 ≤ j → j ≤ 3 → f + i ≠ g + j) : ∃ s', zE xm_c37 [f, g] s 0 s' ∧ s' f 0 = s g 0 ∧ (∀ k : Int, 0 ≤ k → k < 7 → s' (f + 1) k = s (g + 1) k ∧ s' (f + 2) k = s (g + 2) k ∧ s' (f + 3) k = s (g + 3) k) ∧ ∀ x, ¬ (f ≤ x ∧ x ≤ f + 3) → s' x = s x := by
  have gj : ∀ j : Int, 1 ≤ j → j ≤ 3 → ∀ i : Int, 0 ≤ i → i ≤ 3 → g + j ≠ f + i := fun j j0 j1 i i0 i1 q => hd i j i0 i1 (by omega) j1 q.symm
  have gf : ∀ j : Int, 1 ≤ j → j ≤ 3 → g + j ≠ f := fun j j0 j1 q => gj j j0 j1 0 (by decide) (by decide) (by omega)
  refine ⟨_, zb_37_0 rfl, ?_, fun k k0 k1 => ⟨?_, ?_, ?_⟩, fun x hx => funext (fun y => ?_)⟩
  · rw [zcpC (by omega), zcpC (by omega), zcpC (by omega), zu_hit]
  · rw [zcpC (by omega), zcpC (by omega), zcpH k0 k1, zu_cell (gf 1 (by decide) (by decide))]
  · rw [zcpC (by omega), zcpH k0 k1, zcpC (gj 2 (by decide) (by decide) 1 (by decide) (by decide)), zu_cell (gf 2 (by decide) (by decide))]
  · rw [zcpH k0 k1, zcpC (gj 3 (by decide) (by decide) 2 (by decide) (by decide)), zcpC (gj 3 (by decide) (by decide) 1 (by decide) (by decide)), zu_cell (gf 3 (by decide) (by decide))]
  · rw [zcpC (by omega), zcpC (by omega), zcpC (by omega), zu_cell (by omega)]
/-- what is told of a house, copied -/
theorem zo_cpH (hd : ∀ i j : Int, 0 ≤ i → i ≤ 7 → 0 ≤ j → j ≤ 7 → f + i ≠ g + j) : ∃ s', zE xm_c25 [f, g] s 0 s' ∧ (∀ k : Int, 0 ≤ k → k < 10 → s' f k = s g k) ∧ (∀ d : Int, 1 ≤ d → d ≤ 7 → ∀ k : Int, 0 ≤ k → k < 7 → s' (f + d) k = s (g + d) k) ∧ (∀ d : Int, 5 ≤ d → d ≤ 7 → ∀ k : Int, 0 ≤ k → k < 10 → s' (f + d) k = s (g + d) k) ∧ ∀ x, ¬ (f ≤ x ∧ x ≤ f + 7) → s' x = s x := by
  have n0 : g ≠ f := fun q => hd 0 0 (by decide) (by decide) (by decide) (by decide) (by omega)
  have A : ∀ (z : zS) (i v y : Int), zu z f i v g y = z g y := fun z i v y => zu_cell n0
  have gj : ∀ j : Int, 1 ≤ j → j ≤ 7 → ∀ i : Int, 0 ≤ i → i ≤ 7 → g + j ≠ f + i := fun j j0 j1 i i0 i1 q => hd i j i0 i1 (by omega) j1 q.symm
  have gf : ∀ j : Int, 1 ≤ j → j ≤ 7 → g + j ≠ f := fun j j0 j1 q => gj j j0 j1 0 (by decide) (by decide) (by omega)
  obtain ⟨S, hS⟩ : ∃ S : zS, S = zu (zu (zu (zu (zu (zu (zu (zu (zu (zu s f 0 (s g 0)) f 1 (s g 1)) f 2 (s g 2)) f 3 (s g 3)) f 4 (s g 4)) f 5 (s g 5)) f 6 (s g 6)) f 7 (s g 7)) f 8 (s g 8)) f 9 (s g 9) := ⟨_, rfl⟩
  have e : zE xm_c25 [f, g] s 0 (zcpy (zcpy (zcpy (zcpy (zcpy (zcpy (zcpy S (g + 1) 0 (f + 1) 0 7) (g + 2) 0 (f + 2) 0 7) (g + 3) 0 (f + 3) 0 7) (g + 4) 0 (f + 4) 0 7) (g + 5) 0 (f + 5) 0 10) (g + 6) 0 (f + 6) 0 10) (g + 7) 0 (f + 7) 0 10) := zb_25_0 (by
    simp only [A]
    rw [hS])
  have So : ∀ x, x ≠ f → S x = s x := fun x hx => by
    rw [hS]
    exact funext (fun y => by rw [zu_cell hx, zu_cell hx, zu_cell hx, zu_cell hx, zu_cell hx, zu_cell hx, zu_cell hx, zu_cell hx, zu_cell hx, zu_cell hx])
  have one : ∀ d : Int, 1 ≤ d → d ≤ 7 → ∀ k : Int, 0 ≤ k → k < (if d ≤ 4 then 7 else 10) → (zcpy (zcpy (zcpy (zcpy (zcpy (zcpy (zcpy S (g + 1) 0 (f + 1) 0 7) (g + 2) 0 (f + 2) 0 7) (g + 3) 0 (f + 3) 0 7) (g + 4) 0 (f + 4) 0 7) (g + 5) 0 (f + 5) 0 10) (g + 6) 0 (f + 6) 0 10) (g + 7) 0 (f + 7) 0 10) (f + d) k = s (g + d) k := fun d d0 d1 k k0 k1 => by
    have src : ∀ (z : zS) (i : Int) (n : Int) (j : Int), 1 ≤ i → i ≤ 7 → 1 ≤ j → j ≤ 7 → zcpy z (g + i) 0 (f + i) 0 n (g + j) k = z (g + j) k := fun z i n j i0 i1 j0 j1 => zcpC (gj j j0 j1 i (by omega) i1)
    have base : ∀ j : Int, 1 ≤ j → j ≤ 7 → S (g + j) k = s (g + j) k := fun j j0 j1 => by rw [So (g + j) (gf j j0 j1)]
    rcases (show d = 1 ∨ d = 2 ∨ d = 3 ∨ d = 4 ∨ d = 5 ∨ d = 6 ∨ d = 7 by omega) with rfl | rfl | rfl | rfl | rfl | rfl | rfl
    · have k1 : k < 7 := by
        rw [if_pos (by decide)] at k1
        exact k1
      rw [zcpC (by omega), zcpC (by omega), zcpC (by omega), zcpC (by omega), zcpC (by omega), zcpC (by omega), zcpH k0 k1, base 1 (by decide) (by decide)]
    · have k1 : k < 7 := by
        rw [if_pos (by decide)] at k1
        exact k1
      rw [zcpC (by omega), zcpC (by omega), zcpC (by omega), zcpC (by omega), zcpC (by omega), zcpH k0 k1, src _ 1 7 2 (by decide) (by decide) (by decide) (by decide), base 2 (by decide) (by decide)]
    · have k1 : k < 7 := by
        rw [if_pos (by decide)] at k1
        exact k1
      rw [zcpC (by omega), zcpC (by omega), zcpC (by omega), zcpC (by omega), zcpH k0 k1, src _ 2 7 3 (by decide) (by decide) (by decide) (by decide), src _ 1 7 3 (by decide) (by decide) (by decide) (by decide), base 3 (by decide) (by decide)]
    · have k1 : k < 7 := by
        rw [if_pos (by decide)] at k1
        exact k1
      rw [zcpC (by omega), zcpC (by omega), zcpC (by omega), zcpH k0 k1, src _ 3 7 4 (by decide) (by decide) (by decide) (by decide), src _ 2 7 4 (by decide) (by decide) (by decide) (by decide), src _ 1 7 4 (by decide) (by decide) (by decide) (by decide), base 4 (by decide) (by decide)]
    · have k1 : k < 10 := by
        rw [if_neg (by decide)] at k1
        exact k1
      rw [zcpC (by omega), zcpC (by omega), zcpH k0 k1, src _ 4 7 5 (by decide) (by decide) (by decide) (by decide), src _ 3 7 5 (by decide) (by decide) (by decide) (by decide), src _ 2 7 5 (by decide) (by decide) (by decide) (by decide), src _ 1 7 5 (by decide) (by decide) (by decide) (by decide), base 5 (by decide) (by decide)]
    · have k1 : k < 10 := by
        rw [if_neg (by decide)] at k1
        exact k1
      rw [zcpC (by omega), zcpH k0 k1, src _ 5 10 6 (by decide) (by decide) (by decide) (by decide), src _ 4 7 6 (by decide) (by decide) (by decide) (by decide), src _ 3 7 6 (by decide) (by decide) (by decide) (by decide), src _ 2 7 6 (by decide) (by decide) (by decide) (by decide), src _ 1 7 6 (by decide) (by decide) (by decide) (by decide), base 6 (by decide) (by decide)]
    · have k1 : k < 10 := by
        rw [if_neg (by decide)] at k1
        exact k1
      rw [zcpH k0 k1, src _ 6 10 7 (by decide) (by decide) (by decide) (by decide), src _ 5 10 7 (by decide) (by decide) (by decide) (by decide), src _ 4 7 7 (by decide) (by decide) (by decide) (by decide), src _ 3 7 7 (by decide) (by decide) (by decide) (by decide), src _ 2 7 7 (by decide) (by decide) (by decide) (by decide), src _ 1 7 7 (by decide) (by decide) (by decide) (by decide), base 7 (by decide) (by decide)]
  refine ⟨_, e, fun k k0 k1 => ?_, fun d d0 d1 k k0 k1 => one d d0 d1 k k0 ?_, fun d d0 d1 k k0 k1 => one d (by omega) d1 k k0 ?_, fun x hx => funext (fun y => ?_)⟩
  · rw [zcpC (by omega), zcpC (by omega), zcpC (by omega), zcpC (by omega), zcpC (by omega), zcpC (by omega), zcpC (by omega), hS]
    rcases (show k = 0 ∨ k = 1 ∨ k = 2 ∨ k = 3 ∨ k = 4 ∨ k = 5 ∨ k = 6 ∨ k = 7 ∨ k = 8 ∨ k = 9 by omega) with rfl | rfl | rfl | rfl | rfl | rfl | rfl | rfl | rfl | rfl
    · rw [zu_place (by decide), zu_place (by decide), zu_place (by decide), zu_place (by decide), zu_place (by decide), zu_place (by decide), zu_place (by decide), zu_place (by decide), zu_place (by decide), zu_hit]
    · rw [zu_place (by decide), zu_place (by decide), zu_place (by decide), zu_place (by decide), zu_place (by decide), zu_place (by decide), zu_place (by decide), zu_place (by decide), zu_hit]
    · rw [zu_place (by decide), zu_place (by decide), zu_place (by decide), zu_place (by decide), zu_place (by decide), zu_place (by decide), zu_place (by decide), zu_hit]
    · rw [zu_place (by decide), zu_place (by decide), zu_place (by decide), zu_place (by decide), zu_place (by decide), zu_place (by decide), zu_hit]
    · rw [zu_place (by decide), zu_place (by decide), zu_place (by decide), zu_place (by decide), zu_place (by decide), zu_hit]
    · rw [zu_place (by decide), zu_place (by decide), zu_place (by decide), zu_place (by decide), zu_hit]
    · rw [zu_place (by decide), zu_place (by decide), zu_place (by decide), zu_hit]
    · rw [zu_place (by decide), zu_place (by decide), zu_hit]
    · rw [zu_place (by decide), zu_hit]
    · rw [zu_hit]
  · by_cases q : d ≤ 4
    · rw [if_pos q]; exact k1
    · rw [if_neg q]; omega
  · rw [if_neg (by omega)]; exact k1
  · rw [zcpC (by omega), zcpC (by omega), zcpC (by omega), zcpC (by omega), zcpC (by omega), zcpC (by omega), zcpC (by omega), So x (by omega)]
end HC
