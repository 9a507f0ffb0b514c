/-! runs taken apart: what a run that ends has gone through -/
def zG (F : Nat) (c : List xm_E) (pc : Nat) (lz : List Int) (st : List zV) (s : zS) (R : Int × zS) : Prop := zm_run F c (xm_drop pc c) lz st s = some R
section ZD
variable {c : List xm_E} {pc pc1 pc2 k F : Nat} {lz lz1 lz2 : List Int} {st st1 st2 : List zV} {s s1 s2 : zS} {R : Int × zS}
theorem zG_det {F F' : Nat} {R R' : Int × zS} (h : zG F c pc lz st s R) (h' : zG F' c pc lz st s R') : R = R' := by
  have a : zm_run (F + F') c (xm_drop pc c) lz st s = some R := zm_le h F'
  have b : zm_run (F' + F) c (xm_drop pc c) lz st s = some R' := zm_le h' F
  rw [Nat.add_comm, a] at b
  exact Option.some.inj b
theorem zG_A {R' : Int × zS} (h : zG F c pc lz st s R) (h' : zA c pc lz st s R') : R = R' := by
  obtain ⟨F', h'⟩ := h'
  exact zG_det h h'
theorem zd_ge {T : Nat → Option (Int × zS)} (h0 : T 0 = none) (h : ∀ F, zm_run (F + k) c (xm_drop pc c) lz st s = T F) (e : zG F c pc lz st s R) : ∃ F1, F = F1 + k ∧ T F1 = some R := by
  rcases Nat.lt_or_ge F k with q | q
  · exfalso
    have a : zm_run (F + (k - F)) c (xm_drop pc c) lz st s = some R := zm_le e (k - F)
    rw [show F + (k - F) = 0 + k by omega, h, h0] at a
    cases a
  · refine ⟨F - k, by omega, ?_⟩
    rw [← h, show F - k + k = F by omega]
    exact e
theorem zd_step (hk : 0 < k) (h : ∀ F, zm_run (F + k) c (xm_drop pc c) lz st s = zm_run F c (xm_drop pc1 c) lz1 st1 s1) (e : zG F c pc lz st s R) : ∃ F1, F1 < F ∧ zG F1 c pc1 lz1 st1 s1 R := by
  obtain ⟨F1, a, b⟩ := zd_ge (T := fun F => zm_run F c (xm_drop pc1 c) lz1 st1 s1) rfl h e
  exact ⟨F1, by omega, b⟩
theorem zd_if {P : Prop} {dP : Decidable P} (hk : 0 < k) (h : ∀ F, zm_run (F + k) c (xm_drop pc c) lz st s = zm_run F c (@ite _ P dP (xm_drop pc1 c) (xm_drop pc2 c)) lz1 st1 s1) (e : zG F c pc lz st s R) : ∃ F1, F1 < F ∧ ((P ∧ zG F1 c pc1 lz1 st1 s1 R) ∨ (¬ P ∧ zG F1 c pc2 lz1 st1 s1 R)) := by
  obtain ⟨F1, a, b⟩ := zd_ge (T := fun F => zm_run F c (@ite _ P dP (xm_drop pc1 c) (xm_drop pc2 c)) lz1 st1 s1) rfl h e
  refine ⟨F1, by omega, ?_⟩
  by_cases p : P
  · rw [if_pos p] at b
    exact Or.inl ⟨p, b⟩
  · rw [if_neg p] at b
    exact Or.inr ⟨p, b⟩
theorem zd_call {c1 : List xm_E} {l1 : List Int} {push : Int → List zV} (hk : 0 < k) (h : ∀ F, zm_run (F + k) c (xm_drop pc c) lz st s = (match zm_run F c1 c1 l1 [] s1 with
    | some (r, s2) => zm_run F c (xm_drop pc1 c) lz1 (push r) s2
    | none => none)) (e : zG F c pc lz st s R) : ∃ F1, F1 < F ∧ ∃ r s2, zG F1 c1 0 l1 [] s1 (r, s2) ∧ zG F1 c pc1 lz1 (push r) s2 R := by
  obtain ⟨F1, a, b⟩ := zd_ge (T := fun F => (match zm_run F c1 c1 l1 [] s1 with
    | some (r, s2) => zm_run F c (xm_drop pc1 c) lz1 (push r) s2
    | none => none)) rfl h e
  cases hz : zm_run F1 c1 c1 l1 [] s1 with
  | none => rw [hz] at b; cases b
  | some q =>
    obtain ⟨r, s2⟩ := q
    rw [hz] at b
    exact ⟨F1, by omega, r, s2, hz, b⟩
theorem zd_ret {R0 : Int × zS} (h : ∀ F, zm_run (F + k) c (xm_drop pc c) lz st s = some R0) (e : zG F c pc lz st s R) : R = R0 := by
  have a : zm_run (F + k) c (xm_drop pc c) lz st s = some R := zm_le e k
  rw [h] at a
  exact (Option.some.inj a).symm
end ZD
