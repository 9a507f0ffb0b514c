/-! what each step of the rule grammar does -/
section ZC
variable {b : Int → Int} {T : Int}
theorem zco_r {k : Int} : 6 ≤ zco k ∧ zco k ≤ 10 := by
  unfold zco
  by_cases h1 : k = 60
  · rw [if_pos h1]; omega
  · rw [if_neg h1]
    by_cases h2 : k = 256
    · rw [if_pos h2]; omega
    · rw [if_neg h2]
      by_cases h3 : k = 61
      · rw [if_pos h3]; omega
      · rw [if_neg h3]
        by_cases h4 : k = 257
        · rw [if_pos h4]; omega
        · rw [if_neg h4]; omega
theorem zao_r {k : Int} : (zg_mu k → zao k = 4 ∨ zao k = 5 ∨ zao k = 14) ∧ (zg_pm k → zao k = 2 ∨ zao k = 3) := by
  unfold zao
  constructor
  · rintro (rfl | rfl | rfl) <;> decide
  · rintro (rfl | rfl) <;> decide
theorem zjo_r {p : Int} : zjo b T p = 12 ∨ zjo b T p = 13 := by
  unfold zjo
  by_cases h : zg_is b T p yw_and
  · rw [if_pos h]; exact Or.inl rfl
  · rw [if_neg h]; exact Or.inr rfl
abbrev zs_nx (b : Int → Int) (T p p' : Int) : Prop := p' = zg_nx b T p ∧ zg_kind b T p ≠ -1
/-- the code of a value -/
def zvc (b : Int → Int) (T p c : Int) : Prop := (zg_kind b T p = 48 ∧ ¬ 5 < zg_te b T p - p ∧ c = 0 + 16 * zhv b T p) ∨ (zg_any b T p ∧ c = 1 + 16 * zwi b T p)
/-- one step: from what is read next, of which sum, where, what is made, and what is begun, to the same -/
def zs_do (b : Int → Int) (T : Int) (q k : Nat) (p : Int) (a : zW) (s : List Int) (q' k' : Nat) (p' : Int) (a' : zW) (s' : List Int) : Prop := (q = 0 ∧ q' = 1 ∧ k' = 0 ∧ zs_nx b T p p' ∧ a' = a ∧ s' = s) ∨ (q = 1 ∧ a.1 ≠ 60 ∧ q' = 2 ∧ k' = k ∧ zs_nx b T p p' ∧ (∃ c, zvc b T p c ∧ a' = zev a c) ∧ s' = s) ∨ (q = 2 ∧ q' = 1 ∧ k' = k ∧ zs_nx b T p p' ∧ (∃ z : Int, (z = 4 ∨ z = 5 ∨ z = 14) ∧ a' = zet a z) ∧ s' = s) ∨ (q = 2 ∧ q' = 1 ∧ k' = k ∧ zs_nx b T p p' ∧ (∃ z : Int, (z = 2 ∨ z = 3) ∧ a' = zet (zef a) z) ∧ s' = s) ∨ (q = 2 ∧ q' = 3 ∧ k' = k ∧ p' = p ∧ a' = zef a ∧ s' = s) ∨ (q = 3 ∧ k = 0 ∧ q' = 4 ∧ k' = 0 ∧ zs_nx b T p p' ∧ a' = zem a ∧ s' = s) ∨ (q = 3 ∧ k = 0 ∧ q' = 6 ∧ k' = 0 ∧ p' = p ∧ a' = zem (zem a) ∧ s' = s) ∨ (q = 3 ∧ k = 1 ∧ a.1 ≠ 60 ∧ q' = 1 ∧ (6 ≤ k' ∧ k' ≤ 10) ∧ zs_nx b T p p' ∧ a' = ze1 a ∧ s' = s) ∨ (q = 3 ∧ 2 ≤ k ∧ q' = 5 ∧ k' = 0 ∧ p' = p ∧ a' = zep a ((k : Nat) : Int) ∧ s' = s) ∨ (q = 4 ∧ zdp s ≠ 10 ∧ q' = 4 ∧ k' = 0 ∧ zs_nx b T p p' ∧ a' = a ∧ ((zg_is b T p yw_not ∧ s' = 11 :: s) ∨ (zg_kind b T p = 91 ∧ s' = 91 :: s))) ∨ (q = 4 ∧ q' = 1 ∧ k' = 1 ∧ p' = p ∧ a' = a ∧ s' = s) ∨ (q = 5 ∧ q' = 6 ∧ k' = 0 ∧ p' = p ∧ a' = zem a ∧ s = [] ∧ s' = []) ∨ (q = 5 ∧ q' = 4 ∧ k' = 0 ∧ zs_nx b T p p' ∧ a' = a ∧ ∃ c, (c = 12 ∨ c = 13) ∧ s' = c :: s ∧ s.head? ≠ some 11 ∧ s.head? ≠ some 12 ∧ (s.head? = some 13 → c = 12)) ∨ (q = 5 ∧ q' = 5 ∧ k' = 0 ∧ p' = p ∧ ∃ c, (c = 11 ∨ c = 12 ∨ c = 13) ∧ a' = zep a c ∧ s = c :: s') ∨ (q = 5 ∧ q' = 5 ∧ k' = 0 ∧ zs_nx b T p p' ∧ a' = a ∧ ∃ c, ¬ (c = 11 ∨ c = 12 ∨ c = 13) ∧ s = c :: s') ∨ (6 ≤ q ∧ q' = 0 ∧ k' = 0 ∧ zs_nx b T p p' ∧ a' = a ∧ s' = s)
theorem zs_jn {p : Int} (h : zg_jn b T p) : zg_kind b T p ≠ -1 := by
  rcases h with h | h
  · rw [h.1]; decide
  · rw [h.1]; decide
theorem zs_step {q k : Nat} {p l : Int} {a : zW} {s : List Int} {q' k' : Nat} {p' l' : Int} {a' : zW} {s' : List Int} (h : ze_st b T (q, k, p, a, l, s) = .inl (q', k', p', a', l', s')) : zs_do b T q k p a s q' k' p' a' s' := by
  match q, k, s, h with
  | 0, k, s, h =>
    have h : (if zg_is b T p yw_tell then (if l = 12 then zfe_ 4 p a else .inl (1, 0, zg_nx b T p, a, l + 1, s)) else zfe_ 0 p a : zQe ⊕ (Int × zW)) = .inl (q', k', p', a', l', s') := h
    by_cases c1 : zg_is b T p yw_tell
    · rw [if_pos c1] at h
      by_cases c2 : l = 12
      · rw [if_pos c2] at h
        cases h
      · rw [if_neg c2] at h
        cases h
        exact Or.inl ⟨rfl, rfl, rfl, ⟨rfl, by rw [c1.1]; decide⟩, rfl, rfl⟩
    · rw [if_neg c1] at h
      cases h
  | 1, k, s, h =>
    have h : (if zg_kind b T p = 48 then (if 5 < zg_te b T p - p then zfe_ 1 p a else if a.1 = 60 then zfe_ 3 p a else .inl (2, k, zg_nx b T p, zev a (0 + 16 * zhv b T p), l, s)) else if zg_any b T p then (if a.1 = 60 then zfe_ 3 p a else .inl (2, k, zg_nx b T p, zev a (1 + 16 * zwi b T p), l, s)) else zfe_ 0 p a : zQe ⊕ (Int × zW)) = .inl (q', k', p', a', l', s') := h
    by_cases c1 : zg_kind b T p = 48
    · rw [if_pos c1] at h
      by_cases c2 : 5 < zg_te b T p - p
      · rw [if_pos c2] at h
        cases h
      · rw [if_neg c2] at h
        by_cases c3 : a.1 = 60
        · rw [if_pos c3] at h
          cases h
        · rw [if_neg c3] at h
          cases h
          exact Or.inr (Or.inl ⟨rfl, c3, rfl, rfl, ⟨rfl, by rw [c1]; decide⟩, ⟨_, Or.inl ⟨c1, c2, rfl⟩, rfl⟩, rfl⟩)
    · rw [if_neg c1] at h
      by_cases c2 : zg_any b T p
      · rw [if_pos c2] at h
        by_cases c3 : a.1 = 60
        · rw [if_pos c3] at h
          cases h
        · rw [if_neg c3] at h
          cases h
          exact Or.inr (Or.inl ⟨rfl, c3, rfl, rfl, ⟨rfl, by rw [c2.1]; decide⟩, ⟨_, Or.inr ⟨c2, rfl⟩, rfl⟩, rfl⟩)
      · rw [if_neg c2] at h
        cases h
  | 2, k, s, h =>
    have h : (if zg_mu (zg_kind b T p) then .inl (1, k, zg_nx b T p, zet a (zao (zg_kind b T p)), l, s) else if zg_pm (zg_kind b T p) then .inl (1, k, zg_nx b T p, zet (zef a) (zao (zg_kind b T p)), l, s) else .inl (3, k, p, zef a, l, s) : zQe ⊕ (Int × zW)) = .inl (q', k', p', a', l', s') := h
    by_cases c1 : zg_mu (zg_kind b T p)
    · rw [if_pos c1] at h
      cases h
      exact Or.inr (Or.inr (Or.inl ⟨rfl, rfl, rfl, ⟨rfl, by omega⟩, ⟨_, zao_r.1 c1, rfl⟩, rfl⟩))
    · rw [if_neg c1] at h
      by_cases c2 : zg_pm (zg_kind b T p)
      · rw [if_pos c2] at h
        cases h
        exact Or.inr (Or.inr (Or.inr (Or.inl ⟨rfl, rfl, rfl, ⟨rfl, by omega⟩, ⟨_, zao_r.2 c2, rfl⟩, rfl⟩)))
      · rw [if_neg c2] at h
        cases h
        exact Or.inr (Or.inr (Or.inr (Or.inr (Or.inl ⟨rfl, rfl, rfl, rfl, rfl, rfl⟩))))
  | 3, 0, s, h =>
    have h : (if zg_is b T p yw_if then .inl (4, 0, zg_nx b T p, zem a, l, s) else .inl (6, 0, p, zem (zem a), l, s) : zQe ⊕ (Int × zW)) = .inl (q', k', p', a', l', s') := h
    by_cases c1 : zg_is b T p yw_if
    · rw [if_pos c1] at h
      cases h
      exact Or.inr (Or.inr (Or.inr (Or.inr (Or.inr (Or.inl ⟨rfl, rfl, rfl, rfl, ⟨rfl, by rw [c1.1]; decide⟩, rfl, rfl⟩)))))
    · rw [if_neg c1] at h
      cases h
      exact Or.inr (Or.inr (Or.inr (Or.inr (Or.inr (Or.inr (Or.inl ⟨rfl, rfl, rfl, rfl, rfl, rfl, rfl⟩))))))
  | 3, 1, s, h =>
    have h : (if zg_cm (zg_kind b T p) then (if a.1 = 60 then zfe_ 3 p a else .inl (1, zco (zg_kind b T p), zg_nx b T p, ze1 a, l, s)) else zfe_ 0 p a : zQe ⊕ (Int × zW)) = .inl (q', k', p', a', l', s') := h
    by_cases c1 : zg_cm (zg_kind b T p)
    · rw [if_pos c1] at h
      by_cases c2 : a.1 = 60
      · rw [if_pos c2] at h
        cases h
      · rw [if_neg c2] at h
        cases h
        exact Or.inr (Or.inr (Or.inr (Or.inr (Or.inr (Or.inr (Or.inr (Or.inl ⟨rfl, rfl, c2, rfl, zco_r, ⟨rfl, fun e => by rw [e] at c1; exact absurd c1 (by decide)⟩, rfl, rfl⟩)))))))
    · rw [if_neg c1] at h
      cases h
  | 3, k + 2, s, h =>
    have h : (.inl (5, 0, p, zep a ((k + 2 : Nat) : Int), l, s) : zQe ⊕ (Int × zW)) = .inl (q', k', p', a', l', s') := h
    cases h
    exact Or.inr (Or.inr (Or.inr (Or.inr (Or.inr (Or.inr (Or.inr (Or.inr (Or.inl ⟨rfl, by omega, rfl, rfl, rfl, rfl, rfl⟩))))))))
  | 4, k, s, h =>
    have h : (if zg_is b T p yw_not then (if zdp s = 10 then zfe_ 2 p a else .inl (4, 0, zg_nx b T p, a, l, 11 :: s)) else if zg_kind b T p = 91 then (if zdp s = 10 then zfe_ 2 p a else .inl (4, 0, zg_nx b T p, a, l, 91 :: s)) else .inl (1, 1, p, a, l, s) : zQe ⊕ (Int × zW)) = .inl (q', k', p', a', l', s') := h
    by_cases c1 : zg_is b T p yw_not
    · rw [if_pos c1] at h
      by_cases c2 : zdp s = 10
      · rw [if_pos c2] at h
        cases h
      · rw [if_neg c2] at h
        cases h
        exact Or.inr (Or.inr (Or.inr (Or.inr (Or.inr (Or.inr (Or.inr (Or.inr (Or.inr (Or.inl ⟨rfl, c2, rfl, rfl, ⟨rfl, by rw [c1.1]; decide⟩, rfl, Or.inl ⟨c1, rfl⟩⟩)))))))))
    · rw [if_neg c1] at h
      by_cases c3 : zg_kind b T p = 91
      · rw [if_pos c3] at h
        by_cases c2 : zdp s = 10
        · rw [if_pos c2] at h
          cases h
        · rw [if_neg c2] at h
          cases h
          exact Or.inr (Or.inr (Or.inr (Or.inr (Or.inr (Or.inr (Or.inr (Or.inr (Or.inr (Or.inl ⟨rfl, c2, rfl, rfl, ⟨rfl, by rw [c3]; decide⟩, rfl, Or.inr ⟨c3, rfl⟩⟩)))))))))
      · rw [if_neg c3] at h
        cases h
        exact Or.inr (Or.inr (Or.inr (Or.inr (Or.inr (Or.inr (Or.inr (Or.inr (Or.inr (Or.inr (Or.inl ⟨rfl, rfl, rfl, rfl, rfl, rfl⟩))))))))))
  | 5, k, [], h =>
    have h : (if zg_jn b T p then .inl (4, 0, zg_nx b T p, a, l, [zjo b T p]) else .inl (6, 0, p, zem a, l, []) : zQe ⊕ (Int × zW)) = .inl (q', k', p', a', l', s') := h
    by_cases c1 : zg_jn b T p
    · rw [if_pos c1] at h
      cases h
      exact Or.inr (Or.inr (Or.inr (Or.inr (Or.inr (Or.inr (Or.inr (Or.inr (Or.inr (Or.inr (Or.inr (Or.inr (Or.inl ⟨rfl, rfl, rfl, ⟨rfl, zs_jn c1⟩, rfl, _, zjo_r, rfl, fun e => (by cases e), fun e => (by cases e), fun e => (by cases e)⟩))))))))))))
    · rw [if_neg c1] at h
      cases h
      exact Or.inr (Or.inr (Or.inr (Or.inr (Or.inr (Or.inr (Or.inr (Or.inr (Or.inr (Or.inr (Or.inr (Or.inl ⟨rfl, rfl, rfl, rfl, rfl, rfl, rfl⟩)))))))))))
  | 5, k, c :: s, h =>
    have h : (if c = 11 ∨ c = 12 then .inl (5, 0, p, zep a c, l, s) else if c = 13 then (if zg_is b T p yw_and then .inl (4, 0, zg_nx b T p, a, l, 12 :: 13 :: s) else .inl (5, 0, p, zep a 13, l, s)) else if zg_kind b T p = 93 then .inl (5, 0, zg_nx b T p, a, l, s) else if zg_jn b T p then .inl (4, 0, zg_nx b T p, a, l, zjo b T p :: c :: s) else zfe_ 0 p a : zQe ⊕ (Int × zW)) = .inl (q', k', p', a', l', s') := h
    by_cases c1 : c = 11 ∨ c = 12
    · rw [if_pos c1] at h
      cases h
      exact Or.inr (Or.inr (Or.inr (Or.inr (Or.inr (Or.inr (Or.inr (Or.inr (Or.inr (Or.inr (Or.inr (Or.inr (Or.inr (Or.inl ⟨rfl, rfl, rfl, rfl, c, by omega, rfl, rfl⟩)))))))))))))
    · rw [if_neg c1] at h
      by_cases c2 : c = 13
      · rw [if_pos c2] at h
        by_cases c3 : zg_is b T p yw_and
        · rw [if_pos c3] at h
          cases h
          subst c2
          exact Or.inr (Or.inr (Or.inr (Or.inr (Or.inr (Or.inr (Or.inr (Or.inr (Or.inr (Or.inr (Or.inr (Or.inr (Or.inl ⟨rfl, rfl, rfl, ⟨rfl, by rw [c3.1]; decide⟩, rfl, 12, Or.inl rfl, rfl, fun e => absurd (Option.some.inj e) (by decide), fun e => absurd (Option.some.inj e) (by decide), fun _ => rfl⟩))))))))))))
        · rw [if_neg c3] at h
          cases h
          exact Or.inr (Or.inr (Or.inr (Or.inr (Or.inr (Or.inr (Or.inr (Or.inr (Or.inr (Or.inr (Or.inr (Or.inr (Or.inr (Or.inl ⟨rfl, rfl, rfl, rfl, 13, by omega, rfl, by rw [c2]⟩)))))))))))))
      · rw [if_neg c2] at h
        by_cases c3 : zg_kind b T p = 93
        · rw [if_pos c3] at h
          cases h
          exact Or.inr (Or.inr (Or.inr (Or.inr (Or.inr (Or.inr (Or.inr (Or.inr (Or.inr (Or.inr (Or.inr (Or.inr (Or.inr (Or.inr (Or.inl ⟨rfl, rfl, rfl, ⟨rfl, by rw [c3]; decide⟩, rfl, c, by omega, rfl⟩))))))))))))))
        · rw [if_neg c3] at h
          by_cases c4 : zg_jn b T p
          · rw [if_pos c4] at h
            cases h
            exact Or.inr (Or.inr (Or.inr (Or.inr (Or.inr (Or.inr (Or.inr (Or.inr (Or.inr (Or.inr (Or.inr (Or.inr (Or.inl ⟨rfl, rfl, rfl, ⟨rfl, zs_jn c4⟩, rfl, _, zjo_r, rfl, fun e => c1 (Or.inl (Option.some.inj e)), fun e => c1 (Or.inr (Option.some.inj e)), fun e => absurd (Option.some.inj e) c2⟩))))))))))))
          · rw [if_neg c4] at h
            cases h
  | q + 6, k, s, h =>
    have h : (if zg_kind b T p = 59 then .inl (0, 0, zg_nx b T p, a, l, s) else if zg_kind b T p = -1 then .inr (0, a) else zfe_ 0 p a : zQe ⊕ (Int × zW)) = .inl (q', k', p', a', l', s') := h
    by_cases c1 : zg_kind b T p = 59
    · rw [if_pos c1] at h
      cases h
      exact Or.inr (Or.inr (Or.inr (Or.inr (Or.inr (Or.inr (Or.inr (Or.inr (Or.inr (Or.inr (Or.inr (Or.inr (Or.inr (Or.inr (Or.inr ⟨by omega, rfl, rfl, ⟨rfl, by rw [c1]; decide⟩, rfl, rfl⟩))))))))))))))
    · rw [if_neg c1] at h
      by_cases c2 : zg_kind b T p = -1
      · rw [if_pos c2] at h
        cases h
      · rw [if_neg c2] at h
        cases h
theorem zev_len {a : zW} {c : Int} : a.2.1.length + 1 ≤ (zev a c).2.1.length := by
  unfold zev
  by_cases h1 : a.2.2.2.1 = 0
  · rw [if_pos h1]
    exact Nat.le_refl _
  · rw [if_neg h1]
    by_cases h2 : a.2.2.2.1 = 2 ∨ a.2.2.2.1 = 3
    · rw [if_pos h2]
      exact Nat.le_refl _
    · rw [if_neg h2]
      exact Nat.le_succ _
theorem zef_len {a : zW} : a.2.1.length ≤ (zef a).2.1.length := by
  unfold zef
  by_cases h1 : a.2.2.1 = 0
  · rw [if_pos h1]
    exact Nat.le_refl _
  · rw [if_neg h1]
    exact Nat.le_succ _
/-- a test puts something down -/
theorem ze_grow {p p' l l' : Int} {a w : zW} {s : List Int} (h : ze_to b T (4, 0, p, a, l, s) (6, 0, p', w, l', [])) : a.2.1.length < w.2.1.length := by
  obtain ⟨n, h⟩ := h
  have := ze_inv (P := fun S => a.2.1.length < S.2.2.2.1.2.1.length ∨ (a.2.1.length ≤ S.2.2.2.1.2.1.length ∧ (S.1 = 4 ∨ ((S.1 = 1 ∨ S.1 = 2 ∨ S.1 = 3) ∧ S.2.1 ≠ 0)))) (fun S S' hP hS => by
    obtain ⟨q, k, p, a1, l, s⟩ := S
    obtain ⟨q', k', p', a2, l', s'⟩ := S'
    have hd := zs_step hS
    have hP : a.2.1.length < a1.2.1.length ∨ (a.2.1.length ≤ a1.2.1.length ∧ (q = 4 ∨ ((q = 1 ∨ q = 2 ∨ q = 3) ∧ k ≠ 0))) := hP
    show a.2.1.length < a2.2.1.length ∨ (a.2.1.length ≤ a2.2.1.length ∧ (q' = 4 ∨ ((q' = 1 ∨ q' = 2 ∨ q' = 3) ∧ k' ≠ 0)))
    have mm : ∀ {x : zW}, (zem x).2.1.length = x.2.1.length := rfl
    have tt : ∀ {x : zW} {z : Int}, (zet x z).2.1.length = x.2.1.length := rfl
    have pp : ∀ {x : zW} {z : Int}, (zep x z).2.1.length = x.2.1.length + 1 := rfl
    have oo : ∀ {x : zW}, (ze1 x).2.1.length = x.2.1.length := rfl
    rcases hd with ⟨d1, d2, d3, -, rfl, -⟩ | ⟨d1, -, d2, d3, -, ⟨c, -, rfl⟩, -⟩ | ⟨d1, d2, d3, -, ⟨z, -, rfl⟩, -⟩ | ⟨d1, d2, d3, -, ⟨z, -, rfl⟩, -⟩ | ⟨d1, d2, d3, -, rfl, -⟩ | ⟨d1, d0, d2, d3, -, rfl, -⟩ | ⟨d1, d0, d2, d3, -, rfl, -⟩ | ⟨d1, d0, -, d2, d3, -, rfl, -⟩ | ⟨d1, d0, d2, d3, -, rfl, -⟩ | ⟨d1, -, d2, d3, -, rfl, -⟩ | ⟨d1, d2, d3, -, rfl, -⟩ | ⟨d1, d2, d3, -, rfl, -⟩ | ⟨d1, d2, d3, -, rfl, -⟩ | ⟨d1, d2, d3, -, c, -, rfl, -⟩ | ⟨d1, d2, d3, -, rfl, -⟩ | ⟨d1, d2, d3, -, rfl, -⟩
    · omega
    · have := zev_len (a := a1) (c := c)
      omega
    · rw [tt]
      omega
    · have := zef_len (a := a1)
      rw [tt]
      omega
    · have := zef_len (a := a1)
      omega
    · rw [mm]
      omega
    · rw [mm, mm]
      omega
    · rw [oo]
      omega
    · rw [pp]
      omega
    · omega
    · omega
    · rw [mm]
      omega
    · omega
    · rw [pp]
      omega
    · omega
    · omega) n _ _ (Or.inr ⟨Nat.le_refl _, Or.inl rfl⟩) h
  have this : a.2.1.length < w.2.1.length ∨ (a.2.1.length ≤ w.2.1.length ∧ ((6 : Nat) = 4 ∨ (((6 : Nat) = 1 ∨ (6 : Nat) = 2 ∨ (6 : Nat) = 3) ∧ (0 : Nat) ≠ 0))) := this
  omega
end ZC
