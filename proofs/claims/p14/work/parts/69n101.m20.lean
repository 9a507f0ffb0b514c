/-! starts, in the class: as it was at the beginning; what is found is written down -/
section NA
variable {s : zS}
theorem zlen_228 : zw (zlen (225 + 3)) = 7 := by decide +kernel
theorem zlen_231 : zw (zlen (230 + 1)) = 7 := by decide +kernel
theorem zlen_232 : zw (zlen (230 + 2)) = 7 := by decide +kernel
theorem zlen_233 : zw (zlen (230 + 3)) = 7 := by decide +kernel
/-- all at home -/
theorem zo_gohome2 : ∃ s', zE xm_c3 [225, 11] s 0 s' ∧ (s' 225 0 = 0 ∧ s' 225 1 = s 11 5) ∧ (∀ k : Int, 0 ≤ k → k < 7 → s' 226 k = s 12 k ∧ s' 227 k = s 12 k ∧ s' 228 k = 0 ∧ s' 229 k = s 13 k) ∧ ∀ x, ¬ (225 ≤ x ∧ x < 230) → s' x = s x := by
  obtain ⟨u, hu⟩ : ∃ u : zS, u = zu (zu s 225 0 0) 225 1 (s 11 5) := ⟨_, rfl⟩
  have uo : ∀ x, x ≠ 225 → u x = s x := fun x hx => by
    rw [hu]
    exact funext (fun y => by rw [zu_cell hx, zu_cell hx])
  obtain ⟨s1, a1, a2, a3⟩ := zo_fill (j := 225 + 3) (v := 0) (s := zcpy (zcpy (zcpy u (11 + 1) 0 (225 + 1) 0 7) (11 + 1) 0 (225 + 2) 0 7) (11 + 2) 0 (225 + 4) 0 7) (by decide) zlen_228 (by decide)
  have hit : ∀ (z : zS) (i j k : Int), 0 ≤ k → k < 7 → zcpy z i 0 j 0 7 j k = z i k := fun z i j k k0 k1 => by
    unfold zcpy
    rw [if_pos ⟨rfl, by omega, by omega⟩]
    congr 1
    omega
  have e0 : zu s 225 0 0 11 5 = s 11 5 := zu_cell (by decide)
  refine ⟨s1, zb_3_0 (by rw [e0, ← hu]; exact a1) (zb_3_35 rfl), ⟨?_, ?_⟩, fun k k0 k1 => ⟨?_, ?_, ?_, ?_⟩, fun x hx => funext (fun y => ?_)⟩
  · rw [a2 225 0 (by decide), zcpy_o (by decide), zcpy_o (by decide), zcpy_o (by decide), hu, zu_place (by decide), zu_hit]
  · rw [a2 225 1 (by decide), zcpy_o (by decide), zcpy_o (by decide), zcpy_o (by decide), hu, zu_hit]
  · rw [a2 226 k (by decide), zcpy_o (by decide), zcpy_o (by decide)]
    show zcpy u (11 + 1) 0 226 0 7 226 k = _
    rw [hit _ _ _ _ k0 k1, uo _ (by decide)]
    rfl
  · rw [a2 227 k (by decide), zcpy_o (by decide)]
    show zcpy _ (11 + 1) 0 227 0 7 227 k = _
    rw [hit _ _ _ _ k0 k1, zcpy_o (by decide), uo _ (by decide)]
    rfl
  · exact a3 k k0 k1
  · rw [a2 229 k (by decide)]
    show zcpy _ (11 + 2) 0 229 0 7 229 k = _
    rw [hit _ _ _ _ k0 k1, zcpy_o (by decide), zcpy_o (by decide), uo _ (by decide)]
    rfl
  · rw [a2 x y (by omega), zcpy_o (by omega), zcpy_o (by omega), zcpy_o (by omega), uo x (by omega)]
/-- nothing known -/
theorem zo_lclear2 : ∃ s', zE xm_c36 [230] s 0 s' ∧ s' 230 0 = 0 ∧ (∀ k : Int, 0 ≤ k → k < 7 → s' 231 k = -1 ∧ s' 232 k = 0 ∧ s' 233 k = -1) ∧ ∀ x, ¬ (230 ≤ x ∧ x < 234) → s' x = s x := by
  obtain ⟨s1, a1, a2, a3⟩ := zo_fill (j := 230 + 1) (v := -1) (s := zu s 230 0 0) (by decide) zlen_231 (by decide)
  obtain ⟨s2, b1, b2, b3⟩ := zo_fill (j := 230 + 2) (v := 0) (s := s1) (by decide) zlen_232 (by decide)
  obtain ⟨s3, c1, c2, c3⟩ := zo_fill (j := 230 + 3) (v := -1) (s := s2) (by decide) zlen_233 (by decide)
  refine ⟨s3, zb_36_0 a1 (zb_36_7 b1 (zb_36_11 c1 (zb_36_15 rfl))), ?_, fun k k0 k1 => ⟨?_, ?_, ?_⟩, fun x h => funext (fun b => by rw [c2 x b (by omega), b2 x b (by omega), a2 x b (by omega), zu_cell (by omega)])⟩
  · rw [c2 230 0 (by decide), b2 230 0 (by decide), a2 230 0 (by decide), zu_hit]
  · rw [c2 231 k (by decide), b2 231 k (by decide)]
    exact a3 k k0 k1
  · rw [c2 232 k (by decide)]
    exact b3 k k0 k1
  · exact c3 k k0 k1
end NA
/-- the i-th of a list of starts -/
def znt : List (Nat × Nat) → Nat → Nat × Nat
  | [], _ => (0, 0)
  | x :: _, 0 => x
  | _ :: l, i + 1 => znt l i
/-- the starts of one person ahead of a bell -/
def zlq (ok : Nat → Nat → Bool) (p : Nat) : Nat → List (Nat × Nat)
  | 0 => []
  | b + 1 => if ok p b = true then zlq ok p b ++ [(p, b)] else zlq ok p b
/-- the starts of the first persons -/
def zlp (ok : Nat → Nat → Bool) (df : Nat → Bool) (M : Nat) : Nat → List (Nat × Nat)
  | 0 => []
  | p + 1 => if df p = true then zlp ok df M p else zlp ok df M p ++ zlq ok p M
section NB
variable {ok : Nat → Nat → Bool} {df : Nat → Bool} {M : Nat}
theorem znt_l : ∀ (l l' : List (Nat × Nat)) (i : Nat), i < l.length → znt (l ++ l') i = znt l i
  | [], _, i, h => absurd h (Nat.not_lt_zero i)
  | _ :: _, _, 0, _ => rfl
  | _ :: l, l', i + 1, h => znt_l l l' i (Nat.lt_of_succ_lt_succ h)
theorem znt_e : ∀ (l : List (Nat × Nat)) (x : Nat × Nat), znt (l ++ [x]) l.length = x
  | [], _ => rfl
  | _ :: l, x => znt_e l x
theorem zlq_n (p : Nat) : ∀ b : Nat, (zlq ok p b).length ≤ b
  | 0 => Nat.le_refl 0
  | b + 1 => by
    have ih := zlq_n p b
    show (if ok p b = true then zlq ok p b ++ [(p, b)] else zlq ok p b).length ≤ b + 1
    by_cases c : ok p b = true
    · rw [if_pos c, List.length_append]
      exact Nat.succ_le_succ ih
    · rw [if_neg c]
      exact Nat.le_succ_of_le ih
theorem zlp_n : ∀ p : Nat, (zlp ok df M p).length ≤ p * M
  | 0 => Nat.zero_le _
  | p + 1 => by
    have ih := zlp_n p
    have iq := zlq_n (ok := ok) p M
    show (if df p = true then zlp ok df M p else zlp ok df M p ++ zlq ok p M).length ≤ (p + 1) * M
    rw [Nat.succ_mul]
    by_cases c : df p = true
    · rw [if_pos c]
      exact Nat.le_trans ih (Nat.le_add_right _ _)
    · rw [if_neg c, List.length_append]
      exact Nat.add_le_add ih iq
/-- of all in the list -/
theorem zlq_m (p : Nat) : ∀ (b : Nat) (x : Nat × Nat), x ∈ zlq ok p b → x.1 = p ∧ x.2 < b
  | 0, x, h => by cases h
  | b + 1, x, h => by
    have h : x ∈ (if ok p b = true then zlq ok p b ++ [(p, b)] else zlq ok p b) := h
    by_cases c : ok p b = true
    · rw [if_pos c] at h
      rcases List.mem_append.mp h with q | q
      · obtain ⟨y1, y2⟩ := zlq_m p b x q
        exact ⟨y1, Nat.lt_succ_of_lt y2⟩
      · rw [List.mem_singleton] at q
        rw [q]
        exact ⟨rfl, Nat.lt_succ_self b⟩
    · rw [if_neg c] at h
      obtain ⟨y1, y2⟩ := zlq_m p b x h
      exact ⟨y1, Nat.lt_succ_of_lt y2⟩
theorem zlp_m : ∀ (p : Nat) (x : Nat × Nat), x ∈ zlp ok df M p → x.1 < p ∧ x.2 < M
  | 0, x, h => by cases h
  | p + 1, x, h => by
    have h : x ∈ (if df p = true then zlp ok df M p else zlp ok df M p ++ zlq ok p M) := h
    by_cases c : df p = true
    · rw [if_pos c] at h
      obtain ⟨y1, y2⟩ := zlp_m p x h
      exact ⟨Nat.lt_succ_of_lt y1, y2⟩
    · rw [if_neg c] at h
      rcases List.mem_append.mp h with q | q
      · obtain ⟨y1, y2⟩ := zlp_m p x q
        exact ⟨Nat.lt_succ_of_lt y1, y2⟩
      · obtain ⟨y1, y2⟩ := zlq_m p M x q
        rw [y1]
        exact ⟨Nat.lt_succ_self p, y2⟩
theorem znt_m : ∀ (l : List (Nat × Nat)) (i : Nat), i < l.length → znt l i ∈ l
  | [], i, h => absurd h (Nat.not_lt_zero i)
  | x :: l, 0, _ => List.mem_cons_self
  | x :: l, i + 1, h => List.mem_cons_of_mem x (znt_m l i (Nat.lt_of_succ_lt_succ h))
end NB
