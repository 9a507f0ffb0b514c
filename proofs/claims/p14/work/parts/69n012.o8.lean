/-! house on both sides: what is put down behind the reading -/
section HS
variable {s : zS}
theorem zlen_22 : zw (zlen (19 + 3)) = 7 := by decide +kernel
theorem zlen_25 : zw (zlen (24 + 1)) = 7 := by decide +kernel
theorem zlen_26 : zw (zlen (24 + 2)) = 7 := by decide +kernel
theorem zlen_27 : zw (zlen (24 + 3)) = 7 := by decide +kernel
/-- all at home -/
theorem zo_gohome : ∃ s', zE xm_c3 [19, 11] s 0 s' ∧ (s' 19 0 = 0 ∧ s' 19 1 = s 11 5) ∧ (∀ k : Int, 0 ≤ k → k < 7 → s' 20 k = s 12 k ∧ s' 21 k = s 12 k ∧ s' 22 k = 0 ∧ s' 23 k = s 13 k) ∧ ∀ x, ¬ (19 ≤ x ∧ x < 24) → s' x = s x := by
  obtain ⟨u, hu⟩ : ∃ u : zS, u = zu (zu s 19 0 0) 19 1 (s 11 5) := ⟨_, rfl⟩
  have uo : ∀ x, x ≠ 19 → u x = s x := fun x hx => by
    rw [hu]
    exact funext (fun y => by rw [zu_cell hx, zu_cell hx])
  obtain ⟨s1, a1, a2, a3⟩ := zo_fill (j := 19 + 3) (v := 0) (s := zcpy (zcpy (zcpy u (11 + 1) 0 (19 + 1) 0 7) (11 + 1) 0 (19 + 2) 0 7) (11 + 2) 0 (19 + 4) 0 7) (by decide) zlen_22 (by decide)
  have hit : ∀ (z : zS) (i j k : Int), 0 ≤ k → k < 7 → zcpy z i 0 j 0 7 j k = z i k := fun z i j k k0 k1 => by
    unfold zcpy
    rw [if_pos ⟨rfl, by omega, by omega⟩]
    congr 1
    omega
  have e0 : zu s 19 0 0 11 5 = s 11 5 := zu_cell (by decide)
  refine ⟨s1, zb_3_0 (by rw [e0, ← hu]; exact a1) (zb_3_35 rfl), ⟨?_, ?_⟩, fun k k0 k1 => ⟨?_, ?_, ?_, ?_⟩, fun x hx => funext (fun y => ?_)⟩
  · rw [a2 19 0 (by decide), zcpy_o (by decide), zcpy_o (by decide), zcpy_o (by decide), hu, zu_place (by decide), zu_hit]
  · rw [a2 19 1 (by decide), zcpy_o (by decide), zcpy_o (by decide), zcpy_o (by decide), hu, zu_hit]
  · rw [a2 20 k (by decide), zcpy_o (by decide), zcpy_o (by decide)]
    show zcpy u (11 + 1) 0 20 0 7 20 k = _
    rw [hit _ _ _ _ k0 k1, uo _ (by decide)]
    rfl
  · rw [a2 21 k (by decide), zcpy_o (by decide)]
    show zcpy _ (11 + 1) 0 21 0 7 21 k = _
    rw [hit _ _ _ _ k0 k1, zcpy_o (by decide), uo _ (by decide)]
    rfl
  · exact a3 k k0 k1
  · rw [a2 23 k (by decide)]
    show zcpy _ (11 + 2) 0 23 0 7 23 k = _
    rw [hit _ _ _ _ k0 k1, zcpy_o (by decide), zcpy_o (by decide), uo _ (by decide)]
    rfl
  · rw [a2 x y (by omega), zcpy_o (by omega), zcpy_o (by omega), zcpy_o (by omega), uo x (by omega)]
/-- nothing known -/
theorem zo_lclear : ∃ s', zE xm_c36 [24] s 0 s' ∧ s' 24 0 = 0 ∧ (∀ k : Int, 0 ≤ k → k < 7 → s' 25 k = -1 ∧ s' 26 k = 0 ∧ s' 27 k = -1) ∧ ∀ x, ¬ (24 ≤ x ∧ x < 28) → s' x = s x := by
  obtain ⟨s1, a1, a2, a3⟩ := zo_fill (j := 24 + 1) (v := -1) (s := zu s 24 0 0) (by decide) zlen_25 (by decide)
  obtain ⟨s2, b1, b2, b3⟩ := zo_fill (j := 24 + 2) (v := 0) (s := s1) (by decide) zlen_26 (by decide)
  obtain ⟨s3, c1, c2, c3⟩ := zo_fill (j := 24 + 3) (v := -1) (s := s2) (by decide) zlen_27 (by decide)
  refine ⟨s3, zb_36_0 a1 (zb_36_7 b1 (zb_36_11 c1 (zb_36_15 rfl))), ?_, fun k k0 k1 => ⟨?_, ?_, ?_⟩, fun x h => funext (fun b => by rw [c2 x b (by omega), b2 x b (by omega), a2 x b (by omega), zu_cell (by omega)])⟩
  · rw [c2 24 0 (by decide), b2 24 0 (by decide), a2 24 0 (by decide), zu_hit]
  · rw [c2 25 k (by decide), b2 25 k (by decide)]
    exact a3 k k0 k1
  · rw [c2 26 k (by decide)]
    exact b3 k k0 k1
  · exact c3 k k0 k1
/-- the answer of house -/
def zhq (f x : Int) : Int := if f = 0 then x else zw (-2 - f)
/-- nothing told yet -/
def zhi (k : Int) : Int := if k = 5 ∨ k = 6 ∨ k = 7 then -1 else 0
def zh00 (R : zHS) : zHS := fun k => if 0 ≤ k ∧ k < 10 then zhi k else R k
theorem zh00_0 (R : zHS) : zh0 (zh00 R) := by
  refine ⟨?_, ?_, ?_, ?_, ?_, ?_, ?_, ?_, ?_, ?_⟩
  · exact if_pos (by decide)
  · exact if_pos (by decide)
  · exact if_pos (by decide)
  · exact if_pos (by decide)
  · exact if_pos (by decide)
  · exact if_pos (by decide)
  · exact if_pos (by decide)
  · exact if_pos (by decide)
  · exact if_pos (by decide)
  · exact if_pos (by decide)
theorem zr_h5 {x : Int} {X : Int × zS} (h0 : 0 ≤ x) (h1 : x < 10) (z : zA xm_c169 5 [344, x + 1] [] (zu s 350 x (zhi x)) X) : zA xm_c169 5 [344, x] [] s X := by
  have e : zw (x + 1) = x + 1 := zw_id (by omega) (by omega)
  have a : (x = 5 ∨ x = 6 ∨ x = 7) → zA xm_c169 20 [344, x] [(false, x), (false, 344 + 6)] s X := fun q => zb_169_20 (by
    unfold zhi at z
    rw [if_pos q] at z
    rw [e]
    exact z)
  refine zb_169_5 (fun _ => zb_169_8 (fun q => a (Or.inl q)) (fun q => zb_169_14 (fun q2 => a (Or.inr (Or.inl q2))) (fun q2 => zb_169_17 (fun q3 => a (Or.inr (Or.inr q3))) (fun q3 => zb_169_22 ?_)))) (fun q => absurd h1 q)
  unfold zhi at z
  rw [if_neg (fun w => w.elim q (fun w => w.elim q2 q3))] at z
  rw [e]
  exact z
theorem zr_hinit : ∀ (n : Nat) (x : Int) (s : zS), 0 ≤ x → x ≤ 10 → (10 - x).toNat ≤ n → ∃ s', (∀ X, zA xm_c169 26 [344, 10] [] s' X → zA xm_c169 5 [344, x] [] s X) ∧ (∀ k, s' 350 k = if x ≤ k ∧ k < 10 then zhi k else s 350 k) ∧ ∀ a b, a ≠ 350 → s' a b = s a b := by
  intro n
  induction n with
  | zero =>
    intro x s h0 h1 hn
    have e : x = 10 := by omega
    subst e
    exact ⟨s, fun X z => zb_169_5 (fun q => absurd q (by decide)) (fun _ => z), fun k => by rw [if_neg (by omega)], fun _ _ _ => rfl⟩
  | succ n ih =>
    intro x s h0 h1 hn
    by_cases e : x = 10
    · subst e
      exact ⟨s, fun X z => zb_169_5 (fun q => absurd q (by decide)) (fun _ => z), fun k => by rw [if_neg (by omega)], fun _ _ _ => rfl⟩
    · obtain ⟨s', u1, u2, u3⟩ := ih (x + 1) (zu s 350 x (zhi x)) (by omega) (by omega) (by omega)
      refine ⟨s', fun X z => zr_h5 h0 (by omega) (u1 X z), fun k => ?_, fun a b h => by rw [u3 a b h, zu_cell h]⟩
      rw [u2 k]
      by_cases ek : k = x
      · subst ek
        rw [if_neg (by omega), if_pos (by omega), zu_hit]
      · by_cases e2 : x ≤ k ∧ k < 10
        · rw [if_pos e2, if_pos (by omega)]
        · rw [if_neg e2, if_neg (by omega), zu_place ek]
theorem zr_hcopy : ∀ (n : Nat) (x : Int) (s : zS), 0 ≤ x → x ≤ 146 → (146 - x).toNat ≤ n → ∃ s', (∀ X, zA xm_c169 54 [344, 146] [] s' X → zA xm_c169 36 [344, x] [] s X) ∧ (∀ k, x ≤ k → k < 146 → s' 354 k = if k < 117 then s 350 k else 0) ∧ (∀ k, k < x → s' 354 k = s 354 k) ∧ ∀ a b, a ≠ 354 → s' a b = s a b := by
  intro n
  induction n with
  | zero =>
    intro x s h0 h1 hn
    have e : x = 146 := by omega
    subst e
    exact ⟨s, fun X z => zb_169_36 (fun q => absurd q (by decide)) (fun _ => z), fun k h2 h3 => by omega, fun _ _ => rfl, fun _ _ _ => rfl⟩
  | succ n ih =>
    intro x s h0 h1 hn
    by_cases e : x = 146
    · subst e
      exact ⟨s, fun X z => zb_169_36 (fun q => absurd q (by decide)) (fun _ => z), fun k h2 h3 => by omega, fun _ _ => rfl, fun _ _ _ => rfl⟩
    · obtain ⟨s', u1, u2, u3, u4⟩ := ih (x + 1) (zu s 354 x (if x < 117 then s 350 x else 0)) (by omega) (by omega) (by omega)
      have ez : zw (x + 1) = x + 1 := zw_id (by omega) (by omega)
      refine ⟨s', fun X z => ?_, fun k h2 h3 => ?_, fun k h2 => by rw [u3 k (by omega), zu_place (by omega)], fun a b h => by rw [u4 a b h, zu_cell h]⟩
      · have z := u1 X z
        refine zb_169_36 (fun _ => zb_169_39 (fun q => zb_169_45 ?_) (fun q => zb_169_50 ?_)) (fun q => absurd (by omega) q)
        · rw [if_pos q] at z
          rw [ez]
          exact z
        · rw [if_neg q] at z
          rw [ez]
          exact z
      · by_cases ek : k = x
        · subst ek
          rw [u3 k (by omega), zu_hit]
        · rw [u2 k (by omega) h3, zu_cell (by decide)]
/-- the pace that is told, put aside -/
theorem zr_htold : ∀ (n : Nat) (x : Int) (s : zS), 0 ≤ x → s 354 1 ≤ 7 → (s 354 1 - x).toNat ≤ n → ∃ s' x', (∀ X, zA xm_c169 74 [344, x'] [] s' X → zA xm_c169 56 [344, x] [] s X) ∧ (∀ k, ¬ (138 + x ≤ k ∧ k < 145) → s' 354 k = s 354 k) ∧ (∀ p, x ≤ p → p < s 354 1 → s' 354 (138 + p) = s 354 (10 + 11 * p + 3)) ∧ ∀ a b, a ≠ 354 → s' a b = s a b := by
  intro n
  induction n with
  | zero =>
    intro x s h0 h1 hn
    exact ⟨s, x, fun X z => zb_169_56 (fun q => absurd (show x < s 354 1 from q) (by omega)) (fun _ => z), fun _ _ => rfl, fun p p0 p1 => by omega, fun _ _ _ => rfl⟩
  | succ n ih =>
    intro x s h0 h1 hn
    by_cases e : x < s 354 1
    · have ez : zw (x + 1) = x + 1 := zw_id (by omega) (by omega)
      have e8 : zw (138 + x) = 138 + x := zw_id (by omega) (by omega)
      have e3 : zw (zw (10 + zw (11 * x)) + 3) = 10 + 11 * x + 3 := by
        rw [zw_id (x := 11 * x) (by omega) (by omega), zw_id (x := 10 + 11 * x) (by omega) (by omega), zw_id (by omega) (by omega)]
      have k1 : zu s 354 (138 + x) (s 354 (10 + 11 * x + 3)) 354 1 = s 354 1 := zu_place (by omega)
      obtain ⟨s', x', u1, u2, u4, u3⟩ := ih (x + 1) (zu s 354 (138 + x) (s 354 (10 + 11 * x + 3))) (by omega) (by rw [k1]; exact h1) (by rw [k1]; omega)
      refine ⟨s', x', fun X z => ?_, fun k hk => by rw [u2 k (by omega), zu_place (by omega)], fun p p0 p1 => ?_, fun a b h => by rw [u3 a b h, zu_cell h]⟩
      · refine zb_169_56 (fun _ => zb_169_62 (zb_178_0 rfl) (zb_169_71 ?_)) (fun q => absurd e q)
        rw [ez, e8]
        have z := u1 X z
        rw [← e3] at z
        exact z
      · by_cases c : p = x
        · subst c
          rw [u2 _ (by omega), zu_hit]
        · rw [u4 p (by omega) (by rw [k1]; exact p1), zu_place (by omega)]
    · exact ⟨s, x, fun X z => zb_169_56 (fun q => absurd (show x < s 354 1 from q) e) (fun _ => z), fun _ _ => rfl, fun p p0 p1 => by omega, fun _ _ _ => rfl⟩
end HS
