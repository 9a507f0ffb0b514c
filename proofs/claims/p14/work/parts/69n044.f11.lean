/-! a search in the reference: what is told is kept, and laid back -/
/-- what is told may be otherwise where it is kept -/
def zJk (σ : Int → Int) (F0 : Int) (z t : zS) : Prop := (∀ k, ¬ (0 ≤ k ∧ k < 87) → t 354 k = σ k) ∧ (t 354 0 = σ 0 ∧ t 354 1 = σ 1 ∧ t 354 2 = σ 2) ∧ (∀ k, 0 ≤ k → k < 87 → t 357 k = σ k) ∧ t 344 21 = F0 ∧ ∀ x, 346 ≤ x → x ≤ 349 → t x = z x
/-- it is as it was -/
def zJb (σ : Int → Int) (F0 : Int) (z t : zS) : Prop := t 354 = σ ∧ t 344 21 = F0 ∧ ∀ x, 346 ≤ x → x ≤ 349 → t x = z x
section FJ
variable {σ : Int → Int} {F0 : Int} {z t : zS} {F : Nat} {R : Int × zS} {n m : Nat} {U : (Int → Int) → Int}
theorem zJk_u {i v : Int} (K : zJk σ F0 z t) (h3 : 3 ≤ i) (h87 : i < 87) : zJk σ F0 z (zu t (344 + 10) i v) := by
  obtain ⟨a, ⟨b0, b1, b2⟩, c, d, e⟩ := K
  refine ⟨fun k hk => ?_, ⟨?_, ?_, ?_⟩, c, d, fun x x1 x2 => ?_⟩
  · show zu t 354 i v 354 k = _
    rw [zu_place (by omega), a k hk]
  · show zu t 354 i v 354 0 = _
    rw [zu_place (by omega), b0]
  · show zu t 354 i v 354 1 = _
    rw [zu_place (by omega), b1]
  · show zu t 354 i v 354 2 = _
    rw [zu_place (by omega), b2]
  · rw [← e x x1 x2]
    exact funext (fun y => zu_cell (by omega))
theorem zJk_up {p k v : Int} (K : zJk σ F0 z t) (p0 : 0 ≤ p) (p6 : p ≤ 6) (k0 : 0 ≤ k) (k1 : k ≤ 10) : zJk σ F0 z (zu t (344 + 10) (zw ((zw (10 + (zw (11 * p)))) + k)) v) := by
  rw [zpp2 p0 p6 k0 k1]
  exact zJk_u K (by omega) (by omega)
theorem zJk_u7 {p v0 v1 v2 v3 v4 v5 v6 : Int} (K : zJk σ F0 z t) (p0 : 0 ≤ p) (p6 : p ≤ 6) : zJk σ F0 z (zu (zu (zu (zu (zu (zu (zu t (344 + 10) (zw (10 + (zw (11 * p)))) v0) (344 + 10) (zw ((zw (10 + (zw (11 * p)))) + 1)) v1) (344 + 10) (zw ((zw (10 + (zw (11 * p)))) + 2)) v2) (344 + 10) (zw ((zw (10 + (zw (11 * p)))) + 3)) v3) (344 + 10) (zw ((zw (10 + (zw (11 * p)))) + 8)) v4) (344 + 10) (zw ((zw (10 + (zw (11 * p)))) + 9)) v5) (344 + 10) (zw ((zw (10 + (zw (11 * p)))) + 10)) v6) := by
  have e0 : zw (10 + zw (11 * p)) = 10 + 11 * p := by
    rw [zw_id (x := 11 * p) (by omega) (by omega), zw_id (by omega) (by omega)]
  have K0 : zJk σ F0 z (zu t (344 + 10) (zw (10 + (zw (11 * p)))) v0) := by
    rw [e0]
    exact zJk_u K (by omega) (by omega)
  exact zJk_up (zJk_up (zJk_up (zJk_up (zJk_up (zJk_up K0 p0 p6 (by decide) (by decide)) p0 p6 (by decide) (by decide)) p0 p6 (by decide) (by decide)) p0 p6 (by decide) (by decide)) p0 p6 (by decide) (by decide)) p0 p6 (by decide) (by decide)
theorem zJk_o {i v : Int} (K : zJk σ F0 z t) (h : i ≠ 21) : zJk σ F0 z (zu t 344 i v) := by
  obtain ⟨a, b, c, d, e⟩ := K
  refine ⟨a, b, c, ?_, fun x x1 x2 => ?_⟩
  · rw [zu_place (by omega), d]
  · rw [← e x x1 x2]
    exact funext (fun y => zu_cell (by omega))
theorem zJb_o {i v : Int} (K : zJb σ F0 z t) (h : i ≠ 21) : zJb σ F0 z (zu t 344 i v) := by
  obtain ⟨a, d, e⟩ := K
  refine ⟨a, ?_, fun x x1 x2 => ?_⟩
  · rw [zu_place (by omega), d]
  · rw [← e x x1 x2]
    exact funext (fun y => zu_cell (by omega))
theorem zJk_c {j i v : Int} (K : zJk σ F0 z t) (h : 358 ≤ j) : zJk σ F0 z (zu t j i v) := by
  obtain ⟨a, ⟨b0, b1, b2⟩, c, d, e⟩ := K
  refine ⟨fun k hk => ?_, ⟨?_, ?_, ?_⟩, fun k k0 k1 => ?_, ?_, fun x x1 x2 => ?_⟩
  · rw [zu_cell (by omega), a k hk]
  · rw [zu_cell (by omega), b0]
  · rw [zu_cell (by omega), b1]
  · rw [zu_cell (by omega), b2]
  · rw [zu_cell (by omega), c k k0 k1]
  · rw [zu_cell (by omega), d]
  · rw [← e x x1 x2]
    exact funext (fun y => zu_cell (by omega))
theorem zJ_207 (B : zJb σ F0 z t) (q : zG F xm_c207 0 [344, 0] [] t R) : zJk σ F0 z R.2 ∧ R.2 354 = σ := by
  obtain ⟨b1, b2, b3⟩ := B
  have loop : ∀ (k i : Nat) (s : zS), i + k = 87 → s 354 = σ → s 344 = t 344 → (∀ x, 346 ≤ x → x ≤ 349 → s x = t x) → (∀ j : Int, 0 ≤ j → j < ((i : Nat) : Int) → s 357 j = σ j) → ∃ s', zA xm_c207 2 [344, ((i : Nat) : Int)] [] s (0, s') ∧ s' 354 = σ ∧ s' 344 = t 344 ∧ (∀ x, 346 ≤ x → x ≤ 349 → s' x = t x) ∧ ∀ j : Int, 0 ≤ j → j < 87 → s' 357 j = σ j := by
    intro k
    induction k with
    | zero =>
      intro i s hi h1 h2 h3 h4
      have e : i = 87 := by omega
      subst e
      exact ⟨s, zb_207_2 (fun q => absurd q (by decide)) (fun _ => zb_207_15 rfl), h1, h2, h3, h4⟩
    | succ k ih =>
      intro i s hi h1 h2 h3 h4
      have lt : ((i : Nat) : Int) < 87 := by clear ih h1 h2 h3 h4; omega
      have e2 : zw (((i : Nat) : Int) + 1) = ((i + 1 : Nat) : Int) := zw_id (by clear ih h1 h2 h3 h4; omega) (by clear ih h1 h2 h3 h4; omega)
      obtain ⟨s', u1, u2⟩ := ih (i + 1) (zu s 357 ((i : Nat) : Int) (s 354 ((i : Nat) : Int))) (by clear ih h1 h2 h3 h4; omega) h1 h2 (fun x x1 x2 => by
        rw [← h3 x x1 x2]
        exact funext (fun y => zu_cell (by clear ih h1 h2 h3 h4; omega))) (fun j j0 j1 => by
        by_cases e : j = ((i : Nat) : Int)
        · rw [e, zu_hit, h1]
        · rw [zu_place e]
          exact h4 j j0 (by clear ih h1 h2 h3 h4; omega))
      refine ⟨s', zb_207_2 (fun _ => zb_207_5 ?_) (fun q => absurd lt q), u2⟩
      rw [e2]
      exact u1
  obtain ⟨s', u1, u2, u3, u4, u5⟩ := loop 87 0 t (by decide) b1 rfl (fun _ _ _ => rfl) (fun j a b => absurd b (by omega))
  have e := zG_A q (zb_207_0 u1)
  subst e
  refine ⟨⟨fun k _ => by show s' 354 k = _; rw [u2], ⟨by show s' 354 0 = _; rw [u2], by show s' 354 1 = _; rw [u2], by show s' 354 2 = _; rw [u2]⟩, u5, by show s' 344 21 = _; rw [u3, b2], fun x x1 x2 => (u4 x x1 x2).trans (b3 x x1 x2)⟩, u2⟩
theorem zJ_208 (K : zJk σ F0 z t) (q : zG F xm_c208 0 [344, 0] [] t R) : zJk σ F0 z R.2 ∧ R.2 354 = σ := by
  obtain ⟨a, b, c, d, e⟩ := K
  have loop : ∀ (k i : Nat) (s : zS), i + k = 87 → s 344 = t 344 → s 357 = t 357 → (∀ x, 346 ≤ x → x ≤ 349 → s x = t x) → (∀ j : Int, ¬ (((i : Nat) : Int) ≤ j ∧ j < 87) → s 354 j = σ j) → ∃ s', zA xm_c208 2 [344, ((i : Nat) : Int)] [] s (0, s') ∧ s' 344 = t 344 ∧ s' 357 = t 357 ∧ (∀ x, 346 ≤ x → x ≤ 349 → s' x = t x) ∧ s' 354 = σ := by
    intro k
    induction k with
    | zero =>
      intro i s hi h1 h2 h3 h4
      have e : i = 87 := by omega
      subst e
      exact ⟨s, zb_208_2 (fun q => absurd q (by decide)) (fun _ => zb_208_15 rfl), h1, h2, h3, funext (fun j => h4 j (by clear h1 h2 h3 h4; omega))⟩
    | succ k ih =>
      intro i s hi h1 h2 h3 h4
      have lt : ((i : Nat) : Int) < 87 := by clear ih h1 h2 h3 h4; omega
      have e2 : zw (((i : Nat) : Int) + 1) = ((i + 1 : Nat) : Int) := zw_id (by clear ih h1 h2 h3 h4; omega) (by clear ih h1 h2 h3 h4; omega)
      obtain ⟨s', u1, u2⟩ := ih (i + 1) (zu s 354 ((i : Nat) : Int) (s 357 ((i : Nat) : Int))) (by clear ih h1 h2 h3 h4; omega) h1 h2 (fun x x1 x2 => by
        rw [← h3 x x1 x2]
        exact funext (fun y => zu_cell (by clear ih h1 h2 h3 h4; omega))) (fun j j1 => by
        by_cases e : j = ((i : Nat) : Int)
        · rw [e, zu_hit, h2]
          exact c _ (Int.natCast_nonneg i) lt
        · rw [zu_place e]
          exact h4 j (by clear ih h1 h2 h3 h4 a b c d; omega))
      refine ⟨s', zb_208_2 (fun _ => zb_208_5 ?_) (fun q => absurd lt q), u2⟩
      rw [e2]
      exact u1
  obtain ⟨s', u1, u2, u3, u4, u5⟩ := loop 87 0 t (by decide) rfl rfl (fun _ _ _ => rfl) (fun j h => a j (fun q => h (by omega)))
  have e' := zG_A q (zb_208_0 u1)
  subst e'
  exact ⟨⟨fun k _ => by show s' 354 k = _; rw [u5], ⟨by show s' 354 0 = _; rw [u5], by show s' 354 1 = _; rw [u5], by show s' 354 2 = _; rw [u5]⟩, fun k k0 k1 => by show s' 357 k = _; rw [u3]; exact c k k0 k1, by show s' 344 21 = _; rw [u2, d], fun x x1 x2 => (u4 x x1 x2).trans (e x x1 x2)⟩, u5⟩
/-- the house's size, and the rule in force -/
def zJg (σ : Int → Int) (F0 : Int) (z : zS) (n m : Nat) (U : (Int → Int) → Int) : Prop := σ 1 = ((n : Nat) : Int) ∧ n ≤ 7 ∧ σ 2 = ((m : Nat) : Int) ∧ m ≤ 10 ∧ (¬ F0 < 0 → zRu z F0 U)
theorem zJ_196 (g : zJg σ F0 z n m U) (K : zJk σ F0 z t) (q : zG F xm_c196 0 [344, 0, 0, 0] [] t R) : zJk σ F0 z R.2 := by
  obtain ⟨g1, g2, g3, g4, g5⟩ := g
  obtain ⟨a, ⟨b0, b1, b2⟩, c, d, e⟩ := K
  obtain ⟨s', u1, u2, u3⟩ := zr_passes (s := t) (σ := t 354) (n := n) (m := m) (F := F0) (U := U) rfl (by rw [b1, g1]) g2 (by rw [b2, g3]) g4 d (fun h t' ws x1 x2 => g5 h t' ws (fun x a1 a2 => by rw [x1 x a1 a2, e x a1 a2]) x2)
  have e' := zG_A q u1
  subst e'
  have lo : ∀ k : Int, k ≠ 4 → (k < 10 ∨ 87 ≤ k) → zPo (t 354) n m F0 U k = t 354 k := fun k h4 h => by
    unfold zPo
    rw [if_neg h4]
    rcases h with h | h
    · rw [zsC_lo h, zsA_lo h]
    · rw [zsC_hi (by omega), zsA_hi (by omega)]
  refine ⟨fun k hk => ?_, ⟨?_, ?_, ?_⟩, fun k k0 k1 => ?_, ?_, fun x x1 x2 => ?_⟩
  · show s' 354 k = _
    rw [u2, lo k (by omega) (by omega), a k hk]
  · show s' 354 0 = _
    rw [u2, lo 0 (by decide) (by decide), b0]
  · show s' 354 1 = _
    rw [u2, lo 1 (by decide) (by decide), b1]
  · show s' 354 2 = _
    rw [u2, lo 2 (by decide) (by decide), b2]
  · show s' 357 k = _
    rw [u3.1 357 (by decide) (by decide) (by decide) (by decide) (by decide)]
    exact c k k0 k1
  · show s' 344 21 = _
    rw [u3.2 21 (by decide) (by decide), d]
  · show s' x = _
    rw [u3.1 x (by omega) (by omega) (by omega) (by omega) (by omega), e x x1 x2]
theorem zJ_201 {p v : Int} (K : zJk σ F0 z t) (p0 : 0 ≤ p) (p6 : p ≤ 6) (q : zG F xm_c201 0 [344, p, v] [] t R) : zJk σ F0 z R.2 := by
  have e' := zG_A q (zb_201_0 rfl)
  subst e'
  exact zJk_up (zJk_up (zJk_up K p0 p6 (by decide) (by decide)) p0 p6 (by decide) (by decide)) p0 p6 (by decide) (by decide)
theorem zJ_187 {p v : Int} (K : zJk σ F0 z t) (p0 : 0 ≤ p) (p6 : p ≤ 6) (q : zG F xm_c187 0 [344, p, v] [] t R) : zJk σ F0 z R.2 := by
  have e' := zG_A q (zb_187_0 (s1 := zu t (344 + 10) (zw ((zw (10 + (zw (11 * p)))) + 1)) v) (zr_per rfl p0 p6 (by decide) (by decide)) (zb_187_24 rfl))
  subst e'
  exact zJk_up (zJk_up K p0 p6 (by decide) (by decide)) p0 p6 (by decide) (by decide)
theorem zJ_176 {x : Int} (q : zG F xm_c176 0 [344, x] [] t R) : R.2 = t ∧ (R.1 = 0 ∨ (0 ≤ x ∧ x < t 354 1)) := by
  have e' := zG_A q zq_isP
  subst e'
  refine ⟨rfl, ?_⟩
  by_cases h : 0 ≤ x ∧ x < t 354 1
  · exact Or.inr h
  · exact Or.inl (if_neg h)
theorem zJ_lt {x : Int} (g : zJg σ F0 z n m U) (K : zJk σ F0 z t) (h : x < t (344 + 10) 1) : x ≤ 6 := by
  have h : x < t 354 1 := h
  rw [K.2.1.2.1, g.1] at h
  have := g.2.1
  omega
theorem zJ_inc {x : Int} (h : 0 ≤ x) (h6 : x ≤ 6) : 0 ≤ zw (x + 1) := by
  rw [zw_id (by omega) (by omega)]
  omega
end FJ
