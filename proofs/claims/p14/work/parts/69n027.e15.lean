/-! what the rule grammar keeps: what is begun, and what waits -/
def zsF : List Int → Nat
  | [] => 0
  | c :: s => (if c = 12 ∨ c = 13 then 1 else 0) + zsF s
def zsB : List Int → Nat
  | [] => 0
  | c :: s => (if c = 91 then 1 else 0) + zsB s
def zsN : List Int → Nat
  | [] => 0
  | c :: s => (if c = 91 then 0 else 1) + zsN s
def zsO : List Int → Prop
  | [] => True
  | c :: s => (c = 91 ∨ c = 11 ∨ (c = 12 ∧ s.head? ≠ some 11 ∧ s.head? ≠ some 12) ∨ (c = 13 ∧ s.head? ≠ some 11 ∧ s.head? ≠ some 12 ∧ s.head? ≠ some 13)) ∧ zsO s
theorem zsF_le : ∀ s : List Int, zsO s → zsF s ≤ 2 * zsB s + 2 ∧ (s.head? ≠ some 11 → s.head? ≠ some 12 → zsF s ≤ 2 * zsB s + 1) ∧ (s.head? ≠ some 11 → s.head? ≠ some 12 → s.head? ≠ some 13 → zsF s ≤ 2 * zsB s)
  | [], _ => ⟨Nat.zero_le _, fun _ _ => Nat.zero_le _, fun _ _ _ => Nat.zero_le _⟩
  | c :: s, h => by
    obtain ⟨i1, i2, i3⟩ := zsF_le s h.2
    have eF : zsF (c :: s) = (if c = 12 ∨ c = 13 then 1 else 0) + zsF s := rfl
    have eB : zsB (c :: s) = (if c = 91 then 1 else 0) + zsB s := rfl
    have eh : (c :: s).head? = some c := rfl
    rw [eF, eB, eh]
    rcases h.1 with rfl | rfl | ⟨rfl, g1, g2⟩ | ⟨rfl, g1, g2, g3⟩
    · rw [if_neg (by decide), if_pos rfl]
      exact ⟨by omega, fun _ _ => by omega, fun _ _ _ => by omega⟩
    · rw [if_neg (by decide), if_neg (by decide)]
      exact ⟨by omega, fun q => absurd rfl q, fun q => absurd rfl q⟩
    · have := i2 g1 g2
      rw [if_pos (Or.inl rfl), if_neg (by decide)]
      exact ⟨by omega, fun _ q => absurd rfl q, fun _ q => absurd rfl q⟩
    · have := i3 g1 g2 g3
      rw [if_pos (Or.inr rfl), if_neg (by decide)]
      exact ⟨by omega, fun _ _ => by omega, fun _ _ q => absurd rfl q⟩
theorem zsB_le : ∀ s : List Int, ((zsB s : Nat) : Int) ≤ zdp s
  | [] => Int.le_refl _
  | c :: s => by
    have := zsB_le s
    have eB : zsB (c :: s) = (if c = 91 then 1 else 0) + zsB s := rfl
    rw [eB, zdp_c]
    by_cases e : c = 91
    · rw [if_pos e, if_pos (Or.inl e)]
      omega
    · rw [if_neg e]
      by_cases e2 : c = 91 ∨ c = 11
      · rw [if_pos e2]
        omega
      · rw [if_neg e2]
        omega
/-- no test is begun -/
abbrev zsT (q k : Nat) : Prop := q = 0 ∨ 6 ≤ q ∨ ((q = 1 ∨ q = 2 ∨ q = 3) ∧ k = 0)
def zP1 (q k : Nat) (a : zW) (s : List Int) : Prop := (zsO s ∧ zdp s ≤ 10) ∧ (zsT q k → s = []) ∧ ((q = 1 ∨ q = 2 ∨ q = 3) → k ≤ 1 ∨ (6 ≤ k ∧ k ≤ 10)) ∧ (q ≤ 6) ∧ (0 ≤ a.1 ∧ a.1 ≤ 60) ∧ (a.2.2.1 = 0 ∨ a.2.2.1 = 2 ∨ a.2.2.1 = 3) ∧ (a.2.2.2.1 = 0 ∨ ((a.2.2.2.1 = 2 ∨ a.2.2.2.1 = 3) ∧ a.2.2.1 = 0) ∨ (a.2.2.2.1 = 4 ∨ a.2.2.2.1 = 5 ∨ a.2.2.2.1 = 14)) ∧ (q ≠ 1 → a.2.2.2.1 = 0) ∧ (q ≠ 1 → q ≠ 2 → a.2.2.1 = 0)
/-- a value's effect on what waits -/
theorem zev_w {a : zW} {c : Int} (h : a.2.2.2.1 = 0 ∨ ((a.2.2.2.1 = 2 ∨ a.2.2.2.1 = 3) ∧ a.2.2.1 = 0) ∨ (a.2.2.2.1 = 4 ∨ a.2.2.2.1 = 5 ∨ a.2.2.2.1 = 14)) : (a.2.2.2.1 = 0 ∧ zev a c = (a.1 + 1, c :: a.2.1, a.2.2.1, 0, a.2.2.2.2)) ∨ ((a.2.2.2.1 = 2 ∨ a.2.2.2.1 = 3) ∧ a.2.2.1 = 0 ∧ zev a c = (a.1 + 1, c :: a.2.1, a.2.2.2.1, 0, a.2.2.2.2)) ∨ ((a.2.2.2.1 = 4 ∨ a.2.2.2.1 = 5 ∨ a.2.2.2.1 = 14) ∧ zev a c = (a.1 + 1, a.2.2.2.1 :: c :: a.2.1, a.2.2.1, 0, a.2.2.2.2)) := by
  rcases h with h | h | h
  · exact Or.inl ⟨h, if_pos h⟩
  · refine Or.inr (Or.inl ⟨h.1, h.2, ?_⟩)
    unfold zev
    rw [if_neg (by omega), if_pos h.1]
  · refine Or.inr (Or.inr ⟨h, ?_⟩)
    unfold zev
    rw [if_neg (by omega), if_neg (by omega)]
theorem zef_w {a : zW} : (a.2.2.1 = 0 ∧ zef a = a) ∨ (a.2.2.1 ≠ 0 ∧ zef a = (a.1, a.2.2.1 :: a.2.1, 0, a.2.2.2)) := by
  by_cases h : a.2.2.1 = 0
  · exact Or.inl ⟨h, if_pos h⟩
  · exact Or.inr ⟨h, if_neg h⟩
section ZP
variable {b : Int → Int} {T : Int}
theorem zP1_step {q k : Nat} {p : Int} {a : zW} {s : List Int} {q' k' : Nat} {p' : Int} {a' : zW} {s' : List Int} (hd : zs_do b T q k p a s q' k' p' a' s') (h : zP1 q k a s) : zP1 q' k' a' s' := by
  obtain ⟨⟨h1, h2⟩, h3, h4, h5, h6, h7, h8, h9, h10⟩ := h
  rcases hd with ⟨d1, d2, d3, -, rfl, rfl⟩ | ⟨d1, dm, d2, d3, -, ⟨c, -, rfl⟩, rfl⟩ | ⟨d1, d2, d3, -, ⟨z, hz, rfl⟩, rfl⟩ | ⟨d1, d2, d3, -, ⟨z, hz, rfl⟩, rfl⟩ | ⟨d1, d2, d3, -, rfl, rfl⟩ | ⟨d1, d0, d2, d3, -, rfl, rfl⟩ | ⟨d1, d0, d2, d3, -, rfl, rfl⟩ | ⟨d1, d0, dm, d2, d3, -, rfl, rfl⟩ | ⟨d1, d0, d2, d3, -, rfl, rfl⟩ | ⟨d1, dz, d2, d3, -, rfl, ds⟩ | ⟨d1, d2, d3, -, rfl, rfl⟩ | ⟨d1, d2, d3, -, rfl, rfl, rfl⟩ | ⟨d1, d2, d3, -, rfl, c, hc, rfl, g1, g2, g3⟩ | ⟨d1, d2, d3, -, c, hc, rfl, rfl⟩ | ⟨d1, d2, d3, -, rfl, c, hc, rfl⟩ | ⟨d1, d2, d3, -, rfl, rfl⟩
  · have w := h10 (by omega) (by omega)
    have v := h9 (by omega)
    exact ⟨⟨h1, h2⟩, fun _ => h3 (Or.inl d1), fun _ => Or.inl (by omega), by omega, h6, h7, Or.inl v, fun _ => v, fun _ _ => w⟩
  · have hs : zsT q' k' → zsT q k := fun z => by unfold zsT at z ⊢; omega
    rcases zev_w (c := c) h8 with ⟨e1, e2⟩ | ⟨e1, e3, e2⟩ | ⟨e1, e2⟩
    · rw [e2]
      exact ⟨⟨h1, h2⟩, fun z => h3 (hs z), fun _ => by rw [d3]; exact h4 (Or.inl d1), by omega, (by show 0 ≤ a.1 + 1 ∧ a.1 + 1 ≤ 60; omega), h7, Or.inl rfl, fun _ => rfl, fun _ q => absurd d2 q⟩
    · rw [e2]
      exact ⟨⟨h1, h2⟩, fun z => h3 (hs z), fun _ => by rw [d3]; exact h4 (Or.inl d1), by omega, (by show 0 ≤ a.1 + 1 ∧ a.1 + 1 ≤ 60; omega), Or.inr e1, Or.inl rfl, fun _ => rfl, fun _ q => absurd d2 q⟩
    · rw [e2]
      exact ⟨⟨h1, h2⟩, fun z => h3 (hs z), fun _ => by rw [d3]; exact h4 (Or.inl d1), by omega, (by show 0 ≤ a.1 + 1 ∧ a.1 + 1 ≤ 60; omega), h7, Or.inl rfl, fun _ => rfl, fun _ q => absurd d2 q⟩
  · have hs : zsT q' k' → zsT q k := fun z => by unfold zsT at z ⊢; omega
    exact ⟨⟨h1, h2⟩, fun z => h3 (hs z), fun _ => by rw [d3]; exact h4 (by omega), by omega, h6, h7, Or.inr (Or.inr hz), fun q => absurd d2 q, fun q => absurd d2 q⟩
  · have hs : zsT q' k' → zsT q k := fun z => by unfold zsT at z ⊢; omega
    have ez : (zef a).1 = a.1 ∧ (zef a).2.2.1 = 0 := by
      rcases zef_w (a := a) with ⟨e1, e2⟩ | ⟨e1, e2⟩
      · rw [e2]; exact ⟨rfl, e1⟩
      · rw [e2]; exact ⟨rfl, rfl⟩
    exact ⟨⟨h1, h2⟩, fun z => h3 (hs z), fun _ => by rw [d3]; exact h4 (by omega), by omega, (by show 0 ≤ (zef a).1 ∧ (zef a).1 ≤ 60; rw [ez.1]; exact h6), Or.inl ez.2, Or.inr (Or.inl ⟨hz, ez.2⟩), fun q => absurd d2 q, fun q => absurd d2 q⟩
  · have hs : zsT q' k' → zsT q k := fun z => by unfold zsT at z ⊢; omega
    have v := h9 (by omega)
    have ez : (zef a).1 = a.1 ∧ (zef a).2.2.1 = 0 ∧ (zef a).2.2.2.1 = 0 := by
      rcases zef_w (a := a) with ⟨e1, e2⟩ | ⟨e1, e2⟩
      · rw [e2]; exact ⟨rfl, e1, v⟩
      · rw [e2]; exact ⟨rfl, rfl, v⟩
    exact ⟨⟨h1, h2⟩, fun z => h3 (hs z), fun _ => by rw [d3]; exact h4 (by omega), by omega, by rw [ez.1]; exact h6, Or.inl ez.2.1, Or.inl ez.2.2, fun _ => ez.2.2, fun _ _ => ez.2.1⟩
  · have hs := h3 (Or.inr (Or.inr ⟨by omega, d0⟩))
    subst hs
    have w := h10 (by omega) (by omega)
    have v := h9 (by omega)
    exact ⟨⟨h1, h2⟩, fun _ => rfl, fun z => by omega, by omega, h6, h7, Or.inl v, fun _ => v, fun _ _ => w⟩
  · have hs := h3 (Or.inr (Or.inr ⟨by omega, d0⟩))
    subst hs
    have w := h10 (by omega) (by omega)
    have v := h9 (by omega)
    exact ⟨⟨h1, h2⟩, fun _ => rfl, fun z => by omega, by omega, h6, h7, Or.inl v, fun _ => v, fun _ _ => w⟩
  · have w := h10 (by omega) (by omega)
    have v := h9 (by omega)
    exact ⟨⟨h1, h2⟩, fun z => by unfold zsT at z; omega, fun _ => Or.inr d3, by omega, (by show 0 ≤ a.1 + 1 ∧ a.1 + 1 ≤ 60; omega), h7, Or.inl v, fun q => absurd d2 q, fun q => absurd d2 q⟩
  · have w := h10 (by omega) (by omega)
    have v := h9 (by omega)
    exact ⟨⟨h1, h2⟩, fun z => by unfold zsT at z; omega, fun z => by omega, by omega, h6, h7, Or.inl v, fun _ => v, fun _ _ => w⟩
  · have w := h10 (by omega) (by omega)
    have v := h9 (by omega)
    rcases ds with ⟨-, rfl⟩ | ⟨-, rfl⟩
    · exact ⟨⟨⟨Or.inr (Or.inl rfl), h1⟩, by rw [zdp_c, if_pos (Or.inr rfl)]; omega⟩, fun z => by unfold zsT at z; omega, fun z => by omega, by omega, h6, h7, Or.inl v, fun _ => v, fun _ _ => w⟩
    · exact ⟨⟨⟨Or.inl rfl, h1⟩, by rw [zdp_c, if_pos (Or.inl rfl)]; omega⟩, fun z => by unfold zsT at z; omega, fun z => by omega, by omega, h6, h7, Or.inl v, fun _ => v, fun _ _ => w⟩
  · have w := h10 (by omega) (by omega)
    have v := h9 (by omega)
    exact ⟨⟨h1, h2⟩, fun z => by unfold zsT at z; omega, fun z => by omega, by omega, h6, h7, Or.inl v, fun _ => v, fun _ _ => w⟩
  · have w := h10 (by omega) (by omega)
    have v := h9 (by omega)
    exact ⟨⟨h1, h2⟩, fun _ => rfl, fun z => by omega, by omega, h6, h7, Or.inl v, fun _ => v, fun _ _ => w⟩
  · have w := h10 (by omega) (by omega)
    have v := h9 (by omega)
    refine ⟨⟨⟨?_, h1⟩, ?_⟩, fun z => by unfold zsT at z; omega, fun z => by omega, by omega, h6, h7, Or.inl v, fun _ => v, fun _ _ => w⟩
    · rcases hc with rfl | rfl
      · exact Or.inr (Or.inr (Or.inl ⟨rfl, g1, g2⟩))
      · exact Or.inr (Or.inr (Or.inr ⟨rfl, g1, g2, fun z => absurd (g3 z) (by decide)⟩))
    · rw [zdp_c, if_neg (by omega)]
      omega
  · have w := h10 (by omega) (by omega)
    have v := h9 (by omega)
    have h0 := zdp_0 s'
    rw [zdp_c] at h2
    refine ⟨⟨h1.2, ?_⟩, fun z => by unfold zsT at z; omega, fun z => by omega, by omega, h6, h7, Or.inl v, fun _ => v, fun _ _ => w⟩
    by_cases e : c = 91 ∨ c = 11
    · rw [if_pos e] at h2; omega
    · rw [if_neg e] at h2; omega
  · have w := h10 (by omega) (by omega)
    have v := h9 (by omega)
    rw [zdp_c] at h2
    refine ⟨⟨h1.2, ?_⟩, fun z => by unfold zsT at z; omega, fun z => by omega, by omega, h6, h7, Or.inl v, fun _ => v, fun _ _ => w⟩
    by_cases e : c = 91 ∨ c = 11
    · rw [if_pos e] at h2; omega
    · rw [if_neg e] at h2; omega
  · have w := h10 (by omega) (by omega)
    have v := h9 (by omega)
    exact ⟨⟨h1, h2⟩, fun _ => h3 (by unfold zsT; omega), fun z => by omega, by omega, h6, h7, Or.inl v, fun _ => v, fun _ _ => w⟩
/-- a number's value, and a word's number -/
theorem zvc_r {p c : Int} (hb : zg_by b) (hT : T ≤ 400) (hp : 0 ≤ p) (h : zvc b T p c) : (∃ v : Int, 0 ≤ v ∧ v ≤ 99999 ∧ c = 0 + 16 * v) ∨ (∃ v : Int, 0 ≤ v ∧ v ≤ 10 ∧ c = 1 + 16 * v) := by
  rcases h with ⟨hk, h5, rfl⟩ | ⟨ha, rfl⟩
  · refine Or.inl ⟨_, ?_, ?_, rfl⟩
    all_goals
      have hkl := zg_kl (b := b) (T := T) (p := p) hb hT hp
      have hte := zg_te_le (b := b) (T := T) (p := p) hb hT hp
      have hr := hkl.2.2.2 hk
      have hin : ∀ i : Nat, i < (zg_te b T p - p).toNat → 48 ≤ b (p + ((i : Nat) : Int)) ∧ b (p + ((i : Nat) : Int)) ≤ 57 := fun i hi => (zg_run_in (b := b) (T := T) (lo := 48) (hi := 57) (p := p) (i := p + ((i : Nat) : Int)) (by omega) (by omega)).2
      have hz := zval_b (b := b) (p := p) (zg_te b T p - p).toNat (by omega) hin
      have hpow : (10 : Int) ^ (zg_te b T p - p).toNat ≤ 100000 := by
        rcases (show (zg_te b T p - p).toNat = 0 ∨ (zg_te b T p - p).toNat = 1 ∨ (zg_te b T p - p).toNat = 2 ∨ (zg_te b T p - p).toNat = 3 ∨ (zg_te b T p - p).toNat = 4 ∨ (zg_te b T p - p).toNat = 5 by omega) with q | q | q | q | q | q <;> rw [q] <;> decide
      unfold zhv
      omega
  · refine Or.inr ⟨zwi b T p, ?_, ?_, rfl⟩
    all_goals
      have hm : ¬ zwi b T p = -1 := fun z => by
        have := (yg_ixm (tok := zg_w b p (zg_te b T p)) (yg_sw 2) 0 (Int.le_refl _)).mp z
        rw [yg_all] at this
        exact this ha.2
      obtain ⟨w, w1, w2, w3⟩ := yg_ixg (yg_sw 2) (zg_w b p (zg_te b T p)) 0 _ rfl hm (Int.le_refl _)
      have hlen : (yg_sw 2).length = 11 := by decide
      have hw : zwi b T p = yg_ix (zg_w b p (zg_te b T p)) (yg_sw 2) 0 := rfl
      have hlt : (yg_ix (zg_w b p (zg_te b T p)) (yg_sw 2) 0 - 0).toNat < (yg_sw 2).length := by
        rcases Nat.lt_or_ge (yg_ix (zg_w b p (zg_te b T p)) (yg_sw 2) 0 - 0).toNat (yg_sw 2).length with q | q
        · exact q
        · rw [List.getElem?_eq_none q] at w1
          cases w1
      omega
end ZP
