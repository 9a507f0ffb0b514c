/-! how long a rule's code grows -/
def zsk_ (k : Nat) : Int := if 2 ≤ k then 1 else 0
def zsw_ (x : Int) : Int := if x = 0 then 0 else 1
def zsq : Nat → Nat → Int
  | 1, k => zsk_ k
  | 2, k => zsk_ k + 1
  | 3, k => zsk_ k + 1
  | 5, _ => 1
  | _, _ => 0
def zpt (q k : Nat) (a : zW) (s : List Int) : Int := ((a.2.1.length : Nat) : Int) + zsw_ a.2.2.1 + zsw_ a.2.2.2.1 + ((zsN s : Nat) : Int) + zsq q k
def zP2 (b : Int → Int) (T : Int) (q k : Nat) (p : Int) (a : zW) (s : List Int) : Prop := (0 ≤ p ∧ p ≤ T) ∧ ∃ n : Nat, (4 * ((n : Nat) : Int) ≤ p ∨ ((q = 4 ∨ (q = 1 ∧ k = 1)) ∧ 4 * ((n : Nat) : Int) ≤ p + 1 ∧ zg_kind b T p ≠ 97)) ∧ zpt q k a s ≤ 2 * a.1 + ((n : Nat) : Int)
theorem zsk_2 {k : Nat} (h : 2 ≤ k) : zsk_ k = 1 := if_pos h
theorem zsw_0 {x : Int} (h : x = 0) : zsw_ x = 0 := if_pos h
theorem zsw_1 {x : Int} (h : x ≠ 0) : zsw_ x = 1 := if_neg h
section ZP2
variable {b : Int → Int} {T : Int}
theorem zs_nxr {p : Int} (hb : zg_by b) (hT : T ≤ 400) (hp : 0 ≤ p) (hk : zg_kind b T p ≠ -1) : p < zg_nx b T p ∧ (p ≤ T → zg_nx b T p ≤ T) := by
  have hte := zg_te_le (b := b) (T := T) (p := p) hb hT hp
  have rl : zg_te b T p ≤ zg_sk b T (zg_te b T p) ∧ (zg_sk b T (zg_te b T p) ≤ T ∨ zg_sk b T (zg_te b T p) = zg_te b T p) := zg_run_le
  have h := hte.2.2 hk
  unfold zg_nx
  exact ⟨by omega, fun q => by have := hte.2.1 q; omega⟩
theorem zs_not {p : Int} (hb : zg_by b) (hT : T ≤ 400) (hp : 0 ≤ p) (h : zg_is b T p yw_not) : (zg_nx b T p = p + 3 ∧ zg_kind b T (p + 3) ≠ 97) ∨ p + 4 ≤ zg_nx b T p := by
  have hkl := zg_kl (b := b) (T := T) (p := p) hb hT hp
  have hte := zg_te_le (b := b) (T := T) (p := p) hb hT hp
  have ht := hkl.2.1 h.1
  have hl := congrArg List.length h.2
  unfold zg_w at hl
  rw [List.length_map, List.length_range] at hl
  have hl : (zg_te b T p - p).toNat = 3 := hl
  have e : zg_te b T p = p + 3 := by omega
  have rl : zg_te b T p ≤ zg_sk b T (zg_te b T p) ∧ (zg_sk b T (zg_te b T p) ≤ T ∨ zg_sk b T (zg_te b T p) = zg_te b T p) := zg_run_le
  unfold zg_nx
  by_cases e3 : zg_sk b T (zg_te b T p) = p + 3
  · refine Or.inl ⟨e3, fun q => ?_⟩
    have hk3 := (zg_kl (b := b) (T := T) (p := p + 3) hb hT (by omega)).1.mp q
    have hend := zg_run_end (b := b) (T := T) (lo := 97) (hi := 122) _ p (Nat.le_refl _)
    rw [← ht, e] at hend
    exact hend hk3
  · exact Or.inr (by omega)
theorem zP2_step (hb : zg_by b) (hT : T ≤ 400) {q k : Nat} {p : Int} {a : zW} {s : List Int} {q' k' : Nat} {p' : Int} {a' : zW} {s' : List Int} (hd : zs_do b T q k p a s q' k' p' a' s') (h1 : zP1 q k a s) (h : zP2 b T q k p a s) : zP2 b T q' k' p' a' s' := by
  obtain ⟨⟨hO, hz⟩, h3, h4, h5, h6, h7, h8, h9, h10⟩ := h1
  obtain ⟨⟨hp0, hpT⟩, n, hn, hpt⟩ := h
  have nx : ∀ {p' : Int}, zs_nx b T p p' → p < p' ∧ p' ≤ T := fun {p'} z => by
    obtain ⟨rfl, z2⟩ := z
    have := zs_nxr hb hT hp0 z2
    exact ⟨this.1, this.2 hpT⟩
  have stay : ∀ {q' k' : Nat} {a' : zW} {s' : List Int} {p' : Int}, zs_nx b T p p' → zpt q' k' a' s' ≤ 2 * a'.1 + ((n : Nat) : Int) → zP2 b T q' k' p' a' s' := fun {q' k' a' s' p'} z z2 => by
    have := nx z
    exact ⟨⟨by omega, this.2⟩, n, Or.inl (by omega), z2⟩
  have here : ∀ {q' k' : Nat} {a' : zW} {s' : List Int}, 4 * ((n : Nat) : Int) ≤ p → zpt q' k' a' s' ≤ 2 * a'.1 + ((n : Nat) : Int) → zP2 b T q' k' p a' s' := fun z z2 => ⟨⟨hp0, hpT⟩, n, Or.inl z, z2⟩
  unfold zpt at hpt
  rcases hd with ⟨rfl, rfl, rfl, hx, rfl, rfl⟩ | ⟨rfl, dm, rfl, rfl, hx, ⟨c, -, rfl⟩, rfl⟩ | ⟨rfl, rfl, rfl, hx, ⟨z, zz, rfl⟩, rfl⟩ | ⟨rfl, rfl, rfl, hx, ⟨z, zz, rfl⟩, rfl⟩ | ⟨rfl, rfl, rfl, rfl, rfl, rfl⟩ | ⟨rfl, rfl, rfl, rfl, hx, rfl, rfl⟩ | ⟨rfl, rfl, rfl, rfl, rfl, rfl, rfl⟩ | ⟨rfl, rfl, dm, rfl, dk, hx, rfl, rfl⟩ | ⟨rfl, d0, rfl, rfl, rfl, rfl, rfl⟩ | ⟨rfl, dz, rfl, rfl, hx, rfl, ds⟩ | ⟨rfl, rfl, rfl, rfl, rfl, rfl⟩ | ⟨rfl, rfl, rfl, rfl, rfl, rfl, rfl⟩ | ⟨rfl, rfl, rfl, hx, rfl, c, hc, rfl, g1, g2, g3⟩ | ⟨rfl, rfl, rfl, rfl, c, hc, rfl, rfl⟩ | ⟨rfl, rfl, rfl, hx, rfl, c, hc, rfl⟩ | ⟨d1, rfl, rfl, hx, rfl, rfl⟩
  · refine stay hx ?_
    unfold zpt
    have e1 : zsq 0 k = 0 := rfl
    have e2 : zsq 1 0 = 0 := rfl
    omega
  · refine stay hx ?_
    unfold zpt
    have e1 : zsq 1 k' = zsk_ k' := rfl
    have e2 : zsq 2 k' = zsk_ k' + 1 := rfl
    have z0 : zsw_ 0 = 0 := rfl
    rcases zev_w (c := c) h8 with ⟨v1, v2⟩ | ⟨v1, v3, v2⟩ | ⟨v1, v2⟩
    · rw [v2]
      have l1 : (c :: a.2.1).length = a.2.1.length + 1 := rfl
      show (((c :: a.2.1).length : Nat) : Int) + zsw_ a.2.2.1 + zsw_ 0 + ((zsN s' : Nat) : Int) + zsq 2 k' ≤ 2 * (a.1 + 1) + ((n : Nat) : Int)
      have z1 := zsw_0 v1
      omega
    · rw [v2]
      have l1 : (c :: a.2.1).length = a.2.1.length + 1 := rfl
      show (((c :: a.2.1).length : Nat) : Int) + zsw_ a.2.2.2.1 + zsw_ 0 + ((zsN s' : Nat) : Int) + zsq 2 k' ≤ 2 * (a.1 + 1) + ((n : Nat) : Int)
      have z1 := zsw_0 v3
      omega
    · rw [v2]
      have l1 : (a.2.2.2.1 :: c :: a.2.1).length = a.2.1.length + 1 + 1 := rfl
      show (((a.2.2.2.1 :: c :: a.2.1).length : Nat) : Int) + zsw_ a.2.2.1 + zsw_ 0 + ((zsN s' : Nat) : Int) + zsq 2 k' ≤ 2 * (a.1 + 1) + ((n : Nat) : Int)
      have z1 := zsw_1 (x := a.2.2.2.1) (by omega)
      omega
  · refine stay hx ?_
    show ((a.2.1.length : Nat) : Int) + zsw_ a.2.2.1 + zsw_ z + ((zsN s' : Nat) : Int) + zsq 1 k' ≤ 2 * a.1 + ((n : Nat) : Int)
    have e1 : zsq 1 k' = zsk_ k' := rfl
    have e2 : zsq 2 k' = zsk_ k' + 1 := rfl
    have z1 := zsw_0 (h9 (by decide))
    have z2 := zsw_1 (x := z) (by omega)
    omega
  · refine stay hx ?_
    have e1 : zsq 1 k' = zsk_ k' := rfl
    have e2 : zsq 2 k' = zsk_ k' + 1 := rfl
    have z0 : zsw_ 0 = 0 := rfl
    have z1 := zsw_0 (h9 (by decide))
    have z2 := zsw_1 (x := z) (by omega)
    rcases zef_w (a := a) with ⟨v1, v2⟩ | ⟨v1, v2⟩
    · rw [v2]
      show ((a.2.1.length : Nat) : Int) + zsw_ a.2.2.1 + zsw_ z + ((zsN s' : Nat) : Int) + zsq 1 k' ≤ 2 * a.1 + ((n : Nat) : Int)
      omega
    · rw [v2]
      have l1 : (a.2.2.1 :: a.2.1).length = a.2.1.length + 1 := rfl
      show (((a.2.2.1 :: a.2.1).length : Nat) : Int) + zsw_ 0 + zsw_ z + ((zsN s' : Nat) : Int) + zsq 1 k' ≤ 2 * a.1 + ((n : Nat) : Int)
      have z3 := zsw_1 v1
      omega
  · refine here (by omega) ?_
    have e1 : zsq 3 k' = zsk_ k' + 1 := rfl
    have e2 : zsq 2 k' = zsk_ k' + 1 := rfl
    have z0 : zsw_ 0 = 0 := rfl
    rcases zef_w (a := a) with ⟨v1, v2⟩ | ⟨v1, v2⟩
    · rw [v2]
      unfold zpt
      omega
    · rw [v2]
      have l1 : (a.2.2.1 :: a.2.1).length = a.2.1.length + 1 := rfl
      show (((a.2.2.1 :: a.2.1).length : Nat) : Int) + zsw_ 0 + zsw_ a.2.2.2.1 + ((zsN s' : Nat) : Int) + zsq 3 k' ≤ 2 * a.1 + ((n : Nat) : Int)
      have z3 := zsw_1 v1
      omega
  · refine stay hx ?_
    show ((a.2.1.length : Nat) : Int) + zsw_ a.2.2.1 + zsw_ a.2.2.2.1 + ((zsN s' : Nat) : Int) + zsq 4 0 ≤ 2 * a.1 + ((n : Nat) : Int)
    have e1 : zsq 3 0 = 0 + 1 := rfl
    have e2 : zsq 4 0 = 0 := rfl
    omega
  · refine here (by omega) ?_
    show ((a.2.1.length : Nat) : Int) + zsw_ a.2.2.1 + zsw_ a.2.2.2.1 + ((zsN s' : Nat) : Int) + zsq 6 0 ≤ 2 * a.1 + ((n : Nat) : Int)
    have e1 : zsq 3 0 = 0 + 1 := rfl
    have e2 : zsq 6 0 = 0 := rfl
    omega
  · refine stay hx ?_
    show ((a.2.1.length : Nat) : Int) + zsw_ a.2.2.1 + zsw_ a.2.2.2.1 + ((zsN s' : Nat) : Int) + zsq 1 k' ≤ 2 * (a.1 + 1) + ((n : Nat) : Int)
    have e1 : zsq 3 1 = 0 + 1 := rfl
    have e2 : zsq 1 k' = zsk_ k' := rfl
    have e3 := zsk_2 (k := k') (by omega)
    omega
  · refine here (by omega) ?_
    have l1 : (((k : Nat) : Int) :: a.2.1).length = a.2.1.length + 1 := rfl
    show ((((((k : Nat) : Int) :: a.2.1).length : Nat)) : Int) + zsw_ a.2.2.1 + zsw_ a.2.2.2.1 + ((zsN s' : Nat) : Int) + zsq 5 0 ≤ 2 * a.1 + ((n : Nat) : Int)
    have e1 : zsq 3 k = zsk_ k + 1 := rfl
    have e2 : zsq 5 0 = 1 := rfl
    have e3 := zsk_2 d0
    omega
  · have e1 : zsq 4 k = 0 := rfl
    have e2 : zsq 4 0 = 0 := rfl
    rcases ds with ⟨hnot, rfl⟩ | ⟨hk, rfl⟩
    · have hn : 4 * ((n : Nat) : Int) ≤ p := hn.resolve_right (fun z => z.2.2 hnot.1)
      have hx2 := nx hx
      have hq := zs_not hb hT hp0 hnot
      obtain ⟨hx1, -⟩ := hx
      refine ⟨⟨by omega, hx2.2⟩, n + 1, ?_, ?_⟩
      · rw [← hx1] at hq
        rcases hq with ⟨q1, q2⟩ | q1
        · exact Or.inr ⟨Or.inl rfl, by omega, by rw [q1]; exact q2⟩
        · exact Or.inl (by omega)
      · have l1 : zsN (11 :: s) = 1 + zsN s := rfl
        unfold zpt
        omega
    · refine stay hx ?_
      have l1 : zsN (91 :: s) = 0 + zsN s := rfl
      unfold zpt
      omega
  · refine ⟨⟨hp0, hpT⟩, n, ?_, ?_⟩
    · rcases hn with z | ⟨-, z2, z3⟩
      · exact Or.inl z
      · exact Or.inr ⟨Or.inr ⟨rfl, rfl⟩, z2, z3⟩
    · have e1 : zsq 4 k = 0 := rfl
      have e2 : zsq 1 1 = 0 := rfl
      unfold zpt
      omega
  · refine here (by omega) ?_
    show ((a.2.1.length : Nat) : Int) + zsw_ a.2.2.1 + zsw_ a.2.2.2.1 + ((zsN [] : Nat) : Int) + zsq 6 0 ≤ 2 * a.1 + ((n : Nat) : Int)
    have e1 : zsq 5 k = 1 := rfl
    have e2 : zsq 6 0 = 0 := rfl
    omega
  · refine stay hx ?_
    have l1 : zsN (c :: s) = 1 + zsN s := by
      show (if c = 91 then 0 else 1) + zsN s = _
      rw [if_neg (by omega)]
    have e1 : zsq 5 k = 1 := rfl
    have e2 : zsq 4 0 = 0 := rfl
    unfold zpt
    omega
  · refine here (by omega) ?_
    have l1 : zsN (c :: s') = 1 + zsN s' := by
      show (if c = 91 then 0 else 1) + zsN s' = _
      rw [if_neg (by omega)]
    have l2 : (c :: a.2.1).length = a.2.1.length + 1 := rfl
    show (((c :: a.2.1).length : Nat) : Int) + zsw_ a.2.2.1 + zsw_ a.2.2.2.1 + ((zsN s' : Nat) : Int) + zsq 5 0 ≤ 2 * a.1 + ((n : Nat) : Int)
    have e1 : zsq 5 k = 1 := rfl
    have e2 : zsq 5 0 = 1 := rfl
    omega
  · refine stay hx ?_
    have l1 : zsN s' ≤ zsN (c :: s') := Nat.le_add_left _ _
    have e1 : zsq 5 k = 1 := rfl
    have e2 : zsq 5 0 = 1 := rfl
    unfold zpt
    omega
  · refine stay hx ?_
    obtain rfl : q = 6 := by omega
    have e1 : zsq 6 k = 0 := rfl
    have e2 : zsq 0 0 = 0 := rfl
    unfold zpt
    omega
theorem zP2_len {q k : Nat} {p : Int} {a : zW} {s : List Int} (hT : T ≤ 400) (h1 : zP1 q k a s) (h : zP2 b T q k p a s) : a.2.1.length ≤ 220 := by
  obtain ⟨-, -, -, -, h6, -⟩ := h1
  obtain ⟨⟨hp0, hpT⟩, n, hn, hpt⟩ := h
  unfold zpt at hpt
  have w1 : 0 ≤ zsw_ a.2.2.1 := by
    unfold zsw_
    by_cases e : a.2.2.1 = 0
    · rw [if_pos e]; exact Int.le_refl _
    · rw [if_neg e]; decide
  have w2 : 0 ≤ zsw_ a.2.2.2.1 := by
    unfold zsw_
    by_cases e : a.2.2.2.1 = 0
    · rw [if_pos e]; exact Int.le_refl _
    · rw [if_neg e]; decide
  have w4 : 0 ≤ zsk_ k := by
    unfold zsk_
    by_cases e : 2 ≤ k
    · rw [if_pos e]; decide
    · rw [if_neg e]; exact Int.le_refl _
  have w3 : 0 ≤ zsq q k := by
    match q with
    | 0 => exact Int.le_refl _
    | 1 => exact w4
    | 2 => exact Int.add_nonneg w4 (by decide)
    | 3 => exact Int.add_nonneg w4 (by decide)
    | 4 => exact Int.le_refl _
    | 5 => exact (by decide : (0 : Int) ≤ 1)
    | q + 6 => exact Int.le_refl _
  omega
end ZP2
