/-! what a rule's code does to a stack: how many numbers, and how many facts below them -/
abbrev zvl (c : Int) : Prop := (c % 16 = 0 ∧ 0 ≤ c / 16 ∧ c / 16 ≤ 99999) ∨ (c % 16 = 1 ∧ 0 ≤ c / 16 ∧ c / 16 ≤ 10)
def zS1 (c : Int) (h : Nat × Nat) : Option (Nat × Nat) :=
  if zvl c then (if h.1 + h.2 < 26 then some (h.1 + 1, h.2) else none)
  else if c = 11 then (if h.1 = 0 ∧ 1 ≤ h.2 then some h else none)
  else if c = 12 ∨ c = 13 then (if h.1 = 0 ∧ 2 ≤ h.2 then some (0, h.2 - 1) else none)
  else if 6 ≤ c ∧ c ≤ 10 then (if h.1 = 2 then some (0, h.2 + 1) else none)
  else if (2 ≤ c ∧ c ≤ 5) ∨ c = 14 then (if 2 ≤ h.1 then some (h.1 - 1, h.2) else none)
  else none
/-- of the n codes from place i on -/
def zsh (f : Nat → Int) (i : Nat) : Nat → Option (Nat × Nat)
  | 0 => some (0, 0)
  | n + 1 => match zsh f i n with
    | some h => zS1 (f (i + n)) h
    | none => none
def zmk (M : List Int) (j : Nat) : Nat := if j = 0 then 0 else (zat M (j - 1)).toNat
/-- the marks cut the code into sums and tests -/
def zGd (o M : List Int) : Prop := ∀ j, j < M.length → zat M j = ((zmk M (j + 1) : Nat) : Int) ∧ zmk M j ≤ zmk M (j + 1) ∧ zmk M (j + 1) ≤ o.length ∧ ((j % 2 = 0 ∧ zsh (zat o) (zmk M j) (zmk M (j + 1) - zmk M j) = some (1, 0)) ∨ (j % 2 = 1 ∧ (zmk M (j + 1) = zmk M j ∨ zsh (zat o) (zmk M j) (zmk M (j + 1) - zmk M j) = some (0, 1))))
def zCu (o M : List Int) (h : Nat × Nat) : Prop := zGd o M ∧ zmk M M.length ≤ o.length ∧ zsh (zat o) (zmk M M.length) (o.length - zmk M M.length) = some h
theorem zsh_cons {c : Int} {o : List Int} {i : Nat} : ∀ n : Nat, i + n ≤ o.length → zsh (zat (c :: o)) i n = zsh (zat o) i n
  | 0, _ => rfl
  | n + 1, h => by
    show (match zsh (zat (c :: o)) i n with
      | some h => zS1 (zat (c :: o) (i + n)) h
      | none => none) = (match zsh (zat o) i n with
      | some h => zS1 (zat o (i + n)) h
      | none => none)
    rw [zsh_cons n (by omega), zat_c, if_neg (by omega)]
theorem zsh_push {c : Int} {o : List Int} {i : Nat} {h : Nat × Nat} (hi : i ≤ o.length) (hh : zsh (zat o) i (o.length - i) = some h) : zsh (zat (c :: o)) i ((c :: o).length - i) = zS1 c h := by
  have e : (c :: o).length - i = (o.length - i) + 1 := by
    show o.length + 1 - i = _
    omega
  rw [e]
  show (match zsh (zat (c :: o)) i (o.length - i) with
    | some h => zS1 (zat (c :: o) (i + (o.length - i))) h
    | none => none) = _
  rw [zsh_cons _ (by omega), hh, zat_c, if_pos (by omega)]
theorem zCu_push {c : Int} {o M : List Int} {h h' : Nat × Nat} (hc : zCu o M h) (hs : zS1 c h = some h') : zCu (c :: o) M h' := by
  obtain ⟨h1, h2, h3⟩ := hc
  refine ⟨fun j hj => ?_, Nat.le_succ_of_le h2, by rw [zsh_push h2 h3]; exact hs⟩
  obtain ⟨g1, g2, g3, g4⟩ := h1 j hj
  refine ⟨g1, g2, Nat.le_succ_of_le g3, ?_⟩
  rw [zsh_cons _ (by omega)]
  exact g4
theorem zmk_l {v : Int} {M : List Int} {j : Nat} (h : j ≤ M.length) : zmk (v :: M) j = zmk M j := by
  unfold zmk
  by_cases e : j = 0
  · rw [if_pos e, if_pos e]
  · rw [if_neg e, if_neg e, zat_c, if_neg (by omega)]
theorem zmk_h {n : Nat} {M : List Int} : zmk (((n : Nat) : Int) :: M) (M.length + 1) = n := by
  unfold zmk
  rw [if_neg (by omega), zat_c, if_pos (by omega)]
  exact Int.toNat_natCast n
theorem zCu_mark {o M : List Int} {h : Nat × Nat} (hc : zCu o M h) (hm : (M.length % 2 = 0 ∧ h = (1, 0)) ∨ (M.length % 2 = 1 ∧ (o.length = zmk M M.length ∨ h = (0, 1)))) : zCu o (((o.length : Nat) : Int) :: M) (0, 0) := by
  obtain ⟨h1, h2, h3⟩ := hc
  refine ⟨fun j hj => ?_, ?_, ?_⟩
  · have hj : j < M.length + 1 := hj
    by_cases e : j = M.length
    · subst e
      rw [zmk_h, zmk_l (Nat.le_refl _), zat_c, if_pos rfl]
      refine ⟨rfl, h2, Nat.le_refl _, ?_⟩
      rcases hm with ⟨m1, m2⟩ | ⟨m1, m2⟩
      · rw [m2] at h3
        exact Or.inl ⟨m1, h3⟩
      · rcases m2 with m2 | m2
        · exact Or.inr ⟨m1, Or.inl m2⟩
        · rw [m2] at h3
          exact Or.inr ⟨m1, Or.inr h3⟩
    · rw [zmk_l (by omega), zmk_l (by omega), zat_c, if_neg e]
      exact h1 j (by omega)
  · show zmk _ (M.length + 1) ≤ _
    rw [zmk_h]
    exact Nat.le_refl _
  · show zsh _ (zmk _ (M.length + 1)) (_ - zmk _ (M.length + 1)) = _
    rw [zmk_h, Nat.sub_self]
    rfl
def zsn_ (x : Int) : Nat := if x = 0 then 0 else 1
def zsl_ (k : Nat) : Nat := if 2 ≤ k then 1 else 0
def zsp (q k : Nat) (a : zW) (s : List Int) : Nat × Nat :=
  match q with
  | 1 => (zsn_ a.2.2.1 + zsn_ a.2.2.2.1 + zsl_ k, zsF s)
  | 2 => (zsn_ a.2.2.1 + 1 + zsl_ k, zsF s)
  | 3 => (1 + zsl_ k, zsF s)
  | 4 => (0, zsF s)
  | 5 => (0, zsF s + 1)
  | _ => (0, 0)
def zP3 (q k : Nat) (a : zW) (s : List Int) : Prop := ((zsT q k ∧ a.2.2.2.2.length % 2 = 0) ∨ (¬ zsT q k ∧ a.2.2.2.2.length % 2 = 1)) ∧ zCu a.2.1 a.2.2.2.2 (zsp q k a s)
theorem zsn_0 {x : Int} (h : x = 0) : zsn_ x = 0 := if_pos h
theorem zsn_1 {x : Int} (h : x ≠ 0) : zsn_ x = 1 := if_neg h
theorem zsn_le {x : Int} : zsn_ x ≤ 1 := by
  by_cases e : x = 0
  · rw [zsn_0 e]; decide
  · rw [zsn_1 e]; decide
theorem zsl_le {k : Nat} : zsl_ k ≤ 1 := by
  unfold zsl_
  by_cases e : 2 ≤ k
  · rw [if_pos e]; decide
  · rw [if_neg e]; decide
theorem zS1_v {c : Int} {h : Nat × Nat} (hc : (∃ v : Int, 0 ≤ v ∧ v ≤ 99999 ∧ c = 0 + 16 * v) ∨ (∃ v : Int, 0 ≤ v ∧ v ≤ 10 ∧ c = 1 + 16 * v)) (hh : h.1 + h.2 < 26) : zS1 c h = some (h.1 + 1, h.2) := by
  have : zvl c := by
    unfold zvl
    rcases hc with ⟨v, h1, h2, rfl⟩ | ⟨v, h1, h2, rfl⟩
    · exact Or.inl (by omega)
    · exact Or.inr (by omega)
  unfold zS1
  rw [if_pos this, if_pos hh]
theorem zvl_n {c : Int} (h2 : 2 ≤ c) (h15 : c ≤ 15) : ¬ zvl c := by
  unfold zvl
  omega
theorem zS1_a {c : Int} {h : Nat × Nat} (hc : (2 ≤ c ∧ c ≤ 5) ∨ c = 14) (hh : 2 ≤ h.1) : zS1 c h = some (h.1 - 1, h.2) := by
  unfold zS1
  rw [if_neg (zvl_n (by omega) (by omega)), if_neg (by omega), if_neg (by omega), if_neg (by omega), if_pos hc, if_pos hh]
theorem zS1_c {c : Int} {h : Nat × Nat} (hc : 6 ≤ c ∧ c ≤ 10) (hh : h.1 = 2) : zS1 c h = some (0, h.2 + 1) := by
  unfold zS1
  rw [if_neg (zvl_n (by omega) (by omega)), if_neg (by omega), if_neg (by omega), if_pos hc, if_pos hh]
theorem zS1_n {h : Nat × Nat} (hh : h.1 = 0 ∧ 1 ≤ h.2) : zS1 11 h = some h := by
  unfold zS1
  rw [if_neg (zvl_n (by omega) (by omega)), if_pos rfl, if_pos hh]
theorem zS1_j {c : Int} {h : Nat × Nat} (hc : c = 12 ∨ c = 13) (hh : h.1 = 0 ∧ 2 ≤ h.2) : zS1 c h = some (0, h.2 - 1) := by
  unfold zS1
  rw [if_neg (zvl_n (by omega) (by omega)), if_neg (by omega), if_pos hc, if_pos hh]
section ZP3
variable {b : Int → Int} {T : Int}
theorem zP3_step (hb : zg_by b) (hT : T ≤ 400) {q k : Nat} {p : Int} {a : zW} {s : List Int} {q' k' : Nat} {p' : Int} {a' : zW} {s' : List Int} (hp : 0 ≤ p) (hd : zs_do b T q k p a s q' k' p' a' s') (h1 : zP1 q k a s) (h : zP3 q k a s) : zP3 q' k' a' s' := by
  obtain ⟨⟨hO, hz⟩, h3, h4, h5, h6, h7, h8, h9, h10⟩ := h1
  obtain ⟨hpar, hcu⟩ := h
  have hF : zsF s ≤ 22 := by
    have := (zsF_le s hO).1
    have := zsB_le s
    omega
  have cast : ∀ {o M : List Int} {x y : Nat × Nat}, zCu o M x → x = y → zCu o M y := fun u v => v ▸ u
  unfold zsT at hpar h3
  unfold zP3 zsT
  rcases hd with ⟨rfl, rfl, rfl, hx, rfl, rfl⟩ | ⟨rfl, dm, rfl, rfl, hx, ⟨c, hc, rfl⟩, rfl⟩ | ⟨rfl, rfl, rfl, hx, ⟨z, zz, rfl⟩, rfl⟩ | ⟨rfl, rfl, rfl, hx, ⟨z, zz, rfl⟩, rfl⟩ | ⟨rfl, rfl, rfl, rfl, rfl, rfl⟩ | ⟨rfl, rfl, rfl, rfl, hx, rfl, rfl⟩ | ⟨rfl, rfl, rfl, rfl, rfl, rfl, rfl⟩ | ⟨rfl, rfl, dm, rfl, dk, hx, rfl, rfl⟩ | ⟨rfl, d0, rfl, rfl, rfl, rfl, rfl⟩ | ⟨rfl, dz, rfl, rfl, hx, rfl, ds⟩ | ⟨rfl, rfl, rfl, rfl, rfl, rfl⟩ | ⟨rfl, rfl, rfl, rfl, rfl, rfl, rfl⟩ | ⟨rfl, rfl, rfl, hx, rfl, c, hc, rfl, g1, g2, g3⟩ | ⟨rfl, rfl, rfl, rfl, c, hc, rfl, rfl⟩ | ⟨rfl, rfl, rfl, hx, rfl, c, hc, rfl⟩ | ⟨d1, rfl, rfl, hx, rfl, rfl⟩
  · have w := zsn_0 (h10 (by decide) (by decide))
    have v := zsn_0 (h9 (by decide))
    have hs := h3 (Or.inl rfl)
    subst hs
    refine ⟨by omega, cast hcu ?_⟩
    show ((0, 0) : Nat × Nat) = (zsn_ a'.2.2.1 + zsn_ a'.2.2.2.1 + zsl_ 0, 0)
    rw [w, v]
    rfl
  · have hv := zvc_r hb hT hp hc
    have l1 := zsn_le (x := a.2.2.1)
    have l2 := zsn_le (x := a.2.2.2.1)
    have l3 := zsl_le (k := k')
    have hcu : zCu a.2.1 a.2.2.2.2 (zsn_ a.2.2.1 + zsn_ a.2.2.2.1 + zsl_ k', zsF s') := hcu
    have c1 := zCu_push hcu (zS1_v hv (by show zsn_ a.2.2.1 + zsn_ a.2.2.2.1 + zsl_ k' + zsF s' < 26; omega))
    clear hv
    rcases zev_w (c := c) h8 with ⟨v1, v2⟩ | ⟨v1, v3, v2⟩ | ⟨v1, v2⟩
    · rw [v2]
      refine ⟨by show _ ∨ _ ∧ a.2.2.2.2.length % 2 = 1; show (_ ∧ a.2.2.2.2.length % 2 = 0) ∨ _; omega, cast c1 (Prod.ext ?_ rfl)⟩
      show zsn_ a.2.2.1 + zsn_ a.2.2.2.1 + zsl_ k' + 1 = zsn_ a.2.2.1 + 1 + zsl_ k'
      have := zsn_0 v1
      omega
    · rw [v2]
      refine ⟨by show _ ∨ _ ∧ a.2.2.2.2.length % 2 = 1; show (_ ∧ a.2.2.2.2.length % 2 = 0) ∨ _; omega, cast c1 (Prod.ext ?_ rfl)⟩
      show zsn_ a.2.2.1 + zsn_ a.2.2.2.1 + zsl_ k' + 1 = zsn_ a.2.2.2.1 + 1 + zsl_ k'
      have := zsn_0 v3
      omega
    · rw [v2]
      have v4 := zsn_1 (x := a.2.2.2.1) (by omega)
      have c2 := zCu_push c1 (zS1_a (c := a.2.2.2.1) (by omega) (by show 2 ≤ zsn_ a.2.2.1 + zsn_ a.2.2.2.1 + zsl_ k' + 1; omega))
      refine ⟨by show _ ∨ _ ∧ a.2.2.2.2.length % 2 = 1; show (_ ∧ a.2.2.2.2.length % 2 = 0) ∨ _; omega, cast c2 (Prod.ext ?_ rfl)⟩
      show zsn_ a.2.2.1 + zsn_ a.2.2.2.1 + zsl_ k' + 1 - 1 = zsn_ a.2.2.1 + 1 + zsl_ k'
      omega
  · refine ⟨by show (_ ∧ a.2.2.2.2.length % 2 = 0) ∨ (_ ∧ a.2.2.2.2.length % 2 = 1); omega, cast (show zCu a.2.1 a.2.2.2.2 (zsn_ a.2.2.1 + 1 + zsl_ k', zsF s') from hcu) (Prod.ext ?_ rfl)⟩
    show zsn_ a.2.2.1 + 1 + zsl_ k' = zsn_ a.2.2.1 + zsn_ z + zsl_ k'
    have := zsn_1 (x := z) (by omega)
    omega
  · have hcu : zCu a.2.1 a.2.2.2.2 (zsn_ a.2.2.1 + 1 + zsl_ k', zsF s') := hcu
    have z1 := zsn_1 (x := z) (by omega)
    have z0 : zsn_ 0 = 0 := rfl
    rcases zef_w (a := a) with ⟨v1, v2⟩ | ⟨v1, v2⟩
    · rw [v2]
      refine ⟨by show (_ ∧ a.2.2.2.2.length % 2 = 0) ∨ (_ ∧ a.2.2.2.2.length % 2 = 1); omega, cast hcu (Prod.ext ?_ rfl)⟩
      show zsn_ a.2.2.1 + 1 + zsl_ k' = zsn_ a.2.2.1 + zsn_ z + zsl_ k'
      omega
    · rw [v2]
      have z3 := zsn_1 v1
      have c1 := zCu_push hcu (zS1_a (c := a.2.2.1) (by omega) (by show 2 ≤ zsn_ a.2.2.1 + 1 + zsl_ k'; omega))
      refine ⟨by show (_ ∧ a.2.2.2.2.length % 2 = 0) ∨ (_ ∧ a.2.2.2.2.length % 2 = 1); omega, cast c1 (Prod.ext ?_ rfl)⟩
      show zsn_ a.2.2.1 + 1 + zsl_ k' - 1 = zsn_ 0 + zsn_ z + zsl_ k'
      omega
  · have hcu : zCu a.2.1 a.2.2.2.2 (zsn_ a.2.2.1 + 1 + zsl_ k', zsF s') := hcu
    rcases zef_w (a := a) with ⟨v1, v2⟩ | ⟨v1, v2⟩
    · rw [v2]
      refine ⟨by omega, cast hcu (Prod.ext ?_ rfl)⟩
      show zsn_ a.2.2.1 + 1 + zsl_ k' = 1 + zsl_ k'
      have z3 := zsn_0 v1
      omega
    · rw [v2]
      have z3 := zsn_1 v1
      have c1 := zCu_push hcu (zS1_a (c := a.2.2.1) (by omega) (by show 2 ≤ zsn_ a.2.2.1 + 1 + zsl_ k'; omega))
      refine ⟨by show (_ ∧ a.2.2.2.2.length % 2 = 0) ∨ (_ ∧ a.2.2.2.2.length % 2 = 1); omega, cast c1 (Prod.ext ?_ rfl)⟩
      show zsn_ a.2.2.1 + 1 + zsl_ k' - 1 = 1 + zsl_ k'
      omega
  · have hs := h3 (Or.inr (Or.inr ⟨Or.inr (Or.inr rfl), rfl⟩))
    subst hs
    have hcu : zCu a.2.1 a.2.2.2.2 (1, 0) := hcu
    have c1 := zCu_mark hcu (Or.inl ⟨by omega, rfl⟩)
    refine ⟨?_, c1⟩
    show (_ ∧ (a.2.2.2.2.length + 1) % 2 = 0) ∨ (_ ∧ (a.2.2.2.2.length + 1) % 2 = 1)
    omega
  · have hs := h3 (Or.inr (Or.inr ⟨Or.inr (Or.inr rfl), rfl⟩))
    subst hs
    have hcu : zCu a.2.1 a.2.2.2.2 (1, 0) := hcu
    have c1 := zCu_mark hcu (Or.inl ⟨by omega, rfl⟩)
    have c2 := zCu_mark c1 (Or.inr ⟨by show (a.2.2.2.2.length + 1) % 2 = 1; omega, Or.inl zmk_h.symm⟩)
    refine ⟨?_, c2⟩
    show (_ ∧ (a.2.2.2.2.length + 1 + 1) % 2 = 0) ∨ (_ ∧ (a.2.2.2.2.length + 1 + 1) % 2 = 1)
    omega
  · have w := zsn_0 (h10 (by decide) (by decide))
    have v := zsn_0 (h9 (by decide))
    have hcu : zCu a.2.1 a.2.2.2.2 (1, zsF s') := hcu
    refine ⟨by show (_ ∧ a.2.2.2.2.length % 2 = 0) ∨ (_ ∧ a.2.2.2.2.length % 2 = 1); omega, cast hcu (Prod.ext ?_ rfl)⟩
    show 1 = zsn_ a.2.2.1 + zsn_ a.2.2.2.1 + zsl_ k'
    have e3 : zsl_ k' = 1 := if_pos (by omega)
    omega
  · have hk := h4 (Or.inr (Or.inr rfl))
    have e3 : zsl_ k = 1 := if_pos d0
    have hcu : zCu a.2.1 a.2.2.2.2 (1 + zsl_ k, zsF s') := hcu
    have c1 := zCu_push hcu (zS1_c (c := ((k : Nat) : Int)) (by omega) (by show 1 + zsl_ k = 2; omega))
    exact ⟨by show (_ ∧ a.2.2.2.2.length % 2 = 0) ∨ (_ ∧ a.2.2.2.2.length % 2 = 1); omega, c1⟩
  · rcases ds with ⟨-, rfl⟩ | ⟨-, rfl⟩
    · exact ⟨by omega, cast hcu (by show ((0, zsF s) : Nat × Nat) = (0, 0 + zsF s); rw [Nat.zero_add])⟩
    · exact ⟨by omega, cast hcu (by show ((0, zsF s) : Nat × Nat) = (0, 0 + zsF s); rw [Nat.zero_add])⟩
  · have w := zsn_0 (h10 (by decide) (by decide))
    have v := zsn_0 (h9 (by decide))
    refine ⟨by omega, cast hcu ?_⟩
    show ((0, zsF s') : Nat × Nat) = (zsn_ a'.2.2.1 + zsn_ a'.2.2.2.1 + zsl_ 1, zsF s')
    rw [w, v]
    rfl
  · have hcu : zCu a.2.1 a.2.2.2.2 (0, 1) := hcu
    have c1 := zCu_mark hcu (Or.inr ⟨by omega, Or.inr rfl⟩)
    refine ⟨?_, c1⟩
    show (_ ∧ (a.2.2.2.2.length + 1) % 2 = 0) ∨ (_ ∧ (a.2.2.2.2.length + 1) % 2 = 1)
    omega
  · refine ⟨by omega, cast hcu ?_⟩
    show ((0, zsF s + 1) : Nat × Nat) = (0, (if c = 12 ∨ c = 13 then 1 else 0) + zsF s)
    rw [if_pos hc, Nat.add_comm]
  · have hcu : zCu a.2.1 a.2.2.2.2 (0, (if c = 12 ∨ c = 13 then 1 else 0) + zsF s' + 1) := hcu
    refine ⟨by show (_ ∧ a.2.2.2.2.length % 2 = 0) ∨ (_ ∧ a.2.2.2.2.length % 2 = 1); omega, ?_⟩
    by_cases e : c = 11
    · subst e
      rw [if_neg (by decide)] at hcu
      have c1 := zCu_push hcu (zS1_n ⟨rfl, by show 1 ≤ 0 + zsF s' + 1; omega⟩)
      exact cast c1 (by show ((0, 0 + zsF s' + 1) : Nat × Nat) = (0, zsF s' + 1); rw [Nat.zero_add])
    · rw [if_pos (by omega)] at hcu
      have c1 := zCu_push hcu (zS1_j (c := c) (by omega) ⟨rfl, by show 2 ≤ 1 + zsF s' + 1; omega⟩)
      exact cast c1 (by show ((0, 1 + zsF s' + 1 - 1) : Nat × Nat) = (0, zsF s' + 1); rw [show 1 + zsF s' + 1 - 1 = zsF s' + 1 by omega])
  · have hcu : zCu a'.2.1 a'.2.2.2.2 (0, (if c = 12 ∨ c = 13 then 1 else 0) + zsF s' + 1) := hcu
    rw [if_neg (by omega)] at hcu
    exact ⟨by omega, cast hcu (by show ((0, 0 + zsF s' + 1) : Nat × Nat) = (0, zsF s' + 1); rw [Nat.zero_add])⟩
  · obtain rfl : q = 6 := by omega
    exact ⟨by omega, hcu⟩
/-- what holds of all that is made -/
theorem ze_good (hb : zg_by b) (hT : T ≤ 400) {p : Int} {f : Int} {w : zW} (hp : 0 ≤ p ∧ p ≤ T) (h : ze_end b T (0, 0, p, zW0, 0, []) (f, w)) (hf : f = 0) : w.2.1.length ≤ 220 ∧ zGd w.2.1 w.2.2.2.2 ∧ w.2.2.2.2.length % 2 = 0 := by
  obtain ⟨S1, ⟨n, h1⟩, h2⟩ := h
  have q1 : zP1 0 0 zW0 [] := ⟨⟨trivial, by decide⟩, fun _ => rfl, fun z => Or.inl (by omega), by decide, by decide, Or.inl rfl, Or.inl rfl, fun _ => rfl, fun _ _ => rfl⟩
  have q2 : zP2 b T 0 0 p zW0 [] := ⟨hp, 0, Or.inl (by omega), by decide⟩
  have q3 : zP3 0 0 zW0 [] := ⟨Or.inl ⟨Or.inl rfl, rfl⟩, ⟨fun j hj => absurd hj (Nat.not_lt_zero j), Nat.le_refl _, rfl⟩⟩
  have inv := ze_inv (P := fun S => (0 ≤ S.2.2.1) ∧ zP1 S.1 S.2.1 S.2.2.2.1 S.2.2.2.2.2 ∧ zP2 b T S.1 S.2.1 S.2.2.1 S.2.2.2.1 S.2.2.2.2.2 ∧ zP3 S.1 S.2.1 S.2.2.2.1 S.2.2.2.2.2) (fun S S' hP hS => by
    obtain ⟨q, k, p, a, l, s⟩ := S
    obtain ⟨q', k', p', a', l', s'⟩ := S'
    obtain ⟨i1, i2, i3, i4⟩ := hP
    have hd := zs_step hS
    have j3 := zP2_step hb hT hd i2 i3
    exact ⟨j3.1.1, zP1_step hd i2, j3, zP3_step hb hT i1 hd i2 i4⟩) n (0, 0, p, zW0, 0, []) S1 ⟨hp.1, q1, q2, q3⟩ h1
  obtain ⟨q, k, p1, a, l, s⟩ := S1
  obtain ⟨i1, i2, i3, i4⟩ := inv
  -- the last step is that of all read
  have hq : 6 ≤ q ∧ w = a := by
    subst hf
    match q, k, s, h2 with
    | 0, k, s, h2 =>
      have h2 : (if zg_is b T p1 yw_tell then (if l = 12 then zfe_ 4 p1 a else .inl (1, 0, zg_nx b T p1, a, l + 1, s)) else zfe_ 0 p1 a : zQe ⊕ (Int × zW)) = .inr (0, w) := h2
      have i1 : 0 ≤ p1 := i1
      by_cases c1 : zg_is b T p1 yw_tell
      · rw [if_pos c1] at h2
        by_cases c2 : l = 12
        · rw [if_pos c2] at h2
          have := congrArg Prod.fst (Sum.inr.inj h2)
          have : 1 + 8 * p1 + 4 = 0 := this
          omega
        · rw [if_neg c2] at h2
          cases h2
      · rw [if_neg c1] at h2
        have := congrArg Prod.fst (Sum.inr.inj h2)
        have : 1 + 8 * p1 + 0 = 0 := this
        omega
    | 1, k, s, h2 =>
      have h2 : (if zg_kind b T p1 = 48 then (if 5 < zg_te b T p1 - p1 then zfe_ 1 p1 a else if a.1 = 60 then zfe_ 3 p1 a else .inl (2, k, zg_nx b T p1, zev a (0 + 16 * zhv b T p1), l, s)) else if zg_any b T p1 then (if a.1 = 60 then zfe_ 3 p1 a else .inl (2, k, zg_nx b T p1, zev a (1 + 16 * zwi b T p1), l, s)) else zfe_ 0 p1 a : zQe ⊕ (Int × zW)) = .inr (0, w) := h2
      have i1 : 0 ≤ p1 := i1
      have bad : ∀ c : Int, 0 ≤ c → (zfe_ c p1 a : zQe ⊕ (Int × zW)) = .inr (0, w) → False := fun c hc e => by
        have := congrArg Prod.fst (Sum.inr.inj e)
        have : 1 + 8 * p1 + c = 0 := this
        omega
      by_cases c1 : zg_kind b T p1 = 48
      · rw [if_pos c1] at h2
        by_cases c2 : 5 < zg_te b T p1 - p1
        · rw [if_pos c2] at h2
          exact (bad 1 (by decide) h2).elim
        · rw [if_neg c2] at h2
          by_cases c3 : a.1 = 60
          · rw [if_pos c3] at h2
            exact (bad 3 (by decide) h2).elim
          · rw [if_neg c3] at h2
            cases h2
      · rw [if_neg c1] at h2
        by_cases c2 : zg_any b T p1
        · rw [if_pos c2] at h2
          by_cases c3 : a.1 = 60
          · rw [if_pos c3] at h2
            exact (bad 3 (by decide) h2).elim
          · rw [if_neg c3] at h2
            cases h2
        · rw [if_neg c2] at h2
          exact (bad 0 (by decide) h2).elim
    | 2, k, s, h2 =>
      have h2 : (if zg_mu (zg_kind b T p1) then .inl (1, k, zg_nx b T p1, zet a (zao (zg_kind b T p1)), l, s) else if zg_pm (zg_kind b T p1) then .inl (1, k, zg_nx b T p1, zet (zef a) (zao (zg_kind b T p1)), l, s) else .inl (3, k, p1, zef a, l, s) : zQe ⊕ (Int × zW)) = .inr (0, w) := h2
      by_cases c1 : zg_mu (zg_kind b T p1)
      · rw [if_pos c1] at h2
        cases h2
      · rw [if_neg c1] at h2
        by_cases c2 : zg_pm (zg_kind b T p1)
        · rw [if_pos c2] at h2
          cases h2
        · rw [if_neg c2] at h2
          cases h2
    | 3, 0, s, h2 =>
      have h2 : (if zg_is b T p1 yw_if then .inl (4, 0, zg_nx b T p1, zem a, l, s) else .inl (6, 0, p1, zem (zem a), l, s) : zQe ⊕ (Int × zW)) = .inr (0, w) := h2
      by_cases c1 : zg_is b T p1 yw_if
      · rw [if_pos c1] at h2
        cases h2
      · rw [if_neg c1] at h2
        cases h2
    | 3, 1, s, h2 =>
      have h2 : (if zg_cm (zg_kind b T p1) then (if a.1 = 60 then zfe_ 3 p1 a else .inl (1, zco (zg_kind b T p1), zg_nx b T p1, ze1 a, l, s)) else zfe_ 0 p1 a : zQe ⊕ (Int × zW)) = .inr (0, w) := h2
      have i1 : 0 ≤ p1 := i1
      have bad : ∀ c : Int, 0 ≤ c → (zfe_ c p1 a : zQe ⊕ (Int × zW)) = .inr (0, w) → False := fun c hc e => by
        have := congrArg Prod.fst (Sum.inr.inj e)
        have : 1 + 8 * p1 + c = 0 := this
        omega
      by_cases c1 : zg_cm (zg_kind b T p1)
      · rw [if_pos c1] at h2
        by_cases c2 : a.1 = 60
        · rw [if_pos c2] at h2
          exact (bad 3 (by decide) h2).elim
        · rw [if_neg c2] at h2
          cases h2
      · rw [if_neg c1] at h2
        exact (bad 0 (by decide) h2).elim
    | 3, k + 2, s, h2 =>
      have h2 : (.inl (5, 0, p1, zep a ((k + 2 : Nat) : Int), l, s) : zQe ⊕ (Int × zW)) = .inr (0, w) := h2
      cases h2
    | 4, k, s, h2 =>
      have h2 : (if zg_is b T p1 yw_not then (if zdp s = 10 then zfe_ 2 p1 a else .inl (4, 0, zg_nx b T p1, a, l, 11 :: s)) else if zg_kind b T p1 = 91 then (if zdp s = 10 then zfe_ 2 p1 a else .inl (4, 0, zg_nx b T p1, a, l, 91 :: s)) else .inl (1, 1, p1, a, l, s) : zQe ⊕ (Int × zW)) = .inr (0, w) := h2
      have i1 : 0 ≤ p1 := i1
      have bad : ∀ c : Int, 0 ≤ c → (zfe_ c p1 a : zQe ⊕ (Int × zW)) = .inr (0, w) → False := fun c hc e => by
        have := congrArg Prod.fst (Sum.inr.inj e)
        have : 1 + 8 * p1 + c = 0 := this
        omega
      by_cases c1 : zg_is b T p1 yw_not
      · rw [if_pos c1] at h2
        by_cases c2 : zdp s = 10
        · rw [if_pos c2] at h2
          exact (bad 2 (by decide) h2).elim
        · rw [if_neg c2] at h2
          cases h2
      · rw [if_neg c1] at h2
        by_cases c3 : zg_kind b T p1 = 91
        · rw [if_pos c3] at h2
          by_cases c2 : zdp s = 10
          · rw [if_pos c2] at h2
            exact (bad 2 (by decide) h2).elim
          · rw [if_neg c2] at h2
            cases h2
        · rw [if_neg c3] at h2
          cases h2
    | 5, k, [], h2 =>
      have h2 : (if zg_jn b T p1 then .inl (4, 0, zg_nx b T p1, a, l, [zjo b T p1]) else .inl (6, 0, p1, zem a, l, []) : zQe ⊕ (Int × zW)) = .inr (0, w) := h2
      by_cases c1 : zg_jn b T p1
      · rw [if_pos c1] at h2
        cases h2
      · rw [if_neg c1] at h2
        cases h2
    | 5, k, c :: s, h2 =>
      have h2 : (if c = 11 ∨ c = 12 then .inl (5, 0, p1, zep a c, l, s) else if c = 13 then (if zg_is b T p1 yw_and then .inl (4, 0, zg_nx b T p1, a, l, 12 :: 13 :: s) else .inl (5, 0, p1, zep a 13, l, s)) else if zg_kind b T p1 = 93 then .inl (5, 0, zg_nx b T p1, a, l, s) else if zg_jn b T p1 then .inl (4, 0, zg_nx b T p1, a, l, zjo b T p1 :: c :: s) else zfe_ 0 p1 a : zQe ⊕ (Int × zW)) = .inr (0, w) := h2
      have i1 : 0 ≤ p1 := i1
      by_cases c1 : c = 11 ∨ c = 12
      · rw [if_pos c1] at h2
        cases h2
      · rw [if_neg c1] at h2
        by_cases c2 : c = 13
        · rw [if_pos c2] at h2
          by_cases c3 : zg_is b T p1 yw_and
          · rw [if_pos c3] at h2
            cases h2
          · rw [if_neg c3] at h2
            cases h2
        · rw [if_neg c2] at h2
          by_cases c3 : zg_kind b T p1 = 93
          · rw [if_pos c3] at h2
            cases h2
          · rw [if_neg c3] at h2
            by_cases c4 : zg_jn b T p1
            · rw [if_pos c4] at h2
              cases h2
            · rw [if_neg c4] at h2
              have := congrArg Prod.fst (Sum.inr.inj h2)
              have : 1 + 8 * p1 + 0 = 0 := this
              omega
    | q + 6, k, s, h2 =>
      have h2 : (if zg_kind b T p1 = 59 then .inl (0, 0, zg_nx b T p1, a, l, s) else if zg_kind b T p1 = -1 then .inr (0, a) else zfe_ 0 p1 a : zQe ⊕ (Int × zW)) = .inr (0, w) := h2
      have i1 : 0 ≤ p1 := i1
      by_cases c1 : zg_kind b T p1 = 59
      · rw [if_pos c1] at h2
        cases h2
      · rw [if_neg c1] at h2
        by_cases c2 : zg_kind b T p1 = -1
        · rw [if_pos c2] at h2
          cases h2
          exact ⟨by omega, rfl⟩
        · rw [if_neg c2] at h2
          have := congrArg Prod.fst (Sum.inr.inj h2)
          have : 1 + 8 * p1 + 0 = 0 := this
          omega
  obtain ⟨hq6, rfl⟩ := hq
  refine ⟨zP2_len hT i2 i3, i4.2.1, ?_⟩
  rcases i4.1 with ⟨-, z⟩ | ⟨z, -⟩
  · exact z
  · exact absurd (Or.inr (Or.inl hq6)) z
end ZP3
