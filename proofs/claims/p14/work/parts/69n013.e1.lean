/-! the rule grammar once more, with the code that is made: a flat machine over the tape's bytes b, T of them. What is made: how many values and comparisons; the code, the last first (what to do + 16 * with what: 0 a number, 1 a word, 2 to 5 and 14 to count, 6 to 10 to compare, 11 not, 12 and, 13 or); which + or - waits; what the next value is for; the marks, the last first (the code's length behind each clause's sum, and behind the clause) -/
abbrev zW : Type := Int × List Int × Int × Int × List Int
def zep (a : zW) (c : Int) : zW := (a.1, c :: a.2.1, a.2.2)
def zet (a : zW) (t : Int) : zW := (a.1, a.2.1, a.2.2.1, t, a.2.2.2.2)
def ze1 (a : zW) : zW := (a.1 + 1, a.2)
def zem (a : zW) : zW := (a.1, a.2.1, a.2.2.1, a.2.2.2.1, ((a.2.1.length : Nat) : Int) :: a.2.2.2.2)
/-- what waits is put down -/
def zef (a : zW) : zW := if a.2.2.1 = 0 then a else (a.1, a.2.2.1 :: a.2.1, 0, a.2.2.2)
/-- a value is read -/
def zev (a : zW) (c : Int) : zW := if a.2.2.2.1 = 0 then (a.1 + 1, c :: a.2.1, a.2.2.1, 0, a.2.2.2.2) else if a.2.2.2.1 = 2 ∨ a.2.2.2.1 = 3 then (a.1 + 1, c :: a.2.1, a.2.2.2.1, 0, a.2.2.2.2) else (a.1 + 1, a.2.2.2.1 :: c :: a.2.1, a.2.2.1, 0, a.2.2.2.2)
def zao (k : Int) : Int := if k = 43 then 2 else if k = 45 then 3 else if k = 42 then 4 else if k = 47 then 5 else 14
def zco (k : Int) : Nat := if k = 60 then 6 else if k = 256 then 7 else if k = 61 then 8 else if k = 257 then 9 else 10
/-- which word of a rule it is -/
def zwi (b : Int → Int) (T p : Int) : Int := yg_ix (zg_w b p (zg_te b T p)) (yg_sw 2) 0
/-- what is read next, of which sum (0 of tell, 1 to the left, else to the right, and how it is compared), where, what is made, how many clauses, what is begun or waits for a fact -/
abbrev zQe : Type := Nat × Nat × Int × zW × Int × List Int
def zfe_ (k p : Int) (a : zW) : zQe ⊕ (Int × zW) := .inr (1 + 8 * p + k, a)
abbrev zg_mu (k : Int) : Prop := k = 42 ∨ k = 47 ∨ k = 37
abbrev zg_pm (k : Int) : Prop := k = 43 ∨ k = 45
def zjo (b : Int → Int) (T p : Int) : Int := if zg_is b T p yw_and then 12 else 13
def ze_st (b : Int → Int) (T : Int) : zQe → zQe ⊕ (Int × zW)
  | (0, _, p, a, l, s) => if zg_is b T p yw_tell then (if l = 12 then zfe_ 4 p a else .inl (1, 0, zg_nx b T p, a, l + 1, s)) else zfe_ 0 p a
  | (1, k, p, a, l, s) => if zg_kind b T p = 48 then (if 5 < zg_te b T p - p then zfe_ 1 p a else if a.1 = 60 then zfe_ 3 p a else .inl (2, k, zg_nx b T p, zev a (0 + 16 * zhv b T p), l, s)) else if zg_any b T p then (if a.1 = 60 then zfe_ 3 p a else .inl (2, k, zg_nx b T p, zev a (1 + 16 * zwi b T p), l, s)) else zfe_ 0 p a
  | (2, k, p, a, l, s) => if zg_mu (zg_kind b T p) then .inl (1, k, zg_nx b T p, zet a (zao (zg_kind b T p)), l, s) else if zg_pm (zg_kind b T p) then .inl (1, k, zg_nx b T p, zet (zef a) (zao (zg_kind b T p)), l, s) else .inl (3, k, p, zef a, l, s)
  | (3, 0, p, a, l, s) => if zg_is b T p yw_if then .inl (4, 0, zg_nx b T p, zem a, l, s) else .inl (6, 0, p, zem (zem a), l, s)
  | (3, 1, p, a, l, s) => if zg_cm (zg_kind b T p) then (if a.1 = 60 then zfe_ 3 p a else .inl (1, zco (zg_kind b T p), zg_nx b T p, ze1 a, l, s)) else zfe_ 0 p a
  | (3, k, p, a, l, s) => .inl (5, 0, p, zep a ((k : Nat) : Int), l, s)
  | (4, _, p, a, l, s) => if zg_is b T p yw_not then (if zdp s = 10 then zfe_ 2 p a else .inl (4, 0, zg_nx b T p, a, l, 11 :: s)) else if zg_kind b T p = 91 then (if zdp s = 10 then zfe_ 2 p a else .inl (4, 0, zg_nx b T p, a, l, 91 :: s)) else .inl (1, 1, p, a, l, s)
  | (5, _, p, a, l, []) => if zg_jn b T p then .inl (4, 0, zg_nx b T p, a, l, [zjo b T p]) else .inl (6, 0, p, zem a, l, [])
  | (5, _, p, a, l, c :: s) => if c = 11 ∨ c = 12 then .inl (5, 0, p, zep a c, l, s) else if c = 13 then (if zg_is b T p yw_and then .inl (4, 0, zg_nx b T p, a, l, 12 :: 13 :: s) else .inl (5, 0, p, zep a 13, l, s)) else if zg_kind b T p = 93 then .inl (5, 0, zg_nx b T p, a, l, s) else if zg_jn b T p then .inl (4, 0, zg_nx b T p, a, l, zjo b T p :: c :: s) else zfe_ 0 p a
  | (_, _, p, a, l, s) => if zg_kind b T p = 59 then .inl (0, 0, zg_nx b T p, a, l, s) else if zg_kind b T p = -1 then .inr (0, a) else zfe_ 0 p a
def ze_it (b : Int → Int) (T : Int) : Nat → zQe → Option zQe
  | 0, S => some S
  | n + 1, S => match ze_st b T S with
    | .inl X => ze_it b T n X
    | .inr _ => none
def ze_to (b : Int → Int) (T : Int) (S S1 : zQe) : Prop := ∃ n, ze_it b T n S = some S1
def ze_end (b : Int → Int) (T : Int) (S : zQe) (f : Int × zW) : Prop := ∃ S1, ze_to b T S S1 ∧ ze_st b T S1 = .inr f
section ZG
variable {b : Int → Int} {T : Int}
theorem ze_5c {k : Nat} {p : Int} {a : zW} {l c : Int} {s : List Int} : ze_st b T (5, k, p, a, l, c :: s) = if c = 11 ∨ c = 12 then .inl (5, 0, p, zep a c, l, s) else if c = 13 then (if zg_is b T p yw_and then .inl (4, 0, zg_nx b T p, a, l, 12 :: 13 :: s) else .inl (5, 0, p, zep a 13, l, s)) else if zg_kind b T p = 93 then .inl (5, 0, zg_nx b T p, a, l, s) else if zg_jn b T p then .inl (4, 0, zg_nx b T p, a, l, zjo b T p :: c :: s) else zfe_ 0 p a := rfl
theorem ze_5n {k : Nat} {p : Int} {a : zW} {l : Int} : ze_st b T (5, k, p, a, l, []) = if zg_jn b T p then .inl (4, 0, zg_nx b T p, a, l, [zjo b T p]) else .inl (6, 0, p, zem a, l, []) := rfl
theorem ze_2 {k : Nat} {p : Int} {a : zW} {l : Int} {s : List Int} : ze_st b T (2, k, p, a, l, s) = if zg_mu (zg_kind b T p) then .inl (1, k, zg_nx b T p, zet a (zao (zg_kind b T p)), l, s) else if zg_pm (zg_kind b T p) then .inl (1, k, zg_nx b T p, zet (zef a) (zao (zg_kind b T p)), l, s) else .inl (3, k, p, zef a, l, s) := rfl
theorem ze_refl {S : zQe} : ze_to b T S S := ⟨0, rfl⟩
theorem ze_itt {S1 S2 : zQe} (h : ze_st b T S1 = .inl S2) : ∀ (n : Nat) (S : zQe), ze_it b T n S = some S1 → ze_it b T (n + 1) S = some S2
  | 0, S, e => by
    have e2 : S = S1 := Option.some.inj e
    rw [← e2] at h
    show (match ze_st b T S with
      | .inl X => ze_it b T 0 X
      | .inr _ => none) = _
    rw [h]
    rfl
  | n + 1, S, e => by
    have e : (match ze_st b T S with
      | .inl X => ze_it b T n X
      | .inr _ => none) = some S1 := e
    show (match ze_st b T S with
      | .inl X => ze_it b T (n + 1) X
      | .inr _ => none) = _
    cases hs : ze_st b T S with
    | inl X =>
      rw [hs] at e
      exact ze_itt h n X e
    | inr f =>
      rw [hs] at e
      cases e
theorem ze_tail {S S1 S2 : zQe} (h : ze_to b T S S1) (h' : ze_st b T S1 = .inl S2) : ze_to b T S S2 := by
  obtain ⟨n, hn⟩ := h
  exact ⟨n + 1, ze_itt h' n S hn⟩
theorem ze_one {S S1 : zQe} (h' : ze_st b T S = .inl S1) : ze_to b T S S1 := ze_tail ze_refl h'
theorem ze_trans {S S1 S2 : zQe} (h : ze_to b T S S1) (h' : ze_to b T S1 S2) : ze_to b T S S2 := by
  obtain ⟨n, hn⟩ := h'
  induction n generalizing S1 with
  | zero =>
    have e : S1 = S2 := Option.some.inj hn
    rw [← e]
    exact h
  | succ n ih =>
    have e : (match ze_st b T S1 with
      | .inl X => ze_it b T n X
      | .inr _ => none) = some S2 := hn
    cases hs : ze_st b T S1 with
    | inl X =>
      rw [hs] at e
      exact ih (ze_tail h hs) e
    | inr f =>
      rw [hs] at e
      cases e
theorem ze_tend {S S1 : zQe} {f : Int × zW} (h : ze_to b T S S1) (h' : ze_end b T S1 f) : ze_end b T S f := by
  obtain ⟨S2, h1, h2⟩ := h'
  exact ⟨S2, ze_trans h h1, h2⟩
theorem ze_stop {S : zQe} {f : Int × zW} (h : ze_st b T S = .inr f) : ze_end b T S f := ⟨S, ze_refl, h⟩
theorem ze_detn {A C : zQe} {f g : Int × zW} (hA : ze_st b T A = .inr f) (hC : ze_st b T C = .inr g) : ∀ (n m : Nat) (S : zQe), ze_it b T n S = some A → ze_it b T m S = some C → f = g
  | 0, 0, S, e, e' => by
    have e2 : S = A := Option.some.inj e
    have e3 : S = C := Option.some.inj e'
    rw [← e3, e2, hA] at hC
    exact Sum.inr.inj hC
  | 0, m + 1, S, e, e' => by
    have e2 : S = A := Option.some.inj e
    rw [← e2] at hA
    have e' : (match ze_st b T S with
      | .inl X => ze_it b T m X
      | .inr _ => none) = some C := e'
    rw [hA] at e'
    cases e'
  | n + 1, 0, S, e, e' => by
    have e2 : S = C := Option.some.inj e'
    rw [← e2] at hC
    have e : (match ze_st b T S with
      | .inl X => ze_it b T n X
      | .inr _ => none) = some A := e
    rw [hC] at e
    cases e
  | n + 1, m + 1, S, e, e' => by
    have e : (match ze_st b T S with
      | .inl X => ze_it b T n X
      | .inr _ => none) = some A := e
    have e' : (match ze_st b T S with
      | .inl X => ze_it b T m X
      | .inr _ => none) = some C := e'
    cases hs : ze_st b T S with
    | inl X =>
      rw [hs] at e e'
      exact ze_detn hA hC n m X e e'
    | inr f =>
      rw [hs] at e
      cases e
theorem ze_det {S : zQe} {f g : Int × zW} (h : ze_end b T S f) (h' : ze_end b T S g) : f = g := by
  obtain ⟨A, ⟨n, a1⟩, a2⟩ := h
  obtain ⟨C, ⟨m, c1⟩, c2⟩ := h'
  exact ze_detn a2 c2 n m S a1 c1
/-- what holds at the start and of each step holds at the end -/
theorem ze_inv {P : zQe → Prop} (hs : ∀ S S', P S → ze_st b T S = .inl S' → P S') : ∀ (n : Nat) (S S1 : zQe), P S → ze_it b T n S = some S1 → P S1
  | 0, S, S1, h, e => by
    have e2 : S = S1 := Option.some.inj e
    rw [← e2]
    exact h
  | n + 1, S, S1, h, e => by
    have e : (match ze_st b T S with
      | .inl X => ze_it b T n X
      | .inr _ => none) = some S1 := e
    cases hx : ze_st b T S with
    | inl X =>
      rw [hx] at e
      exact ze_inv hs n X S1 (hs S X h hx) e
    | inr f =>
      rw [hx] at e
      cases e
end ZG
