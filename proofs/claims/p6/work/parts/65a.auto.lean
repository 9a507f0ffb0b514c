/-! the rule grammar as a flat machine over the tape's bytes -/
/-- a byte of the tape -/
def yg_b (B : List Value) (i : Nat) : Int := match B[i]? with
  | some (.int c) => c.toInt
  | _ => 0
theorem yg_bq {B : List Value} {i : Nat} {c : Int32} (h : B[i]? = some (.int c)) : yg_b B i = c.toInt := by
  unfold yg_b
  rw [h]
/-- where a run of bytes from lo to hi ends -/
def yg_rn (B : List Value) (T : Nat) (lo hi : Int) : Nat → Nat → Nat
  | 0, p => p
  | f + 1, p => if p < T ∧ lo ≤ yg_b B p ∧ yg_b B p ≤ hi then yg_rn B T lo hi f (p + 1) else p
def yg_run (B : List Value) (T : Nat) (lo hi : Int) (p : Nat) : Nat := yg_rn B T lo hi 401 p
theorem yg_rnq {B : List Value} {T : Nat} {lo hi : Int} : ∀ (f p q : Nat), p ≤ q → q < p + f → (∀ i, p ≤ i → i < q → i < T ∧ lo ≤ yg_b B i ∧ yg_b B i ≤ hi) → ¬ (q < T ∧ lo ≤ yg_b B q ∧ yg_b B q ≤ hi) → yg_rn B T lo hi f p = q
  | 0, p, q, h1, h2, _, _ => by omega
  | f + 1, p, q, h1, h2, h3, h4 => by
    by_cases e : p = q
    · subst e
      show (if _ then _ else p) = p
      rw [if_neg h4]
    · show (if _ then _ else p) = q
      rw [if_pos (h3 p (Nat.le_refl _) (by omega))]
      exact yg_rnq f (p + 1) q (by omega) (by omega) (fun i a b => h3 i (by omega) b) h4
theorem yg_runq {B : List Value} {T : Nat} {lo hi : Int} {p q : Nat} (h1 : p ≤ q) (h2 : q ≤ 400) (h3 : ∀ i, p ≤ i → i < q → i < T ∧ lo ≤ yg_b B i ∧ yg_b B i ≤ hi) (h4 : ¬ (q < T ∧ lo ≤ yg_b B q ∧ yg_b B q ≤ hi)) : yg_run B T lo hi p = q := yg_rnq 401 p q h1 (by omega) h3 h4
theorem yg_rn0 {B : List Value} {T : Nat} {lo hi : Int} : ∀ (f p : Nat), p ≤ yg_rn B T lo hi f p ∧ (yg_rn B T lo hi f p ≤ T ∨ yg_rn B T lo hi f p = p)
  | 0, p => ⟨Nat.le_refl _, Or.inr rfl⟩
  | f + 1, p => by
    have h := yg_rn0 (B := B) (T := T) (lo := lo) (hi := hi) f (p + 1)
    show p ≤ (if _ then _ else p) ∧ _
    by_cases e : p < T ∧ lo ≤ yg_b B p ∧ yg_b B p ≤ hi
    · have e1 : yg_rn B T lo hi (f + 1) p = yg_rn B T lo hi f (p + 1) := if_pos e
      rw [e1]
      rw [if_pos e]
      omega
    · have e1 : yg_rn B T lo hi (f + 1) p = p := if_neg e
      rw [e1, if_neg e]
      exact ⟨Nat.le_refl _, Or.inr rfl⟩
theorem yg_run0 {B : List Value} {T : Nat} {lo hi : Int} {p : Nat} : p ≤ yg_run B T lo hi p ∧ (yg_run B T lo hi p ≤ T ∨ yg_run B T lo hi p = p) := yg_rn0 401 p
/-- the byte at p, as a number of 0 or more; -1 behind the last -/
def yg_c (B : List Value) (T p : Nat) : Int := if p < T then (if yg_b B p < 0 then yg_b B p + 256 else yg_b B p) else -1
def yg_kind (B : List Value) (T p : Nat) : Int :=
  if 97 ≤ yg_c B T p ∧ yg_c B T p ≤ 122 then 97
  else if 48 ≤ yg_c B T p ∧ yg_c B T p ≤ 57 then 48
  else if (p + 1 < T ∧ yg_b B (p + 1) = 61) ∧ (yg_c B T p = 60 ∨ yg_c B T p = 62) then (if yg_c B T p = 60 then 256 else 257)
  else yg_c B T p
def yg_size (B : List Value) (T p : Nat) : Nat :=
  if 97 ≤ yg_c B T p ∧ yg_c B T p ≤ 122 then yg_run B T 97 122 p - p
  else if 48 ≤ yg_c B T p ∧ yg_c B T p ≤ 57 then yg_run B T 48 57 p - p
  else if (p + 1 < T ∧ yg_b B (p + 1) = 61) ∧ (yg_c B T p = 60 ∨ yg_c B T p = 62) then 2
  else if p < T then 1 else 0
/-- where the next token begins -/
def yg_nx (B : List Value) (T p : Nat) : Nat := yg_run B T 32 32 (p + yg_size B T p)
/-- the token's bytes -/
def yg_w (B : List Value) (p n : Nat) : List Int := (List.range n).map (fun i => yg_b B (p + i))
abbrev yg_is (B : List Value) (T p : Nat) (w : List Int) : Prop := yg_kind B T p = 97 ∧ yg_w B p (yg_size B T p) = w
def yw_tell : List Int := [116, 101, 108, 108]
def yw_if : List Int := [105, 102]
def yw_not : List Int := [110, 111, 116]
def yw_and : List Int := [97, 110, 100]
def yw_or : List Int := [111, 114]
def yw_all : List (List Int) := [[116, 101, 108, 108, 101, 114], [104, 101, 97, 114, 101, 114], [102, 108, 111, 111, 114], [98, 101, 108, 108], [99, 104, 97, 105, 114, 115], [115, 105, 110, 99, 101], [104, 111, 109, 101], [116, 104, 101, 114, 101], [107, 110, 111, 119, 110], [110, 105, 103, 104, 116], [116, 119, 105, 115, 116]]
abbrev yg_any (B : List Value) (T p : Nat) : Prop := yg_kind B T p = 97 ∧ yg_w B p (yg_size B T p) ∈ yw_all
/-- what is read next (0 tell, 1 a value, 2 behind a value, 3 behind a sum; 4 a fact, 5 behind a fact, 6 behind a clause), of which sum (0 of tell, 1 to the left, 2 to the right), where, how many are made, how many clauses, what is open (true: a bracket, false: a not) -/
abbrev yA : Type := Nat × Nat × Nat × Nat × Nat × List Bool
def yg_fl (k p : Nat) : yA ⊕ Nat := .inr (1 + 8 * p + k)
abbrev yg_ar (k : Int) : Prop := k = 43 ∨ k = 45 ∨ k = 42 ∨ k = 47 ∨ k = 37
abbrev yg_cm (k : Int) : Prop := k = 60 ∨ k = 256 ∨ k = 61 ∨ k = 257 ∨ k = 62
abbrev yg_jn (B : List Value) (T p : Nat) : Prop := yg_is B T p yw_and ∨ yg_is B T p yw_or
def yg_st (B : List Value) (T : Nat) : yA → yA ⊕ Nat
  | (0, _, p, a, l, s) => if yg_is B T p yw_tell then (if l = 12 then yg_fl 4 p else .inl (1, 0, yg_nx B T p, a, l + 1, s)) else yg_fl 0 p
  | (1, k, p, a, l, s) => if yg_kind B T p = 48 then (if 5 < yg_size B T p then yg_fl 1 p else if a = 60 then yg_fl 3 p else .inl (2, k, yg_nx B T p, a + 1, l, s)) else if yg_any B T p then (if a = 60 then yg_fl 3 p else .inl (2, k, yg_nx B T p, a + 1, l, s)) else yg_fl 0 p
  | (2, k, p, a, l, s) => if yg_ar (yg_kind B T p) then .inl (1, k, yg_nx B T p, a, l, s) else .inl (3, k, p, a, l, s)
  | (3, 0, p, a, l, s) => if yg_is B T p yw_if then .inl (4, 0, yg_nx B T p, a, l, s) else .inl (6, 0, p, a, l, s)
  | (3, 1, p, a, l, s) => if yg_cm (yg_kind B T p) then (if a = 60 then yg_fl 3 p else .inl (1, 2, yg_nx B T p, a + 1, l, s)) else yg_fl 0 p
  | (3, _, p, a, l, s) => .inl (5, 0, p, a, l, s)
  | (4, _, p, a, l, s) => if yg_is B T p yw_not then (if s.length = 10 then yg_fl 2 p else .inl (4, 0, yg_nx B T p, a, l, false :: s)) else if yg_kind B T p = 91 then (if s.length = 10 then yg_fl 2 p else .inl (4, 0, yg_nx B T p, a, l, true :: s)) else .inl (1, 1, p, a, l, s)
  | (5, _, p, a, l, false :: s) => .inl (5, 0, p, a, l, s)
  | (5, _, p, a, l, true :: s) => if yg_kind B T p = 93 then .inl (5, 0, yg_nx B T p, a, l, s) else if yg_jn B T p then .inl (4, 0, yg_nx B T p, a, l, true :: s) else yg_fl 0 p
  | (5, _, p, a, l, []) => if yg_jn B T p then .inl (4, 0, yg_nx B T p, a, l, []) else .inl (6, 0, p, a, l, [])
  | (_, _, p, a, l, s) => if yg_kind B T p = 59 then .inl (0, 0, yg_nx B T p, a, l, s) else if yg_kind B T p = -1 then .inr 0 else yg_fl 0 p
def yg_it (B : List Value) (T : Nat) : Nat → yA → Option yA
  | 0, S => some S
  | n + 1, S => match yg_st B T S with
    | .inl X => yg_it B T n X
    | .inr _ => none
def yg_to (B : List Value) (T : Nat) (S S1 : yA) : Prop := ∃ n, yg_it B T n S = some S1
def yg_end (B : List Value) (T : Nat) (S : yA) (f : Nat) : Prop := ∃ S1, yg_to B T S S1 ∧ yg_st B T S1 = .inr f
theorem yg_to.refl {B : List Value} {T : Nat} {S : yA} : yg_to B T S S := ⟨0, rfl⟩
theorem yg_itt {B : List Value} {T : Nat} {S1 S2 : yA} (h : yg_st B T S1 = .inl S2) : ∀ (n : Nat) (S : yA), yg_it B T n S = some S1 → yg_it B T (n + 1) S = some S2
  | 0, S, e => by
    have e2 : S = S1 := Option.some.inj e
    rw [← e2] at h
    show (match yg_st B T S with
      | .inl X => yg_it B T 0 X
      | .inr _ => none) = _
    rw [h]
    rfl
  | n + 1, S, e => by
    have e : (match yg_st B T S with
      | .inl X => yg_it B T n X
      | .inr _ => none) = some S1 := e
    show (match yg_st B T S with
      | .inl X => yg_it B T (n + 1) X
      | .inr _ => none) = _
    cases hs : yg_st B T S with
    | inl X =>
      rw [hs] at e
      exact yg_itt h n X e
    | inr f =>
      rw [hs] at e
      cases e
theorem yg_to.tail {B : List Value} {T : Nat} {S S1 S2 : yA} (h : yg_to B T S S1) (h' : yg_st B T S1 = .inl S2) : yg_to B T S S2 := by
  obtain ⟨n, hn⟩ := h
  exact ⟨n + 1, yg_itt h' n S hn⟩
theorem yg_detn {B : List Value} {T : Nat} {A C : yA} {f g : Nat} (hA : yg_st B T A = .inr f) (hC : yg_st B T C = .inr g) : ∀ (n m : Nat) (S : yA), yg_it B T n S = some A → yg_it B T m S = some C → f = g
  | 0, 0, S, e, e' => by
    have e2 : S = A := Option.some.inj e
    have e3 : S = C := Option.some.inj e'
    rw [← e3, e2, hA] at hC
    exact Sum.inr.inj hC
  | 0, m + 1, S, e, e' => by
    have e2 : S = A := Option.some.inj e
    rw [← e2] at hA
    have e' : (match yg_st B T S with
      | .inl X => yg_it B T m X
      | .inr _ => none) = some C := e'
    rw [hA] at e'
    cases e'
  | n + 1, 0, S, e, e' => by
    have e2 : S = C := Option.some.inj e'
    rw [← e2] at hC
    have e : (match yg_st B T S with
      | .inl X => yg_it B T n X
      | .inr _ => none) = some A := e
    rw [hC] at e
    cases e
  | n + 1, m + 1, S, e, e' => by
    have e : (match yg_st B T S with
      | .inl X => yg_it B T n X
      | .inr _ => none) = some A := e
    have e' : (match yg_st B T S with
      | .inl X => yg_it B T m X
      | .inr _ => none) = some C := e'
    cases hs : yg_st B T S with
    | inl X =>
      rw [hs] at e e'
      exact yg_detn hA hC n m X e e'
    | inr f =>
      rw [hs] at e
      cases e
theorem yg_det {B : List Value} {T : Nat} {S : yA} {f g : Nat} (h : yg_end B T S f) (h' : yg_end B T S g) : f = g := by
  obtain ⟨A, ⟨n, a1⟩, a2⟩ := h
  obtain ⟨C, ⟨m, c1⟩, c2⟩ := h'
  exact yg_detn a2 c2 n m S a1 c1
