/-! the rule grammar as a flat machine over the tape's bytes b, T of them -/
def yw_tell : List Int := [116, 101, 108, 108]
def yw_if : List Int := [105, 102]
def yw_not : List Int := [110, 111, 116]
def yw_and : List Int := [97, 110, 100]
def yw_or : List Int := [111, 114]
def yw_all : List (List Int) := [[116, 101, 108, 108, 101, 114], [104, 101, 97, 114, 101, 114], [102, 108, 111, 111, 114], [98, 101, 108, 108], [99, 104, 97, 105, 114, 115], [115, 105, 110, 99, 101], [104, 111, 109, 101], [116, 104, 101, 114, 101], [107, 110, 111, 119, 110], [110, 105, 103, 104, 116], [116, 119, 105, 115, 116]]
def zg_rn (b : Int → Int) (T lo hi : Int) : Nat → Int → Int
  | 0, p => p
  | f + 1, p => if p < T ∧ lo ≤ b p ∧ b p ≤ hi then zg_rn b T lo hi f (p + 1) else p
/-- where a run of bytes from lo to hi ends -/
def zg_run (b : Int → Int) (T lo hi p : Int) : Int := zg_rn b T lo hi (T - p).toNat p
theorem zg_run_y {b : Int → Int} {T lo hi p : Int} (h : p < T ∧ lo ≤ b p ∧ b p ≤ hi) : zg_run b T lo hi p = zg_run b T lo hi (p + 1) := by
  unfold zg_run
  rw [show (T - p).toNat = (T - (p + 1)).toNat + 1 by omega]
  show (if _ then _ else _) = _
  rw [if_pos h]
theorem zg_run_n {b : Int → Int} {T lo hi p : Int} (h : ¬ (p < T ∧ lo ≤ b p ∧ b p ≤ hi)) : zg_run b T lo hi p = p := by
  unfold zg_run
  cases (T - p).toNat with
  | zero => rfl
  | succ n =>
    show (if _ then _ else _) = _
    rw [if_neg h]
theorem zg_rn_le {b : Int → Int} {T lo hi : Int} : ∀ (f : Nat) (p : Int), p ≤ zg_rn b T lo hi f p ∧ (zg_rn b T lo hi f p ≤ T ∨ zg_rn b T lo hi f p = p)
  | 0, p => ⟨Int.le_refl _, Or.inr rfl⟩
  | f + 1, p => by
    have h := zg_rn_le (b := b) (T := T) (lo := lo) (hi := hi) f (p + 1)
    show p ≤ (if _ then _ else p) ∧ ((if _ then _ else p) ≤ T ∨ (if _ then _ else p) = p)
    by_cases e : p < T ∧ lo ≤ b p ∧ b p ≤ hi
    · rw [if_pos e]
      omega
    · rw [if_neg e]
      exact ⟨Int.le_refl _, Or.inr rfl⟩
theorem zg_run_le {b : Int → Int} {T lo hi p : Int} : p ≤ zg_run b T lo hi p ∧ (zg_run b T lo hi p ≤ T ∨ zg_run b T lo hi p = p) := zg_rn_le _ p
theorem zg_rn_in {b : Int → Int} {T lo hi : Int} : ∀ (f : Nat) (p i : Int), p ≤ i → i < zg_rn b T lo hi f p → i < T ∧ lo ≤ b i ∧ b i ≤ hi
  | 0, p, i, h1, h2 => by
    have h2 : i < p := h2
    omega
  | f + 1, p, i, h1, h2 => by
    have h2 : i < (if p < T ∧ lo ≤ b p ∧ b p ≤ hi then zg_rn b T lo hi f (p + 1) else p) := h2
    by_cases e : p < T ∧ lo ≤ b p ∧ b p ≤ hi
    · rw [if_pos e] at h2
      by_cases ei : i = p
      · subst ei
        exact e
      · exact zg_rn_in f (p + 1) i (by omega) h2
    · rw [if_neg e] at h2
      omega
theorem zg_run_in {b : Int → Int} {T lo hi p i : Int} (h1 : p ≤ i) (h2 : i < zg_run b T lo hi p) : i < T ∧ lo ≤ b i ∧ b i ≤ hi := zg_rn_in _ p i h1 h2
theorem zg_run_end {b : Int → Int} {T lo hi : Int} : ∀ (n : Nat) (p : Int), (T - p).toNat ≤ n → ¬ (zg_run b T lo hi p < T ∧ lo ≤ b (zg_run b T lo hi p) ∧ b (zg_run b T lo hi p) ≤ hi)
  | 0, p, h, z => by
    have := (zg_run_le (b := b) (T := T) (lo := lo) (hi := hi) (p := p)).1
    omega
  | n + 1, p, h, z => by
    by_cases e : p < T ∧ lo ≤ b p ∧ b p ≤ hi
    · rw [zg_run_y e] at z
      exact zg_run_end n (p + 1) (by omega) z
    · rw [zg_run_n e] at z
      exact e z
/-- the byte at p, as a number of 0 or more; -1 behind the last -/
def zg_c (b : Int → Int) (T p : Int) : Int := if p < T then zand (b p) 255 else -1
def zg_kind (b : Int → Int) (T p : Int) : Int :=
  if 97 ≤ zg_c b T p ∧ zg_c b T p ≤ 122 then 97
  else if 48 ≤ zg_c b T p ∧ zg_c b T p ≤ 57 then 48
  else if (p + 1 < T ∧ b (p + 1) = 61) ∧ (zg_c b T p = 60 ∨ zg_c b T p = 62) then (if zg_c b T p = 60 then 256 else 257)
  else zg_c b T p
/-- where the token at p ends -/
def zg_te (b : Int → Int) (T p : Int) : Int :=
  if 97 ≤ zg_c b T p ∧ zg_c b T p ≤ 122 then zg_run b T 97 122 p
  else if 48 ≤ zg_c b T p ∧ zg_c b T p ≤ 57 then zg_run b T 48 57 p
  else if (p + 1 < T ∧ b (p + 1) = 61) ∧ (zg_c b T p = 60 ∨ zg_c b T p = 62) then p + 2
  else if p < T then p + 1 else p
abbrev zg_sk (b : Int → Int) (T p : Int) : Int := zg_run b T 32 32 p
/-- where the next token begins -/
def zg_nx (b : Int → Int) (T p : Int) : Int := zg_sk b T (zg_te b T p)
/-- the bytes from p to q -/
def zg_w (b : Int → Int) (p q : Int) : List Int := (List.range (q - p).toNat).map (fun (i : Nat) => b (p + (i : Int)))
abbrev zg_is (b : Int → Int) (T p : Int) (w : List Int) : Prop := zg_kind b T p = 97 ∧ zg_w b p (zg_te b T p) = w
abbrev zg_any (b : Int → Int) (T p : Int) : Prop := zg_kind b T p = 97 ∧ zg_w b p (zg_te b T p) ∈ yw_all
/-- what is read next (0 tell, 1 a value, 2 behind a value, 3 behind a sum; 4 a fact, 5 behind a fact, 6 behind a clause), of which sum (0 of tell, 1 to the left, 2 to the right), where, how many are made, how many clauses, what is open (true: a bracket, false: a not) -/
abbrev zQ : Type := Nat × Nat × Int × Int × Int × List Bool
def zg_fl (k p : Int) : zQ ⊕ Int := .inr (1 + 8 * p + k)
abbrev zg_ar (k : Int) : Prop := k = 43 ∨ k = 45 ∨ k = 42 ∨ k = 47 ∨ k = 37
abbrev zg_cm (k : Int) : Prop := k = 60 ∨ k = 256 ∨ k = 61 ∨ k = 257 ∨ k = 62
abbrev zg_jn (b : Int → Int) (T p : Int) : Prop := zg_is b T p yw_and ∨ zg_is b T p yw_or
def zg_st (b : Int → Int) (T : Int) : zQ → zQ ⊕ Int
  | (0, _, p, a, l, s) => if zg_is b T p yw_tell then (if l = 12 then zg_fl 4 p else .inl (1, 0, zg_nx b T p, a, l + 1, s)) else zg_fl 0 p
  | (1, k, p, a, l, s) => if zg_kind b T p = 48 then (if 5 < zg_te b T p - p then zg_fl 1 p else if a = 60 then zg_fl 3 p else .inl (2, k, zg_nx b T p, a + 1, l, s)) else if zg_any b T p then (if a = 60 then zg_fl 3 p else .inl (2, k, zg_nx b T p, a + 1, l, s)) else zg_fl 0 p
  | (2, k, p, a, l, s) => if zg_ar (zg_kind b T p) then .inl (1, k, zg_nx b T p, a, l, s) else .inl (3, k, p, a, l, s)
  | (3, 0, p, a, l, s) => if zg_is b T p yw_if then .inl (4, 0, zg_nx b T p, a, l, s) else .inl (6, 0, p, a, l, s)
  | (3, 1, p, a, l, s) => if zg_cm (zg_kind b T p) then (if a = 60 then zg_fl 3 p else .inl (1, 2, zg_nx b T p, a + 1, l, s)) else zg_fl 0 p
  | (3, _, p, a, l, s) => .inl (5, 0, p, a, l, s)
  | (4, _, p, a, l, s) => if zg_is b T p yw_not then (if s.length = 10 then zg_fl 2 p else .inl (4, 0, zg_nx b T p, a, l, false :: s)) else if zg_kind b T p = 91 then (if s.length = 10 then zg_fl 2 p else .inl (4, 0, zg_nx b T p, a, l, true :: s)) else .inl (1, 1, p, a, l, s)
  | (5, _, p, a, l, false :: s) => .inl (5, 0, p, a, l, s)
  | (5, _, p, a, l, true :: s) => if zg_kind b T p = 93 then .inl (5, 0, zg_nx b T p, a, l, s) else if zg_jn b T p then .inl (4, 0, zg_nx b T p, a, l, true :: s) else zg_fl 0 p
  | (5, _, p, a, l, []) => if zg_jn b T p then .inl (4, 0, zg_nx b T p, a, l, []) else .inl (6, 0, p, a, l, [])
  | (_, _, p, a, l, s) => if zg_kind b T p = 59 then .inl (0, 0, zg_nx b T p, a, l, s) else if zg_kind b T p = -1 then .inr 0 else zg_fl 0 p
def zg_it (b : Int → Int) (T : Int) : Nat → zQ → Option zQ
  | 0, S => some S
  | n + 1, S => match zg_st b T S with
    | .inl X => zg_it b T n X
    | .inr _ => none
def zg_to (b : Int → Int) (T : Int) (S S1 : zQ) : Prop := ∃ n, zg_it b T n S = some S1
def zg_end (b : Int → Int) (T : Int) (S : zQ) (f : Int) : Prop := ∃ S1, zg_to b T S S1 ∧ zg_st b T S1 = .inr f
section ZG
variable {b : Int → Int} {T : Int}
theorem zg_refl {S : zQ} : zg_to b T S S := ⟨0, rfl⟩
theorem zg_itt {S1 S2 : zQ} (h : zg_st b T S1 = .inl S2) : ∀ (n : Nat) (S : zQ), zg_it b T n S = some S1 → zg_it b T (n + 1) S = some S2
  | 0, S, e => by
    have e2 : S = S1 := Option.some.inj e
    rw [← e2] at h
    show (match zg_st b T S with
      | .inl X => zg_it b T 0 X
      | .inr _ => none) = _
    rw [h]
    rfl
  | n + 1, S, e => by
    have e : (match zg_st b T S with
      | .inl X => zg_it b T n X
      | .inr _ => none) = some S1 := e
    show (match zg_st b T S with
      | .inl X => zg_it b T (n + 1) X
      | .inr _ => none) = _
    cases hs : zg_st b T S with
    | inl X =>
      rw [hs] at e
      exact zg_itt h n X e
    | inr f =>
      rw [hs] at e
      cases e
theorem zg_tail {S S1 S2 : zQ} (h : zg_to b T S S1) (h' : zg_st b T S1 = .inl S2) : zg_to b T S S2 := by
  obtain ⟨n, hn⟩ := h
  exact ⟨n + 1, zg_itt h' n S hn⟩
theorem zg_one {S S1 : zQ} (h' : zg_st b T S = .inl S1) : zg_to b T S S1 := zg_tail zg_refl h'
theorem zg_trans {S S1 S2 : zQ} (h : zg_to b T S S1) (h' : zg_to b T S1 S2) : zg_to b T S S2 := by
  obtain ⟨n, hn⟩ := h'
  induction n generalizing S1 with
  | zero =>
    have e : S1 = S2 := Option.some.inj hn
    rw [← e]
    exact h
  | succ n ih =>
    have e : (match zg_st b T S1 with
      | .inl X => zg_it b T n X
      | .inr _ => none) = some S2 := hn
    cases hs : zg_st b T S1 with
    | inl X =>
      rw [hs] at e
      exact ih (zg_tail h hs) e
    | inr f =>
      rw [hs] at e
      cases e
theorem zg_tend {S S1 : zQ} {f : Int} (h : zg_to b T S S1) (h' : zg_end b T S1 f) : zg_end b T S f := by
  obtain ⟨S2, h1, h2⟩ := h'
  exact ⟨S2, zg_trans h h1, h2⟩
theorem zg_stop {S : zQ} {f : Int} (h : zg_st b T S = .inr f) : zg_end b T S f := ⟨S, zg_refl, h⟩
theorem zg_detn {A C : zQ} {f g : Int} (hA : zg_st b T A = .inr f) (hC : zg_st b T C = .inr g) : ∀ (n m : Nat) (S : zQ), zg_it b T n S = some A → zg_it b T m S = some C → f = g
  | 0, 0, S, e, e' => by
    have e2 : S = A := Option.some.inj e
    have e3 : S = C := Option.some.inj e'
    rw [← e3, e2, hA] at hC
    exact Sum.inr.inj hC
  | 0, m + 1, S, e, e' => by
    have e2 : S = A := Option.some.inj e
    rw [← e2] at hA
    have e' : (match zg_st b T S with
      | .inl X => zg_it b T m X
      | .inr _ => none) = some C := e'
    rw [hA] at e'
    cases e'
  | n + 1, 0, S, e, e' => by
    have e2 : S = C := Option.some.inj e'
    rw [← e2] at hC
    have e : (match zg_st b T S with
      | .inl X => zg_it b T n X
      | .inr _ => none) = some A := e
    rw [hC] at e
    cases e
  | n + 1, m + 1, S, e, e' => by
    have e : (match zg_st b T S with
      | .inl X => zg_it b T n X
      | .inr _ => none) = some A := e
    have e' : (match zg_st b T S with
      | .inl X => zg_it b T m X
      | .inr _ => none) = some C := e'
    cases hs : zg_st b T S with
    | inl X =>
      rw [hs] at e e'
      exact zg_detn hA hC n m X e e'
    | inr f =>
      rw [hs] at e
      cases e
theorem zg_det {S : zQ} {f g : Int} (h : zg_end b T S f) (h' : zg_end b T S g) : f = g := by
  obtain ⟨A, ⟨n, a1⟩, a2⟩ := h
  obtain ⟨C, ⟨m, c1⟩, c2⟩ := h'
  exact zg_detn a2 c2 n m S a1 c1
end ZG
def zg_by (b : Int → Int) : Prop := ∀ i, 0 ≤ i → i < 400 → -128 ≤ b i ∧ b i ≤ 127
theorem zg_255 {x : Int} (h0 : -128 ≤ x) (h1 : x ≤ 127) : zand x 255 = if x < 0 then x + 256 else x := by
  have k : ∀ n : Nat, n < 256 → zand ((n : Int) - 128) 255 = if (n : Int) - 128 < 0 then (n : Int) - 128 + 256 else (n : Int) - 128 := by decide +kernel
  have q := k (x + 128).toNat (by omega)
  rw [show (((x + 128).toNat : Int) - 128) = x by omega] at q
  exact q
section ZB
variable {b : Int → Int} {T p : Int}
theorem zg_cb (hb : zg_by b) (hT : T ≤ 400) (hp : 0 ≤ p) : (p < T ∧ ((b p < 0 ∧ zg_c b T p = b p + 256) ∨ (0 ≤ b p ∧ zg_c b T p = b p)) ∧ -128 ≤ b p ∧ b p ≤ 127) ∨ (¬ p < T ∧ zg_c b T p = -1) := by
  unfold zg_c
  by_cases e : p < T
  · obtain ⟨h1, h2⟩ := hb p hp (by omega)
    rw [if_pos e, zg_255 h1 h2]
    by_cases e2 : b p < 0
    · rw [if_pos e2]
      exact Or.inl ⟨e, Or.inl ⟨e2, rfl⟩, h1, h2⟩
    · rw [if_neg e2]
      exact Or.inl ⟨e, Or.inr ⟨by omega, rfl⟩, h1, h2⟩
  · rw [if_neg e]
    exact Or.inr ⟨e, rfl⟩
theorem zg_te_le (hb : zg_by b) (hT : T ≤ 400) (hp : 0 ≤ p) : p ≤ zg_te b T p ∧ (p ≤ T → zg_te b T p ≤ T) ∧ (zg_kind b T p ≠ -1 → p < zg_te b T p) := by
  have c := zg_cb hb hT hp
  have r1 := zg_run_le (b := b) (T := T) (lo := 97) (hi := 122) (p := p)
  have r2 := zg_run_le (b := b) (T := T) (lo := 48) (hi := 57) (p := p)
  unfold zg_te zg_kind
  by_cases e1 : 97 ≤ zg_c b T p ∧ zg_c b T p ≤ 122
  · rw [if_pos e1, if_pos e1]
    have y : p < T ∧ 97 ≤ b p ∧ b p ≤ 122 := by omega
    have r3 := zg_run_le (b := b) (T := T) (lo := 97) (hi := 122) (p := p + 1)
    rw [← zg_run_y y] at r3
    omega
  · rw [if_neg e1, if_neg e1]
    by_cases e2 : 48 ≤ zg_c b T p ∧ zg_c b T p ≤ 57
    · rw [if_pos e2, if_pos e2]
      have y : p < T ∧ 48 ≤ b p ∧ b p ≤ 57 := by omega
      have r3 := zg_run_le (b := b) (T := T) (lo := 48) (hi := 57) (p := p + 1)
      rw [← zg_run_y y] at r3
      omega
    · rw [if_neg e2, if_neg e2]
      by_cases e3 : (p + 1 < T ∧ b (p + 1) = 61) ∧ (zg_c b T p = 60 ∨ zg_c b T p = 62)
      · rw [if_pos e3, if_pos e3]
        omega
      · rw [if_neg e3, if_neg e3]
        by_cases e4 : p < T
        · rw [if_pos e4]
          omega
        · rw [if_neg e4]
          omega
theorem zg_nx_le (hb : zg_by b) (hT : T ≤ 400) (hp : 0 ≤ p) : p ≤ zg_nx b T p ∧ (p ≤ T → zg_nx b T p ≤ T) ∧ (zg_kind b T p ≠ -1 → p < zg_nx b T p) := by
  have h := zg_te_le hb hT hp
  have r := zg_run_le (b := b) (T := T) (lo := 32) (hi := 32) (p := zg_te b T p)
  unfold zg_nx zg_sk
  omega
theorem zg_kend (hp : T ≤ p) : zg_kind b T p = -1 := by
  unfold zg_kind zg_c
  rw [if_neg (show ¬ p < T by omega)]
  rw [if_neg (by omega), if_neg (by omega), if_neg (by omega)]
end ZB
