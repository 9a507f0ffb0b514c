/-! the numbers on the stack as a rule's code runs, and the class's running of it -/
def zbn (c x y : Int) : Int := if c = 2 then zq (x + y) else if c = 3 then zq (x - y) else if c = 4 then zq (x * y) else if c = 5 then (if y = 0 then 0 else zqdiv x y) else if c = 14 then (if y = 0 then 0 else zqrem x y) else if c = 6 then (if x < y then 1 else 0) else if c = 7 then (if x ≤ y then 1 else 0) else if c = 8 then (if x = y then 1 else 0) else if c = 9 then (if y ≤ x then 1 else 0) else if c = 10 then (if y < x then 1 else 0) else if c = 12 then zqand x y else zqor x y
def zv1 (ws : Int → Int) (c : Int) (v : List Int) : List Int :=
  if c % 16 = 0 then (c / 16) :: v
  else if c % 16 = 1 then ws (c / 16) :: v
  else if c = 11 then (match v with
    | x :: r => zq (1 - x) :: r
    | [] => [])
  else (match v with
    | y :: x :: r => zbn c x y :: r
    | _ => v)
def zvs (ws : Int → Int) (f : Nat → Int) (i : Nat) : Nat → List Int
  | 0 => []
  | n + 1 => zv1 ws (f (i + n)) (zvs ws f i n)
abbrev z01 (x : Int) : Prop := x = 0 ∨ x = 1
/-- the stack's shape -/
def zvh (v : List Int) (h : Nat × Nat) : Prop := v.length = h.1 + h.2 ∧ h.1 + h.2 ≤ 26 ∧ ∀ x ∈ v.drop h.1, z01 x
theorem zbn_c {c x y : Int} (hc : 6 ≤ c ∧ c ≤ 10) : z01 (zbn c x y) := by
  have w : ∀ (P : Prop) [Decidable P], z01 (if P then 1 else 0) := fun P _ => by
    by_cases e : P
    · rw [if_pos e]; exact Or.inr rfl
    · rw [if_neg e]; exact Or.inl rfl
  unfold zbn
  rw [if_neg (by omega), if_neg (by omega), if_neg (by omega), if_neg (by omega), if_neg (by omega)]
  by_cases e6 : c = 6
  · rw [if_pos e6]; exact w _
  · rw [if_neg e6]
    by_cases e7 : c = 7
    · rw [if_pos e7]; exact w _
    · rw [if_neg e7]
      by_cases e8 : c = 8
      · rw [if_pos e8]; exact w _
      · rw [if_neg e8]
        by_cases e9 : c = 9
        · rw [if_pos e9]; exact w _
        · rw [if_neg e9, if_pos (by omega)]; exact w _
theorem zbn_j {c x y : Int} (hc : c = 12 ∨ c = 13) (hx : z01 x) (hy : z01 y) : z01 (zbn c x y) := by
  rcases hc with rfl | rfl <;> rcases hx with rfl | rfl <;> rcases hy with rfl | rfl <;> decide
theorem zv1_v {ws : Int → Int} {c : Int} {v : List Int} (hc : zvl c) : zv1 ws c v = (if c % 16 = 0 then c / 16 else ws (c / 16)) :: v := by
  unfold zv1
  rcases hc with ⟨h, -, -⟩ | ⟨h, -, -⟩
  · rw [if_pos h, if_pos h]
  · have n0 : ¬ c % 16 = 0 := by omega
    rw [if_neg n0, if_pos h, if_neg n0]
theorem zv1_n {ws : Int → Int} {x : Int} {r : List Int} : zv1 ws 11 (x :: r) = zq (1 - x) :: r := by
  unfold zv1
  rw [if_neg (by decide), if_neg (by decide), if_pos rfl]
theorem zv1_b {ws : Int → Int} {c x y : Int} {r : List Int} (hc : 2 ≤ c ∧ c ≤ 14 ∧ c ≠ 11) : zv1 ws c (y :: x :: r) = zbn c x y :: r := by
  unfold zv1
  rw [if_neg (by omega), if_neg (by omega), if_neg hc.2.2]
/-- which step it is -/
theorem zS1_cs {c : Int} {h h' : Nat × Nat} (e : zS1 c h = some h') : (zvl c ∧ h.1 + h.2 < 26 ∧ h' = (h.1 + 1, h.2)) ∨ (c = 11 ∧ h.1 = 0 ∧ 1 ≤ h.2 ∧ h' = h) ∨ ((c = 12 ∨ c = 13) ∧ h.1 = 0 ∧ 2 ≤ h.2 ∧ h' = (0, h.2 - 1)) ∨ ((6 ≤ c ∧ c ≤ 10) ∧ h.1 = 2 ∧ h' = (0, h.2 + 1)) ∨ (((2 ≤ c ∧ c ≤ 5) ∨ c = 14) ∧ 2 ≤ h.1 ∧ h' = (h.1 - 1, h.2)) := by
  unfold zS1 at e
  by_cases c1 : zvl c
  · rw [if_pos c1] at e
    by_cases d : h.1 + h.2 < 26
    · rw [if_pos d] at e
      exact Or.inl ⟨c1, d, (Option.some.inj e).symm⟩
    · rw [if_neg d] at e
      cases e
  · rw [if_neg c1] at e
    by_cases c2 : c = 11
    · rw [if_pos c2] at e
      by_cases d : h.1 = 0 ∧ 1 ≤ h.2
      · rw [if_pos d] at e
        exact Or.inr (Or.inl ⟨c2, d.1, d.2, (Option.some.inj e).symm⟩)
      · rw [if_neg d] at e
        cases e
    · rw [if_neg c2] at e
      by_cases c3 : c = 12 ∨ c = 13
      · rw [if_pos c3] at e
        by_cases d : h.1 = 0 ∧ 2 ≤ h.2
        · rw [if_pos d] at e
          exact Or.inr (Or.inr (Or.inl ⟨c3, d.1, d.2, (Option.some.inj e).symm⟩))
        · rw [if_neg d] at e
          cases e
      · rw [if_neg c3] at e
        by_cases c4 : 6 ≤ c ∧ c ≤ 10
        · rw [if_pos c4] at e
          by_cases d : h.1 = 2
          · rw [if_pos d] at e
            exact Or.inr (Or.inr (Or.inr (Or.inl ⟨c4, d, (Option.some.inj e).symm⟩)))
          · rw [if_neg d] at e
            cases e
        · rw [if_neg c4] at e
          by_cases c5 : (2 ≤ c ∧ c ≤ 5) ∨ c = 14
          · rw [if_pos c5] at e
            by_cases d : 2 ≤ h.1
            · rw [if_pos d] at e
              exact Or.inr (Or.inr (Or.inr (Or.inr ⟨c5, d, (Option.some.inj e).symm⟩)))
            · rw [if_neg d] at e
              cases e
          · rw [if_neg c5] at e
            cases e
theorem zvh_1 {ws : Int → Int} {c : Int} {h h' : Nat × Nat} {v : List Int} (e : zS1 c h = some h') (hv : zvh v h) : zvh (zv1 ws c v) h' := by
  obtain ⟨v1, v2, v3⟩ := hv
  rcases zS1_cs e with ⟨c1, d, rfl⟩ | ⟨rfl, d1, d2, rfl⟩ | ⟨c1, d1, d2, rfl⟩ | ⟨c1, d1, rfl⟩ | ⟨c1, d1, rfl⟩
  · rw [zv1_v c1]
    exact ⟨by show v.length + 1 = h.1 + 1 + h.2; omega, by show h.1 + 1 + h.2 ≤ 26; omega, v3⟩
  · match v, v1, v3 with
    | [], v1, v3 =>
      have v1 : 0 = h'.1 + h'.2 := v1
      omega
    | x :: r, v1, v3 =>
      rw [zv1_n]
      rw [d1] at v3
      refine ⟨v1, v2, ?_⟩
      rw [d1]
      intro y hy
      rcases List.mem_cons.mp hy with rfl | hy
      · rcases v3 x List.mem_cons_self with z | z <;> rw [z] <;> decide
      · exact v3 y (List.mem_cons_of_mem _ hy)
  · match v, v1, v3 with
    | [], v1, v3 =>
      have v1 : 0 = h.1 + h.2 := v1
      omega
    | [x], v1, v3 =>
      have v1 : 0 + 1 = h.1 + h.2 := v1
      omega
    | y :: x :: r, v1, v3 =>
      have v1 : r.length + 1 + 1 = h.1 + h.2 := v1
      rw [zv1_b (by omega)]
      rw [d1] at v3
      refine ⟨by show r.length + 1 = 0 + (h.2 - 1); omega, by show 0 + (h.2 - 1) ≤ 26; omega, ?_⟩
      intro u hu
      rcases List.mem_cons.mp hu with rfl | hu
      · exact zbn_j c1 (v3 x (List.mem_cons_of_mem _ List.mem_cons_self)) (v3 y List.mem_cons_self)
      · exact v3 u (List.mem_cons_of_mem _ (List.mem_cons_of_mem _ hu))
  · match v, v1, v3 with
    | [], v1, v3 =>
      have v1 : 0 = h.1 + h.2 := v1
      omega
    | [x], v1, v3 =>
      have v1 : 0 + 1 = h.1 + h.2 := v1
      omega
    | y :: x :: r, v1, v3 =>
      have v1 : r.length + 1 + 1 = h.1 + h.2 := v1
      rw [zv1_b (by omega)]
      rw [d1] at v3
      refine ⟨by show r.length + 1 = 0 + (h.2 + 1); omega, by show 0 + (h.2 + 1) ≤ 26; omega, ?_⟩
      intro u hu
      rcases List.mem_cons.mp hu with rfl | hu
      · exact zbn_c c1
      · exact v3 u hu
  · match v, v1, v3 with
    | [], v1, v3 =>
      have v1 : 0 = h.1 + h.2 := v1
      omega
    | [x], v1, v3 =>
      have v1 : 0 + 1 = h.1 + h.2 := v1
      omega
    | y :: x :: r, v1, v3 =>
      have v1 : r.length + 1 + 1 = h.1 + h.2 := v1
      rw [zv1_b (by omega)]
      obtain ⟨k, hk⟩ : ∃ k, h.1 = k + 1 + 1 := ⟨h.1 - 2, by omega⟩
      rw [hk] at v3
      refine ⟨by show r.length + 1 = h.1 - 1 + h.2; omega, by show h.1 - 1 + h.2 ≤ 26; omega, ?_⟩
      rw [show (h.1 - 1, h.2).1 = k + 1 by show h.1 - 1 = k + 1; omega]
      exact v3
theorem zvh_n {ws : Int → Int} {f : Nat → Int} {i : Nat} : ∀ (n : Nat) {h : Nat × Nat}, zsh f i n = some h → zvh (zvs ws f i n) h
  | 0, h, e => by
    have e : (0, 0) = h := Option.some.inj e
    subst e
    exact ⟨rfl, by decide, fun x hx => by cases hx⟩
  | n + 1, h, e => by
    have e : (match zsh f i n with
      | some h => zS1 (f (i + n)) h
      | none => none) = some h := e
    cases e0 : zsh f i n with
    | none =>
      rw [e0] at e
      cases e
    | some h0 =>
      rw [e0] at e
      exact zvh_1 e (zvh_n n e0)
theorem zsh_pre {f : Nat → Int} {i n : Nat} {h : Nat × Nat} (e : zsh f i (n + 1) = some h) : ∃ h0, zsh f i n = some h0 ∧ zS1 (f (i + n)) h0 = some h := by
  have e : (match zsh f i n with
    | some h => zS1 (f (i + n)) h
    | none => none) = some h := e
  cases e0 : zsh f i n with
  | none =>
    rw [e0] at e
    cases e
  | some h0 =>
    rw [e0] at e
    exact ⟨h0, rfl, e⟩
/-! taking a code apart -/
theorem zb_and15 {x : Int} (h0 : 0 ≤ x) (h1 : x < 2147483648) : zand x 15 = x % 16 := by
  obtain ⟨n, rfl⟩ := Int.eq_ofNat_of_zero_le h0
  show ((BitVec.ofInt 32 ((n : Nat) : Int)) &&& (BitVec.ofInt 32 15)).toInt = _
  have e1 : ((BitVec.ofInt 32 ((n : Nat) : Int)) &&& (BitVec.ofInt 32 15)).toNat = n % 16 := by
    rw [BitVec.toNat_and, BitVec.toNat_ofInt]
    have e2 : (((n : Nat) : Int) % ((2 ^ 32 : Nat) : Int)).toNat = n := by
      have : ((2 ^ 32 : Nat) : Int) = 4294967296 := by decide
      rw [this]
      omega
    rw [e2]
    exact Nat.and_two_pow_sub_one_eq_mod n 4
  rw [BitVec.toInt_eq_toNat_of_lt (by rw [e1]; have : (2 : Nat) ^ 32 = 4294967296 := by decide
                                      omega), e1]
  omega
theorem zb_shr4 {x : Int} (h0 : 0 ≤ x) (h1 : x < 2147483648) : zshr x 4 = x / 16 := by
  have e : ((Int32.ofInt 4 &&& 31).toBitVec).smod 32 = (4 : BitVec 32) := by decide
  show ((BitVec.ofInt 32 x).sshiftRight' (((Int32.ofInt 4 &&& 31).toBitVec).smod 32)).toInt = _
  rw [e]
  show ((BitVec.ofInt 32 x).sshiftRight 4).toInt = _
  have e1 : (-2 ^ (32 - 1) : Int) = -2147483648 := by decide
  have e2 : (2 ^ (32 - 1) : Int) = 2147483648 := by decide
  rw [BitVec.toInt_sshiftRight, BitVec.toInt_ofInt_eq_self (by decide) (by rw [e1]; omega) (by rw [e2]; omega), Int.shiftRight_eq_div_pow]
  rfl
theorem zcm_at {c : Int} (h : zvl c ∨ (2 ≤ c ∧ c ≤ 14)) : zand (zcm c) 15 = zom (c % 16) ∧ zshr (zcm c) 4 = c / 16 ∧ zand c 15 = c % 16 ∧ zshr c 4 = c / 16 := by
  have hr : 0 ≤ c ∧ c < 1600000 := by
    rcases h with (h | h) | h <;> omega
  have hz : 0 ≤ zom (c % 16) ∧ zom (c % 16) < 16 := by
    unfold zom
    by_cases e1 : c % 16 = 14
    · rw [if_pos e1]; omega
    · rw [if_neg e1]
      by_cases e2 : c % 16 = 11
      · rw [if_pos e2]; omega
      · rw [if_neg e2]
        by_cases e3 : 6 ≤ c % 16 ∧ c % 16 ≤ 10
        · rw [if_pos e3]; omega
        · rw [if_neg e3]; omega
  have hc : zcm c = c - c % 16 + zom (c % 16) := rfl
  rw [zb_and15 (by omega) (by omega), zb_shr4 (by omega) (by omega), zb_and15 (by omega) (by omega), zb_shr4 (by omega) (by omega), hc]
  omega
/-- the stack's numbers, the lowest first -/
def zVk (st : Int) (v : List Int) (s : zS) : Prop := ∀ j : Nat, j < v.length → s st ((j : Nat) : Int) = zat v j
theorem zVk_push {st : Int} {v : List Int} {s : zS} {x : Int} (h : zVk st v s) : zVk st (x :: v) (zu s st ((v.length : Nat) : Int) x) := by
  intro j hj
  have hj : j < v.length + 1 := hj
  rw [zat_c]
  by_cases e : j = v.length
  · rw [if_pos e, e, zu_hit]
  · rw [if_neg e, zu_place (by omega)]
    exact h j (by omega)
theorem zVk_tl {st : Int} {v : List Int} {s : zS} {x : Int} (h : zVk st (x :: v) s) : zVk st v s ∧ s st ((v.length : Nat) : Int) = x := by
  refine ⟨fun j hj => ?_, ?_⟩
  · have := h j (Nat.lt_succ_of_lt hj)
    rw [zat_c, if_neg (by omega)] at this
    exact this
  · have := h v.length (Nat.lt_succ_self _)
    rw [zat_c, if_pos rfl] at this
    exact this
