/-! what a value of the machine stands for -/
/-- what is fixed for a run: class numbers and slots, array classes, where the heap began, the cells that were there ahead of it, the script's numbers, the script's cell -/
abbrev xs_Z : Type := va_G × (Nat → ClassId) × Nat × (Nat → Nat) × (Nat → Int32) × Cell × Heap
abbrev xs_n (Z : xs_Z) : Nat → Int32 := Z.2.2.2.2.1
abbrev xs_b (Z : xs_Z) : Nat := Z.2.2.1
def xs_rho (Z : xs_Z) (j : Nat) : Nat := if j < 7 then Z.2.2.2.1 j else xs_b Z + (j - 7)
def xs_sh (xs : Nat → Int32) (n : Nat) : Int32 := if n / 32 % 2 = 1 then (xs (n / 64) >>> (Int32.ofNat (n % 32) &&& 31)).toInt8.toInt32 else xs (n / 64) >>> (Int32.ofNat (n % 32) &&& 31)
def xs_cv (Z : xs_Z) (v : Value) : Value := match v with
  | .ref j => .ref (xs_rho Z j)
  | .retAddr k => .int (xs_n Z k)
  | .double u => .long (xs_n Z u.toNat).toInt64
  | .float u => .int (xs_sh (xs_n Z) u.toNat)
  | .int x => .int x
  | .long x => .long x
  | .null => .null
def xs_cvp (Z : xs_Z) (q : Nat × Value) : Nat × Value := (q.1, xs_cv Z q.2)
def xs_sat (Z : xs_Z) (E : xm_R) : Prop := ∀ (i : Nat) (lo hi : Int), E[i]? = some (lo, hi) → lo ≤ (xs_n Z i).toInt ∧ (xs_n Z i).toInt ≤ hi
section XS
variable {Z : xs_Z} {E : xm_R}
theorem xs_cat (v : Value) : (xs_cv Z v).category = v.category := by cases v <;> rfl
theorem xs_cat2 (v : Value) : v.category = cond (xm_isL v) 2 1 := by cases v <;> rfl
theorem xs_cat1 {v : Value} (h : xm_cat1 v = true) : (xs_cv Z v).category = 1 := by
  rw [xs_cat, xs_cat2]
  unfold xm_cat1 at h
  cases hl : xm_isL v with
  | true => rw [hl] at h; cases h
  | false => rfl
theorem xs_I {v : Value} (h : xm_isI v = true) : ∃ x, xs_cv Z v = .int x := by
  cases v <;> first | exact ⟨_, rfl⟩ | cases h
theorem xs_L {v : Value} (h : xm_isL v = true) : ∃ x, xs_cv Z v = .long x := by
  cases v <;> first | exact ⟨_, rfl⟩ | cases h
theorem xs_A {v : Value} (h : xm_isA v = true) : (v = .null ∧ xs_cv Z v = .null) ∨ ∃ j, v = .ref j ∧ xs_cv Z v = .ref (xs_rho Z j) := by
  cases v <;> first | exact Or.inl ⟨rfl, rfl⟩ | exact Or.inr ⟨_, rfl, rfl⟩ | cases h
theorem xs_sat_put {i : Nat} {lo hi : Int} (h : xs_sat Z E) (h1 : lo ≤ (xs_n Z i).toInt) (h2 : (xs_n Z i).toInt ≤ hi) : xs_sat Z (xm_put (lo, hi) E i) := by
  intro j l k hj
  rw [xl_put, List.getElem?_set] at hj
  by_cases e : i = j
  · subst e
    simp only [if_true] at hj
    split at hj
    · cases hj
      exact ⟨h1, h2⟩
    · cases hj
  · rw [if_neg e] at hj
    exact h j l k hj
theorem xs_conc {v : Value} {k : xm_R → Int32 → Bool} (h : xm_conc E v k = true) (hs : xs_sat Z E) : ∃ E' x, k E' x = true ∧ xs_sat Z E' ∧ xs_cv Z v = .int x := by
  cases v with
  | int x => exact ⟨E, x, h, hs, rfl⟩
  | retAddr i =>
    have h : (match xm_nth E i with
      | some (lo, hi) => cond (decide (hi - lo < 16)) (xm_all lo (hi - lo + 1).toNat (fun c => k (xm_put (c, c) E i) (Int32.ofInt c))) false
      | none => false) = true := h
    rw [xl_nth] at h
    cases hE : E[i]? with
    | none => rw [hE] at h; cases h
    | some q =>
      obtain ⟨lo, hi⟩ := q
      rw [hE] at h
      have hb := hs i lo hi hE
      cases hd : decide (hi - lo < 16) with
      | false =>
        simp only [hd, cond_false] at h
        cases h
      | true =>
        simp only [hd, cond_true] at h
        have h1 := xl_all h (xs_n Z i).toInt hb.1 (by omega)
        refine ⟨_, _, h1, xs_sat_put hs (Int.le_refl _) (Int.le_refl _), ?_⟩
        show Value.int (xs_n Z i) = .int (Int32.ofInt (xs_n Z i).toInt)
        rw [Int32.ofInt_toInt]
  | _ => cases h
theorem xs_split {i : Nat} {c : Int} {k : xm_R → Int → Bool} (h : xm_split E i c k = true) (hs : xs_sat Z E) : ∃ E', k E' (xm_sgn (xs_n Z i).toInt c) = true ∧ xs_sat Z E' := by
  unfold xm_split at h
  rw [xl_nth] at h
  cases hE : E[i]? with
  | none => rw [hE] at h; cases h
  | some q =>
    obtain ⟨lo, hi⟩ := q
    rw [hE] at h
    have hb := hs i lo hi hE
    simp only [Bool.and_eq_true] at h
    obtain ⟨h1, h2, h3⟩ := h
    unfold xm_sgn
    by_cases a : (xs_n Z i).toInt < c
    · have a1 : decide (lo < c) = true := decide_eq_true (by omega)
      rw [a1] at h1
      rw [decide_eq_true a]
      exact ⟨_, h1, xs_sat_put hs hb.1 (by omega)⟩
    · rw [decide_eq_false a]
      by_cases b : (xs_n Z i).toInt = c
      · have a1 : (decide (lo ≤ c) && decide (c ≤ hi)) = true := by
          rw [decide_eq_true (by omega), decide_eq_true (by omega)]; rfl
        rw [a1] at h2
        rw [decide_eq_true b]
        exact ⟨_, h2, xs_sat_put hs (by omega) (by omega)⟩
      · have a1 : decide (c < hi) = true := decide_eq_true (by omega)
        rw [a1] at h3
        rw [decide_eq_false b]
        exact ⟨_, h3, xs_sat_put hs (by omega) hb.2⟩
theorem xs_sgn_neg (a b : Int) : - xm_sgn a b = xm_sgn b a := by
  unfold xm_sgn
  by_cases h1 : a < b
  · rw [decide_eq_true h1, decide_eq_false (show ¬ b < a by omega), decide_eq_false (show ¬ b = a by omega)]
    rfl
  · rw [decide_eq_false h1]
    by_cases h2 : a = b
    · rw [decide_eq_true h2, decide_eq_false (show ¬ b < a by omega), decide_eq_true h2.symm]
      rfl
    · rw [decide_eq_false h2, decide_eq_true (show b < a by omega)]
      rfl
theorem xs_cmpI {v w : Value} {k : xm_R → Int → Bool} (h : xm_cmpI E v w k = true) (hs : xs_sat Z E) : ∃ E' x y, k E' (xm_sgn (Int32.toInt x) (Int32.toInt y)) = true ∧ xs_sat Z E' ∧ xs_cv Z v = .int x ∧ xs_cv Z w = .int y := by
  cases v with
  | int x =>
    cases w with
    | int y => exact ⟨E, x, y, h, hs, rfl, rfl⟩
    | retAddr j =>
      have h : xm_split E j x.toInt (fun E s => k E (-s)) = true := h
      obtain ⟨E', h1, h2⟩ := xs_split h hs
      rw [xs_sgn_neg] at h1
      exact ⟨E', x, xs_n Z j, h1, h2, rfl, rfl⟩
    | _ => cases h
  | retAddr i =>
    cases w with
    | int y =>
      have h : xm_split E i y.toInt k = true := h
      obtain ⟨E', h1, h2⟩ := xs_split h hs
      exact ⟨E', xs_n Z i, y, h1, h2, rfl, rfl⟩
    | retAddr j =>
      have h7 : (bif Nat.beq i j then k E 0 else false) = true := h
      cases hb : Nat.beq i j with
      | false => rw [hb] at h7; cases h7
      | true =>
        rw [hb] at h7
        have h8 : k E 0 = true := h7
        have e := Nat.eq_of_beq_eq_true hb
        subst e
        refine ⟨E, xs_n Z i, xs_n Z i, ?_, hs, rfl, rfl⟩
        have : xm_sgn (xs_n Z i).toInt (xs_n Z i).toInt = 0 := by
          unfold xm_sgn
          rw [decide_eq_false (Int.lt_irrefl _), decide_eq_true rfl]
          rfl
        rw [this]
        exact h8
    | _ => cases h
  | _ => cases w <;> cases h
theorem xs_i64 (x : Int32) : x.toInt64.toInt = x.toInt := by simp
theorem xs_cmpL {v w : Value} {k : xm_R → Int → Bool} (h : xm_cmpL E v w k = true) (hs : xs_sat Z E) : ∃ E' x y, k E' (xm_sgn (Int64.toInt x) (Int64.toInt y)) = true ∧ xs_sat Z E' ∧ xs_cv Z v = .long x ∧ xs_cv Z w = .long y := by
  cases v with
  | long x =>
    cases w with
    | long y => exact ⟨E, x, y, h, hs, rfl, rfl⟩
    | double j =>
      have h : xm_split E j.toNat x.toInt (fun E s => k E (-s)) = true := h
      obtain ⟨E', h1, h2⟩ := xs_split h hs
      rw [xs_sgn_neg] at h1
      exact ⟨E', x, (xs_n Z j.toNat).toInt64, by rw [xs_i64]; exact h1, h2, rfl, rfl⟩
    | _ => cases h
  | double i =>
    cases w with
    | long y =>
      have h : xm_split E i.toNat y.toInt k = true := h
      obtain ⟨E', h1, h2⟩ := xs_split h hs
      exact ⟨E', (xs_n Z i.toNat).toInt64, y, by rw [xs_i64]; exact h1, h2, rfl, rfl⟩
    | _ => cases h
  | _ => cases w <;> cases h
theorem xs_set1 (l : xm_L) (i : Nat) (v : Value) : (xm_set1 l i v).map (xs_cvp Z) = (i, xs_cv Z v) :: (l.map (xs_cvp Z)).filter (fun q => !(q.1 == i) && !(q.1 + 1 == i && q.2.category == 2)) := by
  unfold xm_set1
  rw [List.map_cons, List.filter_map]
  congr 2
  apply List.filter_congr
  intro q _
  show _ = (!(q.1 == i) && !(q.1 + 1 == i && (xs_cv Z q.2).category == 2))
  rw [xs_cat]
theorem xs_set2 (l : xm_L) (i : Nat) (v : Value) : (xm_set2 l i v).map (xs_cvp Z) = (i, xs_cv Z v) :: (l.map (xs_cvp Z)).filter (fun q => !(q.1 == i) && (!(q.1 == i + 1) && !(q.1 + 1 == i && q.2.category == 2))) := by
  unfold xm_set2
  rw [List.map_cons, List.filter_map]
  congr 2
  apply List.filter_congr
  intro q _
  show _ = (!(q.1 == i) && (!(q.1 == i + 1) && !(q.1 + 1 == i && (xs_cv Z q.2).category == 2)))
  rw [xs_cat]
theorem xs_get {ls : Array Slot} {nL : Nat} {l : xm_L} {i : Nat} {w : Value} (h : lv_has ls nL (l.map (xs_cvp Z))) (hw : xm_get l i = some w) : ls[i]? = some (.val (xs_cv Z w)) :=
  h.2.2 (i, xs_cv Z w) (List.mem_map.mpr ⟨(i, w), xl_get l i w hw, rfl⟩)
theorem xs_getk {l : xm_L} {i : Nat} {w : Value} (hw : xm_get l i = some w) : ∃ k : Nat, (l.map (xs_cvp Z))[k]? = some (i, xs_cv Z w) := by
  have : (i, xs_cv Z w) ∈ l.map (xs_cvp Z) := List.mem_map.mpr ⟨(i, w), xl_get l i w hw, rfl⟩
  obtain ⟨k, hk⟩ := List.getElem?_of_mem this
  exact ⟨k, hk⟩
theorem xs_cats (st : List Value) : ((st.map (xs_cv Z)).map fun v => v.category).sum = xm_cats st := by
  induction st with
  | nil => rfl
  | cons v st ih =>
    rw [List.map_cons, List.map_cons, List.sum_cons, ih, xs_cat, xs_cat2]
    rfl
theorem xs_args (Zz : xs_Z) : ∀ (vs : List Value) (i : Nat), (lv_args i vs).map (xs_cvp Zz) = lv_args i (vs.map (xs_cv Zz))
  | [], i => rfl
  | v :: vs, i => by
    show (i, xs_cv Zz v) :: (lv_args (if v.category = 2 then i + 2 else i + 1) vs).map (xs_cvp Zz) = (i, xs_cv Zz v) :: lv_args (if (xs_cv Zz v).category = 2 then i + 2 else i + 1) (vs.map (xs_cv Zz))
    rw [xs_args Zz vs, xs_cat]
end XS
