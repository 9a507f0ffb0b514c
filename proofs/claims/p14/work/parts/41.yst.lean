/-! what the interval machine's numbers stand for -/
theorem yl_ck (S : List (List (Option yV))) (j : Nat) (o : yV) (i : Nat) : ym_ck (ym_sput S j o) (i / 16) = if i / 16 = j / 16 then xm_putx none (some o) (ym_ck S (j / 16)) (j % 16) else ym_ck S (i / 16) := by
  have h := xl_putx [] (xm_putx none (some o) (ym_ck S (Nat.div j 16)) (Nat.mod j 16)) S (Nat.div j 16) (i / 16)
  by_cases e : i / 16 = j / 16
  · rw [if_pos e]
    have h1 := h.1 e
    unfold ym_ck ym_sput
    rw [h1]
    rfl
  · rw [if_neg e]
    rcases h.2 e with h1 | ⟨h1, h2⟩
    · unfold ym_ck ym_sput
      rw [h1]
    · unfold ym_ck ym_sput
      rw [h1, h2]
theorem yl_sput (n m : Nat) (S : List (List (Option yV))) (j : Nat) (o : yV) (i : Nat) : ym_get (n, ym_sput S j o) i = if i = j then some o else ym_get (m, S) i := by
  show xm_jn (xm_nth (ym_ck (ym_sput S j o) (i / 16)) (i % 16)) = _
  rw [yl_ck]
  by_cases e : i / 16 = j / 16
  · rw [if_pos e]
    have h := xl_putx none (some o) (ym_ck S (j / 16)) (j % 16) (i % 16)
    by_cases e2 : i % 16 = j % 16
    · have e3 : i = j := by omega
      rw [if_pos e3, h.1 e2]
      rfl
    · have e3 : ¬ i = j := fun q => e2 (by rw [q])
      rw [if_neg e3]
      show _ = xm_jn (xm_nth (ym_ck S (i / 16)) (i % 16))
      rw [e]
      rcases h.2 e2 with h1 | ⟨h1, h2⟩
      · rw [h1]
      · rw [h1, h2]
        rfl
  · rw [if_neg e, if_neg (fun q => e (by rw [q]))]
    rfl
theorem yl_put (E : ym_S) (j : Nat) (o : yV) (i : Nat) : ym_get (ym_put E j o) i = if i = j then some o else ym_get E i := yl_sput E.1 E.1 E.2 j o i
theorem yl_new (E : ym_S) (o : yV) (i : Nat) : ym_get (ym_new E o) i = if i = E.1 then some o else ym_get E i := yl_sput _ E.1 E.2 E.1 o i
theorem yl_fi {α : Type} (x : Int) (k : Int → α) : ym_fi x k = k x := by
  cases x with
  | ofNat n => cases n <;> rfl
  | negSucc n => cases n <;> rfl
def ys_cv (y : Nat → Int) (v : Value) : Value := match v with
  | .retAddr k => .int (Int32.ofInt (y k))
  | .double u => .long (Int64.ofInt (y u.toNat))
  | .ref k => if y k < 0 then .null else .ref (y k).toNat
  | .int x => .int x
  | .long x => .long x
  | .null => .null
  | .float u => .float u
/-- its numbers are among the first n -/
def ys_in (n : Nat) (v : Value) : Prop := match v with
  | .retAddr k => k < n
  | .double u => u.toNat < n
  | .ref k => k < n
  | .float _ => False
  | _ => True
def ys_ok (T : yT) (z : Int) : Prop := (T.1 = 0 ∨ T.1 = 1 → T.2.1 ≤ z ∧ z ≤ T.2.2) ∧ (T.1 = 2 → 0 ≤ z ∧ (yr_of z.toNat : Int) = T.2.1) ∧ (T.1 = 3 → z < 0 ∨ (yr_of z.toNat : Int) = T.2.1)
def ys_sat (y : Nat → Int) (E : ym_S) : Prop := ∀ (k : Nat) (T : yT) (rt : Nat) (off : Int), ym_get E k = some (T, rt, off) → k < E.1 ∧ rt < E.1 ∧ ys_ok T (y k) ∧ y k = y rt + off
def ys_ext (n : Nat) (y y' : Nat → Int) : Prop := ∀ k, k < n → y' k = y k
/-- a value of a type -/
def ys_T (T : yT) (v : Value) : Prop := match v with
  | .int x => T.1 = 0 ∧ T.2.1 ≤ x.toInt ∧ x.toInt ≤ T.2.2
  | .long x => T.1 = 1 ∧ T.2.1 ≤ x.toInt ∧ x.toInt ≤ T.2.2
  | .ref j => (T.1 = 2 ∨ T.1 = 3) ∧ (yr_of j : Int) = T.2.1
  | .null => T.1 = 3
  | _ => False
/-- a fresh value v stands for w -/
def ys_fr (y : Nat → Int) (E E' : ym_S) (v w : Value) : Prop := ∃ y', ys_sat y' E' ∧ ys_ext E.1 y y' ∧ E.1 ≤ E'.1 ∧ ys_in E'.1 v ∧ ys_cv y' v = w
section YS
variable {y : Nat → Int} {E : ym_S} {v w : Value}
theorem ys_cv_ext {y' : Nat → Int} {n : Nat} (h : ys_ext n y y') (hv : ys_in n v) : ys_cv y' v = ys_cv y v := by
  cases v with
  | retAddr k => show Value.int _ = Value.int _; rw [h k hv]
  | double u => show Value.long _ = Value.long _; rw [h u.toNat hv]
  | ref k => show (if y' k < 0 then _ else _) = (if y k < 0 then _ else _); rw [h k hv]
  | _ => rfl
theorem ys_in_le {n n' : Nat} (h : n ≤ n') (hv : ys_in n v) : ys_in n' v := by
  cases v with
  | retAddr k => exact Nat.lt_of_lt_of_le hv h
  | double u => exact Nat.lt_of_lt_of_le hv h
  | ref k => exact Nat.lt_of_lt_of_le hv h
  | float u => exact hv
  | _ => trivial
theorem ys_of32 {z : Int} (h1 : -2147483648 ≤ z) (h2 : z ≤ 2147483647) : (Int32.ofInt z).toInt = z := by
  exact Int32.toInt_ofInt_of_le (by omega) (by omega)
theorem ys_of64 {z : Int} (h1 : -9223372036854775808 ≤ z) (h2 : z ≤ 9223372036854775807) : (Int64.ofInt z).toInt = z := by
  exact Int64.toInt_ofInt_of_le (by omega) (by omega)
theorem ys_b32 (x : Int32) : -2147483648 ≤ x.toInt ∧ x.toInt ≤ 2147483647 := by
  have h1 := Int32.le_toInt x
  have h2 := Int32.toInt_lt x
  omega
theorem ys_b64 (x : Int64) : -9223372036854775808 ≤ x.toInt ∧ x.toInt ≤ 9223372036854775807 := by
  have h1 := Int64.le_toInt x
  have h2 := Int64.toInt_lt x
  omega
theorem ys_i32 {r : Int × Int} (h : ym_i32 r = true) : -2147483648 ≤ r.1 ∧ r.2 ≤ 2147483647 := by
  unfold ym_i32 at h
  rw [Bool.and_eq_true, decide_eq_true_eq, decide_eq_true_eq] at h
  exact h
theorem ys_i64 {r : Int × Int} (h : ym_i64 r = true) : -9223372036854775808 ≤ r.1 ∧ r.2 ≤ 9223372036854775807 := by
  unfold ym_i64 at h
  rw [Bool.and_eq_true, decide_eq_true_eq, decide_eq_true_eq] at h
  exact h
/-- the int that a value stands for -/
theorem ys_ri {r : Int × Int} (h : ym_ri E v = some r) (hs : ys_sat y E) : ∃ x : Int32, ys_cv y v = .int x ∧ r.1 ≤ x.toInt ∧ x.toInt ≤ r.2 ∧ ys_in E.1 v ∧ (∀ k, v = .retAddr k → y k = x.toInt) ∧ (∀ u, v = .double u → False) := by
  cases v with
  | int c =>
    cases h
    exact ⟨c, rfl, Int.le_refl _, Int.le_refl _, trivial, (fun k h => (by cases h)), (fun k h => (by cases h))⟩
  | retAddr k =>
    have h : (match ym_get E k with
      | some ((t, r), _) => bif Nat.beq t 0 && ym_i32 r then some r else none
      | none => none) = some r := h
    cases hk : ym_get E k with
    | none => rw [hk] at h; cases h
    | some q =>
      obtain ⟨⟨t, q⟩, rt, off⟩ := q
      rw [hk] at h
      dsimp only at h
      cases hc : (Nat.beq t 0 && ym_i32 q) with
      | false => rw [hc] at h; cases h
      | true =>
        rw [hc] at h
        cases h
        rw [Bool.and_eq_true] at hc
        have ht := Nat.eq_of_beq_eq_true hc.1
        obtain ⟨h0, -, h1, -⟩ := hs k _ _ _ hk
        have h2 := h1.1 (Or.inl ht)
        have h3 := ys_i32 hc.2
        dsimp only at h2
        have e := ys_of32 (z := y k) (by omega) (by omega)
        exact ⟨_, rfl, by rw [e]; exact h2.1, by rw [e]; exact h2.2, h0, (fun j hj => (by cases hj; exact e.symm)), (fun k h => (by cases h))⟩
  | _ => cases h
theorem ys_rl {r : Int × Int} (h : ym_rl E v = some r) (hs : ys_sat y E) : ∃ x : Int64, ys_cv y v = .long x ∧ r.1 ≤ x.toInt ∧ x.toInt ≤ r.2 ∧ ys_in E.1 v ∧ (∀ k, v = .retAddr k → False) ∧ (∀ u, v = .double u → y u.toNat = x.toInt) := by
  cases v with
  | long c =>
    cases h
    exact ⟨c, rfl, Int.le_refl _, Int.le_refl _, trivial, (fun k h => (by cases h)), (fun k h => (by cases h))⟩
  | double k =>
    have h : (match ym_get E k.toNat with
      | some ((t, r), _) => bif Nat.beq t 1 && ym_i64 r then some r else none
      | none => none) = some r := h
    cases hk : ym_get E k.toNat with
    | none => rw [hk] at h; cases h
    | some q =>
      obtain ⟨⟨t, q⟩, rt, off⟩ := q
      rw [hk] at h
      dsimp only at h
      cases hc : (Nat.beq t 1 && ym_i64 q) with
      | false => rw [hc] at h; cases h
      | true =>
        rw [hc] at h
        cases h
        rw [Bool.and_eq_true] at hc
        have ht := Nat.eq_of_beq_eq_true hc.1
        obtain ⟨h0, -, h1, -⟩ := hs k.toNat _ _ _ hk
        have h2 := h1.1 (Or.inr ht)
        have h3 := ys_i64 hc.2
        dsimp only at h2
        have e := ys_of64 (z := y k.toNat) (by omega) (by omega)
        exact ⟨_, rfl, by rw [e]; exact h2.1, by rw [e]; exact h2.2, h0, (fun k h => (by cases h)), (fun j hj => (by cases hj; exact e.symm))⟩
  | _ => cases h
/-- the cell that a reference stands for -/
theorem ys_ref {r : Nat} (h : ym_ref E v = some r) (hs : ys_sat y E) : ∃ k j, v = .ref k ∧ k < E.1 ∧ y k = (j : Nat) ∧ ys_cv y v = .ref j ∧ yr_of j = r := by
  cases v with
  | ref k =>
    have h : (match ym_get E k with
      | some ((t, r, _), _) => bif Nat.beq t 2 then some r.toNat else none
      | none => none) = some r := h
    cases hk : ym_get E k with
    | none => rw [hk] at h; cases h
    | some q =>
      obtain ⟨⟨t, a, b⟩, rt, off⟩ := q
      rw [hk] at h
      dsimp only at h
      cases hc : Nat.beq t 2 with
      | false => rw [hc] at h; cases h
      | true =>
        rw [hc] at h
        cases h
        have ht := Nat.eq_of_beq_eq_true hc
        obtain ⟨h0, -, h1, -⟩ := hs k _ _ _ hk
        obtain ⟨h2, h3⟩ := h1.2.1 ht
        dsimp only at h3
        refine ⟨k, (y k).toNat, rfl, h0, by omega, ?_, by omega⟩
        show (if y k < 0 then Value.null else .ref (y k).toNat) = _
        rw [if_neg (by omega)]
  | _ => cases h
/-- a number more -/
theorem ys_new {T : yT} {rt : Nat} {off z : Int} (hs : ys_sat y E) (hz : ys_ok T z) (h : (rt = E.1 ∧ off = 0) ∨ (rt < E.1 ∧ z = y rt + off)) : ys_sat (fun k => if k = E.1 then z else y k) (ym_new E (T, rt, off)) ∧ ys_ext E.1 y (fun k => if k = E.1 then z else y k) := by
  refine ⟨fun k T' rt' off' hk => ?_, fun k hk => if_neg (Nat.ne_of_lt hk)⟩
  rw [yl_new] at hk
  by_cases e : k = E.1
  · rw [if_pos e] at hk
    cases hk
    dsimp only
    rw [if_pos e, e]
    rcases h with ⟨h1, h2⟩ | ⟨h1, h2⟩
    · refine ⟨Nat.lt_succ_self _, by rw [h1]; exact Nat.lt_succ_self _, hz, ?_⟩
      rw [if_pos h1, h2, Int.add_zero]
    · refine ⟨Nat.lt_succ_self _, Nat.lt_succ_of_lt h1, hz, ?_⟩
      rw [if_neg (Nat.ne_of_lt h1)]
      exact h2
  · rw [if_neg e] at hk
    obtain ⟨a1, a2, a3, a4⟩ := hs k _ _ _ hk
    dsimp only
    rw [if_neg e, if_neg (Nat.ne_of_lt a2)]
    exact ⟨Nat.lt_succ_of_lt a1, Nat.lt_succ_of_lt a2, a3, a4⟩
theorem ys_fr_refl (hs : ys_sat y E) (hv : ys_in E.1 v) (h : ys_cv y v = w) : ys_fr y E E v w := ⟨y, hs, fun _ _ => rfl, Nat.le_refl _, hv, h⟩
theorem ys_newi {lo hi : Int} {rt : Nat} {off : Int} {x : Int32} (hs : ys_sat y E) (h1 : lo ≤ x.toInt) (h2 : x.toInt ≤ hi) (h : (rt = E.1 ∧ off = 0) ∨ (rt < E.1 ∧ x.toInt = y rt + off)) : ys_fr y E (ym_new E ((0, lo, hi), rt, off)) (.retAddr E.1) (.int x) := by
  obtain ⟨s1, s2⟩ := ys_new (T := (0, lo, hi)) hs ⟨fun _ => ⟨h1, h2⟩, (fun q => (by cases q)), (fun q => (by cases q))⟩ h
  refine ⟨_, s1, s2, Nat.le_succ _, Nat.lt_succ_self _, ?_⟩
  show Value.int (Int32.ofInt (if E.1 = E.1 then x.toInt else y E.1)) = .int x
  rw [if_pos rfl, Int32.ofInt_toInt]
theorem ys_mi {r : Int × Int} (hs : ys_sat y E) (x : Int32) (hx : ym_i32 r = true → r.1 ≤ x.toInt ∧ x.toInt ≤ r.2) : ys_fr y E (ym_mi E r).1 (ym_mi E r).2 (.int x) := by
  unfold ym_mi
  rw [yl_fi, yl_fi]
  cases hc : ym_i32 (r.1, r.2) with
  | true =>
    rw [cond_true]
    obtain ⟨h1, h2⟩ := hx hc
    by_cases e : r.1 = r.2
    · rw [decide_eq_true e, cond_true]
      refine ys_fr_refl hs trivial ?_
      show Value.int (Int32.ofInt r.1) = .int x
      rw [show r.1 = x.toInt by omega, Int32.ofInt_toInt]
    · rw [decide_eq_false e, cond_false]
      exact ys_newi hs h1 h2 (Or.inl ⟨rfl, rfl⟩)
  | false =>
    rw [cond_false]
    obtain ⟨b1, b2⟩ := ys_b32 x
    exact ys_newi hs b1 b2 (Or.inl ⟨rfl, rfl⟩)
theorem ys_ml {r : Int × Int} {q : ym_S × Value} (h : ym_ml E r = some q) (hs : ys_sat y E) (x : Int64) (hx : ym_i64 r = true → r.1 ≤ x.toInt ∧ x.toInt ≤ r.2) : ys_fr y E q.1 q.2 (.long x) := by
  unfold ym_ml at h
  cases hb : Nat.blt E.1 1000000000 with
  | false => rw [hb] at h; cases h
  | true =>
    rw [hb, cond_true, yl_fi, yl_fi] at h
    have hE : E.1 < 1000000000 := Nat.le_of_ble_eq_true hb
    have hu : (UInt64.ofNat E.1).toNat = E.1 := by
      rw [UInt64.toNat_ofNat']
      omega
    have key : ∀ lo hi : Int, lo ≤ x.toInt → x.toInt ≤ hi → ys_fr y E (ym_new E ((1, lo, hi), E.1, 0)) (.double (UInt64.ofNat E.1)) (.long x) := by
      intro lo hi h1 h2
      obtain ⟨s1, s2⟩ := ys_new (T := (1, lo, hi)) (rt := E.1) (off := 0) hs ⟨fun _ => ⟨h1, h2⟩, (fun q => (by cases q)), (fun q => (by cases q))⟩ (Or.inl ⟨rfl, rfl⟩)
      refine ⟨_, s1, s2, Nat.le_succ _, ?_, ?_⟩
      · show (UInt64.ofNat E.1).toNat < E.1 + 1
        rw [hu]
        exact Nat.lt_succ_self _
      · show Value.long (Int64.ofInt (if (UInt64.ofNat E.1).toNat = E.1 then x.toInt else y (UInt64.ofNat E.1).toNat)) = .long x
        rw [hu, if_pos rfl, Int64.ofInt_toInt]
    cases hc : ym_i64 (r.1, r.2) with
    | true =>
      rw [hc, cond_true] at h
      cases h
      obtain ⟨h1, h2⟩ := hx hc
      exact key _ _ h1 h2
    | false =>
      rw [hc, cond_false] at h
      cases h
      obtain ⟨b1, b2⟩ := ys_b64 x
      exact key _ _ b1 b2
theorem ys_mk {T : yT} {q : ym_S × Value} (h : ym_mk E T = some q) (hs : ys_sat y E) (hw : ys_T T w) : ys_fr y E q.1 q.2 w := by
  unfold ym_mk at h
  obtain ⟨t, r⟩ := T
  dsimp only at h
  cases h0 : Nat.beq t 0 with
  | true =>
    rw [h0, cond_true] at h
    have e := Nat.eq_of_beq_eq_true h0
    subst e
    cases h
    cases w with
    | int x => exact ys_mi hs x (fun _ => hw.2)
    | ref j => rcases hw.1 with q | q <;> cases q
    | null => cases hw
    | long x => exact absurd (show (0 : Nat) = 1 from hw.1) (by decide)
    | _ => exact False.elim hw
  | false =>
    rw [h0, cond_false] at h
    cases h1 : Nat.beq t 1 with
    | true =>
      rw [h1, cond_true] at h
      have e := Nat.eq_of_beq_eq_true h1
      subst e
      cases w with
      | long x => exact ys_ml h hs x (fun _ => hw.2)
      | ref j => rcases hw.1 with q | q <;> cases q
      | null => cases hw
      | int x => exact absurd (show (1 : Nat) = 0 from hw.1) (by decide)
      | _ => exact False.elim hw
    | false =>
      rw [h1, cond_false] at h
      cases h2 : (Nat.beq t 2 || Nat.beq t 3) with
      | false => rw [h2] at h; cases h
      | true =>
        rw [h2, cond_true] at h
        cases h
        cases w with
        | ref j =>
          have hw : (t = 2 ∨ t = 3) ∧ (yr_of j : Int) = r.1 := hw
          obtain ⟨s1, s2⟩ := ys_new (T := (t, r)) (rt := E.1) (off := 0) (z := (j : Int)) hs ⟨fun q => (by dsimp only at q; omega), fun _ => ⟨by omega, hw.2⟩, fun _ => Or.inr hw.2⟩ (Or.inl ⟨rfl, rfl⟩)
          refine ⟨_, s1, s2, Nat.le_succ _, Nat.lt_succ_self _, ?_⟩
          show (if (if E.1 = E.1 then (j : Int) else y E.1) < 0 then Value.null else .ref (if E.1 = E.1 then (j : Int) else y E.1).toNat) = .ref j
          rw [if_pos rfl, if_neg (by omega)]
          rfl
        | null =>
          have hw : t = 3 := hw
          obtain ⟨s1, s2⟩ := ys_new (T := (t, r)) (rt := E.1) (off := 0) (z := -1) hs ⟨fun q => (by dsimp only at q; omega), fun q => (by dsimp only at q; omega), fun _ => Or.inl (by omega)⟩ (Or.inl ⟨rfl, rfl⟩)
          refine ⟨_, s1, s2, Nat.le_succ _, Nat.lt_succ_self _, ?_⟩
          show (if (if E.1 = E.1 then (-1 : Int) else y E.1) < 0 then Value.null else .ref (if E.1 = E.1 then (-1 : Int) else y E.1).toNat) = .null
          rw [if_pos rfl, if_pos (by omega)]
        | int x => exact absurd hw.1 (fun q => by have q : t = 0 := q; subst q; cases h0)
        | long x => exact absurd hw.1 (fun q => by have q : t = 1 := q; subst q; cases h1)
        | _ => exact False.elim hw
theorem ys_addc {a : Int × Int} {c : Int} {x : Int32} (ha : ym_ri E v = some a) (hs : ys_sat y E) (hx : ys_cv y v = .int x) : ys_fr y E (ym_addc E v a c).1 (ym_addc E v a c).2 (.int (x + Int32.ofInt c)) := by
  obtain ⟨x', e1, e2, e3, e4, e5, -⟩ := ys_ri ha hs
  rw [hx] at e1
  cases e1
  unfold ym_addc
  rw [yl_fi, yl_fi]
  cases hc : ym_i32 (a.1 + c, a.2 + c) with
  | false =>
    rw [cond_false]
    exact ys_mi hs _ (fun _ => ys_b32 _)
  | true =>
    rw [cond_true]
    have h0 := ys_i32 hc
    dsimp only at h0
    have hv : (x + Int32.ofInt c).toInt = x.toInt + c := by
      rw [Int32.toInt_add, Int32.toInt_ofInt]
      have : (x.toInt + c.bmod (2 ^ 32)).bmod (2 ^ 32) = (x.toInt + c).bmod (2 ^ 32) := by
        rw [Int.add_bmod_bmod]
      rw [this]
      exact Int.bmod_eq_of_le (by omega) (by omega)
    have key : ys_fr y E (ym_mi E (a.1 + c, a.2 + c)).1 (ym_mi E (a.1 + c, a.2 + c)).2 (.int (x + Int32.ofInt c)) := ys_mi hs _ (fun _ => by rw [hv]; exact ⟨by dsimp only; omega, by dsimp only; omega⟩)
    cases v with
    | retAddr k =>
      dsimp only
      cases hk : ym_get E k with
      | none => exact key
      | some q =>
        obtain ⟨T, rt, off⟩ := q
        dsimp only
        by_cases e : a.1 + c = a.2 + c
        · rw [decide_eq_true e, cond_true]
          refine ys_fr_refl hs trivial ?_
          show Value.int (Int32.ofInt (a.1 + c)) = .int (x + Int32.ofInt c)
          rw [show a.1 + c = (x + Int32.ofInt c).toInt by rw [hv]; omega, Int32.ofInt_toInt]
        · rw [decide_eq_false e, cond_false, yl_fi]
          obtain ⟨h1, h2, h3, h4⟩ := hs k _ _ _ hk
          refine ys_newi hs (by rw [hv]; omega) (by rw [hv]; omega) (Or.inr ⟨h2, ?_⟩)
          rw [hv, ← e5 k rfl, h4]
          omega
    | _ => exact key
/-- a range becomes narrower -/
theorem ys_put {k rt : Nat} {T T' : yT} {off : Int} (hs : ys_sat y E) (hk : ym_get E k = some (T, rt, off)) (hT : ys_ok T' (y k)) : ys_sat y (ym_put E k (T', rt, off)) := by
  intro j T2 rt2 off2 hj
  rw [yl_put] at hj
  by_cases e : j = k
  · rw [if_pos e] at hj
    cases hj
    subst e
    obtain ⟨h1, h2, h3, h4⟩ := hs j _ _ _ hk
    exact ⟨h1, h2, hT, h4⟩
  · rw [if_neg e] at hj
    exact hs j _ _ _ hj
theorem ys_ok0 {lo hi z : Int} (h1 : lo ≤ z) (h2 : z ≤ hi) : ys_ok (0, lo, hi) z := ⟨fun _ => ⟨h1, h2⟩, (fun q => (by cases q)), (fun q => (by cases q))⟩
theorem ys_ok1 {lo hi z : Int} (h1 : lo ≤ z) (h2 : z ≤ hi) : ys_ok (1, lo, hi) z := ⟨fun _ => ⟨h1, h2⟩, (fun q => (by cases q)), (fun q => (by cases q))⟩
theorem ys_nark {k t : Nat} {lo hi : Int} (hs : ys_sat y E) (hok : ys_ok (t, lo, hi) (y k)) (ht : t = 0 ∨ t = 1) : ys_sat y (ym_nark E k t lo hi) ∧ (ym_nark E k t lo hi).1 = E.1 := by
  have h12 := hok.1 ht
  dsimp only at h12
  unfold ym_nark
  cases hk : ym_get E k with
  | none => exact ⟨hs, rfl⟩
  | some q =>
    obtain ⟨T, rt, off⟩ := q
    dsimp only
    have base := ys_put (T' := (t, lo, hi)) hs hk hok
    cases hb : Nat.beq rt k with
    | true => exact ⟨base, rfl⟩
    | false =>
      rw [cond_false]
      cases hr : ym_get E rt with
      | none => exact ⟨base, rfl⟩
      | some q2 =>
        obtain ⟨⟨t0, a, b⟩, rt2, off2⟩ := q2
        dsimp only
        cases ht0 : Nat.beq t0 0 with
        | false => exact ⟨base, rfl⟩
        | true =>
          rw [cond_true, yl_fi, yl_fi]
          have e := Nat.eq_of_beq_eq_true ht0
          obtain ⟨g1, g2, g3, g4⟩ := hs k _ _ _ hk
          obtain ⟨k1, k2, k3, k4⟩ := hs rt _ _ _ hr
          have k5 := k3.1 (Or.inl e)
          dsimp only at k5
          have s1 := ys_put (T' := (0, max a (lo - off), min b (hi - off))) hs hr (ys_ok0 (by omega) (by omega))
          refine ⟨ys_put (T := T) s1 ?_ hok, rfl⟩
          rw [yl_put, if_neg (fun q => by subst q; rw [Nat.beq_refl] at hb; cases hb)]
          exact hk
theorem ys_nar {r : Int × Int} {x : Int} (hs : ys_sat y E) (hx : (∀ k, v = .retAddr k → y k = x) ∧ (∀ u, v = .double u → y u.toNat = x)) (h1 : r.1 ≤ x) (h2 : x ≤ r.2) : ys_sat y (ym_nar E v r) ∧ (ym_nar E v r).1 = E.1 := by
  unfold ym_nar
  rw [yl_fi, yl_fi]
  cases v with
  | retAddr k =>
    have hy := hx.1 k rfl
    exact ys_nark hs (ys_ok0 (by rw [hy]; exact h1) (by rw [hy]; exact h2)) (Or.inl rfl)
  | double u =>
    have hy := hx.2 u rfl
    exact ys_nark hs (ys_ok1 (by rw [hy]; exact h1) (by rw [hy]; exact h2)) (Or.inr rfl)
  | _ => exact ⟨hs, rfl⟩
theorem ys_i2l {r : Int × Int} {q : ym_S × Value} {x : Int32} (h : ym_i2l E v r = some q) (hr : ym_ri E v = some r) (hs : ys_sat y E) (hx : ys_cv y v = .int x) : ys_fr y E q.1 q.2 (.long x.toInt64) := by
  obtain ⟨x', e1, e2, e3, e4, e5, e6⟩ := ys_ri hr hs
  rw [hx] at e1
  cases e1
  have hxl : x.toInt64.toInt = x.toInt := Int32.toInt_toInt64 x
  unfold ym_i2l at h
  cases v with
  | retAddr k =>
    dsimp only at h
    cases hk : ym_get E k with
    | none => rw [hk] at h; cases h
    | some p =>
      obtain ⟨T, rt, off⟩ := p
      rw [hk] at h
      dsimp only at h
      unfold ym_mlr at h
      cases hb : Nat.blt E.1 1000000000 with
      | false => rw [hb] at h; cases h
      | true =>
        rw [hb, cond_true] at h
        cases h
        have hE : E.1 < 1000000000 := Nat.le_of_ble_eq_true hb
        have hu : (UInt64.ofNat E.1).toNat = E.1 := by
          rw [UInt64.toNat_ofNat']
          omega
        obtain ⟨g1, g2, g3, g4⟩ := hs k _ _ _ hk
        obtain ⟨s1, s2⟩ := ys_new (T := (1, r.1, r.2)) (rt := rt) (off := off) (z := x.toInt) hs (ys_ok1 e2 e3) (Or.inr ⟨g2, by rw [← e5 k rfl]; exact g4⟩)
        refine ⟨_, s1, s2, Nat.le_succ _, ?_, ?_⟩
        · show (UInt64.ofNat E.1).toNat < E.1 + 1
          rw [hu]
          exact Nat.lt_succ_self _
        · show Value.long (Int64.ofInt (if (UInt64.ofNat E.1).toNat = E.1 then x.toInt else y (UInt64.ofNat E.1).toNat)) = .long x.toInt64
          rw [hu, if_pos rfl, ← hxl, Int64.ofInt_toInt]
  | _ => exact ys_ml h hs x.toInt64 (fun _ => by rw [hxl]; exact ⟨e2, e3⟩)
theorem ys_sub {T : yT} (h : ym_sub E v T = true) (hs : ys_sat y E) : ys_T T (ys_cv y v) ∧ ys_in E.1 v := by
  obtain ⟨t, lo, hi⟩ := T
  unfold ym_sub at h
  split at h
  · rename_i e
    cases e
    cases hr : ym_ri E v with
    | none => rw [hr] at h; cases h
    | some a =>
      rw [hr] at h
      dsimp only at h
      rw [Bool.and_eq_true, decide_eq_true_eq, decide_eq_true_eq] at h
      obtain ⟨x, e1, e2, e3, e4, -⟩ := ys_ri hr hs
      rw [e1]
      exact ⟨⟨rfl, Int.le_trans h.1 e2, Int.le_trans e3 h.2⟩, e4⟩
  · rename_i e
    cases e
    cases hr : ym_rl E v with
    | none => rw [hr] at h; cases h
    | some a =>
      rw [hr] at h
      dsimp only at h
      rw [Bool.and_eq_true, decide_eq_true_eq, decide_eq_true_eq] at h
      obtain ⟨x, e1, e2, e3, e4, -⟩ := ys_rl hr hs
      rw [e1]
      exact ⟨⟨rfl, Int.le_trans h.1 e2, Int.le_trans e3 h.2⟩, e4⟩
  · rename_i e
    cases e
    cases v with
    | ref k =>
      dsimp only at h
      cases hk : ym_get E k with
      | none => rw [hk] at h; cases h
      | some q =>
        obtain ⟨⟨t, a, b⟩, rt, off⟩ := q
        rw [hk] at h
        dsimp only at h
        rw [Bool.and_eq_true, decide_eq_true_eq] at h
        have ht := Nat.eq_of_beq_eq_true h.1
        obtain ⟨h0, -, h1, -⟩ := hs k _ _ _ hk
        obtain ⟨h2, h3⟩ := h1.2.1 ht
        dsimp only at h3
        refine ⟨?_, h0⟩
        show ys_T _ (if y k < 0 then Value.null else .ref (y k).toNat)
        rw [if_neg (by omega)]
        exact ⟨Or.inl rfl, by rw [h3]; exact h.2.symm⟩
    | _ => cases h
  · rename_i e
    cases e
    cases v with
    | ref k =>
      dsimp only at h
      cases hk : ym_get E k with
      | none => rw [hk] at h; cases h
      | some q =>
        obtain ⟨⟨t, a, b⟩, rt, off⟩ := q
        rw [hk] at h
        dsimp only at h
        rw [Bool.and_eq_true, decide_eq_true_eq, Bool.or_eq_true] at h
        obtain ⟨h0, -, h1, -⟩ := hs k _ _ _ hk
        refine ⟨?_, h0⟩
        show ys_T _ (if y k < 0 then Value.null else .ref (y k).toNat)
        by_cases hn : y k < 0
        · rw [if_pos hn]
          rfl
        · rw [if_neg hn]
          refine ⟨Or.inr rfl, ?_⟩
          rcases h.1 with q | q
          · have ht := Nat.eq_of_beq_eq_true q
            have h3 := (h1.2.1 ht).2
            dsimp only at h3
            rw [h3]
            exact h.2.symm
          · have ht := Nat.eq_of_beq_eq_true q
            rcases h1.2.2 ht with h3 | h3
            · exact absurd h3 hn
            · dsimp only at h3
              rw [h3]
              exact h.2.symm
    | null => exact ⟨rfl, trivial⟩
    | _ => cases h
  · cases h
theorem ys_isI (h : xm_isI v = true) (hv : ys_in E.1 v) : ∃ x, ys_cv y v = .int x := by
  cases v <;> first | exact ⟨_, rfl⟩ | exact False.elim hv | cases h
theorem ys_isL (h : xm_isL v = true) : ∃ x, ys_cv y v = .long x := by
  cases v <;> first | exact ⟨_, rfl⟩ | cases h
theorem ys_isA (h : xm_isA v = true) : xm_isA (ys_cv y v) = true := by
  cases v with
  | ref k => show xm_isA (if y k < 0 then Value.null else .ref (y k).toNat) = true; split <;> rfl
  | null => rfl
  | _ => cases h
theorem ys_kI (hv : ys_in E.1 v) : xm_isI (ys_cv y v) = xm_isI v := by
  cases v with
  | ref k => show xm_isI (if y k < 0 then Value.null else .ref (y k).toNat) = false; split <;> rfl
  | float u => cases hv
  | _ => rfl
theorem ys_kL : xm_isL (ys_cv y v) = xm_isL v := by
  cases v with
  | ref k => show xm_isL (if y k < 0 then Value.null else .ref (y k).toNat) = false; split <;> rfl
  | _ => rfl
theorem ys_cat : (ys_cv y v).category = v.category := by
  cases v with
  | ref k => show (if y k < 0 then Value.null else .ref (y k).toNat).category = 1; split <;> rfl
  | _ => rfl
theorem ys_fit {ty : FieldType} (h : ym_fit E ty v = true) (hs : ys_sat y E) (hv : ys_in E.1 v) : xm_fit ty (ys_cv y v) = true := by
  unfold ym_fit at h
  split at h
  · show xm_isI _ = true
    rw [ys_kI hv]
    exact h
  · cases hr : ym_ri E v with
    | none => rw [hr] at h; cases h
    | some a =>
      rw [hr] at h
      dsimp only at h
      rw [Bool.and_eq_true, decide_eq_true_eq, decide_eq_true_eq] at h
      obtain ⟨x, e1, e2, e3, -⟩ := ys_ri hr hs
      rw [e1]
      show (decide (x = 0) || decide (x = 1)) = true
      have : x.toInt = 0 ∨ x.toInt = 1 := by omega
      rcases this with q | q
      · have : x = 0 := Int32.toInt_inj.mp q
        rw [this]; rfl
      · have : x = 1 := Int32.toInt_inj.mp q
        rw [this]; rfl
  · show xm_isL _ = true
    rw [ys_kL]
    exact h
  · exact ys_isA h
  · exact ys_isA h
  · cases h
end YS
