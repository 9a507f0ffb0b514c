/-! the reference's small readers of what is told, by places -/
/-- a person's place in what is told -/
def zpe (σ : Int → Int) (p k : Int) : Int := σ (10 + 11 * p + k)
theorem zpp2 {p k : Int} (p0 : 0 ≤ p) (p6 : p ≤ 6) (k0 : 0 ≤ k) (k1 : k ≤ 10) : zw ((zw (10 + (zw (11 * p)))) + k) = 10 + 11 * p + k := by
  rw [zw_id (x := 11 * p) (by omega) (by omega), zw_id (x := 10 + 11 * p) (by omega) (by omega), zw_id (by omega) (by omega)]
section FR
variable {s : zS} {p q k f x a b : Int}
theorem zq_per (p0 : 0 ≤ p) (p6 : p ≤ 6) (k0 : 0 ≤ k) (k1 : k ≤ 10) : zE xm_c178 [344, p, k] s (zpe (s 354) p k) s := zb_178_0 (Prod.ext (by
  show s 354 (zw _) = s 354 _
  rw [zpp2 p0 p6 k0 k1]) rfl)
theorem zq_know (p0 : 0 ≤ p) (p6 : p ≤ 6) : zE xm_c179 [344, p] s (if zpe (s 354) p 8 < 0 then 0 else 1) s := zb_179_0 (zq_per p0 p6 (by decide) (by decide)) (zb_179_4 (fun h => zb_179_7 (by rw [if_pos h])) (fun h => zb_179_5 (by rw [if_neg h])))
theorem zq_stand (p0 : 0 ≤ p) (p6 : p ≤ 6) : zE xm_c180 [344, p] s (if zpe (s 354) p 0 = zpe (s 354) p 1 then 1 else 0) s := zb_180_0 (zq_per p0 p6 (by decide) (by decide)) (zb_180_4 (zq_per p0 p6 (by decide) (by decide)) (zb_180_8 (fun h => zb_180_9 (by rw [if_pos h])) (fun h => zb_180_11 (by rw [if_neg h]))))
theorem zq_is : zE xm_c126 [x, k] s (if zbt x k = 1 then 1 else 0) s := zb_126_0 (fun h => zb_126_7 (by rw [if_pos (show zbt x k = 1 from h)])) (fun h => zb_126_9 (by rw [if_neg (show ¬ zbt x k = 1 from h)]))
theorem zq_house : zE xm_c175 [344] s (if 0 < s 354 0 then 1 else 0) s := zb_175_0 (fun h => zb_175_5 (by rw [if_pos (show 0 < s 354 0 from h)])) (fun h => zb_175_7 (by rw [if_neg (show ¬ 0 < s 354 0 from h)]))
theorem zq_isP : zE xm_c176 [344, x] s (if 0 ≤ x ∧ x < s 354 1 then 1 else 0) s := zb_176_0 (fun h => zb_176_10 (by rw [if_neg (fun q => absurd q.1 (Int.not_le.mpr h))])) (fun h => zb_176_2 (fun g => zb_176_8 (by rw [if_pos ⟨Int.not_lt.mp h, show x < s 354 1 from g⟩])) (fun g => zb_176_10 (by rw [if_neg (fun q => g q.2)])))
theorem zq_isF : zE xm_c177 [344, x] s (if 0 ≤ x ∧ x < s 354 0 then 1 else 0) s := zb_177_0 (fun h => zb_177_10 (by rw [if_neg (fun q => absurd q.1 (Int.not_le.mpr h))])) (fun h => zb_177_2 (fun g => zb_177_8 (by rw [if_pos ⟨Int.not_lt.mp h, show x < s 354 0 from g⟩])) (fun g => zb_177_10 (by rw [if_neg (fun q => g q.2)])))
theorem zq_night : zE xm_c182 [344, b] s (if 0 ≤ s 354 5 ∧ s 354 5 ≤ b then 1 else 0) s := zb_182_0 (fun h => zb_182_13 (by rw [if_neg (fun q => absurd q.1 (Int.not_le.mpr h))])) (fun h => zb_182_5 (fun g => zb_182_13 (by rw [if_neg (fun q => absurd q.2 (Int.not_le.mpr g))])) (fun g => zb_182_11 (by rw [if_pos ⟨Int.not_lt.mp h, Int.not_lt.mp g⟩])))
theorem zq_apart : zE xm_c203 [a, b] s (if a < b then zw (b - a) else zw (a - b)) s := zb_203_0 (fun h => zb_203_3 (by rw [if_pos h])) (fun h => zb_203_7 (by rw [if_neg h]))
/-- whether a person is on a landing of a floor -/
abbrev zon (σ : Int → Int) (L p f : Int) : Prop := zbt L p = 1 ∧ zpe σ p 0 = f
theorem zq_on (p0 : 0 ≤ p) (p6 : p ≤ 6) : zE xm_c190 [344, p, f] s (if zon (s 354) (s 344 23) p f then 1 else 0) s := by
  refine zb_190_0 zq_is (zb_190_4 (fun h => zb_190_13 ?_) (fun h => zb_190_5 (zq_per p0 p6 (by decide) (by decide)) (zb_190_9 (fun g => zb_190_11 ?_) (fun g => zb_190_13 ?_))))
  · rw [if_neg]
    intro q
    rw [if_pos q.1] at h
    exact absurd h (by decide)
  · rw [if_pos]
    refine ⟨?_, g⟩
    by_cases e : zbt (s 344 23) p = 1
    · exact e
    · exact absurd (if_neg e) h
  · rw [if_neg]
    exact fun q => g q.2
/-- how many of the first n numbers P holds of -/
def zct (P : Nat → Prop) [DecidablePred P] : Nat → Int
  | 0 => 0
  | n + 1 => zct P n + (if P n then 1 else 0)
theorem zct_r {P : Nat → Prop} [DecidablePred P] : ∀ n : Nat, 0 ≤ zct P n ∧ zct P n ≤ ((n : Nat) : Int)
  | 0 => ⟨Int.le_refl _, Int.le_refl _⟩
  | n + 1 => by
    have ih := zct_r (P := P) n
    show 0 ≤ zct P n + (if P n then 1 else 0) ∧ zct P n + (if P n then 1 else 0) ≤ _
    by_cases h : P n
    · rw [if_pos h]; omega
    · rw [if_neg h]; omega
theorem zct_congr {P Q : Nat → Prop} [DecidablePred P] [DecidablePred Q] : ∀ n : Nat, (∀ k, k < n → (P k ↔ Q k)) → zct P n = zct Q n
  | 0, _ => rfl
  | n + 1, h => by
    show zct P n + (if P n then 1 else 0) = zct Q n + (if Q n then 1 else 0)
    rw [zct_congr n (fun k hk => h k (by omega))]
    by_cases hp : P n
    · rw [if_pos hp, if_pos ((h n (Nat.lt_succ_self n)).mp hp)]
    · rw [if_neg hp, if_neg (fun q => hp ((h n (Nat.lt_succ_self n)).mpr q))]
/-- the first of the numbers from i on, k of them, that P holds of; -1 without -/
def zfi (P : Nat → Prop) [DecidablePred P] : Nat → Nat → Int
  | 0, _ => -1
  | k + 1, i => if P i then ((i : Nat) : Int) else zfi P k (i + 1)
theorem zfi_r {P : Nat → Prop} [DecidablePred P] : ∀ k i : Nat, zfi P k i = -1 ∨ ∃ j, i ≤ j ∧ j < i + k ∧ P j ∧ zfi P k i = ((j : Nat) : Int)
  | 0, i => Or.inl rfl
  | k + 1, i => by
    by_cases h : P i
    · exact Or.inr ⟨i, Nat.le_refl i, by omega, h, if_pos h⟩
    · have e : zfi P (k + 1) i = zfi P k (i + 1) := if_neg h
      rw [e]
      rcases zfi_r (P := P) k (i + 1) with q | ⟨j, a, b, c, d⟩
      · exact Or.inl q
      · exact Or.inr ⟨j, by omega, by omega, c, d⟩
theorem zfi_congr {P Q : Nat → Prop} [DecidablePred P] [DecidablePred Q] : ∀ k i : Nat, (∀ j, i ≤ j → j < i + k → (P j ↔ Q j)) → zfi P k i = zfi Q k i
  | 0, i, _ => rfl
  | k + 1, i, h => by
    show (if P i then _ else zfi P k (i + 1)) = (if Q i then _ else zfi Q k (i + 1))
    rw [zfi_congr k (i + 1) (fun j a b => h j (by omega) (by omega))]
    by_cases hp : P i
    · rw [if_pos hp, if_pos ((h i (Nat.le_refl i) (by omega)).mp hp)]
    · rw [if_neg hp, if_neg (fun q => hp ((h i (Nat.le_refl i) (by omega)).mpr q))]
/-- who of the others are on a floor's landing -/
abbrev zot (σ : Int → Int) (L f a b : Int) (p : Nat) : Prop := ¬ ((p : Nat) : Int) = a ∧ ¬ ((p : Nat) : Int) = b ∧ zon σ L ((p : Nat) : Int) f
theorem zq_oth {n : Nat} (hn : s 354 1 = ((n : Nat) : Int)) (h7 : n ≤ 7) : zE xm_c191 [344, f, a, b, 0, 0] s (zct (zot (s 354) (s 344 23) f a b) n) s := by
  have loop : ∀ (k i : Nat), i + k = n → zA xm_c191 4 [344, f, a, b, zct (zot (s 354) (s 344 23) f a b) i, ((i : Nat) : Int)] [] s (zct (zot (s 354) (s 344 23) f a b) n, s) := by
    intro k
    induction k with
    | zero =>
      intro i hi
      refine zb_191_4 (fun q => ?_) (fun _ => zb_191_29 ?_)
      · have q : ((i : Nat) : Int) < s 354 1 := q
        rw [hn] at q
        omega
      · rw [show i = n by omega]
    | succ k ih =>
      intro i hi
      have r := zct_r (P := zot (s 354) (s 344 23) f a b) i
      have nx := ih (i + 1) (by omega)
      have e1 : ∀ v : Int, v = 0 ∨ v = 1 → zw (zct (zot (s 354) (s 344 23) f a b) i + v) = zct (zot (s 354) (s 344 23) f a b) i + v := fun v hv => zw_id (by omega) (by omega)
      have e2 : zw (((i : Nat) : Int) + 1) = ((i + 1 : Nat) : Int) := zw_id (by omega) (by omega)
      have no : ¬ zot (s 354) (s 344 23) f a b i → zA xm_c191 24 [344, f, a, b, zct (zot (s 354) (s 344 23) f a b) i, ((i : Nat) : Int)] [(false, zct (zot (s 354) (s 344 23) f a b) i)] s (zct (zot (s 354) (s 344 23) f a b) n, s) := fun h => by
        refine zb_191_24 ?_
        rw [e1 0 (Or.inl rfl), e2]
        have e3 : zct (zot (s 354) (s 344 23) f a b) (i + 1) = zct (zot (s 354) (s 344 23) f a b) i + 0 := by
          show zct (zot (s 354) (s 344 23) f a b) i + (if zot (s 354) (s 344 23) f a b i then 1 else 0) = _
          rw [if_neg h]
        rw [← e3]
        exact nx
      refine zb_191_4 (fun _ => zb_191_10 (fun h => no (fun q => q.1 h)) (fun h1 => zb_191_14 (fun h => no (fun q => q.2.1 h)) (fun h2 => zb_191_17 (zq_on (by omega) (by omega)) (zb_191_21 (fun h => no (fun q => ?_)) (fun h => zb_191_22 ?_))))) (fun q => ?_)
      · rw [if_pos q.2.2] at h
        exact absurd h (by decide)
      · have h3 : zon (s 354) (s 344 23) ((i : Nat) : Int) f := by
          by_cases e : zon (s 354) (s 344 23) ((i : Nat) : Int) f
          · exact e
          · exact absurd (if_neg e) h
        rw [e1 1 (Or.inr rfl), e2]
        have e3 : zct (zot (s 354) (s 344 23) f a b) (i + 1) = zct (zot (s 354) (s 344 23) f a b) i + 1 := by
          show zct (zot (s 354) (s 344 23) f a b) i + (if zot (s 354) (s 344 23) f a b i then 1 else 0) = _
          rw [if_pos ⟨h1, h2, h3⟩]
        rw [← e3]
        exact nx
      · have q : ¬ ((i : Nat) : Int) < s 354 1 := q
        rw [hn] at q
        omega
  exact zb_191_0 (loop n 0 (by omega))
/-- who knows it -/
abbrev zkn (σ : Int → Int) (p : Nat) : Prop := ¬ zpe σ ((p : Nat) : Int) 8 < 0
theorem zq_knowing {n : Nat} (hn : s 354 1 = ((n : Nat) : Int)) (h7 : n ≤ 7) : zE xm_c181 [344, 0, 0] s (zfs (zkn (s 354)) n) s := by
  have loop : ∀ (k i : Nat), i + k = n → zA xm_c181 4 [344, zfs (zkn (s 354)) i, ((i : Nat) : Int)] [] s (zfs (zkn (s 354)) n, s) := by
    intro k
    induction k with
    | zero =>
      intro i hi
      refine zb_181_4 (fun q => ?_) (fun _ => zb_181_24 ?_)
      · have q : ((i : Nat) : Int) < s 354 1 := q
        rw [hn] at q
        omega
      · rw [show i = n by omega]
    | succ k ih =>
      intro i hi
      have nx := ih (i + 1) (by omega)
      have e2 : zw (((i : Nat) : Int) + 1) = ((i + 1 : Nat) : Int) := zw_id (by omega) (by omega)
      refine zb_181_4 (fun _ => zb_181_10 (zq_know (by omega) (by omega)) (zb_181_14 (fun h => zb_181_19 ?_) (fun h => zb_181_15 ?_))) (fun q => ?_)
      · have h3 : ¬ zkn (s 354) i := fun q => by
          rw [if_neg q] at h
          exact absurd h (by decide)
        have e3 : zfs (zkn (s 354)) (i + 1) = zor (zfs (zkn (s 354)) i) 0 := by
          show zor (zfs (zkn (s 354)) i) (if zkn (s 354) i then _ else 0) = _
          rw [if_neg h3]
        rw [e2, ← e3]
        exact nx
      · have h3 : zkn (s 354) i := fun q => h (if_pos q)
        have e3 : zfs (zkn (s 354)) (i + 1) = zor (zfs (zkn (s 354)) i) (zshl 1 ((i : Nat) : Int)) := by
          show zor (zfs (zkn (s 354)) i) (if zkn (s 354) i then _ else 0) = _
          rw [if_pos h3]
        rw [e2, ← e3]
        exact nx
      · have q : ¬ ((i : Nat) : Int) < s 354 1 := q
        rw [hn] at q
        omega
  exact zb_181_0 (loop n 0 (by omega))
/-- how many bits a set of persons has -/
def zbc (x : Int) : Int := zct (fun k => zbt x ((k : Nat) : Int) = 1) 7
def zbl : Nat → Int → Int → Option Int
  | 0, _, _ => none
  | m + 1, n, x => if x = 0 then some n else zbl m (zw (n + 1)) (zand x (zw (x - 1)))
theorem zbl_ok {x0 : Int} : ∀ (m : Nat) (n x r : Int), zbl m n x = some r → zA xm_c127 4 [x0, n, x] [] s (r, s)
  | 0, n, x, r, h => by cases h
  | m + 1, n, x, r, h => by
    refine zb_127_4 (fun e => zb_127_14 ?_) (fun e => zb_127_6 (zbl_ok m _ _ r ?_))
    · have h : (if x = 0 then some n else _) = some r := h
      rw [if_pos e] at h
      cases h
      rfl
    · have h : (if x = 0 then some n else _) = some r := h
      rw [if_neg e] at h
      exact h
theorem zbl_all : ∀ x : Fin 128, zbl 8 0 ((x.val : Nat) : Int) = some (zbc ((x.val : Nat) : Int)) := by decide +kernel
theorem zq_bits (h0 : 0 ≤ x) (h1 : x < 128) : zE xm_c127 [x, 0, 0] s (zbc x) s := by
  obtain ⟨n, rfl⟩ := Int.eq_ofNat_of_zero_le h0
  exact zb_127_0 (zbl_ok 8 0 _ _ (zbl_all ⟨n, by omega⟩))
end FR
