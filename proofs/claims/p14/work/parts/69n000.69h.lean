/-! the house's text: what it tells, as a function over the tape's bytes b, T of them; the record R in the reference's layout of read (0 floors, 1 people, 2 errands, 3 hates, 5 night, 6 and 7 bucket, 8 plants, 9 lit, 10 + 11 p a person, 87 + 3 e an errand) -/
abbrev zHS : Type := Int → Int
def zhu (R : zHS) (i x : Int) : zHS := fun k => if k = i then x else R k
theorem zhu_h {R : zHS} {i x : Int} : zhu R i x i = x := if_pos rfl
theorem zhu_m {R : zHS} {i x k : Int} (h : k ≠ i) : zhu R i x k = R k := if_neg h
theorem zhu_zu {s : zS} {j i x : Int} : zu s j i x j = zhu (s j) i x := by
  funext b
  unfold zu zhu
  by_cases e : b = i
  · rw [if_pos ⟨rfl, e⟩, if_pos e]
  · rw [if_neg (fun q => e q.2), if_neg e]
theorem zhu_ze {s : zS} {R : zHS} {j i x : Int} (h : s j = R) : zu s j i x j = zhu R i x := by rw [zhu_zu, h]
/-- a number: the value of its digits -/
def zhv (b : Int → Int) (T p : Int) : Int := zval b p (zg_te b T p - p).toNat
/-- a number from lo to hi that is not un: its value and the place behind it, or the fault -/
def zhn (b : Int → Int) (T p lo hi un : Int) : (Int × Int) ⊕ Int :=
  if zg_kind b T p = 48 then (if 5 < zg_te b T p - p ∨ zhv b T p < lo ∨ hi < zhv b T p ∨ zhv b T p = un then .inr (1 + 8 * p + 1) else .inl (zhv b T p, zg_nx b T p)) else .inr (1 + 8 * p + 0)
abbrev zHg : Type := (Int × zHS) ⊕ Int
def zhb (x : (Int × Int) ⊕ Int) (k : Int → Int → zHg) : zHg := match x with
  | .inl a => k a.1 a.2
  | .inr f => .inr f
/-- one more person -/
def zhp (R : zHS) (i a c : Int) : zHS := zhu (zhu (zhu (zhu (zhu (zhu (zhu (zhu (zhu (zhu (zhu (zhu R i a) (i + 3) c) (i + 1) a) (i + 2) 0) (i + 4) a) (i + 5) 0) (i + 6) 0) (i + 7) 0) (i + 8) (-1)) (i + 9) 0) (i + 10) (-1)) 1 (R 1 + 1)
/-- one more errand -/
def zhe (R : zHS) (i a f t : Int) : zHS := zhu (zhu (zhu (zhu R i a) (i + 1) f) (i + 2) t) 2 (R 2 + 1)
/-- one more pair -/
def zhh (R : zHS) (a c : Int) : zHS := zhu (zhu (zhu R (10 + 11 * a + 5) (zor (R (10 + 11 * a + 5)) (zshl 1 c))) (10 + 11 * c + 5) (zor (R (10 + 11 * c + 5)) (zshl 1 a))) 3 (R 3 + 1)
def zhws : List (List Nat) := [[104, 111, 117, 115, 101], [112, 101, 114, 115, 111, 110], [101, 114, 114, 97, 110, 100], [104, 97, 116, 101, 115], [100, 101, 97, 102], [97, 100, 100, 115], [116, 97, 107, 101, 115], [112, 108, 97, 110, 116], [110, 105, 103, 104, 116], [108, 105, 116], [98, 117, 99, 107, 101, 116]]
/-- which word of a clause's begin the token is; -1: none -/
def zhw (b : Int → Int) (T p : Int) : Int := if zg_kind b T p = 97 then yg_ix (zg_w b p (zg_te b T p)) zhws 0 else -1
/-- is a clause one too many -/
abbrev zhov (w l : Int) (R : zHS) : Prop := l = 40 ∨ (w = 0 ∧ 0 < R 0) ∨ (w ≠ 0 ∧ R 0 = 0) ∨ (w = 1 ∧ R 1 = 7) ∨ (w = 2 ∧ R 2 = 10) ∨ (w = 3 ∧ R 3 = 6) ∨ (w = 8 ∧ 0 ≤ R 5) ∨ (w = 10 ∧ 0 ≤ R 6)
/-- the numbers of a clause that begins with word w -/
def zhc (b : Int → Int) (T w p : Int) (R : zHS) : zHg :=
  if w = 0 then zhb (zhn b T p 2 9 (-1)) (fun x q => .inl (q, zhu R 0 x))
  else if w = 1 then zhb (zhn b T p 0 (R 0 - 1) (-1)) (fun x q => zhb (zhn b T q 1 9 (-1)) (fun y q => .inl (q, zhp R (10 + 11 * R 1) x y)))
  else if w = 2 then zhb (zhn b T p 0 (R 1 - 1) (-1)) (fun x q => zhb (zhn b T q 0 (R 0 - 1) (-1)) (fun y q => zhb (zhn b T q 0 99 (-1)) (fun z q => .inl (q, zhe R (87 + 3 * R 2) x y z))))
  else if w = 3 then zhb (zhn b T p 0 (R 1 - 1) (-1)) (fun x q => zhb (zhn b T q 0 (R 1 - 1) x) (fun y q => .inl (q, zhh R x y)))
  else if w = 4 then zhb (zhn b T p 0 (R 1 - 1) (-1)) (fun x q => .inl (q, zhu R (10 + 11 * x + 6) 1))
  else if w = 5 then zhb (zhn b T p 0 (R 1 - 1) (-1)) (fun x q => zhb (zhn b T q 1 9 (-1)) (fun y q => .inl (q, zhu R (10 + 11 * x + 7) y)))
  else if w = 6 then zhb (zhn b T p 0 (R 1 - 1) (-1)) (fun x q => zhb (zhn b T q 1 9 (-1)) (fun y q => .inl (q, zhu R (10 + 11 * x + 7) (-y))))
  else if w = 7 then zhb (zhn b T p 0 (R 0 - 1) (-1)) (fun x q => .inl (q, zhu R 8 (zor (R 8) (zshl 1 x))))
  else if w = 8 then zhb (zhn b T p 0 99 (-1)) (fun x q => .inl (q, zhu R 5 x))
  else if w = 9 then zhb (zhn b T p 0 (R 0 - 1) (-1)) (fun x q => .inl (q, zhu R 9 (zor (R 9) (zshl 1 x))))
  else zhb (zhn b T p 0 (R 0 - 1) (-1)) (fun x q => zhb (zhn b T q 0 (R 0 - 1) x) (fun y q => .inl (q, zhu (zhu R 6 x) 7 y)))
/-- a clause, l of them before -/
def zhl (b : Int → Int) (T l p : Int) (R : zHS) : zHg := if zhw b T p = -1 then .inr (1 + 8 * p + 0) else if zhov (zhw b T p) l R then .inr (1 + 8 * p + 4) else zhc b T (zhw b T p) (zg_nx b T p) R
/-- all clauses: the fault (0: none), and what is told -/
def zhr (b : Int → Int) (T : Int) : Nat → Int → Int → zHS → Option (Int × zHS)
  | 0, _, _, _ => none
  | n + 1, l, p, R => match zhl b T l p R with
    | .inr f => some (f, R)
    | .inl x => if zg_kind b T x.1 = 59 then zhr b T n (l + 1) (zg_nx b T x.1) x.2 else if zg_kind b T x.1 = -1 then some (0, x.2) else some (1 + 8 * x.1 + 0, x.2)
/-- what is told so far is well formed -/
def zhwf (l : Int) (R : zHS) : Prop := (0 ≤ R 0 ∧ R 0 ≤ 9) ∧ (0 ≤ l ∧ (l = 0 ↔ R 0 = 0)) ∧ (0 ≤ R 1 ∧ R 1 ≤ 7) ∧ (0 ≤ R 2 ∧ R 2 ≤ 10) ∧ (0 ≤ R 3 ∧ R 3 ≤ 6) ∧ (R 5 = -1 ∨ 0 ≤ R 5) ∧ ((R 6 = -1 ∧ R 7 = -1) ∨ (0 ≤ R 6 ∧ 0 ≤ R 7))
section HG
variable {b : Int → Int} {T : Int}
theorem zhn_i {p lo hi un v q : Int} (hb : zg_by b) (hT : T ≤ 400) (hp : 0 ≤ p) (hpT : p ≤ T) (h : zhn b T p lo hi un = .inl (v, q)) : (lo ≤ v ∧ v ≤ hi ∧ v ≠ un) ∧ p < q ∧ q ≤ T := by
  have hn := zg_nx_le hb hT hp
  unfold zhn at h
  by_cases e : zg_kind b T p = 48
  · rw [if_pos e] at h
    by_cases e2 : 5 < zg_te b T p - p ∨ zhv b T p < lo ∨ hi < zhv b T p ∨ zhv b T p = un
    · rw [if_pos e2] at h
      cases h
    · rw [if_neg e2] at h
      injection h with h
      injection h with h1 h2
      subst h1
      subst h2
      have := hn.2.1 hpT
      have := hn.2.2 (by omega)
      omega
  · rw [if_neg e] at h
    cases h
theorem zhn_f {p lo hi un f : Int} (hp : 0 ≤ p) (h : zhn b T p lo hi un = .inr f) : f ≠ 0 := by
  unfold zhn at h
  split at h
  · split at h
    · injection h with h
      omega
    · cases h
  · injection h with h
    omega
theorem zhb_l {x : (Int × Int) ⊕ Int} {k : Int → Int → zHg} {z : Int × zHS} (h : zhb x k = .inl z) : ∃ v q, x = .inl (v, q) ∧ k v q = .inl z := by
  match x, h with
  | .inl (v, q), h => exact ⟨v, q, rfl, h⟩
  | .inr f, h =>
    have h : (.inr f : zHg) = .inl z := h
    cases h
theorem zhp_o {R : zHS} {i a c k : Int} (h1 : k ≠ 1) (h : k < i ∨ i + 10 < k) : zhp R i a c k = R k := by
  unfold zhp
  rw [zhu_m h1, zhu_m (by omega), zhu_m (by omega), zhu_m (by omega), zhu_m (by omega), zhu_m (by omega), zhu_m (by omega), zhu_m (by omega), zhu_m (by omega), zhu_m (by omega), zhu_m (by omega), zhu_m (by omega)]
theorem zhe_o {R : zHS} {i a f t k : Int} (h1 : k ≠ 2) (h : k < i ∨ i + 2 < k) : zhe R i a f t k = R k := by
  unfold zhe
  rw [zhu_m h1, zhu_m (by omega), zhu_m (by omega), zhu_m (by omega)]
theorem zhh_o {R : zHS} {a c k : Int} (h1 : k ≠ 3) (ha : 0 ≤ a) (hc : 0 ≤ c) (h : k < 10) : zhh R a c k = R k := by
  unfold zhh
  rw [zhu_m h1, zhu_m (by omega), zhu_m (by omega)]
/-- a clause keeps what is told well formed, and goes on -/
theorem zhc_ok {w p l : Int} {R : zHS} {z : Int × zHS} (hb : zg_by b) (hT : T ≤ 400) (hp : 0 ≤ p) (hpT : p ≤ T) (hw0 : 0 ≤ w) (hw : w ≤ 10) (hwf : zhwf l R) (hov : ¬ zhov w l R) (h : zhc b T w p R = .inl z) : zhwf (l + 1) z.2 ∧ p < z.1 ∧ z.1 ≤ T := by
  obtain ⟨w0, w1, w2, w3, w4, w5, w6⟩ := hwf
  have keep : ∀ (q : Int) (R' : zHS), z = (q, R') → (p < q ∧ q ≤ T) → R' 0 = R 0 → 0 < R 0 → R' 1 = R 1 → R' 2 = R 2 → R' 3 = R 3 → R' 5 = R 5 → R' 6 = R 6 → R' 7 = R 7 → zhwf (l + 1) z.2 ∧ p < z.1 ∧ z.1 ≤ T := by
    intro q R' e h0 e0 h1 e1 e2 e3 e5 e6 e7
    subst e
    refine ⟨⟨?_, ?_, ?_, ?_, ?_, ?_, ?_⟩, h0⟩
    · show 0 ≤ R' 0 ∧ R' 0 ≤ 9
      omega
    · show 0 ≤ l + 1 ∧ (l + 1 = 0 ↔ R' 0 = 0)
      omega
    · show 0 ≤ R' 1 ∧ R' 1 ≤ 7
      omega
    · show 0 ≤ R' 2 ∧ R' 2 ≤ 10
      omega
    · show 0 ≤ R' 3 ∧ R' 3 ≤ 6
      omega
    · show R' 5 = -1 ∨ 0 ≤ R' 5
      omega
    · show (R' 6 = -1 ∧ R' 7 = -1) ∨ (0 ≤ R' 6 ∧ 0 ≤ R' 7)
      omega
  have one : ∀ {p lo hi un v q : Int}, 0 ≤ p → p ≤ T → zhn b T p lo hi un = .inl (v, q) → (lo ≤ v ∧ v ≤ hi ∧ v ≠ un) ∧ p < q ∧ q ≤ T := fun h1 h2 h3 => zhn_i hb hT h1 h2 h3
  unfold zhc at h
  by_cases e0 : w = 0
  · rw [if_pos e0] at h
    obtain ⟨v, q, x1, x2⟩ := zhb_l h
    have o1 := one hp hpT x1
    injection x2 with x2
    subst x2
    refine ⟨⟨?_, ?_, ?_, ?_, ?_, ?_, ?_⟩, o1.2⟩
    · show 0 ≤ zhu R 0 v 0 ∧ zhu R 0 v 0 ≤ 9
      rw [zhu_h]
      omega
    · show 0 ≤ l + 1 ∧ (l + 1 = 0 ↔ zhu R 0 v 0 = 0)
      rw [zhu_h]
      omega
    · show 0 ≤ zhu R 0 v 1 ∧ zhu R 0 v 1 ≤ 7
      rw [zhu_m (by decide)]
      exact w2
    · show 0 ≤ zhu R 0 v 2 ∧ zhu R 0 v 2 ≤ 10
      rw [zhu_m (by decide)]
      exact w3
    · show 0 ≤ zhu R 0 v 3 ∧ zhu R 0 v 3 ≤ 6
      rw [zhu_m (by decide)]
      exact w4
    · show zhu R 0 v 5 = -1 ∨ 0 ≤ zhu R 0 v 5
      rw [zhu_m (by decide)]
      exact w5
    · show (zhu R 0 v 6 = -1 ∧ zhu R 0 v 7 = -1) ∨ (0 ≤ zhu R 0 v 6 ∧ 0 ≤ zhu R 0 v 7)
      rw [zhu_m (by decide), zhu_m (by decide)]
      exact w6
  rw [if_neg e0] at h
  have hR0 : 0 < R 0 := by
    have : ¬ (w ≠ 0 ∧ R 0 = 0) := fun q => hov (Or.inr (Or.inr (Or.inl q)))
    omega
  by_cases e1 : w = 1
  · rw [if_pos e1] at h
    obtain ⟨v, q, x1, x2⟩ := zhb_l h
    have o1 := one hp hpT x1
    obtain ⟨v2, q2, y1, y2⟩ := zhb_l x2
    have o2 := one (by omega) o1.2.2 y1
    injection y2 with y2
    subst y2
    have h7 : R 1 ≠ 7 := fun q => hov (Or.inr (Or.inr (Or.inr (Or.inl ⟨e1, q⟩))))
    have ko : ∀ k, k ≠ 1 → k < 10 → zhp R (10 + 11 * R 1) v v2 k = R k := fun k h1 h2 => zhp_o h1 (by omega)
    have k1 : zhp R (10 + 11 * R 1) v v2 1 = R 1 + 1 := zhu_h
    refine ⟨⟨?_, ?_, ?_, ?_, ?_, ?_, ?_⟩, by show p < q2 ∧ q2 ≤ T; omega⟩
    · show 0 ≤ zhp R (10 + 11 * R 1) v v2 0 ∧ zhp R (10 + 11 * R 1) v v2 0 ≤ 9
      rw [ko 0 (by decide) (by decide)]
      exact w0
    · show 0 ≤ l + 1 ∧ (l + 1 = 0 ↔ zhp R (10 + 11 * R 1) v v2 0 = 0)
      rw [ko 0 (by decide) (by decide)]
      omega
    · show 0 ≤ zhp R (10 + 11 * R 1) v v2 1 ∧ zhp R (10 + 11 * R 1) v v2 1 ≤ 7
      rw [k1]
      omega
    · show 0 ≤ zhp R (10 + 11 * R 1) v v2 2 ∧ zhp R (10 + 11 * R 1) v v2 2 ≤ 10
      rw [ko 2 (by decide) (by decide)]
      exact w3
    · show 0 ≤ zhp R (10 + 11 * R 1) v v2 3 ∧ zhp R (10 + 11 * R 1) v v2 3 ≤ 6
      rw [ko 3 (by decide) (by decide)]
      exact w4
    · show zhp R (10 + 11 * R 1) v v2 5 = -1 ∨ 0 ≤ zhp R (10 + 11 * R 1) v v2 5
      rw [ko 5 (by decide) (by decide)]
      exact w5
    · show (zhp R (10 + 11 * R 1) v v2 6 = -1 ∧ zhp R (10 + 11 * R 1) v v2 7 = -1) ∨ (0 ≤ zhp R (10 + 11 * R 1) v v2 6 ∧ 0 ≤ zhp R (10 + 11 * R 1) v v2 7)
      rw [ko 6 (by decide) (by decide), ko 7 (by decide) (by decide)]
      exact w6
  rw [if_neg e1] at h
  by_cases e2 : w = 2
  · rw [if_pos e2] at h
    obtain ⟨v, q, x1, x2⟩ := zhb_l h
    have o1 := one hp hpT x1
    obtain ⟨v2, q2, y1, y2⟩ := zhb_l x2
    have o2 := one (by omega) o1.2.2 y1
    obtain ⟨v3, q3, z1, z2⟩ := zhb_l y2
    have o3 := one (by omega) o2.2.2 z1
    injection z2 with z2
    subst z2
    have h7 : R 2 ≠ 10 := fun q => hov (Or.inr (Or.inr (Or.inr (Or.inr (Or.inl ⟨e2, q⟩)))))
    have ko : ∀ k, k ≠ 2 → k < 10 → zhe R (87 + 3 * R 2) v v2 v3 k = R k := fun k h1 h2 => zhe_o h1 (by omega)
    have k1 : zhe R (87 + 3 * R 2) v v2 v3 2 = R 2 + 1 := zhu_h
    refine ⟨⟨?_, ?_, ?_, ?_, ?_, ?_, ?_⟩, by show p < q3 ∧ q3 ≤ T; omega⟩
    · show 0 ≤ zhe R (87 + 3 * R 2) v v2 v3 0 ∧ zhe R (87 + 3 * R 2) v v2 v3 0 ≤ 9
      rw [ko 0 (by decide) (by decide)]
      exact w0
    · show 0 ≤ l + 1 ∧ (l + 1 = 0 ↔ zhe R (87 + 3 * R 2) v v2 v3 0 = 0)
      rw [ko 0 (by decide) (by decide)]
      omega
    · show 0 ≤ zhe R (87 + 3 * R 2) v v2 v3 1 ∧ zhe R (87 + 3 * R 2) v v2 v3 1 ≤ 7
      rw [ko 1 (by decide) (by decide)]
      exact w2
    · show 0 ≤ zhe R (87 + 3 * R 2) v v2 v3 2 ∧ zhe R (87 + 3 * R 2) v v2 v3 2 ≤ 10
      rw [k1]
      omega
    · show 0 ≤ zhe R (87 + 3 * R 2) v v2 v3 3 ∧ zhe R (87 + 3 * R 2) v v2 v3 3 ≤ 6
      rw [ko 3 (by decide) (by decide)]
      exact w4
    · show zhe R (87 + 3 * R 2) v v2 v3 5 = -1 ∨ 0 ≤ zhe R (87 + 3 * R 2) v v2 v3 5
      rw [ko 5 (by decide) (by decide)]
      exact w5
    · show (zhe R (87 + 3 * R 2) v v2 v3 6 = -1 ∧ zhe R (87 + 3 * R 2) v v2 v3 7 = -1) ∨ (0 ≤ zhe R (87 + 3 * R 2) v v2 v3 6 ∧ 0 ≤ zhe R (87 + 3 * R 2) v v2 v3 7)
      rw [ko 6 (by decide) (by decide), ko 7 (by decide) (by decide)]
      exact w6
  rw [if_neg e2] at h
  by_cases e3 : w = 3
  · rw [if_pos e3] at h
    obtain ⟨v, q, x1, x2⟩ := zhb_l h
    have o1 := one hp hpT x1
    obtain ⟨v2, q2, y1, y2⟩ := zhb_l x2
    have o2 := one (by omega) o1.2.2 y1
    injection y2 with y2
    subst y2
    have h7 : R 3 ≠ 6 := fun q => hov (Or.inr (Or.inr (Or.inr (Or.inr (Or.inr (Or.inl ⟨e3, q⟩))))))
    have ko : ∀ k, k ≠ 3 → k < 10 → zhh R v v2 k = R k := fun k h1 h2 => zhh_o h1 o1.1.1 o2.1.1 h2
    have k1 : zhh R v v2 3 = R 3 + 1 := zhu_h
    refine ⟨⟨?_, ?_, ?_, ?_, ?_, ?_, ?_⟩, by show p < q2 ∧ q2 ≤ T; omega⟩
    · show 0 ≤ zhh R v v2 0 ∧ zhh R v v2 0 ≤ 9
      rw [ko 0 (by decide) (by decide)]
      exact w0
    · show 0 ≤ l + 1 ∧ (l + 1 = 0 ↔ zhh R v v2 0 = 0)
      rw [ko 0 (by decide) (by decide)]
      omega
    · show 0 ≤ zhh R v v2 1 ∧ zhh R v v2 1 ≤ 7
      rw [ko 1 (by decide) (by decide)]
      exact w2
    · show 0 ≤ zhh R v v2 2 ∧ zhh R v v2 2 ≤ 10
      rw [ko 2 (by decide) (by decide)]
      exact w3
    · show 0 ≤ zhh R v v2 3 ∧ zhh R v v2 3 ≤ 6
      rw [k1]
      omega
    · show zhh R v v2 5 = -1 ∨ 0 ≤ zhh R v v2 5
      rw [ko 5 (by decide) (by decide)]
      exact w5
    · show (zhh R v v2 6 = -1 ∧ zhh R v v2 7 = -1) ∨ (0 ≤ zhh R v v2 6 ∧ 0 ≤ zhh R v v2 7)
      rw [ko 6 (by decide) (by decide), ko 7 (by decide) (by decide)]
      exact w6
  rw [if_neg e3] at h
  -- one place of the record
  have put : ∀ {i x q : Int}, (10 ≤ i ∨ i = 8 ∨ i = 9) → z = (q, zhu R i x) → (p < q ∧ q ≤ T) → zhwf (l + 1) z.2 ∧ p < z.1 ∧ z.1 ≤ T := by
    intro i x q hi e hq
    exact keep q _ e hq (zhu_m (by omega)) hR0 (zhu_m (by omega)) (zhu_m (by omega)) (zhu_m (by omega)) (zhu_m (by omega)) (zhu_m (by omega)) (zhu_m (by omega))
  by_cases e4 : w = 4
  · rw [if_pos e4] at h
    obtain ⟨v, q, x1, x2⟩ := zhb_l h
    have o1 := one hp hpT x1
    injection x2 with x2
    exact put (by omega) x2.symm o1.2
  rw [if_neg e4] at h
  by_cases e5 : w = 5
  · rw [if_pos e5] at h
    obtain ⟨v, q, x1, x2⟩ := zhb_l h
    have o1 := one hp hpT x1
    obtain ⟨v2, q2, y1, y2⟩ := zhb_l x2
    have o2 := one (by omega) o1.2.2 y1
    injection y2 with y2
    exact put (by omega) y2.symm (by omega)
  rw [if_neg e5] at h
  by_cases e6 : w = 6
  · rw [if_pos e6] at h
    obtain ⟨v, q, x1, x2⟩ := zhb_l h
    have o1 := one hp hpT x1
    obtain ⟨v2, q2, y1, y2⟩ := zhb_l x2
    have o2 := one (by omega) o1.2.2 y1
    injection y2 with y2
    exact put (by omega) y2.symm (by omega)
  rw [if_neg e6] at h
  by_cases e7 : w = 7
  · rw [if_pos e7] at h
    obtain ⟨v, q, x1, x2⟩ := zhb_l h
    have o1 := one hp hpT x1
    injection x2 with x2
    exact put (by omega) x2.symm o1.2
  rw [if_neg e7] at h
  by_cases e8 : w = 8
  · rw [if_pos e8] at h
    obtain ⟨v, q, x1, x2⟩ := zhb_l h
    have o1 := one hp hpT x1
    injection x2 with x2
    subst x2
    refine ⟨⟨?_, ?_, ?_, ?_, ?_, ?_, ?_⟩, o1.2⟩
    · show 0 ≤ zhu R 5 v 0 ∧ zhu R 5 v 0 ≤ 9
      rw [zhu_m (by decide)]
      exact w0
    · show 0 ≤ l + 1 ∧ (l + 1 = 0 ↔ zhu R 5 v 0 = 0)
      rw [zhu_m (by decide)]
      omega
    · show 0 ≤ zhu R 5 v 1 ∧ zhu R 5 v 1 ≤ 7
      rw [zhu_m (by decide)]
      exact w2
    · show 0 ≤ zhu R 5 v 2 ∧ zhu R 5 v 2 ≤ 10
      rw [zhu_m (by decide)]
      exact w3
    · show 0 ≤ zhu R 5 v 3 ∧ zhu R 5 v 3 ≤ 6
      rw [zhu_m (by decide)]
      exact w4
    · show zhu R 5 v 5 = -1 ∨ 0 ≤ zhu R 5 v 5
      rw [zhu_h]
      omega
    · show (zhu R 5 v 6 = -1 ∧ zhu R 5 v 7 = -1) ∨ (0 ≤ zhu R 5 v 6 ∧ 0 ≤ zhu R 5 v 7)
      rw [zhu_m (by decide), zhu_m (by decide)]
      exact w6
  rw [if_neg e8] at h
  by_cases e9 : w = 9
  · rw [if_pos e9] at h
    obtain ⟨v, q, x1, x2⟩ := zhb_l h
    have o1 := one hp hpT x1
    injection x2 with x2
    exact put (by omega) x2.symm o1.2
  rw [if_neg e9] at h
  obtain ⟨v, q, x1, x2⟩ := zhb_l h
  have o1 := one hp hpT x1
  obtain ⟨v2, q2, y1, y2⟩ := zhb_l x2
  have o2 := one (by omega) o1.2.2 y1
  injection y2 with y2
  subst y2
  have k6 : zhu (zhu R 6 v) 7 v2 6 = v := by rw [zhu_m (by decide), zhu_h]
  have k7 : zhu (zhu R 6 v) 7 v2 7 = v2 := zhu_h
  have ko : ∀ k, k ≠ 6 → k ≠ 7 → zhu (zhu R 6 v) 7 v2 k = R k := fun k h6 h7 => by rw [zhu_m h7, zhu_m h6]
  refine ⟨⟨?_, ?_, ?_, ?_, ?_, ?_, ?_⟩, by show p < q2 ∧ q2 ≤ T; omega⟩
  · show 0 ≤ zhu (zhu R 6 v) 7 v2 0 ∧ zhu (zhu R 6 v) 7 v2 0 ≤ 9
    rw [ko 0 (by decide) (by decide)]
    exact w0
  · show 0 ≤ l + 1 ∧ (l + 1 = 0 ↔ zhu (zhu R 6 v) 7 v2 0 = 0)
    rw [ko 0 (by decide) (by decide)]
    omega
  · show 0 ≤ zhu (zhu R 6 v) 7 v2 1 ∧ zhu (zhu R 6 v) 7 v2 1 ≤ 7
    rw [ko 1 (by decide) (by decide)]
    exact w2
  · show 0 ≤ zhu (zhu R 6 v) 7 v2 2 ∧ zhu (zhu R 6 v) 7 v2 2 ≤ 10
    rw [ko 2 (by decide) (by decide)]
    exact w3
  · show 0 ≤ zhu (zhu R 6 v) 7 v2 3 ∧ zhu (zhu R 6 v) 7 v2 3 ≤ 6
    rw [ko 3 (by decide) (by decide)]
    exact w4
  · show zhu (zhu R 6 v) 7 v2 5 = -1 ∨ 0 ≤ zhu (zhu R 6 v) 7 v2 5
    rw [ko 5 (by decide) (by decide)]
    exact w5
  · show (zhu (zhu R 6 v) 7 v2 6 = -1 ∧ zhu (zhu R 6 v) 7 v2 7 = -1) ∨ (0 ≤ zhu (zhu R 6 v) 7 v2 6 ∧ 0 ≤ zhu (zhu R 6 v) 7 v2 7)
    rw [k6, k7]
    omega
/-- the words are eleven -/
theorem zhw_r {p : Int} : -1 ≤ zhw b T p ∧ zhw b T p ≤ 10 := by
  unfold zhw
  by_cases e97 : zg_kind b T p = 97
  · rw [if_pos e97]
    have key : ∀ (ws : List (List Nat)) (tok : List Int) (k : Int), 0 ≤ k → -1 ≤ yg_ix tok ws k ∧ yg_ix tok ws k ≤ k + ws.length - 1 ∨ yg_ix tok ws k = -1 := by
      intro ws
      induction ws with
      | nil => intro tok k hk; exact Or.inr rfl
      | cons w ws ih =>
        intro tok k hk
        show -1 ≤ (if _ then _ else _) ∧ (if _ then _ else _) ≤ _ ∨ (if _ then _ else _) = _
        by_cases e : tok = yg_i w
        · rw [if_pos e]
          left
          rw [List.length_cons]
          omega
        · rw [if_neg e]
          have := ih tok (k + 1) (by omega)
          rw [List.length_cons]
          omega
    have h := key zhws (zg_w b p (zg_te b T p)) 0 (by decide)
    have hl : zhws.length = 11 := rfl
    omega
  · rw [if_neg e97]
    omega
end HG
