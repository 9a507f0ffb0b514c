/-! the class's bell: errands and flights -/
/-- what is told of a house, in the class's cells from h on -/
def zRH (s : zS) (h : Int) (σ : Int → Int) (n m : Nat) : Prop := (s h 0 = σ 0 ∧ s h 1 = σ 1 ∧ s h 2 = σ 2 ∧ s h 5 = σ 145 ∧ s h 6 = σ 9 ∧ s h 7 = σ 5 ∧ (σ 0 ≠ 0 → s h 8 = σ 6 ∧ s h 9 = σ 7)) ∧ (∀ p : Nat, p < n → s (h + 1) ((p : Nat) : Int) = zpe σ ((p : Nat) : Int) 4 ∧ s (h + 2) ((p : Nat) : Int) = σ (138 + ((p : Nat) : Int)) ∧ s (h + 3) ((p : Nat) : Int) = zpe σ ((p : Nat) : Int) 5 ∧ s (h + 4) ((p : Nat) : Int) = zpe σ ((p : Nat) : Int) 7 ∧ zbt (s h 4) ((p : Nat) : Int) = zpe σ ((p : Nat) : Int) 6) ∧ ∀ e : Nat, e < m → s (h + 5) ((e : Nat) : Int) = σ (87 + 3 * ((e : Nat) : Int)) ∧ s (h + 6) ((e : Nat) : Int) = σ (87 + 3 * ((e : Nat) : Int) + 1) ∧ s (h + 7) ((e : Nat) : Int) = σ (87 + 3 * ((e : Nat) : Int) + 2)
/-- who is where and goes where, in the class's cells from f on -/
def zRF (s : zS) (f : Int) (σ : Int → Int) (n : Nat) : Prop := s f 0 = σ 4 ∧ s f 1 = σ 8 ∧ ∀ p : Nat, p < n → s (f + 1) ((p : Nat) : Int) = zpe σ ((p : Nat) : Int) 0 ∧ s (f + 2) ((p : Nat) : Int) = zpe σ ((p : Nat) : Int) 1 ∧ s (f + 3) ((p : Nat) : Int) = zpe σ ((p : Nat) : Int) 2 ∧ s (f + 4) ((p : Nat) : Int) = zpe σ ((p : Nat) : Int) 3
/-- who knows it, in the class's cells from l on -/
def zRL (s : zS) (l : Int) (σ : Int → Int) (n : Nat) : Prop := s l 0 = zfs (zkn σ) n ∧ ∀ p : Nat, p < n → s (l + 1) ((p : Nat) : Int) = zpe σ ((p : Nat) : Int) 8 ∧ s (l + 2) ((p : Nat) : Int) = zpe σ ((p : Nat) : Int) 9 ∧ s (l + 3) ((p : Nat) : Int) = zpe σ ((p : Nat) : Int) 10
/-- what holds of all that is told -/
def zGs (bB : Int) (σ : Int → Int) (n m : Nat) : Prop := (σ 1 = ((n : Nat) : Int) ∧ n ≤ 7 ∧ σ 2 = ((m : Nat) : Int) ∧ m ≤ 10 ∧ 0 ≤ σ 0 ∧ σ 0 ≤ 9 ∧ (n ≠ 0 → 2 ≤ σ 0) ∧ 0 ≤ σ 4 ∧ σ 4 ≤ 999 ∧ σ 4 ≤ bB) ∧ (∀ p : Nat, p < n → (0 ≤ zpe σ ((p : Nat) : Int) 0 ∧ zpe σ ((p : Nat) : Int) 0 < σ 0) ∧ (0 ≤ zpe σ ((p : Nat) : Int) 1 ∧ zpe σ ((p : Nat) : Int) 1 < σ 0) ∧ (1 ≤ zpe σ ((p : Nat) : Int) 3 ∧ zpe σ ((p : Nat) : Int) 3 ≤ 9) ∧ (0 ≤ zpe σ ((p : Nat) : Int) 4 ∧ zpe σ ((p : Nat) : Int) 4 < σ 0) ∧ (zpe σ ((p : Nat) : Int) 0 ≠ zpe σ ((p : Nat) : Int) 1 → 1 ≤ zpe σ ((p : Nat) : Int) 2 ∧ zpe σ ((p : Nat) : Int) 2 ≤ 9) ∧ (-1 ≤ zpe σ ((p : Nat) : Int) 8 ∧ zpe σ ((p : Nat) : Int) 8 ≤ 2000) ∧ (1 ≤ σ (138 + ((p : Nat) : Int)) ∧ σ (138 + ((p : Nat) : Int)) ≤ 9) ∧ (zpe σ ((p : Nat) : Int) 6 = 0 ∨ zpe σ ((p : Nat) : Int) 6 = 1) ∧ ∀ q : Nat, q < n → zbt (zpe σ ((p : Nat) : Int) 5) ((q : Nat) : Int) = zbt (zpe σ ((q : Nat) : Int) 5) ((p : Nat) : Int)) ∧ ∀ e : Nat, e < m → (0 ≤ σ (87 + 3 * ((e : Nat) : Int)) ∧ σ (87 + 3 * ((e : Nat) : Int)) ≤ 6) ∧ 0 ≤ σ (87 + 3 * ((e : Nat) : Int) + 1) ∧ σ (87 + 3 * ((e : Nat) : Int) + 1) < σ 0
/-- whether the errand e is one of the person p at the bell b -/
abbrev zemm (σ : Int → Int) (p b : Int) (e : Nat) : Prop := σ (87 + 3 * ((e : Nat) : Int)) = p ∧ σ (87 + 3 * ((e : Nat) : Int) + 2) = b
/-- the floor of the last told of the errands from i on, k of them -/
def zes (σ : Int → Int) (p b : Int) : Nat → Nat → Int
  | 0, _ => -1
  | k + 1, i => if zes σ p b k (i + 1) = -1 then (if zemm σ p b i then σ (87 + 3 * ((i : Nat) : Int) + 1) else -1) else zes σ p b k (i + 1)
theorem zes_add {σ : Int → Int} {p b : Int} : ∀ (k i : Nat), (∀ e : Nat, i ≤ e → e < i + k → 0 ≤ σ (87 + 3 * ((e : Nat) : Int) + 1)) → zerr σ p b (i + k) = if zes σ p b k i = -1 then zerr σ p b i else zes σ p b k i
  | 0, i, h => by
    show zerr σ p b i = if (-1 : Int) = -1 then _ else _
    rw [if_pos rfl]
  | k + 1, i, h => by
    rw [show i + (k + 1) = (i + 1) + k by omega, zes_add k (i + 1) (fun e a b => h e (by omega) (by omega))]
    show _ = if (if zes σ p b k (i + 1) = -1 then (if zemm σ p b i then σ (87 + 3 * ((i : Nat) : Int) + 1) else -1) else zes σ p b k (i + 1)) = -1 then zerr σ p b i else (if zes σ p b k (i + 1) = -1 then (if zemm σ p b i then σ (87 + 3 * ((i : Nat) : Int) + 1) else -1) else zes σ p b k (i + 1))
    by_cases c : zes σ p b k (i + 1) = -1
    · rw [if_pos c]
      simp only [if_pos c]
      show (if zemm σ p b i then σ (87 + 3 * ((i : Nat) : Int) + 1) else zerr σ p b i) = _
      by_cases d : zemm σ p b i
      · have := h i (Nat.le_refl i) (by omega)
        simp only [if_pos d]
        rw [if_neg (by omega)]
      · simp only [if_neg d]
        rfl
    · simp only [if_neg c]
theorem zes_all {σ : Int → Int} {p b : Int} {m : Nat} (h : ∀ e : Nat, e < m → 0 ≤ σ (87 + 3 * ((e : Nat) : Int) + 1)) : zes σ p b m 0 = zerr σ p b m := by
  have := zes_add (σ := σ) (p := p) (b := b) m 0 (fun e _ a => h e (by omega))
  rw [Nat.zero_add] at this
  rw [this]
  by_cases c : zes σ p b m 0 = -1
  · rw [if_pos c, c]
    rfl
  · rw [if_neg c]
section GA
variable {bB : Int}
variable {s t : zS} {σ : Int → Int} {n m : Nat} {f h : Int}
theorem zo_bit {x k : Int} : zE xm_c120 [x, k] s (zbt x k) s := zb_120_0 rfl
theorem zo_stand {p : Int} : zE xm_c4 [f, p] s (if s (f + 1) p = s (f + 2) p then 1 else 0) s := zb_4_0 (fun q => zb_4_9 (by rw [if_pos q])) (fun q => zb_4_11 (by rw [if_neg q]))
theorem zo_setOut {p x : Int} : zE xm_c5 [f, p, x] s 0 (zu (zu s (f + 2) p x) (f + 3) p (s (f + 4) p)) := zb_5_0 (Prod.ext rfl (by
  show zu (zu s (f + 2) p x) (f + 3) p (zu s (f + 2) p x (f + 4) p) = _
  rw [zu_cell (by omega)]))
/-- the class's errands: the last told of a person at a bell counts -/
theorem zo_errands (hH : zRH s h σ n m) (hF : zRF s f σ n) (hG : zGs bB σ n m) (hd : ∀ k : Int, 0 ≤ k → k ≤ 7 → h + k ≠ f + 2 ∧ h + k ≠ f + 3) : ∃ s1, zE xm_c9 [f, h, 0, 0, 0] s 0 s1 ∧ (∀ q : Nat, q < n → s1 (f + 2) ((q : Nat) : Int) = zvG σ m ((q : Nat) : Int) ∧ s1 (f + 3) ((q : Nat) : Int) = zpK (zpe σ ((q : Nat) : Int) 0) (zpe σ ((q : Nat) : Int) 1) (zpe σ ((q : Nat) : Int) 2) (zpe σ ((q : Nat) : Int) 3) (zerr σ ((q : Nat) : Int) (σ 4) m)) ∧ ∀ x, x ≠ f + 2 → x ≠ f + 3 → s1 x = s x := by
  obtain ⟨⟨g1, g2, g3, g4, g5, g6, g7, g8, g9⟩, gp, ge⟩ := hG
  obtain ⟨f0, f1, fp⟩ := hF
  obtain ⟨⟨h0, h1, h2, h5, h6, h7, h8⟩, hp, he⟩ := hH
  have loop : ∀ (i k : Nat) (t : zS) (L x4 : Int), i + k = m → (∀ x, x ≠ f + 2 → x ≠ f + 3 → t x = s x) → (∀ q : Nat, q < 7 → zbt L ((q : Nat) : Int) = if zes σ ((q : Nat) : Int) (σ 4) k i = -1 then 0 else 1) → (∀ q : Nat, q < n → t (f + 2) ((q : Nat) : Int) = zpG (zpe σ ((q : Nat) : Int) 0) (zpe σ ((q : Nat) : Int) 1) (zes σ ((q : Nat) : Int) (σ 4) k i) ∧ t (f + 3) ((q : Nat) : Int) = zpK (zpe σ ((q : Nat) : Int) 0) (zpe σ ((q : Nat) : Int) 1) (zpe σ ((q : Nat) : Int) 2) (zpe σ ((q : Nat) : Int) 3) (zes σ ((q : Nat) : Int) (σ 4) k i)) → ∃ s1, zA xm_c9 7 [f, h, L, ((i : Nat) : Int) - 1, x4] [] t (0, s1) ∧ (∀ q : Nat, q < n → s1 (f + 2) ((q : Nat) : Int) = zpG (zpe σ ((q : Nat) : Int) 0) (zpe σ ((q : Nat) : Int) 1) (zes σ ((q : Nat) : Int) (σ 4) m 0) ∧ s1 (f + 3) ((q : Nat) : Int) = zpK (zpe σ ((q : Nat) : Int) 0) (zpe σ ((q : Nat) : Int) 1) (zpe σ ((q : Nat) : Int) 2) (zpe σ ((q : Nat) : Int) 3) (zes σ ((q : Nat) : Int) (σ 4) m 0)) ∧ ∀ x, x ≠ f + 2 → x ≠ f + 3 → s1 x = s x := by
    intro i
    induction i with
    | zero =>
      intro k t L x4 hi ht hL hq
      have e : k = m := by omega
      subst e
      exact ⟨t, zb_9_7 (fun _ => zb_9_55 rfl) (fun q => absurd (show ((0 : Nat) : Int) - 1 < 0 by decide) q), hq, ht⟩
    | succ i ih =>
      intro k t L x4 hi ht hL hq
      have e1 : ((i + 1 : Nat) : Int) - 1 = ((i : Nat) : Int) := by omega
      have e2 : zw (((i : Nat) : Int) + (-1)) = ((i : Nat) : Int) - 1 := zw_id (by clear ih hL hq ht hd; omega) (by clear ih hL hq ht hd; omega)
      rw [e1]
      have i0 : ¬ ((i : Nat) : Int) < 0 := by clear ih hL hq ht hd; omega
      have im : i < m := by clear ih hL hq ht hd; omega
      obtain ⟨v5, v6, v7⟩ := he i im
      obtain ⟨⟨ep0, ep6⟩, ef0, ef1⟩ := ge i im
      have d7 := hd 7 (by decide) (by decide)
      have d6 := hd 6 (by decide) (by decide)
      have d5 := hd 5 (by decide) (by decide)
      have t7 : t (h + 7) ((i : Nat) : Int) = σ (87 + 3 * ((i : Nat) : Int) + 2) := by rw [ht _ d7.1 d7.2, v7]
      have t6 : t (h + 6) ((i : Nat) : Int) = σ (87 + 3 * ((i : Nat) : Int) + 1) := by rw [ht _ d6.1 d6.2, v6]
      have t5 : t (h + 5) ((i : Nat) : Int) = σ (87 + 3 * ((i : Nat) : Int)) := by rw [ht _ d5.1 d5.2, v5]
      have tf : t f 0 = σ 4 := by rw [ht f (by clear ih hL hq ht hd; omega) (by clear ih hL hq ht hd; omega), f0]
      have t1 : ∀ q : Nat, q < n → t (f + 1) ((q : Nat) : Int) = zpe σ ((q : Nat) : Int) 0 := fun q hqn => by
        rw [ht (f + 1) (by clear ih hL hq ht hd; omega) (by clear ih hL hq ht hd; omega), (fp q hqn).1]
      have t4 : ∀ q : Nat, q < n → t (f + 4) ((q : Nat) : Int) = zpe σ ((q : Nat) : Int) 3 := fun q hqn => by
        rw [ht (f + 4) (by clear ih hL hq ht hd; omega) (by clear ih hL hq ht hd; omega), (fp q hqn).2.2.2]
      -- the person
      obtain ⟨r, hr⟩ : ∃ r : Nat, σ (87 + 3 * ((i : Nat) : Int)) = ((r : Nat) : Int) := Int.eq_ofNat_of_zero_le ep0
      have r7 : r < 7 := by clear ih hL hq ht hd; omega
      -- what the next step's table is where this errand changes nothing
      have same : (∀ q : Nat, q < 7 → zes σ ((q : Nat) : Int) (σ 4) (k + 1) i = zes σ ((q : Nat) : Int) (σ 4) k (i + 1)) → ∃ s1, zA xm_c9 7 [f, h, L, zw (((i : Nat) : Int) + (-1)), σ (87 + 3 * ((i : Nat) : Int))] [] t (0, s1) ∧ (∀ q : Nat, q < n → s1 (f + 2) ((q : Nat) : Int) = zpG (zpe σ ((q : Nat) : Int) 0) (zpe σ ((q : Nat) : Int) 1) (zes σ ((q : Nat) : Int) (σ 4) m 0) ∧ s1 (f + 3) ((q : Nat) : Int) = zpK (zpe σ ((q : Nat) : Int) 0) (zpe σ ((q : Nat) : Int) 1) (zpe σ ((q : Nat) : Int) 2) (zpe σ ((q : Nat) : Int) 3) (zes σ ((q : Nat) : Int) (σ 4) m 0)) ∧ ∀ x, x ≠ f + 2 → x ≠ f + 3 → s1 x = s x := fun hs => by
        rw [e2]
        exact ih (k + 1) t L _ (by clear ih hL hq ht hd hs; omega) ht (fun q hq7 => by rw [hs q hq7]; exact hL q hq7) (fun q hqn => by rw [hs q (by clear ih hL hq ht hd hs; omega)]; exact hq q hqn)
      have zs1 : ∀ q : Nat, zes σ ((q : Nat) : Int) (σ 4) (k + 1) i = if zes σ ((q : Nat) : Int) (σ 4) k (i + 1) = -1 then (if zemm σ ((q : Nat) : Int) (σ 4) i then σ (87 + 3 * ((i : Nat) : Int) + 1) else -1) else zes σ ((q : Nat) : Int) (σ 4) k (i + 1) := fun q => rfl
      by_cases c1 : σ (87 + 3 * ((i : Nat) : Int) + 2) = σ 4
      case neg =>
        obtain ⟨s1, u1, u2⟩ := same (fun q _ => by
          rw [zs1 q, if_neg (show ¬ zemm σ ((q : Nat) : Int) (σ 4) i from fun z => c1 z.2)]
          by_cases d : zes σ ((q : Nat) : Int) (σ 4) k (i + 1) = -1
          · rw [if_pos d, d]
          · rw [if_neg d])
        refine ⟨s1, zb_9_7 (fun q => absurd q i0) (fun _ => zb_9_9 (fun q => absurd (by rw [t7, tf] at q; exact q) c1) (fun _ => zb_9_53 ?_)), u2⟩
        rw [t5]
        exact u1
      have to21 : ∀ R, zA xm_c9 21 [f, h, L, ((i : Nat) : Int), σ (87 + 3 * ((i : Nat) : Int))] [] t R → zA xm_c9 7 [f, h, L, ((i : Nat) : Int), x4] [] t R := fun R z => zb_9_7 (fun q => absurd q i0) (fun _ => zb_9_9 (fun _ => by rw [t5]; exact z) (fun q => absurd (by rw [t7, tf, c1]) q))
      have hLr := hL r r7
      rw [← hr] at hLr
      by_cases c2 : zes σ ((r : Nat) : Int) (σ 4) k (i + 1) = -1
      case neg =>
        rw [hr, if_neg c2] at hLr
        obtain ⟨s1, u1, u2⟩ := same (fun q _ => by
          rw [zs1 q]
          by_cases d : zes σ ((q : Nat) : Int) (σ 4) k (i + 1) = -1
          · rw [if_pos d, d, if_neg]
            intro z
            have z1 := z.1
            rw [hr] at z1
            have z2 : q = r := by clear ih hL hq ht hd; omega
            subst z2
            exact c2 d
          · rw [if_neg d])
        refine ⟨s1, to21 _ (zb_9_21 zo_bit (zb_9_24 (fun _ => zb_9_26 u1) (fun q => absurd (by rw [hr]; exact hLr) q))), u2⟩
      rw [hr, if_pos c2] at hLr
      have hL2 : ∀ q : Nat, q < 7 → zbt (zor L (zshl 1 (σ (87 + 3 * ((i : Nat) : Int))))) ((q : Nat) : Int) = if zes σ ((q : Nat) : Int) (σ 4) (k + 1) i = -1 then 0 else 1 := fun q hq7 => by
        rw [zbt_or, hL q hq7, hr, zbt_shl (by clear ih hL hq ht hd; omega) (by clear ih hL hq ht hd; omega), zs1 q]
        by_cases d : r = q
        · subst d
          rw [if_pos c2, if_pos rfl, if_pos c2, if_pos (show zemm σ ((r : Nat) : Int) (σ 4) i from ⟨hr, c1⟩), if_neg (by clear ih hL hq ht hd; omega)]
          rfl
        · rw [if_neg d, if_neg (show ¬ zemm σ ((q : Nat) : Int) (σ 4) i from fun z => d (by have z1 := z.1; rw [hr] at z1; clear ih hL hq ht hd; omega))]
          by_cases c : zes σ ((q : Nat) : Int) (σ 4) k (i + 1) = -1
          · simp only [if_pos c]
            rfl
          · simp only [if_neg c]
            rfl
      have to36 : ∀ R, zA xm_c9 36 [f, h, zor L (zshl 1 (σ (87 + 3 * ((i : Nat) : Int)))), ((i : Nat) : Int), σ (87 + 3 * ((i : Nat) : Int))] [(false, if t (f + 1) (σ (87 + 3 * ((i : Nat) : Int))) = t (f + 2) (σ (87 + 3 * ((i : Nat) : Int))) then 1 else 0)] t R → zA xm_c9 7 [f, h, L, ((i : Nat) : Int), x4] [] t R := fun R z => to21 R (zb_9_21 zo_bit (zb_9_24 (fun q => absurd (by rw [← q, hr]; exact hLr.symm) (show ¬ (0 : Int) = 1 by decide)) (fun _ => zb_9_27 zo_stand z)))
      have zr : ∀ q : Nat, q ≠ r → zes σ ((q : Nat) : Int) (σ 4) (k + 1) i = zes σ ((q : Nat) : Int) (σ 4) k (i + 1) := fun q hqr => by
        rw [zs1 q, if_neg (show ¬ zemm σ ((q : Nat) : Int) (σ 4) i from fun z => hqr (by have z1 := z.1; rw [hr] at z1; clear ih hL hq ht hd; omega))]
        by_cases c : zes σ ((q : Nat) : Int) (σ 4) k (i + 1) = -1
        · rw [if_pos c, c]
        · rw [if_neg c]
      have zrr : zes σ ((r : Nat) : Int) (σ 4) (k + 1) i = σ (87 + 3 * ((i : Nat) : Int) + 1) := by
        rw [zs1 r, if_pos c2, if_pos (show zemm σ ((r : Nat) : Int) (σ 4) i from ⟨hr, c1⟩)]
      -- nothing is set out
      have stay : ¬ (t (f + 1) ((r : Nat) : Int) = t (f + 2) ((r : Nat) : Int) ∧ ¬ t (f + 1) ((r : Nat) : Int) = σ (87 + 3 * ((i : Nat) : Int) + 1)) → ∃ s1, zA xm_c9 53 [f, h, zor L (zshl 1 (σ (87 + 3 * ((i : Nat) : Int)))), ((i : Nat) : Int), σ (87 + 3 * ((i : Nat) : Int))] [] t (0, s1) ∧ (∀ q : Nat, q < n → s1 (f + 2) ((q : Nat) : Int) = zpG (zpe σ ((q : Nat) : Int) 0) (zpe σ ((q : Nat) : Int) 1) (zes σ ((q : Nat) : Int) (σ 4) m 0) ∧ s1 (f + 3) ((q : Nat) : Int) = zpK (zpe σ ((q : Nat) : Int) 0) (zpe σ ((q : Nat) : Int) 1) (zpe σ ((q : Nat) : Int) 2) (zpe σ ((q : Nat) : Int) 3) (zes σ ((q : Nat) : Int) (σ 4) m 0)) ∧ ∀ x, x ≠ f + 2 → x ≠ f + 3 → s1 x = s x := fun hs => by
        obtain ⟨s1, u1, u2⟩ := ih (k + 1) t (zor L (zshl 1 (σ (87 + 3 * ((i : Nat) : Int))))) (σ (87 + 3 * ((i : Nat) : Int))) (by clear ih hL hq ht hd hL2 hs; omega) ht hL2 (fun q hqn => by
          by_cases d : q = r
          · subst d
            obtain ⟨a1, a2⟩ := hq q hqn
            rw [c2] at a1 a2
            have b1 : t (f + 2) ((q : Nat) : Int) = zpe σ ((q : Nat) : Int) 1 := by rw [a1]; exact if_neg (fun z => absurd z.2.1 (by decide))
            have b2 : t (f + 3) ((q : Nat) : Int) = zpe σ ((q : Nat) : Int) 2 := by rw [a2]; exact if_neg (fun z => absurd z.2.1 (by decide))
            rw [t1 q hqn, b1] at hs
            have no : ¬ (zpe σ ((q : Nat) : Int) 0 = zpe σ ((q : Nat) : Int) 1 ∧ 0 ≤ σ (87 + 3 * ((i : Nat) : Int) + 1) ∧ ¬ σ (87 + 3 * ((i : Nat) : Int) + 1) = zpe σ ((q : Nat) : Int) 0) := fun z => hs ⟨z.1, fun z2 => z.2.2 z2.symm⟩
            rw [zrr, b1, b2]
            exact ⟨(if_neg no).symm, (if_neg no).symm⟩
          · rw [zr q d]
            exact hq q hqn)
        exact ⟨s1, zb_9_53 (by rw [e2]; exact u1), u2⟩
      by_cases c3 : t (f + 1) ((r : Nat) : Int) = t (f + 2) ((r : Nat) : Int)
      case neg =>
        obtain ⟨s1, u1, u2⟩ := stay (fun q => c3 q.1)
        refine ⟨s1, to36 _ (zb_9_36 (fun _ => u1) (fun q => absurd ?_ q)), u2⟩
        rw [hr, if_neg c3]
      by_cases c4 : t (f + 1) ((r : Nat) : Int) = σ (87 + 3 * ((i : Nat) : Int) + 1)
      · obtain ⟨s1, u1, u2⟩ := stay (fun q => q.2 c4)
        refine ⟨s1, to36 _ (zb_9_36 (fun q => absurd q ?_) (fun _ => zb_9_37 (fun _ => u1) (fun q => absurd ?_ q))), u2⟩
        · rw [hr, if_pos c3]
          decide
        · rw [hr, t6]
          exact c4
      · obtain ⟨s1, u1, u2⟩ := ih (k + 1) (zu (zu t (f + 2) ((r : Nat) : Int) (σ (87 + 3 * ((i : Nat) : Int) + 1))) (f + 3) ((r : Nat) : Int) (t (f + 4) ((r : Nat) : Int))) (zor L (zshl 1 (σ (87 + 3 * ((i : Nat) : Int))))) (σ (87 + 3 * ((i : Nat) : Int))) (by clear ih hL hq ht hd hL2; omega) (fun x x1 x2 => by
          rw [← ht x x1 x2]
          exact funext (fun y => by rw [zu_cell x2, zu_cell x1])) hL2 (fun q hqn => by
          by_cases d : q = r
          · subst d
            obtain ⟨a1, a2⟩ := hq q hqn
            rw [c2] at a1 a2
            have b1 : t (f + 2) ((q : Nat) : Int) = zpe σ ((q : Nat) : Int) 1 := by rw [a1]; exact if_neg (fun z => absurd z.2.1 (by decide))
            rw [t1 q hqn, b1] at c3
            rw [t1 q hqn] at c4
            have yes : zpe σ ((q : Nat) : Int) 0 = zpe σ ((q : Nat) : Int) 1 ∧ 0 ≤ σ (87 + 3 * ((i : Nat) : Int) + 1) ∧ ¬ σ (87 + 3 * ((i : Nat) : Int) + 1) = zpe σ ((q : Nat) : Int) 0 := ⟨c3, ef0, fun z => c4 z.symm⟩
            rw [zrr]
            refine ⟨?_, ?_⟩
            · rw [zu_cell (by clear ih hL hq ht hd hL2; omega), zu_hit]
              exact (if_pos yes).symm
            · rw [zu_hit, t4 q hqn]
              exact (if_pos yes).symm
          · rw [zr q d, zu_cell (by clear ih hL hq ht hd hL2; omega), zu_place (by clear ih hL hq ht hd hL2; omega), zu_place (by clear ih hL hq ht hd hL2; omega), zu_cell (by clear ih hL hq ht hd hL2; omega)]
            exact hq q hqn)
        refine ⟨s1, to36 _ (zb_9_36 (fun q => absurd q ?_) (fun _ => zb_9_37 (fun q => absurd ?_ c4) (fun _ => zb_9_46 (s1 := zu (zu t (f + 2) ((r : Nat) : Int) (σ (87 + 3 * ((i : Nat) : Int) + 1))) (f + 3) ((r : Nat) : Int) (t (f + 4) ((r : Nat) : Int))) (r := 0) ?_ (zb_9_53 ?_)))), u2⟩
        · rw [hr, if_pos c3]
          decide
        · rw [hr, t6] at q
          exact q
        · rw [hr, t6]
          exact zo_setOut
        · rw [e2]
          exact u1
  have en : zw (s h 2 - 1) = ((m : Nat) : Int) - 1 := by
    rw [h2, g3]
    exact zw_id (by omega) (by omega)
  obtain ⟨s1, u1, u2, u3⟩ := loop m 0 s 0 0 (by omega) (fun _ _ _ => rfl) (fun q _ => by
    show zbt 0 _ = if (-1 : Int) = -1 then 0 else 1
    rw [zbt_0, if_pos rfl]) (fun q hqn => by
    obtain ⟨a1, a2, a3, a4⟩ := fp q hqn
    have no : ¬ (zpe σ ((q : Nat) : Int) 0 = zpe σ ((q : Nat) : Int) 1 ∧ 0 ≤ (-1 : Int) ∧ ¬ (-1 : Int) = zpe σ ((q : Nat) : Int) 0) := fun z => absurd z.2.1 (by decide)
    rw [a2, a3]
    exact ⟨(if_neg no).symm, (if_neg no).symm⟩)
  refine ⟨s1, zb_9_0 (by rw [en]; exact u1), fun q hqn => ?_, u3⟩
  have := u2 q hqn
  rw [zes_all (fun e he => (ge e he).2.1)] at this
  exact this
end GA
