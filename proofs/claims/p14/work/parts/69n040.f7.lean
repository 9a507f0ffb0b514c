/-! a bell in the reference: errands and flights of all -/
theorem zup_up {τ : Int → Int} {p a g l a' g' l' : Int} : zup (zup τ p a g l) p a' g' l' = zup τ p a' g' l' := by
  funext k
  unfold zup
  by_cases k0 : k = 10 + 11 * p
  · simp only [if_pos k0]
  · simp only [if_neg k0]
    by_cases k1 : k = 10 + 11 * p + 1
    · simp only [if_pos k1]
    · simp only [if_neg k1]
      by_cases k2 : k = 10 + 11 * p + 2
      · simp only [if_pos k2]
      · simp only [if_neg k2]
theorem zup_id {τ : Int → Int} {p : Int} : zup τ p (zpe τ p 0) (zpe τ p 1) (zpe τ p 2) = τ := by
  funext k
  unfold zup zpe
  by_cases k0 : k = 10 + 11 * p
  · rw [if_pos k0, k0, Int.add_zero]
  · rw [if_neg k0]
    by_cases k1 : k = 10 + 11 * p + 1
    · rw [if_pos k1, k1]
    · rw [if_neg k1]
      by_cases k2 : k = 10 + 11 * p + 2
      · rw [if_pos k2, k2]
      · rw [if_neg k2]
theorem zup_0 {τ : Int → Int} {p a g l : Int} : zpe (zup τ p a g l) p 0 = a := by
  unfold zup zpe
  dsimp only
  rw [Int.add_zero, if_pos rfl]
theorem zup_1 {τ : Int → Int} {p a g l : Int} : zpe (zup τ p a g l) p 1 = g := by
  unfold zup zpe
  dsimp only
  rw [if_neg (by omega), if_pos rfl]
theorem zup_2 {τ : Int → Int} {p a g l : Int} : zpe (zup τ p a g l) p 2 = l := by
  unfold zup zpe
  dsimp only
  rw [if_neg (by omega), if_neg (by omega), if_pos rfl]
theorem zup_3 {τ : Int → Int} {p a g l k : Int} (h : 3 ≤ k) : zpe (zup τ p a g l) p k = zpe τ p k := by
  unfold zup zpe
  dsimp only
  rw [if_neg (by omega), if_neg (by omega), if_neg (by omega)]
/-- a person's bell: goal, left ahead of the flight, floor, left, whether on a landing -/
def zpG (a g e : Int) : Int := if a = g ∧ 0 ≤ e ∧ ¬ e = a then e else g
def zpK (a g l c e : Int) : Int := if a = g ∧ 0 ≤ e ∧ ¬ e = a then c else l
def zpA (a g l c e : Int) : Int := if a = zpG a g e then a else zwA a (zpG a g e) (zpK a g l c e)
def zpL (a g l c e : Int) : Int := if a = zpG a g e then zpK a g l c e else zwL a (zpG a g e) (zpK a g l c e) c
abbrev zpD (a g l c e : Int) : Prop := a = zpG a g e ∨ ¬ 0 < zw (zpK a g l c e - 1)
def zvG (σ : Int → Int) (m : Nat) (p : Int) : Int := zpG (zpe σ p 0) (zpe σ p 1) (zerr σ p (σ 4) m)
def zvA (σ : Int → Int) (m : Nat) (p : Int) : Int := zpA (zpe σ p 0) (zpe σ p 1) (zpe σ p 2) (zpe σ p 3) (zerr σ p (σ 4) m)
def zvL (σ : Int → Int) (m : Nat) (p : Int) : Int := zpL (zpe σ p 0) (zpe σ p 1) (zpe σ p 2) (zpe σ p 3) (zerr σ p (σ 4) m)
abbrev zvD (σ : Int → Int) (m : Nat) (p : Nat) : Prop := zpD (zpe σ ((p : Nat) : Int) 0) (zpe σ ((p : Nat) : Int) 1) (zpe σ ((p : Nat) : Int) 2) (zpe σ ((p : Nat) : Int) 3) (zerr σ ((p : Nat) : Int) (σ 4) m)
/-- what is told when the first i persons have walked -/
def zsA (σ : Int → Int) (m i : Nat) (k : Int) : Int := if 10 ≤ k ∧ k < 10 + 11 * ((i : Nat) : Int) then (if (k - 10) % 11 = 0 then zvA σ m ((k - 10) / 11) else if (k - 10) % 11 = 1 then zvG σ m ((k - 10) / 11) else if (k - 10) % 11 = 2 then zvL σ m ((k - 10) / 11) else σ k) else σ k
theorem zsA_0 {σ : Int → Int} {m : Nat} : zsA σ m 0 = σ := by
  funext k
  unfold zsA
  rw [if_neg (by omega)]
theorem zsA_lo {σ : Int → Int} {m i : Nat} {k : Int} (h : k < 10) : zsA σ m i k = σ k := by
  unfold zsA
  rw [if_neg (by omega)]
theorem zsA_hi {σ : Int → Int} {m i : Nat} {k : Int} (h : 10 + 11 * ((i : Nat) : Int) ≤ k) : zsA σ m i k = σ k := by
  unfold zsA
  rw [if_neg (by omega)]
theorem zsA_p {σ : Int → Int} {m i q : Nat} {j : Int} (h : q < i) (j0 : 0 ≤ j) (j1 : j ≤ 10) : zpe (zsA σ m i) ((q : Nat) : Int) j = if j = 0 then zvA σ m ((q : Nat) : Int) else if j = 1 then zvG σ m ((q : Nat) : Int) else if j = 2 then zvL σ m ((q : Nat) : Int) else zpe σ ((q : Nat) : Int) j := by
  have e1 : (10 + 11 * ((q : Nat) : Int) + j - 10) % 11 = j := by omega
  have e2 : (10 + 11 * ((q : Nat) : Int) + j - 10) / 11 = ((q : Nat) : Int) := by omega
  show zsA σ m i (10 + 11 * ((q : Nat) : Int) + j) = _
  unfold zsA
  rw [if_pos (by omega), e1, e2]
  rfl
theorem zsA_q {σ : Int → Int} {m i q : Nat} {j : Int} (h : i ≤ q) (j0 : 0 ≤ j) : zpe (zsA σ m i) ((q : Nat) : Int) j = zpe σ ((q : Nat) : Int) j := zsA_hi (by omega)
theorem zerr_congr {σ τ : Int → Int} {p b : Int} (h : ∀ k, 87 ≤ k → τ k = σ k) : ∀ m : Nat, zerr τ p b m = zerr σ p b m
  | 0 => rfl
  | m + 1 => by
    show (if _ ∧ _ then _ else zerr τ p b m) = (if _ ∧ _ then _ else zerr σ p b m)
    rw [h _ (by omega), h _ (by omega), h _ (by omega), zerr_congr h m]
theorem zsA_s {σ : Int → Int} {m i : Nat} : zsA σ m (i + 1) = zup (zsA σ m i) ((i : Nat) : Int) (zvA σ m ((i : Nat) : Int)) (zvG σ m ((i : Nat) : Int)) (zvL σ m ((i : Nat) : Int)) := by
  funext k
  unfold zup
  by_cases k0 : k = 10 + 11 * ((i : Nat) : Int)
  · have := zsA_p (σ := σ) (m := m) (i := i + 1) (q := i) (j := 0) (Nat.lt_succ_self i) (by decide) (by decide)
    unfold zpe at this
    rw [Int.add_zero, if_pos rfl] at this
    rw [if_pos k0, k0, this]
  · rw [if_neg k0]
    by_cases k1 : k = 10 + 11 * ((i : Nat) : Int) + 1
    · have := zsA_p (σ := σ) (m := m) (i := i + 1) (q := i) (j := 1) (Nat.lt_succ_self i) (by decide) (by decide)
      unfold zpe at this
      rw [if_neg (by decide), if_pos rfl] at this
      rw [if_pos k1, k1, this]
    · rw [if_neg k1]
      by_cases k2 : k = 10 + 11 * ((i : Nat) : Int) + 2
      · have := zsA_p (σ := σ) (m := m) (i := i + 1) (q := i) (j := 2) (Nat.lt_succ_self i) (by decide) (by decide)
        unfold zpe at this
        rw [if_neg (by decide), if_neg (by decide), if_pos rfl] at this
        rw [if_pos k2, k2, this]
      · rw [if_neg k2]
        unfold zsA
        by_cases h : 10 ≤ k ∧ k < 10 + 11 * ((i : Nat) : Int)
        · rw [if_pos h, if_pos (by omega)]
        · rw [if_neg h]
          by_cases h2 : 10 ≤ k ∧ k < 10 + 11 * ((i + 1 : Nat) : Int)
          · rw [if_pos h2, if_neg (by omega), if_neg (by omega), if_neg (by omega)]
          · rw [if_neg h2]
theorem zor_00 {L x : Int} : zor (zor L x) 0 = zor L x := by
  unfold zor
  simp only [Int32.ofInt_toInt, show Int32.ofInt 0 = 0 from rfl, Int32.or_zero]
theorem zfo_00 {P : Nat → Prop} [DecidablePred P] : ∀ n : Nat, zor (zfs P n) 0 = zfs P n
  | 0 => show zor 0 0 = 0 from by decide
  | n + 1 => zor_00
section FA
variable {s t : zS} {σ τ : Int → Int} {L x1 x3 : Int} {n m i : Nat}
theorem zr_p39 (hs : t 354 = τ) (hL : t 344 23 = L) (hL0 : zor L 0 = L) (h7 : i < 7) : ∃ t', (∀ R, zA xm_c196 7 [344, x1, ((i + 1 : Nat) : Int), x3] [] t' R → zA xm_c196 39 [344, x1, ((i : Nat) : Int), x3] [] t R) ∧ t' 354 = (if zpe τ ((i : Nat) : Int) 0 = zpe τ ((i : Nat) : Int) 1 then τ else zup τ ((i : Nat) : Int) (zwA (zpe τ ((i : Nat) : Int) 0) (zpe τ ((i : Nat) : Int) 1) (zpe τ ((i : Nat) : Int) 2)) (zpe τ ((i : Nat) : Int) 1) (zwL (zpe τ ((i : Nat) : Int) 0) (zpe τ ((i : Nat) : Int) 1) (zpe τ ((i : Nat) : Int) 2) (zpe τ ((i : Nat) : Int) 3))) ∧ t' 344 23 = zor L (if zpe τ ((i : Nat) : Int) 0 = zpe τ ((i : Nat) : Int) 1 ∨ ¬ 0 < zw (zpe τ ((i : Nat) : Int) 2 - 1) then zshl 1 ((i : Nat) : Int) else 0) ∧ zWk t t' := by
  have e2 : zw (((i : Nat) : Int) + 1) = ((i + 1 : Nat) : Int) := zw_id (by omega) (by omega)
  by_cases c : zpe τ ((i : Nat) : Int) 0 = zpe τ ((i : Nat) : Int) 1
  · refine ⟨zu t 344 23 (zor L (zshl 1 ((i : Nat) : Int))), fun R z => zb_196_39 (zr_stand hs (by omega) (by omega)) (zb_196_42 (fun q => absurd q (by rw [if_pos c]; decide)) (fun _ => zb_196_43 ?_)), ?_, ?_, zWk_v⟩
    · rw [e2, hL]
      exact z
    · rw [if_pos c]
      exact hs
    · rw [if_pos (Or.inl c), zu_hit]
  · obtain ⟨t', u1, u2, u3, u4⟩ := zr_walks (p := ((i : Nat) : Int)) hs hL (by omega) (by omega)
    refine ⟨t', fun R z => zb_196_39 (zr_stand hs (by omega) (by omega)) (zb_196_42 (fun _ => zb_196_52 u1 (zb_196_55 ?_)) (fun q => absurd (if_neg c) q)), ?_, ?_, u4⟩
    · rw [e2]
      exact z
    · rw [if_neg c]
      exact u2
    · rw [u3]
      by_cases d : 0 < zw (zpe τ ((i : Nat) : Int) 2 - 1)
      · rw [if_pos d, if_neg (fun q => q.elim c (fun q => q d)), hL0]
      · rw [if_neg d, if_pos (Or.inr d)]
theorem zr_p1 (hs : t 354 = τ) (hL : t 344 23 = L) (hL0 : zor L 0 = L) (hn : τ 1 = ((n : Nat) : Int)) (h7 : n ≤ 7) (hm : τ 2 = ((m : Nat) : Int)) (hm2 : m ≤ 10) (hi : i < n) : ∃ t' x3', (∀ R, zA xm_c196 7 [344, x1, ((i + 1 : Nat) : Int), x3'] [] t' R → zA xm_c196 7 [344, x1, ((i : Nat) : Int), x3] [] t R) ∧ t' 354 = zup τ ((i : Nat) : Int) (zvA τ m ((i : Nat) : Int)) (zvG τ m ((i : Nat) : Int)) (zvL τ m ((i : Nat) : Int)) ∧ t' 344 23 = zor L (if zvD τ m i then zshl 1 ((i : Nat) : Int) else 0) ∧ zWk t t' := by
  have i0 : 0 ≤ ((i : Nat) : Int) := by omega
  have i6 : ((i : Nat) : Int) ≤ 6 := by omega
  have i7 : i < 7 := by omega
  have lt : ((i : Nat) : Int) < t (344 + 10) 1 := by
    show _ < t 354 1
    rw [hs, hn]
    omega
  have h4 : t 354 4 = τ 4 := by rw [hs]
  have go : ∀ (e : Int) (t1 : zS) (τ1 : Int → Int), t1 354 = τ1 → t1 344 = t 344 → zWk t t1 → (∀ R, zA xm_c196 39 [344, x1, ((i : Nat) : Int), e] [] t1 R → zA xm_c196 7 [344, x1, ((i : Nat) : Int), x3] [] t R) → zpe τ1 ((i : Nat) : Int) 0 = zpe τ ((i : Nat) : Int) 0 → zpe τ1 ((i : Nat) : Int) 1 = zvG τ m ((i : Nat) : Int) → zpe τ1 ((i : Nat) : Int) 2 = zpK (zpe τ ((i : Nat) : Int) 0) (zpe τ ((i : Nat) : Int) 1) (zpe τ ((i : Nat) : Int) 2) (zpe τ ((i : Nat) : Int) 3) (zerr τ ((i : Nat) : Int) (τ 4) m) → zpe τ1 ((i : Nat) : Int) 3 = zpe τ ((i : Nat) : Int) 3 → (∀ a g l, zup τ1 ((i : Nat) : Int) a g l = zup τ ((i : Nat) : Int) a g l) → ∃ t' x3', (∀ R, zA xm_c196 7 [344, x1, ((i + 1 : Nat) : Int), x3'] [] t' R → zA xm_c196 7 [344, x1, ((i : Nat) : Int), x3] [] t R) ∧ t' 354 = zup τ ((i : Nat) : Int) (zvA τ m ((i : Nat) : Int)) (zvG τ m ((i : Nat) : Int)) (zvL τ m ((i : Nat) : Int)) ∧ t' 344 23 = zor L (if zvD τ m i then zshl 1 ((i : Nat) : Int) else 0) ∧ zWk t t' := fun e t1 τ1 a1 a2 a3 a4 b0 b1 b2 b3 bu => by
    obtain ⟨t', u1, u2, u3, u4⟩ := zr_p39 (x1 := x1) (x3 := e) a1 (by rw [a2]; exact hL) hL0 i7
    refine ⟨t', e, fun R z => a4 R (u1 R z), ?_, ?_, zWk_t a3 u4⟩
    · rw [u2, b0, b1, b2, b3, bu]
      by_cases c : zpe τ ((i : Nat) : Int) 0 = zvG τ m ((i : Nat) : Int)
      · rw [if_pos c]
        have ea : zvA τ m ((i : Nat) : Int) = zpe τ1 ((i : Nat) : Int) 0 := by
          rw [b0]
          exact if_pos c
        have el : zvL τ m ((i : Nat) : Int) = zpe τ1 ((i : Nat) : Int) 2 := by
          rw [b2]
          exact if_pos c
        rw [ea, el, ← b1, ← bu]
        exact zup_id.symm
      · rw [if_neg c]
        have ea : zvA τ m ((i : Nat) : Int) = zwA (zpe τ ((i : Nat) : Int) 0) (zvG τ m ((i : Nat) : Int)) (zpK (zpe τ ((i : Nat) : Int) 0) (zpe τ ((i : Nat) : Int) 1) (zpe τ ((i : Nat) : Int) 2) (zpe τ ((i : Nat) : Int) 3) (zerr τ ((i : Nat) : Int) (τ 4) m)) := if_neg c
        have el : zvL τ m ((i : Nat) : Int) = zwL (zpe τ ((i : Nat) : Int) 0) (zvG τ m ((i : Nat) : Int)) (zpK (zpe τ ((i : Nat) : Int) 0) (zpe τ ((i : Nat) : Int) 1) (zpe τ ((i : Nat) : Int) 2) (zpe τ ((i : Nat) : Int) 3) (zerr τ ((i : Nat) : Int) (τ 4) m)) (zpe τ ((i : Nat) : Int) 3) := if_neg c
        rw [ea, el]
    · rw [u3, b0, b1, b2]
      rfl
  have own : ∀ (e : Int), (∀ R, zA xm_c196 39 [344, x1, ((i : Nat) : Int), e] [] t R → zA xm_c196 7 [344, x1, ((i : Nat) : Int), x3] [] t R) → ¬ (zpe τ ((i : Nat) : Int) 0 = zpe τ ((i : Nat) : Int) 1 ∧ 0 ≤ zerr τ ((i : Nat) : Int) (τ 4) m ∧ ¬ zerr τ ((i : Nat) : Int) (τ 4) m = zpe τ ((i : Nat) : Int) 0) → ∃ t' x3', (∀ R, zA xm_c196 7 [344, x1, ((i + 1 : Nat) : Int), x3'] [] t' R → zA xm_c196 7 [344, x1, ((i : Nat) : Int), x3] [] t R) ∧ t' 354 = zup τ ((i : Nat) : Int) (zvA τ m ((i : Nat) : Int)) (zvG τ m ((i : Nat) : Int)) (zvL τ m ((i : Nat) : Int)) ∧ t' 344 23 = zor L (if zvD τ m i then zshl 1 ((i : Nat) : Int) else 0) ∧ zWk t t' := fun e h c => go e t τ hs rfl zWk_r h rfl (if_neg c).symm (if_neg c).symm rfl (fun _ _ _ => rfl)
  by_cases c : zpe τ ((i : Nat) : Int) 0 = zpe τ ((i : Nat) : Int) 1
  · have l1 : ∀ R, zA xm_c196 24 [344, x1, ((i : Nat) : Int), x3] [(false, zerr τ ((i : Nat) : Int) (τ 4) m)] t R → zA xm_c196 7 [344, x1, ((i : Nat) : Int), x3] [] t R := fun R z => zb_196_7 (fun _ => zb_196_13 (zr_stand hs i0 i6) (zb_196_16 (fun q => absurd q (by rw [if_pos c]; decide)) (fun _ => zb_196_17 (by
      show zE xm_c188 [344, ((i : Nat) : Int), t 354 4, 0, 0] t _ _
      rw [h4]
      exact zr_errand hs hm hm2) z))) (fun q => absurd lt q)
    by_cases d : zerr τ ((i : Nat) : Int) (τ 4) m < 0
    · exact own _ (fun R z => l1 R (zb_196_24 (fun _ => z) (fun q => absurd d q))) (fun q => absurd q.2.1 (Int.not_le.mpr d))
    · by_cases e : zerr τ ((i : Nat) : Int) (τ 4) m = zpe τ ((i : Nat) : Int) 0
      · exact own _ (fun R z => l1 R (zb_196_24 (fun q => absurd q d) (fun _ => zb_196_29 (zr_per hs i0 i6 (by decide) (by decide)) (zb_196_34 (fun _ => z) (fun q => absurd e q))))) (fun q => q.2.2 e)
      · obtain ⟨t1, u1, u2, u3, u4⟩ := zr_setsOut (f := zerr τ ((i : Nat) : Int) (τ 4) m) hs i0 i6
        have hc : zpe τ ((i : Nat) : Int) 0 = zpe τ ((i : Nat) : Int) 1 ∧ 0 ≤ zerr τ ((i : Nat) : Int) (τ 4) m ∧ ¬ zerr τ ((i : Nat) : Int) (τ 4) m = zpe τ ((i : Nat) : Int) 0 := ⟨c, Int.not_lt.mp d, e⟩
        refine go _ t1 _ u2 u3 u4 (fun R z => l1 R (zb_196_24 (fun q => absurd q d) (fun _ => zb_196_29 (zr_per hs i0 i6 (by decide) (by decide)) (zb_196_34 (fun q => absurd q e) (fun _ => zb_196_35 u1 z))))) zup_0 ?_ ?_ (zup_3 (by decide)) (fun _ _ _ => zup_up)
        · rw [zup_1]
          exact (if_pos hc).symm
        · rw [zup_2]
          exact (if_pos hc).symm
  · refine own (-1) (fun R z => zb_196_7 (fun _ => zb_196_13 (zr_stand hs i0 i6) (zb_196_16 (fun _ => zb_196_25 (fun _ => z) (fun q => absurd (by decide) q)) (fun q => absurd (if_neg c) q))) (fun q => absurd lt q)) (fun q => c q.1)
theorem zr_A (hs : s 354 = σ) (hn : σ 1 = ((n : Nat) : Int)) (h7 : n ≤ 7) (hm : σ 2 = ((m : Nat) : Int)) (hm2 : m ≤ 10) : ∃ t' x3', (∀ R, zA xm_c196 59 [344, 0, 0, x3'] [] t' R → zA xm_c196 0 [344, 0, 0, 0] [] s R) ∧ t' 354 = zsA σ m n ∧ t' 344 23 = zfs (zvD σ m) n ∧ zWk s t' := by
  have loop : ∀ (k i : Nat) (t : zS) (x3 : Int), i + k = n → t 354 = zsA σ m i → t 344 23 = zfs (zvD σ m) i → zWk s t → ∃ t' x3', (∀ R, zA xm_c196 59 [344, 0, 0, x3'] [] t' R → zA xm_c196 7 [344, 0, ((i : Nat) : Int), x3] [] t R) ∧ t' 354 = zsA σ m n ∧ t' 344 23 = zfs (zvD σ m) n ∧ zWk s t' := by
    intro k
    induction k with
    | zero =>
      intro i t x3 hi h1 h2 h3
      have e : i = n := by omega
      subst e
      refine ⟨t, x3, fun R z => zb_196_7 (fun q => ?_) (fun _ => zb_196_57 z), h1, h2, h3⟩
      have q : ((i : Nat) : Int) < t 354 1 := q
      rw [h1, zsA_lo (by decide), hn] at q
      exact absurd q (Int.lt_irrefl _)
    | succ k ih =>
      intro i t x3 hi h1 h2 h3
      have hin : i < n := by omega
      obtain ⟨t1, x4, a1, a2, a3, a4⟩ := zr_p1 (x1 := 0) (x3 := x3) (n := n) (m := m) (i := i) h1 h2 (zfo_00 i) (by rw [zsA_lo (by decide), hn]) h7 (by rw [zsA_lo (by decide), hm]) hm2 hin
      have i7 : 10 + 11 * ((i : Nat) : Int) ≤ 87 := by clear ih a1; omega
      have z4 : zsA σ m i 4 = σ 4 := zsA_lo (by decide)
      have ze : zerr (zsA σ m i) ((i : Nat) : Int) (σ 4) m = zerr σ ((i : Nat) : Int) (σ 4) m := zerr_congr (fun k hk => zsA_hi (Int.le_trans i7 hk)) m
      have zq : ∀ j : Int, 0 ≤ j → zpe (zsA σ m i) ((i : Nat) : Int) j = zpe σ ((i : Nat) : Int) j := fun j hj => zsA_q (Nat.le_refl i) hj
      have ea : zvA (zsA σ m i) m ((i : Nat) : Int) = zvA σ m ((i : Nat) : Int) := by
        unfold zvA
        rw [z4, ze, zq 0 (by decide), zq 1 (by decide), zq 2 (by decide), zq 3 (by decide)]
      have eg : zvG (zsA σ m i) m ((i : Nat) : Int) = zvG σ m ((i : Nat) : Int) := by
        unfold zvG
        rw [z4, ze, zq 0 (by decide), zq 1 (by decide)]
      have el : zvL (zsA σ m i) m ((i : Nat) : Int) = zvL σ m ((i : Nat) : Int) := by
        unfold zvL
        rw [z4, ze, zq 0 (by decide), zq 1 (by decide), zq 2 (by decide), zq 3 (by decide)]
      have ed : zvD (zsA σ m i) m i ↔ zvD σ m i := by
        unfold zvD
        rw [z4, ze, zq 0 (by decide), zq 1 (by decide), zq 2 (by decide), zq 3 (by decide)]
      obtain ⟨t2, x5, b1, b2, b3, b4⟩ := ih (i + 1) t1 x4 (by omega) (by rw [a2, ea, eg, el, ← zsA_s]) (by
        rw [a3]
        show zor _ _ = zor _ _
        by_cases d : zvD σ m i
        · rw [if_pos d, if_pos (ed.mpr d)]
        · rw [if_neg d, if_neg (fun q => d (ed.mp q))]) (zWk_t h3 a4)
      exact ⟨t2, x5, fun R z => a1 R (b1 R z), b2, b3, b4⟩
  obtain ⟨t', x3', u1, u2, u3, u4⟩ := loop n 0 (zu s 344 23 0) 0 (by omega) (by rw [zsA_0]; exact hs) zu_hit zWk_v
  exact ⟨t', x3', fun R z => zb_196_0 (u1 R z), u2, u3, u4⟩
end FA
