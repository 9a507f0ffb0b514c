/-! the class's bell: flights, and who is on which landing -/
/-- the landings of the first i persons, seven bits a floor -/
def zlan (σ : Int → Int) (m : Nat) : Nat → Int
  | 0 => 0
  | i + 1 => if zvD σ m i then zqor (zlan σ m i) (zqshl 1 (zw ((zw (zvA σ m ((i : Nat) : Int) * 7)) + ((i : Nat) : Int)))) else zlan σ m i
section GB
variable {bB : Int}
variable {s t : zS} {σ : Int → Int} {n m : Nat} {f h : Int}
/-- a flight in the class: floor, left, and whether it ends -/
theorem zo_ends {p a g l c : Int} (ha : t (f + 1) p = a) (hg : t (f + 2) p = g) (hl : t (f + 3) p = l) (hc : t (f + 4) p = c) (h1 : 1 ≤ l ∧ l ≤ 9) : ∃ t', zE xm_c10 [f, p] t (if 0 < zw (l - 1) then 0 else 1) t' ∧ (∀ b, b ≠ p → t' (f + 1) b = t (f + 1) b ∧ t' (f + 3) b = t (f + 3) b) ∧ t' (f + 1) p = zwA a g l ∧ t' (f + 3) p = zwL a g l c ∧ ∀ x, x ≠ f + 1 → x ≠ f + 3 → t' x = t x := by
  have e : zw (l - 1) = l - 1 := zw_id (by omega) (by omega)
  have hit : zu t (f + 3) p (zw (l - 1)) (f + 3) p = zw (l - 1) := zu_hit
  have start : ∀ R, (0 < zw (l - 1) → zA xm_c10 13 [f, p] [] (zu t (f + 3) p (zw (l - 1))) R) → (¬ 0 < zw (l - 1) → zA xm_c10 15 [f, p] [] (zu t (f + 3) p (zw (l - 1))) R) → zA xm_c10 0 [f, p] [] t R := fun R a b => by
    have z := @zb_10_0 f p t R
    rw [hl, hit] at z
    exact z a b
  by_cases c1 : 0 < zw (l - 1)
  · refine ⟨zu t (f + 3) p (zw (l - 1)), by rw [if_pos c1]; exact start _ (fun _ => zb_10_13 rfl) (fun q => absurd c1 q), fun b hb => ⟨zu_cell (by omega), zu_place hb⟩, ?_, ?_, fun x x1 x2 => funext (fun y => zu_cell x2)⟩
    · rw [zu_cell (by omega), ha]
      exact (if_pos c1).symm
    · rw [zu_hit]
      exact (if_pos c1).symm
  · have r1 : zu t (f + 3) p (zw (l - 1)) (f + 1) p = a := by rw [zu_cell (by omega), ha]
    have r2 : zu t (f + 3) p (zw (l - 1)) (f + 2) p = g := by rw [zu_cell (by omega), hg]
    have l0 : zw (l - 1) = 0 := by omega
    have tail : ∀ v : Int, zwA a g l = v → (∀ R, zA xm_c10 40 [f, p] [(false, if v = g then 1 else 0), (false, p), (false, f + 3)] (zu (zu t (f + 3) p (zw (l - 1))) (f + 1) p v) R → zA xm_c10 0 [f, p] [] t R) → ∃ t', zE xm_c10 [f, p] t (if 0 < zw (l - 1) then 0 else 1) t' ∧ (∀ b, b ≠ p → t' (f + 1) b = t (f + 1) b ∧ t' (f + 3) b = t (f + 3) b) ∧ t' (f + 1) p = zwA a g l ∧ t' (f + 3) p = zwL a g l c ∧ ∀ x, x ≠ f + 1 → x ≠ f + 3 → t' x = t x := fun v hv run => by
      rw [if_neg c1]
      have fin : ∀ w : Int, zwL a g l c = w → zA xm_c10 40 [f, p] [(false, if v = g then 1 else 0), (false, p), (false, f + 3)] (zu (zu t (f + 3) p (zw (l - 1))) (f + 1) p v) (1, zu (zu (zu t (f + 3) p (zw (l - 1))) (f + 1) p v) (f + 3) p w) → ∃ t', zE xm_c10 [f, p] t 1 t' ∧ (∀ b, b ≠ p → t' (f + 1) b = t (f + 1) b ∧ t' (f + 3) b = t (f + 3) b) ∧ t' (f + 1) p = zwA a g l ∧ t' (f + 3) p = zwL a g l c ∧ ∀ x, x ≠ f + 1 → x ≠ f + 3 → t' x = t x := fun w hw z => by
        refine ⟨_, run _ z, fun b hb => ⟨?_, ?_⟩, ?_, ?_, fun x x1 x2 => funext (fun y => ?_)⟩
        · rw [zu_cell (by omega), zu_place hb, zu_cell (by omega)]
        · rw [zu_place hb, zu_cell (by omega), zu_place hb]
        · rw [zu_cell (by omega), zu_hit, hv]
        · rw [zu_hit, hw]
        · rw [zu_cell x2, zu_cell x1, zu_cell x2]
      by_cases c2 : v = g
      · refine fin 0 ?_ (zb_10_40 (fun q => absurd q (by rw [if_pos c2]; decide)) (fun _ => zb_10_41 rfl))
        unfold zwL
        rw [if_neg c1, hv, if_pos c2, l0]
      · refine fin c ?_ (zb_10_40 (fun _ => zb_10_43 (Prod.ext rfl ?_)) (fun q => absurd (if_neg c2) q))
        · unfold zwL
          rw [if_neg c1, hv, if_neg c2]
        · show zu _ (f + 3) p (zu (zu t (f + 3) p (zw (l - 1))) (f + 1) p v (f + 4) p) = zu _ (f + 3) p c
          rw [zu_cell (by omega), zu_cell (by omega), hc]
    have st : ∀ v : Int, zE xm_c4 [f, p] (zu (zu t (f + 3) p (zw (l - 1))) (f + 1) p v) (if v = g then 1 else 0) (zu (zu t (f + 3) p (zw (l - 1))) (f + 1) p v) := fun v => by
      have z := zo_stand (s := zu (zu t (f + 3) p (zw (l - 1))) (f + 1) p v) (f := f) (p := p)
      rw [zu_hit, zu_cell (a := f + 2) (j := f + 1) (by omega), r2] at z
      exact z
    by_cases c2 : a < g
    · refine tail (zw (a + 1)) (by unfold zwA; rw [if_neg c1, if_pos c2]) (fun R z => start R (fun q => absurd q c1) (fun _ => zb_10_15 (fun _ => ?_) (fun q => absurd (by rw [r1, r2]; exact c2) q)))
      rw [r1]
      exact zb_10_29 (st _) z
    · refine tail (zw (a + (-1))) (by unfold zwA; rw [if_neg c1, if_neg c2]) (fun R z => start R (fun q => absurd q c1) (fun _ => zb_10_15 (fun q => absurd (by rw [r1, r2] at q; exact q) c2) (fun _ => ?_)))
      rw [r1]
      exact zb_10_31 (st _) z
/-- a bell's errands and flights in the class -/
theorem zo_step (hH : zRH s h σ n m) (hF : zRF s f σ n) (hG : zGs bB σ n m) (hd : ∀ k : Int, 0 ≤ k → k ≤ 7 → ∀ j : Int, 0 ≤ j → j ≤ 4 → h + k ≠ f + j) : ∃ s', zE xm_c8 [f, h, 0, 0, 0] s (zlan σ m n) s' ∧ (s' f 0 = (if 999 < zw (σ 4 + 1) then 999 else zw (σ 4 + 1)) ∧ s' f 1 = s f 1) ∧ (∀ q : Nat, q < n → s' (f + 1) ((q : Nat) : Int) = zvA σ m ((q : Nat) : Int) ∧ s' (f + 2) ((q : Nat) : Int) = zvG σ m ((q : Nat) : Int) ∧ s' (f + 3) ((q : Nat) : Int) = zvL σ m ((q : Nat) : Int) ∧ s' (f + 4) ((q : Nat) : Int) = zpe σ ((q : Nat) : Int) 3) ∧ ∀ x, x ≠ f → x ≠ f + 1 → x ≠ f + 2 → x ≠ f + 3 → s' x = s x := by
  obtain ⟨s1, u1, u2, u3⟩ := zo_errands hH hF hG (fun k k0 k1 => ⟨hd k k0 k1 2 (by decide) (by decide), hd k k0 k1 3 (by decide) (by decide)⟩)
  obtain ⟨⟨g1, g2, g3, g4, g5, g6, g7, g8, g9⟩, gp, ge⟩ := hG
  obtain ⟨f0, f1, fp⟩ := hF
  obtain ⟨⟨h0, h1, h2, h5, h6, h7, h8⟩, hp, he⟩ := hH
  have loop : ∀ (k i : Nat) (t : zS) (x3 : Int), i + k = n → (∀ x, x ≠ f + 1 → x ≠ f + 2 → x ≠ f + 3 → t x = s x) → (∀ q : Nat, q < n → t (f + 1) ((q : Nat) : Int) = (if q < i then zvA σ m ((q : Nat) : Int) else zpe σ ((q : Nat) : Int) 0) ∧ t (f + 2) ((q : Nat) : Int) = zvG σ m ((q : Nat) : Int) ∧ t (f + 3) ((q : Nat) : Int) = (if q < i then zvL σ m ((q : Nat) : Int) else zpK (zpe σ ((q : Nat) : Int) 0) (zpe σ ((q : Nat) : Int) 1) (zpe σ ((q : Nat) : Int) 2) (zpe σ ((q : Nat) : Int) 3) (zerr σ ((q : Nat) : Int) (σ 4) m))) → ∃ s', zA xm_c8 7 [f, h, zlan σ m i, x3, ((i : Nat) : Int)] [] t (zlan σ m n, s') ∧ (s' f 0 = (if 999 < zw (σ 4 + 1) then 999 else zw (σ 4 + 1)) ∧ s' f 1 = s f 1) ∧ (∀ q : Nat, q < n → s' (f + 1) ((q : Nat) : Int) = zvA σ m ((q : Nat) : Int) ∧ s' (f + 2) ((q : Nat) : Int) = zvG σ m ((q : Nat) : Int) ∧ s' (f + 3) ((q : Nat) : Int) = zvL σ m ((q : Nat) : Int) ∧ s' (f + 4) ((q : Nat) : Int) = zpe σ ((q : Nat) : Int) 3) ∧ ∀ x, x ≠ f → x ≠ f + 1 → x ≠ f + 2 → x ≠ f + 3 → s' x = s x := by
    intro k
    induction k with
    | zero =>
      intro i t x3 hi ht hq
      have e : i = n := by omega
      subst e
      have th : t h 1 = s h 1 := by
        have d := fun j j0 j1 => hd 0 (by decide) (by decide) j j0 j1
        rw [Int.add_zero] at d
        rw [ht h (d 1 (by decide) (by decide)) (d 2 (by decide) (by decide)) (d 3 (by decide) (by decide))]
      have tf : t f = s f := ht f (by omega) (by omega) (by omega)
      refine ⟨zu t f 0 (if 999 < zw (σ 4 + 1) then 999 else zw (σ 4 + 1)), zb_8_7 (fun q => ?_) (fun _ => zb_8_34 ?_), ⟨zu_hit, ?_⟩, fun q hqn => ?_, fun x x0 x1 x2 x3 => ?_⟩
      · rw [th, h1, g1] at q
        exact absurd q (Int.lt_irrefl _)
      · rw [tf, f0]
      · rw [zu_place (by decide), tf]
      · obtain ⟨a1, a2, a3⟩ := hq q hqn
        rw [if_pos hqn] at a1 a3
        rw [zu_cell (by omega), zu_cell (by omega), zu_cell (by omega), zu_cell (by omega), ht (f + 4) (by omega) (by omega) (by omega)]
        exact ⟨a1, a2, a3, (fp q hqn).2.2.2⟩
      · rw [← ht x x1 x2 x3]
        exact funext (fun y => zu_cell x0)
    | succ k ih =>
      intro i t x3 hi ht hq
      have hin : i < n := by omega
      have th : t h 1 = s h 1 := by
        have d := fun j j0 j1 => hd 0 (by decide) (by decide) j j0 j1
        rw [Int.add_zero] at d
        rw [ht h (d 1 (by decide) (by decide)) (d 2 (by decide) (by decide)) (d 3 (by decide) (by decide))]
      have lt : ((i : Nat) : Int) < t h 1 := by
        rw [th, h1, g1]
        clear ih hq ht hd
        omega
      have e2 : zw (((i : Nat) : Int) + 1) = ((i + 1 : Nat) : Int) := zw_id (by clear ih hq ht hd; omega) (by clear ih hq ht hd; omega)
      obtain ⟨a1, a2, a3⟩ := hq i hin
      rw [if_neg (Nat.lt_irrefl i)] at a1 a3
      have t4 : t (f + 4) ((i : Nat) : Int) = zpe σ ((i : Nat) : Int) 3 := by
        rw [ht (f + 4) (by clear ih hq ht hd; omega) (by clear ih hq ht hd; omega) (by clear ih hq ht hd; omega)]
        exact (fp i hin).2.2.2
      obtain ⟨r1, r2, r3, r4, r5, -⟩ := gp i hin
      by_cases c1 : zpe σ ((i : Nat) : Int) 0 = zvG σ m ((i : Nat) : Int)
      · have ea : zvA σ m ((i : Nat) : Int) = zpe σ ((i : Nat) : Int) 0 := if_pos c1
        have el : zvL σ m ((i : Nat) : Int) = zpK (zpe σ ((i : Nat) : Int) 0) (zpe σ ((i : Nat) : Int) 1) (zpe σ ((i : Nat) : Int) 2) (zpe σ ((i : Nat) : Int) 3) (zerr σ ((i : Nat) : Int) (σ 4) m) := if_pos c1
        have ed : zvD σ m i := Or.inl c1
        have en : zlan σ m (i + 1) = zqor (zlan σ m i) (zqshl 1 (zw ((zw (t (f + 1) ((i : Nat) : Int) * 7)) + ((i : Nat) : Int)))) := by
          rw [a1, ← ea]
          exact if_pos ed
        obtain ⟨s', v1, v2⟩ := ih (i + 1) t x3 (by omega) ht (fun q hqn => by
          obtain ⟨b1, b2, b3⟩ := hq q hqn
          by_cases d : q = i
          · subst d
            rw [if_pos (Nat.lt_succ_self q), if_pos (Nat.lt_succ_self q), ea, el]
            exact ⟨a1, a2, a3⟩
          · rw [b1, b3]
            by_cases d2 : q < i
            · rw [if_pos d2, if_pos d2, if_pos (Nat.lt_succ_of_lt d2), if_pos (Nat.lt_succ_of_lt d2)]
              exact ⟨rfl, b2, rfl⟩
            · rw [if_neg d2, if_neg d2, if_neg (fun z => d2 (Nat.lt_of_le_of_ne (Nat.le_of_lt_succ z) d)), if_neg (fun z => d2 (Nat.lt_of_le_of_ne (Nat.le_of_lt_succ z) d))]
              exact ⟨rfl, b2, rfl⟩)
        refine ⟨s', zb_8_7 (fun _ => zb_8_11 zo_stand (zb_8_14 (fun q => absurd q ?_) (fun _ => zb_8_19 ?_))) (fun q => absurd lt q), v2⟩
        · rw [a1, a2, if_pos c1]
          decide
        · rw [e2, ← en]
          exact v1
      · have ha : 1 ≤ zpK (zpe σ ((i : Nat) : Int) 0) (zpe σ ((i : Nat) : Int) 1) (zpe σ ((i : Nat) : Int) 2) (zpe σ ((i : Nat) : Int) 3) (zerr σ ((i : Nat) : Int) (σ 4) m) ∧ zpK (zpe σ ((i : Nat) : Int) 0) (zpe σ ((i : Nat) : Int) 1) (zpe σ ((i : Nat) : Int) 2) (zpe σ ((i : Nat) : Int) 3) (zerr σ ((i : Nat) : Int) (σ 4) m) ≤ 9 := by
          unfold zpK
          by_cases d : zpe σ ((i : Nat) : Int) 0 = zpe σ ((i : Nat) : Int) 1 ∧ 0 ≤ zerr σ ((i : Nat) : Int) (σ 4) m ∧ ¬ zerr σ ((i : Nat) : Int) (σ 4) m = zpe σ ((i : Nat) : Int) 0
          · rw [if_pos d]
            exact r3
          · rw [if_neg d]
            refine r5 (fun q => c1 ?_)
            unfold zvG zpG
            rw [if_neg d]
            exact q
        obtain ⟨t1, w1, w2, w3, w4, w5⟩ := zo_ends a1 a2 a3 t4 ha
        have ea : zvA σ m ((i : Nat) : Int) = zwA (zpe σ ((i : Nat) : Int) 0) (zvG σ m ((i : Nat) : Int)) (zpK (zpe σ ((i : Nat) : Int) 0) (zpe σ ((i : Nat) : Int) 1) (zpe σ ((i : Nat) : Int) 2) (zpe σ ((i : Nat) : Int) 3) (zerr σ ((i : Nat) : Int) (σ 4) m)) := if_neg c1
        have el : zvL σ m ((i : Nat) : Int) = zwL (zpe σ ((i : Nat) : Int) 0) (zvG σ m ((i : Nat) : Int)) (zpK (zpe σ ((i : Nat) : Int) 0) (zpe σ ((i : Nat) : Int) 1) (zpe σ ((i : Nat) : Int) 2) (zpe σ ((i : Nat) : Int) 3) (zerr σ ((i : Nat) : Int) (σ 4) m)) (zpe σ ((i : Nat) : Int) 3) := if_neg c1
        have tab : ∀ q : Nat, q < n → t1 (f + 1) ((q : Nat) : Int) = (if q < i + 1 then zvA σ m ((q : Nat) : Int) else zpe σ ((q : Nat) : Int) 0) ∧ t1 (f + 2) ((q : Nat) : Int) = zvG σ m ((q : Nat) : Int) ∧ t1 (f + 3) ((q : Nat) : Int) = (if q < i + 1 then zvL σ m ((q : Nat) : Int) else zpK (zpe σ ((q : Nat) : Int) 0) (zpe σ ((q : Nat) : Int) 1) (zpe σ ((q : Nat) : Int) 2) (zpe σ ((q : Nat) : Int) 3) (zerr σ ((q : Nat) : Int) (σ 4) m)) := fun q hqn => by
          obtain ⟨b1, b2, b3⟩ := hq q hqn
          have x2 : t1 (f + 2) = t (f + 2) := w5 (f + 2) (by clear ih hq ht hd; omega) (by clear ih hq ht hd; omega)
          by_cases d : q = i
          · subst d
            rw [if_pos (Nat.lt_succ_self q), if_pos (Nat.lt_succ_self q), ea, el, x2]
            exact ⟨w3, a2, w4⟩
          · obtain ⟨y1, y3⟩ := w2 ((q : Nat) : Int) (fun z => d (Int.ofNat.inj z))
            rw [y1, y3, x2, b1, b3]
            by_cases d2 : q < i
            · rw [if_pos d2, if_pos d2, if_pos (Nat.lt_succ_of_lt d2), if_pos (Nat.lt_succ_of_lt d2)]
              exact ⟨rfl, b2, rfl⟩
            · rw [if_neg d2, if_neg d2, if_neg (fun z => d2 (Nat.lt_of_le_of_ne (Nat.le_of_lt_succ z) d)), if_neg (fun z => d2 (Nat.lt_of_le_of_ne (Nat.le_of_lt_succ z) d))]
              exact ⟨rfl, b2, rfl⟩
        have ht1 : ∀ x, x ≠ f + 1 → x ≠ f + 2 → x ≠ f + 3 → t1 x = s x := fun x x1 x2 x3 => (w5 x x1 x3).trans (ht x x1 x2 x3)
        obtain ⟨s', v1, v2⟩ := ih (i + 1) t1 x3 (by omega) ht1 tab
        have no : (if t (f + 1) ((i : Nat) : Int) = t (f + 2) ((i : Nat) : Int) then (1 : Int) else 0) = 0 := by
          rw [a1, a2]
          exact if_neg c1
        by_cases c2 : 0 < zw (zpK (zpe σ ((i : Nat) : Int) 0) (zpe σ ((i : Nat) : Int) 1) (zpe σ ((i : Nat) : Int) 2) (zpe σ ((i : Nat) : Int) 3) (zerr σ ((i : Nat) : Int) (σ 4) m) - 1)
        · have ed : ¬ zvD σ m i := fun q => q.elim c1 (fun q => q c2)
          have en : zlan σ m (i + 1) = zlan σ m i := if_neg ed
          rw [if_pos c2] at w1
          refine ⟨s', zb_8_7 (fun _ => zb_8_11 zo_stand (zb_8_14 (fun _ => zb_8_15 w1 (zb_8_18 (fun _ => zb_8_32 ?_) (fun q => absurd rfl q))) (fun q => absurd no q))) (fun q => absurd lt q), v2⟩
          rw [e2, ← en]
          exact v1
        · have ed : zvD σ m i := Or.inr c2
          have t1i := (tab i hin).1
          rw [if_pos (Nat.lt_succ_self i)] at t1i
          have en : zlan σ m (i + 1) = zqor (zlan σ m i) (zqshl 1 (zw ((zw (t1 (f + 1) ((i : Nat) : Int) * 7)) + ((i : Nat) : Int)))) := by
            rw [t1i]
            exact if_pos ed
          rw [if_neg c2] at w1
          refine ⟨s', zb_8_7 (fun _ => zb_8_11 zo_stand (zb_8_14 (fun _ => zb_8_15 w1 (zb_8_18 (fun q => absurd q (by decide)) (fun _ => zb_8_19 ?_))) (fun q => absurd no q))) (fun q => absurd lt q), v2⟩
          rw [e2, ← en]
          exact v1
  obtain ⟨s', v1, v2, v3, v4⟩ := loop n 0 s1 0 (by omega) (fun x _ x2 x3 => u3 x x2 x3) (fun q hqn => by
    rw [if_neg (Nat.not_lt_zero q), if_neg (Nat.not_lt_zero q), u3 (f + 1) (by omega) (by omega)]
    exact ⟨(fp q hqn).1, (u2 q hqn).1, (u2 q hqn).2⟩)
  exact ⟨s', zb_8_0 u1 (zb_8_3 v1), v2, v3, v4⟩
end GB
