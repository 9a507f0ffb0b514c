/-! small readers of the searches over sets; a set that is told now -/
/-- whose home is there -/
abbrev zhm (σ : Int → Int) (f : Int) (p : Nat) : Prop := zpe σ ((p : Nat) : Int) 4 = f
/-- who doesn't know, and could -/
abbrev zun (σ : Int → Int) (p : Nat) : Prop := ¬ zkn σ p ∧ zpe σ ((p : Nat) : Int) 6 = 0
/-- those of the first i that are in a set are told now -/
def zwp (σ : Int → Int) (S : Int) : Nat → Int → Int
  | 0 => σ
  | i + 1 => if zbt S ((i : Nat) : Int) = 1 then zuq (zwp σ S i) ((i : Nat) : Int) (σ 4) 0 (-1) else zwp σ S i
section MN
variable {bB : Int} {σ τ : Int → Int} {n m : Nat} {F : Int} {U : (Int → Int) → Int} {s t : zS} {x y S f : Int} {p q : Nat}
theorem zand_fs {A B : Nat → Prop} [DecidablePred A] [DecidablePred B] (h7 : n ≤ 7) : zand (zfs A n) (zfs B n) = 0 ↔ ∀ p : Nat, p < n → ¬ (A p ∧ B p) := by
  have e : zand (zfs A n) (zfs B n) = zfs (fun p => A p ∧ B p) n := zfo_and n (by omega) (fun p hp => by
    have z := zbt_fo1 (P := B) hp (by omega)
    exact ⟨fun q => ⟨q.1, z.mpr q.2⟩, fun q => ⟨q.1, z.mp q.2⟩⟩)
  rw [e]
  exact zfo_z (by omega)
theorem zB_48 {G : Nat} {R : Int × zS} (h7 : n ≤ 7) (gn : σ 1 = ((n : Nat) : Int)) (hH : zRH t 11 σ n m) (e0 : zG G xm_c48 0 [224, f, 0, 0] [] t R) : R = (zfs (zhm σ f) n, t) := by
  have h11 : t 11 1 = ((n : Nat) : Int) := hH.1.2.1.trans gn
  have loop : ∀ (G i : Nat) (R : Int × zS), i ≤ n → zG G xm_c48 4 [224, f, zfs (zhm σ f) i, ((i : Nat) : Int)] [] t R → R = (zfs (zhm σ f) n, t) := by
    intro G
    induction G using Nat.strongRecOn with
    | _ G ih =>
      intro i R hi e0
      obtain ⟨F1, l1, ⟨c1, e1⟩ | ⟨c1, e1⟩⟩ := zi_48_4 e0
      · have c1 : ((i : Nat) : Int) < t 11 1 := c1
        have iL : i < n := by
          rw [h11] at c1
          exact Int.ofNat_lt.mp c1
        have en : zw (((i : Nat) : Int) + 1) = ((i + 1 : Nat) : Int) := by
          clear ih c1
          exact zw_id (by omega) (by omega)
        have eh : t 12 ((i : Nat) : Int) = zpe σ ((i : Nat) : Int) 4 := (hH.2.1 i iL).1
        have eS : zfs (zhm σ f) (i + 1) = zor (zfs (zhm σ f) i) (if zhm σ f i then zshl 1 ((i : Nat) : Int) else 0) := rfl
        obtain ⟨F2, l2, ⟨c2, e2⟩ | ⟨c2, e2⟩⟩ := zi_48_10 e1
        · have c2 : t 12 ((i : Nat) : Int) = f := c2
          rw [eh] at c2
          obtain ⟨F3, l3, e3⟩ := zi_48_19 e2
          rw [en] at e3
          refine ih F3 (Nat.lt_trans l3 (Nat.lt_trans l2 l1)) (i + 1) R iL ?_
          rw [eS, if_pos c2]
          exact e3
        · have c2 : ¬ t 12 ((i : Nat) : Int) = f := c2
          rw [eh] at c2
          obtain ⟨F3, l3, e3⟩ := zi_48_23 e2
          rw [en] at e3
          refine ih F3 (Nat.lt_trans l3 (Nat.lt_trans l2 l1)) (i + 1) R iL ?_
          rw [eS, if_neg c2]
          exact e3
      · have c1 : ¬ ((i : Nat) : Int) < t 11 1 := c1
        have iL : i = n := by
          rw [h11] at c1
          exact Nat.le_antisymm hi (Nat.not_lt.mp (fun q => c1 (Int.ofNat_lt.mpr q)))
        rw [zi_48_28 e1, iL]
  obtain ⟨F1, l1, e1⟩ := zi_48_0 e0
  exact loop F1 0 R (Nat.zero_le n) e1
theorem zB_213 {G : Nat} {R : Int × zS} (h7 : n ≤ 7) (gn : σ 1 = ((n : Nat) : Int)) (hs : t 354 = σ) (e0 : zG G xm_c213 0 [344, 0, 0] [] t R) : R = (zfs (zun σ) n, t) := by
  have loop : ∀ (G i : Nat) (R : Int × zS), i ≤ n → zG G xm_c213 4 [344, zfs (zun σ) i, ((i : Nat) : Int)] [] t R → R = (zfs (zun σ) n, t) := by
    intro G
    induction G using Nat.strongRecOn with
    | _ G ih =>
      intro i R hi e0
      obtain ⟨F1, l1, ⟨c1, e1⟩ | ⟨c1, e1⟩⟩ := zi_213_4 e0
      · have c1 : ((i : Nat) : Int) < t 354 1 := c1
        have iL : i < n := by
          rw [hs, gn] at c1
          exact Int.ofNat_lt.mp c1
        have i6 : ((i : Nat) : Int) ≤ 6 := by
          clear ih c1
          omega
        have en : zw (((i : Nat) : Int) + 1) = ((i + 1 : Nat) : Int) := by
          clear ih c1
          exact zw_id (by omega) (by omega)
        have eS : zfs (zun σ) (i + 1) = zor (zfs (zun σ) i) (if zun σ i then zshl 1 ((i : Nat) : Int) else 0) := rfl
        obtain ⟨F2, l2, r2, s2, q2, e2⟩ := zi_213_10 e1
        obtain ⟨rfl, rfl⟩ := zdet q2 (zr_know hs (Int.natCast_nonneg i) i6)
        have none : ∀ F3, F3 < G → ¬ zun σ i → zG F3 xm_c213 24 [344, zfs (zun σ) i, ((i : Nat) : Int)] [(false, zfs (zun σ) i)] t R → R = (zfs (zun σ) n, t) := fun F3 l3 no e3 => by
          obtain ⟨F4, l4, e4⟩ := zi_213_24 e3
          rw [en] at e4
          refine ih F4 (Nat.lt_trans l4 l3) (i + 1) R iL ?_
          rw [eS, if_neg no]
          exact e4
        by_cases w : zpe σ ((i : Nat) : Int) 8 < 0
        · rw [if_pos w] at e2
          obtain ⟨F3, l3, ⟨c3, e3⟩ | ⟨c3, e3⟩⟩ := zi_213_14 e2
          · obtain ⟨F4, l4, r4, s4, q4, e4⟩ := zi_213_15 e3
            obtain ⟨rfl, rfl⟩ := zdet q4 (zr_per hs (Int.natCast_nonneg i) i6 (by decide) (by decide))
            obtain ⟨F5, l5, ⟨c5, e5⟩ | ⟨c5, e5⟩⟩ := zi_213_19 e4
            · obtain ⟨F6, l6, e6⟩ := zi_213_20 e5
              rw [en] at e6
              refine ih F6 (Nat.lt_trans l6 (Nat.lt_trans l5 (Nat.lt_trans l4 (Nat.lt_trans l3 (Nat.lt_trans l2 l1))))) (i + 1) R iL ?_
              rw [eS, if_pos ⟨fun q => q w, c5⟩]
              exact e6
            · exact none F5 (Nat.lt_trans l5 (Nat.lt_trans l4 (Nat.lt_trans l3 (Nat.lt_trans l2 l1)))) (fun q => c5 q.2) e5
          · exact absurd rfl c3
        · rw [if_neg w] at e2
          obtain ⟨F3, l3, ⟨c3, e3⟩ | ⟨c3, e3⟩⟩ := zi_213_14 e2
          · exact absurd c3 (by decide)
          · exact none F3 (Nat.lt_trans l3 (Nat.lt_trans l2 l1)) (fun q => q.1 w) e3
      · have c1 : ¬ ((i : Nat) : Int) < t 354 1 := c1
        have iL : i = n := by
          rw [hs, gn] at c1
          exact Nat.le_antisymm hi (Nat.not_lt.mp (fun q => c1 (Int.ofNat_lt.mpr q)))
        rw [zi_213_29 e1, iL]
  obtain ⟨F1, l1, e1⟩ := zi_213_0 e0
  exact loop F1 0 R (Nat.zero_le n) e1
theorem zB_214 {G : Nat} {R : Int × zS} (h7 : n ≤ 7) (gn : τ 1 = ((n : Nat) : Int)) (hs : t 354 = τ) (e0 : zG G xm_c214 0 [344, f, 0] [] t R) : R.2 = t ∧ ((R.1 = 1 ∧ ∃ p : Nat, p < n ∧ zhm τ f p ∧ zkn τ p) ∨ (R.1 = 0 ∧ ∀ p : Nat, p < n → ¬ (zhm τ f p ∧ zkn τ p))) := by
  have loop : ∀ (G i : Nat) (R : Int × zS), i ≤ n → (∀ p : Nat, p < i → ¬ (zhm τ f p ∧ zkn τ p)) → zG G xm_c214 2 [344, f, ((i : Nat) : Int)] [] t R → R.2 = t ∧ ((R.1 = 1 ∧ ∃ p : Nat, p < n ∧ zhm τ f p ∧ zkn τ p) ∨ (R.1 = 0 ∧ ∀ p : Nat, p < n → ¬ (zhm τ f p ∧ zkn τ p))) := by
    intro G
    induction G using Nat.strongRecOn with
    | _ G ih =>
      intro i R hi hA e0
      obtain ⟨F1, l1, ⟨c1, e1⟩ | ⟨c1, e1⟩⟩ := zi_214_2 e0
      · have c1 : ((i : Nat) : Int) < t 354 1 := c1
        have iL : i < n := by
          rw [hs, gn] at c1
          exact Int.ofNat_lt.mp c1
        have i6 : ((i : Nat) : Int) ≤ 6 := by
          clear ih c1 hA
          omega
        have en : zw (((i : Nat) : Int) + 1) = ((i + 1 : Nat) : Int) := by
          clear ih c1 hA
          exact zw_id (by omega) (by omega)
        have none : ∀ F3, F3 < G → ¬ (zhm τ f i ∧ zkn τ i) → zG F3 xm_c214 20 [344, f, ((i : Nat) : Int)] [] t R → R.2 = t ∧ ((R.1 = 1 ∧ ∃ p : Nat, p < n ∧ zhm τ f p ∧ zkn τ p) ∨ (R.1 = 0 ∧ ∀ p : Nat, p < n → ¬ (zhm τ f p ∧ zkn τ p))) := fun F3 l3 no e3 => by
          obtain ⟨F4, l4, e4⟩ := zi_214_20 e3
          rw [en] at e4
          refine ih F4 (Nat.lt_trans l4 l3) (i + 1) R iL (fun p hp => ?_) e4
          by_cases pe : p = i
          · rw [pe]
            exact no
          · exact hA p (Nat.lt_of_le_of_ne (Nat.le_of_lt_succ hp) pe)
        obtain ⟨F2, l2, r2, s2, q2, e2⟩ := zi_214_8 e1
        obtain ⟨rfl, rfl⟩ := zdet q2 (zr_per hs (Int.natCast_nonneg i) i6 (by decide) (by decide))
        obtain ⟨F3, l3, ⟨c3, e3⟩ | ⟨c3, e3⟩⟩ := zi_214_12 e2
        · obtain ⟨F4, l4, r4, s4, q4, e4⟩ := zi_214_14 e3
          obtain ⟨rfl, rfl⟩ := zdet q4 (zr_know hs (Int.natCast_nonneg i) i6)
          by_cases w : zpe τ ((i : Nat) : Int) 8 < 0
          · rw [if_pos w] at e4
            obtain ⟨F5, l5, ⟨c5, e5⟩ | ⟨c5, e5⟩⟩ := zi_214_17 e4
            · exact none F5 (Nat.lt_trans l5 (Nat.lt_trans l4 (Nat.lt_trans l3 (Nat.lt_trans l2 l1)))) (fun q => q.2 w) e5
            · exact absurd rfl c5
          · rw [if_neg w] at e4
            obtain ⟨F5, l5, ⟨c5, e5⟩ | ⟨c5, e5⟩⟩ := zi_214_17 e4
            · exact absurd c5 (by decide)
            · rw [zi_214_18 e5]
              exact ⟨rfl, Or.inl ⟨rfl, i, iL, c3, w⟩⟩
        · exact none F3 (Nat.lt_trans l3 (Nat.lt_trans l2 l1)) (fun q => c3 q.1) e3
      · have c1 : ¬ ((i : Nat) : Int) < t 354 1 := c1
        have iL : i = n := by
          rw [hs, gn] at c1
          exact Nat.le_antisymm hi (Nat.not_lt.mp (fun q => c1 (Int.ofNat_lt.mpr q)))
        rw [zi_214_22 e1]
        rw [iL] at hA
        exact ⟨rfl, Or.inr ⟨rfl, hA⟩⟩
  obtain ⟨F1, l1, e1⟩ := zi_214_0 e0
  exact loop F1 0 R (Nat.zero_le n) (fun p hp => absurd hp (Nat.not_lt_zero p)) e1
theorem zwp_o {k : Int} (h : ¬ (10 ≤ k ∧ k < 87 ∧ 8 ≤ (k - 10) % 11)) : ∀ i : Nat, i ≤ 7 → zwp σ S i k = σ k
  | 0, _ => rfl
  | i + 1, hi => by
    have ih := zwp_o h i (Nat.le_of_succ_le hi)
    show (if zbt S ((i : Nat) : Int) = 1 then zuq (zwp σ S i) ((i : Nat) : Int) (σ 4) 0 (-1) else zwp σ S i) k = σ k
    by_cases c : zbt S ((i : Nat) : Int) = 1
    · rw [if_pos c, zuq_o (by clear ih c; omega)]
      exact ih
    · rw [if_neg c]
      exact ih
theorem zwp_8 : ∀ i : Nat, zpe (zwp σ S i) ((q : Nat) : Int) 8 = if q < i ∧ zbt S ((q : Nat) : Int) = 1 then σ 4 else zpe σ ((q : Nat) : Int) 8
  | 0 => (if_neg (fun z => absurd z.1 (Nat.not_lt_zero q))).symm
  | i + 1 => by
    have ih := zwp_8 i
    show zpe (if zbt S ((i : Nat) : Int) = 1 then zuq (zwp σ S i) ((i : Nat) : Int) (σ 4) 0 (-1) else zwp σ S i) ((q : Nat) : Int) 8 = _
    by_cases c : zbt S ((i : Nat) : Int) = 1
    · rw [if_pos c]
      by_cases e : q = i
      · rw [e, zuq_8, if_pos ⟨Nat.lt_succ_self i, c⟩]
      · have z : zpe (zuq (zwp σ S i) ((i : Nat) : Int) (σ 4) 0 (-1)) ((q : Nat) : Int) 8 = zpe (zwp σ S i) ((q : Nat) : Int) 8 := zuq_o (by omega)
        rw [z, ih]
        by_cases d : q < i ∧ zbt S ((q : Nat) : Int) = 1
        · rw [if_pos d, if_pos ⟨Nat.lt_succ_of_lt d.1, d.2⟩]
        · rw [if_neg d, if_neg (fun w => d ⟨Nat.lt_of_le_of_ne (Nat.le_of_lt_succ w.1) e, w.2⟩)]
    · rw [if_neg c, ih]
      by_cases d : q < i ∧ zbt S ((q : Nat) : Int) = 1
      · rw [if_pos d, if_pos ⟨Nat.lt_succ_of_lt d.1, d.2⟩]
      · rw [if_neg d, if_neg (fun w => d ⟨Nat.lt_of_le_of_ne (Nat.le_of_lt_succ w.1) (fun e => c (by rw [← e]; exact w.2)), w.2⟩)]
theorem zwp_st (h7 : n ≤ 7) {k : Int} (hk : zst k ∨ ¬ (0 ≤ k ∧ k < 87)) : zwp σ S n k = σ k := zwp_o (by
  unfold zst at hk
  omega) n h7
theorem zwp_p (h7 : n ≤ 7) {j : Int} (j0 : 0 ≤ j) (j1 : j ≤ 7) : zpe (zwp σ S n) ((q : Nat) : Int) j = zpe σ ((q : Nat) : Int) j := by
  show zwp σ S n (10 + 11 * ((q : Nat) : Int) + j) = σ (10 + 11 * ((q : Nat) : Int) + j)
  exact zwp_o (by omega) n h7
theorem zwp_G (H : zGs bB σ n m) : zGs bB (zwp σ S n) n m := by
  have h7 := H.1.2.1
  have g4 := H.1.2.2.2.2.2.2.2
  refine zGs_s H (fun k hk => zwp_st h7 (hk.imp_right (fun q => by omega))) ?_ (fun q hq => ?_)
  · rw [zwp_o (k := 4) (by decide) n h7]
    exact g4
  · obtain ⟨d0, d1, d3, d4, d5, d6, -⟩ := H.2.1 q hq
    rw [zwp_p h7 (j := 0) (by decide) (by decide), zwp_p h7 (j := 1) (by decide) (by decide), zwp_p h7 (j := 2) (by decide) (by decide), zwp_p h7 (j := 3) (by decide) (by decide), zwp_8]
    refine ⟨d0, d1, d3, d5, ?_⟩
    by_cases c : q < n ∧ zbt S ((q : Nat) : Int) = 1
    · rw [if_pos c]
      clear d0 d1 d3 d4 d5 d6
      omega
    · rw [if_neg c]
      exact d6
theorem zwp_e (h7 : n ≤ 7) : zPe σ (zwp σ S n) n := ⟨zwp_o (by decide) n h7, fun p j _ j0 j1 => zwp_p h7 j0 (by omega), fun k hk => zwp_o (by omega) n h7⟩
/-- one is told now, in the class -/
theorem zRL_l {bl : Int} (H : zRL t 230 τ n) (hp : p < n) (b0 : 0 ≤ bl) : zRL (zu (zu (zu (zu t 230 0 (zor (t 230 0) (zshl 1 ((p : Nat) : Int)))) 231 ((p : Nat) : Int) bl) 232 ((p : Nat) : Int) 0) 233 ((p : Nat) : Int) (-1)) 230 (zuq τ ((p : Nat) : Int) bl 0 (-1)) n := by
  obtain ⟨a, b⟩ := H
  refine ⟨?_, fun q hq => ?_⟩
  · rw [zu_cell (by decide), zu_cell (by decide), zu_cell (by decide), zu_hit, a]
    refine (zfo_add n hp (fun k hk => ?_)).symm
    by_cases e : k = p
    · subst e
      unfold zkn
      rw [zuq_8]
      exact ⟨fun _ => Or.inr rfl, fun _ => Int.not_lt.mpr b0⟩
    · have z : zpe (zuq τ ((p : Nat) : Int) bl 0 (-1)) ((k : Nat) : Int) 8 = zpe τ ((k : Nat) : Int) 8 := zuq_o (by omega)
      unfold zkn
      rw [z]
      exact ⟨Or.inl, fun w => w.resolve_right e⟩
  · obtain ⟨b1, b2, b3⟩ := b q hq
    show zu (zu (zu (zu t 230 0 _) 231 _ bl) 232 _ 0) 233 _ (-1) 231 ((q : Nat) : Int) = _ ∧ zu (zu (zu (zu t 230 0 _) 231 _ bl) 232 _ 0) 233 _ (-1) 232 ((q : Nat) : Int) = _ ∧ zu (zu (zu (zu t 230 0 _) 231 _ bl) 232 _ 0) 233 _ (-1) 233 ((q : Nat) : Int) = _
    by_cases e : q = p
    · subst e
      rw [zuq_8, zuq_9, zuq_10]
      refine ⟨?_, ?_, ?_⟩
      · rw [zu_cell (by decide), zu_cell (by decide), zu_hit]
      · rw [zu_cell (by decide), zu_hit]
      · rw [zu_hit]
    · have ne : ((q : Nat) : Int) ≠ ((p : Nat) : Int) := fun z => e (Int.ofNat.inj z)
      have z8 : zpe (zuq τ ((p : Nat) : Int) bl 0 (-1)) ((q : Nat) : Int) 8 = zpe τ ((q : Nat) : Int) 8 := zuq_o (by omega)
      have z9 : zpe (zuq τ ((p : Nat) : Int) bl 0 (-1)) ((q : Nat) : Int) 9 = zpe τ ((q : Nat) : Int) 9 := zuq_o (by omega)
      have z10 : zpe (zuq τ ((p : Nat) : Int) bl 0 (-1)) ((q : Nat) : Int) 10 = zpe τ ((q : Nat) : Int) 10 := zuq_o (by omega)
      rw [z8, z9, z10]
      refine ⟨?_, ?_, ?_⟩
      · rw [zu_cell (by decide), zu_cell (by decide), zu_place ne, zu_cell (by decide)]
        exact b1
      · rw [zu_cell (by decide), zu_place ne, zu_cell (by decide), zu_cell (by decide)]
        exact b2
      · rw [zu_place ne, zu_cell (by decide), zu_cell (by decide), zu_cell (by decide)]
        exact b3
/-- one is told now, in the reference -/
theorem zr_201 (p0 : 0 ≤ x) (p6 : x ≤ 6) : ∃ t', zE xm_c201 [344, x, y] t 0 t' ∧ t' 354 = zuq (t 354) x (t 354 4) y (-1) ∧ ∀ z, z ≠ 354 → t' z = t z := by
  refine ⟨_, zb_201_0 rfl, ?_, fun z hz => ?_⟩
  · rw [zpp2 p0 p6 (k := 8) (by decide) (by decide), zpp2 p0 p6 (k := 9) (by decide) (by decide), zpp2 p0 p6 (k := 10) (by decide) (by decide)]
    funext k
    show zu (zu (zu t 354 (10 + 11 * x + 8) (t 354 4)) 354 (10 + 11 * x + 9) y) 354 (10 + 11 * x + 10) (-1) 354 k = _
    unfold zuq
    rw [zu2, zu2, zu2]
    by_cases c8 : k = 10 + 11 * x + 8
    · rw [if_neg (by omega), if_neg (by omega), if_pos c8, if_pos c8]
    · by_cases c9 : k = 10 + 11 * x + 9
      · rw [if_neg (by omega), if_pos c9, if_neg c8, if_pos c9]
      · by_cases c10 : k = 10 + 11 * x + 10
        · rw [if_pos c10, if_neg c8, if_neg c9, if_pos c10]
        · rw [if_neg c10, if_neg c9, if_neg c8, if_neg c8, if_neg c9, if_neg c10]
  · exact funext (fun y => by
      rw [zu_cell (show z ≠ 344 + 10 from hz), zu_cell (show z ≠ 344 + 10 from hz), zu_cell (show z ≠ 344 + 10 from hz)])
end MN
