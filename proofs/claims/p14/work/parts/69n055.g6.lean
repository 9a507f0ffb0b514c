/-! the two sides' tellings agree -/
theorem zct_rm {P Q : Nat → Prop} [DecidablePred P] [DecidablePred Q] {a : Nat} (hp : P a) (hq : ∀ p, Q p ↔ p ≠ a ∧ P p) : ∀ n : Nat, a < n → zct Q n = zct P n - 1
  | 0, h => absurd h (Nat.not_lt_zero a)
  | n + 1, h => by
    show zct Q n + (if Q n then 1 else 0) = zct P n + (if P n then 1 else 0) - 1
    by_cases e : n = a
    · subst e
      rw [if_neg (fun z => ((hq n).mp z).1 rfl), if_pos hp, zct_congr (P := Q) (Q := P) n (fun k hk => ⟨fun z => ((hq k).mp z).2, fun z => (hq k).mpr ⟨by omega, z⟩⟩)]
      omega
    · rw [zct_rm hp hq n (by omega)]
      by_cases c : P n
      · rw [if_pos c, if_pos ((hq n).mpr ⟨e, c⟩)]
        omega
      · rw [if_neg c, if_neg (fun z => c ((hq n).mp z).2)]
        omega
theorem zfi_none {P : Nat → Prop} [DecidablePred P] : ∀ k i : Nat, (∀ j, i ≤ j → j < i + k → ¬ P j) → zfi P k i = -1
  | 0, i, _ => rfl
  | k + 1, i, h => by
    show (if P i then _ else zfi P k (i + 1)) = -1
    rw [if_neg (h i (Nat.le_refl i) (by omega)), zfi_none k (i + 1) (fun j a b => h j (by omega) (by omega))]
theorem zfi_some {P : Nat → Prop} [DecidablePred P] {k i j : Nat} (a : i ≤ j) (b : j < i + k) (c : P j) : zfi P k i ≠ -1 := by
  intro q
  have : ∀ k i : Nat, i ≤ j → j < i + k → zfi P k i ≠ -1 := fun k => by
    induction k with
    | zero => intro i a b; omega
    | succ k ih =>
      intro i a b
      show (if P i then ((i : Nat) : Int) else zfi P k (i + 1)) ≠ -1
      by_cases d : P i
      · rw [if_pos d]
        omega
      · rw [if_neg d]
        exact ih (i + 1) (by
          rcases Nat.lt_or_ge i j with z | z
          · exact z
          · exact absurd (show i = j by omega) (fun e => d (e ▸ c))) (by omega)
  exact this k i a b q
section GE
variable {bB : Int}
variable {s : zS} {σ : Int → Int} {n m : Nat} {l X F f bl : Int} {U : (Int → Int) → Int} {a b : Nat}
/-- who tells on a floor that is not quiet -/
abbrev zteT (σ : Int → Int) (n m : Nat) (f : Int) (p : Nat) : Prop := zpnd σ m f p ∧ zkn (zsA σ m n) p
/-- a floor where no telling is by hand -/
abbrev zqt (σ : Int → Int) (f : Int) : Prop := zbt (σ 8) f = 1 ∨ ((0 ≤ σ 5 ∧ σ 5 ≤ σ 4) ∧ ¬ zbt (σ 9) f = 1)
theorem zon_pd (h7 : n ≤ 7) (ha : a < n) : zon (zsA σ m n) (zfs (zvD σ m) n) ((a : Nat) : Int) f ↔ zpnd σ m f a := by
  unfold zon zpnd
  rw [zbt_fo1 ha (by omega), zsA_p ha (by decide) (by decide), if_pos rfl]
/-- what the class's telling sees and the reference's are the same -/
theorem zte_iff (hG : zGs bB σ n m) (ha : a < n) (hb : b < n) (hbf : zpnd σ m f b) (hbk : ¬ zkn (zsA σ m n) b) (hq : ¬ zqt (zsA σ m n) f) (hX : ∀ p : Nat, p < n → (zbt X ((p : Nat) : Int) = 1 ↔ zteT σ n m f p)) (e14 : s 14 ((b : Nat) : Int) = zpe σ ((b : Nat) : Int) 5) (e12 : s 12 ((b : Nat) : Int) = zpe σ ((b : Nat) : Int) 4) (e15 : s 15 ((a : Nat) : Int) = zpe σ ((a : Nat) : Int) 7) (w2 : s 238 2 = f) (w3 : s 238 3 = σ 4) (w7 : s 238 7 = zct (zpnd σ m f) n - 2) (w8 : s 238 8 = zbc (zfs (zkn (zsA σ m n)) n)) (w9 : s 238 9 = (if 0 ≤ σ 5 ∧ σ 5 ≤ σ 4 then 1 else 0)) (c1 : zteT σ n m f a → s (l + 1) ((a : Nat) : Int) = zpe σ ((a : Nat) : Int) 8 ∧ s (l + 2) ((a : Nat) : Int) = zpe σ ((a : Nat) : Int) 9) : zct_ s l ((b : Nat) : Int) X F U a ↔ zte (zsA σ m n) (zfs (zvD σ m) n) n F U ((a : Nat) : Int) ((b : Nat) : Int) := by
  obtain ⟨⟨g1, g2, g3, g4, g5, g6, g7, g8, g9⟩, gp, ge⟩ := hG
  have pj : ∀ (p : Nat) (j : Int), p < n → 3 ≤ j → j ≤ 10 → zpe (zsA σ m n) ((p : Nat) : Int) j = zpe σ ((p : Nat) : Int) j := fun p j hp j0 j1 => by
    rw [zsA_p hp (by omega) j1, if_neg (by omega), if_neg (by omega), if_neg (by omega)]
  have b0 : zpe (zsA σ m n) ((b : Nat) : Int) 0 = f := by
    rw [zsA_p hb (by decide) (by decide), if_pos rfl]
    exact hbf.2
  have s4 : zsA σ m n 4 = σ 4 := zsA_lo (by decide)
  have s5 : zsA σ m n 5 = σ 5 := zsA_lo (by decide)
  have quiet : ¬ zbt (zsA σ m n 8) f = 1 ∧ ¬ ((0 ≤ zsA σ m n 5 ∧ zsA σ m n 5 ≤ zsA σ m n 4) ∧ ¬ zbt (zsA σ m n 9) f = 1) := ⟨fun q => hq (Or.inl q), fun q => hq (Or.inr q)⟩
  by_cases c : zteT σ n m f a
  case neg =>
    refine ⟨fun q => absurd ((hX a ha).mp q.1) c, fun q => absurd ⟨?_, q.2.1⟩ c⟩
    have := q.2.2.1
    rw [b0] at this
    exact (zon_pd g2 ha).mp this
  have nab : ((a : Nat) : Int) ≠ ((b : Nat) : Int) := fun q => hbk (by
    have : a = b := Int.ofNat.inj q
    rw [← this]
    exact c.2)
  obtain ⟨q1, q2⟩ := c1 c
  have hon : zon (zsA σ m n) (zfs (zvD σ m) n) ((a : Nat) : Int) f := (zon_pd g2 ha).mpr c.1
  have a0 : zpe (zsA σ m n) ((a : Nat) : Int) 0 = f := hon.2
  -- the others
  have oth : zct (zot (zsA σ m n) (zfs (zvD σ m) n) f ((a : Nat) : Int) ((b : Nat) : Int)) n = zct (zpnd σ m f) n - 2 := by
    have e1 : zct (zot (zsA σ m n) (zfs (zvD σ m) n) f ((a : Nat) : Int) ((b : Nat) : Int)) n = zct (fun p => p ≠ a ∧ (p ≠ b ∧ zpnd σ m f p)) n := zct_congr n (fun p hp => by
      unfold zot
      rw [zon_pd g2 hp]
      exact ⟨fun z => ⟨fun q => z.1 (by rw [q]), fun q => z.2.1 (by rw [q]), z.2.2⟩, fun z => ⟨fun q => z.1 (Int.ofNat.inj q), fun q => z.2.1 (Int.ofNat.inj q), z.2.2⟩⟩)
    rw [e1, zct_rm (P := fun p => p ≠ b ∧ zpnd σ m f p) (a := a) ⟨fun q => nab (by rw [q]), c.1⟩ (fun p => Iff.rfl) n ha, zct_rm (P := zpnd σ m f) (a := b) hbf (fun p => Iff.rfl) n hb]
    omega
  have r := zct_r (P := zot (zsA σ m n) (zfs (zvD σ m) n) f ((a : Nat) : Int) ((b : Nat) : Int)) n
  have sym := (gp a ha).2.2.2.2.2.2.2.2 b hb
  have ws : zcw (s 238 2) (s 238 3) (s 238 7) (s 238 8) (s 238 9) ((b : Nat) : Int) (if s 12 ((b : Nat) : Int) = s 238 2 then 1 else 0) ((a : Nat) : Int) (s (l + 2) ((a : Nat) : Int)) (zq (s 238 3 - s (l + 1) ((a : Nat) : Int))) (s 15 ((a : Nat) : Int)) = zws (zsA σ m n) (zfs (zvD σ m) n) n ((a : Nat) : Int) ((b : Nat) : Int) := by
    have ba := (gp a ha).2.2.2.2.2.1
    have e5 : zq (σ 4 - zpe σ ((a : Nat) : Int) 8) = zw (σ 4 - zpe σ ((a : Nat) : Int) 8) := by
      rw [zq_id (by omega) (by omega), zw_id (by omega) (by omega)]
    funext k
    unfold zcw zws
    rw [w2, w3, w7, w8, w9, e12, e15, q1, q2, a0, s4, s5, pj a 9 ha (by decide) (by decide), pj a 8 ha (by decide) (by decide), pj a 7 ha (by decide) (by decide), pj b 4 hb (by decide) (by decide), oth, e5]
  unfold zct_ zte
  rw [ws, e14, b0, pj a 5 ha (by decide) (by decide), oth, w7, sym]
  refine ⟨fun q => ⟨nab, c.2, hon, quiet.1, quiet.2, fun z => q.2.1 ⟨z.1, by omega⟩, q.2.2⟩, fun q => ⟨(hX a ha).mpr c, fun z => q.2.2.2.2.2.1 ⟨z.1, by omega⟩, q.2.2.2.2.2.2⟩⟩
theorem zte_no (hG : zGs bB σ n m) (ha : a < n) (hb : b < n) (hbf : zpnd σ m f b) (h : zqt (zsA σ m n) f ∨ ¬ zteT σ n m f a) : ¬ zte (zsA σ m n) (zfs (zvD σ m) n) n F U ((a : Nat) : Int) ((b : Nat) : Int) := by
  have b0 : zpe (zsA σ m n) ((b : Nat) : Int) 0 = f := by
    rw [zsA_p hb (by decide) (by decide), if_pos rfl]
    exact hbf.2
  intro q
  have q1 := q.2.2.1
  have q2 := q.2.2.2.1
  have q3 := q.2.2.2.2.1
  rw [b0] at q1 q2 q3
  rcases h with h | h
  · exact h.elim q2 q3
  · exact h ⟨(zon_pd hG.1.2.1 ha).mp q1, q.2.1⟩
/-- the bucket's place and the night's, as they are told -/
def zGt (σ : Int → Int) : Prop := (σ 5 = -1 ∨ 0 ≤ σ 5) ∧ (σ 0 ≠ 0 → (σ 6 = -1 ∧ σ 7 = -1) ∨ ((0 ≤ σ 6 ∧ σ 6 < σ 0) ∧ (0 ≤ σ 7 ∧ σ 7 < σ 0)))
/-- the callers, in the class -/
def zcal (σ : Int → Int) (n m : Nat) (f : Int) : Int := if f = σ 7 then zfs (zteT σ n m (σ 6)) n else 0
theorem zbk_cal (hG : zGs bB σ n m) (hT : zGt σ) (f0 : 0 ≤ f) (hb : b < n) (hbf : zpnd σ m f b) : zbk (zsA σ m n) (zfs (zvD σ m) n) n ((b : Nat) : Int) = if zcal σ n m f = 0 then -1 else zfi (fun k => zbt (zcal σ n m f) ((k : Nat) : Int) = 1) 7 0 := by
  have h7 := hG.1.2.1
  have b0 : zpe (zsA σ m n) ((b : Nat) : Int) 0 = f := by
    rw [zsA_p hb (by decide) (by decide), if_pos rfl]
    exact hbf.2
  have s6 : zsA σ m n 6 = σ 6 := zsA_lo (by decide)
  have s7 : zsA σ m n 7 = σ 7 := zsA_lo (by decide)
  have e : zfi (zcl (zsA σ m n) (zfs (zvD σ m) n)) n 0 = zfi (zteT σ n m (σ 6)) n 0 := zfi_congr n 0 (fun j _ hj => by
    unfold zcl zteT
    rw [s6, zon_pd h7 (by omega)]
    exact and_comm)
  unfold zbk zcal
  rw [e, s6, s7, b0]
  by_cases c : f = σ 7
  · have h0 : σ 0 ≠ 0 := by
      have := hG.1.2.2.2.2.2.2.1 (by omega)
      omega
    have h6 : ¬ σ 6 < 0 := by
      rcases hT.2 h0 with q | q
      · omega
      · omega
    rw [if_neg h6, if_pos c, if_pos c]
    by_cases d : zfs (zteT σ n m (σ 6)) n = 0
    · rw [if_pos d]
      exact zfi_none n 0 (fun j _ hj => (zfo_z (by omega)).mp d j (by omega))
    · rw [if_neg d, zfi_fo h7]
  · rw [if_neg c, if_neg c, if_pos rfl]
    by_cases d : σ 6 < 0
    · rw [if_pos d]
    · rw [if_neg d]
/-- who tells a hearer -/
theorem zto_H (hb : b < n) (h7 : n ≤ 7) (hbf : zpnd σ m f b) (hbk : ¬ zkn (zsA σ m n) b) (hd : ¬ zpe σ ((b : Nat) : Int) 6 = 1) : zto (zsA σ m n) (zfs (zvD σ m) n) n F U ((b : Nat) : Int) = if zfi (fun a => zte (zsA σ m n) (zfs (zvD σ m) n) n F U ((a : Nat) : Int) ((b : Nat) : Int)) n 0 = -1 then zbk (zsA σ m n) (zfs (zvD σ m) n) n ((b : Nat) : Int) else zfi (fun a => zte (zsA σ m n) (zfs (zvD σ m) n) n F U ((a : Nat) : Int) ((b : Nat) : Int)) n 0 := by
  unfold zto
  rw [if_neg]
  rintro (q | q | q)
  · exact hbk q
  · rw [zsA_p hb (by decide) (by decide), if_neg (by decide), if_neg (by decide), if_neg (by decide)] at q
    exact hd q
  · exact q ((zbt_fo1 hb (by omega)).mpr hbf.1)
theorem zto_N (hb : b < n) (h7 : n ≤ 7) (h : ¬ zvD σ m b ∨ zkn (zsA σ m n) b ∨ zpe σ ((b : Nat) : Int) 6 = 1) : zto (zsA σ m n) (zfs (zvD σ m) n) n F U ((b : Nat) : Int) = -1 := by
  unfold zto
  rw [if_pos]
  rcases h with q | q | q
  · exact Or.inr (Or.inr (fun z => q ((zbt_fo1 hb (by omega)).mp z)))
  · exact Or.inl q
  · refine Or.inr (Or.inl ?_)
    rw [zsA_p hb (by decide) (by decide), if_neg (by decide), if_neg (by decide), if_neg (by decide)]
    exact q
end GE
