/-! silence in the class -/
/-- those of the first i that are in a set are deaf -/
def zdfs (σ : Int → Int) (S : Int) : Nat → Int → Int
  | 0 => σ
  | i + 1 => if zbt S ((i : Nat) : Int) = 1 then zu1 (zdfs σ S i) (10 + 11 * ((i : Nat) : Int) + 6) 1 else zdfs σ S i
/-- with those deaf that one doesn't know in time -/
def zsP (σ : Int → Int) (n m : Nat) (F : Int) (U : (Int → Int) → Int) (K p : Nat) (w : Nat) : Prop := ¬ zkn (zPn (zdfs σ ((w : Nat) : Int) n) n m F U K) p
/-- who may be made deaf for that one -/
abbrev zuq1 (σ : Int → Int) (p q : Nat) : Prop := zun σ q ∧ ¬ q = p
section MR
variable {bB : Int} {σ τ : Int → Int} {n m K : Nat} {F : Int} {U : (Int → Int) → Int} {s t : zS} {a b x y S S' f h : Int} {p q : Nat}
theorem zdfs_o {k : Int} (hk : ¬ (10 ≤ k ∧ k < 87 ∧ (k - 10) % 11 = 6)) : ∀ i : Nat, i ≤ 7 → zdfs σ S i k = σ k
  | 0, _ => rfl
  | i + 1, hi => by
    have ih := zdfs_o hk i (Nat.le_of_succ_le hi)
    show (if zbt S ((i : Nat) : Int) = 1 then zu1 (zdfs σ S i) (10 + 11 * ((i : Nat) : Int) + 6) 1 else zdfs σ S i) k = σ k
    by_cases c : zbt S ((i : Nat) : Int) = 1
    · rw [if_pos c]
      have z : zu1 (zdfs σ S i) (10 + 11 * ((i : Nat) : Int) + 6) 1 k = zdfs σ S i k := if_neg (by clear ih c; omega)
      rw [z]
      exact ih
    · rw [if_neg c]
      exact ih
theorem zdfs_6 : ∀ i : Nat, zpe (zdfs σ S i) ((q : Nat) : Int) 6 = if q < i ∧ zbt S ((q : Nat) : Int) = 1 then 1 else zpe σ ((q : Nat) : Int) 6
  | 0 => (if_neg (fun z => absurd z.1 (Nat.not_lt_zero q))).symm
  | i + 1 => by
    have ih := zdfs_6 i
    show zpe (if zbt S ((i : Nat) : Int) = 1 then zu1 (zdfs σ S i) (10 + 11 * ((i : Nat) : Int) + 6) 1 else zdfs σ S i) ((q : Nat) : Int) 6 = _
    by_cases c : zbt S ((i : Nat) : Int) = 1
    · rw [if_pos c]
      by_cases e : q = i
      · rw [e, if_pos ⟨Nat.lt_succ_self i, c⟩]
        exact if_pos rfl
      · have z : zpe (zu1 (zdfs σ S i) (10 + 11 * ((i : Nat) : Int) + 6) 1) ((q : Nat) : Int) 6 = zpe (zdfs σ S i) ((q : Nat) : Int) 6 := if_neg (by clear ih c; omega)
        rw [z, ih]
        by_cases d : q < i ∧ zbt S ((q : Nat) : Int) = 1
        · rw [if_pos d, if_pos ⟨Nat.lt_succ_of_lt d.1, d.2⟩]
        · rw [if_neg d, if_neg (fun w => d ⟨Nat.lt_of_le_of_ne (Nat.le_of_lt_succ w.1) e, w.2⟩)]
    · rw [if_neg c, ih]
      by_cases d : q < i ∧ zbt S ((q : Nat) : Int) = 1
      · rw [if_pos d, if_pos ⟨Nat.lt_succ_of_lt d.1, d.2⟩]
      · rw [if_neg d, if_neg (fun w => d ⟨Nat.lt_of_le_of_ne (Nat.le_of_lt_succ w.1) (fun e => c (by rw [← e]; exact w.2)), w.2⟩)]
/-- the deaf are deaf -/
theorem zdfs_c : ∀ i : Nat, (∀ q : Nat, q < i → (zbt S ((q : Nat) : Int) = 1 ↔ zbt S' ((q : Nat) : Int) = 1) ∨ zpe σ ((q : Nat) : Int) 6 = 1) → zdfs σ S i = zdfs σ S' i
  | 0, _ => rfl
  | i + 1, hq => by
    have ih := zdfs_c i (fun q h => hq q (Nat.lt_succ_of_lt h))
    show (if zbt S ((i : Nat) : Int) = 1 then zu1 (zdfs σ S i) (10 + 11 * ((i : Nat) : Int) + 6) 1 else zdfs σ S i) = (if zbt S' ((i : Nat) : Int) = 1 then zu1 (zdfs σ S' i) (10 + 11 * ((i : Nat) : Int) + 6) 1 else zdfs σ S' i)
    rw [ih]
    rcases hq i (Nat.lt_succ_self i) with w | w
    · by_cases c : zbt S ((i : Nat) : Int) = 1
      · rw [if_pos c, if_pos (w.mp c)]
      · rw [if_neg c, if_neg (fun z => c (w.mpr z))]
    · have e6 : zpe (zdfs σ S' i) ((i : Nat) : Int) 6 = 1 := by
        rw [zdfs_6 i, if_neg (fun z => absurd z.1 (Nat.lt_irrefl i)), w]
      have e : zu1 (zdfs σ S' i) (10 + 11 * ((i : Nat) : Int) + 6) 1 = zdfs σ S' i := by
        funext k
        show (if k = 10 + 11 * ((i : Nat) : Int) + 6 then 1 else zdfs σ S' i k) = zdfs σ S' i k
        by_cases c : k = 10 + 11 * ((i : Nat) : Int) + 6
        · rw [if_pos c, c]
          exact e6.symm
        · rw [if_neg c]
      rw [e]
      by_cases c : zbt S ((i : Nat) : Int) = 1
      · rw [if_pos c]
        by_cases d : zbt S' ((i : Nat) : Int) = 1
        · rw [if_pos d]
        · rw [if_neg d]
      · rw [if_neg c]
        by_cases d : zbt S' ((i : Nat) : Int) = 1
        · rw [if_pos d]
        · rw [if_neg d]
theorem zdfs_p (h7 : n ≤ 7) {j : Int} (j0 : 0 ≤ j) (j1 : j ≤ 10) (j6 : j ≠ 6) : zpe (zdfs σ S n) ((q : Nat) : Int) j = zpe σ ((q : Nat) : Int) j := by
  show zdfs σ S n (10 + 11 * ((q : Nat) : Int) + j) = σ (10 + 11 * ((q : Nat) : Int) + j)
  exact zdfs_o (by omega) n h7
theorem zdfs_G (H : zGs bB σ n m) : zGs bB (zdfs σ S n) n m := by
  have h7 := H.1.2.1
  have lo : ∀ k : Int, k < 10 ∨ 87 ≤ k → zdfs σ S n k = σ k := fun k hk => zdfs_o (by omega) n h7
  obtain ⟨⟨g1, g2, g3, g4, g5, g6, g7, g8⟩, gp, ge⟩ := H
  refine ⟨⟨by rw [lo 1 (by decide)]; exact g1, g2, by rw [lo 2 (by decide)]; exact g3, g4, by rw [lo 0 (by decide)]; exact g5, by rw [lo 0 (by decide)]; exact g6, by rw [lo 0 (by decide)]; exact g7, by rw [lo 4 (by decide)]; exact g8⟩, fun q hq => ?_, fun i hi => ?_⟩
  · obtain ⟨r0, r1, r3, r4, r5, r6, r7, r8, r9⟩ := gp q hq
    rw [zdfs_p h7 (q := q) (j := 0) (by decide) (by decide) (by decide), zdfs_p h7 (q := q) (j := 1) (by decide) (by decide) (by decide), zdfs_p h7 (q := q) (j := 2) (by decide) (by decide) (by decide), zdfs_p h7 (q := q) (j := 3) (by decide) (by decide) (by decide), zdfs_p h7 (q := q) (j := 4) (by decide) (by decide) (by decide), zdfs_p h7 (q := q) (j := 5) (by decide) (by decide) (by decide), zdfs_p h7 (q := q) (j := 8) (by decide) (by decide) (by decide), zdfs_6, lo 0 (by decide), lo (138 + ((q : Nat) : Int)) (by omega)]
    refine ⟨r0, r1, r3, r4, r5, r6, r7, ?_, fun q' hq' => ?_⟩
    · by_cases c : q < n ∧ zbt S ((q : Nat) : Int) = 1
      · rw [if_pos c]
        exact Or.inr rfl
      · rw [if_neg c]
        exact r8
    · rw [zdfs_p h7 (q := q') (j := 5) (by decide) (by decide) (by decide)]
      exact r9 q' hq'
  · rw [lo (87 + 3 * ((i : Nat) : Int)) (by omega), lo (87 + 3 * ((i : Nat) : Int) + 1) (by omega), lo 0 (by decide)]
    exact ge i hi
theorem zdfs_t (h7 : n ≤ 7) (H : zGt σ) : zGt (zdfs σ S n) := by
  unfold zGt at H ⊢
  rw [zdfs_o (k := 0) (by decide) n h7, zdfs_o (k := 5) (by decide) n h7, zdfs_o (k := 6) (by decide) n h7, zdfs_o (k := 7) (by decide) n h7]
  exact H
theorem zdfs_H (H : zRHw s h σ n m) (h7 : n ≤ 7) : zRHw s h (zdfs σ S n) n m := by
  obtain ⟨⟨a0, a1, a2, a5, a6, a7, a8⟩, b, c⟩ := H
  have lo : ∀ k : Int, k < 10 ∨ 87 ≤ k → zdfs σ S n k = σ k := fun k hk => zdfs_o (by omega) n h7
  refine ⟨⟨by rw [a0, lo 0 (by decide)], by rw [a1, lo 1 (by decide)], by rw [a2, lo 2 (by decide)], by rw [a5, lo 145 (by decide)], by rw [a6, lo 9 (by decide)], by rw [a7, lo 5 (by decide)], fun q => ?_⟩, fun p hp => ?_, fun i hi => ?_⟩
  · rw [lo 0 (by decide)] at q
    rw [lo 6 (by decide), lo 7 (by decide)]
    exact a8 q
  · rw [zdfs_p h7 (q := p) (j := 4) (by decide) (by decide) (by decide), zdfs_p h7 (q := p) (j := 5) (by decide) (by decide) (by decide), zdfs_p h7 (q := p) (j := 7) (by decide) (by decide) (by decide), lo (138 + ((p : Nat) : Int)) (by omega)]
    exact b p hp
  · rw [lo (87 + 3 * ((i : Nat) : Int)) (by omega), lo (87 + 3 * ((i : Nat) : Int) + 1) (by omega), lo (87 + 3 * ((i : Nat) : Int) + 2) (by omega)]
    exact c i hi
theorem zdfs_L {l : Int} (H : zRL t l σ n) (h7 : n ≤ 7) : zRL t l (zdfs σ S n) n := by
  obtain ⟨b1, b2⟩ := H
  refine ⟨b1.trans (zfo_congr n (fun q hq => ?_)), fun q hq => ?_⟩
  · unfold zkn
    rw [zdfs_p h7 (by decide) (by decide) (by decide)]
  · rw [zdfs_p h7 (by decide) (by decide) (by decide), zdfs_p h7 (by decide) (by decide) (by decide), zdfs_p h7 (by decide) (by decide) (by decide)]
    exact b2 q hq
theorem zdfs_e (h7 : n ≤ 7) : zPe σ (zdfs σ S n) n := ⟨zdfs_o (by decide) n h7, fun p j _ j0 j1 => zdfs_p h7 j0 (by omega) (by omega), fun k hk => zdfs_o (by omega) n h7⟩
theorem zB_47 {G G0 : Nat} {R R0 : Int × zS} (hD : zgD bB s n m) (uC : ∀ z : zS, (∀ x, 240 ≤ x → x ≤ 263 → z x = s x) → z 237 1 = (if s 10 6 < 0 then -1 else 240 + 4 * s 10 6) → zRc z (s 10 6) U) (hp : p < n) (hK : K ≤ 100) (h : bB + 100 ≤ 999) (e0 : zG G0 xm_c42 0 [224, if s 10 6 < 0 then -1 else 240 + 4 * s 10 6] [] s R0) (e1 : zG G xm_c47 0 [224, ((p : Nat) : Int), ((K : Nat) : Int), 0, 0, 0] [] R0.2 R) : zBs (zsP (s 354) n m (s 10 6) U K p) (zand (zand (zw (zshl 1 ((n : Nat) : Int) - 1)) (zxor (s 24 0) (-1))) (zxor (zshl 1 ((p : Nat) : Int)) (-1))) 128 R.1 := by
  obtain ⟨⟨hH, hF, hL, -⟩, hG, hGt, -⟩ := hD
  have h7 := hG.1.2.1
  have gn : s 354 1 = ((n : Nat) : Int) := hG.1.1
  have f1 : s 19 1 = s 354 8 := hF.2.1
  obtain ⟨w, w1, ⟨w2, w3, w4⟩, w5, w6, w7⟩ := zo_prepR (s := s) (r := if s 10 6 < 0 then -1 else 240 + 4 * s 10 6)
  obtain ⟨r0, t0⟩ := R0
  obtain ⟨rfl, rfl⟩ := zdet e0 w1
  have hHw : zRH w 11 (s 354) n m := zRH_c hH (fun x x1 x2 => w7 x (by omega) (by omega))
  have h11 : s 11 1 = ((n : Nat) : Int) := hH.1.2.1.trans gn
  obtain ⟨F1, l1, r1, t1, q1, e2⟩ := zi_47_0 e1
  obtain ⟨v1, v2, v3, v4⟩ := zB_44 (s 10 6) U hG hK (by omega) hHw (w5 _ n h7 hF) q1
  have v1 : ∀ j : Nat, j < K → t1 234 ((j : Nat) : Int) = zlan (zPn (s 354) n m (s 10 6) U j) m n := v1
  have v2 : t1 224 7 = s 354 4 := v2
  have o : ∀ x, ¬ (224 ≤ x ∧ x ≤ 234) → x ≠ 237 → t1 x = s x := fun x x1 x2 => (v4 x (by omega) (by omega) (by omega)).trans (w7 x (by omega) x2)
  have o237 : t1 237 = w 237 := v4 237 (by decide) (by decide) (by decide)
  have e2 : zG F1 xm_c47 25 [224, ((p : Nat) : Int), ((K : Nat) : Int), zand (zand (zw (zshl 1 (w 11 1) - 1)) (zxor (w 24 0) (-1))) (zxor (zshl 1 ((p : Nat) : Int)) (-1)), 0, 0] [] t1 R := e2
  rw [w7 11 (by decide) (by decide), w7 24 (by decide) (by decide), h11] at e2
  obtain ⟨al, hal⟩ : ∃ al, al = zand (zand (zw (zshl 1 ((n : Nat) : Int) - 1)) (zxor (s 24 0) (-1))) (zxor (zshl 1 ((p : Nat) : Int)) (-1)) := ⟨_, rfl⟩
  rw [← hal] at e2 ⊢
  have loop : ∀ (G u i : Nat) (st : zS) (R : Int × zS), zCi (zsP (s 354) n m (s 10 6) U K p) al u i → (∀ x, x ≠ 237 → x ≠ 238 → x ≠ 239 → ¬ (230 ≤ x ∧ x ≤ 233) → st x = t1 x) → (st 237 1 = t1 237 1 ∧ st 237 2 = t1 237 2) → zG G xm_c47 29 [224, ((p : Nat) : Int), ((K : Nat) : Int), al, ((u : Nat) : Int), ((i : Nat) : Int)] [] st R → zBs (zsP (s 354) n m (s 10 6) U K p) al 128 R.1 := by
    intro G
    induction G using Nat.strongRecOn with
    | _ G ih =>
      intro u i st R H d dg e0
      have hu := H.1
      have i7 := zCi_i H
      obtain ⟨F1, l1, ⟨c1, e1⟩ | ⟨c1, e1⟩⟩ := zi_47_29 e0
      · exfalso
        clear ih H d dg uC v1 v2 v3 v4 o
        omega
      obtain ⟨F2, l2, ⟨c2, e2⟩ | ⟨c2, e2⟩⟩ := zi_47_32 e1
      · exfalso
        clear ih H d dg uC v1 v2 v3 v4 o
        omega
      obtain ⟨F3, l3, r3, s3, q3, e3⟩ := zi_47_35 e2
      obtain ⟨c, a1, a2, a3, a4⟩ := zo_cpL (s := st) (f := 230) (g := 24) (fun i j _ _ _ _ => by omega)
      obtain ⟨rfl, rfl⟩ := zdet q3 a1
      have c4 : c 11 4 = s 11 4 := by rw [a4 11 (by decide), d 11 (by decide) (by decide) (by decide) (by decide), o 11 (by decide) (by decide)]
      obtain ⟨F4, l4, r4, s4, q4, e4⟩ := zi_47_41 e3
      have e11 : c (224 + (-214) + 1) 4 = s 11 4 := c4
      rw [e11] at q4
      obtain ⟨e, he⟩ : ∃ e : zS, e = zu c 237 3 (zor (s 11 4) ((u : Nat) : Int)) := ⟨_, rfl⟩
      have q4 : zG F4 xm_c45 0 [224, ((0 : Nat) : Int), ((0 + K : Nat) : Int), 0] [] e (r4, s4) := by
        rw [he, Nat.zero_add]
        exact q4
      have eo : ∀ x, x ≠ 237 → e x = c x := fun x hx => by
        rw [he]
        exact funext (fun y => zu_cell hx)
      have es : ∀ x, x ≠ 237 → x ≠ 238 → x ≠ 239 → ¬ (224 ≤ x ∧ x ≤ 234) → e x = s x := fun x x1 x2 x3 x4 => by
        rw [eo x x1, a4 x (by omega), d x x1 x2 x3 (by omega), o x (by omega) x1]
      have et : ∀ x, x ≠ 237 → x ≠ 238 → x ≠ 239 → ¬ (230 ≤ x ∧ x ≤ 233) → e x = t1 x := fun x x1 x2 x3 x4 => by
        rw [eo x x1, a4 x (by omega), d x x1 x2 x3 x4]
      have e1' : e 237 1 = w 237 1 := by rw [he, zu_place (by decide), a4 237 (by decide), dg.1, o237]
      have e2' : e 237 2 = w 237 2 := by rw [he, zu_place (by decide), a4 237 (by decide), dg.2, o237]
      have hLe : zRL e 230 (s 354) n := zRL_c (zRL_cp h7 a2 a3 (zRL_c hL (fun x x1 x2 => by
        rw [d x (by omega) (by omega) (by omega) (by omega), o x (by omega) (by omega)]))) (fun x x1 x2 => eo x (by omega))
      obtain ⟨k1, k2⟩ := zB_45g (F := s 10 6) (U := U) (σ := zdfs (s 354) ((u : Nat) : Int) n) (o := 0) (K := K) (zdfs_G hG) (zdfs_t h7 hGt) (by clear ih H d dg uC v1 v2 v3 v4 o a2 a3 a4 eo es et; omega) (by clear ih H d dg uC v1 v2 v3 v4 o a2 a3 a4 eo es et; omega) (zdfs_H (zRH_w (zRH_c hH (fun x x1 x2 => es x (by omega) (by omega) (by omega) (by omega)))) h7) (zdfs_L hLe h7) (fun j hj => by
        rw [Nat.zero_add, et 234 (by decide) (by decide) (by decide) (by decide), v1 j hj]
        exact (zPe_ln h7 (zdfs_e h7) j).symm) (by
        rw [et 224 (by decide) (by decide) (by decide) (by decide), zdfs_o (k := 4) (by decide) n h7, v2]
        exact Int.add_zero _) (by
        rw [e2', w3, f1, zdfs_o (k := 8) (by decide) n h7]) (fun q hq => by
        rw [he, zu_hit, zbt_or, zdfs_6]
        have b2 : zbt (s 11 4) ((q : Nat) : Int) = zpe (s 354) ((q : Nat) : Int) 6 := (hH.2.1 q hq).2.2.2.2
        have b3 := zbt_01 (s 11 4) ((q : Nat) : Int)
        rw [b2] at b3 ⊢
        by_cases c : zbt ((u : Nat) : Int) ((q : Nat) : Int) = 1
        · rw [if_pos ⟨hq, c⟩, c]
          exact (zor_0 _ b3).2.2.1
        · rw [if_neg (fun z => c z.2), zbt_n c]
          exact (zor_0 _ b3).1) (fun z hz hz1 => uC z (fun x x1 x2 => by
        rw [hz x x1 x2, es x (by omega) (by omega) (by omega) (by omega)]) (by
        rw [hz1, e1', w2])) q4
      have k1 : zRL s4 230 (zPn (zdfs (s 354) ((u : Nat) : Int) n) n m (s 10 6) U K) n := k1
      have k2 : ∀ x, x ≠ 238 → x ≠ 239 → ¬ (230 ≤ x ∧ x ≤ 233) → s4 x = e x := k2
      have l04 : F4 < G := Nat.lt_trans l4 (Nat.lt_trans l3 (Nat.lt_trans l2 l1))
      obtain ⟨F5, l5, r5, s5, q5, e5⟩ := zi_47_54 e4
      obtain ⟨rfl, rfl⟩ := zdet q5 zo_bit
      have eb : zbt (s4 (224 + 6) 0) ((p : Nat) : Int) = if zkn (zPn (zdfs (s 354) ((u : Nat) : Int) n) n m (s 10 6) U K) p then 1 else 0 := by
        show zbt (s4 230 0) _ = _
        rw [k1.1, zbt_fo (Nat.lt_trans (Nat.lt_of_lt_of_le hp h7) (by decide)) n (Nat.le_trans h7 (by decide))]
        by_cases c : zkn (zPn (zdfs (s 354) ((u : Nat) : Int) n) n m (s 10 6) U K) p
        · rw [if_pos ⟨hp, c⟩, if_pos c]
        · rw [if_neg (fun q => c q.2), if_neg c]
      rw [eb] at e5
      obtain ⟨F6, l6, ⟨c6, e6⟩ | ⟨c6, e6⟩⟩ := zi_47_59 e5
      · rw [zi_47_60 e6]
        refine zCi_p H (fun q => ?_)
        rw [if_pos q] at c6
        exact absurd c6 (by decide)
      · have no : ¬ zsP (s 354) n m (s 10 6) U K p u := fun q => c6 (if_neg q)
        obtain ⟨F8, l8, r8, s8, q8, e8⟩ := zi_47_62 e6
        obtain ⟨z1, z2⟩ := zB_49 hu q8
        have z1 : s8 = s4 := z1
        have z2 : zNx al u r8 := z2
        subst z1
        obtain ⟨F9, l9, e9⟩ := zi_47_65 e8
        rcases z2 with ⟨y1, y2⟩ | ⟨v, y1, y2, y3, y4, y5⟩
        · have fin := zCi_e H no y2
          obtain ⟨F10, l10, ⟨c10, e10⟩ | ⟨c10, e10⟩⟩ := zi_47_29 e9
          · rw [zi_47_68 e10]
            exact fin
          · obtain ⟨F11, l11, ⟨c11, e11⟩ | ⟨c11, e11⟩⟩ := zi_47_32 e10
            · rw [zi_47_68 e11]
              exact fin
            · exact absurd y1 c11
        · have en : zw (((i : Nat) : Int) + 1) = ((i + 1 : Nat) : Int) := by
            clear ih H d dg uC v1 v2 v3 v4 o k1 k2 y4 y5 no a2 a3 a4 eo es et
            exact zw_id (by omega) (by omega)
          rw [y2, en] at e9
          refine ih F9 (Nat.lt_trans l9 (Nat.lt_trans l8 (Nat.lt_trans l6 (Nat.lt_trans l5 l04)))) v (i + 1) s8 R (zCi_s H no y1 y3 y4 y5) (fun x x1 x2 x3 x4 => by rw [k2 x x2 x3 x4, et x x1 x2 x3 x4]) ⟨?_, ?_⟩ e9
          · rw [k2 237 (by decide) (by decide) (by decide), e1', o237]
          · rw [k2 237 (by decide) (by decide) (by decide), e2', o237]
  obtain ⟨F5, l5, e5⟩ := zi_47_25 e2
  exact loop F5 0 0 t1 R zCi_0 (fun _ _ _ _ _ => rfl) ⟨rfl, rfl⟩ e5
end MR
