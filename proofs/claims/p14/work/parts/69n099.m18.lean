/-! starts: as it was at the beginning, in the reference -/
/-- as it was told, the first i persons at home -/
def zs0 (σ : Int → Int) (i : Nat) (k : Int) : Int := if 10 ≤ k ∧ k < 10 + 11 * ((i : Nat) : Int) then (if (k - 10) % 11 = 0 then σ (k + 4) else if (k - 10) % 11 = 1 then σ (k + 3) else if (k - 10) % 11 = 2 then 0 else if (k - 10) % 11 = 3 then σ (138 + (k - 10) / 11) else if (k - 10) % 11 = 8 then -1 else if (k - 10) % 11 = 9 then 0 else if (k - 10) % 11 = 10 then -1 else σ k) else if k = 4 then 0 else if k = 8 then σ 145 else σ k
/-- one has started it at that bell -/
def zst1 (σ : Int → Int) (n m : Nat) (F : Int) (U : (Int → Int) → Int) (p b : Nat) : Int → Int := zuq (zPn (zs0 σ n) n m F U b) ((p : Nat) : Int) ((b : Nat) : Int) 0 (-1)
/-- and it is now -/
def zfin (σ : Int → Int) (n m : Nat) (F : Int) (U : (Int → Int) → Int) (B p b : Nat) : Int → Int := zPn (zst1 σ n m F U p b) n m F U (B - b)
section MT
variable {bB : Int} {σ τ : Int → Int} {n m K B : Nat} {F : Int} {U : (Int → Int) → Int} {s t : zS} {a c x y f h : Int} {p q b i : Nat}
theorem zs0_o {k : Int} (h : ¬ (10 ≤ k ∧ k < 10 + 11 * ((i : Nat) : Int))) (h4 : k ≠ 4) (h8 : k ≠ 8) : zs0 σ i k = σ k := by
  unfold zs0
  rw [if_neg h, if_neg h4, if_neg h8]
theorem zs0_4 : zs0 σ i 4 = 0 := by
  unfold zs0
  rw [if_neg (by omega), if_pos rfl]
theorem zs0_8 : zs0 σ i 8 = σ 145 := by
  unfold zs0
  rw [if_neg (by omega), if_neg (by decide), if_pos rfl]
theorem zs0_0 : zs0 σ 0 = fun k => if k = 4 then 0 else if k = 8 then σ 145 else σ k := by
  funext k
  unfold zs0
  rw [if_neg (by omega)]
theorem zs0_p {j : Int} (hq : q < i) (j0 : 0 ≤ j) (j1 : j ≤ 10) : zpe (zs0 σ i) ((q : Nat) : Int) j = if j = 0 then zpe σ ((q : Nat) : Int) 4 else if j = 1 then zpe σ ((q : Nat) : Int) 4 else if j = 2 then 0 else if j = 3 then σ (138 + ((q : Nat) : Int)) else if j = 8 then -1 else if j = 9 then 0 else if j = 10 then -1 else zpe σ ((q : Nat) : Int) j := by
  have e1 : (10 + 11 * ((q : Nat) : Int) + j - 10) % 11 = j := by omega
  have e2 : (10 + 11 * ((q : Nat) : Int) + j - 10) / 11 = ((q : Nat) : Int) := by omega
  have e3 : 10 ≤ 10 + 11 * ((q : Nat) : Int) + j ∧ 10 + 11 * ((q : Nat) : Int) + j < 10 + 11 * ((i : Nat) : Int) := by omega
  show zs0 σ i (10 + 11 * ((q : Nat) : Int) + j) = _
  unfold zs0
  rw [if_pos e3, e1, e2]
  by_cases c0 : j = 0
  · rw [if_pos c0, if_pos c0]
    show σ (10 + 11 * ((q : Nat) : Int) + j + 4) = σ (10 + 11 * ((q : Nat) : Int) + 4)
    rw [c0, Int.add_zero]
  · rw [if_neg c0, if_neg c0]
    by_cases c1 : j = 1
    · rw [if_pos c1, if_pos c1]
      show σ (10 + 11 * ((q : Nat) : Int) + j + 3) = σ (10 + 11 * ((q : Nat) : Int) + 4)
      have e : 10 + 11 * ((q : Nat) : Int) + j + 3 = 10 + 11 * ((q : Nat) : Int) + 4 := by omega
      rw [e]
    · rw [if_neg c1, if_neg c1]
      rfl
theorem zs0_h {j : Int} (j0 : 4 ≤ j) (j1 : j ≤ 7) : zpe (zs0 σ i) ((q : Nat) : Int) j = zpe σ ((q : Nat) : Int) j := by
  by_cases c : q < i
  · rw [zs0_p c (by omega) (by omega), if_neg (by omega), if_neg (by omega), if_neg (by omega), if_neg (by omega), if_neg (by omega), if_neg (by omega), if_neg (by omega)]
  · show zs0 σ i (10 + 11 * ((q : Nat) : Int) + j) = σ (10 + 11 * ((q : Nat) : Int) + j)
    exact zs0_o (by omega) (by omega) (by omega)
theorem zs0_st (h7 : n ≤ 7) {k : Int} (hk : zst k ∨ 87 ≤ k) : zs0 σ n k = σ k := by
  by_cases c : 10 ≤ k ∧ k < 10 + 11 * ((n : Nat) : Int)
  · obtain ⟨q, hq⟩ := Int.eq_ofNat_of_zero_le (show 0 ≤ (k - 10) / 11 by omega)
    obtain ⟨j, hj⟩ : ∃ j : Int, j = (k - 10) % 11 := ⟨_, rfl⟩
    have ek : k = 10 + 11 * ((q : Nat) : Int) + j := by omega
    have j47 : 4 ≤ j ∧ j ≤ 7 := by
      unfold zst at hk
      omega
    rw [ek]
    exact zs0_h j47.1 j47.2
  · refine zs0_o c ?_ ?_
    · unfold zst at hk
      omega
    · unfold zst at hk
      omega
/-- a person more is at home -/
theorem zs0_s (h : s 354 = zs0 σ i) : (zu (zu (zu (zu (zu (zu (zu s 354 (10 + 11 * ((i : Nat) : Int)) (zpe σ ((i : Nat) : Int) 4)) 354 (10 + 11 * ((i : Nat) : Int) + 1) (zpe σ ((i : Nat) : Int) 4)) 354 (10 + 11 * ((i : Nat) : Int) + 2) 0) 354 (10 + 11 * ((i : Nat) : Int) + 3) (σ (138 + ((i : Nat) : Int)))) 354 (10 + 11 * ((i : Nat) : Int) + 8) (-1)) 354 (10 + 11 * ((i : Nat) : Int) + 9) 0) 354 (10 + 11 * ((i : Nat) : Int) + 10) (-1)) 354 = zs0 σ (i + 1) := by
  funext k
  rw [zu2, zu2, zu2, zu2, zu2, zu2, zu2, h]
  by_cases c : 10 + 11 * ((i : Nat) : Int) ≤ k ∧ k ≤ 10 + 11 * ((i : Nat) : Int) + 10
  · obtain ⟨j, hj⟩ : ∃ j : Int, j = k - (10 + 11 * ((i : Nat) : Int)) := ⟨_, rfl⟩
    have hk : k = 10 + 11 * ((i : Nat) : Int) + j := by omega
    have q := zs0_p (σ := σ) (i := i + 1) (q := i) (j := j) (Nat.lt_succ_self i) (by omega) (by omega)
    have q2 : zs0 σ (i + 1) k = zpe (zs0 σ (i + 1)) ((i : Nat) : Int) j := by
      rw [hk]
      rfl
    have z : zs0 σ i k = zpe σ ((i : Nat) : Int) j := by
      rw [zs0_o (by omega) (by omega) (by omega), hk]
      rfl
    rw [q2, q, z]
    clear q q2 z h
    repeat' split
    all_goals first | rfl | omega
  · rw [if_neg (by omega), if_neg (by omega), if_neg (by omega), if_neg (by omega), if_neg (by omega), if_neg (by omega), if_neg (by omega)]
    unfold zs0
    by_cases d : 10 ≤ k ∧ k < 10 + 11 * ((i : Nat) : Int)
    · rw [if_pos d, if_pos (show 10 ≤ k ∧ k < 10 + 11 * ((i + 1 : Nat) : Int) by omega)]
    · rw [if_neg d, if_neg (show ¬ (10 ≤ k ∧ k < 10 + 11 * ((i + 1 : Nat) : Int)) by omega)]
theorem zGs_4 {b' : Int} (H : zGs bB σ n m) (h : σ 4 ≤ b') : zGs b' σ n m := by
  obtain ⟨⟨g1, g2, g3, g4, g5, g6, g7, g8, g9, -⟩, gp, ge⟩ := H
  exact ⟨⟨g1, g2, g3, g4, g5, g6, g7, g8, g9, h⟩, gp, ge⟩
theorem zs0_G (H : zGs bB σ n m) : zGs 0 (zs0 σ n) n m := by
  have h7 := H.1.2.1
  have b0 : 0 ≤ bB := Int.le_trans H.1.2.2.2.2.2.2.2.1 H.1.2.2.2.2.2.2.2.2.2
  refine zGs_4 (zGs_s H (fun k hk => zs0_st h7 hk) (by rw [zs0_4]; exact ⟨by decide, by decide, b0⟩) (fun q hq => ?_)) (by rw [zs0_4]; decide)
  obtain ⟨d0, d1, d3, d4, d5, d6, d7, -⟩ := H.2.1 q hq
  have e0 : zpe (zs0 σ n) ((q : Nat) : Int) 0 = zpe σ ((q : Nat) : Int) 4 := by rw [zs0_p hq (by decide) (by decide), if_pos rfl]
  have e1 : zpe (zs0 σ n) ((q : Nat) : Int) 1 = zpe σ ((q : Nat) : Int) 4 := by rw [zs0_p hq (by decide) (by decide), if_neg (by decide), if_pos rfl]
  have e3 : zpe (zs0 σ n) ((q : Nat) : Int) 3 = σ (138 + ((q : Nat) : Int)) := by rw [zs0_p hq (by decide) (by decide), if_neg (by decide), if_neg (by decide), if_neg (by decide), if_pos rfl]
  have e8 : zpe (zs0 σ n) ((q : Nat) : Int) 8 = -1 := by rw [zs0_p hq (by decide) (by decide), if_neg (by decide), if_neg (by decide), if_neg (by decide), if_neg (by decide), if_pos rfl]
  rw [e0, e1, e3, e8]
  exact ⟨d4, d4, d7, fun z => absurd rfl z, by decide⟩
theorem zs0_n (hq : q < n) : ¬ zkn (zs0 σ n) q := fun z => z (by
  rw [zs0_p hq (by decide) (by decide), if_neg (by decide), if_neg (by decide), if_neg (by decide), if_neg (by decide), if_pos rfl]
  decide)
theorem zPn_add (n m : Nat) (F : Int) (U : (Int → Int) → Int) (b : Nat) : ∀ j : Nat, zPn σ n m F U (b + j) = zPn (zPn σ n m F U b) n m F U j
  | 0 => rfl
  | j + 1 => by
    show zPo (zPn σ n m F U (b + j)) n m F U = zPo (zPn (zPn σ n m F U b) n m F U j) n m F U
    rw [zPn_add n m F U b j]
theorem zuq_G {v : Int} (H : zGs bB σ n m) (hp : p < n) (v0 : 0 ≤ v) (v1 : v ≤ 2000) : zGs bB (zuq σ ((p : Nat) : Int) v 0 (-1)) n m := by
  have h7 := H.1.2.1
  have pk : ∀ (q : Nat) (j : Int), 0 ≤ j → j ≤ 7 → zpe (zuq σ ((p : Nat) : Int) v 0 (-1)) ((q : Nat) : Int) j = zpe σ ((q : Nat) : Int) j := fun q j j0 j1 => by
    show zuq σ ((p : Nat) : Int) v 0 (-1) (10 + 11 * ((q : Nat) : Int) + j) = σ (10 + 11 * ((q : Nat) : Int) + j)
    exact zuq_o (by omega)
  refine zGs_s H (fun k hk => ?_) ?_ (fun q hq => ?_)
  · refine zuq_o ?_
    unfold zst at hk
    clear pk H
    omega
  · rw [zuq_o (by omega)]
    exact H.1.2.2.2.2.2.2.2
  · obtain ⟨d0, d1, d3, d4, d5, d6, -⟩ := H.2.1 q hq
    rw [pk q 0 (by decide) (by decide), pk q 1 (by decide) (by decide), pk q 2 (by decide) (by decide), pk q 3 (by decide) (by decide)]
    refine ⟨d0, d1, d3, d5, ?_⟩
    by_cases e : q = p
    · rw [e, zuq_8]
      omega
    · have z : zpe (zuq σ ((p : Nat) : Int) v 0 (-1)) ((q : Nat) : Int) 8 = zpe σ ((q : Nat) : Int) 8 := zuq_o (by omega)
      rw [z]
      exact d6
theorem zst1_G (H : zGs bB σ n m) (hp : p < n) (hb : b ≤ 40) : zGs ((b : Nat) : Int) (zst1 σ n m F U p b) n m := by
  have g := zPn_G (F := F) (U := U) (zs0_G H) (K := b) (by omega) b (Nat.le_refl b)
  rw [Int.zero_add] at g
  exact zuq_G g hp (Int.natCast_nonneg b) (by omega)
theorem zst1_4 (H : zGs bB σ n m) (hb : b ≤ 40) : zPn (zs0 σ n) n m F U b 4 = ((b : Nat) : Int) := by
  have e := zPn_4 (F := F) (U := U) (zs0_G H) (K := b) (by omega) b (Nat.le_refl b)
  rw [e, zs0_4, Int.zero_add]
theorem zs_ix {i : Nat} (i6 : ((i : Nat) : Int) ≤ 6) : zw (10 + zw (11 * ((i : Nat) : Int))) = 10 + 11 * ((i : Nat) : Int) ∧ (∀ k : Int, 0 ≤ k → k ≤ 10 → zw (10 + 11 * ((i : Nat) : Int) + k) = 10 + 11 * ((i : Nat) : Int) + k) ∧ zw (138 + ((i : Nat) : Int)) = 138 + ((i : Nat) : Int) ∧ zw (((i : Nat) : Int) + 1) = ((i + 1 : Nat) : Int) := by
  refine ⟨?_, fun k k0 k1 => zw_id (by omega) (by omega), zw_id (by omega) (by omega), zw_id (by omega) (by omega)⟩
  rw [zw_id (x := 11 * ((i : Nat) : Int)) (by omega) (by omega), zw_id (by omega) (by omega)]
theorem zs_w {u : zS} {i : Nat} (i6 : ((i : Nat) : Int) ≤ 6) (a1 : u 354 = zs0 σ i) : u (344 + 10) (10 + 11 * ((i : Nat) : Int) + 4) = zpe σ ((i : Nat) : Int) 4 ∧ (∀ v : Int, zu u (344 + 10) (10 + 11 * ((i : Nat) : Int)) v (344 + 10) (10 + 11 * ((i : Nat) : Int) + 4) = zpe σ ((i : Nat) : Int) 4) ∧ ∀ v v2 v3 : Int, zu (zu (zu u (344 + 10) (10 + 11 * ((i : Nat) : Int)) v) (344 + 10) (10 + 11 * ((i : Nat) : Int) + 1) v2) (344 + 10) (10 + 11 * ((i : Nat) : Int) + 2) v3 (344 + 10) (138 + ((i : Nat) : Int)) = σ (138 + ((i : Nat) : Int)) := by
  have v4 : u 354 (10 + 11 * ((i : Nat) : Int) + 4) = zpe σ ((i : Nat) : Int) 4 := by
    rw [a1]
    exact zs0_h (by decide) (by decide)
  have v138 : u 354 (138 + ((i : Nat) : Int)) = σ (138 + ((i : Nat) : Int)) := by
    rw [a1, zs0_o (by omega) (by omega) (by omega)]
  exact ⟨v4, fun v => (zu_place (by omega)).trans v4, fun v v2 v3 => (zu_place (by omega)).trans ((zu_place (by omega)).trans ((zu_place (by omega)).trans v138))⟩
theorem zne354 {x : Int} (x1 : 346 ≤ x) (x2 : x ≤ 349) : x ≠ 354 := by omega
theorem zB_219 {G : Nat} {R : Int × zS} {z : zS} (H : zGs bB σ n m) (hU : ¬ F < 0 → zRu z F U) (hp : p < n) (hb : b ≤ 40) (hB : B ≤ 999) (hbB : b ≤ B) (e0 : zG G xm_c219 0 [344, ((p : Nat) : Int), ((b : Nat) : Int), ((B : Nat) : Int), 0, 0] [] t R) (a : t 354 = σ) (b0 : t 344 21 = F) (c0 : ∀ x, 346 ≤ x → x ≤ 349 → t x = z x) : R.2 354 = zfin σ n m F U B p b := by
  have h7 := H.1.2.1
  have gn := H.1.1
  have p6 : ((p : Nat) : Int) ≤ 6 := by
    clear H hU c0 e0
    omega
  -- all are at home
  have home : ∀ (G i : Nat) (x5 : Int) (u : zS) (R : Int × zS), i ≤ n → u 354 = zs0 σ i → u 344 21 = F → (∀ x, 346 ≤ x → x ≤ 349 → u x = z x) → zG G xm_c219 15 [344, ((p : Nat) : Int), ((b : Nat) : Int), ((B : Nat) : Int), ((i : Nat) : Int), x5] [] u R → ∃ (F' : Nat) (u' : zS) (x4 x5' : Int), u' 354 = zs0 σ n ∧ u' 344 21 = F ∧ (∀ x, 346 ≤ x → x ≤ 349 → u' x = z x) ∧ zG F' xm_c219 91 [344, ((p : Nat) : Int), ((b : Nat) : Int), ((B : Nat) : Int), x4, x5'] [] u' R := by
    intro G
    induction G using Nat.strongRecOn with
    | _ G ih =>
      intro i x5 u R hi a1 b1 c1 e0
      have u1 : u 354 1 = ((n : Nat) : Int) := by
        rw [a1, zs0_o (by omega) (by decide) (by decide), gn]
      obtain ⟨F1, l1, ⟨d1, e1⟩ | ⟨d1, e1⟩⟩ := zi_219_15 e0
      · have d1 : ((i : Nat) : Int) < u 354 1 := d1
        have iL : i < n := by
          rw [u1] at d1
          exact Int.ofNat_lt.mp d1
        have i6 : ((i : Nat) : Int) ≤ 6 := by
          clear ih d1 H hU c1 c0 a1 u1
          omega
        obtain ⟨z0, zc, z138, en⟩ := zs_ix i6
        obtain ⟨v4', w4, w138⟩ := zs_w i6 a1
        obtain ⟨F2, l2, e2⟩ := zi_219_21 e1
        rw [z0, zc 1 (by decide) (by decide), zc 2 (by decide) (by decide), zc 3 (by decide) (by decide), zc 4 (by decide) (by decide), zc 8 (by decide) (by decide), zc 9 (by decide) (by decide), zc 10 (by decide) (by decide), z138, en] at e2
        rw [v4', w4, w138] at e2
        have oo : ∀ x, x ≠ 354 → (zu (zu (zu (zu (zu (zu (zu u 354 (10 + 11 * ((i : Nat) : Int)) (zpe σ ((i : Nat) : Int) 4)) 354 (10 + 11 * ((i : Nat) : Int) + 1) (zpe σ ((i : Nat) : Int) 4)) 354 (10 + 11 * ((i : Nat) : Int) + 2) 0) 354 (10 + 11 * ((i : Nat) : Int) + 3) (σ (138 + ((i : Nat) : Int)))) 354 (10 + 11 * ((i : Nat) : Int) + 8) (-1)) 354 (10 + 11 * ((i : Nat) : Int) + 9) 0) 354 (10 + 11 * ((i : Nat) : Int) + 10) (-1)) x = u x := fun x hx => funext (fun y => by rw [zu_cell hx, zu_cell hx, zu_cell hx, zu_cell hx, zu_cell hx, zu_cell hx, zu_cell hx])
        exact ih F2 (Nat.lt_trans l2 l1) (i + 1) _ _ R iL (zs0_s a1) (by rw [oo 344 (by decide)]; exact b1) (fun x x1 x2 => by rw [oo x (zne354 x1 x2)]; exact c1 x x1 x2) e2
      · have d1 : ¬ ((i : Nat) : Int) < u 354 1 := d1
        have iL : i = n := by
          rw [u1] at d1
          exact Nat.le_antisymm hi (Nat.not_lt.mp (fun q => d1 (Int.ofNat_lt.mpr q)))
        rw [iL] at a1
        exact ⟨F1, u, _, _, a1, b1, c1, e1⟩
  obtain ⟨F1, l1, e1⟩ := zi_219_0 e0
  obtain ⟨F2, u, x4, x5, a2, b2, c2, e2⟩ := home F1 0 0 _ R (Nat.zero_le n) (by
    rw [zs0_0]
    funext k
    have V : zu t 354 4 0 354 145 = σ 145 := by rw [zu_place (by decide), a]
    show zu (zu t 354 4 0) 354 8 (zu t 354 4 0 354 145) 354 k = (if k = 4 then 0 else if k = 8 then σ 145 else σ k)
    rw [V, zu2, zu2, a]
    by_cases k8 : k = 8
    · rw [if_pos k8, if_neg (by omega), if_pos k8]
    · rw [if_neg k8]
      by_cases k4 : k = 4
      · rw [if_pos k4, if_pos k4]
      · rw [if_neg k4, if_neg k4, if_neg k8]) (by
    rw [zu_cell (by decide), zu_cell (by decide)]
    exact b0) (fun x x1 x2 => by
    rw [← c0 x x1 x2]
    exact funext (fun y => by rw [zu_cell (by omega), zu_cell (by omega)])) e1
  obtain ⟨F3, l3, r3, s3, q3, e3⟩ := zi_219_91 e2
  have hb9 : (0 : Int) + ((b : Nat) : Int) ≤ 999 := by omega
  obtain ⟨m1, m2, m3⟩ := zB_209 (zs0_G H) hb9 hU q3 a2 b2 c2
  have m1 : s3 354 = zPn (zs0 σ n) n m F U b := m1
  obtain ⟨F4, l4, r4, s4, q4, e4⟩ := zi_219_94 e3
  obtain ⟨t', y1, y2, y3⟩ := zr_201 (t := s3) (x := ((p : Nat) : Int)) (y := 0) (Int.natCast_nonneg p) p6
  obtain ⟨rfl, rfl⟩ := zdet q4 y1
  have a4 : t' 354 = zst1 σ n m F U p b := by
    rw [y2, m1, zst1_4 H hb]
    rfl
  obtain ⟨F5, l5, r5, s5, q5, e5⟩ := zi_219_98 e4
  have ez : zw (((B : Nat) : Int) - ((b : Nat) : Int)) = ((B - b : Nat) : Int) := by
    clear H hU c0 home
    rw [zw_id (by omega) (by omega)]
    omega
  rw [ez] at q5
  have hB9 : ((b : Nat) : Int) + ((B - b : Nat) : Int) ≤ 999 := by
    clear H hU c0 home
    omega
  obtain ⟨n1, n2, n3⟩ := zB_209 (zst1_G H hp hb) hB9 hU q5 a4 (by rw [y3 344 (by decide)]; exact m2) (fun x x1 x2 => by rw [y3 x (by omega)]; exact m3 x x1 x2)
  rw [zi_219_103 e5]
  exact n1
end MT
