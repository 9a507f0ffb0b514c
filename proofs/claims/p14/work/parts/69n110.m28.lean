/-! look, on both sides -/
/-- who is the first to leave the fewest alike, of the first persons, and how many -/
def zbs (w : Nat → Int) : Nat → Int × Int
  | 0 => (-2, -2)
  | p + 1 => if (zbs w p).1 < 0 ∨ w p < (zbs w p).2 then (((p : Nat) : Int), w p) else zbs w p
/-- how many a person's answer leaves alike -/
def zwk (A : Nat × Nat → Nat → Int) (L : List (Nat × Nat)) (p : Nat) : Int := zmkk (fun i => A (znt L i) p) L.length
/-- what look answers of a list -/
def zlka (A : Nat × Nat → Nat → Int) (L : List (Nat × Nat)) (n : Nat) (y : Int) : Int := if L.length = 0 then -2 else if y = 0 then (zbs (zwk A L) n).1 else (zbs (zwk A L) n).2
section NL
variable {bB : Int} {σ τ : Int → Int} {n m K B M : Nat} {F : Int} {U : (Int → Int) → Int} {s t z : zS} {a c x y f h : Int} {p q b i : Nat} {A : Nat × Nat → Nat → Int} {L : List (Nat × Nat)} {w : Nat → Int}
theorem zbs_p : ∀ p : Nat, p ≠ 0 → 0 ≤ (zbs w p).1
  | 0, h => absurd rfl h
  | p + 1, _ => by
    show 0 ≤ (if (zbs w p).1 < 0 ∨ w p < (zbs w p).2 then (((p : Nat) : Int), w p) else zbs w p).1
    by_cases c : (zbs w p).1 < 0 ∨ w p < (zbs w p).2
    · rw [if_pos c]
      exact Int.natCast_nonneg p
    · rw [if_neg c]
      exact Int.not_lt.mp (fun q => c (Or.inl q))
theorem zB_52 {G : Nat} {R : Int × zS} (h7 : n ≤ 7) (n0 : n ≠ 0) (h11 : t 11 1 = ((n : Nat) : Int)) (hC : zCL A n t L) (hl : L.length ≤ 287) (hv : ∀ i p : Nat, i < L.length → p < n → A (znt L i) p = -1000 ∨ (-54 ≤ A (znt L i) p ∧ A (znt L i) p ≤ 54)) (e0 : zG G xm_c52 0 [224, 0, 0, 0] [] t R) : R.1 = (zbs (zwk A L) n).1 ∧ R.2 224 11 = (zbs (zwk A L) n).2 := by
  have loop : ∀ (G p : Nat) (best x3 : Int) (u : zS) (R : Int × zS), p ≤ n → ((p = 0 ∧ best = -1) ∨ (p ≠ 0 ∧ best = (zbs (zwk A L) p).1 ∧ u 224 11 = (zbs (zwk A L) p).2)) → zCL A n u L → u 11 1 = ((n : Nat) : Int) → zG G xm_c52 4 [224, best, ((p : Nat) : Int), x3] [] u R → R.1 = (zbs (zwk A L) n).1 ∧ R.2 224 11 = (zbs (zwk A L) n).2 := by
    intro G
    induction G using Nat.strongRecOn with
    | _ G ih =>
      intro p best x3 u R hp hI hC u1 e0
      obtain ⟨F1, l1, ⟨c1, e1⟩ | ⟨c1, e1⟩⟩ := zi_52_4 e0
      · have c1 : ((p : Nat) : Int) < u 11 1 := c1
        have pL : p < n := by
          rw [u1] at c1
          exact Int.ofNat_lt.mp c1
        have en : zw (((p : Nat) : Int) + 1) = ((p + 1 : Nat) : Int) := by
          clear ih hC c1 hv
          exact zw_id (by omega) (by omega)
        obtain ⟨F2, l2, r2, s2, q2, e2⟩ := zi_52_10 e1
        obtain ⟨x1, x2⟩ := zB_53 h7 pL hC hl (fun i hi => hv i p hi pL) q2
        have x1 : r2 = zwk A L p := x1
        have x2 : ∀ x, x ≠ 236 → s2 x = u x := x2
        have C2 : zCL A n s2 L := by
          unfold zCL at hC ⊢
          rw [x2 224 (by decide), x2 235 (by decide)]
          exact hC
        have eS : zbs (zwk A L) (p + 1) = if (zbs (zwk A L) p).1 < 0 ∨ zwk A L p < (zbs (zwk A L) p).2 then (((p : Nat) : Int), zwk A L p) else zbs (zwk A L) p := rfl
        have lt2 : F2 < G := Nat.lt_trans l2 l1
        have put : ∀ F4, F4 < G → ((zbs (zwk A L) p).1 < 0 ∨ zwk A L p < (zbs (zwk A L) p).2) → zG F4 xm_c52 21 [224, best, ((p : Nat) : Int), r2] [] s2 R → R.1 = (zbs (zwk A L) n).1 ∧ R.2 224 11 = (zbs (zwk A L) n).2 := fun F4 l4 d e4 => by
          obtain ⟨F5, l5, e5⟩ := zi_52_21 e4
          rw [en] at e5
          refine ih F5 (Nat.lt_trans l5 l4) (p + 1) _ _ _ R pL (Or.inr ⟨Nat.succ_ne_zero p, ?_, ?_⟩) ?_ ?_ e5
          · rw [eS, if_pos d]
          · rw [eS, if_pos d, zu_hit, x1]
          · obtain ⟨z1, z2, z3⟩ := C2
            refine ⟨?_, fun q => ⟨?_, ?_⟩, fun i q hi hq => ?_⟩
            · rw [zu_place (by decide)]
              exact z1
            · rw [zu_place (by decide)]
              exact (z2 q).1
            · rw [zu_place (by decide)]
              exact (z2 q).2
            · rw [zu_cell (by decide)]
              exact z3 i q hi hq
          · rw [zu_cell (by decide), x2 11 (by decide)]
            exact u1
        obtain ⟨F3, l3, ⟨c3, e3⟩ | ⟨c3, e3⟩⟩ := zi_52_13 e2
        · refine put F3 (Nat.lt_trans l3 lt2) ?_ e3
          rcases hI with ⟨d1, d2⟩ | ⟨d1, d2, d3⟩
          · rw [d1]
            exact Or.inl (show (-2 : Int) < 0 by decide)
          · exfalso
            have d := zbs_p (w := zwk A L) p d1
            rw [← d2, c3] at d
            exact absurd d (by decide)
        · rcases hI with ⟨d1, d2⟩ | ⟨d1, d2, d3⟩
          · exact absurd d2 c3
          · obtain ⟨F4, l4, ⟨c4, e4⟩ | ⟨c4, e4⟩⟩ := zi_52_17 e3
            · refine put F4 (Nat.lt_trans l4 (Nat.lt_trans l3 lt2)) (Or.inr ?_) e4
              rw [x2 224 (by decide), d3, x1] at c4
              exact c4
            · rw [x2 224 (by decide), d3, x1] at c4
              obtain ⟨F5, l5, e5⟩ := zi_52_26 e4
              rw [en] at e5
              have d := zbs_p (w := zwk A L) p d1
              have no : ¬ ((zbs (zwk A L) p).1 < 0 ∨ zwk A L p < (zbs (zwk A L) p).2) := fun q => q.elim (fun g => absurd g (Int.not_lt.mpr d)) c4
              refine ih F5 (Nat.lt_trans l5 (Nat.lt_trans l4 (Nat.lt_trans l3 lt2))) (p + 1) _ _ _ R pL (Or.inr ⟨Nat.succ_ne_zero p, ?_, ?_⟩) C2 ?_ e5
              · rw [eS, if_neg no]
                exact d2
              · rw [eS, if_neg no, x2 224 (by decide)]
                exact d3
              · rw [x2 11 (by decide)]
                exact u1
      · have c1 : ¬ ((p : Nat) : Int) < u 11 1 := c1
        have pL : p = n := by
          rw [u1] at c1
          exact Nat.le_antisymm hp (Nat.not_lt.mp (fun q => c1 (Int.ofNat_lt.mpr q)))
        rw [zi_52_28 e1]
        rw [pL] at hI
        rcases hI with ⟨d1, -⟩ | ⟨d1, d2, d3⟩
        · exact absurd d1 n0
        · exact ⟨d2, d3⟩
  obtain ⟨F1, l1, e1⟩ := zi_52_0 e0
  exact loop F1 0 (-1) 0 t R (Nat.zero_le n) (Or.inl ⟨rfl, rfl⟩) hC h11 e1
theorem zB_223 {G : Nat} {R : Int × zS} (h7 : n ≤ 7) (hp : p < n) (hC : zML A n t L) (hl : L.length ≤ 287) (e0 : zG G xm_c223 0 [344, ((p : Nat) : Int), 0, 0, 0, 0] [] t R) : R = (zwk A L p, t) := by
  obtain ⟨C1, -, C3⟩ := hC
  have inner : ∀ (G a b : Nat) (most : Int) (R : Int × zS), a < L.length → b ≤ L.length → zG G xm_c223 12 [344, ((p : Nat) : Int), most, ((a : Nat) : Int), zct (fun j => A (znt L j) p = A (znt L a) p) b, ((b : Nat) : Int)] [] t R → ∃ (F' : Nat) (x5 : Int), F' < G ∧ zG F' xm_c223 41 [344, ((p : Nat) : Int), most, ((a : Nat) : Int), zct (fun j => A (znt L j) p = A (znt L a) p) L.length, x5] [] t R := by
    intro G
    induction G using Nat.strongRecOn with
    | _ G ih =>
      intro a b most R ha hb e0
      obtain ⟨F1, l1, ⟨c1, e1⟩ | ⟨c1, e1⟩⟩ := zi_223_12 e0
      · have c1 : ((b : Nat) : Int) < t 344 30 := c1
        have bL : b < L.length := by
          rw [C1] at c1
          exact Int.ofNat_lt.mp c1
        have en : zw (((b : Nat) : Int) + 1) = ((b + 1 : Nat) : Int) := by
          clear ih C3 c1
          exact zw_id (by omega) (by omega)
        have ea : zw (zw (7 * ((a : Nat) : Int)) + ((p : Nat) : Int)) = 7 * ((a : Nat) : Int) + ((p : Nat) : Int) := by
          clear ih C3 c1
          rw [zw_id (x := 7 * ((a : Nat) : Int)) (by omega) (by omega), zw_id (by omega) (by omega)]
        have eb : zw (zw (7 * ((b : Nat) : Int)) + ((p : Nat) : Int)) = 7 * ((b : Nat) : Int) + ((p : Nat) : Int) := by
          clear ih C3 c1
          rw [zw_id (x := 7 * ((b : Nat) : Int)) (by omega) (by omega), zw_id (by omega) (by omega)]
        have va : t (344 + 15) (7 * ((a : Nat) : Int) + ((p : Nat) : Int)) = A (znt L a) p := C3 a p ha hp
        have vb : t (344 + 15) (7 * ((b : Nat) : Int) + ((p : Nat) : Int)) = A (znt L b) p := C3 b p bL hp
        have cr := zct_r (P := fun j => A (znt L j) p = A (znt L a) p) b
        have cs : zct (fun j => A (znt L j) p = A (znt L a) p) (b + 1) = zct (fun j => A (znt L j) p = A (znt L a) p) b + (if A (znt L b) p = A (znt L a) p then 1 else 0) := rfl
        obtain ⟨F2, l2, w2⟩ := zi_223_16 e1
        rw [ea, eb, va, vb] at w2
        rcases w2 with ⟨c2, e2⟩ | ⟨c2, e2⟩
        · obtain ⟨F3, l3, e3⟩ := zi_223_34 e2
          have ew : zw (zct (fun j => A (znt L j) p = A (znt L a) p) b + 1) = zct (fun j => A (znt L j) p = A (znt L a) p) (b + 1) := by
            rw [cs, if_pos c2]
            clear ih C3 c1 cs e3
            exact zw_id (by omega) (by omega)
          rw [ew, en] at e3
          obtain ⟨F', x5, z1, z2⟩ := ih F3 (Nat.lt_trans l3 (Nat.lt_trans l2 l1)) a (b + 1) most R ha bL e3
          exact ⟨F', x5, Nat.lt_trans z1 (Nat.lt_trans l3 (Nat.lt_trans l2 l1)), z2⟩
        · obtain ⟨F3, l3, e3⟩ := zi_223_36 e2
          have ew : zw (zct (fun j => A (znt L j) p = A (znt L a) p) b + 0) = zct (fun j => A (znt L j) p = A (znt L a) p) (b + 1) := by
            rw [cs, if_neg c2]
            clear ih C3 c1 cs e3
            exact zw_id (by omega) (by omega)
          rw [ew, en] at e3
          obtain ⟨F', x5, z1, z2⟩ := ih F3 (Nat.lt_trans l3 (Nat.lt_trans l2 l1)) a (b + 1) most R ha bL e3
          exact ⟨F', x5, Nat.lt_trans z1 (Nat.lt_trans l3 (Nat.lt_trans l2 l1)), z2⟩
      · have c1 : ¬ ((b : Nat) : Int) < t 344 30 := c1
        have bL : b = L.length := by
          rw [C1] at c1
          exact Nat.le_antisymm hb (Nat.not_lt.mp (fun q => c1 (Int.ofNat_lt.mpr q)))
        rw [bL] at e1
        exact ⟨F1, _, l1, e1⟩
  have loop : ∀ (G a : Nat) (x4 x5 : Int) (R : Int × zS), a ≤ L.length → zG G xm_c223 4 [344, ((p : Nat) : Int), zak (fun i => A (znt L i) p) L.length a, ((a : Nat) : Int), x4, x5] [] t R → R = (zwk A L p, t) := by
    intro G
    induction G using Nat.strongRecOn with
    | _ G ih =>
      intro a x4 x5 R ha e0
      obtain ⟨F1, l1, ⟨c1, e1⟩ | ⟨c1, e1⟩⟩ := zi_223_4 e0
      · have c1 : ((a : Nat) : Int) < t 344 30 := c1
        have aL : a < L.length := by
          rw [C1] at c1
          exact Int.ofNat_lt.mp c1
        have en : zw (((a : Nat) : Int) + 1) = ((a + 1 : Nat) : Int) := by
          clear ih C3 c1 inner
          exact zw_id (by omega) (by omega)
        obtain ⟨F2, l2, e2⟩ := zi_223_8 e1
        obtain ⟨F3, x5', l3, e3⟩ := inner F2 a 0 _ R aL (Nat.zero_le _) e2
        have eS : zak (fun i => A (znt L i) p) L.length (a + 1) = if zak (fun i => A (znt L i) p) L.length a < zct (fun b => A (znt L b) p = A (znt L a) p) L.length then zct (fun b => A (znt L b) p = A (znt L a) p) L.length else zak (fun i => A (znt L i) p) L.length a := rfl
        obtain ⟨F4, l4, ⟨c4, e4⟩ | ⟨c4, e4⟩⟩ := zi_223_41 e3
        · obtain ⟨F5, l5, e5⟩ := zi_223_44 e4
          rw [en] at e5
          rw [← eS.trans (if_pos c4)] at e5
          exact ih F5 (Nat.lt_trans l5 (Nat.lt_trans l4 (Nat.lt_trans l3 (Nat.lt_trans l2 l1)))) (a + 1) _ _ R aL e5
        · obtain ⟨F5, l5, e5⟩ := zi_223_46 e4
          rw [en] at e5
          rw [← eS.trans (if_neg c4)] at e5
          exact ih F5 (Nat.lt_trans l5 (Nat.lt_trans l4 (Nat.lt_trans l3 (Nat.lt_trans l2 l1)))) (a + 1) _ _ R aL e5
      · have c1 : ¬ ((a : Nat) : Int) < t 344 30 := c1
        have aL : a = L.length := by
          rw [C1] at c1
          exact Nat.le_antisymm ha (Nat.not_lt.mp (fun q => c1 (Int.ofNat_lt.mpr q)))
        rw [zi_223_50 e1, aL, zak_mk]
        rfl
  obtain ⟨F1, l1, e1⟩ := zi_223_0 e0
  exact loop F1 0 0 0 R (Nat.zero_le _) e1
end NL
