/-! looking ahead: bells on bells -/
/-- what is told behind k bells -/
def zPn (σ : Int → Int) (n m : Nat) (F : Int) (U : (Int → Int) → Int) : Nat → Int → Int
  | 0 => σ
  | k + 1 => zPo (zPn σ n m F U k) n m F U
section MA
variable {bB : Int} {σ : Int → Int} {n m : Nat} {F : Int} {U : (Int → Int) → Int} {z t : zS} {G : Nat} {R : Int × zS} {x : Int}
theorem zPn_st (h7 : n ≤ 7) : ∀ (k : Nat) (i : Int), (zst i ∨ ¬ (0 ≤ i ∧ i < 87)) → zPn σ n m F U k i = σ i
  | 0, _, _ => rfl
  | k + 1, i, hi => by
    show zPo (zPn σ n m F U k) n m F U i = σ i
    rw [zPo_st h7 hi]
    exact zPn_st h7 k i hi
theorem zPn_G (H : zGs bB σ n m) {K : Nat} (h : bB + ((K : Nat) : Int) ≤ 999) : ∀ k : Nat, k ≤ K → zGs (bB + ((k : Nat) : Int)) (zPn σ n m F U k) n m
  | 0, _ => zGs_mo (by omega) H
  | k + 1, hk => by
    have ih := zPn_G H h k (by omega)
    have b4 : zPn σ n m F U k 4 ≤ bB + ((k : Nat) : Int) := ih.1.2.2.2.2.2.2.2.2.2
    have e : bB + ((k + 1 : Nat) : Int) = bB + ((k : Nat) : Int) + 1 := by omega
    rw [e]
    exact zPo_Gs (zGs_mo (by omega) ih) (by omega) (by omega)
theorem zPn_4 (H : zGs bB σ n m) {K : Nat} (h : bB + ((K : Nat) : Int) ≤ 999) : ∀ k : Nat, k ≤ K → zPn σ n m F U k 4 = σ 4 + ((k : Nat) : Int)
  | 0, _ => by
    show σ 4 = σ 4 + ((0 : Nat) : Int)
    omega
  | k + 1, hk => by
    have ih := zPn_4 H h k (by omega)
    have g := zPn_G (F := F) (U := U) H h k (by omega)
    have b4 : zPn σ n m F U k 4 ≤ bB + ((k : Nat) : Int) := g.1.2.2.2.2.2.2.2.2.2
    have b0 : 0 ≤ zPn σ n m F U k 4 := g.1.2.2.2.2.2.2.2.1
    show zPo (zPn σ n m F U k) n m F U 4 = _
    show (if (4 : Int) = 4 then zw (zPn σ n m F U k 4 + 1) else _) = _
    rw [if_pos rfl, zw_id (by omega) (by omega), ih]
    omega
/-- the reference's bells, one after the other -/
theorem zB_209 (H : zGs bB σ n m) {K : Nat} (h : bB + ((K : Nat) : Int) ≤ 999) (hU : ¬ F < 0 → zRu z F U) (e0 : zG G xm_c209 0 [344, ((K : Nat) : Int), 0] [] t R) (a : t 354 = σ) (b : t 344 21 = F) (c : ∀ x, 346 ≤ x → x ≤ 349 → t x = z x) : R.2 354 = zPn σ n m F U K ∧ R.2 344 21 = F ∧ ∀ x, 346 ≤ x → x ≤ 349 → R.2 x = z x := by
  have h7 := H.1.2.1
  have h0 : 0 ≤ bB := by
    have a := H.1.2.2.2.2.2.2.2.1
    have b := H.1.2.2.2.2.2.2.2.2.2
    omega
  have loop : ∀ (G : Nat) (k : Nat) (t : zS) (R : Int × zS), k ≤ K → zG G xm_c209 2 [344, ((K : Nat) : Int), ((k : Nat) : Int)] [] t R → t 354 = zPn σ n m F U k → t 344 21 = F → (∀ x, 346 ≤ x → x ≤ 349 → t x = z x) → R.2 354 = zPn σ n m F U K ∧ R.2 344 21 = F ∧ ∀ x, 346 ≤ x → x ≤ 349 → R.2 x = z x := by
    intro G
    induction G using Nat.strongRecOn with
    | _ G ih =>
      intro k t R hk e0 a b c
      obtain ⟨F1, l1, ⟨c1, e1⟩ | ⟨c1, e1⟩⟩ := zi_209_2 e0
      · have kK : k < K := by
          clear ih a b c hU
          omega
        obtain ⟨F2, l2, r2, s2, q2, e2⟩ := zi_209_5 e1
        obtain ⟨F3, l3, e3⟩ := zi_209_7 e2
        have g := zPn_G (F := F) (U := U) H h k hk
        obtain ⟨s', ⟨Gx, w1⟩, w2, w3⟩ := zr_passes (s := t) (σ := zPn σ n m F U k) (n := n) (m := m) (F := F) (U := U) a g.1.1 h7 g.1.2.2.1 g.1.2.2.2.1 b (fun q => by
          have := hU q
          intro u ws x1 x2
          exact this u ws (fun x y1 y2 => (x1 x y1 y2).trans (c x y1 y2)) x2)
        have ed := zG_det q2 w1
        injection ed with ed1 ed2
        subst ed2
        have e4 : zw (((k : Nat) : Int) + 1) = ((k + 1 : Nat) : Int) := by
          have g4 := g.1.2.2.2.2.2.2.2.2.2
          have g5 := g.1.2.2.2.2.2.2.2.1
          clear ih a b c hU w3 w2
          exact zw_id (by omega) (by omega)
        rw [e4] at e3
        exact ih F3 (Nat.lt_trans l3 (Nat.lt_trans l2 l1)) (k + 1) s2 R kK e3 w2 (by rw [w3.2 21 (by decide) (by decide), b]) (fun x x1 x2 => by rw [w3.1 x (by omega) (by omega) (by omega) (by omega) (by omega)]; exact c x x1 x2)
      · have kK : k = K := by
          clear ih a b c hU
          omega
        have k4 := zi_209_10 e1
        subst k4
        subst kK
        exact ⟨a, b, c⟩
  obtain ⟨F5, l5, e5⟩ := zi_209_0 e0
  exact loop F5 0 t R (Nat.zero_le K) e5 a b c
end MA
