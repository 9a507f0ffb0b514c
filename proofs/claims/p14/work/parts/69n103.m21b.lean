/-! the walk, and what stays of the outlook itself -/
section ND
variable {bB : Int} {σ : Int → Int} {n m : Nat} {F : Int} {U : (Int → Int) → Int} {s t : zS} {f l : Int}
theorem zB_44k {G : Nat} {R : Int × zS} (F : Int) (U : (Int → Int) → Int) (H : zGs bB σ n m) {K : Nat} (hK : K ≤ 999) (h : bB + ((K : Nat) : Int) ≤ 999) (hH : zRH t 11 σ n m) (hF : zRF t 225 σ n) (e0 : zG G xm_c44 0 [224, ((K : Nat) : Int), 0] [] t R) : (∀ j : Nat, j < K → R.2 234 ((j : Nat) : Int) = zlan (zPn σ n m F U j) m n) ∧ R.2 224 7 = σ 4 ∧ zRF R.2 225 (zPn σ n m F U K) n ∧ (∀ x, x ≠ 224 → x ≠ 234 → ¬ (225 ≤ x ∧ x ≤ 228) → R.2 x = t x) ∧ ∀ y, y ≠ 7 → R.2 224 y = t 224 y := by
  have h7 := H.1.2.1
  have loop : ∀ (G : Nat) (k : Nat) (u : zS) (R : Int × zS), k ≤ K → zG G xm_c44 7 [224, ((K : Nat) : Int), ((k : Nat) : Int)] [] u R → (∀ j : Nat, j < k → u 234 ((j : Nat) : Int) = zlan (zPn σ n m F U j) m n) → u 224 7 = σ 4 → zRF u 225 (zPn σ n m F U k) n → (∀ x, x ≠ 224 → x ≠ 234 → ¬ (225 ≤ x ∧ x ≤ 228) → u x = t x) → (∀ y, y ≠ 7 → u 224 y = t 224 y) → (∀ j : Nat, j < K → R.2 234 ((j : Nat) : Int) = zlan (zPn σ n m F U j) m n) ∧ R.2 224 7 = σ 4 ∧ zRF R.2 225 (zPn σ n m F U K) n ∧ (∀ x, x ≠ 224 → x ≠ 234 → ¬ (225 ≤ x ∧ x ≤ 228) → R.2 x = t x) ∧ ∀ y, y ≠ 7 → R.2 224 y = t 224 y := by
    intro G
    induction G using Nat.strongRecOn with
    | _ G ih =>
      intro k u R hk e0 a b c d dy
      obtain ⟨F1, l1, ⟨c1, e1⟩ | ⟨c1, e1⟩⟩ := zi_44_7 e0
      · have kK : k < K := by
          clear ih a b c d dy
          omega
        obtain ⟨F2, l2, e2⟩ := zi_44_10 e1
        obtain ⟨F3, l3, e3⟩ := zi_44_13 e2
        rw [zlen_234] at e3
        obtain ⟨F4, l4, ⟨c4, e4⟩ | ⟨c4, e4⟩⟩ := zi_44_14 e3
        · obtain ⟨F5, l5, r5, s5, q5, e5⟩ := zi_44_15 e4
          obtain ⟨F6, l6, e6⟩ := zi_44_24 e5
          have g := zPn_G (F := F) (U := U) H h k hk
          have g4 := g.1.2.2.2.2.2.2.2
          obtain ⟨s', ⟨Gx, w1⟩, w2, w3⟩ := zo_stepR (s := u) (f := 225) (F := F) (U := U) (zRH_s (zRH_c hH (fun x x1 x2 => d x (by clear ih; omega) (by clear ih; omega) (by clear ih; omega))) h7 (fun i hi => zPn_st h7 k i (hi.imp_right (fun q => by clear ih; omega)))) c g (by
            clear ih a b c d dy
            omega) (by decide)
          have ed := zG_det q5 w1
          injection ed with ed1 ed2
          subst ed1
          subst ed2
          have en : zw (((k : Nat) : Int) + 1) = ((k + 1 : Nat) : Int) := zw_id (by clear ih a b c d dy w3 w2; omega) (by clear ih a b c d dy w3 w2; omega)
          rw [en] at e6
          have o : ∀ x, x ≠ 234 → zu s5 (224 + 10) ((k : Nat) : Int) (zlan (zPn σ n m F U k) m n) x = s5 x := fun x hx => funext (fun y => zu_cell hx)
          refine ih F6 (by clear a b c d dy w3 w2; omega) (k + 1) _ R kK e6 (fun j hj => ?_) ?_ ?_ (fun x x1 x2 x3 => ?_) (fun y y1 => ?_)
          · show zu s5 234 ((k : Nat) : Int) _ 234 ((j : Nat) : Int) = _
            rw [zu2, w3 234 (by decide)]
            by_cases e : j = k
            · subst e
              rw [if_pos rfl]
            · rw [if_neg (show ¬ ((j : Nat) : Int) = ((k : Nat) : Int) from fun q => e (Int.ofNat.inj q))]
              exact a j (Nat.lt_of_le_of_ne (Nat.le_of_lt_succ hj) e)
          · rw [o 224 (by decide), w3 224 (by decide)]
            exact b
          · exact zRF_c w2 (fun x x1 x2 => o x (by clear ih a b c d dy w3 w2; omega))
          · rw [o x x2, w3 x (by clear ih a b c d dy w3 w2; omega)]
            exact d x x1 x2 x3
          · rw [o 224 (by decide), w3 224 (by decide)]
            exact dy y y1
        · exfalso
          clear ih a b c d dy
          omega
      · have kK : k = K := by
          clear ih a b c d dy
          omega
        have k4 := zi_44_27 e1
        subst k4
        subst kK
        exact ⟨a, b, c, d, dy⟩
  obtain ⟨F5, l5, e5⟩ := zi_44_0 e0
  refine loop F5 0 _ R (Nat.zero_le K) e5 (fun j hj => absurd hj (Nat.not_lt_zero j)) ?_ ?_ (fun x x1 x2 x3 => funext (fun y => zu_cell x1)) (fun y y1 => zu_place y1)
  · show zu t 224 7 (t 225 0) 224 7 = σ 4
    rw [zu_hit]
    exact hF.1
  · exact zRF_c hF (fun x x1 x2 => funext (fun y => zu_cell (by omega)))
end ND
