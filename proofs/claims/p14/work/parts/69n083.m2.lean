/-! looking ahead in the class: a step, a ring, the walk -/
section MC
variable {bB : Int} {σ : Int → Int} {n m : Nat} {F : Int} {U : (Int → Int) → Int} {s t : zS} {f l : Int}
theorem zo_stepR (hH : zRH s 11 σ n m) (hF : zRF s f σ n) (hG : zGs bB σ n m) (h9 : σ 4 < 999) (hf : 19 ≤ f) : ∃ s', zE xm_c8 [f, 11, 0, 0, 0] s (zlan σ m n) s' ∧ zRF s' f (zPo σ n m F U) n ∧ ∀ x, ¬ (f ≤ x ∧ x ≤ f + 3) → s' x = s x := by
  have h7 := hG.1.2.1
  have g4 := hG.1.2.2.2.2.2.2.2
  obtain ⟨t1, a1, ⟨a2, a3⟩, a4, a5⟩ := zo_step (f := f) (h := 11) hH hF hG (fun k k0 k1 j j0 j1 => by omega)
  have pj : ∀ (q : Nat) (j : Int), q < n → 0 ≤ j → j ≤ 3 → zpe (zPo σ n m F U) ((q : Nat) : Int) j = (if j = 0 then zvA σ m ((q : Nat) : Int) else if j = 1 then zvG σ m ((q : Nat) : Int) else if j = 2 then zvL σ m ((q : Nat) : Int) else zpe σ ((q : Nat) : Int) j) := fun q j hq j0 j1 => by
    rw [zPo_p h7 hq j0 (by omega)]
    simp only [if_neg (show ¬ j = 8 by omega), if_neg (show ¬ j = 9 by omega), if_neg (show ¬ j = 10 by omega)]
    by_cases w : ¬ zto (zsA σ m n) (zfs (zvD σ m) n) n F U ((q : Nat) : Int) < 0
    · rw [if_pos w]
    · rw [if_neg w]
  refine ⟨t1, a1, ⟨?_, ?_, fun q hq => ?_⟩, fun x hx => a5 x (by omega) (by omega) (by omega) (by omega)⟩
  · rw [a2, zw_id (by omega) (by omega), if_neg (by omega)]
    show σ 4 + 1 = (if (4 : Int) = 4 then zw (σ 4 + 1) else _)
    rw [if_pos rfl, zw_id (by omega) (by omega)]
  · rw [a3, hF.2.1, zPo_k (by decide), zsC_lo (by decide), zsA_lo (by decide)]
  · obtain ⟨c1, c2, c3, c4⟩ := a4 q hq
    rw [pj q 0 hq (by decide) (by decide), pj q 1 hq (by decide) (by decide), pj q 2 hq (by decide) (by decide), pj q 3 hq (by decide) (by decide)]
    exact ⟨c1, c2, c3, c4⟩
theorem zo_ringR (hg : zRg bB t σ n m l F U) (hL : zRL t l σ n) : ∃ s' r, zE xm_c13 [237, l, zlan σ m n, 0, σ 4, 0, 0, 0, 0, 0, 0, 0, 0, 0, 0] t r s' ∧ zRL s' l (zPo σ n m F U) n ∧ ∀ x, x ≠ 238 → x ≠ 239 → ¬ (l ≤ x ∧ x ≤ l + 3) → s' x = t x := by
  have hG := hg.1
  have h7 := hG.1.2.1
  have g4 := hG.1.2.2.2.2.2.2.2
  obtain ⟨t2, b1, b2, b3⟩ := zo_ring hg rfl (zRL_A hL h7 rfl)
  refine ⟨t2, _, b1, ⟨?_, fun q hq => ?_⟩, b3⟩
  · refine b2.1.trans (zfo_congr n (fun q hq => ?_))
    unfold zkn zhx
    rw [zPo_p h7 hq (by decide) (by decide), zsA_p hq (by decide) (by decide)]
    by_cases w : ¬ zto (zsA σ m n) (zfs (zvD σ m) n) n F U ((q : Nat) : Int) < 0
    · rw [if_pos w]
      exact ⟨fun _ => Int.not_lt.mpr g4.1, fun _ => Or.inr w⟩
    · rw [if_neg w]
      exact ⟨fun z => z.resolve_right w, Or.inl⟩
  · obtain ⟨c1, c2, c3⟩ := b2.2 q hq
    have s8 : zpe (zsA σ m n) ((q : Nat) : Int) 8 = zpe σ ((q : Nat) : Int) 8 := by rw [zsA_p hq (by decide) (by decide)]; rfl
    have s9 : zpe (zsA σ m n) ((q : Nat) : Int) 9 = zpe σ ((q : Nat) : Int) 9 := by rw [zsA_p hq (by decide) (by decide)]; rfl
    have s10 : zpe (zsA σ m n) ((q : Nat) : Int) 10 = zpe σ ((q : Nat) : Int) 10 := by rw [zsA_p hq (by decide) (by decide)]; rfl
    rw [c1, c2, c3, zPo_p h7 hq (j := 8) (by decide) (by decide), zPo_p h7 hq (j := 9) (by decide) (by decide), zPo_p h7 hq (j := 10) (by decide) (by decide), s8, s9, s10]
    by_cases w : ¬ zto (zsA σ m n) (zfs (zvD σ m) n) n F U ((q : Nat) : Int) < 0
    · have wz : zhx (zto (zsA σ m n) (zfs (zvD σ m) n) n F U) q := w
      refine ⟨?_, ?_, ?_⟩ <;> rw [if_pos wz, if_pos w] <;> rfl
    · have wz : ¬ zhx (zto (zsA σ m n) (zfs (zvD σ m) n) n F U) q := w
      refine ⟨?_, ?_, ?_⟩ <;> rw [if_neg wz, if_neg w] <;> rfl
theorem zlen_234 : zw (zlen (224 + 10)) = 999 := by decide +kernel
/-- the walk -/
theorem zB_44g {G : Nat} {R : Int × zS} (F : Int) (U : (Int → Int) → Int) (H : zGs bB σ n m) {K : Nat} (hK : K ≤ 999) (h : bB + ((K : Nat) : Int) ≤ 999) (hH : zRH t 11 σ n m) (hF : zRF t 225 σ n) (e0 : zG G xm_c44 0 [224, ((K : Nat) : Int), 0] [] t R) : (∀ j : Nat, j < K → R.2 234 ((j : Nat) : Int) = zlan (zPn σ n m F U j) m n) ∧ R.2 224 7 = σ 4 ∧ zRF R.2 225 (zPn σ n m F U K) n ∧ (∀ x, x ≠ 224 → x ≠ 234 → ¬ (225 ≤ x ∧ x ≤ 228) → R.2 x = t x) := by
  have h7 := H.1.2.1
  have loop : ∀ (G : Nat) (k : Nat) (u : zS) (R : Int × zS), k ≤ K → zG G xm_c44 7 [224, ((K : Nat) : Int), ((k : Nat) : Int)] [] u R → (∀ j : Nat, j < k → u 234 ((j : Nat) : Int) = zlan (zPn σ n m F U j) m n) → u 224 7 = σ 4 → zRF u 225 (zPn σ n m F U k) n → (∀ x, x ≠ 224 → x ≠ 234 → ¬ (225 ≤ x ∧ x ≤ 228) → u x = t x) → (∀ j : Nat, j < K → R.2 234 ((j : Nat) : Int) = zlan (zPn σ n m F U j) m n) ∧ R.2 224 7 = σ 4 ∧ zRF R.2 225 (zPn σ n m F U K) n ∧ (∀ x, x ≠ 224 → x ≠ 234 → ¬ (225 ≤ x ∧ x ≤ 228) → R.2 x = t x) := by
    intro G
    induction G using Nat.strongRecOn with
    | _ G ih =>
      intro k u R hk e0 a b c d
      obtain ⟨F1, l1, ⟨c1, e1⟩ | ⟨c1, e1⟩⟩ := zi_44_7 e0
      · have kK : k < K := by
          clear ih a b c d
          omega
        obtain ⟨F2, l2, e2⟩ := zi_44_10 e1
        obtain ⟨F3, l3, e3⟩ := zi_44_13 e2
        rw [zlen_234] at e3
        obtain ⟨F4, l4, ⟨c4, e4⟩ | ⟨c4, e4⟩⟩ := zi_44_14 e3
        · obtain ⟨F5, l5, r5, s5, q5, e5⟩ := zi_44_15 e4
          obtain ⟨F6, l6, e6⟩ := zi_44_24 e5
          have g := zPn_G (F := F) (U := U) H h k hk
          have g4 := g.1.2.2.2.2.2.2.2
          obtain ⟨s', ⟨Gx, w1⟩, w2, w3⟩ := zo_stepR (s := u) (f := 225) (F := F) (U := U) (zRH_s (zRH_c hH (fun x x1 x2 => d x (by clear ih; omega) (by clear ih; omega) (by clear ih; omega))) h7 (fun i hi => zPn_st h7 k i (hi.imp_right (fun q => by clear ih; omega)))) c g (by
            clear ih a b c d
            omega) (by decide)
          have ed := zG_det q5 w1
          injection ed with ed1 ed2
          subst ed1
          subst ed2
          have en : zw (((k : Nat) : Int) + 1) = ((k + 1 : Nat) : Int) := zw_id (by clear ih a b c d w3 w2; omega) (by clear ih a b c d w3 w2; omega)
          rw [en] at e6
          have o : ∀ x, x ≠ 234 → zu s5 (224 + 10) ((k : Nat) : Int) (zlan (zPn σ n m F U k) m n) x = s5 x := fun x hx => funext (fun y => zu_cell hx)
          refine ih F6 (by clear a b c d w3 w2; omega) (k + 1) _ R kK e6 (fun j hj => ?_) ?_ ?_ (fun x x1 x2 x3 => ?_)
          · show zu s5 234 ((k : Nat) : Int) _ 234 ((j : Nat) : Int) = _
            rw [zu2, w3 234 (by decide)]
            by_cases e : j = k
            · subst e
              rw [if_pos rfl]
            · rw [if_neg (show ¬ ((j : Nat) : Int) = ((k : Nat) : Int) from fun q => e (Int.ofNat.inj q))]
              exact a j (Nat.lt_of_le_of_ne (Nat.le_of_lt_succ hj) e)
          · rw [o 224 (by decide), w3 224 (by decide)]
            exact b
          · exact zRF_c w2 (fun x x1 x2 => o x (by clear ih a b c d w3 w2; omega))
          · rw [o x x2, w3 x (by clear ih a b c d w3 w2; omega)]
            exact d x x1 x2 x3
        · exfalso
          clear ih a b c d
          omega
      · have kK : k = K := by
          clear ih a b c d
          omega
        have k4 := zi_44_27 e1
        subst k4
        subst kK
        exact ⟨a, b, c, d⟩
  obtain ⟨F5, l5, e5⟩ := zi_44_0 e0
  refine loop F5 0 _ R (Nat.zero_le K) e5 (fun j hj => absurd hj (Nat.not_lt_zero j)) ?_ ?_ (fun x x1 x2 x3 => funext (fun y => zu_cell x1))
  · show zu t 224 7 (t 225 0) 224 7 = σ 4
    rw [zu_hit]
    exact hF.1
  · exact zRF_c hF (fun x x1 x2 => funext (fun y => zu_cell (by omega)))
theorem zB_44 {G : Nat} {R : Int × zS} (F : Int) (U : (Int → Int) → Int) (H : zGs bB σ n m) {K : Nat} (hK : K ≤ 100) (h : bB + ((K : Nat) : Int) ≤ 999) (hH : zRH t 11 σ n m) (hF : zRF t 225 σ n) (e0 : zG G xm_c44 0 [224, ((K : Nat) : Int), 0] [] t R) : (∀ j : Nat, j < K → R.2 234 ((j : Nat) : Int) = zlan (zPn σ n m F U j) m n) ∧ R.2 224 7 = σ 4 ∧ zRF R.2 225 (zPn σ n m F U K) n ∧ (∀ x, x ≠ 224 → x ≠ 234 → ¬ (225 ≤ x ∧ x ≤ 228) → R.2 x = t x) := zB_44g F U H (Nat.le_trans hK (by decide)) h hH hF e0
end MC
