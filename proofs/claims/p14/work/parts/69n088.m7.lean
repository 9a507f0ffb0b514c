/-! where all are doesn't hang on what is known, by whom, or on plants -/
def zPe (σ τ : Int → Int) (n : Nat) : Prop := τ 4 = σ 4 ∧ (∀ (p : Nat) (j : Int), p < n → 0 ≤ j → j ≤ 3 → zpe τ ((p : Nat) : Int) j = zpe σ ((p : Nat) : Int) j) ∧ ∀ k, 87 ≤ k → τ k = σ k
section MP
variable {bB : Int} {σ τ : Int → Int} {n m : Nat} {F F' : Int} {U U' : (Int → Int) → Int}
theorem zerr_e (h : ∀ k, 87 ≤ k → τ k = σ k) (p b : Int) : ∀ k : Nat, zerr τ p b k = zerr σ p b k
  | 0 => rfl
  | k + 1 => by
    show (if τ (87 + 3 * ((k : Nat) : Int)) = p ∧ τ (87 + 3 * ((k : Nat) : Int) + 2) = b then τ (87 + 3 * ((k : Nat) : Int) + 1) else zerr τ p b k) = (if σ (87 + 3 * ((k : Nat) : Int)) = p ∧ σ (87 + 3 * ((k : Nat) : Int) + 2) = b then σ (87 + 3 * ((k : Nat) : Int) + 1) else zerr σ p b k)
    rw [h _ (by omega), h (87 + 3 * ((k : Nat) : Int) + 2) (by omega), h (87 + 3 * ((k : Nat) : Int) + 1) (by omega), zerr_e h p b k]
theorem zPe_v (H : zPe σ τ n) {p : Nat} (hp : p < n) : zvA τ m ((p : Nat) : Int) = zvA σ m ((p : Nat) : Int) ∧ zvG τ m ((p : Nat) : Int) = zvG σ m ((p : Nat) : Int) ∧ zvL τ m ((p : Nat) : Int) = zvL σ m ((p : Nat) : Int) ∧ (zvD τ m p ↔ zvD σ m p) := by
  obtain ⟨h4, hp', hk⟩ := H
  have e0 := hp' p 0 hp (by decide) (by decide)
  have e1 := hp' p 1 hp (by decide) (by decide)
  have e2 := hp' p 2 hp (by decide) (by decide)
  have e3 := hp' p 3 hp (by decide) (by decide)
  unfold zvA zvG zvL zvD
  rw [e0, e1, e2, e3, h4, zerr_e hk]
  exact ⟨rfl, rfl, rfl, Iff.rfl⟩
theorem zPe_lan (H : zPe σ τ n) : ∀ i : Nat, i ≤ n → zlan τ m i = zlan σ m i
  | 0, _ => rfl
  | i + 1, hi => by
    obtain ⟨a, -, -, d⟩ := zPe_v (m := m) H (p := i) (by omega)
    have ih := zPe_lan H i (by omega)
    show (if zvD τ m i then zqor (zlan τ m i) (zqshl 1 (zw ((zw (zvA τ m ((i : Nat) : Int) * 7)) + ((i : Nat) : Int)))) else zlan τ m i) = (if zvD σ m i then zqor (zlan σ m i) (zqshl 1 (zw ((zw (zvA σ m ((i : Nat) : Int) * 7)) + ((i : Nat) : Int)))) else zlan σ m i)
    rw [a, ih]
    by_cases c : zvD σ m i
    · rw [if_pos (d.mpr c), if_pos c]
    · rw [if_neg (fun q => c (d.mp q)), if_neg c]
theorem zPe_Po (h7 : n ≤ 7) (H : zPe σ τ n) : zPe (zPo σ n m F U) (zPo τ n m F' U') n := by
  have pj : ∀ (σ : Int → Int) (F : Int) (U : (Int → Int) → Int) (q : Nat) (j : Int), q < n → 0 ≤ j → j ≤ 3 → zpe (zPo σ n m F U) ((q : Nat) : Int) j = (if j = 0 then zvA σ m ((q : Nat) : Int) else if j = 1 then zvG σ m ((q : Nat) : Int) else if j = 2 then zvL σ m ((q : Nat) : Int) else zpe σ ((q : Nat) : Int) j) := fun σ F U q j hq j0 j1 => by
    rw [zPo_p h7 hq j0 (by omega)]
    simp only [if_neg (show ¬ j = 8 by omega), if_neg (show ¬ j = 9 by omega), if_neg (show ¬ j = 10 by omega)]
    by_cases w : ¬ zto (zsA σ m n) (zfs (zvD σ m) n) n F U ((q : Nat) : Int) < 0
    · rw [if_pos w]
    · rw [if_neg w]
  refine ⟨?_, fun p j hp j0 j1 => ?_, fun k hk => ?_⟩
  · show (if (4 : Int) = 4 then zw (τ 4 + 1) else _) = (if (4 : Int) = 4 then zw (σ 4 + 1) else _)
    rw [if_pos rfl, if_pos rfl, H.1]
  · obtain ⟨a, b, c, -⟩ := zPe_v (m := m) H hp
    rw [pj τ F' U' p j hp j0 j1, pj σ F U p j hp j0 j1, a, b, c, H.2.1 p j hp j0 j1]
  · rw [zPo_st h7 (Or.inr (by omega)), zPo_st h7 (Or.inr (by omega))]
    exact H.2.2 k hk
theorem zPe_n (h7 : n ≤ 7) (H : zPe σ τ n) : ∀ k : Nat, zPe (zPn σ n m F U k) (zPn τ n m F' U' k) n
  | 0 => H
  | k + 1 => zPe_Po h7 (zPe_n h7 H k)
/-- the landings behind k bells are the same -/
theorem zPe_ln (h7 : n ≤ 7) (H : zPe σ τ n) (k : Nat) : zlan (zPn τ n m F' U' k) m n = zlan (zPn σ n m F U k) m n := zPe_lan (zPe_n h7 H k) n (Nat.le_refl n)
end MP
