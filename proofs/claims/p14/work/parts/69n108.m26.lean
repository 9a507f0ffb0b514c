/-! with how many chairs a start can be known -/
/-- what persons add is in its range, and each one more who knows adds 9 at most -/
def zCb (τ : Int → Int) (n : Nat) : Prop := (∀ p : Nat, p < n → -9 ≤ zpe τ ((p : Nat) : Int) 7 ∧ zpe τ ((p : Nat) : Int) 7 ≤ 9) ∧ ∀ q : Nat, q < n → zkn τ q → -(9 * (zct (zkn τ) n - 1)) ≤ zpe τ ((q : Nat) : Int) 9 ∧ zpe τ ((q : Nat) : Int) 9 ≤ 9 * (zct (zkn τ) n - 1)
section NI
variable {bB : Int} {σ τ : Int → Int} {n m K B M : Nat} {F : Int} {U : (Int → Int) → Int} {s t z : zS} {a c x y f h : Int} {p q b i : Nat}
theorem zclm_b {v c : Int} (c0 : 0 ≤ c) (h : -c ≤ v ∧ v ≤ c) : -c ≤ zclm v ∧ zclm v ≤ c := by
  unfold zclm
  by_cases d : v < -999
  · rw [if_pos d]
    omega
  · rw [if_neg d]
    by_cases e : 999 < v
    · rw [if_pos e]
      omega
    · rw [if_neg e]
      exact h
theorem zCb_s (h7 : n ≤ 7) (h4 : 0 ≤ σ 4) (H : zCb σ n) : zCb (zPo σ n m F U) n := by
  obtain ⟨H1, H2⟩ := H
  have e8 : ∀ q : Nat, q < n → zpe (zPo σ n m F U) ((q : Nat) : Int) 8 = if ¬ zto (zsA σ m n) (zfs (zvD σ m) n) n F U ((q : Nat) : Int) < 0 then σ 4 else zpe σ ((q : Nat) : Int) 8 := fun q hq => zPo_8 h7 hq
  have kk : ∀ q : Nat, q < n → zkn σ q → zkn (zPo σ n m F U) q := fun q hq k => by
    unfold zkn
    rw [e8 q hq]
    by_cases w : ¬ zto (zsA σ m n) (zfs (zvD σ m) n) n F U ((q : Nat) : Int) < 0
    · rw [if_pos w]
      exact Int.not_lt.mpr h4
    · rw [if_neg w]
      exact k
  have cm := zct_m (P := zkn σ) (Q := zkn (zPo σ n m F U)) n kk
  have cr := zct_r (P := zkn σ) n
  have cr2 := zct_r (P := zkn (zPo σ n m F U)) n
  have n7 : ((n : Nat) : Int) ≤ 7 := by omega
  refine ⟨fun p hp => ?_, fun q hq k => ?_⟩
  · have z : zpe (zPo σ n m F U) ((p : Nat) : Int) 7 = zpe σ ((p : Nat) : Int) 7 := zPo_st h7 (Or.inl (zst_p (Nat.lt_of_lt_of_le hp h7) (by decide) (by decide)))
    rw [z]
    exact H1 p hp
  · by_cases w : ¬ zto (zsA σ m n) (zfs (zvD σ m) n) n F U ((q : Nat) : Int) < 0
    · have nk : ¬ zkn σ q := zhx_new h7 hq w
      have cl := zct_lt (P := zkn σ) (Q := zkn (zPo σ n m F U)) (j := q) n kk hq k nk
      rcases zto_r (σ := zsA σ m n) (L := zfs (zvD σ m) n) (F := F) (U := U) h7 (b := ((q : Nat) : Int)) with d | ⟨a, an, ak, ae⟩
      · rw [d] at w
        exact absurd w (by decide)
      · have ak' : zkn σ a := by
          unfold zkn at ak ⊢
          rw [zsA_8 an] at ak
          exact ak
        obtain ⟨b1, b2⟩ := H2 a an ak'
        obtain ⟨b3, b4⟩ := H1 a an
        have e9 : zpe (zPo σ n m F U) ((q : Nat) : Int) 9 = zclm (zw (zpe σ ((a : Nat) : Int) 9 + zpe σ ((a : Nat) : Int) 7)) := by
          rw [zPo_p h7 hq (by decide) (by decide), if_pos w, if_neg (by decide), if_pos rfl, ae, zsA_p an (by decide) (by decide), zsA_p an (by decide) (by decide), if_neg (by decide), if_neg (by decide), if_neg (by decide), if_neg (by decide), if_neg (by decide), if_neg (by decide)]
        rw [e9]
        clear e9 ae ak ak' nk w kk e8 H1 H2 k
        rw [zw_id (by omega) (by omega)]
        have z := zclm_b (c := 9 * zct (zkn σ) n) (v := zpe σ ((a : Nat) : Int) 9 + zpe σ ((a : Nat) : Int) 7) (by omega) (by omega)
        omega
    · have e9 : zpe (zPo σ n m F U) ((q : Nat) : Int) 9 = zpe σ ((q : Nat) : Int) 9 := by
        rw [zPo_p h7 hq (by decide) (by decide), if_neg w, if_neg (by decide), if_neg (by decide), if_neg (by decide)]
      have k' : zkn σ q := by
        unfold zkn at k ⊢
        rw [e8 q hq, if_neg w] at k
        exact k
      obtain ⟨b1, b2⟩ := H2 q hq k'
      rw [e9]
      clear e9 k k' w kk e8 H1 H2
      omega
theorem zCb_n (H : zGs bB σ n m) {K : Nat} (h : bB + ((K : Nat) : Int) ≤ 999) (C : zCb σ n) : ∀ k : Nat, k ≤ K → zCb (zPn σ n m F U k) n
  | 0, _ => C
  | k + 1, hk => by
    have ih := zCb_n H h C k (Nat.le_of_succ_le hk)
    have g := zPn_G (F := F) (U := U) H h k (Nat.le_of_succ_le hk)
    exact zCb_s (σ := zPn σ n m F U k) H.1.2.1 g.1.2.2.2.2.2.2.2.1 ih
/-- none knows it ahead of the start -/
theorem zs0_k (h7 : n ≤ 7) : ∀ (k q : Nat), q < n → ¬ zkn (zPn (zs0 σ n) n m F U k) q
  | 0, q, hq => zs0_n hq
  | k + 1, q, hq => by
    have ih := zs0_k h7 k
    have e : zpe (zPo (zPn (zs0 σ n) n m F U k) n m F U) ((q : Nat) : Int) 8 = zpe (zPn (zs0 σ n) n m F U k) ((q : Nat) : Int) 8 := zSp_Po h7 (Or.inl ih) hq (by decide) (by decide)
    intro z
    refine ih q hq (fun w => z ?_)
    show zpe (zPo (zPn (zs0 σ n) n m F U k) n m F U) ((q : Nat) : Int) 8 < 0
    rw [e]
    exact w
theorem zct_pos {P : Nat → Prop} [DecidablePred P] {j : Nat} : ∀ n : Nat, j < n → P j → 1 ≤ zct P n
  | 0, hj, _ => absurd hj (Nat.not_lt_zero j)
  | n + 1, hj, h => by
    show 1 ≤ zct P n + (if P n then 1 else 0)
    have r := (zct_r (P := P) n).1
    by_cases e : j = n
    · rw [e] at h
      rw [if_pos h]
      omega
    · have ih := zct_pos (P := P) n (Nat.lt_of_le_of_ne (Nat.le_of_lt_succ hj) e) h
      by_cases c : P n
      · rw [if_pos c]
        omega
      · rw [if_neg c]
        omega
theorem zst1_C (h7 : n ≤ 7) (hp : p < n) (hT : ∀ p : Nat, p < n → -9 ≤ zpe σ ((p : Nat) : Int) 7 ∧ zpe σ ((p : Nat) : Int) 7 ≤ 9) : zCb (zst1 σ n m F U p b) n := by
  have kp : zkn (zst1 σ n m F U p b) p := by
    unfold zkn zst1
    rw [zuq_8]
    exact Int.not_lt.mpr (Int.natCast_nonneg b)
  refine ⟨fun q hq => ?_, fun q hq k => ?_⟩
  · have z : zpe (zst1 σ n m F U p b) ((q : Nat) : Int) 7 = zpe σ ((q : Nat) : Int) 7 := zst1_st h7 hp (Or.inl (zst_p (Nat.lt_of_lt_of_le hq h7) (by decide) (by decide)))
    rw [z]
    exact hT q hq
  · have c1 := zct_pos (P := zkn (zst1 σ n m F U p b)) n hp kp
    by_cases e : q = p
    · have z : zpe (zst1 σ n m F U p b) ((q : Nat) : Int) 9 = 0 := by
        rw [e]
        unfold zst1
        rw [zuq_9]
      rw [z]
      clear z k kp hT
      omega
    · exfalso
      refine zs0_k (σ := σ) (m := m) (F := F) (U := U) h7 b q hq (fun w => k ?_)
      unfold zst1
      have z : zpe (zuq (zPn (zs0 σ n) n m F U b) ((p : Nat) : Int) ((b : Nat) : Int) 0 (-1)) ((q : Nat) : Int) 8 = zpe (zPn (zs0 σ n) n m F U b) ((q : Nat) : Int) 8 := zuq_o (by omega)
      rw [z]
      exact w
/-- so what a person answers behind a start -/
theorem zan_r (H : zGs bB σ n m) (hp : p < n) (hb : b ≤ 40) (hbB : b ≤ B) (hB : B ≤ 999) (hT : ∀ p : Nat, p < n → -9 ≤ zpe σ ((p : Nat) : Int) 7 ∧ zpe σ ((p : Nat) : Int) 7 ≤ 9) (hq : q < n) : zan σ n m F U B (p, b) q = -1000 ∨ (-54 ≤ zan σ n m F U B (p, b) q ∧ zan σ n m F U B (p, b) q ≤ 54) := by
  have h7 := H.1.2.1
  have C := zCb_n (F := F) (U := U) (zst1_G (F := F) (U := U) H hp hb) (K := B - b) (by clear H hT; omega) (zst1_C h7 hp hT) (B - b) (Nat.le_refl _)
  have cr := zct_r (P := zkn (zPn (zst1 σ n m F U p b) n m F U (B - b))) n
  show znf (zfin σ n m F U B p b) ((q : Nat) : Int) = -1000 ∨ (-54 ≤ znf (zfin σ n m F U B p b) ((q : Nat) : Int) ∧ znf (zfin σ n m F U B p b) ((q : Nat) : Int) ≤ 54)
  unfold znf
  by_cases w : zpe (zfin σ n m F U B p b) ((q : Nat) : Int) 8 < 0
  · rw [if_pos w]
    exact Or.inl rfl
  · rw [if_neg w]
    have d := C.2 q hq w
    have d : -(9 * (zct (zkn (zPn (zst1 σ n m F U p b) n m F U (B - b))) n - 1)) ≤ zpe (zfin σ n m F U B p b) ((q : Nat) : Int) 9 ∧ zpe (zfin σ n m F U B p b) ((q : Nat) : Int) 9 ≤ 9 * (zct (zkn (zPn (zst1 σ n m F U p b) n m F U (B - b))) n - 1) := d
    refine Or.inr ?_
    clear C H hT w
    omega
end NI
