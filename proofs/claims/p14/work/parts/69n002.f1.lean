/-! bits of whole numbers, as both sides look at them -/
def zbt (x k : Int) : Int := zand (zshr x k) 1
theorem zi_ext {a b : Int32} (h : a.toBitVec = b.toBitVec) : a = b := Int32.toBitVec_inj.mp h
theorem zi_ao (a b c : Int32) : (a ||| b) &&& c = (a &&& c) ||| (b &&& c) := zi_ext (by
  rw [Int32.toBitVec_and, Int32.toBitVec_or, Int32.toBitVec_or, Int32.toBitVec_and, Int32.toBitVec_and]
  apply BitVec.eq_of_getLsbD_eq
  intro i hi
  rw [BitVec.getLsbD_and, BitVec.getLsbD_or, BitVec.getLsbD_or, BitVec.getLsbD_and, BitVec.getLsbD_and]
  cases a.toBitVec.getLsbD i <;> cases b.toBitVec.getLsbD i <;> cases c.toBitVec.getLsbD i <;> rfl)
theorem zi_aa (a b c : Int32) : (a &&& b) &&& c = (a &&& c) &&& (b &&& c) := zi_ext (by
  rw [Int32.toBitVec_and, Int32.toBitVec_and, Int32.toBitVec_and, Int32.toBitVec_and, Int32.toBitVec_and]
  apply BitVec.eq_of_getLsbD_eq
  intro i hi
  rw [BitVec.getLsbD_and, BitVec.getLsbD_and, BitVec.getLsbD_and, BitVec.getLsbD_and, BitVec.getLsbD_and]
  cases a.toBitVec.getLsbD i <;> cases b.toBitVec.getLsbD i <;> cases c.toBitVec.getLsbD i <;> rfl)
theorem zbt_or (x y k : Int) : zbt (zor x y) k = zor (zbt x k) (zbt y k) := by
  unfold zbt zand zor zshr
  simp only [Int32.ofInt_toInt, Int32.shiftRight_or, zi_ao]
theorem zbt_and (x y k : Int) : zbt (zand x y) k = zand (zbt x k) (zbt y k) := by
  unfold zbt zand zshr
  simp only [Int32.ofInt_toInt, Int32.shiftRight_and]
  rw [zi_aa]
theorem zbt_xor (x y k : Int) : zbt (zxor x y) k = zxor (zbt x k) (zbt y k) := by
  unfold zbt zand zxor zshr
  simp only [Int32.ofInt_toInt, Int32.shiftRight_xor]
  refine congrArg Int32.toInt (zi_ext ?_)
  rw [Int32.toBitVec_and, Int32.toBitVec_xor, Int32.toBitVec_xor, Int32.toBitVec_and, Int32.toBitVec_and]
  apply BitVec.eq_of_getLsbD_eq
  intro i hi
  rw [BitVec.getLsbD_and, BitVec.getLsbD_xor, BitVec.getLsbD_xor, BitVec.getLsbD_and, BitVec.getLsbD_and]
  cases BitVec.getLsbD _ i <;> cases BitVec.getLsbD _ i <;> cases BitVec.getLsbD _ i <;> rfl
theorem zor_assoc (x y z : Int) : zor (zor x y) z = zor x (zor y z) := by
  unfold zor
  simp only [Int32.ofInt_toInt, Int32.or_assoc]
theorem zor_comm (x y : Int) : zor x y = zor y x := by
  unfold zor
  rw [Int32.or_comm]
theorem zand_1 (x : Int) : zand x 1 = 0 ∨ zand x 1 = 1 := by
  unfold zand
  have h : ∀ b : BitVec 32, (b &&& 1#32) = 0#32 ∨ (b &&& 1#32) = 1#32 := fun b => by
    have e : (b &&& 1#32).toNat = b.toNat % 2 := by
      rw [BitVec.toNat_and]
      exact Nat.and_two_pow_sub_one_eq_mod b.toNat 1
    rcases Nat.mod_two_eq_zero_or_one b.toNat with q | q
    · exact Or.inl (BitVec.eq_of_toNat_eq (by rw [e, q]; rfl))
    · exact Or.inr (BitVec.eq_of_toNat_eq (by rw [e, q]; rfl))
  rcases h (Int32.ofInt x).toBitVec with q | q
  · refine Or.inl ?_
    rw [show Int32.ofInt x &&& Int32.ofInt 1 = 0 from zi_ext q]
    rfl
  · refine Or.inr ?_
    rw [show Int32.ofInt x &&& Int32.ofInt 1 = 1 from zi_ext q]
    rfl
theorem zbt_01 (x k : Int) : zbt x k = 0 ∨ zbt x k = 1 := zand_1 _
theorem zbt_n {x k : Int} (h : ¬ zbt x k = 1) : zbt x k = 0 := (zbt_01 x k).resolve_right h
/-- a set of persons (the first n numbers that P holds of), made as both sides make it -/
def zfs (P : Nat → Prop) [DecidablePred P] : Nat → Int
  | 0 => 0
  | n + 1 => zor (zfs P n) (if P n then zshl 1 ((n : Nat) : Int) else 0)
theorem zbt_0 (k : Int) : zbt 0 k = 0 := by
  unfold zbt zshr zand
  rw [show Int32.ofInt 0 = 0 from rfl, Int32.zero_shiftRight]
  rfl
theorem zor_0 (x : Int) (h : x = 0 ∨ x = 1) : zor x 0 = x ∧ zor 0 x = x ∧ zor x 1 = 1 ∧ zor 1 x = 1 := by
  rcases h with rfl | rfl <;> decide
theorem zbt_shl {a b : Nat} (ha : a < 16) (hb : b < 16) : zbt (zshl 1 ((a : Nat) : Int)) ((b : Nat) : Int) = if a = b then 1 else 0 := by
  have h : ∀ a b : Fin 16, zbt (zshl 1 ((a.val : Nat) : Int)) ((b.val : Nat) : Int) = if a.val = b.val then 1 else 0 := by decide
  exact h ⟨a, ha⟩ ⟨b, hb⟩
theorem zbt_fo {P : Nat → Prop} [DecidablePred P] {k : Nat} (hk : k < 16) : ∀ n : Nat, n ≤ 16 → zbt (zfs P n) ((k : Nat) : Int) = if k < n ∧ P k then 1 else 0
  | 0, _ => by
    rw [if_neg (fun q => absurd q.1 (Nat.not_lt_zero k))]
    exact zbt_0 _
  | n + 1, hn => by
    show zbt (zor (zfs P n) (if P n then zshl 1 ((n : Nat) : Int) else 0)) _ = _
    rw [zbt_or, zbt_fo hk n (by omega)]
    by_cases hp : P n
    · rw [if_pos hp, zbt_shl (by omega) hk]
      by_cases e : n = k
      · subst e
        rw [if_neg (fun q => absurd q.1 (Nat.lt_irrefl n)), if_pos rfl, if_pos ⟨Nat.lt_succ_self n, hp⟩]
        rfl
      · rw [if_neg e]
        by_cases g : k < n ∧ P k
        · rw [if_pos g, if_pos ⟨by omega, g.2⟩]
          rfl
        · rw [if_neg g, if_neg (fun q => g ⟨by omega, q.2⟩)]
          rfl
    · rw [if_neg hp, zbt_0]
      by_cases g : k < n ∧ P k
      · rw [if_pos g, if_pos ⟨by omega, g.2⟩]
        rfl
      · rw [if_neg g, if_neg (fun q => g ⟨by
          have := q.1
          rcases Nat.lt_or_ge k n with h | h
          · exact h
          · exact absurd (show k = n by omega) (fun e => hp (e ▸ q.2)), q.2⟩)]
        rfl
theorem zfo_congr {P Q : Nat → Prop} [DecidablePred P] [DecidablePred Q] : ∀ n : Nat, (∀ k, k < n → (P k ↔ Q k)) → zfs P n = zfs Q n
  | 0, _ => rfl
  | n + 1, h => by
    show zor (zfs P n) (if P n then _ else 0) = zor (zfs Q n) (if Q n then _ else 0)
    rw [zfo_congr n (fun k hk => h k (by omega))]
    by_cases hp : P n
    · rw [if_pos hp, if_pos ((h n (Nat.lt_succ_self n)).mp hp)]
    · rw [if_neg hp, if_neg (fun q => hp ((h n (Nat.lt_succ_self n)).mpr q))]
/-- one more in the set -/
theorem zfo_add {P Q : Nat → Prop} [DecidablePred P] [DecidablePred Q] {p : Nat} : ∀ n : Nat, p < n → (∀ k, k < n → (Q k ↔ P k ∨ k = p)) → zfs Q n = zor (zfs P n) (zshl 1 ((p : Nat) : Int))
  | 0, h, _ => absurd h (Nat.not_lt_zero p)
  | n + 1, h, hq => by
    show zor (zfs Q n) (if Q n then _ else 0) = zor (zor (zfs P n) (if P n then _ else 0)) _
    by_cases e : n = p
    · subst e
      rw [if_pos ((hq n (Nat.lt_succ_self n)).mpr (Or.inr rfl)), zfo_congr (P := Q) (Q := P) n (fun k hk => ⟨fun q => ((hq k (by omega)).mp q).resolve_right (by omega), fun q => (hq k (by omega)).mpr (Or.inl q)⟩)]
      by_cases hp : P n
      · rw [if_pos hp, zor_assoc]
        refine congrArg _ ?_
        unfold zor zshl
        simp only [Int32.ofInt_toInt, Int32.or_self]
      · rw [if_neg hp, zor_assoc]
        refine congrArg _ ?_
        unfold zor zshl
        simp only [Int32.ofInt_toInt, show Int32.ofInt 0 = 0 from rfl, Int32.zero_or]
    · rw [zfo_add n (by omega) (fun k hk => hq k (by omega)), zor_assoc, zor_assoc]
      refine congrArg _ ?_
      rw [zor_comm]
      have e2 : Q n ↔ P n := ⟨fun q => ((hq n (Nat.lt_succ_self n)).mp q).resolve_right e, fun q => (hq n (Nat.lt_succ_self n)).mpr (Or.inl q)⟩
      by_cases hp : P n
      · rw [if_pos hp, if_pos (e2.mpr hp)]
      · rw [if_neg hp, if_neg (fun q => hp (e2.mp q))]
