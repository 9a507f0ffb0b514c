/-! an operation's answer lies in its range -/
section YO
variable {a b : Int × Int} {x z : Int32}
theorem ys_bm {z : Int} (h1 : -2147483648 ≤ z) (h2 : z ≤ 2147483647) : z.bmod (2 ^ 32) = z := Int.bmod_eq_of_le (by omega) (by omega)
theorem ys_bm64 {z : Int} (h1 : -9223372036854775808 ≤ z) (h2 : z ≤ 9223372036854775807) : z.bmod (2 ^ 64) = z := Int.bmod_eq_of_le (by omega) (by omega)
theorem ys_nat (x : Int32) (h : 0 ≤ x.toInt) : x.toInt = (x.toBitVec.toNat : Int) ∧ x.toBitVec.toNat < 2147483648 := by
  have e : x.toInt = x.toBitVec.toInt := rfl
  have e2 := BitVec.toInt_eq_toNat_cond x.toBitVec
  have l := x.toBitVec.isLt
  rw [e] at h ⊢
  split at e2 <;> omega
theorem ys_ofnat (x : Int32) (h : x.toBitVec.toNat < 2147483648) : x.toInt = (x.toBitVec.toNat : Int) := by
  have e : x.toInt = x.toBitVec.toInt := rfl
  have e2 := BitVec.toInt_eq_toNat_cond x.toBitVec
  rw [e]
  split at e2 <;> omega
theorem ys_and (h : 0 ≤ x.toInt) : 0 ≤ (x &&& z).toInt ∧ (x &&& z).toInt ≤ x.toInt := by
  obtain ⟨h1, h2⟩ := ys_nat x h
  have e : (x &&& z).toBitVec.toNat = x.toBitVec.toNat &&& z.toBitVec.toNat := by
    rw [Int32.toBitVec_and, BitVec.toNat_and]
  have l : (x &&& z).toBitVec.toNat ≤ x.toBitVec.toNat := by rw [e]; exact Nat.and_le_left
  have k := ys_ofnat (x &&& z) (by omega)
  omega
theorem ys_andr (h : 0 ≤ z.toInt) : 0 ≤ (x &&& z).toInt ∧ (x &&& z).toInt ≤ z.toInt := by
  obtain ⟨h1, h2⟩ := ys_nat z h
  have e : (x &&& z).toBitVec.toNat = x.toBitVec.toNat &&& z.toBitVec.toNat := by
    rw [Int32.toBitVec_and, BitVec.toNat_and]
  have l : (x &&& z).toBitVec.toNat ≤ z.toBitVec.toNat := by rw [e]; exact Nat.and_le_right
  have k := ys_ofnat (x &&& z) (by omega)
  omega
theorem ys_or {n : Int} (h : 0 ≤ x.toInt) (h' : 0 ≤ z.toInt) (hn : x.toInt ≤ n) (hn' : z.toInt ≤ n) (hb : ym_ones n ≤ 2147483647) : 0 ≤ (x ||| z).toInt ∧ (x ||| z).toInt ≤ ym_ones n := by
  obtain ⟨h1, h2⟩ := ys_nat x h
  obtain ⟨h3, h4⟩ := ys_nat z h'
  have e : (x ||| z).toBitVec.toNat = x.toBitVec.toNat ||| z.toBitVec.toNat := by
    rw [Int32.toBitVec_or, BitVec.toNat_or]
  have l := @Nat.lt_log2_self n.toNat
  have l2 : (x ||| z).toBitVec.toNat < 2 ^ (n.toNat.log2 + 1) := by
    rw [e]
    exact Nat.or_lt_two_pow (by omega) (by omega)
  unfold ym_ones at hb ⊢
  have hp : 0 < 2 ^ (n.toNat.log2 + 1) := Nat.two_pow_pos _
  have e3 : Int.ofNat (2 ^ (n.toNat.log2 + 1) - 1) = ((2 ^ (n.toNat.log2 + 1) - 1 : Nat) : Int) := rfl
  rw [e3] at hb ⊢
  generalize 2 ^ (n.toNat.log2 + 1) = N at *
  have k := ys_ofnat (x ||| z) (by omega)
  omega
theorem ys_shr {s : Int32} (h : 0 ≤ x.toInt) : 0 ≤ (x >>> s).toInt ∧ (x >>> s).toInt ≤ x.toInt := by
  have e : (x >>> s).toInt = x.toInt >>> (s.toBitVec.smod 32).toNat := by
    show (BitVec.sshiftRight' x.toBitVec (s.toBitVec.smod 32)).toInt = _
    rw [BitVec.toInt_sshiftRight']
    rfl
  rw [e, Int.shiftRight_eq_div_pow]
  refine ⟨Int.ediv_nonneg h (by exact Int.natCast_nonneg _), ?_⟩
  exact Int.ediv_le_self _ h
theorem ys_divn (h : 0 ≤ x.toInt) (h' : 1 ≤ z.toInt) : (x / z).toInt = x.toInt / z.toInt ∧ 0 ≤ x.toInt / z.toInt ∧ x.toInt / z.toInt ≤ x.toInt := by
  have e : x.toInt.tdiv z.toInt = x.toInt / z.toInt := Int.tdiv_eq_ediv_of_nonneg h
  have l1 : 0 ≤ x.toInt / z.toInt := Int.ediv_nonneg h (by omega)
  have l2 : x.toInt / z.toInt ≤ x.toInt := Int.ediv_le_self _ h
  have l3 := ys_b32 x
  refine ⟨?_, l1, l2⟩
  rw [Int32.toInt_div, e]
  exact ys_bm (by omega) (by omega)
theorem ys_remn (h : 0 ≤ x.toInt) (h' : 1 ≤ z.toInt) : 0 ≤ (x - x / z * z).toInt ∧ (x - x / z * z).toInt ≤ z.toInt - 1 := by
  obtain ⟨e, l1, l2⟩ := ys_divn h h'
  have l3 := ys_b32 x
  have m1 : x.toInt / z.toInt * z.toInt ≤ x.toInt := Int.ediv_mul_le _ (by omega)
  have m0 : 0 ≤ x.toInt / z.toInt * z.toInt := Int.mul_nonneg l1 (by omega)
  have m2 : x.toInt - x.toInt / z.toInt * z.toInt = x.toInt % z.toInt := by
    have := Int.emod_add_mul_ediv x.toInt z.toInt
    have c := Int.mul_comm z.toInt (x.toInt / z.toInt)
    omega
  have m3 := Int.emod_lt_of_pos x.toInt (show 0 < z.toInt by omega)
  rw [Int32.toInt_sub, Int32.toInt_mul, e]
  rw [ys_bm (z := x.toInt / z.toInt * z.toInt) (by omega) (by omega), ys_bm (by omega) (by omega)]
  omega
theorem ys_mulc {a1 a2 c : Int} (h1 : a1 ≤ x.toInt) (h2 : x.toInt ≤ a2) (hc : z.toInt = c) (h0 : 0 ≤ c) (hb : ym_i32 (a1 * c, a2 * c) = true) : a1 * c ≤ (x * z).toInt ∧ (x * z).toInt ≤ a2 * c := by
  have k := ys_i32 hb
  dsimp only at k
  have m1 : a1 * c ≤ x.toInt * c := Int.mul_le_mul_of_nonneg_right h1 h0
  have m2 : x.toInt * c ≤ a2 * c := Int.mul_le_mul_of_nonneg_right h2 h0
  rw [Int32.toInt_mul, hc, ys_bm (by omega) (by omega)]
  exact ⟨m1, m2⟩
/-- the operations but sum and difference -/
theorem ys_iop {i : Instr} {r : Int × Int} {c : Int32} (h : ym_iop i a b = some r) (hc : xm_iop i x z = some c) (a1 : a.1 ≤ x.toInt) (a2 : x.toInt ≤ a.2) (b1 : b.1 ≤ z.toInt) (b2 : z.toInt ≤ b.2) (hr : ym_i32 r = true) : r.1 ≤ c.toInt ∧ c.toInt ≤ r.2 := by
  have top : ym_topi.1 ≤ c.toInt ∧ c.toInt ≤ ym_topi.2 := ys_b32 c
  cases i with
  | iadd =>
    cases h
    cases hc
    have k := ys_i32 hr
    dsimp only at k ⊢
    rw [Int32.toInt_add, ys_bm (by omega) (by omega)]
    omega
  | isub =>
    cases h
    cases hc
    have k := ys_i32 hr
    dsimp only at k ⊢
    rw [Int32.toInt_sub, ys_bm (by omega) (by omega)]
    omega
  | imul =>
    have h : (bif decide (b.1 = b.2) && decide (0 ≤ b.1) then some (a.1 * b.1, a.2 * b.1) else bif decide (a.1 = a.2) && decide (0 ≤ a.1) then some (b.1 * a.1, b.2 * a.1) else some ym_topi) = some r := h
    cases hd : (decide (b.1 = b.2) && decide (0 ≤ b.1)) with
    | false =>
      rw [hd, cond_false] at h
      cases hd2 : (decide (a.1 = a.2) && decide (0 ≤ a.1)) with
      | false => rw [hd2] at h; cases h; exact top
      | true =>
        rw [hd2] at h
        cases h
        cases hc
        rw [Bool.and_eq_true, decide_eq_true_eq, decide_eq_true_eq] at hd2
        rw [Int32.mul_comm]
        exact ys_mulc b1 b2 (by omega) hd2.2 hr
    | true =>
      rw [hd] at h
      cases h
      cases hc
      rw [Bool.and_eq_true, decide_eq_true_eq, decide_eq_true_eq] at hd
      exact ys_mulc a1 a2 (by omega) hd.2 hr
  | iand =>
    cases hc
    have h : (bif decide (0 ≤ a.1) then some (0, bif decide (0 ≤ b.1) then min a.2 b.2 else a.2) else bif decide (0 ≤ b.1) then some (0, b.2) else some ym_topi) = some r := h
    by_cases p1 : 0 ≤ a.1
    · rw [decide_eq_true p1, cond_true] at h
      have m := ys_and (x := x) (z := z) (by omega)
      by_cases p2 : 0 ≤ b.1
      · rw [decide_eq_true p2, cond_true] at h
        cases h
        have m' := ys_andr (x := x) (z := z) (by omega)
        dsimp only
        omega
      · rw [decide_eq_false p2, cond_false] at h
        cases h
        dsimp only
        omega
    · rw [decide_eq_false p1, cond_false] at h
      by_cases p2 : 0 ≤ b.1
      · rw [decide_eq_true p2, cond_true] at h
        cases h
        have m' := ys_andr (x := x) (z := z) (by omega)
        dsimp only
        omega
      · rw [decide_eq_false p2, cond_false] at h
        cases h
        exact top
  | ior =>
    cases hc
    have h : (bif decide (0 ≤ a.1) && decide (0 ≤ b.1) then some (0, ym_ones (max a.2 b.2)) else some ym_topi) = some r := h
    cases hd : (decide (0 ≤ a.1) && decide (0 ≤ b.1)) with
    | false => rw [hd] at h; cases h; exact top
    | true =>
      rw [hd] at h
      cases h
      rw [Bool.and_eq_true, decide_eq_true_eq, decide_eq_true_eq] at hd
      have k := ys_i32 hr
      exact ys_or (by omega) (by omega) (by omega) (by omega) k.2
  | ixor => cases h; exact top
  | ishl => cases h; exact top
  | iushr => cases h; exact top
  | ishr =>
    cases hc
    have h : (bif decide (0 ≤ a.1) then some (0, a.2) else some ym_topi) = some r := h
    by_cases p1 : 0 ≤ a.1
    · rw [decide_eq_true p1, cond_true] at h
      cases h
      have m := ys_shr (x := x) (s := z &&& 31) (by omega)
      dsimp only
      omega
    · rw [decide_eq_false p1, cond_false] at h
      cases h
      exact top
  | idiv =>
    have h : (bif decide (1 ≤ b.1) then (bif decide (0 ≤ a.1) then some (0, a.2) else some ym_topi) else none) = some r := h
    by_cases p1 : 1 ≤ b.1
    · rw [decide_eq_true p1, cond_true] at h
      by_cases p2 : 0 ≤ a.1
      · rw [decide_eq_true p2, cond_true] at h
        cases h
        have hc : (bif decide (z = 0) then none else some (x / z)) = some c := hc
        rw [decide_eq_false (fun q => by subst q; have e : (0 : Int32).toInt = 0 := rfl; omega)] at hc
        cases hc
        obtain ⟨e, l1, l2⟩ := ys_divn (x := x) (z := z) (by omega) (by omega)
        dsimp only
        omega
      · rw [decide_eq_false p2, cond_false] at h
        cases h
        exact top
    · rw [decide_eq_false p1, cond_false] at h
      cases h
  | irem =>
    have h : (bif decide (1 ≤ b.1) then (bif decide (0 ≤ a.1) then some (0, b.2 - 1) else some ym_topi) else none) = some r := h
    by_cases p1 : 1 ≤ b.1
    · rw [decide_eq_true p1, cond_true] at h
      by_cases p2 : 0 ≤ a.1
      · rw [decide_eq_true p2, cond_true] at h
        cases h
        have hc : (bif decide (z = 0) then none else some (x - x / z * z)) = some c := hc
        rw [decide_eq_false (fun q => by subst q; have e : (0 : Int32).toInt = 0 := rfl; omega)] at hc
        cases hc
        have l := ys_remn (x := x) (z := z) (by omega) (by omega)
        dsimp only
        omega
      · rw [decide_eq_false p2, cond_false] at h
        cases h
        exact top
    · rw [decide_eq_false p1, cond_false] at h
      cases h
  | _ => cases h
theorem ys_iopd {i : Instr} {r : Int × Int} (h : ym_iop i a b = some r) (b1 : b.1 ≤ z.toInt) : ∃ c, xm_iop i x z = some c := by
  cases i with
  | iadd => exact ⟨_, rfl⟩
  | isub => exact ⟨_, rfl⟩
  | imul => exact ⟨_, rfl⟩
  | iand => exact ⟨_, rfl⟩
  | ior => exact ⟨_, rfl⟩
  | ixor => exact ⟨_, rfl⟩
  | ishl => exact ⟨_, rfl⟩
  | ishr => exact ⟨_, rfl⟩
  | iushr => exact ⟨_, rfl⟩
  | idiv =>
    have h : (bif decide (1 ≤ b.1) then (bif decide (0 ≤ a.1) then some (0, a.2) else some ym_topi) else none) = some r := h
    by_cases p1 : 1 ≤ b.1
    · refine ⟨x / z, ?_⟩
      show (bif decide (z = 0) then none else some (x / z)) = _
      rw [decide_eq_false (fun q => by subst q; have e : (0 : Int32).toInt = 0 := rfl; omega)]
      rfl
    · rw [decide_eq_false p1, cond_false] at h
      cases h
  | irem =>
    have h : (bif decide (1 ≤ b.1) then (bif decide (0 ≤ a.1) then some (0, b.2 - 1) else some ym_topi) else none) = some r := h
    by_cases p1 : 1 ≤ b.1
    · refine ⟨x - x / z * z, ?_⟩
      show (bif decide (z = 0) then none else some (x - x / z * z)) = _
      rw [decide_eq_false (fun q => by subst q; have e : (0 : Int32).toInt = 0 := rfl; omega)]
      rfl
    · rw [decide_eq_false p1, cond_false] at h
      cases h
  | _ => cases h
end YO
section YP
variable {a b : Int × Int} {x z : Int64}
theorem ys_ldivn (h : 0 ≤ x.toInt) (h' : 1 ≤ z.toInt) : (x / z).toInt = x.toInt / z.toInt ∧ 0 ≤ x.toInt / z.toInt ∧ x.toInt / z.toInt ≤ x.toInt := by
  have e : x.toInt.tdiv z.toInt = x.toInt / z.toInt := Int.tdiv_eq_ediv_of_nonneg h
  have l1 : 0 ≤ x.toInt / z.toInt := Int.ediv_nonneg h (by omega)
  have l2 : x.toInt / z.toInt ≤ x.toInt := Int.ediv_le_self _ h
  have l3 := ys_b64 x
  refine ⟨?_, l1, l2⟩
  rw [Int64.toInt_div, e]
  exact ys_bm64 (by omega) (by omega)
theorem ys_lremn (h : 0 ≤ x.toInt) (h' : 1 ≤ z.toInt) : 0 ≤ (x - x / z * z).toInt ∧ (x - x / z * z).toInt ≤ z.toInt - 1 := by
  obtain ⟨e, l1, l2⟩ := ys_ldivn h h'
  have l3 := ys_b64 x
  have m1 : x.toInt / z.toInt * z.toInt ≤ x.toInt := Int.ediv_mul_le _ (by omega)
  have m0 : 0 ≤ x.toInt / z.toInt * z.toInt := Int.mul_nonneg l1 (by omega)
  have m2 : x.toInt - x.toInt / z.toInt * z.toInt = x.toInt % z.toInt := by
    have := Int.emod_add_mul_ediv x.toInt z.toInt
    have c := Int.mul_comm z.toInt (x.toInt / z.toInt)
    omega
  have m3 := Int.emod_lt_of_pos x.toInt (show 0 < z.toInt by omega)
  rw [Int64.toInt_sub, Int64.toInt_mul, e]
  rw [ys_bm64 (z := x.toInt / z.toInt * z.toInt) (by omega) (by omega), ys_bm64 (by omega) (by omega)]
  omega
theorem ys_lmulc {a1 a2 c : Int} (h1 : a1 ≤ x.toInt) (h2 : x.toInt ≤ a2) (hc : z.toInt = c) (h0 : 0 ≤ c) (hb : ym_i64 (a1 * c, a2 * c) = true) : a1 * c ≤ (x * z).toInt ∧ (x * z).toInt ≤ a2 * c := by
  have k := ys_i64 hb
  dsimp only at k
  have m1 : a1 * c ≤ x.toInt * c := Int.mul_le_mul_of_nonneg_right h1 h0
  have m2 : x.toInt * c ≤ a2 * c := Int.mul_le_mul_of_nonneg_right h2 h0
  rw [Int64.toInt_mul, hc, ys_bm64 (by omega) (by omega)]
  exact ⟨m1, m2⟩
theorem ys_lop {i : Instr} {r : Int × Int} (h : ym_lop i a b = some r) (a1 : a.1 ≤ x.toInt) (a2 : x.toInt ≤ a.2) (b1 : b.1 ≤ z.toInt) (b2 : z.toInt ≤ b.2) : ∃ c, xm_lop i x z = some c ∧ (ym_i64 r = true → r.1 ≤ c.toInt ∧ c.toInt ≤ r.2) := by
  have top : ∀ c : Int64, ym_topl.1 ≤ c.toInt ∧ c.toInt ≤ ym_topl.2 := fun c => ys_b64 c
  have z0 : ∀ α : Type, ∀ p q : α, (1 ≤ b.1 ∨ b.2 ≤ -1) → (bif decide (z = 0) then p else q) = q := by
    intro α p q hq
    rw [decide_eq_false (fun e => by subst e; have e : (0 : Int64).toInt = 0 := rfl; omega)]
    rfl
  cases i with
  | ladd =>
    cases h
    refine ⟨_, rfl, fun hr => ?_⟩
    have k := ys_i64 hr
    dsimp only at k ⊢
    rw [Int64.toInt_add, ys_bm64 (by omega) (by omega)]
    omega
  | lsub => cases h; exact ⟨_, rfl, fun _ => top _⟩
  | land => cases h; exact ⟨_, rfl, fun _ => top _⟩
  | lor => cases h; exact ⟨_, rfl, fun _ => top _⟩
  | lmul =>
    have h : (bif decide (b.1 = b.2) && decide (0 ≤ b.1) then some (a.1 * b.1, a.2 * b.1) else some ym_topl) = some r := h
    refine ⟨_, rfl, fun hr => ?_⟩
    cases hd : (decide (b.1 = b.2) && decide (0 ≤ b.1)) with
    | false => rw [hd] at h; cases h; exact top _
    | true =>
      rw [hd] at h
      cases h
      rw [Bool.and_eq_true, decide_eq_true_eq, decide_eq_true_eq] at hd
      exact ys_lmulc a1 a2 (by omega) hd.2 hr
  | ldiv =>
    have h : (bif decide (1 ≤ b.1) && (decide (0 ≤ a.1) && decide (b.1 = b.2)) then some (0, a.2 / b.1) else bif decide (1 ≤ b.1) || decide (b.2 ≤ -1) then some ym_topl else none) = some r := h
    cases hd : (decide (1 ≤ b.1) && (decide (0 ≤ a.1) && decide (b.1 = b.2))) with
    | true =>
      rw [hd] at h
      cases h
      rw [Bool.and_eq_true, Bool.and_eq_true, decide_eq_true_eq, decide_eq_true_eq, decide_eq_true_eq] at hd
      refine ⟨x / z, z0 _ _ _ (Or.inl hd.1), fun _ => ?_⟩
      obtain ⟨e, l1, l2⟩ := ys_ldivn (x := x) (z := z) (by omega) (by omega)
      have ez : z.toInt = b.1 := by omega
      rw [e]
      refine ⟨l1, ?_⟩
      rw [ez]
      exact Int.ediv_le_ediv (by omega) a2
    | false =>
      rw [hd, cond_false] at h
      cases hd2 : (decide (1 ≤ b.1) || decide (b.2 ≤ -1)) with
      | false => rw [hd2] at h; cases h
      | true =>
        rw [hd2] at h
        cases h
        rw [Bool.or_eq_true, decide_eq_true_eq, decide_eq_true_eq] at hd2
        exact ⟨x / z, z0 _ _ _ hd2, fun _ => top _⟩
  | lrem =>
    have h : (bif decide (1 ≤ b.1) && decide (0 ≤ a.1) then some (0, b.2 - 1) else bif decide (1 ≤ b.1) || decide (b.2 ≤ -1) then some ym_topl else none) = some r := h
    cases hd : (decide (1 ≤ b.1) && decide (0 ≤ a.1)) with
    | true =>
      rw [hd] at h
      cases h
      rw [Bool.and_eq_true, decide_eq_true_eq, decide_eq_true_eq] at hd
      refine ⟨x - x / z * z, z0 _ _ _ (Or.inl hd.1), fun _ => ?_⟩
      have l := ys_lremn (x := x) (z := z) (by omega) (by omega)
      dsimp only
      omega
    | false =>
      rw [hd, cond_false] at h
      cases hd2 : (decide (1 ≤ b.1) || decide (b.2 ≤ -1)) with
      | false => rw [hd2] at h; cases h
      | true =>
        rw [hd2] at h
        cases h
        rw [Bool.or_eq_true, decide_eq_true_eq, decide_eq_true_eq] at hd2
        exact ⟨x - x / z * z, z0 _ _ _ hd2, fun _ => top _⟩
  | _ => cases h
end YP
