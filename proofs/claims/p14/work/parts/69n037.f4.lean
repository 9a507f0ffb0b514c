/-! the same, of a state whose told cell is given; the words of a telling in the reference -/
section FS
variable {s : zS} {σ : Int → Int} {p q k f x a b L : Int} {n : Nat}
theorem zr_per (hs : s 354 = σ) (p0 : 0 ≤ p) (p6 : p ≤ 6) (k0 : 0 ≤ k) (k1 : k ≤ 10) : zE xm_c178 [344, p, k] s (zpe σ p k) s := by
  subst hs
  exact zq_per p0 p6 k0 k1
theorem zr_know (hs : s 354 = σ) (p0 : 0 ≤ p) (p6 : p ≤ 6) : zE xm_c179 [344, p] s (if zpe σ p 8 < 0 then 0 else 1) s := by
  subst hs
  exact zq_know p0 p6
theorem zr_stand (hs : s 354 = σ) (p0 : 0 ≤ p) (p6 : p ≤ 6) : zE xm_c180 [344, p] s (if zpe σ p 0 = zpe σ p 1 then 1 else 0) s := by
  subst hs
  exact zq_stand p0 p6
theorem zr_night (hs : s 354 = σ) : zE xm_c182 [344, b] s (if 0 ≤ σ 5 ∧ σ 5 ≤ b then 1 else 0) s := by
  subst hs
  exact zq_night
theorem zr_on (hs : s 354 = σ) (hL : s 344 23 = L) (p0 : 0 ≤ p) (p6 : p ≤ 6) : zE xm_c190 [344, p, f] s (if zon σ L p f then 1 else 0) s := by
  subst hs
  subst hL
  exact zq_on p0 p6
theorem zr_oth (hs : s 354 = σ) (hL : s 344 23 = L) (hn : σ 1 = ((n : Nat) : Int)) (h7 : n ≤ 7) : zE xm_c191 [344, f, a, b, 0, 0] s (zct (zot σ L f a b) n) s := by
  subst hs
  subst hL
  exact zq_oth hn h7
theorem zr_knowing (hs : s 354 = σ) (hn : σ 1 = ((n : Nat) : Int)) (h7 : n ≤ 7) : zE xm_c181 [344, 0, 0] s (zfs (zkn σ) n) s := by
  subst hs
  exact zq_knowing hn h7
theorem zor_nat {m n : Nat} (hm : m < 2 ^ 31) (hn : n < 2 ^ 31) : zor ((m : Nat) : Int) ((n : Nat) : Int) = ((m ||| n : Nat) : Int) := by
  have e : ∀ k : Nat, k < 2 ^ 31 → (BitVec.ofInt 32 ((k : Nat) : Int)).toNat = k := fun k hk => by
    rw [BitVec.toNat_ofInt]
    have : ((2 ^ 32 : Nat) : Int) = 4294967296 := by decide
    have h31 : (2 : Nat) ^ 31 = 2147483648 := by decide
    rw [this]
    omega
  have h31 : (2 : Nat) ^ 31 = 2147483648 := by decide
  have h32 : (2 : Nat) ^ 32 = 4294967296 := by decide
  have e2 : ((BitVec.ofInt 32 ((m : Nat) : Int)) ||| (BitVec.ofInt 32 ((n : Nat) : Int))).toNat = m ||| n := by
    rw [BitVec.toNat_or, e m hm, e n hn]
  show ((BitVec.ofInt 32 ((m : Nat) : Int)) ||| (BitVec.ofInt 32 ((n : Nat) : Int))).toInt = _
  have lt := Nat.or_lt_two_pow hm hn
  rw [BitVec.toInt_eq_toNat_of_lt (by rw [e2]; omega), e2]
theorem zfo_r {P : Nat → Prop} [DecidablePred P] : ∀ n : Nat, n ≤ 7 → 0 ≤ zfs P n ∧ zfs P n < 128
  | 0, _ => ⟨Int.le_refl 0, show (0 : Int) < 128 from by decide⟩
  | n + 1, h => by
    have ih := zfo_r (P := P) n (by omega)
    obtain ⟨m, e⟩ := Int.eq_ofNat_of_zero_le ih.1
    have h31 : (2 : Nat) ^ 31 = 2147483648 := by decide
    have k : ∃ j : Nat, (if P n then zshl 1 ((n : Nat) : Int) else 0) = ((j : Nat) : Int) ∧ j < 2 ^ 7 := by
      by_cases hp : P n
      · rw [if_pos hp]
        have hd : ∀ i : Fin 7, ∃ j : Fin 128, zshl 1 ((i.val : Nat) : Int) = ((j.val : Nat) : Int) := by decide +kernel
        obtain ⟨j, hj⟩ := hd ⟨n, by omega⟩
        exact ⟨j.val, hj, j.isLt⟩
      · rw [if_neg hp]
        exact ⟨0, rfl, by decide⟩
    obtain ⟨j, ej, hj⟩ := k
    have h7 : (2 : Nat) ^ 7 = 128 := by decide
    show 0 ≤ zor (zfs P n) _ ∧ zor (zfs P n) _ < 128
    rw [ej, e, zor_nat (by omega) (by omega)]
    have := Nat.or_lt_two_pow (n := 7) (show m < 2 ^ 7 by omega) hj
    omega
/-- the words that a telling of a to b is judged by -/
def zws (σ : Int → Int) (L : Int) (n : Nat) (a b : Int) (k : Int) : Int := if k = 0 then a else if k = 1 then b else if k = 2 then zpe σ a 0 else if k = 3 then σ 4 else if k = 4 then zpe σ a 9 else if k = 5 then zw (σ 4 - zpe σ a 8) else if k = 6 then (if zpe σ b 4 = zpe σ a 0 then 1 else 0) else if k = 7 then zct (zot σ L (zpe σ a 0) a b) n else if k = 8 then zbc (zfs (zkn σ) n) else if k = 9 then (if 0 ≤ σ 5 ∧ σ 5 ≤ σ 4 then 1 else 0) else zpe σ a 7
theorem zr_words (hs : s 354 = σ) (hL : s 344 23 = L) (hn : σ 1 = ((n : Nat) : Int)) (h7 : n ≤ 7) (a0 : 0 ≤ a) (a6 : a ≤ 6) (b0 : 0 ≤ b) (b6 : b ≤ 6) : ∃ s', zE xm_c192 [344, a, b, 0] s 0 s' ∧ (∀ x, x ≠ 353 → s' x = s x) ∧ ∀ k, 0 ≤ k → k ≤ 10 → s' 353 k = zws σ L n a b k := by
  have hf := zfo_r (P := zkn σ) n h7
  have t3 : ∀ (t : zS) (v : Int), t 354 = σ → zA xm_c192 76 [344, a, b, zpe σ a 0] [(false, v), (false, 7), (false, 344 + 9)] t (0, zu (zu (zu (zu t 353 7 v) 353 8 (zbc (zfs (zkn σ) n))) 353 9 (if 0 ≤ σ 5 ∧ σ 5 ≤ σ 4 then 1 else 0)) 353 10 (zpe σ a 7)) := fun t v ht => by
    refine zb_192_76 (s1 := zu t 353 7 v) (zr_knowing (s := zu t 353 7 v) (σ := σ) ht hn h7) (zb_192_83 (zq_bits hf.1 hf.2) (zb_192_84 (s1 := zu (zu t 353 7 v) 353 8 (zbc (zfs (zkn σ) n))) (r := if 0 ≤ σ 5 ∧ σ 5 ≤ σ 4 then 1 else 0) ?_ (zb_192_95 (fun e => ?_) (fun e => ?_))))
    · have z := zr_night (s := zu (zu t 353 7 v) 353 8 (zbc (zfs (zkn σ) n))) (σ := σ) (b := t 354 4) ht
      rw [ht] at z
      show zE xm_c182 [344, t 354 4] _ _ _
      rw [ht]
      exact z
    · rw [e]
      exact zb_192_98 (s1 := zu (zu (zu t 353 7 v) 353 8 (zbc (zfs (zkn σ) n))) 353 9 0) (zr_per (s := zu (zu (zu t 353 7 v) 353 8 (zbc (zfs (zkn σ) n))) 353 9 0) (σ := σ) ht a0 a6 (by decide) (by decide)) (zb_192_107 rfl)
    · rw [show (if 0 ≤ σ 5 ∧ σ 5 ≤ σ 4 then (1 : Int) else 0) = 1 from by
        by_cases g : 0 ≤ σ 5 ∧ σ 5 ≤ σ 4
        · exact if_pos g
        · exact absurd (if_neg g) e]
      exact zb_192_96 (s1 := zu (zu (zu t 353 7 v) 353 8 (zbc (zfs (zkn σ) n))) 353 9 1) (zr_per (s := zu (zu (zu t 353 7 v) 353 8 (zbc (zfs (zkn σ) n))) 353 9 1) (σ := σ) ht a0 a6 (by decide) (by decide)) (zb_192_107 rfl)
  have t2 : ∀ (t : zS), t 354 = σ → t 344 23 = L → zA xm_c192 62 [344, a, b, zpe σ a 0] [(false, zpe σ b 4), (false, 6), (false, 344 + 9)] t (0, zu (zu (zu (zu (zu t 353 6 (if zpe σ b 4 = zpe σ a 0 then 1 else 0)) 353 7 (zct (zot σ L (zpe σ a 0) a b) n)) 353 8 (zbc (zfs (zkn σ) n))) 353 9 (if 0 ≤ σ 5 ∧ σ 5 ≤ σ 4 then 1 else 0)) 353 10 (zpe σ a 7)) := fun t ht hl => by
    refine zb_192_62 (fun e => ?_) (fun e => ?_)
    · rw [if_pos e]
      exact zb_192_64 (s1 := zu t 353 6 1) (zr_oth (s := zu t 353 6 1) (σ := σ) (L := L) ht hl hn h7) (t3 (zu t 353 6 1) _ ht)
    · rw [if_neg e]
      exact zb_192_66 (s1 := zu t 353 6 0) (zr_oth (s := zu t 353 6 0) (σ := σ) (L := L) ht hl hn h7) (t3 (zu t 353 6 0) _ ht)
  have h4 : s 354 4 = σ 4 := by rw [hs]
  refine ⟨zu (zu (zu (zu (zu (zu (zu (zu (zu (zu (zu s 353 0 a) 353 1 b) 353 2 (zpe σ a 0)) 353 3 (σ 4)) 353 4 (zpe σ a 9)) 353 5 (zw (σ 4 - zpe σ a 8))) 353 6 (if zpe σ b 4 = zpe σ a 0 then 1 else 0)) 353 7 (zct (zot σ L (zpe σ a 0) a b) n)) 353 8 (zbc (zfs (zkn σ) n))) 353 9 (if 0 ≤ σ 5 ∧ σ 5 ≤ σ 4 then 1 else 0)) 353 10 (zpe σ a 7), zb_192_0 (zr_per hs a0 a6 (by decide) (by decide)) (zb_192_4 (s1 := zu (zu (zu (zu s 353 0 a) 353 1 b) 353 2 (zpe σ a 0)) 353 3 (σ 4)) (r := zpe σ a 9) ?_ (zb_192_39 (s1 := zu (zu (zu (zu (zu s 353 0 a) 353 1 b) 353 2 (zpe σ a 0)) 353 3 (σ 4)) 353 4 (zpe σ a 9)) (r := zpe σ a 8) ?_ (zb_192_52 (s1 := zu (zu (zu (zu (zu (zu s 353 0 a) 353 1 b) 353 2 (zpe σ a 0)) 353 3 (σ 4)) 353 4 (zpe σ a 9)) 353 5 (zw (σ 4 - zpe σ a 8))) (r := zpe σ b 4) ?_ (t2 _ hs hL)))), ?_, ?_⟩
  · show zE xm_c178 [344, a, 9] (zu (zu (zu (zu s 353 0 a) 353 1 b) 353 2 (zpe σ a 0)) 353 3 (s 354 4)) _ _
    rw [h4]
    exact zr_per (s := zu (zu (zu (zu s 353 0 a) 353 1 b) 353 2 (zpe σ a 0)) 353 3 (σ 4)) (σ := σ) hs a0 a6 (by decide) (by decide)
  · exact zr_per (s := zu (zu (zu (zu (zu s 353 0 a) 353 1 b) 353 2 (zpe σ a 0)) 353 3 (σ 4)) 353 4 (zpe σ a 9)) (σ := σ) hs a0 a6 (by decide) (by decide)
  · show zE xm_c178 [344, b, 4] (zu (zu (zu (zu (zu (zu s 353 0 a) 353 1 b) 353 2 (zpe σ a 0)) 353 3 (σ 4)) 353 4 (zpe σ a 9)) 353 5 (zw (s 354 4 - zpe σ a 8))) _ _
    rw [h4]
    exact zr_per (s := zu (zu (zu (zu (zu (zu s 353 0 a) 353 1 b) 353 2 (zpe σ a 0)) 353 3 (σ 4)) 353 4 (zpe σ a 9)) 353 5 (zw (σ 4 - zpe σ a 8))) (σ := σ) hs b0 b6 (by decide) (by decide)
  · intro x hx
    funext y
    rw [zu_cell hx, zu_cell hx, zu_cell hx, zu_cell hx, zu_cell hx, zu_cell hx, zu_cell hx, zu_cell hx, zu_cell hx, zu_cell hx, zu_cell hx]
  · intro k h0 h1
    rcases (show k = 0 ∨ k = 1 ∨ k = 2 ∨ k = 3 ∨ k = 4 ∨ k = 5 ∨ k = 6 ∨ k = 7 ∨ k = 8 ∨ k = 9 ∨ k = 10 by omega) with rfl | rfl | rfl | rfl | rfl | rfl | rfl | rfl | rfl | rfl | rfl <;> rfl
end FS
