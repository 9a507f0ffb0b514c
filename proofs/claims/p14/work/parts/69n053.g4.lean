/-! sets of persons as both sides hold them; the landings' bits -/
theorem zand_fo_or (a b X : Int) : zand (zor a b) X = zor (zand a X) (zand b X) := by
  unfold zand zor
  simp only [Int32.ofInt_toInt, zi_ao]
theorem zand_0l (X : Int) : zand 0 X = 0 := by
  unfold zand
  rw [show Int32.ofInt 0 = 0 from rfl, Int32.zero_and]
  rfl
theorem zand_bit {p : Nat} (hp : p < 16) (X : Int) : zand (zshl 1 ((p : Nat) : Int)) X = if zbt X ((p : Nat) : Int) = 1 then zshl 1 ((p : Nat) : Int) else 0 := by
  have h1 : ∀ p : Fin 16, (Int32.ofInt 1 <<< (Int32.ofInt ((p.val : Nat) : Int) &&& 31)).toBitVec = BitVec.twoPow 32 p.val := by decide
  have h2 : ∀ p : Fin 16, ((Int32.ofInt ((p.val : Nat) : Int) &&& 31).toBitVec).smod 32 = BitVec.ofNat 32 p.val := by decide
  have h3 : ∀ p : Fin 16, (BitVec.ofNat 32 p.val).toNat = p.val := by decide
  have a1 := h1 ⟨p, hp⟩
  have a2 := h2 ⟨p, hp⟩
  have a3 := h3 ⟨p, hp⟩
  have e : zbt X ((p : Nat) : Int) = 1 ↔ (Int32.ofInt X).toBitVec.getLsbD p = true := by
    have k : (Int32.ofInt X >>> (Int32.ofInt ((p : Nat) : Int) &&& 31)).toBitVec = (Int32.ofInt X).toBitVec.sshiftRight p := by
      show (Int32.ofInt X).toBitVec.sshiftRight' (((Int32.ofInt ((p : Nat) : Int) &&& 31).toBitVec).smod 32) = _
      rw [a2]
      show (Int32.ofInt X).toBitVec.sshiftRight (BitVec.ofNat 32 p).toNat = _
      rw [a3]
    have k2 : ((Int32.ofInt X >>> (Int32.ofInt ((p : Nat) : Int) &&& 31)) &&& Int32.ofInt 1).toBitVec = (Int32.ofInt X).toBitVec.sshiftRight p &&& 1#32 := by
      rw [Int32.toBitVec_and, k]
      rfl
    have k3 : ((Int32.ofInt X).toBitVec.sshiftRight p &&& 1#32) = if (Int32.ofInt X).toBitVec.getLsbD p then 1#32 else 0#32 := by
      apply BitVec.eq_of_getLsbD_eq
      intro i hi
      rw [BitVec.getLsbD_and, BitVec.getLsbD_sshiftRight]
      by_cases d : i = 0
      · subst d
        rw [if_pos (by omega)]
        cases (Int32.ofInt X).toBitVec.getLsbD (p + 0) <;> rfl
      · have z1 : (1#32).getLsbD i = false := by
          rw [BitVec.getLsbD_one]
          simp only [decide_eq_false_iff_not, Bool.and_eq_false_imp]
          omega
        rw [z1, Bool.and_false]
        by_cases c : (Int32.ofInt X).toBitVec.getLsbD p = true
        · rw [if_pos c, z1]
        · rw [if_neg c]
          exact BitVec.getLsbD_zero.symm
    show ((Int32.ofInt (Int32.ofInt X >>> (Int32.ofInt ((p : Nat) : Int) &&& 31)).toInt &&& Int32.ofInt 1).toInt = 1) ↔ _
    rw [Int32.ofInt_toInt]
    have k4 : ((Int32.ofInt X >>> (Int32.ofInt ((p : Nat) : Int) &&& 31)) &&& Int32.ofInt 1) = if (Int32.ofInt X).toBitVec.getLsbD p then 1 else 0 := zi_ext (by
      rw [k2, k3]
      by_cases c : (Int32.ofInt X).toBitVec.getLsbD p = true
      · rw [if_pos c, if_pos c]
        rfl
      · rw [if_neg c, if_neg c]
        rfl)
    rw [k4]
    by_cases c : (Int32.ofInt X).toBitVec.getLsbD p = true
    · rw [if_pos c]
      exact ⟨fun _ => c, fun _ => rfl⟩
    · rw [if_neg c]
      exact ⟨fun q => absurd q (by decide), fun q => absurd q c⟩
  have m : (Int32.ofInt 1 <<< (Int32.ofInt ((p : Nat) : Int) &&& 31)) &&& Int32.ofInt X = if (Int32.ofInt X).toBitVec.getLsbD p = true then (Int32.ofInt 1 <<< (Int32.ofInt ((p : Nat) : Int) &&& 31)) else 0 := zi_ext (by
    rw [Int32.toBitVec_and, a1]
    apply BitVec.eq_of_getLsbD_eq
    intro i hi
    rw [BitVec.getLsbD_and, BitVec.getLsbD_twoPow]
    by_cases c : (Int32.ofInt X).toBitVec.getLsbD p = true
    · rw [if_pos c, a1, BitVec.getLsbD_twoPow]
      by_cases d : p = i
      · subst d
        rw [c, Bool.and_true]
      · rw [show decide (p = i) = false from decide_eq_false d]
        rw [Bool.and_false, Bool.false_and]
    · rw [if_neg c]
      have z : (0 : Int32).toBitVec.getLsbD i = false := BitVec.getLsbD_zero
      rw [z]
      by_cases d : p = i
      · subst d
        rw [eq_false_of_ne_true c, Bool.and_false]
      · rw [show decide (p = i) = false from decide_eq_false d]
        rw [Bool.and_false, Bool.false_and])
  show ((Int32.ofInt (Int32.ofInt 1 <<< (Int32.ofInt ((p : Nat) : Int) &&& 31)).toInt) &&& Int32.ofInt X).toInt = _
  rw [Int32.ofInt_toInt, m]
  by_cases c : (Int32.ofInt X).toBitVec.getLsbD p = true
  · rw [if_pos c, if_pos (e.mpr c)]
    rfl
  · rw [if_neg c, if_neg (fun q => c (e.mp q))]
    rfl
/-- a set of persons cut with any set -/
theorem zfo_and {P : Nat → Prop} [DecidablePred P] {Q : Nat → Prop} [DecidablePred Q] {X : Int} : ∀ n : Nat, n ≤ 16 → (∀ p, p < n → (Q p ↔ P p ∧ zbt X ((p : Nat) : Int) = 1)) → zand (zfs P n) X = zfs Q n
  | 0, _, _ => zand_0l X
  | n + 1, hn, h => by
    show zand (zor (zfs P n) (if P n then zshl 1 ((n : Nat) : Int) else 0)) X = zor (zfs Q n) (if Q n then zshl 1 ((n : Nat) : Int) else 0)
    rw [zand_fo_or, zfo_and n (by omega) (fun p hp => h p (by omega))]
    refine congrArg _ ?_
    have hq := h n (Nat.lt_succ_self n)
    by_cases c : P n
    · rw [if_pos c, zand_bit (by omega)]
      by_cases d : zbt X ((n : Nat) : Int) = 1
      · rw [if_pos d, if_pos (hq.mpr ⟨c, d⟩)]
      · rw [if_neg d, if_neg (fun q => d (hq.mp q).2)]
    · rw [if_neg c, zand_0l, if_neg (fun q => c (hq.mp q).1)]
theorem zbt_not {X : Int} {p : Nat} (hp : p < 16) : zbt (zxor X (-1)) ((p : Nat) : Int) = 1 ↔ ¬ zbt X ((p : Nat) : Int) = 1 := by
  have h1 : ∀ p : Fin 16, zbt (-1) ((p.val : Nat) : Int) = 1 := by decide
  have e := h1 ⟨p, hp⟩
  rw [zbt_xor, e]
  rcases zbt_01 X ((p : Nat) : Int) with h | h
  · rw [h]
    decide
  · rw [h]
    decide
theorem zbt_fo1 {P : Nat → Prop} [DecidablePred P] {k n : Nat} (hk : k < n) (hn : n ≤ 16) : zbt (zfs P n) ((k : Nat) : Int) = 1 ↔ P k := by
  rw [zbt_fo (by omega) n hn]
  by_cases c : P k
  · rw [if_pos ⟨hk, c⟩]
    exact ⟨fun _ => c, fun _ => rfl⟩
  · rw [if_neg (fun q => c q.2)]
    exact ⟨fun q => absurd q (by decide), fun q => absurd q c⟩
theorem zfo_z {P : Nat → Prop} [DecidablePred P] {n : Nat} (hn : n ≤ 16) : zfs P n = 0 ↔ ∀ p, p < n → ¬ P p := by
  refine ⟨fun h p hp c => ?_, fun h => ?_⟩
  · have := (zbt_fo1 (P := P) hp hn).mpr c
    rw [h, zbt_0] at this
    exact absurd this (by decide)
  · have : ∀ n : Nat, (∀ p, p < n → ¬ P p) → zfs P n = 0 := fun n => by
      induction n with
      | zero => intro _; rfl
      | succ n ih =>
        intro h
        show zor (zfs P n) (if P n then _ else 0) = 0
        rw [ih (fun p hp => h p (by omega)), if_neg (h n (Nat.lt_succ_self n))]
        decide
    exact this n h
/-- the people on a floor's landing, in the class -/
def zpeo (L f : Int) : Int := zand (zw (zqshr L (zw (f * 7)))) 127
theorem zw_64 (X : Int64) : zw X.toInt = X.toInt32.toInt := (Int64.toInt_toInt32 X).symm
theorem zpeo_or (a b f : Int) : zpeo (zqor a b) f = zor (zpeo a f) (zpeo b f) := by
  unfold zpeo zqor zqshr
  rw [Int64.ofInt_toInt, Int64.shiftRight_or, zw_64, zw_64, zw_64, Int64.toInt32_or]
  unfold zand zor
  simp only [Int32.ofInt_toInt, zi_ao]
theorem zpeo_0 {f : Int} (f0 : 0 ≤ f) (f8 : f ≤ 8) : zpeo 0 f = 0 := by
  have h : ∀ f : Fin 9, zpeo 0 ((f.val : Nat) : Int) = 0 := by decide
  obtain ⟨k, rfl⟩ := Int.eq_ofNat_of_zero_le f0
  exact h ⟨k, by omega⟩
theorem zpeo_all : ∀ a f : Fin 9, ∀ i : Fin 7, zpeo (zqshl 1 (zw ((zw (((a.val : Nat) : Int) * 7)) + ((i.val : Nat) : Int)))) ((f.val : Nat) : Int) = if a = f then zshl 1 ((i.val : Nat) : Int) else 0 := by decide +kernel
theorem zpeo_1 {a f : Int} {i : Nat} (a0 : 0 ≤ a) (a8 : a ≤ 8) (f0 : 0 ≤ f) (f8 : f ≤ 8) (hi : i < 7) : zpeo (zqshl 1 (zw ((zw (a * 7)) + ((i : Nat) : Int)))) f = if a = f then zshl 1 ((i : Nat) : Int) else 0 := by
  obtain ⟨j, rfl⟩ := Int.eq_ofNat_of_zero_le a0
  obtain ⟨k, rfl⟩ := Int.eq_ofNat_of_zero_le f0
  have h := zpeo_all ⟨j, by omega⟩ ⟨k, by omega⟩ ⟨i, hi⟩
  rw [h]
  by_cases c : j = k
  · rw [if_pos (Fin.ext c), if_pos (by rw [c])]
  · rw [if_neg (fun q => c (congrArg Fin.val q)), if_neg (fun q : ((j : Nat) : Int) = ((k : Nat) : Int) => c (Int.ofNat.inj q))]
/-- who of the first n is on a floor's landing -/
abbrev zpnd (σ : Int → Int) (m : Nat) (f : Int) (p : Nat) : Prop := zvD σ m p ∧ zvA σ m ((p : Nat) : Int) = f
theorem zpeo_lan {σ : Int → Int} {m : Nat} {f : Int} (f0 : 0 ≤ f) (f8 : f ≤ 8) : ∀ n : Nat, n ≤ 7 → (∀ p : Nat, p < n → 0 ≤ zvA σ m ((p : Nat) : Int) ∧ zvA σ m ((p : Nat) : Int) ≤ 8) → zpeo (zlan σ m n) f = zfs (zpnd σ m f) n
  | 0, _, _ => zpeo_0 f0 f8
  | n + 1, hn, h => by
    have ih := zpeo_lan (σ := σ) (m := m) f0 f8 n (by omega) (fun p hp => h p (by omega))
    have hA := h n (Nat.lt_succ_self n)
    show zpeo (if zvD σ m n then _ else zlan σ m n) f = zor (zfs (zpnd σ m f) n) (if zpnd σ m f n then zshl 1 ((n : Nat) : Int) else 0)
    by_cases c : zvD σ m n
    · rw [if_pos c, zpeo_or, ih, zpeo_1 hA.1 hA.2 f0 f8 (by omega)]
      refine congrArg _ ?_
      by_cases d : zvA σ m ((n : Nat) : Int) = f
      · rw [if_pos d, if_pos ⟨c, d⟩]
      · rw [if_neg d, if_neg (fun q => d q.2)]
    · rw [if_neg c, if_neg (fun q => c q.1), ih, zfo_00]
/-! counting bits, the lowest bit -/
def zbq1 (x : Int) : Int := zw (x - (zand (zushr x 1) 1431655765))
def zbq2 (x : Int) : Int := zw ((zand x 858993459) + (zand (zushr x 2) 858993459))
def zbq3 (x : Int) : Int := zand (zw (x + (zushr x 4))) 252645135
def zbq4 (x : Int) : Int := zw (x + (zushr x 8))
def zbq5 (x : Int) : Int := zand (zw (x + (zushr x 16))) 63
theorem zbq_all : ∀ x : Fin 128, zbq5 (zbq4 (zbq3 (zbq2 (zbq1 ((x.val : Nat) : Int))))) = zbc ((x.val : Nat) : Int) := by decide +kernel
theorem zo_count {x : Int} {s : zS} (h0 : 0 ≤ x) (h1 : x < 128) : zE xm_c239 [x] s (zbc x) s := by
  obtain ⟨n, rfl⟩ := Int.eq_ofNat_of_zero_le h0
  refine zb_239_0 (Prod.ext ?_ rfl)
  exact zbq_all ⟨n, by omega⟩
theorem zbc_fo {P : Nat → Prop} [DecidablePred P] {n : Nat} (hn : n ≤ 7) : zbc (zfs P n) = zct P n := by
  unfold zbc
  have h : zct (fun k => zbt (zfs P n) ((k : Nat) : Int) = 1) 7 = zct (fun k => k < n ∧ P k) 7 := zct_congr 7 (fun k hk => by
    rw [zbt_fo (by omega) n (by omega)]
    by_cases c : k < n ∧ P k
    · rw [if_pos c]
      exact ⟨fun _ => c, fun _ => rfl⟩
    · rw [if_neg c]
      exact ⟨fun q => absurd q (by decide), fun q => absurd q c⟩)
  rw [h]
  have g : ∀ j : Nat, n ≤ j → zct (fun k => k < n ∧ P k) j = zct P n := fun j => by
    induction j with
    | zero =>
      intro q
      have : n = 0 := by omega
      subst this
      rfl
    | succ j ih =>
      intro q
      by_cases c : n = j + 1
      · rw [← c]
        exact zct_congr n (fun k hk => ⟨fun z => z.2, fun z => ⟨hk, z⟩⟩)
      · show zct _ j + (if j < n ∧ P j then 1 else 0) = _
        rw [ih (by omega), if_neg (fun z => absurd z.1 (by omega)), Int.add_zero]
  exact g 7 hn
def zntm (x : Int) : Int := zand (zxor x (-1)) (zw (x - 1))
def zntz (x : Int) : Int := if 0 < zntm x then (if 16 < zntm x then zw (zw (1 + 4) + zushr (zushr (zntm x) 4) 1) else if 4 < zntm x then zw (zw (1 + 2) + zushr (zushr (zntm x) 2) 1) else zw (1 + zushr (zntm x) 1)) else zand (zntm x) 32
theorem zntz_all : ∀ x : Fin 128, (x.val ≠ 0 → zntz ((x.val : Nat) : Int) = zfi (fun k => zbt ((x.val : Nat) : Int) ((k : Nat) : Int) = 1) 7 0 ∧ ¬ 256 < zntm ((x.val : Nat) : Int) ∧ ¬ 4 < zushr (zntm ((x.val : Nat) : Int)) 4) := by decide +kernel
theorem zo_ntz {x : Int} {s : zS} (h0 : 0 < x) (h1 : x < 128) : zE xm_c238 [x, 0] s (zfi (fun k => zbt x ((k : Nat) : Int) = 1) 7 0) s := by
  obtain ⟨n, rfl⟩ := Int.eq_ofNat_of_zero_le (show 0 ≤ x by omega)
  obtain ⟨e, a, b⟩ := zntz_all ⟨n, by omega⟩ (show n ≠ 0 by omega)
  dsimp only at e a b
  rw [← e]
  unfold zntz
  by_cases c : 0 < zntm ((n : Nat) : Int)
  · rw [if_pos c]
    refine zb_238_0 (fun _ => zb_238_14 (fun q => absurd (Int.lt_trans (by decide) q) a) (fun _ => zb_238_24 (fun q => absurd q a) (fun _ => zb_238_32 (fun q1 => zb_238_35 (fun q => absurd q b) (fun _ => zb_238_48 ?_)) (fun q1 => zb_238_40 (fun q2 => zb_238_43 ?_) (fun q2 => zb_238_48 ?_))))) (fun q => absurd c q)
    · rw [if_pos (show 16 < zntm ((n : Nat) : Int) from q1)]
      rfl
    · rw [if_neg (show ¬ 16 < zntm ((n : Nat) : Int) from q1), if_pos (show 4 < zntm ((n : Nat) : Int) from q2)]
      rfl
    · rw [if_neg (show ¬ 16 < zntm ((n : Nat) : Int) from q1), if_neg (show ¬ 4 < zntm ((n : Nat) : Int) from q2)]
      rfl
  · rw [if_neg c]
    exact zb_238_0 (fun q => absurd q c) (fun _ => zb_238_10 rfl)
theorem zfi_fo {P : Nat → Prop} [DecidablePred P] {n : Nat} (hn : n ≤ 7) : zfi (fun k => zbt (zfs P n) ((k : Nat) : Int) = 1) 7 0 = zfi P n 0 := by
  have g : ∀ k i : Nat, i + k = 7 → zfi (fun k => zbt (zfs P n) ((k : Nat) : Int) = 1) k i = zfi P (n - i) i := fun k => by
    induction k with
    | zero =>
      intro i hi
      have : n - i = 0 := by omega
      rw [this]
      rfl
    | succ k ih =>
      intro i hi
      show (if zbt (zfs P n) ((i : Nat) : Int) = 1 then ((i : Nat) : Int) else zfi _ k (i + 1)) = _
      rw [ih (i + 1) (by omega)]
      by_cases c : i < n
      · rw [show n - i = (n - (i + 1)) + 1 by omega]
        show _ = (if P i then ((i : Nat) : Int) else zfi P (n - (i + 1)) (i + 1))
        by_cases d : P i
        · rw [if_pos d, if_pos ((zbt_fo1 c (by omega)).mpr d)]
        · rw [if_neg d, if_neg (fun q => d ((zbt_fo1 c (by omega)).mp q))]
      · have e1 : n - i = 0 := by omega
        have e2 : n - (i + 1) = 0 := by omega
        have z : ¬ zbt (zfs P n) ((i : Nat) : Int) = 1 := by
          rw [zbt_fo (by omega) n (by omega), if_neg (fun q => c q.1)]
          decide
        rw [e1, e2, if_neg z]
        rfl
  exact g 7 0 rfl
