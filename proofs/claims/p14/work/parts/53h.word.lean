/-! Tape.value, Tape.word, by hand -/
theorem xl_gs1 {i : Nat} {v : Value} : ∀ {l : xm_L}, xm_get (xm_set1 l i v) i = some v := fun {l} => xg_hit
theorem xl_gs0 {i j : Nat} {v w : Value} (h : j ≠ i) (hc : w.category = 1) : ∀ {l : xm_L}, xm_get l j = some w → xm_get (xm_set1 l i v) j = some w := by
  intro l hl
  have hne : Nat.beq i j = false := Bool.eq_false_iff.mpr (fun q => h (Nat.eq_of_beq_eq_true q).symm)
  show xm_get ((i, v) :: l.filter _) j = some w
  rw [xg_miss hne]
  induction l with
  | nil => cases hl
  | cons q l ih =>
    have hl : cond (Nat.beq q.1 j) (some q.2) (xm_get l j) = some w := hl
    rw [List.filter_cons]
    cases hb : Nat.beq q.1 j with
    | true =>
      rw [hb] at hl
      cases hl
      have e := Nat.eq_of_beq_eq_true hb
      have hp : (!(q.1 == i) && !(q.1 + 1 == i && q.2.category == 2)) = true := by
        rw [hc, e]
        have : (j == i) = false := by simpa using h
        rw [this]
        simp
      rw [if_pos hp]
      show cond (Nat.beq q.1 j) (some q.2) _ = some q.2
      rw [hb]
      rfl
    | false =>
      rw [hb] at hl
      split
      · show cond (Nat.beq q.1 j) (some q.2) _ = some w
        rw [hb]
        exact ih hl
      · exact ih hl
section TV
variable {call : xm_C} {Q : xm_Q} {j b : Nat} {G : xm_H} {E : xm_R} {len kind place size fault : Int32}
theorem yt_v4 (hb : yt_bytes G b) (h : yt_at G j b len kind place size fault) (p0 : 0 ≤ place.toInt) (ps : place.toInt + size.toInt ≤ 400) (hQ : ∀ x : Int32, Q (some (.int x)) G E = true) : ∀ (m : Nat) (v i : Int32), 0 ≤ i.toInt → i.toInt ≤ 5 → (5 - i.toInt).toNat ≤ m → ∀ {F : Nat}, 40 * (m + 1) ≤ F → xm_run call xm_c84 3 0 0 (some .int) Q F (xm_drop 4 xm_c84) [(2, .int i), (1, .int v), (0, .ref j)] [] G E 0 0 = true := by
  have l0 : ∀ i v : Int32, xm_get [(2, Value.int i), (1, .int v), (0, .ref j)] 0 = some (.ref j) := fun _ _ => rfl
  have l1 : ∀ i v : Int32, xm_get [(2, Value.int i), (1, .int v), (0, .ref j)] 1 = some (.int v) := fun _ _ => rfl
  have l2 : ∀ i v : Int32, xm_get [(2, Value.int i), (1, .int v), (0, .ref j)] 2 = some (.int i) := fun _ _ => rfl
  have q1 : ∀ i v w : Int32, xm_set1 [(2, Value.int i), (1, .int v), (0, .ref j)] 1 (.int w) = [(1, .int w), (2, .int i), (0, .ref j)] := fun _ _ _ => rfl
  have q2 : ∀ i v w : Int32, xm_set1 [(1, Value.int v), (2, .int i), (0, .ref j)] 2 (.int w) = [(2, .int w), (1, .int v), (0, .ref j)] := fun _ _ _ => rfl
  have l3 : ∀ i v : Int32, xm_get [(1, Value.int v), (2, .int i), (0, .ref j)] 2 = some (.int i) := fun _ _ => rfl
  have t31 : ∀ (i v : Int32) (F : Nat), 2 ≤ F → xm_run call xm_c84 3 0 0 (some .int) Q F (xm_drop 31 xm_c84) [(2, .int i), (1, .int v), (0, .ref j)] [] G E 0 0 = true := by
    intro i v F hF
    obtain ⟨g, rfl⟩ : ∃ g, F = g + 2 := ⟨F - 2, by omega⟩
    simp only [xz_84_31, xz_84_32, l1, xm_isI, cond_true]
    exact hQ v
  intro m
  induction m with
  | zero =>
    intro v i i0 i5 hm F hF
    obtain ⟨g, rfl⟩ : ∃ g, F = g + 40 := ⟨F - 40, by omega⟩
    simp only [xz_84_4, xz_84_5, xz_84_6, xz_84_7, l0, xm_isA, cond_true, yt_get h (i := 2) rfl, xc_int]
    cases hq : xm_holds .ne (xm_sgn kind.toInt (48 : Int32).toInt) with
    | true => rw [cond_true]; exact t31 _ _ _ (by omega)
    | false =>
      rw [cond_false]
      simp only [xz_84_8, xz_84_9, xz_84_10, xz_84_11, l0, l2, xm_isI, xm_isA, cond_true, yt_get h (i := 4) rfl, xc_int]
      cases hq2 : xm_holds .ge (xm_sgn i.toInt size.toInt) with
      | true => rw [cond_true]; exact t31 _ _ _ (by omega)
      | false =>
        rw [cond_false]
        simp only [xz_84_12, xz_84_13, xz_84_14, l2, xm_isI, cond_true, xc_int, xk_ge]
        rw [decide_eq_false (show ¬ i.toInt < (5 : Int32).toInt by have : (5 : Int32).toInt = 5 := rfl; omega), Bool.not_false, cond_true]
        exact t31 _ _ _ (by omega)
  | succ m ih =>
    intro v i i0 i5 hm F hF
    obtain ⟨g, rfl⟩ : ∃ g, F = g + 40 := ⟨F - 40, by omega⟩
    simp only [xz_84_4, xz_84_5, xz_84_6, xz_84_7, l0, xm_isA, cond_true, yt_get h (i := 2) rfl, xc_int]
    cases hq : xm_holds .ne (xm_sgn kind.toInt (48 : Int32).toInt) with
    | true => rw [cond_true]; exact t31 _ _ _ (by omega)
    | false =>
      rw [cond_false]
      simp only [xz_84_8, xz_84_9, xz_84_10, xz_84_11, l0, l2, xm_isI, xm_isA, cond_true, yt_get h (i := 4) rfl, xc_int, xk_ge]
      by_cases hc : i.toInt < size.toInt
      · rw [decide_eq_true hc, Bool.not_true, cond_false]
        simp only [xz_84_12, xz_84_13, xz_84_14, l2, xm_isI, cond_true, xc_int, xk_ge]
        by_cases hc5 : i.toInt < (5 : Int32).toInt
        · have e5 : (5 : Int32).toInt = 5 := rfl
          rw [decide_eq_true hc5, Bool.not_true, cond_false]
          obtain ⟨bs, hb1, hb2⟩ := hb
          have e := yk_add (x := place) (z := i) (by omega) (by omega)
          obtain ⟨c, hcc⟩ := hb2 (place + i) (by omega) (by omega)
          simp only [xz_84_15, xz_84_16, xz_84_17, xz_84_18, xz_84_19, xz_84_20, xz_84_21, xz_84_22, xz_84_23, xz_84_24, xz_84_25, xz_84_26, xz_84_27, xz_84_28, l0, l1, l2, xm_isI, xm_isA, cond_true, yt_get h (i := 3) rfl, yt_get h (i := 0) rfl, xk_mul, xk_add, xk_sub, yk_bald hb1 (show 0 ≤ (place + i).toInt by omega) hcc, show Nat.blt 1 3 = true from rfl, Bool.and_self, q1]
          simp only [xz_84_29, xz_84_30, l3, show Nat.blt 2 3 = true from rfl, cond_true, xk_inc, xl_frc, q2]
          have e1 : (Int32.ofInt 1).toInt = 1 := rfl
          have e2 := yk_add (x := i) (z := Int32.ofInt 1) (by omega) (by omega)
          exact ih _ _ (by omega) (by omega) (by omega) (by omega)
        · rw [decide_eq_false hc5, Bool.not_false, cond_true]
          exact t31 _ _ _ (by omega)
      · rw [decide_eq_false hc, Bool.not_false, cond_true]
        exact t31 _ _ _ (by omega)
theorem yt_value (hb : yt_bytes G b) (h : yt_at G j b len kind place size fault) (p0 : 0 ≤ place.toInt) (ps : place.toInt + size.toInt ≤ 400) (hQ : ∀ x : Int32, Q (some (.int x)) G E = true) {F : Nat} (hF : 1000 ≤ F) : xm_run call xm_c84 3 0 0 (some .int) Q F (xm_drop 0 xm_c84) [(0, .ref j)] [] G E 0 0 = true := by
  obtain ⟨g, rfl⟩ : ∃ g, F = g + 4 := ⟨F - 4, by omega⟩
  simp only [xz_84_0, xz_84_1, xz_84_2, xz_84_3, xm_isI, show Nat.blt 1 3 = true from rfl, show Nat.blt 2 3 = true from rfl, Bool.and_self, cond_true]
  exact yt_v4 hb h p0 ps hQ 5 0 0 (by decide) (by decide) (by decide) (by omega)
end TV
section TW
variable {call : xm_C} {Q : xm_Q} {j b s : Nat} {G : xm_H} {E : xm_R} {len kind place size fault : Int32} {bs : List Nat}
theorem yk_len {st : List Value} {k : List Value → Bool} {z : Bool} (hs : xm_strv s G = some bs) (hc : xm_cats st ≤ 8) : (bif Nat.beq 1006 1006 || Nat.beq 1006 1007 then xm_strl 1006 (.ref s :: st) G k else z) = k (.int (Int32.ofNat bs.length) :: st) := by
  show (match xm_strv s G with
    | some bs => bif Nat.ble (xm_cats st) 8 then k (.int (Int32.ofNat (xm_len bs)) :: st) else false
    | none => false) = _
  rw [hs]
  dsimp only
  rw [Nat.ble_eq_true_of_le hc, cond_true, xl_len]
theorem yk_char {st : List Value} {k : List Value → Bool} {z : Bool} {x : Int32} {c : Nat} (hs : xm_strv s G = some bs) (hc : xm_cats st ≤ 8) (h0 : 0 ≤ x.toInt) (hx : bs[x.toInt.toNat]? = some c) : (bif Nat.beq 1007 1006 || Nat.beq 1007 1007 then xm_strl 1007 (.int x :: .ref s :: st) G k else z) = k (.int (Int32.ofNat c) :: st) := by
  show (match xm_strv s G with
    | some bs => bif Nat.ble (xm_cats st) 8 && decide (0 ≤ x.toInt) then (match xm_nth bs x.toInt.toNat with
      | some c => k (.int (Int32.ofNat c) :: st)
      | none => false) else false
    | none => false) = _
  rw [hs]
  dsimp only
  rw [Nat.ble_eq_true_of_le hc, decide_eq_true h0, Bool.and_self, cond_true, xl_nth, hx]
/-- blanks among the first i bytes -/
def yk_bl (bs : List Nat) (i : Nat) : Nat := (bs.take i).countP (fun c => c == 32)
theorem yk_bls {bs : List Nat} {i c : Nat} (h : bs[i]? = some c) : yk_bl bs (i + 1) = yk_bl bs i + (if c = 32 then 1 else 0) := by
  unfold yk_bl
  rw [List.take_add_one, h, List.countP_append]
  by_cases e : c = 32
  · subst e
    rfl
  · rw [if_neg e]
    have : (c == 32) = false := by simpa using e
    simp [Option.toList, this]
theorem yt_w6 (hb : yt_bytes G b) (h : yt_at G j b len kind place size fault) (p0 : 0 ≤ place.toInt) (ps : place.toInt + size.toInt ≤ 400) (hs : xm_strv s G = some bs) (hL : bs.length ≤ 100) (hbl : yk_bl bs bs.length ≤ 10) (hmono : ∀ i, i ≤ bs.length → yk_bl bs i ≤ yk_bl bs bs.length) (hch : ∀ c ∈ bs, c < 128) (hQ : ∀ x : Int32, -1 ≤ x.toInt → x.toInt ≤ 10 → Q (some (.int x)) G E = true) : ∀ (m : Nat) (lv : xm_L) (n a i : Int32), xm_get lv 0 = some (.ref j) → xm_get lv 1 = some (.ref s) → xm_get lv 2 = some (.int n) → xm_get lv 3 = some (.int a) → xm_get lv 4 = some (.int i) → 0 ≤ i.toInt → i.toInt ≤ bs.length + 1 → (i.toInt ≤ bs.length → n.toInt = (yk_bl bs i.toInt.toNat : Nat)) → (bs.length + 1 - i.toInt).toNat ≤ m → ∀ {F : Nat}, 80 * (m + 1) ≤ F → xm_run call xm_c83 5 0 0 (some .int) Q F (xm_drop 6 xm_c83) lv [] G E 0 0 = true := by
  have t56 : ∀ (lv : xm_L) (F : Nat), 2 ≤ F → xm_run call xm_c83 5 0 0 (some .int) Q F (xm_drop 56 xm_c83) lv [] G E 0 0 = true := by
    intro lv F hF
    obtain ⟨g, rfl⟩ : ∃ g, F = g + 2 := ⟨F - 2, by omega⟩
    simp only [xz_83_56, xz_83_57, xm_isI, cond_true]
    exact hQ (-1) (by decide) (by decide)
  have eL : (Int32.ofNat bs.length).toInt = bs.length := by
    rw [Int32.toInt_ofNat']
    exact ys_bm (by omega) (by omega)
  intro m
  induction m with
  | zero =>
    intro lv n a i l0 l1 l2 l3 l4 i0 i1 hn hm F hF
    obtain ⟨g, rfl⟩ : ∃ g, F = g + 80 := ⟨F - 80, by omega⟩
    simp only [xz_83_6, xz_83_7, xz_83_8, xz_83_9, l0, xm_isA, cond_true, yt_get h (i := 2) rfl, xc_int]
    cases hq : xm_holds .ne (xm_sgn kind.toInt (97 : Int32).toInt) with
    | true => rw [cond_true]; exact t56 _ _ (by omega)
    | false =>
      rw [cond_false]
      simp only [xz_83_10, xz_83_11, xz_83_12, xz_83_13, l1, l4, xm_isI, xm_isA, cond_true, yk_len hs (show xm_cats [Value.int i] ≤ 8 from Nat.le_of_ble_eq_true rfl), xc_int, xk_gt, eL]
      rw [decide_eq_true (show (bs.length : Int) < i.toInt by omega), cond_true]
      exact t56 _ _ (by omega)
  | succ m ih =>
    intro lv n a i l0 l1 l2 l3 l4 i0 i1 hn hm F hF
    obtain ⟨g, rfl⟩ : ∃ g, F = g + 80 := ⟨F - 80, by omega⟩
    have e1 : (Int32.ofInt 1).toInt = 1 := rfl
    have ei := yk_add (x := i) (z := Int32.ofInt 1) (by omega) (by omega)
    -- on to the next byte
    have t54 : ∀ (lv : xm_L) (n a : Int32), xm_get lv 0 = some (.ref j) → xm_get lv 1 = some (.ref s) → xm_get lv 2 = some (.int n) → xm_get lv 3 = some (.int a) → xm_get lv 4 = some (.int i) → i.toInt ≤ bs.length → (i.toInt + 1 ≤ bs.length → n.toInt = (yk_bl bs (i.toInt.toNat + 1) : Nat)) → ∀ F, 80 * (m + 1) + 2 ≤ F → xm_run call xm_c83 5 0 0 (some .int) Q F (xm_drop 54 xm_c83) lv [] G E 0 0 = true := by
      intro lv n a l0 l1 l2 l3 l4 hi hn F hF
      obtain ⟨g, rfl⟩ : ∃ g, F = g + 2 := ⟨F - 2, by omega⟩
      simp only [xz_83_54, xz_83_55, l4, show Nat.blt 4 5 = true from rfl, cond_true, xk_inc, xl_frc]
      refine ih _ n a (i + Int32.ofInt 1) (xl_gs0 (by decide) rfl l0) (xl_gs0 (by decide) rfl l1) (xl_gs0 (by decide) rfl l2) (xl_gs0 (by decide) rfl l3) xl_gs1 (by omega) (by omega) (fun hq => ?_) (by omega) (by omega)
      rw [hn (by omega), show (i + Int32.ofInt 1).toInt.toNat = i.toInt.toNat + 1 by omega]
    have t23 : i.toInt ≤ bs.length → (i.toInt < bs.length → bs[i.toInt.toNat]? = some 32) → ∀ F, 80 * (m + 1) + 20 ≤ F → xm_run call xm_c83 5 0 0 (some .int) Q F (xm_drop 23 xm_c83) lv [] G E 0 0 = true := by
      intro hi h32 F hF
      obtain ⟨g, rfl⟩ : ∃ g, F = g + 20 := ⟨F - 20, by omega⟩
      have hn' := hn hi
      have hle := hmono i.toInt.toNat (by omega)
      simp only [xz_83_23, xz_83_24, xz_83_25, xz_83_26, l0, l3, xm_isI, xm_isA, cond_true, yt_get h (i := 4) rfl, xc_int]
      cases hq : xm_holds .ne (xm_sgn a.toInt size.toInt) with
      | false =>
        rw [cond_false]
        simp only [xz_83_27, xz_83_28, l2, xm_isI, cond_true]
        exact hQ n (by omega) (by omega)
      | true =>
        rw [cond_true]
        have en := yk_add (x := n) (z := Int32.ofInt 1) (by omega) (by omega)
        simp only [xz_83_29, xz_83_30, xz_83_31, xz_83_32, l2, show Nat.blt 2 5 = true from rfl, show Nat.blt 3 5 = true from rfl, xm_isI, Bool.and_self, cond_true, xk_inc, xl_frc]
        refine t54 _ (n + Int32.ofInt 1) 0 (xl_gs0 (by decide) rfl (xl_gs0 (by decide) rfl l0)) (xl_gs0 (by decide) rfl (xl_gs0 (by decide) rfl l1)) (xl_gs0 (by decide) rfl xl_gs1) xl_gs1 (xl_gs0 (by decide) rfl (xl_gs0 (by decide) rfl l4)) hi (fun hq => ?_) _ (by omega)
        rw [yk_bls (h32 (by omega)), if_pos rfl]
        omega
    have t52 : i.toInt < bs.length → (∀ c, bs[i.toInt.toNat]? = some c → c ≠ 32) → ∀ F, 80 * (m + 1) + 10 ≤ F → xm_run call xm_c83 5 0 0 (some .int) Q F (xm_drop 52 xm_c83) lv [] G E 0 0 = true := by
      intro hi h32 F hF
      obtain ⟨g, rfl⟩ : ∃ g, F = g + 10 := ⟨F - 10, by omega⟩
      simp only [xz_83_52, xz_83_53, show Nat.blt 3 5 = true from rfl, xm_isI, Bool.and_self, cond_true]
      refine t54 _ n (-1) (xl_gs0 (by decide) rfl l0) (xl_gs0 (by decide) rfl l1) (xl_gs0 (by decide) rfl l2) xl_gs1 (xl_gs0 (by decide) rfl l4) (by omega) (fun hq => ?_) _ (by omega)
      obtain ⟨c, hc⟩ : ∃ c, bs[i.toInt.toNat]? = some c := ⟨_, List.getElem?_eq_getElem (show i.toInt.toNat < bs.length by omega)⟩
      rw [yk_bls hc, if_neg (h32 c hc), hn (by omega)]
      rfl
    simp only [xz_83_6, xz_83_7, xz_83_8, xz_83_9, l0, xm_isA, cond_true, yt_get h (i := 2) rfl, xc_int]
    cases hq : xm_holds .ne (xm_sgn kind.toInt (97 : Int32).toInt) with
    | true => rw [cond_true]; exact t56 _ _ (by omega)
    | false =>
      rw [cond_false]
      simp only [xz_83_10, xz_83_11, xz_83_12, xz_83_13, l1, l4, xm_isI, xm_isA, cond_true, yk_len hs (show xm_cats [Value.int i] ≤ 8 from Nat.le_of_ble_eq_true rfl), xc_int, xk_gt, eL]
      by_cases hgt : (bs.length : Int) < i.toInt
      · rw [decide_eq_true hgt, cond_true]
        exact t56 _ _ (by omega)
      · rw [decide_eq_false hgt, cond_false]
        simp only [xz_83_14, xz_83_15, xz_83_16, xz_83_17, l1, l4, xm_isI, xm_isA, cond_true, yk_len hs (show xm_cats [Value.int i] ≤ 8 from Nat.le_of_ble_eq_true rfl), xc_int, xk_eq, eL]
        by_cases heq : i.toInt = bs.length
        · rw [decide_eq_true heq, cond_true]
          exact t23 (by omega) (fun q => by omega) _ (by omega)
        · rw [decide_eq_false heq, cond_false]
          obtain ⟨c, hc⟩ : ∃ c, bs[i.toInt.toNat]? = some c := ⟨_, List.getElem?_eq_getElem (show i.toInt.toNat < bs.length by omega)⟩
          have hc128 := hch c (List.mem_of_getElem? hc)
          have ec : (Int32.ofNat c).toInt = c := by
            rw [Int32.toInt_ofNat']
            exact ys_bm (by omega) (by omega)
          simp only [xz_83_18, xz_83_19, xz_83_20, xz_83_21, xz_83_22, l1, l4, xm_isI, xm_isA, cond_true, yk_char hs (show xm_cats [] ≤ 8 from Nat.le_of_ble_eq_true rfl) i0 hc, xc_int, xk_ne, ec]
          have e32 : (32 : Int32).toInt = 32 := rfl
          by_cases h32 : c = 32
          · rw [decide_eq_true (show (c : Int) = (32 : Int32).toInt by omega), Bool.not_true, cond_false]
            exact t23 (by omega) (fun _ => by rw [hc, h32]) _ (by omega)
          · rw [decide_eq_false (show ¬ (c : Int) = (32 : Int32).toInt by omega), Bool.not_false, cond_true]
            have hno : ∀ c', bs[i.toInt.toNat]? = some c' → c' ≠ 32 := fun c' hc' => by rw [hc] at hc'; cases hc'; exact h32
            simp only [xz_83_33, xz_83_34, l3, xm_isI, cond_true, xc_int, xk_lt]
            by_cases ha : a.toInt < (0 : Int32).toInt
            · rw [decide_eq_true ha, cond_true]
              exact t52 (by omega) hno _ (by omega)
            · have e0 : (0 : Int32).toInt = 0 := rfl
              rw [decide_eq_false ha, cond_false]
              simp only [xz_83_35, xz_83_36, xz_83_37, xz_83_38, l0, l3, xm_isI, xm_isA, cond_true, yt_get h (i := 4) rfl, xc_int, xk_ge]
              by_cases hsz : a.toInt < size.toInt
              · rw [decide_eq_true hsz, Bool.not_true, cond_false]
                obtain ⟨bb, hb1, hb2⟩ := hb
                have e := yk_add (x := place) (z := a) (by omega) (by omega)
                obtain ⟨d, hd⟩ := hb2 (place + a) (by omega) (by omega)
                simp only [xz_83_39, xz_83_40, xz_83_41, xz_83_42, xz_83_43, xz_83_44, xz_83_45, xz_83_46, xz_83_47, xz_83_48, xz_83_49, l0, l1, l3, l4, xm_isI, xm_isA, cond_true, yk_char hs (show xm_cats [] ≤ 8 from Nat.le_of_ble_eq_true rfl) i0 hc, yt_get h (i := 3) rfl, yt_get h (i := 0) rfl, xk_add, yk_bald hb1 (show 0 ≤ (place + a).toInt by omega) hd, xc_int]
                cases hq3 : xm_holds .ne (xm_sgn (Int32.ofNat c).toInt d.toInt) with
                | true => rw [cond_true]; exact t52 (by omega) hno _ (by omega)
                | false =>
                  rw [cond_false]
                  simp only [xz_83_50, xz_83_51, l3, show Nat.blt 3 5 = true from rfl, cond_true, xk_inc, xl_frc]
                  refine t54 _ n _ (xl_gs0 (by decide) rfl l0) (xl_gs0 (by decide) rfl l1) (xl_gs0 (by decide) rfl l2) xl_gs1 (xl_gs0 (by decide) rfl l4) (by omega) (fun hq => ?_) _ (by omega)
                  rw [yk_bls hc, if_neg h32, hn (by omega)]
                  rfl
              · rw [decide_eq_false hsz, Bool.not_false, cond_true]
                exact t52 (by omega) hno _ (by omega)
theorem yt_word (hb : yt_bytes G b) (h : yt_at G j b len kind place size fault) (p0 : 0 ≤ place.toInt) (ps : place.toInt + size.toInt ≤ 400) (hs : xm_strv s G = some bs) (hL : bs.length ≤ 100) (hbl : yk_bl bs bs.length ≤ 10) (hmono : ∀ i, i ≤ bs.length → yk_bl bs i ≤ yk_bl bs bs.length) (hch : ∀ c ∈ bs, c < 128) (hQ : ∀ x : Int32, -1 ≤ x.toInt → x.toInt ≤ 10 → Q (some (.int x)) G E = true) {F : Nat} (hF : 20000 ≤ F) : xm_run call xm_c83 5 0 0 (some .int) Q F (xm_drop 0 xm_c83) [(0, .ref j), (1, .ref s)] [] G E 0 0 = true := by
  obtain ⟨g, rfl⟩ : ∃ g, F = g + 6 := ⟨F - 6, by omega⟩
  simp only [xz_83_0, xz_83_1, xz_83_2, xz_83_3, xz_83_4, xz_83_5, xm_isI, show Nat.blt 2 5 = true from rfl, show Nat.blt 3 5 = true from rfl, show Nat.blt 4 5 = true from rfl, Bool.and_self, cond_true]
  exact yt_w6 hb h p0 ps hs hL hbl hmono hch hQ 101 _ 0 0 0 rfl rfl rfl rfl rfl (by decide) (by have : (0 : Int32).toInt = 0 := rfl; omega) (fun _ => rfl) (by have : (0 : Int32).toInt = 0 := rfl; omega) (by omega)
end TW
