/-! Tape.fail, Tape.word: what they come to -/
section UF
variable {call : xm_C} {Q : xm_Q} {f j b : Nat} {G : xm_H} {E : xm_R} {len kind place size fault n : Int32}
theorem yu_fail (h : yt_at G j b len kind place size fault) (hj : 7 ≤ j) (hQ : ∀ G', yt_same G G' j → yt_at G' j b len (-2) place 0 (if fault.toInt = 0 then 1 + 8 * place + n else fault) → Q none G' E = true) : xm_run call xm_c81 2 0 0 none Q (f + 30) (xm_drop 0 xm_c81) [(0, .ref j), (1, .int n)] [] G E 0 0 = true := by
  have tail : ∀ (G1 : xm_H) (fault1 : Int32), fault1 = (if fault.toInt = 0 then 1 + 8 * place + n else fault) → yt_same G G1 j → yt_at G1 j b len kind place size fault1 → ∀ f, xm_run call xm_c81 2 0 0 none Q (f + 10) (xm_drop 13 xm_c81) [(0, .ref j), (1, .int n)] [] G1 E 0 0 = true := by
    intro G1 fault1 hf hs h1 f
    simp only [xz_81_13, xz_81_14, xz_81_15, xg_hit, xm_isA, cond_true]
    refine yt_put h1 hj rfl (by decide) rfl (fun G2 s2 h2 => ?_)
    simp only [xz_81_16, xz_81_17, xz_81_18, xg_hit, xm_isA, cond_true]
    refine yt_put h2 hj rfl (by decide) rfl (fun G3 s3 h3 => ?_)
    simp only [xz_81_19]
    subst hf
    exact hQ _ ((hs.tr s2).tr s3) h3
  have e0 : (0 : Int32).toInt = 0 := rfl
  simp only [xz_81_0, xz_81_1, xz_81_2, xg_hit, xm_isA, cond_true, yt_get h (i := 5) rfl, xc_int, xk_ne, e0]
  by_cases hc : fault.toInt = 0
  · rw [decide_eq_true hc, Bool.not_true, cond_false]
    simp only [xz_81_3, xz_81_4, xz_81_5, xz_81_6, xz_81_7, xz_81_8, xz_81_9, xz_81_10, xz_81_11, xz_81_12, xg_hit, xg_miss (i := 0) (j := 1) rfl, xm_isI, xm_isA, cond_true, yt_get h (i := 3) rfl, xk_mul, xk_add]
    exact yt_put h hj rfl (by decide) rfl (fun G2 s2 h2 => tail G2 _ (by rw [if_pos hc]) s2 h2 _)
  · rw [decide_eq_false hc, Bool.not_false, cond_true]
    exact tail G fault (by rw [if_neg hc]) (fun _ _ => rfl) h _
end UF
/-- which word of a string the token is, byte by byte -/
def yg_ww (tok : List Int) : List Nat → Int → Int → Int
  | [], k, a => if a = tok.length then k else -1
  | c :: r, k, a => if c = 32 then (if a = tok.length then k else yg_ww tok r (k + 1) 0) else if 0 ≤ a ∧ tok[a.toNat]? = some (c : Int) then yg_ww tok r k (a + 1) else yg_ww tok r k (-1)
theorem yg_wlen {B : List Value} {p n : Nat} : (yg_w B p n).length = n := by
  unfold yg_w
  rw [List.length_map, List.length_range]
theorem yg_wat {B : List Value} {p n i : Nat} (h : i < n) : (yg_w B p n)[i]? = some (yg_b B (p + i)) := by
  unfold yg_w
  rw [List.getElem?_map, List.getElem?_range h]
  rfl
section UW
variable {call : xm_C} {Q : xm_Q} {j b s : Nat} {G : xm_H} {E : xm_R} {len kind place size fault : Int32} {bs : List Nat} {B : List Value} {R : Int} {tok : List Int}
theorem yu_w6 (hb : xm_hget G b = some (101, B)) (hby : yu_by B) (h : yt_at G j b len kind place size fault) (hk : kind.toInt = 97) (p0 : 0 ≤ place.toInt) (s0 : 0 ≤ size.toInt) (ps : place.toInt + size.toInt ≤ 400) (htok : tok = yg_w B place.toInt.toNat size.toInt.toNat) (hs : xm_strv s G = some bs) (hL : bs.length ≤ 100) (hch : ∀ c ∈ bs, c < 128) (hQ : ∀ x : Int32, x.toInt = R → Q (some (.int x)) G E = true) : ∀ (m : Nat) (lv : xm_L) (n a i : Int32), xm_get lv 0 = some (.ref j) → xm_get lv 1 = some (.ref s) → xm_get lv 2 = some (.int n) → xm_get lv 3 = some (.int a) → xm_get lv 4 = some (.int i) → 0 ≤ i.toInt → i.toInt ≤ bs.length + 1 → (0 ≤ n.toInt ∧ n.toInt ≤ i.toInt) → (-1 ≤ a.toInt ∧ a.toInt ≤ i.toInt) → ((i.toInt ≤ bs.length ∧ yg_ww tok (bs.drop i.toInt.toNat) n.toInt a.toInt = R) ∨ (i.toInt = bs.length + 1 ∧ R = -1)) → (bs.length + 1 - i.toInt).toNat ≤ m → ∀ {F : Nat}, 80 * (m + 1) ≤ F → xm_run call xm_c83 5 0 0 (some .int) Q F (xm_drop 6 xm_c83) lv [] G E 0 0 = true := by
  have hlen : (tok.length : Int) = size.toInt := by
    rw [htok, yg_wlen]
    omega
  have t56 : R = -1 → ∀ (lv : xm_L) (F : Nat), 2 ≤ F → xm_run call xm_c83 5 0 0 (some .int) Q F (xm_drop 56 xm_c83) lv [] G E 0 0 = true := by
    intro hR lv F hF
    obtain ⟨g, rfl⟩ : ∃ g, F = g + 2 := ⟨F - 2, by omega⟩
    simp only [xz_83_56, xz_83_57, xm_isI, cond_true]
    exact hQ (-1) (by rw [hR]; rfl)
  have eL : (Int32.ofNat bs.length).toInt = bs.length := by
    rw [Int32.toInt_ofNat']
    exact ys_bm (by omega) (by omega)
  have ek : xm_holds .ne (xm_sgn kind.toInt (97 : Int32).toInt) = false := by
    rw [xk_ne, decide_eq_true (show kind.toInt = (97 : Int32).toInt from hk)]
    rfl
  intro m
  induction m with
  | zero =>
    intro lv n a i l0 l1 l2 l3 l4 i0 i1 hn ha hst hm F hF
    obtain ⟨g, rfl⟩ : ∃ g, F = g + 80 := ⟨F - 80, by omega⟩
    simp only [xz_83_6, xz_83_7, xz_83_8, xz_83_9, l0, xm_isA, cond_true, yt_get h (i := 2) rfl, xc_int, ek, cond_false]
    simp only [xz_83_10, xz_83_11, xz_83_12, xz_83_13, l1, l4, xm_isI, xm_isA, cond_true, yk_len hs (show xm_cats [Value.int i] ≤ 8 from Nat.le_of_ble_eq_true rfl), xc_int, xk_gt, eL]
    rw [decide_eq_true (show (bs.length : Int) < i.toInt by omega), cond_true]
    exact t56 (by rcases hst with z | z; · omega
                  · exact z.2) _ _ (by omega)
  | succ m ih =>
    intro lv n a i l0 l1 l2 l3 l4 i0 i1 hn ha hst hm F hF
    obtain ⟨g, rfl⟩ : ∃ g, F = g + 80 := ⟨F - 80, by omega⟩
    have e1 : (Int32.ofInt 1).toInt = 1 := rfl
    have e0 : (0 : Int32).toInt = 0 := rfl
    have em1 : (-1 : Int32).toInt = -1 := rfl
    have ei := yk_add (x := i) (z := Int32.ofInt 1) (by omega) (by omega)
    -- on to the next byte
    have t54 : ∀ (lv : xm_L) (n a : Int32), xm_get lv 0 = some (.ref j) → xm_get lv 1 = some (.ref s) → xm_get lv 2 = some (.int n) → xm_get lv 3 = some (.int a) → xm_get lv 4 = some (.int i) → i.toInt ≤ bs.length → (0 ≤ n.toInt ∧ n.toInt ≤ i.toInt + 1) → (-1 ≤ a.toInt ∧ a.toInt ≤ i.toInt + 1) → ((i.toInt + 1 ≤ bs.length ∧ yg_ww tok (bs.drop (i.toInt.toNat + 1)) n.toInt a.toInt = R) ∨ (i.toInt = bs.length ∧ R = -1)) → ∀ F, 80 * (m + 1) + 2 ≤ F → xm_run call xm_c83 5 0 0 (some .int) Q F (xm_drop 54 xm_c83) lv [] G E 0 0 = true := by
      intro lv n a l0 l1 l2 l3 l4 hi hn ha hst F hF
      obtain ⟨g, rfl⟩ : ∃ g, F = g + 2 := ⟨F - 2, by omega⟩
      simp only [xz_83_54, xz_83_55, l4, show Nat.blt 4 5 = true from rfl, cond_true, xk_inc, xl_frc]
      refine ih _ n a (i + Int32.ofInt 1) (xl_gs0 (by decide) rfl l0) (xl_gs0 (by decide) rfl l1) (xl_gs0 (by decide) rfl l2) (xl_gs0 (by decide) rfl l3) xl_gs1 (by omega) (by omega) (by omega) (by omega) ?_ (by omega) (by omega)
      rw [show (i + Int32.ofInt 1).toInt.toNat = i.toInt.toNat + 1 by omega]
      rcases hst with z | z
      · exact Or.inl ⟨by omega, z.2⟩
      · exact Or.inr ⟨by omega, z.2⟩
    have t23 : i.toInt ≤ bs.length → (i.toInt < bs.length → bs.drop i.toInt.toNat = 32 :: bs.drop (i.toInt.toNat + 1)) → ∀ F, 80 * (m + 1) + 20 ≤ F → xm_run call xm_c83 5 0 0 (some .int) Q F (xm_drop 23 xm_c83) lv [] G E 0 0 = true := by
      intro hi h32 F hF
      obtain ⟨g, rfl⟩ : ∃ g, F = g + 20 := ⟨F - 20, by omega⟩
      have hst : yg_ww tok (bs.drop i.toInt.toNat) n.toInt a.toInt = R := by
        rcases hst with z | z
        · exact z.2
        · omega
      simp only [xz_83_23, xz_83_24, xz_83_25, xz_83_26, l0, l3, xm_isI, xm_isA, cond_true, yt_get h (i := 4) rfl, xc_int, xk_ne]
      have hw : yg_ww tok (bs.drop i.toInt.toNat) n.toInt a.toInt = if a.toInt = tok.length then n.toInt else if i.toInt < bs.length then yg_ww tok (bs.drop (i.toInt.toNat + 1)) (n.toInt + 1) 0 else -1 := by
        by_cases hlt : i.toInt < bs.length
        · rw [h32 hlt, if_pos hlt]
          show (if (32 : Nat) = 32 then _ else _) = _
          rw [if_pos rfl]
        · rw [List.drop_of_length_le (by omega), if_neg hlt]
          rfl
      rw [hw] at hst
      by_cases hq : a.toInt = size.toInt
      · rw [decide_eq_true hq, Bool.not_true, cond_false]
        simp only [xz_83_27, xz_83_28, l2, xm_isI, cond_true]
        rw [if_pos (by omega)] at hst
        exact hQ n hst
      · rw [decide_eq_false hq, Bool.not_false, cond_true]
        rw [if_neg (by omega)] at hst
        have en := yk_add (x := n) (z := Int32.ofInt 1) (by omega) (by omega)
        simp only [xz_83_29, xz_83_30, xz_83_31, xz_83_32, l2, show Nat.blt 2 5 = true from rfl, show Nat.blt 3 5 = true from rfl, xm_isI, Bool.and_self, cond_true, xk_inc, xl_frc]
        refine t54 _ (n + Int32.ofInt 1) 0 (xl_gs0 (by decide) rfl (xl_gs0 (by decide) rfl l0)) (xl_gs0 (by decide) rfl (xl_gs0 (by decide) rfl l1)) (xl_gs0 (by decide) rfl xl_gs1) xl_gs1 (xl_gs0 (by decide) rfl (xl_gs0 (by decide) rfl l4)) hi (by omega) (by omega) ?_ _ (by omega)
        by_cases hlt : i.toInt < bs.length
        · rw [if_pos hlt] at hst
          refine Or.inl ⟨by omega, ?_⟩
          rw [en, e1, e0]
          exact hst
        · rw [if_neg hlt] at hst
          exact Or.inr ⟨by omega, hst.symm⟩
    have t52 : i.toInt < bs.length → yg_ww tok (bs.drop (i.toInt.toNat + 1)) n.toInt (-1) = R → ∀ F, 80 * (m + 1) + 10 ≤ F → xm_run call xm_c83 5 0 0 (some .int) Q F (xm_drop 52 xm_c83) lv [] G E 0 0 = true := by
      intro hi hst F hF
      obtain ⟨g, rfl⟩ : ∃ g, F = g + 10 := ⟨F - 10, by omega⟩
      simp only [xz_83_52, xz_83_53, show Nat.blt 3 5 = true from rfl, xm_isI, Bool.and_self, cond_true]
      exact t54 _ n (-1) (xl_gs0 (by decide) rfl l0) (xl_gs0 (by decide) rfl l1) (xl_gs0 (by decide) rfl l2) xl_gs1 (xl_gs0 (by decide) rfl l4) (by omega) (by omega) (by omega) (Or.inl ⟨by omega, hst⟩) _ (by omega)
    simp only [xz_83_6, xz_83_7, xz_83_8, xz_83_9, l0, xm_isA, cond_true, yt_get h (i := 2) rfl, xc_int, ek, cond_false]
    simp only [xz_83_10, xz_83_11, xz_83_12, xz_83_13, l1, l4, xm_isI, xm_isA, cond_true, yk_len hs (show xm_cats [Value.int i] ≤ 8 from Nat.le_of_ble_eq_true rfl), xc_int, xk_gt, eL]
    by_cases hgt : (bs.length : Int) < i.toInt
    · rw [decide_eq_true hgt, cond_true]
      exact t56 (by rcases hst with z | z; · omega
                    · exact z.2) _ _ (by omega)
    · rw [decide_eq_false hgt, cond_false]
      simp only [xz_83_14, xz_83_15, xz_83_16, xz_83_17, l1, l4, xm_isI, xm_isA, cond_true, yk_len hs (show xm_cats [Value.int i] ≤ 8 from Nat.le_of_ble_eq_true rfl), xc_int, xk_eq, eL]
      by_cases heq : i.toInt = bs.length
      · rw [decide_eq_true heq, cond_true]
        exact t23 (by omega) (fun q => by omega) _ (by omega)
      · rw [decide_eq_false heq, cond_false]
        have hlt : i.toInt.toNat < bs.length := by omega
        obtain ⟨c, hc⟩ : ∃ c, bs[i.toInt.toNat]? = some c := ⟨_, List.getElem?_eq_getElem hlt⟩
        have hdr : bs.drop i.toInt.toNat = c :: bs.drop (i.toInt.toNat + 1) := by
          rw [List.drop_eq_getElem_cons hlt]
          rw [List.getElem?_eq_getElem hlt] at hc
          cases hc
          rfl
        have hst : yg_ww tok (bs.drop i.toInt.toNat) n.toInt a.toInt = R := by
          rcases hst with z | z
          · exact z.2
          · omega
        have hc128 := hch c (List.mem_of_getElem? hc)
        have ec : (Int32.ofNat c).toInt = c := by
          rw [Int32.toInt_ofNat']
          exact ys_bm (by omega) (by omega)
        simp only [xz_83_18, xz_83_19, xz_83_20, xz_83_21, xz_83_22, l1, l4, xm_isI, xm_isA, cond_true, yk_char hs (show xm_cats [] ≤ 8 from Nat.le_of_ble_eq_true rfl) i0 hc, xc_int, xk_ne, ec]
        have e32 : (32 : Int32).toInt = 32 := rfl
        by_cases h32 : c = 32
        · rw [decide_eq_true (show (c : Int) = (32 : Int32).toInt by omega), Bool.not_true, cond_false]
          exact t23 (by omega) (fun _ => by rw [hdr, h32]) _ (by omega)
        · rw [decide_eq_false (show ¬ (c : Int) = (32 : Int32).toInt by omega), Bool.not_false, cond_true]
          have hw : yg_ww tok (bs.drop i.toInt.toNat) n.toInt a.toInt = if 0 ≤ a.toInt ∧ tok[a.toInt.toNat]? = some (c : Int) then yg_ww tok (bs.drop (i.toInt.toNat + 1)) n.toInt (a.toInt + 1) else yg_ww tok (bs.drop (i.toInt.toNat + 1)) n.toInt (-1) := by
            rw [hdr]
            show (if c = 32 then _ else _) = _
            rw [if_neg h32]
          rw [hw] at hst
          simp only [xz_83_33, xz_83_34, l3, xm_isI, cond_true, xc_int, xk_lt]
          by_cases ha0 : a.toInt < (0 : Int32).toInt
          · rw [decide_eq_true ha0, cond_true]
            rw [if_neg (fun z => by omega)] at hst
            exact t52 (by omega) hst _ (by omega)
          · rw [decide_eq_false ha0, cond_false]
            simp only [xz_83_35, xz_83_36, xz_83_37, xz_83_38, l0, l3, xm_isI, xm_isA, cond_true, yt_get h (i := 4) rfl, xc_int, xk_ge]
            by_cases hsz : a.toInt < size.toInt
            · rw [decide_eq_true hsz, Bool.not_true, cond_false]
              have e := yk_add (x := place) (z := a) (by omega) (by omega)
              obtain ⟨d, hd, -, -⟩ := hby (place + a) (by omega) (by omega)
              have hdq := yg_bq hd
              have ht : tok[a.toInt.toNat]? = some d.toInt := by
                rw [htok, yg_wat (by omega), ← hdq, show (place + a).toInt.toNat = place.toInt.toNat + a.toInt.toNat by omega]
              rw [ht] at hst
              simp only [xz_83_39, xz_83_40, xz_83_41, xz_83_42, xz_83_43, xz_83_44, xz_83_45, xz_83_46, xz_83_47, xz_83_48, xz_83_49, l0, l1, l3, l4, xm_isI, xm_isA, cond_true, yk_char hs (show xm_cats [] ≤ 8 from Nat.le_of_ble_eq_true rfl) i0 hc, yt_get h (i := 3) rfl, yt_get h (i := 0) rfl, xk_add, yk_bald hb (show 0 ≤ (place + a).toInt by omega) hd, xc_int, xk_ne, ec]
              by_cases hq3 : (c : Int) = d.toInt
              · rw [decide_eq_true hq3, Bool.not_true, cond_false]
                rw [if_pos ⟨by omega, by rw [hq3]⟩] at hst
                simp only [xz_83_50, xz_83_51, l3, show Nat.blt 3 5 = true from rfl, cond_true, xk_inc, xl_frc]
                have ea := yk_add (x := a) (z := Int32.ofInt 1) (by omega) (by omega)
                exact t54 _ n _ (xl_gs0 (by decide) rfl l0) (xl_gs0 (by decide) rfl l1) (xl_gs0 (by decide) rfl l2) xl_gs1 (xl_gs0 (by decide) rfl l4) (by omega) (by omega) (by omega) (Or.inl ⟨by omega, by rw [ea, e1]; exact hst⟩) _ (by omega)
              · rw [decide_eq_false hq3, Bool.not_false, cond_true]
                rw [if_neg (fun z => hq3 (Option.some.inj z.2).symm)] at hst
                exact t52 (by omega) hst _ (by omega)
            · rw [decide_eq_false hsz, Bool.not_false, cond_true]
              rw [if_neg (fun z => by rw [List.getElem?_eq_none (by omega)] at z; cases z.2)] at hst
              exact t52 (by omega) hst _ (by omega)
theorem yu_word (hb : xm_hget G b = some (101, B)) (hby : yu_by B) (h : yt_at G j b len kind place size fault) (hk : kind.toInt = 97) (p0 : 0 ≤ place.toInt) (s0 : 0 ≤ size.toInt) (ps : place.toInt + size.toInt ≤ 400) (htok : tok = yg_w B place.toInt.toNat size.toInt.toNat) (hs : xm_strv s G = some bs) (hL : bs.length ≤ 100) (hch : ∀ c ∈ bs, c < 128) (hQ : ∀ x : Int32, x.toInt = yg_ww tok bs 0 0 → Q (some (.int x)) G E = true) {F : Nat} (hF : 20000 ≤ F) : xm_run call xm_c83 5 0 0 (some .int) Q F (xm_drop 0 xm_c83) [(0, .ref j), (1, .ref s)] [] G E 0 0 = true := by
  obtain ⟨g, rfl⟩ : ∃ g, F = g + 6 := ⟨F - 6, by omega⟩
  have e0 : (0 : Int32).toInt = 0 := rfl
  simp only [xz_83_0, xz_83_1, xz_83_2, xz_83_3, xz_83_4, xz_83_5, xm_isI, show Nat.blt 2 5 = true from rfl, show Nat.blt 3 5 = true from rfl, show Nat.blt 4 5 = true from rfl, Bool.and_self, cond_true]
  exact yu_w6 hb hby h hk p0 s0 ps htok hs hL hch hQ 101 _ 0 0 0 rfl rfl rfl rfl rfl (by decide) (by omega) (by omega) (by omega) (Or.inl ⟨by omega, rfl⟩) (by omega) (by omega)
/-- no word: none of them -/
theorem yu_word0 (h : yt_at G j b len kind place size fault) (hk : kind.toInt ≠ 97) (hQ : Q (some (.int (-1))) G E = true) {F : Nat} (hF : 20000 ≤ F) : xm_run call xm_c83 5 0 0 (some .int) Q F (xm_drop 0 xm_c83) [(0, .ref j), (1, .ref s)] [] G E 0 0 = true := by
  obtain ⟨g, rfl⟩ : ∃ g, F = g + 16 := ⟨F - 16, by omega⟩
  have ek : xm_holds .ne (xm_sgn kind.toInt (97 : Int32).toInt) = true := by
    rw [xk_ne, decide_eq_false (show ¬ kind.toInt = (97 : Int32).toInt from hk)]
    rfl
  simp only [xz_83_0, xz_83_1, xz_83_2, xz_83_3, xz_83_4, xz_83_5, xm_isI, show Nat.blt 2 5 = true from rfl, show Nat.blt 3 5 = true from rfl, show Nat.blt 4 5 = true from rfl, Bool.and_self, cond_true]
  have l0 : xm_get (xm_set1 (xm_set1 (xm_set1 [(0, Value.ref j), (1, .ref s)] 2 (.int 0)) 3 (.int 0)) 4 (.int 0)) 0 = some (.ref j) := rfl
  simp only [xz_83_6, xz_83_7, xz_83_8, xz_83_9, l0, xm_isA, cond_true, yt_get h (i := 2) rfl, xc_int, ek, xz_83_56, xz_83_57, xm_isI]
  exact hQ
end UW
/-! what the strings' words are -/
theorem yg_wm {tok : List Int} {r : List Nat} {k : Int} : ∀ (w : List Nat), (∀ c ∈ w, c ≠ 32) → yg_ww tok (w ++ 32 :: r) k (-1) = yg_ww tok r (k + 1) 0
  | [], _ => by
    show (if (32 : Nat) = 32 then (if (-1 : Int) = tok.length then k else _) else _) = _
    rw [if_pos rfl, if_neg (by omega)]
  | c :: w, h => by
    show (if c = 32 then _ else if 0 ≤ (-1 : Int) ∧ _ then _ else _) = _
    rw [if_neg (h c List.mem_cons_self), if_neg (fun z => by omega)]
    exact yg_wm w (fun c hc => h c (List.mem_cons_of_mem _ hc))
theorem yg_wme {tok : List Int} {k : Int} : ∀ (w : List Nat), (∀ c ∈ w, c ≠ 32) → yg_ww tok w k (-1) = -1
  | [], _ => by
    show (if (-1 : Int) = tok.length then k else -1) = -1
    rw [if_neg (by omega)]
  | c :: w, h => by
    show (if c = 32 then _ else if 0 ≤ (-1 : Int) ∧ _ then _ else _) = _
    rw [if_neg (h c List.mem_cons_self), if_neg (fun z => by omega)]
    exact yg_wme w (fun c hc => h c (List.mem_cons_of_mem _ hc))
def yg_i (w : List Nat) : List Int := w.map Int.ofNat
theorem yg_dc {tok : List Int} {a c : Nat} {w : List Nat} : tok.drop a = yg_i (c :: w) ↔ tok[a]? = some (c : Int) ∧ tok.drop (a + 1) = yg_i w := by
  show tok.drop a = (c : Int) :: yg_i w ↔ _
  by_cases h : a < tok.length
  · rw [List.drop_eq_getElem_cons h, List.getElem?_eq_getElem h]
    constructor
    · intro z
      injection z with z1 z2
      exact ⟨by rw [z1], z2⟩
    · rintro ⟨z1, z2⟩
      rw [Option.some.inj z1, z2]
  · rw [List.drop_of_length_le (by omega), List.getElem?_eq_none (by omega)]
    constructor
    · intro z
      cases z
    · rintro ⟨z1, -⟩
      cases z1
theorem yg_wp {tok : List Int} {r : List Nat} {k : Int} : ∀ (w : List Nat) (a : Nat), a ≤ tok.length → (∀ c ∈ w, c ≠ 32) → yg_ww tok (w ++ 32 :: r) k a = if tok.drop a = yg_i w then k else yg_ww tok r (k + 1) 0
  | [], a, ha, _ => by
    show (if (32 : Nat) = 32 then (if (a : Int) = tok.length then k else _) else _) = _
    rw [if_pos rfl]
    by_cases e : a = tok.length
    · rw [if_pos (by omega), if_pos (by subst e; rw [List.drop_length]; rfl)]
    · rw [if_neg (by omega), if_neg (fun z => by
        have z : tok.drop a = [] := z
        have := List.drop_eq_nil_iff.mp z
        omega)]
  | c :: w, a, ha, h => by
    have hw := fun c hc => h c (List.mem_cons_of_mem _ hc)
    show (if c = 32 then _ else if 0 ≤ (a : Int) ∧ tok[(a : Int).toNat]? = some (c : Int) then yg_ww tok (w ++ 32 :: r) k ((a : Int) + 1) else yg_ww tok (w ++ 32 :: r) k (-1)) = _
    rw [if_neg (h c List.mem_cons_self), show (a : Int).toNat = a from rfl]
    by_cases e : tok[a]? = some (c : Int)
    · rw [if_pos ⟨by omega, e⟩]
      have hlt : a < tok.length := by
        rcases Nat.lt_or_ge a tok.length with z | z
        · exact z
        · rw [List.getElem?_eq_none z] at e
          cases e
      have := yg_wp w (a + 1) (by omega) hw (tok := tok) (r := r) (k := k)
      rw [show ((a : Int) + 1) = ((a + 1 : Nat) : Int) by omega, this]
      by_cases e2 : tok.drop (a + 1) = yg_i w
      · rw [if_pos e2, if_pos (yg_dc.mpr ⟨e, e2⟩)]
      · rw [if_neg e2, if_neg (fun z => e2 (yg_dc.mp z).2)]
    · rw [if_neg (fun z => e z.2), if_neg (fun z => e (yg_dc.mp z).1)]
      exact yg_wm w hw
theorem yg_wpe {tok : List Int} {k : Int} : ∀ (w : List Nat) (a : Nat), a ≤ tok.length → (∀ c ∈ w, c ≠ 32) → yg_ww tok w k a = if tok.drop a = yg_i w then k else -1
  | [], a, ha, _ => by
    show (if (a : Int) = tok.length then k else _) = _
    by_cases e : a = tok.length
    · rw [if_pos (by omega), if_pos (by subst e; rw [List.drop_length]; rfl)]
    · rw [if_neg (by omega), if_neg (fun z => by
        have z : tok.drop a = [] := z
        have := List.drop_eq_nil_iff.mp z
        omega)]
  | c :: w, a, ha, h => by
    have hw := fun c hc => h c (List.mem_cons_of_mem _ hc)
    show (if c = 32 then _ else if 0 ≤ (a : Int) ∧ tok[(a : Int).toNat]? = some (c : Int) then yg_ww tok w k ((a : Int) + 1) else yg_ww tok w k (-1)) = _
    rw [if_neg (h c List.mem_cons_self), show (a : Int).toNat = a from rfl]
    by_cases e : tok[a]? = some (c : Int)
    · rw [if_pos ⟨by omega, e⟩]
      have hlt : a < tok.length := by
        rcases Nat.lt_or_ge a tok.length with z | z
        · exact z
        · rw [List.getElem?_eq_none z] at e
          cases e
      have := yg_wpe w (a + 1) (by omega) hw (tok := tok) (k := k)
      rw [show ((a : Int) + 1) = ((a + 1 : Nat) : Int) by omega, this]
      by_cases e2 : tok.drop (a + 1) = yg_i w
      · rw [if_pos e2, if_pos (yg_dc.mpr ⟨e, e2⟩)]
      · rw [if_neg e2, if_neg (fun z => e2 (yg_dc.mp z).2)]
    · rw [if_neg (fun z => e z.2), if_neg (fun z => e (yg_dc.mp z).1)]
      exact yg_wme w hw
/-- a string of words with blanks between -/
def yg_ix (tok : List Int) : List (List Nat) → Int → Int
  | [], _ => -1
  | w :: ws, k => if tok = yg_i w then k else yg_ix tok ws (k + 1)
def yg_cat : List (List Nat) → List Nat
  | [] => []
  | [w] => w
  | w :: v :: ws => w ++ 32 :: yg_cat (v :: ws)
theorem yg_wix {tok : List Int} : ∀ (ws : List (List Nat)) (k : Int), ws ≠ [] → (∀ w ∈ ws, ∀ c ∈ w, c ≠ 32) → yg_ww tok (yg_cat ws) k 0 = yg_ix tok ws k
  | [], _, h, _ => absurd rfl h
  | [w], k, _, h => yg_wpe w 0 (by omega) (h w List.mem_cons_self)
  | w :: v :: ws, k, _, h => by
    show yg_ww tok (w ++ 32 :: yg_cat (v :: ws)) k ((0 : Nat) : Int) = _
    rw [yg_wp w 0 (by omega) (h w List.mem_cons_self), yg_wix (v :: ws) (k + 1) (fun z => by cases z) (fun w' hw' => h w' (List.mem_cons_of_mem _ hw'))]
    rfl
def yg_s1 : List (List Nat) := [[116, 101, 108, 108]]
def yg_s2 : List (List Nat) := [[116, 101, 108, 108, 101, 114], [104, 101, 97, 114, 101, 114], [102, 108, 111, 111, 114], [98, 101, 108, 108], [99, 104, 97, 105, 114, 115], [115, 105, 110, 99, 101], [104, 111, 109, 101], [116, 104, 101, 114, 101], [107, 110, 111, 119, 110], [110, 105, 103, 104, 116], [116, 119, 105, 115, 116]]
def yg_s3 : List (List Nat) := [[105, 102]]
def yg_s4 : List (List Nat) := [[110, 111, 116]]
def yg_s5 : List (List Nat) := [[97, 110, 100], [111, 114]]
def yg_sw (k : Nat) : List (List Nat) := if k = 1 then yg_s1 else if k = 2 then yg_s2 else if k = 3 then yg_s3 else if k = 4 then yg_s4 else yg_s5
def yg_sok (k : Nat) : Bool := match xm_stb[k]? with
  | some bs => decide (bs = yg_cat (yg_sw k)) && (decide (bs.length ≤ 100) && (bs.all (fun c => decide (c < 128)) && ((yg_sw k).all (fun w => w.all (fun c => decide (c ≠ 32))) && decide (yg_sw k ≠ []))))
  | none => false
theorem yg_soks : ∀ k : Nat, k < 6 → 1 ≤ k → yg_sok k = true := by decide +kernel
