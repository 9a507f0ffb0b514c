/-! the law's loop, all of it -/
section LT
variable {E : xm_R} {k : xm_R → Nat → Bool}
theorem yT_0 : xm_table 0 682 [22, 79, 96, 103, 110, 127, 154, 181, 208, 215, 242, 269, 286, 303, 310, 327, 354, 371, 418, 445, 462, 479, 506, 543, 560, 577, 594, 631, 648, 665] (.int (Int32.ofNat 0)) E k = k E 22 := rfl
theorem yT_1 : xm_table 0 682 [22, 79, 96, 103, 110, 127, 154, 181, 208, 215, 242, 269, 286, 303, 310, 327, 354, 371, 418, 445, 462, 479, 506, 543, 560, 577, 594, 631, 648, 665] (.int (Int32.ofNat 1)) E k = k E 79 := rfl
theorem yT_2 : xm_table 0 682 [22, 79, 96, 103, 110, 127, 154, 181, 208, 215, 242, 269, 286, 303, 310, 327, 354, 371, 418, 445, 462, 479, 506, 543, 560, 577, 594, 631, 648, 665] (.int (Int32.ofNat 2)) E k = k E 96 := rfl
theorem yT_3 : xm_table 0 682 [22, 79, 96, 103, 110, 127, 154, 181, 208, 215, 242, 269, 286, 303, 310, 327, 354, 371, 418, 445, 462, 479, 506, 543, 560, 577, 594, 631, 648, 665] (.int (Int32.ofNat 3)) E k = k E 103 := rfl
theorem yT_4 : xm_table 0 682 [22, 79, 96, 103, 110, 127, 154, 181, 208, 215, 242, 269, 286, 303, 310, 327, 354, 371, 418, 445, 462, 479, 506, 543, 560, 577, 594, 631, 648, 665] (.int (Int32.ofNat 4)) E k = k E 110 := rfl
theorem yT_5 : xm_table 0 682 [22, 79, 96, 103, 110, 127, 154, 181, 208, 215, 242, 269, 286, 303, 310, 327, 354, 371, 418, 445, 462, 479, 506, 543, 560, 577, 594, 631, 648, 665] (.int (Int32.ofNat 5)) E k = k E 127 := rfl
theorem yT_6 : xm_table 0 682 [22, 79, 96, 103, 110, 127, 154, 181, 208, 215, 242, 269, 286, 303, 310, 327, 354, 371, 418, 445, 462, 479, 506, 543, 560, 577, 594, 631, 648, 665] (.int (Int32.ofNat 6)) E k = k E 154 := rfl
theorem yT_7 : xm_table 0 682 [22, 79, 96, 103, 110, 127, 154, 181, 208, 215, 242, 269, 286, 303, 310, 327, 354, 371, 418, 445, 462, 479, 506, 543, 560, 577, 594, 631, 648, 665] (.int (Int32.ofNat 7)) E k = k E 181 := rfl
theorem yT_8 : xm_table 0 682 [22, 79, 96, 103, 110, 127, 154, 181, 208, 215, 242, 269, 286, 303, 310, 327, 354, 371, 418, 445, 462, 479, 506, 543, 560, 577, 594, 631, 648, 665] (.int (Int32.ofNat 8)) E k = k E 208 := rfl
theorem yT_9 : xm_table 0 682 [22, 79, 96, 103, 110, 127, 154, 181, 208, 215, 242, 269, 286, 303, 310, 327, 354, 371, 418, 445, 462, 479, 506, 543, 560, 577, 594, 631, 648, 665] (.int (Int32.ofNat 9)) E k = k E 215 := rfl
theorem yT_10 : xm_table 0 682 [22, 79, 96, 103, 110, 127, 154, 181, 208, 215, 242, 269, 286, 303, 310, 327, 354, 371, 418, 445, 462, 479, 506, 543, 560, 577, 594, 631, 648, 665] (.int (Int32.ofNat 10)) E k = k E 242 := rfl
theorem yT_11 : xm_table 0 682 [22, 79, 96, 103, 110, 127, 154, 181, 208, 215, 242, 269, 286, 303, 310, 327, 354, 371, 418, 445, 462, 479, 506, 543, 560, 577, 594, 631, 648, 665] (.int (Int32.ofNat 11)) E k = k E 269 := rfl
theorem yT_12 : xm_table 0 682 [22, 79, 96, 103, 110, 127, 154, 181, 208, 215, 242, 269, 286, 303, 310, 327, 354, 371, 418, 445, 462, 479, 506, 543, 560, 577, 594, 631, 648, 665] (.int (Int32.ofNat 12)) E k = k E 286 := rfl
theorem yT_13 : xm_table 0 682 [22, 79, 96, 103, 110, 127, 154, 181, 208, 215, 242, 269, 286, 303, 310, 327, 354, 371, 418, 445, 462, 479, 506, 543, 560, 577, 594, 631, 648, 665] (.int (Int32.ofNat 13)) E k = k E 303 := rfl
theorem yT_14 : xm_table 0 682 [22, 79, 96, 103, 110, 127, 154, 181, 208, 215, 242, 269, 286, 303, 310, 327, 354, 371, 418, 445, 462, 479, 506, 543, 560, 577, 594, 631, 648, 665] (.int (Int32.ofNat 14)) E k = k E 310 := rfl
theorem yT_15 : xm_table 0 682 [22, 79, 96, 103, 110, 127, 154, 181, 208, 215, 242, 269, 286, 303, 310, 327, 354, 371, 418, 445, 462, 479, 506, 543, 560, 577, 594, 631, 648, 665] (.int (Int32.ofNat 15)) E k = k E 327 := rfl
theorem yT_16 : xm_table 0 682 [22, 79, 96, 103, 110, 127, 154, 181, 208, 215, 242, 269, 286, 303, 310, 327, 354, 371, 418, 445, 462, 479, 506, 543, 560, 577, 594, 631, 648, 665] (.int (Int32.ofNat 16)) E k = k E 354 := rfl
theorem yT_17 : xm_table 0 682 [22, 79, 96, 103, 110, 127, 154, 181, 208, 215, 242, 269, 286, 303, 310, 327, 354, 371, 418, 445, 462, 479, 506, 543, 560, 577, 594, 631, 648, 665] (.int (Int32.ofNat 17)) E k = k E 371 := rfl
theorem yT_18 : xm_table 0 682 [22, 79, 96, 103, 110, 127, 154, 181, 208, 215, 242, 269, 286, 303, 310, 327, 354, 371, 418, 445, 462, 479, 506, 543, 560, 577, 594, 631, 648, 665] (.int (Int32.ofNat 18)) E k = k E 418 := rfl
theorem yT_19 : xm_table 0 682 [22, 79, 96, 103, 110, 127, 154, 181, 208, 215, 242, 269, 286, 303, 310, 327, 354, 371, 418, 445, 462, 479, 506, 543, 560, 577, 594, 631, 648, 665] (.int (Int32.ofNat 19)) E k = k E 445 := rfl
theorem yT_20 : xm_table 0 682 [22, 79, 96, 103, 110, 127, 154, 181, 208, 215, 242, 269, 286, 303, 310, 327, 354, 371, 418, 445, 462, 479, 506, 543, 560, 577, 594, 631, 648, 665] (.int (Int32.ofNat 20)) E k = k E 462 := rfl
theorem yT_21 : xm_table 0 682 [22, 79, 96, 103, 110, 127, 154, 181, 208, 215, 242, 269, 286, 303, 310, 327, 354, 371, 418, 445, 462, 479, 506, 543, 560, 577, 594, 631, 648, 665] (.int (Int32.ofNat 21)) E k = k E 479 := rfl
theorem yT_22 : xm_table 0 682 [22, 79, 96, 103, 110, 127, 154, 181, 208, 215, 242, 269, 286, 303, 310, 327, 354, 371, 418, 445, 462, 479, 506, 543, 560, 577, 594, 631, 648, 665] (.int (Int32.ofNat 22)) E k = k E 506 := rfl
theorem yT_23 : xm_table 0 682 [22, 79, 96, 103, 110, 127, 154, 181, 208, 215, 242, 269, 286, 303, 310, 327, 354, 371, 418, 445, 462, 479, 506, 543, 560, 577, 594, 631, 648, 665] (.int (Int32.ofNat 23)) E k = k E 543 := rfl
theorem yT_24 : xm_table 0 682 [22, 79, 96, 103, 110, 127, 154, 181, 208, 215, 242, 269, 286, 303, 310, 327, 354, 371, 418, 445, 462, 479, 506, 543, 560, 577, 594, 631, 648, 665] (.int (Int32.ofNat 24)) E k = k E 560 := rfl
theorem yT_25 : xm_table 0 682 [22, 79, 96, 103, 110, 127, 154, 181, 208, 215, 242, 269, 286, 303, 310, 327, 354, 371, 418, 445, 462, 479, 506, 543, 560, 577, 594, 631, 648, 665] (.int (Int32.ofNat 25)) E k = k E 577 := rfl
theorem yT_26 : xm_table 0 682 [22, 79, 96, 103, 110, 127, 154, 181, 208, 215, 242, 269, 286, 303, 310, 327, 354, 371, 418, 445, 462, 479, 506, 543, 560, 577, 594, 631, 648, 665] (.int (Int32.ofNat 26)) E k = k E 594 := rfl
theorem yT_27 : xm_table 0 682 [22, 79, 96, 103, 110, 127, 154, 181, 208, 215, 242, 269, 286, 303, 310, 327, 354, 371, 418, 445, 462, 479, 506, 543, 560, 577, 594, 631, 648, 665] (.int (Int32.ofNat 27)) E k = k E 631 := rfl
theorem yT_28 : xm_table 0 682 [22, 79, 96, 103, 110, 127, 154, 181, 208, 215, 242, 269, 286, 303, 310, 327, 354, 371, 418, 445, 462, 479, 506, 543, 560, 577, 594, 631, 648, 665] (.int (Int32.ofNat 28)) E k = k E 648 := rfl
theorem yT_29 : xm_table 0 682 [22, 79, 96, 103, 110, 127, 154, 181, 208, 215, 242, 269, 286, 303, 310, 327, 354, 371, 418, 445, 462, 479, 506, 543, 560, 577, 594, 631, 648, 665] (.int (Int32.ofNat 29)) E k = k E 665 := rfl
theorem yT_30 : xm_table 0 682 [22, 79, 96, 103, 110, 127, 154, 181, 208, 215, 242, 269, 286, 303, 310, 327, 354, 371, 418, 445, 462, 479, 506, 543, 560, 577, 594, 631, 648, 665] (.int (Int32.ofNat 30)) E k = k E 682 := rfl
theorem yT_31 : xm_table 0 682 [22, 79, 96, 103, 110, 127, 154, 181, 208, 215, 242, 269, 286, 303, 310, 327, 354, 371, 418, 445, 462, 479, 506, 543, 560, 577, 594, 631, 648, 665] (.int (Int32.ofNat 31)) E k = k E 682 := rfl
end LT
theorem xk_len {G : xm_H} {vs : List Value} (h : xm_hget G 0 = some (301, vs)) {st : List Value} {k : List Value → Bool} : xm_alen (.ref 0 :: st) G k = k (.int (Int32.ofNat vs.length) :: st) := by
  show (match xm_hget G 0 with
    | some (t, vs) => bif Nat.beq t 300 then k (.retAddr 6 :: st) else bif (Nat.ble 100 t && Nat.blt t 108) || Nat.beq t 301 then k (.int (Int32.ofNat (xm_len vs)) :: st) else false
    | none => false) = _
  rw [h]
  show k (.int (Int32.ofNat (xm_len vs)) :: st) = _
  rw [xl_len]
theorem yl_small {c : Int32} (h0 : 0 ≤ c.toInt) (h1 : c.toInt ≤ 31) : ∃ n : Nat, n < 32 ∧ c = Int32.ofNat n := by
  refine ⟨c.toInt.toNat, by omega, ?_⟩
  refine Int32.toInt_inj.mp ?_
  rw [show Int32.ofNat c.toInt.toNat = Int32.ofInt (c.toInt.toNat : Int) from rfl, ys_of32 (by omega) (by omega)]
  omega
theorem yl_len32 {L : Nat} (h : L ≤ 3072) : (Int32.ofNat L).toInt = L := by
  rw [show Int32.ofNat L = Int32.ofInt (L : Int) from rfl, ys_of32 (by omega) (by omega)]
section LL
variable {xs : List Int32} {d kc ks : Nat} {Q : xm_Q} {E : xm_R}
theorem yL_loop (hd : 120 ≤ d) (hlen : xs.length ≤ 3072) (hk : kc ≤ 600000) (hs : ks ≤ 7302250) (hQ : ∀ G : xm_H, Q (some (.int 1)) G E = true) : ∀ (n : Nat) (G : xm_H) (lv : xm_L) (i : Int32) (b : Int), yLw G xs b → 6 * b ≤ i.toInt → xm_get lv 0 = some (.ref 0) → xm_get lv 1 = some (.ref 7) → xm_get lv 2 = some (.ref 344) → xm_get lv 3 = some (.int i) → 0 ≤ i.toInt → i.toInt ≤ 3080 → (3080 - i.toInt).toNat ≤ n → ∀ {F : Nat}, 200 * (n + 1) ≤ F → xm_run (xm_exec d) xm_c0 4 600000 7302250 (some .boolean) Q F (xm_drop 10 xm_c0) lv [] G E kc ks = true := by
  have n6 : (6 : Int32).toInt = 6 := rfl
  have nn : ∀ a : Int32, 0 ≤ a.toInt → a.toInt ≤ 6 → ∀ i : Int32, 0 ≤ i.toInt → i.toInt ≤ 3080 → (i + a).toInt = i.toInt + a.toInt := fun a a0 a1 i i0 i1 => by rw [yk_add] <;> omega
  intro n
  induction n with
  | zero =>
    intro G lv i b hL hb l0 l1 l2 l3 i0 i1 hn F hFu
    obtain ⟨g, rfl⟩ : ∃ g, F = g + 200 := ⟨F - 200, by omega⟩
    simp only [xy_0_10 l3, xy_0_11 l0, xz_0_12, xz_0_13, xy_0_14, xy_0_15, xk_len hL.2.2.2]
    have e : (Int32.ofNat (xs.map Value.int).length - 6).toInt = (xs.length : Int) - 6 := by
      rw [List.length_map, yk_sub] <;> rw [yl_len32 hlen, n6] <;> omega
    rw [decide_eq_true (show (Int32.ofNat (xs.map Value.int).length - 6).toInt < i.toInt by omega), cond_true]
    rw [xz_0_684, xz_0_685]
    show (bif true && (true && (Nat.ble kc 600000 && Nat.ble ks 7302250)) then Q (some (.int 1)) G E else false) = true
    rw [Nat.ble_eq_true_of_le hk, Nat.ble_eq_true_of_le hs]
    exact hQ G
  | succ n ih =>
    intro G lv i b hL hb l0 l1 l2 l3 i0 i1 hn F hFu
    obtain ⟨g, rfl⟩ : ∃ g, F = g + 200 := ⟨F - 200, by omega⟩
    simp only [xy_0_10 l3, xy_0_11 l0, xz_0_12, xz_0_13, xy_0_14, xy_0_15, xk_len hL.2.2.2]
    have e : (Int32.ofNat (xs.map Value.int).length - 6).toInt = (xs.length : Int) - 6 := by
      rw [List.length_map, yk_sub] <;> rw [yl_len32 hlen, n6] <;> omega
    by_cases hc : (Int32.ofNat (xs.map Value.int).length - 6).toInt < i.toInt
    · rw [decide_eq_true hc, cond_true]
      rw [xz_0_684, xz_0_685]
      show (bif true && (true && (Nat.ble kc 600000 && Nat.ble ks 7302250)) then Q (some (.int 1)) G E else false) = true
      rw [Nat.ble_eq_true_of_le hk, Nat.ble_eq_true_of_le hs]
      exact hQ G
    · rw [decide_eq_false hc, cond_false]
      have q1 : (i + 1).toInt = i.toInt + 1 := nn 1 (by decide) (by decide) i i0 i1
      have q2 : (i + 2).toInt = i.toInt + 2 := nn 2 (by decide) (by decide) i i0 i1
      have q3 : (i + 3).toInt = i.toInt + 3 := nn 3 (by decide) (by decide) i i0 i1
      have q4 : (i + 4).toInt = i.toInt + 4 := nn 4 (by decide) (by decide) i i0 i1
      have q5 : (i + 5).toInt = i.toInt + 5 := nn 5 (by decide) (by decide) i i0 i1
      have q6 : (i + Int32.ofInt 6).toInt = i.toInt + 6 := nn 6 (by decide) (by decide) i i0 i1
      have gt : ∀ x : Int32, x.toInt.toNat < xs.length → ∃ y, xs[x.toInt.toNat]? = some y := fun x hx => ⟨_, List.getElem?_eq_getElem hx⟩
      obtain ⟨y0, e0⟩ := gt i (by omega)
      obtain ⟨y1, e1⟩ := gt (i + 1) (by omega)
      obtain ⟨y2, e2⟩ := gt (i + 2) (by omega)
      obtain ⟨y3, e3⟩ := gt (i + 3) (by omega)
      obtain ⟨y4, e4⟩ := gt (i + 4) (by omega)
      obtain ⟨y5, e5⟩ := gt (i + 5) (by omega)
      have p1 : 0 ≤ (i + 1).toInt := by omega
      have p2 : 0 ≤ (i + 2).toInt := by omega
      have p3 : 0 ≤ (i + 3).toInt := by omega
      have p4 : 0 ≤ (i + 4).toInt := by omega
      have p5 : 0 ≤ (i + 5).toInt := by omega
      have hb5 : b ≤ 513 := by omega
      have t682 : ∀ (G' : xm_H) (F : Nat), 200 * (n + 1) + 2 ≤ F → yLw G' xs (b + 1) → xm_run (xm_exec d) xm_c0 4 600000 7302250 (some .boolean) Q F (xm_drop 682 xm_c0) lv [] G' E kc ks = true := by
        intro G' F hF hL'
        obtain ⟨f, rfl⟩ : ∃ f, F = f + 2 := ⟨F - 2, by omega⟩
        simp only [xy_0_682 l3, xy_0_683]
        exact ih G' _ (i + Int32.ofInt 6) (b + 1) hL' (by rw [q6]; omega) (xl_s1 (by decide) (Or.inl rfl) l0) (xl_s1 (by decide) (Or.inl rfl) l1) (xl_s1 (by decide) (Or.inl rfl) l2) xl_gs1 (by omega) (by omega) (by omega) (by omega)
      simp only [xy_0_16 l0, xy_0_17 l3, xz_0_18, xz_0_19, xy_0_20, xk_scr hL.2.2.2 i0 e0]
      rw [xz_0_21]
      have an := ys_andr (x := y0) (z := 31) (by decide)
      have e31 : (31 : Int32).toInt = 31 := rfl
      obtain ⟨m, hm, em⟩ := yl_small (c := y0 &&& 31) an.1 (by omega)
      rw [em]
      match m, hm with
      | 0, _ =>
        dsimp only
        rw [yT_0]
        exact yL_0 (f := g + 131) hd hL hb5 l0 l1 l2 l3 p1 e1 p2 e2 p3 e3 p4 e4 p5 e5 hk hs (fun G' hL' => t682 G' _ (by omega) hL')
      | 1, _ =>
        dsimp only
        rw [yT_1]
        exact yL_1 (f := g + 171) hd hL hb5 l0 l1 l2 l3 p1 e1 hk hs (fun G' hL' => t682 G' _ (by omega) hL')
      | 2, _ =>
        dsimp only
        rw [yT_2]
        exact yL_2 (f := g + 181) hd hL hb5 l0 l1 l2 l3  hk hs (fun G' hL' => t682 G' _ (by omega) hL')
      | 3, _ =>
        dsimp only
        rw [yT_3]
        exact yL_3 (f := g + 181) hd hL hb5 l0 l1 l2 l3  hk hs (fun G' hL' => t682 G' _ (by omega) hL')
      | 4, _ =>
        dsimp only
        rw [yT_4]
        exact yL_4 (f := g + 171) hd hL hb5 l0 l1 l2 l3 p1 e1 hk hs (fun G' hL' => t682 G' _ (by omega) hL')
      | 5, _ =>
        dsimp only
        rw [yT_5]
        exact yL_5 (f := g + 161) hd hL hb5 l0 l1 l2 l3 p1 e1 p2 e2 hk hs (fun G' hL' => t682 G' _ (by omega) hL')
      | 6, _ =>
        dsimp only
        rw [yT_6]
        exact yL_6 (f := g + 161) hd hL hb5 l0 l1 l2 l3 p1 e1 p2 e2 hk hs (fun G' hL' => t682 G' _ (by omega) hL')
      | 7, _ =>
        dsimp only
        rw [yT_7]
        exact yL_7 (f := g + 161) hd hL hb5 l0 l1 l2 l3 p1 e1 p2 e2 hk hs (fun G' hL' => t682 G' _ (by omega) hL')
      | 8, _ =>
        dsimp only
        rw [yT_8]
        exact yL_8 (f := g + 181) hd hL hb5 l0 l1 l2 l3  hk hs (fun G' hL' => t682 G' _ (by omega) hL')
      | 9, _ =>
        dsimp only
        rw [yT_9]
        exact yL_9 (f := g + 161) hd hL hb5 l0 l1 l2 l3 p1 e1 p2 e2 hk hs (fun G' hL' => t682 G' _ (by omega) hL')
      | 10, _ =>
        dsimp only
        rw [yT_10]
        exact yL_10 (f := g + 161) hd hL hb5 l0 l1 l2 l3 p1 e1 p2 e2 hk hs (fun G' hL' => t682 G' _ (by omega) hL')
      | 11, _ =>
        dsimp only
        rw [yT_11]
        exact yL_11 (f := g + 171) hd hL hb5 l0 l1 l2 l3 p1 e1 hk hs (fun G' hL' => t682 G' _ (by omega) hL')
      | 12, _ =>
        dsimp only
        rw [yT_12]
        exact yL_12 (f := g + 173) hd hL hb5 l0 l1 l2 l3 p1 e1 hk hs (fun G' hL' => t682 G' _ (by omega) hL')
      | 13, _ =>
        dsimp only
        rw [yT_13]
        exact yL_13 (f := g + 181) hd hL hb5 l0 l1 l2 l3  hk hs (fun G' hL' => t682 G' _ (by omega) hL')
      | 14, _ =>
        dsimp only
        rw [yT_14]
        exact yL_14 (f := g + 171) hd hL hb5 l0 l1 l2 l3 p1 e1 hk hs (fun G' hL' => t682 G' _ (by omega) hL')
      | 15, _ =>
        dsimp only
        rw [yT_15]
        exact yL_15 (f := g + 161) hd hL hb5 l0 l1 l2 l3 p1 e1 p2 e2 hk hs (fun G' hL' => t682 G' _ (by omega) hL')
      | 16, _ =>
        dsimp only
        rw [yT_16]
        exact yL_16 (f := g + 171) hd hL hb5 l0 l1 l2 l3 p1 e1 hk hs (fun G' hL' => t682 G' _ (by omega) hL')
      | 17, _ =>
        dsimp only
        rw [yT_17]
        exact yL_17 (f := g + 141) hd hL hb5 l0 l1 l2 l3 p1 e1 p2 e2 p3 e3 p4 e4 hk hs (fun G' hL' => t682 G' _ (by omega) hL')
      | 18, _ =>
        dsimp only
        rw [yT_18]
        exact yL_18 (f := g + 161) hd hL hb5 l0 l1 l2 l3 p1 e1 p2 e2 hk hs (fun G' hL' => t682 G' _ (by omega) hL')
      | 19, _ =>
        dsimp only
        rw [yT_19]
        exact yL_19 (f := g + 171) hd hL hb5 l0 l1 l2 l3 p1 e1 hk hs (fun G' hL' => t682 G' _ (by omega) hL')
      | 20, _ =>
        dsimp only
        rw [yT_20]
        exact yL_20 (f := g + 171) hd hL hb5 l0 l1 l2 l3 p1 e1 hk hs (fun G' hL' => t682 G' _ (by omega) hL')
      | 21, _ =>
        dsimp only
        rw [yT_21]
        exact yL_21 (f := g + 161) hd hL hb5 l0 l1 l2 l3 p1 e1 p2 e2 hk hs (fun G' hL' => t682 G' _ (by omega) hL')
      | 22, _ =>
        dsimp only
        rw [yT_22]
        exact yL_22 (f := g + 151) hd hL hb5 l0 l1 l2 l3 p1 e1 p2 e2 p3 e3 hk hs (fun G' hL' => t682 G' _ (by omega) hL')
      | 23, _ =>
        dsimp only
        rw [yT_23]
        exact yL_23 (f := g + 171) hd hL hb5 l0 l1 l2 l3 p1 e1 hk hs (fun G' hL' => t682 G' _ (by omega) hL')
      | 24, _ =>
        dsimp only
        rw [yT_24]
        exact yL_24 (f := g + 171) hd hL hb5 l0 l1 l2 l3 p1 e1 hk hs (fun G' hL' => t682 G' _ (by omega) hL')
      | 25, _ =>
        dsimp only
        rw [yT_25]
        exact yL_25 (f := g + 171) hd hL hb5 l0 l1 l2 l3 p1 e1 hk hs (fun G' hL' => t682 G' _ (by omega) hL')
      | 26, _ =>
        dsimp only
        rw [yT_26]
        exact yL_26 (f := g + 151) hd hL hb5 l0 l1 l2 l3 p1 e1 p2 e2 p3 e3 hk hs (fun G' hL' => t682 G' _ (by omega) hL')
      | 27, _ =>
        dsimp only
        rw [yT_27]
        exact yL_27 (f := g + 171) hd hL hb5 l0 l1 l2 l3 p1 e1 hk hs (fun G' hL' => t682 G' _ (by omega) hL')
      | 28, _ =>
        dsimp only
        rw [yT_28]
        exact yL_28 (f := g + 171) hd hL hb5 l0 l1 l2 l3 p1 e1 hk hs (fun G' hL' => t682 G' _ (by omega) hL')
      | 29, _ =>
        dsimp only
        rw [yT_29]
        exact yL_29 (f := g + 171) hd hL hb5 l0 l1 l2 l3 p1 e1 hk hs (fun G' hL' => t682 G' _ (by omega) hL')
      | 30, _ =>
        dsimp only
        rw [yT_30]
        exact t682 G _ (by omega) (yLw_mo hL)
      | 31, _ =>
        dsimp only
        rw [yT_31]
        exact t682 G _ (by omega) (yLw_mo hL)
      | m + 32, hm => exact absurd hm (by omega)
end LL
