/-! the reference's reading: tested, a clause, all of a rule -/
section RH
variable {s0 s : zS} {t T N m ln : Int} {O : List Int}
theorem zRs.forget {O : zO} (h : zRs s0 t N m O ln s) : zRs s0 t N m none ln s := ⟨h.1, trivial, h.2.2⟩
theorem zRs.push {c : Int} (h : zRs s0 t N m (some O) ln s) (hc : c = 12 ∨ c = 13) (hl : O.length ≤ 1000) : zRs s0 t N m (some (c :: O)) ln (zu (zu s (344 + 7) (s 344 16) c) 344 16 (zw ((zu s (344 + 7) (s 344 16) c) 344 16 + 1))) := by
  have e16 := h.2.1.2.1
  have a2 : (zu s 351 ((O.length : Nat) : Int) c) 344 16 = ((O.length : Nat) : Int) := by rw [zu_cell (by decide)]; exact e16
  rw [show (344 : Int) + 7 = 351 from rfl, e16, a2, zw_id (by omega) (by omega)]
  have e : ∀ b, b ≠ 16 → (zu (zu s 351 ((O.length : Nat) : Int) c) 344 16 (((O.length : Nat) : Int) + 1)) 344 b = s 344 b := fun b h2 => by rw [zu_place h2, zu_cell (by decide)]
  refine ⟨by rw [e 8 (by decide), e 9 (by decide), e 11 (by decide), e 12 (by decide), e 14 (by decide)]; exact h.1, ⟨?_, ?_, ?_⟩, zK_u (zK_u h.2.2 (by omega)) (by omega)⟩
  · rw [e 13 (by decide), h.2.1.1]
    show zdp O = (if c = 91 ∨ c = 11 then 1 else 0) + zdp O
    rw [if_neg (by omega)]
    omega
  · rw [zu_hit]
    rfl
  · exact ⟨by rw [zu_cell (by decide), zu_hit], zop_u (by decide) (zop_push h.2.1.2.2 O.length (Nat.le_refl _))⟩
theorem zab_or (h : O.head? ≠ some 11) (hw : zwf O) : zab O = [] ∨ ∃ r, zab O = true :: r := by
  obtain ⟨h1, h2⟩ := zab_in h hw
  by_cases e : 91 ∈ O
  · exact Or.inr (h1.mp e)
  · exact Or.inl (h2 e)
theorem zpp_lab : ∀ L : List Int, (zab (zpp 3 L)).length ≤ (zab L).length
  | [] => Nat.le_refl _
  | d :: L => by
    have ih3 := zpp_lab L
    show (zab (if zsr_ d < 3 then d :: L else zpp 3 L)).length ≤ (if d = 91 then true :: zab L else if d = 11 then false :: zab L else zab L).length
    by_cases f : zsr_ d < 3
    · rw [if_pos f]
      exact Nat.le_refl _
    · rw [if_neg f]
      refine Nat.le_trans ih3 ?_
      by_cases f1 : d = 91
      · rw [if_pos f1]; exact Nat.le_succ _
      · rw [if_neg f1]
        by_cases f2 : d = 11
        · rw [if_pos f2]; exact Nat.le_succ _
        · rw [if_neg f2]; exact Nat.le_refl _
/-- behind the brackets: and, or, or the end -/
theorem zr_joint (hc : zCy s0 T) (l : Int) {x2 : Int} (h : zRs s0 t N m (some O) ln s) (hN : 0 ≤ N) (hN4 : N ≤ T) (hm : 0 ≤ m) (hm6 : m ≤ 60) (hw : zwf O) (hh : O.head? ≠ some 11) (hOl : ((O.length : Nat) : Int) ≤ N) (hd : (zab O).length ≤ 10) (h93 : ¬ (zg_kind (s0 345) T (zg_sk (s0 345) T N) = 93 ∧ ∃ r, zab O = true :: r)) (ih : ∀ (N' m' : Int) (O' : List Int) (s' : zS) (x2 : Int), zRs s0 t N' m' (some O') ln s' → N < N' → N' ≤ T → 0 ≤ m' → m' ≤ 60 → zwf O' → ((O'.length : Nat) : Int) ≤ N' → (zab O').length ≤ 10 → zOR s0 t T (fun p a => (4, 0, p, a, l, zab O')) (fun p a => (6, 0, p, a, l, [])) N' m' (some O') none ln ln (fun _ => True) (fun r s'' => zA xm_c152 8 [344, 1, x2] [] s' (r, s''))) : zOR s0 t T (fun p a => (5, 0, p, a, l, zab O)) (fun p a => (6, 0, p, a, l, [])) N m (some O) none ln ln (fun _ => True) (fun r s' => zA xm_c152 17 [344, 1, x2] [] s (r, s')) := by
  have h4 := hc.2.2.2
  have rl : N ≤ zg_sk (s0 345) T N ∧ (zg_sk (s0 345) T N ≤ T ∨ zg_sk (s0 345) T N = N) := zg_run_le
  obtain ⟨s4, d1, d2⟩ := zr_isword hc h hN hN4 yw_and (w := 6385252) (by decide) (by decide) (by decide) (by decide)
  have hpp : zg_sk (s0 345) T (zg_sk (s0 345) T N) = zg_sk (s0 345) T N := zg_sk_sk
  have hpq : zg_sk (s0 345) T N = zg_sk (s0 345) T N := rfl
  generalize hp : zg_sk (s0 345) T N = p at rl d1 d2 hpp h93
  have hp0 : 0 ≤ p := by omega
  have hpT : p ≤ T := by omega
  have hp4 : p ≤ 400 := by omega
  have hOp : ((O.length : Nat) : Int) ≤ p := by omega
  have hO1 : O.length ≤ 1000 := by omega
  have hNp : N ≤ p := rl.1
  obtain ⟨s5, e1, e2⟩ := zr_isword hc d2 hp0 hpT yw_or (w := 28530) (by decide) (by decide) (by decide) (by decide)
  obtain ⟨s7, g1, g2⟩ := zr_isword hc d2 hp0 hpT yw_and (w := 6385252) (by decide) (by decide) (by decide) (by decide)
  rw [hpp] at e1 e2 g1 g2
  obtain ⟨s6, f1, f2⟩ := zr_isword hc e2 hp0 hpT yw_and (w := 6385252) (by decide) (by decide) (by decide) (by decide)
  rw [hpp] at f1 f2
  have hk := zg_kl (b := s0 345) (T := T) (p := p) hc.1 hc.2.2.2 hp0
  have hte := zg_te_le (b := s0 345) (T := T) (p := p) hc.1 hc.2.2.2 hp0
  have ab := zab_or hh hw
  have step : zg_jn (s0 345) T p → zg_st (s0 345) T (5, 0, p, m, l, zab O) = .inl (4, 0, zg_nx (s0 345) T p, m, l, zab O) := by
    intro hj
    have hk97 : zg_kind (s0 345) T p = 97 := hj.elim (fun z => z.1) (fun z => z.1)
    rcases ab with e | ⟨r, e⟩
    · rw [e]
      show (if zg_jn (s0 345) T p then _ else _) = _
      rw [if_pos hj]
    · rw [e]
      show (if zg_kind (s0 345) T p = 93 then _ else if zg_jn (s0 345) T p then _ else _) = _
      rw [if_neg (by rw [hk97]; decide), if_pos hj]
  -- a joint c is pushed
  have push : ∀ (c : Int) (s8 : zS), c = 12 ∨ c = 13 → zg_jn (s0 345) T p → zRs s0 t (zg_te (s0 345) T p) m (some O) ln s8 → (∀ R, zA xm_c152 41 [344, 1, c] [] s8 R → zA xm_c152 17 [344, 1, x2] [] s R) → zOR s0 t T (fun p a => (5, 0, p, a, l, zab O)) (fun p a => (6, 0, p, a, l, [])) N m (some O) none ln ln (fun _ => True) (fun r s' => zA xm_c152 17 [344, 1, x2] [] s (r, s')) := by
    intro c s8 hcc hj h8 hrun
    clear d1 d2 e1 e2 f1 f2 g1 g2 ab h93
    have hk97 : zg_kind (s0 345) T p = 97 := hj.elim (fun z => z.1) (fun z => z.1)
    have hlt : p < zg_te (s0 345) T p := hte.2.2 (by rw [hk97]; decide)
    have hs1 : 1 ≤ zsr_ c := by rcases hcc with rfl | rfl <;> decide
    obtain ⟨s9, i1, i2⟩ := zr_settles (least := zsr_ c) hs1 hw hO1 h8
    obtain ⟨q1, q2⟩ := zpp_ab (least := zsr_ c) hs1 hw hh
    have qw := zpp_wf (least := zsr_ c) hw
    have ql := zpp_le (least := zsr_ c) (O := O)
    have hnew := i2.push hcc (Nat.le_trans ql hO1)
    have hz : zab (c :: zpp (zsr_ c) O) = zab O := by
      show (if c = 91 then true :: zab (zpp (zsr_ c) O) else if c = 11 then false :: zab (zpp (zsr_ c) O) else zab (zpp (zsr_ c) O)) = _
      rw [if_neg (by omega), if_neg (by omega), q1]
    have tail := ih (zg_te (s0 345) T p) m (c :: zpp (zsr_ c) O) _ c hnew (by omega) (hte.2.1 hpT) hm hm6 ⟨by omega, fun z => absurd z q2, qw⟩ (by rw [List.length_cons]; omega) (by rw [hz]; exact hd)
    refine zOR_map tail (by omega) ?_ (fun r s' z => hrun _ (zb_152_41 zr_strength (zb_152_44 i1 (zb_152_45 z))))
    rw [hz, hp]
    exact zg_one (step hj)
  by_cases eand : zg_is (s0 345) T p yw_and
  · rw [if_pos eand] at d1 g1
    obtain ⟨s8, j1, j2⟩ := zr_pass hc _ (Nat.le_refl _) hp0 g2
    rw [← hk.2.1 eand.1] at j2
    exact push 12 s8 (Or.inl rfl) (Or.inl eand) j2 (fun R z => zb_152_17 d1 (zb_152_20 (fun q => absurd q (by decide)) (fun _ => zb_152_25 (fun q => absurd q (by decide)) (fun _ => zb_152_31 g1 (zb_152_34 (fun q => absurd q (by decide)) (fun _ => zb_152_35 j1 z))))))
  · rw [if_neg eand] at d1 f1
    by_cases eor : zg_is (s0 345) T p yw_or
    · rw [if_pos eor] at e1
      obtain ⟨s8, j1, j2⟩ := zr_pass hc _ (Nat.le_refl _) hp0 f2
      rw [← hk.2.1 eor.1] at j2
      exact push 13 s8 (Or.inr rfl) (Or.inr eor) j2 (fun R z => zb_152_17 d1 (zb_152_20 (fun _ => zb_152_21 e1 (zb_152_24 (fun q => absurd q (by decide)) (fun _ => zb_152_25 (fun q => absurd q (by decide)) (fun _ => zb_152_31 f1 (zb_152_34 (fun _ => zb_152_37 j1 z) (fun q => absurd rfl q)))))) (fun q => absurd rfl q)))
    · rw [if_neg eor] at e1
      have nj : ¬ zg_jn (s0 345) T p := fun z => z.elim eand eor
      have hin := zr_inside e2 hO1
      have hab := zab_in hh hw
      clear push step f1 f2 g1 g2 ih
      have pre2 : ∀ (R : Int × zS), zA xm_c152 58 [344, 0, x2] [] s5 R → zA xm_c152 17 [344, 1, x2] [] s R := fun R z => zb_152_17 d1 (zb_152_20 (fun _ => zb_152_21 e1 (zb_152_24 (fun _ => zb_152_27 (fun _ => zb_152_8 (fun _ => z) (fun q => absurd rfl q)) (fun q => absurd rfl q)) (fun q => absurd rfl q))) (fun q => absurd rfl q))
      by_cases e91 : 91 ∈ O
      · rw [if_pos e91] at hin
        obtain ⟨r, hr⟩ := hab.1.mp e91
        obtain ⟨s8, j1, j2⟩ := zr_see hc _ (Nat.le_refl _) hp0 e2
        rw [hpp] at j1 j2
        obtain ⟨s9, k1, k2⟩ := zr_fails j2 (c := 0) (at_ := p) (by decide) (by decide) hp0 hp4
        refine Or.inr ⟨_, s9, pre2 _ (zb_152_58 hin (zb_152_60 (fun q => absurd q (by decide)) (fun _ => zb_152_61 j1 (zb_152_63 (by rw [j2.1.1]; exact k1) (zb_152_69 rfl))))), k2, zg_stop ?_⟩
        rw [hp, hr]
        show (if zg_kind (s0 345) T p = 93 then _ else if zg_jn (s0 345) T p then _ else _) = _
        rw [if_neg (fun z => h93 ⟨z, r, hr⟩), if_neg nj]
        rfl
      · rw [if_neg e91] at hin
        have hnil := hab.2 e91
        obtain ⟨s8, j1, j2⟩ := zr_settles (least := 1) (by decide) hw hO1 e2
        refine Or.inl ⟨p, m, s8, pre2 _ (zb_152_58 hin (zb_152_60 (fun _ => zb_152_70 j1 (zb_152_73 rfl)) (fun q => absurd rfl q))), j2.forget, ⟨hNp, hpT, hm, hm6⟩, ?_, trivial⟩
        rw [hpp, hp]
        refine zg_one ?_
        rw [hnil]
        show (if zg_jn (s0 345) T p then _ else _) = _
        rw [if_neg nj]
theorem zr_testloop (hc : zCy s0 T) (l : Int) : ∀ (n : Nat) (N m : Int) (O : List Int) (s : zS) (x2 : Int), zRs s0 t N m (some O) ln s → (T - N).toNat ≤ n → 0 ≤ N → N ≤ T → 0 ≤ m → m ≤ 60 → zwf O → ((O.length : Nat) : Int) ≤ N → (zab O).length ≤ 10 → zOR s0 t T (fun p a => (4, 0, p, a, l, zab O)) (fun p a => (6, 0, p, a, l, [])) N m (some O) none ln ln (fun _ => True) (fun r s' => zA xm_c152 8 [344, 1, x2] [] s (r, s')) := by
  have h4 := hc.2.2.2
  have one : ∀ (N m : Int) (O : List Int) (s : zS) (x2 : Int), zRs s0 t N m (some O) ln s → 0 ≤ N → N ≤ T → 0 ≤ m → m ≤ 60 → zwf O → ((O.length : Nat) : Int) ≤ N → (zab O).length ≤ 10 → (∀ (N' m' : Int) (O' : List Int) (s' : zS) (x2 : Int), zRs s0 t N' m' (some O') ln s' → N < N' → N' ≤ T → 0 ≤ m' → m' ≤ 60 → zwf O' → ((O'.length : Nat) : Int) ≤ N' → (zab O').length ≤ 10 → zOR s0 t T (fun p a => (4, 0, p, a, l, zab O')) (fun p a => (6, 0, p, a, l, [])) N' m' (some O') none ln ln (fun _ => True) (fun r s'' => zA xm_c152 8 [344, 1, x2] [] s' (r, s''))) → zOR s0 t T (fun p a => (4, 0, p, a, l, zab O)) (fun p a => (6, 0, p, a, l, [])) N m (some O) none ln ln (fun _ => True) (fun r s' => zA xm_c152 8 [344, 1, x2] [] s (r, s')) := by
    intro N m O s x2 h hN hN4 hm hm6 hw hOl hd ih
    rcases zr_fact hc l _ N m O s 0 h (Nat.le_refl _) hN hN4 hm hm6 hw hOl hd with ⟨N1, m1, O1, s1, a1, a2, ⟨a31, a32, a33, a34⟩, ⟨a41, a42, a43⟩, a5, -⟩ | ⟨f, s1, a1, a2, a3⟩
    · have hO1 : O1.length ≤ 1000 := by omega
      obtain ⟨s2, b1, b2⟩ := zr_settles (least := 3) (by decide) a41 hO1 a2
      have pw3 := zpp_wf (least := 3) a41
      have pl3 := zpp_le (least := 3) (O := O1)
      have ph3 : (zpp 3 O1).head? ≠ some 11 := fun z => absurd (zpp_head z) (by decide)
      have to3 := zpp_to (b := s0 345) (T := T) (p := zg_sk (s0 345) T N1) (a := m1) (l := l) (least := 3) a41 (fun _ _ => rfl) (by decide)
      have hN1 : 0 ≤ N1 := Int.le_trans hN a31
      obtain ⟨N2, O2, s3, c1, c2, ⟨c31, c32⟩, ⟨c41, c42, c43, c44⟩, c5, c6⟩ := zr_closeloop hc l _ N1 m1 (zpp 3 O1) s2 b2 (Nat.le_refl _) hN1 a32 pw3 ph3 (Int.le_trans (Int.ofNat_le.mpr pl3) a42) (Nat.le_trans (zpp_lab O1) a43)
      have upto := zg_trans a5 (zg_trans to3 c5)
      have hNN : N ≤ N2 := Int.le_trans a31 c31
      refine zOR_map (zr_joint hc l (x2 := x2) c2 (Int.le_trans hN hNN) c32 a33 a34 c41 c42 c43 c44 c6 (fun N' m' O' s' x' h' g1 g2 g3 g4 g5 g6 g7 => ih N' m' O' s' x' h' (Int.lt_of_le_of_lt hNN g1) g2 g3 g4 g5 g6 g7)) hNN upto (fun r s' z => zb_152_8 (fun q => absurd q (by decide)) (fun _ => zb_152_10 (zb_149_0 a1) (zb_152_12 (fun q => absurd q (by decide)) (fun _ => zb_152_15 (zb_151_0 b1 c1) z))))
    · exact Or.inr ⟨f, s1, zb_152_8 (fun q => absurd q (by decide)) (fun _ => zb_152_10 (zb_149_0 a1) (zb_152_12 (fun _ => zb_152_13 rfl) (fun q => absurd rfl q))), a2, a3⟩
  intro n
  induction n with
  | zero =>
    intro N m O s x2 h hn hN hN4 hm hm6 hw hOl hd
    exact one N m O s x2 h hN hN4 hm hm6 hw hOl hd (fun N' m' O' s' x' h' g1 g2 _ _ _ _ _ => by omega)
  | succ n ih =>
    intro N m O s x2 h hn hN hN4 hm hm6 hw hOl hd
    exact one N m O s x2 h hN hN4 hm hm6 hw hOl hd (fun N' m' O' s' x' h' g1 g2 g3 g4 g5 g6 g7 => ih N' m' O' s' x' h' (by omega) (by omega) g2 g3 g4 g5 g6 g7)
theorem zr_tested (hc : zCy s0 T) (l : Int) {O : zO} (h : zRs s0 t N m O ln s) (hN : 0 ≤ N) (hN4 : N ≤ T) (hm : 0 ≤ m) (hm6 : m ≤ 60) : zOR s0 t T (fun p a => (4, 0, p, a, l, [])) (fun p a => (6, 0, p, a, l, [])) N m O none ln ln (fun _ => True) (fun r s' => zE xm_c152 [344, 0, 0] s r s') := by
  have h0 : zRs s0 t N m (some []) ln (zu (zu s 344 16 0) 344 13 0) := h.sk (O2 := []) rfl trivial
  rcases zr_testloop hc l _ N m [] _ 0 h0 (Nat.le_refl _) hN hN4 hm hm6 trivial hN (Nat.zero_le _) with ⟨N', m', s', a1, a2, a3, a4, a5⟩ | ⟨f, s', a1, a2, a3⟩
  · exact Or.inl ⟨N', m', s', zb_152_0 a1, a2, a3, a4, a5⟩
  · exact Or.inr ⟨f, s', zb_152_0 a1, a2, a3⟩
/-- behind the word tell -/
theorem zr_tell (hc : zCy s0 T) (l : Int) {O : zO} (h : zRs s0 t N m O ln s) (hN : 0 ≤ N) (hN4 : N ≤ T) (hm : 0 ≤ m) (hm6 : m ≤ 60) (hp : zg_sk (s0 345) T N = N) (htell : zg_kind (s0 345) T N = 97) : zOR s0 t T (fun p a => (1, 0, zg_nx (s0 345) T p, a, l, [])) (fun p a => (6, 0, p, a, l, [])) N m O none ln ln (fun _ => True) (fun r s' => zE xm_c153 [344, 0] s r s') := by
  have hk := zg_kl (b := s0 345) (T := T) (p := N) hc.1 hc.2.2.2 (by omega)
  have hte := zg_te_le (b := s0 345) (T := T) (p := N) hc.1 hc.2.2.2 (by omega)
  obtain ⟨s1, a1, a2⟩ := zr_pass hc _ (Nat.le_refl _) hN h
  rw [← hk.2.1 htell] at a2
  have a3 := a2.junk (x := 348) (y := zw ((zw (48 * (s1 344 11))) + (zw (4 * (s1 349 (s1 344 11)))))) (v := s1 347 (s1 344 11)) (by omega)
  refine zOR_map (N' := zg_te (s0 345) T N) (m' := m) (A1 := fun p a => (1, 0, p, a, l, [])) (O1 := O) (l1 := ln) ?_ hte.1 (by rw [hp]; exact zg_refl) (fun r s' z => z)
  refine zOR_tr (zr_sum hc 0 l [] a3 (by omega) (by omega) hm hm6) (fun f s' e e2 => ⟨s', zb_153_0 a1 (zb_153_2 e (zb_153_26 (fun _ => zb_153_27 rfl) (fun q => absurd rfl q))), e2⟩) (fun N1 m1 s2 e h2 g1 g2 g3 g4 _ => ?_)
  -- behind the sum
  generalize hx : zw ((zw (48 * (s1 344 11))) + (zw (4 * (s1 349 (s1 344 11))))) = x1 at e
  have b0 := (h2.junk (x := 348) (y := zw (x1 + 1)) (v := s2 347 (s2 344 11)) (by omega)).junk (x := 348) (y := zw (x1 + 2)) (v := -1) (by omega)
  have pre : ∀ (R : Int × zS), zA xm_c153 29 [344, x1] [] s2 R → zE xm_c153 [344, 0] s R.1 R.2 := by
    intro R z
    refine zb_153_0 a1 (zb_153_2 (r := 1) (s1 := s2) ?_ (zb_153_26 (fun q => absurd q (by decide)) (fun _ => ?_)))
    · have e := e
      rw [← hx] at e
      exact e
    · show zA xm_c153 29 [344, zw ((zw (48 * (s1 344 11))) + (zw (4 * (s1 349 (s1 344 11)))))] [] s2 R
      rw [hx]
      exact z
  have last : ∀ (s3 : zS) (N' m' : Int) (O' : zO), zRs s0 t N' m' O' ln s3 → ∃ s4, zA xm_c153 67 [344, x1] [] s3 (1, s4) ∧ zRs s0 t N' m' none ln s4 := fun s3 N' m' O' h3 => ⟨_, zb_153_67 rfl, ((h3.junk (x := 348) (by omega)).junk (x := 349) (by omega)).forget⟩
  have hst : zg_st (s0 345) T (3, 0, zg_sk (s0 345) T N1, m1, l, []) = if zg_is (s0 345) T (zg_sk (s0 345) T N1) yw_if then .inl (4, 0, zg_nx (s0 345) T (zg_sk (s0 345) T N1), m1, l, []) else .inl (6, 0, zg_sk (s0 345) T N1, m1, l, []) := rfl
  have rl : N1 ≤ zg_sk (s0 345) T N1 ∧ (zg_sk (s0 345) T N1 ≤ T ∨ zg_sk (s0 345) T N1 = N1) := zg_run_le
  have hte2 := zg_te_le (b := s0 345) (T := T) (p := zg_sk (s0 345) T N1) hc.1 hc.2.2.2 (by omega)
  rcases zr_takes hc b0 (by omega) g2 yw_if (w := 26982) (by decide) (by decide) (by decide) (by decide) with ⟨c1, s3, c2, c3⟩ | ⟨c1, s3, c2, c3⟩
  · have c4 := c3.junk (x := 348) (y := zw (x1 + 2)) (v := s3 347 (s3 344 11)) (by omega)
    refine zOR_map (N' := zg_te (s0 345) T (zg_sk (s0 345) T N1)) (m' := m1) (A1 := fun p a => (4, 0, p, a, l, [])) (O1 := O) (l1 := ln) (E1 := fun r s' => zE xm_c153 [344, 0] s r s') ?_ (by omega) (zg_one (by rw [hst, if_pos c1]; rfl)) (fun r s' z => z)
    rcases zr_tested hc l c4 (by omega) (by omega) g3 g4 with ⟨N', m', s4, d1, d2, d3, d4, d5⟩ | ⟨f, s4, d1, d2, d3⟩
    · obtain ⟨s5, f1, f2⟩ := last s4 N' m' none d2
      exact Or.inl ⟨N', m', s5, pre (1, s5) (zb_153_29 c2 (zb_153_50 (fun q => absurd q (by decide)) (fun _ => zb_153_51 d1 (zb_153_64 (fun q => absurd q (by decide)) (fun _ => f1))))), f2, d3, d4, trivial⟩
    · exact Or.inr ⟨f, s4, pre (0, s4) (zb_153_29 c2 (zb_153_50 (fun q => absurd q (by decide)) (fun _ => zb_153_51 d1 (zb_153_64 (fun _ => zb_153_65 rfl) (fun q => absurd rfl q))))), d2, d3⟩
  · obtain ⟨s5, f1, f2⟩ := last s3 _ _ _ c3
    refine Or.inl ⟨zg_sk (s0 345) T N1, m1, s5, pre (1, s5) (zb_153_29 c2 (zb_153_50 (fun _ => f1) (fun q => absurd rfl q))), f2, by omega, ?_, trivial⟩
    rw [zg_sk_sk]
    exact zg_one (by rw [hst, if_neg c1])
end RH
section RI
variable {s0 s : zS} {t T N m ln : Int}
/-- one clause -/
theorem zr_clause (hc : zCy s0 T) (ht : t ≠ 6) {O : zO} (h : zRs s0 t N m O ln s) (hN : 0 ≤ N) (hN4 : N ≤ T) (hm : 0 ≤ m) (hm6 : m ≤ 60) (hl0 : 0 ≤ ln) (hl12 : ln ≤ 12) : zOR s0 t T (fun p a => (0, 0, p, a, ln, [])) (fun p a => (6, 0, p, a, ln + 1, [])) N m O none ln (ln + 1) (fun _ => True) (fun r s' => zE xm_c166 [344, 0, 0] s r s') ∧ (ln = 12 → ∃ f s', zE xm_c166 [344, 0, 0] s 0 s' ∧ zRd s0 f s' ∧ zg_end (s0 345) T (0, 0, zg_sk (s0 345) T N, m, ln, []) f) := by
  have h4 := hc.2.2.2
  obtain ⟨s1, a1, a2⟩ := zr_see hc _ (Nat.le_refl _) hN h
  have rl : N ≤ zg_sk (s0 345) T N ∧ (zg_sk (s0 345) T N ≤ T ∨ zg_sk (s0 345) T N = N) := zg_run_le
  obtain ⟨s2, b1, b2⟩ := zr_isword hc a2 (by omega) (by omega) yw_tell (w := 1952803948) (by decide) (by decide) (by decide) (by decide)
  rw [zg_sk_sk] at b1 b2
  have hpp : zg_sk (s0 345) T (zg_sk (s0 345) T N) = zg_sk (s0 345) T N := zg_sk_sk
  unfold zOR
  dsimp only
  generalize hpq : zg_sk (s0 345) T N = p at rl a1 a2 b1 b2 hpp ⊢
  have e8 := a2.1.1
  have hst : zg_st (s0 345) T (0, 0, p, m, ln, []) = if zg_is (s0 345) T p yw_tell then (if ln = 12 then zg_fl 4 p else .inl (1, 0, zg_nx (s0 345) T p, m, ln + 1, [])) else zg_fl 0 p := rfl
  have pre : ∀ (R : Int × zS), (∀ R', R' = R → zA xm_c166 20 [344, s1 344 8, 0] [] s1 R') → zE xm_c166 [344, 0, 0] s R.1 R.2 := fun R z => zb_166_0 a1 (zb_166_2 (fun q => absurd (a2.1.2.2.1 ▸ q : t = 6) ht) (fun _ => zb_166_12 (fun _ => z R rfl) (fun q => absurd rfl q)))
  by_cases et : zg_is (s0 345) T p yw_tell
  · rw [if_pos et] at b1
    by_cases e12 : ln = 12
    · obtain ⟨s3, f1, f2⟩ := zr_fails b2 (c := 4) (at_ := p) (by omega) (by omega) (by omega) (by omega)
      have run : zE xm_c166 [344, 0, 0] s 0 s3 := pre (0, s3) (fun R' e => by
        subst e
        exact zb_166_20 b1 (zb_166_23 (fun q => absurd q (by decide)) (fun _ => zb_166_29 (fun _ => zb_166_35 (fun _ => zb_166_37 (by rw [e8]; exact f1) (zb_166_41 rfl)) (fun q => absurd (by rw [b2.1.2.2.2.2]; exact e12) q)) (fun q => absurd rfl q))))
      have en : zg_end (s0 345) T (0, 0, p, m, ln, []) (1 + 8 * p + 4) := zg_stop (by rw [hst, if_pos et, if_pos e12]; rfl)
      exact ⟨Or.inr ⟨_, s3, run, f2, en⟩, fun _ => ⟨_, s3, run, f2, en⟩⟩
    · refine ⟨?_, fun q => absurd q e12⟩
      have b3 := b2.setl (ln' := ln + 1)
      have tl := zr_tell hc (ln + 1) b3 (by omega) (by omega) hm hm6 hpp et.1
      have hz : zu s2 344 14 (zw (s2 344 14 + 1)) = zu s2 344 14 (ln + 1) := by rw [b2.1.2.2.2.2, zw_id (by omega) (by omega)]
      have run : ∀ (r : Int) (s' : zS), zE xm_c153 [344, 0] (zu s2 344 14 (ln + 1)) r s' → zE xm_c166 [344, 0, 0] s r s' := fun r s' z => pre (r, s') (fun R' e => by
        subst e
        exact zb_166_20 b1 (zb_166_23 (fun q => absurd q (by decide)) (fun _ => zb_166_29 (fun _ => zb_166_35 (fun q => absurd (b2.1.2.2.2.2 ▸ q : ln = 12) e12) (fun _ => zb_166_42 (fun _ => zb_166_54 (by rw [hz]; exact z) (zb_166_56 rfl)) (fun q => absurd rfl q))) (fun q => absurd rfl q))))
      have step : zg_to (s0 345) T (0, 0, p, m, ln, []) (1, 0, zg_nx (s0 345) T p, m, ln + 1, []) := zg_one (by rw [hst, if_pos et, if_neg e12])
      rcases tl with ⟨N', m', s', c1, c2, c3, c4, -⟩ | ⟨f, s', c1, c2, c3⟩
      · dsimp only at c4
        rw [hpp] at c4
        exact Or.inl ⟨N', m', s', run 1 s' c1, c2, by omega, zg_trans step c4, trivial⟩
      · dsimp only at c3
        rw [hpp] at c3
        exact Or.inr ⟨f, s', run 0 s' c1, c2, zg_tend step c3⟩
  · rw [if_neg et] at b1
    obtain ⟨s3, f1, f2⟩ := zr_fails b2 (c := 0) (at_ := p) (by omega) (by omega) (by omega) (by omega)
    have run : zE xm_c166 [344, 0, 0] s 0 s3 := pre (0, s3) (fun R' e => by
      subst e
      exact zb_166_20 b1 (zb_166_23 (fun _ => zb_166_24 (by rw [e8]; exact f1) (zb_166_28 rfl)) (fun q => absurd rfl q)))
    have en : zg_end (s0 345) T (0, 0, p, m, ln, []) (1 + 8 * p + 0) := zg_stop (by rw [hst, if_neg et]; rfl)
    exact ⟨Or.inr ⟨_, s3, run, f2, en⟩, fun _ => ⟨_, s3, run, f2, en⟩⟩
/-- what stands when all is read: the fault, or none -/
def zFr (s0 : zS) (f : Int) (s : zS) : Prop := s 344 9 = f ∧ s 344 1 = 0 ∧ ∀ x y, ¬ (x = 344 ∧ y = 1) → ¬ (x = 344 ∧ 8 ≤ y ∧ y ≤ 16) → x ≠ 346 → x ≠ 347 → x ≠ 348 → x ≠ 349 → x ≠ 350 → x ≠ 351 → s x y = s0 x y
theorem zFr_of {f : Int} (h1 : s 344 9 = f) (h2 : zK s0 s) : zFr s0 f (zu s 344 1 0) := ⟨by rw [zu_place (by decide)]; exact h1, zu_hit, fun x y a b c d e g i j => by
  unfold zu
  rw [if_neg a]
  exact h2 x y b c d e g i j⟩
/-- more clauses -/
theorem zr_allloop (hc : zCy s0 T) (ht : t ≠ 6) : ∀ (n : Nat) (N m ln : Int) (s : zS), zRs s0 t N m none ln s → (12 - ln).toNat ≤ n → 0 ≤ N → N ≤ T → 0 ≤ m → m ≤ 60 → 0 ≤ ln → ln ≤ 12 → ∃ f s', zA xm_c167 21 [344, 1] [] s ((if f = 0 then 1 else 0), s') ∧ zFr s0 f s' ∧ zg_end (s0 345) T (6, 0, zg_sk (s0 345) T N, m, ln, []) f := by
  have h4 := hc.2.2.2
  -- with a fault
  have bad : ∀ (s : zS) (f : Int), zRd s0 f s → zA xm_c167 21 [344, 0] [] s (0, zu s 344 1 0) := fun s f h => zb_167_21 (fun _ => zb_167_37 (fun _ => zb_167_49 (fun q => absurd (by rw [zu_place (by decide)] at q; exact h.1.symm.trans q) h.2.1) (fun _ => zb_167_57 rfl)) (fun q => absurd rfl q)) (fun q => absurd rfl q)
  have one : ∀ (N m ln : Int) (s : zS), zRs s0 t N m none ln s → 0 ≤ N → N ≤ T → 0 ≤ m → m ≤ 60 → 0 ≤ ln → ln ≤ 12 → (∀ (N' m' : Int) (s' : zS), ln < 12 → zRs s0 t N' m' none (ln + 1) s' → 0 ≤ N' → N' ≤ T → 0 ≤ m' → m' ≤ 60 → ∃ f s'', zA xm_c167 21 [344, 1] [] s' ((if f = 0 then 1 else 0), s'') ∧ zFr s0 f s'' ∧ zg_end (s0 345) T (6, 0, zg_sk (s0 345) T N', m', ln + 1, []) f) → ∃ f s', zA xm_c167 21 [344, 1] [] s ((if f = 0 then 1 else 0), s') ∧ zFr s0 f s' ∧ zg_end (s0 345) T (6, 0, zg_sk (s0 345) T N, m, ln, []) f := by
    intro N m ln s h hN hN4 hm hm6 hl0 hl12 ih
    obtain ⟨s1, a1, a2⟩ := zr_see hc _ (Nat.le_refl _) hN h
    have rl : N ≤ zg_sk (s0 345) T N ∧ (zg_sk (s0 345) T N ≤ T ∨ zg_sk (s0 345) T N = N) := zg_run_le
    obtain ⟨s2, b1, b2⟩ := zr_see hc _ (Nat.le_refl _) (by omega) a2
    rw [zg_sk_sk] at b1 b2
    generalize hpq : zg_sk (s0 345) T N = p at rl a1 a2 b1 b2
    have hst : zg_st (s0 345) T (6, 0, p, m, ln, []) = if zg_kind (s0 345) T p = 59 then .inl (0, 0, zg_nx (s0 345) T p, m, ln, []) else if zg_kind (s0 345) T p = -1 then .inr 0 else zg_fl 0 p := rfl
    have k59 := zg_kc (b := s0 345) (T := T) (p := p) (v := 59) (by omega) (by omega) (by omega)
    have km := zg_kc (b := s0 345) (T := T) (p := p) (v := -1) (by omega) (by omega) (by omega)
    by_cases e59 : zg_c (s0 345) T p = 59
    · have e := (zg_cv (v := 59) hc.1 hc.2.2.2 (by omega) (by omega) (by omega)).mp e59
      have hkk := k59.1.mpr e59
      have hte := k59.2 e59
      rw [if_pos e.1] at hte
      have a3 := a2.setN (N' := p + 1)
      have hz : zu s1 344 8 (zw (s1 344 8 + 1)) = zu s1 344 8 (p + 1) := by rw [a2.1.1, zw_id (by omega) (by omega)]
      have step : zg_to (s0 345) T (6, 0, p, m, ln, []) (0, 0, zg_sk (s0 345) T (p + 1), m, ln, []) := zg_one (by
        rw [hst, if_pos hkk]
        unfold zg_nx
        rw [hte])
      obtain ⟨cl, c12⟩ := zr_clause hc ht a3 (by omega) (by omega) hm hm6 hl0 hl12
      have fail : ∀ (f : Int) (s' : zS), zE xm_c166 [344, 0, 0] (zu s1 344 8 (p + 1)) 0 s' → zRd s0 f s' → zg_end (s0 345) T (0, 0, zg_sk (s0 345) T (p + 1), m, ln, []) f → ∃ f s', zA xm_c167 21 [344, 1] [] s ((if f = 0 then 1 else 0), s') ∧ zFr s0 f s' ∧ zg_end (s0 345) T (6, 0, p, m, ln, []) f := by
        intro f s' d1 d2 d3
        refine ⟨f, _, ?_, zFr_of d2.1 d2.2.2, zg_tend step d3⟩
        rw [if_neg d2.2.1]
        exact zb_167_21 (fun q => absurd q (by decide)) (fun _ => zb_167_23 a1 (zb_167_25 (fun _ => zb_167_27 (by rw [hz]; exact d1) (zb_167_35 (bad s' f d2))) (fun q => absurd e59 q)))
      by_cases e12 : ln = 12
      · obtain ⟨f, s', d1, d2, d3⟩ := c12 e12
        exact fail f s' d1 d2 d3
      · rcases cl with ⟨N', m', s', d1, d2, d3, d4, -⟩ | ⟨f, s', d1, d2, d3⟩
        · obtain ⟨f, s'', g1, g2, g3⟩ := ih N' m' s' (by omega) d2 (by omega) d3.2.1 d3.2.2.1 d3.2.2.2
          exact ⟨f, s'', zb_167_21 (fun q => absurd q (by decide)) (fun _ => zb_167_23 a1 (zb_167_25 (fun _ => zb_167_27 (by rw [hz]; exact d1) (zb_167_35 g1)) (fun q => absurd e59 q))), g2, zg_tend step (zg_tend d4 g3)⟩
        · exact fail f s' d1 d2 d3
    · have pre : ∀ (R : Int × zS), zA xm_c167 37 [344, 1] [] s1 R → zA xm_c167 21 [344, 1] [] s R := fun R z => zb_167_21 (fun q => absurd q (by decide)) (fun _ => zb_167_23 a1 (zb_167_25 (fun q => absurd q e59) (fun _ => z)))
      have nk : ¬ zg_kind (s0 345) T p = 59 := fun z => e59 (k59.1.mp z)
      by_cases em : zg_c (s0 345) T p = -1
      · refine ⟨0, zu s2 344 1 0, ?_, zFr_of b2.1.2.1 b2.2.2, zg_stop (by rw [hst, if_neg nk, if_pos (km.1.mpr em)])⟩
        rw [if_pos rfl]
        exact pre _ (zb_167_37 (fun q => absurd q (by decide)) (fun _ => zb_167_39 b1 (zb_167_41 (fun _ => zb_167_49 (fun _ => zb_167_55 rfl) (fun q => absurd (by rw [zu_place (by decide)]; exact b2.1.2.1) q)) (fun q => absurd em q))))
      · obtain ⟨s3, f1, f2⟩ := zr_fails b2 (c := 0) (at_ := p) (by omega) (by omega) (by omega) (by omega)
        refine ⟨1 + 8 * p + 0, zu s3 344 1 0, ?_, zFr_of f2.1 f2.2.2, zg_stop (by rw [hst, if_neg nk, if_neg (fun z => em (km.1.mp z))]; rfl)⟩
        rw [if_neg f2.2.1]
        exact pre _ (zb_167_37 (fun q => absurd q (by decide)) (fun _ => zb_167_39 b1 (zb_167_41 (fun q => absurd q em) (fun _ => zb_167_43 (by rw [b2.1.1]; exact f1) (zb_167_48 (fun q => absurd (by rw [zu_place (by decide)] at q; exact f2.1.symm.trans q) f2.2.1) (fun _ => zb_167_57 rfl))))))
  intro n
  induction n with
  | zero =>
    intro N m ln s h hn hN hN4 hm hm6 hl0 hl12
    exact one N m ln s h hN hN4 hm hm6 hl0 hl12 (fun N' m' s' hlt _ _ _ _ _ => by omega)
  | succ n ih =>
    intro N m ln s h hn hN hN4 hm hm6 hl0 hl12
    exact one N m ln s h hN hN4 hm hm6 hl0 hl12 (fun N' m' s' hlt h' g1 g2 g3 g4 => ih N' m' (ln + 1) s' h' (by omega) g1 g2 g3 g4 (by omega) (by omega))
/-- the reference's reading of a rule -/
theorem zr_all (hc : zCy s0 T) (ht : s0 344 11 ≠ 6) : ∃ f s', zE xm_c167 [344, 0] s0 (if f = 0 then 1 else 0) s' ∧ zFr s0 f s' ∧ zg_end (s0 345) T (0, 0, zg_sk (s0 345) T 0, 0, 0, []) f := by
  have h0 : zRs s0 (s0 344 11) 0 0 none 0 (zu (zu (zu (zu (zu s0 (344 + 3) (s0 344 11) 0) 344 14 0) 344 8 0) 344 9 0) 344 12 0) := by
    refine ⟨⟨?_, ?_, ?_, zu_hit, ?_⟩, trivial, zK_u (zK_u (zK_u (zK_u (zK_u (fun _ _ _ _ _ _ _ _ _ => rfl) (by omega)) (by omega)) (by omega)) (by omega)) (by omega)⟩
    · rw [zu_place (by decide), zu_place (by decide), zu_hit]
    · rw [zu_place (by decide), zu_hit]
    · rw [zu_place (by decide), zu_place (by decide), zu_place (by decide), zu_place (by decide), zu_cell (by decide)]
    · rw [zu_place (by decide), zu_place (by decide), zu_place (by decide), zu_hit]
  have hT := hc.2.2.1
  have bad : ∀ (s : zS) (f : Int), zRd s0 f s → zA xm_c167 21 [344, 0] [] s (0, zu s 344 1 0) := fun s f h => zb_167_21 (fun _ => zb_167_37 (fun _ => zb_167_49 (fun q => absurd (by rw [zu_place (by decide)] at q; exact h.1.symm.trans q) h.2.1) (fun _ => zb_167_57 rfl)) (fun q => absurd rfl q)) (fun q => absurd rfl q)
  rcases (zr_clause hc ht h0 (Int.le_refl _) hT (Int.le_refl _) (by omega) (Int.le_refl _) (by omega)).1 with ⟨N', m', s', d1, d2, d3, d4, -⟩ | ⟨f, s', d1, d2, d3⟩
  · obtain ⟨f, s'', g1, g2, g3⟩ := zr_allloop hc ht _ N' m' (0 + 1) s' d2 (Nat.le_refl _) (by omega) d3.2.1 d3.2.2.1 d3.2.2.2 (by omega) (by omega)
    exact ⟨f, s'', zb_167_0 d1 (zb_167_20 g1), g2, zg_tend d4 g3⟩
  · refine ⟨f, _, ?_, zFr_of d2.1 d2.2.2, d3⟩
    rw [if_neg d2.2.1]
    exact zb_167_0 d1 (zb_167_20 (bad s' f d2))
end RI
