/-! the reference's fact, closing brackets, test, with the code -/
section XG
variable {s0 s : zS} {t T N m ln : Int}
/-- with success behind C and something begun, or with the fault -/
def zOy (s0 : zS) (t T : Int) (A C : List Int → Int → zW → zQe) (N : Int) (a : zW) (O : List Int) (ln : Int) (E : Int → zS → Prop) : Prop := (∃ N' a' O' s', E 1 s' ∧ zMw s0 t N' a'.1 (a'.2.1, some O') ln s' ∧ (N ≤ N' ∧ N' ≤ T ∧ 0 ≤ a'.1 ∧ a'.1 ≤ 60) ∧ (zwf O' ∧ ((a'.2.1.length : Nat) : Int) + ((O'.length : Nat) : Int) ≤ N' ∧ zdp O' ≤ 10 ∧ a'.2.2.2.2 = a.2.2.2.2) ∧ ze_to (s0 345) T (A O (zg_sk (s0 345) T N) a) (C O' (zg_sk (s0 345) T N') a') ∧ (a'.2.2.1 = 0 ∧ a'.2.2.2.1 = 0)) ∨ (∃ f s', E 0 s' ∧ zRdw s0 t f s' ∧ ∃ w, ze_end (s0 345) T (A O (zg_sk (s0 345) T N) a) (f, w))
theorem zOy_map {A A1 C : List Int → Int → zW → zQe} {N' : Int} {a a1 : zW} {O O1 : List Int} {E E1 : Int → zS → Prop} (h : zOy s0 t T A1 C N' a1 O1 ln E1) (hN : N ≤ N') (hms : a1.2.2.2.2 = a.2.2.2.2) (ha : ze_to (s0 345) T (A O (zg_sk (s0 345) T N) a) (A1 O1 (zg_sk (s0 345) T N') a1)) (hE : ∀ r s', E1 r s' → E r s') : zOy s0 t T A C N a O ln E := by
  rcases h with ⟨N2, a2, O2, s2, b1, b2, b3, b4, b5, b6⟩ | ⟨f, s2, b1, b2, w, b3⟩
  · exact Or.inl ⟨N2, a2, O2, s2, hE _ _ b1, b2, ⟨by omega, b3.2⟩, ⟨b4.1, b4.2.1, b4.2.2.1, b4.2.2.2.trans hms⟩, ze_trans ha b5, b6⟩
  · exact Or.inr ⟨f, s2, hE _ _ b1, b2, w, ze_tend ha b3⟩
theorem zz_fact (hc : zCy s0 T) (ht0 : 0 ≤ t) (ht : t ≤ 5) (l : Int) : ∀ (n : Nat) (N : Int) (a : zW) (O : List Int) (s : zS) (x2 : Int), zMw s0 t N a.1 (a.2.1, some O) ln s → (T - N).toNat ≤ n → 0 ≤ N → N ≤ T → 0 ≤ a.1 → a.1 ≤ 60 → zwf O → ((a.2.1.length : Nat) : Int) + ((O.length : Nat) : Int) ≤ N → zdp O ≤ 10 → (a.2.2.1 = 0 ∧ a.2.2.2.1 = 0) → zOy s0 t T (fun st p a => (4, 0, p, a, l, st)) (fun st p a => (5, 0, p, a, l, st)) N a O ln (fun r s' => zA xm_c149 2 [344, 1, x2] [] s (r, s')) := by
  have h4 := hc.2.2.2
  have one : ∀ (N : Int) (a : zW) (O : List Int) (s : zS) (x2 : Int), zMw s0 t N a.1 (a.2.1, some O) ln s → 0 ≤ N → N ≤ T → 0 ≤ a.1 → a.1 ≤ 60 → zwf O → ((a.2.1.length : Nat) : Int) + ((O.length : Nat) : Int) ≤ N → zdp O ≤ 10 → (a.2.2.1 = 0 ∧ a.2.2.2.1 = 0) → (∀ (N' : Int) (O' : List Int) (s' : zS) (x' : Int), zMw s0 t N' a.1 (a.2.1, some O') ln s' → N < N' → N' ≤ T → zwf O' → ((a.2.1.length : Nat) : Int) + ((O'.length : Nat) : Int) ≤ N' → zdp O' ≤ 10 → zOy s0 t T (fun st p a => (4, 0, p, a, l, st)) (fun st p a => (5, 0, p, a, l, st)) N' a O' ln (fun r s'' => zA xm_c149 2 [344, 1, x'] [] s' (r, s''))) → zOy s0 t T (fun st p a => (4, 0, p, a, l, st)) (fun st p a => (5, 0, p, a, l, st)) N a O ln (fun r s' => zA xm_c149 2 [344, 1, x2] [] s (r, s')) := by
    intro N a O s x2 h hN hN4 hm hm6 hw hOl hd haw ih
    have rl : N ≤ zg_sk (s0 345) T N ∧ (zg_sk (s0 345) T N ≤ T ∨ zg_sk (s0 345) T N = N) := zg_run_le
    obtain ⟨s1, u1, v1⟩ := zz_see hc _ (Nat.le_refl _) hN h
    obtain ⟨s2, w1, w2⟩ := zz_isword hc v1 (by omega) (by omega) yw_not (w := 7237492) (by decide) (by decide) (by decide) (by decide)
    rw [zg_sk_sk] at w1 w2
    generalize hpq : zg_sk (s0 345) T N = p at rl u1 v1 w1 w2
    have hpp : zg_sk (s0 345) T p = p := by rw [← hpq, zg_sk_sk]
    have hst : ze_st (s0 345) T (4, 0, p, a, l, O) = if zg_is (s0 345) T p yw_not then (if zdp O = 10 then zfe_ 2 p a else .inl (4, 0, zg_nx (s0 345) T p, a, l, 11 :: O)) else if zg_kind (s0 345) T p = 91 then (if zdp O = 10 then zfe_ 2 p a else .inl (4, 0, zg_nx (s0 345) T p, a, l, 91 :: O)) else .inl (1, 1, p, a, l, O) := rfl
    have hk := zg_kl (b := s0 345) (T := T) (p := p) hc.1 hc.2.2.2 (by omega)
    have hte := zg_te_le (b := s0 345) (T := T) (p := p) hc.1 hc.2.2.2 (by omega)
    have k91 := zg_kc (b := s0 345) (T := T) (p := p) (v := 91) (by omega) (by omega) (by omega)
    have dp11 : zdp (11 :: O) = 1 + zdp O := by rw [zdp_c, if_pos (Or.inr rfl)]
    have dp91 : zdp (91 :: O) = 1 + zdp O := by rw [zdp_c, if_pos (Or.inl rfl)]
    by_cases enot : zg_is (s0 345) T p yw_not
    · rw [if_pos enot] at w1
      rcases zz_opens w2 (by omega) (by omega) (by omega) (c := 11) (Or.inr rfl) hd with ⟨o1, s3, o2, o3⟩ | ⟨o1, s3, o2, o3⟩
      · refine Or.inr ⟨_, s3, zb_149_2 (fun q => absurd q (by decide)) (fun _ => zb_149_4 u1 (zb_149_8 w1 (zb_149_12 (fun q => absurd q (by decide)) (fun _ => zb_149_13 o2 (zb_149_16 (fun _ => zb_149_17 rfl) (fun q => absurd rfl q)))))), o3, a, ze_stop ?_⟩
        rw [hpq, hst, if_pos enot, if_pos o1]
        rfl
      · obtain ⟨s4, p1, p2⟩ := zz_pass hc _ (Nat.le_refl _) (by omega) o3
        rw [← hk.2.1 enot.1] at p2
        have hlt : p < zg_te (s0 345) T p := hte.2.2 (by rw [enot.1]; decide)
        refine zOy_map (ih _ _ s4 (zg_c (s0 345) T p) p2 (by omega) (by omega) ⟨Or.inr (Or.inl rfl), fun _ => Or.inl rfl, hw⟩ (by rw [List.length_cons]; omega) (by rw [dp11]; omega)) (by omega) rfl ?_ (fun r s' z => zb_149_2 (fun q => absurd q (by decide)) (fun _ => zb_149_4 u1 (zb_149_8 w1 (zb_149_12 (fun q => absurd q (by decide)) (fun _ => zb_149_13 o2 (zb_149_16 (fun q => absurd q (by decide)) (fun _ => zb_149_19 p1 (zb_149_21 z))))))))
        rw [hpq]
        refine ze_one ?_
        rw [hst, if_pos enot, if_neg (by omega)]
        rfl
    · rw [if_neg enot] at w1
      by_cases e91 : zg_c (s0 345) T p = 91
      · have e := (zg_cv (v := 91) hc.1 hc.2.2.2 (by omega) (by omega) (by omega)).mp e91
        have hkk := k91.1.mpr e91
        have ht9 := k91.2 e91
        rw [if_pos e.1] at ht9
        rcases zz_opens w2 (by omega) (by omega) (by omega) (c := 91) (Or.inl rfl) hd with ⟨o1, s3, o2, o3⟩ | ⟨o1, s3, o2, o3⟩
        · refine Or.inr ⟨_, s3, zb_149_2 (fun q => absurd q (by decide)) (fun _ => zb_149_4 u1 (zb_149_8 w1 (zb_149_12 (fun _ => zb_149_24 (fun _ => zb_149_27 o2 (zb_149_30 (fun _ => zb_149_31 rfl) (fun q => absurd rfl q))) (fun q => absurd e91 q)) (fun q => absurd rfl q)))), o3, a, ze_stop ?_⟩
          rw [hpq, hst, if_neg enot, if_pos hkk, if_pos o1]
          rfl
        · have h3 := o3.setN (N' := p + 1)
          refine zOy_map (ih (p + 1) _ _ (zg_c (s0 345) T p) h3 (by omega) (by omega) ⟨Or.inl rfl, fun _ => Or.inr rfl, hw⟩ (by rw [List.length_cons]; omega) (by rw [dp91]; omega)) (by omega) rfl ?_ (fun r s' z => zb_149_2 (fun q => absurd q (by decide)) (fun _ => zb_149_4 u1 (zb_149_8 w1 (zb_149_12 (fun _ => zb_149_24 (fun _ => zb_149_27 o2 (zb_149_30 (fun q => absurd q (by decide)) (fun _ => zb_149_33 (by rw [o3.1.1, zw_id (by omega) (by omega)]; exact z)))) (fun q => absurd e91 q)) (fun q => absurd rfl q)))))
          rw [hpq]
          refine ze_one ?_
          rw [hst, if_neg enot, if_pos hkk, if_neg (by omega)]
          unfold zg_nx
          rw [ht9]
      · have hkn : ¬ zg_kind (s0 345) T p = 91 := fun z => e91 (k91.1.mp z)
        have step : ze_to (s0 345) T (4, 0, p, a, l, O) (1, 1, p, a, l, O) := ze_one (by rw [hst, if_neg enot, if_neg hkn])
        rcases zz_compare hc ht0 ht l O (L := ((O.length : Nat) : Int)) w2 (by omega) (by omega) hm hm6 (by omega) (by omega) haw with ⟨N', a', s3, c1, c2, c3, c4, c5, c6⟩ | ⟨f, s3, c1, c2, w, c3⟩
        · refine Or.inl ⟨N', a', O, s3, zb_149_2 (fun q => absurd q (by decide)) (fun _ => zb_149_4 u1 (zb_149_8 w1 (zb_149_12 (fun _ => zb_149_24 (fun q => absurd q e91) (fun _ => zb_149_41 (zb_149_2 (fun _ => zb_149_42 c1 (zb_149_44 rfl)) (fun q => absurd rfl q)))) (fun q => absurd rfl q)))), c2, by omega, ⟨hw, c4.1, hd, c4.2⟩, ?_, c6⟩
          rw [hpq]
          rw [hpp] at c5
          exact ze_trans step c5
        · refine Or.inr ⟨f, s3, zb_149_2 (fun q => absurd q (by decide)) (fun _ => zb_149_4 u1 (zb_149_8 w1 (zb_149_12 (fun _ => zb_149_24 (fun q => absurd q e91) (fun _ => zb_149_41 (zb_149_2 (fun _ => zb_149_42 c1 (zb_149_44 rfl)) (fun q => absurd rfl q)))) (fun q => absurd rfl q)))), c2, w, ?_⟩
          rw [hpq]
          rw [hpp] at c3
          exact ze_tend step c3
  intro n
  induction n with
  | zero =>
    intro N a O s x2 h hn hN hN4 hm hm6 hw hOl hd haw
    exact one N a O s x2 h hN hN4 hm hm6 hw hOl hd haw (fun N' O' s' x' h' g1 g2 _ _ _ => by omega)
  | succ n ih =>
    intro N a O s x2 h hn hN hN4 hm hm6 hw hOl hd haw
    exact one N a O s x2 h hN hN4 hm hm6 hw hOl hd haw (fun N' O' s' x' h' g1 g2 g3 g4 g5 => ih N' a O' s' x' h' (by omega) (by omega) g2 hm hm6 g3 g4 g5 haw)
/-- closing brackets -/
theorem zz_closeloop (hc : zCy s0 T) (ht0 : 0 ≤ t) (ht : t ≤ 5) (l : Int) : ∀ (n : Nat) (N : Int) (a : zW) (O : List Int) (s : zS), zMw s0 t N a.1 (a.2.1, some O) ln s → (T - N).toNat ≤ n → 0 ≤ N → N ≤ T → zwf O → O.head? ≠ some 11 → ((a.2.1.length : Nat) : Int) + ((O.length : Nat) : Int) ≤ N → zdp O ≤ 10 → ∃ N' o' O' s', zA xm_c151 3 [344] [] s (0, s') ∧ zMw s0 t N' a.1 (o', some O') ln s' ∧ (N ≤ N' ∧ N' ≤ T) ∧ (zwf O' ∧ O'.head? ≠ some 11 ∧ ((o'.length : Nat) : Int) + ((O'.length : Nat) : Int) ≤ N' ∧ zdp O' ≤ 10) ∧ ze_to (s0 345) T (5, 0, zg_sk (s0 345) T N, a, l, O) (5, 0, zg_sk (s0 345) T N', (a.1, o', a.2.2), l, O') ∧ ¬ (zg_kind (s0 345) T (zg_sk (s0 345) T N') = 93 ∧ 91 ∈ O') := by
  have h4 := hc.2.2.2
  have one : ∀ (N : Int) (a : zW) (O : List Int) (s : zS), zMw s0 t N a.1 (a.2.1, some O) ln s → 0 ≤ N → N ≤ T → zwf O → O.head? ≠ some 11 → ((a.2.1.length : Nat) : Int) + ((O.length : Nat) : Int) ≤ N → zdp O ≤ 10 → (∀ (N' : Int) (a' : zW) (O' : List Int) (s' : zS), zMw s0 t N' a'.1 (a'.2.1, some O') ln s' → N < N' → N' ≤ T → zwf O' → O'.head? ≠ some 11 → ((a'.2.1.length : Nat) : Int) + ((O'.length : Nat) : Int) ≤ N' → zdp O' ≤ 10 → ∃ N'' o' O'' s'', zA xm_c151 3 [344] [] s' (0, s'') ∧ zMw s0 t N'' a'.1 (o', some O'') ln s'' ∧ (N' ≤ N'' ∧ N'' ≤ T) ∧ (zwf O'' ∧ O''.head? ≠ some 11 ∧ ((o'.length : Nat) : Int) + ((O''.length : Nat) : Int) ≤ N'' ∧ zdp O'' ≤ 10) ∧ ze_to (s0 345) T (5, 0, zg_sk (s0 345) T N', a', l, O') (5, 0, zg_sk (s0 345) T N'', (a'.1, o', a'.2.2), l, O'') ∧ ¬ (zg_kind (s0 345) T (zg_sk (s0 345) T N'') = 93 ∧ 91 ∈ O'')) → ∃ N' o' O' s', zA xm_c151 3 [344] [] s (0, s') ∧ zMw s0 t N' a.1 (o', some O') ln s' ∧ (N ≤ N' ∧ N' ≤ T) ∧ (zwf O' ∧ O'.head? ≠ some 11 ∧ ((o'.length : Nat) : Int) + ((O'.length : Nat) : Int) ≤ N' ∧ zdp O' ≤ 10) ∧ ze_to (s0 345) T (5, 0, zg_sk (s0 345) T N, a, l, O) (5, 0, zg_sk (s0 345) T N', (a.1, o', a.2.2), l, O') ∧ ¬ (zg_kind (s0 345) T (zg_sk (s0 345) T N') = 93 ∧ 91 ∈ O') := by
    intro N a O s h hN hN4 hw hh hOl hd ih
    have rl : N ≤ zg_sk (s0 345) T N ∧ (zg_sk (s0 345) T N ≤ T ∨ zg_sk (s0 345) T N = N) := zg_run_le
    obtain ⟨s1, u1, v1⟩ := zz_see hc _ (Nat.le_refl _) hN h
    generalize hpq : zg_sk (s0 345) T N = p at rl u1 v1
    have hpp : zg_sk (s0 345) T p = p := by rw [← hpq, zg_sk_sk]
    have k93 := zg_kc (b := s0 345) (T := T) (p := p) (v := 93) (by omega) (by omega) (by omega)
    have hin := zz_inside v1 (by omega)
    by_cases e93 : zg_c (s0 345) T p = 93
    · by_cases e91 : 91 ∈ O
      · rw [if_pos e91] at hin
        have e := (zg_cv (v := 93) hc.1 hc.2.2.2 (by omega) (by omega) (by omega)).mp e93
        have hkk := k93.1.mpr e93
        have ht9 := k93.2 e93
        rw [if_pos e.1] at ht9
        obtain ⟨s2, q1, q2⟩ := zz_settles ht0 ht (least := 1) (by omega) hw (by omega) v1
        have na : ¬ zg_is (s0 345) T p yw_and := fun z => by
          have := z.1
          omega
        have to1 := ze_pop (b := s0 345) (T := T) (p := p) (l := l) (least := 1) (by omega) (fun _ => na) O a hw
        have pw := zpp_wf (least := 1) hw
        have pl := zpo_len (least := 1) O a.2.1
        have pd := zpp_dp (least := 1) O
        have p91 := zpp_91 (least := 1) (by omega) O e91
        -- the bracket stands on top
        match hO : zpp 1 O, pw, pl, pd, p91, q2, to1 with
        | [], pw, pl, pd, p91, q2, to1 => cases p91
        | c :: O2, pw, pl, pd, p91, q2, to1 =>
          have c91 := zpp_top1 hw hO
          subst c91
          have pl : (zpo 1 O a.2.1).length + (O2.length + 1) = a.2.1.length + O.length := pl
          have t1 : s2 351 ((O2.length : Nat) : Int) = 91 := q2.2.1.2.2.2.1
          have e16 : s2 344 16 = ((O2.length : Nat) : Int) + 1 := q2.2.1.2.2.1
          have dp91 : zdp (91 :: O2) = 1 + zdp O2 := by rw [zdp_c, if_pos (Or.inl rfl)]
          have e13 : s2 344 13 = 1 + zdp O2 := by rw [← dp91]; exact q2.2.1.2.1
          have hd0 := zdp_0 O2
          have hset : zMw s0 t (p + 1) a.1 (zpo 1 O a.2.1, some O2) ln (zu (zu (zu s2 344 16 (zw (s2 344 16 - 1))) 344 13 (zw ((zu s2 344 16 (zw (s2 344 16 - 1))) 344 13 - 1))) 344 8 (zw ((zu (zu s2 344 16 (zw (s2 344 16 - 1))) 344 13 (zw ((zu s2 344 16 (zw (s2 344 16 - 1))) 344 13 - 1))) 344 8 + 1))) := by
            have b1 : zw (s2 344 16 - 1) = ((O2.length : Nat) : Int) := by rw [e16, zw_id (by omega) (by omega)]; omega
            rw [b1]
            have b2 : (zu s2 344 16 ((O2.length : Nat) : Int)) 344 13 = 1 + zdp O2 := by rw [zu_place (by decide)]; exact e13
            rw [b2]
            have b3 : zw (1 + zdp O2 - 1) = zdp O2 := by rw [zw_id (by omega) (by omega)]; omega
            rw [b3]
            have b4 : (zu (zu s2 344 16 ((O2.length : Nat) : Int)) 344 13 (zdp O2)) 344 8 = p := by rw [zu_place (by decide), zu_place (by decide)]; exact q2.1.1
            rw [b4, zw_id (by omega) (by omega)]
            exact (q2.sk rfl q2.2.1.2.2.2.2).setN
          obtain ⟨s3, r1, r2⟩ := zz_settles ht0 ht (least := 3) (by omega) pw.2.2 (by omega) hset
          have pw3 := zpp_wf (least := 3) pw.2.2
          have pl3 := zpo_len (least := 3) O2 (zpo 1 O a.2.1)
          have pd3 := zpp_dp (least := 3) O2
          have ph3 : (zpp 3 O2).head? ≠ some 11 := fun z => absurd (zpp_head z) (by decide)
          have to3 := ze_pop (b := s0 345) (T := T) (p := zg_sk (s0 345) T (p + 1)) (l := l) (least := 3) (by omega) (fun q => absurd q (by decide)) O2 (zpa 1 O a) pw.2.2
          obtain ⟨N', o', O', s', i1, i2, i3, i4, i5, i6⟩ := ih (p + 1) (zpa 3 O2 (zpa 1 O a)) (zpp 3 O2) s3 r2 (by omega) (by omega) pw3 ph3 (by show (((zpo 3 O2 (zpo 1 O a.2.1)).length : Nat) : Int) + (((zpp 3 O2).length : Nat) : Int) ≤ p + 1; omega) (by omega)
          refine ⟨N', o', O', s', zb_151_3 u1 (zb_151_5 (fun _ => zb_151_7 hin (zb_151_9 (fun q => absurd q (by decide)) (fun _ => zb_151_10 q1 (zb_151_13 r1 (zb_151_34 i1))))) (fun q => absurd e93 q)), i2, by omega, i4, ze_trans to1 (ze_trans (ze_one ?_) (ze_trans to3 i5)), i6⟩
          refine ze_5c.trans ?_
          rw [if_neg (by decide), if_neg (by decide), if_pos hkk]
          unfold zg_nx
          rw [ht9]
      · rw [if_neg e91] at hin
        refine ⟨p, a.2.1, O, s1, zb_151_3 u1 (zb_151_5 (fun _ => zb_151_7 hin (zb_151_9 (fun _ => zb_151_35 rfl) (fun q => absurd rfl q))) (fun q => absurd e93 q)), v1, by omega, ⟨hw, hh, by omega, hd⟩, ?_, fun z => e91 z.2⟩
        rw [hpp]
        exact ze_refl
    · refine ⟨p, a.2.1, O, s1, zb_151_3 u1 (zb_151_5 (fun q => absurd q e93) (fun _ => zb_151_35 rfl)), v1, by omega, ⟨hw, hh, by omega, hd⟩, ?_, fun z => e93 (k93.1.mp (by rw [← hpp]; exact z.1))⟩
      rw [hpp]
      exact ze_refl
  intro n
  induction n with
  | zero =>
    intro N a O s h hn hN hN4 hw hh hOl hd
    exact one N a O s h hN hN4 hw hh hOl hd (fun N' a' O' s' h' g1 g2 _ _ _ _ => by omega)
  | succ n ih =>
    intro N a O s h hn hN hN4 hw hh hOl hd
    exact one N a O s h hN hN4 hw hh hOl hd (fun N' a' O' s' h' g1 g2 g3 g4 g5 g6 => ih N' a' O' s' h' (by omega) (by omega) g2 g3 g4 g5 g6)
/-- behind the brackets: and, or, or the end -/
theorem zz_joint (hc : zCy s0 T) (ht0 : 0 ≤ t) (ht : t ≤ 5) (l : Int) {x2 : Int} {a : zW} {O : List Int} (h : zMw s0 t N a.1 (a.2.1, some O) ln s) (hN : 0 ≤ N) (hN4 : N ≤ T) (hm : 0 ≤ a.1) (hm6 : a.1 ≤ 60) (hw : zwf O) (hh : O.head? ≠ some 11) (hOl : ((a.2.1.length : Nat) : Int) + ((O.length : Nat) : Int) ≤ N) (hd : zdp O ≤ 10) (haw : a.2.2.1 = 0 ∧ a.2.2.2.1 = 0) (h93 : ¬ (zg_kind (s0 345) T (zg_sk (s0 345) T N) = 93 ∧ 91 ∈ O)) (ih : ∀ (N' : Int) (a' : zW) (O' : List Int) (s' : zS) (x2 : Int), zMw s0 t N' a'.1 (a'.2.1, some O') ln s' → N < N' → N' ≤ T → 0 ≤ a'.1 → a'.1 ≤ 60 → zwf O' → ((a'.2.1.length : Nat) : Int) + ((O'.length : Nat) : Int) ≤ N' → zdp O' ≤ 10 → (a'.2.2.1 = 0 ∧ a'.2.2.2.1 = 0) → zOe s0 t T (fun p a => (4, 0, p, a, l, O')) (fun p a => (6, 0, p, zem a, l, [])) N' a' (some O') none 0 ln (fun _ b => b.2.2.1 = 0 ∧ b.2.2.2.1 = 0) (fun r s'' => zA xm_c152 8 [344, 1, x2] [] s' (r, s''))) : zOe s0 t T (fun p a => (5, 0, p, a, l, O)) (fun p a => (6, 0, p, zem a, l, [])) N a (some O) none 0 ln (fun _ b => b.2.2.1 = 0 ∧ b.2.2.2.1 = 0) (fun r s' => zA xm_c152 17 [344, 1, x2] [] s (r, s')) := by
  have h4 := hc.2.2.2
  have rl : N ≤ zg_sk (s0 345) T N ∧ (zg_sk (s0 345) T N ≤ T ∨ zg_sk (s0 345) T N = N) := zg_run_le
  obtain ⟨s4, d1, d2⟩ := zz_isword hc h hN hN4 yw_and (w := 6385252) (by decide) (by decide) (by decide) (by decide)
  have hpp : zg_sk (s0 345) T (zg_sk (s0 345) T N) = zg_sk (s0 345) T N := zg_sk_sk
  have hpq : zg_sk (s0 345) T N = zg_sk (s0 345) T N := rfl
  generalize hp : zg_sk (s0 345) T N = p at rl d1 d2 hpp h93
  have hp0 : 0 ≤ p := by omega
  have hpT : p ≤ T := by omega
  have hp4 : p ≤ 400 := by omega
  have hO1 : O.length ≤ 1000 := by omega
  have hlen : a.2.1.length + O.length ≤ 400 := by omega
  have hNp : N ≤ p := rl.1
  obtain ⟨s5, e1, e2⟩ := zz_isword hc d2 hp0 hpT yw_or (w := 28530) (by decide) (by decide) (by decide) (by decide)
  obtain ⟨s7, g1, g2⟩ := zz_isword hc d2 hp0 hpT yw_and (w := 6385252) (by decide) (by decide) (by decide) (by decide)
  rw [hpp] at e1 e2 g1 g2
  obtain ⟨s6, f1, f2⟩ := zz_isword hc e2 hp0 hpT yw_and (w := 6385252) (by decide) (by decide) (by decide) (by decide)
  rw [hpp] at f1 f2
  have hk := zg_kl (b := s0 345) (T := T) (p := p) hc.1 hc.2.2.2 hp0
  have hte := zg_te_le (b := s0 345) (T := T) (p := p) hc.1 hc.2.2.2 hp0
  -- a joint c is pushed
  have push : ∀ (c : Int) (s8 : zS), c = 12 ∨ c = 13 → zg_jn (s0 345) T p → zMw s0 t (zg_te (s0 345) T p) a.1 (a.2.1, some O) ln s8 → (∀ R, zA xm_c152 41 [344, 1, c] [] s8 R → zA xm_c152 17 [344, 1, x2] [] s R) → ze_to (s0 345) T (5, 0, p, a, l, O) (4, 0, zg_nx (s0 345) T p, zpa (zsr_ c) O a, l, c :: zpp (zsr_ c) O) → zOe s0 t T (fun p a => (5, 0, p, a, l, O)) (fun p a => (6, 0, p, zem a, l, [])) N a (some O) none 0 ln (fun _ b => b.2.2.1 = 0 ∧ b.2.2.2.1 = 0) (fun r s' => zA xm_c152 17 [344, 1, x2] [] s (r, s')) := by
    intro c s8 hcc hj h8 hrun hto
    clear d1 d2 e1 e2 f1 f2 g1 g2 h93
    have hk97 : zg_kind (s0 345) T p = 97 := hj.elim (fun z => z.1) (fun z => z.1)
    have hlt : p < zg_te (s0 345) T p := hte.2.2 (by rw [hk97]; decide)
    have hs1 : 1 ≤ zsr_ c := by rcases hcc with rfl | rfl <;> decide
    obtain ⟨s9, i1, i2⟩ := zz_settles ht0 ht (least := zsr_ c) hs1 hw hlen h8
    have qw := zpp_wf (least := zsr_ c) hw
    have ql := zpo_len (least := zsr_ c) O a.2.1
    have qd := zpp_dp (least := zsr_ c) O
    have qh : (zpp (zsr_ c) O).head? ≠ some 11 := fun z => by
      have := zpp_head z
      have e11 : zsr_ 11 = 3 := rfl
      rcases hcc with rfl | rfl
      · exact absurd this (by decide)
      · exact absurd this (by decide)
    have hnew := i2.push hcc (by omega)
    have hdz : zdp (c :: zpp (zsr_ c) O) = zdp (zpp (zsr_ c) O) := by
      rw [zdp_c, if_neg (by omega)]
      omega
    have tail := ih (zg_te (s0 345) T p) (zpa (zsr_ c) O a) (c :: zpp (zsr_ c) O) _ c hnew (by omega) (hte.2.1 hpT) hm hm6 ⟨by omega, fun z => absurd z qh, qw⟩ (by show (((zpo (zsr_ c) O a.2.1).length : Nat) : Int) + (((zpp (zsr_ c) O).length + 1 : Nat) : Int) ≤ zg_te (s0 345) T p; omega) (by rw [hdz]; omega) haw
    refine zOe_map (a := a) (a1 := zpa (zsr_ c) O a) tail (by omega) rfl ?_ (fun r s' z => hrun _ (zb_152_41 zr_strength (zb_152_44 i1 (zb_152_45 z))))
    rw [hp]
    exact hto
  by_cases eand : zg_is (s0 345) T p yw_and
  · rw [if_pos eand] at d1 g1
    obtain ⟨s8, j1, j2⟩ := zz_pass hc _ (Nat.le_refl _) hp0 g2
    rw [← hk.2.1 eand.1] at j2
    have hjo : zjo (s0 345) T p = 12 := if_pos eand
    have hpop := ze_pop (b := s0 345) (T := T) (p := p) (l := l) (least := 2) (by decide) (fun q => absurd q (by decide)) O a hw
    have hpw := zpp_wf (least := 2) hw
    have hst : ze_st (s0 345) T (5, 0, p, zpa 2 O a, l, zpp 2 O) = .inl (4, 0, zg_nx (s0 345) T p, zpa 2 O a, l, 12 :: zpp 2 O) := by
      match hO : zpp 2 O, hpw with
      | [], hpw =>
        refine ze_5n.trans ?_
        rw [if_pos (Or.inl eand), hjo]
      | c :: O2, hpw =>
        have hlt := zpp_head (least := 2) (O := O) (c := c) (by rw [hO]; rfl)
        rcases hpw.1 with z | z | z | z
        · subst z
          refine ze_5c.trans ?_
          rw [if_neg (by decide), if_neg (by decide), if_neg (by have := eand.1; omega), if_pos (Or.inl eand), hjo]
        · subst z
          exact absurd hlt (by decide)
        · subst z
          exact absurd hlt (by decide)
        · subst z
          refine ze_5c.trans ?_
          rw [if_neg (by decide), if_pos rfl, if_pos eand]
    exact push 12 s8 (Or.inl rfl) (Or.inl eand) j2 (fun R z => zb_152_17 d1 (zb_152_20 (fun q => absurd q (by decide)) (fun _ => zb_152_25 (fun q => absurd q (by decide)) (fun _ => zb_152_31 g1 (zb_152_34 (fun q => absurd q (by decide)) (fun _ => zb_152_35 j1 z)))))) (ze_trans hpop (ze_one hst))
  · rw [if_neg eand] at d1 f1
    have hpop := ze_pop (b := s0 345) (T := T) (p := p) (l := l) (least := 1) (by decide) (fun _ => eand) O a hw
    by_cases eor : zg_is (s0 345) T p yw_or
    · rw [if_pos eor] at e1
      obtain ⟨s8, j1, j2⟩ := zz_pass hc _ (Nat.le_refl _) hp0 f2
      rw [← hk.2.1 eor.1] at j2
      have hjo : zjo (s0 345) T p = 13 := if_neg eand
      have hst : ze_st (s0 345) T (5, 0, p, zpa 1 O a, l, zpp 1 O) = .inl (4, 0, zg_nx (s0 345) T p, zpa 1 O a, l, 13 :: zpp 1 O) := by
        match hO : zpp 1 O with
        | [] =>
          refine ze_5n.trans ?_
          rw [if_pos (Or.inr eor), hjo]
        | c :: O2 =>
          have c91 := zpp_top1 hw hO
          subst c91
          refine ze_5c.trans ?_
          rw [if_neg (by decide), if_neg (by decide), if_neg (by have := eor.1; omega), if_pos (Or.inr eor), hjo]
      exact push 13 s8 (Or.inr rfl) (Or.inr eor) j2 (fun R z => zb_152_17 d1 (zb_152_20 (fun _ => zb_152_21 e1 (zb_152_24 (fun q => absurd q (by decide)) (fun _ => zb_152_25 (fun q => absurd q (by decide)) (fun _ => zb_152_31 f1 (zb_152_34 (fun _ => zb_152_37 j1 z) (fun q => absurd rfl q)))))) (fun q => absurd rfl q))) (ze_trans hpop (ze_one hst))
    · rw [if_neg eor] at e1
      have nj : ¬ zg_jn (s0 345) T p := fun z => z.elim eand eor
      have hin := zz_inside e2 hO1
      clear push f1 f2 g1 g2 ih
      have pre2 : ∀ (R : Int × zS), zA xm_c152 58 [344, 0, x2] [] s5 R → zA xm_c152 17 [344, 1, x2] [] s R := fun R z => zb_152_17 d1 (zb_152_20 (fun _ => zb_152_21 e1 (zb_152_24 (fun _ => zb_152_27 (fun _ => zb_152_8 (fun _ => z) (fun q => absurd rfl q)) (fun q => absurd rfl q)) (fun q => absurd rfl q))) (fun q => absurd rfl q))
      by_cases e91 : 91 ∈ O
      · rw [if_pos e91] at hin
        obtain ⟨s8, j1, j2⟩ := zz_see hc _ (Nat.le_refl _) hp0 e2
        rw [hpp] at j1 j2
        obtain ⟨s9, k1, k2⟩ := zz_fails j2 (c := 0) (at_ := p) (by decide) (by decide) hp0 hp4
        have p91 := zpp_91 (least := 1) (by decide) O e91
        refine Or.inr ⟨_, s9, pre2 _ (zb_152_58 hin (zb_152_60 (fun q => absurd q (by decide)) (fun _ => zb_152_61 j1 (zb_152_63 (by rw [j2.1.1]; exact k1) (zb_152_69 rfl))))), k2, zpa 1 O a, ?_⟩
        rw [hp]
        refine ze_tend hpop (ze_stop ?_)
        match hO : zpp 1 O, p91 with
        | [], p91 => cases p91
        | c :: O2, p91 =>
          have c91 := zpp_top1 hw hO
          subst c91
          refine ze_5c.trans ?_
          rw [if_neg (by decide), if_neg (by decide), if_neg (fun z => h93 ⟨z, e91⟩), if_neg nj]
          rfl
      · rw [if_neg e91] at hin
        have hnil := zpp_nil O hw e91
        obtain ⟨s8, j1, j2⟩ := zz_settles ht0 ht (least := 1) (by decide) hw hlen e2
        have ql := zpo_len (least := 1) O a.2.1
        rw [hnil] at hpop ql
        refine Or.inl ⟨p, zpa 1 O a, s8, pre2 _ (zb_152_58 hin (zb_152_60 (fun _ => zb_152_70 j1 (zb_152_73 rfl)) (fun q => absurd rfl q))), j2.forget, ⟨hNp, hpT, hm, hm6⟩, ⟨?_, rfl⟩, ?_, haw⟩
        · show (((zpo 1 O a.2.1).length : Nat) : Int) + 0 ≤ p
          have ql : (zpo 1 O a.2.1).length + 0 = a.2.1.length + O.length := ql
          omega
        · rw [hpp, hp]
          refine ze_trans hpop (ze_one ?_)
          refine ze_5n.trans ?_
          rw [if_neg nj]
theorem zz_testloop (hc : zCy s0 T) (ht0 : 0 ≤ t) (ht : t ≤ 5) (l : Int) : ∀ (n : Nat) (N : Int) (a : zW) (O : List Int) (s : zS) (x2 : Int), zMw s0 t N a.1 (a.2.1, some O) ln s → (T - N).toNat ≤ n → 0 ≤ N → N ≤ T → 0 ≤ a.1 → a.1 ≤ 60 → zwf O → ((a.2.1.length : Nat) : Int) + ((O.length : Nat) : Int) ≤ N → zdp O ≤ 10 → (a.2.2.1 = 0 ∧ a.2.2.2.1 = 0) → zOe s0 t T (fun p a => (4, 0, p, a, l, O)) (fun p a => (6, 0, p, zem a, l, [])) N a (some O) none 0 ln (fun _ b => b.2.2.1 = 0 ∧ b.2.2.2.1 = 0) (fun r s' => zA xm_c152 8 [344, 1, x2] [] s (r, s')) := by
  have h4 := hc.2.2.2
  have one : ∀ (N : Int) (a : zW) (O : List Int) (s : zS) (x2 : Int), zMw s0 t N a.1 (a.2.1, some O) ln s → 0 ≤ N → N ≤ T → 0 ≤ a.1 → a.1 ≤ 60 → zwf O → ((a.2.1.length : Nat) : Int) + ((O.length : Nat) : Int) ≤ N → zdp O ≤ 10 → (a.2.2.1 = 0 ∧ a.2.2.2.1 = 0) → (∀ (N' : Int) (a' : zW) (O' : List Int) (s' : zS) (x2 : Int), zMw s0 t N' a'.1 (a'.2.1, some O') ln s' → N < N' → N' ≤ T → 0 ≤ a'.1 → a'.1 ≤ 60 → zwf O' → ((a'.2.1.length : Nat) : Int) + ((O'.length : Nat) : Int) ≤ N' → zdp O' ≤ 10 → (a'.2.2.1 = 0 ∧ a'.2.2.2.1 = 0) → zOe s0 t T (fun p a => (4, 0, p, a, l, O')) (fun p a => (6, 0, p, zem a, l, [])) N' a' (some O') none 0 ln (fun _ b => b.2.2.1 = 0 ∧ b.2.2.2.1 = 0) (fun r s'' => zA xm_c152 8 [344, 1, x2] [] s' (r, s''))) → zOe s0 t T (fun p a => (4, 0, p, a, l, O)) (fun p a => (6, 0, p, zem a, l, [])) N a (some O) none 0 ln (fun _ b => b.2.2.1 = 0 ∧ b.2.2.2.1 = 0) (fun r s' => zA xm_c152 8 [344, 1, x2] [] s (r, s')) := by
    intro N a O s x2 h hN hN4 hm hm6 hw hOl hd haw ih
    rcases zz_fact hc ht0 ht l _ N a O s 0 h (Nat.le_refl _) hN hN4 hm hm6 hw hOl hd haw with ⟨N1, a1, O1, s1, c1, c2, ⟨c31, c32, c33, c34⟩, ⟨c41, c42, c43, c44⟩, c5, c6⟩ | ⟨f, s1, c1, c2, w, c3⟩
    · obtain ⟨s2, b1, b2⟩ := zz_settles ht0 ht (least := 3) (by decide) c41 (by omega) c2
      have pw3 := zpp_wf (least := 3) c41
      have pl3 := zpo_len (least := 3) O1 a1.2.1
      have pd3 := zpp_dp (least := 3) O1
      have ph3 : (zpp 3 O1).head? ≠ some 11 := fun z => absurd (zpp_head z) (by decide)
      have to3 := ze_pop (b := s0 345) (T := T) (p := zg_sk (s0 345) T N1) (l := l) (least := 3) (by decide) (fun q => absurd q (by decide)) O1 a1 c41
      obtain ⟨N2, o2, O2, s3, d1, d2, ⟨d31, d32⟩, ⟨d41, d42, d43, d44⟩, d5, d6⟩ := zz_closeloop hc ht0 ht l _ N1 (zpa 3 O1 a1) (zpp 3 O1) s2 b2 (Nat.le_refl _) (by omega) c32 pw3 ph3 (by show (((zpo 3 O1 a1.2.1).length : Nat) : Int) + (((zpp 3 O1).length : Nat) : Int) ≤ N1; omega) (by omega)
      have upto := ze_trans c5 (ze_trans to3 d5)
      have d2 : zMw s0 t N2 ((a1.1, o2, a1.2.2) : zW).1 (((a1.1, o2, a1.2.2) : zW).2.1, some O2) ln s3 := d2
      refine zOe_map (a := a) (a1 := ((a1.1, o2, a1.2.2) : zW)) (N' := N2) (zz_joint hc ht0 ht l (x2 := x2) d2 (by omega) d32 c33 c34 d41 d42 d43 d44 c6 d6 (fun N' a' O' s' x' h' g1 g2 g3 g4 g5 g6 g7 g8 => ih N' a' O' s' x' h' (by omega) g2 g3 g4 g5 g6 g7 g8)) (by omega) c44 upto (fun r s' z => zb_152_8 (fun q => absurd q (by decide)) (fun _ => zb_152_10 (zb_149_0 c1) (zb_152_12 (fun q => absurd q (by decide)) (fun _ => zb_152_15 (zb_151_0 b1 d1) z))))
    · exact Or.inr ⟨f, s1, zb_152_8 (fun q => absurd q (by decide)) (fun _ => zb_152_10 (zb_149_0 c1) (zb_152_12 (fun _ => zb_152_13 rfl) (fun q => absurd rfl q))), c2, w, c3⟩
  intro n
  induction n with
  | zero =>
    intro N a O s x2 h hn hN hN4 hm hm6 hw hOl hd haw
    exact one N a O s x2 h hN hN4 hm hm6 hw hOl hd haw (fun N' a' O' s' x' h' g1 g2 _ _ _ _ _ _ => by omega)
  | succ n ih =>
    intro N a O s x2 h hn hN hN4 hm hm6 hw hOl hd haw
    exact one N a O s x2 h hN hN4 hm hm6 hw hOl hd haw (fun N' a' O' s' x' h' g1 g2 g3 g4 g5 g6 g7 g8 => ih N' a' O' s' x' h' (by omega) (by omega) g2 g3 g4 g5 g6 g7 g8)
theorem zz_tested (hc : zCy s0 T) (ht0 : 0 ≤ t) (ht : t ≤ 5) (l : Int) {a : zW} {O : zO} (h : zMw s0 t N a.1 (a.2.1, O) ln s) (hN : 0 ≤ N) (hN4 : N ≤ T) (hm : 0 ≤ a.1) (hm6 : a.1 ≤ 60) (hL : ((a.2.1.length : Nat) : Int) ≤ N) (haw : a.2.2.1 = 0 ∧ a.2.2.2.1 = 0) : zOe s0 t T (fun p a => (4, 0, p, a, l, [])) (fun p a => (6, 0, p, zem a, l, [])) N a O none 0 ln (fun _ b => b.2.2.1 = 0 ∧ b.2.2.2.1 = 0) (fun r s' => zE xm_c152 [344, 0, 0] s r s') := by
  have h0 : zMw s0 t N a.1 (a.2.1, some []) ln (zu (zu s 344 16 0) 344 13 0) := h.sk (O2 := []) rfl trivial
  exact zOe_map (a := a) (a1 := a) (O1 := some []) (zz_testloop hc ht0 ht l _ N a [] _ 0 h0 (Nat.le_refl _) hN hN4 hm hm6 trivial (by show ((a.2.1.length : Nat) : Int) + 0 ≤ N; omega) (by decide) haw) (Int.le_refl _) rfl ze_refl (fun r s' z => zb_152_0 z)
end XG
