/-! the reference's reading of a rule, with the code and the marks -/
section XI
variable {z s0 s : zS} {t T N m ln : Int}
theorem zOc_map {A A1 : zQe} {N1 : Int} {n : Nat} {l l' : Int} {E E1 : Int → zS → Prop} (h : zOc z t T N1 n A1 l l' E1) (hN : N ≤ N1) (ha : ze_to (z 345) T A A1) (hE : ∀ r s', E1 r s' → E r s') : zOc z t T N n A l l' E := by
  rcases h with ⟨N', w, s1, s', a1, a2, a3, a4, a5, a6⟩ | ⟨f, s', a1, a2, w, a3⟩
  · exact Or.inl ⟨N', w, s1, s', hE _ _ a1, a2, a3, ⟨by omega, a4.2⟩, a5, ze_trans ha a6⟩
  · exact Or.inr ⟨f, s', hE _ _ a1, a2, w, ze_tend ha a3⟩
/-- one clause -/
theorem zz_clause (hc : zCy z T) (ht0 : 0 ≤ t) (ht : t ≤ 5) {a : zW} {O : zO} {n : Nat} (hb : zBf z t s0) (hk : zMk t a.2.2.2.2 s0) (hz : zMz n a) (hn2 : n ≤ 12) (h : zMw s0 t N a.1 (a.2.1, O) (n : Int) s) (hN : 0 ≤ N) (hN4 : N ≤ T) (hm : 0 ≤ a.1) (hm6 : a.1 ≤ 60) (hL : ((a.2.1.length : Nat) : Int) ≤ N) : zOc z t T N n (0, 0, zg_sk (z 345) T N, a, (n : Int), []) ((n : Int) + 1) ((n : Int) + 1) (fun r s' => zE xm_c166 [344, 0, 0] s r s') ∧ (n = 12 → ∃ f s', zE xm_c166 [344, 0, 0] s 0 s' ∧ zRdx z t f s' ∧ ∃ w, ze_end (z 345) T (0, 0, zg_sk (z 345) T N, a, (n : Int), []) (f, w)) := by
  have h4 := hc.2.2.2
  have hcs := zBf_cy hb hc
  have hb0 := zBf_345 hb
  obtain ⟨s1, a1, a2⟩ := zz_see hcs _ (Nat.le_refl _) hN h
  have rl : N ≤ zg_sk (z 345) T N ∧ (zg_sk (z 345) T N ≤ T ∨ zg_sk (z 345) T N = N) := zg_run_le
  rw [hb0] at a1 a2
  obtain ⟨s2, b1, b2⟩ := zz_isword hcs a2 (by omega) (by omega) yw_tell (w := 1952803948) (by decide) (by decide) (by decide) (by decide)
  rw [hb0, zg_sk_sk] at b1 b2
  have hpp : zg_sk (z 345) T (zg_sk (z 345) T N) = zg_sk (z 345) T N := zg_sk_sk
  generalize hpq : zg_sk (z 345) T N = p at rl a1 a2 b1 b2 hpp ⊢
  have e8 := a2.1.1
  have hst : ze_st (z 345) T (0, 0, p, a, (n : Int), []) = if zg_is (z 345) T p yw_tell then (if (n : Int) = 12 then zfe_ 4 p a else .inl (1, 0, zg_nx (z 345) T p, a, (n : Int) + 1, [])) else zfe_ 0 p a := rfl
  have pre : ∀ (R : Int × zS), (∀ R', R' = R → zA xm_c166 20 [344, s1 344 8, 0] [] s1 R') → zE xm_c166 [344, 0, 0] s R.1 R.2 := fun R z => zb_166_0 a1 (zb_166_2 (fun q => absurd (a2.1.2.2.1 ▸ q : t = 6) (by omega)) (fun _ => zb_166_12 (fun _ => z R rfl) (fun q => absurd rfl q)))
  by_cases et : zg_is (z 345) T p yw_tell
  · rw [if_pos et] at b1
    by_cases e12 : n = 12
    · obtain ⟨s3, f1, f2⟩ := zz_fails b2 (c := 4) (at_ := p) (by omega) (by omega) (by omega) (by omega)
      have run : zE xm_c166 [344, 0, 0] s 0 s3 := pre (0, s3) (fun R' e => by
        subst e
        exact zb_166_20 b1 (zb_166_23 (fun q => absurd q (by decide)) (fun _ => zb_166_29 (fun _ => zb_166_35 (fun _ => zb_166_37 (by rw [e8]; exact f1) (zb_166_41 rfl)) (fun q => absurd (by rw [b2.1.2.2.2.2]; omega) q)) (fun q => absurd rfl q))))
      have en : ∃ w, ze_end (z 345) T (0, 0, p, a, (n : Int), []) (1 + 8 * p + 4, w) := ⟨a, ze_stop (by rw [hst, if_pos et, if_pos (by omega)]; rfl)⟩
      exact ⟨Or.inr ⟨_, s3, run, zRdx_of hb f2, en⟩, fun _ => ⟨_, s3, run, zRdx_of hb f2, en⟩⟩
    · refine ⟨?_, fun q => absurd q e12⟩
      have b3 := b2.setl (ln' := (n : Int) + 1)
      have tl := zz_tell hc ht0 ht ((n : Int) + 1) hb hk hz (by omega) b3 (by omega) (by omega) hm hm6 (by omega) hpp et.1
      have hz : zu s2 344 14 (zw (s2 344 14 + 1)) = zu s2 344 14 ((n : Int) + 1) := by rw [b2.1.2.2.2.2, zw_id (by omega) (by omega)]
      refine zOc_map tl rl.1 (ze_one (by rw [hst, if_pos et, if_neg (by omega)])) (fun r s' z => pre (r, s') (fun R' e => ?_))
      subst e
      exact zb_166_20 b1 (zb_166_23 (fun q => absurd q (by decide)) (fun _ => zb_166_29 (fun _ => zb_166_35 (fun q => absurd (show (n : Int) = 12 from b2.1.2.2.2.2 ▸ q) (by omega)) (fun _ => zb_166_42 (fun _ => zb_166_54 (by rw [hz]; exact z) (zb_166_56 rfl)) (fun q => absurd rfl q))) (fun q => absurd rfl q)))
  · rw [if_neg et] at b1
    obtain ⟨s3, f1, f2⟩ := zz_fails b2 (c := 0) (at_ := p) (by omega) (by omega) (by omega) (by omega)
    have run : zE xm_c166 [344, 0, 0] s 0 s3 := pre (0, s3) (fun R' e => by
      subst e
      exact zb_166_20 b1 (zb_166_23 (fun _ => zb_166_24 (by rw [e8]; exact f1) (zb_166_28 rfl)) (fun q => absurd rfl q)))
    have en : ∃ w, ze_end (z 345) T (0, 0, p, a, (n : Int), []) (1 + 8 * p + 0, w) := ⟨a, ze_stop (by rw [hst, if_neg et]; rfl)⟩
    exact ⟨Or.inr ⟨_, s3, run, zRdx_of hb f2, en⟩, fun _ => ⟨_, s3, run, zRdx_of hb f2, en⟩⟩
/-- what stands when all is read: the fault, or none, and the rule -/
def zFw (z : zS) (t f : Int) (w : zW) (s : zS) : Prop := s 344 9 = f ∧ s 344 1 = 0 ∧ (f = 0 → zCr t w.2.1 s ∧ zMk t w.2.2.2.2 s ∧ w.2.2.2.2.length % 2 = 0 ∧ w.2.2.2.2.length ≤ 24) ∧ ∀ x y, ¬ (x = 344 ∧ y = 1) → ¬ (x = 344 ∧ 8 ≤ y ∧ y ≤ 16) → ¬ (x = 346 ∧ 400 * t ≤ y ∧ y < 400 * t + 400) → ¬ (x = 347 ∧ y = t) → ¬ (x = 348 ∧ 48 * t ≤ y ∧ y < 48 * t + 48) → ¬ (x = 349 ∧ y = t) → x ≠ 351 → s x y = z x y
theorem zFw_bad {f : Int} {w : zW} (h : zRdx z t f s) : zFw z t f w (zu s 344 1 0) := by
  refine ⟨by rw [zu_place (by decide)]; exact h.1, zu_hit, fun q => absurd q h.2.1, fun x y a b c d e g i => ?_⟩
  unfold zu
  rw [if_neg a]
  exact h.2.2 x y b c d e g i
theorem zMk_u {M : List Int} {x y v : Int} (h : zMk t M s) (h8 : x ≠ 348) (h9 : x ≠ 349) : zMk t M (zu s x y v) := by
  refine ⟨by rw [zu_cell (by omega)]; exact h.1, fun i hi => ?_⟩
  rw [zu_cell (by omega), zu_cell (by omega), zu_cell (by omega), zu_cell (by omega)]
  exact h.2 i hi
theorem zMk_of {M : List Int} {O : zX} (h : zMw s0 t N m O ln s) (hk : zMk t M s0) : zMk t M s := by
  have e8 : ∀ y, s 348 y = s0 348 y := fun y => h.2.2 348 y (by omega) (by omega) (by omega) (by decide)
  refine ⟨by rw [h.2.2 349 t (by omega) (by omega) (by omega) (by decide)]; exact hk.1, fun i hi => ?_⟩
  rw [e8, e8, e8, e8]
  exact hk.2 i hi
theorem zz_good {w : zW} {O : zO} {n : Nat} (h : zMw s0 t N m (w.2.1, O) ln s) (hb : zBf z t s0) (hk : zMk t w.2.2.2.2 s0) (hn : w.2.2.2.2.length = 2 * n) (hn2 : n ≤ 12) : zFw z t 0 w (zu s 344 1 0) := by
  refine ⟨by rw [zu_place (by decide)]; exact h.1.2.1, zu_hit, fun _ => ⟨zCr_u h.2.1.1 (by decide) (by decide), zMk_u (zMk_of h hk) (by decide) (by decide), by omega, by omega⟩, fun x y a b c d e g i => ?_⟩
  unfold zu
  rw [if_neg a]
  exact (h.2.2 x y b c d i).trans (hb x y e g)
/-- more clauses -/
theorem zz_allloop (hc : zCy z T) (ht0 : 0 ≤ t) (ht : t ≤ 5) : ∀ (k : Nat) (N : Int) (n : Nat) (a : zW) (s0 s : zS), zBf z t s0 → zMk t a.2.2.2.2 s0 → zMz n a → zMw s0 t N a.1 (a.2.1, none) (n : Int) s → 12 - n ≤ k → 0 ≤ N → N ≤ T → 0 ≤ a.1 → a.1 ≤ 60 → ((a.2.1.length : Nat) : Int) ≤ N → n ≤ 12 → ∃ f w s', zA xm_c167 21 [344, 1] [] s ((if f = 0 then 1 else 0), s') ∧ zFw z t f w s' ∧ ze_end (z 345) T (6, 0, zg_sk (z 345) T N, a, (n : Int), []) (f, w) := by
  have h4 := hc.2.2.2
  -- with a fault
  have bad : ∀ (s : zS) (f : Int), zRdx z t f s → zA xm_c167 21 [344, 0] [] s (0, zu s 344 1 0) := fun s f h => zb_167_21 (fun _ => zb_167_37 (fun _ => zb_167_49 (fun q => absurd (by rw [zu_place (by decide)] at q; exact h.1.symm.trans q) h.2.1) (fun _ => zb_167_57 rfl)) (fun q => absurd rfl q)) (fun q => absurd rfl q)
  have one : ∀ (N : Int) (n : Nat) (a : zW) (s0 s : zS), zBf z t s0 → zMk t a.2.2.2.2 s0 → zMz n a → zMw s0 t N a.1 (a.2.1, none) (n : Int) s → 0 ≤ N → N ≤ T → 0 ≤ a.1 → a.1 ≤ 60 → ((a.2.1.length : Nat) : Int) ≤ N → n ≤ 12 → (∀ (N' : Int) (a' : zW) (s1 s' : zS), n < 12 → zBf z t s1 → zMk t a'.2.2.2.2 s1 → zMz (n + 1) a' → zMw s1 t N' a'.1 (a'.2.1, none) ((n + 1 : Nat) : Int) s' → 0 ≤ N' → N' ≤ T → 0 ≤ a'.1 → a'.1 ≤ 60 → ((a'.2.1.length : Nat) : Int) ≤ N' → ∃ f w s'', zA xm_c167 21 [344, 1] [] s' ((if f = 0 then 1 else 0), s'') ∧ zFw z t f w s'' ∧ ze_end (z 345) T (6, 0, zg_sk (z 345) T N', a', ((n + 1 : Nat) : Int), []) (f, w)) → ∃ f w s', zA xm_c167 21 [344, 1] [] s ((if f = 0 then 1 else 0), s') ∧ zFw z t f w s' ∧ ze_end (z 345) T (6, 0, zg_sk (z 345) T N, a, (n : Int), []) (f, w) := by
    intro N n a s0 s hb hk hz h hN hN4 hm hm6 hL hn12 ih
    have hcs := zBf_cy hb hc
    have hb0 := zBf_345 hb
    obtain ⟨s1, a1, a2⟩ := zz_see hcs _ (Nat.le_refl _) hN h
    have rl : N ≤ zg_sk (z 345) T N ∧ (zg_sk (z 345) T N ≤ T ∨ zg_sk (z 345) T N = N) := zg_run_le
    rw [hb0] at a1 a2
    obtain ⟨s2, b1, b2⟩ := zz_see hcs _ (Nat.le_refl _) (by omega) a2
    rw [hb0, zg_sk_sk] at b1 b2
    generalize hpq : zg_sk (z 345) T N = p at rl a1 a2 b1 b2
    have hst : ze_st (z 345) T (6, 0, p, a, (n : Int), []) = if zg_kind (z 345) T p = 59 then .inl (0, 0, zg_nx (z 345) T p, a, (n : Int), []) else if zg_kind (z 345) T p = -1 then .inr (0, a) else zfe_ 0 p a := rfl
    have k59 := zg_kc (b := z 345) (T := T) (p := p) (v := 59) (by omega) (by omega) (by omega)
    have km := zg_kc (b := z 345) (T := T) (p := p) (v := -1) (by omega) (by omega) (by omega)
    by_cases e59 : zg_c (z 345) T p = 59
    · have e := (zg_cv (v := 59) hc.1 hc.2.2.2 (by omega) (by omega) (by omega)).mp e59
      have hkk := k59.1.mpr e59
      have hte := k59.2 e59
      rw [if_pos e.1] at hte
      have a3 := a2.setN (N' := p + 1)
      have hz1 : zu s1 344 8 (zw (s1 344 8 + 1)) = zu s1 344 8 (p + 1) := by rw [a2.1.1, zw_id (by omega) (by omega)]
      have step : ze_to (z 345) T (6, 0, p, a, (n : Int), []) (0, 0, zg_sk (z 345) T (p + 1), a, (n : Int), []) := ze_one (by
        rw [hst, if_pos hkk]
        unfold zg_nx
        rw [hte])
      obtain ⟨cl, c12⟩ := zz_clause hc ht0 ht hb hk hz hn12 a3 (by omega) (by omega) hm hm6 (by omega)
      have fail : ∀ (f : Int) (s' : zS), zE xm_c166 [344, 0, 0] (zu s1 344 8 (p + 1)) 0 s' → zRdx z t f s' → (∃ w, ze_end (z 345) T (0, 0, zg_sk (z 345) T (p + 1), a, (n : Int), []) (f, w)) → ∃ f w s', zA xm_c167 21 [344, 1] [] s ((if f = 0 then 1 else 0), s') ∧ zFw z t f w s' ∧ ze_end (z 345) T (6, 0, p, a, (n : Int), []) (f, w) := by
        intro f s' d1 d2 ⟨w, d3⟩
        refine ⟨f, w, _, ?_, zFw_bad d2, ze_tend step d3⟩
        rw [if_neg d2.2.1]
        exact zb_167_21 (fun q => absurd q (by decide)) (fun _ => zb_167_23 a1 (zb_167_25 (fun _ => zb_167_27 (by rw [hz1]; exact d1) (zb_167_35 (bad s' f d2))) (fun q => absurd e59 q)))
      by_cases e12 : n = 12
      · obtain ⟨f, s', d1, d2, d3⟩ := c12 e12
        exact fail f s' d1 d2 d3
      · rcases cl with ⟨N', w, s3, s', d1, d2, ⟨d31, d32⟩, ⟨d41, d42, d43, d44, d45⟩, d5, d6⟩ | ⟨f, s', d1, d2, d3⟩
        · obtain ⟨f, w', s'', g1, g2, g3⟩ := ih N' w s3 s' (by omega) d31 d32 d5 d2 (by omega) d42 d43 d44 d45
          exact ⟨f, w', s'', zb_167_21 (fun q => absurd q (by decide)) (fun _ => zb_167_23 a1 (zb_167_25 (fun _ => zb_167_27 (by rw [hz1]; exact d1) (zb_167_35 g1)) (fun q => absurd e59 q))), g2, ze_tend step (ze_tend d6 g3)⟩
        · exact fail f s' d1 d2 d3
    · have pre : ∀ (R : Int × zS), zA xm_c167 37 [344, 1] [] s1 R → zA xm_c167 21 [344, 1] [] s R := fun R z => zb_167_21 (fun q => absurd q (by decide)) (fun _ => zb_167_23 a1 (zb_167_25 (fun q => absurd q e59) (fun _ => z)))
      have nk : ¬ zg_kind (z 345) T p = 59 := fun z => e59 (k59.1.mp z)
      by_cases em : zg_c (z 345) T p = -1
      · refine ⟨0, a, zu s2 344 1 0, ?_, zz_good b2 hb hk hz.1 hn12, ze_stop (by rw [hst, if_neg nk, if_pos (km.1.mpr em)])⟩
        rw [if_pos rfl]
        exact pre _ (zb_167_37 (fun q => absurd q (by decide)) (fun _ => zb_167_39 b1 (zb_167_41 (fun _ => zb_167_49 (fun _ => zb_167_55 rfl) (fun q => absurd (by rw [zu_place (by decide)]; exact b2.1.2.1) q)) (fun q => absurd em q))))
      · obtain ⟨s3, f1, f2⟩ := zz_fails b2 (c := 0) (at_ := p) (by omega) (by omega) (by omega) (by omega)
        refine ⟨1 + 8 * p + 0, a, zu s3 344 1 0, ?_, zFw_bad (zRdx_of hb f2), ze_stop (by rw [hst, if_neg nk, if_neg (fun z => em (km.1.mp z))]; rfl)⟩
        rw [if_neg f2.2.1]
        exact pre _ (zb_167_37 (fun q => absurd q (by decide)) (fun _ => zb_167_39 b1 (zb_167_41 (fun q => absurd q em) (fun _ => zb_167_43 (by rw [b2.1.1]; exact f1) (zb_167_48 (fun q => absurd (by rw [zu_place (by decide)] at q; exact f2.1.symm.trans q) f2.2.1) (fun _ => zb_167_57 rfl))))))
  intro k
  induction k with
  | zero =>
    intro N n a s0 s hb hk hz h hk12 hN hN4 hm hm6 hL hn12
    exact one N n a s0 s hb hk hz h hN hN4 hm hm6 hL hn12 (fun N' a' s1 s' hlt _ _ _ _ _ _ _ _ _ => by omega)
  | succ k ih =>
    intro N n a s0 s hb hk hz h hk12 hN hN4 hm hm6 hL hn12
    exact one N n a s0 s hb hk hz h hN hN4 hm hm6 hL hn12 (fun N' a' s1 s' hlt g1 g2 g3 g4 g5 g6 g7 g8 g9 => ih N' (n + 1) a' s1 s' g1 g2 g3 g4 (by omega) g5 g6 g7 g8 g9 (by omega))
/-- the reference's reading of a rule -/
theorem zz_all (hc : zCy z T) (ht0 : 0 ≤ z 344 11) (ht : z 344 11 ≤ 5) (h9 : z 349 (z 344 11) = 0) : ∃ f w s', zE xm_c167 [344, 0] z (if f = 0 then 1 else 0) s' ∧ zFw z (z 344 11) f w s' ∧ ze_end (z 345) T (0, 0, zg_sk (z 345) T 0, zW0, 0, []) (f, w) := by
  generalize htt : z 344 11 = t at ht0 ht h9
  have h0 : zMw z t 0 zW0.1 (zW0.2.1, none) ((0 : Nat) : Int) (zu (zu (zu (zu (zu z (344 + 3) t 0) 344 14 0) 344 8 0) 344 9 0) 344 12 0) := by
    refine ⟨⟨?_, ?_, ?_, zu_hit, ?_⟩, ⟨⟨?_, fun i hi => absurd hi (Nat.not_lt_zero i)⟩, trivial⟩, zKe_u (zKe_u (zKe_u (zKe_u (zKe_u (fun _ _ _ _ _ _ => rfl) (by omega)) (by omega)) (by omega)) (by omega)) (by omega)⟩
    · rw [zu_place (by decide), zu_place (by decide), zu_hit]
    · rw [zu_place (by decide), zu_hit]
    · rw [zu_place (by decide), zu_place (by decide), zu_place (by decide), zu_place (by decide), zu_cell (by decide)]
      exact htt
    · rw [zu_place (by decide), zu_place (by decide), zu_place (by decide), zu_hit]
      rfl
    · rw [zu_cell (by decide), zu_cell (by decide), zu_cell (by decide), zu_cell (by decide)]
      exact zu_hit
  have hT := hc.2.2.1
  have hb : zBf z t z := fun _ _ _ _ => rfl
  have hk : zMk t zW0.2.2.2.2 z := ⟨h9, fun i hi => absurd hi (Nat.not_lt_zero _)⟩
  have bad : ∀ (s : zS) (f : Int), zRdx z t f s → zA xm_c167 21 [344, 0] [] s (0, zu s 344 1 0) := fun s f h => zb_167_21 (fun _ => zb_167_37 (fun _ => zb_167_49 (fun q => absurd (by rw [zu_place (by decide)] at q; exact h.1.symm.trans q) h.2.1) (fun _ => zb_167_57 rfl)) (fun q => absurd rfl q)) (fun q => absurd rfl q)
  have hrun : ∀ (r : Int) (s' : zS) (R : Int × zS), zE xm_c166 [344, 0, 0] (zu (zu (zu (zu (zu z (344 + 3) t 0) 344 14 0) 344 8 0) 344 9 0) 344 12 0) r s' → zA xm_c167 21 [344, r] [] s' R → zE xm_c167 [344, 0] z R.1 R.2 := fun r s' R q1 q2 => zb_167_0 (r := r) (s1 := s') (by rw [htt]; exact q1) (zb_167_20 q2)
  rcases (zz_clause (n := 0) hc ht0 ht hb hk ⟨rfl, rfl, rfl, rfl⟩ (by omega) h0 (Int.le_refl _) hT (Int.le_refl _) (by decide) (Int.le_refl _)).1 with ⟨N', w, s3, s', d1, d2, ⟨d31, d32⟩, ⟨d41, d42, d43, d44, d45⟩, d5, d6⟩ | ⟨f, s', d1, d2, w, d3⟩
  · obtain ⟨f, w', s'', g1, g2, g3⟩ := zz_allloop hc ht0 ht 12 N' 1 w s3 s' d31 d32 d5 d2 (by omega) (by omega) d42 d43 d44 d45 (by omega)
    exact ⟨f, w', s'', hrun 1 s' _ d1 g1, g2, ze_tend d6 g3⟩
  · refine ⟨f, w, _, hrun 0 s' ((if f = 0 then 1 else 0), zu s' 344 1 0) d1 ?_, zFw_bad d2, d3⟩
    rw [if_neg d2.2.1]
    exact bad s' f d2
/-- the reference's rule -/
theorem zz_rule {s : zS} (hb : zg_by (s 345)) (hT0 : 0 ≤ s 344 1) (hT4 : s 344 1 ≤ 400) (hc0 : 0 ≤ s 344 2) (hc6 : s 344 2 < 6) : ∃ f w s1, zE xm_c168 [344] s (zrq (s 344 2) f) s1 ∧ ze_end (s 345) (s 344 1) (0, 0, zg_sk (s 345) (s 344 1) 0, zW0, 0, []) (f, w) ∧ s1 344 1 = 0 ∧ s1 344 2 = (if f = 0 then s 344 2 + 1 else s 344 2) ∧ (f = 0 → zCr (s 344 2) w.2.1 s1 ∧ zMk (s 344 2) w.2.2.2.2 s1 ∧ w.2.2.2.2.length % 2 = 0 ∧ w.2.2.2.2.length ≤ 24) ∧ ∀ x y, ¬ (x = 344 ∧ (y = 1 ∨ y = 2)) → ¬ (x = 344 ∧ 8 ≤ y ∧ y ≤ 16) → ¬ (x = 346 ∧ 400 * s 344 2 ≤ y ∧ y < 400 * s 344 2 + 400) → ¬ (x = 347 ∧ y = s 344 2) → ¬ (x = 348 ∧ 48 * s 344 2 ≤ y ∧ y < 48 * s 344 2 + 48) → ¬ (x = 349 ∧ y = s 344 2) → x ≠ 351 → s1 x y = s x y := by
  have h6 : ¬ s 344 2 = 6 := by omega
  have e11 : (zu s 344 11 (s 344 2)) 344 11 = s 344 2 := zu_hit
  generalize hS : zu (zu s 344 11 (s 344 2)) 349 (s 344 2) 0 = S
  have h345 : S 345 = s 345 := by
    subst hS
    funext b
    rw [zu_cell (by decide), zu_cell (by decide)]
  have S11 : S 344 11 = s 344 2 := by
    subst hS
    rw [zu_cell (by decide), zu_hit]
  have hq : ∀ b, b ≠ 11 → S 344 b = s 344 b := fun b hb => by
    subst hS
    rw [zu_cell (by decide), zu_place hb]
  have hcS : zCy S (s 344 1) := ⟨by rw [h345]; exact hb, hq 1 (by decide), hT0, hT4⟩
  obtain ⟨f, w, s', e1, ⟨e2, e3, e4, e5⟩, e6⟩ := zz_all hcS (by rw [S11]; exact hc0) (by rw [S11]; omega) (by rw [S11]; subst hS; exact zu_hit)
  rw [S11] at e4 e5
  rw [h345] at e6
  have k2 : s' 344 2 = s 344 2 := (e5 344 2 (by omega) (by omega) (by omega) (by omega) (by omega) (by omega) (by decide)).trans (hq 2 (by decide))
  have hfr : ∀ x y, ¬ (x = 344 ∧ (y = 1 ∨ y = 2)) → ¬ (x = 344 ∧ 8 ≤ y ∧ y ≤ 16) → ¬ (x = 346 ∧ 400 * s 344 2 ≤ y ∧ y < 400 * s 344 2 + 400) → ¬ (x = 347 ∧ y = s 344 2) → ¬ (x = 348 ∧ 48 * s 344 2 ≤ y ∧ y < 48 * s 344 2 + 48) → ¬ (x = 349 ∧ y = s 344 2) → x ≠ 351 → s' x y = s x y := fun x y a b c d e g i => by
    rw [e5 x y (by omega) b c d e g i]
    subst hS
    unfold zu
    rw [if_neg g, if_neg (by omega)]
  have hrun : ∀ (r : Int) (R : Int × zS), zE xm_c167 [344, 0] S r s' → zA xm_c168 18 [344] [(false, r)] s' R → zE xm_c168 [344] s R.1 R.2 := fun r R q1 q2 => zb_168_0 (fun q => absurd q h6) (fun _ => zb_168_6 (r := r) (s1 := s') (by
    show zE xm_c167 [344, 0] (zu (zu s 344 11 (s 344 2)) 349 ((zu s 344 11 (s 344 2)) 344 11) 0) r s'
    rw [e11, hS]
    exact q1) q2)
  by_cases hf : f = 0
  · rw [if_pos hf] at e1
    have r1 : zw (zu s' 344 2 (zw (s' 344 2 + 1)) 344 2 - 1) = zrq (s 344 2) f := by
      rw [zu_hit, k2]
      unfold zrq
      rw [if_pos hf, zw_id (x := s 344 2 + 1) (by omega) (by omega), zw_id (by omega) (by omega)]
      omega
    refine ⟨f, w, zu s' 344 2 (s 344 2 + 1), hrun 1 (zrq (s 344 2) f, zu s' 344 2 (s 344 2 + 1)) e1 (zb_168_18 (fun q => absurd q (by decide)) (fun _ => zb_168_24 ?_)), e6, ?_, ?_, fun _ => ?_, fun x y a b c d e g i => ?_⟩
    · rw [r1, k2, zw_id (by omega) (by omega)]
    · rw [zu_place (by decide)]
      exact e3
    · rw [zu_hit, if_pos hf]
    · obtain ⟨g1, g2, g3⟩ := e4 hf
      exact ⟨zCr_u g1 (by decide) (by decide), zMk_u g2 (by decide) (by decide), g3⟩
    · unfold zu
      rw [if_neg (by omega)]
      exact hfr x y a b c d e g i
  · rw [if_neg hf] at e1
    refine ⟨f, w, s', hrun 0 (zrq (s 344 2) f, s') e1 (zb_168_18 (fun _ => zb_168_19 ?_) (fun q => absurd rfl q)), e6, e3, by rw [k2, if_neg hf], fun q => absurd q hf, hfr⟩
    rw [e2]
    unfold zrq
    rw [if_neg hf]
end XI
