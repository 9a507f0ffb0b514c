/-! the reference's reading: isInside, opens, fact, closes, tested -/
section RG
variable {s0 s : zS} {t T N m ln : Int} {O : List Int}
theorem zop_at : ∀ {O : List Int} {s : zS}, zop O s → ((91 ∈ O) ↔ ∃ i : Nat, i < O.length ∧ s 351 ((i : Nat) : Int) = 91)
  | [], s, _ => ⟨fun h => (by cases h), fun ⟨i, h, _⟩ => absurd h (Nat.not_lt_zero i)⟩
  | c :: O, s, h => by
    have ih := zop_at h.2
    constructor
    · intro z
      rcases List.mem_cons.mp z with z | z
      · exact ⟨O.length, by rw [List.length_cons]; omega, by rw [h.1, z]⟩
      · obtain ⟨i, h1, h2⟩ := ih.mp z
        exact ⟨i, by rw [List.length_cons]; omega, h2⟩
    · rintro ⟨i, h1, h2⟩
      rw [List.length_cons] at h1
      by_cases e : i = O.length
      · subst e
        rw [h.1] at h2
        rw [h2]
        exact List.mem_cons_self
      · exact List.mem_cons_of_mem _ (ih.mpr ⟨i, by omega, h2⟩)
theorem zr_inside (h : zRs s0 t N m (some O) ln s) (hl : O.length ≤ 1000) : zE xm_c150 [344, 0] s (if 91 ∈ O then 1 else 0) s := by
  have e16 := h.2.1.2.1
  have hat := zop_at h.2.1.2.2
  have key : ∀ (n k : Nat), O.length - k ≤ n → k ≤ O.length → (∀ i : Nat, i < k → s 351 ((i : Nat) : Int) ≠ 91) → zA xm_c150 2 [344, ((k : Nat) : Int)] [] s ((if 91 ∈ O then 1 else 0), s) := by
    intro n
    induction n with
    | zero =>
      intro k hn hk hi
      refine zb_150_2 (fun q => by rw [e16] at q; omega) (fun _ => zb_150_16 ?_)
      rw [if_neg (fun z => ?_)]
      obtain ⟨i, h1, h2⟩ := hat.mp z
      exact hi i (by omega) h2
    | succ n ih =>
      intro k hn hk hi
      refine zb_150_2 (fun q => zb_150_6 (fun q2 => zb_150_12 ?_) (fun q2 => zb_150_14 ?_)) (fun q => zb_150_16 ?_)
      · rw [e16] at q
        rw [if_pos (hat.mpr ⟨k, by omega, q2⟩)]
      · rw [e16] at q
        rw [zw_id (by omega) (by omega), show ((k : Nat) : Int) + 1 = ((k + 1 : Nat) : Int) by omega]
        refine ih (k + 1) (by omega) (by omega) (fun i h1 => ?_)
        by_cases e : i = k
        · subst e
          exact q2
        · exact hi i (by omega)
      · rw [e16] at q
        rw [if_neg (fun z => ?_)]
        obtain ⟨i, h1, h2⟩ := hat.mp z
        exact hi i (by omega) h2
  exact zb_150_0 (key _ 0 (Nat.le_refl _) (Nat.zero_le _) (fun i h1 => absurd h1 (Nat.not_lt_zero i)))
theorem zab_len : ∀ L : List Int, (zab L).length ≤ L.length
  | [] => Nat.le_refl _
  | d :: L => by
    have ih2 := zab_len L
    show (if d = 91 then true :: zab L else if d = 11 then false :: zab L else zab L).length ≤ L.length + 1
    by_cases f1 : d = 91
    · rw [if_pos f1]; exact Nat.succ_le_succ ih2
    · rw [if_neg f1]
      by_cases f2 : d = 11
      · rw [if_pos f2]; exact Nat.succ_le_succ ih2
      · rw [if_neg f2]; exact Nat.le_succ_of_le ih2
/-- one more is pushed -/
theorem zop_push {s : zS} {v : Int} : ∀ {O : List Int}, zop O s → ∀ (n : Nat), O.length ≤ n → zop O (zu s 351 ((n : Nat) : Int) v)
  | [], _, _, _ => trivial
  | c :: O, h, n, hn => by
    rw [List.length_cons] at hn
    exact ⟨by rw [zu_place (by omega)]; exact h.1, zop_push h.2 n (by omega)⟩
theorem zr_opens (h : zRs s0 t N m (some O) ln s) (hl : O.length ≤ 1000) (hN : 0 ≤ N) (hN4 : N ≤ 400) {c : Int} (hcc : c = 91 ∨ c = 11) (hd10 : (zab O).length ≤ 10) : ((zab O).length = 10 ∧ ∃ s', zE xm_c142 [344, c] s 0 s' ∧ zRd s0 (1 + 8 * N + 2) s') ∨ ((zab O).length < 10 ∧ ∃ s', zE xm_c142 [344, c] s 1 s' ∧ zRs s0 t N m (some (c :: O)) ln s') := by
  have e13 : s 344 13 = (((zab O).length : Nat) : Int) := by rw [h.2.1.1, zdp_ab]
  have e16 := h.2.1.2.1
  have e8 := h.1.1
  by_cases e : (zab O).length = 10
  · obtain ⟨s', f1, f2⟩ := zr_fails h (c := 2) (at_ := N) (by omega) (by omega) (by omega) (by omega)
    exact Or.inl ⟨e, s', zb_142_0 (fun _ => zb_142_4 (by rw [e8]; exact f1) (zb_142_9 rfl)) (fun q => absurd (by rw [e13, e]; rfl) q), f2⟩
  · refine Or.inr ⟨by omega, _, zb_142_0 (fun q => absurd q (by rw [e13]; omega)) (fun _ => zb_142_10 rfl), ?_⟩
    have a1 : zw (s 344 13 + 1) = zdp (c :: O) := by
      rw [e13, zw_id (by omega) (by omega)]
      show _ = (if c = 91 ∨ c = 11 then 1 else 0) + zdp O
      rw [if_pos hcc, zdp_ab]
      omega
    have a2 : (zu s 344 13 (zw (s 344 13 + 1))) 344 16 = ((O.length : Nat) : Int) := by rw [zu_place (by decide)]; exact e16
    rw [a2, show (344 : Int) + 7 = 351 from rfl]
    have a3 : (zu (zu s 344 13 (zw (s 344 13 + 1))) 351 ((O.length : Nat) : Int) c) 344 16 = ((O.length : Nat) : Int) := by rw [zu_cell (by decide)]; exact a2
    rw [a3, a1, zw_id (x := ((O.length : Nat) : Int) + 1) (by omega) (by omega)]
    have e : ∀ b, b ≠ 13 → b ≠ 16 → (zu (zu (zu s 344 13 (zdp (c :: O))) 351 ((O.length : Nat) : Int) c) 344 16 (((O.length : Nat) : Int) + 1)) 344 b = s 344 b := fun b h1 h2 => by rw [zu_place h2, zu_cell (by decide), zu_place h1]
    refine ⟨by rw [e 8 (by decide) (by decide), e 9 (by decide) (by decide), e 11 (by decide) (by decide), e 12 (by decide) (by decide), e 14 (by decide) (by decide)]; exact h.1, ⟨?_, ?_, ?_⟩, zK_u (zK_u (zK_u h.2.2 (by omega)) (by omega)) (by omega)⟩
    · rw [zu_place (by decide), zu_cell (by decide), zu_hit]
    · rw [zu_hit]
      rfl
    · refine ⟨?_, ?_⟩
      · rw [zu_cell (by decide), zu_hit]
      · exact zop_u (by decide) (zop_push (zop_u (by decide) h.2.1.2.2) O.length (Nat.le_refl _))
/-- with success behind C and something open, or with the fault -/
def zOX (s0 : zS) (t T : Int) (A C : List Bool → Int → Int → zQ) (N m : Int) (O : List Int) (ln : Int) (X : List Int → Int → Prop) (E : Int → zS → Prop) : Prop := (∃ N' m' O' s', E 1 s' ∧ zRs s0 t N' m' (some O') ln s' ∧ (N ≤ N' ∧ N' ≤ T ∧ 0 ≤ m' ∧ m' ≤ 60) ∧ (zwf O' ∧ ((O'.length : Nat) : Int) ≤ N' ∧ (zab O').length ≤ 10) ∧ zg_to (s0 345) T (A (zab O) (zg_sk (s0 345) T N) m) (C (zab O') (zg_sk (s0 345) T N') m') ∧ X O' (zg_sk (s0 345) T N')) ∨ (∃ f s', E 0 s' ∧ zRd s0 f s' ∧ zg_end (s0 345) T (A (zab O) (zg_sk (s0 345) T N) m) f)
theorem zOX_map {A A1 C : List Bool → Int → Int → zQ} {N' m' : Int} {O1 : List Int} {X : List Int → Int → Prop} {E E1 : Int → zS → Prop} (h : zOX s0 t T A1 C N' m' O1 ln X E1) (hN : N ≤ N') (ha : zg_to (s0 345) T (A (zab O) (zg_sk (s0 345) T N) m) (A1 (zab O1) (zg_sk (s0 345) T N') m')) (hE : ∀ r s', E1 r s' → E r s') : zOX s0 t T A C N m O ln X E := by
  rcases h with ⟨N2, m2, O2, s2, b1, b2, b3, b4, b5, b6⟩ | ⟨f, s2, b1, b2, b3⟩
  · exact Or.inl ⟨N2, m2, O2, s2, hE _ _ b1, b2, ⟨by omega, b3.2⟩, b4, zg_trans ha b5, b6⟩
  · exact Or.inr ⟨f, s2, hE _ _ b1, b2, zg_tend ha b3⟩
theorem zr_fact (hc : zCy s0 T) (l : Int) : ∀ (n : Nat) (N m : Int) (O : List Int) (s : zS) (x2 : Int), zRs s0 t N m (some O) ln s → (T - N).toNat ≤ n → 0 ≤ N → N ≤ T → 0 ≤ m → m ≤ 60 → zwf O → ((O.length : Nat) : Int) ≤ N → (zab O).length ≤ 10 → zOX s0 t T (fun st p a => (4, 0, p, a, l, st)) (fun st p a => (5, 0, p, a, l, st)) N m O ln (fun _ _ => True) (fun r s' => zA xm_c149 2 [344, 1, x2] [] s (r, s')) := by
  have h4 := hc.2.2.2
  have one : ∀ (N m : Int) (O : List Int) (s : zS) (x2 : Int), zRs s0 t N m (some O) ln s → 0 ≤ N → N ≤ T → 0 ≤ m → m ≤ 60 → zwf O → ((O.length : Nat) : Int) ≤ N → (zab O).length ≤ 10 → (∀ (N' : Int) (O' : List Int) (s' : zS) (x' : Int), zRs s0 t N' m (some O') ln s' → N < N' → N' ≤ T → zwf O' → ((O'.length : Nat) : Int) ≤ N' → (zab O').length ≤ 10 → zOX s0 t T (fun st p a => (4, 0, p, a, l, st)) (fun st p a => (5, 0, p, a, l, st)) N' m O' ln (fun _ _ => True) (fun r s'' => zA xm_c149 2 [344, 1, x'] [] s' (r, s''))) → zOX s0 t T (fun st p a => (4, 0, p, a, l, st)) (fun st p a => (5, 0, p, a, l, st)) N m O ln (fun _ _ => True) (fun r s' => zA xm_c149 2 [344, 1, x2] [] s (r, s')) := by
    intro N m O s x2 h hN hN4 hm hm6 hw hOl hd ih
    have rl : N ≤ zg_sk (s0 345) T N ∧ (zg_sk (s0 345) T N ≤ T ∨ zg_sk (s0 345) T N = N) := zg_run_le
    obtain ⟨s1, u1, v1⟩ := zr_see hc _ (Nat.le_refl _) hN h
    obtain ⟨s2, w1, w2⟩ := zr_isword hc v1 (by omega) (by omega) yw_not (w := 7237492) (by decide) (by decide) (by decide) (by decide)
    rw [zg_sk_sk] at w1 w2
    generalize hpq : zg_sk (s0 345) T N = p at rl u1 v1 w1 w2
    have hpp : zg_sk (s0 345) T p = p := by rw [← hpq, zg_sk_sk]
    have hst : zg_st (s0 345) T (4, 0, p, m, l, zab O) = if zg_is (s0 345) T p yw_not then (if (zab O).length = 10 then zg_fl 2 p else .inl (4, 0, zg_nx (s0 345) T p, m, l, false :: zab O)) else if zg_kind (s0 345) T p = 91 then (if (zab O).length = 10 then zg_fl 2 p else .inl (4, 0, zg_nx (s0 345) T p, m, l, true :: zab O)) else .inl (1, 1, p, m, l, zab O) := rfl
    have hk := zg_kl (b := s0 345) (T := T) (p := p) hc.1 hc.2.2.2 (by omega)
    have hte := zg_te_le (b := s0 345) (T := T) (p := p) hc.1 hc.2.2.2 (by omega)
    have k91 := zg_kc (b := s0 345) (T := T) (p := p) (v := 91) (by omega) (by omega) (by omega)
    by_cases enot : zg_is (s0 345) T p yw_not
    · rw [if_pos enot] at w1
      rcases zr_opens w2 (by omega) (by omega) (by omega) (c := 11) (Or.inr rfl) hd with ⟨o1, s3, o2, o3⟩ | ⟨o1, s3, o2, o3⟩
      · refine Or.inr ⟨_, s3, zb_149_2 (fun q => absurd q (by decide)) (fun _ => zb_149_4 u1 (zb_149_8 w1 (zb_149_12 (fun q => absurd q (by decide)) (fun _ => zb_149_13 o2 (zb_149_16 (fun _ => zb_149_17 rfl) (fun q => absurd rfl q)))))), o3, zg_stop ?_⟩
        rw [hpq, hst, if_pos enot, if_pos o1]
        rfl
      · obtain ⟨s4, p1, p2⟩ := zr_pass hc _ (Nat.le_refl _) (by omega) o3
        rw [← hk.2.1 enot.1] at p2
        have hlt : p < zg_te (s0 345) T p := hte.2.2 (by rw [enot.1]; decide)
        refine zOX_map (ih _ _ s4 (zg_c (s0 345) T p) p2 (by omega) (by omega) ⟨Or.inr (Or.inl rfl), fun _ => Or.inl rfl, hw⟩ (by rw [List.length_cons]; omega) (by show (false :: zab O).length ≤ 10; rw [List.length_cons]; omega)) (by omega) ?_ (fun r s' z => zb_149_2 (fun q => absurd q (by decide)) (fun _ => zb_149_4 u1 (zb_149_8 w1 (zb_149_12 (fun q => absurd q (by decide)) (fun _ => zb_149_13 o2 (zb_149_16 (fun q => absurd q (by decide)) (fun _ => zb_149_19 p1 (zb_149_21 z))))))))
        rw [hpq]
        refine zg_one ?_
        rw [hst, if_pos enot, if_neg (by omega)]
        rfl
    · rw [if_neg enot] at w1
      by_cases e91 : zg_c (s0 345) T p = 91
      · have e := (zg_cv (v := 91) hc.1 hc.2.2.2 (by omega) (by omega) (by omega)).mp e91
        have hkk := k91.1.mpr e91
        have ht := k91.2 e91
        rw [if_pos e.1] at ht
        rcases zr_opens w2 (by omega) (by omega) (by omega) (c := 91) (Or.inl rfl) hd with ⟨o1, s3, o2, o3⟩ | ⟨o1, s3, o2, o3⟩
        · refine Or.inr ⟨_, s3, zb_149_2 (fun q => absurd q (by decide)) (fun _ => zb_149_4 u1 (zb_149_8 w1 (zb_149_12 (fun _ => zb_149_24 (fun _ => zb_149_27 o2 (zb_149_30 (fun _ => zb_149_31 rfl) (fun q => absurd rfl q))) (fun q => absurd e91 q)) (fun q => absurd rfl q)))), o3, zg_stop ?_⟩
          rw [hpq, hst, if_neg enot, if_pos hkk, if_pos o1]
          rfl
        · have h3 := o3.setN (N' := p + 1)
          refine zOX_map (ih (p + 1) _ _ (zg_c (s0 345) T p) h3 (by omega) (by omega) ⟨Or.inl rfl, fun _ => Or.inr rfl, hw⟩ (by rw [List.length_cons]; omega) (by show (true :: zab O).length ≤ 10; rw [List.length_cons]; omega)) (by omega) ?_ (fun r s' z => zb_149_2 (fun q => absurd q (by decide)) (fun _ => zb_149_4 u1 (zb_149_8 w1 (zb_149_12 (fun _ => zb_149_24 (fun _ => zb_149_27 o2 (zb_149_30 (fun q => absurd q (by decide)) (fun _ => zb_149_33 (by rw [o3.1.1, zw_id (by omega) (by omega)]; exact z)))) (fun q => absurd e91 q)) (fun q => absurd rfl q)))))
          rw [hpq]
          refine zg_one ?_
          rw [hst, if_neg enot, if_pos hkk, if_neg (by omega)]
          unfold zg_nx
          rw [ht]
          rfl
      · have hkn : ¬ zg_kind (s0 345) T p = 91 := fun z => e91 (k91.1.mp z)
        rcases zr_compare hc l (zab O) w2 (by omega) (by omega) hm hm6 with ⟨N', m', s3, c1, c2, c3, c4, -⟩ | ⟨f, s3, c1, c2, c3⟩
        · refine Or.inl ⟨N', m', O, s3, zb_149_2 (fun q => absurd q (by decide)) (fun _ => zb_149_4 u1 (zb_149_8 w1 (zb_149_12 (fun _ => zb_149_24 (fun q => absurd q e91) (fun _ => zb_149_41 (zb_149_2 (fun _ => zb_149_42 c1 (zb_149_44 rfl)) (fun q => absurd rfl q)))) (fun q => absurd rfl q)))), c2, by omega, ⟨hw, by omega, hd⟩, ?_, trivial⟩
          rw [hpq]
          rw [hpp] at c4
          refine zg_trans (zg_one ?_) c4
          rw [hst, if_neg enot, if_neg hkn]
        · refine Or.inr ⟨f, s3, zb_149_2 (fun q => absurd q (by decide)) (fun _ => zb_149_4 u1 (zb_149_8 w1 (zb_149_12 (fun _ => zb_149_24 (fun q => absurd q e91) (fun _ => zb_149_41 (zb_149_2 (fun _ => zb_149_42 c1 (zb_149_44 rfl)) (fun q => absurd rfl q)))) (fun q => absurd rfl q)))), c2, ?_⟩
          rw [hpq]
          rw [hpp] at c3
          refine zg_tend (zg_one ?_) c3
          rw [hst, if_neg enot, if_neg hkn]
  intro n
  induction n with
  | zero =>
    intro N m O s x2 h hn hN hN4 hm hm6 hw hOl hd
    exact one N m O s x2 h hN hN4 hm hm6 hw hOl hd (fun N' O' s' x' h' g1 g2 _ _ _ => by omega)
  | succ n ih =>
    intro N m O s x2 h hn hN hN4 hm hm6 hw hOl hd
    exact one N m O s x2 h hN hN4 hm hm6 hw hOl hd (fun N' O' s' x' h' g1 g2 g3 g4 g5 => ih N' m O' s' x' h' (by omega) (by omega) g2 hm hm6 g3 g4 g5)
/-- closing brackets -/
theorem zr_closeloop (hc : zCy s0 T) (l : Int) : ∀ (n : Nat) (N m : Int) (O : List Int) (s : zS), zRs s0 t N m (some O) ln s → (T - N).toNat ≤ n → 0 ≤ N → N ≤ T → zwf O → O.head? ≠ some 11 → ((O.length : Nat) : Int) ≤ N → (zab O).length ≤ 10 → ∃ N' O' s', zA xm_c151 3 [344] [] s (0, s') ∧ zRs s0 t N' m (some O') ln s' ∧ (N ≤ N' ∧ N' ≤ T) ∧ (zwf O' ∧ O'.head? ≠ some 11 ∧ ((O'.length : Nat) : Int) ≤ N' ∧ (zab O').length ≤ 10) ∧ zg_to (s0 345) T (5, 0, zg_sk (s0 345) T N, m, l, zab O) (5, 0, zg_sk (s0 345) T N', m, l, zab O') ∧ ¬ (zg_kind (s0 345) T (zg_sk (s0 345) T N') = 93 ∧ ∃ r, zab O' = true :: r) := by
  have h4 := hc.2.2.2
  have one : ∀ (N m : Int) (O : List Int) (s : zS), zRs s0 t N m (some O) ln s → 0 ≤ N → N ≤ T → zwf O → O.head? ≠ some 11 → ((O.length : Nat) : Int) ≤ N → (zab O).length ≤ 10 → (∀ (N' : Int) (O' : List Int) (s' : zS), zRs s0 t N' m (some O') ln s' → N < N' → N' ≤ T → zwf O' → O'.head? ≠ some 11 → ((O'.length : Nat) : Int) ≤ N' → (zab O').length ≤ 10 → ∃ N'' O'' s'', zA xm_c151 3 [344] [] s' (0, s'') ∧ zRs s0 t N'' m (some O'') ln s'' ∧ (N' ≤ N'' ∧ N'' ≤ T) ∧ (zwf O'' ∧ O''.head? ≠ some 11 ∧ ((O''.length : Nat) : Int) ≤ N'' ∧ (zab O'').length ≤ 10) ∧ zg_to (s0 345) T (5, 0, zg_sk (s0 345) T N', m, l, zab O') (5, 0, zg_sk (s0 345) T N'', m, l, zab O'') ∧ ¬ (zg_kind (s0 345) T (zg_sk (s0 345) T N'') = 93 ∧ ∃ r, zab O'' = true :: r)) → ∃ N' O' s', zA xm_c151 3 [344] [] s (0, s') ∧ zRs s0 t N' m (some O') ln s' ∧ (N ≤ N' ∧ N' ≤ T) ∧ (zwf O' ∧ O'.head? ≠ some 11 ∧ ((O'.length : Nat) : Int) ≤ N' ∧ (zab O').length ≤ 10) ∧ zg_to (s0 345) T (5, 0, zg_sk (s0 345) T N, m, l, zab O) (5, 0, zg_sk (s0 345) T N', m, l, zab O') ∧ ¬ (zg_kind (s0 345) T (zg_sk (s0 345) T N') = 93 ∧ ∃ r, zab O' = true :: r) := by
    intro N m O s h hN hN4 hw hh hOl hd ih
    have rl : N ≤ zg_sk (s0 345) T N ∧ (zg_sk (s0 345) T N ≤ T ∨ zg_sk (s0 345) T N = N) := zg_run_le
    obtain ⟨s1, u1, v1⟩ := zr_see hc _ (Nat.le_refl _) hN h
    generalize hpq : zg_sk (s0 345) T N = p at rl u1 v1
    have hpp : zg_sk (s0 345) T p = p := by rw [← hpq, zg_sk_sk]
    have k93 := zg_kc (b := s0 345) (T := T) (p := p) (v := 93) (by omega) (by omega) (by omega)
    have hin := zr_inside v1 (by omega)
    have hab := zab_in hh hw
    by_cases e93 : zg_c (s0 345) T p = 93
    · by_cases e91 : 91 ∈ O
      · rw [if_pos e91] at hin
        have e := (zg_cv (v := 93) hc.1 hc.2.2.2 (by omega) (by omega) (by omega)).mp e93
        have hkk := k93.1.mpr e93
        have ht := k93.2 e93
        rw [if_pos e.1] at ht
        obtain ⟨r, hr⟩ := hab.1.mp e91
        obtain ⟨s2, q1, q2⟩ := zr_settles (least := 1) (by omega) hw (by omega) v1
        obtain ⟨p1, p2⟩ := zpp_ab (least := 1) (by omega) hw hh
        have pw := zpp_wf (least := 1) hw
        have pl := zpp_le (least := 1) (O := O)
        -- the bracket stands on top
        match hO : zpp 1 O, p1, p2, pw, pl, q2, (fun c => zpp_head (least := 1) (O := O) (c := c)) with
        | [], p1, p2, pw, pl, q2, ph => rw [hr] at p1; cases p1
        | c :: O2, p1, p2, pw, pl, q2, ph =>
          have c0 : zsr_ c < 1 := ph c rfl
          have c91 : c = 91 := by
            rcases pw.1 with z | z | z | z
            · exact z
            · subst z; exact absurd rfl p2
            · subst z; exact absurd c0 (by decide)
            · subst z; exact absurd c0 (by decide)
          subst c91
          have er : zab O2 = r := by
            rw [hr] at p1
            exact (List.cons.inj p1).2
          have hlen : (91 :: O2).length = O2.length + 1 := rfl
          obtain ⟨t1, t2⟩ := q2.pop
          have e16 : s2 344 16 = ((O2.length : Nat) : Int) + 1 := by omega
          have e13 : s2 344 13 = 1 + zdp O2 := q2.2.1.1
          have hdb := zdp_ab O2
          have hdl := zab_len O2
          have hset : zRs s0 t (p + 1) m (some O2) ln (zu (zu (zu s2 344 16 (zw (s2 344 16 - 1))) 344 13 (zw ((zu s2 344 16 (zw (s2 344 16 - 1))) 344 13 - 1))) 344 8 (zw ((zu (zu s2 344 16 (zw (s2 344 16 - 1))) 344 13 (zw ((zu s2 344 16 (zw (s2 344 16 - 1))) 344 13 - 1))) 344 8 + 1))) := by
            have b1 : zw (s2 344 16 - 1) = ((O2.length : Nat) : Int) := by rw [e16, zw_id (by omega) (by omega)]; omega
            rw [b1]
            have b2 : (zu s2 344 16 ((O2.length : Nat) : Int)) 344 13 = 1 + zdp O2 := by rw [zu_place (by decide)]; exact e13
            rw [b2]
            have b3 : zw (1 + zdp O2 - 1) = zdp O2 := by rw [zw_id (by omega) (by omega)]; omega
            rw [b3]
            have b4 : (zu (zu s2 344 16 ((O2.length : Nat) : Int)) 344 13 (zdp O2)) 344 8 = p := by rw [zu_place (by decide), zu_place (by decide)]; exact q2.1.1
            rw [b4, zw_id (by omega) (by omega)]
            exact (q2.sk rfl q2.2.1.2.2.2).setN
          obtain ⟨s3, r1, r2⟩ := zr_settles (least := 3) (by omega) pw.2.2 (by omega) hset
          have pw3 := zpp_wf (least := 3) pw.2.2
          have pl3 := zpp_le (least := 3) (O := O2)
          have ph3 : (zpp 3 O2).head? ≠ some 11 := fun z => absurd (zpp_head z) (by decide)
          have to3 := zpp_to (b := s0 345) (T := T) (p := zg_sk (s0 345) T (p + 1)) (a := m) (l := l) (least := 3) pw.2.2 (fun _ _ => rfl) (by omega)
          have hlab : (zab (zpp 3 O2)).length ≤ (zab O2).length := by
            have : ∀ L : List Int, (zab (zpp 3 L)).length ≤ (zab L).length := by
              intro L
              induction L with
              | nil => exact Nat.le_refl _
              | cons d L ih3 =>
                show (zab (if zsr_ d < 3 then d :: L else zpp 3 L)).length ≤ (if d = 91 then true :: zab L else if d = 11 then false :: zab L else zab L).length
                by_cases f : zsr_ d < 3
                · rw [if_pos f]
                  exact Nat.le_refl _
                · rw [if_neg f]
                  refine Nat.le_trans ih3 ?_
                  by_cases f1 : d = 91
                  · rw [if_pos f1]; exact Nat.le_succ _
                  · rw [if_neg f1]
                    by_cases f2 : d = 11
                    · rw [if_pos f2]; exact Nat.le_succ _
                    · rw [if_neg f2]; exact Nat.le_refl _
            exact this O2
          have hd2 : (zab O2).length ≤ 10 := by
            have : (zab O).length = (zab O2).length + 1 := by rw [hr, er, List.length_cons]
            omega
          obtain ⟨N', O', s', i1, i2, i3, i4, i5, i6⟩ := ih (p + 1) (zpp 3 O2) s3 r2 (by omega) (by omega) pw3 ph3 (by omega) (by omega)
          refine ⟨N', O', s', zb_151_3 u1 (zb_151_5 (fun _ => zb_151_7 hin (zb_151_9 (fun q => absurd q (by decide)) (fun _ => zb_151_10 q1 (zb_151_13 r1 (zb_151_34 i1))))) (fun q => absurd e93 q)), i2, by omega, i4, zg_trans (zg_one ?_) (zg_trans to3 i5), i6⟩
          show zg_st (s0 345) T (5, 0, p, m, l, zab O) = .inl (5, 0, zg_sk (s0 345) T (p + 1), m, l, zab O2)
          rw [hr, er]
          show (if zg_kind (s0 345) T p = 93 then _ else _) = _
          rw [if_pos hkk]
          unfold zg_nx
          rw [ht]
      · rw [if_neg e91] at hin
        refine ⟨p, O, s1, zb_151_3 u1 (zb_151_5 (fun _ => zb_151_7 hin (zb_151_9 (fun _ => zb_151_35 rfl) (fun q => absurd rfl q))) (fun q => absurd e93 q)), v1, by omega, ⟨hw, hh, by omega, hd⟩, ?_, fun z => e91 (hab.1.mpr z.2)⟩
        rw [hpp]
        exact zg_refl
    · refine ⟨p, O, s1, zb_151_3 u1 (zb_151_5 (fun q => absurd q e93) (fun _ => zb_151_35 rfl)), v1, by omega, ⟨hw, hh, by omega, hd⟩, ?_, fun z => e93 (k93.1.mp (by rw [← hpp]; exact z.1))⟩
      rw [hpp]
      exact zg_refl
  intro n
  induction n with
  | zero =>
    intro N m O s h hn hN hN4 hw hh hOl hd
    exact one N m O s h hN hN4 hw hh hOl hd (fun N' O' s' h' g1 g2 _ _ _ _ => by omega)
  | succ n ih =>
    intro N m O s h hn hN hN4 hw hh hOl hd
    exact one N m O s h hN hN4 hw hh hOl hd (fun N' O' s' h' g1 g2 g3 g4 g5 g6 => ih N' m O' s' h' (by omega) (by omega) g2 g3 g4 g5 g6)
end RG
