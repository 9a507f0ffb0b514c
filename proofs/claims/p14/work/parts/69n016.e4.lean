/-! readComparison, readFact, readTest, with the code -/
theorem ze_cmp {b : Int → Int} {T p l k : Int} {a : zW} {s : List Int} (h : zg_cm k) : ze_st b T (3, zco k, p, a, l, s) = .inl (5, 0, p, zep a ((zco k : Nat) : Int), l, s) := by
  rcases h with rfl | rfl | rfl | rfl | rfl <;> rfl
theorem zcp_co {k : Int} (h : zg_cm k) : zw (zw (0 * 16) + zcp k) = zcm ((zco k : Nat) : Int) := by
  rcases h with rfl | rfl | rfl | rfl | rfl <;> decide
theorem zdp_c {c : Int} {O : List Int} : zdp (c :: O) = (if c = 91 ∨ c = 11 then 1 else 0) + zdp O := rfl
theorem zdp_0 : ∀ O : List Int, 0 ≤ zdp O
  | [] => Int.le_refl _
  | c :: O => by
    have := zdp_0 O
    rw [zdp_c]
    by_cases e : c = 91 ∨ c = 11
    · rw [if_pos e]; omega
    · rw [if_neg e]; omega
section YF
variable {s0 : zS} {r T : Int}
theorem zy_emitd (hc : zCz s0 r T) {f op arg : Int} {s : zS} (h : zSe s0 r T (.inr f) s) : ∃ s', zE xm_c60 [r, op, arg] s 0 s' ∧ zSe s0 r T (.inr f) s' := by
  obtain ⟨c1, c2, c3, c4, c5, c6⟩ := hc
  by_cases e : s r 3 < zw (zlen (r + 1))
  · exact ⟨_, zb_60_0 (zb_60_4 (by omega) (zb_60_5 (fun _ => zb_60_6 rfl) (fun q => absurd e q))), (h.junk c5.1 (by omega) ⟨fun q => by omega, fun q => by omega⟩).junk c5.1 (by omega) ⟨fun q => by omega, fun _ q => absurd q (by decide)⟩⟩
  · exact ⟨_, zb_60_0 (zb_60_4 (by omega) (zb_60_5 (fun q => absurd q e) (fun _ => zb_60_22 rfl))), h⟩
theorem zYn_r {f : Int} : zYn (.inr f) := fun p a e => by cases e
theorem zYn_i {p : Int} {a : zW} (h : a.2.2.1 = 0 ∧ a.2.2.2.1 = 0) : zYn (.inl (p, a)) := fun p' a' e => by cases e; exact h
theorem zy_cpk {σ : zSi} {s : zS} (h : zSe s0 r T σ s) : zE xm_c70 [s (39 + (-31)) 2] s (zcp (zykd (s0 9) T σ)) s := by
  have := h.kd
  show zE xm_c70 [s 8 2] s _ s
  rw [this]
  exact zo_cp
theorem zy_compare (hc : zCz s0 r T) (l : Int) (st : List Int) {σ : zSi} {s : zS} (h : zSe s0 r T σ s) (hn : zYn σ) : ∃ σ' s', zE xm_c69 [39, 0] s 0 s' ∧ zSe s0 r T σ' s' ∧ zRe (s0 9) T (fun p a => (1, 1, p, a, l, st)) (fun p a => (5, 0, p, a, l, st)) σ σ' ∧ zYn σ' := by
  obtain ⟨σ1, s1, v1, v2, v3, v4⟩ := zy_sum hc 1 l st h hn
  have hr240 := hc.2.2.2.2.1.1
  -- behind the sign, with a fault
  have ond : ∀ (f : Int) (s2 : zS) (x1 : Int), zSe s0 r T (.inr f) s2 → ∃ s', zA xm_c69 32 [39, x1] [] s2 (0, s') ∧ zSe s0 r T (.inr f) s' := by
    intro f s2 x1 h2
    obtain ⟨σ3, s3, w1, w2, w3, -⟩ := zy_sum hc 2 l st h2 zYn_r
    have w3 : σ3 = .inr f := w3
    subst w3
    obtain ⟨s4, u1, u2⟩ := zy_emitd hc w2 (op := x1) (arg := 0)
    rw [← w2.rl] at u1
    exact ⟨s4, zb_69_32 w1 (zb_69_34 u1 (zb_69_39 rfl)), u2⟩
  have kcp := zy_cpk v2
  match σ1, v2, v3, v4, kcp with
  | .inr f, v2, v3, v4, kcp =>
    obtain ⟨f', s2, s3, q1, q2, -, q4, q5⟩ := zy_stop (s1 := s) hc v2 (c := 0) (by omega) (by omega)
    have q1 : (Sum.inr f : zSi) = .inr f' := q1
    cases q1
    obtain ⟨s', u1, u2⟩ := ond f s3 (-1) q5
    have kcp : zE xm_c70 [s1 (39 + (-31)) 2] s1 (-1) s1 := kcp
    exact ⟨.inr f, s', zb_69_0 v1 (zb_69_2 kcp (zb_69_6 (fun _ => zb_69_10 q2 (zb_69_14 q4 u1)) (fun q => absurd rfl q))), u2, zRe_tr v3 rfl, zYn_r⟩
  | .inl (p, a), v2, v3, v4, kcp =>
    have ham := v2.am
    have h0 := v2.1
    have hst : ze_st (s0 9) T (3, 1, p, a, l, st) = if zg_cm (zg_kind (s0 9) T p) then (if a.1 = 60 then zfe_ 3 p a else .inl (1, zco (zg_kind (s0 9) T p), zg_nx (s0 9) T p, ze1 a, l, st)) else zfe_ 0 p a := rfl
    have no : ∀ (c x1 : Int), 0 ≤ c → c ≤ 4 → ze_st (s0 9) T (3, 1, p, a, l, st) = zfe_ c p a → (∀ s2 s3 s', zE xm_c81 [8, c] s1 0 s2 → zE xm_c82 [8, 0, 0] (zu s2 39 2 (zw (s2 39 2 + 1))) 0 s3 → zA xm_c69 32 [39, x1] [] s3 (0, s') → zE xm_c69 [39, 0] s 0 s') → ∃ σ' s', zE xm_c69 [39, 0] s 0 s' ∧ zSe s0 r T σ' s' ∧ zRe (s0 9) T (fun p a => (1, 1, p, a, l, st)) (fun p a => (5, 0, p, a, l, st)) σ σ' ∧ zYn σ' := by
      intro c x1 hc0 hc4 hs hrun
      obtain ⟨f', s2, s3, q1, q2, -, q4, q5⟩ := zy_stop (s1 := s) hc v2 hc0 hc4
      have q1 : (Sum.inr (1 + 8 * p + c) : zSi) = .inr f' := q1
      cases q1
      obtain ⟨s', u1, u2⟩ := ond _ s3 x1 q5
      refine ⟨_, s', hrun s2 s3 s' q2 q4 u1, u2, zRe_tr v3 (show zRe _ _ (fun p a => (3, 1, p, a, l, st)) _ (.inl (p, a)) (.inr (1 + 8 * p + c)) from ⟨a, ze_stop ?_⟩), zYn_r⟩
      rw [hs]
      rfl
    by_cases hcm : zg_cm (zg_kind (s0 9) T p)
    · have hx : ¬ zcp (zg_kind (s0 9) T p) = -1 := fun q => zcp_n.mp q hcm
      by_cases e60 : a.1 = 60
      · refine no 3 (zcp (zg_kind (s0 9) T p)) (by omega) (by omega) (by rw [hst, if_pos hcm, if_pos e60]) (fun s2 s3 s' q2 q4 u1 => ?_)
        exact zb_69_0 v1 (zb_69_2 kcp (zb_69_6 (fun q => absurd q hx) (fun _ => zb_69_15 (fun q => absurd q (by rw [ham]; omega)) (fun _ => zb_69_19 q2 (zb_69_23 q4 u1)))))
      · obtain ⟨s2, q3, q4⟩ := zy_next hc (v2.inc hr240 (by omega))
        have q4 : zSe s0 r T (.inl (zg_nx (s0 9) T p, ze1 a)) s2 := q4
        have n1 : zYn (.inl (zg_nx (s0 9) T p, ze1 a)) := zYn_i (v4 p a rfl)
        obtain ⟨σ3, s3, w1, w2, w3, w4⟩ := zy_sum hc (zco (zg_kind (s0 9) T p)) l st q4 n1
        have hnl := zg_nx_le (b := s0 9) (T := T) hc.1 hc.2.2.2.1 h0.1
        have step : zRe (s0 9) T (fun p a => (3, 1, p, a, l, st)) (fun q b => (1, zco (zg_kind (s0 9) T p), q, b, l, st)) (.inl (p, a)) (.inl (zg_nx (s0 9) T p, ze1 a)) := ⟨⟨hnl.1, rfl⟩, ze_one (by rw [hst, if_pos hcm, if_neg e60])⟩
        have both := zRe_tr v3 (zRe_tr step w3)
        have pre : ∀ s', zA xm_c69 34 [39, zcp (zg_kind (s0 9) T p)] [] s3 (0, s') → zE xm_c69 [39, 0] s 0 s' := fun s' z => zb_69_0 v1 (zb_69_2 kcp (zb_69_6 (fun q => absurd q hx) (fun _ => zb_69_15 (fun _ => zb_69_23 q3 (zb_69_32 w1 z)) (fun q => absurd (show s1 39 2 < 60 by rw [ham]; omega) q))))
        match σ3, w2, w4, both with
        | .inr f, w2, w4, both =>
          obtain ⟨s4, u1, u2⟩ := zy_emitd hc w2 (op := zcp (zg_kind (s0 9) T p)) (arg := 0)
          rw [← w2.rl] at u1
          exact ⟨.inr f, s4, pre s4 (zb_69_34 u1 (zb_69_39 rfl)), u2, zRe_tr both rfl, zYn_r⟩
        | .inl (p', a'), w2, w4, both =>
          obtain ⟨s4, u1, u2⟩ := zy_emit hc w2 (op := zcp (zg_kind (s0 9) T p)) (arg := 0) (zcp_co hcm)
          rw [← w2.rl] at u1
          have u2 : zSe s0 r T (.inl (p', zep a' ((zco (zg_kind (s0 9) T p) : Nat) : Int))) s4 := u2
          exact ⟨_, s4, pre s4 (zb_69_34 u1 (zb_69_39 rfl)), u2, zRe_tr both (show zRe _ _ (fun q b => (3, zco (zg_kind (s0 9) T p), q, b, l, st)) _ (.inl (p', a')) (.inl (p', zep a' ((zco (zg_kind (s0 9) T p) : Nat) : Int))) from ⟨⟨Int.le_refl _, rfl⟩, ze_one (ze_cmp hcm)⟩), zYn_i (w4 p' a' rfl)⟩
    · have hx : zcp (zg_kind (s0 9) T p) = -1 := zcp_n.mpr hcm
      have kcp : zE xm_c70 [s1 (39 + (-31)) 2] s1 (zcp (zg_kind (s0 9) T p)) s1 := kcp
      rw [hx] at kcp
      refine no 0 (-1) (by omega) (by omega) (by rw [hst, if_neg hcm]) (fun s2 s3 s' q2 q4 u1 => ?_)
      exact zb_69_0 v1 (zb_69_2 kcp (zb_69_6 (fun _ => zb_69_10 q2 (zb_69_14 q4 u1)) (fun q => absurd rfl q)))
theorem zywd_1 {k : Nat} {w : List Int} (hw : (yg_sw k).map yg_i = [w]) {p : Int} {a : zW} : zywd (s0 9) T k (.inl (p, a)) = -1 ↔ ¬ zg_is (s0 9) T p w := zwd_1 (s0 := s0) (T := T) (a := 0) hw
theorem zywd_5 {p : Int} {a : zW} : (zywd (s0 9) T 5 (.inl (p, a)) = -1 ↔ ¬ zg_jn (s0 9) T p) ∧ (zywd (s0 9) T 5 (.inl (p, a)) = 0 ↔ zg_is (s0 9) T p yw_and) ∧ (zywd (s0 9) T 5 (.inl (p, a)) = 1 → zg_is (s0 9) T p yw_or ∧ ¬ zg_is (s0 9) T p yw_and) ∧ (zywd (s0 9) T 5 (.inl (p, a)) = -1 ∨ zywd (s0 9) T 5 (.inl (p, a)) = 0 ∨ zywd (s0 9) T 5 (.inl (p, a)) = 1) := by
  refine ⟨zwd_5 (s0 := s0) (T := T) (p := p) (a := 0), ?_⟩
  show ((if zg_kind (s0 9) T p = 97 then yg_ix (zg_w (s0 9) p (zg_te (s0 9) T p)) (yg_sw 5) 0 else -1) = 0 ↔ _) ∧ ((if zg_kind (s0 9) T p = 97 then yg_ix (zg_w (s0 9) p (zg_te (s0 9) T p)) (yg_sw 5) 0 else -1) = 1 → _) ∧ ((if zg_kind (s0 9) T p = 97 then yg_ix (zg_w (s0 9) p (zg_te (s0 9) T p)) (yg_sw 5) 0 else -1) = -1 ∨ (if zg_kind (s0 9) T p = 97 then yg_ix (zg_w (s0 9) p (zg_te (s0 9) T p)) (yg_sw 5) 0 else -1) = 0 ∨ (if zg_kind (s0 9) T p = 97 then yg_ix (zg_w (s0 9) p (zg_te (s0 9) T p)) (yg_sw 5) 0 else -1) = 1)
  by_cases e : zg_kind (s0 9) T p = 97
  · rw [if_pos e]
    have ix : yg_ix (zg_w (s0 9) p (zg_te (s0 9) T p)) (yg_sw 5) 0 = if zg_w (s0 9) p (zg_te (s0 9) T p) = yw_and then 0 else if zg_w (s0 9) p (zg_te (s0 9) T p) = yw_or then 1 else -1 := rfl
    rw [ix]
    by_cases e1 : zg_w (s0 9) p (zg_te (s0 9) T p) = yw_and
    · rw [if_pos e1]
      exact ⟨⟨fun _ => ⟨e, e1⟩, fun _ => rfl⟩, fun q => absurd q (by decide), Or.inr (Or.inl rfl)⟩
    · rw [if_neg e1]
      by_cases e2 : zg_w (s0 9) p (zg_te (s0 9) T p) = yw_or
      · rw [if_pos e2]
        exact ⟨⟨fun q => absurd q (by decide), fun q => absurd q.2 e1⟩, fun _ => ⟨⟨e, e2⟩, fun q => e1 q.2⟩, Or.inr (Or.inr rfl)⟩
      · rw [if_neg e2]
        exact ⟨⟨fun q => absurd q (by decide), fun q => absurd q.2 e1⟩, fun q => absurd q (by decide), Or.inl rfl⟩
  · rw [if_neg e]
    exact ⟨⟨fun q => absurd q (by decide), fun q => absurd q.1 e⟩, fun q => absurd q (by decide), Or.inl rfl⟩
/-- what readFact, readTest do at a depth -/
def zPFe (s0 : zS) (r T : Int) (l : Int) (st : List Int) : Prop := ∀ (σ : zSi) (s : zS), zSe s0 r T σ s → zYn σ → ∃ σ' s', zE xm_c68 [39, zdp st, 0] s 0 s' ∧ zSe s0 r T σ' s' ∧ zRe (s0 9) T (fun p a => (4, 0, p, a, l, st)) (fun p a => (5, 0, p, a, l, st)) σ σ' ∧ zYn σ'
def zPTe (s0 : zS) (r T : Int) (l : Int) (st : List Int) : Prop := ∀ (σ : zSi) (s : zS), zSe s0 r T σ s → zYn σ → ∃ σ' s', zE xm_c67 [39, zdp st, 0, 0, 0] s 0 s' ∧ zSe s0 r T σ' s' ∧ zRe (s0 9) T (fun p a => (4, 0, p, a, l, st)) (fun p a => (5, 0, p, a, l, st)) σ σ' ∧ zYn σ' ∧ ∀ p a, σ' = .inl (p, a) → ¬ zg_jn (s0 9) T p
/-- what is begun within a bracket: with an or that waits, or not -/
def zor_ (x2 : Int) (st : List Int) : List Int := if x2 = 0 then st else 13 :: st
theorem zor_dp {x2 : Int} {st : List Int} : zdp (zor_ x2 st) = zdp st := by
  unfold zor_
  by_cases e : x2 = 0
  · rw [if_pos e]
  · rw [if_neg e, zdp_c, if_neg (by decide)]
    omega
theorem zy_testloop (hc : zCz s0 r T) {l : Int} {st : List Int} (hst : st = [] ∨ ∃ t, st = 91 :: t) (hF : ∀ st', zdp st' = zdp st → zPFe s0 r T l st') : ∀ (m : Nat) (σ : zSi) (s : zS) (x2 x4 : Int), zSe s0 r T σ s → zYn σ → (x2 = 0 ∨ x2 = 1) → 0 ≤ x4 → (∀ p a, σ = .inl (p, a) → x4 ≤ p ∧ (T - p).toNat < m) → (∀ f, σ = .inr f → 0 < m) → ∃ σ' s', zA xm_c67 12 [39, zdp st, x2, zywd (s0 9) T 5 σ, x4] [] s (0, s') ∧ zSe s0 r T σ' s' ∧ zRe (s0 9) T (fun p a => (5, 0, p, a, l, zor_ x2 st)) (fun p a => (5, 0, p, a, l, st)) σ σ' ∧ zYn σ' ∧ ∀ p a, σ' = .inl (p, a) → ¬ zg_jn (s0 9) T p := by
  -- an or that waits is put down
  have putor : ∀ (p : Int) (a : zW) (s : zS), zSe s0 r T (.inl (p, a)) s → ∃ s', zE xm_c60 [s 39 1, 13, 0] s 0 s' ∧ zSe s0 r T (.inl (p, zep a 13)) s' := by
    intro p a s h
    obtain ⟨s', q1, q2⟩ := zy_emit hc h (op := 13) (arg := 0) (c := 13) (by decide)
    rw [← h.rl] at q1
    exact ⟨s', q1, q2⟩
  have orstep : ∀ (p : Int) (a : zW), ¬ zg_is (s0 9) T p yw_and → ze_st (s0 9) T (5, 0, p, a, l, 13 :: st) = .inl (5, 0, p, zep a 13, l, st) := by
    intro p a hna
    refine ze_5c.trans ?_
    rw [if_neg (by decide), if_pos rfl, if_neg hna]
  have joint : ∀ (p : Int) (a : zW), zg_jn (s0 9) T p → ze_st (s0 9) T (5, 0, p, a, l, st) = .inl (4, 0, zg_nx (s0 9) T p, a, l, zjo (s0 9) T p :: st) := by
    intro p a hj
    have hk97 : zg_kind (s0 9) T p = 97 := hj.elim (fun z => z.1) (fun z => z.1)
    rcases hst with rfl | ⟨t, rfl⟩
    · refine ze_5n.trans ?_
      rw [if_pos hj]
    · refine ze_5c.trans ?_
      rw [if_neg (by decide), if_neg (by decide), if_neg (by omega), if_pos hj]
  intro m
  induction m with
  | zero =>
    intro σ s x2 x4 h hn h2 h4 hm hf
    match σ, hm, hf with
    | .inl (p, a), hm, hf => exact absurd (hm p a rfl).2 (by omega)
    | .inr f, hm, hf => exact absurd (hf f rfl) (by omega)
  | succ m ih =>
    intro σ s x2 x4 h hn h2 h4 hm hf
    match σ, h, hm, hn with
    | .inr f, h, hm, hn =>
      have fin : ∃ s', zA xm_c67 57 [39, zdp st, x2, zywd (s0 9) T 5 (.inr f), x4] [] s (0, s') ∧ zSe s0 r T (.inr f) s' := by
        by_cases e : x2 = 0
        · exact ⟨s, zb_67_57 (fun _ => zb_67_64 rfl) (fun q => absurd e q), h⟩
        · obtain ⟨s', q1, q2⟩ := zy_emitd hc h (op := 13) (arg := 0)
          rw [← h.rl] at q1
          exact ⟨s', zb_67_57 (fun q => absurd q e) (fun _ => zb_67_59 q1 (zb_67_64 rfl)), q2⟩
      obtain ⟨s', q1, q2⟩ := fin
      refine ⟨.inr f, s', ?_, q2, rfl, zYn_r, fun p a e => by cases e⟩
      by_cases e : x4 < 400
      · exact zb_67_12 (fun _ => zb_67_15 (fun _ => q1) (fun q => absurd rfl q)) (fun q => absurd e q)
      · exact zb_67_12 (fun q => absurd q e) (fun _ => q1)
    | .inl (p, a), h, hm, hn =>
      have h0 := h.1
      obtain ⟨hp4, hpm⟩ := hm p a rfl
      obtain ⟨w5a, w5b, w5c, w5d⟩ := zywd_5 (s0 := s0) (T := T) (p := p) (a := a)
      by_cases hnn : zywd (s0 9) T 5 (.inl (p, a)) = -1
      · have nj := w5a.mp hnn
        have na : ¬ zg_is (s0 9) T p yw_and := fun z => nj (Or.inl z)
        have go : ∀ s', zA xm_c67 57 [39, zdp st, x2, zywd (s0 9) T 5 (.inl (p, a)), x4] [] s (0, s') → zA xm_c67 12 [39, zdp st, x2, zywd (s0 9) T 5 (.inl (p, a)), x4] [] s (0, s') := by
          intro s' q1
          by_cases e : x4 < 400
          · exact zb_67_12 (fun _ => zb_67_15 (fun _ => q1) (fun q => absurd hnn q)) (fun q => absurd e q)
          · exact zb_67_12 (fun q => absurd q e) (fun _ => q1)
        by_cases e : x2 = 0
        · refine ⟨.inl (p, a), s, go s (zb_67_57 (fun _ => zb_67_64 rfl) (fun q => absurd e q)), h, ⟨⟨Int.le_refl _, rfl⟩, ?_⟩, hn, fun p' a' e => by cases e; exact nj⟩
          unfold zor_
          rw [if_pos e]
          exact ze_refl
        · obtain ⟨s', q1, q2⟩ := putor p a s h
          refine ⟨.inl (p, zep a 13), s', go s' (zb_67_57 (fun q => absurd q e) (fun _ => zb_67_59 q1 (zb_67_64 rfl))), q2, ⟨⟨Int.le_refl _, rfl⟩, ?_⟩, zYn_i (hn p a rfl), fun p' a' e => by cases e; exact nj⟩
          unfold zor_
          rw [if_neg e]
          exact ze_one (orstep p a na)
      · have hj : zg_jn (s0 9) T p := Decidable.not_not.mp (fun q => hnn (w5a.mpr q))
        have hk97 : zg_kind (s0 9) T p = 97 := hj.elim (fun z => z.1) (fun z => z.1)
        have hpT : p < T := by
          rcases Int.lt_or_le p T with z | z
          · exact z
          · have := zg_kend (b := s0 9) z
            omega
        have hx : x4 < 400 := by have := hc.2.2.2.1; omega
        have hnl := zg_nx_le (b := s0 9) (T := T) hc.1 hc.2.2.2.1 h0.1
        have hlt := hnl.2.2 (by omega)
        obtain ⟨s1, n1, n2⟩ := zy_next hc h
        have n2 : zSe s0 r T (.inl (zg_nx (s0 9) T p, a)) s1 := n2
        have hx4 : zw (x4 + 1) = x4 + 1 := zw_id (by omega) (by omega)
        -- the rest, behind the fact
        have nxt : ∀ (σ3 : zSi) (s4 : zS) (y2 : Int), zSe s0 r T σ3 s4 → zYn σ3 → (y2 = 0 ∨ y2 = 1) → (∀ p' a', σ3 = .inl (p', a') → zg_nx (s0 9) T p ≤ p') → ∃ σ' s', zA xm_c67 12 [39, zdp st, y2, zywd (s0 9) T 5 σ3, x4 + 1] [] s4 (0, s') ∧ zSe s0 r T σ' s' ∧ zRe (s0 9) T (fun p a => (5, 0, p, a, l, zor_ y2 st)) (fun p a => (5, 0, p, a, l, st)) σ3 σ' ∧ zYn σ' ∧ ∀ p a, σ' = .inl (p, a) → ¬ zg_jn (s0 9) T p := by
          intro σ3 s4 y2 h4' hn4 hy hp
          refine ih σ3 s4 y2 (x4 + 1) h4' hn4 hy (by omega) (fun p' a' e => ?_) (fun f e => by omega)
          have := hp p' a' e
          omega
        by_cases e0 : zywd (s0 9) T 5 (.inl (p, a)) = 0
        · -- and
          have hand := w5b.mp e0
          have hjo : zjo (s0 9) T p = 12 := if_pos hand
          have hdp : zdp (12 :: zor_ x2 st) = zdp st := by
            rw [zdp_c, if_neg (by decide), zor_dp]
            omega
          obtain ⟨σ3, s3, v1, v2, v3, v4⟩ := hF (12 :: zor_ x2 st) hdp _ s1 n2 (zYn_i (hn p a rfl))
          rw [hdp] at v1
          have step : zRe (s0 9) T (fun p a => (5, 0, p, a, l, zor_ x2 st)) (fun p a => (4, 0, p, a, l, 12 :: zor_ x2 st)) (.inl (p, a)) (.inl (zg_nx (s0 9) T p, a)) := by
            refine ⟨⟨hnl.1, rfl⟩, ze_one ?_⟩
            unfold zor_
            by_cases ex : x2 = 0
            · rw [if_pos ex, joint p a hj, hjo]
            · rw [if_neg ex]
              refine ze_5c.trans ?_
              rw [if_neg (by decide), if_pos rfl, if_pos hand]
          have both := zRe_tr step v3
          rw [e0]
          have hz : zor x2 0 = x2 := by rcases h2 with q | q <;> rw [q] <;> decide
          have pre : ∀ s', zA xm_c67 36 [39, zdp st, x2, 0, x4] [] s3 (0, s') → zA xm_c67 12 [39, zdp st, x2, 0, x4] [] s (0, s') := fun s' z => zb_67_12 (fun _ => zb_67_15 (fun q => absurd q (by decide)) (fun _ => zb_67_18 n1 (zb_67_21 (fun q => absurd q (by decide)) (fun _ => zb_67_31 v1 (zb_67_34 (fun _ => z) (fun q => absurd rfl q)))))) (fun q => absurd hx q)
          have fin : ∀ (σ3 : zSi) (s4 : zS), zSe s0 r T σ3 s4 → zYn σ3 → (∀ p' a', σ3 = .inl (p', a') → zg_nx (s0 9) T p ≤ p') → zE xm_c60 [s3 39 1, 12, 0] s3 0 s4 → zRe (s0 9) T (fun p a => (5, 0, p, a, l, zor_ x2 st)) (fun p a => (5, 0, p, a, l, zor_ x2 st)) (.inl (p, a)) σ3 → ∃ σ' s', zA xm_c67 12 [39, zdp st, x2, 0, x4] [] s (0, s') ∧ zSe s0 r T σ' s' ∧ zRe (s0 9) T (fun p a => (5, 0, p, a, l, zor_ x2 st)) (fun p a => (5, 0, p, a, l, st)) (.inl (p, a)) σ' ∧ zYn σ' ∧ ∀ p a, σ' = .inl (p, a) → ¬ zg_jn (s0 9) T p := by
            intro σ3 s4 w2 wn wp w1 rel
            have hw := zy_word hc w2 (k := 5) (by omega) (by omega)
            obtain ⟨σ', s', u1, u2, u3, u4⟩ := nxt σ3 s4 x2 w2 wn h2 wp
            exact ⟨σ', s', pre s' (zb_67_36 w1 (zb_67_41 (fun q => absurd q (by decide)) (fun _ => zb_67_47 hw (zb_67_54 (by rw [hx4, hz]; exact u1))))), u2, zRe_tr rel u3, u4⟩
          match σ3, v2, v4, both with
          | .inr f, v2, v4, both =>
            obtain ⟨s4, w1, w2⟩ := zy_emitd hc v2 (op := 12) (arg := 0)
            rw [← v2.rl] at w1
            exact fin (.inr f) s4 w2 zYn_r (fun p' a' e => by cases e) w1 (zRe_tr both rfl)
          | .inl (p', a'), v2, v4, both =>
            obtain ⟨s4, w1, w2⟩ := zy_emit hc v2 (op := 12) (arg := 0) (c := 12) (by decide)
            rw [← v2.rl] at w1
            have w2 : zSe s0 r T (.inl (p', zep a' 12)) s4 := w2
            refine fin (.inl (p', zep a' 12)) s4 w2 (zYn_i (v4 p' a' rfl)) (fun p2 a2 e => ?_) w1 (zRe_tr both (show zRe _ _ (fun p a => (5, 0, p, a, l, 12 :: zor_ x2 st)) _ (.inl (p', a')) (.inl (p', zep a' 12)) from ⟨⟨Int.le_refl _, rfl⟩, ze_one rfl⟩))
            cases e
            exact v3.1.1
        · -- or
          have e1 : zywd (s0 9) T 5 (.inl (p, a)) = 1 := by omega
          obtain ⟨hor, hna⟩ := w5c e1
          have hjo : zjo (s0 9) T p = 13 := if_neg hna
          have hdp : zdp (13 :: st) = zdp st := by
            rw [zdp_c, if_neg (by decide)]
            omega
          have em : ∃ a2 s2, zSe s0 r T (.inl (zg_nx (s0 9) T p, a2)) s2 ∧ zYn (.inl (zg_nx (s0 9) T p, a2)) ∧ zRe (s0 9) T (fun p a => (5, 0, p, a, l, zor_ x2 st)) (fun p a => (4, 0, p, a, l, 13 :: st)) (.inl (p, a)) (.inl (zg_nx (s0 9) T p, a2)) ∧ ∀ s', zA xm_c67 31 [39, zdp st, x2, 1, x4] [] s2 (0, s') → zA xm_c67 21 [39, zdp st, x2, 1, x4] [] s1 (0, s') := by
            by_cases ex : x2 = 0
            · refine ⟨a, s1, n2, zYn_i (hn p a rfl), ⟨⟨hnl.1, rfl⟩, ?_⟩, fun s' z => zb_67_21 (fun _ => zb_67_24 (fun _ => z) (fun q => absurd ex q)) (fun q => absurd rfl q)⟩
              unfold zor_
              rw [if_pos ex]
              exact ze_one (by rw [joint p a hj, hjo])
            · obtain ⟨s2, q1, q2⟩ := putor _ a s1 n2
              refine ⟨zep a 13, s2, q2, zYn_i (hn p a rfl), ⟨⟨hnl.1, rfl⟩, ?_⟩, fun s' z => zb_67_21 (fun _ => zb_67_24 (fun q => absurd q ex) (fun _ => zb_67_26 q1 z)) (fun q => absurd rfl q)⟩
              unfold zor_
              rw [if_neg ex]
              exact ze_trans (ze_one (orstep p a hna)) (ze_one (by rw [joint p (zep a 13) hj, hjo]))
          obtain ⟨a2, s2, m1, m2, m3, m4⟩ := em
          obtain ⟨σ3, s3, v1, v2, v3, v4⟩ := hF (13 :: st) hdp _ s2 m1 m2
          rw [hdp] at v1
          have both := zRe_tr m3 v3
          rw [e1]
          have hz : zor x2 1 = 1 := by rcases h2 with q | q <;> rw [q] <;> decide
          have hw := zy_word hc v2 (k := 5) (by omega) (by omega)
          have hp3 : ∀ p' a', σ3 = .inl (p', a') → zg_nx (s0 9) T p ≤ p' := by
            intro p' a' e
            subst e
            exact v3.1.1
          obtain ⟨σ', s', u1, u2, u3, u4⟩ := nxt σ3 s3 1 v2 v4 (Or.inr rfl) hp3
          exact ⟨σ', s', zb_67_12 (fun _ => zb_67_15 (fun q => absurd q (by decide)) (fun _ => zb_67_18 n1 (m4 s' (zb_67_31 v1 (zb_67_34 (fun q => absurd q (by decide)) (fun _ => zb_67_41 (fun _ => zb_67_45 hw (zb_67_54 (by rw [hx4, hz]; exact u1))) (fun q => absurd rfl q))))))) (fun q => absurd hx q), u2, zRe_tr both u3, u4⟩
theorem zy_test1 (hc : zCz s0 r T) {l : Int} {st : List Int} (hst : st = [] ∨ ∃ t, st = 91 :: t) (hF : ∀ st', zdp st' = zdp st → zPFe s0 r T l st') : zPTe s0 r T l st := by
  intro σ s h hn
  obtain ⟨σ1, s1, v1, v2, v3, v4⟩ := hF st rfl σ s h hn
  have hw := zy_word hc v2 (k := 5) (by omega) (by omega)
  obtain ⟨σ2, s2, w1, w2, w3, w4⟩ := zy_testloop hc hst hF ((T + 2).toNat) σ1 s1 0 0 v2 v4 (Or.inl rfl) (by omega) (fun p a e => by
    subst e
    have := v2.1
    omega) (fun f e => by have := hc.2.2.1; omega)
  exact ⟨σ2, s2, zb_67_0 v1 (zb_67_3 hw (zb_67_9 w1)), w2, zRe_tr v3 w3, w4⟩
theorem zy_fact1 (hc : zCz s0 r T) {l : Int} {st : List Int} (hlen : zdp st ≤ 10) (hF : zdp st < 10 → zPFe s0 r T l (11 :: st)) (hT : zdp st < 10 → zPTe s0 r T l (91 :: st)) : zPFe s0 r T l st := by
  intro σ s h hn
  have hd0 := zdp_0 st
  have hw := zy_word hc h (k := 4) (by omega) (by omega)
  have hk := h.kd
  have cmp : zywd (s0 9) T 4 σ = -1 → zykd (s0 9) T σ ≠ 91 → (∀ σ', zRe (s0 9) T (fun p a => (1, 1, p, a, l, st)) (fun p a => (5, 0, p, a, l, st)) σ σ' → zRe (s0 9) T (fun p a => (4, 0, p, a, l, st)) (fun p a => (5, 0, p, a, l, st)) σ σ') → ∃ σ' s', zE xm_c68 [39, zdp st, 0] s 0 s' ∧ zSe s0 r T σ' s' ∧ zRe (s0 9) T (fun p a => (4, 0, p, a, l, st)) (fun p a => (5, 0, p, a, l, st)) σ σ' ∧ zYn σ' := by
    intro hw1 hk1 hr
    obtain ⟨σ', s', v1, v2, v3, v4⟩ := zy_compare hc l st h hn
    rw [hw1] at hw
    exact ⟨σ', s', zb_68_0 hw (zb_68_4 (fun _ => zb_68_8 (fun _ => zb_68_12 (fun q => absurd (show s 8 2 = 91 from q) (by rw [hk]; exact hk1)) (fun _ => zb_68_17 v1 (zb_68_19 rfl))) (fun q => absurd rfl q)) (fun q => absurd rfl q)), v2, hr σ' v3, v4⟩
  match σ, h, hw, hk, cmp, hn with
  | .inr f, h, hw, hk, cmp, hn => exact cmp rfl (by show (-2 : Int) ≠ 91; decide) (fun σ' z => z)
  | .inl (p, a), h, hw, hk, cmp, hn =>
    have h0 := h.1
    have hk : s 8 2 = zg_kind (s0 9) T p := hk
    have hnl := zg_nx_le (b := s0 9) (T := T) hc.1 hc.2.2.2.1 h0.1
    have hwd : zywd (s0 9) T 4 (.inl (p, a)) = -1 ↔ ¬ zg_is (s0 9) T p yw_not := zywd_1 (by decide)
    have hst : ze_st (s0 9) T (4, 0, p, a, l, st) = if zg_is (s0 9) T p yw_not then (if zdp st = 10 then zfe_ 2 p a else .inl (4, 0, zg_nx (s0 9) T p, a, l, 11 :: st)) else if zg_kind (s0 9) T p = 91 then (if zdp st = 10 then zfe_ 2 p a else .inl (4, 0, zg_nx (s0 9) T p, a, l, 91 :: st)) else .inl (1, 1, p, a, l, st) := rfl
    have deep : ze_st (s0 9) T (4, 0, p, a, l, st) = zfe_ 2 p a → (∀ s', zE xm_c81 [8, 2] s 0 s' → zE xm_c68 [39, zdp st, 0] s 0 s') → ∃ σ' s', zE xm_c68 [39, zdp st, 0] s 0 s' ∧ zSe s0 r T σ' s' ∧ zRe (s0 9) T (fun p a => (4, 0, p, a, l, st)) (fun p a => (5, 0, p, a, l, st)) (.inl (p, a)) σ' ∧ zYn σ' := by
      intro hs hrun
      obtain ⟨s1, q1, q2⟩ := zy_fail hc h (c := 2) (by omega) (by omega)
      exact ⟨.inr (1 + 8 * p + 2), s1, hrun s1 q1, q2, ⟨a, ze_stop hs⟩, zYn_r⟩
    by_cases hnot : zg_is (s0 9) T p yw_not
    · have hx : ¬ zywd (s0 9) T 4 (.inl (p, a)) = -1 := fun q => hwd.mp q hnot
      by_cases e10 : zdp st = 10
      · exact deep (by rw [hst, if_pos hnot, if_pos e10]) (fun s' q1 => zb_68_0 hw (zb_68_4 (fun q => absurd q hx) (fun _ => zb_68_6 (fun q => absurd q (by decide)) (fun _ => zb_68_20 (fun q => absurd q (by omega)) (fun _ => zb_68_23 q1 (zb_68_27 rfl))))))
      · obtain ⟨s1, n1, n2⟩ := zy_next hc h
        obtain ⟨σ2, s2, v1, v2, v3, v4⟩ := hF (by omega) _ s1 n2 (zYn_i (hn p a rfl))
        have hz : zw (zdp st + 1) = zdp (11 :: st) := by
          rw [zw_id (by omega) (by omega), zdp_c, if_pos (Or.inr rfl)]
          omega
        rw [← hz] at v1
        have pre : ∀ s3, zA xm_c68 38 [39, zdp st, 1] [] s2 (0, s3) → zE xm_c68 [39, zdp st, 0] s 0 s3 := fun s3 z => zb_68_0 hw (zb_68_4 (fun q => absurd q hx) (fun _ => zb_68_6 (fun q => absurd q (by decide)) (fun _ => zb_68_20 (fun _ => zb_68_28 (fun q => absurd q (by decide)) (fun _ => zb_68_30 n1 (zb_68_33 v1 z))) (fun q => absurd (show zdp st < 10 by omega) q))))
        have both := zRe_tr (A := fun p a => (4, 0, p, a, l, st)) (B := fun p a => (4, 0, p, a, l, 11 :: st)) (σ := .inl (p, a)) (σ1 := .inl (zg_nx (s0 9) T p, a)) ⟨⟨hnl.1, rfl⟩, ze_one (by rw [hst, if_pos hnot, if_neg e10])⟩ v3
        match σ2, v2, v4, both with
        | .inr f, v2, v4, both =>
          obtain ⟨s3, w1, w2⟩ := zy_emitd hc v2 (op := 14) (arg := 0)
          rw [← v2.rl] at w1
          exact ⟨.inr f, s3, pre s3 (zb_68_38 w1 (zb_68_43 rfl)), w2, zRe_tr both rfl, zYn_r⟩
        | .inl (p', a'), v2, v4, both =>
          obtain ⟨s3, w1, w2⟩ := zy_emit hc v2 (op := 14) (arg := 0) (c := 11) (by decide)
          rw [← v2.rl] at w1
          have w2 : zSe s0 r T (.inl (p', zep a' 11)) s3 := w2
          exact ⟨_, s3, pre s3 (zb_68_38 w1 (zb_68_43 rfl)), w2, zRe_tr both (show zRe _ _ (fun p a => (5, 0, p, a, l, 11 :: st)) _ (.inl (p', a')) (.inl (p', zep a' 11)) from ⟨⟨Int.le_refl _, rfl⟩, ze_one rfl⟩), zYn_i (v4 p' a' rfl)⟩
    · have hx := hwd.mpr hnot
      by_cases e91 : zg_kind (s0 9) T p = 91
      · rw [hx] at hw
        by_cases e10 : zdp st = 10
        · exact deep (by rw [hst, if_neg hnot, if_pos e91, if_pos e10]) (fun s' q1 => zb_68_0 hw (zb_68_4 (fun _ => zb_68_8 (fun _ => zb_68_12 (fun _ => zb_68_20 (fun q => absurd q (by omega)) (fun _ => zb_68_23 q1 (zb_68_27 rfl))) (fun q => absurd (show s 8 2 = 91 by rw [hk]; exact e91) q)) (fun q => absurd rfl q)) (fun q => absurd rfl q)))
        · obtain ⟨s1, n1, n2⟩ := zy_next hc h
          obtain ⟨σ2, s2, v1, v2, v3, v4, v5⟩ := hT (by omega) _ s1 n2 (zYn_i (hn p a rfl))
          have hz : zw (zdp st + 1) = zdp (91 :: st) := by
            rw [zw_id (by omega) (by omega), zdp_c, if_pos (Or.inl rfl)]
            omega
          rw [← hz] at v1
          have pre : ∀ s', zA xm_c68 52 [39, zdp st, 0] [] s2 (0, s') → zE xm_c68 [39, zdp st, 0] s 0 s' := fun s' z => zb_68_0 hw (zb_68_4 (fun _ => zb_68_8 (fun _ => zb_68_12 (fun _ => zb_68_20 (fun _ => zb_68_28 (fun _ => zb_68_44 n1 (zb_68_47 v1 z)) (fun q => absurd rfl q)) (fun q => absurd (show zdp st < 10 by omega) q)) (fun q => absurd (show s 8 2 = 91 by rw [hk]; exact e91) q)) (fun q => absurd rfl q)) (fun q => absurd rfl q))
          have first := zRe_tr (A := fun p a => (4, 0, p, a, l, st)) (B := fun p a => (4, 0, p, a, l, 91 :: st)) (σ := .inl (p, a)) (σ1 := .inl (zg_nx (s0 9) T p, a)) ⟨⟨hnl.1, rfl⟩, ze_one (by rw [hst, if_neg hnot, if_pos e91, if_neg e10])⟩ v3
          have hk2 := v2.kd
          match σ2, v2, v4, v5, first, hk2 with
          | .inr f, v2, v4, v5, first, hk2 =>
            obtain ⟨s3, q1, q2⟩ := zy_fail hc v2 (c := 0) (by omega) (by omega)
            obtain ⟨s4, q3, q4⟩ := zy_next hc q2
            refine ⟨.inr f, s4, pre s4 (zb_68_52 (fun q => absurd (show s2 8 2 = 93 from q) (by rw [hk2]; show (-2 : Int) ≠ 93; decide)) (fun _ => zb_68_57 q1 (zb_68_61 q3 (zb_68_64 rfl)))), q4, zRe_tr first rfl, zYn_r⟩
          | .inl (p', a'), v2, v4, v5, first, hk2 =>
            have hk2 : s2 8 2 = zg_kind (s0 9) T p' := hk2
            have nj := v5 p' a' rfl
            have hst2 : ze_st (s0 9) T (5, 0, p', a', l, 91 :: st) = if zg_kind (s0 9) T p' = 93 then .inl (5, 0, zg_nx (s0 9) T p', a', l, st) else if zg_jn (s0 9) T p' then .inl (4, 0, zg_nx (s0 9) T p', a', l, zjo (s0 9) T p' :: 91 :: st) else zfe_ 0 p' a' := by
              refine ze_5c.trans ?_
              rw [if_neg (by decide), if_neg (by decide)]
            by_cases e93 : zg_kind (s0 9) T p' = 93
            · obtain ⟨s4, q3, q4⟩ := zy_next hc v2
              have hnl2 := zg_nx_le (b := s0 9) (T := T) hc.1 hc.2.2.2.1 v2.1.1
              exact ⟨.inl (zg_nx (s0 9) T p', a'), s4, pre s4 (zb_68_52 (fun _ => zb_68_61 q3 (zb_68_64 rfl)) (fun q => absurd (show s2 8 2 = 93 by rw [hk2]; exact e93) q)), q4, zRe_tr first (show zRe _ _ (fun p a => (5, 0, p, a, l, 91 :: st)) _ (.inl (p', a')) (.inl (zg_nx (s0 9) T p', a')) from ⟨⟨hnl2.1, rfl⟩, ze_one (by rw [hst2, if_pos e93])⟩), zYn_i (v4 p' a' rfl)⟩
            · obtain ⟨s3, q1, q2⟩ := zy_fail hc v2 (c := 0) (by omega) (by omega)
              obtain ⟨s4, q3, q4⟩ := zy_next hc q2
              exact ⟨.inr (1 + 8 * p' + 0), s4, pre s4 (zb_68_52 (fun q => absurd (show s2 8 2 = 93 from q) (by rw [hk2]; exact e93)) (fun _ => zb_68_57 q1 (zb_68_61 q3 (zb_68_64 rfl)))), q4, zRe_tr first (show zRe _ _ (fun p a => (5, 0, p, a, l, 91 :: st)) _ (.inl (p', a')) (.inr (1 + 8 * p' + 0)) from ⟨a', ze_stop (by rw [hst2, if_neg e93, if_neg nj]; rfl)⟩), zYn_r⟩
      · refine cmp hx e91 (fun σ' z => zRe_tr (B := fun p a => (1, 1, p, a, l, st)) (σ1 := .inl (p, a)) ⟨⟨Int.le_refl _, rfl⟩, ze_one (by rw [hst, if_neg hnot, if_neg e91])⟩ z)
theorem zy_fact (hc : zCz s0 r T) (l : Int) : ∀ (n : Nat) (st : List Int), zdp st + ((n : Nat) : Int) = 10 → zPFe s0 r T l st
  | 0, st, h => zy_fact1 hc (by omega) (fun q => absurd q (by omega)) (fun q => absurd q (by omega))
  | n + 1, st, h => zy_fact1 hc (by omega) (fun q => zy_fact hc l n (11 :: st) (by rw [zdp_c, if_pos (Or.inr rfl)]; omega)) (fun q => zy_test1 hc (Or.inr ⟨st, rfl⟩) (fun st' e => zy_fact hc l n st' (by rw [e, zdp_c, if_pos (Or.inl rfl)]; omega)))
theorem zy_test (hc : zCz s0 r T) (l : Int) : zPTe s0 r T l [] := zy_test1 hc (Or.inl rfl) (fun st' e => zy_fact hc l 10 st' (by rw [e]; rfl))
end YF
