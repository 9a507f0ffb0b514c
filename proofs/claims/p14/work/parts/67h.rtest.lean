/-! readComparison, readFact, readTest, RuleReader.read -/
def zcp (k : Int) : Int := if k = 60 then 7 else if k = 256 then 8 else if k = 61 then 9 else if k = 257 then 10 else if k = 62 then 11 else -1
theorem zcp_n {k : Int} : zcp k = -1 ↔ ¬ zg_cm k := by
  unfold zcp zg_cm
  by_cases e1 : k = 60
  · simp [e1]
  by_cases e2 : k = 256
  · simp [e2]
  by_cases e3 : k = 61
  · simp [e3]
  by_cases e4 : k = 257
  · simp [e4]
  by_cases e5 : k = 62
  · simp [e5]
  simp [e1, e2, e3, e4, e5]
theorem zo_cp {k : Int} {s : zS} : zE xm_c70 [k] s (zcp k) s := by
  refine zb_70_0 ?_
  unfold zcp
  by_cases e1 : k = 60
  · rw [if_pos e1]; exact zb_70_1_c60 e1 (zb_70_2 rfl)
  rw [if_neg e1]
  by_cases e2 : k = 256
  · rw [if_pos e2]; exact zb_70_1_c256 e2 (zb_70_4 rfl)
  rw [if_neg e2]
  by_cases e3 : k = 61
  · rw [if_pos e3]; exact zb_70_1_c61 e3 (zb_70_6 rfl)
  rw [if_neg e3]
  by_cases e4 : k = 257
  · rw [if_pos e4]; exact zb_70_1_c257 e4 (zb_70_8 rfl)
  rw [if_neg e4]
  by_cases e5 : k = 62
  · rw [if_pos e5]; exact zb_70_1_c62 e5 (zb_70_10 rfl)
  rw [if_neg e5]
  exact zb_70_1_d ⟨e1, e3, e5, e2, e4⟩ (zb_70_12 rfl)
section ZF
variable {s0 : zS} {r T : Int}
theorem zo_cpk {σ : zSg} {s : zS} (h : zSt s0 r T σ s) : zE xm_c70 [s (39 + (-31)) 2] s (zcp (zkd (s0 9) T σ)) s := by
  have := h.kd
  show zE xm_c70 [s 8 2] s _ s
  rw [this]
  exact zo_cp
theorem zo_compare (hc : zCx s0 r T) (l : Int) (st : List Bool) {σ : zSg} {s : zS} (h : zSt s0 r T σ s) : ∃ σ' s', zE xm_c69 [39, 0] s 0 s' ∧ zSt s0 r T σ' s' ∧ zRl (s0 9) T (fun p a => (1, 1, p, a, l, st)) (fun p a => (5, 0, p, a, l, st)) σ σ' := by
  obtain ⟨σ1, s1, v1, v2, v3⟩ := zo_sum hc 1 l st h
  -- behind the sign
  have on : ∀ (σ2 : zSg) (s2 : zS) (x1 : Int), zSt s0 r T σ2 s2 → ∃ σ' s', zA xm_c69 32 [39, x1] [] s2 (0, s') ∧ zSt s0 r T σ' s' ∧ zRl (s0 9) T (fun p a => (1, 2, p, a, l, st)) (fun p a => (5, 0, p, a, l, st)) σ2 σ' := by
    intro σ2 s2 x1 h2
    obtain ⟨σ3, s3, w1, w2, w3⟩ := zo_sum hc 2 l st h2
    obtain ⟨s4, u1, u2⟩ := zo_emit hc w2 (op := x1) (arg := 0)
    rw [← w2.rl] at u1
    refine ⟨σ3, s4, zb_69_32 w1 (zb_69_34 u1 (zb_69_39 rfl)), u2, zRl_tr w3 ?_⟩
    match σ3 with
    | .inr f => exact rfl
    | .inl (p, a) => exact ⟨Int.le_refl _, zg_one rfl⟩
  have kcp := zo_cpk v2
  match σ1, v2, v3, kcp with
  | .inr f, v2, v3, kcp =>
    obtain ⟨f', s2, s3, q1, q2, -, q4, q5⟩ := zo_stop (s1 := s) hc v2 (c := 0) (by omega) (by omega)
    have q1 : (Sum.inr f : zSg) = .inr f' := q1
    cases q1
    obtain ⟨σ', s', u1, u2, u3⟩ := on (.inr f) s3 (-1) q5
    have u3 : σ' = .inr f := u3
    subst u3
    have kcp : zE xm_c70 [s1 (39 + (-31)) 2] s1 (-1) s1 := kcp
    exact ⟨.inr f, s', zb_69_0 v1 (zb_69_2 kcp (zb_69_6 (fun _ => zb_69_10 q2 (zb_69_14 q4 u1)) (fun q => absurd rfl q))), u2, zRl_tr v3 rfl⟩
  | .inl (p, a), v2, v3, kcp =>
    have ham := v2.am
    have h0 := v2.1
    have hst : zg_st (s0 9) T (3, 1, p, a, l, st) = if zg_cm (zg_kind (s0 9) T p) then (if a = 60 then zg_fl 3 p else .inl (1, 2, zg_nx (s0 9) T p, a + 1, l, st)) else zg_fl 0 p := rfl
    have no : ∀ (c x1 : Int), 0 ≤ c → c ≤ 4 → zg_st (s0 9) T (3, 1, p, a, l, st) = zg_fl c p → (∀ s2 s3 s', zE xm_c81 [8, c] s1 0 s2 → zE xm_c82 [8, 0, 0] (zu s2 39 2 (zw (s2 39 2 + 1))) 0 s3 → zA xm_c69 32 [39, x1] [] s3 (0, s') → zE xm_c69 [39, 0] s 0 s') → ∃ σ' s', zE xm_c69 [39, 0] s 0 s' ∧ zSt s0 r T σ' s' ∧ zRl (s0 9) T (fun p a => (1, 1, p, a, l, st)) (fun p a => (5, 0, p, a, l, st)) σ σ' := by
      intro c x1 hc0 hc4 hs hrun
      obtain ⟨f', s2, s3, q1, q2, -, q4, q5⟩ := zo_stop (s1 := s) hc v2 hc0 hc4
      have q1 : (Sum.inr (1 + 8 * p + c) : zSg) = .inr f' := q1
      cases q1
      obtain ⟨σ', s', u1, u2, u3⟩ := on _ s3 x1 q5
      have u3 : σ' = .inr (1 + 8 * p + c) := u3
      subst u3
      refine ⟨_, s', hrun s2 s3 s' q2 q4 u1, u2, zRl_tr v3 (show zRl _ _ (fun p a => (3, 1, p, a, l, st)) _ (.inl (p, a)) (.inr (1 + 8 * p + c)) from zg_stop ?_)⟩
      rw [hs]
      rfl
    by_cases hcm : zg_cm (zg_kind (s0 9) T p)
    · have hx : ¬ zcp (zkd (s0 9) T (.inl (p, a))) = -1 := fun q => zcp_n.mp q hcm
      by_cases e60 : a = 60
      · refine no 3 (zcp (zkd (s0 9) T (.inl (p, a)))) (by omega) (by omega) (by rw [hst, if_pos hcm, if_pos e60]) (fun s2 s3 s' q2 q4 u1 => ?_)
        exact zb_69_0 v1 (zb_69_2 kcp (zb_69_6 (fun q => absurd q hx) (fun _ => zb_69_15 (fun q => absurd q (by rw [ham]; omega)) (fun _ => zb_69_19 q2 (zb_69_23 q4 u1)))))
      · obtain ⟨s2, q3, q4⟩ := zo_next hc (v2.inc (by omega))
        obtain ⟨σ', s', u1, u2, u3⟩ := on _ s2 (zcp (zkd (s0 9) T (.inl (p, a)))) q4
        have hn := zg_nx_le (b := s0 9) (T := T) hc.1 hc.2.2.2.1 h0.1
        refine ⟨σ', s', zb_69_0 v1 (zb_69_2 kcp (zb_69_6 (fun q => absurd q hx) (fun _ => zb_69_15 (fun _ => zb_69_23 q3 u1) (fun q => absurd (show s1 39 2 < 60 by rw [ham]; omega) q)))), u2, zRl_tr v3 (zRl_tr (B := fun p a => (1, 2, p, a, l, st)) (σ1 := .inl (zg_nx (s0 9) T p, a + 1)) ⟨hn.1, zg_one ?_⟩ u3)⟩
        rw [hst, if_pos hcm, if_neg e60]
    · have hx : zcp (zkd (s0 9) T (.inl (p, a))) = -1 := zcp_n.mpr hcm
      rw [hx] at kcp
      refine no 0 (-1) (by omega) (by omega) (by rw [hst, if_neg hcm]) (fun s2 s3 s' q2 q4 u1 => ?_)
      exact zb_69_0 v1 (zb_69_2 kcp (zb_69_6 (fun _ => zb_69_10 q2 (zb_69_14 q4 u1)) (fun q => absurd rfl q)))
theorem zwd_1 {k : Nat} {w : List Int} (hw : (yg_sw k).map yg_i = [w]) {p a : Int} : zwd (s0 9) T k (.inl (p, a)) = -1 ↔ ¬ zg_is (s0 9) T p w := by
  show (if zg_kind (s0 9) T p = 97 then yg_ix (zg_w (s0 9) p (zg_te (s0 9) T p)) (yg_sw k) 0 else -1) = -1 ↔ _
  by_cases e : zg_kind (s0 9) T p = 97
  · rw [if_pos e, yg_ixm _ _ (by omega), hw]
    exact ⟨fun q z => q (List.mem_singleton.mpr z.2), fun q z => q ⟨e, List.mem_singleton.mp z⟩⟩
  · rw [if_neg e]
    exact ⟨fun _ z => e z.1, fun _ => rfl⟩
theorem zwd_5 {p a : Int} : zwd (s0 9) T 5 (.inl (p, a)) = -1 ↔ ¬ zg_jn (s0 9) T p := by
  show (if zg_kind (s0 9) T p = 97 then yg_ix (zg_w (s0 9) p (zg_te (s0 9) T p)) (yg_sw 5) 0 else -1) = -1 ↔ _
  by_cases e : zg_kind (s0 9) T p = 97
  · rw [if_pos e, yg_ixm _ _ (by omega), show (yg_sw 5).map yg_i = [yw_and, yw_or] from by decide]
    constructor
    · intro q z
      rcases z with z | z
      · exact q (by rw [z.2]; exact List.mem_cons_self)
      · exact q (by rw [z.2]; exact List.mem_cons_of_mem _ List.mem_cons_self)
    · intro q z
      rcases List.mem_cons.mp z with z | z
      · exact q (Or.inl ⟨e, z⟩)
      · exact q (Or.inr ⟨e, List.mem_singleton.mp z⟩)
  · rw [if_neg e]
    exact ⟨fun _ z => z.elim (fun z => e z.1) (fun z => e z.1), fun _ => rfl⟩
/-- what readFact, readTest do at a depth -/
def zPF (s0 : zS) (r T : Int) (l : Int) (st : List Bool) : Prop := ∀ (σ : zSg) (s : zS), zSt s0 r T σ s → ∃ σ' s', zE xm_c68 [39, ((st.length : Nat) : Int), 0] s 0 s' ∧ zSt s0 r T σ' s' ∧ zRl (s0 9) T (fun p a => (4, 0, p, a, l, st)) (fun p a => (5, 0, p, a, l, st)) σ σ'
def zPT (s0 : zS) (r T : Int) (l : Int) (st : List Bool) : Prop := ∀ (σ : zSg) (s : zS), zSt s0 r T σ s → ∃ σ' s', zE xm_c67 [39, ((st.length : Nat) : Int), 0, 0, 0] s 0 s' ∧ zSt s0 r T σ' s' ∧ zRl (s0 9) T (fun p a => (4, 0, p, a, l, st)) (fun p a => (5, 0, p, a, l, st)) σ σ' ∧ ∀ p a, σ' = .inl (p, a) → ¬ zg_jn (s0 9) T p
theorem zo_testloop (hc : zCx s0 r T) {l : Int} {st : List Bool} (hst : st = [] ∨ ∃ t, st = true :: t) (hF : zPF s0 r T l st) : ∀ (m : Nat) (σ : zSg) (s : zS) (x2 x4 : Int), zSt s0 r T σ s → 0 ≤ x4 → (∀ p a, σ = .inl (p, a) → x4 ≤ p ∧ (T - p).toNat < m) → (∀ f, σ = .inr f → 0 < m) → ∃ σ' s', zA xm_c67 12 [39, ((st.length : Nat) : Int), x2, zwd (s0 9) T 5 σ, x4] [] s (0, s') ∧ zSt s0 r T σ' s' ∧ zRl (s0 9) T (fun p a => (5, 0, p, a, l, st)) (fun p a => (5, 0, p, a, l, st)) σ σ' ∧ ∀ p a, σ' = .inl (p, a) → ¬ zg_jn (s0 9) T p := by
  have fin : ∀ (σ : zSg) (s : zS) (x2 x3 x4 : Int), zSt s0 r T σ s → ∃ s', zA xm_c67 57 [39, ((st.length : Nat) : Int), x2, x3, x4] [] s (0, s') ∧ zSt s0 r T σ s' := by
    intro σ s x2 x3 x4 h
    by_cases e : x2 = 0
    · exact ⟨s, zb_67_57 (fun _ => zb_67_64 rfl) (fun q => absurd e q), h⟩
    · obtain ⟨s', q1, q2⟩ := zo_emit hc h (op := 13) (arg := 0)
      rw [← h.rl] at q1
      exact ⟨s', zb_67_57 (fun q => absurd q e) (fun _ => zb_67_59 q1 (zb_67_64 rfl)), q2⟩
  have refl : ∀ σ : zSg, zRl (s0 9) T (fun p a => (5, 0, p, a, l, st)) (fun p a => (5, 0, p, a, l, st)) σ σ := fun σ => match σ with
    | .inr f => rfl
    | .inl (p, a) => ⟨Int.le_refl _, zg_refl⟩
  intro m
  induction m with
  | zero =>
    intro σ s x2 x4 h h4 hm hf
    match σ, hm, hf with
    | .inl (p, a), hm, hf => exact absurd (hm p a rfl).2 (by omega)
    | .inr f, hm, hf => exact absurd (hf f rfl) (by omega)
  | succ m ih =>
    intro σ s x2 x4 h h4 hm hf
    by_cases hn : zwd (s0 9) T 5 σ = -1
    · obtain ⟨s', q1, q2⟩ := fin σ s x2 (zwd (s0 9) T 5 σ) x4 h
      refine ⟨σ, s', ?_, q2, refl σ, fun p a e => ?_⟩
      · by_cases e : x4 < 400
        · exact zb_67_12 (fun _ => zb_67_15 (fun _ => q1) (fun q => absurd hn q)) (fun q => absurd e q)
        · exact zb_67_12 (fun q => absurd q e) (fun _ => q1)
      · subst e
        exact zwd_5.mp hn
    · match σ, h, hm, hn with
      | .inr f, h, hm, hn => exact absurd rfl hn
      | .inl (p, a), h, hm, hn =>
        have h0 := h.1
        obtain ⟨hp4, hpm⟩ := hm p a rfl
        have hj : zg_jn (s0 9) T p := Decidable.not_not.mp (fun q => hn (zwd_5.mpr q))
        have hk97 : zg_kind (s0 9) T p = 97 := hj.elim (fun z => z.1) (fun z => z.1)
        have hpT : p < T := by
          rcases Int.lt_or_le p T with z | z
          · exact z
          · have := zg_kend (b := s0 9) z
            omega
        have hx : x4 < 400 := by have := hc.2.2.2.1; omega
        have hnl := zg_nx_le (b := s0 9) (T := T) hc.1 hc.2.2.2.1 h0.1
        have hst1 : zg_st (s0 9) T (5, 0, p, a, l, st) = .inl (4, 0, zg_nx (s0 9) T p, a, l, st) := by
          rcases hst with rfl | ⟨t, rfl⟩
          · show (if zg_jn (s0 9) T p then _ else _) = _
            rw [if_pos hj]
          · show (if zg_kind (s0 9) T p = 93 then _ else if zg_jn (s0 9) T p then _ else _) = _
            rw [if_neg (by omega), if_pos hj]
        obtain ⟨s1, n1, n2⟩ := zo_next hc h
        generalize zwd (s0 9) T 5 (.inl (p, a)) = x3 at hn ⊢
        have on : ∀ (s2 : zS), zSt s0 r T (.inl (zg_nx (s0 9) T p, a)) s2 → ∃ σ' s', zA xm_c67 31 [39, ((st.length : Nat) : Int), x2, x3, x4] [] s2 (0, s') ∧ zSt s0 r T σ' s' ∧ zRl (s0 9) T (fun p a => (5, 0, p, a, l, st)) (fun p a => (5, 0, p, a, l, st)) (.inl (p, a)) σ' ∧ ∀ p a, σ' = .inl (p, a) → ¬ zg_jn (s0 9) T p := by
          intro s2 h2
          obtain ⟨σ3, s3, v1, v2, v3⟩ := hF _ s2 h2
          have both := zRl_tr (A := fun p a => (5, 0, p, a, l, st)) (B := fun p a => (4, 0, p, a, l, st)) (σ := .inl (p, a)) (σ1 := .inl (zg_nx (s0 9) T p, a)) ⟨hnl.1, zg_one hst1⟩ v3
          have nxt : ∀ (s4 : zS) (y2 : Int), zSt s0 r T σ3 s4 → ∃ σ' s', zA xm_c67 12 [39, ((st.length : Nat) : Int), y2, zwd (s0 9) T 5 σ3, x4 + 1] [] s4 (0, s') ∧ zSt s0 r T σ' s' ∧ zRl (s0 9) T (fun p a => (5, 0, p, a, l, st)) (fun p a => (5, 0, p, a, l, st)) σ3 σ' ∧ ∀ p a, σ' = .inl (p, a) → ¬ zg_jn (s0 9) T p := by
            intro s4 y2 h4'
            refine ih σ3 s4 y2 (x4 + 1) h4' (by omega) (fun p' a' e => ?_) (fun f e => by omega)
            subst e
            have hv := v3.1
            have := hnl.2.2 (by omega)
            omega
          have p41 : ∀ s4, zSt s0 r T σ3 s4 → ∃ σ' s', zA xm_c67 41 [39, ((st.length : Nat) : Int), x2, x3, x4] [] s4 (0, s') ∧ zSt s0 r T σ' s' ∧ zRl (s0 9) T (fun p a => (5, 0, p, a, l, st)) (fun p a => (5, 0, p, a, l, st)) σ3 σ' ∧ ∀ p a, σ' = .inl (p, a) → ¬ zg_jn (s0 9) T p := by
            intro s4 h4'
            have hw := zo_word hc h4' (k := 5) (by omega) (by omega)
            have hx4 : zw (x4 + 1) = x4 + 1 := zw_id (by omega) (by omega)
            by_cases e1 : x3 = 1
            · obtain ⟨σ', s', u1, u2, u3⟩ := nxt s4 (zor x2 1) h4'
              exact ⟨σ', s', zb_67_41 (fun _ => zb_67_45 hw (zb_67_54 (by rw [hx4]; exact u1))) (fun q => absurd e1 q), u2, u3⟩
            · obtain ⟨σ', s', u1, u2, u3⟩ := nxt s4 (zor x2 0) h4'
              exact ⟨σ', s', zb_67_41 (fun q => absurd q e1) (fun _ => zb_67_47 hw (zb_67_54 (by rw [hx4]; exact u1))), u2, u3⟩
          by_cases e0 : x3 = 0
          · obtain ⟨s4, w1, w2⟩ := zo_emit hc v2 (op := 12) (arg := 0)
            rw [← v2.rl] at w1
            obtain ⟨σ', s', u1, u2, u3, u4⟩ := p41 s4 w2
            exact ⟨σ', s', zb_67_31 v1 (zb_67_34 (fun _ => zb_67_36 w1 u1) (fun q => absurd e0 q)), u2, zRl_tr both u3, u4⟩
          · obtain ⟨σ', s', u1, u2, u3, u4⟩ := p41 s3 v2
            exact ⟨σ', s', zb_67_31 v1 (zb_67_34 (fun q => absurd q e0) (fun _ => u1)), u2, zRl_tr both u3, u4⟩
        by_cases e1 : x3 = 1
        · by_cases e2 : x2 = 0
          · obtain ⟨σ', s', u1, u2⟩ := on s1 n2
            exact ⟨σ', s', zb_67_12 (fun _ => zb_67_15 (fun q => absurd q hn) (fun _ => zb_67_18 n1 (zb_67_21 (fun _ => zb_67_24 (fun _ => u1) (fun q => absurd e2 q)) (fun q => absurd e1 q)))) (fun q => absurd hx q), u2⟩
          · obtain ⟨s2, w1, w2⟩ := zo_emit hc n2 (op := 13) (arg := 0)
            rw [← n2.rl] at w1
            obtain ⟨σ', s', u1, u2⟩ := on s2 w2
            exact ⟨σ', s', zb_67_12 (fun _ => zb_67_15 (fun q => absurd q hn) (fun _ => zb_67_18 n1 (zb_67_21 (fun _ => zb_67_24 (fun q => absurd q e2) (fun _ => zb_67_26 w1 u1)) (fun q => absurd e1 q)))) (fun q => absurd hx q), u2⟩
        · obtain ⟨σ', s', u1, u2⟩ := on s1 n2
          exact ⟨σ', s', zb_67_12 (fun _ => zb_67_15 (fun q => absurd q hn) (fun _ => zb_67_18 n1 (zb_67_21 (fun q => absurd q e1) (fun _ => u1)))) (fun q => absurd hx q), u2⟩
theorem zo_test1 (hc : zCx s0 r T) {l : Int} {st : List Bool} (hst : st = [] ∨ ∃ t, st = true :: t) (hF : zPF s0 r T l st) : zPT s0 r T l st := by
  intro σ s h
  obtain ⟨σ1, s1, v1, v2, v3⟩ := hF σ s h
  have hw := zo_word hc v2 (k := 5) (by omega) (by omega)
  obtain ⟨σ2, s2, w1, w2, w3, w4⟩ := zo_testloop hc hst hF ((T + 2).toNat) σ1 s1 0 0 v2 (by omega) (fun p a e => by
    subst e
    have := v2.1
    omega) (fun f e => by have := hc.2.2.1; omega)
  exact ⟨σ2, s2, zb_67_0 v1 (zb_67_3 hw (zb_67_9 w1)), w2, zRl_tr v3 w3, w4⟩
theorem zo_fact1 (hc : zCx s0 r T) {l : Int} {st : List Bool} (hlen : st.length ≤ 10) (hF : st.length < 10 → zPF s0 r T l (false :: st)) (hT : st.length < 10 → zPT s0 r T l (true :: st)) : zPF s0 r T l st := by
  intro σ s h
  have hw := zo_word hc h (k := 4) (by omega) (by omega)
  have hk := h.kd
  have cmp : zwd (s0 9) T 4 σ = -1 → zkd (s0 9) T σ ≠ 91 → (∀ σ', zRl (s0 9) T (fun p a => (1, 1, p, a, l, st)) (fun p a => (5, 0, p, a, l, st)) σ σ' → zRl (s0 9) T (fun p a => (4, 0, p, a, l, st)) (fun p a => (5, 0, p, a, l, st)) σ σ') → ∃ σ' s', zE xm_c68 [39, ((st.length : Nat) : Int), 0] s 0 s' ∧ zSt s0 r T σ' s' ∧ zRl (s0 9) T (fun p a => (4, 0, p, a, l, st)) (fun p a => (5, 0, p, a, l, st)) σ σ' := by
    intro hw1 hk1 hr
    obtain ⟨σ', s', v1, v2, v3⟩ := zo_compare hc l st h
    rw [hw1] at hw
    exact ⟨σ', s', zb_68_0 hw (zb_68_4 (fun _ => zb_68_8 (fun _ => zb_68_12 (fun q => absurd (show s 8 2 = 91 from q) (by rw [hk]; exact hk1)) (fun _ => zb_68_17 v1 (zb_68_19 rfl))) (fun q => absurd rfl q)) (fun q => absurd rfl q)), v2, hr σ' v3⟩
  match σ, h, hw, hk, cmp with
  | .inr f, h, hw, hk, cmp => exact cmp rfl (by show (-2 : Int) ≠ 91; decide) (fun σ' z => z)
  | .inl (p, a), h, hw, hk, cmp =>
    have h0 := h.1
    have hk : s 8 2 = zg_kind (s0 9) T p := hk
    have hnl := zg_nx_le (b := s0 9) (T := T) hc.1 hc.2.2.2.1 h0.1
    have hwd : zwd (s0 9) T 4 (.inl (p, a)) = -1 ↔ ¬ zg_is (s0 9) T p yw_not := zwd_1 (by decide)
    have hst : zg_st (s0 9) T (4, 0, p, a, l, st) = if zg_is (s0 9) T p yw_not then (if st.length = 10 then zg_fl 2 p else .inl (4, 0, zg_nx (s0 9) T p, a, l, false :: st)) else if zg_kind (s0 9) T p = 91 then (if st.length = 10 then zg_fl 2 p else .inl (4, 0, zg_nx (s0 9) T p, a, l, true :: st)) else .inl (1, 1, p, a, l, st) := rfl
    have deep : zg_st (s0 9) T (4, 0, p, a, l, st) = zg_fl 2 p → (∀ s', zE xm_c81 [8, 2] s 0 s' → zE xm_c68 [39, ((st.length : Nat) : Int), 0] s 0 s') → ∃ σ' s', zE xm_c68 [39, ((st.length : Nat) : Int), 0] s 0 s' ∧ zSt s0 r T σ' s' ∧ zRl (s0 9) T (fun p a => (4, 0, p, a, l, st)) (fun p a => (5, 0, p, a, l, st)) (.inl (p, a)) σ' := by
      intro hs hrun
      obtain ⟨s1, q1, q2⟩ := zo_fail hc h (c := 2) (by omega) (by omega)
      exact ⟨.inr (1 + 8 * p + 2), s1, hrun s1 q1, q2, zg_stop hs⟩
    by_cases hnot : zg_is (s0 9) T p yw_not
    · have hx : ¬ zwd (s0 9) T 4 (.inl (p, a)) = -1 := fun q => hwd.mp q hnot
      by_cases e10 : st.length = 10
      · exact deep (by rw [hst, if_pos hnot, if_pos e10]) (fun s' q1 => zb_68_0 hw (zb_68_4 (fun q => absurd q hx) (fun _ => zb_68_6 (fun q => absurd q (by decide)) (fun _ => zb_68_20 (fun q => absurd q (by omega)) (fun _ => zb_68_23 q1 (zb_68_27 rfl))))))
      · obtain ⟨s1, n1, n2⟩ := zo_next hc h
        obtain ⟨σ2, s2, v1, v2, v3⟩ := hF (by omega) _ s1 n2
        obtain ⟨s3, w1, w2⟩ := zo_emit hc v2 (op := 14) (arg := 0)
        rw [← v2.rl] at w1
        have hz : zw (((st.length : Nat) : Int) + 1) = (((false :: st).length : Nat) : Int) := by
          rw [zw_id (by omega) (by omega)]
          rfl
        rw [← hz] at v1
        refine ⟨σ2, s3, zb_68_0 hw (zb_68_4 (fun q => absurd q hx) (fun _ => zb_68_6 (fun q => absurd q (by decide)) (fun _ => zb_68_20 (fun _ => zb_68_28 (fun q => absurd q (by decide)) (fun _ => zb_68_30 n1 (zb_68_33 v1 (zb_68_38 w1 (zb_68_43 rfl))))) (fun q => absurd (show ((st.length : Nat) : Int) < 10 by omega) q)))), w2, zRl_tr (B := fun p a => (4, 0, p, a, l, false :: st)) (σ1 := .inl (zg_nx (s0 9) T p, a)) ⟨hnl.1, zg_one (by rw [hst, if_pos hnot, if_neg e10])⟩ (zRl_tr v3 ?_)⟩
        match σ2 with
        | .inr f => exact rfl
        | .inl (p', a') => exact ⟨Int.le_refl _, zg_one rfl⟩
    · have hx := hwd.mpr hnot
      by_cases e91 : zg_kind (s0 9) T p = 91
      · rw [hx] at hw
        by_cases e10 : st.length = 10
        · exact deep (by rw [hst, if_neg hnot, if_pos e91, if_pos e10]) (fun s' q1 => zb_68_0 hw (zb_68_4 (fun _ => zb_68_8 (fun _ => zb_68_12 (fun _ => zb_68_20 (fun q => absurd q (by omega)) (fun _ => zb_68_23 q1 (zb_68_27 rfl))) (fun q => absurd (show s 8 2 = 91 by rw [hk]; exact e91) q)) (fun q => absurd rfl q)) (fun q => absurd rfl q)))
        · obtain ⟨s1, n1, n2⟩ := zo_next hc h
          obtain ⟨σ2, s2, v1, v2, v3, v4⟩ := hT (by omega) _ s1 n2
          have hz : zw (((st.length : Nat) : Int) + 1) = (((true :: st).length : Nat) : Int) := by
            rw [zw_id (by omega) (by omega)]
            rfl
          rw [← hz] at v1
          have pre : ∀ s', zA xm_c68 52 [39, ((st.length : Nat) : Int), 0] [] s2 (0, s') → zE xm_c68 [39, ((st.length : Nat) : Int), 0] s 0 s' := fun s' z => zb_68_0 hw (zb_68_4 (fun _ => zb_68_8 (fun _ => zb_68_12 (fun _ => zb_68_20 (fun _ => zb_68_28 (fun _ => zb_68_44 n1 (zb_68_47 v1 z)) (fun q => absurd rfl q)) (fun q => absurd (show ((st.length : Nat) : Int) < 10 by omega) q)) (fun q => absurd (show s 8 2 = 91 by rw [hk]; exact e91) q)) (fun q => absurd rfl q)) (fun q => absurd rfl q))
          have first := zRl_tr (A := fun p a => (4, 0, p, a, l, st)) (B := fun p a => (4, 0, p, a, l, true :: st)) (σ := .inl (p, a)) (σ1 := .inl (zg_nx (s0 9) T p, a)) ⟨hnl.1, zg_one (by rw [hst, if_neg hnot, if_pos e91, if_neg e10])⟩ v3
          have hk2 := v2.kd
          match σ2, v2, v4, first, hk2 with
          | .inr f, v2, v4, first, hk2 =>
            obtain ⟨s3, q1, q2⟩ := zo_fail hc v2 (c := 0) (by omega) (by omega)
            obtain ⟨s4, q3, q4⟩ := zo_next hc q2
            refine ⟨.inr f, s4, pre s4 (zb_68_52 (fun q => absurd (show s2 8 2 = 93 from q) (by rw [hk2]; show (-2 : Int) ≠ 93; decide)) (fun _ => zb_68_57 q1 (zb_68_61 q3 (zb_68_64 rfl)))), q4, zRl_tr first rfl⟩
          | .inl (p', a'), v2, v4, first, hk2 =>
            have hk2 : s2 8 2 = zg_kind (s0 9) T p' := hk2
            have nj := v4 p' a' rfl
            have hst2 : zg_st (s0 9) T (5, 0, p', a', l, true :: st) = if zg_kind (s0 9) T p' = 93 then .inl (5, 0, zg_nx (s0 9) T p', a', l, st) else if zg_jn (s0 9) T p' then .inl (4, 0, zg_nx (s0 9) T p', a', l, true :: st) else zg_fl 0 p' := rfl
            by_cases e93 : zg_kind (s0 9) T p' = 93
            · obtain ⟨s4, q3, q4⟩ := zo_next hc v2
              have hnl2 := zg_nx_le (b := s0 9) (T := T) hc.1 hc.2.2.2.1 v2.1.1
              exact ⟨.inl (zg_nx (s0 9) T p', a'), s4, pre s4 (zb_68_52 (fun _ => zb_68_61 q3 (zb_68_64 rfl)) (fun q => absurd (show s2 8 2 = 93 by rw [hk2]; exact e93) q)), q4, zRl_tr first ⟨hnl2.1, zg_one (by rw [hst2, if_pos e93])⟩⟩
            · obtain ⟨s3, q1, q2⟩ := zo_fail hc v2 (c := 0) (by omega) (by omega)
              obtain ⟨s4, q3, q4⟩ := zo_next hc q2
              exact ⟨.inr (1 + 8 * p' + 0), s4, pre s4 (zb_68_52 (fun q => absurd (show s2 8 2 = 93 from q) (by rw [hk2]; exact e93)) (fun _ => zb_68_57 q1 (zb_68_61 q3 (zb_68_64 rfl)))), q4, zRl_tr first (zg_stop (by rw [hst2, if_neg e93, if_neg nj]; rfl))⟩
      · refine cmp hx e91 (fun σ' z => zRl_tr (B := fun p a => (1, 1, p, a, l, st)) (σ1 := .inl (p, a)) ⟨Int.le_refl _, zg_one (by rw [hst, if_neg hnot, if_neg e91])⟩ z)
theorem zo_fact (hc : zCx s0 r T) (l : Int) : ∀ (n : Nat) (st : List Bool), st.length + n = 10 → zPF s0 r T l st
  | 0, st, h => zo_fact1 hc (by omega) (fun q => absurd q (by omega)) (fun q => absurd q (by omega))
  | n + 1, st, h => zo_fact1 hc (by omega) (fun q => zo_fact hc l n (false :: st) (by show st.length + 1 + n = 10; omega)) (fun q => zo_test1 hc (Or.inr ⟨st, rfl⟩) (zo_fact hc l n (true :: st) (by show st.length + 1 + n = 10; omega)))
theorem zo_test (hc : zCx s0 r T) (l : Int) : zPT s0 r T l [] := zo_test1 hc (Or.inl rfl) (zo_fact hc l 10 [] rfl)
end ZF
