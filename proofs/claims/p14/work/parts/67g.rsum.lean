/-! readValue, readSum, readComparison -/
theorem yg_ixm {tok : List Int} : ∀ (ws : List (List Nat)) (k : Int), 0 ≤ k → (yg_ix tok ws k = -1 ↔ tok ∉ ws.map yg_i)
  | [], k, _ => ⟨fun _ h => (by cases h), fun _ => rfl⟩
  | w :: ws, k, hk => by
    show (if tok = yg_i w then k else yg_ix tok ws (k + 1)) = -1 ↔ _
    rw [List.map_cons, List.mem_cons]
    by_cases e : tok = yg_i w
    · rw [if_pos e]
      exact ⟨fun h => by omega, fun h => absurd (Or.inl e) h⟩
    · rw [if_neg e, yg_ixm ws (k + 1) (by omega)]
      exact ⟨fun h q => q.elim e h, fun h q => h (Or.inr q)⟩
theorem yg_all : (yg_sw 2).map yg_i = yw_all := by decide
def zar (k : Int) : Int := if k = 43 then 2 else if k = 45 then 3 else if k = 42 then 4 else if k = 47 then 5 else if k = 37 then 6 else -1
theorem zar_n {k : Int} : zar k = -1 ↔ ¬ zg_ar k := by
  unfold zar zg_ar
  by_cases e1 : k = 43
  · simp [e1]
  by_cases e2 : k = 45
  · simp [e2]
  by_cases e3 : k = 42
  · simp [e3]
  by_cases e4 : k = 47
  · simp [e4]
  by_cases e5 : k = 37
  · simp [e5]
  simp [e1, e2, e3, e4, e5]
theorem zo_ar {k : Int} {s : zS} : zE xm_c72 [k] s (zar k) s := by
  refine zb_72_0 ?_
  unfold zar
  by_cases e1 : k = 43
  · rw [if_pos e1]; exact zb_72_1_c43 e1 (zb_72_2 rfl)
  rw [if_neg e1]
  by_cases e2 : k = 45
  · rw [if_pos e2]; exact zb_72_1_c45 e2 (zb_72_4 rfl)
  rw [if_neg e2]
  by_cases e3 : k = 42
  · rw [if_pos e3]; exact zb_72_1_c42 e3 (zb_72_6 rfl)
  rw [if_neg e3]
  by_cases e4 : k = 47
  · rw [if_pos e4]; exact zb_72_1_c47 e4 (zb_72_8 rfl)
  rw [if_neg e4]
  by_cases e5 : k = 37
  · rw [if_pos e5]; exact zb_72_1_c37 e5 (zb_72_10 rfl)
  rw [if_neg e5]
  by_cases f1 : k = 38
  · exact zb_72_1_c38 f1 (zb_72_12 rfl)
  by_cases f2 : k = 39
  · exact zb_72_1_c39 f2 (zb_72_12 rfl)
  by_cases f3 : k = 40
  · exact zb_72_1_c40 f3 (zb_72_12 rfl)
  by_cases f4 : k = 41
  · exact zb_72_1_c41 f4 (zb_72_12 rfl)
  by_cases f5 : k = 44
  · exact zb_72_1_c44 f5 (zb_72_12 rfl)
  by_cases f6 : k = 46
  · exact zb_72_1_c46 f6 (zb_72_12 rfl)
  exact zb_72_1_d (by omega) (zb_72_12 rfl)
section ZD
variable {s0 : zS} {r T : Int}
theorem zo_ark {σ : zSg} {s : zS} (h : zSt s0 r T σ s) : zE xm_c72 [s (39 + (-31)) 2] s (zar (zkd (s0 9) T σ)) s := by
  have := h.kd
  show zE xm_c72 [s 8 2] s _ s
  rw [this]
  exact zo_ar
/-- behind a fault nothing more comes of a step -/
theorem zo_stop (hc : zCx s0 r T) {σ : zSg} {s s1 : zS} (h : zSt s0 r T σ s) {c : Int} (hc0 : 0 ≤ c) (hc4 : c ≤ 4) : ∃ f s1 s2, zfl c σ = .inr f ∧ zE xm_c81 [8, c] s 0 s1 ∧ (s1 39 1 = r) ∧ zE xm_c82 [8, 0, 0] (zu s1 39 2 (zw (s1 39 2 + 1))) 0 s2 ∧ zSt s0 r T (.inr f) s2 := by
  obtain ⟨s1, h1, h2⟩ := zo_fail hc h hc0 hc4
  have hf : ∃ f, zfl c σ = .inr f := by
    match σ with
    | .inl (p, a) => exact ⟨_, rfl⟩
    | .inr f => exact ⟨_, rfl⟩
  obtain ⟨f, hf⟩ := hf
  rw [hf] at h2
  obtain ⟨s2, h3, h4⟩ := zo_next hc (h2.incd (v := zw (s1 39 2 + 1)))
  exact ⟨f, s1, s2, hf, h1, h2.rl, h3, h4⟩
theorem zo_value (hc : zCx s0 r T) (k : Nat) (l : Int) (st : List Bool) {σ : zSg} {s : zS} (h : zSt s0 r T σ s) : ∃ σ' s', zE xm_c73 [39, 0] s 0 s' ∧ zSt s0 r T σ' s' ∧ zRl (s0 9) T (fun p a => (1, k, p, a, l, st)) (fun p a => (2, k, p, a, l, st)) σ σ' := by
  have hw := zo_word hc h (k := 2) (by omega) (by omega)
  have bad : ∀ c, 0 ≤ c → c ≤ 4 → ∃ f s2, zfl c σ = .inr f ∧ zSt s0 r T (.inr f) s2 ∧ (∃ s1, zE xm_c81 [8, c] s 0 s1 ∧ zE xm_c82 [8, 0, 0] (zu s1 39 2 (zw (s1 39 2 + 1))) 0 s2) := by
    intro c hc0 hc4
    obtain ⟨f, s1, s2, q1, q2, -, q4, q5⟩ := zo_stop (s1 := s) hc h hc0 hc4
    exact ⟨f, s2, q1, q5, s1, q2, q4⟩
  have hk := h.kd
  match σ, h, hw, hk, bad with
  | .inr f, h, hw, hk, bad =>
    obtain ⟨f', s2, q1, q2, s1, q3, q4⟩ := bad 0 (by omega) (by omega)
    have q1 : (Sum.inr f : zSg) = .inr f' := q1
    cases q1
    refine ⟨.inr f, s2, zb_73_0 hw (zb_73_4 (fun _ => zb_73_8 (fun q => ?_) (fun _ => zb_73_13 q3 (zb_73_17 q4 (zb_73_67 rfl)))) (fun q => absurd rfl q)), q2, rfl⟩
    have q : s 8 2 = 48 := q
    rw [hk] at q
    exact absurd q (by show ¬ (-2 : Int) = 48; decide)
  | .inl (p, a), h, hw, hk, bad =>
    have h0 := h.1
    have ham := h.am
    have hsz := h.sz
    have hr := h.rl
    have hk : s 8 2 = zg_kind (s0 9) T p := hk
    have hwd : zwd (s0 9) T 2 (.inl (p, a)) = -1 ↔ ¬ zg_any (s0 9) T p := by
      show (if zg_kind (s0 9) T p = 97 then yg_ix (zg_w (s0 9) p (zg_te (s0 9) T p)) (yg_sw 2) 0 else -1) = -1 ↔ _
      by_cases e : zg_kind (s0 9) T p = 97
      · rw [if_pos e, yg_ixm _ _ (by omega), yg_all]
        exact ⟨fun q z => q z.2, fun q z => q ⟨e, z⟩⟩
      · rw [if_neg e]
        exact ⟨fun _ z => e z.1, fun _ => rfl⟩
    generalize zwd (s0 9) T 2 (.inl (p, a)) = w at hw hwd
    -- with a fault
    have no : ∀ c, 0 ≤ c → c ≤ 4 → zg_st (s0 9) T (1, k, p, a, l, st) = zg_fl c p → (∀ (s1 s2 : zS), zE xm_c81 [8, c] s 0 s1 → zE xm_c82 [8, 0, 0] (zu s1 39 2 (zw (s1 39 2 + 1))) 0 s2 → zE xm_c73 [39, 0] s 0 s2) → ∃ σ' s', zE xm_c73 [39, 0] s 0 s' ∧ zSt s0 r T σ' s' ∧ zRl (s0 9) T (fun p a => (1, k, p, a, l, st)) (fun p a => (2, k, p, a, l, st)) (.inl (p, a)) σ' := by
      intro c hc0 hc4 hst hrun
      obtain ⟨f', s2, q1, q2, s1, q3, q4⟩ := bad c hc0 hc4
      have q1 : (Sum.inr (1 + 8 * p + c) : zSg) = .inr f' := q1
      cases q1
      exact ⟨.inr (1 + 8 * p + c), s2, hrun s1 s2 q3 q4, q2, zg_stop hst⟩
    -- without
    have yes : a < 60 → zg_st (s0 9) T (1, k, p, a, l, st) = .inl (2, k, zg_nx (s0 9) T p, a + 1, l, st) → ∀ (op arg : Int), (∀ (s1 s2 : zS), zE xm_c60 [r, op, arg] s 0 s1 → zE xm_c82 [8, 0, 0] (zu s1 39 2 (zw (s1 39 2 + 1))) 0 s2 → zE xm_c73 [39, 0] s 0 s2) → ∃ σ' s', zE xm_c73 [39, 0] s 0 s' ∧ zSt s0 r T σ' s' ∧ zRl (s0 9) T (fun p a => (1, k, p, a, l, st)) (fun p a => (2, k, p, a, l, st)) (.inl (p, a)) σ' := by
      intro ha hst op arg hrun
      obtain ⟨s1, q1, q2⟩ := zo_emit hc h (op := op) (arg := arg)
      obtain ⟨s2, q3, q4⟩ := zo_next hc (q2.inc ha)
      exact ⟨.inl (zg_nx (s0 9) T p, a + 1), s2, hrun s1 s2 q1 q3, q4, (zg_nx_le hc.1 hc.2.2.2.1 h0.1).1, zg_one hst⟩
    by_cases e48 : zg_kind (s0 9) T p = 48
    · have nany : ¬ zg_any (s0 9) T p := fun z => by have := z.1; omega
      have w1 := hwd.mpr nany
      subst w1
      by_cases e5 : 5 < zg_te (s0 9) T p - p
      · refine no 1 (by omega) (by omega) ?_ (fun s1 s2 q1 q2 => ?_)
        · show (if zg_kind (s0 9) T p = 48 then _ else _) = _
          rw [if_pos e48, if_pos e5]
        · exact zb_73_0 hw (zb_73_4 (fun _ => zb_73_8 (fun _ => zb_73_18 (fun _ => zb_73_23 (fun _ => zb_73_28 q1 (zb_73_32 q2 (zb_73_67 rfl))) (fun q => absurd (show 5 < s 8 4 by rw [hsz]; exact e5) q)) (fun q => absurd (show s 8 2 = 48 by rw [hk]; exact e48) q)) (fun q => absurd (show s 8 2 = 48 by rw [hk]; exact e48) q)) (fun q => absurd rfl q))
      · have e5' : ¬ 5 < s 8 4 := by rw [hsz]; exact e5
        by_cases e60 : a = 60
        · refine no 3 (by omega) (by omega) ?_ (fun s1 s2 q1 q2 => ?_)
          · show (if zg_kind (s0 9) T p = 48 then _ else _) = _
            rw [if_pos e48, if_neg e5, if_pos e60]
          · exact zb_73_0 hw (zb_73_4 (fun _ => zb_73_8 (fun _ => zb_73_18 (fun _ => zb_73_23 (fun q => absurd q e5') (fun _ => zb_73_33 (fun q => absurd q (by rw [ham]; omega)) (fun _ => zb_73_37 q1 (zb_73_41 q2 (zb_73_67 rfl))))) (fun q => absurd (show s 8 2 = 48 by rw [hk]; exact e48) q)) (fun q => absurd (show s 8 2 = 48 by rw [hk]; exact e48) q)) (fun q => absurd rfl q))
        · obtain ⟨v, hv⟩ := zo_val (s := s)
          refine yes (by omega) ?_ 0 v (fun s1 s2 q1 q2 => ?_)
          · show (if zg_kind (s0 9) T p = 48 then _ else _) = _
            rw [if_pos e48, if_neg e5, if_neg e60]
          · rw [← hr] at q1
            exact zb_73_0 hw (zb_73_4 (fun _ => zb_73_8 (fun _ => zb_73_18 (fun _ => zb_73_23 (fun q => absurd q e5') (fun _ => zb_73_33 (fun _ => zb_73_42 (fun _ => zb_73_51 hv (zb_73_57 q1 (zb_73_58 q2 (zb_73_67 rfl)))) (fun q => absurd rfl q)) (fun q => absurd (show s 39 2 < 60 by rw [ham]; omega) q))) (fun q => absurd (show s 8 2 = 48 by rw [hk]; exact e48) q)) (fun q => absurd (show s 8 2 = 48 by rw [hk]; exact e48) q)) (fun q => absurd rfl q))
    · have e48' : ¬ s 8 2 = 48 := by rw [hk]; exact e48
      by_cases any : zg_any (s0 9) T p
      · have w1 : w ≠ -1 := fun q => hwd.mp q any
        by_cases e60 : a = 60
        · refine no 3 (by omega) (by omega) ?_ (fun s1 s2 q1 q2 => ?_)
          · show (if zg_kind (s0 9) T p = 48 then _ else _) = _
            rw [if_neg e48, if_pos any, if_pos e60]
          · exact zb_73_0 hw (zb_73_4 (fun q => absurd q w1) (fun _ => zb_73_18 (fun q => absurd q e48') (fun _ => zb_73_33 (fun q => absurd q (by rw [ham]; omega)) (fun _ => zb_73_37 q1 (zb_73_41 q2 (zb_73_67 rfl))))))
        · refine yes (by omega) ?_ 1 w (fun s1 s2 q1 q2 => ?_)
          · show (if zg_kind (s0 9) T p = 48 then _ else _) = _
            rw [if_neg e48, if_pos any, if_neg e60]
          · rw [← hr] at q1
            exact zb_73_0 hw (zb_73_4 (fun q => absurd q w1) (fun _ => zb_73_18 (fun q => absurd q e48') (fun _ => zb_73_33 (fun _ => zb_73_42 (fun q => absurd q w1) (fun _ => zb_73_45 q1 (zb_73_50 q2 (zb_73_67 rfl)))) (fun q => absurd (show s 39 2 < 60 by rw [ham]; omega) q))))
      · have w1 := hwd.mpr any
        subst w1
        refine no 0 (by omega) (by omega) ?_ (fun s1 s2 q1 q2 => ?_)
        · show (if zg_kind (s0 9) T p = 48 then _ else _) = _
          rw [if_neg e48, if_neg any]
        · exact zb_73_0 hw (zb_73_4 (fun _ => zb_73_8 (fun q => absurd q e48') (fun _ => zb_73_13 q1 (zb_73_17 q2 (zb_73_67 rfl)))) (fun q => absurd rfl q))
/-- an emit that comes or not -/
theorem zo_sumloop (hc : zCx s0 r T) (k : Nat) (l : Int) (st : List Bool) : ∀ (m : Nat) (σ : zSg) (s : zS) (x1 x3 x4 : Int), zSt s0 r T σ s → 0 ≤ x3 → (∀ p a, σ = .inl (p, a) → x3 ≤ p ∧ (T - p).toNat < m) → (∀ f, σ = .inr f → 0 < m) → ∃ σ' s', zA xm_c71 11 [39, x1, zar (zkd (s0 9) T σ), x3, x4] [] s (0, s') ∧ zSt s0 r T σ' s' ∧ zRl (s0 9) T (fun p a => (2, k, p, a, l, st)) (fun p a => (3, k, p, a, l, st)) σ σ' := by
  -- the end
  have fin : ∀ (σ : zSg) (s : zS) (x1 x2 x3 x4 : Int), zSt s0 r T σ s → ∃ s', zA xm_c71 59 [39, x1, x2, x3, x4] [] s (0, s') ∧ zSt s0 r T σ s' := by
    intro σ s x1 x2 x3 x4 h
    by_cases e : x1 = -1
    · exact ⟨s, zb_71_59 (fun _ => zb_71_67 rfl) (fun q => absurd e q), h⟩
    · obtain ⟨s', q1, q2⟩ := zo_emit hc h (op := x1) (arg := 0)
      rw [← h.rl] at q1
      exact ⟨s', zb_71_59 (fun q => absurd q e) (fun _ => zb_71_62 q1 (zb_71_67 rfl)), q2⟩
  intro m
  induction m with
  | zero =>
    intro σ s x1 x3 x4 h h3 hm hf
    match σ, hm, hf with
    | .inl (p, a), hm, hf => exact absurd (hm p a rfl).2 (by omega)
    | .inr f, hm, hf => exact absurd (hf f rfl) (by omega)
  | succ m ih =>
    intro σ s x1 x3 x4 h h3 hm hf
    match σ, h, hm with
    | .inr f, h, hm =>
      obtain ⟨s', q1, q2⟩ := fin (.inr f) s x1 (zar (-2)) x3 x4 h
      refine ⟨.inr f, s', ?_, q2, rfl⟩
      by_cases e : x3 < 400
      · exact zb_71_11 (fun _ => zb_71_14 (fun _ => q1) (fun q => absurd (show zar (-2) = -1 by decide) q)) (fun q => absurd e q)
      · exact zb_71_11 (fun q => absurd q e) (fun _ => q1)
    | .inl (p, a), h, hm =>
      have h0 := h.1
      obtain ⟨hp3, hpm⟩ := hm p a rfl
      by_cases hn : zar (zg_kind (s0 9) T p) = -1
      · obtain ⟨s', q1, q2⟩ := fin (.inl (p, a)) s x1 (zar (zg_kind (s0 9) T p)) x3 x4 h
        refine ⟨.inl (p, a), s', ?_, q2, Int.le_refl _, zg_one ?_⟩
        · by_cases e : x3 < 400
          · exact zb_71_11 (fun _ => zb_71_14 (fun _ => q1) (fun q => absurd hn q)) (fun q => absurd e q)
          · exact zb_71_11 (fun q => absurd q e) (fun _ => q1)
        · show (if zg_ar (zg_kind (s0 9) T p) then _ else _) = _
          rw [if_neg (zar_n.mp hn)]
      · have har : zg_ar (zg_kind (s0 9) T p) := Decidable.not_not.mp (fun q => hn (zar_n.mpr q))
        have hke : zg_kind (s0 9) T p ≠ -1 := by
          intro q
          rw [q] at har
          rcases har with z | z | z | z | z <;> cases z
        have hpT : p < T := by
          rcases Int.lt_or_le p T with z | z
          · exact z
          · exact absurd (zg_kend z) hke
        have hx : x3 < 400 := by have := hc.2.2.2.1; omega
        have hnl := zg_nx_le (b := s0 9) (T := T) hc.1 hc.2.2.2.1 h0.1
        obtain ⟨s1, n1, n2⟩ := zo_next hc h
        -- from place 40 on
        have on : ∀ (s2 : zS) (x4 : Int), zSt s0 r T (.inl (zg_nx (s0 9) T p, a)) s2 → ∃ σ' s', zA xm_c71 40 [39, x1, zar (zg_kind (s0 9) T p), x3, x4] [] s2 (0, s') ∧ zSt s0 r T σ' s' ∧ zRl (s0 9) T (fun p a => (2, k, p, a, l, st)) (fun p a => (3, k, p, a, l, st)) (.inl (p, a)) σ' := by
          intro s2 x4 h2
          obtain ⟨σ3, s3, v1, v2, v3⟩ := zo_value hc k l st h2
          have step : zRl (s0 9) T (fun p a => (2, k, p, a, l, st)) (fun p a => (1, k, p, a, l, st)) (.inl (p, a)) (.inl (zg_nx (s0 9) T p, a)) := ⟨hnl.1, zg_one (by
            show (if zg_ar (zg_kind (s0 9) T p) then _ else _) = _
            rw [if_pos har])⟩
          have both := zRl_tr step v3
          have nxt : ∀ (s4 : zS) (y1 : Int), zSt s0 r T σ3 s4 → ∃ σ' s', zA xm_c71 11 [39, y1, zar (zkd (s0 9) T σ3), x3 + 1, x4] [] s4 (0, s') ∧ zSt s0 r T σ' s' ∧ zRl (s0 9) T (fun p a => (2, k, p, a, l, st)) (fun p a => (3, k, p, a, l, st)) σ3 σ' := by
            intro s4 y1 h4
            refine ih σ3 s4 y1 (x3 + 1) x4 h4 (by omega) (fun p' a' e => ?_) (fun f e => by omega)
            subst e
            have := both.1
            have hv := v3.1
            have := hnl.2.2 hke
            omega
          have hx1 : zw (x3 + 1) = x3 + 1 := zw_id (by omega) (by omega)
          by_cases e4 : x4 = 0
          · obtain ⟨s4, w1, w2⟩ := zo_emit hc v2 (op := zar (zg_kind (s0 9) T p)) (arg := 0)
            rw [← v2.rl] at w1
            obtain ⟨σ', s', u1, u2, u3⟩ := nxt s4 x1 w2
            refine ⟨σ', s', zb_71_40 v1 (zb_71_42 (fun _ => zb_71_47 w1 (zb_71_52 (zo_ark w2) (zb_71_56 (by rw [hx1]; exact u1)))) (fun q => absurd e4 q)), u2, zRl_tr both u3⟩
          · obtain ⟨σ', s', u1, u2, u3⟩ := nxt s3 (zar (zg_kind (s0 9) T p)) v2
            refine ⟨σ', s', zb_71_40 v1 (zb_71_42 (fun q => absurd q e4) (fun _ => zb_71_44 (zo_ark v2) (zb_71_56 (by rw [hx1]; exact u1)))), u2, zRl_tr both u3⟩
        have p30 : ∀ x4, ∃ σ' s', zA xm_c71 30 [39, x1, zar (zg_kind (s0 9) T p), x3, x4] [] s1 (0, s') ∧ zSt s0 r T σ' s' ∧ zRl (s0 9) T (fun p a => (2, k, p, a, l, st)) (fun p a => (3, k, p, a, l, st)) (.inl (p, a)) σ' := by
          intro x4
          by_cases e4 : x4 = 0
          · obtain ⟨σ', s', u1, u2, u3⟩ := on s1 x4 n2
            exact ⟨σ', s', zb_71_30 (fun _ => u1) (fun q => absurd e4 q), u2, u3⟩
          · by_cases e1 : x1 = -1
            · obtain ⟨σ', s', u1, u2, u3⟩ := on s1 x4 n2
              exact ⟨σ', s', zb_71_30 (fun q => absurd q e4) (fun _ => zb_71_32 (fun _ => u1) (fun q => absurd e1 q)), u2, u3⟩
            · obtain ⟨s2, w1, w2⟩ := zo_emit hc n2 (op := x1) (arg := 0)
              rw [← n2.rl] at w1
              obtain ⟨σ', s', u1, u2, u3⟩ := on s2 x4 w2
              exact ⟨σ', s', zb_71_30 (fun q => absurd q e4) (fun _ => zb_71_32 (fun q => absurd q e1) (fun _ => zb_71_35 w1 u1)), u2, u3⟩
        show ∃ σ' s', zA xm_c71 11 [39, x1, zar (zg_kind (s0 9) T p), x3, x4] [] s (0, s') ∧ _
        by_cases e2 : zar (zg_kind (s0 9) T p) = 2
        · obtain ⟨σ', s', u1, u2, u3⟩ := p30 1
          exact ⟨σ', s', zb_71_11 (fun _ => zb_71_14 (fun q => absurd q hn) (fun _ => zb_71_17 (fun _ => zb_71_23 n1 u1) (fun q => absurd e2 q))) (fun q => absurd hx q), u2, u3⟩
        · by_cases e3 : zar (zg_kind (s0 9) T p) = 3
          · obtain ⟨σ', s', u1, u2, u3⟩ := p30 1
            exact ⟨σ', s', zb_71_11 (fun _ => zb_71_14 (fun q => absurd q hn) (fun _ => zb_71_17 (fun q => absurd q e2) (fun _ => zb_71_20 (fun _ => zb_71_23 n1 u1) (fun q => absurd e3 q)))) (fun q => absurd hx q), u2, u3⟩
          · obtain ⟨σ', s', u1, u2, u3⟩ := p30 0
            exact ⟨σ', s', zb_71_11 (fun _ => zb_71_14 (fun q => absurd q hn) (fun _ => zb_71_17 (fun q => absurd q e2) (fun _ => zb_71_20 (fun q => absurd q e3) (fun _ => zb_71_25 n1 u1)))) (fun q => absurd hx q), u2, u3⟩
theorem zo_sum (hc : zCx s0 r T) (k : Nat) (l : Int) (st : List Bool) {σ : zSg} {s : zS} (h : zSt s0 r T σ s) : ∃ σ' s', zE xm_c71 [39, 0, 0, 0, 0] s 0 s' ∧ zSt s0 r T σ' s' ∧ zRl (s0 9) T (fun p a => (1, k, p, a, l, st)) (fun p a => (3, k, p, a, l, st)) σ σ' := by
  obtain ⟨σ1, s1, v1, v2, v3⟩ := zo_value hc k l st h
  obtain ⟨σ2, s2, w1, w2, w3⟩ := zo_sumloop hc k l st ((T + 2).toNat) σ1 s1 (-1) 0 0 v2 (by omega) (fun p a e => by
    subst e
    have := v2.1
    omega) (fun f e => by have := hc.2.2.1; omega)
  refine ⟨σ2, s2, zb_71_0 v1 (zb_71_2 (zo_ark v2) (zb_71_8 w1)), w2, zRl_tr v3 w3⟩
end ZD
