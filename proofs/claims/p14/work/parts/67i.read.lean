/-! RuleReader.read -/
def zOk (f : Int) (σ : zSg) : Prop := σ = .inr f ∨ (f = 0 ∧ ∃ p a, σ = .inl (p, a))
/-- how a clause ends: with all read, or with another clause to come -/
def zOut (b : Int → Int) (T : Int) (A : Int → Int → zQ) (l : Int) (σ σ' : zSg) (y : Int) : Prop := (y = 0 ∧ ∃ f, zOk f σ' ∧ (∀ p a, σ = .inl (p, a) → zg_end b T (A p a) f) ∧ (∀ g, σ = .inr g → f = g)) ∨ (y = 1 ∧ ∃ p' a', σ' = .inl (p', a') ∧ ∃ p a, σ = .inl (p, a) ∧ zg_to b T (A p a) (0, 0, p', a', l, []))
theorem zOut_tr {b : Int → Int} {T : Int} {A B : Int → Int → zQ} {l y : Int} {σ σ1 σ2 : zSg} (h : zRl b T A B σ σ1) (h' : zOut b T B l σ1 σ2 y) : zOut b T A l σ σ2 y := by
  match σ, σ1, h with
  | .inr f, σ1, h =>
    have h : σ1 = .inr f := h
    subst h
    rcases h' with ⟨e, f', y1, y2, y3⟩ | ⟨e, p', a', e', p, a, e'', y1⟩
    · exact Or.inl ⟨e, f', y1, fun p a e => (by cases e), fun g e => y3 g e⟩
    · cases e''
  | .inl (p, a), .inr f, h =>
    rcases h' with ⟨e, f', y1, y2, y3⟩ | ⟨e, p', a', e', p, a, e'', y1⟩
    · have ef := y3 f rfl
      subst ef
      refine Or.inl ⟨e, f', y1, fun p' a' e => ?_, fun g e => by cases e⟩
      cases e
      exact h
    · cases e''
  | .inl (p, a), .inl (p1, a1), h =>
    rcases h' with ⟨e, f', y1, y2, y3⟩ | ⟨e, p', a', e', p2, a2, e'', y1⟩
    · refine Or.inl ⟨e, f', y1, fun p' a' e => ?_, fun g e => by cases e⟩
      cases e
      exact zg_tend h.2 (y2 p1 a1 rfl)
    · cases e''
      exact Or.inr ⟨e, p', a', e', p, a, rfl, zg_trans h.2 y1⟩
section ZI
variable {s0 : zS} {r T : Int}
/-- what stands when all is read -/
def zFin (s0 : zS) (f : Int) (s : zS) : Prop := ∃ s1 k p n, s = zT s1 k p n f ∧ zJ s0 s1
theorem zSt.fin {f : Int} {s : zS} {σ : zSg} (h : zSt s0 r T σ s) (hf : zOk f σ) : zFin s0 f s := by
  rcases hf with rfl | ⟨rfl, p, a, rfl⟩
  · obtain ⟨h0, s1, p, e, e1, hj⟩ := h
    exact ⟨s1, _, _, _, e, hj⟩
  · obtain ⟨h0, s1, e, e1, e2, hj⟩ := h
    exact ⟨s1, _, _, _, e, hj⟩
theorem zo_end58 (hc : zCx s0 r T) {x3 : Int} (l : Int) {σ : zSg} {s : zS} (h : zSt s0 r T σ s) : ∃ σ' s' y, (∀ R, zA xm_c66 64 [39, r, 1, x3] [(false, y)] s' R → zA xm_c66 58 [39, r, 1, x3] [] s R) ∧ zSt s0 r T σ' s' ∧ zOut (s0 9) T (fun p a => (6, 0, p, a, l, [])) l σ σ' y := by
  obtain ⟨s5, d1, d2⟩ := zo_ccl hc h
  rw [← h.rl] at d1
  have hk := d2.kd
  match σ, d2, hk with
  | .inr f, d2, hk =>
    obtain ⟨s6, q1, q2⟩ := zo_fail hc d2 (c := 0) (by omega) (by omega)
    refine ⟨.inr f, s6, 0, fun R z => zb_66_58 d1 (zb_66_61 (zb_86_0 (fun q => absurd (show s5 8 2 = 59 from q) (by rw [hk]; show (-2 : Int) ≠ 59; decide)) (fun _ => zb_86_8 (fun q => absurd (show s5 8 2 = -1 from q) (by rw [hk]; show (-2 : Int) ≠ -1; decide)) (fun _ => zb_86_12 q1 (zb_86_15 rfl)))) z), q2, Or.inl ⟨rfl, f, Or.inl rfl, fun p a e => (by cases e), fun g e => (by cases e; rfl)⟩⟩
  | .inl (p, a), d2, hk =>
    have hk : s5 8 2 = zg_kind (s0 9) T p := hk
    have hst : zg_st (s0 9) T (6, 0, p, a, l, []) = if zg_kind (s0 9) T p = 59 then .inl (0, 0, zg_nx (s0 9) T p, a, l, []) else if zg_kind (s0 9) T p = -1 then .inr 0 else zg_fl 0 p := rfl
    by_cases e59 : zg_kind (s0 9) T p = 59
    · obtain ⟨s6, q1, q2⟩ := zo_next hc d2
      exact ⟨_, s6, 1, fun R z => zb_66_58 d1 (zb_66_61 (zb_86_0 (fun _ => zb_86_4 q1 (zb_86_6 rfl)) (fun q => absurd (show s5 8 2 = 59 by rw [hk]; exact e59) q)) z), q2, Or.inr ⟨rfl, _, _, rfl, p, a, rfl, zg_one (by rw [hst, if_pos e59])⟩⟩
    · by_cases em : zg_kind (s0 9) T p = -1
      · refine ⟨.inl (p, a), s5, 0, fun R z => zb_66_58 d1 (zb_66_61 (zb_86_0 (fun q => absurd (show s5 8 2 = 59 from q) (by rw [hk]; exact e59)) (fun _ => zb_86_8 (fun _ => zb_86_15 rfl) (fun q => absurd (show s5 8 2 = -1 by rw [hk]; exact em) q))) z), d2, Or.inl ⟨rfl, 0, Or.inr ⟨rfl, p, a, rfl⟩, fun p' a' e => ?_, fun g e => by cases e⟩⟩
        cases e
        exact zg_stop (by rw [hst, if_neg e59, if_pos em])
      · obtain ⟨s6, q1, q2⟩ := zo_fail hc d2 (c := 0) (by omega) (by omega)
        refine ⟨.inr (1 + 8 * p + 0), s6, 0, fun R z => zb_66_58 d1 (zb_66_61 (zb_86_0 (fun q => absurd (show s5 8 2 = 59 from q) (by rw [hk]; exact e59)) (fun _ => zb_86_8 (fun q => absurd (show s5 8 2 = -1 from q) (by rw [hk]; exact em)) (fun _ => zb_86_12 q1 (zb_86_15 rfl)))) z), q2, Or.inl ⟨rfl, 1 + 8 * p + 0, Or.inl rfl, fun p' a' e => ?_, fun g e => by cases e⟩⟩
        cases e
        exact zg_stop (by rw [hst, if_neg e59, if_neg em]; rfl)
theorem zo_end43 (hc : zCx s0 r T) {x3 : Int} (l : Int) {σ : zSg} {s : zS} (h : zSt s0 r T σ s) : ∃ σ' s' y, (∀ R, zA xm_c66 64 [39, r, 1, x3] [(false, y)] s' R → zA xm_c66 43 [39, r, 1, x3] [] s R) ∧ zSt s0 r T σ' s' ∧ zOut (s0 9) T (fun p a => (3, 0, p, a, l, [])) l σ σ' y := by
  obtain ⟨s3, c1, c2⟩ := zo_csum hc h
  rw [← h.rl] at c1
  have hw3 := zo_word hc c2 (k := 3) (by omega) (by omega)
  match σ, c2, hw3 with
  | .inr f, c2, hw3 =>
    obtain ⟨σ', s', y, z1, z2, z3⟩ := zo_end58 hc (x3 := x3) l c2
    exact ⟨σ', s', y, fun R z => zb_66_43 c1 (zb_66_46 hw3 (zb_66_50 (fun _ => z1 R z) (fun q => absurd rfl q))), z2, zOut_tr (show zRl (s0 9) T _ _ (.inr f) (.inr f) from rfl) z3⟩
  | .inl (p, a), c2, hw3 =>
    have h0 := c2.1
    have hif : zwd (s0 9) T 3 (.inl (p, a)) = -1 ↔ ¬ zg_is (s0 9) T p yw_if := zwd_1 (by decide)
    have hst : zg_st (s0 9) T (3, 0, p, a, l, []) = if zg_is (s0 9) T p yw_if then .inl (4, 0, zg_nx (s0 9) T p, a, l, []) else .inl (6, 0, p, a, l, []) := rfl
    by_cases eif : zg_is (s0 9) T p yw_if
    · have hx : ¬ zwd (s0 9) T 3 (.inl (p, a)) = -1 := fun q => hif.mp q eif
      obtain ⟨s4, n1, n2⟩ := zo_next hc c2
      have hnl := zg_nx_le (b := s0 9) (T := T) hc.1 hc.2.2.2.1 h0.1
      obtain ⟨σ5, s5, t1, t2, t3, t4⟩ := zo_test hc l _ s4 n2
      obtain ⟨σ', s', y, z1, z2, z3⟩ := zo_end58 hc (x3 := x3) l t2
      refine ⟨σ', s', y, fun R z => zb_66_43 c1 (zb_66_46 hw3 (zb_66_50 (fun q => absurd q hx) (fun _ => zb_66_52 n1 (zb_66_55 t1 (z1 R z))))), z2, zOut_tr (σ1 := .inl (zg_nx (s0 9) T p, a)) (B := fun p a => (4, 0, p, a, l, [])) ⟨hnl.1, zg_one (by rw [hst, if_pos eif])⟩ (zOut_tr t3 (zOut_tr (B := fun p a => (6, 0, p, a, l, [])) ?_ z3))⟩
      match σ5, t4 with
      | .inr f, t4 => exact rfl
      | .inl (p', a'), t4 => exact ⟨Int.le_refl _, zg_one (by
          show (if zg_jn (s0 9) T p' then _ else _) = _
          rw [if_neg (t4 p' a' rfl)])⟩
    · obtain ⟨σ', s', y, z1, z2, z3⟩ := zo_end58 hc (x3 := x3) l c2
      exact ⟨σ', s', y, fun R z => zb_66_43 c1 (zb_66_46 hw3 (zb_66_50 (fun _ => z1 R z) (fun q => absurd (hif.mpr eif) q))), z2, zOut_tr (σ := .inl (p, a)) (σ1 := .inl (p, a)) (B := fun p a => (6, 0, p, a, l, [])) ⟨Int.le_refl _, zg_one (by rw [hst, if_neg eif])⟩ z3⟩
theorem zo_clause (hc : zCx s0 r T) {σ : zSg} {s : zS} {x3 : Int} (h : zSt s0 r T σ s) (h3 : 0 ≤ x3) (h12 : x3 ≤ 12) : ∃ σ' s' y, (∀ R, zA xm_c66 64 [39, r, 1, x3] [(false, y)] s' R → zA xm_c66 20 [39, r, 1, x3] [] s R) ∧ zSt s0 r T σ' s' ∧ zOut (s0 9) T (fun p a => (0, 0, p, a, x3, [])) (x3 + 1) σ σ' y ∧ (y = 1 → x3 < 12) := by
  have hw := zo_word hc h (k := 1) (by omega) (by omega)
  -- behind the fault, or the word
  have on : ∀ (σ1 : zSg) (s1 : zS), zSt s0 r T σ1 s1 → ∃ σ' s' y, (∀ R, zA xm_c66 64 [39, r, 1, x3] [(false, y)] s' R → zA xm_c66 41 [39, r, 1, x3] [] s1 R) ∧ zSt s0 r T σ' s' ∧ zOut (s0 9) T (fun p a => (1, 0, p, a, x3 + 1, [])) (x3 + 1) σ1 σ' y := by
    intro σ1 s1 h1
    obtain ⟨σ2, s2, v1, v2, v3⟩ := zo_sum hc 0 (x3 + 1) [] h1
    obtain ⟨σ', s', y, z1, z2, z3⟩ := zo_end43 hc (x3 := x3) (x3 + 1) v2
    exact ⟨σ', s', y, fun R z => zb_66_41 v1 (z1 R z), z2, zOut_tr v3 z3⟩
  have dead : ∀ (f : Int) (σ' : zSg) (y : Int), zOut (s0 9) T (fun p a => (1, 0, p, a, x3 + 1, [])) (x3 + 1) (.inr f) σ' y → y = 0 := by
    intro f σ' y z
    rcases z with ⟨e, -⟩ | ⟨e, p', a', e', p, a, e'', y1⟩
    · exact e
    · cases e''
  match σ, h, hw with
  | .inr f, h, hw =>
    obtain ⟨s1, q1, q2⟩ := zo_fail hc h (c := 0) (by omega) (by omega)
    obtain ⟨s2, n1, n2⟩ := zo_next hc q2
    obtain ⟨σ', s', y, z1, z2, z3⟩ := on (.inr f) s2 n2
    have y0 := dead f σ' y z3
    exact ⟨σ', s', y, fun R z => zb_66_20 hw (zb_66_24 (fun _ => zb_66_26 q1 (zb_66_30 n1 (z1 R z))) (fun q => absurd rfl q)), z2, zOut_tr (show zRl (s0 9) T _ _ (.inr f) (.inr f) from rfl) z3, fun e => by omega⟩
  | .inl (p, a), h, hw =>
    have h0 := h.1
    have ht : zwd (s0 9) T 1 (.inl (p, a)) = -1 ↔ ¬ zg_is (s0 9) T p yw_tell := zwd_1 (by decide)
    have hst : zg_st (s0 9) T (0, 0, p, a, x3, []) = if zg_is (s0 9) T p yw_tell then (if x3 = 12 then zg_fl 4 p else .inl (1, 0, zg_nx (s0 9) T p, a, x3 + 1, [])) else zg_fl 0 p := rfl
    by_cases et : zg_is (s0 9) T p yw_tell
    · have hx : ¬ zwd (s0 9) T 1 (.inl (p, a)) = -1 := fun q => ht.mp q et
      by_cases e12 : x3 = 12
      · obtain ⟨s1, q1, q2⟩ := zo_fail hc h (c := 4) (by omega) (by omega)
        obtain ⟨s2, n1, n2⟩ := zo_next hc q2
        obtain ⟨σ', s', y, z1, z2, z3⟩ := on (.inr (1 + 8 * p + 4)) s2 n2
        have y0 := dead _ σ' y z3
        exact ⟨σ', s', y, fun R z => zb_66_20 hw (zb_66_24 (fun q => absurd q hx) (fun _ => zb_66_31 (fun q => absurd q (by omega)) (fun _ => zb_66_34 q1 (zb_66_38 n1 (z1 R z))))), z2, zOut_tr (σ := .inl (p, a)) (σ1 := .inr (1 + 8 * p + 4)) (zg_stop (by rw [hst, if_pos et, if_pos e12]; rfl)) z3, fun e => by omega⟩
      · obtain ⟨s2, n1, n2⟩ := zo_next hc h
        have hnl := zg_nx_le (b := s0 9) (T := T) hc.1 hc.2.2.2.1 h0.1
        obtain ⟨σ', s', y, z1, z2, z3⟩ := on _ s2 n2
        exact ⟨σ', s', y, fun R z => zb_66_20 hw (zb_66_24 (fun q => absurd q hx) (fun _ => zb_66_31 (fun _ => zb_66_38 n1 (z1 R z)) (fun q => absurd (show x3 < 12 by omega) q))), z2, zOut_tr (σ := .inl (p, a)) (σ1 := .inl (zg_nx (s0 9) T p, a)) ⟨hnl.1, zg_one (by rw [hst, if_pos et, if_neg e12])⟩ z3, fun _ => by omega⟩
    · have hx := ht.mpr et
      rw [hx] at hw
      obtain ⟨s1, q1, q2⟩ := zo_fail hc h (c := 0) (by omega) (by omega)
      obtain ⟨s2, n1, n2⟩ := zo_next hc q2
      obtain ⟨σ', s', y, z1, z2, z3⟩ := on (.inr (1 + 8 * p + 0)) s2 n2
      have y0 := dead _ σ' y z3
      exact ⟨σ', s', y, fun R z => zb_66_20 hw (zb_66_24 (fun _ => zb_66_26 q1 (zb_66_30 n1 (z1 R z))) (fun q => absurd rfl q)), z2, zOut_tr (σ := .inl (p, a)) (σ1 := .inr (1 + 8 * p + 0)) (zg_stop (by rw [hst, if_neg et]; rfl)) z3, fun e => by omega⟩
theorem zo_readloop (hc : zCx s0 r T) : ∀ (m : Nat) (p a : Int) (s : zS) (x3 : Int), zSt s0 r T (.inl (p, a)) s → 0 ≤ x3 → x3 ≤ 12 → (12 - x3).toNat ≤ m → ∃ f s', zA xm_c66 15 [39, r, 1, x3] [] s (f, s') ∧ zFin s0 f s' ∧ zg_end (s0 9) T (0, 0, p, a, x3, []) f := by
  have one : ∀ (p a : Int) (s : zS) (x3 : Int), zSt s0 r T (.inl (p, a)) s → 0 ≤ x3 → x3 ≤ 12 → (∀ p' a' s', x3 < 12 → zSt s0 r T (.inl (p', a')) s' → ∃ f s'', zA xm_c66 15 [39, r, 1, x3 + 1] [] s' (f, s'') ∧ zFin s0 f s'' ∧ zg_end (s0 9) T (0, 0, p', a', x3 + 1, []) f) → ∃ f s', zA xm_c66 15 [39, r, 1, x3] [] s (f, s') ∧ zFin s0 f s' ∧ zg_end (s0 9) T (0, 0, p, a, x3, []) f := by
    intro p a s x3 h h3 h12 ih
    obtain ⟨σ', s', y, z1, z2, z3, z4⟩ := zo_clause hc h h3 h12
    have hx3 : zw (x3 + 1) = x3 + 1 := zw_id (by omega) (by omega)
    rcases z3 with ⟨e, f, y1, y2, y3⟩ | ⟨e, p', a', e', p2, a2, e'', y1⟩
    · subst e
      have hf := z2.fin y1
      refine ⟨f, s', zb_66_15 (fun q => absurd q (by decide)) (fun _ => zb_66_17 (fun q => absurd q (by omega)) (fun _ => z1 _ (zb_66_64 (zb_66_15 (fun _ => zb_66_67 ?_) (fun q => absurd rfl q))))), hf, y2 p a rfl⟩
      obtain ⟨s1, k, p1, n, e1, -⟩ := hf
      rw [e1]
      rfl
    · subst e e'
      cases e''
      obtain ⟨f, s'', u1, u2, u3⟩ := ih p' a' s' (z4 rfl) z2
      rw [← hx3] at u1
      exact ⟨f, s'', zb_66_15 (fun q => absurd q (by decide)) (fun _ => zb_66_17 (fun q => absurd q (by omega)) (fun _ => z1 _ (zb_66_64 u1))), u2, zg_tend y1 u3⟩
  intro m
  induction m with
  | zero =>
    intro p a s x3 h h3 h12 hm
    exact one p a s x3 h h3 h12 (fun p' a' s' hlt _ => by omega)
  | succ m ih =>
    intro p a s x3 h h3 h12 hm
    exact one p a s x3 h h3 h12 (fun p' a' s' hlt h' => ih p' a' s' (x3 + 1) h' (by omega) (by omega) (by omega))
/-- the class's reading of a rule -/
theorem zo_read (hb : zg_by (s0 9)) (hT : s0 8 1 = T) (hT0 : 0 ≤ T) (hT4 : T ≤ 400) (hr : 240 ≤ r) (hr2 : r + 3 < 264) : ∃ f s', zE xm_c66 [39, r, 0, 0] s0 f s' ∧ zFin s0 f s' ∧ zg_end (s0 9) T (0, 0, zg_sk (s0 9) T 0, 0, 0, []) f := by
  have hc : zCx s0 r T := ⟨hb, hT, hT0, hT4, hr, hr2⟩
  have e0 : zu (zu (zu s0 8 5 0) 8 3 0) 8 4 0 = zT s0 (s0 8 2) 0 0 0 := by
    have := zT_id (s := s0)
    rw [← this, zu_T5, zu_T3, zu_T4, this]
  have sk : 0 ≤ zg_sk (s0 9) T 0 ∧ (zg_sk (s0 9) T 0 ≤ T ∨ zg_sk (s0 9) T 0 = 0) := zg_run_le
  have n1 := zt_next (s := s0) (T := T) (k := s0 8 2) (p := 0) (n := 0) hb hT hT4 (by omega) (by omega) (by omega) (q := zg_sk (s0 9) T 0) rfl
  rw [← e0] at n1
  have h1 : zSt s0 r T (.inl (zg_sk (s0 9) T 0, 0)) (zu (zu (zu (zu (zT s0 (zg_kind (s0 9) T (zg_sk (s0 9) T 0)) (zg_sk (s0 9) T 0) (zg_te (s0 9) T (zg_sk (s0 9) T 0) - zg_sk (s0 9) T 0) 0) r 3 0) r 4 0) 39 1 r) 39 2 0) := by
    have key : ∀ {s1 : zS} {k p n f x y v : Int}, x ≠ 8 → zu (zT s1 k p n f) x y v = zT (zu s1 x y v) k p n f := by
      intro s1 k p n f x y v hx
      funext a b
      unfold zu zT
      by_cases e : a = x ∧ b = y
      · obtain ⟨rfl, rfl⟩ := e
        simp only [and_self, if_true]
        rw [if_neg (by omega), if_neg (by omega), if_neg (by omega), if_neg (by omega)]
      · simp only [if_neg e]
    rw [key (by omega), key (by omega), key (by decide), key (by decide)]
    refine ⟨by omega, _, rfl, ?_, zu_hit, ?_⟩
    · rw [zu_place (by decide)]
      exact zu_hit
    · refine zJ_39 (zJ_39 ⟨?_, fun x y h3 h4 h5 => ?_⟩)
      · rw [zu_cell (by omega), zu_cell (by omega)]
      · rw [zu_cell (by omega), zu_cell (by omega)]
  obtain ⟨f, s', u1, u2, u3⟩ := zo_readloop hc 12 _ _ _ 0 h1 (by omega) (by omega) (by omega)
  exact ⟨f, s', zb_66_0 (zb_80_0 n1 (zb_80_11 rfl)) (zb_66_3 (zb_59_0 rfl) (zb_66_5 u1)), u2, u3⟩
end ZI
