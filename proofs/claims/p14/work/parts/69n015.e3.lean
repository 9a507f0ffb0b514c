/-! readValue, readSum, readComparison, with the code -/
def zpd (a : zW) : zW := if a.2.2.2.1 = 0 then (a.1, a.2.1, a.2.2.1, 0, a.2.2.2.2) else if a.2.2.2.1 = 2 ∨ a.2.2.2.1 = 3 then (a.1, a.2.1, a.2.2.2.1, 0, a.2.2.2.2) else (a.1, a.2.2.2.1 :: a.2.1, a.2.2.1, 0, a.2.2.2.2)
theorem zev_pd {a : zW} {c : Int} : zev a c = zpd (ze1 (zep a c)) := rfl
theorem zpd_m {a : zW} : (zpd a).1 = a.1 ∧ (zpd a).2.2.2.2 = a.2.2.2.2 ∧ (zpd a).2.2.2.1 = 0 := by
  unfold zpd
  by_cases e : a.2.2.2.1 = 0
  · rw [if_pos e]
    exact ⟨rfl, rfl, rfl⟩
  · rw [if_neg e]
    by_cases e2 : a.2.2.2.1 = 2 ∨ a.2.2.2.1 = 3
    · rw [if_pos e2]
      exact ⟨rfl, rfl, rfl⟩
    · rw [if_neg e2]
      exact ⟨rfl, rfl, rfl⟩
theorem zef_m {a : zW} : (zef a).1 = a.1 ∧ (zef a).2.2.2.2 = a.2.2.2.2 ∧ (zef a).2.2.2.1 = a.2.2.2.1 ∧ (zef a).2.2.1 = 0 := by
  unfold zef
  by_cases e : a.2.2.1 = 0
  · rw [if_pos e]
    exact ⟨rfl, rfl, rfl, e⟩
  · rw [if_neg e]
    exact ⟨rfl, rfl, rfl, rfl⟩
section YD
variable {s0 : zS} {r T : Int}
theorem zy_val (hc : zCz s0 r T) {p : Int} {a : zW} {s : zS} (h : zSe s0 r T (.inl (p, a)) s) (hk : zg_kind (s0 9) T p = 48) (h5 : ¬ 5 < zg_te (s0 9) T p - p) : zE xm_c84 [8, 0, 0] s (zhv (s0 9) T p) s ∧ 0 ≤ zhv (s0 9) T p ∧ zhv (s0 9) T p ≤ 99999 := by
  have h0 := h.1
  have hkl := zg_kl (b := s0 9) (T := T) (p := p) hc.1 hc.2.2.2.1 h0.1
  have hte := zg_te_le (b := s0 9) (T := T) (p := p) hc.1 hc.2.2.2.1 h0.1
  have h4 := hc.2.2.2.1
  have b9 := h.b9 hc.2.2.2.2.1.1
  have hr := hkl.2.2.2 hk
  have hin : ∀ i : Nat, i < (zg_te (s0 9) T p - p).toNat → 48 ≤ s0 9 (p + ((i : Nat) : Int)) ∧ s0 9 (p + ((i : Nat) : Int)) ≤ 57 := fun i hi => (zg_run_in (b := s0 9) (T := T) (lo := 48) (hi := 57) (p := p) (i := p + ((i : Nat) : Int)) (by omega) (by omega)).2
  have kd : s 8 2 = zg_kind (s0 9) T p := h.kd
  have z := zc_v4 (s := s) (p := p) (n := (zg_te (s0 9) T p - p).toNat) (by rw [kd]; exact hk) h.pl (by rw [h.sz]; omega) (by omega) (by omega) (fun i hi => by rw [b9]; exact hin i hi) _ 0 (Nat.le_refl _) (by omega)
  rw [b9, show min (zg_te (s0 9) T p - p).toNat 5 = (zg_te (s0 9) T p - p).toNat by omega] at z
  have hb := zval_b (b := s0 9) (p := p) (zg_te (s0 9) T p - p).toNat (by omega) hin
  have hpow : (10 : Int) ^ (zg_te (s0 9) T p - p).toNat ≤ 100000 := by
    rcases (show (zg_te (s0 9) T p - p).toNat = 0 ∨ (zg_te (s0 9) T p - p).toNat = 1 ∨ (zg_te (s0 9) T p - p).toNat = 2 ∨ (zg_te (s0 9) T p - p).toNat = 3 ∨ (zg_te (s0 9) T p - p).toNat = 4 ∨ (zg_te (s0 9) T p - p).toNat = 5 by omega) with q | q | q | q | q | q <;> rw [q] <;> decide
  exact ⟨zb_84_0 z, hb.1, by show zval (s0 9) p _ ≤ _; omega⟩
theorem zy_ark {σ : zSi} {s : zS} (h : zSe s0 r T σ s) : zE xm_c72 [s (39 + (-31)) 2] s (zar (zykd (s0 9) T σ)) s := by
  have := h.kd
  show zE xm_c72 [s 8 2] s _ s
  rw [this]
  exact zo_ar
/-- behind a fault nothing more comes of a step -/
theorem zy_stop (hc : zCz s0 r T) {σ : zSi} {s s1 : zS} (h : zSe s0 r T σ s) {c : Int} (hc0 : 0 ≤ c) (hc4 : c ≤ 4) : ∃ f s1 s2, zyfl c σ = .inr f ∧ zE xm_c81 [8, c] s 0 s1 ∧ (s1 39 1 = r) ∧ zE xm_c82 [8, 0, 0] (zu s1 39 2 (zw (s1 39 2 + 1))) 0 s2 ∧ zSe s0 r T (.inr f) s2 := by
  obtain ⟨s1, h1, h2⟩ := zy_fail hc h hc0 hc4
  have hf : ∃ f, zyfl c σ = .inr f := by
    match σ with
    | .inl (p, a) => exact ⟨_, rfl⟩
    | .inr f => exact ⟨_, rfl⟩
  obtain ⟨f, hf⟩ := hf
  rw [hf] at h2
  obtain ⟨s2, h3, h4⟩ := zy_next hc (h2.incd hc.2.2.2.2.1.1 (v := zw (s1 39 2 + 1)))
  exact ⟨f, s1, s2, hf, h1, h2.rl, h3, h4⟩
/-- what waits and what is to come stay -/
def zYv (σ σ' : zSi) : Prop := ∀ p a p' a', σ = .inl (p, a) → σ' = .inl (p', a') → a'.2.2.1 = a.2.2.1 ∧ a'.2.2.2.1 = a.2.2.2.1 ∧ p < p'
theorem zy_value (hc : zCz s0 r T) (k : Nat) (l : Int) (st : List Int) {σ : zSi} {s : zS} (h : zSe s0 r T σ s) : ∃ σ' s', zE xm_c73 [39, 0] s 0 s' ∧ zSe s0 r T σ' s' ∧ zRe (s0 9) T (fun p a => (1, k, p, a, l, st)) (fun p a => (2, k, p, zpd a, l, st)) σ σ' ∧ zYv σ σ' := by
  have hw := zy_word hc h (k := 2) (by omega) (by omega)
  have hr240 := hc.2.2.2.2.1.1
  have bad : ∀ c, 0 ≤ c → c ≤ 4 → ∃ f s2, zyfl c σ = .inr f ∧ zSe s0 r T (.inr f) s2 ∧ (∃ s1, zE xm_c81 [8, c] s 0 s1 ∧ zE xm_c82 [8, 0, 0] (zu s1 39 2 (zw (s1 39 2 + 1))) 0 s2) := by
    intro c hc0 hc4
    obtain ⟨f, s1, s2, q1, q2, -, q4, q5⟩ := zy_stop (s1 := s) hc h hc0 hc4
    exact ⟨f, s2, q1, q5, s1, q2, q4⟩
  have hk := h.kd
  match σ, h, hw, hk, bad with
  | .inr f, h, hw, hk, bad =>
    obtain ⟨f', s2, q1, q2, s1, q3, q4⟩ := bad 0 (by omega) (by omega)
    have q1 : (Sum.inr f : zSi) = .inr f' := q1
    cases q1
    refine ⟨.inr f, s2, zb_73_0 hw (zb_73_4 (fun _ => zb_73_8 (fun q => ?_) (fun _ => zb_73_13 q3 (zb_73_17 q4 (zb_73_67 rfl)))) (fun q => absurd rfl q)), q2, rfl, fun p a p' a' e => by cases e⟩
    have q : s 8 2 = 48 := q
    rw [hk] at q
    exact absurd q (by show ¬ (-2 : Int) = 48; decide)
  | .inl (p, a), h, hw, hk, bad =>
    have h0 := h.1
    have ham := h.am
    have hsz := h.sz
    have hr := h.rl
    have hk : s 8 2 = zg_kind (s0 9) T p := hk
    have hwd : zywd (s0 9) T 2 (.inl (p, a)) = -1 ↔ ¬ zg_any (s0 9) T p := by
      show (if zg_kind (s0 9) T p = 97 then yg_ix (zg_w (s0 9) p (zg_te (s0 9) T p)) (yg_sw 2) 0 else -1) = -1 ↔ _
      by_cases e : zg_kind (s0 9) T p = 97
      · rw [if_pos e, yg_ixm _ _ (by omega), yg_all]
        exact ⟨fun q z => q z.2, fun q z => q ⟨e, z⟩⟩
      · rw [if_neg e]
        exact ⟨fun _ z => e z.1, fun _ => rfl⟩
    have hwi : zg_kind (s0 9) T p = 97 → zywd (s0 9) T 2 (.inl (p, a)) = zwi (s0 9) T p := fun e => if_pos e
    have hwr : zywd (s0 9) T 2 (.inl (p, a)) ≠ -1 → 0 ≤ zywd (s0 9) T 2 (.inl (p, a)) ∧ zywd (s0 9) T 2 (.inl (p, a)) ≤ 10 := by
      intro q
      have e : zg_kind (s0 9) T p = 97 := by
        by_cases e : zg_kind (s0 9) T p = 97
        · exact e
        · exact absurd (if_neg e) q
      have v : zywd (s0 9) T 2 (.inl (p, a)) = yg_ix (zg_w (s0 9) p (zg_te (s0 9) T p)) (yg_sw 2) 0 := if_pos e
      obtain ⟨w, w1, w2, -⟩ := yg_ixg (yg_sw 2) _ 0 _ v.symm q (by decide)
      have : ((zywd (s0 9) T 2 (.inl (p, a)) - 0).toNat) < (yg_sw 2).length := by
        rcases Nat.lt_or_ge ((zywd (s0 9) T 2 (.inl (p, a)) - 0).toNat) (yg_sw 2).length with z | z
        · exact z
        · rw [List.getElem?_eq_none z] at w1
          cases w1
      have hl : (yg_sw 2).length = 11 := rfl
      omega
    generalize zywd (s0 9) T 2 (.inl (p, a)) = w at hw hwd hwi hwr
    have hnl := zg_nx_le (b := s0 9) (T := T) (p := p) hc.1 hc.2.2.2.1 h0.1
    -- with a fault
    have no : ∀ c, 0 ≤ c → c ≤ 4 → ze_st (s0 9) T (1, k, p, a, l, st) = zfe_ c p a → (∀ (s1 s2 : zS), zE xm_c81 [8, c] s 0 s1 → zE xm_c82 [8, 0, 0] (zu s1 39 2 (zw (s1 39 2 + 1))) 0 s2 → zE xm_c73 [39, 0] s 0 s2) → ∃ σ' s', zE xm_c73 [39, 0] s 0 s' ∧ zSe s0 r T σ' s' ∧ zRe (s0 9) T (fun p a => (1, k, p, a, l, st)) (fun p a => (2, k, p, zpd a, l, st)) (.inl (p, a)) σ' ∧ zYv (.inl (p, a)) σ' := by
      intro c hc0 hc4 hst hrun
      obtain ⟨f', s2, q1, q2, s1, q3, q4⟩ := bad c hc0 hc4
      have q1 : (Sum.inr (1 + 8 * p + c) : zSi) = .inr f' := q1
      cases q1
      exact ⟨.inr (1 + 8 * p + c), s2, hrun s1 s2 q3 q4, q2, ⟨a, ze_stop hst⟩, fun p a p' a' _ e => by cases e⟩
    -- without
    have yes : a.1 < 60 → zg_kind (s0 9) T p ≠ -1 → ∀ (op arg c : Int), zw (zw (arg * 16) + op) = zcm c → ze_st (s0 9) T (1, k, p, a, l, st) = .inl (2, k, zg_nx (s0 9) T p, zev a c, l, st) → (∀ (s1 s2 : zS), zE xm_c60 [r, op, arg] s 0 s1 → zE xm_c82 [8, 0, 0] (zu s1 39 2 (zw (s1 39 2 + 1))) 0 s2 → zE xm_c73 [39, 0] s 0 s2) → ∃ σ' s', zE xm_c73 [39, 0] s 0 s' ∧ zSe s0 r T σ' s' ∧ zRe (s0 9) T (fun p a => (1, k, p, a, l, st)) (fun p a => (2, k, p, zpd a, l, st)) (.inl (p, a)) σ' ∧ zYv (.inl (p, a)) σ' := by
      intro ha hkm op arg c hop hst hrun
      obtain ⟨s1, q1, q2⟩ := zy_emit hc h hop
      have q2 : zSe s0 r T (.inl (p, zep a c)) s1 := q2
      obtain ⟨s2, q3, q4⟩ := zy_next hc (q2.inc hr240 ha)
      refine ⟨.inl (zg_nx (s0 9) T p, ze1 (zep a c)), s2, hrun s1 s2 q1 q3, q4, ⟨⟨hnl.1, rfl⟩, ze_one ?_⟩, fun p1 a1 p' a' e e' => ?_⟩
      · rw [hst, zev_pd]
      · cases e
        cases e'
        exact ⟨rfl, rfl, hnl.2.2 hkm⟩
    by_cases e48 : zg_kind (s0 9) T p = 48
    · have nany : ¬ zg_any (s0 9) T p := fun z => by have := z.1; omega
      have w1 := hwd.mpr nany
      subst w1
      by_cases e5 : 5 < zg_te (s0 9) T p - p
      · refine no 1 (by omega) (by omega) ?_ (fun s1 s2 q1 q2 => ?_)
        · show (if zg_kind (s0 9) T p = 48 then _ else _) = _
          rw [if_pos e48, if_pos e5]
        · exact zb_73_0 hw (zb_73_4 (fun _ => zb_73_8 (fun _ => zb_73_18 (fun _ => zb_73_23 (fun _ => zb_73_28 q1 (zb_73_32 q2 (zb_73_67 rfl))) (fun q => absurd (show 5 < s 8 4 by rw [hsz]; exact e5) q)) (fun q => absurd (show s 8 2 = 48 by rw [hk]; exact e48) q)) (fun q => absurd (show s 8 2 = 48 by rw [hk]; exact e48) q)) (fun q => absurd rfl q))
      · have e5' : ¬ 5 < s 8 4 := by rw [hsz]; exact e5
        by_cases e60 : a.1 = 60
        · refine no 3 (by omega) (by omega) ?_ (fun s1 s2 q1 q2 => ?_)
          · show (if zg_kind (s0 9) T p = 48 then _ else _) = _
            rw [if_pos e48, if_neg e5, if_pos e60]
          · exact zb_73_0 hw (zb_73_4 (fun _ => zb_73_8 (fun _ => zb_73_18 (fun _ => zb_73_23 (fun q => absurd q e5') (fun _ => zb_73_33 (fun q => absurd q (by rw [ham]; omega)) (fun _ => zb_73_37 q1 (zb_73_41 q2 (zb_73_67 rfl))))) (fun q => absurd (show s 8 2 = 48 by rw [hk]; exact e48) q)) (fun q => absurd (show s 8 2 = 48 by rw [hk]; exact e48) q)) (fun q => absurd rfl q))
        · obtain ⟨hv, v0, v1⟩ := zy_val hc h e48 e5
          refine yes (by omega) (by omega) 0 (zhv (s0 9) T p) _ (zcm_0 v0 v1) ?_ (fun s1 s2 q1 q2 => ?_)
          · show (if zg_kind (s0 9) T p = 48 then _ else _) = _
            rw [if_pos e48, if_neg e5, if_neg e60]
          · rw [← hr] at q1
            exact zb_73_0 hw (zb_73_4 (fun _ => zb_73_8 (fun _ => zb_73_18 (fun _ => zb_73_23 (fun q => absurd q e5') (fun _ => zb_73_33 (fun _ => zb_73_42 (fun _ => zb_73_51 hv (zb_73_57 q1 (zb_73_58 q2 (zb_73_67 rfl)))) (fun q => absurd rfl q)) (fun q => absurd (show s 39 2 < 60 by rw [ham]; omega) q))) (fun q => absurd (show s 8 2 = 48 by rw [hk]; exact e48) q)) (fun q => absurd (show s 8 2 = 48 by rw [hk]; exact e48) q)) (fun q => absurd rfl q))
    · have e48' : ¬ s 8 2 = 48 := by rw [hk]; exact e48
      by_cases any : zg_any (s0 9) T p
      · have w1 : w ≠ -1 := fun q => hwd.mp q any
        by_cases e60 : a.1 = 60
        · refine no 3 (by omega) (by omega) ?_ (fun s1 s2 q1 q2 => ?_)
          · show (if zg_kind (s0 9) T p = 48 then _ else _) = _
            rw [if_neg e48, if_pos any, if_pos e60]
          · exact zb_73_0 hw (zb_73_4 (fun q => absurd q w1) (fun _ => zb_73_18 (fun q => absurd q e48') (fun _ => zb_73_33 (fun q => absurd q (by rw [ham]; omega)) (fun _ => zb_73_37 q1 (zb_73_41 q2 (zb_73_67 rfl))))))
        · have wr := hwr w1
          have wi := hwi any.1
          refine yes (by omega) (by have := any.1; omega) 1 w _ (zcm_1 wr.1 (by omega)) ?_ (fun s1 s2 q1 q2 => ?_)
          · show (if zg_kind (s0 9) T p = 48 then _ else _) = _
            rw [if_neg e48, if_pos any, if_neg e60, wi]
          · rw [← hr] at q1
            exact zb_73_0 hw (zb_73_4 (fun q => absurd q w1) (fun _ => zb_73_18 (fun q => absurd q e48') (fun _ => zb_73_33 (fun _ => zb_73_42 (fun q => absurd q w1) (fun _ => zb_73_45 q1 (zb_73_50 q2 (zb_73_67 rfl)))) (fun q => absurd (show s 39 2 < 60 by rw [ham]; omega) q))))
      · have w1 := hwd.mpr any
        subst w1
        refine no 0 (by omega) (by omega) ?_ (fun s1 s2 q1 q2 => ?_)
        · show (if zg_kind (s0 9) T p = 48 then _ else _) = _
          rw [if_neg e48, if_neg any]
        · exact zb_73_0 hw (zb_73_4 (fun _ => zb_73_8 (fun q => absurd q e48') (fun _ => zb_73_13 q1 (zb_73_17 q2 (zb_73_67 rfl)))) (fun q => absurd rfl q))
/-- which sign: of strength, or of none -/
theorem zar_k {k : Int} : (zg_mu k → zar k ≠ -1 ∧ zar k ≠ 2 ∧ zar k ≠ 3 ∧ zw (zw (0 * 16) + zar k) = zcm (zao k) ∧ zao k ≠ 0 ∧ zao k ≠ 2 ∧ zao k ≠ 3) ∧ (zg_pm k → zar k = zao k ∧ (zao k = 2 ∨ zao k = 3)) ∧ (¬ zg_mu k → ¬ zg_pm k → zar k = -1) := by
  refine ⟨fun h => ?_, fun h => ?_, fun h1 h2 => ?_⟩
  · rcases h with rfl | rfl | rfl <;> decide
  · rcases h with rfl | rfl <;> decide
  · exact zar_n.mpr (fun z => by
      rcases z with z | z | z | z | z
      · exact h2 (Or.inl z)
      · exact h2 (Or.inr z)
      · exact h1 (Or.inl z)
      · exact h1 (Or.inr (Or.inl z))
      · exact h1 (Or.inr (Or.inr z)))
/-- what waits is what the local says -/
def zYx (a : zW) (x1 : Int) : Prop := a.2.2.2.1 = 0 ∧ ((a.2.2.1 = 0 ∧ x1 = -1) ∨ (x1 = a.2.2.1 ∧ (a.2.2.1 = 2 ∨ a.2.2.1 = 3)))
theorem zy_sumloop (hc : zCz s0 r T) (k : Nat) (l : Int) (st : List Int) : ∀ (m : Nat) (σ : zSi) (s : zS) (x1 x3 x4 : Int), zSe s0 r T σ s → 0 ≤ x3 → (∀ p a, σ = .inl (p, a) → (x3 ≤ p ∧ (T - p).toNat < m) ∧ zYx a x1) → (∀ f, σ = .inr f → 0 < m) → ∃ σ' s', zA xm_c71 11 [39, x1, zar (zykd (s0 9) T σ), x3, x4] [] s (0, s') ∧ zSe s0 r T σ' s' ∧ zRe (s0 9) T (fun p a => (2, k, p, a, l, st)) (fun p a => (3, k, p, a, l, st)) σ σ' ∧ ∀ p a, σ' = .inl (p, a) → a.2.2.1 = 0 ∧ a.2.2.2.1 = 0 := by
  have hr240 := hc.2.2.2.2.1.1
  -- what waits is put down
  have flush : ∀ (p : Int) (a : zW) (s : zS) (x1 : Int), zSe s0 r T (.inl (p, a)) s → zYx a x1 → x1 ≠ -1 → ∃ s', zE xm_c60 [s 39 1, x1, 0] s 0 s' ∧ zSe s0 r T (.inl (p, zef a)) s' := by
    intro p a s x1 h hx hne
    obtain ⟨x, hx⟩ := hx
    have hx := hx.resolve_left (fun q => hne q.2)
    obtain ⟨s', q1, q2⟩ := zy_emit hc h (op := x1) (arg := 0) (c := a.2.2.1) (by rw [hx.1]; rcases hx.2 with e | e <;> rw [e] <;> decide)
    rw [← h.rl] at q1
    have q2 : zSe s0 r T (.inl (p, zep a a.2.2.1)) s' := q2
    refine ⟨s', q1, q2.gh ?_ ?_ ?_⟩ <;> (unfold zef; rw [if_neg (by omega)]) <;> rfl
  have noflush : ∀ (p : Int) (a : zW) (s : zS) (x1 : Int), zSe s0 r T (.inl (p, a)) s → zYx a x1 → x1 = -1 → zef a = a := by
    intro p a s x1 h hx he
    unfold zef
    rw [if_pos]
    rcases hx.2 with q | q
    · exact q.1
    · have := q.1
      omega
  -- the end
  have find : ∀ (f : Int) (s : zS) (x1 x2 x3 x4 : Int), zSe s0 r T (.inr f) s → ∃ s', zA xm_c71 59 [39, x1, x2, x3, x4] [] s (0, s') ∧ zSe s0 r T (.inr f) s' := by
    intro f s x1 x2 x3 x4 h
    by_cases e : x1 = -1
    · exact ⟨s, zb_71_59 (fun _ => zb_71_67 rfl) (fun q => absurd e q), h⟩
    · obtain ⟨c1, c2, c3, c4, c5, c6⟩ := hc
      have hrl := h.rl
      by_cases e2 : s r 3 < zw (zlen (r + 1))
      · refine ⟨_, zb_71_59 (fun q => absurd q e) (fun _ => zb_71_62 (r := 0) (s1 := _) (by rw [hrl]; exact zb_60_0 (zb_60_4 (by omega) (zb_60_5 (fun _ => zb_60_6 rfl) (fun q => absurd e2 q)))) (zb_71_67 rfl)), (h.junk c5.1 (by omega) ⟨fun q => by omega, fun q => by omega⟩).junk c5.1 (by omega) ⟨fun q => by omega, fun _ q => absurd q (by decide)⟩⟩
      · refine ⟨s, zb_71_59 (fun q => absurd q e) (fun _ => zb_71_62 (r := 0) (s1 := s) (by rw [hrl]; exact zb_60_0 (zb_60_4 (by omega) (zb_60_5 (fun q => absurd q e2) (fun _ => zb_60_22 rfl)))) (zb_71_67 rfl)), h⟩
  intro m
  induction m with
  | zero =>
    intro σ s x1 x3 x4 h h3 hm hf
    match σ, hm, hf with
    | .inl (p, a), hm, hf => exact absurd (hm p a rfl).1.2 (by omega)
    | .inr f, hm, hf => exact absurd (hf f rfl) (by omega)
  | succ m ih =>
    intro σ s x1 x3 x4 h h3 hm hf
    match σ, h, hm with
    | .inr f, h, hm =>
      obtain ⟨s', q1, q2⟩ := find f s x1 (zar (-2)) x3 x4 h
      refine ⟨.inr f, s', ?_, q2, rfl, fun p a e => by cases e⟩
      by_cases e : x3 < 400
      · exact zb_71_11 (fun _ => zb_71_14 (fun _ => q1) (fun q => absurd (show zar (-2) = -1 by decide) q)) (fun q => absurd e q)
      · exact zb_71_11 (fun q => absurd q e) (fun _ => q1)
    | .inl (p, a), h, hm =>
      have h0 := h.1
      obtain ⟨⟨hp3, hpm⟩, hx1⟩ := hm p a rfl
      obtain ⟨zk1, zk2, zk3⟩ := zar_k (k := zg_kind (s0 9) T p)
      have hst : ze_st (s0 9) T (2, k, p, a, l, st) = if zg_mu (zg_kind (s0 9) T p) then .inl (1, k, zg_nx (s0 9) T p, zet a (zao (zg_kind (s0 9) T p)), l, st) else if zg_pm (zg_kind (s0 9) T p) then .inl (1, k, zg_nx (s0 9) T p, zet (zef a) (zao (zg_kind (s0 9) T p)), l, st) else .inl (3, k, p, zef a, l, st) := rfl
      obtain ⟨ef1, ef2, ef3, ef4⟩ := zef_m (a := a)
      by_cases hn : zar (zg_kind (s0 9) T p) = -1
      · have nmu : ¬ zg_mu (zg_kind (s0 9) T p) := fun z => (zk1 z).1 hn
        have npm : ¬ zg_pm (zg_kind (s0 9) T p) := fun z => by
          obtain ⟨q1, q2⟩ := zk2 z
          omega
        rw [if_neg nmu, if_neg npm] at hst
        have go : ∀ s', zA xm_c71 59 [39, x1, zar (zg_kind (s0 9) T p), x3, x4] [] s (0, s') → zA xm_c71 11 [39, x1, zar (zykd (s0 9) T (.inl (p, a))), x3, x4] [] s (0, s') := by
          intro s' q1
          by_cases e : x3 < 400
          · exact zb_71_11 (fun _ => zb_71_14 (fun _ => q1) (fun q => absurd hn q)) (fun q => absurd e q)
          · exact zb_71_11 (fun q => absurd q e) (fun _ => q1)
        have res : ∀ p' a', (Sum.inl (p, zef a) : zSi) = .inl (p', a') → a'.2.2.1 = 0 ∧ a'.2.2.2.1 = 0 := by
          intro p' a' e
          cases e
          exact ⟨ef4, ef3.trans hx1.1⟩
        by_cases e1 : x1 = -1
        · have en := noflush p a s x1 h hx1 e1
          refine ⟨.inl (p, zef a), s, go s (zb_71_59 (fun _ => zb_71_67 rfl) (fun q => absurd e1 q)), by rw [en]; exact h, ⟨⟨Int.le_refl _, ef2⟩, ze_one hst⟩, res⟩
        · obtain ⟨s', q1, q2⟩ := flush p a s x1 h hx1 e1
          exact ⟨.inl (p, zef a), s', go s' (zb_71_59 (fun q => absurd q e1) (fun _ => zb_71_62 q1 (zb_71_67 rfl))), q2, ⟨⟨Int.le_refl _, ef2⟩, ze_one hst⟩, res⟩
      · have har : zg_ar (zg_kind (s0 9) T p) := Decidable.not_not.mp (fun q => hn (zar_n.mpr q))
        have hke : zg_kind (s0 9) T p ≠ -1 := by
          intro q
          rw [q] at har
          rcases har with z | z | z | z | z <;> cases z
        have hpT : p < T := by
          rcases Int.lt_or_le p T with z | z
          · exact z
          · exact absurd (zg_kend z) hke
        have hx : x3 < 400 := by have := hc.2.2.2.1; omega
        have hnl := zg_nx_le (b := s0 9) (T := T) hc.1 hc.2.2.2.1 h0.1
        obtain ⟨s1, n1, n2⟩ := zy_next hc h
        have n2 : zSe s0 r T (.inl (zg_nx (s0 9) T p, a)) s1 := n2
        have hx1' : zw (x3 + 1) = x3 + 1 := zw_id (by omega) (by omega)
        -- behind the value
        have nxt : ∀ (σ3 : zSi) (s4 : zS) (y1 y4 : Int), zSe s0 r T σ3 s4 → (∀ p' a', σ3 = .inl (p', a') → zg_nx (s0 9) T p < p' ∧ zYx a' y1) → ∃ σ' s', zA xm_c71 11 [39, y1, zar (zykd (s0 9) T σ3), x3 + 1, y4] [] s4 (0, s') ∧ zSe s0 r T σ' s' ∧ zRe (s0 9) T (fun p a => (2, k, p, a, l, st)) (fun p a => (3, k, p, a, l, st)) σ3 σ' ∧ ∀ p a, σ' = .inl (p, a) → a.2.2.1 = 0 ∧ a.2.2.2.1 = 0 := by
          intro σ3 s4 y1 y4 h4 hy
          refine ih σ3 s4 y1 (x3 + 1) y4 h4 (by omega) (fun p' a' e => ?_) (fun f e => by omega)
          obtain ⟨g1, g2⟩ := hy p' a' e
          have := hnl.2.2 hke
          exact ⟨by omega, g2⟩
        by_cases hmu : zg_mu (zg_kind (s0 9) T p)
        · -- times, by, rest
          obtain ⟨m1, m2, m3, m4, m5, m6, m7⟩ := zk1 hmu
          rw [if_pos hmu] at hst
          have n3 : zSe s0 r T (.inl (zg_nx (s0 9) T p, zet a (zao (zg_kind (s0 9) T p)))) s1 := n2.gh rfl rfl rfl
          obtain ⟨σ3, s3, v1, v2, v3, v4⟩ := zy_value hc k l st n3
          have step : zRe (s0 9) T (fun p a => (2, k, p, a, l, st)) (fun p a => (1, k, p, a, l, st)) (.inl (p, a)) (.inl (zg_nx (s0 9) T p, zet a (zao (zg_kind (s0 9) T p)))) := ⟨⟨hnl.1, rfl⟩, ze_one hst⟩
          have both := zRe_tr step v3
          show ∃ σ' s', zA xm_c71 11 [39, x1, zar (zg_kind (s0 9) T p), x3, x4] [] s (0, s') ∧ zSe s0 r T σ' s' ∧ zRe (s0 9) T (fun p a => (2, k, p, a, l, st)) (fun p a => (3, k, p, a, l, st)) (.inl (p, a)) σ' ∧ ∀ p a, σ' = .inl (p, a) → a.2.2.1 = 0 ∧ a.2.2.2.1 = 0
          generalize zar (zg_kind (s0 9) T p) = x2 at hn m1 m2 m3 m4 ⊢
          have pre : ∀ s', zA xm_c71 47 [39, x1, x2, x3, 0] [] s3 (0, s') → zA xm_c71 11 [39, x1, x2, x3, x4] [] s (0, s') := fun s' z => zb_71_11 (fun _ => zb_71_14 (fun q => absurd q hn) (fun _ => zb_71_17 (fun q => absurd q m2) (fun _ => zb_71_20 (fun q => absurd q m3) (fun _ => zb_71_25 n1 (zb_71_30 (fun _ => zb_71_40 v1 (zb_71_42 (fun _ => z) (fun q => absurd rfl q))) (fun q => absurd rfl q)))))) (fun q => absurd hx q)
          match σ3, v2, v4, both with
          | .inr f, v2, v4, both =>
            obtain ⟨c1, c2, c3, c4, c5, c6⟩ := hc
            have em : ∃ s4, zE xm_c60 [s3 39 1, x2, 0] s3 0 s4 ∧ zSe s0 r T (.inr f) s4 := by
              rw [v2.rl]
              by_cases e2 : s3 r 3 < zw (zlen (r + 1))
              · exact ⟨_, zb_60_0 (zb_60_4 (by omega) (zb_60_5 (fun _ => zb_60_6 rfl) (fun q => absurd e2 q))), (v2.junk c5.1 (by omega) ⟨fun q => by omega, fun q => by omega⟩).junk c5.1 (by omega) ⟨fun q => by omega, fun _ q => absurd q (by decide)⟩⟩
              · exact ⟨s3, zb_60_0 (zb_60_4 (by omega) (zb_60_5 (fun q => absurd q e2) (fun _ => zb_60_22 rfl))), v2⟩
            obtain ⟨s4, w1, w2⟩ := em
            obtain ⟨σ', s', u1, u2, u3, u4⟩ := nxt (.inr f) s4 x1 0 w2 (fun p' a' e => by cases e)
            exact ⟨σ', s', pre s' (zb_71_47 w1 (zb_71_52 (zy_ark w2) (zb_71_56 (by rw [hx1']; exact u1)))), u2, zRe_tr both u3, u4⟩
          | .inl (p', a'), v2, v4, both =>
            obtain ⟨g1, g2, g3⟩ := v4 _ _ p' a' rfl rfl
            have g2 : a'.2.2.2.1 = zao (zg_kind (s0 9) T p) := g2
            have g1 : a'.2.2.1 = a.2.2.1 := g1
            obtain ⟨s4, w1, w2⟩ := zy_emit hc v2 (op := x2) (arg := 0) m4
            rw [← v2.rl] at w1
            have ep : zpd a' = (a'.1, a'.2.2.2.1 :: a'.2.1, a'.2.2.1, 0, a'.2.2.2.2) := by
              unfold zpd
              rw [if_neg (by omega), if_neg (by omega)]
            have w2 : zSe s0 r T (.inl (p', zep a' (zao (zg_kind (s0 9) T p)))) s4 := w2
            have w3 : zSe s0 r T (.inl (p', zpd a')) s4 := w2.gh (by rw [ep]; rfl) (by rw [ep, g2]; rfl) (by rw [ep]; rfl)
            obtain ⟨σ', s', u1, u2, u3, u4⟩ := nxt (.inl (p', zpd a')) s4 x1 0 w3 (fun p2 a2 e => by
              cases e
              refine ⟨g3, ?_⟩
              unfold zYx at hx1 ⊢
              rw [ep]
              show 0 = 0 ∧ ((a'.2.2.1 = 0 ∧ _) ∨ (_ = a'.2.2.1 ∧ (a'.2.2.1 = 2 ∨ a'.2.2.1 = 3)))
              rw [g1]
              exact ⟨rfl, hx1.2⟩)
            refine ⟨σ', s', pre s' (zb_71_47 w1 (zb_71_52 (zy_ark w3) (zb_71_56 (by rw [hx1']; exact u1)))), u2, zRe_tr (B := fun p a => (2, k, p, a, l, st)) (σ1 := .inl (p', zpd a')) ⟨⟨both.1.1, (zpd_m (a := a')).2.1.trans both.1.2⟩, both.2⟩ u3, u4⟩
        · -- plus, minus
          have hpm : zg_pm (zg_kind (s0 9) T p) := Decidable.not_not.mp (fun q => hn (zk3 hmu q))
          obtain ⟨m1, m2⟩ := zk2 hpm
          rw [if_neg hmu, if_pos hpm] at hst
          have em : ∃ s2, zSe s0 r T (.inl (zg_nx (s0 9) T p, zet (zef a) (zao (zg_kind (s0 9) T p)))) s2 ∧ ∀ s', zA xm_c71 40 [39, x1, zar (zg_kind (s0 9) T p), x3, 1] [] s2 (0, s') → zA xm_c71 30 [39, x1, zar (zg_kind (s0 9) T p), x3, 1] [] s1 (0, s') := by
            by_cases e1 : x1 = -1
            · have en := noflush p a s x1 h hx1 e1
              exact ⟨s1, n2.gh (by show (zef a).1 = _; exact ef1) (by show (zef a).2.1 = _; rw [en]) (by show (zef a).2.2.2.2 = _; exact ef2), fun s' z => zb_71_30 (fun q => absurd q (by decide)) (fun _ => zb_71_32 (fun _ => z) (fun q => absurd e1 q))⟩
            · obtain ⟨s2, q1, q2⟩ := flush _ a s1 x1 n2 hx1 e1
              exact ⟨s2, q2.gh rfl rfl rfl, fun s' z => zb_71_30 (fun q => absurd q (by decide)) (fun _ => zb_71_32 (fun q => absurd q e1) (fun _ => zb_71_35 q1 z))⟩
          obtain ⟨s2, e1, e2⟩ := em
          obtain ⟨σ3, s3, v1, v2, v3, v4⟩ := zy_value hc k l st e1
          have step : zRe (s0 9) T (fun p a => (2, k, p, a, l, st)) (fun p a => (1, k, p, a, l, st)) (.inl (p, a)) (.inl (zg_nx (s0 9) T p, zet (zef a) (zao (zg_kind (s0 9) T p)))) := ⟨⟨hnl.1, ef2⟩, ze_one hst⟩
          have both := zRe_tr step v3
          have pre : ∀ s', zA xm_c71 44 [39, x1, zar (zg_kind (s0 9) T p), x3, 1] [] s3 (0, s') → zA xm_c71 11 [39, x1, zar (zg_kind (s0 9) T p), x3, x4] [] s (0, s') := by
            intro s' z
            have z30 := e2 s' (zb_71_40 v1 (zb_71_42 (fun q => absurd q (by decide)) (fun _ => z)))
            refine zb_71_11 (fun _ => zb_71_14 (fun q => absurd q hn) (fun _ => zb_71_17 (fun _ => zb_71_23 n1 z30) (fun q2 => zb_71_20 (fun _ => zb_71_23 n1 z30) (fun q3 => ?_)))) (fun q => absurd hx q)
            rcases m2 with q | q
            · exact absurd (m1.trans q) q2
            · exact absurd (m1.trans q) q3
          show ∃ σ' s', zA xm_c71 11 [39, x1, zar (zg_kind (s0 9) T p), x3, x4] [] s (0, s') ∧ zSe s0 r T σ' s' ∧ zRe (s0 9) T (fun p a => (2, k, p, a, l, st)) (fun p a => (3, k, p, a, l, st)) (.inl (p, a)) σ' ∧ ∀ p a, σ' = .inl (p, a) → a.2.2.1 = 0 ∧ a.2.2.2.1 = 0
          match σ3, v2, v4, both with
          | .inr f, v2, v4, both =>
            obtain ⟨σ', s', u1, u2, u3, u4⟩ := nxt (.inr f) s3 (zar (zg_kind (s0 9) T p)) 1 v2 (fun p' a' e => by cases e)
            exact ⟨σ', s', pre s' (zb_71_44 (zy_ark v2) (zb_71_56 (by rw [hx1']; exact u1))), u2, zRe_tr both u3, u4⟩
          | .inl (p', a'), v2, v4, both =>
            obtain ⟨g1, g2, g3⟩ := v4 _ _ p' a' rfl rfl
            have g2 : a'.2.2.2.1 = zao (zg_kind (s0 9) T p) := g2
            have ep : zpd a' = (a'.1, a'.2.1, a'.2.2.2.1, 0, a'.2.2.2.2) := by
              unfold zpd
              rw [if_neg (by omega), if_pos (by omega)]
            have w3 : zSe s0 r T (.inl (p', zpd a')) s3 := v2.gh (by rw [ep]) (by rw [ep]) (by rw [ep])
            obtain ⟨σ', s', u1, u2, u3, u4⟩ := nxt (.inl (p', zpd a')) s3 (zar (zg_kind (s0 9) T p)) 1 w3 (fun p2 a2 e => by
              cases e
              refine ⟨g3, ?_⟩
              unfold zYx
              rw [ep]
              show 0 = 0 ∧ ((a'.2.2.2.1 = 0 ∧ _) ∨ (_ = a'.2.2.2.1 ∧ (a'.2.2.2.1 = 2 ∨ a'.2.2.2.1 = 3)))
              rw [g2]
              exact ⟨rfl, Or.inr ⟨m1, m2⟩⟩)
            refine ⟨σ', s', pre s' (zb_71_44 (zy_ark w3) (zb_71_56 (by rw [hx1']; exact u1))), u2, zRe_tr (B := fun p a => (2, k, p, a, l, st)) (σ1 := .inl (p', zpd a')) ⟨⟨both.1.1, (zpd_m (a := a')).2.1.trans both.1.2⟩, both.2⟩ u3, u4⟩
/-- nothing waits -/
def zYn (σ : zSi) : Prop := ∀ p a, σ = .inl (p, a) → a.2.2.1 = 0 ∧ a.2.2.2.1 = 0
theorem zy_sum (hc : zCz s0 r T) (k : Nat) (l : Int) (st : List Int) {σ : zSi} {s : zS} (h : zSe s0 r T σ s) (hn : zYn σ) : ∃ σ' s', zE xm_c71 [39, 0, 0, 0, 0] s 0 s' ∧ zSe s0 r T σ' s' ∧ zRe (s0 9) T (fun p a => (1, k, p, a, l, st)) (fun p a => (3, k, p, a, l, st)) σ σ' ∧ zYn σ' := by
  obtain ⟨σ1, s1, v1, v2, v3, v4⟩ := zy_value hc k l st h
  have key : ∀ (σ2 : zSi), zSe s0 r T σ2 s1 → zRe (s0 9) T (fun p a => (1, k, p, a, l, st)) (fun p a => (2, k, p, a, l, st)) σ σ2 → zykd (s0 9) T σ2 = zykd (s0 9) T σ1 → (∀ p a, σ2 = .inl (p, a) → zYx a (-1)) → ∃ σ' s', zE xm_c71 [39, 0, 0, 0, 0] s 0 s' ∧ zSe s0 r T σ' s' ∧ zRe (s0 9) T (fun p a => (1, k, p, a, l, st)) (fun p a => (3, k, p, a, l, st)) σ σ' ∧ zYn σ' := by
    intro σ2 h2 h3 hk hx
    obtain ⟨σ3, s3, w1, w2, w3, w4⟩ := zy_sumloop hc k l st ((T + 2).toNat) σ2 s1 (-1) 0 0 h2 (by omega) (fun p a e => by
      subst e
      have := h2.1
      exact ⟨by omega, hx p a rfl⟩) (fun f e => by have := hc.2.2.1; omega)
    rw [hk] at w1
    exact ⟨σ3, s3, zb_71_0 v1 (zb_71_2 (zy_ark v2) (zb_71_8 w1)), w2, zRe_tr h3 w3, w4⟩
  match σ, σ1, v2, v3, v4, hn, key with
  | .inr f, σ1, v2, v3, v4, hn, key =>
    have v3 : σ1 = .inr f := v3
    subst v3
    exact key (.inr f) v2 rfl rfl (fun p a e => by cases e)
  | .inl (p, a), .inr f, v2, v3, v4, hn, key => exact key (.inr f) v2 v3 rfl (fun p a e => by cases e)
  | .inl (p, a), .inl (p', a'), v2, v3, v4, hn, key =>
    obtain ⟨n1, n2⟩ := hn p a rfl
    obtain ⟨g1, g2, g3⟩ := v4 p a p' a' rfl rfl
    have ep : zpd a' = (a'.1, a'.2.1, a'.2.2.1, 0, a'.2.2.2.2) := by
      unfold zpd
      rw [if_pos (by omega)]
    refine key (.inl (p', zpd a')) (v2.gh (by rw [ep]) (by rw [ep]) (by rw [ep])) ⟨⟨v3.1.1, (zpd_m (a := a')).2.1.trans v3.1.2⟩, v3.2⟩ rfl (fun p2 a2 e => ?_)
    cases e
    unfold zYx
    rw [ep]
    exact ⟨rfl, Or.inl ⟨g1.trans n1, rfl⟩⟩
end YD
