/-! RuleReader.read, with the code -/
/-- how a clause ends: with all read, or with another clause to come -/
def zYo (b : Int → Int) (T : Int) (A : zQe) (l : Int) (σ' : zSi) (y : Int) : Prop := (y = 0 ∧ ∃ f w, ze_end b T A (f, w) ∧ (σ' = .inr f ∨ (f = 0 ∧ ∃ p, σ' = .inl (p, w)))) ∨ (y = 1 ∧ ∃ p' a', σ' = .inl (p', a') ∧ ze_to b T A (0, 0, p', a', l, []) ∧ (((a'.2.2.2.2.length : Nat) : Int) = 2 * l ∧ a'.2.2.1 = 0 ∧ a'.2.2.2.1 = 0))
theorem zYo_to {b : Int → Int} {T l y : Int} {A B : zQe} {σ' : zSi} (h : ze_to b T A B) (h' : zYo b T B l σ' y) : zYo b T A l σ' y := by
  rcases h' with ⟨e, f, w, h1, h2⟩ | ⟨e, p', a', h1, h2, h3⟩
  · exact Or.inl ⟨e, f, w, ze_tend h h1, h2⟩
  · exact Or.inr ⟨e, p', a', h1, ze_trans h h2, h3⟩
theorem zYo_dead {b : Int → Int} {T l f : Int} {A : zQe} (h : ∃ w, ze_end b T A (f, w)) : zYo b T A l (.inr f) 0 := by
  obtain ⟨w, hw⟩ := h
  exact Or.inl ⟨rfl, f, w, hw, Or.inl rfl⟩
section YI
variable {s0 : zS} {r T : Int}
theorem zy_d58 (hc : zCz s0 r T) {x3 f : Int} {s : zS} (h : zSe s0 r T (.inr f) s) : ∃ s', (∀ R, zA xm_c66 64 [39, r, 1, x3] [(false, 0)] s' R → zA xm_c66 58 [39, r, 1, x3] [] s R) ∧ zSe s0 r T (.inr f) s' := by
  obtain ⟨s5, d1, d2⟩ := zy_ccld hc h
  rw [← h.rl] at d1
  have hk := d2.kd
  obtain ⟨s6, q1, q2⟩ := zy_fail hc d2 (c := 0) (by omega) (by omega)
  exact ⟨s6, fun R z => zb_66_58 d1 (zb_66_61 (zb_86_0 (fun q => absurd (show s5 8 2 = 59 from q) (by rw [hk]; show (-2 : Int) ≠ 59; decide)) (fun _ => zb_86_8 (fun q => absurd (show s5 8 2 = -1 from q) (by rw [hk]; show (-2 : Int) ≠ -1; decide)) (fun _ => zb_86_12 q1 (zb_86_15 rfl)))) z), q2⟩
theorem zy_d43 (hc : zCz s0 r T) {x3 f : Int} {s : zS} (h : zSe s0 r T (.inr f) s) : ∃ s', (∀ R, zA xm_c66 64 [39, r, 1, x3] [(false, 0)] s' R → zA xm_c66 43 [39, r, 1, x3] [] s R) ∧ zSe s0 r T (.inr f) s' := by
  obtain ⟨s3, c1, c2⟩ := zy_csumd hc h
  rw [← h.rl] at c1
  have hw3 := zy_word hc c2 (k := 3) (by omega) (by omega)
  obtain ⟨s', z1, z2⟩ := zy_d58 hc (x3 := x3) c2
  exact ⟨s', fun R z => zb_66_43 c1 (zb_66_46 hw3 (zb_66_50 (fun _ => z1 R z) (fun q => absurd rfl q))), z2⟩
theorem zy_d41 (hc : zCz s0 r T) {x3 f : Int} {s : zS} (h : zSe s0 r T (.inr f) s) : ∃ s', (∀ R, zA xm_c66 64 [39, r, 1, x3] [(false, 0)] s' R → zA xm_c66 41 [39, r, 1, x3] [] s R) ∧ zSe s0 r T (.inr f) s' := by
  obtain ⟨σ2, s2, v1, v2, v3, -⟩ := zy_sum hc 0 0 [] h zYn_r
  have v3 : σ2 = .inr f := v3
  subst v3
  obtain ⟨s', z1, z2⟩ := zy_d43 hc (x3 := x3) v2
  exact ⟨s', fun R z => zb_66_41 v1 (z1 R z), z2⟩
theorem zy_58 (hc : zCz s0 r T) {x3 l p : Int} {a : zW} {n : Nat} {s : zS} (h : zSe s0 r T (.inl (p, a)) s) (hn : a.2.2.2.2.length = 2 * n + 1) (hn2 : n < 12) (hl : l = ((n + 1 : Nat) : Int)) (hw : a.2.2.1 = 0 ∧ a.2.2.2.1 = 0) : ∃ σ' s' y, (∀ R, zA xm_c66 64 [39, r, 1, x3] [(false, y)] s' R → zA xm_c66 58 [39, r, 1, x3] [] s R) ∧ zSe s0 r T σ' s' ∧ zYo (s0 9) T (6, 0, p, zem a, l, []) l σ' y := by
  obtain ⟨s5, d1, d2⟩ := zy_ccl hc h hn hn2
  rw [← h.rl] at d1
  have hk : s5 8 2 = zg_kind (s0 9) T p := d2.kd
  have hst : ze_st (s0 9) T (6, 0, p, zem a, l, []) = if zg_kind (s0 9) T p = 59 then .inl (0, 0, zg_nx (s0 9) T p, zem a, l, []) else if zg_kind (s0 9) T p = -1 then .inr (0, zem a) else zfe_ 0 p (zem a) := rfl
  have ln : (((zem a).2.2.2.2.length : Nat) : Int) = 2 * l := by
    show ((a.2.2.2.2.length + 1 : Nat) : Int) = _
    omega
  by_cases e59 : zg_kind (s0 9) T p = 59
  · obtain ⟨s6, q1, q2⟩ := zy_next hc d2
    exact ⟨_, s6, 1, fun R z => zb_66_58 d1 (zb_66_61 (zb_86_0 (fun _ => zb_86_4 q1 (zb_86_6 rfl)) (fun q => absurd (show s5 8 2 = 59 by rw [hk]; exact e59) q)) z), q2, Or.inr ⟨rfl, _, _, rfl, ze_one (by rw [hst, if_pos e59]), ln, hw⟩⟩
  · by_cases em : zg_kind (s0 9) T p = -1
    · exact ⟨.inl (p, zem a), s5, 0, fun R z => zb_66_58 d1 (zb_66_61 (zb_86_0 (fun q => absurd (show s5 8 2 = 59 from q) (by rw [hk]; exact e59)) (fun _ => zb_86_8 (fun _ => zb_86_15 rfl) (fun q => absurd (show s5 8 2 = -1 by rw [hk]; exact em) q))) z), d2, Or.inl ⟨rfl, 0, zem a, ze_stop (by rw [hst, if_neg e59, if_pos em]), Or.inr ⟨rfl, p, rfl⟩⟩⟩
    · obtain ⟨s6, q1, q2⟩ := zy_fail hc d2 (c := 0) (by omega) (by omega)
      exact ⟨.inr (1 + 8 * p + 0), s6, 0, fun R z => zb_66_58 d1 (zb_66_61 (zb_86_0 (fun q => absurd (show s5 8 2 = 59 from q) (by rw [hk]; exact e59)) (fun _ => zb_86_8 (fun q => absurd (show s5 8 2 = -1 from q) (by rw [hk]; exact em)) (fun _ => zb_86_12 q1 (zb_86_15 rfl)))) z), q2, zYo_dead ⟨zem a, ze_stop (by rw [hst, if_neg e59, if_neg em]; rfl)⟩⟩
theorem zy_43 (hc : zCz s0 r T) {x3 l p : Int} {a : zW} {n : Nat} {s : zS} (h : zSe s0 r T (.inl (p, a)) s) (hn : a.2.2.2.2.length = 2 * n) (hn2 : n < 12) (hl : l = ((n + 1 : Nat) : Int)) (hw : a.2.2.1 = 0 ∧ a.2.2.2.1 = 0) : ∃ σ' s' y, (∀ R, zA xm_c66 64 [39, r, 1, x3] [(false, y)] s' R → zA xm_c66 43 [39, r, 1, x3] [] s R) ∧ zSe s0 r T σ' s' ∧ zYo (s0 9) T (3, 0, p, a, l, []) l σ' y := by
  obtain ⟨s3, c1, c2⟩ := zy_csum hc h hn hn2
  rw [← h.rl] at c1
  have hw3 := zy_word hc c2 (k := 3) (by omega) (by omega)
  have h0 := c2.1
  have hif : zywd (s0 9) T 3 (.inl (p, zem a)) = -1 ↔ ¬ zg_is (s0 9) T p yw_if := zywd_1 (by decide)
  have hst : ze_st (s0 9) T (3, 0, p, a, l, []) = if zg_is (s0 9) T p yw_if then .inl (4, 0, zg_nx (s0 9) T p, zem a, l, []) else .inl (6, 0, p, zem (zem a), l, []) := rfl
  have ln : (zem a).2.2.2.2.length = 2 * n + 1 := by
    show a.2.2.2.2.length + 1 = _
    omega
  by_cases eif : zg_is (s0 9) T p yw_if
  · have hx : ¬ zywd (s0 9) T 3 (.inl (p, zem a)) = -1 := fun q => hif.mp q eif
    obtain ⟨s4, n1, n2⟩ := zy_next hc c2
    have n2 : zSe s0 r T (.inl (zg_nx (s0 9) T p, zem a)) s4 := n2
    obtain ⟨σ5, s5, t1, t2, t3, t4, t5⟩ := zy_test hc l _ s4 n2 (zYn_i hw)
    match σ5, t2, t3, t4, t5 with
    | .inr f, t2, t3, t4, t5 =>
      obtain ⟨s', z1, z2⟩ := zy_d58 hc (x3 := x3) t2
      obtain ⟨w, t3⟩ := t3
      exact ⟨_, s', 0, fun R z => zb_66_43 c1 (zb_66_46 hw3 (zb_66_50 (fun q => absurd q hx) (fun _ => zb_66_52 n1 (zb_66_55 t1 (z1 R z))))), z2, zYo_dead ⟨w, ze_tend (ze_one (by rw [hst, if_pos eif])) t3⟩⟩
    | .inl (p', a'), t2, t3, t4, t5 =>
      have ln2 : a'.2.2.2.2.length = 2 * n + 1 := by rw [t3.1.2]; exact ln
      obtain ⟨σ', s', y, z1, z2, z3⟩ := zy_58 hc (x3 := x3) t2 ln2 hn2 hl (t4 p' a' rfl)
      refine ⟨σ', s', y, fun R z => zb_66_43 c1 (zb_66_46 hw3 (zb_66_50 (fun q => absurd q hx) (fun _ => zb_66_52 n1 (zb_66_55 t1 (z1 R z))))), z2, zYo_to (ze_trans (ze_one (by rw [hst, if_pos eif])) (ze_trans t3.2 (ze_one ?_))) z3⟩
      refine ze_5n.trans ?_
      rw [if_neg (t5 p' a' rfl)]
  · obtain ⟨σ', s', y, z1, z2, z3⟩ := zy_58 hc (x3 := x3) c2 ln hn2 hl hw
    exact ⟨σ', s', y, fun R z => zb_66_43 c1 (zb_66_46 hw3 (zb_66_50 (fun _ => z1 R z) (fun q => absurd (hif.mpr eif) q))), z2, zYo_to (ze_one (by rw [hst, if_neg eif])) z3⟩
theorem zy_clause (hc : zCz s0 r T) {p x3 : Int} {a : zW} {s : zS} (h : zSe s0 r T (.inl (p, a)) s) (h3 : 0 ≤ x3) (h12 : x3 ≤ 12) (hms : ((a.2.2.2.2.length : Nat) : Int) = 2 * x3) (hw : a.2.2.1 = 0 ∧ a.2.2.2.1 = 0) : ∃ σ' s' y, (∀ R, zA xm_c66 64 [39, r, 1, x3] [(false, y)] s' R → zA xm_c66 20 [39, r, 1, x3] [] s R) ∧ zSe s0 r T σ' s' ∧ zYo (s0 9) T (0, 0, p, a, x3, []) (x3 + 1) σ' y ∧ (y = 1 → x3 < 12) := by
  have hw1 := zy_word hc h (k := 1) (by omega) (by omega)
  have h0 := h.1
  have ht : zywd (s0 9) T 1 (.inl (p, a)) = -1 ↔ ¬ zg_is (s0 9) T p yw_tell := zywd_1 (by decide)
  have hst : ze_st (s0 9) T (0, 0, p, a, x3, []) = if zg_is (s0 9) T p yw_tell then (if x3 = 12 then zfe_ 4 p a else .inl (1, 0, zg_nx (s0 9) T p, a, x3 + 1, [])) else zfe_ 0 p a := rfl
  by_cases et : zg_is (s0 9) T p yw_tell
  · have hx : ¬ zywd (s0 9) T 1 (.inl (p, a)) = -1 := fun q => ht.mp q et
    by_cases e12 : x3 = 12
    · obtain ⟨s1, q1, q2⟩ := zy_fail hc h (c := 4) (by omega) (by omega)
      have q2 : zSe s0 r T (.inr (1 + 8 * p + 4)) s1 := q2
      obtain ⟨s2, n1, n2⟩ := zy_next hc q2
      obtain ⟨s', z1, z2⟩ := zy_d41 hc (x3 := x3) n2
      exact ⟨_, s', 0, fun R z => zb_66_20 hw1 (zb_66_24 (fun q => absurd q hx) (fun _ => zb_66_31 (fun q => absurd q (by omega)) (fun _ => zb_66_34 q1 (zb_66_38 n1 (z1 R z))))), z2, zYo_dead ⟨a, ze_stop (by rw [hst, if_pos et, if_pos e12]; rfl)⟩, fun e => by omega⟩
    · obtain ⟨s2, n1, n2⟩ := zy_next hc h
      have n2 : zSe s0 r T (.inl (zg_nx (s0 9) T p, a)) s2 := n2
      obtain ⟨σ2, s3, v1, v2, v3, v4⟩ := zy_sum hc 0 (x3 + 1) [] n2 (zYn_i hw)
      have step : ze_to (s0 9) T (0, 0, p, a, x3, []) (1, 0, zg_nx (s0 9) T p, a, x3 + 1, []) := ze_one (by rw [hst, if_pos et, if_neg e12])
      have pre : ∀ R, zA xm_c66 43 [39, r, 1, x3] [] s3 R → zA xm_c66 20 [39, r, 1, x3] [] s R := fun R z => zb_66_20 hw1 (zb_66_24 (fun q => absurd q hx) (fun _ => zb_66_31 (fun _ => zb_66_38 n1 (zb_66_41 v1 z)) (fun q => absurd (show x3 < 12 by omega) q)))
      match σ2, v2, v3, v4 with
      | .inr f, v2, v3, v4 =>
        obtain ⟨s', z1, z2⟩ := zy_d43 hc (x3 := x3) v2
        obtain ⟨w, v3⟩ := v3
        exact ⟨_, s', 0, fun R z => pre R (z1 R z), z2, zYo_dead ⟨w, ze_tend step v3⟩, fun e => by omega⟩
      | .inl (p', a'), v2, v3, v4 =>
        obtain ⟨σ', s', y, z1, z2, z3⟩ := zy_43 hc (x3 := x3) (l := x3 + 1) (n := x3.toNat) v2 (by rw [v3.1.2]; omega) (by omega) (by omega) (v4 p' a' rfl)
        exact ⟨σ', s', y, fun R z => pre R (z1 R z), z2, zYo_to (ze_trans step v3.2) z3, fun _ => by omega⟩
  · have hx := ht.mpr et
    rw [hx] at hw1
    obtain ⟨s1, q1, q2⟩ := zy_fail hc h (c := 0) (by omega) (by omega)
    have q2 : zSe s0 r T (.inr (1 + 8 * p + 0)) s1 := q2
    obtain ⟨s2, n1, n2⟩ := zy_next hc q2
    obtain ⟨s', z1, z2⟩ := zy_d41 hc (x3 := x3) n2
    exact ⟨_, s', 0, fun R z => zb_66_20 hw1 (zb_66_24 (fun _ => zb_66_26 q1 (zb_66_30 n1 (z1 R z))) (fun q => absurd rfl q)), z2, zYo_dead ⟨a, ze_stop (by rw [hst, if_neg et]; rfl)⟩, fun e => by omega⟩
/-- what stands when all is read -/
def zYf (s0 : zS) (r f : Int) (w : zW) (s : zS) : Prop := s 8 5 = f ∧ (f = 0 → zCd r w s) ∧ s 8 1 = s0 8 1 ∧ s (r + 2) 0 = 0 ∧ ∀ x y, x ≠ 8 → x ≠ 39 → ¬ (r ≤ x ∧ x < r + 4) → s x y = s0 x y
theorem zSe.fin {f : Int} {w : zW} {σ : zSi} {s : zS} (hr : 240 ≤ r) (h : zSe s0 r T σ s) (hf : σ = .inr f ∨ (f = 0 ∧ ∃ p, σ = .inl (p, w))) : zYf s0 r f w s := by
  rcases hf with rfl | ⟨rfl, p, rfl⟩
  · obtain ⟨h0, s1, p, e, e1, hj, hq1, hq2⟩ := h
    refine ⟨by rw [e]; rfl, fun z => absurd z h0, by rw [e]; exact hj.1, by rw [e, zT_o (by omega)]; exact hq1, fun x y h1 h2 h3 => by rw [e, zT_o h1]; exact hj.2 x y h1 h2 h3⟩
  · obtain ⟨h0, s1, e, e1, e2, hd, hj⟩ := h
    refine ⟨by rw [e]; rfl, fun _ => ?_, by rw [e]; exact hj.1, by rw [e, zT_o (by omega)]; exact hd.2.2.1, fun x y h1 h2 h3 => by rw [e, zT_o h1]; exact hj.2 x y h1 h2 h3⟩
    rw [e]
    have k : ∀ d b, 0 ≤ d → zT s1 (zg_kind (s0 9) T p) p (zg_te (s0 9) T p - p) 0 (r + d) b = s1 (r + d) b := fun d b hd => zT_o (by omega)
    have k0 : ∀ b, zT s1 (zg_kind (s0 9) T p) p (zg_te (s0 9) T p - p) 0 r b = s1 r b := fun b => zT_o (by omega)
    unfold zCd at hd ⊢
    rw [k0, k0, k 2 0 (by decide)]
    refine ⟨⟨hd.1.1, fun i h1 h2 => ?_⟩, hd.2.1, hd.2.2.1, fun i h1 => ?_⟩
    · rw [k 1 _ (by decide)]
      exact hd.1.2 i h1 h2
    · rw [k 3 _ (by decide), k 2 _ (by decide)]
      exact hd.2.2.2 i h1
theorem zy_readloop (hc : zCz s0 r T) : ∀ (m : Nat) (p : Int) (a : zW) (s : zS) (x3 : Int), zSe s0 r T (.inl (p, a)) s → 0 ≤ x3 → x3 ≤ 12 → ((a.2.2.2.2.length : Nat) : Int) = 2 * x3 → (a.2.2.1 = 0 ∧ a.2.2.2.1 = 0) → (12 - x3).toNat ≤ m → ∃ f w s', zA xm_c66 15 [39, r, 1, x3] [] s (f, s') ∧ zYf s0 r f w s' ∧ ze_end (s0 9) T (0, 0, p, a, x3, []) (f, w) := by
  have one : ∀ (p : Int) (a : zW) (s : zS) (x3 : Int), zSe s0 r T (.inl (p, a)) s → 0 ≤ x3 → x3 ≤ 12 → ((a.2.2.2.2.length : Nat) : Int) = 2 * x3 → (a.2.2.1 = 0 ∧ a.2.2.2.1 = 0) → (∀ p' a' s', x3 < 12 → zSe s0 r T (.inl (p', a')) s' → ((a'.2.2.2.2.length : Nat) : Int) = 2 * (x3 + 1) → (a'.2.2.1 = 0 ∧ a'.2.2.2.1 = 0) → ∃ f w s'', zA xm_c66 15 [39, r, 1, x3 + 1] [] s' (f, s'') ∧ zYf s0 r f w s'' ∧ ze_end (s0 9) T (0, 0, p', a', x3 + 1, []) (f, w)) → ∃ f w s', zA xm_c66 15 [39, r, 1, x3] [] s (f, s') ∧ zYf s0 r f w s' ∧ ze_end (s0 9) T (0, 0, p, a, x3, []) (f, w) := by
    intro p a s x3 h h3 h12 hms hw ih
    obtain ⟨σ', s', y, z1, z2, z3, z4⟩ := zy_clause hc h h3 h12 hms hw
    have hx3 : zw (x3 + 1) = x3 + 1 := zw_id (by omega) (by omega)
    rcases z3 with ⟨e, f, w, y1, y2⟩ | ⟨e, p', a', e', y1, y2, y3⟩
    · subst e
      have hf := z2.fin hc.2.2.2.2.1.1 y2
      refine ⟨f, w, s', zb_66_15 (fun q => absurd q (by decide)) (fun _ => zb_66_17 (fun q => absurd q (by omega)) (fun _ => z1 _ (zb_66_64 (zb_66_15 (fun _ => zb_66_67 ?_) (fun q => absurd rfl q))))), hf, y1⟩
      show (s' 8 5, s') = (f, s')
      rw [hf.1]
    · subst e e'
      obtain ⟨f, w, s'', u1, u2, u3⟩ := ih p' a' s' (z4 rfl) z2 y2 y3
      rw [← hx3] at u1
      exact ⟨f, w, s'', zb_66_15 (fun q => absurd q (by decide)) (fun _ => zb_66_17 (fun q => absurd q (by omega)) (fun _ => z1 _ (zb_66_64 u1))), u2, ze_tend y1 u3⟩
  intro m
  induction m with
  | zero =>
    intro p a s x3 h h3 h12 hms hw hm
    exact one p a s x3 h h3 h12 hms hw (fun p' a' s' hlt _ _ _ => by omega)
  | succ m ih =>
    intro p a s x3 h h3 h12 hms hw hm
    exact one p a s x3 h h3 h12 hms hw (fun p' a' s' hlt h' g1 g2 => ih p' a' s' (x3 + 1) h' (by omega) (by omega) g1 g2 (by omega))
/-- nothing is made yet -/
def zW0 : zW := (0, [], 0, 0, [])
/-- the class's reading of a rule -/
theorem zy_read (hb : zg_by (s0 9)) (hT : s0 8 1 = T) (hT0 : 0 ≤ T) (hT4 : T ≤ 400) (hr : 240 ≤ r) (hr2 : r + 3 < 264) (hlen : zw (zlen (r + 1)) = 240) (h20 : s0 (r + 2) 0 = 0) : ∃ f w s', zE xm_c66 [39, r, 0, 0] s0 f s' ∧ zYf s0 r f w s' ∧ ze_end (s0 9) T (0, 0, zg_sk (s0 9) T 0, zW0, 0, []) (f, w) := by
  have hc : zCz s0 r T := ⟨hb, hT, hT0, hT4, ⟨hr, hr2⟩, hlen⟩
  have e0 : zu (zu (zu s0 8 5 0) 8 3 0) 8 4 0 = zT s0 (s0 8 2) 0 0 0 := by
    have := zT_id (s := s0)
    rw [← this, zu_T5, zu_T3, zu_T4, this]
  have sk : 0 ≤ zg_sk (s0 9) T 0 ∧ (zg_sk (s0 9) T 0 ≤ T ∨ zg_sk (s0 9) T 0 = 0) := zg_run_le
  have n1 := zt_next (s := s0) (T := T) (k := s0 8 2) (p := 0) (n := 0) hb hT hT4 (by omega) (by omega) (by omega) (q := zg_sk (s0 9) T 0) rfl
  rw [← e0] at n1
  have h1 : zSe s0 r T (.inl (zg_sk (s0 9) T 0, zW0)) (zu (zu (zu (zu (zT s0 (zg_kind (s0 9) T (zg_sk (s0 9) T 0)) (zg_sk (s0 9) T 0) (zg_te (s0 9) T (zg_sk (s0 9) T 0) - zg_sk (s0 9) T 0) 0) r 3 0) r 4 0) 39 1 r) 39 2 0) := by
    rw [zT_u (by omega), zT_u (by omega), zT_u (by decide), zT_u (by decide)]
    refine ⟨?_, _, rfl, ?_, zu_hit, ?_, ?_⟩
    · show 0 ≤ zg_sk (s0 9) T 0 ∧ zg_sk (s0 9) T 0 ≤ T ∧ (0 : Int) ≤ 0 ∧ (0 : Int) ≤ 60
      omega
    · rw [zu_place (by decide)]
      exact zu_hit
    · refine zCd_u (zCd_u ?_ (by omega)) (by omega)
      refine ⟨⟨?_, fun i h1 h2 => absurd h1 (Nat.not_lt_zero i)⟩, zu_hit, ?_, fun i h1 => absurd h1 (Nat.not_lt_zero _)⟩
      · rw [zu_place (by decide), zu_hit]
        rfl
      · rw [zu_cell (by omega), zu_cell (by omega)]
        exact h20
    · exact zJe_u (zJe_u (zJe_u (zJe_u ⟨rfl, fun _ _ _ _ _ => rfl⟩ hr (by omega)) hr (by omega)) hr (by omega)) hr (by omega)
  obtain ⟨f, w, s', u1, u2, u3⟩ := zy_readloop hc 12 _ zW0 _ 0 h1 (by omega) (by omega) rfl ⟨rfl, rfl⟩ (by omega)
  exact ⟨f, w, s', zb_66_0 (zb_80_0 n1 (zb_80_11 rfl)) (zb_66_3 (zb_59_0 rfl) (zb_66_5 u1)), u2, u3⟩
end YI
