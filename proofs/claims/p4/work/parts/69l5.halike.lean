/-! house on both sides -/
section HS
variable {s : zS}
theorem zlen_22 : zw (zlen (19 + 3)) = 7 := by decide +kernel
theorem zlen_25 : zw (zlen (24 + 1)) = 7 := by decide +kernel
theorem zlen_26 : zw (zlen (24 + 2)) = 7 := by decide +kernel
theorem zlen_27 : zw (zlen (24 + 3)) = 7 := by decide +kernel
theorem zo_hcopy : ∃ s', zE xm_c25 [11, 30] s 0 s' ∧ s' 11 1 = s 30 1 ∧ ∀ a b, ¬ (11 ≤ a ∧ a < 19) → s' a b = s a b := by
  refine ⟨_, zb_25_0 rfl, ?_, fun a b h => ?_⟩
  · rw [zcpy_o (by decide), zcpy_o (by decide), zcpy_o (by decide), zcpy_o (by decide), zcpy_o (by decide), zcpy_o (by decide), zcpy_o (by decide), zu_place (by decide), zu_place (by decide), zu_place (by decide), zu_place (by decide), zu_place (by decide), zu_place (by decide), zu_place (by decide), zu_place (by decide), zu_hit, zu_cell (by decide)]
  · rw [zcpy_o (by omega), zcpy_o (by omega), zcpy_o (by omega), zcpy_o (by omega), zcpy_o (by omega), zcpy_o (by omega), zcpy_o (by omega), zu_cell (by omega), zu_cell (by omega), zu_cell (by omega), zu_cell (by omega), zu_cell (by omega), zu_cell (by omega), zu_cell (by omega), zu_cell (by omega), zu_cell (by omega), zu_cell (by omega)]
theorem zo_gohome : ∃ s', zE xm_c3 [19, 11] s 0 s' ∧ ∀ a b, ¬ (19 ≤ a ∧ a < 24) → s' a b = s a b := by
  obtain ⟨s1, a1, a2, -⟩ := zo_fill (j := 19 + 3) (v := 0) (s := zcpy (zcpy (zcpy (zu (zu s 19 0 0) 19 1 ((zu s 19 0 0) 11 5)) (11 + 1) 0 (19 + 1) 0 7) (11 + 1) 0 (19 + 2) 0 7) (11 + 2) 0 (19 + 4) 0 7) (by decide) zlen_22 (by decide)
  exact ⟨s1, zb_3_0 a1 (zb_3_35 rfl), fun a b h => by rw [a2 a b (by omega), zcpy_o (by omega), zcpy_o (by omega), zcpy_o (by omega), zu_cell (by omega), zu_cell (by omega)]⟩
theorem zo_lclear : ∃ s', zE xm_c36 [24] s 0 s' ∧ ∀ a b, ¬ (24 ≤ a ∧ a < 28) → s' a b = s a b := by
  obtain ⟨s1, a1, a2, -⟩ := zo_fill (j := 24 + 1) (v := -1) (s := zu s 24 0 0) (by decide) zlen_25 (by decide)
  obtain ⟨s2, b1, b2, -⟩ := zo_fill (j := 24 + 2) (v := 0) (s := s1) (by decide) zlen_26 (by decide)
  obtain ⟨s3, c1, c2, -⟩ := zo_fill (j := 24 + 3) (v := -1) (s := s2) (by decide) zlen_27 (by decide)
  exact ⟨s3, zb_36_0 a1 (zb_36_7 b1 (zb_36_11 c1 (zb_36_15 rfl))), fun a b h => by rw [c2 a b (by omega), b2 a b (by omega), a2 a b (by omega), zu_cell (by omega)]⟩
/-- the answer of house -/
def zhq (f x : Int) : Int := if f = 0 then x else zw (-2 - f)
theorem zo_house {R : zHS} (hb : zg_by (s 9)) (h0 : 0 ≤ s 8 1) (h4 : s 8 1 ≤ 400) (hR : zh0 R) : ∃ f R' s', zhr (s 9) (s 8 1) 41 0 (zg_sk (s 9) (s 8 1) 0) R = some (f, R') ∧ zE xm_c90 [7, 0] s (zhq f (R' 1)) s' ∧ s' 8 1 = 0 ∧ s' 345 = s 345 ∧ s' 350 = s 350 := by
  obtain ⟨f, R', s1, u1, u2, u3, u4, u5⟩ := zc_read hb rfl h0 h4 hR
  unfold zhq
  by_cases e : f = 0
  · obtain ⟨s2, a1, a2, a3⟩ := zo_hcopy (s := zu s1 8 1 0)
    obtain ⟨s3, b1, b2⟩ := zo_gohome (s := s2)
    obtain ⟨s4, c1, c2⟩ := zo_lclear (s := s3)
    have fr : ∀ a b, a ≠ 40 → a ≠ 10 → ¬ (11 ≤ a ∧ a < 28) → zu (zu s4 10 5 0) 40 3 0 a b = zu s1 8 1 0 a b := fun a b h1 h2 h3 => by rw [zu_cell h1, zu_cell h2, c2 a b (by omega), b2 a b (by omega), a3 a b (by omega)]
    refine ⟨f, R', zu (zu s4 10 5 0) 40 3 0, u1, ?_, ?_, ?_, ?_⟩
    · rw [if_pos e]
      refine zb_90_0 u2 (zb_90_5 (fun _ => zb_90_16 (r := 0) (s1 := zu s4 10 5 0) (zb_75_0 a1 (zb_75_4 b1 (zb_75_9 c1 (zb_75_12 rfl)))) (zb_90_21 (r := 0) (s1 := zu (zu s4 10 5 0) 40 3 0) (zb_19_0 rfl) (zb_90_24 ?_))) (fun q => absurd e q))
      have v : zu (zu s4 10 5 0) 40 3 0 (7 + 3 + 1) 1 = R' 1 := by
        rw [zu_cell (by decide), zu_cell (by decide), show (7 : Int) + 3 + 1 = 11 from rfl, c2 11 1 (by decide), b2 11 1 (by decide), a2, zu_cell (by decide)]
        exact (u4 e).1.2.1
      rw [v]
    · rw [fr 8 1 (by decide) (by decide) (by decide), zu_hit]
    · funext b
      rw [fr 345 b (by decide) (by decide) (by decide), zu_cell (by decide), u5 345 b (by decide) (by decide)]
    · funext b
      rw [fr 350 b (by decide) (by decide) (by decide), zu_cell (by decide), u5 350 b (by decide) (by decide)]
  · refine ⟨f, R', zu s1 8 1 0, u1, ?_, zu_hit, ?_, ?_⟩
    · rw [if_neg e]
      exact zb_90_0 u2 (zb_90_5 (fun q => absurd q e) (fun _ => zb_90_12 rfl))
    · funext b
      rw [zu_cell (by decide), u5 345 b (by decide) (by decide)]
    · funext b
      rw [zu_cell (by decide), u5 350 b (by decide) (by decide)]
/-- nothing told yet -/
def zhi (k : Int) : Int := if k = 5 ∨ k = 6 ∨ k = 7 then -1 else 0
def zh00 (R : zHS) : zHS := fun k => if 0 ≤ k ∧ k < 10 then zhi k else R k
theorem zh00_0 (R : zHS) : zh0 (zh00 R) := by
  refine ⟨?_, ?_, ?_, ?_, ?_, ?_, ?_⟩
  · exact if_pos (by decide)
  · exact if_pos (by decide)
  · exact if_pos (by decide)
  · exact if_pos (by decide)
  · exact if_pos (by decide)
  · exact if_pos (by decide)
  · exact if_pos (by decide)
theorem zr_h5 {x : Int} {X : Int × zS} (h0 : 0 ≤ x) (h1 : x < 10) (z : zA xm_c169 5 [344, x + 1] [] (zu s 350 x (zhi x)) X) : zA xm_c169 5 [344, x] [] s X := by
  have e : zw (x + 1) = x + 1 := zw_id (by omega) (by omega)
  have a : (x = 5 ∨ x = 6 ∨ x = 7) → zA xm_c169 20 [344, x] [(false, x), (false, 344 + 6)] s X := fun q => zb_169_20 (by
    unfold zhi at z
    rw [if_pos q] at z
    rw [e]
    exact z)
  refine zb_169_5 (fun _ => zb_169_8 (fun q => a (Or.inl q)) (fun q => zb_169_14 (fun q2 => a (Or.inr (Or.inl q2))) (fun q2 => zb_169_17 (fun q3 => a (Or.inr (Or.inr q3))) (fun q3 => zb_169_22 ?_)))) (fun q => absurd h1 q)
  unfold zhi at z
  rw [if_neg (fun w => w.elim q (fun w => w.elim q2 q3))] at z
  rw [e]
  exact z
theorem zr_hinit : ∀ (n : Nat) (x : Int) (s : zS), 0 ≤ x → x ≤ 10 → (10 - x).toNat ≤ n → ∃ s', (∀ X, zA xm_c169 26 [344, 10] [] s' X → zA xm_c169 5 [344, x] [] s X) ∧ (∀ k, s' 350 k = if x ≤ k ∧ k < 10 then zhi k else s 350 k) ∧ ∀ a b, a ≠ 350 → s' a b = s a b := by
  intro n
  induction n with
  | zero =>
    intro x s h0 h1 hn
    have e : x = 10 := by omega
    subst e
    exact ⟨s, fun X z => zb_169_5 (fun q => absurd q (by decide)) (fun _ => z), fun k => by rw [if_neg (by omega)], fun _ _ _ => rfl⟩
  | succ n ih =>
    intro x s h0 h1 hn
    by_cases e : x = 10
    · subst e
      exact ⟨s, fun X z => zb_169_5 (fun q => absurd q (by decide)) (fun _ => z), fun k => by rw [if_neg (by omega)], fun _ _ _ => rfl⟩
    · obtain ⟨s', u1, u2, u3⟩ := ih (x + 1) (zu s 350 x (zhi x)) (by omega) (by omega) (by omega)
      refine ⟨s', fun X z => zr_h5 h0 (by omega) (u1 X z), fun k => ?_, fun a b h => by rw [u3 a b h, zu_cell h]⟩
      rw [u2 k]
      by_cases ek : k = x
      · subst ek
        rw [if_neg (by omega), if_pos (by omega), zu_hit]
      · by_cases e2 : x ≤ k ∧ k < 10
        · rw [if_pos e2, if_pos (by omega)]
        · rw [if_neg e2, if_neg (by omega), zu_place ek]
theorem zr_hcopy : ∀ (n : Nat) (x : Int) (s : zS), 0 ≤ x → x ≤ 146 → (146 - x).toNat ≤ n → ∃ s', (∀ X, zA xm_c169 54 [344, 146] [] s' X → zA xm_c169 36 [344, x] [] s X) ∧ (∀ k, x ≤ k → k < 146 → s' 354 k = if k < 117 then s 350 k else 0) ∧ (∀ k, k < x → s' 354 k = s 354 k) ∧ ∀ a b, a ≠ 354 → s' a b = s a b := by
  intro n
  induction n with
  | zero =>
    intro x s h0 h1 hn
    have e : x = 146 := by omega
    subst e
    exact ⟨s, fun X z => zb_169_36 (fun q => absurd q (by decide)) (fun _ => z), fun k h2 h3 => by omega, fun _ _ => rfl, fun _ _ _ => rfl⟩
  | succ n ih =>
    intro x s h0 h1 hn
    by_cases e : x = 146
    · subst e
      exact ⟨s, fun X z => zb_169_36 (fun q => absurd q (by decide)) (fun _ => z), fun k h2 h3 => by omega, fun _ _ => rfl, fun _ _ _ => rfl⟩
    · obtain ⟨s', u1, u2, u3, u4⟩ := ih (x + 1) (zu s 354 x (if x < 117 then s 350 x else 0)) (by omega) (by omega) (by omega)
      have ez : zw (x + 1) = x + 1 := zw_id (by omega) (by omega)
      refine ⟨s', fun X z => ?_, fun k h2 h3 => ?_, fun k h2 => by rw [u3 k (by omega), zu_place (by omega)], fun a b h => by rw [u4 a b h, zu_cell h]⟩
      · have z := u1 X z
        refine zb_169_36 (fun _ => zb_169_39 (fun q => zb_169_45 ?_) (fun q => zb_169_50 ?_)) (fun q => absurd (by omega) q)
        · rw [if_pos q] at z
          rw [ez]
          exact z
        · rw [if_neg q] at z
          rw [ez]
          exact z
      · by_cases ek : k = x
        · subst ek
          rw [u3 k (by omega), zu_hit]
        · rw [u2 k (by omega) h3, zu_cell (by decide)]
theorem zr_htold : ∀ (n : Nat) (x : Int) (s : zS), 0 ≤ x → s 354 1 ≤ 7 → (s 354 1 - x).toNat ≤ n → ∃ s' x', (∀ X, zA xm_c169 74 [344, x'] [] s' X → zA xm_c169 56 [344, x] [] s X) ∧ (∀ k, k < 138 → s' 354 k = s 354 k) ∧ ∀ a b, a ≠ 354 → s' a b = s a b := by
  intro n
  induction n with
  | zero =>
    intro x s h0 h1 hn
    exact ⟨s, x, fun X z => zb_169_56 (fun q => absurd (show x < s 354 1 from q) (by omega)) (fun _ => z), fun _ _ => rfl, fun _ _ _ => rfl⟩
  | succ n ih =>
    intro x s h0 h1 hn
    by_cases e : x < s 354 1
    · have ez : zw (x + 1) = x + 1 := zw_id (by omega) (by omega)
      have e8 : zw (138 + x) = 138 + x := zw_id (by omega) (by omega)
      have k1 : zu s 354 (138 + x) (s (344 + 10) (zw (zw (10 + zw (11 * x)) + 3))) 354 1 = s 354 1 := zu_place (by omega)
      obtain ⟨s', x', u1, u2, u3⟩ := ih (x + 1) (zu s 354 (138 + x) (s (344 + 10) (zw (zw (10 + zw (11 * x)) + 3)))) (by omega) (by rw [k1]; exact h1) (by rw [k1]; omega)
      refine ⟨s', x', fun X z => ?_, fun k hk => by rw [u2 k hk, zu_place (by omega)], fun a b h => by rw [u3 a b h, zu_cell h]⟩
      refine zb_169_56 (fun _ => zb_169_62 (zb_178_0 rfl) (zb_169_71 ?_)) (fun q => absurd e q)
      rw [ez, e8]
      exact u1 X z
    · exact ⟨s, x, fun X z => zb_169_56 (fun q => absurd (show x < s 354 1 from q) e) (fun _ => z), fun _ _ => rfl, fun _ _ _ => rfl⟩
theorem zr_house (hb : zg_by (s 345)) (h0 : 0 ≤ s 344 1) (h4 : s 344 1 ≤ 400) : ∃ f R' s', zhr (s 345) (s 344 1) 41 0 (zg_sk (s 345) (s 344 1) 0) (zh00 (s 350)) = some (f, R') ∧ zE xm_c169 [344, 0] s (zhq f (R' 1)) s' ∧ s' 344 1 = 0 := by
  obtain ⟨s1, a1, a2, a3⟩ := zr_hinit 10 0 (zu s 344 11 6) (by decide) (by decide) (by decide)
  have e5 : s1 345 = s 345 := funext (fun b => by rw [a3 345 b (by decide), zu_cell (by decide)])
  have e1 : s1 344 1 = s 344 1 := by rw [a3 344 1 (by decide), zu_place (by decide)]
  have e11 : s1 344 11 = 6 := by rw [a3 344 11 (by decide), zu_hit]
  have e50 : s1 350 = zh00 (s 350) := funext (fun k => by rw [a2 k, zu_cell (by decide)]; rfl)
  obtain ⟨f, R', s2, u1, u2, ⟨⟨u3, u4, u5⟩, u6⟩⟩ := zm_all (s0 := s1) (T := s 344 1) ⟨by rw [e5]; exact hb, e1, h0, h4⟩ e11 (by rw [e50]; exact zh00_0 _)
  rw [e5, e50] at u1
  have pre : ∀ (X : Int × zS), zA xm_c169 28 [344, 10] [(false, if f = 0 then 1 else 0)] s2 X → zE xm_c169 [344, 0] s X.1 X.2 := fun X z => zb_169_0 (a1 X (zb_169_26 u2 z))
  unfold zhq
  by_cases e : f = 0
  · obtain ⟨v1, l, v2⟩ := u6 e
    have v3 := v2.2.2.1
    obtain ⟨s3, b1, b2, b3, b4⟩ := zr_hcopy 146 0 s2 (by decide) (by decide) (by decide)
    have k1 : s3 354 1 = R' 1 := by rw [b2 1 (by decide) (by decide), if_pos (by decide), v1]
    obtain ⟨s4, x', c1, c2, c3⟩ := zr_htold 10 0 s3 (by decide) (by rw [k1]; exact v3.2) (by rw [k1]; omega)
    refine ⟨f, R', zu (zu s4 354 145 (s4 354 8)) 344 26 0, u1, ?_, ?_⟩
    · rw [if_pos e]
      rw [if_pos e] at pre
      refine pre (R' 1, zu (zu s4 354 145 (s4 354 8)) 344 26 0) (zb_169_28 (fun q => absurd q (by decide)) (fun _ => zb_169_34 (b1 _ (zb_169_54 (c1 _ (zb_169_74 ?_))))))
      have v : zu (zu s4 (344 + 10) 145 (s4 (344 + 10) 8)) 344 26 0 (344 + 10) 1 = R' 1 := by
        rw [show (344 : Int) + 10 = 354 from rfl, zu_cell (by decide), zu_place (by decide), c2 1 (by decide), k1]
      exact congrArg (fun x : Int => (x, zu (zu s4 354 145 (s4 354 8)) 344 26 0)) v
    · rw [zu_place (by decide), zu_cell (by decide), c3 344 1 (by decide), b4 344 1 (by decide)]
      exact u4
  · refine ⟨f, R', s2, u1, ?_, u4⟩
    rw [if_neg e]
    rw [if_neg e] at pre
    refine pre (zw (-2 - f), s2) (zb_169_28 (fun _ => zb_169_29 ?_) (fun q => absurd rfl q))
    rw [u3]
end HS
section HL
variable {s s1 s2 : zS}
theorem zl_house2 {f f' : Int} {R R' : zHS} (h9 : s 9 = s 345) (hr : zRel s) (K1 : zKp yi_290.2.2.2.2 s s1) (K2 : zKp yi_292.2.2.2.2 s1 s2) (v1 : zhr (s 9) (s 8 1) 41 0 (zg_sk (s 9) (s 8 1) 0) (zh00 (s 350)) = some (f, R)) (v2 : zhr (s1 345) (s1 344 1) 41 0 (zg_sk (s1 345) (s1 344 1) 0) (zh00 (s1 350)) = some (f', R')) (e1 : s1 8 1 = 0) (e5 : s1 345 = s 345) (e50 : s1 350 = s 350) (e2 : s2 344 1 = 0) : zRel s2 ∧ zhq f (R 1) = zhq f' (R' 1) := by
  refine ⟨zl_house hr K1 K2 e1 e2, ?_⟩
  have l2 := K1.len2 rfl
  rw [e5, e50, l2, ← hr.1.1, ← h9, v1] at v2
  have v2 := Option.some.inj v2
  injection v2 with q1 q2
  rw [q1, q2]
end HL
