/-! the reference's words of a house; its state by places -/
theorem zif_c {α : Type} {P Q : Prop} [Decidable P] [Decidable Q] {a b a' b' : α} (h : P ↔ Q) (h1 : a = a') (h2 : b = b') : (if P then a else b) = if Q then a' else b' := by
  subst h1
  subst h2
  by_cases e : P
  · rw [if_pos e, if_pos (h.mp e)]
  · rw [if_neg e, if_neg (fun q => e (h.mpr q))]
theorem yg_ixg : ∀ (ws : List (List Nat)) (tok : List Int) (k r : Int), yg_ix tok ws k = r → r ≠ -1 → 0 ≤ k → ∃ w, ws[(r - k).toNat]? = some w ∧ k ≤ r ∧ tok = yg_i w
  | [], tok, k, r, h, hr, hk => absurd h.symm hr
  | w :: ws, tok, k, r, h, hr, hk => by
    have h : (if tok = yg_i w then k else yg_ix tok ws (k + 1)) = r := h
    by_cases e : tok = yg_i w
    · rw [if_pos e] at h
      refine ⟨w, ?_, by omega, e⟩
      rw [show (r - k).toNat = 0 by omega]
      rfl
    · rw [if_neg e] at h
      obtain ⟨v, v1, v2, v3⟩ := yg_ixg ws tok (k + 1) r h hr (by omega)
      refine ⟨v, ?_, by omega, v3⟩
      rw [show (r - k).toNat = (r - (k + 1)).toNat + 1 by omega, List.getElem?_cons_succ]
      exact v1
section WS
variable {b : Int → Int} {T p : Int}
theorem zhw_97 (h : zhw b T p ≠ -1) : zg_kind b T p = 97 := by
  unfold zhw at h
  by_cases e : zg_kind b T p = 97
  · exact e
  · rw [if_neg e] at h
    exact absurd rfl h
theorem zhw_g {k : Int} {W : List Nat} (hk : 0 ≤ k) (hW : zhws[k.toNat]? = some W) (hd : yg_ix (yg_i W) zhws 0 = k) : zg_is b T p (yg_i W) ↔ zhw b T p = k := by
  constructor
  · rintro ⟨e, h⟩
    unfold zhw
    rw [if_pos e, h]
    exact hd
  · intro h
    have e := zhw_97 (b := b) (T := T) (p := p) (by omega)
    refine ⟨e, ?_⟩
    unfold zhw at h
    rw [if_pos e] at h
    obtain ⟨w, w1, -, w3⟩ := yg_ixg zhws _ 0 k h (by omega) (by omega)
    rw [show (k - 0).toNat = k.toNat by omega, hW] at w1
    rw [w3, Option.some.inj w1]
end WS
/-- where it is: at p (behind the blanks), or with a fault -/
def zMq (s0 : zS) (T ln : Int) : zHg → zS → Prop
  | .inl (p, R), s => ∃ N m, (0 ≤ N ∧ N ≤ T) ∧ zg_sk (s0 345) T N = p ∧ zMs s0 6 N m R ln s
  | .inr f, s => zRdh s0 f s
def zmr : zHg → Int
  | .inl _ => 1
  | .inr _ => 0
section MQ
variable {s0 s : zS} {t T N m ln p : Int} {R : zHS}
theorem zMq.pl (h : zMq s0 T ln (.inl (p, R)) s) : 0 ≤ p ∧ p ≤ T := by
  obtain ⟨N, m, h0, h1, -⟩ := h
  have rl : N ≤ zg_sk (s0 345) T N ∧ (zg_sk (s0 345) T N ≤ T ∨ zg_sk (s0 345) T N = N) := zg_run_le
  omega
theorem zMq.rd (h : zMq s0 T ln (.inl (p, R)) s) : s 350 = R := by
  obtain ⟨N, m, h0, h1, h2⟩ := h
  exact h2.2.1
/-- a number -/
theorem zm_num (hc : zCy s0 T) (h : zMq s0 T ln (.inl (p, R)) s) (lo hi : Int) (hlo : 0 ≤ lo) : (∃ v q s', zhn (s0 345) T p lo hi (-1) = .inl (v, q) ∧ zE xm_c138 [344, lo, hi, 0, 0] s 1 s' ∧ zMq s0 T ln (.inl (q, R)) s' ∧ s' 344 10 = v) ∨ (∃ f s', zhn (s0 345) T p lo hi (-1) = .inr f ∧ zE xm_c138 [344, lo, hi, 0, 0] s 0 s' ∧ zMq s0 T ln (.inr f) s') := by
  have hpl := h.pl
  obtain ⟨N, m, h0, h1, h2⟩ := h
  have hte := zg_te_le (b := s0 345) (T := T) (p := p) hc.1 hc.2.2.2 hpl.1
  unfold zhn
  rcases zhx_number hc h2 h0.1 h0.2 (low := lo) (most := hi) h1 with ⟨a1, a2, a3, s', a4, a5, a6⟩ | ⟨a1, a2, s', a3, a4⟩ | ⟨a1, s', a3, a4⟩
  · left
    have n : ¬ (5 < zg_te (s0 345) T p - p ∨ zhv (s0 345) T p < lo ∨ hi < zhv (s0 345) T p ∨ zhv (s0 345) T p = -1) := by
      have a3 : lo ≤ zhv (s0 345) T p ∧ zhv (s0 345) T p ≤ hi := a3
      omega
    rw [if_pos a1, if_neg n]
    exact ⟨_, _, s', rfl, a4, ⟨_, m, ⟨by omega, hte.2.1 hpl.2⟩, rfl, a5⟩, a6⟩
  · right
    have n : 5 < zg_te (s0 345) T p - p ∨ zhv (s0 345) T p < lo ∨ hi < zhv (s0 345) T p ∨ zhv (s0 345) T p = -1 := by
      have a2 : 5 < zg_te (s0 345) T p - p ∨ ¬ (lo ≤ zhv (s0 345) T p ∧ zhv (s0 345) T p ≤ hi) := a2
      omega
    rw [if_pos a1, if_pos n]
    exact ⟨_, s', rfl, a3, a4⟩
  · right
    rw [if_neg a1]
    exact ⟨_, s', rfl, a3, a4⟩
/-- a number put down -/
theorem zm_cell (hc : zCy s0 T) (h : zMq s0 T ln (.inl (p, R)) s) (i lo hi : Int) (hlo : 0 ≤ lo) : (∃ v q s', zhn (s0 345) T p lo hi (-1) = .inl (v, q) ∧ zE xm_c154 [344, i, lo, hi] s 1 s' ∧ zMq s0 T ln (.inl (q, zhu R i v)) s') ∨ (∃ f s', zhn (s0 345) T p lo hi (-1) = .inr f ∧ zE xm_c154 [344, i, lo, hi] s 0 s' ∧ zMq s0 T ln (.inr f) s') := by
  rcases zm_num hc h lo hi hlo with ⟨v, q, s', a1, a2, a3, a4⟩ | ⟨f, s', a1, a2, a3⟩
  · obtain ⟨N, m, b0, b1, b2⟩ := a3
    refine Or.inl ⟨v, q, _, a1, zb_154_0 a2 (zb_154_4 (fun z => absurd z (by decide)) (fun _ => zb_154_7 rfl)), N, m, b0, b1, ?_⟩
    rw [a4]
    exact b2.cell
  · exact Or.inr ⟨f, s', a1, zb_154_0 a2 (zb_154_4 (fun _ => zb_154_5 rfl) (fun z => absurd rfl z)), a3⟩
theorem zMq.put {i x : Int} (h : zMq s0 T ln (.inl (p, R)) s) : zMq s0 T ln (.inl (p, zhu R i x)) (zu s 350 i x) := by
  obtain ⟨N, m, b0, b1, b2⟩ := h
  exact ⟨N, m, b0, b1, b2.cell⟩
/-- past the blanks -/
theorem zm_see (hc : zCy s0 T) (h : zMq s0 T ln (.inl (p, R)) s) : ∃ s' m, zE xm_c132 [344] s (zg_c (s0 345) T p) s' ∧ zMs s0 6 p m R ln s' ∧ zg_sk (s0 345) T p = p := by
  obtain ⟨N, m, b0, b1, b2⟩ := h
  obtain ⟨s', u1, u2⟩ := zhx_see hc _ (Nat.le_refl _) b0.1 b2
  rw [b1] at u1 u2
  refine ⟨s', m, u1, u2, ?_⟩
  rw [← b1]
  exact zg_sk_sk
theorem zMs.q (h : zMs s0 6 p m R ln s) (h0 : 0 ≤ p) (h1 : p ≤ T) (h2 : zg_sk (s0 345) T p = p) : zMq s0 T ln (.inl (p, R)) s := ⟨p, m, ⟨h0, h1⟩, h2, h⟩
/-- past a word -/
theorem zm_pass (hc : zCy s0 T) (h : zMs s0 6 p m R ln s) (h0 : 0 ≤ p) (h1 : p ≤ T) (hk : zg_kind (s0 345) T p = 97) : ∃ s', zE xm_c136 [344] s 0 s' ∧ zMq s0 T ln (.inl (zg_nx (s0 345) T p, R)) s' := by
  have hkl := zg_kl (b := s0 345) (T := T) (p := p) hc.1 hc.2.2.2 h0
  have hte := zg_te_le (b := s0 345) (T := T) (p := p) hc.1 hc.2.2.2 h0
  obtain ⟨s', a1, a2⟩ := zhx_pass hc _ (Nat.le_refl _) h0 h
  rw [← hkl.2.1 hk] at a2
  exact ⟨s', a1, _, m, ⟨by omega, hte.2.1 h1⟩, rfl, a2⟩
theorem zm_fail (hc : zCy s0 T) (h : zMs s0 6 N m R ln s) {c at_ : Int} (hc0 : 0 ≤ c) (hc4 : c ≤ 4) (ha : 0 ≤ at_) (ha4 : at_ ≤ T) : ∃ s', zE xm_c131 [344, c, at_] s 0 s' ∧ zMq s0 T ln (.inr (1 + 8 * at_ + c)) s' := zhx_fails h hc0 hc4 ha (by have := hc.2.2.2; omega)
theorem zm_is0 (hc : zCy s0 T) (h : zMs s0 6 p m R ln s) (h0 : 0 ≤ p) (h1 : p ≤ T) (h2 : zg_sk (s0 345) T p = p) : ∃ s', zE xm_c135 [344, 448546567013, 0, 0, 0, 0] s (if zhw (s0 345) T p = 0 then 1 else 0) s' ∧ zMs s0 6 p m R ln s' := by
  obtain ⟨s', a1, a2⟩ := zhx_isword hc h h0 h1 (w := 448546567013) (yg_i [104, 111, 117, 115, 101]) (by decide) (by decide) (by decide) (by decide)
  rw [h2] at a1 a2
  have key : (if zg_is (s0 345) T p (yg_i [104, 111, 117, 115, 101]) then (1 : Int) else 0) = if zhw (s0 345) T p = 0 then 1 else 0 := zif_c (zhw_g (k := 0) (by decide) rfl (by decide +kernel)) rfl rfl
  rw [key] at a1
  exact ⟨s', a1, a2⟩
theorem zm_is1 (hc : zCy s0 T) (h : zMs s0 6 p m R ln s) (h0 : 0 ≤ p) (h1 : p ≤ T) (h2 : zg_sk (s0 345) T p = p) : ∃ s', zE xm_c135 [344, 123581014175598, 0, 0, 0, 0] s (if zhw (s0 345) T p = 1 then 1 else 0) s' ∧ zMs s0 6 p m R ln s' := by
  obtain ⟨s', a1, a2⟩ := zhx_isword hc h h0 h1 (w := 123581014175598) (yg_i [112, 101, 114, 115, 111, 110]) (by decide) (by decide) (by decide) (by decide)
  rw [h2] at a1 a2
  have key : (if zg_is (s0 345) T p (yg_i [112, 101, 114, 115, 111, 110]) then (1 : Int) else 0) = if zhw (s0 345) T p = 1 then 1 else 0 := zif_c (zhw_g (k := 1) (by decide) rfl (by decide +kernel)) rfl rfl
  rw [key] at a1
  exact ⟨s', a1, a2⟩
theorem zm_is2 (hc : zCy s0 T) (h : zMs s0 6 p m R ln s) (h0 : 0 ≤ p) (h1 : p ≤ T) (h2 : zg_sk (s0 345) T p = p) : ∃ s', zE xm_c135 [344, 111542219664996, 0, 0, 0, 0] s (if zhw (s0 345) T p = 2 then 1 else 0) s' ∧ zMs s0 6 p m R ln s' := by
  obtain ⟨s', a1, a2⟩ := zhx_isword hc h h0 h1 (w := 111542219664996) (yg_i [101, 114, 114, 97, 110, 100]) (by decide) (by decide) (by decide) (by decide)
  rw [h2] at a1 a2
  have key : (if zg_is (s0 345) T p (yg_i [101, 114, 114, 97, 110, 100]) then (1 : Int) else 0) = if zhw (s0 345) T p = 2 then 1 else 0 := zif_c (zhw_g (k := 2) (by decide) rfl (by decide +kernel)) rfl rfl
  rw [key] at a1
  exact ⟨s', a1, a2⟩
theorem zm_is3 (hc : zCy s0 T) (h : zMs s0 6 p m R ln s) (h0 : 0 ≤ p) (h1 : p ≤ T) (h2 : zg_sk (s0 345) T p = p) : ∃ s', zE xm_c135 [344, 448311616883, 0, 0, 0, 0] s (if zhw (s0 345) T p = 3 then 1 else 0) s' ∧ zMs s0 6 p m R ln s' := by
  obtain ⟨s', a1, a2⟩ := zhx_isword hc h h0 h1 (w := 448311616883) (yg_i [104, 97, 116, 101, 115]) (by decide) (by decide) (by decide) (by decide)
  rw [h2] at a1 a2
  have key : (if zg_is (s0 345) T p (yg_i [104, 97, 116, 101, 115]) then (1 : Int) else 0) = if zhw (s0 345) T p = 3 then 1 else 0 := zif_c (zhw_g (k := 3) (by decide) rfl (by decide +kernel)) rfl rfl
  rw [key] at a1
  exact ⟨s', a1, a2⟩
theorem zm_is4 (hc : zCy s0 T) (h : zMs s0 6 p m R ln s) (h0 : 0 ≤ p) (h1 : p ≤ T) (h2 : zg_sk (s0 345) T p = p) : ∃ s', zE xm_c135 [344, 1684365670, 0, 0, 0, 0] s (if zhw (s0 345) T p = 4 then 1 else 0) s' ∧ zMs s0 6 p m R ln s' := by
  obtain ⟨s', a1, a2⟩ := zhx_isword hc h h0 h1 (w := 1684365670) (yg_i [100, 101, 97, 102]) (by decide) (by decide) (by decide) (by decide)
  rw [h2] at a1 a2
  have key : (if zg_is (s0 345) T p (yg_i [100, 101, 97, 102]) then (1 : Int) else 0) = if zhw (s0 345) T p = 4 then 1 else 0 := zif_c (zhw_g (k := 4) (by decide) rfl (by decide +kernel)) rfl rfl
  rw [key] at a1
  exact ⟨s', a1, a2⟩
theorem zm_is5 (hc : zCy s0 T) (h : zMs s0 6 p m R ln s) (h0 : 0 ≤ p) (h1 : p ≤ T) (h2 : zg_sk (s0 345) T p = p) : ∃ s', zE xm_c135 [344, 1633969267, 0, 0, 0, 0] s (if zhw (s0 345) T p = 5 then 1 else 0) s' ∧ zMs s0 6 p m R ln s' := by
  obtain ⟨s', a1, a2⟩ := zhx_isword hc h h0 h1 (w := 1633969267) (yg_i [97, 100, 100, 115]) (by decide) (by decide) (by decide) (by decide)
  rw [h2] at a1 a2
  have key : (if zg_is (s0 345) T p (yg_i [97, 100, 100, 115]) then (1 : Int) else 0) = if zhw (s0 345) T p = 5 then 1 else 0 := zif_c (zhw_g (k := 5) (by decide) rfl (by decide +kernel)) rfl rfl
  rw [key] at a1
  exact ⟨s', a1, a2⟩
theorem zm_is6 (hc : zCy s0 T) (h : zMs s0 6 p m R ln s) (h0 : 0 ≤ p) (h1 : p ≤ T) (h2 : zg_sk (s0 345) T p = p) : ∃ s', zE xm_c135 [344, 499850634611, 0, 0, 0, 0] s (if zhw (s0 345) T p = 6 then 1 else 0) s' ∧ zMs s0 6 p m R ln s' := by
  obtain ⟨s', a1, a2⟩ := zhx_isword hc h h0 h1 (w := 499850634611) (yg_i [116, 97, 107, 101, 115]) (by decide) (by decide) (by decide) (by decide)
  rw [h2] at a1 a2
  have key : (if zg_is (s0 345) T p (yg_i [116, 97, 107, 101, 115]) then (1 : Int) else 0) = if zhw (s0 345) T p = 6 then 1 else 0 := zif_c (zhw_g (k := 6) (by decide) rfl (by decide +kernel)) rfl rfl
  rw [key] at a1
  exact ⟨s', a1, a2⟩
theorem zm_is7 (hc : zCy s0 T) (h : zMs s0 6 p m R ln s) (h0 : 0 ≤ p) (h1 : p ≤ T) (h2 : zg_sk (s0 345) T p = p) : ∃ s', zE xm_c135 [344, 482854661748, 0, 0, 0, 0] s (if zhw (s0 345) T p = 7 then 1 else 0) s' ∧ zMs s0 6 p m R ln s' := by
  obtain ⟨s', a1, a2⟩ := zhx_isword hc h h0 h1 (w := 482854661748) (yg_i [112, 108, 97, 110, 116]) (by decide) (by decide) (by decide) (by decide)
  rw [h2] at a1 a2
  have key : (if zg_is (s0 345) T p (yg_i [112, 108, 97, 110, 116]) then (1 : Int) else 0) = if zhw (s0 345) T p = 7 then 1 else 0 := zif_c (zhw_g (k := 7) (by decide) rfl (by decide +kernel)) rfl rfl
  rw [key] at a1
  exact ⟨s', a1, a2⟩
theorem zm_is8 (hc : zCy s0 T) (h : zMs s0 6 p m R ln s) (h0 : 0 ≤ p) (h1 : p ≤ T) (h2 : zg_sk (s0 345) T p = p) : ∃ s', zE xm_c135 [344, 474214787188, 0, 0, 0, 0] s (if zhw (s0 345) T p = 8 then 1 else 0) s' ∧ zMs s0 6 p m R ln s' := by
  obtain ⟨s', a1, a2⟩ := zhx_isword hc h h0 h1 (w := 474214787188) (yg_i [110, 105, 103, 104, 116]) (by decide) (by decide) (by decide) (by decide)
  rw [h2] at a1 a2
  have key : (if zg_is (s0 345) T p (yg_i [110, 105, 103, 104, 116]) then (1 : Int) else 0) = if zhw (s0 345) T p = 8 then 1 else 0 := zif_c (zhw_g (k := 8) (by decide) rfl (by decide +kernel)) rfl rfl
  rw [key] at a1
  exact ⟨s', a1, a2⟩
theorem zm_is9 (hc : zCy s0 T) (h : zMs s0 6 p m R ln s) (h0 : 0 ≤ p) (h1 : p ≤ T) (h2 : zg_sk (s0 345) T p = p) : ∃ s', zE xm_c135 [344, 7104884, 0, 0, 0, 0] s (if zhw (s0 345) T p = 9 then 1 else 0) s' ∧ zMs s0 6 p m R ln s' := by
  obtain ⟨s', a1, a2⟩ := zhx_isword hc h h0 h1 (w := 7104884) (yg_i [108, 105, 116]) (by decide) (by decide) (by decide) (by decide)
  rw [h2] at a1 a2
  have key : (if zg_is (s0 345) T p (yg_i [108, 105, 116]) then (1 : Int) else 0) = if zhw (s0 345) T p = 9 then 1 else 0 := zif_c (zhw_g (k := 9) (by decide) rfl (by decide +kernel)) rfl rfl
  rw [key] at a1
  exact ⟨s', a1, a2⟩
theorem zm_is10 (hc : zCy s0 T) (h : zMs s0 6 p m R ln s) (h0 : 0 ≤ p) (h1 : p ≤ T) (h2 : zg_sk (s0 345) T p = p) : ∃ s', zE xm_c135 [344, 108256318678388, 0, 0, 0, 0] s (if zhw (s0 345) T p = 10 then 1 else 0) s' ∧ zMs s0 6 p m R ln s' := by
  obtain ⟨s', a1, a2⟩ := zhx_isword hc h h0 h1 (w := 108256318678388) (yg_i [98, 117, 99, 107, 101, 116]) (by decide) (by decide) (by decide) (by decide)
  rw [h2] at a1 a2
  have key : (if zg_is (s0 345) T p (yg_i [98, 117, 99, 107, 101, 116]) then (1 : Int) else 0) = if zhw (s0 345) T p = 10 then 1 else 0 := zif_c (zhw_g (k := 10) (by decide) rfl (by decide +kernel)) rfl rfl
  rw [key] at a1
  exact ⟨s', a1, a2⟩
/-- isHouseWord -/
theorem zm_hw (hc : zCy s0 T) (h : zMs s0 6 p m R ln s) (h0 : 0 ≤ p) (h1 : p ≤ T) (h2 : zg_sk (s0 345) T p = p) : ∃ s', zE xm_c165 [344, 0] s (if zhw (s0 345) T p = -1 then 0 else 1) s' ∧ zMs s0 6 p m R ln s' := by
  have wr := zhw_r (b := s0 345) (T := T) (p := p)
  obtain ⟨s1, u1, v1⟩ := zm_is0 hc h h0 h1 h2
  obtain ⟨s2, u2, v2⟩ := zm_is1 hc v1 h0 h1 h2
  obtain ⟨s3, u3, v3⟩ := zm_is2 hc v2 h0 h1 h2
  obtain ⟨s4, u4, v4⟩ := zm_is3 hc v3 h0 h1 h2
  obtain ⟨s5, u5, v5⟩ := zm_is4 hc v4 h0 h1 h2
  obtain ⟨s6, u6, v6⟩ := zm_is5 hc v5 h0 h1 h2
  obtain ⟨s7, u7, v7⟩ := zm_is6 hc v6 h0 h1 h2
  obtain ⟨s8, u8, v8⟩ := zm_is7 hc v7 h0 h1 h2
  obtain ⟨s10, u10, v10⟩ := zm_is9 hc v8 h0 h1 h2
  obtain ⟨s9, u9, v9⟩ := zm_is8 hc v10 h0 h1 h2
  obtain ⟨s11, u11, v11⟩ := zm_is10 hc v9 h0 h1 h2
  generalize zhw (s0 345) T p = w at wr u1 u2 u3 u4 u5 u6 u7 u8 u9 u10 u11 ⊢
  rcases (show w = 0 ∨ w = 1 ∨ w = 2 ∨ w = 3 ∨ w = 4 ∨ w = 5 ∨ w = 6 ∨ w = 7 ∨ w = 9 ∨ w = 8 ∨ w = 10 ∨ w = -1 by omega) with rfl | rfl | rfl | rfl | rfl | rfl | rfl | rfl | rfl | rfl | rfl | rfl
  · rw [if_neg (by decide)]
    rw [if_pos rfl] at u1
    exact ⟨s1, zb_165_0 u1 (zb_165_3 (fun z => absurd z (by decide)) (fun _ => zb_165_24 (fun z => absurd z (by decide)) (fun _ => zb_165_50 rfl))), v1⟩
  · rw [if_neg (by decide)]
    rw [if_neg (by decide)] at u1
    rw [if_pos rfl] at u2
    exact ⟨s2, zb_165_0 u1 (zb_165_3 (fun _ => zb_165_4 u2 (zb_165_7 (fun z => absurd z (by decide)) (fun _ => zb_165_24 (fun z => absurd z (by decide)) (fun _ => zb_165_50 rfl)))) (fun z => absurd rfl z)), v2⟩
  · rw [if_neg (by decide)]
    rw [if_neg (by decide)] at u1
    rw [if_neg (by decide)] at u2
    rw [if_pos rfl] at u3
    exact ⟨s3, zb_165_0 u1 (zb_165_3 (fun _ => zb_165_4 u2 (zb_165_7 (fun _ => zb_165_8 u3 (zb_165_11 (fun z => absurd z (by decide)) (fun _ => zb_165_24 (fun z => absurd z (by decide)) (fun _ => zb_165_50 rfl)))) (fun z => absurd rfl z))) (fun z => absurd rfl z)), v3⟩
  · rw [if_neg (by decide)]
    rw [if_neg (by decide)] at u1
    rw [if_neg (by decide)] at u2
    rw [if_neg (by decide)] at u3
    rw [if_pos rfl] at u4
    exact ⟨s4, zb_165_0 u1 (zb_165_3 (fun _ => zb_165_4 u2 (zb_165_7 (fun _ => zb_165_8 u3 (zb_165_11 (fun _ => zb_165_12 u4 (zb_165_15 (fun z => absurd z (by decide)) (fun _ => zb_165_24 (fun z => absurd z (by decide)) (fun _ => zb_165_50 rfl)))) (fun z => absurd rfl z))) (fun z => absurd rfl z))) (fun z => absurd rfl z)), v4⟩
  · rw [if_neg (by decide)]
    rw [if_neg (by decide)] at u1
    rw [if_neg (by decide)] at u2
    rw [if_neg (by decide)] at u3
    rw [if_neg (by decide)] at u4
    rw [if_pos rfl] at u5
    exact ⟨s5, zb_165_0 u1 (zb_165_3 (fun _ => zb_165_4 u2 (zb_165_7 (fun _ => zb_165_8 u3 (zb_165_11 (fun _ => zb_165_12 u4 (zb_165_15 (fun _ => zb_165_16 u5 (zb_165_19 (fun z => absurd z (by decide)) (fun _ => zb_165_24 (fun z => absurd z (by decide)) (fun _ => zb_165_50 rfl)))) (fun z => absurd rfl z))) (fun z => absurd rfl z))) (fun z => absurd rfl z))) (fun z => absurd rfl z)), v5⟩
  · rw [if_neg (by decide)]
    rw [if_neg (by decide)] at u1
    rw [if_neg (by decide)] at u2
    rw [if_neg (by decide)] at u3
    rw [if_neg (by decide)] at u4
    rw [if_neg (by decide)] at u5
    rw [if_pos rfl] at u6
    exact ⟨s6, zb_165_0 u1 (zb_165_3 (fun _ => zb_165_4 u2 (zb_165_7 (fun _ => zb_165_8 u3 (zb_165_11 (fun _ => zb_165_12 u4 (zb_165_15 (fun _ => zb_165_16 u5 (zb_165_19 (fun _ => zb_165_20 u6 (zb_165_23 (fun z => absurd z (by decide)) (fun _ => zb_165_24 (fun z => absurd z (by decide)) (fun _ => zb_165_50 rfl)))) (fun z => absurd rfl z))) (fun z => absurd rfl z))) (fun z => absurd rfl z))) (fun z => absurd rfl z))) (fun z => absurd rfl z)), v6⟩
  · rw [if_neg (by decide)]
    rw [if_neg (by decide)] at u1
    rw [if_neg (by decide)] at u2
    rw [if_neg (by decide)] at u3
    rw [if_neg (by decide)] at u4
    rw [if_neg (by decide)] at u5
    rw [if_neg (by decide)] at u6
    rw [if_pos rfl] at u7
    exact ⟨s7, zb_165_0 u1 (zb_165_3 (fun _ => zb_165_4 u2 (zb_165_7 (fun _ => zb_165_8 u3 (zb_165_11 (fun _ => zb_165_12 u4 (zb_165_15 (fun _ => zb_165_16 u5 (zb_165_19 (fun _ => zb_165_20 u6 (zb_165_23 (fun _ => zb_165_26 (fun _ => zb_165_30 u7 (zb_165_33 (fun z => absurd z (by decide)) (fun _ => zb_165_50 rfl))) (fun z => absurd rfl z)) (fun z => absurd rfl z))) (fun z => absurd rfl z))) (fun z => absurd rfl z))) (fun z => absurd rfl z))) (fun z => absurd rfl z))) (fun z => absurd rfl z)), v7⟩
  · rw [if_neg (by decide)]
    rw [if_neg (by decide)] at u1
    rw [if_neg (by decide)] at u2
    rw [if_neg (by decide)] at u3
    rw [if_neg (by decide)] at u4
    rw [if_neg (by decide)] at u5
    rw [if_neg (by decide)] at u6
    rw [if_neg (by decide)] at u7
    rw [if_pos rfl] at u8
    exact ⟨s8, zb_165_0 u1 (zb_165_3 (fun _ => zb_165_4 u2 (zb_165_7 (fun _ => zb_165_8 u3 (zb_165_11 (fun _ => zb_165_12 u4 (zb_165_15 (fun _ => zb_165_16 u5 (zb_165_19 (fun _ => zb_165_20 u6 (zb_165_23 (fun _ => zb_165_26 (fun _ => zb_165_30 u7 (zb_165_33 (fun _ => zb_165_34 u8 (zb_165_37 (fun z => absurd z (by decide)) (fun _ => zb_165_50 rfl))) (fun z => absurd rfl z))) (fun z => absurd rfl z)) (fun z => absurd rfl z))) (fun z => absurd rfl z))) (fun z => absurd rfl z))) (fun z => absurd rfl z))) (fun z => absurd rfl z))) (fun z => absurd rfl z)), v8⟩
  · rw [if_neg (by decide)]
    rw [if_neg (by decide)] at u1
    rw [if_neg (by decide)] at u2
    rw [if_neg (by decide)] at u3
    rw [if_neg (by decide)] at u4
    rw [if_neg (by decide)] at u5
    rw [if_neg (by decide)] at u6
    rw [if_neg (by decide)] at u7
    rw [if_neg (by decide)] at u8
    rw [if_pos rfl] at u10
    exact ⟨s10, zb_165_0 u1 (zb_165_3 (fun _ => zb_165_4 u2 (zb_165_7 (fun _ => zb_165_8 u3 (zb_165_11 (fun _ => zb_165_12 u4 (zb_165_15 (fun _ => zb_165_16 u5 (zb_165_19 (fun _ => zb_165_20 u6 (zb_165_23 (fun _ => zb_165_26 (fun _ => zb_165_30 u7 (zb_165_33 (fun _ => zb_165_34 u8 (zb_165_37 (fun _ => zb_165_38 u10 (zb_165_41 (fun z => absurd z (by decide)) (fun _ => zb_165_50 rfl))) (fun z => absurd rfl z))) (fun z => absurd rfl z))) (fun z => absurd rfl z)) (fun z => absurd rfl z))) (fun z => absurd rfl z))) (fun z => absurd rfl z))) (fun z => absurd rfl z))) (fun z => absurd rfl z))) (fun z => absurd rfl z)), v10⟩
  · rw [if_neg (by decide)]
    rw [if_neg (by decide)] at u1
    rw [if_neg (by decide)] at u2
    rw [if_neg (by decide)] at u3
    rw [if_neg (by decide)] at u4
    rw [if_neg (by decide)] at u5
    rw [if_neg (by decide)] at u6
    rw [if_neg (by decide)] at u7
    rw [if_neg (by decide)] at u8
    rw [if_neg (by decide)] at u10
    rw [if_pos rfl] at u9
    exact ⟨s9, zb_165_0 u1 (zb_165_3 (fun _ => zb_165_4 u2 (zb_165_7 (fun _ => zb_165_8 u3 (zb_165_11 (fun _ => zb_165_12 u4 (zb_165_15 (fun _ => zb_165_16 u5 (zb_165_19 (fun _ => zb_165_20 u6 (zb_165_23 (fun _ => zb_165_26 (fun _ => zb_165_30 u7 (zb_165_33 (fun _ => zb_165_34 u8 (zb_165_37 (fun _ => zb_165_38 u10 (zb_165_41 (fun _ => zb_165_42 u9 (zb_165_45 (fun z => absurd z (by decide)) (fun _ => zb_165_50 rfl))) (fun z => absurd rfl z))) (fun z => absurd rfl z))) (fun z => absurd rfl z))) (fun z => absurd rfl z)) (fun z => absurd rfl z))) (fun z => absurd rfl z))) (fun z => absurd rfl z))) (fun z => absurd rfl z))) (fun z => absurd rfl z))) (fun z => absurd rfl z)), v9⟩
  · rw [if_neg (by decide)]
    rw [if_neg (by decide)] at u1
    rw [if_neg (by decide)] at u2
    rw [if_neg (by decide)] at u3
    rw [if_neg (by decide)] at u4
    rw [if_neg (by decide)] at u5
    rw [if_neg (by decide)] at u6
    rw [if_neg (by decide)] at u7
    rw [if_neg (by decide)] at u8
    rw [if_neg (by decide)] at u10
    rw [if_neg (by decide)] at u9
    rw [if_pos rfl] at u11
    exact ⟨s11, zb_165_0 u1 (zb_165_3 (fun _ => zb_165_4 u2 (zb_165_7 (fun _ => zb_165_8 u3 (zb_165_11 (fun _ => zb_165_12 u4 (zb_165_15 (fun _ => zb_165_16 u5 (zb_165_19 (fun _ => zb_165_20 u6 (zb_165_23 (fun _ => zb_165_26 (fun _ => zb_165_30 u7 (zb_165_33 (fun _ => zb_165_34 u8 (zb_165_37 (fun _ => zb_165_38 u10 (zb_165_41 (fun _ => zb_165_42 u9 (zb_165_45 (fun _ => zb_165_46 u11 (zb_165_49 (fun z => absurd z (by decide)) (fun _ => zb_165_50 rfl))) (fun z => absurd rfl z))) (fun z => absurd rfl z))) (fun z => absurd rfl z))) (fun z => absurd rfl z))) (fun z => absurd rfl z)) (fun z => absurd rfl z))) (fun z => absurd rfl z))) (fun z => absurd rfl z))) (fun z => absurd rfl z))) (fun z => absurd rfl z))) (fun z => absurd rfl z)), v11⟩
  · rw [if_pos rfl]
    rw [if_neg (by decide)] at u1
    rw [if_neg (by decide)] at u2
    rw [if_neg (by decide)] at u3
    rw [if_neg (by decide)] at u4
    rw [if_neg (by decide)] at u5
    rw [if_neg (by decide)] at u6
    rw [if_neg (by decide)] at u7
    rw [if_neg (by decide)] at u8
    rw [if_neg (by decide)] at u10
    rw [if_neg (by decide)] at u9
    rw [if_neg (by decide)] at u11
    exact ⟨s11, zb_165_0 u1 (zb_165_3 (fun _ => zb_165_4 u2 (zb_165_7 (fun _ => zb_165_8 u3 (zb_165_11 (fun _ => zb_165_12 u4 (zb_165_15 (fun _ => zb_165_16 u5 (zb_165_19 (fun _ => zb_165_20 u6 (zb_165_23 (fun _ => zb_165_26 (fun _ => zb_165_30 u7 (zb_165_33 (fun _ => zb_165_34 u8 (zb_165_37 (fun _ => zb_165_38 u10 (zb_165_41 (fun _ => zb_165_42 u9 (zb_165_45 (fun _ => zb_165_46 u11 (zb_165_49 (fun _ => zb_165_52 rfl) (fun z => absurd rfl z))) (fun z => absurd rfl z))) (fun z => absurd rfl z))) (fun z => absurd rfl z))) (fun z => absurd rfl z))) (fun z => absurd rfl z)) (fun z => absurd rfl z))) (fun z => absurd rfl z))) (fun z => absurd rfl z))) (fun z => absurd rfl z))) (fun z => absurd rfl z))) (fun z => absurd rfl z)), v11⟩
end MQ
