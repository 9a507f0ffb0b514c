/-! what persons add to what they tell lies in its range -/
def zhT (R : zHS) : Prop := ∀ p : Nat, ((p : Nat) : Int) < R 1 → -9 ≤ R (10 + 11 * ((p : Nat) : Int) + 7) ∧ R (10 + 11 * ((p : Nat) : Int) + 7) ≤ 9
section HT
variable {R R' : zHS} {a c f t : Int}
theorem zhT_0 (h : R 1 = 0) : zhT R := fun p hp => absurd hp (by omega)
theorem zhT_u {i x : Int} (H : zhT R) (h7 : R 1 ≤ 7) (h1 : i ≠ 1) (hi : ¬ (10 ≤ i ∧ i < 87 ∧ (i - 10) % 11 = 7) ∨ (-9 ≤ x ∧ x ≤ 9)) : zhT (zhu R i x) := fun p hp => by
  rw [zhu_m (fun q => h1 q.symm)] at hp
  by_cases e : 10 + 11 * ((p : Nat) : Int) + 7 = i
  · rw [e, zhu_h]
    exact hi.resolve_left (fun q => q (by omega))
  · rw [zhu_m e]
    exact H p hp
theorem zhT_p (H : zhT R) (h1 : 0 ≤ R 1 ∧ R 1 ≤ 7) : zhT (zhp R (10 + 11 * R 1) a c) := fun p hp => by
  have e1 : zhp R (10 + 11 * R 1) a c 1 = R 1 + 1 := zhu_h
  rw [e1] at hp
  by_cases d : ((p : Nat) : Int) = R 1
  · have z : zhp R (10 + 11 * R 1) a c (10 + 11 * R 1 + 7) = 0 := by
      rw [zhp_at (by omega), if_neg (by omega), if_neg (by omega), if_neg (by omega), if_neg (by omega), if_neg (by omega), if_neg (by omega), if_neg (by omega), if_neg (by omega), if_pos rfl]
    rw [d, z]
    decide
  · rw [zhp_o (by omega) (by omega)]
    exact H p (by omega)
theorem zhT_er (H : zhT R) (h1 : 0 ≤ R 1 ∧ R 1 ≤ 7) (h2 : 0 ≤ R 2 ∧ R 2 ≤ 10) : zhT (zhe R (87 + 3 * R 2) a f t) := fun p hp => by
  rw [zhe_o (by decide) (by omega)] at hp
  rw [zhe_o (by omega) (by omega)]
  exact H p hp
theorem zhT_h (H : zhT R) (h1 : 0 ≤ R 1 ∧ R 1 ≤ 7) (ha : 0 ≤ a ∧ a < R 1) (hc : 0 ≤ c ∧ c < R 1) : zhT (zhh R a c) := fun p hp => by
  rw [zhh_o (by decide) ha.1 hc.1 (by decide)] at hp
  have z : zhh R a c (10 + 11 * ((p : Nat) : Int) + 7) = R (10 + 11 * ((p : Nat) : Int) + 7) := by
    unfold zhh
    rw [zhu_m (by omega), zhu_m (by omega), zhu_m (by omega)]
  rw [z]
  exact H p hp
/-- a clause keeps what persons add in its range -/
theorem zhc_T {b : Int → Int} {T w p l : Int} {z : Int × zHS} (hb : zg_by b) (hT : T ≤ 400) (hp : 0 ≤ p) (hpT : p ≤ T) (hw0 : 0 ≤ w) (hw : w ≤ 10) (hwf : zhwf l R) (hov : ¬ zhov w l R) (H : zhT R) (h : zhc b T w p R = .inl z) : zhT z.2 := by
  obtain ⟨w0, w1, w2, w3, w4, w5, w6⟩ := hwf
  have one : ∀ {p lo hi un v q : Int}, 0 ≤ p → p ≤ T → zhn b T p lo hi un = .inl (v, q) → (lo ≤ v ∧ v ≤ hi ∧ v ≠ un) ∧ p < q ∧ q ≤ T := fun h1 h2 h3 => zhn_i hb hT h1 h2 h3
  have put : ∀ {i x q : Int}, i ≠ 1 → (¬ (10 ≤ i ∧ i < 87 ∧ (i - 10) % 11 = 7) ∨ (-9 ≤ x ∧ x ≤ 9)) → z = (q, zhu R i x) → zhT z.2 := by
    intro i x q h1 hi e
    subst e
    exact zhT_u H w2.2 h1 hi
  have hR0 : w ≠ 0 → R 0 ≠ 0 := fun q r => hov (Or.inr (Or.inr (Or.inl ⟨q, r⟩)))
  unfold zhc at h
  by_cases e0 : w = 0
  · rw [if_pos e0] at h
    obtain ⟨v, q, x1, x2⟩ := zhb_l h
    have o1 := one hp hpT x1
    injection x2 with x2
    subst x2
    have r0 : R 0 = 0 := by
      have : ¬ (w = 0 ∧ 0 < R 0) := fun q => hov (Or.inr (Or.inl q))
      omega
    exact zhT_u H w2.2 (by decide) (Or.inl (by decide))
  rw [if_neg e0] at h
  have r0 := hR0 e0
  by_cases e1 : w = 1
  · rw [if_pos e1] at h
    obtain ⟨v, q, x1, x2⟩ := zhb_l h
    have o1 := one hp hpT x1
    obtain ⟨v2, q2, y1, y2⟩ := zhb_l x2
    have o2 := one (by omega) o1.2.2 y1
    injection y2 with y2
    subst y2
    have h7 : R 1 ≠ 7 := fun q => hov (Or.inr (Or.inr (Or.inr (Or.inl ⟨e1, q⟩))))
    clear hov
    exact zhT_p H w2
  rw [if_neg e1] at h
  by_cases e2 : w = 2
  · rw [if_pos e2] at h
    obtain ⟨v, q, x1, x2⟩ := zhb_l h
    have o1 := one hp hpT x1
    obtain ⟨v2, q2, y1, y2⟩ := zhb_l x2
    have o2 := one (by omega) o1.2.2 y1
    obtain ⟨v3, q3, z1, z2⟩ := zhb_l y2
    injection z2 with z2
    subst z2
    have h7 : R 2 ≠ 10 := fun q => hov (Or.inr (Or.inr (Or.inr (Or.inr (Or.inl ⟨e2, q⟩)))))
    clear hov
    exact zhT_er H w2 w3
  rw [if_neg e2] at h
  by_cases e3 : w = 3
  · rw [if_pos e3] at h
    obtain ⟨v, q, x1, x2⟩ := zhb_l h
    have o1 := one hp hpT x1
    obtain ⟨v2, q2, y1, y2⟩ := zhb_l x2
    have o2 := one (by omega) o1.2.2 y1
    injection y2 with y2
    subst y2
    clear hov
    exact zhT_h H w2 (by omega) (by omega)
  rw [if_neg e3] at h
  by_cases e4 : w = 4
  · rw [if_pos e4] at h
    obtain ⟨v, q, x1, x2⟩ := zhb_l h
    have o1 := one hp hpT x1
    injection x2 with x2
    subst x2
    clear hov
    exact zhT_u H w2.2 (by omega) (Or.inl (by omega))
  rw [if_neg e4] at h
  by_cases e5 : w = 5
  · rw [if_pos e5] at h
    obtain ⟨v, q, x1, x2⟩ := zhb_l h
    have o1 := one hp hpT x1
    obtain ⟨v2, q2, y1, y2⟩ := zhb_l x2
    injection y2 with y2
    have o2 := one (by omega) o1.2.2 y1
    clear hov
    exact put (by omega) (Or.inr (by omega)) y2.symm
  rw [if_neg e5] at h
  by_cases e6 : w = 6
  · rw [if_pos e6] at h
    obtain ⟨v, q, x1, x2⟩ := zhb_l h
    have o1 := one hp hpT x1
    obtain ⟨v2, q2, y1, y2⟩ := zhb_l x2
    injection y2 with y2
    have o2 := one (by omega) o1.2.2 y1
    clear hov
    exact put (by omega) (Or.inr (by omega)) y2.symm
  rw [if_neg e6] at h
  by_cases e7 : w = 7
  · rw [if_pos e7] at h
    obtain ⟨v, q, x1, x2⟩ := zhb_l h
    injection x2 with x2
    exact put (by decide) (Or.inl (by decide)) x2.symm
  rw [if_neg e7] at h
  by_cases e8 : w = 8
  · rw [if_pos e8] at h
    obtain ⟨v, q, x1, x2⟩ := zhb_l h
    injection x2 with x2
    exact put (by decide) (Or.inl (by decide)) x2.symm
  rw [if_neg e8] at h
  by_cases e9 : w = 9
  · rw [if_pos e9] at h
    obtain ⟨v, q, x1, x2⟩ := zhb_l h
    injection x2 with x2
    exact put (by decide) (Or.inl (by decide)) x2.symm
  rw [if_neg e9] at h
  obtain ⟨v, q, x1, x2⟩ := zhb_l h
  have o1 := one hp hpT x1
  obtain ⟨v2, q2, y1, y2⟩ := zhb_l x2
  have o2 := one (by omega) o1.2.2 y1
  injection y2 with y2
  subst y2
  clear hov
  exact zhT_u (zhT_u H w2.2 (by decide) (Or.inl (by decide))) (by rw [zhu_m (by decide)]; exact w2.2) (by decide) (Or.inl (by decide))
/-- what persons add lies in its range -/
theorem zhr_T {b : Int → Int} {T : Int} (hb : zg_by b) (hT : T ≤ 400) : ∀ (n : Nat) (l p : Int) (R : zHS) {R' : zHS}, 0 ≤ p → p ≤ T → zhwf l R → zhT R → zhr b T n l p R = some (0, R') → zhT R'
  | 0, _, _, _, _, _, _, _, _, h => by
    unfold zhr at h
    cases h
  | n + 1, l, p, R, R', hp, hpT, hwf, H, h => by
    have wr := zhw_r (b := b) (T := T) (p := p)
    have hn := zg_nx_le (b := b) (T := T) (p := p) hb hT hp
    unfold zhr at h
    cases hz : zhl b T l p R with
    | inr f =>
      rw [hz] at h
      injection h with h
      injection h with h1 h2
      unfold zhl at hz
      by_cases e : zhw b T p = -1
      · rw [if_pos e] at hz
        injection hz with hz
        omega
      · rw [if_neg e] at hz
        by_cases eo : zhov (zhw b T p) l R
        · rw [if_pos eo] at hz
          injection hz with hz
          clear eo
          omega
        · rw [if_neg eo] at hz
          exact absurd h1 (zhc_nf hb hT (by omega) (hn.2.1 hpT) hz)
    | inl z =>
      rw [hz] at h
      unfold zhl at hz
      by_cases e : zhw b T p = -1
      · rw [if_pos e] at hz
        cases hz
      · rw [if_neg e] at hz
        by_cases eo : zhov (zhw b T p) l R
        · rw [if_pos eo] at hz
          cases hz
        · rw [if_neg eo] at hz
          have ok := zhc_ok hb hT (by omega) (hn.2.1 hpT) (by omega) wr.2 hwf eo hz
          have okX := zhc_T hb hT (by omega) (hn.2.1 hpT) (by omega) wr.2 hwf eo H hz
          dsimp only at h
          by_cases c1 : zg_kind b T z.1 = 59
          · rw [if_pos c1] at h
            have hn2 := zg_nx_le (b := b) (T := T) (p := z.1) hb hT (by omega)
            exact zhr_T hb hT n (l + 1) _ z.2 (by omega) (hn2.2.1 ok.2.2) ok.1 okX h
          · rw [if_neg c1] at h
            by_cases c2 : zg_kind b T z.1 = -1
            · rw [if_pos c2] at h
              injection h with h
              injection h with h1 h2
              subst h2
              exact okX
            · rw [if_neg c2] at h
              injection h with h
              injection h with h1 h2
              omega
end HT
