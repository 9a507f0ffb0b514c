/-! the class's running of a rule's code -/
theorem zsg_l {x y : Int} : zsg x y < 0 ↔ x < y := by
  unfold zsg
  by_cases e : x < y
  · rw [if_pos e]
    exact ⟨fun _ => e, fun _ => by decide⟩
  · rw [if_neg e]
    by_cases e2 : x = y
    · rw [if_pos e2]
      exact ⟨fun q => absurd q (by decide), fun q => absurd q e⟩
    · rw [if_neg e2]
      exact ⟨fun q => absurd q (by decide), fun q => absurd q e⟩
theorem zsg_g {x y : Int} : 0 < zsg x y ↔ y < x := by
  unfold zsg
  by_cases e : x < y
  · rw [if_pos e]
    exact ⟨fun q => absurd q (by decide), fun q => by omega⟩
  · rw [if_neg e]
    by_cases e2 : x = y
    · rw [if_pos e2]
      exact ⟨fun q => absurd q (by decide), fun q => by omega⟩
    · rw [if_neg e2]
      exact ⟨fun _ => by omega, fun _ => by decide⟩
section XJ
variable {r x1 x2 wd st x5 x6 x8 x10 x12 x y c : Int} {s : zS} {R : Int × zS}
theorem zbn_e {c x y : Int} : zbn 2 x y = zq (x + y) ∧ zbn 3 x y = zq (x - y) ∧ zbn 4 x y = zq (x * y) ∧ zbn 5 x y = (if y = 0 then 0 else zqdiv x y) ∧ zbn 14 x y = (if y = 0 then 0 else zqrem x y) ∧ zbn 6 x y = (if x < y then 1 else 0) ∧ zbn 7 x y = (if x ≤ y then 1 else 0) ∧ zbn 8 x y = (if x = y then 1 else 0) ∧ zbn 9 x y = (if y ≤ x then 1 else 0) ∧ zbn 10 x y = (if y < x then 1 else 0) ∧ zbn 12 x y = zqand x y ∧ zbn 13 x y = zqor x y := ⟨rfl, rfl, rfl, rfl, rfl, rfl, rfl, rfl, rfl, rfl, rfl, rfl⟩
/-- what is worked out of two -/
theorem zk_op (hc : 2 ≤ c ∧ c ≤ 14 ∧ c ≠ 11) (h : zA xm_c64 4 [r, x1, x2, wd, st, x5, zw (x6 + 1), zom c, x8, x, x10, y, x12] [] (zu s st (zw (x5 - 1)) (zbn c x y)) R) : zA xm_c64 88 [r, x1, x2, wd, st, x5, x6, zom c, x8, x, x10, y, x12] [(false, zom c)] s R := by
  obtain ⟨b2, b3, b4, b5, b14, b6, b7, b8, b9, b10, b12, b13⟩ := zbn_e (c := c) (x := x) (y := y)
  rcases (show c = 2 ∨ c = 3 ∨ c = 4 ∨ c = 5 ∨ c = 6 ∨ c = 7 ∨ c = 8 ∨ c = 9 ∨ c = 10 ∨ c = 12 ∨ c = 13 ∨ c = 14 by omega) with rfl | rfl | rfl | rfl | rfl | rfl | rfl | rfl | rfl | rfl | rfl | rfl
  · rw [b2] at h
    exact zb_64_88_c2 rfl (zb_64_89 h)
  · rw [b3] at h
    exact zb_64_88_c3 rfl (zb_64_98 h)
  · rw [b4] at h
    exact zb_64_88_c4 rfl (zb_64_107 h)
  · rw [b5] at h
    exact zb_64_88_c5 rfl (zb_64_116 (fun q => zb_64_124 (by rw [if_pos (zsg_0.mp q)] at h; exact h)) (fun q => zb_64_126 (by rw [if_neg (fun z => q (zsg_0.mpr z))] at h; exact h)))
  · rw [b6] at h
    exact zb_64_88_c7 rfl (zb_64_146 (fun q => zb_64_154 (by rw [if_pos (zsg_l.mp q)] at h; exact h)) (fun q => zb_64_156 (by rw [if_neg (fun z => q (zsg_l.mpr z))] at h; exact h)))
  · rw [b7] at h
    exact zb_64_88_c8 rfl (zb_64_159 (fun q => zb_64_169 (by rw [if_neg (fun z => absurd (zsg_g.mp q) (by omega))] at h; exact h)) (fun q => zb_64_167 (by rw [if_pos (Int.not_lt.mp (fun z => q (zsg_g.mpr z)))] at h; exact h)))
  · rw [b8] at h
    exact zb_64_88_c9 rfl (zb_64_172 (fun q => zb_64_180 (by rw [if_pos (zsg_0.mp q)] at h; exact h)) (fun q => zb_64_182 (by rw [if_neg (fun z => q (zsg_0.mpr z))] at h; exact h)))
  · rw [b9] at h
    exact zb_64_88_c10 rfl (zb_64_185 (fun q => zb_64_195 (by rw [if_neg (fun z => absurd (zsg_l.mp q) (by omega))] at h; exact h)) (fun q => zb_64_193 (by rw [if_pos (Int.not_lt.mp (fun z => q (zsg_l.mpr z)))] at h; exact h)))
  · rw [b10] at h
    exact zb_64_88_c11 rfl (zb_64_198 (fun q => zb_64_206 (by rw [if_pos (zsg_g.mp q)] at h; exact h)) (fun q => zb_64_208 (by rw [if_neg (fun z => q (zsg_g.mpr z))] at h; exact h)))
  · rw [b12] at h
    exact zb_64_88_c12 rfl (zb_64_211 h)
  · rw [b13] at h
    exact zb_64_88_d (Or.inr (by decide)) (zb_64_220 h)
  · rw [b14] at h
    exact zb_64_88_c6 rfl (zb_64_131 (fun q => zb_64_139 (by rw [if_pos (zsg_0.mp q)] at h; exact h)) (fun q => zb_64_141 (by rw [if_neg (fun z => q (zsg_0.mpr z))] at h; exact h)))
/-- where things stand: the code, the words, the stack -/
def zkC (r wd st : Int) : Prop := r + 1 ≠ 0 ∧ wd ≠ 0 ∧ st ≠ 0 ∧ st ≠ r + 1 ∧ st ≠ wd ∧ zw (zlen (r + 1)) = 240 ∧ zw (zlen st) = 26 ∧ zw (zlen wd) = 11
theorem zk_step {ws : Int → Int} {i : Nat} {v : List Int} {h h' : Nat × Nat} {x7 x9 x11 : Int} (hC : zkC r wd st) (hi : i < 240) (hto : ((i : Nat) : Int) < x2) (hcode : s (r + 1) ((i : Nat) : Int) = zcm c) (hw : ∀ k : Int, 0 ≤ k → k ≤ 10 → s wd k = ws k) (hk : zVk st v s) (hv : zvh v h) (hs : zS1 c h = some h') : ∃ s' y7 y8 y9 y11, (∀ R, zA xm_c64 4 [r, x1, x2, wd, st, (((zv1 ws c v).length : Nat) : Int), ((i + 1 : Nat) : Int), y7, y8, y9, x10, y11, x12] [] s' R → zA xm_c64 4 [r, x1, x2, wd, st, ((v.length : Nat) : Int), ((i : Nat) : Int), x7, x8, x9, x10, x11, x12] [] s R) ∧ zVk st (zv1 ws c v) s' ∧ ∀ a b, a ≠ st → s' a b = s a b := by
  have h1 := hC.1
  have h2 := hC.2.1
  have h3 := hC.2.2.1
  obtain ⟨v1, v2, v3⟩ := hv
  have z6 : zw (((i : Nat) : Int) + 1) = ((i + 1 : Nat) : Int) := zw_id (by omega) (by omega)
  have hc : zvl c ∨ (2 ≤ c ∧ c ≤ 14) := by
    rcases zS1_cs hs with ⟨c1, -⟩ | ⟨rfl, -⟩ | ⟨c1, -⟩ | ⟨c1, -⟩ | ⟨c1, -⟩
    · exact Or.inl c1
    · exact Or.inr (by decide)
    · exact Or.inr (by omega)
    · exact Or.inr (by omega)
    · exact Or.inr (by omega)
  obtain ⟨k1, k2, -, -⟩ := zcm_at hc
  rw [← hcode] at k1 k2
  have fr : ∀ (b' : Int) (w : Int) (a b : Int), a ≠ st → zu s st b' w a b = s a b := fun b' w a b ha => zu_cell ha
  have to12 : ∀ R, zA xm_c64 12 [r, x1, x2, wd, st, ((v.length : Nat) : Int), ((i : Nat) : Int), x7, x8, x9, x10, x11, x12] [] s R → zA xm_c64 4 [r, x1, x2, wd, st, ((v.length : Nat) : Int), ((i : Nat) : Int), x7, x8, x9, x10, x11, x12] [] s R := fun R z => zb_64_4 (fun _ => zb_64_7 (zb_64_10 h1 (zb_64_11 (fun _ => z) (fun q => absurd (by rw [hC.2.2.2.2.2.1]; omega) q)))) (fun q => absurd hto q)
  rcases zS1_cs hs with ⟨c1, d, -⟩ | ⟨rfl, d1, d2, -⟩ | c1
  · have hlt : ((v.length : Nat) : Int) < zw (zlen st) := by
      rw [hC.2.2.2.2.2.2.1]
      omega
    have z5 : zw (((v.length : Nat) : Int) + 1) = ((v.length + 1 : Nat) : Int) := zw_id (by omega) (by omega)
    rw [zv1_v c1]
    rcases c1 with ⟨m, n1, n2⟩ | ⟨m, n1, n2⟩
    · have e0 : zand (s (r + 1) ((i : Nat) : Int)) 15 = 0 := by rw [k1, m]; decide
      rw [if_pos m]
      refine ⟨zu s st ((v.length : Nat) : Int) (c / 16), zand (s (r + 1) ((i : Nat) : Int)) 15, zshr (s (r + 1) ((i : Nat) : Int)) 4, x9, x11, fun R z => to12 R (zb_64_12 (fun _ => zb_64_31 (zb_64_33 h3 (zb_64_34 (fun _ => zb_64_35 (fun _ => zb_64_41 (fun _ => zb_64_45 ?_) (fun q => absurd e0 q)) (fun q => absurd e0 q)) (fun q => absurd hlt q)))) (fun q => absurd e0 q)), zVk_push hk, fr _ _⟩
      rw [z5, z6, k2]
      rw [k2] at z
      exact z
    · have e0 : zand (s (r + 1) ((i : Nat) : Int)) 15 = 1 := by rw [k1, m]; decide
      have e1 : ¬ zand (s (r + 1) ((i : Nat) : Int)) 15 = 0 := by rw [e0]; decide
      have hg : zshr (s (r + 1) ((i : Nat) : Int)) 4 < zw (zlen wd) := by rw [k2, hC.2.2.2.2.2.2.2]; omega
      rw [if_neg (by omega)]
      refine ⟨zu s st ((v.length : Nat) : Int) (ws (c / 16)), zand (s (r + 1) ((i : Nat) : Int)) 15, zshr (s (r + 1) ((i : Nat) : Int)) 4, x9, x11, fun R z => to12 R (zb_64_12 (fun q => absurd q e1) (fun _ => zb_64_28 (fun _ => zb_64_31 (zb_64_33 h3 (zb_64_34 (fun _ => zb_64_35 (fun q => absurd q e1) (fun _ => zb_64_37 (zb_64_39 h2 (zb_64_40 (fun _ => zb_64_41 (fun q => absurd q e1) (fun _ => zb_64_48 ?_)) (fun q => absurd hg q))))) (fun q => absurd hlt q)))) (fun q => absurd e0 q))), zVk_push hk, fr _ _⟩
      rw [z5, z6, k2, hw _ n1 n2]
      rw [k2] at z
      exact z
  · match v, v1, hk, to12 with
    | [], v1, hk, to12 =>
      have v1 : 0 = h.1 + h.2 := v1
      omega
    | x :: v, v1, hk, to12 =>
      have v1 : v.length + 1 = h.1 + h.2 := v1
      obtain ⟨hk1, hk2⟩ := zVk_tl hk
      have e0 : zand (s (r + 1) ((i : Nat) : Int)) 15 = 14 := by rw [k1]; decide
      have z5 : zw ((((x :: v).length : Nat) : Int) - 1) = ((v.length : Nat) : Int) := by
        have : (x :: v).length = v.length + 1 := rfl
        rw [zw_id (by omega) (by omega)]
        omega
      have nl : ¬ (((x :: v).length : Nat) : Int) < 1 := by
        have : (x :: v).length = v.length + 1 := rfl
        omega
      rw [zv1_n]
      refine ⟨zu s st ((v.length : Nat) : Int) (zq (1 - x)), zand (s (r + 1) ((i : Nat) : Int)) 15, zshr (s (r + 1) ((i : Nat) : Int)) 4, x9, x11, fun R z => to12 R (zb_64_12 (fun q => absurd q (by rw [e0]; decide)) (fun _ => zb_64_28 (fun q => absurd q (by rw [e0]; decide)) (fun _ => zb_64_54 (fun _ => zb_64_57 (fun q => absurd q nl) (fun _ => zb_64_60 ?_)) (fun q => absurd e0 q)))), zVk_push hk1, fr _ _⟩
      rw [z5, z6, hk2]
      exact z
  · have c2 : (2 ≤ c ∧ c ≤ 14 ∧ c ≠ 11) ∧ 2 ≤ h.1 + h.2 := by
      rcases c1 with ⟨c1, d1, d2, -⟩ | ⟨c1, d1, -⟩ | ⟨c1, d1, -⟩ <;> omega
    obtain ⟨c3, d2⟩ := c2
    match v, v1, hk, to12 with
    | [], v1, hk, to12 =>
      have v1 : 0 = h.1 + h.2 := v1
      omega
    | [x], v1, hk, to12 =>
      have v1 : 0 + 1 = h.1 + h.2 := v1
      omega
    | y :: x :: v, v1, hk, to12 =>
      have v1 : v.length + 1 + 1 = h.1 + h.2 := v1
      obtain ⟨hk1, hk2⟩ := zVk_tl hk
      obtain ⟨hk3, hk4⟩ := zVk_tl hk1
      have hl : (y :: x :: v).length = v.length + 1 + 1 := rfl
      have hl1 : (x :: v).length = v.length + 1 := rfl
      have hm : c % 16 = c := by omega
      have hz : 2 ≤ zom c ∧ zom c ≠ 14 := by
        unfold zom
        by_cases e1 : c = 14
        · rw [if_pos e1]; decide
        · rw [if_neg e1, if_neg c3.2.2]
          by_cases e3 : 6 ≤ c ∧ c ≤ 10
          · rw [if_pos e3]; omega
          · rw [if_neg e3]; omega
      rw [hm] at k1
      have z5 : zw ((((y :: x :: v).length : Nat) : Int) + (-1)) = (((x :: v).length : Nat) : Int) := by
        rw [zw_id (by omega) (by omega)]
        omega
      have z7 : zw ((((x :: v).length : Nat) : Int) - 1) = ((v.length : Nat) : Int) := by
        rw [zw_id (by omega) (by omega)]
        omega
      rw [zv1_b c3]
      refine ⟨zu s st ((v.length : Nat) : Int) (zbn c x y), zom c, zshr (s (r + 1) ((i : Nat) : Int)) 4, x, y, fun R z => to12 R (zb_64_12 (fun q => absurd q (by rw [k1]; omega)) (fun _ => zb_64_28 (fun q => absurd q (by rw [k1]; omega)) (fun _ => zb_64_54 (fun q => absurd q (by rw [k1]; exact hz.2)) (fun _ => zb_64_73 (fun q => absurd q (by omega)) (fun _ => zb_64_76 ?_))))), zVk_push hk3, fr _ _⟩
      rw [k1, z5, z7, hk2, hk4]
      refine zk_op c3 ?_
      rw [z7, z6]
      exact z
end XJ
