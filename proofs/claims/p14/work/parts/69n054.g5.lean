/-! who tells a hearer, in the class -/
/-- the words that the class judges a telling by -/
def zcw (f bl th kn nt b hm a ch he tw : Int) (k : Int) : Int := if k = 0 then a else if k = 1 then b else if k = 2 then f else if k = 3 then bl else if k = 4 then ch else if k = 5 then he else if k = 6 then hm else if k = 7 then th else if k = 8 then kn else if k = 9 then nt else tw
/-- the class's rule in force answers U of the words: it lies at the cell t 237 1 -/
def zRc (z : zS) (F : Int) (U : (Int → Int) → Int) : Prop := (F < 0 ↔ z 237 1 < 0) ∧ (¬ F < 0 → ∀ (t : zS) (ws : Int → Int), (∀ x, 240 ≤ x → x ≤ 263 → t x = z x) → (∀ k, 0 ≤ k → k ≤ 10 → t 238 k = ws k) → ∃ t', zE xm_c63 [z 237 1, 238, 239, 0] t (U ws) t' ∧ ∀ a b, a ≠ 239 → t' a b = t a b)
/-- what a telling in the class leaves as it was -/
def zcF (s s' : zS) : Prop := (∀ x, x ≠ 238 → x ≠ 239 → s' x = s x) ∧ s' 238 2 = s 238 2 ∧ s' 238 3 = s 238 3 ∧ s' 238 7 = s 238 7 ∧ s' 238 8 = s 238 8 ∧ s' 238 9 = s 238 9
theorem zcF_r {s : zS} : zcF s s := ⟨fun _ _ _ => rfl, rfl, rfl, rfl, rfl, rfl⟩
theorem zcF_t {s s1 s2 : zS} (h : zcF s s1) (h' : zcF s1 s2) : zcF s s2 := ⟨fun x a b => (h'.1 x a b).trans (h.1 x a b), h'.2.1.trans h.2.1, h'.2.2.1.trans h.2.2.1, h'.2.2.2.1.trans h.2.2.2.1, h'.2.2.2.2.1.trans h.2.2.2.2.1, h'.2.2.2.2.2.trans h.2.2.2.2.2⟩
section GD
variable {s : zS} {n : Nat} {l b X F : Int} {U : (Int → Int) → Int}
/-- whether a tells b, as the class sees it in the state s -/
abbrev zct_ (s : zS) (l b X F : Int) (U : (Int → Int) → Int) (a : Nat) : Prop := zbt X ((a : Nat) : Int) = 1 ∧ ¬ (zbt (s 14 b) ((a : Nat) : Int) = 1 ∧ ¬ 0 < s 238 7) ∧ (F < 0 ∨ 0 < U (zcw (s 238 2) (s 238 3) (s 238 7) (s 238 8) (s 238 9) b (if s 12 b = s 238 2 then 1 else 0) ((a : Nat) : Int) (s (l + 2) ((a : Nat) : Int)) (zq (s 238 3 - s (l + 1) ((a : Nat) : Int))) (s 15 ((a : Nat) : Int))))
theorem zo_tellerOf (hn : s 11 1 = ((n : Nat) : Int)) (h7 : n ≤ 7) (hR : zRc s F U) (l1 : l + 1 ≠ 238) (l2 : l + 2 ≠ 238) (l3 : l + 1 ≠ 239) (l4 : l + 2 ≠ 239) : ∃ s', zE xm_c15 [237, l, b, X, 0] s (zfi (zct_ s l b X F U) n 0) s' ∧ zcF s s' := by
  obtain ⟨hF, hU⟩ := hR
  have loop : ∀ (k i : Nat) (t : zS), i + k = n → zcF s t → t 238 1 = b → t 238 6 = (if s 12 b = s 238 2 then 1 else 0) → ∃ s', zA xm_c15 27 [237, l, b, X, ((i : Nat) : Int)] [] t (zfi (zct_ s l b X F U) k i, s') ∧ zcF s s' := by
    intro k
    induction k with
    | zero =>
      intro i t hi hk w1 w6
      refine ⟨t, zb_15_27 (fun q => ?_) (fun _ => zb_15_111 rfl), hk⟩
      have q : ((i : Nat) : Int) < t 11 1 := q
      rw [hk.1 11 (by decide) (by decide), hn] at q
      omega
    | succ k ih =>
      intro i t hi hk w1 w6
      have e2 : zw (((i : Nat) : Int) + 1) = ((i + 1 : Nat) : Int) := zw_id (by clear ih hk hU hF; omega) (by clear ih hk hU hF; omega)
      have lt : ((i : Nat) : Int) < t (237 + (-226)) 1 := by
        show _ < t 11 1
        rw [hk.1 11 (by decide) (by decide), hn]
        clear ih hk hU hF
        omega
      have nx : ¬ zct_ s l b X F U i → ∀ t1 : zS, zcF s t1 → t1 238 1 = b → t1 238 6 = (if s 12 b = s 238 2 then 1 else 0) → (∀ R, zA xm_c15 27 [237, l, b, X, ((i + 1 : Nat) : Int)] [] t1 R → zA xm_c15 27 [237, l, b, X, ((i : Nat) : Int)] [] t R) → ∃ s', zA xm_c15 27 [237, l, b, X, ((i : Nat) : Int)] [] t (zfi (zct_ s l b X F U) (k + 1) i, s') ∧ zcF s s' := fun h t1 hk1 v1 v6 run => by
        obtain ⟨s', u1, u2⟩ := ih (i + 1) t1 (by clear run ih hk hU hF; omega) hk1 v1 v6
        have e : zfi (zct_ s l b X F U) (k + 1) i = zfi (zct_ s l b X F U) k (i + 1) := if_neg h
        rw [e]
        exact ⟨s', run _ u1, u2⟩
      have yes : zct_ s l b X F U i → ∀ t1 : zS, zcF s t1 → zA xm_c15 27 [237, l, b, X, ((i : Nat) : Int)] [] t (((i : Nat) : Int), t1) → ∃ s', zA xm_c15 27 [237, l, b, X, ((i : Nat) : Int)] [] t (zfi (zct_ s l b X F U) (k + 1) i, s') ∧ zcF s s' := fun h t1 hk1 run => by
        have e : zfi (zct_ s l b X F U) (k + 1) i = ((i : Nat) : Int) := if_pos h
        rw [e]
        exact ⟨t1, run, hk1⟩
      have to109 : ∀ (t1 : zS) R, zA xm_c15 27 [237, l, b, X, ((i + 1 : Nat) : Int)] [] t1 R → zA xm_c15 109 [237, l, b, X, ((i : Nat) : Int)] [] t1 R := fun t1 R z => zb_15_109 (by rw [e2]; exact z)
      by_cases c1 : zbt X ((i : Nat) : Int) = 1
      case neg =>
        refine nx (fun q => c1 q.1) t hk w1 w6 (fun R z => zb_15_27 (fun _ => zb_15_32 zo_bit (zb_15_35 (fun _ => to109 t R z) (fun q => absurd (zbt_n c1) q))) (fun q => absurd lt q))
      have to36 : ∀ R, zA xm_c15 36 [237, l, b, X, ((i : Nat) : Int)] [] t R → zA xm_c15 27 [237, l, b, X, ((i : Nat) : Int)] [] t R := fun R z => zb_15_27 (fun _ => zb_15_32 zo_bit (zb_15_35 (fun q => absurd q (by rw [c1]; decide)) (fun _ => z))) (fun q => absurd lt q)
      have h14 : t (237 + (-226) + 3) b = s 14 b := by
        show t 14 b = _
        rw [hk.1 14 (by decide) (by decide)]
      have h7' : t (237 + 1) 7 = s 238 7 := hk.2.2.2.1
      by_cases c2 : zbt (s 14 b) ((i : Nat) : Int) = 1 ∧ ¬ 0 < s 238 7
      · refine nx (fun q => q.2.1 c2) t hk w1 w6 (fun R z => to36 R (zb_15_36 (r := 1) (s1 := t) (by rw [h14, ← c2.1]; exact zo_bit) (zb_15_43 (fun _ => zb_15_45 (fun q => absurd (zsg_p.mp (by rw [h7'] at q; exact q)) c2.2) (fun _ => zb_15_52 (by rw [e2]; exact z))) (fun q => absurd rfl q))))
      have to53 : ∀ R, zA xm_c15 53 [237, l, b, X, ((i : Nat) : Int)] [] t R → zA xm_c15 27 [237, l, b, X, ((i : Nat) : Int)] [] t R := fun R z => to36 R (zb_15_36 (r := zbt (s 14 b) ((i : Nat) : Int)) (s1 := t) (by rw [h14]; exact zo_bit) (zb_15_43 (fun q => zb_15_45 (fun _ => z) (fun q2 => absurd ⟨q, fun q3 => q2 (zsg_p.mpr (by rw [h7']; exact q3))⟩ c2)) (fun _ => z)))
      have hF1 : t 237 1 = s 237 1 := by rw [hk.1 237 (by decide) (by decide)]
      by_cases c3 : F < 0
      · exact yes ⟨c1, c2, Or.inl c3⟩ t hk (to53 _ (zb_15_53 (fun _ => zb_15_56 rfl) (fun q => absurd (by rw [hF1]; exact hF.mp c3) q)))
      obtain ⟨t1, ht1⟩ : ∃ t1 : zS, t1 = zu (zu (zu (zu t (237 + 1) 0 ((i : Nat) : Int)) (237 + 1) 4 (t (l + 2) ((i : Nat) : Int))) (237 + 1) 5 (zq (t (237 + 1) 3 - t (l + 1) ((i : Nat) : Int)))) (237 + 1) 10 (t (237 + (-226) + 4) ((i : Nat) : Int)) := ⟨_, rfl⟩
      have o : ∀ x, x ≠ 238 → t1 x = t x := fun x hx => by
        rw [ht1]
        have hx : x ≠ 237 + 1 := hx
        exact funext (fun y => by rw [zu_cell hx, zu_cell hx, zu_cell hx, zu_cell hx])
      have q2 : t (l + 2) ((i : Nat) : Int) = s (l + 2) ((i : Nat) : Int) := by rw [hk.1 (l + 2) l2 l4]
      have q1 : t (l + 1) ((i : Nat) : Int) = s (l + 1) ((i : Nat) : Int) := by rw [hk.1 (l + 1) l1 l3]
      have q15 : t (237 + (-226) + 4) ((i : Nat) : Int) = s 15 ((i : Nat) : Int) := by
        show t 15 _ = _
        rw [hk.1 15 (by decide) (by decide)]
      have q3 : t (237 + 1) 3 = s 238 3 := hk.2.2.1
      obtain ⟨t2, u1, u2⟩ := hU c3 t1 (zcw (s 238 2) (s 238 3) (s 238 7) (s 238 8) (s 238 9) b (if s 12 b = s 238 2 then 1 else 0) ((i : Nat) : Int) (s (l + 2) ((i : Nat) : Int)) (zq (s 238 3 - s (l + 1) ((i : Nat) : Int))) (s 15 ((i : Nat) : Int))) (fun x x1 x2 => by rw [o x (by clear ih; omega), hk.1 x (by clear ih; omega) (by clear ih; omega)]) (fun k k0 k1 => by
        rw [ht1, q1, q2, q15, q3]
        rcases (show k = 0 ∨ k = 1 ∨ k = 2 ∨ k = 3 ∨ k = 4 ∨ k = 5 ∨ k = 6 ∨ k = 7 ∨ k = 8 ∨ k = 9 ∨ k = 10 by clear ih hk hU hF; omega) with rfl | rfl | rfl | rfl | rfl | rfl | rfl | rfl | rfl | rfl | rfl
        · rfl
        · exact w1
        · exact hk.2.1
        · exact hk.2.2.1
        · rfl
        · rfl
        · exact w6
        · exact hk.2.2.2.1
        · exact hk.2.2.2.2.1
        · exact hk.2.2.2.2.2
        · rfl)
      have hk2 : zcF s t2 := by
        have r : ∀ y, t2 238 y = t1 238 y := fun y => u2 238 y (by decide)
        refine ⟨fun x x1 x2 => ?_, ?_, ?_, ?_, ?_, ?_⟩
        · rw [← hk.1 x x1 x2, ← o x x1]
          exact funext (fun y => u2 x y x2)
        · rw [r, ht1]; exact hk.2.1
        · rw [r, ht1]; exact hk.2.2.1
        · rw [r, ht1]; exact hk.2.2.2.1
        · rw [r, ht1]; exact hk.2.2.2.2.1
        · rw [r, ht1]; exact hk.2.2.2.2.2
      have A : ∀ (z : zS) (i x : Int) (y : Int), zu z (237 + 1) i x (l + 2) y = z (l + 2) y := fun z i x y => zu_cell l2
      have B : ∀ (z : zS) (i x : Int) (y : Int), zu z (237 + 1) i x (l + 1) y = z (l + 1) y := fun z i x y => zu_cell l1
      have C : ∀ (z : zS) (i x : Int) (y : Int), zu z (237 + 1) i x (237 + (-226) + 4) y = z (237 + (-226) + 4) y := fun z i x y => zu_cell (by decide)
      have D : ∀ (z : zS) (x : Int), zu z (237 + 1) 0 x (237 + 1) 3 = z (237 + 1) 3 := fun z x => zu_place (by decide)
      have D4 : ∀ (z : zS) (x : Int), zu z (237 + 1) 4 x (237 + 1) 3 = z (237 + 1) 3 := fun z x => zu_place (by decide)
      have E : ∀ (z : zS) (i x : Int), zu z (237 + 1) i x 237 1 = z 237 1 := fun z i x => zu_cell (by decide)
      have to104 : ∀ R, zA xm_c15 104 [237, l, b, X, ((i : Nat) : Int)] [(true, U (zcw (s 238 2) (s 238 3) (s 238 7) (s 238 8) (s 238 9) b (if s 12 b = s 238 2 then 1 else 0) ((i : Nat) : Int) (s (l + 2) ((i : Nat) : Int)) (zq (s 238 3 - s (l + 1) ((i : Nat) : Int))) (s 15 ((i : Nat) : Int))))] t2 R → zA xm_c15 27 [237, l, b, X, ((i : Nat) : Int)] [] t R := fun R z => to53 R (zb_15_53 (fun q => absurd (hF.mpr (by rw [← hF1]; exact q)) c3) (fun _ => zb_15_58 (r := U _) (s1 := t2) (by
        simp only [A, B, C, D, D4, E]
        rw [← ht1, hF1]
        exact u1) z))
      by_cases c4 : 0 < U (zcw (s 238 2) (s 238 3) (s 238 7) (s 238 8) (s 238 9) b (if s 12 b = s 238 2 then 1 else 0) ((i : Nat) : Int) (s (l + 2) ((i : Nat) : Int)) (zq (s 238 3 - s (l + 1) ((i : Nat) : Int))) (s 15 ((i : Nat) : Int)))
      · exact yes ⟨c1, c2, Or.inr c4⟩ t2 hk2 (to104 _ (zb_15_104 (fun _ => zb_15_107 rfl) (fun q => absurd (zsg_p.mpr c4) q)))
      · have w1' : t2 238 1 = b := by
          rw [u2 238 1 (by decide), ht1]
          exact w1
        have w6' : t2 238 6 = (if s 12 b = s 238 2 then 1 else 0) := by
          rw [u2 238 6 (by decide), ht1]
          exact w6
        exact nx (fun q => q.2.2.elim c3 c4) t2 hk2 w1' w6' (fun R z => to104 R (zb_15_104 (fun q => absurd (zsg_p.mp q) c4) (fun _ => to109 t2 R z)))
  have k1 : zcF s (zu s 238 1 b) := ⟨fun x x1 x2 => funext (fun y => zu_cell x1), zu_place (by decide), zu_place (by decide), zu_place (by decide), zu_place (by decide), zu_place (by decide)⟩
  have k2 : ∀ v, zcF s (zu (zu s 238 1 b) 238 6 v) := fun v => zcF_t k1 ⟨fun x x1 x2 => funext (fun y => zu_cell x1), zu_place (by decide), zu_place (by decide), zu_place (by decide), zu_place (by decide), zu_place (by decide)⟩
  have cond : zsg ((zu s (237 + 1) 1 b) ((237 + (-226)) + 1) b) ((zu s (237 + 1) 1 b) (237 + 1) 2) = 0 ↔ s 12 b = s 238 2 := by
    show zsg (s 12 b) (s 238 2) = 0 ↔ _
    unfold zsg
    by_cases q : s 12 b < s 238 2
    · rw [if_pos q]
      exact ⟨fun z => absurd z (by decide), fun z => by omega⟩
    · rw [if_neg q]
      by_cases q2 : s 12 b = s 238 2
      · rw [if_pos q2]
        exact ⟨fun _ => q2, fun _ => rfl⟩
      · rw [if_neg q2]
        exact ⟨fun z => absurd z (by decide), fun z => absurd z q2⟩
  by_cases c : s 12 b = s 238 2
  · obtain ⟨s', u1, u2⟩ := loop n 0 (zu (zu s 238 1 b) 238 6 1) (by omega) (k2 1) (by rw [zu_place (by decide), zu_hit]) (by rw [zu_hit, if_pos c])
    exact ⟨s', zb_15_0 (fun _ => zb_15_21 u1) (fun q => absurd (cond.mpr c) q), u2⟩
  · obtain ⟨s', u1, u2⟩ := loop n 0 (zu (zu s 238 1 b) 238 6 0) (by omega) (k2 0) (by rw [zu_place (by decide), zu_hit]) (by rw [zu_hit, if_neg c])
    exact ⟨s', zb_15_0 (fun q => absurd (cond.mp q) c) (fun _ => zb_15_23 u1), u2⟩
end GD
