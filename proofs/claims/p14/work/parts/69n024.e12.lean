/-! the reference's clauses, with the code and the marks -/
/-- how long the code was when clause n begins -/
def zms (M : List Int) (n : Nat) : Int := if n = 0 then 0 else zat M (2 * n - 1)
/-- the marks of rule t -/
def zMk (t : Int) (M : List Int) (s : zS) : Prop := s 349 t = ((M.length / 2 : Nat) : Int) ∧ ∀ i : Nat, 2 * i + 1 < M.length → s 348 (48 * t + 4 * (i : Int)) = zms M i ∧ s 348 (48 * t + 4 * (i : Int) + 1) = zat M (2 * i) ∧ s 348 (48 * t + 4 * (i : Int) + 2) = (if zat M (2 * i) = zat M (2 * i + 1) then -1 else zat M (2 * i)) ∧ s 348 (48 * t + 4 * (i : Int) + 3) = zat M (2 * i + 1)
def zBf (z : zS) (t : Int) (s1 : zS) : Prop := ∀ x y, ¬ (x = 348 ∧ 48 * t ≤ y ∧ y < 48 * t + 48) → ¬ (x = 349 ∧ y = t) → s1 x y = z x y
def zRdx (z : zS) (t f : Int) (s : zS) : Prop := s 344 9 = f ∧ f ≠ 0 ∧ ∀ x y, ¬ (x = 344 ∧ 8 ≤ y ∧ y ≤ 16) → ¬ (x = 346 ∧ 400 * t ≤ y ∧ y < 400 * t + 400) → ¬ (x = 347 ∧ y = t) → ¬ (x = 348 ∧ 48 * t ≤ y ∧ y < 48 * t + 48) → ¬ (x = 349 ∧ y = t) → x ≠ 351 → s x y = z x y
section XH
variable {z s0 s : zS} {t T N m ln : Int} {M : List Int}
theorem zBf_u {x y v : Int} (h : zBf z t s) (hx : (x = 348 ∧ 48 * t ≤ y ∧ y < 48 * t + 48) ∨ (x = 349 ∧ y = t)) : zBf z t (zu s x y v) := by
  intro a b h1 h2
  have e : ¬ (a = x ∧ b = y) := by
    rintro ⟨rfl, rfl⟩
    omega
  unfold zu
  rw [if_neg e]
  exact h a b h1 h2
theorem zBf_345 (h : zBf z t s) : s 345 = z 345 := funext (fun y => h 345 y (by omega) (by omega))
theorem zBf_cy (h : zBf z t s) (hc : zCy z T) : zCy s T := ⟨by rw [zBf_345 h]; exact hc.1, by rw [h 344 1 (by omega) (by omega)]; exact hc.2.1, hc.2.2⟩
theorem zRdx_of {f : Int} (hb : zBf z t s0) (h : zRdw s0 t f s) : zRdx z t f s := ⟨h.1, h.2.1, fun x y h1 h2 h3 h4 h5 h6 => (h.2.2 x y h1 h2 h3 h6).trans (hb x y h4 h5)⟩
/-- the marks are no business of the rest -/
theorem zMw.rb {O : zX} {x y v : Int} (h : zMw s0 t N m O ln s) (hx : x = 348 ∨ x = 349) : zMw (zu s0 x y v) t N m O ln (zu s x y v) := by
  have e : ∀ b, zu s x y v 344 b = s 344 b := fun b => zu_cell (by omega)
  refine ⟨by rw [e, e, e, e, e]; exact h.1, ⟨zCr_u h.2.1.1 (by omega) (by omega), zsk_u (by omega) (fun q => by omega) h.2.1.2⟩, fun a b h1 h2 h3 h4 => ?_⟩
  unfold zu
  by_cases f : a = x ∧ b = y
  · rw [if_pos f, if_pos f]
  · rw [if_neg f, if_neg f]
    exact h.2.2 a b h1 h2 h3 h4
/-- a clause's marks are put down -/
theorem zMk_new {n : Nat} {m1 m2 : Int} {s' : zS} (hk : zMk t M s) (hn : M.length = 2 * n) (h9 : s' 349 t = (n : Int) + 1) (h0 : s' 348 (48 * t + 4 * (n : Int)) = zms M n) (h1 : s' 348 (48 * t + 4 * (n : Int) + 1) = m1) (h2 : s' 348 (48 * t + 4 * (n : Int) + 2) = if m1 = m2 then -1 else m1) (h3 : s' 348 (48 * t + 4 * (n : Int) + 3) = m2) (hs : ∀ y, y < 48 * t + 4 * (n : Int) → s' 348 y = s 348 y) : zMk t (m2 :: m1 :: M) s' := by
  have ln : (m2 :: m1 :: M).length = M.length + 1 + 1 := rfl
  have l1 : (m1 :: M).length = M.length + 1 := rfl
  have low : ∀ i, i < 2 * n → zat (m2 :: m1 :: M) i = zat M i := fun i hi => by
    rw [zat_c, if_neg (by omega), zat_c, if_neg (by omega)]
  have t1 : zat (m2 :: m1 :: M) (2 * n) = m1 := by rw [zat_c, if_neg (by omega), zat_c, if_pos (by omega)]
  have t2 : zat (m2 :: m1 :: M) (2 * n + 1) = m2 := by rw [zat_c, if_pos (by omega)]
  have lms : ∀ i, i ≤ n → zms (m2 :: m1 :: M) i = zms M i := fun i hi => by
    unfold zms
    by_cases e : i = 0
    · rw [if_pos e, if_pos e]
    · rw [if_neg e, if_neg e, low _ (by omega)]
  refine ⟨?_, fun i hi => ?_⟩
  · rw [h9, ln, hn]
    omega
  · rw [ln] at hi
    by_cases e : i = n
    · subst e
      rw [t1, t2, lms i (Nat.le_refl _)]
      exact ⟨h0, h1, h2, h3⟩
    · rw [low _ (by omega), low _ (by omega), lms i (by omega), hs _ (by omega), hs _ (by omega), hs _ (by omega), hs _ (by omega)]
      exact hk.2 i (by omega)
/-- what holds of what is made between the clauses -/
def zMz (n : Nat) (a : zW) : Prop := a.2.2.2.2.length = 2 * n ∧ zms a.2.2.2.2 n = ((a.2.1.length : Nat) : Int) ∧ (a.2.2.1 = 0 ∧ a.2.2.2.1 = 0)
theorem zMz_new {n : Nat} {a : zW} {M : List Int} {m1 : Int} (hn : M.length = 2 * n) (hm : a.2.2.2.2 = ((a.2.1.length : Nat) : Int) :: m1 :: M) (hw : a.2.2.1 = 0 ∧ a.2.2.2.1 = 0) : zMz (n + 1) a := by
  refine ⟨by rw [hm, List.length_cons, List.length_cons]; omega, ?_, hw⟩
  unfold zms
  rw [if_neg (by omega), hm, zat_c, if_pos (by rw [List.length_cons]; omega)]
/-- a clause is read, or the fault stands -/
def zOc (z : zS) (t T N : Int) (n : Nat) (A : zQe) (l l' : Int) (E : Int → zS → Prop) : Prop := (∃ N' w s1 s', E 1 s' ∧ zMw s1 t N' w.1 (w.2.1, none) l s' ∧ (zBf z t s1 ∧ zMk t w.2.2.2.2 s1) ∧ (N ≤ N' ∧ N' ≤ T ∧ 0 ≤ w.1 ∧ w.1 ≤ 60 ∧ ((w.2.1.length : Nat) : Int) ≤ N') ∧ zMz (n + 1) w ∧ ze_to (z 345) T A (6, 0, zg_sk (z 345) T N', w, l', [])) ∨ (∃ f s', E 0 s' ∧ zRdx z t f s' ∧ ∃ w, ze_end (z 345) T A (f, w))
theorem zz_tell (hc : zCy z T) (ht0 : 0 ≤ t) (ht : t ≤ 5) (l : Int) {a : zW} {O : zO} {n : Nat} (hb : zBf z t s0) (hk : zMk t a.2.2.2.2 s0) (hz : zMz n a) (hn2 : n < 12) (h : zMw s0 t N a.1 (a.2.1, O) ln s) (hN : 0 ≤ N) (hN4 : N ≤ T) (hm : 0 ≤ a.1) (hm6 : a.1 ≤ 60) (hL : ((a.2.1.length : Nat) : Int) ≤ N) (hp : zg_sk (z 345) T N = N) (htell : zg_kind (z 345) T N = 97) : zOc z t T N n (1, 0, zg_nx (z 345) T N, a, l, []) ln l (fun r s' => zE xm_c153 [344, 0] s r s') := by
  have hkl := zg_kl (b := z 345) (T := T) (p := N) hc.1 hc.2.2.2 (by omega)
  have hte := zg_te_le (b := z 345) (T := T) (p := N) hc.1 hc.2.2.2 (by omega)
  have hb0 := zBf_345 hb
  obtain ⟨hn, hst, hw⟩ := hz
  obtain ⟨sA, a1, a2⟩ := zz_pass (zBf_cy hb hc) _ (Nat.le_refl _) hN h
  rw [hb0, ← hkl.2.1 htell] at a2
  have e11 : sA 344 11 = t := a2.1.2.2.1
  have e47 : sA 347 t = ((a.2.1.length : Nat) : Int) := a2.2.1.1.1
  have e49 : sA 349 t = (n : Int) := by
    rw [a2.2.2 349 t (by omega) (by omega) (by omega) (by decide), hk.1, hn]
    omega
  have hx1 : zw ((zw (48 * (sA 344 11))) + (zw (4 * (sA 349 (sA 344 11))))) = 48 * t + 4 * (n : Int) := by
    rw [e11, e49, zw_id (x := 48 * t) (by omega) (by omega), zw_id (x := 4 * (n : Int)) (by omega) (by omega), zw_id (by omega) (by omega)]
  have z1 : zw (48 * t + 4 * (n : Int) + 1) = 48 * t + 4 * (n : Int) + 1 := zw_id (by omega) (by omega)
  have z2 : zw (48 * t + 4 * (n : Int) + 2) = 48 * t + 4 * (n : Int) + 2 := zw_id (by omega) (by omega)
  have z3 : zw (48 * t + 4 * (n : Int) + 3) = 48 * t + 4 * (n : Int) + 3 := zw_id (by omega) (by omega)
  generalize hx : 48 * t + 4 * (n : Int) = x1 at hx1 z1 z2 z3
  have a3 := a2.rb (x := 348) (y := x1) (v := ((a.2.1.length : Nat) : Int)) (Or.inl rfl)
  have b1 : zBf z t (zu s0 348 x1 ((a.2.1.length : Nat) : Int)) := zBf_u hb (by omega)
  have pre : ∀ (r : Int) (s2 : zS) (R : Int × zS), zE xm_c147 [344, 0] (zu sA 348 x1 ((a.2.1.length : Nat) : Int)) r s2 → zA xm_c153 26 [344, x1] [(false, r)] s2 R → zE xm_c153 [344, 0] s R.1 R.2 := by
    intro r s2 R q1 q2
    refine zb_153_0 a1 (zb_153_2 (r := r) (s1 := s2) ?_ ?_)
    · show zE xm_c147 [344, 0] (zu sA 348 (zw ((zw (48 * (sA 344 11))) + (zw (4 * (sA 349 (sA 344 11)))))) (sA 347 (sA 344 11))) r s2
      rw [hx1, e11, e47]
      exact q1
    · show zA xm_c153 26 [344, zw ((zw (48 * (sA 344 11))) + (zw (4 * (sA 349 (sA 344 11)))))] [(false, r)] s2 R
      rw [hx1]
      exact q2
  have last : ∀ (s1 s4 : zS) (N' : Int) (w : zW) (O' : zO), zMw s1 t N' w.1 (w.2.1, O') ln s4 → s1 349 t = (n : Int) → zA xm_c153 67 [344, x1] [] s4 (1, zu (zu s4 348 (x1 + 3) ((w.2.1.length : Nat) : Int)) 349 t ((n : Int) + 1)) := by
    intro s1 s4 N' w O' q1 q2
    have g11 : s4 344 11 = t := q1.1.2.2.1
    have g47 : s4 347 t = ((w.2.1.length : Nat) : Int) := q1.2.1.1.1
    have g49 : s4 349 t = (n : Int) := by rw [q1.2.2 349 t (by omega) (by omega) (by omega) (by decide), q2]
    refine zb_153_67 ?_
    show (1, zu (zu s4 348 (zw (x1 + 3)) (s4 347 (s4 344 11))) 349 ((zu s4 348 (zw (x1 + 3)) (s4 347 (s4 344 11))) 344 11) (zw (((zu s4 348 (zw (x1 + 3)) (s4 347 (s4 344 11))) 349 ((zu s4 348 (zw (x1 + 3)) (s4 347 (s4 344 11))) 344 11)) + 1))) = _
    rw [g11, g47, z3]
    have k1 : (zu s4 348 (x1 + 3) ((w.2.1.length : Nat) : Int)) 344 11 = t := by rw [zu_cell (by decide)]; exact g11
    rw [k1]
    have k2 : (zu s4 348 (x1 + 3) ((w.2.1.length : Nat) : Int)) 349 t = (n : Int) := by rw [zu_cell (by decide)]; exact g49
    rw [k2, zw_id (by omega) (by omega)]
  rcases zz_sum (zBf_cy b1 hc) ht0 ht 0 l [] (L := 0) a3 (by omega) (hte.2.1 hN4) hm hm6 (Int.le_refl _) (by omega) hw with ⟨N1, w1, s2, u1, u2, ⟨u31, u32, u33, u34⟩, ⟨u41, u42⟩, u5, u6⟩ | ⟨f, s2, u1, u2, w, u3⟩
  · rw [zBf_345 b1] at u5
    -- behind the sum
    have b2 : zBf z t (zu (zu (zu s0 348 x1 ((a.2.1.length : Nat) : Int)) 348 (x1 + 1) ((w1.2.1.length : Nat) : Int)) 348 (x1 + 2) (-1)) := zBf_u (zBf_u b1 (by omega)) (by omega)
    have c0 := (u2.rb (x := 348) (y := x1 + 1) (v := ((w1.2.1.length : Nat) : Int)) (Or.inl rfl)).rb (x := 348) (y := x1 + 2) (v := -1) (Or.inl rfl)
    have g11 : s2 344 11 = t := u2.1.2.2.1
    have g47 : s2 347 t = ((w1.2.1.length : Nat) : Int) := u2.2.1.1.1
    have pre2 : ∀ (r : Int) (s3 : zS) (R : Int × zS), zE xm_c137 [344, 26982, 0] (zu (zu s2 348 (x1 + 1) ((w1.2.1.length : Nat) : Int)) 348 (x1 + 2) (-1)) r s3 → zA xm_c153 50 [344, x1] [(false, r)] s3 R → zE xm_c153 [344, 0] s R.1 R.2 := by
      intro r s3 R q1 q2
      refine pre 1 s2 R u1 (zb_153_26 (fun q => absurd q (by decide)) (fun _ => zb_153_29 (r := r) (s1 := s3) ?_ q2))
      show zE xm_c137 [344, 26982, 0] (zu (zu s2 348 (zw (x1 + 1)) (s2 347 (s2 344 11))) 348 (zw (x1 + 2)) (-1)) r s3
      rw [z1, z2, g11, g47]
      exact q1
    have hif : ze_st (z 345) T (3, 0, zg_sk (z 345) T N1, w1, l, []) = if zg_is (z 345) T (zg_sk (z 345) T N1) yw_if then .inl (4, 0, zg_nx (z 345) T (zg_sk (z 345) T N1), zem w1, l, []) else .inl (6, 0, zg_sk (z 345) T N1, zem (zem w1), l, []) := rfl
    have rl : N1 ≤ zg_sk (z 345) T N1 ∧ (zg_sk (z 345) T N1 ≤ T ∨ zg_sk (z 345) T N1 = N1) := zg_run_le
    have hte2 := zg_te_le (b := z 345) (T := T) (p := zg_sk (z 345) T N1) hc.1 hc.2.2.2 (by omega)
    have nk : (zu (zu (zu s0 348 x1 ((a.2.1.length : Nat) : Int)) 348 (x1 + 1) ((w1.2.1.length : Nat) : Int)) 348 (x1 + 2) (-1)) 349 t = (n : Int) := by
      rw [zu_cell (by decide), zu_cell (by decide), zu_cell (by decide), hk.1, hn]
      omega
    have tk := zz_takes (zBf_cy b2 hc) c0 (by omega) u32 yw_if (w := 26982) (by decide) (by decide) (by decide) (by decide)
    rw [zBf_345 b2] at tk
    rcases tk with ⟨c1, s3, c2, c3⟩ | ⟨c1, s3, c2, c3⟩
    · have b3 : zBf z t (zu (zu (zu (zu s0 348 x1 ((a.2.1.length : Nat) : Int)) 348 (x1 + 1) ((w1.2.1.length : Nat) : Int)) 348 (x1 + 2) (-1)) 348 (x1 + 2) ((w1.2.1.length : Nat) : Int)) := zBf_u b2 (by omega)
      have c4 := c3.rb (x := 348) (y := x1 + 2) (v := ((w1.2.1.length : Nat) : Int)) (Or.inl rfl)
      have j11 : s3 344 11 = t := c3.1.2.2.1
      have j47 : s3 347 t = ((w1.2.1.length : Nat) : Int) := c3.2.1.1.1
      have pre3 : ∀ (r : Int) (s4 : zS) (R : Int × zS), zE xm_c152 [344, 0, 0] (zu s3 348 (x1 + 2) ((w1.2.1.length : Nat) : Int)) r s4 → zA xm_c153 64 [344, x1] [(false, r)] s4 R → zE xm_c153 [344, 0] s R.1 R.2 := by
        intro r s4 R q1 q2
        refine pre2 1 s3 R c2 (zb_153_50 (fun q => absurd q (by decide)) (fun _ => zb_153_51 (r := r) (s1 := s4) ?_ q2))
        show zE xm_c152 [344, 0, 0] (zu s3 348 (zw (x1 + 2)) (s3 347 (s3 344 11))) r s4
        rw [z2, j11, j47]
        exact q1
      have step : ze_to (z 345) T (3, 0, zg_sk (z 345) T N1, w1, l, []) (4, 0, zg_nx (z 345) T (zg_sk (z 345) T N1), zem w1, l, []) := ze_one (by rw [hif, if_pos c1])
      have c4 : zMw (zu (zu (zu (zu s0 348 x1 ((a.2.1.length : Nat) : Int)) 348 (x1 + 1) ((w1.2.1.length : Nat) : Int)) 348 (x1 + 2) (-1)) 348 (x1 + 2) ((w1.2.1.length : Nat) : Int)) t (zg_te (z 345) T (zg_sk (z 345) T N1)) (zem w1).1 ((zem w1).2.1, O) ln (zu s3 348 (x1 + 2) ((w1.2.1.length : Nat) : Int)) := c4
      rcases zz_tested (zBf_cy b3 hc) ht0 ht l c4 (by omega) (hte2.2.1 (by omega)) u33 u34 (by show ((w1.2.1.length : Nat) : Int) ≤ _; omega) u6 with ⟨N2, w2, s4, v1, v2, ⟨v31, v32, v33, v34⟩, ⟨v41, v42⟩, v5, v6⟩ | ⟨f, s4, v1, v2, w, v3⟩
      · rw [zBf_345 b3] at v5
        have v5 : ze_to (z 345) T (4, 0, zg_nx (z 345) T (zg_sk (z 345) T N1), zem w1, l, []) (6, 0, zg_sk (z 345) T N2, zem w2, l, []) := v5
        have gr := ze_grow v5
        have gr : w1.2.1.length < w2.2.1.length := gr
        have v42 : w2.2.2.2.2 = ((w1.2.1.length : Nat) : Int) :: w1.2.2.2.2 := v42
        have mk : (zem w2).2.2.2.2 = ((w2.2.1.length : Nat) : Int) :: ((w1.2.1.length : Nat) : Int) :: a.2.2.2.2 := by
          show ((w2.2.1.length : Nat) : Int) :: w2.2.2.2.2 = _
          rw [v42, u42]
        have fin := (v2.rb (x := 348) (y := x1 + 3) (v := ((w2.2.1.length : Nat) : Int)) (Or.inl rfl)).rb (x := 349) (y := t) (v := (n : Int) + 1) (Or.inr rfl)
        refine Or.inl ⟨N2, zem w2, _, _, pre3 1 s4 (1, _) v1 (zb_153_64 (fun q => absurd q (by decide)) (fun _ => last _ s4 N2 w2 none v2 (by rw [zu_cell (by decide)]; exact nk))), fin, ⟨zBf_u (zBf_u b3 (by omega)) (by omega), ?_⟩, ⟨by omega, v32, v33, v34, by show ((w2.2.1.length : Nat) : Int) ≤ _; omega⟩, zMz_new hn mk v6, ze_trans u5 (ze_trans step v5)⟩
        rw [mk]
        refine zMk_new hk hn zu_hit ?_ ?_ ?_ ?_ (fun y hy => ?_)
        · rw [hx, zu_cell (by decide), zu_place (by omega), zu_place (by omega), zu_place (by omega), zu_place (by omega), zu_hit, hst]
        · rw [hx, zu_cell (by decide), zu_place (by omega), zu_place (by omega), zu_place (by omega), zu_hit]
        · rw [hx, zu_cell (by decide), zu_place (by omega), zu_hit, if_neg (by omega)]
        · rw [hx, zu_cell (by decide), zu_hit]
        · rw [hx] at hy
          rw [zu_cell (by decide), zu_place (by omega), zu_place (by omega), zu_place (by omega), zu_place (by omega), zu_place (by omega)]
      · rw [zBf_345 b3] at v3
        exact Or.inr ⟨f, s4, pre3 0 s4 (0, s4) v1 (zb_153_64 (fun _ => zb_153_65 rfl) (fun q => absurd rfl q)), zRdx_of b3 v2, w, ze_tend u5 (ze_tend step v3)⟩
    · have step : ze_to (z 345) T (3, 0, zg_sk (z 345) T N1, w1, l, []) (6, 0, zg_sk (z 345) T (zg_sk (z 345) T N1), zem (zem w1), l, []) := by
        rw [zg_sk_sk]
        exact ze_one (by rw [hif, if_neg c1])
      have mk : (zem (zem w1)).2.2.2.2 = ((w1.2.1.length : Nat) : Int) :: ((w1.2.1.length : Nat) : Int) :: a.2.2.2.2 := by
        show ((w1.2.1.length : Nat) : Int) :: ((w1.2.1.length : Nat) : Int) :: w1.2.2.2.2 = _
        rw [u42]
      have fin := ((c3.rb (x := 348) (y := x1 + 3) (v := ((w1.2.1.length : Nat) : Int)) (Or.inl rfl)).rb (x := 349) (y := t) (v := (n : Int) + 1) (Or.inr rfl)).forget
      refine Or.inl ⟨zg_sk (z 345) T N1, zem (zem w1), _, _, pre2 0 s3 (1, _) c2 (zb_153_50 (fun _ => last _ s3 _ w1 O c3 nk) (fun q => absurd rfl q)), fin, ⟨zBf_u (zBf_u b2 (by omega)) (by omega), ?_⟩, ⟨by omega, by omega, u33, u34, by show ((w1.2.1.length : Nat) : Int) ≤ _; omega⟩, zMz_new hn mk u6, ze_trans u5 step⟩
      rw [mk]
      refine zMk_new hk hn zu_hit ?_ ?_ ?_ ?_ (fun y hy => ?_)
      · rw [hx, zu_cell (by decide), zu_place (by omega), zu_place (by omega), zu_place (by omega), zu_hit, hst]
      · rw [hx, zu_cell (by decide), zu_place (by omega), zu_place (by omega), zu_hit]
      · rw [hx, zu_cell (by decide), zu_place (by omega), zu_hit, if_pos rfl]
      · rw [hx, zu_cell (by decide), zu_hit]
      · rw [hx] at hy
        rw [zu_cell (by decide), zu_place (by omega), zu_place (by omega), zu_place (by omega), zu_place (by omega)]
  · rw [zBf_345 b1] at u3
    exact Or.inr ⟨f, s2, pre 0 s2 (0, s2) u1 (zb_153_26 (fun _ => zb_153_27 rfl) (fun q => absurd rfl q)), zRdx_of b1 u2, w, u3⟩
end XH
