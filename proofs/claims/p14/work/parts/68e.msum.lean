/-! the reference's reading: term, sum, compare -/
section RE
variable {s0 s : zS} {t T N m ln : Int} {O : zO}
theorem zOR_map {A A1 C : Int → Int → zQ} {N' m' : Int} {O1 O2 : zO} {l1 l2 : Int} {X : Int → Prop} {E E1 : Int → zS → Prop} (h : zOR s0 t T A1 C N' m' O1 O2 l1 l2 X E1) (hN : N ≤ N') (ha : zg_to (s0 345) T (A (zg_sk (s0 345) T N) m) (A1 (zg_sk (s0 345) T N') m')) (hE : ∀ r s', E1 r s' → E r s') : zOR s0 t T A C N m O O2 ln l2 X E := by
  rcases h with ⟨N2, m2, s2, b1, b2, b3, b4, b5⟩ | ⟨f, s2, b1, b2, b3⟩
  · exact Or.inl ⟨N2, m2, s2, hE _ _ b1, b2, ⟨by omega, b3.2⟩, zg_trans ha b4, b5⟩
  · exact Or.inr ⟨f, s2, hE _ _ b1, b2, zg_tend ha b3⟩
theorem zr_termloop (hc : zCy s0 T) (k : Nat) (l : Int) (st : List Bool) : ∀ (n : Nat) (N m : Int) (s : zS) (x1 : Int), zRs s0 t N m O ln s → (T - N).toNat ≤ n → 0 ≤ N → N ≤ T → 0 ≤ m → m ≤ 60 → zOR s0 t T (fun p a => (2, k, p, a, l, st)) (fun p a => (2, k, p, a, l, st)) N m O O ln ln (fun p => ¬ (zg_kind (s0 345) T p = 42 ∨ zg_kind (s0 345) T p = 47 ∨ zg_kind (s0 345) T p = 37)) (fun r s' => zA xm_c146 5 [344, x1] [] s (r, s')) := by
  have h4 := hc.2.2.2
  -- one turn, the rest given
  have one : ∀ (N m : Int) (s : zS) (x1 : Int), zRs s0 t N m O ln s → 0 ≤ N → N ≤ T → 0 ≤ m → m ≤ 60 → (∀ (N' m' : Int) (s' : zS) (x' : Int), zRs s0 t N' m' O ln s' → N < N' → N' ≤ T → 0 ≤ m' → m' ≤ 60 → zOR s0 t T (fun p a => (2, k, p, a, l, st)) (fun p a => (2, k, p, a, l, st)) N' m' O O ln ln (fun p => ¬ (zg_kind (s0 345) T p = 42 ∨ zg_kind (s0 345) T p = 47 ∨ zg_kind (s0 345) T p = 37)) (fun r s'' => zA xm_c146 5 [344, x'] [] s' (r, s''))) → zOR s0 t T (fun p a => (2, k, p, a, l, st)) (fun p a => (2, k, p, a, l, st)) N m O O ln ln (fun p => ¬ (zg_kind (s0 345) T p = 42 ∨ zg_kind (s0 345) T p = 47 ∨ zg_kind (s0 345) T p = 37)) (fun r s' => zA xm_c146 5 [344, x1] [] s (r, s')) := by
    intro N m s x1 h hN hN4 hm hm6 ih
    have rl : N ≤ zg_sk (s0 345) T N ∧ (zg_sk (s0 345) T N ≤ T ∨ zg_sk (s0 345) T N = N) := zg_run_le
    obtain ⟨s1, u1, v1⟩ := zr_see hc _ (Nat.le_refl _) hN h
    obtain ⟨s1', u1', v1'⟩ := zr_see hc _ (Nat.le_refl _) (by omega) v1
    rw [zg_sk_sk] at u1' v1'
    obtain ⟨s1'', u1'', v1''⟩ := zr_see hc _ (Nat.le_refl _) (by omega) v1'
    rw [zg_sk_sk] at u1'' v1''
    have hp := (rfl : zg_sk (s0 345) T N = zg_sk (s0 345) T N)
    generalize hpq : zg_sk (s0 345) T N = p at rl u1 v1 u1' v1' u1'' v1'' hp
    have on : ∀ (x : Int) (s2 : zS), zRs s0 t p m O ln s2 → p < T → zOR s0 t T (fun p a => (1, k, p, a, l, st)) (fun p a => (2, k, p, a, l, st)) (p + 1) m O O ln ln (fun p => ¬ (zg_kind (s0 345) T p = 42 ∨ zg_kind (s0 345) T p = 47 ∨ zg_kind (s0 345) T p = 37)) (fun r s' => ∃ y s3, zE xm_c145 [344, 0, 0] (zu s2 344 8 (zw (s2 344 8 + 1))) y s3 ∧ zA xm_c146 45 [344, x] [(false, y)] s3 (r, s')) := by
      intro x s2 h2 hlt
      rw [h2.1.1, zw_id (x := p + 1) (by omega) (by omega)]
      refine zOR_tr (zr_value hc k l st (h2.setN (N' := p + 1)) (by omega) (by omega) hm hm6) (fun f s' e e2 => ⟨s', ⟨0, s', e, zb_146_45 (fun _ => zb_146_46 rfl) (fun q => absurd rfl q)⟩, e2⟩) (fun N' m' s' e h' g1 g2 g3 g4 _ => ?_)
      obtain ⟨s4, q1, q2⟩ := zr_puts h' (x := x) (y := 0)
      exact zOR_map (ih N' m' s4 x q2 (by omega) g2 g3 g4) (Int.le_refl _) zg_refl (fun r s'' z => ⟨1, s', e, zb_146_45 (fun q => absurd q (by decide)) (fun _ => zb_146_48 q1 (zb_146_52 z))⟩)
    have astep : ∀ v, v = 42 ∨ v = 47 ∨ v = 37 → zg_c (s0 345) T p = v → p < T ∧ s0 345 p = v ∧ zg_to (s0 345) T (2, k, p, m, l, st) (1, k, zg_sk (s0 345) T (p + 1), m, l, st) := by
      intro v hv hcv
      have e := (zg_cv (v := v) hc.1 hc.2.2.2 (by omega) (by omega) (by omega)).mp hcv
      have kk := zg_kc (b := s0 345) (T := T) (p := p) (v := v) (by omega) (by omega) (by omega)
      refine ⟨e.1, e.2, zg_one ?_⟩
      show (if zg_ar (zg_kind (s0 345) T p) then _ else _) = _
      rw [if_pos (by have := kk.1.mpr hcv; unfold zg_ar; omega)]
      unfold zg_nx
      rw [kk.2 hcv, if_pos e.1]
    have b9 := v1.by_
    have b9' := v1'.by_
    have b9'' := v1''.by_
    have byte : ∀ (s2 : zS), zRs s0 t p m O ln s2 → s2 (344 + 1) (s2 344 8) = s0 345 p := by
      intro s2 h2
      rw [h2.1.1, show (344 : Int) + 1 = 345 from rfl, h2.by_]
    by_cases e42 : zg_c (s0 345) T p = 42
    · obtain ⟨a1, a2, a3⟩ := astep 42 (by omega) e42
      refine zOR_map (on 4 s1 v1 a1) (by omega) (by rw [hpq]; exact a3) (fun r s' z => ?_)
      obtain ⟨y, s3, z1, z2⟩ := z
      exact zb_146_5 u1 (zb_146_7 (fun _ => zb_146_17 (fun _ => zb_146_24 z1 z2) (fun q => absurd (by rw [byte s1 v1]; exact a2) q)) (fun q => absurd e42 q))
    · by_cases e47 : zg_c (s0 345) T p = 47
      · obtain ⟨a1, a2, a3⟩ := astep 47 (by omega) e47
        refine zOR_map (on 5 s1' v1' a1) (by omega) (by rw [hpq]; exact a3) (fun r s' z => ?_)
        obtain ⟨y, s3, z1, z2⟩ := z
        exact zb_146_5 u1 (zb_146_7 (fun q => absurd q e42) (fun _ => zb_146_9 u1' (zb_146_11 (fun _ => zb_146_17 (fun q => absurd q (by rw [byte s1' v1']; omega)) (fun _ => zb_146_26 (fun _ => zb_146_33 z1 z2) (fun q => absurd (by rw [byte s1' v1']; exact a2) q))) (fun q => absurd e47 q))))
      · by_cases e37 : zg_c (s0 345) T p = 37
        · obtain ⟨a1, a2, a3⟩ := astep 37 (by omega) e37
          refine zOR_map (on 14 s1'' v1'' a1) (by omega) (by rw [hpq]; exact a3) (fun r s' z => ?_)
          obtain ⟨y, s3, z1, z2⟩ := z
          exact zb_146_5 u1 (zb_146_7 (fun q => absurd q e42) (fun _ => zb_146_9 u1' (zb_146_11 (fun q => absurd q e47) (fun _ => zb_146_13 u1'' (zb_146_15 (fun _ => zb_146_17 (fun q => absurd q (by rw [byte s1'' v1'']; omega)) (fun _ => zb_146_26 (fun q => absurd q (by rw [byte s1'' v1'']; omega)) (fun _ => zb_146_35 z1 z2))) (fun q => absurd e37 q))))))
        · have k42 := zg_kc (b := s0 345) (T := T) (p := p) (v := 42) (by omega) (by omega) (by omega)
          have k47 := zg_kc (b := s0 345) (T := T) (p := p) (v := 47) (by omega) (by omega) (by omega)
          have k37 := zg_kc (b := s0 345) (T := T) (p := p) (v := 37) (by omega) (by omega) (by omega)
          have hpp : zg_sk (s0 345) T p = p := by rw [← hpq, zg_sk_sk]
          refine Or.inl ⟨p, m, s1'', zb_146_5 u1 (zb_146_7 (fun q => absurd q e42) (fun _ => zb_146_9 u1' (zb_146_11 (fun q => absurd q e47) (fun _ => zb_146_13 u1'' (zb_146_15 (fun q => absurd q e37) (fun _ => zb_146_53 rfl)))))), v1'', by omega, ?_, ?_⟩
          · rw [hpp, hpq]
            exact zg_refl
          · rw [hpp]
            rintro (z | z | z)
            · exact e42 (k42.1.mp z)
            · exact e47 (k47.1.mp z)
            · exact e37 (k37.1.mp z)
  intro n
  induction n with
  | zero =>
    intro N m s x1 h hn hN hN4 hm hm6
    exact one N m s x1 h hN hN4 hm hm6 (fun N' m' s' x' h' g1 g2 _ _ => by omega)
  | succ n ih =>
    intro N m s x1 h hn hN hN4 hm hm6
    exact one N m s x1 h hN hN4 hm hm6 (fun N' m' s' x' h' g1 g2 g3 g4 => ih N' m' s' x' h' (by omega) (by omega) g2 g3 g4)
theorem zr_term (hc : zCy s0 T) (k : Nat) (l : Int) (st : List Bool) (h : zRs s0 t N m O ln s) (hN : 0 ≤ N) (hN4 : N ≤ T) (hm : 0 ≤ m) (hm6 : m ≤ 60) : zOR s0 t T (fun p a => (1, k, p, a, l, st)) (fun p a => (2, k, p, a, l, st)) N m O O ln ln (fun p => ¬ (zg_kind (s0 345) T p = 42 ∨ zg_kind (s0 345) T p = 47 ∨ zg_kind (s0 345) T p = 37)) (fun r s' => zE xm_c146 [344, 0] s r s') := by
  refine zOR_tr (zr_value hc k l st h hN hN4 hm hm6) (fun f s' e e2 => ⟨s', zb_146_0 e (zb_146_2 (fun _ => zb_146_3 rfl) (fun q => absurd rfl q)), e2⟩) (fun N' m' s' e h' g1 g2 g3 g4 _ => ?_)
  exact zOR_map (zr_termloop hc k l st _ N' m' s' 0 h' (Nat.le_refl _) (by omega) g2 g3 g4) (Int.le_refl _) zg_refl (fun r s'' z => zb_146_0 e (zb_146_2 (fun q => absurd q (by decide)) (fun _ => z)))
theorem zr_sumloop (hc : zCy s0 T) (k : Nat) (l : Int) (st : List Bool) : ∀ (n : Nat) (N m : Int) (s : zS) (x1 : Int), zRs s0 t N m O ln s → (T - N).toNat ≤ n → 0 ≤ N → N ≤ T → 0 ≤ m → m ≤ 60 → ¬ (zg_kind (s0 345) T (zg_sk (s0 345) T N) = 42 ∨ zg_kind (s0 345) T (zg_sk (s0 345) T N) = 47 ∨ zg_kind (s0 345) T (zg_sk (s0 345) T N) = 37) → zOR s0 t T (fun p a => (2, k, p, a, l, st)) (fun p a => (3, k, p, a, l, st)) N m O O ln ln (fun _ => True) (fun r s' => zA xm_c147 5 [344, x1] [] s (r, s')) := by
  have h4 := hc.2.2.2
  have one : ∀ (N m : Int) (s : zS) (x1 : Int), zRs s0 t N m O ln s → 0 ≤ N → N ≤ T → 0 ≤ m → m ≤ 60 → ¬ (zg_kind (s0 345) T (zg_sk (s0 345) T N) = 42 ∨ zg_kind (s0 345) T (zg_sk (s0 345) T N) = 47 ∨ zg_kind (s0 345) T (zg_sk (s0 345) T N) = 37) → (∀ (N' m' : Int) (s' : zS) (x' : Int), zRs s0 t N' m' O ln s' → N < N' → N' ≤ T → 0 ≤ m' → m' ≤ 60 → ¬ (zg_kind (s0 345) T (zg_sk (s0 345) T N') = 42 ∨ zg_kind (s0 345) T (zg_sk (s0 345) T N') = 47 ∨ zg_kind (s0 345) T (zg_sk (s0 345) T N') = 37) → zOR s0 t T (fun p a => (2, k, p, a, l, st)) (fun p a => (3, k, p, a, l, st)) N' m' O O ln ln (fun _ => True) (fun r s'' => zA xm_c147 5 [344, x'] [] s' (r, s''))) → zOR s0 t T (fun p a => (2, k, p, a, l, st)) (fun p a => (3, k, p, a, l, st)) N m O O ln ln (fun _ => True) (fun r s' => zA xm_c147 5 [344, x1] [] s (r, s')) := by
    intro N m s x1 h hN hN4 hm hm6 hno ih
    have rl : N ≤ zg_sk (s0 345) T N ∧ (zg_sk (s0 345) T N ≤ T ∨ zg_sk (s0 345) T N = N) := zg_run_le
    obtain ⟨s1, u1, v1⟩ := zr_see hc _ (Nat.le_refl _) hN h
    obtain ⟨s1', u1', v1'⟩ := zr_see hc _ (Nat.le_refl _) (by omega) v1
    rw [zg_sk_sk] at u1' v1'
    generalize hpq : zg_sk (s0 345) T N = p at rl u1 v1 u1' v1' hno
    have on : ∀ (x : Int) (s2 : zS), zRs s0 t p m O ln s2 → p < T → zOR s0 t T (fun p a => (1, k, p, a, l, st)) (fun p a => (3, k, p, a, l, st)) (p + 1) m O O ln ln (fun _ => True) (fun r s' => ∃ y s3, zE xm_c146 [344, 0] (zu s2 344 8 (zw (s2 344 8 + 1))) y s3 ∧ zA xm_c147 32 [344, x] [(false, y)] s3 (r, s')) := by
      intro x s2 h2 hlt
      rw [h2.1.1, zw_id (x := p + 1) (by omega) (by omega)]
      refine zOR_tr (zr_term hc k l st (h2.setN (N' := p + 1)) (by omega) (by omega) hm hm6) (fun f s' e e2 => ⟨s', ⟨0, s', e, zb_147_32 (fun _ => zb_147_33 rfl) (fun q => absurd rfl q)⟩, e2⟩) (fun N' m' s' e h' g1 g2 g3 g4 g5 => ?_)
      obtain ⟨s4, q1, q2⟩ := zr_puts h' (x := x) (y := 0)
      exact zOR_map (ih N' m' s4 x q2 (by omega) g2 g3 g4 g5) (Int.le_refl _) zg_refl (fun r s'' z => ⟨1, s', e, zb_147_32 (fun q => absurd q (by decide)) (fun _ => zb_147_35 q1 (zb_147_39 z))⟩)
    have astep : ∀ v, v = 43 ∨ v = 45 → zg_c (s0 345) T p = v → p < T ∧ s0 345 p = v ∧ zg_to (s0 345) T (2, k, p, m, l, st) (1, k, zg_sk (s0 345) T (p + 1), m, l, st) := by
      intro v hv hcv
      have e := (zg_cv (v := v) hc.1 hc.2.2.2 (by omega) (by omega) (by omega)).mp hcv
      have kk := zg_kc (b := s0 345) (T := T) (p := p) (v := v) (by omega) (by omega) (by omega)
      refine ⟨e.1, e.2, zg_one ?_⟩
      show (if zg_ar (zg_kind (s0 345) T p) then _ else _) = _
      rw [if_pos (by have := kk.1.mpr hcv; unfold zg_ar; omega)]
      unfold zg_nx
      rw [kk.2 hcv, if_pos e.1]
    have byte : ∀ (s2 : zS), zRs s0 t p m O ln s2 → s2 (344 + 1) (s2 344 8) = s0 345 p := by
      intro s2 h2
      rw [h2.1.1, show (344 : Int) + 1 = 345 from rfl, h2.by_]
    by_cases e43 : zg_c (s0 345) T p = 43
    · obtain ⟨a1, a2, a3⟩ := astep 43 (by omega) e43
      refine zOR_map (on 2 s1 v1 a1) (by omega) (by rw [hpq]; exact a3) (fun r s' z => ?_)
      obtain ⟨y, s3, z1, z2⟩ := z
      exact zb_147_5 u1 (zb_147_7 (fun _ => zb_147_13 (fun _ => zb_147_20 z1 z2) (fun q => absurd (by rw [byte s1 v1]; exact a2) q)) (fun q => absurd e43 q))
    · by_cases e45 : zg_c (s0 345) T p = 45
      · obtain ⟨a1, a2, a3⟩ := astep 45 (by omega) e45
        refine zOR_map (on 3 s1' v1' a1) (by omega) (by rw [hpq]; exact a3) (fun r s' z => ?_)
        obtain ⟨y, s3, z1, z2⟩ := z
        exact zb_147_5 u1 (zb_147_7 (fun q => absurd q e43) (fun _ => zb_147_9 u1' (zb_147_11 (fun _ => zb_147_13 (fun q => absurd q (by rw [byte s1' v1']; omega)) (fun _ => zb_147_22 z1 z2)) (fun q => absurd e45 q))))
      · have k43 := zg_kc (b := s0 345) (T := T) (p := p) (v := 43) (by omega) (by omega) (by omega)
        have k45 := zg_kc (b := s0 345) (T := T) (p := p) (v := 45) (by omega) (by omega) (by omega)
        have hpp : zg_sk (s0 345) T p = p := by rw [← hpq, zg_sk_sk]
        refine Or.inl ⟨p, m, s1', zb_147_5 u1 (zb_147_7 (fun q => absurd q e43) (fun _ => zb_147_9 u1' (zb_147_11 (fun q => absurd q e45) (fun _ => zb_147_40 rfl)))), v1', by omega, ?_, trivial⟩
        rw [hpp, hpq]
        refine zg_one ?_
        show (if zg_ar (zg_kind (s0 345) T p) then _ else _) = _
        refine if_neg (fun z => ?_)
        rcases z with z | z | z | z | z
        · exact e43 (k43.1.mp z)
        · exact e45 (k45.1.mp z)
        · exact hno (Or.inl z)
        · exact hno (Or.inr (Or.inl z))
        · exact hno (Or.inr (Or.inr z))
  intro n
  induction n with
  | zero =>
    intro N m s x1 h hn hN hN4 hm hm6 hno
    exact one N m s x1 h hN hN4 hm hm6 hno (fun N' m' s' x' h' g1 g2 _ _ _ => by omega)
  | succ n ih =>
    intro N m s x1 h hn hN hN4 hm hm6 hno
    exact one N m s x1 h hN hN4 hm hm6 hno (fun N' m' s' x' h' g1 g2 g3 g4 g5 => ih N' m' s' x' h' (by omega) (by omega) g2 g3 g4 g5)
theorem zr_sum (hc : zCy s0 T) (k : Nat) (l : Int) (st : List Bool) (h : zRs s0 t N m O ln s) (hN : 0 ≤ N) (hN4 : N ≤ T) (hm : 0 ≤ m) (hm6 : m ≤ 60) : zOR s0 t T (fun p a => (1, k, p, a, l, st)) (fun p a => (3, k, p, a, l, st)) N m O O ln ln (fun _ => True) (fun r s' => zE xm_c147 [344, 0] s r s') := by
  refine zOR_tr (zr_term hc k l st h hN hN4 hm hm6) (fun f s' e e2 => ⟨s', zb_147_0 e (zb_147_2 (fun _ => zb_147_3 rfl) (fun q => absurd rfl q)), e2⟩) (fun N' m' s' e h' g1 g2 g3 g4 g5 => ?_)
  exact zOR_map (zr_sumloop hc k l st _ N' m' s' 0 h' (Nat.le_refl _) (by omega) g2 g3 g4 g5) (Int.le_refl _) zg_refl (fun r s'' z => zb_147_0 e (zb_147_2 (fun q => absurd q (by decide)) (fun _ => z)))
/-- a sign that compares, with or without '=' behind it -/
theorem zg_cs {b : Int → Int} {p : Int} (hb : zg_by b) (hT : T ≤ 400) (hp : 0 ≤ p) : (zg_c b T p = 61 → zg_kind b T p = 61 ∧ zg_te b T p = p + 1) ∧ (zg_c b T p = 60 ∨ zg_c b T p = 62 → ((p + 1 < T ∧ b (p + 1) = 61) → (zg_kind b T p = 256 ∨ zg_kind b T p = 257) ∧ zg_te b T p = p + 2) ∧ (¬ (p + 1 < T ∧ b (p + 1) = 61) → (zg_kind b T p = 60 ∨ zg_kind b T p = 62) ∧ zg_te b T p = p + 1)) ∧ (zg_c b T p ≠ 60 → zg_c b T p ≠ 61 → zg_c b T p ≠ 62 → ¬ zg_cm (zg_kind b T p)) := by
  have c := zg_cb hb hT hp
  refine ⟨fun q => ?_, fun q => ⟨fun q2 => ?_, fun q2 => ?_⟩, fun q1 q2 q3 z => ?_⟩
  · unfold zg_kind zg_te
    rw [if_neg (by omega), if_neg (by omega), if_neg (by omega), if_neg (by omega), if_neg (by omega), if_neg (by omega), if_pos (by omega)]
    exact ⟨q, rfl⟩
  · have ht : zg_te b T p = p + 2 := by
      unfold zg_te
      rw [if_neg (by omega), if_neg (by omega), if_pos ⟨q2, q⟩]
    refine ⟨?_, ht⟩
    unfold zg_kind
    rw [if_neg (by omega), if_neg (by omega), if_pos ⟨q2, q⟩]
    by_cases e : zg_c b T p = 60
    · rw [if_pos e]; exact Or.inl rfl
    · rw [if_neg e]; exact Or.inr rfl
  · unfold zg_kind zg_te
    rw [if_neg (by omega), if_neg (by omega), if_neg (fun z => q2 z.1), if_neg (by omega), if_neg (by omega), if_neg (fun z => q2 z.1), if_pos (by omega)]
    exact ⟨q, rfl⟩
  · unfold zg_cm zg_kind at z
    by_cases e1 : 97 ≤ zg_c b T p ∧ zg_c b T p ≤ 122
    · rw [if_pos e1] at z
      omega
    · rw [if_neg e1] at z
      by_cases e2 : 48 ≤ zg_c b T p ∧ zg_c b T p ≤ 57
      · rw [if_pos e2] at z
        omega
      · rw [if_neg e2, if_neg (fun z => by omega)] at z
        omega
theorem zr_compare (hc : zCy s0 T) (l : Int) (st : List Bool) (h : zRs s0 t N m O ln s) (hN : 0 ≤ N) (hN4 : N ≤ T) (hm : 0 ≤ m) (hm6 : m ≤ 60) : zOR s0 t T (fun p a => (1, 1, p, a, l, st)) (fun p a => (5, 0, p, a, l, st)) N m O O ln ln (fun _ => True) (fun r s' => zE xm_c148 [344, 0, 0, 0, 0] s r s') := by
  have h4 := hc.2.2.2
  refine zOR_tr (zr_sum hc 1 l st h hN hN4 hm hm6) (fun f s' e e2 => ⟨s', zb_148_0 e (zb_148_2 (fun _ => zb_148_3 rfl) (fun q => absurd rfl q)), e2⟩) (fun N m s1 e h' g1 g2 hm hm6 _ => ?_)
  have rl : N ≤ zg_sk (s0 345) T N ∧ (zg_sk (s0 345) T N ≤ T ∨ zg_sk (s0 345) T N = N) := zg_run_le
  obtain ⟨s2, u1, v1⟩ := zr_see hc _ (Nat.le_refl _) (by omega) h'
  generalize hpq : zg_sk (s0 345) T N = p at rl u1 v1
  have cs := zg_cs (b := s0 345) (p := p) hc.1 hc.2.2.2 (by omega)
  have cb := zg_cb (b := s0 345) (T := T) (p := p) hc.1 hc.2.2.2 (by omega)
  have e8 := v1.1.1
  have hst : zg_st (s0 345) T (3, 1, p, m, l, st) = if zg_cm (zg_kind (s0 345) T p) then (if m = 60 then zg_fl 3 p else .inl (1, 2, zg_nx (s0 345) T p, m + 1, l, st)) else zg_fl 0 p := rfl
  -- behind the sign: q its end
  have on : ∀ (q x3 : Int) (s3 : zS), zg_cm (zg_kind (s0 345) T p) → zg_te (s0 345) T p = q → p < q → q ≤ T → zRs s0 t q m O ln s3 → zOR s0 t T (fun p a => (3, 1, p, a, l, st)) (fun p a => (5, 0, p, a, l, st)) N m O O ln ln (fun _ => True) (fun r s' => ∃ y s4, zE xm_c141 [344, s2 344 8] s3 y s4 ∧ zA xm_c148 61 [344, zg_c (s0 345) T p, s2 344 8, x3, 0] [(false, y)] s4 (r, s')) := by
    intro q x3 s3 hcm hte hpq' hqT h3
    rcases zr_makes h3 hm hm6 (at_ := p) (by omega) (by omega) with ⟨m1, s4, m2, m3⟩ | ⟨m1, s4, m2, m3⟩
    · have key : ∀ x4, zOR s0 t T (fun p a => (1, 2, p, a, l, st)) (fun p a => (5, 0, p, a, l, st)) q (m + 1) O O ln ln (fun _ => True) (fun r s' => ∃ y s5, zE xm_c147 [344, 0] s4 y s5 ∧ zA xm_c148 86 [344, zg_c (s0 345) T p, s2 344 8, x3, x4] [(false, y)] s5 (r, s')) := by
        intro x4
        refine zOR_tr (zr_sum hc 2 l st m3 (by omega) hqT (by omega) (by omega)) (fun f s' e e2 => ⟨s', ⟨0, s', e, zb_148_86 (fun _ => zb_148_87 rfl) (fun q => absurd rfl q)⟩, e2⟩) (fun N' m' s' e h' g1 g2 g3 g4 _ => ?_)
        obtain ⟨s5, q1, q2⟩ := zr_puts h' (x := zw (6 + x4)) (y := 0)
        exact Or.inl ⟨N', m', s5, ⟨1, s', e, zb_148_86 (fun q => absurd q (by decide)) (fun _ => zb_148_89 q1 (zb_148_95 rfl))⟩, q2, by omega, zg_one rfl, trivial⟩
      have step : zg_to (s0 345) T (3, 1, zg_sk (s0 345) T N, m, l, st) (1, 2, zg_sk (s0 345) T q, m + 1, l, st) := by
        rw [hpq]
        refine zg_one ?_
        rw [hst, if_pos hcm, if_neg (by omega)]
        unfold zg_nx
        rw [hte]
      by_cases c60 : zg_c (s0 345) T p = 60
      · by_cases x30 : x3 = 0
        · refine zOR_map (key 0) (by omega) step (fun r s' z => ?_)
          obtain ⟨y, s5, z1, z2⟩ := z
          exact ⟨1, s4, by rw [e8]; exact m2, zb_148_61 (fun q => absurd q (by decide)) (fun _ => zb_148_64 (fun _ => zb_148_67 (fun _ => zb_148_71 z1 z2) (fun q => absurd x30 q)) (fun q => absurd c60 q))⟩
        · refine zOR_map (key 1) (by omega) step (fun r s' z => ?_)
          obtain ⟨y, s5, z1, z2⟩ := z
          exact ⟨1, s4, by rw [e8]; exact m2, zb_148_61 (fun q => absurd q (by decide)) (fun _ => zb_148_64 (fun _ => zb_148_67 (fun q => absurd q x30) (fun _ => zb_148_69 z1 z2)) (fun q => absurd c60 q))⟩
      · by_cases c61 : zg_c (s0 345) T p = 61
        · refine zOR_map (key 2) (by omega) step (fun r s' z => ?_)
          obtain ⟨y, s5, z1, z2⟩ := z
          exact ⟨1, s4, by rw [e8]; exact m2, zb_148_61 (fun q => absurd q (by decide)) (fun _ => zb_148_64 (fun q => absurd q c60) (fun _ => zb_148_73 (fun _ => zb_148_76 z1 z2) (fun q => absurd c61 q)))⟩
        · by_cases x30 : x3 = 0
          · refine zOR_map (key 4) (by omega) step (fun r s' z => ?_)
            obtain ⟨y, s5, z1, z2⟩ := z
            exact ⟨1, s4, by rw [e8]; exact m2, zb_148_61 (fun q => absurd q (by decide)) (fun _ => zb_148_64 (fun q => absurd q c60) (fun _ => zb_148_73 (fun q => absurd q c61) (fun _ => zb_148_78 (fun _ => zb_148_82 z1 z2) (fun q => absurd x30 q))))⟩
          · refine zOR_map (key 3) (by omega) step (fun r s' z => ?_)
            obtain ⟨y, s5, z1, z2⟩ := z
            exact ⟨1, s4, by rw [e8]; exact m2, zb_148_61 (fun q => absurd q (by decide)) (fun _ => zb_148_64 (fun q => absurd q c60) (fun _ => zb_148_73 (fun q => absurd q c61) (fun _ => zb_148_78 (fun q => absurd q x30) (fun _ => zb_148_80 z1 z2))))⟩
    · refine Or.inr ⟨_, s4, ⟨0, s4, by rw [e8]; exact m2, zb_148_61 (fun _ => zb_148_62 rfl) (fun q => absurd rfl q)⟩, m3, zg_stop ?_⟩
      rw [hpq, hst, if_pos hcm, if_pos m1]
      rfl
  have h1 := v1.setN (N' := p + 1)
  have hN1 : zu s2 344 8 (zw (s2 344 8 + 1)) = zu s2 344 8 (p + 1) := by rw [e8, zw_id (by omega) (by omega)]
  have e81 : (zu s2 344 8 (p + 1)) 344 8 = p + 1 := zu_hit
  have e11 : (zu s2 344 8 (p + 1)) 344 1 = T := by rw [zu_place (by decide)]; exact v1.len hc
  have e9 : (zu s2 344 8 (p + 1)) (344 + 1) = s0 345 := by
    rw [show (344 : Int) + 1 = 345 from rfl]
    exact h1.by_
  -- with no '=' behind
  have plain : ∀ (r : Int) (s' : zS), (∃ y s4, zE xm_c141 [344, s2 344 8] (zu s2 344 8 (p + 1)) y s4 ∧ zA xm_c148 61 [344, zg_c (s0 345) T p, s2 344 8, 0, 0] [(false, y)] s4 (r, s')) → zA xm_c148 48 [344, zg_c (s0 345) T p, s2 344 8, 0, 0] [] (zu s2 344 8 (p + 1)) (r, s') := by
    intro r s' z
    obtain ⟨y, s4, z1, z2⟩ := z
    exact zb_148_48 (fun _ => zb_148_58 z1 z2) (fun q => absurd rfl q)
  have pre : ∀ (r : Int) (s' : zS), zA xm_c148 25 [344, zg_c (s0 345) T p, s2 344 8, 0, 0] [] s2 (r, s') → zg_c (s0 345) T p = 60 ∨ zg_c (s0 345) T p = 61 ∨ zg_c (s0 345) T p = 62 → zE xm_c148 [344, 0, 0, 0, 0] s r s' := by
    intro r s' z hq
    refine zb_148_0 e (zb_148_2 (fun q => absurd q (by decide)) (fun _ => zb_148_5 u1 (zb_148_7 (fun _ => z) (fun q60 => zb_148_14 (fun _ => z) (fun q61 => zb_148_17 (fun _ => z) (fun q62 => ?_))))))
    rcases hq with q | q | q
    · exact absurd q q60
    · exact absurd q q61
    · exact absurd q q62
  by_cases c61 : zg_c (s0 345) T p = 61
  · obtain ⟨k1, k2⟩ := cs.1 c61
    refine zOR_map (on (p + 1) 0 _ (by unfold zg_cm; omega) k2 (by omega) (by omega) h1) (Int.le_refl _) zg_refl (fun r s' z => ?_)
    refine pre r s' (zb_148_25 (fun _ => ?_) (fun q => absurd c61 q)) (by omega)
    rw [hN1]
    exact plain r s' z
  · by_cases c602 : zg_c (s0 345) T p = 60 ∨ zg_c (s0 345) T p = 62
    · by_cases also : p + 1 < T ∧ s0 345 (p + 1) = 61
      · obtain ⟨k1, k2⟩ := (cs.2.1 c602).1 also
        have h2 := h1.setN (N' := p + 2)
        refine zOR_map (on (p + 2) 1 _ (by unfold zg_cm; omega) k2 (by omega) (by omega) h2) (Int.le_refl _) zg_refl (fun r s' z => ?_)
        obtain ⟨y, s4, z1, z2⟩ := z
        refine pre r s' (zb_148_25 (fun q => absurd q c61) (fun _ => ?_)) (by omega)
        rw [hN1]
        refine zb_148_34 (fun _ => zb_148_39 (fun _ => zb_148_46 (fun q => absurd q (by decide)) (fun _ => zb_148_52 ?_ z2)) (fun q => absurd (by rw [e9, e81]; exact also.2) q)) (fun q => absurd (by rw [e81, e11]; exact also.1) q)
        rw [e81, zw_id (x := p + 1 + 1) (by omega) (by omega), show p + 1 + 1 = p + 2 by omega]
        exact z1
      · obtain ⟨k1, k2⟩ := (cs.2.1 c602).2 also
        refine zOR_map (on (p + 1) 0 _ (by unfold zg_cm; omega) k2 (by omega) (by omega) h1) (Int.le_refl _) zg_refl (fun r s' z => ?_)
        refine pre r s' (zb_148_25 (fun q => absurd q c61) (fun _ => ?_)) (by omega)
        rw [hN1]
        refine zb_148_34 (fun q1 => zb_148_39 (fun q2 => ?_) (fun _ => plain r s' z)) (fun _ => plain r s' z)
        rw [e81, e11] at q1
        rw [e9, e81] at q2
        exact absurd ⟨q1, q2⟩ also
    · have hno := cs.2.2 (by omega) c61 (by omega)
      obtain ⟨s3, f1, f2⟩ := zr_fails v1 (c := 0) (at_ := p) (by omega) (by omega) (by omega) (by omega)
      refine Or.inr ⟨_, s3, zb_148_0 e (zb_148_2 (fun q => absurd q (by decide)) (fun _ => zb_148_5 u1 (zb_148_7 (fun q => absurd (Or.inl q) c602) (fun _ => zb_148_14 (fun q => absurd q c61) (fun _ => zb_148_17 (fun q => absurd (Or.inr q) c602) (fun _ => zb_148_20 (by rw [e8]; exact f1) (zb_148_24 rfl))))))), f2, zg_stop ?_⟩
      rw [hpq, hst, if_neg hno]
      rfl
end RE
