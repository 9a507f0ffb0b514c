/-! a bell in the class -/
section GT
variable {bB : Int}
variable {t0 : zS} {σ T : Int → Int} {n m : Nat} {l F : Int} {U : (Int → Int) → Int}
theorem zo_ring (hg : zRg bB t0 σ n m l F U) (hT : T = zto (zsA σ m n) (zfs (zvD σ m) n) n F U) (hL : zRL t0 l (zsA σ m n) n) : ∃ s', zE xm_c13 [237, l, zlan σ m n, 0, σ 4, 0, 0, 0, 0, 0, 0, 0, 0, 0, 0] t0 (zfs (zhx T) n) s' ∧ zLd s' l (zsA σ m n) n T (σ 4) (zhx T) ∧ ∀ x, x ≠ 238 → x ≠ 239 → ¬ (l ≤ x ∧ x ≤ l + 3) → s' x = t0 x := by
  have hg0 := hg
  obtain ⟨hG, hGt, hH, hR, ⟨hpl, hdf⟩, hA, l0, l1⟩ := hg
  obtain ⟨⟨g1, h7, g3, g4, g5, g6, g7, g8, g9⟩, -, -⟩ := hG
  obtain ⟨fn, hfn⟩ := Int.eq_ofNat_of_zero_le g5
  have f9 : fn ≤ 9 := by clear hH hR hA hdf hg0 hGt hL; omega
  have s4 : zsA σ m n 4 = σ 4 := zsA_lo (by decide)
  have s5 : zsA σ m n 5 = σ 5 := zsA_lo (by decide)
  have s8 : zsA σ m n 8 = σ 8 := zsA_lo (by decide)
  have s9 : zsA σ m n 9 = σ 9 := zsA_lo (by decide)
  have loop : ∀ (k i : Nat) (t : zS) (x6 Q x9 x10 x11 x12 x13 x14 : Int), i + k = fn → (∀ f : Nat, f < 9 → (zbt Q ((f : Nat) : Int) = 1 ↔ zqt (zsA σ m n) ((f : Nat) : Int))) → zFrg t0 t l σ n m → zLd t l (zsA σ m n) n T (σ 4) (zdP σ m T ((i : Nat) : Int) 0) → ∃ s', zA xm_c13 55 [237, l, zlan σ m n, 0, σ 4, zfs (zkn (zsA σ m n)) n, x6, Q, ((i : Nat) : Int), x9, x10, x11, x12, x13, x14] [] t (zfs (zhx T) n, s') ∧ zLd s' l (zsA σ m n) n T (σ 4) (zhx T) ∧ zFrg t0 s' l σ n m := by
    intro k
    induction k with
    | zero =>
      intro i t x6 Q x9 x10 x11 x12 x13 x14 hi hQ hfr hd
      have e : i = fn := by omega
      subst e
      have hd2 : zLd t l (zsA σ m n) n T (σ 4) (zhx T) := zLd_iff hd (fun q hq => by
        unfold zhx zdP
        refine ⟨fun z => ⟨z, Or.inl ?_⟩, fun z => z.1⟩
        rw [← hfn]
        exact (hA q hq).2)
      have t11 : t (237 + (-226)) 0 = ((i : Nat) : Int) := by
        show t 11 0 = _
        rw [hfr.1 11 (by decide) (by decide) (by clear hH hR hA hdf hg0 hGt hL hd hd2 hQ hfr; omega), hH.1.1, hfn]
      refine ⟨t, zb_13_55 (fun q => absurd q (by rw [t11]; exact Int.lt_irrefl _)) (fun _ => zb_13_176 (Prod.ext ?_ rfl)), hd2, hfr⟩
      show zand (t l 0) (zxor (zfs (zkn (zsA σ m n)) n) (-1)) = zfs (zhx T) n
      rw [hd2.1]
      refine zfo_and n (by clear hH hR hA hdf hg0 hGt hL hd hd2 hQ hfr; omega) (fun p hp => ?_)
      rw [zbt_not (by clear hH hR hA hdf hg0 hGt hL hd hd2 hQ hfr; omega), zbt_fo1 hp (by clear hH hR hA hdf hg0 hGt hL hd hd2 hQ hfr; omega)]
      refine ⟨fun z => ⟨Or.inr z, fun y => z (by rw [hT, zto_k y]; decide)⟩, fun z => z.1.resolve_left z.2⟩
    | succ k ih =>
      intro i t x6 Q x9 x10 x11 x12 x13 x14 hi hQ hfr hd
      obtain ⟨t1, y9, y10, y11, y12, y13, y14, a1, a2, a3⟩ := zo_floor (fn := i) (x6 := x6) (x9 := x9) (x10 := x10) (x11 := x11) (x12 := x12) (x13 := x13) (x14 := x14) hg0 hT (by rw [hfn]; clear ih hH hR hA hdf hg0 hGt hL hd hQ hfr; omega) hQ hfr hd
      obtain ⟨s', b1, b2⟩ := ih (i + 1) t1 x6 Q y9 y10 y11 y12 y13 y14 (by omega) hQ a2 a3
      exact ⟨s', a1 _ b1, b2⟩
  have hk := zfo_r (P := zkn (zsA σ m n)) n h7
  have hd0 : ∀ t : zS, (∀ x, x ≠ 238 → t x = t0 x) → zLd t l (zsA σ m n) n T (σ 4) (zdP σ m T ((0 : Nat) : Int) 0) := fun t ht => by
    have no : ∀ q, q < n → ¬ zdP σ m T ((0 : Nat) : Int) 0 q := fun q hq z => z.2.elim (fun y => absurd (hA q hq).1 (Int.not_le.mpr y)) (fun y => absurd y.2 (Nat.not_lt_zero q))
    obtain ⟨a, b⟩ := hL
    unfold zLd
    rw [ht l (by clear hH hR hA hdf hg0 hGt b a ht no; omega), ht (l + 1) (by clear hH hR hA hdf hg0 hGt b a ht no; omega), ht (l + 2) (by clear hH hR hA hdf hg0 hGt b a ht no; omega), ht (l + 3) (by clear hH hR hA hdf hg0 hGt b a ht no; omega)]
    refine ⟨by rw [a]; exact zfo_congr n (fun p hp => ⟨Or.inl, fun z => z.resolve_right (no p hp)⟩), fun p hp => ?_⟩
    rw [if_neg (no p hp), if_neg (no p hp), if_neg (no p hp)]
    exact b p hp
  have q7 : t0 (237 + (-226)) 7 = σ 5 := hH.1.2.2.2.2.2.1
  have q6 : t0 (237 + (-226)) 6 = σ 9 := hH.1.2.2.2.2.1
  -- behind the night
  have rest : ∀ (x6 Q : Int), (x6 = if 0 ≤ σ 5 ∧ σ 5 ≤ σ 4 then 1 else 0) → (∀ f : Nat, f < 9 → (zbt Q ((f : Nat) : Int) = 1 ↔ zqt (zsA σ m n) ((f : Nat) : Int))) → ∃ s', zA xm_c13 42 [237, l, zlan σ m n, 0, σ 4, zfs (zkn (zsA σ m n)) n, x6, Q, 0, 0, 0, 0, 0, 0, 0] [(false, zbc (zfs (zkn (zsA σ m n)) n)), (false, 8), (false, 237 + 1)] (zu t0 (237 + 1) 3 (σ 4)) (zfs (zhx T) n, s') ∧ zLd s' l (zsA σ m n) n T (σ 4) (zhx T) ∧ ∀ x, x ≠ 238 → x ≠ 239 → ¬ (l ≤ x ∧ x ≤ l + 3) → s' x = t0 x := fun x6 Q h6 hQ => by
    have o : ∀ x, x ≠ 238 → zu (zu (zu t0 238 3 (σ 4)) 238 8 (zbc (zfs (zkn (zsA σ m n)) n))) 238 9 x6 x = t0 x := fun x hx => funext (fun y => by rw [zu_cell hx, zu_cell hx, zu_cell hx])
    obtain ⟨s', u1, u2, u3⟩ := loop fn 0 (zu (zu (zu t0 238 3 (σ 4)) 238 8 (zbc (zfs (zkn (zsA σ m n)) n))) 238 9 x6) x6 Q 0 0 0 0 0 0 (Nat.zero_add fn) hQ ⟨fun x x1 _ _ => o x x1, by rw [zu_place (by decide), zu_place (by decide), zu_hit], by rw [zu_place (by decide), zu_hit], by rw [zu_hit, h6]⟩ (hd0 _ o)
    refine ⟨s', ?_, u2, u3.1⟩
    by_cases c : x6 = 0
    · refine zb_13_42 (fun _ => zb_13_51 ?_) (fun q => absurd c q)
      rw [c] at u1 ⊢
      exact u1
    · have c1 : x6 = 1 := by
        rw [h6] at c ⊢
        by_cases y : 0 ≤ σ 5 ∧ σ 5 ≤ σ 4
        · exact if_pos y
        · exact absurd (if_neg y) c
      refine zb_13_42 (fun q => absurd q c) (fun _ => zb_13_49 ?_)
      rw [c1] at u1 ⊢
      exact u1
  have hkl : t0 l 0 = zfs (zkn (zsA σ m n)) n := hL.1
  by_cases c : 0 ≤ σ 5 ∧ σ 5 ≤ σ 4
  · obtain ⟨s', u1, u2⟩ := rest 1 (zor (σ 8) (zxor (σ 9) (-1))) (if_pos c).symm (fun f hf => by
      unfold zqt
      rw [s4, s5, s8, s9, zbt_or]
      have z2 := zbt_not (X := σ 9) (p := f) (by clear hH hR hA hdf hg0 hGt hL; omega)
      have o1 := zor_0 (zbt (σ 8) ((f : Nat) : Int)) (zbt_01 _ _)
      rcases zbt_01 (zxor (σ 9) (-1)) ((f : Nat) : Int) with w | w
      · have nz : zbt (σ 9) ((f : Nat) : Int) = 1 := by
          by_cases y : zbt (σ 9) ((f : Nat) : Int) = 1
          · exact y
          · rw [z2.mpr y] at w
            exact absurd w (by decide)
        rw [w, o1.1]
        exact ⟨Or.inl, fun z => z.elim id (fun y => absurd nz y.2)⟩
      · rw [w, o1.2.2.1]
        exact ⟨fun _ => Or.inr ⟨c, z2.mp w⟩, fun _ => rfl⟩)
    refine ⟨s', zb_13_0 (fun q => absurd (show σ 5 = -1 by rw [← q7]; exact q) (by clear hH hR hA hdf hg0 hGt hL u1 u2 rest loop hd0; omega)) (fun _ => zb_13_8 (fun q => absurd (show σ 4 < σ 5 by rw [← q7]; exact q) (by clear hH hR hA hdf hg0 hGt hL u1 u2 rest loop hd0; omega)) (fun _ => zb_13_13 (fun q => absurd q (by decide)) (fun _ => ?_))), u2⟩
    rw [hkl]
    refine zb_13_19 (zo_count hk.1 hk.2) ?_
    rw [q6, hpl]
    exact u1
  · obtain ⟨s', u1, u2⟩ := rest 0 (σ 8) (if_neg c).symm (fun f hf => by
      unfold zqt
      rw [s4, s5, s8, s9]
      exact ⟨Or.inl, fun z => z.elim id (fun y => absurd y.1 c)⟩)
    have fin : zA xm_c13 28 [237, l, zlan σ m n, 0, σ 4, t0 l 0, 0, 0, 0, 0, 0, 0, 0, 0, 0] [] t0 (zfs (zhx T) n, s') := by
      rw [hkl]
      refine zb_13_28 (zo_count hk.1 hk.2) ?_
      rw [hpl]
      exact u1
    by_cases d : σ 5 = -1
    · exact ⟨s', zb_13_0 (fun _ => zb_13_15 (fun _ => fin) (fun q => absurd rfl q)) (fun q => absurd (by rw [q7]; exact d) q), u2⟩
    · have d2 : σ 4 < σ 5 := by
        have := hGt.1
        clear hH hR hA hdf hg0 hL u1 u2 rest loop hd0 fin
        omega
      exact ⟨s', zb_13_0 (fun q => absurd (by rw [← q7]; exact q) d) (fun _ => zb_13_8 (fun _ => zb_13_15 (fun _ => fin) (fun q => absurd rfl q)) (fun q => absurd (by rw [q7]; exact d2) q)), u2⟩
end GT
