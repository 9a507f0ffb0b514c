/-! a bell's tellings in the class, all of them -/
section GS
variable {bB : Int}
variable {t0 t : zS} {σ T : Int → Int} {n m : Nat} {l F f K x6 Q x9 x10 x11 x12 x13 x14 : Int} {U : (Int → Int) → Int}
theorem zo_persons (hg : zRg bB t0 σ n m l F U) (hT : T = zto (zsA σ m n) (zfs (zvD σ m) n) n F U) (hf0 : 0 ≤ f) (hf8 : f ≤ 8) : ∀ (k p : Nat) (t : zS) (x14 : Int), p + k = n → zFrg t0 t l σ n m → t 238 2 = f → t 238 7 = zct (zpnd σ m f) n - 2 → zLd t l (zsA σ m n) n T (σ 4) (zdP σ m T f p) → ∃ t' x14', (∀ R, zA xm_c13 126 [237, l, zlan σ m n, 0, σ 4, K, x6, Q, f, zfs (zpnd σ m f) n, zfs (zHe σ n m f) n, (if zqt (zsA σ m n) f then 0 else zfs (zteT σ n m f) n), zcal σ n m f, ((n : Nat) : Int), x14'] [] t' R → zA xm_c13 126 [237, l, zlan σ m n, 0, σ 4, K, x6, Q, f, zfs (zpnd σ m f) n, zfs (zHe σ n m f) n, (if zqt (zsA σ m n) f then 0 else zfs (zteT σ n m f) n), zcal σ n m f, ((p : Nat) : Int), x14] [] t R) ∧ zFrg t0 t' l σ n m ∧ zLd t' l (zsA σ m n) n T (σ 4) (zdP σ m T f n)
  | 0, p, t, x14, hp, h1, h2, h3, h4 => by
    have e : p = n := by omega
    subst e
    exact ⟨t, x14, fun R z => z, h1, h4⟩
  | k + 1, p, t, x14, hp, h1, h2, h3, h4 => by
    obtain ⟨t1, y, a1, a2, a3, a4, a5⟩ := zo_person (K := K) (x6 := x6) (Q := Q) (x14 := x14) hg hT hf0 hf8 (show p < n by omega) h1 h2 h3 h4
    obtain ⟨t2, y2, b1, b2⟩ := zo_persons hg hT hf0 hf8 k (p + 1) t1 y (by omega) a2 a3 a4 a5
    exact ⟨t2, y2, fun R z => a1 R (b1 R z), b2⟩
theorem zfo_eq {P Q : Nat → Prop} [DecidablePred P] [DecidablePred Q] {n : Nat} (h : ∀ k, k < n → (P k ↔ Q k)) : zfs P n = zfs Q n := zfo_congr n h
/-- one floor -/
theorem zo_floor {fn : Nat} (hg : zRg bB t0 σ n m l F U) (hT : T = zto (zsA σ m n) (zfs (zvD σ m) n) n F U) (hf : ((fn : Nat) : Int) < σ 0) (hQ : ∀ f : Nat, f < 9 → (zbt Q ((f : Nat) : Int) = 1 ↔ zqt (zsA σ m n) ((f : Nat) : Int))) (hfr : zFrg t0 t l σ n m) (hd : zLd t l (zsA σ m n) n T (σ 4) (zdP σ m T ((fn : Nat) : Int) 0)) : ∃ t' y9 y10 y11 y12 y13 y14, (∀ R, zA xm_c13 55 [237, l, zlan σ m n, 0, σ 4, zfs (zkn (zsA σ m n)) n, x6, Q, ((fn + 1 : Nat) : Int), y9, y10, y11, y12, y13, y14] [] t' R → zA xm_c13 55 [237, l, zlan σ m n, 0, σ 4, zfs (zkn (zsA σ m n)) n, x6, Q, ((fn : Nat) : Int), x9, x10, x11, x12, x13, x14] [] t R) ∧ zFrg t0 t' l σ n m ∧ zLd t' l (zsA σ m n) n T (σ 4) (zdP σ m T ((fn + 1 : Nat) : Int) 0) := by
  have hg0 := hg
  obtain ⟨hG, hGt, hH, hR, ⟨hpl, hdf⟩, hA, l0, l1⟩ := hg
  obtain ⟨⟨g1, h7, g3, g4, g5, g6, g7, g8, g9⟩, -, -⟩ := hG
  have f0 : 0 ≤ ((fn : Nat) : Int) := Int.natCast_nonneg fn
  have f8 : ((fn : Nat) : Int) ≤ 8 := by clear hH hR hA hdf hfr hd hg0 hQ hGt; omega
  have f9 : fn < 9 := by clear hH hR hA hdf hfr hd hg0 hQ hGt; omega
  have e2 : zw (((fn : Nat) : Int) + 1) = ((fn + 1 : Nat) : Int) := zw_id (by clear hH hR hA hdf hfr hd hg0 hQ hGt; omega) (by clear hH hR hA hdf hfr hd hg0 hQ hGt; omega)
  have t11 : ∀ j, t (237 + (-226)) j = t0 11 j := fun j => by
    show t 11 j = _
    rw [hfr.1 11 (by decide) (by decide) (by clear hH hR hA hdf hfr hd hg0 hQ hGt; omega)]
  have lt : ((fn : Nat) : Int) < t (237 + (-226)) 0 := by
    rw [t11, hH.1.1]
    exact hf
  -- nobody on this floor hears it
  have skip : (∀ q : Nat, q < n → zvA σ m ((q : Nat) : Int) = ((fn : Nat) : Int) → T ((q : Nat) : Int) < 0) → ∀ t1 : zS, zLd t1 l (zsA σ m n) n T (σ 4) (zdP σ m T ((fn : Nat) : Int) 0) → zLd t1 l (zsA σ m n) n T (σ 4) (zdP σ m T ((fn + 1 : Nat) : Int) 0) := fun h t1 h1 => zLd_iff h1 (fun q hq => by
    have hq2 := h q hq
    have ecast : ((fn + 1 : Nat) : Int) = ((fn : Nat) : Int) + 1 := rfl
    unfold zdP
    refine ⟨fun z => ⟨z.1, ?_⟩, fun z => ⟨z.1, ?_⟩⟩
    · rcases z.2 with y | y
      · rcases Int.lt_or_le (zvA σ m ((q : Nat) : Int)) ((fn : Nat) : Int) with w | w
        · exact Or.inl w
        · exact absurd (hq2 (by rw [ecast] at y; exact Int.le_antisymm (Int.lt_add_one_iff.mp y) w)) z.1
      · exact absurd y.2 (Nat.not_lt_zero q)
    · rcases z.2 with y | y
      · exact Or.inl (by rw [ecast]; exact Int.lt_add_one_iff.mpr (Int.le_of_lt y))
      · exact absurd y.2 (Nat.not_lt_zero q))
  -- when all persons are through, the floor is
  have through : ∀ t1 : zS, zLd t1 l (zsA σ m n) n T (σ 4) (zdP σ m T ((fn : Nat) : Int) n) → zLd t1 l (zsA σ m n) n T (σ 4) (zdP σ m T ((fn + 1 : Nat) : Int) 0) := fun t1 h1 => zLd_iff h1 (fun q hq => by
    have ecast : ((fn + 1 : Nat) : Int) = ((fn : Nat) : Int) + 1 := rfl
    unfold zdP
    refine ⟨fun z => ⟨z.1, ?_⟩, fun z => ⟨z.1, Or.inl ?_⟩⟩
    · rcases z.2 with y | y
      · rcases Int.lt_or_le (zvA σ m ((q : Nat) : Int)) ((fn : Nat) : Int) with w | w
        · exact Or.inl w
        · exact Or.inr ⟨by rw [ecast] at y; exact Int.le_antisymm (Int.lt_add_one_iff.mp y) w, hq⟩
      · exact absurd y.2 (Nat.not_lt_zero q)
    · rw [ecast]
      rcases z.2 with y | y
      · exact Int.lt_add_one_iff.mpr (Int.le_of_lt y)
      · exact Int.lt_add_one_iff.mpr (Int.le_of_eq y.1))
  have ep : zpeo (zlan σ m n) ((fn : Nat) : Int) = zfs (zpnd σ m ((fn : Nat) : Int)) n := zpeo_lan f0 f8 n h7 (fun p hp => ⟨(hA p hp).1, by have := (hA p hp).2; clear hH hR hA hdf hfr hd hg0 hQ hGt skip through; omega⟩)
  have cpeo : ∀ (x : Int) (z : zS), zE xm_c14 [zlan σ m n, 0, x] z (zpeo (zlan σ m n) x) z := fun x z => zb_14_0 rfl
  have t3 : t 237 3 = t0 237 3 := by rw [hfr.1 237 (by decide) (by decide) (by clear hH hR hA hdf hfr hd hg0 hQ hGt skip through; omega)]
  have ek : ∀ p, p < n → (zbt (zxor (zfs (zkn (zsA σ m n)) n) (-1)) ((p : Nat) : Int) = 1 ↔ ¬ zkn (zsA σ m n) p) := fun p hp => by
    rw [zbt_not (by clear hH hR hA hdf hfr hd hg0 hQ hGt skip through; omega), zbt_fo1 hp (by clear hH hR hA hdf hfr hd hg0 hQ hGt skip through; omega)]
  have eh : zand (zand (zpeo (zlan σ m n) ((fn : Nat) : Int)) (zxor (zfs (zkn (zsA σ m n)) n) (-1))) (zxor (t 237 3) (-1)) = zfs (zHe σ n m ((fn : Nat) : Int)) n := by
    rw [ep, zfo_and (Q := fun p => zpnd σ m ((fn : Nat) : Int) p ∧ ¬ zkn (zsA σ m n) p) n (by clear hH hR hA hdf hfr hd hg0 hQ hGt skip through; omega) (fun p hp => by rw [ek p hp]), t3]
    refine zfo_and n (by clear hH hR hA hdf hfr hd hg0 hQ hGt skip through; omega) (fun p hp => ?_)
    rw [zbt_not (by clear hH hR hA hdf hfr hd hg0 hQ hGt skip through; omega), hdf p hp] <;> rfl
  have to63 : ∀ R, zA xm_c13 63 [237, l, zlan σ m n, 0, σ 4, zfs (zkn (zsA σ m n)) n, x6, Q, ((fn : Nat) : Int), x9, x10, x11, x12, x13, x14] [(false, zpeo (zlan σ m n) ((fn : Nat) : Int))] t R → zA xm_c13 55 [237, l, zlan σ m n, 0, σ 4, zfs (zkn (zsA σ m n)) n, x6, Q, ((fn : Nat) : Int), x9, x10, x11, x12, x13, x14] [] t R := fun R z => zb_13_55 (fun _ => zb_13_60 (cpeo _ t) z) (fun q => absurd lt q)
  by_cases c1 : zfs (zHe σ n m ((fn : Nat) : Int)) n = 0
  · refine ⟨t, _, _, _, _, _, _, fun R z => to63 R (zb_13_63 (fun _ => zb_13_77 (by rw [e2]; exact z)) (fun q => absurd (by rw [eh]; exact c1) q)), hfr, skip (fun q hq hf2 => ?_) t hd⟩
    have no := (zfo_z (by clear hH hR hA hdf hfr hd hg0 hQ hGt skip through; omega)).mp c1 q hq
    rw [hT, zto_N hq h7]
    · decide
    · by_cases d1 : zvD σ m q
      · by_cases d2 : zkn (zsA σ m n) q
        · exact Or.inr (Or.inl d2)
        · refine Or.inr (Or.inr ?_)
          by_cases d3 : zpe σ ((q : Nat) : Int) 6 = 1
          · exact d3
          · exact absurd ⟨⟨⟨d1, hf2⟩, d2⟩, d3⟩ no
      · exact Or.inl d1
  have to78 : ∀ R, zA xm_c13 78 [237, l, zlan σ m n, 0, σ 4, zfs (zkn (zsA σ m n)) n, x6, Q, ((fn : Nat) : Int), zfs (zpnd σ m ((fn : Nat) : Int)) n, zfs (zHe σ n m ((fn : Nat) : Int)) n, x11, x12, x13, x14] [] t R → zA xm_c13 55 [237, l, zlan σ m n, 0, σ 4, zfs (zkn (zsA σ m n)) n, x6, Q, ((fn : Nat) : Int), x9, x10, x11, x12, x13, x14] [] t R := fun R z => to63 R (zb_13_63 (fun q => absurd (by have q : zand (zand (zpeo (zlan σ m n) ((fn : Nat) : Int)) (zxor (zfs (zkn (zsA σ m n)) n) (-1))) (zxor (t 237 3) (-1)) = 0 := q; rw [eh] at q; exact q) c1) (fun _ => by
    show zA xm_c13 78 [237, l, zlan σ m n, 0, σ 4, zfs (zkn (zsA σ m n)) n, x6, Q, ((fn : Nat) : Int), zpeo (zlan σ m n) ((fn : Nat) : Int), zand (zand (zpeo (zlan σ m n) ((fn : Nat) : Int)) (zxor (zfs (zkn (zsA σ m n)) n) (-1))) (zxor (t 237 3) (-1)), x11, x12, x13, x14] [] t R
    rw [eh, ep]
    exact z))
  -- the tellers and the callers
  have et : zand (zfs (zpnd σ m ((fn : Nat) : Int)) n) (zfs (zkn (zsA σ m n)) n) = zfs (zteT σ n m ((fn : Nat) : Int)) n := zfo_and n (by clear hH hR hA hdf hfr hd hg0 hQ hGt skip through; omega) (fun p hp => by rw [zbt_fo1 hp (by clear hH hR hA hdf hfr hd hg0 hQ hGt skip through; omega)] <;> rfl)
  have s00 : σ 0 ≠ 0 := fun q => by
    rw [q] at hf
    exact absurd f0 (Int.not_le.mpr hf)
  have s79 : t (237 + (-226)) 9 = σ 7 := by rw [t11]; exact (hH.1.2.2.2.2.2.2 s00).2
  have s68 : t (237 + (-226)) 8 = σ 6 := by rw [t11]; exact (hH.1.2.2.2.2.2.2 s00).1
  have call : ∀ (X : Int) R, (X = if zqt (zsA σ m n) ((fn : Nat) : Int) then 0 else zfs (zteT σ n m ((fn : Nat) : Int)) n) → (zor X (zcal σ n m ((fn : Nat) : Int)) = 0 → zA xm_c13 108 [237, l, zlan σ m n, 0, σ 4, zfs (zkn (zsA σ m n)) n, x6, Q, ((fn : Nat) : Int), zfs (zpnd σ m ((fn : Nat) : Int)) n, zfs (zHe σ n m ((fn : Nat) : Int)) n, X, zcal σ n m ((fn : Nat) : Int), x13, x14] [] t R) → (¬ zor X (zcal σ n m ((fn : Nat) : Int)) = 0 → zA xm_c13 109 [237, l, zlan σ m n, 0, σ 4, zfs (zkn (zsA σ m n)) n, x6, Q, ((fn : Nat) : Int), zfs (zpnd σ m ((fn : Nat) : Int)) n, zfs (zHe σ n m ((fn : Nat) : Int)) n, X, zcal σ n m ((fn : Nat) : Int), x13, x14] [] t R) → (((fn : Nat) : Int) = t (237 + (-226)) 9 → zA xm_c13 94 [237, l, zlan σ m n, 0, σ 4, zfs (zkn (zsA σ m n)) n, x6, Q, ((fn : Nat) : Int), zfs (zpnd σ m ((fn : Nat) : Int)) n, zfs (zHe σ n m ((fn : Nat) : Int)) n, X, x12, x13, x14] [] t R) ∧ (¬ ((fn : Nat) : Int) = t (237 + (-226)) 9 → zA xm_c13 102 [237, l, zlan σ m n, 0, σ 4, zfs (zkn (zsA σ m n)) n, x6, Q, ((fn : Nat) : Int), zfs (zpnd σ m ((fn : Nat) : Int)) n, zfs (zHe σ n m ((fn : Nat) : Int)) n, X, x12, x13, x14] [] t R) := fun X R _ z1 z2 => by
    refine ⟨fun q => ?_, fun q => ?_⟩
    · have q7 : ((fn : Nat) : Int) = σ 7 := q.trans s79
      have r6 : 0 ≤ σ 6 ∧ σ 6 ≤ 8 := by
        rcases hGt.2 s00 with h | h
        · have w := h.2
          rw [← q7] at w
          exact absurd f0 (by rw [w]; decide)
        · exact ⟨h.1.1, Int.lt_add_one_iff.mp (show σ 6 < 8 + 1 from Int.lt_of_lt_of_le h.1.2 g6)⟩
      have e6 : zpeo (zlan σ m n) (σ 6) = zfs (zpnd σ m (σ 6)) n := zpeo_lan r6.1 r6.2 n h7 (fun p hp => ⟨(hA p hp).1, by have := (hA p hp).2; clear hH hR hA hdf hfr hd hg0 hQ hGt skip through z1 z2 to63 to78 ek; omega⟩)
      have ec : zand (zpeo (zlan σ m n) (σ 6)) (zfs (zkn (zsA σ m n)) n) = zcal σ n m ((fn : Nat) : Int) := by
        unfold zcal
        rw [if_pos q7, e6]
        exact zfo_and n (by clear hH hR hA hdf hfr hd hg0 hQ hGt skip through z1 z2 to63 to78 ek; omega) (fun p hp => by rw [zbt_fo1 hp (by clear hH hR hA hdf hfr hd hg0 hQ hGt skip through z1 z2 to63 to78 ek; omega)] <;> rfl)
      refine zb_13_94 (r := zpeo (zlan σ m n) (σ 6)) (s1 := t) (by rw [s68]; exact cpeo _ t) (zb_13_99 (fun w => ?_) (fun w => ?_))
      · rw [ec] at w ⊢
        exact z1 w
      · rw [ec] at w ⊢
        exact z2 w
    · have ec : zcal σ n m ((fn : Nat) : Int) = 0 := if_neg (fun w => q (w.trans s79.symm))
      rw [ec] at z1 z2
      exact zb_13_102 z1 z2
  have to108 : ∀ R, (zor (if zqt (zsA σ m n) ((fn : Nat) : Int) then 0 else zfs (zteT σ n m ((fn : Nat) : Int)) n) (zcal σ n m ((fn : Nat) : Int)) = 0 → zA xm_c13 108 [237, l, zlan σ m n, 0, σ 4, zfs (zkn (zsA σ m n)) n, x6, Q, ((fn : Nat) : Int), zfs (zpnd σ m ((fn : Nat) : Int)) n, zfs (zHe σ n m ((fn : Nat) : Int)) n, (if zqt (zsA σ m n) ((fn : Nat) : Int) then 0 else zfs (zteT σ n m ((fn : Nat) : Int)) n), zcal σ n m ((fn : Nat) : Int), x13, x14] [] t R) → (¬ zor (if zqt (zsA σ m n) ((fn : Nat) : Int) then 0 else zfs (zteT σ n m ((fn : Nat) : Int)) n) (zcal σ n m ((fn : Nat) : Int)) = 0 → zA xm_c13 109 [237, l, zlan σ m n, 0, σ 4, zfs (zkn (zsA σ m n)) n, x6, Q, ((fn : Nat) : Int), zfs (zpnd σ m ((fn : Nat) : Int)) n, zfs (zHe σ n m ((fn : Nat) : Int)) n, (if zqt (zsA σ m n) ((fn : Nat) : Int) then 0 else zfs (zteT σ n m ((fn : Nat) : Int)) n), zcal σ n m ((fn : Nat) : Int), x13, x14] [] t R) → zA xm_c13 55 [237, l, zlan σ m n, 0, σ 4, zfs (zkn (zsA σ m n)) n, x6, Q, ((fn : Nat) : Int), x9, x10, x11, x12, x13, x14] [] t R := fun R z1 z2 => to78 R (zb_13_78 zo_bit (by
    by_cases d : zqt (zsA σ m n) ((fn : Nat) : Int)
    · have dq := (hQ fn f9).mpr d
      rw [if_pos d] at z1 z2
      obtain ⟨k1, k2⟩ := call 0 R (if_pos d).symm z1 z2
      exact zb_13_81 (fun _ => zb_13_83 k1 k2) (fun q => absurd dq q)
    · have dq : ¬ zbt Q ((fn : Nat) : Int) = 1 := fun q => d ((hQ fn f9).mp q)
      rw [if_neg d] at z1 z2
      obtain ⟨k1, k2⟩ := call _ R (if_neg d).symm z1 z2
      refine zb_13_81 (fun q => absurd q dq) (fun _ => zb_13_85 (fun q => ?_) (fun q => ?_))
      · rw [et]
        exact k1 q
      · rw [et]
        exact k2 q))
  by_cases c2 : zor (if zqt (zsA σ m n) ((fn : Nat) : Int) then 0 else zfs (zteT σ n m ((fn : Nat) : Int)) n) (zcal σ n m ((fn : Nat) : Int)) = 0
  · refine ⟨t, _, _, _, _, _, _, fun R z => to108 R (fun _ => zb_13_108 (by rw [e2]; exact z)) (fun q => absurd c2 q), hfr, skip (fun q hq hf2 => ?_) t hd⟩
    have nn : ∀ m : Nat, n = m → (0 ≤ (if zqt (zsA σ m n) ((fn : Nat) : Int) then (0 : Int) else 0)) := fun m _ => by
      by_cases y : zqt (zsA σ m n) ((fn : Nat) : Int)
      · rw [if_pos y]; decide
      · rw [if_neg y]; decide
    have zz : ∀ P Q : Nat → Prop, ∀ [DecidablePred P] [DecidablePred Q], zor (zfs P n) (zfs Q n) = 0 → zfs P n = 0 ∧ zfs Q n = 0 := fun P Q _ _ h => by
      obtain ⟨p0, p1⟩ := zfo_r (P := P) n h7
      obtain ⟨q0, q1⟩ := zfo_r (P := Q) n h7
      obtain ⟨a, ha⟩ := Int.eq_ofNat_of_zero_le p0
      obtain ⟨b, hb⟩ := Int.eq_ofNat_of_zero_le q0
      have h31 : (2 : Nat) ^ 31 = 2147483648 := by decide
      rw [ha, hb, zor_nat (by clear hH hR hA hdf hfr hd hg0 hQ hGt skip through to63 to78 ek call to108; omega) (by clear hH hR hA hdf hfr hd hg0 hQ hGt skip through to63 to78 ek call to108; omega)] at h
      have h' : a ||| b = 0 := by
        have h := h
        exact Int.ofNat.inj h
      have := Nat.or_eq_zero_iff.mp h'
      rw [ha, hb, this.1, this.2]
      exact ⟨rfl, rfl⟩
    have c3 : (if zqt (zsA σ m n) ((fn : Nat) : Int) then 0 else zfs (zteT σ n m ((fn : Nat) : Int)) n) = 0 ∧ zcal σ n m ((fn : Nat) : Int) = 0 := by
      have e0 : (0 : Int) = zfs (fun _ => False) n := ((zfo_z (P := fun _ => False) (by clear hH hR hA hdf hfr hd hg0 hQ hGt skip through to63 to78 ek call to108; omega)).mpr (fun _ _ => id)).symm
      unfold zcal at c2 ⊢
      by_cases y : zqt (zsA σ m n) ((fn : Nat) : Int)
      · rw [if_pos y] at c2 ⊢
        refine ⟨rfl, ?_⟩
        by_cases w : ((fn : Nat) : Int) = σ 7
        · rw [if_pos w] at c2 ⊢
          exact (zz (fun _ => False) _ ((congrArg (fun v => zor v _) e0).symm.trans c2)).2
        · exact if_neg w
      · rw [if_neg y] at c2 ⊢
        by_cases w : ((fn : Nat) : Int) = σ 7
        · rw [if_pos w] at c2 ⊢
          exact zz _ _ c2
        · rw [if_neg w] at c2 ⊢
          rw [zfo_00] at c2
          exact ⟨c2, rfl⟩
    by_cases k : zHe σ n m ((fn : Nat) : Int) q
    · obtain ⟨⟨kf, kk⟩, kd⟩ := k
      rw [hT, zto_H hq h7 kf kk kd, zbk_cal hg0.1 hGt f0 hq kf, if_pos c3.2]
      have w : zfi (fun a => zte (zsA σ m n) (zfs (zvD σ m) n) n F U ((a : Nat) : Int) ((q : Nat) : Int)) n 0 = -1 := zfi_none n 0 (fun j _ hj => zte_no hg0.1 (by clear hH hR hA hdf hfr hd hg0 hQ hGt skip through to63 to78 ek call to108; omega) hq kf (by
        by_cases y : zqt (zsA σ m n) ((fn : Nat) : Int)
        · exact Or.inl y
        · have c4 := c3.1
          rw [if_neg y] at c4
          exact Or.inr ((zfo_z (by clear hH hR hA hdf hfr hd hg0 hQ hGt skip through to63 to78 ek call to108; omega)).mp c4 j (by clear hH hR hA hdf hfr hd hg0 hQ hGt skip through to63 to78 ek call to108; omega))))
      rw [w]
      decide
    · rw [hT, zto_N hq h7]
      · decide
      · by_cases d1 : zvD σ m q
        · by_cases d2 : zkn (zsA σ m n) q
          · exact Or.inr (Or.inl d2)
          · refine Or.inr (Or.inr ?_)
            by_cases d3 : zpe σ ((q : Nat) : Int) 6 = 1
            · exact d3
            · exact absurd ⟨⟨⟨d1, hf2⟩, d2⟩, d3⟩ k
        · exact Or.inl d1
  · have hr := zfo_r (P := zpnd σ m ((fn : Nat) : Int)) n h7
    have hc := zct_r (P := zpnd σ m ((fn : Nat) : Int)) n
    have ew : zw (zbc (zfs (zpnd σ m ((fn : Nat) : Int)) n) - 2) = zct (zpnd σ m ((fn : Nat) : Int)) n - 2 := by
      rw [zbc_fo h7]
      exact zw_id (by clear hH hR hA hdf hfr hd hg0 hQ hGt skip through to63 to78 ek call to108; omega) (by clear hH hR hA hdf hfr hd hg0 hQ hGt skip through to63 to78 ek call to108; omega)
    have fr2 : zFrg t0 (zu (zu t 238 2 ((fn : Nat) : Int)) 238 7 (zct (zpnd σ m ((fn : Nat) : Int)) n - 2)) l σ n m := ⟨fun x x1 x2 x3 => by
      rw [← hfr.1 x x1 x2 x3]
      exact funext (fun y => by rw [zu_cell x1, zu_cell x1]), by rw [zu_place (by decide), zu_place (by decide)]; exact hfr.2.1, by rw [zu_place (by decide), zu_place (by decide)]; exact hfr.2.2.1, by rw [zu_place (by decide), zu_place (by decide)]; exact hfr.2.2.2⟩
    have ld2 : zLd (zu (zu t 238 2 ((fn : Nat) : Int)) 238 7 (zct (zpnd σ m ((fn : Nat) : Int)) n - 2)) l (zsA σ m n) n T (σ 4) (zdP σ m T ((fn : Nat) : Int) 0) := by
      have r : ∀ j : Int, 0 ≤ j → j ≤ 3 → zu (zu t 238 2 ((fn : Nat) : Int)) 238 7 (zct (zpnd σ m ((fn : Nat) : Int)) n - 2) (l + j) = t (l + j) := fun j j0 j1 => funext (fun y => by rw [zu_cell (by clear hH hR hA hdf hfr hd hg0 hQ hGt skip through to63 to78 ek call to108; omega), zu_cell (by clear hH hR hA hdf hfr hd hg0 hQ hGt skip through to63 to78 ek call to108; omega)])
      have r0 := r 0 (by decide) (by decide)
      rw [Int.add_zero] at r0
      unfold zLd
      rw [r0, r 1 (by decide) (by decide), r 2 (by decide) (by decide), r 3 (by decide) (by decide)]
      exact hd
    obtain ⟨t', y14, a1, a2, a3⟩ := zo_persons (K := zfs (zkn (zsA σ m n)) n) (x6 := x6) (Q := Q) hg0 hT f0 f8 n 0 (zu (zu t 238 2 ((fn : Nat) : Int)) 238 7 (zct (zpnd σ m ((fn : Nat) : Int)) n - 2)) x14 (Nat.zero_add n) fr2 (by rw [zu_place (by decide), zu_hit]) zu_hit ld2
    have t11' : t' (237 + (-226)) 1 = ((n : Nat) : Int) := by
      show t' 11 1 = _
      rw [a2.1 11 (by decide) (by decide) (by clear hH hR hA hdf hfr hd hg0 hQ hGt skip through to63 to78 ek call to108 a1 a2 a3; omega), hH.1.2.1, g1]
    refine ⟨t', zfs (zpnd σ m ((fn : Nat) : Int)) n, zfs (zHe σ n m ((fn : Nat) : Int)) n, (if zqt (zsA σ m n) ((fn : Nat) : Int) then 0 else zfs (zteT σ n m ((fn : Nat) : Int)) n), zcal σ n m ((fn : Nat) : Int), ((n : Nat) : Int), y14, fun R z => to108 R (fun q => absurd q c2) (fun _ => zb_13_109 (s1 := zu t 238 2 ((fn : Nat) : Int)) (zo_count (s := zu t 238 2 ((fn : Nat) : Int)) hr.1 hr.2) (zb_13_120 ?_)), a2, through t' a3⟩
    rw [ew]
    exact a1 R (zb_13_126 (fun q => absurd q (by rw [t11']; exact Int.lt_irrefl _)) (fun _ => zb_13_174 (by rw [e2]; exact z)))
end GS
