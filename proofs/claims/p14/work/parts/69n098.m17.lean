/-! silence, on both sides -/
/-- that silence may be asked so -/
def zcsl (σ : Int → Int) (x a y : Int) : Prop := (0 ≤ x ∧ x < σ 1) ∧ (1 ≤ a ∧ a ≤ 60) ∧ (0 ≤ y ∧ y ≤ 1)
section MS
variable {bB : Int} {σ τ : Int → Int} {n m K : Nat} {F : Int} {U : (Int → Int) → Int} {s t : zS} {a b x y c v : Int} {p q : Nat}
theorem zal_p (h7 : n ≤ 7) (hp : p < n) (hq : q < 7) (hk : c = zfs (zkn σ) n) : zbt (zand (zand (zw (zshl 1 ((n : Nat) : Int) - 1)) (zxor c (-1))) (zxor (zshl 1 ((p : Nat) : Int)) (-1))) ((q : Nat) : Int) = 1 ↔ q < n ∧ ¬ zkn σ q ∧ ¬ q = p := by
  have q16 : q < 16 := Nat.lt_trans hq (by decide)
  rw [zbt_and1, zbt_and1, zbt_not q16, zbt_not q16, zbt_shl (by omega) q16]
  have e : ¬ (if p = q then (1 : Int) else 0) = 1 ↔ ¬ q = p := by
    by_cases d : p = q
    · rw [if_pos d]
      exact ⟨fun z => absurd rfl z, fun z => absurd d.symm z⟩
    · rw [if_neg d]
      exact ⟨fun _ z => d z.symm, fun _ => by decide⟩
  rw [e]
  by_cases qn : q < n
  · have a1 : zbt (zw (zshl 1 ((n : Nat) : Int) - 1)) ((q : Nat) : Int) = 1 := zall_b ⟨n, by omega⟩ ⟨q, by omega⟩ qn
    have a3 : zbt c ((q : Nat) : Int) = 1 ↔ zkn σ q := by
      rw [hk]
      exact zbt_fo1 qn (by omega)
    rw [a3]
    exact ⟨fun z => ⟨qn, z.1.2, z.2⟩, fun z => ⟨⟨a1, z.2.1⟩, z.2.2⟩⟩
  · have a1 : ¬ zbt (zw (zshl 1 ((n : Nat) : Int) - 1)) ((q : Nat) : Int) = 1 := zall_0 ⟨n, by omega⟩ ⟨q, by omega⟩ (Nat.not_lt.mp qn)
    exact ⟨fun z => absurd z.1.1 a1, fun z => absurd z.1 qn⟩
theorem zsl_d (H : zGs bB σ n m) (hp : p < n) (hk : c = zfs (zkn σ) n) (h : zBs (zsP σ n m F U K p) (zand (zand (zw (zshl 1 ((n : Nat) : Int) - 1)) (zxor c (-1))) (zxor (zshl 1 ((p : Nat) : Int)) (-1))) 128 v) : zBs (zsP σ n m F U K p) (zfs (zuq1 σ p) n) 128 v := by
  have h7 := H.1.2.1
  have r6 : ∀ q : Nat, q < n → zpe σ ((q : Nat) : Int) 6 = 0 ∨ zpe σ ((q : Nat) : Int) 6 = 1 := fun q hq => (H.2.1 q hq).2.2.2.2.2.2.2.1
  have bz : ∀ q : Nat, q < 7 → (zbt (zfs (zuq1 σ p) n) ((q : Nat) : Int) = 1 ↔ q < n ∧ zuq1 σ p q) := fun q hq => by
    rw [zbt_fo (Nat.lt_trans hq (by decide)) n (by omega)]
    by_cases d : q < n ∧ zuq1 σ p q
    · rw [if_pos d]
      exact ⟨fun _ => d, fun _ => rfl⟩
    · rw [if_neg d]
      exact ⟨fun z => absurd z (by decide), fun z => absurd z d⟩
  refine zBs_d h (fun w hw z => (zsb_b hw).mpr (fun q hq e => ?_)) (fun w hw z P => ?_)
  · obtain ⟨d1, d2⟩ := (bz q hq).mp ((zsb_b hw).mp z q hq e)
    exact (zal_p h7 hp hq hk).mpr ⟨d1, d2.1.1, d2.2⟩
  · have cr := zfo_r (P := fun q => zbt ((w : Nat) : Int) ((q : Nat) : Int) = 1 ∧ ¬ zpe σ ((q : Nat) : Int) 6 = 1) 7 (Nat.le_refl 7)
    obtain ⟨w', hw'⟩ := Int.eq_ofNat_of_zero_le cr.1
    have w7 : w' < 128 := by
      have d := cr.2
      rw [hw'] at d
      clear h bz r6 z P
      omega
    have bw : ∀ q : Nat, q < 7 → (zbt ((w' : Nat) : Int) ((q : Nat) : Int) = 1 ↔ zbt ((w : Nat) : Int) ((q : Nat) : Int) = 1 ∧ ¬ zpe σ ((q : Nat) : Int) 6 = 1) := fun q hq => by
      rw [← hw']
      exact zbt_fo1 hq (by decide)
    refine ⟨w', w7, (zsb_b w7).mpr (fun q hq e => ?_), ?_, ?_⟩
    · obtain ⟨d1, d2⟩ := (bw q hq).mp e
      obtain ⟨d3, d4, d5⟩ := (zal_p h7 hp hq hk).mp ((zsb_b hw).mp z q hq d1)
      exact (bz q hq).mpr ⟨d3, ⟨d4, (r6 q d3).resolve_right d2⟩, d5⟩
    · have e : zdfs σ ((w' : Nat) : Int) n = zdfs σ ((w : Nat) : Int) n := zdfs_c n (fun q hq => by
        by_cases d : zpe σ ((q : Nat) : Int) 6 = 1
        · exact Or.inr d
        · have z := bw q (Nat.lt_of_lt_of_le hq h7)
          exact Or.inl ⟨fun g => (z.mp g).1, fun g => z.mpr ⟨g, d⟩⟩)
      unfold zsP at P ⊢
      rw [e]
      exact P
    · have le := zsb_le w7 hw ((zsb_b w7).mpr (fun q hq e => ((bw q hq).mp e).1))
      have lc : zbc ((w' : Nat) : Int) ≤ zbc ((w : Nat) : Int) := zct_m 7 (fun q hq e => ((bw q hq).mp e).1)
      unfold zky
      clear h bz r6 z P bw cr hw'
      omega
theorem zB_110 {G : Nat} {R : Int × zS} (hD : zgD bB s n m) (hC : -1 ≤ s 10 6 ∧ s 10 6 < s 7 8) (uC : ∀ z : zS, (∀ x, 240 ≤ x → x ≤ 263 → z x = s x) → z 237 1 = (if s 10 6 < 0 then -1 else 240 + 4 * s 10 6) → zRc z (s 10 6) U) (h : bB + 100 ≤ 999) (e0 : zG G xm_c110 0 [7, x, a, y] [] s R) : (¬ zcsl (s 354) x a y → R.1 = -1) ∧ (zcsl (s 354) x a y → ∃ v, zBs (zsP (s 354) n m (s 10 6) U a.toNat x.toNat) (zfs (zuq1 (s 354) x.toNat) n) 128 v ∧ R.1 = zso v y) := by
  have h1 : s 11 1 = s 354 1 := hD.1.1.1.2.1
  have gn : s 354 1 = ((n : Nat) : Int) := hD.2.1.1.1
  have out : ∀ F1, ¬ zcsl (s 354) x a y → zG F1 xm_c110 12 [7, x, a, y] [] s R → (¬ zcsl (s 354) x a y → R.1 = -1) ∧ (zcsl (s 354) x a y → ∃ v, zBs (zsP (s 354) n m (s 10 6) U a.toNat x.toNat) (zfs (zuq1 (s 354) x.toNat) n) 128 v ∧ R.1 = zso v y) := fun F1 no e1 => by
    rw [zi_110_12 e1]
    exact ⟨fun _ => rfl, fun q => absurd q no⟩
  obtain ⟨F1, l1, r1, s1, q1, e1⟩ := zi_110_0 e0
  obtain ⟨rfl, rfl⟩ := zdet q1 (zo_hasP (h := 11))
  rw [h1] at e1
  by_cases c0 : 0 ≤ x ∧ x < s 354 1
  case neg =>
    rw [if_neg c0] at e1
    obtain ⟨F2, l2, ⟨c2, e2⟩ | ⟨c2, e2⟩⟩ := zi_110_5 e1
    · exact out F2 (fun q => c0 q.1) e2
    · exact absurd rfl c2
  rw [if_pos c0] at e1
  obtain ⟨F2, l2, ⟨c2, e2⟩ | ⟨c2, e2⟩⟩ := zi_110_5 e1
  · exact absurd c2 (by decide)
  obtain ⟨F6, l6, r6, s6, q6, e6⟩ := zi_110_6 e2
  have k3 := zB_121 q6
  injection k3 with k31 k32
  subst k31
  have k33 := k32.symm
  subst k33
  by_cases c1 : 1 ≤ a ∧ a ≤ 60
  case neg =>
    rw [if_neg c1] at e6
    obtain ⟨F7, l7, ⟨c7, e7⟩ | ⟨c7, e7⟩⟩ := zi_110_8 e6
    · exact out F7 (fun q => c1 q.2.1) e7
    · exact absurd rfl c7
  rw [if_pos c1] at e6
  obtain ⟨F7, l7, ⟨c7, e7⟩ | ⟨c7, e7⟩⟩ := zi_110_8 e6
  · exact absurd c7 (by decide)
  obtain ⟨F8, l8, r8, s8, q8, e8⟩ := zi_110_9 e7
  obtain ⟨rfl, rfl⟩ := zdet q8 zo_either
  by_cases cy : 0 ≤ y ∧ y ≤ 1
  case neg =>
    rw [if_neg cy] at e8
    obtain ⟨F9, l9, ⟨c9, e9⟩ | ⟨c9, e9⟩⟩ := zi_110_11 e8
    · exact out F9 (fun q => cy q.2.2) e9
    · exact absurd rfl c9
  rw [if_pos cy] at e8
  obtain ⟨F9, l9, ⟨c9, e9⟩ | ⟨c9, e9⟩⟩ := zi_110_11 e8
  · exact absurd c9 (by decide)
  refine ⟨fun no => absurd ⟨c0, c1, cy⟩ no, fun _ => ?_⟩
  obtain ⟨K, rfl⟩ := Int.eq_ofNat_of_zero_le (Int.le_trans (by decide) c1.1)
  obtain ⟨p, rfl⟩ := Int.eq_ofNat_of_zero_le c0.1
  have hK : K ≤ 100 := by
    have := c1.2
    clear e0 q1 e1 e2 e6 e7 e8 e9 q6 q8 uC out
    omega
  have hp : p < n := by
    have := c0.2
    clear e0 q1 e1 e2 e6 e7 e8 e9 q6 q8 uC out
    omega
  obtain ⟨F10, l10, r10, s10, q10, e10⟩ := zi_110_14 e9
  obtain ⟨rfl, rfl⟩ := zdet q10 (zo_rif hC.1 hC.2)
  obtain ⟨F11, l11, r11, s11, q11, e11⟩ := zi_110_18 e10
  obtain ⟨F12, l12, r12, s12, q12, e12⟩ := zi_110_19 e11
  have z := zB_47 hD uC hp hK h q11 q12
  have z : zBs (zsP (s 354) n m (s 10 6) U K p) (zand (zand (zw (zshl 1 ((n : Nat) : Int) - 1)) (zxor (s 24 0) (-1))) (zxor (zshl 1 ((p : Nat) : Int)) (-1))) 128 r12 := z
  have z2 := zsl_d hD.2.1 hp hD.1.2.2.1.1 z
  obtain ⟨F13, l13, r13, s13, q13, e13⟩ := zi_110_24 e12
  have k := zB_123 z2 q13
  rw [Int.toNat_natCast, Int.toNat_natCast]
  refine ⟨r12, z2, ?_⟩
  rw [zi_110_26 e13]
  exact k
theorem zB_226 {G : Nat} {R : Int × zS} {z : zS} (hG : zGs bB σ n m) (h : bB + 100 ≤ 999) (hU : ¬ F < 0 → zRu z F U) (hB : zJb σ F z t) (e0 : zG G xm_c226 0 [344, x, a, y, 0, 0, 0, 0] [] t R) : (¬ zcsl σ x a y → R.1 = -1) ∧ (zcsl σ x a y → ∃ v, zBs (zsP σ n m F U a.toNat x.toNat) (zfs (zuq1 σ x.toNat) n) 128 v ∧ R.1 = zso v y) := by
  have gn : σ 1 = ((n : Nat) : Int) := hG.1.1
  have h7 := hG.1.2.1
  have g : zJg σ F z n m U := ⟨hG.1.1, h7, hG.1.2.2.1, hG.1.2.2.2.1, hU⟩
  have ha := hB.1
  have out : ∀ F1, ¬ zcsl σ x a y → zG F1 xm_c226 16 [344, x, a, y, 0, 0, 0, 0] [] t R → (¬ zcsl σ x a y → R.1 = -1) ∧ (zcsl σ x a y → ∃ v, zBs (zsP σ n m F U a.toNat x.toNat) (zfs (zuq1 σ x.toNat) n) 128 v ∧ R.1 = zso v y) := fun F1 no e1 => by
    rw [zi_226_16 e1]
    exact ⟨fun _ => rfl, fun q => absurd q no⟩
  obtain ⟨F1, l1, r1, s1, q1, e1⟩ := zi_226_0 e0
  obtain ⟨rfl, rfl⟩ := zdet q1 zq_isP
  rw [ha] at e1
  by_cases c0 : 0 ≤ x ∧ x < σ 1
  case neg =>
    rw [if_neg c0] at e1
    obtain ⟨F2, l2, ⟨c2, e2⟩ | ⟨c2, e2⟩⟩ := zi_226_3 e1
    · exact out F2 (fun q => c0 q.1) e2
    · exact absurd rfl c2
  rw [if_pos c0] at e1
  obtain ⟨F2, l2, ⟨c2, e2⟩ | ⟨c2, e2⟩⟩ := zi_226_3 e1
  · exact absurd c2 (by decide)
  obtain ⟨F6, l6, r6, s6, q6, e6⟩ := zi_226_4 e2
  obtain ⟨rfl, rfl⟩ := zdet q6 (zr_in2 (lo := 1) (hi := 60))
  by_cases c1 : 1 ≤ a ∧ a ≤ 60
  case neg =>
    rw [if_neg c1] at e6
    obtain ⟨F7, l7, ⟨c7, e7⟩ | ⟨c7, e7⟩⟩ := zi_226_9 e6
    · exact out F7 (fun q => c1 q.2.1) e7
    · exact absurd rfl c7
  rw [if_pos c1] at e6
  obtain ⟨F7, l7, ⟨c7, e7⟩ | ⟨c7, e7⟩⟩ := zi_226_9 e6
  · exact absurd c7 (by decide)
  obtain ⟨F8, l8, r8, s8, q8, e8⟩ := zi_226_10 e7
  obtain ⟨rfl, rfl⟩ := zdet q8 (zr_in2 (lo := 0) (hi := 1))
  by_cases cy : 0 ≤ y ∧ y ≤ 1
  case neg =>
    rw [if_neg cy] at e8
    obtain ⟨F9, l9, ⟨c9, e9⟩ | ⟨c9, e9⟩⟩ := zi_226_15 e8
    · exact out F9 (fun q => cy q.2.2) e9
    · exact absurd rfl c9
  rw [if_pos cy] at e8
  obtain ⟨F9, l9, ⟨c9, e9⟩ | ⟨c9, e9⟩⟩ := zi_226_15 e8
  · exact absurd c9 (by decide)
  refine ⟨fun no => absurd ⟨c0, c1, cy⟩ no, fun _ => ?_⟩
  obtain ⟨K, rfl⟩ := Int.eq_ofNat_of_zero_le (Int.le_trans (by decide) c1.1)
  obtain ⟨pp, rfl⟩ := Int.eq_ofNat_of_zero_le c0.1
  have hK9 : bB + ((K : Nat) : Int) ≤ 999 := by
    have := c1.2
    clear e0 q1 e1 e2 e6 e7 e8 e9 q6 q8 hU g out
    omega
  have hpp : pp < n := by
    have := c0.2
    clear e0 q1 e1 e2 e6 e7 e8 e9 q6 q8 hU g out
    omega
  have pp6 : ((pp : Nat) : Int) ≤ 6 := by
    clear e0 q1 e1 e2 e6 e7 e8 e9 q6 q8 hU g out
    omega
  rw [Int.toNat_natCast, Int.toNat_natCast]
  obtain ⟨F10, l10, r10, s10, q10, e10⟩ := zi_226_18 e9
  have k3 := zB_213 h7 gn ha q10
  injection k3 with k31 k32
  subst k31
  have k33 := k32.symm
  subst k33
  have cr := zfo_r (P := zuq1 σ pp) n h7
  have ec : zand (zfs (zun σ) n) (zxor (zshl 1 ((pp : Nat) : Int)) (-1)) = zfs (zuq1 σ pp) n := zfo_and n (by omega) (fun q hq => by
    have q16 : q < 16 := Nat.lt_of_lt_of_le (Nat.lt_of_lt_of_le hq h7) (by decide)
    rw [zbt_not q16, zbt_shl (Nat.lt_of_lt_of_le (Nat.lt_of_lt_of_le hpp h7) (by decide)) q16]
    by_cases d : pp = q
    · rw [if_pos d]
      exact ⟨fun w => absurd d.symm w.2, fun w => absurd rfl w.2⟩
    · rw [if_neg d]
      exact ⟨fun w => ⟨w.1, by decide⟩, fun w => ⟨w.1, fun e => d e.symm⟩⟩)
  obtain ⟨cn, hcn⟩ := Int.eq_ofNat_of_zero_le cr.1
  have cn7 : cn < 128 := by
    have d := cr.2
    rw [hcn] at d
    clear e0 q1 e1 e2 e6 e7 e8 e9 e10 q6 q8 q10 hU g out ec
    omega
  obtain ⟨F11, l11, r11, s11, q11, e11⟩ := zi_226_20 e10
  rw [ec, hcn] at e11
  rw [hcn]
  obtain ⟨j1, j2⟩ := zJ_207 hB q11
  obtain ⟨F12, l12, e12⟩ := zi_226_31 e11
  have tell : ∀ (G p k : Nat) (best : Int) (st : zS) (R : Int × zS), p ≤ n → zJk σ F z st → st 354 = zdfs σ ((k : Nat) : Int) p → zG G xm_c226 52 [344, ((pp : Nat) : Int), ((K : Nat) : Int), y, ((cn : Nat) : Int), best, ((k : Nat) : Int), ((p : Nat) : Int)] [] st R → ∃ (F' : Nat) (st' : zS) (x8 : Int), F' ≤ G ∧ zJk σ F z st' ∧ st' 354 = zdfs σ ((k : Nat) : Int) n ∧ zG F' xm_c226 75 [344, ((pp : Nat) : Int), ((K : Nat) : Int), y, ((cn : Nat) : Int), best, ((k : Nat) : Int), x8] [] st' R := by
    intro G
    induction G using Nat.strongRecOn with
    | _ G ih =>
      intro p k best st R hp J a0 e0
      have st1 : st 354 1 = ((n : Nat) : Int) := J.2.1.2.1.trans gn
      obtain ⟨F1, l1, ⟨c1, e1⟩ | ⟨c1, e1⟩⟩ := zi_226_52 e0
      · have c1 : ((p : Nat) : Int) < st 354 1 := c1
        have pL : p < n := by
          rw [st1] at c1
          exact Int.ofNat_lt.mp c1
        have p6 : ((p : Nat) : Int) ≤ 6 := by
          clear ih c1 hU g J a0
          omega
        have en : zw (((p : Nat) : Int) + 1) = ((p + 1 : Nat) : Int) := by
          clear ih c1 hU g J a0
          exact zw_id (by omega) (by omega)
        have eS : zdfs σ ((k : Nat) : Int) (p + 1) = if zbt ((k : Nat) : Int) ((p : Nat) : Int) = 1 then zu1 (zdfs σ ((k : Nat) : Int) p) (10 + 11 * ((p : Nat) : Int) + 6) 1 else zdfs σ ((k : Nat) : Int) p := rfl
        obtain ⟨F2, l2, r2, s2, q2, e2⟩ := zi_226_58 e1
        obtain ⟨rfl, rfl⟩ := zdet q2 zq_is
        by_cases cb : zbt ((k : Nat) : Int) ((p : Nat) : Int) = 1
        · rw [if_pos cb] at e2
          obtain ⟨F3, l3, w3⟩ := zi_226_61 e2
          have e3 := (w3.resolve_left (fun q => absurd q.1 (by decide))).2
          obtain ⟨F4, l4, e4⟩ := zi_226_62 e3
          have J4 := zJk_up (v := 1) J (Int.natCast_nonneg p) p6 (k := 6) (by decide) (by decide)
          rw [zpp2 (Int.natCast_nonneg p) p6 (by decide) (by decide)] at e4 J4
          rw [en] at e4
          obtain ⟨F', st', x8, z1, z2⟩ := ih F4 (Nat.lt_trans l4 (Nat.lt_trans l3 (Nat.lt_trans l2 l1))) (p + 1) k best _ R pL J4 (by
            rw [eS, if_pos cb]
            funext i
            show zu st 354 _ _ 354 i = _
            rw [zu2, a0]
            rfl) e4
          exact ⟨F', st', x8, Nat.le_trans z1 (Nat.le_of_lt (Nat.lt_trans l4 (Nat.lt_trans l3 (Nat.lt_trans l2 l1)))), z2⟩
        · rw [if_neg cb] at e2
          obtain ⟨F3, l3, w3⟩ := zi_226_61 e2
          have e3 := (w3.resolve_right (fun q => absurd rfl q.1)).2
          have a4 : st 354 = zdfs σ ((k : Nat) : Int) (p + 1) := by
            rw [eS, if_neg cb, a0]
          obtain ⟨F5, l5, e5⟩ := zi_226_73 e3
          rw [en] at e5
          obtain ⟨F', st', x8, z1, z2⟩ := ih F5 (Nat.lt_trans l5 (Nat.lt_trans l3 (Nat.lt_trans l2 l1))) (p + 1) k best st R pL J a4 e5
          exact ⟨F', st', x8, Nat.le_trans z1 (Nat.le_of_lt (Nat.lt_trans l5 (Nat.lt_trans l3 (Nat.lt_trans l2 l1)))), z2⟩
      · have c1 : ¬ ((p : Nat) : Int) < st 354 1 := c1
        have pL : p = n := by
          rw [st1] at c1
          exact Nat.le_antisymm hp (Nat.not_lt.mp (fun q => c1 (Int.ofNat_lt.mpr q)))
        rw [pL] at a0 e1
        exact ⟨F1, st, _, Nat.le_of_lt l1, J, a0, e1⟩
  have loop : ∀ (G k : Nat) (best x8 : Int) (st : zS) (R : Int × zS), k ≤ 128 → zBs (zsP σ n m F U K pp) ((cn : Nat) : Int) k best → zJk σ F z st → st 354 = σ → zG G xm_c226 33 [344, ((pp : Nat) : Int), ((K : Nat) : Int), y, ((cn : Nat) : Int), best, ((k : Nat) : Int), x8] [] st R → ∃ v, zBs (zsP σ n m F U K pp) ((cn : Nat) : Int) 128 v ∧ R.1 = zso v y := by
    intro G
    induction G using Nat.strongRecOn with
    | _ G ih =>
      intro k best x8 st R hk hI J a0 e0
      obtain ⟨F1, l1, ⟨c1, e1⟩ | ⟨c1, e1⟩⟩ := zi_226_33 e0
      · have fin := zBs_end hI hk (fun w hw s => Nat.lt_of_le_of_lt (zsb_le hw cn7 s) (Int.ofNat_lt.mp c1))
        refine ⟨best, fin, ?_⟩
        unfold zso
        obtain ⟨F2, l2, ⟨c2, e2⟩ | ⟨c2, e2⟩⟩ := zi_226_88 e1
        · rw [zi_226_90 e2]
          rcases fin with ⟨z1, -⟩ | ⟨u, z1, z2, -⟩
          · rw [if_pos z1]
          · rw [z2] at c2
            exact absurd c2 (Int.not_lt.mpr (Int.natCast_nonneg u))
        · have nb : ¬ best = -2 := fun q => c2 (by rw [q]; decide)
          rw [if_neg nb]
          obtain ⟨F3, l3, ⟨c3, e3⟩ | ⟨c3, e3⟩⟩ := zi_226_92 e2
          · obtain ⟨F4, l4, r4, s4, q4, e4⟩ := zi_226_94 e3
            rcases fin with ⟨z1, -⟩ | ⟨u, z1, z2, -⟩
            · exact absurd z1 nb
            · obtain ⟨rfl, rfl⟩ := zdet q4 (zq_bits (Int.not_lt.mp c2) (by rw [z2]; exact zlt128 z1))
              rw [zi_226_96 e4, if_pos c3]
          · rw [zi_226_97 e3, if_neg c3]
      · have k8 : k < 128 := by
          clear ih hU g J a0 hI
          omega
        have en : zw (((k : Nat) : Int) + 1) = ((k + 1 : Nat) : Int) := by
          clear ih hU g J a0 hI
          exact zw_id (by omega) (by omega)
        have next : ∀ (F3 : Nat) (best' x8' : Int) (st' : zS), F3 < G → zBs (zsP σ n m F U K pp) ((cn : Nat) : Int) (k + 1) best' → zJk σ F z st' → st' 354 = σ → zG F3 xm_c226 86 [344, ((pp : Nat) : Int), ((K : Nat) : Int), y, ((cn : Nat) : Int), best', ((k : Nat) : Int), x8'] [] st' R → ∃ v, zBs (zsP σ n m F U K pp) ((cn : Nat) : Int) 128 v ∧ R.1 = zso v y := fun F3 best' x8' st' l3 hI' J' a' e3 => by
          obtain ⟨F4, l4, e4⟩ := zi_226_86 e3
          rw [en] at e4
          exact ih F4 (Nat.lt_trans l4 l3) (k + 1) best' x8' st' R k8 hI' J' a' e4
        obtain ⟨F2, l2, ⟨c2, e2⟩ | ⟨c2, e2⟩⟩ := zi_226_36 e1
        case inr =>
          exact next F2 best x8 st (Nat.lt_trans l2 l1) (zBs_no hI (fun q => absurd q c2)) J a0 e2
        have try_ : ∀ F3, F3 < G → (best < 0 ∨ zbc ((k : Nat) : Int) < zbc best) → zG F3 xm_c226 50 [344, ((pp : Nat) : Int), ((K : Nat) : Int), y, ((cn : Nat) : Int), best, ((k : Nat) : Int), x8] [] st R → ∃ v, zBs (zsP σ n m F U K pp) ((cn : Nat) : Int) 128 v ∧ R.1 = zso v y := fun F3 l3 hb e3 => by
          obtain ⟨F4, l4, e4⟩ := zi_226_50 e3
          obtain ⟨F5, st', x8', l5, J5, a5, e5⟩ := tell F4 0 k best st R (Nat.zero_le n) J a0 e4
          obtain ⟨F6, l6, r6, s6, q6, e6⟩ := zi_226_75 e5
          have J6 : zJk σ F z s6 := zJ_209 g J5 q6
          obtain ⟨b1, b2, b3⟩ := zB_209 (σ := zdfs σ ((k : Nat) : Int) n) (zdfs_G hG) hK9 hU q6 a5 J5.2.2.2.1 J5.2.2.2.2
          have b1 : s6 354 = zPn (zdfs σ ((k : Nat) : Int) n) n m F U K := b1
          have l06 : F6 < G := Nat.lt_of_lt_of_le l6 (Nat.le_trans l5 (Nat.le_of_lt (Nat.lt_trans l4 l3)))
          obtain ⟨F7, l7, r7, s7, q7, e7⟩ := zi_226_78 e6
          obtain ⟨rfl, rfl⟩ := zdet q7 (zr_know b1 (Int.natCast_nonneg pp) pp6)
          by_cases w : zpe (zPn (zdfs σ ((k : Nat) : Int) n) n m F U K) ((pp : Nat) : Int) 8 < 0
          · rw [if_pos w] at e7
            obtain ⟨F8, l8, w8⟩ := zi_226_81 e7
            have e8 := (w8.resolve_right (fun q => absurd rfl q.1)).2
            obtain ⟨F9, l9, r9, s9, q9, e9⟩ := zi_226_82 e8
            obtain ⟨J9, a9⟩ := zJ_208 J6 q9
            exact next F9 ((k : Nat) : Int) x8' s9 (Nat.lt_trans l9 (Nat.lt_trans l8 (Nat.lt_trans l7 l06))) (zBs_yes hI k8 c2 (fun q => q w) hb) J9 a9 e9
          · rw [if_neg w] at e7
            obtain ⟨F8, l8, w8⟩ := zi_226_81 e7
            have e8 := (w8.resolve_left (fun q => absurd q.1 (by decide))).2
            obtain ⟨F9, l9, r9, s9, q9, e9⟩ := zi_226_84 e8
            obtain ⟨J9, a9⟩ := zJ_208 J6 q9
            exact next F9 best x8' s9 (Nat.lt_trans l9 (Nat.lt_trans l8 (Nat.lt_trans l7 l06))) (zBs_no hI (fun _ q => q w)) J9 a9 e9
        obtain ⟨F3, l3, ⟨c3, e3⟩ | ⟨c3, e3⟩⟩ := zi_226_42 e2
        · exact try_ F3 (Nat.lt_trans l3 (Nat.lt_trans l2 l1)) (Or.inl c3) e3
        · obtain ⟨F4, l4, r4, s4, q4, e4⟩ := zi_226_44 e3
          obtain ⟨rfl, rfl⟩ := zdet q4 (zq_bits (Int.natCast_nonneg k) (zlt128 k8))
          have b8 : best < 128 := by
            rcases hI with ⟨z1, -⟩ | ⟨u, z1, z2, -⟩
            · rw [z1]
              decide
            · rw [z2]
              exact zlt128 (Nat.lt_trans z1 k8)
          obtain ⟨F5, l5, r5, s5, q5, e5⟩ := zi_226_46 e4
          obtain ⟨rfl, rfl⟩ := zdet q5 (zq_bits (Int.not_lt.mp c3) b8)
          obtain ⟨F6, l6, ⟨c6, e6⟩ | ⟨c6, e6⟩⟩ := zi_226_48 e5
          · exact try_ F6 (Nat.lt_trans l6 (Nat.lt_trans l5 (Nat.lt_trans l4 (Nat.lt_trans l3 (Nat.lt_trans l2 l1))))) (Or.inr c6) e6
          · obtain ⟨F7, l7, e7⟩ := zi_226_49 e6
            rw [en] at e7
            exact ih F7 (Nat.lt_trans l7 (Nat.lt_trans l6 (Nat.lt_trans l5 (Nat.lt_trans l4 (Nat.lt_trans l3 (Nat.lt_trans l2 l1)))))) (k + 1) best x8 st R k8 (zBs_hi hI k8 c3 c6) J a0 e7
  exact loop F12 0 (-2) _ s11 R (Nat.zero_le _) zBs_0 j1 j2 e12
/-- silence answers alike -/
theorem zB_silence {s1 s2 : zS} {q1 q2 : Int} (H : zRZ bB s) (h6 : s 7 8 ≤ 6) (h : bB + 100 ≤ 999) (e1 : zE xm_c110 [7, x, a, y] s q1 s1) (e2 : zE xm_c226 [344, x, a, y, 0, 0, 0, 0] s1 q2 s2) : q1 = q2 := by
  obtain ⟨G1, f1⟩ := e1
  obtain ⟨G2, f2⟩ := e2
  have hq : zQf s s1 := zQ_110 f1
  obtain ⟨U, uC, uM⟩ := zUw H.2.1 h6 H.2.2.1
  obtain ⟨n, m, hD, -⟩ := H.2.2.2.1
  have c1 := H.2.2.1.1
  obtain ⟨a1, a2⟩ := zB_110 hD H.2.2.1.2.1 uC h f1
  have o : ∀ x, x < 224 ∨ 240 ≤ x → s1 x = s x := fun x hx => hq x (by omega)
  obtain ⟨b1, b2⟩ := zB_226 (σ := s 354) (F := s 10 6) (U := U) (z := s1) (t := s1) hD.2.1 h (fun q => uM q s1 (fun x x1 x2 => o x (by omega))) ⟨by rw [o 354 (by omega)], by rw [o 344 (by omega), c1], fun _ _ _ => rfl⟩ f2
  by_cases c : zcsl (s 354) x a y
  · obtain ⟨v, v1, v2⟩ := a2 c
    obtain ⟨u, u1, u2⟩ := b2 c
    have v2 : q1 = zso v y := v2
    have u2 : q2 = zso u y := u2
    rw [v2, u2, zBs_un v1 u1]
  · have v2 : q1 = -1 := a1 c
    have u2 : q2 = -1 := b1 c
    rw [v2, u2]
end MS
