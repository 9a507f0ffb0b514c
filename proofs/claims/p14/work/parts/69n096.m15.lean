/-! whom, on both sides -/
/-- with those told now it is at the one floor's homes in time, and not at the other's -/
def zwP (σ : Int → Int) (n m : Nat) (F : Int) (U : (Int → Int) → Int) (K : Nat) (a b : Int) (w : Nat) : Prop := (∃ p : Nat, p < n ∧ zhm σ a p ∧ zkn (zPn (zwp σ ((w : Nat) : Int) n) n m F U K) p) ∧ ∀ p : Nat, p < n → ¬ (zhm σ b p ∧ zkn (zPn (zwp σ ((w : Nat) : Int) n) n m F U K) p)
/-- how a set that was found is answered -/
def zso (v y : Int) : Int := if v = -2 then -2 else if y = 0 then zbc v else v
/-- that whom may be asked so -/
def zcwh (σ : Int → Int) (a x b y : Int) : Prop := (0 ≤ a ∧ a < σ 0) ∧ (0 ≤ b ∧ b < σ 0) ∧ ¬ a = b ∧ (1 ≤ x ∧ x ≤ 60) ∧ (0 ≤ y ∧ y ≤ 1)
section MQ
variable {bB : Int} {σ τ : Int → Int} {n m K : Nat} {F : Int} {U : (Int → Int) → Int} {s t : zS} {a b x y S f : Int} {p q : Nat}
theorem zlt128 {u : Nat} (h : u < 128) : ((u : Nat) : Int) < 128 := by omega
theorem zB_46 {G G0 : Nat} {R R0 : Int × zS} (hD : zgD bB s n m) (uC : ∀ z : zS, (∀ x, 240 ≤ x → x ≤ 263 → z x = s x) → z 237 1 = (if s 10 6 < 0 then -1 else 240 + 4 * s 10 6) → zRc z (s 10 6) U) (hK : K ≤ 100) (h : bB + 100 ≤ 999) (e0 : zG G0 xm_c42 0 [224, if s 10 6 < 0 then -1 else 240 + 4 * s 10 6] [] s R0) (e1 : zG G xm_c46 0 [224, a, ((K : Nat) : Int), b, 0, 0, 0, 0, 0, 0] [] R0.2 R) : zBs (zwP (s 354) n m (s 10 6) U K a b) (zand (zand (zw (zshl 1 ((n : Nat) : Int) - 1)) (zxor (s 11 4) (-1))) (zxor (s 24 0) (-1))) 128 R.1 := by
  obtain ⟨⟨hH, hF, hL, -⟩, hG, hGt, -⟩ := hD
  have h7 := hG.1.2.1
  have gn : s 354 1 = ((n : Nat) : Int) := hG.1.1
  have g40 : 0 ≤ s 354 4 := hG.1.2.2.2.2.2.2.2.1
  have f1 : s 19 1 = s 354 8 := hF.2.1
  obtain ⟨w, w1, ⟨w2, w3, w4⟩, w5, w6, w7⟩ := zo_prepR (s := s) (r := if s 10 6 < 0 then -1 else 240 + 4 * s 10 6)
  obtain ⟨r0, t0⟩ := R0
  obtain ⟨rfl, rfl⟩ := zdet e0 w1
  have hHw : zRH w 11 (s 354) n m := zRH_c hH (fun x x1 x2 => w7 x (by omega) (by omega))
  have h11 : s 11 1 = ((n : Nat) : Int) := hH.1.2.1.trans gn
  obtain ⟨F1, l1, r1, s1, q1, e2⟩ := zi_46_0 e1
  have k1 := zB_48 h7 gn hHw q1
  injection k1 with k11 k12
  subst k11
  have k13 := k12.symm
  subst k13
  have e2 : zG F1 xm_c46 26 [224, a, ((K : Nat) : Int), b, zand (zand (zw (zshl 1 (w 11 1) - 1)) (zxor (w 11 4) (-1))) (zxor (w 24 0) (-1)), 0, 0, 0, 0, 0] [(false, zfs (zhm (s 354) a) n)] w R := e2
  rw [w7 11 (by decide) (by decide), w7 24 (by decide) (by decide), h11] at e2
  obtain ⟨al, hal⟩ : ∃ al, al = zand (zand (zw (zshl 1 ((n : Nat) : Int) - 1)) (zxor (s 11 4) (-1))) (zxor (s 24 0) (-1)) := ⟨_, rfl⟩
  rw [← hal] at e2 ⊢
  obtain ⟨F2, l2, r2, s2, q2, e3⟩ := zi_46_26 e2
  have k2 := zB_48 h7 gn hHw q2
  injection k2 with k21 k22
  subst k21
  have k23 := k22.symm
  subst k23
  obtain ⟨F3, l3, r3, t1, q3, e4⟩ := zi_46_30 e3
  obtain ⟨v1, v2, v3, v4⟩ := zB_44 (s 10 6) U hG hK (by omega) hHw (w5 _ n h7 hF) q3
  have v1 : ∀ j : Nat, j < K → t1 234 ((j : Nat) : Int) = zlan (zPn (s 354) n m (s 10 6) U j) m n := v1
  have o : ∀ x, ¬ (224 ≤ x ∧ x ≤ 234) → x ≠ 237 → t1 x = s x := fun x x1 x2 => (v4 x (by omega) (by omega) (by omega)).trans (w7 x (by omega) x2)
  have o237 : t1 237 = w 237 := v4 237 (by decide) (by decide) (by decide)
  -- those of a set are told
  have tell : ∀ (G p u i : Nat) (st : zS) (R : Int × zS), p ≤ n → zRL st 230 (zwp (s 354) ((u : Nat) : Int) p) n → (∀ x, x ≠ 238 → x ≠ 239 → ¬ (230 ≤ x ∧ x ≤ 233) → st x = t1 x) → zG G xm_c46 52 [224, a, ((K : Nat) : Int), b, al, zfs (zhm (s 354) a) n, zfs (zhm (s 354) b) n, ((u : Nat) : Int), ((i : Nat) : Int), ((p : Nat) : Int)] [] st R → ∃ (F' : Nat) (st' : zS) (x9 : Int), F' ≤ G ∧ zRL st' 230 (zwp (s 354) ((u : Nat) : Int) n) n ∧ (∀ x, x ≠ 238 → x ≠ 239 → ¬ (230 ≤ x ∧ x ≤ 233) → st' x = t1 x) ∧ zG F' xm_c46 75 [224, a, ((K : Nat) : Int), b, al, zfs (zhm (s 354) a) n, zfs (zhm (s 354) b) n, ((u : Nat) : Int), ((i : Nat) : Int), x9] [] st' R := by
    intro G
    induction G using Nat.strongRecOn with
    | _ G ih =>
      intro p u i st R hp hLs d e0
      have st11 : st 11 1 = ((n : Nat) : Int) := by
        rw [d 11 (by decide) (by decide) (by decide), o 11 (by decide) (by decide), h11]
      obtain ⟨F1, l1, ⟨c1, e1⟩ | ⟨c1, e1⟩⟩ := zi_46_52 e0
      · have c1 : ((p : Nat) : Int) < st 11 1 := c1
        have pL : p < n := by
          rw [st11] at c1
          exact Int.ofNat_lt.mp c1
        have en : zw (((p : Nat) : Int) + 1) = ((p + 1 : Nat) : Int) := by
          clear ih c1 hLs d uC v1 v2 v3 v4 o
          exact zw_id (by omega) (by omega)
        have eS : zwp (s 354) ((u : Nat) : Int) (p + 1) = if zbt ((u : Nat) : Int) ((p : Nat) : Int) = 1 then zuq (zwp (s 354) ((u : Nat) : Int) p) ((p : Nat) : Int) (s 354 4) 0 (-1) else zwp (s 354) ((u : Nat) : Int) p := rfl
        obtain ⟨F2, l2, r2, s2, q2, e2⟩ := zi_46_58 e1
        obtain ⟨rfl, rfl⟩ := zdet q2 zo_bit
        obtain ⟨F3, l3, ⟨c3, e3⟩ | ⟨c3, e3⟩⟩ := zi_46_61 e2
        · obtain ⟨F4, l4, r4, s4, q4, e4⟩ := zi_46_63 e3
          have e19 : st (224 + (-214) + 9) 0 = s 354 4 := by
            show st 19 0 = _
            rw [d 19 (by decide) (by decide) (by decide), o 19 (by decide) (by decide)]
            exact hF.1
          rw [e19] at q4
          have k := zi_38_0 q4
          injection k with ka kb
          have ec : (if (-999 : Int) < if (0 : Int) < 999 then 0 else 999 then if (0 : Int) < 999 then 0 else 999 else (-999)) = 0 := by decide
          rw [ec] at kb
          have kb : s4 = zu (zu (zu (zu st 230 0 (zor (st 230 0) (zshl 1 ((p : Nat) : Int)))) 231 ((p : Nat) : Int) (s 354 4)) 232 ((p : Nat) : Int) 0) 233 ((p : Nat) : Int) (-1) := kb
          have hL4 : zRL s4 230 (zwp (s 354) ((u : Nat) : Int) (p + 1)) n := by
            rw [eS, if_pos c3, kb]
            exact zRL_l hLs pL g40
          obtain ⟨F5, l5, e5⟩ := zi_46_73 e4
          rw [en] at e5
          obtain ⟨F', st', x9, y1, y2⟩ := ih F5 (Nat.lt_trans l5 (Nat.lt_trans l4 (Nat.lt_trans l3 (Nat.lt_trans l2 l1)))) (p + 1) u i s4 R pL hL4 (fun x x1 x2 x3 => by
            rw [← d x x1 x2 x3, kb]
            exact funext (fun y => by rw [zu_cell (by omega), zu_cell (by omega), zu_cell (by omega), zu_cell (by omega)])) e5
          exact ⟨F', st', x9, Nat.le_trans y1 (Nat.le_of_lt (Nat.lt_trans l5 (Nat.lt_trans l4 (Nat.lt_trans l3 (Nat.lt_trans l2 l1))))), y2⟩
        · have hL4 : zRL st 230 (zwp (s 354) ((u : Nat) : Int) (p + 1)) n := by
            rw [eS, if_neg c3]
            exact hLs
          obtain ⟨F5, l5, e5⟩ := zi_46_73 e3
          rw [en] at e5
          obtain ⟨F', st', x9, y1, y2⟩ := ih F5 (Nat.lt_trans l5 (Nat.lt_trans l3 (Nat.lt_trans l2 l1))) (p + 1) u i st R pL hL4 d e5
          exact ⟨F', st', x9, Nat.le_trans y1 (Nat.le_of_lt (Nat.lt_trans l5 (Nat.lt_trans l3 (Nat.lt_trans l2 l1)))), y2⟩
      · have c1 : ¬ ((p : Nat) : Int) < st 11 1 := c1
        have pL : p = n := by
          rw [st11] at c1
          exact Nat.le_antisymm hp (Nat.not_lt.mp (fun q => c1 (Int.ofNat_lt.mpr q)))
        rw [pL] at hLs e1
        exact ⟨F1, st, _, Nat.le_of_lt l1, hLs, d, e1⟩
  have loop : ∀ (G u i : Nat) (x9 : Int) (st : zS) (R : Int × zS), zCi (zwP (s 354) n m (s 10 6) U K a b) al u i → (∀ x, x ≠ 238 → x ≠ 239 → ¬ (230 ≤ x ∧ x ≤ 233) → st x = t1 x) → zG G xm_c46 38 [224, a, ((K : Nat) : Int), b, al, zfs (zhm (s 354) a) n, zfs (zhm (s 354) b) n, ((u : Nat) : Int), ((i : Nat) : Int), x9] [] st R → zBs (zwP (s 354) n m (s 10 6) U K a b) al 128 R.1 := by
    intro G
    induction G using Nat.strongRecOn with
    | _ G ih =>
      intro u i x9 st R H d e0
      have hu := H.1
      have i7 := zCi_i H
      obtain ⟨F1, l1, ⟨c1, e1⟩ | ⟨c1, e1⟩⟩ := zi_46_38 e0
      · exfalso
        clear ih H d uC v1 v2 v3 v4 o tell
        omega
      obtain ⟨F2, l2, ⟨c2, e2⟩ | ⟨c2, e2⟩⟩ := zi_46_41 e1
      · exfalso
        clear ih H d uC v1 v2 v3 v4 o tell
        omega
      obtain ⟨F3, l3, r3, s3, q3, e3⟩ := zi_46_44 e2
      obtain ⟨c, a1, a2, a3, a4⟩ := zo_cpL (s := st) (f := 230) (g := 24) (fun i j _ _ _ _ => by omega)
      obtain ⟨rfl, rfl⟩ := zdet q3 a1
      have dc : ∀ x, x ≠ 238 → x ≠ 239 → ¬ (230 ≤ x ∧ x ≤ 233) → c x = t1 x := fun x x1 x2 x3 => (a4 x (by omega)).trans (d x x1 x2 x3)
      have hLc : zRL c 230 (zwp (s 354) ((u : Nat) : Int) 0) n := zRL_cp h7 a2 a3 (zRL_c hL (fun x x1 x2 => by
        rw [d x (by omega) (by omega) (by omega), o x (by omega) (by omega)]))
      obtain ⟨F4, l4, e4⟩ := zi_46_50 e3
      obtain ⟨F5, st', x9', l5, hLt, dt, e5⟩ := tell F4 0 u i c R (Nat.zero_le n) hLc dc e4
      obtain ⟨F6, l6, r6, s6, q6, e6⟩ := zi_46_75 e5
      obtain ⟨k1, k2⟩ := zB_45 (F := s 10 6) (U := U) (σ := zwp (s 354) ((u : Nat) : Int) n) (zwp_G hG) (zGt_s hGt (fun k hk => zwp_st h7 (Or.inl hk))) hK (by omega) (zRH_s (zRH_c hH (fun x x1 x2 => by rw [dt x (by omega) (by omega) (by omega), o x (by omega) (by omega)])) h7 (fun k hk => zwp_st h7 (hk.imp_right (fun q => by omega)))) hLt (fun j hj => by
        rw [dt 234 (by decide) (by decide) (by decide), v1 j hj]
        exact (zPe_ln h7 (zwp_e h7) j).symm) (by
        rw [dt 224 (by decide) (by decide) (by decide), zwp_o (k := 4) (by decide) n h7]
        exact v2) (by
        rw [dt 237 (by decide) (by decide) (by decide), o237, w3, f1, zwp_o (k := 8) (by decide) n h7]) (by
        rw [dt 237 (by decide) (by decide) (by decide), o237, w4, dt 11 (by decide) (by decide) (by decide), o 11 (by decide) (by decide)]) (fun z hz hz1 => uC z (fun x x1 x2 => by
        rw [hz x x1 x2, dt x (by omega) (by omega) (by omega), o x (by omega) (by omega)]) (by
        rw [hz1, dt 237 (by decide) (by decide) (by decide), o237, w2])) q6
      have k1 : zRL s6 230 (zPn (zwp (s 354) ((u : Nat) : Int) n) n m (s 10 6) U K) n := k1
      have k2 : ∀ x, x ≠ 238 → x ≠ 239 → ¬ (230 ≤ x ∧ x ≤ 233) → s6 x = st' x := k2
      have d6 : ∀ x, x ≠ 238 → x ≠ 239 → ¬ (230 ≤ x ∧ x ≤ 233) → s6 x = t1 x := fun x x1 x2 x3 => (k2 x x1 x2 x3).trans (dt x x1 x2 x3)
      have l06 : F6 < G := Nat.lt_of_lt_of_le l6 (Nat.le_trans l5 (Nat.le_of_lt (Nat.lt_trans l4 (Nat.lt_trans l3 (Nat.lt_trans l2 l1)))))
      have e230 : s6 (224 + 6) 0 = zfs (zkn (zPn (zwp (s 354) ((u : Nat) : Int) n) n m (s 10 6) U K)) n := k1.1
      have fail : ∀ F7, F7 < G → ¬ zwP (s 354) n m (s 10 6) U K a b u → zG F7 xm_c46 93 [224, a, ((K : Nat) : Int), b, al, zfs (zhm (s 354) a) n, zfs (zhm (s 354) b) n, ((u : Nat) : Int), ((i : Nat) : Int), x9'] [] s6 R → zBs (zwP (s 354) n m (s 10 6) U K a b) al 128 R.1 := fun F7 l7 no e7 => by
        obtain ⟨F8, l8, r8, s8, q8, e8⟩ := zi_46_93 e7
        obtain ⟨z1, z2⟩ := zB_49 hu q8
        have z1 : s8 = s6 := z1
        have z2 : zNx al u r8 := z2
        subst z1
        obtain ⟨F9, l9, e9⟩ := zi_46_96 e8
        rcases z2 with ⟨y1, y2⟩ | ⟨v, y1, y2, y3, y4, y5⟩
        · have fin := zCi_e H no y2
          obtain ⟨F10, l10, ⟨c10, e10⟩ | ⟨c10, e10⟩⟩ := zi_46_38 e9
          · rw [zi_46_99 e10]
            exact fin
          · obtain ⟨F11, l11, ⟨c11, e11⟩ | ⟨c11, e11⟩⟩ := zi_46_41 e10
            · rw [zi_46_99 e11]
              exact fin
            · exact absurd y1 c11
        · have en : zw (((i : Nat) : Int) + 1) = ((i + 1 : Nat) : Int) := by
            clear ih H d uC v1 v2 v3 v4 o tell k1 k2 y4 y5 no d6 dt dc a2 a3 a4
            exact zw_id (by omega) (by omega)
          rw [y2, en] at e9
          exact ih F9 (Nat.lt_trans l9 (Nat.lt_trans l8 l7)) v (i + 1) x9' s8 R (zCi_s H no y1 y3 y4 y5) d6 e9
      obtain ⟨F7, l7, ⟨c7, e7⟩ | ⟨c7, e7⟩⟩ := zi_46_79 e6
      · rw [e230] at c7
        exact fail F7 (Nat.lt_trans l7 l06) (fun ⟨⟨p, hp, x1, x2⟩, _⟩ => (zand_fs h7).mp c7 p hp ⟨x2, x1⟩) e7
      · rw [e230] at c7
        obtain ⟨F8, l8, ⟨c8, e8⟩ | ⟨c8, e8⟩⟩ := zi_46_85 e7
        · rw [e230] at c8
          rw [zi_46_91 e8]
          exact zCi_p H ⟨Classical.byContradiction (fun no => c7 ((zand_fs h7).mpr (fun p hp q => no ⟨p, hp, q.2, q.1⟩))), fun p hp q => (zand_fs h7).mp c8 p hp ⟨q.2, q.1⟩⟩
        · rw [e230] at c8
          exact fail F8 (Nat.lt_trans l8 (Nat.lt_trans l7 l06)) (fun ⟨_, z⟩ => c8 ((zand_fs h7).mpr (fun p hp q => z p hp ⟨q.2, q.1⟩))) e8
  obtain ⟨F5, l5, e5⟩ := zi_46_34 e4
  exact loop F5 0 0 _ t1 R zCi_0 (fun _ _ _ _ => rfl) e5
theorem zand_1b (hx : x = 0 ∨ x = 1) (hy : y = 0 ∨ y = 1) : zand x y = 1 ↔ x = 1 ∧ y = 1 := by
  rcases hx with rfl | rfl
  · exact ⟨fun q => by
      rcases hy with rfl | rfl
      · exact absurd q (by decide)
      · exact absurd q (by decide), fun q => absurd q.1 (by decide)⟩
  · rcases hy with rfl | rfl
    · exact ⟨fun q => absurd q (by decide), fun q => absurd q.2 (by decide)⟩
    · exact ⟨fun _ => ⟨rfl, rfl⟩, fun _ => by decide⟩
theorem zbt_and1 {A B k : Int} : zbt (zand A B) k = 1 ↔ zbt A k = 1 ∧ zbt B k = 1 := by
  rw [zbt_and]
  exact zand_1b (zbt_01 _ _) (zbt_01 _ _)
theorem zall_0 : ∀ (a b : Fin 8), a.val ≤ b.val → ¬ zbt (zw (zshl 1 ((a.val : Nat) : Int) - 1)) ((b.val : Nat) : Int) = 1 := by decide
/-- those that may be told, on both sides -/
theorem zal_b (hH : zRH s 11 (s 354) n m) (hG : zGs bB (s 354) n m) (hk : s 24 0 = zfs (zkn (s 354)) n) {w : Nat} (hw : w < 128) : zsb w (zand (zand (zw (zshl 1 ((n : Nat) : Int) - 1)) (zxor (s 11 4) (-1))) (zxor (s 24 0) (-1))) ↔ zsb w (zfs (zun (s 354)) n) := by
  have h7 := hG.1.2.1
  have bit : ∀ p : Nat, p < 7 → (zbt (zand (zand (zw (zshl 1 ((n : Nat) : Int) - 1)) (zxor (s 11 4) (-1))) (zxor (s 24 0) (-1))) ((p : Nat) : Int) = 1 ↔ zbt (zfs (zun (s 354)) n) ((p : Nat) : Int) = 1) := fun p hp => by
    have p16 : p < 16 := Nat.lt_trans hp (by decide)
    rw [zbt_and1, zbt_and1, zbt_not p16, zbt_not p16]
    by_cases pn : p < n
    · have a1 : zbt (zw (zshl 1 ((n : Nat) : Int) - 1)) ((p : Nat) : Int) = 1 := zall_b ⟨n, by omega⟩ ⟨p, by omega⟩ pn
      have a2 : zbt (s 11 4) ((p : Nat) : Int) = zpe (s 354) ((p : Nat) : Int) 6 := (hH.2.1 p pn).2.2.2.2
      have a3 : zbt (s 24 0) ((p : Nat) : Int) = 1 ↔ zkn (s 354) p := by
        rw [hk]
        exact zbt_fo1 pn (by omega)
      have a4 : zbt (zfs (zun (s 354)) n) ((p : Nat) : Int) = 1 ↔ zun (s 354) p := zbt_fo1 pn (by omega)
      have a5 := zbt_01 (s 11 4) ((p : Nat) : Int)
      rw [a2] at a5
      rw [a2, a4, a3]
      constructor
      · intro q
        exact ⟨q.2, a5.resolve_right q.1.2⟩
      · intro q
        exact ⟨⟨a1, fun z => absurd (q.2.symm.trans z) (by decide)⟩, q.1⟩
    · have a1 := zall_0 ⟨n, by omega⟩ ⟨p, by omega⟩ (Nat.not_lt.mp pn)
      have a1 : ¬ zbt (zw (zshl 1 ((n : Nat) : Int) - 1)) ((p : Nat) : Int) = 1 := a1
      have a4 : ¬ zbt (zfs (zun (s 354)) n) ((p : Nat) : Int) = 1 := fun q => by
        rw [zbt_fo p16 n (by omega), if_neg (fun z => pn z.1)] at q
        exact absurd q (by decide)
      exact ⟨fun q => absurd q.1.1 a1, fun q => absurd q a4⟩
  rw [zsb_b hw, zsb_b hw]
  exact ⟨fun z p hp q => (bit p hp).mp (z p hp q), fun z p hp q => (bit p hp).mpr (z p hp q)⟩
theorem zB_123 {G : Nat} {R : Int × zS} {P : Nat → Prop} {c v : Int} (hv : zBs P c 128 v) (e0 : zG G xm_c123 0 [v, y] [] t R) : R.1 = zso v y := by
  unfold zso
  obtain ⟨F1, l1, ⟨c1, e1⟩ | ⟨c1, e1⟩⟩ := zi_123_0 e0
  · rw [zi_123_3 e1, if_pos c1]
  · rw [if_neg c1]
    rcases hv with ⟨h1, -⟩ | ⟨u, hu, rfl, -⟩
    · exact absurd h1 c1
    obtain ⟨F2, l2, ⟨c2, e2⟩ | ⟨c2, e2⟩⟩ := zi_123_5 e1
    · obtain ⟨F3, l3, r3, s3, q3, e3⟩ := zi_123_7 e2
      obtain ⟨rfl, rfl⟩ := zdet q3 (zo_count (Int.natCast_nonneg u) (by omega))
      rw [zi_123_9 e3, if_pos c2]
    · rw [zi_123_10 e2, if_neg c2]
theorem zB_105 {G : Nat} {R : Int × zS} (hD : zgD bB s n m) (hC : -1 ≤ s 10 6 ∧ s 10 6 < s 7 8) (uC : ∀ z : zS, (∀ x, 240 ≤ x → x ≤ 263 → z x = s x) → z 237 1 = (if s 10 6 < 0 then -1 else 240 + 4 * s 10 6) → zRc z (s 10 6) U) (h : bB + 100 ≤ 999) (e0 : zG G xm_c105 0 [7, a, x, b, y] [] s R) : (¬ zcwh (s 354) a x b y → R.1 = -1) ∧ (zcwh (s 354) a x b y → ∃ v, zBs (zwP (s 354) n m (s 10 6) U x.toNat a b) (zfs (zun (s 354)) n) 128 v ∧ R.1 = zso v y) := by
  have h0 : s 11 0 = s 354 0 := hD.1.1.1.1
  have out : ∀ F1, ¬ zcwh (s 354) a x b y → zG F1 xm_c105 21 [7, a, x, b, y] [] s R → (¬ zcwh (s 354) a x b y → R.1 = -1) ∧ (zcwh (s 354) a x b y → ∃ v, zBs (zwP (s 354) n m (s 10 6) U x.toNat a b) (zfs (zun (s 354)) n) 128 v ∧ R.1 = zso v y) := fun F1 no e1 => by
    rw [zi_105_21 e1]
    exact ⟨fun _ => rfl, fun q => absurd q no⟩
  obtain ⟨F1, l1, r1, s1, q1, e1⟩ := zi_105_0 e0
  obtain ⟨rfl, rfl⟩ := zdet q1 (zo_hasF (h := 11))
  rw [h0] at e1
  by_cases c0 : 0 ≤ a ∧ a < s 354 0
  case neg =>
    rw [if_neg c0] at e1
    obtain ⟨F2, l2, ⟨c2, e2⟩ | ⟨c2, e2⟩⟩ := zi_105_5 e1
    · exact out F2 (fun q => c0 q.1) e2
    · exact absurd rfl c2
  rw [if_pos c0] at e1
  obtain ⟨F2, l2, ⟨c2, e2⟩ | ⟨c2, e2⟩⟩ := zi_105_5 e1
  · exact absurd c2 (by decide)
  obtain ⟨F3, l3, r3, s3, q3, e3⟩ := zi_105_6 e2
  obtain ⟨rfl, rfl⟩ := zdet q3 (zo_hasF (h := 11))
  rw [h0] at e3
  by_cases c4 : 0 ≤ b ∧ b < s 354 0
  case neg =>
    rw [if_neg c4] at e3
    obtain ⟨F4, l4, ⟨c5, e4⟩ | ⟨c5, e4⟩⟩ := zi_105_11 e3
    · exact out F4 (fun q => c4 q.2.1) e4
    · exact absurd rfl c5
  rw [if_pos c4] at e3
  obtain ⟨F4, l4, ⟨c5, e4⟩ | ⟨c5, e4⟩⟩ := zi_105_11 e3
  · exact absurd c5 (by decide)
  obtain ⟨F5, l5, ⟨c6, e5⟩ | ⟨c6, e5⟩⟩ := zi_105_12 e4
  · exact out F5 (fun q => q.2.2.1 c6) e5
  obtain ⟨F6, l6, r6, s6, q6, e6⟩ := zi_105_15 e5
  have k3 := zB_121 q6
  injection k3 with k31 k32
  subst k31
  have k33 := k32.symm
  subst k33
  by_cases c1 : 1 ≤ x ∧ x ≤ 60
  case neg =>
    rw [if_neg c1] at e6
    obtain ⟨F7, l7, ⟨c7, e7⟩ | ⟨c7, e7⟩⟩ := zi_105_17 e6
    · exact out F7 (fun q => c1 q.2.2.2.1) e7
    · exact absurd rfl c7
  rw [if_pos c1] at e6
  obtain ⟨F7, l7, ⟨c7, e7⟩ | ⟨c7, e7⟩⟩ := zi_105_17 e6
  · exact absurd c7 (by decide)
  obtain ⟨F8, l8, r8, s8, q8, e8⟩ := zi_105_18 e7
  obtain ⟨rfl, rfl⟩ := zdet q8 zo_either
  by_cases cy : 0 ≤ y ∧ y ≤ 1
  case neg =>
    rw [if_neg cy] at e8
    obtain ⟨F9, l9, ⟨c9, e9⟩ | ⟨c9, e9⟩⟩ := zi_105_20 e8
    · exact out F9 (fun q => cy q.2.2.2.2) e9
    · exact absurd rfl c9
  rw [if_pos cy] at e8
  obtain ⟨F9, l9, ⟨c9, e9⟩ | ⟨c9, e9⟩⟩ := zi_105_20 e8
  · exact absurd c9 (by decide)
  refine ⟨fun no => absurd ⟨c0, c4, c6, c1, cy⟩ no, fun _ => ?_⟩
  obtain ⟨K, rfl⟩ := Int.eq_ofNat_of_zero_le (Int.le_trans (by decide) c1.1)
  have hK : K ≤ 100 := by
    have := c1.2
    clear e0 q1 e1 e2 e3 e4 e5 e6 e7 e8 e9 q3 q6 q8 uC out
    omega
  obtain ⟨F10, l10, r10, s10, q10, e10⟩ := zi_105_23 e9
  obtain ⟨rfl, rfl⟩ := zdet q10 (zo_rif hC.1 hC.2)
  obtain ⟨F11, l11, r11, s11, q11, e11⟩ := zi_105_27 e10
  obtain ⟨F12, l12, r12, s12, q12, e12⟩ := zi_105_28 e11
  have z := zB_46 hD uC hK h q11 q12
  have z : zBs (zwP (s 354) n m (s 10 6) U K a b) (zand (zand (zw (zshl 1 ((n : Nat) : Int) - 1)) (zxor (s 11 4) (-1))) (zxor (s 24 0) (-1))) 128 r12 := z
  have z2 := zBs_c (fun w hw => zal_b hD.1.1 hD.2.1 hD.1.2.2.1.1 hw) z
  obtain ⟨F13, l13, r13, s13, q13, e13⟩ := zi_105_34 e12
  have k := zB_123 z2 q13
  rw [Int.toNat_natCast]
  refine ⟨r12, z2, ?_⟩
  rw [zi_105_36 e13]
  exact k
theorem zB_215 {G : Nat} {R : Int × zS} {z : zS} (hG : zGs bB σ n m) (h : bB + 100 ≤ 999) (hU : ¬ F < 0 → zRu z F U) (hB : zJb σ F z t) (e0 : zG G xm_c215 0 [344, a, x, b, y, 0, 0, 0, 0] [] t R) : (¬ zcwh σ a x b y → R.1 = -1) ∧ (zcwh σ a x b y → ∃ v, zBs (zwP σ n m F U x.toNat a b) (zfs (zun σ) n) 128 v ∧ R.1 = zso v y) := by
  have gn : σ 1 = ((n : Nat) : Int) := hG.1.1
  have h7 := hG.1.2.1
  have g : zJg σ F z n m U := ⟨hG.1.1, h7, hG.1.2.2.1, hG.1.2.2.2.1, hU⟩
  have ha := hB.1
  have out : ∀ F1, ¬ zcwh σ a x b y → zG F1 xm_c215 23 [344, a, x, b, y, 0, 0, 0, 0] [] t R → (¬ zcwh σ a x b y → R.1 = -1) ∧ (zcwh σ a x b y → ∃ v, zBs (zwP σ n m F U x.toNat a b) (zfs (zun σ) n) 128 v ∧ R.1 = zso v y) := fun F1 no e1 => by
    rw [zi_215_23 e1]
    exact ⟨fun _ => rfl, fun q => absurd q no⟩
  obtain ⟨F1, l1, r1, s1, q1, e1⟩ := zi_215_0 e0
  obtain ⟨rfl, rfl⟩ := zdet q1 zq_isF
  rw [ha] at e1
  by_cases c0 : 0 ≤ a ∧ a < σ 0
  case neg =>
    rw [if_neg c0] at e1
    obtain ⟨F2, l2, ⟨c2, e2⟩ | ⟨c2, e2⟩⟩ := zi_215_3 e1
    · exact out F2 (fun q => c0 q.1) e2
    · exact absurd rfl c2
  rw [if_pos c0] at e1
  obtain ⟨F2, l2, ⟨c2, e2⟩ | ⟨c2, e2⟩⟩ := zi_215_3 e1
  · exact absurd c2 (by decide)
  obtain ⟨F3, l3, r3, s3, q3, e3⟩ := zi_215_4 e2
  obtain ⟨rfl, rfl⟩ := zdet q3 zq_isF
  rw [ha] at e3
  by_cases c4 : 0 ≤ b ∧ b < σ 0
  case neg =>
    rw [if_neg c4] at e3
    obtain ⟨F4, l4, ⟨c5, e4⟩ | ⟨c5, e4⟩⟩ := zi_215_7 e3
    · exact out F4 (fun q => c4 q.2.1) e4
    · exact absurd rfl c5
  rw [if_pos c4] at e3
  obtain ⟨F4, l4, ⟨c5, e4⟩ | ⟨c5, e4⟩⟩ := zi_215_7 e3
  · exact absurd c5 (by decide)
  obtain ⟨F5, l5, ⟨c6, e5⟩ | ⟨c6, e5⟩⟩ := zi_215_8 e4
  · exact out F5 (fun q => q.2.2.1 c6) e5
  obtain ⟨F6, l6, r6, s6, q6, e6⟩ := zi_215_11 e5
  obtain ⟨rfl, rfl⟩ := zdet q6 (zr_in2 (lo := 1) (hi := 60))
  by_cases c1 : 1 ≤ x ∧ x ≤ 60
  case neg =>
    rw [if_neg c1] at e6
    obtain ⟨F7, l7, ⟨c7, e7⟩ | ⟨c7, e7⟩⟩ := zi_215_16 e6
    · exact out F7 (fun q => c1 q.2.2.2.1) e7
    · exact absurd rfl c7
  rw [if_pos c1] at e6
  obtain ⟨F7, l7, ⟨c7, e7⟩ | ⟨c7, e7⟩⟩ := zi_215_16 e6
  · exact absurd c7 (by decide)
  obtain ⟨F8, l8, r8, s8, q8, e8⟩ := zi_215_17 e7
  obtain ⟨rfl, rfl⟩ := zdet q8 (zr_in2 (lo := 0) (hi := 1))
  by_cases cy : 0 ≤ y ∧ y ≤ 1
  case neg =>
    rw [if_neg cy] at e8
    obtain ⟨F9, l9, ⟨c9, e9⟩ | ⟨c9, e9⟩⟩ := zi_215_22 e8
    · exact out F9 (fun q => cy q.2.2.2.2) e9
    · exact absurd rfl c9
  rw [if_pos cy] at e8
  obtain ⟨F9, l9, ⟨c9, e9⟩ | ⟨c9, e9⟩⟩ := zi_215_22 e8
  · exact absurd c9 (by decide)
  refine ⟨fun no => absurd ⟨c0, c4, c6, c1, cy⟩ no, fun _ => ?_⟩
  obtain ⟨K, rfl⟩ := Int.eq_ofNat_of_zero_le (Int.le_trans (by decide) c1.1)
  have hK9 : bB + ((K : Nat) : Int) ≤ 999 := by
    have := c1.2
    clear e0 q1 e1 e2 e3 e4 e5 e6 e7 e8 e9 q3 q6 q8 hU g out
    omega
  rw [Int.toNat_natCast]
  obtain ⟨F10, l10, r10, s10, q10, e10⟩ := zi_215_25 e9
  have k3 := zB_213 h7 gn ha q10
  injection k3 with k31 k32
  subst k31
  have k33 := k32.symm
  subst k33
  have cr := zfo_r (P := zun σ) n h7
  obtain ⟨cn, hcn⟩ := Int.eq_ofNat_of_zero_le cr.1
  have cn7 : cn < 128 := by
    have := cr.2
    clear e0 q1 e1 e2 e3 e4 e5 e6 e7 e8 e9 e10 q3 q6 q8 q10 hU g out
    omega
  rw [hcn] at e10 ⊢
  obtain ⟨F11, l11, r11, s11, q11, e11⟩ := zi_215_27 e10
  obtain ⟨j1, j2⟩ := zJ_207 hB q11
  obtain ⟨F12, l12, e12⟩ := zi_215_32 e11
  have tell : ∀ (G p k : Nat) (best : Int) (st : zS) (R : Int × zS), p ≤ n → zJk σ F z st → st 354 = zwp σ ((k : Nat) : Int) p → zG G xm_c215 53 [344, a, ((K : Nat) : Int), b, y, ((cn : Nat) : Int), best, ((k : Nat) : Int), ((p : Nat) : Int)] [] st R → ∃ (F' : Nat) (st' : zS) (x8 : Int), F' ≤ G ∧ zJk σ F z st' ∧ st' 354 = zwp σ ((k : Nat) : Int) n ∧ zG F' xm_c215 69 [344, a, ((K : Nat) : Int), b, y, ((cn : Nat) : Int), best, ((k : Nat) : Int), x8] [] st' R := by
    intro G
    induction G using Nat.strongRecOn with
    | _ G ih =>
      intro p k best st R hp J a0 e0
      have st1 : st 354 1 = ((n : Nat) : Int) := J.2.1.2.1.trans gn
      obtain ⟨F1, l1, ⟨c1, e1⟩ | ⟨c1, e1⟩⟩ := zi_215_53 e0
      · have c1 : ((p : Nat) : Int) < st 354 1 := c1
        have pL : p < n := by
          rw [st1] at c1
          exact Int.ofNat_lt.mp c1
        have p6 : ((p : Nat) : Int) ≤ 6 := by
          clear ih c1 hU g J a0
          omega
        have en : zw (((p : Nat) : Int) + 1) = ((p + 1 : Nat) : Int) := by
          clear ih c1 hU g J a0
          exact zw_id (by omega) (by omega)
        have eS : zwp σ ((k : Nat) : Int) (p + 1) = if zbt ((k : Nat) : Int) ((p : Nat) : Int) = 1 then zuq (zwp σ ((k : Nat) : Int) p) ((p : Nat) : Int) (σ 4) 0 (-1) else zwp σ ((k : Nat) : Int) p := rfl
        obtain ⟨F2, l2, r2, s2, q2, e2⟩ := zi_215_59 e1
        obtain ⟨rfl, rfl⟩ := zdet q2 zq_is
        by_cases cb : zbt ((k : Nat) : Int) ((p : Nat) : Int) = 1
        · rw [if_pos cb] at e2
          obtain ⟨F3, l3, w3⟩ := zi_215_62 e2
          have e3 := (w3.resolve_left (fun q => absurd q.1 (by decide))).2
          obtain ⟨F4, l4, r4, s4, q4, e4⟩ := zi_215_63 e3
          have J4 : zJk σ F z s4 := zJ_201 J (Int.natCast_nonneg p) p6 q4
          obtain ⟨t', y1, y2, y3⟩ := zr_201 (t := st) (y := 0) (Int.natCast_nonneg p) p6
          obtain ⟨rfl, rfl⟩ := zdet q4 y1
          have a4 : t' 354 = zwp σ ((k : Nat) : Int) (p + 1) := by
            rw [y2, eS, if_pos cb, a0, zwp_o (k := 4) (by decide) p (Nat.le_of_lt (Nat.lt_of_lt_of_le pL h7))]
          obtain ⟨F5, l5, e5⟩ := zi_215_67 e4
          rw [en] at e5
          obtain ⟨F', st', x8, z1, z2⟩ := ih F5 (Nat.lt_trans l5 (Nat.lt_trans l4 (Nat.lt_trans l3 (Nat.lt_trans l2 l1)))) (p + 1) k best t' R pL J4 a4 e5
          exact ⟨F', st', x8, Nat.le_trans z1 (Nat.le_of_lt (Nat.lt_trans l5 (Nat.lt_trans l4 (Nat.lt_trans l3 (Nat.lt_trans l2 l1))))), z2⟩
        · rw [if_neg cb] at e2
          obtain ⟨F3, l3, w3⟩ := zi_215_62 e2
          have e3 := (w3.resolve_right (fun q => absurd rfl q.1)).2
          have a4 : st 354 = zwp σ ((k : Nat) : Int) (p + 1) := by
            rw [eS, if_neg cb, a0]
          obtain ⟨F5, l5, e5⟩ := zi_215_67 e3
          rw [en] at e5
          obtain ⟨F', st', x8, z1, z2⟩ := ih F5 (Nat.lt_trans l5 (Nat.lt_trans l3 (Nat.lt_trans l2 l1))) (p + 1) k best st R pL J a4 e5
          exact ⟨F', st', x8, Nat.le_trans z1 (Nat.le_of_lt (Nat.lt_trans l5 (Nat.lt_trans l3 (Nat.lt_trans l2 l1)))), z2⟩
      · have c1 : ¬ ((p : Nat) : Int) < st 354 1 := c1
        have pL : p = n := by
          rw [st1] at c1
          exact Nat.le_antisymm hp (Nat.not_lt.mp (fun q => c1 (Int.ofNat_lt.mpr q)))
        rw [pL] at a0 e1
        exact ⟨F1, st, _, Nat.le_of_lt l1, J, a0, e1⟩
  have loop : ∀ (G k : Nat) (best x8 : Int) (st : zS) (R : Int × zS), k ≤ 128 → zBs (zwP σ n m F U K a b) ((cn : Nat) : Int) k best → zJk σ F z st → st 354 = σ → zG G xm_c215 34 [344, a, ((K : Nat) : Int), b, y, ((cn : Nat) : Int), best, ((k : Nat) : Int), x8] [] st R → ∃ v, zBs (zwP σ n m F U K a b) ((cn : Nat) : Int) 128 v ∧ R.1 = zso v y := by
    intro G
    induction G using Nat.strongRecOn with
    | _ G ih =>
      intro k best x8 st R hk hI J a0 e0
      obtain ⟨F1, l1, ⟨c1, e1⟩ | ⟨c1, e1⟩⟩ := zi_215_34 e0
      · have fin := zBs_end hI hk (fun w hw s => Nat.lt_of_le_of_lt (zsb_le hw cn7 s) (Int.ofNat_lt.mp c1))
        refine ⟨best, fin, ?_⟩
        unfold zso
        obtain ⟨F2, l2, ⟨c2, e2⟩ | ⟨c2, e2⟩⟩ := zi_215_86 e1
        · rw [zi_215_88 e2]
          rcases fin with ⟨z1, -⟩ | ⟨u, z1, z2, -⟩
          · rw [if_pos z1]
          · rw [z2] at c2
            exact absurd c2 (Int.not_lt.mpr (Int.natCast_nonneg u))
        · have nb : ¬ best = -2 := fun q => c2 (by rw [q]; decide)
          rw [if_neg nb]
          obtain ⟨F3, l3, ⟨c3, e3⟩ | ⟨c3, e3⟩⟩ := zi_215_90 e2
          · obtain ⟨F4, l4, r4, s4, q4, e4⟩ := zi_215_92 e3
            rcases fin with ⟨z1, -⟩ | ⟨u, z1, z2, -⟩
            · exact absurd z1 nb
            · obtain ⟨rfl, rfl⟩ := zdet q4 (zq_bits (Int.not_lt.mp c2) (by rw [z2]; exact zlt128 z1))
              rw [zi_215_94 e4, if_pos c3]
          · rw [zi_215_95 e3, if_neg c3]
      · have k8 : k < 128 := by
          clear ih hU g J a0 hI
          omega
        have en : zw (((k : Nat) : Int) + 1) = ((k + 1 : Nat) : Int) := by
          clear ih hU g J a0 hI
          exact zw_id (by omega) (by omega)
        have next : ∀ (F3 : Nat) (best' x8' : Int) (st' : zS), F3 < G → zBs (zwP σ n m F U K a b) ((cn : Nat) : Int) (k + 1) best' → zJk σ F z st' → st' 354 = σ → zG F3 xm_c215 84 [344, a, ((K : Nat) : Int), b, y, ((cn : Nat) : Int), best', ((k : Nat) : Int), x8'] [] st' R → ∃ v, zBs (zwP σ n m F U K a b) ((cn : Nat) : Int) 128 v ∧ R.1 = zso v y := fun F3 best' x8' st' l3 hI' J' a' e3 => by
          obtain ⟨F4, l4, e4⟩ := zi_215_84 e3
          rw [en] at e4
          exact ih F4 (Nat.lt_trans l4 l3) (k + 1) best' x8' st' R k8 hI' J' a' e4
        obtain ⟨F2, l2, ⟨c2, e2⟩ | ⟨c2, e2⟩⟩ := zi_215_37 e1
        case inr =>
          exact next F2 best x8 st (Nat.lt_trans l2 l1) (zBs_no hI (fun q => absurd q c2)) J a0 e2
        have try_ : ∀ F3, F3 < G → (best < 0 ∨ zbc ((k : Nat) : Int) < zbc best) → zG F3 xm_c215 51 [344, a, ((K : Nat) : Int), b, y, ((cn : Nat) : Int), best, ((k : Nat) : Int), x8] [] st R → ∃ v, zBs (zwP σ n m F U K a b) ((cn : Nat) : Int) 128 v ∧ R.1 = zso v y := fun F3 l3 hb e3 => by
          obtain ⟨F4, l4, e4⟩ := zi_215_51 e3
          obtain ⟨F5, st', x8', l5, J5, a5, e5⟩ := tell F4 0 k best st R (Nat.zero_le n) J a0 e4
          obtain ⟨F6, l6, r6, s6, q6, e6⟩ := zi_215_69 e5
          have J6 : zJk σ F z s6 := zJ_209 g J5 q6
          obtain ⟨b1, b2, b3⟩ := zB_209 (σ := zwp σ ((k : Nat) : Int) n) (zwp_G hG) hK9 hU q6 a5 J5.2.2.2.1 J5.2.2.2.2
          have b1 : s6 354 = zPn (zwp σ ((k : Nat) : Int) n) n m F U K := b1
          have t1 : zPn (zwp σ ((k : Nat) : Int) n) n m F U K 1 = ((n : Nat) : Int) := by
            rw [zPn_st h7 K 1 (Or.inl (by unfold zst; omega)), zwp_o (k := 1) (by decide) n h7, gn]
          have t4 : ∀ p : Nat, p < n → zpe (zPn (zwp σ ((k : Nat) : Int) n) n m F U K) ((p : Nat) : Int) 4 = zpe σ ((p : Nat) : Int) 4 := fun p hp => by
            have z1 : zpe (zPn (zwp σ ((k : Nat) : Int) n) n m F U K) ((p : Nat) : Int) 4 = zpe (zwp σ ((k : Nat) : Int) n) ((p : Nat) : Int) 4 := zPn_st h7 K _ (Or.inl (zst_p (Nat.lt_of_lt_of_le hp h7) (by decide) (by decide)))
            rw [z1, zwp_p h7 (by decide) (by decide)]
          have l06 : F6 < G := Nat.lt_of_lt_of_le l6 (Nat.le_trans l5 (Nat.le_of_lt (Nat.lt_trans l4 l3)))
          have miss : ∀ F8, F8 < G → ¬ zwP σ n m F U K a b k → zG F8 xm_c215 82 [344, a, ((K : Nat) : Int), b, y, ((cn : Nat) : Int), best, ((k : Nat) : Int), x8'] [] s6 R → ∃ v, zBs (zwP σ n m F U K a b) ((cn : Nat) : Int) 128 v ∧ R.1 = zso v y := fun F8 l8 no e8 => by
            obtain ⟨F9, l9, r9, s9, q9, e9⟩ := zi_215_82 e8
            obtain ⟨J9, a9⟩ := zJ_208 J6 q9
            exact next F9 best x8' s9 (Nat.lt_trans l9 l8) (zBs_no hI (fun _ => no)) J9 a9 e9
          obtain ⟨F7, l7, r7, s7, q7, e7⟩ := zi_215_72 e6
          obtain ⟨y1, y2⟩ := zB_214 h7 t1 b1 q7
          have y1 : s7 = s6 := y1
          subst y1
          rcases y2 with ⟨y2, p, hp, y3, y4⟩ | ⟨y2, y3⟩
          · have y2 : r7 = 1 := y2
            rw [y2] at e7
            obtain ⟨F8, l8, w8⟩ := zi_215_75 e7
            have e8 := (w8.resolve_left (fun q => absurd q.1 (by decide))).2
            obtain ⟨F9, l9, r9, s9, q9, e9⟩ := zi_215_76 e8
            obtain ⟨x1, x2⟩ := zB_214 h7 t1 b1 q9
            have x1 : s9 = s7 := x1
            subst x1
            rcases x2 with ⟨x2, p', hp', x3, x4⟩ | ⟨x2, x3⟩
            · have x2 : r9 = 1 := x2
              rw [x2] at e9
              obtain ⟨F10, l10, w10⟩ := zi_215_79 e9
              have e10 := (w10.resolve_left (fun q => absurd q.1 (by decide))).2
              exact miss F10 (Nat.lt_trans l10 (Nat.lt_trans l9 (Nat.lt_trans l8 (Nat.lt_trans l7 l06)))) (fun q => q.2 p' hp' ⟨(t4 p' hp').symm.trans x3, x4⟩) e10
            · have x2 : r9 = 0 := x2
              rw [x2] at e9
              obtain ⟨F10, l10, w10⟩ := zi_215_79 e9
              have e10 := (w10.resolve_right (fun q => absurd rfl q.1)).2
              obtain ⟨F11, l11, r11, s11, q11, e11⟩ := zi_215_80 e10
              obtain ⟨J9, a9⟩ := zJ_208 J6 q11
              exact next F11 ((k : Nat) : Int) x8' s11 (Nat.lt_trans l11 (Nat.lt_trans l10 (Nat.lt_trans l9 (Nat.lt_trans l8 (Nat.lt_trans l7 l06))))) (zBs_yes hI k8 c2 ⟨⟨p, hp, (t4 p hp).symm.trans y3, y4⟩, fun p' hp' q => x3 p' hp' ⟨(t4 p' hp').trans q.1, q.2⟩⟩ hb) J9 a9 e11
          · have y2 : r7 = 0 := y2
            rw [y2] at e7
            obtain ⟨F8, l8, w8⟩ := zi_215_75 e7
            have e8 := (w8.resolve_right (fun q => absurd rfl q.1)).2
            exact miss F8 (Nat.lt_trans l8 (Nat.lt_trans l7 l06)) (fun ⟨⟨p, hp, x3, x4⟩, _⟩ => y3 p hp ⟨(t4 p hp).trans x3, x4⟩) e8
        obtain ⟨F3, l3, ⟨c3, e3⟩ | ⟨c3, e3⟩⟩ := zi_215_43 e2
        · exact try_ F3 (Nat.lt_trans l3 (Nat.lt_trans l2 l1)) (Or.inl c3) e3
        · obtain ⟨F4, l4, r4, s4, q4, e4⟩ := zi_215_45 e3
          obtain ⟨rfl, rfl⟩ := zdet q4 (zq_bits (Int.natCast_nonneg k) (zlt128 k8))
          have b8 : best < 128 := by
            rcases hI with ⟨z1, -⟩ | ⟨u, z1, z2, -⟩
            · rw [z1]
              decide
            · rw [z2]
              exact zlt128 (Nat.lt_trans z1 k8)
          obtain ⟨F5, l5, r5, s5, q5, e5⟩ := zi_215_47 e4
          obtain ⟨rfl, rfl⟩ := zdet q5 (zq_bits (Int.not_lt.mp c3) b8)
          obtain ⟨F6, l6, ⟨c6, e6⟩ | ⟨c6, e6⟩⟩ := zi_215_49 e5
          · exact try_ F6 (Nat.lt_trans l6 (Nat.lt_trans l5 (Nat.lt_trans l4 (Nat.lt_trans l3 (Nat.lt_trans l2 l1))))) (Or.inr c6) e6
          · obtain ⟨F7, l7, e7⟩ := zi_215_50 e6
            rw [en] at e7
            exact ih F7 (Nat.lt_trans l7 (Nat.lt_trans l6 (Nat.lt_trans l5 (Nat.lt_trans l4 (Nat.lt_trans l3 (Nat.lt_trans l2 l1)))))) (k + 1) best x8 st R k8 (zBs_hi hI k8 c3 c6) J a0 e7
  exact loop F12 0 (-2) _ s11 R (Nat.zero_le _) zBs_0 j1 j2 e12
/-- whom answers alike -/
theorem zB_whom {s1 s2 : zS} {q1 q2 : Int} (H : zRZ bB s) (h6 : s 7 8 ≤ 6) (h : bB + 100 ≤ 999) (e1 : zE xm_c105 [7, a, x, b, y] s q1 s1) (e2 : zE xm_c215 [344, a, x, b, y, 0, 0, 0, 0] s1 q2 s2) : q1 = q2 := by
  obtain ⟨G1, f1⟩ := e1
  obtain ⟨G2, f2⟩ := e2
  have hq : zQf s s1 := zQ_105 f1
  obtain ⟨U, uC, uM⟩ := zUw H.2.1 h6 H.2.2.1
  obtain ⟨n, m, hD, -⟩ := H.2.2.2.1
  have c1 := H.2.2.1.1
  obtain ⟨a1, a2⟩ := zB_105 hD H.2.2.1.2.1 uC h f1
  have o : ∀ x, x < 224 ∨ 240 ≤ x → s1 x = s x := fun x hx => hq x (by omega)
  obtain ⟨b1, b2⟩ := zB_215 (σ := s 354) (F := s 10 6) (U := U) (z := s1) (t := s1) hD.2.1 h (fun q => uM q s1 (fun x x1 x2 => o x (by omega))) ⟨by rw [o 354 (by omega)], by rw [o 344 (by omega), c1], fun _ _ _ => rfl⟩ f2
  by_cases c : zcwh (s 354) a x b y
  · obtain ⟨v, v1, v2⟩ := a2 c
    obtain ⟨u, u1, u2⟩ := b2 c
    have v2 : q1 = zso v y := v2
    have u2 : q2 = zso u y := u2
    rw [v2, u2, zBs_un v1 u1]
  · have v2 : q1 = -1 := a1 c
    have u2 : q2 = -1 := b1 c
    rw [v2, u2]
end MQ
