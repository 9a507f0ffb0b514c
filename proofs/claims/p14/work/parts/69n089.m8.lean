/-! block, on both sides -/
/-- a plant more -/
def zbp (σ : Int → Int) (f : Int) : Int → Int := fun k => if k = 8 then zor (σ 8) (zshl 1 f) else σ k
/-- how many know behind K bells with it -/
def zbq (σ : Int → Int) (n m : Nat) (F : Int) (U : (Int → Int) → Int) (K : Nat) (f : Int) : Int := zbc (zfs (zkn (zPn (zbp σ f) n m F U K)) n)
/-- the best of the first floors, and how many know then -/
noncomputable def zbb (σ : Int → Int) (n m : Nat) (F : Int) (U : (Int → Int) → Int) (K : Nat) : Nat → Int × Int
  | 0 => (-2, -2)
  | f + 1 => if zbt (σ 8) ((f : Nat) : Int) = 1 then zbb σ n m F U K f else if (zbb σ n m F U K f).1 < 0 ∨ zbq σ n m F U K ((f : Nat) : Int) < (zbb σ n m F U K f).2 then (((f : Nat) : Int), zbq σ n m F U K ((f : Nat) : Int)) else zbb σ n m F U K f
section MB2
variable {bB : Int} {σ : Int → Int} {n m : Nat} {F : Int} {U : (Int → Int) → Int} {s t : zS} {x y : Int} {K : Nat}
theorem zbb_r : ∀ f : Nat, (zbb σ n m F U K f).1 = -2 ∨ (0 ≤ (zbb σ n m F U K f).1)
  | 0 => Or.inl rfl
  | f + 1 => by
    have ih := zbb_r f
    unfold zbb
    by_cases c : zbt (σ 8) ((f : Nat) : Int) = 1
    · rw [if_pos c]
      exact ih
    · rw [if_neg c]
      by_cases d : (zbb σ n m F U K f).1 < 0 ∨ zbq σ n m F U K ((f : Nat) : Int) < (zbb σ n m F U K f).2
      · rw [if_pos d]
        exact Or.inr (Int.natCast_nonneg f)
      · rw [if_neg d]
        exact ih
theorem zbb_b : ∀ f : Nat, (zbb σ n m F U K f).1 = -2 → (zbb σ n m F U K f).2 = -2
  | 0, _ => rfl
  | f + 1, h => by
    have ih := zbb_b f
    unfold zbb at h ⊢
    by_cases c : zbt (σ 8) ((f : Nat) : Int) = 1
    · rw [if_pos c] at h ⊢
      exact ih h
    · rw [if_neg c] at h ⊢
      by_cases d : (zbb σ n m F U K f).1 < 0 ∨ zbq σ n m F U K ((f : Nat) : Int) < (zbb σ n m F U K f).2
      · rw [if_pos d] at h
        have h : ((f : Nat) : Int) = -2 := h
        omega
      · rw [if_neg d] at h ⊢
        exact ih h
theorem zbp_G {f : Int} (H : zGs bB σ n m) : zGs bB (zbp σ f) n m := by
  have e : ∀ k, k ≠ 8 → zbp σ f k = σ k := fun k hk => if_neg hk
  have p : ∀ (p : Nat) (j : Int), 0 ≤ j → zpe (zbp σ f) ((p : Nat) : Int) j = zpe σ ((p : Nat) : Int) j := fun p j j0 => e _ (by omega)
  obtain ⟨⟨g1, g2, g3, g4, g5, g6, g7, g8⟩, gp, ge⟩ := H
  refine ⟨⟨by rw [e 1 (by decide)]; exact g1, g2, by rw [e 2 (by decide)]; exact g3, g4, by rw [e 0 (by decide)]; exact g5, by rw [e 0 (by decide)]; exact g6, by rw [e 0 (by decide)]; exact g7, by rw [e 4 (by decide)]; exact g8⟩, fun q hq => ?_, fun i hi => ?_⟩
  · obtain ⟨r0, r1, r3, r4, r5, r6, r7, r8, r9⟩ := gp q hq
    rw [p q 0 (by decide), p q 1 (by decide), p q 2 (by decide), p q 3 (by decide), p q 4 (by decide), p q 5 (by decide), p q 6 (by decide), p q 8 (by decide), e 0 (by decide), e (138 + ((q : Nat) : Int)) (by omega)]
    refine ⟨r0, r1, r3, r4, r5, r6, r7, r8, fun q' hq' => ?_⟩
    rw [p q' 5 (by decide)]
    exact r9 q' hq'
  · rw [e (87 + 3 * ((i : Nat) : Int)) (by omega), e (87 + 3 * ((i : Nat) : Int) + 1) (by omega), e 0 (by decide)]
    exact ge i hi
theorem zbp_L {f l : Int} (H : zRL t l σ n) : zRL t l (zbp σ f) n := by
  have p : ∀ (p : Nat) (j : Int), 0 ≤ j → zpe (zbp σ f) ((p : Nat) : Int) j = zpe σ ((p : Nat) : Int) j := fun p j j0 => if_neg (by omega)
  refine ⟨H.1.trans (zfo_congr n (fun q hq => by unfold zkn; rw [p q 8 (by decide)])), fun q hq => ?_⟩
  rw [p q 8 (by decide), p q 9 (by decide), p q 10 (by decide)]
  exact H.2 q hq
theorem zbp_e {f : Int} : zPe σ (zbp σ f) n := ⟨if_neg (by decide), fun p j hp j0 j1 => if_neg (by omega), fun k hk => if_neg (by omega)⟩
/-- the class's floors -/
theorem zB_54 {G : Nat} {R : Int × zS} (hD : zgD bB s n m) (uC : ∀ z : zS, (∀ x, 240 ≤ x → x ≤ 263 → z x = s x) → z 237 1 = (if s 10 6 < 0 then -1 else 240 + 4 * s 10 6) → zRc z (s 10 6) U) (hK : K ≤ 100) (h : bB + 100 ≤ 999) {G0 : Nat} {R0 : Int × zS} (e0 : zG G0 xm_c42 0 [224, if s 10 6 < 0 then -1 else 240 + 4 * s 10 6] [] s R0) (e1 : zG G xm_c54 0 [224, ((K : Nat) : Int), 0, 0, 0] [] R0.2 R) {fl : Nat} (hfl : s 354 0 = ((fl : Nat) : Int)) : R.1 = (zbb (s 354) n m (s 10 6) U K fl).1 ∧ (R.1 ≠ -2 → R.2 224 12 = (zbb (s 354) n m (s 10 6) U K fl).2) := by
  obtain ⟨⟨hH, hF, hL, -⟩, hG, hGt, -⟩ := hD
  have h7 := hG.1.2.1
  have g9 : s 354 0 ≤ 9 := hG.1.2.2.2.2.2.1
  obtain ⟨w, w1, ⟨w2, w3, w4⟩, w5, w6, w7⟩ := zo_prepR (s := s) (r := if s 10 6 < 0 then -1 else 240 + 4 * s 10 6)
  obtain ⟨r0, t0⟩ := R0
  obtain ⟨rfl, rfl⟩ := zdet e0 w1
  obtain ⟨F1, l1, r1, t1, q1, e2⟩ := zi_54_0 e1
  have hHw : zRH w 11 (s 354) n m := zRH_c hH (fun x x1 x2 => w7 x (by omega) (by omega))
  obtain ⟨v1, v2, v3, v4⟩ := zB_44 (s 10 6) U hG hK (by omega) hHw (w5 _ n h7 hF) q1
  have v1 : ∀ j : Nat, j < K → t1 234 ((j : Nat) : Int) = zlan (zPn (s 354) n m (s 10 6) U j) m n := v1
  have o : ∀ x, ¬ (224 ≤ x ∧ x ≤ 234) → x ≠ 237 → t1 x = s x := fun x x1 x2 => (v4 x (by omega) (by omega) (by omega)).trans (w7 x (by omega) x2)
  have o237 : t1 237 = w 237 := v4 237 (by decide) (by decide) (by decide)
  have f1 : s 19 1 = s 354 8 := hF.2.1
  have h0 : s 11 0 = s 354 0 := hH.1.1
  have loop : ∀ (G f : Nat) (u : zS) (R : Int × zS) (x4 : Int), f ≤ fl → zG G xm_c54 7 [224, ((K : Nat) : Int), (zbb (s 354) n m (s 10 6) U K f).1, ((f : Nat) : Int), x4] [] u R → (∀ x, x ≠ 224 → x ≠ 237 → x ≠ 238 → x ≠ 239 → ¬ (230 ≤ x ∧ x ≤ 233) → u x = t1 x) → u 224 7 = s 354 4 → (u 237 1 = t1 237 1 ∧ u 237 3 = t1 237 3) → ((zbb (s 354) n m (s 10 6) U K f).1 ≠ -2 → u 224 12 = (zbb (s 354) n m (s 10 6) U K f).2) → R.1 = (zbb (s 354) n m (s 10 6) U K fl).1 ∧ (R.1 ≠ -2 → R.2 224 12 = (zbb (s 354) n m (s 10 6) U K fl).2) := by
    intro G
    induction G using Nat.strongRecOn with
    | _ G ih =>
      intro f u R x4 hf e0 d d7 dg d12
      have u11 : u 11 = s 11 := (d 11 (by decide) (by decide) (by decide) (by decide) (by decide)).trans (o 11 (by decide) (by decide))
      have u19 : u 19 = s 19 := (d 19 (by decide) (by decide) (by decide) (by decide) (by decide)).trans (o 19 (by decide) (by decide))
      obtain ⟨F1, l1, ⟨c1, e1⟩ | ⟨c1, e1⟩⟩ := zi_54_7 e0
      · have c1 : ((f : Nat) : Int) < u 11 0 := c1
        have fL : f < fl := by
          rw [u11, h0, hfl] at c1
          exact Int.ofNat_lt.mp c1
        have f9 : f < 16 := by
          rw [hfl] at g9
          clear ih d dg d12 d7 c1 uC v1 v2 v3 v4 o
          omega
        have en : zw (((f : Nat) : Int) + 1) = ((f + 1 : Nat) : Int) := by
          clear ih d dg d12 d7 c1 uC v1 v2 v3 v4 o
          exact zw_id (by omega) (by omega)
        obtain ⟨F2, l2, r2, s2, q2, e2⟩ := zi_54_13 e1
        obtain ⟨rfl, rfl⟩ := zdet q2 (zb_120_0 rfl)
        have eb : zand (zshr (u (224 + -214 + 9) 1) ((f : Nat) : Int)) 1 = zbt (s 354 8) ((f : Nat) : Int) := by
          show zbt (u 19 1) _ = _
          rw [u19, f1]
        rw [eb] at e2
        by_cases cp : zbt (s 354 8) ((f : Nat) : Int) = 1
        · have eS : zbb (s 354) n m (s 10 6) U K (f + 1) = zbb (s 354) n m (s 10 6) U K f := if_pos cp
          obtain ⟨F3, l3, ⟨c3, e3⟩ | ⟨c3, e3⟩⟩ := zi_54_19 e2
          · obtain ⟨F4, l4, e4⟩ := zi_54_21 e3
            rw [en, ← eS] at e4
            exact ih F4 (Nat.lt_trans l4 (Nat.lt_trans l3 (Nat.lt_trans l2 l1))) (f + 1) u R x4 fL e4 d d7 dg (by rw [eS]; exact d12)
          · exact absurd cp c3
        · obtain ⟨F3, l3, ⟨c3, e3⟩ | ⟨c3, e3⟩⟩ := zi_54_19 e2
          · exact absurd c3 cp
          obtain ⟨F4, l4, r4, s4, q4, e4⟩ := zi_54_22 e3
          obtain ⟨a, a1, a2, a3, a4⟩ := zo_cpL (s := u) (f := 230) (g := 24) (fun i j _ _ _ _ => by omega)
          obtain ⟨rfl, rfl⟩ := zdet q4 a1
          obtain ⟨F5, l5, r5, s5, q5, e5⟩ := zi_54_28 e4
          have a19 : a (224 + -214 + 9) 1 = s 354 8 := by
            show a 19 1 = _
            rw [a4 19 (by decide), u19, f1]
          rw [a19] at q5
          obtain ⟨b, hb⟩ : ∃ b : zS, b = zu a 237 2 (zor (s 354 8) (zshl 1 ((f : Nat) : Int))) := ⟨_, rfl⟩
          have q5 : zG F5 xm_c45 0 [224, 0, ((K : Nat) : Int), 0] [] b (r5, s5) := by
            rw [hb]
            exact q5
          have bo : ∀ x, x ≠ 237 → b x = a x := fun x hx => by
            rw [hb]
            exact funext (fun y => zu_cell hx)
          have bu : ∀ x, x ≠ 237 → ¬ (230 ≤ x ∧ x ≤ 233) → b x = u x := fun x x1 x2 => (bo x x1).trans (a4 x (by omega))
          have hLb : zRL b 230 (s 354) n := by
            refine zRL_c (zRL_cp h7 a2 a3 (zRL_c hL (fun x x1 x2 => ?_))) (fun x x1 x2 => bo x (by omega))
            rw [d x (by omega) (by omega) (by omega) (by omega) (by omega), o x (by omega) (by omega)]
          have hHb : zRH b 11 (zbp (s 354) ((f : Nat) : Int)) n m := by
            have z : zRH b 11 (s 354) n m := zRH_c hH (fun x x1 x2 => by rw [bu x (by omega) (by omega), d x (by omega) (by omega) (by omega) (by omega) (by omega), o x (by omega) (by omega)])
            exact zRH_s z h7 (fun k hk => if_neg (by unfold zst at hk; omega))
          have b2371 : b 237 1 = w 237 1 := by rw [hb, zu_place (by decide), a4 237 (by decide), dg.1, o237]
          have b2373 : b 237 3 = w 237 3 := by rw [hb, zu_place (by decide), a4 237 (by decide), dg.2, o237]
          obtain ⟨k1, k2⟩ := zB_45 (F := s 10 6) (U := U) (zbp_G (f := ((f : Nat) : Int)) hG) (zGt_s hGt (fun k hk => if_neg (by unfold zst at hk; omega))) hK (by omega) hHb (zbp_L hLb) (fun j hj => by
            rw [bu 234 (by decide) (by decide), d 234 (by decide) (by decide) (by decide) (by decide) (by decide), v1 j hj]
            exact (zPe_ln h7 zbp_e j).symm) (by rw [bu 224 (by decide) (by decide), d7]; exact (if_neg (by decide)).symm) (by rw [hb, zu_hit]; exact (if_pos rfl).symm) (by rw [b2373, w4, bu 11 (by decide) (by decide), u11]) (fun z hz hz1 => uC z (fun x x1 x2 => by rw [hz x x1 x2, bu x (by omega) (by omega), d x (by omega) (by omega) (by omega) (by omega) (by omega), o x (by omega) (by omega)]) (by rw [hz1, b2371, w2])) q5
          have k1 : zRL s5 230 (zPn (zbp (s 354) ((f : Nat) : Int)) n m (s 10 6) U K) n := k1
          have k2 : ∀ x, x ≠ 238 → x ≠ 239 → ¬ (230 ≤ x ∧ x ≤ 233) → s5 x = b x := k2
          obtain ⟨F6, l6, r6, s6, q6, e6⟩ := zi_54_43 e5
          have hr := zfo_r (P := zkn (zPn (zbp (s 354) ((f : Nat) : Int)) n m (s 10 6) U K)) n h7
          have e230 : s5 (224 + 6) 0 = zfs (zkn (zPn (zbp (s 354) ((f : Nat) : Int)) n m (s 10 6) U K)) n := k1.1
          rw [e230] at q6
          obtain ⟨rfl, rfl⟩ := zdet q6 (zo_count hr.1 hr.2)
          have su : ∀ x, x ≠ 237 → x ≠ 238 → x ≠ 239 → ¬ (230 ≤ x ∧ x ≤ 233) → s5 x = u x := fun x x1 x2 x3 x4 => (k2 x x2 x3 x4).trans (bu x x1 x4)
          have lt6 : F6 < G := Nat.lt_trans l6 (Nat.lt_trans l5 (Nat.lt_trans l4 (Nat.lt_trans l3 (Nat.lt_trans l2 l1))))
          have put : ∀ (F8 : Nat), F8 < G → ((zbb (s 354) n m (s 10 6) U K f).1 < 0 ∨ zbq (s 354) n m (s 10 6) U K ((f : Nat) : Int) < (zbb (s 354) n m (s 10 6) U K f).2) → zG F8 xm_c54 7 [224, ((K : Nat) : Int), ((f : Nat) : Int), ((f + 1 : Nat) : Int), zbq (s 354) n m (s 10 6) U K ((f : Nat) : Int)] [] (zu s5 224 12 (zbq (s 354) n m (s 10 6) U K ((f : Nat) : Int))) R → R.1 = (zbb (s 354) n m (s 10 6) U K fl).1 ∧ (R.1 ≠ -2 → R.2 224 12 = (zbb (s 354) n m (s 10 6) U K fl).2) := fun F8 l8 c e8 => by
            have eS : zbb (s 354) n m (s 10 6) U K (f + 1) = (((f : Nat) : Int), zbq (s 354) n m (s 10 6) U K ((f : Nat) : Int)) := (if_neg cp).trans (if_pos c)
            refine ih F8 l8 (f + 1) _ R _ fL (by rw [eS]; exact e8) (fun x x1 x2 x3 x4 x5 => ?_) ?_ ⟨?_, ?_⟩ (fun _ => by rw [eS, zu_hit])
            · rw [← d x x1 x2 x3 x4 x5, ← su x x2 x3 x4 x5]
              exact funext (fun y => zu_cell x1)
            · rw [zu_place (by decide), su 224 (by decide) (by decide) (by decide) (by decide), d7]
            · rw [zu_cell (by decide), k2 237 (by decide) (by decide) (by decide), b2371, o237]
            · rw [zu_cell (by decide), k2 237 (by decide) (by decide) (by decide), b2373, o237]
          obtain ⟨F7, l7, ⟨c7, e7⟩ | ⟨c7, e7⟩⟩ := zi_54_47 e6
          · obtain ⟨F8, l8, e8⟩ := zi_54_55 e7
            rw [en] at e8
            exact put F8 (Nat.lt_trans l8 (Nat.lt_trans l7 lt6)) (Or.inl (by rw [c7]; decide)) e8
          · have d12' := d12 c7
            have e12 : s5 224 12 = (zbb (s 354) n m (s 10 6) U K f).2 := by rw [su 224 (by decide) (by decide) (by decide) (by decide), d12']
            obtain ⟨F8, l8, ⟨c8, e8⟩ | ⟨c8, e8⟩⟩ := zi_54_51 e7
            · obtain ⟨F9, l9, e9⟩ := zi_54_55 e8
              rw [en] at e9
              exact put F9 (Nat.lt_trans l9 (Nat.lt_trans l8 (Nat.lt_trans l7 lt6))) (Or.inr (by rw [← e12]; exact c8)) e9
            · obtain ⟨F9, l9, e9⟩ := zi_54_60 e8
              rw [en] at e9
              have nl : ¬ ((zbb (s 354) n m (s 10 6) U K f).1 < 0 ∨ zbq (s 354) n m (s 10 6) U K ((f : Nat) : Int) < (zbb (s 354) n m (s 10 6) U K f).2) := fun q => by
                rcases q with q | q
                · rcases zbb_r (σ := s 354) (n := n) (m := m) (F := s 10 6) (U := U) (K := K) f with z | z
                  · exact c7 z
                  · exact absurd q (Int.not_lt.mpr z)
                · exact c8 (by rw [e12]; exact q)
              have eS : zbb (s 354) n m (s 10 6) U K (f + 1) = zbb (s 354) n m (s 10 6) U K f := (if_neg cp).trans (if_neg nl)
              rw [← eS] at e9
              exact ih F9 (Nat.lt_trans l9 (Nat.lt_trans l8 (Nat.lt_trans l7 lt6))) (f + 1) s5 R _ fL e9 (fun x x1 x2 x3 x4 x5 => by rw [su x x2 x3 x4 x5]; exact d x x1 x2 x3 x4 x5) (by rw [su 224 (by decide) (by decide) (by decide) (by decide), d7]) ⟨by rw [k2 237 (by decide) (by decide) (by decide), b2371, o237], by rw [k2 237 (by decide) (by decide) (by decide), b2373, o237]⟩ (fun _ => by rw [eS, e12])
      · have c1 : ¬ ((f : Nat) : Int) < u 11 0 := c1
        have fL : f = fl := by
          rw [u11, h0, hfl] at c1
          exact Nat.le_antisymm hf (Nat.not_lt.mp (fun q => c1 (Int.ofNat_lt.mpr q)))
        have k4 := zi_54_62 e1
        rw [k4]
        subst fL
        exact ⟨rfl, d12⟩
  obtain ⟨F2, l2, e3⟩ := zi_54_5 e2
  exact loop F2 0 t1 R 0 (Nat.zero_le fl) e3 (fun _ _ _ _ _ _ => rfl) v2 ⟨rfl, rfl⟩ (fun q => absurd rfl q)
end MB2
