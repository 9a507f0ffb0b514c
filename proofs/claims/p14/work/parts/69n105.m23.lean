/-! all starts, in the reference; starts on both sides -/
/-- the starts that were found so far, in the reference -/
def zML (A : Nat × Nat → Nat → Int) (n : Nat) (u : zS) (L : List (Nat × Nat)) : Prop := u 344 30 = ((L.length : Nat) : Int) ∧ (∀ i : Nat, i < L.length → u 358 ((i : Nat) : Int) = 64 * (((znt L i).1 : Nat) : Int) + (((znt L i).2 : Nat) : Int)) ∧ ∀ i q : Nat, i < L.length → q < n → u 359 (7 * ((i : Nat) : Int) + ((q : Nat) : Int)) = A (znt L i) q
/-- what starts answers of a list -/
def zsta (L : List (Nat × Nat)) (y : Int) : Int := if y = 0 then ((L.length : Nat) : Int) else if L.length = 0 then -2 else if y = 1 then (((znt L 0).1 : Nat) : Int) else (((znt L 0).2 : Nat) : Int)
section NF
variable {bB : Int} {σ τ : Int → Int} {n m K B M : Nat} {F : Int} {U : (Int → Int) → Int} {s t z : zS} {a c x y f h : Int} {p q b i : Nat} {A : Nat × Nat → Nat → Int} {L : List (Nat × Nat)}
theorem zPk_t {s s1 s2 : zS} (h : zPk s s1) (h' : zPk s1 s2) : zPk s s2 := ⟨fun x a b c d e => (h'.1 x a b c d e).trans (h.1 x a b c d e), fun y a b => (h'.2 y a b).trans (h.2 y a b)⟩
theorem zPk_u {i v : Int} : zPk t (zu t 354 i v) := ⟨fun x _ _ _ d _ => funext (fun y => zu_cell d), fun y _ _ => zu_cell (by decide)⟩
theorem zPk_c {u : zS} (e : ∀ x, x ≠ 354 → u x = t x) : zPk t u := ⟨fun x _ _ _ d _ => e x d, fun y _ _ => by rw [e 344 (by decide)]⟩
theorem zB_209k {G : Nat} {R : Int × zS} (H : zGs bB σ n m) {K : Nat} (h : bB + ((K : Nat) : Int) ≤ 999) (hU : ¬ F < 0 → zRu z F U) (e0 : zG G xm_c209 0 [344, ((K : Nat) : Int), 0] [] t R) (a : t 354 = σ) (b : t 344 21 = F) (c : ∀ x, 346 ≤ x → x ≤ 349 → t x = z x) : zPk t R.2 := by
  have h7 := H.1.2.1
  have h0 : 0 ≤ bB := Int.le_trans H.1.2.2.2.2.2.2.2.1 H.1.2.2.2.2.2.2.2.2.2
  have loop : ∀ (G : Nat) (k : Nat) (u : zS) (R : Int × zS), k ≤ K → zG G xm_c209 2 [344, ((K : Nat) : Int), ((k : Nat) : Int)] [] u R → u 354 = zPn σ n m F U k → zPk t u → zPk t R.2 := by
    intro G
    induction G using Nat.strongRecOn with
    | _ G ih =>
      intro k u R hk e0 a P
      obtain ⟨F1, l1, ⟨c1, e1⟩ | ⟨c1, e1⟩⟩ := zi_209_2 e0
      · have kK : k < K := by
          clear ih a P hU c
          omega
        obtain ⟨F2, l2, r2, s2, q2, e2⟩ := zi_209_5 e1
        obtain ⟨F3, l3, e3⟩ := zi_209_7 e2
        have g := zPn_G (F := F) (U := U) H h k hk
        have b2 : u 344 21 = F := (P.2 21 (by decide) (by decide)).trans b
        have c2 : ∀ x, 346 ≤ x → x ≤ 349 → u x = z x := fun x x1 x2 => (P.1 x (by omega) (by omega) (by omega) (by omega) (by omega)).trans (c x x1 x2)
        obtain ⟨s', w1, w2, w3⟩ := zr_passes (s := u) (σ := zPn σ n m F U k) (n := n) (m := m) (F := F) (U := U) a g.1.1 h7 g.1.2.2.1 g.1.2.2.2.1 b2 (fun q => by
          have := hU q
          intro v ws x1 x2
          exact this v ws (fun x y1 y2 => (x1 x y1 y2).trans (c2 x y1 y2)) x2)
        obtain ⟨rfl, rfl⟩ := zdet q2 w1
        have g4 := g.1.2.2.2.2.2.2.2
        have en : zw (((k : Nat) : Int) + 1) = ((k + 1 : Nat) : Int) := by
          clear ih a P hU c w3 w2 g c2
          exact zw_id (by omega) (by omega)
        rw [en] at e3
        exact ih F3 (Nat.lt_trans l3 (Nat.lt_trans l2 l1)) (k + 1) s' R kK e3 w2 (zPk_t P w3)
      · rw [zi_209_10 e1]
        exact P
  obtain ⟨F5, l5, e5⟩ := zi_209_0 e0
  exact loop F5 0 t R (Nat.zero_le K) e5 a ⟨fun _ _ _ _ _ _ => rfl, fun _ _ _ => rfl⟩
theorem zB_207f {G : Nat} {R : Int × zS} (e0 : zG G xm_c207 0 [344, 0] [] t R) : ∀ x, x ≠ 357 → R.2 x = t x := by
  have loop : ∀ (G : Nat) (k : Int) (u : zS) (R : Int × zS), (∀ x, x ≠ 357 → u x = t x) → zG G xm_c207 2 [344, k] [] u R → ∀ x, x ≠ 357 → R.2 x = t x := by
    intro G
    induction G using Nat.strongRecOn with
    | _ G ih =>
      intro k u R o e0
      obtain ⟨F1, l1, ⟨c1, e1⟩ | ⟨c1, e1⟩⟩ := zi_207_2 e0
      · obtain ⟨F2, l2, e2⟩ := zi_207_5 e1
        exact ih F2 (Nat.lt_trans l2 l1) _ _ R (fun x hx => by
          rw [← o x hx]
          exact funext (fun y => zu_cell hx)) e2
      · rw [zi_207_15 e1]
        exact o
  obtain ⟨F1, l1, e1⟩ := zi_207_0 e0
  exact loop F1 0 t R (fun _ _ => rfl) e1
theorem zB_208f {G : Nat} {R : Int × zS} (e0 : zG G xm_c208 0 [344, 0] [] t R) : ∀ x, x ≠ 354 → R.2 x = t x := by
  have loop : ∀ (G : Nat) (k : Int) (u : zS) (R : Int × zS), (∀ x, x ≠ 354 → u x = t x) → zG G xm_c208 2 [344, k] [] u R → ∀ x, x ≠ 354 → R.2 x = t x := by
    intro G
    induction G using Nat.strongRecOn with
    | _ G ih =>
      intro k u R o e0
      obtain ⟨F1, l1, ⟨c1, e1⟩ | ⟨c1, e1⟩⟩ := zi_208_2 e0
      · obtain ⟨F2, l2, e2⟩ := zi_208_5 e1
        exact ih F2 (Nat.lt_trans l2 l1) _ _ R (fun x hx => by
          rw [← o x hx]
          exact funext (fun y => zu_cell hx)) e2
      · rw [zi_208_15 e1]
        exact o
  obtain ⟨F1, l1, e1⟩ := zi_208_0 e0
  exact loop F1 0 t R (fun _ _ => rfl) e1
theorem zB_219k {G : Nat} {R : Int × zS} (H : zGs bB σ n m) (hU : ¬ F < 0 → zRu z F U) (hp : p < n) (hb : b ≤ 40) (hB : B ≤ 999) (hbB : b ≤ B) (e0 : zG G xm_c219 0 [344, ((p : Nat) : Int), ((b : Nat) : Int), ((B : Nat) : Int), 0, 0] [] t R) (a : t 354 = σ) (b0 : t 344 21 = F) (c0 : ∀ x, 346 ≤ x → x ≤ 349 → t x = z x) : R.2 354 = zfin σ n m F U B p b ∧ zPk t R.2 := by
  refine ⟨zB_219 H hU hp hb hB hbB e0 a b0 c0, ?_⟩
  have h7 := H.1.2.1
  have gn := H.1.1
  have p6 : ((p : Nat) : Int) ≤ 6 := by
    clear H hU c0 e0
    omega
  have home : ∀ (G i : Nat) (x5 : Int) (u : zS) (R : Int × zS), i ≤ n → u 354 = zs0 σ i → zPk t u → zG G xm_c219 15 [344, ((p : Nat) : Int), ((b : Nat) : Int), ((B : Nat) : Int), ((i : Nat) : Int), x5] [] u R → ∃ (F' : Nat) (u' : zS) (x4 x5' : Int), u' 354 = zs0 σ n ∧ zPk t u' ∧ zG F' xm_c219 91 [344, ((p : Nat) : Int), ((b : Nat) : Int), ((B : Nat) : Int), x4, x5'] [] u' R := by
    intro G
    induction G using Nat.strongRecOn with
    | _ G ih =>
      intro i x5 u R hi a1 P e0
      have u1 : u 354 1 = ((n : Nat) : Int) := by
        rw [a1, zs0_o (by omega) (by decide) (by decide), gn]
      obtain ⟨F1, l1, ⟨d1, e1⟩ | ⟨d1, e1⟩⟩ := zi_219_15 e0
      · have d1 : ((i : Nat) : Int) < u 354 1 := d1
        have iL : i < n := by
          rw [u1] at d1
          exact Int.ofNat_lt.mp d1
        have i6 : ((i : Nat) : Int) ≤ 6 := by
          clear ih d1 H hU c0 a1 u1 P
          omega
        obtain ⟨z0, zc, z138, en⟩ := zs_ix i6
        obtain ⟨v4', w4, w138⟩ := zs_w i6 a1
        obtain ⟨F2, l2, e2⟩ := zi_219_21 e1
        rw [z0, zc 1 (by decide) (by decide), zc 2 (by decide) (by decide), zc 3 (by decide) (by decide), zc 4 (by decide) (by decide), zc 8 (by decide) (by decide), zc 9 (by decide) (by decide), zc 10 (by decide) (by decide), z138, en] at e2
        rw [v4', w4, w138] at e2
        exact ih F2 (Nat.lt_trans l2 l1) (i + 1) _ _ R iL (zs0_s a1) (zPk_t P (zPk_c (fun x hx => funext (fun y => by rw [zu_cell hx, zu_cell hx, zu_cell hx, zu_cell hx, zu_cell hx, zu_cell hx, zu_cell hx])))) e2
      · have d1 : ¬ ((i : Nat) : Int) < u 354 1 := d1
        have iL : i = n := by
          rw [u1] at d1
          exact Nat.le_antisymm hi (Nat.not_lt.mp (fun q => d1 (Int.ofNat_lt.mpr q)))
        rw [iL] at a1
        exact ⟨F1, u, _, _, a1, P, e1⟩
  obtain ⟨F1, l1, e1⟩ := zi_219_0 e0
  obtain ⟨F2, u, x4, x5, a2, P2, e2⟩ := home F1 0 0 _ R (Nat.zero_le n) (by
    rw [zs0_0]
    funext k
    have V : zu t 354 4 0 354 145 = σ 145 := by rw [zu_place (by decide), a]
    show zu (zu t 354 4 0) 354 8 (zu t 354 4 0 354 145) 354 k = (if k = 4 then 0 else if k = 8 then σ 145 else σ k)
    rw [V, zu2, zu2, a]
    by_cases k8 : k = 8
    · rw [if_pos k8, if_neg (by omega), if_pos k8]
    · rw [if_neg k8]
      by_cases k4 : k = 4
      · rw [if_pos k4, if_pos k4]
      · rw [if_neg k4, if_neg k4, if_neg k8]) (zPk_c (fun x hx => funext (fun y => by
    rw [zu_cell (show x ≠ 344 + 10 from hx), zu_cell (show x ≠ 344 + 10 from hx)]))) e1
  have b2 : u 344 21 = F := (P2.2 21 (by decide) (by decide)).trans b0
  have c2 : ∀ x, 346 ≤ x → x ≤ 349 → u x = z x := fun x x1 x2 => (P2.1 x (by omega) (by omega) (by omega) (by omega) (by omega)).trans (c0 x x1 x2)
  obtain ⟨F3, l3, r3, s3, q3, e3⟩ := zi_219_91 e2
  have hb9 : (0 : Int) + ((b : Nat) : Int) ≤ 999 := by omega
  obtain ⟨m1, m2, m3⟩ := zB_209 (zs0_G H) hb9 hU q3 a2 b2 c2
  have P3 : zPk u s3 := zB_209k (zs0_G H) hb9 hU q3 a2 b2 c2
  have m1 : s3 354 = zPn (zs0 σ n) n m F U b := m1
  obtain ⟨F4, l4, r4, s4, q4, e4⟩ := zi_219_94 e3
  obtain ⟨t', y1, y2, y3⟩ := zr_201 (t := s3) (x := ((p : Nat) : Int)) (y := 0) (Int.natCast_nonneg p) p6
  obtain ⟨rfl, rfl⟩ := zdet q4 y1
  have a4 : t' 354 = zst1 σ n m F U p b := by
    rw [y2, m1, zst1_4 H hb]
    rfl
  obtain ⟨F5, l5, r5, s5, q5, e5⟩ := zi_219_98 e4
  have ez : zw (((B : Nat) : Int) - ((b : Nat) : Int)) = ((B - b : Nat) : Int) := by
    clear H hU c0 home
    rw [zw_id (by omega) (by omega)]
    omega
  rw [ez] at q5
  have hB9 : ((b : Nat) : Int) + ((B - b : Nat) : Int) ≤ 999 := by
    clear H hU c0 home
    omega
  have P5 : zPk t' s5 := zB_209k (zst1_G H hp hb) hB9 hU q5 a4 (by rw [y3 344 (by decide)]; exact m2) (fun x x1 x2 => by rw [y3 x (by omega)]; exact m3 x x1 x2)
  rw [zi_219_103 e5]
  exact zPk_t P2 (zPk_t P3 (zPk_t (zPk_c y3) P5))
theorem zB_221 {G : Nat} {R : Int × zS} (h7 : n ≤ 7) (gn : τ 1 = ((n : Nat) : Int)) (hs : t 354 = τ) (hp : p ≤ 6) (hb : b ≤ 40) (hC : zML A n t L) (hl : L.length < 287) (hA : ∀ q : Nat, q < n → A (p, b) q = znf τ ((q : Nat) : Int)) (e0 : zG G xm_c221 0 [344, ((p : Nat) : Int), ((b : Nat) : Int), 0, 0] [] t R) : zML A n R.2 (L ++ [(p, b)]) := by
  obtain ⟨C1, C2, C3⟩ := hC
  have l9 : ((L.length : Nat) : Int) < 287 := Int.ofNat_lt.mpr hl
  have l0 : (0 : Int) ≤ ((L.length : Nat) : Int) := Int.natCast_nonneg _
  have loop : ∀ (G k : Nat) (x4 : Int) (u : zS) (R : Int × zS), k ≤ n → u 354 = τ → u 344 30 = ((L.length : Nat) : Int) → (∀ i : Nat, i < L.length + 1 → u 358 ((i : Nat) : Int) = 64 * (((znt (L ++ [(p, b)]) i).1 : Nat) : Int) + (((znt (L ++ [(p, b)]) i).2 : Nat) : Int)) → (∀ i q : Nat, i < L.length → q < n → u 359 (7 * ((i : Nat) : Int) + ((q : Nat) : Int)) = A (znt L i) q) → (∀ q : Nat, q < k → u 359 (7 * ((L.length : Nat) : Int) + ((q : Nat) : Int)) = znf τ ((q : Nat) : Int)) → zG G xm_c221 12 [344, ((p : Nat) : Int), ((b : Nat) : Int), ((k : Nat) : Int), x4] [] u R → zML A n R.2 (L ++ [(p, b)]) := by
    intro G
    induction G using Nat.strongRecOn with
    | _ G ih =>
      intro k x4 u R hk us u30 u358 uA uK e0
      obtain ⟨F1, l1, ⟨c1, e1⟩ | ⟨c1, e1⟩⟩ := zi_221_12 e0
      · have c1 : ((k : Nat) : Int) < u 354 1 := c1
        have kn : k < n := by
          rw [us, gn] at c1
          exact Int.ofNat_lt.mp c1
        have k6 : ((k : Nat) : Int) ≤ 6 := by
          clear ih uA uK u358 C2 C3 hA c1
          omega
        have en : zw (((k : Nat) : Int) + 1) = ((k + 1 : Nat) : Int) := by
          clear ih uA uK u358 C2 C3 hA c1
          exact zw_id (by omega) (by omega)
        obtain ⟨F2, l2, r2, s2, q2, e2⟩ := zi_221_18 e1
        have kk := zB_217 us (Int.natCast_nonneg k) k6 q2
        obtain ⟨k31, k32⟩ := zpr kk
        subst k31
        have k33 := k32.symm
        subst k33
        obtain ⟨F3, l3, e3⟩ := zi_221_31 e2
        have ei : zw (zw (7 * u 344 30) + ((k : Nat) : Int)) = 7 * ((L.length : Nat) : Int) + ((k : Nat) : Int) := by
          rw [u30]
          clear ih uA uK u358 C2 C3 hA c1 en e3
          rw [zw_id (x := 7 * ((L.length : Nat) : Int)) (by omega) (by omega), zw_id (by omega) (by omega)]
        rw [ei, en] at e3
        have o : ∀ x, x ≠ 359 → zu u (344 + 15) (7 * ((L.length : Nat) : Int) + ((k : Nat) : Int)) (znf τ ((k : Nat) : Int)) x = u x := fun x hx => funext (fun y => zu_cell hx)
        have hit : ∀ z, zu u (344 + 15) (7 * ((L.length : Nat) : Int) + ((k : Nat) : Int)) (znf τ ((k : Nat) : Int)) 359 z = if z = 7 * ((L.length : Nat) : Int) + ((k : Nat) : Int) then znf τ ((k : Nat) : Int) else u 359 z := fun z => zu2
        refine ih F3 (Nat.lt_trans l3 (Nat.lt_trans l2 l1)) (k + 1) _ _ R kn ?_ ?_ (fun i hi => ?_) (fun i q hi hq => ?_) (fun q hq => ?_) e3
        · rw [o 354 (by decide)]
          exact us
        · rw [o 344 (by decide)]
          exact u30
        · rw [o 358 (by decide)]
          exact u358 i hi
        · rw [hit, if_neg (by clear ih uA uK u358 C2 C3 hA c1 ei hit o en e3; omega)]
          exact uA i q hi hq
        · rw [hit]
          by_cases e : q = k
          · rw [e, if_pos rfl]
          · rw [if_neg (by clear ih uA uK u358 C2 C3 hA c1 ei hit o en e3; omega)]
            exact uK q (Nat.lt_of_le_of_ne (Nat.le_of_lt_succ hq) e)
      · have c1 : ¬ ((k : Nat) : Int) < u 354 1 := c1
        have kn : k = n := by
          rw [us, gn] at c1
          exact Nat.le_antisymm hk (Nat.not_lt.mp (fun q => c1 (Int.ofNat_lt.mpr q)))
        rw [zi_221_34 e1]
        have ew : zw (u 344 30 + 1) = ((L.length + 1 : Nat) : Int) := by
          rw [u30]
          clear ih uA uK u358 C2 C3 hA c1
          rw [zw_id (by omega) (by omega)]
          omega
        have o : ∀ x, x ≠ 344 → zu u 344 30 (zw (u 344 30 + 1)) x = u x := fun x hx => funext (fun y => zu_cell hx)
        refine ⟨?_, fun i hi => ?_, fun i q hi hq => ?_⟩
        · show zu u 344 30 (zw (u 344 30 + 1)) 344 30 = _
          rw [zu_hit, ew, zlA]
        · show zu u 344 30 (zw (u 344 30 + 1)) 358 _ = _
          rw [o 358 (by decide)]
          rw [zlA] at hi
          exact u358 i hi
        · show zu u 344 30 (zw (u 344 30 + 1)) 359 _ = _
          rw [o 359 (by decide)]
          rw [zlA] at hi
          by_cases d : i < L.length
          · rw [znt_l _ _ _ d]
            exact uA i q d hq
          · have ei : i = L.length := Nat.le_antisymm (Nat.le_of_lt_succ hi) (Nat.not_lt.mp d)
            rw [ei, znt_e, hA q hq]
            exact uK q (by rw [kn]; exact hq)
  obtain ⟨F1, l1, e1⟩ := zi_221_0 e0
  have ez : zw (zw (64 * ((p : Nat) : Int)) + ((b : Nat) : Int)) = 64 * ((p : Nat) : Int) + ((b : Nat) : Int) := by
    clear loop C2 C3 hA
    rw [zw_id (x := 64 * ((p : Nat) : Int)) (by omega) (by omega), zw_id (by omega) (by omega)]
  rw [ez] at e1
  have e1 : zG F1 xm_c221 12 [344, ((p : Nat) : Int), ((b : Nat) : Int), 0, 0] [] (zu t 358 (t 344 30) (64 * ((p : Nat) : Int) + ((b : Nat) : Int))) R := e1
  have o : ∀ x, x ≠ 358 → zu t 358 (t 344 30) (64 * ((p : Nat) : Int) + ((b : Nat) : Int)) x = t x := fun x hx => funext (fun y => zu_cell hx)
  refine loop F1 0 0 _ R (Nat.zero_le n) ?_ ?_ (fun i hi => ?_) (fun i q hi hq => ?_) (fun q hq => absurd hq (Nat.not_lt_zero q)) e1
  · rw [o 354 (by decide)]
    exact hs
  · rw [o 344 (by decide)]
    exact C1
  · rw [zu2, C1]
    by_cases d : i < L.length
    · rw [if_neg (show ¬ ((i : Nat) : Int) = ((L.length : Nat) : Int) from fun q => absurd (Int.ofNat.inj q) (Nat.ne_of_lt d)), znt_l _ _ _ d]
      exact C2 i d
    · have ei : i = L.length := Nat.le_antisymm (Nat.le_of_lt_succ hi) (Nat.not_lt.mp d)
      rw [ei, if_pos rfl, znt_e]
  · rw [o 359 (by decide)]
    exact C3 i q hi hq
end NF
