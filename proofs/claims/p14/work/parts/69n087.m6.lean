/-! hears, on both sides -/
section MH
variable {bB : Int} {σ : Int → Int} {n m : Nat} {F : Int} {U : (Int → Int) → Int} {s t : zS} {x y : Int}
/-- what hears answers -/
def zhrs (σ : Int → Int) (n m : Nat) (F : Int) (U : (Int → Int) → Int) (x : Int) : Int := if 0 ≤ x ∧ x < σ 1 then (if zpe (zPn σ n m F U 100) x 8 < 0 then -2 else zpe (zPn σ n m F U 100) x 8) else -1
/-- who has heard has heard at that bell -/
theorem zkn_Po (h7 : n ≤ 7) {p : Nat} (hp : p < n) (h : ¬ zpe σ ((p : Nat) : Int) 8 < 0) : zpe (zPo σ n m F U) ((p : Nat) : Int) 8 = zpe σ ((p : Nat) : Int) 8 := by
  have k8 : zpe (zsA σ m n) ((p : Nat) : Int) 8 = zpe σ ((p : Nat) : Int) 8 := by
    rw [zsA_p hp (by decide) (by decide), if_neg (by decide), if_neg (by decide), if_neg (by decide)]
  have e : zto (zsA σ m n) (zfs (zvD σ m) n) n F U ((p : Nat) : Int) = -1 := zto_N hp h7 (Or.inr (Or.inl (by
    unfold zkn
    rw [k8]
    exact h)))
  rw [zPo_p h7 hp (by decide) (by decide), e, if_neg (by decide), if_neg (by decide), if_neg (by decide), if_neg (by decide)]
theorem zkn_Pn (h7 : n ≤ 7) {p : Nat} (hp : p < n) {i : Nat} (h : ¬ zpe (zPn σ n m F U i) ((p : Nat) : Int) 8 < 0) : ∀ k : Nat, zpe (zPn σ n m F U (i + k)) ((p : Nat) : Int) 8 = zpe (zPn σ n m F U i) ((p : Nat) : Int) 8
  | 0 => rfl
  | k + 1 => by
    have ih := zkn_Pn h7 hp h k
    exact (zkn_Po (σ := zPn σ n m F U (i + k)) h7 hp (by rw [ih]; exact h)).trans ih
theorem zB_104 {G : Nat} {R : Int × zS} (hD : zgD bB s n m) (hC : -1 ≤ s 10 6 ∧ s 10 6 < s 7 8) (uC : ∀ z : zS, (∀ x, 240 ≤ x → x ≤ 263 → z x = s x) → z 237 1 = (if s 10 6 < 0 then -1 else 240 + 4 * s 10 6) → zRc z (s 10 6) U) (h : bB + 100 ≤ 999) (e0 : zG G xm_c104 0 [7, x] [] s R) : R.1 = zhrs (s 354) n m (s 10 6) U x := by
  have h1 : s 11 1 = s 354 1 := hD.1.1.1.2.1
  have gn : s 354 1 = ((n : Nat) : Int) := hD.2.1.1.1
  have h7 := hD.2.1.1.2.1
  unfold zhrs
  obtain ⟨F1, l1, r1, s1, q1, e1⟩ := zi_104_0 e0
  obtain ⟨rfl, rfl⟩ := zdet q1 (zo_hasP (h := 11))
  rw [h1] at e1
  by_cases c0 : 0 ≤ x ∧ x < s 354 1
  case neg =>
    rw [if_neg c0] at e1 ⊢
    obtain ⟨F2, l2, ⟨c2, e2⟩ | ⟨c2, e2⟩⟩ := zi_104_5 e1
    · have k := zi_104_6 e2
      rw [k]
    · exact absurd rfl c2
  rw [if_pos c0] at e1 ⊢
  obtain ⟨F2, l2, ⟨c2, e2⟩ | ⟨c2, e2⟩⟩ := zi_104_5 e1
  · exact absurd c2 (by decide)
  obtain ⟨p, rfl⟩ := Int.eq_ofNat_of_zero_le c0.1
  have hp : p < n := by
    clear e0 q1 e1 e2 uC
    omega
  obtain ⟨F5, l5, r5, s5, q5, e5⟩ := zi_104_8 e2
  obtain ⟨rfl, rfl⟩ := zdet q5 (zo_rif hC.1 hC.2)
  obtain ⟨F6, l6, r6, s6, q6, e6⟩ := zi_104_12 e5
  obtain ⟨F7, l7, r7, s7, q7, e7⟩ := zi_104_13 e6
  obtain ⟨F8, l8, r8, s8, q8, e8⟩ := zi_104_17 e7
  have hL : zRL s8 230 (zPn (s 354) n m (s 10 6) U 100) n := zB_look (K := 100) (s5 := s) (r := 0) hD uC (Nat.le_refl 100) h q6 q7 q8
  obtain ⟨F9, l9, r9, s9, q9, e9⟩ := zi_104_22 e8
  obtain ⟨rfl, rfl⟩ := zdet q9 (zb_120_0 rfl)
  have eb : zand (zshr (s8 (7 + 217 + 6) 0) ((p : Nat) : Int)) 1 = if zkn (zPn (s 354) n m (s 10 6) U 100) p then 1 else 0 := by
    show zbt (s8 230 0) ((p : Nat) : Int) = _
    rw [hL.1, zbt_fo (by omega) n (by omega)]
    by_cases w : zkn (zPn (s 354) n m (s 10 6) U 100) p
    · rw [if_pos ⟨hp, w⟩, if_pos w]
    · rw [if_neg (fun q => w q.2), if_neg w]
  rw [eb] at e9
  by_cases w : zkn (zPn (s 354) n m (s 10 6) U 100) p
  · rw [if_pos w] at e9
    have w' : ¬ zpe (zPn (s 354) n m (s 10 6) U 100) ((p : Nat) : Int) 8 < 0 := w
    rw [if_neg w']
    obtain ⟨F10, l10, ⟨c10, e10⟩ | ⟨c10, e10⟩⟩ := zi_104_28 e9
    · have k := zi_104_30 e10
      rw [k]
      exact (hL.2 p hp).1
    · exact absurd rfl c10
  · rw [if_neg w] at e9
    have w' : zpe (zPn (s 354) n m (s 10 6) U 100) ((p : Nat) : Int) 8 < 0 := Decidable.not_not.mp w
    rw [if_pos w']
    obtain ⟨F10, l10, ⟨c10, e10⟩ | ⟨c10, e10⟩⟩ := zi_104_28 e9
    · exact absurd c10 (by decide)
    · have k := zi_104_37 e10
      rw [k]
theorem zB_212 {G : Nat} {R : Int × zS} {z : zS} (hG : zGs bB σ n m) (h : bB + 100 ≤ 999) (hU : ¬ F < 0 → zRu z F U) (hB : zJb σ F z t) (e0 : zG G xm_c212 0 [344, x, 0] [] t R) : R.1 = zhrs σ n m F U x := by
  have gn : σ 1 = ((n : Nat) : Int) := hG.1.1
  have h7 := hG.1.2.1
  have a := hB.1
  have hb0 : 0 ≤ bB := by
    have a := hG.1.2.2.2.2.2.2.2.1
    have b := hG.1.2.2.2.2.2.2.2.2.2
    omega
  unfold zhrs
  obtain ⟨F1, l1, r1, s1, q1, e1⟩ := zi_212_0 e0
  obtain ⟨rfl, rfl⟩ := zdet q1 zq_isP
  rw [a] at e1
  by_cases c0 : 0 ≤ x ∧ x < σ 1
  case neg =>
    rw [if_neg c0] at e1 ⊢
    obtain ⟨F2, l2, ⟨c2, e2⟩ | ⟨c2, e2⟩⟩ := zi_212_3 e1
    · have k := zi_212_4 e2
      rw [k]
    · exact absurd rfl c2
  rw [if_pos c0] at e1 ⊢
  obtain ⟨F2, l2, ⟨c2, e2⟩ | ⟨c2, e2⟩⟩ := zi_212_3 e1
  · exact absurd c2 (by decide)
  obtain ⟨p, rfl⟩ := Int.eq_ofNat_of_zero_le c0.1
  have hp : p < n := by
    clear e0 q1 e1 e2 hU
    omega
  have p6 : ((p : Nat) : Int) ≤ 6 := by
    clear e0 q1 e1 e2 hU
    omega
  -- the end
  have fin : ∀ (G k : Nat) (u : zS) (R : Int × zS), k ≤ 100 → (k = 100 ∨ ¬ zpe (zPn σ n m F U k) ((p : Nat) : Int) 8 < 0) → u 354 = zPn σ n m F U k → ∀ i : Int, zG G xm_c212 22 [344, ((p : Nat) : Int), i] [] u R → R.1 = if zpe (zPn σ n m F U 100) ((p : Nat) : Int) 8 < 0 then -2 else zpe (zPn σ n m F U 100) ((p : Nat) : Int) 8 := by
    intro G k u R hk hkn a i e0
    have ev : zpe (zPn σ n m F U k) ((p : Nat) : Int) 8 = zpe (zPn σ n m F U 100) ((p : Nat) : Int) 8 := by
      rcases hkn with rfl | w
      · rfl
      · have := zkn_Pn h7 hp w (100 - k)
        rw [Nat.add_sub_cancel' hk] at this
        exact this.symm
    obtain ⟨F1, l1, r1, s1, q1, e1⟩ := zi_212_22 e0
    obtain ⟨rfl, rfl⟩ := zdet q1 (zr_at (Int.natCast_nonneg p) (by omega) (by decide) (by decide))
    have er : u 354 (10 + 11 * ((p : Nat) : Int) + 8) = zpe (zPn σ n m F U 100) ((p : Nat) : Int) 8 := by
      rw [a]
      exact ev
    rw [er] at e1
    obtain ⟨F2, l2, r2, s2, q2, e2⟩ := zi_212_26 e1
    obtain ⟨F3, l3, ⟨c3, e3⟩ | ⟨c3, e3⟩⟩ := zi_212_29 e2
    · have k := zi_212_31 e3
      rw [k, if_pos c3]
    · have k := zi_212_33 e3
      rw [k, if_neg c3]
  have loop : ∀ (G : Nat) (k : Nat) (u : zS) (R : Int × zS), k ≤ 100 → zG G xm_c212 10 [344, ((p : Nat) : Int), ((k : Nat) : Int)] [] u R → u 354 = zPn σ n m F U k → u 344 21 = F → (∀ x, 346 ≤ x → x ≤ 349 → u x = z x) → R.1 = if zpe (zPn σ n m F U 100) ((p : Nat) : Int) 8 < 0 then -2 else zpe (zPn σ n m F U 100) ((p : Nat) : Int) 8 := by
    intro G
    induction G using Nat.strongRecOn with
    | _ G ih =>
      intro k u R hk e0 a b c
      obtain ⟨F1, l1, ⟨c1, e1⟩ | ⟨c1, e1⟩⟩ := zi_212_10 e0
      · have kK : k < 100 := by
          clear ih a b c hU
          omega
        obtain ⟨F2, l2, r2, s2, q2, e2⟩ := zi_212_13 e1
        obtain ⟨rfl, rfl⟩ := zdet q2 (zr_know a (Int.natCast_nonneg p) p6)
        by_cases w : zpe (zPn σ n m F U k) ((p : Nat) : Int) 8 < 0
        · rw [if_pos w] at e2
          obtain ⟨F3, l3, ⟨c3, e3⟩ | ⟨c3, e3⟩⟩ := zi_212_16 e2
          · obtain ⟨F4, l4, r4, s4, q4, e4⟩ := zi_212_17 e3
            obtain ⟨F5, l5, e5⟩ := zi_212_19 e4
            have g := zPn_G (F := F) (U := U) hG (K := 100) h k hk
            obtain ⟨s', w1, w2, w3⟩ := zr_passes (s := u) (σ := zPn σ n m F U k) (n := n) (m := m) (F := F) (U := U) a g.1.1 h7 g.1.2.2.1 g.1.2.2.2.1 b (fun q => by
              have := hU q
              intro v ws x1 x2
              exact this v ws (fun x y1 y2 => (x1 x y1 y2).trans (c x y1 y2)) x2)
            obtain ⟨rfl, rfl⟩ := zdet q4 w1
            have en : zw (((k : Nat) : Int) + 1) = ((k + 1 : Nat) : Int) := by
              clear ih a b c hU w3 w2 g
              exact zw_id (by omega) (by omega)
            rw [en] at e5
            exact ih F5 (by clear a b c hU w3 w2 g; omega) (k + 1) s' R kK e5 w2 (by rw [w3.2 21 (by decide) (by decide), b]) (fun x x1 x2 => by rw [w3.1 x (by omega) (by omega) (by omega) (by omega) (by omega)]; exact c x x1 x2)
          · exact absurd rfl c3
        · rw [if_neg w] at e2
          obtain ⟨F3, l3, ⟨c3, e3⟩ | ⟨c3, e3⟩⟩ := zi_212_16 e2
          · exact absurd c3 (by decide)
          · exact fin F3 k u R hk (Or.inr w) a _ e3
      · have kK : k = 100 := by
          clear ih a b c hU
          omega
        exact fin F1 k u R hk (Or.inl kK) a _ e1
  obtain ⟨F5, l5, r5, s5, q5, e5⟩ := zi_212_6 e2
  obtain ⟨j1, j2⟩ := zJ_207 hB q5
  obtain ⟨F6, l6, e6⟩ := zi_212_8 e5
  exact loop F6 0 s5 R (Nat.zero_le 100) e6 j2 j1.2.2.2.1 j1.2.2.2.2
/-- hears answers alike -/
theorem zB_hears {s1 s2 : zS} {q1 q2 : Int} (H : zRZ bB s) (h6 : s 7 8 ≤ 6) (h : bB + 100 ≤ 999) (e1 : zE xm_c104 [7, x] s q1 s1) (e2 : zE xm_c212 [344, x, 0] s1 q2 s2) : q1 = q2 := by
  obtain ⟨G1, f1⟩ := e1
  obtain ⟨G2, f2⟩ := e2
  have hq : zQf s s1 := zQ_104 f1
  obtain ⟨U, uC, uM⟩ := zUw H.2.1 h6 H.2.2.1
  obtain ⟨n, m, hD, -⟩ := H.2.2.2.1
  have c1 := H.2.2.1.1
  have a : q1 = zhrs (s 354) n m (s 10 6) U x := zB_104 hD H.2.2.1.2.1 uC h f1
  have o : ∀ x, x < 224 ∨ 240 ≤ x → s1 x = s x := fun x hx => hq x (by omega)
  have b : q2 = zhrs (s 354) n m (s 10 6) U x := zB_212 (z := s1) (t := s1) hD.2.1 h (fun q => uM q s1 (fun x x1 x2 => o x (by omega))) ⟨by rw [o 354 (by omega)], by rw [o 344 (by omega), c1], fun _ _ _ => rfl⟩ f2
  rw [a, b]
end MH
