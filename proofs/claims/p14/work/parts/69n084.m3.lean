/-! where, on both sides -/
section MD
variable {bB : Int} {σ : Int → Int} {n m : Nat} {F : Int} {U : (Int → Int) → Int} {s t : zS} {x y : Int}
theorem zo_prepR {r : Int} : ∃ s', zE xm_c42 [224, r] s 0 s' ∧ (s' 237 1 = r ∧ s' 237 2 = s 19 1 ∧ s' 237 3 = s 11 4) ∧ (∀ (σ : Int → Int) (n : Nat), n ≤ 7 → zRF s 19 σ n → zRF s' 225 σ n) ∧ (∀ (σ : Int → Int) (n : Nat), n ≤ 7 → zRL s 24 σ n → zRL s' 230 σ n) ∧ ∀ x, ¬ (225 ≤ x ∧ x ≤ 233) → x ≠ 237 → s' x = s x := by
  obtain ⟨t1, ht1⟩ : ∃ t1 : zS, t1 = zu (zu (zu s 237 1 r) 237 2 (s 19 1)) 237 3 (s 11 4) := ⟨_, rfl⟩
  have o1 : ∀ x, x ≠ 237 → t1 x = s x := fun x hx => by
    rw [ht1]
    exact funext (fun y => by rw [zu_cell hx, zu_cell hx, zu_cell hx])
  obtain ⟨t2, a1, a2, a3, a4⟩ := zo_cpF (s := t1) (f := 225) (g := 19) (fun i j _ _ _ _ => by omega)
  obtain ⟨t3, b1, b2, b3, b4⟩ := zo_cpL (s := t2) (f := 230) (g := 24) (fun i j _ _ _ _ => by omega)
  refine ⟨t3, zb_42_0 (s1 := t2) (r := 0) ?_ (zb_42_24 (s1 := t3) (r := 0) b1 (zb_42_30 rfl)), ⟨?_, ?_, ?_⟩, fun σ n hn H => ?_, fun σ n hn H => ?_, fun x x1 x2 => by rw [b4 x (by omega), a4 x (by omega), o1 x x2]⟩
  · rw [ht1] at a1
    exact a1
  · rw [b4 237 (by decide), a4 237 (by decide), ht1, zu_place (by decide), zu_place (by decide), zu_hit]
  · rw [b4 237 (by decide), a4 237 (by decide), ht1, zu_place (by decide), zu_hit]
  · rw [b4 237 (by decide), a4 237 (by decide), ht1, zu_hit]
  · exact zRF_c (zRF_cp hn a2 a3 (zRF_c H (fun x x1 x2 => o1 x (by omega)))) (fun x x1 x2 => b4 x (by omega))
  · exact zRL_cp hn b2 b3 (zRL_c H (fun x x1 x2 => by rw [a4 x (by omega), o1 x (by omega)]))
theorem zdet {c : List xm_E} {l : List Int} {G : Nat} {s s1 s2 : zS} {r1 r2 : Int} (q : zG G c 0 l [] s (r1, s1)) (e : zE c l s r2 s2) : r2 = r1 ∧ s2 = s1 := by
  obtain ⟨G2, h⟩ := e
  have ed := zG_det q h
  injection ed with a b
  exact ⟨a.symm, b.symm⟩
theorem zG_E {c : List xm_E} {l : List Int} {G : Nat} {s s1 : zS} {r1 : Int} (q : zG G c 0 l [] s (r1, s1)) : zE c l s r1 s1 := ⟨G, q⟩
/-- what where answers -/
def zwh (σ : Int → Int) (n m : Nat) (F : Int) (U : (Int → Int) → Int) (x y : Int) : Int := if 0 ≤ x ∧ x < σ 1 then (if 0 ≤ y ∧ y ≤ 100 then zPn σ n m F U y.toNat (10 + 11 * x + 0) else -1) else -1
theorem zB_103 {G : Nat} {R : Int × zS} (U : (Int → Int) → Int) (hD : zgD bB s n m) (hC : -1 ≤ s 10 6 ∧ s 10 6 < s 7 8) (h : bB + 100 ≤ 999) (e0 : zG G xm_c103 0 [7, x, y] [] s R) : R.1 = zwh (s 354) n m (s 10 6) U x y := by
  obtain ⟨⟨hH, hF, hL, -⟩, hG, -⟩ := hD
  have h1 : s 11 1 = s 354 1 := hH.1.2.1
  have gn : s 354 1 = ((n : Nat) : Int) := hG.1.1
  have h7 := hG.1.2.1
  unfold zwh
  obtain ⟨F1, l1, r1, s1, q1, e1⟩ := zi_103_0 e0
  obtain ⟨rfl, rfl⟩ := zdet q1 (zo_hasP (h := 11))
  rw [h1] at e1
  by_cases c0 : 0 ≤ x ∧ x < s 354 1
  case neg =>
    rw [if_neg c0] at e1 ⊢
    obtain ⟨F2, l2, ⟨c2, e2⟩ | ⟨c2, e2⟩⟩ := zi_103_5 e1
    · have k := zi_103_11 e2
      rw [k]
    · exact absurd rfl c2
  rw [if_pos c0] at e1 ⊢
  obtain ⟨F2, l2, ⟨c2, e2⟩ | ⟨c2, e2⟩⟩ := zi_103_5 e1
  · exact absurd c2 (by decide)
  obtain ⟨F3, l3, ⟨c3, e3⟩ | ⟨c3, e3⟩⟩ := zi_103_6 e2
  · have k := zi_103_11 e3
    rw [k, if_neg (fun q => absurd q.1 (Int.not_le.mpr c3))]
  obtain ⟨F4, l4, ⟨c4, e4⟩ | ⟨c4, e4⟩⟩ := zi_103_8 e3
  · have k := zi_103_11 e4
    rw [k, if_neg (fun q => absurd q.2 (Int.not_le.mpr c4))]
  rw [if_pos ⟨Int.not_lt.mp c3, Int.not_lt.mp c4⟩]
  obtain ⟨K, rfl⟩ := Int.eq_ofNat_of_zero_le (Int.not_lt.mp c3)
  obtain ⟨p, rfl⟩ := Int.eq_ofNat_of_zero_le c0.1
  have hK : K ≤ 100 := by
    clear e0 q1 e1 e2 e3 e4
    omega
  have hp : p < n := by
    clear e0 q1 e1 e2 e3 e4
    omega
  obtain ⟨F5, l5, r5, s5, q5, e5⟩ := zi_103_13 e4
  obtain ⟨rfl, rfl⟩ := zdet q5 (zo_rif hC.1 hC.2)
  obtain ⟨F6, l6, r6, s6, q6, e6⟩ := zi_103_17 e5
  obtain ⟨w, w1, w2, w3, w4, w5⟩ := zo_prepR (s := s) (r := if s 10 6 < 0 then -1 else 240 + 4 * s 10 6)
  obtain ⟨rfl, rfl⟩ := zdet q6 w1
  obtain ⟨F7, l7, r7, s7, q7, e7⟩ := zi_103_18 e6
  obtain ⟨v1, v2, v3, v4⟩ := zB_44 (s 10 6) U hG hK (by omega) (zRH_c hH (fun x x1 x2 => w5 x (by omega) (by omega))) (w3 _ n h7 hF) q7
  have k := zi_103_22 e7
  rw [k]
  exact (v3.2.2 p hp).1
theorem zB_211 {G : Nat} {R : Int × zS} {z : zS} (hG : zGs bB σ n m) (h : bB + 100 ≤ 999) (hU : ¬ F < 0 → zRu z F U) (hB : zJb σ F z t) (e0 : zG G xm_c211 0 [344, x, y, 0] [] t R) : R.1 = zwh σ n m F U x y := by
  have gn : σ 1 = ((n : Nat) : Int) := hG.1.1
  have h7 := hG.1.2.1
  have a := hB.1
  unfold zwh
  obtain ⟨F1, l1, r1, s1, q1, e1⟩ := zi_211_0 e0
  obtain ⟨rfl, rfl⟩ := zdet q1 zq_isP
  rw [a] at e1
  by_cases c0 : 0 ≤ x ∧ x < σ 1
  case neg =>
    rw [if_neg c0] at e1 ⊢
    obtain ⟨F2, l2, ⟨c2, e2⟩ | ⟨c2, e2⟩⟩ := zi_211_3 e1
    · have k := zi_211_10 e2
      rw [k]
    · exact absurd rfl c2
  rw [if_pos c0] at e1 ⊢
  obtain ⟨F2, l2, ⟨c2, e2⟩ | ⟨c2, e2⟩⟩ := zi_211_3 e1
  · exact absurd c2 (by decide)
  obtain ⟨F3, l3, r3, s3, q3, e3⟩ := zi_211_4 e2
  obtain ⟨rfl, rfl⟩ := zdet q3 (zr_in2 (lo := 0) (hi := 100))
  by_cases c1 : 0 ≤ y ∧ y ≤ 100
  case neg =>
    rw [if_neg c1] at e3 ⊢
    obtain ⟨F4, l4, ⟨c4, e4⟩ | ⟨c4, e4⟩⟩ := zi_211_9 e3
    · have k := zi_211_10 e4
      rw [k]
    · exact absurd rfl c4
  rw [if_pos c1] at e3 ⊢
  obtain ⟨F4, l4, ⟨c4, e4⟩ | ⟨c4, e4⟩⟩ := zi_211_9 e3
  · exact absurd c4 (by decide)
  obtain ⟨K, rfl⟩ := Int.eq_ofNat_of_zero_le c1.1
  obtain ⟨p, rfl⟩ := Int.eq_ofNat_of_zero_le c0.1
  have hK : K ≤ 100 := by
    clear e0 q1 q3 e1 e2 e3 e4 hU
    omega
  have hp : p < n := by
    clear e0 q1 q3 e1 e2 e3 e4 hU
    omega
  obtain ⟨F5, l5, r5, s5, q5, e5⟩ := zi_211_12 e4
  obtain ⟨j1, j2⟩ := zJ_207 hB q5
  obtain ⟨F6, l6, r6, s6, q6, e6⟩ := zi_211_14 e5
  obtain ⟨b1, b2, b3⟩ := zB_209 hG (by omega) hU q6 j2 j1.2.2.2.1 j1.2.2.2.2
  obtain ⟨F7, l7, r7, s7, q7, e7⟩ := zi_211_17 e6
  obtain ⟨rfl, rfl⟩ := zdet q7 (zr_at (Int.natCast_nonneg p) (by omega) (by decide) (by decide))
  obtain ⟨F8, l8, r8, s8, q8, e8⟩ := zi_211_21 e7
  have k := zi_211_24 e8
  rw [k]
  show s6 354 _ = _
  have b1 : s6 354 = zPn σ n m F U K := b1
  rw [b1]
  rfl
/-- where answers alike -/
theorem zB_where {s1 s2 : zS} {q1 q2 : Int} (H : zRZ bB s) (h6 : s 7 8 ≤ 6) (h : bB + 100 ≤ 999) (e1 : zE xm_c103 [7, x, y] s q1 s1) (e2 : zE xm_c211 [344, x, y, 0] s1 q2 s2) : q1 = q2 := by
  obtain ⟨G1, f1⟩ := e1
  obtain ⟨G2, f2⟩ := e2
  have hq : zQf s s1 := zQ_103 f1
  obtain ⟨U, uC, uM⟩ := zUw H.2.1 h6 H.2.2.1
  obtain ⟨n, m, hD, -⟩ := H.2.2.2.1
  have c1 := H.2.2.1.1
  have a : q1 = zwh (s 354) n m (s 10 6) U x y := zB_103 U hD H.2.2.1.2.1 h f1
  have o : ∀ x, x < 224 ∨ 240 ≤ x → s1 x = s x := fun x hx => hq x (by omega)
  have b : q2 = zwh (s 354) n m (s 10 6) U x y := zB_211 (z := s1) (t := s1) hD.2.1 h (fun q => uM q s1 (fun x x1 x2 => o x (by omega))) ⟨by rw [o 354 (by omega)], by rw [o 344 (by omega), c1], fun _ _ _ => rfl⟩ f2
  rw [a, b]
end MD
