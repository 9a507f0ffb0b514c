/-! news, images and going back, on both sides -/
/-- the places that the relation reads, but for the news -/
def zrd (k : Int) : Prop := (0 ≤ k ∧ k < 117) ∨ (138 ≤ k ∧ k < 146)
section JC
variable {bB : Int}
variable {s s1 s2 : zS} {σ τ : Int → Int} {n m : Nat} {h f l c d x y : Int}
theorem zrd_p {p : Nat} {j : Int} (hp : p < 7) (j0 : 0 ≤ j) (j1 : j ≤ 10) : zrd (10 + 11 * ((p : Nat) : Int) + j) := Or.inl (by omega)
theorem zRH_e (H : zRH s h σ n m) (h7 : n ≤ 7) (h10 : m ≤ 10) (e : ∀ k, zrd k → τ k = σ k) : zRH s h τ n m := by
  obtain ⟨⟨a0, a1, a2, a5, a6, a7, a8⟩, b, cc⟩ := H
  refine ⟨⟨by rw [a0, e 0 (Or.inl (by decide))], by rw [a1, e 1 (Or.inl (by decide))], by rw [a2, e 2 (Or.inl (by decide))], by rw [a5, e 145 (Or.inr (by decide))], by rw [a6, e 9 (Or.inl (by decide))], by rw [a7, e 5 (Or.inl (by decide))], fun q => ?_⟩, fun p hp => ?_, fun i hi => ?_⟩
  · rw [e 0 (Or.inl (by decide))] at q
    rw [e 6 (Or.inl (by decide)), e 7 (Or.inl (by decide))]
    exact a8 q
  · have pe : ∀ j : Int, 0 ≤ j → j ≤ 10 → zpe τ ((p : Nat) : Int) j = zpe σ ((p : Nat) : Int) j := fun j j0 j1 => e _ (zrd_p (by omega) j0 j1)
    rw [pe 4 (by decide) (by decide), pe 5 (by decide) (by decide), pe 6 (by decide) (by decide), pe 7 (by decide) (by decide), e (138 + ((p : Nat) : Int)) (Or.inr (by omega))]
    exact b p hp
  · rw [e (87 + 3 * ((i : Nat) : Int)) (Or.inl (by omega)), e (87 + 3 * ((i : Nat) : Int) + 1) (Or.inl (by omega)), e (87 + 3 * ((i : Nat) : Int) + 2) (Or.inl (by omega))]
    exact cc i hi
theorem zRF_e (H : zRF s f σ n) (h7 : n ≤ 7) (e : ∀ k, zrd k → τ k = σ k) : zRF s f τ n := by
  obtain ⟨a, b, cc⟩ := H
  refine ⟨by rw [a, e 4 (Or.inl (by decide))], by rw [b, e 8 (Or.inl (by decide))], fun p hp => ?_⟩
  have pe : ∀ j : Int, 0 ≤ j → j ≤ 10 → zpe τ ((p : Nat) : Int) j = zpe σ ((p : Nat) : Int) j := fun j j0 j1 => e _ (zrd_p (by omega) j0 j1)
  rw [pe 0 (by decide) (by decide), pe 1 (by decide) (by decide), pe 2 (by decide) (by decide), pe 3 (by decide) (by decide)]
  exact cc p hp
theorem zRL_e (H : zRL s l σ n) (h7 : n ≤ 7) (e : ∀ k, zrd k → τ k = σ k) : zRL s l τ n := by
  obtain ⟨a, b⟩ := H
  have pe : ∀ (p : Nat) (j : Int), p < n → 0 ≤ j → j ≤ 10 → zpe τ ((p : Nat) : Int) j = zpe σ ((p : Nat) : Int) j := fun p j hp j0 j1 => e _ (zrd_p (by omega) j0 j1)
  refine ⟨a.trans (zfo_congr n (fun p hp => by unfold zkn; rw [pe p 8 hp (by decide) (by decide)])), fun p hp => ?_⟩
  rw [pe p 8 hp (by decide) (by decide), pe p 9 hp (by decide) (by decide), pe p 10 hp (by decide) (by decide)]
  exact b p hp
theorem zGs_e (H : zGs bB σ n m) (e : ∀ k, zrd k → τ k = σ k) : zGs bB τ n m := by
  obtain ⟨⟨g1, g2, g3, g4, g5, g6, g7, g8, g9⟩, gp, ge⟩ := H
  have e0 : τ 0 = σ 0 := e 0 (Or.inl (by decide))
  have e4 : τ 4 = σ 4 := e 4 (Or.inl (by decide))
  have pe : ∀ (p : Nat) (j : Int), p < n → 0 ≤ j → j ≤ 10 → zpe τ ((p : Nat) : Int) j = zpe σ ((p : Nat) : Int) j := fun p j hp j0 j1 => e _ (zrd_p (by omega) j0 j1)
  refine ⟨⟨by rw [e 1 (Or.inl (by decide)), g1], g2, by rw [e 2 (Or.inl (by decide)), g3], g4, by rw [e0]; exact g5, by rw [e0]; exact g6, by rw [e0]; exact g7, by rw [e4]; exact g8, by rw [e4]; exact g9⟩, fun p hp => ?_, fun i hi => ?_⟩
  · rw [e0, pe p 0 hp (by decide) (by decide), pe p 1 hp (by decide) (by decide), pe p 2 hp (by decide) (by decide), pe p 3 hp (by decide) (by decide), pe p 4 hp (by decide) (by decide), pe p 5 hp (by decide) (by decide), pe p 6 hp (by decide) (by decide), pe p 8 hp (by decide) (by decide), e (138 + ((p : Nat) : Int)) (Or.inr (by omega))]
    obtain ⟨r0, r1, r3, r4, r5, r6, r7, r8, r9⟩ := gp p hp
    refine ⟨r0, r1, r3, r4, r5, r6, r7, r8, fun q hq => ?_⟩
    rw [pe q 5 hq (by decide) (by decide)]
    exact r9 q hq
  · rw [e0, e (87 + 3 * ((i : Nat) : Int)) (Or.inl (by omega)), e (87 + 3 * ((i : Nat) : Int) + 1) (Or.inl (by omega))]
    exact ge i hi
theorem zGt_e (H : zGt σ) (e : ∀ k, zrd k → τ k = σ k) : zGt τ := by
  unfold zGt at H ⊢
  rw [e 0 (Or.inl (by decide)), e 5 (Or.inl (by decide)), e 6 (Or.inl (by decide)), e 7 (Or.inl (by decide))]
  exact H
theorem zRS_t (H : zRS s c σ n m) (G : zGn bB σ n m) (e : ∀ k, 0 ≤ k → k < 146 → τ k = σ k) : zRS s c τ n m ∧ zGn bB τ n m := by
  obtain ⟨a, b, d, e5, g⟩ := H
  obtain ⟨g1, g2, g3, g4⟩ := G
  have er : ∀ k, zrd k → τ k = σ k := fun k hk => e k (by unfold zrd at hk; omega) (by unfold zrd at hk; omega)
  have e137 : τ 137 = σ 137 := e 137 (by decide) (by decide)
  refine ⟨⟨zRH_e a g1.1.2.1 g1.1.2.2.2.1 er, zRF_e b g1.1.2.1 er, zRL_e d g1.1.2.1 er, by rw [e5, e137], ?_⟩, zGs_e g1 er, zGt_e g2 er, by rw [e137]; exact g3, by rw [e137]; exact g4.1, zNr_e g4.2 g4.1 (by rw [g1.1.1]; have := g1.1.2.1; omega) (fun k hk => e k (by omega) (by omega))⟩
  rw [e137]
  intro k hk
  rw [e (117 + 2 * ((k : Nat) : Int)) (by omega) (by omega), e (117 + 2 * ((k : Nat) : Int) + 1) (by omega) (by omega)]
  exact g k hk
/-- the news alone are otherwise -/
theorem zRZ_N (H : zRZ bB s) (h6 : s 7 8 ≤ 6) (f0 : ∀ x, x ≠ 10 → x ≠ 28 → x ≠ 29 → x ≠ 354 → s2 x = s x) (f1 : ∀ y, y ≠ 5 → s2 10 y = s 10 y) (f2 : ∀ k, ¬ (117 ≤ k ∧ k ≤ 137) → s2 354 k = s 354 k) (g0 : 0 ≤ s2 354 137 ∧ s2 354 137 ≤ 10 ∧ zNr (s2 354)) (g1 : s2 10 5 = s2 354 137) (g2 : ∀ k : Nat, ((k : Nat) : Int) < s2 354 137 → s2 28 ((k : Nat) : Int) = s2 354 (117 + 2 * ((k : Nat) : Int)) ∧ s2 29 ((k : Nat) : Int) = s2 354 (117 + 2 * ((k : Nat) : Int) + 1)) : zRZ bB s2 := by
  obtain ⟨A, B, C, ⟨n, m, D, E⟩, I⟩ := H
  have o : ∀ x, x < 10 ∨ (11 ≤ x ∧ x ≤ 27) ∨ (30 ≤ x ∧ x ≤ 353) ∨ 355 ≤ x → s2 x = s x := fun x hx => f0 x (by omega) (by omega) (by omega) (by omega)
  have e7 : s2 7 8 = s 7 8 := by rw [o 7 (by omega)]
  have e344 : s2 344 = s 344 := o 344 (by omega)
  have er : ∀ k, zrd k → s2 354 k = s 354 k := fun k hk => f2 k (by unfold zrd at hk; omega)
  obtain ⟨⟨d1, d2, d3, d4, d5⟩, k1, k2, k3⟩ := D
  have h7 := k1.1.2.1
  have h10 := k1.1.2.2.2.1
  refine ⟨zgA_c A (by rw [o 8 (by omega)]) (o 9 (by omega)) (by rw [e344]) (o 345 (by omega)), zgB_c B h6 e7 (fun x x1 x2 => o x (by omega)) (fun x x1 x2 => o x (by omega)) (by rw [e344]), zgC_c C e7 (f1 6 (by decide)) (f1 7 (by decide)) (by rw [e344]) (by rw [e344]), ⟨n, m, ⟨⟨zRH_e (zRH_c d1 (fun x x1 x2 => o x (by omega))) h7 h10 er, zRF_e (zRF_c d2 (fun x x1 x2 => o x (by omega))) h7 er, zRL_e (zRL_c d3 (fun x x1 x2 => o x (by omega))) h7 er, g1, g2⟩, zGs_e k1 er, zGt_e k2 er, g0⟩, ⟨?_, fun j hj => ?_⟩⟩, zgF_c I (by rw [e7]; exact Int.le_refl _) (fun x x1 x2 => o x (by omega)) (fun x x1 x2 => o x (by omega))⟩
  · rw [o 40 (by omega), e344]
    exact E.1
  · rw [e344] at hj ⊢
    rw [o 40 (by omega)]
    obtain ⟨j1, j2, j3, j4⟩ := E.2 j hj
    have ew : ∀ k, zrd k ∨ (k < 4 ∨ k < 87) → zwj s2 j k = zwj s j k := fun k hk => by
      unfold zwj
      rw [o 356 (by omega)]
      by_cases q : 0 ≤ k ∧ k < 87
      · rw [if_pos q, if_pos q]
      · rw [if_neg q, if_neg q, f2 k (by unfold zrd at hk; omega)]
    have rr := zix_r (nx := s 40 2) (u := s 344 26) (j := j)
    refine ⟨zRF_e (zRF_c j1 (fun x x1 x2 => o x (by omega))) h7 (fun k hk => ew k (Or.inl hk)), zRL_e (zRL_c j2 (fun x x1 x2 => o x (by omega))) h7 (fun k hk => ew k (Or.inl hk)), zGs_e j3 (fun k hk => ew k (Or.inl hk)), fun k hk => ?_⟩
    have hk2 : k < 87 := by
      unfold zst at hk
      omega
    rw [ew k (Or.inr (Or.inr hk2)), j4 k hk, f2 k (by omega)]
theorem zA_news (H : zRZ bB s) (h6 : s 7 8 ≤ 6) : ∃ r s1 s2, zE xm_c106 [7, x, y] s r s1 ∧ zE xm_c216 [344, x, y] s1 r s2 ∧ zRZ bB s2 := by
  obtain ⟨n, m, hD, hE⟩ := H.2.2.2.1
  have h1 : s 11 1 = s 354 1 := hD.1.1.1.2.1
  have hn : s 10 5 = s 354 137 := hD.1.2.2.2.1
  have hg := hD.2.2.2
  have n7 : s 354 1 ≤ 7 := by
    rw [hD.2.1.1.1]
    have := hD.2.1.1.2.1
    omega
  by_cases c : x = -1
  · refine ⟨0, zu s 10 5 0, zu (zu s 10 5 0) 354 137 0, zb_106_0 (fun _ => zb_106_3 rfl) (fun q => absurd c q), zb_216_0 (fun _ => zb_216_3 rfl) (fun q => absurd c q), zRZ_N H h6 (fun x x1 x2 x3 x4 => funext (fun y => by rw [zu_cell x4, zu_cell x1])) (fun y hy => by rw [zu_cell (by decide), zu_place hy]) (fun k hk => by rw [zu_place (by omega), zu_cell (by decide)]) ⟨by rw [zu_hit]; decide, by rw [zu_hit]; decide, zNr_0 zu_hit (zTw_e hg.2.2.2 n7 (fun k hk => by rw [zu_place (by omega), zu_cell (by decide)]))⟩ (by rw [zu_hit, zu_cell (by decide), zu_hit]) (fun k hk => by rw [zu_hit] at hk; omega)⟩
  have cA : ∀ R, (zA xm_c106 9 [7, x, y] [] s R) → zA xm_c106 0 [7, x, y] [] s R := fun R z => zb_106_0 (fun q => absurd q c) (fun _ => z)
  have cM : ∀ (s : zS) R, (zA xm_c216 10 [344, x, y] [] s R) → zA xm_c216 0 [344, x, y] [] s R := fun s R z => zb_216_0 (fun q => absurd q c) (fun _ => z)
  by_cases c0 : 0 ≤ x ∧ x < s 354 1
  case neg =>
    exact zRZ_r H (r := -2) (cA _ (zb_106_9 zo_hasP (zb_106_14 (fun _ => zb_106_21 rfl) (fun q => absurd (z01' (by rw [show s (7 + 3 + 1) 1 = s 354 1 from h1]; exact c0)) q)))) (cM s _ (zb_216_10 zq_isP (zb_216_13 (fun _ => zb_216_26 rfl) (fun q => absurd (z01' c0) q))))
  have cB : ∀ R, (zA xm_c106 15 [7, x, y] [] s R) → zA xm_c106 0 [7, x, y] [] s R := fun R z => cA R (zb_106_9 zo_hasP (zb_106_14 (fun q => absurd q (z10 (by rw [show s (7 + 3 + 1) 1 = s 354 1 from h1]; exact c0))) (fun _ => z)))
  by_cases cr : -1000 ≤ y ∧ y ≤ 999
  case neg =>
    refine zRZ_r H (r := -2) (cB _ ?_) (cM s _ (zb_216_10 zq_isP (zb_216_13 (fun q => absurd q (z10 c0)) (fun _ => zb_216_14 (zr_in2 (lo := -1000) (hi := 999)) (zb_216_19 (fun _ => zb_216_26 rfl) (fun q => absurd (z01' cr) q))))))
    by_cases d : y < -1000
    · exact zb_106_15 (fun _ => zb_106_21 rfl) (fun q => absurd d q)
    · exact zb_106_15 (fun q => absurd q d) (fun _ => zb_106_18 (fun _ => zb_106_21 rfl) (fun q => absurd ⟨Int.not_lt.mp d, Int.not_lt.mp q⟩ cr))
  have cC : ∀ R, (zA xm_c106 23 [7, x, y] [] s R) → zA xm_c106 0 [7, x, y] [] s R := fun R z => cB R (zb_106_15 (fun q => absurd q (Int.not_lt.mpr cr.1)) (fun _ => zb_106_18 (fun q => absurd q (Int.not_lt.mpr cr.2)) (fun _ => z)))
  by_cases c10 : s 354 137 = 10
  · exact zRZ_r H (r := -2) (cC _ (zb_106_23 (fun q => absurd (show s 10 5 < 10 from q) (by rw [hn, c10]; decide)) (fun _ => zb_106_28 rfl))) (cM s _ (zb_216_10 zq_isP (zb_216_13 (fun q => absurd q (z10 c0)) (fun _ => zb_216_14 (zr_in2 (lo := -1000) (hi := 999)) (zb_216_19 (fun q => absurd q (z10 cr)) (fun _ => zb_216_20 (fun _ => zb_216_26 rfl) (fun q => absurd c10 q)))))))
  obtain ⟨k, hk⟩ : ∃ k : Nat, s 354 137 = ((k : Nat) : Int) := Int.eq_ofNat_of_zero_le hg.1
  have k9 : ((k : Nat) : Int) ≤ 9 := by omega
  have ek : zw (((k : Nat) : Int) + 1) = ((k : Nat) : Int) + 1 := zw_id (by omega) (by omega)
  have e1 : zw (117 + zw (2 * ((k : Nat) : Int))) = 117 + 2 * ((k : Nat) : Int) := by
    rw [zw_id (x := 2 * ((k : Nat) : Int)) (by omega) (by omega), zw_id (by omega) (by omega)]
  have e2 : zw (117 + 2 * ((k : Nat) : Int) + 1) = 117 + 2 * ((k : Nat) : Int) + 1 := zw_id (by omega) (by omega)
  obtain ⟨t, ht⟩ : ∃ t : zS, t = zu (zu (zu s 28 ((k : Nat) : Int) x) 29 ((k : Nat) : Int) y) 10 5 (((k : Nat) : Int) + 1) := ⟨_, rfl⟩
  obtain ⟨w, hw⟩ : ∃ w : zS, w = zu (zu (zu t 354 (117 + 2 * ((k : Nat) : Int)) x) 354 (117 + 2 * ((k : Nat) : Int) + 1) y) 354 137 (((k : Nat) : Int) + 1) := ⟨_, rfl⟩
  have t354 : t 354 = s 354 := by rw [ht]; exact funext (fun y => by rw [zu_cell (by decide), zu_cell (by decide), zu_cell (by decide)])
  have run1 : zE xm_c106 [7, x, y] s (((k : Nat) : Int) + 1) t := cC _ (zb_106_23 (fun _ => zb_106_30 (by
    have p5 : s (7 + 3) 5 = ((k : Nat) : Int) := hn.trans hk
    have q1 : zu s (7 + 3 + 18) (s (7 + 3) 5) x (7 + 3) 5 = ((k : Nat) : Int) := by rw [zu_cell (by decide)]; exact p5
    rw [q1, p5]
    have q2 : zu (zu s (7 + 3 + 18) ((k : Nat) : Int) x) (7 + 3 + 19) ((k : Nat) : Int) y (7 + 3) 5 = ((k : Nat) : Int) := by rw [zu_cell (by decide), zu_cell (by decide)]; exact p5
    rw [q2, ek]
    refine Prod.ext ?_ ht.symm
    dsimp only
    rw [zu_hit])) (fun q => absurd (show s 10 5 < 10 by rw [hn, hk]; omega) q))
  have run2 : zE xm_c216 [344, x, y] t (((k : Nat) : Int) + 1) w := cM t _ (zb_216_10 zq_isP (zb_216_13 (fun q => absurd q (z10 (by rw [t354]; exact c0))) (fun _ => zb_216_14 (zr_in2 (lo := -1000) (hi := 999)) (zb_216_19 (fun q => absurd q (z10 cr)) (fun _ => zb_216_20 (fun q => absurd (show s 354 137 = 10 by rw [← t354]; exact q) c10) (fun _ => zb_216_28 (by
    have p5 : t (344 + 10) 137 = ((k : Nat) : Int) := by
      show t 354 137 = _
      rw [t354]
      exact hk
    rw [p5, e1]
    have q1 : zu t (344 + 10) (117 + 2 * ((k : Nat) : Int)) x (344 + 10) 137 = ((k : Nat) : Int) := by rw [zu_place (by omega)]; exact p5
    rw [q1, e1, e2]
    have q2 : zu (zu t (344 + 10) (117 + 2 * ((k : Nat) : Int)) x) (344 + 10) (117 + 2 * ((k : Nat) : Int) + 1) y (344 + 10) 137 = ((k : Nat) : Int) := by rw [zu_place (by omega), zu_place (by omega)]; exact p5
    rw [q2, ek]
    refine Prod.ext ?_ hw.symm
    dsimp only
    rw [zu_hit])))))))
  have w137 : w 354 137 = ((k : Nat) : Int) + 1 := by rw [hw, zu_hit]
  have wo : ∀ j, j ≠ 137 → w 354 j = (if j = 117 + 2 * ((k : Nat) : Int) + 1 then y else if j = 117 + 2 * ((k : Nat) : Int) then x else s 354 j) := fun j hj => by rw [hw, zu_place hj, zu2, zu2, t354]
  have wN : zNr (w 354) := by
    refine ⟨fun j hj => ?_, zTw_e hg.2.2.2 n7 (fun j hj => by rw [wo j (by omega), if_neg (by omega), if_neg (by omega)])⟩
    rw [w137] at hj
    rw [wo _ (by omega), wo 1 (by decide), if_neg (show ¬ (1 : Int) = 117 + 2 * ((k : Nat) : Int) + 1 by omega), if_neg (show ¬ (1 : Int) = 117 + 2 * ((k : Nat) : Int) by omega), if_neg (by omega)]
    by_cases e : j = k
    · rw [e, if_pos rfl]
      exact c0
    · rw [if_neg (by omega)]
      exact hg.2.2.1 j (by rw [hk]; omega)
  have wx : ∀ x, x ≠ 354 → w x = t x := fun x hx => by
    rw [hw]
    exact funext (fun y => by rw [zu_cell hx, zu_cell hx, zu_cell hx])
  refine ⟨_, t, w, run1, run2, zRZ_N H h6 (fun x x1 x2 x3 x4 => ?_) (fun y hy => ?_) (fun j hj => ?_) ⟨by rw [w137]; omega, by rw [w137]; omega, wN⟩ ?_ (fun j hj => ?_)⟩
  · rw [wx x x4, ht]
    exact funext (fun y => by rw [zu_cell x1, zu_cell x3, zu_cell x2])
  · rw [wx 10 (by decide), ht, zu_place hy, zu_cell (by decide), zu_cell (by decide)]
  · rw [wo j (by omega), if_neg (by omega), if_neg (by omega)]
  · rw [w137, wx 10 (by decide), ht, zu_hit]
  · rw [w137] at hj
    rw [wx 28 (by decide), wx 29 (by decide), ht, wo _ (by omega), wo _ (by omega)]
    by_cases e : j = k
    · subst e
      rw [if_neg (by omega), if_pos rfl, if_pos rfl, zu_cell (by decide), zu_cell (by decide), zu_hit, zu_cell (by decide), zu_hit]
      exact ⟨rfl, rfl⟩
    · rw [if_neg (by omega), if_neg (by omega), if_neg (by omega), if_neg (by omega), zu_cell (by decide), zu_cell (by decide), zu_place (by omega), zu_cell (by decide), zu_place (by omega), zu_cell (by decide)]
      exact hD.1.2.2.2.2 j (by rw [hk]; omega)
end JC
