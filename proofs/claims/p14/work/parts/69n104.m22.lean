/-! all starts, in the class -/
section NE
variable {bB : Int} {σ τ : Int → Int} {n m K B M : Nat} {F : Int} {U : (Int → Int) → Int} {s t : zS} {a c x y f h : Int} {p q b i : Nat} {A : Nat × Nat → Nat → Int} {L : List (Nat × Nat)}
theorem zPn_8 : ∀ k : Nat, zPn σ n m F U k 8 = σ 8
  | 0 => rfl
  | k + 1 => by
    show zPo (zPn σ n m F U k) n m F U 8 = σ 8
    rw [zPo_k (by decide), zsC_lo (by decide), zsA_lo (by decide)]
    exact zPn_8 k
theorem zst1_o (hp : p < 7) {k : Int} (hk : ¬ (10 ≤ k ∧ k < 87 ∧ 8 ≤ (k - 10) % 11)) : zst1 σ n m F U p b k = zPn (zs0 σ n) n m F U b k := by
  unfold zst1
  exact zuq_o (by omega)
theorem zst1_st (h7 : n ≤ 7) (hp : p < n) {k : Int} (hk : zst k ∨ 87 ≤ k) : zst1 σ n m F U p b k = σ k := by
  rw [zst1_o (Nat.lt_of_lt_of_le hp h7) (by unfold zst at hk; omega), zPn_st h7 b k (hk.imp_right (fun q => by omega)), zs0_st h7 hk]
theorem zst1_e (h7 : n ≤ 7) (hp : p < n) : zPe (zPn (zs0 σ n) n m F U b) (zst1 σ n m F U p b) n := by
  have p7 := Nat.lt_of_lt_of_le hp h7
  refine ⟨zst1_o p7 (by decide), fun q j _ j0 j1 => ?_, fun k hk => zst1_o p7 (by omega)⟩
  show zst1 σ n m F U p b (10 + 11 * ((q : Nat) : Int) + j) = zPn (zs0 σ n) n m F U b (10 + 11 * ((q : Nat) : Int) + j)
  exact zst1_o p7 (by omega)
theorem zB_50 {G G0 : Nat} {R R0 : Int × zS} (hS : zRS s 10 (s 354) n m) (hG : zGs bB (s 354) n m) (hGt : zGt (s 354)) (hM10 : M ≤ 10) (hM : s 354 137 = ((M : Nat) : Int)) (hr : ∀ k : Nat, k < M → 0 ≤ s 354 (117 + 2 * ((k : Nat) : Int)) ∧ s 354 (117 + 2 * ((k : Nat) : Int)) < ((n : Nat) : Int)) (hB : s 354 4 = ((B : Nat) : Int)) (uC : ∀ z : zS, (∀ x, 240 ≤ x → x ≤ 263 → z x = s x) → z 237 1 = (if s 10 6 < 0 then -1 else 240 + 4 * s 10 6) → zRc z (s 10 6) U) (e0 : zG G0 xm_c42 0 [224, if s 10 6 < 0 then -1 else 240 + 4 * s 10 6] [] s R0) (e1 : zG G xm_c50 0 [224, 0, 0, 0] [] R0.2 R) : zCL (zan (s 354) n m (s 10 6) U B) n R.2 (zall (s 354) n m (s 10 6) U B M n) := by
  obtain ⟨hH, hF, hL, h5, h28⟩ := hS
  have h7 := hG.1.2.1
  have gn : s 354 1 = ((n : Nat) : Int) := hG.1.1
  have B9 : B ≤ 999 := by
    have d := hG.1.2.2.2.2.2.2.2.2.1
    rw [hB] at d
    clear uC hr hG e0 e1
    omega
  have h11 : s 11 1 = ((n : Nat) : Int) := hH.1.2.1.trans gn
  have s115 : s 11 5 = s 354 145 := hH.1.2.2.2.1
  obtain ⟨w, w1, ⟨w2, w3, w4⟩, w5, w6, w7⟩ := zo_prepR (s := s) (r := if s 10 6 < 0 then -1 else 240 + 4 * s 10 6)
  obtain ⟨r0, t0⟩ := R0
  obtain ⟨rfl, rfl⟩ := zdet e0 w1
  have e1 : zG G xm_c50 0 [224, 0, 0, 0] [] w R := e1
  obtain ⟨F1, l1, r1, g1, q1, e2⟩ := zi_50_0 e1
  obtain ⟨g, a1, ⟨a2, a3⟩, a4, a5⟩ := zo_gohome2 (s := zu w 224 8 0)
  obtain ⟨rfl, rfl⟩ := zdet q1 a1
  have eB : w (224 + (-214) + 9) 0 = ((B : Nat) : Int) := by
    show w 19 0 = _
    rw [w7 19 (by decide) (by decide)]
    exact hF.1.trans hB
  rw [eB] at e2
  obtain ⟨F2, l2, r2, t1, q2, e3⟩ := zi_50_14 e2
  obtain ⟨d, hd⟩ : ∃ d : zS, d = zu g 237 2 (g 11 5) := ⟨_, rfl⟩
  have q2 : zG F2 xm_c44 0 [224, ((B : Nat) : Int), 0] [] d (r2, t1) := by
    rw [hd]
    exact q2
  have dg : ∀ x, x ≠ 237 → d x = g x := fun x hx => by
    rw [hd]
    exact funext (fun y => zu_cell hx)
  have gw : ∀ x, x ≠ 224 → ¬ (225 ≤ x ∧ x < 230) → g x = w x := fun x x1 x2 => by
    rw [a5 x x2]
    exact funext (fun y => zu_cell x1)
  have dS : ∀ x, ¬ (224 ≤ x ∧ x ≤ 233) → x ≠ 237 → d x = s x := fun x x1 x2 => by
    rw [dg x x2, gw x (by omega) (by omega), w7 x (by omega) x2]
  have hHd : zRH d 11 (zs0 (s 354) n) n m := zRH_s (zRH_c hH (fun x x1 x2 => dS x (by omega) (by omega))) h7 (fun k hk => zs0_st h7 hk)
  have hFd : zRF d 225 (zs0 (s 354) n) n := by
    refine ⟨?_, ?_, fun q hq => ?_⟩
    · rw [dg 225 (by decide), a2, zs0_4]
    · rw [dg 225 (by decide), a3, zu_cell (by decide), w7 11 (by decide) (by decide), s115, zs0_8]
    · obtain ⟨b1, b2, b3, b4⟩ := a4 ((q : Nat) : Int) (Int.natCast_nonneg q) (by omega)
      have c1 : s 12 ((q : Nat) : Int) = zpe (s 354) ((q : Nat) : Int) 4 := (hH.2.1 q hq).1
      have c2 : s 13 ((q : Nat) : Int) = s 354 (138 + ((q : Nat) : Int)) := (hH.2.1 q hq).2.1
      have z0 : zpe (zs0 (s 354) n) ((q : Nat) : Int) 0 = zpe (s 354) ((q : Nat) : Int) 4 := by rw [zs0_p hq (by decide) (by decide), if_pos rfl]
      have z1 : zpe (zs0 (s 354) n) ((q : Nat) : Int) 1 = zpe (s 354) ((q : Nat) : Int) 4 := by rw [zs0_p hq (by decide) (by decide), if_neg (by decide), if_pos rfl]
      have z2 : zpe (zs0 (s 354) n) ((q : Nat) : Int) 2 = 0 := by rw [zs0_p hq (by decide) (by decide), if_neg (by decide), if_neg (by decide), if_pos rfl]
      have z3 : zpe (zs0 (s 354) n) ((q : Nat) : Int) 3 = s 354 (138 + ((q : Nat) : Int)) := by rw [zs0_p hq (by decide) (by decide), if_neg (by decide), if_neg (by decide), if_neg (by decide), if_pos rfl]
      rw [zu_cell (by decide), w7 12 (by decide) (by decide), c1] at b1 b2
      rw [zu_cell (by decide), w7 13 (by decide) (by decide), c2] at b4
      rw [z0, z1, z2, z3]
      refine ⟨?_, ?_, ?_, ?_⟩
      · show d 226 _ = _
        rw [dg 226 (by decide)]
        exact b1
      · show d 227 _ = _
        rw [dg 227 (by decide)]
        exact b2
      · show d 228 _ = _
        rw [dg 228 (by decide)]
        exact b3
      · show d 229 _ = _
        rw [dg 229 (by decide)]
        exact b4
  obtain ⟨v1, v2, v3, v4, v5⟩ := zB_44k (s 10 6) U (zs0_G hG) B9 (by omega) hHd hFd q2
  have v1 : ∀ j : Nat, j < B → t1 234 ((j : Nat) : Int) = zlan (zPn (zs0 (s 354) n) n m (s 10 6) U j) m n := v1
  have v2 : t1 224 7 = 0 := v2.trans zs0_4
  have t8 : t1 224 8 = 0 := by
    rw [show t1 224 8 = d 224 8 from v5 8 (by decide), dg 224 (by decide), a5 224 (by decide), zu_hit]
  have o : ∀ x, ¬ (224 ≤ x ∧ x ≤ 234) → x ≠ 237 → t1 x = s x := fun x x1 x2 => (v4 x (by omega) (by omega) (by omega)).trans (dS x (by omega) x2)
  have o237 : t1 237 = d 237 := v4 237 (by decide) (by decide) (by decide)
  have o1 : t1 237 1 = if s 10 6 < 0 then -1 else 240 + 4 * s 10 6 := by
    rw [o237, hd, zu_place (by decide), gw 237 (by decide) (by decide), w2]
  have o2 : t1 237 2 = s 354 145 := by
    rw [o237, hd, zu_hit, gw 11 (by decide) (by decide), w7 11 (by decide) (by decide), s115]
  have o3 : t1 237 3 = s 11 4 := by
    rw [o237, hd, zu_place (by decide), gw 237 (by decide) (by decide), w4]
  -- one start
  have one : ∀ (G p b : Nat) (u : zS) (R : Int × zS) (L : List (Nat × Nat)), p < n → b ≤ 40 → b ≤ B → L.length < 287 → zCL (zan (s 354) n m (s 10 6) U B) n u L → (∀ x, x ≠ 224 → x ≠ 235 → x ≠ 238 → x ≠ 239 → ¬ (230 ≤ x ∧ x ≤ 233) → u x = t1 x) → u 224 7 = 0 → zG G xm_c50 47 [224, ((B : Nat) : Int), ((p : Nat) : Int), ((b : Nat) : Int)] [] u R → ∃ (F' : Nat) (u' : zS), F' < G ∧ zCL (zan (s 354) n m (s 10 6) U B) n u' (if zok (s 354) n m (s 10 6) U B M p b = true then L ++ [(p, b)] else L) ∧ (∀ x, x ≠ 224 → x ≠ 235 → x ≠ 238 → x ≠ 239 → ¬ (230 ≤ x ∧ x ≤ 233) → u' x = t1 x) ∧ u' 224 7 = 0 ∧ zG F' xm_c50 71 [224, ((B : Nat) : Int), ((p : Nat) : Int), ((b : Nat) : Int)] [] u' R := by
    intro G p b u R L hp hb40 hbB hl hC fu f7 e0
    have p7 := Nat.lt_of_lt_of_le hp h7
    obtain ⟨F1, l1, r1, s1, q1, e1⟩ := zi_50_47 e0
    obtain ⟨c, c1, c2, c3, c4⟩ := zo_lclear2 (s := u)
    obtain ⟨rfl, rfl⟩ := zdet q1 c1
    have cL : zRL c 230 (zs0 (s 354) n) n := by
      refine ⟨c2.trans ((zfo_z (P := zkn (zs0 (s 354) n)) (by omega)).mpr (fun q hq => zs0_n hq)).symm, fun q hq => ?_⟩
      obtain ⟨b1, b2, b3⟩ := c3 ((q : Nat) : Int) (Int.natCast_nonneg q) (by omega)
      have z8 : zpe (zs0 (s 354) n) ((q : Nat) : Int) 8 = -1 := by rw [zs0_p hq (by decide) (by decide), if_neg (by decide), if_neg (by decide), if_neg (by decide), if_neg (by decide), if_pos rfl]
      have z9 : zpe (zs0 (s 354) n) ((q : Nat) : Int) 9 = 0 := by rw [zs0_p hq (by decide) (by decide), if_neg (by decide), if_neg (by decide), if_neg (by decide), if_neg (by decide), if_neg (by decide), if_pos rfl]
      have z10 : zpe (zs0 (s 354) n) ((q : Nat) : Int) 10 = -1 := by rw [zs0_p hq (by decide) (by decide), if_neg (by decide), if_neg (by decide), if_neg (by decide), if_neg (by decide), if_neg (by decide), if_neg (by decide), if_pos rfl]
      rw [z8, z9, z10]
      exact ⟨b1, b2, b3⟩
    have cLb : zRL c 230 (zPn (zs0 (s 354) n) n m (s 10 6) U b) n := by
      have z := (zSp_n (σ := zs0 (s 354) n) (m := m) (F := s 10 6) (U := U) h7 (i := 0) (Or.inl (fun p hp => zs0_n hp)) cL b).1
      rw [Nat.zero_add] at z
      exact z
    obtain ⟨F2, l2, r2, e, q2, e2⟩ := zi_50_50 e1
    have k := zi_38_0 q2
    injection k with ka kb
    have ec : (if (-999 : Int) < if (0 : Int) < 999 then 0 else 999 then if (0 : Int) < 999 then 0 else 999 else (-999)) = 0 := by decide
    rw [ec] at kb
    have kb : e = zu (zu (zu (zu c 230 0 (zor (c 230 0) (zshl 1 ((p : Nat) : Int)))) 231 ((p : Nat) : Int) ((b : Nat) : Int)) 232 ((p : Nat) : Int) 0) 233 ((p : Nat) : Int) (-1) := kb
    have eL : zRL e 230 (zst1 (s 354) n m (s 10 6) U p b) n := by
      rw [kb]
      exact zRL_l cLb hp (Int.natCast_nonneg b)
    have ex : ∀ x, ¬ (230 ≤ x ∧ x ≤ 233) → e x = u x := fun x hx => by
      rw [← c4 x (by omega), kb]
      exact funext (fun y => by rw [zu_cell (by omega), zu_cell (by omega), zu_cell (by omega), zu_cell (by omega)])
    have et : ∀ x, x ≠ 224 → x ≠ 235 → x ≠ 238 → x ≠ 239 → ¬ (230 ≤ x ∧ x ≤ 233) → e x = t1 x := fun x x1 x2 x3 x4 x5 => (ex x x5).trans (fu x x1 x2 x3 x4 x5)
    obtain ⟨F3, l3, r3, s3, q3, e3⟩ := zi_50_57 e2
    have q3 : zG F3 xm_c45 0 [224, ((b : Nat) : Int), ((b + (B - b) : Nat) : Int), 0] [] e (r3, s3) := by
      rw [Nat.add_sub_cancel' hbB]
      exact q3
    obtain ⟨k1, k2⟩ := zB_45g (F := s 10 6) (U := U) (σ := zst1 (s 354) n m (s 10 6) U p b) (o := b) (K := B - b) (zst1_G hG hp hb40) (zGt_s hGt (fun k hk => zst1_st h7 hp (Or.inl hk))) (by rw [Nat.add_sub_cancel' hbB]; exact B9) (by clear uC hr hC fu et ex kb eL cLb cL c4 c3; omega) (zRH_w (zRH_s (zRH_c hH (fun x x1 x2 => by rw [et x (by omega) (by omega) (by omega) (by omega) (by omega), o x (by omega) (by omega)])) h7 (fun k hk => zst1_st h7 hp hk))) eL (fun j hj => by
      rw [et 234 (by decide) (by decide) (by decide) (by decide) (by decide), v1 (b + j) (by omega), zPn_add]
      exact (zPe_ln h7 (zst1_e h7 hp) j).symm) (by
      rw [ex 224 (by decide), f7, zst1_o p7 (by decide), zst1_4 hG hb40]
      exact Int.zero_add _) (by
      rw [et 237 (by decide) (by decide) (by decide) (by decide) (by decide), o2, zst1_o p7 (by decide), zPn_8, zs0_8]) (fun q hq => by
      rw [et 237 (by decide) (by decide) (by decide) (by decide) (by decide), o3]
      have z : zpe (zst1 (s 354) n m (s 10 6) U p b) ((q : Nat) : Int) 6 = zpe (s 354) ((q : Nat) : Int) 6 := zst1_st h7 hp (Or.inl (zst_p (Nat.lt_of_lt_of_le hq h7) (by decide) (by decide)))
      rw [z]
      exact (hH.2.1 q hq).2.2.2.2) (fun z hz hz1 => uC z (fun x x1 x2 => by
      rw [hz x x1 x2, et x (by omega) (by omega) (by omega) (by omega) (by omega), o x (by omega) (by omega)]) (by
      rw [hz1, et 237 (by decide) (by decide) (by decide) (by decide) (by decide), o1])) q3
    have k1 : zRL s3 230 (zfin (s 354) n m (s 10 6) U B p b) n := k1
    have k2 : ∀ x, x ≠ 238 → x ≠ 239 → ¬ (230 ≤ x ∧ x ≤ 233) → s3 x = e x := k2
    have kt : ∀ x, x ≠ 224 → x ≠ 235 → x ≠ 238 → x ≠ 239 → ¬ (230 ≤ x ∧ x ≤ 233) → s3 x = t1 x := fun x x1 x2 x3 x4 x5 => (k2 x x3 x4 x5).trans (et x x1 x2 x3 x4 x5)
    have ku : ∀ x, x = 224 ∨ x = 235 → s3 x = u x := fun x hx => (k2 x (by omega) (by omega) (by omega)).trans (ex x (by omega))
    have kC : zCL (zan (s 354) n m (s 10 6) U B) n s3 L := by
      unfold zCL at hC ⊢
      rw [ku 224 (Or.inl rfl), ku 235 (Or.inr rfl)]
      exact hC
    have k7 : s3 224 7 = 0 := by
      rw [ku 224 (Or.inl rfl)]
      exact f7
    obtain ⟨F4, l4, r4, s4, q4, e4⟩ := zi_50_61 e3
    have sx : ∀ x, ¬ (224 ≤ x ∧ x ≤ 239) → s3 x = s x := fun x hx => by
      rw [kt x (by omega) (by omega) (by omega) (by omega) (by omega), o x (by omega) (by omega)]
    have kk := zB_77 (M := M) (σ := s 354) h7 k1 (by rw [sx 10 (by decide), h5, hM]) hM10 (fun k hk => by
      rw [sx 28 (by decide), sx 29 (by decide)]
      exact h28 k (by rw [hM]; exact Int.ofNat_lt.mpr hk)) hr q4
    obtain ⟨k31, k32⟩ := zpr kk
    subst k31
    have k33 := k32.symm
    subst k33
    have lt : F4 < G := Nat.lt_trans l4 (Nat.lt_trans l3 (Nat.lt_trans l2 l1))
    by_cases ok : zok (s 354) n m (s 10 6) U B M p b = true
    · have ok' : zNs (s 354) (zfin (s 354) n m (s 10 6) U B p b) M = true := ok
      rw [if_pos ok'] at e4
      rw [if_pos ok]
      obtain ⟨F5, l5, w5⟩ := zi_50_66 e4
      obtain ⟨F6, l6, r6, s6, q6, e6⟩ := zi_50_67 (w5.resolve_left (fun q => absurd q.1 (by decide))).2
      obtain ⟨x1, x2, x3⟩ := zB_51 h7 k1 kC hl (fun q hq => rfl) q6
      have x1 : zCL (zan (s 354) n m (s 10 6) U B) n s6 (L ++ [(p, b)]) := x1
      have x2 : ∀ x, x ≠ 224 → x ≠ 235 → s6 x = s3 x := x2
      have x3 : ∀ y, y ≠ 8 → y ≠ 9 → y ≠ 10 → s6 224 y = s3 224 y := x3
      exact ⟨F6, s6, Nat.lt_trans l6 (Nat.lt_trans l5 lt), x1, fun x y1 y2 y3 y4 y5 => (x2 x y1 y2).trans (kt x y1 y2 y3 y4 y5), (x3 7 (by decide) (by decide) (by decide)).trans k7, e6⟩
    · have ok' : ¬ zNs (s 354) (zfin (s 354) n m (s 10 6) U B p b) M = true := ok
      rw [if_neg ok'] at e4
      rw [if_neg ok]
      obtain ⟨F5, l5, w5⟩ := zi_50_66 e4
      exact ⟨F5, s3, Nat.lt_trans l5 lt, kC, kt, k7, (w5.resolve_right (fun q => absurd rfl q.1)).2⟩
  have df : ∀ p : Nat, p < n → (zbt (s 11 4) ((p : Nat) : Int) = 0 ↔ ¬ zdf (s 354) p = true) := fun p hp => by
    have z : zbt (s 11 4) ((p : Nat) : Int) = zpe (s 354) ((p : Nat) : Int) 6 := (hH.2.1 p hp).2.2.2.2
    rw [z]
    unfold zdf
    rw [decide_eq_true_iff]
    exact ⟨fun q w => w q, fun q => Decidable.not_not.mp q⟩
  have inner : ∀ (G p b : Nat) (u : zS) (R : Int × zS), p < n → ¬ zdf (s 354) p = true → b ≤ zMx B → zCL (zan (s 354) n m (s 10 6) U B) n u (zall (s 354) n m (s 10 6) U B M p ++ zlq (zok (s 354) n m (s 10 6) U B M) p b) → (∀ x, x ≠ 224 → x ≠ 235 → x ≠ 238 → x ≠ 239 → ¬ (230 ≤ x ∧ x ≤ 233) → u x = t1 x) → u 224 7 = 0 → zG G xm_c50 34 [224, ((B : Nat) : Int), ((p : Nat) : Int), ((b : Nat) : Int)] [] u R → ∃ (F' : Nat) (u' : zS) (x3 : Int), F' < G ∧ zCL (zan (s 354) n m (s 10 6) U B) n u' (zall (s 354) n m (s 10 6) U B M (p + 1)) ∧ (∀ x, x ≠ 224 → x ≠ 235 → x ≠ 238 → x ≠ 239 → ¬ (230 ≤ x ∧ x ≤ 233) → u' x = t1 x) ∧ u' 224 7 = 0 ∧ zG F' xm_c50 73 [224, ((B : Nat) : Int), ((p : Nat) : Int), x3] [] u' R := by
    intro G
    induction G using Nat.strongRecOn with
    | _ G ih =>
      intro p b u R hp hd hbM hC fu f7 e0
      have out : ∀ F1, F1 < G → ¬ (b ≤ 40 ∧ b ≤ B) → zG F1 xm_c50 73 [224, ((B : Nat) : Int), ((p : Nat) : Int), ((b : Nat) : Int)] [] u R → ∃ (F' : Nat) (u' : zS) (x3 : Int), F' < G ∧ zCL (zan (s 354) n m (s 10 6) U B) n u' (zall (s 354) n m (s 10 6) U B M (p + 1)) ∧ (∀ x, x ≠ 224 → x ≠ 235 → x ≠ 238 → x ≠ 239 → ¬ (230 ≤ x ∧ x ≤ 233) → u' x = t1 x) ∧ u' 224 7 = 0 ∧ zG F' xm_c50 73 [224, ((B : Nat) : Int), ((p : Nat) : Int), x3] [] u' R := fun F1 l1 no e1 => by
        have bM : b = zMx B := Nat.le_antisymm hbM (Nat.not_lt.mp (fun q => no (zMx_b.mp q)))
        refine ⟨F1, u, _, l1, ?_, fu, f7, e1⟩
        have eS : zall (s 354) n m (s 10 6) U B M (p + 1) = zall (s 354) n m (s 10 6) U B M p ++ zlq (zok (s 354) n m (s 10 6) U B M) p (zMx B) := if_neg hd
        rw [eS, ← bM]
        exact hC
      obtain ⟨F1, l1, ⟨c1, e1⟩ | ⟨c1, e1⟩⟩ := zi_50_34 e0
      · exact out F1 l1 (fun q => by
          clear ih hC fu out
          omega) e1
      obtain ⟨F2, l2, ⟨c2, e2⟩ | ⟨c2, e2⟩⟩ := zi_50_37 e1
      · exact out F2 (Nat.lt_trans l2 l1) (fun q => by
          clear ih hC fu out
          omega) e2
      have b40 : b ≤ 40 := by
        clear ih hC fu out
        omega
      have bB' : b ≤ B := by
        clear ih hC fu out
        omega
      obtain ⟨F3, l3, r3, s3, q3, e3⟩ := zi_50_40 e2
      obtain ⟨rfl, rfl⟩ := zdet q3 zo_bit
      have u11 : u (224 + (-214) + 1) 4 = s 11 4 := by
        show u 11 4 = _
        rw [fu 11 (by decide) (by decide) (by decide) (by decide) (by decide), o 11 (by decide) (by decide)]
      rw [u11] at e3
      obtain ⟨F4, l4, ⟨c4, e4⟩ | ⟨c4, e4⟩⟩ := zi_50_46 e3
      · have ln : (zall (s 354) n m (s 10 6) U B M p ++ zlq (zok (s 354) n m (s 10 6) U B M) p b).length < 287 := by
          rw [List.length_append]
          have n1 : (zall (s 354) n m (s 10 6) U B M p).length ≤ p * zMx B := zlp_n p
          have n2 := zlq_n (ok := zok (s 354) n m (s 10 6) U B M) p b
          have n3 : p * zMx B ≤ 6 * 41 := Nat.mul_le_mul (by omega) zMx_r
          clear ih hC fu out
          omega
        obtain ⟨F5, u', l5, hC', fu', f7', e5⟩ := one F4 p b u R _ hp b40 bB' ln hC fu f7 e4
        obtain ⟨F6, l6, e6⟩ := zi_50_71 e5
        have en : zw (((b : Nat) : Int) + 1) = ((b + 1 : Nat) : Int) := by
          clear ih hC fu out hC' fu'
          exact zw_id (by omega) (by omega)
        rw [en] at e6
        have eq : (if zok (s 354) n m (s 10 6) U B M p b = true then (zall (s 354) n m (s 10 6) U B M p ++ zlq (zok (s 354) n m (s 10 6) U B M) p b) ++ [(p, b)] else zall (s 354) n m (s 10 6) U B M p ++ zlq (zok (s 354) n m (s 10 6) U B M) p b) = zall (s 354) n m (s 10 6) U B M p ++ zlq (zok (s 354) n m (s 10 6) U B M) p (b + 1) := by
          have eS : zlq (zok (s 354) n m (s 10 6) U B M) p (b + 1) = if zok (s 354) n m (s 10 6) U B M p b = true then zlq (zok (s 354) n m (s 10 6) U B M) p b ++ [(p, b)] else zlq (zok (s 354) n m (s 10 6) U B M) p b := rfl
          rw [eS]
          by_cases ok : zok (s 354) n m (s 10 6) U B M p b = true
          · rw [if_pos ok, if_pos ok, List.append_assoc]
          · rw [if_neg ok, if_neg ok]
        rw [eq] at hC'
        obtain ⟨F', u'', x3, z1, z2⟩ := ih F6 (Nat.lt_trans l6 (Nat.lt_trans l5 (Nat.lt_trans l4 (Nat.lt_trans l3 (Nat.lt_trans l2 l1))))) p (b + 1) u' R hp hd (zMx_b.mpr ⟨b40, bB'⟩) hC' fu' f7' e6
        exact ⟨F', u'', x3, Nat.lt_trans z1 (Nat.lt_trans l6 (Nat.lt_trans l5 (Nat.lt_trans l4 (Nat.lt_trans l3 (Nat.lt_trans l2 l1))))), z2⟩
      · exact absurd ((df p hp).mpr hd) c4
  have outer : ∀ (G p : Nat) (x3 : Int) (u : zS) (R : Int × zS), p ≤ n → zCL (zan (s 354) n m (s 10 6) U B) n u (zall (s 354) n m (s 10 6) U B M p) → (∀ x, x ≠ 224 → x ≠ 235 → x ≠ 238 → x ≠ 239 → ¬ (230 ≤ x ∧ x ≤ 233) → u x = t1 x) → u 224 7 = 0 → zG G xm_c50 26 [224, ((B : Nat) : Int), ((p : Nat) : Int), x3] [] u R → zCL (zan (s 354) n m (s 10 6) U B) n R.2 (zall (s 354) n m (s 10 6) U B M n) := by
    intro G
    induction G using Nat.strongRecOn with
    | _ G ih =>
      intro p x3 u R hp hC fu f7 e0
      have u1 : u 11 1 = ((n : Nat) : Int) := by
        rw [fu 11 (by decide) (by decide) (by decide) (by decide) (by decide), o 11 (by decide) (by decide), h11]
      obtain ⟨F1, l1, ⟨c1, e1⟩ | ⟨c1, e1⟩⟩ := zi_50_26 e0
      · have c1 : ((p : Nat) : Int) < u 11 1 := c1
        have pL : p < n := by
          rw [u1] at c1
          exact Int.ofNat_lt.mp c1
        have en : zw (((p : Nat) : Int) + 1) = ((p + 1 : Nat) : Int) := by
          clear ih hC fu c1
          exact zw_id (by omega) (by omega)
        obtain ⟨F2, l2, e2⟩ := zi_50_32 e1
        by_cases dp : zdf (s 354) p = true
        · have eS : zall (s 354) n m (s 10 6) U B M (p + 1) = zall (s 354) n m (s 10 6) U B M p := if_pos dp
          obtain ⟨F3, l3, ⟨c3, e3⟩ | ⟨c3, e3⟩⟩ := zi_50_34 e2
          · exact absurd c3 (by decide)
          obtain ⟨F4, l4, ⟨c4, e4⟩ | ⟨c4, e4⟩⟩ := zi_50_37 e3
          · exact absurd c4 (Int.not_lt.mpr (Int.natCast_nonneg B))
          obtain ⟨F5, l5, r5, s5, q5, e5⟩ := zi_50_40 e4
          obtain ⟨rfl, rfl⟩ := zdet q5 zo_bit
          have u11 : u (224 + (-214) + 1) 4 = s 11 4 := by
            show u 11 4 = _
            rw [fu 11 (by decide) (by decide) (by decide) (by decide) (by decide), o 11 (by decide) (by decide)]
          rw [u11] at e5
          obtain ⟨F6, l6, ⟨c6, e6⟩ | ⟨c6, e6⟩⟩ := zi_50_46 e5
          · exact absurd dp ((df p pL).mp c6)
          · obtain ⟨F7, l7, e7⟩ := zi_50_73 e6
            rw [en] at e7
            exact ih F7 (Nat.lt_trans l7 (Nat.lt_trans l6 (Nat.lt_trans l5 (Nat.lt_trans l4 (Nat.lt_trans l3 (Nat.lt_trans l2 l1)))))) (p + 1) _ u R pL (by rw [eS]; exact hC) fu f7 e7
        · obtain ⟨F3, u', x3', l3, hC', fu', f7', e3⟩ := inner F2 p 0 u R pL dp (Nat.zero_le _) (by
            show zCL _ n u (zall (s 354) n m (s 10 6) U B M p ++ [])
            rw [List.append_nil]
            exact hC) fu f7 e2
          obtain ⟨F4, l4, e4⟩ := zi_50_73 e3
          rw [en] at e4
          exact ih F4 (Nat.lt_trans l4 (Nat.lt_trans l3 (Nat.lt_trans l2 l1))) (p + 1) _ u' R pL hC' fu' f7' e4
      · have c1 : ¬ ((p : Nat) : Int) < u 11 1 := c1
        have pL : p = n := by
          rw [u1] at c1
          exact Nat.le_antisymm hp (Nat.not_lt.mp (fun q => c1 (Int.ofNat_lt.mpr q)))
        rw [zi_50_75 e1]
        rw [pL] at hC
        exact hC
  obtain ⟨F3, l3, e4⟩ := zi_50_24 e3
  exact outer F3 0 _ t1 R (Nat.zero_le n) ⟨t8, fun q => absurd rfl q, fun i q hi => absurd hi (Nat.not_lt_zero i)⟩ (fun _ _ _ _ _ _ => rfl) v2 e4
end NE
