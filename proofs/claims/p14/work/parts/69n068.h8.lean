/-! whisper, undo and bell on both sides -/
section HZ
variable {bB : Int}
variable {s s1 s2 t : zS} {σ τ : Int → Int} {n m : Nat} {p f x y c : Int}
theorem zuq_8 {p a b c : Int} : zpe (zuq σ p a b c) p 8 = a := if_pos rfl
theorem zuq_9 {p a b c : Int} : zpe (zuq σ p a b c) p 9 = b := (if_neg (by omega)).trans (if_pos rfl)
theorem zuq_10 {p a b c : Int} : zpe (zuq σ p a b c) p 10 = c := (if_neg (by omega)).trans ((if_neg (by omega)).trans (if_pos rfl))
theorem zuq_o {p a b c k : Int} (h : ¬ (10 + 11 * p + 8 ≤ k ∧ k ≤ 10 + 11 * p + 10)) : zuq σ p a b c k = σ k := (if_neg (by omega)).trans ((if_neg (by omega)).trans (if_neg (by omega)))
theorem zA_whisper (H : zRZ bB s) (h6 : s 7 8 ≤ 6) : ∃ r s1 s2, zE xm_c97 [7, x, c] s r s1 ∧ zE xm_c202 [344, x, c] s1 r s2 ∧ zRZ bB s2 := by
  obtain ⟨n, m, hD, hE⟩ := H.2.2.2.1
  have h1 : s 11 1 = s 354 1 := hD.1.1.1.2.1
  have g1 := hD.2.1.1.1
  have h7 := hD.2.1.1.2.1
  by_cases c0 : 0 ≤ x ∧ x < s 354 1
  case neg =>
    exact zRZ_r H (r := 0) (zb_97_0 zo_hasP (zb_97_5 (fun _ => zb_97_11 rfl) (fun q => absurd (z01' (by rw [show s (7 + 3 + 1) 1 = s 354 1 from h1]; exact c0)) q))) (zb_202_0 zq_isP (zb_202_3 (fun _ => zb_202_20 rfl) (fun q => absurd (z01' c0) q)))
  obtain ⟨p, rfl⟩ := Int.eq_ofNat_of_zero_le c0.1
  have hp : p < n := by omega
  have p0 : 0 ≤ ((p : Nat) : Int) := Int.natCast_nonneg p
  have p6 : ((p : Nat) : Int) ≤ 6 := by omega
  have cA : ∀ R, zA xm_c97 6 [7, ((p : Nat) : Int), c] [] s R → zA xm_c97 0 [7, ((p : Nat) : Int), c] [] s R := fun R z => zb_97_0 zo_hasP (zb_97_5 (fun q => absurd q (z10 (by rw [show s (7 + 3 + 1) 1 = s 354 1 from h1]; exact c0))) (fun _ => z))
  have cM : ∀ (s : zS) (σ : Int → Int) R, s 354 = σ → ((p : Nat) : Int) < σ 1 → zA xm_c202 4 [344, ((p : Nat) : Int), c] [] s R → zA xm_c202 0 [344, ((p : Nat) : Int), c] [] s R := fun s σ R hs h z => zb_202_0 zq_isP (zb_202_3 (fun q => absurd q (z10 ⟨p0, by rw [hs]; exact h⟩)) (fun _ => z))
  have bit : zbt (zor (s 11 4) (s 24 0)) ((p : Nat) : Int) = 1 ↔ zpe (s 354) ((p : Nat) : Int) 6 = 1 ∨ zkn (s 354) p := by
    have e1 : zbt (s 11 4) ((p : Nat) : Int) = zpe (s 354) ((p : Nat) : Int) 6 := (hD.1.1.2.1 p hp).2.2.2.2
    have e2 : zbt (s 24 0) ((p : Nat) : Int) = 1 ↔ zkn (s 354) p := by
      have : s 24 0 = zfs (zkn (s 354)) n := hD.1.2.2.1.1
      rw [this]
      exact zbt_fo1 hp (by omega)
    rw [zbt_or, e1]
    rcases zbt_01 (s 24 0) ((p : Nat) : Int) with w | w
    · have nk : ¬ zkn (s 354) p := fun q => by rw [e2.mpr q] at w; exact absurd w (by decide)
      rw [w, (zor_0 _ (by rw [← e1]; exact zbt_01 _ _)).1]
      exact ⟨Or.inl, fun q => q.resolve_right nk⟩
    · rw [w, (zor_0 _ (by rw [← e1]; exact zbt_01 _ _)).2.2.1]
      exact ⟨fun _ => Or.inr (e2.mp w), fun _ => rfl⟩
  have kn : ∀ (s : zS) (σ : Int → Int), s 354 = σ → zE xm_c179 [344, ((p : Nat) : Int)] s (if zpe σ ((p : Nat) : Int) 8 < 0 then 0 else 1) s := fun s σ hs => zr_know hs p0 p6
  by_cases cr : 0 ≤ c ∧ c ≤ 99
  case neg =>
    refine zRZ_r H (r := 0) (cA _ ?_) (cM s _ _ rfl c0.2 (zb_202_4 (zr_per rfl p0 p6 (by decide) (by decide)) (zb_202_8 (fun _ => zb_202_20 rfl) (fun _ => zb_202_10 (kn s _ rfl) (zb_202_13 (fun _ => zb_202_14 (zr_in2 (lo := 0) (hi := 99)) (zb_202_19 (fun _ => zb_202_20 rfl) (fun q => absurd (z01' cr) q))) (fun _ => zb_202_20 rfl))))))
    by_cases d : c < 0
    · exact zb_97_6 (fun _ => zb_97_11 rfl) (fun q => absurd d q)
    · exact zb_97_6 (fun q => absurd q d) (fun _ => zb_97_8 (fun _ => zb_97_11 rfl) (fun q => absurd ⟨Int.not_lt.mp d, Int.not_lt.mp q⟩ cr))
  have cB : ∀ R, zA xm_c97 13 [7, ((p : Nat) : Int), c] [] s R → zA xm_c97 0 [7, ((p : Nat) : Int), c] [] s R := fun R z => cA R (zb_97_6 (fun q => absurd q (Int.not_lt.mpr cr.1)) (fun _ => zb_97_8 (fun q => absurd q (Int.not_lt.mpr cr.2)) (fun _ => z)))
  by_cases c1 : zpe (s 354) ((p : Nat) : Int) 6 = 1 ∨ zkn (s 354) p
  · refine zRZ_r H (r := 0) (cB _ (zb_97_13 zo_bit (zb_97_24 (fun _ => zb_97_26 rfl) (fun q => absurd (bit.mpr c1) q)))) (cM s _ _ rfl c0.2 (zb_202_4 (zr_per rfl p0 p6 (by decide) (by decide)) (zb_202_8 (fun _ => zb_202_20 rfl) (fun q => zb_202_10 (kn s _ rfl) (zb_202_13 (fun q2 => ?_) (fun _ => zb_202_20 rfl))))))
    have k := c1.resolve_left q
    rw [if_neg k] at q2
    exact absurd q2 (by decide)
  have c6 : ¬ zpe (s 354) ((p : Nat) : Int) 6 = 1 := fun q => c1 (Or.inl q)
  have c8 : ¬ zkn (s 354) p := fun q => c1 (Or.inr q)
  have c8' : zpe (s 354) ((p : Nat) : Int) 8 < 0 := Decidable.not_not.mp c8
  obtain ⟨t, a1, a2, a3, a4⟩ := zo_kept hD hE
  have nx := hE.1.2.2.2.1
  have g4 := hD.2.1.1.2.2.2.2.2.2.2
  have tL := zRL_c hD.1.2.2.1 (s' := t) (fun x x1 x2 => a4 x (by omega) (by omega))
  have tb : t 19 0 = s 354 4 := by rw [a4 19 (by decide) (by omega)]; exact hD.1.2.1.1
  obtain ⟨T, hT⟩ : ∃ T, T = zuq (s 354) ((p : Nat) : Int) (s 354 4) c (-1) := ⟨_, rfl⟩
  have far : ∀ k : Int, ¬ (10 + 11 * ((p : Nat) : Int) + 8 ≤ k ∧ k ≤ 10 + 11 * ((p : Nat) : Int) + 10) → T k = s 354 k := fun k hk => by rw [hT]; exact zuq_o hk
  have Tq : ∀ (q : Nat) (j : Int), 0 ≤ j → j ≤ 10 → (q ≠ p ∨ j ≤ 7) → zpe T ((q : Nat) : Int) j = zpe (s 354) ((q : Nat) : Int) j := fun q j j0 j1 hq => far _ (by omega)
  have T8 : zpe T ((p : Nat) : Int) 8 = s 354 4 := by rw [hT]; exact zuq_8
  have T9 : zpe T ((p : Nat) : Int) 9 = c := by rw [hT]; exact zuq_9
  have T10 : zpe T ((p : Nat) : Int) 10 = -1 := by rw [hT]; exact zuq_10
  obtain ⟨W, hW⟩ : ∃ W : zS, W = zu (zu (zu (zu t 24 0 (zor (t 24 0) (zshl 1 ((p : Nat) : Int)))) 25 ((p : Nat) : Int) (t 19 0)) 26 ((p : Nat) : Int) c) 27 ((p : Nat) : Int) (-1) := ⟨_, rfl⟩
  have hlearn : zE xm_c38 [24, ((p : Nat) : Int), c, -1, t 19 0] t 0 W := zb_38_0 (by
    rw [hW, zclm_c]
    have : zclm c = c := by
      unfold zclm
      rw [if_neg (by omega), if_neg (by omega)]
    rw [this]
    rfl)
  have o1 : ∀ x, ¬ (24 ≤ x ∧ x ≤ 27) → W x = t x := fun x hx => by
    rw [hW]
    exact funext (fun y => by rw [zu_cell (by omega), zu_cell (by omega), zu_cell (by omega), zu_cell (by omega)])
  have hF : zRF W 19 T n := by
    obtain ⟨b1, b2, b3⟩ := zRF_c hD.1.2.1 (s' := W) (fun x x1 x2 => by rw [o1 x (by omega), a4 x (by omega) (by omega)])
    refine ⟨by rw [far 4 (by omega)]; exact b1, by rw [far 8 (by omega)]; exact b2, fun q hq => ?_⟩
    rw [Tq q 0 (by decide) (by decide) (Or.inr (by decide)), Tq q 1 (by decide) (by decide) (Or.inr (by decide)), Tq q 2 (by decide) (by decide) (Or.inr (by decide)), Tq q 3 (by decide) (by decide) (Or.inr (by decide))]
    exact b3 q hq
  have hL : zRL W 24 T n := by
    obtain ⟨b1, b2⟩ := tL
    refine ⟨?_, fun q hq => ?_⟩
    · have : W 24 0 = zor (t 24 0) (zshl 1 ((p : Nat) : Int)) := by rw [hW, zu_cell (by decide), zu_cell (by decide), zu_cell (by decide), zu_hit]
      rw [this]
      have b1 : t 24 0 = zfs (zkn (s 354)) n := b1
      rw [b1]
      refine (zfo_add n hp (fun k hk => ?_)).symm
      unfold zkn
      by_cases e : k = p
      · subst e
        rw [T8]
        exact ⟨fun _ => Or.inr rfl, fun _ => Int.not_lt.mpr g4.1⟩
      · rw [Tq k 8 (by decide) (by decide) (Or.inl e)]
        exact ⟨Or.inl, fun z => z.resolve_right e⟩
    · obtain ⟨d1, d2, d3⟩ := b2 q hq
      have v1 : W (24 + 1) ((q : Nat) : Int) = if q = p then t 19 0 else t 25 ((q : Nat) : Int) := by
        rw [hW]
        show zu (zu (zu (zu t 24 0 _) 25 _ _) 26 _ _) 27 _ _ 25 _ = _
        rw [zu_cell (by decide), zu_cell (by decide)]
        by_cases e : q = p
        · rw [if_pos e, e, zu_hit]
        · rw [if_neg e, zu_place (by omega), zu_cell (by decide)]
      have v2 : W (24 + 2) ((q : Nat) : Int) = if q = p then c else t 26 ((q : Nat) : Int) := by
        rw [hW]
        show zu (zu (zu (zu t 24 0 _) 25 _ _) 26 _ _) 27 _ _ 26 _ = _
        rw [zu_cell (by decide)]
        by_cases e : q = p
        · rw [if_pos e, e, zu_hit]
        · rw [if_neg e, zu_place (by omega), zu_cell (by decide), zu_cell (by decide)]
      have v3 : W (24 + 3) ((q : Nat) : Int) = if q = p then -1 else t 27 ((q : Nat) : Int) := by
        rw [hW]
        show zu (zu (zu (zu t 24 0 _) 25 _ _) 26 _ _) 27 _ _ 27 _ = _
        by_cases e : q = p
        · rw [if_pos e, e, zu_hit]
        · rw [if_neg e, zu_place (by omega), zu_cell (by decide), zu_cell (by decide), zu_cell (by decide)]
      rw [v1, v2, v3]
      by_cases e : q = p
      · subst e
        rw [if_pos rfl, if_pos rfl, if_pos rfl, T8, T9, T10, tb]
        exact ⟨rfl, rfl, rfl⟩
      · rw [if_neg e, if_neg e, if_neg e, Tq q 8 (by decide) (by decide) (Or.inl e), Tq q 9 (by decide) (by decide) (Or.inl e), Tq q 10 (by decide) (by decide) (Or.inl e)]
        exact ⟨d1, d2, d3⟩
  have hc : zCa s W n T := zCa_of hE a2 a3 a4 hF hL (fun x x1 x2 => o1 x (by omega))
  have e344 : W 344 = s 344 := hc.2.2.2.2 344 (by decide) (by decide) (by decide) (by decide)
  have e354 : W 354 = s 354 := hc.2.2.2.2 354 (by decide) (by decide) (by decide) (by decide)
  obtain ⟨w, b1, b2, b3, b4⟩ := zr_kept (s1 := W) hE e344
  have w354 : w 354 = s 354 := by rw [b3 354 (by decide) (by decide), e354]
  have z8 := zpp2 (p := ((p : Nat) : Int)) (k := 8) p0 p6 (by decide) (by decide)
  have z9 := zpp2 (p := ((p : Nat) : Int)) (k := 9) p0 p6 (by decide) (by decide)
  have z10' := zpp2 (p := ((p : Nat) : Int)) (k := 10) p0 p6 (by decide) (by decide)
  obtain ⟨Y, hY⟩ : ∃ Y : zS, Y = zu (zu (zu w 354 (10 + 11 * ((p : Nat) : Int) + 8) (s 354 4)) 354 (10 + 11 * ((p : Nat) : Int) + 9) c) 354 (10 + 11 * ((p : Nat) : Int) + 10) (-1) := ⟨_, rfl⟩
  have hwh : zE xm_c201 [344, ((p : Nat) : Int), c] w 0 Y := zb_201_0 (by
    rw [hY, z8, z9, z10']
    show ((0 : Int), zu (zu (zu w 354 _ (w 354 4)) 354 _ c) 354 _ (-1)) = _
    rw [w354])
  have Yo : ∀ x, x ≠ 354 → Y x = w x := fun x hx => by
    rw [hY]
    exact funext (fun y => by rw [zu_cell hx, zu_cell hx, zu_cell hx])
  have hM : zMa W Y T := by
    refine ⟨funext (fun k => ?_), ?_, fun x x1 x2 => ?_, fun y y1 y2 y3 => ?_⟩
    · rw [hY, zu2, zu2, zu2, w354, hT]
      unfold zuq
      by_cases k8 : k = 10 + 11 * ((p : Nat) : Int) + 8
      · simp only [if_neg (show ¬ k = 10 + 11 * ((p : Nat) : Int) + 10 by omega), if_neg (show ¬ k = 10 + 11 * ((p : Nat) : Int) + 9 by omega), if_pos k8]
      · by_cases k9 : k = 10 + 11 * ((p : Nat) : Int) + 9
        · simp only [if_neg (show ¬ k = 10 + 11 * ((p : Nat) : Int) + 10 by omega), if_neg k8, if_pos k9]
        · by_cases k10 : k = 10 + 11 * ((p : Nat) : Int) + 10
          · simp only [if_neg k8, if_neg k9, if_pos k10]
          · simp only [if_neg k8, if_neg k9, if_neg k10]
    · rw [Yo 356 (by decide), Yo 344 (by decide)]
      exact b2
    · rw [Yo x (by omega)]
      exact b3 x x1 (by omega)
    · rw [Yo 344 (by decide)]
      exact b4 y y3
  have hst : ∀ k, zst k ∨ ¬ (0 ≤ k ∧ k < 87) → T k = s 354 k := fun k hk => by
    refine far k ?_
    unfold zst at hk
    omega
  obtain ⟨q1, q2⟩ := zAct hD hE hc hM hst (zGs_s hD.2.1 (fun k hk => hst k (hk.imp_right (fun q => by omega))) (by rw [far 4 (by omega)]; exact g4) (fun q hq => by
    obtain ⟨y0, y1, y3, y4, y5, y6, -⟩ := hD.2.1.2.1 q hq
    rw [Tq q 0 (by decide) (by decide) (Or.inr (by decide)), Tq q 1 (by decide) (by decide) (Or.inr (by decide)), Tq q 2 (by decide) (by decide) (Or.inr (by decide)), Tq q 3 (by decide) (by decide) (Or.inr (by decide))]
    refine ⟨y0, y1, y3, y5, ?_⟩
    by_cases e : q = p
    · subst e
      rw [T8]
      omega
    · rw [Tq q 8 (by decide) (by decide) (Or.inl e)]
      exact y6))
  refine ⟨1, W, Y, cB _ (zb_97_13 zo_bit (zb_97_24 (fun q => absurd (bit.mp q) c1) (fun _ => zb_97_28 (s1 := t) (r := 0) a1 (zb_97_33 (s1 := W) (r := 0) hlearn (zb_97_44 rfl))))), cM W _ _ e354 c0.2 (zb_202_4 (zr_per e354 p0 p6 (by decide) (by decide)) (zb_202_8 (fun q => absurd q c6) (fun _ => zb_202_10 (kn W _ e354) (zb_202_13 (fun _ => zb_202_14 (zr_in2 (lo := 0) (hi := 99)) (zb_202_19 (fun q => absurd q (z10 cr)) (fun _ => zb_202_22 (s1 := w) (r := 0) b1 (zb_202_24 hwh (zb_202_28 rfl))))) (fun q => absurd (if_pos c8') q))))), zRZ_D H h6 (zFr1_of hc.2.2.2.2 hM.2.2) ⟨n, m, q1, q2⟩⟩
/-- undo -/
theorem zA_undo (H : zRZ bB s) (h6 : s 7 8 ≤ 6) : ∃ r s1 s2, zE xm_c101 [7] s r s1 ∧ zE xm_c199 [344, 0] s1 r s2 ∧ zRZ bB s2 := by
  obtain ⟨n, m, hD, hE⟩ := H.2.2.2.1
  have hE0 := hE
  obtain ⟨⟨e1, e2, e3, e4, e5⟩, e6⟩ := hE
  have h7 := hD.2.1.1.2.1
  rcases zr_undo (s := s) e2 e3 with ⟨c, z⟩ | ⟨c, -⟩
  · exact zRZ_r H (r := -1) (zb_101_0 (fun _ => zb_101_4 rfl) (fun q => absurd (show s 40 3 = 0 by rw [e1, c]) q)) z
  · obtain ⟨t, a1, a2, a3, a4, a5, a6⟩ := zo_takeBack (s := s) ⟨e4, e5⟩ (by rw [e1]; omega)
    have o : ∀ x, x ≠ 40 → ¬ (19 ≤ x ∧ x ≤ 27) → t x = s x := a6
    have t344 : t 344 = s 344 := o 344 (by decide) (by decide)
    have t354 : t 354 = s 354 := o 354 (by decide) (by decide)
    have t356 : t 356 = s 356 := o 356 (by decide) (by decide)
    rcases zr_undo (s := t) (by rw [t344]; exact e2) (by rw [t344]; exact e3) with ⟨c', -⟩ | ⟨c', w, b1, b2, b3, b4, b5⟩
    · exact absurd (by rw [← t344]; exact c') c
    rw [t344] at b1 b2 b3 b5
    rw [t356, t354] at b3
    obtain ⟨j, hj⟩ : ∃ j : Nat, ((j : Nat) : Int) = s 344 26 - 1 := ⟨(s 344 26 - 1).toNat, by omega⟩
    have ew : w 354 = zwj s j := by
      rw [b3]
      funext k
      unfold zwj
      rw [hj]
    obtain ⟨d1, d2, d3, d4⟩ := e6 j (by omega)
    have ei : ((zix (s 40 2) (s 344 26) j : Nat) : Int) = (s 40 2 + 19) % 20 := by
      unfold zix
      rw [hj]
      omega
    rw [ei] at d1 d2
    have wo : ∀ x, x < 344 → w x = t x := fun x hx => b4 x (by omega) (by omega)
    have hi : ∀ k, ¬ (0 ≤ k ∧ k < 87) → zwj s j k = s 354 k := fun k hk => if_neg hk
    have hst : ∀ k, zst k ∨ 87 ≤ k → zwj s j k = s 354 k := fun k hk => hk.elim (d4 k) (fun q => hi k (by omega))
    have e137 : zwj s j 137 = s 354 137 := hi 137 (by decide)
    obtain ⟨⟨h1, h2, h3, h4, h5⟩, g1, g2, g3⟩ := hD
    have fr : zFr1 s w := by
      refine ⟨fun x hx => ?_, ⟨?_, ?_⟩, ?_, ?_, ?_, ?_⟩
      · rw [b4 x (by omega) (by omega), o x (by omega) (by omega)]
      · rw [wo 10 (by decide), o 10 (by decide) (by decide)]
      · rw [wo 10 (by decide), o 10 (by decide) (by decide)]
      · rw [b5 1 (by decide)]
      · rw [b5 2 (by decide)]
      · rw [b5 21 (by decide)]
      · rw [b5 22 (by decide)]
    refine ⟨s 344 26 - 1, t, w, zb_101_0 (fun q => absurd (show s 344 26 = 0 by rw [← e1]; exact q) c) (fun _ => zb_101_6 (s1 := t) (r := 0) a1 (zb_101_11 ?_)), b1, zRZ_D H h6 fr ⟨n, m, ⟨⟨?_, ?_, ?_, ?_, ?_⟩, ?_⟩, ⟨⟨?_, ?_, ?_, ?_, ?_⟩, fun i hi2 => ?_⟩⟩⟩
    · show (t 40 3, t) = _
      rw [a3, e1]
    · rw [ew]
      exact zRH_s (zRH_c h1 (fun x x1 x2 => by rw [wo x (by omega), o x (by omega) (by omega)])) h7 hst
    · rw [ew]
      exact zRF_c (a4 _ n h7 d1) (fun x x1 x2 => wo x (by omega))
    · rw [ew]
      exact zRL_c (a5 _ n h7 d2) (fun x x1 x2 => wo x (by omega))
    · rw [ew, e137, wo 10 (by decide), o 10 (by decide) (by decide)]
      exact h4
    · rw [ew, e137]
      intro k hk
      show w 28 _ = _ ∧ w 29 _ = _
      rw [wo 28 (by decide), wo 29 (by decide), o 28 (by decide) (by decide), o 29 (by decide) (by decide), hi (117 + 2 * ((k : Nat) : Int)) (by omega), hi (117 + 2 * ((k : Nat) : Int) + 1) (by omega)]
      exact h5 k hk
    · rw [ew]
      exact ⟨d3, zGt_s g2 (fun k hk => d4 k hk), by rw [e137]; exact g3.1, by rw [e137]; exact g3.2.1, zNr_e g3.2.2 g3.2.1 (by rw [g1.1.1]; exact Int.ofNat_le.mpr h7) (fun k hk => hst k (by
      rcases hk with q | q | q
      · exact Or.inl (Or.inl (Or.inl (show k < 4 by rw [q]; decide)))
      · exact Or.inr (Int.le_trans (by decide) q.1)
      · exact Or.inl (Or.inr ⟨q.1, q.2.1, by rw [q.2.2]; decide, by rw [q.2.2]; decide⟩)))⟩
    · rw [wo 40 (by decide), a3, b2, e1]
    · rw [b2]; omega
    · rw [b2]; omega
    · rw [wo 40 (by decide), a2]; omega
    · rw [wo 40 (by decide), a2]; omega
    · rw [b2] at hi2
      obtain ⟨k1, k2, k3, k4⟩ := e6 i (by omega)
      have eq : zwj w i = zwj s i := by
        funext k
        unfold zwj
        by_cases d : 0 ≤ k ∧ k < 87
        · rw [if_pos d, if_pos d, b4 356 (by decide) (by decide), t356]
        · rw [if_neg d, if_neg d, ew, hi k d]
      have ez : zix (w 40 2) (w 344 26) i = zix (s 40 2) (s 344 26) i := by
        unfold zix
        rw [wo 40 (by decide), a2, b2]
        congr 1
        omega
      have rr := zix_r (nx := s 40 2) (u := s 344 26) (j := i)
      rw [ez, eq, ew]
      exact ⟨zRF_c k1 (fun x x1 x2 => by rw [wo x (by omega), o x (by omega) (by omega)]), zRL_c k2 (fun x x1 x2 => by rw [wo x (by omega), o x (by omega) (by omega)]), k3, fun k hk => (k4 k hk).trans (d4 k hk).symm⟩
end HZ
