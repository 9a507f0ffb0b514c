/-! acts by hand on both sides -/
/-- what the class's acts leave -/
def zFc (s s1 : zS) : Prop := ∀ x, ¬ (19 ≤ x ∧ x ≤ 27) → x ≠ 40 → ¬ (43 ≤ x ∧ x ≤ 222) → ¬ (224 ≤ x ∧ x ≤ 239) → s1 x = s x
/-- what the reference's acts leave -/
def zFm (s s1 : zS) : Prop := (∀ x, x ≠ 344 → ¬ (352 ≤ x ∧ x ≤ 356) → s1 x = s x) ∧ ∀ y, y ≠ 18 → y ≠ 23 → y ≠ 26 → s1 344 y = s 344 y
/-- what neither touches -/
def zFr1 (s s2 : zS) : Prop := (∀ x, (7 ≤ x ∧ x ≤ 9) ∨ (240 ≤ x ∧ x ≤ 343) ∨ (345 ≤ x ∧ x ≤ 349) ∨ (360 ≤ x ∧ x ≤ 363) → s2 x = s x) ∧ (s2 10 6 = s 10 6 ∧ s2 10 7 = s 10 7) ∧ s2 344 1 = s 344 1 ∧ s2 344 2 = s 344 2 ∧ s2 344 21 = s 344 21 ∧ s2 344 22 = s 344 22
/-- an act of the class, kept -/
def zCa (s s1 : zS) (n : Nat) (τ : Int → Int) : Prop := (zRF s1 19 τ n ∧ zRL s1 24 τ n) ∧ (s1 40 2 = (s 40 2 + 1) % 20 ∧ s1 40 3 = (if s 40 3 = 20 then 20 else s 40 3 + 1)) ∧ (zRF s1 (43 + 9 * s 40 2) (s 354) n ∧ zRL s1 (48 + 9 * s 40 2) (s 354) n) ∧ (∀ x, 43 ≤ x → x ≤ 222 → ¬ (43 + 9 * s 40 2 ≤ x ∧ x ≤ 43 + 9 * s 40 2 + 8) → s1 x = s x) ∧ zFc s s1
/-- an act of the reference, kept -/
def zMa (s s1 : zS) (τ : Int → Int) : Prop := s1 354 = τ ∧ zKA (s 356) (s1 356) (s 344 26) (s1 344 26) (s 354) ∧ zFm s s1
section HX
variable {bB : Int}
variable {s s1 s2 t : zS} {σ τ : Int → Int} {n m : Nat} {p f x y : Int}
theorem zFr1_of (c : zFc s s1) (r : zFm s1 s2) : zFr1 s s2 := by
  refine ⟨fun x hx => ?_, ⟨?_, ?_⟩, ?_, ?_, ?_, ?_⟩
  · rw [r.1 x (by omega) (by omega), c x (by omega) (by omega) (by omega) (by omega)]
  · rw [r.1 10 (by decide) (by decide), c 10 (by decide) (by decide) (by decide) (by decide)]
  · rw [r.1 10 (by decide) (by decide), c 10 (by decide) (by decide) (by decide) (by decide)]
  · rw [r.2 1 (by decide) (by decide) (by decide), c 344 (by decide) (by decide) (by decide) (by decide)]
  · rw [r.2 2 (by decide) (by decide) (by decide), c 344 (by decide) (by decide) (by decide) (by decide)]
  · rw [r.2 21 (by decide) (by decide) (by decide), c 344 (by decide) (by decide) (by decide) (by decide)]
  · rw [r.2 22 (by decide) (by decide) (by decide), c 344 (by decide) (by decide) (by decide) (by decide)]
theorem zRZ_D (H : zRZ bB s) (h6 : s 7 8 ≤ 6) (f : zFr1 s s2) (hDE : ∃ n m, zgD bB s2 n m ∧ zgE bB s2 n m) : zRZ bB s2 := by
  obtain ⟨A, B, C, -, I⟩ := H
  obtain ⟨f0, ⟨f6, f7⟩, g1, g2, g3, g4⟩ := f
  have e7 : s2 7 8 = s 7 8 := by rw [f0 7 (by omega)]
  exact ⟨zgA_c A (by rw [f0 8 (by omega)]) (f0 9 (by omega)) g1 (f0 345 (by omega)), zgB_c B h6 e7 (fun x x1 x2 => f0 x (by omega)) (fun x x1 x2 => f0 x (by omega)) g2, zgC_c C e7 f6 f7 g3 g4, hDE, zgF_c I (by rw [e7]; exact Int.le_refl _) (fun x x1 x2 => f0 x (by omega)) (fun x x1 x2 => f0 x (by omega))⟩
theorem zAct (hD : zgD bB s n m) (hE : zgE bB s n m) (c : zCa s s1 n τ) (r : zMa s1 s2 τ) (hst : ∀ k, zst k ∨ ¬ (0 ≤ k ∧ k < 87) → τ k = s 354 k) (hG : zGs bB τ n m) : zgD bB s2 n m ∧ zgE bB s2 n m := by
  obtain ⟨⟨h1, h2, h3, h4, h5⟩, g1, g2, g3⟩ := hD
  obtain ⟨⟨c1, c2⟩, ⟨c3, c4⟩, ⟨c5, c6⟩, c7, c8⟩ := c
  obtain ⟨r1, r2, r3⟩ := r
  have h7 := g1.1.2.1
  have e354 : s1 354 = s 354 := c8 354 (by decide) (by decide) (by decide) (by decide)
  have e356 : s1 356 = s 356 := c8 356 (by decide) (by decide) (by decide) (by decide)
  have e344 : s1 344 = s 344 := c8 344 (by decide) (by decide) (by decide) (by decide)
  have o : ∀ x, x < 344 → s2 x = s1 x := fun x hx => r3.1 x (by omega) (by omega)
  rw [e354, e356, e344] at r2
  have hst2 : ∀ k, zst k ∨ 87 ≤ k → τ k = s 354 k := fun k hk => hst k (hk.imp_right (fun q => by omega))
  have e137 : τ 137 = s 354 137 := hst 137 (Or.inr (by decide))
  refine ⟨⟨⟨?_, ?_, ?_, ?_, ?_⟩, ?_⟩, ?_⟩
  · rw [r1]
    exact zRH_s (zRH_c h1 (fun x x1 x2 => by rw [o x (by omega), c8 x (by omega) (by omega) (by omega) (by omega)])) h7 hst2
  · rw [r1]
    exact zRF_c c1 (fun x x1 x2 => o x (by omega))
  · rw [r1]
    exact zRL_c c2 (fun x x1 x2 => o x (by omega))
  · rw [r1, e137, o 10 (by decide), c8 10 (by decide) (by decide) (by decide) (by decide)]
    exact h4
  · rw [r1, e137]
    intro k hk
    show s2 28 _ = _ ∧ s2 29 _ = _
    rw [o 28 (by decide), o 29 (by decide), c8 28 (by decide) (by decide) (by decide) (by decide), c8 29 (by decide) (by decide) (by decide) (by decide), hst (117 + 2 * ((k : Nat) : Int)) (Or.inr (by omega)), hst (117 + 2 * ((k : Nat) : Int) + 1) (Or.inr (by omega))]
    exact h5 k hk
  · rw [r1]
    exact ⟨hG, zGt_s g2 (fun k hk => hst k (Or.inl hk)), by rw [e137]; exact g3.1, by rw [e137]; exact g3.2.1, zNr_e g3.2.2 g3.2.1 (by rw [g1.1.1]; exact Int.ofNat_le.mpr h7) (fun k hk => hst2 k (by
      rcases hk with q | q | q
      · exact Or.inl (Or.inl (Or.inl (show k < 4 by rw [q]; decide)))
      · exact Or.inr (Int.le_trans (by decide) q.1)
      · exact Or.inl (Or.inr ⟨q.1, q.2.1, by rw [q.2.2]; decide, by rw [q.2.2]; decide⟩)))⟩
  · refine zgE_act (s := s) (s2 := s2) (h2) (h3) g1 hE ?_ ?_ (zRF_c c5 (fun x x1 x2 => o x ?_)) (zRL_c c6 (fun x x1 x2 => o x ?_)) (fun x x1 x2 x3 => by rw [o x (by omega)]; exact c7 x x1 x2 x3) r2 (fun k hk => by rw [r1]; exact hst k hk)
    · rw [o 40 (by decide)]; exact c3
    · rw [o 40 (by decide)]; exact c4
    · have := hE.1.2.2.2.2; omega
    · have := hE.1.2.2.2.2; omega
/-- the class keeps an act -/
theorem zo_kept (hD : zgD bB s n m) (hE : zgE bB s n m) : ∃ s', zE xm_c17 [40, 10] s 0 s' ∧ (s' 40 2 = (s 40 2 + 1) % 20 ∧ s' 40 3 = (if s 40 3 = 20 then 20 else s 40 3 + 1)) ∧ (zRF s' (43 + 9 * s 40 2) (s 354) n ∧ zRL s' (48 + 9 * s 40 2) (s 354) n) ∧ ∀ x, x ≠ 40 → ¬ (43 + 9 * s 40 2 ≤ x ∧ x ≤ 43 + 9 * s 40 2 + 8) → s' x = s x := by
  obtain ⟨⟨e1, e2, e3, e4, e5⟩, -⟩ := hE
  obtain ⟨s', a1, a2, a3, a4, a5, a6⟩ := zo_keep (s := s) ⟨e4, e5⟩ (by rw [e1]; exact ⟨e2, e3⟩)
  exact ⟨s', a1, ⟨a2, a3⟩, ⟨a4 _ n hD.2.1.1.2.1 hD.1.2.1, a5 _ n hD.2.1.1.2.1 hD.1.2.2.1⟩, a6⟩
theorem zCa_of (hE : zgE bB s n m) (k1 : s1 40 2 = (s 40 2 + 1) % 20 ∧ s1 40 3 = (if s 40 3 = 20 then 20 else s 40 3 + 1)) (k2 : zRF s1 (43 + 9 * s 40 2) (s 354) n ∧ zRL s1 (48 + 9 * s 40 2) (s 354) n) (k3 : ∀ x, x ≠ 40 → ¬ (43 + 9 * s 40 2 ≤ x ∧ x ≤ 43 + 9 * s 40 2 + 8) → s1 x = s x) (hF : zRF t 19 τ n) (hL : zRL t 24 τ n) (o : ∀ x, ¬ (19 ≤ x ∧ x ≤ 27) → ¬ (224 ≤ x ∧ x ≤ 239) → t x = s1 x) : zCa s t n τ := by
  obtain ⟨⟨e1, e2, e3, e4, e5⟩, -⟩ := hE
  refine ⟨⟨hF, hL⟩, ?_, ⟨zRF_c k2.1 (fun x x1 x2 => o x (by omega) (by omega)), zRL_c k2.2 (fun x x1 x2 => o x (by omega) (by omega))⟩, fun x x1 x2 x3 => by rw [o x (by omega) (by omega), k3 x (by omega) x3], fun x x1 x2 x3 x4 => by rw [o x x1 x4, k3 x x2 (by omega)]⟩
  rw [o 40 (by decide) (by decide)]
  exact k1
theorem zo_hasP {h : Int} : zE xm_c23 [h, x] s (if 0 ≤ x ∧ x < s h 1 then 1 else 0) s := zb_23_0 (fun q => zb_23_8 (by rw [if_neg (fun z => absurd z.1 (Int.not_le.mpr q))])) (fun q => zb_23_2 (fun q2 => zb_23_6 (by rw [if_pos ⟨Int.not_lt.mp q, q2⟩])) (fun q2 => zb_23_8 (by rw [if_neg (fun z => q2 z.2)])))
theorem zo_hasF {h : Int} : zE xm_c22 [h, x] s (if 0 ≤ x ∧ x < s h 0 then 1 else 0) s := zb_22_0 (fun q => zb_22_8 (by rw [if_neg (fun z => absurd z.1 (Int.not_le.mpr q))])) (fun q => zb_22_2 (fun q2 => zb_22_6 (by rw [if_pos ⟨Int.not_lt.mp q, q2⟩])) (fun q2 => zb_22_8 (by rw [if_neg (fun z => q2 z.2)])))
theorem zo_stands {h : Int} : zE xm_c21 [h] s (if 0 < s h 0 then 1 else 0) s := zb_21_0 (fun q => zb_21_3 (by rw [if_pos q])) (fun q => zb_21_5 (by rw [if_neg q]))
theorem z10 {P : Prop} [Decidable P] (h : P) : ¬ (if P then (1 : Int) else 0) = 0 := by
  rw [if_pos h]
  decide
theorem z01' {P : Prop} [Decidable P] (h : ¬ P) : (if P then (1 : Int) else 0) = 0 := if_neg h
/-- the reference keeps an act -/
theorem zr_kept (hE : zgE bB s n m) (hs : s1 344 = s 344) : ∃ s2, zE xm_c198 [344, 0] s1 0 s2 ∧ zKA (s1 356) (s2 356) (s1 344 26) (s2 344 26) (s1 354) ∧ (∀ x, x ≠ 344 → x ≠ 356 → s2 x = s1 x) ∧ ∀ y, y ≠ 26 → s2 344 y = s1 344 y := by
  obtain ⟨⟨e1, e2, e3, e4, e5⟩, -⟩ := hE
  exact zr_keepsAct (s := s1) (by rw [hs]; exact e2) (by rw [hs]; exact e3)
theorem zFc_r : zFc s s := fun _ _ _ _ _ => rfl
theorem zRZ_r (H : zRZ bB s) {r : Int} {c1 c2 : List xm_E} {l1 l2 : List Int} (a : zE c1 l1 s r s) (b : zE c2 l2 s r s) : ∃ r s1 s2, zE c1 l1 s r s1 ∧ zE c2 l2 s1 r s2 ∧ zRZ bB s2 := ⟨r, s, s, a, b, H⟩
/-- plant -/
theorem zA_plant (H : zRZ bB s) (h6 : s 7 8 ≤ 6) : ∃ r s1 s2, zE xm_c99 [7, x] s r s1 ∧ zE xm_c205 [344, x] s1 r s2 ∧ zRZ bB s2 := by
  obtain ⟨n, m, hD, hE⟩ := H.2.2.2.1
  have h0 : s 11 0 = s 354 0 := hD.1.1.1.1
  by_cases c : 0 ≤ x ∧ x < s 354 0
  case neg =>
    exact zRZ_r H (r := -1) (zb_99_0 zo_hasF (zb_99_5 (fun _ => zb_99_6 rfl) (fun q => absurd (z01' (by rw [show s (7 + 3 + 1) 0 = s 354 0 from h0]; exact c)) q))) (zb_205_0 zq_isF (zb_205_3 (fun _ => zb_205_4 rfl) (fun q => absurd (z01' c) q)))
  obtain ⟨t, a1, a2, a3, a4⟩ := zo_kept hD hE
  have t1 : t 19 1 = s 354 8 := by rw [a4 19 (by decide) (by have := hE.1.2.2.2.1; omega)]; exact hD.1.2.1.2.1
  obtain ⟨v, hv⟩ : ∃ v, v = zxor (s 354 8) (zshl 1 x) := ⟨_, rfl⟩
  have o1 : ∀ x, x ≠ 19 → zu t 19 1 v x = t x := fun x hx => funext (fun y => zu_cell hx)
  have hF : zRF (zu t 19 1 v) 19 (fun k => if k = 8 then v else s 354 k) n := by
    have hf := zRF_c hD.1.2.1 (s' := t) (fun x x1 x2 => a4 x (by omega) (by have := hE.1.2.2.2.1; omega))
    obtain ⟨b1, b2, b3⟩ := hf
    refine ⟨?_, ?_, fun p hp => ?_⟩
    · show zu t 19 1 v 19 0 = (if (4 : Int) = 8 then v else s 354 4)
      rw [zu_place (by decide), if_neg (by decide)]
      exact b1
    · show zu t 19 1 v 19 1 = (if (8 : Int) = 8 then v else s 354 8)
      rw [zu_hit, if_pos rfl]
    · have pe : ∀ j : Int, 0 ≤ j → zpe (fun k => if k = 8 then v else s 354 k) ((p : Nat) : Int) j = zpe (s 354) ((p : Nat) : Int) j := fun j j0 => if_neg (by omega)
      rw [pe 0 (by decide), pe 1 (by decide), pe 2 (by decide), pe 3 (by decide), o1 _ (by decide), o1 _ (by decide), o1 _ (by decide), o1 _ (by decide)]
      exact b3 p hp
  have hL : zRL (zu t 19 1 v) 24 (fun k => if k = 8 then v else s 354 k) n := by
    have hl := zRL_c hD.1.2.2.1 (s' := zu t 19 1 v) (fun x x1 x2 => by rw [o1 x (by omega), a4 x (by omega) (by have := hE.1.2.2.2.1; omega)])
    have pe : ∀ (p : Nat) (j : Int), 0 ≤ j → zpe (fun k => if k = 8 then v else s 354 k) ((p : Nat) : Int) j = zpe (s 354) ((p : Nat) : Int) j := fun p j j0 => if_neg (by omega)
    obtain ⟨b1, b2⟩ := hl
    refine ⟨?_, fun p hp => ?_⟩
    · refine b1.trans (zfo_congr n (fun p hp => ?_))
      unfold zkn
      rw [pe p 8 (by decide)]
    · rw [pe p 8 (by decide), pe p 9 (by decide), pe p 10 (by decide)]
      exact b2 p hp
  have hc : zCa s (zu t 19 1 v) n (fun k => if k = 8 then v else s 354 k) := zCa_of hE a2 a3 a4 hF hL (fun x x1 x2 => o1 x (by omega))
  have e344 : zu t 19 1 v 344 = s 344 := hc.2.2.2.2 344 (by decide) (by decide) (by decide) (by decide)
  have e354 : zu t 19 1 v 354 = s 354 := hc.2.2.2.2 354 (by decide) (by decide) (by decide) (by decide)
  obtain ⟨w, b1, b2, b3, b4⟩ := zr_kept (s1 := zu t 19 1 v) hE e344
  have w354 : w 354 = s 354 := by rw [b3 354 (by decide) (by decide), e354]
  have hM : zMa (zu t 19 1 v) (zu w 354 8 v) (fun k => if k = 8 then v else s 354 k) := by
    refine ⟨funext (fun k => ?_), ?_, fun x x1 x2 => ?_, fun y y1 y2 y3 => ?_⟩
    · rw [zu2, w354]
    · rw [zu_cell (by decide)]
      have : zu w 354 8 v 356 = w 356 := funext (fun y => zu_cell (by decide))
      rw [this]
      exact b2
    · rw [← b3 x x1 (by omega)]
      exact funext (fun y => zu_cell (by omega))
    · rw [zu_cell (by decide)]
      exact b4 y y3
  obtain ⟨q1, q2⟩ := zAct hD hE hc hM (fun k hk => by
    refine if_neg ?_
    unfold zst at hk
    omega) (zGs_s hD.2.1 (fun k hk => by
    refine if_neg ?_
    unfold zst at hk
    omega) (by
    show 0 ≤ (if (4 : Int) = 8 then v else s 354 4) ∧ (if (4 : Int) = 8 then v else s 354 4) ≤ 999 ∧ (if (4 : Int) = 8 then v else s 354 4) ≤ bB
    rw [if_neg (by decide)]
    exact hD.2.1.1.2.2.2.2.2.2.2) (fun p hp => by
    have pe : ∀ j : Int, 0 ≤ j → zpe (fun k => if k = 8 then v else s 354 k) ((p : Nat) : Int) j = zpe (s 354) ((p : Nat) : Int) j := fun j j0 => if_neg (by omega)
    rw [pe 0 (by decide), pe 1 (by decide), pe 2 (by decide), pe 3 (by decide), pe 8 (by decide)]
    obtain ⟨r0, r1, r3, r4, r5, r6, -⟩ := hD.2.1.2.1 p hp
    exact ⟨r0, r1, r3, r5, r6⟩))
  refine ⟨zbt v x, zu t 19 1 v, zu w 354 8 v, zb_99_0 zo_hasF (zb_99_5 (fun q => absurd q (z10 (by rw [show s (7 + 3 + 1) 0 = s 354 0 from h0]; exact c))) (fun _ => zb_99_8 (s1 := t) (r := 0) a1 (zb_99_13 (r := zbt v x) (s1 := zu t 19 1 v) ?_ (zb_99_29 rfl)))), zb_205_0 zq_isF (zb_205_3 (fun q => absurd q (z10 (by rw [e354]; exact c))) (fun _ => zb_205_6 (s1 := w) (r := 0) b1 (zb_205_8 ?_))), zRZ_D H h6 (zFr1_of hc.2.2.2.2 hM.2.2) ⟨n, m, q1, q2⟩⟩
  · show zE xm_c120 [(zu t 19 1 (zxor (t 19 1) (zshl 1 x))) 19 1, x] (zu t 19 1 (zxor (t 19 1) (zshl 1 x))) _ _
    rw [t1, ← hv, zu_hit]
    exact zo_bit
  · show (zbt ((zu w 354 8 (zxor (w 354 8) (zshl 1 x))) 354 8) x, zu w 354 8 (zxor (w 354 8) (zshl 1 x))) = _
    rw [w354, ← hv, zu_hit]
end HX
