/-! rule, image and back, on both sides -/
def zSm (s s' : zS) : Prop := (s' 8 1 = s 8 1 ∧ ∀ i : Nat, i < 400 → s' 9 i = s 9 i) ∧ s' 7 8 = s 7 8 ∧ s' 10 6 = s 10 6 ∧ s' 344 1 = s 344 1 ∧ s' 344 2 = s 344 2 ∧ s' 344 21 = s 344 21 ∧ (∀ i : Nat, i < 400 → s' 345 i = s 345 i) ∧ (∀ i : Nat, i < 4 → s' 361 i = s 361 i) ∧ (∀ i : Nat, i < 4 → s' 363 i = s 363 i) ∧ (∀ i : Nat, i < 4 → s' (264 + 20 * (i : Int)) 6 = s (264 + 20 * (i : Int)) 6) ∧ ∀ i : Nat, i < 4 → s' (264 + 20 * (i : Int)) 8 = s (264 + 20 * (i : Int)) 8
theorem zKp.sm {md : yM} {s s' : zS} (k : zKp md s s') (m1 : ym_mod md 8 1 = false) (m2 : ∀ i, ym_mod md 9 i = false) (m3 : ym_mod md 7 8 = false) (m4 : ym_mod md 10 6 = false) (m5 : ym_mod md 93 1 = false) (m6 : ym_mod md 93 2 = false) (m7 : ym_mod md 93 21 = false) (m8 : ∀ i, ym_mod md 94 i = false) (m9 : ∀ i, ym_mod md 110 i = false) (m10 : ∀ i, ym_mod md 112 i = false) (m11 : ym_mod md 73 6 = false) (m12 : ym_mod md 73 8 = false) : zSm s s' := ⟨⟨k.len1 m1, k.by1 m2⟩, k.cnt1 m3, k.frc1 m4, k.len2 m5, k.cnt2 m6, k.frc2 m7, k.by2 m8, k.imf2 m9, k.imm2 m10, k.imf1 m11, k.imm1 m12⟩
theorem zSm.trans {s s1 s2 : zS} (h : zSm s s1) (h' : zSm s1 s2) : zSm s s2 := by
  obtain ⟨⟨a1, a2⟩, a3, a4, a5, a6, a7, a8, a9, a10, a11, a12⟩ := h
  obtain ⟨⟨b1, b2⟩, b3, b4, b5, b6, b7, b8, b9, b10, b11, b12⟩ := h'
  exact ⟨⟨b1.trans a1, fun i hi => (b2 i hi).trans (a2 i hi)⟩, b3.trans a3, b4.trans a4, b5.trans a5, b6.trans a6, b7.trans a7, fun i hi => (b8 i hi).trans (a8 i hi), fun i hi => (b9 i hi).trans (a9 i hi), fun i hi => (b10 i hi).trans (a10 i hi), fun i hi => (b11 i hi).trans (a11 i hi), fun i hi => (b12 i hi).trans (a12 i hi)⟩
/-- the code of a fault, or the number of the rule -/
def zrq (c f : Int) : Int := if f = 0 then c else zw (-2 - f)
theorem zo_rule {s : zS} (hb : zg_by (s 9)) (hT0 : 0 ≤ s 8 1) (hT4 : s 8 1 ≤ 400) (hc0 : 0 ≤ s 7 8) (hc6 : s 7 8 ≤ 6) : ∃ r s1, zE xm_c91 [7, 0] s r s1 ∧ ((s 7 8 = 6 ∧ r = -1 ∧ s1 = s) ∨ (s 7 8 ≠ 6 ∧ ∃ f, zg_end (s 9) (s 8 1) (0, 0, zg_sk (s 9) (s 8 1) 0, 0, 0, []) f ∧ s1 8 1 = 0 ∧ s1 7 8 = (if f = 0 then s 7 8 + 1 else s 7 8) ∧ r = zrq (s 7 8) f ∧ s1 345 = s 345)) := by
  by_cases h6 : s 7 8 = 6
  · exact ⟨-1, s, zb_91_0 (fun q => absurd q (by omega)) (fun _ => zb_91_4 rfl), Or.inl ⟨h6, rfl, rfl⟩⟩
  · obtain ⟨f, s', e1, ⟨sa, k, p, n, e2, e3, e4⟩, e5⟩ := zo_read (r := 240 + 4 * s 7 8) hb rfl hT0 hT4 (by omega) (by omega)
    have k8 : s' 7 8 = s 7 8 := by rw [e2, zT_o (by decide)]; exact e4 7 8 (by decide) (by decide) (by omega)
    have k345 : ∀ b, s' 345 b = s 345 b := fun b => by rw [e2, zT_o (by decide)]; exact e4 345 b (by decide) (by decide) (by omega)
    by_cases hf : f = 0
    · refine ⟨zrq (s 7 8) f, _, zb_91_0 (fun _ => zb_91_6 (r := f) (s1 := s') e1 (zb_91_14 (fun _ => zb_91_25 (Prod.ext ?_ rfl)) (fun q => absurd hf q))) (fun q => absurd (show s 7 8 < 6 by omega) q), Or.inr ⟨h6, f, e5, ?_, ?_, rfl, ?_⟩⟩
      · show zw (zu (zu s' 8 1 0) 7 8 (zw (zu s' 8 1 0 7 8 + 1)) 7 8 - 1) = zrq (s 7 8) f
        rw [zu_hit, zu_cell (by decide), k8]
        unfold zrq
        rw [if_pos hf, zw_id (x := s 7 8 + 1) (by omega) (by omega), zw_id (by omega) (by omega)]
        omega
      · show zu (zu s' 8 1 0) 7 8 _ 8 1 = 0
        rw [zu_cell (by decide), zu_hit]
      · show zu (zu s' 8 1 0) 7 8 (zw (zu s' 8 1 0 7 8 + 1)) 7 8 = _
        rw [zu_hit, zu_cell (by decide), k8, if_pos hf, zw_id (by omega) (by omega)]
      · funext b
        show zu (zu s' 8 1 0) 7 8 _ 345 b = _
        rw [zu_cell (by decide), zu_cell (by decide), k345]
    · refine ⟨zrq (s 7 8) f, _, zb_91_0 (fun _ => zb_91_6 (r := f) (s1 := s') e1 (zb_91_14 (fun q => absurd q hf) (fun _ => zb_91_21 (Prod.ext ?_ rfl)))) (fun q => absurd (show s 7 8 < 6 by omega) q), Or.inr ⟨h6, f, e5, ?_, ?_, rfl, ?_⟩⟩
      · show zw (-2 - f) = zrq (s 7 8) f
        unfold zrq
        rw [if_neg hf]
      · exact zu_hit
      · show zu s' 8 1 0 7 8 = _
        rw [zu_cell (by decide), k8, if_neg hf]
      · funext b
        show zu s' 8 1 0 345 b = _
        rw [zu_cell (by decide), k345]
theorem zr_rule {s : zS} (hb : zg_by (s 345)) (hT0 : 0 ≤ s 344 1) (hT4 : s 344 1 ≤ 400) (hc0 : 0 ≤ s 344 2) (hc6 : s 344 2 ≤ 6) : ∃ r s1, zE xm_c168 [344] s r s1 ∧ ((s 344 2 = 6 ∧ r = -1 ∧ s1 = s) ∨ (s 344 2 ≠ 6 ∧ ∃ f, zg_end (s 345) (s 344 1) (0, 0, zg_sk (s 345) (s 344 1) 0, 0, 0, []) f ∧ s1 344 1 = 0 ∧ s1 344 2 = (if f = 0 then s 344 2 + 1 else s 344 2) ∧ r = zrq (s 344 2) f)) := by
  by_cases h6 : s 344 2 = 6
  · exact ⟨-1, s, zb_168_0 (fun _ => zb_168_4 rfl) (fun q => absurd h6 q), Or.inl ⟨h6, rfl, rfl⟩⟩
  · have hq : ∀ y z w : Int, ∀ b, b ≠ 11 → zu (zu s 344 11 y) 349 z w 344 b = s 344 b := fun y z w b hb => by rw [zu_cell (by decide), zu_place hb]
    have h9 : ∀ y z w : Int, zu (zu s 344 11 y) 349 z w 345 = s 345 := fun y z w => by funext b; rw [zu_cell (by decide), zu_cell (by decide)]
    obtain ⟨f, s', e1, ⟨e2, e3, e4⟩, e5⟩ := zr_all (s0 := zu (zu s 344 11 (s 344 2)) (344 + 5) ((zu s 344 11 (s 344 2)) 344 11) 0) (T := s 344 1) ⟨by show zg_by (zu (zu s 344 11 (s 344 2)) 349 _ 0 345); rw [h9]; exact hb, hq _ _ _ 1 (by decide), hT0, hT4⟩ (by
      show zu (zu s 344 11 (s 344 2)) 349 _ 0 344 11 ≠ 6
      rw [zu_cell (by decide), zu_hit]
      exact h6)
    have e5 : zg_end (zu (zu s 344 11 (s 344 2)) 349 ((zu s 344 11 (s 344 2)) 344 11) 0 345) (s 344 1) (0, 0, zg_sk (zu (zu s 344 11 (s 344 2)) 349 ((zu s 344 11 (s 344 2)) 344 11) 0 345) (s 344 1) 0, 0, 0, []) f := e5
    rw [h9] at e5
    have k2 : s' 344 2 = s 344 2 := (e4 344 2 (by decide) (by decide) (by decide) (by decide) (by decide) (by decide) (by decide) (by decide)).trans (hq _ _ _ 2 (by decide))
    by_cases hf : f = 0
    · rw [if_pos hf] at e1
      refine ⟨zrq (s 344 2) f, _, zb_168_0 (fun q => absurd q h6) (fun _ => zb_168_6 (r := 1) (s1 := s') e1 (zb_168_18 (fun q => absurd q (by decide)) (fun _ => zb_168_24 (Prod.ext ?_ rfl)))), Or.inr ⟨h6, f, e5, ?_, ?_, rfl⟩⟩
      · show zw (zu s' 344 2 (zw (s' 344 2 + 1)) 344 2 - 1) = zrq (s 344 2) f
        rw [zu_hit, k2]
        unfold zrq
        rw [if_pos hf, zw_id (x := s 344 2 + 1) (by omega) (by omega), zw_id (by omega) (by omega)]
        omega
      · rw [zu_place (by decide)]
        exact e3
      · rw [zu_hit, k2, if_pos hf, zw_id (by omega) (by omega)]
    · rw [if_neg hf] at e1
      refine ⟨zrq (s 344 2) f, s', zb_168_0 (fun q => absurd q h6) (fun _ => zb_168_6 (r := 0) (s1 := s') e1 (zb_168_18 (fun _ => zb_168_19 (Prod.ext ?_ rfl)) (fun q => absurd rfl q))), Or.inr ⟨h6, f, e5, e3, ?_, rfl⟩⟩
      · show zw (-2 - s' 344 9) = zrq (s 344 2) f
        rw [e2]
        unfold zrq
        rw [if_neg hf]
      · rw [k2, if_neg hf]
theorem zcpy_o {s : zS} {i sp j dp n a b : Int} (h : a ≠ j) : zcpy s i sp j dp n a b = s a b := by
  unfold zcpy
  rw [if_neg (fun q => h q.1)]
theorem zo_copyIN {G : xm_H} {s : zS} (hT : ys_HT G) (hI : yi_Inv yJ G) (hR : zR G s) {a : Nat} (h0 : 264 ≤ a) (h1 : yr_of (a + 1) = 74) (h2 : yr_of (a + 9) = 82) (h3 : yr_of (a + 14) = 87) : ∃ s3 s', zE xm_c76 [(a : Int), 10] s 0 s' ∧ zSm s s3 ∧ s' (a : Int) 6 = s3 10 6 ∧ ∀ x y, x ≠ (a : Int) + 18 → x ≠ (a : Int) + 19 → ¬ (x = (a : Int) ∧ (y = 5 ∨ y = 6 ∨ y = 7)) → s' x y = s3 x y := by
  obtain ⟨r1, s1, e1, v1, G1, -, R1, T1, I1, F1, -⟩ := zE_of (m := 0) (c := xm_c25) (yc_24 yJ_ok 8 (by decide)) rfl rfl (As := [.ref (a + 1), .ref 11]) (zs := [(false, (a : Int) + 1), (false, 10 + 1)]) [] hT hI ⟨⟨Or.inl rfl, by rw [h1]; rfl⟩, ⟨Or.inl rfl, rfl⟩, trivial⟩ (fun q hq => by cases hq) ⟨⟨rfl, rfl, rfl⟩, ⟨rfl, rfl, rfl⟩, trivial⟩ hR
  have m1 := (zf_keep hT hR R1 F1).sm rfl (fun i => rfl) rfl rfl rfl rfl rfl (fun i => rfl) (fun i => rfl) (fun i => rfl) rfl rfl
  obtain ⟨r2, s2, e2, v2, G2, -, R2, T2, I2, F2, -⟩ := zE_of (m := 0) (c := xm_c2) (yc_19 yJ_ok 8 (by decide)) rfl rfl (As := [.ref (a + 9), .ref 19]) (zs := [(false, (a : Int) + 9), (false, 10 + 9)]) [] T1 I1 ⟨⟨Or.inl rfl, by rw [h2]; rfl⟩, ⟨Or.inl rfl, rfl⟩, trivial⟩ (fun q hq => by cases hq) ⟨⟨rfl, rfl, rfl⟩, ⟨rfl, rfl, rfl⟩, trivial⟩ R1
  have m2 := (zf_keep T1 R1 R2 F2).sm rfl (fun i => rfl) rfl rfl rfl rfl rfl (fun i => rfl) (fun i => rfl) (fun i => rfl) rfl rfl
  obtain ⟨r3, s3, e3, v3, G3, -, R3, T3, I3, F3, -⟩ := zE_of (m := 0) (c := xm_c37) (yc_20 yJ_ok 8 (by decide)) rfl rfl (As := [.ref (a + 14), .ref 24]) (zs := [(false, (a : Int) + 14), (false, 10 + 14)]) [] T2 I2 ⟨⟨Or.inl rfl, by rw [h3]; rfl⟩, ⟨Or.inl rfl, rfl⟩, trivial⟩ (fun q hq => by cases hq) ⟨⟨rfl, rfl, rfl⟩, ⟨rfl, rfl, rfl⟩, trivial⟩ R2
  have m3 := (zf_keep T2 R2 R3 F3).sm rfl (fun i => rfl) rfl rfl rfl rfl rfl (fun i => rfl) (fun i => rfl) (fun i => rfl) rfl rfl
  refine ⟨s3, _, zb_76_0 e1 (zb_76_5 e2 (zb_76_10 e3 (zb_76_15 rfl))), m1.trans (m2.trans m3), ?_, fun x y hx1 hx2 hx3 => ?_⟩
  · rw [zu_place (by decide), zu_hit, zu_cell (by omega), zcpy_o (by omega), zcpy_o (by omega)]
  · have h5 : ∀ {t : zS} {i w : Int}, (i = 5 ∨ i = 6 ∨ i = 7) → zu t (a : Int) i w x y = t x y := fun hi => by
      unfold zu
      rw [if_neg (fun q => hx3 ⟨q.1, by omega⟩)]
    rw [h5 (Or.inr (Or.inr rfl)), h5 (Or.inr (Or.inl rfl)), h5 (Or.inl rfl), zcpy_o hx2, zcpy_o hx1]
theorem zo_copyNI {G : xm_H} {s : zS} (hT : ys_HT G) (hI : yi_Inv yJ G) (hR : zR G s) {a : Nat} (h0 : 264 ≤ a) (h1 : yr_of (a + 1) = 74) (h2 : yr_of (a + 9) = 82) (h3 : yr_of (a + 14) = 87) : ∃ s3 s', zE xm_c76 [10, (a : Int)] s 0 s' ∧ zSm s s3 ∧ s' 10 6 = s3 (a : Int) 6 ∧ ∀ x y, x ≠ 10 + 18 → x ≠ 10 + 19 → ¬ (x = 10 ∧ (y = 5 ∨ y = 6 ∨ y = 7)) → s' x y = s3 x y := by
  obtain ⟨r1, s1, e1, v1, G1, -, R1, T1, I1, F1, -⟩ := zE_of (m := 0) (c := xm_c25) (yc_25 yJ_ok 8 (by decide)) rfl rfl (As := [.ref 11, .ref (a + 1)]) (zs := [(false, 10 + 1), (false, (a : Int) + 1)]) [] hT hI ⟨⟨Or.inl rfl, rfl⟩, ⟨Or.inl rfl, by rw [h1]; rfl⟩, trivial⟩ (fun q hq => by cases hq) ⟨⟨rfl, rfl, rfl⟩, ⟨rfl, rfl, rfl⟩, trivial⟩ hR
  have m1 := (zf_keep hT hR R1 F1).sm rfl (fun i => rfl) rfl rfl rfl rfl rfl (fun i => rfl) (fun i => rfl) (fun i => rfl) rfl rfl
  obtain ⟨r2, s2, e2, v2, G2, -, R2, T2, I2, F2, -⟩ := zE_of (m := 0) (c := xm_c2) (yc_21 yJ_ok 8 (by decide)) rfl rfl (As := [.ref 19, .ref (a + 9)]) (zs := [(false, 10 + 9), (false, (a : Int) + 9)]) [] T1 I1 ⟨⟨Or.inl rfl, rfl⟩, ⟨Or.inl rfl, by rw [h2]; rfl⟩, trivial⟩ (fun q hq => by cases hq) ⟨⟨rfl, rfl, rfl⟩, ⟨rfl, rfl, rfl⟩, trivial⟩ R1
  have m2 := (zf_keep T1 R1 R2 F2).sm rfl (fun i => rfl) rfl rfl rfl rfl rfl (fun i => rfl) (fun i => rfl) (fun i => rfl) rfl rfl
  obtain ⟨r3, s3, e3, v3, G3, -, R3, T3, I3, F3, -⟩ := zE_of (m := 0) (c := xm_c37) (yc_22 yJ_ok 8 (by decide)) rfl rfl (As := [.ref 24, .ref (a + 14)]) (zs := [(false, 10 + 14), (false, (a : Int) + 14)]) [] T2 I2 ⟨⟨Or.inl rfl, rfl⟩, ⟨Or.inl rfl, by rw [h3]; rfl⟩, trivial⟩ (fun q hq => by cases hq) ⟨⟨rfl, rfl, rfl⟩, ⟨rfl, rfl, rfl⟩, trivial⟩ R2
  have m3 := (zf_keep T2 R2 R3 F3).sm rfl (fun i => rfl) rfl rfl rfl rfl rfl (fun i => rfl) (fun i => rfl) (fun i => rfl) rfl rfl
  refine ⟨s3, _, zb_76_0 e1 (zb_76_5 e2 (zb_76_10 e3 (zb_76_15 rfl))), m1.trans (m2.trans m3), ?_, fun x y hx1 hx2 hx3 => ?_⟩
  · rw [zu_place (by decide), zu_hit, zu_cell (by omega), zcpy_o (by omega), zcpy_o (by omega)]
  · have h5 : ∀ {t : zS} {i w : Int}, (i = 5 ∨ i = 6 ∨ i = 7) → zu t 10 i w x y = t x y := fun hi => by
      unfold zu
      rw [if_neg (fun q => hx3 ⟨q.1, by omega⟩)]
    rw [h5 (Or.inr (Or.inr rfl)), h5 (Or.inr (Or.inl rfl)), h5 (Or.inl rfl), zcpy_o hx2, zcpy_o hx1]
theorem zk_4 {x : Int} (h0 : 0 ≤ x) (h4 : x < 4) : ∃ k : Nat, k < 4 ∧ x = k := ⟨x.toNat, by omega, by omega⟩
theorem zk_a : ∀ k : Nat, k < 4 → yr_of (264 + 20 * k + 1) = 74 ∧ yr_of (264 + 20 * k + 9) = 82 ∧ yr_of (264 + 20 * k + 14) = 87
  | 0, _ => ⟨rfl, rfl, rfl⟩
  | 1, _ => ⟨rfl, rfl, rfl⟩
  | 2, _ => ⟨rfl, rfl, rfl⟩
  | 3, _ => ⟨rfl, rfl, rfl⟩
  | k + 4, h => absurd h (by omega)
theorem zo_image {G : xm_H} {s : zS} (hT : ys_HT G) (hI : yi_Inv yJ G) (hR : zR G s) (x : Int) : ∃ r s1, zE xm_c116 [7, x] s r s1 ∧ ∀ k : Nat, k < 4 → s1 (264 + 20 * (k : Int)) 6 = (if (k : Int) = x then s 10 6 else s (264 + 20 * (k : Int)) 6) ∧ s1 (264 + 20 * (k : Int)) 8 = (if (k : Int) = x then 1 else s (264 + 20 * (k : Int)) 8) := by
  by_cases hx : 0 ≤ x ∧ x < 4
  · obtain ⟨n, hn, rfl⟩ := zk_4 hx.1 hx.2
    obtain ⟨a1, a2, a3⟩ := zk_a n hn
    obtain ⟨s3, s', e1, e2, e3, e4⟩ := zo_copyIN hT hI hR (a := 264 + 20 * n) (by omega) a1 a2 a3
    obtain ⟨-, -, g6, -, -, -, -, -, -, gi, gm⟩ := e2
    have ea : (((264 + 20 * n : Nat)) : Int) = 264 + 20 * (n : Int) := by omega
    rw [ea] at e1 e3 e4
    refine ⟨_, _, zb_116_0 (fun q => absurd q (by omega)) (fun _ => zb_116_2 (fun _ => zb_116_7 (r := 0) (s1 := s') e1 (zb_116_14 rfl)) (fun q => absurd hx.2 q)), fun k hk => ?_⟩
    show zu s' (264 + 20 * (n : Int)) 8 1 (264 + 20 * (k : Int)) 6 = _ ∧ zu s' (264 + 20 * (n : Int)) 8 1 (264 + 20 * (k : Int)) 8 = _
    by_cases e : (k : Int) = n
    · rw [if_pos e, if_pos e, e, zu_hit, zu_place (by decide), e3, g6]
      exact ⟨rfl, rfl⟩
    · rw [if_neg e, if_neg e, zu_cell (by omega), zu_cell (by omega), e4 _ _ (by omega) (by omega) (by omega), e4 _ _ (by omega) (by omega) (by omega), gi k hk, gm k hk]
      exact ⟨rfl, rfl⟩
  · refine ⟨-1, s, zb_116_0 (fun _ => zb_116_5 rfl) (fun q => zb_116_2 (fun q' => absurd ⟨by omega, q'⟩ hx) (fun _ => zb_116_5 rfl)), fun k hk => ?_⟩
    rw [if_neg (fun q => hx (by omega)), if_neg (fun q => hx (by omega))]
    exact ⟨rfl, rfl⟩
theorem zr_in {s : zS} {x : Int} : zE xm_c125 [x, 0, 0, 0, 3, 0] s (if 0 ≤ x ∧ x < 4 then 1 else 0) s := by
  by_cases h : 0 ≤ x ∧ x < 4
  · rw [if_pos h]
    exact zb_125_0 (fun q => absurd (zsg_lt.mp q) (by omega)) (fun _ => zb_125_4 (fun q => absurd (zsg_gt.mp q) (by omega)) (fun _ => zb_125_8 rfl))
  · rw [if_neg h]
    by_cases h0 : x < 0
    · exact zb_125_0 (fun _ => zb_125_10 rfl) (fun q => absurd (zsg_lt.mpr h0) q)
    · exact zb_125_0 (fun _ => zb_125_10 rfl) (fun _ => zb_125_4 (fun _ => zb_125_10 rfl) (fun q => absurd (zsg_gt.mpr (show 3 < x by omega)) q))
theorem zr_imloop {x : Int} : ∀ (n : Nat) (i : Int) (s : zS), 0 ≤ i → (146 - i).toNat ≤ n → ∃ s', zA xm_c236 27 [344, x, i] [] s (s' 354 4, s') ∧ ∀ a b, a ≠ 360 → s' a b = s a b := by
  intro n
  induction n with
  | zero =>
    intro i s hi hn
    exact ⟨s, zb_236_27 (fun q => absurd q (by omega)) (fun _ => zb_236_44 rfl), fun _ _ _ => rfl⟩
  | succ n ih =>
    intro i s hi hn
    by_cases h : i < 146
    · obtain ⟨s', e1, e2⟩ := ih (zw (i + 1)) (zu s 360 (zw ((zw (146 * x)) + i)) (s 354 i)) (by rw [zw_id (by omega) (by omega)]; omega) (by rw [zw_id (by omega) (by omega)]; omega)
      refine ⟨s', zb_236_27 (fun _ => zb_236_30 e1) (fun q => absurd h q), fun a b ha => ?_⟩
      rw [e2 a b ha, zu_cell ha]
    · exact ⟨s, zb_236_27 (fun q => absurd q h) (fun _ => zb_236_44 rfl), fun _ _ _ => rfl⟩
theorem zr_image {s : zS} (x : Int) : ∃ r s1, zE xm_c236 [344, x, 0] s r s1 ∧ ∀ k : Nat, k < 4 → s1 361 k = (if (k : Int) = x then s 344 21 else s 361 k) ∧ s1 363 k = (if (k : Int) = x then 1 else s 363 k) := by
  by_cases hx : 0 ≤ x ∧ x < 4
  · have h1 := zr_in (s := s) (x := x)
    rw [if_pos hx] at h1
    obtain ⟨s', e1, e2⟩ := zr_imloop (x := x) 146 0 (zu (zu (zu s 363 x 1) 361 x (s 344 21)) 362 x (s 344 22)) (by decide) (by decide)
    refine ⟨_, s', zb_236_0 h1 (zb_236_5 (fun q => absurd q (by decide)) (fun _ => zb_236_8 e1)), fun k hk => ?_⟩
    have p1 : s' 361 k = zu (zu s 363 x 1) 361 x (s 344 21) 361 k := by rw [e2 _ _ (by decide), zu_cell (by decide)]
    have p2 : s' 363 k = zu s 363 x 1 363 k := by rw [e2 _ _ (by decide), zu_cell (by decide), zu_cell (by decide)]
    rw [p1, p2]
    by_cases e : (k : Int) = x
    · rw [if_pos e, if_pos e, e, zu_hit, zu_hit]
      exact ⟨rfl, rfl⟩
    · rw [if_neg e, if_neg e, zu_place e, zu_place e, zu_place e]
      exact ⟨rfl, rfl⟩
  · have h1 := zr_in (s := s) (x := x)
    rw [if_neg hx] at h1
    refine ⟨-1, s, zb_236_0 h1 (zb_236_5 (fun _ => zb_236_6 rfl) (fun q => absurd rfl q)), fun k hk => ?_⟩
    rw [if_neg (fun q => hx (by omega)), if_neg (fun q => hx (by omega))]
    exact ⟨rfl, rfl⟩
/-- the force behind back -/
def zbf (x m i f : Int) : Int := if (0 ≤ x ∧ x < 4) ∧ m ≠ 0 then i else f
theorem zo_back {G : xm_H} {s : zS} (hT : ys_HT G) (hI : yi_Inv yJ G) (hR : zR G s) (x : Int) : ∃ r s1, zE xm_c117 [7, x] s r s1 ∧ s1 10 6 = zbf x (s (264 + 20 * x) 8) (s (264 + 20 * x) 6) (s 10 6) := by
  unfold zbf
  by_cases hx : 0 ≤ x ∧ x < 4
  · by_cases hm : s (264 + 20 * x) 8 = 0
    · refine ⟨-1, s, zb_117_0 (fun _ => zb_117_11 rfl) (fun _ => zb_117_2 (fun _ => zb_117_5 (fun _ => zb_117_11 rfl) (fun q => absurd hm q)) (fun _ => zb_117_11 rfl)), ?_⟩
      rw [if_neg (fun q => q.2 hm)]
    · rw [if_pos ⟨hx, hm⟩]
      obtain ⟨n, hn, rfl⟩ := zk_4 hx.1 hx.2
      obtain ⟨a1, a2, a3⟩ := zk_a n hn
      obtain ⟨s3, s', e1, e2, e3, e4⟩ := zo_copyNI hT hI hR (a := 264 + 20 * n) (by omega) a1 a2 a3
      obtain ⟨-, -, -, -, -, -, -, -, -, gi, -⟩ := e2
      have ea : (((264 + 20 * n : Nat)) : Int) = 264 + 20 * (n : Int) := by omega
      rw [ea] at e1 e3
      refine ⟨_, _, zb_117_0 (fun q => absurd q (by omega)) (fun _ => zb_117_2 (fun _ => zb_117_5 (fun q => absurd q hm) (fun _ => zb_117_13 (r := 0) (s1 := s') e1 (zb_117_20 (zb_19_0 rfl) (zb_117_23 rfl)))) (fun q => absurd hx.2 q)), ?_⟩
      show zu s' (7 + 33) 3 0 10 6 = _
      rw [zu_cell (by decide), e3, gi n hn]
  · refine ⟨-1, s, zb_117_0 (fun _ => zb_117_11 rfl) (fun q => zb_117_2 (fun q' => absurd ⟨by omega, q'⟩ hx) (fun _ => zb_117_11 rfl)), ?_⟩
    rw [if_neg (fun q => hx q.1)]
theorem zr_bkloop {x : Int} : ∀ (n : Nat) (i : Int) (s : zS), 0 ≤ i → (146 - i).toNat ≤ n → ∃ s', zA xm_c237 30 [344, x, i] [] s (s' 354 4, s') ∧ ∀ a b, a ≠ 354 → s' a b = s a b := by
  intro n
  induction n with
  | zero =>
    intro i s hi hn
    exact ⟨s, zb_237_30 (fun q => absurd q (by omega)) (fun _ => zb_237_47 rfl), fun _ _ _ => rfl⟩
  | succ n ih =>
    intro i s hi hn
    by_cases h : i < 146
    · obtain ⟨s', e1, e2⟩ := ih (zw (i + 1)) (zu s 354 i (s 360 (zw ((zw (146 * x)) + i)))) (by rw [zw_id (by omega) (by omega)]; omega) (by rw [zw_id (by omega) (by omega)]; omega)
      refine ⟨s', zb_237_30 (fun _ => zb_237_33 e1) (fun q => absurd h q), fun a b ha => ?_⟩
      rw [e2 a b ha, zu_cell ha]
    · exact ⟨s, zb_237_30 (fun q => absurd q h) (fun _ => zb_237_47 rfl), fun _ _ _ => rfl⟩
theorem zr_back {s : zS} (x : Int) : ∃ r s1, zE xm_c237 [344, x, 0] s r s1 ∧ s1 344 21 = zbf x (s 363 x) (s 361 x) (s 344 21) := by
  unfold zbf
  by_cases hx : 0 ≤ x ∧ x < 4
  · have h1 := zr_in (s := s) (x := x)
    rw [if_pos hx] at h1
    by_cases hm : s 363 x = 0
    · refine ⟨-1, s, zb_237_0 h1 (zb_237_5 (fun q => absurd q (by decide)) (fun _ => zb_237_6 (fun _ => zb_237_11 rfl) (fun q => absurd hm q))), ?_⟩
      rw [if_neg (fun q => q.2 hm)]
    · rw [if_pos ⟨hx, hm⟩]
      obtain ⟨s', e1, e2⟩ := zr_bkloop (x := x) 146 0 (zu (zu (zu s 344 21 (s 361 x)) 344 22 ((zu s 344 21 (s 361 x)) 362 x)) 344 26 0) (by decide) (by decide)
      refine ⟨_, s', zb_237_0 h1 (zb_237_5 (fun q => absurd q (by decide)) (fun _ => zb_237_6 (fun q => absurd q hm) (fun _ => zb_237_13 e1))), ?_⟩
      rw [e2 _ _ (by decide), zu_place (by decide), zu_place (by decide), zu_hit]
  · have h1 := zr_in (s := s) (x := x)
    rw [if_neg hx] at h1
    refine ⟨-1, s, zb_237_0 h1 (zb_237_5 (fun _ => zb_237_11 rfl) (fun q => absurd rfl q)), ?_⟩
    rw [if_neg (fun q => hx q.1)]
