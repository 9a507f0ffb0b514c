/-! a bell on both sides -/
section HB9
variable {bB : Int}
variable {s s1 s2 t : zS} {σ τ : Int → Int} {n m : Nat} {F : Int} {U : (Int → Int) → Int}
theorem zo_rif (h0 : -1 ≤ s 10 6) (h1 : s 10 6 < s 7 8) : zE xm_c118 [7, 0] s (if s 10 6 < 0 then -1 else 240 + 4 * s 10 6) s := by
  by_cases c : s 10 6 < 0
  · rw [if_pos c]
    exact zb_118_0 (fun _ => zb_118_15 rfl) (fun q => absurd c q)
  · rw [if_neg c]
    exact zb_118_0 (fun q => absurd q c) (fun _ => zb_118_6 (fun _ => zb_118_10 rfl) (fun q => absurd h1 q))
/-- the class's outlook begins with all as it is now -/
theorem zo_prep {r : Int} : ∃ s', zE xm_c42 [224, r] s 0 s' ∧ (s' 237 1 = r ∧ s' 237 2 = s 19 1 ∧ s' 237 3 = s 11 4) ∧ ∀ x, ¬ (225 ≤ x ∧ x ≤ 233) → x ≠ 237 → s' x = s x := by
  obtain ⟨t1, ht1⟩ : ∃ t1 : zS, t1 = zu (zu (zu s 237 1 r) 237 2 (s 19 1)) 237 3 (s 11 4) := ⟨_, rfl⟩
  have o1 : ∀ x, x ≠ 237 → t1 x = s x := fun x hx => by
    rw [ht1]
    exact funext (fun y => by rw [zu_cell hx, zu_cell hx, zu_cell hx])
  obtain ⟨t2, a1, a2, a3, a4⟩ := zo_cpF (s := t1) (f := 225) (g := 19) (fun i j _ _ _ _ => by omega)
  obtain ⟨t3, b1, b2, b3, b4⟩ := zo_cpL (s := t2) (f := 230) (g := 24) (fun i j _ _ _ _ => by omega)
  refine ⟨t3, zb_42_0 (s1 := t2) (r := 0) ?_ (zb_42_24 (s1 := t3) (r := 0) b1 (zb_42_30 rfl)), ⟨?_, ?_, ?_⟩, fun x x1 x2 => by rw [b4 x (by omega), a4 x (by omega), o1 x x2]⟩
  · rw [ht1] at a1
    exact a1
  · rw [b4 237 (by decide), a4 237 (by decide), ht1, zu_place (by decide), zu_place (by decide), zu_hit]
  · rw [b4 237 (by decide), a4 237 (by decide), ht1, zu_place (by decide), zu_hit]
  · rw [b4 237 (by decide), a4 237 (by decide), ht1, zu_hit]
theorem zRL_A {l l2 : Int} (H : zRL s l σ n) (h7 : n ≤ 7) (hl : l2 = l) : zRL s l2 (zsA σ m n) n := by
  subst hl
  obtain ⟨a, b⟩ := H
  have pj : ∀ (p : Nat) (j : Int), p < n → 8 ≤ j → j ≤ 10 → zpe (zsA σ m n) ((p : Nat) : Int) j = zpe σ ((p : Nat) : Int) j := fun p j hp j0 j1 => by
    rw [zsA_p hp (by omega) j1, if_neg (by omega), if_neg (by omega), if_neg (by omega)]
  refine ⟨a.trans (zfo_congr n (fun p hp => by unfold zkn; rw [pj p 8 hp (by decide) (by decide)])), fun p hp => ?_⟩
  rw [pj p 8 hp (by decide) (by decide), pj p 9 hp (by decide) (by decide), pj p 10 hp (by decide) (by decide)]
  exact b p hp
/-- a bell for good, in the class -/
theorem zo_ringNow (hH : zRH s 11 σ n m) (hF : zRF s 19 σ n) (hL : zRL s 24 σ n) (hG : zGs bB σ n m) (hGt : zGt σ) (h9 : σ 4 < 999) (hR : ∀ z : zS, (∀ x, 240 ≤ x → x ≤ 263 → z x = s x) → z 237 1 = s 237 1 → zRc z F U) (hpl : s 237 2 = σ 8) (hdf : s 237 3 = s 11 4) : ∃ s', zE xm_c43 [224, 0, 0, 0] s (zfs (zhx (zto (zsA σ m n) (zfs (zvD σ m) n) n F U)) n) s' ∧ zRF s' 19 (zPo σ n m F U) n ∧ zRL s' 24 (zPo σ n m F U) n ∧ ∀ x, ¬ (19 ≤ x ∧ x ≤ 27) → ¬ (224 ≤ x ∧ x ≤ 239) → s' x = s x := by
  have h7 := hG.1.2.1
  have g4 := hG.1.2.2.2.2.2.2.2
  obtain ⟨t1, a1, ⟨a2, a3⟩, a4, a5⟩ := zo_step (f := 19) (h := 11) hH hF hG (fun k k0 k1 j j0 j1 => by omega)
  have o : ∀ x, ¬ (19 ≤ x ∧ x ≤ 22) → t1 x = s x := fun x hx => a5 x (by omega) (by omega) (by omega) (by omega)
  have hg : zRg bB t1 σ n m 24 F U := ⟨hG, hGt, zRH_w (zRH_c hH (fun x x1 x2 => o x (by omega))), hR t1 (fun x x1 x2 => o x (by omega)) (by rw [o 237 (by decide)]), ⟨by rw [o 237 (by decide)]; exact hpl, fun p hp => by rw [o 237 (by decide), hdf]; exact (hH.2.1 p hp).2.2.2.2⟩, fun p hp => (zv_r hG hp).1, by decide, by decide⟩
  obtain ⟨t2, b1, b2, b3⟩ := zo_ring hg rfl (zRL_A (zRL_c hL (fun x x1 x2 => o x (by omega))) h7 rfl)
  have o2 : ∀ x, x ≠ 238 → x ≠ 239 → ¬ (24 ≤ x ∧ x ≤ 27) → t2 x = t1 x := fun x x1 x2 x3 => b3 x x1 x2 (by omega)
  have f0 : s 19 0 = σ 4 := hF.1
  have pj : ∀ (q : Nat) (j : Int), q < n → 0 ≤ j → j ≤ 3 → zpe (zPo σ n m F U) ((q : Nat) : Int) j = (if j = 0 then zvA σ m ((q : Nat) : Int) else if j = 1 then zvG σ m ((q : Nat) : Int) else if j = 2 then zvL σ m ((q : Nat) : Int) else zpe σ ((q : Nat) : Int) j) := fun q j hq j0 j1 => by
    rw [zPo_p h7 hq j0 (by omega)]
    simp only [if_neg (show ¬ j = 8 by omega), if_neg (show ¬ j = 9 by omega), if_neg (show ¬ j = 10 by omega)]
    by_cases w : ¬ zto (zsA σ m n) (zfs (zvD σ m) n) n F U ((q : Nat) : Int) < 0
    · rw [if_pos w]
    · rw [if_neg w]
  refine ⟨t2, zb_43_0 (s1 := t1) a1 (zb_43_12 (s1 := t2) (r := zfs (zhx (zto (zsA σ m n) (zfs (zvD σ m) n) n F U)) n) ?_ (zb_43_21 rfl)), ⟨?_, ?_, fun q hq => ?_⟩, ⟨?_, fun q hq => ?_⟩, fun x x1 x2 => by rw [o2 x (by omega) (by omega) (by omega), o x (by omega)]⟩
  · show zE xm_c13 [237, 24, zlan σ m n, 0, s 19 0, 0, 0, 0, 0, 0, 0, 0, 0, 0, 0] t1 _ t2
    rw [f0]
    exact b1
  · rw [o2 19 (by decide) (by decide) (by decide), a2, zw_id (by omega) (by omega), if_neg (by omega)]
    show σ 4 + 1 = (if (4 : Int) = 4 then zw (σ 4 + 1) else _)
    rw [if_pos rfl, zw_id (by omega) (by omega)]
  · rw [o2 19 (by decide) (by decide) (by decide), a3, hF.2.1, zPo_k (by decide), zsC_lo (by decide), zsA_lo (by decide)]
  · obtain ⟨c1, c2, c3, c4⟩ := a4 q hq
    rw [o2 (19 + 1) (by decide) (by decide) (by decide), o2 (19 + 2) (by decide) (by decide) (by decide), o2 (19 + 3) (by decide) (by decide) (by decide), o2 (19 + 4) (by decide) (by decide) (by decide), pj q 0 hq (by decide) (by decide), pj q 1 hq (by decide) (by decide), pj q 2 hq (by decide) (by decide), pj q 3 hq (by decide) (by decide)]
    exact ⟨c1, c2, c3, c4⟩
  · refine b2.1.trans (zfo_congr n (fun q hq => ?_))
    unfold zkn zhx
    rw [zPo_p h7 hq (by decide) (by decide), zsA_p hq (by decide) (by decide)]
    by_cases w : ¬ zto (zsA σ m n) (zfs (zvD σ m) n) n F U ((q : Nat) : Int) < 0
    · rw [if_pos w]
      exact ⟨fun _ => Int.not_lt.mpr g4.1, fun _ => Or.inr w⟩
    · rw [if_neg w]
      exact ⟨fun z => z.resolve_right w, Or.inl⟩
  · obtain ⟨c1, c2, c3⟩ := b2.2 q hq
    have s8 : zpe (zsA σ m n) ((q : Nat) : Int) 8 = zpe σ ((q : Nat) : Int) 8 := by rw [zsA_p hq (by decide) (by decide)]; rfl
    have s9 : zpe (zsA σ m n) ((q : Nat) : Int) 9 = zpe σ ((q : Nat) : Int) 9 := by rw [zsA_p hq (by decide) (by decide)]; rfl
    have s10 : zpe (zsA σ m n) ((q : Nat) : Int) 10 = zpe σ ((q : Nat) : Int) 10 := by rw [zsA_p hq (by decide) (by decide)]; rfl
    rw [c1, c2, c3, zPo_p h7 hq (j := 8) (by decide) (by decide), zPo_p h7 hq (j := 9) (by decide) (by decide), zPo_p h7 hq (j := 10) (by decide) (by decide), s8, s9, s10]
    by_cases w : ¬ zto (zsA σ m n) (zfs (zvD σ m) n) n F U ((q : Nat) : Int) < 0
    · have wz : zhx (zto (zsA σ m n) (zfs (zvD σ m) n) n F U) q := w
      refine ⟨?_, ?_, ?_⟩ <;> rw [if_pos wz, if_pos w] <;> rfl
    · have wz : ¬ zhx (zto (zsA σ m n) (zfs (zvD σ m) n) n F U) q := w
      refine ⟨?_, ?_, ?_⟩ <;> rw [if_neg wz, if_neg w] <;> rfl
theorem zA_bell (H0 : zRZ bB s) (h6 : s 7 8 ≤ 6) : ∃ r s1 s2, zE xm_c96 [7] s r s1 ∧ zE xm_c200 [344] s1 r s2 ∧ zRZ (bB + 1) s2 := by
  have hbb : s 354 4 < bB + 1 := by
    obtain ⟨n, m, hD, -⟩ := H0.2.2.2.1
    have := hD.2.1.1.2.2.2.2.2.2.2.2.2
    omega
  have H : zRZ (bB + 1) s := zRZ_mo (by omega) H0
  have HB := H.2.1
  have HC := H.2.2.1
  obtain ⟨n, m, hD, hE⟩ := H.2.2.2.1
  have h0 : s 11 0 = s 354 0 := hD.1.1.1.1
  have f0 : s 19 0 = s 354 4 := hD.1.2.1.1
  have hG := hD.2.1
  have h7 := hG.1.2.1
  have g4 := hG.1.2.2.2.2.2.2.2
  by_cases c0 : 0 < s 354 0
  case neg =>
    exact zRZ_r H (r := -1) (zb_96_0 zo_stands (zb_96_4 (fun _ => zb_96_11 rfl) (fun q => absurd (z01' (by rw [show s (7 + 3 + 1) 0 = s 354 0 from h0]; exact c0)) q))) (zb_200_0 zq_house (zb_200_2 (fun _ => zb_200_9 rfl) (fun q => absurd (z01' c0) q)))
  by_cases c1 : s 354 4 = 999
  · exact zRZ_r H (r := -1) (zb_96_0 zo_stands (zb_96_4 (fun q => absurd q (z10 (by rw [show s (7 + 3 + 1) 0 = s 354 0 from h0]; exact c0))) (fun _ => zb_96_5 (fun q => absurd (show s 19 0 < 999 from q) (by rw [f0, c1]; decide)) (fun _ => zb_96_11 rfl)))) (zb_200_0 zq_house (zb_200_2 (fun q => absurd q (z10 c0)) (fun _ => zb_200_3 (fun _ => zb_200_9 rfl) (fun q => absurd c1 q))))
  have c9 : s 354 4 < 999 := by omega
  obtain ⟨U, uC, uM⟩ := zUw HB h6 HC
  obtain ⟨t, a1, a2, a3, a4⟩ := zo_kept hD hE
  have nx := hE.1.2.2.2.1
  have nx9 := hE.1.2.2.2.2
  have o : ∀ x, x ≠ 40 → ¬ (43 ≤ x ∧ x ≤ 222) → t x = s x := fun x x1 x2 => a4 x x1 (by omega)
  have e10 : t 10 = s 10 := o 10 (by decide) (by decide)
  have e7 : t 7 = s 7 := o 7 (by decide) (by decide)
  have rif := zo_rif (s := t) (by rw [e10]; exact HC.2.1.1) (by rw [e10, e7]; exact HC.2.1.2)
  obtain ⟨t1, b1, ⟨b2, b3, b4⟩, b5⟩ := zo_prep (s := t) (r := if t 10 6 < 0 then -1 else 240 + 4 * t 10 6)
  have o1 : ∀ x, x ≠ 40 → ¬ (43 ≤ x ∧ x ≤ 222) → ¬ (224 ≤ x ∧ x ≤ 239) → t1 x = s x := fun x x1 x2 x3 => (b5 x (by omega) (by omega)).trans (o x x1 x2)
  rw [e10] at b2 b1 rif
  obtain ⟨t2, d1, d2, d3, d4⟩ := zo_ringNow (s := t1) (σ := s 354) (n := n) (m := m) (F := s 10 6) (U := U) (zRH_c hD.1.1 (fun x x1 x2 => o1 x (by omega) (by omega) (by omega))) (zRF_c hD.1.2.1 (fun x x1 x2 => o1 x (by omega) (by omega) (by omega))) (zRL_c hD.1.2.2.1 (fun x x1 x2 => o1 x (by omega) (by omega) (by omega))) hG hD.2.2.1 c9 (fun z hz hz1 => uC z (fun x x1 x2 => by rw [hz x x1 x2, o1 x (by omega) (by omega) (by omega)]) (by rw [hz1, b2])) (by rw [b3, o 19 (by decide) (by decide)]; exact hD.1.2.1.2.1) (by rw [b4, b5 11 (by decide) (by decide)])
  have hc : zCa s t2 n (zPo (s 354) n m (s 10 6) U) := zCa_of hE a2 a3 a4 d2 d3 (fun x x1 x2 => by rw [d4 x x1 x2, b5 x (by omega) (by omega)])
  have e344 : t2 344 = s 344 := hc.2.2.2.2 344 (by decide) (by decide) (by decide) (by decide)
  have e354 : t2 354 = s 354 := hc.2.2.2.2 354 (by decide) (by decide) (by decide) (by decide)
  obtain ⟨w, k1, k2, k3, k4⟩ := zr_kept (s1 := t2) hE e344
  have w354 : w 354 = s 354 := by rw [k3 354 (by decide) (by decide), e354]
  have w21 : w 344 21 = s 10 6 := by rw [k4 21 (by decide), e344, HC.1]
  obtain ⟨z, p1, p2, p3⟩ := zr_passes (s := w) (σ := s 354) (n := n) (m := m) (F := s 10 6) (U := U) w354 hG.1.1 h7 hG.1.2.2.1 hG.1.2.2.2.1 w21 (fun q => uM q w (fun x x1 x2 => by rw [k3 x (by omega) (by omega), hc.2.2.2.2 x (by omega) (by omega) (by omega) (by omega)]))
  have hM : zMa t2 z (zPo (s 354) n m (s 10 6) U) := by
    refine ⟨p2, ?_, fun x x1 x2 => ?_, fun y y1 y2 y3 => ?_⟩
    · rw [p3.1 356 (by decide) (by decide) (by decide) (by decide) (by decide), p3.2 26 (by decide) (by decide)]
      exact k2
    · rw [p3.1 x x1 (by omega) (by omega) (by omega) (by omega)]
      exact k3 x x1 (by omega)
    · rw [p3.2 y y1 y2]
      exact k4 y y3
  obtain ⟨q1, q2⟩ := zAct hD hE hc hM (fun k hk => zPo_st h7 hk) (zPo_Gs hG c9 hbb)
  have hr := zfo_r (P := zhx (zto (zsA (s 354) m n) (zfs (zvD (s 354) m) n) n (s 10 6) U)) n h7
  refine ⟨zPc (s 354) n m (s 10 6) U, t2, z, zb_96_0 zo_stands (zb_96_4 (fun q => absurd q (z10 (by rw [show s (7 + 3 + 1) 0 = s 354 0 from h0]; exact c0))) (fun _ => zb_96_5 (fun _ => zb_96_13 (s1 := t) (r := 0) a1 (zb_96_18 rif (zb_96_22 (s1 := t1) (r := 0) b1 (zb_96_23 (s1 := t2) d1 (zb_96_26 (zo_count hr.1 hr.2) (zb_96_27 ?_)))))) (fun q => absurd (show s 19 0 < 999 by rw [f0]; exact c9) q))), zb_200_0 zq_house (zb_200_2 (fun q => absurd q (z10 (by rw [e354]; exact c0))) (fun _ => zb_200_3 (fun q => absurd (show s 354 4 = 999 by rw [← e354]; exact q) c1) (fun _ => zb_200_11 (s1 := w) (r := 0) k1 (zb_200_13 (s1 := z) p1 (zb_200_15 rfl))))), zRZ_D H h6 (zFr1_of hc.2.2.2.2 hM.2.2) ⟨n, m, q1, q2⟩⟩
  rw [zbc_fo h7]
  rfl
end HB9
