/-! the reference's comparison, with the code -/
section XE
variable {s0 s : zS} {t T N m ln : Int}
theorem zz_compare (hc : zCy s0 T) (ht0 : 0 ≤ t) (ht : t ≤ 5) (l : Int) (st : List Int) {a : zW} {O : zO} {L : Int} (h : zMw s0 t N a.1 (a.2.1, O) ln s) (hN : 0 ≤ N) (hN4 : N ≤ T) (hm : 0 ≤ a.1) (hm6 : a.1 ≤ 60) (hL0 : 0 ≤ L) (hL : ((a.2.1.length : Nat) : Int) + L ≤ N) (hw : a.2.2.1 = 0 ∧ a.2.2.2.1 = 0) : zOe s0 t T (fun p a => (1, 1, p, a, l, st)) (fun p a => (5, 0, p, a, l, st)) N a O O L ln (fun _ b => b.2.2.1 = 0 ∧ b.2.2.2.1 = 0) (fun r s' => zE xm_c148 [344, 0, 0, 0, 0] s r s') := by
  have h4 := hc.2.2.2
  refine zOe_tr (zz_sum hc ht0 ht 1 l st h hN hN4 hm hm6 hL0 hL hw) (fun f s' e e2 => ⟨s', zb_148_0 e (zb_148_2 (fun _ => zb_148_3 rfl) (fun q => absurd rfl q)), e2⟩) (fun N a s1 e h' g1 g2 hm hm6 hL hw => ?_)
  have rl : N ≤ zg_sk (s0 345) T N ∧ (zg_sk (s0 345) T N ≤ T ∨ zg_sk (s0 345) T N = N) := zg_run_le
  obtain ⟨s2, u1, v1⟩ := zz_see hc _ (Nat.le_refl _) (by omega) h'
  generalize hpq : zg_sk (s0 345) T N = p at rl u1 v1
  have cs := zg_cs (b := s0 345) (p := p) hc.1 hc.2.2.2 (by omega)
  have cs2 := fun q => zg_cs2 (b := s0 345) (T := T) (p := p) q
  have e8 := v1.1.1
  have hst : ze_st (s0 345) T (3, 1, p, a, l, st) = if zg_cm (zg_kind (s0 345) T p) then (if a.1 = 60 then zfe_ 3 p a else .inl (1, zco (zg_kind (s0 345) T p), zg_nx (s0 345) T p, ze1 a, l, st)) else zfe_ 0 p a := rfl
  -- behind the sign: q its end
  have on : ∀ (q x3 : Int) (s3 : zS), zg_cm (zg_kind (s0 345) T p) → zg_te (s0 345) T p = q → p < q → q ≤ T → zg_kind (s0 345) T p = (if zg_c (s0 345) T p = 60 then (if x3 = 0 then 60 else 256) else if zg_c (s0 345) T p = 61 then 61 else (if x3 = 0 then 62 else 257)) → zMw s0 t q a.1 (a.2.1, O) ln s3 → zOe s0 t T (fun p a => (3, 1, p, a, l, st)) (fun p a => (5, 0, p, a, l, st)) N a O O L ln (fun _ b => b.2.2.1 = 0 ∧ b.2.2.2.1 = 0) (fun r s' => ∃ y s4, zE xm_c141 [344, s2 344 8] s3 y s4 ∧ zA xm_c148 61 [344, zg_c (s0 345) T p, s2 344 8, x3, 0] [(false, y)] s4 (r, s')) := by
    intro q x3 s3 hcm hte hpq' hqT hkk h3
    by_cases e60 : a.1 = 60
    · obtain ⟨s4, m2, m3⟩ := zz_makes0 h3 e60 (at_ := p) (by omega) (by omega)
      refine Or.inr ⟨_, s4, ⟨0, s4, by rw [e8]; exact m2, zb_148_61 (fun _ => zb_148_62 rfl) (fun q => absurd rfl q)⟩, m3, a, ze_stop ?_⟩
      rw [hpq, hst, if_pos hcm, if_pos e60]
      rfl
    · have m2 := zz_makes1 h3 hm (by omega) (at_ := p)
      have m3 := h3.setm (m' := a.1 + 1)
      have key : ∀ x4 : Int, zw (zw (6 + x4) + zw (16 * 0)) = ((zco (zg_kind (s0 345) T p) : Nat) : Int) → zOe s0 t T (fun p1 b => (1, zco (zg_kind (s0 345) T p), p1, b, l, st)) (fun p a => (5, 0, p, a, l, st)) q (ze1 a) O O L ln (fun _ b => b.2.2.1 = 0 ∧ b.2.2.2.1 = 0) (fun r s' => ∃ y s5, zE xm_c147 [344, 0] (zu s3 344 12 (a.1 + 1)) y s5 ∧ zA xm_c148 86 [344, zg_c (s0 345) T p, s2 344 8, x3, x4] [(false, y)] s5 (r, s')) := by
        intro x4 hx4
        refine zOe_tr (zz_sum hc ht0 ht (zco (zg_kind (s0 345) T p)) l st (a := ze1 a) (L := L + 1) m3 (by omega) hqT (by show 0 ≤ a.1 + 1; omega) (by show a.1 + 1 ≤ 60; omega) (by omega) (by show ((a.2.1.length : Nat) : Int) + (L + 1) ≤ q; omega) hw) (fun f s' e e2 => ⟨s', ⟨0, s', e, zb_148_86 (fun _ => zb_148_87 rfl) (fun q => absurd rfl q)⟩, e2⟩) (fun N' b s' e h' g1 g2 g3 g4 g5 g6 => ?_)
        obtain ⟨s5, q1, q2⟩ := zz_puts h' ht0 ht (by show b.2.1.length < 400; omega) (x := zw (6 + x4)) (y := 0) hx4
        exact Or.inl ⟨N', zep b ((zco (zg_kind (s0 345) T p) : Nat) : Int), s5, ⟨1, s', e, zb_148_86 (fun q => absurd q (by decide)) (fun _ => zb_148_89 q1 (zb_148_95 rfl))⟩, q2, ⟨Int.le_refl _, g2, g3, g4⟩, ⟨by show ((b.2.1.length + 1 : Nat) : Int) + L ≤ N'; omega, rfl⟩, ze_one (ze_cmp hcm), g6⟩
      have step : ze_to (s0 345) T (3, 1, zg_sk (s0 345) T N, a, l, st) (1, zco (zg_kind (s0 345) T p), zg_sk (s0 345) T q, ze1 a, l, st) := by
        rw [hpq]
        refine ze_one ?_
        rw [hst, if_pos hcm, if_neg e60]
        unfold zg_nx
        rw [hte]
      by_cases c60 : zg_c (s0 345) T p = 60
      · rw [if_pos c60] at hkk
        by_cases x30 : x3 = 0
        · rw [if_pos x30] at hkk
          refine zOe_map (key 0 (by rw [hkk]; decide)) (by omega) rfl step (fun r s' z => ?_)
          obtain ⟨y, s5, z1, z2⟩ := z
          exact ⟨1, _, by rw [e8]; exact m2, zb_148_61 (fun q => absurd q (by decide)) (fun _ => zb_148_64 (fun _ => zb_148_67 (fun _ => zb_148_71 z1 z2) (fun q => absurd x30 q)) (fun q => absurd c60 q))⟩
        · rw [if_neg x30] at hkk
          refine zOe_map (key 1 (by rw [hkk]; decide)) (by omega) rfl step (fun r s' z => ?_)
          obtain ⟨y, s5, z1, z2⟩ := z
          exact ⟨1, _, by rw [e8]; exact m2, zb_148_61 (fun q => absurd q (by decide)) (fun _ => zb_148_64 (fun _ => zb_148_67 (fun q => absurd q x30) (fun _ => zb_148_69 z1 z2)) (fun q => absurd c60 q))⟩
      · rw [if_neg c60] at hkk
        by_cases c61 : zg_c (s0 345) T p = 61
        · rw [if_pos c61] at hkk
          refine zOe_map (key 2 (by rw [hkk]; decide)) (by omega) rfl step (fun r s' z => ?_)
          obtain ⟨y, s5, z1, z2⟩ := z
          exact ⟨1, _, by rw [e8]; exact m2, zb_148_61 (fun q => absurd q (by decide)) (fun _ => zb_148_64 (fun q => absurd q c60) (fun _ => zb_148_73 (fun _ => zb_148_76 z1 z2) (fun q => absurd c61 q)))⟩
        · rw [if_neg c61] at hkk
          by_cases x30 : x3 = 0
          · rw [if_pos x30] at hkk
            refine zOe_map (key 4 (by rw [hkk]; decide)) (by omega) rfl step (fun r s' z => ?_)
            obtain ⟨y, s5, z1, z2⟩ := z
            exact ⟨1, _, by rw [e8]; exact m2, zb_148_61 (fun q => absurd q (by decide)) (fun _ => zb_148_64 (fun q => absurd q c60) (fun _ => zb_148_73 (fun q => absurd q c61) (fun _ => zb_148_78 (fun _ => zb_148_82 z1 z2) (fun q => absurd x30 q))))⟩
          · rw [if_neg x30] at hkk
            refine zOe_map (key 3 (by rw [hkk]; decide)) (by omega) rfl step (fun r s' z => ?_)
            obtain ⟨y, s5, z1, z2⟩ := z
            exact ⟨1, _, by rw [e8]; exact m2, zb_148_61 (fun q => absurd q (by decide)) (fun _ => zb_148_64 (fun q => absurd q c60) (fun _ => zb_148_73 (fun q => absurd q c61) (fun _ => zb_148_78 (fun q => absurd q x30) (fun _ => zb_148_80 z1 z2))))⟩
  have h1 := v1.setN (N' := p + 1)
  have hN1 : zu s2 344 8 (zw (s2 344 8 + 1)) = zu s2 344 8 (p + 1) := by rw [e8, zw_id (by omega) (by omega)]
  have e81 : (zu s2 344 8 (p + 1)) 344 8 = p + 1 := zu_hit
  have e11 : (zu s2 344 8 (p + 1)) 344 1 = T := by rw [zu_place (by decide)]; exact v1.len hc
  have e9 : (zu s2 344 8 (p + 1)) (344 + 1) = s0 345 := by
    rw [show (344 : Int) + 1 = 345 from rfl]
    exact h1.by_
  -- with no '=' behind
  have plain : ∀ (r : Int) (s' : zS), (∃ y s4, zE xm_c141 [344, s2 344 8] (zu s2 344 8 (p + 1)) y s4 ∧ zA xm_c148 61 [344, zg_c (s0 345) T p, s2 344 8, 0, 0] [(false, y)] s4 (r, s')) → zA xm_c148 48 [344, zg_c (s0 345) T p, s2 344 8, 0, 0] [] (zu s2 344 8 (p + 1)) (r, s') := by
    intro r s' z
    obtain ⟨y, s4, z1, z2⟩ := z
    exact zb_148_48 (fun _ => zb_148_58 z1 z2) (fun q => absurd rfl q)
  have pre : ∀ (r : Int) (s' : zS), zA xm_c148 25 [344, zg_c (s0 345) T p, s2 344 8, 0, 0] [] s2 (r, s') → zg_c (s0 345) T p = 60 ∨ zg_c (s0 345) T p = 61 ∨ zg_c (s0 345) T p = 62 → zE xm_c148 [344, 0, 0, 0, 0] s r s' := by
    intro r s' z hq
    refine zb_148_0 e (zb_148_2 (fun q => absurd q (by decide)) (fun _ => zb_148_5 u1 (zb_148_7 (fun _ => z) (fun q60 => zb_148_14 (fun _ => z) (fun q61 => zb_148_17 (fun _ => z) (fun q62 => ?_))))))
    rcases hq with q | q | q
    · exact absurd q q60
    · exact absurd q q61
    · exact absurd q q62
  have lt_of : zg_c (s0 345) T p ≠ -1 → p + 1 ≤ T := fun q => by
    rcases Int.lt_or_le p T with q2 | q2
    · omega
    · exact absurd (if_neg (by omega)) q
  by_cases c61 : zg_c (s0 345) T p = 61
  · obtain ⟨k1, k2⟩ := cs.1 c61
    have hlt := lt_of (by rw [c61]; decide)
    refine zOe_map (on (p + 1) 0 _ (by unfold zg_cm; omega) k2 (by omega) (by omega) (by rw [if_neg (by omega), if_pos c61]; exact k1) h1) (Int.le_refl _) rfl ze_refl (fun r s' z => ?_)
    refine pre r s' (zb_148_25 (fun _ => ?_) (fun q => absurd c61 q)) (by omega)
    rw [hN1]
    exact plain r s' z
  · by_cases c602 : zg_c (s0 345) T p = 60 ∨ zg_c (s0 345) T p = 62
    · by_cases also : p + 1 < T ∧ s0 345 (p + 1) = 61
      · obtain ⟨k1, k2⟩ := (cs.2.1 c602).1 also
        have k3 := (cs2 c602).1 also
        have h2 := h1.setN (N' := p + 2)
        refine zOe_map (on (p + 2) 1 _ (by unfold zg_cm; omega) k2 (by omega) (by omega) (by rw [k3, if_neg c61, if_neg (show ¬ (1 : Int) = 0 by decide), if_neg (show ¬ (1 : Int) = 0 by decide)]) h2) (Int.le_refl _) rfl ze_refl (fun r s' z => ?_)
        obtain ⟨y, s4, z1, z2⟩ := z
        refine pre r s' (zb_148_25 (fun q => absurd q c61) (fun _ => ?_)) (by omega)
        rw [hN1]
        refine zb_148_34 (fun _ => zb_148_39 (fun _ => zb_148_46 (fun q => absurd q (by decide)) (fun _ => zb_148_52 ?_ z2)) (fun q => absurd (by rw [e9, e81]; exact also.2) q)) (fun q => absurd (by rw [e81, e11]; exact also.1) q)
        rw [e81, zw_id (x := p + 1 + 1) (by omega) (by omega), show p + 1 + 1 = p + 2 by omega]
        exact z1
      · obtain ⟨k1, k2⟩ := (cs.2.1 c602).2 also
        have hlt := lt_of (by omega)
        have k3 := (cs2 c602).2 also
        refine zOe_map (on (p + 1) 0 _ (by unfold zg_cm; omega) k2 (by omega) (by omega) (by
          rw [k3, if_pos rfl, if_neg c61, if_pos rfl]
          by_cases c60 : zg_c (s0 345) T p = 60
          · rw [if_pos c60, c60]
          · rw [if_neg c60]
            exact c602.resolve_left c60) h1) (Int.le_refl _) rfl ze_refl (fun r s' z => ?_)
        refine pre r s' (zb_148_25 (fun q => absurd q c61) (fun _ => ?_)) (by omega)
        rw [hN1]
        refine zb_148_34 (fun q1 => zb_148_39 (fun q2 => ?_) (fun _ => plain r s' z)) (fun _ => plain r s' z)
        rw [e81, e11] at q1
        rw [e9, e81] at q2
        exact absurd ⟨q1, q2⟩ also
    · have hno := cs.2.2 (by omega) c61 (by omega)
      obtain ⟨s3, f1, f2⟩ := zz_fails v1 (c := 0) (at_ := p) (by omega) (by omega) (by omega) (by omega)
      refine Or.inr ⟨_, s3, zb_148_0 e (zb_148_2 (fun q => absurd q (by decide)) (fun _ => zb_148_5 u1 (zb_148_7 (fun q => absurd (Or.inl q) c602) (fun _ => zb_148_14 (fun q => absurd q c61) (fun _ => zb_148_17 (fun q => absurd (Or.inr q) c602) (fun _ => zb_148_20 (by rw [e8]; exact f1) (zb_148_24 rfl))))))), f2, a, ze_stop ?_⟩
      rw [hpq, hst, if_neg hno]
      rfl
end XE
