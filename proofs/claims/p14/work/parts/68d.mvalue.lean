/-! the reference's reading: value, term, sum, compare -/
section RD
variable {s0 s : zS} {t T N m ln : Int} {O : zO}
theorem zr_wordhere (hc : zCy s0 T) (h : zRs s0 t N m O ln s) (hN : 0 ≤ N) (hN4 : N ≤ T) {p : Int} (hp : zg_sk (s0 345) T N = p) : ∃ r s', zE xm_c139 [344] s r s' ∧ zRs s0 t p m O ln s' ∧ -1 ≤ r ∧ r ≤ 10 ∧ (r < 0 ↔ ¬ zg_any (s0 345) T p) := by
  have rl : N ≤ zg_sk (s0 345) T N ∧ (zg_sk (s0 345) T N ≤ T ∨ zg_sk (s0 345) T N = N) := zg_run_le
  have hpp : zg_sk (s0 345) T p = p := by rw [← hp, zg_sk_sk]
  rw [hp] at rl
  have one : ∀ (W : List Int) (w : Int) (s : zS), zRs s0 t p m O ln s → w = zenc W.reverse → (∀ c ∈ W, 1 ≤ c ∧ c ≤ 255) → W.length ≤ 7 → W ≠ [] → ∃ s', zE xm_c135 [344, w, 0, 0, 0, 0] s (if zg_is (s0 345) T p W then 1 else 0) s' ∧ zRs s0 t p m O ln s' := by
    intro W w s h h1 h2 h3 h4
    have := zr_isword hc h (by omega) (by omega) W h1 h2 h3 h4
    rw [hpp] at this
    exact this
  have first := zr_isword hc h hN hN4 [116, 101, 108, 108, 101, 114] (w := 127978959562098) (by decide) (by decide) (by decide) (by decide)
  rw [hp] at first
  obtain ⟨s1, u1, v1⟩ := first
  by_cases e1 : zg_is (s0 345) T p [116, 101, 108, 108, 101, 114]
  · rw [if_pos e1] at u1
    exact ⟨0, s1, zb_139_0 u1 (zb_139_3 (fun q => absurd q (by decide)) (fun _ => zb_139_4 rfl)), v1, by omega, by omega, fun q => absurd q (by decide), fun q => absurd ⟨e1.1, by rw [e1.2]; decide⟩ q⟩
  rw [if_neg e1] at u1
  obtain ⟨s2, u2, v2⟩ := one [104, 101, 97, 114, 101, 114] 114784635872626 s1 v1 (by decide) (by decide) (by decide) (by decide)
  by_cases e2 : zg_is (s0 345) T p [104, 101, 97, 114, 101, 114]
  · rw [if_pos e2] at u2
    exact ⟨1, s2, zb_139_0 u1 (zb_139_3 (fun _ => zb_139_6 u2 (zb_139_9 (fun q => absurd q (by decide)) (fun _ => zb_139_10 rfl))) (fun q => absurd rfl q)), v2, by omega, by omega, fun q => absurd q (by decide), fun q => absurd ⟨e2.1, by rw [e2.2]; decide⟩ q⟩
  rw [if_neg e2] at u2
  obtain ⟨s3, u3, v3⟩ := one [102, 108, 111, 111, 114] 439905906546 s2 v2 (by decide) (by decide) (by decide) (by decide)
  by_cases e3 : zg_is (s0 345) T p [102, 108, 111, 111, 114]
  · rw [if_pos e3] at u3
    exact ⟨2, s3, zb_139_0 u1 (zb_139_3 (fun _ => zb_139_6 u2 (zb_139_9 (fun _ => zb_139_12 u3 (zb_139_15 (fun q => absurd q (by decide)) (fun _ => zb_139_16 rfl))) (fun q => absurd rfl q))) (fun q => absurd rfl q)), v3, by omega, by omega, fun q => absurd q (by decide), fun q => absurd ⟨e3.1, by rw [e3.2]; decide⟩ q⟩
  rw [if_neg e3] at u3
  obtain ⟨s4, u4, v4⟩ := one [98, 101, 108, 108] 1650814060 s3 v3 (by decide) (by decide) (by decide) (by decide)
  by_cases e4 : zg_is (s0 345) T p [98, 101, 108, 108]
  · rw [if_pos e4] at u4
    exact ⟨3, s4, zb_139_0 u1 (zb_139_3 (fun _ => zb_139_6 u2 (zb_139_9 (fun _ => zb_139_12 u3 (zb_139_15 (fun _ => zb_139_18 u4 (zb_139_21 (fun q => absurd q (by decide)) (fun _ => zb_139_22 rfl))) (fun q => absurd rfl q))) (fun q => absurd rfl q))) (fun q => absurd rfl q)), v4, by omega, by omega, fun q => absurd q (by decide), fun q => absurd ⟨e4.1, by rw [e4.2]; decide⟩ q⟩
  rw [if_neg e4] at u4
  obtain ⟨s5, u5, v5⟩ := one [99, 104, 97, 105, 114, 115] 109299962049139 s4 v4 (by decide) (by decide) (by decide) (by decide)
  by_cases e5 : zg_is (s0 345) T p [99, 104, 97, 105, 114, 115]
  · rw [if_pos e5] at u5
    exact ⟨4, s5, zb_139_0 u1 (zb_139_3 (fun _ => zb_139_6 u2 (zb_139_9 (fun _ => zb_139_12 u3 (zb_139_15 (fun _ => zb_139_18 u4 (zb_139_21 (fun _ => zb_139_24 u5 (zb_139_27 (fun q => absurd q (by decide)) (fun _ => zb_139_28 rfl))) (fun q => absurd rfl q))) (fun q => absurd rfl q))) (fun q => absurd rfl q))) (fun q => absurd rfl q)), v5, by omega, by omega, fun q => absurd q (by decide), fun q => absurd ⟨e5.1, by rw [e5.2]; decide⟩ q⟩
  rw [if_neg e5] at u5
  obtain ⟨s6, u6, v6⟩ := one [115, 105, 110, 99, 101] 495690081125 s5 v5 (by decide) (by decide) (by decide) (by decide)
  by_cases e6 : zg_is (s0 345) T p [115, 105, 110, 99, 101]
  · rw [if_pos e6] at u6
    exact ⟨5, s6, zb_139_0 u1 (zb_139_3 (fun _ => zb_139_6 u2 (zb_139_9 (fun _ => zb_139_12 u3 (zb_139_15 (fun _ => zb_139_18 u4 (zb_139_21 (fun _ => zb_139_24 u5 (zb_139_27 (fun _ => zb_139_30 u6 (zb_139_33 (fun q => absurd q (by decide)) (fun _ => zb_139_34 rfl))) (fun q => absurd rfl q))) (fun q => absurd rfl q))) (fun q => absurd rfl q))) (fun q => absurd rfl q))) (fun q => absurd rfl q)), v6, by omega, by omega, fun q => absurd q (by decide), fun q => absurd ⟨e6.1, by rw [e6.2]; decide⟩ q⟩
  rw [if_neg e6] at u6
  obtain ⟨s7, u7, v7⟩ := one [104, 111, 109, 101] 1752132965 s6 v6 (by decide) (by decide) (by decide) (by decide)
  by_cases e7 : zg_is (s0 345) T p [104, 111, 109, 101]
  · rw [if_pos e7] at u7
    exact ⟨6, s7, zb_139_0 u1 (zb_139_3 (fun _ => zb_139_6 u2 (zb_139_9 (fun _ => zb_139_12 u3 (zb_139_15 (fun _ => zb_139_18 u4 (zb_139_21 (fun _ => zb_139_24 u5 (zb_139_27 (fun _ => zb_139_30 u6 (zb_139_33 (fun _ => zb_139_36 u7 (zb_139_39 (fun q => absurd q (by decide)) (fun _ => zb_139_40 rfl))) (fun q => absurd rfl q))) (fun q => absurd rfl q))) (fun q => absurd rfl q))) (fun q => absurd rfl q))) (fun q => absurd rfl q))) (fun q => absurd rfl q)), v7, by omega, by omega, fun q => absurd q (by decide), fun q => absurd ⟨e7.1, by rw [e7.2]; decide⟩ q⟩
  rw [if_neg e7] at u7
  obtain ⟨s8, u8, v8⟩ := one [116, 104, 101, 114, 101] 499967685221 s7 v7 (by decide) (by decide) (by decide) (by decide)
  by_cases e8 : zg_is (s0 345) T p [116, 104, 101, 114, 101]
  · rw [if_pos e8] at u8
    exact ⟨7, s8, zb_139_0 u1 (zb_139_3 (fun _ => zb_139_6 u2 (zb_139_9 (fun _ => zb_139_12 u3 (zb_139_15 (fun _ => zb_139_18 u4 (zb_139_21 (fun _ => zb_139_24 u5 (zb_139_27 (fun _ => zb_139_30 u6 (zb_139_33 (fun _ => zb_139_36 u7 (zb_139_39 (fun _ => zb_139_42 u8 (zb_139_45 (fun q => absurd q (by decide)) (fun _ => zb_139_46 rfl))) (fun q => absurd rfl q))) (fun q => absurd rfl q))) (fun q => absurd rfl q))) (fun q => absurd rfl q))) (fun q => absurd rfl q))) (fun q => absurd rfl q))) (fun q => absurd rfl q)), v8, by omega, by omega, fun q => absurd q (by decide), fun q => absurd ⟨e8.1, by rw [e8.2]; decide⟩ q⟩
  rw [if_neg e8] at u8
  obtain ⟨s9, u9, v9⟩ := one [107, 110, 111, 119, 110] 461414299502 s8 v8 (by decide) (by decide) (by decide) (by decide)
  by_cases e9 : zg_is (s0 345) T p [107, 110, 111, 119, 110]
  · rw [if_pos e9] at u9
    exact ⟨8, s9, zb_139_0 u1 (zb_139_3 (fun _ => zb_139_6 u2 (zb_139_9 (fun _ => zb_139_12 u3 (zb_139_15 (fun _ => zb_139_18 u4 (zb_139_21 (fun _ => zb_139_24 u5 (zb_139_27 (fun _ => zb_139_30 u6 (zb_139_33 (fun _ => zb_139_36 u7 (zb_139_39 (fun _ => zb_139_42 u8 (zb_139_45 (fun _ => zb_139_48 u9 (zb_139_51 (fun q => absurd q (by decide)) (fun _ => zb_139_52 rfl))) (fun q => absurd rfl q))) (fun q => absurd rfl q))) (fun q => absurd rfl q))) (fun q => absurd rfl q))) (fun q => absurd rfl q))) (fun q => absurd rfl q))) (fun q => absurd rfl q))) (fun q => absurd rfl q)), v9, by omega, by omega, fun q => absurd q (by decide), fun q => absurd ⟨e9.1, by rw [e9.2]; decide⟩ q⟩
  rw [if_neg e9] at u9
  obtain ⟨s10, u10, v10⟩ := one [110, 105, 103, 104, 116] 474214787188 s9 v9 (by decide) (by decide) (by decide) (by decide)
  by_cases e10 : zg_is (s0 345) T p [110, 105, 103, 104, 116]
  · rw [if_pos e10] at u10
    exact ⟨9, s10, zb_139_0 u1 (zb_139_3 (fun _ => zb_139_6 u2 (zb_139_9 (fun _ => zb_139_12 u3 (zb_139_15 (fun _ => zb_139_18 u4 (zb_139_21 (fun _ => zb_139_24 u5 (zb_139_27 (fun _ => zb_139_30 u6 (zb_139_33 (fun _ => zb_139_36 u7 (zb_139_39 (fun _ => zb_139_42 u8 (zb_139_45 (fun _ => zb_139_48 u9 (zb_139_51 (fun _ => zb_139_54 u10 (zb_139_57 (fun q => absurd q (by decide)) (fun _ => zb_139_58 rfl))) (fun q => absurd rfl q))) (fun q => absurd rfl q))) (fun q => absurd rfl q))) (fun q => absurd rfl q))) (fun q => absurd rfl q))) (fun q => absurd rfl q))) (fun q => absurd rfl q))) (fun q => absurd rfl q))) (fun q => absurd rfl q)), v10, by omega, by omega, fun q => absurd q (by decide), fun q => absurd ⟨e10.1, by rw [e10.2]; decide⟩ q⟩
  rw [if_neg e10] at u10
  obtain ⟨s11, u11, v11⟩ := one [116, 119, 105, 115, 116] 500219605876 s10 v10 (by decide) (by decide) (by decide) (by decide)
  by_cases e11 : zg_is (s0 345) T p [116, 119, 105, 115, 116]
  · rw [if_pos e11] at u11
    exact ⟨10, s11, zb_139_0 u1 (zb_139_3 (fun _ => zb_139_6 u2 (zb_139_9 (fun _ => zb_139_12 u3 (zb_139_15 (fun _ => zb_139_18 u4 (zb_139_21 (fun _ => zb_139_24 u5 (zb_139_27 (fun _ => zb_139_30 u6 (zb_139_33 (fun _ => zb_139_36 u7 (zb_139_39 (fun _ => zb_139_42 u8 (zb_139_45 (fun _ => zb_139_48 u9 (zb_139_51 (fun _ => zb_139_54 u10 (zb_139_57 (fun _ => zb_139_60 u11 (zb_139_63 (fun q => absurd q (by decide)) (fun _ => zb_139_64 rfl))) (fun q => absurd rfl q))) (fun q => absurd rfl q))) (fun q => absurd rfl q))) (fun q => absurd rfl q))) (fun q => absurd rfl q))) (fun q => absurd rfl q))) (fun q => absurd rfl q))) (fun q => absurd rfl q))) (fun q => absurd rfl q))) (fun q => absurd rfl q)), v11, by omega, by omega, fun q => absurd q (by decide), fun q => absurd ⟨e11.1, by rw [e11.2]; decide⟩ q⟩
  rw [if_neg e11] at u11
  refine ⟨-1, s11, zb_139_0 u1 (zb_139_3 (fun _ => zb_139_6 u2 (zb_139_9 (fun _ => zb_139_12 u3 (zb_139_15 (fun _ => zb_139_18 u4 (zb_139_21 (fun _ => zb_139_24 u5 (zb_139_27 (fun _ => zb_139_30 u6 (zb_139_33 (fun _ => zb_139_36 u7 (zb_139_39 (fun _ => zb_139_42 u8 (zb_139_45 (fun _ => zb_139_48 u9 (zb_139_51 (fun _ => zb_139_54 u10 (zb_139_57 (fun _ => zb_139_60 u11 (zb_139_63 (fun _ => zb_139_66 rfl) (fun q => absurd rfl q))) (fun q => absurd rfl q))) (fun q => absurd rfl q))) (fun q => absurd rfl q))) (fun q => absurd rfl q))) (fun q => absurd rfl q))) (fun q => absurd rfl q))) (fun q => absurd rfl q))) (fun q => absurd rfl q))) (fun q => absurd rfl q))) (fun q => absurd rfl q)), v11, by omega, by omega, fun _ z => ?_, fun _ => by omega⟩
  have z2 := z.2
  unfold yw_all at z2
  simp only [List.mem_cons, List.not_mem_nil, or_false] at z2
  rcases z2 with z2 | z2 | z2 | z2 | z2 | z2 | z2 | z2 | z2 | z2 | z2
  · exact e1 ⟨z.1, z2⟩
  · exact e2 ⟨z.1, z2⟩
  · exact e3 ⟨z.1, z2⟩
  · exact e4 ⟨z.1, z2⟩
  · exact e5 ⟨z.1, z2⟩
  · exact e6 ⟨z.1, z2⟩
  · exact e7 ⟨z.1, z2⟩
  · exact e8 ⟨z.1, z2⟩
  · exact e9 ⟨z.1, z2⟩
  · exact e10 ⟨z.1, z2⟩
  · exact e11 ⟨z.1, z2⟩
/-- with success behind C, or with the fault -/
def zOR (s0 : zS) (t T : Int) (A C : Int → Int → zQ) (N m : Int) (O O' : zO) (ln ln' : Int) (X : Int → Prop) (E : Int → zS → Prop) : Prop := (∃ N' m' s', E 1 s' ∧ zRs s0 t N' m' O' ln' s' ∧ (N ≤ N' ∧ N' ≤ T ∧ 0 ≤ m' ∧ m' ≤ 60) ∧ zg_to (s0 345) T (A (zg_sk (s0 345) T N) m) (C (zg_sk (s0 345) T N') m') ∧ X (zg_sk (s0 345) T N')) ∨ (∃ f s', E 0 s' ∧ zRd s0 f s' ∧ zg_end (s0 345) T (A (zg_sk (s0 345) T N) m) f)
/-- a sign of one byte -/
theorem zg_kc {b : Int → Int} {T p v : Int} (hv : ¬ (97 ≤ v ∧ v ≤ 122)) (hv2 : ¬ (48 ≤ v ∧ v ≤ 57)) (hv3 : v ≠ 60 ∧ v ≠ 62 ∧ v ≠ 256 ∧ v ≠ 257) : (zg_kind b T p = v ↔ zg_c b T p = v) ∧ (zg_c b T p = v → zg_te b T p = if p < T then p + 1 else p) := by
  unfold zg_kind zg_te
  by_cases e1 : 97 ≤ zg_c b T p ∧ zg_c b T p ≤ 122
  · rw [if_pos e1, if_pos e1]
    exact ⟨by omega, fun q => by omega⟩
  · rw [if_neg e1, if_neg e1]
    by_cases e2 : 48 ≤ zg_c b T p ∧ zg_c b T p ≤ 57
    · rw [if_pos e2, if_pos e2]
      exact ⟨by omega, fun q => by omega⟩
    · rw [if_neg e2, if_neg e2]
      by_cases e3 : (p + 1 < T ∧ b (p + 1) = 61) ∧ (zg_c b T p = 60 ∨ zg_c b T p = 62)
      · rw [if_pos e3, if_pos e3]
        by_cases e4 : zg_c b T p = 60
        · rw [if_pos e4]
          exact ⟨by omega, fun q => by omega⟩
        · rw [if_neg e4]
          exact ⟨by omega, fun q => by omega⟩
      · rw [if_neg e3, if_neg e3]
        exact ⟨Iff.rfl, fun _ => rfl⟩
/-- the byte itself -/
theorem zg_cv {b : Int → Int} {T p v : Int} (hb : zg_by b) (hT : T ≤ 400) (hp : 0 ≤ p) (h0 : 0 ≤ v) (h1 : v ≤ 127) : zg_c b T p = v ↔ (p < T ∧ b p = v) := by
  have c := zg_cb hb hT hp
  constructor
  · intro q
    omega
  · intro q
    omega
theorem zr_value (hc : zCy s0 T) (k : Nat) (l : Int) (st : List Bool) (h : zRs s0 t N m O ln s) (hN : 0 ≤ N) (hN4 : N ≤ T) (hm : 0 ≤ m) (hm6 : m ≤ 60) : zOR s0 t T (fun p a => (1, k, p, a, l, st)) (fun p a => (2, k, p, a, l, st)) N m O O ln ln (fun _ => True) (fun r s' => zE xm_c145 [344, 0, 0] s r s') := by
  have rl : N ≤ zg_sk (s0 345) T N ∧ (zg_sk (s0 345) T N ≤ T ∨ zg_sk (s0 345) T N = N) := zg_run_le
  have h4 := hc.2.2.2
  obtain ⟨s1, u1, v1⟩ := zr_see hc _ (Nat.le_refl _) hN h
  have hpp := zg_sk_sk (b := s0 345) (T := T) (N := N)
  unfold zOR
  dsimp only
  generalize zg_sk (s0 345) T N = p at rl u1 v1 hpp ⊢
  have hst : zg_st (s0 345) T (1, k, p, m, l, st) = if zg_kind (s0 345) T p = 48 then (if 5 < zg_te (s0 345) T p - p then zg_fl 1 p else if m = 60 then zg_fl 3 p else .inl (2, k, zg_nx (s0 345) T p, m + 1, l, st)) else if zg_any (s0 345) T p then (if m = 60 then zg_fl 3 p else .inl (2, k, zg_nx (s0 345) T p, m + 1, l, st)) else zg_fl 0 p := rfl
  have hk := zg_kl (b := s0 345) (T := T) (p := p) hc.1 hc.2.2.2 (by omega)
  have hte := zg_te_le (b := s0 345) (T := T) (p := p) hc.1 hc.2.2.2 (by omega)
  have e8 := v1.1.1
  have hd := zr_digit hc v1 (x := p)
  rw [show ([344, p] : List Int) = [344, s1 344 8] by rw [e8]] at hd
  by_cases e48 : zg_kind (s0 345) T p = 48
  · rw [if_pos (hk.2.2.1.mp e48)] at hd
    rcases zr_number hc v1 (low := 0) (most := 99999) (by omega) (by omega) hpp with ⟨-, n1, n2, s2, n3, n4, n5⟩ | ⟨-, n1, s2, n2, n3⟩ | ⟨n1, -⟩
    · rcases zr_makes n4 hm hm6 (at_ := p) (by omega) (by omega) with ⟨m1, s3, m2, m3⟩ | ⟨m1, s3, m2, m3⟩
      · obtain ⟨s4, p1, p2⟩ := zr_puts m3 (x := 0) (y := s3 344 10)
        refine Or.inl ⟨_, m + 1, s4, zb_145_0 u1 (zb_145_2 hd (zb_145_10 (fun q => absurd q (by decide)) (fun _ => zb_145_11 n3 (zb_145_15 (fun q => absurd q (by decide)) (fun _ => zb_145_16 (by rw [e8]; exact m2) (zb_145_19 (fun q => absurd q (by decide)) (fun _ => zb_145_22 p1 (zb_145_27 rfl)))))))), p2, by omega, zg_one ?_, trivial⟩
        rw [hst, if_pos e48, if_neg n1, if_neg (by omega)]
        rfl
      · refine Or.inr ⟨_, s3, zb_145_0 u1 (zb_145_2 hd (zb_145_10 (fun q => absurd q (by decide)) (fun _ => zb_145_11 n3 (zb_145_15 (fun q => absurd q (by decide)) (fun _ => zb_145_16 (by rw [e8]; exact m2) (zb_145_19 (fun _ => zb_145_20 rfl) (fun q => absurd rfl q))))))), m3, zg_stop ?_⟩
        rw [hst, if_pos e48, if_neg n1, if_pos m1]
        rfl
    · refine Or.inr ⟨_, s2, zb_145_0 u1 (zb_145_2 hd (zb_145_10 (fun q => absurd q (by decide)) (fun _ => zb_145_11 n2 (zb_145_15 (fun _ => zb_145_20 rfl) (fun q => absurd rfl q))))), n3, zg_stop ?_⟩
      have h5 : 5 < zg_te (s0 345) T p - p := by
        refine n1.elim (fun q => q) (fun q => ?_)
        by_cases c5 : 5 < zg_te (s0 345) T p - p
        · exact c5
        · exfalso
          have hin : ∀ i : Nat, i < (zg_te (s0 345) T p - p).toNat → 48 ≤ s0 345 (p + ((i : Nat) : Int)) ∧ s0 345 (p + ((i : Nat) : Int)) ≤ 57 := fun i hi => (zg_run_in (b := s0 345) (T := T) (lo := 48) (hi := 57) (p := p) (i := p + ((i : Nat) : Int)) (by omega) (by rw [← hk.2.2.2 e48]; omega)).2
          have hb := zval_b (b := s0 345) (p := p) (zg_te (s0 345) T p - p).toNat (by omega) hin
          have hpow : (10 : Int) ^ (zg_te (s0 345) T p - p).toNat ≤ 100000 := by
            rcases (show (zg_te (s0 345) T p - p).toNat = 0 ∨ (zg_te (s0 345) T p - p).toNat = 1 ∨ (zg_te (s0 345) T p - p).toNat = 2 ∨ (zg_te (s0 345) T p - p).toNat = 3 ∨ (zg_te (s0 345) T p - p).toNat = 4 ∨ (zg_te (s0 345) T p - p).toNat = 5 by omega) with q | q | q | q | q | q <;> rw [q] <;> decide
          omega
      rw [hst, if_pos e48, if_pos h5]
      rfl
    · exact absurd e48 n1
  · rw [if_neg (fun z => e48 (hk.2.2.1.mpr z))] at hd
    obtain ⟨r, s2, w1, w2, w3, w4, w5⟩ := zr_wordhere hc v1 (by omega) (by omega) hpp
    by_cases any : zg_any (s0 345) T p
    · have hr : ¬ r < 0 := fun q => w5.mp q any
      rcases zr_makes w2 hm hm6 (at_ := p) (by omega) (by omega) with ⟨m1, s3, m2, m3⟩ | ⟨m1, s3, m2, m3⟩
      · obtain ⟨s4, p1, p2⟩ := zr_pass hc _ (Nat.le_refl _) (by omega) m3
        rw [← hk.2.1 any.1] at p2
        obtain ⟨s5, p3, p4⟩ := zr_puts p2 (x := 1) (y := r)
        refine Or.inl ⟨_, m + 1, s5, zb_145_0 u1 (zb_145_2 hd (zb_145_10 (fun _ => zb_145_29 w1 (zb_145_31 (fun q => absurd q hr) (fun _ => zb_145_39 (by rw [e8]; exact m2) (zb_145_42 (fun q => absurd q (by decide)) (fun _ => zb_145_45 p1 (zb_145_47 p3 (zb_145_51 rfl))))))) (fun q => absurd rfl q))), p4, by omega, zg_one ?_, trivial⟩
        rw [hst, if_neg e48, if_pos any, if_neg (by omega)]
        rfl
      · refine Or.inr ⟨_, s3, zb_145_0 u1 (zb_145_2 hd (zb_145_10 (fun _ => zb_145_29 w1 (zb_145_31 (fun q => absurd q hr) (fun _ => zb_145_39 (by rw [e8]; exact m2) (zb_145_42 (fun _ => zb_145_43 rfl) (fun q => absurd rfl q))))) (fun q => absurd rfl q))), m3, zg_stop ?_⟩
        rw [hst, if_neg e48, if_pos any, if_pos m1]
        rfl
    · obtain ⟨s3, f1, f2⟩ := zr_fails w2 (c := 0) (at_ := p) (by omega) (by omega) (by omega) (by omega)
      refine Or.inr ⟨_, s3, zb_145_0 u1 (zb_145_2 hd (zb_145_10 (fun _ => zb_145_29 w1 (zb_145_31 (fun _ => zb_145_34 (by rw [e8]; exact f1) (zb_145_38 rfl)) (fun q => absurd (w5.mpr any) q))) (fun q => absurd rfl q))), f2, zg_stop ?_⟩
      rw [hst, if_neg e48, if_neg any]
      rfl
theorem zOR_tr {A B C : Int → Int → zQ} {O1 O2 : zO} {l1 l2 : Int} {X Y : Int → Prop} {E E1 : Int → zS → Prop} {N m : Int} {O : zO} {ln : Int} (h : zOR s0 t T A B N m O O1 ln l1 X E) (hE : ∀ f s', E 0 s' → zRd s0 f s' → ∃ s'', E1 0 s'' ∧ zRd s0 f s'') (h1 : ∀ N' m' s', E 1 s' → zRs s0 t N' m' O1 l1 s' → N ≤ N' → N' ≤ T → 0 ≤ m' → m' ≤ 60 → X (zg_sk (s0 345) T N') → zOR s0 t T B C N' m' O1 O2 l1 l2 Y E1) : zOR s0 t T A C N m O O2 ln l2 Y E1 := by
  rcases h with ⟨N', m', s', a1, a2, a3, a4, a5⟩ | ⟨f, s', a1, a2, a3⟩
  · rcases h1 N' m' s' a1 a2 a3.1 a3.2.1 a3.2.2.1 a3.2.2.2 a5 with ⟨N2, m2, s2, b1, b2, b3, b4, b5⟩ | ⟨f, s2, b1, b2, b3⟩
    · exact Or.inl ⟨N2, m2, s2, b1, b2, ⟨by omega, b3.2.1, b3.2.2.1, b3.2.2.2⟩, zg_trans a4 b4, b5⟩
    · exact Or.inr ⟨f, s2, b1, b2, zg_tend a4 b3⟩
  · obtain ⟨s'', c1, c2⟩ := hE f s' a1 a2
    exact Or.inr ⟨f, s'', c1, c2, a3⟩
end RD
