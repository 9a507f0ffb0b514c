/-! the reference's value, term, sum, compare, with the code; printed by wip/z/gen_e7.py -/
theorem zg_cs2 {b : Int → Int} {T p : Int} (h : zg_c b T p = 60 ∨ zg_c b T p = 62) : ((p + 1 < T ∧ b (p + 1) = 61) → zg_kind b T p = if zg_c b T p = 60 then 256 else 257) ∧ (¬ (p + 1 < T ∧ b (p + 1) = 61) → zg_kind b T p = zg_c b T p) := by
  unfold zg_kind
  refine ⟨fun q => ?_, fun q => ?_⟩
  · rw [if_neg (by omega), if_neg (by omega), if_pos ⟨q, h⟩]
  · rw [if_neg (by omega), if_neg (by omega), if_neg (fun z => q z.1)]
section XD
variable {s0 s : zS} {t T N m ln : Int} {O : zX}
theorem zz_wordhere (hc : zCy s0 T) (h : zMw s0 t N m O ln s) (hN : 0 ≤ N) (hN4 : N ≤ T) {p : Int} (hp : zg_sk (s0 345) T N = p) : ∃ r s', zE xm_c139 [344] s r s' ∧ zMw s0 t p m O ln s' ∧ -1 ≤ r ∧ r ≤ 10 ∧ (r < 0 ↔ ¬ zg_any (s0 345) T p) ∧ (zg_any (s0 345) T p → r = zwi (s0 345) T p) := by
  have rl : N ≤ zg_sk (s0 345) T N ∧ (zg_sk (s0 345) T N ≤ T ∨ zg_sk (s0 345) T N = N) := zg_run_le
  have hpp : zg_sk (s0 345) T p = p := by rw [← hp, zg_sk_sk]
  rw [hp] at rl
  have one : ∀ (W : List Int) (w : Int) (s : zS), zMw s0 t p m O ln s → w = zenc W.reverse → (∀ c ∈ W, 1 ≤ c ∧ c ≤ 255) → W.length ≤ 7 → W ≠ [] → ∃ s', zE xm_c135 [344, w, 0, 0, 0, 0] s (if zg_is (s0 345) T p W then 1 else 0) s' ∧ zMw s0 t p m O ln s' := by
    intro W w s h h1 h2 h3 h4
    have := zz_isword hc h (by omega) (by omega) W h1 h2 h3 h4
    rw [hpp] at this
    exact this
  have first := zz_isword hc h hN hN4 [116, 101, 108, 108, 101, 114] (w := 127978959562098) (by decide) (by decide) (by decide) (by decide)
  rw [hp] at first
  obtain ⟨s1, u1, v1⟩ := first
  by_cases e1 : zg_is (s0 345) T p [116, 101, 108, 108, 101, 114]
  · rw [if_pos e1] at u1
    exact ⟨0, s1, zb_139_0 u1 (zb_139_3 (fun q => absurd q (by decide)) (fun _ => zb_139_4 rfl)), v1, by omega, by omega, ⟨fun q => absurd q (by decide), fun q => absurd ⟨e1.1, by rw [e1.2]; decide⟩ q⟩, fun _ => by unfold zwi; rw [e1.2]; decide +kernel⟩
  rw [if_neg e1] at u1
  obtain ⟨s2, u2, v2⟩ := one [104, 101, 97, 114, 101, 114] 114784635872626 s1 v1 (by decide) (by decide) (by decide) (by decide)
  by_cases e2 : zg_is (s0 345) T p [104, 101, 97, 114, 101, 114]
  · rw [if_pos e2] at u2
    exact ⟨1, s2, zb_139_0 u1 (zb_139_3 (fun _ => zb_139_6 u2 (zb_139_9 (fun q => absurd q (by decide)) (fun _ => zb_139_10 rfl))) (fun q => absurd rfl q)), v2, by omega, by omega, ⟨fun q => absurd q (by decide), fun q => absurd ⟨e2.1, by rw [e2.2]; decide⟩ q⟩, fun _ => by unfold zwi; rw [e2.2]; decide +kernel⟩
  rw [if_neg e2] at u2
  obtain ⟨s3, u3, v3⟩ := one [102, 108, 111, 111, 114] 439905906546 s2 v2 (by decide) (by decide) (by decide) (by decide)
  by_cases e3 : zg_is (s0 345) T p [102, 108, 111, 111, 114]
  · rw [if_pos e3] at u3
    exact ⟨2, s3, zb_139_0 u1 (zb_139_3 (fun _ => zb_139_6 u2 (zb_139_9 (fun _ => zb_139_12 u3 (zb_139_15 (fun q => absurd q (by decide)) (fun _ => zb_139_16 rfl))) (fun q => absurd rfl q))) (fun q => absurd rfl q)), v3, by omega, by omega, ⟨fun q => absurd q (by decide), fun q => absurd ⟨e3.1, by rw [e3.2]; decide⟩ q⟩, fun _ => by unfold zwi; rw [e3.2]; decide +kernel⟩
  rw [if_neg e3] at u3
  obtain ⟨s4, u4, v4⟩ := one [98, 101, 108, 108] 1650814060 s3 v3 (by decide) (by decide) (by decide) (by decide)
  by_cases e4 : zg_is (s0 345) T p [98, 101, 108, 108]
  · rw [if_pos e4] at u4
    exact ⟨3, s4, zb_139_0 u1 (zb_139_3 (fun _ => zb_139_6 u2 (zb_139_9 (fun _ => zb_139_12 u3 (zb_139_15 (fun _ => zb_139_18 u4 (zb_139_21 (fun q => absurd q (by decide)) (fun _ => zb_139_22 rfl))) (fun q => absurd rfl q))) (fun q => absurd rfl q))) (fun q => absurd rfl q)), v4, by omega, by omega, ⟨fun q => absurd q (by decide), fun q => absurd ⟨e4.1, by rw [e4.2]; decide⟩ q⟩, fun _ => by unfold zwi; rw [e4.2]; decide +kernel⟩
  rw [if_neg e4] at u4
  obtain ⟨s5, u5, v5⟩ := one [99, 104, 97, 105, 114, 115] 109299962049139 s4 v4 (by decide) (by decide) (by decide) (by decide)
  by_cases e5 : zg_is (s0 345) T p [99, 104, 97, 105, 114, 115]
  · rw [if_pos e5] at u5
    exact ⟨4, s5, zb_139_0 u1 (zb_139_3 (fun _ => zb_139_6 u2 (zb_139_9 (fun _ => zb_139_12 u3 (zb_139_15 (fun _ => zb_139_18 u4 (zb_139_21 (fun _ => zb_139_24 u5 (zb_139_27 (fun q => absurd q (by decide)) (fun _ => zb_139_28 rfl))) (fun q => absurd rfl q))) (fun q => absurd rfl q))) (fun q => absurd rfl q))) (fun q => absurd rfl q)), v5, by omega, by omega, ⟨fun q => absurd q (by decide), fun q => absurd ⟨e5.1, by rw [e5.2]; decide⟩ q⟩, fun _ => by unfold zwi; rw [e5.2]; decide +kernel⟩
  rw [if_neg e5] at u5
  obtain ⟨s6, u6, v6⟩ := one [115, 105, 110, 99, 101] 495690081125 s5 v5 (by decide) (by decide) (by decide) (by decide)
  by_cases e6 : zg_is (s0 345) T p [115, 105, 110, 99, 101]
  · rw [if_pos e6] at u6
    exact ⟨5, s6, zb_139_0 u1 (zb_139_3 (fun _ => zb_139_6 u2 (zb_139_9 (fun _ => zb_139_12 u3 (zb_139_15 (fun _ => zb_139_18 u4 (zb_139_21 (fun _ => zb_139_24 u5 (zb_139_27 (fun _ => zb_139_30 u6 (zb_139_33 (fun q => absurd q (by decide)) (fun _ => zb_139_34 rfl))) (fun q => absurd rfl q))) (fun q => absurd rfl q))) (fun q => absurd rfl q))) (fun q => absurd rfl q))) (fun q => absurd rfl q)), v6, by omega, by omega, ⟨fun q => absurd q (by decide), fun q => absurd ⟨e6.1, by rw [e6.2]; decide⟩ q⟩, fun _ => by unfold zwi; rw [e6.2]; decide +kernel⟩
  rw [if_neg e6] at u6
  obtain ⟨s7, u7, v7⟩ := one [104, 111, 109, 101] 1752132965 s6 v6 (by decide) (by decide) (by decide) (by decide)
  by_cases e7 : zg_is (s0 345) T p [104, 111, 109, 101]
  · rw [if_pos e7] at u7
    exact ⟨6, s7, zb_139_0 u1 (zb_139_3 (fun _ => zb_139_6 u2 (zb_139_9 (fun _ => zb_139_12 u3 (zb_139_15 (fun _ => zb_139_18 u4 (zb_139_21 (fun _ => zb_139_24 u5 (zb_139_27 (fun _ => zb_139_30 u6 (zb_139_33 (fun _ => zb_139_36 u7 (zb_139_39 (fun q => absurd q (by decide)) (fun _ => zb_139_40 rfl))) (fun q => absurd rfl q))) (fun q => absurd rfl q))) (fun q => absurd rfl q))) (fun q => absurd rfl q))) (fun q => absurd rfl q))) (fun q => absurd rfl q)), v7, by omega, by omega, ⟨fun q => absurd q (by decide), fun q => absurd ⟨e7.1, by rw [e7.2]; decide⟩ q⟩, fun _ => by unfold zwi; rw [e7.2]; decide +kernel⟩
  rw [if_neg e7] at u7
  obtain ⟨s8, u8, v8⟩ := one [116, 104, 101, 114, 101] 499967685221 s7 v7 (by decide) (by decide) (by decide) (by decide)
  by_cases e8 : zg_is (s0 345) T p [116, 104, 101, 114, 101]
  · rw [if_pos e8] at u8
    exact ⟨7, s8, zb_139_0 u1 (zb_139_3 (fun _ => zb_139_6 u2 (zb_139_9 (fun _ => zb_139_12 u3 (zb_139_15 (fun _ => zb_139_18 u4 (zb_139_21 (fun _ => zb_139_24 u5 (zb_139_27 (fun _ => zb_139_30 u6 (zb_139_33 (fun _ => zb_139_36 u7 (zb_139_39 (fun _ => zb_139_42 u8 (zb_139_45 (fun q => absurd q (by decide)) (fun _ => zb_139_46 rfl))) (fun q => absurd rfl q))) (fun q => absurd rfl q))) (fun q => absurd rfl q))) (fun q => absurd rfl q))) (fun q => absurd rfl q))) (fun q => absurd rfl q))) (fun q => absurd rfl q)), v8, by omega, by omega, ⟨fun q => absurd q (by decide), fun q => absurd ⟨e8.1, by rw [e8.2]; decide⟩ q⟩, fun _ => by unfold zwi; rw [e8.2]; decide +kernel⟩
  rw [if_neg e8] at u8
  obtain ⟨s9, u9, v9⟩ := one [107, 110, 111, 119, 110] 461414299502 s8 v8 (by decide) (by decide) (by decide) (by decide)
  by_cases e9 : zg_is (s0 345) T p [107, 110, 111, 119, 110]
  · rw [if_pos e9] at u9
    exact ⟨8, s9, zb_139_0 u1 (zb_139_3 (fun _ => zb_139_6 u2 (zb_139_9 (fun _ => zb_139_12 u3 (zb_139_15 (fun _ => zb_139_18 u4 (zb_139_21 (fun _ => zb_139_24 u5 (zb_139_27 (fun _ => zb_139_30 u6 (zb_139_33 (fun _ => zb_139_36 u7 (zb_139_39 (fun _ => zb_139_42 u8 (zb_139_45 (fun _ => zb_139_48 u9 (zb_139_51 (fun q => absurd q (by decide)) (fun _ => zb_139_52 rfl))) (fun q => absurd rfl q))) (fun q => absurd rfl q))) (fun q => absurd rfl q))) (fun q => absurd rfl q))) (fun q => absurd rfl q))) (fun q => absurd rfl q))) (fun q => absurd rfl q))) (fun q => absurd rfl q)), v9, by omega, by omega, ⟨fun q => absurd q (by decide), fun q => absurd ⟨e9.1, by rw [e9.2]; decide⟩ q⟩, fun _ => by unfold zwi; rw [e9.2]; decide +kernel⟩
  rw [if_neg e9] at u9
  obtain ⟨s10, u10, v10⟩ := one [110, 105, 103, 104, 116] 474214787188 s9 v9 (by decide) (by decide) (by decide) (by decide)
  by_cases e10 : zg_is (s0 345) T p [110, 105, 103, 104, 116]
  · rw [if_pos e10] at u10
    exact ⟨9, s10, zb_139_0 u1 (zb_139_3 (fun _ => zb_139_6 u2 (zb_139_9 (fun _ => zb_139_12 u3 (zb_139_15 (fun _ => zb_139_18 u4 (zb_139_21 (fun _ => zb_139_24 u5 (zb_139_27 (fun _ => zb_139_30 u6 (zb_139_33 (fun _ => zb_139_36 u7 (zb_139_39 (fun _ => zb_139_42 u8 (zb_139_45 (fun _ => zb_139_48 u9 (zb_139_51 (fun _ => zb_139_54 u10 (zb_139_57 (fun q => absurd q (by decide)) (fun _ => zb_139_58 rfl))) (fun q => absurd rfl q))) (fun q => absurd rfl q))) (fun q => absurd rfl q))) (fun q => absurd rfl q))) (fun q => absurd rfl q))) (fun q => absurd rfl q))) (fun q => absurd rfl q))) (fun q => absurd rfl q))) (fun q => absurd rfl q)), v10, by omega, by omega, ⟨fun q => absurd q (by decide), fun q => absurd ⟨e10.1, by rw [e10.2]; decide⟩ q⟩, fun _ => by unfold zwi; rw [e10.2]; decide +kernel⟩
  rw [if_neg e10] at u10
  obtain ⟨s11, u11, v11⟩ := one [116, 119, 105, 115, 116] 500219605876 s10 v10 (by decide) (by decide) (by decide) (by decide)
  by_cases e11 : zg_is (s0 345) T p [116, 119, 105, 115, 116]
  · rw [if_pos e11] at u11
    exact ⟨10, s11, zb_139_0 u1 (zb_139_3 (fun _ => zb_139_6 u2 (zb_139_9 (fun _ => zb_139_12 u3 (zb_139_15 (fun _ => zb_139_18 u4 (zb_139_21 (fun _ => zb_139_24 u5 (zb_139_27 (fun _ => zb_139_30 u6 (zb_139_33 (fun _ => zb_139_36 u7 (zb_139_39 (fun _ => zb_139_42 u8 (zb_139_45 (fun _ => zb_139_48 u9 (zb_139_51 (fun _ => zb_139_54 u10 (zb_139_57 (fun _ => zb_139_60 u11 (zb_139_63 (fun q => absurd q (by decide)) (fun _ => zb_139_64 rfl))) (fun q => absurd rfl q))) (fun q => absurd rfl q))) (fun q => absurd rfl q))) (fun q => absurd rfl q))) (fun q => absurd rfl q))) (fun q => absurd rfl q))) (fun q => absurd rfl q))) (fun q => absurd rfl q))) (fun q => absurd rfl q))) (fun q => absurd rfl q)), v11, by omega, by omega, ⟨fun q => absurd q (by decide), fun q => absurd ⟨e11.1, by rw [e11.2]; decide⟩ q⟩, fun _ => by unfold zwi; rw [e11.2]; decide +kernel⟩
  rw [if_neg e11] at u11
  have na : ¬ zg_any (s0 345) T p := by
    intro z
    have z2 := z.2
    unfold yw_all at z2
    simp only [List.mem_cons, List.not_mem_nil, or_false] at z2
    rcases z2 with z2 | z2 | z2 | z2 | z2 | z2 | z2 | z2 | z2 | z2 | z2
    · exact e1 ⟨z.1, z2⟩
    · exact e2 ⟨z.1, z2⟩
    · exact e3 ⟨z.1, z2⟩
    · exact e4 ⟨z.1, z2⟩
    · exact e5 ⟨z.1, z2⟩
    · exact e6 ⟨z.1, z2⟩
    · exact e7 ⟨z.1, z2⟩
    · exact e8 ⟨z.1, z2⟩
    · exact e9 ⟨z.1, z2⟩
    · exact e10 ⟨z.1, z2⟩
    · exact e11 ⟨z.1, z2⟩
  exact ⟨-1, s11, zb_139_0 u1 (zb_139_3 (fun _ => zb_139_6 u2 (zb_139_9 (fun _ => zb_139_12 u3 (zb_139_15 (fun _ => zb_139_18 u4 (zb_139_21 (fun _ => zb_139_24 u5 (zb_139_27 (fun _ => zb_139_30 u6 (zb_139_33 (fun _ => zb_139_36 u7 (zb_139_39 (fun _ => zb_139_42 u8 (zb_139_45 (fun _ => zb_139_48 u9 (zb_139_51 (fun _ => zb_139_54 u10 (zb_139_57 (fun _ => zb_139_60 u11 (zb_139_63 (fun _ => zb_139_66 rfl) (fun q => absurd rfl q))) (fun q => absurd rfl q))) (fun q => absurd rfl q))) (fun q => absurd rfl q))) (fun q => absurd rfl q))) (fun q => absurd rfl q))) (fun q => absurd rfl q))) (fun q => absurd rfl q))) (fun q => absurd rfl q))) (fun q => absurd rfl q))) (fun q => absurd rfl q)), v11, by omega, by omega, ⟨fun _ => na, fun _ => by omega⟩, fun z => absurd z na⟩
/-- with success behind C, or with the fault; O what is begun, L its length; what is made lies in no more places than bytes are passed -/
def zOe (s0 : zS) (t T : Int) (A C : Int → zW → zQe) (N : Int) (a : zW) (O O' : zO) (L : Int) (ln : Int) (X : Int → zW → Prop) (E : Int → zS → Prop) : Prop := (∃ N' a' s', E 1 s' ∧ zMw s0 t N' a'.1 (a'.2.1, O') ln s' ∧ (N ≤ N' ∧ N' ≤ T ∧ 0 ≤ a'.1 ∧ a'.1 ≤ 60) ∧ (((a'.2.1.length : Nat) : Int) + L ≤ N' ∧ a'.2.2.2.2 = a.2.2.2.2) ∧ ze_to (s0 345) T (A (zg_sk (s0 345) T N) a) (C (zg_sk (s0 345) T N') a') ∧ X (zg_sk (s0 345) T N') a') ∨ (∃ f s', E 0 s' ∧ zRdw s0 t f s' ∧ ∃ w, ze_end (s0 345) T (A (zg_sk (s0 345) T N) a) (f, w))
theorem zOe_map {A A1 C : Int → zW → zQe} {N' : Int} {a a1 : zW} {O O1 O2 : zO} {L ln : Int} {X : Int → zW → Prop} {E E1 : Int → zS → Prop} (h : zOe s0 t T A1 C N' a1 O1 O2 L ln X E1) (hN : N ≤ N') (hms : a1.2.2.2.2 = a.2.2.2.2) (ha : ze_to (s0 345) T (A (zg_sk (s0 345) T N) a) (A1 (zg_sk (s0 345) T N') a1)) (hE : ∀ r s', E1 r s' → E r s') : zOe s0 t T A C N a O O2 L ln X E := by
  rcases h with ⟨N2, a2, s2, b1, b2, b3, b4, b5, b6⟩ | ⟨f, s2, b1, b2, w, b3⟩
  · exact Or.inl ⟨N2, a2, s2, hE _ _ b1, b2, ⟨by omega, b3.2⟩, ⟨b4.1, b4.2.trans hms⟩, ze_trans ha b5, b6⟩
  · exact Or.inr ⟨f, s2, hE _ _ b1, b2, w, ze_tend ha b3⟩
theorem zOe_tr {A B C : Int → zW → zQe} {a : zW} {O O1 O2 : zO} {L L' ln : Int} {X Y : Int → zW → Prop} {E E1 : Int → zS → Prop} (h : zOe s0 t T A B N a O O1 L ln X E) (hE : ∀ f s', E 0 s' → zRdw s0 t f s' → ∃ s'', E1 0 s'' ∧ zRdw s0 t f s'') (h1 : ∀ N' a' s', E 1 s' → zMw s0 t N' a'.1 (a'.2.1, O1) ln s' → N ≤ N' → N' ≤ T → 0 ≤ a'.1 → a'.1 ≤ 60 → ((a'.2.1.length : Nat) : Int) + L ≤ N' → X (zg_sk (s0 345) T N') a' → zOe s0 t T B C N' a' O1 O2 L' ln Y E1) : zOe s0 t T A C N a O O2 L' ln Y E1 := by
  rcases h with ⟨N', a', s', b1, b2, b3, b4, b5, b6⟩ | ⟨f, s', b1, b2, w, b3⟩
  · exact zOe_map (h1 N' a' s' b1 b2 b3.1 b3.2.1 b3.2.2.1 b3.2.2.2 b4.1 b6) b3.1 b4.2 b5 (fun r s' z => z)
  · obtain ⟨s'', c1, c2⟩ := hE f s' b1 b2
    exact Or.inr ⟨f, s'', c1, c2, w, b3⟩
theorem zz_makes1 (h : zMw s0 t N m O ln s) (hm0 : 0 ≤ m) (hm : m < 60) {at_ : Int} : zE xm_c141 [344, at_] s 1 (zu s 344 12 (m + 1)) := by
  have e12 := h.1.2.2.2.1
  refine zb_141_0 (fun q => absurd q (by rw [e12]; omega)) (fun _ => zb_141_9 ?_)
  rw [e12, zw_id (by omega) (by omega)]
theorem zz_makes0 (h : zMw s0 t N m O ln s) (hm : m = 60) {at_ : Int} (ha : 0 ≤ at_) (ha4 : at_ ≤ 400) : ∃ s', zE xm_c141 [344, at_] s 0 s' ∧ zRdw s0 t (1 + 8 * at_ + 3) s' := by
  have e12 := h.1.2.2.2.1
  obtain ⟨s', q1, q2⟩ := zz_fails h (c := 3) (at_ := at_) (by omega) (by omega) ha ha4
  exact ⟨s', zb_141_0 (fun _ => zb_141_4 q1 (zb_141_8 rfl)) (fun q => absurd (by rw [e12]; exact hm) q), q2⟩
theorem zz_value (hc : zCy s0 T) (ht0 : 0 ≤ t) (ht : t ≤ 5) (k : Nat) (l : Int) (st : List Int) {a : zW} {O : zO} {L : Int} (h : zMw s0 t N a.1 (a.2.1, O) ln s) (hN : 0 ≤ N) (hN4 : N ≤ T) (hm : 0 ≤ a.1) (hm6 : a.1 ≤ 60) (hL0 : 0 ≤ L) (hL : ((a.2.1.length : Nat) : Int) + L ≤ N) : zOe s0 t T (fun p a => (1, k, p, a, l, st)) (fun p a => (2, k, p, zpd a, l, st)) N a O O L ln (fun _ b => b.2.2.1 = a.2.2.1 ∧ b.2.2.2.1 = a.2.2.2.1) (fun r s' => zE xm_c145 [344, 0, 0] s r s') := by
  have rl : N ≤ zg_sk (s0 345) T N ∧ (zg_sk (s0 345) T N ≤ T ∨ zg_sk (s0 345) T N = N) := zg_run_le
  have h4 := hc.2.2.2
  obtain ⟨s1, u1, v1⟩ := zz_see hc _ (Nat.le_refl _) hN h
  have hpp := zg_sk_sk (b := s0 345) (T := T) (N := N)
  unfold zOe
  dsimp only
  generalize zg_sk (s0 345) T N = p at rl u1 v1 hpp ⊢
  have hst : ze_st (s0 345) T (1, k, p, a, l, st) = if zg_kind (s0 345) T p = 48 then (if 5 < zg_te (s0 345) T p - p then zfe_ 1 p a else if a.1 = 60 then zfe_ 3 p a else .inl (2, k, zg_nx (s0 345) T p, zev a (0 + 16 * zhv (s0 345) T p), l, st)) else if zg_any (s0 345) T p then (if a.1 = 60 then zfe_ 3 p a else .inl (2, k, zg_nx (s0 345) T p, zev a (1 + 16 * zwi (s0 345) T p), l, st)) else zfe_ 0 p a := rfl
  have hk := zg_kl (b := s0 345) (T := T) (p := p) hc.1 hc.2.2.2 (by omega)
  have hte := zg_te_le (b := s0 345) (T := T) (p := p) hc.1 hc.2.2.2 (by omega)
  have e8 := v1.1.1
  have hd := zz_digit hc v1 (x := p)
  rw [show ([344, p] : List Int) = [344, s1 344 8] by rw [e8]] at hd
  by_cases e48 : zg_kind (s0 345) T p = 48
  · rw [if_pos (hk.2.2.1.mp e48)] at hd
    have hlt : p < zg_te (s0 345) T p := hte.2.2 (by omega)
    have hteT : zg_te (s0 345) T p ≤ T := hte.2.1 (by omega)
    rcases zz_number hc v1 (low := 0) (most := 99999) (by omega) (by omega) hpp with ⟨-, n1, n2, s2, n3, n4, n5⟩ | ⟨-, n1, s2, n2, n3⟩ | ⟨n1, -⟩
    · have n2 : 0 ≤ zhv (s0 345) T p ∧ zhv (s0 345) T p ≤ 99999 := n2
      have n5 : s2 344 10 = zhv (s0 345) T p := n5
      by_cases e60 : a.1 = 60
      · obtain ⟨s3, m2, m3⟩ := zz_makes0 n4 e60 (at_ := p) (by omega) (by omega)
        refine Or.inr ⟨_, s3, zb_145_0 u1 (zb_145_2 hd (zb_145_10 (fun q => absurd q (by decide)) (fun _ => zb_145_11 n3 (zb_145_15 (fun q => absurd q (by decide)) (fun _ => zb_145_16 (by rw [e8]; exact m2) (zb_145_19 (fun _ => zb_145_20 rfl) (fun q => absurd rfl q))))))), m3, a, ze_stop ?_⟩
        rw [hst, if_pos e48, if_neg n1, if_pos e60]
        rfl
      · have m2 := zz_makes1 n4 hm (by omega) (at_ := p)
        have m3 := n4.setm (m' := a.1 + 1)
        have h10 : (zu s2 344 12 (a.1 + 1)) 344 10 = zhv (s0 345) T p := by rw [zu_place (by decide)]; exact n5
        obtain ⟨s4, p1, p2⟩ := zz_puts m3 ht0 ht (by show a.2.1.length < 400; omega) (x := 0) (y := (zu s2 344 12 (a.1 + 1)) 344 10) (c := 0 + 16 * zhv (s0 345) T p) (by rw [h10, zw_id (x := 16 * zhv (s0 345) T p) (by omega) (by omega), zw_id (by omega) (by omega)])
        refine Or.inl ⟨_, ze1 (zep a (0 + 16 * zhv (s0 345) T p)), s4, zb_145_0 u1 (zb_145_2 hd (zb_145_10 (fun q => absurd q (by decide)) (fun _ => zb_145_11 n3 (zb_145_15 (fun q => absurd q (by decide)) (fun _ => zb_145_16 (by rw [e8]; exact m2) (zb_145_19 (fun q => absurd q (by decide)) (fun _ => zb_145_22 p1 (zb_145_27 rfl)))))))), p2, ?_, ⟨?_, rfl⟩, ze_one ?_, rfl, rfl⟩
        · show N ≤ zg_te (s0 345) T p ∧ zg_te (s0 345) T p ≤ T ∧ 0 ≤ a.1 + 1 ∧ a.1 + 1 ≤ 60
          omega
        · show ((a.2.1.length + 1 : Nat) : Int) + L ≤ zg_te (s0 345) T p
          omega
        · rw [hst, if_pos e48, if_neg n1, if_neg e60]
          rfl
    · refine Or.inr ⟨_, s2, zb_145_0 u1 (zb_145_2 hd (zb_145_10 (fun q => absurd q (by decide)) (fun _ => zb_145_11 n2 (zb_145_15 (fun _ => zb_145_20 rfl) (fun q => absurd rfl q))))), n3, a, ze_stop ?_⟩
      have h5 : 5 < zg_te (s0 345) T p - p := by
        refine n1.elim (fun q => q) (fun q => ?_)
        by_cases c5 : 5 < zg_te (s0 345) T p - p
        · exact c5
        · exfalso
          have hin : ∀ i : Nat, i < (zg_te (s0 345) T p - p).toNat → 48 ≤ s0 345 (p + ((i : Nat) : Int)) ∧ s0 345 (p + ((i : Nat) : Int)) ≤ 57 := fun i hi => (zg_run_in (b := s0 345) (T := T) (lo := 48) (hi := 57) (p := p) (i := p + ((i : Nat) : Int)) (by omega) (by rw [← hk.2.2.2 e48]; omega)).2
          have hb := zval_b (b := s0 345) (p := p) (zg_te (s0 345) T p - p).toNat (by omega) hin
          have hpow : (10 : Int) ^ (zg_te (s0 345) T p - p).toNat ≤ 100000 := by
            rcases (show (zg_te (s0 345) T p - p).toNat = 0 ∨ (zg_te (s0 345) T p - p).toNat = 1 ∨ (zg_te (s0 345) T p - p).toNat = 2 ∨ (zg_te (s0 345) T p - p).toNat = 3 ∨ (zg_te (s0 345) T p - p).toNat = 4 ∨ (zg_te (s0 345) T p - p).toNat = 5 by omega) with q | q | q | q | q | q <;> rw [q] <;> decide
          omega
      rw [hst, if_pos e48, if_pos h5]
      rfl
    · exact absurd e48 n1
  · rw [if_neg (fun z => e48 (hk.2.2.1.mpr z))] at hd
    obtain ⟨r, s2, w1, w2, w3, w4, w5, w6⟩ := zz_wordhere hc v1 (by omega) (by omega) hpp
    by_cases any : zg_any (s0 345) T p
    · have hr : ¬ r < 0 := fun q => w5.mp q any
      have hlt : p < zg_te (s0 345) T p := hte.2.2 (by have := any.1; omega)
      have hteT : zg_te (s0 345) T p ≤ T := hte.2.1 (by omega)
      by_cases e60 : a.1 = 60
      · obtain ⟨s3, m2, m3⟩ := zz_makes0 w2 e60 (at_ := p) (by omega) (by omega)
        refine Or.inr ⟨_, s3, zb_145_0 u1 (zb_145_2 hd (zb_145_10 (fun _ => zb_145_29 w1 (zb_145_31 (fun q => absurd q hr) (fun _ => zb_145_39 (by rw [e8]; exact m2) (zb_145_42 (fun _ => zb_145_43 rfl) (fun q => absurd rfl q))))) (fun q => absurd rfl q))), m3, a, ze_stop ?_⟩
        rw [hst, if_neg e48, if_pos any, if_pos e60]
        rfl
      · have m2 := zz_makes1 w2 hm (by omega) (at_ := p)
        have m3 := w2.setm (m' := a.1 + 1)
        obtain ⟨s4, p1, p2⟩ := zz_pass hc _ (Nat.le_refl _) (by omega) m3
        rw [← hk.2.1 any.1] at p2
        obtain ⟨s5, p3, p4⟩ := zz_puts p2 ht0 ht (by show a.2.1.length < 400; omega) (x := 1) (y := r) (c := 1 + 16 * zwi (s0 345) T p) (by rw [← w6 any, zw_id (x := 16 * r) (by omega) (by omega), zw_id (by omega) (by omega)])
        refine Or.inl ⟨_, ze1 (zep a (1 + 16 * zwi (s0 345) T p)), s5, zb_145_0 u1 (zb_145_2 hd (zb_145_10 (fun _ => zb_145_29 w1 (zb_145_31 (fun q => absurd q hr) (fun _ => zb_145_39 (by rw [e8]; exact m2) (zb_145_42 (fun q => absurd q (by decide)) (fun _ => zb_145_45 p1 (zb_145_47 p3 (zb_145_51 rfl))))))) (fun q => absurd rfl q))), p4, ?_, ⟨?_, rfl⟩, ze_one ?_, rfl, rfl⟩
        · show N ≤ zg_te (s0 345) T p ∧ zg_te (s0 345) T p ≤ T ∧ 0 ≤ a.1 + 1 ∧ a.1 + 1 ≤ 60
          omega
        · show ((a.2.1.length + 1 : Nat) : Int) + L ≤ zg_te (s0 345) T p
          omega
        · rw [hst, if_neg e48, if_pos any, if_neg e60]
          rfl
    · obtain ⟨s3, f1, f2⟩ := zz_fails w2 (c := 0) (at_ := p) (by omega) (by omega) (by omega) (by omega)
      refine Or.inr ⟨_, s3, zb_145_0 u1 (zb_145_2 hd (zb_145_10 (fun _ => zb_145_29 w1 (zb_145_31 (fun _ => zb_145_34 (by rw [e8]; exact f1) (zb_145_38 rfl)) (fun q => absurd (w5.mpr any) q))) (fun q => absurd rfl q))), f2, a, ze_stop ?_⟩
      rw [hst, if_neg e48, if_neg any]
      rfl
theorem zpd_1 {b : zW} (h : b.2.2.2.1 = 4 ∨ b.2.2.2.1 = 5 ∨ b.2.2.2.1 = 14) : zpd b = (b.1, b.2.2.2.1 :: b.2.1, b.2.2.1, 0, b.2.2.2.2) := by
  unfold zpd
  rw [if_neg (by omega), if_neg (by omega)]
theorem zpd_2 {b : zW} (h : b.2.2.2.1 = 0 ∨ b.2.2.2.1 = 2 ∨ b.2.2.2.1 = 3) : zpd b = (b.1, b.2.1, if b.2.2.2.1 = 0 then b.2.2.1 else b.2.2.2.1, 0, b.2.2.2.2) := by
  unfold zpd
  by_cases e : b.2.2.2.1 = 0
  · rw [if_pos e, if_pos e]
  · rw [if_neg e, if_neg e, if_pos (h.resolve_left e)]
theorem zz_termloop (hc : zCy s0 T) (ht0 : 0 ≤ t) (ht : t ≤ 5) (k : Nat) (l : Int) (st : List Int) {O : zO} {L w : Int} (hL0 : 0 ≤ L) : ∀ (n : Nat) (N : Int) (a : zW) (s : zS) (x1 : Int), zMw s0 t N a.1 (a.2.1, O) ln s → (T - N).toNat ≤ n → 0 ≤ N → N ≤ T → 0 ≤ a.1 → a.1 ≤ 60 → ((a.2.1.length : Nat) : Int) + L ≤ N → (a.2.2.1 = w ∧ a.2.2.2.1 = 0) → zOe s0 t T (fun p a => (2, k, p, a, l, st)) (fun p a => (2, k, p, a, l, st)) N a O O L ln (fun p b => ¬ zg_mu (zg_kind (s0 345) T p) ∧ b.2.2.1 = w ∧ b.2.2.2.1 = 0) (fun r s' => zA xm_c146 5 [344, x1] [] s (r, s')) := by
  have h4 := hc.2.2.2
  -- one turn, the rest given
  have one : ∀ (N : Int) (a : zW) (s : zS) (x1 : Int), zMw s0 t N a.1 (a.2.1, O) ln s → 0 ≤ N → N ≤ T → 0 ≤ a.1 → a.1 ≤ 60 → ((a.2.1.length : Nat) : Int) + L ≤ N → (a.2.2.1 = w ∧ a.2.2.2.1 = 0) → (∀ (N' : Int) (a' : zW) (s' : zS) (x' : Int), zMw s0 t N' a'.1 (a'.2.1, O) ln s' → N < N' → N' ≤ T → 0 ≤ a'.1 → a'.1 ≤ 60 → ((a'.2.1.length : Nat) : Int) + L ≤ N' → (a'.2.2.1 = w ∧ a'.2.2.2.1 = 0) → zOe s0 t T (fun p a => (2, k, p, a, l, st)) (fun p a => (2, k, p, a, l, st)) N' a' O O L ln (fun p b => ¬ zg_mu (zg_kind (s0 345) T p) ∧ b.2.2.1 = w ∧ b.2.2.2.1 = 0) (fun r s'' => zA xm_c146 5 [344, x'] [] s' (r, s''))) → zOe s0 t T (fun p a => (2, k, p, a, l, st)) (fun p a => (2, k, p, a, l, st)) N a O O L ln (fun p b => ¬ zg_mu (zg_kind (s0 345) T p) ∧ b.2.2.1 = w ∧ b.2.2.2.1 = 0) (fun r s' => zA xm_c146 5 [344, x1] [] s (r, s')) := by
    intro N a s x1 h hN hN4 hm hm6 hL haw ih
    have rl : N ≤ zg_sk (s0 345) T N ∧ (zg_sk (s0 345) T N ≤ T ∨ zg_sk (s0 345) T N = N) := zg_run_le
    obtain ⟨s1, u1, v1⟩ := zz_see hc _ (Nat.le_refl _) hN h
    obtain ⟨s1', u1', v1'⟩ := zz_see hc _ (Nat.le_refl _) (by omega) v1
    rw [zg_sk_sk] at u1' v1'
    obtain ⟨s1'', u1'', v1''⟩ := zz_see hc _ (Nat.le_refl _) (by omega) v1'
    rw [zg_sk_sk] at u1'' v1''
    generalize hpq : zg_sk (s0 345) T N = p at rl u1 v1 u1' v1' u1'' v1''
    have on : ∀ (x : Int) (s2 : zS), x = 4 ∨ x = 5 ∨ x = 14 → zMw s0 t p a.1 (a.2.1, O) ln s2 → p < T → zOe s0 t T (fun p a => (1, k, p, a, l, st)) (fun p a => (2, k, p, a, l, st)) (p + 1) (zet a x) O O L ln (fun p b => ¬ zg_mu (zg_kind (s0 345) T p) ∧ b.2.2.1 = w ∧ b.2.2.2.1 = 0) (fun r s' => ∃ y s3, zE xm_c145 [344, 0, 0] (zu s2 344 8 (zw (s2 344 8 + 1))) y s3 ∧ zA xm_c146 45 [344, x] [(false, y)] s3 (r, s')) := by
      intro x s2 hx h2 hlt
      rw [h2.1.1, zw_id (x := p + 1) (by omega) (by omega)]
      refine zOe_tr (zz_value hc ht0 ht k l st (a := zet a x) (L := L + 1) (h2.setN (N' := p + 1)) (by omega) (by omega) hm hm6 (by omega) (by show ((a.2.1.length : Nat) : Int) + (L + 1) ≤ p + 1; omega)) (fun f s' e e2 => ⟨s', ⟨0, s', e, zb_146_45 (fun _ => zb_146_46 rfl) (fun q => absurd rfl q)⟩, e2⟩) (fun N' b s' e h' g1 g2 g3 g4 g5 g6 => ?_)
      have g6 : b.2.2.1 = a.2.2.1 ∧ b.2.2.2.1 = x := g6
      have ep := zpd_1 (b := b) (by rw [g6.2]; exact hx)
      obtain ⟨s4, q1, q2⟩ := zz_puts h' ht0 ht (by show b.2.1.length < 400; omega) (x := x) (y := 0) (c := b.2.2.2.1) (by rw [g6.2]; rcases hx with z | z | z <;> rw [z] <;> decide)
      have q3 : zMw s0 t N' (zpd b).1 ((zpd b).2.1, O) ln s4 := by rw [ep]; exact q2
      refine zOe_map (a := b) (a1 := zpd b) (N' := N') (ih N' (zpd b) s4 x q3 (by omega) g2 (by rw [ep]; exact g3) (by rw [ep]; exact g4) (by rw [ep]; show ((b.2.1.length + 1 : Nat) : Int) + L ≤ N'; omega) (by rw [ep]; exact ⟨g6.1.trans haw.1, rfl⟩)) (Int.le_refl _) (zpd_m (a := b)).2.1 ze_refl (fun r s'' z => ⟨1, s', e, zb_146_45 (fun q => absurd q (by decide)) (fun _ => zb_146_48 q1 (zb_146_52 z))⟩)
    have astep : ∀ v, v = 42 ∨ v = 47 ∨ v = 37 → zg_c (s0 345) T p = v → p < T ∧ s0 345 p = v ∧ ze_to (s0 345) T (2, k, p, a, l, st) (1, k, zg_sk (s0 345) T (p + 1), zet a (zao v), l, st) := by
      intro v hv hcv
      have e := (zg_cv (v := v) hc.1 hc.2.2.2 (by omega) (by omega) (by omega)).mp hcv
      have kk := zg_kc (b := s0 345) (T := T) (p := p) (v := v) (by omega) (by omega) (by omega)
      have kv := kk.1.mpr hcv
      refine ⟨e.1, e.2, ze_one ?_⟩
      refine ze_2.trans ?_
      rw [if_pos (by rw [kv]; unfold zg_mu; omega), kv]
      unfold zg_nx
      rw [kk.2 hcv, if_pos e.1]
    have byte : ∀ (s2 : zS), zMw s0 t p a.1 (a.2.1, O) ln s2 → s2 (344 + 1) (s2 344 8) = s0 345 p := by
      intro s2 h2
      rw [h2.1.1, show (344 : Int) + 1 = 345 from rfl, h2.by_]
    by_cases e42 : zg_c (s0 345) T p = 42
    · obtain ⟨a1, a2, a3⟩ := astep 42 (by omega) e42
      refine zOe_map (on 4 s1 (by omega) v1 a1) (by omega) rfl (by rw [hpq]; exact a3) (fun r s' z => ?_)
      obtain ⟨y, s3, z1, z2⟩ := z
      exact zb_146_5 u1 (zb_146_7 (fun _ => zb_146_17 (fun _ => zb_146_24 z1 z2) (fun q => absurd (by rw [byte s1 v1]; exact a2) q)) (fun q => absurd e42 q))
    · by_cases e47 : zg_c (s0 345) T p = 47
      · obtain ⟨a1, a2, a3⟩ := astep 47 (by omega) e47
        refine zOe_map (on 5 s1' (by omega) v1' a1) (by omega) rfl (by rw [hpq]; exact a3) (fun r s' z => ?_)
        obtain ⟨y, s3, z1, z2⟩ := z
        exact zb_146_5 u1 (zb_146_7 (fun q => absurd q e42) (fun _ => zb_146_9 u1' (zb_146_11 (fun _ => zb_146_17 (fun q => absurd q (by rw [byte s1' v1']; omega)) (fun _ => zb_146_26 (fun _ => zb_146_33 z1 z2) (fun q => absurd (by rw [byte s1' v1']; exact a2) q))) (fun q => absurd e47 q))))
      · by_cases e37 : zg_c (s0 345) T p = 37
        · obtain ⟨a1, a2, a3⟩ := astep 37 (by omega) e37
          refine zOe_map (on 14 s1'' (by omega) v1'' a1) (by omega) rfl (by rw [hpq]; exact a3) (fun r s' z => ?_)
          obtain ⟨y, s3, z1, z2⟩ := z
          exact zb_146_5 u1 (zb_146_7 (fun q => absurd q e42) (fun _ => zb_146_9 u1' (zb_146_11 (fun q => absurd q e47) (fun _ => zb_146_13 u1'' (zb_146_15 (fun _ => zb_146_17 (fun q => absurd q (by rw [byte s1'' v1'']; omega)) (fun _ => zb_146_26 (fun q => absurd q (by rw [byte s1'' v1'']; omega)) (fun _ => zb_146_35 z1 z2))) (fun q => absurd e37 q))))))
        · have k42 := zg_kc (b := s0 345) (T := T) (p := p) (v := 42) (by omega) (by omega) (by omega)
          have k47 := zg_kc (b := s0 345) (T := T) (p := p) (v := 47) (by omega) (by omega) (by omega)
          have k37 := zg_kc (b := s0 345) (T := T) (p := p) (v := 37) (by omega) (by omega) (by omega)
          have hpp : zg_sk (s0 345) T p = p := by rw [← hpq, zg_sk_sk]
          refine Or.inl ⟨p, a, s1'', zb_146_5 u1 (zb_146_7 (fun q => absurd q e42) (fun _ => zb_146_9 u1' (zb_146_11 (fun q => absurd q e47) (fun _ => zb_146_13 u1'' (zb_146_15 (fun q => absurd q e37) (fun _ => zb_146_53 rfl)))))), v1'', by omega, ⟨by omega, rfl⟩, ?_, ?_, haw⟩
          · rw [hpp, hpq]
            exact ze_refl
          · rw [hpp]
            rintro (z | z | z)
            · exact e42 (k42.1.mp z)
            · exact e47 (k47.1.mp z)
            · exact e37 (k37.1.mp z)
  intro n
  induction n with
  | zero =>
    intro N a s x1 h hn hN hN4 hm hm6 hL haw
    exact one N a s x1 h hN hN4 hm hm6 hL haw (fun N' a' s' x' h' g1 g2 _ _ _ _ => by omega)
  | succ n ih =>
    intro N a s x1 h hn hN hN4 hm hm6 hL haw
    exact one N a s x1 h hN hN4 hm hm6 hL haw (fun N' a' s' x' h' g1 g2 g3 g4 g5 g6 => ih N' a' s' x' h' (by omega) (by omega) g2 g3 g4 g5 g6)
theorem zz_term (hc : zCy s0 T) (ht0 : 0 ≤ t) (ht : t ≤ 5) (k : Nat) (l : Int) (st : List Int) {a : zW} {O : zO} {L : Int} (h : zMw s0 t N a.1 (a.2.1, O) ln s) (hN : 0 ≤ N) (hN4 : N ≤ T) (hm : 0 ≤ a.1) (hm6 : a.1 ≤ 60) (hL0 : 0 ≤ L) (hL : ((a.2.1.length : Nat) : Int) + L ≤ N) (hat : a.2.2.2.1 = 0 ∨ a.2.2.2.1 = 2 ∨ a.2.2.2.1 = 3) : zOe s0 t T (fun p a => (1, k, p, a, l, st)) (fun p a => (2, k, p, a, l, st)) N a O O L ln (fun p b => ¬ zg_mu (zg_kind (s0 345) T p) ∧ b.2.2.1 = (if a.2.2.2.1 = 0 then a.2.2.1 else a.2.2.2.1) ∧ b.2.2.2.1 = 0) (fun r s' => zE xm_c146 [344, 0] s r s') := by
  refine zOe_tr (zz_value hc ht0 ht k l st h hN hN4 hm hm6 hL0 hL) (fun f s' e e2 => ⟨s', zb_146_0 e (zb_146_2 (fun _ => zb_146_3 rfl) (fun q => absurd rfl q)), e2⟩) (fun N' b s' e h' g1 g2 g3 g4 g5 g6 => ?_)
  have g6 : b.2.2.1 = a.2.2.1 ∧ b.2.2.2.1 = a.2.2.2.1 := g6
  have ep := zpd_2 (b := b) (by rw [g6.2]; exact hat)
  rw [g6.1, g6.2] at ep
  have q3 : zMw s0 t N' (zpd b).1 ((zpd b).2.1, O) ln s' := by rw [ep]; exact h'
  exact zOe_map (a := b) (a1 := zpd b) (N' := N') (zz_termloop hc ht0 ht k l st hL0 (w := if a.2.2.2.1 = 0 then a.2.2.1 else a.2.2.2.1) _ N' (zpd b) s' 0 q3 (Nat.le_refl _) (by omega) g2 (by rw [ep]; exact g3) (by rw [ep]; exact g4) (by rw [ep]; exact g5) (by rw [ep]; exact ⟨rfl, rfl⟩)) (Int.le_refl _) (zpd_m (a := b)).2.1 ze_refl (fun r s'' z => zb_146_0 e (zb_146_2 (fun q => absurd q (by decide)) (fun _ => z)))
theorem zz_sumloop (hc : zCy s0 T) (ht0 : 0 ≤ t) (ht : t ≤ 5) (k : Nat) (l : Int) (st : List Int) {O : zO} {L : Int} (hL0 : 0 ≤ L) : ∀ (n : Nat) (N : Int) (a : zW) (s : zS) (x1 : Int), zMw s0 t N a.1 ((zef a).2.1, O) ln s → (T - N).toNat ≤ n → 0 ≤ N → N ≤ T → 0 ≤ a.1 → a.1 ≤ 60 → (((zef a).2.1.length : Nat) : Int) + L ≤ N → a.2.2.2.1 = 0 → ¬ zg_mu (zg_kind (s0 345) T (zg_sk (s0 345) T N)) → zOe s0 t T (fun p a => (2, k, p, a, l, st)) (fun p a => (3, k, p, a, l, st)) N a O O L ln (fun _ b => b.2.2.1 = 0 ∧ b.2.2.2.1 = 0) (fun r s' => zA xm_c147 5 [344, x1] [] s (r, s')) := by
  have h4 := hc.2.2.2
  have one : ∀ (N : Int) (a : zW) (s : zS) (x1 : Int), zMw s0 t N a.1 ((zef a).2.1, O) ln s → 0 ≤ N → N ≤ T → 0 ≤ a.1 → a.1 ≤ 60 → (((zef a).2.1.length : Nat) : Int) + L ≤ N → a.2.2.2.1 = 0 → ¬ zg_mu (zg_kind (s0 345) T (zg_sk (s0 345) T N)) → (∀ (N' : Int) (a' : zW) (s' : zS) (x' : Int), zMw s0 t N' a'.1 ((zef a').2.1, O) ln s' → N < N' → N' ≤ T → 0 ≤ a'.1 → a'.1 ≤ 60 → (((zef a').2.1.length : Nat) : Int) + L ≤ N' → a'.2.2.2.1 = 0 → ¬ zg_mu (zg_kind (s0 345) T (zg_sk (s0 345) T N')) → zOe s0 t T (fun p a => (2, k, p, a, l, st)) (fun p a => (3, k, p, a, l, st)) N' a' O O L ln (fun _ b => b.2.2.1 = 0 ∧ b.2.2.2.1 = 0) (fun r s'' => zA xm_c147 5 [344, x'] [] s' (r, s''))) → zOe s0 t T (fun p a => (2, k, p, a, l, st)) (fun p a => (3, k, p, a, l, st)) N a O O L ln (fun _ b => b.2.2.1 = 0 ∧ b.2.2.2.1 = 0) (fun r s' => zA xm_c147 5 [344, x1] [] s (r, s')) := by
    intro N a s x1 h hN hN4 hm hm6 hL hat hno ih
    have rl : N ≤ zg_sk (s0 345) T N ∧ (zg_sk (s0 345) T N ≤ T ∨ zg_sk (s0 345) T N = N) := zg_run_le
    obtain ⟨f1, f2, f3, f4⟩ := zef_m (a := a)
    obtain ⟨s1, u1, v1⟩ := zz_see hc _ (Nat.le_refl _) hN h
    obtain ⟨s1', u1', v1'⟩ := zz_see hc _ (Nat.le_refl _) (by omega) v1
    rw [zg_sk_sk] at u1' v1'
    generalize hpq : zg_sk (s0 345) T N = p at rl u1 v1 u1' v1' hno
    have on : ∀ (x : Int) (s2 : zS), x = 2 ∨ x = 3 → zMw s0 t p a.1 ((zef a).2.1, O) ln s2 → p < T → zOe s0 t T (fun p a => (1, k, p, a, l, st)) (fun p a => (3, k, p, a, l, st)) (p + 1) (zet (zef a) x) O O L ln (fun _ b => b.2.2.1 = 0 ∧ b.2.2.2.1 = 0) (fun r s' => ∃ y s3, zE xm_c146 [344, 0] (zu s2 344 8 (zw (s2 344 8 + 1))) y s3 ∧ zA xm_c147 32 [344, x] [(false, y)] s3 (r, s')) := by
      intro x s2 hx h2 hlt
      rw [h2.1.1, zw_id (x := p + 1) (by omega) (by omega)]
      have h3 : zMw s0 t (p + 1) (zet (zef a) x).1 ((zet (zef a) x).2.1, O) ln (zu s2 344 8 (p + 1)) := by
        show zMw s0 t (p + 1) (zef a).1 ((zef a).2.1, O) ln _
        rw [f1]
        exact h2.setN
      refine zOe_tr (zz_term hc ht0 ht k l st (a := zet (zef a) x) (L := L + 1) h3 (by omega) (by omega) (by show 0 ≤ (zef a).1; rw [f1]; exact hm) (by show (zef a).1 ≤ 60; rw [f1]; exact hm6) (by omega) (by show (((zef a).2.1.length : Nat) : Int) + (L + 1) ≤ p + 1; omega) (by show x = 0 ∨ x = 2 ∨ x = 3; omega)) (fun f s' e e2 => ⟨s', ⟨0, s', e, zb_147_32 (fun _ => zb_147_33 rfl) (fun q => absurd rfl q)⟩, e2⟩) (fun N' b s' e h' g1 g2 g3 g4 g5 g6 => ?_)
      have g7 : b.2.2.1 = x := by
        have := g6.2.1
        have e1 : (if (zet (zef a) x).2.2.2.1 = 0 then (zet (zef a) x).2.2.1 else (zet (zef a) x).2.2.2.1) = x := if_neg (by show ¬ x = 0; omega)
        rw [e1] at this
        exact this
      have eb : (zef b).2.1 = x :: b.2.1 := by
        unfold zef
        rw [if_neg (by omega), g7]
      obtain ⟨s4, q1, q2⟩ := zz_puts h' ht0 ht (by show b.2.1.length < 400; omega) (x := x) (y := 0) (c := x) (by rcases hx with z | z <;> rw [z] <;> decide)
      have q3 : zMw s0 t N' b.1 ((zef b).2.1, O) ln s4 := by rw [eb]; exact q2
      exact zOe_map (a := b) (a1 := b) (N' := N') (ih N' b s4 x q3 (by omega) g2 g3 g4 (by rw [eb]; show ((b.2.1.length + 1 : Nat) : Int) + L ≤ N'; omega) g6.2.2 g6.1) (Int.le_refl _) rfl ze_refl (fun r s'' z => ⟨1, s', e, zb_147_32 (fun q => absurd q (by decide)) (fun _ => zb_147_35 q1 (zb_147_39 z))⟩)
    have astep : ∀ v, v = 43 ∨ v = 45 → zg_c (s0 345) T p = v → p < T ∧ s0 345 p = v ∧ ze_to (s0 345) T (2, k, p, a, l, st) (1, k, zg_sk (s0 345) T (p + 1), zet (zef a) (zao v), l, st) := by
      intro v hv hcv
      have e := (zg_cv (v := v) hc.1 hc.2.2.2 (by omega) (by omega) (by omega)).mp hcv
      have kk := zg_kc (b := s0 345) (T := T) (p := p) (v := v) (by omega) (by omega) (by omega)
      have kv := kk.1.mpr hcv
      refine ⟨e.1, e.2, ze_one ?_⟩
      refine ze_2.trans ?_
      rw [if_neg hno, if_pos (by rw [kv]; unfold zg_pm; omega), kv]
      unfold zg_nx
      rw [kk.2 hcv, if_pos e.1]
    have byte : ∀ (s2 : zS), zMw s0 t p a.1 ((zef a).2.1, O) ln s2 → s2 (344 + 1) (s2 344 8) = s0 345 p := by
      intro s2 h2
      rw [h2.1.1, show (344 : Int) + 1 = 345 from rfl, h2.by_]
    by_cases e43 : zg_c (s0 345) T p = 43
    · obtain ⟨a1, a2, a3⟩ := astep 43 (by omega) e43
      refine zOe_map (on 2 s1 (by omega) v1 a1) (by omega) f2 (by rw [hpq]; exact a3) (fun r s' z => ?_)
      obtain ⟨y, s3, z1, z2⟩ := z
      exact zb_147_5 u1 (zb_147_7 (fun _ => zb_147_13 (fun _ => zb_147_20 z1 z2) (fun q => absurd (by rw [byte s1 v1]; exact a2) q)) (fun q => absurd e43 q))
    · by_cases e45 : zg_c (s0 345) T p = 45
      · obtain ⟨a1, a2, a3⟩ := astep 45 (by omega) e45
        refine zOe_map (on 3 s1' (by omega) v1' a1) (by omega) f2 (by rw [hpq]; exact a3) (fun r s' z => ?_)
        obtain ⟨y, s3, z1, z2⟩ := z
        exact zb_147_5 u1 (zb_147_7 (fun q => absurd q e43) (fun _ => zb_147_9 u1' (zb_147_11 (fun _ => zb_147_13 (fun q => absurd q (by rw [byte s1' v1']; omega)) (fun _ => zb_147_22 z1 z2)) (fun q => absurd e45 q))))
      · have k43 := zg_kc (b := s0 345) (T := T) (p := p) (v := 43) (by omega) (by omega) (by omega)
        have k45 := zg_kc (b := s0 345) (T := T) (p := p) (v := 45) (by omega) (by omega) (by omega)
        have hpp : zg_sk (s0 345) T p = p := by rw [← hpq, zg_sk_sk]
        have v2 : zMw s0 t p (zef a).1 ((zef a).2.1, O) ln s1' := by rw [f1]; exact v1'
        refine Or.inl ⟨p, zef a, s1', zb_147_5 u1 (zb_147_7 (fun q => absurd q e43) (fun _ => zb_147_9 u1' (zb_147_11 (fun q => absurd q e45) (fun _ => zb_147_40 rfl)))), v2, by rw [f1]; omega, ⟨by omega, f2⟩, ?_, f4, f3.trans hat⟩
        rw [hpp, hpq]
        refine ze_one ?_
        refine ze_2.trans ?_
        rw [if_neg hno, if_neg (fun z => ?_)]
        rcases z with z | z
        · exact e43 (k43.1.mp z)
        · exact e45 (k45.1.mp z)
  intro n
  induction n with
  | zero =>
    intro N a s x1 h hn hN hN4 hm hm6 hL hat hno
    exact one N a s x1 h hN hN4 hm hm6 hL hat hno (fun N' a' s' x' h' g1 g2 _ _ _ _ _ => by omega)
  | succ n ih =>
    intro N a s x1 h hn hN hN4 hm hm6 hL hat hno
    exact one N a s x1 h hN hN4 hm hm6 hL hat hno (fun N' a' s' x' h' g1 g2 g3 g4 g5 g6 g7 => ih N' a' s' x' h' (by omega) (by omega) g2 g3 g4 g5 g6 g7)
theorem zz_sum (hc : zCy s0 T) (ht0 : 0 ≤ t) (ht : t ≤ 5) (k : Nat) (l : Int) (st : List Int) {a : zW} {O : zO} {L : Int} (h : zMw s0 t N a.1 (a.2.1, O) ln s) (hN : 0 ≤ N) (hN4 : N ≤ T) (hm : 0 ≤ a.1) (hm6 : a.1 ≤ 60) (hL0 : 0 ≤ L) (hL : ((a.2.1.length : Nat) : Int) + L ≤ N) (hw : a.2.2.1 = 0 ∧ a.2.2.2.1 = 0) : zOe s0 t T (fun p a => (1, k, p, a, l, st)) (fun p a => (3, k, p, a, l, st)) N a O O L ln (fun _ b => b.2.2.1 = 0 ∧ b.2.2.2.1 = 0) (fun r s' => zE xm_c147 [344, 0] s r s') := by
  refine zOe_tr (zz_term hc ht0 ht k l st h hN hN4 hm hm6 hL0 hL (Or.inl hw.2)) (fun f s' e e2 => ⟨s', zb_147_0 e (zb_147_2 (fun _ => zb_147_3 rfl) (fun q => absurd rfl q)), e2⟩) (fun N' b s' e h' g1 g2 g3 g4 g5 g6 => ?_)
  have g7 : b.2.2.1 = 0 := by
    have := g6.2.1
    rw [if_pos hw.2] at this
    exact this.trans hw.1
  have eb : zef b = b := if_pos g7
  have q3 : zMw s0 t N' b.1 ((zef b).2.1, O) ln s' := by rw [eb]; exact h'
  exact zOe_map (a := b) (a1 := b) (N' := N') (zz_sumloop hc ht0 ht k l st hL0 _ N' b s' 0 q3 (Nat.le_refl _) (by omega) g2 g3 g4 (by rw [eb]; exact g5) g6.2.2 g6.1) (Int.le_refl _) rfl ze_refl (fun r s'' z => zb_147_0 e (zb_147_2 (fun q => absurd q (by decide)) (fun _ => z)))
end XD
