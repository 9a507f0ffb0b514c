/-! the reference's reading: isWord, wordHere, numberHere -/
theorem zsg_0 {x y : Int} : zsg x y = 0 ↔ x = y := by
  unfold zsg
  by_cases e : x < y
  · rw [if_pos e]
    omega
  · rw [if_neg e]
    by_cases e2 : x = y
    · rw [if_pos e2]
      omega
    · rw [if_neg e2]
      omega
theorem zsg_lt {x y : Int} : zsg x y < 0 ↔ x < y := by
  unfold zsg
  by_cases e : x < y
  · rw [if_pos e]
    omega
  · rw [if_neg e]
    by_cases e2 : x = y
    · rw [if_pos e2]
      omega
    · rw [if_neg e2]
      omega
theorem zsg_gt {x y : Int} : 0 < zsg x y ↔ y < x := by
  unfold zsg
  by_cases e : x < y
  · rw [if_pos e]
    omega
  · rw [if_neg e]
    by_cases e2 : x = y
    · rw [if_pos e2]
      omega
    · rw [if_neg e2]
      omega
theorem zg_sk_sk {b : Int → Int} {T N : Int} : zg_sk b T (zg_sk b T N) = zg_sk b T N := zg_run_n (zg_run_end _ N (Nat.le_refl _))
theorem zg_kl {b : Int → Int} {T p : Int} (hb : zg_by b) (hT : T ≤ 400) (hp : 0 ≤ p) : (zg_kind b T p = 97 ↔ (p < T ∧ 97 ≤ b p ∧ b p ≤ 122)) ∧ (zg_kind b T p = 97 → zg_te b T p = zg_run b T 97 122 p) ∧ (zg_kind b T p = 48 ↔ (p < T ∧ 48 ≤ b p ∧ b p ≤ 57)) ∧ (zg_kind b T p = 48 → zg_te b T p = zg_run b T 48 57 p) := by
  have c := zg_cb hb hT hp
  unfold zg_kind zg_te
  by_cases e1 : 97 ≤ zg_c b T p ∧ zg_c b T p ≤ 122
  · rw [if_pos e1, if_pos e1]
    exact ⟨⟨fun _ => by omega, fun _ => rfl⟩, fun _ => rfl, ⟨fun q => absurd q (by decide), fun q => by omega⟩, fun q => absurd q (by decide)⟩
  · rw [if_neg e1, if_neg e1]
    by_cases e2 : 48 ≤ zg_c b T p ∧ zg_c b T p ≤ 57
    · rw [if_pos e2, if_pos e2]
      exact ⟨⟨fun q => absurd q (by decide), fun q => by omega⟩, fun q => absurd q (by decide), ⟨fun _ => by omega, fun _ => rfl⟩, fun _ => rfl⟩
    · rw [if_neg e2, if_neg e2]
      by_cases e3 : (p + 1 < T ∧ b (p + 1) = 61) ∧ (zg_c b T p = 60 ∨ zg_c b T p = 62)
      · rw [if_pos e3, if_pos e3]
        by_cases e4 : zg_c b T p = 60
        · rw [if_pos e4]
          exact ⟨⟨fun q => absurd q (by decide), fun q => by omega⟩, fun q => absurd q (by decide), ⟨fun q => absurd q (by decide), fun q => by omega⟩, fun q => absurd q (by decide)⟩
        · rw [if_neg e4]
          exact ⟨⟨fun q => absurd q (by decide), fun q => by omega⟩, fun q => absurd q (by decide), ⟨fun q => absurd q (by decide), fun q => by omega⟩, fun q => absurd q (by decide)⟩
      · rw [if_neg e3, if_neg e3]
        exact ⟨⟨fun q => by omega, fun q => by omega⟩, fun q => by omega, ⟨fun q => by omega, fun q => by omega⟩, fun q => by omega⟩
/-- the value of the digits from p on -/
def zval (b : Int → Int) (p : Int) : Nat → Int
  | 0 => 0
  | n + 1 => 10 * zval b p n + b (p + ((n : Nat) : Int)) - 48
theorem zval_b {b : Int → Int} {p : Int} : ∀ (n : Nat), n ≤ 5 → (∀ i : Nat, i < n → 48 ≤ b (p + ((i : Nat) : Int)) ∧ b (p + ((i : Nat) : Int)) ≤ 57) → 0 ≤ zval b p n ∧ zval b p n < 10 ^ n
  | 0, _, _ => ⟨Int.le_refl _, by show (0 : Int) < 1; decide⟩
  | n + 1, h5, h => by
    obtain ⟨i1, i2⟩ := zval_b n (by omega) (fun i hi => h i (by omega))
    have := h n (by omega)
    show 0 ≤ 10 * zval b p n + b (p + ((n : Nat) : Int)) - 48 ∧ 10 * zval b p n + b (p + ((n : Nat) : Int)) - 48 < 10 ^ (n + 1)
    rw [Int.pow_succ]
    omega
theorem zlt_b {b : Int → Int} {p : Int} : ∀ (n : Nat), (∀ i : Nat, i < n → 97 ≤ b (p + ((i : Nat) : Int)) ∧ b (p + ((i : Nat) : Int)) ≤ 122) → 0 ≤ zenc (zlt_ b p n) ∧ zenc (zlt_ b p n) < 256 ^ n
  | 0, _ => ⟨Int.le_refl _, by show (0 : Int) < 1; decide⟩
  | n + 1, h => by
    obtain ⟨i1, i2⟩ := zlt_b n (fun i hi => h i (by omega))
    have := h n (by omega)
    show 0 ≤ 256 * zenc (zlt_ b p n) + b (p + ((n : Nat) : Int)) ∧ 256 * zenc (zlt_ b p n) + b (p + ((n : Nat) : Int)) < 256 ^ (n + 1)
    rw [Int.pow_succ]
    omega
theorem zlt_len {b : Int → Int} {p : Int} : ∀ (n : Nat), (zlt_ b p n).length = n
  | 0 => rfl
  | n + 1 => by
    show (zlt_ b p n).length + 1 = n + 1
    rw [zlt_len n]
theorem zlt_all {b : Int → Int} {p : Int} : ∀ (n : Nat), (∀ i : Nat, i < n → 97 ≤ b (p + ((i : Nat) : Int)) ∧ b (p + ((i : Nat) : Int)) ≤ 122) → ∀ c ∈ zlt_ b p n, 1 ≤ c ∧ c ≤ 255
  | 0, _, c, hc => by cases hc
  | n + 1, h, c, hc => by
    have hc : c ∈ b (p + ((n : Nat) : Int)) :: zlt_ b p n := hc
    rcases List.mem_cons.mp hc with rfl | hc
    · have := h n (by omega)
      omega
    · exact zlt_all n (fun i hi => h i (by omega)) c hc
section RC
variable {s0 s : zS} {t T N m ln : Int} {O : zO}
theorem zr_w7 (hc : zCy s0 T) {p w x2 x4 : Int} (h : zRs s0 t p m O ln s) (hp : 0 ≤ p) (hp4 : p ≤ T) {r : Int} (hr : ∀ n : Nat, p + ((n : Nat) : Int) = zg_run (s0 345) T 97 122 p → r = if 0 < n ∧ n < 8 ∧ zenc (zlt_ (s0 345) p n) = w then 1 else 0) : ∀ (k n : Nat) (v : Int), (T - (p + ((n : Nat) : Int))).toNat ≤ k → p + ((n : Nat) : Int) ≤ T → zg_run (s0 345) T 97 122 (p + ((n : Nat) : Int)) = zg_run (s0 345) T 97 122 p → (n ≤ 7 → v = zenc (zlt_ (s0 345) p n)) → zA xm_c135 7 [344, w, x2, v, x4, ((n : Nat) : Int)] [] s (r, s) := by
  have e8 := h.1.1
  have e9 := h.by_
  have h4 := hc.2.2.2
  have fin : ∀ (n : Nat) (v : Int), p + ((n : Nat) : Int) = zg_run (s0 345) T 97 122 p → (n ≤ 7 → v = zenc (zlt_ (s0 345) p n)) → zA xm_c135 32 [344, w, x2, v, x4, ((n : Nat) : Int)] [] s (r, s) := by
    intro n v hn hv
    have hr := hr n hn
    refine zb_135_32 (fun q1 => zb_135_34 (fun q2 => zb_135_37 (fun q3 => zb_135_41 ?_) (fun q3 => zb_135_43 ?_)) (fun q2 => zb_135_43 ?_)) (fun q1 => zb_135_43 ?_)
    · have := zsg_0.mp q3
      rw [hr, if_pos ⟨by omega, by omega, by rw [← hv (by omega)]; exact this⟩]
    · rw [hr, if_neg (fun z => q3 (zsg_0.mpr (by rw [hv (by omega)]; exact z.2.2)))]
    · rw [hr, if_neg (fun z => by omega)]
    · rw [hr, if_neg (fun z => by omega)]
  intro k
  induction k with
  | zero =>
    intro n v hk hn he hv
    have hl := zr_letter hc h (x := p + ((n : Nat) : Int))
    rw [if_neg (by omega)] at hl
    rw [zg_run_n (fun z => by omega)] at he
    refine zb_135_7 (r := 0) ?_ (zb_135_13 (fun _ => fin n v he hv) (fun q => absurd rfl q))
    rw [e8, zw_id (by omega) (by omega)]
    exact hl
  | succ k ih =>
    intro n v hk hn he hv
    have hl := zr_letter hc h (x := p + ((n : Nat) : Int))
    by_cases c : p + ((n : Nat) : Int) < T ∧ 97 ≤ s0 345 (p + ((n : Nat) : Int)) ∧ s0 345 (p + ((n : Nat) : Int)) ≤ 122
    · rw [if_pos c] at hl
      rw [zg_run_y c] at he
      have hz : zw (((n : Nat) : Int) + 1) = ((n + 1 : Nat) : Int) := zw_id (by omega) (by omega)
      have e1 : p + ((n + 1 : Nat) : Int) = p + ((n : Nat) : Int) + 1 := by omega
      refine zb_135_7 (r := 1) (by rw [e8, zw_id (by omega) (by omega)]; exact hl) (zb_135_13 (fun q => absurd q (by decide)) (fun _ => zb_135_14 (fun q => zb_135_17 ?_) (fun q => zb_135_30 ?_)))
      · rw [hz]
        refine ih (n + 1) _ (by omega) (by omega) (by rw [e1]; exact he) (fun h7 => ?_)
        have hin : ∀ i : Nat, i < n → 97 ≤ s0 345 (p + ((i : Nat) : Int)) ∧ s0 345 (p + ((i : Nat) : Int)) ≤ 122 := by
          intro i hi
          have := zg_run_in (b := s0 345) (T := T) (lo := 97) (hi := 122) (p := p) (i := p + ((i : Nat) : Int)) (by omega) (by
            have := (zg_run_le (b := s0 345) (T := T) (lo := 97) (hi := 122) (p := p + ((n : Nat) : Int) + 1)).1
            omega)
          exact this.2
        have hb := zlt_b n hin
        have hpow : (256 : Int) ^ n ≤ 281474976710656 := by
          have : n ≤ 6 := by omega
          rcases (show n = 0 ∨ n = 1 ∨ n = 2 ∨ n = 3 ∨ n = 4 ∨ n = 5 ∨ n = 6 by omega) with rfl | rfl | rfl | rfl | rfl | rfl | rfl <;> decide
        rw [hv (by omega), e8, show (344 : Int) + 1 = 345 from rfl, e9, zw_id (x := p + ((n : Nat) : Int)) (by omega) (by omega), zq_byte hb.1 (by omega) (by omega) (by omega)]
        rfl
      · rw [hz]
        exact ih (n + 1) v (by omega) (by omega) (by rw [e1]; exact he) (fun h7 => by omega)
    · rw [if_neg c] at hl
      rw [zg_run_n c] at he
      refine zb_135_7 (r := 0) ?_ (zb_135_13 (fun _ => fin n v he hv) (fun q => absurd rfl q))
      rw [e8, zw_id (by omega) (by omega)]
      exact hl
theorem zr_isword (hc : zCy s0 T) (h : zRs s0 t N m O ln s) (hN : 0 ≤ N) (hN4 : N ≤ T) {w : Int} (W : List Int) (hw : w = zenc W.reverse) (hW : ∀ c ∈ W, 1 ≤ c ∧ c ≤ 255) (hl : W.length ≤ 7) (hl1 : W ≠ []) : ∃ s', zE xm_c135 [344, w, 0, 0, 0, 0] s (if zg_is (s0 345) T (zg_sk (s0 345) T N) W then 1 else 0) s' ∧ zRs s0 t (zg_sk (s0 345) T N) m O ln s' := by
  obtain ⟨s', u1, u2⟩ := zr_see hc _ (Nat.le_refl _) hN h
  have rl := zg_run_le (b := s0 345) (T := T) (lo := 32) (hi := 32) (p := N)
  have rl : N ≤ zg_sk (s0 345) T N ∧ (zg_sk (s0 345) T N ≤ T ∨ zg_sk (s0 345) T N = N) := rl
  generalize hp : zg_sk (s0 345) T N = p at u1 u2 rl ⊢
  have hk := zg_kl (b := s0 345) (T := T) (p := p) hc.1 hc.2.2.2 (by omega)
  have h4 := hc.2.2.2
  refine ⟨s', zb_135_0 u1 (zb_135_2 (zr_w7 hc u2 (by omega) (by omega) (fun n hn => ?_) _ 0 0 (Nat.le_refl _) (by omega) (by rw [show p + ((0 : Nat) : Int) = p by omega]) (fun _ => rfl))), u2⟩
  have hin : ∀ i : Nat, i < n → 97 ≤ s0 345 (p + ((i : Nat) : Int)) ∧ s0 345 (p + ((i : Nat) : Int)) ≤ 122 := fun i hi => (zg_run_in (b := s0 345) (T := T) (lo := 97) (hi := 122) (p := p) (i := p + ((i : Nat) : Int)) (by omega) (by omega)).2
  have key : zg_is (s0 345) T p W ↔ (0 < n ∧ n < 8 ∧ zenc (zlt_ (s0 345) p n) = w) := by
    constructor
    · intro z
      have hte := hk.2.1 z.1
      have z2 := z.2
      rw [hte, ← hn] at z2
      have hlen := congrArg List.length z2
      rw [zg_wlen, show (p + ((n : Nat) : Int) - p).toNat = n by omega] at hlen
      have hpos : 0 < W.length := List.length_pos_iff.mpr hl1
      refine ⟨by omega, by omega, ?_⟩
      rw [zlt_w, z2, hw]
    · rintro ⟨z1, z2, z3⟩
      have hkk := hk.1.mpr (by
        have := zg_run_in (b := s0 345) (T := T) (lo := 97) (hi := 122) (p := p) (i := p) (by omega) (by omega)
        exact this)
      refine ⟨hkk, ?_⟩
      rw [hk.2.1 hkk, ← hn]
      have := zenc_inj (zlt_all n hin) (fun c hc => hW c (List.mem_reverse.mp hc)) (z3.trans hw)
      rw [zlt_w] at this
      exact List.reverse_inj.mp this
  by_cases e : zg_is (s0 345) T p W
  · rw [if_pos e, if_pos (key.mp e)]
  · rw [if_neg e, if_neg (fun z => e (key.mpr z))]
theorem zr_takes (hc : zCy s0 T) (h : zRs s0 t N m O ln s) (hN : 0 ≤ N) (hN4 : N ≤ T) {w : Int} (W : List Int) (hw : w = zenc W.reverse) (hW : ∀ c ∈ W, 1 ≤ c ∧ c ≤ 255) (hl : W.length ≤ 7) (hl1 : W ≠ []) : (zg_is (s0 345) T (zg_sk (s0 345) T N) W ∧ ∃ s', zE xm_c137 [344, w, 0] s 1 s' ∧ zRs s0 t (zg_te (s0 345) T (zg_sk (s0 345) T N)) m O ln s') ∨ (¬ zg_is (s0 345) T (zg_sk (s0 345) T N) W ∧ ∃ s', zE xm_c137 [344, w, 0] s 0 s' ∧ zRs s0 t (zg_sk (s0 345) T N) m O ln s') := by
  obtain ⟨s', u1, u2⟩ := zr_isword hc h hN hN4 W hw hW hl hl1
  have rl : N ≤ zg_sk (s0 345) T N ∧ (zg_sk (s0 345) T N ≤ T ∨ zg_sk (s0 345) T N = N) := zg_run_le
  by_cases e : zg_is (s0 345) T (zg_sk (s0 345) T N) W
  · rw [if_pos e] at u1
    obtain ⟨s2, v1, v2⟩ := zr_pass hc _ (Nat.le_refl _) (by omega) u2
    rw [← (zg_kl hc.1 hc.2.2.2 (by omega)).2.1 e.1] at v2
    exact Or.inl ⟨e, s2, zb_137_0 u1 (zb_137_3 (fun q => absurd q (by decide)) (fun _ => zb_137_6 v1 (zb_137_8 rfl))), v2⟩
  · rw [if_neg e] at u1
    exact Or.inr ⟨e, s', zb_137_0 u1 (zb_137_3 (fun _ => zb_137_4 rfl) (fun q => absurd rfl q)), u2⟩
/-- the digits -/
theorem zr_n19 (hc : zCy s0 T) {p x1 x2 : Int} (hp : 0 ≤ p) (hp4 : p ≤ T) : ∀ (k n : Nat) (v : Int) (s : zS), zRs s0 t (p + ((n : Nat) : Int)) m O ln s → (T - (p + ((n : Nat) : Int))).toNat ≤ k → p + ((n : Nat) : Int) ≤ T → zg_run (s0 345) T 48 57 (p + ((n : Nat) : Int)) = zg_run (s0 345) T 48 57 p → v = zval (s0 345) p (min n 5) → ∃ (d : Nat) (s' : zS), p + ((d : Nat) : Int) = zg_run (s0 345) T 48 57 p ∧ zRs s0 t (p + ((d : Nat) : Int)) m O ln s' ∧ ∀ R, zA xm_c138 49 [344, x1, x2, p, zval (s0 345) p (min d 5)] [] s' R → zA xm_c138 19 [344, x1, x2, p, v] [] s R := by
  have h4 := hc.2.2.2
  intro k
  induction k with
  | zero =>
    intro n v s h hk hn he hv
    have e8 := h.1.1
    have hl := zr_digit hc h (x := p + ((n : Nat) : Int))
    rw [if_neg (by omega)] at hl
    rw [zg_run_n (fun z => by omega)] at he
    refine ⟨n, s, he, h, fun R z => zb_138_19 (r := 0) (by rw [e8]; exact hl) (zb_138_23 (fun _ => ?_) (fun q => absurd rfl q))⟩
    rw [hv]
    exact z
  | succ k ih =>
    intro n v s h hk hn he hv
    have e8 := h.1.1
    have e9 := h.by_
    have hl := zr_digit hc h (x := p + ((n : Nat) : Int))
    by_cases c : p + ((n : Nat) : Int) < T ∧ 48 ≤ s0 345 (p + ((n : Nat) : Int)) ∧ s0 345 (p + ((n : Nat) : Int)) ≤ 57
    · rw [if_pos c] at hl
      rw [zg_run_y c] at he
      have e1 : p + ((n + 1 : Nat) : Int) = p + ((n : Nat) : Int) + 1 := by omega
      have hN : zu s 344 8 (zw (s 344 8 + 1)) = zu s 344 8 (p + ((n + 1 : Nat) : Int)) := by
        rw [e8, zw_id (by omega) (by omega), e1]
      by_cases q : n < 5
      · have hin : ∀ i : Nat, i < n → 48 ≤ s0 345 (p + ((i : Nat) : Int)) ∧ s0 345 (p + ((i : Nat) : Int)) ≤ 57 := by
          intro i hi
          have := zg_run_in (b := s0 345) (T := T) (lo := 48) (hi := 57) (p := p) (i := p + ((i : Nat) : Int)) (by omega) (by
            have := (zg_run_le (b := s0 345) (T := T) (lo := 48) (hi := 57) (p := p + ((n : Nat) : Int) + 1)).1
            omega)
          exact this.2
        have hb := zval_b (b := s0 345) (p := p) n (by omega) hin
        have hpow : (10 : Int) ^ n ≤ 10000 := by
          rcases (show n = 0 ∨ n = 1 ∨ n = 2 ∨ n = 3 ∨ n = 4 by omega) with rfl | rfl | rfl | rfl | rfl <;> decide
        rw [show min n 5 = n by omega] at hv
        obtain ⟨d, s', w1, w2, w3⟩ := ih (n + 1) (zval (s0 345) p (n + 1)) _ (h.setN (N' := p + ((n + 1 : Nat) : Int))) (by omega) (by omega) (by rw [e1]; exact he) (by rw [show min (n + 1) 5 = n + 1 by omega])
        refine ⟨d, s', w1, w2, fun R z => zb_138_19 (r := 1) (by rw [e8]; exact hl) (zb_138_23 (fun q => absurd q (by decide)) (fun _ => zb_138_24 (fun _ => zb_138_30 ?_) (fun q2 => absurd (show zw (s 344 8 - p) < 5 by rw [e8, zw_id (by omega) (by omega)]; omega) q2)))⟩
        rw [hN, hv, e8, show (344 : Int) + 1 = 345 from rfl, e9, zw_id (x := 10 * zval (s0 345) p n) (by omega) (by omega), zw_id (x := 10 * zval (s0 345) p n + s0 345 (p + ((n : Nat) : Int))) (by omega) (by omega), zw_id (by omega) (by omega)]
        exact w3 R z
      · obtain ⟨d, s', w1, w2, w3⟩ := ih (n + 1) v _ (h.setN (N' := p + ((n + 1 : Nat) : Int))) (by omega) (by omega) (by rw [e1]; exact he) (by rw [hv, show min n 5 = 5 by omega, show min (n + 1) 5 = 5 by omega])
        refine ⟨d, s', w1, w2, fun R z => zb_138_19 (r := 1) (by rw [e8]; exact hl) (zb_138_23 (fun q => absurd q (by decide)) (fun _ => zb_138_24 (fun q2 => ?_) (fun _ => zb_138_42 ?_)))⟩
        · rw [e8, zw_id (by omega) (by omega)] at q2
          omega
        · rw [hN]
          exact w3 R z
    · rw [if_neg c] at hl
      rw [zg_run_n c] at he
      refine ⟨n, s, he, h, fun R z => zb_138_19 (r := 0) (by rw [e8]; exact hl) (zb_138_23 (fun _ => ?_) (fun q => absurd rfl q))⟩
      rw [hv]
      exact z
/-- a number: what it is, and whether it is as wanted -/
theorem zr_number (hc : zCy s0 T) (h : zRs s0 t N m O ln s) (hN : 0 ≤ N) (hN4 : N ≤ T) {low most : Int} {p : Int} (hp : zg_sk (s0 345) T N = p) : (zg_kind (s0 345) T p = 48 ∧ ¬ 5 < zg_te (s0 345) T p - p ∧ (low ≤ zval (s0 345) p (zg_te (s0 345) T p - p).toNat ∧ zval (s0 345) p (zg_te (s0 345) T p - p).toNat ≤ most) ∧ ∃ s', zE xm_c138 [344, low, most, 0, 0] s 1 s' ∧ zRs s0 t (zg_te (s0 345) T p) m O ln s' ∧ s' 344 10 = zval (s0 345) p (zg_te (s0 345) T p - p).toNat) ∨ (zg_kind (s0 345) T p = 48 ∧ (5 < zg_te (s0 345) T p - p ∨ ¬ (low ≤ zval (s0 345) p (zg_te (s0 345) T p - p).toNat ∧ zval (s0 345) p (zg_te (s0 345) T p - p).toNat ≤ most)) ∧ ∃ s', zE xm_c138 [344, low, most, 0, 0] s 0 s' ∧ zRd s0 (1 + 8 * p + 1) s') ∨ (zg_kind (s0 345) T p ≠ 48 ∧ ∃ s', zE xm_c138 [344, low, most, 0, 0] s 0 s' ∧ zRd s0 (1 + 8 * p + 0) s') := by
  obtain ⟨s', u1, u2⟩ := zr_see hc _ (Nat.le_refl _) hN h
  have rl : N ≤ zg_sk (s0 345) T N ∧ (zg_sk (s0 345) T N ≤ T ∨ zg_sk (s0 345) T N = N) := zg_run_le
  rw [hp] at u1 u2 rl
  have h4 := hc.2.2.2
  have hk := zg_kl (b := s0 345) (T := T) (p := p) hc.1 hc.2.2.2 (by omega)
  have e8 := u2.1.1
  have hd := zr_digit hc u2 (x := p)
  by_cases e : zg_kind (s0 345) T p = 48
  · have c := hk.2.2.1.mp e
    have hte := hk.2.2.2 e
    rw [if_pos c] at hd
    have rd := zg_run_le (b := s0 345) (T := T) (lo := 48) (hi := 57) (p := p)
    -- the end
    have fin : ∀ (n : Nat) (s : zS), p + ((n : Nat) : Int) = zg_run (s0 345) T 48 57 p → zRs s0 t (p + ((n : Nat) : Int)) m O ln s → ((¬ 5 < n ∧ (low ≤ zval (s0 345) p n ∧ zval (s0 345) p n ≤ most)) → ∃ s2, zA xm_c138 49 [344, low, most, p, zval (s0 345) p (min n 5)] [] s (1, s2) ∧ zRs s0 t (p + ((n : Nat) : Int)) m O ln s2 ∧ s2 344 10 = zval (s0 345) p n) ∧ ((5 < n ∨ ¬ (low ≤ zval (s0 345) p n ∧ zval (s0 345) p n ≤ most)) → ∃ s2, zA xm_c138 49 [344, low, most, p, zval (s0 345) p (min n 5)] [] s (0, s2) ∧ zRd s0 (1 + 8 * p + 1) s2) := by
      intro n s hn h
      have g8 : (zu s 344 10 (zval (s0 345) p (min n 5))) 344 8 = p + ((n : Nat) : Int) := by
        rw [zu_place (by decide)]
        exact h.1.1
      have hh := h.num (v := zval (s0 345) p (min n 5))
      obtain ⟨s3, f1, f2⟩ := zr_fails hh (c := 1) (at_ := p) (by omega) (by omega) (by omega) (by omega)
      constructor
      · rintro ⟨z1, z2⟩
        have e5 : min n 5 = n := by omega
        rw [e5] at g8 hh ⊢
        refine ⟨_, zb_138_49 (fun q => absurd q (by rw [g8, zw_id (by omega) (by omega)]; omega)) (fun _ => zb_138_58 (r := 1) (s1 := zu s 344 10 (zval (s0 345) p n)) (zb_125_0 (fun q => absurd (zsg_lt.mp q) (by omega)) (fun _ => zb_125_4 (fun q => absurd (zsg_gt.mp q) (by omega)) (fun _ => zb_125_8 rfl))) (zb_138_65 (fun q => absurd q (by decide)) (fun _ => zb_138_71 rfl))), hh, zu_hit⟩
      · intro z
        by_cases e5 : 5 < n
        · exact ⟨s3, zb_138_49 (fun _ => zb_138_66 f1 (zb_138_70 (fun _ => zb_138_73 rfl) (fun q => absurd rfl q))) (fun q => absurd (show 5 < zw ((zu s 344 10 (zval (s0 345) p (min n 5))) 344 8 - p) by rw [g8, zw_id (by omega) (by omega)]; omega) q), f2⟩
        · have e6 : min n 5 = n := by omega
          rw [e6] at g8 hh f1 ⊢
          have z := z.resolve_left e5
          refine ⟨s3, zb_138_49 (fun q => absurd q (by rw [g8, zw_id (by omega) (by omega)]; omega)) (fun _ => zb_138_58 (r := 0) (s1 := zu s 344 10 (zval (s0 345) p n)) ?_ (zb_138_65 (fun _ => zb_138_66 f1 (zb_138_70 (fun _ => zb_138_73 rfl) (fun q => absurd rfl q))) (fun q => absurd rfl q))), f2⟩
          by_cases z1 : zval (s0 345) p n < low
          · exact zb_125_0 (fun _ => zb_125_10 rfl) (fun q => absurd (zsg_lt.mpr z1) q)
          · exact zb_125_0 (fun q => absurd (zsg_lt.mp q) z1) (fun _ => zb_125_4 (fun _ => zb_125_10 rfl) (fun q => absurd (zsg_gt.mpr (show most < zval (s0 345) p n by omega)) q))
    have pre : ∀ R, zA xm_c138 19 [344, low, most, p, 0] [] s' R → zE xm_c138 [344, low, most, 0, 0] s R.1 R.2 := by
      intro R z
      refine zb_138_0 u1 (zb_138_2 (r := 1) (s1 := s') (by rw [e8]; exact hd) (zb_138_7 (fun q => absurd q (by decide)) (fun _ => zb_138_14 ?_)))
      rw [e8]
      exact z
    obtain ⟨d, s1, w1, w2, w3⟩ := zr_n19 hc (p := p) (x1 := low) (x2 := most) (by omega) (by omega) _ 0 0 s' (by rw [show p + ((0 : Nat) : Int) = p by omega]; exact u2) (Nat.le_refl _) (by omega) (by rw [show p + ((0 : Nat) : Int) = p by omega]) rfl
    have hdd : (zg_te (s0 345) T p - p).toNat = d := by rw [hte]; omega
    have hte' : zg_te (s0 345) T p = p + ((d : Nat) : Int) := by rw [hte]; omega
    rw [hdd, hte']
    by_cases z : ¬ 5 < d ∧ (low ≤ zval (s0 345) p d ∧ zval (s0 345) p d ≤ most)
    · obtain ⟨s2, v1, v2, v3⟩ := (fin d s1 w1 w2).1 z
      exact Or.inl ⟨e, by omega, z.2, s2, pre (1, s2) (w3 _ v1), v2, v3⟩
    · have z' : 5 < d ∨ ¬ (low ≤ zval (s0 345) p d ∧ zval (s0 345) p d ≤ most) := by
        by_cases z5 : 5 < d
        · exact Or.inl z5
        · exact Or.inr (fun q => z ⟨z5, q⟩)
      obtain ⟨s2, v1, v2⟩ := (fin d s1 w1 w2).2 z'
      exact Or.inr (Or.inl ⟨e, z'.elim (fun q => Or.inl (by omega)) Or.inr, s2, pre (0, s2) (w3 _ v1), v2⟩)
  · refine Or.inr (Or.inr ⟨e, ?_⟩)
    rw [if_neg (fun z => e (hk.2.2.1.mpr z))] at hd
    obtain ⟨s2, f1, f2⟩ := zr_fails u2 (c := 0) (at_ := p) (by omega) (by omega) (by omega) (by omega)
    refine ⟨s2, zb_138_0 u1 (zb_138_2 (r := 0) (s1 := s') (by rw [e8]; exact hd) (zb_138_7 (fun _ => zb_138_8 (r := 0) (s1 := s2) (by rw [e8]; exact f1) (zb_138_13 rfl)) (fun q => absurd rfl q))), f2⟩
end RC
