/-! the reference's reading of bytes, words, numbers once more, with the record of a house (cell 350) kept; printed by wip/z/gen_69l1.py -/
/-- what the reading of a house leaves -/
def zKh (s0 s : zS) : Prop := ∀ x y, ¬ (x = 344 ∧ 8 ≤ y ∧ y ≤ 16) → x ≠ 350 → x ≠ 351 → ¬ (x = 347 ∧ y = 6) → s x y = s0 x y
def zRdh (s0 : zS) (f : Int) (s : zS) : Prop := s 344 9 = f ∧ f ≠ 0 ∧ zKh s0 s
def zFrh (s0 : zS) (f : Int) (s : zS) : Prop := s 344 9 = f ∧ s 344 1 = 0 ∧ ∀ x y, ¬ (x = 344 ∧ y = 1) → ¬ (x = 344 ∧ 8 ≤ y ∧ y ≤ 16) → x ≠ 350 → x ≠ 351 → ¬ (x = 347 ∧ y = 6) → s x y = s0 x y
theorem zKh_u {s0 s : zS} {x y v : Int} (h : zKh s0 s) (hx : (x = 344 ∧ 8 ≤ y ∧ y ≤ 16) ∨ x = 350 ∨ x = 351 ∨ (x = 347 ∧ y = 6)) : zKh s0 (zu s x y v) := by
  intro a b h1 h2 h3 h4
  have e : zu s x y v a b = s a b := by
    unfold zu
    rw [if_neg (fun q => by omega)]
  rw [e]
  exact h a b h1 h2 h3 h4
theorem zKh_345 {s0 s : zS} (h : zKh s0 s) : s 345 = s0 345 := funext (fun y => h 345 y (by omega) (by decide) (by decide) (by omega))
theorem zFrh_of {s0 s : zS} {f : Int} (h1 : s 344 9 = f) (h2 : zKh s0 s) : zFrh s0 f (zu s 344 1 0) := ⟨by rw [zu_place (by decide)]; exact h1, zu_hit, fun x y a b c d e => by
  have e' : zu s 344 1 0 x y = s x y := by
    unfold zu
    rw [if_neg a]
  rw [e']
  exact h2 x y b c d e⟩
def zMs (s0 : zS) (t : Int) (N m : Int) (O : zHS) (ln : Int) (s : zS) : Prop := (s 344 8 = N ∧ s 344 9 = 0 ∧ s 344 11 = t ∧ s 344 12 = m ∧ s 344 14 = ln) ∧ s 350 = O ∧ zKh s0 s
section MB
variable {s0 s : zS} {t T N m ln : Int} {O : zHS}
theorem zM_350 {x y v : Int} (hx : x ≠ 350) : (zu s x y v) 350 = s 350 := funext (fun b => zu_cell (fun q => hx q.symm))
theorem zMs.by_ (h : zMs s0 t N m O ln s) : s 345 = s0 345 := zKh_345 h.2.2
theorem zMs.len (hc : zCy s0 T) (h : zMs s0 t N m O ln s) : s 344 1 = T := by
  rw [h.2.2 344 1 (by omega) (by decide) (by decide) (by decide)]
  exact hc.2.1
theorem zMs.setN {N' : Int} (h : zMs s0 t N m O ln s) : zMs s0 t N' m O ln (zu s 344 8 N') := by
  have e : ∀ b, b ≠ 8 → zu s 344 8 N' 344 b = s 344 b := fun b hb => zu_place hb
  exact ⟨⟨zu_hit, by rw [e 9 (by decide)]; exact h.1.2.1, by rw [e 11 (by decide)]; exact h.1.2.2.1, by rw [e 12 (by decide)]; exact h.1.2.2.2.1, by rw [e 14 (by decide)]; exact h.1.2.2.2.2⟩, by rw [zM_350 (by decide)]; exact h.2.1, zKh_u h.2.2 (by omega)⟩
theorem zMs.setm {m' : Int} (h : zMs s0 t N m O ln s) : zMs s0 t N m' O ln (zu s 344 12 m') := by
  have e : ∀ b, b ≠ 12 → zu s 344 12 m' 344 b = s 344 b := fun b hb => zu_place hb
  exact ⟨⟨by rw [e 8 (by decide)]; exact h.1.1, by rw [e 9 (by decide)]; exact h.1.2.1, by rw [e 11 (by decide)]; exact h.1.2.2.1, zu_hit, by rw [e 14 (by decide)]; exact h.1.2.2.2.2⟩, by rw [zM_350 (by decide)]; exact h.2.1, zKh_u h.2.2 (by omega)⟩
theorem zMs.setl {ln' : Int} (h : zMs s0 t N m O ln s) : zMs s0 t N m O ln' (zu s 344 14 ln') := by
  have e : ∀ b, b ≠ 14 → zu s 344 14 ln' 344 b = s 344 b := fun b hb => zu_place hb
  exact ⟨⟨by rw [e 8 (by decide)]; exact h.1.1, by rw [e 9 (by decide)]; exact h.1.2.1, by rw [e 11 (by decide)]; exact h.1.2.2.1, by rw [e 12 (by decide)]; exact h.1.2.2.2.1, zu_hit⟩, by rw [zM_350 (by decide)]; exact h.2.1, zKh_u h.2.2 (by omega)⟩
theorem zMs.num {v : Int} (h : zMs s0 t N m O ln s) : zMs s0 t N m O ln (zu s 344 10 v) := by
  have e : ∀ b, b ≠ 10 → zu s 344 10 v 344 b = s 344 b := fun b hb => zu_place hb
  exact ⟨⟨by rw [e 8 (by decide)]; exact h.1.1, by rw [e 9 (by decide)]; exact h.1.2.1, by rw [e 11 (by decide)]; exact h.1.2.2.1, by rw [e 12 (by decide)]; exact h.1.2.2.2.1, by rw [e 14 (by decide)]; exact h.1.2.2.2.2⟩, by rw [zM_350 (by decide)]; exact h.2.1, zKh_u h.2.2 (by omega)⟩
theorem zMs.cell {i x : Int} (h : zMs s0 t N m O ln s) : zMs s0 t N m (zhu O i x) ln (zu s 350 i x) := by
  have e : ∀ b, zu s 350 i x 344 b = s 344 b := fun b => zu_cell (by decide)
  exact ⟨by rw [e, e, e, e, e]; exact h.1, zhu_ze h.2.1, zKh_u h.2.2 (by omega)⟩
theorem zhx_see (hc : zCy s0 T) : ∀ (n : Nat) {N : Int} {s : zS}, (T - N).toNat ≤ n → 0 ≤ N → zMs s0 t N m O ln s → ∃ s', zE xm_c132 [344] s (zg_c (s0 345) T (zg_sk (s0 345) T N)) s' ∧ zMs s0 t (zg_sk (s0 345) T N) m O ln s' := by
  have out : ∀ {N : Int} {s : zS}, 0 ≤ N → zMs s0 t N m O ln s → zA xm_c132 19 [344] [] s (zg_c (s0 345) T N, s) := by
    intro N s h0 h
    have e8 := h.1.1
    have e1 := h.len hc
    have e9 := h.by_
    refine zb_132_19 (fun q => zb_132_24 ?_) (fun q => zb_132_32 ?_)
    · rw [e8, e1] at q
      rw [e8, show (344 : Int) + 1 = 345 from rfl, e9]
      unfold zg_c
      rw [if_pos q]
    · rw [e8, e1] at q
      unfold zg_c
      rw [if_neg q]
  intro n
  induction n with
  | zero =>
    intro N s hn h0 h
    have e8 := h.1.1
    have e1 := h.len hc
    have e : zg_sk (s0 345) T N = N := zg_run_n (fun q => by omega)
    rw [e]
    exact ⟨s, zb_132_0 (fun q => by rw [e8, e1] at q; omega) (fun _ => out h0 h), h⟩
  | succ n ih =>
    intro N s hn h0 h
    have e8 := h.1.1
    have e1 := h.len hc
    have e9 := h.by_
    have h4 := hc.2.2.2
    by_cases c : N < T ∧ 32 ≤ s0 345 N ∧ s0 345 N ≤ 32
    · have e : zg_sk (s0 345) T N = zg_sk (s0 345) T (N + 1) := zg_run_y c
      rw [e]
      obtain ⟨s', u1, u2⟩ := ih (N := N + 1) (by omega) (by omega) (h.setN (N' := N + 1))
      refine ⟨s', zb_132_0 (fun _ => zb_132_5 (fun _ => zb_132_12 ?_) (fun q => ?_)) (fun q => ?_), u2⟩
      · rw [e8, zw_id (by omega) (by omega)]
        exact u1
      · rw [e8, show (344 : Int) + 1 = 345 from rfl, e9] at q
        omega
      · rw [e8, e1] at q
        omega
    · have e : zg_sk (s0 345) T N = N := zg_run_n c
      rw [e]
      refine ⟨s, zb_132_0 (fun q => zb_132_5 (fun q2 => ?_) (fun _ => out h0 h)) (fun _ => out h0 h), h⟩
      rw [e8, e1] at q
      rw [e8, show (344 : Int) + 1 = 345 from rfl, e9] at q2
      omega
theorem zhx_digit (hc : zCy s0 T) (h : zMs s0 t N m O ln s) {x : Int} : zE xm_c133 [344, x] s (if x < T ∧ 48 ≤ s0 345 x ∧ s0 345 x ≤ 57 then 1 else 0) s := by
  have e1 := h.len hc
  have e9 := h.by_
  refine zb_133_0 (fun q => zb_133_4 (fun q2 => zb_133_18 ?_) (fun q2 => zb_133_10 (fun q3 => zb_133_18 ?_) (fun q3 => zb_133_16 ?_))) (fun q => zb_133_18 ?_)
  · rw [show (344 : Int) + 1 = 345 from rfl, e9] at q2
    rw [if_neg (by omega)]
  · rw [show (344 : Int) + 1 = 345 from rfl, e9] at q3
    rw [if_neg (by omega)]
  · rw [e1] at q
    rw [show (344 : Int) + 1 = 345 from rfl, e9] at q2 q3
    rw [if_pos (by omega)]
  · rw [e1] at q
    rw [if_neg (by omega)]
theorem zhx_letter (hc : zCy s0 T) (h : zMs s0 t N m O ln s) {x : Int} : zE xm_c134 [344, x] s (if x < T ∧ 97 ≤ s0 345 x ∧ s0 345 x ≤ 122 then 1 else 0) s := by
  have e1 := h.len hc
  have e9 := h.by_
  refine zb_134_0 (fun q => zb_134_4 (fun q2 => zb_134_18 ?_) (fun q2 => zb_134_10 (fun q3 => zb_134_18 ?_) (fun q3 => zb_134_16 ?_))) (fun q => zb_134_18 ?_)
  · rw [show (344 : Int) + 1 = 345 from rfl, e9] at q2
    rw [if_neg (by omega)]
  · rw [show (344 : Int) + 1 = 345 from rfl, e9] at q3
    rw [if_neg (by omega)]
  · rw [e1] at q
    rw [show (344 : Int) + 1 = 345 from rfl, e9] at q2 q3
    rw [if_pos (by omega)]
  · rw [e1] at q
    rw [if_neg (by omega)]
theorem zhx_fails (h : zMs s0 t N m O ln s) {c at_ : Int} (hc0 : 0 ≤ c) (hc4 : c ≤ 4) (ha : 0 ≤ at_) (ha4 : at_ ≤ 400) : ∃ s', zE xm_c131 [344, c, at_] s 0 s' ∧ zRdh s0 (1 + 8 * at_ + c) s' := by
  refine ⟨_, zb_131_0 (fun _ => zb_131_3 rfl) (fun q => absurd h.1.2.1 q), ?_, by omega, zKh_u h.2.2 (by omega)⟩
  rw [zu_hit, zw_id (x := 8 * at_) (by omega) (by omega), zw_id (x := 1 + 8 * at_) (by omega) (by omega), zw_id (by omega) (by omega)]
theorem zhx_pass (hc : zCy s0 T) : ∀ (n : Nat) {N : Int} {s : zS}, (T - N).toNat ≤ n → 0 ≤ N → zMs s0 t N m O ln s → ∃ s', zE xm_c136 [344] s 0 s' ∧ zMs s0 t (zg_run (s0 345) T 97 122 N) m O ln s' := by
  intro n
  induction n with
  | zero =>
    intro N s hn h0 h
    have e8 := h.1.1
    have e : zg_run (s0 345) T 97 122 N = N := zg_run_n (fun q => by omega)
    rw [e]
    have hl := zhx_letter hc h (x := N)
    rw [if_neg (by omega), ← e8] at hl
    exact ⟨s, zb_136_0 hl (zb_136_4 (fun _ => zb_136_12 rfl) (fun q => absurd rfl q)), h⟩
  | succ n ih =>
    intro N s hn h0 h
    have e8 := h.1.1
    have h4 := hc.2.2.2
    have hl := zhx_letter hc h (x := N)
    by_cases c : N < T ∧ 97 ≤ s0 345 N ∧ s0 345 N ≤ 122
    · rw [if_pos c, ← e8] at hl
      obtain ⟨s', u1, u2⟩ := ih (N := N + 1) (by omega) (by omega) (h.setN (N' := N + 1))
      rw [zg_run_y c]
      refine ⟨s', zb_136_0 hl (zb_136_4 (fun q => absurd q (by decide)) (fun _ => zb_136_5 ?_)), u2⟩
      rw [e8, zw_id (by omega) (by omega)]
      exact u1
    · rw [if_neg c, ← e8] at hl
      rw [zg_run_n c]
      exact ⟨s, zb_136_0 hl (zb_136_4 (fun _ => zb_136_12 rfl) (fun q => absurd rfl q)), h⟩
end MB
section MC
variable {s0 s : zS} {t T N m ln : Int} {O : zHS}
theorem zhx_w7 (hc : zCy s0 T) {p w x2 x4 : Int} (h : zMs s0 t p m O ln s) (hp : 0 ≤ p) (hp4 : p ≤ T) {r : Int} (hr : ∀ n : Nat, p + ((n : Nat) : Int) = zg_run (s0 345) T 97 122 p → r = if 0 < n ∧ n < 8 ∧ zenc (zlt_ (s0 345) p n) = w then 1 else 0) : ∀ (k n : Nat) (v : Int), (T - (p + ((n : Nat) : Int))).toNat ≤ k → p + ((n : Nat) : Int) ≤ T → zg_run (s0 345) T 97 122 (p + ((n : Nat) : Int)) = zg_run (s0 345) T 97 122 p → (n ≤ 7 → v = zenc (zlt_ (s0 345) p n)) → zA xm_c135 7 [344, w, x2, v, x4, ((n : Nat) : Int)] [] s (r, s) := by
  have e8 := h.1.1
  have e9 := h.by_
  have h4 := hc.2.2.2
  have fin : ∀ (n : Nat) (v : Int), p + ((n : Nat) : Int) = zg_run (s0 345) T 97 122 p → (n ≤ 7 → v = zenc (zlt_ (s0 345) p n)) → zA xm_c135 32 [344, w, x2, v, x4, ((n : Nat) : Int)] [] s (r, s) := by
    intro n v hn hv
    have hr := hr n hn
    refine zb_135_32 (fun q1 => zb_135_34 (fun q2 => zb_135_37 (fun q3 => zb_135_41 ?_) (fun q3 => zb_135_43 ?_)) (fun q2 => zb_135_43 ?_)) (fun q1 => zb_135_43 ?_)
    · have := zsg_0.mp q3
      rw [hr, if_pos ⟨by omega, by omega, by rw [← hv (by omega)]; exact this⟩]
    · rw [hr, if_neg (fun z => q3 (zsg_0.mpr (by rw [hv (by omega)]; exact z.2.2)))]
    · rw [hr, if_neg (fun z => by omega)]
    · rw [hr, if_neg (fun z => by omega)]
  intro k
  induction k with
  | zero =>
    intro n v hk hn he hv
    have hl := zhx_letter hc h (x := p + ((n : Nat) : Int))
    rw [if_neg (by omega)] at hl
    rw [zg_run_n (fun z => by omega)] at he
    refine zb_135_7 (r := 0) ?_ (zb_135_13 (fun _ => fin n v he hv) (fun q => absurd rfl q))
    rw [e8, zw_id (by omega) (by omega)]
    exact hl
  | succ k ih =>
    intro n v hk hn he hv
    have hl := zhx_letter hc h (x := p + ((n : Nat) : Int))
    by_cases c : p + ((n : Nat) : Int) < T ∧ 97 ≤ s0 345 (p + ((n : Nat) : Int)) ∧ s0 345 (p + ((n : Nat) : Int)) ≤ 122
    · rw [if_pos c] at hl
      rw [zg_run_y c] at he
      have hz : zw (((n : Nat) : Int) + 1) = ((n + 1 : Nat) : Int) := zw_id (by omega) (by omega)
      have e1 : p + ((n + 1 : Nat) : Int) = p + ((n : Nat) : Int) + 1 := by omega
      refine zb_135_7 (r := 1) (by rw [e8, zw_id (by omega) (by omega)]; exact hl) (zb_135_13 (fun q => absurd q (by decide)) (fun _ => zb_135_14 (fun q => zb_135_17 ?_) (fun q => zb_135_30 ?_)))
      · rw [hz]
        refine ih (n + 1) _ (by omega) (by omega) (by rw [e1]; exact he) (fun h7 => ?_)
        have hin : ∀ i : Nat, i < n → 97 ≤ s0 345 (p + ((i : Nat) : Int)) ∧ s0 345 (p + ((i : Nat) : Int)) ≤ 122 := by
          intro i hi
          have := zg_run_in (b := s0 345) (T := T) (lo := 97) (hi := 122) (p := p) (i := p + ((i : Nat) : Int)) (by omega) (by
            have := (zg_run_le (b := s0 345) (T := T) (lo := 97) (hi := 122) (p := p + ((n : Nat) : Int) + 1)).1
            omega)
          exact this.2
        have hb := zlt_b n hin
        have hpow : (256 : Int) ^ n ≤ 281474976710656 := by
          have : n ≤ 6 := by omega
          rcases (show n = 0 ∨ n = 1 ∨ n = 2 ∨ n = 3 ∨ n = 4 ∨ n = 5 ∨ n = 6 by omega) with rfl | rfl | rfl | rfl | rfl | rfl | rfl <;> decide
        rw [hv (by omega), e8, show (344 : Int) + 1 = 345 from rfl, e9, zw_id (x := p + ((n : Nat) : Int)) (by omega) (by omega), zq_byte hb.1 (by omega) (by omega) (by omega)]
        rfl
      · rw [hz]
        exact ih (n + 1) v (by omega) (by omega) (by rw [e1]; exact he) (fun h7 => by omega)
    · rw [if_neg c] at hl
      rw [zg_run_n c] at he
      refine zb_135_7 (r := 0) ?_ (zb_135_13 (fun _ => fin n v he hv) (fun q => absurd rfl q))
      rw [e8, zw_id (by omega) (by omega)]
      exact hl
theorem zhx_isword (hc : zCy s0 T) (h : zMs s0 t N m O ln s) (hN : 0 ≤ N) (hN4 : N ≤ T) {w : Int} (W : List Int) (hw : w = zenc W.reverse) (hW : ∀ c ∈ W, 1 ≤ c ∧ c ≤ 255) (hl : W.length ≤ 7) (hl1 : W ≠ []) : ∃ s', zE xm_c135 [344, w, 0, 0, 0, 0] s (if zg_is (s0 345) T (zg_sk (s0 345) T N) W then 1 else 0) s' ∧ zMs s0 t (zg_sk (s0 345) T N) m O ln s' := by
  obtain ⟨s', u1, u2⟩ := zhx_see hc _ (Nat.le_refl _) hN h
  have rl := zg_run_le (b := s0 345) (T := T) (lo := 32) (hi := 32) (p := N)
  have rl : N ≤ zg_sk (s0 345) T N ∧ (zg_sk (s0 345) T N ≤ T ∨ zg_sk (s0 345) T N = N) := rl
  generalize hp : zg_sk (s0 345) T N = p at u1 u2 rl ⊢
  have hk := zg_kl (b := s0 345) (T := T) (p := p) hc.1 hc.2.2.2 (by omega)
  have h4 := hc.2.2.2
  refine ⟨s', zb_135_0 u1 (zb_135_2 (zhx_w7 hc u2 (by omega) (by omega) (fun n hn => ?_) _ 0 0 (Nat.le_refl _) (by omega) (by rw [show p + ((0 : Nat) : Int) = p by omega]) (fun _ => rfl))), u2⟩
  have hin : ∀ i : Nat, i < n → 97 ≤ s0 345 (p + ((i : Nat) : Int)) ∧ s0 345 (p + ((i : Nat) : Int)) ≤ 122 := fun i hi => (zg_run_in (b := s0 345) (T := T) (lo := 97) (hi := 122) (p := p) (i := p + ((i : Nat) : Int)) (by omega) (by omega)).2
  have key : zg_is (s0 345) T p W ↔ (0 < n ∧ n < 8 ∧ zenc (zlt_ (s0 345) p n) = w) := by
    constructor
    · intro z
      have hte := hk.2.1 z.1
      have z2 := z.2
      rw [hte, ← hn] at z2
      have hlen := congrArg List.length z2
      rw [zg_wlen, show (p + ((n : Nat) : Int) - p).toNat = n by omega] at hlen
      have hpos : 0 < W.length := List.length_pos_iff.mpr hl1
      refine ⟨by omega, by omega, ?_⟩
      rw [zlt_w, z2, hw]
    · rintro ⟨z1, z2, z3⟩
      have hkk := hk.1.mpr (by
        have := zg_run_in (b := s0 345) (T := T) (lo := 97) (hi := 122) (p := p) (i := p) (by omega) (by omega)
        exact this)
      refine ⟨hkk, ?_⟩
      rw [hk.2.1 hkk, ← hn]
      have := zenc_inj (zlt_all n hin) (fun c hc => hW c (List.mem_reverse.mp hc)) (z3.trans hw)
      rw [zlt_w] at this
      exact List.reverse_inj.mp this
  by_cases e : zg_is (s0 345) T p W
  · rw [if_pos e, if_pos (key.mp e)]
  · rw [if_neg e, if_neg (fun z => e (key.mpr z))]
theorem zhx_n19 (hc : zCy s0 T) {p x1 x2 : Int} (hp : 0 ≤ p) (hp4 : p ≤ T) : ∀ (k n : Nat) (v : Int) (s : zS), zMs s0 t (p + ((n : Nat) : Int)) m O ln s → (T - (p + ((n : Nat) : Int))).toNat ≤ k → p + ((n : Nat) : Int) ≤ T → zg_run (s0 345) T 48 57 (p + ((n : Nat) : Int)) = zg_run (s0 345) T 48 57 p → v = zval (s0 345) p (min n 5) → ∃ (d : Nat) (s' : zS), p + ((d : Nat) : Int) = zg_run (s0 345) T 48 57 p ∧ zMs s0 t (p + ((d : Nat) : Int)) m O ln s' ∧ ∀ R, zA xm_c138 49 [344, x1, x2, p, zval (s0 345) p (min d 5)] [] s' R → zA xm_c138 19 [344, x1, x2, p, v] [] s R := by
  have h4 := hc.2.2.2
  intro k
  induction k with
  | zero =>
    intro n v s h hk hn he hv
    have e8 := h.1.1
    have hl := zhx_digit hc h (x := p + ((n : Nat) : Int))
    rw [if_neg (by omega)] at hl
    rw [zg_run_n (fun z => by omega)] at he
    refine ⟨n, s, he, h, fun R z => zb_138_19 (r := 0) (by rw [e8]; exact hl) (zb_138_23 (fun _ => ?_) (fun q => absurd rfl q))⟩
    rw [hv]
    exact z
  | succ k ih =>
    intro n v s h hk hn he hv
    have e8 := h.1.1
    have e9 := h.by_
    have hl := zhx_digit hc h (x := p + ((n : Nat) : Int))
    by_cases c : p + ((n : Nat) : Int) < T ∧ 48 ≤ s0 345 (p + ((n : Nat) : Int)) ∧ s0 345 (p + ((n : Nat) : Int)) ≤ 57
    · rw [if_pos c] at hl
      rw [zg_run_y c] at he
      have e1 : p + ((n + 1 : Nat) : Int) = p + ((n : Nat) : Int) + 1 := by omega
      have hN : zu s 344 8 (zw (s 344 8 + 1)) = zu s 344 8 (p + ((n + 1 : Nat) : Int)) := by
        rw [e8, zw_id (by omega) (by omega), e1]
      by_cases q : n < 5
      · have hin : ∀ i : Nat, i < n → 48 ≤ s0 345 (p + ((i : Nat) : Int)) ∧ s0 345 (p + ((i : Nat) : Int)) ≤ 57 := by
          intro i hi
          have := zg_run_in (b := s0 345) (T := T) (lo := 48) (hi := 57) (p := p) (i := p + ((i : Nat) : Int)) (by omega) (by
            have := (zg_run_le (b := s0 345) (T := T) (lo := 48) (hi := 57) (p := p + ((n : Nat) : Int) + 1)).1
            omega)
          exact this.2
        have hb := zval_b (b := s0 345) (p := p) n (by omega) hin
        have hpow : (10 : Int) ^ n ≤ 10000 := by
          rcases (show n = 0 ∨ n = 1 ∨ n = 2 ∨ n = 3 ∨ n = 4 by omega) with rfl | rfl | rfl | rfl | rfl <;> decide
        rw [show min n 5 = n by omega] at hv
        obtain ⟨d, s', w1, w2, w3⟩ := ih (n + 1) (zval (s0 345) p (n + 1)) _ (h.setN (N' := p + ((n + 1 : Nat) : Int))) (by omega) (by omega) (by rw [e1]; exact he) (by rw [show min (n + 1) 5 = n + 1 by omega])
        refine ⟨d, s', w1, w2, fun R z => zb_138_19 (r := 1) (by rw [e8]; exact hl) (zb_138_23 (fun q => absurd q (by decide)) (fun _ => zb_138_24 (fun _ => zb_138_30 ?_) (fun q2 => absurd (show zw (s 344 8 - p) < 5 by rw [e8, zw_id (by omega) (by omega)]; omega) q2)))⟩
        rw [hN, hv, e8, show (344 : Int) + 1 = 345 from rfl, e9, zw_id (x := 10 * zval (s0 345) p n) (by omega) (by omega), zw_id (x := 10 * zval (s0 345) p n + s0 345 (p + ((n : Nat) : Int))) (by omega) (by omega), zw_id (by omega) (by omega)]
        exact w3 R z
      · obtain ⟨d, s', w1, w2, w3⟩ := ih (n + 1) v _ (h.setN (N' := p + ((n + 1 : Nat) : Int))) (by omega) (by omega) (by rw [e1]; exact he) (by rw [hv, show min n 5 = 5 by omega, show min (n + 1) 5 = 5 by omega])
        refine ⟨d, s', w1, w2, fun R z => zb_138_19 (r := 1) (by rw [e8]; exact hl) (zb_138_23 (fun q => absurd q (by decide)) (fun _ => zb_138_24 (fun q2 => ?_) (fun _ => zb_138_42 ?_)))⟩
        · rw [e8, zw_id (by omega) (by omega)] at q2
          omega
        · rw [hN]
          exact w3 R z
    · rw [if_neg c] at hl
      rw [zg_run_n c] at he
      refine ⟨n, s, he, h, fun R z => zb_138_19 (r := 0) (by rw [e8]; exact hl) (zb_138_23 (fun _ => ?_) (fun q => absurd rfl q))⟩
      rw [hv]
      exact z
theorem zhx_number (hc : zCy s0 T) (h : zMs s0 t N m O ln s) (hN : 0 ≤ N) (hN4 : N ≤ T) {low most : Int} {p : Int} (hp : zg_sk (s0 345) T N = p) : (zg_kind (s0 345) T p = 48 ∧ ¬ 5 < zg_te (s0 345) T p - p ∧ (low ≤ zval (s0 345) p (zg_te (s0 345) T p - p).toNat ∧ zval (s0 345) p (zg_te (s0 345) T p - p).toNat ≤ most) ∧ ∃ s', zE xm_c138 [344, low, most, 0, 0] s 1 s' ∧ zMs s0 t (zg_te (s0 345) T p) m O ln s' ∧ s' 344 10 = zval (s0 345) p (zg_te (s0 345) T p - p).toNat) ∨ (zg_kind (s0 345) T p = 48 ∧ (5 < zg_te (s0 345) T p - p ∨ ¬ (low ≤ zval (s0 345) p (zg_te (s0 345) T p - p).toNat ∧ zval (s0 345) p (zg_te (s0 345) T p - p).toNat ≤ most)) ∧ ∃ s', zE xm_c138 [344, low, most, 0, 0] s 0 s' ∧ zRdh s0 (1 + 8 * p + 1) s') ∨ (zg_kind (s0 345) T p ≠ 48 ∧ ∃ s', zE xm_c138 [344, low, most, 0, 0] s 0 s' ∧ zRdh s0 (1 + 8 * p + 0) s') := by
  obtain ⟨s', u1, u2⟩ := zhx_see hc _ (Nat.le_refl _) hN h
  have rl : N ≤ zg_sk (s0 345) T N ∧ (zg_sk (s0 345) T N ≤ T ∨ zg_sk (s0 345) T N = N) := zg_run_le
  rw [hp] at u1 u2 rl
  have h4 := hc.2.2.2
  have hk := zg_kl (b := s0 345) (T := T) (p := p) hc.1 hc.2.2.2 (by omega)
  have e8 := u2.1.1
  have hd := zhx_digit hc u2 (x := p)
  by_cases e : zg_kind (s0 345) T p = 48
  · have c := hk.2.2.1.mp e
    have hte := hk.2.2.2 e
    rw [if_pos c] at hd
    have rd := zg_run_le (b := s0 345) (T := T) (lo := 48) (hi := 57) (p := p)
    -- the end
    have fin : ∀ (n : Nat) (s : zS), p + ((n : Nat) : Int) = zg_run (s0 345) T 48 57 p → zMs s0 t (p + ((n : Nat) : Int)) m O ln s → ((¬ 5 < n ∧ (low ≤ zval (s0 345) p n ∧ zval (s0 345) p n ≤ most)) → ∃ s2, zA xm_c138 49 [344, low, most, p, zval (s0 345) p (min n 5)] [] s (1, s2) ∧ zMs s0 t (p + ((n : Nat) : Int)) m O ln s2 ∧ s2 344 10 = zval (s0 345) p n) ∧ ((5 < n ∨ ¬ (low ≤ zval (s0 345) p n ∧ zval (s0 345) p n ≤ most)) → ∃ s2, zA xm_c138 49 [344, low, most, p, zval (s0 345) p (min n 5)] [] s (0, s2) ∧ zRdh s0 (1 + 8 * p + 1) s2) := by
      intro n s hn h
      have g8 : (zu s 344 10 (zval (s0 345) p (min n 5))) 344 8 = p + ((n : Nat) : Int) := by
        rw [zu_place (by decide)]
        exact h.1.1
      have hh := h.num (v := zval (s0 345) p (min n 5))
      obtain ⟨s3, f1, f2⟩ := zhx_fails hh (c := 1) (at_ := p) (by omega) (by omega) (by omega) (by omega)
      constructor
      · rintro ⟨z1, z2⟩
        have e5 : min n 5 = n := by omega
        rw [e5] at g8 hh ⊢
        refine ⟨_, zb_138_49 (fun q => absurd q (by rw [g8, zw_id (by omega) (by omega)]; omega)) (fun _ => zb_138_58 (r := 1) (s1 := zu s 344 10 (zval (s0 345) p n)) (zb_125_0 (fun q => absurd (zsg_lt.mp q) (by omega)) (fun _ => zb_125_4 (fun q => absurd (zsg_gt.mp q) (by omega)) (fun _ => zb_125_8 rfl))) (zb_138_65 (fun q => absurd q (by decide)) (fun _ => zb_138_71 rfl))), hh, zu_hit⟩
      · intro z
        by_cases e5 : 5 < n
        · exact ⟨s3, zb_138_49 (fun _ => zb_138_66 f1 (zb_138_70 (fun _ => zb_138_73 rfl) (fun q => absurd rfl q))) (fun q => absurd (show 5 < zw ((zu s 344 10 (zval (s0 345) p (min n 5))) 344 8 - p) by rw [g8, zw_id (by omega) (by omega)]; omega) q), f2⟩
        · have e6 : min n 5 = n := by omega
          rw [e6] at g8 hh f1 ⊢
          have z := z.resolve_left e5
          refine ⟨s3, zb_138_49 (fun q => absurd q (by rw [g8, zw_id (by omega) (by omega)]; omega)) (fun _ => zb_138_58 (r := 0) (s1 := zu s 344 10 (zval (s0 345) p n)) ?_ (zb_138_65 (fun _ => zb_138_66 f1 (zb_138_70 (fun _ => zb_138_73 rfl) (fun q => absurd rfl q))) (fun q => absurd rfl q))), f2⟩
          by_cases z1 : zval (s0 345) p n < low
          · exact zb_125_0 (fun _ => zb_125_10 rfl) (fun q => absurd (zsg_lt.mpr z1) q)
          · exact zb_125_0 (fun q => absurd (zsg_lt.mp q) z1) (fun _ => zb_125_4 (fun _ => zb_125_10 rfl) (fun q => absurd (zsg_gt.mpr (show most < zval (s0 345) p n by omega)) q))
    have pre : ∀ R, zA xm_c138 19 [344, low, most, p, 0] [] s' R → zE xm_c138 [344, low, most, 0, 0] s R.1 R.2 := by
      intro R z
      refine zb_138_0 u1 (zb_138_2 (r := 1) (s1 := s') (by rw [e8]; exact hd) (zb_138_7 (fun q => absurd q (by decide)) (fun _ => zb_138_14 ?_)))
      rw [e8]
      exact z
    obtain ⟨d, s1, w1, w2, w3⟩ := zhx_n19 hc (p := p) (x1 := low) (x2 := most) (by omega) (by omega) _ 0 0 s' (by rw [show p + ((0 : Nat) : Int) = p by omega]; exact u2) (Nat.le_refl _) (by omega) (by rw [show p + ((0 : Nat) : Int) = p by omega]) rfl
    have hdd : (zg_te (s0 345) T p - p).toNat = d := by rw [hte]; omega
    have hte' : zg_te (s0 345) T p = p + ((d : Nat) : Int) := by rw [hte]; omega
    rw [hdd, hte']
    by_cases z : ¬ 5 < d ∧ (low ≤ zval (s0 345) p d ∧ zval (s0 345) p d ≤ most)
    · obtain ⟨s2, v1, v2, v3⟩ := (fin d s1 w1 w2).1 z
      exact Or.inl ⟨e, by omega, z.2, s2, pre (1, s2) (w3 _ v1), v2, v3⟩
    · have z' : 5 < d ∨ ¬ (low ≤ zval (s0 345) p d ∧ zval (s0 345) p d ≤ most) := by
        by_cases z5 : 5 < d
        · exact Or.inl z5
        · exact Or.inr (fun q => z ⟨z5, q⟩)
      obtain ⟨s2, v1, v2⟩ := (fin d s1 w1 w2).2 z'
      exact Or.inr (Or.inl ⟨e, z'.elim (fun q => Or.inl (by omega)) Or.inr, s2, pre (0, s2) (w3 _ v1), v2⟩)
  · refine Or.inr (Or.inr ⟨e, ?_⟩)
    rw [if_neg (fun z => e (hk.2.2.1.mpr z))] at hd
    obtain ⟨s2, f1, f2⟩ := zhx_fails u2 (c := 0) (at_ := p) (by omega) (by omega) (by omega) (by omega)
    refine ⟨s2, zb_138_0 u1 (zb_138_2 (r := 0) (s1 := s') (by rw [e8]; exact hd) (zb_138_7 (fun _ => zb_138_8 (r := 0) (s1 := s2) (by rw [e8]; exact f1) (zb_138_13 rfl)) (fun q => absurd rfl q))), f2⟩
end MC
