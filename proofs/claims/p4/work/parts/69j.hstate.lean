/-! the class's reader of houses on the flat machine: state, numbers, words -/
def zJh (s0 s1 : zS) : Prop := s1 8 1 = s0 8 1 ∧ ∀ x y, x ≠ 8 → ¬ (30 ≤ x ∧ x < 38) → s1 x y = s0 x y
/-- the class's record of a house against what is told -/
def zHr (R : zHS) (s : zS) : Prop := (s 30 0 = R 0 ∧ s 30 1 = R 1 ∧ s 30 2 = R 2 ∧ s 30 3 = R 3) ∧ s 30 7 = R 5 ∧ s 30 8 = R 6 ∧ s 30 9 = R 7
def zCs (s0 : zS) (T : Int) : zHg → zS → Prop
  | .inl (p, R), s => (0 ≤ p ∧ p ≤ T) ∧ ∃ s1, s = zT s1 (zg_kind (s0 9) T p) p (zg_te (s0 9) T p - p) 0 ∧ zHr R s1 ∧ zJh s0 s1
  | .inr f, s => f ≠ 0 ∧ ∃ s1 p, s = zT s1 (-2) p 0 f ∧ zJh s0 s1
def zCh (s0 : zS) (T : Int) : Prop := zg_by (s0 9) ∧ s0 8 1 = T ∧ 0 ≤ T ∧ T ≤ 400
theorem zT_u {s1 : zS} {k p n f x y v : Int} (hx : x ≠ 8) : zu (zT s1 k p n f) x y v = zT (zu s1 x y v) k p n f := by
  funext a b
  unfold zu zT
  by_cases e : a = x ∧ b = y
  · obtain ⟨rfl, rfl⟩ := e
    simp only [and_self, if_true]
    rw [if_neg (by omega), if_neg (by omega), if_neg (by omega), if_neg (by omega)]
  · simp only [if_neg e]
theorem zJh_9 {s0 s1 : zS} (h : zJh s0 s1) : s1 9 = s0 9 := funext (fun y => h.2 9 y (by decide) (by omega))
theorem zJh_u {s0 s1 : zS} (h : zJh s0 s1) {x y v : Int} (h1 : 30 ≤ x) (h2 : x < 38) : zJh s0 (zu s1 x y v) := ⟨by rw [zu_cell (by omega)]; exact h.1, fun a b h3 h4 => by rw [zu_cell (by omega)]; exact h.2 a b h3 h4⟩
section CH
variable {s0 s : zS} {T : Int}
theorem zCs.hr {p : Int} {R : zHS} (h : zCs s0 T (.inl (p, R)) s) : zHr R s := by
  obtain ⟨-, s1, e, h1, -⟩ := h
  have k : ∀ y, s 30 y = s1 30 y := fun y => by rw [e]; exact zT_o (by decide)
  unfold zHr at h1 ⊢
  rw [k, k, k, k, k, k, k]
  exact h1
theorem zCs.kd {p : Int} {R : zHS} (h : zCs s0 T (.inl (p, R)) s) : s 8 2 = zg_kind (s0 9) T p := by
  obtain ⟨-, s1, e, -⟩ := h
  rw [e]
  rfl
theorem zCs.pl {p : Int} {R : zHS} (h : zCs s0 T (.inl (p, R)) s) : s 8 3 = p := by
  obtain ⟨-, s1, e, -⟩ := h
  rw [e]
  rfl
theorem zCs.sz {p : Int} {R : zHS} (h : zCs s0 T (.inl (p, R)) s) : s 8 4 = zg_te (s0 9) T p - p := by
  obtain ⟨-, s1, e, -⟩ := h
  rw [e]
  rfl
theorem zCs.f0 {p : Int} {R : zHS} (h : zCs s0 T (.inl (p, R)) s) : s 8 5 = 0 := by
  obtain ⟨-, s1, e, -⟩ := h
  rw [e]
  rfl
theorem zCs.b9 {p : Int} {R : zHS} (h : zCs s0 T (.inl (p, R)) s) : s 9 = s0 9 := by
  obtain ⟨-, s1, e, -, hj⟩ := h
  rw [← zJh_9 hj, e]
  funext y
  exact zT_o (by decide)
theorem zCs.kf {f : Int} (h : zCs s0 T (.inr f) s) : s 8 2 = -2 := by
  obtain ⟨-, s1, p, e, -⟩ := h
  rw [e]
  rfl
theorem zCs.ff {f : Int} (h : zCs s0 T (.inr f) s) : s 8 5 = f := by
  obtain ⟨-, s1, p, e, -⟩ := h
  rw [e]
  rfl
theorem zCs.fn {f : Int} (h : zCs s0 T (.inr f) s) : ¬ s 8 5 = 0 := by
  rw [h.ff]
  exact h.1
/-- with a fault what is told may be what it will -/
theorem zCs.junk {f x y v : Int} (h : zCs s0 T (.inr f) s) (h1 : 30 ≤ x) (h2 : x < 38) : zCs s0 T (.inr f) (zu s x y v) := by
  obtain ⟨h0, s1, p, e, hj⟩ := h
  exact ⟨h0, zu s1 x y v, p, by rw [e, zT_u (by omega)], zJh_u hj h1 h2⟩
/-- without, what is told is put down -/
theorem zCs.put {p : Int} {R R' : zHS} {x y v : Int} (h : zCs s0 T (.inl (p, R)) s) (h1 : 30 ≤ x) (h2 : x < 38) (hr : ∀ s1, (∀ a b, a ≠ 8 → s1 a b = s a b) → zHr R s1 → zHr R' (zu s1 x y v)) : zCs s0 T (.inl (p, R')) (zu s x y v) := by
  obtain ⟨h0, s1, e, hh, hj⟩ := h
  exact ⟨h0, zu s1 x y v, by rw [e, zT_u (by omega)], hr s1 (fun a b ha => by rw [e, zT_o ha]) hh, zJh_u hj h1 h2⟩
theorem zc_next (hc : zCh s0 T) {p : Int} {R : zHS} (h : zCs s0 T (.inl (p, R)) s) : ∃ s', zE xm_c82 [8, 0, 0] s 0 s' ∧ zCs s0 T (.inl (zg_nx (s0 9) T p, R)) s' := by
  obtain ⟨c1, c2, c3, c4⟩ := hc
  obtain ⟨h0, s1, e, hh, hj⟩ := h
  have hl := zg_te_le c1 c4 h0.1
  have hn := zg_nx_le c1 c4 h0.1
  have e9 := zJh_9 hj
  refine ⟨zT s1 (zg_kind (s0 9) T (zg_nx (s0 9) T p)) (zg_nx (s0 9) T p) (zg_te (s0 9) T (zg_nx (s0 9) T p) - zg_nx (s0 9) T p) 0, ?_, ⟨by omega, s1, rfl, hh, hj⟩⟩
  have z := zt_next (s := s1) (T := T) (k := zg_kind (s0 9) T p) (p := p) (n := zg_te (s0 9) T p - p) (q := zg_nx (s0 9) T p) (by rw [e9]; exact c1) (by rw [hj.1]; exact c2) c4 h0.1 (by omega) (by omega) (by rw [e9]; unfold zg_nx; rw [show p + (zg_te (s0 9) T p - p) = zg_te (s0 9) T p by omega])
  rw [e9] at z
  rw [e]
  exact z
theorem zc_nextd {f : Int} (h : zCs s0 T (.inr f) s) : zE xm_c82 [8, 0, 0] s 0 s := by
  obtain ⟨h0, s1, p, e, hj⟩ := h
  rw [e]
  exact zt_next0 h0
theorem zc_fail (hc : zCh s0 T) {p : Int} {R : zHS} (h : zCs s0 T (.inl (p, R)) s) {c : Int} (hc0 : 0 ≤ c) (hc4 : c ≤ 4) : ∃ s', zE xm_c81 [8, c] s 0 s' ∧ zCs s0 T (.inr (1 + 8 * p + c)) s' := by
  obtain ⟨c1, c2, c3, c4⟩ := hc
  obtain ⟨h0, s1, e, hh, hj⟩ := h
  refine ⟨zT s1 (-2) p 0 (1 + 8 * p + c), ?_, ⟨by omega, s1, p, rfl, hj⟩⟩
  rw [e]
  exact zt_fail h0.1 (by omega) hc0 hc4
theorem zc_faild {f : Int} (h : zCs s0 T (.inr f) s) {c : Int} : ∃ s', zE xm_c81 [8, c] s 0 s' ∧ zCs s0 T (.inr f) s' := by
  obtain ⟨h0, s1, p, e, hj⟩ := h
  refine ⟨zT s1 (-2) p 0 f, ?_, ⟨h0, s1, p, rfl, hj⟩⟩
  rw [e]
  exact zt_fail0 h0
/-! the words -/
def zhsok : Bool := match xm_stb[0]? with
  | some bs => decide (bs = yg_cat zhws) && (decide (bs.length ≤ 100) && (bs.all (fun c => decide (c < 128)) && (zhws.all (fun w => w.all (fun c => decide (c ≠ 32))) && decide (zhws ≠ []))))
  | none => false
theorem zhsoks : zhsok = true := by decide +kernel
theorem zc_word (hc : zCh s0 T) {p : Int} {R : zHS} (h : zCs s0 T (.inl (p, R)) s) : zE xm_c83 [8, 1, 0, 0, 0] s (zhw (s0 9) T p) s := by
  have hk := h.kd
  have hp := h.pl
  have hn := h.sz
  have h9 := h.b9
  have h0 := h.1
  have hte := zg_te_le (b := s0 9) (T := T) (p := p) hc.1 hc.2.2.2 h0.1
  have h4 := hc.2.2.2
  unfold zhw
  by_cases e : zg_kind (s0 9) T p = 97
  · rw [if_pos e]
    have h0 := zhsoks
    unfold zhsok at h0
    cases hb : xm_stb[0]? with
    | none => rw [hb] at h0; cases h0
    | some bs =>
      rw [hb] at h0
      dsimp only at h0
      rw [Bool.and_eq_true, Bool.and_eq_true, Bool.and_eq_true, Bool.and_eq_true, decide_eq_true_eq, decide_eq_true_eq, decide_eq_true_eq] at h0
      have hstr : zstr 1 = bs := by
        unfold zstr
        rw [xl_nth, show (1 : Int).toNat - 1 = 0 by decide, hb]
      have z := zt_w6 (s := s) (j := 1) (p := p) (n := zg_te (s0 9) T p - p) (bs := bs) (tok := zg_w (s0 9) p (zg_te (s0 9) T p)) (R := yg_ix (zg_w (s0 9) p (zg_te (s0 9) T p)) zhws 0) (by rw [hk]; exact e) hp hn (by omega) (by omega) (by omega) (by rw [h9, show p + (zg_te (s0 9) T p - p) = zg_te (s0 9) T p by omega]) hstr h0.2.1 (fun c hc => of_decide_eq_true (List.all_eq_true.mp h0.2.2.1 c hc)) _ 0 0 0 (by omega) (by omega) (by omega) (by omega) (Or.inl ⟨by omega, by
        show yg_ww _ bs 0 0 = _
        rw [h0.1, yg_wix zhws 0 h0.2.2.2.2 (fun w hw c hc => of_decide_eq_true (List.all_eq_true.mp (List.all_eq_true.mp h0.2.2.2.1 w hw) c hc))]⟩) (Nat.le_refl _)
      exact zb_83_0 z
  · rw [if_neg e]
    exact zt_word0 (by rw [hk]; exact e)
/-! numbers -/
theorem zc_v4 {s : zS} {p : Int} {n : Nat} (hk : s 8 2 = 48) (hp : s 8 3 = p) (hn : s 8 4 = ((n : Nat) : Int)) (hp0 : 0 ≤ p) (hp4 : p ≤ 400) (hin : ∀ i : Nat, i < n → 48 ≤ s 9 (p + ((i : Nat) : Int)) ∧ s 9 (p + ((i : Nat) : Int)) ≤ 57) : ∀ (k i : Nat), min n 5 - i ≤ k → i ≤ min n 5 → zA xm_c84 4 [8, zval (s 9) p i, ((i : Nat) : Int)] [] s (zval (s 9) p (min n 5), s) := by
  intro k
  induction k with
  | zero =>
    intro i hk2 hi
    have e : i = min n 5 := by omega
    refine zb_84_4 (fun _ => zb_84_8 (fun q => zb_84_12 (fun q2 => ?_) (fun _ => zb_84_31 (by rw [e]))) (fun _ => zb_84_31 (by rw [e]))) (fun q => absurd hk q)
    rw [hn] at q
    omega
  | succ k ih =>
    intro i hk2 hi
    by_cases e : i = min n 5
    · refine zb_84_4 (fun _ => zb_84_8 (fun q => zb_84_12 (fun q2 => ?_) (fun _ => zb_84_31 (by rw [e]))) (fun _ => zb_84_31 (by rw [e]))) (fun q => absurd hk q)
      rw [hn] at q
      omega
    · have hlt : i < n := by omega
      have hlt5 : i < 5 := by omega
      have hb := zval_b (b := s 9) (p := p) i (by omega) (fun j hj => hin j (by omega))
      have hd := hin i hlt
      have hpow : (10 : Int) ^ i ≤ 10000 := by
        rcases (show i = 0 ∨ i = 1 ∨ i = 2 ∨ i = 3 ∨ i = 4 by omega) with rfl | rfl | rfl | rfl | rfl <;> decide
      refine zb_84_4 (fun _ => zb_84_8 (fun _ => zb_84_12 (fun _ => zb_84_15 ?_) (fun q => absurd (show ((i : Nat) : Int) < 5 by omega) q)) (fun q => absurd (show ((i : Nat) : Int) < s 8 4 by rw [hn]; omega) q)) (fun q => absurd hk q)
      have z := ih (i + 1) (by omega) (by omega)
      have e1 : zw (((i : Nat) : Int) + 1) = ((i + 1 : Nat) : Int) := zw_id (by omega) (by omega)
      have e2 : zw ((zw ((zw (zval (s 9) p i * 10)) + (s (8 + 1) (zw ((s 8 3) + ((i : Nat) : Int)))))) - 48) = zval (s 9) p (i + 1) := by
        have q1 : zw (p + ((i : Nat) : Int)) = p + ((i : Nat) : Int) := by
          clear hb hpow ih hd hin
          exact zw_id (by omega) (by omega)
        rw [hp, show (8 : Int) + 1 = 9 from rfl, q1, zw_id (x := zval (s 9) p i * 10) (by omega) (by omega), zw_id (x := zval (s 9) p i * 10 + s 9 (p + ((i : Nat) : Int))) (by omega) (by omega), zw_id (by omega) (by omega)]
        show _ = 10 * zval (s 9) p i + s 9 (p + ((i : Nat) : Int)) - 48
        omega
      rw [e1, e2]
      exact z
theorem zc_val (hc : zCh s0 T) {p : Int} {R : zHS} (h : zCs s0 T (.inl (p, R)) s) : ∃ v, zE xm_c84 [8, 0, 0] s v s ∧ (zg_kind (s0 9) T p = 48 → ¬ 5 < zg_te (s0 9) T p - p → v = zhv (s0 9) T p) := by
  have hk := h.kd
  have h0 := h.1
  have hkl := zg_kl (b := s0 9) (T := T) (p := p) hc.1 hc.2.2.2 h0.1
  have hte := zg_te_le (b := s0 9) (T := T) (p := p) hc.1 hc.2.2.2 h0.1
  have h4 := hc.2.2.2
  by_cases e : zg_kind (s0 9) T p = 48
  · have hr := hkl.2.2.2 e
    have z := zc_v4 (s := s) (p := p) (n := (zg_te (s0 9) T p - p).toNat) (by rw [hk]; exact e) h.pl (by rw [h.sz]; omega) (by omega) (by omega) (fun i hi => by
      rw [h.b9]
      exact (zg_run_in (b := s0 9) (T := T) (lo := 48) (hi := 57) (p := p) (i := p + ((i : Nat) : Int)) (by omega) (by omega)).2) _ 0 (Nat.le_refl _) (by omega)
    refine ⟨_, zb_84_0 z, fun _ h5 => ?_⟩
    rw [h.b9, show min (zg_te (s0 9) T p - p).toNat 5 = (zg_te (s0 9) T p - p).toNat by omega]
    rfl
  · exact ⟨0, zb_84_0 (zb_84_4 (fun q => absurd (show zg_kind (s0 9) T p = 48 by rw [← hk]; exact q) e) (fun _ => zb_84_31 rfl)), fun q => absurd q e⟩
/-- Tape.number -/
theorem zc_num (hc : zCh s0 T) {p : Int} {R : zHS} (h : zCs s0 T (.inl (p, R)) s) (lo hi un : Int) : (∃ v q s', zhn (s0 9) T p lo hi un = .inl (v, q) ∧ zE xm_c85 [8, lo, hi, un, 0] s v s' ∧ zCs s0 T (.inl (q, R)) s') ∨ (∃ f s', zhn (s0 9) T p lo hi un = .inr f ∧ zE xm_c85 [8, lo, hi, un, 0] s 0 s' ∧ zCs s0 T (.inr f) s') := by
  obtain ⟨v, v1, v2⟩ := zc_val hc h
  have hk := h.kd
  have hn := h.sz
  unfold zhn
  by_cases e : zg_kind (s0 9) T p = 48
  · rw [if_pos e]
    have bad : ∀ (x : Int), (∀ (s2 : zS), zE xm_c81 [8, 1] s 0 s2 → zA xm_c85 12 [8, lo, hi, un, v] [] s (0, s2)) → (5 < zg_te (s0 9) T p - p ∨ zhv (s0 9) T p < lo ∨ hi < zhv (s0 9) T p ∨ zhv (s0 9) T p = un) → (∃ v q s', (if 5 < zg_te (s0 9) T p - p ∨ zhv (s0 9) T p < lo ∨ hi < zhv (s0 9) T p ∨ zhv (s0 9) T p = un then (.inr (1 + 8 * p + 1) : (Int × Int) ⊕ Int) else .inl (zhv (s0 9) T p, zg_nx (s0 9) T p)) = .inl (v, q) ∧ zE xm_c85 [8, lo, hi, un, 0] s v s' ∧ zCs s0 T (.inl (q, R)) s') ∨ (∃ f s', (if 5 < zg_te (s0 9) T p - p ∨ zhv (s0 9) T p < lo ∨ hi < zhv (s0 9) T p ∨ zhv (s0 9) T p = un then (.inr (1 + 8 * p + 1) : (Int × Int) ⊕ Int) else .inl (zhv (s0 9) T p, zg_nx (s0 9) T p)) = .inr f ∧ zE xm_c85 [8, lo, hi, un, 0] s 0 s' ∧ zCs s0 T (.inr f) s') := by
      intro x run q
      obtain ⟨s2, f1, f2⟩ := zc_fail hc h (c := 1) (by omega) (by omega)
      rw [if_pos q]
      exact Or.inr ⟨_, s2, rfl, zb_85_0 v1 (zb_85_2 (fun _ => run s2 f1) (fun z => absurd (by rw [hk]; exact e) z)), f2⟩
    by_cases e5 : 5 < zg_te (s0 9) T p - p
    · exact bad 0 (fun s2 f1 => zb_85_12 (fun _ => zb_85_25 f1 (zb_85_28 rfl)) (fun z => absurd (by rw [hn]; exact e5) z)) (Or.inl e5)
    · have ev := v2 e e5
      have p16 : ∀ {R' : Int × zS}, zA xm_c85 16 [8, lo, hi, un, v] [] s R' → zA xm_c85 12 [8, lo, hi, un, v] [] s R' := fun z => zb_85_12 (fun q => absurd (by rw [hn] at q; exact q) e5) (fun _ => z)
      by_cases el : v < lo
      · exact bad 0 (fun s2 f1 => p16 (zb_85_16 (fun _ => zb_85_25 f1 (zb_85_28 rfl)) (fun z => absurd el z))) (Or.inr (Or.inl (by rw [← ev]; exact el)))
      · by_cases eh : hi < v
        · exact bad 0 (fun s2 f1 => p16 (zb_85_16 (fun z => absurd z el) (fun _ => zb_85_19 (fun _ => zb_85_25 f1 (zb_85_28 rfl)) (fun z => absurd eh z)))) (Or.inr (Or.inr (Or.inl (by rw [← ev]; exact eh))))
        · by_cases eu : v = un
          · exact bad 0 (fun s2 f1 => p16 (zb_85_16 (fun z => absurd z el) (fun _ => zb_85_19 (fun z => absurd z eh) (fun _ => zb_85_22 (fun _ => zb_85_25 f1 (zb_85_28 rfl)) (fun z => absurd eu z))))) (Or.inr (Or.inr (Or.inr (by rw [← ev]; exact eu))))
          · obtain ⟨s2, n1, n2⟩ := zc_next hc h
            rw [if_neg (by rw [← ev]; omega)]
            refine Or.inl ⟨_, _, s2, rfl, ?_, n2⟩
            rw [← ev]
            exact zb_85_0 v1 (zb_85_2 (fun _ => p16 (zb_85_16 (fun z => absurd z el) (fun _ => zb_85_19 (fun z => absurd z eh) (fun _ => zb_85_22 (fun z => absurd z eu) (fun _ => zb_85_30 n1 (zb_85_32 rfl)))))) (fun z => absurd (by rw [hk]; exact e) z))
  · obtain ⟨s2, f1, f2⟩ := zc_fail hc h (c := 0) (by omega) (by omega)
    rw [if_neg e]
    exact Or.inr ⟨_, s2, rfl, zb_85_0 v1 (zb_85_2 (fun z => absurd (by rw [← hk]; exact z) e) (fun _ => zb_85_7 f1 (zb_85_10 rfl))), f2⟩
theorem zc_numd {f : Int} (h : zCs s0 T (.inr f) s) (lo hi un : Int) : ∃ s', zE xm_c85 [8, lo, hi, un, 0] s 0 s' ∧ zCs s0 T (.inr f) s' := by
  have hk := h.kf
  obtain ⟨s2, f1, f2⟩ := zc_faild h (c := 0)
  have nk : ¬ s 8 2 = 48 := by rw [hk]; decide
  exact ⟨s2, zb_85_0 (r := 0) (s1 := s) (zb_84_0 (zb_84_4 (fun q => absurd q nk) (fun _ => zb_84_31 rfl))) (zb_85_2 (fun q => absurd q nk) (fun _ => zb_85_7 f1 (zb_85_10 rfl))), f2⟩
end CH
