/-! the class's reader of rules on the flat machine, against the grammar -/
def zJ (s0 s1 : zS) : Prop := s1 8 1 = s0 8 1 ∧ ∀ x y, x ≠ 8 → x ≠ 39 → ¬ (240 ≤ x ∧ x < 264) → s1 x y = s0 x y
/-- where the reader is and how many are made, or its fault -/
abbrev zSg : Type := (Int × Int) ⊕ Int
def zSt (s0 : zS) (r T : Int) : zSg → zS → Prop
  | .inl (p, a), s => (0 ≤ p ∧ p ≤ T ∧ 0 ≤ a ∧ a ≤ 60) ∧ ∃ s1, s = zT s1 (zg_kind (s0 9) T p) p (zg_te (s0 9) T p - p) 0 ∧ s1 39 1 = r ∧ s1 39 2 = a ∧ zJ s0 s1
  | .inr f, s => f ≠ 0 ∧ ∃ s1 p, s = zT s1 (-2) p 0 f ∧ s1 39 1 = r ∧ zJ s0 s1
def zCx (s0 : zS) (r T : Int) : Prop := zg_by (s0 9) ∧ s0 8 1 = T ∧ 0 ≤ T ∧ T ≤ 400 ∧ (240 ≤ r ∧ r + 3 < 264)
def zRl (b : Int → Int) (T : Int) (A C : Int → Int → zQ) : zSg → zSg → Prop
  | .inr f, σ' => σ' = .inr f
  | .inl (p, a), .inl (p', a') => p ≤ p' ∧ zg_to b T (A p a) (C p' a')
  | .inl (p, a), .inr f => zg_end b T (A p a) f
theorem zRl_tr {b : Int → Int} {T : Int} {A B C : Int → Int → zQ} {σ σ1 σ2 : zSg} (h : zRl b T A B σ σ1) (h' : zRl b T B C σ1 σ2) : zRl b T A C σ σ2 := by
  match σ, σ1, σ2, h, h' with
  | .inr f, σ1, σ2, h, h' =>
    have h : σ1 = .inr f := h
    subst h
    exact h'
  | .inl (p, a), .inr f, σ2, h, h' =>
    have h' : σ2 = .inr f := h'
    subst h'
    exact h
  | .inl (p, a), .inl (p1, a1), .inl (p2, a2), h, h' => exact ⟨Int.le_trans h.1 h'.1, zg_trans h.2 h'.2⟩
  | .inl (p, a), .inl (p1, a1), .inr f, h, h' => exact zg_tend h.2 h'
def zkd (b : Int → Int) (T : Int) : zSg → Int
  | .inl (p, _) => zg_kind b T p
  | .inr _ => -2
def znx (b : Int → Int) (T : Int) : zSg → zSg
  | .inl (p, a) => .inl (zg_nx b T p, a)
  | .inr f => .inr f
def zfl (c : Int) : zSg → zSg
  | .inl (p, _) => .inr (1 + 8 * p + c)
  | .inr f => .inr f
def zwd (b : Int → Int) (T : Int) (k : Nat) : zSg → Int
  | .inl (p, _) => if zg_kind b T p = 97 then yg_ix (zg_w b p (zg_te b T p)) (yg_sw k) 0 else -1
  | .inr _ => -1
section ZC
variable {s0 s : zS} {r T : Int} {σ : zSg}
theorem zJ_9 {s1 : zS} (h : zJ s0 s1) : s1 9 = s0 9 := funext (fun y => h.2 9 y (by decide) (by decide) (by omega))
theorem zT_39 {k p n f y : Int} : zT s k p n f 39 y = s 39 y := zT_o (by decide)
theorem zSt.rl (h : zSt s0 r T σ s) : s 39 1 = r := by
  match σ, h with
  | .inl (p, a), ⟨_, s1, e, h1, _, _⟩ => rw [e, zT_39]; exact h1
  | .inr f, ⟨_, s1, p, e, h1, _⟩ => rw [e, zT_39]; exact h1
theorem zSt.kd (h : zSt s0 r T σ s) : s 8 2 = zkd (s0 9) T σ := by
  match σ, h with
  | .inl (p, a), ⟨_, s1, e, _⟩ => rw [e]; rfl
  | .inr f, ⟨_, s1, p, e, _⟩ => rw [e]; rfl
theorem zSt.junk (h : zSt s0 r T σ s) {x y v : Int} (h1 : 240 ≤ x) (h2 : x < 264) : zSt s0 r T σ (zu s x y v) := by
  have key : ∀ (s1 : zS) (k p n f : Int), zu (zT s1 k p n f) x y v = zT (zu s1 x y v) k p n f := by
    intro s1 k p n f
    funext a b
    unfold zu zT
    by_cases e : a = x ∧ b = y
    · obtain ⟨rfl, rfl⟩ := e
      simp only [and_self, if_true]
      rw [if_neg (by omega), if_neg (by omega), if_neg (by omega), if_neg (by omega)]
    · simp only [if_neg e]
  have kj : ∀ s1, zJ s0 s1 → zJ s0 (zu s1 x y v) := fun s1 hj => ⟨by rw [zu_cell (by omega)]; exact hj.1, fun a b h3 h4 h5 => by rw [zu_cell (by omega)]; exact hj.2 a b h3 h4 h5⟩
  match σ, h with
  | .inl (p, a), ⟨h0, s1, e, e1, e2, hj⟩ => exact ⟨h0, zu s1 x y v, by rw [e, key], by rw [zu_cell (by omega)]; exact e1, by rw [zu_cell (by omega)]; exact e2, kj s1 hj⟩
  | .inr f, ⟨h0, s1, p, e, e1, hj⟩ => exact ⟨h0, zu s1 x y v, p, by rw [e, key], by rw [zu_cell (by omega)]; exact e1, kj s1 hj⟩
theorem zT_u39 {s1 : zS} {k p n f v : Int} : zu (zT s1 k p n f) 39 2 v = zT (zu s1 39 2 v) k p n f := by
  funext a b
  unfold zu zT
  by_cases e : a = 39 ∧ b = 2
  · obtain ⟨rfl, rfl⟩ := e
    rfl
  · simp only [if_neg e]
theorem zJ_39 {s1 : zS} (hj : zJ s0 s1) {y v : Int} : zJ s0 (zu s1 39 y v) := ⟨by rw [zu_cell (by decide)]; exact hj.1, fun a b h3 h4 h5 => by rw [zu_cell h4]; exact hj.2 a b h3 h4 h5⟩
/-- one more is made -/
theorem zSt.inc {p a : Int} (h : zSt s0 r T (.inl (p, a)) s) (ha : a < 60) : zSt s0 r T (.inl (p, a + 1)) (zu s 39 2 (zw (s 39 2 + 1))) := by
  obtain ⟨h0, s1, e, e1, e2, hj⟩ := h
  have ea : s 39 2 = a := by rw [e, zT_39]; exact e2
  rw [ea, zw_id (by omega) (by omega)]
  exact ⟨by omega, zu s1 39 2 (a + 1), by rw [e, zT_u39], by rw [zu_place (by decide)]; exact e1, zu_hit, zJ_39 hj⟩
theorem zSt.incd {f : Int} (h : zSt s0 r T (.inr f) s) {v : Int} : zSt s0 r T (.inr f) (zu s 39 2 v) := by
  obtain ⟨h0, s1, p, e, e1, hj⟩ := h
  exact ⟨h0, zu s1 39 2 v, p, by rw [e, zT_u39], by rw [zu_place (by decide)]; exact e1, zJ_39 hj⟩
theorem zSt.am {p a : Int} (h : zSt s0 r T (.inl (p, a)) s) : s 39 2 = a := by
  obtain ⟨h0, s1, e, e1, e2, hj⟩ := h
  rw [e, zT_39]
  exact e2
theorem zSt.sz {p a : Int} (h : zSt s0 r T (.inl (p, a)) s) : s 8 4 = zg_te (s0 9) T p - p := by
  obtain ⟨h0, s1, e, e1, e2, hj⟩ := h
  rw [e]
  rfl
theorem zo_next (hc : zCx s0 r T) (h : zSt s0 r T σ s) : ∃ s', zE xm_c82 [8, 0, 0] s 0 s' ∧ zSt s0 r T (znx (s0 9) T σ) s' := by
  obtain ⟨c1, c2, c3, c4, c5⟩ := hc
  match σ, h with
  | .inl (p, a), ⟨h0, s1, e, e1, e2, hj⟩ =>
    have hl := zg_te_le c1 c4 h0.1
    have hn := zg_nx_le c1 c4 h0.1
    have e9 := zJ_9 hj
    refine ⟨zT s1 (zg_kind (s0 9) T (zg_nx (s0 9) T p)) (zg_nx (s0 9) T p) (zg_te (s0 9) T (zg_nx (s0 9) T p) - zg_nx (s0 9) T p) 0, ?_, ⟨by omega, s1, rfl, e1, e2, hj⟩⟩
    have z := zt_next (s := s1) (T := T) (k := zg_kind (s0 9) T p) (p := p) (n := zg_te (s0 9) T p - p) (q := zg_nx (s0 9) T p) (by rw [e9]; exact c1) (by rw [hj.1]; exact c2) c4 h0.1 (by omega) (by omega) (by rw [e9]; unfold zg_nx; rw [show p + (zg_te (s0 9) T p - p) = zg_te (s0 9) T p by omega])
    rw [e9] at z
    rw [e]
    exact z
  | .inr f, ⟨h0, s1, p, e, e1, hj⟩ =>
    refine ⟨s, ?_, ⟨h0, s1, p, e, e1, hj⟩⟩
    rw [e]
    exact zt_next0 h0
theorem zo_fail (hc : zCx s0 r T) (h : zSt s0 r T σ s) {c : Int} (hc0 : 0 ≤ c) (hc4 : c ≤ 4) : ∃ s', zE xm_c81 [8, c] s 0 s' ∧ zSt s0 r T (zfl c σ) s' := by
  obtain ⟨c1, c2, c3, c4, c5⟩ := hc
  match σ, h with
  | .inl (p, a), ⟨h0, s1, e, e1, e2, hj⟩ =>
    refine ⟨zT s1 (-2) p 0 (1 + 8 * p + c), ?_, ⟨by omega, s1, p, rfl, e1, hj⟩⟩
    rw [e]
    exact zt_fail h0.1 (by omega) hc0 hc4
  | .inr f, ⟨h0, s1, p, e, e1, hj⟩ =>
    refine ⟨zT s1 (-2) p 0 f, ?_, ⟨h0, s1, p, rfl, e1, hj⟩⟩
    rw [e]
    exact zt_fail0 h0
theorem zo_word (hc : zCx s0 r T) (h : zSt s0 r T σ s) {k : Nat} (k1 : 1 ≤ k) (k6 : k < 6) : zE xm_c83 [8, (k : Int) + 1, 0, 0, 0] s (zwd (s0 9) T k σ) s := by
  obtain ⟨c1, c2, c3, c4, c5⟩ := hc
  match σ, h with
  | .inl (p, a), ⟨h0, s1, e, e1, e2, hj⟩ =>
    have hl := zg_te_le c1 c4 h0.1
    have e9 := zJ_9 hj
    show zE xm_c83 _ s (if zg_kind (s0 9) T p = 97 then yg_ix (zg_w (s0 9) p (zg_te (s0 9) T p)) (yg_sw k) 0 else -1) s
    by_cases hk : zg_kind (s0 9) T p = 97
    · rw [if_pos hk]
      have z := zt_word (s := s) (p := p) (n := zg_te (s0 9) T p - p) k1 k6 (by rw [e]; exact hk) (by rw [e]; rfl) (by rw [e]; rfl) h0.1 (by omega) (by omega)
      rw [show s 9 = s0 9 from by rw [← e9, e]; exact funext (fun y => zT_9), show p + (zg_te (s0 9) T p - p) = zg_te (s0 9) T p by omega] at z
      exact z
    · rw [if_neg hk]
      exact zt_word0 (by rw [e]; exact hk)
  | .inr f, ⟨h0, s1, p, e, e1, hj⟩ => exact zt_word0 (by rw [e]; show (-2 : Int) ≠ 97; decide)
/-- Rule.emit, closeSum, closeClause: into the rule's cells alone -/
theorem zo_emit (hc : zCx s0 r T) (h : zSt s0 r T σ s) {op arg : Int} : ∃ s', zE xm_c60 [r, op, arg] s 0 s' ∧ zSt s0 r T σ s' := by
  obtain ⟨c1, c2, c3, c4, c5⟩ := hc
  by_cases e : s r 3 < zw (zlen (r + 1))
  · exact ⟨_, zb_60_0 (zb_60_4 (by omega) (zb_60_5 (fun _ => zb_60_6 rfl) (fun q => absurd e q))), (h.junk (by omega) (by omega)).junk (by omega) (by omega)⟩
  · exact ⟨_, zb_60_0 (zb_60_4 (by omega) (zb_60_5 (fun q => absurd q e) (fun _ => zb_60_22 rfl))), h⟩
theorem zo_csum (hc : zCx s0 r T) (h : zSt s0 r T σ s) : ∃ s', zE xm_c61 [r] s 0 s' ∧ zSt s0 r T σ s' := by
  obtain ⟨c1, c2, c3, c4, c5⟩ := hc
  by_cases e : s r 4 < 12
  · exact ⟨_, zb_61_0 (fun _ => zb_61_4 rfl) (fun q => absurd e q), h.junk (by omega) (by omega)⟩
  · exact ⟨_, zb_61_0 (fun q => absurd q e) (fun _ => zb_61_11 rfl), h⟩
theorem zo_ccl (hc : zCx s0 r T) (h : zSt s0 r T σ s) : ∃ s', zE xm_c62 [r] s 0 s' ∧ zSt s0 r T σ s' := by
  obtain ⟨c1, c2, c3, c4, c5⟩ := hc
  by_cases e : s r 4 < 12
  · exact ⟨_, zb_62_0 (fun _ => zb_62_4 rfl) (fun q => absurd e q), (h.junk (by omega) (by omega)).junk (by omega) (by omega)⟩
  · exact ⟨_, zb_62_0 (fun q => absurd q e) (fun _ => zb_62_17 rfl), h⟩
theorem zo_val : ∃ v, zE xm_c84 [8, 0, 0] s v s := by
  have key : ∀ (m : Nat) (v i : Int), 0 ≤ i → i ≤ 5 → (5 - i).toNat ≤ m → ∃ w, zA xm_c84 4 [8, v, i] [] s (w, s) := by
    intro m
    induction m with
    | zero =>
      intro v i h0 h5 hm
      exact ⟨v, zb_84_4 (fun _ => zb_84_8 (fun _ => zb_84_12 (fun q => absurd q (by omega)) (fun _ => zb_84_31 rfl)) (fun _ => zb_84_31 rfl)) (fun _ => zb_84_31 rfl)⟩
    | succ m ih =>
      intro v i h0 h5 hm
      by_cases e1 : s 8 2 = 48
      · by_cases e2 : i < s 8 4
        · by_cases e3 : i < 5
          · obtain ⟨w, hw⟩ := ih (zw ((zw ((zw (v * 10)) + (s (8 + 1) (zw ((s 8 3) + i))))) - 48)) (i + 1) (by omega) (by omega) (by omega)
            refine ⟨w, zb_84_4 (fun _ => zb_84_8 (fun _ => zb_84_12 (fun _ => zb_84_15 ?_) (fun q => absurd e3 q)) (fun q => absurd e2 q)) (fun q => absurd e1 q)⟩
            rw [zw_id (x := i + 1) (by omega) (by omega)]
            exact hw
          · exact ⟨v, zb_84_4 (fun _ => zb_84_8 (fun _ => zb_84_12 (fun q => absurd q e3) (fun _ => zb_84_31 rfl)) (fun q => absurd e2 q)) (fun q => absurd e1 q)⟩
        · exact ⟨v, zb_84_4 (fun _ => zb_84_8 (fun q => absurd q e2) (fun _ => zb_84_31 rfl)) (fun q => absurd e1 q)⟩
      · exact ⟨v, zb_84_4 (fun q => absurd q e1) (fun _ => zb_84_31 rfl)⟩
  obtain ⟨w, hw⟩ := key 5 0 0 (by omega) (by omega) (by omega)
  exact ⟨w, zb_84_0 hw⟩
end ZC
