/-! the class's reader of rules against the grammar with its code: state, emit, tokens -/
def zat (o : List Int) (i : Nat) : Int := (o.reverse[i]?).getD 0
theorem zat_c {o : List Int} {c : Int} {i : Nat} : zat (c :: o) i = if i = o.length then c else zat o i := by
  unfold zat
  rw [List.reverse_cons]
  by_cases h : i < o.length
  · rw [List.getElem?_append_left (by rw [List.length_reverse]; exact h), if_neg (by omega)]
  · rw [List.getElem?_append_right (by rw [List.length_reverse]; omega), List.length_reverse]
    by_cases e : i = o.length
    · subst e
      rw [if_pos rfl, Nat.sub_self]
      rfl
    · rw [if_neg e, List.getElem?_eq_none (by show 1 ≤ i - o.length; omega), List.getElem?_eq_none (by rw [List.length_reverse]; omega)]
/-- the class's numbers of what is done -/
def zom (o : Int) : Int := if o = 14 then 6 else if o = 11 then 14 else if 6 ≤ o ∧ o ≤ 10 then o + 1 else o
def zcm (c : Int) : Int := c - c % 16 + zom (c % 16)
theorem zcm_0 {v : Int} (h0 : 0 ≤ v) (h1 : v ≤ 99999) : zw (zw (v * 16) + 0) = zcm (0 + 16 * v) := by
  have e : (0 + 16 * v) % 16 = 0 := by omega
  unfold zcm
  rw [e, zw_id (x := v * 16) (by omega) (by omega), zw_id (by omega) (by omega)]
  show _ = 0 + 16 * v - 0 + 0
  omega
theorem zcm_1 {v : Int} (h0 : 0 ≤ v) (h1 : v ≤ 99999) : zw (zw (v * 16) + 1) = zcm (1 + 16 * v) := by
  have e : (1 + 16 * v) % 16 = 1 := by omega
  unfold zcm
  rw [e, zw_id (x := v * 16) (by omega) (by omega), zw_id (by omega) (by omega)]
  show _ = 1 + 16 * v - 1 + 1
  omega
def zJe (s0 : zS) (r : Int) (s1 : zS) : Prop := s1 8 1 = s0 8 1 ∧ ∀ x y, x ≠ 8 → x ≠ 39 → ¬ (r ≤ x ∧ x < r + 4) → s1 x y = s0 x y
/-- the class's cells of a rule against what is made: 240 places of code at most; the marks -/
def zCd (r : Int) (a : zW) (s : zS) : Prop := (s r 3 = ((min a.2.1.length 240 : Nat) : Int) ∧ ∀ i : Nat, i < a.2.1.length → i < 240 → s (r + 1) ((i : Nat) : Int) = zcm (zat a.2.1 i)) ∧ (s r 4 = ((a.2.2.2.2.length / 2 : Nat) : Int) ∧ s (r + 2) 0 = 0 ∧ ∀ i : Nat, 2 * i < a.2.2.2.2.length → s (r + 3) ((i : Nat) : Int) = min (zat a.2.2.2.2 (2 * i)) 240 ∧ (2 * i + 1 < a.2.2.2.2.length → s (r + 2) (((i + 1 : Nat)) : Int) = min (zat a.2.2.2.2 (2 * i + 1)) 240))
/-- the first sum's place is never written -/
def zQ0 (r : Int) (s : zS) : Prop := s (r + 2) 0 = 0 ∧ 0 ≤ s r 4
abbrev zSi : Type := (Int × zW) ⊕ Int
def zSe (s0 : zS) (r T : Int) : zSi → zS → Prop
  | .inl (p, a), s => (0 ≤ p ∧ p ≤ T ∧ 0 ≤ a.1 ∧ a.1 ≤ 60) ∧ ∃ s1, s = zT s1 (zg_kind (s0 9) T p) p (zg_te (s0 9) T p - p) 0 ∧ s1 39 1 = r ∧ s1 39 2 = a.1 ∧ zCd r a s1 ∧ zJe s0 r s1
  | .inr f, s => f ≠ 0 ∧ ∃ s1 p, s = zT s1 (-2) p 0 f ∧ s1 39 1 = r ∧ zJe s0 r s1 ∧ zQ0 r s1
def zCz (s0 : zS) (r T : Int) : Prop := zg_by (s0 9) ∧ s0 8 1 = T ∧ 0 ≤ T ∧ T ≤ 400 ∧ (240 ≤ r ∧ r + 3 < 264) ∧ zw (zlen (r + 1)) = 240
/-- what becomes of it by a stretch of the grammar; the marks stay -/
def zRe (b : Int → Int) (T : Int) (A C : Int → zW → zQe) : zSi → zSi → Prop
  | .inr f, σ' => σ' = .inr f
  | .inl (p, a), .inl (p', a') => (p ≤ p' ∧ a'.2.2.2.2 = a.2.2.2.2) ∧ ze_to b T (A p a) (C p' a')
  | .inl (p, a), .inr f => ∃ w, ze_end b T (A p a) (f, w)
theorem zRe_tr {b : Int → Int} {T : Int} {A B C : Int → zW → zQe} {σ σ1 σ2 : zSi} (h : zRe b T A B σ σ1) (h' : zRe b T B C σ1 σ2) : zRe b T A C σ σ2 := by
  match σ, σ1, σ2, h, h' with
  | .inr f, σ1, σ2, h, h' =>
    have h : σ1 = .inr f := h
    subst h
    exact h'
  | .inl (p, a), .inr f, σ2, h, h' =>
    have h' : σ2 = .inr f := h'
    subst h'
    exact h
  | .inl (p, a), .inl (p1, a1), .inl (p2, a2), h, h' => exact ⟨⟨Int.le_trans h.1.1 h'.1.1, h'.1.2.trans h.1.2⟩, ze_trans h.2 h'.2⟩
  | .inl (p, a), .inl (p1, a1), .inr f, h, h' =>
    obtain ⟨w, hw⟩ := h'
    exact ⟨w, ze_tend h.2 hw⟩
def zykd (b : Int → Int) (T : Int) : zSi → Int
  | .inl (p, _) => zg_kind b T p
  | .inr _ => -2
def zynx (b : Int → Int) (T : Int) : zSi → zSi
  | .inl (p, a) => .inl (zg_nx b T p, a)
  | .inr f => .inr f
def zyfl (c : Int) : zSi → zSi
  | .inl (p, _) => .inr (1 + 8 * p + c)
  | .inr f => .inr f
def zywd (b : Int → Int) (T : Int) (k : Nat) : zSi → Int
  | .inl (p, _) => if zg_kind b T p = 97 then yg_ix (zg_w b p (zg_te b T p)) (yg_sw k) 0 else -1
  | .inr _ => -1
def zyep (c : Int) : zSi → zSi
  | .inl (p, a) => .inl (p, zep a c)
  | .inr f => .inr f
section YC
variable {s0 s : zS} {r T : Int} {σ : zSi}
theorem zJe_9 {s1 : zS} (h : zJe s0 r s1) (hr : 240 ≤ r) : s1 9 = s0 9 := funext (fun y => h.2 9 y (by decide) (by decide) (by omega))
theorem zSe.rl (h : zSe s0 r T σ s) : s 39 1 = r := by
  match σ, h with
  | .inl (p, a), ⟨_, s1, e, h1, _⟩ => rw [e, zT_39]; exact h1
  | .inr f, ⟨_, s1, p, e, h1, _⟩ => rw [e, zT_39]; exact h1
theorem zSe.kd (h : zSe s0 r T σ s) : s 8 2 = zykd (s0 9) T σ := by
  match σ, h with
  | .inl (p, a), ⟨_, s1, e, _⟩ => rw [e]; rfl
  | .inr f, ⟨_, s1, p, e, _⟩ => rw [e]; rfl
theorem zSe.am {p : Int} {a : zW} (h : zSe s0 r T (.inl (p, a)) s) : s 39 2 = a.1 := by
  obtain ⟨h0, s1, e, e1, e2, -⟩ := h
  rw [e, zT_39]
  exact e2
theorem zSe.sz {p : Int} {a : zW} (h : zSe s0 r T (.inl (p, a)) s) : s 8 4 = zg_te (s0 9) T p - p := by
  obtain ⟨h0, s1, e, -⟩ := h
  rw [e]
  rfl
theorem zSe.pl {p : Int} {a : zW} (h : zSe s0 r T (.inl (p, a)) s) : s 8 3 = p := by
  obtain ⟨h0, s1, e, -⟩ := h
  rw [e]
  rfl
theorem zSe.b9 {p : Int} {a : zW} (hr : 240 ≤ r) (h : zSe s0 r T (.inl (p, a)) s) : s 9 = s0 9 := by
  obtain ⟨h0, s1, e, -, -, -, hj⟩ := h
  rw [← zJe_9 hj hr, e]
  exact funext (fun y => zT_9)
/-- what the cells don't show may be another -/
theorem zSe.gh {p : Int} {a a' : zW} (h : zSe s0 r T (.inl (p, a)) s) (h1 : a'.1 = a.1) (h2 : a'.2.1 = a.2.1) (h3 : a'.2.2.2.2 = a.2.2.2.2) : zSe s0 r T (.inl (p, a')) s := by
  obtain ⟨h0, s1, e, e1, e2, hd, hj⟩ := h
  refine ⟨by rw [h1]; exact h0, s1, e, e1, by rw [h1]; exact e2, ?_, hj⟩
  unfold zCd at hd ⊢
  rw [h2, h3]
  exact hd
theorem zJe_u {s1 : zS} (hj : zJe s0 r s1) (hr : 240 ≤ r) {x y v : Int} (hx : x = 39 ∨ (r ≤ x ∧ x < r + 4)) : zJe s0 r (zu s1 x y v) := ⟨by rw [zu_cell (by omega)]; exact hj.1, fun a b h3 h4 h5 => by rw [zu_cell (by omega)]; exact hj.2 a b h3 h4 h5⟩
theorem zSe.junk {f x y v : Int} (h : zSe s0 r T (.inr f) s) (hr : 240 ≤ r) (hx : r ≤ x ∧ x < r + 4) (hk : ¬ (x = r + 2 ∧ y = 0) ∧ (x = r → y = 4 → 0 ≤ v)) : zSe s0 r T (.inr f) (zu s x y v) := by
  obtain ⟨h0, s1, p, e, e1, hj, hq1, hq2⟩ := h
  refine ⟨h0, zu s1 x y v, p, by rw [e, zT_u (by omega)], by rw [zu_cell (by omega)]; exact e1, zJe_u hj hr (Or.inr hx), ?_, ?_⟩
  · unfold zu
    rw [if_neg (fun q => hk.1 ⟨q.1.symm, q.2.symm⟩)]
    exact hq1
  · unfold zu
    by_cases c : r = x ∧ 4 = y
    · rw [if_pos c]
      exact hk.2 c.1.symm c.2.symm
    · rw [if_neg c]
      exact hq2
theorem zSe.q4 {f : Int} (h : zSe s0 r T (.inr f) s) (hr : 240 ≤ r) : 0 ≤ s r 4 := by
  obtain ⟨h0, s1, p, e, e1, hj, hq1, hq2⟩ := h
  rw [e, zT_o (by omega)]
  exact hq2
theorem zCd_u {a : zW} {x y v : Int} (h : zCd r a s) (hx : ¬ (r ≤ x ∧ x < r + 4)) : zCd r a (zu s x y v) := by
  have k : ∀ d b, 0 ≤ d → d < 4 → zu s x y v (r + d) b = s (r + d) b := fun d b h0 h1 => zu_cell (by omega)
  have k0 : ∀ b, zu s x y v r b = s r b := fun b => zu_cell (by omega)
  unfold zCd at h ⊢
  rw [k0, k0, k 2 0 (by decide) (by decide)]
  refine ⟨⟨h.1.1, fun i h1 h2 => ?_⟩, h.2.1, h.2.2.1, fun i h1 => ?_⟩
  · rw [k 1 _ (by decide) (by decide)]
    exact h.1.2 i h1 h2
  · rw [k 3 _ (by decide) (by decide), k 2 _ (by decide) (by decide)]
    exact h.2.2.2 i h1
/-- one more is made -/
theorem zSe.inc {p : Int} {a : zW} (h : zSe s0 r T (.inl (p, a)) s) (hr : 240 ≤ r) (ha : a.1 < 60) : zSe s0 r T (.inl (p, ze1 a)) (zu s 39 2 (zw (s 39 2 + 1))) := by
  have ea := h.am
  obtain ⟨h0, s1, e, e1, e2, hd, hj⟩ := h
  rw [ea, zw_id (by omega) (by omega)]
  refine ⟨?_, zu s1 39 2 (a.1 + 1), by rw [e, zT_u39], by rw [zu_place (by decide)]; exact e1, zu_hit, ?_, zJe_u hj hr (Or.inl rfl)⟩
  · show 0 ≤ p ∧ p ≤ T ∧ 0 ≤ a.1 + 1 ∧ a.1 + 1 ≤ 60
    omega
  · exact zCd_u (a := a) hd (by omega)
theorem zSe.incd {f : Int} (h : zSe s0 r T (.inr f) s) (hr : 240 ≤ r) {v : Int} : zSe s0 r T (.inr f) (zu s 39 2 v) := by
  obtain ⟨h0, s1, p, e, e1, hj, hq1, hq2⟩ := h
  exact ⟨h0, zu s1 39 2 v, p, by rw [e, zT_u39], by rw [zu_place (by decide)]; exact e1, zJe_u hj hr (Or.inl rfl), by rw [zu_cell (by omega)]; exact hq1, by rw [zu_cell (by omega)]; exact hq2⟩
theorem zy_next (hc : zCz s0 r T) (h : zSe s0 r T σ s) : ∃ s', zE xm_c82 [8, 0, 0] s 0 s' ∧ zSe s0 r T (zynx (s0 9) T σ) s' := by
  obtain ⟨c1, c2, c3, c4, c5, -⟩ := hc
  match σ, h with
  | .inl (p, a), ⟨h0, s1, e, e1, e2, hd, hj⟩ =>
    have hl := zg_te_le c1 c4 h0.1
    have hn := zg_nx_le c1 c4 h0.1
    have e9 := zJe_9 hj c5.1
    refine ⟨zT s1 (zg_kind (s0 9) T (zg_nx (s0 9) T p)) (zg_nx (s0 9) T p) (zg_te (s0 9) T (zg_nx (s0 9) T p) - zg_nx (s0 9) T p) 0, ?_, ⟨by omega, s1, rfl, e1, e2, hd, hj⟩⟩
    have z := zt_next (s := s1) (T := T) (k := zg_kind (s0 9) T p) (p := p) (n := zg_te (s0 9) T p - p) (q := zg_nx (s0 9) T p) (by rw [e9]; exact c1) (by rw [hj.1]; exact c2) c4 h0.1 (by omega) (by omega) (by rw [e9]; unfold zg_nx; rw [show p + (zg_te (s0 9) T p - p) = zg_te (s0 9) T p by omega])
    rw [e9] at z
    rw [e]
    exact z
  | .inr f, ⟨h0, s1, p, e, e1, hj⟩ =>
    refine ⟨s, ?_, ⟨h0, s1, p, e, e1, hj⟩⟩
    rw [e]
    exact zt_next0 h0
theorem zy_fail (hc : zCz s0 r T) (h : zSe s0 r T σ s) {c : Int} (hc0 : 0 ≤ c) (hc4 : c ≤ 4) : ∃ s', zE xm_c81 [8, c] s 0 s' ∧ zSe s0 r T (zyfl c σ) s' := by
  obtain ⟨c1, c2, c3, c4, c5, -⟩ := hc
  match σ, h with
  | .inl (p, a), ⟨h0, s1, e, e1, e2, hd, hj⟩ =>
    refine ⟨zT s1 (-2) p 0 (1 + 8 * p + c), ?_, ⟨by omega, s1, p, rfl, e1, hj, hd.2.2.1, by rw [hd.2.1]; exact Int.natCast_nonneg _⟩⟩
    rw [e]
    exact zt_fail h0.1 (by omega) hc0 hc4
  | .inr f, ⟨h0, s1, p, e, e1, hj⟩ =>
    refine ⟨zT s1 (-2) p 0 f, ?_, ⟨h0, s1, p, rfl, e1, hj⟩⟩
    rw [e]
    exact zt_fail0 h0
theorem zy_word (hc : zCz s0 r T) (h : zSe s0 r T σ s) {k : Nat} (k1 : 1 ≤ k) (k6 : k < 6) : zE xm_c83 [8, (k : Int) + 1, 0, 0, 0] s (zywd (s0 9) T k σ) s := by
  match σ, h with
  | .inl (p, a), h =>
    have b9 := h.b9 hc.2.2.2.2.1.1
    obtain ⟨c1, c2, c3, c4, c5, -⟩ := hc
    obtain ⟨h0, s1, e, -⟩ := h
    have hl := zg_te_le c1 c4 h0.1
    show zE xm_c83 _ s (if zg_kind (s0 9) T p = 97 then yg_ix (zg_w (s0 9) p (zg_te (s0 9) T p)) (yg_sw k) 0 else -1) s
    by_cases hk : zg_kind (s0 9) T p = 97
    · rw [if_pos hk]
      have z := zt_word (s := s) (p := p) (n := zg_te (s0 9) T p - p) k1 k6 (by rw [e]; exact hk) (by rw [e]; rfl) (by rw [e]; rfl) h0.1 (by omega) (by omega)
      rw [b9, show p + (zg_te (s0 9) T p - p) = zg_te (s0 9) T p by omega] at z
      exact z
    · rw [if_neg hk]
      exact zt_word0 (by rw [e]; exact hk)
  | .inr f, ⟨h0, s1, p, e, e1, hj⟩ => exact zt_word0 (by rw [e]; show (-2 : Int) ≠ 97; decide)
/-- Rule.emit -/
theorem zy_emit (hc : zCz s0 r T) (h : zSe s0 r T σ s) {op arg c : Int} (hop : zw (zw (arg * 16) + op) = zcm c) : ∃ s', zE xm_c60 [r, op, arg] s 0 s' ∧ zSe s0 r T (zyep c σ) s' := by
  obtain ⟨c1, c2, c3, c4, c5, c6⟩ := hc
  match σ, h with
  | .inr f, h =>
    by_cases e : s r 3 < zw (zlen (r + 1))
    · exact ⟨_, zb_60_0 (zb_60_4 (by omega) (zb_60_5 (fun _ => zb_60_6 rfl) (fun q => absurd e q))), (h.junk c5.1 (by omega) ⟨fun q => by omega, fun q => by omega⟩).junk c5.1 (by omega) ⟨fun q => by omega, fun _ q => absurd q (by decide)⟩⟩
    · exact ⟨_, zb_60_0 (zb_60_4 (by omega) (zb_60_5 (fun q => absurd q e) (fun _ => zb_60_22 rfl))), h⟩
  | .inl (p, a), ⟨h0, s1, e, e1, e2, hd, hj⟩ =>
    have e3 : s r 3 = ((min a.2.1.length 240 : Nat) : Int) := by
      rw [e, zT_o (by omega)]
      exact hd.1.1
    by_cases el : a.2.1.length < 240
    · have em : min a.2.1.length 240 = a.2.1.length := by omega
      rw [em] at e3
      refine ⟨zu (zu s (r + 1) ((a.2.1.length : Nat) : Int) (zcm c)) r 3 (((a.2.1.length : Nat) : Int) + 1), zb_60_0 (zb_60_4 (by omega) (zb_60_5 (fun _ => zb_60_6 ?_) (fun q => absurd (show s r 3 < zw (zlen (r + 1)) by rw [e3, c6]; omega) q))), ?_⟩
      · rw [hop, zu_cell (show r ≠ r + 1 by omega), e3, zw_id (x := ((a.2.1.length : Nat) : Int) + 1) (by omega) (by omega)]
      · refine ⟨h0, zu (zu s1 (r + 1) ((a.2.1.length : Nat) : Int) (zcm c)) r 3 (((a.2.1.length : Nat) : Int) + 1), by rw [e, zT_u (by omega), zT_u (by omega)], by rw [zu_cell (by omega), zu_cell (by omega)]; exact e1, by rw [zu_cell (by omega), zu_cell (by omega)]; exact e2, ?_, zJe_u (zJe_u hj c5.1 (by omega)) c5.1 (by omega)⟩
        obtain ⟨⟨d1, d2⟩, d3, d4, d5⟩ := hd
        have ln : (zep a c).2.1.length = a.2.1.length + 1 := rfl
        refine ⟨⟨?_, fun i h1 h2 => ?_⟩, ?_, ?_, fun i h1 => ?_⟩
        · rw [zu_hit, ln]
          omega
        · rw [ln] at h1
          show _ = zcm (zat (c :: a.2.1) i)
          rw [zu_cell (by omega), zat_c]
          by_cases ei : i = a.2.1.length
          · rw [if_pos ei, ei, zu_hit]
          · rw [if_neg ei, zu_place (by omega)]
            exact d2 i (by omega) h2
        · rw [zu_place (by decide), zu_cell (by omega)]
          exact d3
        · rw [zu_cell (by omega), zu_cell (by omega)]
          exact d4
        · rw [zu_cell (by omega), zu_cell (by omega), zu_cell (by omega), zu_cell (by omega)]
          exact d5 i h1
    · have em : min a.2.1.length 240 = 240 := by omega
      refine ⟨s, zb_60_0 (zb_60_4 (by omega) (zb_60_5 (fun q => absurd q (by rw [e3, c6, em]; omega)) (fun _ => zb_60_22 rfl))), h0, s1, e, e1, e2, ?_, hj⟩
      obtain ⟨⟨d1, d2⟩, d3, d4, d5⟩ := hd
      have ln : (zep a c).2.1.length = a.2.1.length + 1 := rfl
      refine ⟨⟨?_, fun i h1 h2 => ?_⟩, d3, d4, d5⟩
      · rw [d1, ln]
        omega
      · show _ = zcm (zat (c :: a.2.1) i)
        rw [zat_c, if_neg (by omega)]
        exact d2 i (by omega) h2
/-- Rule.closeSum -/
theorem zy_csum (hc : zCz s0 r T) {p : Int} {a : zW} {n : Nat} (h : zSe s0 r T (.inl (p, a)) s) (hn : a.2.2.2.2.length = 2 * n) (hn2 : n < 12) : ∃ s', zE xm_c61 [r] s 0 s' ∧ zSe s0 r T (.inl (p, zem a)) s' := by
  obtain ⟨c1, c2, c3, c4, c5, c6⟩ := hc
  obtain ⟨h0, s1, e, e1, e2, hd, hj⟩ := h
  have e3 : s r 3 = ((min a.2.1.length 240 : Nat) : Int) := by
    rw [e, zT_o (by omega)]
    exact hd.1.1
  have e4 : s r 4 = ((n : Nat) : Int) := by
    rw [e, zT_o (by omega), hd.2.1, hn]
    omega
  refine ⟨zu s (r + 3) ((n : Nat) : Int) ((min a.2.1.length 240 : Nat) : Int), zb_61_0 (fun _ => zb_61_4 (by rw [e3, e4])) (fun q => absurd (by rw [e4]; omega) q), h0, zu s1 (r + 3) ((n : Nat) : Int) ((min a.2.1.length 240 : Nat) : Int), by rw [e, zT_u (by omega)], by rw [zu_cell (by omega)]; exact e1, by rw [zu_cell (by omega)]; exact e2, ?_, zJe_u hj c5.1 (by omega)⟩
  obtain ⟨⟨d1, d2⟩, d3, d4, d5⟩ := hd
  have ln : (zem a).2.2.2.2.length = 2 * n + 1 := by show a.2.2.2.2.length + 1 = _; rw [hn]
  refine ⟨⟨by rw [zu_cell (by omega)]; exact d1, fun i h1 h2 => by rw [zu_cell (by omega)]; exact d2 i h1 h2⟩, ?_, ?_, fun i h1 => ?_⟩
  · rw [zu_cell (by omega), d3, ln, hn]
    omega
  · rw [zu_cell (by omega)]
    exact d4
  · rw [ln] at h1 ⊢
    show _ = min (zat (((a.2.1.length : Nat) : Int) :: a.2.2.2.2) (2 * i)) 240 ∧ (_ → _ = min (zat (((a.2.1.length : Nat) : Int) :: a.2.2.2.2) (2 * i + 1)) 240)
    rw [zat_c, zat_c, hn]
    by_cases ei : i = n
    · subst ei
      rw [if_pos rfl, zu_hit]
      exact ⟨by omega, fun q => by omega⟩
    · rw [if_neg (by omega), if_neg (by omega), zu_place (by omega), zu_cell (by omega)]
      have := d5 i (by omega)
      rw [hn] at this
      exact ⟨this.1, fun q => this.2 (by omega)⟩
/-- Rule.closeClause -/
theorem zy_ccl (hc : zCz s0 r T) {p : Int} {a : zW} {n : Nat} (h : zSe s0 r T (.inl (p, a)) s) (hn : a.2.2.2.2.length = 2 * n + 1) (hn2 : n < 12) : ∃ s', zE xm_c62 [r] s 0 s' ∧ zSe s0 r T (.inl (p, zem a)) s' := by
  obtain ⟨c1, c2, c3, c4, c5, c6⟩ := hc
  obtain ⟨h0, s1, e, e1, e2, hd, hj⟩ := h
  have e3 : s r 3 = ((min a.2.1.length 240 : Nat) : Int) := by
    rw [e, zT_o (by omega)]
    exact hd.1.1
  have e4 : s r 4 = ((n : Nat) : Int) := by
    rw [e, zT_o (by omega), hd.2.1, hn]
    omega
  refine ⟨zu (zu s r 4 (((n + 1 : Nat)) : Int)) (r + 2) (((n + 1 : Nat)) : Int) ((min a.2.1.length 240 : Nat) : Int), zb_62_0 (fun _ => zb_62_4 ?_) (fun q => absurd (by rw [e4]; omega) q), h0, zu (zu s1 r 4 (((n + 1 : Nat)) : Int)) (r + 2) (((n + 1 : Nat)) : Int) ((min a.2.1.length 240 : Nat) : Int), by rw [e, zT_u (by omega), zT_u (by omega)], by rw [zu_cell (by omega), zu_cell (by omega)]; exact e1, by rw [zu_cell (by omega), zu_cell (by omega)]; exact e2, ?_, zJe_u (zJe_u hj c5.1 (by omega)) c5.1 (by omega)⟩
  · rw [e4, zw_id (x := ((n : Nat) : Int) + 1) (by omega) (by omega), zu_hit, zu_place (by decide), e3, show ((n : Nat) : Int) + 1 = ((n + 1 : Nat) : Int) by omega]
  obtain ⟨⟨d1, d2⟩, d3, d4, d5⟩ := hd
  have ln : (zem a).2.2.2.2.length = 2 * n + 2 := by show a.2.2.2.2.length + 1 = _; rw [hn]
  refine ⟨⟨by rw [zu_cell (by omega), zu_place (by decide)]; exact d1, fun i h1 h2 => by rw [zu_cell (by omega), zu_cell (by omega)]; exact d2 i h1 h2⟩, ?_, ?_, fun i h1 => ?_⟩
  · rw [zu_cell (by omega), zu_hit, ln]
    omega
  · rw [zu_place (by omega), zu_cell (by omega)]
    exact d4
  · rw [ln] at h1 ⊢
    show _ = min (zat (((a.2.1.length : Nat) : Int) :: a.2.2.2.2) (2 * i)) 240 ∧ (_ → _ = min (zat (((a.2.1.length : Nat) : Int) :: a.2.2.2.2) (2 * i + 1)) 240)
    rw [zat_c, zat_c, hn, if_neg (by omega), zu_cell (by omega), zu_cell (by omega)]
    have := d5 i (by omega)
    rw [hn] at this
    refine ⟨this.1, fun q => ?_⟩
    by_cases ei : i = n
    · subst ei
      rw [if_pos rfl, zu_hit]
      omega
    · rw [if_neg (by omega), zu_place (by omega), zu_cell (by omega)]
      exact this.2 (by omega)
/-- with a fault the two write what they will -/
theorem zy_csumd (hc : zCz s0 r T) {f : Int} (h : zSe s0 r T (.inr f) s) : ∃ s', zE xm_c61 [r] s 0 s' ∧ zSe s0 r T (.inr f) s' := by
  obtain ⟨c1, c2, c3, c4, c5, c6⟩ := hc
  by_cases e : s r 4 < 12
  · exact ⟨_, zb_61_0 (fun _ => zb_61_4 rfl) (fun q => absurd e q), h.junk c5.1 (by omega) ⟨fun q => by omega, fun q => by omega⟩⟩
  · exact ⟨_, zb_61_0 (fun q => absurd q e) (fun _ => zb_61_11 rfl), h⟩
theorem zy_ccld (hc : zCz s0 r T) {f : Int} (h : zSe s0 r T (.inr f) s) : ∃ s', zE xm_c62 [r] s 0 s' ∧ zSe s0 r T (.inr f) s' := by
  obtain ⟨c1, c2, c3, c4, c5, c6⟩ := hc
  by_cases e : s r 4 < 12
  · have q4 := h.q4 c5.1
    have e1 : zw (s r 4 + 1) = s r 4 + 1 := zw_id (by omega) (by omega)
    refine ⟨_, zb_62_0 (fun _ => zb_62_4 rfl) (fun q => absurd e q), (h.junk c5.1 (by omega) ⟨fun q => by omega, fun _ _ => by rw [e1]; omega⟩).junk c5.1 (by omega) ⟨fun q => ?_, fun q => by omega⟩⟩
    have q2 := q.2
    rw [zu_hit, e1] at q2
    omega
  · exact ⟨_, zb_62_0 (fun q => absurd q e) (fun _ => zb_62_17 rfl), h⟩
end YC
