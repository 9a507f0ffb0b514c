/-! the heap of the interval machine -/
def ys_HT (G : xm_H) : Prop := ∀ (j : Nat) (q : yW), yr_row (yr_of j) = some q → ∃ vs, xm_hget G j = some (q.1, vs) ∧ vs.length = q.2.1 ∧ ∀ (i : Nat) (v : Value), vs[i]? = some v → ∃ T, yr_ty q i = some T ∧ ys_T T v
/-- nothing else is written -/
def ys_Fr (md : yM) (G G' : xm_H) : Prop := ∀ (j t : Nat) (vs : List Value), xm_hget G j = some (t, vs) → ∃ vs', xm_hget G' j = some (t, vs') ∧ vs'.length = vs.length ∧ ∀ (i : Nat) (v : Value), vs[i]? = some v → ym_mod md (yr_of j) i = true ∨ vs'[i]? = some v
def ys_ca (y : Nat → Int) (E : ym_S) (C : ym_C) (G : xm_H) : Prop := ∀ q ∈ C, q.1 < E.1 ∧ ys_in E.1 q.2.2 ∧ ∃ (j t : Nat) (vs : List Value), y q.1 = (j : Int) ∧ xm_hget G j = some (t, vs) ∧ vs[q.2.1]? = some (ys_cv y q.2.2)
def ys_un (l : xm_L) : Prop := (l.map Prod.fst).Nodup
def ys_lr (y : Nat → Int) (n : Nat) (l lc : xm_L) : Prop := ys_un l ∧ ys_un lc ∧ ∀ (i : Nat) (v : Value), xm_get l i = some v → ys_in n v ∧ xm_get lc i = some (ys_cv y v)
def ys_R (y : Nat → Int) (s : ym_St) (lv : xm_L) (st : List Value) (G : xm_H) : Prop := ys_sat y s.2.2.1 ∧ ys_lr y s.2.2.1.1 s.1 lv ∧ (st = s.2.1.map (ys_cv y) ∧ ∀ v ∈ s.2.1, ys_in s.2.2.1.1 v) ∧ ys_ca y s.2.2.1 s.2.2.2 G ∧ ys_HT G
theorem ys_Fr.refl (md : yM) (G : xm_H) : ys_Fr md G G := fun j t vs h => ⟨vs, h, rfl, fun i v hv => Or.inr hv⟩
theorem ys_Fr.trans {md : yM} {G G1 G2 : xm_H} (h : ys_Fr md G G1) (h' : ys_Fr md G1 G2) : ys_Fr md G G2 := by
  intro j t vs hj
  obtain ⟨vs1, g1, g2, g3⟩ := h j t vs hj
  obtain ⟨vs2, k1, k2, k3⟩ := h' j t vs1 g1
  refine ⟨vs2, k1, k2.trans g2, fun i v hv => ?_⟩
  rcases g3 i v hv with q | q
  · exact Or.inl q
  · exact k3 i v q
theorem yl_mod {md md' : yM} {r i : Nat} (h : ∀ q ∈ md, q ∈ md') : ym_mod md r i = true → ym_mod md' r i = true := by
  have key : ∀ md : yM, ym_mod md r i = true ↔ ∃ q ∈ md, (Nat.beq q.1 r && (Nat.beq q.2 i || Nat.beq q.2 100000)) = true := by
    intro md
    induction md with
    | nil => exact ⟨(fun h => (by cases h)), (fun h => (by obtain ⟨q, h, _⟩ := h; cases h))⟩
    | cons p md ih =>
      show ((Nat.beq p.1 r && (Nat.beq p.2 i || Nat.beq p.2 100000)) || ym_mod md r i) = true ↔ _
      rw [Bool.or_eq_true, ih]
      constructor
      · rintro (h | ⟨q, h1, h2⟩)
        · exact ⟨p, List.mem_cons_self, h⟩
        · exact ⟨q, List.mem_cons_of_mem _ h1, h2⟩
      · rintro ⟨q, h1, h2⟩
        rcases List.mem_cons.mp h1 with rfl | h1
        · exact Or.inl h2
        · exact Or.inr ⟨q, h1, h2⟩
  rw [key, key]
  rintro ⟨q, h1, h2⟩
  exact ⟨q, h q h1, h2⟩
theorem ys_Fr.mono {md md' : yM} {G G' : xm_H} (hm : ∀ q ∈ md, q ∈ md') (h : ys_Fr md G G') : ys_Fr md' G G' := by
  intro j t vs hj
  obtain ⟨vs1, g1, g2, g3⟩ := h j t vs hj
  refine ⟨vs1, g1, g2, fun i v hv => ?_⟩
  rcases g3 i v hv with q | q
  · exact Or.inl (yl_mod hm q)
  · exact Or.inr q
theorem yl_mem {l : xm_L} {i : Nat} {v : Value} (h : (i, v) ∈ l) (hu : ys_un l) : xm_get l i = some v := by
  induction l with
  | nil => cases h
  | cons q l ih =>
    have hu : (q.1 :: l.map Prod.fst).Nodup := hu
    rw [List.nodup_cons] at hu
    show cond (Nat.beq q.1 i) (some q.2) (xm_get l i) = some v
    rcases List.mem_cons.mp h with e | h
    · subst e
      rw [Nat.beq_refl]
      rfl
    · have hn : Nat.beq q.1 i = false := by
        rw [Bool.eq_false_iff]
        intro hb
        have e := Nat.eq_of_beq_eq_true hb
        exact hu.1 (by rw [e]; exact List.mem_map_of_mem (f := Prod.fst) h)
      rw [hn]
      exact ih h hu.2
theorem yl_get {l : xm_L} {i : Nat} {v : Value} (hu : ys_un l) : xm_get l i = some v ↔ (i, v) ∈ l := ⟨xl_get l i v, fun h => yl_mem h hu⟩
theorem yl_unf {l : xm_L} (p : Nat × Value → Bool) (hu : ys_un l) : ys_un (l.filter p) := List.Nodup.sublist (List.Sublist.map Prod.fst List.filter_sublist) hu
theorem yl_un1 {l : xm_L} (i : Nat) (v : Value) (p : Nat × Value → Bool) (hp : ∀ q, p q = true → q.1 ≠ i) (hu : ys_un l) : ys_un ((i, v) :: l.filter p) := by
  show (i :: (l.filter p).map Prod.fst).Nodup
  rw [List.nodup_cons]
  refine ⟨fun h => ?_, yl_unf p hu⟩
  obtain ⟨q, h1, h2⟩ := List.mem_map.mp h
  exact hp q (List.mem_filter.mp h1).2 h2
theorem yl_f1 (i : Nat) (q : Nat × Value) : (!(q.1 == i) && !(q.1 + 1 == i && q.2.category == 2)) = true → q.1 ≠ i := by
  intro h e
  rw [e] at h
  simp at h
theorem yl_f2 (i : Nat) (q : Nat × Value) : (!(q.1 == i) && (!(q.1 == i + 1) && !(q.1 + 1 == i && q.2.category == 2))) = true → q.1 ≠ i := by
  intro h e
  rw [e] at h
  simp at h
section YL
variable {y : Nat → Int} {n : Nat} {l lc : xm_L} {v w : Value}
theorem ys_lr.mv {y' : Nat → Int} {n' : Nat} (h : ys_lr y n l lc) (he : ys_ext n y y') (hn : n ≤ n') : ys_lr y' n' l lc := by
  refine ⟨h.1, h.2.1, fun i v hv => ?_⟩
  obtain ⟨h1, h2⟩ := h.2.2 i v hv
  exact ⟨ys_in_le hn h1, by rw [ys_cv_ext he h1]; exact h2⟩
theorem ys_lr.set1 {i : Nat} (h : ys_lr y n l lc) (hv : ys_in n v) : ys_lr y n (xm_set1 l i v) (xm_set1 lc i (ys_cv y v)) := by
  have u1 : ys_un (xm_set1 l i v) := yl_un1 i v _ (yl_f1 i) h.1
  have u2 : ys_un (xm_set1 lc i (ys_cv y v)) := yl_un1 i _ _ (yl_f1 i) h.2.1
  refine ⟨u1, u2, fun j w hw => ?_⟩
  rw [yl_get u2]
  rw [yl_get u1] at hw
  rcases List.mem_cons.mp hw with e | hw
  · cases e
    exact ⟨hv, List.mem_cons_self⟩
  · obtain ⟨h1, h2⟩ := List.mem_filter.mp hw
    obtain ⟨h3, h4⟩ := h.2.2 j w ((yl_get h.1).mpr h1)
    refine ⟨h3, List.mem_cons_of_mem _ (List.mem_filter.mpr ⟨(yl_get h.2.1).mp h4, ?_⟩)⟩
    dsimp only at h2 ⊢
    rw [ys_cat]
    exact h2
theorem ys_lr.set2 {i : Nat} (h : ys_lr y n l lc) (hv : ys_in n v) : ys_lr y n (xm_set2 l i v) (xm_set2 lc i (ys_cv y v)) := by
  have u1 : ys_un (xm_set2 l i v) := yl_un1 i v _ (yl_f2 i) h.1
  have u2 : ys_un (xm_set2 lc i (ys_cv y v)) := yl_un1 i _ _ (yl_f2 i) h.2.1
  refine ⟨u1, u2, fun j w hw => ?_⟩
  rw [yl_get u2]
  rw [yl_get u1] at hw
  rcases List.mem_cons.mp hw with e | hw
  · cases e
    exact ⟨hv, List.mem_cons_self⟩
  · obtain ⟨h1, h2⟩ := List.mem_filter.mp hw
    obtain ⟨h3, h4⟩ := h.2.2 j w ((yl_get h.1).mpr h1)
    refine ⟨h3, List.mem_cons_of_mem _ (List.mem_filter.mpr ⟨(yl_get h.2.1).mp h4, ?_⟩)⟩
    dsimp only at h2 ⊢
    rw [ys_cat]
    exact h2
end YL
section YR
variable {y : Nat → Int} {l lc : xm_L} {st sc : List Value} {E E' : ym_S} {C : ym_C} {G : xm_H} {v w : Value}
theorem ys_ca.mv {y' : Nat → Int} (h : ys_ca y E C G) (he : ys_ext E.1 y y') (hn : E.1 ≤ E'.1) : ys_ca y' E' C G := by
  intro q hq
  obtain ⟨h1, h2, j, t, vs, h3, h4, h5⟩ := h q hq
  exact ⟨Nat.lt_of_lt_of_le h1 hn, ys_in_le hn h2, j, t, vs, by rw [he _ h1]; exact h3, h4, by rw [ys_cv_ext he h2]; exact h5⟩
theorem ys_R.mv {y' : Nat → Int} (h : ys_R y (l, st, E, C) lc sc G) (hs : ys_sat y' E') (he : ys_ext E.1 y y') (hn : E.1 ≤ E'.1) : ys_R y' (l, st, E', C) lc sc G := by
  obtain ⟨h1, h2, ⟨h3, h4⟩, h5, h6⟩ := h
  dsimp only at h2 h3 h4 h5
  refine ⟨hs, h2.mv he hn, ⟨?_, fun v hv => ys_in_le hn (h4 v hv)⟩, h5.mv he hn, h6⟩
  rw [h3]
  exact List.map_congr_left (fun v hv => (ys_cv_ext he (h4 v hv)).symm)
/-- the same numbers, narrower -/
theorem ys_R.nar (h : ys_R y (l, st, E, C) lc sc G) (hs : ys_sat y E') (hn : E'.1 = E.1) : ys_R y (l, st, E', C) lc sc G := h.mv hs (fun _ _ => rfl) (Nat.le_of_eq hn.symm)
theorem ys_R.pop (h : ys_R y (l, v :: st, E, C) lc sc G) : ∃ sc', sc = ys_cv y v :: sc' ∧ ys_in E.1 v ∧ ys_R y (l, st, E, C) lc sc' G := by
  obtain ⟨h1, h2, ⟨h3, h4⟩, h5, h6⟩ := h
  exact ⟨st.map (ys_cv y), h3, h4 v List.mem_cons_self, h1, h2, ⟨rfl, fun v hv => h4 v (List.mem_cons_of_mem _ hv)⟩, h5, h6⟩
theorem ys_R.push (h : ys_R y (l, st, E, C) lc sc G) (hv : ys_in E.1 v) : ys_R y (l, v :: st, E, C) lc (ys_cv y v :: sc) G := by
  obtain ⟨h1, h2, ⟨h3, h4⟩, h5, h6⟩ := h
  refine ⟨h1, h2, ⟨?_, fun w hw => ?_⟩, h5, h6⟩
  · rw [h3]
    rfl
  · rcases List.mem_cons.mp hw with rfl | hw
    · exact hv
    · exact h4 w hw
theorem ys_R.fresh (h : ys_R y (l, st, E, C) lc sc G) (hf : ys_fr y E E' v w) : ∃ y', ys_R y' (l, v :: st, E', C) lc (w :: sc) G ∧ (ys_ext E.1 y y' ∧ E.1 ≤ E'.1) ∧ ys_in E'.1 v ∧ ys_cv y' v = w := by
  obtain ⟨y', h1, h2, h3, h4, h5⟩ := hf
  have := (h.mv h1 h2 h3).push h4
  rw [h5] at this
  exact ⟨y', this, ⟨h2, h3⟩, h4, h5⟩
theorem ys_R.loc (h : ys_R y (l, st, E, C) lc sc G) {i : Nat} (hi : xm_get l i = some v) : ys_in E.1 v ∧ xm_get lc i = some (ys_cv y v) := h.2.1.2.2 i v hi
theorem ys_R.set1 (h : ys_R y (l, st, E, C) lc sc G) {i : Nat} (hv : ys_in E.1 v) : ys_R y (xm_set1 l i v, st, E, C) (xm_set1 lc i (ys_cv y v)) sc G := ⟨h.1, h.2.1.set1 hv, h.2.2⟩
theorem ys_R.set2 (h : ys_R y (l, st, E, C) lc sc G) {i : Nat} (hv : ys_in E.1 v) : ys_R y (xm_set2 l i v, st, E, C) (xm_set2 lc i (ys_cv y v)) sc G := ⟨h.1, h.2.1.set2 hv, h.2.2⟩
/-- a region's cell -/
theorem ys_HT.at (h : ys_HT G) {j r : Nat} {q : yW} (hr : yr_of j = r) (hq : yr_row r = some q) : ∃ vs, xm_hget G j = some (q.1, vs) ∧ vs.length = q.2.1 ∧ ∀ (i : Nat) (v : Value), vs[i]? = some v → ∃ T, yr_ty q i = some T ∧ ys_T T v := h j q (by rw [hr]; exact hq)
theorem yl_find : ∀ {C : ym_C} {k i : Nat} {v : Value}, ym_find C k i = some v → (k, i, v) ∈ C
  | [], k, i, v, h => by cases h
  | q :: C, k, i, v, h => by
    have h : (bif Nat.beq q.1 k && Nat.beq q.2.1 i then some q.2.2 else ym_find C k i) = some v := h
    cases hb : (Nat.beq q.1 k && Nat.beq q.2.1 i) with
    | true =>
      rw [hb] at h
      cases h
      rw [Bool.and_eq_true] at hb
      have e1 := Nat.eq_of_beq_eq_true hb.1
      have e2 := Nat.eq_of_beq_eq_true hb.2
      subst e1 e2
      exact List.mem_cons_self
    | false =>
      rw [hb] at h
      exact List.mem_cons_of_mem _ (yl_find h)
/-- a place is read -/
theorem ys_rd {k i j : Nat} {q : yW} {vs : List Value} {x : Value × ym_S × ym_C} (h : ym_rd E C k q i = some x) (hR : ys_R y (l, st, E, C) lc sc G) (hk : k < E.1) (hj : y k = (j : Int)) (hg : xm_hget G j = some (q.1, vs)) (hi : vs[i]? = some w) (hT : ∀ T, yr_ty q i = some T → ys_T T w) : ∃ y', ys_R y' (l, x.1 :: st, x.2.1, x.2.2) lc (w :: sc) G ∧ (ys_ext E.1 y y' ∧ E.1 ≤ x.2.1.1) ∧ ys_in x.2.1.1 x.1 ∧ ys_cv y' x.1 = w := by
  unfold ym_rd at h
  cases hf : ym_find C k i with
  | some v =>
    rw [hf] at h
    cases h
    obtain ⟨h1, h2, j', t, vs', h3, h4, h5⟩ := hR.2.2.2.1 _ (yl_find hf)
    dsimp only at h1 h2 h3 h5
    have e : j' = j := by omega
    subst e
    rw [hg] at h4
    cases h4
    rw [hi] at h5
    cases h5
    exact ⟨y, hR.push h2, ⟨fun _ _ => rfl, Nat.le_refl _⟩, h2, rfl⟩
  | none =>
    rw [hf] at h
    dsimp only at h
    cases ht : yr_ty q i with
    | none => rw [ht] at h; cases h
    | some T =>
      rw [ht] at h
      dsimp only at h
      cases hm : ym_mk E T with
      | none => rw [hm] at h; cases h
      | some p =>
        obtain ⟨E1, v⟩ := p
        rw [hm] at h
        cases h
        obtain ⟨y', a1, a2, a3, a4⟩ := hR.fresh (ys_mk hm hR.1 (hT T ht))
        obtain ⟨b1, b2, b3, b4, b5⟩ := a1
        have hle : E.1 ≤ E1.1 := a2.2
        refine ⟨y', ⟨b1, b2, b3, ?_, b5⟩, a2, a3, a4⟩
        intro q' hq'
        rcases List.mem_cons.mp hq' with rfl | hq'
        · exact ⟨Nat.lt_of_lt_of_le hk hle, a3, j, _, vs, by rw [a2.1 k hk]; exact hj, hg, by dsimp only; rw [a4]; exact hi⟩
        · exact b4 q' hq'
theorem yl_kill {p : Nat → Nat → Bool} {q : Nat × Nat × Value} : ∀ {C : ym_C}, q ∈ ym_kill E C p → q ∈ C ∧ ∃ r, ym_ref E (.ref q.1) = some r ∧ p r q.2.1 = false
  | [], h => by cases h
  | c :: C, h => by
    have h : q ∈ (match ym_ref E (.ref c.1) with
      | some r => bif p r c.2.1 then ym_kill E C p else c :: ym_kill E C p
      | none => ym_kill E C p) := h
    cases hr : ym_ref E (.ref c.1) with
    | none =>
      rw [hr] at h
      obtain ⟨h1, h2⟩ := yl_kill h
      exact ⟨List.mem_cons_of_mem _ h1, h2⟩
    | some r =>
      rw [hr] at h
      dsimp only at h
      cases hp : p r c.2.1 with
      | true =>
        rw [hp] at h
        obtain ⟨h1, h2⟩ := yl_kill h
        exact ⟨List.mem_cons_of_mem _ h1, h2⟩
      | false =>
        rw [hp] at h
        rcases List.mem_cons.mp h with rfl | h
        · exact ⟨List.mem_cons_self, r, hr, hp⟩
        · obtain ⟨h1, h2⟩ := yl_kill h
          exact ⟨List.mem_cons_of_mem _ h1, h2⟩
/-- a place is written: the heap's types hold, nothing else has changed -/
theorem ys_HT.put {md : yM} {i j : Nat} {q : yW} {T : yT} {vs : List Value} (h : ys_HT G) (hq : yr_row (yr_of j) = some q) (hg : xm_hget G j = some (q.1, vs)) (hT : yr_ty q i = some T) (hw : ys_T T w) (hm : ym_mod md (yr_of j) i = true) : ys_HT (xm_hput G j (q.1, xm_put w vs i)) ∧ ys_Fr md G (xm_hput G j (q.1, xm_put w vs i)) := by
  refine ⟨fun j' q' hq' => ?_, fun j' t vs' hj' => ?_⟩
  · obtain ⟨vs', k1, k2, k3⟩ := h j' q' hq'
    rw [xl_hput]
    by_cases e : j' = j
    · subst e
      rw [if_pos rfl]
      rw [hq] at hq'
      cases hq'
      rw [hg] at k1
      cases k1
      refine ⟨_, rfl, by rw [xl_put, List.length_set]; exact k2, fun i' v hv => ?_⟩
      rw [xl_put, List.getElem?_set] at hv
      by_cases e2 : i = i'
      · subst e2
        rw [if_pos rfl] at hv
        split at hv
        · cases hv
          exact ⟨T, hT, hw⟩
        · cases hv
      · rw [if_neg e2] at hv
        exact k3 i' v hv
    · rw [if_neg e]
      exact ⟨vs', k1, k2, k3⟩
  · rw [xl_hput]
    by_cases e : j' = j
    · subst e
      rw [if_pos rfl]
      rw [hg] at hj'
      cases hj'
      refine ⟨_, rfl, by rw [xl_put, List.length_set], fun i' v hv => ?_⟩
      by_cases e2 : i = i'
      · subst e2
        exact Or.inl hm
      · right
        rw [xl_put, List.getElem?_set, if_neg e2]
        exact hv
    · rw [if_neg e]
      exact ⟨vs', hj', rfl, fun i' v hv => Or.inr hv⟩
theorem ys_ca.put {i j r t : Nat} {vs : List Value} {p : Nat → Nat → Bool} (h : ys_ca y E C G) (hs : ys_sat y E) (hr : yr_of j = r) (hg : xm_hget G j = some (t, vs)) (hp : p r i = true) : ys_ca y E (ym_kill E C p) (xm_hput G j (t, xm_put w vs i)) := by
  intro q hq
  obtain ⟨h1, r', h2, h3⟩ := yl_kill hq
  obtain ⟨g1, g2, j', t', vs', g3, g4, g5⟩ := h q h1
  refine ⟨g1, g2, j', ?_⟩
  rw [xl_hput]
  by_cases e : j' = j
  · subst e
    rw [if_pos rfl]
    rw [hg] at g4
    cases g4
    refine ⟨t, _, g3, rfl, ?_⟩
    rw [xl_put, List.getElem?_set]
    by_cases e2 : i = q.2.1
    · exfalso
      obtain ⟨k, j2, m1, m2, m3, m4, m5⟩ := ys_ref h2 hs
      cases m1
      have e3 : j2 = j' := by omega
      subst e3
      rw [hr] at m5
      subst m5
      rw [← e2, hp] at h3
      cases h3
    · rw [if_neg e2]
      exact g5
  · rw [if_neg e]
    exact ⟨t', vs', g3, g4, g5⟩
/-- a value is written -/
theorem ys_wr {md : yM} {k r i j : Nat} {q : yW} {a : Int × Int} {keep : Bool} {C' : ym_C} {vs : List Value} (h : ym_wr md E C k r q a v keep = some C') (hR : ys_R y (l, st, E, C) lc sc G) (hv : ys_in E.1 v) (hk : k < E.1) (hj : y k = (j : Int)) (hr : yr_of j = r) (hq : yr_row r = some q) (hg : xm_hget G j = some (q.1, vs)) (h1 : a.1 ≤ (i : Int)) (h2 : (i : Int) ≤ a.2) (hi : i < vs.length) (hm1 : q.2.2.1 = 1 → True) : ys_R y (l, st, E, C') lc sc (xm_hput G j (q.1, xm_put (ys_cv y v) vs i)) ∧ ys_Fr md G (xm_hput G j (q.1, xm_put (ys_cv y v) vs i)) := by
  unfold ym_wr at h
  have hq' : yr_row (yr_of j) = some q := by rw [hr]; exact hq
  obtain ⟨R1, R2, R3, R4, R5⟩ := hR
  dsimp only at R1 R2 R3 R4
  by_cases e : a.1 = a.2
  · rw [decide_eq_true e, cond_true] at h
    have ei : a.1.toNat = i := by omega
    rw [ei] at h
    cases hT : yr_ty q i with
    | none => rw [hT] at h; cases h
    | some T =>
      rw [hT] at h
      dsimp only at h
      cases hc : (ym_sub E v T && ym_mod md r i) with
      | false => rw [hc] at h; cases h
      | true =>
        rw [hc, cond_true] at h
        rw [Bool.and_eq_true] at hc
        obtain ⟨w1, -⟩ := ys_sub hc.1 R1
        obtain ⟨p1, p2⟩ := R5.put hq' hg hT w1 (by rw [hr]; exact hc.2)
        have p3 : ys_ca y E (ym_kill E C (fun r1 i1 => Nat.beq r1 r && Nat.beq i1 i)) (xm_hput G j (q.1, xm_put (ys_cv y v) vs i)) := R4.put R1 hr hg (by rw [Nat.beq_refl, Nat.beq_refl]; rfl)
        refine ⟨⟨R1, R2, R3, ?_, p1⟩, p2⟩
        cases keep with
        | false =>
          cases h
          exact p3
        | true =>
          cases h
          intro q' hq2
          rcases List.mem_cons.mp hq2 with rfl | hq2
          · refine ⟨hk, hv, j, q.1, _, hj, by rw [xl_hput, if_pos rfl], ?_⟩
            rw [xl_put, List.getElem?_set, if_pos rfl, if_pos hi]
          · exact p3 q' hq2
  · rw [decide_eq_false e, cond_false] at h
    cases hc : (Nat.beq q.2.2.1 1 && ym_mod md r 100000) with
    | false => rw [hc] at h; cases h
    | true =>
      rw [hc, cond_true] at h
      rw [Bool.and_eq_true] at hc
      have e1 := Nat.eq_of_beq_eq_true hc.1
      have ty0 : yr_ty q i = yr_ty q 0 := by
        unfold yr_ty
        rw [e1]
        show xm_nth _ (i % 1) = xm_nth _ (0 % 1)
        rw [Nat.mod_one]
      cases hT : yr_ty q 0 with
      | none => rw [hT] at h; cases h
      | some T =>
        rw [hT] at h
        dsimp only at h
        cases hc2 : ym_sub E v T with
        | false => rw [hc2] at h; cases h
        | true =>
          rw [hc2] at h
          cases h
          obtain ⟨w1, -⟩ := ys_sub hc2 R1
          have hm : ym_mod md r i = true := by
            have key : ∀ md : yM, ym_mod md r 100000 = true → ym_mod md r i = true := by
              intro md
              induction md with
              | nil => intro h; cases h
              | cons p md ih =>
                intro h
                have h : ((Nat.beq p.1 r && (Nat.beq p.2 100000 || Nat.beq p.2 100000)) || ym_mod md r 100000) = true := h
                show ((Nat.beq p.1 r && (Nat.beq p.2 i || Nat.beq p.2 100000)) || ym_mod md r i) = true
                rw [Bool.or_eq_true] at h ⊢
                rcases h with h | h
                · left
                  rw [Bool.and_eq_true] at h ⊢
                  rw [Bool.or_self] at h
                  exact ⟨h.1, by rw [h.2, Bool.or_true]⟩
                · exact Or.inr (ih h)
            exact key md hc.2
          obtain ⟨p1, p2⟩ := R5.put hq' hg (by rw [ty0]; exact hT) w1 (by rw [hr]; exact hm)
          exact ⟨⟨R1, R2, R3, R4.put (i := i) (p := fun r1 _ => Nat.beq r1 r) R1 hr hg (Nat.beq_refl r), p1⟩, p2⟩
end YR
