/-! the flat machine answers what the little one answers: heap, branches -/
theorem zs_ald {ok : Nat → Bool} {G : xm_H} {E : xm_R} {x : Int32} {j : Nat} {st : List Value} {k : List Value → xm_R → Bool} (h : xm_ald ok (.int x :: .ref j :: st) G E k = true) : ∃ t vs w, xm_hget G j = some (t, vs) ∧ ok t = true ∧ 0 ≤ x.toInt ∧ vs[x.toInt.toNat]? = some w ∧ ∀ k, xm_ald ok (.int x :: .ref j :: st) G E k = k (w :: st) E := by
  have e : ∀ k, xm_ald ok (.int x :: .ref j :: st) G E k = (match xm_hget G j with
    | some (t, vs) => bif ok t && decide (0 ≤ x.toInt) then (match xm_nth vs x.toInt.toNat with
      | some w => k (w :: st) E
      | none => false) else false
    | none => false) := fun _ => rfl
  rw [e] at h
  cases hg : xm_hget G j with
  | none => rw [hg] at h; cases h
  | some p =>
    obtain ⟨t, vs⟩ := p
    rw [hg] at h
    dsimp only at h
    cases hc : (ok t && decide (0 ≤ x.toInt)) with
    | false => rw [hc] at h; cases h
    | true =>
      rw [hc, cond_true, xl_nth] at h
      cases hv : vs[x.toInt.toNat]? with
      | none => rw [hv] at h; cases h
      | some w =>
        have hc' := hc
        rw [Bool.and_eq_true, decide_eq_true_eq] at hc'
        refine ⟨t, vs, w, rfl, hc'.1, hc'.2, hv, fun k => ?_⟩
        rw [e, hg]
        dsimp only
        rw [hc, cond_true, xl_nth, hv]
theorem zs_wr {ok : Nat → Bool} {G : xm_H} {x : Int32} {j : Nat} {w : Value} {k : xm_H → Bool} (h : xm_wr ok G j x w k = true) : ∃ t vs, xm_hget G j = some (t, vs) ∧ ok t = true ∧ 0 ≤ x.toInt ∧ ∀ k, xm_wr ok G j x w k = k (xm_hput G j (t, xm_put w vs x.toInt.toNat)) := by
  have e : ∀ k, xm_wr ok G j x w k = (match xm_hget G j with
    | some (t, vs) => bif ok t && (decide (0 ≤ x.toInt) && Nat.ble 7 j) then (match xm_nth vs x.toInt.toNat with
      | some _ => k (xm_hput G j (t, xm_put w vs x.toInt.toNat))
      | none => false) else false
    | none => false) := fun _ => rfl
  rw [e] at h
  cases hg : xm_hget G j with
  | none => rw [hg] at h; cases h
  | some p =>
    obtain ⟨t, vs⟩ := p
    rw [hg] at h
    dsimp only at h
    cases hc : (ok t && (decide (0 ≤ x.toInt) && Nat.ble 7 j)) with
    | false => rw [hc] at h; cases h
    | true =>
      rw [hc, cond_true, xl_nth] at h
      cases hv : vs[x.toInt.toNat]? with
      | none => rw [hv] at h; cases h
      | some u =>
        have hc' := hc
        rw [Bool.and_eq_true, Bool.and_eq_true, decide_eq_true_eq] at hc'
        refine ⟨t, vs, rfl, hc'.1, hc'.2.1, fun k => ?_⟩
        rw [e, hg]
        dsimp only
        rw [hc, cond_true, xl_nth, hv]
/-- what is read of an array -/
theorem zR.rd {G : xm_H} {s : zS} (hR : zR G s) {j t : Nat} {vs : List Value} {w : Value} {x : Int32} (hg : xm_hget G j = some (t, vs)) (h0 : 0 ≤ x.toInt) (hv : vs[x.toInt.toNat]? = some w) (hc : zcon t j x.toInt.toNat = none) : zp w = true ∧ xm_isL w = zlg t x.toInt.toNat ∧ zi w = s j x.toInt := by
  obtain ⟨b1, b2, b3⟩ := (hR j t vs hg).2 _ w hv
  rw [hc, Int.toNat_of_nonneg h0] at b3
  exact ⟨b1, b2, b3⟩
theorem zR.wr {G : xm_H} {s : zS} (hR : zR G s) {j t : Nat} {vs : List Value} {w : Value} {x : Int32} {y : Int} (hg : xm_hget G j = some (t, vs)) (h0 : 0 ≤ x.toInt) (hw : zp w = true) (hL : xm_isL w = zlg t x.toInt.toNat) (hx : zi w = y) (hc : zcon t j x.toInt.toNat = none) : zR (xm_hput G j (t, xm_put w vs x.toInt.toNat)) (zu s j x.toInt y) := by
  have h := hR.put hg hw hL hx hc
  rw [Int.toNat_of_nonneg h0] at h
  exact h
theorem zc_100 {j : Int} {i : Nat} : zcon 100 j i = none := rfl
theorem zc_101 {j : Int} {i : Nat} : zcon 101 j i = none := rfl
theorem zc_102 {j : Int} {i : Nat} : zcon 102 j i = none := rfl
theorem zc_103 {j : Int} {i : Nat} : zcon 103 j i = none := rfl
theorem zc_301 {j : Int} {i : Nat} : zcon 301 j i = none := rfl
theorem zs_3A {w u t : Value} (h : ¬ (∃ x j, u = .int x ∧ t = .ref j)) : (∀ x, u ≠ .int x) ∨ (∀ j, t ≠ .ref j) := by
  by_cases e : ∃ x, u = .int x
  · obtain ⟨x, rfl⟩ := e
    exact Or.inr (fun j q => h ⟨x, j, rfl, q⟩)
  · exact Or.inl (fun x q => e ⟨x, q⟩)
section ZH
variable {call : xm_C} {full rest : List xm_E} {nL mc ms : Nat} {ret : Option FieldType} {Q1 Q2 : xm_Q} {ih1 ih2 : List xm_E → xm_K} {nx : zN} {cl : Nat → Nat → List xm_E → List Int → List zV → zS → Option (Int × zS)} {rt : Int → zS → Option (Int × zS)} {pc a b : Nat} {ts : List Nat} {v : Value} {lv : xm_L} {st : List Value} {G : xm_H} {E : xm_R} {kc ks : Nat} {lz : List Int} {zst : List zV} {s : zS} {res : Int × zS}
theorem zs_iaload (hi : zIH nx ih1 ih2 nL E res) (hl : zL lv lz) (hn : lz.length = nL) (hs : zsr st zst) (hR : zR G s) (hz : zm_body nx cl rt none full (pc, .iaload, a, b, ts, v) rest lz zst s = some res) (h : xm_body call full nL mc ms ret Q1 ih1 (pc, .iaload, a, b, ts, v) rest lv st G E kc ks = true) : xm_body call full nL mc ms ret Q2 ih2 (pc, .iaload, a, b, ts, v) rest lv st G E kc ks = true := by
  have h : xm_iald st G E (fun st E => ih1 rest lv st G E kc ks) = true := h
  show xm_iald st G E (fun st E => ih2 rest lv st G E kc ks) = true
  obtain ⟨w, u, st', zst', rfl, rfl, pw, pu, ⟨x, j, rfl, rfl⟩, ht⟩ := zs_2 (P := zPA) hs (f := fun st => xm_iald st G E (fun st E => ih1 rest lv st G E kc ks)) h rfl (fun w => by cases w <;> rfl) (fun w u st hw hu e => by
    cases u with
    | ref j =>
      have hc : ∀ (E : xm_R) (k : xm_R → Int32 → Bool), xm_conc E w k = false := by
        intro E k
        cases w with
        | int x => exact absurd ⟨_, _, rfl, rfl⟩ e
        | retAddr p => cases hw
        | _ => rfl
      have hk : ∀ (ok : Nat → Bool) (j : Nat) (k : List Value → xm_R → Bool), xm_ald ok (w :: .ref j :: st) G E k = false := fun ok j k => by
        show xm_conc E w (fun E x => xm_rd ok G j x (fun w => k (w :: st) E)) = false
        exact hc _ _
      show (bif Nat.beq j 0 then (match (generalizing := false) xm_hget G 0 with
        | some (t, _) => bif Nat.beq t 300 then xm_conc E w (fun E x => match xm_nth E 6 with
          | some (lo, _) => bif decide (0 ≤ x.toInt) && decide (x.toInt < lo) then ih1 rest lv (.retAddr x.toInt.toNat :: st) G E kc ks else false
          | none => false) else xm_ald (fun t => Nat.beq t 301) (w :: .ref 0 :: st) G E (fun st E => ih1 rest lv st G E kc ks)
        | none => false)
        else xm_ald (fun t => Nat.beq t 100) (w :: .ref j :: st) G E (fun st E => ih1 rest lv st G E kc ks)) = false
      cases Nat.beq j 0 with
      | false => rw [cond_false]; exact hk _ _ _
      | true =>
        cases xm_hget G 0 with
        | none => rfl
        | some p =>
          obtain ⟨t, vs⟩ := p
          rw [cond_true]
          dsimp only
          cases Nat.beq t 300 with
          | false => rw [cond_false]; exact hk _ _ _
          | true => rw [cond_true]; exact hc _ _
    | _ => cases w <;> rfl)
  have hz : nx rest lz ((false, s j x.toInt) :: zst') s = some res := hz
  have e : ∀ k, xm_iald (.int x :: .ref j :: st') G E k = (bif Nat.beq j 0 then (match xm_hget G 0 with
      | some (t, _) => bif Nat.beq t 300 then xm_conc E (.int x) (fun E x => match xm_nth E 6 with
        | some (lo, _) => bif decide (0 ≤ x.toInt) && decide (x.toInt < lo) then k (.retAddr x.toInt.toNat :: st') E else false
        | none => false) else xm_ald (fun t => Nat.beq t 301) (.int x :: .ref 0 :: st') G E k
      | none => false)
    else xm_ald (fun t => Nat.beq t 100) (.int x :: .ref j :: st') G E k) := fun _ => rfl
  rw [e] at h ⊢
  cases hj : Nat.beq j 0 with
  | false =>
    rw [hj, cond_false] at h
    rw [cond_false]
    obtain ⟨t, vs, w, g1, g2, g3, g4, g5⟩ := zs_ald h
    rw [g5] at h ⊢
    have et := Nat.eq_of_beq_eq_true g2
    subst et
    obtain ⟨q1, q2, q3⟩ := hR.rd g1 g3 g4 zc_100
    exact hi rest lv _ G kc ks lz _ s hl hn (zsr_c q1 q2 q3 ht) hR hz h
  | true =>
    have ej := Nat.eq_of_beq_eq_true hj
    subst ej
    rw [hj, cond_true] at h
    rw [cond_true]
    cases hg : xm_hget G 0 with
    | none => rw [hg] at h; cases h
    | some p =>
      obtain ⟨t, vs⟩ := p
      rw [hg] at h
      dsimp only at h ⊢
      have hne : Nat.beq t 300 = false := Bool.eq_false_iff.mpr (fun q => (hR 0 t vs hg).1.1 (Nat.eq_of_beq_eq_true q))
      rw [hne, cond_false] at h ⊢
      obtain ⟨t', vs', w, g1, g2, g3, g4, g5⟩ := zs_ald h
      rw [g5] at h ⊢
      have et := Nat.eq_of_beq_eq_true g2
      subst et
      obtain ⟨q1, q2, q3⟩ := hR.rd g1 g3 g4 zc_301
      exact hi rest lv _ G kc ks lz _ s hl hn (zsr_c q1 q2 q3 ht) hR hz h
theorem zs_baload (hi : zIH nx ih1 ih2 nL E res) (hl : zL lv lz) (hn : lz.length = nL) (hs : zsr st zst) (hR : zR G s) (hz : zm_body nx cl rt none full (pc, .baload, a, b, ts, v) rest lz zst s = some res) (h : xm_body call full nL mc ms ret Q1 ih1 (pc, .baload, a, b, ts, v) rest lv st G E kc ks = true) : xm_body call full nL mc ms ret Q2 ih2 (pc, .baload, a, b, ts, v) rest lv st G E kc ks = true := by
  have h : xm_bald st G E (fun st E => ih1 rest lv st G E kc ks) = true := h
  show xm_bald st G E (fun st E => ih2 rest lv st G E kc ks) = true
  obtain ⟨w, u, st', zst', rfl, rfl, pw, pu, ⟨x, j, rfl, rfl⟩, ht⟩ := zs_2 (P := zPA) hs (f := fun st => xm_bald st G E (fun st E => ih1 rest lv st G E kc ks)) h rfl (fun w => by cases w <;> rfl) (fun w u st hw hu e => by
    cases u with
    | ref j =>
      have hc : ∀ (E : xm_R) (k : xm_R → Int32 → Bool), xm_conc E w k = false := by
        intro E k
        cases w with
        | int x => exact absurd ⟨_, _, rfl, rfl⟩ e
        | retAddr p => cases hw
        | _ => rfl
      have hk : ∀ (ok : Nat → Bool) (j : Nat) (k : List Value → xm_R → Bool), xm_ald ok (w :: .ref j :: st) G E k = false := fun ok j k => by
        show xm_conc E w (fun E x => xm_rd ok G j x (fun w => k (w :: st) E)) = false
        exact hc _ _
      show (match (generalizing := false) xm_hget G j with
        | some (t, _) => bif Nat.beq t 103 then xm_ald (fun t => Nat.beq t 103) (w :: .ref j :: st) G E (fun st E => ih1 rest lv st G E kc ks) else xm_ald (fun t => Nat.beq t 101) (w :: .ref j :: st) G E (fun st E => ih1 rest lv st G E kc ks)
        | none => false) = false
      cases xm_hget G j with
      | none => rfl
      | some p =>
        obtain ⟨t, vs⟩ := p
        dsimp only
        cases Nat.beq t 103 with
        | false => rw [cond_false]; exact hk _ _ _
        | true => rw [cond_true]; exact hk _ _ _
    | _ => cases w <;> rfl)
  have hz : nx rest lz ((false, s j x.toInt) :: zst') s = some res := hz
  have e : ∀ k, xm_bald (.int x :: .ref j :: st') G E k = (match xm_hget G j with
    | some (t, _) => bif Nat.beq t 103 then xm_ald (fun t => Nat.beq t 103) (.int x :: .ref j :: st') G E k else xm_ald (fun t => Nat.beq t 101) (.int x :: .ref j :: st') G E k
    | none => false) := fun _ => rfl
  rw [e] at h ⊢
  cases hg : xm_hget G j with
  | none => rw [hg] at h; cases h
  | some p =>
    obtain ⟨t, vs⟩ := p
    rw [hg] at h
    dsimp only at h ⊢
    cases hq : Nat.beq t 103 with
    | false =>
      rw [hq, cond_false] at h
      rw [cond_false]
      obtain ⟨t', vs', w, g1, g2, g3, g4, g5⟩ := zs_ald h
      rw [g5] at h ⊢
      have et := Nat.eq_of_beq_eq_true g2
      subst et
      obtain ⟨q1, q2, q3⟩ := hR.rd g1 g3 g4 zc_101
      exact hi rest lv _ G kc ks lz _ s hl hn (zsr_c q1 q2 q3 ht) hR hz h
    | true =>
      rw [hq, cond_true] at h
      rw [cond_true]
      obtain ⟨t', vs', w, g1, g2, g3, g4, g5⟩ := zs_ald h
      rw [g5] at h ⊢
      have et := Nat.eq_of_beq_eq_true g2
      subst et
      obtain ⟨q1, q2, q3⟩ := hR.rd g1 g3 g4 zc_103
      exact hi rest lv _ G kc ks lz _ s hl hn (zsr_c q1 q2 q3 ht) hR hz h
theorem zs_laload (hi : zIH nx ih1 ih2 nL E res) (hl : zL lv lz) (hn : lz.length = nL) (hs : zsr st zst) (hR : zR G s) (hz : zm_body nx cl rt none full (pc, .laload, a, b, ts, v) rest lz zst s = some res) (h : xm_body call full nL mc ms ret Q1 ih1 (pc, .laload, a, b, ts, v) rest lv st G E kc ks = true) : xm_body call full nL mc ms ret Q2 ih2 (pc, .laload, a, b, ts, v) rest lv st G E kc ks = true := by
  have h : xm_ald (fun t => Nat.beq t 102) st G E (fun st E => ih1 rest lv st G E kc ks) = true := h
  show xm_ald (fun t => Nat.beq t 102) st G E (fun st E => ih2 rest lv st G E kc ks) = true
  obtain ⟨w, u, st', zst', rfl, rfl, pw, pu, ⟨x, j, rfl, rfl⟩, ht⟩ := zs_2 (P := zPA) hs (f := fun st => xm_ald (fun t => Nat.beq t 102) st G E (fun st E => ih1 rest lv st G E kc ks)) h rfl (fun w => by cases w <;> rfl) (fun w u st hw hu e => by cases w <;> cases u <;> first | rfl | (cases hw; done) | (cases hu; done) | exact absurd ⟨_, _, rfl, rfl⟩ e)
  have hz : nx rest lz ((true, s j x.toInt) :: zst') s = some res := hz
  obtain ⟨t', vs', w, g1, g2, g3, g4, g5⟩ := zs_ald h
  rw [g5] at h ⊢
  have et := Nat.eq_of_beq_eq_true g2
  subst et
  obtain ⟨q1, q2, q3⟩ := hR.rd g1 g3 g4 zc_102
  exact hi rest lv _ G kc ks lz _ s hl hn (zsr_c q1 q2 q3 ht) hR hz h
theorem zs_aaload (hi : zIH nx ih1 ih2 nL E res) (hl : zL lv lz) (hn : lz.length = nL) (hs : zsr st zst) (hR : zR G s) (hz : zm_body nx cl rt none full (pc, .aaload, a, b, ts, v) rest lz zst s = some res) (h : xm_body call full nL mc ms ret Q1 ih1 (pc, .aaload, a, b, ts, v) rest lv st G E kc ks = true) : xm_body call full nL mc ms ret Q2 ih2 (pc, .aaload, a, b, ts, v) rest lv st G E kc ks = true := by
  have h : xm_ald xm_isAr st G E (fun st E => ih1 rest lv st G E kc ks) = true := h
  show xm_ald xm_isAr st G E (fun st E => ih2 rest lv st G E kc ks) = true
  obtain ⟨w, u, st', zst', rfl, rfl, pw, pu, ⟨x, j, rfl, rfl⟩, ht⟩ := zs_2 (P := zPA) hs (f := fun st => xm_ald xm_isAr st G E (fun st E => ih1 rest lv st G E kc ks)) h rfl (fun w => by cases w <;> rfl) (fun w u st hw hu e => by cases w <;> cases u <;> first | rfl | (cases hw; done) | (cases hu; done) | exact absurd ⟨_, _, rfl, rfl⟩ e)
  have hz : nx rest lz ((false, zaa j x.toInt) :: zst') s = some res := hz
  obtain ⟨t, vs', w, g1, g2, g3, g4, g5⟩ := zs_ald h
  rw [g5] at h ⊢
  have ht4 : t = 104 ∨ t = 105 ∨ t = 106 ∨ t = 107 := by
    unfold xm_isAr at g2
    split at g2
    · exact Or.inl rfl
    · exact Or.inr (Or.inl rfl)
    · exact Or.inr (Or.inr (Or.inl rfl))
    · exact Or.inr (Or.inr (Or.inr rfl))
    · cases g2
  obtain ⟨b1, b2, b3⟩ := (hR j t vs' g1).2 _ w g4
  have hc : zcon t j x.toInt.toNat = some (zaa j x.toInt) := by
    unfold zcon
    rw [if_neg (by omega), if_pos (by omega), Int.toNat_of_nonneg g3]
  have hg : zlg t x.toInt.toNat = false := by rcases ht4 with rfl | rfl | rfl | rfl <;> rfl
  rw [hc] at b3
  rw [hg] at b2
  exact hi rest lv _ G kc ks lz _ s hl hn (zsr_c b1 b2 b3 ht) hR hz h
theorem zs_getfield {n : Nat} (hi : zIH nx ih1 ih2 nL E res) (hl : zL lv lz) (hn : lz.length = nL) (hs : zsr st zst) (hR : zR G s) (hz : zm_body nx cl rt none full (pc, .getfield n, a, b, ts, v) rest lz zst s = some res) (h : xm_body call full nL mc ms ret Q1 ih1 (pc, .getfield n, a, b, ts, v) rest lv st G E kc ks = true) : xm_body call full nL mc ms ret Q2 ih2 (pc, .getfield n, a, b, ts, v) rest lv st G E kc ks = true := by
  replace h : xm_getf a b st G (fun st => ih1 rest lv st G E kc ks) = true := h
  show xm_getf a b st G (fun st => ih2 rest lv st G E kc ks) = true
  obtain ⟨w, st', zst', rfl, rfl, pw, ⟨j, rfl⟩, ht⟩ := zs_1 (P := fun w => ∃ j, w = .ref j) hs (f := fun st => xm_getf a b st G (fun st => ih1 rest lv st G E kc ks)) h rfl (fun w st hw e => by cases w <;> first | rfl | (cases hw; done) | exact absurd ⟨_, rfl⟩ e)
  have e : ∀ k, xm_getf a b (.ref j :: st') G k = (match xm_hget G j with
    | some (t, vs) => bif Nat.beq t a then (match xm_nth vs b with
      | some w => k (w :: st')
      | none => false) else false
    | none => false) := fun _ => rfl
  replace hz : nx rest lz ((zlg a b, match zcon a j b with
      | some c => c
      | none => s j ((b : Nat) : Int)) :: zst') s = some res := hz
  rw [e] at h ⊢
  cases hg : xm_hget G j with
  | none => rw [hg] at h; cases h
  | some p =>
    obtain ⟨t, vs⟩ := p
    rw [hg] at h
    dsimp only at h ⊢
    cases hta : Nat.beq t a with
    | false => rw [hta] at h; cases h
    | true =>
      rw [hta, cond_true, xl_nth] at h
      rw [cond_true, xl_nth]
      have et := Nat.eq_of_beq_eq_true hta
      subst et
      cases hv : vs[b]? with
      | none => rw [hv] at h; cases h
      | some w =>
        rw [hv] at h
        obtain ⟨q1, q2, q3⟩ := (hR j t vs hg).2 b w hv
        exact hi rest lv _ G kc ks lz _ s hl hn (zsr_c q1 q2 q3 ht) hR hz h
def zlt (ty : FieldType) : Bool := match ty with
  | .long => true
  | _ => false
theorem zs_tyq : ∀ a < 12, ∀ b < 40, zlt (xm_ty a b) = zlg a b := by decide +kernel
theorem zs_fit {ty : FieldType} {w : Value} (hw : zp w = true) (h : xm_fit ty w = true) : xm_isL w = zlt ty := by
  cases ty <;> cases w <;> first | rfl | (cases hw; done) | (cases h; done)
theorem zs_putfield {n : Nat} (hi : zIH nx ih1 ih2 nL E res) (hl : zL lv lz) (hn : lz.length = nL) (hs : zsr st zst) (hR : zR G s) (hz : zm_body nx cl rt none full (pc, .putfield n, a, b, ts, v) rest lz zst s = some res) (h : xm_body call full nL mc ms ret Q1 ih1 (pc, .putfield n, a, b, ts, v) rest lv st G E kc ks = true) : xm_body call full nL mc ms ret Q2 ih2 (pc, .putfield n, a, b, ts, v) rest lv st G E kc ks = true := by
  replace h : xm_putf a b st G (fun st G => ih1 rest lv st G E kc ks) = true := h
  show xm_putf a b st G (fun st G => ih2 rest lv st G E kc ks) = true
  obtain ⟨w, u, st', zst', rfl, rfl, pw, pu, ⟨j, rfl⟩, ht⟩ := zs_2 (P := fun _ u => ∃ j, u = .ref j) hs (f := fun st => xm_putf a b st G (fun st G => ih1 rest lv st G E kc ks)) h rfl (fun w => rfl) (fun w u st hw hu e => by cases u <;> first | rfl | (cases hu; done) | exact absurd ⟨_, rfl⟩ e)
  have e : ∀ k : List Value → xm_H → Bool, xm_putf a b (w :: .ref j :: st') G k = (match xm_hget G j with
      | some (t, vs) => bif Nat.beq t a && (Nat.ble 7 j && (xm_fit (xm_ty t b) w && Nat.blt b (xm_len vs))) then k st' (xm_hput G j (t, xm_put w vs b)) else false
      | none => false) := fun _ => rfl
  replace hz : (bif Nat.blt a 12 && Nat.blt b 40 then (match zcon a j b with
      | some _ => none
      | none => nx rest lz zst' (zu s j ((b : Nat) : Int) (zi w))) else none) = some res := hz
  rw [e] at h ⊢
  cases hg : xm_hget G j with
  | none => rw [hg] at h; cases h
  | some p =>
    obtain ⟨t, vs⟩ := p
    rw [hg] at h
    dsimp only at h ⊢
    cases hq : (Nat.beq t a && (Nat.ble 7 j && (xm_fit (xm_ty t b) w && Nat.blt b (xm_len vs)))) with
    | false => rw [hq] at h; cases h
    | true =>
      rw [hq, cond_true] at h
      rw [cond_true]
      rw [Bool.and_eq_true, Bool.and_eq_true, Bool.and_eq_true] at hq
      have et := Nat.eq_of_beq_eq_true hq.1
      subst et
      cases hb : (Nat.blt t 12 && Nat.blt b 40) with
      | false => rw [hb] at hz; cases hz
      | true =>
        rw [hb, cond_true] at hz
        rw [Bool.and_eq_true] at hb
        have h12 := Nat.le_of_ble_eq_true hb.1
        have h40 := Nat.le_of_ble_eq_true hb.2
        cases hc : zcon t j b with
        | some c => rw [hc] at hz; cases hz
        | none =>
          rw [hc] at hz
          have hL := zs_fit pw hq.2.2.1
          rw [zs_tyq t (by omega) b (by omega)] at hL
          exact hi rest lv st' _ kc ks lz zst' _ hl hn ht (hR.put hg pw hL rfl hc) hz h
/-- what is written into an array -/
theorem zs_ast {ok : Nat → Bool} {okv : Value → Option Value} {zx : Int → Int} {L : Bool} (hok : ∀ t i, ok t = true → zlg t i = L ∧ ∀ j, zcon t j i = none) (hokv : ∀ w w', zp w = true → okv w = some w' → zp w' = true ∧ xm_isL w' = L ∧ zi w' = zx (zi w)) (hi : zIH nx ih1 ih2 nL E res) (hl : zL lv lz) (hn : lz.length = nL) (hs : zsr st zst) (hR : zR G s) (hz : (match (generalizing := false) zst with
    | (_, x) :: (_, i) :: (_, j) :: st => nx rest lz st (zu s j i (zx x))
    | _ => none) = some res) (h : xm_ast ok okv st G E (fun st G E => ih1 rest lv st G E kc ks) = true) : xm_ast ok okv st G E (fun st G E => ih2 rest lv st G E kc ks) = true := by
  obtain ⟨w, u, t, st', zst', rfl, rfl, pw, pu, pt, ⟨⟨x, j, rfl, rfl⟩, w', hw'⟩, ht⟩ := zs_3 (P := fun w u t => (∃ x j, u = .int x ∧ t = .ref j) ∧ ∃ w', okv w = some w') hs (f := fun st => xm_ast ok okv st G E (fun st G E => ih1 rest lv st G E kc ks)) h rfl (fun w => rfl) (fun w u => by cases u <;> rfl) (fun w u t st hw hu ht e => by
    cases t with
    | ref j =>
      show (match okv w with
        | some w => xm_conc E u _
        | none => false) = false
      cases hq : okv w with
      | none => rfl
      | some w' =>
        cases u with
        | int x => exact absurd ⟨⟨_, _, rfl, rfl⟩, w', hq⟩ e
        | retAddr p => cases hu
        | _ => rfl
    | _ => rfl)
  have e : ∀ k : List Value → xm_H → xm_R → Bool, xm_ast ok okv (w :: .int x :: .ref j :: st') G E k = xm_wr ok G j x w' (fun G => k st' G E) := by
    intro k
    show (match okv w with
        | some w => xm_conc E (.int x) (fun E x => xm_wr ok G j x w (fun G => k st' G E))
        | none => false) = _
    rw [hw']
    rfl
  rw [e] at h ⊢
  obtain ⟨t, vs, g1, g2, g3, g4⟩ := zs_wr h
  rw [g4] at h ⊢
  obtain ⟨k1, k2, k3⟩ := hokv w w' pw hw'
  obtain ⟨c1, c2⟩ := hok t x.toInt.toNat g2
  have hz : nx rest lz zst' (zu s j x.toInt (zx (zi w))) = some res := hz
  exact hi rest lv st' _ kc ks lz zst' _ hl hn ht (hR.wr g1 g3 k1 (by rw [k2, c1]) k3 (c2 j)) hz h
theorem zs_iastore (hi : zIH nx ih1 ih2 nL E res) (hl : zL lv lz) (hn : lz.length = nL) (hs : zsr st zst) (hR : zR G s) (hz : zm_body nx cl rt none full (pc, .iastore, a, b, ts, v) rest lz zst s = some res) (h : xm_body call full nL mc ms ret Q1 ih1 (pc, .iastore, a, b, ts, v) rest lv st G E kc ks = true) : xm_body call full nL mc ms ret Q2 ih2 (pc, .iastore, a, b, ts, v) rest lv st G E kc ks = true :=
  zs_ast (ok := fun t => Nat.beq t 100) (okv := xm_kI) (zx := fun x => x) (L := false) (fun t i ht => by
    have et := Nat.eq_of_beq_eq_true ht
    subst et
    exact ⟨rfl, fun j => rfl⟩) (fun w w' hw hk => by
    cases w <;> first | (cases hw; done) | (cases hk; exact ⟨rfl, rfl, rfl⟩) | (cases hk; done)) hi hl hn hs hR hz h
theorem zs_lastore (hi : zIH nx ih1 ih2 nL E res) (hl : zL lv lz) (hn : lz.length = nL) (hs : zsr st zst) (hR : zR G s) (hz : zm_body nx cl rt none full (pc, .lastore, a, b, ts, v) rest lz zst s = some res) (h : xm_body call full nL mc ms ret Q1 ih1 (pc, .lastore, a, b, ts, v) rest lv st G E kc ks = true) : xm_body call full nL mc ms ret Q2 ih2 (pc, .lastore, a, b, ts, v) rest lv st G E kc ks = true :=
  zs_ast (ok := fun t => Nat.beq t 102) (okv := xm_kL) (zx := fun x => x) (L := true) (fun t i ht => by
    have et := Nat.eq_of_beq_eq_true ht
    subst et
    exact ⟨rfl, fun j => rfl⟩) (fun w w' hw hk => by
    cases w <;> first | (cases hw; done) | (cases hk; exact ⟨rfl, rfl, rfl⟩) | (cases hk; done)) hi hl hn hs hR hz h
theorem zs_bastore (hi : zIH nx ih1 ih2 nL E res) (hl : zL lv lz) (hn : lz.length = nL) (hs : zsr st zst) (hR : zR G s) (hz : zm_body nx cl rt none full (pc, .bastore, a, b, ts, v) rest lz zst s = some res) (h : xm_body call full nL mc ms ret Q1 ih1 (pc, .bastore, a, b, ts, v) rest lv st G E kc ks = true) : xm_body call full nL mc ms ret Q2 ih2 (pc, .bastore, a, b, ts, v) rest lv st G E kc ks = true := by
  have h : xm_bast st G E (fun st G E => ih1 rest lv st G E kc ks) = true := h
  show xm_bast st G E (fun st G E => ih2 rest lv st G E kc ks) = true
  obtain ⟨w, u, t, st', zst', rfl, rfl, pw, pu, pt, ⟨j, rfl⟩, ht⟩ := zs_3 (P := fun w u t => ∃ j, t = .ref j) hs (f := fun st => xm_bast st G E (fun st G E => ih1 rest lv st G E kc ks)) h rfl (fun w => rfl) (fun w u => by cases u <;> rfl) (fun w u t st hw hu ht e => by
    cases t with
    | ref j => exact absurd ⟨_, rfl⟩ e
    | _ => rfl)
  have e : ∀ k : List Value → xm_H → xm_R → Bool, xm_bast (w :: u :: .ref j :: st') G E k = (match xm_hget G j with
    | some (t, _) => bif Nat.beq t 103 then xm_ast (fun t => Nat.beq t 103) xm_kZ (w :: u :: .ref j :: st') G E k else xm_ast (fun t => Nat.beq t 101) xm_kB (w :: u :: .ref j :: st') G E k
    | none => false) := fun _ => rfl
  rw [e] at h ⊢
  have hs : zsr (w :: u :: .ref j :: st') ((xm_isL w, zi w) :: (xm_isL u, zi u) :: (xm_isL (.ref j), zi (.ref j)) :: zst') := zsr_c pw rfl rfl (zsr_c pu rfl rfl (zsr_c pt rfl rfl ht))
  cases hg : xm_hget G j with
  | none => rw [hg] at h; cases h
  | some p =>
    obtain ⟨t, vs⟩ := p
    rw [hg] at h
    dsimp only at h ⊢
    cases hq : Nat.beq t 103 with
    | false =>
      rw [hq, cond_false] at h
      rw [cond_false]
      refine zs_ast (ok := fun t => Nat.beq t 101) (okv := xm_kB) (zx := zb) (L := false) (fun t i ht => by
        have et := Nat.eq_of_beq_eq_true ht
        subst et
        exact ⟨rfl, fun j => rfl⟩) (fun w w' hw hk => ?_) hi hl hn hs hR hz h
      cases w <;> first | (cases hw; done) | (cases hk; done) | skip
      cases hk
      refine ⟨rfl, rfl, ?_⟩
      unfold zb
      show _ = (Int32.ofInt (Int32.toInt _)).toInt8.toInt32.toInt
      rw [Int32.ofInt_toInt]
      rfl
    | true =>
      rw [hq, cond_true] at h
      rw [cond_true]
      refine zs_ast (ok := fun t => Nat.beq t 103) (okv := xm_kZ) (zx := zb) (L := false) (fun t i ht => by
        have et := Nat.eq_of_beq_eq_true ht
        subst et
        exact ⟨rfl, fun j => rfl⟩) (fun w w' hw hk => ?_) hi hl hn hs hR hz h
      cases w <;> first | (cases hw; done) | (cases hk; done) | skip
      rename_i x
      have hk : (bif decide (x = 0) || decide (x = 1) then some (Value.int x) else none) = some w' := hk
      cases hc : (decide (x = 0) || decide (x = 1)) with
      | false => rw [hc] at hk; cases hk
      | true =>
        rw [hc] at hk
        cases hk
        rw [Bool.or_eq_true, decide_eq_true_eq, decide_eq_true_eq] at hc
        refine ⟨rfl, rfl, ?_⟩
        rcases hc with rfl | rfl <;> rfl
theorem zs_br (P : Prop) (dP : Decidable P) (A B : List xm_E) {bb : Bool} (hb : bb = @decide P dP) (hi : zIH nx ih1 ih2 nL E res) (hl : zL lv lz) (hn : lz.length = nL) (hs : zsr st zst) (hR : zR G s) (hz : nx (@ite _ P dP A B) lz zst s = some res) (h : (bif bb then ih1 A lv st G E kc ks else ih1 B lv st G E kc ks) = true) : (bif bb then ih2 A lv st G E kc ks else ih2 B lv st G E kc ks) = true := by
  subst hb
  cases dP with
  | isTrue p => exact hi A lv st G kc ks lz zst s hl hn hs hR hz h
  | isFalse p => exact hi B lv st G kc ks lz zst s hl hn hs hR hz h
theorem zs_brn (P : Prop) (dP : Decidable P) (A B : List xm_E) {bb : Bool} (hb : bb = !@decide P dP) (hi : zIH nx ih1 ih2 nL E res) (hl : zL lv lz) (hn : lz.length = nL) (hs : zsr st zst) (hR : zR G s) (hz : nx (@ite _ P dP B A) lz zst s = some res) (h : (bif bb then ih1 A lv st G E kc ks else ih1 B lv st G E kc ks) = true) : (bif bb then ih2 A lv st G E kc ks else ih2 B lv st G E kc ks) = true := by
  subst hb
  cases dP with
  | isTrue p => exact hi B lv st G kc ks lz zst s hl hn hs hR hz h
  | isFalse p => exact hi A lv st G kc ks lz zst s hl hn hs hR hz h
theorem zs_ifCond {c : Jvm.ClassFile.Cond} {off : Int} (hi : zIH nx ih1 ih2 nL E res) (hl : zL lv lz) (hn : lz.length = nL) (hs : zsr st zst) (hR : zR G s) (hz : zm_body nx cl rt none full (pc, .ifCond c off, a, b, ts, v) rest lz zst s = some res) (h : xm_body call full nL mc ms ret Q1 ih1 (pc, .ifCond c off, a, b, ts, v) rest lv st G E kc ks = true) : xm_body call full nL mc ms ret Q2 ih2 (pc, .ifCond c off, a, b, ts, v) rest lv st G E kc ks = true := by
  have h : (match (generalizing := false) st with
    | w :: st => xm_cmpI E w (.int 0) (fun E s => bif xm_holds c s then ih1 (xm_drop a full) lv st G E kc ks else ih1 rest lv st G E kc ks)
    | _ => false) = true := h
  show (match (generalizing := false) st with
    | w :: st => xm_cmpI E w (.int 0) (fun E s => bif xm_holds c s then ih2 (xm_drop a full) lv st G E kc ks else ih2 rest lv st G E kc ks)
    | _ => false) = true
  obtain ⟨w, st', zst', rfl, rfl, pw, ⟨x, rfl⟩, ht⟩ := zs_1 (P := fun w => ∃ x, w = .int x) hs (f := fun st => (match (generalizing := false) st with
    | w :: st => xm_cmpI E w (.int 0) (fun E s => bif xm_holds c s then ih1 (xm_drop a full) lv st G E kc ks else ih1 rest lv st G E kc ks)
    | _ => false)) h rfl (fun w st hw e => by cases w <;> first | rfl | (cases hw; done) | exact absurd ⟨_, rfl⟩ e)
  cases c with
  | eq => exact zs_br (x.toInt = 0) _ _ _ xk_eq hi hl hn ht hR hz h
  | ne => exact zs_brn (x.toInt = 0) _ _ _ xk_ne hi hl hn ht hR hz h
  | lt => exact zs_br (x.toInt < 0) _ _ _ xk_lt hi hl hn ht hR hz h
  | ge => exact zs_brn (x.toInt < 0) _ _ _ xk_ge hi hl hn ht hR hz h
  | gt => exact zs_br (0 < x.toInt) _ _ _ xk_gt hi hl hn ht hR hz h
  | le => exact zs_brn (0 < x.toInt) _ _ _ xk_le hi hl hn ht hR hz h
theorem zs_if_icmp {c : Jvm.ClassFile.Cond} {off : Int} (hi : zIH nx ih1 ih2 nL E res) (hl : zL lv lz) (hn : lz.length = nL) (hs : zsr st zst) (hR : zR G s) (hz : zm_body nx cl rt none full (pc, .if_icmp c off, a, b, ts, v) rest lz zst s = some res) (h : xm_body call full nL mc ms ret Q1 ih1 (pc, .if_icmp c off, a, b, ts, v) rest lv st G E kc ks = true) : xm_body call full nL mc ms ret Q2 ih2 (pc, .if_icmp c off, a, b, ts, v) rest lv st G E kc ks = true := by
  have h : (match (generalizing := false) st with
    | w :: u :: st => xm_cmpI E u w (fun E s => bif xm_holds c s then ih1 (xm_drop a full) lv st G E kc ks else ih1 rest lv st G E kc ks)
    | _ => false) = true := h
  show (match (generalizing := false) st with
    | w :: u :: st => xm_cmpI E u w (fun E s => bif xm_holds c s then ih2 (xm_drop a full) lv st G E kc ks else ih2 rest lv st G E kc ks)
    | _ => false) = true
  obtain ⟨w, u, st', zst', rfl, rfl, pw, pu, ⟨y, x, rfl, rfl⟩, ht⟩ := zs_2 (P := zPI) hs (f := fun st => (match (generalizing := false) st with
    | w :: u :: st => xm_cmpI E u w (fun E s => bif xm_holds c s then ih1 (xm_drop a full) lv st G E kc ks else ih1 rest lv st G E kc ks)
    | _ => false)) h rfl (fun w => rfl) (fun w u st hw hu e => by cases w <;> cases u <;> first | rfl | (cases hw; done) | (cases hu; done) | exact absurd ⟨_, _, rfl, rfl⟩ e)
  cases c with
  | eq => exact zs_br (x.toInt = y.toInt) _ _ _ xk_eq hi hl hn ht hR hz h
  | ne => exact zs_brn (x.toInt = y.toInt) _ _ _ xk_ne hi hl hn ht hR hz h
  | lt => exact zs_br (x.toInt < y.toInt) _ _ _ xk_lt hi hl hn ht hR hz h
  | ge => exact zs_brn (x.toInt < y.toInt) _ _ _ xk_ge hi hl hn ht hR hz h
  | gt => exact zs_br (y.toInt < x.toInt) _ _ _ xk_gt hi hl hn ht hR hz h
  | le => exact zs_brn (y.toInt < x.toInt) _ _ _ xk_le hi hl hn ht hR hz h
end ZH
