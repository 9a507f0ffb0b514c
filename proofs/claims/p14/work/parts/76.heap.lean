/-! one row an instruction: the heap -/
section XC
variable {Z : xs_Z} {G : xm_H} {H : Heap}
theorem xs_nocls {t : Nat} (h : 100 ≤ t) : xm_cls[t]? = none := List.getElem?_eq_none (by show 12 ≤ t; omega)
theorem xs_arr {j t : Nat} {vs : List Value} (h : xs_HW Z G H) (hg : xm_hget G j = some (t, vs)) (h1 : 100 ≤ t) (h2 : t < 108) : j < G.1 ∧ H[xs_rho Z j]? = some (arrV (Z.2.1 (t - 100)) vs.length (fun k => xs_cv Z (vs.getD k .null))) := by
  obtain ⟨hj, hh⟩ := h.2.2 j _ hg
  refine ⟨hj, ?_⟩
  rcases hh with ⟨r, q1, -⟩ | ⟨-, -, q⟩ | ⟨q, -⟩ | ⟨q, -⟩ | ⟨q, -⟩
  · have q1 : xm_cls[t]? = some r := q1
    rw [xs_nocls h1] at q1
    cases q1
  · exact q
  · have q : t = 302 := q
    omega
  · have q : 200 ≤ t := q
    omega
  · have q : t = 301 := q
    omega
theorem xs_obj {j t : Nat} {vs : List Value} {r : vw_C} (h : xs_HW Z G H) (hg : xm_hget G j = some (t, vs)) (hr : xm_cls[t]? = some r) : j < G.1 ∧ vs.length = r.2.2 ∧ t_OB (xs_rho Z j) (Z.1.1 t) r.2.2 (Z.1.2 t) H (fun k => xs_cv Z (vs.getD k .null)) := by
  have h12 : t < 12 := (List.getElem?_eq_some_iff.mp hr).1
  obtain ⟨hj, hh⟩ := h.2.2 j _ hg
  refine ⟨hj, ?_⟩
  rcases hh with ⟨r', q1, q2, q3⟩ | ⟨q, -⟩ | ⟨q, -⟩ | ⟨q, -⟩ | ⟨q, -⟩
  · have q1 : xm_cls[t]? = some r' := q1
    cases hr.symm.trans q1
    exact ⟨q2, q3⟩
  · have q : 100 ≤ t := q
    omega
  · have q : t = 302 := q
    omega
  · have q : 200 ≤ t := q
    omega
  · have q : t = 301 := q
    omega
theorem xs_no300 {j : Nat} {vs : List Value} (h : xs_HW Z G H) (hg : xm_hget G j = some (300, vs)) : False := by
  obtain ⟨hj, hh⟩ := h.2.2 j _ hg
  rcases hh with ⟨r', q1, q2, q3⟩ | ⟨-, q, -⟩ | ⟨q, -⟩ | ⟨-, q, -⟩ | ⟨q, -⟩
  · have q1 : xm_cls[300]? = some r' := q1
    rw [xs_nocls (by decide)] at q1
    cases q1
  · have q : 300 < 108 := q
    omega
  · have q : 300 = 302 := q
    omega
  · have q : 300 < 206 := q
    omega
  · have q : 300 = 301 := q
    omega
theorem xs_scr {j : Nat} {vs : List Value} (h : xs_HW Z G H) (hg : xm_hget G j = some (301, vs)) : j = 0 ∧ H[xs_rho Z j]? = some Z.2.2.2.2.2.1 ∧ vs.length = Z.2.2.2.2.2.1.slots.size ∧ ∀ k : Nat, k < vs.length → ∃ z : Int32, vs[k]? = some (.int z) ∧ Z.2.2.2.2.2.1.slots[k]? = some (.int z) := by
  obtain ⟨hj, hh⟩ := h.2.2 j _ hg
  rcases hh with ⟨r', q1, q2, q3⟩ | ⟨-, q, -⟩ | ⟨q, -⟩ | ⟨-, q, -⟩ | ⟨-, q⟩
  · have q1 : xm_cls[301]? = some r' := q1
    rw [xs_nocls (by decide)] at q1
    cases q1
  · have q : 301 < 108 := q
    omega
  · have q : 301 = 302 := q
    omega
  · have q : 301 < 206 := q
    omega
  · exact q
theorem xs_arrcongr {cA : ClassId} {N : Nat} {f g : Nat → Value} (h : ∀ k, k < N → f k = g k) : arrV cA N f = arrV cA N g := by
  unfold arrV
  congr 1
  apply Array.ext
  · simp
  · intro i h1 h2
    simp only [Array.getElem_ofFn]
    exact h i (by simpa using h1)
theorem xs_arrset {cA : ClassId} {vs : List Value} {n : Nat} {w : Value} (hn : n < vs.length) : (arrV cA vs.length (fun k => xs_cv Z (vs.getD k .null))).setSlot n (xs_cv Z w) = arrV cA (vs.set n w).length (fun k => xs_cv Z ((vs.set n w).getD k .null)) := by
  rw [arrV_store, List.length_set]
  apply xs_arrcongr
  intro k hk
  show (if k = n then xs_cv Z w else xs_cv Z (vs.getD k .null)) = _
  by_cases e : k = n
  · subst e
    rw [if_pos rfl, List.getD_eq_getElem?_getD, List.getElem?_set_self hn]
    rfl
  · rw [if_neg e, List.getD_eq_getElem?_getD, List.getD_eq_getElem?_getD, List.getElem?_set_ne (fun q => e q.symm)]
theorem xs_in {x : Int32} {n : Nat} (h0 : 0 ≤ x.toInt) (h : x.toInt.toNat < n) : ¬ (x < 0 ∨ n ≤ x.toNatClampNeg) := by
  rintro (q | q)
  · have q1 : x.toInt < 0 := Int32.lt_iff_toInt_lt.mp q
    omega
  · have q1 : n ≤ x.toInt.toNat := q
    omega
theorem xs_read {cA : ClassId} {vs : List Value} {n : Nat} {w : Value} (h : vs[n]? = some w) : (arrV cA vs.length (fun k => xs_cv Z (vs.getD k .null))).slots[n]? = some (xs_cv Z w) := by
  have hl := (List.getElem?_eq_some_iff.mp h).1
  rw [arrV_read _ _ hl, List.getD_eq_getElem?_getD, h]
  rfl
end XC
section XD
variable {p : Program} {l : Launch} {e : Env} {R : Room} {s : State} {m : MethodId} {args : Array Value} {below : List Frame} {meth : Method} {c : Code} {Qf : State → Prop} {cc : ByteArray} {nL o : Nat} {Z : xs_Z}
variable {lv : xm_L} {st : List Value} {G : xm_H} {E : xm_R} {kc ks pc : Nat} {k : xm_K} {H : Heap} {locs : List Loc} {ls : Array Slot}
theorem xs_word (X : xs_Cx p s m args c cc nL o Z) {i : Nat} {w : Jvm.Cond} (h : xm_w i w = true) : w.before args s = true := X.2.2.2.2.1 w (xk_w h)
theorem xs_atk {l : List (Nat × Value × Nat)} {i : Nat} {v : Value} (h : xm_atk l i v = true) : ∃ r ∈ l, r.1 = i ∧ r.2.1 = v := by
  unfold xm_atk at h
  obtain ⟨r, hr, h1⟩ := List.any_eq_true.mp h
  rw [Bool.and_eq_true, decide_eq_true_eq] at h1
  exact ⟨r, hr, Nat.eq_of_beq_eq_true h1.1, h1.2⟩
theorem xs_at3 {l : List (Nat × Nat × Nat × Nat)} {i a b : Nat} (h : xm_at3 l (i, a, b) = true) : ∃ r ∈ l, r.1 = i ∧ r.2.1 = a ∧ r.2.2.1 = b := by
  unfold xm_at3 at h
  obtain ⟨r, hr, h1⟩ := List.any_eq_true.mp h
  rw [Bool.and_eq_true, Bool.and_eq_true] at h1
  exact ⟨r, hr, Nat.eq_of_beq_eq_true h1.1, Nat.eq_of_beq_eq_true h1.2.1, Nat.eq_of_beq_eq_true h1.2.2⟩
theorem xs_at2 {l : List (Nat × Nat × Nat)} {i a : Nat} (h : xm_at2 l (i, a) = true) : ∃ r ∈ l, r.1 = i ∧ r.2.1 = a := by
  unfold xm_at2 at h
  obtain ⟨r, hr, h1⟩ := List.any_eq_true.mp h
  rw [Bool.and_eq_true] at h1
  exact ⟨r, hr, Nat.eq_of_beq_eq_true h1.1, Nat.eq_of_beq_eq_true h1.2⟩
theorem xb_ldc (X : xs_Cx p s m args c cc nL o Z) {i : Nat} {v : Value} (hd : decode cc pc = .ok (.ldc i, 2)) (hv : xm_atk (xm_kl o) i v = true) (hi : xm_ki v = true) (hk : k lv (v :: st) G E kc ks = true) (g : xs_good p l e R s m args below meth c Qf nL Z k (pc + 2)) (S : xs_St Z nL lv G E H locs ls) : W p l e R s m args below meth c H locs kc ks Qf (F0 m pc ls (st.map (xs_cv Z))) := by
  obtain ⟨r, hr, e1, e2⟩ := xs_atk hv
  have h1 := List.all_eq_true.mp (xk_kl o X.2.2.2.2.2.2) r hr
  obtain ⟨ri, rv, rw_⟩ := r
  dsimp only at e1 e2
  subst e1 e2
  have h2 := g lv _ G E kc ks hk H locs ls S
  cases rv with
  | int z => exact lv_ldc X.1 X.2.1 X.2.2.2.1 (xs_word X h1) hd h2
  | ref j =>
    have h1 : (match xm_str[j - 1]? with
      | some t => decide (t.1 = xm_own o) && (Nat.beq t.2.1 ri && (Nat.ble 1 j && Nat.blt j 7))
      | none => false) = true := h1
    cases ht : xm_str[j - 1]? with
    | none => rw [ht] at h1; cases h1
    | some t =>
      rw [ht] at h1
      simp only [Bool.and_eq_true, decide_eq_true_eq] at h1
      obtain ⟨a1, a2, a3, a4⟩ := h1
      have a2 := Nat.eq_of_beq_eq_true a2
      have a3 : 1 ≤ j := Nat.le_of_ble_eq_true a3
      have a4 : j < 7 := Nat.le_of_ble_eq_true a4
      have hR := X.2.2.2.2.2.1.2.2.1 (j - 1) t ht
      rw [a1, a2, show j - 1 + 1 = j from Nat.sub_add_cancel a3] at hR
      have hj : xs_cv Z (.ref j) = .ref (Z.2.2.2.1 j) := by
        show Value.ref (xs_rho Z j) = _
        unfold xs_rho
        rw [if_pos a4]
      rw [List.map_cons, hj] at h2
      exact va_ldcS X.1 X.2.1 X.2.2.2.1 hR hd h2
  | _ => cases hi
theorem xb_ldc_w (X : xs_Cx p s m args c cc nL o Z) {i : Nat} {v : Value} (hd : decode cc pc = .ok (.ldc_w i, 3)) (hv : xm_atk (xm_kl o) i v = true) (hi : xm_kii v = true) (hk : k lv (v :: st) G E kc ks = true) (g : xs_good p l e R s m args below meth c Qf nL Z k (pc + 3)) (S : xs_St Z nL lv G E H locs ls) : W p l e R s m args below meth c H locs kc ks Qf (F0 m pc ls (st.map (xs_cv Z))) := by
  obtain ⟨r, hr, e1, e2⟩ := xs_atk hv
  have h1 := List.all_eq_true.mp (xk_kl o X.2.2.2.2.2.2) r hr
  obtain ⟨ri, rv, rw_⟩ := r
  dsimp only at e1 e2
  subst e1 e2
  have h2 := g lv _ G E kc ks hk H locs ls S
  cases rv with
  | int z => exact lv_ldcw X.1 X.2.1 X.2.2.2.1 (xs_word X h1) hd h2
  | _ => cases hi
theorem xb_ldc2_w (X : xs_Cx p s m args c cc nL o Z) {i : Nat} {v : Value} (hd : decode cc pc = .ok (.ldc2_w i, 3)) (hv : xm_atk (xm_kl o) i v = true) (hi : xm_kll v = true) (hk : k lv (v :: st) G E kc ks = true) (g : xs_good p l e R s m args below meth c Qf nL Z k (pc + 3)) (S : xs_St Z nL lv G E H locs ls) : W p l e R s m args below meth c H locs kc ks Qf (F0 m pc ls (st.map (xs_cv Z))) := by
  obtain ⟨r, hr, e1, e2⟩ := xs_atk hv
  have h1 := List.all_eq_true.mp (xk_kl o X.2.2.2.2.2.2) r hr
  obtain ⟨ri, rv, rw_⟩ := r
  dsimp only at e1 e2
  subst e1 e2
  have h2 := g lv _ G E kc ks hk H locs ls S
  cases rv with
  | long z => exact lv_ldc2 X.1 X.2.1 X.2.2.2.1 (xs_word X h1) hd h2
  | _ => cases hi
theorem xs_rd {ok : Nat → Bool} {j : Nat} {x : Int32} {kk : Value → Bool} (h : xm_rd ok G j x kk = true) : ∃ t vs w, xm_hget G j = some (t, vs) ∧ ok t = true ∧ 0 ≤ x.toInt ∧ vs[x.toInt.toNat]? = some w ∧ kk w = true := by
  unfold xm_rd at h
  cases hg : xm_hget G j with
  | none => rw [hg] at h; cases h
  | some q =>
    obtain ⟨t, vs⟩ := q
    rw [hg] at h
    dsimp only at h
    cases hc : (ok t && decide (0 ≤ x.toInt)) with
    | false => rw [hc] at h; cases h
    | true =>
      rw [hc, cond_true, xl_nth] at h
      rw [Bool.and_eq_true, decide_eq_true_eq] at hc
      cases hw : vs[x.toInt.toNat]? with
      | none => rw [hw] at h; cases h
      | some w =>
        rw [hw] at h
        exact ⟨t, vs, w, rfl, hc.1, hc.2, hw, h⟩
theorem xs_ald {ok : Nat → Bool} {kk : List Value → xm_R → Bool} (h : xm_ald ok st G E kk = true) (hs : xs_sat Z E) : ∃ ix j st' E' x t vs w, st = ix :: .ref j :: st' ∧ xs_cv Z ix = .int x ∧ xm_hget G j = some (t, vs) ∧ ok t = true ∧ 0 ≤ x.toInt ∧ vs[x.toInt.toNat]? = some w ∧ xs_sat Z E' ∧ kk (w :: st') E' = true := by
  unfold xm_ald at h
  split at h
  · rename_i ix j st'
    obtain ⟨E', x, h1, s1, hx⟩ := xs_conc h hs
    obtain ⟨t, vs, w, a1, a2, a3, a4, a5⟩ := xs_rd h1
    exact ⟨ix, j, st', E', x, t, vs, w, rfl, hx, a1, a2, a3, a4, s1, a5⟩
  · cases h
theorem xb_ald_i (X : xs_Cx p s m args c cc nL o Z) (hd : decode cc pc = .ok (.iaload, 1)) (hk : xm_ald (fun t => Nat.beq t 100) st G E (fun st E => k lv st G E kc ks) = true) (g : xs_good p l e R s m args below meth c Qf nL Z k (pc + 1)) (S : xs_St Z nL lv G E H locs ls) : W p l e R s m args below meth c H locs kc ks Qf (F0 m pc ls (st.map (xs_cv Z))) := by
  obtain ⟨ix, j, st', E', x, t, vs, w, rfl, hx, a1, a2, a3, a4, s1, a5⟩ := xs_ald hk S.1
  have a2 := Nat.eq_of_beq_eq_true a2
  subst a2
  obtain ⟨-, hc⟩ := xs_arr S.2.1 a1 (by decide) (by decide)
  have hl := (List.getElem?_eq_some_iff.mp a4).1
  rw [List.map_cons, hx]
  exact W.iald (v := xs_cv Z w) X.1 X.2.1 hc ((X.2.2.2.2.2.1.1.2 0 _ rfl).1 _ _) (fun q => by cases q) (by rw [arrV_size]; exact xs_in a3 hl) (xs_read a4) rfl rfl hd (g lv _ G E' kc ks a5 H locs ls ⟨s1, S.2⟩)
theorem xb_iaload (X : xs_Cx p s m args c cc nL o Z) (hd : decode cc pc = .ok (.iaload, 1)) (hk : xm_iald st G E (fun st E => k lv st G E kc ks) = true) (g : xs_good p l e R s m args below meth c Qf nL Z k (pc + 1)) (S : xs_St Z nL lv G E H locs ls) : W p l e R s m args below meth c H locs kc ks Qf (F0 m pc ls (st.map (xs_cv Z))) := by
  unfold xm_iald at hk
  split at hk
  · rename_i ix j st'
    cases hj : Nat.beq j 0 with
    | false =>
      rw [hj] at hk
      exact xb_ald_i X hd hk g S
    | true =>
      rw [hj, cond_true] at hk
      have hj := Nat.eq_of_beq_eq_true hj
      subst hj
      cases h0 : xm_hget G 0 with
      | none => rw [h0] at hk; cases hk
      | some q =>
        obtain ⟨t, vs⟩ := q
        rw [h0] at hk
        dsimp only at hk
        cases h3 : Nat.beq t 300 with
        | true =>
          have h3 := Nat.eq_of_beq_eq_true h3
          subst h3
          exact (xs_no300 S.2.1 h0).elim
        | false =>
          rw [h3, cond_false] at hk
          obtain ⟨ix', j', st2, E', x, t', vs', w, e0, hx, a1, a2, a3, a4, s1, a5⟩ := xs_ald hk S.1
          cases e0
          have a2 := Nat.eq_of_beq_eq_true a2
          subst a2
          obtain ⟨-, r1, r2, r3⟩ := xs_scr S.2.1 a1
          have hl := (List.getElem?_eq_some_iff.mp a4).1
          obtain ⟨z, z1, z2⟩ := r3 _ hl
          rw [a4] at z1
          cases z1
          obtain ⟨k1, k2, k3⟩ := X.2.2.2.2.2.1.2.2.2.1
          rw [List.map_cons, hx]
          exact W.iald (v := .int z) X.1 X.2.1 r1 k1 k2 (xs_in a3 (by omega)) z2 rfl rfl hd (g lv _ G E' kc ks a5 H locs ls ⟨s1, S.2⟩)
  · cases hk
theorem xb_laload (X : xs_Cx p s m args c cc nL o Z) (hd : decode cc pc = .ok (.laload, 1)) (hk : xm_ald (fun t => Nat.beq t 102) st G E (fun st E => k lv st G E kc ks) = true) (g : xs_good p l e R s m args below meth c Qf nL Z k (pc + 1)) (S : xs_St Z nL lv G E H locs ls) : W p l e R s m args below meth c H locs kc ks Qf (F0 m pc ls (st.map (xs_cv Z))) := by
  obtain ⟨ix, j, st', E', x, t, vs, w, rfl, hx, a1, a2, a3, a4, s1, a5⟩ := xs_ald hk S.1
  have a2 := Nat.eq_of_beq_eq_true a2
  subst a2
  obtain ⟨-, hc⟩ := xs_arr S.2.1 a1 (by decide) (by decide)
  have hl := (List.getElem?_eq_some_iff.mp a4).1
  rw [List.map_cons, hx]
  exact W.lald (v := xs_cv Z w) X.1 X.2.1 hc ((X.2.2.2.2.2.1.1.2 2 _ rfl).1 _ _) (fun q => by cases q) (by rw [arrV_size]; exact xs_in a3 hl) (xs_read a4) rfl rfl hd (g lv _ G E' kc ks a5 H locs ls ⟨s1, S.2⟩)
theorem xb_baload (X : xs_Cx p s m args c cc nL o Z) (hd : decode cc pc = .ok (.baload, 1)) (hk : xm_bald st G E (fun st E => k lv st G E kc ks) = true) (g : xs_good p l e R s m args below meth c Qf nL Z k (pc + 1)) (S : xs_St Z nL lv G E H locs ls) : W p l e R s m args below meth c H locs kc ks Qf (F0 m pc ls (st.map (xs_cv Z))) := by
  unfold xm_bald at hk
  split at hk
  · rename_i ix0 j0 st0
    cases h0 : xm_hget G j0 with
    | none => rw [h0] at hk; cases hk
    | some q =>
      obtain ⟨t0, vs0⟩ := q
      rw [h0] at hk
      dsimp only at hk
      cases h3 : Nat.beq t0 103 with
      | true =>
        rw [h3, cond_true] at hk
        obtain ⟨ix, j, st', E', x, t, vs, w, e0, hx, a1, a2, a3, a4, s1, a5⟩ := xs_ald hk S.1
        cases e0
        have a2 := Nat.eq_of_beq_eq_true a2
        subst a2
        obtain ⟨-, hc⟩ := xs_arr S.2.1 a1 (by decide) (by decide)
        have hl := (List.getElem?_eq_some_iff.mp a4).1
        rw [List.map_cons, hx]
        exact W.zald (v := xs_cv Z w) X.1 X.2.1 hc ((X.2.2.2.2.2.1.1.2 3 _ rfl).1 _ _) (fun q => by cases q) (by rw [arrV_size]; exact xs_in a3 hl) (xs_read a4) rfl rfl hd (g lv _ G E' kc ks a5 H locs ls ⟨s1, S.2⟩)
      | false =>
        rw [h3, cond_false] at hk
        obtain ⟨ix, j, st', E', x, t, vs, w, e0, hx, a1, a2, a3, a4, s1, a5⟩ := xs_ald hk S.1
        cases e0
        have a2 := Nat.eq_of_beq_eq_true a2
        subst a2
        obtain ⟨-, hc⟩ := xs_arr S.2.1 a1 (by decide) (by decide)
        have hl := (List.getElem?_eq_some_iff.mp a4).1
        rw [List.map_cons, hx]
        exact W.bald (v := xs_cv Z w) X.1 X.2.1 hc ((X.2.2.2.2.2.1.1.2 1 _ rfl).1 _ _) (fun q => by cases q) (by rw [arrV_size]; exact xs_in a3 hl) (xs_read a4) rfl rfl hd (g lv _ G E' kc ks a5 H locs ls ⟨s1, S.2⟩)
  · cases hk
theorem xs_isAr {t : Nat} (h : xm_isAr t = true) : t = 104 ∨ t = 105 ∨ t = 106 ∨ t = 107 := by
  unfold xm_isAr at h
  split at h
  · exact Or.inl rfl
  · exact Or.inr (Or.inl rfl)
  · exact Or.inr (Or.inr (Or.inl rfl))
  · exact Or.inr (Or.inr (Or.inr rfl))
  · cases h
theorem xb_aaload (X : xs_Cx p s m args c cc nL o Z) (hd : decode cc pc = .ok (.aaload, 1)) (hk : xm_ald xm_isAr st G E (fun st E => k lv st G E kc ks) = true) (g : xs_good p l e R s m args below meth c Qf nL Z k (pc + 1)) (S : xs_St Z nL lv G E H locs ls) : W p l e R s m args below meth c H locs kc ks Qf (F0 m pc ls (st.map (xs_cv Z))) := by
  obtain ⟨ix, j, st', E', x, t, vs, w, rfl, hx, a1, a2, a3, a4, s1, a5⟩ := xs_ald hk S.1
  have hl := (List.getElem?_eq_some_iff.mp a4).1
  rw [List.map_cons, hx]
  rcases xs_isAr a2 with rfl | rfl | rfl | rfl
  · obtain ⟨-, hc⟩ := xs_arr S.2.1 a1 (by decide) (by decide)
    exact W.aald (v := xs_cv Z w) X.1 X.2.1 hc ((X.2.2.2.2.2.1.1.2 4 _ rfl).1 _ _) rfl (fun q => by cases q) (by rw [arrV_size]; exact xs_in a3 hl) (xs_read a4) rfl rfl hd (g lv _ G E' kc ks a5 H locs ls ⟨s1, S.2⟩)
  · obtain ⟨-, hc⟩ := xs_arr S.2.1 a1 (by decide) (by decide)
    exact W.aald (v := xs_cv Z w) X.1 X.2.1 hc ((X.2.2.2.2.2.1.1.2 5 _ rfl).1 _ _) rfl (fun q => by cases q) (by rw [arrV_size]; exact xs_in a3 hl) (xs_read a4) rfl rfl hd (g lv _ G E' kc ks a5 H locs ls ⟨s1, S.2⟩)
  · obtain ⟨-, hc⟩ := xs_arr S.2.1 a1 (by decide) (by decide)
    exact W.aald (v := xs_cv Z w) X.1 X.2.1 hc ((X.2.2.2.2.2.1.1.2 6 _ rfl).1 _ _) rfl (fun q => by cases q) (by rw [arrV_size]; exact xs_in a3 hl) (xs_read a4) rfl rfl hd (g lv _ G E' kc ks a5 H locs ls ⟨s1, S.2⟩)
  · obtain ⟨-, hc⟩ := xs_arr S.2.1 a1 (by decide) (by decide)
    exact W.aald (v := xs_cv Z w) X.1 X.2.1 hc ((X.2.2.2.2.2.1.1.2 7 _ rfl).1 _ _) rfl (fun q => by cases q) (by rw [arrV_size]; exact xs_in a3 hl) (xs_read a4) rfl rfl hd (g lv _ G E' kc ks a5 H locs ls ⟨s1, S.2⟩)
end XD
