/-! a run of the interval machine is a run of the little one -/
theorem yl_pop : ∀ {n : Nat} {acc st : List Value} {q : List Value × List Value} {f : Value → Value} {k : List Value → List Value → Bool}, ym_pop n acc st = some q → xm_pop n (acc.map f) (st.map f) k = k (q.1.map f) (q.2.map f) ∧ (∀ v ∈ q.1, v ∈ acc ∨ v ∈ st) ∧ (∀ v ∈ q.2, v ∈ st)
  | 0, acc, st, q, f, k, h => by
    have h : some (acc, st) = some q := h
    cases h
    exact ⟨rfl, fun v hv => Or.inl hv, fun v hv => hv⟩
  | n + 1, acc, [], q, f, k, h => by cases h
  | n + 1, acc, v :: st, q, f, k, h => by
    have h : ym_pop n (v :: acc) st = some q := h
    obtain ⟨h1, h2, h3⟩ := yl_pop (f := f) (k := k) h
    refine ⟨h1, fun w hw => ?_, fun w hw => List.mem_cons_of_mem _ (h3 w hw)⟩
    rcases h2 w hw with q | q
    · rcases List.mem_cons.mp q with rfl | q
      · exact Or.inr List.mem_cons_self
      · exact Or.inl q
    · exact Or.inr (List.mem_cons_of_mem _ q)
theorem yl_dropS {full rest : List xm_E} {e : xm_E} {pos : Nat} (h : xm_drop pos full = e :: rest) : xm_drop (Nat.succ pos) full = rest := by
  rw [xl_drop] at h ⊢
  have := List.tail_drop (l := full) (i := pos)
  rw [h] at this
  exact this.symm
/-- a body taken in: what it comes to -/
def ys_X (Inv : xm_H → Prop) (md : yM) (G0 : xm_H) (cx : ym_X) (cc : xm_C) : Prop := ∀ (a : Nat) (As : List Value) (E : ym_S) (C : ym_C) (Qa : ym_Q) (y : Nat → Int) (G : xm_H) (Ec : xm_R) (Qc : xm_Q), cx a As E C Qa = true → ys_sat y E → (∀ v ∈ As, ys_in E.1 v) → ys_ca y E C G → ys_HT G → Inv G → ys_Fr md G0 G → (∀ (r : Option Value) (E' : ym_S) (C' : ym_C) (y' : Nat → Int) (G' : xm_H), Qa r E' C' = true → ys_sat y' E' → ys_ext E.1 y y' → E.1 ≤ E'.1 → (∀ v, r = some v → ys_in E'.1 v) → ys_ca y' E' C' G' → ys_HT G' → Inv G' → ys_Fr md G0 G' → Qc (r.map (ys_cv y')) G' Ec = true) → cc a (As.map (ys_cv y)) G Ec Qc = true
def ys_kg (Inv : xm_H → Prop) (md : yM) (G0 : xm_H) (n0 : Nat) (y0 : Nat → Int) (ka : ym_St → Bool) (kc : xm_L → List Value → xm_H → Bool) : Prop := ∀ (y : Nat → Int) (s : ym_St) (lv : xm_L) (sc : List Value) (G : xm_H), ka s = true → ys_R y s lv sc G → Inv G → ys_Fr md G0 G → ys_ext n0 y0 y → n0 ≤ s.2.2.1.1 → kc lv sc G = true
def ys_qg (Inv : xm_H → Prop) (md : yM) (G0 : xm_H) (n0 : Nat) (y0 : Nat → Int) (Qa : ym_Q) (Qc : Option Value → xm_H → Bool) : Prop := ∀ (r : Option Value) (E : ym_S) (C : ym_C) (y : Nat → Int) (G : xm_H), Qa r E C = true → ys_sat y E → ys_ext n0 y0 y → n0 ≤ E.1 → (∀ v, r = some v → ys_in E.1 v) → ys_ca y E C G → ys_HT G → Inv G → ys_Fr md G0 G → Qc (r.map (ys_cv y)) G = true
theorem ys_ext.tr {n m : Nat} {y0 y y' : Nat → Int} (h : ys_ext n y0 y) (h2 : ys_ext m y y') (hn : n ≤ m) : ys_ext n y0 y' := fun k hk => by rw [h2 k (Nat.lt_of_lt_of_le hk hn), h k hk]
section YB
variable {Inv : xm_H → Prop} {tb : List yI} {md mw : yM} {G0 : xm_H} {n0 : Nat} {y0 : Nat → Int} {cx : ym_X} {cc : xm_C} {Ec : xm_R}
variable {y : Nat → Int} {s : ym_St} {lv : xm_L} {sc : List Value} {G : xm_H}
theorem ys_rcvq {E : ym_S} {b : Nat} {cls : String} {As : List Value} (h : ym_rcv b cls E As = true) (hs : ys_sat y E) (hT : ys_HT G) (hb : b = 0 ∨ b = 1 ∨ b = 3 ∨ b = 2 ∨ b = 4) : xm_rcv b cls G (As.map (ys_cv y)) = true := by
  have key : (b = 0 ∨ b = 2 ∨ b = 4) → ∃ v As' r, As = v :: As' ∧ ym_ref E v = some r ∧ (b = 0 → ∃ q C x, yr_row r = some q ∧ xm_nth xm_cls q.1 = some (C, x) ∧ cls = C) := by
    intro hb
    unfold ym_rcv at h
    cases As with
    | nil => rcases hb with rfl | rfl | rfl <;> cases h
    | cons v As =>
      cases hr : ym_ref E v with
      | none => rcases hb with rfl | rfl | rfl <;> (dsimp only at h; rw [hr] at h; cases h)
      | some r =>
        refine ⟨v, As, r, rfl, hr, fun e => ?_⟩
        subst e
        dsimp only at h
        rw [hr] at h
        replace h : (match yr_row r with
          | some q => (match xm_nth xm_cls q.1 with
            | some (C, _, _) => decide (cls = C)
            | none => false)
          | none => false) = true := h
        cases hq : yr_row r with
        | none => rw [hq] at h; cases h
        | some q =>
          rw [hq] at h
          dsimp only at h
          cases hx : xm_nth xm_cls q.1 with
          | none => rw [hx] at h; cases h
          | some x =>
            obtain ⟨C, x⟩ := x
            rw [hx] at h
            exact ⟨q, C, x, rfl, hx, of_decide_eq_true h⟩
  rcases hb with rfl | rfl | rfl | rfl | rfl
  · obtain ⟨v, As', r, rfl, hr, h2⟩ := key (Or.inl rfl)
    obtain ⟨q, C, x, q1, q2, q3⟩ := h2 rfl
    obtain ⟨k', j, m1, m2, m3, m4, m5⟩ := ys_ref hr hs
    obtain ⟨vs, g1, g2, g3⟩ := hT.at m5 q1
    show xm_rcv0 cls G (ys_cv y v :: As'.map (ys_cv y)) = true
    rw [m4]
    unfold xm_rcv0
    dsimp only
    rw [g1]
    dsimp only
    rw [q2]
    exact decide_eq_true q3
  · rfl
  · rfl
  · obtain ⟨v, As', r, rfl, hr, h2⟩ := key (Or.inr (Or.inl rfl))
    obtain ⟨k', j, m1, m2, m3, m4, m5⟩ := ys_ref hr hs
    show xm_rcv1 (ys_cv y v :: As'.map (ys_cv y)) = true
    rw [m4]
    rfl
  · obtain ⟨v, As', r, rfl, hr, h2⟩ := key (Or.inr (Or.inr rfl))
    obtain ⟨k', j, m1, m2, m3, m4, m5⟩ := ys_ref hr hs
    show xm_rcv1 (ys_cv y v :: As'.map (ys_cv y)) = true
    rw [m4]
    rfl
theorem ys_inv {mc ms a b : Nat} {ka : ym_St → Bool} {kc : xm_L → List Value → xm_H → Bool} {kk : List Value → xm_H → xm_R → Nat → Nat → Bool} (hcon : ∀ I ∈ tb, yc_ok Inv I cc) (hin : ys_X Inv md G0 cx cc) (h : ym_inv cx tb md a b s ka = true) (hR : ys_R y s lv sc G) (hI : Inv G) (hF : ys_Fr md G0 G) (he : ys_ext n0 y0 y) (hn : n0 ≤ s.2.2.1.1) (hk : ys_kg Inv md G0 n0 y0 ka kc) (hkk : ∀ st G, kc lv st G = true → kk st G Ec 0 0 = true) (hb : b = 0 ∨ b = 1 ∨ b = 3 ∨ b = 2 ∨ b = 4) : xm_call cc mc ms a b sc G Ec 0 0 kk = true := by
  obtain ⟨l, st, E, C⟩ := s
  unfold ym_inv at h
  unfold xm_call
  cases hm : xm_nth xm_mtab a with
  | none => rw [hm] at h; cases h
  | some r =>
    obtain ⟨r1, yy, r3, r4, r5, n, mc1, ms1, r9⟩ := r
    rw [hm] at h
    dsimp only at h ⊢
    cases hz : (Nat.beq mc1 0 && Nat.beq ms1 0) with
    | false => rw [hz] at h; cases h
    | true =>
      rw [hz, cond_true] at h
      rw [Bool.and_eq_true] at hz
      have z1 := Nat.eq_of_beq_eq_true hz.1
      have z2 := Nat.eq_of_beq_eq_true hz.2
      subst z1 z2
      rw [show (Nat.ble (0 + 0) mc && Nat.ble (0 + 0) ms) = true from rfl, cond_true]
      cases hp : ym_pop (bif Nat.beq b 1 || Nat.beq b 3 then n else Nat.succ n) [] st with
      | none => rw [hp] at h; cases h
      | some q =>
        obtain ⟨As, st'⟩ := q
        rw [hp] at h
        dsimp only at h
        have hst := ys_stq hR
        obtain ⟨p1, p2, p3⟩ := yl_pop (f := ys_cv y) (k := fun As st => bif Nat.ble (xm_cats st) 8 && xm_rcv b yy.cls G As then cc a As G Ec (fun r G E => kk (match r with
            | some v => v :: st
            | none => st) G E (0 + 0) (0 + 0)) else false) hp
        dsimp only at p1 p2 p3
        rw [hst]
        rw [List.map_nil] at p1
        refine p1.trans ?_
        cases hc : (Nat.ble (xm_cats st') 8 && ym_rcv b yy.cls E As) with
        | false => rw [hc] at h; cases h
        | true =>
          rw [hc, cond_true] at h
          rw [Bool.and_eq_true] at hc
          have hAin : ∀ v ∈ As, ys_in E.1 v := by
            intro v hv
            rcases p2 v hv with q | q
            · cases q
            · exact hR.2.2.1.2 v q
          have hR' : ys_R y (l, st', E, C) lv (st'.map (ys_cv y)) G := ⟨hR.1, hR.2.1, ⟨rfl, fun v hv => hR.2.2.1.2 v (p3 v hv)⟩, hR.2.2.2⟩
          have hrcv := ys_rcvq hc.2 hR.1 hR.2.2.2.2 hb
          rw [ys_cats, hc.1, hrcv, Bool.and_self, cond_true]
          cases hpk : ym_pick tb a E C As with
          | some I =>
            rw [hpk] at h
            dsimp only at h
            rw [Bool.and_eq_true] at h
            obtain ⟨i1, i2, i3, i4⟩ := yl_pick hpk
            subst i2
            obtain ⟨t1, -⟩ := ys_argsq i3 hR.1
            refine hcon I i1 G (As.map (ys_cv y)) Ec _ hR.2.2.2.2 hI t1 (ys_factsq i4 hR.1 hR.2.2.2.1 (fun i v hv => ?_)) (fun r G' h1 h2 h3 h4 => ?_)
            · rw [xl_nth] at hv
              exact ⟨hAin v (List.mem_of_getElem? hv), by rw [List.getElem?_map, hv]; rfl⟩
            · obtain ⟨c, c1, c2⟩ := h4
              have h5 := yl_all h.2 c c1
              cases hcs : ym_case c As l st' E (ym_kill E C (fun r i => ym_mod I.2.2.2.2 r i)) with
              | none => rw [hcs] at h5; cases h5
              | some s1 =>
                rw [hcs] at h5
                dsimp only at h5
                obtain ⟨y', a1, a2⟩ := ys_caseq hcs (hR'.frame h3 h1) hAin c2
                exact hkk _ _ (hk y' s1 lv _ G' h5 a1 h2 (hF.trans (h3.mds h.1)) (he.tr a2.1 hn) (Nat.le_trans hn a2.2))
          | none =>
            rw [hpk] at h
            dsimp only at h
            refine hin a As E C _ y G Ec _ h hR.1 hAin hR.2.2.2.1 hR.2.2.2.2 hI hF (fun r E' C' y' G' h1 h2 h3 h4 h5 h6 h7 h8 h9 => ?_)
            refine hkk _ _ (hk y' _ lv _ G' h1 ⟨h2, hR'.2.1.mv h3 h4, ⟨?_, ?_⟩, h6, h7⟩ h8 h9 (he.tr h3 hn) (Nat.le_trans hn h4))
            · cases r with
              | none =>
                dsimp only [Option.map]
                exact List.map_congr_left (fun v hv => (ys_cv_ext h3 (hR'.2.2.1.2 v hv)).symm)
              | some v =>
                show ys_cv y' v :: st'.map (ys_cv y) = ys_cv y' v :: st'.map (ys_cv y')
                rw [List.map_congr_left (fun v hv => (ys_cv_ext h3 (hR'.2.2.1.2 v hv)).symm)]
            · intro v hv
              cases r with
              | none => exact ys_in_le h4 (hR'.2.2.1.2 v hv)
              | some w =>
                rcases List.mem_cons.mp hv with rfl | hv
                · exact h5 _ rfl
                · exact ys_in_le h4 (hR'.2.2.1.2 v hv)
end YB
section YD
variable {Inv : xm_H → Prop} {tb : List yI} {md mw : yM} {G0 : xm_H} {n0 : Nat} {y0 : Nat → Int} {cx : ym_X} {cc : xm_C} {Ec : xm_R}
variable {nL mc ms : Nat} {full : List xm_E} {ret : Option FieldType} {Qa : ym_Q} {Qc : xm_Q}
/-- all that a body hangs on -/
def ys_H (Inv : xm_H → Prop) (tb : List yI) (md mw : yM) (G0 : xm_H) (n0 : Nat) (y0 : Nat → Int) (cx : ym_X) (cc : xm_C) (Ec : xm_R) (Qa : ym_Q) (Qc : xm_Q) : Prop := (∀ I ∈ tb, yc_ok Inv I cc) ∧ ys_X Inv md G0 cx cc ∧ ym_mds mw md = true ∧ (∀ G G', ys_HT G' → ys_Fr mw G G' → Inv G → Inv G') ∧ ys_qg Inv md G0 n0 y0 Qa (fun r G => Qc r G Ec)
theorem ys_retq {e : xm_E} {p : Value → Bool} {s : ym_St} {y : Nat → Int} {lv : xm_L} {sc : List Value} {G : xm_H} (H : ys_H Inv tb md mw G0 n0 y0 cx cc Ec Qa Qc) (h : (match (generalizing := false) s with
    | (_, [w], E, C) => bif p w && ym_rok E ret w then Qa (some w) E C else false
    | _ => false) = true) (hp : ∀ (E : ym_S) (w : Value), ys_in E.1 w → p w = true → p (ys_cv y w) = true) (hR : ys_R y s lv sc G) (hI : Inv G) (hF : ys_Fr md G0 G) (he : ys_ext n0 y0 y) (hn : n0 ≤ s.2.2.1.1) : (match (generalizing := false) sc with
    | [w] => bif p w && (xm_rok ret w && (Nat.ble 0 mc && Nat.ble 0 ms)) then Qc (some w) G Ec else false
    | _ => false) = true := by
  obtain ⟨l, st, E, C⟩ := s
  rcases st with _ | ⟨w, _ | ⟨u, st⟩⟩
  · cases h
  · replace h : (bif p w && ym_rok E ret w then Qa (some w) E C else false) = true := h
    cases hc : (p w && ym_rok E ret w) with
    | false => rw [hc] at h; cases h
    | true =>
      rw [hc, cond_true] at h
      rw [Bool.and_eq_true] at hc
      obtain ⟨s1, f1, h1, hR1⟩ := hR.pop
      have hs1 := ys_stq hR1
      subst f1 hs1
      show (bif p (ys_cv y w) && (xm_rok ret (ys_cv y w) && (Nat.ble 0 mc && Nat.ble 0 ms)) then Qc (some (ys_cv y w)) G Ec else false) = true
      have hrok : xm_rok ret (ys_cv y w) = true := by
        have h2 := hc.2
        unfold ym_rok at h2
        unfold xm_rok
        cases ret with
        | none => cases h2
        | some ty => exact ys_fit h2 hR.1 h1
      rw [hp E w h1 hc.1, hrok, show (Nat.ble 0 mc && Nat.ble 0 ms) = true from rfl, Bool.and_self, Bool.and_self, cond_true]
      exact H.2.2.2.2 (some w) E C y G h hR.1 he hn (fun v hv => by cases hv; exact h1) hR.2.2.2.1 hR.2.2.2.2 hI hF
  · cases h
theorem ys_bstep {ia : ym_K} {ic : List xm_E → xm_K} {pos : Nat} {e : xm_E} {rest : List xm_E} {s : ym_St} {y : Nat → Int} {lv : xm_L} {sc : List Value} {G : xm_H} (H : ys_H Inv tb md mw G0 n0 y0 cx cc Ec Qa Qc) (hih : ∀ pos suf, suf = xm_drop pos full → ys_kg Inv md G0 n0 y0 (ia pos suf) (fun lv st G => ic suf lv st G Ec 0 0)) (hd : xm_drop pos full = e :: rest) (h : (match ym_step nL mw e s with
    | some L => ym_all (fun q => match q.1 with
      | none => ia (Nat.succ pos) rest q.2
      | some t => ia t (xm_drop t full) q.2) L
    | none => false) = true) (hR : ys_R y s lv sc G) (hI : Inv G) (hF : ys_Fr md G0 G) (he : ys_ext n0 y0 y) (hn : n0 ≤ s.2.2.1.1) : xm_body cc full nL mc ms ret Qc ic e rest lv sc G Ec 0 0 = true := by
  cases hs : ym_step nL mw e s with
  | none => rw [hs] at h; cases h
  | some L =>
    rw [hs] at h
    dsimp only at h
    obtain ⟨t, s', y', lv', st', G', k1, k2, k3, k4, k5⟩ := ys_step hs hR
    rw [k5]
    have h1 := yl_all h _ k1
    have hI' := H.2.2.2.1 G G' k2.2.2.2.2 k3 hI
    have hF' := hF.trans (k3.mds H.2.2.1)
    cases t with
    | none => exact hih (Nat.succ pos) rest (yl_dropS hd).symm y' s' lv' st' G' h1 k2 hI' hF' (he.tr k4.1 hn) (Nat.le_trans hn k4.2)
    | some t => exact hih t (xm_drop t full) rfl y' s' lv' st' G' h1 k2 hI' hF' (he.tr k4.1 hn) (Nat.le_trans hn k4.2)
set_option maxHeartbeats 4000000 in
theorem ys_body {ia : ym_K} {ic : List xm_E → xm_K} {pos : Nat} {e : xm_E} {rest : List xm_E} {s : ym_St} {y : Nat → Int} {lv : xm_L} {sc : List Value} {G : xm_H} (H : ys_H Inv tb md mw G0 n0 y0 cx cc Ec Qa Qc) (hih : ∀ pos suf, suf = xm_drop pos full → ys_kg Inv md G0 n0 y0 (ia pos suf) (fun lv st G => ic suf lv st G Ec 0 0)) (hd : xm_drop pos full = e :: rest) (h : ym_body cx tb md mw nL full ret Qa ia pos e rest s = true) (hR : ys_R y s lv sc G) (hI : Inv G) (hF : ys_Fr md G0 G) (he : ys_ext n0 y0 y) (hn : n0 ≤ s.2.2.1.1) : xm_body cc full nL mc ms ret Qc ic e rest lv sc G Ec 0 0 = true := by
  obtain ⟨pc, i, a, b, ts, v⟩ := e
  have hgo := hih (Nat.succ pos) rest (yl_dropS hd).symm
  have hinv : ∀ b', (b' = 0 ∨ b' = 1 ∨ b' = 3 ∨ b' = 2 ∨ b' = 4) → ym_inv cx tb md a b' s (fun s => ia (Nat.succ pos) rest s) = true → xm_call cc mc ms a b' sc G Ec 0 0 (fun st G E kc ks => ic rest lv st G E kc ks) = true := fun b' hb' h' => ys_inv H.1 H.2.1 h' hR hI hF he hn hgo (fun st G hk => hk) hb'
  cases i
  case invokevirtual n =>
    replace h : ym_inv cx tb md a 0 s (fun s => ia (Nat.succ pos) rest s) = true := h
    show (bif Nat.beq a 1006 || Nat.beq a 1007 then xm_strl a sc G (fun st => ic rest lv st G Ec 0 0) else xm_call cc mc ms a 0 sc G Ec 0 0 (fun st G E kc ks => ic rest lv st G E kc ks)) = true
    have ha : a < 1000 := by
      unfold ym_inv at h
      rw [xl_nth] at h
      cases hm : xm_mtab[a]? with
      | none => rw [hm] at h; cases h
      | some r => have := (List.getElem?_eq_some_iff.mp hm).1; have e : xm_mtab.length = 241 := by decide +kernel
                  omega
    have n6 : Nat.beq a 1006 = false := Bool.eq_false_iff.mpr (fun q => by have := Nat.eq_of_beq_eq_true q; omega)
    have n7 : Nat.beq a 1007 = false := Bool.eq_false_iff.mpr (fun q => by have := Nat.eq_of_beq_eq_true q; omega)
    rw [n6, n7, Bool.or_self, cond_false]
    exact hinv 0 (Or.inl rfl) h
  case invokestatic n =>
    replace h : (bif Nat.beq a 1001 then (match ym_acopy mw s with
        | some s => ia (Nat.succ pos) rest s
        | none => false)
      else bif Nat.beq a 1003 || (Nat.beq a 1004 || Nat.beq a 1005) then (match ym_math a s with
        | some s => ia (Nat.succ pos) rest s
        | none => false)
      else bif Nat.beq b 3 then ym_inv cx tb md a 3 s (fun s => ia (Nat.succ pos) rest s) else ym_inv cx tb md a 1 s (fun s => ia (Nat.succ pos) rest s)) = true := h
    show (bif Nat.beq a 1001 then xm_acopy sc G (fun st G => ic rest lv st G Ec 0 0) else bif Nat.beq a 1003 || (Nat.beq a 1004 || Nat.beq a 1005) then xm_math a sc (fun st => ic rest lv st G Ec 0 0) else bif Nat.beq b 3 then xm_call cc mc ms a 3 sc G Ec 0 0 (fun st G E kc ks => ic rest lv st G E kc ks) else xm_call cc mc ms a 1 sc G Ec 0 0 (fun st G E kc ks => ic rest lv st G E kc ks)) = true
    obtain ⟨l, st, E, C⟩ := s
    cases c1 : Nat.beq a 1001 with
    | true =>
      rw [c1, cond_true] at h
      rw [cond_true]
      cases hs : ym_acopy mw (l, st, E, C) with
      | none => rw [hs] at h; cases h
      | some s' =>
        rw [hs] at h
        obtain ⟨sc', G', k1, k2, k3, k4⟩ := ys_acopy hs hR
        rw [k4]
        exact hgo y s' lv sc' G' h k1 (H.2.2.2.1 G G' k1.2.2.2.2 k2 hI) (hF.trans (k2.mds H.2.2.1)) he (Nat.le_trans hn k3.2)
    | false =>
      rw [c1, cond_false] at h
      rw [cond_false]
      cases c2 : (Nat.beq a 1003 || (Nat.beq a 1004 || Nat.beq a 1005)) with
      | true =>
        rw [c2, cond_true] at h
        rw [cond_true]
        rw [Bool.or_eq_true, Bool.or_eq_true] at c2
        have hm : a = 1003 ∨ a = 1004 ∨ a = 1005 := by
          rcases c2 with q | q | q
          · exact Or.inl (Nat.eq_of_beq_eq_true q)
          · exact Or.inr (Or.inl (Nat.eq_of_beq_eq_true q))
          · exact Or.inr (Or.inr (Nat.eq_of_beq_eq_true q))
        cases hs : ym_math a (l, st, E, C) with
        | none => rw [hs] at h; cases h
        | some s' =>
          rw [hs] at h
          obtain ⟨y', sc', k1, k3, k4⟩ := ys_math hs hR hm
          rw [k4]
          exact hgo y' s' lv sc' G h k1 hI hF (he.tr k3.1 hn) (Nat.le_trans hn k3.2)
      | false =>
        rw [c2, cond_false] at h
        rw [cond_false]
        cases c3 : Nat.beq b 3 with
        | true =>
          rw [c3, cond_true] at h
          rw [cond_true]
          exact hinv 3 (Or.inr (Or.inr (Or.inl rfl))) h
        | false =>
          rw [c3, cond_false] at h
          rw [cond_false]
          exact hinv 1 (Or.inr (Or.inl rfl)) h
  case ireturn => exact ys_retq (p := xm_isI) (e := (pc, .ireturn, a, b, ts, v)) H h (fun E w h1 h2 => ys_keepI h1 h2) hR hI hF he hn
  case lreturn => exact ys_retq (p := xm_isL) (e := (pc, .lreturn, a, b, ts, v)) H h (fun E w h1 h2 => ys_keepL h1 h2) hR hI hF he hn
  case areturn => exact ys_retq (p := xm_isA) (e := (pc, .areturn, a, b, ts, v)) H h (fun E w h1 h2 => ys_keepA h1 h2) hR hI hF he hn
  case return_ =>
    obtain ⟨l, st, E, C⟩ := s
    cases st with
    | cons w st => cases h
    | nil =>
      replace h : (bif ret.isNone then Qa none E C else false) = true := h
      cases hc : ret.isNone with
      | false => rw [hc] at h; cases h
      | true =>
        rw [hc, cond_true] at h
        have hs1 := ys_stq hR
        subst hs1
        show (bif ret.isNone && (Nat.ble 0 mc && Nat.ble 0 ms) then Qc none G Ec else false) = true
        rw [hc, show (Nat.ble 0 mc && Nat.ble 0 ms) = true from rfl, Bool.and_self, cond_true]
        exact H.2.2.2.2 none E C y G h hR.1 he hn (fun v hv => by cases hv) hR.2.2.2.1 hR.2.2.2.2 hI hF
  all_goals exact ys_bstep H hih hd h hR hI hF he hn
/-- the run; Nn: what a head wants -/
theorem ys_run {arr : Nat → ym_St → Option Bool} {hk : ym_J} {Nn : Nat} (H : ys_H Inv tb md mw G0 n0 y0 cx cc Ec Qa Qc)
    (harr : ∀ pos s, arr pos s = some true → ∀ (y : Nat → Int) (lv : xm_L) (sc : List Value) (G : xm_H) (fc : Nat), ys_R y s lv sc G → Inv G → ys_Fr md G0 G → ys_ext n0 y0 y → n0 ≤ s.2.2.1.1 → Nn ≤ fc → xm_run cc full nL mc ms ret Qc fc (xm_drop pos full) lv sc G Ec 0 0 = true)
    (hhk : ∀ pos s L, hk pos s = some L → ∀ (y : Nat → Int) (lv : xm_L) (sc : List Value) (G : xm_H), ys_R y s lv sc G → Inv G → ∃ q ∈ L, ∃ (y' : Nat → Int) (lv' : xm_L) (sc' : List Value) (n : Nat), n ≤ 20 ∧ ys_R y' q.2 lv' sc' G ∧ (ys_ext s.2.2.1.1 y y' ∧ s.2.2.1.1 ≤ q.2.2.2.1.1) ∧ ∀ fc, xm_run cc full nL mc ms ret Qc (fc + n) (xm_drop pos full) lv sc G Ec 0 0 = xm_run cc full nL mc ms ret Qc fc (xm_drop q.1 full) lv' sc' G Ec 0 0) :
    ∀ (f pos : Nat) (suf : List xm_E) (s : ym_St), suf = xm_drop pos full → ym_run cx tb md mw nL full ret arr hk Qa f pos suf s = true → ∀ (y : Nat → Int) (lv : xm_L) (sc : List Value) (G : xm_H) (fc : Nat), ys_R y s lv sc G → Inv G → ys_Fr md G0 G → ys_ext n0 y0 y → n0 ≤ s.2.2.1.1 → 20 * f + Nn ≤ fc → xm_run cc full nL mc ms ret Qc fc suf lv sc G Ec 0 0 = true
  | 0, pos, suf, s, _, h, _, _, _, _, _, _, _, _, _, _, _ => by cases h
  | f + 1, pos, suf, s, hsuf, h, y, lv, sc, G, fc, hR, hI, hF, he, hn, hfc => by
    subst hsuf
    replace h : (match arr pos s with
      | some b => b
      | none => (match hk pos s with
        | some L => ym_all (fun q => ym_run cx tb md mw nL full ret arr hk Qa f q.1 (xm_drop q.1 full) q.2) L
        | none => List.rec (motive := fun _ => Bool) false (fun e rest _ => ym_body cx tb md mw nL full ret Qa (ym_run cx tb md mw nL full ret arr hk Qa f) pos e rest s) (xm_drop pos full))) = true := h
    cases ha : arr pos s with
    | some b =>
      rw [ha] at h
      replace h : b = true := h
      subst h
      exact harr pos s ha y lv sc G fc hR hI hF he hn (by omega)
    | none =>
      rw [ha] at h
      replace h : (match hk pos s with
        | some L => ym_all (fun q => ym_run cx tb md mw nL full ret arr hk Qa f q.1 (xm_drop q.1 full) q.2) L
        | none => List.rec (motive := fun _ => Bool) false (fun e rest _ => ym_body cx tb md mw nL full ret Qa (ym_run cx tb md mw nL full ret arr hk Qa f) pos e rest s) (xm_drop pos full)) = true := h
      cases hh : hk pos s with
      | some L =>
        rw [hh] at h
        obtain ⟨q, q1, y', lv', sc', n, k1, k2, k3, k4⟩ := hhk pos s L hh y lv sc G hR hI
        have h1 := yl_all h q q1
        obtain ⟨m, rfl⟩ : ∃ m, fc = m + n := ⟨fc - n, by omega⟩
        rw [k4]
        exact ys_run H harr hhk f q.1 _ q.2 rfl h1 y' lv' sc' G m k2 hI hF (he.tr k3.1 hn) (Nat.le_trans hn k3.2) (by omega)
      | none =>
        rw [hh] at h
        obtain ⟨m, rfl⟩ : ∃ m, fc = m + 1 := ⟨fc - 1, by omega⟩
        cases hd : xm_drop pos full with
        | nil => rw [hd] at h; cases h
        | cons e rest =>
          rw [hd] at h
          replace h : ym_body cx tb md mw nL full ret Qa (ym_run cx tb md mw nL full ret arr hk Qa f) pos e rest s = true := h
          show xm_body cc full nL mc ms ret Qc (xm_run cc full nL mc ms ret Qc m) e rest lv sc G Ec 0 0 = true
          refine ys_body H (fun pos' suf' hs' => ?_) hd h hR hI hF he hn
          intro y1 s1 lv1 sc1 G1 g1 g2 g3 g4 g5 g6
          exact ys_run H harr hhk f pos' suf' s1 hs' g1 y1 lv1 sc1 G1 m g2 g3 g4 g5 g6 (by omega)
end YD
