/-! Scene.copy by hand: what becomes of the seeds -/
theorem xk_gfr {G : xm_H} (hT : ys_HT G) {j r a i : Nat} {q : yW} (hr : yr_of j = r) (hq : yr_row r = some q) (ha : q.1 = a) {v : Value} {st : List Value} {k : List Value → Bool} (h : yR G j i = some v) : xm_getf a i (.ref j :: st) G k = k (v :: st) := by
  obtain ⟨vs, g1, g2, g3⟩ := hT.at hr hq
  rw [yR_eq g1] at h
  rw [ha] at g1
  exact xk_getf g1 h
theorem xk_pfr {G : xm_H} (hT : ys_HT G) {j r a i : Nat} {q : yW} (hr : yr_of j = r) (hq : yr_row r = some q) (ha : q.1 = a) (hj : 7 ≤ j) {w : Value} {st : List Value} {k : List Value → xm_H → Bool} (hf : xm_fit (xm_ty a i) w = true) (hi : i < q.2.1) : xm_putf a i (w :: .ref j :: st) G k = k st (yU G j i w) := by
  obtain ⟨vs, g1, g2, g3⟩ := hT.at hr hq
  rw [yU_eq g1]
  rw [ha] at g1 ⊢
  exact xk_putf g1 hj hf (by omega)
noncomputable def yq7 : yW := match yr_row 7 with
  | some q => q
  | none => (0, 0, 0, [])
noncomputable def yq10 : yW := match yr_row 10 with
  | some q => q
  | none => (0, 0, 0, [])
noncomputable def yq73 : yW := match yr_row 73 with
  | some q => q
  | none => (0, 0, 0, [])
theorem yq_7 : yr_row 7 = some yq7 := rfl
theorem yq_10 : yr_row 10 = some yq10 := rfl
theorem yq_73 : yr_row 73 = some yq73 := rfl
theorem yq7_1 : yq7.1 = 10 := rfl
theorem yq10_1 : yq10.1 = 8 := rfl
theorem yq73_1 : yq73.1 = 8 := rfl
theorem yq10_2 : yq10.2.1 = 9 := rfl
theorem yq73_2 : yq73.2.1 = 9 := rfl
theorem yq_28 : yr_row 28 = some (100, 10, 1, [(0, 0, 6)]) := rfl
theorem yq_29 : yr_row 29 = some (100, 10, 1, [yr_top]) := rfl
theorem yq_91 : yr_row 91 = some (100, 10, 1, [(0, 0, 6)]) := rfl
theorem yq_92 : yr_row 92 = some (100, 10, 1, [yr_top]) := rfl
theorem yl_rcv {cls : String} {G : xm_H} {j t : Nat} {vs As : List Value} (hg : xm_hget G j = some (t, vs)) (hc : (match xm_nth xm_cls t with
      | some (C, _, _) => decide (cls = C)
      | none => false) = true) : xm_rcv 0 cls G (.ref j :: As) = true := by
  show xm_rcv0 cls G (.ref j :: As) = true
  unfold xm_rcv0
  dsimp only
  rw [hg]
  exact hc
theorem yl_call0 {call : xm_C} {G : xm_H} {E : xm_R} {st : List Value} {mc ms a kc ks r1 r4 j : Nat} {cls nm ds : String} {r3 : ByteArray} {r5 : Option FieldType} {r9 : List xm_E} {k : List Value → xm_H → xm_R → Nat → Nat → Bool} (hr : xm_nth xm_mtab a = some (r1, ⟨cls, nm, ds⟩, r3, r4, r5, 0, 0, 0, r9)) (hv : xm_rcv 0 cls G [.ref j] = true) (hc : xm_cats st ≤ 8) (h1 : kc ≤ mc) (h2 : ks ≤ ms) : xm_call call mc ms a 0 (.ref j :: st) G E kc ks k = call a [.ref j] G E (fun r G E => k (match r with
    | some v => v :: st
    | none => st) G E kc ks) := by
  unfold xm_call
  rw [hr]
  show (bif Nat.ble kc mc && Nat.ble ks ms then (bif Nat.ble (xm_cats st) 8 && xm_rcv 0 cls G [.ref j] then call a [.ref j] G E _ else false) else false) = _
  rw [Nat.ble_eq_true_of_le h1, Nat.ble_eq_true_of_le h2, Nat.ble_eq_true_of_le hc, hv]
  rfl
theorem yl_call1 {call : xm_C} {G : xm_H} {E : xm_R} {st : List Value} {mc ms a kc ks r1 r4 j : Nat} {cls nm ds : String} {r3 : ByteArray} {r5 : Option FieldType} {r9 : List xm_E} {k : List Value → xm_H → xm_R → Nat → Nat → Bool} {v1 : Value} (hr : xm_nth xm_mtab a = some (r1, ⟨cls, nm, ds⟩, r3, r4, r5, 1, 0, 0, r9)) (hv : xm_rcv 0 cls G [.ref j, v1] = true) (hc : xm_cats st ≤ 8) (h1 : kc ≤ mc) (h2 : ks ≤ ms) : xm_call call mc ms a 0 (v1 :: .ref j :: st) G E kc ks k = call a [.ref j, v1] G E (fun r G E => k (match r with
    | some v => v :: st
    | none => st) G E kc ks) := by
  unfold xm_call
  rw [hr]
  show (bif Nat.ble kc mc && Nat.ble ks ms then (bif Nat.ble (xm_cats st) 8 && xm_rcv 0 cls G [.ref j, v1] then call a [.ref j, v1] G E _ else false) else false) = _
  rw [Nat.ble_eq_true_of_le h1, Nat.ble_eq_true_of_le h2, Nat.ble_eq_true_of_le hc, hv]
  rfl
/-- System.arraycopy of ten -/
theorem xk_acp {G : xm_H} (hT : ys_HT G) {i j ri rj : Nat} {lo hi : Int} (hri : yr_of i = ri) (hrj : yr_of j = rj) (hqi : yr_row ri = some (100, 10, 1, [(0, lo, hi)])) (hqj : yr_row rj = some (100, 10, 1, [(0, lo, hi)])) (hn : ri ≠ rj) : ∃ G', ys_HT G' ∧ ys_Fr [(rj, 100000)] G G' ∧ (∀ j' i' : Nat, j' ≠ j → yR G' j' i' = yR G j' i') ∧ ∀ k : List Value → xm_H → Bool, xm_acopy [.int 10, .int 0, .ref j, .int 0, .ref i] G k = k [] G' := by
  have hij : i ≠ j := fun q => hn (by rw [← hri, ← hrj, q])
  have hj7 : 7 ≤ j := yr_lo (by rw [hrj]; exact hqj) (show (100 : Nat) < 200 by decide)
  obtain ⟨vs, g1, g2, g3⟩ := hT.at hri hqi
  obtain ⟨ws, k1, k2, k3⟩ := hT.at hrj hqj
  have g1 : xm_hget G i = some (100, vs) := g1
  have k1 : xm_hget G j = some (100, ws) := k1
  have g2 : vs.length = 10 := g2
  have k2 : ws.length = 10 := k2
  have vsI : ∀ v ∈ vs, ∃ z : Int32, v = .int z ∧ ys_T (0, lo, hi) v := by
    intro v hv
    obtain ⟨x, hx⟩ := List.getElem?_of_mem hv
    obtain ⟨T, t1, t2⟩ := g3 x v hx
    rw [yv_one] at t1
    cases t1
    obtain ⟨z, rfl, -⟩ := yv_int t2 rfl
    exact ⟨z, rfl, t2⟩
  have allI : xm_allI vs = true := by
    have key : ∀ l : List Value, (∀ v ∈ l, ∃ z : Int32, v = .int z ∧ ys_T (0, lo, hi) v) → xm_allI l = true := by
      intro l
      induction l with
      | nil => intro _; rfl
      | cons v l ih =>
        intro hl
        obtain ⟨z, rfl, -⟩ := hl v List.mem_cons_self
        show (true && xm_allI l) = true
        rw [ih (fun v hv => hl v (List.mem_cons_of_mem _ hv))]
        rfl
    exact key vs vsI
  obtain ⟨c1, c2⟩ := yl_copy vs ws 0 0 10
  refine ⟨xm_hput G j (100, xm_copy 0 0 10 vs ws), fun j' q' hq' => ?_, fun j' t vs' hj' => ?_, fun j' i' hne => ?_, fun k => ?_⟩
  · obtain ⟨us, w1, w2, w3⟩ := hT j' q' hq'
    rw [xl_hput]
    by_cases e : j' = j
    · subst e
      rw [if_pos rfl]
      rw [hrj, hqj] at hq'
      cases hq'
      refine ⟨_, rfl, c1.trans k2, fun x v hv => ⟨(0, lo, hi), yv_one, ?_⟩⟩
      rcases c2 x v hv with q | q
      · obtain ⟨T, t1, t2⟩ := k3 x v q
        rw [yv_one] at t1
        cases t1
        exact t2
      · obtain ⟨z, -, hz⟩ := vsI v q
        exact hz
    · rw [if_neg e]
      exact ⟨us, w1, w2, w3⟩
  · rw [xl_hput]
    by_cases e : j' = j
    · subst e
      rw [if_pos rfl]
      rw [k1] at hj'
      cases hj'
      refine ⟨_, rfl, c1, fun x v hv => Or.inl ?_⟩
      rw [hrj]
      exact yf_mod List.mem_cons_self
    · rw [if_neg e]
      exact ⟨vs', hj', rfl, fun x v hv => Or.inr hv⟩
  · unfold yR
    rw [xl_hput, if_neg hne]
  · show (match xm_hget G i, xm_hget G j with
      | some (t, vs), some (t1, ws) => bif Nat.beq t 100 && (Nat.beq t1 100 && (Nat.ble 7 j && (!(Nat.beq i j) && (Nat.ble (xm_cats []) 8 && (xm_allI vs && (decide (0 ≤ (10 : Int32).toInt) && (decide (0 ≤ (0 : Int32).toInt) && (decide (0 ≤ (0 : Int32).toInt) && (Nat.ble ((0 : Int32).toInt.toNat + (10 : Int32).toInt.toNat) (xm_len vs) && Nat.ble ((0 : Int32).toInt.toNat + (10 : Int32).toInt.toNat) (xm_len ws)))))))))) then k [] (xm_hput G j (100, xm_copy (0 : Int32).toInt.toNat (0 : Int32).toInt.toNat (10 : Int32).toInt.toNat vs ws)) else false
      | _, _ => false) = _
    rw [g1, k1]
    dsimp only
    have hb : Nat.beq i j = false := Bool.eq_false_iff.mpr (fun q => hij (Nat.eq_of_beq_eq_true q))
    rw [hb, Nat.ble_eq_true_of_le hj7, allI, xl_len, xl_len, g2, k2]
    rfl
theorem yl_none {As : List Value} {r : Option Value} {G : xm_H} (h : ∃ c ∈ ([(none, [])] : List (Option yT × List yP)), ys_case c As r G) : r = none := by
  obtain ⟨c, c1, c2, -⟩ := h
  rw [List.mem_singleton] at c1
  subst c1
  match r, c2 with
  | none, _ => rfl
/-- fields 7 and 8 of the scenes -/
def yKS (G G' : xm_H) : Prop := ∀ j : Nat, (yr_of j = 10 ∨ yr_of j = 73) → ∀ i, yR G' j i = yR G j i
theorem yKS.of {G G' : xm_H} {md : yM} (hT : ys_HT G) (hF : ys_Fr md G G') (h1 : ∀ i, ym_mod md 10 i = false) (h2 : ∀ i, ym_mod md 73 i = false) : yKS G G' := fun j hj => by
  rcases hj with hj | hj
  · exact yR_frx hT hF hj yq_10 h1
  · exact yR_frx hT hF hj yq_73 h2
theorem yr_pin0 : (List.range 400).all (fun j => (!(Nat.beq (yr_of j) 10) || Nat.beq j 10) && ((!(Nat.beq (yr_of j) 52) || Nat.beq j 223) && (!(Nat.beq (yr_of j) 40) || Nat.beq j 40))) = true := by decide +kernel
theorem yr_pin {j : Nat} (h : yr_of j ≠ 0) : (yr_of j = 10 → j = 10) ∧ (yr_of j = 52 → j = 223) := by
  have hj : j < 400 := by
    rcases Nat.lt_or_ge j 400 with q | q
    · exact q
    · exfalso
      apply h
      unfold yr_of
      rw [xl_nth, List.getElem?_eq_none (by have := yr_len0; omega)]
  have h0 := List.all_eq_true.mp yr_pin0 j (List.mem_range.mpr hj)
  rw [Bool.and_eq_true, Bool.and_eq_true] at h0
  refine ⟨fun e => ?_, fun e => ?_⟩
  · have h1 := h0.1
    rw [e] at h1
    exact Nat.eq_of_beq_eq_true h1
  · have h1 := h0.2.1
    rw [e] at h1
    exact Nat.eq_of_beq_eq_true h1
/-- Scene.copy, IN -/
theorem yC_IN {J : xm_H → Prop} {G : xm_H} {A B d : Nat} {Q : xm_Q} {E : xm_R} (cH : yc_ok (yi_Inv J) yi_24 (xm_exec d)) (cF : yc_ok (yi_Inv J) yi_19 (xm_exec d)) (cL : yc_ok (yi_Inv J) yi_20 (xm_exec d)) (hJ : yj_ok J) (hA : yr_of A = 73) (hB : yr_of B = 10) (hT : ys_HT G) (hI : yi_Inv J G) (hQ : ∀ G' : xm_H, ys_HT G' → yi_Inv J G' → ys_Fr yi_126.2.2.2.2 G G' → (∀ v, yR G B 7 = some v → yR G' A 7 = some v) → (∀ j i : Nat, (yr_of j = 10 ∨ yr_of j = 73) → (j ≠ A ∨ i = 8) → (i = 7 ∨ i = 8) → yR G' j i = yR G j i) → Q none G' E = true) : xm_exec (d + 1) 76 [.ref A, .ref B] G E Q = true := by
  have hA7 : 7 ≤ A := yr_lo (by rw [hA]; exact yq_73) (by rw [yq73_1]; decide)
  have hAB : A ≠ B := fun q => by rw [q, hB] at hA; cases hA
  refine yx_exec (m := 76) rfl rfl (Nat.le_of_ble_eq_true rfl) ?_
  obtain ⟨g, hg⟩ := xn_f
  rw [hg]
  have l0 : xm_get (lv_args 0 [Value.ref A, .ref B]) 0 = some (.ref A) := rfl
  have l1 : xm_get (lv_args 0 [Value.ref A, .ref B]) 1 = some (.ref B) := rfl
  show xm_run (xm_exec d) xm_c76 2 0 0 none Q (g + 40000) (xm_drop 0 xm_c76) (lv_args 0 [.ref A, .ref B]) [] G E 0 0 = true
  generalize lv_args 0 [Value.ref A, .ref B] = lv at l0 l1 ⊢
  have fA : ∀ {G : xm_H} (hT : ys_HT G) {i r : Nat}, i < 9 → yr_ty yq73 i = some (2, (r : Int), 0) → ∃ j, yR G A i = some (.ref j) ∧ yr_of j = r := by
    intro G hT i r hi ht
    obtain ⟨v, h1, h2⟩ := yR_ty hT hA yq_73 (by rw [yq73_2]; exact hi) ht
    obtain ⟨j, rfl, hj⟩ := yv_ref h2 rfl
    exact ⟨j, h1, Int.ofNat.inj hj⟩
  have fB : ∀ {G : xm_H} (hT : ys_HT G) {i r : Nat}, i < 9 → yr_ty yq10 i = some (2, (r : Int), 0) → ∃ j, yR G B i = some (.ref j) ∧ yr_of j = r := by
    intro G hT i r hi ht
    obtain ⟨v, h1, h2⟩ := yR_ty hT hB yq_10 (by rw [yq10_2]; exact hi) ht
    obtain ⟨j, rfl, hj⟩ := yv_ref h2 rfl
    exact ⟨j, h1, Int.ofNat.inj hj⟩
  have iB : ∀ {G : xm_H} (hT : ys_HT G) {i : Nat} {lo hi : Int}, i < 9 → yr_ty yq10 i = some (0, lo, hi) → ∃ x : Int32, yR G B i = some (.int x) ∧ lo ≤ x.toInt ∧ x.toInt ≤ hi := by
    intro G hT i lo hi hi' ht
    obtain ⟨v, h1, h2⟩ := yR_ty hT hB yq_10 (by rw [yq10_2]; exact hi') ht
    obtain ⟨x, rfl, hx⟩ := yv_int h2 rfl
    exact ⟨x, h1, hx⟩
  -- the house
  obtain ⟨h1, a1, b1⟩ := fA hT (i := 0) (r := 74) (by decide) rfl
  obtain ⟨h2, a2, b2⟩ := fB hT (i := 0) (r := 11) (by decide) rfl
  simp only [xy_76_0 l0, xk_gfr hT hA yq_73 yq73_1 a1, xz_76_1, xy_76_2 l1, xz_76_3, xy_76_4, xk_gfr hT hB yq_10 yq10_1 a2]
  obtain ⟨us, u1, -⟩ := hT.at b1 (rfl : yr_row 74 = some _)
  rw [yl_call1 (a := 25) rfl (yl_rcv u1 (by decide +kernel)) (Nat.le_of_ble_eq_true rfl) (Nat.le_refl 0) (Nat.le_refl 0)]
  refine cH G [.ref h1, .ref h2] E _ hT hI ⟨⟨Or.inl rfl, by rw [b1]; rfl⟩, ⟨Or.inl rfl, by rw [b2]; rfl⟩, trivial⟩ (fun q hq => by cases hq) (fun r G1 T1 I1 F1 hc => ?_)
  obtain rfl := yl_none hc
  have K1 : yKS G G1 := yKS.of hT F1 (fun i => rfl) (fun i => rfl)
  -- the folk
  obtain ⟨h1, a1, b1⟩ := fA T1 (i := 1) (r := 82) (by decide) rfl
  obtain ⟨h2, a2, b2⟩ := fB T1 (i := 1) (r := 19) (by decide) rfl
  simp only [xy_76_5 l0, xz_76_6, xy_76_7 l1, xz_76_8, xy_76_9, xk_gfr T1 hA yq_73 yq73_1 a1, xk_gfr T1 hB yq_10 yq10_1 a2]
  obtain ⟨us, u1, -⟩ := T1.at b1 (rfl : yr_row 82 = some _)
  rw [yl_call1 (a := 2) rfl (yl_rcv u1 (by decide +kernel)) (Nat.le_of_ble_eq_true rfl) (Nat.le_refl 0) (Nat.le_refl 0)]
  refine cF G1 [.ref h1, .ref h2] E _ T1 I1 ⟨⟨Or.inl rfl, by rw [b1]; rfl⟩, ⟨Or.inl rfl, by rw [b2]; rfl⟩, trivial⟩ (fun q hq => by cases hq) (fun r G2 T2 I2 F2 hc => ?_)
  obtain rfl := yl_none hc
  have K2 : yKS G1 G2 := yKS.of T1 F2 (fun i => rfl) (fun i => rfl)
  -- the lore
  obtain ⟨h1, a1, b1⟩ := fA T2 (i := 2) (r := 87) (by decide) rfl
  obtain ⟨h2, a2, b2⟩ := fB T2 (i := 2) (r := 24) (by decide) rfl
  simp only [xy_76_10 l0, xz_76_11, xy_76_12 l1, xz_76_13, xy_76_14, xk_gfr T2 hA yq_73 yq73_1 a1, xk_gfr T2 hB yq_10 yq10_1 a2]
  obtain ⟨us, u1, -⟩ := T2.at b1 (rfl : yr_row 87 = some _)
  rw [yl_call1 (a := 37) rfl (yl_rcv u1 (by decide +kernel)) (Nat.le_of_ble_eq_true rfl) (Nat.le_refl 0) (Nat.le_refl 0)]
  refine cL G2 [.ref h1, .ref h2] E _ T2 I2 ⟨⟨Or.inl rfl, by rw [b1]; rfl⟩, ⟨Or.inl rfl, by rw [b2]; rfl⟩, trivial⟩ (fun q hq => by cases hq) (fun r G3 T3 I3 F3 hc => ?_)
  obtain rfl := yl_none hc
  have K3 : yKS G2 G3 := yKS.of T2 F3 (fun i => rfl) (fun i => rfl)
  -- the news
  obtain ⟨h1, a1, b1⟩ := fA T3 (i := 3) (r := 91) (by decide) rfl
  obtain ⟨h2, a2, b2⟩ := fB T3 (i := 3) (r := 28) (by decide) rfl
  obtain ⟨G4, T4, F4, u4, e4⟩ := xk_acp T3 b2 b1 yq_28 yq_91 (by decide)
  simp only [xy_76_15 l1, xz_76_16, xz_76_17, xy_76_18 l0, xz_76_19, xz_76_20, xz_76_21, xk_gfr T3 hA yq_73 yq73_1 a1, xk_gfr T3 hB yq_10 yq10_1 a2]
  simp only [xz_76_22, show Nat.beq 1001 1001 = true from rfl, cond_true, e4]
  have I4 : yi_Inv J G4 := yi_Inv.free hJ _ (by decide +kernel) G3 G4 T4 F4 I3
  have K4 : yKS G3 G4 := yKS.of T3 F4 (fun i => rfl) (fun i => rfl)
  obtain ⟨h1, a1, b1⟩ := fA T4 (i := 4) (r := 92) (by decide) rfl
  obtain ⟨h2, a2, b2⟩ := fB T4 (i := 4) (r := 29) (by decide) rfl
  obtain ⟨G5, T5, F5, u5, e5⟩ := xk_acp T4 b2 b1 yq_29 yq_92 (by decide)
  simp only [xy_76_23 l1, xz_76_24, xz_76_25, xy_76_26 l0, xz_76_27, xz_76_28, xz_76_29, xk_gfr T4 hA yq_73 yq73_1 a1, xk_gfr T4 hB yq_10 yq10_1 a2]
  simp only [xz_76_30, show Nat.beq 1001 1001 = true from rfl, cond_true, e5]
  have I5 : yi_Inv J G5 := yi_Inv.free hJ _ (by decide +kernel) G4 G5 T5 F5 I4
  have K5 : yKS G4 G5 := yKS.of T4 F5 (fun i => rfl) (fun i => rfl)
  have KK : yKS G G5 := fun j hj i => by rw [K5 j hj, K4 j hj, K3 j hj, K2 j hj, K1 j hj]
  have FF : ys_Fr yi_126.2.2.2.2 G G5 := ((((F1.mds (by decide +kernel)).trans (F2.mds (by decide +kernel))).trans (F3.mds (by decide +kernel))).trans (F4.mds (by decide +kernel))).trans (F5.mds (by decide +kernel))
  -- the numbers
  obtain ⟨x5, p5, q5⟩ := iB T5 (i := 5) (lo := 0) (hi := 10) (by decide) rfl
  simp only [xy_76_31 l0, xy_76_32 l1, xz_76_33, xk_gfr T5 hB yq_10 yq10_1 p5]
  rw [xz_76_34, xk_pfr T5 hA yq_73 yq73_1 hA7 rfl (by rw [yq73_2]; decide)]
  obtain ⟨T6, F6⟩ := yU_HT (md := [(73, 5)]) T5 (j := A) (i := 5) (w := .int x5) hA yq_73 (by rw [yq73_2]; decide) (show yr_ty yq73 5 = some (0, 0, 10) from rfl) ⟨rfl, q5⟩ rfl
  have u6 : ∀ j i : Nat, (j ≠ A ∨ i ≠ 5) → yR (yU G5 A 5 (.int x5)) j i = yR G5 j i := fun j i h => yU_miss h
  generalize yU G5 A 5 (.int x5) = G6 at T6 F6 u6 ⊢
  have I6 : yi_Inv J G6 := yi_Inv.free hJ _ (by decide +kernel) G5 G6 T6 F6 I5
  obtain ⟨x6, p6, -⟩ := iB T6 (i := 6) (lo := -2147483648) (hi := 2147483647) (by decide) rfl
  simp only [xy_76_35 l0, xy_76_36 l1, xz_76_37, xk_gfr T6 hB yq_10 yq10_1 p6]
  rw [xz_76_38, xk_pfr T6 hA yq_73 yq73_1 hA7 rfl (by rw [yq73_2]; decide)]
  obtain ⟨T7, F7⟩ := yU_HT (md := [(73, 6)]) T6 (j := A) (i := 6) (w := .int x6) hA yq_73 (by rw [yq73_2]; decide) (show yr_ty yq73 6 = some yr_top from rfl) ⟨rfl, ys_b32 _⟩ rfl
  have u7 : ∀ j i : Nat, (j ≠ A ∨ i ≠ 6) → yR (yU G6 A 6 (.int x6)) j i = yR G6 j i := fun j i h => yU_miss h
  generalize yU G6 A 6 (.int x6) = G7 at T7 F7 u7 ⊢
  have I7 : yi_Inv J G7 := yi_Inv.free hJ _ (by decide +kernel) G6 G7 T7 F7 I6
  obtain ⟨x7, p7, q7⟩ := iB T7 (i := 7) (lo := 0) (hi := 2147483647) (by decide) rfl
  simp only [xy_76_39 l0, xy_76_40 l1, xz_76_41, xk_gfr T7 hB yq_10 yq10_1 p7]
  rw [xz_76_42, xk_pfr T7 hA yq_73 yq73_1 hA7 rfl (by rw [yq73_2]; decide)]
  obtain ⟨T8, F8⟩ := yU_HT (md := [(73, 7)]) T7 (j := A) (i := 7) (w := .int x7) hA yq_73 (by rw [yq73_2]; decide) (show yr_ty yq73 7 = some (0, 0, 2147483647) from rfl) ⟨rfl, q7⟩ rfl
  have u8 : ∀ j i : Nat, (j ≠ A ∨ i ≠ 7) → yR (yU G7 A 7 (.int x7)) j i = yR G7 j i := fun j i h => yU_miss h
  have k8 : yR (yU G7 A 7 (.int x7)) A 7 = some (.int x7) := by
    obtain ⟨v, w1, -⟩ := yR_ty T7 hA yq_73 (i := 7) (by rw [yq73_2]; decide) (show yr_ty yq73 7 = some (0, 0, 2147483647) from rfl)
    exact yU_hit w1
  generalize yU G7 A 7 (.int x7) = G8 at T8 F8 u8 k8 ⊢
  have I8 : yi_Inv J G8 := yi_Inv.free hJ _ (by decide +kernel) G7 G8 T8 F8 I7
  simp only [xy_76_43]
  refine hQ G8 T8 I8 (((FF.trans (F6.mds (by decide +kernel))).trans (F7.mds (by decide +kernel))).trans (F8.mds (by decide +kernel))) (fun v hv => ?_) (fun j i hj h1 h2 => ?_)
  · rw [k8, ← hv, ← KK B (Or.inl hB), ← u6 B 7 (Or.inr (by decide)), ← u7 B 7 (Or.inr (by decide)), p7]
  · rw [u8 j i (by omega), u7 j i (Or.inr (by omega)), u6 j i (Or.inr (by omega)), KK j hj]
/-- Scene.copy, NI -/
theorem yC_NI {J : xm_H → Prop} {G : xm_H} {A B d : Nat} {Q : xm_Q} {E : xm_R} (cH : yc_ok (yi_Inv J) yi_25 (xm_exec d)) (cF : yc_ok (yi_Inv J) yi_21 (xm_exec d)) (cL : yc_ok (yi_Inv J) yi_22 (xm_exec d)) (hJ : yj_ok J) (hA : yr_of A = 10) (hB : yr_of B = 73) (hT : ys_HT G) (hI : yi_Inv J G) (hQ : ∀ G' : xm_H, ys_HT G' → yi_Inv J G' → ys_Fr yi_127.2.2.2.2 G G' → (∀ v, yR G B 7 = some v → yR G' A 7 = some v) → (∀ j i : Nat, (yr_of j = 10 ∨ yr_of j = 73) → (j ≠ A ∨ i = 8) → (i = 7 ∨ i = 8) → yR G' j i = yR G j i) → Q none G' E = true) : xm_exec (d + 1) 76 [.ref A, .ref B] G E Q = true := by
  have hA7 : 7 ≤ A := yr_lo (by rw [hA]; exact yq_10) (by rw [yq10_1]; decide)
  have hAB : A ≠ B := fun q => by rw [q, hB] at hA; cases hA
  refine yx_exec (m := 76) rfl rfl (Nat.le_of_ble_eq_true rfl) ?_
  obtain ⟨g, hg⟩ := xn_f
  rw [hg]
  have l0 : xm_get (lv_args 0 [Value.ref A, .ref B]) 0 = some (.ref A) := rfl
  have l1 : xm_get (lv_args 0 [Value.ref A, .ref B]) 1 = some (.ref B) := rfl
  show xm_run (xm_exec d) xm_c76 2 0 0 none Q (g + 40000) (xm_drop 0 xm_c76) (lv_args 0 [.ref A, .ref B]) [] G E 0 0 = true
  generalize lv_args 0 [Value.ref A, .ref B] = lv at l0 l1 ⊢
  have fA : ∀ {G : xm_H} (hT : ys_HT G) {i r : Nat}, i < 9 → yr_ty yq10 i = some (2, (r : Int), 0) → ∃ j, yR G A i = some (.ref j) ∧ yr_of j = r := by
    intro G hT i r hi ht
    obtain ⟨v, h1, h2⟩ := yR_ty hT hA yq_10 (by rw [yq10_2]; exact hi) ht
    obtain ⟨j, rfl, hj⟩ := yv_ref h2 rfl
    exact ⟨j, h1, Int.ofNat.inj hj⟩
  have fB : ∀ {G : xm_H} (hT : ys_HT G) {i r : Nat}, i < 9 → yr_ty yq73 i = some (2, (r : Int), 0) → ∃ j, yR G B i = some (.ref j) ∧ yr_of j = r := by
    intro G hT i r hi ht
    obtain ⟨v, h1, h2⟩ := yR_ty hT hB yq_73 (by rw [yq73_2]; exact hi) ht
    obtain ⟨j, rfl, hj⟩ := yv_ref h2 rfl
    exact ⟨j, h1, Int.ofNat.inj hj⟩
  have iB : ∀ {G : xm_H} (hT : ys_HT G) {i : Nat} {lo hi : Int}, i < 9 → yr_ty yq73 i = some (0, lo, hi) → ∃ x : Int32, yR G B i = some (.int x) ∧ lo ≤ x.toInt ∧ x.toInt ≤ hi := by
    intro G hT i lo hi hi' ht
    obtain ⟨v, h1, h2⟩ := yR_ty hT hB yq_73 (by rw [yq73_2]; exact hi') ht
    obtain ⟨x, rfl, hx⟩ := yv_int h2 rfl
    exact ⟨x, h1, hx⟩
  -- the house
  obtain ⟨h1, a1, b1⟩ := fA hT (i := 0) (r := 11) (by decide) rfl
  obtain ⟨h2, a2, b2⟩ := fB hT (i := 0) (r := 74) (by decide) rfl
  simp only [xy_76_0 l0, xk_gfr hT hA yq_10 yq10_1 a1, xz_76_1, xy_76_2 l1, xz_76_3, xy_76_4, xk_gfr hT hB yq_73 yq73_1 a2]
  obtain ⟨us, u1, -⟩ := hT.at b1 (rfl : yr_row 11 = some _)
  rw [yl_call1 (a := 25) rfl (yl_rcv u1 (by decide +kernel)) (Nat.le_of_ble_eq_true rfl) (Nat.le_refl 0) (Nat.le_refl 0)]
  refine cH G [.ref h1, .ref h2] E _ hT hI ⟨⟨Or.inl rfl, by rw [b1]; rfl⟩, ⟨Or.inl rfl, by rw [b2]; rfl⟩, trivial⟩ (fun q hq => by cases hq) (fun r G1 T1 I1 F1 hc => ?_)
  obtain rfl := yl_none hc
  have K1 : yKS G G1 := yKS.of hT F1 (fun i => rfl) (fun i => rfl)
  -- the folk
  obtain ⟨h1, a1, b1⟩ := fA T1 (i := 1) (r := 19) (by decide) rfl
  obtain ⟨h2, a2, b2⟩ := fB T1 (i := 1) (r := 82) (by decide) rfl
  simp only [xy_76_5 l0, xz_76_6, xy_76_7 l1, xz_76_8, xy_76_9, xk_gfr T1 hA yq_10 yq10_1 a1, xk_gfr T1 hB yq_73 yq73_1 a2]
  obtain ⟨us, u1, -⟩ := T1.at b1 (rfl : yr_row 19 = some _)
  rw [yl_call1 (a := 2) rfl (yl_rcv u1 (by decide +kernel)) (Nat.le_of_ble_eq_true rfl) (Nat.le_refl 0) (Nat.le_refl 0)]
  refine cF G1 [.ref h1, .ref h2] E _ T1 I1 ⟨⟨Or.inl rfl, by rw [b1]; rfl⟩, ⟨Or.inl rfl, by rw [b2]; rfl⟩, trivial⟩ (fun q hq => by cases hq) (fun r G2 T2 I2 F2 hc => ?_)
  obtain rfl := yl_none hc
  have K2 : yKS G1 G2 := yKS.of T1 F2 (fun i => rfl) (fun i => rfl)
  -- the lore
  obtain ⟨h1, a1, b1⟩ := fA T2 (i := 2) (r := 24) (by decide) rfl
  obtain ⟨h2, a2, b2⟩ := fB T2 (i := 2) (r := 87) (by decide) rfl
  simp only [xy_76_10 l0, xz_76_11, xy_76_12 l1, xz_76_13, xy_76_14, xk_gfr T2 hA yq_10 yq10_1 a1, xk_gfr T2 hB yq_73 yq73_1 a2]
  obtain ⟨us, u1, -⟩ := T2.at b1 (rfl : yr_row 24 = some _)
  rw [yl_call1 (a := 37) rfl (yl_rcv u1 (by decide +kernel)) (Nat.le_of_ble_eq_true rfl) (Nat.le_refl 0) (Nat.le_refl 0)]
  refine cL G2 [.ref h1, .ref h2] E _ T2 I2 ⟨⟨Or.inl rfl, by rw [b1]; rfl⟩, ⟨Or.inl rfl, by rw [b2]; rfl⟩, trivial⟩ (fun q hq => by cases hq) (fun r G3 T3 I3 F3 hc => ?_)
  obtain rfl := yl_none hc
  have K3 : yKS G2 G3 := yKS.of T2 F3 (fun i => rfl) (fun i => rfl)
  -- the news
  obtain ⟨h1, a1, b1⟩ := fA T3 (i := 3) (r := 28) (by decide) rfl
  obtain ⟨h2, a2, b2⟩ := fB T3 (i := 3) (r := 91) (by decide) rfl
  obtain ⟨G4, T4, F4, u4, e4⟩ := xk_acp T3 b2 b1 yq_91 yq_28 (by decide)
  simp only [xy_76_15 l1, xz_76_16, xz_76_17, xy_76_18 l0, xz_76_19, xz_76_20, xz_76_21, xk_gfr T3 hA yq_10 yq10_1 a1, xk_gfr T3 hB yq_73 yq73_1 a2]
  simp only [xz_76_22, show Nat.beq 1001 1001 = true from rfl, cond_true, e4]
  have I4 : yi_Inv J G4 := yi_Inv.free hJ _ (by decide +kernel) G3 G4 T4 F4 I3
  have K4 : yKS G3 G4 := yKS.of T3 F4 (fun i => rfl) (fun i => rfl)
  obtain ⟨h1, a1, b1⟩ := fA T4 (i := 4) (r := 29) (by decide) rfl
  obtain ⟨h2, a2, b2⟩ := fB T4 (i := 4) (r := 92) (by decide) rfl
  obtain ⟨G5, T5, F5, u5, e5⟩ := xk_acp T4 b2 b1 yq_92 yq_29 (by decide)
  simp only [xy_76_23 l1, xz_76_24, xz_76_25, xy_76_26 l0, xz_76_27, xz_76_28, xz_76_29, xk_gfr T4 hA yq_10 yq10_1 a1, xk_gfr T4 hB yq_73 yq73_1 a2]
  simp only [xz_76_30, show Nat.beq 1001 1001 = true from rfl, cond_true, e5]
  have I5 : yi_Inv J G5 := yi_Inv.free hJ _ (by decide +kernel) G4 G5 T5 F5 I4
  have K5 : yKS G4 G5 := yKS.of T4 F5 (fun i => rfl) (fun i => rfl)
  have KK : yKS G G5 := fun j hj i => by rw [K5 j hj, K4 j hj, K3 j hj, K2 j hj, K1 j hj]
  have FF : ys_Fr yi_127.2.2.2.2 G G5 := ((((F1.mds (by decide +kernel)).trans (F2.mds (by decide +kernel))).trans (F3.mds (by decide +kernel))).trans (F4.mds (by decide +kernel))).trans (F5.mds (by decide +kernel))
  -- the numbers
  obtain ⟨x5, p5, q5⟩ := iB T5 (i := 5) (lo := 0) (hi := 10) (by decide) rfl
  simp only [xy_76_31 l0, xy_76_32 l1, xz_76_33, xk_gfr T5 hB yq_73 yq73_1 p5]
  rw [xz_76_34, xk_pfr T5 hA yq_10 yq10_1 hA7 rfl (by rw [yq10_2]; decide)]
  obtain ⟨T6, F6⟩ := yU_HT (md := [(10, 5)]) T5 (j := A) (i := 5) (w := .int x5) hA yq_10 (by rw [yq10_2]; decide) (show yr_ty yq10 5 = some (0, 0, 10) from rfl) ⟨rfl, q5⟩ rfl
  have u6 : ∀ j i : Nat, (j ≠ A ∨ i ≠ 5) → yR (yU G5 A 5 (.int x5)) j i = yR G5 j i := fun j i h => yU_miss h
  generalize yU G5 A 5 (.int x5) = G6 at T6 F6 u6 ⊢
  have I6 : yi_Inv J G6 := yi_Inv.free hJ _ (by decide +kernel) G5 G6 T6 F6 I5
  obtain ⟨x6, p6, -⟩ := iB T6 (i := 6) (lo := -2147483648) (hi := 2147483647) (by decide) rfl
  simp only [xy_76_35 l0, xy_76_36 l1, xz_76_37, xk_gfr T6 hB yq_73 yq73_1 p6]
  rw [xz_76_38, xk_pfr T6 hA yq_10 yq10_1 hA7 rfl (by rw [yq10_2]; decide)]
  obtain ⟨T7, F7⟩ := yU_HT (md := [(10, 6)]) T6 (j := A) (i := 6) (w := .int x6) hA yq_10 (by rw [yq10_2]; decide) (show yr_ty yq10 6 = some yr_top from rfl) ⟨rfl, ys_b32 _⟩ rfl
  have u7 : ∀ j i : Nat, (j ≠ A ∨ i ≠ 6) → yR (yU G6 A 6 (.int x6)) j i = yR G6 j i := fun j i h => yU_miss h
  generalize yU G6 A 6 (.int x6) = G7 at T7 F7 u7 ⊢
  have I7 : yi_Inv J G7 := yi_Inv.free hJ _ (by decide +kernel) G6 G7 T7 F7 I6
  obtain ⟨x7, p7, q7⟩ := iB T7 (i := 7) (lo := 0) (hi := 2147483647) (by decide) rfl
  simp only [xy_76_39 l0, xy_76_40 l1, xz_76_41, xk_gfr T7 hB yq_73 yq73_1 p7]
  rw [xz_76_42, xk_pfr T7 hA yq_10 yq10_1 hA7 rfl (by rw [yq10_2]; decide)]
  obtain ⟨T8, F8⟩ := yU_HT (md := [(10, 7)]) T7 (j := A) (i := 7) (w := .int x7) hA yq_10 (by rw [yq10_2]; decide) (show yr_ty yq10 7 = some (0, 0, 2147483647) from rfl) ⟨rfl, q7⟩ rfl
  have u8 : ∀ j i : Nat, (j ≠ A ∨ i ≠ 7) → yR (yU G7 A 7 (.int x7)) j i = yR G7 j i := fun j i h => yU_miss h
  have k8 : yR (yU G7 A 7 (.int x7)) A 7 = some (.int x7) := by
    obtain ⟨v, w1, -⟩ := yR_ty T7 hA yq_10 (i := 7) (by rw [yq10_2]; decide) (show yr_ty yq10 7 = some (0, 0, 2147483647) from rfl)
    exact yU_hit w1
  generalize yU G7 A 7 (.int x7) = G8 at T8 F8 u8 k8 ⊢
  have I8 : yi_Inv J G8 := yi_Inv.free hJ _ (by decide +kernel) G7 G8 T8 F8 I7
  simp only [xy_76_43]
  refine hQ G8 T8 I8 (((FF.trans (F6.mds (by decide +kernel))).trans (F7.mds (by decide +kernel))).trans (F8.mds (by decide +kernel))) (fun v hv => ?_) (fun j i hj h1 h2 => ?_)
  · rw [k8, ← hv, ← KK B (Or.inr hB), ← u6 B 7 (Or.inr (by decide)), ← u7 B 7 (Or.inr (by decide)), p7]
  · rw [u8 j i (by omega), u7 j i (Or.inr (by omega)), u6 j i (Or.inr (by omega)), KK j hj]
