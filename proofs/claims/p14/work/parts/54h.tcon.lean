/-! the tape's methods: their contracts -/
theorem yq_8 : yr_row 8 = some (9, 6, 6, [(2, 9, 0), (0, 0, 400), yr_top, (0, 0, 400), (0, 0, 400), yr_top]) := rfl
theorem yq_9 : yr_row 9 = some (101, 400, 1, [(0, -128, 127)]) := rfl
/-- a call of a method is a run of its body -/
theorem yx_exec {m d r1 nL r6 mc ms : Nat} {r2 : MethodName} {r3 : ByteArray} {ret : Option FieldType} {c : List xm_E} {As : List Value} {G : xm_H} {Ec : xm_R} {Q : xm_Q} (hr : xm_nth xm_mtab m = some (r1, r2, r3, nL, ret, r6, mc, ms, c)) (hx : xm_nx c 0 = true) (hc : xm_cats As ≤ nL) (h : xm_run (xm_exec d) c nL mc ms ret Q xm_fuel (xm_drop 0 c) (lv_args 0 As) [] G Ec 0 0 = true) : xm_exec (d + 1) m As G Ec Q = true := by
  show (match xm_nth xm_mtab m with
    | some (_, _, _, nL, ret, _, mc, ms, c) => bif xm_nx c 0 && Nat.ble (xm_cats As) nL then xm_run (xm_exec d) c nL mc ms ret Q xm_fuel c (lv_args 0 As) [] G Ec 0 0 else false
    | none => false) = true
  rw [hr]
  dsimp only
  rw [hx, Nat.ble_eq_true_of_le hc, Bool.and_self, cond_true]
  exact h
/-- values of a list of types -/
theorem yv_int {T : yT} {v : Value} (h : ys_T T v) (hT : T.1 = 0) : ∃ x : Int32, v = .int x ∧ T.2.1 ≤ x.toInt ∧ x.toInt ≤ T.2.2 := by
  cases v with
  | int x => exact ⟨x, rfl, h.2⟩
  | long x => exact absurd h.1 (by rw [hT]; decide)
  | ref j => rcases h.1 with q | q <;> rw [hT] at q <;> cases q
  | null => exact absurd (show T.1 = 3 from h) (by rw [hT]; decide)
  | _ => exact False.elim h
theorem yv_ref {T : yT} {v : Value} (h : ys_T T v) (hT : T.1 = 2) : ∃ j : Nat, v = .ref j ∧ (yr_of j : Int) = T.2.1 := by
  cases v with
  | ref j => exact ⟨j, rfl, h.2⟩
  | int x => exact absurd h.1 (by rw [hT]; decide)
  | long x => exact absurd h.1 (by rw [hT]; decide)
  | null => exact absurd (show T.1 = 3 from h) (by rw [hT]; decide)
  | _ => exact False.elim h
theorem yl_6 {vs : List Value} (h : vs.length = 6) : ∃ a b c d e f, vs = [a, b, c, d, e, f] := by
  match vs, h with
  | [a, b, c, d, e, f], _ => exact ⟨a, b, c, d, e, f, rfl⟩
theorem yt_of {G : xm_H} {j : Nat} (hT : ys_HT G) (hj : yr_of j = 8) : 7 ≤ j ∧ ∃ b len kind place size fault, yt_at G j b len kind place size fault ∧ yr_of b = 9 ∧ b ≠ j ∧ yt_bytes G b ∧ (0 ≤ len.toInt ∧ len.toInt ≤ 400) ∧ (0 ≤ place.toInt ∧ place.toInt ≤ 400) ∧ (0 ≤ size.toInt ∧ size.toInt ≤ 400) := by
  obtain ⟨vs, g1, g2, g3⟩ := hT.at hj yq_8
  obtain ⟨a, b, c, d, e, f, rfl⟩ := yl_6 g2
  obtain ⟨T0, t0, u0⟩ := g3 0 a rfl
  obtain ⟨T1, t1, u1⟩ := g3 1 b rfl
  obtain ⟨T2, t2, u2⟩ := g3 2 c rfl
  obtain ⟨T3, t3, u3⟩ := g3 3 d rfl
  obtain ⟨T4, t4, u4⟩ := g3 4 e rfl
  obtain ⟨T5, t5, u5⟩ := g3 5 f rfl
  cases t0
  cases t1
  cases t2
  cases t3
  cases t4
  cases t5
  obtain ⟨b', rfl, w0⟩ := yv_ref u0 rfl
  obtain ⟨len, rfl, w1⟩ := yv_int u1 rfl
  obtain ⟨kind, rfl, w2⟩ := yv_int u2 rfl
  obtain ⟨place, rfl, w3⟩ := yv_int u3 rfl
  obtain ⟨size, rfl, w4⟩ := yv_int u4 rfl
  obtain ⟨fault, rfl, w5⟩ := yv_int u5 rfl
  have hb : yr_of b' = 9 := Int.ofNat.inj w0
  refine ⟨yr_lo (by rw [hj]; exact yq_8) (by decide), b', len, kind, place, size, fault, g1, hb, (fun q => (by rw [q, hj] at hb; cases hb)), ?_, w1, w3, w4⟩
  obtain ⟨bs, h1, h2, h3⟩ := hT.at hb yq_9
  refine ⟨bs, h1, fun x x0 x1 => ?_⟩
  obtain ⟨w, hw⟩ : ∃ w, bs[x.toInt.toNat]? = some w := ⟨_, List.getElem?_eq_getElem (by rw [h2]; show x.toInt.toNat < 400; omega)⟩
  obtain ⟨T, k1, k2⟩ := h3 _ _ hw
  have k1' : yr_ty (101, 400, 1, [(0, -128, 127)]) x.toInt.toNat = some (0, -128, 127) := by
    show xm_nth [((0, -128, 127) : yT)] (x.toInt.toNat % 1) = _
    rw [Nat.mod_one]
    rfl
  rw [k1'] at k1
  cases k1
  obtain ⟨c, rfl, -⟩ := yv_int k2 rfl
  exact ⟨c, hw⟩
/-- the tape's place and token lie within it -/
def yi_TI (G : xm_H) : Prop := ∃ (b : Nat) (len kind place size fault : Int32), yt_at G 8 b len kind place size fault ∧ place.toInt + size.toInt ≤ 400
/-- behind a change of the tape's cell -/
theorem yt_HT {md : yM} {G G' : xm_H} {j b : Nat} {len kind place size fault kind' place' size' fault' : Int32} (hT : ys_HT G) (hj : yr_of j = 8) (h : yt_at G j b len kind place size fault) (hs : yt_same G G' j) (h' : yt_at G' j b len kind' place' size' fault') (hp : 0 ≤ place'.toInt ∧ place'.toInt ≤ 400) (hz : 0 ≤ size'.toInt ∧ size'.toInt ≤ 400) (m2 : kind' = kind ∨ ym_mod md 8 2 = true) (m3 : place' = place ∨ ym_mod md 8 3 = true) (m4 : size' = size ∨ ym_mod md 8 4 = true) (m5 : fault' = fault ∨ ym_mod md 8 5 = true) : ys_HT G' ∧ ys_Fr md G G' := by
  have top : ∀ x : Int32, ys_T yr_top (.int x) := fun x => ⟨rfl, ys_b32 x⟩
  refine ⟨fun i q hq => ?_, fun i t vs hi => ?_⟩
  · by_cases e : i = j
    · subst e
      rw [hj, yq_8] at hq
      cases hq
      obtain ⟨vs, g1, g2, g3⟩ := hT.at hj yq_8
      have g1 : xm_hget G i = some (9, vs) := g1
      rw [show xm_hget G i = _ from h] at g1
      cases g1
      refine ⟨_, h', rfl, fun x v hv => ?_⟩
      match x, hv with
      | 0, hv => exact g3 0 v hv
      | 1, hv => exact g3 1 v hv
      | 2, hv => cases hv; exact ⟨yr_top, rfl, top _⟩
      | 3, hv => cases hv; exact ⟨(0, 0, 400), rfl, rfl, hp⟩
      | 4, hv => cases hv; exact ⟨(0, 0, 400), rfl, rfl, hz⟩
      | 5, hv => cases hv; exact ⟨yr_top, rfl, top _⟩
      | n + 6, hv => simp at hv
    · rw [hs i e]
      exact hT i q hq
  · by_cases e : i = j
    · subst e
      rw [show xm_hget G i = _ from h] at hi
      cases hi
      refine ⟨_, h', rfl, fun x v hv => ?_⟩
      rw [hj]
      match x, hv with
      | 0, hv => exact Or.inr hv
      | 1, hv => exact Or.inr hv
      | 2, hv =>
        rcases m2 with q | q
        · subst q; exact Or.inr hv
        · exact Or.inl q
      | 3, hv =>
        rcases m3 with q | q
        · subst q; exact Or.inr hv
        · exact Or.inl q
      | 4, hv =>
        rcases m4 with q | q
        · subst q; exact Or.inr hv
        · exact Or.inl q
      | 5, hv =>
        rcases m5 with q | q
        · subst q; exact Or.inr hv
        · exact Or.inl q
      | n + 6, hv => simp at hv
    · exact ⟨vs, by rw [hs i e]; exact hi, rfl, fun x v hv => Or.inr hv⟩
/-- there is one tape -/
theorem yr_one0 : (List.range 400).all (fun j => !(Nat.beq (yr_of j) 8) || Nat.beq j 8) = true := by decide +kernel
theorem yr_len0 : yr_reg.length ≤ 400 := by decide +kernel
theorem yr_one {j : Nat} (h : yr_of j = 8) : j = 8 := by
  rcases Nat.lt_or_ge j 400 with hj | hj
  · have h0 := List.all_eq_true.mp yr_one0 j (List.mem_range.mpr hj)
    rw [h] at h0
    exact Nat.eq_of_beq_eq_true h0
  · exfalso
    unfold yr_of at h
    rw [xl_nth, List.getElem?_eq_none (by have := yr_len0; omega)] at h
    cases h
theorem yi_TI.mk {G : xm_H} {b : Nat} {len kind place size fault : Int32} (h : yt_at G 8 b len kind place size fault) (hp : place.toInt + size.toInt ≤ 400) : yi_TI G := ⟨b, len, kind, place, size, fault, h, hp⟩
theorem yi_TI.get {G : xm_H} (hI : yi_TI G) (j b : Nat) (len kind place size fault : Int32) (hj : yr_of j = 8) (h : yt_at G j b len kind place size fault) : place.toInt + size.toInt ≤ 400 := by
  obtain ⟨b', len', kind', place', size', fault', h', hp⟩ := hI
  have e := yr_one hj
  subst e
  have h : xm_hget G 8 = _ := h
  have h' : xm_hget G 8 = _ := h'
  rw [h] at h'
  cases h'
  exact hp
section TC
variable {J : xm_H → Prop}
/-- the rest of what is held doesn't hang on the tape's token -/
def yj_t (J : xm_H → Prop) : Prop := ∀ G G', ys_HT G' → ys_Fr [(8, 2), (8, 3), (8, 4), (8, 5)] G G' → J G → J G'
theorem yc_next (hJ : yj_t J) (d : Nat) : yc_ok (fun G => yi_TI G ∧ J G) yi_48 (xm_exec (d + 1)) := by
  intro G As Ec Q hT hI hA hF hQ
  match As, hA with
  | [a], hA =>
    obtain ⟨j, rfl, hj⟩ := yv_ref hA.1 rfl
    have hj : yr_of j = 8 := Int.ofNat.inj hj
    obtain ⟨h7, b, len, kind, place, size, fault, k1, k2, k3, k4, k5, k6, k7⟩ := yt_of hT hj
    have hti := hI.1.get j b len kind place size fault hj k1
    refine yx_exec (m := 82) rfl rfl (Nat.le_of_ble_eq_true rfl) ?_
    refine yt_next k4 k3 h7 k5.2 k1 k6.1 k7.1 hti (fun G' kind' place' size' s1 s2 s3 s4 s5 => ?_) (yl_fuel _ (by omega))
    obtain ⟨e1, e2⟩ := yt_HT (md := [(8, 2), (8, 3), (8, 4)]) hT hj k1 s1 s2 ⟨s3, by omega⟩ ⟨s4, by omega⟩ (Or.inr rfl) (Or.inr rfl) (Or.inr rfl) (Or.inl rfl)
    have ej := yr_one hj
    subst ej
    exact hQ none G' e1 ⟨yi_TI.mk s2 s5, hJ G G' e1 (e2.mds rfl) hI.2⟩ e2 ⟨(none, []), List.mem_cons_self, trivial, fun q hq => by cases hq⟩
theorem yc_value (d : Nat) : yc_ok (fun G => yi_TI G ∧ J G) yi_55 (xm_exec (d + 1)) := by
  intro G As Ec Q hT hI hA hF hQ
  match As, hA with
  | [a], hA =>
    obtain ⟨j, rfl, hj⟩ := yv_ref hA.1 rfl
    have hj : yr_of j = 8 := Int.ofNat.inj hj
    obtain ⟨h7, b, len, kind, place, size, fault, k1, k2, k3, k4, k5, k6, k7⟩ := yt_of hT hj
    have hti := hI.1.get j b len kind place size fault hj k1
    refine yx_exec (m := 84) rfl rfl (Nat.le_of_ble_eq_true rfl) ?_
    refine yt_value k4 k1 k6.1 hti (fun x => ?_) (yl_fuel _ (by omega))
    exact hQ _ G hT hI (ys_Fr.refl _ _) ⟨(some yr_top, []), List.mem_cons_self, ⟨rfl, ys_b32 x⟩, fun q hq => by cases hq⟩
theorem yc_fail (hJ : yj_t J) (d : Nat) : yc_ok (fun G => yi_TI G ∧ J G) yi_56 (xm_exec (d + 1)) := by
  intro G As Ec Q hT hI hA hF hQ
  match As, hA with
  | [a, c], hA =>
    obtain ⟨j, rfl, hj⟩ := yv_ref hA.1 rfl
    obtain ⟨n, rfl, -⟩ := yv_int hA.2.1 rfl
    have hj : yr_of j = 8 := Int.ofNat.inj hj
    obtain ⟨h7, b, len, kind, place, size, fault, k1, k2, k3, k4, k5, k6, k7⟩ := yt_of hT hj
    refine yx_exec (m := 81) rfl rfl (Nat.le_of_ble_eq_true rfl) ?_
    obtain ⟨g, hg⟩ : ∃ g, xm_fuel = g + 30 := ⟨xm_fuel - 30, by have := yl_fuel 30 (by omega); omega⟩
    rw [hg]
    have e0 : (0 : Int32).toInt = 0 := rfl
    refine yt_fail k1 h7 (fun G' fault' s1 s2 => ?_)
    obtain ⟨e1, e2⟩ := yt_HT (md := [(8, 2), (8, 4), (8, 5)]) hT hj k1 s1 s2 k6 ⟨by omega, by omega⟩ (Or.inr rfl) (Or.inl rfl) (Or.inr rfl) (Or.inr rfl)
    have ej := yr_one hj
    subst ej
    exact hQ none G' e1 ⟨yi_TI.mk s2 (by omega), hJ G G' e1 (e2.mds rfl) hI.2⟩ e2 ⟨(none, []), List.mem_cons_self, trivial, fun q hq => by cases hq⟩
theorem yc_rewind (hJ : yj_t J) (d : Nat) : yc_ok (fun G => yi_TI G ∧ J G) yi_57 (xm_exec (d + 2)) := by
  intro G As Ec Q hT hI hA hF hQ
  match As, hA with
  | [a], hA =>
    obtain ⟨j, rfl, hj⟩ := yv_ref hA.1 rfl
    have hj : yr_of j = 8 := Int.ofNat.inj hj
    obtain ⟨h7, b, len, kind, place, size, fault, k1, k2, k3, k4, k5, k6, k7⟩ := yt_of hT hj
    refine yx_exec (m := 80) rfl rfl (Nat.le_of_ble_eq_true rfl) ?_
    obtain ⟨g, hg⟩ : ∃ g, xm_fuel = g + 30 := ⟨xm_fuel - 30, by have := yl_fuel 30 (by omega); omega⟩
    rw [hg]
    have e0 : (0 : Int32).toInt = 0 := rfl
    have l0 : xm_get (lv_args 0 [Value.ref j]) 0 = some (.ref j) := rfl
    simp only [xz_80_0, xz_80_1, xz_80_2, l0, xm_isA, cond_true]
    refine yt_put k1 h7 rfl (by decide) rfl (fun G1 s1 h1 => ?_)
    simp only [xz_80_3, xz_80_4, xz_80_5, l0, xm_isA, cond_true]
    refine yt_put h1 h7 rfl (by decide) rfl (fun G2 s2 h2 => ?_)
    simp only [xz_80_6, xz_80_7, xz_80_8, l0, xm_isA, cond_true]
    refine yt_put h2 h7 rfl (by decide) rfl (fun G3 s3 h3 => ?_)
    obtain ⟨e1, e2⟩ := yt_HT (md := [(8, 2), (8, 3), (8, 4), (8, 5)]) hT hj k1 ((s1.tr s2).tr s3) h3 ⟨by omega, by omega⟩ ⟨by omega, by omega⟩ (Or.inr rfl) (Or.inr rfl) (Or.inr rfl) (Or.inr rfl)
    have ej := yr_one hj
    subst ej
    simp only [xz_80_9, xz_80_10, l0, xm_isA, cond_true]
    show xm_call (xm_exec (d + 1)) 0 0 82 0 [.ref 8] G3 Ec 0 0 _ = true
    have hI3 : yi_TI G3 ∧ J G3 := ⟨yi_TI.mk h3 (by omega), hJ G G3 e1 e2 hI.2⟩
    unfold xm_call
    show xm_pop 1 [] [.ref 8] (fun As st => bif Nat.ble (xm_cats st) 8 && xm_rcv 0 "StairNews$Tape" G3 As then xm_exec (d + 1) 82 As G3 Ec _ else false) = true
    have hrcv : xm_rcv 0 "StairNews$Tape" G3 [.ref 8] = true := by
      show xm_rcv0 "StairNews$Tape" G3 [.ref 8] = true
      unfold xm_rcv0
      dsimp only
      rw [show xm_hget G3 8 = _ from h3]
      rfl
    show (bif Nat.ble (xm_cats []) 8 && xm_rcv 0 "StairNews$Tape" G3 [.ref 8] then xm_exec (d + 1) 82 [.ref 8] G3 Ec _ else false) = true
    rw [hrcv, show (Nat.ble (xm_cats []) 8 && true) = true from rfl, cond_true]
    refine yc_next hJ d G3 [.ref 8] Ec _ e1 hI3 ⟨⟨Or.inl rfl, by rw [hj]; rfl⟩, trivial⟩ (fun q hq => by cases hq) (fun r G' q1 q2 q3 q4 => ?_)
    obtain ⟨c, c1, c2, -⟩ := q4
    have hr : r = none := by
      have c1 : c ∈ [((none, []) : Option yT × List yP)] := c1
      rcases List.mem_cons.mp c1 with rfl | c1
      · cases r with
        | none => rfl
        | some v => exact False.elim c2
      · cases c1
    subst hr
    show xm_run (xm_exec (d + 1)) xm_c80 1 0 0 none Q (g + 19) (xm_drop 11 xm_c80) (lv_args 0 [.ref 8]) [] G' Ec 0 0 = true
    simp only [xz_80_11]
    exact hQ none G' q1 q2 (e2.trans (q3.mds rfl)) ⟨(none, []), List.mem_cons_self, trivial, fun q hq => by cases hq⟩
end TC
/-! the words -/
theorem yk_blm {bs : List Nat} (i : Nat) : yk_bl bs i ≤ yk_bl bs bs.length := by
  unfold yk_bl
  rw [List.take_length]
  exact List.Sublist.countP_le (List.take_sublist i bs)
def yk_strok (k : Nat) : Bool := match xm_stb[k]? with
  | some bs => decide (bs.length ≤ 100) && (decide (yk_bl bs bs.length ≤ 10) && bs.all (fun c => decide (c < 128)))
  | none => false
theorem yk_strs : (List.range 6).all yk_strok = true := by decide +kernel
theorem yc_word {J : xm_H → Prop} {k d : Nat} (hk : k < 6) (hrow : yr_row (k + 1) = some (200 + k, 0, 1, [])) : yc_ok (fun G => yi_TI G ∧ J G) (83, [(2, 8, 0), (2, (k : Int) + 1, 0)], [], [(some (0, (-1), 10), [])], []) (xm_exec (d + 1)) := by
  intro G As Ec Q hT hI hA hF hQ
  match As, hA with
  | [a, c], hA =>
    obtain ⟨j, rfl, hj⟩ := yv_ref hA.1 rfl
    obtain ⟨s, rfl, hs⟩ := yv_ref hA.2.1 rfl
    have hj : yr_of j = 8 := Int.ofNat.inj hj
    have hs : yr_of s = k + 1 := by
      have hs : (yr_of s : Int) = (k : Int) + 1 := hs
      omega
    obtain ⟨h7, b, len, kind, place, size, fault, k1, k2, k3, k4, k5, k6, k7⟩ := yt_of hT hj
    have hti := hI.1.get j b len kind place size fault hj k1
    obtain ⟨vs, g1, -, -⟩ := hT.at hs hrow
    have h0 := List.all_eq_true.mp yk_strs k (List.mem_range.mpr hk)
    unfold yk_strok at h0
    cases hb : xm_stb[k]? with
    | none => rw [hb] at h0; cases h0
    | some bs =>
      rw [hb] at h0
      dsimp only at h0
      rw [Bool.and_eq_true, Bool.and_eq_true, decide_eq_true_eq, decide_eq_true_eq] at h0
      have hstr : xm_strv s G = some bs := by
        unfold xm_strv
        rw [show xm_hget G s = some (200 + k, vs) from g1]
        dsimp only
        have h1 : Nat.ble 200 (200 + k) = true := Nat.ble_eq_true_of_le (by omega)
        have h2 : Nat.blt (200 + k) 206 = true := Nat.ble_eq_true_of_le (by omega)
        rw [h1, h2, Bool.and_self, cond_true, xl_nth, show 200 + k - 200 = k by omega, hb]
      refine yx_exec (m := 83) rfl rfl (Nat.le_of_ble_eq_true rfl) ?_
      refine yt_word k4 k1 k6.1 hti hstr h0.1 h0.2.1 (fun i _ => yk_blm i) (fun c hc => of_decide_eq_true (List.all_eq_true.mp h0.2.2 c hc)) (fun x x0 x1 => ?_) (yl_fuel _ (by omega))
      exact hQ _ G hT hI (ys_Fr.refl _ _) ⟨(some (0, (-1), 10), []), List.mem_cons_self, ⟨rfl, x0, x1⟩, fun q hq => by cases hq⟩
theorem yc_w49 {J : xm_H → Prop} (d : Nat) : yc_ok (fun G => yi_TI G ∧ J G) yi_49 (xm_exec (d + 1)) := yc_word (k := 0) (by omega) rfl
theorem yc_w50 {J : xm_H → Prop} (d : Nat) : yc_ok (fun G => yi_TI G ∧ J G) yi_50 (xm_exec (d + 1)) := yc_word (k := 1) (by omega) rfl
theorem yc_w51 {J : xm_H → Prop} (d : Nat) : yc_ok (fun G => yi_TI G ∧ J G) yi_51 (xm_exec (d + 1)) := yc_word (k := 2) (by omega) rfl
theorem yc_w52 {J : xm_H → Prop} (d : Nat) : yc_ok (fun G => yi_TI G ∧ J G) yi_52 (xm_exec (d + 1)) := yc_word (k := 3) (by omega) rfl
theorem yc_w53 {J : xm_H → Prop} (d : Nat) : yc_ok (fun G => yi_TI G ∧ J G) yi_53 (xm_exec (d + 1)) := yc_word (k := 4) (by omega) rfl
theorem yc_w54 {J : xm_H → Prop} (d : Nat) : yc_ok (fun G => yi_TI G ∧ J G) yi_54 (xm_exec (d + 1)) := yc_word (k := 5) (by omega) rfl
