/-! the law's loop -/
theorem yl_int {As : List Value} {r : Option Value} {G : xm_H} {T : yT} (h0 : T.1 = 0) (h : ∃ c ∈ ([(some T, [])] : List (Option yT × List yP)), ys_case c As r G) : ∃ z : Int32, r = some (.int z) := by
  obtain ⟨c, c1, c2, -⟩ := h
  rw [List.mem_singleton] at c1
  subst c1
  match r, c2 with
  | some v, h1 =>
    obtain ⟨z, rfl, -⟩ := yv_int (T := T) h1 h0
    exact ⟨z, rfl⟩
def yLw (G : xm_H) (xs : List Int32) (bb : Int) : Prop := ys_HT G ∧ yi_Inv yJ G ∧ (∃ s, zR G s ∧ zRZ bb s) ∧ xm_hget G 0 = some (301, xs.map Value.int)
theorem yLw_mo {G : xm_H} {xs : List Int32} {b : Int} (h : yLw G xs b) : yLw G xs (b + 1) := by
  obtain ⟨a, c, ⟨s, d, e⟩, f⟩ := h
  exact ⟨a, c, ⟨s, d, zRZ_mo (by omega) e⟩, f⟩
theorem yl_rcv {cls : String} {G : xm_H} {j t : Nat} {vs As : List Value} (hg : xm_hget G j = some (t, vs)) (hc : (match xm_nth xm_cls t with
      | some (C, _, _) => decide (cls = C)
      | none => false) = true) : xm_rcv 0 cls G (.ref j :: As) = true := by
  show xm_rcv0 cls G (.ref j :: As) = true
  unfold xm_rcv0
  dsimp only
  rw [hg]
  exact hc
theorem xk_scr {G : xm_H} {xs : List Int32} (h : xm_hget G 0 = some (301, xs.map Value.int)) {x y : Int32} (h0 : 0 ≤ x.toInt) (hy : xs[x.toInt.toNat]? = some y) {st : List Value} {E : xm_R} {k : List Value → xm_R → Bool} : xm_iald (.int x :: .ref 0 :: st) G E k = k (.int y :: st) E := by
  show (match xm_hget G 0 with
      | some (t, _) => bif Nat.beq t 300 then _ else xm_ald (fun t => Nat.beq t 301) (.int x :: .ref 0 :: st) G E k
      | none => false) = _
  rw [h]
  show xm_ald (fun t => Nat.beq t 301) (.int x :: .ref 0 :: st) G E k = _
  exact ys_xald h rfl h0 (by rw [List.getElem?_map, hy]; rfl)
theorem yl_r7 {G : xm_H} (hT : ys_HT G) (As : List Value) : xm_rcv 0 "StairNews" G (.ref 7 :: As) = true := by
  obtain ⟨vs, g1, -⟩ := hT.at (j := 7) (r := 7) rfl (q := (10, 9, 9, [(2, 8, 0), (2, 10, 0), (2, 30, 0), (2, 38, 0), (2, 39, 0), (2, 40, 0), (2, 52, 0), (2, 53, 0), (0, 0, 6)])) rfl
  replace g1 : xm_hget G 7 = some (10, vs) := g1
  exact yl_rcv g1 (by decide +kernel)
theorem yl_r344 {G : xm_H} (hT : ys_HT G) (As : List Value) : xm_rcv 0 "StairNewsModel" G (.ref 344 :: As) = true := by
  obtain ⟨vs, hM, -⟩ := yO_of hT
  exact yO_rcv hM

theorem yl_call2 {call : xm_C} {G : xm_H} {E : xm_R} {st : List Value} {mc ms a kc ks r1 r4 j : Nat} {cls nm ds : String} {r3 : ByteArray} {r5 : Option FieldType} {r9 : List xm_E} {k : List Value → xm_H → xm_R → Nat → Nat → Bool} {v1 v2 : Value} (hr : xm_nth xm_mtab a = some (r1, ⟨cls, nm, ds⟩, r3, r4, r5, 2, 0, 0, r9)) (hv : xm_rcv 0 cls G [.ref j, v1, v2] = true) (hc : xm_cats st ≤ 8) (h1 : kc ≤ mc) (h2 : ks ≤ ms) : xm_call call mc ms a 0 (v2 :: v1 :: .ref j :: st) G E kc ks k = call a [.ref j, v1, v2] G E (fun r G E => k (match r with
    | some v => v :: st
    | none => st) G E kc ks) := by
  unfold xm_call
  rw [hr]
  show (bif Nat.ble kc mc && Nat.ble ks ms then (bif Nat.ble (xm_cats st) 8 && xm_rcv 0 cls G [.ref j, v1, v2] then call a [.ref j, v1, v2] G E _ else false) else false) = _
  rw [Nat.ble_eq_true_of_le h1, Nat.ble_eq_true_of_le h2, Nat.ble_eq_true_of_le hc, hv]
  rfl

theorem yl_call3 {call : xm_C} {G : xm_H} {E : xm_R} {st : List Value} {mc ms a kc ks r1 r4 j : Nat} {cls nm ds : String} {r3 : ByteArray} {r5 : Option FieldType} {r9 : List xm_E} {k : List Value → xm_H → xm_R → Nat → Nat → Bool} {v1 v2 v3 : Value} (hr : xm_nth xm_mtab a = some (r1, ⟨cls, nm, ds⟩, r3, r4, r5, 3, 0, 0, r9)) (hv : xm_rcv 0 cls G [.ref j, v1, v2, v3] = true) (hc : xm_cats st ≤ 8) (h1 : kc ≤ mc) (h2 : ks ≤ ms) : xm_call call mc ms a 0 (v3 :: v2 :: v1 :: .ref j :: st) G E kc ks k = call a [.ref j, v1, v2, v3] G E (fun r G E => k (match r with
    | some v => v :: st
    | none => st) G E kc ks) := by
  unfold xm_call
  rw [hr]
  show (bif Nat.ble kc mc && Nat.ble ks ms then (bif Nat.ble (xm_cats st) 8 && xm_rcv 0 cls G [.ref j, v1, v2, v3] then call a [.ref j, v1, v2, v3] G E _ else false) else false) = _
  rw [Nat.ble_eq_true_of_le h1, Nat.ble_eq_true_of_le h2, Nat.ble_eq_true_of_le hc, hv]
  rfl

theorem yl_call4 {call : xm_C} {G : xm_H} {E : xm_R} {st : List Value} {mc ms a kc ks r1 r4 j : Nat} {cls nm ds : String} {r3 : ByteArray} {r5 : Option FieldType} {r9 : List xm_E} {k : List Value → xm_H → xm_R → Nat → Nat → Bool} {v1 v2 v3 v4 : Value} (hr : xm_nth xm_mtab a = some (r1, ⟨cls, nm, ds⟩, r3, r4, r5, 4, 0, 0, r9)) (hv : xm_rcv 0 cls G [.ref j, v1, v2, v3, v4] = true) (hc : xm_cats st ≤ 8) (h1 : kc ≤ mc) (h2 : ks ≤ ms) : xm_call call mc ms a 0 (v4 :: v3 :: v2 :: v1 :: .ref j :: st) G E kc ks k = call a [.ref j, v1, v2, v3, v4] G E (fun r G E => k (match r with
    | some v => v :: st
    | none => st) G E kc ks) := by
  unfold xm_call
  rw [hr]
  show (bif Nat.ble kc mc && Nat.ble ks ms then (bif Nat.ble (xm_cats st) 8 && xm_rcv 0 cls G [.ref j, v1, v2, v3, v4] then call a [.ref j, v1, v2, v3, v4] G E _ else false) else false) = _
  rw [Nat.ble_eq_true_of_le h1, Nat.ble_eq_true_of_le h2, Nat.ble_eq_true_of_le hc, hv]
  rfl

theorem yl_call5 {call : xm_C} {G : xm_H} {E : xm_R} {st : List Value} {mc ms a kc ks r1 r4 j : Nat} {cls nm ds : String} {r3 : ByteArray} {r5 : Option FieldType} {r9 : List xm_E} {k : List Value → xm_H → xm_R → Nat → Nat → Bool} {v1 v2 v3 v4 v5 : Value} (hr : xm_nth xm_mtab a = some (r1, ⟨cls, nm, ds⟩, r3, r4, r5, 5, 0, 0, r9)) (hv : xm_rcv 0 cls G [.ref j, v1, v2, v3, v4, v5] = true) (hc : xm_cats st ≤ 8) (h1 : kc ≤ mc) (h2 : ks ≤ ms) : xm_call call mc ms a 0 (v5 :: v4 :: v3 :: v2 :: v1 :: .ref j :: st) G E kc ks k = call a [.ref j, v1, v2, v3, v4, v5] G E (fun r G E => k (match r with
    | some v => v :: st
    | none => st) G E kc ks) := by
  unfold xm_call
  rw [hr]
  show (bif Nat.ble kc mc && Nat.ble ks ms then (bif Nat.ble (xm_cats st) 8 && xm_rcv 0 cls G [.ref j, v1, v2, v3, v4, v5] then call a [.ref j, v1, v2, v3, v4, v5] G E _ else false) else false) = _
  rw [Nat.ble_eq_true_of_le h1, Nat.ble_eq_true_of_le h2, Nat.ble_eq_true_of_le hc, hv]
  rfl
theorem yl_call0 {call : xm_C} {G : xm_H} {E : xm_R} {st : List Value} {mc ms a kc ks r1 r4 j : Nat} {cls nm ds : String} {r3 : ByteArray} {r5 : Option FieldType} {r9 : List xm_E} {k : List Value → xm_H → xm_R → Nat → Nat → Bool} (hr : xm_nth xm_mtab a = some (r1, ⟨cls, nm, ds⟩, r3, r4, r5, 0, 0, 0, r9)) (hv : xm_rcv 0 cls G [.ref j] = true) (hc : xm_cats st ≤ 8) (h1 : kc ≤ mc) (h2 : ks ≤ ms) : xm_call call mc ms a 0 (.ref j :: st) G E kc ks k = call a [.ref j] G E (fun r G E => k (match r with
    | some v => v :: st
    | none => st) G E kc ks) := by
  unfold xm_call
  rw [hr]
  show (bif Nat.ble kc mc && Nat.ble ks ms then (bif Nat.ble (xm_cats st) 8 && xm_rcv 0 cls G [.ref j] then call a [.ref j] G E _ else false) else false) = _
  rw [Nat.ble_eq_true_of_le h1, Nat.ble_eq_true_of_le h2, Nat.ble_eq_true_of_le hc, hv]
  rfl
theorem yl_call1 {call : xm_C} {G : xm_H} {E : xm_R} {st : List Value} {mc ms a kc ks r1 r4 j : Nat} {cls nm ds : String} {r3 : ByteArray} {r5 : Option FieldType} {r9 : List xm_E} {k : List Value → xm_H → xm_R → Nat → Nat → Bool} {v1 : Value} (hr : xm_nth xm_mtab a = some (r1, ⟨cls, nm, ds⟩, r3, r4, r5, 1, 0, 0, r9)) (hv : xm_rcv 0 cls G [.ref j, v1] = true) (hc : xm_cats st ≤ 8) (h1 : kc ≤ mc) (h2 : ks ≤ ms) : xm_call call mc ms a 0 (v1 :: .ref j :: st) G E kc ks k = call a [.ref j, v1] G E (fun r G E => k (match r with
    | some v => v :: st
    | none => st) G E kc ks) := by
  unfold xm_call
  rw [hr]
  show (bif Nat.ble kc mc && Nat.ble ks ms then (bif Nat.ble (xm_cats st) 8 && xm_rcv 0 cls G [.ref j, v1] then call a [.ref j, v1] G E _ else false) else false) = _
  rw [Nat.ble_eq_true_of_le h1, Nat.ble_eq_true_of_le h2, Nat.ble_eq_true_of_le hc, hv]
  rfl
/-- two answers alike -/
theorem zl_same {T : Option FieldType} {z z' : Int32} {r r' : Int} (h : zres T (some (.int z)) r) (h' : zres T (some (.int z')) r') (e : r = r') : z = z' := Int32.toInt_inj.mp (by
  have a : z.toInt = r := h.2.1
  have b : z'.toInt = r' := h'.2.1
  rw [a, b, e])
/-- a place that a contract says of -/
theorem zl_fact {G : xm_H} {s : zS} {j i : Nat} {T : yT} (hR : zR G s) {t : Nat} {vs : List Value} (hg : xm_hget G j = some (t, vs)) (hz : zcon t j i = none) (h : ys_fact G (.ref j) [i] T) (h0 : T.1 = 0) : T.2.1 ≤ s j i ∧ s j i ≤ T.2.2 := by
  obtain ⟨w, w1, w2⟩ := h
  have w1 : (match xm_hget G j with
    | some (_, vs) => (match vs[i]? with
      | some w => ys_walk G [] w
      | none => none)
    | none => none) = some w := w1
  rw [hg] at w1
  dsimp only at w1
  cases hv : vs[i]? with
  | none => rw [hv] at w1; cases w1
  | some v =>
    rw [hv] at w1
    have e : v = w := Option.some.inj w1
    subst e
    obtain ⟨x, rfl, x1, x2⟩ := yv_int w2 h0
    have b := ((hR j t vs hg).2 i _ hv).2.2
    rw [hz] at b
    have b : x.toInt = s j i := b
    rw [← b]
    exact ⟨x1, x2⟩
theorem zn_seed {G : xm_H} {s : zS} (hT : ys_HT G) (hR : zR G s) : 0 ≤ s 10 7 ∧ s 10 7 < 2147483648 := by
  have h : 0 ≤ s 10 7 ∧ s 10 7 ≤ 2147483647 := zf_rng (j := 10) (i := 7) (r := 10) hT hR rfl rfl (Nat.le_of_ble_eq_true rfl) rfl (T := (0, 0, 2147483647)) rfl rfl
  exact ⟨h.1, by omega⟩
section LW
variable {xs : List Int32} {bb : Int} {d kc ks : Nat} {Q : xm_Q} {E : xm_R} {G : xm_H} {lv : xm_L} {i y1 y2 y3 y4 y5 : Int32} {f : Nat}
theorem yL_0 (hd : 120 ≤ d) (hL : yLw G xs bb) (hbb : bb ≤ 513) (l0 : xm_get lv 0 = some (.ref 0)) (l1 : xm_get lv 1 = some (.ref 7)) (l2 : xm_get lv 2 = some (.ref 344)) (l3 : xm_get lv 3 = some (.int i)) (p1 : 0 ≤ (i + 1).toInt) (e1 : xs[(i + 1).toInt.toNat]? = some y1) (p2 : 0 ≤ (i + 2).toInt) (e2 : xs[(i + 2).toInt.toNat]? = some y2) (p3 : 0 ≤ (i + 3).toInt) (e3 : xs[(i + 3).toInt.toNat]? = some y3) (p4 : 0 ≤ (i + 4).toInt) (e4 : xs[(i + 4).toInt.toNat]? = some y4) (p5 : 0 ≤ (i + 5).toInt) (e5 : xs[(i + 5).toInt.toNat]? = some y5) (hk : kc ≤ 600000) (hs : ks ≤ 7302250) (hn : ∀ G' : xm_H, yLw G' xs (bb + 1) → xm_run (xm_exec d) xm_c0 4 600000 7302250 (some .boolean) Q f (xm_drop 682 xm_c0) lv [] G' E kc ks = true) : xm_run (xm_exec d) xm_c0 4 600000 7302250 (some .boolean) Q (f + 57) (xm_drop 22 xm_c0) lv [] G E kc ks = true := by
  obtain ⟨a, b, ⟨s, hR, hr⟩, g⟩ := hL
  simp only [xy_0_22 l1, xy_0_23 l0, xy_0_24 l3, xz_0_25, xy_0_26, xz_0_27, xy_0_28 l0, xy_0_29 l3, xz_0_30, xy_0_31, xz_0_32, xy_0_33 l0, xy_0_34 l3, xz_0_35, xy_0_36, xz_0_37, xy_0_38 l0, xy_0_39 l3, xz_0_40, xy_0_41, xz_0_42, xy_0_43 l0, xy_0_44 l3, xz_0_45, xy_0_46, xz_0_47, xy_0_48, xk_scr g p1 e1, xk_scr g p2 e2, xk_scr g p3 e3, xk_scr g p4 e4, xk_scr g p5 e5]
  rw [yl_call5 (a := 88) rfl (yl_r7 a _) (Nat.le_of_ble_eq_true rfl) hk hs]
  have h6 := zn_cnt1 a hR
  have n1 := zn_len1 a hR
  obtain ⟨r0, s1, s2, z1, z2, hz⟩ := zA_feed (x1 := y1.toInt) (x2 := y2.toInt) (x3 := y3.toInt) (x4 := y4.toInt) (x5 := y5.toInt) hr h6.2 n1.1 n1.2
  refine zE_use (m := 0) (I := yi_133) (yc_133 yJ_ok d (by omega)) rfl a b ⟨⟨Or.inl rfl, rfl⟩, ⟨rfl, ys_b32 _⟩, ⟨rfl, ys_b32 _⟩, ⟨rfl, ys_b32 _⟩, ⟨rfl, ys_b32 _⟩, ⟨rfl, ys_b32 _⟩, trivial⟩ (fun q hq => by cases hq) (zs := [(false, 7), (false, y1.toInt), (false, y2.toInt), (false, y3.toInt), (false, y4.toInt), (false, y5.toInt)]) ⟨⟨rfl, rfl, rfl⟩, ⟨rfl, rfl, rfl⟩, ⟨rfl, rfl, rfl⟩, ⟨rfl, rfl, rfl⟩, ⟨rfl, rfl, rfl⟩, ⟨rfl, rfl, rfl⟩, trivial⟩ hR z1 (fun r G1 T1 I1 F1 hc hz1 R1 => ?_)
  obtain ⟨z1, rfl⟩ := yl_int (T := (0, (-1), 400)) rfl hc
  have g1 := yf_same F1 (j := 0) (fun i => rfl) g
  simp only [xy_0_49, xy_0_50 l2, xy_0_51 l0, xy_0_52 l3, xz_0_53, xy_0_54, xz_0_55, xy_0_56 l0, xy_0_57 l3, xz_0_58, xy_0_59, xz_0_60, xy_0_61 l0, xy_0_62 l3, xz_0_63, xy_0_64, xz_0_65, xy_0_66 l0, xy_0_67 l3, xz_0_68, xy_0_69, xz_0_70, xy_0_71 l0, xy_0_72 l3, xz_0_73, xy_0_74, xz_0_75, xy_0_76, xk_scr g1 p1 e1, xk_scr g1 p2 e2, xk_scr g1 p3 e3, xk_scr g1 p4 e4, xk_scr g1 p5 e5]
  rw [yl_call5 (a := 129) rfl (yl_r344 T1 _) (Nat.le_of_ble_eq_true rfl) hk hs]
  refine zE_use (m := 0) (I := yi_284) (yd_284 d (by omega)) rfl T1 I1 ⟨⟨Or.inl rfl, by rw [ym_344]; rfl⟩, ⟨rfl, ys_b32 _⟩, ⟨rfl, ys_b32 _⟩, ⟨rfl, ys_b32 _⟩, ⟨rfl, ys_b32 _⟩, ⟨rfl, ys_b32 _⟩, trivial⟩ (fun q hq => by cases hq) (zs := [(false, 344), (false, y1.toInt), (false, y2.toInt), (false, y3.toInt), (false, y4.toInt), (false, y5.toInt)]) ⟨⟨rfl, rfl, rfl⟩, ⟨rfl, rfl, rfl⟩, ⟨rfl, rfl, rfl⟩, ⟨rfl, rfl, rfl⟩, ⟨rfl, rfl, rfl⟩, ⟨rfl, rfl, rfl⟩, trivial⟩ R1 z2 (fun r G2 T2 I2 F2 hc hz2 R2 => ?_)
  obtain ⟨z2, rfl⟩ := yl_int (T := (0, (-1), 400)) rfl hc
  simp only [xy_0_77, xy_0_78]
  exact hn G2 ⟨T2, I2, ⟨_, R2, zRZ_mo (by omega) hz⟩, yf_same F2 (j := 0) (fun i => rfl) g1⟩
theorem yL_1 (hd : 120 ≤ d) (hL : yLw G xs bb) (hbb : bb ≤ 513) (l0 : xm_get lv 0 = some (.ref 0)) (l1 : xm_get lv 1 = some (.ref 7)) (l2 : xm_get lv 2 = some (.ref 344)) (l3 : xm_get lv 3 = some (.int i)) (p1 : 0 ≤ (i + 1).toInt) (e1 : xs[(i + 1).toInt.toNat]? = some y1) (hk : kc ≤ 600000) (hs : ks ≤ 7302250) (hn : ∀ G' : xm_H, yLw G' xs (bb + 1) → xm_run (xm_exec d) xm_c0 4 600000 7302250 (some .boolean) Q f (xm_drop 682 xm_c0) lv [] G' E kc ks = true) : xm_run (xm_exec d) xm_c0 4 600000 7302250 (some .boolean) Q (f + 17) (xm_drop 79 xm_c0) lv [] G E kc ks = true := by
  obtain ⟨a, b, ⟨s, hR, hr⟩, g⟩ := hL
  simp only [xy_0_79 l1, xy_0_80 l0, xy_0_81 l3, xz_0_82, xy_0_83, xz_0_84, xy_0_85, xk_scr g p1 e1]
  rw [yl_call1 (a := 89) rfl (yl_r7 a _) (Nat.le_of_ble_eq_true rfl) hk hs]
  have h6 := zn_cnt1 a hR
  obtain ⟨r0, s1, s2, z1, z2, hz⟩ := zA_end (x := y1.toInt) hr h6.2
  refine zE_use (m := 0) (I := yi_134) (yc_134 yJ_ok d (by omega)) rfl a b ⟨⟨Or.inl rfl, rfl⟩, ⟨rfl, ys_b32 _⟩, trivial⟩ (fun q hq => by cases hq) (zs := [(false, 7), (false, y1.toInt)]) ⟨⟨rfl, rfl, rfl⟩, ⟨rfl, rfl, rfl⟩, trivial⟩ hR z1 (fun r G1 T1 I1 F1 hc hz1 R1 => ?_)
  obtain ⟨z1, rfl⟩ := yl_int (T := (0, (-1), 400)) rfl hc
  have g1 := yf_same F1 (j := 0) (fun i => rfl) g
  simp only [xy_0_86, xy_0_87 l2, xy_0_88 l0, xy_0_89 l3, xz_0_90, xy_0_91, xz_0_92, xy_0_93, xk_scr g1 p1 e1]
  rw [yl_call1 (a := 130) rfl (yl_r344 T1 _) (Nat.le_of_ble_eq_true rfl) hk hs]
  refine zE_use (m := 0) (I := yi_285) (yd_285 d (by omega)) rfl T1 I1 ⟨⟨Or.inl rfl, by rw [ym_344]; rfl⟩, ⟨rfl, ys_b32 _⟩, trivial⟩ (fun q hq => by cases hq) (zs := [(false, 344), (false, y1.toInt)]) ⟨⟨rfl, rfl, rfl⟩, ⟨rfl, rfl, rfl⟩, trivial⟩ R1 z2 (fun r G2 T2 I2 F2 hc hz2 R2 => ?_)
  obtain ⟨z2, rfl⟩ := yl_int (T := (0, (-1), 400)) rfl hc
  simp only [xy_0_94, xy_0_95]
  exact hn G2 ⟨T2, I2, ⟨_, R2, zRZ_mo (by omega) hz⟩, yf_same F2 (j := 0) (fun i => rfl) g1⟩
theorem yL_2 (hd : 120 ≤ d) (hL : yLw G xs bb) (hbb : bb ≤ 513) (l0 : xm_get lv 0 = some (.ref 0)) (l1 : xm_get lv 1 = some (.ref 7)) (l2 : xm_get lv 2 = some (.ref 344)) (l3 : xm_get lv 3 = some (.int i))  (hk : kc ≤ 600000) (hs : ks ≤ 7302250) (hn : ∀ G' : xm_H, yLw G' xs (bb + 1) → xm_run (xm_exec d) xm_c0 4 600000 7302250 (some .boolean) Q f (xm_drop 682 xm_c0) lv [] G' E kc ks = true) : xm_run (xm_exec d) xm_c0 4 600000 7302250 (some .boolean) Q (f + 7) (xm_drop 96 xm_c0) lv [] G E kc ks = true := by
  obtain ⟨a, b, ⟨s, hR, hr⟩, g⟩ := hL
  simp only [xy_0_96 l1, xy_0_97]
  rw [yl_call0 (a := 90) rfl (yl_r7 a _) (Nat.le_of_ble_eq_true rfl) hk hs]
  have h6 := zn_cnt1 a hR
  obtain ⟨hr, h9⟩ := zcan_Z hr h6.2
  replace hR := zcan_R a hR
  clear h6
  generalize zcan s = s at hr h9 hR
  have h6 := zn_cnt1 a hR
  have n1 := zn_len1 a hR
  obtain ⟨r0, s1, s2, z1, z2, hz⟩ := zA_house hr h6.2 h9 (zn_by1 a hR) n1.1 n1.2
  refine zE_use (m := 0) (I := yi_290) (yc_290 yJ_ok d (by omega)) rfl a b ⟨⟨Or.inl rfl, rfl⟩, trivial⟩ (fun q hq => by cases hq) (zs := [(false, 7)]) ⟨⟨rfl, rfl, rfl⟩, trivial⟩ hR z1 (fun r G1 T1 I1 F1 hc hz1 R1 => ?_)
  obtain ⟨z1, rfl⟩ : ∃ z : Int32, r = some (.int z) := by
    obtain ⟨cc, c1, c2, -⟩ := hc
    have c1 : cc ∈ ([(some yr_top, [(0, [0, 1], (0, 0, 0))])] : List (Option yT × List yP)) := c1
    rw [List.mem_singleton] at c1
    subst c1
    match r, c2 with
    | some v, h1 =>
      obtain ⟨z, rfl, -⟩ := yv_int (T := yr_top) h1 rfl
      exact ⟨z, rfl⟩
  have g1 := yf_same F1 (j := 0) (fun i => rfl) g
  simp only [xy_0_98, xy_0_99 l2, xy_0_100]
  rw [yl_call0 (a := 169) rfl (yl_r344 T1 _) (Nat.le_of_ble_eq_true rfl) hk hs]
  refine zE_use (m := 0) (I := yi_292) (yd_292 d (by omega)) rfl T1 I1 ⟨⟨Or.inl rfl, by rw [ym_344]; rfl⟩, trivial⟩ (fun q hq => by cases hq) (zs := [(false, 344)]) ⟨⟨rfl, rfl, rfl⟩, trivial⟩ R1 z2 (fun r G2 T2 I2 F2 hc hz2 R2 => ?_)
  obtain ⟨z2, rfl⟩ : ∃ z : Int32, r = some (.int z) := by
    obtain ⟨cc, c1, c2, -⟩ := hc
    have c1 : cc ∈ ([(some yr_top, [(0, [1], (0, 0, 0))])] : List (Option yT × List yP)) := c1
    rw [List.mem_singleton] at c1
    subst c1
    match r, c2 with
    | some v, h1 =>
      obtain ⟨z, rfl, -⟩ := yv_int (T := yr_top) h1 rfl
      exact ⟨z, rfl⟩
  simp only [xy_0_101, xy_0_102]
  exact hn G2 ⟨T2, I2, ⟨_, R2, zRZ_mo (by omega) hz⟩, yf_same F2 (j := 0) (fun i => rfl) g1⟩
theorem yL_3 (hd : 120 ≤ d) (hL : yLw G xs bb) (hbb : bb ≤ 513) (l0 : xm_get lv 0 = some (.ref 0)) (l1 : xm_get lv 1 = some (.ref 7)) (l2 : xm_get lv 2 = some (.ref 344)) (l3 : xm_get lv 3 = some (.int i))  (hk : kc ≤ 600000) (hs : ks ≤ 7302250) (hn : ∀ G' : xm_H, yLw G' xs (bb + 1) → xm_run (xm_exec d) xm_c0 4 600000 7302250 (some .boolean) Q f (xm_drop 682 xm_c0) lv [] G' E kc ks = true) : xm_run (xm_exec d) xm_c0 4 600000 7302250 (some .boolean) Q (f + 7) (xm_drop 103 xm_c0) lv [] G E kc ks = true := by
  obtain ⟨a, b, ⟨s, hR, hr⟩, g⟩ := hL
  simp only [xy_0_103 l1, xy_0_104]
  rw [yl_call0 (a := 91) rfl (yl_r7 a _) (Nat.le_of_ble_eq_true rfl) hk hs]
  have h6 := zn_cnt1 a hR
  obtain ⟨hr, h9⟩ := zcan_Z hr h6.2
  replace hR := zcan_R a hR
  clear h6
  generalize zcan s = s at hr h9 hR
  have h6 := zn_cnt1 a hR
  have n1 := zn_len1 a hR
  obtain ⟨r0, s1, s2, z1, z2, hz⟩ := zA_rule hr h9 (zn_by1 a hR) n1.1 n1.2 h6.1 h6.2
  refine zE_use (m := 0) (I := yi_136) (yc_136 yJ_ok d (by omega)) rfl a b ⟨⟨Or.inl rfl, rfl⟩, trivial⟩ (fun q hq => by cases hq) (zs := [(false, 7)]) ⟨⟨rfl, rfl, rfl⟩, trivial⟩ hR z1 (fun r G1 T1 I1 F1 hc hz1 R1 => ?_)
  obtain ⟨z1, rfl⟩ := yl_int (T := yr_top) rfl hc
  have g1 := yf_same F1 (j := 0) (fun i => rfl) g
  simp only [xy_0_105, xy_0_106 l2, xy_0_107]
  rw [yl_call0 (a := 168) rfl (yl_r344 T1 _) (Nat.le_of_ble_eq_true rfl) hk hs]
  refine zE_use (m := 0) (I := yi_227) (yd_227 d (by omega)) rfl T1 I1 ⟨⟨Or.inl rfl, by rw [ym_344]; rfl⟩, trivial⟩ (fun q hq => by cases hq) (zs := [(false, 344)]) ⟨⟨rfl, rfl, rfl⟩, trivial⟩ R1 z2 (fun r G2 T2 I2 F2 hc hz2 R2 => ?_)
  obtain ⟨z2, rfl⟩ := yl_int (T := yr_top) rfl hc
  simp only [xy_0_108, xy_0_109]
  exact hn G2 ⟨T2, I2, ⟨_, R2, zRZ_mo (by omega) hz⟩, yf_same F2 (j := 0) (fun i => rfl) g1⟩
theorem yL_4 (hd : 120 ≤ d) (hL : yLw G xs bb) (hbb : bb ≤ 513) (l0 : xm_get lv 0 = some (.ref 0)) (l1 : xm_get lv 1 = some (.ref 7)) (l2 : xm_get lv 2 = some (.ref 344)) (l3 : xm_get lv 3 = some (.int i)) (p1 : 0 ≤ (i + 1).toInt) (e1 : xs[(i + 1).toInt.toNat]? = some y1) (hk : kc ≤ 600000) (hs : ks ≤ 7302250) (hn : ∀ G' : xm_H, yLw G' xs (bb + 1) → xm_run (xm_exec d) xm_c0 4 600000 7302250 (some .boolean) Q f (xm_drop 682 xm_c0) lv [] G' E kc ks = true) : xm_run (xm_exec d) xm_c0 4 600000 7302250 (some .boolean) Q (f + 17) (xm_drop 110 xm_c0) lv [] G E kc ks = true := by
  obtain ⟨a, b, ⟨s, hR, hr⟩, g⟩ := hL
  simp only [xy_0_110 l1, xy_0_111 l0, xy_0_112 l3, xz_0_113, xy_0_114, xz_0_115, xy_0_116, xk_scr g p1 e1]
  rw [yl_call1 (a := 92) rfl (yl_r7 a _) (Nat.le_of_ble_eq_true rfl) hk hs]
  have h6 := zn_cnt1 a hR
  obtain ⟨r0, s1, s2, z1, z2, hz⟩ := zA_force (x := y1.toInt) hr h6.2
  refine zE_use (m := 0) (I := yi_137) (yc_137 yJ_ok d (by omega)) rfl a b ⟨⟨Or.inl rfl, rfl⟩, ⟨rfl, ys_b32 _⟩, trivial⟩ (fun q hq => by cases hq) (zs := [(false, 7), (false, y1.toInt)]) ⟨⟨rfl, rfl, rfl⟩, ⟨rfl, rfl, rfl⟩, trivial⟩ hR z1 (fun r G1 T1 I1 F1 hc hz1 R1 => ?_)
  obtain ⟨z1, rfl⟩ := yl_int (T := yr_top) rfl hc
  have g1 := yf_same F1 (j := 0) (fun i => rfl) g
  simp only [xy_0_117, xy_0_118 l2, xy_0_119 l0, xy_0_120 l3, xz_0_121, xy_0_122, xz_0_123, xy_0_124, xk_scr g1 p1 e1]
  rw [yl_call1 (a := 183) rfl (yl_r344 T1 _) (Nat.le_of_ble_eq_true rfl) hk hs]
  refine zE_use (m := 0) (I := yi_286) (yd_286 d (by omega)) rfl T1 I1 ⟨⟨Or.inl rfl, by rw [ym_344]; rfl⟩, ⟨rfl, ys_b32 _⟩, trivial⟩ (fun q hq => by cases hq) (zs := [(false, 344), (false, y1.toInt)]) ⟨⟨rfl, rfl, rfl⟩, ⟨rfl, rfl, rfl⟩, trivial⟩ R1 z2 (fun r G2 T2 I2 F2 hc hz2 R2 => ?_)
  obtain ⟨z2, rfl⟩ := yl_int (T := (0, (-2), 5)) rfl hc
  simp only [xy_0_125, xy_0_126]
  exact hn G2 ⟨T2, I2, ⟨_, R2, zRZ_mo (by omega) hz⟩, yf_same F2 (j := 0) (fun i => rfl) g1⟩
theorem yL_5 (hd : 120 ≤ d) (hL : yLw G xs bb) (hbb : bb ≤ 513) (l0 : xm_get lv 0 = some (.ref 0)) (l1 : xm_get lv 1 = some (.ref 7)) (l2 : xm_get lv 2 = some (.ref 344)) (l3 : xm_get lv 3 = some (.int i)) (p1 : 0 ≤ (i + 1).toInt) (e1 : xs[(i + 1).toInt.toNat]? = some y1) (p2 : 0 ≤ (i + 2).toInt) (e2 : xs[(i + 2).toInt.toNat]? = some y2) (hk : kc ≤ 600000) (hs : ks ≤ 7302250) (hn : ∀ G' : xm_H, yLw G' xs (bb + 1) → xm_run (xm_exec d) xm_c0 4 600000 7302250 (some .boolean) Q f (xm_drop 682 xm_c0) lv [] G' E kc ks = true) : xm_run (xm_exec d) xm_c0 4 600000 7302250 (some .boolean) Q (f + 27) (xm_drop 127 xm_c0) lv [] G E kc ks = true := by
  obtain ⟨a, b, ⟨s, hR, hr⟩, g⟩ := hL
  simp only [xy_0_127 l1, xy_0_128 l0, xy_0_129 l3, xz_0_130, xy_0_131, xz_0_132, xy_0_133 l0, xy_0_134 l3, xz_0_135, xy_0_136, xz_0_137, xy_0_138, xk_scr g p1 e1, xk_scr g p2 e2]
  rw [yl_call2 (a := 93) rfl (yl_r7 a _) (Nat.le_of_ble_eq_true rfl) hk hs]
  refine zU_mx (I := yi_138) (yc_138 yJ_ok d (by omega)) rfl rfl a b ⟨⟨Or.inl rfl, rfl⟩, ⟨rfl, ys_b32 _⟩, ⟨rfl, ys_b32 _⟩, trivial⟩ (fun q hq => by cases hq) (zs := [(false, 7), (false, y1.toInt), (false, y2.toInt)]) ⟨⟨rfl, rfl, rfl⟩, ⟨rfl, rfl, rfl⟩, ⟨rfl, rfl, rfl⟩, trivial⟩ hR (fun r G1 s1 q1 T1 I1 F1 hc hz1 R1 M1 ez1 => ?_)
  obtain ⟨z1, rfl⟩ := yl_int (T := yr_top) rfl hc
  obtain ⟨f1, ez1⟩ := ez1
  have es1 : s1 = s := zJ_93 ez1
  subst es1
  have g1 := yf_same F1 (j := 0) (fun i => rfl) g
  simp only [xy_0_139, xy_0_140 l2, xy_0_141 l0, xy_0_142 l3, xz_0_143, xy_0_144, xz_0_145, xy_0_146 l0, xy_0_147 l3, xz_0_148, xy_0_149, xz_0_150, xy_0_151, xk_scr g1 p1 e1, xk_scr g1 p2 e2]
  rw [yl_call2 (a := 184) rfl (yl_r344 T1 _) (Nat.le_of_ble_eq_true rfl) hk hs]
  refine zU_mx (I := yi_233) (yd_233 d (by omega)) rfl rfl T1 I1 ⟨⟨Or.inl rfl, by rw [ym_344]; rfl⟩, ⟨rfl, ys_b32 _⟩, ⟨rfl, ys_b32 _⟩, trivial⟩ (fun q hq => by cases hq) (zs := [(false, 344), (false, y1.toInt), (false, y2.toInt)]) ⟨⟨rfl, rfl, rfl⟩, ⟨rfl, rfl, rfl⟩, ⟨rfl, rfl, rfl⟩, trivial⟩ R1 (fun r G2 s2 q2 T2 I2 F2 hc hz2 R2 M2 ez2 => ?_)
  obtain ⟨z2, rfl⟩ := yl_int (T := yr_top) rfl hc
  obtain ⟨f2, ez2⟩ := ez2
  have es2 : s2 = s1 := zJ_184 ez2
  subst es2
  simp only [xy_0_152, xy_0_153]
  exact hn G2 ⟨T2, I2, ⟨_, R2, zRZ_mo (by omega) hr⟩, yf_same F2 (j := 0) (fun i => rfl) g1⟩
theorem yL_6 (hd : 120 ≤ d) (hL : yLw G xs bb) (hbb : bb ≤ 513) (l0 : xm_get lv 0 = some (.ref 0)) (l1 : xm_get lv 1 = some (.ref 7)) (l2 : xm_get lv 2 = some (.ref 344)) (l3 : xm_get lv 3 = some (.int i)) (p1 : 0 ≤ (i + 1).toInt) (e1 : xs[(i + 1).toInt.toNat]? = some y1) (p2 : 0 ≤ (i + 2).toInt) (e2 : xs[(i + 2).toInt.toNat]? = some y2) (hk : kc ≤ 600000) (hs : ks ≤ 7302250) (hn : ∀ G' : xm_H, yLw G' xs (bb + 1) → xm_run (xm_exec d) xm_c0 4 600000 7302250 (some .boolean) Q f (xm_drop 682 xm_c0) lv [] G' E kc ks = true) : xm_run (xm_exec d) xm_c0 4 600000 7302250 (some .boolean) Q (f + 27) (xm_drop 154 xm_c0) lv [] G E kc ks = true := by
  obtain ⟨a, b, ⟨s, hR, hr⟩, g⟩ := hL
  simp only [xy_0_154 l1, xy_0_155 l0, xy_0_156 l3, xz_0_157, xy_0_158, xz_0_159, xy_0_160 l0, xy_0_161 l3, xz_0_162, xy_0_163, xz_0_164, xy_0_165, xk_scr g p1 e1, xk_scr g p2 e2]
  rw [yl_call2 (a := 94) rfl (yl_r7 a _) (Nat.le_of_ble_eq_true rfl) hk hs]
  refine zU_mx (I := yi_139) (yc_139 yJ_ok d (by omega)) rfl rfl a b ⟨⟨Or.inl rfl, rfl⟩, ⟨rfl, ys_b32 _⟩, ⟨rfl, ys_b32 _⟩, trivial⟩ (fun q hq => by cases hq) (zs := [(false, 7), (false, y1.toInt), (false, y2.toInt)]) ⟨⟨rfl, rfl, rfl⟩, ⟨rfl, rfl, rfl⟩, ⟨rfl, rfl, rfl⟩, trivial⟩ hR (fun r G1 s1 q1 T1 I1 F1 hc hz1 R1 M1 ez1 => ?_)
  obtain ⟨z1, rfl⟩ := yl_int (T := yr_top) rfl hc
  obtain ⟨f1, ez1⟩ := ez1
  have es1 : s1 = s := zJ_94 ez1
  subst es1
  have g1 := yf_same F1 (j := 0) (fun i => rfl) g
  simp only [xy_0_166, xy_0_167 l2, xy_0_168 l0, xy_0_169 l3, xz_0_170, xy_0_171, xz_0_172, xy_0_173 l0, xy_0_174 l3, xz_0_175, xy_0_176, xz_0_177, xy_0_178, xk_scr g1 p1 e1, xk_scr g1 p2 e2]
  rw [yl_call2 (a := 185) rfl (yl_r344 T1 _) (Nat.le_of_ble_eq_true rfl) hk hs]
  refine zU_mx (I := yi_234) (yd_234 d (by omega)) rfl rfl T1 I1 ⟨⟨Or.inl rfl, by rw [ym_344]; rfl⟩, ⟨rfl, ys_b32 _⟩, ⟨rfl, ys_b32 _⟩, trivial⟩ (fun q hq => by cases hq) (zs := [(false, 344), (false, y1.toInt), (false, y2.toInt)]) ⟨⟨rfl, rfl, rfl⟩, ⟨rfl, rfl, rfl⟩, ⟨rfl, rfl, rfl⟩, trivial⟩ R1 (fun r G2 s2 q2 T2 I2 F2 hc hz2 R2 M2 ez2 => ?_)
  obtain ⟨z2, rfl⟩ := yl_int (T := yr_top) rfl hc
  obtain ⟨f2, ez2⟩ := ez2
  have es2 : s2 = s1 := zJ_185 ez2
  subst es2
  simp only [xy_0_179, xy_0_180]
  exact hn G2 ⟨T2, I2, ⟨_, R2, zRZ_mo (by omega) hr⟩, yf_same F2 (j := 0) (fun i => rfl) g1⟩
theorem yL_7 (hd : 120 ≤ d) (hL : yLw G xs bb) (hbb : bb ≤ 513) (l0 : xm_get lv 0 = some (.ref 0)) (l1 : xm_get lv 1 = some (.ref 7)) (l2 : xm_get lv 2 = some (.ref 344)) (l3 : xm_get lv 3 = some (.int i)) (p1 : 0 ≤ (i + 1).toInt) (e1 : xs[(i + 1).toInt.toNat]? = some y1) (p2 : 0 ≤ (i + 2).toInt) (e2 : xs[(i + 2).toInt.toNat]? = some y2) (hk : kc ≤ 600000) (hs : ks ≤ 7302250) (hn : ∀ G' : xm_H, yLw G' xs (bb + 1) → xm_run (xm_exec d) xm_c0 4 600000 7302250 (some .boolean) Q f (xm_drop 682 xm_c0) lv [] G' E kc ks = true) : xm_run (xm_exec d) xm_c0 4 600000 7302250 (some .boolean) Q (f + 27) (xm_drop 181 xm_c0) lv [] G E kc ks = true := by
  obtain ⟨a, b, ⟨s, hR, hr⟩, g⟩ := hL
  simp only [xy_0_181 l1, xy_0_182 l0, xy_0_183 l3, xz_0_184, xy_0_185, xz_0_186, xy_0_187 l0, xy_0_188 l3, xz_0_189, xy_0_190, xz_0_191, xy_0_192, xk_scr g p1 e1, xk_scr g p2 e2]
  rw [yl_call2 (a := 95) rfl (yl_r7 a _) (Nat.le_of_ble_eq_true rfl) hk hs]
  refine zU_mx (I := yi_140) (yc_140 yJ_ok d (by omega)) rfl rfl a b ⟨⟨Or.inl rfl, rfl⟩, ⟨rfl, ys_b32 _⟩, ⟨rfl, ys_b32 _⟩, trivial⟩ (fun q hq => by cases hq) (zs := [(false, 7), (false, y1.toInt), (false, y2.toInt)]) ⟨⟨rfl, rfl, rfl⟩, ⟨rfl, rfl, rfl⟩, ⟨rfl, rfl, rfl⟩, trivial⟩ hR (fun r G1 s1 q1 T1 I1 F1 hc hz1 R1 M1 ez1 => ?_)
  obtain ⟨z1, rfl⟩ := yl_int (T := yr_top) rfl hc
  obtain ⟨f1, ez1⟩ := ez1
  have es1 : s1 = s := zJ_95 ez1
  subst es1
  have g1 := yf_same F1 (j := 0) (fun i => rfl) g
  simp only [xy_0_193, xy_0_194 l2, xy_0_195 l0, xy_0_196 l3, xz_0_197, xy_0_198, xz_0_199, xy_0_200 l0, xy_0_201 l3, xz_0_202, xy_0_203, xz_0_204, xy_0_205, xk_scr g1 p1 e1, xk_scr g1 p2 e2]
  rw [yl_call2 (a := 186) rfl (yl_r344 T1 _) (Nat.le_of_ble_eq_true rfl) hk hs]
  refine zU_mx (I := yi_232) (yd_232 d (by omega)) rfl rfl T1 I1 ⟨⟨Or.inl rfl, by rw [ym_344]; rfl⟩, ⟨rfl, ys_b32 _⟩, ⟨rfl, ys_b32 _⟩, trivial⟩ (fun q hq => by cases hq) (zs := [(false, 344), (false, y1.toInt), (false, y2.toInt)]) ⟨⟨rfl, rfl, rfl⟩, ⟨rfl, rfl, rfl⟩, ⟨rfl, rfl, rfl⟩, trivial⟩ R1 (fun r G2 s2 q2 T2 I2 F2 hc hz2 R2 M2 ez2 => ?_)
  obtain ⟨z2, rfl⟩ := yl_int (T := yr_top) rfl hc
  obtain ⟨f2, ez2⟩ := ez2
  have es2 : s2 = s1 := zJ_186 ez2
  subst es2
  simp only [xy_0_206, xy_0_207]
  exact hn G2 ⟨T2, I2, ⟨_, R2, zRZ_mo (by omega) hr⟩, yf_same F2 (j := 0) (fun i => rfl) g1⟩
theorem yL_8 (hd : 120 ≤ d) (hL : yLw G xs bb) (hbb : bb ≤ 513) (l0 : xm_get lv 0 = some (.ref 0)) (l1 : xm_get lv 1 = some (.ref 7)) (l2 : xm_get lv 2 = some (.ref 344)) (l3 : xm_get lv 3 = some (.int i))  (hk : kc ≤ 600000) (hs : ks ≤ 7302250) (hn : ∀ G' : xm_H, yLw G' xs (bb + 1) → xm_run (xm_exec d) xm_c0 4 600000 7302250 (some .boolean) Q f (xm_drop 682 xm_c0) lv [] G' E kc ks = true) : xm_run (xm_exec d) xm_c0 4 600000 7302250 (some .boolean) Q (f + 7) (xm_drop 208 xm_c0) lv [] G E kc ks = true := by
  obtain ⟨a, b, ⟨s, hR, hr⟩, g⟩ := hL
  simp only [xy_0_208 l1, xy_0_209]
  rw [yl_call0 (a := 96) rfl (yl_r7 a _) (Nat.le_of_ble_eq_true rfl) hk hs]
  have h6 := zn_cnt1 a hR
  obtain ⟨r0, s1, s2, z1, z2, hz⟩ := zA_bell  hr h6.2
  refine zE_use (m := 0) (I := yi_141) (yc_141 yJ_ok d (by omega)) rfl a b ⟨⟨Or.inl rfl, rfl⟩, trivial⟩ (fun q hq => by cases hq) (zs := [(false, 7)]) ⟨⟨rfl, rfl, rfl⟩, trivial⟩ hR z1 (fun r G1 T1 I1 F1 hc hz1 R1 => ?_)
  obtain ⟨z1, rfl⟩ := yl_int (T := (0, (-1), 63)) rfl hc
  have g1 := yf_same F1 (j := 0) (fun i => rfl) g
  simp only [xy_0_210, xy_0_211 l2, xy_0_212]
  rw [yl_call0 (a := 200) rfl (yl_r344 T1 _) (Nat.le_of_ble_eq_true rfl) hk hs]
  refine zE_use (m := 0) (I := yi_247) (yd_247 d (by omega)) rfl T1 I1 ⟨⟨Or.inl rfl, by rw [ym_344]; rfl⟩, trivial⟩ (fun q hq => by cases hq) (zs := [(false, 344)]) ⟨⟨rfl, rfl, rfl⟩, trivial⟩ R1 z2 (fun r G2 T2 I2 F2 hc hz2 R2 => ?_)
  obtain ⟨z2, rfl⟩ := yl_int (T := yr_top) rfl hc
  simp only [xy_0_213, xy_0_214]
  exact hn G2 ⟨T2, I2, ⟨_, R2, hz⟩, yf_same F2 (j := 0) (fun i => rfl) g1⟩
theorem yL_9 (hd : 120 ≤ d) (hL : yLw G xs bb) (hbb : bb ≤ 513) (l0 : xm_get lv 0 = some (.ref 0)) (l1 : xm_get lv 1 = some (.ref 7)) (l2 : xm_get lv 2 = some (.ref 344)) (l3 : xm_get lv 3 = some (.int i)) (p1 : 0 ≤ (i + 1).toInt) (e1 : xs[(i + 1).toInt.toNat]? = some y1) (p2 : 0 ≤ (i + 2).toInt) (e2 : xs[(i + 2).toInt.toNat]? = some y2) (hk : kc ≤ 600000) (hs : ks ≤ 7302250) (hn : ∀ G' : xm_H, yLw G' xs (bb + 1) → xm_run (xm_exec d) xm_c0 4 600000 7302250 (some .boolean) Q f (xm_drop 682 xm_c0) lv [] G' E kc ks = true) : xm_run (xm_exec d) xm_c0 4 600000 7302250 (some .boolean) Q (f + 27) (xm_drop 215 xm_c0) lv [] G E kc ks = true := by
  obtain ⟨a, b, ⟨s, hR, hr⟩, g⟩ := hL
  simp only [xy_0_215 l1, xy_0_216 l0, xy_0_217 l3, xz_0_218, xy_0_219, xz_0_220, xy_0_221 l0, xy_0_222 l3, xz_0_223, xy_0_224, xz_0_225, xy_0_226, xk_scr g p1 e1, xk_scr g p2 e2]
  rw [yl_call2 (a := 97) rfl (yl_r7 a _) (Nat.le_of_ble_eq_true rfl) hk hs]
  have h6 := zn_cnt1 a hR
  obtain ⟨r0, s1, s2, z1, z2, hz⟩ := zA_whisper (x := y1.toInt) (c := y2.toInt) hr h6.2
  refine zE_use (m := 0) (I := yi_142) (yc_142 yJ_ok d (by omega)) rfl a b ⟨⟨Or.inl rfl, rfl⟩, ⟨rfl, ys_b32 _⟩, ⟨rfl, ys_b32 _⟩, trivial⟩ (fun q hq => by cases hq) (zs := [(false, 7), (false, y1.toInt), (false, y2.toInt)]) ⟨⟨rfl, rfl, rfl⟩, ⟨rfl, rfl, rfl⟩, ⟨rfl, rfl, rfl⟩, trivial⟩ hR z1 (fun r G1 T1 I1 F1 hc hz1 R1 => ?_)
  obtain ⟨z1, rfl⟩ := yl_int (T := (0, 0, 1)) rfl hc
  have g1 := yf_same F1 (j := 0) (fun i => rfl) g
  simp only [xy_0_227, xy_0_228 l2, xy_0_229 l0, xy_0_230 l3, xz_0_231, xy_0_232, xz_0_233, xy_0_234 l0, xy_0_235 l3, xz_0_236, xy_0_237, xz_0_238, xy_0_239, xk_scr g1 p1 e1, xk_scr g1 p2 e2]
  rw [yl_call2 (a := 202) rfl (yl_r344 T1 _) (Nat.le_of_ble_eq_true rfl) hk hs]
  refine zE_use (m := 0) (I := yi_249) (yd_249 d (by omega)) rfl T1 I1 ⟨⟨Or.inl rfl, by rw [ym_344]; rfl⟩, ⟨rfl, ys_b32 _⟩, ⟨rfl, ys_b32 _⟩, trivial⟩ (fun q hq => by cases hq) (zs := [(false, 344), (false, y1.toInt), (false, y2.toInt)]) ⟨⟨rfl, rfl, rfl⟩, ⟨rfl, rfl, rfl⟩, ⟨rfl, rfl, rfl⟩, trivial⟩ R1 z2 (fun r G2 T2 I2 F2 hc hz2 R2 => ?_)
  obtain ⟨z2, rfl⟩ := yl_int (T := (0, 0, 1)) rfl hc
  simp only [xy_0_240, xy_0_241]
  exact hn G2 ⟨T2, I2, ⟨_, R2, zRZ_mo (by omega) hz⟩, yf_same F2 (j := 0) (fun i => rfl) g1⟩
theorem yL_10 (hd : 120 ≤ d) (hL : yLw G xs bb) (hbb : bb ≤ 513) (l0 : xm_get lv 0 = some (.ref 0)) (l1 : xm_get lv 1 = some (.ref 7)) (l2 : xm_get lv 2 = some (.ref 344)) (l3 : xm_get lv 3 = some (.int i)) (p1 : 0 ≤ (i + 1).toInt) (e1 : xs[(i + 1).toInt.toNat]? = some y1) (p2 : 0 ≤ (i + 2).toInt) (e2 : xs[(i + 2).toInt.toNat]? = some y2) (hk : kc ≤ 600000) (hs : ks ≤ 7302250) (hn : ∀ G' : xm_H, yLw G' xs (bb + 1) → xm_run (xm_exec d) xm_c0 4 600000 7302250 (some .boolean) Q f (xm_drop 682 xm_c0) lv [] G' E kc ks = true) : xm_run (xm_exec d) xm_c0 4 600000 7302250 (some .boolean) Q (f + 27) (xm_drop 242 xm_c0) lv [] G E kc ks = true := by
  obtain ⟨a, b, ⟨s, hR, hr⟩, g⟩ := hL
  simp only [xy_0_242 l1, xy_0_243 l0, xy_0_244 l3, xz_0_245, xy_0_246, xz_0_247, xy_0_248 l0, xy_0_249 l3, xz_0_250, xy_0_251, xz_0_252, xy_0_253, xk_scr g p1 e1, xk_scr g p2 e2]
  rw [yl_call2 (a := 98) rfl (yl_r7 a _) (Nat.le_of_ble_eq_true rfl) hk hs]
  have h6 := zn_cnt1 a hR
  obtain ⟨r0, s1, s2, z1, z2, hz⟩ := zA_send (x := y1.toInt) (f := y2.toInt) hr h6.2
  refine zE_use (m := 0) (I := yi_143) (yc_143 yJ_ok d (by omega)) rfl a b ⟨⟨Or.inl rfl, rfl⟩, ⟨rfl, ys_b32 _⟩, ⟨rfl, ys_b32 _⟩, trivial⟩ (fun q hq => by cases hq) (zs := [(false, 7), (false, y1.toInt), (false, y2.toInt)]) ⟨⟨rfl, rfl, rfl⟩, ⟨rfl, rfl, rfl⟩, ⟨rfl, rfl, rfl⟩, trivial⟩ hR z1 (fun r G1 T1 I1 F1 hc hz1 R1 => ?_)
  obtain ⟨z1, rfl⟩ := yl_int (T := yr_top) rfl hc
  have g1 := yf_same F1 (j := 0) (fun i => rfl) g
  simp only [xy_0_254, xy_0_255 l2, xy_0_256 l0, xy_0_257 l3, xz_0_258, xy_0_259, xz_0_260, xy_0_261 l0, xy_0_262 l3, xz_0_263, xy_0_264, xz_0_265, xy_0_266, xk_scr g1 p1 e1, xk_scr g1 p2 e2]
  rw [yl_call2 (a := 204) rfl (yl_r344 T1 _) (Nat.le_of_ble_eq_true rfl) hk hs]
  refine zE_use (m := 0) (I := yi_250) (yd_250 d (by omega)) rfl T1 I1 ⟨⟨Or.inl rfl, by rw [ym_344]; rfl⟩, ⟨rfl, ys_b32 _⟩, ⟨rfl, ys_b32 _⟩, trivial⟩ (fun q hq => by cases hq) (zs := [(false, 344), (false, y1.toInt), (false, y2.toInt)]) ⟨⟨rfl, rfl, rfl⟩, ⟨rfl, rfl, rfl⟩, ⟨rfl, rfl, rfl⟩, trivial⟩ R1 z2 (fun r G2 T2 I2 F2 hc hz2 R2 => ?_)
  obtain ⟨z2, rfl⟩ := yl_int (T := yr_top) rfl hc
  simp only [xy_0_267, xy_0_268]
  exact hn G2 ⟨T2, I2, ⟨_, R2, zRZ_mo (by omega) hz⟩, yf_same F2 (j := 0) (fun i => rfl) g1⟩
theorem yL_11 (hd : 120 ≤ d) (hL : yLw G xs bb) (hbb : bb ≤ 513) (l0 : xm_get lv 0 = some (.ref 0)) (l1 : xm_get lv 1 = some (.ref 7)) (l2 : xm_get lv 2 = some (.ref 344)) (l3 : xm_get lv 3 = some (.int i)) (p1 : 0 ≤ (i + 1).toInt) (e1 : xs[(i + 1).toInt.toNat]? = some y1) (hk : kc ≤ 600000) (hs : ks ≤ 7302250) (hn : ∀ G' : xm_H, yLw G' xs (bb + 1) → xm_run (xm_exec d) xm_c0 4 600000 7302250 (some .boolean) Q f (xm_drop 682 xm_c0) lv [] G' E kc ks = true) : xm_run (xm_exec d) xm_c0 4 600000 7302250 (some .boolean) Q (f + 17) (xm_drop 269 xm_c0) lv [] G E kc ks = true := by
  obtain ⟨a, b, ⟨s, hR, hr⟩, g⟩ := hL
  simp only [xy_0_269 l1, xy_0_270 l0, xy_0_271 l3, xz_0_272, xy_0_273, xz_0_274, xy_0_275, xk_scr g p1 e1]
  rw [yl_call1 (a := 99) rfl (yl_r7 a _) (Nat.le_of_ble_eq_true rfl) hk hs]
  have h6 := zn_cnt1 a hR
  obtain ⟨r0, s1, s2, z1, z2, hz⟩ := zA_plant (x := y1.toInt) hr h6.2
  refine zE_use (m := 0) (I := yi_144) (yc_144 yJ_ok d (by omega)) rfl a b ⟨⟨Or.inl rfl, rfl⟩, ⟨rfl, ys_b32 _⟩, trivial⟩ (fun q hq => by cases hq) (zs := [(false, 7), (false, y1.toInt)]) ⟨⟨rfl, rfl, rfl⟩, ⟨rfl, rfl, rfl⟩, trivial⟩ hR z1 (fun r G1 T1 I1 F1 hc hz1 R1 => ?_)
  obtain ⟨z1, rfl⟩ := yl_int (T := (0, (-1), 1)) rfl hc
  have g1 := yf_same F1 (j := 0) (fun i => rfl) g
  simp only [xy_0_276, xy_0_277 l2, xy_0_278 l0, xy_0_279 l3, xz_0_280, xy_0_281, xz_0_282, xy_0_283, xk_scr g1 p1 e1]
  rw [yl_call1 (a := 205) rfl (yl_r344 T1 _) (Nat.le_of_ble_eq_true rfl) hk hs]
  refine zE_use (m := 0) (I := yi_251) (yd_251 d (by omega)) rfl T1 I1 ⟨⟨Or.inl rfl, by rw [ym_344]; rfl⟩, ⟨rfl, ys_b32 _⟩, trivial⟩ (fun q hq => by cases hq) (zs := [(false, 344), (false, y1.toInt)]) ⟨⟨rfl, rfl, rfl⟩, ⟨rfl, rfl, rfl⟩, trivial⟩ R1 z2 (fun r G2 T2 I2 F2 hc hz2 R2 => ?_)
  obtain ⟨z2, rfl⟩ := yl_int (T := (0, (-1), 1)) rfl hc
  simp only [xy_0_284, xy_0_285]
  exact hn G2 ⟨T2, I2, ⟨_, R2, zRZ_mo (by omega) hz⟩, yf_same F2 (j := 0) (fun i => rfl) g1⟩
theorem yL_12 (hd : 120 ≤ d) (hL : yLw G xs bb) (hbb : bb ≤ 513) (l0 : xm_get lv 0 = some (.ref 0)) (l1 : xm_get lv 1 = some (.ref 7)) (l2 : xm_get lv 2 = some (.ref 344)) (l3 : xm_get lv 3 = some (.int i)) (p1 : 0 ≤ (i + 1).toInt) (e1 : xs[(i + 1).toInt.toNat]? = some y1) (hk : kc ≤ 600000) (hs : ks ≤ 7302250) (hn : ∀ G' : xm_H, yLw G' xs (bb + 1) → xm_run (xm_exec d) xm_c0 4 600000 7302250 (some .boolean) Q f (xm_drop 682 xm_c0) lv [] G' E kc ks = true) : xm_run (xm_exec d) xm_c0 4 600000 7302250 (some .boolean) Q (f + 15) (xm_drop 286 xm_c0) lv [] G E kc ks = true := by
  obtain ⟨a, b, ⟨s, hR, hr⟩, g⟩ := hL
  simp only [xy_0_286 l1, xy_0_287 l0, xy_0_288 l3, xz_0_289, xy_0_290, xz_0_291, xy_0_292, xk_scr g p1 e1]
  rw [yl_call1 (a := 100) rfl (yl_r7 a _) (Nat.le_of_ble_eq_true rfl) hk hs]
  have h6 := zn_cnt1 a hR
  obtain ⟨r0, s1, s2, z1, z2, hz⟩ := zA_heel (x := y1.toInt) hr h6.2
  refine zE_use (m := 0) (I := yi_145) (yc_145 yJ_ok d (by omega)) rfl a b ⟨⟨Or.inl rfl, rfl⟩, ⟨rfl, ys_b32 _⟩, trivial⟩ (fun q hq => by cases hq) (zs := [(false, 7), (false, y1.toInt)]) ⟨⟨rfl, rfl, rfl⟩, ⟨rfl, rfl, rfl⟩, trivial⟩ hR z1 (fun r G1 T1 I1 F1 hc hz1 R1 => ?_)
  obtain ⟨z1, rfl⟩ := yl_int (T := yr_top) rfl hc
  have g1 := yf_same F1 (j := 0) (fun i => rfl) g
  simp only [xy_0_293 l2, xy_0_294 l0, xy_0_295 l3, xz_0_296, xy_0_297, xz_0_298, xy_0_299, xk_scr g1 p1 e1]
  rw [yl_call1 (a := 206) rfl (yl_r344 T1 _) (Nat.le_of_ble_eq_true rfl) hk hs]
  refine zE_use (m := 0) (I := yi_252) (yd_252 d (by omega)) rfl T1 I1 ⟨⟨Or.inl rfl, by rw [ym_344]; rfl⟩, ⟨rfl, ys_b32 _⟩, trivial⟩ (fun q hq => by cases hq) (zs := [(false, 344), (false, y1.toInt)]) ⟨⟨rfl, rfl, rfl⟩, ⟨rfl, rfl, rfl⟩, trivial⟩ R1 z2 (fun r G2 T2 I2 F2 hc hz2 R2 => ?_)
  obtain ⟨z2, rfl⟩ := yl_int (T := yr_top) rfl hc
  have e12 := zl_same hz1 hz2 rfl
  subst e12
  simp only [xy_0_300, decide_true, cond_true]
  exact hn G2 ⟨T2, I2, ⟨_, R2, zRZ_mo (by omega) hz⟩, yf_same F2 (j := 0) (fun i => rfl) g1⟩
theorem yL_13 (hd : 120 ≤ d) (hL : yLw G xs bb) (hbb : bb ≤ 513) (l0 : xm_get lv 0 = some (.ref 0)) (l1 : xm_get lv 1 = some (.ref 7)) (l2 : xm_get lv 2 = some (.ref 344)) (l3 : xm_get lv 3 = some (.int i))  (hk : kc ≤ 600000) (hs : ks ≤ 7302250) (hn : ∀ G' : xm_H, yLw G' xs (bb + 1) → xm_run (xm_exec d) xm_c0 4 600000 7302250 (some .boolean) Q f (xm_drop 682 xm_c0) lv [] G' E kc ks = true) : xm_run (xm_exec d) xm_c0 4 600000 7302250 (some .boolean) Q (f + 7) (xm_drop 303 xm_c0) lv [] G E kc ks = true := by
  obtain ⟨a, b, ⟨s, hR, hr⟩, g⟩ := hL
  simp only [xy_0_303 l1, xy_0_304]
  rw [yl_call0 (a := 101) rfl (yl_r7 a _) (Nat.le_of_ble_eq_true rfl) hk hs]
  have h6 := zn_cnt1 a hR
  obtain ⟨r0, s1, s2, z1, z2, hz⟩ := zA_undo  hr h6.2
  refine zE_use (m := 0) (I := yi_146) (yc_146 yJ_ok d (by omega)) rfl a b ⟨⟨Or.inl rfl, rfl⟩, trivial⟩ (fun q hq => by cases hq) (zs := [(false, 7)]) ⟨⟨rfl, rfl, rfl⟩, trivial⟩ hR z1 (fun r G1 T1 I1 F1 hc hz1 R1 => ?_)
  obtain ⟨z1, rfl⟩ := yl_int (T := yr_top) rfl hc
  have g1 := yf_same F1 (j := 0) (fun i => rfl) g
  simp only [xy_0_305, xy_0_306 l2, xy_0_307]
  rw [yl_call0 (a := 199) rfl (yl_r344 T1 _) (Nat.le_of_ble_eq_true rfl) hk hs]
  refine zE_use (m := 0) (I := yi_246) (yd_246 d (by omega)) rfl T1 I1 ⟨⟨Or.inl rfl, by rw [ym_344]; rfl⟩, trivial⟩ (fun q hq => by cases hq) (zs := [(false, 344)]) ⟨⟨rfl, rfl, rfl⟩, trivial⟩ R1 z2 (fun r G2 T2 I2 F2 hc hz2 R2 => ?_)
  obtain ⟨z2, rfl⟩ := yl_int (T := (0, (-1), 19)) rfl hc
  simp only [xy_0_308, xy_0_309]
  exact hn G2 ⟨T2, I2, ⟨_, R2, zRZ_mo (by omega) hz⟩, yf_same F2 (j := 0) (fun i => rfl) g1⟩
theorem zfz_258 : zfz yi_258.2.2.2.2 = true := by decide +kernel
theorem yL_14 (hd : 120 ≤ d) (hL : yLw G xs bb) (hbb : bb ≤ 513) (l0 : xm_get lv 0 = some (.ref 0)) (l1 : xm_get lv 1 = some (.ref 7)) (l2 : xm_get lv 2 = some (.ref 344)) (l3 : xm_get lv 3 = some (.int i)) (p1 : 0 ≤ (i + 1).toInt) (e1 : xs[(i + 1).toInt.toNat]? = some y1) (hk : kc ≤ 600000) (hs : ks ≤ 7302250) (hn : ∀ G' : xm_H, yLw G' xs (bb + 1) → xm_run (xm_exec d) xm_c0 4 600000 7302250 (some .boolean) Q f (xm_drop 682 xm_c0) lv [] G' E kc ks = true) : xm_run (xm_exec d) xm_c0 4 600000 7302250 (some .boolean) Q (f + 17) (xm_drop 310 xm_c0) lv [] G E kc ks = true := by
  obtain ⟨a, b, ⟨s, hR, hr⟩, g⟩ := hL
  simp only [xy_0_310 l1, xy_0_311 l0, xy_0_312 l3, xz_0_313, xy_0_314, xz_0_315, xy_0_316, xk_scr g p1 e1]
  rw [yl_call1 (a := 102) rfl (yl_r7 a _) (Nat.le_of_ble_eq_true rfl) hk hs]
  have h6 := zn_cnt1 a hR
  refine zU_mx (I := yi_147) (yc_147 yJ_ok d (by omega)) rfl rfl a b ⟨⟨Or.inl rfl, rfl⟩, ⟨rfl, ys_b32 _⟩, trivial⟩ (fun q hq => by cases hq) (zs := [(false, 7), (false, y1.toInt)]) ⟨⟨rfl, rfl, rfl⟩, ⟨rfl, rfl, rfl⟩, trivial⟩ hR (fun r G1 s1 q1 T1 I1 F1 hc hz1 R1 M1 ez1 => ?_)
  obtain ⟨z1, rfl⟩ := yl_int (T := yr_top) rfl hc
  have eq1 : ∀ (u2 : Int) (w2 : zS), zE xm_c210 [344, y1.toInt, 0] s1 u2 w2 → q1 = u2 := fun u2 w2 e2 => zB_ahead hr h6.2 (by omega) ez1 e2
  obtain ⟨f1, ez1⟩ := ez1
  replace hr := zRZ_Q hr h6.2 (zQ_102 ez1)
  replace h6 := zn_cnt1 T1 R1
  have h7 := zn_seed T1 R1
  have g1 := yf_same F1 (j := 0) (fun i => rfl) g
  simp only [xy_0_317, xy_0_318 l2, xy_0_319 l0, xy_0_320 l3, xz_0_321, xy_0_322, xz_0_323, xy_0_324, xk_scr g1 p1 e1]
  rw [yl_call1 (a := 210) rfl (yl_r344 T1 _) (Nat.le_of_ble_eq_true rfl) hk hs]
  refine zU_mx (I := yi_258) (yd_258 d (by omega)) rfl rfl T1 I1 ⟨⟨Or.inl rfl, by rw [ym_344]; rfl⟩, ⟨rfl, ys_b32 _⟩, trivial⟩ (fun q hq => by cases hq) (zs := [(false, 344), (false, y1.toInt)]) ⟨⟨rfl, rfl, rfl⟩, ⟨rfl, rfl, rfl⟩, trivial⟩ R1 (fun r G2 s2 q2 T2 I2 F2 hc hz2 R2 M2 ez2 => ?_)
  obtain ⟨z2, rfl⟩ := yl_int (T := (0, (-1), 127)) rfl hc
  have e0 := eq1 _ _ ez2
  obtain ⟨f2, ez2⟩ := ez2
  obtain ⟨n, m, U, gJ, bJ, hfJ, fJ⟩ := zRZ_J hr h6.2 h7
  replace hr := zRZ_W hr h6.2 (zfz_ok T1 zfz_258 (zJ_210 gJ bJ ez2))
  simp only [xy_0_325, xy_0_326]
  exact hn G2 ⟨T2, I2, ⟨_, M2, zRZ_mo (by omega) hr⟩, yf_same F2 (j := 0) (fun i => rfl) g1⟩
theorem zfz_259 : zfz yi_259.2.2.2.2 = true := by decide +kernel
theorem yL_15 (hd : 120 ≤ d) (hL : yLw G xs bb) (hbb : bb ≤ 513) (l0 : xm_get lv 0 = some (.ref 0)) (l1 : xm_get lv 1 = some (.ref 7)) (l2 : xm_get lv 2 = some (.ref 344)) (l3 : xm_get lv 3 = some (.int i)) (p1 : 0 ≤ (i + 1).toInt) (e1 : xs[(i + 1).toInt.toNat]? = some y1) (p2 : 0 ≤ (i + 2).toInt) (e2 : xs[(i + 2).toInt.toNat]? = some y2) (hk : kc ≤ 600000) (hs : ks ≤ 7302250) (hn : ∀ G' : xm_H, yLw G' xs (bb + 1) → xm_run (xm_exec d) xm_c0 4 600000 7302250 (some .boolean) Q f (xm_drop 682 xm_c0) lv [] G' E kc ks = true) : xm_run (xm_exec d) xm_c0 4 600000 7302250 (some .boolean) Q (f + 27) (xm_drop 327 xm_c0) lv [] G E kc ks = true := by
  obtain ⟨a, b, ⟨s, hR, hr⟩, g⟩ := hL
  simp only [xy_0_327 l1, xy_0_328 l0, xy_0_329 l3, xz_0_330, xy_0_331, xz_0_332, xy_0_333 l0, xy_0_334 l3, xz_0_335, xy_0_336, xz_0_337, xy_0_338, xk_scr g p1 e1, xk_scr g p2 e2]
  rw [yl_call2 (a := 103) rfl (yl_r7 a _) (Nat.le_of_ble_eq_true rfl) hk hs]
  have h6 := zn_cnt1 a hR
  refine zU_mx (I := yi_148) (yc_148 yJ_ok d (by omega)) rfl rfl a b ⟨⟨Or.inl rfl, rfl⟩, ⟨rfl, ys_b32 _⟩, ⟨rfl, ys_b32 _⟩, trivial⟩ (fun q hq => by cases hq) (zs := [(false, 7), (false, y1.toInt), (false, y2.toInt)]) ⟨⟨rfl, rfl, rfl⟩, ⟨rfl, rfl, rfl⟩, ⟨rfl, rfl, rfl⟩, trivial⟩ hR (fun r G1 s1 q1 T1 I1 F1 hc hz1 R1 M1 ez1 => ?_)
  obtain ⟨z1, rfl⟩ := yl_int (T := yr_top) rfl hc
  have eq1 : ∀ (u2 : Int) (w2 : zS), zE xm_c211 [344, y1.toInt, y2.toInt, 0] s1 u2 w2 → q1 = u2 := fun u2 w2 e2 => zB_where hr h6.2 (by omega) ez1 e2
  obtain ⟨f1, ez1⟩ := ez1
  replace hr := zRZ_Q hr h6.2 (zQ_103 ez1)
  replace h6 := zn_cnt1 T1 R1
  have h7 := zn_seed T1 R1
  have g1 := yf_same F1 (j := 0) (fun i => rfl) g
  simp only [xy_0_339, xy_0_340 l2, xy_0_341 l0, xy_0_342 l3, xz_0_343, xy_0_344, xz_0_345, xy_0_346 l0, xy_0_347 l3, xz_0_348, xy_0_349, xz_0_350, xy_0_351, xk_scr g1 p1 e1, xk_scr g1 p2 e2]
  rw [yl_call2 (a := 211) rfl (yl_r344 T1 _) (Nat.le_of_ble_eq_true rfl) hk hs]
  refine zU_mx (I := yi_259) (yd_259 d (by omega)) rfl rfl T1 I1 ⟨⟨Or.inl rfl, by rw [ym_344]; rfl⟩, ⟨rfl, ys_b32 _⟩, ⟨rfl, ys_b32 _⟩, trivial⟩ (fun q hq => by cases hq) (zs := [(false, 344), (false, y1.toInt), (false, y2.toInt)]) ⟨⟨rfl, rfl, rfl⟩, ⟨rfl, rfl, rfl⟩, ⟨rfl, rfl, rfl⟩, trivial⟩ R1 (fun r G2 s2 q2 T2 I2 F2 hc hz2 R2 M2 ez2 => ?_)
  obtain ⟨z2, rfl⟩ := yl_int (T := yr_top) rfl hc
  have e0 := eq1 _ _ ez2
  obtain ⟨f2, ez2⟩ := ez2
  obtain ⟨n, m, U, gJ, bJ, hfJ, fJ⟩ := zRZ_J hr h6.2 h7
  replace hr := zRZ_W hr h6.2 (zfz_ok T1 zfz_259 (zJ_211 gJ bJ ez2))
  simp only [xy_0_352, xy_0_353]
  exact hn G2 ⟨T2, I2, ⟨_, M2, zRZ_mo (by omega) hr⟩, yf_same F2 (j := 0) (fun i => rfl) g1⟩
theorem zfz_260 : zfz yi_260.2.2.2.2 = true := by decide +kernel
theorem yL_16 (hd : 120 ≤ d) (hL : yLw G xs bb) (hbb : bb ≤ 513) (l0 : xm_get lv 0 = some (.ref 0)) (l1 : xm_get lv 1 = some (.ref 7)) (l2 : xm_get lv 2 = some (.ref 344)) (l3 : xm_get lv 3 = some (.int i)) (p1 : 0 ≤ (i + 1).toInt) (e1 : xs[(i + 1).toInt.toNat]? = some y1) (hk : kc ≤ 600000) (hs : ks ≤ 7302250) (hn : ∀ G' : xm_H, yLw G' xs (bb + 1) → xm_run (xm_exec d) xm_c0 4 600000 7302250 (some .boolean) Q f (xm_drop 682 xm_c0) lv [] G' E kc ks = true) : xm_run (xm_exec d) xm_c0 4 600000 7302250 (some .boolean) Q (f + 17) (xm_drop 354 xm_c0) lv [] G E kc ks = true := by
  obtain ⟨a, b, ⟨s, hR, hr⟩, g⟩ := hL
  simp only [xy_0_354 l1, xy_0_355 l0, xy_0_356 l3, xz_0_357, xy_0_358, xz_0_359, xy_0_360, xk_scr g p1 e1]
  rw [yl_call1 (a := 104) rfl (yl_r7 a _) (Nat.le_of_ble_eq_true rfl) hk hs]
  have h6 := zn_cnt1 a hR
  refine zU_mx (I := yi_149) (yc_149 yJ_ok d (by omega)) rfl rfl a b ⟨⟨Or.inl rfl, rfl⟩, ⟨rfl, ys_b32 _⟩, trivial⟩ (fun q hq => by cases hq) (zs := [(false, 7), (false, y1.toInt)]) ⟨⟨rfl, rfl, rfl⟩, ⟨rfl, rfl, rfl⟩, trivial⟩ hR (fun r G1 s1 q1 T1 I1 F1 hc hz1 R1 M1 ez1 => ?_)
  obtain ⟨z1, rfl⟩ := yl_int (T := yr_top) rfl hc
  have eq1 : ∀ (u2 : Int) (w2 : zS), zE xm_c212 [344, y1.toInt, 0] s1 u2 w2 → q1 = u2 := fun u2 w2 e2 => zB_hears hr h6.2 (by omega) ez1 e2
  obtain ⟨f1, ez1⟩ := ez1
  replace hr := zRZ_Q hr h6.2 (zQ_104 ez1)
  replace h6 := zn_cnt1 T1 R1
  have h7 := zn_seed T1 R1
  have g1 := yf_same F1 (j := 0) (fun i => rfl) g
  simp only [xy_0_361, xy_0_362 l2, xy_0_363 l0, xy_0_364 l3, xz_0_365, xy_0_366, xz_0_367, xy_0_368, xk_scr g1 p1 e1]
  rw [yl_call1 (a := 212) rfl (yl_r344 T1 _) (Nat.le_of_ble_eq_true rfl) hk hs]
  refine zU_mx (I := yi_260) (yd_260 d (by omega)) rfl rfl T1 I1 ⟨⟨Or.inl rfl, by rw [ym_344]; rfl⟩, ⟨rfl, ys_b32 _⟩, trivial⟩ (fun q hq => by cases hq) (zs := [(false, 344), (false, y1.toInt)]) ⟨⟨rfl, rfl, rfl⟩, ⟨rfl, rfl, rfl⟩, trivial⟩ R1 (fun r G2 s2 q2 T2 I2 F2 hc hz2 R2 M2 ez2 => ?_)
  obtain ⟨z2, rfl⟩ := yl_int (T := (0, (-2), 2147483647)) rfl hc
  have e0 := eq1 _ _ ez2
  obtain ⟨f2, ez2⟩ := ez2
  obtain ⟨n, m, U, gJ, bJ, hfJ, fJ⟩ := zRZ_J hr h6.2 h7
  replace hr := zRZ_W hr h6.2 (zfz_ok T1 zfz_260 (zJ_212 gJ bJ ez2))
  simp only [xy_0_369, xy_0_370]
  exact hn G2 ⟨T2, I2, ⟨_, M2, zRZ_mo (by omega) hr⟩, yf_same F2 (j := 0) (fun i => rfl) g1⟩
theorem zfz_263 : zfz yi_263.2.2.2.2 = true := by decide +kernel
theorem yL_17 (hd : 120 ≤ d) (hL : yLw G xs bb) (hbb : bb ≤ 513) (l0 : xm_get lv 0 = some (.ref 0)) (l1 : xm_get lv 1 = some (.ref 7)) (l2 : xm_get lv 2 = some (.ref 344)) (l3 : xm_get lv 3 = some (.int i)) (p1 : 0 ≤ (i + 1).toInt) (e1 : xs[(i + 1).toInt.toNat]? = some y1) (p2 : 0 ≤ (i + 2).toInt) (e2 : xs[(i + 2).toInt.toNat]? = some y2) (p3 : 0 ≤ (i + 3).toInt) (e3 : xs[(i + 3).toInt.toNat]? = some y3) (p4 : 0 ≤ (i + 4).toInt) (e4 : xs[(i + 4).toInt.toNat]? = some y4) (hk : kc ≤ 600000) (hs : ks ≤ 7302250) (hn : ∀ G' : xm_H, yLw G' xs (bb + 1) → xm_run (xm_exec d) xm_c0 4 600000 7302250 (some .boolean) Q f (xm_drop 682 xm_c0) lv [] G' E kc ks = true) : xm_run (xm_exec d) xm_c0 4 600000 7302250 (some .boolean) Q (f + 47) (xm_drop 371 xm_c0) lv [] G E kc ks = true := by
  obtain ⟨a, b, ⟨s, hR, hr⟩, g⟩ := hL
  simp only [xy_0_371 l1, xy_0_372 l0, xy_0_373 l3, xz_0_374, xy_0_375, xz_0_376, xy_0_377 l0, xy_0_378 l3, xz_0_379, xy_0_380, xz_0_381, xy_0_382 l0, xy_0_383 l3, xz_0_384, xy_0_385, xz_0_386, xy_0_387 l0, xy_0_388 l3, xz_0_389, xy_0_390, xz_0_391, xy_0_392, xk_scr g p1 e1, xk_scr g p2 e2, xk_scr g p3 e3, xk_scr g p4 e4]
  rw [yl_call4 (a := 105) rfl (yl_r7 a _) (Nat.le_of_ble_eq_true rfl) hk hs]
  have h6 := zn_cnt1 a hR
  refine zU_mx (I := yi_150) (yc_150 yJ_ok d (by omega)) rfl rfl a b ⟨⟨Or.inl rfl, rfl⟩, ⟨rfl, ys_b32 _⟩, ⟨rfl, ys_b32 _⟩, ⟨rfl, ys_b32 _⟩, ⟨rfl, ys_b32 _⟩, trivial⟩ (fun q hq => by cases hq) (zs := [(false, 7), (false, y1.toInt), (false, y2.toInt), (false, y3.toInt), (false, y4.toInt)]) ⟨⟨rfl, rfl, rfl⟩, ⟨rfl, rfl, rfl⟩, ⟨rfl, rfl, rfl⟩, ⟨rfl, rfl, rfl⟩, ⟨rfl, rfl, rfl⟩, trivial⟩ hR (fun r G1 s1 q1 T1 I1 F1 hc hz1 R1 M1 ez1 => ?_)
  obtain ⟨z1, rfl⟩ := yl_int (T := (0, (-2147483648), 127)) rfl hc
  have eq1 : ∀ (u2 : Int) (w2 : zS), zE xm_c215 [344, y1.toInt, y2.toInt, y3.toInt, y4.toInt, 0, 0, 0, 0] s1 u2 w2 → q1 = u2 := fun u2 w2 e2 => zB_whom hr h6.2 (by omega) ez1 e2
  obtain ⟨f1, ez1⟩ := ez1
  replace hr := zRZ_Q hr h6.2 (zQ_105 ez1)
  replace h6 := zn_cnt1 T1 R1
  have h7 := zn_seed T1 R1
  have g1 := yf_same F1 (j := 0) (fun i => rfl) g
  simp only [xy_0_393, xy_0_394 l2, xy_0_395 l0, xy_0_396 l3, xz_0_397, xy_0_398, xz_0_399, xy_0_400 l0, xy_0_401 l3, xz_0_402, xy_0_403, xz_0_404, xy_0_405 l0, xy_0_406 l3, xz_0_407, xy_0_408, xz_0_409, xy_0_410 l0, xy_0_411 l3, xz_0_412, xy_0_413, xz_0_414, xy_0_415, xk_scr g1 p1 e1, xk_scr g1 p2 e2, xk_scr g1 p3 e3, xk_scr g1 p4 e4]
  rw [yl_call4 (a := 215) rfl (yl_r344 T1 _) (Nat.le_of_ble_eq_true rfl) hk hs]
  refine zU_mx (I := yi_263) (yd_263 d (by omega)) rfl rfl T1 I1 ⟨⟨Or.inl rfl, by rw [ym_344]; rfl⟩, ⟨rfl, ys_b32 _⟩, ⟨rfl, ys_b32 _⟩, ⟨rfl, ys_b32 _⟩, ⟨rfl, ys_b32 _⟩, trivial⟩ (fun q hq => by cases hq) (zs := [(false, 344), (false, y1.toInt), (false, y2.toInt), (false, y3.toInt), (false, y4.toInt)]) ⟨⟨rfl, rfl, rfl⟩, ⟨rfl, rfl, rfl⟩, ⟨rfl, rfl, rfl⟩, ⟨rfl, rfl, rfl⟩, ⟨rfl, rfl, rfl⟩, trivial⟩ R1 (fun r G2 s2 q2 T2 I2 F2 hc hz2 R2 M2 ez2 => ?_)
  obtain ⟨z2, rfl⟩ := yl_int (T := yr_top) rfl hc
  have e0 := eq1 _ _ ez2
  obtain ⟨f2, ez2⟩ := ez2
  obtain ⟨n, m, U, gJ, bJ, hfJ, fJ⟩ := zRZ_J hr h6.2 h7
  replace hr := zRZ_W hr h6.2 (zfz_ok T1 zfz_263 (zJ_215 gJ bJ ez2))
  simp only [xy_0_416, xy_0_417]
  exact hn G2 ⟨T2, I2, ⟨_, M2, zRZ_mo (by omega) hr⟩, yf_same F2 (j := 0) (fun i => rfl) g1⟩
theorem yL_18 (hd : 120 ≤ d) (hL : yLw G xs bb) (hbb : bb ≤ 513) (l0 : xm_get lv 0 = some (.ref 0)) (l1 : xm_get lv 1 = some (.ref 7)) (l2 : xm_get lv 2 = some (.ref 344)) (l3 : xm_get lv 3 = some (.int i)) (p1 : 0 ≤ (i + 1).toInt) (e1 : xs[(i + 1).toInt.toNat]? = some y1) (p2 : 0 ≤ (i + 2).toInt) (e2 : xs[(i + 2).toInt.toNat]? = some y2) (hk : kc ≤ 600000) (hs : ks ≤ 7302250) (hn : ∀ G' : xm_H, yLw G' xs (bb + 1) → xm_run (xm_exec d) xm_c0 4 600000 7302250 (some .boolean) Q f (xm_drop 682 xm_c0) lv [] G' E kc ks = true) : xm_run (xm_exec d) xm_c0 4 600000 7302250 (some .boolean) Q (f + 27) (xm_drop 418 xm_c0) lv [] G E kc ks = true := by
  obtain ⟨a, b, ⟨s, hR, hr⟩, g⟩ := hL
  simp only [xy_0_418 l1, xy_0_419 l0, xy_0_420 l3, xz_0_421, xy_0_422, xz_0_423, xy_0_424 l0, xy_0_425 l3, xz_0_426, xy_0_427, xz_0_428, xy_0_429, xk_scr g p1 e1, xk_scr g p2 e2]
  rw [yl_call2 (a := 106) rfl (yl_r7 a _) (Nat.le_of_ble_eq_true rfl) hk hs]
  have h6 := zn_cnt1 a hR
  obtain ⟨r0, s1, s2, z1, z2, hz⟩ := zA_news (x := y1.toInt) (y := y2.toInt) hr h6.2
  refine zE_use (m := 0) (I := yi_151) (yc_151 yJ_ok d (by omega)) rfl a b ⟨⟨Or.inl rfl, rfl⟩, ⟨rfl, ys_b32 _⟩, ⟨rfl, ys_b32 _⟩, trivial⟩ (fun q hq => by cases hq) (zs := [(false, 7), (false, y1.toInt), (false, y2.toInt)]) ⟨⟨rfl, rfl, rfl⟩, ⟨rfl, rfl, rfl⟩, ⟨rfl, rfl, rfl⟩, trivial⟩ hR z1 (fun r G1 T1 I1 F1 hc hz1 R1 => ?_)
  obtain ⟨z1, rfl⟩ := yl_int (T := (0, (-2), 10)) rfl hc
  have g1 := yf_same F1 (j := 0) (fun i => rfl) g
  simp only [xy_0_430, xy_0_431 l2, xy_0_432 l0, xy_0_433 l3, xz_0_434, xy_0_435, xz_0_436, xy_0_437 l0, xy_0_438 l3, xz_0_439, xy_0_440, xz_0_441, xy_0_442, xk_scr g1 p1 e1, xk_scr g1 p2 e2]
  rw [yl_call2 (a := 216) rfl (yl_r344 T1 _) (Nat.le_of_ble_eq_true rfl) hk hs]
  refine zE_use (m := 0) (I := yi_264) (yd_264 d (by omega)) rfl T1 I1 ⟨⟨Or.inl rfl, by rw [ym_344]; rfl⟩, ⟨rfl, ys_b32 _⟩, ⟨rfl, ys_b32 _⟩, trivial⟩ (fun q hq => by cases hq) (zs := [(false, 344), (false, y1.toInt), (false, y2.toInt)]) ⟨⟨rfl, rfl, rfl⟩, ⟨rfl, rfl, rfl⟩, ⟨rfl, rfl, rfl⟩, trivial⟩ R1 z2 (fun r G2 T2 I2 F2 hc hz2 R2 => ?_)
  obtain ⟨z2, rfl⟩ := yl_int (T := (0, (-2), 10)) rfl hc
  simp only [xy_0_443, xy_0_444]
  exact hn G2 ⟨T2, I2, ⟨_, R2, zRZ_mo (by omega) hz⟩, yf_same F2 (j := 0) (fun i => rfl) g1⟩
theorem zfz_269 : zfz yi_269.2.2.2.2 = true := by decide +kernel
theorem yL_19 (hd : 120 ≤ d) (hL : yLw G xs bb) (hbb : bb ≤ 513) (l0 : xm_get lv 0 = some (.ref 0)) (l1 : xm_get lv 1 = some (.ref 7)) (l2 : xm_get lv 2 = some (.ref 344)) (l3 : xm_get lv 3 = some (.int i)) (p1 : 0 ≤ (i + 1).toInt) (e1 : xs[(i + 1).toInt.toNat]? = some y1) (hk : kc ≤ 600000) (hs : ks ≤ 7302250) (hn : ∀ G' : xm_H, yLw G' xs (bb + 1) → xm_run (xm_exec d) xm_c0 4 600000 7302250 (some .boolean) Q f (xm_drop 682 xm_c0) lv [] G' E kc ks = true) : xm_run (xm_exec d) xm_c0 4 600000 7302250 (some .boolean) Q (f + 17) (xm_drop 445 xm_c0) lv [] G E kc ks = true := by
  obtain ⟨a, b, ⟨s, hR, hr⟩, g⟩ := hL
  simp only [xy_0_445 l1, xy_0_446 l0, xy_0_447 l3, xz_0_448, xy_0_449, xz_0_450, xy_0_451, xk_scr g p1 e1]
  rw [yl_call1 (a := 107) rfl (yl_r7 a _) (Nat.le_of_ble_eq_true rfl) hk hs]
  have h6 := zn_cnt1 a hR
  refine zU_mx (I := yi_152) (yc_152 yJ_ok d (by omega)) rfl rfl a b ⟨⟨Or.inl rfl, rfl⟩, ⟨rfl, ys_b32 _⟩, trivial⟩ (fun q hq => by cases hq) (zs := [(false, 7), (false, y1.toInt)]) ⟨⟨rfl, rfl, rfl⟩, ⟨rfl, rfl, rfl⟩, trivial⟩ hR (fun r G1 s1 q1 T1 I1 F1 hc hz1 R1 M1 ez1 => ?_)
  obtain ⟨z1, rfl⟩ := yl_int (T := yr_top) rfl hc
  have eq1 : ∀ (u2 : Int) (w2 : zS), zE xm_c222 [344, y1.toInt] s1 u2 w2 → q1 = u2 := fun u2 w2 e2 => zB_starts hr h6.2 (by omega) ez1 e2
  obtain ⟨f1, ez1⟩ := ez1
  replace hr := zRZ_Q hr h6.2 (zQ_107 ez1)
  replace h6 := zn_cnt1 T1 R1
  have h7 := zn_seed T1 R1
  have g1 := yf_same F1 (j := 0) (fun i => rfl) g
  simp only [xy_0_452, xy_0_453 l2, xy_0_454 l0, xy_0_455 l3, xz_0_456, xy_0_457, xz_0_458, xy_0_459, xk_scr g1 p1 e1]
  rw [yl_call1 (a := 222) rfl (yl_r344 T1 _) (Nat.le_of_ble_eq_true rfl) hk hs]
  refine zU_mx (I := yi_269) (yd_269 d (by omega)) rfl rfl T1 I1 ⟨⟨Or.inl rfl, by rw [ym_344]; rfl⟩, ⟨rfl, ys_b32 _⟩, trivial⟩ (fun q hq => by cases hq) (zs := [(false, 344), (false, y1.toInt)]) ⟨⟨rfl, rfl, rfl⟩, ⟨rfl, rfl, rfl⟩, trivial⟩ R1 (fun r G2 s2 q2 T2 I2 F2 hc hz2 R2 M2 ez2 => ?_)
  obtain ⟨z2, rfl⟩ := yl_int (T := yr_top) rfl hc
  have e0 := eq1 _ _ ez2
  obtain ⟨f2, ez2⟩ := ez2
  obtain ⟨n, m, U, gJ, bJ, hfJ, fJ⟩ := zRZ_J hr h6.2 h7
  replace hr := zRZ_W hr h6.2 (zfz_ok T1 zfz_269 (zJ_222 gJ bJ ez2))
  simp only [xy_0_460, xy_0_461]
  exact hn G2 ⟨T2, I2, ⟨_, M2, zRZ_mo (by omega) hr⟩, yf_same F2 (j := 0) (fun i => rfl) g1⟩
theorem zfz_271 : zfz yi_271.2.2.2.2 = true := by decide +kernel
theorem yL_20 (hd : 120 ≤ d) (hL : yLw G xs bb) (hbb : bb ≤ 513) (l0 : xm_get lv 0 = some (.ref 0)) (l1 : xm_get lv 1 = some (.ref 7)) (l2 : xm_get lv 2 = some (.ref 344)) (l3 : xm_get lv 3 = some (.int i)) (p1 : 0 ≤ (i + 1).toInt) (e1 : xs[(i + 1).toInt.toNat]? = some y1) (hk : kc ≤ 600000) (hs : ks ≤ 7302250) (hn : ∀ G' : xm_H, yLw G' xs (bb + 1) → xm_run (xm_exec d) xm_c0 4 600000 7302250 (some .boolean) Q f (xm_drop 682 xm_c0) lv [] G' E kc ks = true) : xm_run (xm_exec d) xm_c0 4 600000 7302250 (some .boolean) Q (f + 17) (xm_drop 462 xm_c0) lv [] G E kc ks = true := by
  obtain ⟨a, b, ⟨s, hR, hr⟩, g⟩ := hL
  simp only [xy_0_462 l1, xy_0_463 l0, xy_0_464 l3, xz_0_465, xy_0_466, xz_0_467, xy_0_468, xk_scr g p1 e1]
  rw [yl_call1 (a := 108) rfl (yl_r7 a _) (Nat.le_of_ble_eq_true rfl) hk hs]
  have h6 := zn_cnt1 a hR
  refine zU_mx (I := yi_153) (yc_153 yJ_ok d (by omega)) rfl rfl a b ⟨⟨Or.inl rfl, rfl⟩, ⟨rfl, ys_b32 _⟩, trivial⟩ (fun q hq => by cases hq) (zs := [(false, 7), (false, y1.toInt)]) ⟨⟨rfl, rfl, rfl⟩, ⟨rfl, rfl, rfl⟩, trivial⟩ hR (fun r G1 s1 q1 T1 I1 F1 hc hz1 R1 M1 ez1 => ?_)
  obtain ⟨z1, rfl⟩ := yl_int (T := yr_top) rfl hc
  have eq1 : ∀ (u2 : Int) (w2 : zS), zE xm_c224 [344, y1.toInt, 0, 0, 0, 0] s1 u2 w2 → q1 = u2 := fun u2 w2 e2 => zB_looks hr h6.2 (by omega) ez1 e2
  obtain ⟨f1, ez1⟩ := ez1
  replace hr := zRZ_Q hr h6.2 (zQ_108 ez1)
  replace h6 := zn_cnt1 T1 R1
  have h7 := zn_seed T1 R1
  have g1 := yf_same F1 (j := 0) (fun i => rfl) g
  simp only [xy_0_469, xy_0_470 l2, xy_0_471 l0, xy_0_472 l3, xz_0_473, xy_0_474, xz_0_475, xy_0_476, xk_scr g1 p1 e1]
  rw [yl_call1 (a := 224) rfl (yl_r344 T1 _) (Nat.le_of_ble_eq_true rfl) hk hs]
  refine zU_mx (I := yi_271) (yd_271 d (by omega)) rfl rfl T1 I1 ⟨⟨Or.inl rfl, by rw [ym_344]; rfl⟩, ⟨rfl, ys_b32 _⟩, trivial⟩ (fun q hq => by cases hq) (zs := [(false, 344), (false, y1.toInt)]) ⟨⟨rfl, rfl, rfl⟩, ⟨rfl, rfl, rfl⟩, trivial⟩ R1 (fun r G2 s2 q2 T2 I2 F2 hc hz2 R2 M2 ez2 => ?_)
  obtain ⟨z2, rfl⟩ := yl_int (T := (0, (-2), 2147483647)) rfl hc
  have e0 := eq1 _ _ ez2
  obtain ⟨f2, ez2⟩ := ez2
  obtain ⟨n, m, U, gJ, bJ, hfJ, fJ⟩ := zRZ_J hr h6.2 h7
  replace hr := zRZ_W hr h6.2 (zfz_ok T1 zfz_271 (zJ_224 gJ bJ ez2))
  simp only [xy_0_477, xy_0_478]
  exact hn G2 ⟨T2, I2, ⟨_, M2, zRZ_mo (by omega) hr⟩, yf_same F2 (j := 0) (fun i => rfl) g1⟩
theorem zfz_272 : zfz yi_272.2.2.2.2 = true := by decide +kernel
theorem yL_21 (hd : 120 ≤ d) (hL : yLw G xs bb) (hbb : bb ≤ 513) (l0 : xm_get lv 0 = some (.ref 0)) (l1 : xm_get lv 1 = some (.ref 7)) (l2 : xm_get lv 2 = some (.ref 344)) (l3 : xm_get lv 3 = some (.int i)) (p1 : 0 ≤ (i + 1).toInt) (e1 : xs[(i + 1).toInt.toNat]? = some y1) (p2 : 0 ≤ (i + 2).toInt) (e2 : xs[(i + 2).toInt.toNat]? = some y2) (hk : kc ≤ 600000) (hs : ks ≤ 7302250) (hn : ∀ G' : xm_H, yLw G' xs (bb + 1) → xm_run (xm_exec d) xm_c0 4 600000 7302250 (some .boolean) Q f (xm_drop 682 xm_c0) lv [] G' E kc ks = true) : xm_run (xm_exec d) xm_c0 4 600000 7302250 (some .boolean) Q (f + 27) (xm_drop 479 xm_c0) lv [] G E kc ks = true := by
  obtain ⟨a, b, ⟨s, hR, hr⟩, g⟩ := hL
  simp only [xy_0_479 l1, xy_0_480 l0, xy_0_481 l3, xz_0_482, xy_0_483, xz_0_484, xy_0_485 l0, xy_0_486 l3, xz_0_487, xy_0_488, xz_0_489, xy_0_490, xk_scr g p1 e1, xk_scr g p2 e2]
  rw [yl_call2 (a := 109) rfl (yl_r7 a _) (Nat.le_of_ble_eq_true rfl) hk hs]
  have h6 := zn_cnt1 a hR
  refine zU_mx (I := yi_154) (yc_154 yJ_ok d (by omega)) rfl rfl a b ⟨⟨Or.inl rfl, rfl⟩, ⟨rfl, ys_b32 _⟩, ⟨rfl, ys_b32 _⟩, trivial⟩ (fun q hq => by cases hq) (zs := [(false, 7), (false, y1.toInt), (false, y2.toInt)]) ⟨⟨rfl, rfl, rfl⟩, ⟨rfl, rfl, rfl⟩, ⟨rfl, rfl, rfl⟩, trivial⟩ hR (fun r G1 s1 q1 T1 I1 F1 hc hz1 R1 M1 ez1 => ?_)
  obtain ⟨z1, rfl⟩ := yl_int (T := yr_top) rfl hc
  have eq1 : ∀ (u2 : Int) (w2 : zS), zE xm_c225 [344, y1.toInt, y2.toInt, 0, 0, 0, 0] s1 u2 w2 → q1 = u2 := fun u2 w2 e2 => zB_block hr h6.2 (by omega) ez1 e2
  obtain ⟨f1, ez1⟩ := ez1
  replace hr := zRZ_Q hr h6.2 (zQ_109 ez1)
  replace h6 := zn_cnt1 T1 R1
  have h7 := zn_seed T1 R1
  have g1 := yf_same F1 (j := 0) (fun i => rfl) g
  simp only [xy_0_491, xy_0_492 l2, xy_0_493 l0, xy_0_494 l3, xz_0_495, xy_0_496, xz_0_497, xy_0_498 l0, xy_0_499 l3, xz_0_500, xy_0_501, xz_0_502, xy_0_503, xk_scr g1 p1 e1, xk_scr g1 p2 e2]
  rw [yl_call2 (a := 225) rfl (yl_r344 T1 _) (Nat.le_of_ble_eq_true rfl) hk hs]
  refine zU_mx (I := yi_272) (yd_272 d (by omega)) rfl rfl T1 I1 ⟨⟨Or.inl rfl, by rw [ym_344]; rfl⟩, ⟨rfl, ys_b32 _⟩, ⟨rfl, ys_b32 _⟩, trivial⟩ (fun q hq => by cases hq) (zs := [(false, 344), (false, y1.toInt), (false, y2.toInt)]) ⟨⟨rfl, rfl, rfl⟩, ⟨rfl, rfl, rfl⟩, ⟨rfl, rfl, rfl⟩, trivial⟩ R1 (fun r G2 s2 q2 T2 I2 F2 hc hz2 R2 M2 ez2 => ?_)
  obtain ⟨z2, rfl⟩ := yl_int (T := yr_top) rfl hc
  have e0 := eq1 _ _ ez2
  obtain ⟨f2, ez2⟩ := ez2
  obtain ⟨n, m, U, gJ, bJ, hfJ, fJ⟩ := zRZ_J hr h6.2 h7
  replace hr := zRZ_W hr h6.2 (zfz_ok T1 zfz_272 (zJ_225 gJ bJ ez2))
  simp only [xy_0_504, xy_0_505]
  exact hn G2 ⟨T2, I2, ⟨_, M2, zRZ_mo (by omega) hr⟩, yf_same F2 (j := 0) (fun i => rfl) g1⟩
theorem zfz_273 : zfz yi_273.2.2.2.2 = true := by decide +kernel
theorem yL_22 (hd : 120 ≤ d) (hL : yLw G xs bb) (hbb : bb ≤ 513) (l0 : xm_get lv 0 = some (.ref 0)) (l1 : xm_get lv 1 = some (.ref 7)) (l2 : xm_get lv 2 = some (.ref 344)) (l3 : xm_get lv 3 = some (.int i)) (p1 : 0 ≤ (i + 1).toInt) (e1 : xs[(i + 1).toInt.toNat]? = some y1) (p2 : 0 ≤ (i + 2).toInt) (e2 : xs[(i + 2).toInt.toNat]? = some y2) (p3 : 0 ≤ (i + 3).toInt) (e3 : xs[(i + 3).toInt.toNat]? = some y3) (hk : kc ≤ 600000) (hs : ks ≤ 7302250) (hn : ∀ G' : xm_H, yLw G' xs (bb + 1) → xm_run (xm_exec d) xm_c0 4 600000 7302250 (some .boolean) Q f (xm_drop 682 xm_c0) lv [] G' E kc ks = true) : xm_run (xm_exec d) xm_c0 4 600000 7302250 (some .boolean) Q (f + 37) (xm_drop 506 xm_c0) lv [] G E kc ks = true := by
  obtain ⟨a, b, ⟨s, hR, hr⟩, g⟩ := hL
  simp only [xy_0_506 l1, xy_0_507 l0, xy_0_508 l3, xz_0_509, xy_0_510, xz_0_511, xy_0_512 l0, xy_0_513 l3, xz_0_514, xy_0_515, xz_0_516, xy_0_517 l0, xy_0_518 l3, xz_0_519, xy_0_520, xz_0_521, xy_0_522, xk_scr g p1 e1, xk_scr g p2 e2, xk_scr g p3 e3]
  rw [yl_call3 (a := 110) rfl (yl_r7 a _) (Nat.le_of_ble_eq_true rfl) hk hs]
  have h6 := zn_cnt1 a hR
  refine zU_mx (I := yi_155) (yc_155 yJ_ok d (by omega)) rfl rfl a b ⟨⟨Or.inl rfl, rfl⟩, ⟨rfl, ys_b32 _⟩, ⟨rfl, ys_b32 _⟩, ⟨rfl, ys_b32 _⟩, trivial⟩ (fun q hq => by cases hq) (zs := [(false, 7), (false, y1.toInt), (false, y2.toInt), (false, y3.toInt)]) ⟨⟨rfl, rfl, rfl⟩, ⟨rfl, rfl, rfl⟩, ⟨rfl, rfl, rfl⟩, ⟨rfl, rfl, rfl⟩, trivial⟩ hR (fun r G1 s1 q1 T1 I1 F1 hc hz1 R1 M1 ez1 => ?_)
  obtain ⟨z1, rfl⟩ := yl_int (T := (0, (-2147483648), 127)) rfl hc
  have eq1 : ∀ (u2 : Int) (w2 : zS), zE xm_c226 [344, y1.toInt, y2.toInt, y3.toInt, 0, 0, 0, 0] s1 u2 w2 → q1 = u2 := fun u2 w2 e2 => zB_silence hr h6.2 (by omega) ez1 e2
  obtain ⟨f1, ez1⟩ := ez1
  replace hr := zRZ_Q hr h6.2 (zQ_110 ez1)
  replace h6 := zn_cnt1 T1 R1
  have h7 := zn_seed T1 R1
  have g1 := yf_same F1 (j := 0) (fun i => rfl) g
  simp only [xy_0_523, xy_0_524 l2, xy_0_525 l0, xy_0_526 l3, xz_0_527, xy_0_528, xz_0_529, xy_0_530 l0, xy_0_531 l3, xz_0_532, xy_0_533, xz_0_534, xy_0_535 l0, xy_0_536 l3, xz_0_537, xy_0_538, xz_0_539, xy_0_540, xk_scr g1 p1 e1, xk_scr g1 p2 e2, xk_scr g1 p3 e3]
  rw [yl_call3 (a := 226) rfl (yl_r344 T1 _) (Nat.le_of_ble_eq_true rfl) hk hs]
  refine zU_mx (I := yi_273) (yd_273 d (by omega)) rfl rfl T1 I1 ⟨⟨Or.inl rfl, by rw [ym_344]; rfl⟩, ⟨rfl, ys_b32 _⟩, ⟨rfl, ys_b32 _⟩, ⟨rfl, ys_b32 _⟩, trivial⟩ (fun q hq => by cases hq) (zs := [(false, 344), (false, y1.toInt), (false, y2.toInt), (false, y3.toInt)]) ⟨⟨rfl, rfl, rfl⟩, ⟨rfl, rfl, rfl⟩, ⟨rfl, rfl, rfl⟩, ⟨rfl, rfl, rfl⟩, trivial⟩ R1 (fun r G2 s2 q2 T2 I2 F2 hc hz2 R2 M2 ez2 => ?_)
  obtain ⟨z2, rfl⟩ := yl_int (T := yr_top) rfl hc
  have e0 := eq1 _ _ ez2
  obtain ⟨f2, ez2⟩ := ez2
  obtain ⟨n, m, U, gJ, bJ, hfJ, fJ⟩ := zRZ_J hr h6.2 h7
  replace hr := zRZ_W hr h6.2 (zfz_ok T1 zfz_273 (zJ_226 gJ bJ ez2))
  simp only [xy_0_541, xy_0_542]
  exact hn G2 ⟨T2, I2, ⟨_, M2, zRZ_mo (by omega) hr⟩, yf_same F2 (j := 0) (fun i => rfl) g1⟩
theorem yL_23 (hd : 120 ≤ d) (hL : yLw G xs bb) (hbb : bb ≤ 513) (l0 : xm_get lv 0 = some (.ref 0)) (l1 : xm_get lv 1 = some (.ref 7)) (l2 : xm_get lv 2 = some (.ref 344)) (l3 : xm_get lv 3 = some (.int i)) (p1 : 0 ≤ (i + 1).toInt) (e1 : xs[(i + 1).toInt.toNat]? = some y1) (hk : kc ≤ 600000) (hs : ks ≤ 7302250) (hn : ∀ G' : xm_H, yLw G' xs (bb + 1) → xm_run (xm_exec d) xm_c0 4 600000 7302250 (some .boolean) Q f (xm_drop 682 xm_c0) lv [] G' E kc ks = true) : xm_run (xm_exec d) xm_c0 4 600000 7302250 (some .boolean) Q (f + 17) (xm_drop 543 xm_c0) lv [] G E kc ks = true := by
  obtain ⟨a, b, ⟨s, hR, hr⟩, g⟩ := hL
  simp only [xy_0_543 l1, xy_0_544 l0, xy_0_545 l3, xz_0_546, xy_0_547, xz_0_548, xy_0_549, xk_scr g p1 e1]
  rw [yl_call1 (a := 111) rfl (yl_r7 a _) (Nat.le_of_ble_eq_true rfl) hk hs]
  refine zU_mx (I := yi_156) (yc_156 yJ_ok d (by omega)) rfl rfl a b ⟨⟨Or.inl rfl, rfl⟩, ⟨rfl, ys_b32 _⟩, trivial⟩ (fun q hq => by cases hq) (zs := [(false, 7), (false, y1.toInt)]) ⟨⟨rfl, rfl, rfl⟩, ⟨rfl, rfl, rfl⟩, trivial⟩ hR (fun r G1 s1 q1 T1 I1 F1 hc hz1 R1 M1 ez1 => ?_)
  obtain ⟨z1, rfl⟩ := yl_int (T := yr_top) rfl hc
  obtain ⟨f1, ez1⟩ := ez1
  have es1 : s1 = s := zJ_111 ez1
  subst es1
  have g1 := yf_same F1 (j := 0) (fun i => rfl) g
  simp only [xy_0_550, xy_0_551 l2, xy_0_552 l0, xy_0_553 l3, xz_0_554, xy_0_555, xz_0_556, xy_0_557, xk_scr g1 p1 e1]
  rw [yl_call1 (a := 228) rfl (yl_r344 T1 _) (Nat.le_of_ble_eq_true rfl) hk hs]
  refine zU_mx (I := yi_275) (yd_275 d (by omega)) rfl rfl T1 I1 ⟨⟨Or.inl rfl, by rw [ym_344]; rfl⟩, ⟨rfl, ys_b32 _⟩, trivial⟩ (fun q hq => by cases hq) (zs := [(false, 344), (false, y1.toInt)]) ⟨⟨rfl, rfl, rfl⟩, ⟨rfl, rfl, rfl⟩, trivial⟩ R1 (fun r G2 s2 q2 T2 I2 F2 hc hz2 R2 M2 ez2 => ?_)
  obtain ⟨z2, rfl⟩ := yl_int (T := yr_top) rfl hc
  obtain ⟨f2, ez2⟩ := ez2
  have es2 : s2 = s1 := zJ_228 ez2
  subst es2
  simp only [xy_0_558, xy_0_559]
  exact hn G2 ⟨T2, I2, ⟨_, R2, zRZ_mo (by omega) hr⟩, yf_same F2 (j := 0) (fun i => rfl) g1⟩
theorem zfz_277 : zfz yi_277.2.2.2.2 = true := by decide +kernel
theorem yL_24 (hd : 120 ≤ d) (hL : yLw G xs bb) (hbb : bb ≤ 513) (l0 : xm_get lv 0 = some (.ref 0)) (l1 : xm_get lv 1 = some (.ref 7)) (l2 : xm_get lv 2 = some (.ref 344)) (l3 : xm_get lv 3 = some (.int i)) (p1 : 0 ≤ (i + 1).toInt) (e1 : xs[(i + 1).toInt.toNat]? = some y1) (hk : kc ≤ 600000) (hs : ks ≤ 7302250) (hn : ∀ G' : xm_H, yLw G' xs (bb + 1) → xm_run (xm_exec d) xm_c0 4 600000 7302250 (some .boolean) Q f (xm_drop 682 xm_c0) lv [] G' E kc ks = true) : xm_run (xm_exec d) xm_c0 4 600000 7302250 (some .boolean) Q (f + 17) (xm_drop 560 xm_c0) lv [] G E kc ks = true := by
  obtain ⟨a, b, ⟨s, hR, hr⟩, g⟩ := hL
  simp only [xy_0_560 l1, xy_0_561 l0, xy_0_562 l3, xz_0_563, xy_0_564, xz_0_565, xy_0_566, xk_scr g p1 e1]
  rw [yl_call1 (a := 112) rfl (yl_r7 a _) (Nat.le_of_ble_eq_true rfl) hk hs]
  have h6 := zn_cnt1 a hR
  refine zU_mx (I := yi_157) (yc_157 yJ_ok d (by omega)) rfl rfl a b ⟨⟨Or.inl rfl, rfl⟩, ⟨rfl, ys_b32 _⟩, trivial⟩ (fun q hq => by cases hq) (zs := [(false, 7), (false, y1.toInt)]) ⟨⟨rfl, rfl, rfl⟩, ⟨rfl, rfl, rfl⟩, trivial⟩ hR (fun r G1 s1 q1 T1 I1 F1 hc hz1 R1 M1 ez1 => ?_)
  obtain ⟨z1, rfl⟩ := yl_int (T := (0, (-2147483647), 2147483647)) rfl hc
  have eq1 : ∀ (u2 : Int) (w2 : zS), zE xm_c230 [344, y1.toInt, 0, 0] s1 u2 w2 → q1 = u2 := fun u2 w2 e2 => zB_cost hr h6.2 (by omega) ez1 e2
  obtain ⟨f1, ez1⟩ := ez1
  replace hr := zRZ_Q hr h6.2 (zQ_112 ez1)
  replace h6 := zn_cnt1 T1 R1
  have h7 := zn_seed T1 R1
  have g1 := yf_same F1 (j := 0) (fun i => rfl) g
  simp only [xy_0_567, xy_0_568 l2, xy_0_569 l0, xy_0_570 l3, xz_0_571, xy_0_572, xz_0_573, xy_0_574, xk_scr g1 p1 e1]
  rw [yl_call1 (a := 230) rfl (yl_r344 T1 _) (Nat.le_of_ble_eq_true rfl) hk hs]
  refine zU_mx (I := yi_277) (yd_277 d (by omega)) rfl rfl T1 I1 ⟨⟨Or.inl rfl, by rw [ym_344]; rfl⟩, ⟨rfl, ys_b32 _⟩, trivial⟩ (fun q hq => by cases hq) (zs := [(false, 344), (false, y1.toInt)]) ⟨⟨rfl, rfl, rfl⟩, ⟨rfl, rfl, rfl⟩, trivial⟩ R1 (fun r G2 s2 q2 T2 I2 F2 hc hz2 R2 M2 ez2 => ?_)
  obtain ⟨z2, rfl⟩ := yl_int (T := (0, (-2147483647), 2147483647)) rfl hc
  have e0 := eq1 _ _ ez2
  obtain ⟨f2, ez2⟩ := ez2
  obtain ⟨n, m, U, gJ, bJ, hfJ, fJ⟩ := zRZ_J hr h6.2 h7
  replace hr := zRZ_W hr h6.2 (zfz_ok T1 zfz_277 (zJ_230 gJ bJ ez2))
  simp only [xy_0_575, xy_0_576]
  exact hn G2 ⟨T2, I2, ⟨_, M2, zRZ_mo (by omega) hr⟩, yf_same F2 (j := 0) (fun i => rfl) g1⟩
theorem yL_25 (hd : 120 ≤ d) (hL : yLw G xs bb) (hbb : bb ≤ 513) (l0 : xm_get lv 0 = some (.ref 0)) (l1 : xm_get lv 1 = some (.ref 7)) (l2 : xm_get lv 2 = some (.ref 344)) (l3 : xm_get lv 3 = some (.int i)) (p1 : 0 ≤ (i + 1).toInt) (e1 : xs[(i + 1).toInt.toNat]? = some y1) (hk : kc ≤ 600000) (hs : ks ≤ 7302250) (hn : ∀ G' : xm_H, yLw G' xs (bb + 1) → xm_run (xm_exec d) xm_c0 4 600000 7302250 (some .boolean) Q f (xm_drop 682 xm_c0) lv [] G' E kc ks = true) : xm_run (xm_exec d) xm_c0 4 600000 7302250 (some .boolean) Q (f + 17) (xm_drop 577 xm_c0) lv [] G E kc ks = true := by
  obtain ⟨a, b, ⟨s, hR, hr⟩, g⟩ := hL
  simp only [xy_0_577 l1, xy_0_578 l0, xy_0_579 l3, xz_0_580, xy_0_581, xz_0_582, xy_0_583, xk_scr g p1 e1]
  rw [yl_call1 (a := 113) rfl (yl_r7 a _) (Nat.le_of_ble_eq_true rfl) hk hs]
  have h6 := zn_cnt1 a hR
  obtain ⟨r0, s1, s2, z1, z2, hz⟩ := zA_seed (x := y1.toInt) hr h6.2
  refine zE_use (m := 0) (I := yi_158) (yc_158 yJ_ok d (by omega)) rfl a b ⟨⟨Or.inl rfl, rfl⟩, ⟨rfl, ys_b32 _⟩, trivial⟩ (fun q hq => by cases hq) (zs := [(false, 7), (false, y1.toInt)]) ⟨⟨rfl, rfl, rfl⟩, ⟨rfl, rfl, rfl⟩, trivial⟩ hR z1 (fun r G1 T1 I1 F1 hc hz1 R1 => ?_)
  obtain ⟨z1, rfl⟩ := yl_int (T := (0, (-1), 2147483647)) rfl hc
  have g1 := yf_same F1 (j := 0) (fun i => rfl) g
  simp only [xy_0_584, xy_0_585 l2, xy_0_586 l0, xy_0_587 l3, xz_0_588, xy_0_589, xz_0_590, xy_0_591, xk_scr g1 p1 e1]
  rw [yl_call1 (a := 231) rfl (yl_r344 T1 _) (Nat.le_of_ble_eq_true rfl) hk hs]
  refine zE_use (m := 0) (I := yi_278) (yd_278 d (by omega)) rfl T1 I1 ⟨⟨Or.inl rfl, by rw [ym_344]; rfl⟩, ⟨rfl, ys_b32 _⟩, trivial⟩ (fun q hq => by cases hq) (zs := [(false, 344), (false, y1.toInt)]) ⟨⟨rfl, rfl, rfl⟩, ⟨rfl, rfl, rfl⟩, trivial⟩ R1 z2 (fun r G2 T2 I2 F2 hc hz2 R2 => ?_)
  obtain ⟨z2, rfl⟩ := yl_int (T := (0, (-1), 2147483647)) rfl hc
  simp only [xy_0_592, xy_0_593]
  exact hn G2 ⟨T2, I2, ⟨_, R2, zRZ_mo (by omega) hz⟩, yf_same F2 (j := 0) (fun i => rfl) g1⟩
theorem zfz_282 : zfz yi_282.2.2.2.2 = true := by decide +kernel
theorem yL_26 (hd : 120 ≤ d) (hL : yLw G xs bb) (hbb : bb ≤ 513) (l0 : xm_get lv 0 = some (.ref 0)) (l1 : xm_get lv 1 = some (.ref 7)) (l2 : xm_get lv 2 = some (.ref 344)) (l3 : xm_get lv 3 = some (.int i)) (p1 : 0 ≤ (i + 1).toInt) (e1 : xs[(i + 1).toInt.toNat]? = some y1) (p2 : 0 ≤ (i + 2).toInt) (e2 : xs[(i + 2).toInt.toNat]? = some y2) (p3 : 0 ≤ (i + 3).toInt) (e3 : xs[(i + 3).toInt.toNat]? = some y3) (hk : kc ≤ 600000) (hs : ks ≤ 7302250) (hn : ∀ G' : xm_H, yLw G' xs (bb + 1) → xm_run (xm_exec d) xm_c0 4 600000 7302250 (some .boolean) Q f (xm_drop 682 xm_c0) lv [] G' E kc ks = true) : xm_run (xm_exec d) xm_c0 4 600000 7302250 (some .boolean) Q (f + 37) (xm_drop 594 xm_c0) lv [] G E kc ks = true := by
  obtain ⟨a, b, ⟨s, hR, hr⟩, g⟩ := hL
  simp only [xy_0_594 l1, xy_0_595 l0, xy_0_596 l3, xz_0_597, xy_0_598, xz_0_599, xy_0_600 l0, xy_0_601 l3, xz_0_602, xy_0_603, xz_0_604, xy_0_605 l0, xy_0_606 l3, xz_0_607, xy_0_608, xz_0_609, xy_0_610, xk_scr g p1 e1, xk_scr g p2 e2, xk_scr g p3 e3]
  rw [yl_call3 (a := 114) rfl (yl_r7 a _) (Nat.le_of_ble_eq_true rfl) hk hs]
  have h6 := zn_cnt1 a hR
  refine zU_mx (I := yi_159) (yc_159 yJ_ok d (by omega)) rfl rfl a b ⟨⟨Or.inl rfl, rfl⟩, ⟨rfl, ys_b32 _⟩, ⟨rfl, ys_b32 _⟩, ⟨rfl, ys_b32 _⟩, trivial⟩ (fun q hq => by cases hq) (zs := [(false, 7), (false, y1.toInt), (false, y2.toInt), (false, y3.toInt)]) ⟨⟨rfl, rfl, rfl⟩, ⟨rfl, rfl, rfl⟩, ⟨rfl, rfl, rfl⟩, ⟨rfl, rfl, rfl⟩, trivial⟩ hR (fun r G1 s1 q1 T1 I1 F1 hc hz1 R1 M1 ez1 => ?_)
  obtain ⟨z1, rfl⟩ := yl_int (T := yr_top) rfl hc
  obtain ⟨f1, ez1⟩ := ez1
  replace hr := zRZ_Q hr h6.2 (zQ_114 ez1)
  replace h6 := zn_cnt1 T1 R1
  have h7 := zn_seed T1 R1
  have g1 := yf_same F1 (j := 0) (fun i => rfl) g
  simp only [xy_0_611, xy_0_612 l2, xy_0_613 l0, xy_0_614 l3, xz_0_615, xy_0_616, xz_0_617, xy_0_618 l0, xy_0_619 l3, xz_0_620, xy_0_621, xz_0_622, xy_0_623 l0, xy_0_624 l3, xz_0_625, xy_0_626, xz_0_627, xy_0_628, xk_scr g1 p1 e1, xk_scr g1 p2 e2, xk_scr g1 p3 e3]
  rw [yl_call3 (a := 234) rfl (yl_r344 T1 _) (Nat.le_of_ble_eq_true rfl) hk hs]
  refine zU_mx (I := yi_282) (yd_282 d (by omega)) rfl rfl T1 I1 ⟨⟨Or.inl rfl, by rw [ym_344]; rfl⟩, ⟨rfl, ys_b32 _⟩, ⟨rfl, ys_b32 _⟩, ⟨rfl, ys_b32 _⟩, trivial⟩ (fun q hq => by cases hq) (zs := [(false, 344), (false, y1.toInt), (false, y2.toInt), (false, y3.toInt)]) ⟨⟨rfl, rfl, rfl⟩, ⟨rfl, rfl, rfl⟩, ⟨rfl, rfl, rfl⟩, ⟨rfl, rfl, rfl⟩, trivial⟩ R1 (fun r G2 s2 q2 T2 I2 F2 hc hz2 R2 M2 ez2 => ?_)
  obtain ⟨z2, rfl⟩ := yl_int (T := yr_top) rfl hc
  obtain ⟨f2, ez2⟩ := ez2
  obtain ⟨n, m, U, gJ, bJ, hfJ, fJ⟩ := zRZ_J hr h6.2 h7
  replace hr := zRZ_W hr h6.2 (zfz_ok T1 zfz_282 (zJ_234 gJ hfJ fJ ez2))
  simp only [xy_0_629, xy_0_630]
  exact hn G2 ⟨T2, I2, ⟨_, M2, zRZ_mo (by omega) hr⟩, yf_same F2 (j := 0) (fun i => rfl) g1⟩
theorem yL_27 (hd : 120 ≤ d) (hL : yLw G xs bb) (hbb : bb ≤ 513) (l0 : xm_get lv 0 = some (.ref 0)) (l1 : xm_get lv 1 = some (.ref 7)) (l2 : xm_get lv 2 = some (.ref 344)) (l3 : xm_get lv 3 = some (.int i)) (p1 : 0 ≤ (i + 1).toInt) (e1 : xs[(i + 1).toInt.toNat]? = some y1) (hk : kc ≤ 600000) (hs : ks ≤ 7302250) (hn : ∀ G' : xm_H, yLw G' xs (bb + 1) → xm_run (xm_exec d) xm_c0 4 600000 7302250 (some .boolean) Q f (xm_drop 682 xm_c0) lv [] G' E kc ks = true) : xm_run (xm_exec d) xm_c0 4 600000 7302250 (some .boolean) Q (f + 17) (xm_drop 631 xm_c0) lv [] G E kc ks = true := by
  obtain ⟨a, b, ⟨s, hR, hr⟩, g⟩ := hL
  simp only [xy_0_631 l1, xy_0_632 l0, xy_0_633 l3, xz_0_634, xy_0_635, xz_0_636, xy_0_637, xk_scr g p1 e1]
  rw [yl_call1 (a := 115) rfl (yl_r7 a _) (Nat.le_of_ble_eq_true rfl) hk hs]
  refine zU_mx (I := yi_160) (yc_160 yJ_ok d (by omega)) rfl rfl a b ⟨⟨Or.inl rfl, rfl⟩, ⟨rfl, ys_b32 _⟩, trivial⟩ (fun q hq => by cases hq) (zs := [(false, 7), (false, y1.toInt)]) ⟨⟨rfl, rfl, rfl⟩, ⟨rfl, rfl, rfl⟩, trivial⟩ hR (fun r G1 s1 q1 T1 I1 F1 hc hz1 R1 M1 ez1 => ?_)
  obtain ⟨z1, rfl⟩ := yl_int (T := yr_top) rfl hc
  obtain ⟨f1, ez1⟩ := ez1
  have es1 : s1 = s := zJ_115 ez1
  subst es1
  have g1 := yf_same F1 (j := 0) (fun i => rfl) g
  simp only [xy_0_638, xy_0_639 l2, xy_0_640 l0, xy_0_641 l3, xz_0_642, xy_0_643, xz_0_644, xy_0_645, xk_scr g1 p1 e1]
  rw [yl_call1 (a := 235) rfl (yl_r344 T1 _) (Nat.le_of_ble_eq_true rfl) hk hs]
  refine zU_mx (I := yi_283) (yd_283 d (by omega)) rfl rfl T1 I1 ⟨⟨Or.inl rfl, by rw [ym_344]; rfl⟩, ⟨rfl, ys_b32 _⟩, trivial⟩ (fun q hq => by cases hq) (zs := [(false, 344), (false, y1.toInt)]) ⟨⟨rfl, rfl, rfl⟩, ⟨rfl, rfl, rfl⟩, trivial⟩ R1 (fun r G2 s2 q2 T2 I2 F2 hc hz2 R2 M2 ez2 => ?_)
  obtain ⟨z2, rfl⟩ := yl_int (T := yr_top) rfl hc
  obtain ⟨f2, ez2⟩ := ez2
  have es2 : s2 = s1 := zJ_235 ez2
  subst es2
  simp only [xy_0_646, xy_0_647]
  exact hn G2 ⟨T2, I2, ⟨_, R2, zRZ_mo (by omega) hr⟩, yf_same F2 (j := 0) (fun i => rfl) g1⟩
theorem yL_28 (hd : 120 ≤ d) (hL : yLw G xs bb) (hbb : bb ≤ 513) (l0 : xm_get lv 0 = some (.ref 0)) (l1 : xm_get lv 1 = some (.ref 7)) (l2 : xm_get lv 2 = some (.ref 344)) (l3 : xm_get lv 3 = some (.int i)) (p1 : 0 ≤ (i + 1).toInt) (e1 : xs[(i + 1).toInt.toNat]? = some y1) (hk : kc ≤ 600000) (hs : ks ≤ 7302250) (hn : ∀ G' : xm_H, yLw G' xs (bb + 1) → xm_run (xm_exec d) xm_c0 4 600000 7302250 (some .boolean) Q f (xm_drop 682 xm_c0) lv [] G' E kc ks = true) : xm_run (xm_exec d) xm_c0 4 600000 7302250 (some .boolean) Q (f + 17) (xm_drop 648 xm_c0) lv [] G E kc ks = true := by
  obtain ⟨a, b, ⟨s, hR, hr⟩, g⟩ := hL
  simp only [xy_0_648 l1, xy_0_649 l0, xy_0_650 l3, xz_0_651, xy_0_652, xz_0_653, xy_0_654, xk_scr g p1 e1]
  rw [yl_call1 (a := 116) rfl (yl_r7 a _) (Nat.le_of_ble_eq_true rfl) hk hs]
  have h6 := zn_cnt1 a hR
  obtain ⟨r0, s1, s2, z1, z2, hz⟩ := zA_image (x := y1.toInt) hr h6.2
  refine zE_use (m := 0) (I := yi_161) (yc_161 yJ_ok d (by omega)) rfl a b ⟨⟨Or.inl rfl, rfl⟩, ⟨rfl, ys_b32 _⟩, trivial⟩ (fun q hq => by cases hq) (zs := [(false, 7), (false, y1.toInt)]) ⟨⟨rfl, rfl, rfl⟩, ⟨rfl, rfl, rfl⟩, trivial⟩ hR z1 (fun r G1 T1 I1 F1 hc hz1 R1 => ?_)
  obtain ⟨z1, rfl⟩ := yl_int (T := yr_top) rfl hc
  have g1 := yf_same F1 (j := 0) (fun i => rfl) g
  simp only [xy_0_655, xy_0_656 l2, xy_0_657 l0, xy_0_658 l3, xz_0_659, xy_0_660, xz_0_661, xy_0_662, xk_scr g1 p1 e1]
  rw [yl_call1 (a := 236) rfl (yl_r344 T1 _) (Nat.le_of_ble_eq_true rfl) hk hs]
  refine zE_use (m := 0) (I := yi_287) (yd_287 d (by omega)) rfl T1 I1 ⟨⟨Or.inl rfl, by rw [ym_344]; rfl⟩, ⟨rfl, ys_b32 _⟩, trivial⟩ (fun q hq => by cases hq) (zs := [(false, 344), (false, y1.toInt)]) ⟨⟨rfl, rfl, rfl⟩, ⟨rfl, rfl, rfl⟩, trivial⟩ R1 z2 (fun r G2 T2 I2 F2 hc hz2 R2 => ?_)
  obtain ⟨z2, rfl⟩ := yl_int (T := yr_top) rfl hc
  simp only [xy_0_663, xy_0_664]
  exact hn G2 ⟨T2, I2, ⟨_, R2, zRZ_mo (by omega) hz⟩, yf_same F2 (j := 0) (fun i => rfl) g1⟩
theorem yL_29 (hd : 120 ≤ d) (hL : yLw G xs bb) (hbb : bb ≤ 513) (l0 : xm_get lv 0 = some (.ref 0)) (l1 : xm_get lv 1 = some (.ref 7)) (l2 : xm_get lv 2 = some (.ref 344)) (l3 : xm_get lv 3 = some (.int i)) (p1 : 0 ≤ (i + 1).toInt) (e1 : xs[(i + 1).toInt.toNat]? = some y1) (hk : kc ≤ 600000) (hs : ks ≤ 7302250) (hn : ∀ G' : xm_H, yLw G' xs (bb + 1) → xm_run (xm_exec d) xm_c0 4 600000 7302250 (some .boolean) Q f (xm_drop 682 xm_c0) lv [] G' E kc ks = true) : xm_run (xm_exec d) xm_c0 4 600000 7302250 (some .boolean) Q (f + 17) (xm_drop 665 xm_c0) lv [] G E kc ks = true := by
  obtain ⟨a, b, ⟨s, hR, hr⟩, g⟩ := hL
  simp only [xy_0_665 l1, xy_0_666 l0, xy_0_667 l3, xz_0_668, xy_0_669, xz_0_670, xy_0_671, xk_scr g p1 e1]
  rw [yl_call1 (a := 117) rfl (yl_r7 a _) (Nat.le_of_ble_eq_true rfl) hk hs]
  have h6 := zn_cnt1 a hR
  obtain ⟨r0, s1, s2, z1, z2, hz⟩ := zA_back (x := y1.toInt) hr h6.2
  refine zE_use (m := 0) (I := yi_162) (yc_162 yJ_ok d (by omega)) rfl a b ⟨⟨Or.inl rfl, rfl⟩, ⟨rfl, ys_b32 _⟩, trivial⟩ (fun q hq => by cases hq) (zs := [(false, 7), (false, y1.toInt)]) ⟨⟨rfl, rfl, rfl⟩, ⟨rfl, rfl, rfl⟩, trivial⟩ hR z1 (fun r G1 T1 I1 F1 hc hz1 R1 => ?_)
  obtain ⟨z1, rfl⟩ := yl_int (T := yr_top) rfl hc
  have g1 := yf_same F1 (j := 0) (fun i => rfl) g
  simp only [xy_0_672, xy_0_673 l2, xy_0_674 l0, xy_0_675 l3, xz_0_676, xy_0_677, xz_0_678, xy_0_679, xk_scr g1 p1 e1]
  rw [yl_call1 (a := 237) rfl (yl_r344 T1 _) (Nat.le_of_ble_eq_true rfl) hk hs]
  refine zE_use (m := 0) (I := yi_288) (yd_288 d (by omega)) rfl T1 I1 ⟨⟨Or.inl rfl, by rw [ym_344]; rfl⟩, ⟨rfl, ys_b32 _⟩, trivial⟩ (fun q hq => by cases hq) (zs := [(false, 344), (false, y1.toInt)]) ⟨⟨rfl, rfl, rfl⟩, ⟨rfl, rfl, rfl⟩, trivial⟩ R1 z2 (fun r G2 T2 I2 F2 hc hz2 R2 => ?_)
  obtain ⟨z2, rfl⟩ := yl_int (T := yr_top) rfl hc
  simp only [xy_0_680, xy_0_681]
  exact hn G2 ⟨T2, I2, ⟨_, R2, zRZ_mo (by omega) hz⟩, yf_same F2 (j := 0) (fun i => rfl) g1⟩
end LW
