/-! what is held of the class's cells; Rule.emit; Rule.compute's two readings -/
/-- of an operation that is a word the number is 0 or more -/
def yk_cw (x : Int32) : Prop := x &&& 15 = 1 → 0 ≤ (x >>> (4 &&& 31)).toInt
def yi_CI (G : xm_H) : Prop := ∀ j, yr_of j = 70 → ∃ vs, xm_hget G j = some (100, vs) ∧ ∀ (i : Nat) (x : Int32), vs[i]? = some (.int x) → yk_cw x
/-- a cell that may not be written stays -/
theorem yf_same {md : yM} {G G' : xm_H} {j t : Nat} {vs : List Value} (hF : ys_Fr md G G') (hm : ∀ i, ym_mod md (yr_of j) i = false) (h : xm_hget G j = some (t, vs)) : xm_hget G' j = some (t, vs) := by
  obtain ⟨vs', g1, g2, g3⟩ := hF j t vs h
  have e : vs' = vs := by
    refine List.ext_getElem? (fun i => ?_)
    rcases Nat.lt_or_ge i vs.length with hi | hi
    · rw [List.getElem?_eq_getElem hi]
      rcases g3 i _ (List.getElem?_eq_getElem hi) with q | q
      · rw [hm] at q; cases q
      · exact q
    · rw [List.getElem?_eq_none hi, List.getElem?_eq_none (by omega)]
  rw [g1, e]
theorem yf_modn {mw : yM} {r i : Nat} (h : ∀ w ∈ mw, (Nat.beq w.1 r && (Nat.beq w.2 i || Nat.beq w.2 100000)) = false) : ym_mod mw r i = false := by
  induction mw with
  | nil => rfl
  | cons p mw ih =>
    show ((Nat.beq p.1 r && (Nat.beq p.2 i || Nat.beq p.2 100000)) || ym_mod mw r i) = false
    rw [h p List.mem_cons_self, ih (fun w hw => h w (List.mem_cons_of_mem _ hw))]
    rfl
theorem yf_free {mw : yM} (h : yk_free mw = true) {q : Nat × Nat} (hq : q ∈ yr_prot) : ym_mod mw q.1 q.2 = false ∧ (q.2 = 100000 → ∀ i, ym_mod mw q.1 i = false) := by
  have h1 := yl_all h q hq
  refine ⟨yf_modn (fun w hw => ?_), fun e i => yf_modn (fun w hw => ?_)⟩
  · have h2 := yl_all h1 w hw
    rw [Bool.not_eq_true'] at h2
    cases ha : Nat.beq w.1 q.1 with
    | false => rfl
    | true =>
      rw [ha] at h2
      have h2 : (Nat.beq w.2 q.2 || (Nat.beq w.2 100000 || Nat.beq q.2 100000)) = false := h2
      rw [Bool.or_eq_false_iff, Bool.or_eq_false_iff] at h2
      rw [h2.1, h2.2.1]
      rfl
  · have h2 := yl_all h1 w hw
    rw [Bool.not_eq_true', e] at h2
    cases ha : Nat.beq w.1 q.1 with
    | false => rfl
    | true =>
      rw [ha] at h2
      have h2 : (Nat.beq w.2 100000 || (Nat.beq w.2 100000 || true)) = false := h2
      rw [Bool.or_true, Bool.or_true] at h2
      cases h2
theorem yi_TI.fr {md : yM} {G G' : xm_H} (hT : ys_HT G') (hF : ys_Fr md G G') (m3 : ym_mod md 8 3 = false) (m4 : ym_mod md 8 4 = false) (h : yi_TI G) : yi_TI G' := by
  obtain ⟨b, len, kind, place, size, fault, h1, h2⟩ := h
  have e8 : yr_of 8 = 8 := rfl
  obtain ⟨-, b', len', kind', place', size', fault', k1, -⟩ := yt_of hT e8
  obtain ⟨vs', g1, g2, g3⟩ := hF 8 9 _ h1
  rw [show xm_hget G' 8 = _ from k1] at g1
  cases g1
  have p := g3 3 (.int place) rfl
  have z := g3 4 (.int size) rfl
  rw [e8] at p z
  rcases p with p | p
  · rw [m3] at p; cases p
  rcases z with z | z
  · rw [m4] at z; cases z
  cases p
  cases z
  exact ⟨_, _, _, _, _, _, k1, h2⟩
theorem yi_CI.fr {md : yM} {G G' : xm_H} (hF : ys_Fr md G G') (m : ∀ i, ym_mod md 70 i = false) (h : yi_CI G) : yi_CI G' := by
  intro j hj
  obtain ⟨vs, h1, h2⟩ := h j hj
  exact ⟨vs, yf_same hF (by rw [hj]; exact m) h1, h2⟩
/-- what is held, J: of the reference -/
def yi_Inv (J : xm_H → Prop) (G : xm_H) : Prop := yi_TI G ∧ yi_CI G ∧ J G
def yj_ok (J : xm_H → Prop) : Prop := (∀ md G G', (∀ q ∈ yr_prot, 93 ≤ q.1 → ym_mod md q.1 q.2 = false ∧ (q.2 = 100000 → ∀ i, ym_mod md q.1 i = false)) → ys_HT G' → ys_Fr md G G' → J G → J G')
theorem yi_Inv.free {J : xm_H → Prop} (hJ : yj_ok J) (mw : yM) (hw : yk_free mw = true) (G G' : xm_H) (hT : ys_HT G') (hF : ys_Fr mw G G') (h : yi_Inv J G) : yi_Inv J G' :=
  ⟨h.1.fr hT hF (yf_free hw (q := (8, 3)) (by decide)).1 (yf_free hw (q := (8, 4)) (by decide)).1, h.2.1.fr hF ((yf_free hw (q := (70, 100000)) (by decide)).2 rfl), hJ mw G G' (fun q hq _ => yf_free hw hq) hT hF h.2.2⟩
theorem yj_tape {J : xm_H → Prop} (hJ : yj_ok J) : yj_t (fun G => yi_CI G ∧ J G) := fun G G' hT hF h => ⟨h.1.fr hF (fun i => rfl), hJ _ G G' (fun q hq h93 => by
    have e : Nat.beq 8 q.1 = false := Bool.eq_false_iff.mpr (fun k => by have := Nat.eq_of_beq_eq_true k; omega)
    have key : ∀ i, ym_mod [(8, 2), (8, 3), (8, 4), (8, 5)] q.1 i = false := fun i => yf_modn (fun w hw => by
      have hw1 : w.1 = 8 := by
        simp only [List.mem_cons, List.not_mem_nil, or_false] at hw
        rcases hw with rfl | rfl | rfl | rfl <;> rfl
      rw [hw1, e]
      rfl)
    exact ⟨key _, fun _ i => key i⟩) hT hF h.2⟩
/-! the value that emit stores -/
theorem yk_cw0 {v : Int32} (h : 0 ≤ v.toInt) : yk_cw v := fun _ => (ys_shr h).1
theorem yk_cwm (x : Int32) : yk_cw (x * 16) := by
  intro h
  exfalso
  have e : (x * 16 &&& 15).toBitVec.toNat = (x.toBitVec.toNat * 16 % 4294967296) % 16 := by
    rw [Int32.toBitVec_and, BitVec.toNat_and, Int32.toBitVec_mul, BitVec.toNat_mul]
    show (x.toBitVec.toNat * 16 % 2 ^ 32) &&& (2 ^ 4 - 1) = _
    rw [Nat.and_two_pow_sub_one_eq_mod]
  rw [h] at e
  have e1 : (1 : Int32).toBitVec.toNat = 1 := rfl
  rw [e1] at e
  omega
theorem yq_69 : yr_row 69 = some (6, 5, 5, [(2, 70, 0), (2, 71, 0), (2, 72, 0), (0, 0, 240), (0, 0, 12)]) := rfl
theorem yq_70 : yr_row 70 = some (100, 240, 1, [yr_top]) := rfl
theorem yk_alen {G : xm_H} {j t : Nat} {vs st : List Value} {k : List Value → Bool} (hg : xm_hget G j = some (t, vs)) (h1 : 100 ≤ t) (h2 : t < 108) : xm_alen (.ref j :: st) G k = k (.int (Int32.ofNat vs.length) :: st) := by
  show (match xm_hget G j with
    | some (t, vs) => bif Nat.beq t 300 then k (.retAddr 6 :: st) else bif (Nat.ble 100 t && Nat.blt t 108) || Nat.beq t 301 then k (.int (Int32.ofNat (xm_len vs)) :: st) else false
    | none => false) = _
  rw [hg]
  dsimp only
  have e1 : Nat.beq t 300 = false := Bool.eq_false_iff.mpr (fun q => by have := Nat.eq_of_beq_eq_true q; omega)
  rw [e1, cond_false, Nat.ble_eq_true_of_le h1, show Nat.blt t 108 = true from Nat.ble_eq_true_of_le h2, Bool.and_self, Bool.true_or, cond_true, xl_len]
theorem yl_5 {vs : List Value} (h : vs.length = 5) : ∃ a b c d e, vs = [a, b, c, d, e] := by
  match vs, h with
  | [a, b, c, d, e], _ => exact ⟨a, b, c, d, e, rfl⟩
theorem yk_emit {J : xm_H → Prop} (hJ : yj_ok J) {call : xm_C} {Q : xm_Q} {G : xm_H} {Ec : xm_R} {j : Nat} {op arg : Int32} (hT : ys_HT G) (hI : yi_Inv J G) (hj : yr_of j = 69) (hv : yk_cw (arg * 16 + op)) (hQ : ∀ G', ys_HT G' → yi_Inv J G' → ys_Fr [(69, 3), (70, 100000)] G G' → Q none G' Ec = true) {f : Nat} : xm_run call xm_c60 3 0 0 none Q (f + 40) (xm_drop 0 xm_c60) [(0, .ref j), (1, .int op), (2, .int arg)] [] G Ec 0 0 = true := by
  have l0 : xm_get [(0, Value.ref j), (1, .int op), (2, .int arg)] 0 = some (.ref j) := rfl
  have l1 : xm_get [(0, Value.ref j), (1, .int op), (2, .int arg)] 1 = some (.int op) := rfl
  have l2 : xm_get [(0, Value.ref j), (1, .int op), (2, .int arg)] 2 = some (.int arg) := rfl
  obtain ⟨vs, g1, g2, g3⟩ := hT.at hj yq_69
  obtain ⟨a0, a1, a2, a3, a4, rfl⟩ := yl_5 g2
  obtain ⟨T0, t0, u0⟩ := g3 0 a0 rfl
  obtain ⟨T3, t3, u3⟩ := g3 3 a3 rfl
  cases t0
  cases t3
  obtain ⟨c, rfl, w0⟩ := yv_ref u0 rfl
  obtain ⟨size, rfl, w3⟩ := yv_int u3 rfl
  have hc : yr_of c = 70 := Int.ofNat.inj w0
  have g1 : xm_hget G j = some (6, [.ref c, a1, a2, .int size, a4]) := g1
  obtain ⟨cs, c1, c2, c3⟩ := hT.at hc yq_70
  have c1 : xm_hget G c = some (100, cs) := c1
  have c2 : cs.length = 240 := c2
  have w3 : 0 ≤ size.toInt ∧ size.toInt ≤ 240 := w3
  have hcj : c ≠ j := fun q => by rw [q, hj] at hc; cases hc
  have hj7 : 7 ≤ j := yr_lo (by rw [hj]; exact yq_69) (by decide)
  have hc7 : 7 ≤ c := yr_lo (by rw [hc]; exact yq_70) (by decide)
  simp only [xz_60_0, xz_60_1, xz_60_2, xz_60_3, xz_60_4, xz_60_5, l0, xm_isA, cond_true, xk_getf g1 (show ([.ref c, a1, a2, .int size, a4] : List Value)[3]? = some (.int size) from rfl), xk_getf g1 (show ([.ref c, a1, a2, .int size, a4] : List Value)[0]? = some (.ref c) from rfl), yk_alen c1 (by decide) (by decide), xc_int, xk_ge, c2]
  have e240 : (Int32.ofNat 240).toInt = 240 := rfl
  rw [e240]
  by_cases hlt : size.toInt < 240
  · rw [decide_eq_true hlt, Bool.not_true, cond_false]
    have hl : size.toInt.toNat < cs.length := by omega
    simp only [xz_60_6, xz_60_7, xz_60_8, xz_60_9, xz_60_10, xz_60_11, xz_60_12, xz_60_13, xz_60_14, l0, l1, l2, xm_isI, xm_isA, cond_true, xk_getf g1 (show ([.ref c, a1, a2, .int size, a4] : List Value)[3]? = some (.int size) from rfl), xk_getf g1 (show ([.ref c, a1, a2, .int size, a4] : List Value)[0]? = some (.ref c) from rfl), xk_mul, xk_add]
    simp only [xz_60_15]
    rw [ys_xast (ok := fun t => Nat.beq t 100) (okv := xm_kI) (w := .int (arg * 16 + op)) (w' := .int (arg * 16 + op)) rfl c1 rfl hc7 w3.1 hl]
    obtain ⟨p1, p2⟩ := hT.put (md := [(69, 3), (70, 100000)]) (i := size.toInt.toNat) (w := .int (arg * 16 + op)) (T := yr_top) (by rw [hc]; exact yq_70) c1 (by show xm_nth [yr_top] (size.toInt.toNat % 1) = some yr_top; rw [Nat.mod_one]; rfl) ⟨rfl, ys_b32 _⟩ (by rw [hc]; exact ys_modw rfl)
    generalize hG1 : xm_hput G c (100, xm_put (.int (arg * 16 + op)) cs size.toInt.toNat) = G1 at p1 p2 ⊢
    have h1 : xm_hget G1 j = some (6, [.ref c, a1, a2, .int size, a4]) := by
      rw [← hG1, xl_hput, if_neg (fun q => hcj q.symm)]
      exact g1
    simp only [xz_60_16, xz_60_17, xz_60_18, xz_60_19, xz_60_20, l0, xm_isA, xm_cat1, xm_isL, Bool.not_false, cond_true, xk_getf h1 (show ([.ref c, a1, a2, .int size, a4] : List Value)[3]? = some (.int size) from rfl), xk_add]
    simp only [xz_60_21]
    rw [xk_putf h1 hj7 rfl (Nat.le_of_ble_eq_true rfl)]
    simp only [xz_60_22]
    have e1 : (1 : Int32).toInt = 1 := rfl
    have es := yk_add (x := size) (z := 1) (by omega) (by omega)
    obtain ⟨r1, r2⟩ := p1.put (md := [(69, 3), (70, 100000)]) (i := 3) (w := .int (size + 1)) (T := (0, 0, 240)) (by rw [hj]; exact yq_69) h1 rfl ⟨rfl, by show 0 ≤ (size + 1).toInt; omega, by show (size + 1).toInt ≤ 240; omega⟩ (by rw [hj]; rfl)
    rw [xl_put] at r1 r2
    have hfr := p2.trans r2
    refine hQ _ r1 ⟨hI.1.fr r1 hfr rfl rfl, fun j' hj' => ?_, hJ _ G _ (fun q hq h93 => ?_) r1 hfr hI.2.2⟩ hfr
    · obtain ⟨vs', v1, v2⟩ := hI.2.1 j' hj'
      have n1 : j' ≠ j := fun q => by rw [q, hj] at hj'; cases hj'
      rw [xl_hput, if_neg n1, ← hG1, xl_hput]
      by_cases ec : j' = c
      · subst ec
        rw [if_pos rfl]
        rw [c1] at v1
        cases v1
        refine ⟨_, rfl, fun i x hx => ?_⟩
        rw [xl_put, List.getElem?_set] at hx
        by_cases ei : size.toInt.toNat = i
        · rw [if_pos ei, if_pos hl] at hx
          cases hx
          exact hv
        · rw [if_neg ei] at hx
          exact v2 i x hx
      · rw [if_neg ec]
        exact ⟨vs', v1, v2⟩
    · have key : ∀ i, ym_mod [(69, 3), (70, 100000)] q.1 i = false := fun i => yf_modn (fun w hw => by
        have hw1 : w.1 = 69 ∨ w.1 = 70 := by
          simp only [List.mem_cons, List.not_mem_nil, or_false] at hw
          rcases hw with rfl | rfl
          · exact Or.inl rfl
          · exact Or.inr rfl
        have e : Nat.beq w.1 q.1 = false := Bool.eq_false_iff.mpr (fun k => by have := Nat.eq_of_beq_eq_true k; omega)
        rw [e]
        rfl)
      exact ⟨key _, fun _ i => key i⟩
  · rw [decide_eq_false hlt, Bool.not_false, cond_true]
    simp only [xz_60_22]
    exact hQ G hT hI (ys_Fr.refl _ _)
theorem yc_emit {J : xm_H → Prop} (hJ : yj_ok J) {T1 T2 : yT} (h1 : T1.1 = 0) (h2 : T2.1 = 0) (hv : ∀ op arg : Int32, T1.2.1 ≤ op.toInt → op.toInt ≤ T1.2.2 → T2.2.1 ≤ arg.toInt → arg.toInt ≤ T2.2.2 → yk_cw (arg * 16 + op)) (d : Nat) : yc_ok (yi_Inv J) (60, [(2, 69, 0), T1, T2], [], [(none, [])], [(69, 3), (70, 100000)]) (xm_exec (d + 1)) := by
  intro G As Ec Q hT hI hA hF hQ
  match As, hA with
  | [a, b, c], hA =>
    obtain ⟨j, rfl, hj⟩ := yv_ref hA.1 rfl
    obtain ⟨op, rfl, o1, o2⟩ := yv_int hA.2.1 h1
    obtain ⟨arg, rfl, a1, a2⟩ := yv_int hA.2.2.1 h2
    have hj : yr_of j = 69 := Int.ofNat.inj hj
    refine yx_exec (m := 60) rfl rfl (Nat.le_of_ble_eq_true rfl) ?_
    obtain ⟨g, hg⟩ : ∃ g, xm_fuel = g + 40 := ⟨xm_fuel - 40, by have := yl_fuel 40 (by omega); omega⟩
    rw [hg]
    exact yk_emit hJ hT hI hj (hv op arg o1 o2 a1 a2) (fun G' q1 q2 q3 => hQ none G' q1 q2 q3 ⟨(none, []), List.mem_cons_self, trivial, fun q hq => by cases hq⟩)
theorem yc_e58 {J : xm_H → Prop} (hJ : yj_ok J) (d : Nat) : yc_ok (yi_Inv J) yi_58 (xm_exec (d + 1)) := yc_emit hJ (T1 := (0, 1, 1)) (T2 := (0, 0, 10)) rfl rfl (fun op arg o1 o2 a1 a2 => by
  dsimp only at o1 o2 a1 a2
  have e : (arg * 16).toInt = arg.toInt * 16 := by
    rw [Int32.toInt_mul, show (16 : Int32).toInt = 16 from rfl, ys_bm (by omega) (by omega)]
  have e2 := yk_add (x := arg * 16) (z := op) (by omega) (by omega)
  exact yk_cw0 (by omega)) d
theorem yc_e59 {J : xm_H → Prop} (hJ : yj_ok J) (d : Nat) : yc_ok (yi_Inv J) yi_59 (xm_exec (d + 1)) := yc_emit hJ (T1 := (0, 0, 0)) (T2 := yr_top) rfl rfl (fun op arg o1 o2 a1 a2 => by
  dsimp only at o1 o2
  have e0 : op = 0 := Int32.toInt_inj.mp (show op.toInt = (0 : Int32).toInt by have : (0 : Int32).toInt = 0 := rfl; omega)
  rw [e0, Int32.add_zero]
  exact yk_cwm arg) d
theorem yc_e60 {J : xm_H → Prop} (hJ : yj_ok J) (d : Nat) : yc_ok (yi_Inv J) yi_60 (xm_exec (d + 1)) := yc_emit hJ (T1 := (0, -1, 14)) (T2 := (0, 0, 0)) rfl rfl (fun op arg o1 o2 a1 a2 => by
  dsimp only at o1 o2 a1 a2
  have e0 : arg = 0 := Int32.toInt_inj.mp (show arg.toInt = (0 : Int32).toInt by have : (0 : Int32).toInt = 0 := rfl; omega)
  rw [e0, Int32.zero_mul, Int32.zero_add]
  by_cases h : 0 ≤ op.toInt
  · exact yk_cw0 h
  · have e1 : op = -1 := Int32.toInt_inj.mp (show op.toInt = (-1 : Int32).toInt by have : (-1 : Int32).toInt = -1 := rfl; omega)
    rw [e1]
    intro q
    exact absurd q (by decide)) d
