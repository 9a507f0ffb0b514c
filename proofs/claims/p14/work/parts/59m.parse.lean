/-! the reference's parser by hand: reading and writing of cells; what is held of its code -/
noncomputable def yR (G : xm_H) (j i : Nat) : Option Value := match xm_hget G j with
  | some (_, vs) => vs[i]?
  | none => none
noncomputable def yU (G : xm_H) (j i : Nat) (w : Value) : xm_H := match xm_hget G j with
  | some (t, vs) => xm_hput G j (t, vs.set i w)
  | none => G
theorem yR_eq {G : xm_H} {j i t : Nat} {vs : List Value} (h : xm_hget G j = some (t, vs)) : yR G j i = vs[i]? := by
  unfold yR
  rw [h]
theorem yU_eq {G : xm_H} {j i t : Nat} {w : Value} {vs : List Value} (h : xm_hget G j = some (t, vs)) : yU G j i w = xm_hput G j (t, vs.set i w) := by
  unfold yU
  rw [h]
theorem yR_inv {G : xm_H} {j i : Nat} {v : Value} (h : yR G j i = some v) : ∃ t vs, xm_hget G j = some (t, vs) ∧ vs[i]? = some v := by
  unfold yR at h
  cases hg : xm_hget G j with
  | none => rw [hg] at h; cases h
  | some q => obtain ⟨t, vs⟩ := q; rw [hg] at h; exact ⟨t, vs, rfl, h⟩
theorem yU_hit {G : xm_H} {j i : Nat} {v w : Value} (h : yR G j i = some v) : yR (yU G j i w) j i = some w := by
  obtain ⟨t, vs, h1, h2⟩ := yR_inv h
  rw [yU_eq h1]
  unfold yR
  rw [xl_hput, if_pos rfl]
  show (vs.set i w)[i]? = some w
  rw [List.getElem?_set, if_pos rfl, if_pos (List.getElem?_eq_some_iff.mp h2).1]
theorem yU_miss {G : xm_H} {j i j' i' : Nat} {w : Value} (h : j' ≠ j ∨ i' ≠ i) : yR (yU G j i w) j' i' = yR G j' i' := by
  unfold yU
  cases hg : xm_hget G j with
  | none => rfl
  | some q =>
    obtain ⟨t, vs⟩ := q
    show yR (xm_hput G j (t, vs.set i w)) j' i' = _
    unfold yR
    rw [xl_hput]
    by_cases e : j' = j
    · subst e
      rw [if_pos rfl, hg]
      show (vs.set i w)[i']? = vs[i']?
      rw [List.getElem?_set, if_neg (fun q => (h.resolve_left (fun k => k rfl)) q.symm)]
    · rw [if_neg e]
/-- the kind and the type of a place -/
theorem yR_ty {G : xm_H} (hT : ys_HT G) {j r i : Nat} {q : yW} {T : yT} (hr : yr_of j = r) (hq : yr_row r = some q) (hi : i < q.2.1) (ht : yr_ty q i = some T) : ∃ v, yR G j i = some v ∧ ys_T T v := by
  obtain ⟨vs, g1, g2, g3⟩ := hT.at hr hq
  obtain ⟨v, hv⟩ : ∃ v, vs[i]? = some v := ⟨_, List.getElem?_eq_getElem (by omega)⟩
  obtain ⟨T', t1, t2⟩ := g3 i v hv
  rw [ht] at t1
  cases t1
  exact ⟨v, by rw [yR_eq g1]; exact hv, t2⟩
theorem yU_HT {G : xm_H} (hT : ys_HT G) {j r i : Nat} {q : yW} {T : yT} {w : Value} (hr : yr_of j = r) (hq : yr_row r = some q) (hi : i < q.2.1) (ht : yr_ty q i = some T) (hw : ys_T T w) {md : yM} (hm : ym_mod md r i = true) : ys_HT (yU G j i w) ∧ ys_Fr md G (yU G j i w) := by
  obtain ⟨vs, g1, g2, g3⟩ := hT.at hr hq
  have hh := hT.put (md := md) (j := j) (i := i) (q := q) (w := w) (vs := vs) (by rw [hr]; exact hq) g1 ht hw (by rw [hr]; exact hm)
  rw [xl_put] at hh
  rw [yU_eq g1]
  exact hh
theorem yr_ones : (List.range 400).all (fun j => Nat.blt (yr_of j) 93 || Nat.beq j (yr_of j + 251)) = true := by decide +kernel
theorem yr_uni {j r : Nat} (h : yr_of j = r) (hr : 93 ≤ r) : j = r + 251 := by
  rcases Nat.lt_or_ge j 400 with hj | hj
  · have h0 := List.all_eq_true.mp yr_ones j (List.mem_range.mpr hj)
    rw [h] at h0
    have h1 : Nat.blt r 93 = false := Bool.eq_false_iff.mpr (fun q => by have := Nat.le_of_ble_eq_true q; omega)
    rw [h1] at h0
    exact Nat.eq_of_beq_eq_true h0
  · exfalso
    unfold yr_of at h
    rw [xl_nth, List.getElem?_eq_none (by have := yr_len0; omega)] at h
    have h : 0 = r := h
    omega
noncomputable def yq93 : yW := match yr_row 93 with
  | some q => q
  | none => (0, 0, 0, [])
theorem yq_93 : yr_row 93 = some yq93 := rfl
theorem yq93_1 : yq93.1 = 11 := rfl
theorem yq93_2 : yq93.2.1 = 36 := rfl
theorem yq_95 : yr_row 95 = some (100, 2400, 1, [yr_top]) := rfl
theorem yq_96 : yr_row 96 = some (100, 7, 1, [(0, 0, 400)]) := rfl
theorem yq_97 : yr_row 97 = some (100, 288, 1, [(0, (-1), 400)]) := rfl
theorem yq_98 : yr_row 98 = some (100, 6, 1, [(0, 0, 12)]) := rfl
theorem yq_100 : yr_row 100 = some (100, 400, 1, [yr_top]) := rfl
theorem yv_one {i : Nat} {k n : Nat} {T : yT} : yr_ty (k, n, 1, [T]) i = some T := by
  show xm_nth [T] (i % 1) = _
  rw [Nat.mod_one]
  rfl
/-- the fields of the reference's object -/
theorem yM_ref {G : xm_H} (hT : ys_HT G) {i r : Nat} (hi : i < 36) (ht : yr_ty yq93 i = some (2, (r : Int), 0)) (hr : 93 ≤ r) : yR G 344 i = some (.ref (r + 251)) := by
  obtain ⟨v, h1, h2⟩ := yR_ty hT ym_344 yq_93 (by rw [yq93_2]; exact hi) ht
  obtain ⟨j, rfl, hj⟩ := yv_ref h2 rfl
  rw [h1, yr_uni (Int.ofNat.inj hj) hr]
theorem yM_int {G : xm_H} (hT : ys_HT G) {i : Nat} {lo hi : Int} (hi' : i < 36) (ht : yr_ty yq93 i = some (0, lo, hi)) : ∃ x : Int32, yR G 344 i = some (.int x) ∧ lo ≤ x.toInt ∧ x.toInt ≤ hi := by
  obtain ⟨v, h1, h2⟩ := yR_ty hT ym_344 yq_93 (by rw [yq93_2]; exact hi') ht
  obtain ⟨x, rfl, hx⟩ := yv_int h2 rfl
  exact ⟨x, h1, hx⟩
theorem yM_intx {G : xm_H} (hT : ys_HT G) {i : Nat} {lo hi : Int} {x : Int32} (h : yR G 344 i = some (.int x)) (hi' : i < 36) (ht : yr_ty yq93 i = some (0, lo, hi)) : lo ≤ x.toInt ∧ x.toInt ≤ hi := by
  obtain ⟨y, h1, h2⟩ := yM_int hT hi' ht
  rw [h] at h1
  cases h1
  exact h2
/-- an int of an array whose places are all of one type -/
theorem yA_int {G : xm_H} (hT : ys_HT G) {j r i k n : Nat} {lo hi : Int} (hr : yr_of j = r) (hq : yr_row r = some (k, n, 1, [(0, lo, hi)])) (hn : i < n) : ∃ x : Int32, yR G j i = some (.int x) ∧ lo ≤ x.toInt ∧ x.toInt ≤ hi := by
  obtain ⟨v, h1, h2⟩ := yR_ty hT hr hq hn yv_one
  obtain ⟨x, rfl, hx⟩ := yv_int h2 rfl
  exact ⟨x, h1, hx⟩
theorem yA_lt {G : xm_H} (hT : ys_HT G) {j r i : Nat} {q : yW} {v : Value} (hr : yr_of j = r) (hq : yr_row r = some q) (h : yR G j i = some v) : i < q.2.1 := by
  obtain ⟨vs, g1, g2, g3⟩ := hT.at hr hq
  rw [yR_eq g1] at h
  have := (List.getElem?_eq_some_iff.mp h).1
  omega
theorem xk_gf {G : xm_H} (hT : ys_HT G) {i : Nat} {v : Value} {st : List Value} {k : List Value → Bool} (h : yR G 344 i = some v) : xm_getf 11 i (.ref 344 :: st) G k = k (v :: st) := by
  obtain ⟨vs, g1, g2, g3⟩ := hT.at ym_344 yq_93
  rw [yR_eq g1] at h
  rw [yq93_1] at g1
  exact xk_getf g1 h
theorem xk_pf {G : xm_H} (hT : ys_HT G) {i : Nat} {w : Value} {st : List Value} {k : List Value → xm_H → Bool} (hf : xm_fit (xm_ty 11 i) w = true) (hi : i < 36) : xm_putf 11 i (w :: .ref 344 :: st) G k = k st (yU G 344 i w) := by
  obtain ⟨vs, g1, g2, g3⟩ := hT.at ym_344 yq_93
  rw [yU_eq g1]
  rw [yq93_1] at g1 ⊢
  rw [yq93_2] at g2
  exact xk_putf g1 (by decide) hf (by omega)
theorem xk_ial {G : xm_H} (hT : ys_HT G) {j r n : Nat} {T : yT} (hr : yr_of j = r) (hq : yr_row r = some (100, n, 1, [T])) (hj : Nat.beq j 0 = false) {x : Int32} {v : Value} {st : List Value} {E : xm_R} {k : List Value → xm_R → Bool} (h0 : 0 ≤ x.toInt) (h : yR G j x.toInt.toNat = some v) : xm_iald (.int x :: .ref j :: st) G E k = k (v :: st) E := by
  obtain ⟨vs, g1, g2, g3⟩ := hT.at hr hq
  rw [yR_eq g1] at h
  show (bif Nat.beq j 0 then _ else xm_ald (fun t => Nat.beq t 100) (.int x :: .ref j :: st) G E k) = _
  rw [hj, cond_false]
  exact ys_xald g1 rfl h0 h
theorem xk_ias {G : xm_H} (hT : ys_HT G) {j r n : Nat} {T : yT} (hr : yr_of j = r) (hq : yr_row r = some (100, n, 1, [T])) (hj : 7 ≤ j) {x w : Int32} {st : List Value} {E : xm_R} {k : List Value → xm_H → xm_R → Bool} (h0 : 0 ≤ x.toInt) (h : x.toInt < n) : xm_ast (fun t => Nat.beq t 100) xm_kI (.int w :: .int x :: .ref j :: st) G E k = k st (yU G j x.toInt.toNat (.int w)) E := by
  obtain ⟨vs, g1, g2, g3⟩ := hT.at hr hq
  rw [yU_eq g1, ys_xast (ok := fun t => Nat.beq t 100) (okv := xm_kI) (w' := .int w) (show xm_kI (.int w) = some (.int w) from rfl) g1 rfl hj h0 (by rw [g2]; show x.toInt.toNat < n; omega), xl_put]
/-- what the frame leaves -/
theorem yR_fr {md : yM} {G G' : xm_H} (hF : ys_Fr md G G') {j i : Nat} {v : Value} (hm : ym_mod md (yr_of j) i = false) (h : yR G j i = some v) : yR G' j i = some v := by
  obtain ⟨t, vs, h1, h2⟩ := yR_inv h
  obtain ⟨vs', g1, g2, g3⟩ := hF j t vs h1
  rw [yR_eq g1]
  rcases g3 i v h2 with q | q
  · rw [hm] at q; cases q
  · exact q
theorem yR_frx {md : yM} {G G' : xm_H} (hT : ys_HT G) (hF : ys_Fr md G G') {j r : Nat} {q : yW} (hr : yr_of j = r) (hq : yr_row r = some q) (hm : ∀ i, ym_mod md r i = false) (i : Nat) : yR G' j i = yR G j i := by
  obtain ⟨vs, g1, g2, g3⟩ := hT.at hr hq
  have := yf_same hF (by rw [hr]; exact hm) g1
  rw [yR_eq g1, yR_eq this]
/-! the code's height -/
def yH1 (v : Option Value) (h : Nat) : Option Nat := match v with
  | some (.int x) => if x &&& 15 = 0 then (if h < 64 then some (h + 1) else none) else if x &&& 15 = 1 then (if h < 64 ∧ 0 ≤ (x >>> (4 &&& 31)).toInt ∧ (x >>> (4 &&& 31)).toInt ≤ 10 then some (h + 1) else none) else if x &&& 15 = 11 then (if 1 ≤ h then some h else none) else if 2 ≤ h then some (h - 1) else none
  | _ => none
def yHs (f : Nat → Option Value) (p : Nat) : Nat → Option Nat
  | 0 => some 0
  | n + 1 => (yHs f p n).bind (yH1 (f (p + n)))
theorem yHs_congr {f g : Nat → Option Value} {p : Nat} : ∀ {n : Nat}, (∀ i, p ≤ i → i < p + n → f i = g i) → yHs f p n = yHs g p n
  | 0, _ => rfl
  | n + 1, h => by
    show (yHs f p n).bind _ = (yHs g p n).bind _
    rw [yHs_congr (fun i h1 h2 => h i h1 (by omega)), h (p + n) (by omega) (by omega)]
def yBin (op : Nat → Option Value) : Nat → Nat
  | 0 => 0
  | n + 1 => yBin op n + (if op n = some (.int 12) ∨ op n = some (.int 13) then 1 else 0)
theorem yBin_congr {f g : Nat → Option Value} : ∀ {n : Nat}, (∀ i, i < n → f i = g i) → yBin f n = yBin g n
  | 0, _ => rfl
  | n + 1, h => by
    show yBin f n + _ = yBin g n + _
    rw [yBin_congr (fun i h1 => h i (by omega)), h n (by omega)]
theorem yBin_le {f : Nat → Option Value} : ∀ {n : Nat}, yBin f n ≤ n
  | 0 => Nat.le_refl _
  | n + 1 => by
    show yBin f n + _ ≤ _
    have := yBin_le (f := f) (n := n)
    split <;> omega
def yOk (f : Nat → Option Value) (t : Nat) (b e : Int32) : Prop := 0 ≤ b.toInt ∧ b.toInt ≤ e.toInt ∧ e.toInt ≤ 400 ∧ ∃ h, yHs f (400 * t + b.toInt.toNat) (e.toInt.toNat - b.toInt.toNat) = some (h + 1)
def yMI (tt L : Int) (G : xm_H) : Prop := ∀ t : Nat, t < 6 → ∀ n : Int32, yR G 349 t = some (.int n) → ∀ c : Nat, (c : Int) < n.toInt → ∃ b0 e0 b1 e1 : Int32, yR G 348 (48 * t + 4 * c) = some (.int b0) ∧ yR G 348 (48 * t + 4 * c + 1) = some (.int e0) ∧ yR G 348 (48 * t + 4 * c + 2) = some (.int b1) ∧ yR G 348 (48 * t + 4 * c + 3) = some (.int e1) ∧ yOk (yR G 346) t b0 e0 ∧ (0 ≤ b1.toInt → yOk (yR G 346) t b1 e1) ∧ ((t : Int) = tt → e0.toInt ≤ L ∧ (0 ≤ b1.toInt → e1.toInt ≤ L))
theorem yMI_congr {tt L : Int} {G G' : xm_H} (h1 : ∀ i, yR G' 346 i = yR G 346 i) (h2 : ∀ i, yR G' 348 i = yR G 348 i) (h3 : ∀ i, yR G' 349 i = yR G 349 i) (h : yMI tt L G) : yMI tt L G' := by
  intro t ht n hn c hc
  rw [h3] at hn
  have e : yR G' 346 = yR G 346 := funext h1
  rw [e]
  simp only [h2]
  exact h t ht n hn c hc
theorem yMI_weak {tt L : Int} {G : xm_H} (h : yMI tt L G) : yMI (-1) 0 G := by
  intro t ht n hn c hc
  obtain ⟨b0, e0, b1, e1, p1, p2, p3, p4, p5, p6, -⟩ := h t ht n hn c hc
  exact ⟨b0, e0, b1, e1, p1, p2, p3, p4, p5, p6, fun q => by omega⟩
/-- what is held of the reference at all times -/
theorem yMI_ok : yj_ok (fun G => ys_HT G ∧ yMI (-1) 0 G) := by
  intro md G G' hp hT hF h
  have k : ∀ r : Nat, (r, 100000) ∈ yr_prot → 93 ≤ r → ∀ i, ym_mod md r i = false := fun r hr h93 => (hp (r, 100000) hr h93).2 rfl
  refine ⟨hT, yMI_congr (yR_frx h.1 hF (r := 95) rfl yq_95 (k 95 ?_ (by decide))) (yR_frx h.1 hF (r := 97) rfl yq_97 (k 97 ?_ (by decide))) (yR_frx h.1 hF (r := 98) rfl yq_98 (k 98 ?_ (by decide))) h.2⟩
  · show _ ∈ ([(8, 3), (8, 4), (70, 100000), (95, 100000), (97, 100000), (98, 100000)] : List (Nat × Nat))
    simp
  · show _ ∈ ([(8, 3), (8, 4), (70, 100000), (95, 100000), (97, 100000), (98, 100000)] : List (Nat × Nat))
    simp
  · show _ ∈ ([(8, 3), (8, 4), (70, 100000), (95, 100000), (97, 100000), (98, 100000)] : List (Nat × Nat))
    simp
/-! the parser's state: text t, length L, opened O, made m, deep dp, the open ones op; from b on the code's height is h -/
def yMD : yM := [(93, 8), (93, 9), (93, 10), (93, 12), (93, 13), (93, 16), (95, 100000), (96, 100000), (100, 100000)]
def yJ (G : xm_H) : Prop := ys_HT G ∧ yMI (-1) 0 G
/-- what is written since G0; the code that stood there then stands -/
def yFm (G0 G : xm_H) (t L : Int32) : Prop := ys_Fr yMD G0 G ∧ ∀ L0 : Int32, yR G0 347 t.toInt.toNat = some (.int L0) → L0.toInt ≤ L.toInt ∧ ∀ i : Nat, (i : Int) < 400 * t.toInt + L0.toInt → yR G 346 i = yR G0 346 i
theorem yFm.tr {G0 G G' : xm_H} {t L : Int32} (h : yFm G0 G t L) (x : ys_Fr yMD G G') (hs : ∀ i, yR G' 346 i = yR G 346 i) : yFm G0 G' t L := ⟨h.1.trans x, fun L0 e => ⟨(h.2 L0 e).1, fun i hi => by rw [hs]; exact (h.2 L0 e).2 i hi⟩⟩
theorem yFm.refl {G : xm_H} {t L : Int32} (h : yR G 347 t.toInt.toNat = some (.int L)) : yFm G G t L := ⟨ys_Fr.refl _ _, fun L0 e => by
  rw [h] at e
  cases e
  exact ⟨Int.le_refl _, fun _ _ => rfl⟩⟩
def yS (G0 G : xm_H) (t L O m dp : Int32) (op : Nat → Option Value) (b h : Nat) : Prop := (ys_HT G ∧ yFm G0 G t L ∧ yi_TI G ∧ yi_CI G ∧ yMI t.toInt L.toInt G) ∧ (yR G 344 11 = some (.int t) ∧ yR G 344 12 = some (.int m) ∧ yR G 344 13 = some (.int dp) ∧ yR G 344 16 = some (.int O)) ∧ (yR G 347 t.toInt.toNat = some (.int L) ∧ yR G 351 = op) ∧ (0 ≤ t.toInt ∧ t.toInt ≤ 5) ∧ (b : Int) ≤ L.toInt ∧ yHs (yR G 346) (400 * t.toInt.toNat + b) (L.toInt.toNat - b) = some h ∧ (h : Int) ≤ m.toInt
/-- how the parser fails -/
def yFl (Q : xm_Q) (E : xm_R) (G0 : xm_H) : Prop := ∀ G' : xm_H, ys_HT G' → yi_Inv yJ G' → ys_Fr yMD G0 G' → Q (some (.int 0)) G' E = true
def yN3 : yM := [(93, 8), (93, 9), (93, 10)]
theorem yN3_MD : ym_mds yN3 yMD = true := by decide +kernel
theorem yN3_n {r i : Nat} (h : r ≠ 93 ∨ (i ≠ 8 ∧ i ≠ 9 ∧ i ≠ 10)) : ym_mod yN3 r i = false := by
  refine yf_modn (fun w hw => ?_)
  have hw : w ∈ ([(93, 8), (93, 9), (93, 10)] : List (Nat × Nat)) := hw
  simp only [List.mem_cons, List.not_mem_nil, or_false] at hw
  have b : ∀ x y : Nat, x ≠ y → Nat.beq x y = false := fun x y hxy => Bool.eq_false_iff.mpr (fun q => hxy (Nat.eq_of_beq_eq_true q))
  rcases h with h | ⟨h1, h2, h3⟩
  · rcases hw with rfl | rfl | rfl <;> rw [b _ _ (fun q => h q.symm)] <;> rfl
  · rcases hw with rfl | rfl | rfl
    · rw [show Nat.beq (93, 8).2 i = false from b _ _ (fun q => h1 q.symm)]
      exact Bool.and_false _
    · rw [show Nat.beq (93, 9).2 i = false from b _ _ (fun q => h2 q.symm)]
      exact Bool.and_false _
    · rw [show Nat.beq (93, 10).2 i = false from b _ _ (fun q => h3 q.symm)]
      exact Bool.and_false _
section PS
variable {G0 G G' : xm_H} {t L O m dp : Int32} {op : Nat → Option Value} {b h d : Nat} {Q : xm_Q} {E : xm_R}
theorem yS.inv (hS : yS G0 G t L O m dp op b h) : ys_HT G ∧ yi_Inv yJ G ∧ ys_Fr yMD G0 G := ⟨hS.1.1, ⟨hS.1.2.2.1, hS.1.2.2.2.1, hS.1.1, yMI_weak hS.1.2.2.2.2⟩, hS.1.2.1.1⟩
theorem yFl.of (hf : yFl Q E G0) (hS : yS G0 G t L O m dp op b h) : Q (some (.int 0)) G E = true := hf G hS.inv.1 hS.inv.2.1 hS.inv.2.2
theorem yS.fr (hS : yS G0 G t L O m dp op b h) (hT : ys_HT G') (hF : ys_Fr yN3 G G') : yS G0 G' t L O m dp op b h := by
  obtain ⟨⟨a1, a2, a3, a4, a5⟩, ⟨c1, c2, c3, c4⟩, ⟨e1, e2⟩, f1, f2, f3, f4⟩ := hS
  have x : ∀ {r j : Nat} {q : yW}, yr_of j = r → yr_row r = some q → r ≠ 93 → ∀ i, yR G' j i = yR G j i := fun hr hq hn => yR_frx a1 hF hr hq (fun i => yN3_n (Or.inl hn))
  have k95 := x (r := 95) (j := 346) rfl yq_95 (by decide)
  have k96 := x (r := 96) (j := 347) rfl yq_96 (by decide)
  have k97 := x (r := 97) (j := 348) rfl yq_97 (by decide)
  have k98 := x (r := 98) (j := 349) rfl yq_98 (by decide)
  have k100 := x (r := 100) (j := 351) rfl yq_100 (by decide)
  have z : ∀ {i : Nat} {v : Value}, i ≠ 8 ∧ i ≠ 9 ∧ i ≠ 10 → yR G 344 i = some v → yR G' 344 i = some v := fun hi hv => yR_fr hF (by rw [ym_344]; exact yN3_n (Or.inr hi)) hv
  refine ⟨⟨hT, a2.tr (hF.mds yN3_MD) k95, a3.fr hT hF (yN3_n (Or.inl (by decide))) (yN3_n (Or.inl (by decide))), a4.fr hF (fun i => yN3_n (Or.inl (by decide))), yMI_congr k95 k97 k98 a5⟩, ⟨z (by decide) c1, z (by decide) c2, z (by decide) c3, z (by decide) c4⟩, ⟨by rw [k96]; exact e1, by rw [← e2]; exact funext k100⟩, f1, f2, ?_, f4⟩
  rw [show yR G' 346 = yR G 346 from funext k95]
  exact f3
/-- see -/
def yNx (G : xm_H) : Prop := ∃ n : Int32, yR G 344 8 = some (.int n) ∧ 0 ≤ n.toInt ∧ n.toInt < 400
theorem yS.see (hS : yS G0 G t L O m dp op b h) (hQ : ∀ (G' : xm_H) (r : Int32), yS G0 G' t L O m dp op b h → (r.toInt = -1 ∨ yNx G') → Q (some (.int r)) G' E = true) : xm_exec (d + 1) 132 [.ref 344] G E Q = true := by
  obtain ⟨vs, hM, tb, tt, n, a0, a1, a8, b1, b2, b3, b4⟩ := yO_of hS.1.1
  refine yO_seex b1 b2 a0 a1 b3.2 hM a8 b4.1 b4.2 (fun n' r r1 r2 r3 => ?_)
  obtain ⟨e1, e2⟩ := yO_nxHT (n := n') hS.1.1 hM (by omega) r2
  refine hQ _ r (hS.fr e1 (e2.mds rfl)) ?_
  rcases r3 with r3 | r3
  · exact Or.inl r3
  · have hN := yO_nxat hM n'
    exact Or.inr ⟨n', by rw [yR_eq hN.1]; exact yO_hit hM.2, by omega, by omega⟩
theorem yS.isw (hS : yS G0 G t L O m dp op b h) {w : Int64} (hQ : ∀ (G' : xm_H) (r : Int32), yS G0 G' t L O m dp op b h → (r = 0 ∨ r = 1) → Q (some (.int r)) G' E = true) : xm_exec (d + 2) 135 [.ref 344, .long w] G E Q = true := by
  obtain ⟨vs, hM, tb, tt, n, a0, a1, a8, b1, b2, b3, b4⟩ := yO_of hS.1.1
  refine yO_iswx b1 b2 a0 a1 b3.2 hM a8 b4.1 b4.2 (fun n' r r1 r2 r3 => ?_)
  obtain ⟨e1, e2⟩ := yO_nxHT (n := n') hS.1.1 hM (by omega) r2
  exact hQ _ r (hS.fr e1 (e2.mds rfl)) (r3.imp id And.left)
theorem yS.pass (hS : yS G0 G t L O m dp op b h) (hQ : ∀ G' : xm_H, yS G0 G' t L O m dp op b h → Q none G' E = true) : xm_exec (d + 2) 136 [.ref 344] G E Q = true := by
  obtain ⟨vs, hM, tb, tt, n, a0, a1, a8, b1, b2, b3, b4⟩ := yO_of hS.1.1
  refine yO_passx b1 b2 a0 a1 b3.2 hM a8 b4.1 b4.2 (fun n' r1 r2 => ?_)
  obtain ⟨e1, e2⟩ := yO_nxHT (n := n') hS.1.1 hM (by omega) r2
  exact hQ _ (hS.fr e1 (e2.mds rfl))
theorem yS.fails (hS : yS G0 G t L O m dp op b h) {k a : Int32} (hQ : ∀ G' : xm_H, yS G0 G' t L O m dp op b h → Q (some (.int 0)) G' E = true) : xm_exec (d + 1) 131 [.ref 344, .int k, .int a] G E Q = true := by
  obtain ⟨vs, hM, -⟩ := yO_of hS.1.1
  exact yO_fails hS.1.1 hM (fun G' q1 q2 => hQ G' (hS.fr q1 (q2.mds rfl)))
theorem yS.digit (hS : yS G0 G t L O m dp op b h) {x : Int32} (x0 : 0 ≤ x.toInt) (hQ : ∀ r : Int32, (r = 0 ∨ r = 1) → Q (some (.int r)) G E = true) : xm_exec (d + 1) 133 [.ref 344, .int x] G E Q = true := by
  obtain ⟨vs, hM, tb, tt, n, a0, a1, a8, b1, b2, b3, b4⟩ := yO_of hS.1.1
  exact yO_digit b1 a0 a1 b3.2 hM x0 (fun r hr => hQ r (hr.imp id And.left))
theorem yS.num (hS : yS G0 G t L O m dp op b h) {lo hi : Int32} (hQ : ∀ (G' : xm_H) (r : Int32), yS G0 G' t L O m dp op b h → (r = 0 ∨ (r = 1 ∧ ∃ v : Int32, yR G' 344 10 = some (.int v) ∧ lo.toInt ≤ v.toInt ∧ v.toInt ≤ hi.toInt)) → Q (some (.int r)) G' E = true) : xm_exec (d + 2) 138 [.ref 344, .int lo, .int hi] G E Q = true := by
  obtain ⟨vs, hM, tb, tt, n, a0, a1, a8, ⟨bs, b1, b1'⟩, b2, b3, b4⟩ := yO_of hS.1.1
  refine yO_numx hS.1.1 b1 b1' b2 a0 a1 b3.2 hM a8 b4.1 b4.2 (fun r G' q1 q2 q3 => hQ G' r (hS.fr q1 q2) ?_)
  rcases q3 with q3 | ⟨q3, us, v, n', p1, p2, p3, p4, -⟩
  · exact Or.inl q3
  · exact Or.inr ⟨q3, v, by rw [yR_eq p1.1]; exact p2, p3, p4⟩
/-- on by one -/
theorem yS.inc (hS : yS G0 G t L O m dp op b h) {n : Int32} (h0 : 0 ≤ n.toInt) (h4 : n.toInt < 400) : yS G0 (yU G 344 8 (.int (n + 1))) t L O m dp op b h := by
  have e1 : (1 : Int32).toInt = 1 := rfl
  have e2 := yk_add (x := n) (z := 1) (by omega) (by omega)
  obtain ⟨k1, k2⟩ := yU_HT (md := yN3) hS.1.1 (j := 344) (i := 8) (w := .int (n + 1)) ym_344 yq_93 (by rw [yq93_2]; decide) (show yr_ty yq93 8 = some (0, 0, 400) from rfl) ⟨rfl, by show 0 ≤ (n + 1).toInt; omega, by show (n + 1).toInt ≤ 400; omega⟩ rfl
  exact hS.fr k1 k2
theorem yS.nx (hS : yS G0 G t L O m dp op b h) : ∃ n : Int32, yR G 344 8 = some (.int n) ∧ 0 ≤ n.toInt ∧ n.toInt ≤ 400 := yM_int hS.1.1 (by decide) rfl
theorem yS.tape (hS : yS G0 G t L O m dp op b h) {n : Int32} (h0 : 0 ≤ n.toInt) (h4 : n.toInt < 400) : yR G 344 0 = some (.ref 345) ∧ ∃ c : Int32, ∀ (st : List Value) (E : xm_R) (k : List Value → xm_R → Bool), xm_bald (.int n :: .ref 345 :: st) G E k = k (.int c :: st) E := by
  refine ⟨yM_ref hS.1.1 (r := 94) (by decide) rfl (by decide), ?_⟩
  obtain ⟨vs, g1, g2, g3⟩ := hS.1.1.at (j := 345) (r := 94) rfl yq_94
  obtain ⟨w, hw⟩ : ∃ w, vs[n.toInt.toNat]? = some w := ⟨_, List.getElem?_eq_getElem (by rw [g2]; show n.toInt.toNat < 400; omega)⟩
  obtain ⟨T, k1, k2⟩ := g3 _ _ hw
  rw [yv_one] at k1
  cases k1
  obtain ⟨c, rfl, -⟩ := yv_int k2 rfl
  exact ⟨c, fun st E k => yk_bald g1 h0 hw⟩
/-- ranges -/
theorem yS.mr (hS : yS G0 G t L O m dp op b h) : 0 ≤ m.toInt ∧ m.toInt ≤ 60 := yM_intx hS.1.1 hS.2.1.2.1 (by decide) rfl
theorem yS.Or (hS : yS G0 G t L O m dp op b h) : 0 ≤ O.toInt ∧ O.toInt ≤ 400 := yM_intx hS.1.1 hS.2.1.2.2.2 (by decide) rfl
theorem yS.Lr (hS : yS G0 G t L O m dp op b h) : 0 ≤ L.toInt ∧ L.toInt ≤ 400 := by
  obtain ⟨x, h1, h2⟩ := yA_int hS.1.1 (j := 347) (r := 96) (i := t.toInt.toNat) rfl yq_96 (by have := hS.2.2.2.1; omega)
  rw [hS.2.2.1.1] at h1
  cases h1
  exact h2
end PS
