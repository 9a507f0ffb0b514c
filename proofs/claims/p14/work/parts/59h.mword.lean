/-! the reference's passWord, isWord: contracts -/
theorem yl_putid {α : Type} (d x : α) : ∀ {l : List α} {n : Nat}, xm_nth l n = some x → xm_putx d x l n = l
  | [], n, h => by rw [xl_nth] at h; simp at h
  | a :: l, 0, h => by
    have h : some a = some x := h
    cases h
    rfl
  | a :: l, n + 1, h => by
    show a :: xm_putx d x l n = a :: l
    rw [yl_putid d x (l := l) (n := n) h]
theorem yl_hid {G : xm_H} {j : Nat} {o : xm_O} (h : xm_hget G j = some o) : xm_hput G j o = G := by
  have h : xm_jn (xm_nth (xm_ck G.2 (j / 16)) (j % 16)) = some o := h
  have h1 : xm_nth (xm_ck G.2 (j / 16)) (j % 16) = some (some o) := by
    generalize xm_nth (xm_ck G.2 (j / 16)) (j % 16) = q at h ⊢
    match q, h with
    | some (some x), h => cases h; rfl
    | some none, h => cases h
    | none, h => cases h
  have h2 : xm_nth G.2 (j / 16) = some (xm_ck G.2 (j / 16)) := by
    unfold xm_ck at h1 ⊢
    cases hc : xm_nth G.2 (j / 16) with
    | some c => rfl
    | none =>
      rw [hc] at h1
      rw [xl_nth] at h1
      simp at h1
  show (G.1, xm_putx [] (xm_putx none (some o) (xm_ck G.2 (j / 16)) (j % 16)) G.2 (j / 16)) = G
  rw [yl_putid none (some o) h1, yl_putid [] _ h2]
theorem yl_setid {vs : List Value} {i : Nat} {w : Value} (h : vs[i]? = some w) : vs.set i w = vs := by
  refine List.ext_getElem? (fun k => ?_)
  rw [List.getElem?_set]
  by_cases e : i = k
  · subst e
    have hl : i < vs.length := (List.getElem?_eq_some_iff.mp h).1
    rw [if_pos rfl, if_pos hl, h]
  · rw [if_neg e]
theorem yO_nxid {G : xm_H} {vs : List Value} {n : Int32} (h : yO G vs) (hn : vs[8]? = some (.int n)) : yO_nx G vs n = G := by
  unfold yO_nx
  rw [yl_setid hn]
  exact yl_hid h.1
theorem yO_nxHT {G : xm_H} {vs : List Value} {n : Int32} (hT : ys_HT G) (h : yO G vs) (h0 : 0 ≤ n.toInt) (h1 : n.toInt ≤ 400) : ys_HT (yO_nx G vs n) ∧ ys_Fr [(93, 8)] G (yO_nx G vs n) := by
  obtain ⟨q, q0, q1, q2, t0, t1, t8, -⟩ := yO_row
  have hh := hT.put (md := [(93, 8)]) (j := 344) (i := 8) (q := q) (w := .int n) (vs := vs) (by rw [ym_344]; exact q0) (by rw [q1]; exact h.1) t8 ⟨rfl, h0, h1⟩ (by rw [ym_344]; rfl)
  rw [q1, xl_put] at hh
  exact hh
/-- the rest of what is held doesn't hang on next -/
theorem yi_nx {J : xm_H → Prop} (hJ : yj_ok J) {md : yM} {G G' : xm_H} (hm : ∀ w ∈ md, w.1 = 93) (hT : ys_HT G') (hF : ys_Fr md G G') (h : yi_Inv J G) : yi_Inv J G' := by
  have k : ∀ r i, r ≠ 93 → ym_mod md r i = false := fun r i hr => yf_modn (fun w hw => by
    have e : Nat.beq w.1 r = false := Bool.eq_false_iff.mpr (fun q => hr (by rw [← hm w hw]; exact (Nat.eq_of_beq_eq_true q).symm))
    rw [e]
    rfl)
  refine ⟨h.1.fr hT hF (k _ _ (by decide)) (k _ _ (by decide)), h.2.1.fr hF (fun i => k _ _ (by decide)), hJ _ G G' (fun q hq h93 => ?_) hT hF h.2.2⟩
  have hq93 : q.1 ≠ 93 := by
    have hq : q ∈ ([(8, 3), (8, 4), (70, 100000), (95, 100000), (97, 100000), (98, 100000)] : List (Nat × Nat)) := hq
    simp only [List.mem_cons, List.not_mem_nil, or_false] at hq
    rcases hq with rfl | rfl | rfl | rfl | rfl | rfl <;> decide
  exact ⟨k _ _ hq93, fun _ i => k _ _ hq93⟩
theorem yv_long {T : yT} {v : Value} (h : ys_T T v) (hT : T.1 = 1) : ∃ x : Int64, v = .long x := by
  cases v with
  | long x => exact ⟨x, rfl⟩
  | int x => exact absurd h.1 (by rw [hT]; decide)
  | ref j => rcases h.1 with q | q <;> rw [hT] at q <;> cases q
  | null => exact absurd (show T.1 = 3 from h) (by rw [hT]; decide)
  | _ => exact False.elim h
theorem yr_oneM0 : (List.range 400).all (fun j => !(Nat.beq (yr_of j) 93) || Nat.beq j 344) = true := by decide +kernel
theorem yr_oneM {j : Nat} (h : yr_of j = 93) : j = 344 := by
  rcases Nat.lt_or_ge j 400 with hj | hj
  · have h0 := List.all_eq_true.mp yr_oneM0 j (List.mem_range.mpr hj)
    rw [h] at h0
    exact Nat.eq_of_beq_eq_true h0
  · exfalso
    unfold yr_of at h
    rw [xl_nth, List.getElem?_eq_none (by have := yr_len0; omega)] at h
    cases h
/-- see, at its call: how far on -/
theorem yO_seex {Q : xm_Q} {G : xm_H} {E : xm_R} {vs : List Value} {tb d : Nat} {t n : Int32} (hb : yt_bytes G tb) (htb : tb ≠ 344) (h0 : vs[0]? = some (.ref tb)) (h1 : vs[1]? = some (.int t)) (ht : t.toInt ≤ 400) (hM : yO G vs) (hn : vs[8]? = some (.int n)) (n0 : 0 ≤ n.toInt) (n4 : n.toInt ≤ 400) (hQ : ∀ n' r : Int32, n.toInt ≤ n'.toInt → n'.toInt ≤ 400 → (r.toInt = -1 ∨ (n'.toInt < t.toInt ∧ 0 ≤ r.toInt ∧ r.toInt ≤ 255)) → Q (some (.int r)) (yO_nx G vs n') E = true) : xm_exec (d + 1) 132 [.ref 344] G E Q = true := by
  refine yx_exec (m := 132) rfl rfl (Nat.le_of_ble_eq_true rfl) ?_
  have h := yO_see (call := xm_exec d) hb htb h0 h1 ht hM hQ 400 n n0 (Int.le_refl _) n4 (by omega) (F := xm_fuel) (yl_fuel _ (by omega))
  rw [yO_nxid hM hn] at h
  exact h
theorem yc_see {J : xm_H → Prop} (hJ : yj_ok J) (d : Nat) : yc_ok (yi_Inv J) yi_163 (xm_exec (d + 1)) := by
  intro G As Ec Q hT hI hA hF hQ
  match As, hA with
  | [a], hA =>
    obtain ⟨j, rfl, hj⟩ := yv_ref hA.1 rfl
    have hj := yr_oneM (Int.ofNat.inj hj)
    subst hj
    obtain ⟨vs, hM, tb, t, n, a0, a1, a8, b1, b2, b3, b4⟩ := yO_of hT
    refine yO_seex b1 b2 a0 a1 b3.2 hM a8 b4.1 b4.2 (fun n' r r1 r2 r3 => ?_)
    obtain ⟨e1, e2⟩ := yO_nxHT (n := n') hT hM (by omega) r2
    refine hQ _ _ e1 (yi_nx hJ (fun w hw => by cases hw with
      | head => rfl
      | tail _ h => cases h) e1 e2 hI) e2 ⟨(some (0, (-1), 255), []), List.mem_cons_self, ⟨rfl, ?_, ?_⟩, fun q hq => by cases hq⟩
    · show -1 ≤ r.toInt
      omega
    · show r.toInt ≤ 255
      omega
/-- passWord: on over letters -/
theorem yO_pass {Q : xm_Q} {G : xm_H} {E : xm_R} {vs : List Value} {tb d : Nat} {t n0 : Int32} (hb : yt_bytes G tb) (htb : tb ≠ 344) (h0 : vs[0]? = some (.ref tb)) (h1 : vs[1]? = some (.int t)) (ht : t.toInt ≤ 400) (hM : yO G vs) (hQ : ∀ n : Int32, n0.toInt ≤ n.toInt → n.toInt ≤ 400 → Q none (yO_nx G vs n) E = true) : ∀ (m : Nat) (n : Int32), 0 ≤ n0.toInt → n0.toInt ≤ n.toInt → n.toInt ≤ 400 → (400 - n.toInt).toNat ≤ m → ∀ {F : Nat}, 20 * (m + 1) ≤ F → xm_run (xm_exec (d + 1)) xm_c136 1 0 0 none Q F (xm_drop 0 xm_c136) [(0, .ref 344)] [] (yO_nx G vs n) E 0 0 = true := by
  have l0 : xm_get [(0, Value.ref 344)] 0 = some (.ref 344) := rfl
  intro m
  induction m with
  | zero =>
    intro n z0 z1 z2 hm F hF
    obtain ⟨g, rfl⟩ : ∃ g, F = g + 20 := ⟨F - 20, by omega⟩
    have hN := yO_nxat hM n
    have g8 := yO_hit (w := .int n) hM.2
    simp only [xz_136_0, xz_136_1, xz_136_2, xz_136_3, l0, xm_isA, cond_true, xk_getf hN.1 g8, show (Nat.beq 134 1006 || Nat.beq 134 1007) = false from rfl, cond_false]
    rw [yO_call1 (a := 134) rfl hN (Nat.le_of_ble_eq_true rfl)]
    refine yO_letter (hb.mv (yO_nxs (vs := vs) n) htb) (yO_set (w := .int n) h0 (by decide)) (yO_set (w := .int n) h1 (by decide)) ht hN (by omega) (fun r hr => ?_)
    rcases hr with rfl | ⟨-, hlt⟩
    · simp only [xz_136_4, xc_int, xk_eq, decide_true, cond_true]
      simp only [xz_136_12]
      exact hQ n z1 z2
    · omega
  | succ m ih =>
    intro n z0 z1 z2 hm F hF
    obtain ⟨g, rfl⟩ : ∃ g, F = g + 20 := ⟨F - 20, by omega⟩
    have hN := yO_nxat hM n
    have g8 := yO_hit (w := .int n) hM.2
    simp only [xz_136_0, xz_136_1, xz_136_2, xz_136_3, l0, xm_isA, cond_true, xk_getf hN.1 g8, show (Nat.beq 134 1006 || Nat.beq 134 1007) = false from rfl, cond_false]
    rw [yO_call1 (a := 134) rfl hN (Nat.le_of_ble_eq_true rfl)]
    refine yO_letter (hb.mv (yO_nxs (vs := vs) n) htb) (yO_set (w := .int n) h0 (by decide)) (yO_set (w := .int n) h1 (by decide)) ht hN (by omega) (fun r hr => ?_)
    rcases hr with rfl | ⟨rfl, hlt⟩
    · simp only [xz_136_4, xc_int, xk_eq, decide_true, cond_true]
      simp only [xz_136_12]
      exact hQ n z1 z2
    · simp only [xz_136_4, xc_int, xk_eq]
      rw [show decide ((1 : Int32).toInt = (0 : Int32).toInt) = false from rfl, cond_false]
      simp only [xz_136_5, xz_136_6, xz_136_7, xz_136_8, xz_136_9, xz_136_10, l0, xm_isA, xm_cat1, xm_isL, Bool.not_false, cond_true, xk_getf hN.1 g8, xk_add]
      rw [xk_putf hN.1 (by decide) rfl (by rw [hN.2]; decide)]
      simp only [xz_136_11]
      have e1 : (1 : Int32).toInt = 1 := rfl
      have e2 := yk_add (x := n) (z := 1) (by omega) (by omega)
      have e3 : xm_hput (yO_nx G vs n) 344 (11, (vs.set 8 (.int n)).set 8 (.int (n + 1))) = yO_nx G vs (n + 1) := yO_nx2 n (n + 1)
      rw [e3]
      exact ih (n + 1) z0 (by omega) (by omega) (by omega) (by omega)
theorem yO_passx {Q : xm_Q} {G : xm_H} {E : xm_R} {vs : List Value} {tb d : Nat} {t n : Int32} (hb : yt_bytes G tb) (htb : tb ≠ 344) (h0 : vs[0]? = some (.ref tb)) (h1 : vs[1]? = some (.int t)) (ht : t.toInt ≤ 400) (hM : yO G vs) (hn : vs[8]? = some (.int n)) (n0 : 0 ≤ n.toInt) (n4 : n.toInt ≤ 400) (hQ : ∀ n' : Int32, n.toInt ≤ n'.toInt → n'.toInt ≤ 400 → Q none (yO_nx G vs n') E = true) : xm_exec (d + 2) 136 [.ref 344] G E Q = true := by
  refine yx_exec (m := 136) rfl rfl (Nat.le_of_ble_eq_true rfl) ?_
  have h := yO_pass (d := d) hb htb h0 h1 ht hM hQ 400 n n0 (Int.le_refl _) n4 (by omega) (F := xm_fuel) (yl_fuel _ (by omega))
  rw [yO_nxid hM hn] at h
  exact h
theorem yc_pass {J : xm_H → Prop} (hJ : yj_ok J) (d : Nat) : yc_ok (yi_Inv J) yi_165 (xm_exec (d + 2)) := by
  intro G As Ec Q hT hI hA hF hQ
  match As, hA with
  | [a], hA =>
    obtain ⟨j, rfl, hj⟩ := yv_ref hA.1 rfl
    have hj := yr_oneM (Int.ofNat.inj hj)
    subst hj
    obtain ⟨vs, hM, tb, t, n, a0, a1, a8, b1, b2, b3, b4⟩ := yO_of hT
    refine yO_passx b1 b2 a0 a1 b3.2 hM a8 b4.1 b4.2 (fun n' r1 r2 => ?_)
    obtain ⟨e1, e2⟩ := yO_nxHT (n := n') hT hM (by omega) r2
    exact hQ _ _ e1 (yi_nx hJ (fun w hw => by cases hw with
      | head => rfl
      | tail _ h => cases h) e1 e2 hI) e2 ⟨(none, []), List.mem_cons_self, trivial, fun q hq => by cases hq⟩
