/-! push, pop, one, reckons, summedBy of the reference -/
def yMV : yM := [(93, 18), (101, 100000)]
theorem yq_101 : yr_row 101 = some (102, 64, 1, [yr_topl]) := rfl
theorem yq_102 : yr_row 102 = some (102, 11, 1, [yr_topl]) := rfl
theorem xk_lal {G : xm_H} (hT : ys_HT G) {j r n : Nat} {T : yT} (hr : yr_of j = r) (hq : yr_row r = some (102, n, 1, [T])) {x : Int32} {v : Value} {st : List Value} {E : xm_R} {k : List Value → xm_R → Bool} (h0 : 0 ≤ x.toInt) (h : yR G j x.toInt.toNat = some v) : xm_ald (fun t => Nat.beq t 102) (.int x :: .ref j :: st) G E k = k (v :: st) E := by
  obtain ⟨vs, g1, g2, g3⟩ := hT.at hr hq
  rw [yR_eq g1] at h
  exact ys_xald g1 rfl h0 h
theorem xk_las {G : xm_H} (hT : ys_HT G) {j r n : Nat} {T : yT} (hr : yr_of j = r) (hq : yr_row r = some (102, n, 1, [T])) (hj : 7 ≤ j) {x : Int32} {w : Int64} {st : List Value} {E : xm_R} {k : List Value → xm_H → xm_R → Bool} (h0 : 0 ≤ x.toInt) (h : x.toInt < n) : xm_ast (fun t => Nat.beq t 102) xm_kL (.long w :: .int x :: .ref j :: st) G E k = k st (yU G j x.toInt.toNat (.long w)) E := by
  obtain ⟨vs, g1, g2, g3⟩ := hT.at hr hq
  rw [yU_eq g1, ys_xast (ok := fun t => Nat.beq t 102) (okv := xm_kL) (w' := .long w) (show xm_kL (.long w) = some (.long w) from rfl) g1 rfl hj h0 (by rw [g2]; show x.toInt.toNat < n; omega), xl_put]
theorem xk_lsub {x y : Int64} {st : List Value} {k : List Value → Bool} : xm_long2 .lsub (.long y :: .long x :: st) k = k (.long (x - y) :: st) := rfl
theorem xk_shr {x : Int32} {st : List Value} {E : xm_R} {k : List Value → xm_R → Bool} : xm_ishr (.int 4 :: .int x :: st) E k = k (.int (x >>> (4 &&& 31)) :: st) E := by
  show xm_int2 .ishr (.int 4 :: .int x :: st) E k = _
  exact ys_fi2 (i := .ishr) (x := x) (z := 4) (c := x >>> (4 &&& 31)) rfl
/-- the height is h -/
def yW8 (G0 G : xm_H) (h : Nat) : Prop := ys_HT G ∧ ys_Fr yMV G0 G ∧ ∃ x : Int32, yR G 344 18 = some (.int x) ∧ x.toInt = h
section RV
variable {G0 G G' : xm_H} {h d : Nat} {Q : xm_Q} {E : xm_R}
theorem yW8.obj (hV : yW8 G0 G h) : ∃ vs, yO G vs := by
  obtain ⟨vs, hM, -⟩ := yO_of hV.1
  exact ⟨vs, hM⟩
theorem yW8.fr0 (hV : yW8 G0 G h) (hT : ys_HT G') (hF : ys_Fr [] G G') : yW8 G0 G' h := by
  obtain ⟨a, b, x, hx, hh⟩ := hV
  exact ⟨hT, b.trans (hF.mds rfl), x, yR_fr hF rfl hx, hh⟩
theorem yW8.push (hV : yW8 G0 G h) (hh : h < 64) {v : Int64} (hQ : ∀ G' : xm_H, yW8 G0 G' (h + 1) → Q none G' E = true) : xm_exec (d + 1) 171 [.ref 344, .long v] G E Q = true := by
  obtain ⟨a1, a2, x, hx, hxh⟩ := hV
  refine yx_exec (m := 171) rfl rfl (Nat.le_of_ble_eq_true rfl) ?_
  obtain ⟨g, hg⟩ := xn_f
  rw [hg]
  have n1 : (1 : Int32).toInt = 1 := rfl
  have l0 : xm_get (lv_args 0 [Value.ref 344, .long v]) 0 = some (.ref 344) := rfl
  have l1 : xm_get (lv_args 0 [Value.ref 344, .long v]) 1 = some (.long v) := rfl
  show xm_run (xm_exec d) xm_c171 3 0 0 none Q (g + 40000) (xm_drop 0 xm_c171) (lv_args 0 [.ref 344, .long v]) [] G E 0 0 = true
  generalize lv_args 0 [Value.ref 344, .long v] = lv at l0 l1 ⊢
  have r17 : yR G 344 17 = some (.ref 352) := yM_ref a1 (r := 101) (by decide) rfl (by decide)
  simp only [xy_171_0 l0, xz_171_1, xy_171_2 l0, xz_171_3, xy_171_4 l1, xk_gf a1 r17, xk_gf a1 hx]
  rw [xz_171_5, xk_las a1 (j := 352) (r := 101) rfl yq_101 (by decide) (by omega) (by show _ < ((64 : Nat) : Int); omega)]
  obtain ⟨x1, x2⟩ := yU_HT (md := yMV) a1 (j := 352) (i := x.toInt.toNat) (w := .long v) (r := 101) rfl yq_101 (show _ < 64 by omega) yv_one ⟨rfl, ys_b64 v⟩ (yf_mod (by show _ ∈ ([(93, 18), (101, 100000)] : List (Nat × Nat)); simp))
  have hx1 : yR (yU G 352 x.toInt.toNat (.long v)) 344 18 = some (.int x) := by rw [yU_miss (Or.inl (by decide))]; exact hx
  generalize yU G 352 x.toInt.toNat (.long v) = G1 at x1 x2 hx1 ⊢
  simp only [xy_171_6 l0, xy_171_7, xz_171_8, xz_171_9, xy_171_10, xk_gf x1 hx1]
  rw [xz_171_11, xk_pf x1 rfl (by decide)]
  have ix : (x + 1).toInt = x.toInt + 1 := by rw [yk_add] <;> rw [n1] <;> omega
  obtain ⟨y1, y2⟩ := yU_HT (md := yMV) x1 (j := 344) (i := 18) (w := .int (x + 1)) ym_344 yq_93 (by rw [yq93_2]; decide) (show yr_ty yq93 18 = some (0, 0, 64) from rfl) ⟨rfl, by show 0 ≤ (x + 1).toInt; omega, by show (x + 1).toInt ≤ 64; omega⟩ rfl
  have hx2 := yU_hit (w := .int (x + 1)) hx1
  generalize yU G1 344 18 (.int (x + 1)) = G2 at y1 y2 hx2 ⊢
  simp only [xy_171_12]
  exact hQ G2 ⟨y1, (a2.trans x2).trans y2, x + 1, hx2, by omega⟩
theorem yW8.pop (hV : yW8 G0 G (h + 1)) (hh : h < 64) (hQ : ∀ (G' : xm_H) (v : Int64), yW8 G0 G' h → Q (some (.long v)) G' E = true) : xm_exec (d + 1) 172 [.ref 344] G E Q = true := by
  obtain ⟨a1, a2, x, hx, hxh⟩ := hV
  refine yx_exec (m := 172) rfl rfl (Nat.le_of_ble_eq_true rfl) ?_
  obtain ⟨g, hg⟩ := xn_f
  rw [hg]
  have n1 : (1 : Int32).toInt = 1 := rfl
  have l0 : xm_get (lv_args 0 [Value.ref 344]) 0 = some (.ref 344) := rfl
  show xm_run (xm_exec d) xm_c172 1 0 0 (some .long) Q (g + 40000) (xm_drop 0 xm_c172) (lv_args 0 [.ref 344]) [] G E 0 0 = true
  generalize lv_args 0 [Value.ref 344] = lv at l0 ⊢
  simp only [xy_172_0 l0, xy_172_1, xz_172_2, xz_172_3, xy_172_4, xk_gf a1 hx]
  rw [xz_172_5, xk_pf a1 rfl (by decide)]
  have ix : (x - 1).toInt = x.toInt - 1 := by rw [yk_sub] <;> rw [n1] <;> omega
  obtain ⟨y1, y2⟩ := yU_HT (md := yMV) a1 (j := 344) (i := 18) (w := .int (x - 1)) ym_344 yq_93 (by rw [yq93_2]; decide) (show yr_ty yq93 18 = some (0, 0, 64) from rfl) ⟨rfl, by show 0 ≤ (x - 1).toInt; omega, by show (x - 1).toInt ≤ 64; omega⟩ rfl
  have hx2 := yU_hit (w := .int (x - 1)) hx
  generalize yU G 344 18 (.int (x - 1)) = G1 at y1 y2 hx2 ⊢
  have r17 : yR G1 344 17 = some (.ref 352) := yM_ref y1 (r := 101) (by decide) rfl (by decide)
  obtain ⟨v, v1, v2⟩ := yR_ty y1 (j := 352) (r := 101) (i := (x - 1).toInt.toNat) rfl yq_101 (show _ < 64 by omega) yv_one
  obtain ⟨w, rfl⟩ := yv_long v2 rfl
  simp only [xy_172_6 l0, xz_172_7, xy_172_8 l0, xz_172_9, xk_gf y1 r17, xk_gf y1 hx2]
  rw [xz_172_10, xk_lal y1 (j := 352) (r := 101) rfl yq_101 (by omega) v1]
  simp only [xy_172_11]
  exact hQ G1 w ⟨y1, a2.trans y2, x - 1, hx2, by omega⟩
end RV
/-- one: by the interval machine -/
def yi_one : yI := (173, [yr_top, yr_topl, yr_topl], [], [(some yr_topl, [])], [])
theorem yk_one : yk_en [] yi_one [] [] [] (fun _ _ => none) [] = true := by decide +kernel
theorem yc_one : ∀ d, 4 ≤ d → yc_ok (fun _ => True) yi_one (xm_exec d) := ys_inst (tb := []) (mw := []) (W := []) (H := []) (hk := fun _ _ => none) (sp := []) (D0 := 0) (fun _ _ _ _ _ _ _ => trivial) (fun J h => absurd h List.not_mem_nil) (ys_nohk _ _) yk_one (fun _ h => absurd h List.not_mem_nil)
theorem yO_scall3 {call : xm_C} {G : xm_H} {E : xm_R} {mc ms : Nat} {v1 v2 v3 : Value} {st : List Value} {k : List Value → xm_H → xm_R → Nat → Nat → Bool} (hc : xm_cats st ≤ 8) : xm_call call mc ms 173 1 (v3 :: v2 :: v1 :: st) G E 0 0 k = call 173 [v1, v2, v3] G E (fun r G E => k (match r with
    | some v => v :: st
    | none => st) G E 0 0) := by
  unfold xm_call
  show (bif Nat.ble (xm_cats st) 8 && xm_rcv 1 "StairNewsModel" G [v1, v2, v3] then call 173 [v1, v2, v3] G E _ else false) = _
  rw [Nat.ble_eq_true_of_le hc]
  rfl
theorem yW8_one {G0 G : xm_H} {h d : Nat} {Q : xm_Q} {E : xm_R} (hV : yW8 G0 G h) {s : Int32} {x y : Int64} (hQ : ∀ (G' : xm_H) (v : Int64), yW8 G0 G' h → Q (some (.long v)) G' E = true) : xm_exec (d + 4) 173 [.int s, .long x, .long y] G E Q = true := by
  refine yc_one (d + 4) (by omega) G [.int s, .long x, .long y] E Q hV.1 trivial ⟨⟨rfl, ys_b32 _⟩, ⟨rfl, ys_b64 x⟩, ⟨rfl, ys_b64 y⟩, trivial⟩ (fun q hq => by cases hq) (fun r G' hT _ hF hc => ?_)
  obtain ⟨c, c1, c2⟩ := hc
  have c1 : c ∈ ([(some yr_topl, [])] : List (Option yT × List yP)) := c1
  rw [List.mem_singleton] at c1
  subst c1
  match r, c2.1 with
  | some v, h1 =>
    obtain ⟨w, rfl⟩ := yv_long (T := yr_topl) h1 rfl
    exact hQ G' w (hV.fr0 hT hF)
/-! the heights step by step -/
theorem yHs_pre {f : Nat → Option Value} {p : Nat} : ∀ {n m x : Nat}, yHs f p n = some x → m ≤ n → ∃ y, yHs f p m = some y
  | 0, m, x, h, hm => by
    have : m = 0 := by omega
    subst this
    exact ⟨x, h⟩
  | n + 1, m, x, h, hm => by
    by_cases e : m = n + 1
    · subst e
      exact ⟨x, h⟩
    · have h : (yHs f p n).bind (yH1 (f (p + n))) = some x := h
      cases hq : yHs f p n with
      | none => rw [hq] at h; cases h
      | some z => exact yHs_pre hq (by omega)
theorem yHs_step {f : Nat → Option Value} {p n x y : Nat} (h1 : yHs f p n = some x) (h2 : yHs f p (n + 1) = some y) : yH1 (f (p + n)) x = some y := by
  have h2 : (yHs f p n).bind (yH1 (f (p + n))) = some y := h2
  rw [h1] at h2
  exact h2
theorem yH1_inv {x : Int32} {k k' : Nat} (h : yH1 (some (.int x)) k = some k') : (x &&& 15 = 0 ∧ k < 64 ∧ k' = k + 1) ∨ (x &&& 15 = 1 ∧ k < 64 ∧ (0 ≤ (x >>> (4 &&& 31)).toInt ∧ (x >>> (4 &&& 31)).toInt ≤ 10) ∧ k' = k + 1) ∨ (x &&& 15 = 11 ∧ 1 ≤ k ∧ k' = k) ∨ ((x &&& 15 ≠ 0 ∧ x &&& 15 ≠ 1 ∧ x &&& 15 ≠ 11) ∧ 2 ≤ k ∧ k' = k - 1) := by
  unfold yH1 at h
  dsimp only at h
  by_cases e0 : x &&& 15 = 0
  · rw [if_pos e0] at h
    by_cases hk : k < 64
    · rw [if_pos hk] at h
      cases h
      exact Or.inl ⟨e0, hk, rfl⟩
    · rw [if_neg hk] at h; cases h
  rw [if_neg e0] at h
  by_cases e1 : x &&& 15 = 1
  · rw [if_pos e1] at h
    by_cases hk : k < 64 ∧ 0 ≤ (x >>> (4 &&& 31)).toInt ∧ (x >>> (4 &&& 31)).toInt ≤ 10
    · rw [if_pos hk] at h
      cases h
      exact Or.inr (Or.inl ⟨e1, hk.1, hk.2, rfl⟩)
    · rw [if_neg hk] at h; cases h
  rw [if_neg e1] at h
  by_cases e2 : x &&& 15 = 11
  · rw [if_pos e2] at h
    by_cases hk : 1 ≤ k
    · rw [if_pos hk] at h
      cases h
      exact Or.inr (Or.inr (Or.inl ⟨e2, hk, rfl⟩))
    · rw [if_neg hk] at h; cases h
  rw [if_neg e2] at h
  by_cases hk : 2 ≤ k
  · rw [if_pos hk] at h
    cases h
    exact Or.inr (Or.inr (Or.inr ⟨⟨e0, e1, e2⟩, hk, rfl⟩))
  · rw [if_neg hk] at h; cases h
theorem yW8.le {G0 G : xm_H} {h : Nat} (hV : yW8 G0 G h) : h ≤ 64 := by
  obtain ⟨a1, a2, x, hx, hh⟩ := hV
  have := yM_intx a1 (i := 18) (lo := 0) (hi := 64) hx (by decide) rfl
  omega
section RR
variable {G0 : xm_H} {d : Nat} {Q : xm_Q} {E : xm_R} {t b e : Int32} {hh : Nat}
theorem yW8_rb (hT0 : ys_HT G0) (ht : 0 ≤ t.toInt ∧ t.toInt ≤ 5) (hb0 : 0 ≤ b.toInt) (he : e.toInt ≤ 400) (hH : yHs (yR G0 346) (400 * t.toInt.toNat + b.toInt.toNat) (e.toInt.toNat - b.toInt.toNat) = some (hh + 1)) (hQ : ∀ (G' : xm_H) (v : Int64), yW8 G0 G' hh → Q (some (.long v)) G' E = true) : ∀ (n : Nat) (G : xm_H) (i : Int32) (k : Nat) (lv : xm_L), (e.toInt - i.toInt).toNat ≤ n → b.toInt ≤ i.toInt → i.toInt ≤ e.toInt → yHs (yR G0 346) (400 * t.toInt.toNat + b.toInt.toNat) (i.toInt.toNat - b.toInt.toNat) = some k → yW8 G0 G k → xm_get lv 0 = some (.ref 344) → xm_get lv 1 = some (.int t) → xm_get lv 3 = some (.int e) → xm_get lv 4 = some (.int i) → ∀ {F : Nat}, 100 * (n + 1) ≤ F → xm_run (xm_exec (d + 4)) xm_c174 11 0 0 (some .long) Q F (xm_drop 5 xm_c174) lv [] G E 0 0 = true := by
  have n1 : (1 : Int32).toInt = 1 := rfl
  have n11 : (11 : Int32).toInt = 11 := rfl
  have m400 : (400 : Int32).toInt = 400 := rfl
  intro n
  induction n with
  | zero =>
    intro G i k lv hn hi0 hi1 hk hV l0 l1 l3 l4 F hFu
    obtain ⟨f, rfl⟩ : ∃ f, F = f + 100 := ⟨F - 100, by omega⟩
    simp only [xy_174_5 l4, xy_174_6 l3, xy_174_7]
    rw [decide_eq_false (show ¬ i.toInt < e.toInt by omega), Bool.not_false, cond_true]
    have ei : i.toInt = e.toInt := by omega
    rw [ei, hH] at hk
    cases hk
    obtain ⟨v0, hM0⟩ := hV.obj
    have hle := hV.le
    simp only [xy_174_71 l0, xy_174_72]
    rw [yO_call0 (a := 172) rfl hM0 (Nat.le_of_ble_eq_true rfl)]
    refine hV.pop (by omega) (fun G1 v V1 => ?_)
    simp only [xy_174_73]
    exact hQ G1 v V1
  | succ n ih =>
    intro G i k lv hn hi0 hi1 hk hV l0 l1 l3 l4 F hFu
    obtain ⟨f, rfl⟩ : ∃ f, F = f + 100 := ⟨F - 100, by omega⟩
    have hle := hV.le
    simp only [xy_174_5 l4, xy_174_6 l3, xy_174_7]
    by_cases hlt : i.toInt < e.toInt
    · rw [decide_eq_true hlt, Bool.not_true, cond_false]
      have k346 : yR G 346 = yR G0 346 := funext (yR_frx hT0 hV.2.1 (r := 95) rfl yq_95 (fun i => rfl))
      have i1 : (400 * t : Int32).toInt = 400 * t.toInt := by rw [yk_mul] <;> rw [m400] <;> omega
      have i2 : (400 * t + i : Int32).toInt = 400 * t.toInt + i.toInt := by rw [yk_add] <;> rw [i1] <;> omega
      have i3 : (i + Int32.ofInt 1).toInt = i.toInt + 1 := by
        show (i + 1).toInt = _
        rw [yk_add] <;> rw [n1] <;> omega
      obtain ⟨x, hx, -⟩ := yA_int hV.1 (j := 346) (r := 95) (i := (400 * t + i : Int32).toInt.toNat) rfl yq_95 (by omega)
      have hx0 : yR G0 346 (400 * t.toInt.toNat + b.toInt.toNat + (i.toInt.toNat - b.toInt.toNat)) = some (.int x) := by
        rw [← k346, show 400 * t.toInt.toNat + b.toInt.toNat + (i.toInt.toNat - b.toInt.toNat) = (400 * t + i : Int32).toInt.toNat by omega]
        exact hx
      obtain ⟨k', hk'⟩ := yHs_pre hH (m := i.toInt.toNat - b.toInt.toNat + 1) (by omega)
      have hst := yHs_step hk hk'
      rw [hx0] at hst
      have hk'' : yHs (yR G0 346) (400 * t.toInt.toNat + b.toInt.toNat) ((i + Int32.ofInt 1).toInt.toNat - b.toInt.toNat) = some k' := by
        rw [show (i + Int32.ofInt 1).toInt.toNat - b.toInt.toNat = i.toInt.toNat - b.toInt.toNat + 1 by omega]
        exact hk'
      -- on to the next
      have t69 : ∀ (G1 : xm_H) (lv1 : xm_L) (F : Nat), 100 * (n + 1) + 5 ≤ F → yW8 G0 G1 k' → xm_get lv1 0 = some (.ref 344) → xm_get lv1 1 = some (.int t) → xm_get lv1 3 = some (.int e) → xm_get lv1 4 = some (.int i) → xm_run (xm_exec (d + 4)) xm_c174 11 0 0 (some .long) Q F (xm_drop 69 xm_c174) lv1 [] G1 E 0 0 = true := by
        intro G1 lv1 F hFu V1 l0 l1 l3 l4
        obtain ⟨f, rfl⟩ : ∃ f, F = f + 5 := ⟨F - 5, by omega⟩
        simp only [xy_174_69 l4, xy_174_70]
        exact ih G1 (i + Int32.ofInt 1) k' _ (by omega) (by omega) (by omega) hk'' V1 (xl_s1 (by decide) (Or.inl rfl) l0) (xl_s1 (by decide) (Or.inl rfl) l1) (xl_s1 (by decide) (Or.inl rfl) l3) xl_gs1 (by omega)
      have r3 : yR G 344 3 = some (.ref 346) := yM_ref hV.1 (r := 95) (by decide) rfl (by decide)
      simp only [xy_174_8 l0, xz_174_9, xz_174_10, xy_174_11 l1, xy_174_12, xy_174_13 l4, xy_174_14, xz_174_15, xz_174_16, xy_174_17, xy_174_18, xk_gf hV.1 r3, xk_ial hV.1 (j := 346) (r := 95) rfl yq_95 rfl (show 0 ≤ (400 * t + i : Int32).toInt by omega) hx]
      have l5 : xm_get (xm_set1 lv 5 (.int (x &&& 15))) 5 = some (.int (x &&& 15)) := xl_gs1
      replace l0 : xm_get (xm_set1 lv 5 (.int (x &&& 15))) 0 = some (.ref 344) := xl_s1 (by decide) (Or.inl rfl) l0
      replace l1 : xm_get (xm_set1 lv 5 (.int (x &&& 15))) 1 = some (.int t) := xl_s1 (by decide) (Or.inl rfl) l1
      replace l3 : xm_get (xm_set1 lv 5 (.int (x &&& 15))) 3 = some (.int e) := xl_s1 (by decide) (Or.inl rfl) l3
      replace l4 : xm_get (xm_set1 lv 5 (.int (x &&& 15))) 4 = some (.int i) := xl_s1 (by decide) (Or.inl rfl) l4
      generalize xm_set1 lv 5 (.int (x &&& 15)) = lv1 at l0 l1 l3 l4 l5 ⊢
      simp only [xy_174_19 l0, xz_174_20, xz_174_21, xy_174_22 l1, xy_174_23, xy_174_24 l4, xy_174_25, xz_174_26, xz_174_27, xk_gf hV.1 r3, xk_ial hV.1 (j := 346) (r := 95) rfl yq_95 rfl (show 0 ≤ (400 * t + i : Int32).toInt by omega) hx]
      rw [xz_174_28, xk_shr]
      simp only [xy_174_29]
      have l6 : xm_get (xm_set1 lv1 6 (.int (x >>> (4 &&& 31)))) 6 = some (.int (x >>> (4 &&& 31))) := xl_gs1
      replace l0 : xm_get (xm_set1 lv1 6 (.int (x >>> (4 &&& 31)))) 0 = some (.ref 344) := xl_s1 (by decide) (Or.inl rfl) l0
      replace l1 : xm_get (xm_set1 lv1 6 (.int (x >>> (4 &&& 31)))) 1 = some (.int t) := xl_s1 (by decide) (Or.inl rfl) l1
      replace l3 : xm_get (xm_set1 lv1 6 (.int (x >>> (4 &&& 31)))) 3 = some (.int e) := xl_s1 (by decide) (Or.inl rfl) l3
      replace l4 : xm_get (xm_set1 lv1 6 (.int (x >>> (4 &&& 31)))) 4 = some (.int i) := xl_s1 (by decide) (Or.inl rfl) l4
      replace l5 : xm_get (xm_set1 lv1 6 (.int (x >>> (4 &&& 31)))) 5 = some (.int (x &&& 15)) := xl_s1 (by decide) (Or.inl rfl) l5
      generalize xm_set1 lv1 6 (.int (x >>> (4 &&& 31))) = lv2 at l0 l1 l3 l4 l5 l6 ⊢
      obtain ⟨v0, hM0⟩ := hV.obj
      have hin := yH1_inv hst
      generalize x >>> (4 &&& 31) = v at l6 hin ⊢
      generalize x &&& 15 = s at l5 hin ⊢
      have inj : ∀ z : Int32, s.toInt = z.toInt → s = z := fun z hz => Int32.toInt_inj.mp hz
      simp only [xy_174_30 l5, xy_174_31]
      rcases hin with ⟨rfl, q1, rfl⟩ | ⟨rfl, q1, q2, rfl⟩ | ⟨rfl, q1, ek⟩ | ⟨q0, q1, q2⟩
      · rw [xi_0, Bool.not_true, cond_false]
        simp only [xy_174_32 l0, xy_174_33 l6, xy_174_34, xy_174_35]
        rw [yO_call1 (a := 171) rfl hM0 (Nat.le_of_ble_eq_true rfl)]
        refine hV.push q1 (fun G1 V1 => ?_)
        simp only [xy_174_36]
        exact t69 G1 lv2 _ (by omega) V1 l0 l1 l3 l4
      · rw [xi_1, Bool.not_false, cond_true]
        simp only [xy_174_37 l5, xz_174_38, xy_174_39, decide_true, Bool.not_true, cond_false]
        have r19 : yR G 344 19 = some (.ref 353) := yM_ref hV.1 (r := 102) (by decide) rfl (by decide)
        obtain ⟨w, w1, w2⟩ := yR_ty hV.1 (j := 353) (r := 102) (i := v.toInt.toNat) rfl yq_102 (show _ < 11 by omega) yv_one
        obtain ⟨w, rfl⟩ := yv_long w2 rfl
        simp only [xy_174_40 l0, xy_174_41 l0, xz_174_42, xy_174_43 l6, xk_gf hV.1 r19]
        rw [xz_174_44, xk_lal hV.1 (j := 353) (r := 102) rfl yq_102 q2.1 w1]
        simp only [xy_174_45]
        rw [yO_call1 (a := 171) rfl hM0 (Nat.le_of_ble_eq_true rfl)]
        refine hV.push q1 (fun G1 V1 => ?_)
        simp only [xy_174_46]
        exact t69 G1 lv2 _ (by omega) V1 l0 l1 l3 l4
      · rw [show decide ((11 : Int32).toInt = 0) = false from rfl, Bool.not_false, cond_true]
        simp only [xy_174_37 l5, xz_174_38, xy_174_39, n1, n11]
        rw [show decide ((11 : Int) = 1) = false from rfl, Bool.not_false, cond_true]
        simp only [xy_174_47 l5, xz_174_48, xy_174_49, decide_true, Bool.not_true, cond_false]
        simp only [xy_174_50 l0, xz_174_51, xy_174_52 l0, xy_174_53]
        rw [yO_call0 (a := 172) rfl hM0 (Nat.le_of_ble_eq_true rfl)]
        obtain ⟨k1, rfl⟩ : ∃ k1, k = k1 + 1 := ⟨k - 1, by omega⟩
        refine hV.pop (by omega) (fun G1 y V1 => ?_)
        obtain ⟨v1, hM1⟩ := V1.obj
        rw [xz_174_54, xk_lsub]
        simp only [xy_174_55]
        rw [yO_call1 (a := 171) rfl hM1 (Nat.le_of_ble_eq_true rfl)]
        refine V1.push (by omega) (fun G2 V2 => ?_)
        rw [← ek] at V2
        simp only [xy_174_56]
        exact t69 G2 lv2 _ (by omega) V2 l0 l1 l3 l4
      · rw [decide_eq_false (show ¬ s.toInt = 0 from fun q => q0.1 (inj 0 q)), Bool.not_false, cond_true]
        simp only [xy_174_37 l5, xz_174_38, xy_174_39]
        rw [decide_eq_false (fun q => q0.2.1 (inj 1 q)), Bool.not_false, cond_true]
        simp only [xy_174_47 l5, xz_174_48, xy_174_49]
        rw [decide_eq_false (fun q => q0.2.2 (inj 11 q)), Bool.not_false, cond_true]
        simp only [xy_174_57 l0, xy_174_58]
        rw [yO_call0 (a := 172) rfl hM0 (Nat.le_of_ble_eq_true rfl)]
        obtain ⟨k1, rfl⟩ : ∃ k1, k = k1 + 2 := ⟨k - 2, by omega⟩
        refine hV.pop (h := k1 + 1) (by omega) (fun G1 y V1 => ?_)
        simp only [xy_174_59]
        have l7 : xm_get (xm_set2 lv2 7 (.long y)) 7 = some (.long y) := xl_h2
        replace l0 : xm_get (xm_set2 lv2 7 (.long y)) 0 = some (.ref 344) := xl_s2 (by decide) (by decide) (Or.inl rfl) l0
        replace l1 : xm_get (xm_set2 lv2 7 (.long y)) 1 = some (.int t) := xl_s2 (by decide) (by decide) (Or.inl rfl) l1
        replace l3 : xm_get (xm_set2 lv2 7 (.long y)) 3 = some (.int e) := xl_s2 (by decide) (by decide) (Or.inl rfl) l3
        replace l4 : xm_get (xm_set2 lv2 7 (.long y)) 4 = some (.int i) := xl_s2 (by decide) (by decide) (Or.inl rfl) l4
        replace l5 : xm_get (xm_set2 lv2 7 (.long y)) 5 = some (.int s) := xl_s2 (by decide) (by decide) (Or.inl rfl) l5
        generalize xm_set2 lv2 7 (.long y) = lv3 at l0 l1 l3 l4 l5 l7 ⊢
        obtain ⟨v1, hM1⟩ := V1.obj
        simp only [xy_174_60 l0, xy_174_61]
        rw [yO_call0 (a := 172) rfl hM1 (Nat.le_of_ble_eq_true rfl)]
        refine V1.pop (by omega) (fun G2 z V2 => ?_)
        simp only [xy_174_62]
        have l9 : xm_get (xm_set2 lv3 9 (.long z)) 9 = some (.long z) := xl_h2
        replace l0 : xm_get (xm_set2 lv3 9 (.long z)) 0 = some (.ref 344) := xl_s2 (by decide) (by decide) (Or.inl rfl) l0
        replace l1 : xm_get (xm_set2 lv3 9 (.long z)) 1 = some (.int t) := xl_s2 (by decide) (by decide) (Or.inl rfl) l1
        replace l3 : xm_get (xm_set2 lv3 9 (.long z)) 3 = some (.int e) := xl_s2 (by decide) (by decide) (Or.inl rfl) l3
        replace l4 : xm_get (xm_set2 lv3 9 (.long z)) 4 = some (.int i) := xl_s2 (by decide) (by decide) (Or.inl rfl) l4
        replace l5 : xm_get (xm_set2 lv3 9 (.long z)) 5 = some (.int s) := xl_s2 (by decide) (by decide) (Or.inl rfl) l5
        replace l7 : xm_get (xm_set2 lv3 9 (.long z)) 7 = some (.long y) := xl_s2 (by decide) (by decide) (Or.inr (by decide)) l7
        generalize xm_set2 lv3 9 (.long z) = lv4 at l0 l1 l3 l4 l5 l7 l9 ⊢
        simp only [xy_174_63 l0, xy_174_64 l5, xy_174_65 l9, xy_174_66 l7]
        rw [xy_174_67, yO_scall3 (Nat.le_of_ble_eq_true rfl)]
        refine yW8_one V2 (fun G3 w V3 => ?_)
        obtain ⟨v3, hM3⟩ := V3.obj
        simp only [xy_174_68]
        rw [yO_call1 (a := 171) rfl hM3 (Nat.le_of_ble_eq_true rfl)]
        refine V3.push (by omega) (fun G4 V4 => ?_)
        have ek : k' = k1 + 1 := by omega
        rw [← ek] at V4
        exact t69 G4 lv4 _ (by omega) V4 l0 l1 l3 l4
    · rw [decide_eq_false hlt, Bool.not_false, cond_true]
      have ei : i.toInt = e.toInt := by omega
      rw [ei, hH] at hk
      cases hk
      obtain ⟨v0, hM0⟩ := hV.obj
      simp only [xy_174_71 l0, xy_174_72]
      rw [yO_call0 (a := 172) rfl hM0 (Nat.le_of_ble_eq_true rfl)]
      refine hV.pop (by omega) (fun G1 v V1 => ?_)
      simp only [xy_174_73]
      exact hQ G1 v V1
/-- reckons -/
theorem yW8_reckons {G : xm_H} (hT : ys_HT G) (hF : ys_Fr yMV G0 G) (ht : 0 ≤ t.toInt ∧ t.toInt ≤ 5) (hok : yOk (yR G 346) t.toInt.toNat b e) (hQ : ∀ (G' : xm_H) (v : Int64), ys_HT G' → ys_Fr yMV G0 G' → Q (some (.long v)) G' E = true) : xm_exec (d + 5) 174 [.ref 344, .int t, .int b, .int e] G E Q = true := by
  obtain ⟨q1, q2, q3, hh, q4⟩ := hok
  refine yx_exec (m := 174) rfl rfl (Nat.le_of_ble_eq_true rfl) ?_
  obtain ⟨g, hg⟩ : ∃ g, xm_fuel = g + 50000 := ⟨xm_fuel - 50000, by have := yl_fuel 50000 (by omega); omega⟩
  rw [hg]
  have l0 : xm_get (lv_args 0 [Value.ref 344, .int t, .int b, .int e]) 0 = some (.ref 344) := rfl
  have l1 : xm_get (lv_args 0 [Value.ref 344, .int t, .int b, .int e]) 1 = some (.int t) := rfl
  have l2 : xm_get (lv_args 0 [Value.ref 344, .int t, .int b, .int e]) 2 = some (.int b) := rfl
  have l3 : xm_get (lv_args 0 [Value.ref 344, .int t, .int b, .int e]) 3 = some (.int e) := rfl
  show xm_run (xm_exec (d + 4)) xm_c174 11 0 0 (some .long) Q (g + 50000) (xm_drop 0 xm_c174) (lv_args 0 [.ref 344, .int t, .int b, .int e]) [] G E 0 0 = true
  generalize lv_args 0 [Value.ref 344, .int t, .int b, .int e] = lv at l0 l1 l2 l3 ⊢
  simp only [xy_174_0 l0, xz_174_1]
  rw [xz_174_2, xk_pf hT rfl (by decide)]
  obtain ⟨y1, y2⟩ := yU_HT (md := yMV) hT (j := 344) (i := 18) (w := .int 0) ym_344 yq_93 (by rw [yq93_2]; decide) (show yr_ty yq93 18 = some (0, 0, 64) from rfl) ⟨rfl, by decide, by decide⟩ rfl
  have k18 : yR (yU G 344 18 (.int 0)) 344 18 = some (.int 0) := by
    obtain ⟨z, z1, -⟩ := yM_int hT (i := 18) (lo := 0) (hi := 64) (by decide) rfl
    exact yU_hit z1
  have k346 : yR (yU G 344 18 (.int 0)) 346 = yR G 346 := funext (fun i => yU_miss (Or.inl (by decide)))
  generalize yU G 344 18 (.int 0) = G1 at y1 y2 k18 k346 ⊢
  simp only [xy_174_3 l2, xy_174_4]
  refine yW8_rb (G0 := G1) y1 ht q1 q3 (by rw [k346]; exact q4) (fun G' v V' => hQ G' v V'.1 ((hF.trans y2).trans V'.2.1)) 400 G1 b 0 _ (by omega) (Int.le_refl _) q2 (by rw [Nat.sub_self]; rfl) ⟨y1, ys_Fr.refl _ _, 0, k18, rfl⟩ (xl_s1 (by decide) (Or.inl rfl) l0) (xl_s1 (by decide) (Or.inl rfl) l1) (xl_s1 (by decide) (Or.inl rfl) l3) xl_gs1 (by omega)
end RR
