/-! puts, makes, opens -/
theorem yk_sub {x z : Int32} (h1 : -2147483648 ≤ x.toInt - z.toInt) (h2 : x.toInt - z.toInt ≤ 2147483647) : (x - z).toInt = x.toInt - z.toInt := by
  rw [Int32.toInt_sub, ys_bm h1 h2]
theorem yk_mul {x z : Int32} (h1 : -2147483648 ≤ x.toInt * z.toInt) (h2 : x.toInt * z.toInt ≤ 2147483647) : (x * z).toInt = x.toInt * z.toInt := by
  rw [Int32.toInt_mul, ys_bm h1 h2]
theorem yl_toNat {x z : Int32} (h : x.toInt = z.toInt) : x = z := Int32.toInt_inj.mp h
theorem yf_mod {r i : Nat} : ∀ {md : yM}, (r, 100000) ∈ md → ym_mod md r i = true
  | p :: md, h => by
    show ((Nat.beq p.1 r && (Nat.beq p.2 i || Nat.beq p.2 100000)) || ym_mod md r i) = true
    rcases List.mem_cons.mp h with e | e
    · rw [← e]
      show ((Nat.beq r r && (Nat.beq 100000 i || true)) || _) = true
      rw [Nat.beq_refl, Bool.or_true]
      rfl
    · rw [yf_mod e, Bool.or_true]
theorem yMD_m {r i : Nat} (h : r = 95 ∨ r = 96 ∨ r = 100) : ym_mod yMD r i = true := by
  refine yf_mod ?_
  show (r, 100000) ∈ ([(93, 8), (93, 9), (93, 10), (93, 12), (93, 13), (93, 16), (95, 100000), (96, 100000), (100, 100000)] : List (Nat × Nat))
  rcases h with rfl | rfl | rfl <;> simp
section PP
variable {G0 G G' : xm_H} {t L O m dp : Int32} {op : Nat → Option Value} {b h d : Nat} {Q : xm_Q} {E : xm_R}
theorem yS.refs (hS : yS G0 G t L O m dp op b h) : yR G 344 3 = some (.ref 346) ∧ yR G 344 4 = some (.ref 347) ∧ yR G 344 5 = some (.ref 348) ∧ yR G 344 6 = some (.ref 349) ∧ yR G 344 15 = some (.ref 351) := ⟨yM_ref hS.1.1 (r := 95) (by decide) rfl (by decide), yM_ref hS.1.1 (r := 96) (by decide) rfl (by decide), yM_ref hS.1.1 (r := 97) (by decide) rfl (by decide), yM_ref hS.1.1 (r := 98) (by decide) rfl (by decide), yM_ref hS.1.1 (r := 100) (by decide) rfl (by decide)⟩
/-- a word of code is laid behind the others -/
theorem yMI_put {t L : Int32} {G : xm_H} {w : Value} (h0 : 0 ≤ t.toInt) (hL0 : 0 ≤ L.toInt) (hL : L.toInt < 400) (h : yMI t.toInt L.toInt G) : yMI t.toInt (L.toInt + 1) (yU G 346 (400 * t.toInt.toNat + L.toInt.toNat) w) := by
  intro t' ht n hn c hc
  rw [yU_miss (Or.inl (by decide))] at hn
  obtain ⟨b0, e0, b1, e1, p1, p2, p3, p4, p5, p6, p7⟩ := h t' ht n hn c hc
  have k : ∀ b e : Int32, yOk (yR G 346) t' b e → ((t' : Int) = t.toInt → e.toInt ≤ L.toInt) → yOk (yR (yU G 346 (400 * t.toInt.toNat + L.toInt.toNat) w) 346) t' b e := by
    intro b e ⟨q1, q2, q3, hh, q4⟩ q5
    refine ⟨q1, q2, q3, hh, ?_⟩
    rw [← q4]
    refine yHs_congr (fun i i1 i2 => yU_miss (Or.inr ?_))
    by_cases e' : (t' : Int) = t.toInt
    · have := q5 e'
      omega
    · omega
  refine ⟨b0, e0, b1, e1, ?_, ?_, ?_, ?_, k b0 e0 p5 (fun e => (p7 e).1), fun q => k b1 e1 (p6 q) (fun e => (p7 e).2 q), fun e => ⟨by have := (p7 e).1; omega, fun q => by have := (p7 e).2 q; omega⟩⟩
  all_goals rw [yU_miss (Or.inl (by decide))]; assumption
theorem yS.puts (hS : yS G0 G t L O m dp op b h) {s v : Int32} {h' : Nat} (hL : L.toInt < 400) (hst : yH1 (some (.int (s + 16 * v))) h = some h') (hm : (h' : Int) ≤ m.toInt) (hQ : ∀ G' : xm_H, yS G0 G' t (L + 1) O m dp op b h' → yR G' 344 8 = yR G 344 8 → Q none G' E = true) : xm_exec (d + 1) 140 [.ref 344, .int s, .int v] G E Q = true := by
  have hLr := hS.Lr
  obtain ⟨r3, r4, -⟩ := hS.refs
  obtain ⟨⟨a1, a2, a3, a4, a5⟩, ⟨c1, c2, c3, c4⟩, ⟨e1, e2⟩, f1, f2, f3, f4⟩ := id hS
  refine yx_exec (m := 140) rfl rfl (Nat.le_of_ble_eq_true rfl) ?_
  obtain ⟨g, hg⟩ : ∃ g, xm_fuel = g + 40 := ⟨xm_fuel - 40, by have := yl_fuel 40 (by omega); omega⟩
  rw [hg]
  have l0 : xm_get (lv_args 0 [Value.ref 344, .int s, .int v]) 0 = some (.ref 344) := rfl
  have l1 : xm_get (lv_args 0 [Value.ref 344, .int s, .int v]) 1 = some (.int s) := rfl
  have l2 : xm_get (lv_args 0 [Value.ref 344, .int s, .int v]) 2 = some (.int v) := rfl
  have n4 : (400 : Int32).toInt = 400 := rfl
  have n1 : (1 : Int32).toInt = 1 := rfl
  have i1 : (400 * t : Int32).toInt = 400 * t.toInt := by rw [yk_mul] <;> rw [n4] <;> omega
  have i2 : (400 * t + L : Int32).toInt = 400 * t.toInt + L.toInt := by rw [yk_add] <;> rw [i1] <;> omega
  have i3 : (L + 1).toInt = L.toInt + 1 := by rw [yk_add] <;> rw [n1] <;> omega
  have i4 : (400 * t + L : Int32).toInt.toNat = 400 * t.toInt.toNat + L.toInt.toNat := by omega
  show xm_run (xm_exec d) xm_c140 3 0 0 none Q (g + 40) (xm_drop 0 xm_c140) (lv_args 0 [.ref 344, .int s, .int v]) [] G E 0 0 = true
  simp only [xz_140_0, xz_140_1, xz_140_2, xz_140_3, xz_140_4, xz_140_5, xz_140_6, xz_140_7, xz_140_8, xz_140_9, xz_140_10, xz_140_11, xz_140_12, xz_140_13, xz_140_14, xz_140_15, xz_140_16, l0, l1, l2, xm_isA, xm_isI, cond_true, xk_gf a1 r3, xk_gf a1 r4, xk_gf a1 c1, xk_mul, xk_add, xk_ial a1 (j := 347) (r := 96) rfl yq_96 rfl f1.1 e1]
  rw [xz_140_17, xk_ias a1 (j := 346) (r := 95) rfl yq_95 (by decide) (by omega) (by rw [i2]; show _ < ((2400 : Nat) : Int); omega), i4]
  obtain ⟨x1, x2⟩ := yU_HT (md := yMD) a1 (j := 346) (i := 400 * t.toInt.toNat + L.toInt.toNat) (w := .int (s + 16 * v)) (r := 95) rfl yq_95 (show _ < 2400 by omega) yv_one ⟨rfl, ys_b32 _⟩ (yMD_m (by decide))
  have u : ∀ {j i : Nat}, j ≠ 346 → yR (yU G 346 (400 * t.toInt.toNat + L.toInt.toNat) (.int (s + 16 * v))) j i = yR G j i := fun hj => yU_miss (Or.inl hj)
  have um : ∀ i : Nat, i ≠ 400 * t.toInt.toNat + L.toInt.toNat → yR (yU G 346 (400 * t.toInt.toNat + L.toInt.toNat) (.int (s + 16 * v))) 346 i = yR G 346 i := fun i hi => yU_miss (Or.inr hi)
  have hit : yR (yU G 346 (400 * t.toInt.toNat + L.toInt.toNat) (.int (s + 16 * v))) 346 (400 * t.toInt.toNat + L.toInt.toNat) = some (.int (s + 16 * v)) := by
    obtain ⟨z, z1, -⟩ := yA_int a1 (j := 346) (r := 95) (i := 400 * t.toInt.toNat + L.toInt.toNat) rfl yq_95 (by omega)
    exact yU_hit z1
  have mi := yMI_put (w := .int (s + 16 * v)) f1.1 hLr.1 hL a5
  have hs : yHs (yR (yU G 346 (400 * t.toInt.toNat + L.toInt.toNat) (.int (s + 16 * v))) 346) (400 * t.toInt.toNat + b) (L.toInt.toNat - b) = some h := by
    rw [← f3]
    exact yHs_congr (fun i i1 i2 => yU_miss (Or.inr (by omega)))
  generalize yU G 346 (400 * t.toInt.toNat + L.toInt.toNat) (.int (s + 16 * v)) = G1 at x1 x2 u um hit mi hs ⊢
  have r4' : yR G1 344 4 = some (.ref 347) := by rw [u (by decide)]; exact r4
  have c1' : yR G1 344 11 = some (.int t) := by rw [u (by decide)]; exact c1
  have e1' : yR G1 347 t.toInt.toNat = some (.int L) := by rw [u (by decide)]; exact e1
  simp only [xz_140_18, xz_140_19, xz_140_20, xz_140_21, xz_140_22, xz_140_23, xz_140_24, xz_140_25, l0, xm_isA, xm_cat1, xm_isL, Bool.not_false, Bool.and_self, cond_true, xk_gf x1 r4', xk_gf x1 c1', xk_add, xk_ial x1 (j := 347) (r := 96) rfl yq_96 rfl f1.1 e1']
  rw [xz_140_26, xk_ias x1 (j := 347) (r := 96) rfl yq_96 (by decide) f1.1 (by show _ < ((7 : Nat) : Int); omega)]
  obtain ⟨y1, y2⟩ := yU_HT (md := yMD) x1 (j := 347) (i := t.toInt.toNat) (w := .int (L + 1)) (r := 96) rfl yq_96 (show _ < 7 by omega) yv_one ⟨rfl, by show 0 ≤ (L + 1).toInt; omega, by show (L + 1).toInt ≤ 400; omega⟩ (yMD_m (by decide))
  have v1 : ∀ {j i : Nat}, j ≠ 347 → yR (yU G1 347 t.toInt.toNat (.int (L + 1))) j i = yR G1 j i := fun hj => yU_miss (Or.inl hj)
  have hit2 := yU_hit (w := .int (L + 1)) e1'
  generalize yU G1 347 t.toInt.toNat (.int (L + 1)) = G2 at y1 y2 v1 hit2 ⊢
  simp only [xz_140_27]
  refine hQ G2 ⟨⟨y1, ⟨(a2.1.trans x2).trans y2, fun L0 e0 => ⟨by have := (a2.2 L0 e0).1; omega, fun i hi => by rw [v1 (by decide), um i (by have := (a2.2 L0 e0).1; omega)]; exact (a2.2 L0 e0).2 i hi⟩⟩, (a3.fr x1 x2 rfl rfl).fr y1 y2 rfl rfl, (a4.fr x2 (fun i => rfl)).fr y2 (fun i => rfl), ?_⟩, ⟨?_, ?_, ?_, ?_⟩, ⟨hit2, ?_⟩, f1, by omega, ?_, hm⟩ (by rw [v1 (by decide), u (by decide)])
  · rw [i3]
    exact yMI_congr (fun i => v1 (by decide)) (fun i => v1 (by decide)) (fun i => v1 (by decide)) mi
  · rw [v1 (by decide), u (by decide)]; exact c1
  · rw [v1 (by decide), u (by decide)]; exact c2
  · rw [v1 (by decide), u (by decide)]; exact c3
  · rw [v1 (by decide), u (by decide)]; exact c4
  · rw [← e2]
    exact funext (fun i => by rw [v1 (by decide), u (by decide)])
  · rw [show yR G2 346 = yR G1 346 from funext (fun i => v1 (by decide)), show (L + 1).toInt.toNat - b = (L.toInt.toNat - b) + 1 by omega]
    show (yHs _ _ _).bind _ = _
    rw [hs, show 400 * t.toInt.toNat + b + (L.toInt.toNat - b) = 400 * t.toInt.toNat + L.toInt.toNat by omega, hit]
    exact hst
/-- a field that the parser counts in is written -/
theorem yS.put16 (hS : yS G0 G t L O m dp op b h) {O' : Int32} (h0 : 0 ≤ O'.toInt) (h4 : O'.toInt ≤ 400) : yS G0 (yU G 344 16 (.int O')) t L O' m dp op b h := by
  obtain ⟨⟨a1, a2, a3, a4, a5⟩, ⟨c1, c2, c3, c4⟩, ⟨e1, e2⟩, f1, f2, f3, f4⟩ := hS
  obtain ⟨x1, x2⟩ := yU_HT (md := yMD) a1 (j := 344) (i := 16) (w := .int O') ym_344 yq_93 (by rw [yq93_2]; decide) (show yr_ty yq93 16 = some (0, 0, 400) from rfl) ⟨rfl, h0, h4⟩ rfl
  have u : ∀ {j i : Nat}, j ≠ 344 ∨ i ≠ 16 → yR (yU G 344 16 (.int O')) j i = yR G j i := fun hj => yU_miss hj
  have hit := yU_hit (w := .int O') c4
  generalize yU G 344 16 (.int O') = G1 at x1 x2 u hit ⊢
  refine ⟨⟨x1, a2.tr x2 (fun i => u (Or.inl (by decide))), a3.fr x1 x2 rfl rfl, a4.fr x2 (fun i => rfl), yMI_congr (fun i => u (Or.inl (by decide))) (fun i => u (Or.inl (by decide))) (fun i => u (Or.inl (by decide))) a5⟩, ⟨?_, ?_, ?_, hit⟩, ⟨?_, ?_⟩, f1, f2, ?_, f4⟩
  · rw [u (Or.inr (by decide))]; exact c1
  · rw [u (Or.inr (by decide))]; exact c2
  · rw [u (Or.inr (by decide))]; exact c3
  · rw [u (Or.inl (by decide))]; exact e1
  · rw [← e2]; exact funext (fun i => u (Or.inl (by decide)))
  · rw [show yR G1 346 = yR G 346 from funext (fun i => u (Or.inl (by decide)))]; exact f3
theorem yS.put13 (hS : yS G0 G t L O m dp op b h) {dp' : Int32} : yS G0 (yU G 344 13 (.int dp')) t L O m dp' op b h := by
  obtain ⟨⟨a1, a2, a3, a4, a5⟩, ⟨c1, c2, c3, c4⟩, ⟨e1, e2⟩, f1, f2, f3, f4⟩ := hS
  obtain ⟨x1, x2⟩ := yU_HT (md := yMD) a1 (j := 344) (i := 13) (w := .int dp') ym_344 yq_93 (by rw [yq93_2]; decide) (show yr_ty yq93 13 = some yr_top from rfl) ⟨rfl, ys_b32 _⟩ rfl
  have u : ∀ {j i : Nat}, j ≠ 344 ∨ i ≠ 13 → yR (yU G 344 13 (.int dp')) j i = yR G j i := fun hj => yU_miss hj
  have hit := yU_hit (w := .int dp') c3
  generalize yU G 344 13 (.int dp') = G1 at x1 x2 u hit ⊢
  refine ⟨⟨x1, a2.tr x2 (fun i => u (Or.inl (by decide))), a3.fr x1 x2 rfl rfl, a4.fr x2 (fun i => rfl), yMI_congr (fun i => u (Or.inl (by decide))) (fun i => u (Or.inl (by decide))) (fun i => u (Or.inl (by decide))) a5⟩, ⟨?_, ?_, hit, ?_⟩, ⟨?_, ?_⟩, f1, f2, ?_, f4⟩
  · rw [u (Or.inr (by decide))]; exact c1
  · rw [u (Or.inr (by decide))]; exact c2
  · rw [u (Or.inr (by decide))]; exact c4
  · rw [u (Or.inl (by decide))]; exact e1
  · rw [← e2]; exact funext (fun i => u (Or.inl (by decide)))
  · rw [show yR G1 346 = yR G 346 from funext (fun i => u (Or.inl (by decide)))]; exact f3
theorem yS.put12 (hS : yS G0 G t L O m dp op b h) {m' : Int32} (h0 : m.toInt ≤ m'.toInt) (h4 : m'.toInt ≤ 60) : yS G0 (yU G 344 12 (.int m')) t L O m' dp op b h := by
  have hm := hS.mr
  obtain ⟨⟨a1, a2, a3, a4, a5⟩, ⟨c1, c2, c3, c4⟩, ⟨e1, e2⟩, f1, f2, f3, f4⟩ := hS
  obtain ⟨x1, x2⟩ := yU_HT (md := yMD) a1 (j := 344) (i := 12) (w := .int m') ym_344 yq_93 (by rw [yq93_2]; decide) (show yr_ty yq93 12 = some (0, 0, 60) from rfl) ⟨rfl, by show 0 ≤ m'.toInt; omega, h4⟩ rfl
  have u : ∀ {j i : Nat}, j ≠ 344 ∨ i ≠ 12 → yR (yU G 344 12 (.int m')) j i = yR G j i := fun hj => yU_miss hj
  have hit := yU_hit (w := .int m') c2
  generalize yU G 344 12 (.int m') = G1 at x1 x2 u hit ⊢
  refine ⟨⟨x1, a2.tr x2 (fun i => u (Or.inl (by decide))), a3.fr x1 x2 rfl rfl, a4.fr x2 (fun i => rfl), yMI_congr (fun i => u (Or.inl (by decide))) (fun i => u (Or.inl (by decide))) (fun i => u (Or.inl (by decide))) a5⟩, ⟨?_, hit, ?_, ?_⟩, ⟨?_, ?_⟩, f1, f2, ?_, by omega⟩
  · rw [u (Or.inr (by decide))]; exact c1
  · rw [u (Or.inr (by decide))]; exact c3
  · rw [u (Or.inr (by decide))]; exact c4
  · rw [u (Or.inl (by decide))]; exact e1
  · rw [← e2]; exact funext (fun i => u (Or.inl (by decide)))
  · rw [show yR G1 346 = yR G 346 from funext (fun i => u (Or.inl (by decide)))]; exact f3
/-- the k-th of the open ones is written -/
def yOp (op : Nat → Option Value) (k : Nat) (v : Value) : Nat → Option Value := fun i => if i = k then some v else op i
theorem yS.putop (hS : yS G0 G t L O m dp op b h) {k : Nat} {w : Int32} (hk : k < 400) : yS G0 (yU G 351 k (.int w)) t L O m dp (yOp op k (.int w)) b h := by
  obtain ⟨⟨a1, a2, a3, a4, a5⟩, ⟨c1, c2, c3, c4⟩, ⟨e1, e2⟩, f1, f2, f3, f4⟩ := hS
  obtain ⟨x1, x2⟩ := yU_HT (md := yMD) a1 (j := 351) (i := k) (w := .int w) (r := 100) rfl yq_100 hk yv_one ⟨rfl, ys_b32 _⟩ (yMD_m (by decide))
  have u : ∀ {j i : Nat}, j ≠ 351 → yR (yU G 351 k (.int w)) j i = yR G j i := fun hj => yU_miss (Or.inl hj)
  have o : yR (yU G 351 k (.int w)) 351 = yOp op k (.int w) := funext (fun i => by
    unfold yOp
    by_cases e : i = k
    · rw [if_pos e, e]
      obtain ⟨z, z1, -⟩ := yA_int a1 (j := 351) (r := 100) (i := k) rfl yq_100 hk
      exact yU_hit z1
    · rw [if_neg e, yU_miss (Or.inr e), e2])
  generalize yU G 351 k (.int w) = G1 at x1 x2 u o ⊢
  refine ⟨⟨x1, a2.tr x2 (fun i => u (by decide)), a3.fr x1 x2 rfl rfl, a4.fr x2 (fun i => rfl), yMI_congr (fun i => u (by decide)) (fun i => u (by decide)) (fun i => u (by decide)) a5⟩, ⟨?_, ?_, ?_, ?_⟩, ⟨?_, o⟩, f1, f2, ?_, f4⟩
  · rw [u (by decide)]; exact c1
  · rw [u (by decide)]; exact c2
  · rw [u (by decide)]; exact c3
  · rw [u (by decide)]; exact c4
  · rw [u (by decide)]; exact e1
  · rw [show yR G1 346 = yR G 346 from funext (fun i => u (by decide))]; exact f3
end PP
