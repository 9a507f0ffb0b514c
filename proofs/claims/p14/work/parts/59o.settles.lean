/-! makes, opens, strength, settles, isInside -/
theorem xk_r0 {Q : xm_Q} {G : xm_H} {E : xm_R} (h : Q (some (.int 0)) G E = true) : (bif true && (xm_rok (some FieldType.boolean) (Value.int 0) && (Nat.ble 0 0 && Nat.ble 0 0)) then Q (some (.int 0)) G E else false) = true := h
theorem xk_r1 {Q : xm_Q} {G : xm_H} {E : xm_R} (h : Q (some (.int 1)) G E = true) : (bif true && (xm_rok (some FieldType.boolean) (Value.int 1) && (Nat.ble 0 0 && Nat.ble 0 0)) then Q (some (.int 1)) G E else false) = true := h
theorem xn_131 : (Nat.beq 131 1006 || Nat.beq 131 1007) = false := rfl
theorem xn_132 : (Nat.beq 132 1006 || Nat.beq 132 1007) = false := rfl
theorem xn_133 : (Nat.beq 133 1006 || Nat.beq 133 1007) = false := rfl
theorem xn_135 : (Nat.beq 135 1006 || Nat.beq 135 1007) = false := rfl
theorem xn_136 : (Nat.beq 136 1006 || Nat.beq 136 1007) = false := rfl
theorem xn_138 : (Nat.beq 138 1006 || Nat.beq 138 1007) = false := rfl
theorem xn_139 : (Nat.beq 139 1006 || Nat.beq 139 1007) = false := rfl
theorem xn_140 : (Nat.beq 140 1006 || Nat.beq 140 1007) = false := rfl
theorem xn_141 : (Nat.beq 141 1006 || Nat.beq 141 1007) = false := rfl
theorem xn_142 : (Nat.beq 142 1006 || Nat.beq 142 1007) = false := rfl
theorem xn_144 : (Nat.beq 144 1006 || Nat.beq 144 1007) = false := rfl
theorem xn_145 : (Nat.beq 145 1006 || Nat.beq 145 1007) = false := rfl
theorem xn_146 : (Nat.beq 146 1006 || Nat.beq 146 1007) = false := rfl
theorem xn_147 : (Nat.beq 147 1006 || Nat.beq 147 1007) = false := rfl
theorem xn_148 : (Nat.beq 148 1006 || Nat.beq 148 1007) = false := rfl
theorem xn_149 : (Nat.beq 149 1006 || Nat.beq 149 1007) = false := rfl
theorem xn_150 : (Nat.beq 150 1006 || Nat.beq 150 1007) = false := rfl
theorem xn_151 : (Nat.beq 151 1006 || Nat.beq 151 1007) = false := rfl
theorem xn_152 : (Nat.beq 152 1006 || Nat.beq 152 1007) = false := rfl
theorem xn_1 : decide ((1 : Int32).toInt = (0 : Int32).toInt) = false := rfl
theorem xn_0 : decide ((0 : Int32).toInt = (0 : Int32).toInt) = true := rfl
theorem xn_f : ∃ g, xm_fuel = g + 40000 := by
  have h := yl_fuel 40000 (by omega)
  generalize xm_fuel = F at h ⊢
  exact ⟨F - 40000, by omega⟩
section PO
variable {G0 G G' : xm_H} {t L O m dp : Int32} {op : Nat → Option Value} {b h d : Nat} {Q : xm_Q} {E : xm_R}
theorem yS.obj (hS : yS G0 G t L O m dp op b h) : ∃ vs, yO G vs := by
  obtain ⟨vs, hM, -⟩ := yO_of hS.1.1
  exact ⟨vs, hM⟩
theorem yS.makes (hS : yS G0 G t L O m dp op b h) {a : Int32} (hF : ∀ G' : xm_H, yS G0 G' t L O m dp op b h → Q (some (.int 0)) G' E = true) (hQ : m.toInt < 60 → ∀ G' : xm_H, yS G0 G' t L O (m + 1) dp op b h → Q (some (.int 1)) G' E = true) : xm_exec (d + 2) 141 [.ref 344, .int a] G E Q = true := by
  obtain ⟨vs, hM⟩ := hS.obj
  have hm := hS.mr
  have c2 := hS.2.1.2.1
  refine yx_exec (m := 141) rfl rfl (Nat.le_of_ble_eq_true rfl) ?_
  obtain ⟨g, hg⟩ := xn_f
  rw [hg]
  have l0 : xm_get (lv_args 0 [Value.ref 344, .int a]) 0 = some (.ref 344) := rfl
  have l1 : xm_get (lv_args 0 [Value.ref 344, .int a]) 1 = some (.int a) := rfl
  have n6 : (60 : Int32).toInt = 60 := rfl
  have n1 : (1 : Int32).toInt = 1 := rfl
  show xm_run (xm_exec (d + 1)) xm_c141 2 0 0 (some .boolean) Q (g + 40000) (xm_drop 0 xm_c141) (lv_args 0 [.ref 344, .int a]) [] G E 0 0 = true
  simp only [xy_141_0 l0, xz_141_1, xz_141_2, xy_141_3, xk_gf hS.1.1 c2, n6]
  by_cases hc : m.toInt = 60
  · rw [decide_eq_true hc, Bool.not_true, cond_false]
    simp only [xy_141_4 l0, xz_141_5, xy_141_6 l1, xy_141_7]
    rw [yO_call2 (a := 131) rfl hM (Nat.le_of_ble_eq_true rfl)]
    refine hS.fails (fun G' q => ?_)
    simp only [xy_141_8_0, xy_141_8_1]
    exact (hF G' q)
  · rw [decide_eq_false hc, Bool.not_false, cond_true]
    have e : (m + 1).toInt = m.toInt + 1 := by rw [yk_add] <;> rw [n1] <;> omega
    simp only [xy_141_9 l0, xy_141_10, xz_141_11, xz_141_12, xy_141_13, xk_gf hS.1.1 c2]
    rw [xz_141_14, xk_pf hS.1.1 rfl (by decide)]
    have hS' := hS.put12 (m' := m + 1) (by omega) (by omega)
    generalize yU G 344 12 (.int (m + 1)) = G1 at hS' ⊢
    simp only [xz_141_15, xy_141_16_0, xy_141_16_1]
    exact (hQ (by omega) G1 hS')
theorem yS.opens (hS : yS G0 G t L O m dp op b h) {w : Int32} (hO : O.toInt < 400) (hd : dp.toInt ≤ 10) (hd0 : 0 ≤ dp.toInt) (hF : ∀ G' : xm_H, yS G0 G' t L O m dp op b h → Q (some (.int 0)) G' E = true) (hQ : dp.toInt < 10 → ∀ G' : xm_H, yS G0 G' t L (O + 1) m (dp + 1) (yOp op O.toInt.toNat (.int w)) b h → yR G' 344 8 = yR G 344 8 → Q (some (.int 1)) G' E = true) : xm_exec (d + 2) 142 [.ref 344, .int w] G E Q = true := by
  obtain ⟨vs, hM⟩ := hS.obj
  have hO0 := hS.Or
  obtain ⟨nx, p8, -⟩ := hS.nx
  have c3 := hS.2.1.2.2.1
  refine yx_exec (m := 142) rfl rfl (Nat.le_of_ble_eq_true rfl) ?_
  obtain ⟨g, hg⟩ := xn_f
  rw [hg]
  have l0 : xm_get (lv_args 0 [Value.ref 344, .int w]) 0 = some (.ref 344) := rfl
  have l1 : xm_get (lv_args 0 [Value.ref 344, .int w]) 1 = some (.int w) := rfl
  have n6 : (10 : Int32).toInt = 10 := rfl
  have n1 : (1 : Int32).toInt = 1 := rfl
  show xm_run (xm_exec (d + 1)) xm_c142 2 0 0 (some .boolean) Q (g + 40000) (xm_drop 0 xm_c142) (lv_args 0 [.ref 344, .int w]) [] G E 0 0 = true
  simp only [xy_142_0 l0, xz_142_1, xz_142_2, xy_142_3, xk_gf hS.1.1 c3, n6]
  by_cases hc : dp.toInt = 10
  · rw [decide_eq_true hc, Bool.not_true, cond_false]
    simp only [xy_142_4 l0, xz_142_5, xy_142_6 l0, xz_142_7, xy_142_8, xk_gf hS.1.1 p8]
    rw [yO_call2 (a := 131) rfl hM (Nat.le_of_ble_eq_true rfl)]
    refine hS.fails (fun G' q => ?_)
    simp only [xy_142_9_0, xy_142_9_1]
    exact (hF G' q)
  · rw [decide_eq_false hc, Bool.not_false, cond_true]
    have e2 : (O + 1).toInt = O.toInt + 1 := by rw [yk_add] <;> rw [n1] <;> omega
    simp only [xy_142_10 l0, xy_142_11, xz_142_12, xz_142_13, xy_142_14, xk_gf hS.1.1 c3]
    rw [xz_142_15, xk_pf hS.1.1 rfl (by decide)]
    have S1 := hS.put13 (dp' := dp + 1)
    have x1 : yR (yU G 344 13 (.int (dp + 1))) 344 8 = yR G 344 8 := yU_miss (Or.inr (by decide))
    generalize yU G 344 13 (.int (dp + 1)) = G1 at S1 x1 ⊢
    have r15 := S1.refs.2.2.2.2
    have c4 := S1.2.1.2.2.2
    simp only [xy_142_16 l0, xz_142_17, xy_142_18 l0, xz_142_19, xy_142_20 l1, xk_gf S1.1.1 r15, xk_gf S1.1.1 c4]
    rw [xz_142_21, xk_ias S1.1.1 (j := 351) (r := 100) rfl yq_100 (by decide) hO0.1 (by show _ < ((400 : Nat) : Int); omega)]
    have S2 := S1.putop (k := O.toInt.toNat) (w := w) (by omega)
    have x2 : yR (yU G1 351 O.toInt.toNat (.int w)) 344 8 = yR G1 344 8 := yU_miss (Or.inl (by decide))
    generalize yU G1 351 O.toInt.toNat (.int w) = G2 at S2 x2 ⊢
    have c4' := S2.2.1.2.2.2
    simp only [xy_142_22 l0, xy_142_23, xz_142_24, xz_142_25, xy_142_26, xk_gf S2.1.1 c4']
    rw [xz_142_27, xk_pf S2.1.1 rfl (by decide)]
    have S3 := S2.put16 (O' := O + 1) (by omega) (by omega)
    have x3 : yR (yU G2 344 16 (.int (O + 1))) 344 8 = yR G2 344 8 := yU_miss (Or.inr (by decide))
    generalize yU G2 344 16 (.int (O + 1)) = G3 at S3 x3 ⊢
    simp only [xz_142_28, xy_142_29_0, xy_142_29_1]
    exact (hQ (by omega) G3 S3 (by rw [x3, x2, x1]))
/-- strength -/
def yStr (s : Int32) : Int32 := if s.toInt = 13 then 1 else if s.toInt = 12 then 2 else if s.toInt = 11 then 3 else 0
theorem yO_str {s : Int32} (hQ : Q (some (.int (yStr s))) G E = true) : xm_exec (d + 1) 143 [.int s] G E Q = true := by
  refine yx_exec (m := 143) rfl rfl (Nat.le_of_ble_eq_true rfl) ?_
  obtain ⟨g, hg⟩ := xn_f
  rw [hg]
  have l0 : xm_get (lv_args 0 [Value.int s]) 0 = some (.int s) := rfl
  have n13 : (13 : Int32).toInt = 13 := rfl
  have n12 : (12 : Int32).toInt = 12 := rfl
  have n11 : (11 : Int32).toInt = 11 := rfl
  show xm_run (xm_exec d) xm_c143 1 0 0 (some .int) Q (g + 40000) (xm_drop 0 xm_c143) (lv_args 0 [.int s]) [] G E 0 0 = true
  simp only [xy_143_0 l0, xz_143_1, xy_143_2, n13]
  by_cases q13 : s.toInt = 13
  · rw [decide_eq_true q13, Bool.not_true, cond_false]
    simp only [xz_143_3, xy_143_4]
    simp only [xy_143_16]
    rw [yStr, if_pos q13] at hQ
    exact hQ
  · rw [decide_eq_false q13, Bool.not_false, cond_true]
    simp only [xy_143_5 l0, xz_143_6, xy_143_7, n12]
    by_cases q12 : s.toInt = 12
    · rw [decide_eq_true q12, Bool.not_true, cond_false]
      simp only [xz_143_8, xy_143_9]
      simp only [xy_143_16]
      rw [yStr, if_neg q13, if_pos q12] at hQ
      exact hQ
    · rw [decide_eq_false q12, Bool.not_false, cond_true]
      simp only [xy_143_10 l0, xz_143_11, xy_143_12, n11]
      by_cases q11 : s.toInt = 11
      · rw [decide_eq_true q11, Bool.not_true, cond_false]
        simp only [xz_143_13, xy_143_14]
        simp only [xy_143_16]
        rw [yStr, if_neg q13, if_neg q12, if_pos q11] at hQ
        exact hQ
      · rw [decide_eq_false q11, Bool.not_false, cond_true]
        simp only [xz_143_15, xy_143_16]
        rw [yStr, if_neg q13, if_neg q12, if_neg q11] at hQ
        exact hQ
theorem yO_scall1 {call : xm_C} {mc ms : Nat} {v1 : Value} {st : List Value} {k : List Value → xm_H → xm_R → Nat → Nat → Bool} (hc : xm_cats st ≤ 8) : xm_call call mc ms 143 1 (v1 :: st) G E 0 0 k = call 143 [v1] G E (fun r G E => k (match r with
    | some v => v :: st
    | none => st) G E 0 0) := by
  unfold xm_call
  show (bif Nat.ble (xm_cats st) 8 && xm_rcv 1 "StairNewsModel" G [v1] then call 143 [v1] G E _ else false) = _
  rw [Nat.ble_eq_true_of_le hc]
  rfl
theorem yO_c1 : Nat.beq 143 1001 = false := by decide +kernel
theorem yO_c2 : (Nat.beq 143 1003 || (Nat.beq 143 1004 || Nat.beq 143 1005)) = false := by decide +kernel
end PO
