/-! what the tables say of the numbers in the code lists: each word by its place in lw_tbl -/
def xm_w (i : Nat) (w : Jvm.Cond) : Bool := goodWord w && decide (lw_tbl[i]? = some w)
theorem xk_w {i : Nat} {w : Jvm.Cond} (h : xm_w i w = true) : w ∈ xm_tb := by
  unfold xm_w at h
  rw [Bool.and_eq_true, decide_eq_true_eq] at h
  exact List.mem_filter.mpr ⟨List.mem_of_getElem? h.2, h.1⟩
def xm_klok (o : Nat) (q : Nat × Value × Nat) : Bool := match q.2.1 with
  | .int z => xm_w q.2.2 (.constant (xm_own o) q.1 z)
  | .long z => xm_w q.2.2 (.constantLong (xm_own o) q.1 z)
  | .ref j => (match xm_str[j - 1]? with
    | some t => decide (t.1 = xm_own o) && (Nat.beq t.2.1 q.1 && (Nat.ble 1 j && Nat.blt j 7))
    | none => false)
  | _ => false
def xm_flok (o : Nat) (q : Nat × Nat × Nat × Nat) : Bool := match xm_cls[q.2.1]? with
  | some r => Nat.blt q.2.2.1 r.2.2 && (decide ((r.2.1 q.2.2.1).1 = r.1) && xm_w q.2.2.2 (.fieldLink (xm_own o) q.1 r.1 (r.2.1 q.2.2.1).2.1 (r.2.1 q.2.2.1).2.2.1))
  | none => false
def xm_mlok (o : Nat) (q : Nat × Nat × Nat × Nat) : Bool :=
  bif Nat.beq q.2.1 1000 then xm_w q.2.2.2 (.methodLink (xm_own o) q.1 objectInit)
  else bif Nat.beq q.2.1 1001 then xm_w q.2.2.2 (.methodLink (xm_own o) q.1 arraycopyName)
  else bif Nat.beq q.2.1 1003 then xm_w q.2.2.2 (.methodLink (xm_own o) q.1 Lib.Math.max.name)
  else bif Nat.beq q.2.1 1004 then xm_w q.2.2.2 (.methodLink (xm_own o) q.1 Lib.Math.min.name)
  else bif Nat.beq q.2.1 1005 then xm_w q.2.2.2 (.methodLink (xm_own o) q.1 Lib.Math.abs.name)
  else bif Nat.beq q.2.1 1006 then xm_w q.2.2.2 (.methodLink (xm_own o) q.1 ⟨"java/lang/String", "length", "()I"⟩)
  else bif Nat.beq q.2.1 1007 then xm_w q.2.2.2 (.methodLink (xm_own o) q.1 ⟨"java/lang/String", "charAt", "(I)C"⟩)
  else (match xm_mtab[q.2.1]?, xm_mf[q.2.1]? with
    | some r, some f => (match q.2.2.1 with
      | 0 => xm_w q.2.2.2 (.methodLink (xm_own o) q.1 r.2.1) && Nat.beq f.1 2
      | 1 => xm_w q.2.2.2 (.methodLink (xm_own o) q.1 r.2.1) && Nat.beq f.1 0
      | 2 => xm_w q.2.2.2 (.methodLink (xm_own o) q.1 r.2.1) && Nat.beq f.1 1
      | 3 => decide (.methodLinkNest (xm_own o) q.1 r.2.1 "StairNews" ∈ xm_nest) && Nat.beq f.1 0
      | 4 => decide (.methodLinkNest (xm_own o) q.1 r.2.1 "StairNews" ∈ xm_nest) && Nat.beq f.1 1
      | _ => false)
    | _, _ => false)
def xm_clok (o : Nat) (q : Nat × Nat × Nat) : Bool := match xm_cls[q.2.1]? with
  | some r => xm_w q.2.2 (.classLink (xm_own o) q.1 r.1)
  | none => false
def xm_pl (v : Value) : Bool := match v with
  | .int _ => true
  | .long _ => true
  | .null => true
  | _ => false
/-- a class's own table -/
def xm_tok (a : Nat) : Bool := match xm_cls[a]?, xm_ci[a]? with
  | some r, some f => xm_w f.1 (.instantiable r.1 r.2.2) && (xm_w f.2.1 (.initialized r.1) && ((List.range r.2.2).all (fun k => xm_w (f.2.2.getD k 0) (u_lay r.1 r.2.1 k)) && ((List.range r.2.2).all (fun k => decide (parseFieldDescriptor (r.2.1 k).2.2.1 = some (xm_ty a k)) && (decide ((xm_def a)[k]? = some (defaultValue (xm_ty a k))) && (List.range r.2.2).all (fun j => Nat.beq k j || !decide ((r.2.1 k).2.1 = (r.2.1 j).2.1)))) && (Nat.beq (xm_def a).length r.2.2 && (xm_def a).all xm_pl))))
  | _, _ => false
/-- a method's own words -/
def xm_mok (r : xm_M) (f : Nat × Nat × Nat × Nat × Nat) : Bool := xm_w f.2.1 (.initialized r.2.1.cls) && ((match f.1 with
    | 0 => xm_w f.2.2.1 (.static r.2.1)
    | 1 => xm_w f.2.2.1 (.instanceMethod r.2.1) && (decide (r.2.1.name = "<init>") && r.2.2.2.2.1.isNone)
    | 2 => xm_w f.2.2.1 (.instanceMethod r.2.1) && xm_w f.2.2.2.1 (.selects r.2.1.cls r.2.1 r.2.1)
    | _ => false) && (plainName r.2.1.cls && (!decide (r.2.1.cls = "java/lang/invoke/MethodHandle") && (!decide (r.2.1.cls = "java/lang/invoke/VarHandle") && (decide ((parseMethodDescriptor r.2.1.desc).map (fun d => d.parameters.length) = some r.2.2.2.2.2.1) && (xm_w f.2.2.2.2 (.code r.2.1 r.2.2.1 r.2.2.2.1 r.2.2.2.2.1) && Nat.ble r.2.2.2.1 40))))))
def xm_mokN (a : Nat) : Bool := match xm_mtab[a]?, xm_mf[a]? with
  | some r, some f => xm_mok r f
  | _, _ => false
theorem xk_kl0 : (xm_kl 0).all (xm_klok 0) = true := by decide +kernel
theorem xk_fl0 : (xm_fl 0).all (xm_flok 0) = true := by decide +kernel
theorem xk_cl0 : (xm_cl 0).all (xm_clok 0) = true := by decide +kernel
theorem xk_ml0 : (xm_ml 0).all (xm_mlok 0) = true := by decide +kernel
theorem xk_kl1 : (xm_kl 1).all (xm_klok 1) = true := by decide +kernel
theorem xk_fl1 : (xm_fl 1).all (xm_flok 1) = true := by decide +kernel
theorem xk_cl1 : (xm_cl 1).all (xm_clok 1) = true := by decide +kernel
theorem xk_ml1 : (xm_ml 1).all (xm_mlok 1) = true := by decide +kernel
theorem xk_kl2 : (xm_kl 2).all (xm_klok 2) = true := by decide +kernel
theorem xk_fl2 : (xm_fl 2).all (xm_flok 2) = true := by decide +kernel
theorem xk_cl2 : (xm_cl 2).all (xm_clok 2) = true := by decide +kernel
theorem xk_ml2 : (xm_ml 2).all (xm_mlok 2) = true := by decide +kernel
theorem xk_kl3 : (xm_kl 3).all (xm_klok 3) = true := by decide +kernel
theorem xk_fl3 : (xm_fl 3).all (xm_flok 3) = true := by decide +kernel
theorem xk_cl3 : (xm_cl 3).all (xm_clok 3) = true := by decide +kernel
theorem xk_ml3 : (xm_ml 3).all (xm_mlok 3) = true := by decide +kernel
theorem xk_kl4 : (xm_kl 4).all (xm_klok 4) = true := by decide +kernel
theorem xk_fl4 : (xm_fl 4).all (xm_flok 4) = true := by decide +kernel
theorem xk_cl4 : (xm_cl 4).all (xm_clok 4) = true := by decide +kernel
theorem xk_ml4 : (xm_ml 4).all (xm_mlok 4) = true := by decide +kernel
theorem xk_kl5 : (xm_kl 5).all (xm_klok 5) = true := by decide +kernel
theorem xk_fl5 : (xm_fl 5).all (xm_flok 5) = true := by decide +kernel
theorem xk_cl5 : (xm_cl 5).all (xm_clok 5) = true := by decide +kernel
theorem xk_ml5 : (xm_ml 5).all (xm_mlok 5) = true := by decide +kernel
theorem xk_kl6 : (xm_kl 6).all (xm_klok 6) = true := by decide +kernel
theorem xk_fl6 : (xm_fl 6).all (xm_flok 6) = true := by decide +kernel
theorem xk_cl6 : (xm_cl 6).all (xm_clok 6) = true := by decide +kernel
theorem xk_ml6 : (xm_ml 6).all (xm_mlok 6) = true := by decide +kernel
theorem xk_kl7 : (xm_kl 7).all (xm_klok 7) = true := by decide +kernel
theorem xk_fl7 : (xm_fl 7).all (xm_flok 7) = true := by decide +kernel
theorem xk_cl7 : (xm_cl 7).all (xm_clok 7) = true := by decide +kernel
theorem xk_ml7 : (xm_ml 7).all (xm_mlok 7) = true := by decide +kernel
theorem xk_kl8 : (xm_kl 8).all (xm_klok 8) = true := by decide +kernel
theorem xk_fl8 : (xm_fl 8).all (xm_flok 8) = true := by decide +kernel
theorem xk_cl8 : (xm_cl 8).all (xm_clok 8) = true := by decide +kernel
theorem xk_ml8 : (xm_ml 8).all (xm_mlok 8) = true := by decide +kernel
theorem xk_kl9 : (xm_kl 9).all (xm_klok 9) = true := by decide +kernel
theorem xk_fl9 : (xm_fl 9).all (xm_flok 9) = true := by decide +kernel
theorem xk_cl9 : (xm_cl 9).all (xm_clok 9) = true := by decide +kernel
theorem xk_ml9 : (xm_ml 9).all (xm_mlok 9) = true := by decide +kernel
theorem xk_kl10 : (xm_kl 10).all (xm_klok 10) = true := by decide +kernel
theorem xk_fl10 : (xm_fl 10).all (xm_flok 10) = true := by decide +kernel
theorem xk_cl10 : (xm_cl 10).all (xm_clok 10) = true := by decide +kernel
theorem xk_ml10 : (xm_ml 10).all (xm_mlok 10) = true := by decide +kernel
theorem xk_kl11 : (xm_kl 11).all (xm_klok 11) = true := by decide +kernel
theorem xk_fl11 : (xm_fl 11).all (xm_flok 11) = true := by decide +kernel
theorem xk_cl11 : (xm_cl 11).all (xm_clok 11) = true := by decide +kernel
theorem xk_ml11 : (xm_ml 11).all (xm_mlok 11) = true := by decide +kernel
theorem xk_kl12 : (xm_kl 12).all (xm_klok 12) = true := by decide +kernel
theorem xk_fl12 : (xm_fl 12).all (xm_flok 12) = true := by decide +kernel
theorem xk_cl12 : (xm_cl 12).all (xm_clok 12) = true := by decide +kernel
theorem xk_ml12 : (xm_ml 12).all (xm_mlok 12) = true := by decide +kernel
theorem xk_kl13 : (xm_kl 13).all (xm_klok 13) = true := by decide +kernel
theorem xk_fl13 : (xm_fl 13).all (xm_flok 13) = true := by decide +kernel
theorem xk_cl13 : (xm_cl 13).all (xm_clok 13) = true := by decide +kernel
theorem xk_ml13 : (xm_ml 13).all (xm_mlok 13) = true := by decide +kernel
theorem xk_kl14 : (xm_kl 14).all (xm_klok 14) = true := by decide +kernel
theorem xk_fl14 : (xm_fl 14).all (xm_flok 14) = true := by decide +kernel
theorem xk_cl14 : (xm_cl 14).all (xm_clok 14) = true := by decide +kernel
theorem xk_ml14 : (xm_ml 14).all (xm_mlok 14) = true := by decide +kernel
theorem xk_kl15 : (xm_kl 15).all (xm_klok 15) = true := by decide +kernel
theorem xk_fl15 : (xm_fl 15).all (xm_flok 15) = true := by decide +kernel
theorem xk_cl15 : (xm_cl 15).all (xm_clok 15) = true := by decide +kernel
theorem xk_ml15 : (xm_ml 15).all (xm_mlok 15) = true := by decide +kernel
theorem xk_kl16 : (xm_kl 16).all (xm_klok 16) = true := by decide +kernel
theorem xk_fl16 : (xm_fl 16).all (xm_flok 16) = true := by decide +kernel
theorem xk_cl16 : (xm_cl 16).all (xm_clok 16) = true := by decide +kernel
theorem xk_ml16 : (xm_ml 16).all (xm_mlok 16) = true := by decide +kernel
theorem xk_t0 : xm_tok 0 = true := by decide +kernel
theorem xk_t1 : xm_tok 1 = true := by decide +kernel
theorem xk_t2 : xm_tok 2 = true := by decide +kernel
theorem xk_t3 : xm_tok 3 = true := by decide +kernel
theorem xk_t4 : xm_tok 4 = true := by decide +kernel
theorem xk_t5 : xm_tok 5 = true := by decide +kernel
theorem xk_t6 : xm_tok 6 = true := by decide +kernel
theorem xk_t7 : xm_tok 7 = true := by decide +kernel
theorem xk_t8 : xm_tok 8 = true := by decide +kernel
theorem xk_t9 : xm_tok 9 = true := by decide +kernel
theorem xk_t10 : xm_tok 10 = true := by decide +kernel
theorem xk_t11 : xm_tok 11 = true := by decide +kernel
theorem xk_kl : ∀ o, o < 17 → (xm_kl o).all (xm_klok o) = true
  | 0, _ => xk_kl0
  | 1, _ => xk_kl1
  | 2, _ => xk_kl2
  | 3, _ => xk_kl3
  | 4, _ => xk_kl4
  | 5, _ => xk_kl5
  | 6, _ => xk_kl6
  | 7, _ => xk_kl7
  | 8, _ => xk_kl8
  | 9, _ => xk_kl9
  | 10, _ => xk_kl10
  | 11, _ => xk_kl11
  | 12, _ => xk_kl12
  | 13, _ => xk_kl13
  | 14, _ => xk_kl14
  | 15, _ => xk_kl15
  | 16, _ => xk_kl16
  | n + 17, h => by omega
theorem xk_fl : ∀ o, o < 17 → (xm_fl o).all (xm_flok o) = true
  | 0, _ => xk_fl0
  | 1, _ => xk_fl1
  | 2, _ => xk_fl2
  | 3, _ => xk_fl3
  | 4, _ => xk_fl4
  | 5, _ => xk_fl5
  | 6, _ => xk_fl6
  | 7, _ => xk_fl7
  | 8, _ => xk_fl8
  | 9, _ => xk_fl9
  | 10, _ => xk_fl10
  | 11, _ => xk_fl11
  | 12, _ => xk_fl12
  | 13, _ => xk_fl13
  | 14, _ => xk_fl14
  | 15, _ => xk_fl15
  | 16, _ => xk_fl16
  | n + 17, h => by omega
theorem xk_cl : ∀ o, o < 17 → (xm_cl o).all (xm_clok o) = true
  | 0, _ => xk_cl0
  | 1, _ => xk_cl1
  | 2, _ => xk_cl2
  | 3, _ => xk_cl3
  | 4, _ => xk_cl4
  | 5, _ => xk_cl5
  | 6, _ => xk_cl6
  | 7, _ => xk_cl7
  | 8, _ => xk_cl8
  | 9, _ => xk_cl9
  | 10, _ => xk_cl10
  | 11, _ => xk_cl11
  | 12, _ => xk_cl12
  | 13, _ => xk_cl13
  | 14, _ => xk_cl14
  | 15, _ => xk_cl15
  | 16, _ => xk_cl16
  | n + 17, h => by omega
theorem xk_ml : ∀ o, o < 17 → (xm_ml o).all (xm_mlok o) = true
  | 0, _ => xk_ml0
  | 1, _ => xk_ml1
  | 2, _ => xk_ml2
  | 3, _ => xk_ml3
  | 4, _ => xk_ml4
  | 5, _ => xk_ml5
  | 6, _ => xk_ml6
  | 7, _ => xk_ml7
  | 8, _ => xk_ml8
  | 9, _ => xk_ml9
  | 10, _ => xk_ml10
  | 11, _ => xk_ml11
  | 12, _ => xk_ml12
  | 13, _ => xk_ml13
  | 14, _ => xk_ml14
  | 15, _ => xk_ml15
  | 16, _ => xk_ml16
  | n + 17, h => by omega
theorem xk_t : ∀ a, a < 12 → xm_tok a = true
  | 0, _ => xk_t0
  | 1, _ => xk_t1
  | 2, _ => xk_t2
  | 3, _ => xk_t3
  | 4, _ => xk_t4
  | 5, _ => xk_t5
  | 6, _ => xk_t6
  | 7, _ => xk_t7
  | 8, _ => xk_t8
  | 9, _ => xk_t9
  | 10, _ => xk_t10
  | 11, _ => xk_t11
  | n + 12, h => by omega
theorem xk_mm1 : (List.range' 1 12).all xm_mokN = true := by decide +kernel
theorem xk_mm13 : (List.range' 13 12).all xm_mokN = true := by decide +kernel
theorem xk_mm25 : (List.range' 25 12).all xm_mokN = true := by decide +kernel
theorem xk_mm37 : (List.range' 37 12).all xm_mokN = true := by decide +kernel
theorem xk_mm49 : (List.range' 49 12).all xm_mokN = true := by decide +kernel
theorem xk_mm61 : (List.range' 61 12).all xm_mokN = true := by decide +kernel
theorem xk_mm73 : (List.range' 73 12).all xm_mokN = true := by decide +kernel
theorem xk_mm85 : (List.range' 85 12).all xm_mokN = true := by decide +kernel
theorem xk_mm97 : (List.range' 97 12).all xm_mokN = true := by decide +kernel
theorem xk_mm109 : (List.range' 109 12).all xm_mokN = true := by decide +kernel
theorem xk_mm121 : (List.range' 121 12).all xm_mokN = true := by decide +kernel
theorem xk_mm133 : (List.range' 133 12).all xm_mokN = true := by decide +kernel
theorem xk_mm145 : (List.range' 145 12).all xm_mokN = true := by decide +kernel
theorem xk_mm157 : (List.range' 157 12).all xm_mokN = true := by decide +kernel
theorem xk_mm169 : (List.range' 169 12).all xm_mokN = true := by decide +kernel
theorem xk_mm181 : (List.range' 181 12).all xm_mokN = true := by decide +kernel
theorem xk_mm193 : (List.range' 193 12).all xm_mokN = true := by decide +kernel
theorem xk_mm205 : (List.range' 205 12).all xm_mokN = true := by decide +kernel
theorem xk_mm217 : (List.range' 217 12).all xm_mokN = true := by decide +kernel
theorem xk_mm229 : (List.range' 229 12).all xm_mokN = true := by decide +kernel
theorem xk_mall {a : Nat} (h1 : 1 ≤ a) (h2 : a < 241) : xm_mokN a = true := by
  by_cases c1 : a < 13
  · exact List.all_eq_true.mp xk_mm1 a (List.mem_range'_1.mpr ⟨by omega, by omega⟩)
  by_cases c13 : a < 25
  · exact List.all_eq_true.mp xk_mm13 a (List.mem_range'_1.mpr ⟨by omega, by omega⟩)
  by_cases c25 : a < 37
  · exact List.all_eq_true.mp xk_mm25 a (List.mem_range'_1.mpr ⟨by omega, by omega⟩)
  by_cases c37 : a < 49
  · exact List.all_eq_true.mp xk_mm37 a (List.mem_range'_1.mpr ⟨by omega, by omega⟩)
  by_cases c49 : a < 61
  · exact List.all_eq_true.mp xk_mm49 a (List.mem_range'_1.mpr ⟨by omega, by omega⟩)
  by_cases c61 : a < 73
  · exact List.all_eq_true.mp xk_mm61 a (List.mem_range'_1.mpr ⟨by omega, by omega⟩)
  by_cases c73 : a < 85
  · exact List.all_eq_true.mp xk_mm73 a (List.mem_range'_1.mpr ⟨by omega, by omega⟩)
  by_cases c85 : a < 97
  · exact List.all_eq_true.mp xk_mm85 a (List.mem_range'_1.mpr ⟨by omega, by omega⟩)
  by_cases c97 : a < 109
  · exact List.all_eq_true.mp xk_mm97 a (List.mem_range'_1.mpr ⟨by omega, by omega⟩)
  by_cases c109 : a < 121
  · exact List.all_eq_true.mp xk_mm109 a (List.mem_range'_1.mpr ⟨by omega, by omega⟩)
  by_cases c121 : a < 133
  · exact List.all_eq_true.mp xk_mm121 a (List.mem_range'_1.mpr ⟨by omega, by omega⟩)
  by_cases c133 : a < 145
  · exact List.all_eq_true.mp xk_mm133 a (List.mem_range'_1.mpr ⟨by omega, by omega⟩)
  by_cases c145 : a < 157
  · exact List.all_eq_true.mp xk_mm145 a (List.mem_range'_1.mpr ⟨by omega, by omega⟩)
  by_cases c157 : a < 169
  · exact List.all_eq_true.mp xk_mm157 a (List.mem_range'_1.mpr ⟨by omega, by omega⟩)
  by_cases c169 : a < 181
  · exact List.all_eq_true.mp xk_mm169 a (List.mem_range'_1.mpr ⟨by omega, by omega⟩)
  by_cases c181 : a < 193
  · exact List.all_eq_true.mp xk_mm181 a (List.mem_range'_1.mpr ⟨by omega, by omega⟩)
  by_cases c193 : a < 205
  · exact List.all_eq_true.mp xk_mm193 a (List.mem_range'_1.mpr ⟨by omega, by omega⟩)
  by_cases c205 : a < 217
  · exact List.all_eq_true.mp xk_mm205 a (List.mem_range'_1.mpr ⟨by omega, by omega⟩)
  by_cases c217 : a < 229
  · exact List.all_eq_true.mp xk_mm217 a (List.mem_range'_1.mpr ⟨by omega, by omega⟩)
  by_cases c229 : a < 241
  · exact List.all_eq_true.mp xk_mm229 a (List.mem_range'_1.mpr ⟨by omega, by omega⟩)
  omega
theorem xk_a0 : xm_w 258 (.arrayClass .int) = true := by decide +kernel
theorem xk_a1 : xm_w 151 (.arrayClass .byte) = true := by decide +kernel
theorem xk_a2 : xm_w 451 (.arrayClass .long) = true := by decide +kernel
theorem xk_a3 : xm_w 1217 (.arrayClass .boolean) = true := by decide +kernel
theorem xk_a8 : xm_w 119 (.instanceMethod objectInit) = true := by decide +kernel
theorem xk_a9 : xm_w 688 (.native arraycopyName) = true := by decide +kernel
theorem xk_a10 : xm_w 687 (.static arraycopyName) = true := by decide +kernel
theorem xk_a11 : xm_w 110 (.initialized "java/lang/System") = true := by decide +kernel
theorem xk_oc : Jvm.Cond.code objectInit ⟨#[0xb1]⟩ 1 none ∈ xm_tb := List.mem_filter.mpr ⟨List.mem_of_getElem? (i := 120) rfl, rfl⟩
theorem xk_b0 : xm_w 111 (.initialized "java/lang/Math") = true := by decide +kernel
theorem xk_b1 : xm_w 817 (.static Lib.Math.min.name) = true := by decide +kernel
theorem xk_b2 : xm_w 818 (.code Lib.Math.min.name Lib.Math.min.code 2 (some .int)) = true := by decide +kernel
theorem xk_b3 : xm_w 891 (.static Lib.Math.max.name) = true := by decide +kernel
theorem xk_b4 : xm_w 892 (.code Lib.Math.max.name Lib.Math.max.code 2 (some .int)) = true := by decide +kernel
theorem xk_b5 : xm_w 906 (.static Lib.Math.abs.name) = true := by decide +kernel
theorem xk_b6 : xm_w 907 (.code Lib.Math.abs.name Lib.Math.abs.code 1 (some .int)) = true := by decide +kernel
