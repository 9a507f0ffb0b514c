/-! pictures behind flat heaps: what stays, in what range -/
section ZF
variable {G G' : xm_H} {s s' : zS} {md : yM}
theorem zf_at (hT : ys_HT G) (hR : zR G s) {j i r : Nat} {q : yW} (hr : yr_of j = r) (hq : yr_row r = some q) (hi : i < q.2.1) (hz : zcon q.1 j i = none) : ∃ v vs T, xm_hget G j = some (q.1, vs) ∧ vs[i]? = some v ∧ yr_ty q i = some T ∧ ys_T T v ∧ zi v = s j i := by
  obtain ⟨vs, g1, g2, g3⟩ := hT.at hr hq
  have hv : vs[i]? = some vs[i] := List.getElem?_eq_getElem (by omega)
  obtain ⟨T, t1, t2⟩ := g3 i _ hv
  have b := ((hR j q.1 vs g1).2 i _ hv).2.2
  rw [hz] at b
  exact ⟨_, vs, T, g1, hv, t1, t2, b⟩
theorem zf_rng (hT : ys_HT G) (hR : zR G s) {j i r : Nat} {q : yW} {T : yT} (hr : yr_of j = r) (hq : yr_row r = some q) (hi : i < q.2.1) (hz : zcon q.1 j i = none) (ht : yr_ty q i = some T) (h0 : T.1 = 0) : T.2.1 ≤ s j i ∧ s j i ≤ T.2.2 := by
  obtain ⟨v, vs, T', -, -, t1, t2, e⟩ := zf_at hT hR hr hq hi hz
  rw [ht] at t1
  cases t1
  obtain ⟨x, rfl, x1, x2⟩ := yv_int t2 h0
  rw [← e]
  exact ⟨x1, x2⟩
/-- the places that the frame keeps -/
def zKp (md : yM) (s s' : zS) : Prop := ∀ (j i r : Nat) (q : yW), yr_of j = r → yr_row r = some q → i < q.2.1 → zcon q.1 j i = none → ym_mod md r i = false → s' j i = s j i
theorem zf_keep (hT : ys_HT G) (hR : zR G s) (hR' : zR G' s') (hF : ys_Fr md G G') : zKp md s s' := by
  intro j i r q hr hq hi hz hm
  obtain ⟨v, vs, T, g1, g2, -, -, e⟩ := zf_at hT hR hr hq hi hz
  obtain ⟨vs', f1, f2, f3⟩ := hF j q.1 vs g1
  have h := (f3 i v g2).resolve_left (by rw [hr, hm]; exact Bool.false_ne_true)
  have b := ((hR' j q.1 vs' f1).2 i v h).2.2
  rw [hz] at b
  rw [← e]
  exact b.symm
theorem zr_b9 : ∀ i : Nat, zcon 101 9 i = none := fun _ => rfl
end ZF
/-- the two sides alike: the tape's length and bytes, the number of rules, the force, whether the images are made, and of those that are the force -/
def zRel (s : zS) : Prop := (s 8 1 = s 344 1 ∧ ∀ k : Nat, k < 400 → s 9 k = s 345 k) ∧ s 7 8 = s 344 2 ∧ s 10 6 = s 344 21 ∧ ∀ k : Nat, k < 4 → (s 363 k ≠ 0 → s (264 + 20 * (k : Int)) 6 = s 361 k) ∧ s (264 + 20 * (k : Int)) 8 = s 363 k
section ZV
variable {md : yM} {s s' : zS}
theorem zKp.len1 (k : zKp md s s') (m : ym_mod md 8 1 = false) : s' 8 1 = s 8 1 := k 8 1 8 _ rfl rfl (Nat.le_of_ble_eq_true rfl) rfl m
theorem zKp.by1 (k : zKp md s s') (m : ∀ i, ym_mod md 9 i = false) : ∀ i : Nat, i < 400 → s' 9 i = s 9 i := fun i hi => k 9 i 9 _ rfl rfl hi rfl (m i)
theorem zKp.cnt1 (k : zKp md s s') (m : ym_mod md 7 8 = false) : s' 7 8 = s 7 8 := k 7 8 7 _ rfl rfl (Nat.le_of_ble_eq_true rfl) rfl m
theorem zKp.frc1 (k : zKp md s s') (m : ym_mod md 10 6 = false) : s' 10 6 = s 10 6 := k 10 6 10 _ rfl rfl (Nat.le_of_ble_eq_true rfl) rfl m
theorem zKp.len2 (k : zKp md s s') (m : ym_mod md 93 1 = false) : s' 344 1 = s 344 1 := k 344 1 93 _ rfl rfl (Nat.le_of_ble_eq_true rfl) rfl m
theorem zKp.cnt2 (k : zKp md s s') (m : ym_mod md 93 2 = false) : s' 344 2 = s 344 2 := k 344 2 93 _ rfl rfl (Nat.le_of_ble_eq_true rfl) rfl m
theorem zKp.frc2 (k : zKp md s s') (m : ym_mod md 93 21 = false) : s' 344 21 = s 344 21 := k 344 21 93 _ rfl rfl (Nat.le_of_ble_eq_true rfl) rfl m
theorem zKp.by2 (k : zKp md s s') (m : ∀ i, ym_mod md 94 i = false) : ∀ i : Nat, i < 400 → s' 345 i = s 345 i := fun i hi => k 345 i 94 _ rfl rfl hi rfl (m i)
theorem zKp.imf2 (k : zKp md s s') (m : ∀ i, ym_mod md 110 i = false) : ∀ i : Nat, i < 4 → s' 361 i = s 361 i := fun i hi => k 361 i 110 _ rfl rfl hi rfl (m i)
theorem zKp.imm2 (k : zKp md s s') (m : ∀ i, ym_mod md 112 i = false) : ∀ i : Nat, i < 4 → s' 363 i = s 363 i := fun i hi => k 363 i 112 _ rfl rfl hi rfl (m i)
theorem zKp.imf1 (k : zKp md s s') (m : ym_mod md 73 6 = false) : ∀ i : Nat, i < 4 → s' (264 + 20 * (i : Int)) 6 = s (264 + 20 * (i : Int)) 6
  | 0, _ => k 264 6 73 _ rfl rfl (Nat.le_of_ble_eq_true rfl) rfl m
  | 1, _ => k 284 6 73 _ rfl rfl (Nat.le_of_ble_eq_true rfl) rfl m
  | 2, _ => k 304 6 73 _ rfl rfl (Nat.le_of_ble_eq_true rfl) rfl m
  | 3, _ => k 324 6 73 _ rfl rfl (Nat.le_of_ble_eq_true rfl) rfl m
  | i + 4, h => absurd h (by omega)
theorem zKp.imm1 (k : zKp md s s') (m : ym_mod md 73 8 = false) : ∀ i : Nat, i < 4 → s' (264 + 20 * (i : Int)) 8 = s (264 + 20 * (i : Int)) 8
  | 0, _ => k 264 8 73 _ rfl rfl (Nat.le_of_ble_eq_true rfl) rfl m
  | 1, _ => k 284 8 73 _ rfl rfl (Nat.le_of_ble_eq_true rfl) rfl m
  | 2, _ => k 304 8 73 _ rfl rfl (Nat.le_of_ble_eq_true rfl) rfl m
  | 3, _ => k 324 8 73 _ rfl rfl (Nat.le_of_ble_eq_true rfl) rfl m
  | i + 4, h => absurd h (by omega)
theorem zRel.fr (h : zRel s) (k : zKp md s s') (m1 : ym_mod md 8 1 = false) (m2 : ∀ i, ym_mod md 9 i = false) (m3 : ym_mod md 7 8 = false) (m4 : ym_mod md 10 6 = false) (m5 : ym_mod md 93 1 = false) (m6 : ym_mod md 93 2 = false) (m7 : ym_mod md 93 21 = false) (m8 : ∀ i, ym_mod md 94 i = false) (m9 : ∀ i, ym_mod md 110 i = false) (m10 : ∀ i, ym_mod md 112 i = false) (m11 : ym_mod md 73 6 = false) (m12 : ym_mod md 73 8 = false) : zRel s' := by
  obtain ⟨⟨a1, a2⟩, a3, a4, a5⟩ := h
  refine ⟨⟨by rw [k.len1 m1, k.len2 m5, a1], fun i hi => by rw [k.by1 m2 i hi, k.by2 m8 i hi, a2 i hi]⟩, by rw [k.cnt1 m3, k.cnt2 m6, a3], by rw [k.frc1 m4, k.frc2 m7, a4], fun i hi => ⟨fun hm => by rw [k.imf1 m11 i hi, k.imf2 m9 i hi]; exact (a5 i hi).1 (by rw [k.imm2 m10 i hi] at hm; exact hm), by rw [k.imm1 m12 i hi, k.imm2 m10 i hi, (a5 i hi).2]⟩⟩
end ZV
/-! the ranges that the relation's places have -/
section ZN
variable {G : xm_H} {s : zS}
theorem zn_len1 (hT : ys_HT G) (hR : zR G s) : 0 ≤ s 8 1 ∧ s 8 1 ≤ 400 := zf_rng (j := 8) (i := 1) (r := 8) hT hR rfl rfl (Nat.le_of_ble_eq_true rfl) rfl (T := (0, 0, 400)) rfl rfl
theorem zn_len2 (hT : ys_HT G) (hR : zR G s) : 0 ≤ s 344 1 ∧ s 344 1 ≤ 400 := zf_rng (j := 344) (i := 1) (r := 93) hT hR rfl rfl (Nat.le_of_ble_eq_true rfl) rfl (T := (0, 0, 400)) rfl rfl
theorem zn_cnt1 (hT : ys_HT G) (hR : zR G s) : 0 ≤ s 7 8 ∧ s 7 8 ≤ 6 := zf_rng (j := 7) (i := 8) (r := 7) hT hR rfl rfl (Nat.le_of_ble_eq_true rfl) rfl (T := (0, 0, 6)) rfl rfl
theorem zn_cnt2 (hT : ys_HT G) (hR : zR G s) : 0 ≤ s 344 2 ∧ s 344 2 ≤ 6 := zf_rng (j := 344) (i := 2) (r := 93) hT hR rfl rfl (Nat.le_of_ble_eq_true rfl) rfl (T := (0, 0, 6)) rfl rfl
theorem zn_by1 (hT : ys_HT G) (hR : zR G s) : zg_by (s 9) := by
  intro i h0 h1
  have q := zf_rng (j := 9) (i := i.toNat) (r := 9) (q := (101, 400, 1, [(0, -128, 127)])) hT hR rfl rfl (show i.toNat < 400 by omega) rfl (T := (0, -128, 127)) (by show xm_nth _ (Nat.mod _ 1) = _; rw [show Nat.mod i.toNat 1 = 0 from Nat.mod_one _]; rfl) rfl
  rw [Int.toNat_of_nonneg h0] at q
  exact q
theorem zn_by2 (hT : ys_HT G) (hR : zR G s) : zg_by (s 345) := by
  intro i h0 h1
  have q := zf_rng (j := 345) (i := i.toNat) (r := 94) (q := (101, 400, 1, [(0, -128, 127)])) hT hR rfl rfl (show i.toNat < 400 by omega) rfl (T := (0, -128, 127)) (by show xm_nth _ (Nat.mod _ 1) = _; rw [show Nat.mod i.toNat 1 = 0 from Nat.mod_one _]; rfl) rfl
  rw [Int.toNat_of_nonneg h0] at q
  exact q
/-- nothing behind the 400 bytes -/
def zcan (s : zS) : zS := fun a b => if (a = 9 ∨ a = 345) ∧ ¬ (0 ≤ b ∧ b < 400) then 0 else s a b
theorem zcan_o {a b : Int} (h : ¬ ((a = 9 ∨ a = 345) ∧ ¬ (0 ≤ b ∧ b < 400))) : zcan s a b = s a b := by
  unfold zcan
  rw [if_neg h]
theorem zcan_R (hT : ys_HT G) (hR : zR G s) : zR G (zcan s) := by
  intro j t vs hg
  obtain ⟨a, b⟩ := hR j t vs hg
  refine ⟨a, fun i v hv => ?_⟩
  obtain ⟨b1, b2, b3⟩ := b i v hv
  refine ⟨b1, b2, ?_⟩
  rw [b3]
  cases zcon t j i with
  | some c => rfl
  | none =>
    show s j i = zcan s j i
    refine (zcan_o ?_).symm
    rintro ⟨q, q'⟩
    have hi : i < vs.length := by
      rcases Nat.lt_or_ge i vs.length with h | h
      · exact h
      · rw [List.getElem?_eq_none h] at hv; cases hv
    have e : vs.length = 400 := by
      rcases q with q | q
      · have q : j = 9 := by omega
        subst q
        obtain ⟨ws, g1, g2, -⟩ := hT.at (j := 9) (r := 9) rfl (q := (101, 400, 1, [(0, -128, 127)])) rfl
        rw [hg] at g1
        cases g1
        exact g2
      · have q : j = 345 := by omega
        subst q
        obtain ⟨ws, g1, g2, -⟩ := hT.at (j := 345) (r := 94) rfl (q := (101, 400, 1, [(0, -128, 127)])) rfl
        rw [hg] at g1
        cases g1
        exact g2
    omega
theorem zcan_rel (h : zRel s) : zRel (zcan s) ∧ zcan s 9 = zcan s 345 := by
  obtain ⟨⟨a1, a2⟩, a3, a4, a5⟩ := h
  have key : ∀ k : Nat, k < 400 → zcan s 9 k = zcan s 345 k := fun k hk => by
    rw [zcan_o (by omega), zcan_o (by omega)]
    exact a2 k hk
  refine ⟨⟨⟨by rw [zcan_o (by omega), zcan_o (by omega)]; exact a1, key⟩, by rw [zcan_o (by omega), zcan_o (by omega)]; exact a3, by rw [zcan_o (by omega), zcan_o (by omega)]; exact a4, fun k hk => ⟨fun hm => by rw [zcan_o (by omega)] at hm; rw [zcan_o (by omega), zcan_o (by omega)]; exact (a5 k hk).1 hm, by rw [zcan_o (by omega), zcan_o (by omega)]; exact (a5 k hk).2⟩⟩, ?_⟩
  funext b
  by_cases hb : 0 ≤ b ∧ b < 400
  · have q := key b.toNat (by omega)
    rw [Int.toNat_of_nonneg hb.1] at q
    exact q
  · unfold zcan
    rw [if_pos ⟨Or.inl rfl, hb⟩, if_pos ⟨Or.inr rfl, hb⟩]
end ZN
/-- a call of which nothing but the contract is needed -/
theorem zU_free {I : yI} {Inv : xm_H → Prop} {d r1 nL n mc ms : Nat} {y : MethodName} {r3 : ByteArray} {ret : Option FieldType} {c : List xm_E} (hc : yc_ok Inv I (xm_exec d)) (hok : zokm I.1 = true) (hm : xm_nth xm_mtab I.1 = some (r1, y, r3, nL, ret, n, mc, ms, c)) {G : xm_H} {As : List Value} {zs : List zV} {E : xm_R} {Q : xm_Q} {s : zS} (hT : ys_HT G) (hI : Inv G) (hA : ys_args As I.2.1) (hf : ys_facts G (fun i => As[i]?) I.2.2.1) (ha : zsr As zs) (hR : zR G s) (hQ : ∀ (v : Option Value) (G' : xm_H) (s' : zS), ys_HT G' → Inv G' → ys_Fr I.2.2.2.2 G G' → (∃ c ∈ I.2.2.2.1, ys_case c As v G') → zR G' s' → zKp I.2.2.2.2 s s' → Q v G' E = true) : xm_exec d I.1 As G E Q = true := by
  obtain ⟨r, s', hE, -⟩ := zE_of (m := 0) hc hok hm E hT hI hA hf ha hR
  exact zE_use (m := 0) hc hm hT hI hA hf ha hR hE (fun v G' a b c d e f => hQ v G' s' a b c d f (zf_keep hT hR f c))
