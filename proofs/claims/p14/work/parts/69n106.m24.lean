/-! starts, on both sides -/
section NG
variable {bB : Int} {σ τ : Int → Int} {n m K B M : Nat} {F : Int} {U : (Int → Int) → Int} {s t z : zS} {a c x y f h : Int} {p q b i : Nat} {A : Nat × Nat → Nat → Int} {L : List (Nat × Nat)}
theorem zfin_st (h7 : n ≤ 7) (hp : p < n) {k : Int} (hk : zst k ∨ 87 ≤ k) : zfin σ n m F U B p b k = σ k := by
  unfold zfin
  rw [zPn_st h7 _ k (hk.imp_right (fun q => by omega)), zst1_st h7 hp hk]
theorem zB_220 {G : Nat} {R : Int × zS} (H : zGs bB σ n m) (hM10 : M ≤ 10) (hM : σ 137 = ((M : Nat) : Int)) (hr : ∀ k : Nat, k < M → 0 ≤ σ (117 + 2 * ((k : Nat) : Int)) ∧ σ (117 + 2 * ((k : Nat) : Int)) < ((n : Nat) : Int)) (hB : σ 4 = ((B : Nat) : Int)) (hU : ¬ F < 0 → zRu z F U) (hJ : zJb σ F z t) (e0 : zG G xm_c220 0 [344, 0, 0, 0] [] t R) : zML (zan σ n m F U B) n R.2 (zall σ n m F U B M n) ∧ R.2 354 = σ := by
  have h7 := H.1.2.1
  have gn := H.1.1
  have g : zJg σ F z n m U := ⟨H.1.1, h7, H.1.2.2.1, H.1.2.2.2.1, hU⟩
  have B9 : B ≤ 999 := by
    have d := H.1.2.2.2.2.2.2.2.2.1
    rw [hB] at d
    clear hr H e0 hU hJ g
    omega
  have hr6 : ∀ k : Nat, k < M → 0 ≤ σ (117 + 2 * ((k : Nat) : Int)) ∧ σ (117 + 2 * ((k : Nat) : Int)) ≤ 6 := fun k hk => by
    have d := hr k hk
    clear hr H e0 hU hJ g
    omega
  obtain ⟨F1, l1, r1, s1, q1, e1⟩ := zi_220_0 e0
  have J0 : zJb σ F z (zu t 344 30 0) := zJb_o hJ (by decide)
  obtain ⟨J1, a1⟩ := zJ_207 J0 q1
  have o1 : s1 344 30 = 0 := by
    have d : s1 344 = zu t 344 30 0 344 := zJo_207 q1
    rw [d, zu_hit]
  have eB : t (344 + 10) 4 = ((B : Nat) : Int) := by
    show t 354 4 = _
    rw [hJ.1, hB]
  rw [eB] at e1
  have df : ∀ p : Nat, (zpe σ ((p : Nat) : Int) 6 = 0 ↔ ¬ zdf σ p = true) := fun p => by
    unfold zdf
    rw [decide_eq_true_iff]
    exact ⟨fun q w => w q, fun q => Decidable.not_not.mp q⟩
  -- one start
  have one : ∀ (G p b : Nat) (u : zS) (R : Int × zS) (L : List (Nat × Nat)), p < n → b ≤ 40 → b ≤ B → L.length < 287 → zML (zan σ n m F U B) n u L → zJk σ F z u → u 354 = σ → zG G xm_c220 31 [344, ((B : Nat) : Int), ((p : Nat) : Int), ((b : Nat) : Int)] [] u R → ∃ (F' : Nat) (u' : zS), F' < G ∧ zML (zan σ n m F U B) n u' (if zok σ n m F U B M p b = true then L ++ [(p, b)] else L) ∧ zJk σ F z u' ∧ u' 354 = σ ∧ zG F' xm_c220 45 [344, ((B : Nat) : Int), ((p : Nat) : Int), ((b : Nat) : Int)] [] u' R := by
    intro G p b u R L hp hb40 hbB hl hC J a0 e0
    have p6 : ((p : Nat) : Int) ≤ 6 := by
      clear hr hr6 H hU hJ g hC J a0
      omega
    obtain ⟨F1, l1, r1, s1, q1, e1⟩ := zi_220_31 e0
    obtain ⟨b1, b2⟩ := zB_219k (R := (r1, s1)) H hU hp hb40 B9 hbB q1 a0 J.2.2.2.1 J.2.2.2.2
    have b1 : s1 354 = zfin σ n m F U B p b := b1
    have b2 : zPk u s1 := b2
    have J1 : zJk σ F z s1 := zJ_219 g J (Int.natCast_nonneg p) p6 q1
    have C1 : zML (zan σ n m F U B) n s1 L := by
      unfold zML at hC ⊢
      rw [b2.2 30 (by decide) (by decide), b2.1 358 (by decide) (by decide) (by decide) (by decide) (by decide), b2.1 359 (by decide) (by decide) (by decide) (by decide) (by decide)]
      exact hC
    obtain ⟨F2, l2, r2, s2, q2, e2⟩ := zi_220_36 e1
    have kk := zB_218 (M := M) (σ := σ) b1 (fun k k0 k1 => zfin_st h7 hp (Or.inr (by omega))) hM hM10 hr6 q2
    obtain ⟨k31, k32⟩ := zpr kk
    subst k31
    have k33 := k32.symm
    subst k33
    have fn1 : zfin σ n m F U B p b 1 = ((n : Nat) : Int) := (zfin_st h7 hp (Or.inl (by unfold zst; omega))).trans gn
    have fin : ∀ (F3 : Nat) (w : zS) (L' : List (Nat × Nat)), F3 < G → zML (zan σ n m F U B) n w L' → zJk σ F z w → zG F3 xm_c220 43 [344, ((B : Nat) : Int), ((p : Nat) : Int), ((b : Nat) : Int)] [] w R → ∃ (F' : Nat) (u' : zS), F' < G ∧ zML (zan σ n m F U B) n u' L' ∧ zJk σ F z u' ∧ u' 354 = σ ∧ zG F' xm_c220 45 [344, ((B : Nat) : Int), ((p : Nat) : Int), ((b : Nat) : Int)] [] u' R := fun F3 w L' l3 hC' J' e3 => by
      obtain ⟨F4, l4, r4, s4, q4, e4⟩ := zi_220_43 e3
      obtain ⟨J4, a4⟩ := zJ_208 J' q4
      have f4 : ∀ x, x ≠ 354 → s4 x = w x := zB_208f q4
      refine ⟨F4, s4, Nat.lt_trans l4 l3, ?_, J4, a4, e4⟩
      unfold zML at hC' ⊢
      rw [f4 344 (by decide), f4 358 (by decide), f4 359 (by decide)]
      exact hC'
    by_cases ok : zok σ n m F U B M p b = true
    · have ok' : zNs σ (zfin σ n m F U B p b) M = true := ok
      rw [if_pos ok'] at e2
      rw [if_pos ok]
      obtain ⟨F3, l3, w3⟩ := zi_220_38 e2
      obtain ⟨F4, l4, r4, s4, q4, e4⟩ := zi_220_39 (w3.resolve_left (fun q => absurd q.1 (by decide))).2
      have J4 : zJk σ F z s4 := zJ_221 g J1 q4
      have C4 : zML (zan σ n m F U B) n s4 (L ++ [(p, b)]) := zB_221 h7 fn1 b1 (by clear hr hr6 H hU hJ g hC J a0 fin; omega) hb40 C1 hl (fun q hq => rfl) q4
      exact fin F4 s4 _ (Nat.lt_trans l4 (Nat.lt_trans l3 (Nat.lt_trans l2 l1))) C4 J4 e4
    · have ok' : ¬ zNs σ (zfin σ n m F U B p b) M = true := ok
      rw [if_neg ok'] at e2
      rw [if_neg ok]
      obtain ⟨F3, l3, w3⟩ := zi_220_38 e2
      exact fin F3 s1 L (Nat.lt_trans l3 (Nat.lt_trans l2 l1)) C1 J1 (w3.resolve_right (fun q => absurd rfl q.1)).2
  have inner : ∀ (G p b : Nat) (u : zS) (R : Int × zS), p < n → ¬ zdf σ p = true → b ≤ zMx B → zML (zan σ n m F U B) n u (zall σ n m F U B M p ++ zlq (zok σ n m F U B M) p b) → zJk σ F z u → u 354 = σ → zG G xm_c220 20 [344, ((B : Nat) : Int), ((p : Nat) : Int), ((b : Nat) : Int)] [] u R → ∃ (F' : Nat) (u' : zS) (x3 : Int), F' < G ∧ zML (zan σ n m F U B) n u' (zall σ n m F U B M (p + 1)) ∧ zJk σ F z u' ∧ u' 354 = σ ∧ zG F' xm_c220 47 [344, ((B : Nat) : Int), ((p : Nat) : Int), x3] [] u' R := by
    intro G
    induction G using Nat.strongRecOn with
    | _ G ih =>
      intro p b u R hp hd hbM hC J a0 e0
      have out : ∀ F1, F1 < G → ¬ (b ≤ 40 ∧ b ≤ B) → zG F1 xm_c220 47 [344, ((B : Nat) : Int), ((p : Nat) : Int), ((b : Nat) : Int)] [] u R → ∃ (F' : Nat) (u' : zS) (x3 : Int), F' < G ∧ zML (zan σ n m F U B) n u' (zall σ n m F U B M (p + 1)) ∧ zJk σ F z u' ∧ u' 354 = σ ∧ zG F' xm_c220 47 [344, ((B : Nat) : Int), ((p : Nat) : Int), x3] [] u' R := fun F1 l1 no e1 => by
        have bM : b = zMx B := Nat.le_antisymm hbM (Nat.not_lt.mp (fun q => no (zMx_b.mp q)))
        refine ⟨F1, u, _, l1, ?_, J, a0, e1⟩
        have eS : zall σ n m F U B M (p + 1) = zall σ n m F U B M p ++ zlq (zok σ n m F U B M) p (zMx B) := if_neg hd
        rw [eS, ← bM]
        exact hC
      obtain ⟨F1, l1, ⟨c1, e1⟩ | ⟨c1, e1⟩⟩ := zi_220_20 e0
      · exact out F1 l1 (fun q => by
          clear ih hC J out hr hr6 H hU hJ g
          omega) e1
      obtain ⟨F2, l2, ⟨c2, e2⟩ | ⟨c2, e2⟩⟩ := zi_220_23 e1
      · exact out F2 (Nat.lt_trans l2 l1) (fun q => by
          clear ih hC J out hr hr6 H hU hJ g
          omega) e2
      have b40 : b ≤ 40 := by
        clear ih hC J out hr hr6 H hU hJ g
        omega
      have bB' : b ≤ B := by
        clear ih hC J out hr hr6 H hU hJ g
        omega
      have p6 : ((p : Nat) : Int) ≤ 6 := by
        clear ih hC J out hr hr6 H hU hJ g
        omega
      obtain ⟨F3, l3, r3, s3, q3, e3⟩ := zi_220_26 e2
      obtain ⟨rfl, rfl⟩ := zdet q3 (zr_per a0 (Int.natCast_nonneg p) p6 (by decide) (by decide))
      obtain ⟨F4, l4, ⟨c4, e4⟩ | ⟨c4, e4⟩⟩ := zi_220_30 e3
      · have ln : (zall σ n m F U B M p ++ zlq (zok σ n m F U B M) p b).length < 287 := by
          rw [List.length_append]
          have n1 : (zall σ n m F U B M p).length ≤ p * zMx B := zlp_n p
          have n2 := zlq_n (ok := zok σ n m F U B M) p b
          have n3 : p * zMx B ≤ 6 * 41 := Nat.mul_le_mul (by omega) zMx_r
          clear ih hC J out hr hr6 H hU hJ g
          omega
        obtain ⟨F5, u', l5, hC', J', a', e5⟩ := one F4 p b u R _ hp b40 bB' ln hC J a0 e4
        obtain ⟨F6, l6, e6⟩ := zi_220_45 e5
        have en : zw (((b : Nat) : Int) + 1) = ((b + 1 : Nat) : Int) := by
          clear ih hC J out hC' J' hr hr6 H hU hJ g
          exact zw_id (by omega) (by omega)
        rw [en] at e6
        have eq : (if zok σ n m F U B M p b = true then (zall σ n m F U B M p ++ zlq (zok σ n m F U B M) p b) ++ [(p, b)] else zall σ n m F U B M p ++ zlq (zok σ n m F U B M) p b) = zall σ n m F U B M p ++ zlq (zok σ n m F U B M) p (b + 1) := by
          have eS : zlq (zok σ n m F U B M) p (b + 1) = if zok σ n m F U B M p b = true then zlq (zok σ n m F U B M) p b ++ [(p, b)] else zlq (zok σ n m F U B M) p b := rfl
          rw [eS]
          by_cases ok : zok σ n m F U B M p b = true
          · rw [if_pos ok, if_pos ok, List.append_assoc]
          · rw [if_neg ok, if_neg ok]
        rw [eq] at hC'
        obtain ⟨F', u'', x3, z1, z2⟩ := ih F6 (Nat.lt_trans l6 (Nat.lt_trans l5 (Nat.lt_trans l4 (Nat.lt_trans l3 (Nat.lt_trans l2 l1))))) p (b + 1) u' R hp hd (zMx_b.mpr ⟨b40, bB'⟩) hC' J' a' e6
        exact ⟨F', u'', x3, Nat.lt_trans z1 (Nat.lt_trans l6 (Nat.lt_trans l5 (Nat.lt_trans l4 (Nat.lt_trans l3 (Nat.lt_trans l2 l1))))), z2⟩
      · exact absurd ((df p).mpr hd) c4
  have outer : ∀ (G p : Nat) (x3 : Int) (u : zS) (R : Int × zS), p ≤ n → zML (zan σ n m F U B) n u (zall σ n m F U B M p) → zJk σ F z u → u 354 = σ → zG G xm_c220 12 [344, ((B : Nat) : Int), ((p : Nat) : Int), x3] [] u R → zML (zan σ n m F U B) n R.2 (zall σ n m F U B M n) ∧ R.2 354 = σ := by
    intro G
    induction G using Nat.strongRecOn with
    | _ G ih =>
      intro p x3 u R hp hC J a0 e0
      obtain ⟨F1, l1, ⟨c1, e1⟩ | ⟨c1, e1⟩⟩ := zi_220_12 e0
      · have c1 : ((p : Nat) : Int) < u 354 1 := c1
        have pL : p < n := by
          rw [a0, gn] at c1
          exact Int.ofNat_lt.mp c1
        have p6 : ((p : Nat) : Int) ≤ 6 := by
          clear ih hC J c1 hr hr6 H hU hJ g
          omega
        have en : zw (((p : Nat) : Int) + 1) = ((p + 1 : Nat) : Int) := by
          clear ih hC J c1 hr hr6 H hU hJ g
          exact zw_id (by omega) (by omega)
        obtain ⟨F2, l2, e2⟩ := zi_220_18 e1
        by_cases dp : zdf σ p = true
        · have eS : zall σ n m F U B M (p + 1) = zall σ n m F U B M p := if_pos dp
          obtain ⟨F3, l3, ⟨c3, e3⟩ | ⟨c3, e3⟩⟩ := zi_220_20 e2
          · exact absurd c3 (by decide)
          obtain ⟨F4, l4, ⟨c4, e4⟩ | ⟨c4, e4⟩⟩ := zi_220_23 e3
          · exact absurd c4 (Int.not_lt.mpr (Int.natCast_nonneg B))
          obtain ⟨F5, l5, r5, s5, q5, e5⟩ := zi_220_26 e4
          obtain ⟨rfl, rfl⟩ := zdet q5 (zr_per a0 (Int.natCast_nonneg p) p6 (by decide) (by decide))
          obtain ⟨F6, l6, ⟨c6, e6⟩ | ⟨c6, e6⟩⟩ := zi_220_30 e5
          · exact absurd dp ((df p).mp c6)
          · obtain ⟨F7, l7, e7⟩ := zi_220_47 e6
            rw [en] at e7
            exact ih F7 (Nat.lt_trans l7 (Nat.lt_trans l6 (Nat.lt_trans l5 (Nat.lt_trans l4 (Nat.lt_trans l3 (Nat.lt_trans l2 l1)))))) (p + 1) _ u R pL (by rw [eS]; exact hC) J a0 e7
        · obtain ⟨F3, u', x3', l3, hC', J', a', e3⟩ := inner F2 p 0 u R pL dp (Nat.zero_le _) (by
            show zML _ n u (zall σ n m F U B M p ++ [])
            rw [List.append_nil]
            exact hC) J a0 e2
          obtain ⟨F4, l4, e4⟩ := zi_220_47 e3
          rw [en] at e4
          exact ih F4 (Nat.lt_trans l4 (Nat.lt_trans l3 (Nat.lt_trans l2 l1))) (p + 1) _ u' R pL hC' J' a' e4
      · have c1 : ¬ ((p : Nat) : Int) < u 354 1 := c1
        have pL : p = n := by
          rw [a0, gn] at c1
          exact Nat.le_antisymm hp (Nat.not_lt.mp (fun q => c1 (Int.ofNat_lt.mpr q)))
        rw [zi_220_49 e1]
        rw [pL] at hC
        exact ⟨hC, a0⟩
  obtain ⟨F2, l2, e2⟩ := zi_220_10 e1
  exact outer F2 0 _ s1 R (Nat.zero_le n) ⟨o1, fun i hi => absurd hi (Nat.not_lt_zero i), fun i q hi => absurd hi (Nat.not_lt_zero i)⟩ J1 a1 e2
theorem zdv_all : ∀ (p : Fin 7) (b : Fin 41), zdiv (64 * ((p.val : Nat) : Int) + ((b.val : Nat) : Int)) 64 = ((p.val : Nat) : Int) ∧ zrem (64 * ((p.val : Nat) : Int) + ((b.val : Nat) : Int)) 64 = ((b.val : Nat) : Int) := by decide +kernel
/-- of all starts -/
theorem zall_m (h7 : n ≤ 7) (hi : i < (zall σ n m F U B M n).length) : (znt (zall σ n m F U B M n) i).1 < 7 ∧ (znt (zall σ n m F U B M n) i).2 < 41 := by
  have z := zlp_m (ok := zok σ n m F U B M) (df := zdf σ) (M := zMx B) n _ (znt_m _ i hi)
  exact ⟨Nat.lt_of_lt_of_le z.1 h7, Nat.lt_of_lt_of_le z.2 zMx_r⟩
theorem zB_107 {G : Nat} {R : Int × zS} (hD : zgD bB s n m) (hM10 : M ≤ 10) (hM : s 354 137 = ((M : Nat) : Int)) (hr : ∀ k : Nat, k < M → 0 ≤ s 354 (117 + 2 * ((k : Nat) : Int)) ∧ s 354 (117 + 2 * ((k : Nat) : Int)) < ((n : Nat) : Int)) (hB : s 354 4 = ((B : Nat) : Int)) (hC : -1 ≤ s 10 6 ∧ s 10 6 < s 7 8) (uC : ∀ z : zS, (∀ x, 240 ≤ x → x ≤ 263 → z x = s x) → z 237 1 = (if s 10 6 < 0 then -1 else 240 + 4 * s 10 6) → zRc z (s 10 6) U) (e0 : zG G xm_c107 0 [7, y] [] s R) : R.1 = if 0 < s 354 0 ∧ (0 ≤ y ∧ y ≤ 2) then zsta (zall (s 354) n m (s 10 6) U B M n) y else -1 := by
  have h0 : s 11 0 = s 354 0 := hD.1.1.1.1
  obtain ⟨F1, l1, r1, s1, q1, e1⟩ := zi_107_0 e0
  obtain ⟨rfl, rfl⟩ := zdet q1 (zo_stands (h := 11))
  rw [h0] at e1
  by_cases c0 : 0 < s 354 0
  case neg =>
    rw [if_neg c0] at e1
    rw [if_neg (fun q => c0 q.1)]
    obtain ⟨F2, l2, ⟨c2, e2⟩ | ⟨c2, e2⟩⟩ := zi_107_4 e1
    · rw [zi_107_10 e2]
    · exact absurd rfl c2
  rw [if_pos c0] at e1
  obtain ⟨F2, l2, ⟨c2, e2⟩ | ⟨c2, e2⟩⟩ := zi_107_4 e1
  · exact absurd c2 (by decide)
  obtain ⟨F3, l3, ⟨c3, e3⟩ | ⟨c3, e3⟩⟩ := zi_107_5 e2
  · rw [zi_107_10 e3, if_neg (fun q => absurd q.2.1 (Int.not_le.mpr c3))]
  obtain ⟨F4, l4, ⟨c4, e4⟩ | ⟨c4, e4⟩⟩ := zi_107_7 e3
  · rw [zi_107_10 e4, if_neg (fun q => absurd q.2.2 (Int.not_le.mpr c4))]
  rw [if_pos ⟨c0, Int.not_lt.mp c3, Int.not_lt.mp c4⟩]
  obtain ⟨F5, l5, r5, s5, q5, e5⟩ := zi_107_12 e4
  obtain ⟨rfl, rfl⟩ := zdet q5 (zo_rif hC.1 hC.2)
  obtain ⟨F6, l6, r6, s6, q6, e6⟩ := zi_107_16 e5
  obtain ⟨F7, l7, r7, s7, q7, e7⟩ := zi_107_17 e6
  have z : zCL (zan (s 354) n m (s 10 6) U B) n s7 (zall (s 354) n m (s 10 6) U B M n) := zB_50 (M := M) (R0 := (r6, s6)) (R := (r7, s7)) hD.1 hD.2.1 hD.2.2.1 hM10 hM hr hB uC q6 q7
  obtain ⟨z1, z2, -⟩ := z
  unfold zsta
  have w8 : s7 (7 + 217) 8 = (((zall (s 354) n m (s 10 6) U B M n).length : Nat) : Int) := z1
  obtain ⟨F8, l8, ⟨c8, e8⟩ | ⟨c8, e8⟩⟩ := zi_107_20 e7
  · rw [zi_107_22 e8, if_pos c8]
    exact w8
  rw [if_neg c8]
  obtain ⟨F9, l9, ⟨c9, e9⟩ | ⟨c9, e9⟩⟩ := zi_107_26 e8
  · rw [w8] at c9
    rw [zi_107_30 e9, if_pos (Int.ofNat.inj c9)]
  rw [w8] at c9
  have L0 : (zall (s 354) n m (s 10 6) U B M n).length ≠ 0 := fun q => c9 (by
    rw [q]
    rfl)
  rw [if_neg L0]
  obtain ⟨d1, d2⟩ := z2 L0
  obtain ⟨F10, l10, ⟨c10, e10⟩ | ⟨c10, e10⟩⟩ := zi_107_32 e9
  · rw [zi_107_35 e10, if_pos c10]
    exact d1
  · rw [zi_107_39 e10, if_neg c10]
    exact d2
theorem zB_222 {G : Nat} {R : Int × zS} (H : zGs bB σ n m) (hM10 : M ≤ 10) (hM : σ 137 = ((M : Nat) : Int)) (hr : ∀ k : Nat, k < M → 0 ≤ σ (117 + 2 * ((k : Nat) : Int)) ∧ σ (117 + 2 * ((k : Nat) : Int)) < ((n : Nat) : Int)) (hB : σ 4 = ((B : Nat) : Int)) (hU : ¬ F < 0 → zRu z F U) (hJ : zJb σ F z t) (e0 : zG G xm_c222 0 [344, y] [] t R) : R.1 = if 0 < σ 0 ∧ (0 ≤ y ∧ y ≤ 2) then zsta (zall σ n m F U B M n) y else -1 := by
  have h7 := H.1.2.1
  have a := hJ.1
  obtain ⟨F1, l1, r1, s1, q1, e1⟩ := zi_222_0 e0
  obtain ⟨rfl, rfl⟩ := zdet q1 zq_house
  rw [a] at e1
  by_cases c0 : 0 < σ 0
  case neg =>
    rw [if_neg c0] at e1
    rw [if_neg (fun q => c0 q.1)]
    obtain ⟨F2, l2, ⟨c2, e2⟩ | ⟨c2, e2⟩⟩ := zi_222_2 e1
    · rw [zi_222_9 e2]
    · exact absurd rfl c2
  rw [if_pos c0] at e1
  obtain ⟨F2, l2, ⟨c2, e2⟩ | ⟨c2, e2⟩⟩ := zi_222_2 e1
  · exact absurd c2 (by decide)
  obtain ⟨F3, l3, r3, s3, q3, e3⟩ := zi_222_3 e2
  obtain ⟨rfl, rfl⟩ := zdet q3 (zr_in2 (lo := 0) (hi := 2))
  by_cases c1 : 0 ≤ y ∧ y ≤ 2
  case neg =>
    rw [if_neg c1] at e3
    rw [if_neg (fun q => c1 q.2)]
    obtain ⟨F4, l4, ⟨c4, e4⟩ | ⟨c4, e4⟩⟩ := zi_222_8 e3
    · rw [zi_222_9 e4]
    · exact absurd rfl c4
  rw [if_pos c1] at e3
  rw [if_pos ⟨c0, c1⟩]
  obtain ⟨F4, l4, ⟨c4, e4⟩ | ⟨c4, e4⟩⟩ := zi_222_8 e3
  · exact absurd c4 (by decide)
  obtain ⟨F5, l5, r5, s5, q5, e5⟩ := zi_222_11 e4
  have z : zML (zan σ n m F U B) n s5 (zall σ n m F U B M n) := (zB_220 (M := M) (R := (r5, s5)) H hM10 hM hr hB hU hJ q5).1
  obtain ⟨z1, z2, -⟩ := z
  unfold zsta
  obtain ⟨F6, l6, ⟨c6, e6⟩ | ⟨c6, e6⟩⟩ := zi_222_13 e5
  · rw [zi_222_15 e6, if_pos c6]
    exact z1
  rw [if_neg c6]
  obtain ⟨F7, l7, ⟨c7, e7⟩ | ⟨c7, e7⟩⟩ := zi_222_18 e6
  · rw [z1] at c7
    rw [zi_222_21 e7, if_pos (Int.ofNat.inj c7)]
  rw [z1] at c7
  have L0 : (zall σ n m F U B M n).length ≠ 0 := fun q => c7 (by
    rw [q]
    rfl)
  rw [if_neg L0]
  have ms := zall_m (σ := σ) (m := m) (F := F) (U := U) (B := B) (M := M) h7 (Nat.pos_of_ne_zero L0)
  have dv := zdv_all ⟨_, ms.1⟩ ⟨_, ms.2⟩
  have v0 : s5 (344 + 14) 0 = 64 * (((znt (zall σ n m F U B M n) 0).1 : Nat) : Int) + (((znt (zall σ n m F U B M n) 0).2 : Nat) : Int) := z2 0 (Nat.pos_of_ne_zero L0)
  obtain ⟨F8, l8, ⟨c8, e8⟩ | ⟨c8, e8⟩⟩ := zi_222_23 e7
  · rw [zi_222_26 e8, if_pos c8, v0]
    exact dv.1
  · rw [zi_222_33 e8, if_neg c8, v0]
    exact dv.2
end NG
