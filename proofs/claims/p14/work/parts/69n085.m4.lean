/-! looking ahead in the class: the talk -/
/-- nothing can be told any more: none knows, or all but the deaf -/
def zSp (σ : Int → Int) (n : Nat) : Prop := (∀ p : Nat, p < n → ¬ zkn σ p) ∨ ∀ p : Nat, p < n → zkn σ p ∨ zpe σ ((p : Nat) : Int) 6 = 1
section ME
variable {bB : Int} {σ : Int → Int} {n m : Nat} {F : Int} {U : (Int → Int) → Int} {s t u : zS} {l : Int}
theorem zSp_to (h7 : n ≤ 7) (h : zSp σ n) {q : Nat} (hq : q < n) : zto (zsA σ m n) (zfs (zvD σ m) n) n F U ((q : Nat) : Int) = -1 := by
  have k8 : ∀ p : Nat, p < n → zpe (zsA σ m n) ((p : Nat) : Int) 8 = zpe σ ((p : Nat) : Int) 8 := fun p hp => by
    rw [zsA_p hp (by decide) (by decide), if_neg (by decide), if_neg (by decide), if_neg (by decide)]
  rcases h with h | h
  · unfold zto
    by_cases c : ¬ zpe (zsA σ m n) ((q : Nat) : Int) 8 < 0 ∨ zpe (zsA σ m n) ((q : Nat) : Int) 6 = 1 ∨ ¬ zbt (zfs (zvD σ m) n) ((q : Nat) : Int) = 1
    · rw [if_pos c]
    · rw [if_neg c]
      have e : zfi (fun a => zte (zsA σ m n) (zfs (zvD σ m) n) n F U ((a : Nat) : Int) ((q : Nat) : Int)) n 0 = -1 := zfi_none n 0 (fun j _ hj w => h j (by omega) (by
        have w2 := w.2.1
        rw [k8 j (by omega)] at w2
        exact w2))
      rw [if_pos e]
      unfold zbk
      by_cases d : zsA σ m n 6 < 0
      · rw [if_pos d]
      · rw [if_neg d]
        by_cases d2 : zpe (zsA σ m n) ((q : Nat) : Int) 0 = zsA σ m n 7
        · rw [if_pos d2]
          exact zfi_none n 0 (fun j _ hj w => h j (by omega) (by
            have w2 : ¬ zpe (zsA σ m n) ((j : Nat) : Int) 8 < 0 := w.1
            rw [k8 j (by omega)] at w2
            exact w2))
        · rw [if_neg d2]
  · refine zto_N hq h7 (Or.inr ?_)
    rcases h q hq with w | w
    · refine Or.inl ?_
      unfold zkn at w ⊢
      rw [k8 q hq]
      exact w
    · exact Or.inr w
theorem zSp_Po (h7 : n ≤ 7) (h : zSp σ n) {q : Nat} (hq : q < n) {j : Int} (j0 : 4 ≤ j) (j1 : j ≤ 10) : zpe (zPo σ n m F U) ((q : Nat) : Int) j = zpe σ ((q : Nat) : Int) j := by
  rw [zPo_p h7 hq (by omega) j1, zSp_to h7 h hq, if_neg (by decide)]
  rw [if_neg (by omega), if_neg (by omega), if_neg (by omega)]
theorem zSp_L (h7 : n ≤ 7) (h : zSp σ n) (H : zRL t l σ n) : zRL t l (zPo σ n m F U) n ∧ zSp (zPo σ n m F U) n := by
  have e : ∀ (q : Nat) (j : Int), q < n → 4 ≤ j → j ≤ 10 → zpe (zPo σ n m F U) ((q : Nat) : Int) j = zpe σ ((q : Nat) : Int) j := fun q j hq j0 j1 => zSp_Po h7 h hq j0 j1
  have k : ∀ q : Nat, q < n → (zkn (zPo σ n m F U) q ↔ zkn σ q) := fun q hq => by
    unfold zkn
    rw [e q 8 hq (by decide) (by decide)]
  refine ⟨⟨H.1.trans (zfo_congr n (fun q hq => (k q hq).symm)), fun q hq => ?_⟩, h.imp (fun w q hq x => w q hq ((k q hq).mp x)) (fun w q hq => (w q hq).imp (k q hq).mpr (fun x => by rw [e q 6 hq (by decide) (by decide)]; exact x))⟩
  rw [e q 8 hq (by decide) (by decide), e q 9 hq (by decide) (by decide), e q 10 hq (by decide) (by decide)]
  exact H.2 q hq
theorem zSp_n (h7 : n ≤ 7) {i : Nat} (h : zSp (zPn σ n m F U i) n) (H : zRL t l (zPn σ n m F U i) n) : ∀ k : Nat, zRL t l (zPn σ n m F U (i + k)) n ∧ zSp (zPn σ n m F U (i + k)) n
  | 0 => ⟨H, h⟩
  | k + 1 => by
    obtain ⟨a, b⟩ := zSp_n h7 h H k
    exact zSp_L h7 b a
theorem zall_b : ∀ (a b : Fin 8), b.val < a.val → zbt (zw (zshl 1 ((a.val : Nat) : Int) - 1)) ((b.val : Nat) : Int) = 1 := by decide
theorem zand_11 (x : Int) (h : x = 0 ∨ x = 1) : zand x 1 = 1 → x = 1 := by
  rcases h with rfl | rfl
  · intro q
    exact absurd q (by decide)
  · intro _
    rfl
/-- whether a telling could change anything -/
theorem zB_12 {G : Nat} {R : Int × zS} (h7 : n ≤ 7) (h1 : t 11 1 = ((n : Nat) : Int)) (hL : zRL t 230 σ n) (hdf : ∀ p : Nat, p < n → zbt (t 237 3) ((p : Nat) : Int) = zpe σ ((p : Nat) : Int) 6) (e0 : zG G xm_c12 0 [237, 230, 0] [] t R) : R.2 = t ∧ (R.1 = 0 → zSp σ n) := by
  obtain ⟨F1, l1, ⟨c1, e1⟩ | ⟨c1, e1⟩⟩ := zi_12_0 e0
  · have k := zi_12_22 e1
    rw [k]
    refine ⟨rfl, fun _ => Or.inl ?_⟩
    have z : zfs (zkn σ) n = 0 := hL.1.symm.trans c1
    exact (zfo_z (by omega)).mp z
  · obtain ⟨F2, l2, ⟨c2, e2⟩ | ⟨c2, e2⟩⟩ := zi_12_11 e1
    · have k := zi_12_22 e2
      rw [k]
      refine ⟨rfl, fun _ => Or.inr (fun p hp => ?_)⟩
      have ea : zw (zshl 1 (t (237 + -226) 1) - 1) = zw (zshl 1 ((n : Nat) : Int) - 1) := by
        show zw (zshl 1 (t 11 1) - 1) = _
        rw [h1]
      have c2 : zand (zor (t 230 0) (t 237 3)) (zw (zshl 1 (t (237 + -226) 1) - 1)) = zw (zshl 1 (t (237 + -226) 1) - 1) := c2
      rw [ea] at c2
      have b := congrArg (fun v => zbt v ((p : Nat) : Int)) c2
      have a1 := zall_b ⟨n, by omega⟩ ⟨p, by omega⟩ hp
      have b : zbt (zand (zor (t 230 0) (t 237 3)) (zw (zshl 1 ((n : Nat) : Int) - 1))) ((p : Nat) : Int) = zbt (zw (zshl 1 ((n : Nat) : Int) - 1)) ((p : Nat) : Int) := b
      have a1 : zbt (zw (zshl 1 ((n : Nat) : Int) - 1)) ((p : Nat) : Int) = 1 := a1
      rw [zbt_and, a1] at b
      have b2 := zand_11 _ (zbt_01 _ _) b
      rw [zbt_or, hL.1, zbt_fo (by omega) n (by omega), hdf p hp] at b2
      by_cases w : zkn σ p
      · exact Or.inl w
      · rw [if_neg (fun q => w q.2)] at b2
        refine Or.inr ?_
        have r := zbt_01 (t 237 3) ((p : Nat) : Int)
        rw [hdf p hp] at r
        rw [(zor_0 _ r).2.1] at b2
        exact b2
    · have k := zi_12_20 e2
      rw [k]
      exact ⟨rfl, fun q => absurd (show (1 : Int) = 0 from q) (by decide)⟩
theorem zRHw_c {s s' : zS} {h : Int} (H : zRHw s h σ n m) (e : ∀ x, h ≤ x → x ≤ h + 7 → s' x = s x) : zRHw s' h σ n m := by
  unfold zRHw at H ⊢
  rw [e h (by omega) (by omega), e (h + 1) (by omega) (by omega), e (h + 2) (by omega) (by omega), e (h + 3) (by omega) (by omega), e (h + 4) (by omega) (by omega), e (h + 5) (by omega) (by omega), e (h + 6) (by omega) (by omega), e (h + 7) (by omega) (by omega)]
  exact H
theorem zRHw_s {τ : Int → Int} {h : Int} (H : zRHw s h σ n m) (h7 : n ≤ 7) (e : ∀ k, zst k ∨ 87 ≤ k → τ k = σ k) : zRHw s h τ n m := by
  obtain ⟨⟨a0, a1, a2, a5, a6, a7, a8⟩, b, c⟩ := H
  have e0 : τ 0 = σ 0 := e 0 (Or.inl (Or.inl (Or.inl (by decide))))
  have lo : ∀ k, k < 4 → τ k = σ k := fun k hk => e k (Or.inl (Or.inl (Or.inl hk)))
  have e5 : τ 5 = σ 5 := e 5 (Or.inl (Or.inl (Or.inr (Or.inl (by decide)))))
  have e6 : τ 6 = σ 6 := e 6 (Or.inl (Or.inl (Or.inr (Or.inl (by decide)))))
  have e7 : τ 7 = σ 7 := e 7 (Or.inl (Or.inl (Or.inr (Or.inl (by decide)))))
  have e9 : τ 9 = σ 9 := e 9 (Or.inl (Or.inl (Or.inr (Or.inr rfl))))
  refine ⟨⟨by rw [a0, e0], by rw [a1, lo 1 (by decide)], by rw [a2, lo 2 (by decide)], by rw [a5, e 145 (Or.inr (by decide))], by rw [a6, e9], by rw [a7, e5], fun q => ?_⟩, fun p hp => ?_, fun i hi => ?_⟩
  · rw [e0] at q
    rw [e6, e7]
    exact a8 q
  · have pe : ∀ j : Int, 4 ≤ j → j ≤ 7 → zpe τ ((p : Nat) : Int) j = zpe σ ((p : Nat) : Int) j := fun j j0 j1 => e _ (Or.inl (zst_p (by omega) j0 j1))
    rw [pe 4 (by decide) (by decide), pe 5 (by decide) (by decide), pe 7 (by decide) (by decide), e (138 + ((p : Nat) : Int)) (Or.inr (by omega))]
    exact b p hp
  · rw [e (87 + 3 * ((i : Nat) : Int)) (Or.inr (by omega)), e (87 + 3 * ((i : Nat) : Int) + 1) (Or.inr (by omega)), e (87 + 3 * ((i : Nat) : Int) + 2) (Or.inr (by omega))]
    exact c i hi
/-- the talk from a bell on -/
theorem zB_45g {G : Nat} {R : Int × zS} (H : zGs bB σ n m) (hGt : zGt σ) {o K : Nat} (hK : o + K ≤ 999) (h : bB + ((K : Nat) : Int) ≤ 999) (hH : zRHw t 11 σ n m) (hL : zRL t 230 σ n) (hla : ∀ j : Nat, j < K → t 234 ((o + j : Nat) : Int) = zlan (zPn σ n m F U j) m n) (hb : t 224 7 + ((o : Nat) : Int) = σ 4) (hpl : t 237 2 = σ 8) (hdf : ∀ p : Nat, p < n → zbt (t 237 3) ((p : Nat) : Int) = zpe σ ((p : Nat) : Int) 6) (hR : ∀ z : zS, (∀ x, 240 ≤ x → x ≤ 263 → z x = t x) → z 237 1 = t 237 1 → zRc z F U) (e0 : zG G xm_c45 0 [224, ((o : Nat) : Int), ((o + K : Nat) : Int), 0] [] t R) : zRL R.2 230 (zPn σ n m F U K) n ∧ ∀ x, x ≠ 238 → x ≠ 239 → ¬ (230 ≤ x ∧ x ≤ 233) → R.2 x = t x := by
  have h7 := H.1.2.1
  have lo8 : ∀ k : Nat, zPn σ n m F U k 8 = σ 8 := fun k => by
    induction k with
    | zero => rfl
    | succ k ih =>
      show zPo (zPn σ n m F U k) n m F U 8 = σ 8
      rw [zPo_k (by decide), zsC_lo (by decide), zsA_lo (by decide)]
      exact ih
  have loop : ∀ (G : Nat) (k : Nat) (u : zS) (R : Int × zS), k ≤ K → zG G xm_c45 2 [224, ((o : Nat) : Int), ((o + K : Nat) : Int), ((o + k : Nat) : Int)] [] u R → zRL u 230 (zPn σ n m F U k) n → (∀ x, x ≠ 238 → x ≠ 239 → ¬ (230 ≤ x ∧ x ≤ 233) → u x = t x) → zRL R.2 230 (zPn σ n m F U K) n ∧ ∀ x, x ≠ 238 → x ≠ 239 → ¬ (230 ≤ x ∧ x ≤ 233) → R.2 x = t x := by
    intro G
    induction G using Nat.strongRecOn with
    | _ G ih =>
      intro k u R hk e0 a d
      have stop : zSp (zPn σ n m F U k) n → zRL u 230 (zPn σ n m F U K) n := fun w => by
        have := (zSp_n h7 w a (K - k)).1
        rw [Nat.add_sub_cancel' hk] at this
        exact this
      obtain ⟨F1, l1, ⟨c1, e1⟩ | ⟨c1, e1⟩⟩ := zi_45_2 e0
      · have kK : k < K := by
          clear ih a d hR hla stop
          omega
        obtain ⟨F2, l2, e2⟩ := zi_45_5 e1
        obtain ⟨F3, l3, e3⟩ := zi_45_8 e2
        rw [zlen_234] at e3
        have g := zPn_G (F := F) (U := U) H h k hk
        have g4 := g.1.2.2.2.2.2.2.2
        have p4 := zPn_4 (F := F) (U := U) H h k hk
        have hHk : zRHw u 11 (zPn σ n m F U k) n m := zRHw_s (zRHw_c hH (fun x x1 x2 => d x (by clear ih; omega) (by clear ih; omega) (by clear ih; omega))) h7 (fun i hi => zPn_st h7 k i (hi.imp_right (fun q => by clear ih; omega)))
        have hdk : ∀ p : Nat, p < n → zbt (u 237 3) ((p : Nat) : Int) = zpe (zPn σ n m F U k) ((p : Nat) : Int) 6 := fun p hp => by
          rw [d 237 (by decide) (by decide) (by decide), hdf p hp]
          exact (zPn_st h7 k _ (Or.inl (zst_p (by clear ih a d hR hla stop; omega) (by decide) (by decide)))).symm
        obtain ⟨F4, l4, ⟨c4, e4⟩ | ⟨c4, e4⟩⟩ := zi_45_9 e3
        · obtain ⟨F5, l5, r5, s5, q5, e5⟩ := zi_45_10 e4
          obtain ⟨b1, b2⟩ := zB_12 h7 (by rw [d 11 (by decide) (by decide) (by decide)]; exact hH.1.2.1.trans H.1.1) a hdk q5
          have b1 : s5 = u := b1
          subst b1
          obtain ⟨F6, l6, ⟨c6, e6⟩ | ⟨c6, e6⟩⟩ := zi_45_15 e5
          · have k4 := zi_45_34 e6
            rw [k4]
            exact ⟨stop (b2 c6), d⟩
          · obtain ⟨F7, l7, r7, s7, q7, e7⟩ := zi_45_16 e6
            obtain ⟨F8, l8, e8⟩ := zi_45_31 e7
            have eb : (if 999 < zw (s5 224 7 + ((o + k : Nat) : Int)) then 999 else zw (s5 224 7 + ((o + k : Nat) : Int))) = zPn σ n m F U k 4 := by
              rw [d 224 (by decide) (by decide) (by decide), p4]
              rw [p4] at g4
              clear ih a d hR hla stop b2
              rw [zw_id (by omega) (by omega), if_neg (by omega)]
              omega
            have el : s5 (224 + 10) ((o + k : Nat) : Int) = zlan (zPn σ n m F U k) m n := by
              show s5 234 _ = _
              rw [d 234 (by decide) (by decide) (by decide)]
              exact hla k kK
            rw [eb, el] at q7
            obtain ⟨s', r', w1, w2, w3⟩ := zo_ringR (F := F) (U := U) (t := s5) (l := 230) ⟨g, zGt_s hGt (fun i hi => zPn_st h7 k i (Or.inl hi)), hHk, hR s5 (fun x x1 x2 => d x (by clear ih; omega) (by clear ih; omega) (by clear ih; omega)) (by rw [d 237 (by decide) (by decide) (by decide)]), ⟨by rw [d 237 (by decide) (by decide) (by decide), hpl, lo8], hdk⟩, fun p hp => (zv_r g hp).1, by decide, by decide⟩ a
            obtain ⟨rfl, rfl⟩ := zdet q7 w1
            have en : zw (((o + k : Nat) : Int) + 1) = ((o + (k + 1) : Nat) : Int) := by
              clear ih a d hR hla stop b2 w3 w2
              rw [zw_id (by omega) (by omega)]
              omega
            rw [en] at e8
            exact ih F8 (by clear a d hR hla stop b2 w3 w2; omega) (k + 1) s' R kK e8 w2 (fun x x1 x2 x3 => by rw [w3 x x1 x2 (by clear ih; omega)]; exact d x x1 x2 x3)
        · exfalso
          clear ih a d hR hla stop
          omega
      · have kK : k = K := by
          clear ih a d hR hla stop
          omega
        have k4 := zi_45_34 e1
        rw [k4]
        subst kK
        exact ⟨a, d⟩
  obtain ⟨F5, l5, e5⟩ := zi_45_0 e0
  exact loop F5 0 t R (Nat.zero_le K) e5 hL (fun _ _ _ _ => rfl)
/-- the talk -/
theorem zB_45 {G : Nat} {R : Int × zS} (H : zGs bB σ n m) (hGt : zGt σ) {K : Nat} (hK : K ≤ 100) (h : bB + ((K : Nat) : Int) ≤ 999) (hH : zRH t 11 σ n m) (hL : zRL t 230 σ n) (hla : ∀ j : Nat, j < K → t 234 ((j : Nat) : Int) = zlan (zPn σ n m F U j) m n) (hb : t 224 7 = σ 4) (hpl : t 237 2 = σ 8) (hdf : t 237 3 = t 11 4) (hR : ∀ z : zS, (∀ x, 240 ≤ x → x ≤ 263 → z x = t x) → z 237 1 = t 237 1 → zRc z F U) (e0 : zG G xm_c45 0 [224, 0, ((K : Nat) : Int), 0] [] t R) : zRL R.2 230 (zPn σ n m F U K) n ∧ ∀ x, x ≠ 238 → x ≠ 239 → ¬ (230 ≤ x ∧ x ≤ 233) → R.2 x = t x := by
  have e0' : zG G xm_c45 0 [224, ((0 : Nat) : Int), ((0 + K : Nat) : Int), 0] [] t R := by
    rw [Nat.zero_add]
    exact e0
  exact zB_45g H hGt (Nat.le_trans (Nat.le_of_eq (Nat.zero_add K)) (Nat.le_trans hK (by decide))) h (zRH_w hH) hL (fun j hj => by rw [Nat.zero_add]; exact hla j hj) (by have := hb; omega) hpl (fun p hp => by rw [hdf]; exact (hH.2.1 p hp).2.2.2.2) hR e0'
end ME
