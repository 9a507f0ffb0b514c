/-! the last bell at which one hears it -/
/-- when the last one hears it in the first k bells; -1: none does -/
def zlh (σ : Int → Int) (n m : Nat) (F : Int) (U : (Int → Int) → Int) : Nat → Int
  | 0 => -1
  | k + 1 => if 0 < zPc (zPn σ n m F U k) n m F U then zPn σ n m F U k 4 else zlh σ n m F U k
/-- the greatest f of the first i that P holds of; -1 without -/
def zmx (P : Nat → Prop) [DecidablePred P] (f : Nat → Int) : Nat → Int
  | 0 => -1
  | i + 1 => if P i then (if zmx P f i < f i then f i else zmx P f i) else zmx P f i
/-- knows it then, and didn't -/
abbrev znw (σ τ : Int → Int) (p : Nat) : Prop := zkn τ p ∧ ¬ zkn σ p
section MI
variable {bB : Int} {σ : Int → Int} {n m : Nat} {F : Int} {U : (Int → Int) → Int} {s t : zS} {x y : Int}
theorem zct_p {P : Nat → Prop} [DecidablePred P] : ∀ n : Nat, 0 < zct P n → ∃ p, p < n ∧ P p
  | 0, h => absurd (show (0 : Int) < 0 from h) (Int.lt_irrefl 0)
  | n + 1, h => by
    by_cases c : P n
    · exact ⟨n, Nat.lt_succ_self n, c⟩
    · have e : zct P (n + 1) = zct P n + (if P n then 1 else 0) := rfl
      rw [e, if_neg c, Int.add_zero] at h
      obtain ⟨p, a, b⟩ := zct_p n h
      exact ⟨p, Nat.lt_succ_of_lt a, b⟩
theorem zct_q {P : Nat → Prop} [DecidablePred P] : ∀ n : Nat, ¬ 0 < zct P n → ∀ p, p < n → ¬ P p
  | 0, _, p, hp => absurd hp (Nat.not_lt_zero p)
  | n + 1, h, p, hp => by
    have e : zct P (n + 1) = zct P n + (if P n then 1 else 0) := rfl
    have r := (zct_r (P := P) n).1
    rw [e] at h
    by_cases c : P n
    · rw [if_pos c] at h
      exfalso
      omega
    · rw [if_neg c, Int.add_zero] at h
      by_cases pe : p = n
      · rw [pe]
        exact c
      · exact zct_q n h p (Nat.lt_of_le_of_ne (Nat.le_of_lt_succ hp) pe)
theorem zPo_8 (h7 : n ≤ 7) {q : Nat} (hq : q < n) : zpe (zPo σ n m F U) ((q : Nat) : Int) 8 = if ¬ zto (zsA σ m n) (zfs (zvD σ m) n) n F U ((q : Nat) : Int) < 0 then σ 4 else zpe σ ((q : Nat) : Int) 8 := by
  rw [zPo_p h7 hq (by decide) (by decide)]
  by_cases w : ¬ zto (zsA σ m n) (zfs (zvD σ m) n) n F U ((q : Nat) : Int) < 0
  · rw [if_pos w, if_pos w, if_pos rfl]
  · rw [if_neg w, if_neg w, if_neg (by decide), if_neg (by decide), if_neg (by decide)]
theorem zsA_8 {q : Nat} (hq : q < n) : zpe (zsA σ m n) ((q : Nat) : Int) 8 = zpe σ ((q : Nat) : Int) 8 := by
  rw [zsA_p hq (by decide) (by decide), if_neg (by decide), if_neg (by decide), if_neg (by decide)]
theorem zhx_new (h7 : n ≤ 7) {q : Nat} (hq : q < n) (h : ¬ zto (zsA σ m n) (zfs (zvD σ m) n) n F U ((q : Nat) : Int) < 0) : ¬ zkn σ q := fun k => h (by
  have e : zto (zsA σ m n) (zfs (zvD σ m) n) n F U ((q : Nat) : Int) = -1 := zto_N hq h7 (Or.inr (Or.inl (by
    unfold zkn
    rw [zsA_8 hq]
    exact k)))
  rw [e]
  decide)
theorem zkn_P0 (h7 : n ≤ 7) {q : Nat} (hq : q < n) (h : zkn σ q) (k : Nat) : zkn (zPn σ n m F U k) q := by
  have := zkn_Pn (σ := σ) (n := n) (m := m) (F := F) (U := U) h7 hq (i := 0) h k
  rw [Nat.zero_add] at this
  unfold zkn
  rw [this]
  exact h
/-- what the last hearing is -/
theorem zlh_i (H : zGs bB σ n m) {K : Nat} (h : bB + ((K : Nat) : Int) ≤ 999) : ∀ k : Nat, k ≤ K → (-1 ≤ zlh σ n m F U k ∧ zlh σ n m F U k < σ 4 + ((k : Nat) : Int)) ∧ (∀ p : Nat, p < n → zkn (zPn σ n m F U k) p → ¬ zkn σ p → zpe (zPn σ n m F U k) ((p : Nat) : Int) 8 ≤ zlh σ n m F U k) ∧ (zlh σ n m F U k = -1 ∨ ∃ p : Nat, p < n ∧ znw σ (zPn σ n m F U k) p ∧ zpe (zPn σ n m F U k) ((p : Nat) : Int) 8 = zlh σ n m F U k)
  | 0, _ => by
    have g0 := H.1.2.2.2.2.2.2.2.1
    refine ⟨⟨Int.le_refl (-1), ?_⟩, fun p _ a b => absurd a b, Or.inl rfl⟩
    show (-1 : Int) < σ 4 + ((0 : Nat) : Int)
    omega
  | k + 1, hk => by
    obtain ⟨⟨a0, a1⟩, a2, a3⟩ := zlh_i H h k (by omega)
    have h7 := H.1.2.1
    have b4 := zPn_4 (F := F) (U := U) H h k (by omega)
    have g0 : 0 ≤ zPn σ n m F U k 4 := (zPn_G (F := F) (U := U) H h k (by omega)).1.2.2.2.2.2.2.2.1
    have e8 : ∀ q : Nat, q < n → zpe (zPn σ n m F U (k + 1)) ((q : Nat) : Int) 8 = if ¬ zto (zsA (zPn σ n m F U k) m n) (zfs (zvD (zPn σ n m F U k) m) n) n F U ((q : Nat) : Int) < 0 then zPn σ n m F U k 4 else zpe (zPn σ n m F U k) ((q : Nat) : Int) 8 := fun q hq => zPo_8 h7 hq
    have eL : zlh σ n m F U (k + 1) = if 0 < zPc (zPn σ n m F U k) n m F U then zPn σ n m F U k 4 else zlh σ n m F U k := rfl
    have z1 : -1 ≤ zPn σ n m F U k 4 := Int.le_trans (by decide) g0
    have z2 : zPn σ n m F U k 4 < σ 4 + ((k + 1 : Nat) : Int) := by
      rw [b4]
      clear a2 a3 e8 eL
      omega
    have z3 : zlh σ n m F U k < σ 4 + ((k + 1 : Nat) : Int) := by
      clear a2 a3 e8 eL
      omega
    have z4 : zlh σ n m F U k ≤ zPn σ n m F U k 4 := by
      rw [b4]
      exact Int.le_of_lt a1
    have old : ∀ p : Nat, p < n → ¬ ¬ zto (zsA (zPn σ n m F U k) m n) (zfs (zvD (zPn σ n m F U k) m) n) n F U ((p : Nat) : Int) < 0 → zkn (zPn σ n m F U (k + 1)) p → ¬ zkn σ p → zpe (zPn σ n m F U (k + 1)) ((p : Nat) : Int) 8 ≤ zlh σ n m F U k := fun p hp w x y => by
      have e := (e8 p hp).trans (if_neg w)
      rw [e]
      refine a2 p hp (fun q2 => ?_) y
      exact x (by rw [e]; exact q2)
    by_cases c : 0 < zPc (zPn σ n m F U k) n m F U
    · rw [eL, if_pos c]
      refine ⟨⟨z1, z2⟩, fun p hp x y => ?_, Or.inr ?_⟩
      · by_cases w : ¬ zto (zsA (zPn σ n m F U k) m n) (zfs (zvD (zPn σ n m F U k) m) n) n F U ((p : Nat) : Int) < 0
        · rw [e8 p hp, if_pos w]
          exact Int.le_refl _
        · exact Int.le_trans (old p hp w x y) z4
      · obtain ⟨q, hq, w⟩ := zct_p n c
        have w : ¬ zto (zsA (zPn σ n m F U k) m n) (zfs (zvD (zPn σ n m F U k) m) n) n F U ((q : Nat) : Int) < 0 := w
        have e := (e8 q hq).trans (if_pos w)
        refine ⟨q, hq, ⟨fun z => ?_, fun z => ?_⟩, e⟩
        · rw [e] at z
          exact absurd z (Int.not_lt.mpr g0)
        · exact zhx_new h7 hq w (zkn_P0 h7 hq z k)
    · rw [eL, if_neg c]
      have no : ∀ p : Nat, p < n → ¬ ¬ zto (zsA (zPn σ n m F U k) m n) (zfs (zvD (zPn σ n m F U k) m) n) n F U ((p : Nat) : Int) < 0 := fun p hp w => zct_q n c p hp w
      refine ⟨⟨a0, z3⟩, fun p hp x y => old p hp (no p hp) x y, a3.imp_right (fun ⟨p, hp, w, v⟩ => ?_)⟩
      have e := (e8 p hp).trans (if_neg (no p hp))
      refine ⟨p, hp, ⟨fun z => ?_, w.2⟩, e.trans v⟩
      rw [e] at z
      exact w.1 z
theorem zmx_u {P : Nat → Prop} [DecidablePred P] {f : Nat → Int} {v : Int} (h0 : -1 ≤ v) : ∀ i : Nat, (∀ p, p < i → P p → f p ≤ v) → zmx P f i ≤ v ∧ -1 ≤ zmx P f i ∧ ∀ p, p < i → P p → f p ≤ zmx P f i
  | 0, _ => ⟨h0, Int.le_refl (-1), fun p hp => absurd hp (Nat.not_lt_zero p)⟩
  | i + 1, h => by
    obtain ⟨a, b, c⟩ := zmx_u h0 i (fun p hp => h p (Nat.lt_succ_of_lt hp))
    have e : zmx P f (i + 1) = if P i then (if zmx P f i < f i then f i else zmx P f i) else zmx P f i := rfl
    rw [e]
    by_cases w : P i
    · rw [if_pos w]
      have hv := h i (Nat.lt_succ_self i) w
      by_cases d : zmx P f i < f i
      · rw [if_pos d]
        refine ⟨hv, Int.le_trans b (Int.le_of_lt d), fun p hp q => ?_⟩
        by_cases pe : p = i
        · rw [pe]
          exact Int.le_refl _
        · exact Int.le_trans (c p (Nat.lt_of_le_of_ne (Nat.le_of_lt_succ hp) pe) q) (Int.le_of_lt d)
      · rw [if_neg d]
        refine ⟨a, b, fun p hp q => ?_⟩
        by_cases pe : p = i
        · rw [pe]
          exact Int.not_lt.mp d
        · exact c p (Nat.lt_of_le_of_ne (Nat.le_of_lt_succ hp) pe) q
    · rw [if_neg w]
      refine ⟨a, b, fun p hp q => ?_⟩
      by_cases pe : p = i
      · rw [pe] at q
        exact absurd q w
      · exact c p (Nat.lt_of_le_of_ne (Nat.le_of_lt_succ hp) pe) q
/-- the class's last hearing is the reference's -/
theorem zlh_mx (H : zGs bB σ n m) {K : Nat} (h : bB + ((K : Nat) : Int) ≤ 999) : zmx (znw σ (zPn σ n m F U K)) (fun p => zpe (zPn σ n m F U K) ((p : Nat) : Int) 8) n = zlh σ n m F U K := by
  obtain ⟨⟨a0, a1⟩, a2, a3⟩ := zlh_i (F := F) (U := U) H h K (Nat.le_refl K)
  obtain ⟨b, c, d⟩ := zmx_u (P := znw σ (zPn σ n m F U K)) (f := fun p => zpe (zPn σ n m F U K) ((p : Nat) : Int) 8) a0 n (fun p hp q => a2 p hp q.1 q.2)
  refine Int.le_antisymm b ?_
  rcases a3 with w | ⟨p, hp, q, w⟩
  · rw [w]
    exact c
  · rw [← w]
    exact d p hp q
/-- the reference's -/
theorem zB_229 {G : Nat} {R : Int × zS} {z : zS} (H : zGs bB σ n m) (h : bB + 100 ≤ 999) (hU : ¬ F < 0 → zRu z F U) (e0 : zG G xm_c229 0 [344, 0, 0] [] t R) (a : t 354 = σ) (b : t 344 21 = F) (c : ∀ x, 346 ≤ x → x ≤ 349 → t x = z x) : R.1 = zlh σ n m F U 100 := by
  have h7 := H.1.2.1
  have h100 : bB + ((100 : Nat) : Int) ≤ 999 := h
  have loop : ∀ (G : Nat) (k : Nat) (t : zS) (R : Int × zS), k ≤ 100 → zG G xm_c229 4 [344, zlh σ n m F U k, ((k : Nat) : Int)] [] t R → t 354 = zPn σ n m F U k → t 344 21 = F → (∀ x, 346 ≤ x → x ≤ 349 → t x = z x) → R.1 = zlh σ n m F U 100 := by
    intro G
    induction G using Nat.strongRecOn with
    | _ G ih =>
      intro k t R hk e0 a b c
      obtain ⟨F1, l1, ⟨c1, e1⟩ | ⟨c1, e1⟩⟩ := zi_229_4 e0
      · have kK : k < 100 := by
          clear ih a b c hU
          omega
        obtain ⟨F2, l2, r2, s2, q2, e2⟩ := zi_229_7 e1
        have g := zPn_G (F := F) (U := U) H h100 k hk
        obtain ⟨s', w1, w2, w3⟩ := zr_passes (s := t) (σ := zPn σ n m F U k) (n := n) (m := m) (F := F) (U := U) a g.1.1 h7 g.1.2.2.1 g.1.2.2.2.1 b (fun q => by
          have := hU q
          intro u ws x1 x2
          exact this u ws (fun x y1 y2 => (x1 x y1 y2).trans (c x y1 y2)) x2)
        obtain ⟨rfl, rfl⟩ := zdet q2 w1
        have g4 := g.1.2.2.2.2.2.2.2
        have en : zw (((k : Nat) : Int) + 1) = ((k + 1 : Nat) : Int) := by
          clear ih a b c hU w3 w2 g
          exact zw_id (by omega) (by omega)
        have eL : zlh σ n m F U (k + 1) = if 0 < zPc (zPn σ n m F U k) n m F U then zPn σ n m F U k 4 else zlh σ n m F U k := rfl
        have b2 : s' 344 21 = F := by rw [w3.2 21 (by decide) (by decide), b]
        have c2 : ∀ x, 346 ≤ x → x ≤ 349 → s' x = z x := fun x x1 x2 => by
          rw [w3.1 x (by omega) (by omega) (by omega) (by omega) (by omega)]
          exact c x x1 x2
        obtain ⟨F3, l3, ⟨c3, e3⟩ | ⟨c3, e3⟩⟩ := zi_229_9 e2
        · obtain ⟨F4, l4, e4⟩ := zi_229_10 e3
          have ev : zw (s' (344 + 10) 4 - 1) = zPn σ n m F U k 4 := by
            show zw (s' 354 4 - 1) = _
            rw [w2]
            show zw ((if (4 : Int) = 4 then zw (zPn σ n m F U k 4 + 1) else _) - 1) = _
            rw [if_pos rfl]
            clear ih a b c hU w3 w2 g eL b2 c2
            rw [zw_id (x := zPn σ n m F U k 4 + 1) (by omega) (by omega), zw_id (by omega) (by omega)]
            omega
          have eS : zlh σ n m F U (k + 1) = zPn σ n m F U k 4 := eL.trans (if_pos c3)
          rw [en, ev, ← eS] at e4
          exact ih F4 (Nat.lt_trans l4 (Nat.lt_trans l3 (Nat.lt_trans l2 l1))) (k + 1) s' R kK e4 w2 b2 c2
        · obtain ⟨F4, l4, e4⟩ := zi_229_17 e3
          have eS : zlh σ n m F U (k + 1) = zlh σ n m F U k := eL.trans (if_neg c3)
          rw [en, ← eS] at e4
          exact ih F4 (Nat.lt_trans l4 (Nat.lt_trans l3 (Nat.lt_trans l2 l1))) (k + 1) s' R kK e4 w2 b2 c2
      · have kK : k = 100 := by
          clear ih a b c hU
          omega
        obtain ⟨F2, l2, r2, s2, q2, e2⟩ := zi_229_19 e1
        rw [zi_229_21 e2, kK]
  obtain ⟨F5, l5, e5⟩ := zi_229_0 e0
  exact loop F5 0 t R (Nat.zero_le 100) e5 a b c
/-- the class's -/
theorem zB_55 {G : Nat} {R : Int × zS} (H : zGs bB σ n m) (hGt : zGt σ) (h : bB + 100 ≤ 999) (hH : zRH t 11 σ n m) (hF : zRF t 225 σ n) (hL : zRL t 230 σ n) (hpl : t 237 2 = σ 8) (hdf : t 237 3 = t 11 4) (hk : t 24 0 = zfs (zkn σ) n) (hR : ∀ z : zS, (∀ x, 240 ≤ x → x ≤ 263 → z x = t x) → z 237 1 = t 237 1 → zRc z F U) (e0 : zG G xm_c55 0 [224, 0, 0] [] t R) : R.1 = zlh σ n m F U 100 := by
  have h7 := H.1.2.1
  have gn := H.1.1
  have h100 : bB + ((100 : Nat) : Int) ≤ 999 := h
  obtain ⟨F1, l1, r1, t1, q1, e1⟩ := zi_55_0 e0
  obtain ⟨v1, v2, v3, v4⟩ := zB_44 (K := 100) F U H (Nat.le_refl 100) h100 hH hF q1
  have v1 : ∀ j : Nat, j < 100 → t1 234 ((j : Nat) : Int) = zlan (zPn σ n m F U j) m n := v1
  have o : ∀ x, x ≠ 224 → x ≠ 234 → ¬ (225 ≤ x ∧ x ≤ 228) → t1 x = t x := v4
  obtain ⟨F2, l2, r2, t2, q2, e2⟩ := zi_55_3 e1
  obtain ⟨w1, w2⟩ := zB_45 (K := 100) H hGt (Nat.le_refl 100) h100 (zRH_c hH (fun x x1 x2 => o x (by omega) (by omega) (by omega))) (zRL_c hL (fun x x1 x2 => o x (by omega) (by omega) (by omega))) v1 v2 (by rw [o 237 (by decide) (by decide) (by decide)]; exact hpl) (by rw [o 237 (by decide) (by decide) (by decide), o 11 (by decide) (by decide) (by decide)]; exact hdf) (fun z hz hz1 => hR z (fun x x1 x2 => by rw [hz x x1 x2]; exact o x (by omega) (by omega) (by omega)) (by rw [hz1, o 237 (by decide) (by decide) (by decide)])) q2
  have w1 : zRL t2 230 (zPn σ n m F U 100) n := w1
  have w2 : ∀ x, x ≠ 238 → x ≠ 239 → ¬ (230 ≤ x ∧ x ≤ 233) → t2 x = t1 x := w2
  have h11 : t2 11 1 = ((n : Nat) : Int) := by
    rw [w2 11 (by decide) (by decide) (by decide), o 11 (by decide) (by decide) (by decide), hH.1.2.1, gn]
  have h24 : t2 24 0 = zfs (zkn σ) n := by
    rw [w2 24 (by decide) (by decide) (by decide), o 24 (by decide) (by decide) (by decide), hk]
  obtain ⟨F3, l3, e3⟩ := zi_55_7 e2
  have loop : ∀ (G i : Nat) (R : Int × zS), i ≤ n → zG G xm_c55 11 [224, zmx (znw σ (zPn σ n m F U 100)) (fun p => zpe (zPn σ n m F U 100) ((p : Nat) : Int) 8) i, ((i : Nat) : Int)] [] t2 R → R.1 = zmx (znw σ (zPn σ n m F U 100)) (fun p => zpe (zPn σ n m F U 100) ((p : Nat) : Int) 8) n := by
    intro G
    induction G using Nat.strongRecOn with
    | _ G ih =>
      intro i R hi e0
      obtain ⟨F1, l1, ⟨c1, e1⟩ | ⟨c1, e1⟩⟩ := zi_55_11 e0
      · have c1 : ((i : Nat) : Int) < t2 11 1 := c1
        have iL : i < n := by
          rw [h11] at c1
          exact Int.ofNat_lt.mp c1
        have i16 : i < 16 := by
          clear ih c1
          omega
        have en : zw (((i : Nat) : Int) + 1) = ((i + 1 : Nat) : Int) := by
          clear ih c1
          exact zw_id (by omega) (by omega)
        obtain ⟨F2, l2, r2, s2, q2, e2⟩ := zi_55_17 e1
        obtain ⟨rfl, rfl⟩ := zdet q2 zo_bit
        have ea : zbt (t2 230 0) ((i : Nat) : Int) = if zkn (zPn σ n m F U 100) i then 1 else 0 := by
          rw [w1.1, zbt_fo i16 n (by omega)]
          by_cases c : zkn (zPn σ n m F U 100) i
          · rw [if_pos ⟨iL, c⟩, if_pos c]
          · rw [if_neg (fun q => c q.2), if_neg c]
        have eb : zbt (zxor (t2 24 0) (-1)) ((i : Nat) : Int) = if zkn σ i then 0 else 1 := by
          have e1 : zbt (t2 24 0) ((i : Nat) : Int) = 1 ↔ zkn σ i := by
            rw [h24]
            exact zbt_fo1 iL (by omega)
          by_cases c : zkn σ i
          · rw [if_pos c]
            exact zbt_n (fun q => (zbt_not i16).mp q (e1.mpr c))
          · rw [if_neg c]
            exact (zbt_not i16).mpr (fun q => c (e1.mp q))
        have ex : zbt (zand (t2 (224 + 6) 0) (zxor (t2 (224 + (-214) + 14) 0) (-1))) ((i : Nat) : Int) = zand (if zkn (zPn σ n m F U 100) i then 1 else 0) (if zkn σ i then 0 else 1) := by
          show zbt (zand (t2 230 0) (zxor (t2 24 0) (-1))) ((i : Nat) : Int) = _
          rw [zbt_and, ea, eb]
        rw [ex] at e2
        have eS : zmx (znw σ (zPn σ n m F U 100)) (fun p => zpe (zPn σ n m F U 100) ((p : Nat) : Int) 8) (i + 1) = if znw σ (zPn σ n m F U 100) i then (if zmx (znw σ (zPn σ n m F U 100)) (fun p => zpe (zPn σ n m F U 100) ((p : Nat) : Int) 8) i < zpe (zPn σ n m F U 100) ((i : Nat) : Int) 8 then zpe (zPn σ n m F U 100) ((i : Nat) : Int) 8 else zmx (znw σ (zPn σ n m F U 100)) (fun p => zpe (zPn σ n m F U 100) ((p : Nat) : Int) 8) i) else zmx (znw σ (zPn σ n m F U 100)) (fun p => zpe (zPn σ n m F U 100) ((p : Nat) : Int) 8) i := rfl
        have e231 : t2 (224 + 6 + 1) ((i : Nat) : Int) = zpe (zPn σ n m F U 100) ((i : Nat) : Int) 8 := (w1.2 i iL).1
        obtain ⟨F3, l3, ⟨c3, e3⟩ | ⟨c3, e3⟩⟩ := zi_55_29 e2
        · have w : znw σ (zPn σ n m F U 100) i := by
            by_cases a : zkn (zPn σ n m F U 100) i
            · by_cases b : zkn σ i
              · rw [if_pos a, if_pos b] at c3
                exact absurd c3 (by decide)
              · exact ⟨a, b⟩
            · rw [if_neg a] at c3
              by_cases b : zkn σ i
              · rw [if_pos b] at c3
                exact absurd c3 (by decide)
              · rw [if_neg b] at c3
                exact absurd c3 (by decide)
          obtain ⟨F4, l4, e4⟩ := zi_55_31 e3
          rw [en, e231] at e4
          refine ih F4 (Nat.lt_trans l4 (Nat.lt_trans l3 (Nat.lt_trans l2 l1))) (i + 1) R iL ?_
          rw [eS, if_pos w]
          exact e4
        · have w : ¬ znw σ (zPn σ n m F U 100) i := fun w => c3 (by
            rw [if_pos w.1, if_neg w.2]
            decide)
          obtain ⟨F4, l4, e4⟩ := zi_55_39 e3
          rw [en] at e4
          refine ih F4 (Nat.lt_trans l4 (Nat.lt_trans l3 (Nat.lt_trans l2 l1))) (i + 1) R iL ?_
          rw [eS, if_neg w]
          exact e4
      · have c1 : ¬ ((i : Nat) : Int) < t2 11 1 := c1
        have iL : i = n := by
          rw [h11] at c1
          exact Nat.le_antisymm hi (Nat.not_lt.mp (fun q => c1 (Int.ofNat_lt.mpr q)))
        rw [zi_55_41 e1, iL]
  exact (loop F3 0 R (Nat.zero_le n) e3).trans (zlh_mx H h100)
end MI
