/-! a bell in the reference: the tellings; the whole bell -/
def zclm (x : Int) : Int := if x < -999 then -999 else if 999 < x then 999 else x
/-- what a person has heard, anew -/
def zuq (τ : Int → Int) (p a b c : Int) : Int → Int := fun k => if k = 10 + 11 * p + 8 then a else if k = 10 + 11 * p + 9 then b else if k = 10 + 11 * p + 10 then c else τ k
/-- what is told when the first i persons have heard what T tells -/
def zsC (τ T : Int → Int) (i : Nat) (k : Int) : Int := if (10 ≤ k ∧ k < 10 + 11 * ((i : Nat) : Int)) ∧ ¬ T ((k - 10) / 11) < 0 then (if (k - 10) % 11 = 8 then τ 4 else if (k - 10) % 11 = 9 then zclm (zw (zpe τ (T ((k - 10) / 11)) 9 + zpe τ (T ((k - 10) / 11)) 7)) else if (k - 10) % 11 = 10 then T ((k - 10) / 11) else τ k) else τ k
theorem zsC_0 {τ T : Int → Int} : zsC τ T 0 = τ := by
  funext k
  unfold zsC
  rw [if_neg (by omega)]
theorem zsC_lo {τ T : Int → Int} {i : Nat} {k : Int} (h : k < 10) : zsC τ T i k = τ k := by
  unfold zsC
  rw [if_neg (by omega)]
theorem zsC_hi {τ T : Int → Int} {i : Nat} {k : Int} (h : 10 + 11 * ((i : Nat) : Int) ≤ k) : zsC τ T i k = τ k := by
  unfold zsC
  rw [if_neg (by omega)]
theorem zsC_p {τ T : Int → Int} {i q : Nat} {j : Int} (h : q < i) (j0 : 0 ≤ j) (j1 : j ≤ 10) : zpe (zsC τ T i) ((q : Nat) : Int) j = if ¬ T ((q : Nat) : Int) < 0 then (if j = 8 then τ 4 else if j = 9 then zclm (zw (zpe τ (T ((q : Nat) : Int)) 9 + zpe τ (T ((q : Nat) : Int)) 7)) else if j = 10 then T ((q : Nat) : Int) else zpe τ ((q : Nat) : Int) j) else zpe τ ((q : Nat) : Int) j := by
  have e1 : (10 + 11 * ((q : Nat) : Int) + j - 10) % 11 = j := by omega
  have e2 : (10 + 11 * ((q : Nat) : Int) + j - 10) / 11 = ((q : Nat) : Int) := by omega
  have e3 : 10 ≤ 10 + 11 * ((q : Nat) : Int) + j ∧ 10 + 11 * ((q : Nat) : Int) + j < 10 + 11 * ((i : Nat) : Int) := by omega
  show zsC τ T i (10 + 11 * ((q : Nat) : Int) + j) = _
  unfold zsC
  rw [e1, e2]
  by_cases c : T ((q : Nat) : Int) < 0
  · rw [if_neg (fun z => z.2 c), if_neg (fun z => z c)]
    rfl
  · rw [if_pos ⟨e3, c⟩, if_pos c]
    rfl
theorem zsC_s {τ T : Int → Int} {i : Nat} : zsC τ T (i + 1) = if T ((i : Nat) : Int) < 0 then zsC τ T i else zuq (zsC τ T i) ((i : Nat) : Int) (τ 4) (zclm (zw (zpe τ (T ((i : Nat) : Int)) 9 + zpe τ (T ((i : Nat) : Int)) 7))) (T ((i : Nat) : Int)) := by
  have far : ∀ k : Int, ¬ (10 + 11 * ((i : Nat) : Int) ≤ k ∧ k < 10 + 11 * ((i : Nat) : Int) + 11) → zsC τ T (i + 1) k = zsC τ T i k := fun k h => by
    unfold zsC
    by_cases c : 10 ≤ k ∧ k < 10 + 11 * ((i : Nat) : Int)
    · have c2 : 10 ≤ k ∧ k < 10 + 11 * ((i + 1 : Nat) : Int) := by omega
      by_cases d : T ((k - 10) / 11) < 0
      · rw [if_neg (fun z => z.2 d), if_neg (fun z => z.2 d)]
      · rw [if_pos (show (10 ≤ k ∧ k < 10 + 11 * ((i + 1 : Nat) : Int)) ∧ ¬ T ((k - 10) / 11) < 0 from ⟨c2, d⟩), if_pos (show (10 ≤ k ∧ k < 10 + 11 * ((i : Nat) : Int)) ∧ ¬ T ((k - 10) / 11) < 0 from ⟨c, d⟩)]
    · have c2 : ¬ (10 ≤ k ∧ k < 10 + 11 * ((i + 1 : Nat) : Int)) := by omega
      rw [if_neg (fun z => c2 z.1), if_neg (fun z => c z.1)]
  have near : ∀ k : Int, (10 + 11 * ((i : Nat) : Int) ≤ k ∧ k < 10 + 11 * ((i : Nat) : Int) + 11) → zsC τ T (i + 1) k = if ¬ T ((i : Nat) : Int) < 0 then (if k = 10 + 11 * ((i : Nat) : Int) + 8 then τ 4 else if k = 10 + 11 * ((i : Nat) : Int) + 9 then zclm (zw (zpe τ (T ((i : Nat) : Int)) 9 + zpe τ (T ((i : Nat) : Int)) 7)) else if k = 10 + 11 * ((i : Nat) : Int) + 10 then T ((i : Nat) : Int) else τ k) else τ k := fun k h => by
    obtain ⟨j, hj⟩ : ∃ j : Int, j = k - (10 + 11 * ((i : Nat) : Int)) := ⟨_, rfl⟩
    have hk : k = 10 + 11 * ((i : Nat) : Int) + j := by omega
    have q := zsC_p (τ := τ) (T := T) (i := i + 1) (q := i) (j := j) (Nat.lt_succ_self i) (by omega) (by omega)
    unfold zpe at q
    rw [← hk] at q
    rw [q]
    have e8 : (j = 8) = (k = 10 + 11 * ((i : Nat) : Int) + 8) := propext ⟨fun z => by omega, fun z => by omega⟩
    have e9 : (j = 9) = (k = 10 + 11 * ((i : Nat) : Int) + 9) := propext ⟨fun z => by omega, fun z => by omega⟩
    have e10 : (j = 10) = (k = 10 + 11 * ((i : Nat) : Int) + 10) := propext ⟨fun z => by omega, fun z => by omega⟩
    simp only [e8, e9, e10]
    rfl
  by_cases c : T ((i : Nat) : Int) < 0
  · rw [if_pos c]
    funext k
    by_cases h : 10 + 11 * ((i : Nat) : Int) ≤ k ∧ k < 10 + 11 * ((i : Nat) : Int) + 11
    · rw [near k h, if_neg (fun z => z c), zsC_hi h.1]
    · exact far k h
  · rw [if_neg c]
    funext k
    unfold zuq
    by_cases h : 10 + 11 * ((i : Nat) : Int) ≤ k ∧ k < 10 + 11 * ((i : Nat) : Int) + 11
    · rw [near k h, if_pos c, zsC_hi h.1]
    · rw [far k h, if_neg (fun z => h (by omega)), if_neg (fun z => h (by omega)), if_neg (fun z => h (by omega))]
section FB
variable {s t : zS} {σ τ : Int → Int} {L F p f x3 : Int} {n m i : Nat} {U : (Int → Int) → Int}
theorem zr_hears (hs : t 354 = τ) (p0 : 0 ≤ p) (p6 : p ≤ 6) (f0 : 0 ≤ f) (f6 : f ≤ 6) : ∃ t', zE xm_c197 [344, p, f, 0, 0] t 0 t' ∧ t' 354 = zuq τ p (τ 4) (zclm (zw (zpe τ f 9 + zpe τ f 7))) f ∧ ∀ x, x ≠ 354 → t' x = t x := by
  have e0 : zw (10 + zw (11 * p)) = 10 + 11 * p := by
    rw [zw_id (x := 11 * p) (by omega) (by omega), zw_id (by omega) (by omega)]
  have e8 : zw (10 + 11 * p + 8) = 10 + 11 * p + 8 := zw_id (by omega) (by omega)
  have e9 : zw (10 + 11 * p + 9) = 10 + 11 * p + 9 := zw_id (by omega) (by omega)
  have e10 : zw (10 + 11 * p + 10) = 10 + 11 * p + 10 := zw_id (by omega) (by omega)
  have h4 : t 354 4 = τ 4 := by rw [hs]
  have l1 : ∀ R, zA xm_c197 14 [344, p, f, 10 + 11 * p, 0] [(false, zpe τ f 7), (false, zpe τ f 9)] t R → zA xm_c197 0 [344, p, f, 0, 0] [] t R := fun R z => zb_197_0 (zr_per hs f0 f6 (by decide) (by decide)) (zb_197_10 (zr_per hs f0 f6 (by decide) (by decide)) (by rw [e0]; exact z))
  refine ⟨zu (zu (zu t 354 (10 + 11 * p + 8) (τ 4)) 354 (10 + 11 * p + 9) (zclm (zw (zpe τ f 9 + zpe τ f 7)))) 354 (10 + 11 * p + 10) f, l1 _ ?_, ?_, fun x hx => funext (fun y => by rw [zu_cell hx, zu_cell hx, zu_cell hx])⟩
  · have key : ∀ (c : Int), (0, zu (zu (zu t (344 + 10) (zw (10 + 11 * p + 8)) (t (344 + 10) 4)) (344 + 10) (zw (10 + 11 * p + 9)) c) (344 + 10) (zw (10 + 11 * p + 10)) f) = ((0 : Int), zu (zu (zu t 354 (10 + 11 * p + 8) (τ 4)) 354 (10 + 11 * p + 9) c) 354 (10 + 11 * p + 10) f) := fun c => by
      rw [e8, e9, e10]
      show (0, zu (zu (zu t 354 (10 + 11 * p + 8) (t 354 4)) 354 (10 + 11 * p + 9) c) 354 (10 + 11 * p + 10) f) = _
      rw [h4]
    unfold zclm
    by_cases c1 : zw (zpe τ f 9 + zpe τ f 7) < -999
    · rw [if_pos c1]
      exact zb_197_14 (fun _ => zb_197_34 (key _)) (fun q => absurd c1 q)
    · rw [if_neg c1]
      by_cases c2 : 999 < zw (zpe τ f 9 + zpe τ f 7)
      · rw [if_pos c2]
        exact zb_197_14 (fun q => absurd q c1) (fun _ => zb_197_36 (fun _ => zb_197_39 (key _)) (fun q => absurd c2 q))
      · rw [if_neg c2]
        exact zb_197_14 (fun q => absurd q c1) (fun _ => zb_197_36 (fun q => absurd q c2) (fun _ => zb_197_41 (key _)))
  · funext k
    unfold zuq
    rw [zu2, zu2, zu2, hs]
    by_cases k8 : k = 10 + 11 * p + 8
    · simp only [if_neg (show ¬ k = 10 + 11 * p + 10 by omega), if_neg (show ¬ k = 10 + 11 * p + 9 by omega), if_pos k8]
    · by_cases k9 : k = 10 + 11 * p + 9
      · simp only [if_neg (show ¬ k = 10 + 11 * p + 10 by omega), if_neg k8, if_pos k9]
      · by_cases k10 : k = 10 + 11 * p + 10
        · simp only [if_neg k8, if_neg k9, if_pos k10]
        · simp only [if_neg k8, if_neg k9, if_neg k10]
/-- what the tellings of a bell leave as it was -/
def zBk (s s' : zS) : Prop := (∀ x, x ≠ 352 → x ≠ 353 → x ≠ 344 → x ≠ 355 → s' x = s x) ∧ ∀ y, y ≠ 18 → s' 344 y = s 344 y
theorem zQs_b {s s1 : zS} {σ : Int → Int} {L : Int} {n : Nat} {F : Int} {U : (Int → Int) → Int} (h : zQs s σ L n F U) (k : zBk s s1) : zQs s1 σ L n F U := by
  obtain ⟨h1, h2, h3, h4, h5, h6⟩ := h
  refine ⟨by rw [k.1 354 (by decide) (by decide) (by decide) (by decide), h1], by rw [k.2 23 (by decide), h2], h3, h4, by rw [k.2 21 (by decide), h5], fun hF t ws a b => h6 hF t ws (fun x x1 x2 => ?_) b⟩
  rw [a x x1 x2, k.1 x (by omega) (by omega) (by omega) (by omega)]
theorem zr_B (hq : zQs s σ L n F U) : ∃ t', (∀ R, zA xm_c196 76 [344, 0, 0, x3] [] t' R → zA xm_c196 59 [344, 0, 0, x3] [] s R) ∧ (∀ q : Nat, q < n → t' 355 ((q : Nat) : Int) = zto σ L n F U ((q : Nat) : Int)) ∧ zBk s t' := by
  have hn := hq.2.2.1
  have h7 := hq.2.2.2.1
  have loop : ∀ (k i : Nat) (t : zS), i + k = n → (∀ q : Nat, q < i → t 355 ((q : Nat) : Int) = zto σ L n F U ((q : Nat) : Int)) → zBk s t → ∃ t', (∀ R, zA xm_c196 76 [344, 0, 0, x3] [] t' R → zA xm_c196 59 [344, 0, ((i : Nat) : Int), x3] [] t R) ∧ (∀ q : Nat, q < n → t' 355 ((q : Nat) : Int) = zto σ L n F U ((q : Nat) : Int)) ∧ zBk s t' := by
    intro k
    induction k with
    | zero =>
      intro i t hi h1 h2
      have e : i = n := by omega
      subst e
      refine ⟨t, fun R z => zb_196_59 (fun q => ?_) (fun _ => zb_196_74 z), h1, h2⟩
      have q : ((i : Nat) : Int) < t 354 1 := q
      rw [(zQs_b hq h2).1, hn] at q
      exact absurd q (Int.lt_irrefl _)
    | succ k ih =>
      intro i t hi h1 h2
      have hq1 := zQs_b hq h2
      have i0 : 0 ≤ ((i : Nat) : Int) := Int.natCast_nonneg i
      have i6 : ((i : Nat) : Int) ≤ 6 := by clear ih h1 h2 hq1 hq; omega
      have e2 : zw (((i : Nat) : Int) + 1) = ((i + 1 : Nat) : Int) := zw_id (by clear ih h1 h2 hq1 hq; omega) (by clear ih h1 h2 hq1 hq; omega)
      have lt : ((i : Nat) : Int) < t (344 + 10) 1 := by
        show _ < t 354 1
        rw [hq1.1, hn]
        clear ih h1 h2 hq1 hq
        omega
      obtain ⟨t1, u1, u2⟩ := zr_teller (b := ((i : Nat) : Int)) hq1 i0 i6
      have hb : zBk s (zu t1 355 ((i : Nat) : Int) (zto σ L n F U ((i : Nat) : Int))) := ⟨fun x a b c d => by
        rw [← h2.1 x a b c d, ← u2.1 x a b c]
        exact funext (fun y => zu_cell d), fun y a => by rw [zu_cell (by decide), u2.2 y a, h2.2 y a]⟩
      obtain ⟨t2, v1, v2, v3⟩ := ih (i + 1) (zu t1 355 ((i : Nat) : Int) (zto σ L n F U ((i : Nat) : Int))) (by omega) (fun q hqi => by
        by_cases e : q = i
        · subst e
          exact zu_hit
        · rw [zu_place (by clear ih h1 h2 hq1 hq; omega), u2.1 355 (by decide) (by decide) (by decide)]
          exact h1 q (by omega)) hb
      exact ⟨t2, fun R z => zb_196_59 (fun _ => zb_196_65 u1 (zb_196_71 (by rw [e2]; exact v1 R z))) (fun q => absurd lt q), v2, v3⟩
  exact loop n 0 s (by omega) (fun q h => absurd h (Nat.not_lt_zero q)) ⟨fun _ _ _ _ _ => rfl, fun _ _ => rfl⟩
theorem zto_r (h7 : n ≤ 7) {b : Int} : zto σ L n F U b = -1 ∨ ∃ a : Nat, a < n ∧ zkn σ a ∧ zto σ L n F U b = ((a : Nat) : Int) := by
  unfold zto
  by_cases c : ¬ zpe σ b 8 < 0 ∨ zpe σ b 6 = 1 ∨ ¬ zbt L b = 1
  · rw [if_pos c]
    exact Or.inl rfl
  · rw [if_neg c]
    by_cases d : zfi (fun a => zte σ L n F U ((a : Nat) : Int) b) n 0 = -1
    · rw [if_pos d]
      unfold zbk
      by_cases e1 : σ 6 < 0
      · rw [if_pos e1]
        exact Or.inl rfl
      · rw [if_neg e1]
        by_cases e2 : zpe σ b 0 = σ 7
        · rw [if_pos e2]
          rcases zfi_r (P := zcl σ L) n 0 with q | ⟨j, a, b, c, d⟩
          · exact Or.inl q
          · exact Or.inr ⟨j, by omega, c.1, d⟩
        · rw [if_neg e2]
          exact Or.inl rfl
    · rw [if_neg d]
      rcases zfi_r (P := fun a => zte σ L n F U ((a : Nat) : Int) b) n 0 with q | ⟨j, a, b, c, d⟩
      · exact absurd q d
      · exact Or.inr ⟨j, by omega, c.2.1, d⟩
theorem zto_k {a : Nat} (h : zkn σ a) : zto σ L n F U ((a : Nat) : Int) = -1 := if_pos (Or.inl h)
/-- the count of those who hear it -/
abbrev zhx (T : Int → Int) (p : Nat) : Prop := ¬ T ((p : Nat) : Int) < 0
theorem zr_C {T : Int → Int} (hs : s 354 = τ) (hn : τ 1 = ((n : Nat) : Int)) (h7 : n ≤ 7) (hT : ∀ q : Nat, q < n → s 355 ((q : Nat) : Int) = T ((q : Nat) : Int)) (hTr : ∀ q : Nat, q < n → T ((q : Nat) : Int) = -1 ∨ ∃ a : Nat, a < n ∧ T ((a : Nat) : Int) = -1 ∧ T ((q : Nat) : Int) = ((a : Nat) : Int)) : ∃ t', zA xm_c196 76 [344, 0, 0, x3] [] s (zct (zhx T) n, t') ∧ t' 354 = (fun k => if k = 4 then zw (τ 4 + 1) else zsC τ T n k) ∧ ∀ x, x ≠ 354 → t' x = s x := by
  have loop : ∀ (k i : Nat) (t : zS), i + k = n → t 354 = zsC τ T i → (∀ x, x ≠ 354 → t x = s x) → ∃ t', zA xm_c196 76 [344, zct (zhx T) i, ((i : Nat) : Int), x3] [] t (zct (zhx T) n, t') ∧ t' 354 = (fun k => if k = 4 then zw (τ 4 + 1) else zsC τ T n k) ∧ ∀ x, x ≠ 354 → t' x = s x := by
    intro k
    induction k with
    | zero =>
      intro i t hi h1 h2
      have e : i = n := by omega
      subst e
      have h4 : t 354 4 = τ 4 := by rw [h1, zsC_lo (by decide)]
      refine ⟨zu t 354 4 (zw (τ 4 + 1)), zb_196_76 (fun q => ?_) (fun _ => zb_196_98 ?_), ?_, fun x hx => ?_⟩
      · have q : ((i : Nat) : Int) < t 354 1 := q
        rw [h1, zsC_lo (by decide), hn] at q
        exact absurd q (Int.lt_irrefl _)
      · show (zct (zhx T) i, zu t 354 4 (zw (t 354 4 + 1))) = _
        rw [h4]
      · funext k
        rw [zu2, h1]
      · rw [← h2 x hx]
        exact funext (fun y => zu_cell hx)
    | succ k ih =>
      intro i t hi h1 h2
      have hin : i < n := by omega
      have i0 : 0 ≤ ((i : Nat) : Int) := Int.natCast_nonneg i
      have i6 : ((i : Nat) : Int) ≤ 6 := by clear ih h1 h2 hT hTr; omega
      have e2 : zw (((i : Nat) : Int) + 1) = ((i + 1 : Nat) : Int) := zw_id (by clear ih h1 h2 hT hTr; omega) (by clear ih h1 h2 hT hTr; omega)
      have lt : ((i : Nat) : Int) < t (344 + 10) 1 := by
        show _ < t 354 1
        rw [h1, zsC_lo (by decide), hn]
        clear ih h1 h2 hT hTr
        omega
      have r5 : t 355 ((i : Nat) : Int) = T ((i : Nat) : Int) := by rw [h2 355 (by decide), hT i hin]
      have rc := zct_r (P := zhx T) i
      by_cases c : T ((i : Nat) : Int) < 0
      · have e3 : zct (zhx T) (i + 1) = zct (zhx T) i := by
          show zct (zhx T) i + (if zhx T i then 1 else 0) = _
          rw [if_neg (fun z => z c), Int.add_zero]
        obtain ⟨t2, v1, v2, v3⟩ := ih (i + 1) t (by omega) (by rw [h1, zsC_s, if_pos c]) h2
        refine ⟨t2, zb_196_76 (fun _ => zb_196_82 (fun _ => zb_196_87 ?_) (fun q => absurd (show t 355 ((i : Nat) : Int) < 0 by rw [r5]; exact c) q)) (fun q => absurd lt q), v2, v3⟩
        rw [e2, ← e3]
        exact v1
      · obtain ⟨a, a1, a2, a3⟩ := (hTr i hin).resolve_left (fun q => c (by rw [q]; decide))
        have a0 : 0 ≤ ((a : Nat) : Int) := Int.natCast_nonneg a
        have a6 : ((a : Nat) : Int) ≤ 6 := by clear ih h1 h2 hT hTr; omega
        have e3 : zct (zhx T) (i + 1) = zct (zhx T) i + 1 := by
          show zct (zhx T) i + (if zhx T i then 1 else 0) = _
          rw [if_pos (show zhx T i from c)]
        have e4 : zw (zct (zhx T) i + 1) = zct (zhx T) i + 1 := zw_id (by clear ih h1 h2 hT hTr; omega) (by clear ih h1 h2 hT hTr; omega)
        have ra : ∀ j : Int, 0 ≤ j → j ≤ 10 → zpe (zsC τ T i) ((a : Nat) : Int) j = zpe τ ((a : Nat) : Int) j := fun j j0 j1 => by
          by_cases d : a < i
          · rw [zsC_p d j0 j1, if_neg (fun z => z (by rw [a2]; decide))]
          · exact zsC_hi (by clear ih h1 h2 hT hTr; omega)
        obtain ⟨t1, u1, u2, u3⟩ := zr_hears (p := ((i : Nat) : Int)) (f := ((a : Nat) : Int)) h1 i0 i6 a0 a6
        rw [ra 9 (by decide) (by decide), ra 7 (by decide) (by decide), zsC_lo (by decide)] at u2
        obtain ⟨t2, v1, v2, v3⟩ := ih (i + 1) t1 (by omega) (by rw [u2, zsC_s, if_neg c, a3]) (fun x hx => (u3 x hx).trans (h2 x hx))
        refine ⟨t2, zb_196_76 (fun _ => zb_196_82 (fun q => absurd (show T ((i : Nat) : Int) < 0 by rw [← r5]; exact q) c) (fun _ => zb_196_88 (s1 := t1) (r := 0) ?_ (zb_196_95 ?_))) (fun q => absurd lt q), v2, v3⟩
        · show zE xm_c197 [344, ((i : Nat) : Int), t 355 ((i : Nat) : Int), 0, 0] t 0 t1
          rw [r5, a3]
          exact u1
        · rw [e4, e2, ← e3]
          exact v1
  exact loop n 0 s (by omega) (by rw [zsC_0]; exact hs) (fun _ _ => rfl)
/-- what a bell makes of what is told -/
def zPo (σ : Int → Int) (n m : Nat) (F : Int) (U : (Int → Int) → Int) : Int → Int := fun k => if k = 4 then zw (σ 4 + 1) else zsC (zsA σ m n) (zto (zsA σ m n) (zfs (zvD σ m) n) n F U) n k
def zPc (σ : Int → Int) (n m : Nat) (F : Int) (U : (Int → Int) → Int) : Int := zct (zhx (zto (zsA σ m n) (zfs (zvD σ m) n) n F U)) n
/-- what a bell leaves as it was -/
def zPk (s s' : zS) : Prop := (∀ x, x ≠ 344 → x ≠ 352 → x ≠ 353 → x ≠ 354 → x ≠ 355 → s' x = s x) ∧ ∀ y, y ≠ 18 → y ≠ 23 → s' 344 y = s 344 y
theorem zr_passes (hs : s 354 = σ) (hn : σ 1 = ((n : Nat) : Int)) (h7 : n ≤ 7) (hm : σ 2 = ((m : Nat) : Int)) (hm2 : m ≤ 10) (hF : s 344 21 = F) (hU : ¬ F < 0 → zRu s F U) : ∃ s', zE xm_c196 [344, 0, 0, 0] s (zPc σ n m F U) s' ∧ s' 354 = zPo σ n m F U ∧ zPk s s' := by
  obtain ⟨t1, y3, a1, a2, a3, a4⟩ := zr_A hs hn h7 hm hm2
  have hq : zQs t1 (zsA σ m n) (zfs (zvD σ m) n) n F U := ⟨a2, a3, by rw [zsA_lo (by decide), hn], h7, by rw [a4.2 21 (by decide), hF], fun h t ws x1 x2 => hU h t ws (fun x c1 c2 => by rw [x1 x c1 c2, a4.1 x (by omega) (by omega)]) x2⟩
  obtain ⟨t2, b1, b2, b3⟩ := zr_B (x3 := y3) hq
  obtain ⟨t3, c1, c2, c3⟩ := zr_C (x3 := y3) (T := zto (zsA σ m n) (zfs (zvD σ m) n) n F U) (zQs_b hq b3).1 hq.2.2.1 h7 b2 (fun q hqn => by
    rcases zto_r (σ := zsA σ m n) (L := zfs (zvD σ m) n) (n := n) (F := F) (U := U) h7 (b := ((q : Nat) : Int)) with h | ⟨a, h1, h2, h3⟩
    · exact Or.inl h
    · exact Or.inr ⟨a, h1, zto_k h2, h3⟩)
  refine ⟨t3, a1 _ (b1 _ c1), ?_, fun x x1 x2 x3 x4 x5 => ?_, fun y y1 y2 => ?_⟩
  · rw [c2, zsA_lo (by decide)]
    rfl
  · rw [c3 x x4, b3.1 x x2 x3 x1 x5, a4.1 x x4 x1]
  · rw [c3 344 (by decide), b3.2 y y1, a4.2 y y2]
end FB
