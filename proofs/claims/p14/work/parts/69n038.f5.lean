/-! who tells whom, in the reference -/
/-- what a telling leaves as it was -/
def zTk (s s' : zS) : Prop := (∀ x, x ≠ 352 → x ≠ 353 → x ≠ 344 → s' x = s x) ∧ ∀ y, y ≠ 18 → s' 344 y = s 344 y
theorem zTk_r {s : zS} : zTk s s := ⟨fun _ _ _ _ => rfl, fun _ _ => rfl⟩
theorem zTk_t {s s1 s2 : zS} (h : zTk s s1) (h' : zTk s1 s2) : zTk s s2 := ⟨fun x a b c => (h'.1 x a b c).trans (h.1 x a b c), fun y a => (h'.2 y a).trans (h.2 y a)⟩
theorem zTk_k {s s1 : zS} (h : zKk s s1) : zTk s s1 := ⟨fun x a _ c => funext (fun y => h x y a (fun q => c q.1)), fun y a => h 344 y (by decide) (fun q => a q.2)⟩
theorem zTk_w {s s1 : zS} (h : ∀ x, x ≠ 353 → s1 x = s x) : zTk s s1 := ⟨fun x _ b _ => h x b, fun y _ => by rw [h 344 (by decide)]⟩
/-- the rule in force answers U of the words -/
def zRu (s : zS) (F : Int) (U : (Int → Int) → Int) : Prop := ∀ (t : zS) (ws : Int → Int), (∀ x, 346 ≤ x → x ≤ 349 → t x = s x) → (∀ k, 0 ≤ k → k ≤ 10 → t 353 k = ws k) → ∃ t', zE xm_c193 [344, F, 0, 0] t (U ws) t' ∧ zKk t t'
/-- what the reference's tellings look at -/
def zQs (s : zS) (σ : Int → Int) (L : Int) (n : Nat) (F : Int) (U : (Int → Int) → Int) : Prop := s 354 = σ ∧ s 344 23 = L ∧ σ 1 = ((n : Nat) : Int) ∧ n ≤ 7 ∧ s 344 21 = F ∧ (¬ F < 0 → zRu s F U)
theorem zQs_t {s s1 : zS} {σ : Int → Int} {L : Int} {n : Nat} {F : Int} {U : (Int → Int) → Int} (h : zQs s σ L n F U) (k : zTk s s1) : zQs s1 σ L n F U := by
  obtain ⟨h1, h2, h3, h4, h5, h6⟩ := h
  refine ⟨by rw [k.1 354 (by decide) (by decide) (by decide), h1], by rw [k.2 23 (by decide), h2], h3, h4, by rw [k.2 21 (by decide), h5], fun hF t ws a b => h6 hF t ws (fun x x1 x2 => ?_) b⟩
  rw [a x x1 x2, k.1 x (by omega) (by omega) (by omega)]
/-- whether a tells b -/
abbrev zte (σ : Int → Int) (L : Int) (n : Nat) (F : Int) (U : (Int → Int) → Int) (a b : Int) : Prop := ¬ a = b ∧ ¬ zpe σ a 8 < 0 ∧ zon σ L a (zpe σ b 0) ∧ ¬ zbt (σ 8) (zpe σ b 0) = 1 ∧ ¬ ((0 ≤ σ 5 ∧ σ 5 ≤ σ 4) ∧ ¬ zbt (σ 9) (zpe σ b 0) = 1) ∧ ¬ (zbt (zpe σ a 5) b = 1 ∧ zct (zot σ L (zpe σ b 0) a b) n = 0) ∧ (F < 0 ∨ 0 < U (zws σ L n a b))
theorem zsg_p {y : Int} : 0 < zsg y 0 ↔ 0 < y := by
  unfold zsg
  by_cases h : y < 0
  · rw [if_pos h]; omega
  · rw [if_neg h]
    by_cases h2 : y = 0
    · rw [if_pos h2]; omega
    · rw [if_neg h2]; omega
section FT
variable {s : zS} {σ : Int → Int} {a b L F : Int} {n : Nat} {U : (Int → Int) → Int}
theorem zr_tells (hq : zQs s σ L n F U) (a0 : 0 ≤ a) (a6 : a ≤ 6) (b0 : 0 ≤ b) (b6 : b ≤ 6) : ∃ s', zE xm_c194 [344, a, b, 0] s (if zte σ L n F U a b then 1 else 0) s' ∧ zTk s s' := by
  obtain ⟨hs, hL, hn, h7, hF, hU⟩ := hq
  have no : ¬ zte σ L n F U a b → zE xm_c194 [344, a, b, 0] s 0 s → ∃ s', zE xm_c194 [344, a, b, 0] s (if zte σ L n F U a b then 1 else 0) s' ∧ zTk s s' := fun h z => ⟨s, by rw [if_neg h]; exact z, zTk_r⟩
  have h4 : s 354 4 = σ 4 := by rw [hs]
  have h8 : s 354 8 = σ 8 := by rw [hs]
  have h9 : s 354 9 = σ 9 := by rw [hs]
  have yes1 : ∀ {P : Prop} [Decidable P], P → ¬ (if P then (1 : Int) else 0) = 0 := fun h q => by rw [if_pos h] at q; exact absurd q (by decide)
  by_cases c1 : a = b
  · exact no (fun q => q.1 c1) (zb_194_0 (zr_per hs b0 b6 (by decide) (by decide)) (zb_194_4 (fun _ => zb_194_24 rfl) (fun q => absurd c1 q)))
  have l1 : ∀ R, zA xm_c194 8 [344, a, b, zpe σ b 0] [] s R → zA xm_c194 0 [344, a, b, 0] [] s R := fun R z => zb_194_0 (zr_per hs b0 b6 (by decide) (by decide)) (zb_194_4 (fun q => absurd q c1) (fun _ => z))
  by_cases c2 : zpe σ a 8 < 0
  · exact no (fun q => q.2.1 c2) (l1 _ (zb_194_8 (zr_know hs a0 a6) (zb_194_11 (fun _ => zb_194_24 rfl) (fun q => absurd (if_pos c2) q))))
  have l2 : ∀ R, zA xm_c194 12 [344, a, b, zpe σ b 0] [] s R → zA xm_c194 0 [344, a, b, 0] [] s R := fun R z => l1 R (zb_194_8 (zr_know hs a0 a6) (zb_194_11 (fun q => absurd q (by rw [if_neg c2]; decide)) (fun _ => z)))
  by_cases c3 : zon σ L a (zpe σ b 0)
  case neg => exact no (fun q => c3 q.2.2.1) (l2 _ (zb_194_12 (zr_on hs hL a0 a6) (zb_194_16 (fun _ => zb_194_24 rfl) (fun q => absurd (if_neg c3) q))))
  have l3 : ∀ R, zA xm_c194 17 [344, a, b, zpe σ b 0] [] s R → zA xm_c194 0 [344, a, b, 0] [] s R := fun R z => l2 R (zb_194_12 (zr_on hs hL a0 a6) (zb_194_16 (fun q => absurd q (yes1 c3)) (fun _ => z)))
  have e8 : zE xm_c126 [s (344 + 10) 8, zpe σ b 0] s (if zbt (σ 8) (zpe σ b 0) = 1 then 1 else 0) s := by
    show zE xm_c126 [s 354 8, zpe σ b 0] s _ s
    rw [h8]
    exact zq_is
  by_cases c4 : zbt (σ 8) (zpe σ b 0) = 1
  · exact no (fun q => q.2.2.2.1 c4) (l3 _ (zb_194_17 e8 (zb_194_23 (fun q => absurd q (yes1 c4)) (fun _ => zb_194_24 rfl))))
  have l4 : ∀ R, zA xm_c194 26 [344, a, b, zpe σ b 0] [] s R → zA xm_c194 0 [344, a, b, 0] [] s R := fun R z => l3 R (zb_194_17 e8 (zb_194_23 (fun _ => z) (fun q => absurd (if_neg c4) q)))
  have e5 : zE xm_c182 [344, s (344 + 10) 4] s (if 0 ≤ σ 5 ∧ σ 5 ≤ σ 4 then 1 else 0) s := by
    show zE xm_c182 [344, s 354 4] s _ s
    rw [h4]
    exact zr_night hs
  have e9 : zE xm_c126 [s (344 + 10) 9, zpe σ b 0] s (if zbt (σ 9) (zpe σ b 0) = 1 then 1 else 0) s := by
    show zE xm_c126 [s 354 9, zpe σ b 0] s _ s
    rw [h9]
    exact zq_is
  by_cases c5 : (0 ≤ σ 5 ∧ σ 5 ≤ σ 4) ∧ ¬ zbt (σ 9) (zpe σ b 0) = 1
  · exact no (fun q => q.2.2.2.2.1 c5) (l4 _ (zb_194_26 e5 (zb_194_32 (fun q => absurd q (yes1 c5.1)) (fun _ => zb_194_33 e9 (zb_194_39 (fun _ => zb_194_40 rfl) (fun q => absurd (if_neg c5.2) q))))))
  have l5 : ∀ R, zA xm_c194 42 [344, a, b, zpe σ b 0] [] s R → zA xm_c194 0 [344, a, b, 0] [] s R := fun R z => l4 R (zb_194_26 e5 (zb_194_32 (fun _ => z) (fun q1 => zb_194_33 e9 (zb_194_39 (fun q2 => by
    by_cases g : 0 ≤ σ 5 ∧ σ 5 ≤ σ 4
    · refine absurd ⟨g, fun q3 => ?_⟩ c5
      rw [if_pos q3] at q2
      exact absurd q2 (by decide)
    · exact absurd (if_neg g) q1) (fun _ => z)))))
  have e7 : zE xm_c126 [zpe σ a 5, b] s (if zbt (zpe σ a 5) b = 1 then 1 else 0) s := zq_is
  by_cases c6 : zbt (zpe σ a 5) b = 1 ∧ zct (zot σ L (zpe σ b 0) a b) n = 0
  · exact no (fun q => q.2.2.2.2.2.1 c6) (l5 _ (zb_194_42 (zr_per hs a0 a6 (by decide) (by decide)) (zb_194_46 e7 (zb_194_48 (fun q => absurd q (yes1 c6.1)) (fun _ => zb_194_49 (zr_oth hs hL hn h7) (zb_194_54 (fun _ => zb_194_55 rfl) (fun q => absurd c6.2 q)))))))
  have l6 : ∀ R, zA xm_c194 57 [344, a, b, zpe σ b 0] [] s R → zA xm_c194 0 [344, a, b, 0] [] s R := fun R z => l5 R (zb_194_42 (zr_per hs a0 a6 (by decide) (by decide)) (zb_194_46 e7 (zb_194_48 (fun _ => z) (fun q1 => zb_194_49 (zr_oth hs hL hn h7) (zb_194_54 (fun q2 => by
    by_cases g : zbt (zpe σ a 5) b = 1
    · exact absurd ⟨g, q2⟩ c6
    · exact absurd (if_neg g) q1) (fun _ => z))))))
  by_cases c7 : F < 0
  · refine ⟨s, ?_, zTk_r⟩
    rw [if_pos ⟨c1, c2, c3, c4, c5, c6, Or.inl c7⟩]
    exact l6 _ (zb_194_57 (fun _ => zb_194_60 rfl) (fun q => absurd (by rw [hF]; exact c7) q))
  obtain ⟨s1, w1, w2, w3⟩ := zr_words hs hL hn h7 a0 a6 b0 b6
  obtain ⟨s2, u1, u2⟩ := hU c7 s1 (zws σ L n a b) (fun x x1 x2 => w2 x (by omega)) w3
  have hF1 : s1 344 21 = F := by rw [w2 344 (by decide), hF]
  have l7 : ∀ R, zA xm_c194 70 [344, a, b, zpe σ b 0] [(true, U (zws σ L n a b))] s2 R → zA xm_c194 0 [344, a, b, 0] [] s R := fun R z => l6 R (zb_194_57 (fun q => absurd (by rw [hF] at q; exact q) c7) (fun _ => zb_194_62 w1 (zb_194_66 (by rw [hF1]; exact u1) z)))
  refine ⟨s2, ?_, zTk_t (zTk_w w2) (zTk_k u2)⟩
  by_cases c8 : 0 < U (zws σ L n a b)
  · rw [if_pos ⟨c1, c2, c3, c4, c5, c6, Or.inr c8⟩]
    exact l7 _ (zb_194_70 (fun _ => zb_194_73 rfl) (fun q => absurd (zsg_p.mpr c8) q))
  · rw [if_neg (fun q => q.2.2.2.2.2.2.elim c7 c8)]
    exact l7 _ (zb_194_70 (fun q => absurd (zsg_p.mp q) c8) (fun _ => zb_194_75 rfl))
/-- who calls up or down the bucket -/
abbrev zcl (σ : Int → Int) (L : Int) (a : Nat) : Prop := zkn σ a ∧ zon σ L ((a : Nat) : Int) (σ 6)
/-- who calls b by the bucket -/
def zbk (σ : Int → Int) (L : Int) (n : Nat) (b : Int) : Int := if σ 6 < 0 then -1 else if zpe σ b 0 = σ 7 then zfi (zcl σ L) n 0 else -1
/-- who tells b at this bell -/
def zto (σ : Int → Int) (L : Int) (n : Nat) (F : Int) (U : (Int → Int) → Int) (b : Int) : Int := if ¬ zpe σ b 8 < 0 ∨ zpe σ b 6 = 1 ∨ ¬ zbt L b = 1 then -1 else if zfi (fun a => zte σ L n F U ((a : Nat) : Int) b) n 0 = -1 then zbk σ L n b else zfi (fun a => zte σ L n F U ((a : Nat) : Int) b) n 0
theorem zr_bk (hq : zQs s σ L n F U) (b0 : 0 ≤ b) (b6 : b ≤ 6) {x : Int} : zA xm_c195 34 [344, b, x] [] s (zbk σ L n b, s) := by
  obtain ⟨hs, hL, hn, h7, hF, hU⟩ := hq
  have h6 : s 354 6 = σ 6 := by rw [hs]
  have hh7 : s 354 7 = σ 7 := by rw [hs]
  have loop : ∀ (k i : Nat), i + k = n → zA xm_c195 52 [344, b, ((i : Nat) : Int)] [] s (zfi (zcl σ L) k i, s) := by
    intro k
    induction k with
    | zero =>
      intro i hi
      refine zb_195_52 (fun q => ?_) (fun _ => zb_195_74 rfl)
      have q : ((i : Nat) : Int) < s 354 1 := q
      rw [hs, hn] at q
      omega
    | succ k ih =>
      intro i hi
      have i0 : 0 ≤ ((i : Nat) : Int) := Int.natCast_nonneg i
      have i6 : ((i : Nat) : Int) ≤ 6 := by clear ih hU; omega
      have e2 : zw (((i : Nat) : Int) + 1) = ((i + 1 : Nat) : Int) := zw_id (by clear ih hU; omega) (by clear ih hU; omega)
      have lt : ((i : Nat) : Int) < s (344 + 10) 1 := by
        show _ < s 354 1
        rw [hs, hn]
        omega
      have nx : zA xm_c195 72 [344, b, ((i : Nat) : Int)] [] s (zfi (zcl σ L) k (i + 1), s) := zb_195_72 (by rw [e2]; exact ih (i + 1) (by omega))
      have e6 : zE xm_c190 [344, ((i : Nat) : Int), s (344 + 10) 6] s (if zon σ L ((i : Nat) : Int) (σ 6) then 1 else 0) s := by
        show zE xm_c190 [344, ((i : Nat) : Int), s 354 6] s _ s
        rw [h6]
        exact zr_on hs hL i0 i6
      show zA xm_c195 52 [344, b, ((i : Nat) : Int)] [] s ((if zcl σ L i then ((i : Nat) : Int) else zfi (zcl σ L) k (i + 1)), s)
      by_cases c1 : zpe σ ((i : Nat) : Int) 8 < 0
      · rw [if_neg (fun q => q.1 c1)]
        exact zb_195_52 (fun _ => zb_195_58 (zr_know hs i0 i6) (zb_195_61 (fun _ => nx) (fun q => absurd (if_pos c1) q))) (fun q => absurd lt q)
      · by_cases c2 : zon σ L ((i : Nat) : Int) (σ 6)
        · rw [if_pos ⟨c1, c2⟩]
          exact zb_195_52 (fun _ => zb_195_58 (zr_know hs i0 i6) (zb_195_61 (fun q => absurd q (by rw [if_neg c1]; decide)) (fun _ => zb_195_62 e6 (zb_195_69 (fun q => absurd q (by rw [if_pos c2]; decide)) (fun _ => zb_195_70 rfl))))) (fun q => absurd lt q)
        · rw [if_neg (fun q => c2 q.2)]
          exact zb_195_52 (fun _ => zb_195_58 (zr_know hs i0 i6) (zb_195_61 (fun q => absurd q (by rw [if_neg c1]; decide)) (fun _ => zb_195_62 e6 (zb_195_69 (fun _ => nx) (fun q => absurd (if_neg c2) q))))) (fun q => absurd lt q)
  unfold zbk
  by_cases d1 : σ 6 < 0
  · rw [if_pos d1]
    exact zb_195_34 (fun _ => zb_195_48 rfl) (fun q => absurd (show s 354 6 < 0 by rw [h6]; exact d1) q)
  · rw [if_neg d1]
    have hd : ¬ s (344 + 10) 6 < 0 := by
      show ¬ s 354 6 < 0
      rw [h6]
      exact d1
    by_cases d2 : zpe σ b 0 = σ 7
    · rw [if_pos d2]
      exact zb_195_34 (fun q => absurd q hd) (fun _ => zb_195_39 (zr_per hs b0 b6 (by decide) (by decide)) (zb_195_43 (fun _ => zb_195_50 (loop n 0 (by omega))) (fun q => absurd (show zpe σ b 0 = s 354 7 by rw [hh7]; exact d2) q)))
    · rw [if_neg d2]
      exact zb_195_34 (fun q => absurd q hd) (fun _ => zb_195_39 (zr_per hs b0 b6 (by decide) (by decide)) (zb_195_43 (fun q => absurd (show zpe σ b 0 = σ 7 by rw [← hh7]; exact q) d2) (fun _ => zb_195_48 rfl)))
theorem zr_teller (hq : zQs s σ L n F U) (b0 : 0 ≤ b) (b6 : b ≤ 6) : ∃ s', zE xm_c195 [344, b, 0] s (zto σ L n F U b) s' ∧ zTk s s' := by
  have hq0 := hq
  obtain ⟨hs, hL, hn, h7, hF, hU⟩ := hq
  unfold zto
  by_cases c1 : zpe σ b 8 < 0
  case neg =>
    rw [if_pos (Or.inl c1)]
    exact ⟨s, zb_195_0 (zr_know hs b0 b6) (zb_195_3 (fun q => absurd q (by rw [if_neg c1]; decide)) (fun _ => zb_195_15 rfl)), zTk_r⟩
  have l1 : ∀ R, zA xm_c195 8 [344, b, 0] [(false, zpe σ b 6)] s R → zA xm_c195 0 [344, b, 0] [] s R := fun R z => zb_195_0 (zr_know hs b0 b6) (zb_195_3 (fun _ => zb_195_4 (zr_per hs b0 b6 (by decide) (by decide)) z) (fun q => absurd (if_pos c1) q))
  by_cases c2 : zpe σ b 6 = 1
  · rw [if_pos (Or.inr (Or.inl c2))]
    exact ⟨s, l1 _ (zb_195_8 (fun _ => zb_195_15 rfl) (fun q => absurd c2 q)), zTk_r⟩
  have e3 : zE xm_c126 [s 344 23, b] s (if zbt L b = 1 then 1 else 0) s := by
    rw [hL]
    exact zq_is
  by_cases c3 : zbt L b = 1
  case neg =>
    rw [if_pos (Or.inr (Or.inr c3))]
    exact ⟨s, l1 _ (zb_195_8 (fun q => absurd q c2) (fun _ => zb_195_10 e3 (zb_195_14 (fun _ => zb_195_15 rfl) (fun q => absurd (if_neg c3) q)))), zTk_r⟩
  rw [if_neg (fun q => q.elim (fun q => q c1) (fun q => q.elim c2 (fun q => q c3)))]
  have l3 : ∀ R, zA xm_c195 19 [344, b, 0] [] s R → zA xm_c195 0 [344, b, 0] [] s R := fun R z => l1 R (zb_195_8 (fun q => absurd q c2) (fun _ => zb_195_10 e3 (zb_195_14 (fun q => absurd q (by rw [if_pos c3]; decide)) (fun _ => zb_195_17 z))))
  have loop : ∀ (k i : Nat) (s1 : zS), i + k = n → zTk s s1 → ∃ s', zA xm_c195 19 [344, b, ((i : Nat) : Int)] [] s1 ((if zfi (fun a => zte σ L n F U ((a : Nat) : Int) b) k i = -1 then zbk σ L n b else zfi (fun a => zte σ L n F U ((a : Nat) : Int) b) k i), s') ∧ zTk s s' := by
    intro k
    induction k with
    | zero =>
      intro i s1 hi hk
      refine ⟨s1, ?_, hk⟩
      show zA xm_c195 19 [344, b, ((i : Nat) : Int)] [] s1 ((if (-1 : Int) = -1 then zbk σ L n b else -1), s1)
      rw [if_pos rfl]
      refine zb_195_19 (fun q => ?_) (fun _ => zr_bk (zQs_t hq0 hk) b0 b6)
      have q : ((i : Nat) : Int) < s1 354 1 := q
      rw [(zQs_t hq0 hk).1, hn] at q
      omega
    | succ k ih =>
      intro i s1 hi hk
      have hq1 := zQs_t hq0 hk
      have i0 : 0 ≤ ((i : Nat) : Int) := Int.natCast_nonneg i
      have i6 : ((i : Nat) : Int) ≤ 6 := by clear ih hq1 hU hq0 l1 l3; omega
      have i1 : ¬ ((i : Nat) : Int) = -1 := by clear ih hq1 hU hq0 l1 l3; omega
      have e2 : zw (((i : Nat) : Int) + 1) = ((i + 1 : Nat) : Int) := zw_id (by clear ih hq1 hU hq0 l1 l3; omega) (by clear ih hq1 hU hq0 l1 l3; omega)
      have lt : ((i : Nat) : Int) < s1 (344 + 10) 1 := by
        show _ < s1 354 1
        rw [hq1.1, hn]
        omega
      obtain ⟨s2, u1, u2⟩ := zr_tells (a := ((i : Nat) : Int)) hq1 i0 i6 b0 b6
      by_cases c : zte σ L n F U ((i : Nat) : Int) b
      · have e : zfi (fun a => zte σ L n F U ((a : Nat) : Int) b) (k + 1) i = ((i : Nat) : Int) := if_pos c
        rw [e, if_neg i1]
        rw [if_pos c] at u1
        exact ⟨s2, zb_195_19 (fun _ => zb_195_25 u1 (zb_195_29 (fun q => absurd q (by decide)) (fun _ => zb_195_30 rfl))) (fun q => absurd lt q), zTk_t hk u2⟩
      · have e : zfi (fun a => zte σ L n F U ((a : Nat) : Int) b) (k + 1) i = zfi (fun a => zte σ L n F U ((a : Nat) : Int) b) k (i + 1) := if_neg c
        rw [e]
        rw [if_neg c] at u1
        obtain ⟨s3, v1, v2⟩ := ih (i + 1) s2 (by omega) (zTk_t hk u2)
        refine ⟨s3, zb_195_19 (fun _ => zb_195_25 u1 (zb_195_29 (fun _ => zb_195_32 ?_) (fun q => absurd rfl q))) (fun q => absurd lt q), v2⟩
        rw [e2]
        exact v1
  obtain ⟨s', u1, u2⟩ := loop n 0 s (by omega) zTk_r
  exact ⟨s', l3 _ u1, u2⟩
end FT
