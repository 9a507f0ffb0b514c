/-! what is told stays in its ranges; the rule in force on both sides -/
section HV
variable {bB : Int}
variable {s s2 t : zS} {σ τ : Int → Int} {n m : Nat} {h F : Int} {U : (Int → Int) → Int}
theorem zst_p {p : Nat} {j : Int} (hp : p < 7) (j0 : 4 ≤ j) (j1 : j ≤ 7) : zst (10 + 11 * ((p : Nat) : Int) + j) := by
  unfold zst
  refine Or.inr ⟨by omega, by omega, by omega, by omega⟩
theorem zRH_s (H : zRH s h σ n m) (h7 : n ≤ 7) (e : ∀ k, zst k ∨ 87 ≤ k → τ k = σ k) : zRH s h τ n m := by
  obtain ⟨⟨a0, a1, a2, a5, a6, a7, a8⟩, b, c⟩ := H
  have e0 : τ 0 = σ 0 := e 0 (Or.inl (Or.inl (Or.inl (by decide))))
  have lo : ∀ k, k < 4 → τ k = σ k := fun k hk => e k (Or.inl (Or.inl (Or.inl hk)))
  have e5 : τ 5 = σ 5 := e 5 (Or.inl (Or.inl (Or.inr (Or.inl (by decide)))))
  have e6 : τ 6 = σ 6 := e 6 (Or.inl (Or.inl (Or.inr (Or.inl (by decide)))))
  have e7 : τ 7 = σ 7 := e 7 (Or.inl (Or.inl (Or.inr (Or.inl (by decide)))))
  have e9 : τ 9 = σ 9 := e 9 (Or.inl (Or.inl (Or.inr (Or.inr rfl))))
  refine ⟨⟨by rw [a0, e0], by rw [a1, lo 1 (by decide)], by rw [a2, lo 2 (by decide)], by rw [a5, e 145 (Or.inr (by decide))], by rw [a6, e9], by rw [a7, e5], fun q => ?_⟩, fun p hp => ?_, fun i hi => ?_⟩
  · rw [e0] at q
    rw [e6, e7]
    exact a8 q
  · have pe : ∀ j : Int, 4 ≤ j → j ≤ 7 → zpe τ ((p : Nat) : Int) j = zpe σ ((p : Nat) : Int) j := fun j j0 j1 => e _ (Or.inl (zst_p (by omega) j0 j1))
    rw [pe 4 (by decide) (by decide), pe 5 (by decide) (by decide), pe 6 (by decide) (by decide), pe 7 (by decide) (by decide), e (138 + ((p : Nat) : Int)) (Or.inr (by omega))]
    exact b p hp
  · rw [e (87 + 3 * ((i : Nat) : Int)) (Or.inr (by omega)), e (87 + 3 * ((i : Nat) : Int) + 1) (Or.inr (by omega)), e (87 + 3 * ((i : Nat) : Int) + 2) (Or.inr (by omega))]
    exact c i hi
theorem zGt_s (H : zGt σ) (e : ∀ k, zst k → τ k = σ k) : zGt τ := by
  unfold zGt at H ⊢
  rw [e 0 (Or.inl (Or.inl (by decide))), e 5 (Or.inl (Or.inr (Or.inl (by decide)))), e 6 (Or.inl (Or.inr (Or.inl (by decide)))), e 7 (Or.inl (Or.inr (Or.inl (by decide))))]
  exact H
/-- an act's new table keeps the ranges, if each person's new places do -/
theorem zGs_s (H : zGs bB σ n m) (e : ∀ k, zst k ∨ 87 ≤ k → τ k = σ k) (h4 : 0 ≤ τ 4 ∧ τ 4 ≤ 999 ∧ τ 4 ≤ bB) (hp : ∀ p : Nat, p < n → (0 ≤ zpe τ ((p : Nat) : Int) 0 ∧ zpe τ ((p : Nat) : Int) 0 < σ 0) ∧ (0 ≤ zpe τ ((p : Nat) : Int) 1 ∧ zpe τ ((p : Nat) : Int) 1 < σ 0) ∧ (1 ≤ zpe τ ((p : Nat) : Int) 3 ∧ zpe τ ((p : Nat) : Int) 3 ≤ 9) ∧ (zpe τ ((p : Nat) : Int) 0 ≠ zpe τ ((p : Nat) : Int) 1 → 1 ≤ zpe τ ((p : Nat) : Int) 2 ∧ zpe τ ((p : Nat) : Int) 2 ≤ 9) ∧ (-1 ≤ zpe τ ((p : Nat) : Int) 8 ∧ zpe τ ((p : Nat) : Int) 8 ≤ 2000)) : zGs bB τ n m := by
  obtain ⟨⟨g1, g2, g3, g4, g5, g6, g7, g8, g9⟩, gp, ge⟩ := H
  have e0 : τ 0 = σ 0 := e 0 (Or.inl (Or.inl (Or.inl (by decide))))
  have pe : ∀ (p : Nat) (j : Int), p < n → 4 ≤ j → j ≤ 7 → zpe τ ((p : Nat) : Int) j = zpe σ ((p : Nat) : Int) j := fun p j hp j0 j1 => e _ (Or.inl (zst_p (by omega) j0 j1))
  refine ⟨⟨by rw [e 1 (Or.inl (Or.inl (Or.inl (by decide)))), g1], g2, by rw [e 2 (Or.inl (Or.inl (Or.inl (by decide)))), g3], g4, by rw [e0]; exact g5, by rw [e0]; exact g6, by rw [e0]; exact g7, h4.1, h4.2⟩, fun p hpn => ?_, fun i hi => ?_⟩
  · obtain ⟨q0, q1, q3, q2, q8⟩ := hp p hpn
    obtain ⟨r0, r1, r3, r4, r5, r6, r7, r8, r9⟩ := gp p hpn
    rw [e0, pe p 4 hpn (by decide) (by decide), pe p 6 hpn (by decide) (by decide), e (138 + ((p : Nat) : Int)) (Or.inr (by omega))]
    refine ⟨q0, q1, q3, r4, q2, q8, r7, r8, fun q hq => ?_⟩
    rw [pe p 5 hpn (by decide) (by decide), pe q 5 hq (by decide) (by decide)]
    exact r9 q hq
  · rw [e0, e (87 + 3 * ((i : Nat) : Int)) (Or.inr (by omega)), e (87 + 3 * ((i : Nat) : Int) + 1) (Or.inr (by omega))]
    exact ge i hi
/-- where an errand sends -/
theorem zerr_r (H : zGs bB σ n m) {p b : Int} : zerr σ p b m = -1 ∨ (0 ≤ zerr σ p b m ∧ zerr σ p b m < σ 0) := by
  have : ∀ k : Nat, k ≤ m → zerr σ p b k = -1 ∨ (0 ≤ zerr σ p b k ∧ zerr σ p b k < σ 0) := fun k => by
    induction k with
    | zero => intro _; exact Or.inl rfl
    | succ k ih =>
      intro hk
      show (if _ ∧ _ then σ (87 + 3 * ((k : Nat) : Int) + 1) else zerr σ p b k) = -1 ∨ (0 ≤ (if _ ∧ _ then σ (87 + 3 * ((k : Nat) : Int) + 1) else zerr σ p b k) ∧ (if _ ∧ _ then σ (87 + 3 * ((k : Nat) : Int) + 1) else zerr σ p b k) < σ 0)
      by_cases c : σ (87 + 3 * ((k : Nat) : Int)) = p ∧ σ (87 + 3 * ((k : Nat) : Int) + 2) = b
      · rw [if_pos c]
        exact Or.inr (H.2.2 k (by omega)).2
      · rw [if_neg c]
        exact ih (by omega)
  exact this m (Nat.le_refl m)
theorem zp_r {a g l c e f : Int} (ha : 0 ≤ a ∧ a < f) (hg : 0 ≤ g ∧ g < f) (hf : f ≤ 9) (hc : 1 ≤ c ∧ c ≤ 9) (hl : a ≠ g → 1 ≤ l ∧ l ≤ 9) (he : e = -1 ∨ (0 ≤ e ∧ e < f)) : (0 ≤ zpA a g l c e ∧ zpA a g l c e < f) ∧ (0 ≤ zpG a g e ∧ zpG a g e < f) ∧ (zpA a g l c e ≠ zpG a g e → 1 ≤ zpL a g l c e ∧ zpL a g l c e ≤ 9) := by
  have hG : 0 ≤ zpG a g e ∧ zpG a g e < f := by
    unfold zpG
    by_cases d : a = g ∧ 0 ≤ e ∧ ¬ e = a
    · rw [if_pos d]
      exact he.resolve_left (by omega)
    · rw [if_neg d]
      exact hg
  have hK : a ≠ zpG a g e → 1 ≤ zpK a g l c e ∧ zpK a g l c e ≤ 9 := by
    unfold zpG zpK
    by_cases d : a = g ∧ 0 ≤ e ∧ ¬ e = a
    · rw [if_pos d, if_pos d]
      exact fun _ => hc
    · rw [if_neg d, if_neg d]
      exact hl
  refine ⟨?_, hG, ?_⟩
  · unfold zpA
    by_cases d : a = zpG a g e
    · rw [if_pos d]
      exact ha
    · rw [if_neg d]
      unfold zwA
      by_cases w : 0 < zw (zpK a g l c e - 1)
      · rw [if_pos w]
        exact ha
      · rw [if_neg w]
        by_cases v : a < zpG a g e
        · rw [if_pos v, zw_id (by omega) (by omega)]
          omega
        · rw [if_neg v, zw_id (by omega) (by omega)]
          omega
  · unfold zpA zpL
    by_cases d : a = zpG a g e
    · rw [if_pos d]
      exact fun q => absurd d q
    · rw [if_neg d, if_neg d]
      have k := hK d
      unfold zwL
      by_cases w : 0 < zw (zpK a g l c e - 1)
      · rw [if_pos w]
        rw [zw_id (by omega) (by omega)] at w ⊢
        exact fun _ => by omega
      · rw [if_neg w]
        by_cases v : zwA a (zpG a g e) (zpK a g l c e) = zpG a g e
        · exact fun q => absurd v q
        · rw [if_neg v]
          exact fun _ => hc
/-- a person behind a bell -/
theorem zv_r (H : zGs bB σ n m) {p : Nat} (hp : p < n) : (0 ≤ zvA σ m ((p : Nat) : Int) ∧ zvA σ m ((p : Nat) : Int) < σ 0) ∧ (0 ≤ zvG σ m ((p : Nat) : Int) ∧ zvG σ m ((p : Nat) : Int) < σ 0) ∧ (zvA σ m ((p : Nat) : Int) ≠ zvG σ m ((p : Nat) : Int) → 1 ≤ zvL σ m ((p : Nat) : Int) ∧ zvL σ m ((p : Nat) : Int) ≤ 9) := by
  obtain ⟨r0, r1, r3, r4, r5, -⟩ := H.2.1 p hp
  exact zp_r r0 r1 H.1.2.2.2.2.2.1 r3 r5 (zerr_r H)
/-! a bell's new table -/
theorem zPo_k {k : Int} (h4 : k ≠ 4) : zPo σ n m F U k = zsC (zsA σ m n) (zto (zsA σ m n) (zfs (zvD σ m) n) n F U) n k := if_neg h4
theorem zPo_st (h7 : n ≤ 7) {k : Int} (hk : zst k ∨ ¬ (0 ≤ k ∧ k < 87)) : zPo σ n m F U k = σ k := by
  have h4 : k ≠ 4 := by
    unfold zst at hk
    omega
  rw [zPo_k h4]
  by_cases c : k < 10
  · rw [zsC_lo c, zsA_lo c]
  · by_cases d : 10 + 11 * ((n : Nat) : Int) ≤ k
    · rw [zsC_hi d, zsA_hi d]
    · obtain ⟨q, hq⟩ : ∃ q : Nat, ((q : Nat) : Int) = (k - 10) / 11 := ⟨((k - 10) / 11).toNat, by omega⟩
      obtain ⟨j, hj⟩ : ∃ j : Int, j = (k - 10) % 11 := ⟨_, rfl⟩
      have e : k = 10 + 11 * ((q : Nat) : Int) + j := by omega
      have hqn : q < n := by omega
      have jr : 4 ≤ j ∧ j ≤ 7 := by
        unfold zst at hk
        omega
      rw [e]
      show zpe (zsC _ _ n) ((q : Nat) : Int) j = zpe σ ((q : Nat) : Int) j
      rw [zsC_p hqn (by omega) (by omega), zsA_p hqn (by omega) (by omega)]
      simp only [if_neg (show ¬ j = 8 by omega), if_neg (show ¬ j = 9 by omega), if_neg (show ¬ j = 10 by omega), if_neg (show ¬ j = 0 by omega), if_neg (show ¬ j = 1 by omega), if_neg (show ¬ j = 2 by omega)]
      by_cases w : ¬ zto (zsA σ m n) (zfs (zvD σ m) n) n F U ((q : Nat) : Int) < 0
      · rw [if_pos w]
      · rw [if_neg w]
theorem zPo_p (h7 : n ≤ 7) {q : Nat} (hq : q < n) {j : Int} (j0 : 0 ≤ j) (j1 : j ≤ 10) : zpe (zPo σ n m F U) ((q : Nat) : Int) j = if ¬ zto (zsA σ m n) (zfs (zvD σ m) n) n F U ((q : Nat) : Int) < 0 then (if j = 8 then σ 4 else if j = 9 then zclm (zw (zpe (zsA σ m n) (zto (zsA σ m n) (zfs (zvD σ m) n) n F U ((q : Nat) : Int)) 9 + zpe (zsA σ m n) (zto (zsA σ m n) (zfs (zvD σ m) n) n F U ((q : Nat) : Int)) 7)) else if j = 10 then zto (zsA σ m n) (zfs (zvD σ m) n) n F U ((q : Nat) : Int) else (if j = 0 then zvA σ m ((q : Nat) : Int) else if j = 1 then zvG σ m ((q : Nat) : Int) else if j = 2 then zvL σ m ((q : Nat) : Int) else zpe σ ((q : Nat) : Int) j)) else (if j = 0 then zvA σ m ((q : Nat) : Int) else if j = 1 then zvG σ m ((q : Nat) : Int) else if j = 2 then zvL σ m ((q : Nat) : Int) else zpe σ ((q : Nat) : Int) j) := by
  show zPo σ n m F U (10 + 11 * ((q : Nat) : Int) + j) = _
  rw [zPo_k (by omega)]
  show zpe (zsC _ _ n) ((q : Nat) : Int) j = _
  rw [zsC_p hq j0 j1, zsA_p hq j0 j1, zsA_lo (show (4 : Int) < 10 by decide)]
theorem zPo_Gs (H : zGs bB σ n m) (h9 : σ 4 < 999) (hb : σ 4 < bB) : zGs bB (zPo σ n m F U) n m := by
  have h7 := H.1.2.1
  have g4 := H.1.2.2.2.2.2.2.2
  have e4 : zPo σ n m F U 4 = σ 4 + 1 := by
    show (if (4 : Int) = 4 then zw (σ 4 + 1) else _) = _
    rw [if_pos rfl]
    exact zw_id (by omega) (by omega)
  refine zGs_s H (fun k hk => zPo_st h7 (hk.imp_right (fun q => by omega))) (by rw [e4]; omega) (fun p hp => ?_)
  obtain ⟨v0, v1, v2⟩ := zv_r H hp
  obtain ⟨r0, r1, r3, r4, r5, r6, -⟩ := H.2.1 p hp
  have lo : ∀ j : Int, 0 ≤ j → j ≤ 3 → zpe (zPo σ n m F U) ((p : Nat) : Int) j = (if j = 0 then zvA σ m ((p : Nat) : Int) else if j = 1 then zvG σ m ((p : Nat) : Int) else if j = 2 then zvL σ m ((p : Nat) : Int) else zpe σ ((p : Nat) : Int) j) := fun j j0 j1 => by
    rw [zPo_p h7 hp j0 (by omega)]
    simp only [if_neg (show ¬ j = 8 by omega), if_neg (show ¬ j = 9 by omega), if_neg (show ¬ j = 10 by omega)]
    by_cases w : ¬ zto (zsA σ m n) (zfs (zvD σ m) n) n F U ((p : Nat) : Int) < 0
    · rw [if_pos w]
    · rw [if_neg w]
  rw [lo 0 (by decide) (by decide), lo 1 (by decide) (by decide), lo 2 (by decide) (by decide), lo 3 (by decide) (by decide), zPo_p h7 hp (j := 8) (by decide) (by decide)]
  refine ⟨v0, v1, r3, v2, ?_⟩
  by_cases w : ¬ zto (zsA σ m n) (zfs (zvD σ m) n) n F U ((p : Nat) : Int) < 0
  · rw [if_pos w]
    show -1 ≤ σ 4 ∧ σ 4 ≤ 2000
    omega
  · rw [if_neg w]
    exact r6
/-! the rule in force -/
theorem zlen_238 : zw (zlen 238) = 11 := by decide +kernel
theorem zlen_239 : zw (zlen 239) = 26 := by decide +kernel
/-- on both sides the rule in force answers one function of the words -/
theorem zUw (hB : zgB s) (h6 : s 7 8 ≤ 6) (hC : zgC s) : ∃ U : (Int → Int) → Int, (∀ z : zS, (∀ x, 240 ≤ x → x ≤ 263 → z x = s x) → z 237 1 = (if s 10 6 < 0 then -1 else 240 + 4 * s 10 6) → zRc z (s 10 6) U) ∧ (¬ s 10 6 < 0 → ∀ z : zS, (∀ x, 346 ≤ x → x ≤ 349 → z x = s x) → zRu z (s 10 6) U) := by
  obtain ⟨b1, b2, b3⟩ := hB
  obtain ⟨c1, ⟨c2, c3⟩, c4⟩ := hC
  by_cases c : s 10 6 < 0
  · refine ⟨fun _ => 0, fun z _ hz => ⟨⟨fun _ => by rw [hz, if_pos c]; decide, fun _ => c⟩, fun q => absurd c q⟩, fun q => absurd c q⟩
  · obtain ⟨i, hi⟩ := Int.eq_ofNat_of_zero_le (Int.not_lt.mp c)
    obtain ⟨w, a1, a2, a3, a4, a5, a6, a7⟩ := b3 i (by rw [← hi]; exact c3)
    have i6 : i < 6 := by omega
    refine ⟨fun ws => zsu ws (zat w.2.1) w.2.2.2.2 (w.2.2.2.2.length / 2) 0, fun z hz hz1 => ⟨⟨fun q => absurd q c, fun q => ?_⟩, fun _ t ws ht hw => ?_⟩, fun _ z hz t ws ht hw => ?_⟩
    · rw [hz1, if_neg c] at q
      omega
    · rw [hz1, if_neg c, hi]
      have hk : zkC (240 + 4 * ((i : Nat) : Int)) 238 239 := ⟨by omega, by decide, by decide, by omega, by decide, zlen_r (Int.natCast_nonneg i) (by omega), zlen_239, zlen_238⟩
      exact zk_sum (s := t) hk ⟨by omega, by omega, by omega⟩ (zCd_x a1 (fun x y x1 x2 => by rw [ht x (by omega) (by omega), hz x (by omega) (by omega)])) a4 a5 a6 a7 hw
    · have e : ∀ x, 346 ≤ x → x ≤ 349 → t x = s x := fun x x1 x2 => (ht x x1 x2).trans (hz x x1 x2)
      have q2 : zCr ((i : Nat) : Int) w.2.1 t := by
        unfold zCr at a2 ⊢
        rw [e 346 (by decide) (by decide), e 347 (by decide) (by decide)]
        exact a2
      have q3 : zMk ((i : Nat) : Int) w.2.2.2.2 t := by
        unfold zMk at a3 ⊢
        rw [e 348 (by decide) (by decide), e 349 (by decide) (by decide)]
        exact a3
      rw [hi]
      exact zq_sum (s := t) (Int.natCast_nonneg i) (by omega) q2 q3 a4 a5 a6 a7 hw
end HV
