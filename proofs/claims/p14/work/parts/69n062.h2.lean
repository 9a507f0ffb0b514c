/-! the relation of the whole state, by groups -/
/-- an image, or what is now: in the class's cells from c on -/
def zRS (s : zS) (c : Int) (σ : Int → Int) (n m : Nat) : Prop := zRH s (c + 1) σ n m ∧ zRF s (c + 9) σ n ∧ zRL s (c + 14) σ n ∧ s c 5 = σ 137 ∧ ∀ k : Nat, ((k : Nat) : Int) < σ 137 → s (c + 18) ((k : Nat) : Int) = σ (117 + 2 * ((k : Nat) : Int)) ∧ s (c + 19) ((k : Nat) : Int) = σ (117 + 2 * ((k : Nat) : Int) + 1)
/-- what persons add to what they tell -/
def zTw (σ : Int → Int) : Prop := ∀ p : Nat, ((p : Nat) : Int) < σ 1 → -9 ≤ zpe σ ((p : Nat) : Int) 7 ∧ zpe σ ((p : Nat) : Int) 7 ≤ 9
/-- the news are of persons of the house -/
def zNr (σ : Int → Int) : Prop := (∀ k : Nat, ((k : Nat) : Int) < σ 137 → 0 ≤ σ (117 + 2 * ((k : Nat) : Int)) ∧ σ (117 + 2 * ((k : Nat) : Int)) < σ 1) ∧ zTw σ
theorem zTw_e {σ τ : Int → Int} (H : zTw σ) (h : σ 1 ≤ 7) (e : ∀ k : Int, (k = 1 ∨ (10 ≤ k ∧ k < 87 ∧ (k - 10) % 11 = 7)) → τ k = σ k) : zTw τ := fun p hp => by
  rw [e 1 (Or.inl rfl)] at hp
  have z : zpe τ ((p : Nat) : Int) 7 = zpe σ ((p : Nat) : Int) 7 := e (10 + 11 * ((p : Nat) : Int) + 7) (Or.inr (by omega))
  rw [z]
  exact H p hp
theorem zTw_0 {σ : Int → Int} (h : σ 1 = 0) : zTw σ := fun p hp => by
  rw [h] at hp
  exact absurd hp (Int.not_lt.mpr (Int.natCast_nonneg p))
theorem zNr_e {σ τ : Int → Int} (H : zNr σ) (h : σ 137 ≤ 10) (h1 : σ 1 ≤ 7) (e : ∀ k : Int, (k = 1 ∨ (117 ≤ k ∧ k ≤ 137) ∨ (10 ≤ k ∧ k < 87 ∧ (k - 10) % 11 = 7)) → τ k = σ k) : zNr τ := by
  refine ⟨fun k hk => ?_, zTw_e H.2 h1 (fun k hk => e k (hk.imp_right Or.inr))⟩
  rw [e 137 (Or.inr (Or.inl (by decide)))] at hk
  rw [e (117 + 2 * ((k : Nat) : Int)) (Or.inr (Or.inl (by omega))), e 1 (Or.inl rfl)]
  exact H.1 k hk
theorem zNr_0 {σ : Int → Int} (h : σ 137 = 0) (t : zTw σ) : zNr σ := ⟨fun k hk => by
  rw [h] at hk
  exact absurd hk (Int.not_lt.mpr (Int.natCast_nonneg k)), t⟩
/-- what holds of all that is told -/
def zGn (bB : Int) (σ : Int → Int) (n m : Nat) : Prop := zGs bB σ n m ∧ zGt σ ∧ 0 ≤ σ 137 ∧ σ 137 ≤ 10 ∧ zNr σ
/-- the tape -/
def zgA (s : zS) : Prop := s 8 1 = s 344 1 ∧ ∀ k : Nat, k < 400 → s 9 k = s 345 k
/-- a rule that is kept, on both sides -/
def zgR (s : zS) (i : Nat) (w : zW) : Prop := zCd (240 + 4 * ((i : Nat) : Int)) w s ∧ zCr ((i : Nat) : Int) w.2.1 s ∧ zMk ((i : Nat) : Int) w.2.2.2.2 s ∧ w.2.1.length ≤ 220 ∧ zGd w.2.1 w.2.2.2.2 ∧ w.2.2.2.2.length % 2 = 0 ∧ w.2.2.2.2.length ≤ 24
/-- the rules -/
def zgB (s : zS) : Prop := s 7 8 = s 344 2 ∧ (∀ i : Nat, i < 6 → s (242 + 4 * ((i : Nat) : Int)) 0 = 0) ∧ ∀ i : Nat, ((i : Nat) : Int) < s 7 8 → ∃ w : zW, zgR s i w
/-- the rule in force, and the seed -/
def zgC (s : zS) : Prop := s 10 6 = s 344 21 ∧ (-1 ≤ s 10 6 ∧ s 10 6 < s 7 8) ∧ s 10 7 = s 344 22
/-- what is now -/
def zgD (bB : Int) (s : zS) (n m : Nat) : Prop := zRS s 10 (s 354) n m ∧ zGn bB (s 354) n m
/-- what was told ahead of an act: the moving part, and the house's of now -/
def zwj (s : zS) (j : Nat) (k : Int) : Int := if 0 ≤ k ∧ k < 87 then s 356 (87 * ((j : Nat) : Int) + k) else s 354 k
/-- the places that no act changes -/
def zst (k : Int) : Prop := (k < 4 ∨ (5 ≤ k ∧ k < 8) ∨ k = 9) ∨ (10 ≤ k ∧ k < 87 ∧ 4 ≤ (k - 10) % 11 ∧ (k - 10) % 11 ≤ 7)
/-- where in the ring of the class an act is kept -/
def zix (nx u : Int) (j : Nat) : Nat := ((nx - u + ((j : Nat) : Int)) % 20).toNat
/-- what was ahead of each act -/
def zgE (bB : Int) (s : zS) (n m : Nat) : Prop := (s 40 3 = s 344 26 ∧ 0 ≤ s 344 26 ∧ s 344 26 ≤ 20 ∧ 0 ≤ s 40 2 ∧ s 40 2 ≤ 19) ∧ ∀ j : Nat, ((j : Nat) : Int) < s 344 26 → zRF s (43 + 9 * ((zix (s 40 2) (s 344 26) j : Nat) : Int)) (zwj s j) n ∧ zRL s (48 + 9 * ((zix (s 40 2) (s 344 26) j : Nat) : Int)) (zwj s j) n ∧ zGs bB (zwj s j) n m ∧ ∀ k, zst k → zwj s j k = s 354 k
/-- what an image keeps in the reference -/
def zim (s : zS) (k : Nat) (i : Int) : Int := s 360 (146 * ((k : Nat) : Int) + i)
/-- the images -/
def zgF (bB : Int) (s : zS) : Prop := ∀ k : Nat, k < 4 → s (264 + 20 * ((k : Nat) : Int)) 8 = s 363 ((k : Nat) : Int) ∧ (s 363 ((k : Nat) : Int) ≠ 0 → (s (264 + 20 * ((k : Nat) : Int)) 6 = s 361 ((k : Nat) : Int) ∧ -1 ≤ s 361 ((k : Nat) : Int) ∧ s 361 ((k : Nat) : Int) < s 7 8) ∧ s (264 + 20 * ((k : Nat) : Int)) 7 = s 362 ((k : Nat) : Int) ∧ ∃ n m, zRS s (264 + 20 * ((k : Nat) : Int)) (zim s k) n m ∧ zGn bB (zim s k) n m)
/-- the two sides alike, all of them -/
def zRZ (bB : Int) (s : zS) : Prop := zgA s ∧ zgB s ∧ zgC s ∧ (∃ n m, zgD bB s n m ∧ zgE bB s n m) ∧ zgF bB s
section HR
variable {bB : Int}
variable {s s' : zS} {h f l c : Int} {σ τ : Int → Int} {n m : Nat}
theorem zRH_c (H : zRH s h σ n m) (e : ∀ x, h ≤ x → x ≤ h + 7 → s' x = s x) : zRH s' h σ n m := by
  unfold zRH at H ⊢
  rw [e h (by omega) (by omega), e (h + 1) (by omega) (by omega), e (h + 2) (by omega) (by omega), e (h + 3) (by omega) (by omega), e (h + 4) (by omega) (by omega), e (h + 5) (by omega) (by omega), e (h + 6) (by omega) (by omega), e (h + 7) (by omega) (by omega)]
  exact H
theorem zRF_c (H : zRF s f σ n) (e : ∀ x, f ≤ x → x ≤ f + 4 → s' x = s x) : zRF s' f σ n := by
  unfold zRF at H ⊢
  rw [e f (by omega) (by omega), e (f + 1) (by omega) (by omega), e (f + 2) (by omega) (by omega), e (f + 3) (by omega) (by omega), e (f + 4) (by omega) (by omega)]
  exact H
theorem zRL_c (H : zRL s l σ n) (e : ∀ x, l ≤ x → x ≤ l + 3 → s' x = s x) : zRL s' l σ n := by
  unfold zRL at H ⊢
  rw [e l (by omega) (by omega), e (l + 1) (by omega) (by omega), e (l + 2) (by omega) (by omega), e (l + 3) (by omega) (by omega)]
  exact H
theorem zRS_c (H : zRS s c σ n m) (e : ∀ x, c + 1 ≤ x → x ≤ c + 19 → s' x = s x) (e5 : s' c 5 = s c 5) : zRS s' c σ n m := by
  obtain ⟨a, b, d, e0, g⟩ := H
  refine ⟨zRH_c a (fun x x1 x2 => e x (by omega) (by omega)), zRF_c b (fun x x1 x2 => e x (by omega) (by omega)), zRL_c d (fun x x1 x2 => e x (by omega) (by omega)), by rw [e5, e0], ?_⟩
  rw [e (c + 18) (by omega) (by omega), e (c + 19) (by omega) (by omega)]
  exact g
theorem zgA_c (H : zgA s) (e1 : s' 8 1 = s 8 1) (e2 : s' 9 = s 9) (e3 : s' 344 1 = s 344 1) (e4 : s' 345 = s 345) : zgA s' := by
  unfold zgA at H ⊢
  rw [e1, e2, e3, e4]
  exact H
theorem zgR_c {i : Nat} {w : zW} (H : zgR s i w) (hi : i < 6) (e1 : ∀ x, 240 ≤ x → x ≤ 263 → s' x = s x) (e2 : ∀ x, 346 ≤ x → x ≤ 349 → s' x = s x) : zgR s' i w := by
  obtain ⟨a, b, c, d⟩ := H
  refine ⟨zCd_x a (fun x y x1 x2 => by rw [e1 x (by omega) (by omega)]), ?_, ?_, d⟩
  · unfold zCr at b ⊢
    rw [e2 346 (by decide) (by decide), e2 347 (by decide) (by decide)]
    exact b
  · unfold zMk at c ⊢
    rw [e2 348 (by decide) (by decide), e2 349 (by decide) (by decide)]
    exact c
theorem zgB_c (H : zgB s) (h6 : s 7 8 ≤ 6) (e0 : s' 7 8 = s 7 8) (e1 : ∀ x, 240 ≤ x → x ≤ 263 → s' x = s x) (e2 : ∀ x, 346 ≤ x → x ≤ 349 → s' x = s x) (e3 : s' 344 2 = s 344 2) : zgB s' := by
  obtain ⟨a, b, c⟩ := H
  refine ⟨by rw [e0, e3, a], fun i hi => by rw [e1 _ (by omega) (by omega)]; exact b i hi, fun i hi => ?_⟩
  rw [e0] at hi
  obtain ⟨w, hw⟩ := c i hi
  exact ⟨w, zgR_c hw (by omega) e1 e2⟩
theorem zgC_c (H : zgC s) (e0 : s' 7 8 = s 7 8) (e6 : s' 10 6 = s 10 6) (e7 : s' 10 7 = s 10 7) (f1 : s' 344 21 = s 344 21) (f2 : s' 344 22 = s 344 22) : zgC s' := by
  unfold zgC at H ⊢
  rw [e0, e6, e7, f1, f2]
  exact H
theorem zgD_c (H : zgD bB s n m) (e : ∀ x, 11 ≤ x → x ≤ 29 → s' x = s x) (e5 : s' 10 5 = s 10 5) (f : s' 354 = s 354) : zgD bB s' n m := by
  unfold zgD at H ⊢
  rw [f]
  exact ⟨zRS_c H.1 (fun x x1 x2 => e x (by omega) (by omega)) e5, H.2⟩
theorem zix_r {nx u : Int} {j : Nat} : zix nx u j < 20 := by
  unfold zix
  omega
theorem zgE_c (H : zgE bB s n m) (e2 : s' 40 2 = s 40 2) (e3 : s' 40 3 = s 40 3) (e : ∀ x, 43 ≤ x → x ≤ 222 → s' x = s x) (f0 : s' 344 26 = s 344 26) (f1 : s' 356 = s 356) (f2 : s' 354 = s 354) : zgE bB s' n m := by
  obtain ⟨a, b⟩ := H
  have hw : ∀ j, zwj s' j = zwj s j := fun j => by
    unfold zwj
    rw [f1, f2]
  refine ⟨by rw [e2, e3, f0]; exact a, fun j hj => ?_⟩
  rw [f0] at hj
  have := b j hj
  have r := zix_r (nx := s 40 2) (u := s 344 26) (j := j)
  rw [hw, e2, f0, f2]
  exact ⟨zRF_c this.1 (fun x x1 x2 => e x (by omega) (by omega)), zRL_c this.2.1 (fun x x1 x2 => e x (by omega) (by omega)), this.2.2⟩
/-- no acts: nothing to hold -/
theorem zgE_0 (h3 : s 40 3 = 0) (h4 : s 344 26 = 0) (h2 : 0 ≤ s 40 2 ∧ s 40 2 ≤ 19) : zgE bB s n m := ⟨⟨by rw [h3, h4], by rw [h4]; decide, by rw [h4]; decide, h2⟩, fun j hj => by
  rw [h4] at hj
  omega⟩
theorem zgF_c (H : zgF bB s) (e0 : s 7 8 ≤ s' 7 8) (e : ∀ x, 264 ≤ x → x ≤ 343 → s' x = s x) (f : ∀ x, 360 ≤ x → x ≤ 363 → s' x = s x) : zgF bB s' := by
  intro k hk
  have hi : ∀ k, zim s' k = zim s k := fun k => by
    unfold zim
    rw [f 360 (by decide) (by decide)]
  obtain ⟨a, b⟩ := H k hk
  rw [e (264 + 20 * ((k : Nat) : Int)) (by omega) (by omega), f 361 (by decide) (by decide), f 362 (by decide) (by decide), f 363 (by decide) (by decide), hi]
  refine ⟨a, fun hm => ?_⟩
  obtain ⟨⟨b1, b2, b3⟩, b4, n, m, b5, b6⟩ := b hm
  exact ⟨⟨b1, b2, Int.lt_of_lt_of_le b3 e0⟩, b4, n, m, zRS_c b5 (fun x x1 x2 => e x (by omega) (by omega)) (by rw [e (264 + 20 * ((k : Nat) : Int)) (by omega) (by omega)]), b6⟩
theorem zGs_mo {b b' : Int} (h : b ≤ b') (H : zGs b σ n m) : zGs b' σ n m := by
  obtain ⟨⟨g1, g2, g3, g4, g5, g6, g7, g8, g9, g10⟩, gp⟩ := H
  exact ⟨⟨g1, g2, g3, g4, g5, g6, g7, g8, g9, Int.le_trans g10 h⟩, gp⟩
theorem zRZ_mo {b b' : Int} (h : b ≤ b') (H : zRZ b s) : zRZ b' s := by
  obtain ⟨A, B, C, ⟨n, m, ⟨D, g, D'⟩, E1, E2⟩, I⟩ := H
  exact ⟨A, B, C, ⟨n, m, ⟨D, zGs_mo h g, D'⟩, E1, fun j hj => ⟨(E2 j hj).1, (E2 j hj).2.1, zGs_mo h (E2 j hj).2.2.1, (E2 j hj).2.2.2⟩⟩, fun k hk => ⟨(I k hk).1, fun q => by
    obtain ⟨a, b, n, m, c, d, e⟩ := (I k hk).2 q
    exact ⟨a, b, n, m, c, zGs_mo h d, e⟩⟩⟩
end HR
