/-! how many answer alike -/
/-- how many of the first N answer as the k-th does, the most of the first k -/
def zak (v : Nat → Int) (N : Nat) : Nat → Int
  | 0 => 0
  | k + 1 => if zak v N k < zct (fun b => v b = v k) N then zct (fun b => v b = v k) N else zak v N k
/-- the same, counted as they come -/
def zmkk (v : Nat → Int) : Nat → Int
  | 0 => 0
  | i + 1 => if zmkk v i < zct (fun b => v b = v i) (i + 1) then zct (fun b => v b = v i) (i + 1) else zmkk v i
section NJ
variable {v w : Nat → Int} {N : Nat}
theorem zmkk_x : ∀ (i : Nat) (x : Int), zct (fun b => v b = x) i ≤ zmkk v i
  | 0, _ => Int.le_refl 0
  | i + 1, x => by
    have ih := zmkk_x i x
    have e : zmkk v (i + 1) = if zmkk v i < zct (fun b => v b = v i) (i + 1) then zct (fun b => v b = v i) (i + 1) else zmkk v i := rfl
    rw [e]
    by_cases c : v i = x
    · rw [← c]
      by_cases d : zmkk v i < zct (fun b => v b = v i) (i + 1)
      · rw [if_pos d]
        exact Int.le_refl _
      · rw [if_neg d]
        exact Int.not_lt.mp d
    · have z : zct (fun b => v b = x) (i + 1) = zct (fun b => v b = x) i := by
        show zct (fun b => v b = x) i + (if v i = x then 1 else 0) = _
        rw [if_neg c]
        exact Int.add_zero _
      rw [z]
      by_cases d : zmkk v i < zct (fun b => v b = v i) (i + 1)
      · rw [if_pos d]
        exact Int.le_trans ih (Int.le_of_lt d)
      · rw [if_neg d]
        exact ih
theorem zct_u {P : Nat → Prop} [DecidablePred P] : ∀ (k i : Nat), zct P i ≤ zct P (i + k)
  | 0, _ => Int.le_refl _
  | k + 1, i => by
    have ih := zct_u (P := P) k i
    show zct P i ≤ zct P (i + k) + (if P (i + k) then 1 else 0)
    by_cases c : P (i + k)
    · rw [if_pos c]
      omega
    · rw [if_neg c]
      omega
theorem zak_0 : ∀ k : Nat, 0 ≤ zak v N k
  | 0 => Int.le_refl 0
  | k + 1 => by
    have ih := zak_0 k
    show 0 ≤ if zak v N k < zct (fun b => v b = v k) N then zct (fun b => v b = v k) N else zak v N k
    by_cases c : zak v N k < zct (fun b => v b = v k) N
    · rw [if_pos c]
      omega
    · rw [if_neg c]
      exact ih
theorem zak_u : ∀ (k j : Nat), j < k → zct (fun b => v b = v j) N ≤ zak v N k
  | 0, j, hj => absurd hj (Nat.not_lt_zero j)
  | k + 1, j, hj => by
    show zct (fun b => v b = v j) N ≤ if zak v N k < zct (fun b => v b = v k) N then zct (fun b => v b = v k) N else zak v N k
    by_cases e : j = k
    · rw [e]
      by_cases c : zak v N k < zct (fun b => v b = v k) N
      · rw [if_pos c]
        exact Int.le_refl _
      · rw [if_neg c]
        exact Int.not_lt.mp c
    · have ih := zak_u k j (Nat.lt_of_le_of_ne (Nat.le_of_lt_succ hj) e)
      by_cases c : zak v N k < zct (fun b => v b = v k) N
      · rw [if_pos c]
        exact Int.le_trans ih (Int.le_of_lt c)
      · rw [if_neg c]
        exact ih
theorem zak_le (x : Int) (x0 : 0 ≤ x) : ∀ k : Nat, (∀ j : Nat, j < k → zct (fun b => v b = v j) N ≤ x) → zak v N k ≤ x
  | 0, _ => x0
  | k + 1, h => by
    have ih := zak_le x x0 k (fun j hj => h j (Nat.lt_succ_of_lt hj))
    show (if zak v N k < zct (fun b => v b = v k) N then zct (fun b => v b = v k) N else zak v N k) ≤ x
    by_cases c : zak v N k < zct (fun b => v b = v k) N
    · rw [if_pos c]
      exact h k (Nat.lt_succ_self k)
    · rw [if_neg c]
      exact ih
theorem zmkk_le (x : Int) (x0 : 0 ≤ x) : ∀ k : Nat, k ≤ N → (∀ j : Nat, j < N → zct (fun b => v b = v j) N ≤ x) → zmkk v k ≤ x
  | 0, _, _ => x0
  | k + 1, hk, h => by
    have ih := zmkk_le x x0 k (Nat.le_of_succ_le hk) h
    show (if zmkk v k < zct (fun b => v b = v k) (k + 1) then zct (fun b => v b = v k) (k + 1) else zmkk v k) ≤ x
    by_cases c : zmkk v k < zct (fun b => v b = v k) (k + 1)
    · rw [if_pos c]
      have z := zct_u (P := fun b => v b = v k) (N - (k + 1)) (k + 1)
      rw [Nat.add_sub_cancel' hk] at z
      exact Int.le_trans z (h k hk)
    · rw [if_neg c]
      exact ih
/-- the same number -/
theorem zak_mk : zak v N N = zmkk v N := by
  have z0 : 0 ≤ zmkk v N := Int.le_trans (zct_r (P := fun b => v b = v 0) N).1 (zmkk_x N (v 0))
  exact Int.le_antisymm (zak_le _ z0 N (fun j _ => zmkk_x N (v j))) (zmkk_le _ (zak_0 N) N (Nat.le_refl N) (fun j hj => zak_u N j hj))
theorem zct_lw {P Q : Nat → Prop} [DecidablePred P] [DecidablePred Q] (h : ∀ b, P b ↔ Q b) (i : Nat) : zct P i = zct Q i := zct_congr i (fun k _ => h k)
theorem zmkk_c : ∀ k : Nat, (∀ j, j < k → v j = w j) → zmkk v k = zmkk w k
  | 0, _ => rfl
  | k + 1, h => by
    have ih := zmkk_c k (fun j hj => h j (Nat.lt_succ_of_lt hj))
    have e : zct (fun b => v b = v k) (k + 1) = zct (fun b => w b = w k) (k + 1) := zct_congr (k + 1) (fun j hj => by
      rw [h j hj, h k (Nat.lt_succ_self k)])
    show (if zmkk v k < zct (fun b => v b = v k) (k + 1) then zct (fun b => v b = v k) (k + 1) else zmkk v k) = (if zmkk w k < zct (fun b => w b = w k) (k + 1) then zct (fun b => w b = w k) (k + 1) else zmkk w k)
    rw [ih, e]
theorem zmkk_p : ∀ k : Nat, k ≠ 0 → 1 ≤ zmkk v k
  | 0, h => absurd rfl h
  | k + 1, _ => by
    have z := zmkk_x (v := v) (k + 1) (v k)
    have p := zct_pos (P := fun b => v b = v k) (k + 1) (Nat.lt_succ_self k) rfl
    exact Int.le_trans p z
end NJ
/-! the class's tally -/
/-- where an answer is tallied -/
def zpl (x : Int) : Int := if x = -1000 then 0 else x + 55
section NK
variable {n : Nat} {t : zS} {A : Nat × Nat → Nat → Int} {L : List (Nat × Nat)} {p : Nat}
theorem zpl_r {x : Int} (h : x = -1000 ∨ (-54 ≤ x ∧ x ≤ 54)) : 0 ≤ zpl x ∧ zpl x < 110 := by
  unfold zpl
  by_cases c : x = -1000
  · rw [if_pos c]
    omega
  · rw [if_neg c]
    omega
theorem zpl_i {x y : Int} (h : x = -1000 ∨ (-54 ≤ x ∧ x ≤ 54)) (h' : y = -1000 ∨ (-54 ≤ y ∧ y ≤ 54)) : zpl x = zpl y ↔ x = y := by
  unfold zpl
  by_cases c : x = -1000
  · rw [if_pos c]
    by_cases d : y = -1000
    · rw [if_pos d, c, d]
      exact ⟨fun _ => rfl, fun _ => rfl⟩
    · rw [if_neg d]
      omega
  · rw [if_neg c]
    by_cases d : y = -1000
    · rw [if_pos d]
      omega
    · rw [if_neg d]
      omega
theorem zlen_236 : zw (zlen (224 + 12)) = 110 := by decide +kernel
theorem zB_53 {G : Nat} {R : Int × zS} (hn : n ≤ 7) (hp : p < n) (hC : zCL A n t L) (hl : L.length ≤ 287) (hv : ∀ i : Nat, i < L.length → A (znt L i) p = -1000 ∨ (-54 ≤ A (znt L i) p ∧ A (znt L i) p ≤ 54)) (e0 : zG G xm_c53 0 [224, ((p : Nat) : Int), 0, 0, 0, 0] [] t R) : R.1 = zmkk (fun i => A (znt L i) p) L.length ∧ ∀ x, x ≠ 236 → R.2 x = t x := by
  obtain ⟨C1, C2, C3⟩ := hC
  have loop : ∀ (G i : Nat) (x4 x5 : Int) (u : zS) (R : Int × zS), i ≤ L.length → (∀ x, x ≠ 236 → u x = t x) → (∀ y : Int, 0 ≤ y → y < 110 → u 236 y = zct (fun b => zpl (A (znt L b) p) = y) i) → zG G xm_c53 8 [224, ((p : Nat) : Int), zmkk (fun i => A (znt L i) p) i, ((i : Nat) : Int), x4, x5] [] u R → R.1 = zmkk (fun i => A (znt L i) p) L.length ∧ ∀ x, x ≠ 236 → R.2 x = t x := by
    intro G
    induction G using Nat.strongRecOn with
    | _ G ih =>
      intro i x4 x5 u R hi uo ut e0
      have u8 : u 224 8 = ((L.length : Nat) : Int) := by
        rw [uo 224 (by decide)]
        exact C1
      obtain ⟨F1, l1, ⟨c1, e1⟩ | ⟨c1, e1⟩⟩ := zi_53_8 e0
      · rw [u8] at c1
        have iL := Int.ofNat_lt.mp c1
        have i287 : ((i : Nat) : Int) < 287 := by
          clear ih uo ut C2 C3 hv
          omega
        have en : zw (((i : Nat) : Int) + 1) = ((i + 1 : Nat) : Int) := by
          clear ih uo ut C2 C3 hv
          exact zw_id (by omega) (by omega)
        have ei : zw (zw (((i : Nat) : Int) * 7) + ((p : Nat) : Int)) = ((i : Nat) : Int) * 7 + ((p : Nat) : Int) := by
          clear ih uo ut C2 C3 hv
          rw [zw_id (x := ((i : Nat) : Int) * 7) (by omega) (by omega), zw_id (by omega) (by omega)]
        have ev : u (224 + 11) (((i : Nat) : Int) * 7 + ((p : Nat) : Int)) = A (znt L i) p := by
          show u 235 _ = _
          rw [uo 235 (by decide)]
          exact C3 i p iL hp
        have av := hv i iL
        have pr := zpl_r av
        obtain ⟨F2, l2, ⟨c2, e2⟩ | ⟨c2, e2⟩⟩ := zi_53_12 e1
        · -- the place it is tallied at
          have at37 : ∃ F4 x4', F4 < G ∧ zG F4 xm_c53 37 [224, ((p : Nat) : Int), zmkk (fun i => A (znt L i) p) i, ((i : Nat) : Int), x4', zpl (A (znt L i) p)] [] u R := by
            have e2 := zi_53_15 e2
            rw [ei, ev] at e2
            unfold zpl at pr ⊢
            obtain ⟨F3, l3, ⟨c3, e3⟩ | ⟨c3, e3⟩⟩ := e2
            · rw [if_pos c3]
              obtain ⟨F4, l4, ⟨c4, e4⟩ | ⟨c4, e4⟩⟩ := zi_53_27 e3
              · exact absurd c4 (by decide)
              · exact ⟨F4, _, Nat.lt_trans l4 (Nat.lt_trans l3 (Nat.lt_trans l2 l1)), e4⟩
            · rw [if_neg c3] at pr ⊢
              have ew : zw (zw (A (znt L i) p + 54) + 1) = A (znt L i) p + 55 := by
                clear ih uo ut C2 C3 hv e3
                rw [zw_id (x := A (znt L i) p + 54) (by omega) (by omega), zw_id (by omega) (by omega)]
                omega
              have e3 := zi_53_29 e3
              rw [ew] at e3
              obtain ⟨F4, l4, ⟨c4, e4⟩ | ⟨c4, e4⟩⟩ := e3
              · exact absurd pr.1 (Int.not_le.mpr c4)
              · exact ⟨F4, _, Nat.lt_trans l4 (Nat.lt_trans l3 (Nat.lt_trans l2 l1)), e4⟩
          obtain ⟨F4, x4', l4, e4⟩ := at37
          obtain ⟨F5, l5, e5⟩ := zi_53_37 e4
          obtain ⟨F6, l6, e6⟩ := zi_53_40 e5
          rw [zlen_236] at e6
          obtain ⟨F7, l7, ⟨c7, e7⟩ | ⟨c7, e7⟩⟩ := zi_53_41 e6
          · obtain ⟨F8, l8, e8⟩ := zi_53_42 e7
            have u9 : u (224 + 12) (zpl (A (znt L i) p)) = zct (fun b => zpl (A (znt L b) p) = zpl (A (znt L i) p)) i := ut _ pr.1 pr.2
            have cc : zct (fun b => zpl (A (znt L b) p) = zpl (A (znt L i) p)) i = zct (fun b => A (znt L b) p = A (znt L i) p) i := zct_congr i (fun b hb => zpl_i (hv b (Nat.lt_trans hb iL)) av)
            have cr := zct_r (P := fun b => A (znt L b) p = A (znt L i) p) i
            have cs : zct (fun b => A (znt L b) p = A (znt L i) p) (i + 1) = zct (fun b => A (znt L b) p = A (znt L i) p) i + 1 := by
              show zct (fun b => A (znt L b) p = A (znt L i) p) i + (if A (znt L i) p = A (znt L i) p then 1 else 0) = _
              rw [if_pos rfl]
            have ew : zw (u (224 + 12) (zpl (A (znt L i) p)) + 1) = zct (fun b => A (znt L b) p = A (znt L i) p) (i + 1) := by
              rw [u9, cc, cs]
              clear ih uo ut C2 C3 hv e8 u9 cc cs
              exact zw_id (by omega) (by omega)
            rw [ew, zu_hit, en] at e8
            have eS : zmkk (fun i => A (znt L i) p) (i + 1) = if zmkk (fun i => A (znt L i) p) i < zct (fun b => A (znt L b) p = A (znt L i) p) (i + 1) then zct (fun b => A (znt L b) p = A (znt L i) p) (i + 1) else zmkk (fun i => A (znt L i) p) i := rfl
            rw [← eS] at e8
            refine ih F8 (Nat.lt_trans l8 (Nat.lt_trans l7 (Nat.lt_trans l6 (Nat.lt_trans l5 l4)))) (i + 1) _ _ _ R iL (fun x hx => ?_) (fun y y0 y1 => ?_) e8
            · rw [← uo x hx]
              exact funext (fun y => zu_cell hx)
            · show zu u 236 (zpl (A (znt L i) p)) _ 236 y = zct (fun b => zpl (A (znt L b) p) = y) i + (if zpl (A (znt L i) p) = y then 1 else 0)
              rw [zu2]
              by_cases c : y = zpl (A (znt L i) p)
              · rw [if_pos c, if_pos c.symm, c, cs, cc]
              · rw [if_neg c, if_neg (fun q => c q.symm), Int.add_zero]
                exact ut y y0 y1
          · exact absurd pr.2 c7
        · exact absurd i287 c2
      · rw [u8] at c1
        have iL : i = L.length := Nat.le_antisymm hi (Nat.not_lt.mp (fun q => c1 (Int.ofNat_lt.mpr q)))
        rw [zi_53_59 e1, iL]
        exact ⟨rfl, uo⟩
  obtain ⟨F1, l1, r1, s1, q1, e1⟩ := zi_53_0 e0
  obtain ⟨s', a1, a2, a3⟩ := zo_fill (j := 224 + 12) (v := 0) (s := t) (by decide) zlen_236 (by decide)
  obtain ⟨rfl, rfl⟩ := zdet q1 a1
  obtain ⟨F2, l2, e2⟩ := zi_53_6 e1
  exact loop F2 0 _ _ s' R (Nat.zero_le _) (fun x hx => funext (fun y => a2 x y hx)) (fun y y0 y1 => a3 y y0 y1) e2
end NK
