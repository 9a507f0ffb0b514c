/-! sets by size and then as numbers -/
/-- a set's place in that order -/
def zky (w : Nat) : Int := 128 * zbc ((w : Nat) : Int) + ((w : Nat) : Int)
/-- one set lies in another, as both programs ask it -/
abbrev zsb (w : Nat) (c : Int) : Prop := zand ((w : Nat) : Int) (zxor c (-1)) = 0
/-- v is the first set in that order, of those below k, that lies in c and that P holds of; -2 without -/
def zBs (P : Nat → Prop) (c : Int) (k : Nat) (v : Int) : Prop := (v = -2 ∧ ∀ w : Nat, w < k → zsb w c → ¬ P w) ∨ ∃ u : Nat, u < k ∧ v = ((u : Nat) : Int) ∧ zsb u c ∧ P u ∧ ∀ w : Nat, w < k → zsb w c → P w → zky u ≤ zky w
/-- ahead of that set in the order -/
abbrev zkq (u w : Nat) : Prop := zky w < zky u
/-- how many are ahead of it -/
def zrk (u : Nat) : Int := zct (zkq u) 128
/-- a search in that order stands at u behind i others -/
def zCi (P : Nat → Prop) (c : Int) (u i : Nat) : Prop := u < 128 ∧ zsb u c ∧ (∀ w : Nat, w < 128 → zsb w c → zky w < zky u → ¬ P w) ∧ ((i : Nat) : Int) ≤ zrk u
/-- r is the set behind u; -1 without -/
def zNx (c : Int) (u : Nat) (r : Int) : Prop := (r = -1 ∧ ∀ w : Nat, w < 128 → zsb w c → zky w ≤ zky u) ∨ ∃ v : Nat, v < 128 ∧ r = ((v : Nat) : Int) ∧ zsb v c ∧ zky u < zky v ∧ ∀ w : Nat, w < 128 → zsb w c → zky u < zky w → zky v ≤ zky w
section ML
variable {P : Nat → Prop} {c v v' : Int} {k u i : Nat}
theorem zlt_ne {a b : Int} (h : a ≤ b) (h' : a ≠ b) : a < b := by omega
theorem zbc_r (x : Int) : 0 ≤ zbc x ∧ zbc x ≤ 7 := zct_r (P := fun k => zbt x ((k : Nat) : Int) = 1) 7
theorem zky_lt {u w : Nat} (hu : u < 128) (hw : w < 128) : zky u < zky w ↔ (zbc ((u : Nat) : Int) < zbc ((w : Nat) : Int) ∨ (zbc ((u : Nat) : Int) = zbc ((w : Nat) : Int) ∧ u < w)) := by
  unfold zky
  constructor
  · intro h
    omega
  · intro h
    omega
theorem zky_le {u w : Nat} (hu : u < 128) (hw : w < 128) : zky u ≤ zky w ↔ (zbc ((u : Nat) : Int) < zbc ((w : Nat) : Int) ∨ (zbc ((u : Nat) : Int) = zbc ((w : Nat) : Int) ∧ u ≤ w)) := by
  unfold zky
  constructor
  · intro h
    omega
  · intro h
    omega
theorem zky_in {u w : Nat} (hu : u < 128) (hw : w < 128) (h : zky u = zky w) : u = w := by
  unfold zky at h
  omega
theorem zBs_0 : zBs P c 0 (-2) := Or.inl ⟨rfl, fun w hw => absurd hw (Nat.not_lt_zero w)⟩
theorem zBs_no (h : zBs P c k v) (hn : zsb k c → ¬ P k) : zBs P c (k + 1) v := by
  rcases h with ⟨h1, h2⟩ | ⟨u, a, b, d, e, f⟩
  · refine Or.inl ⟨h1, fun w hw s => ?_⟩
    by_cases we : w = k
    · rw [we] at s ⊢
      exact hn s
    · exact h2 w (Nat.lt_of_le_of_ne (Nat.le_of_lt_succ hw) we) s
  · refine Or.inr ⟨u, Nat.lt_succ_of_lt a, b, d, e, fun w hw s q => ?_⟩
    by_cases we : w = k
    · rw [we] at s q
      exact absurd q (hn s)
    · exact f w (Nat.lt_of_le_of_ne (Nat.le_of_lt_succ hw) we) s q
theorem zBs_hi (h : zBs P c k v) (hk : k < 128) (hv : ¬ v < 0) (hb : ¬ zbc ((k : Nat) : Int) < zbc v) : zBs P c (k + 1) v := by
  rcases h with ⟨h1, h2⟩ | ⟨u, a, b, d, e, f⟩
  · exact absurd (by rw [h1]; decide) hv
  · refine Or.inr ⟨u, Nat.lt_succ_of_lt a, b, d, e, fun w hw s q => ?_⟩
    by_cases we : w = k
    · rw [we]
      rw [b] at hb
      refine (zky_le (Nat.lt_trans a hk) hk).mpr ?_
      clear f s q
      omega
    · exact f w (Nat.lt_of_le_of_ne (Nat.le_of_lt_succ hw) we) s q
theorem zBs_yes (h : zBs P c k v) (hk : k < 128) (hs : zsb k c) (hp : P k) (hb : v < 0 ∨ zbc ((k : Nat) : Int) < zbc v) : zBs P c (k + 1) ((k : Nat) : Int) := by
  refine Or.inr ⟨k, Nat.lt_succ_self k, rfl, hs, hp, fun w hw s q => ?_⟩
  by_cases we : w = k
  · rw [we]
    exact Int.le_refl _
  · have wk := Nat.lt_of_le_of_ne (Nat.le_of_lt_succ hw) we
    rcases h with ⟨h1, h2⟩ | ⟨u, a, b, d, e, f⟩
    · exact absurd q (h2 w wk s)
    · have h3 := f w wk s q
      have h4 : zky k < zky u := by
        refine (zky_lt hk (Nat.lt_trans a hk)).mpr (Or.inl ?_)
        rcases hb with z | z
        · exfalso
          clear f h3 s q
          omega
        · rw [← b]
          exact z
      exact Int.le_trans (Int.le_of_lt h4) h3
theorem zBs_end (h : zBs P c k v) (hk : k ≤ 128) (hc : ∀ w : Nat, w < 128 → zsb w c → w < k) : zBs P c 128 v := by
  rcases h with ⟨h1, h2⟩ | ⟨u, a, b, d, e, f⟩
  · exact Or.inl ⟨h1, fun w hw s => h2 w (hc w hw s) s⟩
  · exact Or.inr ⟨u, Nat.lt_of_lt_of_le a hk, b, d, e, fun w hw s q => f w (hc w hw s) s q⟩
theorem zBs_un (h : zBs P c 128 v) (h' : zBs P c 128 v') : v = v' := by
  rcases h with ⟨h1, h2⟩ | ⟨u, a, b, d, e, f⟩
  · rcases h' with ⟨h1', h2'⟩ | ⟨u', a', b', d', e', f'⟩
    · rw [h1, h1']
    · exact absurd e' (h2 u' a' d')
  · rcases h' with ⟨h1', h2'⟩ | ⟨u', a', b', d', e', f'⟩
    · exact absurd e (h2' u a d)
    · rw [b, b', zky_in a a' (Int.le_antisymm (f u' a' d' e') (f' u a d e))]
theorem zBs_c {c' : Int} (hc : ∀ w : Nat, w < 128 → (zsb w c ↔ zsb w c')) (h : zBs P c 128 v) : zBs P c' 128 v := by
  rcases h with ⟨h1, h2⟩ | ⟨u, a, b, d, e, f⟩
  · exact Or.inl ⟨h1, fun w hw s => h2 w hw ((hc w hw).mpr s)⟩
  · exact Or.inr ⟨u, a, b, (hc u a).mp d, e, fun w hw s q => f w hw ((hc w hw).mpr s) q⟩
theorem zBs_P {Q : Nat → Prop} (hc : ∀ w : Nat, w < 128 → (P w ↔ Q w)) (h : zBs P c 128 v) : zBs Q c 128 v := by
  rcases h with ⟨h1, h2⟩ | ⟨u, a, b, d, e, f⟩
  · exact Or.inl ⟨h1, fun w hw s q => h2 w hw s ((hc w hw).mpr q)⟩
  · exact Or.inr ⟨u, a, b, d, (hc u a).mp e, fun w hw s q => f w hw s ((hc w hw).mpr q)⟩
/-- with a set go those of its parts that do as well -/
theorem zBs_d {c' : Int} (h : zBs P c 128 v) (hc : ∀ w : Nat, w < 128 → zsb w c' → zsb w c) (hd : ∀ w : Nat, w < 128 → zsb w c → P w → ∃ w' : Nat, w' < 128 ∧ zsb w' c' ∧ P w' ∧ zky w' ≤ zky w) : zBs P c' 128 v := by
  rcases h with ⟨h1, h2⟩ | ⟨u, a, b, d, e, f⟩
  · exact Or.inl ⟨h1, fun w hw s => h2 w hw (hc w hw s)⟩
  · obtain ⟨w', x1, x2, x3, x4⟩ := hd u a d e
    have ee := zky_in a x1 (Int.le_antisymm (f w' x1 (hc w' x1 x2) x3) x4)
    exact Or.inr ⟨u, a, b, by rw [ee]; exact x2, e, fun w hw s q => f w hw (hc w hw s) q⟩
theorem zsb_all : ∀ a b : Fin 128, zand ((a.val : Nat) : Int) (zxor ((b.val : Nat) : Int) (-1)) = 0 → a.val ≤ b.val := by decide +kernel
theorem zsb_le {w b : Nat} (hw : w < 128) (hb : b < 128) (h : zsb w ((b : Nat) : Int)) : w ≤ b := zsb_all ⟨w, hw⟩ ⟨b, hb⟩ h
theorem zrep_all : ∀ w : Fin 128, ((w.val : Nat) : Int) = zfs (fun k => zbt ((w.val : Nat) : Int) ((k : Nat) : Int) = 1) 7 := by decide +kernel
/-- by their members -/
theorem zsb_b {w : Nat} (hw : w < 128) : zsb w c ↔ ∀ p : Nat, p < 7 → zbt ((w : Nat) : Int) ((p : Nat) : Int) = 1 → zbt c ((p : Nat) : Int) = 1 := by
  have r : ((w : Nat) : Int) = zfs (fun k => zbt ((w : Nat) : Int) ((k : Nat) : Int) = 1) 7 := zrep_all ⟨w, hw⟩
  have e0 : zand ((w : Nat) : Int) (zxor c (-1)) = zand (zfs (fun k => zbt ((w : Nat) : Int) ((k : Nat) : Int) = 1) 7) (zxor c (-1)) := congrArg (fun v => zand v (zxor c (-1))) r
  have e1 : zand (zfs (fun k => zbt ((w : Nat) : Int) ((k : Nat) : Int) = 1) 7) (zxor c (-1)) = zfs (fun p => zbt ((w : Nat) : Int) ((p : Nat) : Int) = 1 ∧ ¬ zbt c ((p : Nat) : Int) = 1) 7 := zfo_and 7 (by decide) (fun p hp => by
    have z := zbt_not (X := c) (p := p) (by omega)
    exact ⟨fun q => ⟨q.1, z.mpr q.2⟩, fun q => ⟨q.1, z.mp q.2⟩⟩)
  have z := zfo_z (P := fun p => zbt ((w : Nat) : Int) ((p : Nat) : Int) = 1 ∧ ¬ zbt c ((p : Nat) : Int) = 1) (n := 7) (by decide)
  constructor
  · intro h p hp q
    by_cases d : zbt c ((p : Nat) : Int) = 1
    · exact d
    · exact absurd ⟨q, d⟩ (z.mp ((e0.trans e1).symm.trans h) p hp)
  · intro h
    exact (e0.trans e1).trans (z.mpr (fun p hp q => q.2 (h p hp q.1)))
theorem zct_m {P Q : Nat → Prop} [DecidablePred P] [DecidablePred Q] : ∀ n : Nat, (∀ k, k < n → P k → Q k) → zct P n ≤ zct Q n
  | 0, _ => Int.le_refl 0
  | n + 1, h => by
    have ih := zct_m (P := P) (Q := Q) n (fun k hk => h k (Nat.lt_succ_of_lt hk))
    show zct P n + (if P n then 1 else 0) ≤ zct Q n + (if Q n then 1 else 0)
    by_cases p : P n
    · rw [if_pos p, if_pos (h n (Nat.lt_succ_self n) p)]
      omega
    · rw [if_neg p]
      by_cases q : Q n
      · rw [if_pos q]
        omega
      · rw [if_neg q]
        omega
theorem zct_lt {P Q : Nat → Prop} [DecidablePred P] [DecidablePred Q] {j : Nat} : ∀ n : Nat, (∀ k, k < n → P k → Q k) → j < n → Q j → ¬ P j → zct P n + 1 ≤ zct Q n
  | 0, _, hj, _, _ => absurd hj (Nat.not_lt_zero j)
  | n + 1, h, hj, a, b => by
    have hm := zct_m (P := P) (Q := Q) n (fun k hk => h k (Nat.lt_succ_of_lt hk))
    show zct P n + (if P n then 1 else 0) + 1 ≤ zct Q n + (if Q n then 1 else 0)
    by_cases je : j = n
    · rw [je] at a b
      rw [if_neg b, if_pos a]
      omega
    · have ih := zct_lt (P := P) (Q := Q) n (fun k hk => h k (Nat.lt_succ_of_lt hk)) (Nat.lt_of_le_of_ne (Nat.le_of_lt_succ hj) je) a b
      by_cases p : P n
      · rw [if_pos p, if_pos (h n (Nat.lt_succ_self n) p)]
        omega
      · rw [if_neg p]
        by_cases q : Q n
        · rw [if_pos q]
          omega
        · rw [if_neg q]
          omega
theorem zrk_lt {v : Nat} (hu : u < 128) (h : zky u < zky v) : zrk u + 1 ≤ zrk v := by
  unfold zrk
  exact zct_lt (P := zkq u) (Q := zkq v) (j := u) 128 (fun k _ q => Int.lt_trans q h) hu h (Int.lt_irrefl _)
theorem zrk_r (hu : u < 128) : 0 ≤ zrk u ∧ zrk u ≤ 127 := by
  have a := zct_r (P := zkq u) 128
  have b := zct_r (P := fun _ : Nat => True) 128
  have d := zct_lt (P := zkq u) (Q := fun _ : Nat => True) (j := u) 128 (fun _ _ _ => trivial) hu trivial (Int.lt_irrefl _)
  unfold zrk
  omega
theorem zCi_0 : zCi P c 0 0 := by
  refine ⟨by decide, zand_0l _, fun w hw s q => ?_, (zrk_r (by decide)).1⟩
  exfalso
  have a := (zbc_r ((w : Nat) : Int)).1
  have b : zky 0 = 0 := by decide
  rw [b] at q
  unfold zky at q
  omega
theorem zCi_i (H : zCi P c u i) : i ≤ 127 := by
  have a := (zrk_r H.1).2
  have b := H.2.2.2
  omega
theorem zCi_p (H : zCi P c u i) (hp : P u) : zBs P c 128 ((u : Nat) : Int) := by
  obtain ⟨h0, h1, h2, -⟩ := H
  refine Or.inr ⟨u, h0, rfl, h1, hp, fun w hw s q => ?_⟩
  by_cases l : zky w < zky u
  · exact absurd q (h2 w hw s l)
  · exact Int.not_lt.mp l
theorem zCi_s {v : Nat} (H : zCi P c u i) (hn : ¬ P u) (hv : v < 128) (h : zsb v c) (hl : zky u < zky v) (hm : ∀ w : Nat, w < 128 → zsb w c → zky u < zky w → zky v ≤ zky w) : zCi P c v (i + 1) := by
  obtain ⟨h0, h1, h2, h3⟩ := H
  refine ⟨hv, h, fun w hw s q p => ?_, ?_⟩
  · by_cases l : zky w < zky u
    · exact h2 w hw s l p
    · by_cases e : zky u = zky w
      · have e2 := zky_in h0 hw e
        rw [← e2] at p
        exact hn p
      · have lt : zky u < zky w := zlt_ne (Int.not_lt.mp l) e
        exact absurd q (Int.not_lt.mpr (hm w hw s lt))
  · have a := zrk_lt h0 hl
    clear h2 hm
    omega
theorem zCi_e (H : zCi P c u i) (hn : ¬ P u) (hm : ∀ w : Nat, w < 128 → zsb w c → zky w ≤ zky u) : zBs P c 128 (-2) := by
  obtain ⟨h0, h1, h2, -⟩ := H
  refine Or.inl ⟨rfl, fun w hw s p => ?_⟩
  by_cases l : zky w < zky u
  · exact h2 w hw s l p
  · have e := zky_in hw h0 (Int.le_antisymm (hm w hw s) (Int.not_lt.mp l))
    rw [e] at p
    exact hn p
end ML
