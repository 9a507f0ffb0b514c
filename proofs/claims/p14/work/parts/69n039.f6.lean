/-! errands and flights of one person, in the reference -/
theorem zu2 {s : zS} {j i x b : Int} : zu s j i x j b = if b = i then x else s j b := by
  by_cases h : b = i
  · rw [if_pos h, h, zu_hit]
  · rw [if_neg h, zu_place h]
/-- the floor of the last told errand of a person at a bell -/
def zerr (σ : Int → Int) (p b : Int) : Nat → Int
  | 0 => -1
  | k + 1 => if σ (87 + 3 * ((k : Nat) : Int)) = p ∧ σ (87 + 3 * ((k : Nat) : Int) + 2) = b then σ (87 + 3 * ((k : Nat) : Int) + 1) else zerr σ p b k
/-- a person's flight: floor, goal, what is left, pace -/
def zwA (a g l : Int) : Int := if 0 < zw (l - 1) then a else if a < g then zw (a + 1) else zw (a + (-1))
def zwL (a g l c : Int) : Int := if 0 < zw (l - 1) then zw (l - 1) else if zwA a g l = g then zw (l - 1) else c
/-- three places of a person anew -/
def zup (τ : Int → Int) (p a g l : Int) : Int → Int := fun k => if k = 10 + 11 * p then a else if k = 10 + 11 * p + 1 then g else if k = 10 + 11 * p + 2 then l else τ k
/-- but what is told and who stands on a landing all is as it was -/
def zWk (t t' : zS) : Prop := (∀ x, x ≠ 354 → x ≠ 344 → t' x = t x) ∧ ∀ y, y ≠ 23 → t' 344 y = t 344 y
theorem zWk_r {t : zS} : zWk t t := ⟨fun _ _ _ => rfl, fun _ _ => rfl⟩
theorem zWk_t {s s1 s2 : zS} (h : zWk s s1) (h' : zWk s1 s2) : zWk s s2 := ⟨fun x a b => (h'.1 x a b).trans (h.1 x a b), fun y a => (h'.2 y a).trans (h.2 y a)⟩
theorem zWk_u {t : zS} {i v : Int} : zWk t (zu t 354 i v) := ⟨fun x a _ => funext (fun y => zu_cell a), fun y _ => zu_cell (by decide)⟩
theorem zWk_v {t : zS} {v : Int} : zWk t (zu t 344 23 v) := ⟨fun x _ b => funext (fun y => zu_cell b), fun y a => zu_place a⟩
section FW
variable {s t : zS} {σ τ : Int → Int} {p b f L : Int} {n m : Nat}
theorem zr_errand (hs : s 354 = σ) (hm : σ 2 = ((m : Nat) : Int)) (h10 : m ≤ 10) : zE xm_c188 [344, p, b, 0, 0] s (zerr σ p b m) s := by
  have loop : ∀ (k i : Nat), i + k = m → zA xm_c188 4 [344, p, b, zerr σ p b i, ((i : Nat) : Int)] [] s (zerr σ p b m, s) := by
    intro k
    induction k with
    | zero =>
      intro i hi
      refine zb_188_4 (fun q => ?_) (fun _ => zb_188_45 ?_)
      · have q : ((i : Nat) : Int) < s 354 2 := q
        rw [hs, hm] at q
        omega
      · rw [show i = m by omega]
    | succ k ih =>
      intro i hi
      have i0 : 0 ≤ ((i : Nat) : Int) := Int.natCast_nonneg i
      have i9 : ((i : Nat) : Int) ≤ 9 := by clear ih; omega
      have e2 : zw (((i : Nat) : Int) + 1) = ((i + 1 : Nat) : Int) := zw_id (by clear ih; omega) (by clear ih; omega)
      have e3 : zw (87 + zw (3 * ((i : Nat) : Int))) = 87 + 3 * ((i : Nat) : Int) := by
        rw [zw_id (x := 3 * ((i : Nat) : Int)) (by clear ih; omega) (by clear ih; omega), zw_id (by clear ih; omega) (by clear ih; omega)]
      have e4 : zw (87 + 3 * ((i : Nat) : Int) + 2) = 87 + 3 * ((i : Nat) : Int) + 2 := zw_id (by clear ih; omega) (by clear ih; omega)
      have e5 : zw (87 + 3 * ((i : Nat) : Int) + 1) = 87 + 3 * ((i : Nat) : Int) + 1 := zw_id (by clear ih; omega) (by clear ih; omega)
      have nx := ih (i + 1) (by omega)
      have no : ¬ (σ (87 + 3 * ((i : Nat) : Int)) = p ∧ σ (87 + 3 * ((i : Nat) : Int) + 2) = b) → zA xm_c188 43 [344, p, b, zerr σ p b i, ((i : Nat) : Int)] [] s (zerr σ p b m, s) := fun h => by
        refine zb_188_43 ?_
        rw [e2, show zerr σ p b i = zerr σ p b (i + 1) from (if_neg h).symm]
        exact nx
      refine zb_188_4 (fun _ => zb_188_10 (fun h => zb_188_20 (fun g => zb_188_32 ?_) (fun g => no (fun q => g ?_))) (fun h => no (fun q => h ?_))) (fun q => ?_)
      · have h : s 354 (zw (87 + zw (3 * ((i : Nat) : Int)))) = p := h
        have g : s 354 (zw (zw (87 + zw (3 * ((i : Nat) : Int))) + 2)) = b := g
        rw [e3, hs] at h
        rw [e3, e4, hs] at g
        have e6 : s (344 + 10) (zw (zw (87 + zw (3 * ((i : Nat) : Int))) + 1)) = zerr σ p b (i + 1) := by
          show s 354 _ = if _ then _ else _
          rw [if_pos ⟨h, g⟩, e3, e5, hs]
        rw [e2, e6]
        exact nx
      · show s 354 (zw (zw (87 + zw (3 * ((i : Nat) : Int))) + 2)) = b
        rw [e3, e4, hs]
        exact q.2
      · show s 354 (zw (87 + zw (3 * ((i : Nat) : Int)))) = p
        rw [e3, hs]
        exact q.1
      · have q : ¬ ((i : Nat) : Int) < s 354 2 := q
        rw [hs, hm] at q
        omega
  exact zb_188_0 (loop m 0 (by omega))
theorem zr_setsOut (hs : t 354 = τ) (p0 : 0 ≤ p) (p6 : p ≤ 6) : ∃ t', zE xm_c187 [344, p, f] t 0 t' ∧ t' 354 = zup τ p (zpe τ p 0) f (zpe τ p 3) ∧ t' 344 = t 344 ∧ zWk t t' := by
  have e1 := zpp2 (k := 1) p0 p6 (by decide) (by decide)
  have e2 := zpp2 (k := 2) p0 p6 (by decide) (by decide)
  refine ⟨zu (zu t 354 (10 + 11 * p + 1) f) 354 (10 + 11 * p + 2) (zpe τ p 3), zb_187_0 (s1 := zu t 354 (10 + 11 * p + 1) f) (r := zpe τ p 3) ?_ (zb_187_24 ?_), ?_, ?_, zWk_t zWk_u zWk_u⟩
  · rw [e1]
    have z := zr_per (s := zu t 354 (10 + 11 * p + 1) f) (σ := zu t 354 (10 + 11 * p + 1) f 354) (p := p) (k := 3) rfl p0 p6 (by decide) (by decide)
    have e3 : zpe (zu t 354 (10 + 11 * p + 1) f 354) p 3 = zpe τ p 3 := by
      unfold zpe
      rw [zu_place (by omega), hs]
    rw [e3] at z
    exact z
  · rw [e2]
    rfl
  · funext k
    rw [zu2, zu2, hs]
    unfold zup zpe
    by_cases k0 : k = 10 + 11 * p
    · rw [if_pos k0, if_neg (by omega), if_neg (by omega), k0, Int.add_zero]
    · rw [if_neg k0]
      by_cases k1 : k = 10 + 11 * p + 1
      · rw [if_pos k1, if_neg (by omega), if_pos k1]
      · rw [if_neg k1, if_neg k1]
  · funext y
    rw [zu_cell (by decide), zu_cell (by decide)]
theorem zr_walks (hs : t 354 = τ) (hL : t 344 23 = L) (p0 : 0 ≤ p) (p6 : p ≤ 6) : ∃ t', zE xm_c189 [344, p, 0] t 0 t' ∧ t' 354 = zup τ p (zwA (zpe τ p 0) (zpe τ p 1) (zpe τ p 2)) (zpe τ p 1) (zwL (zpe τ p 0) (zpe τ p 1) (zpe τ p 2) (zpe τ p 3)) ∧ t' 344 23 = (if 0 < zw (zpe τ p 2 - 1) then L else zor L (zshl 1 p)) ∧ zWk t t' := by
  have q0 : zpe τ p 0 = τ (10 + 11 * p) := by
    unfold zpe
    rw [Int.add_zero]
  have q1 : zpe τ p 1 = τ (10 + 11 * p + 1) := rfl
  have q2 : zpe τ p 2 = τ (10 + 11 * p + 2) := rfl
  have q3 : zpe τ p 3 = τ (10 + 11 * p + 3) := rfl
  have e0 : zw (10 + zw (11 * p)) = 10 + 11 * p := by
    rw [zw_id (x := 11 * p) (by omega) (by omega), zw_id (by omega) (by omega)]
  have e1 : zw (10 + 11 * p + 1) = 10 + 11 * p + 1 := zw_id (by omega) (by omega)
  have e2 : zw (10 + 11 * p + 2) = 10 + 11 * p + 2 := zw_id (by omega) (by omega)
  have e3 : zw (10 + 11 * p + 3) = 10 + 11 * p + 3 := zw_id (by omega) (by omega)
  have hs0 : ∀ k, t 354 k = τ k := fun k => by rw [hs]
  have c0 : zu t 354 (10 + 11 * p + 2) (zw (τ (10 + 11 * p + 2) - 1)) 354 (10 + 11 * p + 2) = zw (τ (10 + 11 * p + 2) - 1) := zu_hit
  have start : ∀ R, (0 < zw (τ (10 + 11 * p + 2) - 1) → zA xm_c189 23 [344, p, 10 + 11 * p] [] (zu t 354 (10 + 11 * p + 2) (zw (τ (10 + 11 * p + 2) - 1))) R) → (¬ 0 < zw (τ (10 + 11 * p + 2) - 1) → zA xm_c189 24 [344, p, 10 + 11 * p] [] (zu t 354 (10 + 11 * p + 2) (zw (τ (10 + 11 * p + 2) - 1))) R) → zA xm_c189 0 [344, p, 0] [] t R := fun R h1 h2 => by
    have z := @zb_189_0 344 p 0 t R
    rw [e0, e2] at z
    have z : (0 < zu t 354 (10 + 11 * p + 2) (zw (t 354 (10 + 11 * p + 2) - 1)) 354 (10 + 11 * p + 2) → zA xm_c189 23 [344, p, 10 + 11 * p] [] (zu t 354 (10 + 11 * p + 2) (zw (t 354 (10 + 11 * p + 2) - 1))) R) → (¬ 0 < zu t 354 (10 + 11 * p + 2) (zw (t 354 (10 + 11 * p + 2) - 1)) 354 (10 + 11 * p + 2) → zA xm_c189 24 [344, p, 10 + 11 * p] [] (zu t 354 (10 + 11 * p + 2) (zw (t 354 (10 + 11 * p + 2) - 1))) R) → zA xm_c189 0 [344, p, 0] [] t R := z
    rw [hs0, c0] at z
    exact z h1 h2
  rw [q0, q1, q2, q3]
  by_cases c1 : 0 < zw (τ (10 + 11 * p + 2) - 1)
  · refine ⟨zu t 354 (10 + 11 * p + 2) (zw (τ (10 + 11 * p + 2) - 1)), start _ (fun _ => zb_189_23 rfl) (fun q => absurd c1 q), ?_, ?_, zWk_u⟩
    · funext k
      unfold zwA zwL zup
      rw [zu2, hs, if_pos c1, if_pos c1]
      by_cases k0 : k = 10 + 11 * p
      · rw [if_pos k0, if_neg (by omega), k0]
      · rw [if_neg k0]
        by_cases k1 : k = 10 + 11 * p + 1
        · rw [if_pos k1, if_neg (by omega), k1]
        · rw [if_neg k1]
    · rw [if_pos c1, zu_cell (by decide), hL]
  · have tail : ∀ v : Int, zwA (τ (10 + 11 * p)) (τ (10 + 11 * p + 1)) (τ (10 + 11 * p + 2)) = v → (∀ R, (v = τ (10 + 11 * p + 1) → zA xm_c189 76 [344, p, 10 + 11 * p] [] (zu (zu (zu t 354 (10 + 11 * p + 2) (zw (τ (10 + 11 * p + 2) - 1))) 354 (10 + 11 * p) v) 344 23 (zor L (zshl 1 p))) R) → (¬ v = τ (10 + 11 * p + 1) → zA xm_c189 64 [344, p, 10 + 11 * p] [] (zu (zu (zu t 354 (10 + 11 * p + 2) (zw (τ (10 + 11 * p + 2) - 1))) 354 (10 + 11 * p) v) 344 23 (zor L (zshl 1 p))) R) → zA xm_c189 0 [344, p, 0] [] t R) → ∃ t', zE xm_c189 [344, p, 0] t 0 t' ∧ t' 354 = zup τ p (zwA (τ (10 + 11 * p)) (τ (10 + 11 * p + 1)) (τ (10 + 11 * p + 2))) (τ (10 + 11 * p + 1)) (zwL (τ (10 + 11 * p)) (τ (10 + 11 * p + 1)) (τ (10 + 11 * p + 2)) (τ (10 + 11 * p + 3))) ∧ t' 344 23 = (if 0 < zw (τ (10 + 11 * p + 2) - 1) then L else zor L (zshl 1 p)) ∧ zWk t t' := fun v hv run => by
      rw [if_neg c1]
      by_cases c2 : v = τ (10 + 11 * p + 1)
      · refine ⟨_, run _ (fun _ => zb_189_76 rfl) (fun q => absurd c2 q), ?_, zu_hit, zWk_t (zWk_t zWk_u zWk_u) zWk_v⟩
        funext k
        unfold zwL zup
        rw [zu_cell (by decide), zu2, zu2, hs, hv, if_neg c1, if_pos c2]
        by_cases k0 : k = 10 + 11 * p
        · rw [if_pos k0, if_pos k0]
        · rw [if_neg k0, if_neg k0]
          by_cases k1 : k = 10 + 11 * p + 1
          · rw [if_pos k1, if_neg (by omega), k1]
          · rw [if_neg k1]
      · refine ⟨zu (zu (zu (zu t 354 (10 + 11 * p + 2) (zw (τ (10 + 11 * p + 2) - 1))) 354 (10 + 11 * p) v) 344 23 (zor L (zshl 1 p))) 354 (10 + 11 * p + 2) (τ (10 + 11 * p + 3)), run _ (fun q => absurd q c2) (fun _ => zb_189_64 ?_), ?_, ?_, zWk_t (zWk_t (zWk_t zWk_u zWk_u) zWk_v) zWk_u⟩
        · rw [e2, e3]
          refine Prod.ext rfl ?_
          show zu _ 354 _ (zu (zu (zu t 354 (10 + 11 * p + 2) (zw (τ (10 + 11 * p + 2) - 1))) 354 (10 + 11 * p) v) 344 23 (zor L (zshl 1 p)) 354 (10 + 11 * p + 3)) = zu _ 354 _ _
          rw [zu_cell (a := 354) (j := 344) (by decide), zu_place (b := 10 + 11 * p + 3) (i := 10 + 11 * p) (by omega), zu_place (b := 10 + 11 * p + 3) (i := 10 + 11 * p + 2) (by omega), hs]
        · funext k
          unfold zwL zup
          rw [zu2, zu_cell (by decide), zu2, zu2, hs, hv, if_neg c1, if_neg c2]
          by_cases k0 : k = 10 + 11 * p
          · rw [if_pos k0, if_neg (by omega), if_pos k0]
          · rw [if_neg k0, if_neg k0]
            by_cases k1 : k = 10 + 11 * p + 1
            · rw [if_pos k1, if_neg (by omega), if_neg (by omega), k1]
            · rw [if_neg k1]
              by_cases k2 : k = 10 + 11 * p + 2
              · rw [if_pos k2, if_pos k2]
              · rw [if_neg k2, if_neg k2, if_neg k2]
        · rw [zu_cell (by decide), zu_hit]
    have r0 : zu t 354 (10 + 11 * p + 2) (zw (τ (10 + 11 * p + 2) - 1)) 354 (10 + 11 * p) = τ (10 + 11 * p) := by rw [zu_place (by omega), hs]
    have r1 : zu t 354 (10 + 11 * p + 2) (zw (τ (10 + 11 * p + 2) - 1)) 354 (10 + 11 * p + 1) = τ (10 + 11 * p + 1) := by rw [zu_place (by omega), hs]
    have cond : ∀ v : Int, (zu (zu (zu t 354 (10 + 11 * p + 2) (zw (τ (10 + 11 * p + 2) - 1))) 354 (10 + 11 * p) v) 344 23 (zor L (zshl 1 p)) 354 (10 + 11 * p) = zu (zu (zu t 354 (10 + 11 * p + 2) (zw (τ (10 + 11 * p + 2) - 1))) 354 (10 + 11 * p) v) 344 23 (zor L (zshl 1 p)) 354 (10 + 11 * p + 1)) = (v = τ (10 + 11 * p + 1)) := fun v => by
      rw [zu_cell (by decide), zu_hit, zu_cell (a := 354) (j := 344) (by decide), zu_place (b := 10 + 11 * p + 1) (i := 10 + 11 * p) (by omega), r1]
    have hl : ∀ v : Int, zu (zu t 354 (10 + 11 * p + 2) (zw (τ (10 + 11 * p + 2) - 1))) 354 (10 + 11 * p) v 344 23 = L := fun v => by rw [zu_cell (by decide), zu_cell (by decide), hL]
    by_cases c2 : τ (10 + 11 * p) < τ (10 + 11 * p + 1)
    · refine tail (zw (τ (10 + 11 * p) + 1)) (by unfold zwA; rw [if_neg c1, if_pos c2]) (fun R h1 h2 => start R (fun q => absurd q c1) (fun _ => zb_189_24 (fun _ => ?_) (fun q => absurd ?_ q)))
      · have z := @zb_189_40 344 p (10 + 11 * p) 354 (10 + 11 * p) (τ (10 + 11 * p)) (zu t 354 (10 + 11 * p + 2) (zw (τ (10 + 11 * p + 2) - 1))) R
        rw [e1, hl] at z
        show zA xm_c189 40 [344, p, 10 + 11 * p] [(false, zu t 354 (10 + 11 * p + 2) (zw (τ (10 + 11 * p + 2) - 1)) 354 (10 + 11 * p)), (false, 10 + 11 * p), (false, 354)] _ R
        rw [r0]
        exact z (fun q => h1 ((cond _).mp q)) (fun q => h2 (fun q2 => q ((cond _).mpr q2)))
      · show zu t 354 (10 + 11 * p + 2) (zw (τ (10 + 11 * p + 2) - 1)) 354 (10 + 11 * p) < zu t 354 (10 + 11 * p + 2) (zw (τ (10 + 11 * p + 2) - 1)) 354 (zw (10 + 11 * p + 1))
        rw [e1, r0, r1]
        exact c2
    · refine tail (zw (τ (10 + 11 * p) + (-1))) (by unfold zwA; rw [if_neg c1, if_neg c2]) (fun R h1 h2 => start R (fun q => absurd q c1) (fun _ => zb_189_24 (fun q => absurd ?_ c2) (fun _ => ?_)))
      · have q : zu t 354 (10 + 11 * p + 2) (zw (τ (10 + 11 * p + 2) - 1)) 354 (10 + 11 * p) < zu t 354 (10 + 11 * p + 2) (zw (τ (10 + 11 * p + 2) - 1)) 354 (zw (10 + 11 * p + 1)) := q
        rw [e1, r0, r1] at q
        exact q
      · have z := @zb_189_42 344 p (10 + 11 * p) 354 (10 + 11 * p) (τ (10 + 11 * p)) (zu t 354 (10 + 11 * p + 2) (zw (τ (10 + 11 * p + 2) - 1))) R
        rw [e1, hl] at z
        show zA xm_c189 42 [344, p, 10 + 11 * p] [(false, zu t 354 (10 + 11 * p + 2) (zw (τ (10 + 11 * p + 2) - 1)) 354 (10 + 11 * p)), (false, 10 + 11 * p), (false, 354)] _ R
        rw [r0]
        exact z (fun q => h1 ((cond _).mp q)) (fun q => h2 (fun q2 => q ((cond _).mpr q2)))
end FW
