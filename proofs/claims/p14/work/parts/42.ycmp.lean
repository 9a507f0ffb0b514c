/-! comparing, in the interval machine -/
theorem yl_if1l {α : Type} {b : Bool} {x : α} {l : List α} (h : b = true) : x ∈ ym_if1 b x l := by
  subst h
  exact List.mem_cons_self
theorem yl_if1r {α : Type} {b : Bool} {x q : α} {l : List α} (h : q ∈ l) : q ∈ ym_if1 b x l := by
  cases b with
  | true => exact List.mem_cons_of_mem _ h
  | false => exact h
theorem yl_flip {q : ym_S × Bool} : ∀ {l : List (ym_S × Bool)}, q ∈ l → (q.1, !q.2) ∈ ym_flip l
  | p :: l, h => by
    show _ ∈ (p.1, !p.2) :: ym_flip l
    rcases List.mem_cons.mp h with rfl | h
    · exact List.mem_cons_self
    · exact List.mem_cons_of_mem _ (yl_flip h)
/-- v stands for the number x -/
def ys_nv (y : Nat → Int) (v : Value) (x : Int) : Prop := (∀ k, v = .retAddr k → y k = x) ∧ (∀ u, v = .double u → y u.toNat = x)
section YC
variable {y : Nat → Int} {E : ym_S} {v w : Value} {a b : Int × Int} {x z : Int}
theorem ys_nar2 {r q : Int × Int} (hs : ys_sat y E) (hx : ys_nv y v x) (hz : ys_nv y w z) (h1 : r.1 ≤ x) (h2 : x ≤ r.2) (h3 : q.1 ≤ z) (h4 : z ≤ q.2) : ys_sat y (ym_nar (ym_nar E v r) w q) ∧ (ym_nar (ym_nar E v r) w q).1 = E.1 := by
  obtain ⟨s1, s2⟩ := ys_nar hs hx h1 h2
  obtain ⟨s3, s4⟩ := ys_nar s1 hz h3 h4
  exact ⟨s3, s4.trans s2⟩
theorem ys_lt (hs : ys_sat y E) (hx : ys_nv y v x) (hz : ys_nv y w z) (a1 : a.1 ≤ x) (a2 : x ≤ a.2) (b1 : b.1 ≤ z) (b2 : z ≤ b.2) : ∃ q ∈ ym_lt E v w a b, ys_sat y q.1 ∧ q.1.1 = E.1 ∧ q.2 = decide (x < z) := by
  unfold ym_lt
  by_cases c : x < z
  · refine ⟨_, yl_if1l (decide_eq_true (by omega)), ?_⟩
    obtain ⟨s1, s2⟩ := ys_nar2 (r := (a.1, min a.2 (b.2 - 1))) (q := (max b.1 (a.1 + 1), b.2)) hs hx hz (by dsimp only; omega) (by dsimp only; omega) (by dsimp only; omega) (by dsimp only; omega)
    exact ⟨s1, s2, (decide_eq_true c).symm⟩
  · refine ⟨_, yl_if1r (yl_if1l (decide_eq_true (by omega))), ?_⟩
    obtain ⟨s1, s2⟩ := ys_nar2 (r := (max a.1 b.1, a.2)) (q := (b.1, min b.2 a.2)) hs hx hz (by dsimp only; omega) (by dsimp only; omega) (by dsimp only; omega) (by dsimp only; omega)
    exact ⟨s1, s2, (decide_eq_false c).symm⟩
theorem ys_not (a1 : a.1 ≤ x) (a2 : x ≤ a.2) (b1 : b.1 ≤ z) (b2 : z ≤ b.2) (h : ¬ x = z) : (ym_not a b).1 ≤ x ∧ x ≤ (ym_not a b).2 := by
  unfold ym_not
  by_cases e : b.1 = b.2
  · rw [decide_eq_true e, cond_true]
    dsimp only
    refine ⟨?_, ?_⟩
    · by_cases c : a.1 = b.1
      · rw [decide_eq_true c, cond_true]; omega
      · rw [decide_eq_false c, cond_false]; exact a1
    · by_cases c : a.2 = b.1
      · rw [decide_eq_true c, cond_true]; omega
      · rw [decide_eq_false c, cond_false]; exact a2
  · rw [decide_eq_false e, cond_false]
    exact ⟨a1, a2⟩
theorem ys_eq (hs : ys_sat y E) (hx : ys_nv y v x) (hz : ys_nv y w z) (a1 : a.1 ≤ x) (a2 : x ≤ a.2) (b1 : b.1 ≤ z) (b2 : z ≤ b.2) : ∃ q ∈ ym_eq E v w a b, ys_sat y q.1 ∧ q.1.1 = E.1 ∧ q.2 = decide (x = z) := by
  unfold ym_eq
  by_cases c : x = z
  · refine ⟨_, yl_if1l (by rw [Bool.and_eq_true, decide_eq_true_eq, decide_eq_true_eq]; omega), ?_⟩
    obtain ⟨s1, s2⟩ := ys_nar2 (r := (max a.1 b.1, min a.2 b.2)) (q := (max a.1 b.1, min a.2 b.2)) hs hx hz (by dsimp only; omega) (by dsimp only; omega) (by dsimp only; omega) (by dsimp only; omega)
    exact ⟨s1, s2, (decide_eq_true c).symm⟩
  · refine ⟨_, yl_if1r (yl_if1l ?_), ?_⟩
    · rw [Bool.not_eq_true', Bool.and_eq_false_iff, Bool.and_eq_false_iff, decide_eq_false_iff_not, decide_eq_false_iff_not, decide_eq_false_iff_not]
      omega
    · obtain ⟨n1, n2⟩ := ys_not a1 a2 b1 b2 c
      obtain ⟨n3, n4⟩ := ys_not b1 b2 a1 a2 (fun q => c q.symm)
      obtain ⟨s1, s2⟩ := ys_nar2 hs hx hz n1 n2 n3 n4
      exact ⟨s1, s2, (decide_eq_false c).symm⟩
theorem ys_sg (x z : Int) : xm_holds .eq (xm_sgn x z) = decide (x = z) ∧ xm_holds .lt (xm_sgn x z) = decide (x < z) ∧ xm_holds .gt (xm_sgn x z) = decide (z < x) ∧ xm_holds .ne (xm_sgn x z) = !decide (x = z) ∧ xm_holds .ge (xm_sgn x z) = !decide (x < z) ∧ xm_holds .le (xm_sgn x z) = !decide (z < x) := by
  unfold xm_sgn
  by_cases h1 : x < z
  · rw [decide_eq_true h1, decide_eq_false (show ¬ x = z by omega), decide_eq_false (show ¬ z < x by omega)]
    exact ⟨rfl, rfl, rfl, rfl, rfl, rfl⟩
  · by_cases h2 : x = z
    · rw [decide_eq_false h1, decide_eq_true h2, decide_eq_false (show ¬ z < x by omega)]
      exact ⟨rfl, rfl, rfl, rfl, rfl, rfl⟩
    · rw [decide_eq_false h1, decide_eq_false h2, decide_eq_true (show z < x by omega)]
      exact ⟨rfl, rfl, rfl, rfl, rfl, rfl⟩
theorem ys_cond {c : Jvm.ClassFile.Cond} (hs : ys_sat y E) (hx : ys_nv y v x) (hz : ys_nv y w z) (a1 : a.1 ≤ x) (a2 : x ≤ a.2) (b1 : b.1 ≤ z) (b2 : z ≤ b.2) : ∃ q ∈ ym_cond c E v w a b, ys_sat y q.1 ∧ q.1.1 = E.1 ∧ q.2 = xm_holds c (xm_sgn x z) := by
  obtain ⟨k1, k2, k3, k4, k5, k6⟩ := ys_sg x z
  cases c with
  | eq => rw [k1]; exact ys_eq hs hx hz a1 a2 b1 b2
  | lt => rw [k2]; exact ys_lt hs hx hz a1 a2 b1 b2
  | gt => rw [k3]; exact ys_lt hs hz hx b1 b2 a1 a2
  | ne =>
    rw [k4]
    obtain ⟨q, h1, h2, h3, h4⟩ := ys_eq hs hx hz a1 a2 b1 b2
    exact ⟨_, yl_flip h1, h2, h3, by rw [h4]⟩
  | ge =>
    rw [k5]
    obtain ⟨q, h1, h2, h3, h4⟩ := ys_lt hs hx hz a1 a2 b1 b2
    exact ⟨_, yl_flip h1, h2, h3, by rw [h4]⟩
  | le =>
    rw [k6]
    obtain ⟨q, h1, h2, h3, h4⟩ := ys_lt hs hz hx b1 b2 a1 a2
    exact ⟨_, yl_flip h1, h2, h3, by rw [h4]⟩
theorem ys_cmp (hs : ys_sat y E) (hx : ys_nv y v x) (hz : ys_nv y w z) (a1 : a.1 ≤ x) (a2 : x ≤ a.2) (b1 : b.1 ≤ z) (b2 : z ≤ b.2) : ∃ q ∈ ym_cmp E v w a b, ys_sat y q.1 ∧ q.1.1 = E.1 ∧ q.2 = xm_sgn x z := by
  unfold ym_cmp xm_sgn
  by_cases c1 : x < z
  · refine ⟨_, yl_if1l (decide_eq_true (by omega)), ?_⟩
    obtain ⟨s1, s2⟩ := ys_nar2 (r := (a.1, min a.2 (b.2 - 1))) (q := (max b.1 (a.1 + 1), b.2)) hs hx hz (by dsimp only; omega) (by dsimp only; omega) (by dsimp only; omega) (by dsimp only; omega)
    exact ⟨s1, s2, by rw [decide_eq_true c1]; rfl⟩
  · by_cases c2 : x = z
    · refine ⟨_, yl_if1r (yl_if1l (by rw [Bool.and_eq_true, decide_eq_true_eq, decide_eq_true_eq]; omega)), ?_⟩
      obtain ⟨s1, s2⟩ := ys_nar2 (r := (max a.1 b.1, min a.2 b.2)) (q := (max a.1 b.1, min a.2 b.2)) hs hx hz (by dsimp only; omega) (by dsimp only; omega) (by dsimp only; omega) (by dsimp only; omega)
      exact ⟨s1, s2, by rw [decide_eq_false c1, decide_eq_true c2]; rfl⟩
    · refine ⟨_, yl_if1r (yl_if1r (yl_if1l (decide_eq_true (by omega)))), ?_⟩
      obtain ⟨s1, s2⟩ := ys_nar2 (r := (max a.1 (b.1 + 1), a.2)) (q := (b.1, min b.2 (a.2 - 1))) hs hx hz (by dsimp only; omega) (by dsimp only; omega) (by dsimp only; omega) (by dsimp only; omega)
      exact ⟨s1, s2, by rw [decide_eq_false c1, decide_eq_false c2]; rfl⟩
theorem ys_each (hs : ys_sat y E) (hx : ys_nv y v x) {lo : Int} : ∀ {n : Nat}, lo ≤ x → x < lo + n → ∃ q ∈ ym_each E v lo n, ys_sat y q.1 ∧ q.1.1 = E.1 ∧ q.2 = x
  | 0, h1, h2 => by omega
  | n + 1, h1, h2 => by
    show ∃ q ∈ ym_fi (lo + Int.ofNat n) (fun c => (ym_nar E v (c, c), c) :: ym_each E v lo n), _
    rw [yl_fi]
    by_cases e : lo + Int.ofNat n = x
    · refine ⟨_, List.mem_cons_self, ?_⟩
      obtain ⟨s1, s2⟩ := ys_nar (r := (lo + Int.ofNat n, lo + Int.ofNat n)) hs hx (by dsimp only; omega) (by dsimp only; omega)
      exact ⟨s1, s2, e⟩
    · obtain ⟨q, g1, g2⟩ := ys_each (n := n) hs hx h1 (by have : Int.ofNat n = (n : Int) := rfl; omega)
      exact ⟨q, List.mem_cons_of_mem _ g1, g2⟩
theorem ys_tsw (hs : ys_sat y E) (hx : ys_nv y v x) (a1 : a.1 ≤ x) (a2 : x ≤ a.2) : ∀ {ts : List Nat} {lo : Int}, lo ≤ x → x < lo + ts.length → ∃ q ∈ ym_tsw E v a ts lo, ys_sat y q.1 ∧ q.1.1 = E.1 ∧ ts[(x - lo).toNat]? = some q.2
  | [], lo, h1, h2 => by simp at h2; omega
  | t :: ts, lo, h1, h2 => by
    show ∃ q ∈ ym_if1 (decide (a.1 ≤ lo) && decide (lo ≤ a.2)) (ym_nar E v (lo, lo), t) (ym_tsw E v a ts (lo + 1)), _
    by_cases e : lo = x
    · subst e
      refine ⟨_, yl_if1l (by rw [Bool.and_eq_true, decide_eq_true_eq, decide_eq_true_eq]; exact ⟨a1, a2⟩), ?_⟩
      obtain ⟨s1, s2⟩ := ys_nar (r := (lo, lo)) hs hx (Int.le_refl _) (Int.le_refl _)
      refine ⟨s1, s2, ?_⟩
      rw [show (lo - lo).toNat = 0 by omega]
      rfl
    · obtain ⟨q, g1, g2, g3, g4⟩ := ys_tsw (ts := ts) (lo := lo + 1) hs hx a1 a2 (by omega) (by rw [List.length_cons] at h2; omega)
      refine ⟨q, yl_if1r g1, g2, g3, ?_⟩
      rw [show (x - lo).toNat = (x - (lo + 1)).toNat + 1 by omega, List.getElem?_cons_succ]
      exact g4
end YC
