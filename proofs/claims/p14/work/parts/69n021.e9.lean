/-! the reference's stack of what is begun, with the code -/
/-- what is put down as the stack is popped -/
def zpo (least : Int) : List Int → List Int → List Int
  | [], o => o
  | c :: O, o => if zsr_ c < least then o else zpo least O (c :: o)
def zpa (least : Int) (O : List Int) (a : zW) : zW := (a.1, zpo least O a.2.1, a.2.2)
theorem zpo_len {least : Int} : ∀ (O o : List Int), (zpo least O o).length + (zpp least O).length = o.length + O.length
  | [], o => rfl
  | c :: O, o => by
    show (if zsr_ c < least then o else zpo least O (c :: o)).length + (if zsr_ c < least then c :: O else zpp least O).length = _
    by_cases e : zsr_ c < least
    · rw [if_pos e, if_pos e]
    · rw [if_neg e, if_neg e, zpo_len O (c :: o), List.length_cons, List.length_cons]
      omega
theorem zpp_dp {least : Int} : ∀ (O : List Int), zdp (zpp least O) ≤ zdp O
  | [] => Int.le_refl _
  | c :: O => by
    show zdp (if zsr_ c < least then c :: O else zpp least O) ≤ _
    by_cases e : zsr_ c < least
    · rw [if_pos e]
      exact Int.le_refl _
    · rw [if_neg e, zdp_c]
      have := zpp_dp (least := least) O
      by_cases e2 : c = 91 ∨ c = 11
      · rw [if_pos e2]; omega
      · rw [if_neg e2]; omega
theorem zpp_91 {least : Int} (h1 : 1 ≤ least) : ∀ (O : List Int), 91 ∈ O → 91 ∈ zpp least O
  | [], h => h
  | c :: O, h => by
    show 91 ∈ (if zsr_ c < least then c :: O else zpp least O)
    by_cases e : zsr_ c < least
    · rw [if_pos e]
      exact h
    · rw [if_neg e]
      rcases List.mem_cons.mp h with z | z
      · subst z
        exact absurd (show zsr_ 91 < least by have : zsr_ 91 = 0 := rfl; omega) e
      · exact zpp_91 h1 O z
theorem zsr_p {c : Int} (h : c = 91 ∨ c = 11 ∨ c = 12 ∨ c = 13) (hc : c ≠ 91) : 1 ≤ zsr_ c := by
  rcases h with z | z | z | z
  · exact absurd z hc
  · subst z; decide
  · subst z; decide
  · subst z; decide
theorem zpp_nil : ∀ (O : List Int), zwf O → 91 ∉ O → zpp 1 O = []
  | [], _, _ => rfl
  | c :: O, hw, h => by
    show (if zsr_ c < 1 then c :: O else zpp 1 O) = []
    have c91 : c ≠ 91 := fun z => h (by rw [z]; exact List.mem_cons_self)
    have := zsr_p hw.1 c91
    rw [if_neg (by omega)]
    exact zpp_nil O hw.2.2 (fun z => h (List.mem_cons_of_mem _ z))
/-- what stands on top of a stack that is popped to 1 -/
theorem zpp_top1 {O : List Int} (hw : zwf O) {c : Int} {O2 : List Int} (h : zpp 1 O = c :: O2) : c = 91 := by
  have h1 := zpp_head (least := 1) (O := O) (c := c) (by rw [h]; rfl)
  have h2 := zpp_wf (least := 1) hw
  rw [h] at h2
  by_cases e : c = 91
  · exact e
  · have := zsr_p h2.1 e
    omega
/-- the steps of the grammar as the stack is popped -/
theorem ze_pop {b : Int → Int} {T p l least : Int} (h1 : 1 ≤ least) (hna : least ≤ 1 → ¬ zg_is b T p yw_and) : ∀ (O : List Int) (a : zW), zwf O → ze_to b T (5, 0, p, a, l, O) (5, 0, p, zpa least O a, l, zpp least O)
  | [], a, _ => ze_refl
  | c :: O, a, hw => by
    show ze_to b T (5, 0, p, a, l, c :: O) (5, 0, p, (a.1, (if zsr_ c < least then a.2.1 else zpo least O (c :: a.2.1)), a.2.2), l, if zsr_ c < least then c :: O else zpp least O)
    by_cases e : zsr_ c < least
    · rw [if_pos e, if_pos e]
      exact ze_refl
    · rw [if_neg e, if_neg e]
      have rest := ze_pop (b := b) (T := T) (p := p) (l := l) h1 hna O (zep a c) hw.2.2
      refine ze_trans (ze_one ?_) rest
      rcases hw.1 with z | z | z | z
      · subst z
        exact absurd (show zsr_ 91 < least by have : zsr_ 91 = 0 := rfl; omega) e
      · subst z
        rfl
      · subst z
        rfl
      · subst z
        have e1 : zsr_ 13 = 1 := rfl
        refine ze_5c.trans ?_
        rw [if_neg (by decide), if_pos rfl, if_neg (hna (by omega))]
section XF
variable {s0 s : zS} {t T N m ln : Int} {O o : List Int}
theorem zMw.sk {O1 : zO} {O2 : List Int} {d : Int} (h : zMw s0 t N m (o, O1) ln s) (hd : d = zdp O2) (ho : zop O2 s) : zMw s0 t N m (o, some O2) ln (zu (zu s 344 16 ((O2.length : Nat) : Int)) 344 13 d) := by
  have e : ∀ b, b ≠ 13 → b ≠ 16 → (zu (zu s 344 16 ((O2.length : Nat) : Int)) 344 13 d) 344 b = s 344 b := fun b h1 h2 => by rw [zu_place h1, zu_place h2]
  refine ⟨by rw [e 8 (by decide) (by decide), e 9 (by decide) (by decide), e 11 (by decide) (by decide), e 12 (by decide) (by decide), e 14 (by decide) (by decide)]; exact h.1, ⟨zCr_u (zCr_u h.2.1.1 (by decide) (by decide)) (by decide) (by decide), ?_, ?_, zop_u (by decide) (zop_u (by decide) ho)⟩, zKe_u (zKe_u h.2.2 (by omega)) (by omega)⟩
  · rw [zu_hit]
    exact hd
  · rw [zu_place (by decide), zu_hit]
theorem zMw.forget {O1 : zO} (h : zMw s0 t N m (o, O1) ln s) : zMw s0 t N m (o, none) ln s := ⟨h.1, ⟨h.2.1.1, trivial⟩, h.2.2⟩
theorem zMw.push {c : Int} (h : zMw s0 t N m (o, some O) ln s) (hc : c = 12 ∨ c = 13) (hl : O.length ≤ 1000) : zMw s0 t N m (o, some (c :: O)) ln (zu (zu s (344 + 7) (s 344 16) c) 344 16 (zw ((zu s (344 + 7) (s 344 16) c) 344 16 + 1))) := by
  have e16 := h.2.1.2.2.1
  have a2 : (zu s 351 ((O.length : Nat) : Int) c) 344 16 = ((O.length : Nat) : Int) := by rw [zu_cell (by decide)]; exact e16
  rw [show (344 : Int) + 7 = 351 from rfl, e16, a2, zw_id (by omega) (by omega)]
  have e : ∀ b, b ≠ 16 → (zu (zu s 351 ((O.length : Nat) : Int) c) 344 16 (((O.length : Nat) : Int) + 1)) 344 b = s 344 b := fun b h2 => by rw [zu_place h2, zu_cell (by decide)]
  refine ⟨by rw [e 8 (by decide), e 9 (by decide), e 11 (by decide), e 12 (by decide), e 14 (by decide)]; exact h.1, ⟨zCr_u (zCr_u h.2.1.1 (by decide) (by decide)) (by decide) (by decide), ?_, ?_, ?_⟩, zKe_u (zKe_u h.2.2 (by omega)) (by omega)⟩
  · rw [e 13 (by decide), h.2.1.2.1, zdp_c, if_neg (by omega)]
    omega
  · rw [zu_hit]
    rfl
  · exact ⟨by rw [zu_cell (by decide), zu_hit], zop_u (by decide) (zop_push h.2.1.2.2.2 O.length (Nat.le_refl _))⟩
theorem zz_inside (h : zMw s0 t N m (o, some O) ln s) (hl : O.length ≤ 1000) : zE xm_c150 [344, 0] s (if 91 ∈ O then 1 else 0) s := by
  have e16 := h.2.1.2.2.1
  have hat := zop_at h.2.1.2.2.2
  have key : ∀ (n k : Nat), O.length - k ≤ n → k ≤ O.length → (∀ i : Nat, i < k → s 351 ((i : Nat) : Int) ≠ 91) → zA xm_c150 2 [344, ((k : Nat) : Int)] [] s ((if 91 ∈ O then 1 else 0), s) := by
    intro n
    induction n with
    | zero =>
      intro k hn hk hi
      refine zb_150_2 (fun q => by rw [e16] at q; omega) (fun _ => zb_150_16 ?_)
      rw [if_neg (fun z => ?_)]
      obtain ⟨i, h1, h2⟩ := hat.mp z
      exact hi i (by omega) h2
    | succ n ih =>
      intro k hn hk hi
      refine zb_150_2 (fun q => zb_150_6 (fun q2 => zb_150_12 ?_) (fun q2 => zb_150_14 ?_)) (fun q => zb_150_16 ?_)
      · rw [e16] at q
        rw [if_pos (hat.mpr ⟨k, by omega, q2⟩)]
      · rw [e16] at q
        rw [zw_id (by omega) (by omega), show ((k : Nat) : Int) + 1 = ((k + 1 : Nat) : Int) by omega]
        refine ih (k + 1) (by omega) (by omega) (fun i h1 => ?_)
        by_cases e : i = k
        · subst e
          exact q2
        · exact hi i (by omega)
      · rw [e16] at q
        rw [if_neg (fun z => ?_)]
        obtain ⟨i, h1, h2⟩ := hat.mp z
        exact hi i (by omega) h2
  exact zb_150_0 (key _ 0 (Nat.le_refl _) (Nat.zero_le _) (fun i h1 => absurd h1 (Nat.not_lt_zero i)))
theorem zz_opens (h : zMw s0 t N m (o, some O) ln s) (hl : O.length ≤ 1000) (hN : 0 ≤ N) (hN4 : N ≤ 400) {c : Int} (hcc : c = 91 ∨ c = 11) (hd10 : zdp O ≤ 10) : (zdp O = 10 ∧ ∃ s', zE xm_c142 [344, c] s 0 s' ∧ zRdw s0 t (1 + 8 * N + 2) s') ∨ (zdp O < 10 ∧ ∃ s', zE xm_c142 [344, c] s 1 s' ∧ zMw s0 t N m (o, some (c :: O)) ln s') := by
  have e13 : s 344 13 = zdp O := h.2.1.2.1
  have e16 := h.2.1.2.2.1
  have e8 := h.1.1
  have hd0 := zdp_0 O
  by_cases e : zdp O = 10
  · obtain ⟨s', f1, f2⟩ := zz_fails h (c := 2) (at_ := N) (by omega) (by omega) (by omega) (by omega)
    exact Or.inl ⟨e, s', zb_142_0 (fun _ => zb_142_4 (by rw [e8]; exact f1) (zb_142_9 rfl)) (fun q => absurd (by rw [e13, e]) q), f2⟩
  · refine Or.inr ⟨by omega, _, zb_142_0 (fun q => absurd q (by rw [e13]; omega)) (fun _ => zb_142_10 rfl), ?_⟩
    have a1 : zw (s 344 13 + 1) = zdp (c :: O) := by
      rw [e13, zw_id (by omega) (by omega), zdp_c, if_pos hcc]
      omega
    have a2 : (zu s 344 13 (zw (s 344 13 + 1))) 344 16 = ((O.length : Nat) : Int) := by rw [zu_place (by decide)]; exact e16
    rw [a2, show (344 : Int) + 7 = 351 from rfl]
    have a3 : (zu (zu s 344 13 (zw (s 344 13 + 1))) 351 ((O.length : Nat) : Int) c) 344 16 = ((O.length : Nat) : Int) := by rw [zu_cell (by decide)]; exact a2
    rw [a3, a1, zw_id (x := ((O.length : Nat) : Int) + 1) (by omega) (by omega)]
    have e : ∀ b, b ≠ 13 → b ≠ 16 → (zu (zu (zu s 344 13 (zdp (c :: O))) 351 ((O.length : Nat) : Int) c) 344 16 (((O.length : Nat) : Int) + 1)) 344 b = s 344 b := fun b h1 h2 => by rw [zu_place h2, zu_cell (by decide), zu_place h1]
    refine ⟨by rw [e 8 (by decide) (by decide), e 9 (by decide) (by decide), e 11 (by decide) (by decide), e 12 (by decide) (by decide), e 14 (by decide) (by decide)]; exact h.1, ⟨zCr_u (zCr_u (zCr_u h.2.1.1 (by decide) (by decide)) (by decide) (by decide)) (by decide) (by decide), ?_, ?_, ?_⟩, zKe_u (zKe_u (zKe_u h.2.2 (by omega)) (by omega)) (by omega)⟩
    · rw [zu_place (by decide), zu_cell (by decide), zu_hit]
    · rw [zu_hit]
      rfl
    · refine ⟨?_, ?_⟩
      · rw [zu_cell (by decide), zu_hit]
      · exact zop_u (by decide) (zop_push (zop_u (by decide) h.2.1.2.2.2) O.length (Nat.le_refl _))
theorem zu_com {s : zS} {x y v x' y' v' : Int} (h : x ≠ x') : zu (zu s x y v) x' y' v' = zu (zu s x' y' v') x y v := by
  funext a b
  unfold zu
  by_cases f1 : a = x' ∧ b = y'
  · have : ¬ (a = x ∧ b = y) := fun z => h (z.1.symm.trans f1.1)
    simp only [if_pos f1, if_neg this]
  · simp only [if_neg f1]
theorem zu_self {s : zS} {x y v : Int} (h : s x y = v) : zu s x y v = s := by
  funext a b
  unfold zu
  by_cases f : a = x ∧ b = y
  · obtain ⟨rfl, rfl⟩ := f
    rw [if_pos ⟨rfl, rfl⟩, h]
  · rw [if_neg f]
theorem zz_settles (ht0 : 0 ≤ t) (ht : t ≤ 5) {least : Int} (h1 : 1 ≤ least) : ∀ {O : List Int} {o : List Int} {s : zS}, zwf O → o.length + O.length ≤ 400 → zMw s0 t N m (o, some O) ln s → ∃ s', zE xm_c144 [344, least] s 0 s' ∧ zMw s0 t N m (zpo least O o, some (zpp least O)) ln s' := by
  intro O
  induction O with
  | nil =>
    intro o s hw hl h
    have e16 : s 344 16 = 0 := h.2.1.2.2.1
    exact ⟨s, zb_144_0 (fun q => by rw [e16] at q; omega) (fun _ => zb_144_41 rfl), h⟩
  | cons c O ih =>
    intro o s hw hl h
    have hl' : o.length + O.length + 1 ≤ 400 := hl
    have p1 : s 351 ((O.length : Nat) : Int) = c := h.2.1.2.2.2.1
    have e16 : s 344 16 = ((O.length : Nat) : Int) + 1 := h.2.1.2.2.1
    have hst : zE xm_c143 [s (344 + 7) (zw (s 344 16 - 1))] s (zsr_ c) s := by
      rw [e16, zw_id (by omega) (by omega), show ((O.length : Nat) : Int) + 1 - 1 = ((O.length : Nat) : Int) by omega, show (344 : Int) + 7 = 351 from rfl, p1]
      exact zr_strength
    show ∃ s', zE xm_c144 [344, least] s 0 s' ∧ zMw s0 t N m ((if zsr_ c < least then o else zpo least O (c :: o)), some (if zsr_ c < least then c :: O else zpp least O)) ln s'
    by_cases e : zsr_ c < least
    · rw [if_pos e, if_pos e]
      exact ⟨s, zb_144_0 (fun _ => zb_144_3 hst (zb_144_11 (fun _ => zb_144_41 rfl) (fun q => absurd e q))) (fun q => absurd (show 0 < s 344 16 by omega) q), h⟩
    · rw [if_neg e, if_neg e]
      have hz : zu s 344 16 (zw (s 344 16 - 1)) = zu s 344 16 ((O.length : Nat) : Int) := by
        rw [e16, zw_id (by omega) (by omega), show ((O.length : Nat) : Int) + 1 - 1 = ((O.length : Nat) : Int) by omega]
      have hcc : (zu s 344 16 (zw (s 344 16 - 1))) (344 + 7) ((zu s 344 16 (zw (s 344 16 - 1))) 344 16) = c := by
        rw [hz, zu_hit, show (344 : Int) + 7 = 351 from rfl, zu_cell (by decide)]
        exact p1
      have hcv : zw (c + zw (16 * 0)) = c := by
        rcases hw.1 with z | z | z | z <;> rw [z] <;> decide
      have hrun : zE xm_c140 [344, (zu s 344 16 (zw (s 344 16 - 1))) (344 + 7) ((zu s 344 16 (zw (s 344 16 - 1))) 344 16), 0] (zu s 344 16 (zw (s 344 16 - 1))) 0 (zpu (zu s 344 16 ((O.length : Nat) : Int)) t ((o.length : Nat) : Int) c) := by
        rw [hcc, hz]
        exact zz_putsE (by rw [zu_place (by decide)]; exact h.1.2.2.1) (by rw [zu_cell (by decide)]; exact h.2.1.1.1) ht0 ht (by omega) (by omega) hcv
      have q2 : ∀ y, zpu (zu s 344 16 ((O.length : Nat) : Int)) t ((o.length : Nat) : Int) c 344 y = zu s 344 16 ((O.length : Nat) : Int) 344 y := fun y => by
        unfold zpu
        rw [zu_cell (by decide), zu_cell (by decide)]
      have q3 : ∀ y, zpu (zu s 344 16 ((O.length : Nat) : Int)) t ((o.length : Nat) : Int) c 351 y = s 351 y := fun y => by
        unfold zpu
        rw [zu_cell (by decide), zu_cell (by decide), zu_cell (by decide)]
      have h27 : zpu (zu s 344 16 ((O.length : Nat) : Int)) t ((o.length : Nat) : Int) c (344 + 7) (zpu (zu s 344 16 ((O.length : Nat) : Int)) t ((o.length : Nat) : Int) c 344 16) = c := by
        rw [q2, zu_hit, show (344 : Int) + 7 = 351 from rfl, q3]
        exact p1
      have base : zMw s0 t N m (o, some O) ln (zu (zu s 344 16 ((O.length : Nat) : Int)) 344 13 (zdp O)) := h.sk (O2 := O) rfl h.2.1.2.2.2.2
      have b2 : zMw s0 t N m (c :: o, some O) ln (zpu (zu (zu s 344 16 ((O.length : Nat) : Int)) 344 13 (zdp O)) t ((o.length : Nat) : Int) c) := base.puts (by show o.length < 400; omega)
      have sw : zpu (zu (zu s 344 16 ((O.length : Nat) : Int)) 344 13 (zdp O)) t ((o.length : Nat) : Int) c = zu (zpu (zu s 344 16 ((O.length : Nat) : Int)) t ((o.length : Nat) : Int) c) 344 13 (zdp O) := by
        unfold zpu
        rw [zu_com (x := 344) (x' := 346) (by decide), zu_com (x := 344) (x' := 347) (by decide)]
      rw [sw] at b2
      have e13 : zpu (zu s 344 16 ((O.length : Nat) : Int)) t ((o.length : Nat) : Int) c 344 13 = zdp (c :: O) := by
        rw [q2, zu_place (by decide)]
        exact h.2.1.2.1
      have hd0 := zdp_0 O
      have hdl : zdp O ≤ 1000 := by
        have hdb := zdp_ab O
        have hdl := zab_len O
        omega
      by_cases e11 : c = 11
      · have hdc : zdp (c :: O) = 1 + zdp O := by rw [zdp_c, if_pos (Or.inr e11)]
        have hz13 : zw (zpu (zu s 344 16 ((O.length : Nat) : Int)) t ((o.length : Nat) : Int) c 344 13 - 1) = zdp O := by
          rw [e13, hdc, zw_id (by omega) (by omega)]
          omega
        obtain ⟨s', u1, u2⟩ := ih hw.2.2 (by rw [List.length_cons]; omega) b2
        refine ⟨s', zb_144_0 (fun _ => zb_144_3 hst (zb_144_11 (fun q => absurd q e) (fun _ => zb_144_13 hrun (zb_144_27 (fun _ => zb_144_34 (by rw [hz13]; exact u1)) (fun q => absurd (by rw [h27]; exact e11) q))))) (fun q => absurd (show 0 < s 344 16 by omega) q), u2⟩
      · have c91 : c ≠ 91 := fun q => e (by rw [q]; show zsr_ 91 < least; have : zsr_ 91 = 0 := rfl; omega)
        have hdc : zdp (c :: O) = zdp O := by rw [zdp_c, if_neg (fun z => z.elim c91 e11)]; omega
        have same : zu (zpu (zu s 344 16 ((O.length : Nat) : Int)) t ((o.length : Nat) : Int) c) 344 13 (zdp O) = zpu (zu s 344 16 ((O.length : Nat) : Int)) t ((o.length : Nat) : Int) c := zu_self (by rw [e13, hdc])
        rw [same] at b2
        obtain ⟨s', u1, u2⟩ := ih hw.2.2 (by rw [List.length_cons]; omega) b2
        exact ⟨s', zb_144_0 (fun _ => zb_144_3 hst (zb_144_11 (fun q => absurd q e) (fun _ => zb_144_13 hrun (zb_144_27 (fun q => absurd q (by rw [h27]; exact e11)) (fun _ => u1))))) (fun q => absurd (show 0 < s 344 16 by omega) q), u2⟩
end XF
