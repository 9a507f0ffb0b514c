/-! the reference's reading: what is open, fact, closes, tested -/
def zab : List Int → List Bool
  | [] => []
  | c :: O => if c = 91 then true :: zab O else if c = 11 then false :: zab O else zab O
def zwf : List Int → Prop
  | [] => True
  | c :: O => (c = 91 ∨ c = 11 ∨ c = 12 ∨ c = 13) ∧ (O.head? = some 11 → c = 11 ∨ c = 91) ∧ zwf O
def zsr_ (c : Int) : Int := if c = 13 then 1 else if c = 12 then 2 else if c = 11 then 3 else 0
def zpp (least : Int) : List Int → List Int
  | [] => []
  | c :: O => if zsr_ c < least then c :: O else zpp least O
theorem zdp_ab : ∀ O : List Int, zdp O = (((zab O).length : Nat) : Int)
  | [] => rfl
  | c :: O => by
    have ih := zdp_ab O
    show (if c = 91 ∨ c = 11 then 1 else 0) + zdp O = (((if c = 91 then true :: zab O else if c = 11 then false :: zab O else zab O).length : Nat) : Int)
    by_cases e : c = 91
    · rw [if_pos (Or.inl e), if_pos e, ih, List.length_cons]
      omega
    · rw [if_neg e]
      by_cases e2 : c = 11
      · rw [if_pos (Or.inr e2), if_pos e2, ih, List.length_cons]
        omega
      · rw [if_neg (fun z => z.elim e e2), if_neg e2, ih]
        omega
theorem zpp_wf {least : Int} : ∀ {O : List Int}, zwf O → zwf (zpp least O)
  | [], _ => trivial
  | c :: O, h => by
    show zwf (if zsr_ c < least then c :: O else zpp least O)
    by_cases e : zsr_ c < least
    · rw [if_pos e]; exact h
    · rw [if_neg e]; exact zpp_wf h.2.2
theorem zpp_le {least : Int} : ∀ {O : List Int}, (zpp least O).length ≤ O.length
  | [] => Nat.le_refl _
  | c :: O => by
    show (if zsr_ c < least then c :: O else zpp least O).length ≤ _
    by_cases e : zsr_ c < least
    · rw [if_pos e]; exact Nat.le_refl _
    · rw [if_neg e]
      exact Nat.le_succ_of_le zpp_le
theorem zpp_head {least : Int} : ∀ {O : List Int} {c : Int}, (zpp least O).head? = some c → zsr_ c < least
  | [], c, h => by cases h
  | d :: O, c, h => by
    have h : (if zsr_ d < least then d :: O else zpp least O).head? = some c := h
    by_cases e : zsr_ d < least
    · rw [if_pos e] at h
      cases h
      exact e
    · rw [if_neg e] at h
      exact zpp_head h
/-- without a not on top and and or pop, none of what is counted -/
theorem zpp_ab {least : Int} (h0 : 1 ≤ least) : ∀ {O : List Int}, zwf O → O.head? ≠ some 11 → zab (zpp least O) = zab O ∧ (zpp least O).head? ≠ some 11
  | [], _, h => ⟨rfl, h⟩
  | c :: O, hw, h => by
    show zab (if zsr_ c < least then c :: O else zpp least O) = _ ∧ (if zsr_ c < least then c :: O else zpp least O).head? ≠ _
    by_cases e : zsr_ c < least
    · rw [if_pos e]
      exact ⟨rfl, h⟩
    · rw [if_neg e]
      have c11 : c ≠ 11 := fun q => h (by rw [q]; rfl)
      by_cases e91 : c = 91
      · subst e91
        exact absurd (show zsr_ 91 < least by have : zsr_ 91 = 0 := rfl; omega) e
      · have ho : O.head? ≠ some 11 := fun q => by
          rcases hw.2.1 q with z | z
          · exact c11 z
          · exact e91 z
        obtain ⟨i1, i2⟩ := zpp_ab h0 hw.2.2 ho
        refine ⟨?_, i2⟩
        rw [i1]
        show zab O = if c = 91 then true :: zab O else if c = 11 then false :: zab O else zab O
        rw [if_neg e91, if_neg c11]
/-- nots pop one by one: steps of the grammar -/
theorem zpp_to {b : Int → Int} {T p a l least : Int} : ∀ {O : List Int}, zwf O → (∀ c, O.head? = some c → least = 3) → 1 ≤ least → zg_to b T (5, 0, p, a, l, zab O) (5, 0, p, a, l, zab (zpp least O))
  | [], _, _, _ => zg_refl
  | c :: O, hw, h3, h1 => by
    show zg_to b T (5, 0, p, a, l, if c = 91 then true :: zab O else if c = 11 then false :: zab O else zab O) (5, 0, p, a, l, zab (if zsr_ c < least then c :: O else zpp least O))
    have e3 := h3 c rfl
    subst e3
    by_cases e11 : c = 11
    · subst e11
      rw [if_neg (by decide), if_pos rfl, if_neg (by decide)]
      exact zg_trans (zg_one rfl) (zpp_to hw.2.2 (fun _ _ => rfl) (by omega))
    · have e : zsr_ c < 3 := by
        unfold zsr_
        by_cases a1 : c = 13
        · rw [if_pos a1]; omega
        · rw [if_neg a1]
          by_cases a2 : c = 12
          · rw [if_pos a2]; omega
          · rw [if_neg a2, if_neg e11]; omega
      rw [if_pos e]
      exact zg_refl
theorem zab_in : ∀ {O : List Int}, O.head? ≠ some 11 → zwf O → (91 ∈ O ↔ ∃ r, zab O = true :: r) ∧ (91 ∉ O → zab O = [])
  | [], _, _ => ⟨⟨fun h => (by cases h), fun ⟨r, h⟩ => (by cases h)⟩, fun _ => rfl⟩
  | c :: O, h, hw => by
    have c11 : c ≠ 11 := fun q => h (by rw [q]; rfl)
    have ez : zab (c :: O) = if c = 91 then true :: zab O else if c = 11 then false :: zab O else zab O := rfl
    rw [ez]
    by_cases e91 : c = 91
    · rw [if_pos e91]
      exact ⟨⟨fun _ => ⟨_, rfl⟩, fun _ => by rw [e91]; exact List.mem_cons_self⟩, fun z => absurd (by rw [e91]; exact List.mem_cons_self) z⟩
    · rw [if_neg e91, if_neg c11]
      have ho : O.head? ≠ some 11 := fun q => (hw.2.1 q).elim c11 e91
      obtain ⟨i1, i2⟩ := zab_in ho hw.2.2
      have em : 91 ∈ c :: O ↔ 91 ∈ O := ⟨fun z => (List.mem_cons.mp z).resolve_left (fun q => e91 q.symm), fun z => List.mem_cons_of_mem _ z⟩
      rw [em]
      exact ⟨i1, i2⟩
section RF
variable {s0 s : zS} {t T N m ln : Int} {O : List Int}
theorem zr_strength {c : Int} : zE xm_c143 [c] s (zsr_ c) s := by
  unfold zsr_
  refine zb_143_0 (fun q => zb_143_3 (by rw [if_pos q])) (fun q => zb_143_5 (fun q2 => zb_143_8 (by rw [if_neg q, if_pos q2])) (fun q2 => zb_143_10 (fun q3 => zb_143_13 (by rw [if_neg q, if_neg q2, if_pos q3])) (fun q3 => zb_143_15 (by rw [if_neg q, if_neg q2, if_neg q3]))))
/-- the stack's cells are set -/
theorem zRs.sk {O1 : zO} {O2 : List Int} {d : Int} (h : zRs s0 t N m O1 ln s) (hd : d = zdp O2) (ho : zop O2 s) : zRs s0 t N m (some O2) ln (zu (zu s 344 16 ((O2.length : Nat) : Int)) 344 13 d) := by
  have e : ∀ b, b ≠ 13 → b ≠ 16 → (zu (zu s 344 16 ((O2.length : Nat) : Int)) 344 13 d) 344 b = s 344 b := fun b h1 h2 => by rw [zu_place h1, zu_place h2]
  refine ⟨by rw [e 8 (by decide) (by decide), e 9 (by decide) (by decide), e 11 (by decide) (by decide), e 12 (by decide) (by decide), e 14 (by decide) (by decide)]; exact h.1, ⟨?_, ?_, zop_u (by decide) (zop_u (by decide) ho)⟩, zK_u (zK_u h.2.2 (by omega)) (by omega)⟩
  · rw [zu_hit]
    exact hd
  · rw [zu_place (by decide), zu_hit]
theorem zRs.pop {c : Int} (h : zRs s0 t N m (some (c :: O)) ln s) : s 351 ((O.length : Nat) : Int) = c ∧ s 344 16 - 1 = ((O.length : Nat) : Int) := by
  refine ⟨h.2.1.2.2.1, ?_⟩
  rw [h.2.1.2.1, List.length_cons]
  omega
theorem zRs.top {c : Int} (h : zRs s0 t N m (some (c :: O)) ln s) (hc : c ≠ 91) (hc2 : c ≠ 11) : zRs s0 t N m (some O) ln (zu s 344 16 ((O.length : Nat) : Int)) := by
  have e : ∀ b, b ≠ 16 → (zu s 344 16 ((O.length : Nat) : Int)) 344 b = s 344 b := fun b h2 => zu_place h2
  refine ⟨by rw [e 8 (by decide), e 9 (by decide), e 11 (by decide), e 12 (by decide), e 14 (by decide)]; exact h.1, ⟨?_, zu_hit, zop_u (by decide) h.2.1.2.2.2⟩, zK_u h.2.2 (by omega)⟩
  rw [e 13 (by decide), h.2.1.1]
  show (if c = 91 ∨ c = 11 then 1 else 0) + zdp O = zdp O
  rw [if_neg (fun z => z.elim hc hc2)]
  omega
/-- both cells, in the other order -/
theorem zu_swap {s : zS} {j i x i' x' : Int} (h : i ≠ i') : zu (zu s j i x) j i' x' = zu (zu s j i' x') j i x := by
  funext a b
  unfold zu
  by_cases e1 : a = j ∧ b = i
  · rw [if_neg (fun z => h (e1.2.symm.trans z.2)), if_pos e1]
    simp only [if_pos e1]
  · simp only [if_neg e1]
theorem zr_settles {least : Int} (h1 : 1 ≤ least) : ∀ {O : List Int} {s : zS}, zwf O → O.length ≤ 1000 → zRs s0 t N m (some O) ln s → ∃ s', zE xm_c144 [344, least] s 0 s' ∧ zRs s0 t N m (some (zpp least O)) ln s' := by
  intro O
  induction O with
  | nil =>
    intro s hw hl h
    have e16 : s 344 16 = 0 := h.2.1.2.1
    exact ⟨s, zb_144_0 (fun q => by rw [e16] at q; omega) (fun _ => zb_144_41 rfl), h⟩
  | cons c O ih =>
    intro s hw hl h
    have hl' : O.length ≤ 1000 := by
      have : (c :: O).length = O.length + 1 := rfl
      omega
    obtain ⟨p1, p2⟩ := h.pop
    have e16 : s 344 16 = ((O.length : Nat) : Int) + 1 := by omega
    have hst : zE xm_c143 [s (344 + 7) (zw (s 344 16 - 1))] s (zsr_ c) s := by
      rw [e16, zw_id (by omega) (by omega), show ((O.length : Nat) : Int) + 1 - 1 = ((O.length : Nat) : Int) by omega, show (344 : Int) + 7 = 351 from rfl, p1]
      exact zr_strength
    show ∃ s', zE xm_c144 [344, least] s 0 s' ∧ zRs s0 t N m (some (if zsr_ c < least then c :: O else zpp least O)) ln s'
    by_cases e : zsr_ c < least
    · rw [if_pos e]
      exact ⟨s, zb_144_0 (fun _ => zb_144_3 hst (zb_144_11 (fun _ => zb_144_41 rfl) (fun q => absurd e q))) (fun q => absurd (show 0 < s 344 16 by omega) q), h⟩
    · rw [if_neg e]
      have hz : zu s 344 16 (zw (s 344 16 - 1)) = zu s 344 16 ((O.length : Nat) : Int) := by
        rw [e16, zw_id (by omega) (by omega), show ((O.length : Nat) : Int) + 1 - 1 = ((O.length : Nat) : Int) by omega]
      have c91 : c ≠ 91 := fun q => e (by rw [q]; show zsr_ 91 < least; have : zsr_ 91 = 0 := rfl; omega)
      have hcc : (zu s 344 16 (zw (s 344 16 - 1))) (344 + 7) ((zu s 344 16 (zw (s 344 16 - 1))) 344 16) = c := by
        rw [hz, zu_hit, show (344 : Int) + 7 = 351 from rfl, zu_cell (by decide)]
        exact p1
      -- puts leaves the stack's cells
      have hputs : ∃ s1, zE xm_c140 [344, (zu s 344 16 (zw (s 344 16 - 1))) (344 + 7) ((zu s 344 16 (zw (s 344 16 - 1))) 344 16), 0] (zu s 344 16 (zw (s 344 16 - 1))) 0 s1 ∧ (∀ y, s1 344 y = (zu s 344 16 ((O.length : Nat) : Int)) 344 y) ∧ (∀ y, s1 351 y = s 351 y) ∧ ∃ x1 y1 x2 y2, s1 = zu (zu (zu s 344 16 ((O.length : Nat) : Int)) 346 x1 y1) 347 x2 y2 := by
        refine ⟨_, zb_140_0 rfl, fun y => ?_, fun y => ?_, ?_⟩
        · rw [zu_cell (by decide), zu_cell (by decide), hz]
        · rw [zu_cell (by decide), zu_cell (by decide), hz, zu_cell (by decide)]
        · rw [hz]
          exact ⟨_, _, _, _, rfl⟩
      obtain ⟨s1, q1, q2, q3, x1, y1, x2, y2, q4⟩ := hputs
      have h27 : s1 (344 + 7) (s1 344 16) = c := by
        rw [q2, zu_hit, show (344 : Int) + 7 = 351 from rfl, q3]
        exact p1
      by_cases e11 : c = 11
      · -- a not: one less deep
        have hd : zdp (c :: O) = 1 + zdp O := by
          show (if c = 91 ∨ c = 11 then 1 else 0) + zdp O = _
          rw [if_pos (Or.inr e11)]
        have e13 : s1 344 13 = 1 + zdp O := by
          rw [q2, zu_place (by decide), h.2.1.1, hd]
        have hdb : zdp O ≤ 1000 := by
          rw [zdp_ab]
          have : (zab O).length ≤ O.length := by
            have : ∀ L : List Int, (zab L).length ≤ L.length := by
              intro L
              induction L with
              | nil => exact Nat.le_refl _
              | cons d L ih2 =>
                show (if d = 91 then true :: zab L else if d = 11 then false :: zab L else zab L).length ≤ L.length + 1
                by_cases f1 : d = 91
                · rw [if_pos f1]; exact Nat.succ_le_succ ih2
                · rw [if_neg f1]
                  by_cases f2 : d = 11
                  · rw [if_pos f2]; exact Nat.succ_le_succ ih2
                  · rw [if_neg f2]; exact Nat.le_succ_of_le ih2
            exact this O
          omega
        have hd0 : 0 ≤ zdp O := by rw [zdp_ab]; omega
        have h2 : zRs s0 t N m (some O) ln (zu s1 344 13 (zw (s1 344 13 - 1))) := by
          rw [e13, zw_id (by omega) (by omega), show 1 + zdp O - 1 = zdp O by omega, q4]
          have base := h.sk (O2 := O) (d := zdp O) rfl h.2.1.2.2.2
          have j1 := (base.junk (x := 346) (y := x1) (v := y1) (by omega)).junk (x := 347) (y := x2) (v := y2) (by omega)
          have sw : ∀ (s : zS) (x y v d : Int), x ≠ 344 → zu (zu s 344 13 d) x y v = zu (zu s x y v) 344 13 d := by
            intro s x y v d hx
            funext a b
            unfold zu
            by_cases f1 : a = x ∧ b = y
            · have : ¬ (a = 344 ∧ b = 13) := fun z => hx (f1.1.symm.trans z.1)
              simp only [if_pos f1, if_neg this]
            · simp only [if_neg f1]
          rw [sw _ _ _ _ _ (by decide), sw _ _ _ _ _ (by decide)] at j1
          exact j1
        obtain ⟨s', u1, u2⟩ := ih hw.2.2 hl' h2
        refine ⟨s', zb_144_0 (fun _ => zb_144_3 hst (zb_144_11 (fun q => absurd q e) (fun _ => zb_144_13 q1 (zb_144_27 (fun _ => zb_144_34 u1) (fun q => absurd (by rw [h27]; exact e11) q))))) (fun q => absurd (show 0 < s 344 16 by omega) q), u2⟩
      · have h2 : zRs s0 t N m (some O) ln s1 := by
          rw [q4]
          exact ((h.top c91 e11).junk (by omega)).junk (by omega)
        obtain ⟨s', u1, u2⟩ := ih hw.2.2 hl' h2
        refine ⟨s', zb_144_0 (fun _ => zb_144_3 hst (zb_144_11 (fun q => absurd q e) (fun _ => zb_144_13 q1 (zb_144_27 (fun q => absurd q (by rw [h27]; exact e11)) (fun _ => u1))))) (fun q => absurd (show 0 < s 344 16 by omega) q), u2⟩
end RF
