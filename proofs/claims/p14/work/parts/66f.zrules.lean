/-! the flat machine: more fuel does no harm; from place to place -/
theorem zm_mono {nx nx' : zN} {cl cl' : Nat → Nat → List xm_E → List Int → List zV → zS → Option (Int × zS)} (hn : ∀ suf lz st s R, nx suf lz st s = some R → nx' suf lz st s = some R) (hc : ∀ m b suf lz st s R, cl m b suf lz st s = some R → cl' m b suf lz st s = some R) {rt : Int → zS → Option (Int × zS)} {full rest : List xm_E} {pc a b : Nat} {ts : List Nat} {v : Value} {lz : List Int} {st : List zV} {s : zS} {R : Int × zS} (i : Instr) (h : zm_body nx cl rt none full (pc, i, a, b, ts, v) rest lz st s = some R) : zm_body nx' cl' rt none full (pc, i, a, b, ts, v) rest lz st s = some R := by
  have const : (bif zp v then nx rest lz ((xm_isL v, zi v) :: st) s else none) = some R → (bif zp v then nx' rest lz ((xm_isL v, zi v) :: st) s else none) = some R := by
    intro h
    cases e : zp v with
    | true => rw [e] at h; exact hn _ _ _ _ _ h
    | false => rw [e] at h; cases h
  cases i with
  | invokevirtual n =>
    have e : ∀ (nx : zN) cl, zm_body nx cl rt none full (pc, .invokevirtual n, a, b, ts, v) rest lz st s = (bif Nat.beq a 1006 then (match (generalizing := false) st with
        | (_, j) :: st => nx rest lz ((false, zslen j) :: st) s
        | _ => none)
      else bif Nat.beq a 1007 then (match (generalizing := false) st with
        | (_, x) :: (_, j) :: st => nx rest lz ((false, zchar j x) :: st) s
        | _ => none)
      else cl a 0 rest lz st s) := fun _ _ => rfl
    rw [e] at h ⊢
    cases h6 : Nat.beq a 1006 with
    | true =>
      rw [h6, cond_true] at h
      rw [cond_true]
      rcases st with _ | ⟨⟨b1, x1⟩, st⟩
      · cases h
      · exact hn _ _ _ _ _ h
    | false =>
      rw [h6, cond_false] at h
      rw [cond_false]
      cases h7 : Nat.beq a 1007 with
      | true =>
        rw [h7, cond_true] at h
        rw [cond_true]
        rcases st with _ | ⟨⟨b1, x1⟩, _ | ⟨⟨b2, x2⟩, st⟩⟩
        · cases h
        · cases h
        · exact hn _ _ _ _ _ h
      | false =>
        rw [h7, cond_false] at h
        rw [cond_false]
        exact hc _ _ _ _ _ _ _ h
  | invokespecial n =>
    have e : ∀ (nx : zN) cl, zm_body nx cl rt none full (pc, .invokespecial n, a, b, ts, v) rest lz st s = (bif Nat.beq a 1000 then none else cl a 2 rest lz st s) := fun _ _ => rfl
    rw [e] at h ⊢
    cases h6 : Nat.beq a 1000 with
    | true => rw [h6] at h; cases h
    | false =>
      rw [h6, cond_false] at h
      rw [cond_false]
      exact hc _ _ _ _ _ _ _ h
  | invokestatic n =>
    have e : ∀ (nx : zN) cl, zm_body nx cl rt none full (pc, .invokestatic n, a, b, ts, v) rest lz st s = (bif Nat.beq a 1001 then (match (generalizing := false) st with
        | (_, n) :: (_, dp) :: (_, j) :: (_, sp) :: (_, i) :: st => nx rest lz st (zcpy s i sp j dp n)
        | _ => none)
      else bif Nat.beq a 1003 then (match (generalizing := false) st with
        | (_, y) :: (_, x) :: st => nx rest lz ((false, if x < y then y else x) :: st) s
        | _ => none)
      else bif Nat.beq a 1004 then (match (generalizing := false) st with
        | (_, y) :: (_, x) :: st => nx rest lz ((false, if y < x then y else x) :: st) s
        | _ => none)
      else bif Nat.beq a 1005 then (match (generalizing := false) st with
        | (_, x) :: st => nx rest lz ((false, if 0 ≤ x then x else zw (0 - x)) :: st) s
        | _ => none)
      else cl a 1 rest lz st s) := fun _ _ => rfl
    rw [e] at h ⊢
    cases h6 : Nat.beq a 1001 with
    | true =>
      rw [h6, cond_true] at h
      rw [cond_true]
      rcases st with _ | ⟨⟨b1, x1⟩, _ | ⟨⟨b2, x2⟩, _ | ⟨⟨b3, x3⟩, _ | ⟨⟨b4, x4⟩, _ | ⟨⟨b5, x5⟩, st⟩⟩⟩⟩⟩ <;> first | (cases h; done) | exact hn _ _ _ _ _ h
    | false =>
      rw [h6, cond_false] at h
      rw [cond_false]
      cases h7 : Nat.beq a 1003 with
      | true =>
        rw [h7, cond_true] at h
        rw [cond_true]
        rcases st with _ | ⟨⟨b1, x1⟩, _ | ⟨⟨b2, x2⟩, st⟩⟩ <;> first | (cases h; done) | exact hn _ _ _ _ _ h
      | false =>
        rw [h7, cond_false] at h
        rw [cond_false]
        cases h8 : Nat.beq a 1004 with
        | true =>
          rw [h8, cond_true] at h
          rw [cond_true]
          rcases st with _ | ⟨⟨b1, x1⟩, _ | ⟨⟨b2, x2⟩, st⟩⟩ <;> first | (cases h; done) | exact hn _ _ _ _ _ h
        | false =>
          rw [h8, cond_false] at h
          rw [cond_false]
          cases h9 : Nat.beq a 1005 with
          | true =>
            rw [h9, cond_true] at h
            rw [cond_true]
            rcases st with _ | ⟨⟨b1, x1⟩, st⟩ <;> first | (cases h; done) | exact hn _ _ _ _ _ h
          | false =>
            rw [h9, cond_false] at h
            rw [cond_false]
            exact hc _ _ _ _ _ _ _ h
  | putfield n =>
    rcases st with _ | ⟨⟨b1, x1⟩, _ | ⟨⟨b2, x2⟩, st⟩⟩
    · cases h
    · cases h
    · have e : ∀ (nx : zN) cl, zm_body nx cl rt none full (pc, .putfield n, a, b, ts, v) rest lz ((b1, x1) :: (b2, x2) :: st) s = (bif Nat.blt a 12 && Nat.blt b 40 then (match zcon a x2 b with
        | some _ => none
        | none => nx rest lz st (zu s x2 ((b : Nat) : Int) x1)) else none) := fun _ _ => rfl
      rw [e] at h ⊢
      cases hb : (Nat.blt a 12 && Nat.blt b 40) with
      | false => rw [hb] at h; cases h
      | true =>
        rw [hb, cond_true] at h
        rw [cond_true]
        cases hz : zcon a x2 b with
        | some c => rw [hz] at h; cases h
        | none => rw [hz] at h; exact hn _ _ _ _ _ h
  | arraylength =>
    rcases st with _ | ⟨⟨b1, x1⟩, st⟩
    · cases h
    · have e : ∀ (nx : zN) cl, zm_body nx cl rt none full (pc, .arraylength, a, b, ts, v) rest lz ((b1, x1) :: st) s = (if x1 = 0 then none else nx rest lz ((false, zw (zlen x1)) :: st) s) := fun _ _ => rfl
      rw [e] at h ⊢
      by_cases hx : x1 = 0
      · rw [if_pos hx] at h; cases h
      · rw [if_neg hx] at h ⊢
        exact hn _ _ _ _ _ h
  | tableswitch dd lo hi offs =>
    rcases st with _ | ⟨⟨b1, x1⟩, st⟩
    · cases h
    · have e : ∀ (nx : zN) cl, zm_body nx cl rt none full (pc, .tableswitch dd lo hi offs, a, b, ts, v) rest lz ((b1, x1) :: st) s = (match zsw lo a ts x1 with
        | some t => nx (xm_drop t full) lz st s
        | none => none) := fun _ _ => rfl
      rw [e] at h ⊢
      cases hz : zsw lo a ts x1 with
      | none => rw [hz] at h; cases h
      | some t => rw [hz] at h; exact hn _ _ _ _ _ h
  | ifCond c off => rcases st with _ | ⟨⟨b1, x1⟩, st⟩ <;> cases c <;> first | (cases h; done) | exact hn _ _ _ _ _ h
  | if_icmp c off => rcases st with _ | ⟨⟨b1, x1⟩, _ | ⟨⟨b2, x2⟩, st⟩⟩ <;> cases c <;> first | (cases h; done) | exact hn _ _ _ _ _ h
  | ireturn => exact h
  | lreturn => exact h
  | areturn => exact h
  | return_ => exact h
  | iconst n => exact const h
  | bipush n => exact const h
  | sipush n => exact const h
  | lconst n => exact const h
  | aconst_null => exact const h
  | ldc n => exact const h
  | ldc_w n => exact const h
  | ldc2_w n => exact const h
  | _ => first | (exact absurd h (fun q => by cases q)) | exact hn _ _ _ _ _ h | (rcases st with _ | ⟨⟨b1, x1⟩, _ | ⟨⟨b2, x2⟩, _ | ⟨⟨b3, x3⟩, st⟩⟩⟩ <;> first | (cases h; done) | exact hn _ _ _ _ _ h)
theorem zm_more : ∀ (F : Nat) (full suf : List xm_E) (lz : List Int) (st : List zV) (s : zS) (R : Int × zS), zm_run F full suf lz st s = some R → zm_run (F + 1) full suf lz st s = some R
  | 0, full, suf, lz, st, s, R, h => by
    have h : (none : Option (Int × zS)) = some R := h
    cases h
  | F + 1, full, suf, lz, st, s, R, h => by
    match suf, h with
    | [], h =>
      have h : (none : Option (Int × zS)) = some R := h
      cases h
    | (pc, i, a, b, ts, v) :: rest, h =>
      replace h : zm_body (zm_run F full) (zm_call (zm_run F) full) zrt none full (pc, i, a, b, ts, v) rest lz st s = some R := h
      show zm_body (zm_run (F + 1) full) (zm_call (zm_run (F + 1)) full) zrt none full (pc, i, a, b, ts, v) rest lz st s = some R
      refine zm_mono (nx := zm_run F full) (cl := zm_call (zm_run F) full) (nx' := zm_run (F + 1) full) (cl' := zm_call (zm_run (F + 1)) full) (fun suf lz st s R h => zm_more F full suf lz st s R h) (fun m b suf lz st s R h => ?_) i h
      unfold zm_call at h ⊢
      cases hm : xm_nth xm_mtab m with
      | none => rw [hm] at h; cases h
      | some r =>
        obtain ⟨r1, y, r3, nL1, ret1, n, mc1, ms1, c⟩ := r
        rw [hm] at h
        dsimp only at h ⊢
        cases hq : zm_run F c c (zpad nL1 (zslots (zpop (bif Nat.beq b 1 then n else Nat.succ n) [] st).1)) [] s with
        | none => rw [hq] at h; cases h
        | some p =>
          obtain ⟨r, s1⟩ := p
          rw [hq] at h
          rw [zm_more F _ _ _ _ _ _ hq]
          exact zm_more F _ _ _ _ _ _ h
theorem zm_le {full suf : List xm_E} {lz : List Int} {st : List zV} {s : zS} {R : Int × zS} {F : Nat} (h : zm_run F full suf lz st s = some R) : ∀ d, zm_run (F + d) full suf lz st s = some R
  | 0 => h
  | d + 1 => zm_more _ _ _ _ _ _ _ (zm_le h d)
/-- from the place pc of the code c on the answer is R -/
def zA (c : List xm_E) (pc : Nat) (lz : List Int) (st : List zV) (s : zS) (R : Int × zS) : Prop := ∃ F, zm_run F c (xm_drop pc c) lz st s = some R
/-- the method of the code c answers r -/
abbrev zE (c : List xm_E) (lz : List Int) (s : zS) (r : Int) (s' : zS) : Prop := zA c 0 lz [] s (r, s')
section ZA
variable {c : List xm_E} {pc pc1 pc2 k : Nat} {lz lz1 lz2 : List Int} {st st1 st2 : List zV} {s s1 s2 : zS} {R : Int × zS}
theorem zA_step (h : ∀ F, zm_run (F + k) c (xm_drop pc c) lz st s = zm_run F c (xm_drop pc1 c) lz1 st1 s1) (h1 : zA c pc1 lz1 st1 s1 R) : zA c pc lz st s R := by
  obtain ⟨F, hF⟩ := h1
  exact ⟨F + k, by rw [h]; exact hF⟩
theorem zA_ret (h : ∀ F, zm_run (F + k) c (xm_drop pc c) lz st s = some R) : zA c pc lz st s R := ⟨0 + k, h 0⟩
theorem zA_if {P : Prop} {dP : Decidable P} (h : ∀ F, zm_run (F + k) c (xm_drop pc c) lz st s = zm_run F c (@ite _ P dP (xm_drop pc1 c) (xm_drop pc2 c)) lz1 st1 s1) (h1 : P → zA c pc1 lz1 st1 s1 R) (h2 : ¬ P → zA c pc2 lz1 st1 s1 R) : zA c pc lz st s R := by
  by_cases e : P
  · obtain ⟨F, hF⟩ := h1 e
    exact ⟨F + k, by rw [h, if_pos e]; exact hF⟩
  · obtain ⟨F, hF⟩ := h2 e
    exact ⟨F + k, by rw [h, if_neg e]; exact hF⟩
theorem zA_call {c1 : List xm_E} {l1 : List Int} {push : Int → List zV} {r : Int} (h : ∀ F, zm_run (F + k) c (xm_drop pc c) lz st s = (match zm_run F c1 c1 l1 [] s1 with
    | some (r, s2) => zm_run F c (xm_drop pc1 c) lz1 (push r) s2
    | none => none)) (hE : zE c1 l1 s1 r s2) (h1 : zA c pc1 lz1 (push r) s2 R) : zA c pc lz st s R := by
  obtain ⟨F1, hF1⟩ := hE
  obtain ⟨F2, hF2⟩ := h1
  refine ⟨(F1 + F2) + k, ?_⟩
  rw [h]
  have e1 : zm_run (F1 + F2) c1 c1 l1 [] s1 = some (r, s2) := zm_le (F := F1) hF1 F2
  have e2 : zm_run (F1 + F2) c (xm_drop pc1 c) lz1 (push r) s2 = some R := by rw [Nat.add_comm]; exact zm_le hF2 F1
  rw [e1]
  exact e2
end ZA
theorem zu_hit {s : zS} {j i x : Int} : zu s j i x j i = x := by
  unfold zu
  rw [if_pos ⟨rfl, rfl⟩]
theorem zu_cell {s : zS} {j i x a b : Int} (h : a ≠ j) : zu s j i x a b = s a b := by
  unfold zu
  rw [if_neg (fun q => h q.1)]
theorem zu_place {s : zS} {j i x a b : Int} (h : b ≠ i) : zu s j i x a b = s a b := by
  unfold zu
  rw [if_neg (fun q => h q.2)]
theorem zw_id {x : Int} (h1 : -2147483648 ≤ x) (h2 : x ≤ 2147483647) : zw x = x := ys_bm h1 h2
theorem zq_id {x : Int} (h1 : -9223372036854775808 ≤ x) (h2 : x ≤ 9223372036854775807) : zq x = x := ys_bm64 h1 h2
/-- what the flat machine answers holds of the little one's run, if a contract says that it ends -/
theorem zE_use {I : yI} {Inv : xm_H → Prop} {d m r1 nL n mc ms : Nat} {y : MethodName} {r3 : ByteArray} {ret : Option FieldType} {c : List xm_E} (hc : yc_ok Inv I (xm_exec d)) (hm : xm_nth xm_mtab I.1 = some (r1, y, r3, nL, ret, n, mc, ms, c)) {G : xm_H} {As : List Value} {zs : List zV} {E : xm_R} {Q : xm_Q} {s s' : zS} {r : Int} (hT : ys_HT G) (hI : Inv G) (hA : ys_args As I.2.1) (hf : ys_facts G (fun i => As[i]?) I.2.2.1) (ha : zsr As zs) (hR : zR G s) (hE : zE c (zpad nL (zslots zs)) s r s') (hQ : ∀ (v : Option Value) (G' : xm_H), ys_HT G' → Inv G' → ys_Fr I.2.2.2.2 G G' → (∃ c ∈ I.2.2.2.1, ys_case c As v G') → zres ret v r → zR G' s' → Q v G' E = true) : xm_exec d I.1 As G E Q = true := by
  obtain ⟨F, hF⟩ := hE
  refine zs_exec d F I.1 r1 y r3 nL ret n mc ms c hm As zs G E (fun v G' _ => @decide (ys_HT G' ∧ Inv G' ∧ ys_Fr I.2.2.2.2 G G' ∧ ∃ c ∈ I.2.2.2.1, ys_case c As v G') (Classical.propDecidable _)) Q s s' r ha hR hF (fun v G' z1 z2 z3 => ?_) (hc G As E _ hT hI hA hf (fun r G' h1 h2 h3 h4 => ?_))
  · have z3 := @of_decide_eq_true _ (Classical.propDecidable _) z3
    exact hQ v G' z3.1 z3.2.1 z3.2.2.1 z3.2.2.2 z1 z2
  · exact @decide_eq_true _ (Classical.propDecidable _) ⟨h1, h2, h3, h4⟩
