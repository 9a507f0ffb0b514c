/-! the start -/
theorem xk_nest : ∀ w ∈ xm_nest, w ∈ lw_tbl := by decide +kernel
theorem xk_str : ∀ q ∈ xm_str, Jvm.Cond.stringRef q.1 q.2.1 q.2.2 ∈ lw_tbl := by decide +kernel
theorem xk_stx : ∀ q ∈ xm_str, Jvm.Cond.exactly (.string q.1 q.2.1) "java/lang/String" ∈ flatC (Jvm.Cond.and given_1 narrow_1) := by decide +kernel
theorem xk_ao : ∀ C ∈ ["StairNews$Rule", "StairNews$Folk", "StairNews$Lore", "StairNews$Scene"], Jvm.Cond.arrayOver (.object C) ∈ lw_tbl := by decide +kernel
theorem xs_tbl {w : Jvm.Cond} (h : w ∈ xm_tb) : w ∈ lw_tbl := (List.mem_filter.mp h).1
theorem xs_G0 {j : Nat} {o : xm_O} (h : xm_hget xm_G0 j = some o) : j < 7 ∧ ((j = 0 ∧ o = (300, [])) ∨ (1 ≤ j ∧ o = (199 + j, []))) := by
  have h : xm_jn (xm_nth (xm_ck xm_G0.2 (j / 16)) (j % 16)) = some o := h
  by_cases h16 : j / 16 = 0
  · rw [h16] at h
    have h : xm_jn (xm_nth [some (300, []), some (200, []), some (201, []), some (202, []), some (203, []), some (204, []), some (205, [])] (j % 16)) = some o := h
    rw [xl_nth, show j % 16 = j by omega] at h
    match j, h with
    | 0, h => cases h; exact ⟨by omega, Or.inl ⟨rfl, rfl⟩⟩
    | 1, h => cases h; exact ⟨by omega, Or.inr ⟨by omega, rfl⟩⟩
    | 2, h => cases h; exact ⟨by omega, Or.inr ⟨by omega, rfl⟩⟩
    | 3, h => cases h; exact ⟨by omega, Or.inr ⟨by omega, rfl⟩⟩
    | 4, h => cases h; exact ⟨by omega, Or.inr ⟨by omega, rfl⟩⟩
    | 5, h => cases h; exact ⟨by omega, Or.inr ⟨by omega, rfl⟩⟩
    | 6, h => cases h; exact ⟨by omega, Or.inr ⟨by omega, rfl⟩⟩
    | n + 7, h =>
      rw [List.getElem?_eq_none (by show 7 ≤ n + 7; omega)] at h
      cases h
  · have h2 : xm_ck xm_G0.2 (j / 16) = [] := by
      unfold xm_ck
      rw [xl_nth, List.getElem?_eq_none (by show 1 ≤ j / 16; omega)]
    rw [h2] at h
    cases h
theorem xs_start {p : Program} {s : State} {m : MethodId} {meth : Method} {c : Code} {b L : Nat} {xs : Nat → Int32} (hL : L ≤ 6) (C0 : lw_At p s m meth c b L xs) : ∃ Z : xs_Z, xs_b Z = s.heap.size ∧ xs_KW Z s ∧ xs_HW Z xm_G0 s.heap ∧ xs_sat Z xm_E0 ∧ xs_rho Z 0 = b := by
  obtain ⟨hx, hb, hr, hml, hown, hts, hX, hbl, hlocks, hgv⟩ := C0
  have hcl : ∀ a : Nat, ∃ q : ClassId × (Nat → Nat), ∀ r : vw_C, xm_cls[a]? = some r → u_Kn s r.1 r.2.1 r.2.2 q.1 q.2 := by
    intro a
    cases hr : xm_cls[a]? with
    | none => exact ⟨(0, fun _ => 0), fun r h => by cases h⟩
    | some r =>
      obtain ⟨f, t1, t2, t3, -⟩ := xs_tok hr
      obtain ⟨cC, iS, h⟩ := u_known (ws := lw_tbl) hts (fun w hw => xs_tbl (t3 w hw)) (hts _ (xs_tbl (xk_w t1)))
      exact ⟨(cC, iS), fun r' h' => by cases h'; exact h⟩
  obtain ⟨D, hD⟩ := Classical.axiomOfChoice hcl
  have hpr : ∀ ty : FieldType, (Jvm.Cond.arrayClass ty).before #[Value.ref b] s = true → ∃ cA, ArrOfT s cA ty ∧ s.vm.findClass ("[" ++ ty.toString) = some cA := by
    intro ty h
    obtain ⟨cA, kA, comp, h1, h2, h3⟩ := Cond.arrayClass_spec h
    exact ⟨cA, fun n z => ⟨fun k h => (by cases h), kA, h2, comp, h3⟩, h1⟩
  have hrf : ∀ C : String, C ∈ ["StairNews$Rule", "StairNews$Folk", "StairNews$Lore", "StairNews$Scene"] → ∃ cA, ArrOfT s cA (.object C) ∧ va_RA s cA (.object C) := by
    intro C hC
    obtain ⟨comp, cA, kA, h1, -, h2, h3, h4⟩ := Cond.arrayOver_spec (hts _ (xk_ao C hC))
    exact ⟨cA, fun n z => ⟨fun k h => (by cases h), kA, h2, comp, h3⟩, kA, comp, h2, h3, h1, h4⟩
  obtain ⟨a0, p0, q0⟩ := hpr .int (hts _ (xs_tbl (xk_w xk_a0)))
  obtain ⟨a1, p1, q1⟩ := hpr .byte (hts _ (xs_tbl (xk_w xk_a1)))
  obtain ⟨a2, p2, q2⟩ := hpr .long (hts _ (xs_tbl (xk_w xk_a2)))
  obtain ⟨a3, p3, q3⟩ := hpr .boolean (hts _ (xs_tbl (xk_w xk_a3)))
  obtain ⟨a4, p4, q4⟩ := hrf "StairNews$Rule" (by decide)
  obtain ⟨a5, p5, q5⟩ := hrf "StairNews$Folk" (by decide)
  obtain ⟨a6, p6, q6⟩ := hrf "StairNews$Lore" (by decide)
  obtain ⟨a7, p7, q7⟩ := hrf "StairNews$Scene" (by decide)
  have hst : ∀ i : Nat, ∃ a : Nat, a < s.heap.size ∧ ∀ q, xm_str[i]? = some q → vk_R q.1 q.2.1 q.2.2 a s := by
    intro i
    cases hq : xm_str[i]? with
    | none => exact ⟨b, hbl, fun q h => by cases h⟩
    | some q =>
      have hm := List.mem_of_getElem? hq
      have h1 := flat_of_before _ hgv _ (xk_stx q hm)
      obtain ⟨a, cc, cell, k, g1, g2, g3, -⟩ := Cond.exactly_spec (args := #[Value.ref b]) (first := s) (o := none) (s := s) (idx := []) (t := .string q.1 q.2.1) (cls := "java/lang/String") h1
      exact ⟨a, (Array.getElem?_eq_some_iff.mp g3).1, fun q' h' => by cases h'; exact vk_R.of (hts _ (xk_str q hm)) g1⟩
  obtain ⟨sa, hsa⟩ := Classical.axiomOfChoice hst
  obtain ⟨scr, x1, x2, x3, x4, x5⟩ := hX
  refine ⟨((fun a => (D a).1, fun a => (D a).2), fun t => match t with
    | 0 => a0
    | 1 => a1
    | 2 => a2
    | 3 => a3
    | 4 => a4
    | 5 => a5
    | 6 => a6
    | _ => a7, s.heap.size, fun j => match j with
    | 0 => b
    | n + 1 => sa n, fun j => if j = 6 then nI L else xs j, scr), rfl, ⟨⟨fun a r h => hD a r h, fun k q hk => ?_⟩, fun w hw => ?_, fun i q hq => (hsa i).2 q hq, ⟨x2, x3, ?_, ?_, fun j hj => ?_⟩, fun j hj => ?_, fun C hC => va_AO.of (hts _ (xk_ao C hC))⟩, ⟨Nat.le_refl 7, rfl, fun j o ho => ?_⟩, fun i lo hi hE => ?_, rfl⟩
  · match k, hk with
    | 0, hk => cases hk; exact ⟨p0, q0⟩
    | 1, hk => cases hk; exact ⟨p1, q1⟩
    | 2, hk => cases hk; exact ⟨p2, q2⟩
    | 3, hk => cases hk; exact ⟨p3, q3⟩
    | 4, hk => cases hk; exact ⟨p4, q4⟩
    | 5, hk => cases hk; exact ⟨p5, q5⟩
    | 6, hk => cases hk; exact ⟨p6, q6⟩
    | 7, hk => cases hk; exact ⟨p7, q7⟩
    | n + 8, hk =>
      have hk : ([] : List (ClassId × FieldType))[n]? = some q := hk
      simp at hk
  · obtain ⟨a, i, x, h, rfl⟩ := xs_nest hw
    exact va_Nw.of rfl (hts _ (xk_nest _ hw))
  · show scr.slots.size < 2 ^ 31
    rw [x4]
    omega
  · show (if (6 : Nat) = 6 then nI L else xs 6) = nI scr.slots.size
    rw [if_pos rfl, x4]
  · have hj : j < L := by rw [← x4]; exact hj
    show scr.slots[j]? = some (.int (if j = 6 then nI L else xs j))
    rw [if_neg (by omega)]
    exact x5 j hj
  · match j with
    | 0 => exact hbl
    | n + 1 => exact (hsa n).1
  · obtain ⟨h1, h2⟩ := xs_G0 ho
    refine ⟨h1, ?_⟩
    rcases h2 with ⟨rfl, rfl⟩ | ⟨h3, rfl⟩
    · exact Or.inr (Or.inr (Or.inl ⟨rfl, rfl, x1⟩))
    · exact Or.inr (Or.inr (Or.inr ⟨by show 200 ≤ 199 + j; omega, by show 199 + j < 206; omega⟩))
  · have full : ∀ x : Int32, -2147483648 ≤ x.toInt ∧ x.toInt ≤ 2147483647 := by
      intro x
      have h1 := Int32.le_toInt x
      have h2 := Int32.toInt_lt x
      omega
    match i, hE with
    | 0, hE => cases hE; exact full _
    | 1, hE => cases hE; exact full _
    | 2, hE => cases hE; exact full _
    | 3, hE => cases hE; exact full _
    | 4, hE => cases hE; exact full _
    | 5, hE => cases hE; exact full _
    | 6, hE =>
      cases hE
      show 0 ≤ (nI L).toInt ∧ (nI L).toInt ≤ 6
      rw [nI_toInt (by omega)]
      omega
    | n + 7, hE =>
      have hE : ([] : xm_R)[n]? = some (lo, hi) := hE
      simp at hE
set_option maxRecDepth 20000 in
/-- from the entry, for every script of at most 6 ints, the law comes to its end with true -/
theorem whole_start {p : Program} {e : Env} {s : State} {m : MethodId} {below : List Frame} {meth : Method} {c : Code} (l : Launch) {b L : Nat} {xs : Nat → Int32} (hL : L ≤ 6) (C0 : lw_At p s m meth c b L xs) : W p l e room_1 s m #[Value.ref b] below meth c s.heap [] 0 0 (lw_Z below #[Value.ref b] s) (entryFrame m ([Value.ref b] : List Value).toArray 4) := by
  obtain ⟨Z, z1, z2, z3, z4, z5⟩ := xs_start hL C0
  obtain ⟨hx, hb, hr, hml, hown, hts, hX, hbl, hlocks, hgv⟩ := C0
  have X : xs_Cx p s m #[Value.ref b] c code 4 0 Z := ⟨hx, hb, hml, hown, fun w hw => hts w (xs_tbl hw), z2, by decide⟩
  obtain ⟨k1, k2, k3⟩ := xs_okM xk_ok0
  have hl := lv_entry ([Value.ref b] : List Value) (n := 4) (Nat.le_of_ble_eq_true rfl)
  rw [lg_entry_eq]
  generalize (lg_sl ([Value.ref b] : List Value) ++ List.replicate (4 - (lg_sl ([Value.ref b] : List Value)).length) Slot.unset).toArray = ls at hl ⊢
  have hret : xs_RH p l e room_1 s m #[Value.ref b] below meth c (lw_Z below #[Value.ref b] s) code 4 600000 7302250 (some .boolean) (fun r _ _ => decide (r = some (.int 1))) Z := by
    intro pc i v st1 kc ks lv G E H locs ls hd hrt hQ h1 h2 S
    rcases hrt with ⟨rfl, w, rfl, rfl, a1, a2⟩ | ⟨rfl, w, rfl, rfl, a1, a2⟩ | ⟨rfl, w, rfl, rfl, a1, a2⟩ | ⟨rfl, rfl, rfl, a1⟩
    · have hw : w = .int 1 := Option.some.inj (of_decide_eq_true hQ)
      subst hw
      refine va_forget (fun q hq => by rw [← z1]; exact S.2.2.2 q hq) ?_
      refine W.widen h1 h2 ?_
      exact lw_ret hx hb hr hlocks hd
    · have hw : w = .int 1 := Option.some.inj (of_decide_eq_true hQ)
      subst hw
      cases a1
    · have hw : w = .int 1 := Option.some.inj (of_decide_eq_true hQ)
      subst hw
      cases a1
    · cases a1
  have hg := xs_run (R := room_1) (l := l) (e := e) (below := below) (meth := meth) (mc := 600000) (ms := 7302250) (d := 12) (ret := some .boolean) X k3 (fun hi => absurd hi (by decide)) ⟨by decide, by decide, by decide, by decide⟩ (xs_exec l Z 12) hret 1000000 xm_c0 k3 _ _ rfl
  have hW := hg _ [] xm_G0 xm_E0 0 0 xk_law s.heap [] ls ⟨z4, z3, by rw [xs_args]; show lv_has ls 4 [(0, .ref (xs_rho Z 0))]; rw [z5]; exact hl, fun q hq => by cases hq⟩
  exact hW
