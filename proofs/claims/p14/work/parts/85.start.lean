/-! the start -/
theorem xk_nest : ∀ w ∈ xm_nest, w ∈ lw_tbl := by decide +kernel
theorem xk_str : ∀ q ∈ xm_str, Jvm.Cond.stringRef q.1 q.2.1 q.2.2 ∈ lw_tbl := by decide +kernel
theorem xk_stx : ∀ q ∈ xm_str, Jvm.Cond.exactly (.string q.1 q.2.1) "java/lang/String" ∈ flatC (Jvm.Cond.and given_1 narrow_1) := by decide +kernel
theorem xk_ao : ∀ C ∈ ["StairNews$Rule", "StairNews$Folk", "StairNews$Lore", "StairNews$Scene"], Jvm.Cond.arrayOver (.object C) ∈ lw_tbl := by decide +kernel
abbrev xn_X : Jvm.Cond := Jvm.Cond.and given_1 narrow_1
def xn_pos : List Nat := [57, 125, 134, 206, 215, 226]
def xn_cs (q : String × Nat × String) (bs : List Nat) : List Jvm.Cond := [.exactly (.string q.1 q.2.1) "java/lang/String", .eq (.field (.string q.1 q.2.1) "java/lang/String" "coder" "B") (.int 0), .arrayOf (.field (.string q.1 q.2.1) "java/lang/String" "value" "[B") .byte, .eq (.length (.field (.string q.1 q.2.1) "java/lang/String" "value" "[B")) (.int (Int32.ofNat bs.length))] ++ (List.range bs.length).map (fun j => .eq (.elem (.field (.string q.1 q.2.1) "java/lang/String" "value" "[B") (.int (Int32.ofNat j))) (.int (Int32.ofNat (bs.getD j 0))))
theorem xk_el : ∀ i, i < 6 → ((flatC xn_X).drop (xn_pos.getD i 0)).take ((xm_stb.getD i []).length + 4) = xn_cs (xm_str.getD i ("", 0, "")) (xm_stb.getD i []) := by decide +kernel
theorem xk_co : Jvm.Cond.eq (.static "java/lang/String" "COMPACT_STRINGS" "Z") (.int 1) ∈ flatC xn_X := by decide +kernel
theorem xk_si : Jvm.Cond.isRef (.static "jdk/internal/util/Preconditions" "SIOOBE_FORMATTER" "Ljava/util/function/BiFunction;") ∈ flatC xn_X := by decide +kernel
theorem xk_zu1 : Jvm.Cond.laysStatic "java/lang/String" "COMPACT_STRINGS" "Z" ∈ lw_tbl := by decide +kernel
theorem xk_zu2 : Jvm.Cond.laysStatic "jdk/internal/util/Preconditions" "SIOOBE_FORMATTER" "Ljava/util/function/BiFunction;" ∈ lw_tbl := by decide +kernel
theorem xk_sl : xm_str.length = 6 := by decide
theorem xk_bl : xm_stb.length = 6 := by decide +kernel
theorem xn_cin {i : Nat} (hi : i < 6) {w : Jvm.Cond} (h : w ∈ xn_cs (xm_str.getD i ("", 0, "")) (xm_stb.getD i [])) : w ∈ flatC xn_X := by
  rw [← xk_el i hi] at h
  exact List.mem_of_mem_drop (List.mem_of_mem_take h)
theorem xn_getD (bs : List Nat) (j : Nat) : (bs.map Int32.ofNat).getD j 0 = Int32.ofNat (bs.getD j 0) := by
  rw [List.getD_eq_getElem?_getD, List.getD_eq_getElem?_getD, List.getElem?_map]
  cases bs[j]? <;> rfl
/-- a string at the start -/
theorem xn_st1 {s : State} {args : Array Value} (hgv : xn_X.before args s = true) (hco : va_Z "java/lang/String" "COMPACT_STRINGS" "Z" (.int 1) xn_A s s.heap) (hsi : ∃ v : Value, v.category = 1 ∧ va_Z "jdk/internal/util/Preconditions" "SIOOBE_FORMATTER" "Ljava/util/function/BiFunction;" v xn_A s s.heap) {i : Nat} (hi : i < 6) : ∃ a av : Nat, (Term.string (xm_str.getD i ("", 0, "")).1 (xm_str.getD i ("", 0, "")).2.1).eval args s none [] s = some (.ref a) ∧ xn_W1 a av (xm_stb.getD i []) s s.heap := by
  have hw : ∀ w ∈ xn_cs (xm_str.getD i ("", 0, "")) (xm_stb.getD i []), w.before args s = true := fun w h => flat_of_before _ hgv _ (xn_cin hi h)
  have hb : (xm_stb.getD i []).length < 128 := by
    have hm : xm_stb.getD i [] ∈ xm_stb := by
      rw [List.getD_eq_getElem?_getD, List.getElem?_eq_getElem (by rw [xk_bl]; exact hi)]
      exact List.getElem_mem _
    exact (xn_stb _ hm).1
  generalize xm_str.getD i ("", 0, "") = q at hw ⊢
  generalize xm_stb.getD i [] = bs at hw hb ⊢
  obtain ⟨adK, adV, hS, hev⟩ := vk_Sof (args := args) (s := s) (N := 1) (tm := fun _ => .string q.1 q.2.1) (len := [bs.length]) (byt := [bs.map Int32.ofNat]) (A := xn_A)
    (fun k hk => by
      have hk : k = 0 := by omega
      subst hk
      show bs.length < 2 ^ 31
      omega)
    (fun k hk => hw _ (List.mem_append_left _ (List.mem_cons_self)))
    (fun k hk => hw _ (List.mem_append_left _ (List.mem_cons_of_mem _ List.mem_cons_self)))
    (fun k hk => hw _ (List.mem_append_left _ (List.mem_cons_of_mem _ (List.mem_cons_of_mem _ List.mem_cons_self))))
    (fun k hk => by
      have hk : k = 0 := by omega
      subst hk
      exact hw _ (List.mem_append_left _ (List.mem_cons_of_mem _ (List.mem_cons_of_mem _ (List.mem_cons_of_mem _ List.mem_cons_self)))))
    (fun k hk j hj => by
      have hk : k = 0 := by omega
      subst hk
      have hj : j < bs.length := hj
      show (Cond.eq (.elem (.field (.string q.1 q.2.1) "java/lang/String" "value" "[B") (.int (Int32.ofNat j))) (.int ((bs.map Int32.ofNat).getD j 0))).before args s = true
      rw [xn_getD]
      exact hw _ (List.mem_append_right _ (List.mem_map.mpr ⟨j, List.mem_range.mpr hj, rfl⟩)))
    (fun i j hi hj hij => absurd (show i = j by omega) hij) (fun _ _ h => h)
  obtain ⟨o1, o2, o3, o4⟩ := hS.1 0 (by decide)
  refine ⟨adK 0, adV 0, hev 0 (by decide), hco, hsi, o1, o2, o3, ?_⟩
  have e : (fun j => Value.int (([bs.map Int32.ofNat].getD 0 []).getD j 0)) = (fun j => Value.int (Int32.ofNat (bs.getD j 0))) := funext (fun j => by
    show Value.int ((bs.map Int32.ofNat).getD j 0) = _
    rw [xn_getD])
  rw [e] at o4
  exact o4
theorem xs_tbl {w : Jvm.Cond} (h : w ∈ xm_tb) : w ∈ lw_tbl := (List.mem_filter.mp h).1
theorem xs_G0 {j : Nat} {o : xm_O} (h : xm_hget xn_G0 j = some o) : j < 7 ∧ ((j = 0 ∧ o = (302, [])) ∨ (1 ≤ j ∧ o = (199 + j, []))) := by
  have h : xm_jn (xm_nth (xm_ck xn_G0.2 (j / 16)) (j % 16)) = some o := h
  by_cases h16 : j / 16 = 0
  · rw [h16] at h
    have h : xm_jn (xm_nth [some (302, []), some (200, []), some (201, []), some (202, []), some (203, []), some (204, []), some (205, [])] (j % 16)) = some o := h
    rw [xl_nth, show j % 16 = j by omega] at h
    match j, h with
    | 0, h => cases h; exact ⟨by omega, Or.inl ⟨rfl, rfl⟩⟩
    | 1, h => cases h; exact ⟨by omega, Or.inr ⟨by omega, rfl⟩⟩
    | 2, h => cases h; exact ⟨by omega, Or.inr ⟨by omega, rfl⟩⟩
    | 3, h => cases h; exact ⟨by omega, Or.inr ⟨by omega, rfl⟩⟩
    | 4, h => cases h; exact ⟨by omega, Or.inr ⟨by omega, rfl⟩⟩
    | 5, h => cases h; exact ⟨by omega, Or.inr ⟨by omega, rfl⟩⟩
    | 6, h => cases h; exact ⟨by omega, Or.inr ⟨by omega, rfl⟩⟩
    | n + 7, h =>
      rw [List.getElem?_eq_none (by show 7 ≤ n + 7; omega)] at h
      cases h
  · have h2 : xm_ck xn_G0.2 (j / 16) = [] := by
      unfold xm_ck
      rw [xl_nth, List.getElem?_eq_none (by show 1 ≤ j / 16; omega)]
    rw [h2] at h
    cases h
theorem xs_start {p : Program} {s : State} {m : MethodId} {meth : Method} {c : Code} {b L : Nat} {xs : Nat → Int32} (hL : L ≤ 3072) (C0 : lw_At p s m meth c b L xs) : ∃ Z : xs_Z, xs_b Z = s.heap.size ∧ xs_KW Z s ∧ xs_HW Z xn_G0 s.heap ∧ xs_rho Z 0 = b ∧ Z.2.2.2.2.2.1.slots.size = L ∧ ∀ j : Nat, j < L → Z.2.2.2.2.2.1.slots[j]? = some (.int (xs j)) := by
  obtain ⟨hx, hb, hr, hml, hown, hts, hX, hbl, hlocks, hgv⟩ := C0
  have hcl : ∀ a : Nat, ∃ q : ClassId × (Nat → Nat), ∀ r : vw_C, xm_cls[a]? = some r → u_Kn s r.1 r.2.1 r.2.2 q.1 q.2 := by
    intro a
    cases hr : xm_cls[a]? with
    | none => exact ⟨(0, fun _ => 0), fun r h => by cases h⟩
    | some r =>
      obtain ⟨f, t1, t2, t3, -⟩ := xs_tok hr
      obtain ⟨cC, iS, h⟩ := u_known (ws := lw_tbl) hts (fun w hw => xs_tbl (t3 w hw)) (hts _ (xs_tbl (xk_w t1)))
      exact ⟨(cC, iS), fun r' h' => by cases h'; exact h⟩
  obtain ⟨D, hD⟩ := Classical.axiomOfChoice hcl
  have hpr : ∀ ty : FieldType, (Jvm.Cond.arrayClass ty).before #[Value.ref b] s = true → ∃ cA, ArrOfT s cA ty ∧ s.vm.findClass ("[" ++ ty.toString) = some cA := by
    intro ty h
    obtain ⟨cA, kA, comp, h1, h2, h3⟩ := Cond.arrayClass_spec h
    exact ⟨cA, fun n z => ⟨fun k h => (by cases h), kA, h2, comp, h3⟩, h1⟩
  have hrf : ∀ C : String, C ∈ ["StairNews$Rule", "StairNews$Folk", "StairNews$Lore", "StairNews$Scene"] → ∃ cA, ArrOfT s cA (.object C) ∧ va_RA s cA (.object C) := by
    intro C hC
    obtain ⟨comp, cA, kA, h1, -, h2, h3, h4⟩ := Cond.arrayOver_spec (hts _ (xk_ao C hC))
    exact ⟨cA, fun n z => ⟨fun k h => (by cases h), kA, h2, comp, h3⟩, kA, comp, h2, h3, h1, h4⟩
  obtain ⟨a0, p0, q0⟩ := hpr .int (hts _ (xs_tbl (xk_w xk_a0)))
  obtain ⟨a1, p1, q1⟩ := hpr .byte (hts _ (xs_tbl (xk_w xk_a1)))
  obtain ⟨a2, p2, q2⟩ := hpr .long (hts _ (xs_tbl (xk_w xk_a2)))
  obtain ⟨a3, p3, q3⟩ := hpr .boolean (hts _ (xs_tbl (xk_w xk_a3)))
  obtain ⟨a4, p4, q4⟩ := hrf "StairNews$Rule" (by decide)
  obtain ⟨a5, p5, q5⟩ := hrf "StairNews$Folk" (by decide)
  obtain ⟨a6, p6, q6⟩ := hrf "StairNews$Lore" (by decide)
  obtain ⟨a7, p7, q7⟩ := hrf "StairNews$Scene" (by decide)
  have hco : va_Z "java/lang/String" "COMPACT_STRINGS" "Z" (.int 1) xn_A s s.heap := va_Zof (hts _ xk_zu1) (hts _ (xs_tbl xk_s26)) (va_eqi (flat_of_before _ hgv _ xk_co)) (fun _ _ h => h)
  have hsi : ∃ v : Value, v.category = 1 ∧ va_Z "jdk/internal/util/Preconditions" "SIOOBE_FORMATTER" "Ljava/util/function/BiFunction;" v xn_A s s.heap := by
    rcases va_Zqof (A := xn_A) (hts _ xk_zu2) (hts _ (xs_tbl xk_s28)) (flat_of_before _ hgv _ xk_si) (fun _ _ h => h) with h | ⟨t, h⟩
    · exact ⟨_, rfl, h⟩
    · exact ⟨_, rfl, h⟩
  have hst : ∀ i : Nat, ∃ a : Nat × Nat, a.1 < s.heap.size ∧ (∀ q, xm_str[i]? = some q → vk_R q.1 q.2.1 q.2.2 a.1 s) ∧ ∀ bs, xm_stb[i]? = some bs → xn_W1 a.1 a.2 bs s s.heap := by
    intro i
    rcases Nat.lt_or_ge i 6 with hi | hi
    · obtain ⟨a, av, g1, g2⟩ := xn_st1 hgv hco hsi hi
      refine ⟨(a, av), ?_, fun q hq => ?_, fun bs hbs => ?_⟩
      · obtain ⟨cell, c1, -⟩ := xn_recv g2
        exact (Array.getElem?_eq_some_iff.mp c1).1
      · have e : xm_str.getD i ("", 0, "") = q := by rw [List.getD_eq_getElem?_getD, hq]; rfl
        rw [e] at g1
        exact vk_R.of (hts _ (xk_str q (List.mem_of_getElem? hq))) g1
      · have e : xm_stb.getD i [] = bs := by rw [List.getD_eq_getElem?_getD, hbs]; rfl
        rw [e] at g2
        exact g2
    · refine ⟨(b, 0), hbl, fun q hq => ?_, fun bs hbs => ?_⟩
      · rw [List.getElem?_eq_none (by rw [xk_sl]; exact hi)] at hq
        cases hq
      · rw [List.getElem?_eq_none (by rw [xk_bl]; exact hi)] at hbs
        cases hbs
  obtain ⟨sa, hsa⟩ := Classical.axiomOfChoice hst
  obtain ⟨scr, x1, x2, x3, x4, x5⟩ := hX
  refine ⟨((fun a => (D a).1, fun a => (D a).2), fun t => match t with
    | 0 => a0
    | 1 => a1
    | 2 => a2
    | 3 => a3
    | 4 => a4
    | 5 => a5
    | 6 => a6
    | _ => a7, s.heap.size, fun j => match j with
    | 0 => b
    | n + 1 => (sa n).1, fun _ => 0, scr, s.heap), rfl, ⟨⟨fun a r h => hD a r h, fun k q hk => ?_⟩, fun w hw => ?_, fun i q hq => (hsa i).2.1 q hq, ⟨x2, x3, ?_, ⟨Nat.le_refl _, fun i => (sa i).2, fun i bs hbs => (hsa i).2.2 bs hbs⟩⟩, fun j hj => ?_, fun C hC => va_AO.of (hts _ (xk_ao C hC))⟩, ⟨Nat.le_refl 7, rfl, fun j o ho => ?_⟩, rfl, x4, x5⟩
  · match k, hk with
    | 0, hk => cases hk; exact ⟨p0, q0⟩
    | 1, hk => cases hk; exact ⟨p1, q1⟩
    | 2, hk => cases hk; exact ⟨p2, q2⟩
    | 3, hk => cases hk; exact ⟨p3, q3⟩
    | 4, hk => cases hk; exact ⟨p4, q4⟩
    | 5, hk => cases hk; exact ⟨p5, q5⟩
    | 6, hk => cases hk; exact ⟨p6, q6⟩
    | 7, hk => cases hk; exact ⟨p7, q7⟩
    | n + 8, hk =>
      have hk : ([] : List (ClassId × FieldType))[n]? = some q := hk
      simp at hk
  · obtain ⟨a, i, x, h, rfl⟩ := xs_nest hw
    exact va_Nw.of rfl (hts _ (xk_nest _ hw))
  · show scr.slots.size < 2 ^ 31
    rw [x4]
    omega
  · match j with
    | 0 => exact hbl
    | n + 1 => exact (hsa n).1
  · obtain ⟨h1, h2⟩ := xs_G0 ho
    refine ⟨h1, ?_⟩
    rcases h2 with ⟨rfl, rfl⟩ | ⟨h3, rfl⟩
    · exact Or.inr (Or.inr (Or.inl ⟨rfl, rfl, x1⟩))
    · exact Or.inr (Or.inr (Or.inr (Or.inl ⟨by show 200 ≤ 199 + j; omega, by show 199 + j < 206; omega, by show j + 199 = 199 + j; omega, fun _ _ => rfl⟩)))
set_option maxRecDepth 20000 in
/-- from the entry, for every script of at most 3072 ints, the law comes to its end with true -/
theorem whole_start {p : Program} {e : Env} {s : State} {m : MethodId} {below : List Frame} {meth : Method} {c : Code} (l : Launch) {b L : Nat} {xs : Nat → Int32} (hL : L ≤ 3072) (C0 : lw_At p s m meth c b L xs) : W p l e room_1 s m #[Value.ref b] below meth c s.heap [] 0 0 (lw_Z below #[Value.ref b] s) (entryFrame m ([Value.ref b] : List Value).toArray 4) := by
  obtain ⟨Z, z1, z2, z3, z5, z6, z7⟩ := xs_start hL C0
  obtain ⟨hx, hb, hr, hml, hown, hts, hX, hbl, hlocks, hgv⟩ := C0
  have X : xs_Cx p s m #[Value.ref b] c code 4 0 Z := ⟨hx, hb, hml, hown, fun w hw => hts w (xs_tbl hw), z2, by decide⟩
  obtain ⟨k1, k2, k3⟩ := xs_okM xk_ok0
  have hl := lv_entry ([Value.ref b] : List Value) (n := 4) (Nat.le_of_ble_eq_true rfl)
  rw [lg_entry_eq]
  generalize (lg_sl ([Value.ref b] : List Value) ++ List.replicate (4 - (lg_sl ([Value.ref b] : List Value)).length) Slot.unset).toArray = ls at hl ⊢
  have hret : xs_RH p l e room_1 s m #[Value.ref b] below meth c (lw_Z below #[Value.ref b] s) code 4 600000 7302250 (some .boolean) (fun r _ _ => decide (r = some (.int 1))) Z := by
    intro pc i v st1 kc ks lv G E H locs ls hd hrt hQ h1 h2 S
    rcases hrt with ⟨rfl, w, rfl, rfl, a1, a2⟩ | ⟨rfl, w, rfl, rfl, a1, a2⟩ | ⟨rfl, w, rfl, rfl, a1, a2⟩ | ⟨rfl, rfl, rfl, a1⟩
    · have hw : w = .int 1 := Option.some.inj (of_decide_eq_true hQ)
      subst hw
      refine va_forget (fun q hq => by rw [← z1]; exact S.2.2.2 q hq) ?_
      refine W.widen h1 h2 ?_
      exact lw_ret hx hb hr hlocks hd
    · have hw : w = .int 1 := Option.some.inj (of_decide_eq_true hQ)
      subst hw
      cases a1
    · have hw : w = .int 1 := Option.some.inj (of_decide_eq_true hQ)
      subst hw
      cases a1
    · cases a1
  have hR : 120 + 9 ≤ room_1.frames ∧ 64 * (120 + 9) ≤ room_1.locals ∧ 600000 ≤ room_1.cells ∧ 7302250 ≤ room_1.slots := ⟨by decide, by decide, by decide, by decide⟩
  have hK : ∀ (suf : List xm_E) (e1 : xm_E) (rest' : List xm_E), suf = e1 :: rest' → xs_good p l e room_1 s m #[Value.ref b] below meth c (lw_Z below #[Value.ref b] s) 4 Z (xn_fi 600000 7302250 xn_K suf) e1.1 := by
    intro suf e1 rest' he lv st G E kc ks hk H locs ls S
    subst he
    obtain ⟨g1, g2, g3⟩ := xn_fi_of hk
    have g3 : (Nat.beq e1.1 18 && ((match (generalizing := false) st with
      | [] => true
      | _ => false) && (yb_o (xm_get lv 0) (.ref 0) && (yb_o (xm_get lv 1) (.ref 7) && (yb_o (xm_get lv 2) (.ref 344) && (yb_o (xm_get lv 3) (.int 0) && yb_lay G)))))) = true := g3
    rw [Bool.and_eq_true, Bool.and_eq_true, Bool.and_eq_true, Bool.and_eq_true, Bool.and_eq_true, Bool.and_eq_true] at g3
    obtain ⟨f1, f2, f3, f4, f5, f6, f7⟩ := g3
    have f1 := Nat.eq_of_beq_eq_true f1
    have hst : st = [] := by
      cases st with
      | nil => rfl
      | cons a t => cases f2
    subst hst
    have hlen : ((List.range L).map xs).length = L := by rw [List.length_map, List.length_range]
    obtain ⟨y1, vs, y2⟩ := yb_lay_ok f7 ((List.range L).map xs)
    obtain ⟨-, hat⟩ := S.2.1.2.2 0 _ y2
    have hcell : H[xs_rho Z 0]? = some Z.2.2.2.2.2.1 := by
      rcases hat with ⟨r', q1, -⟩ | ⟨-, q, -⟩ | ⟨-, -, q⟩ | ⟨-, q, -⟩ | ⟨q, -⟩
      · have q1 : xm_cls[302]? = some r' := q1
        rw [xs_nocls (by decide)] at q1
        cases q1
      · have q : 302 < 108 := q
        omega
      · exact q
      · have q : 302 < 206 := q
        omega
      · have q : 302 = 301 := q
        omega
    have hHW : xs_HW Z (xm_hput G 0 (301, ((List.range L).map xs).map Value.int)) H := by
      refine ⟨S.2.1.1, S.2.1.2.1, fun j o ho => ?_⟩
      rw [xl_hput] at ho
      by_cases hj : j = 0
      · subst hj
        rw [if_pos rfl] at ho
        cases ho
        refine ⟨Nat.lt_of_lt_of_le (by decide) S.2.1.1, Or.inr (Or.inr (Or.inr (Or.inr ⟨rfl, rfl, hcell, ?_, fun k hk => ?_⟩)))⟩
        · show (((List.range L).map xs).map Value.int).length = _
          rw [List.length_map, hlen, z6]
        · have hk : k < (((List.range L).map xs).map Value.int).length := hk
          rw [List.length_map, hlen] at hk
          refine ⟨xs k, ?_, z7 k hk⟩
          show (((List.range L).map xs).map Value.int)[k]? = _
          rw [List.getElem?_map, List.getElem?_map, List.getElem?_range hk]
          rfl
      · rw [if_neg hj] at ho
        exact S.2.1.2.2 j o ho
    have hW := xs_run (R := room_1) (l := l) (e := e) (below := below) (meth := meth) (mc := 600000) (ms := 7302250) (d := 120) (ret := some .boolean) (Q := fun r _ _ => decide (r = some (.int 1))) X k3 (fun hi => absurd hi (by decide)) hR (xs_exec l Z 120) hret 616200 (xm_drop 10 xm_c0) (xn_okdrop 10 xm_c0 k3) _ _ rfl (yL_loop (Nat.le_refl 120) (by rw [hlen]; exact hL) g1 g2 (fun _ => rfl) 3080 _ lv 0 0 y1 (by decide) (yb_o_ok f3) (yb_o_ok f4) (yb_o_ok f5) (yb_o_ok f6) (by decide) (by decide) (by decide) (Nat.le_refl _)) g1 g2 (H := H) (locs := locs) (ls := ls) ⟨S.1, hHW, S.2.2⟩
    rw [f1]
    exact hW
  have hg := xs_runK (R := room_1) (l := l) (e := e) (below := below) (meth := meth) (mc := 600000) (ms := 7302250) (d := 120) (ret := some .boolean) (Q := fun r _ _ => decide (r = some (.int 1))) (K := xn_K) X hK k3 (fun hi => absurd hi (by decide)) hR (xs_exec l Z 120) hret 10 xm_c0 k3 _ _ rfl
  have hW := hg _ [] xn_G0 [] 0 0 ((xn_fi_eq (Nat.zero_le _) (Nat.zero_le _) _ _ _ _ _ _).trans xk_pre) s.heap [] ls ⟨fun i lo hi h => (by rw [List.getElem?_nil] at h; cases h), z3, by rw [xs_args]; show lv_has ls 4 [(0, .ref (xs_rho Z 0))]; rw [z5]; exact hl, fun q hq => by cases hq⟩
  exact hW
