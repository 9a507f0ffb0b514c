/-! the layout that the two constructors leave, as a check -/
def xn_G0 : xm_H := (7, [[some (302, []), some (200, []), some (201, []), some (202, []), some (203, []), some (204, []), some (205, [])]])
noncomputable def yb_T (T : yT) (v : Value) : Bool := match v with
  | .int x => Nat.beq T.1 0 && (decide (T.2.1 ≤ x.toInt) && decide (x.toInt ≤ T.2.2))
  | .long x => Nat.beq T.1 1 && (decide (T.2.1 ≤ x.toInt) && decide (x.toInt ≤ T.2.2))
  | .ref j => (Nat.beq T.1 2 || Nat.beq T.1 3) && decide ((yr_of j : Int) = T.2.1)
  | .null => Nat.beq T.1 3
  | _ => false
theorem yb_T_ok {T : yT} {v : Value} (h : yb_T T v = true) : ys_T T v := by
  cases v with
  | int x =>
    have h : (Nat.beq T.1 0 && (decide (T.2.1 ≤ x.toInt) && decide (x.toInt ≤ T.2.2))) = true := h
    rw [Bool.and_eq_true, Bool.and_eq_true, decide_eq_true_eq, decide_eq_true_eq] at h
    exact ⟨Nat.eq_of_beq_eq_true h.1, h.2.1, h.2.2⟩
  | long x =>
    have h : (Nat.beq T.1 1 && (decide (T.2.1 ≤ x.toInt) && decide (x.toInt ≤ T.2.2))) = true := h
    rw [Bool.and_eq_true, Bool.and_eq_true, decide_eq_true_eq, decide_eq_true_eq] at h
    exact ⟨Nat.eq_of_beq_eq_true h.1, h.2.1, h.2.2⟩
  | ref j =>
    have h : ((Nat.beq T.1 2 || Nat.beq T.1 3) && decide ((yr_of j : Int) = T.2.1)) = true := h
    rw [Bool.and_eq_true, Bool.or_eq_true, decide_eq_true_eq] at h
    refine ⟨?_, h.2⟩
    rcases h.1 with h1 | h1
    · exact Or.inl (Nat.eq_of_beq_eq_true h1)
    · exact Or.inr (Nat.eq_of_beq_eq_true h1)
  | null => exact Nat.eq_of_beq_eq_true h
  | float x => cases h
  | double x => cases h
  | retAddr x => cases h
noncomputable def yb_e (q : yW) (i : Nat) (v : Value) : Bool := match yr_ty q i with
  | some T => yb_T T v
  | none => false
noncomputable def yb_vs (q : yW) (vs : List Value) : Nat → Bool := List.rec (motive := fun _ => Nat → Bool) (fun _ => true) (fun v _ ih i => yb_e q i v && ih (Nat.succ i)) vs
theorem yb_vs_ok {q : yW} : ∀ {vs : List Value} {i0 : Nat}, yb_vs q vs i0 = true → ∀ (i : Nat) (v : Value), vs[i]? = some v → ∃ T, yr_ty q (i0 + i) = some T ∧ ys_T T v
  | [], i0, _, i, v, hv => by
    rw [List.getElem?_nil] at hv
    cases hv
  | a :: vs, i0, h, i, v, hv => by
    have h1 : (yb_e q i0 a && yb_vs q vs (Nat.succ i0)) = true := h
    rw [Bool.and_eq_true] at h1
    cases i with
    | zero =>
      rw [List.getElem?_cons_zero] at hv
      cases hv
      have h2 := h1.1
      unfold yb_e at h2
      cases hT : yr_ty q i0 with
      | none => rw [hT] at h2; cases h2
      | some T => rw [hT] at h2; exact ⟨T, rfl, yb_T_ok h2⟩
    | succ i =>
      rw [List.getElem?_cons_succ] at hv
      obtain ⟨T, t1, t2⟩ := yb_vs_ok h1.2 i v hv
      exact ⟨T, by rw [show i0 + (i + 1) = Nat.succ i0 + i by omega]; exact t1, t2⟩
noncomputable def yb_all (n : Nat) (k : Nat → Bool) : Bool := Nat.rec (motive := fun _ => Bool) true (fun j ih => k j && ih) n
theorem yb_all_ok {k : Nat → Bool} : ∀ {n : Nat}, yb_all n k = true → ∀ j, j < n → k j = true
  | 0, _, j, hj => absurd hj (Nat.not_lt_zero j)
  | n + 1, h, j, hj => by
    have h1 : (k n && yb_all n k) = true := h
    rw [Bool.and_eq_true] at h1
    rcases Nat.lt_succ_iff_lt_or_eq.mp hj with h2 | h2
    · exact yb_all_ok h1.2 j h2
    · subst h2
      exact h1.1
noncomputable def yb_c (q : yW) (o : Option xm_O) : Bool := match o with
  | some (t, vs) => Nat.beq t q.1 && (Nat.beq (xm_len vs) q.2.1 && yb_vs q vs 0)
  | none => false
noncomputable def yb_ht (G : xm_H) (j : Nat) : Bool := match yr_row (yr_of j) with
  | none => true
  | some q => yb_c q (xm_hget G j)
noncomputable def yb_z (vs : List Value) : Bool := List.rec (motive := fun _ => Bool) true (fun v _ ih => decide (v = .int 0) && ih) vs
theorem yb_z_ok : ∀ {vs : List Value}, yb_z vs = true → ∀ (i : Nat) (v : Value), vs[i]? = some v → v = .int 0
  | [], _, i, v, hv => by
    rw [List.getElem?_nil] at hv
    cases hv
  | a :: vs, h, i, v, hv => by
    have h1 : (decide (a = .int 0) && yb_z vs) = true := h
    rw [Bool.and_eq_true, decide_eq_true_eq] at h1
    cases i with
    | zero =>
      rw [List.getElem?_cons_zero] at hv
      cases hv
      exact h1.1
    | succ i =>
      rw [List.getElem?_cons_succ] at hv
      exact yb_z_ok h1.2 i v hv
noncomputable def yb_zo (o : Option xm_O) : Bool := match o with
  | some (t, vs) => Nat.beq t 100 && yb_z vs
  | none => false
theorem yb_zo_ok {o : Option xm_O} (h : yb_zo o = true) : ∃ vs, o = some (100, vs) ∧ ∀ (i : Nat) (v : Value), vs[i]? = some v → v = .int 0 := by
  unfold yb_zo at h
  split at h
  · rename_i t vs
    rw [Bool.and_eq_true] at h
    have h1 := Nat.eq_of_beq_eq_true h.1
    subst h1
    exact ⟨vs, rfl, yb_z_ok h.2⟩
  · cases h
noncomputable def yb_ci (G : xm_H) (j : Nat) : Bool := bif Nat.beq (yr_of j) 70 then yb_zo (xm_hget G j) else true
def yb_tp (o : Option xm_O) : Bool := match o with
  | some (t, [.ref _, .int _, .int _, .int p, .int z, .int _]) => Nat.beq t 9 && decide (p.toInt + z.toInt ≤ 400)
  | _ => false
theorem yb_tp_ok {o : Option xm_O} (h : yb_tp o = true) : ∃ (b : Nat) (len kind place size fault : Int32), o = some (9, [.ref b, .int len, .int kind, .int place, .int size, .int fault]) ∧ place.toInt + size.toInt ≤ 400 := by
  unfold yb_tp at h
  split at h
  · rename_i t b len kind p z f
    rw [Bool.and_eq_true, decide_eq_true_eq] at h
    have h1 := Nat.eq_of_beq_eq_true h.1
    subst h1
    exact ⟨b, len, kind, p, z, f, rfl, h.2⟩
  · cases h
def yb_o (o : Option Value) (v : Value) : Bool := match o with
  | some w => decide (w = v)
  | none => false
theorem yb_o_ok {o : Option Value} {v : Value} (h : yb_o o v = true) : o = some v := by
  unfold yb_o at h
  split at h
  · rw [of_decide_eq_true h]
  · cases h
def yb_302 (o : Option xm_O) : Bool := match o with
  | some (t, _) => Nat.beq t 302
  | none => false
/-! the flat heap of a picture -/
def zrv (o : Option Value) : Int := match o with
  | some v => zi v
  | none => 0
noncomputable def zv (G : xm_H) : zS := fun j i => zrv (yR G j.toNat i.toNat)
noncomputable def zb_v (t j i : Nat) (v : Value) : Bool := zp v && (decide (xm_isL v = zlg t i) && (match zcon t j i with
  | some c => decide (zi v = c)
  | none => true))
noncomputable def zb_vs (t j : Nat) (vs : List Value) : Nat → Bool := List.rec (motive := fun _ => Nat → Bool) (fun _ => true) (fun v _ ih i => zb_v t j i v && ih (Nat.succ i)) vs
theorem zb_vs_ok {t j : Nat} : ∀ {vs : List Value} {i0 : Nat}, zb_vs t j vs i0 = true → ∀ (i : Nat) (v : Value), vs[i]? = some v → zb_v t j (i0 + i) v = true
  | [], i0, _, i, v, hv => by
    rw [List.getElem?_nil] at hv
    cases hv
  | a :: vs, i0, h, i, v, hv => by
    have h1 : (zb_v t j i0 a && zb_vs t j vs (Nat.succ i0)) = true := h
    rw [Bool.and_eq_true] at h1
    cases i with
    | zero =>
      rw [List.getElem?_cons_zero] at hv
      cases hv
      exact h1.1
    | succ i =>
      rw [List.getElem?_cons_succ] at hv
      have := zb_vs_ok h1.2 i v hv
      rw [show i0 + (i + 1) = Nat.succ i0 + i by omega]
      exact this
noncomputable def zb_o (j : Nat) (t : Nat) (vs : List Value) : Bool := !(Nat.beq t 300) && ((!(Nat.beq t 301) || Nat.beq j 0) && ((bif Nat.ble 200 t && Nat.blt t 206 then Nat.beq (j + 199) t else true) && ((bif Nat.ble 100 t && Nat.blt t 108 then decide (((xm_len vs : Nat) : Int) = zlen j) else true) && zb_vs t j vs 0)))
noncomputable def zb_c (G : xm_H) (j : Nat) : Bool := match xm_hget G j with
  | some (t, vs) => zb_o j t vs
  | none => true
theorem zb_c_ok {G : xm_H} {j t : Nat} {vs : List Value} (h : zb_c G j = true) (hg : xm_hget G j = some (t, vs)) : (t ≠ 300 ∧ (t = 301 → j = 0) ∧ (200 ≤ t → t < 206 → j + 199 = t) ∧ (100 ≤ t → t < 108 → ((vs.length : Nat) : Int) = zlen j)) ∧ ∀ (i : Nat) (v : Value), vs[i]? = some v → zp v = true ∧ xm_isL v = zlg t i ∧ ∀ c, zcon t j i = some c → zi v = c := by
  unfold zb_c at h
  rw [hg] at h
  replace h : zb_o j t vs = true := h
  unfold zb_o at h
  rw [Bool.and_eq_true, Bool.and_eq_true, Bool.and_eq_true, Bool.and_eq_true] at h
  obtain ⟨h1, h2, h3, h4, h5⟩ := h
  refine ⟨⟨fun e => (by subst e; cases h1), fun e => ?_, fun a b => ?_, fun a b => ?_⟩, fun i v hv => ?_⟩
  · subst e
    exact Nat.eq_of_beq_eq_true h2
  · have e : (Nat.ble 200 t && Nat.blt t 206) = true := by
      rw [Bool.and_eq_true]
      exact ⟨Nat.ble_eq_true_of_le a, Nat.ble_eq_true_of_le b⟩
    rw [e, cond_true] at h3
    exact Nat.eq_of_beq_eq_true h3
  · have e : (Nat.ble 100 t && Nat.blt t 108) = true := by
      rw [Bool.and_eq_true]
      exact ⟨Nat.ble_eq_true_of_le a, Nat.ble_eq_true_of_le b⟩
    rw [e, cond_true] at h4
    have := of_decide_eq_true h4
    rw [xl_len] at this
    exact this
  · have := zb_vs_ok h5 i v hv
    rw [Nat.zero_add] at this
    unfold zb_v at this
    rw [Bool.and_eq_true, Bool.and_eq_true] at this
    refine ⟨this.1, of_decide_eq_true this.2.1, fun c hc => ?_⟩
    have h6 := this.2.2
    rw [hc] at h6
    exact of_decide_eq_true h6
theorem zb_far {G : xm_H} (h : Nat.ble (xm_len G.2) 23 = true) {j : Nat} (hj : 368 ≤ j) : xm_hget G j = none := by
  have h := Nat.le_of_ble_eq_true h
  rw [xl_len] at h
  unfold xm_hget xm_ck
  rw [xl_nth, xl_nth, List.getElem?_eq_none (show G.2.length ≤ Nat.div j 16 by show _ ≤ j / 16; omega)]
  rfl
noncomputable def zb_e (G : xm_H) (a i b j : Nat) : Bool := decide (zrv (yR G a i) = zrv (yR G b j))
noncomputable def zb_z9 (o : Option xm_O) : Bool := match o with
  | some (_, vs) => yb_z vs
  | none => true
theorem zb_z9_ok {G : xm_H} {j : Nat} (h : zb_z9 (xm_hget G j) = true) (i : Nat) : zrv (yR G j i) = 0 := by
  unfold yR
  cases ho : xm_hget G j with
  | none => rfl
  | some o =>
    obtain ⟨t, vs⟩ := o
    rw [ho] at h
    dsimp only
    cases hv : vs[i]? with
    | none => rfl
    | some v =>
      rw [yb_z_ok h i v hv]
      rfl
/-- what the start has where -/
def zkl : List (Nat × Nat × Int) := [(7, 8, 0), (344, 2, 0), (10, 6, -1), (344, 21, -1), (11, 0, 0), (11, 1, 0), (11, 2, 0), (354, 0, 0), (354, 1, 0), (354, 2, 0), (11, 5, 0), (354, 145, 0), (11, 6, 0), (354, 9, 0), (11, 7, -1), (354, 5, -1), (19, 0, 0), (354, 4, 0), (19, 1, 0), (354, 8, 0), (24, 0, 0), (10, 5, 0), (354, 137, 0), (40, 3, 0), (344, 26, 0), (40, 2, 0), (242, 0, 0), (246, 0, 0), (250, 0, 0), (254, 0, 0), (258, 0, 0), (262, 0, 0)]
noncomputable def zb_k (G : xm_H) (q : Nat × Nat × Int) : Bool := decide (zrv (yR G q.1 q.2.1) = q.2.2)
noncomputable def zb_rel (G : xm_H) : Bool := zb_e G 8 1 344 1 && (zb_z9 (xm_hget G 9) && (zb_z9 (xm_hget G 345) && (zb_e G 10 7 344 22 && (zkl.all (zb_k G) && (zb_z9 (xm_hget G 363) && yb_all 4 (fun k => zb_e G (264 + 20 * k) 8 363 k))))))
noncomputable def zb_flat (G : xm_H) : Bool := Nat.ble (xm_len G.2) 23 && (yb_all 368 (zb_c G) && zb_rel G)
theorem zb_flat_ok {G : xm_H} (h : zb_flat G = true) (xs : List Int32) : ∃ s, zR (xm_hput G 0 (301, xs.map Value.int)) s ∧ zRZ 0 s := by
  unfold zb_flat at h
  rw [Bool.and_eq_true, Bool.and_eq_true] at h
  obtain ⟨h1, h2, h3⟩ := h
  have hg : ∀ j, j ≠ 0 → xm_hget (xm_hput G 0 (301, xs.map Value.int)) j = xm_hget G j := fun j hj => by rw [xl_hput, if_neg hj]
  have hr : ∀ j i, j ≠ 0 → yR (xm_hput G 0 (301, xs.map Value.int)) j i = yR G j i := fun j i hj => by
    unfold yR
    rw [hg j hj]
  refine ⟨zv (xm_hput G 0 (301, xs.map Value.int)), ?_, ?_⟩
  · intro j t vs ho
    have fin : ∀ (i : Nat) (v : Value), vs[i]? = some v → zi v = zv (xm_hput G 0 (301, xs.map Value.int)) j i := fun i v hv => by
      unfold zv
      rw [Int.toNat_natCast, Int.toNat_natCast]
      unfold yR
      rw [ho]
      dsimp only
      rw [hv]
      rfl
    by_cases hj : j = 0
    · subst hj
      have ho2 := ho
      rw [xl_hput, if_pos rfl] at ho2
      cases ho2
      refine ⟨⟨by decide, fun _ => rfl, fun a b => absurd b (by decide), fun a b => absurd b (by decide)⟩, fun i v hv => ?_⟩
      have hv2 := hv
      rw [List.getElem?_map] at hv2
      cases hx : xs[i]? with
      | none => rw [hx] at hv2; cases hv2
      | some x =>
        rw [hx] at hv2
        cases hv2
        exact ⟨rfl, rfl, fin i _ hv⟩
    · have ho2 := ho
      rw [hg j hj] at ho2
      rcases Nat.lt_or_ge j 368 with hl | hl
      · obtain ⟨k1, k2⟩ := zb_c_ok (yb_all_ok h2 j hl) ho2
        refine ⟨k1, fun i v hv => ?_⟩
        obtain ⟨v1, v2, v3⟩ := k2 i v hv
        refine ⟨v1, v2, ?_⟩
        cases hz : zcon t j i with
        | some c => exact v3 c hz
        | none => exact fin i v hv
      · rw [zb_far h1 hl] at ho2
        cases ho2
  · unfold zb_rel at h3
    rw [Bool.and_eq_true, Bool.and_eq_true, Bool.and_eq_true, Bool.and_eq_true, Bool.and_eq_true, Bool.and_eq_true] at h3
    obtain ⟨g1, g2, g3, g4, g5, g7, g6⟩ := h3
    rw [List.all_eq_true] at g5
    obtain ⟨s, hs⟩ : ∃ s : zS, s = zv (xm_hput G 0 (301, xs.map Value.int)) := ⟨_, rfl⟩
    rw [← hs]
    have sv : ∀ (j i : Nat), j ≠ 0 → s ((j : Nat) : Int) ((i : Nat) : Int) = zrv (yR G j i) := fun j i hj => by
      rw [hs]
      unfold zv
      rw [Int.toNat_natCast, Int.toNat_natCast, hr j i hj]
    have K : ∀ (a i : Nat) (c : Int), a ≠ 0 → (a, i, c) ∈ zkl → s ((a : Nat) : Int) ((i : Nat) : Int) = c := fun a i c ha hm => by
      rw [sv a i ha]
      have z := g5 (a, i, c) hm
      unfold zb_k at z
      exact of_decide_eq_true z
    have e363 : ∀ k : Nat, s 363 ((k : Nat) : Int) = 0 := fun k => (sv 363 k (by decide)).trans (zb_z9_ok g7 _)
    have f7 : s 7 8 = 0 := K 7 8 0 (by decide) (by decide)
    have f344 : s 344 2 = 0 := K 344 2 0 (by decide) (by decide)
    have d0 : s 354 0 = 0 := K 354 0 0 (by decide) (by decide)
    have d1 : s 354 1 = 0 := K 354 1 0 (by decide) (by decide)
    have d2 : s 354 2 = 0 := K 354 2 0 (by decide) (by decide)
    have d4 : s 354 4 = 0 := K 354 4 0 (by decide) (by decide)
    have d5 : s 354 5 = -1 := K 354 5 (-1) (by decide) (by decide)
    have d8 : s 354 8 = 0 := K 354 8 0 (by decide) (by decide)
    have d9 : s 354 9 = 0 := K 354 9 0 (by decide) (by decide)
    have d137 : s 354 137 = 0 := K 354 137 0 (by decide) (by decide)
    have d145 : s 354 145 = 0 := K 354 145 0 (by decide) (by decide)
    have a6 : s 10 6 = -1 := K 10 6 (-1) (by decide) (by decide)
    refine ⟨⟨?_, fun k hk => ?_⟩, ⟨by rw [f7, f344], fun i hi => ?_, fun i hi => ?_⟩, ⟨?_, ⟨?_, ?_⟩, ?_⟩, ⟨0, 0, ⟨⟨⟨⟨?_, ?_, ?_, ?_, ?_, ?_, fun q => absurd d0 q⟩, fun p hp => absurd hp (Nat.not_lt_zero p), fun p hp => absurd hp (Nat.not_lt_zero p)⟩, ⟨?_, ?_, fun p hp => absurd hp (Nat.not_lt_zero p)⟩, ⟨?_, fun p hp => absurd hp (Nat.not_lt_zero p)⟩, ?_, fun k hk => ?_⟩, ⟨⟨d1, by decide, d2, by decide, by rw [d0]; decide, by rw [d0]; decide, fun q => absurd rfl q, by rw [d4]; decide, by rw [d4]; decide, by rw [d4]; decide⟩, fun p hp => absurd hp (Nat.not_lt_zero p), fun p hp => absurd hp (Nat.not_lt_zero p)⟩, ⟨Or.inl d5, fun q => absurd d0 q⟩, by rw [d137]; decide, by rw [d137]; decide, zNr_0 d137 (zTw_0 d1)⟩, zgE_0 ?_ ?_ ?_⟩, fun k hk => ⟨?_, fun q => absurd (e363 k) q⟩⟩
    · exact ((sv 8 1 (by decide)).trans (of_decide_eq_true g1)).trans (sv 344 1 (by decide)).symm
    · exact ((sv 9 k (by decide)).trans (zb_z9_ok g2 _)).trans ((sv 345 k (by decide)).trans (zb_z9_ok g3 _)).symm
    · rcases (show i = 0 ∨ i = 1 ∨ i = 2 ∨ i = 3 ∨ i = 4 ∨ i = 5 by omega) with rfl | rfl | rfl | rfl | rfl | rfl
      · exact K 242 0 0 (by decide) (by decide)
      · exact K 246 0 0 (by decide) (by decide)
      · exact K 250 0 0 (by decide) (by decide)
      · exact K 254 0 0 (by decide) (by decide)
      · exact K 258 0 0 (by decide) (by decide)
      · exact K 262 0 0 (by decide) (by decide)
    · rw [f7] at hi
      exact absurd hi (by omega)
    · exact a6.trans (K 344 21 (-1) (by decide) (by decide)).symm
    · rw [a6]
      decide
    · rw [a6, f7]
      decide
    · exact ((sv 10 7 (by decide)).trans (of_decide_eq_true g4)).trans (sv 344 22 (by decide)).symm
    · exact (K 11 0 0 (by decide) (by decide)).trans d0.symm
    · exact (K 11 1 0 (by decide) (by decide)).trans d1.symm
    · exact (K 11 2 0 (by decide) (by decide)).trans d2.symm
    · exact (K 11 5 0 (by decide) (by decide)).trans d145.symm
    · exact (K 11 6 0 (by decide) (by decide)).trans d9.symm
    · exact (K 11 7 (-1) (by decide) (by decide)).trans d5.symm
    · exact (K 19 0 0 (by decide) (by decide)).trans d4.symm
    · exact (K 19 1 0 (by decide) (by decide)).trans d8.symm
    · exact K 24 0 0 (by decide) (by decide)
    · exact (K 10 5 0 (by decide) (by decide)).trans d137.symm
    · rw [d137] at hk
      exact absurd hk (by omega)
    · exact K 40 3 0 (by decide) (by decide)
    · exact K 344 26 0 (by decide) (by decide)
    · have z : s 40 2 = 0 := K 40 2 0 (by decide) (by decide)
      rw [z]
      decide
    · have e : (264 : Int) + 20 * ((k : Nat) : Int) = ((264 + 20 * k : Nat) : Int) := by omega
      rw [e]
      exact ((sv (264 + 20 * k) 8 (by omega)).trans (of_decide_eq_true (yb_all_ok g6 k hk))).trans (sv 363 k (by decide)).symm
noncomputable def yb_lay (G : xm_H) : Bool := yb_302 (xm_hget G 0) && (yb_all 364 (yb_ht G) && (yb_all 364 (yb_ci G) && (yb_tp (xm_hget G 8) && (yb_zo (xm_hget G 349) && zb_flat G))))
theorem yb_reg : yr_reg.length = 364 := by decide +kernel
theorem yb_of {j : Nat} (h : 364 ≤ j) : yr_of j = 0 := by
  unfold yr_of
  rw [xl_nth, List.getElem?_eq_none (by rw [yb_reg]; exact h)]
theorem yb_lay_ok {G : xm_H} (h : yb_lay G = true) (xs : List Int32) : yLw (xm_hput G 0 (301, xs.map Value.int)) xs 0 ∧ ∃ vs, xm_hget G 0 = some (302, vs) := by
  unfold yb_lay at h
  rw [Bool.and_eq_true, Bool.and_eq_true, Bool.and_eq_true, Bool.and_eq_true, Bool.and_eq_true] at h
  obtain ⟨h0, h1, h2, h3, h4, h5⟩ := h
  have hg : ∀ j, j ≠ 0 → xm_hget (xm_hput G 0 (301, xs.map Value.int)) j = xm_hget G j := fun j hj => by rw [xl_hput, if_neg hj]
  have hr : ∀ j i, j ≠ 0 → yR (xm_hput G 0 (301, xs.map Value.int)) j i = yR G j i := fun j i hj => by
    unfold yR
    rw [hg j hj]
  have r0 : yr_of 0 = 0 := rfl
  have w0 : yr_row 0 = none := rfl
  have hT : ys_HT (xm_hput G 0 (301, xs.map Value.int)) := by
    intro j q hq
    rcases Nat.lt_or_ge j 364 with hj | hj
    · have hn : j ≠ 0 := fun e => by
        subst e
        rw [r0, w0] at hq
        cases hq
      have hb := yb_all_ok h1 j hj
      unfold yb_ht at hb
      rw [hq] at hb
      dsimp only at hb
      rw [hg j hn]
      cases ho : xm_hget G j with
      | none => rw [ho] at hb; cases hb
      | some o =>
        obtain ⟨t, vs⟩ := o
        rw [ho] at hb
        have hb : (Nat.beq t q.1 && (Nat.beq (xm_len vs) q.2.1 && yb_vs q vs 0)) = true := hb
        rw [Bool.and_eq_true, Bool.and_eq_true, xl_len] at hb
        refine ⟨vs, by rw [Nat.eq_of_beq_eq_true hb.1], Nat.eq_of_beq_eq_true hb.2.1, fun i v hv => ?_⟩
        obtain ⟨T, t1, t2⟩ := yb_vs_ok hb.2.2 i v hv
        rw [Nat.zero_add] at t1
        exact ⟨T, t1, t2⟩
    · rw [yb_of hj, w0] at hq
      cases hq
  obtain ⟨vs9, z1, z2⟩ := yb_zo_ok h4
  refine ⟨⟨hT, ⟨?_, ?_, hT, ?_⟩, zb_flat_ok h5 xs, ?_⟩, ?_⟩
  · obtain ⟨b, len, kind, place, size, fault, t1, t2⟩ := yb_tp_ok h3
    refine ⟨b, len, kind, place, size, fault, ?_, t2⟩
    show xm_hget (xm_hput G 0 (301, xs.map Value.int)) 8 = _
    rw [hg 8 (by decide)]
    exact t1
  · intro j hj
    have hn : j ≠ 0 := fun e => by
      subst e
      rw [r0] at hj
      cases hj
    have hl : j < 364 := by
      rcases Nat.lt_or_ge j 364 with h8 | h8
      · exact h8
      · rw [yb_of h8] at hj
        cases hj
    have hb := yb_all_ok h2 j hl
    unfold yb_ci at hb
    rw [hj] at hb
    obtain ⟨vs, v1, v2⟩ := yb_zo_ok (show yb_zo (xm_hget G j) = true from hb)
    refine ⟨vs, by rw [hg j hn]; exact v1, fun i x hx => ?_⟩
    have hx0 : x = 0 := Value.int.inj (v2 i _ hx)
    subst hx0
    exact fun h9 => absurd h9 (by decide)
  · intro t ht n hn c hc
    rw [hr 349 t (by decide), yR_eq z1] at hn
    have hx0 : n = 0 := Value.int.inj (z2 t _ hn)
    subst hx0
    have h9 : (0 : Int32).toInt = 0 := rfl
    rw [h9] at hc
    omega
  · rw [xl_hput, if_pos rfl]
  · unfold yb_302 at h0
    split at h0
    · rename_i t vs ho
      have h9 := Nat.eq_of_beq_eq_true h0
      subst h9
      exact ⟨vs, ho⟩
    · cases h0
noncomputable def xn_K (suf : List xm_E) : xm_K := fun lv st G _ _ _ => (match suf with
  | e :: _ => Nat.beq e.1 18
  | [] => false) && ((match st with
  | [] => true
  | _ => false) && (yb_o (xm_get lv 0) (.ref 0) && (yb_o (xm_get lv 1) (.ref 7) && (yb_o (xm_get lv 2) (.ref 344) && (yb_o (xm_get lv 3) (.int 0) && yb_lay G)))))
