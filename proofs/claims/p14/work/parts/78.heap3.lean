/-! one row an instruction: new cells, fields, copies, switches -/
section XF
variable {p : Program} {l : Launch} {e : Env} {R : Room} {s : State} {m : MethodId} {args : Array Value} {below : List Frame} {meth : Method} {c : Code} {Qf : State → Prop} {cc : ByteArray} {nL o : Nat} {Z : xs_Z}
variable {lv : xm_L} {st : List Value} {G : xm_H} {E : xm_R} {kc ks pc mc ms : Nat} {k : xm_K} {H : Heap} {locs : List Loc} {ls : Array Slot}
theorem xs_newa {t : Nat} {kk : List Value → xm_H → xm_R → Nat → Nat → Bool} (h : xm_newa t st G E kc ks mc ms kk = true) (hs : xs_sat Z E) : ∃ w st' E' x, st = w :: st' ∧ xs_cv Z w = .int x ∧ 0 ≤ x.toInt ∧ kc + 1 ≤ mc ∧ ks + x.toInt.toNat ≤ ms ∧ x.toInt.toNat ≤ 65536 ∧ xs_sat Z E' ∧ kk (.ref G.1 :: st') (xm_push G (t, List.replicate x.toInt.toNat (xm_zero t))) E' (kc + 1) (ks + x.toInt.toNat) = true := by
  unfold xm_newa at h
  split at h
  · rename_i w st'
    obtain ⟨E', x, h1, s1, hx⟩ := xs_conc h hs
    cases hc : (decide (0 ≤ x.toInt) && (Nat.ble (kc + 1) mc && (Nat.ble (ks + x.toInt.toNat) ms && Nat.ble x.toInt.toNat 65536))) with
    | false => rw [hc] at h1; cases h1
    | true =>
      rw [hc, cond_true, xl_rep] at h1
      simp only [Bool.and_eq_true, decide_eq_true_eq] at hc
      exact ⟨w, st', E', x, rfl, hx, hc.1, Nat.le_of_ble_eq_true hc.2.1, Nat.le_of_ble_eq_true hc.2.2.1, Nat.le_of_ble_eq_true hc.2.2.2, s1, h1⟩
  · cases h
/-- behind the making of a row -/
theorem xs_pushed (X : xs_Cx p s m args c cc nL o Z) (S : xs_St Z nL lv G E H locs ls) {t n : Nat} {z : Value} (h1 : 100 ≤ t) (h2 : t < 108) (hz : xs_cv Z z = z) {E' : xm_R} (s1 : xs_sat Z E') : xs_St Z nL lv (xm_push G (t, List.replicate n z)) E' (H.push { cls := Z.2.1 (t - 100), slots := Array.replicate n z, vm := .none }) locs ls := by
  refine ⟨s1, S.2.1.push X.2.2.2.2.2.1.2.2.2.2.1 (by simp) (fun q hq => ?_) (Or.inr (Or.inl ⟨h1, h2, ?_⟩)), S.2.2⟩
  · rw [Array.getElem?_push, if_neg (Nat.ne_of_lt hq)]
  · rw [xs_rho_new S.2.1, arrV_new]
    show (H.push (arrV (Z.2.1 (t - 100)) n fun _ => z))[H.size]? = some (arrV (Z.2.1 (t - 100)) (List.replicate n z).length fun k => xs_cv Z ((List.replicate n z).getD k .null))
    rw [List.length_replicate, Array.getElem?_push, if_pos rfl]
    congr 1
    apply xs_arrcongr
    intro i hi
    rw [List.getD_eq_getElem?_getD, List.getElem?_replicate, if_pos hi]
    exact hz.symm
theorem xs_clamp {x : Int32} (h : 0 ≤ x.toInt) : ¬ x < 0 := fun q => by
  have q1 : x.toInt < 0 := Int32.lt_iff_toInt_lt.mp q
  omega
set_option maxRecDepth 20000 in
theorem xb_newarray (X : xs_Cx p s m args c cc nL o Z) {at_ : ArrayType} {t : Nat} (hd : decode cc pc = .ok (.newarray at_, 2)) (ht : t = xm_atyp at_) (h100 : 100 ≤ t) (hR : mc ≤ R.cells ∧ ms ≤ R.slots) (hk : xm_newa t st G E kc ks mc ms (fun st G E kc ks => k lv st G E kc ks) = true) (g : xs_good p l e R s m args below meth c Qf nL Z k (pc + 2)) (S : xs_St Z nL lv G E H locs ls) : W p l e R s m args below meth c H locs kc ks Qf (F0 m pc ls (st.map (xs_cv Z))) := by
  obtain ⟨w, st', E', x, rfl, hx, b1, b2, b3, b4, s1, h1⟩ := xs_newa hk S.1
  have hn : xs_rho Z G.1 = H.size := xs_rho_new S.2.1
  rw [List.map_cons, hx]
  cases at_ with
  | int =>
    subst ht
    refine W.newa X.1 X.2.1 (xs_word X xk_a0) rfl hd rfl (xs_clamp b1) (by show x.toInt.toNat * 4 ≤ _; omega) (by omega) (by show ks + x.toInt.toNat ≤ _; omega) (fun cA kA comp e1 e2 e3 => ?_)
    cases e1.symm.trans (X.2.2.2.2.2.1.1.2 0 _ rfl).2
    have h2 := g lv _ _ E' _ _ h1 _ locs ls (xs_pushed X S (by decide) (by decide) rfl s1)
    rw [List.map_cons, show xs_cv Z (.ref G.1) = .ref H.size from congrArg Value.ref hn] at h2
    exact h2
  | byte =>
    subst ht
    refine W.newa X.1 X.2.1 (xs_word X xk_a1) rfl hd rfl (xs_clamp b1) (by show x.toInt.toNat * 1 ≤ _; omega) (by omega) (by show ks + x.toInt.toNat ≤ _; omega) (fun cA kA comp e1 e2 e3 => ?_)
    cases e1.symm.trans (X.2.2.2.2.2.1.1.2 1 _ rfl).2
    have h2 := g lv _ _ E' _ _ h1 _ locs ls (xs_pushed X S (by decide) (by decide) rfl s1)
    rw [List.map_cons, show xs_cv Z (.ref G.1) = .ref H.size from congrArg Value.ref hn] at h2
    exact h2
  | long =>
    subst ht
    refine W.newa X.1 X.2.1 (xs_word X xk_a2) rfl hd rfl (xs_clamp b1) (by show x.toInt.toNat * 8 ≤ _; omega) (by omega) (by show ks + x.toInt.toNat ≤ _; omega) (fun cA kA comp e1 e2 e3 => ?_)
    cases e1.symm.trans (X.2.2.2.2.2.1.1.2 2 _ rfl).2
    have h2 := g lv _ _ E' _ _ h1 _ locs ls (xs_pushed X S (by decide) (by decide) rfl s1)
    rw [List.map_cons, show xs_cv Z (.ref G.1) = .ref H.size from congrArg Value.ref hn] at h2
    exact h2
  | boolean =>
    subst ht
    refine W.newa X.1 X.2.1 (xs_word X xk_a3) rfl hd rfl (xs_clamp b1) (by show x.toInt.toNat * 1 ≤ _; omega) (by omega) (by show ks + x.toInt.toNat ≤ _; omega) (fun cA kA comp e1 e2 e3 => ?_)
    cases e1.symm.trans (X.2.2.2.2.2.1.1.2 3 _ rfl).2
    have h2 := g lv _ _ E' _ _ h1 _ locs ls (xs_pushed X S (by decide) (by decide) rfl s1)
    rw [List.map_cons, show xs_cv Z (.ref G.1) = .ref H.size from congrArg Value.ref hn] at h2
    exact h2
  | char => subst ht; exact absurd h100 (by decide)
  | float => subst ht; exact absurd h100 (by decide)
  | double => subst ht; exact absurd h100 (by decide)
  | short => subst ht; exact absurd h100 (by decide)
theorem xs_anew1 (X : xs_Cx p s m args c cc nL o Z) {i t c1 : Nat} {C : String} (hd : decode cc pc = .ok (.anewarray i, 3)) (hcl : xm_at2 (xm_cl o) (i, c1) = true) (hC : ∃ T N, xm_cls[c1]? = some (C, T, N)) (h1 : 100 ≤ t) (h2 : t < 108) (hz : xm_zero t = .null) (ht : (xs_tys Z)[t - 100]? = some (Z.2.1 (t - 100), .object C)) (hC4 : C ∈ ["StairNews$Rule", "StairNews$Folk", "StairNews$Lore", "StairNews$Scene"]) (hR : mc ≤ R.cells ∧ ms ≤ R.slots) (hk : xm_newa t st G E kc ks mc ms (fun st G E kc ks => k lv st G E kc ks) = true) (g : xs_good p l e R s m args below meth c Qf nL Z k (pc + 3)) (S : xs_St Z nL lv G E H locs ls) : W p l e R s m args below meth c H locs kc ks Qf (F0 m pc ls (st.map (xs_cv Z))) := by
  obtain ⟨w, st', E', x, rfl, hx, b1, b2, b3, b4, s1, h3⟩ := xs_newa hk S.1
  have hn : xs_rho Z G.1 = H.size := xs_rho_new S.2.1
  obtain ⟨T, N, hC⟩ := hC
  obtain ⟨r, hr, e1, e2⟩ := xs_at2 hcl
  have h4 := List.all_eq_true.mp (xk_cl o X.2.2.2.2.2.2) r hr
  unfold xm_clok at h4
  rw [e2, hC, e1] at h4
  rw [List.map_cons, hx]
  refine W.anew X.1 X.2.1 X.2.2.2.1 (xs_word X h4) (va_AO.use (X.2.2.2.2.2.1.2.2.2.2.2 C hC4)) rfl hd rfl (xs_clamp b1) (by show x.toInt.toNat * 4 ≤ _; omega) (by omega) (by show ks + x.toInt.toNat ≤ _; omega) (fun cA kA comp f1 f2 f3 f4 => ?_)
  obtain ⟨kA', comp', r1, r2, r3, r4⟩ := (X.2.2.2.2.2.1.1.2 (t - 100) _ ht).2
  cases f1.symm.trans r4
  rw [hz] at h3
  have h5 := g lv _ _ E' _ _ h3 _ locs ls (xs_pushed X S h1 h2 rfl s1)
  rw [List.map_cons, show xs_cv Z (.ref G.1) = .ref H.size from congrArg Value.ref hn] at h5
  exact h5
theorem xb_anewarray (X : xs_Cx p s m args c cc nL o Z) {i t : Nat} (hd : decode cc pc = .ok (.anewarray i, 3)) (hcl : (match xm_ofA t with
    | some c => xm_at2 (xm_cl o) (i, c)
    | none => false) = true) (hR : mc ≤ R.cells ∧ ms ≤ R.slots) (hk : xm_newa t st G E kc ks mc ms (fun st G E kc ks => k lv st G E kc ks) = true) (g : xs_good p l e R s m args below meth c Qf nL Z k (pc + 3)) (S : xs_St Z nL lv G E H locs ls) : W p l e R s m args below meth c H locs kc ks Qf (F0 m pc ls (st.map (xs_cv Z))) := by
  split at hcl
  · rename_i c1 h9
    unfold xm_ofA at h9
    split at h9 <;> first | cases h9 | skip
    · exact xs_anew1 X hd hcl ⟨_, _, rfl⟩ (by decide) (by decide) rfl rfl (by decide) hR hk g S
    · exact xs_anew1 X hd hcl ⟨_, _, rfl⟩ (by decide) (by decide) rfl rfl (by decide) hR hk g S
    · exact xs_anew1 X hd hcl ⟨_, _, rfl⟩ (by decide) (by decide) rfl rfl (by decide) hR hk g S
    · exact xs_anew1 X hd hcl ⟨_, _, rfl⟩ (by decide) (by decide) rfl rfl (by decide) hR hk g S
  · cases hcl
theorem xs_tok {a : Nat} {r : vw_C} (hr : xm_cls[a]? = some r) : ∃ f : Nat × Nat × List Nat, xm_w f.1 (.instantiable r.1 r.2.2) = true ∧ xm_w f.2.1 (.initialized r.1) = true ∧ (∀ w ∈ u_ws r.1 r.2.1 r.2.2, w ∈ xm_tb) ∧ (∀ k, k < r.2.2 → parseFieldDescriptor (r.2.1 k).2.2.1 = some (xm_ty a k)) ∧ (∀ k, k < r.2.2 → (xm_def a)[k]? = some (defaultValue (xm_ty a k))) ∧ (∀ x, x < r.2.2 → ∀ y, y < r.2.2 → x ≠ y → (r.2.1 x).2.1 ≠ (r.2.1 y).2.1) ∧ (xm_def a).length = r.2.2 ∧ ∀ v ∈ xm_def a, xm_pl v = true := by
  have h12 : a < 12 := (List.getElem?_eq_some_iff.mp hr).1
  have h := xk_t a h12
  unfold xm_tok at h
  rw [hr] at h
  split at h
  · rename_i r' f h8 h9
    cases h8
    simp only [Bool.and_eq_true] at h
    obtain ⟨a1, a2, a3, a4, a5, a6⟩ := h
    refine ⟨f, a1, a2, fun w hw => ?_, fun k hk => ?_, fun k hk => ?_, fun x hx y hy hne => ?_, Nat.eq_of_beq_eq_true a5, List.all_eq_true.mp a6⟩
    · obtain ⟨k, hk, rfl⟩ := List.mem_map.mp hw
      exact xk_w (List.all_eq_true.mp a3 k hk)
    · have h7 := List.all_eq_true.mp a4 k (List.mem_range.mpr hk)
      simp only [Bool.and_eq_true, decide_eq_true_eq] at h7
      exact h7.1
    · have h7 := List.all_eq_true.mp a4 k (List.mem_range.mpr hk)
      simp only [Bool.and_eq_true, decide_eq_true_eq] at h7
      exact h7.2.1
    · have h7 := List.all_eq_true.mp a4 x (List.mem_range.mpr hx)
      simp only [Bool.and_eq_true, decide_eq_true_eq] at h7
      have h8 := List.all_eq_true.mp h7.2.2 y (List.mem_range.mpr hy)
      rw [Bool.or_eq_true] at h8
      rcases h8 with q | q
      · exact absurd (Nat.eq_of_beq_eq_true q) hne
      · simpa using q
  · cases h
theorem xs_pl {v : Value} (h : xm_pl v = true) : xs_cv Z v = v := by cases v <;> first | rfl | cases h
theorem xb_new (X : xs_Cx p s m args c cc nL o Z) {i a : Nat} {r : vw_C} (hd : decode cc pc = .ok (.new i, 3)) (hcl : xm_at2 (xm_cl o) (i, a) = true) (hr : xm_cls[a]? = some r) (hR : mc ≤ R.cells ∧ ms ≤ R.slots) (h1 : kc + 1 ≤ mc) (h2 : ks + r.2.2 ≤ ms) (hk : k lv (.ref G.1 :: st) (xm_push G (a, xm_def a)) E (kc + 1) (ks + r.2.2) = true) (g : xs_good p l e R s m args below meth c Qf nL Z k (pc + 3)) (S : xs_St Z nL lv G E H locs ls) : W p l e R s m args below meth c H locs kc ks Qf (F0 m pc ls (st.map (xs_cv Z))) := by
  have hn : xs_rho Z G.1 = H.size := xs_rho_new S.2.1
  obtain ⟨q, hq, e1, e2⟩ := xs_at2 hcl
  have h4 := List.all_eq_true.mp (xk_cl o X.2.2.2.2.2.2) q hq
  unfold xm_clok at h4
  rw [e2, hr, e1] at h4
  obtain ⟨f, t1, t2, t3, t4, t5, t6, t7, t8⟩ := xs_tok hr
  have hKn := X.2.2.2.2.2.1.1.1 a r hr
  refine W.newcK X.1 X.2.1 X.2.2.2.1 (xs_word X h4) (xs_word X t1) (xs_word X t2) rfl hd (by omega) (by omega) hKn.2.1 rfl (fun H1 kC hkC e1 z1 o1 => ?_)
  have h5 := g lv _ _ E _ _ hk H1 locs ls ⟨S.1, S.2.1.push X.2.2.2.2.2.1.2.2.2.2.1 z1 (fun q hq => o1 q hq) (Or.inl ⟨r, hr, t7, ?_⟩), S.2.2⟩
  · rw [List.map_cons, show xs_cv Z (.ref G.1) = .ref H.size from congrArg Value.ref hn] at h5
    exact h5
  · rw [hn]
    refine (u_born (xm_ty a) X.2.2.2.2.1 t3 hKn hkC e1 t4).to (fun j hj => ?_)
    have h6 := t5 j hj
    show defaultValue (xm_ty a j) = xs_cv Z ((xm_def a).getD j .null)
    rw [List.getD_eq_getElem?_getD, h6]
    exact (xs_pl (t8 _ (List.mem_of_getElem? h6))).symm
theorem xs_fl (X : xs_Cx p s m args c cc nL o Z) {i a b : Nat} (h : xm_at3 (xm_fl o) (i, a, b) = true) : ∃ r, xm_cls[a]? = some r ∧ b < r.2.2 ∧ (r.2.1 b).1 = r.1 ∧ (Jvm.Cond.fieldLink (xm_own o) i r.1 (r.2.1 b).2.1 (r.2.1 b).2.2.1).before args s = true := by
  obtain ⟨q, hq, e1, e2, e3⟩ := xs_at3 h
  have h4 := List.all_eq_true.mp (xk_fl o X.2.2.2.2.2.2) q hq
  unfold xm_flok at h4
  rw [e1, e2, e3] at h4
  split at h4
  · rename_i r hr
    simp only [Bool.and_eq_true, decide_eq_true_eq] at h4
    exact ⟨r, hr, Nat.le_of_ble_eq_true h4.1, h4.2.1, xs_word X h4.2.2⟩
  · cases h4
theorem xb_getfield (X : xs_Cx p s m args c cc nL o Z) {i a b : Nat} (hd : decode cc pc = .ok (.getfield i, 3)) (hfl : xm_at3 (xm_fl o) (i, a, b) = true) (hk : xm_getf a b st G (fun st => k lv st G E kc ks) = true) (g : xs_good p l e R s m args below meth c Qf nL Z k (pc + 3)) (S : xs_St Z nL lv G E H locs ls) : W p l e R s m args below meth c H locs kc ks Qf (F0 m pc ls (st.map (xs_cv Z))) := by
  unfold xm_getf at hk
  split at hk
  · rename_i j st'
    cases h0 : xm_hget G j with
    | none => rw [h0] at hk; cases hk
    | some q =>
      obtain ⟨t, vs⟩ := q
      rw [h0] at hk
      dsimp only at hk
      cases h3 : Nat.beq t a with
      | false => rw [h3] at hk; cases hk
      | true =>
        rw [h3, cond_true, xl_nth] at hk
        have h3 := Nat.eq_of_beq_eq_true h3
        subst h3
        cases hw : vs[b]? with
        | none => rw [hw] at hk; cases hk
        | some w =>
          rw [hw] at hk
          dsimp only at hk
          obtain ⟨r, hr, hb, hr1, hlink⟩ := xs_fl X hfl
          obtain ⟨f, t1, t2, t3, t4, t5, t6, t7, t8⟩ := xs_tok hr
          obtain ⟨-, -, cell, q1, q2, q3, q4⟩ := xs_obj S.2.1 h0 hr
          obtain ⟨hS, hfc, kC, hkC, hkind⟩ := X.2.2.2.2.2.1.1.1 t r hr
          obtain ⟨cf, kf, fi, fd, hi, hsl⟩ := hS b hb
          have hst := (u_facts hfc hkC (u_lays X.2.2.2.2.1 t3 hb) hi).1
          rw [hr1] at hi
          refine W.getf X.1 X.2.1 X.2.2.2.1 hlink hi hst q1 (by rw [q3]; exact fun h => by cases h) (v := xs_cv Z w) ?_ rfl rfl hd (g lv _ G E kc ks hk H locs ls S)
          rw [hsl, q4 b hb]
          show some (xs_cv Z (vs.getD b .null)) = _
          rw [List.getD_eq_getElem?_getD, hw]
          rfl
  · cases hk
theorem xs_fit {ty : FieldType} {v : Value} (h : xm_fit ty v = true) : narrow ty (xs_cv Z v) = xs_cv Z v ∧ fits ty (xs_cv Z v) = true := by
  cases ty with
  | int =>
    obtain ⟨x, hx⟩ := xs_I (Z := Z) h
    rw [hx]
    exact ⟨rfl, rfl⟩
  | boolean =>
    cases v with
    | int x =>
      unfold xm_fit at h
      dsimp only at h
      rw [Bool.or_eq_true, decide_eq_true_eq, decide_eq_true_eq] at h
      rcases h with rfl | rfl
      · exact ⟨rfl, rfl⟩
      · exact ⟨rfl, rfl⟩
    | _ => cases h
  | long =>
    obtain ⟨x, hx⟩ := xs_L (Z := Z) h
    rw [hx]
    exact ⟨rfl, rfl⟩
  | object C =>
    rcases xs_A (Z := Z) h with ⟨-, hx⟩ | ⟨j, -, hx⟩
    · rw [hx]
      exact ⟨rfl, rfl⟩
    · rw [hx]
      exact ⟨rfl, rfl⟩
  | array C =>
    rcases xs_A (Z := Z) h with ⟨-, hx⟩ | ⟨j, -, hx⟩
    · rw [hx]
      exact ⟨rfl, rfl⟩
    · rw [hx]
      exact ⟨rfl, rfl⟩
  | _ => cases h
theorem xs_updV {vs : List Value} {b : Nat} {w : Value} (hb : b < vs.length) (j : Nat) : updV (fun k => xs_cv Z (vs.getD k .null)) b (xs_cv Z w) j = xs_cv Z ((vs.set b w).getD j .null) := by
  show (if j = b then xs_cv Z w else xs_cv Z (vs.getD j .null)) = _
  by_cases e : j = b
  · subst e
    rw [if_pos rfl, List.getD_eq_getElem?_getD, List.getElem?_set_self hb]
    rfl
  · rw [if_neg e, List.getD_eq_getElem?_getD, List.getD_eq_getElem?_getD, List.getElem?_set_ne (fun q => e q.symm)]
theorem xb_putfield (X : xs_Cx p s m args c cc nL o Z) {i a b j t : Nat} {vs : List Value} {w : Value} (hd : decode cc pc = .ok (.putfield i, 3)) (hfl : xm_at3 (xm_fl o) (i, a, b) = true) {ini : Bool} (hini : ini = true → meth.name = "<init>") (hfin : (!(xm_fin a b) || (ini && xm_mine a o)) = true) (h0 : xm_hget G j = some (t, vs)) (hta : t = a) (hj : 7 ≤ j) (hfit : xm_fit (xm_ty t b) w = true) (hb : b < vs.length) (hk : k lv st (xm_hput G j (t, vs.set b w)) E kc ks = true) (g : xs_good p l e R s m args below meth c Qf nL Z k (pc + 3)) (S : xs_St Z nL lv G E H locs ls) : W p l e R s m args below meth c H locs kc ks Qf (F0 m pc ls ((w :: .ref j :: st).map (xs_cv Z))) := by
  subst hta
  obtain ⟨r, hr, hbN, hr1, hlink⟩ := xs_fl X hfl
  obtain ⟨f, t1, t2, t3, t4, t5, t6, t7, t8⟩ := xs_tok hr
  obtain ⟨hlt, hvl, cell, q1, q2, q3, q4⟩ := xs_obj S.2.1 h0 hr
  have hap : ∀ x y, x < r.2.2 → y < r.2.2 → x ≠ y → (Z.1.2 t) x ≠ (Z.1.2 t) y := va_apart (own := xm_own o) X.2.2.2.2.1 t3 (xm_ty t) t4 t6 X.2.2.2.2.2.1.1 hr
  obtain ⟨hS, hfc, kC, hkC, hkind⟩ := X.2.2.2.2.2.1.1.1 t r hr
  obtain ⟨cf, kf, fi, fd, hi, hsl⟩ := hS b hbN
  have hlay := X.2.2.2.2.1 _ (t3 _ (u_in_lay hbN))
  unfold u_lay at hlay
  have hst := (u_facts hfc hkC (u_lays X.2.2.2.2.1 t3 hbN) hi).1
  obtain ⟨hn, hft⟩ := xs_fit (Z := Z) hfit
  have fin : ∀ H1 : Heap, H1[xs_rho Z j]? = some (cell.setSlot fd.slot (xs_cv Z w)) → H1.size = H.size → (∀ q, q ≠ xs_rho Z j → H1[q]? = H[q]?) → W p l e R s m args below meth c H1 (locs ++ [⟨xs_rho Z j, fd.slot⟩]) kc ks Qf (F0 m (pc + 3) ls (st.map (xs_cv Z))) := by
    intro H1 e1 z1 o1
    refine g lv st _ E kc ks hk H1 _ ls ⟨S.1, S.2.1.put X.2.2.2.2.2.1.2.2.2.2.1 hj hlt z1 o1 (Or.inl ⟨r, hr, by rw [← hvl]; exact List.length_set, ?_⟩), S.2.2.1, fun q hq => ?_⟩
    · rw [hsl] at e1
      exact t_OB.to ⟨_, e1, q2, q3, t_set q4 hap hbN (xs_cv Z w)⟩ (fun k _ => xs_updV hb k)
    · rcases List.mem_append.mp hq with h | h
      · exact S.2.2.2 q h
      · rw [List.mem_singleton.mp h]
        exact xs_lo hj
  cases hf : (r.2.1 b).2.2.2 with
  | false =>
    rw [if_neg (by rw [hf]; decide)] at hlay
    have h6 := u_store hfc hkC hkind hlay hi (t4 b hbN) hn hft
    rw [hr1] at hi
    exact W.putK X.1 X.2.1 (f := fd) ⟨X.2.2.2.1, hlink, ⟨_, _, _, hi⟩, hst⟩ (by rw [q2]; exact h6) q1 q3 (by rw [hsl]; exact k2_hasslot (q4 b hbN)) rfl rfl hd fin
  | true =>
    rw [if_pos hf] at hlay
    have hfin2 : xm_fin t b = true := by
      unfold xm_fin
      rw [hr]
      exact hf
    rw [hfin2] at hfin
    have hfin : (ini && xm_mine t o) = true := hfin
    rw [Bool.and_eq_true] at hfin
    have hmine : r.1 = xm_own o := by
      have h9 := hfin.2
      unfold xm_mine at h9
      rw [hr] at h9
      exact of_decide_eq_true h9
    have hcf : m.cls = cf := by
      obtain ⟨_, _, c', _, _, _, -, -, hf', -, -, -, hown2, -⟩ := Cond.laysFinal_spec hlay
      have e1 : c' = cf := by have := hi.symm.trans hf'; simp at this; exact this.1.symm
      rw [hr1, hmine] at hown2
      rw [← e1]; exact Option.some.inj (X.2.2.2.1.symm.trans hown2)
    have h6 := u_fits hfc hkC hkind (Or.inr hlay) hi (t4 b hbN) hn hft
    rw [hr1] at hi
    exact W.putFinK X.1 X.2.1 X.2.2.2.1 hlink hi hst hcf (hini hfin.1) (by rw [q2]; exact h6) q1 q3 (by rw [hsl]; exact k2_hasslot (q4 b hbN)) rfl rfl hd fin
end XF
