/-! one row an instruction: writing and making -/
section XE
variable {p : Program} {l : Launch} {e : Env} {R : Room} {s : State} {m : MethodId} {args : Array Value} {below : List Frame} {meth : Method} {c : Code} {Qf : State → Prop} {cc : ByteArray} {nL o : Nat} {Z : xs_Z}
variable {lv : xm_L} {st : List Value} {G : xm_H} {E : xm_R} {kc ks pc mc ms : Nat} {k : xm_K} {H : Heap} {locs : List Loc} {ls : Array Slot}
theorem xs_wr {ok : Nat → Bool} {j : Nat} {x : Int32} {w : Value} {kk : xm_H → Bool} (h : xm_wr ok G j x w kk = true) : ∃ t vs, xm_hget G j = some (t, vs) ∧ ok t = true ∧ 0 ≤ x.toInt ∧ 7 ≤ j ∧ x.toInt.toNat < vs.length ∧ kk (xm_hput G j (t, vs.set x.toInt.toNat w)) = true := by
  unfold xm_wr at h
  cases hg : xm_hget G j with
  | none => rw [hg] at h; cases h
  | some q =>
    obtain ⟨t, vs⟩ := q
    rw [hg] at h
    dsimp only at h
    cases hc : (ok t && (decide (0 ≤ x.toInt) && Nat.ble 7 j)) with
    | false => rw [hc] at h; cases h
    | true =>
      rw [hc, cond_true, xl_nth, xl_put] at h
      rw [Bool.and_eq_true, Bool.and_eq_true, decide_eq_true_eq] at hc
      cases hw : vs[x.toInt.toNat]? with
      | none => rw [hw] at h; cases h
      | some w0 =>
        rw [hw] at h
        exact ⟨t, vs, rfl, hc.1, hc.2.1, Nat.le_of_ble_eq_true hc.2.2, (List.getElem?_eq_some_iff.mp hw).1, h⟩
theorem xs_ast {ok : Nat → Bool} {okv : Value → Option Value} {kk : List Value → xm_H → xm_R → Bool} (h : xm_ast ok okv st G E kk = true) (hs : xs_sat Z E) : ∃ w ix j st' w' E' x t vs, st = w :: ix :: .ref j :: st' ∧ okv w = some w' ∧ xs_cv Z ix = .int x ∧ xm_hget G j = some (t, vs) ∧ ok t = true ∧ 0 ≤ x.toInt ∧ 7 ≤ j ∧ x.toInt.toNat < vs.length ∧ xs_sat Z E' ∧ kk st' (xm_hput G j (t, vs.set x.toInt.toNat w')) E' = true := by
  unfold xm_ast at h
  split at h
  · rename_i w ix j st'
    cases hw : okv w with
    | none => rw [hw] at h; cases h
    | some w' =>
      rw [hw] at h
      dsimp only at h
      obtain ⟨E', x, h1, s1, hx⟩ := xs_conc h hs
      obtain ⟨t, vs, a1, a2, a3, a4, a5, a6⟩ := xs_wr h1
      exact ⟨w, ix, j, st', w', E', x, t, vs, rfl, hw, hx, a1, a2, a3, a4, a5, s1, a6⟩
  · cases h
/-- behind a store into an array -/
theorem xs_stored (X : xs_Cx p s m args c cc nL o Z) (S : xs_St Z nL lv G E H locs ls) {j t : Nat} {vs : List Value} {n : Nat} {w : Value} (a1 : xm_hget G j = some (t, vs)) (h1 : 100 ≤ t) (h2 : t < 108) (hj : 7 ≤ j) (hn : n < vs.length) {H1 : Heap} (e1 : H1[xs_rho Z j]? = some ((arrV (Z.2.1 (t - 100)) vs.length (fun k => xs_cv Z (vs.getD k .null))).setSlot n (xs_cv Z w))) (z1 : H1.size = H.size) (o1 : ∀ q, q ≠ xs_rho Z j → H1[q]? = H[q]?) {E' : xm_R} (s1 : xs_sat Z E') (n' : Nat) : xs_St Z nL lv (xm_hput G j (t, vs.set n w)) E' H1 (locs ++ [⟨xs_rho Z j, n'⟩]) ls := by
  obtain ⟨hlt, -⟩ := xs_arr S.2.1 a1 h1 h2
  refine ⟨s1, S.2.1.put X.2.2.2.2.2.1.2.2.2.2.1 hj hlt z1 o1 (Or.inr (Or.inl ⟨h1, h2, ?_⟩)), S.2.2.1, fun q hq => ?_⟩
  · rw [e1, xs_arrset hn]
  · rcases List.mem_append.mp hq with h | h
    · exact S.2.2.2 q h
    · rw [List.mem_singleton.mp h]
      exact xs_lo hj
theorem xb_iastore (X : xs_Cx p s m args c cc nL o Z) (hd : decode cc pc = .ok (.iastore, 1)) (hk : xm_ast (fun t => Nat.beq t 100) xm_kI st G E (fun st G E => k lv st G E kc ks) = true) (g : xs_good p l e R s m args below meth c Qf nL Z k (pc + 1)) (S : xs_St Z nL lv G E H locs ls) : W p l e R s m args below meth c H locs kc ks Qf (F0 m pc ls (st.map (xs_cv Z))) := by
  obtain ⟨w, ix, j, st', w', E', x, t, vs, rfl, hw, hx, a1, a2, a3, a4, a5, s1, a6⟩ := xs_ast hk S.1
  have a2 := Nat.eq_of_beq_eq_true a2
  subst a2
  unfold xm_kI at hw
  cases hI : xm_isI w with
  | false => rw [hI] at hw; cases hw
  | true =>
    rw [hI] at hw
    cases hw
    obtain ⟨z, hz⟩ := xs_I (Z := Z) hI
    obtain ⟨-, hc⟩ := xs_arr S.2.1 a1 (by decide) (by decide)
    rw [List.map_cons, List.map_cons, hz, hx]
    refine W.iast X.1 X.2.1 hc ((X.2.2.2.2.2.1.1.2 0 _ rfl).1 _ _) (fun q => by cases q) (by rw [arrV_size]; exact xs_in a3 a5) rfl rfl hd (fun H1 e1 z1 o1 => g lv st' _ E' kc ks a6 H1 _ ls (xs_stored X S a1 (by decide) (by decide) a4 a5 ?_ z1 o1 s1 _))
    rw [hz]
    exact e1
theorem xb_lastore (X : xs_Cx p s m args c cc nL o Z) (hd : decode cc pc = .ok (.lastore, 1)) (hk : xm_ast (fun t => Nat.beq t 102) xm_kL st G E (fun st G E => k lv st G E kc ks) = true) (g : xs_good p l e R s m args below meth c Qf nL Z k (pc + 1)) (S : xs_St Z nL lv G E H locs ls) : W p l e R s m args below meth c H locs kc ks Qf (F0 m pc ls (st.map (xs_cv Z))) := by
  obtain ⟨w, ix, j, st', w', E', x, t, vs, rfl, hw, hx, a1, a2, a3, a4, a5, s1, a6⟩ := xs_ast hk S.1
  have a2 := Nat.eq_of_beq_eq_true a2
  subst a2
  cases w with
  | long y =>
    cases hw
    obtain ⟨-, hc⟩ := xs_arr S.2.1 a1 (by decide) (by decide)
    rw [List.map_cons, List.map_cons, hx]
    exact W.last X.1 X.2.1 hc ((X.2.2.2.2.2.1.1.2 2 _ rfl).1 _ _) (fun q => by cases q) (by rw [arrV_size]; exact xs_in a3 a5) rfl rfl hd (fun H1 e1 z1 o1 => g lv st' _ E' kc ks a6 H1 _ ls (xs_stored X S a1 (by decide) (by decide) a4 a5 e1 z1 o1 s1 _))
  | _ => cases hw
theorem xs_kB {w w' : Value} (h : xm_kB w = some w') : ∃ z, xs_cv Z w = .int z ∧ narrow .byte (.int z) = xs_cv Z w' := by
  cases w with
  | int x =>
    cases h
    exact ⟨x, rfl, rfl⟩
  | float u =>
    unfold xm_kB at h
    dsimp only at h
    cases hc : Nat.beq (u.toNat / 32 % 2) 1 with
    | false => rw [hc] at h; cases h
    | true =>
      rw [hc] at h
      cases h
      have hc := Nat.eq_of_beq_eq_true hc
      refine ⟨_, rfl, ?_⟩
      show narrow .byte (.int (xs_sh (xs_n Z) u.toNat)) = .int (xs_sh (xs_n Z) u.toNat)
      unfold xs_sh
      rw [if_pos hc]
      exact pk_nb _
  | _ => cases h
theorem xs_kZ {w w' : Value} (h : xm_kZ w = some w') : ∃ z, xs_cv Z w = .int z ∧ narrow .boolean (.int z) = xs_cv Z w' := by
  cases w with
  | int x =>
    unfold xm_kZ at h
    dsimp only at h
    cases hc : (decide (x = 0) || decide (x = 1)) with
    | false => rw [hc] at h; cases h
    | true =>
      rw [hc] at h
      cases h
      rw [Bool.or_eq_true, decide_eq_true_eq, decide_eq_true_eq] at hc
      rcases hc with rfl | rfl
      · exact ⟨0, rfl, rfl⟩
      · exact ⟨1, rfl, rfl⟩
  | _ => cases h
theorem xb_bastore (X : xs_Cx p s m args c cc nL o Z) (hd : decode cc pc = .ok (.bastore, 1)) (hk : xm_bast st G E (fun st G E => k lv st G E kc ks) = true) (g : xs_good p l e R s m args below meth c Qf nL Z k (pc + 1)) (S : xs_St Z nL lv G E H locs ls) : W p l e R s m args below meth c H locs kc ks Qf (F0 m pc ls (st.map (xs_cv Z))) := by
  unfold xm_bast at hk
  split at hk
  · rename_i w0 ix0 j0 st0
    cases h0 : xm_hget G j0 with
    | none => rw [h0] at hk; cases hk
    | some q =>
      obtain ⟨t0, vs0⟩ := q
      rw [h0] at hk
      dsimp only at hk
      cases h3 : Nat.beq t0 103 with
      | true =>
        rw [h3, cond_true] at hk
        obtain ⟨w, ix, j, st', w', E', x, t, vs, e0, hw, hx, a1, a2, a3, a4, a5, s1, a6⟩ := xs_ast hk S.1
        cases e0
        have a2 := Nat.eq_of_beq_eq_true a2
        subst a2
        obtain ⟨z, hz, hn⟩ := xs_kZ (Z := Z) hw
        obtain ⟨-, hc⟩ := xs_arr S.2.1 a1 (by decide) (by decide)
        rw [List.map_cons, List.map_cons, hz, hx]
        refine W.zast X.1 X.2.1 hc ((X.2.2.2.2.2.1.1.2 3 _ rfl).1 _ _) (fun q => by cases q) (by rw [arrV_size]; exact xs_in a3 a5) rfl rfl hd (fun H1 e1 z1 o1 => g lv _ _ E' kc ks a6 H1 _ ls (xs_stored X S a1 (by decide) (by decide) a4 a5 ?_ z1 o1 s1 _))
        rw [hn] at e1
        exact e1
      | false =>
        rw [h3, cond_false] at hk
        obtain ⟨w, ix, j, st', w', E', x, t, vs, e0, hw, hx, a1, a2, a3, a4, a5, s1, a6⟩ := xs_ast hk S.1
        cases e0
        have a2 := Nat.eq_of_beq_eq_true a2
        subst a2
        obtain ⟨z, hz, hn⟩ := xs_kB (Z := Z) hw
        obtain ⟨-, hc⟩ := xs_arr S.2.1 a1 (by decide) (by decide)
        rw [List.map_cons, List.map_cons, hz, hx]
        refine W.bast X.1 X.2.1 hc ((X.2.2.2.2.2.1.1.2 1 _ rfl).1 _ _) (fun q => by cases q) (by rw [arrV_size]; exact xs_in a3 a5) rfl rfl hd (fun H1 e1 z1 o1 => g lv _ _ E' kc ks a6 H1 _ ls (xs_stored X S a1 (by decide) (by decide) a4 a5 ?_ z1 o1 s1 _))
        rw [hn] at e1
        exact e1
  · cases hk
theorem xs_recv (X : xs_Cx p s m args c cc nL o Z) (S : xs_HW Z G H) {j t : Nat} {vs : List Value} {r : vw_C} (hg : xm_hget G j = some (t, vs)) (hr : xm_cls[t]? = some r) : ∃ cell : Cell, H[xs_rho Z j]? = some cell ∧ cell.vm = .none ∧ s.vm.findClass r.1 = some cell.cls ∧ ∃ kC, s.vm.classes[cell.cls]? = some kC := by
  obtain ⟨-, -, cell, h1, h2, h3, -⟩ := xs_obj S hg hr
  obtain ⟨-, hfc, kC, hkC, -⟩ := X.2.2.2.2.2.1.1.1 t r hr
  exact ⟨cell, h1, h3, by rw [h2]; exact hfc, kC, by rw [h2]; exact hkC⟩
theorem xs_aast1 (X : xs_Cx p s m args c cc nL o Z) (hd : decode cc pc = .ok (.aastore, 1)) {q j : Nat} {i : Int32} {t c1 : Nat} {vs ws : List Value} {C : String} {st' : List Value} {E' : xm_R} (S : xs_St Z nL lv G E H locs ls) (hq : xm_hget G q = some (c1, ws)) (hcl : ∃ T N, xm_cls[c1]? = some (C, T, N)) (a1 : xm_hget G j = some (t, vs)) (h1 : 100 ≤ t) (h2 : t < 108) (ht : (xs_tys Z)[t - 100]? = some (Z.2.1 (t - 100), .object C)) (a3 : 0 ≤ i.toInt) (a4 : 7 ≤ j) (a5 : i.toInt.toNat < vs.length) (s1 : xs_sat Z E') (a6 : k lv st' (xm_hput G j (t, vs.set i.toInt.toNat (.ref q))) E' kc ks = true) (g : xs_good p l e R s m args below meth c Qf nL Z k (pc + 1)) : W p l e R s m args below meth c H locs kc ks Qf (F0 m pc ls (.ref (xs_rho Z q) :: .int i :: .ref (xs_rho Z j) :: st'.map (xs_cv Z))) := by
  obtain ⟨T, N, hcl⟩ := hcl
  obtain ⟨cellV, v1, v2, v3, kV, v4⟩ := xs_recv X S.2.1 hq hcl
  obtain ⟨-, hc⟩ := xs_arr S.2.1 a1 h1 h2
  obtain ⟨kA, comp, r1, r2, r3, -⟩ := (X.2.2.2.2.2.1.1.2 (t - 100) _ ht).2
  cases r3.symm.trans v3
  refine W.aast X.1 X.2.1 hc (fun q h => by cases h) (fun h => by cases h) r1 r2 rfl v4 ⟨?_, ?_⟩ v1 (fun q h => by rw [v2] at h; cases h) v4 (va_asg _ _) rfl rfl hd (fun H1 e1 z1 o1 => g lv st' _ E' kc ks a6 H1 _ ls (xs_stored X S a1 h1 h2 a4 a5 e1 z1 o1 s1 _))
  · exact fun q => xs_in a3 a5 (Or.inl q)
  · rw [arrV_size]
    exact Nat.not_le.mp (fun q => xs_in a3 a5 (Or.inr q))
theorem xb_aastore (X : xs_Cx p s m args c cc nL o Z) (hd : decode cc pc = .ok (.aastore, 1)) (hk : xm_aast st G E (fun st G E => k lv st G E kc ks) = true) (g : xs_good p l e R s m args below meth c Qf nL Z k (pc + 1)) (S : xs_St Z nL lv G E H locs ls) : W p l e R s m args below meth c H locs kc ks Qf (F0 m pc ls (st.map (xs_cv Z))) := by
  unfold xm_aast at hk
  split at hk
  · rename_i q ix j st'
    cases h0 : xm_hget G q with
    | none => rw [h0] at hk; cases hk
    | some y =>
      obtain ⟨c1, ws⟩ := y
      rw [h0] at hk
      dsimp only at hk
      obtain ⟨E', x, h1, s1, hx⟩ := xs_conc hk S.1
      obtain ⟨t, vs, a1, a2, a3, a4, a5, a6⟩ := xs_wr h1
      rw [List.map_cons, List.map_cons, hx]
      unfold xm_ofA at a2
      split at a2
      · rename_i h9
        split at h9 <;> first | cases h9 | skip
        · rw [Bool.and_eq_true] at a2
          have e9 := Nat.eq_of_beq_eq_true a2.1
          subst e9
          exact xs_aast1 X hd S h0 ⟨_, _, rfl⟩ a1 (by decide) (by decide) rfl a3 a4 a5 s1 a6 g
        · rw [Bool.and_eq_true] at a2
          have e9 := Nat.eq_of_beq_eq_true a2.1
          subst e9
          exact xs_aast1 X hd S h0 ⟨_, _, rfl⟩ a1 (by decide) (by decide) rfl a3 a4 a5 s1 a6 g
        · rw [Bool.and_eq_true] at a2
          have e9 := Nat.eq_of_beq_eq_true a2.1
          subst e9
          exact xs_aast1 X hd S h0 ⟨_, _, rfl⟩ a1 (by decide) (by decide) rfl a3 a4 a5 s1 a6 g
        · rw [Bool.and_eq_true] at a2
          have e9 := Nat.eq_of_beq_eq_true a2.1
          subst e9
          exact xs_aast1 X hd S h0 ⟨_, _, rfl⟩ a1 (by decide) (by decide) rfl a3 a4 a5 s1 a6 g
      · cases a2
  · cases hk
theorem xs_tyk {t : Nat} (X : xs_Cx p s m args c cc nL o Z) (h1 : 100 ≤ t) (h2 : t < 108) : ∃ ty, ArrOfT s (Z.2.1 (t - 100)) ty := by
  have h : t = 100 ∨ t = 101 ∨ t = 102 ∨ t = 103 ∨ t = 104 ∨ t = 105 ∨ t = 106 ∨ t = 107 := by omega
  have hK := X.2.2.2.2.2.1.1.2
  rcases h with rfl | rfl | rfl | rfl | rfl | rfl | rfl | rfl
  · exact ⟨_, (hK 0 _ rfl).1⟩
  · exact ⟨_, (hK 1 _ rfl).1⟩
  · exact ⟨_, (hK 2 _ rfl).1⟩
  · exact ⟨_, (hK 3 _ rfl).1⟩
  · exact ⟨_, (hK 4 _ rfl).1⟩
  · exact ⟨_, (hK 5 _ rfl).1⟩
  · exact ⟨_, (hK 6 _ rfl).1⟩
  · exact ⟨_, (hK 7 _ rfl).1⟩
theorem xb_arraylength (X : xs_Cx p s m args c cc nL o Z) (hd : decode cc pc = .ok (.arraylength, 1)) (hk : xm_alen st G (fun st => k lv st G E kc ks) = true) (g : xs_good p l e R s m args below meth c Qf nL Z k (pc + 1)) (S : xs_St Z nL lv G E H locs ls) : W p l e R s m args below meth c H locs kc ks Qf (F0 m pc ls (st.map (xs_cv Z))) := by
  unfold xm_alen at hk
  split at hk
  · rename_i j st'
    cases h0 : xm_hget G j with
    | none => rw [h0] at hk; cases hk
    | some q =>
      obtain ⟨t, vs⟩ := q
      rw [h0] at hk
      dsimp only at hk
      cases h3 : Nat.beq t 300 with
      | true =>
        have h3 := Nat.eq_of_beq_eq_true h3
        subst h3
        exact (xs_no300 S.2.1 h0).elim
      | false =>
        rw [h3, cond_false] at hk
        cases h4 : (Nat.ble 100 t && Nat.blt t 108) with
        | false =>
          rw [h4, Bool.false_or] at hk
          cases h5 : Nat.beq t 301 with
          | false => rw [h5] at hk; cases hk
          | true =>
            rw [h5, cond_true, xl_len] at hk
            have h5 := Nat.eq_of_beq_eq_true h5
            subst h5
            obtain ⟨-, r1, r2, -⟩ := xs_scr S.2.1 h0
            obtain ⟨k1, k2, k3⟩ := X.2.2.2.2.2.1.2.2.2.1
            exact W.alen (n := Int32.ofNat vs.length) X.1 X.2.1 r1 k1 (by rw [r2]) rfl rfl hd (g lv _ G E kc ks hk H locs ls S)
        | true =>
          rw [h4, Bool.true_or, cond_true, xl_len] at hk
          rw [Bool.and_eq_true] at h4
          have b1 : 100 ≤ t := Nat.le_of_ble_eq_true h4.1
          have b2 : t < 108 := Nat.le_of_ble_eq_true h4.2
          obtain ⟨-, hc⟩ := xs_arr S.2.1 h0 b1 b2
          obtain ⟨ty, hty⟩ := xs_tyk X b1 b2
          exact W.alen (n := Int32.ofNat vs.length) X.1 X.2.1 hc (hty _ _) (by rw [arrV_size]) rfl rfl hd (g lv _ G E kc ks hk H locs ls S)
  · cases hk
end XE
