/-! one row an instruction: what the machine does, the JVM does (no heap) -/
section XB
variable {p : Program} {l : Launch} {e : Env} {R : Room} {s : State} {m : MethodId} {args : Array Value} {below : List Frame} {meth : Method} {c : Code} {Qf : State → Prop} {cc : ByteArray} {nL o : Nat} {Z : xs_Z}
variable {lv : xm_L} {st : List Value} {G : xm_H} {E : xm_R} {kc ks pc : Nat} {k : xm_K} {H : Heap} {locs : List Loc} {ls : Array Slot}
theorem xs_holds (x y : Int32) : (xm_holds .eq (xm_sgn x.toInt y.toInt) = true ↔ x = y) ∧ (xm_holds .ne (xm_sgn x.toInt y.toInt) = true ↔ ¬ x = y) ∧ (xm_holds .lt (xm_sgn x.toInt y.toInt) = true ↔ x < y) ∧ (xm_holds .ge (xm_sgn x.toInt y.toInt) = true ↔ y ≤ x) ∧ (xm_holds .gt (xm_sgn x.toInt y.toInt) = true ↔ y < x) ∧ (xm_holds .le (xm_sgn x.toInt y.toInt) = true ↔ x ≤ y) := by
  have e1 : x = y ↔ x.toInt = y.toInt := Int32.toInt_inj.symm
  have e2 : x < y ↔ x.toInt < y.toInt := Int32.lt_iff_toInt_lt
  have e3 : y ≤ x ↔ y.toInt ≤ x.toInt := Int32.le_iff_toInt_le
  have e4 : y < x ↔ y.toInt < x.toInt := Int32.lt_iff_toInt_lt
  have e5 : x ≤ y ↔ x.toInt ≤ y.toInt := Int32.le_iff_toInt_le
  rw [e1, e2, e3, e4, e5]
  unfold xm_sgn
  by_cases h1 : x.toInt < y.toInt
  · rw [decide_eq_true h1]
    simp [xm_holds]
    omega
  · rw [decide_eq_false h1]
    by_cases h2 : x.toInt = y.toInt
    · rw [decide_eq_true h2]
      simp [xm_holds]
      omega
    · rw [decide_eq_false h2]
      simp [xm_holds]
      omega
theorem xs_int2 {i : Instr} {kk : List Value → xm_R → Bool} (h : xm_int2 i st E kk = true) (hs : xs_sat Z E) : ∃ w u st' E' x y z, st = w :: u :: st' ∧ xs_cv Z w = .int y ∧ xs_cv Z u = .int x ∧ xm_iop i x y = some z ∧ xs_sat Z E' ∧ kk (.int z :: st') E' = true := by
  match st, h with
  | w :: u :: st', h =>
    have h : xm_conc E w (fun E y => xm_conc E u (fun E x => match xm_iop i x y with
      | some z => xm_frc z (fun z => kk (.int z :: st') E)
      | none => false)) = true := h
    obtain ⟨E1, y, h1, s1, hy⟩ := xs_conc h hs
    obtain ⟨E2, x, h2, s2, hx⟩ := xs_conc h1 s1
    cases hz : xm_iop i x y with
    | none => rw [hz] at h2; cases h2
    | some z =>
      rw [hz] at h2
      have h3 : xm_frc z (fun z => kk (.int z :: st') E2) = true := h2
      rw [xl_frc] at h3
      exact ⟨w, u, st', E2, x, y, z, rfl, hy, hx, hz, s2, h3⟩
  | [], h => cases h
  | [_], h => cases h
theorem xs_long2 {i : Instr} {kk : List Value → Bool} (h : xm_long2 i st kk = true) : ∃ st' x y z, st = .long y :: .long x :: st' ∧ xm_lop i x y = some z ∧ kk (.long z :: st') = true := by
  unfold xm_long2 at h
  split at h
  · rename_i y x st'
    cases hz : xm_lop i x y with
    | none => rw [hz] at h; cases h
    | some z =>
      rw [hz] at h
      exact ⟨st', x, y, z, rfl, hz, h⟩
  · cases h

theorem xb_iconst (X : xs_Cx p s m args c cc nL o Z) {n : Int} {v : Value} (hd : decode cc pc = .ok (.iconst n, 1)) (hv : v = .int (Int32.ofInt n)) (hk : k lv (v :: st) G E kc ks = true) (g : xs_good p l e R s m args below meth c Qf nL Z k (pc + 1)) (S : xs_St Z nL lv G E H locs ls) : W p l e R s m args below meth c H locs kc ks Qf (F0 m pc ls (st.map (xs_cv Z))) := by
  subst hv
  exact lv_iconst X.1 X.2.1 hd rfl (g lv _ G E kc ks hk H locs ls S)
theorem xb_bipush (X : xs_Cx p s m args c cc nL o Z) {n : Int} {v : Value} (hd : decode cc pc = .ok (.bipush n, 2)) (hv : v = .int (Int8.ofInt n).toInt32) (hk : k lv (v :: st) G E kc ks = true) (g : xs_good p l e R s m args below meth c Qf nL Z k (pc + 2)) (S : xs_St Z nL lv G E H locs ls) : W p l e R s m args below meth c H locs kc ks Qf (F0 m pc ls (st.map (xs_cv Z))) := by
  subst hv
  exact lv_bipush X.1 X.2.1 hd rfl (g lv _ G E kc ks hk H locs ls S)
theorem xb_sipush (X : xs_Cx p s m args c cc nL o Z) {n : Int} {v : Value} (hd : decode cc pc = .ok (.sipush n, 3)) (hv : v = .int (Int16.ofInt n).toInt32) (hk : k lv (v :: st) G E kc ks = true) (g : xs_good p l e R s m args below meth c Qf nL Z k (pc + 3)) (S : xs_St Z nL lv G E H locs ls) : W p l e R s m args below meth c H locs kc ks Qf (F0 m pc ls (st.map (xs_cv Z))) := by
  subst hv
  exact lv_sipush X.1 X.2.1 hd rfl (g lv _ G E kc ks hk H locs ls S)
theorem xb_lconst (X : xs_Cx p s m args c cc nL o Z) {n : Fin 2} {v : Value} (hd : decode cc pc = .ok (.lconst n, 1)) (hv : v = .long (Int64.ofNat (n : Nat))) (hk : k lv (v :: st) G E kc ks = true) (g : xs_good p l e R s m args below meth c Qf nL Z k (pc + 1)) (S : xs_St Z nL lv G E H locs ls) : W p l e R s m args below meth c H locs kc ks Qf (F0 m pc ls (st.map (xs_cv Z))) := by
  subst hv
  exact lv_lconst X.1 X.2.1 hd rfl (g lv _ G E kc ks hk H locs ls S)
theorem xb_aconst_null (X : xs_Cx p s m args c cc nL o Z) {v : Value} (hd : decode cc pc = .ok (.aconst_null, 1)) (hv : v = .null) (hk : k lv (v :: st) G E kc ks = true) (g : xs_good p l e R s m args below meth c Qf nL Z k (pc + 1)) (S : xs_St Z nL lv G E H locs ls) : W p l e R s m args below meth c H locs kc ks Qf (F0 m pc ls (st.map (xs_cv Z))) := by
  subst hv
  exact lv_null X.1 X.2.1 hd (g lv _ G E kc ks hk H locs ls S)
theorem xb_iload (X : xs_Cx p s m args c cc nL o Z) {i : Nat} {w : Value} (hd : decode cc pc = .ok (.iload i, 2)) (hw : xm_get lv i = some w) (hI : xm_isI w = true) (hk : k lv (w :: st) G E kc ks = true) (g : xs_good p l e R s m args below meth c Qf nL Z k (pc + 2)) (S : xs_St Z nL lv G E H locs ls) : W p l e R s m args below meth c H locs kc ks Qf (F0 m pc ls (st.map (xs_cv Z))) := by
  obtain ⟨x, hx⟩ := xs_I (Z := Z) hI
  have h1 := xs_get S.2.2.1 hw
  rw [hx] at h1
  refine lv_iload X.1 X.2.1 hd h1 ?_
  have h2 := g lv _ G E kc ks hk H locs ls S
  rw [List.map_cons, hx] at h2
  exact h2
theorem xb_iload_n (X : xs_Cx p s m args c cc nL o Z) {i : Nat} {f : Fin 4} {w : Value} (hd : decode cc pc = .ok (.iload_n f, 1)) (hi : (f : Nat) = i) (hw : xm_get lv i = some w) (hI : xm_isI w = true) (hk : k lv (w :: st) G E kc ks = true) (g : xs_good p l e R s m args below meth c Qf nL Z k (pc + 1)) (S : xs_St Z nL lv G E H locs ls) : W p l e R s m args below meth c H locs kc ks Qf (F0 m pc ls (st.map (xs_cv Z))) := by
  obtain ⟨x, hx⟩ := xs_I (Z := Z) hI
  have h1 := xs_get S.2.2.1 hw
  rw [hx] at h1
  refine lv_iload_n X.1 X.2.1 hd hi h1 ?_
  have h2 := g lv _ G E kc ks hk H locs ls S
  rw [List.map_cons, hx] at h2
  exact h2
theorem xb_lload (X : xs_Cx p s m args c cc nL o Z) {i : Nat} {w : Value} (hd : decode cc pc = .ok (.lload i, 2)) (hw : xm_get lv i = some w) (hI : xm_isL w = true) (hk : k lv (w :: st) G E kc ks = true) (g : xs_good p l e R s m args below meth c Qf nL Z k (pc + 2)) (S : xs_St Z nL lv G E H locs ls) : W p l e R s m args below meth c H locs kc ks Qf (F0 m pc ls (st.map (xs_cv Z))) := by
  obtain ⟨x, hx⟩ := xs_L (Z := Z) hI
  have h1 := xs_get S.2.2.1 hw
  rw [hx] at h1
  refine lv_lload X.1 X.2.1 hd h1 ?_
  have h2 := g lv _ G E kc ks hk H locs ls S
  rw [List.map_cons, hx] at h2
  exact h2
theorem xb_lload_n (X : xs_Cx p s m args c cc nL o Z) {i : Nat} {f : Fin 4} {w : Value} (hd : decode cc pc = .ok (.lload_n f, 1)) (hi : (f : Nat) = i) (hw : xm_get lv i = some w) (hI : xm_isL w = true) (hk : k lv (w :: st) G E kc ks = true) (g : xs_good p l e R s m args below meth c Qf nL Z k (pc + 1)) (S : xs_St Z nL lv G E H locs ls) : W p l e R s m args below meth c H locs kc ks Qf (F0 m pc ls (st.map (xs_cv Z))) := by
  obtain ⟨x, hx⟩ := xs_L (Z := Z) hI
  have h1 := xs_get S.2.2.1 hw
  rw [hx] at h1
  refine lv_lload_n X.1 X.2.1 hd hi h1 ?_
  have h2 := g lv _ G E kc ks hk H locs ls S
  rw [List.map_cons, hx] at h2
  exact h2
theorem xb_aload (X : xs_Cx p s m args c cc nL o Z) {i : Nat} {w : Value} (hd : decode cc pc = .ok (.aload i, 2)) (hw : xm_get lv i = some w) (hI : xm_isA w = true) (hk : k lv (w :: st) G E kc ks = true) (g : xs_good p l e R s m args below meth c Qf nL Z k (pc + 2)) (S : xs_St Z nL lv G E H locs ls) : W p l e R s m args below meth c H locs kc ks Qf (F0 m pc ls (st.map (xs_cv Z))) := by
  have h1 := xs_get S.2.2.1 hw
  have h2 := g lv _ G E kc ks hk H locs ls S
  rw [List.map_cons] at h2
  rcases xs_A (Z := Z) hI with ⟨-, hx⟩ | ⟨j, -, hx⟩
  · rw [hx] at h1 h2
    exact lv_aloadN X.1 X.2.1 hd h1 h2
  · rw [hx] at h1 h2
    exact lv_aload X.1 X.2.1 hd h1 h2
theorem xb_aload_n (X : xs_Cx p s m args c cc nL o Z) {i : Nat} {f : Fin 4} {w : Value} (hd : decode cc pc = .ok (.aload_n f, 1)) (hi : (f : Nat) = i) (hw : xm_get lv i = some w) (hI : xm_isA w = true) (hk : k lv (w :: st) G E kc ks = true) (g : xs_good p l e R s m args below meth c Qf nL Z k (pc + 1)) (S : xs_St Z nL lv G E H locs ls) : W p l e R s m args below meth c H locs kc ks Qf (F0 m pc ls (st.map (xs_cv Z))) := by
  have h1 := xs_get S.2.2.1 hw
  have h2 := g lv _ G E kc ks hk H locs ls S
  rw [List.map_cons] at h2
  rcases xs_A (Z := Z) hI with ⟨-, hx⟩ | ⟨j, -, hx⟩
  · rw [hx] at h1 h2
    exact lv_aload_nN X.1 X.2.1 hd hi h1 h2
  · rw [hx] at h1 h2
    exact lv_aload_n X.1 X.2.1 hd hi h1 h2
theorem xb_istore (X : xs_Cx p s m args c cc nL o Z) {i : Nat} {w : Value} (hd : decode cc pc = .ok (.istore i, 2)) (hI : xm_isI w = true) (hn : i < nL) (hk : k (xm_set1 lv i w) st G E kc ks = true) (g : xs_good p l e R s m args below meth c Qf nL Z k (pc + 2)) (S : xs_St Z nL lv G E H locs ls) : W p l e R s m args below meth c H locs kc ks Qf (F0 m pc ls ((w :: st).map (xs_cv Z))) := by
  obtain ⟨x, hx⟩ := xs_I (Z := Z) hI
  rw [List.map_cons, hx]
  refine lv_istore X.1 X.2.1 hd S.2.2.1 hn rfl (fun ls' h' => g _ _ G E kc ks hk H locs ls' ⟨S.1, S.2.1, ?_, S.2.2.2⟩)
  rw [xs_set1, hx]
  exact h'
theorem xb_istore_n (X : xs_Cx p s m args c cc nL o Z) {i : Nat} {f : Fin 4} {w : Value} (hd : decode cc pc = .ok (.istore_n f, 1)) (hi : (f : Nat) = i) (hI : xm_isI w = true) (hn : i < nL) (hk : k (xm_set1 lv i w) st G E kc ks = true) (g : xs_good p l e R s m args below meth c Qf nL Z k (pc + 1)) (S : xs_St Z nL lv G E H locs ls) : W p l e R s m args below meth c H locs kc ks Qf (F0 m pc ls ((w :: st).map (xs_cv Z))) := by
  obtain ⟨x, hx⟩ := xs_I (Z := Z) hI
  rw [List.map_cons, hx]
  refine lv_istore_n X.1 X.2.1 hd hi S.2.2.1 hn rfl (fun ls' h' => g _ _ G E kc ks hk H locs ls' ⟨S.1, S.2.1, ?_, S.2.2.2⟩)
  rw [xs_set1, hx]
  exact h'
theorem xb_lstore (X : xs_Cx p s m args c cc nL o Z) {i : Nat} {w : Value} (hd : decode cc pc = .ok (.lstore i, 2)) (hI : xm_isL w = true) (hn : i + 1 < nL) (hk : k (xm_set2 lv i w) st G E kc ks = true) (g : xs_good p l e R s m args below meth c Qf nL Z k (pc + 2)) (S : xs_St Z nL lv G E H locs ls) : W p l e R s m args below meth c H locs kc ks Qf (F0 m pc ls ((w :: st).map (xs_cv Z))) := by
  obtain ⟨x, hx⟩ := xs_L (Z := Z) hI
  rw [List.map_cons, hx]
  refine lv_lstore X.1 X.2.1 hd S.2.2.1 hn rfl (fun ls' h' => g _ _ G E kc ks hk H locs ls' ⟨S.1, S.2.1, ?_, S.2.2.2⟩)
  rw [xs_set2, hx]
  exact h'
theorem xb_lstore_n (X : xs_Cx p s m args c cc nL o Z) {i : Nat} {f : Fin 4} {w : Value} (hd : decode cc pc = .ok (.lstore_n f, 1)) (hi : (f : Nat) = i) (hI : xm_isL w = true) (hn : i + 1 < nL) (hk : k (xm_set2 lv i w) st G E kc ks = true) (g : xs_good p l e R s m args below meth c Qf nL Z k (pc + 1)) (S : xs_St Z nL lv G E H locs ls) : W p l e R s m args below meth c H locs kc ks Qf (F0 m pc ls ((w :: st).map (xs_cv Z))) := by
  obtain ⟨x, hx⟩ := xs_L (Z := Z) hI
  rw [List.map_cons, hx]
  refine lv_lstore_n X.1 X.2.1 hd hi S.2.2.1 hn rfl (fun ls' h' => g _ _ G E kc ks hk H locs ls' ⟨S.1, S.2.1, ?_, S.2.2.2⟩)
  rw [xs_set2, hx]
  exact h'
theorem xb_astore (X : xs_Cx p s m args c cc nL o Z) {i : Nat} {w : Value} (hd : decode cc pc = .ok (.astore i, 2)) (hI : xm_isA w = true) (hn : i < nL) (hk : k (xm_set1 lv i w) st G E kc ks = true) (g : xs_good p l e R s m args below meth c Qf nL Z k (pc + 2)) (S : xs_St Z nL lv G E H locs ls) : W p l e R s m args below meth c H locs kc ks Qf (F0 m pc ls ((w :: st).map (xs_cv Z))) := by
  rw [List.map_cons]
  rcases xs_A (Z := Z) hI with ⟨-, hx⟩ | ⟨j, -, hx⟩
  · rw [hx]
    refine lv_astoreN X.1 X.2.1 hd S.2.2.1 hn rfl (fun ls' h' => g _ _ G E kc ks hk H locs ls' ⟨S.1, S.2.1, ?_, S.2.2.2⟩)
    rw [xs_set1, hx]
    exact h'
  · rw [hx]
    refine lv_astore X.1 X.2.1 hd S.2.2.1 hn rfl (fun ls' h' => g _ _ G E kc ks hk H locs ls' ⟨S.1, S.2.1, ?_, S.2.2.2⟩)
    rw [xs_set1, hx]
    exact h'
theorem xb_astore_n (X : xs_Cx p s m args c cc nL o Z) {i : Nat} {f : Fin 4} {w : Value} (hd : decode cc pc = .ok (.astore_n f, 1)) (hi : (f : Nat) = i) (hI : xm_isA w = true) (hn : i < nL) (hk : k (xm_set1 lv i w) st G E kc ks = true) (g : xs_good p l e R s m args below meth c Qf nL Z k (pc + 1)) (S : xs_St Z nL lv G E H locs ls) : W p l e R s m args below meth c H locs kc ks Qf (F0 m pc ls ((w :: st).map (xs_cv Z))) := by
  rw [List.map_cons]
  rcases xs_A (Z := Z) hI with ⟨-, hx⟩ | ⟨j, -, hx⟩
  · rw [hx]
    refine lv_astore_nN X.1 X.2.1 hd hi S.2.2.1 hn rfl (fun ls' h' => g _ _ G E kc ks hk H locs ls' ⟨S.1, S.2.1, ?_, S.2.2.2⟩)
    rw [xs_set1, hx]
    exact h'
  · rw [hx]
    refine lv_astore_n X.1 X.2.1 hd hi S.2.2.1 hn rfl (fun ls' h' => g _ _ G E kc ks hk H locs ls' ⟨S.1, S.2.1, ?_, S.2.2.2⟩)
    rw [xs_set1, hx]
    exact h'
theorem xb_iinc (X : xs_Cx p s m args c cc nL o Z) {i : Nat} {n : Int} {w : Value} (hd : decode cc pc = .ok (.iinc i n, 3)) (hw : xm_get lv i = some w) (hn : i < nL) (hk : xm_conc E w (fun E x => xm_frc (x + Int32.ofInt n) (fun z => k (xm_set1 lv i (.int z)) st G E kc ks)) = true) (g : xs_good p l e R s m args below meth c Qf nL Z k (pc + 3)) (S : xs_St Z nL lv G E H locs ls) : W p l e R s m args below meth c H locs kc ks Qf (F0 m pc ls (st.map (xs_cv Z))) := by
  obtain ⟨E1, x, h1, s1, hx⟩ := xs_conc hk S.1
  rw [xl_frc] at h1
  obtain ⟨q, hq⟩ := xs_getk (Z := Z) hw
  rw [hx] at hq
  refine lv_iinc X.1 X.2.1 hd S.2.2.1 hq rfl hn rfl (fun ls' h' => g _ _ G E1 kc ks h1 H locs ls' ⟨s1, S.2.1, ?_, S.2.2.2⟩)
  rw [xs_set1]
  exact h'
theorem xb_iadd (X : xs_Cx p s m args c cc nL o Z) (hd : decode cc pc = .ok (.iadd, 1)) (hk : xm_int2 .iadd st E (fun st E => k lv st G E kc ks) = true) (g : xs_good p l e R s m args below meth c Qf nL Z k (pc + 1)) (S : xs_St Z nL lv G E H locs ls) : W p l e R s m args below meth c H locs kc ks Qf (F0 m pc ls (st.map (xs_cv Z))) := by
  obtain ⟨w, u, st', E', x, y, z, rfl, hy, hx, hz, s1, h1⟩ := xs_int2 hk S.1
  rw [List.map_cons, List.map_cons, hy, hx]
  cases hz
  exact lv_iadd X.1 X.2.1 hd (g lv _ G E' kc ks h1 H locs ls ⟨s1, S.2⟩)
theorem xb_isub (X : xs_Cx p s m args c cc nL o Z) (hd : decode cc pc = .ok (.isub, 1)) (hk : xm_int2 .isub st E (fun st E => k lv st G E kc ks) = true) (g : xs_good p l e R s m args below meth c Qf nL Z k (pc + 1)) (S : xs_St Z nL lv G E H locs ls) : W p l e R s m args below meth c H locs kc ks Qf (F0 m pc ls (st.map (xs_cv Z))) := by
  obtain ⟨w, u, st', E', x, y, z, rfl, hy, hx, hz, s1, h1⟩ := xs_int2 hk S.1
  rw [List.map_cons, List.map_cons, hy, hx]
  cases hz
  exact lv_isub X.1 X.2.1 hd (g lv _ G E' kc ks h1 H locs ls ⟨s1, S.2⟩)
theorem xb_imul (X : xs_Cx p s m args c cc nL o Z) (hd : decode cc pc = .ok (.imul, 1)) (hk : xm_int2 .imul st E (fun st E => k lv st G E kc ks) = true) (g : xs_good p l e R s m args below meth c Qf nL Z k (pc + 1)) (S : xs_St Z nL lv G E H locs ls) : W p l e R s m args below meth c H locs kc ks Qf (F0 m pc ls (st.map (xs_cv Z))) := by
  obtain ⟨w, u, st', E', x, y, z, rfl, hy, hx, hz, s1, h1⟩ := xs_int2 hk S.1
  rw [List.map_cons, List.map_cons, hy, hx]
  cases hz
  exact lv_imul X.1 X.2.1 hd (g lv _ G E' kc ks h1 H locs ls ⟨s1, S.2⟩)
theorem xb_ior (X : xs_Cx p s m args c cc nL o Z) (hd : decode cc pc = .ok (.ior, 1)) (hk : xm_int2 .ior st E (fun st E => k lv st G E kc ks) = true) (g : xs_good p l e R s m args below meth c Qf nL Z k (pc + 1)) (S : xs_St Z nL lv G E H locs ls) : W p l e R s m args below meth c H locs kc ks Qf (F0 m pc ls (st.map (xs_cv Z))) := by
  obtain ⟨w, u, st', E', x, y, z, rfl, hy, hx, hz, s1, h1⟩ := xs_int2 hk S.1
  rw [List.map_cons, List.map_cons, hy, hx]
  cases hz
  exact lv_ior X.1 X.2.1 hd (g lv _ G E' kc ks h1 H locs ls ⟨s1, S.2⟩)
theorem xb_ixor (X : xs_Cx p s m args c cc nL o Z) (hd : decode cc pc = .ok (.ixor, 1)) (hk : xm_int2 .ixor st E (fun st E => k lv st G E kc ks) = true) (g : xs_good p l e R s m args below meth c Qf nL Z k (pc + 1)) (S : xs_St Z nL lv G E H locs ls) : W p l e R s m args below meth c H locs kc ks Qf (F0 m pc ls (st.map (xs_cv Z))) := by
  obtain ⟨w, u, st', E', x, y, z, rfl, hy, hx, hz, s1, h1⟩ := xs_int2 hk S.1
  rw [List.map_cons, List.map_cons, hy, hx]
  cases hz
  exact lv_ixor X.1 X.2.1 hd (g lv _ G E' kc ks h1 H locs ls ⟨s1, S.2⟩)
theorem xb_ishl (X : xs_Cx p s m args c cc nL o Z) (hd : decode cc pc = .ok (.ishl, 1)) (hk : xm_int2 .ishl st E (fun st E => k lv st G E kc ks) = true) (g : xs_good p l e R s m args below meth c Qf nL Z k (pc + 1)) (S : xs_St Z nL lv G E H locs ls) : W p l e R s m args below meth c H locs kc ks Qf (F0 m pc ls (st.map (xs_cv Z))) := by
  obtain ⟨w, u, st', E', x, y, z, rfl, hy, hx, hz, s1, h1⟩ := xs_int2 hk S.1
  rw [List.map_cons, List.map_cons, hy, hx]
  cases hz
  exact lv_ishl X.1 X.2.1 hd (g lv _ G E' kc ks h1 H locs ls ⟨s1, S.2⟩)
theorem xb_iushr (X : xs_Cx p s m args c cc nL o Z) (hd : decode cc pc = .ok (.iushr, 1)) (hk : xm_int2 .iushr st E (fun st E => k lv st G E kc ks) = true) (g : xs_good p l e R s m args below meth c Qf nL Z k (pc + 1)) (S : xs_St Z nL lv G E H locs ls) : W p l e R s m args below meth c H locs kc ks Qf (F0 m pc ls (st.map (xs_cv Z))) := by
  obtain ⟨w, u, st', E', x, y, z, rfl, hy, hx, hz, s1, h1⟩ := xs_int2 hk S.1
  rw [List.map_cons, List.map_cons, hy, hx]
  cases hz
  exact lv_iushr X.1 X.2.1 hd rfl (g lv _ G E' kc ks h1 H locs ls ⟨s1, S.2⟩)
theorem xb_idiv (X : xs_Cx p s m args c cc nL o Z) (hd : decode cc pc = .ok (.idiv, 1)) (hk : xm_int2 .idiv st E (fun st E => k lv st G E kc ks) = true) (g : xs_good p l e R s m args below meth c Qf nL Z k (pc + 1)) (S : xs_St Z nL lv G E H locs ls) : W p l e R s m args below meth c H locs kc ks Qf (F0 m pc ls (st.map (xs_cv Z))) := by
  obtain ⟨w, u, st', E', x, y, z, rfl, hy, hx, hz, s1, h1⟩ := xs_int2 hk S.1
  rw [List.map_cons, List.map_cons, hy, hx]
  simp only [xm_iop] at hz
  by_cases h0 : y = 0
  · rw [decide_eq_true h0] at hz
    cases hz
  · rw [decide_eq_false h0] at hz
    cases hz
    exact lv_idiv X.1 X.2.1 hd h0 (g lv _ G E' kc ks h1 H locs ls ⟨s1, S.2⟩)
theorem xb_irem (X : xs_Cx p s m args c cc nL o Z) (hd : decode cc pc = .ok (.irem, 1)) (hk : xm_int2 .irem st E (fun st E => k lv st G E kc ks) = true) (g : xs_good p l e R s m args below meth c Qf nL Z k (pc + 1)) (S : xs_St Z nL lv G E H locs ls) : W p l e R s m args below meth c H locs kc ks Qf (F0 m pc ls (st.map (xs_cv Z))) := by
  obtain ⟨w, u, st', E', x, y, z, rfl, hy, hx, hz, s1, h1⟩ := xs_int2 hk S.1
  rw [List.map_cons, List.map_cons, hy, hx]
  simp only [xm_iop] at hz
  by_cases h0 : y = 0
  · rw [decide_eq_true h0] at hz
    cases hz
  · rw [decide_eq_false h0] at hz
    cases hz
    exact lv_irem X.1 X.2.1 hd h0 (g lv _ G E' kc ks h1 H locs ls ⟨s1, S.2⟩)
theorem xb_iand (X : xs_Cx p s m args c cc nL o Z) (hd : decode cc pc = .ok (.iand, 1)) (hk : xm_iand st E (fun st E => k lv st G E kc ks) = true) (g : xs_good p l e R s m args below meth c Qf nL Z k (pc + 1)) (S : xs_St Z nL lv G E H locs ls) : W p l e R s m args below meth c H locs kc ks Qf (F0 m pc ls (st.map (xs_cv Z))) := by
  unfold xm_iand at hk
  split at hk
  · rename_i mm j st'
    by_cases h31 : mm = 31
    · rw [decide_eq_true h31] at hk
      subst h31
      have hk : xm_all 0 32 (fun c => k lv (.int (Int32.ofInt c) :: st') G E kc ks) = true := hk
      show W p l e R s m args below meth c H locs kc ks Qf (F0 m pc ls (.int 31 :: .int (xs_n Z j) :: st'.map (xs_cv Z)))
      refine lv_iand X.1 X.2.1 hd ?_
      have hm := pk_and (xs_n Z j) (m := 31) 5 (by decide)
      have hlt : (xs_n Z j).toBitVec.toNat % 2 ^ 5 < 32 := Nat.mod_lt _ (by decide)
      have h1 := xl_all hk (((xs_n Z j).toBitVec.toNat % 2 ^ 5 : Nat) : Int) (by omega) (by omega)
      have h2 := g lv _ G E kc ks h1 H locs ls S
      rw [List.map_cons] at h2
      have h3 : Int32.ofInt (((xs_n Z j).toBitVec.toNat % 2 ^ 5 : Nat) : Int) = xs_n Z j &&& 31 := by
        rw [hm]
        rfl
      rw [h3] at h2
      exact h2
    · rw [decide_eq_false h31] at hk
      cases hk
  · obtain ⟨w, u, st', E', x, y, z, rfl, hy, hx, hz, s1, h1⟩ := xs_int2 hk S.1
    rw [List.map_cons, List.map_cons, hy, hx]
    cases hz
    exact lv_iand X.1 X.2.1 hd (g lv _ G E' kc ks h1 H locs ls ⟨s1, S.2⟩)
theorem xb_ishr (X : xs_Cx p s m args c cc nL o Z) (hd : decode cc pc = .ok (.ishr, 1)) (hk : xm_ishr st E (fun st E => k lv st G E kc ks) = true) (g : xs_good p l e R s m args below meth c Qf nL Z k (pc + 1)) (S : xs_St Z nL lv G E H locs ls) : W p l e R s m args below meth c H locs kc ks Qf (F0 m pc ls (st.map (xs_cv Z))) := by
  unfold xm_ishr at hk
  split at hk
  · rename_i mm j st'
    cases hc : (decide (0 ≤ mm.toInt) && (decide (mm.toInt < 32) && Nat.blt j 1000)) with
    | false => rw [hc] at hk; cases hk
    | true =>
      rw [hc] at hk
      simp only [Bool.and_eq_true, decide_eq_true_eq] at hc
      obtain ⟨c1, c2, c3⟩ := hc
      have c3 : j < 1000 := Nat.le_of_ble_eq_true c3
      have hk : k lv (.float (UInt32.ofNat (64 * j + mm.toInt.toNat)) :: st') G E kc ks = true := hk
      show W p l e R s m args below meth c H locs kc ks Qf (F0 m pc ls (.int mm :: .int (xs_n Z j) :: st'.map (xs_cv Z)))
      refine lv_ishr X.1 X.2.1 hd ?_
      have h2 := g lv _ G E kc ks hk H locs ls S
      rw [List.map_cons] at h2
      have hn : (UInt32.ofNat (64 * j + mm.toInt.toNat)).toNat = 64 * j + mm.toInt.toNat := by
        rw [UInt32.toNat_ofNat']
        omega
      have h3 : xs_cv Z (.float (UInt32.ofNat (64 * j + mm.toInt.toNat))) = .int (xs_n Z j >>> (mm &&& 31)) := by
        show Value.int (xs_sh (xs_n Z) (UInt32.ofNat (64 * j + mm.toInt.toNat)).toNat) = _
        rw [hn]
        unfold xs_sh
        rw [if_neg (by omega), show (64 * j + mm.toInt.toNat) / 64 = j by omega, show (64 * j + mm.toInt.toNat) % 32 = mm.toInt.toNat by omega]
        congr 3
        apply Int32.toInt_inj.mp
        have := nI_toInt (n := mm.toInt.toNat) (by omega)
        unfold nI at this
        rw [this]
        omega
      rw [h3] at h2
      exact h2
  · obtain ⟨w, u, st', E', x, y, z, rfl, hy, hx, hz, s1, h1⟩ := xs_int2 hk S.1
    rw [List.map_cons, List.map_cons, hy, hx]
    cases hz
    exact lv_ishr X.1 X.2.1 hd (g lv _ G E' kc ks h1 H locs ls ⟨s1, S.2⟩)
theorem xb_ineg (X : xs_Cx p s m args c cc nL o Z) {w : Value} (hd : decode cc pc = .ok (.ineg, 1)) (hk : xm_conc E w (fun E x => xm_frc (-x) (fun z => k lv (.int z :: st) G E kc ks)) = true) (g : xs_good p l e R s m args below meth c Qf nL Z k (pc + 1)) (S : xs_St Z nL lv G E H locs ls) : W p l e R s m args below meth c H locs kc ks Qf (F0 m pc ls ((w :: st).map (xs_cv Z))) := by
  obtain ⟨E1, x, h1, s1, hx⟩ := xs_conc hk S.1
  rw [xl_frc] at h1
  rw [List.map_cons, hx]
  exact lv_ineg X.1 X.2.1 hd (g lv _ G E1 kc ks h1 H locs ls ⟨s1, S.2⟩)
theorem xb_i2b (X : xs_Cx p s m args c cc nL o Z) (hd : decode cc pc = .ok (.i2b, 1)) (hk : xm_i2b st E (fun st E => k lv st G E kc ks) = true) (g : xs_good p l e R s m args below meth c Qf nL Z k (pc + 1)) (S : xs_St Z nL lv G E H locs ls) : W p l e R s m args below meth c H locs kc ks Qf (F0 m pc ls (st.map (xs_cv Z))) := by
  unfold xm_i2b at hk
  split at hk
  · rename_i u st'
    cases hc : (Nat.beq (u.toNat / 32 % 2) 0 && Nat.blt u.toNat 100000) with
    | false => rw [hc] at hk; cases hk
    | true =>
      rw [hc] at hk
      simp only [Bool.and_eq_true] at hc
      obtain ⟨c1, c2⟩ := hc
      have c1 := Nat.eq_of_beq_eq_true c1
      have c2 : u.toNat < 100000 := Nat.le_of_ble_eq_true c2
      have hk : k lv (.float (UInt32.ofNat (u.toNat + 32)) :: st') G E kc ks = true := hk
      show W p l e R s m args below meth c H locs kc ks Qf (F0 m pc ls (.int (xs_sh (xs_n Z) u.toNat) :: st'.map (xs_cv Z)))
      refine lv_i2b X.1 X.2.1 hd rfl ?_
      have h2 := g lv _ G E kc ks hk H locs ls S
      rw [List.map_cons] at h2
      have hn : (UInt32.ofNat (u.toNat + 32)).toNat = u.toNat + 32 := by
        rw [UInt32.toNat_ofNat']
        omega
      have h3 : xs_cv Z (.float (UInt32.ofNat (u.toNat + 32))) = .int (xs_sh (xs_n Z) u.toNat).toInt8.toInt32 := by
        show Value.int (xs_sh (xs_n Z) (UInt32.ofNat (u.toNat + 32)).toNat) = _
        rw [hn]
        unfold xs_sh
        rw [if_pos (by omega), if_neg (by omega), show (u.toNat + 32) / 64 = u.toNat / 64 by omega, show (u.toNat + 32) % 32 = u.toNat % 32 by omega]
      rw [h3] at h2
      exact h2
  · rename_i w st' _
    obtain ⟨E1, x, h1, s1, hx⟩ := xs_conc hk S.1
    rw [List.map_cons, hx]
    exact lv_i2b X.1 X.2.1 hd rfl (g lv _ G E1 kc ks h1 H locs ls ⟨s1, S.2⟩)
  · cases hk
theorem xb_i2l (X : xs_Cx p s m args c cc nL o Z) (hd : decode cc pc = .ok (.i2l, 1)) (hk : xm_i2l st (fun st => k lv st G E kc ks) = true) (g : xs_good p l e R s m args below meth c Qf nL Z k (pc + 1)) (S : xs_St Z nL lv G E H locs ls) : W p l e R s m args below meth c H locs kc ks Qf (F0 m pc ls (st.map (xs_cv Z))) := by
  unfold xm_i2l at hk
  split at hk
  · exact lv_i2l X.1 X.2.1 hd rfl (g lv _ G E kc ks hk H locs ls S)
  · rename_i j st'
    cases hc : Nat.blt j 1000 with
    | false => rw [hc] at hk; cases hk
    | true =>
      rw [hc] at hk
      have c2 : j < 1000 := Nat.le_of_ble_eq_true hc
      have hk : k lv (.double (UInt64.ofNat j) :: st') G E kc ks = true := hk
      have h2 := g lv _ G E kc ks hk H locs ls S
      rw [List.map_cons] at h2
      have hn : (UInt64.ofNat j).toNat = j := by
        rw [UInt64.toNat_ofNat']
        omega
      have h3 : xs_cv Z (.double (UInt64.ofNat j)) = .long (xs_n Z j).toInt64 := by
        show Value.long (xs_n Z (UInt64.ofNat j).toNat).toInt64 = _
        rw [hn]
      rw [h3] at h2
      exact lv_i2l X.1 X.2.1 hd rfl h2
  · cases hk
theorem xb_l2i (X : xs_Cx p s m args c cc nL o Z) {x : Int64} (hd : decode cc pc = .ok (.l2i, 1)) (hk : xm_frc x.toInt32 (fun z => k lv (.int z :: st) G E kc ks) = true) (g : xs_good p l e R s m args below meth c Qf nL Z k (pc + 1)) (S : xs_St Z nL lv G E H locs ls) : W p l e R s m args below meth c H locs kc ks Qf (F0 m pc ls ((.long x :: st).map (xs_cv Z))) := by
  rw [xl_frc] at hk
  exact lv_l2i X.1 X.2.1 hd rfl (g lv _ G E kc ks hk H locs ls S)
theorem xb_ladd (X : xs_Cx p s m args c cc nL o Z) (hd : decode cc pc = .ok (.ladd, 1)) (hk : xm_long2 .ladd st (fun st => k lv st G E kc ks) = true) (g : xs_good p l e R s m args below meth c Qf nL Z k (pc + 1)) (S : xs_St Z nL lv G E H locs ls) : W p l e R s m args below meth c H locs kc ks Qf (F0 m pc ls (st.map (xs_cv Z))) := by
  obtain ⟨st', x, y, z, rfl, hz, h1⟩ := xs_long2 hk
  cases hz
  exact lv_ladd X.1 X.2.1 hd (g lv _ G E kc ks h1 H locs ls S)
theorem xb_lsub (X : xs_Cx p s m args c cc nL o Z) (hd : decode cc pc = .ok (.lsub, 1)) (hk : xm_long2 .lsub st (fun st => k lv st G E kc ks) = true) (g : xs_good p l e R s m args below meth c Qf nL Z k (pc + 1)) (S : xs_St Z nL lv G E H locs ls) : W p l e R s m args below meth c H locs kc ks Qf (F0 m pc ls (st.map (xs_cv Z))) := by
  obtain ⟨st', x, y, z, rfl, hz, h1⟩ := xs_long2 hk
  cases hz
  exact lv_lsub X.1 X.2.1 hd (g lv _ G E kc ks h1 H locs ls S)
theorem xb_lmul (X : xs_Cx p s m args c cc nL o Z) (hd : decode cc pc = .ok (.lmul, 1)) (hk : xm_long2 .lmul st (fun st => k lv st G E kc ks) = true) (g : xs_good p l e R s m args below meth c Qf nL Z k (pc + 1)) (S : xs_St Z nL lv G E H locs ls) : W p l e R s m args below meth c H locs kc ks Qf (F0 m pc ls (st.map (xs_cv Z))) := by
  obtain ⟨st', x, y, z, rfl, hz, h1⟩ := xs_long2 hk
  cases hz
  exact lv_lmul X.1 X.2.1 hd (g lv _ G E kc ks h1 H locs ls S)
theorem xb_land (X : xs_Cx p s m args c cc nL o Z) (hd : decode cc pc = .ok (.land, 1)) (hk : xm_long2 .land st (fun st => k lv st G E kc ks) = true) (g : xs_good p l e R s m args below meth c Qf nL Z k (pc + 1)) (S : xs_St Z nL lv G E H locs ls) : W p l e R s m args below meth c H locs kc ks Qf (F0 m pc ls (st.map (xs_cv Z))) := by
  obtain ⟨st', x, y, z, rfl, hz, h1⟩ := xs_long2 hk
  cases hz
  exact lv_land X.1 X.2.1 hd (g lv _ G E kc ks h1 H locs ls S)
theorem xb_lor (X : xs_Cx p s m args c cc nL o Z) (hd : decode cc pc = .ok (.lor, 1)) (hk : xm_long2 .lor st (fun st => k lv st G E kc ks) = true) (g : xs_good p l e R s m args below meth c Qf nL Z k (pc + 1)) (S : xs_St Z nL lv G E H locs ls) : W p l e R s m args below meth c H locs kc ks Qf (F0 m pc ls (st.map (xs_cv Z))) := by
  obtain ⟨st', x, y, z, rfl, hz, h1⟩ := xs_long2 hk
  cases hz
  exact lv_lor X.1 X.2.1 hd (g lv _ G E kc ks h1 H locs ls S)
theorem xb_ldiv (X : xs_Cx p s m args c cc nL o Z) (hd : decode cc pc = .ok (.ldiv, 1)) (hk : xm_long2 .ldiv st (fun st => k lv st G E kc ks) = true) (g : xs_good p l e R s m args below meth c Qf nL Z k (pc + 1)) (S : xs_St Z nL lv G E H locs ls) : W p l e R s m args below meth c H locs kc ks Qf (F0 m pc ls (st.map (xs_cv Z))) := by
  obtain ⟨st', x, y, z, rfl, hz, h1⟩ := xs_long2 hk
  simp only [xm_lop] at hz
  by_cases h0 : y = 0
  · rw [decide_eq_true h0] at hz
    cases hz
  · rw [decide_eq_false h0] at hz
    cases hz
    exact lv_ldiv X.1 X.2.1 hd h0 (g lv _ G E kc ks h1 H locs ls S)
theorem xb_lrem (X : xs_Cx p s m args c cc nL o Z) (hd : decode cc pc = .ok (.lrem, 1)) (hk : xm_long2 .lrem st (fun st => k lv st G E kc ks) = true) (g : xs_good p l e R s m args below meth c Qf nL Z k (pc + 1)) (S : xs_St Z nL lv G E H locs ls) : W p l e R s m args below meth c H locs kc ks Qf (F0 m pc ls (st.map (xs_cv Z))) := by
  obtain ⟨st', x, y, z, rfl, hz, h1⟩ := xs_long2 hk
  simp only [xm_lop] at hz
  by_cases h0 : y = 0
  · rw [decide_eq_true h0] at hz
    cases hz
  · rw [decide_eq_false h0] at hz
    cases hz
    exact lv_lrem X.1 X.2.1 hd h0 (g lv _ G E kc ks h1 H locs ls S)
theorem xb_lshl (X : xs_Cx p s m args c cc nL o Z) {x : Int64} {y : Int32} (hd : decode cc pc = .ok (.lshl, 1)) (hk : k lv (.long (x <<< (y.toInt64 &&& 63)) :: st) G E kc ks = true) (g : xs_good p l e R s m args below meth c Qf nL Z k (pc + 1)) (S : xs_St Z nL lv G E H locs ls) : W p l e R s m args below meth c H locs kc ks Qf (F0 m pc ls ((.int y :: .long x :: st).map (xs_cv Z))) := by
  exact lv_lshl X.1 X.2.1 hd rfl (g lv _ G E kc ks hk H locs ls S)
theorem xb_lshr (X : xs_Cx p s m args c cc nL o Z) {x : Int64} {y : Int32} (hd : decode cc pc = .ok (.lshr, 1)) (hk : k lv (.long (x >>> (y.toInt64 &&& 63)) :: st) G E kc ks = true) (g : xs_good p l e R s m args below meth c Qf nL Z k (pc + 1)) (S : xs_St Z nL lv G E H locs ls) : W p l e R s m args below meth c H locs kc ks Qf (F0 m pc ls ((.int y :: .long x :: st).map (xs_cv Z))) := by
  exact lv_lshr X.1 X.2.1 hd rfl (g lv _ G E kc ks hk H locs ls S)
theorem xb_lcmp (X : xs_Cx p s m args c cc nL o Z) {w u : Value} (hd : decode cc pc = .ok (.lcmp, 1)) (hk : xm_cmpL E u w (fun E s => k lv (.int (Int32.ofInt s) :: st) G E kc ks) = true) (g : xs_good p l e R s m args below meth c Qf nL Z k (pc + 1)) (S : xs_St Z nL lv G E H locs ls) : W p l e R s m args below meth c H locs kc ks Qf (F0 m pc ls ((w :: u :: st).map (xs_cv Z))) := by
  obtain ⟨E1, x, y, h1, s1, hx, hy⟩ := xs_cmpL hk S.1
  rw [List.map_cons, List.map_cons, hx, hy]
  refine W.lcmp X.1 X.2.1 hd ?_
  have h2 := g lv _ G E1 kc ks h1 H locs ls ⟨s1, S.2⟩
  rw [List.map_cons] at h2
  have h3 : Int32.ofInt (xm_sgn x.toInt y.toInt) = lg_cmp x y := by
    unfold xm_sgn lg_cmp
    by_cases a : x.toInt < y.toInt
    · rw [decide_eq_true a, if_neg (fun q => by have := Int64.lt_iff_toInt_lt.mp q; omega), if_neg (fun q => by rw [q] at a; omega)]
      rfl
    · rw [decide_eq_false a]
      by_cases b : x.toInt = y.toInt
      · rw [decide_eq_true b, if_neg (fun q => by have := Int64.lt_iff_toInt_lt.mp q; omega), if_pos (Int64.toInt_inj.mp b)]
        rfl
      · rw [decide_eq_false b, if_pos (Int64.lt_iff_toInt_lt.mpr (by omega))]
        rfl
  have h4 : xs_cv Z (.int (Int32.ofInt (xm_sgn x.toInt y.toInt))) = .int (lg_cmp x y) := congrArg Value.int h3
  rw [h4] at h2
  exact h2
theorem xb_dup (X : xs_Cx p s m args c cc nL o Z) {w : Value} (hd : decode cc pc = .ok (.dup, 1)) (hc : xm_cat1 w = true) (hk : k lv (w :: w :: st) G E kc ks = true) (g : xs_good p l e R s m args below meth c Qf nL Z k (pc + 1)) (S : xs_St Z nL lv G E H locs ls) : W p l e R s m args below meth c H locs kc ks Qf (F0 m pc ls ((w :: st).map (xs_cv Z))) := by
  exact lv_dup X.1 X.2.1 hd (xs_cat1 hc) (g lv _ G E kc ks hk H locs ls S)
theorem xb_pop (X : xs_Cx p s m args c cc nL o Z) {w : Value} (hd : decode cc pc = .ok (.pop, 1)) (hc : xm_cat1 w = true) (hk : k lv st G E kc ks = true) (g : xs_good p l e R s m args below meth c Qf nL Z k (pc + 1)) (S : xs_St Z nL lv G E H locs ls) : W p l e R s m args below meth c H locs kc ks Qf (F0 m pc ls ((w :: st).map (xs_cv Z))) := by
  exact lv_pop X.1 X.2.1 hd (xs_cat1 hc) (g lv _ G E kc ks hk H locs ls S)
theorem xb_dup2 (X : xs_Cx p s m args c cc nL o Z) {w u : Value} (hd : decode cc pc = .ok (.dup2, 1)) (hc : xm_cat1 w = true) (hc2 : xm_cat1 u = true) (hk : k lv (w :: u :: w :: u :: st) G E kc ks = true) (g : xs_good p l e R s m args below meth c Qf nL Z k (pc + 1)) (S : xs_St Z nL lv G E H locs ls) : W p l e R s m args below meth c H locs kc ks Qf (F0 m pc ls ((w :: u :: st).map (xs_cv Z))) := by
  exact lv_dup2_11 X.1 X.2.1 hd (xs_cat1 hc) (xs_cat1 hc2) (g lv _ G E kc ks hk H locs ls S)
variable {kt kf : xm_K} {tgt : Nat}
theorem xb_ifCond_eq (X : xs_Cx p s m args c cc nL o Z) {w : Value} {off : Int} (hd : decode cc pc = .ok (.ifCond .eq off, 3)) (ht : (pc : Int) + off = (tgt : Int)) (hk : xm_cmpI E w (.int 0) (fun E s => bif xm_holds .eq s then kt lv st G E kc ks else kf lv st G E kc ks) = true) (gt : xs_good p l e R s m args below meth c Qf nL Z kt tgt) (gf : xs_good p l e R s m args below meth c Qf nL Z kf (pc + 3)) (S : xs_St Z nL lv G E H locs ls) : W p l e R s m args below meth c H locs kc ks Qf (F0 m pc ls ((w :: st).map (xs_cv Z))) := by
  obtain ⟨E1, x, y, h1, s1, hx, hy⟩ := xs_cmpI hk S.1
  rw [List.map_cons, hx]
  cases hy
  have hh := (xs_holds x 0).1
  refine lv_if_eq X.1 X.2.1 hd ht (fun h => ?_) (fun h => ?_)
  · rw [hh.mpr h] at h1
    exact gt lv st G E1 kc ks h1 H locs ls ⟨s1, S.2⟩
  · have hf : xm_holds .eq (xm_sgn x.toInt (0 : Int32).toInt) = false := Bool.eq_false_iff.mpr (fun q => h (hh.mp q))
    rw [hf] at h1
    exact gf lv st G E1 kc ks h1 H locs ls ⟨s1, S.2⟩
theorem xb_if_icmp_eq (X : xs_Cx p s m args c cc nL o Z) {w u : Value} {off : Int} (hd : decode cc pc = .ok (.if_icmp .eq off, 3)) (ht : (pc : Int) + off = (tgt : Int)) (hk : xm_cmpI E u w (fun E s => bif xm_holds .eq s then kt lv st G E kc ks else kf lv st G E kc ks) = true) (gt : xs_good p l e R s m args below meth c Qf nL Z kt tgt) (gf : xs_good p l e R s m args below meth c Qf nL Z kf (pc + 3)) (S : xs_St Z nL lv G E H locs ls) : W p l e R s m args below meth c H locs kc ks Qf (F0 m pc ls ((w :: u :: st).map (xs_cv Z))) := by
  obtain ⟨E1, x, y, h1, s1, hx, hy⟩ := xs_cmpI hk S.1
  rw [List.map_cons, List.map_cons, hx, hy]
  have hh := (xs_holds x y).1
  refine lv_icmp_eq X.1 X.2.1 hd ht (fun h => ?_) (fun h => ?_)
  · rw [hh.mpr h] at h1
    exact gt lv st G E1 kc ks h1 H locs ls ⟨s1, S.2⟩
  · have hf : xm_holds .eq (xm_sgn x.toInt (y : Int32).toInt) = false := Bool.eq_false_iff.mpr (fun q => h (hh.mp q))
    rw [hf] at h1
    exact gf lv st G E1 kc ks h1 H locs ls ⟨s1, S.2⟩
theorem xb_ifCond_ne (X : xs_Cx p s m args c cc nL o Z) {w : Value} {off : Int} (hd : decode cc pc = .ok (.ifCond .ne off, 3)) (ht : (pc : Int) + off = (tgt : Int)) (hk : xm_cmpI E w (.int 0) (fun E s => bif xm_holds .ne s then kt lv st G E kc ks else kf lv st G E kc ks) = true) (gt : xs_good p l e R s m args below meth c Qf nL Z kt tgt) (gf : xs_good p l e R s m args below meth c Qf nL Z kf (pc + 3)) (S : xs_St Z nL lv G E H locs ls) : W p l e R s m args below meth c H locs kc ks Qf (F0 m pc ls ((w :: st).map (xs_cv Z))) := by
  obtain ⟨E1, x, y, h1, s1, hx, hy⟩ := xs_cmpI hk S.1
  rw [List.map_cons, hx]
  cases hy
  have hh := (xs_holds x 0).2.1
  refine lv_if_ne X.1 X.2.1 hd ht (fun h => ?_) (fun h => ?_)
  · rw [hh.mpr h] at h1
    exact gt lv st G E1 kc ks h1 H locs ls ⟨s1, S.2⟩
  · have hf : xm_holds .ne (xm_sgn x.toInt (0 : Int32).toInt) = false := Bool.eq_false_iff.mpr (fun q => (hh.mp q) h)
    rw [hf] at h1
    exact gf lv st G E1 kc ks h1 H locs ls ⟨s1, S.2⟩
theorem xb_if_icmp_ne (X : xs_Cx p s m args c cc nL o Z) {w u : Value} {off : Int} (hd : decode cc pc = .ok (.if_icmp .ne off, 3)) (ht : (pc : Int) + off = (tgt : Int)) (hk : xm_cmpI E u w (fun E s => bif xm_holds .ne s then kt lv st G E kc ks else kf lv st G E kc ks) = true) (gt : xs_good p l e R s m args below meth c Qf nL Z kt tgt) (gf : xs_good p l e R s m args below meth c Qf nL Z kf (pc + 3)) (S : xs_St Z nL lv G E H locs ls) : W p l e R s m args below meth c H locs kc ks Qf (F0 m pc ls ((w :: u :: st).map (xs_cv Z))) := by
  obtain ⟨E1, x, y, h1, s1, hx, hy⟩ := xs_cmpI hk S.1
  rw [List.map_cons, List.map_cons, hx, hy]
  have hh := (xs_holds x y).2.1
  refine lv_icmp_ne X.1 X.2.1 hd ht (fun h => ?_) (fun h => ?_)
  · rw [hh.mpr h] at h1
    exact gt lv st G E1 kc ks h1 H locs ls ⟨s1, S.2⟩
  · have hf : xm_holds .ne (xm_sgn x.toInt (y : Int32).toInt) = false := Bool.eq_false_iff.mpr (fun q => (hh.mp q) h)
    rw [hf] at h1
    exact gf lv st G E1 kc ks h1 H locs ls ⟨s1, S.2⟩
theorem xb_ifCond_lt (X : xs_Cx p s m args c cc nL o Z) {w : Value} {off : Int} (hd : decode cc pc = .ok (.ifCond .lt off, 3)) (ht : (pc : Int) + off = (tgt : Int)) (hk : xm_cmpI E w (.int 0) (fun E s => bif xm_holds .lt s then kt lv st G E kc ks else kf lv st G E kc ks) = true) (gt : xs_good p l e R s m args below meth c Qf nL Z kt tgt) (gf : xs_good p l e R s m args below meth c Qf nL Z kf (pc + 3)) (S : xs_St Z nL lv G E H locs ls) : W p l e R s m args below meth c H locs kc ks Qf (F0 m pc ls ((w :: st).map (xs_cv Z))) := by
  obtain ⟨E1, x, y, h1, s1, hx, hy⟩ := xs_cmpI hk S.1
  rw [List.map_cons, hx]
  cases hy
  have hh := (xs_holds x 0).2.2.1
  refine lv_if_lt X.1 X.2.1 hd ht (fun h => ?_) (fun h => ?_)
  · rw [hh.mpr h] at h1
    exact gt lv st G E1 kc ks h1 H locs ls ⟨s1, S.2⟩
  · have hf : xm_holds .lt (xm_sgn x.toInt (0 : Int32).toInt) = false := Bool.eq_false_iff.mpr (fun q => h (hh.mp q))
    rw [hf] at h1
    exact gf lv st G E1 kc ks h1 H locs ls ⟨s1, S.2⟩
theorem xb_if_icmp_lt (X : xs_Cx p s m args c cc nL o Z) {w u : Value} {off : Int} (hd : decode cc pc = .ok (.if_icmp .lt off, 3)) (ht : (pc : Int) + off = (tgt : Int)) (hk : xm_cmpI E u w (fun E s => bif xm_holds .lt s then kt lv st G E kc ks else kf lv st G E kc ks) = true) (gt : xs_good p l e R s m args below meth c Qf nL Z kt tgt) (gf : xs_good p l e R s m args below meth c Qf nL Z kf (pc + 3)) (S : xs_St Z nL lv G E H locs ls) : W p l e R s m args below meth c H locs kc ks Qf (F0 m pc ls ((w :: u :: st).map (xs_cv Z))) := by
  obtain ⟨E1, x, y, h1, s1, hx, hy⟩ := xs_cmpI hk S.1
  rw [List.map_cons, List.map_cons, hx, hy]
  have hh := (xs_holds x y).2.2.1
  refine lv_icmp_lt X.1 X.2.1 hd ht (fun h => ?_) (fun h => ?_)
  · rw [hh.mpr h] at h1
    exact gt lv st G E1 kc ks h1 H locs ls ⟨s1, S.2⟩
  · have hf : xm_holds .lt (xm_sgn x.toInt (y : Int32).toInt) = false := Bool.eq_false_iff.mpr (fun q => h (hh.mp q))
    rw [hf] at h1
    exact gf lv st G E1 kc ks h1 H locs ls ⟨s1, S.2⟩
theorem xb_ifCond_ge (X : xs_Cx p s m args c cc nL o Z) {w : Value} {off : Int} (hd : decode cc pc = .ok (.ifCond .ge off, 3)) (ht : (pc : Int) + off = (tgt : Int)) (hk : xm_cmpI E w (.int 0) (fun E s => bif xm_holds .ge s then kt lv st G E kc ks else kf lv st G E kc ks) = true) (gt : xs_good p l e R s m args below meth c Qf nL Z kt tgt) (gf : xs_good p l e R s m args below meth c Qf nL Z kf (pc + 3)) (S : xs_St Z nL lv G E H locs ls) : W p l e R s m args below meth c H locs kc ks Qf (F0 m pc ls ((w :: st).map (xs_cv Z))) := by
  obtain ⟨E1, x, y, h1, s1, hx, hy⟩ := xs_cmpI hk S.1
  rw [List.map_cons, hx]
  cases hy
  have hh := (xs_holds x 0).2.2.2.1
  refine lv_if_ge X.1 X.2.1 hd ht (fun h => ?_) (fun h => ?_)
  · rw [hh.mpr h] at h1
    exact gt lv st G E1 kc ks h1 H locs ls ⟨s1, S.2⟩
  · have hf : xm_holds .ge (xm_sgn x.toInt (0 : Int32).toInt) = false := Bool.eq_false_iff.mpr (fun q => h (hh.mp q))
    rw [hf] at h1
    exact gf lv st G E1 kc ks h1 H locs ls ⟨s1, S.2⟩
theorem xb_if_icmp_ge (X : xs_Cx p s m args c cc nL o Z) {w u : Value} {off : Int} (hd : decode cc pc = .ok (.if_icmp .ge off, 3)) (ht : (pc : Int) + off = (tgt : Int)) (hk : xm_cmpI E u w (fun E s => bif xm_holds .ge s then kt lv st G E kc ks else kf lv st G E kc ks) = true) (gt : xs_good p l e R s m args below meth c Qf nL Z kt tgt) (gf : xs_good p l e R s m args below meth c Qf nL Z kf (pc + 3)) (S : xs_St Z nL lv G E H locs ls) : W p l e R s m args below meth c H locs kc ks Qf (F0 m pc ls ((w :: u :: st).map (xs_cv Z))) := by
  obtain ⟨E1, x, y, h1, s1, hx, hy⟩ := xs_cmpI hk S.1
  rw [List.map_cons, List.map_cons, hx, hy]
  have hh := (xs_holds x y).2.2.2.1
  refine lv_icmp_ge X.1 X.2.1 hd ht (fun h => ?_) (fun h => ?_)
  · rw [hh.mpr h] at h1
    exact gt lv st G E1 kc ks h1 H locs ls ⟨s1, S.2⟩
  · have hf : xm_holds .ge (xm_sgn x.toInt (y : Int32).toInt) = false := Bool.eq_false_iff.mpr (fun q => h (hh.mp q))
    rw [hf] at h1
    exact gf lv st G E1 kc ks h1 H locs ls ⟨s1, S.2⟩
theorem xb_ifCond_gt (X : xs_Cx p s m args c cc nL o Z) {w : Value} {off : Int} (hd : decode cc pc = .ok (.ifCond .gt off, 3)) (ht : (pc : Int) + off = (tgt : Int)) (hk : xm_cmpI E w (.int 0) (fun E s => bif xm_holds .gt s then kt lv st G E kc ks else kf lv st G E kc ks) = true) (gt : xs_good p l e R s m args below meth c Qf nL Z kt tgt) (gf : xs_good p l e R s m args below meth c Qf nL Z kf (pc + 3)) (S : xs_St Z nL lv G E H locs ls) : W p l e R s m args below meth c H locs kc ks Qf (F0 m pc ls ((w :: st).map (xs_cv Z))) := by
  obtain ⟨E1, x, y, h1, s1, hx, hy⟩ := xs_cmpI hk S.1
  rw [List.map_cons, hx]
  cases hy
  have hh := (xs_holds x 0).2.2.2.2.1
  refine lv_if_gt X.1 X.2.1 hd ht (fun h => ?_) (fun h => ?_)
  · rw [hh.mpr h] at h1
    exact gt lv st G E1 kc ks h1 H locs ls ⟨s1, S.2⟩
  · have hf : xm_holds .gt (xm_sgn x.toInt (0 : Int32).toInt) = false := Bool.eq_false_iff.mpr (fun q => h (hh.mp q))
    rw [hf] at h1
    exact gf lv st G E1 kc ks h1 H locs ls ⟨s1, S.2⟩
theorem xb_if_icmp_gt (X : xs_Cx p s m args c cc nL o Z) {w u : Value} {off : Int} (hd : decode cc pc = .ok (.if_icmp .gt off, 3)) (ht : (pc : Int) + off = (tgt : Int)) (hk : xm_cmpI E u w (fun E s => bif xm_holds .gt s then kt lv st G E kc ks else kf lv st G E kc ks) = true) (gt : xs_good p l e R s m args below meth c Qf nL Z kt tgt) (gf : xs_good p l e R s m args below meth c Qf nL Z kf (pc + 3)) (S : xs_St Z nL lv G E H locs ls) : W p l e R s m args below meth c H locs kc ks Qf (F0 m pc ls ((w :: u :: st).map (xs_cv Z))) := by
  obtain ⟨E1, x, y, h1, s1, hx, hy⟩ := xs_cmpI hk S.1
  rw [List.map_cons, List.map_cons, hx, hy]
  have hh := (xs_holds x y).2.2.2.2.1
  refine lv_icmp_gt X.1 X.2.1 hd ht (fun h => ?_) (fun h => ?_)
  · rw [hh.mpr h] at h1
    exact gt lv st G E1 kc ks h1 H locs ls ⟨s1, S.2⟩
  · have hf : xm_holds .gt (xm_sgn x.toInt (y : Int32).toInt) = false := Bool.eq_false_iff.mpr (fun q => h (hh.mp q))
    rw [hf] at h1
    exact gf lv st G E1 kc ks h1 H locs ls ⟨s1, S.2⟩
theorem xb_ifCond_le (X : xs_Cx p s m args c cc nL o Z) {w : Value} {off : Int} (hd : decode cc pc = .ok (.ifCond .le off, 3)) (ht : (pc : Int) + off = (tgt : Int)) (hk : xm_cmpI E w (.int 0) (fun E s => bif xm_holds .le s then kt lv st G E kc ks else kf lv st G E kc ks) = true) (gt : xs_good p l e R s m args below meth c Qf nL Z kt tgt) (gf : xs_good p l e R s m args below meth c Qf nL Z kf (pc + 3)) (S : xs_St Z nL lv G E H locs ls) : W p l e R s m args below meth c H locs kc ks Qf (F0 m pc ls ((w :: st).map (xs_cv Z))) := by
  obtain ⟨E1, x, y, h1, s1, hx, hy⟩ := xs_cmpI hk S.1
  rw [List.map_cons, hx]
  cases hy
  have hh := (xs_holds x 0).2.2.2.2.2
  refine lv_if_le X.1 X.2.1 hd ht (fun h => ?_) (fun h => ?_)
  · rw [hh.mpr h] at h1
    exact gt lv st G E1 kc ks h1 H locs ls ⟨s1, S.2⟩
  · have hf : xm_holds .le (xm_sgn x.toInt (0 : Int32).toInt) = false := Bool.eq_false_iff.mpr (fun q => h (hh.mp q))
    rw [hf] at h1
    exact gf lv st G E1 kc ks h1 H locs ls ⟨s1, S.2⟩
theorem xb_if_icmp_le (X : xs_Cx p s m args c cc nL o Z) {w u : Value} {off : Int} (hd : decode cc pc = .ok (.if_icmp .le off, 3)) (ht : (pc : Int) + off = (tgt : Int)) (hk : xm_cmpI E u w (fun E s => bif xm_holds .le s then kt lv st G E kc ks else kf lv st G E kc ks) = true) (gt : xs_good p l e R s m args below meth c Qf nL Z kt tgt) (gf : xs_good p l e R s m args below meth c Qf nL Z kf (pc + 3)) (S : xs_St Z nL lv G E H locs ls) : W p l e R s m args below meth c H locs kc ks Qf (F0 m pc ls ((w :: u :: st).map (xs_cv Z))) := by
  obtain ⟨E1, x, y, h1, s1, hx, hy⟩ := xs_cmpI hk S.1
  rw [List.map_cons, List.map_cons, hx, hy]
  have hh := (xs_holds x y).2.2.2.2.2
  refine lv_icmp_le X.1 X.2.1 hd ht (fun h => ?_) (fun h => ?_)
  · rw [hh.mpr h] at h1
    exact gt lv st G E1 kc ks h1 H locs ls ⟨s1, S.2⟩
  · have hf : xm_holds .le (xm_sgn x.toInt (y : Int32).toInt) = false := Bool.eq_false_iff.mpr (fun q => h (hh.mp q))
    rw [hf] at h1
    exact gf lv st G E1 kc ks h1 H locs ls ⟨s1, S.2⟩
theorem xb_goto (X : xs_Cx p s m args c cc nL o Z) {off : Int} (hd : decode cc pc = .ok (.goto off, 3)) (ht : (pc : Int) + off = (tgt : Int)) (hk : kt lv st G E kc ks = true) (gt : xs_good p l e R s m args below meth c Qf nL Z kt tgt) (S : xs_St Z nL lv G E H locs ls) : W p l e R s m args below meth c H locs kc ks Qf (F0 m pc ls (st.map (xs_cv Z))) :=
  lv_goto X.1 X.2.1 hd ht (gt lv st G E kc ks hk H locs ls S)
theorem xb_ifnull_r (X : xs_Cx p s m args c cc nL o Z) {j : Nat} {off : Int} (hd : decode cc pc = .ok (.ifnull off, 3)) (ht : (pc : Int) + off = (tgt : Int)) (hk : kf lv st G E kc ks = true) (gt : xs_good p l e R s m args below meth c Qf nL Z kt tgt) (gf : xs_good p l e R s m args below meth c Qf nL Z kf (pc + 3)) (S : xs_St Z nL lv G E H locs ls) : W p l e R s m args below meth c H locs kc ks Qf (F0 m pc ls ((.ref j :: st).map (xs_cv Z))) :=
  lv_ifnull X.1 X.2.1 hd (gf lv st G E kc ks hk H locs ls S)
theorem xb_ifnull_n (X : xs_Cx p s m args c cc nL o Z) {off : Int} (hd : decode cc pc = .ok (.ifnull off, 3)) (ht : (pc : Int) + off = (tgt : Int)) (hk : kt lv st G E kc ks = true) (gt : xs_good p l e R s m args below meth c Qf nL Z kt tgt) (gf : xs_good p l e R s m args below meth c Qf nL Z kf (pc + 3)) (S : xs_St Z nL lv G E H locs ls) : W p l e R s m args below meth c H locs kc ks Qf (F0 m pc ls ((.null :: st).map (xs_cv Z))) :=
  lv_ifnullN X.1 X.2.1 hd ht (gt lv st G E kc ks hk H locs ls S)
theorem xb_ifnonnull_r (X : xs_Cx p s m args c cc nL o Z) {j : Nat} {off : Int} (hd : decode cc pc = .ok (.ifnonnull off, 3)) (ht : (pc : Int) + off = (tgt : Int)) (hk : kt lv st G E kc ks = true) (gt : xs_good p l e R s m args below meth c Qf nL Z kt tgt) (gf : xs_good p l e R s m args below meth c Qf nL Z kf (pc + 3)) (S : xs_St Z nL lv G E H locs ls) : W p l e R s m args below meth c H locs kc ks Qf (F0 m pc ls ((.ref j :: st).map (xs_cv Z))) :=
  lv_ifnonnull X.1 X.2.1 hd ht (gt lv st G E kc ks hk H locs ls S)
theorem xb_ifnonnull_n (X : xs_Cx p s m args c cc nL o Z) {off : Int} (hd : decode cc pc = .ok (.ifnonnull off, 3)) (ht : (pc : Int) + off = (tgt : Int)) (hk : kf lv st G E kc ks = true) (gt : xs_good p l e R s m args below meth c Qf nL Z kt tgt) (gf : xs_good p l e R s m args below meth c Qf nL Z kf (pc + 3)) (S : xs_St Z nL lv G E H locs ls) : W p l e R s m args below meth c H locs kc ks Qf (F0 m pc ls ((.null :: st).map (xs_cv Z))) :=
  lv_ifnonnullN X.1 X.2.1 hd (gf lv st G E kc ks hk H locs ls S)
end XB
