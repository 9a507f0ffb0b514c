/-! the flat machine answers what the little one answers: switches, strings, calls, the run -/
def zrt : Int → zS → Option (Int × zS) := fun r s => some (r, s)
def zcok (run : List xm_E → List xm_E → List Int → List zV → zS → Option (Int × zS)) (call : xm_C) : Prop := ∀ (m r1 : Nat) (y : MethodName) (r3 : ByteArray) (nL : Nat) (ret : Option FieldType) (n mc ms : Nat) (c : List xm_E), xm_nth xm_mtab m = some (r1, y, r3, nL, ret, n, mc, ms, c) → ∀ (As : List Value) (zs : List zV) (G : xm_H) (E : xm_R) (Q1 Q2 : xm_Q) (s s' : zS) (r : Int), zsr As zs → zR G s → run c c (zpad nL (zslots zs)) [] s = some (r, s') → (∀ v G', zres ret v r → zR G' s' → Q1 v G' E = true → Q2 v G' E = true) → call m As G E Q1 = true → call m As G E Q2 = true
theorem zs_popn : ∀ (n : Nat) {st : List Value} {zst : List zV} {acc : List Value} {zacc : List zV} {k : List Value → List Value → Bool}, zsr st zst → zsr acc zacc → xm_pop n acc st k = true → ∃ As st', zsr As (zpop n zacc zst).1 ∧ zsr st' (zpop n zacc zst).2 ∧ ∀ k, xm_pop n acc st k = k As st'
  | 0, st, zst, acc, zacc, k, h1, h2, h => ⟨acc, st, h2, h1, fun k => rfl⟩
  | n + 1, [], zst, acc, zacc, k, h1, h2, h => by
    have h : false = true := h
    cases h
  | n + 1, w :: st, [], acc, zacc, k, h1, h2, h => False.elim h1
  | n + 1, w :: st, (b, x) :: zst, acc, zacc, k, h1, h2, h => by
    obtain ⟨⟨a1, a2, a3⟩, ht⟩ := h1
    have h : xm_pop n (w :: acc) st k = true := h
    obtain ⟨As, st', q1, q2, q3⟩ := zs_popn n ht (zsr_c a1 a2 a3 h2) h
    exact ⟨As, st', q1, q2, fun k => q3 k⟩
theorem zl_pad : ∀ {n : Nat} {l : List Int} {k : Nat}, k < n → zget (zpad n l) k = zget l k
  | 0, _, _, h => absurd h (Nat.not_lt_zero _)
  | n + 1, [], 0, _ => rfl
  | n + 1, [], k + 1, h => by
    show zget (zpad n []) k = 0
    rw [zl_pad (Nat.lt_of_succ_lt_succ h)]
    rfl
  | n + 1, _ :: _, 0, _ => rfl
  | n + 1, x :: l, k + 1, h => zl_pad (l := l) (Nat.lt_of_succ_lt_succ h)
theorem zl_padl : ∀ {n : Nat} {l : List Int}, (zpad n l).length = n
  | 0, _ => rfl
  | n + 1, [] => by
    show (zpad n []).length + 1 = n + 1
    rw [zl_padl]
  | n + 1, x :: l => by
    show (zpad n l).length + 1 = n + 1
    rw [zl_padl]
theorem zl_cat {v : Value} : v.category = 2 ↔ xm_isL v = true := by
  cases v <;> first | exact ⟨fun _ => rfl, fun _ => rfl⟩ | exact ⟨fun h => (by cases h), fun h => (by cases h)⟩
theorem zl_args : ∀ (As : List Value) (zs : List zV) (n : Nat), zsr As zs → ∀ q ∈ lv_args n As, n ≤ q.1 ∧ q.1 < n + xm_cats As ∧ zp q.2 = true ∧ zget (zslots zs) (q.1 - n) = zi q.2
  | [], _, _, _, q, hq => by cases hq
  | v :: As, [], n, h, q, hq => False.elim h
  | v :: As, (b, x) :: zs, n, h, q, hq => by
    obtain ⟨⟨a1, a2, a3⟩, ht⟩ := h
    dsimp only at a2 a3
    have hc : xm_cats (v :: As) = (cond (xm_isL v) 2 1) + xm_cats As := rfl
    have hq : q ∈ (n, v) :: lv_args (if v.category = 2 then n + 2 else n + 1) As := hq
    rcases List.mem_cons.mp hq with rfl | hq
    · dsimp only
      refine ⟨Nat.le_refl _, ?_, a1, ?_⟩
      · rw [hc]
        cases xm_isL v <;> simp <;> omega
      · rw [Nat.sub_self]
        cases b <;> exact a3.symm
    · cases b with
      | true =>
        rw [if_pos (zl_cat.mpr a2)] at hq
        obtain ⟨b1, b2, b3, b4⟩ := zl_args As zs (n + 2) ht q hq
        refine ⟨by omega, ?_, b3, ?_⟩
        · rw [hc, a2, cond_true]
          omega
        · rw [← b4, show q.1 - n = (q.1 - (n + 2)) + 1 + 1 by omega]
          rfl
      | false =>
        rw [if_neg (fun z => by rw [zl_cat.mp z] at a2; cases a2)] at hq
        obtain ⟨b1, b2, b3, b4⟩ := zl_args As zs (n + 1) ht q hq
        refine ⟨by omega, ?_, b3, ?_⟩
        · rw [hc, a2, cond_false]
          omega
        · rw [← b4, show q.1 - n = (q.1 - (n + 1)) + 1 by omega]
          rfl
theorem zl_push {ret : Option FieldType} {r : Int} {st : List zV} (h : ret ≠ none) : zpush ret r st = (zrL ret, r) :: st := by
  cases ret with
  | none => exact absurd rfl h
  | some ty => cases ty <;> rfl
theorem zl_copy {sp dp : Nat} {f : List Value} : ∀ (n : Nat) {g : List Value}, sp + n ≤ f.length → dp + n ≤ g.length → (xm_copy sp dp n f g).length = g.length ∧ ∀ k, (xm_copy sp dp n f g)[k]? = if dp ≤ k ∧ k < dp + n then f[sp + (k - dp)]? else g[k]?
  | 0, g, h1, h2 => ⟨rfl, fun k => by
    rw [if_neg (by omega)]
    rfl⟩
  | n + 1, g, h1, h2 => by
    obtain ⟨i1, i2⟩ := zl_copy (sp := sp) (dp := dp) n (f := f) (g := g) (by omega) (by omega)
    have e : xm_copy sp dp (n + 1) f g = (match xm_nth f (sp + n) with
      | some w => xm_put w (xm_copy sp dp n f g) (dp + n)
      | none => xm_copy sp dp n f g) := rfl
    obtain ⟨w, hw⟩ : ∃ w, f[sp + n]? = some w := ⟨_, List.getElem?_eq_getElem (by omega)⟩
    rw [e, xl_nth, hw]
    dsimp only
    rw [xl_put]
    refine ⟨by rw [List.length_set]; exact i1, fun k => ?_⟩
    rw [List.getElem?_set]
    by_cases ek : dp + n = k
    · subst ek
      rw [if_pos rfl, if_pos (by omega), if_pos (by omega), show sp + (dp + n - dp) = sp + n by omega, hw]
    · rw [if_neg ek, i2 k]
      by_cases e2 : dp ≤ k ∧ k < dp + n
      · rw [if_pos e2, if_pos (by omega)]
      · rw [if_neg e2, if_neg (by omega)]
theorem zs_5 {P : Value → Value → Value → Value → Value → Prop} {st : List Value} {zst : List zV} (hs : zsr st zst) {f : List Value → Bool} (h : f st = true) (h0 : f [] = false) (h1 : ∀ a, f [a] = false) (h2 : ∀ a b, f [a, b] = false) (h3 : ∀ a b c, f [a, b, c] = false) (h4 : ∀ a b c d, f [a, b, c, d] = false) (h5 : ∀ a b c d e st, zp a = true → zp b = true → zp c = true → zp d = true → zp e = true → ¬ P a b c d e → f (a :: b :: c :: d :: e :: st) = false) : ∃ (a b c d e : Value) (st' : List Value) (zst' : List zV), st = a :: b :: c :: d :: e :: st' ∧ zst = (xm_isL a, zi a) :: (xm_isL b, zi b) :: (xm_isL c, zi c) :: (xm_isL d, zi d) :: (xm_isL e, zi e) :: zst' ∧ P a b c d e ∧ zsr st' zst' := by
  match st, zst, hs with
  | [], _, _ => rw [h0] at h; cases h
  | [_], _, _ => rw [h1] at h; cases h
  | [_, _], _, _ => rw [h2] at h; cases h
  | [_, _, _], _, _ => rw [h3] at h; cases h
  | [_, _, _, _], _, _ => rw [h4] at h; cases h
  | a :: b :: c :: d :: e :: st', [], hs => exact False.elim hs
  | a :: b :: c :: d :: e :: st', [_], hs => exact False.elim hs.2
  | a :: b :: c :: d :: e :: st', [_, _], hs => exact False.elim hs.2.2
  | a :: b :: c :: d :: e :: st', [_, _, _], hs => exact False.elim hs.2.2.2
  | a :: b :: c :: d :: e :: st', [_, _, _, _], hs => exact False.elim hs.2.2.2.2
  | a :: b :: c :: d :: e :: st', (b1, y1) :: (b2, x1) :: (b3, z1) :: (b4, u1) :: (b5, v1) :: zst', hs =>
    obtain ⟨⟨pa, la, ia⟩, ⟨pb, lb, ib⟩, ⟨pc, lc, ic⟩, ⟨pd, ld, id⟩, ⟨pe, le, ie⟩, ht⟩ := hs
    dsimp only at la ia lb ib lc ic ld id le ie
    by_cases k : P a b c d e
    · exact ⟨a, b, c, d, e, st', zst', rfl, by rw [la, ia, lb, ib, lc, ic, ld, id, le, ie], k, ht⟩
    · rw [h5 a b c d e st' pa pb pc pd pe k] at h
      cases h
theorem zR.copy {G : xm_H} {s : zS} (hR : zR G s) {i j sp dp n : Nat} {vs ws : List Value} (hi : xm_hget G i = some (100, vs)) (hj : xm_hget G j = some (100, ws)) (h1 : sp + n ≤ vs.length) (h2 : dp + n ≤ ws.length) : zR (xm_hput G j (100, xm_copy sp dp n vs ws)) (zcpy s i sp j dp n) := by
  obtain ⟨c1, c2⟩ := zl_copy (sp := sp) (dp := dp) n (f := vs) (g := ws) h1 h2
  intro j' t' vs' hj'
  rw [xl_hput] at hj'
  by_cases e : j' = j
  · subst e
    rw [if_pos rfl] at hj'
    cases hj'
    obtain ⟨⟨a1, a2, a3, a4⟩, b⟩ := hR j' 100 ws hj
    refine ⟨⟨a1, a2, a3, fun q1 q2 => by rw [c1]; exact a4 q1 q2⟩, fun k v hv => ?_⟩
    rw [c2] at hv
    show zp v = true ∧ xm_isL v = zlg 100 k ∧ zi v = zcpy s i sp j' dp n j' k
    unfold zcpy
    by_cases ek : dp ≤ k ∧ k < dp + n
    · rw [if_pos ek] at hv
      rw [if_pos ⟨rfl, by omega, by omega⟩]
      obtain ⟨b1, b2, b3⟩ := (hR i 100 vs hi).2 _ v hv
      refine ⟨b1, b2, ?_⟩
      have b3 : zi v = s i ((sp + (k - dp) : Nat) : Int) := b3
      rw [b3, show ((sp + (k - dp) : Nat) : Int) = (sp : Int) + ((k : Int) - (dp : Int)) by omega]
    · rw [if_neg ek] at hv
      rw [if_neg (fun q => ek ⟨by omega, by omega⟩)]
      obtain ⟨b1, b2, b3⟩ := b k v hv
      exact ⟨b1, b2, b3⟩
  · rw [if_neg e] at hj'
    obtain ⟨a, b⟩ := hR j' t' vs' hj'
    refine ⟨a, fun k v hv => ?_⟩
    obtain ⟨b1, b2, b3⟩ := b k v hv
    refine ⟨b1, b2, ?_⟩
    rw [b3]
    cases zcon t' j' k with
    | some c => rfl
    | none =>
      show s j' k = zcpy s i sp j dp n j' k
      unfold zcpy
      rw [if_neg (fun q => e (by have := q.1; omega))]
section ZT
variable {call : xm_C} {full rest : List xm_E} {nL mc ms : Nat} {ret : Option FieldType} {Q1 Q2 : xm_Q} {ih1 ih2 : List xm_E → xm_K} {nx : zN} {cl : Nat → Nat → List xm_E → List Int → List zV → zS → Option (Int × zS)} {rt : Int → zS → Option (Int × zS)} {pc a b : Nat} {ts : List Nat} {v : Value} {lv : xm_L} {st : List Value} {G : xm_H} {E : xm_R} {kc ks : Nat} {lz : List Int} {zst : List zV} {s : zS} {res : Int × zS}
theorem zs_ifnull {off : Int} (hi : zIH nx ih1 ih2 nL E res) (hl : zL lv lz) (hn : lz.length = nL) (hs : zsr st zst) (hR : zR G s) (hz : zm_body nx cl rt none full (pc, .ifnull off, a, b, ts, v) rest lz zst s = some res) (h : xm_body call full nL mc ms ret Q1 ih1 (pc, .ifnull off, a, b, ts, v) rest lv st G E kc ks = true) : xm_body call full nL mc ms ret Q2 ih2 (pc, .ifnull off, a, b, ts, v) rest lv st G E kc ks = true := by
  replace h : (match (generalizing := false) st with
    | .ref _ :: st => ih1 rest lv st G E kc ks
    | .null :: st => ih1 (xm_drop a full) lv st G E kc ks
    | _ => false) = true := h
  show (match (generalizing := false) st with
    | .ref _ :: st => ih2 rest lv st G E kc ks
    | .null :: st => ih2 (xm_drop a full) lv st G E kc ks
    | _ => false) = true
  obtain ⟨w, st', zst', rfl, rfl, pw, e, ht⟩ := zs_1 (P := fun w => (∃ j, w = .ref j) ∨ w = .null) hs (f := fun st => (match (generalizing := false) st with
    | .ref _ :: st => ih1 rest lv st G E kc ks
    | .null :: st => ih1 (xm_drop a full) lv st G E kc ks
    | _ => false)) h rfl (fun w st hw e => by cases w <;> first | rfl | (cases hw; done) | exact absurd (Or.inl ⟨_, rfl⟩) e | exact absurd (Or.inr rfl) e)
  replace hz : nx (if zi w < 0 then (xm_drop a full) else rest) lz zst' s = some res := hz
  rcases e with ⟨j, rfl⟩ | rfl
  · rw [if_neg (show ¬ zi (Value.ref j) < 0 by show ¬ ((j : Nat) : Int) < 0; omega)] at hz
    exact hi _ lv st' G kc ks lz zst' s hl hn ht hR hz h
  · rw [if_pos (show zi Value.null < 0 by show (-1 : Int) < 0; omega)] at hz
    exact hi _ lv st' G kc ks lz zst' s hl hn ht hR hz h
theorem zs_ifnonnull {off : Int} (hi : zIH nx ih1 ih2 nL E res) (hl : zL lv lz) (hn : lz.length = nL) (hs : zsr st zst) (hR : zR G s) (hz : zm_body nx cl rt none full (pc, .ifnonnull off, a, b, ts, v) rest lz zst s = some res) (h : xm_body call full nL mc ms ret Q1 ih1 (pc, .ifnonnull off, a, b, ts, v) rest lv st G E kc ks = true) : xm_body call full nL mc ms ret Q2 ih2 (pc, .ifnonnull off, a, b, ts, v) rest lv st G E kc ks = true := by
  replace h : (match (generalizing := false) st with
    | .ref _ :: st => ih1 (xm_drop a full) lv st G E kc ks
    | .null :: st => ih1 rest lv st G E kc ks
    | _ => false) = true := h
  show (match (generalizing := false) st with
    | .ref _ :: st => ih2 (xm_drop a full) lv st G E kc ks
    | .null :: st => ih2 rest lv st G E kc ks
    | _ => false) = true
  obtain ⟨w, st', zst', rfl, rfl, pw, e, ht⟩ := zs_1 (P := fun w => (∃ j, w = .ref j) ∨ w = .null) hs (f := fun st => (match (generalizing := false) st with
    | .ref _ :: st => ih1 (xm_drop a full) lv st G E kc ks
    | .null :: st => ih1 rest lv st G E kc ks
    | _ => false)) h rfl (fun w st hw e => by cases w <;> first | rfl | (cases hw; done) | exact absurd (Or.inl ⟨_, rfl⟩) e | exact absurd (Or.inr rfl) e)
  replace hz : nx (if zi w < 0 then rest else (xm_drop a full)) lz zst' s = some res := hz
  rcases e with ⟨j, rfl⟩ | rfl
  · rw [if_neg (show ¬ zi (Value.ref j) < 0 by show ¬ ((j : Nat) : Int) < 0; omega)] at hz
    exact hi _ lv st' G kc ks lz zst' s hl hn ht hR hz h
  · rw [if_pos (show zi Value.null < 0 by show (-1 : Int) < 0; omega)] at hz
    exact hi _ lv st' G kc ks lz zst' s hl hn ht hR hz h
theorem zs_tableswitch {dd lo hi0 : Int} {offs : Array Int} (hi : zIH nx ih1 ih2 nL E res) (hl : zL lv lz) (hn : lz.length = nL) (hs : zsr st zst) (hR : zR G s) (hz : zm_body nx cl rt none full (pc, .tableswitch dd lo hi0 offs, a, b, ts, v) rest lz zst s = some res) (h : xm_body call full nL mc ms ret Q1 ih1 (pc, .tableswitch dd lo hi0 offs, a, b, ts, v) rest lv st G E kc ks = true) : xm_body call full nL mc ms ret Q2 ih2 (pc, .tableswitch dd lo hi0 offs, a, b, ts, v) rest lv st G E kc ks = true := by
  replace h : (match (generalizing := false) st with
    | w :: st => xm_table lo a ts w E (fun E t => ih1 (xm_drop t full) lv st G E kc ks)
    | _ => false) = true := h
  show (match (generalizing := false) st with
    | w :: st => xm_table lo a ts w E (fun E t => ih2 (xm_drop t full) lv st G E kc ks)
    | _ => false) = true
  obtain ⟨w, st', zst', rfl, rfl, pw, ⟨x, rfl⟩, ht⟩ := zs_1 (P := fun w => ∃ x, w = .int x) hs (f := fun st => (match (generalizing := false) st with
    | w :: st => xm_table lo a ts w E (fun E t => ih1 (xm_drop t full) lv st G E kc ks)
    | _ => false)) h rfl (fun w st hw e => by cases w <;> first | rfl | (cases hw; done) | exact absurd ⟨_, rfl⟩ e)
  replace hz : (match (generalizing := false) zsw lo a ts x.toInt with
    | some t => nx (xm_drop t full) lz zst' s
    | none => none) = some res := hz
  have e : ∀ k : xm_R → Nat → Bool, xm_table lo a ts (.int x) E k = bif decide (x.toInt < lo) || decide (lo + Int.ofNat (xm_len ts) ≤ x.toInt) then k E a else (match xm_nth ts (x.toInt - lo).toNat with
    | some t => k E t
    | none => false) := fun _ => rfl
  dsimp only at h ⊢
  rw [e] at h ⊢
  unfold zsw at hz
  by_cases c : x.toInt < lo ∨ lo + Int.ofNat (xm_len ts) ≤ x.toInt
  · have c' : (decide (x.toInt < lo) || decide (lo + Int.ofNat (xm_len ts) ≤ x.toInt)) = true := by
      rw [Bool.or_eq_true, decide_eq_true_eq, decide_eq_true_eq]
      exact c
    rw [c', cond_true] at h
    rw [c', cond_true]
    rw [if_pos c] at hz
    exact hi _ lv st' G kc ks lz zst' s hl hn ht hR hz h
  · have c' : (decide (x.toInt < lo) || decide (lo + Int.ofNat (xm_len ts) ≤ x.toInt)) = false := by
      rw [Bool.eq_false_iff]
      intro q
      rw [Bool.or_eq_true, decide_eq_true_eq, decide_eq_true_eq] at q
      exact c q
    rw [c', cond_false] at h
    rw [c', cond_false]
    rw [if_neg c] at hz
    cases hq : xm_nth ts (x.toInt - lo).toNat with
    | none => rw [hq] at h; cases h
    | some t =>
      rw [hq] at h hz
      exact hi _ lv st' G kc ks lz zst' s hl hn ht hR hz h
theorem zs_lookupswitch {dd : Int} {ps : Array (Int × Int)} (hi : zIH nx ih1 ih2 nL E res) (hl : zL lv lz) (hn : lz.length = nL) (hs : zsr st zst) (hR : zR G s) (hz : zm_body nx cl rt none full (pc, .lookupswitch dd ps, a, b, ts, v) rest lz zst s = some res) (h : xm_body call full nL mc ms ret Q1 ih1 (pc, .lookupswitch dd ps, a, b, ts, v) rest lv st G E kc ks = true) : xm_body call full nL mc ms ret Q2 ih2 (pc, .lookupswitch dd ps, a, b, ts, v) rest lv st G E kc ks = true := by
  replace h : (match (generalizing := false) st with
    | .int x :: st => ih1 (xm_drop (xm_look a ps.toList ts x.toInt) full) lv st G E kc ks
    | _ => false) = true := h
  show (match (generalizing := false) st with
    | .int x :: st => ih2 (xm_drop (xm_look a ps.toList ts x.toInt) full) lv st G E kc ks
    | _ => false) = true
  obtain ⟨w, st', zst', rfl, rfl, pw, ⟨x, rfl⟩, ht⟩ := zs_1 (P := fun w => ∃ x, w = .int x) hs (f := fun st => (match (generalizing := false) st with
    | .int x :: st => ih1 (xm_drop (xm_look a ps.toList ts x.toInt) full) lv st G E kc ks
    | _ => false)) h rfl (fun w st hw e => by cases w <;> first | rfl | (cases hw; done) | exact absurd ⟨_, rfl⟩ e)
  exact hi _ lv st' G kc ks lz zst' s hl hn ht hR hz h
theorem zs_arraylength  (hi : zIH nx ih1 ih2 nL E res) (hl : zL lv lz) (hn : lz.length = nL) (hs : zsr st zst) (hR : zR G s) (hz : zm_body nx cl rt none full (pc, .arraylength, a, b, ts, v) rest lz zst s = some res) (h : xm_body call full nL mc ms ret Q1 ih1 (pc, .arraylength, a, b, ts, v) rest lv st G E kc ks = true) : xm_body call full nL mc ms ret Q2 ih2 (pc, .arraylength, a, b, ts, v) rest lv st G E kc ks = true := by
  replace h : xm_alen st G (fun st => ih1 rest lv st G E kc ks) = true := h
  show xm_alen st G (fun st => ih2 rest lv st G E kc ks) = true
  obtain ⟨w, st', zst', rfl, rfl, pw, ⟨j, rfl⟩, ht⟩ := zs_1 (P := fun w => ∃ j, w = .ref j) hs (f := fun st => xm_alen st G (fun st => ih1 rest lv st G E kc ks)) h rfl (fun w st hw e => by cases w <;> first | rfl | (cases hw; done) | exact absurd ⟨_, rfl⟩ e)
  have e : ∀ k, xm_alen (.ref j :: st') G k = (match xm_hget G j with
    | some (t, vs) => bif Nat.beq t 300 then k (.retAddr 6 :: st') else bif (Nat.ble 100 t && Nat.blt t 108) || Nat.beq t 301 then k (.int (Int32.ofNat (xm_len vs)) :: st') else false
    | none => false) := fun _ => rfl
  replace hz : (if ((j : Nat) : Int) = 0 then none else nx rest lz ((false, zw (zlen j)) :: zst') s) = some res := hz
  rw [e] at h ⊢
  by_cases ej : ((j : Nat) : Int) = 0
  · rw [if_pos ej] at hz
    cases hz
  rw [if_neg ej] at hz
  cases hg : xm_hget G j with
  | none => rw [hg] at h; cases h
  | some p =>
    obtain ⟨t, vs⟩ := p
    rw [hg] at h
    dsimp only at h ⊢
    obtain ⟨⟨a1, a2, a3, a4⟩, -⟩ := hR j t vs hg
    have e1 : Nat.beq t 300 = false := Bool.eq_false_iff.mpr (fun q => a1 (Nat.eq_of_beq_eq_true q))
    have e2 : Nat.beq t 301 = false := Bool.eq_false_iff.mpr (fun q => ej (by have := a2 (Nat.eq_of_beq_eq_true q); omega))
    rw [e1, cond_false, e2, Bool.or_false] at h
    rw [e1, cond_false, e2, Bool.or_false]
    cases hc : (Nat.ble 100 t && Nat.blt t 108) with
    | false => rw [hc] at h; cases h
    | true =>
      rw [hc, cond_true] at h
      rw [cond_true]
      rw [Bool.and_eq_true] at hc
      have h1 := Nat.le_of_ble_eq_true hc.1
      have h2 := Nat.le_of_ble_eq_true hc.2
      refine hi rest lv _ G kc ks lz _ s hl hn (zsr_c rfl rfl ?_ ht) hR hz h
      show (Int32.ofNat (xm_len vs)).toInt = zw (zlen j)
      rw [Int32.toInt_ofNat', ← a4 h1 (by omega), xl_len]
      rfl
theorem zs_callg {m bx bz : Nat} {suf : List xm_E} {run : List xm_E → List xm_E → List Int → List zV → zS → Option (Int × zS)} (hb : (Nat.beq bx 1 || Nat.beq bx 3) = Nat.beq bz 1) (hc : zcok run call) (hi : zIH (run full) ih1 ih2 nL E res) (hl : zL lv lz) (hn : lz.length = nL) (hs : zsr st zst) (hR : zR G s) (hz : zm_call run full m bz suf lz zst s = some res) (h : xm_call call mc ms m bx st G E kc ks (fun st G E kc ks => ih1 suf lv st G E kc ks) = true) : xm_call call mc ms m bx st G E kc ks (fun st G E kc ks => ih2 suf lv st G E kc ks) = true := by
  unfold zm_call at hz
  unfold xm_call at h ⊢
  cases hm : xm_nth xm_mtab m with
  | none => rw [hm] at h; cases h
  | some r =>
    obtain ⟨r1, y, r3, nL1, ret1, n, mc1, ms1, c⟩ := r
    rw [hm] at h hz
    dsimp only at h hz ⊢
    cases hk : (Nat.ble (kc + mc1) mc && Nat.ble (ks + ms1) ms) with
    | false => rw [hk] at h; cases h
    | true =>
      rw [hk, cond_true] at h
      rw [cond_true]
      rw [hb] at h ⊢
      obtain ⟨As, st', q1, q2, q3⟩ := zs_popn _ hs (acc := []) (zacc := []) trivial h
      rw [q3] at h ⊢
      cases hr : (Nat.ble (xm_cats st') 8 && xm_rcv bx y.cls G As) with
      | false => rw [hr] at h; cases h
      | true =>
        rw [hr, cond_true] at h
        rw [cond_true]
        cases hq : run c c (zpad nL1 (zslots (zpop (bif Nat.beq bz 1 then n else Nat.succ n) [] zst).1)) [] s with
        | none => rw [hq] at hz; cases hz
        | some p =>
          obtain ⟨r, s1⟩ := p
          rw [hq] at hz
          dsimp only at hz
          refine hc m r1 y r3 nL1 ret1 n mc1 ms1 c hm As _ G E _ _ s s1 r q1 hR hq (fun v G' z1 z2 z3 => ?_) h
          cases v with
          | none =>
            obtain ⟨e1, -⟩ := z1
            subst e1
            exact hi suf lv st' G' _ _ lz _ s1 hl hn q2 z2 hz z3
          | some v =>
            obtain ⟨e1, e2, e3, e4⟩ := z1
            rw [zl_push e4] at hz
            exact hi suf lv (v :: st') G' _ _ lz _ s1 hl hn (zsr_c e1 e3 e2 q2) z2 hz z3
theorem zs_invokevirtual {n : Nat} {run : List xm_E → List xm_E → List Int → List zV → zS → Option (Int × zS)} (hc : zcok run call) (hi : zIH (run full) ih1 ih2 nL E res) (hl : zL lv lz) (hn : lz.length = nL) (hs : zsr st zst) (hR : zR G s) (hz : zm_body (run full) (zm_call run full) rt none full (pc, .invokevirtual n, a, b, ts, v) rest lz zst s = some res) (h : xm_body call full nL mc ms ret Q1 ih1 (pc, .invokevirtual n, a, b, ts, v) rest lv st G E kc ks = true) : xm_body call full nL mc ms ret Q2 ih2 (pc, .invokevirtual n, a, b, ts, v) rest lv st G E kc ks = true := by
  replace h : (bif Nat.beq a 1006 || Nat.beq a 1007 then xm_strl a st G (fun st => ih1 rest lv st G E kc ks) else xm_call call mc ms a 0 st G E kc ks (fun st G E kc ks => ih1 rest lv st G E kc ks)) = true := h
  show (bif Nat.beq a 1006 || Nat.beq a 1007 then xm_strl a st G (fun st => ih2 rest lv st G E kc ks) else xm_call call mc ms a 0 st G E kc ks (fun st G E kc ks => ih2 rest lv st G E kc ks)) = true
  have strv : ∀ {j : Nat} {bs : List Nat}, xm_strv j G = some bs → zstr j = bs := by
    intro j bs hj
    unfold xm_strv at hj
    cases hg : xm_hget G j with
    | none => rw [hg] at hj; cases hj
    | some p =>
      obtain ⟨t, vs⟩ := p
      rw [hg] at hj
      dsimp only at hj
      cases hc : (Nat.ble 200 t && Nat.blt t 206) with
      | false => rw [hc] at hj; cases hj
      | true =>
        rw [hc, cond_true] at hj
        rw [Bool.and_eq_true] at hc
        have h1 := Nat.le_of_ble_eq_true hc.1
        have h2 := Nat.le_of_ble_eq_true hc.2
        have e := (hR j t vs hg).1.2.2.1 h1 (by omega)
        unfold zstr
        rw [show ((j : Nat) : Int).toNat - 1 = t - 200 by omega, hj]
  cases h6 : Nat.beq a 1006 with
  | true =>
    have ea := Nat.eq_of_beq_eq_true h6
    subst ea
    replace h : (match (generalizing := false) st with
      | .ref j :: st => (match xm_strv j G with
        | some bs => bif Nat.ble (xm_cats st) 8 then ih1 rest lv (.int (Int32.ofNat (xm_len bs)) :: st) G E kc ks else false
        | none => false)
      | _ => false) = true := h
    show (match (generalizing := false) st with
      | .ref j :: st => (match xm_strv j G with
        | some bs => bif Nat.ble (xm_cats st) 8 then ih2 rest lv (.int (Int32.ofNat (xm_len bs)) :: st) G E kc ks else false
        | none => false)
      | _ => false) = true
    obtain ⟨w, st', zst', rfl, rfl, pw, ⟨j, rfl⟩, ht⟩ := zs_1 (P := fun w => ∃ j, w = .ref j) hs (f := fun st => (match (generalizing := false) st with
      | .ref j :: st => (match xm_strv j G with
        | some bs => bif Nat.ble (xm_cats st) 8 then ih1 rest lv (.int (Int32.ofNat (xm_len bs)) :: st) G E kc ks else false
        | none => false)
      | _ => false)) h rfl (fun w st hw e => by cases w <;> first | rfl | (cases hw; done) | exact absurd ⟨_, rfl⟩ e)
    dsimp only at h ⊢
    cases hv : xm_strv j G with
    | none => rw [hv] at h; cases h
    | some bs =>
      rw [hv] at h
      dsimp only at h ⊢
      cases hk : Nat.ble (xm_cats st') 8 with
      | false => rw [hk] at h; cases h
      | true =>
        rw [hk, cond_true] at h
        rw [cond_true]
        replace hz : run full rest lz ((false, zslen j) :: zst') s = some res := hz
        exact hi rest lv _ G kc ks lz _ s hl hn (zsr_c rfl rfl (by unfold zslen; rw [strv hv]; rfl) ht) hR hz h
  | false =>
    cases h7 : Nat.beq a 1007 with
    | true =>
      have ea := Nat.eq_of_beq_eq_true h7
      subst ea
      replace h : (match (generalizing := false) st with
        | .int x :: .ref j :: st => (match xm_strv j G with
          | some bs => bif Nat.ble (xm_cats st) 8 && decide (0 ≤ x.toInt) then (match xm_nth bs x.toInt.toNat with
            | some c => ih1 rest lv (.int (Int32.ofNat c) :: st) G E kc ks
            | none => false) else false
          | none => false)
        | _ => false) = true := h
      show (match (generalizing := false) st with
        | .int x :: .ref j :: st => (match xm_strv j G with
          | some bs => bif Nat.ble (xm_cats st) 8 && decide (0 ≤ x.toInt) then (match xm_nth bs x.toInt.toNat with
            | some c => ih2 rest lv (.int (Int32.ofNat c) :: st) G E kc ks
            | none => false) else false
          | none => false)
        | _ => false) = true
      obtain ⟨w, u, st', zst', rfl, rfl, pw, pu, ⟨x, j, rfl, rfl⟩, ht⟩ := zs_2 (P := zPA) hs (f := fun st => (match (generalizing := false) st with
        | .int x :: .ref j :: st => (match xm_strv j G with
          | some bs => bif Nat.ble (xm_cats st) 8 && decide (0 ≤ x.toInt) then (match xm_nth bs x.toInt.toNat with
            | some c => ih1 rest lv (.int (Int32.ofNat c) :: st) G E kc ks
            | none => false) else false
          | none => false)
        | _ => false)) h rfl (fun w => by cases w <;> rfl) (fun w u st hw hu e => by cases w <;> cases u <;> first | rfl | (cases hw; done) | (cases hu; done) | exact absurd ⟨_, _, rfl, rfl⟩ e)
      dsimp only at h ⊢
      cases hv : xm_strv j G with
      | none => rw [hv] at h; cases h
      | some bs =>
        rw [hv] at h
        dsimp only at h ⊢
        cases hk : (Nat.ble (xm_cats st') 8 && decide (0 ≤ x.toInt)) with
        | false => rw [hk] at h; cases h
        | true =>
          rw [hk, cond_true] at h
          rw [cond_true]
          cases hb : xm_nth bs x.toInt.toNat with
          | none => rw [hb] at h; cases h
          | some c =>
            rw [hb] at h
            dsimp only at h ⊢
            replace hz : run full rest lz ((false, zchar j x.toInt) :: zst') s = some res := hz
            exact hi rest lv _ G kc ks lz _ s hl hn (zsr_c rfl rfl (by unfold zchar; rw [strv hv, hb]; rfl) ht) hR hz h
    | false =>
      rw [h6, h7, Bool.or_self, cond_false] at h
      rw [Bool.or_self, cond_false]
      replace hz : (bif Nat.beq a 1006 then (match (generalizing := false) zst with
          | (_, j) :: st => run full rest lz ((false, zslen j) :: st) s
          | _ => none)
        else bif Nat.beq a 1007 then (match (generalizing := false) zst with
          | (_, x) :: (_, j) :: st => run full rest lz ((false, zchar j x) :: st) s
          | _ => none)
        else zm_call run full a 0 rest lz zst s) = some res := hz
      rw [h6, h7, cond_false, cond_false] at hz
      exact zs_callg (by rfl) hc hi hl hn hs hR hz h
theorem zs_invokespecial {n : Nat} {run : List xm_E → List xm_E → List Int → List zV → zS → Option (Int × zS)} (hc : zcok run call) (hi : zIH (run full) ih1 ih2 nL E res) (hl : zL lv lz) (hn : lz.length = nL) (hs : zsr st zst) (hR : zR G s) (hz : zm_body (run full) (zm_call run full) rt none full (pc, .invokespecial n, a, b, ts, v) rest lz zst s = some res) (h : xm_body call full nL mc ms ret Q1 ih1 (pc, .invokespecial n, a, b, ts, v) rest lv st G E kc ks = true) : xm_body call full nL mc ms ret Q2 ih2 (pc, .invokespecial n, a, b, ts, v) rest lv st G E kc ks = true := by
  replace h : (bif Nat.beq a 1000 then (match (generalizing := false) st with
      | .ref _ :: st => bif Nat.ble (xm_cats st) 8 then ih1 rest lv st G E kc ks else false
      | _ => false)
    else bif Nat.beq b 4 then xm_call call mc ms a 4 st G E kc ks (fun st G E kc ks => ih1 rest lv st G E kc ks) else xm_call call mc ms a 2 st G E kc ks (fun st G E kc ks => ih1 rest lv st G E kc ks)) = true := h
  show (bif Nat.beq a 1000 then (match (generalizing := false) st with
      | .ref _ :: st => bif Nat.ble (xm_cats st) 8 then ih2 rest lv st G E kc ks else false
      | _ => false)
    else bif Nat.beq b 4 then xm_call call mc ms a 4 st G E kc ks (fun st G E kc ks => ih2 rest lv st G E kc ks) else xm_call call mc ms a 2 st G E kc ks (fun st G E kc ks => ih2 rest lv st G E kc ks)) = true
  replace hz : (bif Nat.beq a 1000 then none else zm_call run full a 2 rest lz zst s) = some res := hz
  cases h6 : Nat.beq a 1000 with
  | true => rw [h6] at hz; cases hz
  | false =>
    rw [h6, cond_false] at h hz
    rw [cond_false]
    cases h4 : Nat.beq b 4 with
    | true =>
      rw [h4, cond_true] at h
      rw [cond_true]
      exact zs_callg (by rfl) hc hi hl hn hs hR hz h
    | false =>
      rw [h4, cond_false] at h
      rw [cond_false]
      exact zs_callg (by rfl) hc hi hl hn hs hR hz h
theorem zs_math {a : Nat} (ha : a = 1003 ∨ a = 1004) {zf : Int → Int → Int} (hzf : ∀ x y : Int32, zf x.toInt y.toInt = (if a = 1003 then (if x < y then y else x) else (if y < x then y else x) : Int32).toInt) (hi : zIH nx ih1 ih2 nL E res) (hl : zL lv lz) (hn : lz.length = nL) (hs : zsr st zst) (hR : zR G s) (hz : (match (generalizing := false) zst with
    | (_, y) :: (_, x) :: st => nx rest lz ((false, zf x y) :: st) s
    | _ => none) = some res) (h : xm_math a st (fun st => ih1 rest lv st G E kc ks) = true) : xm_math a st (fun st => ih2 rest lv st G E kc ks) = true := by
  have h5 : Nat.beq a 1005 = false := by rcases ha with rfl | rfl <;> rfl
  have e : ∀ st k, xm_math a st k = (match (generalizing := false) st with
    | .int y :: .int x :: st => bif Nat.ble (xm_cats st) 8 then (bif Nat.beq a 1003 then k (.int (if x < y then y else x) :: st) else k (.int (if y < x then y else x) :: st)) else false
    | _ => false) := by
    intro st k
    unfold xm_math
    rw [h5, cond_false]
    rfl
  rw [e] at h ⊢
  obtain ⟨w, u, st', zst', rfl, rfl, pw, pu, ⟨y, x, rfl, rfl⟩, ht⟩ := zs_2 (P := zPI) hs (f := fun st => (match (generalizing := false) st with
    | .int y :: .int x :: st => bif Nat.ble (xm_cats st) 8 then (bif Nat.beq a 1003 then ih1 rest lv (.int (if x < y then y else x) :: st) G E kc ks else ih1 rest lv (.int (if y < x then y else x) :: st) G E kc ks) else false
    | _ => false)) h rfl (fun w => by cases w <;> rfl) (fun w u st hw hu e => by cases w <;> cases u <;> first | rfl | (cases hw; done) | (cases hu; done) | exact absurd ⟨_, _, rfl, rfl⟩ e)
  dsimp only at h ⊢
  cases hk : Nat.ble (xm_cats st') 8 with
  | false => rw [hk] at h; cases h
  | true =>
    rw [hk, cond_true] at h
    rw [cond_true]
    replace hz : nx rest lz ((false, zf x.toInt y.toInt) :: zst') s = some res := hz
    have hq := hzf x y
    rcases ha with rfl | rfl
    · exact hi rest lv _ G kc ks lz _ s hl hn (zsr_c rfl rfl hq.symm ht) hR hz h
    · exact hi rest lv _ G kc ks lz _ s hl hn (zsr_c rfl rfl hq.symm ht) hR hz h
theorem zs_invokestatic {n : Nat} {run : List xm_E → List xm_E → List Int → List zV → zS → Option (Int × zS)} (hc : zcok run call) (hi : zIH (run full) ih1 ih2 nL E res) (hl : zL lv lz) (hn : lz.length = nL) (hs : zsr st zst) (hR : zR G s) (hz : zm_body (run full) (zm_call run full) rt none full (pc, .invokestatic n, a, b, ts, v) rest lz zst s = some res) (h : xm_body call full nL mc ms ret Q1 ih1 (pc, .invokestatic n, a, b, ts, v) rest lv st G E kc ks = true) : xm_body call full nL mc ms ret Q2 ih2 (pc, .invokestatic n, a, b, ts, v) rest lv st G E kc ks = true := by
  replace h : (bif Nat.beq a 1001 then xm_acopy st G (fun st G => ih1 rest lv st G E kc ks) else bif Nat.beq a 1003 || (Nat.beq a 1004 || Nat.beq a 1005) then xm_math a st (fun st => ih1 rest lv st G E kc ks) else bif Nat.beq b 3 then xm_call call mc ms a 3 st G E kc ks (fun st G E kc ks => ih1 rest lv st G E kc ks) else xm_call call mc ms a 1 st G E kc ks (fun st G E kc ks => ih1 rest lv st G E kc ks)) = true := h
  show (bif Nat.beq a 1001 then xm_acopy st G (fun st G => ih2 rest lv st G E kc ks) else bif Nat.beq a 1003 || (Nat.beq a 1004 || Nat.beq a 1005) then xm_math a st (fun st => ih2 rest lv st G E kc ks) else bif Nat.beq b 3 then xm_call call mc ms a 3 st G E kc ks (fun st G E kc ks => ih2 rest lv st G E kc ks) else xm_call call mc ms a 1 st G E kc ks (fun st G E kc ks => ih2 rest lv st G E kc ks)) = true
  replace hz : (bif Nat.beq a 1001 then (match (generalizing := false) zst with
      | (_, n) :: (_, dp) :: (_, j) :: (_, sp) :: (_, i) :: st => run full rest lz st (zcpy s i sp j dp n)
      | _ => none)
    else bif Nat.beq a 1003 then (match (generalizing := false) zst with
      | (_, y) :: (_, x) :: st => run full rest lz ((false, if x < y then y else x) :: st) s
      | _ => none)
    else bif Nat.beq a 1004 then (match (generalizing := false) zst with
      | (_, y) :: (_, x) :: st => run full rest lz ((false, if y < x then y else x) :: st) s
      | _ => none)
    else bif Nat.beq a 1005 then (match (generalizing := false) zst with
      | (_, x) :: st => run full rest lz ((false, if 0 ≤ x then x else zw (0 - x)) :: st) s
      | _ => none)
    else zm_call run full a 1 rest lz zst s) = some res := hz
  cases h1 : Nat.beq a 1001 with
  | true =>
    have ea := Nat.eq_of_beq_eq_true h1
    subst ea
    replace hz : (match (generalizing := false) zst with
      | (_, n) :: (_, dp) :: (_, j) :: (_, sp) :: (_, i) :: st => run full rest lz st (zcpy s i sp j dp n)
      | _ => none) = some res := hz
    replace h : xm_acopy st G (fun st G => ih1 rest lv st G E kc ks) = true := h
    show xm_acopy st G (fun st G => ih2 rest lv st G E kc ks) = true
    obtain ⟨a1, a2, a3, a4, a5, st', zst', rfl, rfl, ⟨n, dp, j, sp, i, rfl, rfl, rfl, rfl, rfl⟩, ht⟩ := zs_5 (P := fun a b c d e => ∃ n dp j sp i, a = .int n ∧ b = .int dp ∧ c = .ref j ∧ d = .int sp ∧ e = .ref i) hs (f := fun st => xm_acopy st G (fun st G => ih1 rest lv st G E kc ks)) h rfl (fun a => by cases a <;> rfl) (fun a b => by cases a <;> first | rfl | (cases b <;> rfl)) (fun a b c => by cases a <;> first | rfl | (cases b <;> first | rfl | (cases c <;> rfl))) (fun a b c d => by cases a <;> first | rfl | (cases b <;> first | rfl | (cases c <;> first | rfl | (cases d <;> rfl)))) (fun a b c d e st _ _ _ _ _ hq => by cases a <;> first | rfl | (cases b <;> first | rfl | (cases c <;> first | rfl | (cases d <;> first | rfl | (cases e <;> first | rfl | exact absurd ⟨_, _, _, _, _, rfl, rfl, rfl, rfl, rfl⟩ hq)))))
    have e : ∀ k : List Value → xm_H → Bool, xm_acopy (.int n :: .int dp :: .ref j :: .int sp :: .ref i :: st') G k = (match xm_hget G i, xm_hget G j with
      | some (t, vs), some (t1, ws) => bif Nat.beq t 100 && (Nat.beq t1 100 && (Nat.ble 7 j && (!(Nat.beq i j) && (Nat.ble (xm_cats st') 8 && (xm_allI vs && (decide (0 ≤ n.toInt) && (decide (0 ≤ dp.toInt) && (decide (0 ≤ sp.toInt) && (Nat.ble (sp.toInt.toNat + n.toInt.toNat) (xm_len vs) && Nat.ble (dp.toInt.toNat + n.toInt.toNat) (xm_len ws)))))))))) then
        k st' (xm_hput G j (100, xm_copy sp.toInt.toNat dp.toInt.toNat n.toInt.toNat vs ws)) else false
      | _, _ => false) := fun _ => rfl
    rw [e] at h ⊢
    replace hz : run full rest lz zst' (zcpy s i sp.toInt j dp.toInt n.toInt) = some res := hz
    cases g1 : xm_hget G i with
    | none => rw [g1] at h; cases h
    | some p =>
      obtain ⟨t, vs⟩ := p
      cases g2 : xm_hget G j with
      | none => rw [g1, g2] at h; cases h
      | some p =>
        obtain ⟨t1, ws⟩ := p
        rw [g1, g2] at h
        dsimp only at h ⊢
        cases hc : (Nat.beq t 100 && (Nat.beq t1 100 && (Nat.ble 7 j && (!(Nat.beq i j) && (Nat.ble (xm_cats st') 8 && (xm_allI vs && (decide (0 ≤ n.toInt) && (decide (0 ≤ dp.toInt) && (decide (0 ≤ sp.toInt) && (Nat.ble (sp.toInt.toNat + n.toInt.toNat) (xm_len vs) && Nat.ble (dp.toInt.toNat + n.toInt.toNat) (xm_len ws))))))))))) with
        | false => rw [hc] at h; cases h
        | true =>
          rw [hc, cond_true] at h
          rw [cond_true]
          simp only [Bool.and_eq_true, decide_eq_true_eq] at hc
          obtain ⟨c1, c2, c3, c4, c5, c6, c7, c8, c9, c10, c11⟩ := hc
          have e1 := Nat.eq_of_beq_eq_true c1
          have e2 := Nat.eq_of_beq_eq_true c2
          subst e1 e2
          have k1 := Nat.le_of_ble_eq_true c10
          have k2 := Nat.le_of_ble_eq_true c11
          rw [xl_len] at k1 k2
          have hR' := hR.copy g1 g2 k1 k2
          rw [Int.toNat_of_nonneg c7, Int.toNat_of_nonneg c8, Int.toNat_of_nonneg c9] at hR'
          exact hi rest lv st' _ kc ks lz zst' _ hl hn ht hR' hz h
  | false =>
    rw [h1, cond_false] at h hz
    rw [cond_false]
    cases h3 : Nat.beq a 1003 with
    | true =>
      have ea := Nat.eq_of_beq_eq_true h3
      subst ea
      refine zs_math (zf := fun x y => if x < y then y else x) (Or.inl rfl) (fun x y => ?_) hi hl hn hs hR hz h
      rw [if_pos rfl]
      by_cases e : x.toInt < y.toInt
      · rw [if_pos e, if_pos (Int32.lt_iff_toInt_lt.mpr e)]
      · rw [if_neg e, if_neg (fun q => e (Int32.lt_iff_toInt_lt.mp q))]
    | false =>
      rw [h3, cond_false] at hz
      rw [h3, Bool.false_or] at h
      rw [Bool.false_or]
      cases h4 : Nat.beq a 1004 with
      | true =>
        have ea := Nat.eq_of_beq_eq_true h4
        subst ea
        refine zs_math (zf := fun x y => if y < x then y else x) (Or.inr rfl) (fun x y => ?_) hi hl hn hs hR hz h
        rw [if_neg (show ¬ (1004 = 1003) by decide)]
        by_cases e : y.toInt < x.toInt
        · rw [if_pos e, if_pos (Int32.lt_iff_toInt_lt.mpr e)]
        · rw [if_neg e, if_neg (fun q => e (Int32.lt_iff_toInt_lt.mp q))]
      | false =>
        rw [h4, cond_false] at hz
        rw [h4, Bool.false_or] at h
        rw [Bool.false_or]
        cases h5 : Nat.beq a 1005 with
        | true =>
          have ea := Nat.eq_of_beq_eq_true h5
          subst ea
          replace h : (match (generalizing := false) st with
            | .int x :: st => bif Nat.ble (xm_cats st) 8 then xm_frc (if 0 ≤ x then x else 0 - x) (fun z => ih1 rest lv (.int z :: st) G E kc ks) else false
            | _ => false) = true := h
          show (match (generalizing := false) st with
            | .int x :: st => bif Nat.ble (xm_cats st) 8 then xm_frc (if 0 ≤ x then x else 0 - x) (fun z => ih2 rest lv (.int z :: st) G E kc ks) else false
            | _ => false) = true
          obtain ⟨w, st', zst', rfl, rfl, pw, ⟨x, rfl⟩, ht⟩ := zs_1 (P := fun w => ∃ x, w = .int x) hs (f := fun st => (match (generalizing := false) st with
            | .int x :: st => bif Nat.ble (xm_cats st) 8 then xm_frc (if 0 ≤ x then x else 0 - x) (fun z => ih1 rest lv (.int z :: st) G E kc ks) else false
            | _ => false)) h rfl (fun w st hw e => by cases w <;> first | rfl | (cases hw; done) | exact absurd ⟨_, rfl⟩ e)
          dsimp only at h ⊢
          cases hk : Nat.ble (xm_cats st') 8 with
          | false => rw [hk] at h; cases h
          | true =>
            rw [hk, cond_true, xl_frc] at h
            rw [cond_true, xl_frc]
            replace hz : run full rest lz ((false, if 0 ≤ x.toInt then x.toInt else zw (0 - x.toInt)) :: zst') s = some res := hz
            refine hi rest lv _ G kc ks lz _ s hl hn (zsr_c rfl rfl ?_ ht) hR hz h
            show (if 0 ≤ x then x else 0 - x : Int32).toInt = _
            have e0 : (0 : Int32).toInt = 0 := rfl
            by_cases e : 0 ≤ x.toInt
            · rw [if_pos e, if_pos (Int32.le_iff_toInt_le.mpr (by rw [e0]; exact e))]
            · rw [if_neg e, if_neg (fun q => e (by have := Int32.le_iff_toInt_le.mp q; rw [e0] at this; exact this))]
              exact zw_sub 0 x
        | false =>
          rw [h5, cond_false] at hz
          rw [h5, cond_false] at h
          rw [cond_false]
          cases hb3 : Nat.beq b 3 with
          | true =>
            rw [hb3, cond_true] at h
            rw [cond_true]
            exact zs_callg (by rfl) hc hi hl hn hs hR hz h
          | false =>
            rw [hb3, cond_false] at h
            rw [cond_false]
            exact zs_callg (by rfl) hc hi hl hn hs hR hz h
theorem zs_ireturn  (hQ : ∀ v G', zres ret v res.1 → zR G' res.2 → Q1 v G' E = true → Q2 v G' E = true) (hs : zsr st zst) (hR : zR G s) (hz : zm_body nx cl zrt none full (pc, .ireturn, a, b, ts, v) rest lz zst s = some res) (h : xm_body call full nL mc ms ret Q1 ih1 (pc, .ireturn, a, b, ts, v) rest lv st G E kc ks = true) : xm_body call full nL mc ms ret Q2 ih2 (pc, .ireturn, a, b, ts, v) rest lv st G E kc ks = true := by
  replace h : (match (generalizing := false) st with
    | [w] => bif xm_isI w && (xm_rok ret w && (Nat.ble kc mc && Nat.ble ks ms)) then Q1 (some w) G E else false
    | _ => false) = true := h
  show (match (generalizing := false) st with
    | [w] => bif xm_isI w && (xm_rok ret w && (Nat.ble kc mc && Nat.ble ks ms)) then Q2 (some w) G E else false
    | _ => false) = true
  match st, zst, hs with
  | [], _, _ => cases h
  | _ :: _ :: _, _, _ => cases h
  | [w], [], hs => exact False.elim hs
  | [w], _ :: _ :: _, hs => exact False.elim hs.2
  | [w], [(b, x)], hs =>
    obtain ⟨⟨pw, lw, iw⟩, -⟩ := hs
    dsimp only at lw iw h ⊢
    cases hc : (xm_isI w && (xm_rok ret w && (Nat.ble kc mc && Nat.ble ks ms))) with
    | false => rw [hc] at h; cases h
    | true =>
      rw [hc, cond_true] at h
      rw [cond_true]
      have hz : some (x, s) = some res := hz
      cases hz
      rw [Bool.and_eq_true, Bool.and_eq_true] at hc
      refine hQ (some w) G ?_ hR h
      have hf := hc.2.1
      cases ret with
      | none => cases hf
      | some ty =>
        have hL := zs_fit pw (show xm_fit ty w = true from hf)
        exact ⟨pw, iw, by rw [hL]; cases ty <;> rfl, fun q => by cases q⟩
theorem zs_lreturn  (hQ : ∀ v G', zres ret v res.1 → zR G' res.2 → Q1 v G' E = true → Q2 v G' E = true) (hs : zsr st zst) (hR : zR G s) (hz : zm_body nx cl zrt none full (pc, .lreturn, a, b, ts, v) rest lz zst s = some res) (h : xm_body call full nL mc ms ret Q1 ih1 (pc, .lreturn, a, b, ts, v) rest lv st G E kc ks = true) : xm_body call full nL mc ms ret Q2 ih2 (pc, .lreturn, a, b, ts, v) rest lv st G E kc ks = true := by
  replace h : (match (generalizing := false) st with
    | [w] => bif xm_isL w && (xm_rok ret w && (Nat.ble kc mc && Nat.ble ks ms)) then Q1 (some w) G E else false
    | _ => false) = true := h
  show (match (generalizing := false) st with
    | [w] => bif xm_isL w && (xm_rok ret w && (Nat.ble kc mc && Nat.ble ks ms)) then Q2 (some w) G E else false
    | _ => false) = true
  match st, zst, hs with
  | [], _, _ => cases h
  | _ :: _ :: _, _, _ => cases h
  | [w], [], hs => exact False.elim hs
  | [w], _ :: _ :: _, hs => exact False.elim hs.2
  | [w], [(b, x)], hs =>
    obtain ⟨⟨pw, lw, iw⟩, -⟩ := hs
    dsimp only at lw iw h ⊢
    cases hc : (xm_isL w && (xm_rok ret w && (Nat.ble kc mc && Nat.ble ks ms))) with
    | false => rw [hc] at h; cases h
    | true =>
      rw [hc, cond_true] at h
      rw [cond_true]
      have hz : some (x, s) = some res := hz
      cases hz
      rw [Bool.and_eq_true, Bool.and_eq_true] at hc
      refine hQ (some w) G ?_ hR h
      have hf := hc.2.1
      cases ret with
      | none => cases hf
      | some ty =>
        have hL := zs_fit pw (show xm_fit ty w = true from hf)
        exact ⟨pw, iw, by rw [hL]; cases ty <;> rfl, fun q => by cases q⟩
theorem zs_areturn  (hQ : ∀ v G', zres ret v res.1 → zR G' res.2 → Q1 v G' E = true → Q2 v G' E = true) (hs : zsr st zst) (hR : zR G s) (hz : zm_body nx cl zrt none full (pc, .areturn, a, b, ts, v) rest lz zst s = some res) (h : xm_body call full nL mc ms ret Q1 ih1 (pc, .areturn, a, b, ts, v) rest lv st G E kc ks = true) : xm_body call full nL mc ms ret Q2 ih2 (pc, .areturn, a, b, ts, v) rest lv st G E kc ks = true := by
  replace h : (match (generalizing := false) st with
    | [w] => bif xm_isA w && (xm_rok ret w && (Nat.ble kc mc && Nat.ble ks ms)) then Q1 (some w) G E else false
    | _ => false) = true := h
  show (match (generalizing := false) st with
    | [w] => bif xm_isA w && (xm_rok ret w && (Nat.ble kc mc && Nat.ble ks ms)) then Q2 (some w) G E else false
    | _ => false) = true
  match st, zst, hs with
  | [], _, _ => cases h
  | _ :: _ :: _, _, _ => cases h
  | [w], [], hs => exact False.elim hs
  | [w], _ :: _ :: _, hs => exact False.elim hs.2
  | [w], [(b, x)], hs =>
    obtain ⟨⟨pw, lw, iw⟩, -⟩ := hs
    dsimp only at lw iw h ⊢
    cases hc : (xm_isA w && (xm_rok ret w && (Nat.ble kc mc && Nat.ble ks ms))) with
    | false => rw [hc] at h; cases h
    | true =>
      rw [hc, cond_true] at h
      rw [cond_true]
      have hz : some (x, s) = some res := hz
      cases hz
      rw [Bool.and_eq_true, Bool.and_eq_true] at hc
      refine hQ (some w) G ?_ hR h
      have hf := hc.2.1
      cases ret with
      | none => cases hf
      | some ty =>
        have hL := zs_fit pw (show xm_fit ty w = true from hf)
        exact ⟨pw, iw, by rw [hL]; cases ty <;> rfl, fun q => by cases q⟩
theorem zs_return_  (hQ : ∀ v G', zres ret v res.1 → zR G' res.2 → Q1 v G' E = true → Q2 v G' E = true) (hs : zsr st zst) (hR : zR G s) (hz : zm_body nx cl zrt none full (pc, .return_, a, b, ts, v) rest lz zst s = some res) (h : xm_body call full nL mc ms ret Q1 ih1 (pc, .return_, a, b, ts, v) rest lv st G E kc ks = true) : xm_body call full nL mc ms ret Q2 ih2 (pc, .return_, a, b, ts, v) rest lv st G E kc ks = true := by
  replace h : (match (generalizing := false) st with
    | [] => bif ret.isNone && (Nat.ble kc mc && Nat.ble ks ms) then Q1 none G E else false
    | _ => false) = true := h
  show (match (generalizing := false) st with
    | [] => bif ret.isNone && (Nat.ble kc mc && Nat.ble ks ms) then Q2 none G E else false
    | _ => false) = true
  match st, zst, hs with
  | _ :: _, _, _ => cases h
  | [], _ :: _, hs => exact False.elim hs
  | [], [], _ =>
    dsimp only at h ⊢
    cases hc : (ret.isNone && (Nat.ble kc mc && Nat.ble ks ms)) with
    | false => rw [hc] at h; cases h
    | true =>
      rw [hc, cond_true] at h
      rw [cond_true]
      have hz : some ((0 : Int), s) = some res := hz
      cases hz
      rw [Bool.and_eq_true] at hc
      refine hQ none G ?_ hR h
      cases ret with
      | none => exact ⟨rfl, rfl⟩
      | some ty => cases hc.1
theorem zs_body {run : List xm_E → List xm_E → List Int → List zV → zS → Option (Int × zS)} (hc : zcok run call) (hi : zIH (run full) ih1 ih2 nL E res) (hQ : ∀ v G', zres ret v res.1 → zR G' res.2 → Q1 v G' E = true → Q2 v G' E = true) (hl : zL lv lz) (hn : lz.length = nL) (hs : zsr st zst) (hR : zR G s) (i : Instr) (hz : zm_body (run full) (zm_call run full) zrt none full (pc, i, a, b, ts, v) rest lz zst s = some res) (h : xm_body call full nL mc ms ret Q1 ih1 (pc, i, a, b, ts, v) rest lv st G E kc ks = true) : xm_body call full nL mc ms ret Q2 ih2 (pc, i, a, b, ts, v) rest lv st G E kc ks = true := by
  cases i with
  | iconst => exact zs_iconst hi hl hn hs hR hz h
  | bipush => exact zs_bipush hi hl hn hs hR hz h
  | sipush => exact zs_sipush hi hl hn hs hR hz h
  | lconst => exact zs_lconst hi hl hn hs hR hz h
  | aconst_null => exact zs_aconst_null hi hl hn hs hR hz h
  | ldc => exact zs_ldc hi hl hn hs hR hz h
  | ldc_w => exact zs_ldc_w hi hl hn hs hR hz h
  | ldc2_w => exact zs_ldc2_w hi hl hn hs hR hz h
  | iload => exact zs_iload hi hl hn hs hR hz h
  | iload_n => exact zs_iload_n hi hl hn hs hR hz h
  | lload => exact zs_lload hi hl hn hs hR hz h
  | lload_n => exact zs_lload_n hi hl hn hs hR hz h
  | aload => exact zs_aload hi hl hn hs hR hz h
  | aload_n => exact zs_aload_n hi hl hn hs hR hz h
  | istore => exact zs_istore hi hl hn hs hR hz h
  | istore_n => exact zs_istore_n hi hl hn hs hR hz h
  | lstore => exact zs_lstore hi hl hn hs hR hz h
  | lstore_n => exact zs_lstore_n hi hl hn hs hR hz h
  | astore => exact zs_astore hi hl hn hs hR hz h
  | astore_n => exact zs_astore_n hi hl hn hs hR hz h
  | iinc => exact zs_iinc hi hl hn hs hR hz h
  | iadd => exact zs_iadd hi hl hn hs hR hz h
  | isub => exact zs_isub hi hl hn hs hR hz h
  | imul => exact zs_imul hi hl hn hs hR hz h
  | iand => exact zs_iand hi hl hn hs hR hz h
  | ior => exact zs_ior hi hl hn hs hR hz h
  | ixor => exact zs_ixor hi hl hn hs hR hz h
  | ishl => exact zs_ishl hi hl hn hs hR hz h
  | ishr => exact zs_ishr hi hl hn hs hR hz h
  | iushr => exact zs_iushr hi hl hn hs hR hz h
  | idiv => exact zs_idiv hi hl hn hs hR hz h
  | irem => exact zs_irem hi hl hn hs hR hz h
  | ineg => exact zs_ineg hi hl hn hs hR hz h
  | i2b => exact zs_i2b hi hl hn hs hR hz h
  | i2l => exact zs_i2l hi hl hn hs hR hz h
  | l2i => exact zs_l2i hi hl hn hs hR hz h
  | ladd => exact zs_ladd hi hl hn hs hR hz h
  | lsub => exact zs_lsub hi hl hn hs hR hz h
  | lmul => exact zs_lmul hi hl hn hs hR hz h
  | land => exact zs_land hi hl hn hs hR hz h
  | lor => exact zs_lor hi hl hn hs hR hz h
  | ldiv => exact zs_ldiv hi hl hn hs hR hz h
  | lrem => exact zs_lrem hi hl hn hs hR hz h
  | lshl => exact zs_lshl hi hl hn hs hR hz h
  | lshr => exact zs_lshr hi hl hn hs hR hz h
  | lcmp => exact zs_lcmp hi hl hn hs hR hz h
  | dup => exact zs_dup hi hl hn hs hR hz h
  | pop => exact zs_pop hi hl hn hs hR hz h
  | dup2 => exact zs_dup2 hi hl hn hs hR hz h
  | goto => exact zs_goto hi hl hn hs hR hz h
  | ifCond => exact zs_ifCond hi hl hn hs hR hz h
  | if_icmp => exact zs_if_icmp hi hl hn hs hR hz h
  | ifnull => exact zs_ifnull hi hl hn hs hR hz h
  | ifnonnull => exact zs_ifnonnull hi hl hn hs hR hz h
  | tableswitch => exact zs_tableswitch hi hl hn hs hR hz h
  | lookupswitch => exact zs_lookupswitch hi hl hn hs hR hz h
  | iaload => exact zs_iaload hi hl hn hs hR hz h
  | baload => exact zs_baload hi hl hn hs hR hz h
  | laload => exact zs_laload hi hl hn hs hR hz h
  | aaload => exact zs_aaload hi hl hn hs hR hz h
  | iastore => exact zs_iastore hi hl hn hs hR hz h
  | lastore => exact zs_lastore hi hl hn hs hR hz h
  | bastore => exact zs_bastore hi hl hn hs hR hz h
  | arraylength => exact zs_arraylength hi hl hn hs hR hz h
  | getfield => exact zs_getfield hi hl hn hs hR hz h
  | putfield => exact zs_putfield hi hl hn hs hR hz h
  | invokevirtual => exact zs_invokevirtual hc hi hl hn hs hR hz h
  | invokespecial => exact zs_invokespecial hc hi hl hn hs hR hz h
  | invokestatic => exact zs_invokestatic hc hi hl hn hs hR hz h
  | ireturn => exact zs_ireturn hQ hs hR hz h
  | lreturn => exact zs_lreturn hQ hs hR hz h
  | areturn => exact zs_areturn hQ hs hR hz h
  | return_ => exact zs_return_ hQ hs hR hz h
  | _ => exact absurd (show (none : Option (Int × zS)) = some res from hz) (fun q => by cases q)
end ZT
theorem zs_run {call : xm_C} (hc : ∀ F, zcok (zm_run F) call) {full : List xm_E} {nL mc ms : Nat} {ret : Option FieldType} {Q1 Q2 : xm_Q} {E : xm_R} {res : Int × zS} (hQ : ∀ v G', zres ret v res.1 → zR G' res.2 → Q1 v G' E = true → Q2 v G' E = true) : ∀ (N F : Nat), zIH (zm_run F full) (xm_run call full nL mc ms ret Q1 N) (xm_run call full nL mc ms ret Q2 N) nL E res
  | 0, F => fun suf lv st G kc ks lz zst s hl hn hs hR hz h => by
    have h : false = true := h
    cases h
  | N + 1, 0 => fun suf lv st G kc ks lz zst s hl hn hs hR hz h => by
    have hz : (none : Option (Int × zS)) = some res := hz
    cases hz
  | N + 1, F + 1 => fun suf lv st G kc ks lz zst s hl hn hs hR hz h => by
    match suf, hz, h with
    | [], hz, h =>
      have h : false = true := h
      cases h
    | (pc, i, a, b, ts, v) :: rest, hz, h => exact zs_body (hc F) (zs_run hc hQ N F) hQ hl hn hs hR i hz h
theorem zs_exec : ∀ (d F : Nat), zcok (zm_run F) (xm_exec d)
  | 0, F => fun m r1 y r3 nL ret n mc ms c hm As zs G E Q1 Q2 s s' r ha hR hz hQ h => by
    have h : false = true := h
    cases h
  | d + 1, F => fun m r1 y r3 nL ret n mc ms c hm As zs G E Q1 Q2 s s' r ha hR hz hQ h => by
    replace h : (match (generalizing := false) xm_nth xm_mtab m with
      | some (_, _, _, nL, ret, _, mc, ms, c) => bif xm_nx c 0 && Nat.ble (xm_cats As) nL then xm_run (xm_exec d) c nL mc ms ret Q1 xm_fuel c (lv_args 0 As) [] G E 0 0 else false
      | none => false) = true := h
    show (match (generalizing := false) xm_nth xm_mtab m with
      | some (_, _, _, nL, ret, _, mc, ms, c) => bif xm_nx c 0 && Nat.ble (xm_cats As) nL then xm_run (xm_exec d) c nL mc ms ret Q2 xm_fuel c (lv_args 0 As) [] G E 0 0 else false
      | none => false) = true
    rw [hm] at h ⊢
    dsimp only at h ⊢
    cases hc : (xm_nx c 0 && Nat.ble (xm_cats As) nL) with
    | false => rw [hc] at h; cases h
    | true =>
      rw [hc, cond_true] at h
      rw [cond_true]
      rw [Bool.and_eq_true] at hc
      have hle := Nat.le_of_ble_eq_true hc.2
      refine zs_run (fun F => zs_exec d F) hQ xm_fuel F c (lv_args 0 As) [] G 0 0 (zpad nL (zslots zs)) [] s (fun q hq => ?_) zl_padl trivial hR hz h
      obtain ⟨b1, b2, b3, b4⟩ := zl_args As zs 0 ha q hq
      exact ⟨b3, by rw [zl_pad (by omega)]; exact b4⟩
