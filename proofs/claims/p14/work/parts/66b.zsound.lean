/-! soundness of the flat machine: stacks, locals, heaps -/
def zsr : List Value → List zV → Prop
  | [], [] => True
  | v :: vs, x :: xs => (zp v = true ∧ xm_isL v = x.1 ∧ zi v = x.2) ∧ zsr vs xs
  | _, _ => False
theorem zsr_c {v : Value} {vs : List Value} {b : Bool} {x : Int} {xs : List zV} (h : zp v = true) (h1 : xm_isL v = b) (h2 : zi v = x) (ht : zsr vs xs) : zsr (v :: vs) ((b, x) :: xs) := And.intro (And.intro h (And.intro h1 h2)) ht
def zL (lv : xm_L) (lz : List Int) : Prop := ∀ q ∈ lv, zp q.2 = true ∧ zget lz q.1 = zi q.2
def zR (G : xm_H) (s : zS) : Prop := ∀ (j t : Nat) (vs : List Value), xm_hget G j = some (t, vs) → (t ≠ 300 ∧ (t = 301 → j = 0) ∧ (200 ≤ t → t < 206 → j + 199 = t) ∧ (100 ≤ t → t < 108 → ((vs.length : Nat) : Int) = zlen j)) ∧ ∀ (i : Nat) (v : Value), vs[i]? = some v → zp v = true ∧ xm_isL v = zlg t i ∧ zi v = (match zcon t j i with
  | some c => c
  | none => s j i)
def zrL (ret : Option FieldType) : Bool := match ret with
  | some .long => true
  | _ => false
def zres (ret : Option FieldType) (v : Option Value) (r : Int) : Prop := match v with
  | some v => zp v = true ∧ zi v = r ∧ xm_isL v = zrL ret ∧ ret ≠ none
  | none => ret = none ∧ r = 0
abbrev zN : Type := List xm_E → List Int → List zV → zS → Option (Int × zS)
def zIH (nx : zN) (ih1 ih2 : List xm_E → xm_K) (nL : Nat) (E : xm_R) (res : Int × zS) : Prop := ∀ (suf : List xm_E) (lv : xm_L) (st : List Value) (G : xm_H) (kc ks : Nat) (lz : List Int) (zst : List zV) (s : zS), zL lv lz → lz.length = nL → zsr st zst → zR G s → nx suf lz zst s = some res → ih1 suf lv st G E kc ks = true → ih2 suf lv st G E kc ks = true
theorem zp_I {v : Value} (h : zp v = true) (h' : xm_isI v = true) : ∃ x, v = .int x := by
  cases v with
  | int x => exact ⟨x, rfl⟩
  | _ => first | (cases h; done) | (cases h'; done)
theorem zp_L {v : Value} (h : zp v = true) (h' : xm_isL v = true) : ∃ x, v = .long x := by
  cases v with
  | long x => exact ⟨x, rfl⟩
  | _ => first | (cases h; done) | (cases h'; done)
theorem zl_get {lv : xm_L} {lz : List Int} (hl : zL lv lz) {i : Nat} {w : Value} (h : xm_get lv i = some w) : zp w = true ∧ zget lz i = zi w := hl _ (xl_get lv i w h)
theorem zl_len : ∀ {l : List Int} {i : Nat} {x : Int}, (zset l i x).length = l.length
  | [], _, _ => rfl
  | _ :: _, 0, _ => rfl
  | a :: l, i + 1, x => by
    show (zset l i x).length + 1 = l.length + 1
    rw [zl_len]
theorem zl_set : ∀ {l : List Int} {i : Nat} {x : Int}, i < l.length → zget (zset l i x) i = x
  | [], i, _, h => absurd h (Nat.not_lt_zero i)
  | _ :: _, 0, _, _ => rfl
  | a :: l, i + 1, x, h => zl_set (l := l) (Nat.lt_of_succ_lt_succ h)
theorem zl_setn : ∀ {l : List Int} {i k : Nat} {x : Int}, k ≠ i → zget (zset l i x) k = zget l k
  | [], _, _, _, _ => rfl
  | _ :: _, 0, 0, _, h => absurd rfl h
  | _ :: _, 0, k + 1, _, _ => rfl
  | _ :: _, i + 1, 0, _, _ => rfl
  | a :: l, i + 1, k + 1, x, h => zl_setn (l := l) (fun e => h (by rw [e]))
theorem zl_set1 {lv : xm_L} {lz : List Int} (hl : zL lv lz) {i : Nat} {v : Value} (hi : i < lz.length) (hv : zp v = true) : zL (xm_set1 lv i v) (zset lz i (zi v)) := by
  intro q hq
  unfold xm_set1 at hq
  rcases List.mem_cons.mp hq with rfl | hq
  · exact ⟨hv, zl_set hi⟩
  · obtain ⟨h1, h2⟩ := List.mem_filter.mp hq
    have hne : q.1 ≠ i := by
      intro e
      rw [Bool.and_eq_true] at h2
      have := h2.1
      rw [e] at this
      simp at this
    exact ⟨(hl q h1).1, by rw [zl_setn hne]; exact (hl q h1).2⟩
theorem zl_set2 {lv : xm_L} {lz : List Int} (hl : zL lv lz) {i : Nat} {v : Value} (hi : i < lz.length) (hv : zp v = true) : zL (xm_set2 lv i v) (zset lz i (zi v)) := by
  intro q hq
  unfold xm_set2 at hq
  rcases List.mem_cons.mp hq with rfl | hq
  · exact ⟨hv, zl_set hi⟩
  · obtain ⟨h1, h2⟩ := List.mem_filter.mp hq
    have hne : q.1 ≠ i := by
      intro e
      rw [Bool.and_eq_true] at h2
      have := h2.1
      rw [e] at this
      simp at this
    exact ⟨(hl q h1).1, by rw [zl_setn hne]; exact (hl q h1).2⟩
/-- a place is written -/
theorem zR.put {G : xm_H} {s : zS} (hR : zR G s) {j t i : Nat} {vs : List Value} {w : Value} {x : Int} (hg : xm_hget G j = some (t, vs)) (hw : zp w = true) (hL : xm_isL w = zlg t i) (hx : zi w = x) (hc : zcon t j i = none) : zR (xm_hput G j (t, xm_put w vs i)) (zu s j i x) := by
  intro j' t' vs' hj
  rw [xl_hput] at hj
  by_cases e : j' = j
  · subst e
    rw [if_pos rfl] at hj
    cases hj
    obtain ⟨⟨a1, a2, a3, a4⟩, b⟩ := hR j' t vs hg
    rw [xl_put]
    refine ⟨⟨a1, a2, a3, fun h1 h2 => by rw [List.length_set]; exact a4 h1 h2⟩, fun i' v' hv' => ?_⟩
    rw [List.getElem?_set] at hv'
    by_cases ei : i = i'
    · subst ei
      rw [if_pos rfl] at hv'
      split at hv'
      · cases hv'
        refine ⟨hw, hL, ?_⟩
        rw [hc]
        show zi w = zu s j' i x j' i
        unfold zu
        rw [if_pos ⟨rfl, rfl⟩]
        exact hx
      · cases hv'
    · rw [if_neg ei] at hv'
      obtain ⟨b1, b2, b3⟩ := b i' v' hv'
      refine ⟨b1, b2, ?_⟩
      rw [b3]
      cases zcon t j' i' with
      | some c => rfl
      | none =>
        show s j' i' = zu s j' i x j' i'
        unfold zu
        rw [if_neg (fun q => ei (by have := q.2; omega))]
  · rw [if_neg e] at hj
    obtain ⟨a, b⟩ := hR j' t' vs' hj
    refine ⟨a, fun i' v' hv' => ?_⟩
    obtain ⟨b1, b2, b3⟩ := b i' v' hv'
    refine ⟨b1, b2, ?_⟩
    rw [b3]
    cases zcon t' j' i' with
    | some c => rfl
    | none =>
      show s j' i' = zu s j i x j' i'
      unfold zu
      rw [if_neg (fun q => e (by have := q.1; omega))]
theorem zw_add (x y : Int32) : (x + y).toInt = zw (x.toInt + y.toInt) := Int32.toInt_add x y
theorem zw_sub (x y : Int32) : (x - y).toInt = zw (x.toInt - y.toInt) := Int32.toInt_sub x y
theorem zw_mul (x y : Int32) : (x * y).toInt = zw (x.toInt * y.toInt) := Int32.toInt_mul x y
theorem zw_neg (x : Int32) : (-x).toInt = zw (-x.toInt) := Int32.toInt_neg x
theorem zq_add (x y : Int64) : (x + y).toInt = zq (x.toInt + y.toInt) := Int64.toInt_add x y
theorem zq_sub (x y : Int64) : (x - y).toInt = zq (x.toInt - y.toInt) := Int64.toInt_sub x y
theorem zq_mul (x y : Int64) : (x * y).toInt = zq (x.toInt * y.toInt) := Int64.toInt_mul x y
/-! what must stand on the stack -/
theorem zs_1 {P : Value → Prop} {st : List Value} {zst : List zV} (hs : zsr st zst) {f : List Value → Bool} (h : f st = true) (h0 : f [] = false) (h2 : ∀ w st, zp w = true → ¬ P w → f (w :: st) = false) : ∃ (w : Value) (st' : List Value) (zst' : List zV), st = w :: st' ∧ zst = (xm_isL w, zi w) :: zst' ∧ zp w = true ∧ P w ∧ zsr st' zst' := by
  match st, zst, hs with
  | [], _, _ => rw [h0] at h; cases h
  | w :: st', [], hs => exact False.elim hs
  | w :: st', (b, x) :: zst', hs =>
    obtain ⟨⟨pw, lw, iw⟩, ht⟩ := hs
    dsimp only at lw iw
    by_cases e : P w
    · exact ⟨w, st', zst', rfl, by rw [lw, iw], pw, e, ht⟩
    · rw [h2 w st' pw e] at h
      cases h
theorem zs_2 {P : Value → Value → Prop} {st : List Value} {zst : List zV} (hs : zsr st zst) {f : List Value → Bool} (h : f st = true) (h0 : f [] = false) (h1 : ∀ w, f [w] = false) (h2 : ∀ w u st, zp w = true → zp u = true → ¬ P w u → f (w :: u :: st) = false) : ∃ (w u : Value) (st' : List Value) (zst' : List zV), st = w :: u :: st' ∧ zst = (xm_isL w, zi w) :: (xm_isL u, zi u) :: zst' ∧ zp w = true ∧ zp u = true ∧ P w u ∧ zsr st' zst' := by
  match st, zst, hs with
  | [], _, _ => rw [h0] at h; cases h
  | [w], _, _ => rw [h1] at h; cases h
  | w :: u :: st', [], hs => exact False.elim hs
  | w :: u :: st', [_], hs => exact False.elim hs.2
  | w :: u :: st', (b1, y1) :: (b2, x1) :: zst', hs =>
    obtain ⟨⟨pw, lw, iw⟩, ⟨pu, lu, iu⟩, ht⟩ := hs
    dsimp only at lw iw lu iu
    by_cases e : P w u
    · exact ⟨w, u, st', zst', rfl, by rw [lw, iw, lu, iu], pw, pu, e, ht⟩
    · rw [h2 w u st' pw pu e] at h
      cases h
theorem zs_3 {P : Value → Value → Value → Prop} {st : List Value} {zst : List zV} (hs : zsr st zst) {f : List Value → Bool} (h : f st = true) (h0 : f [] = false) (h1 : ∀ w, f [w] = false) (h11 : ∀ w u, f [w, u] = false) (h2 : ∀ w u t st, zp w = true → zp u = true → zp t = true → ¬ P w u t → f (w :: u :: t :: st) = false) : ∃ (w u t : Value) (st' : List Value) (zst' : List zV), st = w :: u :: t :: st' ∧ zst = (xm_isL w, zi w) :: (xm_isL u, zi u) :: (xm_isL t, zi t) :: zst' ∧ zp w = true ∧ zp u = true ∧ zp t = true ∧ P w u t ∧ zsr st' zst' := by
  match st, zst, hs with
  | [], _, _ => rw [h0] at h; cases h
  | [w], _, _ => rw [h1] at h; cases h
  | [w, u], _, _ => rw [h11] at h; cases h
  | w :: u :: t :: st', [], hs => exact False.elim hs
  | w :: u :: t :: st', [_], hs => exact False.elim hs.2
  | w :: u :: t :: st', [_, _], hs => exact False.elim hs.2.2
  | w :: u :: t :: st', (b1, y1) :: (b2, x1) :: (b3, z1) :: zst', hs =>
    obtain ⟨⟨pw, lw, iw⟩, ⟨pu, lu, iu⟩, ⟨pt, lt, it⟩, ht⟩ := hs
    dsimp only at lw iw lu iu lt it
    by_cases e : P w u t
    · exact ⟨w, u, t, st', zst', rfl, by rw [lw, iw, lu, iu, lt, it], pw, pu, pt, e, ht⟩
    · rw [h2 w u t st' pw pu pt e] at h
      cases h
abbrev zPI (w u : Value) : Prop := ∃ y x, w = .int y ∧ u = .int x
abbrev zPL (w u : Value) : Prop := ∃ y x, w = .long y ∧ u = .long x
abbrev zPA (w u : Value) : Prop := ∃ x j, w = .int x ∧ u = .ref j
