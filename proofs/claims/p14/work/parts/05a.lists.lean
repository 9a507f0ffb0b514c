/-! the machine's lists are lists -/
theorem xl_nth {α : Type} : ∀ (l : List α) (n : Nat), xm_nth l n = l[n]?
  | [], n => by simp [xm_nth]
  | a :: l, 0 => rfl
  | a :: l, n + 1 => by
    show xm_nth l n = _
    rw [xl_nth l n]
    simp
theorem xl_put {α : Type} (x : α) : ∀ (l : List α) (n : Nat), xm_put x l n = l.set n x
  | [], n => by simp [xm_put]
  | a :: l, 0 => rfl
  | a :: l, n + 1 => by
    show a :: xm_put x l n = _
    rw [xl_put x l n]
    simp
theorem xl_len {α : Type} : ∀ (l : List α), xm_len l = l.length
  | [] => rfl
  | a :: l => by
    show Nat.succ (xm_len l) = _
    rw [xl_len l]
    simp
theorem xl_rep {α : Type} (x : α) : ∀ (n : Nat), xm_rep x n = List.replicate n x
  | 0 => rfl
  | n + 1 => by
    show x :: xm_rep x n = _
    rw [xl_rep x n]
    rfl
theorem xl_drop {α : Type} : ∀ (n : Nat) (l : List α), xm_drop n l = l.drop n
  | 0, l => rfl
  | n + 1, [] => by simp [xm_drop]
  | n + 1, a :: l => by
    show xm_drop n l = _
    rw [xl_drop n l]
    rfl
theorem xl_ext {α : Type} (d x : α) : ∀ (n i : Nat), xm_nth (xm_ext d x n) i = if i = n then some x else if i < n then some d else none
  | 0, 0 => rfl
  | 0, i + 1 => by
    show (none : Option α) = _
    simp
  | n + 1, 0 => by
    show some d = _
    simp
  | n + 1, i + 1 => by
    show xm_nth (xm_ext d x n) i = _
    rw [xl_ext d x n i]
    simp
theorem xl_putx {α : Type} (d x : α) : ∀ (l : List α) (n i : Nat), (i = n → xm_nth (xm_putx d x l n) i = some x) ∧ (i ≠ n → xm_nth (xm_putx d x l n) i = xm_nth l i ∨ (xm_nth (xm_putx d x l n) i = some d ∧ xm_nth l i = none))
  | [], n, i => by
    have h : xm_nth (xm_putx d x [] n) i = if i = n then some x else if i < n then some d else none := xl_ext d x n i
    refine ⟨fun e => by rw [h, if_pos e], fun e => ?_⟩
    rw [h, if_neg e]
    by_cases hi : i < n
    · rw [if_pos hi]
      exact Or.inr ⟨rfl, rfl⟩
    · rw [if_neg hi]
      exact Or.inl rfl
  | a :: l, 0, 0 => ⟨fun _ => rfl, fun e => absurd rfl e⟩
  | a :: l, 0, i + 1 => ⟨fun e => by omega, fun _ => Or.inl rfl⟩
  | a :: l, n + 1, 0 => ⟨fun e => by omega, fun _ => Or.inl rfl⟩
  | a :: l, n + 1, i + 1 => by
    have h := xl_putx d x l n i
    exact ⟨fun e => h.1 (by omega), fun e => h.2 (by omega)⟩
theorem xl_ck (G : xm_G) (j : Nat) (o : xm_O) (i : Nat) : xm_ck (xm_gput G j o) (i / 16) = if i / 16 = j / 16 then xm_putx none (some o) (xm_ck G (j / 16)) (j % 16) else xm_ck G (i / 16) := by
  have h := xl_putx [] (xm_putx none (some o) (xm_ck G (Nat.div j 16)) (Nat.mod j 16)) G (Nat.div j 16) (i / 16)
  by_cases e : i / 16 = j / 16
  · rw [if_pos e]
    have h1 := h.1 e
    unfold xm_ck xm_gput
    rw [h1]
    rfl
  · rw [if_neg e]
    rcases h.2 e with h1 | ⟨h1, h2⟩
    · unfold xm_ck xm_gput
      rw [h1]
    · unfold xm_ck xm_gput
      rw [h1, h2]
theorem xl_gput (n m : Nat) (G : xm_G) (j : Nat) (o : xm_O) (i : Nat) : xm_hget (n, xm_gput G j o) i = if i = j then some o else xm_hget (m, G) i := by
  show xm_jn (xm_nth (xm_ck (xm_gput G j o) (i / 16)) (i % 16)) = _
  rw [xl_ck]
  by_cases e : i / 16 = j / 16
  · rw [if_pos e]
    have h := xl_putx none (some o) (xm_ck G (j / 16)) (j % 16) (i % 16)
    by_cases e2 : i % 16 = j % 16
    · have e3 : i = j := by omega
      rw [if_pos e3, h.1 e2]
      rfl
    · have e3 : ¬ i = j := fun q => e2 (by rw [q])
      rw [if_neg e3]
      show _ = xm_jn (xm_nth (xm_ck G (i / 16)) (i % 16))
      rw [e]
      rcases h.2 e2 with h1 | ⟨h1, h2⟩
      · rw [h1]
      · rw [h1, h2]
        rfl
  · rw [if_neg e, if_neg (fun q => e (by rw [q]))]
    rfl
theorem xl_hput (G : xm_H) (j : Nat) (o : xm_O) (i : Nat) : xm_hget (xm_hput G j o) i = if i = j then some o else xm_hget G i := xl_gput G.1 G.1 G.2 j o i
theorem xl_push (G : xm_H) (o : xm_O) (i : Nat) : xm_hget (xm_push G o) i = if i = G.1 then some o else xm_hget G i := xl_gput _ G.1 G.2 G.1 o i
theorem xl_get : ∀ (l : xm_L) (i : Nat) (w : Value), xm_get l i = some w → (i, w) ∈ l
  | [], i, w, h => by simp [xm_get] at h
  | q :: l, i, w, h => by
    have h1 : cond (Nat.beq q.1 i) (some q.2) (xm_get l i) = some w := h
    cases hb : Nat.beq q.1 i with
    | true =>
      rw [hb] at h1
      have e := Nat.eq_of_beq_eq_true hb
      cases h1
      subst e
      exact List.mem_cons_self
    | false =>
      rw [hb] at h1
      exact List.mem_cons_of_mem _ (xl_get l i w h1)
theorem xl_frc (x : Int32) (k : Int32 → Bool) : xm_frc x k = k x := by
  have h : ∀ n : Nat, x.toBitVec.toNat = n → Int32.ofNat n = x := by
    intro n hn
    subst hn
    apply Int32.toBitVec_inj.mp
    simp
  unfold xm_frc
  cases hn : x.toBitVec.toNat with
  | zero =>
    show k (Int32.ofNat 0) = k x
    rw [h 0 hn]
  | succ n =>
    show k (Int32.ofNat (n + 1)) = k x
    rw [h (n + 1) hn]
theorem xl_all {lo : Int} {k : Int → Bool} : ∀ {n : Nat}, xm_all lo n k = true → ∀ c : Int, lo ≤ c → c < lo + n → k c = true
  | 0, _, c, h1, h2 => by omega
  | n + 1, h, c, h1, h2 => by
    have h3 : (k (lo + Int.ofNat n) && xm_all lo n k) = true := h
    rw [Bool.and_eq_true] at h3
    by_cases e : c = lo + n
    · subst e
      exact h3.1
    · exact xl_all h3.2 c h1 (by omega)
