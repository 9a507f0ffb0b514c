/-! the heap as the picture has it -/
def xs_tys (Z : xs_Z) : List (ClassId × FieldType) := [(Z.2.1 0, .int), (Z.2.1 1, .byte), (Z.2.1 2, .long), (Z.2.1 3, .boolean), (Z.2.1 4, .object "StairNews$Rule"), (Z.2.1 5, .object "StairNews$Folk"), (Z.2.1 6, .object "StairNews$Lore"), (Z.2.1 7, .object "StairNews$Scene")]
def xs_at (Z : xs_Z) (j : Nat) (o : xm_O) (H : Heap) : Prop :=
  (∃ r, xm_cls[o.1]? = some r ∧ o.2.length = r.2.2 ∧ t_OB (xs_rho Z j) (Z.1.1 o.1) r.2.2 (Z.1.2 o.1) H (fun k => xs_cv Z (o.2.getD k .null))) ∨
  (100 ≤ o.1 ∧ o.1 < 108 ∧ H[xs_rho Z j]? = some (arrV (Z.2.1 (o.1 - 100)) o.2.length (fun k => xs_cv Z (o.2.getD k .null)))) ∨
  (o.1 = 302 ∧ j = 0 ∧ H[xs_rho Z j]? = some Z.2.2.2.2.2.1) ∨ (200 ≤ o.1 ∧ o.1 < 206 ∧ j + 199 = o.1 ∧ ∀ q : Nat, q < xs_b Z → H[q]? = Z.2.2.2.2.2.2[q]?) ∨ (o.1 = 301 ∧ j = 0 ∧ H[xs_rho Z j]? = some Z.2.2.2.2.2.1 ∧ o.2.length = Z.2.2.2.2.2.1.slots.size ∧ ∀ k : Nat, k < o.2.length → ∃ z : Int32, o.2[k]? = some (.int z) ∧ Z.2.2.2.2.2.1.slots[k]? = some (.int z))
def xs_HW (Z : xs_Z) (G : xm_H) (H : Heap) : Prop := 7 ≤ G.1 ∧ H.size = xs_b Z + (G.1 - 7) ∧ ∀ (j : Nat) (o : xm_O), xm_hget G j = some o → j < G.1 ∧ xs_at Z j o H
def xs_KW (Z : xs_Z) (s : State) : Prop :=
  va_K Z.1 xm_cls (xs_tys Z) s ∧ (∀ w ∈ xm_nest, va_Nw w s) ∧ (∀ (i : Nat) (q : String × Nat × String), xm_str[i]? = some q → vk_R q.1 q.2.1 q.2.2 (Z.2.2.2.1 (i + 1)) s) ∧
  (s.isArrayOf Z.2.2.2.2.2.1 .int ∧ Z.2.2.2.2.2.1.vm ≠ .unknown ∧ Z.2.2.2.2.2.1.slots.size < 2 ^ 31 ∧ xn_SK (Z.2.2.2.1) (xs_b Z) Z.2.2.2.2.2.2 s) ∧ (∀ j : Nat, j < 7 → Z.2.2.2.1 j < xs_b Z) ∧ ∀ C ∈ ["StairNews$Rule", "StairNews$Folk", "StairNews$Lore", "StairNews$Scene"], va_AO C s
theorem xs_nest {w : Jvm.Cond} (h : w ∈ xm_nest) : ∃ a i x h, w = .methodLinkNest a i x h := by
  simp only [xm_nest, List.mem_cons, List.not_mem_nil, or_false] at h
  rcases h with h | h | h | h | h | h | h | h | h | h | h | h <;> exact ⟨_, _, _, _, h⟩
theorem xs_KW.warm {Z : xs_Z} {s U : State} (hW : s.WarmedH U.vm) (h : xs_KW Z s) : xs_KW Z U := by
  obtain ⟨h1, h2, h3, h4, h5, h6⟩ := h
  refine ⟨va_K.moved hW.alike h1, fun w hw => ?_, fun i q hq => vk_R.warm hW (h3 i q hq), ⟨State.isArrayOf_alike hW.alike h4.1, h4.2.1, h4.2.2.1, xn_SK.moved hW.alike h4.2.2.2⟩, h5, fun C hC => va_AO.moved hW.alike (h6 C hC)⟩
  obtain ⟨a, i, x, hh, rfl⟩ := xs_nest hw
  exact va_Nw.warmM hW (h2 _ hw)
theorem xs_KW.same {Z : xs_Z} {s U : State} (hv : U.vm = s.vm) (h : xs_KW Z s) : xs_KW Z U := by
  obtain ⟨h1, h2, h3, h4, h5, h6⟩ := h
  have ha : s.vm.Alike U.vm := by rw [hv]; exact Vm.Alike.refl _
  refine ⟨va_K.moved ha h1, fun w hw => ?_, fun i q hq => vk_R.same hv (h3 i q hq), ⟨State.isArrayOf_alike ha h4.1, h4.2.1, h4.2.2.1, xn_SK.moved ha h4.2.2.2⟩, h5, fun C hC => va_AO.moved ha (h6 C hC)⟩
  obtain ⟨a, i, x, hh, rfl⟩ := xs_nest hw
  exact va_Nw.same rfl hv.symm (h2 _ hw)
def xs_Cx (p : Program) (s : State) (m : MethodId) (args : Array Value) (c : Code) (cc : ByteArray) (nL o : Nat) (Z : xs_Z) : Prop :=
  p.tables.exec = Jvm.exec ∧ c.code = cc ∧ c.maxLocals = nL ∧ s.vm.findClass (xm_own o) = some m.cls ∧ (∀ w ∈ xm_tb, w.before args s = true) ∧ xs_KW Z s ∧ o < 17
def xs_St (Z : xs_Z) (nL : Nat) (lv : xm_L) (G : xm_H) (E : xm_R) (H : Heap) (locs : List Loc) (ls : Array Slot) : Prop :=
  xs_sat Z E ∧ xs_HW Z G H ∧ lv_has ls nL (lv.map (xs_cvp Z)) ∧ ∀ q ∈ locs, xs_b Z ≤ q.base
def xs_good (p : Program) (l : Launch) (e : Env) (R : Room) (s : State) (m : MethodId) (args : Array Value) (below : List Frame) (meth : Method) (c : Code) (Qf : State → Prop) (nL : Nat) (Z : xs_Z) (k : xm_K) (pc : Nat) : Prop :=
  ∀ (lv : xm_L) (st : List Value) (G : xm_H) (E : xm_R) (kc ks : Nat), k lv st G E kc ks = true → ∀ (H : Heap) (locs : List Loc) (ls : Array Slot), xs_St Z nL lv G E H locs ls → W p l e R s m args below meth c H locs kc ks Qf (F0 m pc ls (st.map (xs_cv Z)))
section REL
variable {Z : xs_Z} {G : xm_H} {H : Heap}
theorem xs_inj (hK : ∀ j : Nat, j < 7 → Z.2.2.2.1 j < xs_b Z) {i j : Nat} (hj : 7 ≤ j) (hij : i ≠ j) : xs_rho Z i ≠ xs_rho Z j := by
  unfold xs_rho
  rw [if_neg (show ¬ j < 7 by omega)]
  by_cases h : i < 7
  · rw [if_pos h]
    have := hK i h
    omega
  · rw [if_neg h]
    omega
theorem xs_lo {j : Nat} (hj : 7 ≤ j) : xs_b Z ≤ xs_rho Z j := by
  unfold xs_rho
  rw [if_neg (show ¬ j < 7 by omega)]
  omega
theorem xs_rho_new (h : xs_HW Z G H) : xs_rho Z G.1 = H.size := by
  unfold xs_rho
  rw [if_neg (show ¬ G.1 < 7 by have := h.1; omega), h.2.1]
theorem xs_at.kept {j : Nat} {o : xm_O} {H1 : Heap} (h : xs_at Z j o H) (hq : H1[xs_rho Z j]? = H[xs_rho Z j]?) (hw : ∀ q : Nat, q < xs_b Z → H1[q]? = H[q]?) : xs_at Z j o H1 := by
  rcases h with ⟨r, h1, h2, h3⟩ | ⟨h1, h2, h3⟩ | ⟨h1, h2, h3⟩ | h | ⟨h1, h2, h3, h4⟩
  · exact Or.inl ⟨r, h1, h2, h3.kept hq⟩
  · exact Or.inr (Or.inl ⟨h1, h2, hq.trans h3⟩)
  · exact Or.inr (Or.inr (Or.inl ⟨h1, h2, hq.trans h3⟩))
  · exact Or.inr (Or.inr (Or.inr (Or.inl ⟨h.1, h.2.1, h.2.2.1, fun q hq => (hw q hq).trans (h.2.2.2 q hq)⟩)))
  · exact Or.inr (Or.inr (Or.inr (Or.inr ⟨h1, h2, hq.trans h3, h4⟩)))
/-- a cell of the picture is written -/
theorem xs_HW.put {j : Nat} {o : xm_O} {H1 : Heap} (hK : ∀ j : Nat, j < 7 → Z.2.2.2.1 j < xs_b Z) (h : xs_HW Z G H) (hj : 7 ≤ j) (hlt : j < G.1) (hz : H1.size = H.size) (oq : ∀ q : Nat, q ≠ xs_rho Z j → H1[q]? = H[q]?) (ho : xs_at Z j o H1) : xs_HW Z (xm_hput G j o) H1 := by
  refine ⟨h.1, by rw [hz]; exact h.2.1, fun i oi hi => ?_⟩
  rw [xl_hput] at hi
  by_cases e : i = j
  · subst e
    rw [if_pos rfl] at hi
    cases hi
    exact ⟨hlt, ho⟩
  · rw [if_neg e] at hi
    obtain ⟨h1, h2⟩ := h.2.2 i oi hi
    exact ⟨h1, h2.kept (oq _ (xs_inj hK hj e)) (fun q hq => oq q (fun z => by have := xs_lo (Z := Z) hj; omega))⟩
theorem xs_rho_lt (hK : ∀ j : Nat, j < 7 → Z.2.2.2.1 j < xs_b Z) (h : xs_HW Z G H) {j : Nat} (hj : j < G.1) : xs_rho Z j < H.size := by
  rw [h.2.1]
  have := h.1
  unfold xs_rho
  by_cases e : j < 7
  · rw [if_pos e]
    have := hK j e
    omega
  · rw [if_neg e]
    omega
/-- a cell comes -/
theorem xs_HW.push {o : xm_O} {H1 : Heap} (hK : ∀ j : Nat, j < 7 → Z.2.2.2.1 j < xs_b Z) (h : xs_HW Z G H) (hz : H1.size = H.size + 1) (oq : ∀ q : Nat, q < H.size → H1[q]? = H[q]?) (ho : xs_at Z G.1 o H1) : xs_HW Z (xm_push G o) H1 := by
  refine ⟨Nat.le_succ_of_le h.1, ?_, fun i oi hi => ?_⟩
  · show H1.size = xs_b Z + (G.1 + 1 - 7)
    have := h.1
    rw [hz, h.2.1]
    omega
  · rw [xl_push] at hi
    by_cases e : i = G.1
    · subst e
      rw [if_pos rfl] at hi
      cases hi
      exact ⟨Nat.lt_succ_self _, ho⟩
    · rw [if_neg e] at hi
      obtain ⟨h1, h2⟩ := h.2.2 i oi hi
      exact ⟨Nat.lt_succ_of_lt h1, h2.kept (oq _ (xs_rho_lt hK h h1)) (fun q hq => oq q (by have := h.2.1; omega))⟩
end REL
