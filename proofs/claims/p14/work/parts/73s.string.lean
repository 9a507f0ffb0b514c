/-! the strings: what they hold, in tables and heap -/
def xn_A : Nat → Prop := fun _ => False
def xn_W1 (a av : Nat) (bs : List Nat) (U : State) (H : Heap) : Prop :=
  va_Z "java/lang/String" "COMPACT_STRINGS" "Z" (.int 1) xn_A U H ∧ (∃ v : Value, v.category = 1 ∧ va_Z "jdk/internal/util/Preconditions" "SIOOBE_FORMATTER" "Ljava/util/function/BiFunction;" v xn_A U H) ∧ va_O "java/lang/String" a xn_A U H ∧ va_OF "java/lang/String" "coder" "B" (.int 0) a xn_A U H ∧ va_OF "java/lang/String" "value" "[B" (.ref av) a xn_A U H ∧ va_T .byte av bs.length (fun j => .int (Int32.ofNat (bs.getD j 0))) xn_A U H
theorem xn_W1.moved {a av : Nat} {bs : List Nat} {u U : State} {H : Heap} (hvm : u.vm.Alike U.vm) (h : xn_W1 a av bs u H) : xn_W1 a av bs U H := by
  obtain ⟨h1, ⟨v, h2, h3⟩, h4, h5, h6, h7⟩ := h
  exact ⟨va_Z.moved hvm h1, ⟨v, h2, va_Z.moved hvm h3⟩, va_O.moved hvm h4, va_OF.moved hvm h5, va_OF.moved hvm h6, va_T.moved hvm h7⟩
theorem xn_W1.kept {a av : Nat} {bs : List Nat} {U : State} {H H1 : Heap} (h : xn_W1 a av bs U H) (hq : ∀ q : Nat, q < H.size → H1[q]? = H[q]?) : xn_W1 a av bs U H1 := by
  obtain ⟨h1, ⟨v, h2, h3⟩, h4, h5, h6, h7⟩ := h
  have hq' : ∀ q : Nat, q < H.size → ¬ xn_A q → H1[q]? = H[q]? := fun q h _ => hq q h
  exact ⟨h1.kept hq', ⟨v, h2, h3.kept hq'⟩, h4.kept hq', h5.kept hq', h6.kept hq', h7.kept hq'⟩
def xn_SK (ad : Nat → Nat) (b : Nat) (Hz : Heap) (U : State) : Prop := Hz.size ≤ b ∧ ∃ adV : Nat → Nat, ∀ (i : Nat) (bs : List Nat), xm_stb[i]? = some bs → xn_W1 (ad (i + 1)) (adV i) bs U Hz
theorem xn_SK.moved {ad : Nat → Nat} {b : Nat} {Hz : Heap} {u U : State} (hvm : u.vm.Alike U.vm) (h : xn_SK ad b Hz u) : xn_SK ad b Hz U := by
  obtain ⟨h1, adV, h2⟩ := h
  exact ⟨h1, adV, fun i bs hi => (h2 i bs hi).moved hvm⟩
