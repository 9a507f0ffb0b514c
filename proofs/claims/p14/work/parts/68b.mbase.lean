/-! the reference's reading on the flat machine: bytes, words, numbers -/
def zK (s0 s : zS) : Prop := ∀ x y, ¬ (x = 344 ∧ 8 ≤ y ∧ y ≤ 16) → x ≠ 346 → x ≠ 347 → x ≠ 348 → x ≠ 349 → x ≠ 350 → x ≠ 351 → s x y = s0 x y
/-- what is open, the last first -/
def zop : List Int → zS → Prop
  | [], _ => True
  | c :: O, s => s 351 ((O.length : Nat) : Int) = c ∧ zop O s
def zdp : List Int → Int
  | [] => 0
  | c :: O => (if c = 91 ∨ c = 11 then 1 else 0) + zdp O
abbrev zO : Type := Option (List Int)
/-- what is open, if that is known -/
def zsk : zO → zS → Prop
  | none, _ => True
  | some O, s => s 344 13 = zdp O ∧ s 344 16 = ((O.length : Nat) : Int) ∧ zop O s
/-- where it is, how many are made, what is open, how many clauses -/
def zRs (s0 : zS) (t : Int) (N m : Int) (O : zO) (ln : Int) (s : zS) : Prop := (s 344 8 = N ∧ s 344 9 = 0 ∧ s 344 11 = t ∧ s 344 12 = m ∧ s 344 14 = ln) ∧ zsk O s ∧ zK s0 s
def zRd (s0 : zS) (f : Int) (s : zS) : Prop := s 344 9 = f ∧ f ≠ 0 ∧ zK s0 s
def zCy (s0 : zS) (T : Int) : Prop := zg_by (s0 345) ∧ s0 344 1 = T ∧ 0 ≤ T ∧ T ≤ 400
section RB
variable {s0 s : zS} {t T N m ln : Int} {O : zO}
theorem zop_u : ∀ {O : List Int} {s : zS} {x y v : Int}, x ≠ 351 → zop O s → zop O (zu s x y v)
  | [], _, _, _, _, _, _ => trivial
  | c :: O, s, x, y, v, hx, h => ⟨by rw [zu_cell (fun q => hx q.symm)]; exact h.1, zop_u hx h.2⟩
theorem zsk_u : ∀ {O : zO} {s : zS} {x y v : Int}, x ≠ 351 → (x = 344 → y ≠ 13 ∧ y ≠ 16) → zsk O s → zsk O (zu s x y v)
  | none, _, _, _, _, _, _, _ => trivial
  | some O, s, x, y, v, hx, hy, h => by
    have e : ∀ b, b = 13 ∨ b = 16 → zu s x y v 344 b = s 344 b := by
      intro b hb
      by_cases ex : x = 344
      · have := hy ex
        exact zu_place (by omega)
      · exact zu_cell (fun q => ex q.symm)
    exact ⟨by rw [e 13 (Or.inl rfl)]; exact h.1, by rw [e 16 (Or.inr rfl)]; exact h.2.1, zop_u hx h.2.2⟩
theorem zK_u {x y v : Int} (h : zK s0 s) (hx : (x = 344 ∧ 8 ≤ y ∧ y ≤ 16) ∨ x = 346 ∨ x = 347 ∨ x = 348 ∨ x = 349 ∨ x = 350 ∨ x = 351) : zK s0 (zu s x y v) := by
  intro a b h1 h2 h3 h4 h5 h6 h7
  have e : ¬ (a = x ∧ b = y) := by
    rintro ⟨rfl, rfl⟩
    omega
  unfold zu
  rw [if_neg e]
  exact h a b h1 h2 h3 h4 h5 h6 h7
theorem zK_345 (h : zK s0 s) : s 345 = s0 345 := funext (fun y => h 345 y (by omega) (by decide) (by decide) (by decide) (by decide) (by decide) (by decide))
theorem zRs.by_ (h : zRs s0 t N m O ln s) : s 345 = s0 345 := zK_345 h.2.2
theorem zRs.len (hc : zCy s0 T) (h : zRs s0 t N m O ln s) : s 344 1 = T := by
  rw [h.2.2 344 1 (by omega) (by decide) (by decide) (by decide) (by decide) (by decide) (by decide)]
  exact hc.2.1
theorem zRs.junk {x y v : Int} (h : zRs s0 t N m O ln s) (hx : x = 346 ∨ x = 347 ∨ x = 348 ∨ x = 349 ∨ x = 350) : zRs s0 t N m O ln (zu s x y v) := by
  have e : ∀ b, zu s x y v 344 b = s 344 b := fun b => zu_cell (by omega)
  exact ⟨by rw [e, e, e, e, e]; exact h.1, zsk_u (by omega) (fun q => by omega) h.2.1, zK_u h.2.2 (by omega)⟩
theorem zRs.setN {N' : Int} (h : zRs s0 t N m O ln s) : zRs s0 t N' m O ln (zu s 344 8 N') := by
  have e : ∀ b, b ≠ 8 → zu s 344 8 N' 344 b = s 344 b := fun b hb => zu_place hb
  exact ⟨⟨zu_hit, by rw [e 9 (by decide)]; exact h.1.2.1, by rw [e 11 (by decide)]; exact h.1.2.2.1, by rw [e 12 (by decide)]; exact h.1.2.2.2.1, by rw [e 14 (by decide)]; exact h.1.2.2.2.2⟩, zsk_u (by decide) (fun _ => by decide) h.2.1, zK_u h.2.2 (by omega)⟩
theorem zRs.setm {m' : Int} (h : zRs s0 t N m O ln s) : zRs s0 t N m' O ln (zu s 344 12 m') := by
  have e : ∀ b, b ≠ 12 → zu s 344 12 m' 344 b = s 344 b := fun b hb => zu_place hb
  exact ⟨⟨by rw [e 8 (by decide)]; exact h.1.1, by rw [e 9 (by decide)]; exact h.1.2.1, by rw [e 11 (by decide)]; exact h.1.2.2.1, zu_hit, by rw [e 14 (by decide)]; exact h.1.2.2.2.2⟩, zsk_u (by decide) (fun _ => by decide) h.2.1, zK_u h.2.2 (by omega)⟩
theorem zRs.setl {ln' : Int} (h : zRs s0 t N m O ln s) : zRs s0 t N m O ln' (zu s 344 14 ln') := by
  have e : ∀ b, b ≠ 14 → zu s 344 14 ln' 344 b = s 344 b := fun b hb => zu_place hb
  exact ⟨⟨by rw [e 8 (by decide)]; exact h.1.1, by rw [e 9 (by decide)]; exact h.1.2.1, by rw [e 11 (by decide)]; exact h.1.2.2.1, by rw [e 12 (by decide)]; exact h.1.2.2.2.1, zu_hit⟩, zsk_u (by decide) (fun _ => by decide) h.2.1, zK_u h.2.2 (by omega)⟩
theorem zRs.num {v : Int} (h : zRs s0 t N m O ln s) : zRs s0 t N m O ln (zu s 344 10 v) := by
  have e : ∀ b, b ≠ 10 → zu s 344 10 v 344 b = s 344 b := fun b hb => zu_place hb
  exact ⟨⟨by rw [e 8 (by decide)]; exact h.1.1, by rw [e 9 (by decide)]; exact h.1.2.1, by rw [e 11 (by decide)]; exact h.1.2.2.1, by rw [e 12 (by decide)]; exact h.1.2.2.2.1, by rw [e 14 (by decide)]; exact h.1.2.2.2.2⟩, zsk_u (by decide) (fun _ => by decide) h.2.1, zK_u h.2.2 (by omega)⟩
theorem zr_see (hc : zCy s0 T) : ∀ (n : Nat) {N : Int} {s : zS}, (T - N).toNat ≤ n → 0 ≤ N → zRs s0 t N m O ln s → ∃ s', zE xm_c132 [344] s (zg_c (s0 345) T (zg_sk (s0 345) T N)) s' ∧ zRs s0 t (zg_sk (s0 345) T N) m O ln s' := by
  have out : ∀ {N : Int} {s : zS}, 0 ≤ N → zRs s0 t N m O ln s → zA xm_c132 19 [344] [] s (zg_c (s0 345) T N, s) := by
    intro N s h0 h
    have e8 := h.1.1
    have e1 := h.len hc
    have e9 := h.by_
    refine zb_132_19 (fun q => zb_132_24 ?_) (fun q => zb_132_32 ?_)
    · rw [e8, e1] at q
      rw [e8, show (344 : Int) + 1 = 345 from rfl, e9]
      unfold zg_c
      rw [if_pos q]
    · rw [e8, e1] at q
      unfold zg_c
      rw [if_neg q]
  intro n
  induction n with
  | zero =>
    intro N s hn h0 h
    have e8 := h.1.1
    have e1 := h.len hc
    have e : zg_sk (s0 345) T N = N := zg_run_n (fun q => by omega)
    rw [e]
    exact ⟨s, zb_132_0 (fun q => by rw [e8, e1] at q; omega) (fun _ => out h0 h), h⟩
  | succ n ih =>
    intro N s hn h0 h
    have e8 := h.1.1
    have e1 := h.len hc
    have e9 := h.by_
    have h4 := hc.2.2.2
    by_cases c : N < T ∧ 32 ≤ s0 345 N ∧ s0 345 N ≤ 32
    · have e : zg_sk (s0 345) T N = zg_sk (s0 345) T (N + 1) := zg_run_y c
      rw [e]
      obtain ⟨s', u1, u2⟩ := ih (N := N + 1) (by omega) (by omega) (h.setN (N' := N + 1))
      refine ⟨s', zb_132_0 (fun _ => zb_132_5 (fun _ => zb_132_12 ?_) (fun q => ?_)) (fun q => ?_), u2⟩
      · rw [e8, zw_id (by omega) (by omega)]
        exact u1
      · rw [e8, show (344 : Int) + 1 = 345 from rfl, e9] at q
        omega
      · rw [e8, e1] at q
        omega
    · have e : zg_sk (s0 345) T N = N := zg_run_n c
      rw [e]
      refine ⟨s, zb_132_0 (fun q => zb_132_5 (fun q2 => ?_) (fun _ => out h0 h)) (fun _ => out h0 h), h⟩
      rw [e8, e1] at q
      rw [e8, show (344 : Int) + 1 = 345 from rfl, e9] at q2
      omega
theorem zr_digit (hc : zCy s0 T) (h : zRs s0 t N m O ln s) {x : Int} : zE xm_c133 [344, x] s (if x < T ∧ 48 ≤ s0 345 x ∧ s0 345 x ≤ 57 then 1 else 0) s := by
  have e1 := h.len hc
  have e9 := h.by_
  refine zb_133_0 (fun q => zb_133_4 (fun q2 => zb_133_18 ?_) (fun q2 => zb_133_10 (fun q3 => zb_133_18 ?_) (fun q3 => zb_133_16 ?_))) (fun q => zb_133_18 ?_)
  · rw [show (344 : Int) + 1 = 345 from rfl, e9] at q2
    rw [if_neg (by omega)]
  · rw [show (344 : Int) + 1 = 345 from rfl, e9] at q3
    rw [if_neg (by omega)]
  · rw [e1] at q
    rw [show (344 : Int) + 1 = 345 from rfl, e9] at q2 q3
    rw [if_pos (by omega)]
  · rw [e1] at q
    rw [if_neg (by omega)]
theorem zr_letter (hc : zCy s0 T) (h : zRs s0 t N m O ln s) {x : Int} : zE xm_c134 [344, x] s (if x < T ∧ 97 ≤ s0 345 x ∧ s0 345 x ≤ 122 then 1 else 0) s := by
  have e1 := h.len hc
  have e9 := h.by_
  refine zb_134_0 (fun q => zb_134_4 (fun q2 => zb_134_18 ?_) (fun q2 => zb_134_10 (fun q3 => zb_134_18 ?_) (fun q3 => zb_134_16 ?_))) (fun q => zb_134_18 ?_)
  · rw [show (344 : Int) + 1 = 345 from rfl, e9] at q2
    rw [if_neg (by omega)]
  · rw [show (344 : Int) + 1 = 345 from rfl, e9] at q3
    rw [if_neg (by omega)]
  · rw [e1] at q
    rw [show (344 : Int) + 1 = 345 from rfl, e9] at q2 q3
    rw [if_pos (by omega)]
  · rw [e1] at q
    rw [if_neg (by omega)]
theorem zr_fails (h : zRs s0 t N m O ln s) {c at_ : Int} (hc0 : 0 ≤ c) (hc4 : c ≤ 4) (ha : 0 ≤ at_) (ha4 : at_ ≤ 400) : ∃ s', zE xm_c131 [344, c, at_] s 0 s' ∧ zRd s0 (1 + 8 * at_ + c) s' := by
  refine ⟨_, zb_131_0 (fun _ => zb_131_3 rfl) (fun q => absurd h.1.2.1 q), ?_, by omega, zK_u h.2.2 (by omega)⟩
  rw [zu_hit, zw_id (x := 8 * at_) (by omega) (by omega), zw_id (x := 1 + 8 * at_) (by omega) (by omega), zw_id (by omega) (by omega)]
theorem zr_makes (h : zRs s0 t N m O ln s) (hm0 : 0 ≤ m) (hm : m ≤ 60) {at_ : Int} (ha : 0 ≤ at_) (ha4 : at_ ≤ 400) : (m < 60 ∧ ∃ s', zE xm_c141 [344, at_] s 1 s' ∧ zRs s0 t N (m + 1) O ln s') ∨ (m = 60 ∧ ∃ s', zE xm_c141 [344, at_] s 0 s' ∧ zRd s0 (1 + 8 * at_ + 3) s') := by
  have e12 := h.1.2.2.2.1
  by_cases e : m = 60
  · obtain ⟨s', q1, q2⟩ := zr_fails h (c := 3) (at_ := at_) (by omega) (by omega) ha ha4
    exact Or.inr ⟨e, s', zb_141_0 (fun _ => zb_141_4 q1 (zb_141_8 rfl)) (fun q => absurd (by rw [e12]; exact e) q), q2⟩
  · refine Or.inl ⟨by omega, _, zb_141_0 (fun q => absurd q (by rw [e12]; exact e)) (fun _ => zb_141_9 rfl), ?_⟩
    rw [e12, zw_id (by omega) (by omega)]
    exact h.setm
theorem zr_puts (h : zRs s0 t N m O ln s) {x y : Int} : ∃ s', zE xm_c140 [344, x, y] s 0 s' ∧ zRs s0 t N m O ln s' := ⟨_, zb_140_0 rfl, (h.junk (Or.inl rfl)).junk (Or.inr (Or.inl rfl))⟩
/-- past the letters -/
theorem zr_pass (hc : zCy s0 T) : ∀ (n : Nat) {N : Int} {s : zS}, (T - N).toNat ≤ n → 0 ≤ N → zRs s0 t N m O ln s → ∃ s', zE xm_c136 [344] s 0 s' ∧ zRs s0 t (zg_run (s0 345) T 97 122 N) m O ln s' := by
  intro n
  induction n with
  | zero =>
    intro N s hn h0 h
    have e8 := h.1.1
    have e : zg_run (s0 345) T 97 122 N = N := zg_run_n (fun q => by omega)
    rw [e]
    have hl := zr_letter hc h (x := N)
    rw [if_neg (by omega), ← e8] at hl
    exact ⟨s, zb_136_0 hl (zb_136_4 (fun _ => zb_136_12 rfl) (fun q => absurd rfl q)), h⟩
  | succ n ih =>
    intro N s hn h0 h
    have e8 := h.1.1
    have h4 := hc.2.2.2
    have hl := zr_letter hc h (x := N)
    by_cases c : N < T ∧ 97 ≤ s0 345 N ∧ s0 345 N ≤ 122
    · rw [if_pos c, ← e8] at hl
      obtain ⟨s', u1, u2⟩ := ih (N := N + 1) (by omega) (by omega) (h.setN (N' := N + 1))
      rw [zg_run_y c]
      refine ⟨s', zb_136_0 hl (zb_136_4 (fun q => absurd q (by decide)) (fun _ => zb_136_5 ?_)), u2⟩
      rw [e8, zw_id (by omega) (by omega)]
      exact u1
    · rw [if_neg c, ← e8] at hl
      rw [zg_run_n c]
      exact ⟨s, zb_136_0 hl (zb_136_4 (fun _ => zb_136_12 rfl) (fun q => absurd rfl q)), h⟩
end RB
/-! words as numbers -/
def zenc : List Int → Int
  | [] => 0
  | c :: l => 256 * zenc l + c
theorem zenc_inj : ∀ {l l' : List Int}, (∀ c ∈ l, 1 ≤ c ∧ c ≤ 255) → (∀ c ∈ l', 1 ≤ c ∧ c ≤ 255) → zenc l = zenc l' → l = l'
  | [], [], _, _, _ => rfl
  | [], c :: l', _, h2, e => by
    have p : ∀ l : List Int, (∀ c ∈ l, 1 ≤ c ∧ c ≤ 255) → 0 ≤ zenc l := by
      intro l
      induction l with
      | nil => intro _; exact Int.le_refl _
      | cons c l ih =>
        intro h
        have := ih (fun c hc => h c (List.mem_cons_of_mem _ hc))
        have := h c List.mem_cons_self
        show 0 ≤ 256 * zenc l + c
        omega
    have := p l' (fun c hc => h2 c (List.mem_cons_of_mem _ hc))
    have := h2 c List.mem_cons_self
    have e : 0 = 256 * zenc l' + c := e
    omega
  | c :: l, [], h1, _, e => by
    have p : ∀ l : List Int, (∀ c ∈ l, 1 ≤ c ∧ c ≤ 255) → 0 ≤ zenc l := by
      intro l
      induction l with
      | nil => intro _; exact Int.le_refl _
      | cons c l ih =>
        intro h
        have := ih (fun c hc => h c (List.mem_cons_of_mem _ hc))
        have := h c List.mem_cons_self
        show 0 ≤ 256 * zenc l + c
        omega
    have := p l (fun c hc => h1 c (List.mem_cons_of_mem _ hc))
    have := h1 c List.mem_cons_self
    have e : 256 * zenc l + c = 0 := e
    omega
  | c :: l, c' :: l', h1, h2, e => by
    have a := h1 c List.mem_cons_self
    have a' := h2 c' List.mem_cons_self
    have e : 256 * zenc l + c = 256 * zenc l' + c' := e
    have ec : c = c' := by omega
    have el : zenc l = zenc l' := by omega
    rw [ec, zenc_inj (fun c hc => h1 c (List.mem_cons_of_mem _ hc)) (fun c hc => h2 c (List.mem_cons_of_mem _ hc)) el]
theorem zq_byte {v c : Int} (h0 : 0 ≤ v) (h1 : v < 281474976710656) (hc0 : 0 ≤ c) (hc : c < 256) : zqor (zqshl v 8) c = 256 * v + c := by
  have en : ∀ x : Int, 0 ≤ x → x < 9223372036854775808 → (Int64.ofInt x).toBitVec.toNat = x.toNat := by
    intro x h0 h1
    have : (Int64.ofInt x).toInt = x := Int64.toInt_ofInt_of_le (by omega) (by omega)
    have h2 : (Int64.ofInt x).toBitVec.toInt = x := this
    rw [BitVec.toInt_eq_toNat_cond] at h2
    split at h2 <;> omega
  have k1 : (Int64.ofInt v <<< ((Int32.ofInt 8).toInt64 &&& 63)).toBitVec = (Int64.ofInt v).toBitVec <<< (8 : Nat) := rfl
  have sh : (Int64.ofInt v <<< ((Int32.ofInt 8).toInt64 &&& 63)).toBitVec.toNat = v.toNat * 256 := by
    rw [k1, BitVec.toNat_shiftLeft, en v h0 (by omega), Nat.shiftLeft_eq]
    omega
  have ish : Int64.ofInt (zqshl v 8) = Int64.ofInt v <<< ((Int32.ofInt 8).toInt64 &&& 63) := by
    unfold zqshl
    rw [Int64.ofInt_toInt]
  unfold zqor
  rw [ish]
  show ((Int64.ofInt v <<< ((Int32.ofInt 8).toInt64 &&& 63)) ||| Int64.ofInt c).toBitVec.toInt = _
  rw [BitVec.toInt_eq_toNat_cond]
  have or_ : ((Int64.ofInt v <<< ((Int32.ofInt 8).toInt64 &&& 63)) ||| Int64.ofInt c).toBitVec.toNat = v.toNat * 256 + c.toNat := by
    rw [Int64.toBitVec_or, BitVec.toNat_or, sh, en c hc0 (by omega)]
    have := Nat.shiftLeft_add_eq_or_of_lt (a := v.toNat) (b := c.toNat) (i := 8) (by omega)
    rw [Nat.shiftLeft_eq] at this
    exact this.symm
  rw [or_]
  split <;> omega
/-- the letters from p to q, the last first -/
def zlt_ (b : Int → Int) (p : Int) : Nat → List Int
  | 0 => []
  | n + 1 => b (p + ((n : Nat) : Int)) :: zlt_ b p n
theorem zlt_w {b : Int → Int} {p : Int} : ∀ (n : Nat), zlt_ b p n = (zg_w b p (p + ((n : Nat) : Int))).reverse
  | 0 => by
    unfold zg_w
    rw [show (p + ((0 : Nat) : Int) - p).toNat = 0 by omega]
    rfl
  | n + 1 => by
    have ih := zlt_w (b := b) (p := p) n
    show b (p + ((n : Nat) : Int)) :: zlt_ b p n = _
    rw [ih]
    unfold zg_w
    rw [show (p + ((n + 1 : Nat) : Int) - p).toNat = n + 1 by omega, show (p + ((n : Nat) : Int) - p).toNat = n by omega, List.range_succ, List.map_append, List.reverse_append]
    rfl
