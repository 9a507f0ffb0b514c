/-! Tape.word on the flat machine -/
/-- which word of a string the token is, byte by byte -/
def yg_ww (tok : List Int) : List Nat → Int → Int → Int
  | [], k, a => if a = tok.length then k else -1
  | c :: r, k, a => if c = 32 then (if a = tok.length then k else yg_ww tok r (k + 1) 0) else if 0 ≤ a ∧ tok[a.toNat]? = some (c : Int) then yg_ww tok r k (a + 1) else yg_ww tok r k (-1)
/-! what the strings' words are -/
theorem yg_wm {tok : List Int} {r : List Nat} {k : Int} : ∀ (w : List Nat), (∀ c ∈ w, c ≠ 32) → yg_ww tok (w ++ 32 :: r) k (-1) = yg_ww tok r (k + 1) 0
  | [], _ => by
    show (if (32 : Nat) = 32 then (if (-1 : Int) = tok.length then k else _) else _) = _
    rw [if_pos rfl, if_neg (by omega)]
  | c :: w, h => by
    show (if c = 32 then _ else if 0 ≤ (-1 : Int) ∧ _ then _ else _) = _
    rw [if_neg (h c List.mem_cons_self), if_neg (fun z => by omega)]
    exact yg_wm w (fun c hc => h c (List.mem_cons_of_mem _ hc))
theorem yg_wme {tok : List Int} {k : Int} : ∀ (w : List Nat), (∀ c ∈ w, c ≠ 32) → yg_ww tok w k (-1) = -1
  | [], _ => by
    show (if (-1 : Int) = tok.length then k else -1) = -1
    rw [if_neg (by omega)]
  | c :: w, h => by
    show (if c = 32 then _ else if 0 ≤ (-1 : Int) ∧ _ then _ else _) = _
    rw [if_neg (h c List.mem_cons_self), if_neg (fun z => by omega)]
    exact yg_wme w (fun c hc => h c (List.mem_cons_of_mem _ hc))
def yg_i (w : List Nat) : List Int := w.map Int.ofNat
theorem yg_dc {tok : List Int} {a c : Nat} {w : List Nat} : tok.drop a = yg_i (c :: w) ↔ tok[a]? = some (c : Int) ∧ tok.drop (a + 1) = yg_i w := by
  show tok.drop a = (c : Int) :: yg_i w ↔ _
  by_cases h : a < tok.length
  · rw [List.drop_eq_getElem_cons h, List.getElem?_eq_getElem h]
    constructor
    · intro z
      injection z with z1 z2
      exact ⟨by rw [z1], z2⟩
    · rintro ⟨z1, z2⟩
      rw [Option.some.inj z1, z2]
  · rw [List.drop_of_length_le (by omega), List.getElem?_eq_none (by omega)]
    constructor
    · intro z
      cases z
    · rintro ⟨z1, -⟩
      cases z1
theorem yg_wp {tok : List Int} {r : List Nat} {k : Int} : ∀ (w : List Nat) (a : Nat), a ≤ tok.length → (∀ c ∈ w, c ≠ 32) → yg_ww tok (w ++ 32 :: r) k a = if tok.drop a = yg_i w then k else yg_ww tok r (k + 1) 0
  | [], a, ha, _ => by
    show (if (32 : Nat) = 32 then (if (a : Int) = tok.length then k else _) else _) = _
    rw [if_pos rfl]
    by_cases e : a = tok.length
    · rw [if_pos (by omega), if_pos (by subst e; rw [List.drop_length]; rfl)]
    · rw [if_neg (by omega), if_neg (fun z => by
        have z : tok.drop a = [] := z
        have := List.drop_eq_nil_iff.mp z
        omega)]
  | c :: w, a, ha, h => by
    have hw := fun c hc => h c (List.mem_cons_of_mem _ hc)
    show (if c = 32 then _ else if 0 ≤ (a : Int) ∧ tok[(a : Int).toNat]? = some (c : Int) then yg_ww tok (w ++ 32 :: r) k ((a : Int) + 1) else yg_ww tok (w ++ 32 :: r) k (-1)) = _
    rw [if_neg (h c List.mem_cons_self), show (a : Int).toNat = a from rfl]
    by_cases e : tok[a]? = some (c : Int)
    · rw [if_pos ⟨by omega, e⟩]
      have hlt : a < tok.length := by
        rcases Nat.lt_or_ge a tok.length with z | z
        · exact z
        · rw [List.getElem?_eq_none z] at e
          cases e
      have := yg_wp w (a + 1) (by omega) hw (tok := tok) (r := r) (k := k)
      rw [show ((a : Int) + 1) = ((a + 1 : Nat) : Int) by omega, this]
      by_cases e2 : tok.drop (a + 1) = yg_i w
      · rw [if_pos e2, if_pos (yg_dc.mpr ⟨e, e2⟩)]
      · rw [if_neg e2, if_neg (fun z => e2 (yg_dc.mp z).2)]
    · rw [if_neg (fun z => e z.2), if_neg (fun z => e (yg_dc.mp z).1)]
      exact yg_wm w hw
theorem yg_wpe {tok : List Int} {k : Int} : ∀ (w : List Nat) (a : Nat), a ≤ tok.length → (∀ c ∈ w, c ≠ 32) → yg_ww tok w k a = if tok.drop a = yg_i w then k else -1
  | [], a, ha, _ => by
    show (if (a : Int) = tok.length then k else _) = _
    by_cases e : a = tok.length
    · rw [if_pos (by omega), if_pos (by subst e; rw [List.drop_length]; rfl)]
    · rw [if_neg (by omega), if_neg (fun z => by
        have z : tok.drop a = [] := z
        have := List.drop_eq_nil_iff.mp z
        omega)]
  | c :: w, a, ha, h => by
    have hw := fun c hc => h c (List.mem_cons_of_mem _ hc)
    show (if c = 32 then _ else if 0 ≤ (a : Int) ∧ tok[(a : Int).toNat]? = some (c : Int) then yg_ww tok w k ((a : Int) + 1) else yg_ww tok w k (-1)) = _
    rw [if_neg (h c List.mem_cons_self), show (a : Int).toNat = a from rfl]
    by_cases e : tok[a]? = some (c : Int)
    · rw [if_pos ⟨by omega, e⟩]
      have hlt : a < tok.length := by
        rcases Nat.lt_or_ge a tok.length with z | z
        · exact z
        · rw [List.getElem?_eq_none z] at e
          cases e
      have := yg_wpe w (a + 1) (by omega) hw (tok := tok) (k := k)
      rw [show ((a : Int) + 1) = ((a + 1 : Nat) : Int) by omega, this]
      by_cases e2 : tok.drop (a + 1) = yg_i w
      · rw [if_pos e2, if_pos (yg_dc.mpr ⟨e, e2⟩)]
      · rw [if_neg e2, if_neg (fun z => e2 (yg_dc.mp z).2)]
    · rw [if_neg (fun z => e z.2), if_neg (fun z => e (yg_dc.mp z).1)]
      exact yg_wme w hw
/-- a string of words with blanks between -/
def yg_ix (tok : List Int) : List (List Nat) → Int → Int
  | [], _ => -1
  | w :: ws, k => if tok = yg_i w then k else yg_ix tok ws (k + 1)
def yg_cat : List (List Nat) → List Nat
  | [] => []
  | [w] => w
  | w :: v :: ws => w ++ 32 :: yg_cat (v :: ws)
theorem yg_wix {tok : List Int} : ∀ (ws : List (List Nat)) (k : Int), ws ≠ [] → (∀ w ∈ ws, ∀ c ∈ w, c ≠ 32) → yg_ww tok (yg_cat ws) k 0 = yg_ix tok ws k
  | [], _, h, _ => absurd rfl h
  | [w], k, _, h => yg_wpe w 0 (by omega) (h w List.mem_cons_self)
  | w :: v :: ws, k, _, h => by
    show yg_ww tok (w ++ 32 :: yg_cat (v :: ws)) k ((0 : Nat) : Int) = _
    rw [yg_wp w 0 (by omega) (h w List.mem_cons_self), yg_wix (v :: ws) (k + 1) (fun z => by cases z) (fun w' hw' => h w' (List.mem_cons_of_mem _ hw'))]
    rfl
def yg_s1 : List (List Nat) := [[116, 101, 108, 108]]
def yg_s2 : List (List Nat) := [[116, 101, 108, 108, 101, 114], [104, 101, 97, 114, 101, 114], [102, 108, 111, 111, 114], [98, 101, 108, 108], [99, 104, 97, 105, 114, 115], [115, 105, 110, 99, 101], [104, 111, 109, 101], [116, 104, 101, 114, 101], [107, 110, 111, 119, 110], [110, 105, 103, 104, 116], [116, 119, 105, 115, 116]]
def yg_s3 : List (List Nat) := [[105, 102]]
def yg_s4 : List (List Nat) := [[110, 111, 116]]
def yg_s5 : List (List Nat) := [[97, 110, 100], [111, 114]]
def yg_sw (k : Nat) : List (List Nat) := if k = 1 then yg_s1 else if k = 2 then yg_s2 else if k = 3 then yg_s3 else if k = 4 then yg_s4 else yg_s5
def yg_sok (k : Nat) : Bool := match xm_stb[k]? with
  | some bs => decide (bs = yg_cat (yg_sw k)) && (decide (bs.length ≤ 100) && (bs.all (fun c => decide (c < 128)) && ((yg_sw k).all (fun w => w.all (fun c => decide (c ≠ 32))) && decide (yg_sw k ≠ []))))
  | none => false
theorem yg_soks : ∀ k : Nat, k < 6 → 1 ≤ k → yg_sok k = true := by decide +kernel

theorem zg_wlen {b : Int → Int} {p q : Int} : (zg_w b p q).length = (q - p).toNat := by
  unfold zg_w
  rw [List.length_map, List.length_range]
theorem zg_wat {b : Int → Int} {p q : Int} {i : Nat} (h : i < (q - p).toNat) : (zg_w b p q)[i]? = some (b (p + (i : Int))) := by
  unfold zg_w
  rw [List.getElem?_map, List.getElem?_range h]
  rfl
theorem zg_str {j : Int} {bs : List Nat} (h : zstr j = bs) (hL : bs.length ≤ 100) : zslen j = bs.length := by
  unfold zslen
  rw [h, xl_len, Int32.toInt_ofNat']
  exact ys_bm (by omega) (by omega)
theorem zg_chr {j : Int} {bs : List Nat} (h : zstr j = bs) (hc : ∀ c ∈ bs, c < 128) {i : Int} {c : Nat} (hi : bs[i.toNat]? = some c) : zchar j i = c := by
  unfold zchar
  rw [h, xl_nth, hi]
  dsimp only
  have := hc c (List.mem_of_getElem? hi)
  rw [Int32.toInt_ofNat']
  exact ys_bm (by omega) (by omega)
section ZW
variable {s : zS} {j p n : Int} {bs : List Nat} {tok : List Int} {R : Int}
theorem zt_w6 (hk : s 8 2 = 97) (hp : s 8 3 = p) (hn : s 8 4 = n) (p0 : 0 ≤ p) (n0 : 0 ≤ n) (pn : p + n ≤ 400) (htok : tok = zg_w (s 9) p (p + n)) (hs : zstr j = bs) (hL : bs.length ≤ 100) (hch : ∀ c ∈ bs, c < 128) : ∀ (m : Nat) (k a i : Int), 0 ≤ i → i ≤ bs.length + 1 → (0 ≤ k ∧ k ≤ i) → (-1 ≤ a ∧ a ≤ i) → ((i ≤ bs.length ∧ yg_ww tok (bs.drop i.toNat) k a = R) ∨ (i = bs.length + 1 ∧ R = -1)) → (bs.length + 1 - i).toNat ≤ m → zA xm_c83 6 [8, j, k, a, i] [] s (R, s) := by
  have hlen : (tok.length : Int) = n := by
    rw [htok, zg_wlen]
    omega
  have eL := zg_str hs hL
  intro m
  induction m with
  | zero =>
    intro k a i i0 i1 hkk ha hst hm
    refine zb_83_6 (fun _ => zb_83_10 (fun _ => ?_) (fun h => ?_)) (fun h => absurd hk h)
    · rcases hst with z | ⟨-, z⟩
      · omega
      · exact zb_83_56 (by rw [z])
    · rw [eL] at h
      omega
  | succ m ih =>
    intro k a i i0 i1 hkk ha hst hm
    have nx : ∀ (k a : Int), i ≤ bs.length → (0 ≤ k ∧ k ≤ i + 1) → (-1 ≤ a ∧ a ≤ i + 1) → ((i + 1 ≤ bs.length ∧ yg_ww tok (bs.drop (i.toNat + 1)) k a = R) ∨ (i = bs.length ∧ R = -1)) → zA xm_c83 6 [8, j, k, a, zw (i + 1)] [] s (R, s) := by
      intro k a hi hk1 ha1 hst1
      rw [zw_id (by omega) (by omega)]
      refine ih k a (i + 1) (by omega) (by omega) hk1 ha1 ?_ (by omega)
      rw [show (i + 1).toNat = i.toNat + 1 by omega]
      omega
    refine zb_83_6 (fun _ => zb_83_10 (fun h => ?_) (fun h => ?_)) (fun h => absurd hk h)
    · rw [eL] at h
      rcases hst with z | ⟨-, z⟩
      · omega
      · exact zb_83_56 (by rw [z])
    rw [eL] at h
    have hst : yg_ww tok (bs.drop i.toNat) k a = R := by
      rcases hst with z | z
      · exact z.2
      · omega
    have t23 : (i < bs.length → bs.drop i.toNat = 32 :: bs.drop (i.toNat + 1)) → zA xm_c83 23 [8, j, k, a, i] [] s (R, s) := by
      intro h32
      have hw : yg_ww tok (bs.drop i.toNat) k a = if a = tok.length then k else if i < bs.length then yg_ww tok (bs.drop (i.toNat + 1)) (k + 1) 0 else -1 := by
        by_cases hlt : i < bs.length
        · rw [h32 hlt, if_pos hlt]
          show (if (32 : Nat) = 32 then _ else _) = _
          rw [if_pos rfl]
        · rw [List.drop_of_length_le (by omega), if_neg hlt]
          rfl
      rw [hw] at hst
      refine zb_83_23 (fun hq => ?_) (fun hq => ?_)
      · rw [hn] at hq
        rw [if_pos (by omega)] at hst
        exact zb_83_27 (by rw [hst])
      · rw [hn] at hq
        rw [if_neg (by omega)] at hst
        refine zb_83_29 ?_
        rw [zw_id (x := k + 1) (by omega) (by omega)]
        refine nx (k + 1) 0 (by omega) (by omega) (by omega) ?_
        by_cases hlt : i < bs.length
        · rw [if_pos hlt] at hst
          exact Or.inl ⟨by omega, hst⟩
        · rw [if_neg hlt] at hst
          exact Or.inr ⟨by omega, hst.symm⟩
    refine zb_83_14 (fun heq => t23 (fun q => by rw [eL] at heq; omega)) (fun hne => ?_)
    rw [eL] at hne
    have hlt : i.toNat < bs.length := by omega
    obtain ⟨c, hc⟩ : ∃ c, bs[i.toNat]? = some c := ⟨_, List.getElem?_eq_getElem hlt⟩
    have hdr : bs.drop i.toNat = c :: bs.drop (i.toNat + 1) := by
      rw [List.drop_eq_getElem_cons hlt]
      rw [List.getElem?_eq_getElem hlt] at hc
      cases hc
      rfl
    have ec := zg_chr hs hch hc
    refine zb_83_18 (fun h32 => t23 (fun _ => by rw [hdr, show c = 32 by omega])) (fun h32 => ?_)
    have hw : yg_ww tok (bs.drop i.toNat) k a = if 0 ≤ a ∧ tok[a.toNat]? = some (c : Int) then yg_ww tok (bs.drop (i.toNat + 1)) k (a + 1) else yg_ww tok (bs.drop (i.toNat + 1)) k (-1) := by
      rw [hdr]
      show (if c = 32 then _ else _) = _
      rw [if_neg (by omega)]
    rw [hw] at hst
    have t52 : yg_ww tok (bs.drop (i.toNat + 1)) k (-1) = R → zA xm_c83 52 [8, j, k, a, i] [] s (R, s) := fun hst => zb_83_52 (nx k (-1) (by omega) (by omega) (by omega) (Or.inl ⟨by omega, hst⟩))
    refine zb_83_33 (fun ha0 => ?_) (fun ha0 => zb_83_35 (fun hsz => ?_) (fun hsz => ?_))
    · rw [if_neg (fun z => by omega)] at hst
      exact t52 hst
    · rw [hn] at hsz
      have ht : tok[a.toNat]? = some (s 9 (p + a)) := by
        rw [htok, zg_wat (by omega), show (a.toNat : Int) = a by omega]
      rw [ht] at hst
      refine zb_83_39 (fun hq => ?_) (fun hq => ?_)
      · rw [ec, hp, show (8 : Int) + 1 = 9 from rfl, zw_id (by omega) (by omega)] at hq
        rw [if_pos ⟨by omega, by rw [hq]⟩] at hst
        refine zb_83_50 ?_
        rw [zw_id (x := a + 1) (by omega) (by omega)]
        exact nx k (a + 1) (by omega) (by omega) (by omega) (Or.inl ⟨by omega, hst⟩)
      · rw [ec, hp, show (8 : Int) + 1 = 9 from rfl, zw_id (by omega) (by omega)] at hq
        rw [if_neg (fun z => hq (Option.some.inj z.2).symm)] at hst
        exact t52 hst
    · rw [hn] at hsz
      rw [if_neg (fun z => by rw [List.getElem?_eq_none (by omega)] at z; cases z.2)] at hst
      exact t52 hst
end ZW
/-- the string in cell k + 1: which of its words the token is -/
theorem zt_word {s : zS} {p n : Int} {k : Nat} (k1 : 1 ≤ k) (k6 : k < 6) (hk : s 8 2 = 97) (hp : s 8 3 = p) (hn : s 8 4 = n) (p0 : 0 ≤ p) (n0 : 0 ≤ n) (pn : p + n ≤ 400) : zE xm_c83 [8, (k : Int) + 1, 0, 0, 0] s (yg_ix (zg_w (s 9) p (p + n)) (yg_sw k) 0) s := by
  have h0 := yg_soks k k6 k1
  unfold yg_sok at h0
  cases hb : xm_stb[k]? with
  | none => rw [hb] at h0; cases h0
  | some bs =>
    rw [hb] at h0
    dsimp only at h0
    rw [Bool.and_eq_true, Bool.and_eq_true, Bool.and_eq_true, Bool.and_eq_true, decide_eq_true_eq, decide_eq_true_eq, decide_eq_true_eq] at h0
    have hstr : zstr ((k : Int) + 1) = bs := by
      unfold zstr
      rw [xl_nth, show ((k : Int) + 1).toNat - 1 = k by omega, hb]
    refine zb_83_0 (zt_w6 hk hp hn p0 n0 pn rfl hstr h0.2.1 (fun c hc => of_decide_eq_true (List.all_eq_true.mp h0.2.2.1 c hc)) _ 0 0 0 (by omega) (by omega) (by omega) (by omega) (Or.inl ⟨by omega, ?_⟩) (Nat.le_refl _))
    show yg_ww _ bs 0 0 = _
    rw [h0.1, yg_wix (yg_sw k) 0 h0.2.2.2.2 (fun w hw c hc => of_decide_eq_true (List.all_eq_true.mp (List.all_eq_true.mp h0.2.2.2.1 w hw) c hc))]
theorem zt_word0 {s : zS} {j : Int} (hk : s 8 2 ≠ 97) : zE xm_c83 [8, j, 0, 0, 0] s (-1) s := zb_83_0 (zb_83_6 (fun h => absurd h hk) (fun _ => zb_83_56 rfl))
