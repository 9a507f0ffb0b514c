/-! the class's reader of rules against the flat machine -/
section CC
variable {call : xm_C} {G : xm_H} {E : xm_R} {vs st : List Value} {mc ms a r1 r4 j t : Nat} {cls nm ds : String} {r3 : ByteArray} {r5 : Option FieldType} {r9 : List xm_E} {k : List Value → xm_H → xm_R → Nat → Nat → Bool}
theorem yC_rcv {As : List Value} (hg : xm_hget G j = some (t, vs)) (hcl : ∃ p, xm_nth xm_cls t = some (cls, p)) : xm_rcv 0 cls G (.ref j :: As) = true := by
  obtain ⟨p, hp⟩ := hcl
  show xm_rcv0 cls G (.ref j :: As) = true
  unfold xm_rcv0
  dsimp only
  rw [hg]
  dsimp only
  rw [hp]
  exact decide_eq_true rfl
theorem yC_call0 (hr : xm_nth xm_mtab a = some (r1, ⟨cls, nm, ds⟩, r3, r4, r5, 0, 0, 0, r9)) (hg : xm_hget G j = some (t, vs)) (hcl : ∃ p, xm_nth xm_cls t = some (cls, p)) (hc : xm_cats st ≤ 8) : xm_call call mc ms a 0 (.ref j :: st) G E 0 0 k = call a [.ref j] G E (fun r G E => k (match r with
    | some v => v :: st
    | none => st) G E 0 0) := by
  unfold xm_call
  rw [hr]
  show (bif Nat.ble (xm_cats st) 8 && xm_rcv 0 cls G [.ref j] then call a [.ref j] G E _ else false) = _
  rw [Nat.ble_eq_true_of_le hc, yC_rcv hg hcl]
  rfl
theorem yC_call1 {v1 : Value} (hr : xm_nth xm_mtab a = some (r1, ⟨cls, nm, ds⟩, r3, r4, r5, 1, 0, 0, r9)) (hg : xm_hget G j = some (t, vs)) (hcl : ∃ p, xm_nth xm_cls t = some (cls, p)) (hc : xm_cats st ≤ 8) : xm_call call mc ms a 0 (v1 :: .ref j :: st) G E 0 0 k = call a [.ref j, v1] G E (fun r G E => k (match r with
    | some v => v :: st
    | none => st) G E 0 0) := by
  unfold xm_call
  rw [hr]
  show (bif Nat.ble (xm_cats st) 8 && xm_rcv 0 cls G [.ref j, v1] then call a [.ref j, v1] G E _ else false) = _
  rw [Nat.ble_eq_true_of_le hc, yC_rcv hg hcl]
  rfl
theorem yC_call2 {v1 v2 : Value} (hr : xm_nth xm_mtab a = some (r1, ⟨cls, nm, ds⟩, r3, r4, r5, 2, 0, 0, r9)) (hg : xm_hget G j = some (t, vs)) (hcl : ∃ p, xm_nth xm_cls t = some (cls, p)) (hc : xm_cats st ≤ 8) : xm_call call mc ms a 0 (v2 :: v1 :: .ref j :: st) G E 0 0 k = call a [.ref j, v1, v2] G E (fun r G E => k (match r with
    | some v => v :: st
    | none => st) G E 0 0) := by
  unfold xm_call
  rw [hr]
  show (bif Nat.ble (xm_cats st) 8 && xm_rcv 0 cls G [.ref j, v1, v2] then call a [.ref j, v1, v2] G E _ else false) = _
  rw [Nat.ble_eq_true_of_le hc, yC_rcv hg hcl]
  rfl
theorem yC_scall {v1 : Value} (hr : xm_nth xm_mtab a = some (r1, ⟨cls, nm, ds⟩, r3, r4, r5, 1, 0, 0, r9)) (hc : xm_cats st ≤ 8) : xm_call call mc ms a 1 (v1 :: st) G E 0 0 k = call a [v1] G E (fun r G E => k (match r with
    | some v => v :: st
    | none => st) G E 0 0) := by
  unfold xm_call
  rw [hr]
  show (bif Nat.ble (xm_cats st) 8 && xm_rcv 1 cls G [v1] then call a [v1] G E _ else false) = _
  rw [Nat.ble_eq_true_of_le hc]
  rfl
end CC
theorem yc_c7 : ∃ p, xm_nth xm_cls 7 = some ("StairNews$RuleReader", p) := ⟨_, rfl⟩
theorem yc_c9 : ∃ p, xm_nth xm_cls 9 = some ("StairNews$Tape", p) := ⟨_, rfl⟩
theorem yc_c6 : ∃ p, xm_nth xm_cls 6 = some ("StairNews$Rule", p) := ⟨_, rfl⟩
/-- what reading a rule may write -/
def yDM : yM := [(8, 2), (8, 3), (8, 4), (8, 5), (39, 1), (39, 2), (69, 3), (69, 4), (70, 100000), (71, 100000), (72, 100000)]
theorem yDM_1 : ym_mds [(8, 2), (8, 3), (8, 4)] yDM = true := by decide +kernel
theorem yDM_2 : ym_mds [(8, 2), (8, 4), (8, 5)] yDM = true := by decide +kernel
theorem yDM_3 : ym_mds [(39, 2)] yDM = true := by decide +kernel
theorem yDM_4 : ym_mds [(8, 2), (8, 3), (8, 4)] [(8, 2), (8, 3), (8, 4), (8, 5)] = true := by decide +kernel
theorem yDM_5 : ym_mds [(8, 2), (8, 4), (8, 5)] [(8, 2), (8, 3), (8, 4), (8, 5)] = true := by decide +kernel
theorem yDM_f : yk_free [(39, 2)] = true := by decide +kernel
theorem yq_39 : yr_row 39 = some (7, 3, 3, [(2, 8, 0), (3, 69, 0), yr_top]) := rfl
theorem yg_sz {B : List Value} {T p : Nat} (hp : p ≤ 400) (hT : T ≤ 400) : p + yg_size B T p ≤ 400 := by
  have h1 := yg_run0 (B := B) (T := T) (lo := 97) (hi := 122) (p := p)
  have h2 := yg_run0 (B := B) (T := T) (lo := 48) (hi := 57) (p := p)
  unfold yg_size
  by_cases e1 : 97 ≤ yg_c B T p ∧ yg_c B T p ≤ 122
  · rw [if_pos e1]
    omega
  · rw [if_neg e1]
    by_cases e2 : 48 ≤ yg_c B T p ∧ yg_c B T p ≤ 57
    · rw [if_pos e2]
      omega
    · rw [if_neg e2]
      by_cases e3 : (p + 1 < T ∧ yg_b B (p + 1) = 61) ∧ (yg_c B T p = 60 ∨ yg_c B T p = 62)
      · rw [if_pos e3]
        omega
      · rw [if_neg e3]
        by_cases e4 : p < T
        · rw [if_pos e4]
          omega
        · rw [if_neg e4]
          omega
def yGx (B : List Value) (T : Nat) (G0 G : xm_H) (rl : Nat) (len kind place size fault am : Int32) : Prop := (ys_HT G ∧ yi_Inv yJ G ∧ ys_Fr yDM G0 G) ∧ (xm_hget G 9 = some (101, B) ∧ yu_by B) ∧ (xm_hget G 39 = some (7, [.ref 8, .ref rl, .int am]) ∧ yr_of rl = 69) ∧ yt_at G 8 9 len kind place size fault ∧ (len.toInt = T ∧ T ≤ 400) ∧ (0 ≤ place.toInt ∧ place.toInt ≤ 400) ∧ (0 ≤ size.toInt ∧ place.toInt + size.toInt ≤ 400)
section CX
variable {B : List Value} {T rl d : Nat} {G0 G : xm_H} {E : xm_R} {Q : xm_Q} {len kind place size fault am : Int32}
theorem yGx.next (h : yGx B T G0 G rl len kind place size 0 am) {q0 : Nat} (hq0 : place.toInt + size.toInt = q0) (hQ : ∀ (G' : xm_H) (kind' place' size' : Int32), yGx B T G0 G' rl len kind' place' size' 0 am → place'.toInt = yg_run B T 32 32 q0 → kind'.toInt = yg_kind B T (yg_run B T 32 32 q0) → size'.toInt = yg_size B T (yg_run B T 32 32 q0) → Q none G' E = true) : xm_exec (d + 1) 82 [.ref 8] G E Q = true := by
  obtain ⟨⟨a1, a2, a3⟩, ⟨b1, b2⟩, ⟨c1, c2⟩, d1, ⟨e1, e2⟩, f1, g1⟩ := h
  refine yx_exec (m := 82) rfl rfl (Nat.le_of_ble_eq_true rfl) ?_
  refine yu_next b1 b2 (by decide) (by decide) (by omega) e1 d1 f1.1 g1.1 g1.2 hq0 (fun G' kind' place' size' s1 s2 s3 s4 s5 => ?_) (yl_fuel _ (by omega))
  have r0 := yg_run0 (B := B) (T := T) (lo := 32) (hi := 32) (p := q0)
  have r1 : yg_run B T 32 32 q0 ≤ 400 := by omega
  have r2 := yg_sz (B := B) (T := T) r1 e2
  obtain ⟨x1, x2⟩ := yt_HT (md := [(8, 2), (8, 3), (8, 4)]) a1 rfl d1 s1 s2 ⟨by omega, by omega⟩ ⟨by omega, by omega⟩ (Or.inr rfl) (Or.inr rfl) (Or.inr rfl) (Or.inl rfl)
  exact hQ G' kind' place' size' ⟨⟨x1, ⟨yi_TI.mk s2 (by omega), yj_tape yMI_ok G G' x1 (x2.mds yDM_4) a2.2⟩, a3.trans (x2.mds yDM_1)⟩, ⟨by rw [s1 9 (by decide)]; exact b1, b2⟩, ⟨by rw [s1 39 (by decide)]; exact c1, c2⟩, s2, ⟨e1, e2⟩, ⟨by omega, by omega⟩, by omega, by omega⟩ s3 s4 s5
theorem yGx.next0 (h : yGx B T G0 G rl len kind place size fault am) (hf : fault ≠ 0) (hQ : Q none G E = true) : xm_exec (d + 1) 82 [.ref 8] G E Q = true := by
  refine yx_exec (m := 82) rfl rfl (Nat.le_of_ble_eq_true rfl) ?_
  exact yu_next0 h.2.2.2.1 hf hQ (yl_fuel _ (by omega))
theorem yGx.fail (h : yGx B T G0 G rl len kind place size fault am) {n : Int32} (hQ : ∀ G' : xm_H, yGx B T G0 G' rl len (-2) place 0 (if fault.toInt = 0 then 1 + 8 * place + n else fault) am → Q none G' E = true) : xm_exec (d + 1) 81 [.ref 8, .int n] G E Q = true := by
  obtain ⟨⟨a1, a2, a3⟩, ⟨b1, b2⟩, ⟨c1, c2⟩, d1, ⟨e1, e2⟩, f1, g1⟩ := h
  refine yx_exec (m := 81) rfl rfl (Nat.le_of_ble_eq_true rfl) ?_
  obtain ⟨g, hg⟩ : ∃ g, xm_fuel = g + 30 := ⟨xm_fuel - 30, by have := yl_fuel 30 (by omega); omega⟩
  rw [hg]
  have e0 : (0 : Int32).toInt = 0 := rfl
  refine yu_fail d1 (by decide) (fun G' s1 s2 => ?_)
  obtain ⟨x1, x2⟩ := yt_HT (md := [(8, 2), (8, 4), (8, 5)]) a1 rfl d1 s1 s2 f1 ⟨by omega, by omega⟩ (Or.inr rfl) (Or.inl rfl) (Or.inr rfl) (Or.inr rfl)
  exact hQ G' ⟨⟨x1, ⟨yi_TI.mk s2 (by omega), yj_tape yMI_ok G G' x1 (x2.mds yDM_5) a2.2⟩, a3.trans (x2.mds yDM_2)⟩, ⟨by rw [s1 9 (by decide)]; exact b1, b2⟩, ⟨by rw [s1 39 (by decide)]; exact c1, c2⟩, s2, ⟨e1, e2⟩, f1, by omega, by omega⟩
theorem yGx.word (h : yGx B T G0 G rl len kind place size fault am) {k : Nat} (k1 : 1 ≤ k) (k6 : k < 6) (hof : yr_of (k + 1) = k + 1) (hrow : yr_row (k + 1) = some (200 + k, 0, 1, [])) (hQ : ∀ x : Int32, x.toInt = (if kind.toInt = 97 then yg_ix (yg_w B place.toInt.toNat size.toInt.toNat) (yg_sw k) 0 else -1) → Q (some (.int x)) G E = true) : xm_exec (d + 1) 83 [.ref 8, .ref (k + 1)] G E Q = true := by
  obtain ⟨⟨a1, a2, a3⟩, ⟨b1, b2⟩, ⟨c1, c2⟩, d1, ⟨e1, e2⟩, f1, g1⟩ := h
  obtain ⟨vs, v1, -, -⟩ := a1.at hof hrow
  have h0 := yg_soks k k6 k1
  unfold yg_sok at h0
  cases hb : xm_stb[k]? with
  | none => rw [hb] at h0; cases h0
  | some bs =>
    rw [hb] at h0
    dsimp only at h0
    rw [Bool.and_eq_true, Bool.and_eq_true, Bool.and_eq_true, Bool.and_eq_true, decide_eq_true_eq, decide_eq_true_eq, decide_eq_true_eq] at h0
    have hstr : xm_strv (k + 1) G = some bs := by
      unfold xm_strv
      rw [show xm_hget G (k + 1) = some (200 + k, vs) from v1]
      dsimp only
      have h1 : Nat.ble 200 (200 + k) = true := Nat.ble_eq_true_of_le (by omega)
      have h2 : Nat.blt (200 + k) 206 = true := Nat.ble_eq_true_of_le (by omega)
      rw [h1, h2, Bool.and_self, cond_true, xl_nth, show 200 + k - 200 = k by omega, hb]
    refine yx_exec (m := 83) rfl rfl (Nat.le_of_ble_eq_true rfl) ?_
    by_cases hk : kind.toInt = 97
    · refine yu_word b1 b2 d1 hk f1.1 g1.1 g1.2 rfl hstr h0.2.1 (fun c hc => of_decide_eq_true (List.all_eq_true.mp h0.2.2.1 c hc)) (fun x hx => hQ x ?_) (yl_fuel _ (by omega))
      rw [if_pos hk, hx, h0.1, yg_wix (yg_sw k) 0 h0.2.2.2.2 (fun w hw c hc => of_decide_eq_true (List.all_eq_true.mp (List.all_eq_true.mp h0.2.2.2.1 w hw) c hc))]
    · exact yu_word0 d1 hk (hQ (-1) (by rw [if_neg hk]; rfl)) (yl_fuel _ (by omega))
/-- by a contract that leaves tape and reader as they are -/
theorem yGx.con (h : yGx B T G0 G rl len kind place size fault am) {I : yI} {As : List Value} (hI : yc_ok (yi_Inv yJ) I (xm_exec d)) (hA : ys_args As I.2.1) (h1 : I.2.2.1 = []) (h2 : I.2.2.2.1 = [(none, [])]) (hm : ym_mds I.2.2.2.2 yDM = true) (h8 : ∀ i, ym_mod I.2.2.2.2 8 i = false) (h9 : ∀ i, ym_mod I.2.2.2.2 9 i = false) (h39 : ∀ i, ym_mod I.2.2.2.2 39 i = false) (hQ : ∀ G' : xm_H, yGx B T G0 G' rl len kind place size fault am → Q none G' E = true) : xm_exec d I.1 As G E Q = true := by
  obtain ⟨⟨a1, a2, a3⟩, ⟨b1, b2⟩, ⟨c1, c2⟩, d1, e1, f1, g1⟩ := h
  refine hI G As E Q a1 a2 hA (by rw [h1]; exact fun q hq => by cases hq) (fun r G' q1 q2 q3 q4 => ?_)
  obtain ⟨c, x1, x2, -⟩ := q4
  rw [h2] at x1
  have hr : r = none := by
    rcases List.mem_cons.mp x1 with rfl | x1
    · cases r with
      | none => rfl
      | some v => exact False.elim x2
    · cases x1
  subst hr
  exact hQ G' ⟨⟨q1, q2, a3.trans (q3.mds hm)⟩, ⟨yf_same q3 (j := 9) h9 b1, b2⟩, ⟨yf_same q3 (j := 39) h39 c1, c2⟩, yf_same q3 (j := 8) h8 d1, e1, f1, g1⟩
theorem yGx.pam (h : yGx B T G0 G rl len kind place size fault am) {am' : Int32} {st : List Value} {k : List Value → xm_H → Bool} (hk : ∀ G' : xm_H, yGx B T G0 G' rl len kind place size fault am' → k st G' = true) : xm_putf 7 2 (.int am' :: .ref 39 :: st) G k = true := by
  obtain ⟨⟨a1, a2, a3⟩, ⟨b1, b2⟩, ⟨c1, c2⟩, d1, e1, f1, g1⟩ := h
  rw [xk_putf c1 (by decide) rfl (by decide)]
  obtain ⟨x1, x2⟩ := yU_HT (j := 39) (i := 2) (w := .int am') a1 rfl yq_39 (by decide) (T := yr_top) rfl ⟨rfl, ys_b32 am'⟩ (md := [(39, 2)]) rfl
  rw [yU_eq c1] at x1 x2
  have s1 : yt_same G (xm_hput G 39 (7, ([.ref 8, .ref rl, .int am] : List Value).set 2 (.int am'))) 39 := yt_hput
  refine hk _ ⟨⟨x1, yi_Inv.free yMI_ok [(39, 2)] yDM_f G _ x1 x2 a2, a3.trans (x2.mds yDM_3)⟩, ⟨by rw [s1 9 (by decide)]; exact b1, b2⟩, ⟨by rw [xl_hput, if_pos rfl]; rfl, c2⟩, ?_, e1, f1, g1⟩
  show xm_hget _ 8 = _
  rw [s1 8 (by decide)]
  exact d1
theorem yGx.gt (h : yGx B T G0 G rl len kind place size fault am) {st : List Value} {k : List Value → Bool} : xm_getf 7 0 (.ref 39 :: st) G k = k (.ref 8 :: st) := xk_getf h.2.2.1.1 rfl
theorem yGx.gr (h : yGx B T G0 G rl len kind place size fault am) {st : List Value} {k : List Value → Bool} : xm_getf 7 1 (.ref 39 :: st) G k = k (.ref rl :: st) := xk_getf h.2.2.1.1 rfl
theorem yGx.ga (h : yGx B T G0 G rl len kind place size fault am) {st : List Value} {k : List Value → Bool} : xm_getf 7 2 (.ref 39 :: st) G k = k (.int am :: st) := xk_getf h.2.2.1.1 rfl
theorem yGx.gk (h : yGx B T G0 G rl len kind place size fault am) {st : List Value} {k : List Value → Bool} : xm_getf 9 2 (.ref 8 :: st) G k = k (.int kind :: st) := yt_get h.2.2.2.1 rfl
theorem yGx.gz (h : yGx B T G0 G rl len kind place size fault am) {st : List Value} {k : List Value → Bool} : xm_getf 9 4 (.ref 8 :: st) G k = k (.int size :: st) := yt_get h.2.2.2.1 rfl
theorem yGx.gf (h : yGx B T G0 G rl len kind place size fault am) {st : List Value} {k : List Value → Bool} : xm_getf 9 5 (.ref 8 :: st) G k = k (.int fault :: st) := yt_get h.2.2.2.1 rfl
/-- a rule's cell -/
theorem yGx.rule (h : yGx B T G0 G rl len kind place size fault am) : ∃ vs, xm_hget G rl = some (6, vs) := by
  obtain ⟨vs, v1, -, -⟩ := h.1.1.at h.2.2.1.2 (show yr_row 69 = some _ from rfl)
  exact ⟨vs, v1⟩
end CX
