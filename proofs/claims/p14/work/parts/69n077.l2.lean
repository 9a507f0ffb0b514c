/-! what is not compared: searches, and what the law's loop needs of the whole state -/
section LZ
variable {bB : Int}
variable {s s2 : zS}
/-- the class's searches leave the relation -/
theorem zRZ_Q (H : zRZ bB s) (h6 : s 7 8 ≤ 6) (q : zQf s s2) : zRZ bB s2 := by
  obtain ⟨A, B, C, ⟨n, m, D, E⟩, I⟩ := H
  have o : ∀ x, x < 224 ∨ 240 ≤ x → s2 x = s x := fun x hx => q x (by omega)
  have e7 : s2 7 8 = s 7 8 := by rw [o 7 (by omega)]
  exact ⟨zgA_c A (by rw [o 8 (by omega)]) (o 9 (by omega)) (by rw [o 344 (by omega)]) (o 345 (by omega)), zgB_c B h6 e7 (fun x x1 x2 => o x (by omega)) (fun x x1 x2 => o x (by omega)) (by rw [o 344 (by omega)]), zgC_c C e7 (by rw [o 10 (by omega)]) (by rw [o 10 (by omega)]) (by rw [o 344 (by omega)]) (by rw [o 344 (by omega)]), ⟨n, m, zgD_c D (fun x x1 x2 => o x (by omega)) (by rw [o 10 (by omega)]) (o 354 (by omega)), zgE_c E (by rw [o 40 (by omega)]) (by rw [o 40 (by omega)]) (fun x x1 x2 => o x (by omega)) (by rw [o 344 (by omega)]) (o 356 (by omega)) (o 354 (by omega))⟩, zgF_c I (by rw [e7]; exact Int.le_refl _) (fun x x1 x2 => o x (by omega)) (fun x x1 x2 => o x (by omega))⟩
/-- the reference's searches leave the relation, too -/
def zWf (s s2 : zS) : Prop := (∀ x, 7 ≤ x → (x < 344 ∨ (345 ≤ x ∧ x ≤ 349) ∨ x = 354 ∨ x = 356 ∨ (360 ≤ x ∧ x ≤ 363)) → s2 x = s x) ∧ ∀ y, (y = 1 ∨ y = 2 ∨ y = 21 ∨ y = 22 ∨ y = 26) → s2 344 y = s 344 y
theorem zRZ_W (H : zRZ bB s) (h6 : s 7 8 ≤ 6) (q : zWf s s2) : zRZ bB s2 := by
  obtain ⟨A, B, C, ⟨n, m, D, E⟩, I⟩ := H
  obtain ⟨o, p⟩ := q
  have e7 : s2 7 8 = s 7 8 := by rw [o 7 (by omega) (by omega)]
  exact ⟨zgA_c A (by rw [o 8 (by omega) (by omega)]) (o 9 (by omega) (by omega)) (p 1 (by omega)) (o 345 (by omega) (by omega)), zgB_c B h6 e7 (fun x x1 x2 => o x (by omega) (by omega)) (fun x x1 x2 => o x (by omega) (by omega)) (p 2 (by omega)), zgC_c C e7 (by rw [o 10 (by omega) (by omega)]) (by rw [o 10 (by omega) (by omega)]) (p 21 (by omega)) (p 22 (by omega)), ⟨n, m, zgD_c D (fun x x1 x2 => o x (by omega) (by omega)) (by rw [o 10 (by omega) (by omega)]) (o 354 (by omega) (by omega)), zgE_c E (by rw [o 40 (by omega) (by omega)]) (by rw [o 40 (by omega) (by omega)]) (fun x x1 x2 => o x (by omega) (by omega)) (p 26 (by omega)) (o 356 (by omega) (by omega)) (o 354 (by omega) (by omega))⟩, zgF_c I (by rw [e7]; exact Int.le_refl _) (fun x x1 x2 => o x (by omega) (by omega)) (fun x x1 x2 => o x (by omega) (by omega))⟩
/-- what the reference's searches need -/
theorem zRZ_J (H : zRZ bB s) (h6 : s 7 8 ≤ 6) (h7 : 0 ≤ s 10 7 ∧ s 10 7 < 2147483648) : ∃ (n m : Nat) (U : (Int → Int) → Int), zJg (s 354) (s 344 21) s n m U ∧ zJb (s 354) (s 344 21) s s ∧ (s 354 1 ≠ 0 → 0 < s 354 0 ∧ s 354 0 < 2147483648) ∧ zJf (s 354) (s 344 21) s s := by
  obtain ⟨A, B, C, ⟨n, m, D, E⟩, I⟩ := H
  obtain ⟨U, uC, uM⟩ := zUw B h6 C
  obtain ⟨⟨g1, g2, g3, g4, g5, g6, g7, -⟩, -⟩ := D.2.1
  have c1 := C.1
  have c3 := C.2.2
  have b : zJb (s 354) (s 344 21) s s := ⟨rfl, rfl, fun _ _ _ => rfl⟩
  refine ⟨n, m, U, ⟨g1, g2, g3, g4, fun q => ?_⟩, b, fun q => ?_, b, by rw [← c3]; exact h7, trivial⟩
  · rw [← c1] at q ⊢
    exact uM q s (fun _ _ _ => rfl)
  · rw [g1] at q
    have := g7 (by omega)
    omega
end LZ
/-! a method's run, with its frame as a whole -/
section LM
variable {bB : Int}
variable {G G' : xm_H} {s s' : zS} {md : yM}
noncomputable def zmix (md : yM) (G : xm_H) (s s' : zS) : zS := fun a b => @ite Int (xm_hget G a.toNat ≠ none ∧ ¬ (ym_mod md (yr_of a.toNat) b.toNat = true)) (Classical.propDecidable _) (s a b) (s' a b)
theorem zmix_R (hF : ys_Fr md G G') (hR : zR G s) (hR' : zR G' s') : zR G' (zmix md G s s') := by
  intro j t vs' ho
  obtain ⟨k1, k2⟩ := hR' j t vs' ho
  refine ⟨k1, fun i v hv => ?_⟩
  obtain ⟨v1, v2, v3⟩ := k2 i v hv
  refine ⟨v1, v2, ?_⟩
  cases hz : zcon t j i with
  | some c =>
    rw [hz] at v3
    exact v3
  | none =>
    rw [hz] at v3
    show zi v = zmix md G s s' j i
    unfold zmix
    rw [Int.toNat_natCast, Int.toNat_natCast]
    by_cases c : xm_hget G j ≠ none ∧ ¬ (ym_mod md (yr_of j) i = true)
    · rw [if_pos c]
      obtain ⟨c1, c2⟩ := c
      cases hg : xm_hget G j with
      | none => exact absurd hg c1
      | some o =>
        obtain ⟨t0, vs⟩ := o
        obtain ⟨ws, w1, w2, w3⟩ := hF j t0 vs hg
        rw [ho] at w1
        injection w1 with w1
        injection w1 with w4 w5
        subst w4
        subst w5
        have hi : i < vs.length := by
          rw [← w2]
          exact (List.getElem?_eq_some_iff.mp hv).1
        have h := (w3 i _ (List.getElem?_eq_getElem hi)).resolve_left c2
        rw [hv] at h
        injection h with h
        have b := ((hR j t vs hg).2 i _ (List.getElem?_eq_getElem hi)).2.2
        rw [hz] at b
        rw [h]
        exact b
    · rw [if_neg c]
      exact v3
/-- which cells and places a frame must not name -/
noncomputable def zfn (md : yM) (j : Nat) : Bool := (yr_row (yr_of j)).isSome && md.all (fun q => !(Nat.beq q.1 (yr_of j)))
noncomputable def zfz (md : yM) : Bool := (List.range 337).all (fun j => zfn md (j + 7)) && ([345, 346, 347, 348, 349, 356, 360, 361, 362, 363].all (zfn md) && ((yr_row (yr_of 354)).isSome && ((yr_row (yr_of 344)).isSome && md.all (fun q => !(Nat.beq q.1 (yr_of 344)) || (!(Nat.beq q.2 1) && (!(Nat.beq q.2 2) && (!(Nat.beq q.2 21) && (!(Nat.beq q.2 22) && (!(Nat.beq q.2 26) && !(Nat.beq q.2 100000))))))))))
theorem zmod_no : ∀ {md : yM} {r i : Nat}, (∀ q ∈ md, ¬ (q.1 = r ∧ (q.2 = i ∨ q.2 = 100000))) → ¬ (ym_mod md r i = true)
  | [], r, i, _ => fun h => by cases h
  | q :: md, r, i, h => fun z => by
    have z : ((Nat.beq q.1 r && (Nat.beq q.2 i || Nat.beq q.2 100000)) || ym_mod md r i) = true := z
    rw [Bool.or_eq_true, Bool.and_eq_true, Bool.or_eq_true] at z
    rcases z with ⟨z1, z2⟩ | z
    · exact h q List.mem_cons_self ⟨Nat.eq_of_beq_eq_true z1, z2.imp Nat.eq_of_beq_eq_true Nat.eq_of_beq_eq_true⟩
    · exact zmod_no (fun q hq => h q (List.mem_cons_of_mem _ hq)) z
theorem zhas (hT : ys_HT G) {j : Nat} (h : (yr_row (yr_of j)).isSome = true) : xm_hget G j ≠ none := by
  obtain ⟨q, hq⟩ := Option.isSome_iff_exists.mp h
  obtain ⟨vs, v1, -⟩ := hT j q hq
  rw [v1]
  exact Option.some_ne_none _
theorem zfn_ok (hT : ys_HT G) {j : Nat} (h : zfn md j = true) : zmix md G s s' (j : Int) = s (j : Int) := by
  unfold zfn at h
  rw [Bool.and_eq_true, List.all_eq_true] at h
  obtain ⟨h1, h2⟩ := h
  funext b
  unfold zmix
  rw [Int.toNat_natCast, if_pos ⟨zhas hT h1, zmod_no (fun q hq z => by
    have := h2 q hq
    rw [z.1] at this
    rw [Nat.beq_refl] at this
    cases this)⟩]
theorem zfz_ok (hT : ys_HT G) (h : zfz md = true) (e : s' 354 = s 354) : zWf s (zmix md G s s') := by
  unfold zfz at h
  rw [Bool.and_eq_true, Bool.and_eq_true, Bool.and_eq_true, Bool.and_eq_true, List.all_eq_true, List.all_eq_true, List.all_eq_true] at h
  obtain ⟨h1, h2, h3, h4, h5⟩ := h
  refine ⟨fun x x0 hx => ?_, fun y hy => ?_⟩
  · obtain ⟨j, rfl⟩ := Int.eq_ofNat_of_zero_le (show 0 ≤ x by omega)
    by_cases c : j = 354
    · subst c
      funext b
      unfold zmix
      split
      · rfl
      · exact congrFun e b
    · by_cases d : j < 344
      · have h7 := h1 (j - 7) (List.mem_range.mpr (by omega))
        rw [show j - 7 + 7 = j by omega] at h7
        exact zfn_ok hT h7
      · exact zfn_ok hT (h2 j (by
          rcases (show j = 345 ∨ j = 346 ∨ j = 347 ∨ j = 348 ∨ j = 349 ∨ j = 356 ∨ j = 360 ∨ j = 361 ∨ j = 362 ∨ j = 363 by omega) with rfl | rfl | rfl | rfl | rfl | rfl | rfl | rfl | rfl | rfl <;> decide))
  · have key : ∀ k : Nat, (k = 1 ∨ k = 2 ∨ k = 21 ∨ k = 22 ∨ k = 26) → zmix md G s s' 344 ((k : Nat) : Int) = s 344 ((k : Nat) : Int) := fun k hk => by
      unfold zmix
      rw [show (344 : Int).toNat = 344 from rfl, Int.toNat_natCast, if_pos ⟨zhas hT h4, zmod_no (fun q hq z => by
        have w := h5 q hq
        rw [z.1, Nat.beq_refl] at w
        have w : (!(Nat.beq q.2 1) && (!(Nat.beq q.2 2) && (!(Nat.beq q.2 21) && (!(Nat.beq q.2 22) && (!(Nat.beq q.2 26) && !(Nat.beq q.2 100000)))))) = true := w
        have z2 := z.2
        generalize q.2 = u at w z2
        rcases z2 with rfl | rfl
        · rcases hk with rfl | rfl | rfl | rfl | rfl <;> cases w
        · cases w)⟩]
    rcases hy with rfl | rfl | rfl | rfl | rfl
    · exact key 1 (by omega)
    · exact key 2 (by omega)
    · exact key 21 (by omega)
    · exact key 22 (by omega)
    · exact key 26 (by omega)
theorem zU_mx {I : yI} {Inv : xm_H → Prop} {d r1 nL n mc ms : Nat} {y : MethodName} {r3 : ByteArray} {ret : Option FieldType} {c : List xm_E} (hc : yc_ok Inv I (xm_exec d)) (hok : zokm I.1 = true) (hm : xm_nth xm_mtab I.1 = some (r1, y, r3, nL, ret, n, mc, ms, c)) {G : xm_H} {As : List Value} {zs : List zV} {E : xm_R} {Q : xm_Q} {s : zS} (hT : ys_HT G) (hI : Inv G) (hA : ys_args As I.2.1) (hf : ys_facts G (fun i => As[i]?) I.2.2.1) (ha : zsr As zs) (hR : zR G s) (hQ : ∀ (v : Option Value) (G' : xm_H) (s' : zS) (r : Int), ys_HT G' → Inv G' → ys_Fr I.2.2.2.2 G G' → (∃ c ∈ I.2.2.2.1, ys_case c As v G') → zres ret v r → zR G' s' → zR G' (zmix I.2.2.2.2 G s s') → zE c (zpad nL (zslots zs)) s r s' → Q v G' E = true) : xm_exec d I.1 As G E Q = true := by
  obtain ⟨r, s', hE, -⟩ := zE_of (m := 0) hc hok hm E hT hI hA hf ha hR
  exact zE_use (m := 0) hc hm hT hI hA hf ha hR hE (fun v G' a b c d e f => hQ v G' s' r a b c d e f (zmix_R c hR f) hE)
end LM
