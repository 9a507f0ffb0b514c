/-! starts in the class -/
/-- the starts that were found so far, in the class -/
def zCL (A : Nat × Nat → Nat → Int) (n : Nat) (u : zS) (L : List (Nat × Nat)) : Prop := u 224 8 = ((L.length : Nat) : Int) ∧ (L.length ≠ 0 → u 224 9 = (((znt L 0).1 : Nat) : Int) ∧ u 224 10 = (((znt L 0).2 : Nat) : Int)) ∧ ∀ i q : Nat, i < L.length → q < n → u 235 (((i : Nat) : Int) * 7 + ((q : Nat) : Int)) = A (znt L i) q
/-- that start fits the news -/
def zok (σ : Int → Int) (n m : Nat) (F : Int) (U : (Int → Int) → Int) (B M : Nat) (p b : Nat) : Bool := zNs σ (zfin σ n m F U B p b) M
/-- who is deaf -/
def zdf (σ : Int → Int) (p : Nat) : Bool := decide (¬ zpe σ ((p : Nat) : Int) 6 = 0)
/-- what one answers behind a start -/
def zan (σ : Int → Int) (n m : Nat) (F : Int) (U : (Int → Int) → Int) (B : Nat) (x : Nat × Nat) (q : Nat) : Int := znf (zfin σ n m F U B x.1 x.2) ((q : Nat) : Int)
/-- how many bells are tried -/
def zMx (B : Nat) : Nat := if B < 40 then B + 1 else 41
/-- all the starts -/
def zall (σ : Int → Int) (n m : Nat) (F : Int) (U : (Int → Int) → Int) (B M : Nat) : Nat → List (Nat × Nat) := zlp (zok σ n m F U B M) (zdf σ) (zMx B)
section NC
variable {bB : Int} {σ τ : Int → Int} {n m K B M : Nat} {F : Int} {U : (Int → Int) → Int} {s t : zS} {a c x y f h : Int} {p q b i : Nat} {A : Nat × Nat → Nat → Int} {L : List (Nat × Nat)}
theorem zlA {x : Nat × Nat} : (L ++ [x]).length = L.length + 1 := by
  rw [List.length_append]
  rfl
theorem zMx_r : zMx B ≤ 41 := by
  unfold zMx
  by_cases c : B < 40
  · rw [if_pos c]
    omega
  · rw [if_neg c]
    exact Nat.le_refl _
theorem zMx_b : b < zMx B ↔ b ≤ 40 ∧ b ≤ B := by
  unfold zMx
  by_cases c : B < 40
  · rw [if_pos c]
    omega
  · rw [if_neg c]
    omega
theorem zB_51 {G : Nat} {R : Int × zS} (h7 : n ≤ 7) (hL : zRL t 230 τ n) (hC : zCL A n t L) (hl : L.length < 287) (hA : ∀ q : Nat, q < n → A (p, b) q = znf τ ((q : Nat) : Int)) (e0 : zG G xm_c51 0 [224, ((p : Nat) : Int), ((b : Nat) : Int), 0] [] t R) : zCL A n R.2 (L ++ [(p, b)]) ∧ (∀ x, x ≠ 224 → x ≠ 235 → R.2 x = t x) ∧ ∀ y, y ≠ 8 → y ≠ 9 → y ≠ 10 → R.2 224 y = t 224 y := by
  obtain ⟨C1, C2, C3⟩ := hC
  have l9 : ((L.length : Nat) : Int) < 287 := Int.ofNat_lt.mpr hl
  have l0 : (0 : Int) ≤ ((L.length : Nat) : Int) := Int.natCast_nonneg _
  have loop : ∀ (G k : Nat) (u : zS) (R : Int × zS), k ≤ 7 → u 224 8 = ((L.length : Nat) : Int) → (u 224 9 = (((znt (L ++ [(p, b)]) 0).1 : Nat) : Int) ∧ u 224 10 = (((znt (L ++ [(p, b)]) 0).2 : Nat) : Int)) → (∀ i q : Nat, i < L.length → q < n → u 235 (((i : Nat) : Int) * 7 + ((q : Nat) : Int)) = A (znt L i) q) → (∀ q : Nat, q < k → q < n → u 235 (((L.length : Nat) : Int) * 7 + ((q : Nat) : Int)) = znf τ ((q : Nat) : Int)) → (∀ x, x ≠ 224 → x ≠ 235 → u x = t x) → (∀ y, y ≠ 8 → y ≠ 9 → y ≠ 10 → u 224 y = t 224 y) → zG G xm_c51 11 [224, ((p : Nat) : Int), ((b : Nat) : Int), ((k : Nat) : Int)] [] u R → zCL A n R.2 (L ++ [(p, b)]) ∧ (∀ x, x ≠ 224 → x ≠ 235 → R.2 x = t x) ∧ ∀ y, y ≠ 8 → y ≠ 9 → y ≠ 10 → R.2 224 y = t 224 y := by
    intro G
    induction G using Nat.strongRecOn with
    | _ G ih =>
      intro k u R hk u8 u9 uA uK uo uy e0
      obtain ⟨F1, l1, ⟨c1, e1⟩ | ⟨c1, e1⟩⟩ := zi_51_11 e0
      · have k7 : k < 7 := by
          clear ih uA uK uo uy C3 hA
          omega
        have en : zw (((k : Nat) : Int) + 1) = ((k + 1 : Nat) : Int) := by
          clear ih uA uK uo uy C3 hA
          exact zw_id (by omega) (by omega)
        obtain ⟨F2, l2, ⟨c2, e2⟩ | ⟨c2, e2⟩⟩ := zi_51_14 e1
        · obtain ⟨F3, l3, r3, s3, q3, e3⟩ := zi_51_18 e2
          have es : s3 = u := zB_40a (R := (r3, s3)) q3
          have ev : k < n → r3 = znf τ ((k : Nat) : Int) := fun kn => by
            have kk := zB_40 (R := (r3, s3)) h7 (zRL_c hL (fun x x1 x2 => uo x (by omega) (by omega))) kn q3
            exact (zpr kk).1
          subst es
          obtain ⟨F4, l4, e4⟩ := zi_51_30 e3
          have ei : zw (zw (s3 224 8 * 7) + ((k : Nat) : Int)) = ((L.length : Nat) : Int) * 7 + ((k : Nat) : Int) := by
            rw [u8]
            clear ih uA uK uo uy C3 hA ev
            rw [zw_id (x := ((L.length : Nat) : Int) * 7) (by omega) (by omega), zw_id (by omega) (by omega)]
          rw [ei, en] at e4
          have o : ∀ x, x ≠ 235 → zu s3 (224 + 11) (((L.length : Nat) : Int) * 7 + ((k : Nat) : Int)) r3 x = s3 x := fun x hx => funext (fun y => zu_cell hx)
          have hit : ∀ z, zu s3 (224 + 11) (((L.length : Nat) : Int) * 7 + ((k : Nat) : Int)) r3 235 z = if z = ((L.length : Nat) : Int) * 7 + ((k : Nat) : Int) then r3 else s3 235 z := fun z => zu2
          refine ih F4 (Nat.lt_trans l4 (Nat.lt_trans l3 (Nat.lt_trans l2 l1))) (k + 1) _ R k7 ?_ ?_ (fun i q hi hq => ?_) (fun q hq hn => ?_) (fun x x1 x2 => ?_) (fun y y1 y2 y3 => ?_) e4
          · rw [o 224 (by decide)]
            exact u8
          · rw [o 224 (by decide)]
            exact u9
          · rw [hit, if_neg (by clear ih uA uK uo uy C3 hA ev ei hit o; omega)]
            exact uA i q hi hq
          · rw [hit]
            by_cases e : q = k
            · rw [e, if_pos rfl]
              exact ev (by rw [← e]; exact hn)
            · rw [if_neg (by clear ih uA uK uo uy C3 hA ev ei hit o; omega)]
              exact uK q (Nat.lt_of_le_of_ne (Nat.le_of_lt_succ hq) e) hn
          · rw [o x x2]
            exact uo x x1 x2
          · rw [o 224 (by decide)]
            exact uy y y1 y2 y3
        · exfalso
          rw [u8] at c2
          exact c2 l9
      · have k7 : k = 7 := by
          clear ih uA uK uo uy C3 hA
          omega
        have k4 := zi_51_33 e1
        rw [k4]
        have ew : zw (u 224 8 + 1) = ((L.length + 1 : Nat) : Int) := by
          rw [u8]
          clear ih uA uK uo uy C3 hA
          rw [zw_id (by omega) (by omega)]
          omega
        have o : ∀ x, x ≠ 224 → zu u 224 8 (zw (u 224 8 + 1)) x = u x := fun x hx => funext (fun y => zu_cell hx)
        refine ⟨⟨?_, fun _ => ⟨?_, ?_⟩, fun i q hi hq => ?_⟩, fun x x1 x2 => ?_, fun y y1 y2 y3 => ?_⟩
        · show zu u 224 8 (zw (u 224 8 + 1)) 224 8 = _
          rw [zu_hit, ew, zlA]
        · show zu u 224 8 (zw (u 224 8 + 1)) 224 9 = _
          rw [zu_place (by decide)]
          exact u9.1
        · show zu u 224 8 (zw (u 224 8 + 1)) 224 10 = _
          rw [zu_place (by decide)]
          exact u9.2
        · show zu u 224 8 (zw (u 224 8 + 1)) 235 _ = _
          rw [o 235 (by decide)]
          rw [zlA] at hi
          by_cases d : i < L.length
          · rw [znt_l _ _ _ d]
            exact uA i q d hq
          · have ei : i = L.length := Nat.le_antisymm (Nat.le_of_lt_succ hi) (Nat.not_lt.mp d)
            rw [ei, znt_e, hA q hq]
            exact uK q (by rw [k7]; exact Nat.lt_of_lt_of_le hq h7) hq
        · show zu u 224 8 (zw (u 224 8 + 1)) x = _
          rw [o x x1]
          exact uo x x1 x2
        · show zu u 224 8 (zw (u 224 8 + 1)) 224 y = _
          rw [zu_place y1]
          exact uy y y1 y2 y3
  obtain ⟨F1, l1, ⟨c1, e1⟩ | ⟨c1, e1⟩⟩ := zi_51_0 e0
  · obtain ⟨F2, l2, e2⟩ := zi_51_3 e1
    have L0 : L.length = 0 := by
      rw [C1] at c1
      exact Int.ofNat.inj c1
    have Ln : L = [] := List.eq_nil_of_length_eq_zero L0
    have z0 : znt (L ++ [(p, b)]) 0 = (p, b) := by
      rw [Ln]
      rfl
    refine loop F2 0 _ R (Nat.zero_le 7) ?_ ⟨?_, ?_⟩ (fun i q hi hq => ?_) (fun q hq => absurd hq (Nat.not_lt_zero q)) (fun x x1 x2 => ?_) (fun y y1 y2 y3 => ?_) e2
    · rw [zu_place (by decide), zu_place (by decide)]
      exact C1
    · rw [z0, zu_place (by decide), zu_hit]
    · rw [z0, zu_hit]
    · rw [L0] at hi
      exact absurd hi (Nat.not_lt_zero i)
    · exact funext (fun y => by rw [zu_cell x1, zu_cell x1])
    · rw [zu_place y3, zu_place y2]
  · obtain ⟨F2, l2, e2⟩ := zi_51_9 e1
    have L0 : L.length ≠ 0 := fun q => c1 (by
      rw [C1, q]
      rfl)
    have z0 : znt (L ++ [(p, b)]) 0 = znt L 0 := znt_l _ _ _ (Nat.pos_of_ne_zero L0)
    obtain ⟨d1, d2⟩ := C2 L0
    exact loop F2 0 t R (Nat.zero_le 7) C1 ⟨by rw [z0]; exact d1, by rw [z0]; exact d2⟩ C3 (fun q hq => absurd hq (Nat.not_lt_zero q)) (fun _ _ _ => rfl) (fun _ _ _ _ => rfl) e2
end NC
