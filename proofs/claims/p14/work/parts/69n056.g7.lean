/-! a bell's tellings in the class -/
/-- who has learnt it at this bell: dn -/
def zLd (t : zS) (l : Int) (τ : Int → Int) (n : Nat) (T : Int → Int) (bl : Int) (dn : Nat → Prop) [DecidablePred dn] : Prop := t l 0 = zfs (fun p => zkn τ p ∨ dn p) n ∧ ∀ p : Nat, p < n → t (l + 1) ((p : Nat) : Int) = (if dn p then bl else zpe τ ((p : Nat) : Int) 8) ∧ t (l + 2) ((p : Nat) : Int) = (if dn p then zclm (zw (zpe τ (T ((p : Nat) : Int)) 9 + zpe τ (T ((p : Nat) : Int)) 7)) else zpe τ ((p : Nat) : Int) 9) ∧ t (l + 3) ((p : Nat) : Int) = (if dn p then T ((p : Nat) : Int) else zpe τ ((p : Nat) : Int) 10)
theorem zLd_iff {t : zS} {l : Int} {τ : Int → Int} {n : Nat} {T : Int → Int} {bl : Int} {dn dn' : Nat → Prop} [DecidablePred dn] [DecidablePred dn'] (h : zLd t l τ n T bl dn) (e : ∀ p : Nat, p < n → (dn' p ↔ dn p)) : zLd t l τ n T bl dn' := by
  obtain ⟨a, b⟩ := h
  refine ⟨by rw [a]; exact zfo_congr n (fun p hp => by rw [e p hp]), fun p hp => ?_⟩
  obtain ⟨b1, b2, b3⟩ := b p hp
  by_cases c : dn p
  · rw [if_pos c] at b1 b2 b3
    rw [if_pos ((e p hp).mpr c), if_pos ((e p hp).mpr c), if_pos ((e p hp).mpr c)]
    exact ⟨b1, b2, b3⟩
  · rw [if_neg c] at b1 b2 b3
    rw [if_neg (fun z => c ((e p hp).mp z)), if_neg (fun z => c ((e p hp).mp z)), if_neg (fun z => c ((e p hp).mp z))]
    exact ⟨b1, b2, b3⟩
theorem zclm_c {x : Int} : (if (-999) < if x < 999 then x else 999 then if x < 999 then x else 999 else (-999)) = zclm x := by
  unfold zclm
  by_cases a : x < 999
  · rw [if_pos a]
    by_cases b : -999 < x
    · rw [if_pos b, if_neg (by omega), if_neg (by omega)]
    · rw [if_neg b]
      by_cases c : x < -999
      · rw [if_pos c]
      · rw [if_neg c, if_neg (by omega)]
        omega
  · rw [if_neg a, if_pos (by decide), if_neg (by omega)]
    by_cases c : 999 < x
    · rw [if_pos c]
    · rw [if_neg c]
      omega
/-- a person learns it -/
theorem zo_learn {t : zS} {l : Int} {τ : Int → Int} {n p : Nat} {T : Int → Int} {bl : Int} {dn dn' : Nat → Prop} [DecidablePred dn] [DecidablePred dn'] (hp : p < n) (h : zLd t l τ n T bl dn) (hn : ¬ dn p) (e : ∀ q : Nat, q < n → (dn' q ↔ dn q ∨ q = p)) : ∃ t', zE xm_c38 [l, ((p : Nat) : Int), zw (zpe τ (T ((p : Nat) : Int)) 9 + zpe τ (T ((p : Nat) : Int)) 7), T ((p : Nat) : Int), bl] t 0 t' ∧ zLd t' l τ n T bl dn' ∧ ∀ x, ¬ (l ≤ x ∧ x ≤ l + 3) → t' x = t x := by
  obtain ⟨a, b⟩ := h
  refine ⟨zu (zu (zu (zu t l 0 (zor (t l 0) (zshl 1 ((p : Nat) : Int)))) (l + 1) ((p : Nat) : Int) bl) (l + 2) ((p : Nat) : Int) (zclm (zw (zpe τ (T ((p : Nat) : Int)) 9 + zpe τ (T ((p : Nat) : Int)) 7)))) (l + 3) ((p : Nat) : Int) (T ((p : Nat) : Int)), zb_38_0 (by rw [zclm_c]), ⟨?_, fun q hq => ?_⟩, fun x hx => funext (fun y => by rw [zu_cell (by omega), zu_cell (by omega), zu_cell (by omega), zu_cell (by omega)])⟩
  · rw [zu_cell (by omega), zu_cell (by omega), zu_cell (by omega), zu_hit, a]
    refine (zfo_add n hp (fun k hk => ?_)).symm
    rw [e k hk]
    exact ⟨fun z => z.elim (fun z => Or.inl (Or.inl z)) (fun z => z.elim (fun z => Or.inl (Or.inr z)) Or.inr), fun z => z.elim (fun z => z.elim Or.inl (fun z => Or.inr (Or.inl z))) (fun z => Or.inr (Or.inr z))⟩
  · obtain ⟨b1, b2, b3⟩ := b q hq
    by_cases c : q = p
    · subst c
      have d : dn' q := (e q hq).mpr (Or.inr rfl)
      rw [if_pos d, if_pos d, if_pos d]
      refine ⟨?_, ?_, zu_hit⟩
      · rw [zu_cell (by omega), zu_cell (by omega), zu_hit]
      · rw [zu_cell (by omega), zu_hit]
    · have ne : ((q : Nat) : Int) ≠ ((p : Nat) : Int) := fun z => c (Int.ofNat.inj z)
      have v1 : zu (zu (zu (zu t l 0 (zor (t l 0) (zshl 1 ((p : Nat) : Int)))) (l + 1) ((p : Nat) : Int) bl) (l + 2) ((p : Nat) : Int) (zclm (zw (zpe τ (T ((p : Nat) : Int)) 9 + zpe τ (T ((p : Nat) : Int)) 7)))) (l + 3) ((p : Nat) : Int) (T ((p : Nat) : Int)) (l + 1) ((q : Nat) : Int) = t (l + 1) ((q : Nat) : Int) := by
        rw [zu_cell (by omega), zu_cell (by omega), zu_place ne, zu_cell (by omega)]
      have v2 : zu (zu (zu (zu t l 0 (zor (t l 0) (zshl 1 ((p : Nat) : Int)))) (l + 1) ((p : Nat) : Int) bl) (l + 2) ((p : Nat) : Int) (zclm (zw (zpe τ (T ((p : Nat) : Int)) 9 + zpe τ (T ((p : Nat) : Int)) 7)))) (l + 3) ((p : Nat) : Int) (T ((p : Nat) : Int)) (l + 2) ((q : Nat) : Int) = t (l + 2) ((q : Nat) : Int) := by
        rw [zu_cell (by omega), zu_place ne, zu_cell (by omega), zu_cell (by omega)]
      have v3 : zu (zu (zu (zu t l 0 (zor (t l 0) (zshl 1 ((p : Nat) : Int)))) (l + 1) ((p : Nat) : Int) bl) (l + 2) ((p : Nat) : Int) (zclm (zw (zpe τ (T ((p : Nat) : Int)) 9 + zpe τ (T ((p : Nat) : Int)) 7)))) (l + 3) ((p : Nat) : Int) (T ((p : Nat) : Int)) (l + 3) ((q : Nat) : Int) = t (l + 3) ((q : Nat) : Int) := by
        rw [zu_place ne, zu_cell (by omega), zu_cell (by omega), zu_cell (by omega)]
      rw [v1, v2, v3, b1, b2, b3]
      by_cases d : dn q
      · have d' : dn' q := (e q hq).mpr (Or.inl d)
        rw [if_pos d, if_pos d, if_pos d, if_pos d', if_pos d', if_pos d']
        exact ⟨rfl, rfl, rfl⟩
      · have d' : ¬ dn' q := fun z => ((e q hq).mp z).elim d c
        rw [if_neg d, if_neg d, if_neg d, if_neg d', if_neg d', if_neg d']
        exact ⟨rfl, rfl, rfl⟩
/-- who has learnt it when the floors below f are through, and on f those below p -/
abbrev zdP (σ : Int → Int) (m : Nat) (T : Int → Int) (f : Int) (p q : Nat) : Prop := ¬ T ((q : Nat) : Int) < 0 ∧ (zvA σ m ((q : Nat) : Int) < f ∨ (zvA σ m ((q : Nat) : Int) = f ∧ q < p))
/-- who may hear it on a floor -/
abbrev zHe (σ : Int → Int) (n m : Nat) (f : Int) (p : Nat) : Prop := (zpnd σ m f p ∧ ¬ zkn (zsA σ m n) p) ∧ ¬ zpe σ ((p : Nat) : Int) 6 = 1
/-- what stays while a bell's tellings go on: the rest, and three words -/
def zFrg (t0 t : zS) (l : Int) (σ : Int → Int) (n m : Nat) : Prop := (∀ x, x ≠ 238 → x ≠ 239 → ¬ (l ≤ x ∧ x ≤ l + 3) → t x = t0 x) ∧ t 238 3 = σ 4 ∧ t 238 8 = zbc (zfs (zkn (zsA σ m n)) n) ∧ t 238 9 = (if 0 ≤ σ 5 ∧ σ 5 ≤ σ 4 then 1 else 0)
/-- the house's picture but for who is deaf -/
def zRHw (s : zS) (h : Int) (σ : Int → Int) (n m : Nat) : Prop := (s h 0 = σ 0 ∧ s h 1 = σ 1 ∧ s h 2 = σ 2 ∧ s h 5 = σ 145 ∧ s h 6 = σ 9 ∧ s h 7 = σ 5 ∧ (σ 0 ≠ 0 → s h 8 = σ 6 ∧ s h 9 = σ 7)) ∧ (∀ p : Nat, p < n → s (h + 1) ((p : Nat) : Int) = zpe σ ((p : Nat) : Int) 4 ∧ s (h + 2) ((p : Nat) : Int) = σ (138 + ((p : Nat) : Int)) ∧ s (h + 3) ((p : Nat) : Int) = zpe σ ((p : Nat) : Int) 5 ∧ s (h + 4) ((p : Nat) : Int) = zpe σ ((p : Nat) : Int) 7 ∧ True) ∧ ∀ e : Nat, e < m → s (h + 5) ((e : Nat) : Int) = σ (87 + 3 * ((e : Nat) : Int)) ∧ s (h + 6) ((e : Nat) : Int) = σ (87 + 3 * ((e : Nat) : Int) + 1) ∧ s (h + 7) ((e : Nat) : Int) = σ (87 + 3 * ((e : Nat) : Int) + 2)
theorem zRH_w {s : zS} {h : Int} {σ : Int → Int} {n m : Nat} (H : zRH s h σ n m) : zRHw s h σ n m := ⟨H.1, fun p hp => ⟨(H.2.1 p hp).1, (H.2.1 p hp).2.1, (H.2.1 p hp).2.2.1, (H.2.1 p hp).2.2.2.1, trivial⟩, H.2.2⟩
/-- what a bell's tellings in the class look at -/
def zRg (bB : Int) (t0 : zS) (σ : Int → Int) (n m : Nat) (l F : Int) (U : (Int → Int) → Int) : Prop := zGs bB σ n m ∧ zGt σ ∧ zRHw t0 11 σ n m ∧ zRc t0 F U ∧ (t0 237 2 = σ 8 ∧ ∀ p : Nat, p < n → zbt (t0 237 3) ((p : Nat) : Int) = zpe σ ((p : Nat) : Int) 6) ∧ (∀ p : Nat, p < n → 0 ≤ zvA σ m ((p : Nat) : Int) ∧ zvA σ m ((p : Nat) : Int) < σ 0) ∧ 24 ≤ l ∧ l + 3 < 237
section GR
variable {bB : Int}
variable {t0 t : zS} {σ T : Int → Int} {n m : Nat} {l F f K x6 Q x14 : Int} {U : (Int → Int) → Int} {p : Nat}
theorem zRc_k (hR : zRc t0 F U) (hl : 24 ≤ l ∧ l + 3 < 237) (hf : ∀ x, x ≠ 238 → x ≠ 239 → ¬ (l ≤ x ∧ x ≤ l + 3) → t x = t0 x) : zRc t F U := by
  obtain ⟨a, b⟩ := hR
  have e : t 237 1 = t0 237 1 := by rw [hf 237 (by decide) (by decide) (by omega)]
  refine ⟨by rw [e]; exact a, fun h t1 ws c d => ?_⟩
  rw [e]
  exact b h t1 ws (fun x x1 x2 => by rw [c x x1 x2, hf x (by omega) (by omega) (by omega)]) d
/-- one person at a floor's tellings -/
theorem zo_person (hg : zRg bB t0 σ n m l F U) (hT : T = zto (zsA σ m n) (zfs (zvD σ m) n) n F U) (hf0 : 0 ≤ f) (hf8 : f ≤ 8) (hp : p < n) (hfr : zFrg t0 t l σ n m) (w2 : t 238 2 = f) (w7 : t 238 7 = zct (zpnd σ m f) n - 2) (hd : zLd t l (zsA σ m n) n T (σ 4) (zdP σ m T f p)) : ∃ t' x14', (∀ R, zA xm_c13 126 [237, l, zlan σ m n, 0, σ 4, K, x6, Q, f, zfs (zpnd σ m f) n, zfs (zHe σ n m f) n, (if zqt (zsA σ m n) f then 0 else zfs (zteT σ n m f) n), zcal σ n m f, ((p + 1 : Nat) : Int), x14'] [] t' R → zA xm_c13 126 [237, l, zlan σ m n, 0, σ 4, K, x6, Q, f, zfs (zpnd σ m f) n, zfs (zHe σ n m f) n, (if zqt (zsA σ m n) f then 0 else zfs (zteT σ n m f) n), zcal σ n m f, ((p : Nat) : Int), x14] [] t R) ∧ zFrg t0 t' l σ n m ∧ t' 238 2 = f ∧ t' 238 7 = zct (zpnd σ m f) n - 2 ∧ zLd t' l (zsA σ m n) n T (σ 4) (zdP σ m T f (p + 1)) := by
  obtain ⟨hG, hGt, hH, hR, ⟨hpl, hdf⟩, hA, l0, l1⟩ := hg
  have h7 := hG.1.2.1
  have pj : ∀ (q : Nat) (j : Int), q < n → 3 ≤ j → j ≤ 10 → zpe (zsA σ m n) ((q : Nat) : Int) j = zpe σ ((q : Nat) : Int) j := fun q j hq j0 j1 => by
    rw [zsA_p hq (by clear hH hR hA hdf hG hfr hd; omega) j1, if_neg (by clear hH hR hA hdf hG hfr hd; omega), if_neg (by clear hH hR hA hdf hG hfr hd; omega), if_neg (by clear hH hR hA hdf hG hfr hd; omega)]
  have e2 : zw (((p : Nat) : Int) + 1) = ((p + 1 : Nat) : Int) := zw_id (by clear hH hR hA hdf hG hfr hd; omega) (by clear hH hR hA hdf hG hfr hd; omega)
  have t11 : t (237 + (-226)) 1 = ((n : Nat) : Int) := by
    show t 11 1 = _
    rw [hfr.1 11 (by decide) (by decide) (by clear hH hR hA hdf hG hfr hd; omega), hH.1.2.1, hG.1.1]
  have lt : ((p : Nat) : Int) < t (237 + (-226)) 1 := by
    rw [t11]
    clear hH hR hA hdf hG hfr hd
    omega
  -- nothing learnt: the table is the same
  have same : T ((p : Nat) : Int) < 0 ∨ zvA σ m ((p : Nat) : Int) ≠ f → ∀ t1 : zS, zLd t1 l (zsA σ m n) n T (σ 4) (zdP σ m T f p) → zLd t1 l (zsA σ m n) n T (σ 4) (zdP σ m T f (p + 1)) := fun h t1 h1 => zLd_iff h1 (fun q hq => by
    unfold zdP
    refine ⟨fun z => ⟨z.1, z.2.imp_right (fun y => ⟨y.1, ?_⟩)⟩, fun z => ⟨z.1, z.2.imp_right (fun y => ⟨y.1, Nat.lt_succ_of_lt y.2⟩)⟩⟩
    rcases Nat.lt_or_ge q p with w | w
    · exact w
    · exfalso
      have e : q = p := Nat.le_antisymm (Nat.le_of_lt_succ y.2) w
      rw [e] at z y
      exact h.elim z.1 (fun k => k y.1))
  by_cases c : zHe σ n m f p
  case neg =>
    have hn : T ((p : Nat) : Int) < 0 ∨ zvA σ m ((p : Nat) : Int) ≠ f := by
      by_cases d : zvA σ m ((p : Nat) : Int) = f
      · refine Or.inl ?_
        rw [hT, zto_N hp h7]
        · decide
        · by_cases d1 : zvD σ m p
          · by_cases d2 : zkn (zsA σ m n) p
            · exact Or.inr (Or.inl d2)
            · refine Or.inr (Or.inr ?_)
              by_cases d3 : zpe σ ((p : Nat) : Int) 6 = 1
              · exact d3
              · exact absurd ⟨⟨⟨d1, d⟩, d2⟩, d3⟩ c
          · exact Or.inl d1
      · exact Or.inr d
    refine ⟨t, x14, fun R z => zb_13_126 (fun _ => zb_13_131 zo_bit (zb_13_134 (fun _ => zb_13_135 (by rw [e2]; exact z)) (fun q => absurd (zbt_n (fun y => c ((zbt_fo1 hp (by clear hH hR hA hdf hG hfr hd; omega)).mp y))) q))) (fun q => absurd lt q), hfr, w2, w7, same hn t hd⟩
  have to136 : ∀ R, zA xm_c13 136 [237, l, zlan σ m n, 0, σ 4, K, x6, Q, f, zfs (zpnd σ m f) n, zfs (zHe σ n m f) n, (if zqt (zsA σ m n) f then 0 else zfs (zteT σ n m f) n), zcal σ n m f, ((p : Nat) : Int), x14] [] t R → zA xm_c13 126 [237, l, zlan σ m n, 0, σ 4, K, x6, Q, f, zfs (zpnd σ m f) n, zfs (zHe σ n m f) n, (if zqt (zsA σ m n) f then 0 else zfs (zteT σ n m f) n), zcal σ n m f, ((p : Nat) : Int), x14] [] t R := fun R z => zb_13_126 (fun _ => zb_13_131 zo_bit (zb_13_134 (fun q => absurd ((zbt_fo1 hp (by clear hH hR hA hdf hG hfr hd; omega)).mpr c) (by rw [q]; decide)) (fun _ => z))) (fun q => absurd lt q)
  obtain ⟨⟨cf, ck⟩, cd⟩ := c
  have hTp := zto_H (F := F) (U := U) hp h7 cf ck cd
  rw [← hT] at hTp
  rw [zbk_cal hG hGt hf0 hp cf] at hTp
  -- the teller by hand
  have hand : ∃ t1, (∀ R, (zfi (fun a => zte (zsA σ m n) (zfs (zvD σ m) n) n F U ((a : Nat) : Int) ((p : Nat) : Int)) n 0 = -1 → zA xm_c13 149 [237, l, zlan σ m n, 0, σ 4, K, x6, Q, f, zfs (zpnd σ m f) n, zfs (zHe σ n m f) n, (if zqt (zsA σ m n) f then 0 else zfs (zteT σ n m f) n), zcal σ n m f, ((p : Nat) : Int), -1] [] t1 R) → (zfi (fun a => zte (zsA σ m n) (zfs (zvD σ m) n) n F U ((a : Nat) : Int) ((p : Nat) : Int)) n 0 ≠ -1 → zA xm_c13 157 [237, l, zlan σ m n, 0, σ 4, K, x6, Q, f, zfs (zpnd σ m f) n, zfs (zHe σ n m f) n, (if zqt (zsA σ m n) f then 0 else zfs (zteT σ n m f) n), zcal σ n m f, ((p : Nat) : Int), zfi (fun a => zte (zsA σ m n) (zfs (zvD σ m) n) n F U ((a : Nat) : Int) ((p : Nat) : Int)) n 0] [] t1 R) → zA xm_c13 126 [237, l, zlan σ m n, 0, σ 4, K, x6, Q, f, zfs (zpnd σ m f) n, zfs (zHe σ n m f) n, (if zqt (zsA σ m n) f then 0 else zfs (zteT σ n m f) n), zcal σ n m f, ((p : Nat) : Int), x14] [] t R) ∧ zcF t t1 := by
    have none : (if zqt (zsA σ m n) f then 0 else zfs (zteT σ n m f) n) = 0 → ∃ t1, (∀ R, (zfi (fun a => zte (zsA σ m n) (zfs (zvD σ m) n) n F U ((a : Nat) : Int) ((p : Nat) : Int)) n 0 = -1 → zA xm_c13 149 [237, l, zlan σ m n, 0, σ 4, K, x6, Q, f, zfs (zpnd σ m f) n, zfs (zHe σ n m f) n, (if zqt (zsA σ m n) f then 0 else zfs (zteT σ n m f) n), zcal σ n m f, ((p : Nat) : Int), -1] [] t1 R) → (zfi (fun a => zte (zsA σ m n) (zfs (zvD σ m) n) n F U ((a : Nat) : Int) ((p : Nat) : Int)) n 0 ≠ -1 → zA xm_c13 157 [237, l, zlan σ m n, 0, σ 4, K, x6, Q, f, zfs (zpnd σ m f) n, zfs (zHe σ n m f) n, (if zqt (zsA σ m n) f then 0 else zfs (zteT σ n m f) n), zcal σ n m f, ((p : Nat) : Int), zfi (fun a => zte (zsA σ m n) (zfs (zvD σ m) n) n F U ((a : Nat) : Int) ((p : Nat) : Int)) n 0] [] t1 R) → zA xm_c13 126 [237, l, zlan σ m n, 0, σ 4, K, x6, Q, f, zfs (zpnd σ m f) n, zfs (zHe σ n m f) n, (if zqt (zsA σ m n) f then 0 else zfs (zteT σ n m f) n), zcal σ n m f, ((p : Nat) : Int), x14] [] t R) ∧ zcF t t1 := fun h => by
      have w : zfi (fun a => zte (zsA σ m n) (zfs (zvD σ m) n) n F U ((a : Nat) : Int) ((p : Nat) : Int)) n 0 = -1 := zfi_none n 0 (fun j _ hj => zte_no hG (by clear hH hR hA hdf hG hfr hd; omega) hp cf (by
        by_cases q : zqt (zsA σ m n) f
        · exact Or.inl q
        · rw [if_neg q] at h
          exact Or.inr ((zfo_z (by clear hH hR hA hdf hG hfr hd; omega)).mp h j (by clear hH hR hA hdf hG hfr hd; omega))))
      exact ⟨t, fun R z1 _ => to136 R (zb_13_136 (fun _ => zb_13_138 (fun _ => z1 w) (fun q => absurd rfl q)) (fun q => absurd h q)), zcF_r⟩
    by_cases q : (if zqt (zsA σ m n) f then 0 else zfs (zteT σ n m f) n) = 0
    · exact none q
    have nq : ¬ zqt (zsA σ m n) f := fun z => q (if_pos z)
    have eX : (if zqt (zsA σ m n) f then 0 else zfs (zteT σ n m f) n) = zfs (zteT σ n m f) n := if_neg nq
    obtain ⟨t1, u1, u2⟩ := zo_tellerOf (s := t) (n := n) (l := l) (b := ((p : Nat) : Int)) (X := if zqt (zsA σ m n) f then 0 else zfs (zteT σ n m f) n) (F := F) (U := U) t11 h7 (zRc_k hR ⟨l0, l1⟩ hfr.1) (by clear hH hR hA hdf hG hfr hd; omega) (by clear hH hR hA hdf hG hfr hd; omega) (by clear hH hR hA hdf hG hfr hd; omega) (by clear hH hR hA hdf hG hfr hd; omega)
    have hx : ∀ x, 11 ≤ x → x ≤ 18 → t x = t0 x := fun x x1 x2 => hfr.1 x (by clear hH hR hA hdf hG hfr hd; omega) (by clear hH hR hA hdf hG hfr hd; omega) (by clear hH hR hA hdf hG hfr hd; omega)
    have ew : zfi (zct_ t l ((p : Nat) : Int) (if zqt (zsA σ m n) f then 0 else zfs (zteT σ n m f) n) F U) n 0 = zfi (fun a => zte (zsA σ m n) (zfs (zvD σ m) n) n F U ((a : Nat) : Int) ((p : Nat) : Int)) n 0 := zfi_congr n 0 (fun j _ hj => by
      have hj : j < n := by clear hH hR hA hdf hG hfr hd; omega
      refine zte_iff hG hj hp cf ck nq (fun q hq => ?_) ?_ ?_ ?_ w2 hfr.2.1 w7 hfr.2.2.1 hfr.2.2.2 (fun z => ?_)
      · rw [eX]
        exact zbt_fo1 hq (by clear hH hR hA hdf hG hfr hd; omega)
      · rw [hx 14 (by decide) (by decide)]
        exact (hH.2.1 p hp).2.2.1
      · rw [hx 12 (by decide) (by decide)]
        exact (hH.2.1 p hp).1
      · rw [hx 15 (by decide) (by decide)]
        exact (hH.2.1 j hj).2.2.2.1
      · have nd : ¬ zdP σ m T f p j := fun y => y.1 (by rw [hT, zto_k z.2]; decide)
        obtain ⟨b1, b2, -⟩ := hd.2 j hj
        rw [if_neg nd] at b1 b2
        rw [b1, b2]
        exact ⟨pj j 8 hj (by decide) (by decide), pj j 9 hj (by decide) (by decide)⟩)
    rw [ew] at u1
    refine ⟨t1, fun R z1 z2 => to136 R (zb_13_136 (fun y => absurd y q) (fun _ => zb_13_140 u1 (zb_13_145 (fun y => ?_) (fun y => zb_13_154 (fun y2 => absurd y2 y) (fun _ => z2 y))))), u2⟩
    rw [y]
    exact z1 y
  obtain ⟨t1, h1, h2⟩ := hand
  have fr1 : zFrg t0 t1 l σ n m := ⟨fun x x1 x2 x3 => (h2.1 x x1 x2).trans (hfr.1 x x1 x2 x3), h2.2.2.1.trans hfr.2.1, h2.2.2.2.2.1.trans hfr.2.2.1, h2.2.2.2.2.2.trans hfr.2.2.2⟩
  have hd1 : zLd t1 l (zsA σ m n) n T (σ 4) (zdP σ m T f p) := by
    have r : ∀ j : Int, 0 ≤ j → j ≤ 3 → t1 (l + j) = t (l + j) := fun j j0 j1 => h2.1 (l + j) (by clear hH hR hA hdf hG hfr hd; omega) (by clear hH hR hA hdf hG hfr hd; omega)
    have r0 := r 0 (by decide) (by decide)
    rw [Int.add_zero] at r0
    unfold zLd
    rw [r0, r 1 (by decide) (by decide), r 2 (by decide) (by decide), r 3 (by decide) (by decide)]
    exact hd
  have v2 : t1 238 2 = f := h2.2.1.trans w2
  have v7 : t1 238 7 = zct (zpnd σ m f) n - 2 := h2.2.2.2.1.trans w7
  -- who is told learns it
  have learn : ¬ T ((p : Nat) : Int) < 0 → ∃ t' , (∀ R, zA xm_c13 126 [237, l, zlan σ m n, 0, σ 4, K, x6, Q, f, zfs (zpnd σ m f) n, zfs (zHe σ n m f) n, (if zqt (zsA σ m n) f then 0 else zfs (zteT σ n m f) n), zcal σ n m f, ((p + 1 : Nat) : Int), T ((p : Nat) : Int)] [] t' R → zA xm_c13 157 [237, l, zlan σ m n, 0, σ 4, K, x6, Q, f, zfs (zpnd σ m f) n, zfs (zHe σ n m f) n, (if zqt (zsA σ m n) f then 0 else zfs (zteT σ n m f) n), zcal σ n m f, ((p : Nat) : Int), T ((p : Nat) : Int)] [] t1 R) ∧ zFrg t0 t' l σ n m ∧ t' 238 2 = f ∧ t' 238 7 = zct (zpnd σ m f) n - 2 ∧ zLd t' l (zsA σ m n) n T (σ 4) (zdP σ m T f (p + 1)) := fun hpos => by
    obtain ⟨a, an, ak, ea⟩ : ∃ a : Nat, a < n ∧ zkn (zsA σ m n) a ∧ T ((p : Nat) : Int) = ((a : Nat) : Int) := by
      rcases zto_r (σ := zsA σ m n) (L := zfs (zvD σ m) n) (F := F) (U := U) h7 (b := ((p : Nat) : Int)) with y | y
      · rw [← hT] at y
        exact absurd (by rw [y]; decide) hpos
      · rw [← hT] at y
        exact y
    have nd : ¬ zdP σ m T f p a := fun y => y.1 (by rw [hT, zto_k ak]; decide)
    obtain ⟨-, b2, -⟩ := hd1.2 a an
    rw [if_neg nd] at b2
    have q15 : t1 ((237 + (-226)) + 4) ((a : Nat) : Int) = zpe (zsA σ m n) ((a : Nat) : Int) 7 := by
      show t1 15 _ = _
      rw [fr1.1 15 (by decide) (by decide) (by clear hH hR hA hdf hG hfr hd; omega), pj a 7 an (by decide) (by decide)]
      exact (hH.2.1 a an).2.2.2.1
    obtain ⟨t', z1, z2, z3⟩ := zo_learn (dn' := zdP σ m T f (p + 1)) hp hd1 (fun y => by
      rcases y.2 with y2 | y2
      · have := cf.2
        clear hH hR hA hdf hG hfr hd
        omega
      · exact absurd y2.2 (Nat.lt_irrefl p)) (fun q hq => by
      unfold zdP
      refine ⟨fun z => ?_, fun z => ?_⟩
      · rcases z.2 with y | y
        · exact Or.inl ⟨z.1, Or.inl y⟩
        · by_cases w : q = p
          · exact Or.inr w
          · exact Or.inl ⟨z.1, Or.inr ⟨y.1, Nat.lt_of_le_of_ne (Nat.le_of_lt_succ y.2) w⟩⟩
      · rcases z with y | y
        · exact ⟨y.1, y.2.imp_right (fun w => ⟨w.1, Nat.lt_succ_of_lt w.2⟩)⟩
        · rw [y]
          exact ⟨hpos, Or.inr ⟨cf.2, Nat.lt_succ_self p⟩⟩)
    have o : ∀ x, x = 238 ∨ x = 239 → t' x = t1 x := fun x hx => z3 x (by clear hH hR hA hdf hG hfr hd; omega)
    refine ⟨t', fun R z => zb_13_157 (s1 := t') (r := 0) ?_ (zb_13_172 (by rw [e2]; exact z)), ⟨fun x x1 x2 x3 => (z3 x x3).trans (fr1.1 x x1 x2 x3), ?_, ?_, ?_⟩, ?_, ?_, z2⟩
    · rw [ea, b2, q15, ← ea]
      exact z1
    · rw [o 238 (Or.inl rfl)]; exact fr1.2.1
    · rw [o 238 (Or.inl rfl)]; exact fr1.2.2.1
    · rw [o 238 (Or.inl rfl)]; exact fr1.2.2.2
    · rw [o 238 (Or.inl rfl)]; exact v2
    · rw [o 238 (Or.inl rfl)]; exact v7
  have stop : T ((p : Nat) : Int) < 0 → ∀ (x : Int), (∀ R, zA xm_c13 172 [237, l, zlan σ m n, 0, σ 4, K, x6, Q, f, zfs (zpnd σ m f) n, zfs (zHe σ n m f) n, (if zqt (zsA σ m n) f then 0 else zfs (zteT σ n m f) n), zcal σ n m f, ((p : Nat) : Int), x] [] t1 R → zA xm_c13 126 [237, l, zlan σ m n, 0, σ 4, K, x6, Q, f, zfs (zpnd σ m f) n, zfs (zHe σ n m f) n, (if zqt (zsA σ m n) f then 0 else zfs (zteT σ n m f) n), zcal σ n m f, ((p : Nat) : Int), x14] [] t R) → ∃ t' x14', (∀ R, zA xm_c13 126 [237, l, zlan σ m n, 0, σ 4, K, x6, Q, f, zfs (zpnd σ m f) n, zfs (zHe σ n m f) n, (if zqt (zsA σ m n) f then 0 else zfs (zteT σ n m f) n), zcal σ n m f, ((p + 1 : Nat) : Int), x14'] [] t' R → zA xm_c13 126 [237, l, zlan σ m n, 0, σ 4, K, x6, Q, f, zfs (zpnd σ m f) n, zfs (zHe σ n m f) n, (if zqt (zsA σ m n) f then 0 else zfs (zteT σ n m f) n), zcal σ n m f, ((p : Nat) : Int), x14] [] t R) ∧ zFrg t0 t' l σ n m ∧ t' 238 2 = f ∧ t' 238 7 = zct (zpnd σ m f) n - 2 ∧ zLd t' l (zsA σ m n) n T (σ 4) (zdP σ m T f (p + 1)) := fun hneg x run => ⟨t1, x, fun R z => run R (zb_13_172 (by rw [e2]; exact z)), fr1, v2, v7, same (Or.inl hneg) t1 hd1⟩
  by_cases d : zfi (fun a => zte (zsA σ m n) (zfs (zvD σ m) n) n F U ((a : Nat) : Int) ((p : Nat) : Int)) n 0 = -1
  case neg =>
    rw [if_neg d] at hTp
    have hpos : ¬ T ((p : Nat) : Int) < 0 := by
      rw [hTp]
      rcases zfi_r (P := fun a => zte (zsA σ m n) (zfs (zvD σ m) n) n F U ((a : Nat) : Int) ((p : Nat) : Int)) n 0 with y | ⟨j, -, -, -, y⟩
      · exact absurd y d
      · rw [y]
        exact Int.not_lt.mpr (Int.natCast_nonneg j)
    obtain ⟨t', r1, r2⟩ := learn hpos
    exact ⟨t', T ((p : Nat) : Int), fun R z => h1 R (fun y => absurd y d) (fun _ => by rw [← hTp]; exact r1 R z), r2⟩
  rw [if_pos d] at hTp
  by_cases e : zcal σ n m f = 0
  · rw [if_pos e] at hTp
    exact stop (by rw [hTp]; decide) (-1) (fun R z => h1 R (fun _ => zb_13_149 (fun _ => zb_13_154 (fun _ => z) (fun y => absurd rfl y)) (fun y => absurd e y)) (fun y => absurd d y))
  · rw [if_neg e] at hTp
    have rc : 0 ≤ zcal σ n m f ∧ zcal σ n m f < 128 := by
      unfold zcal
      by_cases y : f = σ 7
      · rw [if_pos y]
        exact zfo_r n h7
      · rw [if_neg y]
        decide
    have hz := zo_ntz (s := t1) (x := zcal σ n m f) (by clear hH hR hA hdf hG hfr hd; omega) rc.2
    rw [← hTp] at hz
    by_cases k : T ((p : Nat) : Int) = -1
    · exact stop (by rw [k]; decide) _ (fun R z => h1 R (fun _ => zb_13_149 (fun y => absurd y e) (fun _ => zb_13_151 hz (zb_13_153 (fun _ => z) (fun y => absurd k y)))) (fun y => absurd d y))
    · have hpos : ¬ T ((p : Nat) : Int) < 0 := by
        rcases zto_r (σ := zsA σ m n) (L := zfs (zvD σ m) n) (F := F) (U := U) h7 (b := ((p : Nat) : Int)) with y | ⟨a, -, -, y⟩
        · rw [← hT] at y
          exact absurd y k
        · rw [← hT] at y
          rw [y]
          exact Int.not_lt.mpr (Int.natCast_nonneg a)
      obtain ⟨t', r1, r2⟩ := learn hpos
      exact ⟨t', T ((p : Nat) : Int), fun R z => h1 R (fun _ => zb_13_149 (fun y => absurd y e) (fun _ => zb_13_151 hz (zb_13_153 (fun y => absurd y k) (fun _ => r1 R z)))) (fun y => absurd d y), r2⟩
end GR
