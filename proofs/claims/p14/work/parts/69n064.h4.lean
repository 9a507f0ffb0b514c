/-! the class's history -/
theorem zrem_20 {x : Int} (h0 : 0 ≤ x) (h1 : x ≤ 40) : zrem x 20 = x % 20 := by
  have h : ∀ k : Fin 41, zrem ((k.val : Nat) : Int) 20 = ((k.val : Nat) : Int) % 20 := by decide
  obtain ⟨k, rfl⟩ := Int.eq_ofNat_of_zero_le h0
  exact h ⟨k, by omega⟩
section HH
variable {bB : Int}
variable {s s2 : zS} {σ τ : Int → Int} {n m : Nat}
theorem zRF_cp {s' : zS} {f g : Int} (hn : n ≤ 7) (a : s' f 0 = s g 0 ∧ s' f 1 = s g 1) (b : ∀ k : Int, 0 ≤ k → k < 7 → s' (f + 1) k = s (g + 1) k ∧ s' (f + 2) k = s (g + 2) k ∧ s' (f + 3) k = s (g + 3) k ∧ s' (f + 4) k = s (g + 4) k) (H : zRF s g σ n) : zRF s' f σ n := by
  obtain ⟨h0, h1, hp⟩ := H
  refine ⟨by rw [a.1, h0], by rw [a.2, h1], fun p hpn => ?_⟩
  obtain ⟨b1, b2, b3, b4⟩ := b ((p : Nat) : Int) (Int.natCast_nonneg p) (by omega)
  rw [b1, b2, b3, b4]
  exact hp p hpn
theorem zRL_cp {s' : zS} {f g : Int} (hn : n ≤ 7) (a : s' f 0 = s g 0) (b : ∀ k : Int, 0 ≤ k → k < 7 → s' (f + 1) k = s (g + 1) k ∧ s' (f + 2) k = s (g + 2) k ∧ s' (f + 3) k = s (g + 3) k) (H : zRL s g σ n) : zRL s' f σ n := by
  obtain ⟨h0, hp⟩ := H
  refine ⟨by rw [a, h0], fun p hpn => ?_⟩
  obtain ⟨b1, b2, b3⟩ := b ((p : Nat) : Int) (Int.natCast_nonneg p) (by omega)
  rw [b1, b2, b3]
  exact hp p hpn
theorem zo_keep (h2 : 0 ≤ s 40 2 ∧ s 40 2 ≤ 19) (h3 : 0 ≤ s 40 3 ∧ s 40 3 ≤ 20) : ∃ s', zE xm_c17 [40, 10] s 0 s' ∧ s' 40 2 = (s 40 2 + 1) % 20 ∧ s' 40 3 = (if s 40 3 = 20 then 20 else s 40 3 + 1) ∧ (∀ (σ : Int → Int) (n : Nat), n ≤ 7 → zRF s 19 σ n → zRF s' (43 + 9 * s 40 2) σ n) ∧ (∀ (σ : Int → Int) (n : Nat), n ≤ 7 → zRL s 24 σ n → zRL s' (48 + 9 * s 40 2) σ n) ∧ ∀ x, x ≠ 40 → ¬ (43 + 9 * s 40 2 ≤ x ∧ x ≤ 43 + 9 * s 40 2 + 8) → s' x = s x := by
  obtain ⟨t1, a1, a2, a3, a4⟩ := zo_cpF (s := s) (f := 43 + 9 * s 40 2) (g := 19) (fun i j _ _ _ _ => by omega)
  have k2 : t1 40 2 = s 40 2 := by rw [a4 40 (by omega)]
  have k3 : t1 40 3 = s 40 3 := by rw [a4 40 (by omega)]
  obtain ⟨t2, b1, b2, b3, b4⟩ := zo_cpL (s := t1) (f := 48 + 9 * s 40 2) (g := 24) (fun i j _ _ _ _ => by omega)
  have m2 : t2 40 2 = s 40 2 := by rw [b4 40 (by omega), k2]
  have m3 : t2 40 3 = s 40 3 := by rw [b4 40 (by omega), k3]
  have e1 : zrem (zw (s 40 2 + 1)) 20 = (s 40 2 + 1) % 20 := by
    rw [zw_id (by omega) (by omega)]
    exact zrem_20 (by omega) (by omega)
  have e2 : zw (s 40 3 + 1) = s 40 3 + 1 := zw_id (by omega) (by omega)
  refine ⟨zu (zu t2 40 2 ((s 40 2 + 1) % 20)) 40 3 (if s 40 3 = 20 then 20 else s 40 3 + 1), zb_17_0 (s1 := t1) (r := 0) a1 (zb_17_8 (s1 := t2) (r := 0) (by rw [k2]; exact b1) (zb_17_16 ?_)), ?_, zu_hit, fun σ n hn H => ?_, fun σ n hn H => ?_, fun x x1 x2 => ?_⟩
  · rw [m2, e1]
    have v : zu t2 40 2 ((s 40 2 + 1) % 20) 40 3 = s 40 3 := by rw [zu_place (by decide), m3]
    rw [v, e2]
    refine Prod.ext rfl ?_
    show zu _ 40 3 _ = zu _ 40 3 _
    congr 1
    by_cases c : s 40 3 = 20
    · rw [if_pos c, if_pos (by omega)]
    · rw [if_neg c, if_neg (by omega)]
  · rw [zu_place (by decide), zu_hit]
  · refine zRF_c (zRF_cp hn a2 a3 H) (fun x x1 x2 => ?_)
    rw [← b4 x (by omega)]
    exact funext (fun y => by rw [zu_cell (by omega), zu_cell (by omega)])
  · have H1 : zRL t1 24 σ n := zRL_c H (fun x x1 x2 => a4 x (by omega))
    refine zRL_c (zRL_cp hn b2 b3 H1) (fun x x1 x2 => ?_)
    exact funext (fun y => by rw [zu_cell (by omega), zu_cell (by omega)])
  · rw [← a4 x (by omega), ← b4 x (by omega)]
    exact funext (fun y => by rw [zu_cell x1, zu_cell x1])
theorem zo_takeBack (h2 : 0 ≤ s 40 2 ∧ s 40 2 ≤ 19) (h3 : 1 ≤ s 40 3 ∧ s 40 3 ≤ 20) : ∃ s', zE xm_c18 [40, 10] s 0 s' ∧ s' 40 2 = (s 40 2 + 19) % 20 ∧ s' 40 3 = s 40 3 - 1 ∧ (∀ (σ : Int → Int) (n : Nat), n ≤ 7 → zRF s (43 + 9 * ((s 40 2 + 19) % 20)) σ n → zRF s' 19 σ n) ∧ (∀ (σ : Int → Int) (n : Nat), n ≤ 7 → zRL s (48 + 9 * ((s 40 2 + 19) % 20)) σ n → zRL s' 24 σ n) ∧ ∀ x, x ≠ 40 → ¬ (19 ≤ x ∧ x ≤ 27) → s' x = s x := by
  have e0 : zw (zw (s 40 2 + 20) - 1) = s 40 2 + 19 := by
    rw [zw_id (x := s 40 2 + 20) (by omega) (by omega), zw_id (by omega) (by omega)]
    omega
  have e1 : zrem (zw (zw (s 40 2 + 20) - 1)) 20 = (s 40 2 + 19) % 20 := by
    rw [e0]
    exact zrem_20 (by omega) (by omega)
  have e2 : zw (s 40 3 - 1) = s 40 3 - 1 := zw_id (by omega) (by omega)
  obtain ⟨q, hq⟩ : ∃ q, q = (s 40 2 + 19) % 20 := ⟨_, rfl⟩
  have q0 : 0 ≤ q ∧ q ≤ 19 := by omega
  have S : zu (zu s 40 2 (zrem (zw ((zw ((s 40 2) + 20)) - 1)) 20)) 40 3 (if zw (((zu s 40 2 (zrem (zw ((zw ((s 40 2) + 20)) - 1)) 20)) 40 3) - 1) < 0 then 0 else zw (((zu s 40 2 (zrem (zw ((zw ((s 40 2) + 20)) - 1)) 20)) 40 3) - 1)) = zu (zu s 40 2 q) 40 3 (s 40 3 - 1) := by
    rw [e1, ← hq]
    have v : zu s 40 2 q 40 3 = s 40 3 := zu_place (by decide)
    rw [v, e2, if_neg (by omega)]
  obtain ⟨t0, ht0⟩ : ∃ t0, t0 = zu (zu s 40 2 q) 40 3 (s 40 3 - 1) := ⟨_, rfl⟩
  have t02 : t0 40 2 = q := by rw [ht0, zu_place (by decide), zu_hit]
  have t03 : t0 40 3 = s 40 3 - 1 := by rw [ht0, zu_hit]
  have t0o : ∀ x, x ≠ 40 → t0 x = s x := fun x hx => by
    rw [ht0]
    exact funext (fun y => by rw [zu_cell hx, zu_cell hx])
  obtain ⟨t1, a1, a2, a3, a4⟩ := zo_cpF (s := t0) (f := 19) (g := 43 + 9 * q) (fun i j _ _ _ _ => by omega)
  have k2 : t1 40 2 = q := by rw [a4 40 (by omega), t02]
  obtain ⟨t2, b1, b2, b3, b4⟩ := zo_cpL (s := t1) (f := 24) (g := 48 + 9 * q) (fun i j _ _ _ _ => by omega)
  rw [← hq]
  refine ⟨t2, zb_18_0 (s1 := t1) (r := 0) ?_ (zb_18_26 (s1 := t2) (r := 0) (by rw [k2]; exact b1) (zb_18_34 rfl)), ?_, ?_, fun σ n hn H => ?_, fun σ n hn H => ?_, fun x x1 x2 => ?_⟩
  · rw [S, ← ht0, t02]
    exact a1
  · rw [b4 40 (by omega), k2]
  · rw [b4 40 (by omega), a4 40 (by omega), t03]
  · have H1 : zRF t0 (43 + 9 * q) σ n := zRF_c H (fun x x1 x2 => t0o x (by omega))
    exact zRF_c (zRF_cp hn a2 a3 H1) (fun x x1 x2 => b4 x (by omega))
  · have H1 : zRL t1 (48 + 9 * q) σ n := zRL_c H (fun x x1 x2 => by rw [a4 x (by omega), t0o x (by omega)])
    exact zRL_cp hn b2 b3 H1
  · rw [b4 x (by omega), a4 x (by omega), t0o x x1]
/-- what an act leaves of the acts ahead -/
theorem zgE_act (hF : zRF s 19 (s 354) n) (hL : zRL s 24 (s 354) n) (hG : zGs bB (s 354) n m) (hE : zgE bB s n m) (k2 : s2 40 2 = (s 40 2 + 1) % 20) (k3 : s2 40 3 = (if s 40 3 = 20 then 20 else s 40 3 + 1)) (rF : zRF s2 (43 + 9 * s 40 2) (s 354) n) (rL : zRL s2 (48 + 9 * s 40 2) (s 354) n) (ro : ∀ x, 43 ≤ x → x ≤ 222 → ¬ (43 + 9 * s 40 2 ≤ x ∧ x ≤ 43 + 9 * s 40 2 + 8) → s2 x = s x) (hK : zKA (s 356) (s2 356) (s 344 26) (s2 344 26) (s 354)) (hst : ∀ k, (zst k ∨ ¬ (0 ≤ k ∧ k < 87)) → s2 354 k = s 354 k) : zgE bB s2 n m := by
  obtain ⟨⟨e1, e2, e3, e4, e5⟩, e6⟩ := hE
  obtain ⟨u1, u2⟩ := hK
  have u0 : s2 344 26 = (if s 344 26 = 20 then 20 else s 344 26 + 1) := u1
  have r : 1 ≤ s2 344 26 ∧ s2 344 26 ≤ 20 := by
    rw [u0]
    by_cases c : s 344 26 = 20
    · rw [if_pos c]; decide
    · rw [if_neg c]; omega
  refine ⟨⟨by rw [k3, u0, e1], by omega, r.2, by rw [k2]; omega, by rw [k2]; omega⟩, fun j hj => ?_⟩
  have hi : ∀ k : Int, ¬ (0 ≤ k ∧ k < 87) → s2 354 k = s 354 k := fun k hk => hst k (Or.inr hk)
  by_cases c : ((j : Nat) : Int) = s2 344 26 - 1
  · have ei : ((zix (s2 40 2) (s2 344 26) j : Nat) : Int) = s 40 2 := by
      unfold zix
      rw [k2, c]
      omega
    have ew : zwj s2 j = s 354 := by
      funext k
      unfold zwj
      by_cases d : 0 ≤ k ∧ k < 87
      · rw [if_pos d, u2 ((j : Nat) : Int) k (Int.natCast_nonneg j) hj d.1 d.2, if_pos c]
      · rw [if_neg d, hi k d]
    rw [ei, ew]
    exact ⟨rF, rL, hG, fun k hk => (hst k (Or.inl hk)).symm⟩
  · -- which of the acts ahead it is
    obtain ⟨i, hi1, hi4, hi2, hi3⟩ : ∃ i : Nat, ((i : Nat) : Int) < s 344 26 ∧ s 344 26 - ((i : Nat) : Int) ≤ 19 ∧ (∀ k : Int, 0 ≤ k → k < 87 → s2 356 (87 * ((j : Nat) : Int) + k) = s 356 (87 * ((i : Nat) : Int) + k)) ∧ zix (s2 40 2) (s2 344 26) j = zix (s 40 2) (s 344 26) i := by
      by_cases d : s 344 26 = 20
      · rw [if_pos d] at u0
        refine ⟨j + 1, by omega, by omega, fun k k0 k1 => ?_, ?_⟩
        · rw [u2 ((j : Nat) : Int) k (Int.natCast_nonneg j) hj k0 k1, if_neg c, if_pos d]
          rfl
        · unfold zix
          rw [k2, u0, d]
          congr 1
          omega
      · rw [if_neg d] at u0
        refine ⟨j, by omega, by omega, fun k k0 k1 => ?_, ?_⟩
        · rw [u2 ((j : Nat) : Int) k (Int.natCast_nonneg j) hj k0 k1, if_neg c, if_neg d]
        · unfold zix
          rw [k2, u0]
          congr 1
          omega
    obtain ⟨g1, g2, g3, g4⟩ := e6 i hi1
    have ew : zwj s2 j = zwj s i := by
      funext k
      unfold zwj
      by_cases d : 0 ≤ k ∧ k < 87
      · rw [if_pos d, if_pos d, hi2 k d.1 d.2]
      · rw [if_neg d, if_neg d, hi k d]
    have ne : ((zix (s 40 2) (s 344 26) i : Nat) : Int) ≠ s 40 2 := by
      unfold zix
      omega
    have rr := zix_r (nx := s 40 2) (u := s 344 26) (j := i)
    rw [hi3, ew]
    exact ⟨zRF_c g1 (fun x x1 x2 => ro x (by omega) (by omega) (by omega)), zRL_c g2 (fun x x1 x2 => ro x (by omega) (by omega) (by omega)), g3, fun k hk => (g4 k hk).trans (hst k (Or.inl hk)).symm⟩
end HH
