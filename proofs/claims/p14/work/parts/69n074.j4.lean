/-! images and going back, on both sides -/
section JD
variable {bB : Int}
variable {s s' s1 s2 : zS} {σ τ : Int → Int} {n m : Nat} {f g c d x y : Int}
theorem zRH_cp (hn : n ≤ 7) (hm : m ≤ 10) (a : ∀ k : Int, 0 ≤ k → k < 10 → s' f k = s g k) (b : ∀ d : Int, 1 ≤ d → d ≤ 7 → ∀ k : Int, 0 ≤ k → k < 7 → s' (f + d) k = s (g + d) k) (e : ∀ d : Int, 5 ≤ d → d ≤ 7 → ∀ k : Int, 0 ≤ k → k < 10 → s' (f + d) k = s (g + d) k) (H : zRH s g σ n m) : zRH s' f σ n m := by
  obtain ⟨h0, hp, he⟩ := H
  refine ⟨?_, fun p hpn => ?_, fun i hi => ?_⟩
  · rw [a 0 (by decide) (by decide), a 1 (by decide) (by decide), a 2 (by decide) (by decide), a 5 (by decide) (by decide), a 6 (by decide) (by decide), a 7 (by decide) (by decide), a 8 (by decide) (by decide), a 9 (by decide) (by decide)]
    exact h0
  · have p0 : (0 : Int) ≤ ((p : Nat) : Int) := Int.natCast_nonneg p
    have p1 : ((p : Nat) : Int) < 7 := by omega
    rw [b 1 (by decide) (by decide) _ p0 p1, b 2 (by decide) (by decide) _ p0 p1, b 3 (by decide) (by decide) _ p0 p1, b 4 (by decide) (by decide) _ p0 p1, a 4 (by decide) (by decide)]
    exact hp p hpn
  · have p0 : (0 : Int) ≤ ((i : Nat) : Int) := Int.natCast_nonneg i
    have p1 : ((i : Nat) : Int) < 10 := by omega
    rw [e 5 (by decide) (by decide) _ p0 p1, e 6 (by decide) (by decide) _ p0 p1, e 7 (by decide) (by decide) _ p0 p1]
    exact he i hi
/-- all that is now, copied -/
theorem zo_cpS (hd : c + 20 ≤ d ∨ d + 20 ≤ c) : ∃ s', zE xm_c76 [c, d] s 0 s' ∧ (∀ (σ : Int → Int) (n m : Nat), n ≤ 7 → m ≤ 10 → σ 137 ≤ 10 → zRS s d σ n m → zRS s' c σ n m) ∧ (s' c 6 = s d 6 ∧ s' c 7 = s d 7) ∧ (∀ y, y ≠ 5 → y ≠ 6 → y ≠ 7 → s' c y = s c y) ∧ ∀ x, ¬ (c ≤ x ∧ x ≤ c + 19) → s' x = s x := by
  obtain ⟨t1, a1, a2, a3, a4, a5⟩ := zo_cpH (s := s) (f := c + 1) (g := d + 1) (fun i j _ _ _ _ => by omega)
  obtain ⟨t2, b1, b2, b3, b4⟩ := zo_cpF (s := t1) (f := c + 9) (g := d + 9) (fun i j _ _ _ _ => by omega)
  obtain ⟨t3, c1, c2, c3, c4⟩ := zo_cpL (s := t2) (f := c + 14) (g := d + 14) (fun i j _ _ _ _ => by omega)
  obtain ⟨t4, h4⟩ : ∃ t4 : zS, t4 = zcpy (zcpy t3 (d + 18) 0 (c + 18) 0 10) (d + 19) 0 (c + 19) 0 10 := ⟨_, rfl⟩
  have o4 : ∀ x, x ≠ c + 18 → x ≠ c + 19 → t4 x = t3 x := fun x x1 x2 => by
    rw [h4]
    exact funext (fun y => by rw [zcpC x2, zcpC x1])
  have od : ∀ x, ¬ (c + 1 ≤ x ∧ x ≤ c + 17) → t3 x = s x := fun x hx => by rw [c4 x (by omega), b4 x (by omega), a5 x (by omega)]
  have n18 : ∀ k : Int, 0 ≤ k → k < 10 → t4 (c + 18) k = s (d + 18) k ∧ t4 (c + 19) k = s (d + 19) k := fun k k0 k1 => by
    rw [h4, zcpC (by omega), zcpH k0 k1, zcpH k0 k1, zcpC (by omega), od (d + 18) (by omega), od (d + 19) (by omega)]
    exact ⟨rfl, rfl⟩
  have d4 : ∀ y, t4 d y = s d y := fun y => by rw [o4 d (by omega) (by omega), od d (by omega)]
  have cd : d ≠ c := by omega
  have eR : zE xm_c76 [c, d] s 0 (zu (zu (zu t4 c 5 (s d 5)) c 6 (s d 6)) c 7 (s d 7)) := zb_76_0 a1 (zb_76_5 b1 (zb_76_10 c1 (zb_76_15 (by
    rw [← h4]
    refine Prod.ext rfl ?_
    dsimp only
    rw [zu_cell cd, zu_cell cd, zu_cell cd, d4, d4, d4]))))
  have oR : ∀ x, x ≠ c → (zu (zu (zu t4 c 5 (s d 5)) c 6 (s d 6)) c 7 (s d 7)) x = t4 x := fun x hx => funext (fun y => by rw [zu_cell hx, zu_cell hx, zu_cell hx])
  refine ⟨_, eR, fun σ n m hn hm h10 H => ?_, ⟨by rw [zu_place (by decide), zu_hit], zu_hit⟩, fun y y5 y6 y7 => ?_, fun x hx => ?_⟩
  · obtain ⟨H1, H2, H3, H4, H5⟩ := H
    have r1 : zRH t1 (c + 1) σ n m := zRH_cp hn hm a2 a3 a4 H1
    have r2 : zRF t2 (c + 9) σ n := zRF_cp hn b2 b3 (zRF_c H2 (fun x x1 x2 => a5 x (by omega)))
    have r3 : zRL t3 (c + 14) σ n := zRL_cp hn c2 c3 (zRL_c H3 (fun x x1 x2 => by rw [b4 x (by omega), a5 x (by omega)]))
    refine ⟨zRH_c r1 (fun x x1 x2 => ?_), zRF_c r2 (fun x x1 x2 => ?_), zRL_c r3 (fun x x1 x2 => ?_), ?_, fun k hk => ?_⟩
    · rw [oR x (by omega), o4 x (by omega) (by omega), c4 x (by omega), b4 x (by omega)]
    · rw [oR x (by omega), o4 x (by omega) (by omega), c4 x (by omega)]
    · rw [oR x (by omega), o4 x (by omega) (by omega)]
    · rw [zu_place (by decide), zu_place (by decide), zu_hit, H4]
    · obtain ⟨q1, q2⟩ := n18 ((k : Nat) : Int) (Int.natCast_nonneg k) (by omega)
      rw [oR (c + 18) (by omega), oR (c + 19) (by omega), q1, q2]
      exact H5 k hk
  · rw [zu_place y7, zu_place y6, zu_place y5, o4 c (by omega) (by omega), od c (by omega)]
  · rw [oR x (by omega), o4 x (by omega) (by omega), od x (by omega)]
theorem zr_imL (x0 : 0 ≤ x) (x4 : x < 4) : ∀ (n i : Nat) (s : zS), i + n = 146 → ∃ s', zA xm_c236 27 [344, x, ((i : Nat) : Int)] [] s (s' 354 4, s') ∧ (∀ a, a ≠ 360 → s' a = s a) ∧ ∀ k, s' 360 k = if 146 * x + ((i : Nat) : Int) ≤ k ∧ k < 146 * x + 146 then s 354 (k - 146 * x) else s 360 k := by
  intro n
  induction n with
  | zero =>
    intro i s hi
    exact ⟨s, zb_236_27 (fun q => absurd q (by omega)) (fun _ => zb_236_44 rfl), fun _ _ => rfl, fun k => by rw [if_neg (by omega)]⟩
  | succ n ih =>
    intro i s hi
    have e1 : zw (((i : Nat) : Int) + 1) = ((i + 1 : Nat) : Int) := zw_id (by omega) (by omega)
    have e2 : zw (zw (146 * x) + ((i : Nat) : Int)) = 146 * x + ((i : Nat) : Int) := by
      rw [zw_id (x := 146 * x) (by omega) (by omega), zw_id (by omega) (by omega)]
    obtain ⟨s', a1, a2, a3⟩ := ih (i + 1) (zu s 360 (146 * x + ((i : Nat) : Int)) (s 354 ((i : Nat) : Int))) (by omega)
    refine ⟨s', zb_236_27 (fun _ => zb_236_30 (by rw [e1, e2]; exact a1)) (fun q => absurd (show ((i : Nat) : Int) < 146 by omega) q), fun a ha => (a2 a ha).trans (funext (fun y => zu_cell ha)), fun k => ?_⟩
    rw [a3 k, zu_cell (show (354 : Int) ≠ 360 by decide), zu2]
    by_cases c : k = 146 * x + ((i : Nat) : Int)
    · rw [if_neg (by omega), if_pos c, if_pos (by omega), c, show 146 * x + ((i : Nat) : Int) - 146 * x = ((i : Nat) : Int) by omega]
    · rw [if_neg c]
      by_cases d : 146 * x + ((i + 1 : Nat) : Int) ≤ k ∧ k < 146 * x + 146
      · rw [if_pos d, if_pos (by omega)]
      · rw [if_neg d, if_neg (by omega)]
theorem zr_bkL (x0 : 0 ≤ x) (x4 : x < 4) : ∀ (n i : Nat) (s : zS), i + n = 146 → ∃ s', zA xm_c237 30 [344, x, ((i : Nat) : Int)] [] s (s' 354 4, s') ∧ (∀ a, a ≠ 354 → s' a = s a) ∧ ∀ k, s' 354 k = if ((i : Nat) : Int) ≤ k ∧ k < 146 then s 360 (146 * x + k) else s 354 k := by
  intro n
  induction n with
  | zero =>
    intro i s hi
    exact ⟨s, zb_237_30 (fun q => absurd q (by omega)) (fun _ => zb_237_47 rfl), fun _ _ => rfl, fun k => by rw [if_neg (by omega)]⟩
  | succ n ih =>
    intro i s hi
    have e1 : zw (((i : Nat) : Int) + 1) = ((i + 1 : Nat) : Int) := zw_id (by omega) (by omega)
    have e2 : zw (zw (146 * x) + ((i : Nat) : Int)) = 146 * x + ((i : Nat) : Int) := by
      rw [zw_id (x := 146 * x) (by omega) (by omega), zw_id (by omega) (by omega)]
    obtain ⟨s', a1, a2, a3⟩ := ih (i + 1) (zu s 354 ((i : Nat) : Int) (s 360 (146 * x + ((i : Nat) : Int)))) (by omega)
    refine ⟨s', zb_237_30 (fun _ => zb_237_33 (by rw [e1]; show zA _ _ _ _ (zu s 354 ((i : Nat) : Int) (s 360 (zw (zw (146 * x) + ((i : Nat) : Int))))) _; rw [e2]; exact a1)) (fun q => absurd (show ((i : Nat) : Int) < 146 by omega) q), fun a ha => (a2 a ha).trans (funext (fun y => zu_cell ha)), fun k => ?_⟩
    rw [a3 k, zu_cell (show (360 : Int) ≠ 354 by decide), zu2]
    by_cases c : k = ((i : Nat) : Int)
    · rw [if_neg (by omega), if_pos c, if_pos (by omega), c]
    · rw [if_neg c]
      by_cases d : ((i + 1 : Nat) : Int) ≤ k ∧ k < 146
      · rw [if_pos d, if_pos (by omega)]
      · rw [if_neg d, if_neg (by omega)]
theorem zA_image (H : zRZ bB s) (h6 : s 7 8 ≤ 6) : ∃ r s1 s2, zE xm_c116 [7, x] s r s1 ∧ zE xm_c236 [344, x, 0] s1 r s2 ∧ zRZ bB s2 := by
  have h1 := zr_in (s := s) (x := x)
  by_cases hx : 0 ≤ x ∧ x < 4
  case neg =>
    rw [if_neg hx] at h1
    exact zRZ_r H (r := -1) (zb_116_0 (fun _ => zb_116_5 rfl) (fun q => zb_116_2 (fun q' => absurd ⟨by omega, q'⟩ hx) (fun _ => zb_116_5 rfl))) (zb_236_0 h1 (zb_236_5 (fun _ => zb_236_6 rfl) (fun q => absurd rfl q)))
  obtain ⟨A, B, ⟨C1, C2, C3⟩, ⟨n, m, D, E⟩, I⟩ := H
  obtain ⟨k, hk, rfl⟩ := zk_4 hx.1 hx.2
  obtain ⟨t, a1, a2, ⟨a3, a4⟩, a5, a6⟩ := zo_cpS (s := s) (c := 264 + 20 * ((k : Nat) : Int)) (d := 10) (Or.inr (by omega))
  obtain ⟨u, hu⟩ : ∃ u : zS, u = zu t (264 + 20 * ((k : Nat) : Int)) 8 1 := ⟨_, rfl⟩
  have uo : ∀ x, ¬ (264 + 20 * ((k : Nat) : Int) ≤ x ∧ x ≤ 264 + 20 * ((k : Nat) : Int) + 19) → u x = s x := fun x hx => by
    rw [hu, ← a6 x hx]
    exact funext (fun y => zu_cell (by omega))
  have run1 : zE xm_c116 [7, ((k : Nat) : Int)] s (s 354 4) u := zb_116_0 (fun q => absurd q (by omega)) (fun _ => zb_116_2 (fun _ => zb_116_7 (r := 0) (s1 := t) a1 (zb_116_14 (by
    refine Prod.ext ?_ hu.symm
    show zu t (264 + 20 * ((k : Nat) : Int)) 8 1 19 0 = s 354 4
    rw [← hu, uo 19 (by omega)]
    exact D.1.2.1.1))) (fun q => absurd hx.2 q))
  have h2 := zr_in (s := u) (x := ((k : Nat) : Int))
  rw [if_pos hx] at h2
  obtain ⟨v, hv⟩ : ∃ v : zS, v = zu (zu (zu u 363 ((k : Nat) : Int) 1) 361 ((k : Nat) : Int) (s 344 21)) 362 ((k : Nat) : Int) (s 344 22) := ⟨_, rfl⟩
  have vo : ∀ x, x < 361 ∨ 363 < x → v x = u x := fun x hx => by
    rw [hv]
    exact funext (fun y => by rw [zu_cell (by omega), zu_cell (by omega), zu_cell (by omega)])
  obtain ⟨w, b1, b2, b3⟩ := zr_imL hx.1 hx.2 146 0 v rfl
  have wo : ∀ x, ¬ (264 + 20 * ((k : Nat) : Int) ≤ x ∧ x ≤ 264 + 20 * ((k : Nat) : Int) + 19) → (x < 360 ∨ 363 < x) → w x = s x := fun x hx hy => by rw [b2 x (by omega), vo x (by omega), uo x hx]
  have run2 : zE xm_c236 [344, ((k : Nat) : Int), 0] u (s 354 4) w := zb_236_0 h2 (zb_236_5 (fun q => absurd q (by decide)) (fun _ => zb_236_8 (by
    have g1 : zu u 363 ((k : Nat) : Int) (zb 1) 344 21 = s 344 21 := by rw [zu_cell (by decide), uo 344 (by omega)]
    have g2 : zu (zu u 363 ((k : Nat) : Int) (zb 1)) 361 ((k : Nat) : Int) (s 344 21) 344 22 = s 344 22 := by rw [zu_cell (by decide), zu_cell (by decide), uo 344 (by omega)]
    show zA xm_c236 27 [344, ((k : Nat) : Int), 0] [] (zu (zu (zu u 363 ((k : Nat) : Int) (zb 1)) 361 ((k : Nat) : Int) (zu u 363 ((k : Nat) : Int) (zb 1) 344 21)) 362 ((k : Nat) : Int) (zu (zu u 363 ((k : Nat) : Int) (zb 1)) 361 ((k : Nat) : Int) (zu u 363 ((k : Nat) : Int) (zb 1) 344 21) 344 22)) _
    rw [g1, g2, ← wo 354 (by omega) (by omega)]
    show zA xm_c236 27 [344, ((k : Nat) : Int), 0] [] (zu (zu (zu u 363 ((k : Nat) : Int) 1) 361 ((k : Nat) : Int) (s 344 21)) 362 ((k : Nat) : Int) (s 344 22)) _
    rw [← hv]
    exact b1)))
  have e7 : w 7 8 = s 7 8 := by rw [wo 7 (by omega) (by omega)]
  have v360 : v 360 = s 360 := by rw [vo 360 (by omega), uo 360 (by omega)]
  have v354 : v 354 = s 354 := by rw [vo 354 (by omega), uo 354 (by omega)]
  have w3 : ∀ y, w 361 y = (if y = ((k : Nat) : Int) then s 344 21 else s 361 y) ∧ w 362 y = (if y = ((k : Nat) : Int) then s 344 22 else s 362 y) ∧ w 363 y = (if y = ((k : Nat) : Int) then 1 else s 363 y) := fun y => by
    rw [b2 361 (by decide), b2 362 (by decide), b2 363 (by decide), hv]
    refine ⟨?_, ?_, ?_⟩
    · rw [zu_cell (by decide), zu2, zu_cell (by decide), uo 361 (by omega)]
    · rw [zu2, zu_cell (by decide), zu_cell (by decide), uo 362 (by omega)]
    · rw [zu_cell (by decide), zu_cell (by decide), zu2, uo 363 (by omega)]
  refine ⟨_, u, w, run1, run2, zgA_c A (by rw [wo 8 (by omega) (by omega)]) (wo 9 (by omega) (by omega)) (by rw [wo 344 (by omega) (by omega)]) (wo 345 (by omega) (by omega)), zgB_c B h6 e7 (fun x x1 x2 => wo x (by omega) (by omega)) (fun x x1 x2 => wo x (by omega) (by omega)) (by rw [wo 344 (by omega) (by omega)]), zgC_c ⟨C1, C2, C3⟩ e7 (by rw [wo 10 (by omega) (by omega)]) (by rw [wo 10 (by omega) (by omega)]) (by rw [wo 344 (by omega) (by omega)]) (by rw [wo 344 (by omega) (by omega)]), ⟨n, m, zgD_c D (fun x x1 x2 => wo x (by omega) (by omega)) (by rw [wo 10 (by omega) (by omega)]) (wo 354 (by omega) (by omega)), zgE_c E (by rw [wo 40 (by omega) (by omega)]) (by rw [wo 40 (by omega) (by omega)]) (fun x x1 x2 => wo x (by omega) (by omega)) (by rw [wo 344 (by omega) (by omega)]) (wo 356 (by omega) (by omega)) (wo 354 (by omega) (by omega))⟩, fun j hj => ?_⟩
  have cw : ∀ x, w (264 + 20 * ((k : Nat) : Int)) x = if x = 8 then 1 else t (264 + 20 * ((k : Nat) : Int)) x := fun x => by rw [b2 _ (by omega), vo _ (by omega), hu, zu2]
  obtain ⟨p1, p2, p3⟩ := w3 ((j : Nat) : Int)
  rw [p1, p2, p3, e7]
  obtain ⟨D1, D2⟩ := D
  by_cases c : j = k
  · subst c
    rw [if_pos rfl, if_pos rfl, if_pos rfl, cw, cw, cw, if_pos rfl, if_neg (by decide), if_neg (by decide), a3, a4]
    refine ⟨rfl, fun _ => ⟨⟨C1, by rw [← C1]; exact C2.1, by rw [← C1]; exact C2.2⟩, C3, n, m, ?_⟩⟩
    have z1 : zRS t (264 + 20 * ((j : Nat) : Int)) (s 354) n m := a2 _ n m D2.1.1.2.1 D2.1.1.2.2.2.1 D2.2.2.2.1 D1
    have z2 : zRS w (264 + 20 * ((j : Nat) : Int)) (s 354) n m := zRS_c z1 (fun x x1 x2 => by
      rw [b2 x (by omega), vo x (by omega), hu]
      exact funext (fun y => zu_cell (by omega))) (by rw [cw, if_neg (by decide)])
    exact zRS_t z2 D2 (fun i i0 i1 => by
      unfold zim
      rw [b3, if_pos (by omega), v354]
      congr 1
      omega)
  · have cz : ((j : Nat) : Int) ≠ ((k : Nat) : Int) := by omega
    rw [if_neg cz, if_neg cz, if_neg cz]
    have js : ∀ x, 264 + 20 * ((j : Nat) : Int) ≤ x → x ≤ 264 + 20 * ((j : Nat) : Int) + 19 → w x = s x := fun x x1 x2 => wo x (by omega) (by omega)
    rw [js _ (by omega) (by omega)]
    obtain ⟨i1, i2⟩ := I j hj
    refine ⟨i1, fun hm => ?_⟩
    obtain ⟨q1, q2, n', m', q3, q4⟩ := i2 hm
    refine ⟨q1, q2, n', m', ?_⟩
    exact zRS_t (zRS_c q3 (fun x x1 x2 => js x (by omega) (by omega)) (by rw [js _ (by omega) (by omega)])) q4 (fun i i0 i1 => by
      unfold zim
      rw [b3, if_neg (by omega), v360])
theorem zA_back (H : zRZ bB s) (h6 : s 7 8 ≤ 6) : ∃ r s1 s2, zE xm_c117 [7, x] s r s1 ∧ zE xm_c237 [344, x, 0] s1 r s2 ∧ zRZ bB s2 := by
  have h1 := zr_in (s := s) (x := x)
  by_cases hx : 0 ≤ x ∧ x < 4
  case neg =>
    rw [if_neg hx] at h1
    exact zRZ_r H (r := -1) (zb_117_0 (fun _ => zb_117_11 rfl) (fun q => zb_117_2 (fun q' => absurd ⟨by omega, q'⟩ hx) (fun _ => zb_117_11 rfl))) (zb_237_0 h1 (zb_237_5 (fun _ => zb_237_11 rfl) (fun q => absurd rfl q)))
  rw [if_pos hx] at h1
  obtain ⟨k, hk, rfl⟩ := zk_4 hx.1 hx.2
  have hI := H.2.2.2.2 k hk
  by_cases hm : s 363 ((k : Nat) : Int) = 0
  · exact zRZ_r H (r := -1) (zb_117_0 (fun _ => zb_117_11 rfl) (fun _ => zb_117_2 (fun _ => zb_117_5 (fun _ => zb_117_11 rfl) (fun q => absurd (hI.1.trans hm) q)) (fun _ => zb_117_11 rfl))) (zb_237_0 h1 (zb_237_5 (fun q => absurd q (by decide)) (fun _ => zb_237_6 (fun _ => zb_237_11 rfl) (fun q => absurd hm q))))
  obtain ⟨i0, i1⟩ := hI
  obtain ⟨⟨I1, I2, I3⟩, I4, n, m, I5, I6⟩ := i1 hm
  obtain ⟨A, B, ⟨C1, C2, C3⟩, ⟨n', m', D, E⟩, I⟩ := H
  obtain ⟨t, a1, a2, ⟨a3, a4⟩, a5, a6⟩ := zo_cpS (s := s) (c := 10) (d := 264 + 20 * ((k : Nat) : Int)) (Or.inl (by omega))
  obtain ⟨u, hu⟩ : ∃ u : zS, u = zu t 40 3 0 := ⟨_, rfl⟩
  have uo : ∀ x, ¬ (10 ≤ x ∧ x ≤ 29) → x ≠ 40 → u x = s x := fun x hx hy => by
    rw [hu, ← a6 x (by omega)]
    exact funext (fun y => zu_cell hy)
  have z1 : zRS t 10 (zim s k) n m := a2 _ n m I6.1.1.2.1 I6.1.1.2.2.2.1 I6.2.2.2.1 I5
  have run1 : zE xm_c117 [7, ((k : Nat) : Int)] s (zim s k 4) u := zb_117_0 (fun q => absurd q (by omega)) (fun _ => zb_117_2 (fun _ => zb_117_5 (fun q => absurd (i0.symm.trans q) hm) (fun _ => zb_117_13 (r := 0) (s1 := t) a1 (zb_117_20 (r := 0) (s1 := u) (zb_19_0 (by rw [hu]; rfl)) (zb_117_23 (by
    refine Prod.ext ?_ rfl
    show u 19 0 = zim s k 4
    rw [hu, zu_cell (by decide)]
    exact z1.2.1.1))))) (fun q => absurd hx.2 q))
  have h2 := zr_in (s := u) (x := ((k : Nat) : Int))
  rw [if_pos hx] at h2
  obtain ⟨v, hv⟩ : ∃ v : zS, v = zu (zu (zu u 344 21 (s 361 ((k : Nat) : Int))) 344 22 (s 362 ((k : Nat) : Int))) 344 26 0 := ⟨_, rfl⟩
  have vo : ∀ x, x ≠ 344 → v x = u x := fun x hx => by
    rw [hv]
    exact funext (fun y => by rw [zu_cell hx, zu_cell hx, zu_cell hx])
  obtain ⟨w, b1, b2, b3⟩ := zr_bkL hx.1 hx.2 146 0 v rfl
  have v360 : v 360 = s 360 := by rw [vo 360 (by decide), uo 360 (by omega) (by omega)]
  have wo : ∀ x, ¬ (10 ≤ x ∧ x ≤ 29) → x ≠ 40 → x ≠ 344 → x ≠ 354 → w x = s x := fun x x1 x2 x3 x4 => by rw [b2 x x4, vo x x3, uo x x1 x2]
  have wt : ∀ x, 10 ≤ x → x ≤ 29 → w x = t x := fun x x1 x2 => by
    rw [b2 x (by omega), vo x (by omega), hu]
    exact funext (fun y => zu_cell (by omega))
  have w3 : ∀ i, 0 ≤ i → i < 146 → w 354 i = zim s k i := fun i i0 i1 => by
    rw [b3, if_pos ⟨i0, i1⟩, v360]
    rfl
  have run2 : zE xm_c237 [344, ((k : Nat) : Int), 0] u (zim s k 4) w := zb_237_0 h2 (zb_237_5 (fun q => absurd q (by decide)) (fun _ => zb_237_6 (fun q => absurd (by rw [← q]; exact (congrFun (uo 363 (by omega) (by omega)) _).symm) hm) (fun _ => zb_237_13 (by
    have g1 : u 361 ((k : Nat) : Int) = s 361 ((k : Nat) : Int) := by rw [uo 361 (by omega) (by omega)]
    have g2 : zu u 344 21 (s 361 ((k : Nat) : Int)) 362 ((k : Nat) : Int) = s 362 ((k : Nat) : Int) := by rw [zu_cell (by decide), uo 362 (by omega) (by omega)]
    show zA xm_c237 30 [344, ((k : Nat) : Int), 0] [] (zu (zu (zu u 344 21 (u 361 ((k : Nat) : Int))) 344 22 (zu u 344 21 (u 361 ((k : Nat) : Int)) 362 ((k : Nat) : Int))) 344 26 0) _
    rw [g1, g2, ← w3 4 (by decide) (by decide), ← hv]
    exact b1))))
  have e7 : w 7 8 = s 7 8 := by rw [wo 7 (by omega) (by omega) (by omega) (by omega)]
  have w344 : w 344 = v 344 := b2 344 (by decide)
  have v344 : ∀ y, y ≠ 21 → y ≠ 22 → y ≠ 26 → v 344 y = s 344 y := fun y y1 y2 y3 => by rw [hv, zu_place y3, zu_place y2, zu_place y1, uo 344 (by omega) (by omega)]
  have v21 : v 344 21 = s 361 ((k : Nat) : Int) := by rw [hv, zu_place (by decide), zu_place (by decide), zu_hit]
  have v22 : v 344 22 = s 362 ((k : Nat) : Int) := by rw [hv, zu_place (by decide), zu_hit]
  have v26 : v 344 26 = 0 := by rw [hv, zu_hit]
  have w40 : ∀ y, w 40 y = if y = 3 then 0 else s 40 y := fun y => by rw [b2 40 (by decide), vo 40 (by decide), hu, zu2, a6 40 (by omega)]
  have o : ∀ x, ¬ (10 ≤ x ∧ x ≤ 29) ∧ x ≠ 40 ∧ x ≠ 344 ∧ x ≠ 354 → w x = s x := fun x hx => wo x hx.1 hx.2.1 hx.2.2.1 hx.2.2.2
  obtain ⟨z3, z4⟩ := zRS_t (zRS_c z1 (fun x x1 x2 => wt x (by omega) (by omega)) (by rw [wt 10 (by decide) (by decide)])) I6 w3
  refine ⟨_, u, w, run1, run2, zgA_c A (by rw [o 8 (by omega)]) (o 9 (by omega)) (by rw [w344, v344 1 (by decide) (by decide) (by decide)]) (o 345 (by omega)), zgB_c B h6 e7 (fun x x1 x2 => o x (by omega)) (fun x x1 x2 => o x (by omega)) (by rw [w344, v344 2 (by decide) (by decide) (by decide)]), ⟨?_, ?_, ?_⟩, ⟨n, m, ⟨z3, z4⟩, zgE_0 (by rw [w40, if_pos rfl]) (by rw [w344, v26]) (by rw [w40, if_neg (by decide)]; exact ⟨E.1.2.2.2.1, E.1.2.2.2.2⟩)⟩, zgF_c I (by rw [e7]; exact Int.le_refl _) (fun x x1 x2 => o x (by omega)) (fun x x1 x2 => o x (by omega))⟩
  · rw [wt 10 (by decide) (by decide), w344, v21, a3, I1]
  · rw [wt 10 (by decide) (by decide), e7, a3, I1]
    exact ⟨I2, I3⟩
  · rw [wt 10 (by decide) (by decide), w344, v22, a4, I4]
end JD
