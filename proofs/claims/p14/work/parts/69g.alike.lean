/-! what the two sides' calls leave is alike again -/
section ZL
variable {s s1 s2 : zS} {x : Int}
theorem zl_feed {x1 x2 x3 x4 x5 : Int} (hr : zRel s) (h0 : 0 ≤ s 8 1) (K1 : zKp yi_133.2.2.2.2 s s1) (K2 : zKp yi_284.2.2.2.2 s1 s2) (e1 : s1 = zfe 8 s x1 x2 x3 x4 x5) (e2 : s2 = zfe 344 s1 x1 x2 x3 x4 x5) : zRel s2 ∧ zfr 8 s s1 = zfr 344 s1 s2 := by
  obtain ⟨⟨a1, a2⟩, a3, a4, a5⟩ := hr
  have l2 := K1.len2 rfl
  have h : zTp 8 344 s s1 := ⟨by rw [l2, a1], h0, fun k hk => by
    have := K1.by2 (fun _ => rfl) k hk
    show s 9 k = s1 345 k
    rw [this, a2 k hk]⟩
  have h2 := zTp_fe (x1 := x1) (x2 := x2) (x3 := x3) (x4 := x4) (x5 := x5) h
  rw [← e1, ← e2] at h2
  obtain ⟨b1, -, b2⟩ := h2
  refine ⟨⟨⟨by rw [K2.len1 rfl]; exact b1, fun k hk => by rw [K2.by1 (fun _ => rfl) k hk]; exact b2 k hk⟩, by rw [K2.cnt1 rfl, K2.cnt2 rfl, K1.cnt1 rfl, K1.cnt2 rfl, a3], by rw [K2.frc1 rfl, K2.frc2 rfl, K1.frc1 rfl, K1.frc2 rfl, a4], fun k hk => ⟨fun hm => by rw [K2.imm2 (fun _ => rfl) k hk, K1.imm2 (fun _ => rfl) k hk] at hm; rw [K2.imf1 rfl k hk, K2.imf2 (fun _ => rfl) k hk, K1.imf1 rfl k hk, K1.imf2 (fun _ => rfl) k hk]; exact (a5 k hk).1 hm, by rw [K2.imm1 rfl k hk, K2.imm2 (fun _ => rfl) k hk, K1.imm1 rfl k hk, K1.imm2 (fun _ => rfl) k hk]; exact (a5 k hk).2⟩⟩, ?_⟩
  unfold zfr
  rw [l2, ← a1, b1]
theorem zl_end (hr : zRel s) (K1 : zKp yi_134.2.2.2.2 s s1) (K2 : zKp yi_285.2.2.2.2 s1 s2) (e1 : s1 = zen 8 s x) (e2 : s2 = zen 344 s1 x) : zRel s2 ∧ zer 8 s x = zer 344 s1 x := by
  obtain ⟨⟨a1, a2⟩, a3, a4, a5⟩ := hr
  have l2 := K1.len2 rfl
  refine ⟨⟨⟨?_, fun k hk => by rw [K2.by1 (fun _ => rfl) k hk, K2.by2 (fun _ => rfl) k hk, K1.by1 (fun _ => rfl) k hk, K1.by2 (fun _ => rfl) k hk, a2 k hk]⟩, by rw [K2.cnt1 rfl, K2.cnt2 rfl, K1.cnt1 rfl, K1.cnt2 rfl, a3], by rw [K2.frc1 rfl, K2.frc2 rfl, K1.frc1 rfl, K1.frc2 rfl, a4], fun k hk => ⟨fun hm => by rw [K2.imm2 (fun _ => rfl) k hk, K1.imm2 (fun _ => rfl) k hk] at hm; rw [K2.imf1 rfl k hk, K2.imf2 (fun _ => rfl) k hk, K1.imf1 rfl k hk, K1.imf2 (fun _ => rfl) k hk]; exact (a5 k hk).1 hm, by rw [K2.imm1 rfl k hk, K2.imm2 (fun _ => rfl) k hk, K1.imm1 rfl k hk, K1.imm2 (fun _ => rfl) k hk]; exact (a5 k hk).2⟩⟩, ?_⟩
  · rw [K2.len1 rfl, e2, zen_1, l2, e1, zen_1, a1]
  · unfold zer
    rw [l2, a1]
theorem zl_house (hr : zRel s) (K1 : zKp yi_290.2.2.2.2 s s1) (K2 : zKp yi_292.2.2.2.2 s1 s2) (e1 : s1 8 1 = 0) (e2 : s2 344 1 = 0) : zRel s2 := by
  obtain ⟨⟨a1, a2⟩, a3, a4, a5⟩ := hr
  exact ⟨⟨by rw [K2.len1 rfl, e1, e2], fun k hk => by rw [K2.by1 (fun _ => rfl) k hk, K2.by2 (fun _ => rfl) k hk, K1.by1 (fun _ => rfl) k hk, K1.by2 (fun _ => rfl) k hk, a2 k hk]⟩, by rw [K2.cnt1 rfl, K2.cnt2 rfl, K1.cnt1 rfl, K1.cnt2 rfl, a3], by rw [K2.frc1 rfl, K2.frc2 rfl, K1.frc1 rfl, K1.frc2 rfl, a4], fun k hk => ⟨fun hm => by rw [K2.imm2 (fun _ => rfl) k hk, K1.imm2 (fun _ => rfl) k hk] at hm; rw [K2.imf1 rfl k hk, K2.imf2 (fun _ => rfl) k hk, K1.imf1 rfl k hk, K1.imf2 (fun _ => rfl) k hk]; exact (a5 k hk).1 hm, by rw [K2.imm1 rfl k hk, K2.imm2 (fun _ => rfl) k hk, K1.imm1 rfl k hk, K1.imm2 (fun _ => rfl) k hk]; exact (a5 k hk).2⟩⟩
theorem zl_rule {r r' : Int} (h9 : s 9 = s 345) (hr : zRel s) (K1 : zKp yi_136.2.2.2.2 s s1) (K2 : zKp yi_227.2.2.2.2 s1 s2) (D1 : (s 7 8 = 6 ∧ r = -1 ∧ s1 = s) ∨ (s 7 8 ≠ 6 ∧ ∃ f, zg_end (s 9) (s 8 1) (0, 0, zg_sk (s 9) (s 8 1) 0, 0, 0, []) f ∧ s1 8 1 = 0 ∧ s1 7 8 = (if f = 0 then s 7 8 + 1 else s 7 8) ∧ r = zrq (s 7 8) f ∧ s1 345 = s 345)) (D2 : (s1 344 2 = 6 ∧ r' = -1 ∧ s2 = s1) ∨ (s1 344 2 ≠ 6 ∧ ∃ f, zg_end (s1 345) (s1 344 1) (0, 0, zg_sk (s1 345) (s1 344 1) 0, 0, 0, []) f ∧ s2 344 1 = 0 ∧ s2 344 2 = (if f = 0 then s1 344 2 + 1 else s1 344 2) ∧ r' = zrq (s1 344 2) f)) : zRel s2 ∧ r = r' := by
  have hr0 := hr
  obtain ⟨⟨a1, a2⟩, a3, a4, a5⟩ := hr
  have l2 := K1.len2 rfl
  have c2 := K1.cnt2 rfl
  rcases D1 with ⟨d1, d2, d3⟩ | ⟨d1, f, d2, d3, d4, d5, d6⟩
  · rcases D2 with ⟨g1, g2, g3⟩ | ⟨g1, -⟩
    · subst d3
      subst g3
      exact ⟨hr0, by rw [d2, g2]⟩
    · exact absurd (by rw [c2, ← a3, d1]) g1
  · rcases D2 with ⟨g1, -⟩ | ⟨g1, f', g2, g3, g4, g5⟩
    · exact absurd (by rw [a3, ← c2, g1]) d1
    · rw [d6, ← h9, l2, ← a1] at g2
      have ef := zg_det d2 g2
      subst ef
      refine ⟨⟨⟨by rw [K2.len1 rfl, d3, g3], fun k hk => by rw [K2.by1 (fun _ => rfl) k hk, K2.by2 (fun _ => rfl) k hk, K1.by1 (fun _ => rfl) k hk, K1.by2 (fun _ => rfl) k hk, a2 k hk]⟩, by rw [K2.cnt1 rfl, d4, g4, c2, a3], by rw [K2.frc1 rfl, K2.frc2 rfl, K1.frc1 rfl, K1.frc2 rfl, a4], fun k hk => ⟨fun hm => by rw [K2.imm2 (fun _ => rfl) k hk, K1.imm2 (fun _ => rfl) k hk] at hm; rw [K2.imf1 rfl k hk, K2.imf2 (fun _ => rfl) k hk, K1.imf1 rfl k hk, K1.imf2 (fun _ => rfl) k hk]; exact (a5 k hk).1 hm, by rw [K2.imm1 rfl k hk, K2.imm2 (fun _ => rfl) k hk, K1.imm1 rfl k hk, K1.imm2 (fun _ => rfl) k hk]; exact (a5 k hk).2⟩⟩, ?_⟩
      rw [d5, g5, c2, a3]
theorem zl_force (hr : zRel s) (K1 : zKp yi_137.2.2.2.2 s s1) (K2 : zKp yi_286.2.2.2.2 s1 s2) (e1 : s1 = zfo 10 6 7 8 s x) (e2 : s2 = zfo 344 21 344 2 s1 x) : zRel s2 ∧ zfq 10 6 7 8 s x = zfq 344 21 344 2 s1 x := by
  obtain ⟨⟨a1, a2⟩, a3, a4, a5⟩ := hr
  have c2 := K1.cnt2 rfl
  have f2 := K1.frc2 rfl
  refine ⟨⟨⟨by rw [K2.len1 rfl, K2.len2 rfl, K1.len1 rfl, K1.len2 rfl, a1], fun k hk => by rw [K2.by1 (fun _ => rfl) k hk, K2.by2 (fun _ => rfl) k hk, K1.by1 (fun _ => rfl) k hk, K1.by2 (fun _ => rfl) k hk, a2 k hk]⟩, by rw [K2.cnt1 rfl, K2.cnt2 rfl, K1.cnt1 rfl, K1.cnt2 rfl, a3], ?_, fun k hk => ⟨fun hm => by rw [K2.imm2 (fun _ => rfl) k hk, K1.imm2 (fun _ => rfl) k hk] at hm; rw [K2.imf1 rfl k hk, K2.imf2 (fun _ => rfl) k hk, K1.imf1 rfl k hk, K1.imf2 (fun _ => rfl) k hk]; exact (a5 k hk).1 hm, by rw [K2.imm1 rfl k hk, K2.imm2 (fun _ => rfl) k hk, K1.imm1 rfl k hk, K1.imm2 (fun _ => rfl) k hk]; exact (a5 k hk).2⟩⟩, ?_⟩
  · rw [K2.frc1 rfl, e2, zfo_1, c2, f2, e1, zfo_1, a3, a4]
  · unfold zfq
    rw [c2, f2, a3, a4]
theorem zl_image (hr : zRel s) (K1 : zKp yi_161.2.2.2.2 s s1) (K2 : zKp yi_287.2.2.2.2 s1 s2) (e1 : ∀ k : Nat, k < 4 → s1 (264 + 20 * (k : Int)) 6 = (if (k : Int) = x then s 10 6 else s (264 + 20 * (k : Int)) 6) ∧ s1 (264 + 20 * (k : Int)) 8 = (if (k : Int) = x then 1 else s (264 + 20 * (k : Int)) 8)) (e2 : ∀ k : Nat, k < 4 → s2 361 k = (if (k : Int) = x then s1 344 21 else s1 361 k) ∧ s2 363 k = (if (k : Int) = x then 1 else s1 363 k)) : zRel s2 := by
  obtain ⟨⟨a1, a2⟩, a3, a4, a5⟩ := hr
  refine ⟨⟨by rw [K2.len1 rfl, K2.len2 rfl, K1.len1 rfl, K1.len2 rfl, a1], fun k hk => by rw [K2.by1 (fun _ => rfl) k hk, K2.by2 (fun _ => rfl) k hk, K1.by1 (fun _ => rfl) k hk, K1.by2 (fun _ => rfl) k hk, a2 k hk]⟩, by rw [K2.cnt1 rfl, K2.cnt2 rfl, K1.cnt1 rfl, K1.cnt2 rfl, a3], by rw [K2.frc1 rfl, K2.frc2 rfl, K1.frc1 rfl, K1.frc2 rfl, a4], fun k hk => ⟨?_, ?_⟩⟩
  · intro hm
    rw [(e2 k hk).2, K1.imm2 (fun _ => rfl) k hk] at hm
    rw [K2.imf1 rfl k hk, (e1 k hk).1, (e2 k hk).1, K1.frc2 rfl, K1.imf2 (fun _ => rfl) k hk, a4]
    by_cases e : (k : Int) = x
    · rw [if_pos e, if_pos e]
    · rw [if_neg e] at hm
      rw [if_neg e, if_neg e, (a5 k hk).1 hm]
  · rw [K2.imm1 rfl k hk, (e1 k hk).2, (e2 k hk).2, K1.imm2 (fun _ => rfl) k hk, (a5 k hk).2]
theorem zl_back (hr : zRel s) (K1 : zKp yi_162.2.2.2.2 s s1) (K2 : zKp yi_288.2.2.2.2 s1 s2) (e1 : s1 10 6 = zbf x (s (264 + 20 * x) 8) (s (264 + 20 * x) 6) (s 10 6)) (e2 : s2 344 21 = zbf x (s1 363 x) (s1 361 x) (s1 344 21)) : zRel s2 := by
  obtain ⟨⟨a1, a2⟩, a3, a4, a5⟩ := hr
  refine ⟨⟨by rw [K2.len1 rfl, K2.len2 rfl, K1.len1 rfl, K1.len2 rfl, a1], fun k hk => by rw [K2.by1 (fun _ => rfl) k hk, K2.by2 (fun _ => rfl) k hk, K1.by1 (fun _ => rfl) k hk, K1.by2 (fun _ => rfl) k hk, a2 k hk]⟩, by rw [K2.cnt1 rfl, K2.cnt2 rfl, K1.cnt1 rfl, K1.cnt2 rfl, a3], ?_, fun k hk => ⟨fun hm => by rw [K2.imm2 (fun _ => rfl) k hk, K1.imm2 (fun _ => rfl) k hk] at hm; rw [K2.imf1 rfl k hk, K2.imf2 (fun _ => rfl) k hk, K1.imf1 rfl k hk, K1.imf2 (fun _ => rfl) k hk]; exact (a5 k hk).1 hm, by rw [K2.imm1 rfl k hk, K2.imm2 (fun _ => rfl) k hk, K1.imm1 rfl k hk, K1.imm2 (fun _ => rfl) k hk]; exact (a5 k hk).2⟩⟩
  rw [K2.frc1 rfl, e1, e2, K1.frc2 rfl, a4]
  by_cases hx : 0 ≤ x ∧ x < 4
  · obtain ⟨n, hn, rfl⟩ := zk_4 hx.1 hx.2
    rw [K1.imm2 (fun _ => rfl) n hn, K1.imf2 (fun _ => rfl) n hn, (a5 n hn).2]
    unfold zbf
    by_cases hm : s 363 n = 0
    · rw [if_neg (fun q => q.2 hm), if_neg (fun q => q.2 hm)]
    · rw [if_pos ⟨hx, hm⟩, if_pos ⟨hx, hm⟩, (a5 n hn).1 hm]
  · unfold zbf
    rw [if_neg (fun q => hx q.1), if_neg (fun q => hx q.1)]
end ZL
