/-! ===== words, pattern, count ===== -/
theorem Lw_words {N : Nat} {V : Nat → Int32} {GI : Nat → Nat → Int32} {GL : Nat → Nat → Int64} {pres : Nat → Bool} {MV : Nat → Int32} {MG : Nat → Nat → Int32} {A : Nat → Nat} (hN : 1000 ≤ N) (hI : Inv V GI GL pres MV MG) : ∃ res resM, fX11_words N (V 0) (V 1) (GI 0) (V 2) (GL 0) (V 3) (GL 1) (V 5) (V 6) (V 7) (V 16) (GL 7) (V 17) (GL 8) (V 18) (GL 9) (A 5) (A 33) (A 34) (A 6) (A 35) (A 36) = some res ∧ fX12_words N (MV 0) (MV 1) (MV 2) (MV 3) (MG 0) (MG 1) = some resM ∧ res.1 = resM.1 ∧ Inv (sI (sI (sI (sI (sI (sI (sI (sI (sI (sI V 0 res.2.1) 1 res.2.2.1) 2 res.2.2.2.1) 3 res.2.2.2.2.2.1) 5 res.2.2.2.2.2.2.2.1) 6 res.2.2.2.2.2.2.2.2.1) 7 res.2.2.2.2.2.2.2.2.2.1) 16 res.2.2.2.2.2.2.2.2.2.2.1) 17 res.2.2.2.2.2.2.2.2.2.2.2.2.1) 18 res.2.2.2.2.2.2.2.2.2.2.2.2.2.2.1) GI (sL (sL (sL (sL (sL GL 0 res.2.2.2.2.1) 1 res.2.2.2.2.2.2.1) 7 res.2.2.2.2.2.2.2.2.2.2.2.1) 8 res.2.2.2.2.2.2.2.2.2.2.2.2.2.1) 9 res.2.2.2.2.2.2.2.2.2.2.2.2.2.2.2.1) pres (sI (sI (sI (sI MV 0 resM.2.1) 1 resM.2.2.1) 2 resM.2.2.2.1) 3 resM.2.2.2.2.1) (sG MG 0 resM.2.2.2.2.2) := by
  obtain ⟨⟨m, d, e, fl, ew, q, P, t, n, hS, ⟨c1, c2, c3, c4, c5, c6, c7, c8, c9⟩, hF, hT1, hT2, hFa, hX, hCut⟩, ⟨u, hu, hu1, hu2, hU⟩, hM, h6⟩ := hI
  obtain ⟨hD, he, hB, hq, hn⟩ := hS
  have h12 := hq.2.1
  have hP := hF.PA
  rcases op_words (e := V 0) (v2 := V 2) (v3 := V 3) (kd0 := V 5) (pl0 := V 6) (vm := V 7) (v4 := V 16) (v5 := V 17) (vr := V 18) (u := MV 3) (kd1 := MV 1) (pl1 := MV 2) (f := MG 0) (g2 := GL 0) (g3 := GL 1) (g4 := GL 7) (g5 := GL 8) (gr := GL 9) (a1 := A 5) (a2 := A 33) (a3 := A 34) (a4 := A 6) (a5 := A 35) (a6 := A 36) hN hn c3 hT2 with ⟨m', d', gd, gc, ni, W, F, G, vr', gr', f', a1, a2, a3, a4, a5, a6, a7, a8, a9, a10⟩ | ⟨kd, pl, vr', gr', f', a1, a2, a3, a4⟩
  · rw [c2, hT1]
    refine ⟨_, _, a1, a2, rfl, ⟨m', d', 0, fl, ew, q, P, t, 0, ⟨a3, Nat.zero_le _, fun k hk => absurd hk (Nat.not_lt_zero k), hq, Nat.zero_le _⟩, ⟨rfl, rfl, fun i hi => absurd hi (Nat.not_lt_zero i), rfl, a4, rfl, a5, c8, c9⟩, ?_, rfl, fun i hi => absurd hi (Nat.not_lt_zero i), ⟨rfl, rfl, fun _ => rfl⟩, ⟨ni, W, F, a6, rfl, a7⟩, hCut⟩, ⟨0, Nat.zero_le _, rfl, rfl, ⟨fun _ => 0, fun _ _ => 0, fun k hk => absurd hk (Nat.not_lt_zero k)⟩⟩, ImsR_k (MG := MG) (fun i h1 => by first | rfl | (repeat rw [sI_ne (by omega)])) (fun i h1 => by first | rfl | (repeat rw [sG_ne (by omega)])) (fun i h1 => by first | rfl | (repeat rw [sL_ne (by omega)])) rfl (fun j hj => a10 j (by omega) (by omega)) hM, h6⟩
    show StF f' 0 m' d' 0 fl ew q P
    exact EA.St a8 ⟨a9, fun k hk => absurd hk (Nat.not_lt_zero k)⟩ ⟨by rw [a10 430 (by omega) (by omega)]; exact hP.1, fun i hi => by rw [a10 _ (by omega) (by omega)]; exact hP.2 i hi⟩
  · have hk : kd = 0 → pl = -1 := fun z => absurd z a4
    rw [c2, hT1]
    refine ⟨_, _, a1, a2, rfl, ⟨m, d, e, fl, ew, q, P, t, 0, ⟨hD, he, hB, hq, Nat.zero_le _⟩, ⟨c1, rfl, fun i hi => absurd hi (Nat.not_lt_zero i), c4, c5, c6, c7, c8, c9⟩, StF_move ⟨hD, he, hB, hq, hn⟩ (fun j hj => a3 _ (by omega)) hF, rfl, fun i hi => absurd hi (Nat.not_lt_zero i), ⟨rfl, rfl, hk⟩, hX, hCut⟩, ⟨u, hu, hu1, hu2, UnR_k (f := MG 0) hu (fun i h1 h2 => by first | rfl | (repeat rw [sI_ne (by omega)])) (fun i h1 h2 => by first | rfl | (repeat rw [sL_ne (by omega)])) (fun j h1 _ => a3 j (by omega)) hU⟩, ImsR_k (MG := MG) (fun i h1 => by first | rfl | (repeat rw [sI_ne (by omega)])) (fun i h1 => by first | rfl | (repeat rw [sG_ne (by omega)])) (fun i h1 => by first | rfl | (repeat rw [sL_ne (by omega)])) rfl (fun j hj => a3 j (by omega)) hM, h6⟩
theorem Lw_pattern {N : Nat} {V : Nat → Int32} {GI : Nat → Nat → Int32} {GL : Nat → Nat → Int64} {pres : Nat → Bool} {MV : Nat → Int32} {MG : Nat → Nat → Int32} (hN : 1000 ≤ N) (hI : Inv V GI GL pres MV MG) : ∃ res resM, fX11_pattern N (V 1) (GI 0) (V 4) (GI 1) (V 5) (V 6) (V 12) (V 13) (V 14) (V 15) (GI 2) (GI 3) (GI 4) (GI 5) (GL 6) = some res ∧ fX12_pattern N (MV 0) (MV 1) (MV 2) (MV 5) (MV 6) (MG 0) (MG 1) (MG 5) (MG 6) = some resM ∧ res.1 = resM.1 ∧ Inv (sI (sI (sI (sI (sI (sI (sI (sI V 1 res.2.1) 4 res.2.2.1) 5 res.2.2.2.2.1) 6 res.2.2.2.2.2.1) 12 res.2.2.2.2.2.2.1) 13 res.2.2.2.2.2.2.2.1) 14 res.2.2.2.2.2.2.2.2.1) 15 res.2.2.2.2.2.2.2.2.2.1) (sG (sG (sG (sG (sG GI 1 res.2.2.2.1) 2 res.2.2.2.2.2.2.2.2.2.2.1) 3 res.2.2.2.2.2.2.2.2.2.2.2.1) 4 res.2.2.2.2.2.2.2.2.2.2.2.2.1) 5 res.2.2.2.2.2.2.2.2.2.2.2.2.2.1) (sL GL 6 res.2.2.2.2.2.2.2.2.2.2.2.2.2.2) pres (sI (sI (sI (sI (sI MV 0 resM.2.1) 1 resM.2.2.1) 2 resM.2.2.2.1) 5 resM.2.2.2.2.1) 6 resM.2.2.2.2.2.1) (sG (sG (sG MG 0 resM.2.2.2.2.2.2.1) 5 resM.2.2.2.2.2.2.2.1) 6 resM.2.2.2.2.2.2.2.2) := by
  obtain ⟨⟨m, d, e, fl, ew, q, P, t, n, hS, ⟨c1, c2, c3, c4, c5, c6, c7, c8, c9⟩, hF, hT1, hT2, hFa, hX, hCut⟩, ⟨u, hu, hu1, hu2, hU⟩, hM, h6⟩ := hI
  obtain ⟨hD, he, hB, hq, hn⟩ := hS
  have h40 := hD.1
  rcases op_pattern (vp := V 4) (kd0 := V 5) (pl0 := V 6) (kd1 := MV 1) (pl1 := MV 2) (c1 := V 12) (c2 := V 13) (c3 := V 14) (c4 := V 15) (v1 := MV 5) (v2 := MV 6) (f := MG 0) (gs := GI 1) (b1 := GI 2) (b2 := GI 3) (b3 := GI 4) (b4 := GI 5) (ps := MG 5) (b5 := GL 6) hN hn c3 hT2 h6 with ⟨r, gs', x1, x2, x3, x4, y1, y2, y3, y4, y5, v1', v2', f', ps', pf', a1, a2, a3, a4, a5, a6, a7, a8⟩ | ⟨kd, pl, a1, a2, a3⟩
  · rw [c2, hT1]
    refine ⟨_, _, a1, a2, rfl, ⟨m, d, e, fl, ew, t, n, t, 0, ⟨hD, he, hB, a4, Nat.zero_le _⟩, ⟨c1, rfl, fun i hi => absurd hi (Nat.not_lt_zero i), c4, c5, c6, c7, rfl, a5⟩, ?_, rfl, fun i hi => absurd hi (Nat.not_lt_zero i), ⟨rfl, rfl, fun _ => rfl⟩, hX, a6⟩, ⟨u, hu, hu1, hu2, UnR_k (f := MG 0) hu (fun i h1 h2 => by first | rfl | (repeat rw [sI_ne (by omega)])) (fun i h1 h2 => by first | rfl | (repeat rw [sL_ne (by omega)])) (fun j h1 _ => a8 j (by omega)) hU⟩, ImsR_k (MG := MG) (fun i h1 => by first | rfl | (repeat rw [sI_ne (by omega)])) (fun i h1 => by first | rfl | (repeat rw [sG_ne (by omega)])) (fun i h1 => by first | rfl | (repeat rw [sL_ne (by omega)])) rfl (fun j hj => a8 j (by omega)) hM, a3⟩
    show StF f' 0 m d e fl ew t n
    exact EA.St (a8.DA hD.2.2 (by omega) hF.1) (hF.EA.out a8 (fun k hk => (hB k hk).1) (Or.inl (by omega))) a7
  · rw [c2, hT1]
    exact ⟨_, _, a1, a2, rfl, ⟨m, d, e, fl, ew, q, P, t, 0, ⟨hD, he, hB, hq, Nat.zero_le _⟩, ⟨c1, rfl, fun i hi => absurd hi (Nat.not_lt_zero i), c4, c5, c6, c7, c8, c9⟩, hF, rfl, fun i hi => absurd hi (Nat.not_lt_zero i), ⟨rfl, rfl, fun z => absurd z a3⟩, hX, hCut⟩, ⟨u, hu, hu1, hu2, UnR_k (f := MG 0) hu (fun i h1 h2 => by first | rfl | (repeat rw [sI_ne (by omega)])) (fun i h1 h2 => by first | rfl | (repeat rw [sL_ne (by omega)])) (fun _ _ _ => rfl) hU⟩, ImsR_k (MG := MG) (fun i h1 => by first | rfl | (repeat rw [sI_ne (by omega)])) (fun i h1 => by first | rfl | (repeat rw [sG_ne (by omega)])) (fun i h1 => by first | rfl | (repeat rw [sL_ne (by omega)])) rfl (fun _ _ => rfl) hM, h6⟩
theorem IX_total {m n : Nat} {d W F : Nat → Nat} (hX : IX m d n W F) : n = fb_sm (fun w => ln (d w)) m + m := by
  have h := hX.1
  unfold tot at h
  rw [fb_sm_add, fb_sm_const, Nat.mul_one, Nat.add_zero] at h
  exact h
theorem Lw_count {N : Nat} {V : Nat → Int32} {GI : Nat → Nat → Int32} {GL : Nat → Nat → Int64} {pres : Nat → Bool} {MV : Nat → Int32} {MG : Nat → Nat → Int32} (p1 : Int32) (hN : 1000 ≤ N) (hI : Inv V GI GL pres MV MG) : ∃ res resM, fX11_count N (V 0) (V 1) (V 2) (GL 0) (V 3) (GL 1) (V 4) (GI 1) (V 7) (V 13) (V 14) (GI 4) (GL 6) (V 16) (GL 7) (GI 7) p1 = some res ∧ fX12_count N (MV 0) (MV 3) (MV 4) (MV 5) (MV 6) (MV 7) (MG 0) (MG 3) (MG 4) (MG 5) (MG 6) (MG 7) (MG 8) (MG 9) (MG 10) p1 = some resM ∧ res.1 = resM.1 ∧ Inv V (sG GI 7 res.2) GL pres (sI (sI (sI (sI MV 4 resM.2.1) 5 resM.2.2.1) 6 resM.2.2.2.1) 7 resM.2.2.2.2.1) (sG (sG (sG (sG (sG (sG (sG (sG (sG MG 0 resM.2.2.2.2.2.1) 3 resM.2.2.2.2.2.2.1) 4 resM.2.2.2.2.2.2.2.1) 5 resM.2.2.2.2.2.2.2.2.1) 6 resM.2.2.2.2.2.2.2.2.2.1) 7 resM.2.2.2.2.2.2.2.2.2.2.1) 8 resM.2.2.2.2.2.2.2.2.2.2.2.1) 9 resM.2.2.2.2.2.2.2.2.2.2.2.2.1) 10 resM.2.2.2.2.2.2.2.2.2.2.2.2.2) := by
  have hI' := hI
  obtain ⟨⟨m, d, e, fl, ew, q, P, t, n, hS, ⟨c1, c2, c3, c4, c5, c6, c7, c8, c9⟩, hF, hT1, hT2, hFa, ⟨ni, W, F, hX, hV, hG⟩, hCut⟩, ⟨u, hu, hu1, hu2, hU⟩, hM, h6⟩ := hI
  obtain ⟨hD, he, hB, hq, hn⟩ := hS
  have h40 := hD.1
  have hni := IX_n hD hX
  have htot := IX_total hX
  have hP := hF.PA
  have keep : ∀ (al : Nat → Int32) (v4 v5 v6 v7 : Int32) (f' b3 b4 b5 b6 b7 b8 b9 b10 : Nat → Int32), (∀ j, j < 443 ∨ 1406 ≤ j → f' j = MG 0 j) → b6 0 = 0 → Inv V (sG GI 7 al) GL pres (sI (sI (sI (sI MV 4 v4) 5 v5) 6 v6) 7 v7) (sG (sG (sG (sG (sG (sG (sG (sG (sG MG 0 f') 3 b3) 4 b4) 5 b5) 6 b6) 7 b7) 8 b8) 9 b9) 10 b10) := fun al v4 v5 v6 v7 f' b3 b4 b5 b6 b7 b8 b9 b10 hf hb6 => by
    have hI2 : Inv V (sG GI 7 al) GL pres MV MG := ⟨⟨m, d, e, fl, ew, q, P, t, n, ⟨hD, he, hB, hq, hn⟩, ⟨c1, c2, c3, c4, c5, c6, c7, c8, c9⟩, hF, hT1, hT2, hFa, ⟨ni, W, F, hX, hV, hG⟩, hCut⟩, ⟨u, hu, hu1, hu2, hU⟩, ImsR_k (MG := MG) (fun i h1 => by first | rfl | (repeat rw [sI_ne (by omega)])) (fun i h1 => by first | rfl | (repeat rw [sG_ne (by omega)])) (fun i h1 => by first | rfl | (repeat rw [sL_ne (by omega)])) rfl (fun _ _ => rfl) hM, h6⟩
    exact Inv_f hI2 hf rfl rfl rfl rfl rfl rfl hb6
  have keep0 := fun al am => keep al (MV 4) (MV 5) (MV 6) (MV 7) (MG 0) (MG 3) (MG 4) (MG 5) (MG 6) (MG 7) (MG 8) (MG 9) am (fun _ _ => rfl) h6
  unfold fX11_count fX12_count fX11_countMore fX3_size fX7_size fX4_size fX10_size fX1_pieces fX1_runs
  by_cases hp : p1 < 0
  · have hz : p1.toInt < 0 := by rw [fa_lt] at hp; exact hp
    rw [if_pos (Or.inl hz), if_pos (Or.inl (by omega)), if_pos (Or.inl hz), Option.bind_some]
    exact ⟨_, _, rfl, rfl, rfl, keep0 _ _⟩
  · obtain ⟨v, hv, rfl⟩ := nI_of hp
    have hvi : (nI v).toInt = (v : Int) := nI_toInt hv
    by_cases h16 : 16 < v
    · rw [if_pos (Or.inr (by rw [hvi]; omega)), if_pos (Or.inr (by rw [hvi]; omega)), if_pos (Or.inr (by rw [hvi]; omega)), Option.bind_some]
      exact ⟨_, _, rfl, rfl, rfl, keep0 _ _⟩
    · have hM17 : ¬ ((nI v).toInt < 0 ∨ 16 < (nI v).toInt) := by rw [hvi]; omega
      have hans := e11_answersOf hN c5 hD h40 (by omega) hq c9
      obtain ⟨f1, s1, s2, s3, s4, s5⟩ := St_coming hN ⟨hD, he, hB, hq, hn⟩ hF
      have h41 := s5.1
      rw [if_neg hM17]
      by_cases h10 : v ≤ 10
      · have hC10 : ¬ ((nI v).toInt < 0 ∨ 10 < (nI v).toInt) := by rw [hvi]; omega
        rw [if_neg hC10]
        rcases (show v = 0 ∨ v = 1 ∨ v = 2 ∨ v = 3 ∨ v = 4 ∨ v = 5 ∨ v = 6 ∨ v = 7 ∨ v = 8 ∨ v = 9 ∨ v = 10 by omega) with rfl | rfl | rfl | rfl | rfl | rfl | rfl | rfl | rfl | rfl | rfl
        · rw [if_pos (show nI 0 = 0 from rfl), if_pos (show nI 0 = 0 from rfl), Option.bind_some, g0 (by decide), sb_cl0, c4, hF.1.1]
          exact ⟨_, _, rfl, rfl, rfl, keep0 _ _⟩
        · rw [if_neg (show ¬ nI 1 = 0 by decide), if_neg (show ¬ nI 1 = 0 by decide), if_pos (show nI 1 = 1 from rfl), if_pos (show nI 1 = 1 from rfl), Option.bind_some, Option.bind_some, e12_letters hN hD hF.1, Option.bind_some, g0 (by decide), sb_cl0, hF.1.1, hV, nI_add, ← htot]
          exact ⟨_, _, rfl, rfl, rfl, keep0 _ _⟩
        · rw [if_neg (show ¬ nI 2 = 0 by decide), if_neg (show ¬ nI 2 = 0 by decide), if_neg (show ¬ nI 2 = 1 by decide), if_neg (show ¬ nI 2 = 1 by decide), if_pos (show nI 2 = 2 from rfl), if_pos (show nI 2 = 2 from rfl), show (321 : Int32) = nI 321 from rfl, gi (by decide) (by decide), nI_clamp (by decide), hF.EA.1, c1]
          exact ⟨_, _, rfl, rfl, rfl, keep0 _ _⟩
        · rw [if_neg (show ¬ nI 3 = 0 by decide), if_neg (show ¬ nI 3 = 0 by decide), if_neg (show ¬ nI 3 = 1 by decide), if_neg (show ¬ nI 3 = 1 by decide), if_neg (show ¬ nI 3 = 2 by decide), if_neg (show ¬ nI 3 = 2 by decide), if_pos (show nI 3 = 3 from rfl), if_pos (show nI 3 = 3 from rfl), Option.bind_some, e12_from1 (by decide) s1, Option.bind_some]
          dsimp only
          rw [gi (by decide) (by decide), nI_clamp (by decide), s2.1, c6]
          exact ⟨_, _, rfl, rfl, rfl, keep _ _ _ _ _ _ _ _ _ _ _ _ _ _ (fun j hj => s3 j (by omega)) h6⟩
        · rw [if_neg (show ¬ nI 4 = 0 by decide), if_neg (show ¬ nI 4 = 0 by decide), if_neg (show ¬ nI 4 = 1 by decide), if_neg (show ¬ nI 4 = 1 by decide), if_neg (show ¬ nI 4 = 2 by decide), if_neg (show ¬ nI 4 = 2 by decide), if_neg (show ¬ nI 4 = 3 by decide), if_neg (show ¬ nI 4 = 3 by decide), if_pos (show nI 4 = 4 from rfl), if_pos (show nI 4 = 4 from rfl), c4, c8, hans, Option.bind_some, e_bitCount (bs_lt40 h40), Option.bind_some, bs_count h40, show fX12_answers N (MG 0) 0 430 = _ from e12_answers (b := 0) (p := 430) hN hD hF.1 (by omega) (by decide) hq hP, Option.bind_some]
          exact ⟨_, _, rfl, rfl, rfl, keep0 _ _⟩
        · rw [if_neg (show ¬ nI 5 = 0 by decide), if_neg (show ¬ nI 5 = 0 by decide), if_neg (show ¬ nI 5 = 1 by decide), if_neg (show ¬ nI 5 = 1 by decide), if_neg (show ¬ nI 5 = 2 by decide), if_neg (show ¬ nI 5 = 2 by decide), if_neg (show ¬ nI 5 = 3 by decide), if_neg (show ¬ nI 5 = 3 by decide), if_neg (show ¬ nI 5 = 4 by decide), if_neg (show ¬ nI 5 = 4 by decide), if_pos (show nI 5 = 5 from rfl), if_pos (show nI 5 = 5 from rfl), c6, c8, e11_answersOf hN c7 s5 h41 (by omega) hq c9, Option.bind_some, e_bitCount (bs_lt40 h41), Option.bind_some, bs_count h41, e12_from1 (by decide) s1, Option.bind_some]
          dsimp only
          rw [show fX12_answers N f1 (nI 443) 430 = _ from e12_answers (b := 443) (p := 430) hN s5 s2 (by omega) (by decide) hq s4, Option.bind_some]
          exact ⟨_, _, rfl, rfl, rfl, keep _ _ _ _ _ _ _ _ _ _ _ _ _ _ (fun j hj => s3 j (by omega)) h6⟩
        · obtain ⟨v2', ps', pf', x1, x2⟩ := op_pieces (v1 := MV 5) (v2 := MV 6) (ps := MG 5) hN hq hP h6
          rw [if_neg (show ¬ nI 6 = 0 by decide), if_neg (show ¬ nI 6 = 0 by decide), if_neg (show ¬ nI 6 = 1 by decide), if_neg (show ¬ nI 6 = 1 by decide), if_neg (show ¬ nI 6 = 2 by decide), if_neg (show ¬ nI 6 = 2 by decide), if_neg (show ¬ nI 6 = 3 by decide), if_neg (show ¬ nI 6 = 3 by decide), if_neg (show ¬ nI 6 = 4 by decide), if_neg (show ¬ nI 6 = 4 by decide), if_neg (show ¬ nI 6 = 5 by decide), if_neg (show ¬ nI 6 = 5 by decide), if_pos (show nI 6 = 6 from rfl), if_pos (show nI 6 = 6 from rfl), Option.bind_some, x1, Option.bind_some, hCut.2.1]
          exact ⟨_, _, rfl, rfl, rfl, keep _ _ _ _ _ _ _ _ _ _ _ _ _ _ (fun _ _ => rfl) x2⟩
        · obtain ⟨v2', ps', pf', rf', rl', rp', x1, x2, x3⟩ := op_runs (v1 := MV 5) (v2 := MV 6) (v3 := MV 7) (ps := MG 5) (rf := MG 7) (rl := MG 8) (rp := MG 9) hN hq hP h6
          rw [if_neg (show ¬ nI 7 = 0 by decide), if_neg (show ¬ nI 7 = 0 by decide), if_neg (show ¬ nI 7 = 1 by decide), if_neg (show ¬ nI 7 = 1 by decide), if_neg (show ¬ nI 7 = 2 by decide), if_neg (show ¬ nI 7 = 2 by decide), if_neg (show ¬ nI 7 = 3 by decide), if_neg (show ¬ nI 7 = 3 by decide), if_neg (show ¬ nI 7 = 4 by decide), if_neg (show ¬ nI 7 = 4 by decide), if_neg (show ¬ nI 7 = 5 by decide), if_neg (show ¬ nI 7 = 5 by decide), if_neg (show ¬ nI 7 = 6 by decide), if_neg (show ¬ nI 7 = 6 by decide), if_pos (show nI 7 = 7 from rfl), if_pos (show nI 7 = 7 from rfl), Option.bind_some, x1, Option.bind_some, hCut.1]
          exact ⟨_, _, rfl, rfl, rfl, keep _ _ _ _ _ _ _ _ _ _ _ _ _ _ (fun _ _ => rfl) x2⟩
        · obtain ⟨v2', ps', pf', rf', rl', rp', x1, x2, x3⟩ := op_runs (v1 := MV 5) (v2 := MV 6) (v3 := MV 7) (ps := MG 5) (rf := MG 7) (rl := MG 8) (rp := MG 9) hN hq hP h6
          obtain ⟨r, y1, y2⟩ := op_longest hN hq hCut x3
          rw [if_neg (show ¬ nI 8 = 0 by decide), if_neg (show ¬ nI 8 = 0 by decide), if_neg (show ¬ nI 8 = 1 by decide), if_neg (show ¬ nI 8 = 1 by decide), if_neg (show ¬ nI 8 = 2 by decide), if_neg (show ¬ nI 8 = 2 by decide), if_neg (show ¬ nI 8 = 3 by decide), if_neg (show ¬ nI 8 = 3 by decide), if_neg (show ¬ nI 8 = 4 by decide), if_neg (show ¬ nI 8 = 4 by decide), if_neg (show ¬ nI 8 = 5 by decide), if_neg (show ¬ nI 8 = 5 by decide), if_neg (show ¬ nI 8 = 6 by decide), if_neg (show ¬ nI 8 = 6 by decide), if_neg (show ¬ nI 8 = 7 by decide), if_neg (show ¬ nI 8 = 7 by decide), if_pos (show nI 8 = 8 from rfl), if_pos (show nI 8 = 8 from rfl), y1, Option.bind_some, x1, Option.bind_some]
          dsimp only
          rw [y2, Option.bind_some]
          exact ⟨_, _, rfl, rfl, rfl, keep _ _ _ _ _ _ _ _ _ _ _ _ _ _ (fun _ _ => rfl) x2⟩
        · obtain ⟨v2', tw', tf', ps', pf', rf', rl', rp', x1, x2, x3, x4⟩ := op_all (v0 := MV 4) (v1 := MV 5) (v2 := MV 6) (v3 := MV 7) (tw := MG 3) (tf := MG 4) (ps := MG 5) (rf := MG 7) (rl := MG 8) (rp := MG 9) hN hD hF.1 hX hq hP h6
          obtain ⟨r, y1, y2⟩ := op_narrowest hN hD hF.1 hX hG x3 hq hCut x4
          rw [if_neg (show ¬ nI 9 = 0 by decide), if_neg (show ¬ nI 9 = 0 by decide), if_neg (show ¬ nI 9 = 1 by decide), if_neg (show ¬ nI 9 = 1 by decide), if_neg (show ¬ nI 9 = 2 by decide), if_neg (show ¬ nI 9 = 2 by decide), if_neg (show ¬ nI 9 = 3 by decide), if_neg (show ¬ nI 9 = 3 by decide), if_neg (show ¬ nI 9 = 4 by decide), if_neg (show ¬ nI 9 = 4 by decide), if_neg (show ¬ nI 9 = 5 by decide), if_neg (show ¬ nI 9 = 5 by decide), if_neg (show ¬ nI 9 = 6 by decide), if_neg (show ¬ nI 9 = 6 by decide), if_neg (show ¬ nI 9 = 7 by decide), if_neg (show ¬ nI 9 = 7 by decide), if_neg (show ¬ nI 9 = 8 by decide), if_neg (show ¬ nI 9 = 8 by decide), if_pos (show nI 9 = 9 from rfl), if_pos (show nI 9 = 9 from rfl), hV, y1, Option.bind_some, x1, Option.bind_some]
          dsimp only
          rw [y2, Option.bind_some]
          exact ⟨_, _, rfl, rfl, rfl, keep _ _ _ _ _ _ _ _ _ _ _ _ _ _ (fun _ _ => rfl) x2⟩
        · obtain ⟨r, v0', v1', v2', v3', tw', tf', ps', pf', rf', rl', rp', y1, y2, y3⟩ := op_sharedMany (v0 := MV 4) (v1 := MV 5) (v2 := MV 6) (v3 := MV 7) (tw := MG 3) (tf := MG 4) (ps := MG 5) (rf := MG 7) (rl := MG 8) (rp := MG 9) hN hD hF.1 hX hG hq hP h6 hCut
          obtain ⟨r1, y4, y5⟩ := bd y1
          rw [if_neg (show ¬ nI 10 = 0 by decide), if_neg (show ¬ nI 10 = 0 by decide), if_neg (show ¬ nI 10 = 1 by decide), if_neg (show ¬ nI 10 = 1 by decide), if_neg (show ¬ nI 10 = 2 by decide), if_neg (show ¬ nI 10 = 2 by decide), if_neg (show ¬ nI 10 = 3 by decide), if_neg (show ¬ nI 10 = 3 by decide), if_neg (show ¬ nI 10 = 4 by decide), if_neg (show ¬ nI 10 = 4 by decide), if_neg (show ¬ nI 10 = 5 by decide), if_neg (show ¬ nI 10 = 5 by decide), if_neg (show ¬ nI 10 = 6 by decide), if_neg (show ¬ nI 10 = 6 by decide), if_neg (show ¬ nI 10 = 7 by decide), if_neg (show ¬ nI 10 = 7 by decide), if_neg (show ¬ nI 10 = 8 by decide), if_neg (show ¬ nI 10 = 8 by decide), if_neg (show ¬ nI 10 = 9 by decide), if_neg (show ¬ nI 10 = 9 by decide), if_pos (show nI 10 = 10 from rfl), if_pos (show nI 10 = 10 from rfl), hV, y4, Option.bind_some, y5, Option.bind_some, y2, Option.bind_some]
          exact ⟨_, _, rfl, rfl, rfl, keep _ _ _ _ _ _ _ _ _ _ _ _ _ _ (fun _ _ => rfl) y3⟩
      · have hC10 : (nI v).toInt < 0 ∨ 10 < (nI v).toInt := Or.inr (by rw [hvi]; omega)
        have hC11 : ¬ ((nI v).toInt < 11 ∨ 16 < (nI v).toInt) := by rw [hvi]; omega
        rw [if_pos hC10, if_neg hC11]
        have hne : ∀ k, k ≤ 10 → ¬ nI v = nI k := fun k hk z => by have := (nI_eq (by omega) (by omega)).mp z; omega
        rw [if_neg (show ¬ nI v = 0 from hne 0 (by omega)), if_neg (show ¬ nI v = 1 from hne 1 (by omega)), if_neg (show ¬ nI v = 2 from hne 2 (by omega)), if_neg (show ¬ nI v = 3 from hne 3 (by omega)), if_neg (show ¬ nI v = 4 from hne 4 (by omega)), if_neg (show ¬ nI v = 5 from hne 5 (by omega)), if_neg (show ¬ nI v = 6 from hne 6 (by omega)), if_neg (show ¬ nI v = 7 from hne 7 (by omega)), if_neg (show ¬ nI v = 8 from hne 8 (by omega)), if_neg (show ¬ nI v = 9 from hne 9 (by omega)), if_neg (show ¬ nI v = 10 from hne 10 (by omega))]
        rcases (show v = 11 ∨ v = 12 ∨ v = 13 ∨ v = 14 ∨ v = 15 ∨ v = 16 by omega) with rfl | rfl | rfl | rfl | rfl | rfl
        · obtain ⟨r, y1, y2⟩ := op_stem (gs := GI 1) hN hD c5 hF.1 hq hP
          rw [if_pos (show nI 11 = 11 from rfl), if_pos (show nI 11 = 11 from rfl), c4, c8, hans, Option.bind_some, y1, Option.bind_some, Option.bind_some, y2, Option.bind_some]
          exact ⟨_, _, rfl, rfl, rfl, keep0 _ _⟩
        · obtain ⟨r, ac, am, y1, y2⟩ := op_asks (ac := GI 7) (am := MG 10) hN hD c5 hF.1 hq hP
          rw [if_neg (show ¬ nI 12 = 11 by decide), if_neg (show ¬ nI 12 = 11 by decide), if_pos (show nI 12 = 12 from rfl), if_pos (show nI 12 = 12 from rfl), c4, c8, hans, Option.bind_some, y1, Option.bind_some, Option.bind_some, y2, Option.bind_some]
          exact ⟨_, _, rfl, rfl, rfl, keep0 _ _⟩
        · rw [if_neg (show ¬ nI 13 = 11 by decide), if_neg (show ¬ nI 13 = 11 by decide), if_neg (show ¬ nI 13 = 12 by decide), if_neg (show ¬ nI 13 = 12 by decide), if_pos (show nI 13 = 13 from rfl), if_pos (show nI 13 = 13 from rfl), Option.bind_some, Option.bind_some, hu1, hu2]
          exact ⟨_, _, rfl, rfl, rfl, keep0 _ _⟩
        · rw [if_neg (show ¬ nI 14 = 11 by decide), if_neg (show ¬ nI 14 = 11 by decide), if_neg (show ¬ nI 14 = 12 by decide), if_neg (show ¬ nI 14 = 12 by decide), if_neg (show ¬ nI 14 = 13 by decide), if_neg (show ¬ nI 14 = 13 by decide), if_pos (show nI 14 = 14 from rfl), if_pos (show nI 14 = 14 from rfl), Option.bind_some, Option.bind_some, c2, hT1]
          exact ⟨_, _, rfl, rfl, rfl, keep0 _ _⟩
        · rw [if_neg (show ¬ nI 15 = 11 by decide), if_neg (show ¬ nI 15 = 11 by decide), if_neg (show ¬ nI 15 = 12 by decide), if_neg (show ¬ nI 15 = 12 by decide), if_neg (show ¬ nI 15 = 13 by decide), if_neg (show ¬ nI 15 = 13 by decide), if_neg (show ¬ nI 15 = 14 by decide), if_neg (show ¬ nI 15 = 14 by decide), if_pos (show nI 15 = 15 from rfl), if_pos (show nI 15 = 15 from rfl), Option.bind_some, Option.bind_some, Option.bind_some, Option.bind_some, e12_letters hN hD hF.1, Option.bind_some, hV, c4, pk_sub (by omega), show ni - m = fb_sm (fun w => ln (d w)) m by omega]
          exact ⟨_, _, rfl, rfl, rfl, keep0 _ _⟩
        · obtain ⟨r, y1, y2⟩ := op_firstAlone hN hD c5 hF.1
          rw [if_neg (show ¬ nI 16 = 11 by decide), if_neg (show ¬ nI 16 = 11 by decide), if_neg (show ¬ nI 16 = 12 by decide), if_neg (show ¬ nI 16 = 12 by decide), if_neg (show ¬ nI 16 = 13 by decide), if_neg (show ¬ nI 16 = 13 by decide), if_neg (show ¬ nI 16 = 14 by decide), if_neg (show ¬ nI 16 = 14 by decide), if_neg (show ¬ nI 16 = 15 by decide), if_neg (show ¬ nI 16 = 15 by decide), if_pos (show nI 16 = 16 from rfl), if_pos (show nI 16 = 16 from rfl), c4, y1, Option.bind_some, Option.bind_some, y2, Option.bind_some]
          exact ⟨_, _, rfl, rfl, rfl, keep0 _ _⟩
