/-! ===== the calls, one by one ===== -/
theorem sI_ne {V : Nat → Int32} {i j : Nat} {x : Int32} (h : i ≠ j) : sI V j x i = V i := if_neg h
theorem sG_ne {V : Nat → Nat → Int32} {i j : Nat} {x : Nat → Int32} (h : i ≠ j) : sG V j x i = V i := if_neg h
theorem sL_ne {V : Nat → Nat → Int64} {i j : Nat} {x : Nat → Int64} (h : i ≠ j) : sL V j x i = V i := if_neg h
theorem UnR_k {V V' : Nat → Int32} {GL GL' : Nat → Nat → Int64} {f g : Nat → Int32} {u : Nat} (hu : u ≤ 4) (hV : ∀ i, 8 ≤ i → i < 12 → V' i = V i) (hL : ∀ i, 2 ≤ i → i < 6 → GL' i = GL i) (hf : ∀ j, 1406 ≤ j → j < 2690 → g j = f j) (h : UnR V GL f u) : UnR V' GL' g u := by
  obtain ⟨mm, dd, a⟩ := UnR_f hu hf h
  refine ⟨mm, dd, fun k hk => ?_⟩
  obtain ⟨b1, b2, b3, b4⟩ := a k hk
  exact ⟨b1, by rw [hV _ (by omega) (by omega)]; exact b2, by rw [hL _ (by omega) (by omega)]; exact b3, b4⟩
theorem ImR_k {V V' : Nat → Int32} {GI GI' : Nat → Nat → Int32} {GL GL' : Nat → Nat → Int64} {f : Nat → Int32} {k : Nat} (hk : k < 3) (hV : ∀ i, 20 + 7 * k ≤ i → i < 27 + 7 * k → V' i = V i) (hG : ∀ i, 8 + 2 * k ≤ i → i < 10 + 2 * k → GI' i = GI i) (hL : ∀ i, 10 + 2 * k ≤ i → i < 12 + 2 * k → GL' i = GL i) (h : ImR V GI GL f k) : ImR V' GI' GL' f k := by
  unfold ImR at h ⊢
  rw [hV _ (by omega) (by omega), hV _ (by omega) (by omega), hV _ (by omega) (by omega), hV _ (by omega) (by omega), hV _ (by omega) (by omega), hV _ (by omega) (by omega), hV _ (by omega) (by omega), hG _ (by omega) (by omega), hG _ (by omega) (by omega), hL _ (by omega) (by omega), hL _ (by omega) (by omega)]
  exact h
theorem ImsR_k {V V' : Nat → Int32} {GI GI' : Nat → Nat → Int32} {GL GL' : Nat → Nat → Int64} {pres : Nat → Bool} {MG MG' : Nat → Nat → Int32} (hV : ∀ i, 20 ≤ i → V' i = V i) (hG : ∀ i, 8 ≤ i → GI' i = GI i) (hL : ∀ i, 10 ≤ i → GL' i = GL i) (h2 : MG' 2 = MG 2) (hf : ∀ j, 2690 ≤ j → MG' 0 j = MG 0 j) (h : ImsR V GI GL pres MG) : ImsR V' GI' GL' pres MG' := fun k hk => ⟨fun hp => ⟨by rw [h2]; exact ((h k hk).1 hp).1, ImR_f hk hf (ImR_k hk (fun i h1 _ => hV i (by omega)) (fun i h1 _ => hG i (by omega)) (fun i h1 _ => hL i (by omega)) ((h k hk).1 hp).2)⟩, fun hp => by rw [h2]; exact (h k hk).2 hp⟩
theorem Lw_feed {N : Nat} {V : Nat → Int32} {GI : Nat → Nat → Int32} {GL : Nat → Nat → Int64} {pres : Nat → Bool} {MV : Nat → Int32} {MG : Nat → Nat → Int32} (p1 p2 p3 p4 p5 : Int32) (hN : 1000 ≤ N) (hI : Inv V GI GL pres MV MG) : ∃ res resM, fX11_feed N (V 1) (GI 0) p1 p2 p3 p4 p5 = some res ∧ fX12_feed N (MV 0) (MG 1) p1 p2 p3 p4 p5 = some resM ∧ res.1 = resM.1 ∧ Inv (sI V 1 res.2.1) (sG GI 0 res.2.2) GL pres (sI MV 0 resM.2.1) (sG MG 1 resM.2.2) := by
  have hI' := hI
  obtain ⟨⟨m, d, e, fl, ew, q, P, t, n, hS, ⟨c1, c2, c3, c4⟩, hF, hT1, hT2, hFa, hX, hCut⟩, ⟨u, hu, hu1, hu2, hU⟩, hM, h6⟩ := hI
  obtain ⟨r, n', g', h', t', a1, a2, a3, a4, a5⟩ := op_feed p1 p2 p3 p4 p5 hN hS.2.2.2.2 c3 hT2
  refine ⟨(r, nI n', g'), (r, nI n', h'), by rw [c2]; exact a1, by rw [hT1]; exact a2, rfl, ⟨m, d, e, fl, ew, q, P, t', n', ⟨hS.1, hS.2.1, hS.2.2.1, hS.2.2.2.1, a3⟩, ⟨c1, rfl, a4, c4⟩, hF, rfl, a5, hFa, hX, hCut⟩, ⟨u, hu, hu1, hu2, UnR_k (f := MG 0) hu (fun i h1 h2 => by first | rfl | (repeat rw [sI_ne (by omega)])) (fun i h1 h2 => by first | rfl | (repeat rw [sL_ne (by omega)])) (fun _ _ _ => rfl) hU⟩, ImsR_k (MG := MG) (fun i h1 => by first | rfl | (repeat rw [sI_ne (by omega)])) (fun i h1 => by first | rfl | (repeat rw [sG_ne (by omega)])) (fun i h1 => by first | rfl | (repeat rw [sL_ne (by omega)])) rfl (fun _ _ => rfl) hM, h6⟩
theorem Lw_end {N : Nat} {V : Nat → Int32} {GI : Nat → Nat → Int32} {GL : Nat → Nat → Int64} {pres : Nat → Bool} {MV : Nat → Int32} {MG : Nat → Nat → Int32} (p1 : Int32) (hN : 1000 ≤ N) (hI : Inv V GI GL pres MV MG) : ∃ res resM, fX11_end (V 1) p1 = some res ∧ fX12_end (MV 0) p1 = some resM ∧ res.1 = resM.1 ∧ Inv (sI V 1 res.2) GI GL pres (sI MV 0 resM.2) MG := by
  obtain ⟨⟨m, d, e, fl, ew, q, P, t, n, hS, ⟨c1, c2, c3, c4⟩, hF, hT1, hT2, hFa, hX, hCut⟩, ⟨u, hu, hu1, hu2, hU⟩, hM, h6⟩ := hI
  obtain ⟨r, n', a1, a2, a3⟩ := op_end p1 hS.2.2.2.2
  refine ⟨(r, nI n'), (r, nI n'), by rw [c2]; exact a1, by rw [hT1]; exact a2, rfl, ⟨m, d, e, fl, ew, q, P, t, n', ⟨hS.1, hS.2.1, hS.2.2.1, hS.2.2.2.1, Nat.le_trans a3 hS.2.2.2.2⟩, ⟨c1, rfl, fun i hi => c3 i (Nat.lt_of_lt_of_le hi a3), c4⟩, hF, rfl, fun i hi => hT2 i (Nat.lt_of_lt_of_le hi a3), hFa, hX, hCut⟩, ⟨u, hu, hu1, hu2, UnR_k (f := MG 0) hu (fun i h1 h2 => by first | rfl | (repeat rw [sI_ne (by omega)])) (fun i h1 h2 => by first | rfl | (repeat rw [sL_ne (by omega)])) (fun _ _ _ => rfl) hU⟩, ImsR_k (MG := MG) (fun i h1 => by first | rfl | (repeat rw [sI_ne (by omega)])) (fun i h1 => by first | rfl | (repeat rw [sG_ne (by omega)])) (fun i h1 => by first | rfl | (repeat rw [sL_ne (by omega)])) rfl (fun _ _ => rfl) hM, h6⟩
theorem Lw_fault {N : Nat} {V : Nat → Int32} {GI : Nat → Nat → Int32} {GL : Nat → Nat → Int64} {pres : Nat → Bool} {MV : Nat → Int32} {MG : Nat → Nat → Int32} (p1 : Int32) (hN : 1000 ≤ N) (hI : Inv V GI GL pres MV MG) : ∃ res resM, fX11_fault (V 5) (V 6) p1 = some res ∧ fX12_fault (MV 1) (MV 2) p1 = some resM ∧ res = resM ∧ Inv V GI GL pres MV MG := by
  have hI' := hI
  obtain ⟨⟨m, d, e, fl, ew, q, P, t, n, hS, hC, hF, hT1, hT2, hFa, hX, hCut⟩, hU, hM, h6⟩ := hI
  obtain ⟨r, a1, a2⟩ := op_fault (V 5) (V 6) p1
  exact ⟨r, r, a1, by rw [hFa.1, hFa.2.1]; exact a2, rfl, hI'⟩
theorem Lw_cancel {N : Nat} {V : Nat → Int32} {GI : Nat → Nat → Int32} {GL : Nat → Nat → Int64} {pres : Nat → Bool} {MV : Nat → Int32} {MG : Nat → Nat → Int32} (hN : 1000 ≤ N) (hI : Inv V GI GL pres MV MG) : ∃ res resM, fX11_cancel (V 0) (V 2) (GL 0) (V 3) (GL 1) = some res ∧ fX12_cancel (MG 0) = some resM ∧ res.1 = resM.1 ∧ Inv (sI (sI V 0 res.2.1) 3 res.2.2.1) GI (sL GL 1 res.2.2.2) pres MV (sG MG 0 resM.2) := by
  obtain ⟨⟨m, d, e, fl, ew, q, P, t, n, hS, ⟨c1, c2, c3, c4, c5, c6, c7, c8, c9⟩, hF, hT1, hT2, hFa, hX, hCut⟩, ⟨u, hu, hu1, hu2, hU⟩, hM, h6⟩ := hI
  have h40 := hS.1.1
  obtain ⟨g', a1, a2, a3⟩ := op_cancel (vc := V 3) (gc := GL 1) hS.1 c5 hF.EA.1
  have hO : Out (MG 0) (upd (MG 0) 321 0) 321 1 := Out.upd
  refine ⟨(nI e, 0, nI m, g'), (nI e, upd (MG 0) 321 0), by rw [c1, c4]; exact a1, a3, rfl, ⟨m, d, 0, fl, ew, q, P, t, n, ⟨hS.1, Nat.zero_le _, fun k hk => absurd hk (Nat.not_lt_zero k), hS.2.2.2.1, hS.2.2.2.2⟩, ⟨rfl, c2, c3, c4, c5, rfl, a2, c8, c9⟩, ?_, hT1, hT2, hFa, hX, hCut⟩, ⟨u, hu, hu1, hu2, UnR_k (f := MG 0) hu (fun i h1 h2 => by first | rfl | (repeat rw [sI_ne (by omega)])) (fun i h1 h2 => by first | rfl | (repeat rw [sL_ne (by omega)])) (fun j h1 _ => hO j (by omega)) hU⟩, ImsR_k (MG := MG) (fun i h1 => by first | rfl | (repeat rw [sI_ne (by omega)])) (fun i h1 => by first | rfl | (repeat rw [sG_ne (by omega)])) (fun i h1 => by first | rfl | (repeat rw [sL_ne (by omega)])) rfl (fun j hj => hO j (by omega)) hM, h6⟩
  · show StF (upd (MG 0) 321 0) 0 m d 0 fl ew q P
    refine EA.St (hO.DA hS.1.2.2 (by omega) hF.1) ⟨pk_us, fun k hk => absurd hk (Nat.not_lt_zero k)⟩ ?_
    have hP := hF.PA
    have h12 := hS.2.2.2.1.2.1
    exact ⟨by show upd (MG 0) 321 0 430 = _; rw [pk_un (by decide)]; exact hP.1, fun i hi => by show upd (MG 0) 321 0 _ = _; rw [pk_un (by omega)]; exact hP.2 i hi⟩
theorem Lw_edit {N : Nat} {V : Nat → Int32} {GI : Nat → Nat → Int32} {GL : Nat → Nat → Int64} {pres : Nat → Bool} {MV : Nat → Int32} {MG : Nat → Nat → Int32} (p1 : Int32) (hN : 1000 ≤ N) (hI : Inv V GI GL pres MV MG) (hp : p1 = 0 ∨ p1 = 1) : ∃ res resM, fX11_edit N (V 0) (V 1) (GI 0) (V 3) (GL 1) p1 = some res ∧ fX12_edit N (MV 0) (MG 0) (MG 1) p1 = some resM ∧ res.1 = resM.1 ∧ Inv (sI (sI (sI V 0 res.2.1) 1 res.2.2.1) 3 res.2.2.2.1) GI (sL GL 1 res.2.2.2.2) pres (sI MV 0 resM.2.1) (sG MG 0 resM.2.2) := by
  obtain ⟨⟨m, d, e, fl, ew, q, P, t, n, hS, ⟨c1, c2, c3, c4, c5, c6, c7, c8, c9⟩, hF, hT1, hT2, hFa, hX, hCut⟩, ⟨u, hu, hu1, hu2, hU⟩, hM, h6⟩ := hI
  obtain ⟨hD, he, hB, hq, hn⟩ := hS
  obtain ⟨r, e', fl', ew', gc', f', a1, a2, a3, a4, a5, a6, a7, a8⟩ := op_edit (p1 := p1) hN hn c3 hT2 hD hF.1 he hB hF.EA c7 hp
  have hP := hF.PA
  have h12 := hq.2.1
  refine ⟨(r, nI e', 0, nI (cm m d fl' ew' e').1, gc'), (r, 0, f'), by rw [c1, c2, c6]; exact a1, by rw [hT1]; exact a2, rfl, ⟨m, d, e', fl', ew', q, P, t, 0, ⟨hD, a3, a4, hq, Nat.zero_le _⟩, ⟨rfl, rfl, fun i hi => absurd hi (Nat.not_lt_zero i), c4, c5, rfl, a6, c8, c9⟩, EA.St a7 a5 ⟨by show f' 430 = _; rw [a8 430 (by omega)]; exact hP.1, fun i hi => by show f' _ = _; rw [a8 _ (by omega)]; exact hP.2 i hi⟩, rfl, fun i hi => absurd hi (Nat.not_lt_zero i), hFa, hX, hCut⟩, ⟨u, hu, hu1, hu2, UnR_k (f := MG 0) hu (fun i h1 h2 => by first | rfl | (repeat rw [sI_ne (by omega)])) (fun i h1 h2 => by first | rfl | (repeat rw [sL_ne (by omega)])) (fun j h1 _ => a8 j (by omega)) hU⟩, ImsR_k (MG := MG) (fun i h1 => by first | rfl | (repeat rw [sI_ne (by omega)])) (fun i h1 => by first | rfl | (repeat rw [sG_ne (by omega)])) (fun i h1 => by first | rfl | (repeat rw [sL_ne (by omega)])) rfl (fun j hj => a8 j (by omega)) hM, h6⟩
theorem Lw_turn {N : Nat} {V : Nat → Int32} {GI : Nat → Nat → Int32} {GL : Nat → Nat → Int64} {pres : Nat → Bool} {MV : Nat → Int32} {MG : Nat → Nat → Int32} (p1 p2 : Int32) (hN : 1000 ≤ N) (hI : Inv V GI GL pres MV MG) : ∃ res resM, fX11_turn (V 16) (GL 7) p1 p2 = some res ∧ fX12_turn N (MV 4) (MG 0) (MG 3) (MG 4) p1 p2 = some resM ∧ res = resM.1 ∧ Inv V GI GL pres (sI MV 4 resM.2.1) (sG (sG MG 3 resM.2.2.1) 4 resM.2.2.2) := by
  have hI' := hI
  obtain ⟨⟨m, d, e, fl, ew, q, P, t, n, hS, hC, hF, hT1, hT2, hFa, ⟨ni, W, F, hX, hV, hG⟩, hCut⟩, hU, hM, h6⟩ := hI
  obtain ⟨r, tw', tf', a1, a2⟩ := op_turn (v := MV 4) (tw := MG 3) (tf := MG 4) p1 p2 hN hS.1 hF.1 hX hG
  exact ⟨r, _, by rw [hV]; exact a1, a2, rfl, Inv_f hI' (fun _ _ => rfl) rfl rfl rfl rfl rfl rfl h6⟩
theorem Lw_run {N : Nat} {V : Nat → Int32} {GI : Nat → Nat → Int32} {GL : Nat → Nat → Int64} {pres : Nat → Bool} {MV : Nat → Int32} {MG : Nat → Nat → Int32} (p1 p2 : Int32) (hN : 1000 ≤ N) (hI : Inv V GI GL pres MV MG) : ∃ res resM, fX11_run N (V 13) (GI 2) (GI 3) (GI 4) (GI 5) (GL 6) (V 16) (GL 7) p1 p2 = some res ∧ fX12_run N (MV 4) (MV 5) (MV 6) (MV 7) (MG 0) (MG 3) (MG 4) (MG 5) (MG 6) (MG 7) (MG 8) (MG 9) p1 p2 = some resM ∧ res = resM.1 ∧ Inv V GI GL pres (sI (sI (sI (sI MV 4 resM.2.1) 5 resM.2.2.1) 6 resM.2.2.2.1) 7 resM.2.2.2.2.1) (sG (sG (sG (sG (sG (sG (sG MG 3 resM.2.2.2.2.2.1) 4 resM.2.2.2.2.2.2.1) 5 resM.2.2.2.2.2.2.2.1) 6 resM.2.2.2.2.2.2.2.2.1) 7 resM.2.2.2.2.2.2.2.2.2.1) 8 resM.2.2.2.2.2.2.2.2.2.2.1) 9 resM.2.2.2.2.2.2.2.2.2.2.2) := by
  have hI' := hI
  obtain ⟨⟨m, d, e, fl, ew, q, P, t, n, hS, hC, hF, hT1, hT2, hFa, ⟨ni, W, F, hX, hV, hG⟩, hCut⟩, hU, hM, h6⟩ := hI
  obtain ⟨r, v0', v1', v2', v3', tw', tf', ps', pf', rf', rl', rp', a1, a2, a3⟩ := op_run (v0 := MV 4) (v1 := MV 5) (v2 := MV 6) (v3 := MV 7) (tw := MG 3) (tf := MG 4) (ps := MG 5) (rf := MG 7) (rl := MG 8) (rp := MG 9) p1 p2 hN hS.1 hF.1 hX hG hS.2.2.2.1 hF.PA h6 hCut
  exact ⟨r, _, by rw [hV]; exact a1, a2, rfl, Inv_f hI' (fun _ _ => rfl) rfl rfl rfl rfl rfl rfl a3⟩
theorem Lw_of {N : Nat} {V : Nat → Int32} {GI : Nat → Nat → Int32} {GL : Nat → Nat → Int64} {pres : Nat → Bool} {MV : Nat → Int32} {MG : Nat → Nat → Int32} (p1 p2 : Int32) (hN : 1000 ≤ N) (hI : Inv V GI GL pres MV MG) : ∃ res resM, fX11_of N (V 13) (GI 4) (GL 6) (V 16) (GL 7) p1 p2 = some res ∧ fX12_of N (MV 4) (MV 5) (MV 6) (MV 7) (MG 0) (MG 3) (MG 4) (MG 5) (MG 6) (MG 7) (MG 8) (MG 9) p1 p2 = some resM ∧ res = resM.1 ∧ Inv V GI GL pres (sI (sI (sI (sI MV 4 resM.2.1) 5 resM.2.2.1) 6 resM.2.2.2.1) 7 resM.2.2.2.2.1) (sG (sG (sG (sG (sG (sG (sG MG 3 resM.2.2.2.2.2.1) 4 resM.2.2.2.2.2.2.1) 5 resM.2.2.2.2.2.2.2.1) 6 resM.2.2.2.2.2.2.2.2.1) 7 resM.2.2.2.2.2.2.2.2.2.1) 8 resM.2.2.2.2.2.2.2.2.2.2.1) 9 resM.2.2.2.2.2.2.2.2.2.2.2) := by
  have hI' := hI
  obtain ⟨⟨m, d, e, fl, ew, q, P, t, n, hS, hC, hF, hT1, hT2, hFa, ⟨ni, W, F, hX, hV, hG⟩, hCut⟩, hU, hM, h6⟩ := hI
  obtain ⟨r, v0', v1', v2', v3', tw', tf', ps', pf', rf', rl', rp', a1, a2, a3⟩ := op_of (v0 := MV 4) (v1 := MV 5) (v2 := MV 6) (v3 := MV 7) (tw := MG 3) (tf := MG 4) (ps := MG 5) (rf := MG 7) (rl := MG 8) (rp := MG 9) p1 p2 hN hS.1 hF.1 hX hG hS.2.2.2.1 hF.PA h6 hCut
  exact ⟨r, _, by rw [hV]; exact a1, a2, rfl, Inv_f hI' (fun _ _ => rfl) rfl rfl rfl rfl rfl rfl a3⟩
theorem Lw_shared {N : Nat} {V : Nat → Int32} {GI : Nat → Nat → Int32} {GL : Nat → Nat → Int64} {pres : Nat → Bool} {MV : Nat → Int32} {MG : Nat → Nat → Int32} (p1 : Int32) (hN : 1000 ≤ N) (hI : Inv V GI GL pres MV MG) : ∃ res resM, fX11_shared N (V 13) (GI 4) (GL 6) (V 16) (GL 7) p1 = some res ∧ fX12_shared N (MV 4) (MV 5) (MV 6) (MV 7) (MG 0) (MG 3) (MG 4) (MG 5) (MG 6) (MG 7) (MG 8) (MG 9) p1 = some resM ∧ res = resM.1 ∧ Inv V GI GL pres (sI (sI (sI (sI MV 4 resM.2.1) 5 resM.2.2.1) 6 resM.2.2.2.1) 7 resM.2.2.2.2.1) (sG (sG (sG (sG (sG (sG (sG MG 3 resM.2.2.2.2.2.1) 4 resM.2.2.2.2.2.2.1) 5 resM.2.2.2.2.2.2.2.1) 6 resM.2.2.2.2.2.2.2.2.1) 7 resM.2.2.2.2.2.2.2.2.2.1) 8 resM.2.2.2.2.2.2.2.2.2.2.1) 9 resM.2.2.2.2.2.2.2.2.2.2.2) := by
  have hI' := hI
  obtain ⟨⟨m, d, e, fl, ew, q, P, t, n, hS, hC, hF, hT1, hT2, hFa, ⟨ni, W, F, hX, hV, hG⟩, hCut⟩, hU, hM, h6⟩ := hI
  obtain ⟨r, v0', v1', v2', v3', tw', tf', ps', pf', rf', rl', rp', a1, a2, a3⟩ := op_shared (v0 := MV 4) (v1 := MV 5) (v2 := MV 6) (v3 := MV 7) (tw := MG 3) (tf := MG 4) (ps := MG 5) (rf := MG 7) (rl := MG 8) (rp := MG 9) p1 hN hS.1 hF.1 hX hG hS.2.2.2.1 hF.PA h6 hCut
  exact ⟨r, _, by rw [hV]; exact a1, a2, rfl, Inv_f hI' (fun _ _ => rfl) rfl rfl rfl rfl rfl rfl a3⟩
theorem Lw_alone {N : Nat} {V : Nat → Int32} {GI : Nat → Nat → Int32} {GL : Nat → Nat → Int64} {pres : Nat → Bool} {MV : Nat → Int32} {MG : Nat → Nat → Int32} (p1 p2 : Int32) (hN : 1000 ≤ N) (hI : Inv V GI GL pres MV MG) : ∃ res resM, fX11_alone N (V 2) (GL 0) (V 16) (GL 7) p1 p2 = some res ∧ fX12_alone N (MV 4) (MG 0) (MG 3) (MG 4) p1 p2 = some resM ∧ res = resM.1 ∧ Inv V GI GL pres (sI MV 4 resM.2.1) (sG (sG MG 3 resM.2.2.1) 4 resM.2.2.2) := by
  have hI' := hI
  obtain ⟨⟨m, d, e, fl, ew, q, P, t, n, hS, ⟨c1, c2, c3, c4, c5, c6, c7, c8, c9⟩, hF, hT1, hT2, hFa, ⟨ni, W, F, hX, hV, hG⟩, hCut⟩, hU, hM, h6⟩ := hI
  obtain ⟨r, v', tw', tf', a1, a2⟩ := op_alone (v := MV 4) (tw := MG 3) (tf := MG 4) p1 p2 hN hS.1 c5 hF.1 hX hG
  exact ⟨r, _, by rw [hV, c4]; exact a1, a2, rfl, Inv_f hI' (fun _ _ => rfl) rfl rfl rfl rfl rfl rfl h6⟩
theorem Lw_near {N : Nat} {V : Nat → Int32} {GI : Nat → Nat → Int32} {GL : Nat → Nat → Int64} {pres : Nat → Bool} {MV : Nat → Int32} {MG : Nat → Nat → Int32} (p1 p2 : Int32) (hN : 1000 ≤ N) (hI : Inv V GI GL pres MV MG) : ∃ res resM, fX11_near N (V 2) (GL 0) p1 p2 = some res ∧ fX12_near N (MG 0) p1 p2 = some resM ∧ res = resM ∧ Inv V GI GL pres MV MG := by
  have hI' := hI
  obtain ⟨⟨m, d, e, fl, ew, q, P, t, n, hS, ⟨c1, c2, c3, c4, c5, c6, c7, c8, c9⟩, hF, hT1, hT2, hFa, hX, hCut⟩, hU, hM, h6⟩ := hI
  obtain ⟨r, a1, a2⟩ := op_near p1 p2 hN hS.1 c5 hF.1
  exact ⟨r, r, by rw [c4]; exact a1, a2, rfl, hI'⟩
theorem Lw_tally {N : Nat} {V : Nat → Int32} {GI : Nat → Nat → Int32} {GL : Nat → Nat → Int64} {pres : Nat → Bool} {MV : Nat → Int32} {MG : Nat → Nat → Int32} (p1 p2 : Int32) (hN : 1000 ≤ N) (hI : Inv V GI GL pres MV MG) : ∃ res resM, fX11_tally N (V 2) (GL 0) p1 p2 = some res ∧ fX12_tally N (MG 0) p1 p2 = some resM ∧ res = resM ∧ Inv V GI GL pres MV MG := by
  have hI' := hI
  obtain ⟨⟨m, d, e, fl, ew, q, P, t, n, hS, ⟨c1, c2, c3, c4, c5, c6, c7, c8, c9⟩, hF, hT1, hT2, hFa, hX, hCut⟩, hU, hM, h6⟩ := hI
  obtain ⟨r, a1, a2⟩ := op_tally p1 p2 hN hS.1 c5 hF.1
  exact ⟨r, r, by rw [c4]; exact a1, a2, rfl, hI'⟩
theorem Lw_places {N : Nat} {V : Nat → Int32} {GI : Nat → Nat → Int32} {GL : Nat → Nat → Int64} {pres : Nat → Bool} {MV : Nat → Int32} {MG : Nat → Nat → Int32} (p1 p2 : Int32) (hN : 1000 ≤ N) (hI : Inv V GI GL pres MV MG) : ∃ res resM, fX11_places N (V 2) (GL 0) p1 p2 = some res ∧ fX12_places N (MG 0) p1 p2 = some resM ∧ res = resM ∧ Inv V GI GL pres MV MG := by
  have hI' := hI
  obtain ⟨⟨m, d, e, fl, ew, q, P, t, n, hS, ⟨c1, c2, c3, c4, c5, c6, c7, c8, c9⟩, hF, hT1, hT2, hFa, hX, hCut⟩, hU, hM, h6⟩ := hI
  obtain ⟨r, a1, a2⟩ := op_places p1 p2 hN hS.1 c5 hF.1
  exact ⟨r, r, by rw [c4]; exact a1, a2, rfl, hI'⟩
theorem Lw_instead {N : Nat} {V : Nat → Int32} {GI : Nat → Nat → Int32} {GL : Nat → Nat → Int64} {pres : Nat → Bool} {MV : Nat → Int32} {MG : Nat → Nat → Int32} (p1 p2 : Int32) (hN : 1000 ≤ N) (hI : Inv V GI GL pres MV MG) : ∃ res resM, fX11_instead N (V 2) (GL 0) (V 4) (GI 1) (V 19) (GI 6) p1 p2 = some res ∧ fX12_instead N (MG 0) p1 p2 = some resM ∧ res.1 = resM.1 ∧ Inv (sI V 19 res.2.1) (sG GI 6 res.2.2) GL pres MV (sG MG 0 resM.2) := by
  obtain ⟨⟨m, d, e, fl, ew, q, P, t, n, hS, ⟨c1, c2, c3, c4, c5, c6, c7, c8, c9⟩, hF, hT1, hT2, hFa, hX, hCut⟩, ⟨u, hu, hu1, hu2, hU⟩, hM, h6⟩ := hI
  obtain ⟨r, vt', gt', a1, a2⟩ := op_instead (vt := V 19) (gt := GI 6) p1 p2 hN hS.1 c5 hF.1 hS.2.2.2.1 c9 hF.PA
  exact ⟨_, _, by rw [c4, c8]; exact a1, a2, rfl, ⟨m, d, e, fl, ew, q, P, t, n, hS, ⟨c1, c2, c3, c4, c5, c6, c7, c8, c9⟩, hF, hT1, hT2, hFa, hX, hCut⟩, ⟨u, hu, hu1, hu2, UnR_k (f := MG 0) hu (fun i h1 h2 => by first | rfl | (repeat rw [sI_ne (by omega)])) (fun i h1 h2 => by first | rfl | (repeat rw [sL_ne (by omega)])) (fun _ _ _ => rfl) hU⟩, ImsR_k (MG := MG) (fun i h1 => by first | rfl | (repeat rw [sI_ne (by omega)])) (fun i h1 => by first | rfl | (repeat rw [sG_ne (by omega)])) (fun i h1 => by first | rfl | (repeat rw [sL_ne (by omega)])) rfl (fun _ _ => rfl) hM, h6⟩
theorem Lw_word_0 {N : Nat} {V : Nat → Int32} {GI : Nat → Nat → Int32} {GL : Nat → Nat → Int64} {pres : Nat → Bool} {MV : Nat → Int32} {MG : Nat → Nat → Int32} (p1 p3 : Int32) (hN : 1000 ≤ N) (hI : Inv V GI GL pres MV MG) : ∃ res resM, fX11_word_0 N (V 2) (GL 0) (V 4) (GI 1) p1 p3 = some res ∧ fX12_word N (MG 0) p1 0 p3 = some resM ∧ res = resM.1 ∧ Inv V GI GL pres MV (sG MG 0 resM.2) := by
  have hI' := hI
  obtain ⟨⟨m, d, e, fl, ew, q, P, t, n, hS, ⟨c1, c2, c3, c4, c5, c6, c7, c8, c9⟩, hF, hT1, hT2, hFa, hX, hCut⟩, hU, hM, h6⟩ := hI
  have h40 := hS.1.1
  obtain ⟨r, a1, a2⟩ := op_word p1 0 p3 hN e12_from0 hS.1 c5 hF.1 (by omega) hS.2.2.2.1 c9 hF.PA
  exact ⟨r, _, by rw [c4, c8]; exact a1, a2, rfl, Inv_f hI' (fun _ _ => rfl) rfl rfl rfl rfl rfl rfl h6⟩
theorem Lw_answer_0 {N : Nat} {V : Nat → Int32} {GI : Nat → Nat → Int32} {GL : Nat → Nat → Int64} {pres : Nat → Bool} {MV : Nat → Int32} {MG : Nat → Nat → Int32} (p1 : Int32) (hN : 1000 ≤ N) (hI : Inv V GI GL pres MV MG) : ∃ res resM, fX11_answer_0 N (V 2) (GL 0) (V 4) (GI 1) p1 = some res ∧ fX12_answer N (MG 0) p1 0 = some resM ∧ res = resM.1 ∧ Inv V GI GL pres MV (sG MG 0 resM.2) := by
  have hI' := hI
  obtain ⟨⟨m, d, e, fl, ew, q, P, t, n, hS, ⟨c1, c2, c3, c4, c5, c6, c7, c8, c9⟩, hF, hT1, hT2, hFa, hX, hCut⟩, hU, hM, h6⟩ := hI
  have h40 := hS.1.1
  obtain ⟨r, a1, a2⟩ := op_answer p1 0 hN e12_from0 hS.1 c5 hF.1 (by omega) hS.2.2.2.1 c9 hF.PA
  exact ⟨r, _, by rw [c4, c8]; exact a1, a2, rfl, Inv_f hI' (fun _ _ => rfl) rfl rfl rfl rfl rfl rfl h6⟩
/-- what the batch would make, laid down -/
theorem St_coming {N m e P n : Nat} {f : Nat → Int32} {d fl ew q : Nat → Nat} (hN : 1000 ≤ N) (hS : StN m d e fl ew q P n) (hF : StF f 0 m d e fl ew q P) : ∃ f', fX12_laysComing N f = some f' ∧ DA f' 443 (cm m d fl ew e).2 (cm m d fl ew e).1 ∧ Out f f' 443 321 ∧ PA f' 430 q P ∧ Dic (cm m d fl ew e).1 (cm m d fl ew e).2 := by
  obtain ⟨hD, he, hB, hq, hn⟩ := hS
  obtain ⟨f', a1, a2, a3⟩ := e12_laysComing hN hD hB he hF.1 hF.EA
  have hP := hF.PA
  have h12 := hq.2.1
  exact ⟨f', a1, a2, a3, ⟨by rw [a3 430 (by omega)]; exact hP.1, fun i hi => by rw [a3 _ (by omega)]; exact hP.2 i hi⟩, cm_ok hD hB e (Nat.le_refl _)⟩
theorem Lw_word_1 {N : Nat} {V : Nat → Int32} {GI : Nat → Nat → Int32} {GL : Nat → Nat → Int64} {pres : Nat → Bool} {MV : Nat → Int32} {MG : Nat → Nat → Int32} (p1 p3 : Int32) (hN : 1000 ≤ N) (hI : Inv V GI GL pres MV MG) : ∃ res resM, fX11_word_1 N (V 3) (GL 1) (V 4) (GI 1) p1 p3 = some res ∧ fX12_word N (MG 0) p1 1 p3 = some resM ∧ res = resM.1 ∧ Inv V GI GL pres MV (sG MG 0 resM.2) := by
  have hI' := hI
  obtain ⟨⟨m, d, e, fl, ew, q, P, t, n, hS, ⟨c1, c2, c3, c4, c5, c6, c7, c8, c9⟩, hF, hT1, hT2, hFa, hX, hCut⟩, hU, hM, h6⟩ := hI
  obtain ⟨f', b1, b2, b3, b4, b5⟩ := St_coming hN hS hF
  have h40 := b5.1
  obtain ⟨r, a1, a2⟩ := op_word p1 1 p3 hN (e12_from1 (by decide) b1) b5 c7 b2 (by omega) hS.2.2.2.1 c9 b4
  exact ⟨r, _, by rw [c6, c8, word_1]; exact a1, a2, rfl, Inv_f hI' (fun j hj => b3 j (by omega)) rfl rfl rfl rfl rfl rfl h6⟩
theorem Lw_answer_1 {N : Nat} {V : Nat → Int32} {GI : Nat → Nat → Int32} {GL : Nat → Nat → Int64} {pres : Nat → Bool} {MV : Nat → Int32} {MG : Nat → Nat → Int32} (p1 : Int32) (hN : 1000 ≤ N) (hI : Inv V GI GL pres MV MG) : ∃ res resM, fX11_answer_1 N (V 3) (GL 1) (V 4) (GI 1) p1 = some res ∧ fX12_answer N (MG 0) p1 1 = some resM ∧ res = resM.1 ∧ Inv V GI GL pres MV (sG MG 0 resM.2) := by
  have hI' := hI
  obtain ⟨⟨m, d, e, fl, ew, q, P, t, n, hS, ⟨c1, c2, c3, c4, c5, c6, c7, c8, c9⟩, hF, hT1, hT2, hFa, hX, hCut⟩, hU, hM, h6⟩ := hI
  obtain ⟨f', b1, b2, b3, b4, b5⟩ := St_coming hN hS hF
  have h40 := b5.1
  obtain ⟨r, a1, a2⟩ := op_answer p1 1 hN (e12_from1 (by decide) b1) b5 c7 b2 (by omega) hS.2.2.2.1 c9 b4
  exact ⟨r, _, by rw [c6, c8, answer_1]; exact a1, a2, rfl, Inv_f hI' (fun j hj => b3 j (by omega)) rfl rfl rfl rfl rfl rfl h6⟩
