/-! ===== merge and undo ===== -/
theorem DA_same {f g : Nat → Int32} {b c m : Nat} {d : Nat → Nat} (hD : Dic m d) (h : ∀ j, j < 321 → g (c + j) = f (b + j)) (hA : DA f b d m) : DA g c d m := by
  have h40 := hD.1
  refine ⟨by have := h 0 (by omega); rw [Nat.add_zero, Nat.add_zero] at this; rw [this]; exact hA.1, fun w hw => WA_cong (hD.2.2 w hw).2.2.1 (fun i hi => ?_) (hA.2 w hw)⟩
  rw [show c + 1 + 8 * w + i = c + (1 + 8 * w + i) by omega, h _ (by omega)]; congr 1; omega
theorem e11_setDictionary_c {N m : Nat} {v1 v2 v4 v5 : Int32} {g2 g3 g4 g5 : Nat → Int64} {d : Nat → Nat} {a1 a2 a3 a4 a5 a6 : Nat} (hN : 1000 ≤ N) (hD : Dic m d) (hR : Ris g3 d m) : ∃ gd gc n W F G, fX11_setDictionary_c N v1 v2 g2 (nI m) g3 v4 g4 v5 g5 a1 a2 a3 a4 a5 a6 = some (0, nI m, gd, nI m, gc, nI n, G, v4, g4) ∧ Ris gd d m ∧ Ris gc d m ∧ IX m d n W F ∧ Ris G (fun t => ky d (W t) (F t)) n := by
  have h40 := hD.1
  unfold fX11_setDictionary_c fX9_emptyBatch fX11_layIndex
  obtain ⟨gd, b1, b2⟩ := e7_copy (n0 := 40) (n1 := 40) (v0 := v2) (g0 := g2) hR (by omega) (by omega) (by omega)
  obtain ⟨gc, c1, c2⟩ := e7_copy (n0 := 40) (n1 := 40) (v0 := nI m) (g0 := g3) b2 (by omega) (by omega) (by omega)
  obtain ⟨n, G, W, F, e1, e2, e3⟩ := e3_lay (n1 := 40) (v0 := v5) (g0 := g5) hN hD b2 h40 (by omega)
  rw [b1, Option.bind_some]
  dsimp only
  rw [c1, Option.bind_some, Option.bind_some, e1, Option.bind_some, Option.bind_some]
  exact ⟨gd, gc, n, W, F, G, rfl, b2, c2, e2, e3⟩
theorem e12_merge_53 {N u m mc : Nat} {x v : Int32} {f tw tf st : Nat → Int32} {d dc : Nat → Nat} (hN : 1000 ≤ N) (hu : u < 4) (hD : Dic m d) (hA : DA f 0 d m) (hDc : Dic mc dc) (hAc : DA f 443 dc mc) : ∃ f', fX12_merge_53 N x (nI u) v f tw tf st = some (x, nI (u + 1), v, f', tw, tf, st) ∧ DA f' 0 dc mc ∧ f' 321 = 0 ∧ DA f' (1406 + 321 * u) d m ∧ ∀ j, 322 ≤ j → (j < 1406 + 321 * u ∨ 1406 + 321 * u + 321 ≤ j) → f' j = f j := by
  unfold fX12_merge_53
  have e1 : (1406 : Int32) + 321 * nI u = nI (1406 + 321 * u) := by
    rw [show (321 : Int32) * nI u = nI (321 * u) from pk_mul 321 u]; exact nI_add 1406 _
  have h40 := hD.1
  have h41 := hDc.1
  rw [e1, show fX12_copies N f 0 (nI (1406 + 321 * u)) 321 = _ from e12_copies (s := 0) (t := 1406 + 321 * u) (c := 321) hN (by decide) (by decide) (by omega) (Or.inr (by omega)), Option.bind_some]
  have hO1 : Out f (va_cpy f f 0 (1406 + 321 * u) 321) (1406 + 321 * u) 321 := Out.cpy
  have hU : DA (va_cpy f f 0 (1406 + 321 * u) 321) (1406 + 321 * u) d m := DA_cpy hD.2.2 (by omega) hA
  generalize va_cpy f f 0 (1406 + 321 * u) 321 = f1 at hO1 hU
  rw [show fX12_copies N f1 443 0 321 = _ from e12_copies (s := 443) (t := 0) (c := 321) hN (by decide) (by decide) (by decide) (Or.inl (by omega)), Option.bind_some, show (321 : Int32) = nI 321 from rfl, gi (by decide) (by decide), nI_clamp (by decide), nI_1]
  have hO2 : Out f1 (va_cpy f1 f1 443 0 321) 0 321 := Out.cpy
  have hZ : DA (va_cpy f1 f1 443 0 321) 0 dc mc := DA_cpy hDc.2.2 (by omega) (hO1.DA hDc.2.2 (Or.inl (by omega)) hAc)
  generalize va_cpy f1 f1 443 0 321 = f2 at hO2 hZ
  have hO3 : Out f2 (upd f2 321 0) 321 1 := Out.upd
  refine ⟨upd f2 321 0, rfl, hO3.DA hDc.2.2 (Or.inl (by omega)) hZ, pk_us, hO3.DA hD.2.2 (Or.inr (by omega)) (hO2.DA hD.2.2 (Or.inr (by omega)) hU), fun j h1 h2 => ?_⟩
  rw [hO3 j (by omega), hO2 j (by omega), hO1 j h2]
theorem e12_merge_lt {N u m mc n nc e : Nat} {v : Int32} {f tw tf st : Nat → Int32} {d dc W F Wc Fc fl ew : Nat → Nat} (hN : 1000 ≤ N) (hu : u < 4) (hD : Dic m d) (hA : DA f 0 d m) (hX : IX m d n W F) (he : e ≤ 12) (h0 : e ≠ 0) (hB : Bat m d fl ew e) (hE : EA f fl ew e) (hc : (cm m d fl ew e).1 = mc ∧ (cm m d fl ew e).2 = dc) (hXc : IX mc dc nc Wc Fc) : ∃ v' f' tw' tf' st', fX12_merge N (nI u) v f tw tf st = some (nI (fb_ct (fun j => decide (∃ i, i < n ∧ mvR (trT d W F) (trT dc Wc Fc) i j = true)) nc), nI (u + 1), v', f', tw', tf', st') ∧ DA f' 0 dc mc ∧ f' 321 = 0 ∧ DA f' (1406 + 321 * u) d m ∧ ∀ j, (322 ≤ j ∧ j < 443) ∨ 1406 ≤ j → (j < 1406 + 321 * u ∨ 1406 + 321 * u + 321 ≤ j) → f' j = f j := by
  obtain ⟨rfl, rfl⟩ := hc
  have hDc := cm_ok hD hB e (Nat.le_refl _)
  have h40 := hD.1
  obtain ⟨f1, a1, a2, a3⟩ := e12_laysComing hN hD hB he hA hE
  have hA1 : DA f1 0 d m := a3.DA hD.2.2 (Or.inl (by omega)) hA
  obtain ⟨tw', tf', st', b1⟩ := e12_moved (v := v) (tw := tw) (tf := tf) (st := st) hN hD hX hA1 hDc hXc a2
  obtain ⟨f', c1, c2, c3, c4, c5⟩ := e12_merge_53 (N := N) (x := nI (fb_ct (fun j => decide (∃ i, i < n ∧ mvR (trT d W F) (trT (cm m d fl ew e).2 Wc Fc) i j = true)) nc)) (v := nI nc) (tw := tw') (tf := tf') (st := st') hN hu hD hA1 hDc a2
  unfold fX12_merge
  rw [show (321 : Int32) = nI 321 from rfl, gi (by decide) (by decide), nI_clamp (by decide), hE.1, if_neg (fun z => h0 ((n0 (by omega)).mp z)), a1, Option.bind_some, b1, Option.bind_some]
  dsimp only
  rw [if_neg (show ¬ nI u = (4 : Int32) from fun z => by have := (nI_eq (b := 4) (by omega) (by decide)).mp z; omega)]
  exact ⟨_, f', _, _, _, c1, c2, c3, c4, fun j h1 h2 => by rw [c5 j (by omega) h2, a3 j (by omega)]⟩
theorem e12_merge_4 {N m mc n nc e : Nat} {v : Int32} {f tw tf st : Nat → Int32} {d dc W F Wc Fc fl ew : Nat → Nat} (hN : 1000 ≤ N) (hD : Dic m d) (hA : DA f 0 d m) (hX : IX m d n W F) (he : e ≤ 12) (h0 : e ≠ 0) (hB : Bat m d fl ew e) (hE : EA f fl ew e) (hc : (cm m d fl ew e).1 = mc ∧ (cm m d fl ew e).2 = dc) (hXc : IX mc dc nc Wc Fc) : ∃ v' f' tw' tf' st', fX12_merge N (nI 4) v f tw tf st = some (nI (fb_ct (fun j => decide (∃ i, i < n ∧ mvR (trT d W F) (trT dc Wc Fc) i j = true)) nc), nI 4, v', f', tw', tf', st') ∧ DA f' 0 dc mc ∧ f' 321 = 0 ∧ DA f' (1406 + 321 * 3) d m ∧ (∀ j, (322 ≤ j ∧ j < 443) ∨ 2690 ≤ j → f' j = f j) ∧ ∀ j, 1406 ≤ j → j < 2369 → f' j = f (j + 321) := by
  obtain ⟨rfl, rfl⟩ := hc
  have hDc := cm_ok hD hB e (Nat.le_refl _)
  have h40 := hD.1
  have h41 := hDc.1
  obtain ⟨f1, a1, a2, a3⟩ := e12_laysComing hN hD hB he hA hE
  have hA1 : DA f1 0 d m := a3.DA hD.2.2 (Or.inl (by omega)) hA
  obtain ⟨tw', tf', st', b1⟩ := e12_moved (v := v) (tw := tw) (tf := tf) (st := st) hN hD hX hA1 hDc hXc a2
  have hcp : fX12_copies N f1 1727 1406 963 = some (va_cpy f1 f1 1727 1406 963) := e12_copies (s := 1727) (t := 1406) (c := 963) hN (by decide) (by decide) (by decide) (Or.inl (by omega))
  have hO2 : Out f1 (va_cpy f1 f1 1727 1406 963) 1406 963 := Out.cpy
  have hin : ∀ j, 1406 ≤ j → j < 2369 → va_cpy f1 f1 1727 1406 963 j = f1 (j + 321) := fun j h1 h2 => by
    rw [pk_cpy_in (by omega) (by omega), show 1727 + (j - 1406) = j + 321 by omega]
  generalize va_cpy f1 f1 1727 1406 963 = f2 at hcp hO2 hin
  have hA2 : DA f2 0 d m := hO2.DA hD.2.2 (Or.inl (by omega)) hA1
  have hAc2 : DA f2 443 (cm m d fl ew e).2 (cm m d fl ew e).1 := hO2.DA hDc.2.2 (Or.inl (by omega)) a2
  obtain ⟨f', c1, c2, c3, c4, c5⟩ := e12_merge_53 (N := N) (u := 3) (x := nI (fb_ct (fun j => decide (∃ i, i < n ∧ mvR (trT d W F) (trT (cm m d fl ew e).2 Wc Fc) i j = true)) nc)) (v := nI nc) (tw := tw') (tf := tf') (st := st') hN (by omega) hD hA2 hDc hAc2
  unfold fX12_merge
  rw [show (321 : Int32) = nI 321 from rfl, gi (by decide) (by decide), nI_clamp (by decide), hE.1, if_neg (fun z => h0 ((n0 (by omega)).mp z)), a1, Option.bind_some, b1, Option.bind_some]
  dsimp only
  rw [if_pos (show nI 4 = (4 : Int32) from rfl), hcp, Option.bind_some, show nI 4 - 1 = nI 3 from rfl]
  exact ⟨_, f', _, _, _, c1, c2, c3, c4, fun j h1 => by rw [c5 j (by omega) (by omega), hO2 j (by omega), a3 j (by omega)], fun j h1 h2 => by rw [c5 j (by omega) (by omega), hin j h1 h2, a3 _ (by omega)]⟩
theorem UnR_add {V V' : Nat → Int32} {GL GL' : Nat → Nat → Int64} {f g : Nat → Int32} {u m : Nat} {d : Nat → Nat} (hD : Dic m d) (h1 : V' (8 + u) = nI m) (h2 : Ris (GL' (2 + u)) d m) (h3 : DA g (1406 + 321 * u) d m) (hV : ∀ i, 8 ≤ i → i < 8 + u → V' i = V i) (hL : ∀ i, 2 ≤ i → i < 2 + u → GL' i = GL i) (hf : ∀ j, 1406 ≤ j → j < 1406 + 321 * u → g j = f j) (h : UnR V GL f u) : UnR V' GL' g (u + 1) := by
  obtain ⟨mm, dd, a⟩ := h
  refine ⟨fun k => if k = u then m else mm k, fun k => if k = u then d else dd k, fun k hk => ?_⟩
  by_cases e : k = u
  · subst e
    dsimp only
    rw [if_pos rfl, if_pos rfl]
    exact ⟨hD, h1, h2, h3⟩
  · dsimp only
    rw [if_neg e, if_neg e]
    obtain ⟨b1, b2, b3, b4⟩ := a k (by omega)
    exact ⟨b1, by rw [hV _ (by omega) (by omega)]; exact b2, by rw [hL _ (by omega) (by omega)]; exact b3, DA_same b1 (fun j hj => hf _ (by omega) (by omega)) b4⟩
theorem UnR_shift {V V' : Nat → Int32} {GL GL' : Nat → Nat → Int64} {f g : Nat → Int32} {m : Nat} {d : Nat → Nat} (hD : Dic m d) (h1 : V' 11 = nI m) (h2 : Ris (GL' 5) d m) (h3 : DA g (1406 + 321 * 3) d m) (hV : ∀ i, 8 ≤ i → i < 11 → V' i = V (i + 1)) (hL : ∀ i, 2 ≤ i → i < 5 → GL' i = GL (i + 1)) (hf : ∀ j, 1406 ≤ j → j < 2369 → g j = f (j + 321)) (h : UnR V GL f 4) : UnR V' GL' g 4 := by
  obtain ⟨mm, dd, a⟩ := h
  refine ⟨fun k => if k = 3 then m else mm (k + 1), fun k => if k = 3 then d else dd (k + 1), fun k hk => ?_⟩
  by_cases e : k = 3
  · subst e
    dsimp only
    rw [if_pos rfl, if_pos rfl]
    exact ⟨hD, h1, h2, h3⟩
  · dsimp only
    rw [if_neg e, if_neg e]
    obtain ⟨b1, b2, b3, b4⟩ := a (k + 1) (by omega)
    refine ⟨b1, by rw [hV _ (by omega) (by omega)]; exact b2, by rw [hL _ (by omega) (by omega)]; exact b3, DA_same b1 (fun j hj => ?_) b4⟩
    rw [hf _ (by omega) (by omega)]; congr 1; omega
theorem Lw_merge_0 {N : Nat} {V : Nat → Int32} {GI : Nat → Nat → Int32} {GL : Nat → Nat → Int64} {pres : Nat → Bool} {MV : Nat → Int32} {MG : Nat → Nat → Int32} {A : Nat → Nat} (hN : 1000 ≤ N) (hI : Inv V GI GL pres MV MG) (hu : V 7 = nI 0) : ∃ res resM, fX11_merge_0 N (V 0) (V 2) (GL 0) (V 3) (GL 1) (V 8) (GL 2) (V 16) (GL 7) (V 17) (GL 8) (A 5) (A 33) (A 34) (A 6) (A 35) (A 36) = some res ∧ fX12_merge N (MV 3) (MV 4) (MG 0) (MG 3) (MG 4) (MG 11) = some resM ∧ res.1 = resM.1 ∧ Inv (sI (sI (sI (sI (sI (sI (sI V 0 res.2.1) 2 res.2.2.1) 3 res.2.2.2.2.1) 7 res.2.2.2.2.2.2.1) 8 res.2.2.2.2.2.2.2.1) 16 res.2.2.2.2.2.2.2.2.2.1) 17 res.2.2.2.2.2.2.2.2.2.2.2.1) GI (sL (sL (sL (sL (sL GL 0 res.2.2.2.1) 1 res.2.2.2.2.2.1) 2 res.2.2.2.2.2.2.2.2.1) 7 res.2.2.2.2.2.2.2.2.2.2.1) 8 res.2.2.2.2.2.2.2.2.2.2.2.2.1) pres (sI (sI MV 3 resM.2.1) 4 resM.2.2.1) (sG (sG (sG (sG MG 0 resM.2.2.2.1) 3 resM.2.2.2.2.1) 4 resM.2.2.2.2.2.1) 11 resM.2.2.2.2.2.2) := by
  have hI' := hI
  obtain ⟨⟨m, d, e, fl, ew, q, P, t, n, hS, ⟨c1, c2, c3, c4, c5, c6, c7, c8, c9⟩, hF, hT1, hT2, hFa, ⟨ni, W, F, hX, hV, hG⟩, hCut⟩, ⟨u, hu4, hu1, hu2, hU⟩, hM, h6⟩ := hI
  obtain ⟨hD, he, hB, hq, hn⟩ := hS
  have h40 := hD.1
  have h12 := hq.2.1
  have hP := hF.PA
  obtain rfl : u = 0 := (nI_eq (by omega) (by decide)).mp (hu1.symm.trans hu)
  by_cases h0 : e = 0
  · unfold fX11_merge_0 fX12_merge
    rw [if_pos (show V 0 = 0 by rw [c1, h0]; rfl), show (321 : Int32) = nI 321 from rfl, gi (by decide) (by decide), nI_clamp (by decide), if_pos (show MG 0 321 = 0 by rw [hF.EA.1, h0]; rfl)]
    exact ⟨_, _, rfl, rfl, rfl, ⟨m, d, e, fl, ew, q, P, t, n, ⟨hD, he, hB, hq, hn⟩, ⟨c1, c2, c3, c4, c5, c6, c7, c8, c9⟩, hF, hT1, hT2, hFa, ⟨ni, W, F, hX, hV, hG⟩, hCut⟩, ⟨0, hu4, rfl, hu2, UnR_k (V := V) (GL := GL) (f := MG 0) hu4 (fun i h1 h2 => by rcases (show i = 8 ∨ i = 9 ∨ i = 10 ∨ i = 11 by omega) with rfl | rfl | rfl | rfl <;> rfl) (fun i h1 h2 => by rcases (show i = 2 ∨ i = 3 ∨ i = 4 ∨ i = 5 by omega) with rfl | rfl | rfl | rfl <;> rfl) (fun _ _ _ => rfl) hU⟩, ImsR_k (V := V) (GI := GI) (GL := GL) (MG := MG) (fun i h1 => by first | rfl | (repeat rw [sI_ne (by omega)])) (fun i h1 => by first | rfl | (repeat rw [sG_ne (by omega)])) (fun i h1 => by first | rfl | (repeat rw [sL_ne (by omega)])) rfl (fun _ _ => rfl) hM, h6⟩
  · obtain ⟨gd, gc, n', W', F', G', s1, s2, s3, s4, s5⟩ := e11_setDictionary_c (v1 := V 0) (v2 := V 2) (v4 := V 16) (v5 := V 17) (g2 := GL 0) (g4 := GL 7) (g5 := GL 8) (a1 := A 5) (a2 := A 33) (a3 := A 34) (a4 := A 6) (a5 := A 35) (a6 := A 36) hN (cm_ok hD hB e (Nat.le_refl _)) c7
    have hDc := cm_ok hD hB e (Nat.le_refl _)
    have hmv := e3_moved hN hD hX hG hDc s4 s5
    have hcnt := mv_ct (IX_inc hD hX) (IX_inc hDc s4)
    obtain ⟨gk, k1, k2⟩ := e7_copy (n0 := 40) (n1 := 40) (v0 := V 8) (g0 := GL 2) c5 h40 h40 (by omega)
    obtain ⟨v', f', tw', tf', st', a1, a2, a3, a4, a5⟩ := e12_merge_lt (u := 0) (v := MV 4) (tw := MG 3) (tf := MG 4) (st := MG 11) hN (by omega) hD hF.1 hX he h0 hB hF.EA ⟨rfl, rfl⟩ s4
    unfold fX11_merge_0 fX4_keep_0
    rw [if_neg (show ¬ V 0 = 0 from fun z => h0 ((n0 (by omega)).mp (c1.symm.trans z))), c4, k1, Option.bind_some, Option.bind_some, c6, ← c4, s1, Option.bind_some]
    dsimp only
    rw [hV, hmv, Option.bind_some, hu2, a1, hcnt]
    refine ⟨_, _, rfl, rfl, rfl, ⟨(cm m d fl ew e).1, (cm m d fl ew e).2, 0, fl, ew, q, P, t, n, ⟨hDc, Nat.zero_le _, fun k hk => absurd hk (Nat.not_lt_zero k), hq, hn⟩, ⟨rfl, c2, c3, rfl, s2, rfl, s3, c8, c9⟩, ?_, hT1, hT2, hFa, ⟨n', W', F', s4, rfl, s5⟩, hCut⟩, ⟨1, by omega, rfl, rfl, UnR_add (u := 0) (V := V) (GL := GL) (f := MG 0) hD c4 k2 a4 (fun i h1 h2 => by rcases (show i = 8 ∨ i = 9 ∨ i = 10 ∨ i = 11 by omega) with rfl | rfl | rfl | rfl <;> first | rfl | omega) (fun i h1 h2 => by rcases (show i = 2 ∨ i = 3 ∨ i = 4 ∨ i = 5 by omega) with rfl | rfl | rfl | rfl <;> first | rfl | omega) (fun j h1 h2 => a5 j (by omega) (by omega)) hU⟩, ImsR_k (V := V) (GI := GI) (GL := GL) (MG := MG) (fun i h1 => by first | rfl | (repeat rw [sI_ne (by omega)])) (fun i h1 => by first | rfl | (repeat rw [sG_ne (by omega)])) (fun i h1 => by first | rfl | (repeat rw [sL_ne (by omega)])) rfl (fun j hj => a5 j (by omega) (by omega)) hM, h6⟩
    show StF f' 0 (cm m d fl ew e).1 (cm m d fl ew e).2 0 fl ew q P
    exact EA.St a2 ⟨a3, fun k hk => absurd hk (Nat.not_lt_zero k)⟩ ⟨by rw [a5 430 (by omega) (by omega)]; exact hP.1, fun i hi => by rw [a5 _ (by omega) (by omega)]; exact hP.2 i hi⟩
theorem Lw_merge_1 {N : Nat} {V : Nat → Int32} {GI : Nat → Nat → Int32} {GL : Nat → Nat → Int64} {pres : Nat → Bool} {MV : Nat → Int32} {MG : Nat → Nat → Int32} {A : Nat → Nat} (hN : 1000 ≤ N) (hI : Inv V GI GL pres MV MG) (hu : V 7 = nI 1) : ∃ res resM, fX11_merge_1 N (V 0) (V 2) (GL 0) (V 3) (GL 1) (V 9) (GL 3) (V 16) (GL 7) (V 17) (GL 8) (A 5) (A 33) (A 34) (A 6) (A 35) (A 36) = some res ∧ fX12_merge N (MV 3) (MV 4) (MG 0) (MG 3) (MG 4) (MG 11) = some resM ∧ res.1 = resM.1 ∧ Inv (sI (sI (sI (sI (sI (sI (sI V 0 res.2.1) 2 res.2.2.1) 3 res.2.2.2.2.1) 7 res.2.2.2.2.2.2.1) 9 res.2.2.2.2.2.2.2.1) 16 res.2.2.2.2.2.2.2.2.2.1) 17 res.2.2.2.2.2.2.2.2.2.2.2.1) GI (sL (sL (sL (sL (sL GL 0 res.2.2.2.1) 1 res.2.2.2.2.2.1) 3 res.2.2.2.2.2.2.2.2.1) 7 res.2.2.2.2.2.2.2.2.2.2.1) 8 res.2.2.2.2.2.2.2.2.2.2.2.2.1) pres (sI (sI MV 3 resM.2.1) 4 resM.2.2.1) (sG (sG (sG (sG MG 0 resM.2.2.2.1) 3 resM.2.2.2.2.1) 4 resM.2.2.2.2.2.1) 11 resM.2.2.2.2.2.2) := by
  have hI' := hI
  obtain ⟨⟨m, d, e, fl, ew, q, P, t, n, hS, ⟨c1, c2, c3, c4, c5, c6, c7, c8, c9⟩, hF, hT1, hT2, hFa, ⟨ni, W, F, hX, hV, hG⟩, hCut⟩, ⟨u, hu4, hu1, hu2, hU⟩, hM, h6⟩ := hI
  obtain ⟨hD, he, hB, hq, hn⟩ := hS
  have h40 := hD.1
  have h12 := hq.2.1
  have hP := hF.PA
  obtain rfl : u = 1 := (nI_eq (by omega) (by decide)).mp (hu1.symm.trans hu)
  by_cases h0 : e = 0
  · unfold fX11_merge_1 fX12_merge
    rw [if_pos (show V 0 = 0 by rw [c1, h0]; rfl), show (321 : Int32) = nI 321 from rfl, gi (by decide) (by decide), nI_clamp (by decide), if_pos (show MG 0 321 = 0 by rw [hF.EA.1, h0]; rfl)]
    exact ⟨_, _, rfl, rfl, rfl, ⟨m, d, e, fl, ew, q, P, t, n, ⟨hD, he, hB, hq, hn⟩, ⟨c1, c2, c3, c4, c5, c6, c7, c8, c9⟩, hF, hT1, hT2, hFa, ⟨ni, W, F, hX, hV, hG⟩, hCut⟩, ⟨1, hu4, rfl, hu2, UnR_k (V := V) (GL := GL) (f := MG 0) hu4 (fun i h1 h2 => by rcases (show i = 8 ∨ i = 9 ∨ i = 10 ∨ i = 11 by omega) with rfl | rfl | rfl | rfl <;> rfl) (fun i h1 h2 => by rcases (show i = 2 ∨ i = 3 ∨ i = 4 ∨ i = 5 by omega) with rfl | rfl | rfl | rfl <;> rfl) (fun _ _ _ => rfl) hU⟩, ImsR_k (V := V) (GI := GI) (GL := GL) (MG := MG) (fun i h1 => by first | rfl | (repeat rw [sI_ne (by omega)])) (fun i h1 => by first | rfl | (repeat rw [sG_ne (by omega)])) (fun i h1 => by first | rfl | (repeat rw [sL_ne (by omega)])) rfl (fun _ _ => rfl) hM, h6⟩
  · obtain ⟨gd, gc, n', W', F', G', s1, s2, s3, s4, s5⟩ := e11_setDictionary_c (v1 := V 0) (v2 := V 2) (v4 := V 16) (v5 := V 17) (g2 := GL 0) (g4 := GL 7) (g5 := GL 8) (a1 := A 5) (a2 := A 33) (a3 := A 34) (a4 := A 6) (a5 := A 35) (a6 := A 36) hN (cm_ok hD hB e (Nat.le_refl _)) c7
    have hDc := cm_ok hD hB e (Nat.le_refl _)
    have hmv := e3_moved hN hD hX hG hDc s4 s5
    have hcnt := mv_ct (IX_inc hD hX) (IX_inc hDc s4)
    obtain ⟨gk, k1, k2⟩ := e7_copy (n0 := 40) (n1 := 40) (v0 := V 9) (g0 := GL 3) c5 h40 h40 (by omega)
    obtain ⟨v', f', tw', tf', st', a1, a2, a3, a4, a5⟩ := e12_merge_lt (u := 1) (v := MV 4) (tw := MG 3) (tf := MG 4) (st := MG 11) hN (by omega) hD hF.1 hX he h0 hB hF.EA ⟨rfl, rfl⟩ s4
    unfold fX11_merge_1 fX4_keep_1
    rw [if_neg (show ¬ V 0 = 0 from fun z => h0 ((n0 (by omega)).mp (c1.symm.trans z))), c4, k1, Option.bind_some, Option.bind_some, c6, ← c4, s1, Option.bind_some]
    dsimp only
    rw [hV, hmv, Option.bind_some, hu2, a1, hcnt]
    refine ⟨_, _, rfl, rfl, rfl, ⟨(cm m d fl ew e).1, (cm m d fl ew e).2, 0, fl, ew, q, P, t, n, ⟨hDc, Nat.zero_le _, fun k hk => absurd hk (Nat.not_lt_zero k), hq, hn⟩, ⟨rfl, c2, c3, rfl, s2, rfl, s3, c8, c9⟩, ?_, hT1, hT2, hFa, ⟨n', W', F', s4, rfl, s5⟩, hCut⟩, ⟨2, by omega, rfl, rfl, UnR_add (u := 1) (V := V) (GL := GL) (f := MG 0) hD c4 k2 a4 (fun i h1 h2 => by rcases (show i = 8 ∨ i = 9 ∨ i = 10 ∨ i = 11 by omega) with rfl | rfl | rfl | rfl <;> first | rfl | omega) (fun i h1 h2 => by rcases (show i = 2 ∨ i = 3 ∨ i = 4 ∨ i = 5 by omega) with rfl | rfl | rfl | rfl <;> first | rfl | omega) (fun j h1 h2 => a5 j (by omega) (by omega)) hU⟩, ImsR_k (V := V) (GI := GI) (GL := GL) (MG := MG) (fun i h1 => by first | rfl | (repeat rw [sI_ne (by omega)])) (fun i h1 => by first | rfl | (repeat rw [sG_ne (by omega)])) (fun i h1 => by first | rfl | (repeat rw [sL_ne (by omega)])) rfl (fun j hj => a5 j (by omega) (by omega)) hM, h6⟩
    show StF f' 0 (cm m d fl ew e).1 (cm m d fl ew e).2 0 fl ew q P
    exact EA.St a2 ⟨a3, fun k hk => absurd hk (Nat.not_lt_zero k)⟩ ⟨by rw [a5 430 (by omega) (by omega)]; exact hP.1, fun i hi => by rw [a5 _ (by omega) (by omega)]; exact hP.2 i hi⟩
theorem Lw_merge_2 {N : Nat} {V : Nat → Int32} {GI : Nat → Nat → Int32} {GL : Nat → Nat → Int64} {pres : Nat → Bool} {MV : Nat → Int32} {MG : Nat → Nat → Int32} {A : Nat → Nat} (hN : 1000 ≤ N) (hI : Inv V GI GL pres MV MG) (hu : V 7 = nI 2) : ∃ res resM, fX11_merge_2 N (V 0) (V 2) (GL 0) (V 3) (GL 1) (V 10) (GL 4) (V 16) (GL 7) (V 17) (GL 8) (A 5) (A 33) (A 34) (A 6) (A 35) (A 36) = some res ∧ fX12_merge N (MV 3) (MV 4) (MG 0) (MG 3) (MG 4) (MG 11) = some resM ∧ res.1 = resM.1 ∧ Inv (sI (sI (sI (sI (sI (sI (sI V 0 res.2.1) 2 res.2.2.1) 3 res.2.2.2.2.1) 7 res.2.2.2.2.2.2.1) 10 res.2.2.2.2.2.2.2.1) 16 res.2.2.2.2.2.2.2.2.2.1) 17 res.2.2.2.2.2.2.2.2.2.2.2.1) GI (sL (sL (sL (sL (sL GL 0 res.2.2.2.1) 1 res.2.2.2.2.2.1) 4 res.2.2.2.2.2.2.2.2.1) 7 res.2.2.2.2.2.2.2.2.2.2.1) 8 res.2.2.2.2.2.2.2.2.2.2.2.2.1) pres (sI (sI MV 3 resM.2.1) 4 resM.2.2.1) (sG (sG (sG (sG MG 0 resM.2.2.2.1) 3 resM.2.2.2.2.1) 4 resM.2.2.2.2.2.1) 11 resM.2.2.2.2.2.2) := by
  have hI' := hI
  obtain ⟨⟨m, d, e, fl, ew, q, P, t, n, hS, ⟨c1, c2, c3, c4, c5, c6, c7, c8, c9⟩, hF, hT1, hT2, hFa, ⟨ni, W, F, hX, hV, hG⟩, hCut⟩, ⟨u, hu4, hu1, hu2, hU⟩, hM, h6⟩ := hI
  obtain ⟨hD, he, hB, hq, hn⟩ := hS
  have h40 := hD.1
  have h12 := hq.2.1
  have hP := hF.PA
  obtain rfl : u = 2 := (nI_eq (by omega) (by decide)).mp (hu1.symm.trans hu)
  by_cases h0 : e = 0
  · unfold fX11_merge_2 fX12_merge
    rw [if_pos (show V 0 = 0 by rw [c1, h0]; rfl), show (321 : Int32) = nI 321 from rfl, gi (by decide) (by decide), nI_clamp (by decide), if_pos (show MG 0 321 = 0 by rw [hF.EA.1, h0]; rfl)]
    exact ⟨_, _, rfl, rfl, rfl, ⟨m, d, e, fl, ew, q, P, t, n, ⟨hD, he, hB, hq, hn⟩, ⟨c1, c2, c3, c4, c5, c6, c7, c8, c9⟩, hF, hT1, hT2, hFa, ⟨ni, W, F, hX, hV, hG⟩, hCut⟩, ⟨2, hu4, rfl, hu2, UnR_k (V := V) (GL := GL) (f := MG 0) hu4 (fun i h1 h2 => by rcases (show i = 8 ∨ i = 9 ∨ i = 10 ∨ i = 11 by omega) with rfl | rfl | rfl | rfl <;> rfl) (fun i h1 h2 => by rcases (show i = 2 ∨ i = 3 ∨ i = 4 ∨ i = 5 by omega) with rfl | rfl | rfl | rfl <;> rfl) (fun _ _ _ => rfl) hU⟩, ImsR_k (V := V) (GI := GI) (GL := GL) (MG := MG) (fun i h1 => by first | rfl | (repeat rw [sI_ne (by omega)])) (fun i h1 => by first | rfl | (repeat rw [sG_ne (by omega)])) (fun i h1 => by first | rfl | (repeat rw [sL_ne (by omega)])) rfl (fun _ _ => rfl) hM, h6⟩
  · obtain ⟨gd, gc, n', W', F', G', s1, s2, s3, s4, s5⟩ := e11_setDictionary_c (v1 := V 0) (v2 := V 2) (v4 := V 16) (v5 := V 17) (g2 := GL 0) (g4 := GL 7) (g5 := GL 8) (a1 := A 5) (a2 := A 33) (a3 := A 34) (a4 := A 6) (a5 := A 35) (a6 := A 36) hN (cm_ok hD hB e (Nat.le_refl _)) c7
    have hDc := cm_ok hD hB e (Nat.le_refl _)
    have hmv := e3_moved hN hD hX hG hDc s4 s5
    have hcnt := mv_ct (IX_inc hD hX) (IX_inc hDc s4)
    obtain ⟨gk, k1, k2⟩ := e7_copy (n0 := 40) (n1 := 40) (v0 := V 10) (g0 := GL 4) c5 h40 h40 (by omega)
    obtain ⟨v', f', tw', tf', st', a1, a2, a3, a4, a5⟩ := e12_merge_lt (u := 2) (v := MV 4) (tw := MG 3) (tf := MG 4) (st := MG 11) hN (by omega) hD hF.1 hX he h0 hB hF.EA ⟨rfl, rfl⟩ s4
    unfold fX11_merge_2 fX4_keep_2
    rw [if_neg (show ¬ V 0 = 0 from fun z => h0 ((n0 (by omega)).mp (c1.symm.trans z))), c4, k1, Option.bind_some, Option.bind_some, c6, ← c4, s1, Option.bind_some]
    dsimp only
    rw [hV, hmv, Option.bind_some, hu2, a1, hcnt]
    refine ⟨_, _, rfl, rfl, rfl, ⟨(cm m d fl ew e).1, (cm m d fl ew e).2, 0, fl, ew, q, P, t, n, ⟨hDc, Nat.zero_le _, fun k hk => absurd hk (Nat.not_lt_zero k), hq, hn⟩, ⟨rfl, c2, c3, rfl, s2, rfl, s3, c8, c9⟩, ?_, hT1, hT2, hFa, ⟨n', W', F', s4, rfl, s5⟩, hCut⟩, ⟨3, by omega, rfl, rfl, UnR_add (u := 2) (V := V) (GL := GL) (f := MG 0) hD c4 k2 a4 (fun i h1 h2 => by rcases (show i = 8 ∨ i = 9 ∨ i = 10 ∨ i = 11 by omega) with rfl | rfl | rfl | rfl <;> first | rfl | omega) (fun i h1 h2 => by rcases (show i = 2 ∨ i = 3 ∨ i = 4 ∨ i = 5 by omega) with rfl | rfl | rfl | rfl <;> first | rfl | omega) (fun j h1 h2 => a5 j (by omega) (by omega)) hU⟩, ImsR_k (V := V) (GI := GI) (GL := GL) (MG := MG) (fun i h1 => by first | rfl | (repeat rw [sI_ne (by omega)])) (fun i h1 => by first | rfl | (repeat rw [sG_ne (by omega)])) (fun i h1 => by first | rfl | (repeat rw [sL_ne (by omega)])) rfl (fun j hj => a5 j (by omega) (by omega)) hM, h6⟩
    show StF f' 0 (cm m d fl ew e).1 (cm m d fl ew e).2 0 fl ew q P
    exact EA.St a2 ⟨a3, fun k hk => absurd hk (Nat.not_lt_zero k)⟩ ⟨by rw [a5 430 (by omega) (by omega)]; exact hP.1, fun i hi => by rw [a5 _ (by omega) (by omega)]; exact hP.2 i hi⟩
theorem Lw_merge_3 {N : Nat} {V : Nat → Int32} {GI : Nat → Nat → Int32} {GL : Nat → Nat → Int64} {pres : Nat → Bool} {MV : Nat → Int32} {MG : Nat → Nat → Int32} {A : Nat → Nat} (hN : 1000 ≤ N) (hI : Inv V GI GL pres MV MG) (hu : V 7 = nI 3) : ∃ res resM, fX11_merge_3 N (V 0) (V 2) (GL 0) (V 3) (GL 1) (V 11) (GL 5) (V 16) (GL 7) (V 17) (GL 8) (A 5) (A 33) (A 34) (A 6) (A 35) (A 36) = some res ∧ fX12_merge N (MV 3) (MV 4) (MG 0) (MG 3) (MG 4) (MG 11) = some resM ∧ res.1 = resM.1 ∧ Inv (sI (sI (sI (sI (sI (sI (sI V 0 res.2.1) 2 res.2.2.1) 3 res.2.2.2.2.1) 7 res.2.2.2.2.2.2.1) 11 res.2.2.2.2.2.2.2.1) 16 res.2.2.2.2.2.2.2.2.2.1) 17 res.2.2.2.2.2.2.2.2.2.2.2.1) GI (sL (sL (sL (sL (sL GL 0 res.2.2.2.1) 1 res.2.2.2.2.2.1) 5 res.2.2.2.2.2.2.2.2.1) 7 res.2.2.2.2.2.2.2.2.2.2.1) 8 res.2.2.2.2.2.2.2.2.2.2.2.2.1) pres (sI (sI MV 3 resM.2.1) 4 resM.2.2.1) (sG (sG (sG (sG MG 0 resM.2.2.2.1) 3 resM.2.2.2.2.1) 4 resM.2.2.2.2.2.1) 11 resM.2.2.2.2.2.2) := by
  have hI' := hI
  obtain ⟨⟨m, d, e, fl, ew, q, P, t, n, hS, ⟨c1, c2, c3, c4, c5, c6, c7, c8, c9⟩, hF, hT1, hT2, hFa, ⟨ni, W, F, hX, hV, hG⟩, hCut⟩, ⟨u, hu4, hu1, hu2, hU⟩, hM, h6⟩ := hI
  obtain ⟨hD, he, hB, hq, hn⟩ := hS
  have h40 := hD.1
  have h12 := hq.2.1
  have hP := hF.PA
  obtain rfl : u = 3 := (nI_eq (by omega) (by decide)).mp (hu1.symm.trans hu)
  by_cases h0 : e = 0
  · unfold fX11_merge_3 fX12_merge
    rw [if_pos (show V 0 = 0 by rw [c1, h0]; rfl), show (321 : Int32) = nI 321 from rfl, gi (by decide) (by decide), nI_clamp (by decide), if_pos (show MG 0 321 = 0 by rw [hF.EA.1, h0]; rfl)]
    exact ⟨_, _, rfl, rfl, rfl, ⟨m, d, e, fl, ew, q, P, t, n, ⟨hD, he, hB, hq, hn⟩, ⟨c1, c2, c3, c4, c5, c6, c7, c8, c9⟩, hF, hT1, hT2, hFa, ⟨ni, W, F, hX, hV, hG⟩, hCut⟩, ⟨3, hu4, rfl, hu2, UnR_k (V := V) (GL := GL) (f := MG 0) hu4 (fun i h1 h2 => by rcases (show i = 8 ∨ i = 9 ∨ i = 10 ∨ i = 11 by omega) with rfl | rfl | rfl | rfl <;> rfl) (fun i h1 h2 => by rcases (show i = 2 ∨ i = 3 ∨ i = 4 ∨ i = 5 by omega) with rfl | rfl | rfl | rfl <;> rfl) (fun _ _ _ => rfl) hU⟩, ImsR_k (V := V) (GI := GI) (GL := GL) (MG := MG) (fun i h1 => by first | rfl | (repeat rw [sI_ne (by omega)])) (fun i h1 => by first | rfl | (repeat rw [sG_ne (by omega)])) (fun i h1 => by first | rfl | (repeat rw [sL_ne (by omega)])) rfl (fun _ _ => rfl) hM, h6⟩
  · obtain ⟨gd, gc, n', W', F', G', s1, s2, s3, s4, s5⟩ := e11_setDictionary_c (v1 := V 0) (v2 := V 2) (v4 := V 16) (v5 := V 17) (g2 := GL 0) (g4 := GL 7) (g5 := GL 8) (a1 := A 5) (a2 := A 33) (a3 := A 34) (a4 := A 6) (a5 := A 35) (a6 := A 36) hN (cm_ok hD hB e (Nat.le_refl _)) c7
    have hDc := cm_ok hD hB e (Nat.le_refl _)
    have hmv := e3_moved hN hD hX hG hDc s4 s5
    have hcnt := mv_ct (IX_inc hD hX) (IX_inc hDc s4)
    obtain ⟨gk, k1, k2⟩ := e7_copy (n0 := 40) (n1 := 40) (v0 := V 11) (g0 := GL 5) c5 h40 h40 (by omega)
    obtain ⟨v', f', tw', tf', st', a1, a2, a3, a4, a5⟩ := e12_merge_lt (u := 3) (v := MV 4) (tw := MG 3) (tf := MG 4) (st := MG 11) hN (by omega) hD hF.1 hX he h0 hB hF.EA ⟨rfl, rfl⟩ s4
    unfold fX11_merge_3 fX4_keep_3
    rw [if_neg (show ¬ V 0 = 0 from fun z => h0 ((n0 (by omega)).mp (c1.symm.trans z))), c4, k1, Option.bind_some, Option.bind_some, c6, ← c4, s1, Option.bind_some]
    dsimp only
    rw [hV, hmv, Option.bind_some, hu2, a1, hcnt]
    refine ⟨_, _, rfl, rfl, rfl, ⟨(cm m d fl ew e).1, (cm m d fl ew e).2, 0, fl, ew, q, P, t, n, ⟨hDc, Nat.zero_le _, fun k hk => absurd hk (Nat.not_lt_zero k), hq, hn⟩, ⟨rfl, c2, c3, rfl, s2, rfl, s3, c8, c9⟩, ?_, hT1, hT2, hFa, ⟨n', W', F', s4, rfl, s5⟩, hCut⟩, ⟨4, by omega, rfl, rfl, UnR_add (u := 3) (V := V) (GL := GL) (f := MG 0) hD c4 k2 a4 (fun i h1 h2 => by rcases (show i = 8 ∨ i = 9 ∨ i = 10 ∨ i = 11 by omega) with rfl | rfl | rfl | rfl <;> first | rfl | omega) (fun i h1 h2 => by rcases (show i = 2 ∨ i = 3 ∨ i = 4 ∨ i = 5 by omega) with rfl | rfl | rfl | rfl <;> first | rfl | omega) (fun j h1 h2 => a5 j (by omega) (by omega)) hU⟩, ImsR_k (V := V) (GI := GI) (GL := GL) (MG := MG) (fun i h1 => by first | rfl | (repeat rw [sI_ne (by omega)])) (fun i h1 => by first | rfl | (repeat rw [sG_ne (by omega)])) (fun i h1 => by first | rfl | (repeat rw [sL_ne (by omega)])) rfl (fun j hj => a5 j (by omega) (by omega)) hM, h6⟩
    show StF f' 0 (cm m d fl ew e).1 (cm m d fl ew e).2 0 fl ew q P
    exact EA.St a2 ⟨a3, fun k hk => absurd hk (Nat.not_lt_zero k)⟩ ⟨by rw [a5 430 (by omega) (by omega)]; exact hP.1, fun i hi => by rw [a5 _ (by omega) (by omega)]; exact hP.2 i hi⟩
theorem Lw_merge_4 {N : Nat} {V : Nat → Int32} {GI : Nat → Nat → Int32} {GL : Nat → Nat → Int64} {pres : Nat → Bool} {MV : Nat → Int32} {MG : Nat → Nat → Int32} {A : Nat → Nat} (hN : 1000 ≤ N) (hI : Inv V GI GL pres MV MG) (hu : V 7 = nI 4) : ∃ res resM, fX11_merge_4 N (V 0) (V 2) (GL 0) (V 3) (GL 1) (V 8) (GL 2) (V 9) (GL 3) (V 10) (GL 4) (V 11) (GL 5) (V 16) (GL 7) (V 17) (GL 8) (A 20) (A 24) (A 21) (A 25) (A 22) (A 26) (A 23) (A 27) (A 5) (A 33) (A 34) (A 6) (A 35) (A 36) = some res ∧ fX12_merge N (MV 3) (MV 4) (MG 0) (MG 3) (MG 4) (MG 11) = some resM ∧ res.1 = resM.1 ∧ Inv (sI (sI (sI (sI (sI (sI (sI (sI (sI (sI V 0 res.2.1) 2 res.2.2.1) 3 res.2.2.2.2.1) 7 res.2.2.2.2.2.2.1) 8 res.2.2.2.2.2.2.2.1) 9 res.2.2.2.2.2.2.2.2.2.1) 10 res.2.2.2.2.2.2.2.2.2.2.2.1) 11 res.2.2.2.2.2.2.2.2.2.2.2.2.2.1) 16 res.2.2.2.2.2.2.2.2.2.2.2.2.2.2.2.1) 17 res.2.2.2.2.2.2.2.2.2.2.2.2.2.2.2.2.2.1) GI (sL (sL (sL (sL (sL (sL (sL (sL GL 0 res.2.2.2.1) 1 res.2.2.2.2.2.1) 2 res.2.2.2.2.2.2.2.2.1) 3 res.2.2.2.2.2.2.2.2.2.2.1) 4 res.2.2.2.2.2.2.2.2.2.2.2.2.1) 5 res.2.2.2.2.2.2.2.2.2.2.2.2.2.2.1) 7 res.2.2.2.2.2.2.2.2.2.2.2.2.2.2.2.2.1) 8 res.2.2.2.2.2.2.2.2.2.2.2.2.2.2.2.2.2.2.1) pres (sI (sI MV 3 resM.2.1) 4 resM.2.2.1) (sG (sG (sG (sG MG 0 resM.2.2.2.1) 3 resM.2.2.2.2.1) 4 resM.2.2.2.2.2.1) 11 resM.2.2.2.2.2.2) := by
  have hI' := hI
  obtain ⟨⟨m, d, e, fl, ew, q, P, t, n, hS, ⟨c1, c2, c3, c4, c5, c6, c7, c8, c9⟩, hF, hT1, hT2, hFa, ⟨ni, W, F, hX, hV, hG⟩, hCut⟩, ⟨u, hu4, hu1, hu2, hU⟩, hM, h6⟩ := hI
  obtain ⟨hD, he, hB, hq, hn⟩ := hS
  have h40 := hD.1
  have h12 := hq.2.1
  have hP := hF.PA
  obtain rfl : u = 4 := (nI_eq (by omega) (by decide)).mp (hu1.symm.trans hu)
  by_cases h0 : e = 0
  · unfold fX11_merge_4 fX12_merge
    rw [if_pos (show V 0 = 0 by rw [c1, h0]; rfl), show (321 : Int32) = nI 321 from rfl, gi (by decide) (by decide), nI_clamp (by decide), if_pos (show MG 0 321 = 0 by rw [hF.EA.1, h0]; rfl)]
    exact ⟨_, _, rfl, rfl, rfl, ⟨m, d, e, fl, ew, q, P, t, n, ⟨hD, he, hB, hq, hn⟩, ⟨c1, c2, c3, c4, c5, c6, c7, c8, c9⟩, hF, hT1, hT2, hFa, ⟨ni, W, F, hX, hV, hG⟩, hCut⟩, ⟨4, hu4, rfl, hu2, UnR_k (V := V) (GL := GL) (f := MG 0) hu4 (fun i h1 h2 => by rcases (show i = 8 ∨ i = 9 ∨ i = 10 ∨ i = 11 by omega) with rfl | rfl | rfl | rfl <;> rfl) (fun i h1 h2 => by rcases (show i = 2 ∨ i = 3 ∨ i = 4 ∨ i = 5 by omega) with rfl | rfl | rfl | rfl <;> rfl) (fun _ _ _ => rfl) hU⟩, ImsR_k (V := V) (GI := GI) (GL := GL) (MG := MG) (fun i h1 => by first | rfl | (repeat rw [sI_ne (by omega)])) (fun i h1 => by first | rfl | (repeat rw [sG_ne (by omega)])) (fun i h1 => by first | rfl | (repeat rw [sL_ne (by omega)])) rfl (fun _ _ => rfl) hM, h6⟩
  · obtain ⟨gd, gc, n', W', F', G', s1, s2, s3, s4, s5⟩ := e11_setDictionary_c (v1 := V 0) (v2 := V 2) (v4 := V 16) (v5 := V 17) (g2 := GL 0) (g4 := GL 7) (g5 := GL 8) (a1 := A 5) (a2 := A 33) (a3 := A 34) (a4 := A 6) (a5 := A 35) (a6 := A 36) hN (cm_ok hD hB e (Nat.le_refl _)) c7
    have hDc := cm_ok hD hB e (Nat.le_refl _)
    have hmv := e3_moved hN hD hX hG hDc s4 s5
    have hcnt := mv_ct (IX_inc hD hX) (IX_inc hDc s4)
    obtain ⟨gk, k1, k2⟩ := e7_copy (n0 := 40) (n1 := 40) (v0 := V 8) (g0 := GL 2) c5 h40 h40 (by omega)
    obtain ⟨v', f', tw', tf', st', a1, a2, a3, a4, a5, a6⟩ := e12_merge_4 (v := MV 4) (tw := MG 3) (tf := MG 4) (st := MG 11) hN hD hF.1 hX he h0 hB hF.EA ⟨rfl, rfl⟩ s4
    unfold fX11_merge_4 fX4_keep_4 fX4_forgetOldest
    rw [if_neg (show ¬ V 0 = 0 from fun z => h0 ((n0 (by omega)).mp (c1.symm.trans z))), Option.bind_some]
    dsimp only
    rw [c4, k1, Option.bind_some, Option.bind_some, c6, ← c4, s1, Option.bind_some]
    dsimp only
    rw [hV, hmv, Option.bind_some, hu2, a1, hcnt]
    refine ⟨_, _, rfl, rfl, rfl, ⟨(cm m d fl ew e).1, (cm m d fl ew e).2, 0, fl, ew, q, P, t, n, ⟨hDc, Nat.zero_le _, fun k hk => absurd hk (Nat.not_lt_zero k), hq, hn⟩, ⟨rfl, c2, c3, rfl, s2, rfl, s3, c8, c9⟩, ?_, hT1, hT2, hFa, ⟨n', W', F', s4, rfl, s5⟩, hCut⟩, ⟨4, by omega, rfl, rfl, UnR_shift (V := V) (GL := GL) (f := MG 0) hD c4 k2 a4 (fun i h1 h2 => by rcases (show i = 8 ∨ i = 9 ∨ i = 10 by omega) with rfl | rfl | rfl <;> rfl) (fun i h1 h2 => by rcases (show i = 2 ∨ i = 3 ∨ i = 4 by omega) with rfl | rfl | rfl <;> rfl) (fun j h1 h2 => a6 j h1 h2) hU⟩, ImsR_k (V := V) (GI := GI) (GL := GL) (MG := MG) (fun i h1 => by first | rfl | (repeat rw [sI_ne (by omega)])) (fun i h1 => by first | rfl | (repeat rw [sG_ne (by omega)])) (fun i h1 => by first | rfl | (repeat rw [sL_ne (by omega)])) rfl (fun j hj => a5 j (by omega)) hM, h6⟩
    show StF f' 0 (cm m d fl ew e).1 (cm m d fl ew e).2 0 fl ew q P
    exact EA.St a2 ⟨a3, fun k hk => absurd hk (Nat.not_lt_zero k)⟩ ⟨by rw [a5 430 (by omega)]; exact hP.1, fun i hi => by rw [a5 _ (by omega)]; exact hP.2 i hi⟩
theorem e12_undo {N u m : Nat} {f : Nat → Int32} {d : Nat → Nat} (hN : 1000 ≤ N) (hu : u < 4) (hD : Dic m d) (hA : DA f (1406 + 321 * u) d m) : ∃ f', fX12_undo N (nI (u + 1)) f = some (nI u, nI u, f') ∧ DA f' 0 d m ∧ f' 321 = 0 ∧ ∀ j, 322 ≤ j → f' j = f j := by
  have h40 := hD.1
  unfold fX12_undo
  have e1 : (1406 : Int32) + 321 * nI u = nI (1406 + 321 * u) := by
    rw [show (321 : Int32) * nI u = nI (321 * u) from pk_mul 321 u]; exact nI_add 1406 _
  rw [if_neg (fun z => by have := (n0 (by omega)).mp z; omega), nI_pred, e1, show fX12_copies N f (nI (1406 + 321 * u)) 0 321 = _ from e12_copies (s := 1406 + 321 * u) (t := 0) (c := 321) hN (by decide) (by omega) (by decide) (Or.inl (by omega)), Option.bind_some, show (321 : Int32) = nI 321 from rfl, gi (by decide) (by decide), nI_clamp (by decide)]
  have hO1 : Out f (va_cpy f f (1406 + 321 * u) 0 321) 0 321 := Out.cpy
  have hZ : DA (va_cpy f f (1406 + 321 * u) 0 321) 0 d m := DA_cpy hD.2.2 (by omega) hA
  generalize va_cpy f f (1406 + 321 * u) 0 321 = f1 at hO1 hZ
  have hO3 : Out f1 (upd f1 321 0) 321 1 := Out.upd
  exact ⟨upd f1 321 0, rfl, hO3.DA hD.2.2 (Or.inl (by omega)) hZ, pk_us, fun j h1 => by rw [hO3 j (by omega), hO1 j (by omega)]⟩
theorem Lw_undo_0 {N : Nat} {V : Nat → Int32} {GI : Nat → Nat → Int32} {GL : Nat → Nat → Int64} {pres : Nat → Bool} {MV : Nat → Int32} {MG : Nat → Nat → Int32} {A : Nat → Nat} (hN : 1000 ≤ N) (hI : Inv V GI GL pres MV MG) (hu : V 7 = nI 0) : ∃ res resM, fX11_undo_0 N (V 0) (V 2) (GL 0) (V 3) (GL 1) (V 8) (GL 2) (V 16) (GL 7) (V 17) (GL 8) (A 5) (A 33) (A 34) (A 6) (A 35) (A 36) = some res ∧ fX12_undo N (MV 3) (MG 0) = some resM ∧ res.1 = resM.1 ∧ Inv (sI (sI (sI (sI (sI (sI V 0 res.2.1) 2 res.2.2.1) 3 res.2.2.2.2.1) 7 res.2.2.2.2.2.2.1) 16 res.2.2.2.2.2.2.2.1) 17 res.2.2.2.2.2.2.2.2.2.1) GI (sL (sL (sL (sL GL 0 res.2.2.2.1) 1 res.2.2.2.2.2.1) 7 res.2.2.2.2.2.2.2.2.1) 8 res.2.2.2.2.2.2.2.2.2.2.1) pres (sI MV 3 resM.2.1) (sG MG 0 resM.2.2) := by
  have hI' := hI
  obtain ⟨⟨m, d, e, fl, ew, q, P, t, n, hS, ⟨c1, c2, c3, c4, c5, c6, c7, c8, c9⟩, hF, hT1, hT2, hFa, ⟨ni, W, F, hX, hV, hG⟩, hCut⟩, ⟨u, hu4, hu1, hu2, hU⟩, hM, h6⟩ := hI
  obtain rfl : u = 0 := (nI_eq (by omega) (by decide)).mp (hu1.symm.trans hu)
  unfold fX11_undo_0 fX12_undo fX4_size
  rw [Option.bind_some, if_pos rfl, if_pos (show MV 3 = 0 from hu2)]
  exact ⟨_, _, rfl, rfl, rfl, ⟨m, d, e, fl, ew, q, P, t, n, hS, ⟨c1, c2, c3, c4, c5, c6, c7, c8, c9⟩, hF, hT1, hT2, hFa, ⟨ni, W, F, hX, hV, hG⟩, hCut⟩, ⟨0, hu4, rfl, hu2, ⟨fun _ => 0, fun _ _ => 0, fun k hk => absurd hk (Nat.not_lt_zero k)⟩⟩, ImsR_k (V := V) (GI := GI) (GL := GL) (MG := MG) (fun i h1 => by first | rfl | (repeat rw [sI_ne (by omega)])) (fun i h1 => by first | rfl | (repeat rw [sG_ne (by omega)])) (fun i h1 => by first | rfl | (repeat rw [sL_ne (by omega)])) rfl (fun _ _ => rfl) hM, h6⟩
theorem Lw_undo_1 {N : Nat} {V : Nat → Int32} {GI : Nat → Nat → Int32} {GL : Nat → Nat → Int64} {pres : Nat → Bool} {MV : Nat → Int32} {MG : Nat → Nat → Int32} {A : Nat → Nat} (hN : 1000 ≤ N) (hI : Inv V GI GL pres MV MG) (hu : V 7 = nI 1) : ∃ res resM, fX11_undo_1 N (V 0) (V 2) (GL 0) (V 3) (GL 1) (V 8) (GL 2) (V 16) (GL 7) (V 17) (GL 8) (A 5) (A 33) (A 34) (A 6) (A 35) (A 36) = some res ∧ fX12_undo N (MV 3) (MG 0) = some resM ∧ res.1 = resM.1 ∧ Inv (sI (sI (sI (sI (sI (sI V 0 res.2.1) 2 res.2.2.1) 3 res.2.2.2.2.1) 7 res.2.2.2.2.2.2.1) 16 res.2.2.2.2.2.2.2.1) 17 res.2.2.2.2.2.2.2.2.2.1) GI (sL (sL (sL (sL GL 0 res.2.2.2.1) 1 res.2.2.2.2.2.1) 7 res.2.2.2.2.2.2.2.2.1) 8 res.2.2.2.2.2.2.2.2.2.2.1) pres (sI MV 3 resM.2.1) (sG MG 0 resM.2.2) := by
  have hI' := hI
  obtain ⟨⟨m, d, e, fl, ew, q, P, t, n, hS, ⟨c1, c2, c3, c4, c5, c6, c7, c8, c9⟩, hF, hT1, hT2, hFa, ⟨ni, W, F, hX, hV, hG⟩, hCut⟩, ⟨u, hu4, hu1, hu2, hU⟩, hM, h6⟩ := hI
  obtain ⟨hD, he, hB, hq, hn⟩ := hS
  have h12 := hq.2.1
  have hP := hF.PA
  obtain rfl : u = 1 := (nI_eq (by omega) (by decide)).mp (hu1.symm.trans hu)
  obtain ⟨mm, dd, ha⟩ := hU
  obtain ⟨b1, b2, b3, b4⟩ := ha 0 (by omega)
  change V 8 = _ at b2
  change Ris (GL 2) _ _ at b3
  obtain ⟨gd, gc, n', W', F', G', s1, s2, s3, s4, s5⟩ := e11_setDictionary (v1 := V 0) (v2 := V 2) (v3 := V 3) (v4 := V 16) (v5 := V 17) (g2 := GL 0) (g3 := GL 1) (g4 := GL 7) (g5 := GL 8) (a1 := A 5) (a2 := A 33) (a3 := A 34) (a4 := A 6) (a5 := A 35) (a6 := A 36) hN b1 b3
  obtain ⟨f', a1, a2, a3, a4⟩ := e12_undo (u := 0) hN (by omega) b1 b4
  unfold fX11_undo_1 fX4_takeLatest_1 fX4_size
  rw [Option.bind_some, if_neg (by decide), Option.bind_some, b2, s1, Option.bind_some, Option.bind_some, hu2, show fX12_undo N (nI 1) (MG 0) = _ from a1]
  refine ⟨_, _, rfl, rfl, rfl, ⟨mm 0, dd 0, 0, fl, ew, q, P, t, n, ⟨b1, Nat.zero_le _, fun k hk => absurd hk (Nat.not_lt_zero k), hq, hn⟩, ⟨rfl, c2, c3, rfl, s2, rfl, s3, c8, c9⟩, ?_, hT1, hT2, hFa, ⟨n', W', F', s4, rfl, s5⟩, hCut⟩, ⟨0, by omega, rfl, rfl, UnR_k (V := V) (GL := GL) (f := MG 0) (by omega) (fun i h1 h2 => by first | rfl | (repeat rw [sI_ne (by omega)])) (fun i h1 h2 => by first | rfl | (repeat rw [sL_ne (by omega)])) (fun j h1 _ => a4 j (by omega)) ⟨mm, dd, fun k hk => ha k (by omega)⟩⟩, ImsR_k (V := V) (GI := GI) (GL := GL) (MG := MG) (fun i h1 => by first | rfl | (repeat rw [sI_ne (by omega)])) (fun i h1 => by first | rfl | (repeat rw [sG_ne (by omega)])) (fun i h1 => by first | rfl | (repeat rw [sL_ne (by omega)])) rfl (fun j hj => a4 j (by omega)) hM, h6⟩
  show StF f' 0 (mm 0) (dd 0) 0 fl ew q P
  exact EA.St a2 ⟨a3, fun k hk => absurd hk (Nat.not_lt_zero k)⟩ ⟨by rw [a4 430 (by omega)]; exact hP.1, fun i hi => by rw [a4 _ (by omega)]; exact hP.2 i hi⟩
theorem Lw_undo_2 {N : Nat} {V : Nat → Int32} {GI : Nat → Nat → Int32} {GL : Nat → Nat → Int64} {pres : Nat → Bool} {MV : Nat → Int32} {MG : Nat → Nat → Int32} {A : Nat → Nat} (hN : 1000 ≤ N) (hI : Inv V GI GL pres MV MG) (hu : V 7 = nI 2) : ∃ res resM, fX11_undo_2 N (V 0) (V 2) (GL 0) (V 3) (GL 1) (V 9) (GL 3) (V 16) (GL 7) (V 17) (GL 8) (A 5) (A 33) (A 34) (A 6) (A 35) (A 36) = some res ∧ fX12_undo N (MV 3) (MG 0) = some resM ∧ res.1 = resM.1 ∧ Inv (sI (sI (sI (sI (sI (sI V 0 res.2.1) 2 res.2.2.1) 3 res.2.2.2.2.1) 7 res.2.2.2.2.2.2.1) 16 res.2.2.2.2.2.2.2.1) 17 res.2.2.2.2.2.2.2.2.2.1) GI (sL (sL (sL (sL GL 0 res.2.2.2.1) 1 res.2.2.2.2.2.1) 7 res.2.2.2.2.2.2.2.2.1) 8 res.2.2.2.2.2.2.2.2.2.2.1) pres (sI MV 3 resM.2.1) (sG MG 0 resM.2.2) := by
  have hI' := hI
  obtain ⟨⟨m, d, e, fl, ew, q, P, t, n, hS, ⟨c1, c2, c3, c4, c5, c6, c7, c8, c9⟩, hF, hT1, hT2, hFa, ⟨ni, W, F, hX, hV, hG⟩, hCut⟩, ⟨u, hu4, hu1, hu2, hU⟩, hM, h6⟩ := hI
  obtain ⟨hD, he, hB, hq, hn⟩ := hS
  have h12 := hq.2.1
  have hP := hF.PA
  obtain rfl : u = 2 := (nI_eq (by omega) (by decide)).mp (hu1.symm.trans hu)
  obtain ⟨mm, dd, ha⟩ := hU
  obtain ⟨b1, b2, b3, b4⟩ := ha 1 (by omega)
  change V 9 = _ at b2
  change Ris (GL 3) _ _ at b3
  obtain ⟨gd, gc, n', W', F', G', s1, s2, s3, s4, s5⟩ := e11_setDictionary (v1 := V 0) (v2 := V 2) (v3 := V 3) (v4 := V 16) (v5 := V 17) (g2 := GL 0) (g3 := GL 1) (g4 := GL 7) (g5 := GL 8) (a1 := A 5) (a2 := A 33) (a3 := A 34) (a4 := A 6) (a5 := A 35) (a6 := A 36) hN b1 b3
  obtain ⟨f', a1, a2, a3, a4⟩ := e12_undo (u := 1) hN (by omega) b1 b4
  unfold fX11_undo_2 fX4_takeLatest_2 fX4_size
  rw [Option.bind_some, if_neg (by decide), Option.bind_some, b2, s1, Option.bind_some, Option.bind_some, hu2, show fX12_undo N (nI 2) (MG 0) = _ from a1]
  refine ⟨_, _, rfl, rfl, rfl, ⟨mm 1, dd 1, 0, fl, ew, q, P, t, n, ⟨b1, Nat.zero_le _, fun k hk => absurd hk (Nat.not_lt_zero k), hq, hn⟩, ⟨rfl, c2, c3, rfl, s2, rfl, s3, c8, c9⟩, ?_, hT1, hT2, hFa, ⟨n', W', F', s4, rfl, s5⟩, hCut⟩, ⟨1, by omega, rfl, rfl, UnR_k (V := V) (GL := GL) (f := MG 0) (by omega) (fun i h1 h2 => by first | rfl | (repeat rw [sI_ne (by omega)])) (fun i h1 h2 => by first | rfl | (repeat rw [sL_ne (by omega)])) (fun j h1 _ => a4 j (by omega)) ⟨mm, dd, fun k hk => ha k (by omega)⟩⟩, ImsR_k (V := V) (GI := GI) (GL := GL) (MG := MG) (fun i h1 => by first | rfl | (repeat rw [sI_ne (by omega)])) (fun i h1 => by first | rfl | (repeat rw [sG_ne (by omega)])) (fun i h1 => by first | rfl | (repeat rw [sL_ne (by omega)])) rfl (fun j hj => a4 j (by omega)) hM, h6⟩
  show StF f' 0 (mm 1) (dd 1) 0 fl ew q P
  exact EA.St a2 ⟨a3, fun k hk => absurd hk (Nat.not_lt_zero k)⟩ ⟨by rw [a4 430 (by omega)]; exact hP.1, fun i hi => by rw [a4 _ (by omega)]; exact hP.2 i hi⟩
theorem Lw_undo_3 {N : Nat} {V : Nat → Int32} {GI : Nat → Nat → Int32} {GL : Nat → Nat → Int64} {pres : Nat → Bool} {MV : Nat → Int32} {MG : Nat → Nat → Int32} {A : Nat → Nat} (hN : 1000 ≤ N) (hI : Inv V GI GL pres MV MG) (hu : V 7 = nI 3) : ∃ res resM, fX11_undo_3 N (V 0) (V 2) (GL 0) (V 3) (GL 1) (V 10) (GL 4) (V 16) (GL 7) (V 17) (GL 8) (A 5) (A 33) (A 34) (A 6) (A 35) (A 36) = some res ∧ fX12_undo N (MV 3) (MG 0) = some resM ∧ res.1 = resM.1 ∧ Inv (sI (sI (sI (sI (sI (sI V 0 res.2.1) 2 res.2.2.1) 3 res.2.2.2.2.1) 7 res.2.2.2.2.2.2.1) 16 res.2.2.2.2.2.2.2.1) 17 res.2.2.2.2.2.2.2.2.2.1) GI (sL (sL (sL (sL GL 0 res.2.2.2.1) 1 res.2.2.2.2.2.1) 7 res.2.2.2.2.2.2.2.2.1) 8 res.2.2.2.2.2.2.2.2.2.2.1) pres (sI MV 3 resM.2.1) (sG MG 0 resM.2.2) := by
  have hI' := hI
  obtain ⟨⟨m, d, e, fl, ew, q, P, t, n, hS, ⟨c1, c2, c3, c4, c5, c6, c7, c8, c9⟩, hF, hT1, hT2, hFa, ⟨ni, W, F, hX, hV, hG⟩, hCut⟩, ⟨u, hu4, hu1, hu2, hU⟩, hM, h6⟩ := hI
  obtain ⟨hD, he, hB, hq, hn⟩ := hS
  have h12 := hq.2.1
  have hP := hF.PA
  obtain rfl : u = 3 := (nI_eq (by omega) (by decide)).mp (hu1.symm.trans hu)
  obtain ⟨mm, dd, ha⟩ := hU
  obtain ⟨b1, b2, b3, b4⟩ := ha 2 (by omega)
  change V 10 = _ at b2
  change Ris (GL 4) _ _ at b3
  obtain ⟨gd, gc, n', W', F', G', s1, s2, s3, s4, s5⟩ := e11_setDictionary (v1 := V 0) (v2 := V 2) (v3 := V 3) (v4 := V 16) (v5 := V 17) (g2 := GL 0) (g3 := GL 1) (g4 := GL 7) (g5 := GL 8) (a1 := A 5) (a2 := A 33) (a3 := A 34) (a4 := A 6) (a5 := A 35) (a6 := A 36) hN b1 b3
  obtain ⟨f', a1, a2, a3, a4⟩ := e12_undo (u := 2) hN (by omega) b1 b4
  unfold fX11_undo_3 fX4_takeLatest_3 fX4_size
  rw [Option.bind_some, if_neg (by decide), Option.bind_some, b2, s1, Option.bind_some, Option.bind_some, hu2, show fX12_undo N (nI 3) (MG 0) = _ from a1]
  refine ⟨_, _, rfl, rfl, rfl, ⟨mm 2, dd 2, 0, fl, ew, q, P, t, n, ⟨b1, Nat.zero_le _, fun k hk => absurd hk (Nat.not_lt_zero k), hq, hn⟩, ⟨rfl, c2, c3, rfl, s2, rfl, s3, c8, c9⟩, ?_, hT1, hT2, hFa, ⟨n', W', F', s4, rfl, s5⟩, hCut⟩, ⟨2, by omega, rfl, rfl, UnR_k (V := V) (GL := GL) (f := MG 0) (by omega) (fun i h1 h2 => by first | rfl | (repeat rw [sI_ne (by omega)])) (fun i h1 h2 => by first | rfl | (repeat rw [sL_ne (by omega)])) (fun j h1 _ => a4 j (by omega)) ⟨mm, dd, fun k hk => ha k (by omega)⟩⟩, ImsR_k (V := V) (GI := GI) (GL := GL) (MG := MG) (fun i h1 => by first | rfl | (repeat rw [sI_ne (by omega)])) (fun i h1 => by first | rfl | (repeat rw [sG_ne (by omega)])) (fun i h1 => by first | rfl | (repeat rw [sL_ne (by omega)])) rfl (fun j hj => a4 j (by omega)) hM, h6⟩
  show StF f' 0 (mm 2) (dd 2) 0 fl ew q P
  exact EA.St a2 ⟨a3, fun k hk => absurd hk (Nat.not_lt_zero k)⟩ ⟨by rw [a4 430 (by omega)]; exact hP.1, fun i hi => by rw [a4 _ (by omega)]; exact hP.2 i hi⟩
theorem Lw_undo_4 {N : Nat} {V : Nat → Int32} {GI : Nat → Nat → Int32} {GL : Nat → Nat → Int64} {pres : Nat → Bool} {MV : Nat → Int32} {MG : Nat → Nat → Int32} {A : Nat → Nat} (hN : 1000 ≤ N) (hI : Inv V GI GL pres MV MG) (hu : V 7 = nI 4) : ∃ res resM, fX11_undo_4 N (V 0) (V 2) (GL 0) (V 3) (GL 1) (V 11) (GL 5) (V 16) (GL 7) (V 17) (GL 8) (A 5) (A 33) (A 34) (A 6) (A 35) (A 36) = some res ∧ fX12_undo N (MV 3) (MG 0) = some resM ∧ res.1 = resM.1 ∧ Inv (sI (sI (sI (sI (sI (sI V 0 res.2.1) 2 res.2.2.1) 3 res.2.2.2.2.1) 7 res.2.2.2.2.2.2.1) 16 res.2.2.2.2.2.2.2.1) 17 res.2.2.2.2.2.2.2.2.2.1) GI (sL (sL (sL (sL GL 0 res.2.2.2.1) 1 res.2.2.2.2.2.1) 7 res.2.2.2.2.2.2.2.2.1) 8 res.2.2.2.2.2.2.2.2.2.2.1) pres (sI MV 3 resM.2.1) (sG MG 0 resM.2.2) := by
  have hI' := hI
  obtain ⟨⟨m, d, e, fl, ew, q, P, t, n, hS, ⟨c1, c2, c3, c4, c5, c6, c7, c8, c9⟩, hF, hT1, hT2, hFa, ⟨ni, W, F, hX, hV, hG⟩, hCut⟩, ⟨u, hu4, hu1, hu2, hU⟩, hM, h6⟩ := hI
  obtain ⟨hD, he, hB, hq, hn⟩ := hS
  have h12 := hq.2.1
  have hP := hF.PA
  obtain rfl : u = 4 := (nI_eq (by omega) (by decide)).mp (hu1.symm.trans hu)
  obtain ⟨mm, dd, ha⟩ := hU
  obtain ⟨b1, b2, b3, b4⟩ := ha 3 (by omega)
  change V 11 = _ at b2
  change Ris (GL 5) _ _ at b3
  obtain ⟨gd, gc, n', W', F', G', s1, s2, s3, s4, s5⟩ := e11_setDictionary (v1 := V 0) (v2 := V 2) (v3 := V 3) (v4 := V 16) (v5 := V 17) (g2 := GL 0) (g3 := GL 1) (g4 := GL 7) (g5 := GL 8) (a1 := A 5) (a2 := A 33) (a3 := A 34) (a4 := A 6) (a5 := A 35) (a6 := A 36) hN b1 b3
  obtain ⟨f', a1, a2, a3, a4⟩ := e12_undo (u := 3) hN (by omega) b1 b4
  unfold fX11_undo_4 fX4_takeLatest_4 fX4_size
  rw [Option.bind_some, if_neg (by decide), Option.bind_some, b2, s1, Option.bind_some, Option.bind_some, hu2, show fX12_undo N (nI 4) (MG 0) = _ from a1]
  refine ⟨_, _, rfl, rfl, rfl, ⟨mm 3, dd 3, 0, fl, ew, q, P, t, n, ⟨b1, Nat.zero_le _, fun k hk => absurd hk (Nat.not_lt_zero k), hq, hn⟩, ⟨rfl, c2, c3, rfl, s2, rfl, s3, c8, c9⟩, ?_, hT1, hT2, hFa, ⟨n', W', F', s4, rfl, s5⟩, hCut⟩, ⟨3, by omega, rfl, rfl, UnR_k (V := V) (GL := GL) (f := MG 0) (by omega) (fun i h1 h2 => by first | rfl | (repeat rw [sI_ne (by omega)])) (fun i h1 h2 => by first | rfl | (repeat rw [sL_ne (by omega)])) (fun j h1 _ => a4 j (by omega)) ⟨mm, dd, fun k hk => ha k (by omega)⟩⟩, ImsR_k (V := V) (GI := GI) (GL := GL) (MG := MG) (fun i h1 => by first | rfl | (repeat rw [sI_ne (by omega)])) (fun i h1 => by first | rfl | (repeat rw [sG_ne (by omega)])) (fun i h1 => by first | rfl | (repeat rw [sL_ne (by omega)])) rfl (fun j hj => a4 j (by omega)) hM, h6⟩
  show StF f' 0 (mm 3) (dd 3) 0 fl ew q P
  exact EA.St a2 ⟨a3, fun k hk => absurd hk (Nat.not_lt_zero k)⟩ ⟨by rw [a4 430 (by omega)]; exact hP.1, fun i hi => by rw [a4 _ (by omega)]; exact hP.2 i hi⟩
