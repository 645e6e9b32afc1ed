set_option maxHeartbeats 4000000 in
set_option maxRecDepth 100000 in
theorem lc_word_0 {p : Program} {l : Launch} {e : Env} {s : State} {m : MethodId} {below : List Frame} {meth : Method} {c : Code} {D : zG} {b L : Nat} {xs : Nat → Int32} {xi : Int32} {A B : Nat → Nat} {V : Nat → Int32} {GI : Nat → Nat → Int32} {GL : Nat → Nat → Int64} {pres : Nat → Bool} {MV : Nat → Int32} {MG : Nat → Nat → Int32} {H : Heap} {locs : List Loc} {cells slots : Nat} {Q : State → Prop} {ls : Array Slot} (C0 : lw_At p s m meth c b L xs) (hK : zK D s) (hcs : cells ≤ 500000 ∧ slots ≤ 7000000) (hj1 : vp_in (xi + 1) L) (hj2 : vp_in (xi + 2) L) (hj3 : vp_in (xi + 3) L) (hj4 : vp_in (xi + 4) L) (hj5 : vp_in (xi + 5) L) (hl : lv_has ls 4 [(0, .ref b), (1, .ref (A 0)), (2, .ref (B 0)), (3, .int xi)]) (hI : Inv V GI GL pres MV MG) (hJ : zJ D (fun q : Nat => s.heap.size ≤ q) (wl D A B V GI GL pres MV MG) H) (hS : va_S (fun q : Nat => s.heap.size ≤ q) s.heap H locs) (hp2 : (xs (xi + 2).toNatClampNeg) = 0) (kk : ∀ (A' : Nat → Nat) (V' : Nat → Int32) (GI' : Nat → Nat → Int32) (GL' : Nat → Nat → Int64) (pres' : Nat → Bool) (MV' : Nat → Int32) (MG' : Nat → Nat → Int32) (H' : Heap) (locs' : List Loc), A' 0 = A 0 → Inv V' GI' GL' pres' MV' MG' → zJ D (fun q : Nat => s.heap.size ≤ q) (wl D A' B V' GI' GL' pres' MV' MG') H' → va_S (fun q : Nat => s.heap.size ≤ q) s.heap H' locs' → W p l e room_1 s m #[Value.ref b] below meth c H' locs' (cells + 20) (slots + 1000) Q (F0 m 833 ls [])) : W p l e room_1 s m #[Value.ref b] below meth c H locs cells slots Q (F0 m 376 ls []) := by
  obtain ⟨hx, hb, hr, hml, hown, hts0, hX, hbl, hlocks, hgv⟩ := C0
  have hts : ∀ w ∈ wsL_law, w.before #[Value.ref b] s = true := fun w h => hts0 w (wsL_law_in w h)
  have hA : ∀ q : Nat, s.heap.size ≤ q → (fun q : Nat => s.heap.size ≤ q) q := fun _ h => h
  have hbA : ¬ (fun q : Nat => s.heap.size ≤ q) b := Nat.not_le.mpr hbl
  obtain ⟨res, resM, hf, hfM, he, hI⟩ := Lw_word_0 (N := 1000) (xs (xi + 1).toNatClampNeg) (xs (xi + 3).toNatClampNeg) (Nat.le_refl _) hI
  refine lv_aload_n hx hb dL_law_376 rfl (lv_at hl 1 rfl) ?_
  refine lv_aload_n hx hb dL_law_377 rfl (lv_at hl 0 rfl) ?_
  refine lv_iload_n hx hb dL_law_378 rfl (lv_at hl 3 rfl) ?_
  refine lv_iconst (v := 1) hx hb dL_law_379 (by decide) ?_
  refine lv_iadd hx hb dL_law_380 ?_
  refine va_sld hx hb hX hbl hbA hS hj1 dL_law_381 ?_
  refine lv_aload_n hx hb dL_law_382 rfl (lv_at hl 0 rfl) ?_
  refine lv_iload_n hx hb dL_law_383 rfl (lv_at hl 3 rfl) ?_
  refine lv_iconst (v := 2) hx hb dL_law_384 (by decide) ?_
  refine lv_iadd hx hb dL_law_385 ?_
  refine va_sld hx hb hX hbl hbA hS hj2 dL_law_386 ?_
  refine lv_if_eq (tgt := 394) hx hb dL_law_387 (by decide) (fun _ => ?_) (fun c_ => absurd hp2 c_)
  refine lv_iconst (v := 0) hx hb dL_law_394 (by decide) ?_
  refine lv_aload_n hx hb dL_law_395 rfl (lv_at hl 0 rfl) ?_
  refine lv_iload_n hx hb dL_law_396 rfl (lv_at hl 3 rfl) ?_
  refine lv_iconst (v := 3) hx hb dL_law_397 (by decide) ?_
  refine lv_iadd hx hb dL_law_398 ?_
  refine va_sld hx hb hX hbl hbA hS hj3 dL_law_399 ?_
  refine zTi (As := [.int (xs (xi + 1).toNatClampNeg), .int (0 : Int32), .int (xs (xi + 3).toNatClampNeg)]) (rest := []) (ci := 8) (q0 := 0) (RV := res) (X := cX D A V GI GL (oI (pres 0) (A 40)) (oI (pres 1) (A 50)) (oI (pres 2) (A 60))) (pl := cM D B MV MG ++ (cT (pres 0) (cI0 D A V GI GL) ++ (cT (pres 1) (cI1 D A V GI GL) ++ cT (pres 2) (cI2 D A V GI GL)))) (wn := fun _ => cX D A V GI GL (oI (pres 0) (A 40)) (oI (pres 1) (A 50)) (oI (pres 2) (A 60))) ⟨hx, hb, hml, hown, hts⟩ (mX11_word_0 l D (A 0) (A 1) (A 2) (A 3) (A 4) (A 5) (A 6) (A 7) (A 8) (A 9) (A 10) (A 11) (A 12) (A 13) (A 14) (A 16) (A 18) H.size (V 0) (V 2) (GL 0) (V 4) (GI 1) (xs (xi + 1).toNatClampNeg) (xs (xi + 3).toNatClampNeg) 1000 res hf) (fun _ _ h => h) (cwV 3 hts gL_law_X11_word rfl rfl rfl (by decide +kernel) ⟨Nat.le_of_ble_eq_true rfl, Nat.le_of_ble_eq_true rfl⟩) hK hJ hS hA [0, 1, 4, 5, 8, 9] [2, 3, 6, 7, 10, 11, 12, 13, 14, 15, 16, 17, 18, 19, 20, 21, 22, 23, 24, 25, 26, 27, 28, 29, 30, 31, 32, 33, 34, 35, 36, 37, 38] [33, 34, 0, 1, 35, 36, 2, 3, 37, 38, 4, 5, 6, 7, 8, 9, 10, 11, 12, 13, 14, 15, 16, 17, 18, 19, 20, 21, 22, 23, 24, 25, 26, 27, 28, 29, 30, 31, 32] rfl (by decide +kernel) rfl (by decide +kernel) (by decide +kernel) (fun _ => rfl) (by decide +kernel) rfl rfl rfl hl.1 rfl (Nat.le_of_ble_eq_true rfl) dL_law_400 ⟨by show _ ≤ 600000; omega, by show _ ≤ 7302250; omega⟩ (fun _ H locs hJ hS => ?_)
  refine lv_aload_n hx hb dL_law_403 rfl (lv_at hl 2 rfl) ?_
  refine lv_aload_n hx hb dL_law_404 rfl (lv_at hl 0 rfl) ?_
  refine lv_iload_n hx hb dL_law_405 rfl (lv_at hl 3 rfl) ?_
  refine lv_iconst (v := 1) hx hb dL_law_406 (by decide) ?_
  refine lv_iadd hx hb dL_law_407 ?_
  refine va_sld hx hb hX hbl hbA hS hj1 dL_law_408 ?_
  refine lv_aload_n hx hb dL_law_409 rfl (lv_at hl 0 rfl) ?_
  refine lv_iload_n hx hb dL_law_410 rfl (lv_at hl 3 rfl) ?_
  refine lv_iconst (v := 2) hx hb dL_law_411 (by decide) ?_
  refine lv_iadd hx hb dL_law_412 ?_
  refine va_sld hx hb hX hbl hbA hS hj2 dL_law_413 ?_
  refine lv_if_eq (tgt := 421) hx hb dL_law_414 (by decide) (fun _ => ?_) (fun c_ => absurd hp2 c_)
  refine lv_iconst (v := 0) hx hb dL_law_421 (by decide) ?_
  refine lv_aload_n hx hb dL_law_422 rfl (lv_at hl 0 rfl) ?_
  refine lv_iload_n hx hb dL_law_423 rfl (lv_at hl 3 rfl) ?_
  refine lv_iconst (v := 3) hx hb dL_law_424 (by decide) ?_
  refine lv_iadd hx hb dL_law_425 ?_
  refine va_sld hx hb hX hbl hbA hS hj3 dL_law_426 ?_
  have hJ := zsw0 hJ
  refine zTi (As := [.int (xs (xi + 1).toNatClampNeg), .int (0 : Int32), .int (xs (xi + 3).toNatClampNeg)]) (rest := [.int res]) (ci := 9) (q0 := 0) (RV := resM.1) (X := cM D B MV MG) (pl := (cX D A V GI GL (oI (pres 0) (A 40)) (oI (pres 1) (A 50)) (oI (pres 2) (A 60))) ++ (cT (pres 0) (cI0 D A V GI GL) ++ (cT (pres 1) (cI1 D A V GI GL) ++ cT (pres 2) (cI2 D A V GI GL)))) (wn := fun _ => cM D B MV (sG MG 0 resM.2)) ⟨hx, hb, hml, hown, hts⟩ (mX12_word l D (B 0) (B 1) (B 2) (B 3) (B 4) (B 5) (B 6) (B 7) (B 8) (B 9) (B 10) (B 11) (B 12) H.size (MV 0) (MV 1) (MV 2) (MV 3) (MV 4) (MV 5) (MV 6) (MV 7) (MG 0) (xs (xi + 1).toNatClampNeg) (0 : Int32) (xs (xi + 3).toNatClampNeg) 1000 resM hfM) (fun _ _ h => h) (cwV 3 hts gL_law_X12_word rfl rfl rfl (by decide +kernel) ⟨Nat.le_of_ble_eq_true rfl, Nat.le_of_ble_eq_true rfl⟩) hK hJ hS hA [0, 1] [2, 3, 4, 5, 6, 7, 8, 9, 10, 11, 12] [11, 12, 0, 1, 2, 3, 4, 5, 6, 7, 8, 9, 10] rfl (by decide +kernel) rfl (by decide +kernel) (by decide +kernel) (fun _ => rfl) (by decide +kernel) rfl rfl rfl hl.1 rfl (Nat.le_of_ble_eq_true rfl) dL_law_427 ⟨by show _ ≤ 600000; omega, by show _ ≤ 7302250; omega⟩ (fun _ H locs hJ hS => ?_)
  have hJ := zsw0 hJ
  refine lv_icmp_eq (tgt := 833) hx hb dL_law_430 (by decide) (fun _ => ?_) (fun c_ => absurd he c_)
  refine W.widen (k := cells + 20) (n := slots + 1000) (by omega) (by omega) ?_
  exact kk A V GI GL pres MV (sG MG 0 resM.2) H locs rfl hI hJ hS
set_option maxHeartbeats 4000000 in
set_option maxRecDepth 100000 in
theorem lc_word_1 {p : Program} {l : Launch} {e : Env} {s : State} {m : MethodId} {below : List Frame} {meth : Method} {c : Code} {D : zG} {b L : Nat} {xs : Nat → Int32} {xi : Int32} {A B : Nat → Nat} {V : Nat → Int32} {GI : Nat → Nat → Int32} {GL : Nat → Nat → Int64} {pres : Nat → Bool} {MV : Nat → Int32} {MG : Nat → Nat → Int32} {H : Heap} {locs : List Loc} {cells slots : Nat} {Q : State → Prop} {ls : Array Slot} (C0 : lw_At p s m meth c b L xs) (hK : zK D s) (hcs : cells ≤ 500000 ∧ slots ≤ 7000000) (hj1 : vp_in (xi + 1) L) (hj2 : vp_in (xi + 2) L) (hj3 : vp_in (xi + 3) L) (hj4 : vp_in (xi + 4) L) (hj5 : vp_in (xi + 5) L) (hl : lv_has ls 4 [(0, .ref b), (1, .ref (A 0)), (2, .ref (B 0)), (3, .int xi)]) (hI : Inv V GI GL pres MV MG) (hJ : zJ D (fun q : Nat => s.heap.size ≤ q) (wl D A B V GI GL pres MV MG) H) (hS : va_S (fun q : Nat => s.heap.size ≤ q) s.heap H locs) (hp2 : ¬ (xs (xi + 2).toNatClampNeg) = 0) (kk : ∀ (A' : Nat → Nat) (V' : Nat → Int32) (GI' : Nat → Nat → Int32) (GL' : Nat → Nat → Int64) (pres' : Nat → Bool) (MV' : Nat → Int32) (MG' : Nat → Nat → Int32) (H' : Heap) (locs' : List Loc), A' 0 = A 0 → Inv V' GI' GL' pres' MV' MG' → zJ D (fun q : Nat => s.heap.size ≤ q) (wl D A' B V' GI' GL' pres' MV' MG') H' → va_S (fun q : Nat => s.heap.size ≤ q) s.heap H' locs' → W p l e room_1 s m #[Value.ref b] below meth c H' locs' (cells + 20) (slots + 1000) Q (F0 m 833 ls [])) : W p l e room_1 s m #[Value.ref b] below meth c H locs cells slots Q (F0 m 376 ls []) := by
  obtain ⟨hx, hb, hr, hml, hown, hts0, hX, hbl, hlocks, hgv⟩ := C0
  have hts : ∀ w ∈ wsL_law, w.before #[Value.ref b] s = true := fun w h => hts0 w (wsL_law_in w h)
  have hA : ∀ q : Nat, s.heap.size ≤ q → (fun q : Nat => s.heap.size ≤ q) q := fun _ h => h
  have hbA : ¬ (fun q : Nat => s.heap.size ≤ q) b := Nat.not_le.mpr hbl
  obtain ⟨res, resM, hf, hfM, he, hI⟩ := Lw_word_1 (N := 1000) (xs (xi + 1).toNatClampNeg) (xs (xi + 3).toNatClampNeg) (Nat.le_refl _) hI
  refine lv_aload_n hx hb dL_law_376 rfl (lv_at hl 1 rfl) ?_
  refine lv_aload_n hx hb dL_law_377 rfl (lv_at hl 0 rfl) ?_
  refine lv_iload_n hx hb dL_law_378 rfl (lv_at hl 3 rfl) ?_
  refine lv_iconst (v := 1) hx hb dL_law_379 (by decide) ?_
  refine lv_iadd hx hb dL_law_380 ?_
  refine va_sld hx hb hX hbl hbA hS hj1 dL_law_381 ?_
  refine lv_aload_n hx hb dL_law_382 rfl (lv_at hl 0 rfl) ?_
  refine lv_iload_n hx hb dL_law_383 rfl (lv_at hl 3 rfl) ?_
  refine lv_iconst (v := 2) hx hb dL_law_384 (by decide) ?_
  refine lv_iadd hx hb dL_law_385 ?_
  refine va_sld hx hb hX hbl hbA hS hj2 dL_law_386 ?_
  refine lv_if_eq (tgt := 394) hx hb dL_law_387 (by decide) (fun c_ => absurd c_ hp2) (fun _ => ?_)
  refine lv_iconst (v := 1) hx hb dL_law_390 (by decide) ?_
  refine lv_goto (tgt := 395) hx hb dL_law_391 (by decide) ?_
  refine lv_aload_n hx hb dL_law_395 rfl (lv_at hl 0 rfl) ?_
  refine lv_iload_n hx hb dL_law_396 rfl (lv_at hl 3 rfl) ?_
  refine lv_iconst (v := 3) hx hb dL_law_397 (by decide) ?_
  refine lv_iadd hx hb dL_law_398 ?_
  refine va_sld hx hb hX hbl hbA hS hj3 dL_law_399 ?_
  refine zTi (As := [.int (xs (xi + 1).toNatClampNeg), .int (1 : Int32), .int (xs (xi + 3).toNatClampNeg)]) (rest := []) (ci := 8) (q0 := 0) (RV := res) (X := cX D A V GI GL (oI (pres 0) (A 40)) (oI (pres 1) (A 50)) (oI (pres 2) (A 60))) (pl := cM D B MV MG ++ (cT (pres 0) (cI0 D A V GI GL) ++ (cT (pres 1) (cI1 D A V GI GL) ++ cT (pres 2) (cI2 D A V GI GL)))) (wn := fun _ => cX D A V GI GL (oI (pres 0) (A 40)) (oI (pres 1) (A 50)) (oI (pres 2) (A 60))) ⟨hx, hb, hml, hown, hts⟩ (mX11_word_1 l D (A 0) (A 1) (A 2) (A 3) (A 4) (A 5) (A 6) (A 7) (A 8) (A 9) (A 10) (A 11) (A 12) (A 13) (A 14) (A 17) (A 18) H.size (V 0) (V 3) (GL 1) (V 4) (GI 1) (xs (xi + 1).toNatClampNeg) (xs (xi + 3).toNatClampNeg) 1000 res hf) (fun _ _ h => h) (cwV 3 hts gL_law_X11_word rfl rfl rfl (by decide +kernel) ⟨Nat.le_of_ble_eq_true rfl, Nat.le_of_ble_eq_true rfl⟩) hK hJ hS hA [0, 1, 6, 7, 8, 9] [2, 3, 4, 5, 10, 11, 12, 13, 14, 15, 16, 17, 18, 19, 20, 21, 22, 23, 24, 25, 26, 27, 28, 29, 30, 31, 32, 33, 34, 35, 36, 37, 38] [33, 34, 0, 1, 2, 3, 35, 36, 37, 38, 4, 5, 6, 7, 8, 9, 10, 11, 12, 13, 14, 15, 16, 17, 18, 19, 20, 21, 22, 23, 24, 25, 26, 27, 28, 29, 30, 31, 32] rfl (by decide +kernel) rfl (by decide +kernel) (by decide +kernel) (fun _ => rfl) (by decide +kernel) rfl rfl rfl hl.1 rfl (Nat.le_of_ble_eq_true rfl) dL_law_400 ⟨by show _ ≤ 600000; omega, by show _ ≤ 7302250; omega⟩ (fun _ H locs hJ hS => ?_)
  refine lv_aload_n hx hb dL_law_403 rfl (lv_at hl 2 rfl) ?_
  refine lv_aload_n hx hb dL_law_404 rfl (lv_at hl 0 rfl) ?_
  refine lv_iload_n hx hb dL_law_405 rfl (lv_at hl 3 rfl) ?_
  refine lv_iconst (v := 1) hx hb dL_law_406 (by decide) ?_
  refine lv_iadd hx hb dL_law_407 ?_
  refine va_sld hx hb hX hbl hbA hS hj1 dL_law_408 ?_
  refine lv_aload_n hx hb dL_law_409 rfl (lv_at hl 0 rfl) ?_
  refine lv_iload_n hx hb dL_law_410 rfl (lv_at hl 3 rfl) ?_
  refine lv_iconst (v := 2) hx hb dL_law_411 (by decide) ?_
  refine lv_iadd hx hb dL_law_412 ?_
  refine va_sld hx hb hX hbl hbA hS hj2 dL_law_413 ?_
  refine lv_if_eq (tgt := 421) hx hb dL_law_414 (by decide) (fun c_ => absurd c_ hp2) (fun _ => ?_)
  refine lv_iconst (v := 1) hx hb dL_law_417 (by decide) ?_
  refine lv_goto (tgt := 422) hx hb dL_law_418 (by decide) ?_
  refine lv_aload_n hx hb dL_law_422 rfl (lv_at hl 0 rfl) ?_
  refine lv_iload_n hx hb dL_law_423 rfl (lv_at hl 3 rfl) ?_
  refine lv_iconst (v := 3) hx hb dL_law_424 (by decide) ?_
  refine lv_iadd hx hb dL_law_425 ?_
  refine va_sld hx hb hX hbl hbA hS hj3 dL_law_426 ?_
  have hJ := zsw0 hJ
  refine zTi (As := [.int (xs (xi + 1).toNatClampNeg), .int (1 : Int32), .int (xs (xi + 3).toNatClampNeg)]) (rest := [.int res]) (ci := 9) (q0 := 0) (RV := resM.1) (X := cM D B MV MG) (pl := (cX D A V GI GL (oI (pres 0) (A 40)) (oI (pres 1) (A 50)) (oI (pres 2) (A 60))) ++ (cT (pres 0) (cI0 D A V GI GL) ++ (cT (pres 1) (cI1 D A V GI GL) ++ cT (pres 2) (cI2 D A V GI GL)))) (wn := fun _ => cM D B MV (sG MG 0 resM.2)) ⟨hx, hb, hml, hown, hts⟩ (mX12_word l D (B 0) (B 1) (B 2) (B 3) (B 4) (B 5) (B 6) (B 7) (B 8) (B 9) (B 10) (B 11) (B 12) H.size (MV 0) (MV 1) (MV 2) (MV 3) (MV 4) (MV 5) (MV 6) (MV 7) (MG 0) (xs (xi + 1).toNatClampNeg) (1 : Int32) (xs (xi + 3).toNatClampNeg) 1000 resM hfM) (fun _ _ h => h) (cwV 3 hts gL_law_X12_word rfl rfl rfl (by decide +kernel) ⟨Nat.le_of_ble_eq_true rfl, Nat.le_of_ble_eq_true rfl⟩) hK hJ hS hA [0, 1] [2, 3, 4, 5, 6, 7, 8, 9, 10, 11, 12] [11, 12, 0, 1, 2, 3, 4, 5, 6, 7, 8, 9, 10] rfl (by decide +kernel) rfl (by decide +kernel) (by decide +kernel) (fun _ => rfl) (by decide +kernel) rfl rfl rfl hl.1 rfl (Nat.le_of_ble_eq_true rfl) dL_law_427 ⟨by show _ ≤ 600000; omega, by show _ ≤ 7302250; omega⟩ (fun _ H locs hJ hS => ?_)
  have hJ := zsw0 hJ
  refine lv_icmp_eq (tgt := 833) hx hb dL_law_430 (by decide) (fun _ => ?_) (fun c_ => absurd he c_)
  refine W.widen (k := cells + 20) (n := slots + 1000) (by omega) (by omega) ?_
  exact kk A V GI GL pres MV (sG MG 0 resM.2) H locs rfl hI hJ hS
set_option maxHeartbeats 4000000 in
set_option maxRecDepth 100000 in
theorem lc_answer_0 {p : Program} {l : Launch} {e : Env} {s : State} {m : MethodId} {below : List Frame} {meth : Method} {c : Code} {D : zG} {b L : Nat} {xs : Nat → Int32} {xi : Int32} {A B : Nat → Nat} {V : Nat → Int32} {GI : Nat → Nat → Int32} {GL : Nat → Nat → Int64} {pres : Nat → Bool} {MV : Nat → Int32} {MG : Nat → Nat → Int32} {H : Heap} {locs : List Loc} {cells slots : Nat} {Q : State → Prop} {ls : Array Slot} (C0 : lw_At p s m meth c b L xs) (hK : zK D s) (hcs : cells ≤ 500000 ∧ slots ≤ 7000000) (hj1 : vp_in (xi + 1) L) (hj2 : vp_in (xi + 2) L) (hj3 : vp_in (xi + 3) L) (hj4 : vp_in (xi + 4) L) (hj5 : vp_in (xi + 5) L) (hl : lv_has ls 4 [(0, .ref b), (1, .ref (A 0)), (2, .ref (B 0)), (3, .int xi)]) (hI : Inv V GI GL pres MV MG) (hJ : zJ D (fun q : Nat => s.heap.size ≤ q) (wl D A B V GI GL pres MV MG) H) (hS : va_S (fun q : Nat => s.heap.size ≤ q) s.heap H locs) (hp2 : (xs (xi + 2).toNatClampNeg) = 0) (kk : ∀ (A' : Nat → Nat) (V' : Nat → Int32) (GI' : Nat → Nat → Int32) (GL' : Nat → Nat → Int64) (pres' : Nat → Bool) (MV' : Nat → Int32) (MG' : Nat → Nat → Int32) (H' : Heap) (locs' : List Loc), A' 0 = A 0 → Inv V' GI' GL' pres' MV' MG' → zJ D (fun q : Nat => s.heap.size ≤ q) (wl D A' B V' GI' GL' pres' MV' MG') H' → va_S (fun q : Nat => s.heap.size ≤ q) s.heap H' locs' → W p l e room_1 s m #[Value.ref b] below meth c H' locs' (cells + 20) (slots + 1000) Q (F0 m 833 ls [])) : W p l e room_1 s m #[Value.ref b] below meth c H locs cells slots Q (F0 m 435 ls []) := by
  obtain ⟨hx, hb, hr, hml, hown, hts0, hX, hbl, hlocks, hgv⟩ := C0
  have hts : ∀ w ∈ wsL_law, w.before #[Value.ref b] s = true := fun w h => hts0 w (wsL_law_in w h)
  have hA : ∀ q : Nat, s.heap.size ≤ q → (fun q : Nat => s.heap.size ≤ q) q := fun _ h => h
  have hbA : ¬ (fun q : Nat => s.heap.size ≤ q) b := Nat.not_le.mpr hbl
  obtain ⟨res, resM, hf, hfM, he, hI⟩ := Lw_answer_0 (N := 1000) (xs (xi + 1).toNatClampNeg) (Nat.le_refl _) hI
  refine lv_aload_n hx hb dL_law_435 rfl (lv_at hl 1 rfl) ?_
  refine lv_aload_n hx hb dL_law_436 rfl (lv_at hl 0 rfl) ?_
  refine lv_iload_n hx hb dL_law_437 rfl (lv_at hl 3 rfl) ?_
  refine lv_iconst (v := 1) hx hb dL_law_438 (by decide) ?_
  refine lv_iadd hx hb dL_law_439 ?_
  refine va_sld hx hb hX hbl hbA hS hj1 dL_law_440 ?_
  refine lv_aload_n hx hb dL_law_441 rfl (lv_at hl 0 rfl) ?_
  refine lv_iload_n hx hb dL_law_442 rfl (lv_at hl 3 rfl) ?_
  refine lv_iconst (v := 2) hx hb dL_law_443 (by decide) ?_
  refine lv_iadd hx hb dL_law_444 ?_
  refine va_sld hx hb hX hbl hbA hS hj2 dL_law_445 ?_
  refine lv_if_eq (tgt := 453) hx hb dL_law_446 (by decide) (fun _ => ?_) (fun c_ => absurd hp2 c_)
  refine lv_iconst (v := 0) hx hb dL_law_453 (by decide) ?_
  refine zTi (As := [.int (xs (xi + 1).toNatClampNeg), .int (0 : Int32)]) (rest := []) (ci := 8) (q0 := 0) (RV := res) (X := cX D A V GI GL (oI (pres 0) (A 40)) (oI (pres 1) (A 50)) (oI (pres 2) (A 60))) (pl := cM D B MV MG ++ (cT (pres 0) (cI0 D A V GI GL) ++ (cT (pres 1) (cI1 D A V GI GL) ++ cT (pres 2) (cI2 D A V GI GL)))) (wn := fun _ => cX D A V GI GL (oI (pres 0) (A 40)) (oI (pres 1) (A 50)) (oI (pres 2) (A 60))) ⟨hx, hb, hml, hown, hts⟩ (mX11_answer_0 l D (A 0) (A 1) (A 2) (A 3) (A 4) (A 5) (A 6) (A 7) (A 8) (A 9) (A 10) (A 11) (A 12) (A 13) (A 14) (A 16) (A 18) H.size (V 0) (V 2) (GL 0) (V 4) (GI 1) (xs (xi + 1).toNatClampNeg) 1000 res hf) (fun _ _ h => h) (cwV 2 hts gL_law_X11_answer rfl rfl rfl (by decide +kernel) ⟨Nat.le_of_ble_eq_true rfl, Nat.le_of_ble_eq_true rfl⟩) hK hJ hS hA [0, 1, 4, 5, 8, 9] [2, 3, 6, 7, 10, 11, 12, 13, 14, 15, 16, 17, 18, 19, 20, 21, 22, 23, 24, 25, 26, 27, 28, 29, 30, 31, 32, 33, 34, 35, 36, 37, 38] [33, 34, 0, 1, 35, 36, 2, 3, 37, 38, 4, 5, 6, 7, 8, 9, 10, 11, 12, 13, 14, 15, 16, 17, 18, 19, 20, 21, 22, 23, 24, 25, 26, 27, 28, 29, 30, 31, 32] rfl (by decide +kernel) rfl (by decide +kernel) (by decide +kernel) (fun _ => rfl) (by decide +kernel) rfl rfl rfl hl.1 rfl (Nat.le_of_ble_eq_true rfl) dL_law_454 ⟨by show _ ≤ 600000; omega, by show _ ≤ 7302250; omega⟩ (fun _ H locs hJ hS => ?_)
  refine lv_aload_n hx hb dL_law_457 rfl (lv_at hl 2 rfl) ?_
  refine lv_aload_n hx hb dL_law_458 rfl (lv_at hl 0 rfl) ?_
  refine lv_iload_n hx hb dL_law_459 rfl (lv_at hl 3 rfl) ?_
  refine lv_iconst (v := 1) hx hb dL_law_460 (by decide) ?_
  refine lv_iadd hx hb dL_law_461 ?_
  refine va_sld hx hb hX hbl hbA hS hj1 dL_law_462 ?_
  refine lv_aload_n hx hb dL_law_463 rfl (lv_at hl 0 rfl) ?_
  refine lv_iload_n hx hb dL_law_464 rfl (lv_at hl 3 rfl) ?_
  refine lv_iconst (v := 2) hx hb dL_law_465 (by decide) ?_
  refine lv_iadd hx hb dL_law_466 ?_
  refine va_sld hx hb hX hbl hbA hS hj2 dL_law_467 ?_
  refine lv_if_eq (tgt := 475) hx hb dL_law_468 (by decide) (fun _ => ?_) (fun c_ => absurd hp2 c_)
  refine lv_iconst (v := 0) hx hb dL_law_475 (by decide) ?_
  have hJ := zsw0 hJ
  refine zTi (As := [.int (xs (xi + 1).toNatClampNeg), .int (0 : Int32)]) (rest := [.int res]) (ci := 9) (q0 := 0) (RV := resM.1) (X := cM D B MV MG) (pl := (cX D A V GI GL (oI (pres 0) (A 40)) (oI (pres 1) (A 50)) (oI (pres 2) (A 60))) ++ (cT (pres 0) (cI0 D A V GI GL) ++ (cT (pres 1) (cI1 D A V GI GL) ++ cT (pres 2) (cI2 D A V GI GL)))) (wn := fun _ => cM D B MV (sG MG 0 resM.2)) ⟨hx, hb, hml, hown, hts⟩ (mX12_answer l D (B 0) (B 1) (B 2) (B 3) (B 4) (B 5) (B 6) (B 7) (B 8) (B 9) (B 10) (B 11) (B 12) H.size (MV 0) (MV 1) (MV 2) (MV 3) (MV 4) (MV 5) (MV 6) (MV 7) (MG 0) (xs (xi + 1).toNatClampNeg) (0 : Int32) 1000 resM hfM) (fun _ _ h => h) (cwV 2 hts gL_law_X12_answer rfl rfl rfl (by decide +kernel) ⟨Nat.le_of_ble_eq_true rfl, Nat.le_of_ble_eq_true rfl⟩) hK hJ hS hA [0, 1] [2, 3, 4, 5, 6, 7, 8, 9, 10, 11, 12] [11, 12, 0, 1, 2, 3, 4, 5, 6, 7, 8, 9, 10] rfl (by decide +kernel) rfl (by decide +kernel) (by decide +kernel) (fun _ => rfl) (by decide +kernel) rfl rfl rfl hl.1 rfl (Nat.le_of_ble_eq_true rfl) dL_law_476 ⟨by show _ ≤ 600000; omega, by show _ ≤ 7302250; omega⟩ (fun _ H locs hJ hS => ?_)
  have hJ := zsw0 hJ
  refine lv_icmp_eq (tgt := 833) hx hb dL_law_479 (by decide) (fun _ => ?_) (fun c_ => absurd he c_)
  refine W.widen (k := cells + 20) (n := slots + 1000) (by omega) (by omega) ?_
  exact kk A V GI GL pres MV (sG MG 0 resM.2) H locs rfl hI hJ hS
set_option maxHeartbeats 4000000 in
set_option maxRecDepth 100000 in
theorem lc_answer_1 {p : Program} {l : Launch} {e : Env} {s : State} {m : MethodId} {below : List Frame} {meth : Method} {c : Code} {D : zG} {b L : Nat} {xs : Nat → Int32} {xi : Int32} {A B : Nat → Nat} {V : Nat → Int32} {GI : Nat → Nat → Int32} {GL : Nat → Nat → Int64} {pres : Nat → Bool} {MV : Nat → Int32} {MG : Nat → Nat → Int32} {H : Heap} {locs : List Loc} {cells slots : Nat} {Q : State → Prop} {ls : Array Slot} (C0 : lw_At p s m meth c b L xs) (hK : zK D s) (hcs : cells ≤ 500000 ∧ slots ≤ 7000000) (hj1 : vp_in (xi + 1) L) (hj2 : vp_in (xi + 2) L) (hj3 : vp_in (xi + 3) L) (hj4 : vp_in (xi + 4) L) (hj5 : vp_in (xi + 5) L) (hl : lv_has ls 4 [(0, .ref b), (1, .ref (A 0)), (2, .ref (B 0)), (3, .int xi)]) (hI : Inv V GI GL pres MV MG) (hJ : zJ D (fun q : Nat => s.heap.size ≤ q) (wl D A B V GI GL pres MV MG) H) (hS : va_S (fun q : Nat => s.heap.size ≤ q) s.heap H locs) (hp2 : ¬ (xs (xi + 2).toNatClampNeg) = 0) (kk : ∀ (A' : Nat → Nat) (V' : Nat → Int32) (GI' : Nat → Nat → Int32) (GL' : Nat → Nat → Int64) (pres' : Nat → Bool) (MV' : Nat → Int32) (MG' : Nat → Nat → Int32) (H' : Heap) (locs' : List Loc), A' 0 = A 0 → Inv V' GI' GL' pres' MV' MG' → zJ D (fun q : Nat => s.heap.size ≤ q) (wl D A' B V' GI' GL' pres' MV' MG') H' → va_S (fun q : Nat => s.heap.size ≤ q) s.heap H' locs' → W p l e room_1 s m #[Value.ref b] below meth c H' locs' (cells + 20) (slots + 1000) Q (F0 m 833 ls [])) : W p l e room_1 s m #[Value.ref b] below meth c H locs cells slots Q (F0 m 435 ls []) := by
  obtain ⟨hx, hb, hr, hml, hown, hts0, hX, hbl, hlocks, hgv⟩ := C0
  have hts : ∀ w ∈ wsL_law, w.before #[Value.ref b] s = true := fun w h => hts0 w (wsL_law_in w h)
  have hA : ∀ q : Nat, s.heap.size ≤ q → (fun q : Nat => s.heap.size ≤ q) q := fun _ h => h
  have hbA : ¬ (fun q : Nat => s.heap.size ≤ q) b := Nat.not_le.mpr hbl
  obtain ⟨res, resM, hf, hfM, he, hI⟩ := Lw_answer_1 (N := 1000) (xs (xi + 1).toNatClampNeg) (Nat.le_refl _) hI
  refine lv_aload_n hx hb dL_law_435 rfl (lv_at hl 1 rfl) ?_
  refine lv_aload_n hx hb dL_law_436 rfl (lv_at hl 0 rfl) ?_
  refine lv_iload_n hx hb dL_law_437 rfl (lv_at hl 3 rfl) ?_
  refine lv_iconst (v := 1) hx hb dL_law_438 (by decide) ?_
  refine lv_iadd hx hb dL_law_439 ?_
  refine va_sld hx hb hX hbl hbA hS hj1 dL_law_440 ?_
  refine lv_aload_n hx hb dL_law_441 rfl (lv_at hl 0 rfl) ?_
  refine lv_iload_n hx hb dL_law_442 rfl (lv_at hl 3 rfl) ?_
  refine lv_iconst (v := 2) hx hb dL_law_443 (by decide) ?_
  refine lv_iadd hx hb dL_law_444 ?_
  refine va_sld hx hb hX hbl hbA hS hj2 dL_law_445 ?_
  refine lv_if_eq (tgt := 453) hx hb dL_law_446 (by decide) (fun c_ => absurd c_ hp2) (fun _ => ?_)
  refine lv_iconst (v := 1) hx hb dL_law_449 (by decide) ?_
  refine lv_goto (tgt := 454) hx hb dL_law_450 (by decide) ?_
  refine zTi (As := [.int (xs (xi + 1).toNatClampNeg), .int (1 : Int32)]) (rest := []) (ci := 8) (q0 := 0) (RV := res) (X := cX D A V GI GL (oI (pres 0) (A 40)) (oI (pres 1) (A 50)) (oI (pres 2) (A 60))) (pl := cM D B MV MG ++ (cT (pres 0) (cI0 D A V GI GL) ++ (cT (pres 1) (cI1 D A V GI GL) ++ cT (pres 2) (cI2 D A V GI GL)))) (wn := fun _ => cX D A V GI GL (oI (pres 0) (A 40)) (oI (pres 1) (A 50)) (oI (pres 2) (A 60))) ⟨hx, hb, hml, hown, hts⟩ (mX11_answer_1 l D (A 0) (A 1) (A 2) (A 3) (A 4) (A 5) (A 6) (A 7) (A 8) (A 9) (A 10) (A 11) (A 12) (A 13) (A 14) (A 17) (A 18) H.size (V 0) (V 3) (GL 1) (V 4) (GI 1) (xs (xi + 1).toNatClampNeg) 1000 res hf) (fun _ _ h => h) (cwV 2 hts gL_law_X11_answer rfl rfl rfl (by decide +kernel) ⟨Nat.le_of_ble_eq_true rfl, Nat.le_of_ble_eq_true rfl⟩) hK hJ hS hA [0, 1, 6, 7, 8, 9] [2, 3, 4, 5, 10, 11, 12, 13, 14, 15, 16, 17, 18, 19, 20, 21, 22, 23, 24, 25, 26, 27, 28, 29, 30, 31, 32, 33, 34, 35, 36, 37, 38] [33, 34, 0, 1, 2, 3, 35, 36, 37, 38, 4, 5, 6, 7, 8, 9, 10, 11, 12, 13, 14, 15, 16, 17, 18, 19, 20, 21, 22, 23, 24, 25, 26, 27, 28, 29, 30, 31, 32] rfl (by decide +kernel) rfl (by decide +kernel) (by decide +kernel) (fun _ => rfl) (by decide +kernel) rfl rfl rfl hl.1 rfl (Nat.le_of_ble_eq_true rfl) dL_law_454 ⟨by show _ ≤ 600000; omega, by show _ ≤ 7302250; omega⟩ (fun _ H locs hJ hS => ?_)
  refine lv_aload_n hx hb dL_law_457 rfl (lv_at hl 2 rfl) ?_
  refine lv_aload_n hx hb dL_law_458 rfl (lv_at hl 0 rfl) ?_
  refine lv_iload_n hx hb dL_law_459 rfl (lv_at hl 3 rfl) ?_
  refine lv_iconst (v := 1) hx hb dL_law_460 (by decide) ?_
  refine lv_iadd hx hb dL_law_461 ?_
  refine va_sld hx hb hX hbl hbA hS hj1 dL_law_462 ?_
  refine lv_aload_n hx hb dL_law_463 rfl (lv_at hl 0 rfl) ?_
  refine lv_iload_n hx hb dL_law_464 rfl (lv_at hl 3 rfl) ?_
  refine lv_iconst (v := 2) hx hb dL_law_465 (by decide) ?_
  refine lv_iadd hx hb dL_law_466 ?_
  refine va_sld hx hb hX hbl hbA hS hj2 dL_law_467 ?_
  refine lv_if_eq (tgt := 475) hx hb dL_law_468 (by decide) (fun c_ => absurd c_ hp2) (fun _ => ?_)
  refine lv_iconst (v := 1) hx hb dL_law_471 (by decide) ?_
  refine lv_goto (tgt := 476) hx hb dL_law_472 (by decide) ?_
  have hJ := zsw0 hJ
  refine zTi (As := [.int (xs (xi + 1).toNatClampNeg), .int (1 : Int32)]) (rest := [.int res]) (ci := 9) (q0 := 0) (RV := resM.1) (X := cM D B MV MG) (pl := (cX D A V GI GL (oI (pres 0) (A 40)) (oI (pres 1) (A 50)) (oI (pres 2) (A 60))) ++ (cT (pres 0) (cI0 D A V GI GL) ++ (cT (pres 1) (cI1 D A V GI GL) ++ cT (pres 2) (cI2 D A V GI GL)))) (wn := fun _ => cM D B MV (sG MG 0 resM.2)) ⟨hx, hb, hml, hown, hts⟩ (mX12_answer l D (B 0) (B 1) (B 2) (B 3) (B 4) (B 5) (B 6) (B 7) (B 8) (B 9) (B 10) (B 11) (B 12) H.size (MV 0) (MV 1) (MV 2) (MV 3) (MV 4) (MV 5) (MV 6) (MV 7) (MG 0) (xs (xi + 1).toNatClampNeg) (1 : Int32) 1000 resM hfM) (fun _ _ h => h) (cwV 2 hts gL_law_X12_answer rfl rfl rfl (by decide +kernel) ⟨Nat.le_of_ble_eq_true rfl, Nat.le_of_ble_eq_true rfl⟩) hK hJ hS hA [0, 1] [2, 3, 4, 5, 6, 7, 8, 9, 10, 11, 12] [11, 12, 0, 1, 2, 3, 4, 5, 6, 7, 8, 9, 10] rfl (by decide +kernel) rfl (by decide +kernel) (by decide +kernel) (fun _ => rfl) (by decide +kernel) rfl rfl rfl hl.1 rfl (Nat.le_of_ble_eq_true rfl) dL_law_476 ⟨by show _ ≤ 600000; omega, by show _ ≤ 7302250; omega⟩ (fun _ H locs hJ hS => ?_)
  have hJ := zsw0 hJ
  refine lv_icmp_eq (tgt := 833) hx hb dL_law_479 (by decide) (fun _ => ?_) (fun c_ => absurd he c_)
  refine W.widen (k := cells + 20) (n := slots + 1000) (by omega) (by omega) ?_
  exact kk A V GI GL pres MV (sG MG 0 resM.2) H locs rfl hI hJ hS
set_option maxHeartbeats 4000000 in
set_option maxRecDepth 100000 in
theorem lc_turn {p : Program} {l : Launch} {e : Env} {s : State} {m : MethodId} {below : List Frame} {meth : Method} {c : Code} {D : zG} {b L : Nat} {xs : Nat → Int32} {xi : Int32} {A B : Nat → Nat} {V : Nat → Int32} {GI : Nat → Nat → Int32} {GL : Nat → Nat → Int64} {pres : Nat → Bool} {MV : Nat → Int32} {MG : Nat → Nat → Int32} {H : Heap} {locs : List Loc} {cells slots : Nat} {Q : State → Prop} {ls : Array Slot} (C0 : lw_At p s m meth c b L xs) (hK : zK D s) (hcs : cells ≤ 500000 ∧ slots ≤ 7000000) (hj1 : vp_in (xi + 1) L) (hj2 : vp_in (xi + 2) L) (hj3 : vp_in (xi + 3) L) (hj4 : vp_in (xi + 4) L) (hj5 : vp_in (xi + 5) L) (hl : lv_has ls 4 [(0, .ref b), (1, .ref (A 0)), (2, .ref (B 0)), (3, .int xi)]) (hI : Inv V GI GL pres MV MG) (hJ : zJ D (fun q : Nat => s.heap.size ≤ q) (wl D A B V GI GL pres MV MG) H) (hS : va_S (fun q : Nat => s.heap.size ≤ q) s.heap H locs) (kk : ∀ (A' : Nat → Nat) (V' : Nat → Int32) (GI' : Nat → Nat → Int32) (GL' : Nat → Nat → Int64) (pres' : Nat → Bool) (MV' : Nat → Int32) (MG' : Nat → Nat → Int32) (H' : Heap) (locs' : List Loc), A' 0 = A 0 → Inv V' GI' GL' pres' MV' MG' → zJ D (fun q : Nat => s.heap.size ≤ q) (wl D A' B V' GI' GL' pres' MV' MG') H' → va_S (fun q : Nat => s.heap.size ≤ q) s.heap H' locs' → W p l e room_1 s m #[Value.ref b] below meth c H' locs' (cells + 20) (slots + 1000) Q (F0 m 833 ls [])) : W p l e room_1 s m #[Value.ref b] below meth c H locs cells slots Q (F0 m 484 ls []) := by
  obtain ⟨hx, hb, hr, hml, hown, hts0, hX, hbl, hlocks, hgv⟩ := C0
  have hts : ∀ w ∈ wsL_law, w.before #[Value.ref b] s = true := fun w h => hts0 w (wsL_law_in w h)
  have hA : ∀ q : Nat, s.heap.size ≤ q → (fun q : Nat => s.heap.size ≤ q) q := fun _ h => h
  have hbA : ¬ (fun q : Nat => s.heap.size ≤ q) b := Nat.not_le.mpr hbl
  obtain ⟨res, resM, hf, hfM, he, hI⟩ := Lw_turn (N := 1000) (xs (xi + 1).toNatClampNeg) (xs (xi + 2).toNatClampNeg) (Nat.le_refl _) hI
  refine lv_aload_n hx hb dL_law_484 rfl (lv_at hl 1 rfl) ?_
  refine lv_aload_n hx hb dL_law_485 rfl (lv_at hl 0 rfl) ?_
  refine lv_iload_n hx hb dL_law_486 rfl (lv_at hl 3 rfl) ?_
  refine lv_iconst (v := 1) hx hb dL_law_487 (by decide) ?_
  refine lv_iadd hx hb dL_law_488 ?_
  refine va_sld hx hb hX hbl hbA hS hj1 dL_law_489 ?_
  refine lv_aload_n hx hb dL_law_490 rfl (lv_at hl 0 rfl) ?_
  refine lv_iload_n hx hb dL_law_491 rfl (lv_at hl 3 rfl) ?_
  refine lv_iconst (v := 2) hx hb dL_law_492 (by decide) ?_
  refine lv_iadd hx hb dL_law_493 ?_
  refine va_sld hx hb hX hbl hbA hS hj2 dL_law_494 ?_
  refine zTi (As := [.int (xs (xi + 1).toNatClampNeg), .int (xs (xi + 2).toNatClampNeg)]) (rest := []) (ci := 8) (q0 := 0) (RV := res) (X := cX D A V GI GL (oI (pres 0) (A 40)) (oI (pres 1) (A 50)) (oI (pres 2) (A 60))) (pl := cM D B MV MG ++ (cT (pres 0) (cI0 D A V GI GL) ++ (cT (pres 1) (cI1 D A V GI GL) ++ cT (pres 2) (cI2 D A V GI GL)))) (wn := fun _ => cX D A V GI GL (oI (pres 0) (A 40)) (oI (pres 1) (A 50)) (oI (pres 2) (A 60))) ⟨hx, hb, hml, hown, hts⟩ (mX11_turn l D (A 0) (A 1) (A 2) (A 3) (A 4) (A 5) (A 6) (A 7) (A 8) (A 9) (A 33) (A 34) H.size (V 16) (GL 7) (xs (xi + 1).toNatClampNeg) (xs (xi + 2).toNatClampNeg) res hf) (fun _ _ h => h) (cwV 2 hts gL_law_X11_turn rfl rfl rfl (by decide +kernel) ⟨Nat.le_of_ble_eq_true rfl, Nat.le_of_ble_eq_true rfl⟩) hK hJ hS hA [0, 28, 29, 30] [1, 2, 3, 4, 5, 6, 7, 8, 9, 10, 11, 12, 13, 14, 15, 16, 17, 18, 19, 20, 21, 22, 23, 24, 25, 26, 27, 31, 32, 33, 34, 35, 36, 37, 38] [35, 0, 1, 2, 3, 4, 5, 6, 7, 8, 9, 10, 11, 12, 13, 14, 15, 16, 17, 18, 19, 20, 21, 22, 23, 24, 25, 26, 36, 37, 38, 27, 28, 29, 30, 31, 32, 33, 34] rfl (by decide +kernel) rfl (by decide +kernel) (by decide +kernel) (fun _ => rfl) (by decide +kernel) rfl rfl rfl hl.1 rfl (Nat.le_of_ble_eq_true rfl) dL_law_495 ⟨by show _ ≤ 600000; omega, by show _ ≤ 7302250; omega⟩ (fun _ H locs hJ hS => ?_)
  refine lv_aload_n hx hb dL_law_498 rfl (lv_at hl 2 rfl) ?_
  refine lv_aload_n hx hb dL_law_499 rfl (lv_at hl 0 rfl) ?_
  refine lv_iload_n hx hb dL_law_500 rfl (lv_at hl 3 rfl) ?_
  refine lv_iconst (v := 1) hx hb dL_law_501 (by decide) ?_
  refine lv_iadd hx hb dL_law_502 ?_
  refine va_sld hx hb hX hbl hbA hS hj1 dL_law_503 ?_
  refine lv_aload_n hx hb dL_law_504 rfl (lv_at hl 0 rfl) ?_
  refine lv_iload_n hx hb dL_law_505 rfl (lv_at hl 3 rfl) ?_
  refine lv_iconst (v := 2) hx hb dL_law_506 (by decide) ?_
  refine lv_iadd hx hb dL_law_507 ?_
  refine va_sld hx hb hX hbl hbA hS hj2 dL_law_508 ?_
  have hJ := zsw0 hJ
  refine zTi (As := [.int (xs (xi + 1).toNatClampNeg), .int (xs (xi + 2).toNatClampNeg)]) (rest := [.int res]) (ci := 9) (q0 := 0) (RV := resM.1) (X := cM D B MV MG) (pl := (cX D A V GI GL (oI (pres 0) (A 40)) (oI (pres 1) (A 50)) (oI (pres 2) (A 60))) ++ (cT (pres 0) (cI0 D A V GI GL) ++ (cT (pres 1) (cI1 D A V GI GL) ++ cT (pres 2) (cI2 D A V GI GL)))) (wn := fun _ => cM D B (sI MV 4 resM.2.1) (sG (sG MG 3 resM.2.2.1) 4 resM.2.2.2)) ⟨hx, hb, hml, hown, hts⟩ (mX12_turn l D (B 0) (B 1) (B 2) (B 3) (B 4) (B 5) (B 6) (B 7) (B 8) (B 9) (B 10) (B 11) (B 12) H.size (MV 0) (MV 1) (MV 2) (MV 3) (MV 4) (MV 5) (MV 6) (MV 7) (MG 0) (MG 3) (MG 4) (xs (xi + 1).toNatClampNeg) (xs (xi + 2).toNatClampNeg) 1000 resM hfM) (fun _ _ h => h) (cwV 2 hts gL_law_X12_turn rfl rfl rfl (by decide +kernel) ⟨Nat.le_of_ble_eq_true rfl, Nat.le_of_ble_eq_true rfl⟩) hK hJ hS hA [0, 1, 4, 5] [2, 3, 6, 7, 8, 9, 10, 11, 12] [9, 10, 0, 1, 11, 12, 2, 3, 4, 5, 6, 7, 8] rfl (by decide +kernel) rfl (by decide +kernel) (by decide +kernel) (fun _ => rfl) (by decide +kernel) rfl rfl rfl hl.1 rfl (Nat.le_of_ble_eq_true rfl) dL_law_509 ⟨by show _ ≤ 600000; omega, by show _ ≤ 7302250; omega⟩ (fun _ H locs hJ hS => ?_)
  have hJ := zsw0 hJ
  refine lv_icmp_eq (tgt := 833) hx hb dL_law_512 (by decide) (fun _ => ?_) (fun c_ => absurd he c_)
  refine W.widen (k := cells + 20) (n := slots + 1000) (by omega) (by omega) ?_
  exact kk A V GI GL pres (sI MV 4 resM.2.1) (sG (sG MG 3 resM.2.2.1) 4 resM.2.2.2) H locs rfl hI hJ hS
set_option maxHeartbeats 4000000 in
set_option maxRecDepth 100000 in
theorem lc_run {p : Program} {l : Launch} {e : Env} {s : State} {m : MethodId} {below : List Frame} {meth : Method} {c : Code} {D : zG} {b L : Nat} {xs : Nat → Int32} {xi : Int32} {A B : Nat → Nat} {V : Nat → Int32} {GI : Nat → Nat → Int32} {GL : Nat → Nat → Int64} {pres : Nat → Bool} {MV : Nat → Int32} {MG : Nat → Nat → Int32} {H : Heap} {locs : List Loc} {cells slots : Nat} {Q : State → Prop} {ls : Array Slot} (C0 : lw_At p s m meth c b L xs) (hK : zK D s) (hcs : cells ≤ 500000 ∧ slots ≤ 7000000) (hj1 : vp_in (xi + 1) L) (hj2 : vp_in (xi + 2) L) (hj3 : vp_in (xi + 3) L) (hj4 : vp_in (xi + 4) L) (hj5 : vp_in (xi + 5) L) (hl : lv_has ls 4 [(0, .ref b), (1, .ref (A 0)), (2, .ref (B 0)), (3, .int xi)]) (hI : Inv V GI GL pres MV MG) (hJ : zJ D (fun q : Nat => s.heap.size ≤ q) (wl D A B V GI GL pres MV MG) H) (hS : va_S (fun q : Nat => s.heap.size ≤ q) s.heap H locs) (kk : ∀ (A' : Nat → Nat) (V' : Nat → Int32) (GI' : Nat → Nat → Int32) (GL' : Nat → Nat → Int64) (pres' : Nat → Bool) (MV' : Nat → Int32) (MG' : Nat → Nat → Int32) (H' : Heap) (locs' : List Loc), A' 0 = A 0 → Inv V' GI' GL' pres' MV' MG' → zJ D (fun q : Nat => s.heap.size ≤ q) (wl D A' B V' GI' GL' pres' MV' MG') H' → va_S (fun q : Nat => s.heap.size ≤ q) s.heap H' locs' → W p l e room_1 s m #[Value.ref b] below meth c H' locs' (cells + 20) (slots + 1000) Q (F0 m 833 ls [])) : W p l e room_1 s m #[Value.ref b] below meth c H locs cells slots Q (F0 m 517 ls []) := by
  obtain ⟨hx, hb, hr, hml, hown, hts0, hX, hbl, hlocks, hgv⟩ := C0
  have hts : ∀ w ∈ wsL_law, w.before #[Value.ref b] s = true := fun w h => hts0 w (wsL_law_in w h)
  have hA : ∀ q : Nat, s.heap.size ≤ q → (fun q : Nat => s.heap.size ≤ q) q := fun _ h => h
  have hbA : ¬ (fun q : Nat => s.heap.size ≤ q) b := Nat.not_le.mpr hbl
  obtain ⟨res, resM, hf, hfM, he, hI⟩ := Lw_run (N := 1000) (xs (xi + 1).toNatClampNeg) (xs (xi + 2).toNatClampNeg) (Nat.le_refl _) hI
  refine lv_aload_n hx hb dL_law_517 rfl (lv_at hl 1 rfl) ?_
  refine lv_aload_n hx hb dL_law_518 rfl (lv_at hl 0 rfl) ?_
  refine lv_iload_n hx hb dL_law_519 rfl (lv_at hl 3 rfl) ?_
  refine lv_iconst (v := 1) hx hb dL_law_520 (by decide) ?_
  refine lv_iadd hx hb dL_law_521 ?_
  refine va_sld hx hb hX hbl hbA hS hj1 dL_law_522 ?_
  refine lv_aload_n hx hb dL_law_523 rfl (lv_at hl 0 rfl) ?_
  refine lv_iload_n hx hb dL_law_524 rfl (lv_at hl 3 rfl) ?_
  refine lv_iconst (v := 2) hx hb dL_law_525 (by decide) ?_
  refine lv_iadd hx hb dL_law_526 ?_
  refine va_sld hx hb hX hbl hbA hS hj2 dL_law_527 ?_
  refine zTi (As := [.int (xs (xi + 1).toNatClampNeg), .int (xs (xi + 2).toNatClampNeg)]) (rest := []) (ci := 8) (q0 := 0) (RV := res) (X := cX D A V GI GL (oI (pres 0) (A 40)) (oI (pres 1) (A 50)) (oI (pres 2) (A 60))) (pl := cM D B MV MG ++ (cT (pres 0) (cI0 D A V GI GL) ++ (cT (pres 1) (cI1 D A V GI GL) ++ cT (pres 2) (cI2 D A V GI GL)))) (wn := fun _ => cX D A V GI GL (oI (pres 0) (A 40)) (oI (pres 1) (A 50)) (oI (pres 2) (A 60))) ⟨hx, hb, hml, hown, hts⟩ (mX11_run l D (A 0) (A 1) (A 2) (A 3) (A 4) (A 5) (A 6) (A 7) (A 8) (A 9) (A 28) (A 29) (A 30) (A 31) (A 32) (A 33) (A 34) H.size (V 12) (V 13) (V 14) (V 15) (GI 2) (GI 3) (GI 4) (GI 5) (GL 6) (V 16) (GL 7) (xs (xi + 1).toNatClampNeg) (xs (xi + 2).toNatClampNeg) 1000 res hf) (fun _ _ h => h) (cwV 2 hts gL_law_X11_run rfl rfl rfl (by decide +kernel) ⟨Nat.le_of_ble_eq_true rfl, Nat.le_of_ble_eq_true rfl⟩) hK hJ hS hA [0, 22, 23, 24, 25, 26, 27, 28, 29, 30] [1, 2, 3, 4, 5, 6, 7, 8, 9, 10, 11, 12, 13, 14, 15, 16, 17, 18, 19, 20, 21, 31, 32, 33, 34, 35, 36, 37, 38] [29, 0, 1, 2, 3, 4, 5, 6, 7, 8, 9, 10, 11, 12, 13, 14, 15, 16, 17, 18, 19, 20, 30, 31, 32, 33, 34, 35, 36, 37, 38, 21, 22, 23, 24, 25, 26, 27, 28] rfl (by decide +kernel) rfl (by decide +kernel) (by decide +kernel) (fun _ => rfl) (by decide +kernel) rfl rfl rfl hl.1 rfl (Nat.le_of_ble_eq_true rfl) dL_law_528 ⟨by show _ ≤ 600000; omega, by show _ ≤ 7302250; omega⟩ (fun _ H locs hJ hS => ?_)
  refine lv_aload_n hx hb dL_law_531 rfl (lv_at hl 2 rfl) ?_
  refine lv_aload_n hx hb dL_law_532 rfl (lv_at hl 0 rfl) ?_
  refine lv_iload_n hx hb dL_law_533 rfl (lv_at hl 3 rfl) ?_
  refine lv_iconst (v := 1) hx hb dL_law_534 (by decide) ?_
  refine lv_iadd hx hb dL_law_535 ?_
  refine va_sld hx hb hX hbl hbA hS hj1 dL_law_536 ?_
  refine lv_aload_n hx hb dL_law_537 rfl (lv_at hl 0 rfl) ?_
  refine lv_iload_n hx hb dL_law_538 rfl (lv_at hl 3 rfl) ?_
  refine lv_iconst (v := 2) hx hb dL_law_539 (by decide) ?_
  refine lv_iadd hx hb dL_law_540 ?_
  refine va_sld hx hb hX hbl hbA hS hj2 dL_law_541 ?_
  have hJ := zsw0 hJ
  refine zTi (As := [.int (xs (xi + 1).toNatClampNeg), .int (xs (xi + 2).toNatClampNeg)]) (rest := [.int res]) (ci := 9) (q0 := 0) (RV := resM.1) (X := cM D B MV MG) (pl := (cX D A V GI GL (oI (pres 0) (A 40)) (oI (pres 1) (A 50)) (oI (pres 2) (A 60))) ++ (cT (pres 0) (cI0 D A V GI GL) ++ (cT (pres 1) (cI1 D A V GI GL) ++ cT (pres 2) (cI2 D A V GI GL)))) (wn := fun _ => cM D B (sI (sI (sI (sI MV 4 resM.2.1) 5 resM.2.2.1) 6 resM.2.2.2.1) 7 resM.2.2.2.2.1) (sG (sG (sG (sG (sG (sG (sG MG 3 resM.2.2.2.2.2.1) 4 resM.2.2.2.2.2.2.1) 5 resM.2.2.2.2.2.2.2.1) 6 resM.2.2.2.2.2.2.2.2.1) 7 resM.2.2.2.2.2.2.2.2.2.1) 8 resM.2.2.2.2.2.2.2.2.2.2.1) 9 resM.2.2.2.2.2.2.2.2.2.2.2)) ⟨hx, hb, hml, hown, hts⟩ (mX12_run l D (B 0) (B 1) (B 2) (B 3) (B 4) (B 5) (B 6) (B 7) (B 8) (B 9) (B 10) (B 11) (B 12) H.size (MV 0) (MV 1) (MV 2) (MV 3) (MV 4) (MV 5) (MV 6) (MV 7) (MG 0) (MG 3) (MG 4) (MG 5) (MG 6) (MG 7) (MG 8) (MG 9) (xs (xi + 1).toNatClampNeg) (xs (xi + 2).toNatClampNeg) 1000 resM hfM) (fun _ _ h => h) (cwV 2 hts gL_law_X12_run rfl rfl rfl (by decide +kernel) ⟨Nat.le_of_ble_eq_true rfl, Nat.le_of_ble_eq_true rfl⟩) hK hJ hS hA [0, 1, 4, 5, 6, 7, 8, 9, 10] [2, 3, 11, 12] [4, 5, 0, 1, 6, 7, 8, 9, 10, 11, 12, 2, 3] rfl (by decide +kernel) rfl (by decide +kernel) (by decide +kernel) (fun _ => rfl) (by decide +kernel) rfl rfl rfl hl.1 rfl (Nat.le_of_ble_eq_true rfl) dL_law_542 ⟨by show _ ≤ 600000; omega, by show _ ≤ 7302250; omega⟩ (fun _ H locs hJ hS => ?_)
  have hJ := zsw0 hJ
  refine lv_icmp_eq (tgt := 833) hx hb dL_law_545 (by decide) (fun _ => ?_) (fun c_ => absurd he c_)
  refine W.widen (k := cells + 20) (n := slots + 1000) (by omega) (by omega) ?_
  exact kk A V GI GL pres (sI (sI (sI (sI MV 4 resM.2.1) 5 resM.2.2.1) 6 resM.2.2.2.1) 7 resM.2.2.2.2.1) (sG (sG (sG (sG (sG (sG (sG MG 3 resM.2.2.2.2.2.1) 4 resM.2.2.2.2.2.2.1) 5 resM.2.2.2.2.2.2.2.1) 6 resM.2.2.2.2.2.2.2.2.1) 7 resM.2.2.2.2.2.2.2.2.2.1) 8 resM.2.2.2.2.2.2.2.2.2.2.1) 9 resM.2.2.2.2.2.2.2.2.2.2.2) H locs rfl hI hJ hS
set_option maxHeartbeats 4000000 in
set_option maxRecDepth 100000 in
theorem lc_of {p : Program} {l : Launch} {e : Env} {s : State} {m : MethodId} {below : List Frame} {meth : Method} {c : Code} {D : zG} {b L : Nat} {xs : Nat → Int32} {xi : Int32} {A B : Nat → Nat} {V : Nat → Int32} {GI : Nat → Nat → Int32} {GL : Nat → Nat → Int64} {pres : Nat → Bool} {MV : Nat → Int32} {MG : Nat → Nat → Int32} {H : Heap} {locs : List Loc} {cells slots : Nat} {Q : State → Prop} {ls : Array Slot} (C0 : lw_At p s m meth c b L xs) (hK : zK D s) (hcs : cells ≤ 500000 ∧ slots ≤ 7000000) (hj1 : vp_in (xi + 1) L) (hj2 : vp_in (xi + 2) L) (hj3 : vp_in (xi + 3) L) (hj4 : vp_in (xi + 4) L) (hj5 : vp_in (xi + 5) L) (hl : lv_has ls 4 [(0, .ref b), (1, .ref (A 0)), (2, .ref (B 0)), (3, .int xi)]) (hI : Inv V GI GL pres MV MG) (hJ : zJ D (fun q : Nat => s.heap.size ≤ q) (wl D A B V GI GL pres MV MG) H) (hS : va_S (fun q : Nat => s.heap.size ≤ q) s.heap H locs) (kk : ∀ (A' : Nat → Nat) (V' : Nat → Int32) (GI' : Nat → Nat → Int32) (GL' : Nat → Nat → Int64) (pres' : Nat → Bool) (MV' : Nat → Int32) (MG' : Nat → Nat → Int32) (H' : Heap) (locs' : List Loc), A' 0 = A 0 → Inv V' GI' GL' pres' MV' MG' → zJ D (fun q : Nat => s.heap.size ≤ q) (wl D A' B V' GI' GL' pres' MV' MG') H' → va_S (fun q : Nat => s.heap.size ≤ q) s.heap H' locs' → W p l e room_1 s m #[Value.ref b] below meth c H' locs' (cells + 20) (slots + 1000) Q (F0 m 833 ls [])) : W p l e room_1 s m #[Value.ref b] below meth c H locs cells slots Q (F0 m 550 ls []) := by
  obtain ⟨hx, hb, hr, hml, hown, hts0, hX, hbl, hlocks, hgv⟩ := C0
  have hts : ∀ w ∈ wsL_law, w.before #[Value.ref b] s = true := fun w h => hts0 w (wsL_law_in w h)
  have hA : ∀ q : Nat, s.heap.size ≤ q → (fun q : Nat => s.heap.size ≤ q) q := fun _ h => h
  have hbA : ¬ (fun q : Nat => s.heap.size ≤ q) b := Nat.not_le.mpr hbl
  obtain ⟨res, resM, hf, hfM, he, hI⟩ := Lw_of (N := 1000) (xs (xi + 1).toNatClampNeg) (xs (xi + 2).toNatClampNeg) (Nat.le_refl _) hI
  refine lv_aload_n hx hb dL_law_550 rfl (lv_at hl 1 rfl) ?_
  refine lv_aload_n hx hb dL_law_551 rfl (lv_at hl 0 rfl) ?_
  refine lv_iload_n hx hb dL_law_552 rfl (lv_at hl 3 rfl) ?_
  refine lv_iconst (v := 1) hx hb dL_law_553 (by decide) ?_
  refine lv_iadd hx hb dL_law_554 ?_
  refine va_sld hx hb hX hbl hbA hS hj1 dL_law_555 ?_
  refine lv_aload_n hx hb dL_law_556 rfl (lv_at hl 0 rfl) ?_
  refine lv_iload_n hx hb dL_law_557 rfl (lv_at hl 3 rfl) ?_
  refine lv_iconst (v := 2) hx hb dL_law_558 (by decide) ?_
  refine lv_iadd hx hb dL_law_559 ?_
  refine va_sld hx hb hX hbl hbA hS hj2 dL_law_560 ?_
  refine zTi (As := [.int (xs (xi + 1).toNatClampNeg), .int (xs (xi + 2).toNatClampNeg)]) (rest := []) (ci := 8) (q0 := 0) (RV := res) (X := cX D A V GI GL (oI (pres 0) (A 40)) (oI (pres 1) (A 50)) (oI (pres 2) (A 60))) (pl := cM D B MV MG ++ (cT (pres 0) (cI0 D A V GI GL) ++ (cT (pres 1) (cI1 D A V GI GL) ++ cT (pres 2) (cI2 D A V GI GL)))) (wn := fun _ => cX D A V GI GL (oI (pres 0) (A 40)) (oI (pres 1) (A 50)) (oI (pres 2) (A 60))) ⟨hx, hb, hml, hown, hts⟩ (mX11_of l D (A 0) (A 1) (A 2) (A 3) (A 4) (A 5) (A 6) (A 7) (A 8) (A 9) (A 28) (A 29) (A 30) (A 31) (A 32) (A 33) (A 34) H.size (V 12) (V 13) (V 14) (V 15) (GI 4) (GL 6) (V 16) (GL 7) (xs (xi + 1).toNatClampNeg) (xs (xi + 2).toNatClampNeg) 1000 res hf) (fun _ _ h => h) (cwV 2 hts gL_law_X11_of rfl rfl rfl (by decide +kernel) ⟨Nat.le_of_ble_eq_true rfl, Nat.le_of_ble_eq_true rfl⟩) hK hJ hS hA [0, 22, 25, 27, 28, 29, 30] [1, 2, 3, 4, 5, 6, 7, 8, 9, 10, 11, 12, 13, 14, 15, 16, 17, 18, 19, 20, 21, 23, 24, 26, 31, 32, 33, 34, 35, 36, 37, 38] [32, 0, 1, 2, 3, 4, 5, 6, 7, 8, 9, 10, 11, 12, 13, 14, 15, 16, 17, 18, 19, 20, 33, 21, 22, 34, 23, 35, 36, 37, 38, 24, 25, 26, 27, 28, 29, 30, 31] rfl (by decide +kernel) rfl (by decide +kernel) (by decide +kernel) (fun _ => rfl) (by decide +kernel) rfl rfl rfl hl.1 rfl (Nat.le_of_ble_eq_true rfl) dL_law_561 ⟨by show _ ≤ 600000; omega, by show _ ≤ 7302250; omega⟩ (fun _ H locs hJ hS => ?_)
  refine lv_aload_n hx hb dL_law_564 rfl (lv_at hl 2 rfl) ?_
  refine lv_aload_n hx hb dL_law_565 rfl (lv_at hl 0 rfl) ?_
  refine lv_iload_n hx hb dL_law_566 rfl (lv_at hl 3 rfl) ?_
  refine lv_iconst (v := 1) hx hb dL_law_567 (by decide) ?_
  refine lv_iadd hx hb dL_law_568 ?_
  refine va_sld hx hb hX hbl hbA hS hj1 dL_law_569 ?_
  refine lv_aload_n hx hb dL_law_570 rfl (lv_at hl 0 rfl) ?_
  refine lv_iload_n hx hb dL_law_571 rfl (lv_at hl 3 rfl) ?_
  refine lv_iconst (v := 2) hx hb dL_law_572 (by decide) ?_
  refine lv_iadd hx hb dL_law_573 ?_
  refine va_sld hx hb hX hbl hbA hS hj2 dL_law_574 ?_
  have hJ := zsw0 hJ
  refine zTi (As := [.int (xs (xi + 1).toNatClampNeg), .int (xs (xi + 2).toNatClampNeg)]) (rest := [.int res]) (ci := 9) (q0 := 0) (RV := resM.1) (X := cM D B MV MG) (pl := (cX D A V GI GL (oI (pres 0) (A 40)) (oI (pres 1) (A 50)) (oI (pres 2) (A 60))) ++ (cT (pres 0) (cI0 D A V GI GL) ++ (cT (pres 1) (cI1 D A V GI GL) ++ cT (pres 2) (cI2 D A V GI GL)))) (wn := fun _ => cM D B (sI (sI (sI (sI MV 4 resM.2.1) 5 resM.2.2.1) 6 resM.2.2.2.1) 7 resM.2.2.2.2.1) (sG (sG (sG (sG (sG (sG (sG MG 3 resM.2.2.2.2.2.1) 4 resM.2.2.2.2.2.2.1) 5 resM.2.2.2.2.2.2.2.1) 6 resM.2.2.2.2.2.2.2.2.1) 7 resM.2.2.2.2.2.2.2.2.2.1) 8 resM.2.2.2.2.2.2.2.2.2.2.1) 9 resM.2.2.2.2.2.2.2.2.2.2.2)) ⟨hx, hb, hml, hown, hts⟩ (mX12_of l D (B 0) (B 1) (B 2) (B 3) (B 4) (B 5) (B 6) (B 7) (B 8) (B 9) (B 10) (B 11) (B 12) H.size (MV 0) (MV 1) (MV 2) (MV 3) (MV 4) (MV 5) (MV 6) (MV 7) (MG 0) (MG 3) (MG 4) (MG 5) (MG 6) (MG 7) (MG 8) (MG 9) (xs (xi + 1).toNatClampNeg) (xs (xi + 2).toNatClampNeg) 1000 resM hfM) (fun _ _ h => h) (cwV 2 hts gL_law_X12_of rfl rfl rfl (by decide +kernel) ⟨Nat.le_of_ble_eq_true rfl, Nat.le_of_ble_eq_true rfl⟩) hK hJ hS hA [0, 1, 4, 5, 6, 7, 8, 9, 10] [2, 3, 11, 12] [4, 5, 0, 1, 6, 7, 8, 9, 10, 11, 12, 2, 3] rfl (by decide +kernel) rfl (by decide +kernel) (by decide +kernel) (fun _ => rfl) (by decide +kernel) rfl rfl rfl hl.1 rfl (Nat.le_of_ble_eq_true rfl) dL_law_575 ⟨by show _ ≤ 600000; omega, by show _ ≤ 7302250; omega⟩ (fun _ H locs hJ hS => ?_)
  have hJ := zsw0 hJ
  refine lv_icmp_eq (tgt := 833) hx hb dL_law_578 (by decide) (fun _ => ?_) (fun c_ => absurd he c_)
  refine W.widen (k := cells + 20) (n := slots + 1000) (by omega) (by omega) ?_
  exact kk A V GI GL pres (sI (sI (sI (sI MV 4 resM.2.1) 5 resM.2.2.1) 6 resM.2.2.2.1) 7 resM.2.2.2.2.1) (sG (sG (sG (sG (sG (sG (sG MG 3 resM.2.2.2.2.2.1) 4 resM.2.2.2.2.2.2.1) 5 resM.2.2.2.2.2.2.2.1) 6 resM.2.2.2.2.2.2.2.2.1) 7 resM.2.2.2.2.2.2.2.2.2.1) 8 resM.2.2.2.2.2.2.2.2.2.2.1) 9 resM.2.2.2.2.2.2.2.2.2.2.2) H locs rfl hI hJ hS
set_option maxHeartbeats 4000000 in
set_option maxRecDepth 100000 in
theorem lc_shared {p : Program} {l : Launch} {e : Env} {s : State} {m : MethodId} {below : List Frame} {meth : Method} {c : Code} {D : zG} {b L : Nat} {xs : Nat → Int32} {xi : Int32} {A B : Nat → Nat} {V : Nat → Int32} {GI : Nat → Nat → Int32} {GL : Nat → Nat → Int64} {pres : Nat → Bool} {MV : Nat → Int32} {MG : Nat → Nat → Int32} {H : Heap} {locs : List Loc} {cells slots : Nat} {Q : State → Prop} {ls : Array Slot} (C0 : lw_At p s m meth c b L xs) (hK : zK D s) (hcs : cells ≤ 500000 ∧ slots ≤ 7000000) (hj1 : vp_in (xi + 1) L) (hj2 : vp_in (xi + 2) L) (hj3 : vp_in (xi + 3) L) (hj4 : vp_in (xi + 4) L) (hj5 : vp_in (xi + 5) L) (hl : lv_has ls 4 [(0, .ref b), (1, .ref (A 0)), (2, .ref (B 0)), (3, .int xi)]) (hI : Inv V GI GL pres MV MG) (hJ : zJ D (fun q : Nat => s.heap.size ≤ q) (wl D A B V GI GL pres MV MG) H) (hS : va_S (fun q : Nat => s.heap.size ≤ q) s.heap H locs) (kk : ∀ (A' : Nat → Nat) (V' : Nat → Int32) (GI' : Nat → Nat → Int32) (GL' : Nat → Nat → Int64) (pres' : Nat → Bool) (MV' : Nat → Int32) (MG' : Nat → Nat → Int32) (H' : Heap) (locs' : List Loc), A' 0 = A 0 → Inv V' GI' GL' pres' MV' MG' → zJ D (fun q : Nat => s.heap.size ≤ q) (wl D A' B V' GI' GL' pres' MV' MG') H' → va_S (fun q : Nat => s.heap.size ≤ q) s.heap H' locs' → W p l e room_1 s m #[Value.ref b] below meth c H' locs' (cells + 20) (slots + 1000) Q (F0 m 833 ls [])) : W p l e room_1 s m #[Value.ref b] below meth c H locs cells slots Q (F0 m 583 ls []) := by
  obtain ⟨hx, hb, hr, hml, hown, hts0, hX, hbl, hlocks, hgv⟩ := C0
  have hts : ∀ w ∈ wsL_law, w.before #[Value.ref b] s = true := fun w h => hts0 w (wsL_law_in w h)
  have hA : ∀ q : Nat, s.heap.size ≤ q → (fun q : Nat => s.heap.size ≤ q) q := fun _ h => h
  have hbA : ¬ (fun q : Nat => s.heap.size ≤ q) b := Nat.not_le.mpr hbl
  obtain ⟨res, resM, hf, hfM, he, hI⟩ := Lw_shared (N := 1000) (xs (xi + 1).toNatClampNeg) (Nat.le_refl _) hI
  refine lv_aload_n hx hb dL_law_583 rfl (lv_at hl 1 rfl) ?_
  refine lv_aload_n hx hb dL_law_584 rfl (lv_at hl 0 rfl) ?_
  refine lv_iload_n hx hb dL_law_585 rfl (lv_at hl 3 rfl) ?_
  refine lv_iconst (v := 1) hx hb dL_law_586 (by decide) ?_
  refine lv_iadd hx hb dL_law_587 ?_
  refine va_sld hx hb hX hbl hbA hS hj1 dL_law_588 ?_
  refine zTi (As := [.int (xs (xi + 1).toNatClampNeg)]) (rest := []) (ci := 8) (q0 := 0) (RV := res) (X := cX D A V GI GL (oI (pres 0) (A 40)) (oI (pres 1) (A 50)) (oI (pres 2) (A 60))) (pl := cM D B MV MG ++ (cT (pres 0) (cI0 D A V GI GL) ++ (cT (pres 1) (cI1 D A V GI GL) ++ cT (pres 2) (cI2 D A V GI GL)))) (wn := fun _ => cX D A V GI GL (oI (pres 0) (A 40)) (oI (pres 1) (A 50)) (oI (pres 2) (A 60))) ⟨hx, hb, hml, hown, hts⟩ (mX11_shared l D (A 0) (A 1) (A 2) (A 3) (A 4) (A 5) (A 6) (A 7) (A 8) (A 9) (A 28) (A 29) (A 30) (A 31) (A 32) (A 33) (A 34) H.size (V 12) (V 13) (V 14) (V 15) (GI 4) (GL 6) (V 16) (GL 7) (xs (xi + 1).toNatClampNeg) 1000 res hf) (fun _ _ h => h) (cwV 1 hts gL_law_X11_shared rfl rfl rfl (by decide +kernel) ⟨Nat.le_of_ble_eq_true rfl, Nat.le_of_ble_eq_true rfl⟩) hK hJ hS hA [0, 22, 25, 27, 28, 29, 30] [1, 2, 3, 4, 5, 6, 7, 8, 9, 10, 11, 12, 13, 14, 15, 16, 17, 18, 19, 20, 21, 23, 24, 26, 31, 32, 33, 34, 35, 36, 37, 38] [32, 0, 1, 2, 3, 4, 5, 6, 7, 8, 9, 10, 11, 12, 13, 14, 15, 16, 17, 18, 19, 20, 33, 21, 22, 34, 23, 35, 36, 37, 38, 24, 25, 26, 27, 28, 29, 30, 31] rfl (by decide +kernel) rfl (by decide +kernel) (by decide +kernel) (fun _ => rfl) (by decide +kernel) rfl rfl rfl hl.1 rfl (Nat.le_of_ble_eq_true rfl) dL_law_589 ⟨by show _ ≤ 600000; omega, by show _ ≤ 7302250; omega⟩ (fun _ H locs hJ hS => ?_)
  refine lv_aload_n hx hb dL_law_592 rfl (lv_at hl 2 rfl) ?_
  refine lv_aload_n hx hb dL_law_593 rfl (lv_at hl 0 rfl) ?_
  refine lv_iload_n hx hb dL_law_594 rfl (lv_at hl 3 rfl) ?_
  refine lv_iconst (v := 1) hx hb dL_law_595 (by decide) ?_
  refine lv_iadd hx hb dL_law_596 ?_
  refine va_sld hx hb hX hbl hbA hS hj1 dL_law_597 ?_
  have hJ := zsw0 hJ
  refine zTi (As := [.int (xs (xi + 1).toNatClampNeg)]) (rest := [.int res]) (ci := 9) (q0 := 0) (RV := resM.1) (X := cM D B MV MG) (pl := (cX D A V GI GL (oI (pres 0) (A 40)) (oI (pres 1) (A 50)) (oI (pres 2) (A 60))) ++ (cT (pres 0) (cI0 D A V GI GL) ++ (cT (pres 1) (cI1 D A V GI GL) ++ cT (pres 2) (cI2 D A V GI GL)))) (wn := fun _ => cM D B (sI (sI (sI (sI MV 4 resM.2.1) 5 resM.2.2.1) 6 resM.2.2.2.1) 7 resM.2.2.2.2.1) (sG (sG (sG (sG (sG (sG (sG MG 3 resM.2.2.2.2.2.1) 4 resM.2.2.2.2.2.2.1) 5 resM.2.2.2.2.2.2.2.1) 6 resM.2.2.2.2.2.2.2.2.1) 7 resM.2.2.2.2.2.2.2.2.2.1) 8 resM.2.2.2.2.2.2.2.2.2.2.1) 9 resM.2.2.2.2.2.2.2.2.2.2.2)) ⟨hx, hb, hml, hown, hts⟩ (mX12_shared l D (B 0) (B 1) (B 2) (B 3) (B 4) (B 5) (B 6) (B 7) (B 8) (B 9) (B 10) (B 11) (B 12) H.size (MV 0) (MV 1) (MV 2) (MV 3) (MV 4) (MV 5) (MV 6) (MV 7) (MG 0) (MG 3) (MG 4) (MG 5) (MG 6) (MG 7) (MG 8) (MG 9) (xs (xi + 1).toNatClampNeg) 1000 resM hfM) (fun _ _ h => h) (cwV 1 hts gL_law_X12_shared rfl rfl rfl (by decide +kernel) ⟨Nat.le_of_ble_eq_true rfl, Nat.le_of_ble_eq_true rfl⟩) hK hJ hS hA [0, 1, 4, 5, 6, 7, 8, 9, 10] [2, 3, 11, 12] [4, 5, 0, 1, 6, 7, 8, 9, 10, 11, 12, 2, 3] rfl (by decide +kernel) rfl (by decide +kernel) (by decide +kernel) (fun _ => rfl) (by decide +kernel) rfl rfl rfl hl.1 rfl (Nat.le_of_ble_eq_true rfl) dL_law_598 ⟨by show _ ≤ 600000; omega, by show _ ≤ 7302250; omega⟩ (fun _ H locs hJ hS => ?_)
  have hJ := zsw0 hJ
  refine lv_icmp_eq (tgt := 833) hx hb dL_law_601 (by decide) (fun _ => ?_) (fun c_ => absurd he c_)
  refine W.widen (k := cells + 20) (n := slots + 1000) (by omega) (by omega) ?_
  exact kk A V GI GL pres (sI (sI (sI (sI MV 4 resM.2.1) 5 resM.2.2.1) 6 resM.2.2.2.1) 7 resM.2.2.2.2.1) (sG (sG (sG (sG (sG (sG (sG MG 3 resM.2.2.2.2.2.1) 4 resM.2.2.2.2.2.2.1) 5 resM.2.2.2.2.2.2.2.1) 6 resM.2.2.2.2.2.2.2.2.1) 7 resM.2.2.2.2.2.2.2.2.2.1) 8 resM.2.2.2.2.2.2.2.2.2.2.1) 9 resM.2.2.2.2.2.2.2.2.2.2.2) H locs rfl hI hJ hS
