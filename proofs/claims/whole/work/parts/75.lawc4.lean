set_option maxHeartbeats 4000000 in
set_option maxRecDepth 100000 in
theorem lc_alone {p : Program} {l : Launch} {e : Env} {s : State} {m : MethodId} {below : List Frame} {meth : Method} {c : Code} {D : zG} {b L : Nat} {xs : Nat → Int32} {xi : Int32} {A B : Nat → Nat} {V : Nat → Int32} {GI : Nat → Nat → Int32} {GL : Nat → Nat → Int64} {pres : Nat → Bool} {MV : Nat → Int32} {MG : Nat → Nat → Int32} {H : Heap} {locs : List Loc} {cells slots : Nat} {Q : State → Prop} {ls : Array Slot} (C0 : lw_At p s m meth c b L xs) (hK : zK D s) (hcs : cells ≤ 500000 ∧ slots ≤ 7000000) (hj1 : vp_in (xi + 1) L) (hj2 : vp_in (xi + 2) L) (hj3 : vp_in (xi + 3) L) (hj4 : vp_in (xi + 4) L) (hj5 : vp_in (xi + 5) L) (hl : lv_has ls 4 [(0, .ref b), (1, .ref (A 0)), (2, .ref (B 0)), (3, .int xi)]) (hI : Inv V GI GL pres MV MG) (hJ : zJ D (fun q : Nat => s.heap.size ≤ q) (wl D A B V GI GL pres MV MG) H) (hS : va_S (fun q : Nat => s.heap.size ≤ q) s.heap H locs) (kk : ∀ (A' : Nat → Nat) (V' : Nat → Int32) (GI' : Nat → Nat → Int32) (GL' : Nat → Nat → Int64) (pres' : Nat → Bool) (MV' : Nat → Int32) (MG' : Nat → Nat → Int32) (H' : Heap) (locs' : List Loc), A' 0 = A 0 → Inv V' GI' GL' pres' MV' MG' → zJ D (fun q : Nat => s.heap.size ≤ q) (wl D A' B V' GI' GL' pres' MV' MG') H' → va_S (fun q : Nat => s.heap.size ≤ q) s.heap H' locs' → W p l e room_1 s m #[Value.ref b] below meth c H' locs' (cells + 20) (slots + 1000) Q (F0 m 833 ls [])) : W p l e room_1 s m #[Value.ref b] below meth c H locs cells slots Q (F0 m 606 ls []) := by
  obtain ⟨hx, hb, hr, hml, hown, hts0, hX, hbl, hlocks, hgv⟩ := C0
  have hts : ∀ w ∈ wsL_law, w.before #[Value.ref b] s = true := fun w h => hts0 w (wsL_law_in w h)
  have hA : ∀ q : Nat, s.heap.size ≤ q → (fun q : Nat => s.heap.size ≤ q) q := fun _ h => h
  have hbA : ¬ (fun q : Nat => s.heap.size ≤ q) b := Nat.not_le.mpr hbl
  obtain ⟨res, resM, hf, hfM, he, hI⟩ := Lw_alone (N := 1000) (xs (xi + 1).toNatClampNeg) (xs (xi + 2).toNatClampNeg) (Nat.le_refl _) hI
  refine lv_aload_n hx hb dL_law_606 rfl (lv_at hl 1 rfl) ?_
  refine lv_aload_n hx hb dL_law_607 rfl (lv_at hl 0 rfl) ?_
  refine lv_iload_n hx hb dL_law_608 rfl (lv_at hl 3 rfl) ?_
  refine lv_iconst (v := 1) hx hb dL_law_609 (by decide) ?_
  refine lv_iadd hx hb dL_law_610 ?_
  refine va_sld hx hb hX hbl hbA hS hj1 dL_law_611 ?_
  refine lv_aload_n hx hb dL_law_612 rfl (lv_at hl 0 rfl) ?_
  refine lv_iload_n hx hb dL_law_613 rfl (lv_at hl 3 rfl) ?_
  refine lv_iconst (v := 2) hx hb dL_law_614 (by decide) ?_
  refine lv_iadd hx hb dL_law_615 ?_
  refine va_sld hx hb hX hbl hbA hS hj2 dL_law_616 ?_
  refine zTi (As := [.int (xs (xi + 1).toNatClampNeg), .int (xs (xi + 2).toNatClampNeg)]) (rest := []) (ci := 8) (q0 := 0) (RV := res) (X := cX D A V GI GL (oI (pres 0) (A 40)) (oI (pres 1) (A 50)) (oI (pres 2) (A 60))) (pl := cM D B MV MG ++ (cT (pres 0) (cI0 D A V GI GL) ++ (cT (pres 1) (cI1 D A V GI GL) ++ cT (pres 2) (cI2 D A V GI GL)))) (wn := fun _ => cX D A V GI GL (oI (pres 0) (A 40)) (oI (pres 1) (A 50)) (oI (pres 2) (A 60))) ⟨hx, hb, hml, hown, hts⟩ (mX11_alone l D (A 0) (A 1) (A 2) (A 3) (A 4) (A 5) (A 6) (A 7) (A 8) (A 9) (A 10) (A 11) (A 12) (A 13) (A 14) (A 16) (A 33) (A 34) H.size (V 0) (V 2) (GL 0) (V 16) (GL 7) (xs (xi + 1).toNatClampNeg) (xs (xi + 2).toNatClampNeg) 1000 res hf) (fun _ _ h => h) (cwV 2 hts gL_law_X11_alone rfl rfl rfl (by decide +kernel) ⟨Nat.le_of_ble_eq_true rfl, Nat.le_of_ble_eq_true rfl⟩) hK hJ hS hA [0, 1, 4, 5, 28, 29, 30] [2, 3, 6, 7, 8, 9, 10, 11, 12, 13, 14, 15, 16, 17, 18, 19, 20, 21, 22, 23, 24, 25, 26, 27, 31, 32, 33, 34, 35, 36, 37, 38] [32, 33, 0, 1, 34, 35, 2, 3, 4, 5, 6, 7, 8, 9, 10, 11, 12, 13, 14, 15, 16, 17, 18, 19, 20, 21, 22, 23, 36, 37, 38, 24, 25, 26, 27, 28, 29, 30, 31] rfl (by decide +kernel) rfl (by decide +kernel) (by decide +kernel) (fun _ => rfl) (by decide +kernel) rfl rfl rfl hl.1 rfl (Nat.le_of_ble_eq_true rfl) dL_law_617 ⟨by show _ ≤ 600000; omega, by show _ ≤ 7302250; omega⟩ (fun _ H locs hJ hS => ?_)
  refine lv_aload_n hx hb dL_law_620 rfl (lv_at hl 2 rfl) ?_
  refine lv_aload_n hx hb dL_law_621 rfl (lv_at hl 0 rfl) ?_
  refine lv_iload_n hx hb dL_law_622 rfl (lv_at hl 3 rfl) ?_
  refine lv_iconst (v := 1) hx hb dL_law_623 (by decide) ?_
  refine lv_iadd hx hb dL_law_624 ?_
  refine va_sld hx hb hX hbl hbA hS hj1 dL_law_625 ?_
  refine lv_aload_n hx hb dL_law_626 rfl (lv_at hl 0 rfl) ?_
  refine lv_iload_n hx hb dL_law_627 rfl (lv_at hl 3 rfl) ?_
  refine lv_iconst (v := 2) hx hb dL_law_628 (by decide) ?_
  refine lv_iadd hx hb dL_law_629 ?_
  refine va_sld hx hb hX hbl hbA hS hj2 dL_law_630 ?_
  have hJ := zsw0 hJ
  refine zTi (As := [.int (xs (xi + 1).toNatClampNeg), .int (xs (xi + 2).toNatClampNeg)]) (rest := [.int res]) (ci := 9) (q0 := 0) (RV := resM.1) (X := cM D B MV MG) (pl := (cX D A V GI GL (oI (pres 0) (A 40)) (oI (pres 1) (A 50)) (oI (pres 2) (A 60))) ++ (cT (pres 0) (cI0 D A V GI GL) ++ (cT (pres 1) (cI1 D A V GI GL) ++ cT (pres 2) (cI2 D A V GI GL)))) (wn := fun _ => cM D B (sI MV 4 resM.2.1) (sG (sG MG 3 resM.2.2.1) 4 resM.2.2.2)) ⟨hx, hb, hml, hown, hts⟩ (mX12_alone l D (B 0) (B 1) (B 2) (B 3) (B 4) (B 5) (B 6) (B 7) (B 8) (B 9) (B 10) (B 11) (B 12) H.size (MV 0) (MV 1) (MV 2) (MV 3) (MV 4) (MV 5) (MV 6) (MV 7) (MG 0) (MG 3) (MG 4) (xs (xi + 1).toNatClampNeg) (xs (xi + 2).toNatClampNeg) 1000 resM hfM) (fun _ _ h => h) (cwV 2 hts gL_law_X12_alone rfl rfl rfl (by decide +kernel) ⟨Nat.le_of_ble_eq_true rfl, Nat.le_of_ble_eq_true rfl⟩) hK hJ hS hA [0, 1, 4, 5] [2, 3, 6, 7, 8, 9, 10, 11, 12] [9, 10, 0, 1, 11, 12, 2, 3, 4, 5, 6, 7, 8] rfl (by decide +kernel) rfl (by decide +kernel) (by decide +kernel) (fun _ => rfl) (by decide +kernel) rfl rfl rfl hl.1 rfl (Nat.le_of_ble_eq_true rfl) dL_law_631 ⟨by show _ ≤ 600000; omega, by show _ ≤ 7302250; omega⟩ (fun _ H locs hJ hS => ?_)
  have hJ := zsw0 hJ
  refine lv_icmp_eq (tgt := 833) hx hb dL_law_634 (by decide) (fun _ => ?_) (fun c_ => absurd he c_)
  refine W.widen (k := cells + 20) (n := slots + 1000) (by omega) (by omega) ?_
  exact kk A V GI GL pres (sI MV 4 resM.2.1) (sG (sG MG 3 resM.2.2.1) 4 resM.2.2.2) H locs rfl hI hJ hS
set_option maxHeartbeats 4000000 in
set_option maxRecDepth 100000 in
theorem lc_near {p : Program} {l : Launch} {e : Env} {s : State} {m : MethodId} {below : List Frame} {meth : Method} {c : Code} {D : zG} {b L : Nat} {xs : Nat → Int32} {xi : Int32} {A B : Nat → Nat} {V : Nat → Int32} {GI : Nat → Nat → Int32} {GL : Nat → Nat → Int64} {pres : Nat → Bool} {MV : Nat → Int32} {MG : Nat → Nat → Int32} {H : Heap} {locs : List Loc} {cells slots : Nat} {Q : State → Prop} {ls : Array Slot} (C0 : lw_At p s m meth c b L xs) (hK : zK D s) (hcs : cells ≤ 500000 ∧ slots ≤ 7000000) (hj1 : vp_in (xi + 1) L) (hj2 : vp_in (xi + 2) L) (hj3 : vp_in (xi + 3) L) (hj4 : vp_in (xi + 4) L) (hj5 : vp_in (xi + 5) L) (hl : lv_has ls 4 [(0, .ref b), (1, .ref (A 0)), (2, .ref (B 0)), (3, .int xi)]) (hI : Inv V GI GL pres MV MG) (hJ : zJ D (fun q : Nat => s.heap.size ≤ q) (wl D A B V GI GL pres MV MG) H) (hS : va_S (fun q : Nat => s.heap.size ≤ q) s.heap H locs) (kk : ∀ (A' : Nat → Nat) (V' : Nat → Int32) (GI' : Nat → Nat → Int32) (GL' : Nat → Nat → Int64) (pres' : Nat → Bool) (MV' : Nat → Int32) (MG' : Nat → Nat → Int32) (H' : Heap) (locs' : List Loc), A' 0 = A 0 → Inv V' GI' GL' pres' MV' MG' → zJ D (fun q : Nat => s.heap.size ≤ q) (wl D A' B V' GI' GL' pres' MV' MG') H' → va_S (fun q : Nat => s.heap.size ≤ q) s.heap H' locs' → W p l e room_1 s m #[Value.ref b] below meth c H' locs' (cells + 20) (slots + 1000) Q (F0 m 833 ls [])) : W p l e room_1 s m #[Value.ref b] below meth c H locs cells slots Q (F0 m 639 ls []) := by
  obtain ⟨hx, hb, hr, hml, hown, hts0, hX, hbl, hlocks, hgv⟩ := C0
  have hts : ∀ w ∈ wsL_law, w.before #[Value.ref b] s = true := fun w h => hts0 w (wsL_law_in w h)
  have hA : ∀ q : Nat, s.heap.size ≤ q → (fun q : Nat => s.heap.size ≤ q) q := fun _ h => h
  have hbA : ¬ (fun q : Nat => s.heap.size ≤ q) b := Nat.not_le.mpr hbl
  obtain ⟨res, resM, hf, hfM, he, hI⟩ := Lw_near (N := 1000) (xs (xi + 1).toNatClampNeg) (xs (xi + 2).toNatClampNeg) (Nat.le_refl _) hI
  refine lv_aload_n hx hb dL_law_639 rfl (lv_at hl 1 rfl) ?_
  refine lv_aload_n hx hb dL_law_640 rfl (lv_at hl 0 rfl) ?_
  refine lv_iload_n hx hb dL_law_641 rfl (lv_at hl 3 rfl) ?_
  refine lv_iconst (v := 1) hx hb dL_law_642 (by decide) ?_
  refine lv_iadd hx hb dL_law_643 ?_
  refine va_sld hx hb hX hbl hbA hS hj1 dL_law_644 ?_
  refine lv_aload_n hx hb dL_law_645 rfl (lv_at hl 0 rfl) ?_
  refine lv_iload_n hx hb dL_law_646 rfl (lv_at hl 3 rfl) ?_
  refine lv_iconst (v := 2) hx hb dL_law_647 (by decide) ?_
  refine lv_iadd hx hb dL_law_648 ?_
  refine va_sld hx hb hX hbl hbA hS hj2 dL_law_649 ?_
  refine zTi (As := [.int (xs (xi + 1).toNatClampNeg), .int (xs (xi + 2).toNatClampNeg)]) (rest := []) (ci := 8) (q0 := 0) (RV := res) (X := cX D A V GI GL (oI (pres 0) (A 40)) (oI (pres 1) (A 50)) (oI (pres 2) (A 60))) (pl := cM D B MV MG ++ (cT (pres 0) (cI0 D A V GI GL) ++ (cT (pres 1) (cI1 D A V GI GL) ++ cT (pres 2) (cI2 D A V GI GL)))) (wn := fun _ => cX D A V GI GL (oI (pres 0) (A 40)) (oI (pres 1) (A 50)) (oI (pres 2) (A 60))) ⟨hx, hb, hml, hown, hts⟩ (mX11_near l D (A 0) (A 1) (A 2) (A 3) (A 4) (A 5) (A 6) (A 7) (A 8) (A 9) (A 10) (A 11) (A 12) (A 13) (A 14) (A 16) H.size (V 0) (V 2) (GL 0) (xs (xi + 1).toNatClampNeg) (xs (xi + 2).toNatClampNeg) 1000 res hf) (fun _ _ h => h) (cwV 2 hts gL_law_X11_near rfl rfl rfl (by decide +kernel) ⟨Nat.le_of_ble_eq_true rfl, Nat.le_of_ble_eq_true rfl⟩) hK hJ hS hA [0, 1, 4, 5] [2, 3, 6, 7, 8, 9, 10, 11, 12, 13, 14, 15, 16, 17, 18, 19, 20, 21, 22, 23, 24, 25, 26, 27, 28, 29, 30, 31, 32, 33, 34, 35, 36, 37, 38] [35, 36, 0, 1, 37, 38, 2, 3, 4, 5, 6, 7, 8, 9, 10, 11, 12, 13, 14, 15, 16, 17, 18, 19, 20, 21, 22, 23, 24, 25, 26, 27, 28, 29, 30, 31, 32, 33, 34] rfl (by decide +kernel) rfl (by decide +kernel) (by decide +kernel) (fun _ => rfl) (by decide +kernel) rfl rfl rfl hl.1 rfl (Nat.le_of_ble_eq_true rfl) dL_law_650 ⟨by show _ ≤ 600000; omega, by show _ ≤ 7302250; omega⟩ (fun _ H locs hJ hS => ?_)
  refine lv_aload_n hx hb dL_law_653 rfl (lv_at hl 2 rfl) ?_
  refine lv_aload_n hx hb dL_law_654 rfl (lv_at hl 0 rfl) ?_
  refine lv_iload_n hx hb dL_law_655 rfl (lv_at hl 3 rfl) ?_
  refine lv_iconst (v := 1) hx hb dL_law_656 (by decide) ?_
  refine lv_iadd hx hb dL_law_657 ?_
  refine va_sld hx hb hX hbl hbA hS hj1 dL_law_658 ?_
  refine lv_aload_n hx hb dL_law_659 rfl (lv_at hl 0 rfl) ?_
  refine lv_iload_n hx hb dL_law_660 rfl (lv_at hl 3 rfl) ?_
  refine lv_iconst (v := 2) hx hb dL_law_661 (by decide) ?_
  refine lv_iadd hx hb dL_law_662 ?_
  refine va_sld hx hb hX hbl hbA hS hj2 dL_law_663 ?_
  have hJ := zsw0 hJ
  refine zTi (As := [.int (xs (xi + 1).toNatClampNeg), .int (xs (xi + 2).toNatClampNeg)]) (rest := [.int res]) (ci := 9) (q0 := 0) (RV := resM) (X := cM D B MV MG) (pl := (cX D A V GI GL (oI (pres 0) (A 40)) (oI (pres 1) (A 50)) (oI (pres 2) (A 60))) ++ (cT (pres 0) (cI0 D A V GI GL) ++ (cT (pres 1) (cI1 D A V GI GL) ++ cT (pres 2) (cI2 D A V GI GL)))) (wn := fun _ => cM D B MV MG) ⟨hx, hb, hml, hown, hts⟩ (mX12_near l D (B 0) (B 1) (B 2) (B 3) (B 4) (B 5) (B 6) (B 7) (B 8) (B 9) (B 10) (B 11) (B 12) H.size (MV 0) (MV 1) (MV 2) (MV 3) (MV 4) (MV 5) (MV 6) (MV 7) (MG 0) (xs (xi + 1).toNatClampNeg) (xs (xi + 2).toNatClampNeg) 1000 resM hfM) (fun _ _ h => h) (cwV 2 hts gL_law_X12_near rfl rfl rfl (by decide +kernel) ⟨Nat.le_of_ble_eq_true rfl, Nat.le_of_ble_eq_true rfl⟩) hK hJ hS hA [0, 1] [2, 3, 4, 5, 6, 7, 8, 9, 10, 11, 12] [11, 12, 0, 1, 2, 3, 4, 5, 6, 7, 8, 9, 10] rfl (by decide +kernel) rfl (by decide +kernel) (by decide +kernel) (fun _ => rfl) (by decide +kernel) rfl rfl rfl hl.1 rfl (Nat.le_of_ble_eq_true rfl) dL_law_664 ⟨by show _ ≤ 600000; omega, by show _ ≤ 7302250; omega⟩ (fun _ H locs hJ hS => ?_)
  have hJ := zsw0 hJ
  refine lv_icmp_eq (tgt := 833) hx hb dL_law_667 (by decide) (fun _ => ?_) (fun c_ => absurd he c_)
  refine W.widen (k := cells + 20) (n := slots + 1000) (by omega) (by omega) ?_
  exact kk A V GI GL pres MV MG H locs rfl hI hJ hS
set_option maxHeartbeats 4000000 in
set_option maxRecDepth 100000 in
theorem lc_tally_0 {p : Program} {l : Launch} {e : Env} {s : State} {m : MethodId} {below : List Frame} {meth : Method} {c : Code} {D : zG} {b L : Nat} {xs : Nat → Int32} {xi : Int32} {A B : Nat → Nat} {V : Nat → Int32} {GI : Nat → Nat → Int32} {GL : Nat → Nat → Int64} {pres : Nat → Bool} {MV : Nat → Int32} {MG : Nat → Nat → Int32} {H : Heap} {locs : List Loc} {cells slots : Nat} {Q : State → Prop} {ls : Array Slot} (C0 : lw_At p s m meth c b L xs) (hK : zK D s) (hcs : cells ≤ 500000 ∧ slots ≤ 7000000) (hj1 : vp_in (xi + 1) L) (hj2 : vp_in (xi + 2) L) (hj3 : vp_in (xi + 3) L) (hj4 : vp_in (xi + 4) L) (hj5 : vp_in (xi + 5) L) (hl : lv_has ls 4 [(0, .ref b), (1, .ref (A 0)), (2, .ref (B 0)), (3, .int xi)]) (hI : Inv V GI GL pres MV MG) (hJ : zJ D (fun q : Nat => s.heap.size ≤ q) (wl D A B V GI GL pres MV MG) H) (hS : va_S (fun q : Nat => s.heap.size ≤ q) s.heap H locs) (hp2 : (xs (xi + 2).toNatClampNeg) = 0) (kk : ∀ (A' : Nat → Nat) (V' : Nat → Int32) (GI' : Nat → Nat → Int32) (GL' : Nat → Nat → Int64) (pres' : Nat → Bool) (MV' : Nat → Int32) (MG' : Nat → Nat → Int32) (H' : Heap) (locs' : List Loc), A' 0 = A 0 → Inv V' GI' GL' pres' MV' MG' → zJ D (fun q : Nat => s.heap.size ≤ q) (wl D A' B V' GI' GL' pres' MV' MG') H' → va_S (fun q : Nat => s.heap.size ≤ q) s.heap H' locs' → W p l e room_1 s m #[Value.ref b] below meth c H' locs' (cells + 20) (slots + 1000) Q (F0 m 833 ls [])) : W p l e room_1 s m #[Value.ref b] below meth c H locs cells slots Q (F0 m 672 ls []) := by
  obtain ⟨hx, hb, hr, hml, hown, hts0, hX, hbl, hlocks, hgv⟩ := C0
  have hts : ∀ w ∈ wsL_law, w.before #[Value.ref b] s = true := fun w h => hts0 w (wsL_law_in w h)
  have hA : ∀ q : Nat, s.heap.size ≤ q → (fun q : Nat => s.heap.size ≤ q) q := fun _ h => h
  have hbA : ¬ (fun q : Nat => s.heap.size ≤ q) b := Nat.not_le.mpr hbl
  obtain ⟨res, resM, hf, hfM, he, hI⟩ := Lw_tally (N := 1000) (xs (xi + 1).toNatClampNeg) (0 : Int32) (Nat.le_refl _) hI
  refine lv_aload_n hx hb dL_law_672 rfl (lv_at hl 1 rfl) ?_
  refine lv_aload_n hx hb dL_law_673 rfl (lv_at hl 0 rfl) ?_
  refine lv_iload_n hx hb dL_law_674 rfl (lv_at hl 3 rfl) ?_
  refine lv_iconst (v := 1) hx hb dL_law_675 (by decide) ?_
  refine lv_iadd hx hb dL_law_676 ?_
  refine va_sld hx hb hX hbl hbA hS hj1 dL_law_677 ?_
  refine lv_aload_n hx hb dL_law_678 rfl (lv_at hl 0 rfl) ?_
  refine lv_iload_n hx hb dL_law_679 rfl (lv_at hl 3 rfl) ?_
  refine lv_iconst (v := 2) hx hb dL_law_680 (by decide) ?_
  refine lv_iadd hx hb dL_law_681 ?_
  refine va_sld hx hb hX hbl hbA hS hj2 dL_law_682 ?_
  refine lv_if_eq (tgt := 690) hx hb dL_law_683 (by decide) (fun _ => ?_) (fun c_ => absurd hp2 c_)
  refine lv_iconst (v := 0) hx hb dL_law_690 (by decide) ?_
  refine zTi (As := [.int (xs (xi + 1).toNatClampNeg), .int (0 : Int32)]) (rest := []) (ci := 8) (q0 := 0) (RV := res) (X := cX D A V GI GL (oI (pres 0) (A 40)) (oI (pres 1) (A 50)) (oI (pres 2) (A 60))) (pl := cM D B MV MG ++ (cT (pres 0) (cI0 D A V GI GL) ++ (cT (pres 1) (cI1 D A V GI GL) ++ cT (pres 2) (cI2 D A V GI GL)))) (wn := fun _ => cX D A V GI GL (oI (pres 0) (A 40)) (oI (pres 1) (A 50)) (oI (pres 2) (A 60))) ⟨hx, hb, hml, hown, hts⟩ (mX11_tally l D (A 0) (A 1) (A 2) (A 3) (A 4) (A 5) (A 6) (A 7) (A 8) (A 9) (A 10) (A 11) (A 12) (A 13) (A 14) (A 16) H.size (V 0) (V 2) (GL 0) (xs (xi + 1).toNatClampNeg) (0 : Int32) 1000 res hf) (fun _ _ h => h) (cwV 2 hts gL_law_X11_tally rfl rfl rfl (by decide +kernel) ⟨Nat.le_of_ble_eq_true rfl, Nat.le_of_ble_eq_true rfl⟩) hK hJ hS hA [0, 1, 4, 5] [2, 3, 6, 7, 8, 9, 10, 11, 12, 13, 14, 15, 16, 17, 18, 19, 20, 21, 22, 23, 24, 25, 26, 27, 28, 29, 30, 31, 32, 33, 34, 35, 36, 37, 38] [35, 36, 0, 1, 37, 38, 2, 3, 4, 5, 6, 7, 8, 9, 10, 11, 12, 13, 14, 15, 16, 17, 18, 19, 20, 21, 22, 23, 24, 25, 26, 27, 28, 29, 30, 31, 32, 33, 34] rfl (by decide +kernel) rfl (by decide +kernel) (by decide +kernel) (fun _ => rfl) (by decide +kernel) rfl rfl rfl hl.1 rfl (Nat.le_of_ble_eq_true rfl) dL_law_691 ⟨by show _ ≤ 600000; omega, by show _ ≤ 7302250; omega⟩ (fun _ H locs hJ hS => ?_)
  refine lv_aload_n hx hb dL_law_694 rfl (lv_at hl 2 rfl) ?_
  refine lv_aload_n hx hb dL_law_695 rfl (lv_at hl 0 rfl) ?_
  refine lv_iload_n hx hb dL_law_696 rfl (lv_at hl 3 rfl) ?_
  refine lv_iconst (v := 1) hx hb dL_law_697 (by decide) ?_
  refine lv_iadd hx hb dL_law_698 ?_
  refine va_sld hx hb hX hbl hbA hS hj1 dL_law_699 ?_
  refine lv_aload_n hx hb dL_law_700 rfl (lv_at hl 0 rfl) ?_
  refine lv_iload_n hx hb dL_law_701 rfl (lv_at hl 3 rfl) ?_
  refine lv_iconst (v := 2) hx hb dL_law_702 (by decide) ?_
  refine lv_iadd hx hb dL_law_703 ?_
  refine va_sld hx hb hX hbl hbA hS hj2 dL_law_704 ?_
  refine lv_if_eq (tgt := 712) hx hb dL_law_705 (by decide) (fun _ => ?_) (fun c_ => absurd hp2 c_)
  refine lv_iconst (v := 0) hx hb dL_law_712 (by decide) ?_
  have hJ := zsw0 hJ
  refine zTi (As := [.int (xs (xi + 1).toNatClampNeg), .int (0 : Int32)]) (rest := [.int res]) (ci := 9) (q0 := 0) (RV := resM) (X := cM D B MV MG) (pl := (cX D A V GI GL (oI (pres 0) (A 40)) (oI (pres 1) (A 50)) (oI (pres 2) (A 60))) ++ (cT (pres 0) (cI0 D A V GI GL) ++ (cT (pres 1) (cI1 D A V GI GL) ++ cT (pres 2) (cI2 D A V GI GL)))) (wn := fun _ => cM D B MV MG) ⟨hx, hb, hml, hown, hts⟩ (mX12_tally l D (B 0) (B 1) (B 2) (B 3) (B 4) (B 5) (B 6) (B 7) (B 8) (B 9) (B 10) (B 11) (B 12) H.size (MV 0) (MV 1) (MV 2) (MV 3) (MV 4) (MV 5) (MV 6) (MV 7) (MG 0) (xs (xi + 1).toNatClampNeg) (0 : Int32) 1000 resM hfM) (fun _ _ h => h) (cwV 2 hts gL_law_X12_tally rfl rfl rfl (by decide +kernel) ⟨Nat.le_of_ble_eq_true rfl, Nat.le_of_ble_eq_true rfl⟩) hK hJ hS hA [0, 1] [2, 3, 4, 5, 6, 7, 8, 9, 10, 11, 12] [11, 12, 0, 1, 2, 3, 4, 5, 6, 7, 8, 9, 10] rfl (by decide +kernel) rfl (by decide +kernel) (by decide +kernel) (fun _ => rfl) (by decide +kernel) rfl rfl rfl hl.1 rfl (Nat.le_of_ble_eq_true rfl) dL_law_713 ⟨by show _ ≤ 600000; omega, by show _ ≤ 7302250; omega⟩ (fun _ H locs hJ hS => ?_)
  have hJ := zsw0 hJ
  refine lv_icmp_eq (tgt := 833) hx hb dL_law_716 (by decide) (fun _ => ?_) (fun c_ => absurd he c_)
  refine W.widen (k := cells + 20) (n := slots + 1000) (by omega) (by omega) ?_
  exact kk A V GI GL pres MV MG H locs rfl hI hJ hS
set_option maxHeartbeats 4000000 in
set_option maxRecDepth 100000 in
theorem lc_tally_1 {p : Program} {l : Launch} {e : Env} {s : State} {m : MethodId} {below : List Frame} {meth : Method} {c : Code} {D : zG} {b L : Nat} {xs : Nat → Int32} {xi : Int32} {A B : Nat → Nat} {V : Nat → Int32} {GI : Nat → Nat → Int32} {GL : Nat → Nat → Int64} {pres : Nat → Bool} {MV : Nat → Int32} {MG : Nat → Nat → Int32} {H : Heap} {locs : List Loc} {cells slots : Nat} {Q : State → Prop} {ls : Array Slot} (C0 : lw_At p s m meth c b L xs) (hK : zK D s) (hcs : cells ≤ 500000 ∧ slots ≤ 7000000) (hj1 : vp_in (xi + 1) L) (hj2 : vp_in (xi + 2) L) (hj3 : vp_in (xi + 3) L) (hj4 : vp_in (xi + 4) L) (hj5 : vp_in (xi + 5) L) (hl : lv_has ls 4 [(0, .ref b), (1, .ref (A 0)), (2, .ref (B 0)), (3, .int xi)]) (hI : Inv V GI GL pres MV MG) (hJ : zJ D (fun q : Nat => s.heap.size ≤ q) (wl D A B V GI GL pres MV MG) H) (hS : va_S (fun q : Nat => s.heap.size ≤ q) s.heap H locs) (hp2 : ¬ (xs (xi + 2).toNatClampNeg) = 0) (kk : ∀ (A' : Nat → Nat) (V' : Nat → Int32) (GI' : Nat → Nat → Int32) (GL' : Nat → Nat → Int64) (pres' : Nat → Bool) (MV' : Nat → Int32) (MG' : Nat → Nat → Int32) (H' : Heap) (locs' : List Loc), A' 0 = A 0 → Inv V' GI' GL' pres' MV' MG' → zJ D (fun q : Nat => s.heap.size ≤ q) (wl D A' B V' GI' GL' pres' MV' MG') H' → va_S (fun q : Nat => s.heap.size ≤ q) s.heap H' locs' → W p l e room_1 s m #[Value.ref b] below meth c H' locs' (cells + 20) (slots + 1000) Q (F0 m 833 ls [])) : W p l e room_1 s m #[Value.ref b] below meth c H locs cells slots Q (F0 m 672 ls []) := by
  obtain ⟨hx, hb, hr, hml, hown, hts0, hX, hbl, hlocks, hgv⟩ := C0
  have hts : ∀ w ∈ wsL_law, w.before #[Value.ref b] s = true := fun w h => hts0 w (wsL_law_in w h)
  have hA : ∀ q : Nat, s.heap.size ≤ q → (fun q : Nat => s.heap.size ≤ q) q := fun _ h => h
  have hbA : ¬ (fun q : Nat => s.heap.size ≤ q) b := Nat.not_le.mpr hbl
  obtain ⟨res, resM, hf, hfM, he, hI⟩ := Lw_tally (N := 1000) (xs (xi + 1).toNatClampNeg) (1 : Int32) (Nat.le_refl _) hI
  refine lv_aload_n hx hb dL_law_672 rfl (lv_at hl 1 rfl) ?_
  refine lv_aload_n hx hb dL_law_673 rfl (lv_at hl 0 rfl) ?_
  refine lv_iload_n hx hb dL_law_674 rfl (lv_at hl 3 rfl) ?_
  refine lv_iconst (v := 1) hx hb dL_law_675 (by decide) ?_
  refine lv_iadd hx hb dL_law_676 ?_
  refine va_sld hx hb hX hbl hbA hS hj1 dL_law_677 ?_
  refine lv_aload_n hx hb dL_law_678 rfl (lv_at hl 0 rfl) ?_
  refine lv_iload_n hx hb dL_law_679 rfl (lv_at hl 3 rfl) ?_
  refine lv_iconst (v := 2) hx hb dL_law_680 (by decide) ?_
  refine lv_iadd hx hb dL_law_681 ?_
  refine va_sld hx hb hX hbl hbA hS hj2 dL_law_682 ?_
  refine lv_if_eq (tgt := 690) hx hb dL_law_683 (by decide) (fun c_ => absurd c_ hp2) (fun _ => ?_)
  refine lv_iconst (v := 1) hx hb dL_law_686 (by decide) ?_
  refine lv_goto (tgt := 691) hx hb dL_law_687 (by decide) ?_
  refine zTi (As := [.int (xs (xi + 1).toNatClampNeg), .int (1 : Int32)]) (rest := []) (ci := 8) (q0 := 0) (RV := res) (X := cX D A V GI GL (oI (pres 0) (A 40)) (oI (pres 1) (A 50)) (oI (pres 2) (A 60))) (pl := cM D B MV MG ++ (cT (pres 0) (cI0 D A V GI GL) ++ (cT (pres 1) (cI1 D A V GI GL) ++ cT (pres 2) (cI2 D A V GI GL)))) (wn := fun _ => cX D A V GI GL (oI (pres 0) (A 40)) (oI (pres 1) (A 50)) (oI (pres 2) (A 60))) ⟨hx, hb, hml, hown, hts⟩ (mX11_tally l D (A 0) (A 1) (A 2) (A 3) (A 4) (A 5) (A 6) (A 7) (A 8) (A 9) (A 10) (A 11) (A 12) (A 13) (A 14) (A 16) H.size (V 0) (V 2) (GL 0) (xs (xi + 1).toNatClampNeg) (1 : Int32) 1000 res hf) (fun _ _ h => h) (cwV 2 hts gL_law_X11_tally rfl rfl rfl (by decide +kernel) ⟨Nat.le_of_ble_eq_true rfl, Nat.le_of_ble_eq_true rfl⟩) hK hJ hS hA [0, 1, 4, 5] [2, 3, 6, 7, 8, 9, 10, 11, 12, 13, 14, 15, 16, 17, 18, 19, 20, 21, 22, 23, 24, 25, 26, 27, 28, 29, 30, 31, 32, 33, 34, 35, 36, 37, 38] [35, 36, 0, 1, 37, 38, 2, 3, 4, 5, 6, 7, 8, 9, 10, 11, 12, 13, 14, 15, 16, 17, 18, 19, 20, 21, 22, 23, 24, 25, 26, 27, 28, 29, 30, 31, 32, 33, 34] rfl (by decide +kernel) rfl (by decide +kernel) (by decide +kernel) (fun _ => rfl) (by decide +kernel) rfl rfl rfl hl.1 rfl (Nat.le_of_ble_eq_true rfl) dL_law_691 ⟨by show _ ≤ 600000; omega, by show _ ≤ 7302250; omega⟩ (fun _ H locs hJ hS => ?_)
  refine lv_aload_n hx hb dL_law_694 rfl (lv_at hl 2 rfl) ?_
  refine lv_aload_n hx hb dL_law_695 rfl (lv_at hl 0 rfl) ?_
  refine lv_iload_n hx hb dL_law_696 rfl (lv_at hl 3 rfl) ?_
  refine lv_iconst (v := 1) hx hb dL_law_697 (by decide) ?_
  refine lv_iadd hx hb dL_law_698 ?_
  refine va_sld hx hb hX hbl hbA hS hj1 dL_law_699 ?_
  refine lv_aload_n hx hb dL_law_700 rfl (lv_at hl 0 rfl) ?_
  refine lv_iload_n hx hb dL_law_701 rfl (lv_at hl 3 rfl) ?_
  refine lv_iconst (v := 2) hx hb dL_law_702 (by decide) ?_
  refine lv_iadd hx hb dL_law_703 ?_
  refine va_sld hx hb hX hbl hbA hS hj2 dL_law_704 ?_
  refine lv_if_eq (tgt := 712) hx hb dL_law_705 (by decide) (fun c_ => absurd c_ hp2) (fun _ => ?_)
  refine lv_iconst (v := 1) hx hb dL_law_708 (by decide) ?_
  refine lv_goto (tgt := 713) hx hb dL_law_709 (by decide) ?_
  have hJ := zsw0 hJ
  refine zTi (As := [.int (xs (xi + 1).toNatClampNeg), .int (1 : Int32)]) (rest := [.int res]) (ci := 9) (q0 := 0) (RV := resM) (X := cM D B MV MG) (pl := (cX D A V GI GL (oI (pres 0) (A 40)) (oI (pres 1) (A 50)) (oI (pres 2) (A 60))) ++ (cT (pres 0) (cI0 D A V GI GL) ++ (cT (pres 1) (cI1 D A V GI GL) ++ cT (pres 2) (cI2 D A V GI GL)))) (wn := fun _ => cM D B MV MG) ⟨hx, hb, hml, hown, hts⟩ (mX12_tally l D (B 0) (B 1) (B 2) (B 3) (B 4) (B 5) (B 6) (B 7) (B 8) (B 9) (B 10) (B 11) (B 12) H.size (MV 0) (MV 1) (MV 2) (MV 3) (MV 4) (MV 5) (MV 6) (MV 7) (MG 0) (xs (xi + 1).toNatClampNeg) (1 : Int32) 1000 resM hfM) (fun _ _ h => h) (cwV 2 hts gL_law_X12_tally rfl rfl rfl (by decide +kernel) ⟨Nat.le_of_ble_eq_true rfl, Nat.le_of_ble_eq_true rfl⟩) hK hJ hS hA [0, 1] [2, 3, 4, 5, 6, 7, 8, 9, 10, 11, 12] [11, 12, 0, 1, 2, 3, 4, 5, 6, 7, 8, 9, 10] rfl (by decide +kernel) rfl (by decide +kernel) (by decide +kernel) (fun _ => rfl) (by decide +kernel) rfl rfl rfl hl.1 rfl (Nat.le_of_ble_eq_true rfl) dL_law_713 ⟨by show _ ≤ 600000; omega, by show _ ≤ 7302250; omega⟩ (fun _ H locs hJ hS => ?_)
  have hJ := zsw0 hJ
  refine lv_icmp_eq (tgt := 833) hx hb dL_law_716 (by decide) (fun _ => ?_) (fun c_ => absurd he c_)
  refine W.widen (k := cells + 20) (n := slots + 1000) (by omega) (by omega) ?_
  exact kk A V GI GL pres MV MG H locs rfl hI hJ hS
set_option maxHeartbeats 4000000 in
set_option maxRecDepth 100000 in
theorem lc_places {p : Program} {l : Launch} {e : Env} {s : State} {m : MethodId} {below : List Frame} {meth : Method} {c : Code} {D : zG} {b L : Nat} {xs : Nat → Int32} {xi : Int32} {A B : Nat → Nat} {V : Nat → Int32} {GI : Nat → Nat → Int32} {GL : Nat → Nat → Int64} {pres : Nat → Bool} {MV : Nat → Int32} {MG : Nat → Nat → Int32} {H : Heap} {locs : List Loc} {cells slots : Nat} {Q : State → Prop} {ls : Array Slot} (C0 : lw_At p s m meth c b L xs) (hK : zK D s) (hcs : cells ≤ 500000 ∧ slots ≤ 7000000) (hj1 : vp_in (xi + 1) L) (hj2 : vp_in (xi + 2) L) (hj3 : vp_in (xi + 3) L) (hj4 : vp_in (xi + 4) L) (hj5 : vp_in (xi + 5) L) (hl : lv_has ls 4 [(0, .ref b), (1, .ref (A 0)), (2, .ref (B 0)), (3, .int xi)]) (hI : Inv V GI GL pres MV MG) (hJ : zJ D (fun q : Nat => s.heap.size ≤ q) (wl D A B V GI GL pres MV MG) H) (hS : va_S (fun q : Nat => s.heap.size ≤ q) s.heap H locs) (kk : ∀ (A' : Nat → Nat) (V' : Nat → Int32) (GI' : Nat → Nat → Int32) (GL' : Nat → Nat → Int64) (pres' : Nat → Bool) (MV' : Nat → Int32) (MG' : Nat → Nat → Int32) (H' : Heap) (locs' : List Loc), A' 0 = A 0 → Inv V' GI' GL' pres' MV' MG' → zJ D (fun q : Nat => s.heap.size ≤ q) (wl D A' B V' GI' GL' pres' MV' MG') H' → va_S (fun q : Nat => s.heap.size ≤ q) s.heap H' locs' → W p l e room_1 s m #[Value.ref b] below meth c H' locs' (cells + 20) (slots + 1000) Q (F0 m 833 ls [])) : W p l e room_1 s m #[Value.ref b] below meth c H locs cells slots Q (F0 m 721 ls []) := by
  obtain ⟨hx, hb, hr, hml, hown, hts0, hX, hbl, hlocks, hgv⟩ := C0
  have hts : ∀ w ∈ wsL_law, w.before #[Value.ref b] s = true := fun w h => hts0 w (wsL_law_in w h)
  have hA : ∀ q : Nat, s.heap.size ≤ q → (fun q : Nat => s.heap.size ≤ q) q := fun _ h => h
  have hbA : ¬ (fun q : Nat => s.heap.size ≤ q) b := Nat.not_le.mpr hbl
  obtain ⟨res, resM, hf, hfM, he, hI⟩ := Lw_places (N := 1000) (xs (xi + 1).toNatClampNeg) (xs (xi + 2).toNatClampNeg) (Nat.le_refl _) hI
  refine lv_aload_n hx hb dL_law_721 rfl (lv_at hl 1 rfl) ?_
  refine lv_aload_n hx hb dL_law_722 rfl (lv_at hl 0 rfl) ?_
  refine lv_iload_n hx hb dL_law_723 rfl (lv_at hl 3 rfl) ?_
  refine lv_iconst (v := 1) hx hb dL_law_724 (by decide) ?_
  refine lv_iadd hx hb dL_law_725 ?_
  refine va_sld hx hb hX hbl hbA hS hj1 dL_law_726 ?_
  refine lv_aload_n hx hb dL_law_727 rfl (lv_at hl 0 rfl) ?_
  refine lv_iload_n hx hb dL_law_728 rfl (lv_at hl 3 rfl) ?_
  refine lv_iconst (v := 2) hx hb dL_law_729 (by decide) ?_
  refine lv_iadd hx hb dL_law_730 ?_
  refine va_sld hx hb hX hbl hbA hS hj2 dL_law_731 ?_
  refine zTi (As := [.int (xs (xi + 1).toNatClampNeg), .int (xs (xi + 2).toNatClampNeg)]) (rest := []) (ci := 8) (q0 := 0) (RV := res) (X := cX D A V GI GL (oI (pres 0) (A 40)) (oI (pres 1) (A 50)) (oI (pres 2) (A 60))) (pl := cM D B MV MG ++ (cT (pres 0) (cI0 D A V GI GL) ++ (cT (pres 1) (cI1 D A V GI GL) ++ cT (pres 2) (cI2 D A V GI GL)))) (wn := fun _ => cX D A V GI GL (oI (pres 0) (A 40)) (oI (pres 1) (A 50)) (oI (pres 2) (A 60))) ⟨hx, hb, hml, hown, hts⟩ (mX11_places l D (A 0) (A 1) (A 2) (A 3) (A 4) (A 5) (A 6) (A 7) (A 8) (A 9) (A 10) (A 11) (A 12) (A 13) (A 14) (A 16) H.size (V 0) (V 2) (GL 0) (xs (xi + 1).toNatClampNeg) (xs (xi + 2).toNatClampNeg) 1000 res hf) (fun _ _ h => h) (cwV 2 hts gL_law_X11_places rfl rfl rfl (by decide +kernel) ⟨Nat.le_of_ble_eq_true rfl, Nat.le_of_ble_eq_true rfl⟩) hK hJ hS hA [0, 1, 4, 5] [2, 3, 6, 7, 8, 9, 10, 11, 12, 13, 14, 15, 16, 17, 18, 19, 20, 21, 22, 23, 24, 25, 26, 27, 28, 29, 30, 31, 32, 33, 34, 35, 36, 37, 38] [35, 36, 0, 1, 37, 38, 2, 3, 4, 5, 6, 7, 8, 9, 10, 11, 12, 13, 14, 15, 16, 17, 18, 19, 20, 21, 22, 23, 24, 25, 26, 27, 28, 29, 30, 31, 32, 33, 34] rfl (by decide +kernel) rfl (by decide +kernel) (by decide +kernel) (fun _ => rfl) (by decide +kernel) rfl rfl rfl hl.1 rfl (Nat.le_of_ble_eq_true rfl) dL_law_732 ⟨by show _ ≤ 600000; omega, by show _ ≤ 7302250; omega⟩ (fun _ H locs hJ hS => ?_)
  refine lv_aload_n hx hb dL_law_735 rfl (lv_at hl 2 rfl) ?_
  refine lv_aload_n hx hb dL_law_736 rfl (lv_at hl 0 rfl) ?_
  refine lv_iload_n hx hb dL_law_737 rfl (lv_at hl 3 rfl) ?_
  refine lv_iconst (v := 1) hx hb dL_law_738 (by decide) ?_
  refine lv_iadd hx hb dL_law_739 ?_
  refine va_sld hx hb hX hbl hbA hS hj1 dL_law_740 ?_
  refine lv_aload_n hx hb dL_law_741 rfl (lv_at hl 0 rfl) ?_
  refine lv_iload_n hx hb dL_law_742 rfl (lv_at hl 3 rfl) ?_
  refine lv_iconst (v := 2) hx hb dL_law_743 (by decide) ?_
  refine lv_iadd hx hb dL_law_744 ?_
  refine va_sld hx hb hX hbl hbA hS hj2 dL_law_745 ?_
  have hJ := zsw0 hJ
  refine zTi (As := [.int (xs (xi + 1).toNatClampNeg), .int (xs (xi + 2).toNatClampNeg)]) (rest := [.int res]) (ci := 9) (q0 := 0) (RV := resM) (X := cM D B MV MG) (pl := (cX D A V GI GL (oI (pres 0) (A 40)) (oI (pres 1) (A 50)) (oI (pres 2) (A 60))) ++ (cT (pres 0) (cI0 D A V GI GL) ++ (cT (pres 1) (cI1 D A V GI GL) ++ cT (pres 2) (cI2 D A V GI GL)))) (wn := fun _ => cM D B MV MG) ⟨hx, hb, hml, hown, hts⟩ (mX12_places l D (B 0) (B 1) (B 2) (B 3) (B 4) (B 5) (B 6) (B 7) (B 8) (B 9) (B 10) (B 11) (B 12) H.size (MV 0) (MV 1) (MV 2) (MV 3) (MV 4) (MV 5) (MV 6) (MV 7) (MG 0) (xs (xi + 1).toNatClampNeg) (xs (xi + 2).toNatClampNeg) 1000 resM hfM) (fun _ _ h => h) (cwV 2 hts gL_law_X12_places rfl rfl rfl (by decide +kernel) ⟨Nat.le_of_ble_eq_true rfl, Nat.le_of_ble_eq_true rfl⟩) hK hJ hS hA [0, 1] [2, 3, 4, 5, 6, 7, 8, 9, 10, 11, 12] [11, 12, 0, 1, 2, 3, 4, 5, 6, 7, 8, 9, 10] rfl (by decide +kernel) rfl (by decide +kernel) (by decide +kernel) (fun _ => rfl) (by decide +kernel) rfl rfl rfl hl.1 rfl (Nat.le_of_ble_eq_true rfl) dL_law_746 ⟨by show _ ≤ 600000; omega, by show _ ≤ 7302250; omega⟩ (fun _ H locs hJ hS => ?_)
  have hJ := zsw0 hJ
  refine lv_icmp_eq (tgt := 833) hx hb dL_law_749 (by decide) (fun _ => ?_) (fun c_ => absurd he c_)
  refine W.widen (k := cells + 20) (n := slots + 1000) (by omega) (by omega) ?_
  exact kk A V GI GL pres MV MG H locs rfl hI hJ hS
set_option maxHeartbeats 4000000 in
set_option maxRecDepth 100000 in
theorem lc_instead {p : Program} {l : Launch} {e : Env} {s : State} {m : MethodId} {below : List Frame} {meth : Method} {c : Code} {D : zG} {b L : Nat} {xs : Nat → Int32} {xi : Int32} {A B : Nat → Nat} {V : Nat → Int32} {GI : Nat → Nat → Int32} {GL : Nat → Nat → Int64} {pres : Nat → Bool} {MV : Nat → Int32} {MG : Nat → Nat → Int32} {H : Heap} {locs : List Loc} {cells slots : Nat} {Q : State → Prop} {ls : Array Slot} (C0 : lw_At p s m meth c b L xs) (hK : zK D s) (hcs : cells ≤ 500000 ∧ slots ≤ 7000000) (hj1 : vp_in (xi + 1) L) (hj2 : vp_in (xi + 2) L) (hj3 : vp_in (xi + 3) L) (hj4 : vp_in (xi + 4) L) (hj5 : vp_in (xi + 5) L) (hl : lv_has ls 4 [(0, .ref b), (1, .ref (A 0)), (2, .ref (B 0)), (3, .int xi)]) (hI : Inv V GI GL pres MV MG) (hJ : zJ D (fun q : Nat => s.heap.size ≤ q) (wl D A B V GI GL pres MV MG) H) (hS : va_S (fun q : Nat => s.heap.size ≤ q) s.heap H locs) (kk : ∀ (A' : Nat → Nat) (V' : Nat → Int32) (GI' : Nat → Nat → Int32) (GL' : Nat → Nat → Int64) (pres' : Nat → Bool) (MV' : Nat → Int32) (MG' : Nat → Nat → Int32) (H' : Heap) (locs' : List Loc), A' 0 = A 0 → Inv V' GI' GL' pres' MV' MG' → zJ D (fun q : Nat => s.heap.size ≤ q) (wl D A' B V' GI' GL' pres' MV' MG') H' → va_S (fun q : Nat => s.heap.size ≤ q) s.heap H' locs' → W p l e room_1 s m #[Value.ref b] below meth c H' locs' (cells + 20) (slots + 1000) Q (F0 m 833 ls [])) : W p l e room_1 s m #[Value.ref b] below meth c H locs cells slots Q (F0 m 754 ls []) := by
  obtain ⟨hx, hb, hr, hml, hown, hts0, hX, hbl, hlocks, hgv⟩ := C0
  have hts : ∀ w ∈ wsL_law, w.before #[Value.ref b] s = true := fun w h => hts0 w (wsL_law_in w h)
  have hA : ∀ q : Nat, s.heap.size ≤ q → (fun q : Nat => s.heap.size ≤ q) q := fun _ h => h
  have hbA : ¬ (fun q : Nat => s.heap.size ≤ q) b := Nat.not_le.mpr hbl
  obtain ⟨res, resM, hf, hfM, he, hI⟩ := Lw_instead (N := 1000) (xs (xi + 1).toNatClampNeg) (xs (xi + 2).toNatClampNeg) (Nat.le_refl _) hI
  refine lv_aload_n hx hb dL_law_754 rfl (lv_at hl 1 rfl) ?_
  refine lv_aload_n hx hb dL_law_755 rfl (lv_at hl 0 rfl) ?_
  refine lv_iload_n hx hb dL_law_756 rfl (lv_at hl 3 rfl) ?_
  refine lv_iconst (v := 1) hx hb dL_law_757 (by decide) ?_
  refine lv_iadd hx hb dL_law_758 ?_
  refine va_sld hx hb hX hbl hbA hS hj1 dL_law_759 ?_
  refine lv_aload_n hx hb dL_law_760 rfl (lv_at hl 0 rfl) ?_
  refine lv_iload_n hx hb dL_law_761 rfl (lv_at hl 3 rfl) ?_
  refine lv_iconst (v := 2) hx hb dL_law_762 (by decide) ?_
  refine lv_iadd hx hb dL_law_763 ?_
  refine va_sld hx hb hX hbl hbA hS hj2 dL_law_764 ?_
  refine zTi (As := [.int (xs (xi + 1).toNatClampNeg), .int (xs (xi + 2).toNatClampNeg)]) (rest := []) (ci := 8) (q0 := 0) (RV := res.1) (X := cX D A V GI GL (oI (pres 0) (A 40)) (oI (pres 1) (A 50)) (oI (pres 2) (A 60))) (pl := cM D B MV MG ++ (cT (pres 0) (cI0 D A V GI GL) ++ (cT (pres 1) (cI1 D A V GI GL) ++ cT (pres 2) (cI2 D A V GI GL)))) (wn := fun _ => cX D A (sI V 19 res.2.1) (sG GI 6 res.2.2) GL (oI (pres 0) (A 40)) (oI (pres 1) (A 50)) (oI (pres 2) (A 60))) ⟨hx, hb, hml, hown, hts⟩ (mX11_instead l D (A 0) (A 1) (A 2) (A 3) (A 4) (A 5) (A 6) (A 7) (A 8) (A 9) (A 10) (A 11) (A 12) (A 13) (A 14) (A 16) (A 18) (A 38) H.size (V 0) (V 2) (GL 0) (V 4) (GI 1) (V 19) (GI 6) (xs (xi + 1).toNatClampNeg) (xs (xi + 2).toNatClampNeg) 1000 res hf) (fun _ _ h => h) (cwV 2 hts gL_law_X11_instead rfl rfl rfl (by decide +kernel) ⟨Nat.le_of_ble_eq_true rfl, Nat.le_of_ble_eq_true rfl⟩) hK hJ hS hA [0, 1, 4, 5, 8, 9, 36, 37] [2, 3, 6, 7, 10, 11, 12, 13, 14, 15, 16, 17, 18, 19, 20, 21, 22, 23, 24, 25, 26, 27, 28, 29, 30, 31, 32, 33, 34, 35, 38] [31, 32, 0, 1, 33, 34, 2, 3, 35, 36, 4, 5, 6, 7, 8, 9, 10, 11, 12, 13, 14, 15, 16, 17, 18, 19, 20, 21, 22, 23, 24, 25, 26, 27, 28, 29, 37, 38, 30] rfl (by decide +kernel) rfl (by decide +kernel) (by decide +kernel) (fun _ => rfl) (by decide +kernel) rfl rfl rfl hl.1 rfl (Nat.le_of_ble_eq_true rfl) dL_law_765 ⟨by show _ ≤ 600000; omega, by show _ ≤ 7302250; omega⟩ (fun _ H locs hJ hS => ?_)
  refine lv_aload_n hx hb dL_law_768 rfl (lv_at hl 2 rfl) ?_
  refine lv_aload_n hx hb dL_law_769 rfl (lv_at hl 0 rfl) ?_
  refine lv_iload_n hx hb dL_law_770 rfl (lv_at hl 3 rfl) ?_
  refine lv_iconst (v := 1) hx hb dL_law_771 (by decide) ?_
  refine lv_iadd hx hb dL_law_772 ?_
  refine va_sld hx hb hX hbl hbA hS hj1 dL_law_773 ?_
  refine lv_aload_n hx hb dL_law_774 rfl (lv_at hl 0 rfl) ?_
  refine lv_iload_n hx hb dL_law_775 rfl (lv_at hl 3 rfl) ?_
  refine lv_iconst (v := 2) hx hb dL_law_776 (by decide) ?_
  refine lv_iadd hx hb dL_law_777 ?_
  refine va_sld hx hb hX hbl hbA hS hj2 dL_law_778 ?_
  have hJ := zsw0 hJ
  refine zTi (As := [.int (xs (xi + 1).toNatClampNeg), .int (xs (xi + 2).toNatClampNeg)]) (rest := [.int res.1]) (ci := 9) (q0 := 0) (RV := resM.1) (X := cM D B MV MG) (pl := (cX D A (sI V 19 res.2.1) (sG GI 6 res.2.2) GL (oI (pres 0) (A 40)) (oI (pres 1) (A 50)) (oI (pres 2) (A 60))) ++ (cT (pres 0) (cI0 D A V GI GL) ++ (cT (pres 1) (cI1 D A V GI GL) ++ cT (pres 2) (cI2 D A V GI GL)))) (wn := fun _ => cM D B MV (sG MG 0 resM.2)) ⟨hx, hb, hml, hown, hts⟩ (mX12_instead l D (B 0) (B 1) (B 2) (B 3) (B 4) (B 5) (B 6) (B 7) (B 8) (B 9) (B 10) (B 11) (B 12) H.size (MV 0) (MV 1) (MV 2) (MV 3) (MV 4) (MV 5) (MV 6) (MV 7) (MG 0) (xs (xi + 1).toNatClampNeg) (xs (xi + 2).toNatClampNeg) 1000 resM hfM) (fun _ _ h => h) (cwV 2 hts gL_law_X12_instead rfl rfl rfl (by decide +kernel) ⟨Nat.le_of_ble_eq_true rfl, Nat.le_of_ble_eq_true rfl⟩) hK hJ hS hA [0, 1] [2, 3, 4, 5, 6, 7, 8, 9, 10, 11, 12] [11, 12, 0, 1, 2, 3, 4, 5, 6, 7, 8, 9, 10] rfl (by decide +kernel) rfl (by decide +kernel) (by decide +kernel) (fun _ => rfl) (by decide +kernel) rfl rfl rfl hl.1 rfl (Nat.le_of_ble_eq_true rfl) dL_law_779 ⟨by show _ ≤ 600000; omega, by show _ ≤ 7302250; omega⟩ (fun _ H locs hJ hS => ?_)
  have hJ := zsw0 hJ
  refine lv_icmp_eq (tgt := 833) hx hb dL_law_782 (by decide) (fun _ => ?_) (fun c_ => absurd he c_)
  refine W.widen (k := cells + 20) (n := slots + 1000) (by omega) (by omega) ?_
  exact kk A (sI V 19 res.2.1) (sG GI 6 res.2.2) GL pres MV (sG MG 0 resM.2) H locs rfl hI hJ hS
