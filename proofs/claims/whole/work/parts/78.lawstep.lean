theorem law_o {x : Int32} (h0 : ¬ x = 0) (h1 : ¬ x = 1) (h2 : ¬ x = 2) : x < 0 ∨ 3 ≤ x := by
  have a0 : x.toInt ≠ 0 := fun q => h0 (Int32.toInt_inj.mp (q.trans (by decide)))
  have a1 : x.toInt ≠ 1 := fun q => h1 (Int32.toInt_inj.mp (q.trans (by decide)))
  have a2 : x.toInt ≠ 2 := fun q => h2 (Int32.toInt_inj.mp (q.trans (by decide)))
  rw [Int32.lt_iff_toInt_lt, Int32.le_iff_toInt_le, show (0 : Int32).toInt = 0 by decide, show (3 : Int32).toInt = 3 by decide]
  omega
theorem law_sw {y : Int32} (h : ¬ (y.toInt < 0 ∨ 22 < y.toInt)) : ∃ k, k < 23 ∧ y = nI k :=
  ⟨y.toInt.toNat, by omega, Int32.toInt_inj.mp (by rw [nI_toInt (by omega)]; omega)⟩
theorem law_le {L i : Nat} (hL : L ≤ 3072) (hi : i ≤ L) (h : ¬ Int32.ofNat L - 6 < nI i) : i + 6 ≤ L := by
  have e : (nI L - 6).toInt = (L : Int) - 6 := by
    rw [Int32.toInt_sub, nI_toInt (by omega), show (6 : Int32).toInt = 6 by decide]
    exact fb_bmod (by omega) (by omega)
  have h' : ¬ nI L - 6 < nI i := h
  rw [Int32.lt_iff_toInt_lt, e, nI_toInt (by omega)] at h'
  omega
set_option maxHeartbeats 4000000 in
set_option maxRecDepth 100000 in
theorem law_step {p : Program} {l : Launch} {e : Env} {s : State} {m : MethodId} {below : List Frame} {meth : Method} {c : Code} {D : zG} {b L : Nat} {xs : Nat → Int32} {xi : Int32} {A B : Nat → Nat} {V : Nat → Int32} {GI : Nat → Nat → Int32} {GL : Nat → Nat → Int64} {pres : Nat → Bool} {MV : Nat → Int32} {MG : Nat → Nat → Int32} {H : Heap} {locs : List Loc} {cells slots : Nat} {Q : State → Prop} {ls : Array Slot} (y : Int32) (C0 : lw_At p s m meth c b L xs) (hK : zK D s) (hcs : cells ≤ 500000 ∧ slots ≤ 7000000) (hj1 : vp_in (xi + 1) L) (hj2 : vp_in (xi + 2) L) (hj3 : vp_in (xi + 3) L) (hj4 : vp_in (xi + 4) L) (hj5 : vp_in (xi + 5) L) (hl : lv_has ls 4 [(0, .ref b), (1, .ref (A 0)), (2, .ref (B 0)), (3, .int xi)]) (hI : Inv V GI GL pres MV MG) (hJ : zJ D (fun q : Nat => s.heap.size ≤ q) (wl D A B V GI GL pres MV MG) H) (hS : va_S (fun q : Nat => s.heap.size ≤ q) s.heap H locs) (kk : ∀ (A' : Nat → Nat) (V' : Nat → Int32) (GI' : Nat → Nat → Int32) (GL' : Nat → Nat → Int64) (pres' : Nat → Bool) (MV' : Nat → Int32) (MG' : Nat → Nat → Int32) (H' : Heap) (locs' : List Loc), A' 0 = A 0 → Inv V' GI' GL' pres' MV' MG' → zJ D (fun q : Nat => s.heap.size ≤ q) (wl D A' B V' GI' GL' pres' MV' MG') H' → va_S (fun q : Nat => s.heap.size ≤ q) s.heap H' locs' → W p l e room_1 s m #[Value.ref b] below meth c H' locs' (cells + 20) (slots + 1000) Q (F0 m 833 ls [])) : W p l e room_1 s m #[Value.ref b] below meth c H locs cells slots Q (F0 m 33 ls [.int y]) := by
  have hx := C0.1
  have hb := C0.2.1
  by_cases ho : y.toInt < 0 ∨ 22 < y.toInt
  · refine lv_tableOut (tgt := 833) hx hb dL_law_33 ho (by decide) ?_
    refine W.widen (k := cells + 20) (n := slots + 1000) (by omega) (by omega) ?_
    exact kk A V GI GL pres MV MG H locs rfl hI hJ hS
  · obtain ⟨k, hk, rfl⟩ := law_sw ho
    rcases (show k = 0 ∨ k = 1 ∨ k = 2 ∨ k = 3 ∨ k = 4 ∨ k = 5 ∨ k = 6 ∨ k = 7 ∨ k = 8 ∨ k = 9 ∨ k = 10 ∨ k = 11 ∨ k = 12 ∨ k = 13 ∨ k = 14 ∨ k = 15 ∨ k = 16 ∨ k = 17 ∨ k = 18 ∨ k = 19 ∨ k = 20 ∨ k = 21 ∨ k = 22 by omega) with rfl | rfl | rfl | rfl | rfl | rfl | rfl | rfl | rfl | rfl | rfl | rfl | rfl | rfl | rfl | rfl | rfl | rfl | rfl | rfl | rfl | rfl | rfl
    · refine lv_tableIn (tgt := 140) hx hb dL_law_33 (by decide) (by decide) (off := 107) (by decide +kernel) (by decide) ?_
      exact lc_feed C0 hK hcs hj1 hj2 hj3 hj4 hj5 hl hI hJ hS kk
    · refine lv_tableIn (tgt := 203) hx hb dL_law_33 (by decide) (by decide) (off := 170) (by decide +kernel) (by decide) ?_
      exact lc_end C0 hK hcs hj1 hj2 hj3 hj4 hj5 hl hI hJ hS kk
    · refine lv_tableIn (tgt := 226) hx hb dL_law_33 (by decide) (by decide) (off := 193) (by decide +kernel) (by decide) ?_
      exact lc_words C0 hK hcs hj1 hj2 hj3 hj4 hj5 hl hI hJ hS kk
    · refine lv_tableIn (tgt := 239) hx hb dL_law_33 (by decide) (by decide) (off := 206) (by decide +kernel) (by decide) ?_
      exact lc_pattern C0 hK hcs hj1 hj2 hj3 hj4 hj5 hl hI hJ hS kk
    · refine lv_tableIn (tgt := 252) hx hb dL_law_33 (by decide) (by decide) (off := 219) (by decide +kernel) (by decide) ?_
      exact lc_fault C0 hK hcs hj1 hj2 hj3 hj4 hj5 hl hI hJ hS kk
    · refine lv_tableIn (tgt := 275) hx hb dL_law_33 (by decide) (by decide) (off := 242) (by decide +kernel) (by decide) ?_
      by_cases hp : (xs (xi + 1).toNatClampNeg) = 0
      · exact lc_edit_0 C0 hK hcs hj1 hj2 hj3 hj4 hj5 hl hI hJ hS hp kk
      · exact lc_edit_1 C0 hK hcs hj1 hj2 hj3 hj4 hj5 hl hI hJ hS hp kk
    · refine lv_tableIn (tgt := 314) hx hb dL_law_33 (by decide) (by decide) (off := 281) (by decide +kernel) (by decide) ?_
      exact lc_cancel C0 hK hcs hj1 hj2 hj3 hj4 hj5 hl hI hJ hS kk
    · refine lv_tableIn (tgt := 327) hx hb dL_law_33 (by decide) (by decide) (off := 294) (by decide +kernel) (by decide) ?_
      obtain ⟨u, hu4, hu, -⟩ := hI.2.1
      rcases (show u = 0 ∨ u = 1 ∨ u = 2 ∨ u = 3 ∨ u = 4 by omega) with rfl | rfl | rfl | rfl | rfl
      · exact lc_merge_0 C0 hK hcs hj1 hj2 hj3 hj4 hj5 hl hI hJ hS hu kk
      · exact lc_merge_1 C0 hK hcs hj1 hj2 hj3 hj4 hj5 hl hI hJ hS hu kk
      · exact lc_merge_2 C0 hK hcs hj1 hj2 hj3 hj4 hj5 hl hI hJ hS hu kk
      · exact lc_merge_3 C0 hK hcs hj1 hj2 hj3 hj4 hj5 hl hI hJ hS hu kk
      · exact lc_merge_4 C0 hK hcs hj1 hj2 hj3 hj4 hj5 hl hI hJ hS hu kk
    · refine lv_tableIn (tgt := 340) hx hb dL_law_33 (by decide) (by decide) (off := 307) (by decide +kernel) (by decide) ?_
      obtain ⟨u, hu4, hu, -⟩ := hI.2.1
      rcases (show u = 0 ∨ u = 1 ∨ u = 2 ∨ u = 3 ∨ u = 4 by omega) with rfl | rfl | rfl | rfl | rfl
      · exact lc_undo_0 C0 hK hcs hj1 hj2 hj3 hj4 hj5 hl hI hJ hS hu kk
      · exact lc_undo_1 C0 hK hcs hj1 hj2 hj3 hj4 hj5 hl hI hJ hS hu kk
      · exact lc_undo_2 C0 hK hcs hj1 hj2 hj3 hj4 hj5 hl hI hJ hS hu kk
      · exact lc_undo_3 C0 hK hcs hj1 hj2 hj3 hj4 hj5 hl hI hJ hS hu kk
      · exact lc_undo_4 C0 hK hcs hj1 hj2 hj3 hj4 hj5 hl hI hJ hS hu kk
    · refine lv_tableIn (tgt := 353) hx hb dL_law_33 (by decide) (by decide) (off := 320) (by decide +kernel) (by decide) ?_
      exact lc_count C0 hK hcs hj1 hj2 hj3 hj4 hj5 hl hI hJ hS kk
    · refine lv_tableIn (tgt := 376) hx hb dL_law_33 (by decide) (by decide) (off := 343) (by decide +kernel) (by decide) ?_
      by_cases hp : (xs (xi + 2).toNatClampNeg) = 0
      · exact lc_word_0 C0 hK hcs hj1 hj2 hj3 hj4 hj5 hl hI hJ hS hp kk
      · exact lc_word_1 C0 hK hcs hj1 hj2 hj3 hj4 hj5 hl hI hJ hS hp kk
    · refine lv_tableIn (tgt := 435) hx hb dL_law_33 (by decide) (by decide) (off := 402) (by decide +kernel) (by decide) ?_
      by_cases hp : (xs (xi + 2).toNatClampNeg) = 0
      · exact lc_answer_0 C0 hK hcs hj1 hj2 hj3 hj4 hj5 hl hI hJ hS hp kk
      · exact lc_answer_1 C0 hK hcs hj1 hj2 hj3 hj4 hj5 hl hI hJ hS hp kk
    · refine lv_tableIn (tgt := 484) hx hb dL_law_33 (by decide) (by decide) (off := 451) (by decide +kernel) (by decide) ?_
      exact lc_turn C0 hK hcs hj1 hj2 hj3 hj4 hj5 hl hI hJ hS kk
    · refine lv_tableIn (tgt := 517) hx hb dL_law_33 (by decide) (by decide) (off := 484) (by decide +kernel) (by decide) ?_
      exact lc_run C0 hK hcs hj1 hj2 hj3 hj4 hj5 hl hI hJ hS kk
    · refine lv_tableIn (tgt := 550) hx hb dL_law_33 (by decide) (by decide) (off := 517) (by decide +kernel) (by decide) ?_
      exact lc_of C0 hK hcs hj1 hj2 hj3 hj4 hj5 hl hI hJ hS kk
    · refine lv_tableIn (tgt := 583) hx hb dL_law_33 (by decide) (by decide) (off := 550) (by decide +kernel) (by decide) ?_
      exact lc_shared C0 hK hcs hj1 hj2 hj3 hj4 hj5 hl hI hJ hS kk
    · refine lv_tableIn (tgt := 606) hx hb dL_law_33 (by decide) (by decide) (off := 573) (by decide +kernel) (by decide) ?_
      exact lc_alone C0 hK hcs hj1 hj2 hj3 hj4 hj5 hl hI hJ hS kk
    · refine lv_tableIn (tgt := 639) hx hb dL_law_33 (by decide) (by decide) (off := 606) (by decide +kernel) (by decide) ?_
      exact lc_near C0 hK hcs hj1 hj2 hj3 hj4 hj5 hl hI hJ hS kk
    · refine lv_tableIn (tgt := 672) hx hb dL_law_33 (by decide) (by decide) (off := 639) (by decide +kernel) (by decide) ?_
      by_cases hp : (xs (xi + 2).toNatClampNeg) = 0
      · exact lc_tally_0 C0 hK hcs hj1 hj2 hj3 hj4 hj5 hl hI hJ hS hp kk
      · exact lc_tally_1 C0 hK hcs hj1 hj2 hj3 hj4 hj5 hl hI hJ hS hp kk
    · refine lv_tableIn (tgt := 721) hx hb dL_law_33 (by decide) (by decide) (off := 688) (by decide +kernel) (by decide) ?_
      exact lc_places C0 hK hcs hj1 hj2 hj3 hj4 hj5 hl hI hJ hS kk
    · refine lv_tableIn (tgt := 754) hx hb dL_law_33 (by decide) (by decide) (off := 721) (by decide +kernel) (by decide) ?_
      exact lc_instead C0 hK hcs hj1 hj2 hj3 hj4 hj5 hl hI hJ hS kk
    · refine lv_tableIn (tgt := 787) hx hb dL_law_33 (by decide) (by decide) (off := 754) (by decide +kernel) (by decide) ?_
      by_cases h0 : (xs (xi + 1).toNatClampNeg) = 0
      · cases hk : pres 0 with
        | true => exact lc_image_0 C0 hK hcs hj1 hj2 hj3 hj4 hj5 hl hI hJ hS h0 hk kk
        | false => exact lc_image_n0 C0 hK hcs hj1 hj2 hj3 hj4 hj5 hl hI hJ hS h0 hk kk
      · skip
        by_cases h1 : (xs (xi + 1).toNatClampNeg) = 1
        · cases hk : pres 1 with
          | true => exact lc_image_1 C0 hK hcs hj1 hj2 hj3 hj4 hj5 hl hI hJ hS h1 hk kk
          | false => exact lc_image_n1 C0 hK hcs hj1 hj2 hj3 hj4 hj5 hl hI hJ hS h1 hk kk
        · skip
          by_cases h2 : (xs (xi + 1).toNatClampNeg) = 2
          · cases hk : pres 2 with
            | true => exact lc_image_2 C0 hK hcs hj1 hj2 hj3 hj4 hj5 hl hI hJ hS h2 hk kk
            | false => exact lc_image_n2 C0 hK hcs hj1 hj2 hj3 hj4 hj5 hl hI hJ hS h2 hk kk
          · exact lc_image_o C0 hK hcs hj1 hj2 hj3 hj4 hj5 hl hI hJ hS (law_o h0 h1 h2) kk
    · refine lv_tableIn (tgt := 810) hx hb dL_law_33 (by decide) (by decide) (off := 777) (by decide +kernel) (by decide) ?_
      by_cases h0 : (xs (xi + 1).toNatClampNeg) = 0
      · cases hk : pres 0 with
        | true => exact lc_again_0 C0 hK hcs hj1 hj2 hj3 hj4 hj5 hl hI hJ hS h0 hk kk
        | false => exact lc_again_n0 C0 hK hcs hj1 hj2 hj3 hj4 hj5 hl hI hJ hS h0 hk kk
      · skip
        by_cases h1 : (xs (xi + 1).toNatClampNeg) = 1
        · cases hk : pres 1 with
          | true => exact lc_again_1 C0 hK hcs hj1 hj2 hj3 hj4 hj5 hl hI hJ hS h1 hk kk
          | false => exact lc_again_n1 C0 hK hcs hj1 hj2 hj3 hj4 hj5 hl hI hJ hS h1 hk kk
        · skip
          by_cases h2 : (xs (xi + 1).toNatClampNeg) = 2
          · cases hk : pres 2 with
            | true => exact lc_again_2 C0 hK hcs hj1 hj2 hj3 hj4 hj5 hl hI hJ hS h2 hk kk
            | false => exact lc_again_n2 C0 hK hcs hj1 hj2 hj3 hj4 hj5 hl hI hJ hS h2 hk kk
          · exact lc_again_o C0 hK hcs hj1 hj2 hj3 hj4 hj5 hl hI hJ hS (law_o h0 h1 h2) kk
