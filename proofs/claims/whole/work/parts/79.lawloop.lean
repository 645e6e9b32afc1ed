set_option maxHeartbeats 4000000 in
set_option maxRecDepth 100000 in
/-- the law's loop -/
theorem law_loop {p : Program} {l : Launch} {e : Env} {s : State} {m : MethodId} {below : List Frame} {meth : Method} {c : Code} {D : zG} {b L : Nat} {xs : Nat → Int32} {B : Nat → Nat} (hL : L ≤ 3072) (C0 : lw_At p s m meth c b L xs) (hK : zK D s) : ∀ (n i : Nat), i ≤ L → L + 1 ≤ i + n → ∀ (A : Nat → Nat) (V : Nat → Int32) (GI : Nat → Nat → Int32) (GL : Nat → Nat → Int64) (pres : Nat → Bool) (MV : Nat → Int32) (MG : Nat → Nat → Int32) (H : Heap) (locs : List Loc) (ls : Array Slot), Inv V GI GL pres MV MG → zJ D (fun q : Nat => s.heap.size ≤ q) (wl D A B V GI GL pres MV MG) H → va_S (fun q : Nat => s.heap.size ≤ q) s.heap H locs → lv_has ls 4 [(0, .ref b), (1, .ref (A 0)), (2, .ref (B 0)), (3, .int (nI i))] → W p l e room_1 s m #[Value.ref b] below meth c H locs (100 + 20 * i) (10000 + 1000 * i) (lw_Z below #[Value.ref b] s) (F0 m 18 ls []) := by
  have hx := C0.1
  have hb := C0.2.1
  have hr := C0.2.2.1
  have hlocks := C0.2.2.2.2.2.2.2.2.1
  have hX := C0.2.2.2.2.2.2.1
  have hbl := C0.2.2.2.2.2.2.2.1
  have hbA : ¬ (fun q : Nat => s.heap.size ≤ q) b := Nat.not_le.mpr hbl
  intro n
  induction n with
  | zero =>
    intro i h1 h2
    exact absurd h2 (by omega)
  | succ n ih =>
    intro i hi hin A V GI GL pres MV MG H locs ls hI hJ hS hl
    refine lv_iload_n hx hb dL_law_18 rfl (lv_at hl 3 rfl) ?_
    refine lv_aload_n hx hb dL_law_19 rfl (lv_at hl 0 rfl) ?_
    refine va_slen hx hb hX hbl hbA hS dL_law_20 ?_
    refine lv_bipush (v := 6) hx hb dL_law_21 (by decide) ?_
    refine lv_isub hx hb dL_law_23 ?_
    refine lv_icmp_gt (tgt := 839) hx hb dL_law_24 (by decide) (fun _ => ?_) (fun c_1 => ?_)
    · refine lv_iconst (v := 1) hx hb dL_law_839 (by decide) ?_
      refine va_forget (fun q hq => hS.2.2 q hq) ?_
      refine W.widen (k := 600000) (n := 7302250) (by omega) (by omega) ?_
      exact lw_ret hx hb hr hlocks dL_law_840
    · have h6 : i + 6 ≤ L := law_le hL hi c_1
      have hj0 : vp_in (nI i) L := vp_in_nI (by omega) (by omega)
      have hj1 : vp_in (nI i + 1) L := by rw [show nI i + 1 = nI (i + 1) from nI_add i 1]; exact vp_in_nI (by omega) (by omega)
      have hj2 : vp_in (nI i + 2) L := by rw [show nI i + 2 = nI (i + 2) from nI_add i 2]; exact vp_in_nI (by omega) (by omega)
      have hj3 : vp_in (nI i + 3) L := by rw [show nI i + 3 = nI (i + 3) from nI_add i 3]; exact vp_in_nI (by omega) (by omega)
      have hj4 : vp_in (nI i + 4) L := by rw [show nI i + 4 = nI (i + 4) from nI_add i 4]; exact vp_in_nI (by omega) (by omega)
      have hj5 : vp_in (nI i + 5) L := by rw [show nI i + 5 = nI (i + 5) from nI_add i 5]; exact vp_in_nI (by omega) (by omega)
      refine lv_aload_n hx hb dL_law_27 rfl (lv_at hl 0 rfl) ?_
      refine lv_iload_n hx hb dL_law_28 rfl (lv_at hl 3 rfl) ?_
      refine va_sld hx hb hX hbl hbA hS hj0 dL_law_29 ?_
      refine lv_bipush (v := 31) hx hb dL_law_30 (by decide) ?_
      refine lv_iand hx hb dL_law_32 ?_
      refine law_step _ C0 hK ⟨by omega, by omega⟩ hj1 hj2 hj3 hj4 hj5 hl hI hJ hS (fun A' V' GI' GL' pres' MV' MG' H' locs' hA0 hI hJ hS => ?_)
      refine lv_iinc (v := nI (i + 6)) (lv' := [(3, .int (nI (i + 6))), (0, .ref b), (1, .ref (A 0)), (2, .ref (B 0))]) hx hb dL_law_833 hl (k := 3) rfl (nI_add i 6) (by decide) rfl (fun ls hl => ?_)
      refine lv_goto (tgt := 18) hx hb dL_law_836 (by decide) ?_
      refine W.widen (k := 100 + 20 * (i + 6)) (n := 10000 + 1000 * (i + 6)) (by omega) (by omega) ?_
      exact ih (i + 6) h6 (by omega) A' V' GI' GL' pres' MV' MG' H' locs' ls hI hJ hS (by rw [hA0]; exact lv_sub hl [1, 2, 3, 0] rfl)
