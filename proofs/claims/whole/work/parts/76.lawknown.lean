set_option maxHeartbeats 4000000 in
set_option maxRecDepth 100000 in
theorem law_K {s : State} {b : Nat} (hts0 : ∀ w ∈ lw_tbl, w.before #[Value.ref b] s = true) : ∃ D : zG, zK D s := by
  obtain ⟨c0, i0, n0⟩ := u_known (C := RX1) (T := TX1) (N := 9) (n := 9) hts0 wsL_in_X10 (hts0 (.instantiable RX1 9) (List.mem_append_right _ (List.mem_of_getElem? (i := 139) (by decide +kernel))))
  obtain ⟨c1, i1, n1⟩ := u_known (C := RX2) (T := TX2) (N := 2) (n := 2) hts0 wsL_in_X20 (hts0 (.instantiable RX2 2) (List.mem_append_right _ (List.mem_of_getElem? (i := 80) (by decide +kernel))))
  obtain ⟨c2, i2, n2⟩ := u_known (C := RX3) (T := TX3) (N := 1) (n := 1) hts0 wsL_in_X30 (hts0 (.instantiable RX3 1) (List.mem_append_right _ (List.mem_of_getElem? (i := 227) (by decide +kernel))))
  obtain ⟨c3, i3, n3⟩ := u_known (C := RX4) (T := TX4) (N := 2) (n := 2) hts0 wsL_in_X40 (hts0 (.instantiable RX4 2) (List.mem_append_right _ (List.mem_of_getElem? (i := 123) (by decide +kernel))))
  obtain ⟨c4, i4, n4⟩ := u_known (C := RX5) (T := TX5) (N := 2) (n := 2) hts0 wsL_in_X50 (hts0 (.instantiable RX5 2) (List.mem_append_right _ (List.mem_of_getElem? (i := 66) (by decide +kernel))))
  obtain ⟨c5, i5, n5⟩ := u_known (C := RX7) (T := TX7) (N := 2) (n := 2) hts0 wsL_in_X70 (hts0 (.instantiable RX7 2) (List.mem_append_right _ (List.mem_of_getElem? (i := 46) (by decide +kernel))))
  obtain ⟨c6, i6, n6⟩ := u_known (C := RX9) (T := TX9) (N := 6) (n := 6) hts0 wsL_in_X90 (hts0 (.instantiable RX9 6) (List.mem_append_right _ (List.mem_of_getElem? (i := 26) (by decide +kernel))))
  obtain ⟨c7, i7, n7⟩ := u_known (C := RX10) (T := TX10) (N := 2) (n := 2) hts0 wsL_in_X100 (hts0 (.instantiable RX10 2) (List.mem_append_right _ (List.mem_of_getElem? (i := 32) (by decide +kernel))))
  obtain ⟨c8, i8, n8⟩ := u_known (C := RX11) (T := TX11) (N := 9) (n := 9) hts0 wsL_in_X110 (hts0 (.instantiable RX11 9) (List.mem_append_right _ (List.mem_of_getElem? (i := 18) (by decide +kernel))))
  obtain ⟨c9, i9, n9⟩ := u_known (C := RX12) (T := TX12) (N := 20) (n := 20) hts0 wsL_in_X120 (hts0 (.instantiable RX12 20) (List.mem_append_right _ (List.mem_of_getElem? (i := 733) (by decide +kernel))))
  obtain ⟨b0, k0, m0, f0, g0, e0⟩ := Cond.arrayClass_spec (hts0 (.arrayClass .byte) (List.mem_append_right _ (List.mem_of_getElem? (i := 44) (by decide +kernel))))
  obtain ⟨b1, k1, m1, f1, g1, e1⟩ := Cond.arrayClass_spec (hts0 (.arrayClass .int) (List.mem_append_right _ (List.mem_of_getElem? (i := 78) (by decide +kernel))))
  obtain ⟨b2, k2, m2, f2, g2, e2⟩ := Cond.arrayClass_spec (hts0 (.arrayClass .long) (List.mem_append_right _ (List.mem_of_getElem? (i := 64) (by decide +kernel))))
  obtain ⟨b3, k3, m3, f3, g3, e3⟩ := Cond.arrayClass_spec (hts0 (.arrayClass .boolean) (List.mem_append_right _ (List.mem_of_getElem? (i := 799) (by decide +kernel))))
  have o4 := hts0 (.arrayOver (.object "TurnedWords$Rising")) (List.mem_append_right _ (List.mem_of_getElem? (i := 129) (by decide +kernel)))
  obtain ⟨m4, b4, k4, p4, -, g4, e4, f4⟩ := Cond.arrayOver_spec o4
  have o5 := hts0 (.arrayOver (.object "TurnedWords$State")) (List.mem_append_right _ (List.mem_of_getElem? (i := 121) (by decide +kernel)))
  obtain ⟨m5, b5, k5, p5, -, g5, e5, f5⟩ := Cond.arrayOver_spec o5
  have z1 := hts0 (zN1) (List.mem_append_right _ (List.mem_of_getElem? (i := 418) (by decide +kernel)))
  have z2 := hts0 (zN2) (List.mem_append_right _ (List.mem_of_getElem? (i := 317) (by decide +kernel)))
  refine ⟨(((fun k => if k = 0 then c0 else if k = 1 then c1 else if k = 2 then c2 else if k = 3 then c3 else if k = 4 then c4 else if k = 5 then c5 else if k = 6 then c6 else if k = 7 then c7 else if k = 8 then c8 else c9), (fun k => if k = 0 then i0 else if k = 1 then i1 else if k = 2 then i2 else if k = 3 then i3 else if k = 4 then i4 else if k = 5 then i5 else if k = 6 then i6 else if k = 7 then i7 else if k = 8 then i8 else i9)), (fun k => if k = 0 then b0 else if k = 1 then b1 else if k = 2 then b2 else if k = 3 then b3 else if k = 4 then b4 else b5)), ⟨fun k q hq => ?_, fun k q hq => ?_⟩, va_Nw.of rfl z1, va_Nw.of rfl z2, va_AO.of o4, va_AO.of o5⟩
  · match k, hq with
    | 0, hq => cases hq; exact n0
    | 1, hq => cases hq; exact n1
    | 2, hq => cases hq; exact n2
    | 3, hq => cases hq; exact n3
    | 4, hq => cases hq; exact n4
    | 5, hq => cases hq; exact n5
    | 6, hq => cases hq; exact n6
    | 7, hq => cases hq; exact n7
    | 8, hq => cases hq; exact n8
    | 9, hq => cases hq; exact n9
    | k + 10, hq => simp [vwCl] at hq
  · match k, hq with
    | 0, hq => cases hq; exact ⟨fun n z => ⟨fun k h => (by cases h), k0, g0, m0, e0⟩, f0⟩
    | 1, hq => cases hq; exact ⟨fun n z => ⟨fun k h => (by cases h), k1, g1, m1, e1⟩, f1⟩
    | 2, hq => cases hq; exact ⟨fun n z => ⟨fun k h => (by cases h), k2, g2, m2, e2⟩, f2⟩
    | 3, hq => cases hq; exact ⟨fun n z => ⟨fun k h => (by cases h), k3, g3, m3, e3⟩, f3⟩
    | 4, hq => cases hq; exact ⟨fun n z => ⟨fun k h => (by cases h), k4, g4, m4, e4⟩, k4, m4, g4, e4, p4, f4⟩
    | 5, hq => cases hq; exact ⟨fun n z => ⟨fun k h => (by cases h), k5, g5, m5, e5⟩, k5, m5, g5, e5, p5, f5⟩
    | k + 6, hq => simp [zTY] at hq
