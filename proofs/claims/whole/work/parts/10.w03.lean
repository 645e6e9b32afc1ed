def fX7_size (v0_size : Int32) : Option (Int32) :=
  some (v0_size)
set_option maxHeartbeats 4000000 in
set_option maxRecDepth 100000 in
theorem mX7_size (l : Launch) (D : zG) (a0 : Nat) (a0_rows : Nat) (sz : Nat)  (v0_size : Int32)  (res : Int32) (hf : fX7_size v0_size = some res) : Met l yX7_size wsX7_size ({ frames := 0, cells := 0, slots := 0, locals := 0 } : Room) (va_Pc [.ref a0] (zW D sz [(a0, .inr (5, [.ref a0_rows, .int v0_size]))])) (va_Qi (fun r (_ : Unit) => r = res) (fun _ => zB D (va_A [(a0, .inr (5, [.ref a0_rows, .int v0_size]))] sz) [(a0, .inr (5, [.ref a0_rows, .int v0_size]))]) (va_A [(a0, .inr (5, [.ref a0_rows, .int v0_size]))] sz)) 0 0 (va_A [(a0, .inr (5, [.ref a0_rows, .int v0_size]))] sz) := by
  refine Met.ofW (cc := cX7_size) (maxL := 1) (ret := (some .int)) (by decide) rfl ?_
  intro p e s m args below meth c s₁ B hml hv
  obtain ⟨rfl, hsz, hP, hK, hD0⟩ := hv
  have hx := B.exec
  have hb := B.bytes
  have hr := B.returns
  have hts := atoms_spec (ws := wsX7_size) B.pre
  have hown : s.vm.findClass RX7 = some m.cls := findClass_of_methodNamed B.named
  have hlocks := B.notSynchronized
  subst hsz
  have hD := hD0.self (sz := s.heap.size)
  generalize hAe : va_A [(a0, .inr (5, [.ref a0_rows, .int v0_size]))] s.heap.size = A at hD ⊢
  have hA : ∀ q : Nat, s.heap.size ≤ q → A q := fun q h => by rw [← hAe]; exact Or.inr h
  have l24 := zat hts 1 (w := .fieldLink RX7 24 "TurnedWords$Rising" "size" "I") rfl
  have hwX7 : ∀ w ∈ u_ws RX7 TX7 2, w ∈ wsX7_size := fun w h => List.mem_cons_of_mem _ (List.mem_append_right _ h)
  have hl := lv_entry ([.ref a0]) (n := 1) (Nat.le_of_ble_eq_true rfl)
  rw [lg_entry_eq]
  generalize (lg_sl ([.ref a0]) ++ List.replicate (1 - (lg_sl ([.ref a0])).length) Slot.unset).toArray = ls at hl ⊢
  have hl : lv_has ls 1 [(0, .ref a0)] := hl
  refine zStart (A := A) hP (fun Q0 H locs hQ hP hS => ?_)
  unfold fX7_size at hf
  refine lv_aload_n hx hb dX7_size_0 rfl (lv_at hl 0 rfl) ?_
  refine va_get (D := D.1) (ci := 5) (v := .int v0_size) (C := RX7) (T := TX7) (N := 2) hx hb hts hwX7 hown hK.1 hP 0 rfl rfl 1 (by decide) l24 (fun _ h9 => h9) rfl dX7_size_1 ?_
  have he := Option.some.inj hf
  rw [hQ]
  exact W.iret (v := v0_size) hx hb hr (fun t ht hW => by rw [← he]; exact ⟨⟨v0_size, (), rfl, rfl, by rw [ht]; exact hP, hD⟩, hS.F ht⟩) hS.2.2 dX7_size_4
def fX7_hasNumber (v0_size : Int32) (p1 : Int32) : Option (Int32) :=
  if p1 < (0 : Int32) then
    some ((0 : Int32))
  else
    if v0_size ≤ p1 then
      some ((0 : Int32))
    else
      some ((1 : Int32))
set_option maxHeartbeats 4000000 in
set_option maxRecDepth 100000 in
theorem mX7_hasNumber (l : Launch) (D : zG) (a0 : Nat) (a0_rows : Nat) (sz : Nat)  (v0_size : Int32) (p1 : Int32) (res : Int32) (hf : fX7_hasNumber v0_size p1 = some res) : Met l yX7_hasNumber wsX7_hasNumber ({ frames := 0, cells := 0, slots := 0, locals := 0 } : Room) (va_Pc [.ref a0, .int p1] (zW D sz [(a0, .inr (5, [.ref a0_rows, .int v0_size]))])) (va_Qi (fun r (_ : Unit) => r = res ∧ (r = 0 ∨ r = 1)) (fun _ => zB D (va_A [(a0, .inr (5, [.ref a0_rows, .int v0_size]))] sz) [(a0, .inr (5, [.ref a0_rows, .int v0_size]))]) (va_A [(a0, .inr (5, [.ref a0_rows, .int v0_size]))] sz)) 0 0 (va_A [(a0, .inr (5, [.ref a0_rows, .int v0_size]))] sz) := by
  refine Met.ofW (cc := cX7_hasNumber) (maxL := 2) (ret := (some .boolean)) (by decide) rfl ?_
  intro p e s m args below meth c s₁ B hml hv
  obtain ⟨rfl, hsz, hP, hK, hD0⟩ := hv
  have hx := B.exec
  have hb := B.bytes
  have hr := B.returns
  have hts := atoms_spec (ws := wsX7_hasNumber) B.pre
  have hown : s.vm.findClass RX7 = some m.cls := findClass_of_methodNamed B.named
  have hlocks := B.notSynchronized
  subst hsz
  have hD := hD0.self (sz := s.heap.size)
  generalize hAe : va_A [(a0, .inr (5, [.ref a0_rows, .int v0_size]))] s.heap.size = A at hD ⊢
  have hA : ∀ q : Nat, s.heap.size ≤ q → A q := fun q h => by rw [← hAe]; exact Or.inr h
  have l24 := zat hts 1 (w := .fieldLink RX7 24 "TurnedWords$Rising" "size" "I") rfl
  have hwX7 : ∀ w ∈ u_ws RX7 TX7 2, w ∈ wsX7_hasNumber := fun w h => List.mem_cons_of_mem _ (List.mem_append_right _ h)
  have hl := lv_entry ([.ref a0, .int p1]) (n := 2) (Nat.le_of_ble_eq_true rfl)
  rw [lg_entry_eq]
  generalize (lg_sl ([.ref a0, .int p1]) ++ List.replicate (2 - (lg_sl ([.ref a0, .int p1])).length) Slot.unset).toArray = ls at hl ⊢
  have hl : lv_has ls 2 [(0, .ref a0), (1, .int p1)] := hl
  refine zStart (A := A) hP (fun Q0 H locs hQ hP hS => ?_)
  unfold fX7_hasNumber at hf
  refine lv_iload_n hx hb dX7_hasNumber_0 rfl (lv_at hl 1 rfl) ?_
  refine lv_if_lt (tgt := 16) hx hb dX7_hasNumber_1 (by decide) (fun c_1 => ?_) (fun c_1 => ?_)
  · replace hf := ip c_1 hf
    refine lv_iconst (v := 0) hx hb dX7_hasNumber_16 (by decide) ?_
    have he := Option.some.inj hf
    rw [hQ]
    exact W.zret (v := (0 : Int32)) hx hb hr (znb (Or.inl rfl)) (fun t ht hW => by rw [← he]; exact ⟨⟨(0 : Int32), (), rfl, ⟨rfl, Or.inl rfl⟩, by rw [ht]; exact hP, hD⟩, hS.F ht⟩) hS.2.2 dX7_hasNumber_17
  · replace hf := im c_1 hf
    refine lv_iload_n hx hb dX7_hasNumber_4 rfl (lv_at hl 1 rfl) ?_
    refine lv_aload_n hx hb dX7_hasNumber_5 rfl (lv_at hl 0 rfl) ?_
    refine va_get (D := D.1) (ci := 5) (v := .int v0_size) (C := RX7) (T := TX7) (N := 2) hx hb hts hwX7 hown hK.1 hP 0 rfl rfl 1 (by decide) l24 (fun _ h9 => h9) rfl dX7_hasNumber_6 ?_
    refine lv_icmp_ge (tgt := 16) hx hb dX7_hasNumber_9 (by decide) (fun c_2 => ?_) (fun c_2 => ?_)
    · replace hf := ip c_2 hf
      refine lv_iconst (v := 0) hx hb dX7_hasNumber_16 (by decide) ?_
      have he := Option.some.inj hf
      rw [hQ]
      exact W.zret (v := (0 : Int32)) hx hb hr (znb (Or.inl rfl)) (fun t ht hW => by rw [← he]; exact ⟨⟨(0 : Int32), (), rfl, ⟨rfl, Or.inl rfl⟩, by rw [ht]; exact hP, hD⟩, hS.F ht⟩) hS.2.2 dX7_hasNumber_17
    · replace hf := im c_2 hf
      refine lv_iconst (v := 1) hx hb dX7_hasNumber_12 (by decide) ?_
      refine lv_goto (tgt := 17) hx hb dX7_hasNumber_13 (by decide) ?_
      have he := Option.some.inj hf
      rw [hQ]
      exact W.zret (v := (1 : Int32)) hx hb hr (znb (Or.inr rfl)) (fun t ht hW => by rw [← he]; exact ⟨⟨(1 : Int32), (), rfl, ⟨rfl, Or.inr rfl⟩, by rw [ht]; exact hP, hD⟩, hS.F ht⟩) hS.2.2 dX7_hasNumber_17
def fX7_at (n0_rows : Nat) (v0_size : Int32) (g0_rows : Nat → Int64) (p1 : Int32) : Option (Int64) :=
  Option.bind (fX7_hasNumber v0_size p1) fun r1 =>
  if r1 = (0 : Int32) then
    some ((0 : Int64))
  else
    if p1 < 0 ∨ n0_rows ≤ (p1).toNatClampNeg then none else
    some ((g0_rows (p1).toNatClampNeg))
set_option maxHeartbeats 4000000 in
set_option maxRecDepth 100000 in
theorem mX7_at (l : Launch) (D : zG) (a0 : Nat) (a0_rows : Nat) (sz : Nat) (n0_rows : Nat) (v0_size : Int32) (g0_rows : Nat → Int64) (p1 : Int32) (res : Int64) (hf : fX7_at n0_rows v0_size g0_rows p1 = some res) : Met l yX7_at wsX7_at ({ frames := 1, cells := 0, slots := 0, locals := 21 } : Room) (va_Pc [.ref a0, .int p1] (zW D sz [(a0, .inr (5, [.ref a0_rows, .int v0_size])), (a0_rows, .inl (D.2 2, n0_rows, .inr (.inl g0_rows)))])) (va_Ql (fun r (_ : Unit) => r = res) (fun _ => zB D (va_A [(a0, .inr (5, [.ref a0_rows, .int v0_size])), (a0_rows, .inl (D.2 2, n0_rows, .inr (.inl g0_rows)))] sz) [(a0, .inr (5, [.ref a0_rows, .int v0_size])), (a0_rows, .inl (D.2 2, n0_rows, .inr (.inl g0_rows)))]) (va_A [(a0, .inr (5, [.ref a0_rows, .int v0_size])), (a0_rows, .inl (D.2 2, n0_rows, .inr (.inl g0_rows)))] sz)) 0 0 (va_A [(a0, .inr (5, [.ref a0_rows, .int v0_size])), (a0_rows, .inl (D.2 2, n0_rows, .inr (.inl g0_rows)))] sz) := by
  refine Met.ofW (cc := cX7_at) (maxL := 2) (ret := (some .long)) (by decide) rfl ?_
  intro p e s m args below meth c s₁ B hml hv
  obtain ⟨rfl, hsz, hP, hK, hD0⟩ := hv
  have hx := B.exec
  have hb := B.bytes
  have hr := B.returns
  have hts := atoms_spec (ws := wsX7_at) B.pre
  have hown : s.vm.findClass RX7 = some m.cls := findClass_of_methodNamed B.named
  have hlocks := B.notSynchronized
  subst hsz
  have hD := hD0.self (sz := s.heap.size)
  generalize hAe : va_A [(a0, .inr (5, [.ref a0_rows, .int v0_size])), (a0_rows, .inl (D.2 2, n0_rows, .inr (.inl g0_rows)))] s.heap.size = A at hD ⊢
  have hA : ∀ q : Nat, s.heap.size ≤ q → A q := fun q h => by rw [← hAe]; exact Or.inr h
  have l18 := zat hts 1 (w := .fieldLink RX7 18 "TurnedWords$Rising" "rows" "[J") rfl
  have hwX7 : ∀ w ∈ u_ws RX7 TX7 2, w ∈ wsX7_at := fun w h => List.mem_cons_of_mem _ (List.mem_append_right _ h)
  have hl := lv_entry ([.ref a0, .int p1]) (n := 2) (Nat.le_of_ble_eq_true rfl)
  rw [lg_entry_eq]
  generalize (lg_sl ([.ref a0, .int p1]) ++ List.replicate (2 - (lg_sl ([.ref a0, .int p1])).length) Slot.unset).toArray = ls at hl ⊢
  have hl : lv_has ls 2 [(0, .ref a0), (1, .int p1)] := hl
  refine zStart (A := A) hP (fun Q0 H locs hQ hP hS => ?_)
  unfold fX7_at at hf
  refine lv_aload_n hx hb dX7_at_0 rfl (lv_at hl 0 rfl) ?_
  refine lv_iload_n hx hb dX7_at_1 rfl (lv_at hl 1 rfl) ?_
  obtain ⟨r1, hr1, hf⟩ := bd hf
  refine zVz (As := [.int p1]) (rest := []) (ci := 5) (q0 := 0) (wn := [(a0, .inr (5, [.ref a0_rows, .int v0_size])), (a0_rows, .inl (D.2 2, n0_rows, .inr (.inl g0_rows)))]) ⟨hx, hb, hml, hown, hts⟩ (mX7_hasNumber l D a0 a0_rows H.size v0_size p1 r1 hr1) (cwV 1 hts gX7_at_X7_hasNumber rfl rfl rfl (by decide +kernel) ⟨Nat.le_of_ble_eq_true rfl, Nat.le_of_ble_eq_true rfl⟩) hK hP hD hS hA [0] [1] [1, 0] rfl (by decide) rfl (by decide) (by decide) rfl (by decide) rfl rfl rfl hl.1 rfl (Nat.le_of_ble_eq_true rfl) dX7_at_2 ⟨Nat.zero_le _, Nat.zero_le _⟩ (fun H locs hb_2 hP hD hS => ?_)
  refine lv_if_eq (tgt := 17) hx hb dX7_at_5 (by decide) (fun c_3 => ?_) (fun c_3 => ?_)
  · replace hf := ip c_3 hf
    refine lv_lconst (v := 0) hx hb dX7_at_17 (by decide) ?_
    have he := Option.some.inj hf
    rw [hQ]
    exact W.lret (v := (0 : Int64)) hx hb hr (fun t ht hW => by rw [← he]; exact ⟨⟨(0 : Int64), (), rfl, rfl, by rw [ht]; exact hP, hD⟩, hS.F ht⟩) hS.2.2 dX7_at_18
  · replace hf := im c_3 hf
    refine lv_aload_n hx hb dX7_at_8 rfl (lv_at hl 0 rfl) ?_
    refine va_get (D := D.1) (ci := 5) (v := .ref a0_rows) (C := RX7) (T := TX7) (N := 2) hx hb hts hwX7 hown hK.1 hP 0 rfl rfl 0 (by decide) l18 (fun _ h9 => h9) rfl dX7_at_9 ?_
    refine lv_iload_n hx hb dX7_at_12 rfl (lv_at hl 1 rfl) ?_
    obtain ⟨h_4, hf⟩ := gd hf
    refine va_lald hx hb hK.1 hP 1 2 rfl rfl h_4 dX7_at_13 ?_
    refine lv_goto (tgt := 18) hx hb dX7_at_14 (by decide) ?_
    have he := Option.some.inj hf
    rw [hQ]
    exact W.lret (v := (g0_rows (p1).toNatClampNeg)) hx hb hr (fun t ht hW => by rw [← he]; exact ⟨⟨(g0_rows (p1).toNatClampNeg), (), rfl, rfl, by rw [ht]; exact hP, hD⟩, hS.F ht⟩) hS.2.2 dX7_at_18
def fX8_codeAt (p0 : Int64) (p2 : Int32) : Option (Int32) :=
  if p2 < (0 : Int32) then
    some ((0 : Int32))
  else
    if p2 < (8 : Int32) then
      some (((Int64.toInt32 (p0 >>> (Int32.toInt64 ((5 : Int32) * ((7 : Int32) - p2)) &&& 63))) &&& (31 : Int32)))
    else
      some ((0 : Int32))
set_option maxHeartbeats 4000000 in
set_option maxRecDepth 100000 in
theorem mX8_codeAt (l : Launch) (D : zG)  (sz : Nat)   (p0 : Int64) (p2 : Int32) (res : Int32) (hf : fX8_codeAt p0 p2 = some res) : Met l yX8_codeAt wsX8_codeAt ({ frames := 0, cells := 0, slots := 0, locals := 0 } : Room) (va_Pc [.long p0, .int p2] (zW D sz [])) (va_Qi (fun r (_ : Unit) => r = res) (fun _ => zB D (va_A [] sz) []) (va_A [] sz)) 0 0 (va_A [] sz) := by
  refine Met.ofW (cc := cX8_codeAt) (maxL := 3) (ret := (some .int)) (by decide) rfl ?_
  intro p e s m args below meth c s₁ B hml hv
  obtain ⟨rfl, hsz, hP, hK, hD0⟩ := hv
  have hx := B.exec
  have hb := B.bytes
  have hr := B.returns
  have hts := atoms_spec (ws := wsX8_codeAt) B.pre
  have hown : s.vm.findClass RX8 = some m.cls := findClass_of_methodNamed B.named
  have hlocks := B.notSynchronized
  subst hsz
  have hD := hD0.self (sz := s.heap.size)
  generalize hAe : va_A [] s.heap.size = A at hD ⊢
  have hA : ∀ q : Nat, s.heap.size ≤ q → A q := fun q h => by rw [← hAe]; exact Or.inr h
  have hl := lv_entry ([.long p0, .int p2]) (n := 3) (Nat.le_of_ble_eq_true rfl)
  rw [lg_entry_eq]
  generalize (lg_sl ([.long p0, .int p2]) ++ List.replicate (3 - (lg_sl ([.long p0, .int p2])).length) Slot.unset).toArray = ls at hl ⊢
  have hl : lv_has ls 3 [(0, .long p0), (2, .int p2)] := hl
  refine zStart (A := A) hP (fun Q0 H locs hQ hP hS => ?_)
  unfold fX8_codeAt at hf
  refine lv_iload_n hx hb dX8_codeAt_0 rfl (lv_at hl 1 rfl) ?_
  refine lv_if_lt (tgt := 10) hx hb dX8_codeAt_1 (by decide) (fun c_1 => ?_) (fun c_1 => ?_)
  · replace hf := ip c_1 hf
    refine lv_iconst (v := 0) hx hb dX8_codeAt_10 (by decide) ?_
    have he := Option.some.inj hf
    rw [hQ]
    exact W.iret (v := (0 : Int32)) hx hb hr (fun t ht hW => by rw [← he]; exact ⟨⟨(0 : Int32), (), rfl, rfl, by rw [ht]; exact hP, hD⟩, hS.F ht⟩) hS.2.2 dX8_codeAt_11
  · replace hf := im c_1 hf
    refine lv_iload_n hx hb dX8_codeAt_4 rfl (lv_at hl 1 rfl) ?_
    refine lv_bipush (v := 8) hx hb dX8_codeAt_5 (by decide) ?_
    refine lv_icmp_lt (tgt := 12) hx hb dX8_codeAt_7 (by decide) (fun c_2 => ?_) (fun c_2 => ?_)
    · replace hf := ip c_2 hf
      refine lv_lload_n hx hb dX8_codeAt_12 rfl (lv_at hl 0 rfl) ?_
      refine lv_iconst (v := 5) hx hb dX8_codeAt_13 (by decide) ?_
      refine lv_bipush (v := 7) hx hb dX8_codeAt_14 (by decide) ?_
      refine lv_iload_n hx hb dX8_codeAt_16 rfl (lv_at hl 1 rfl) ?_
      refine lv_isub hx hb dX8_codeAt_17 ?_
      refine lv_imul hx hb dX8_codeAt_18 ?_
      refine lv_lshr hx hb dX8_codeAt_19 rfl ?_
      refine lv_l2i hx hb dX8_codeAt_20 rfl ?_
      refine lv_bipush (v := 31) hx hb dX8_codeAt_21 (by decide) ?_
      refine lv_iand hx hb dX8_codeAt_23 ?_
      have he := Option.some.inj hf
      rw [hQ]
      exact W.iret (v := ((Int64.toInt32 (p0 >>> (Int32.toInt64 ((5 : Int32) * ((7 : Int32) - p2)) &&& 63))) &&& (31 : Int32))) hx hb hr (fun t ht hW => by rw [← he]; exact ⟨⟨((Int64.toInt32 (p0 >>> (Int32.toInt64 ((5 : Int32) * ((7 : Int32) - p2)) &&& 63))) &&& (31 : Int32)), (), rfl, rfl, by rw [ht]; exact hP, hD⟩, hS.F ht⟩) hS.2.2 dX8_codeAt_24
    · replace hf := im c_2 hf
      refine lv_iconst (v := 0) hx hb dX8_codeAt_10 (by decide) ?_
      have he := Option.some.inj hf
      rw [hQ]
      exact W.iret (v := (0 : Int32)) hx hb hr (fun t ht hW => by rw [← he]; exact ⟨⟨(0 : Int32), (), rfl, rfl, by rw [ht]; exact hP, hD⟩, hS.F ht⟩) hS.2.2 dX8_codeAt_11
def fX8_length_2 (N : Nat) (p0 : Int64) : Nat → Int32 → Option (Int32)
  | 0, _ => none
  | K + 1, x2 =>
    if (8 : Int32) ≤ x2 then
      some (x2)
    else
      Option.bind (fX8_codeAt p0 x2) fun r2 =>
      if r2 = (0 : Int32) then
        some (x2)
      else
        (fX8_length_2 N p0 K) (x2 + (1 : Int32))
def fX8_length (N : Nat) (p0 : Int64) : Option (Int32) :=
  fX8_length_2 N p0 N (0 : Int32)
set_option maxHeartbeats 4000000 in
set_option maxRecDepth 100000 in
theorem mX8_length (l : Launch) (D : zG)  (sz : Nat)   (p0 : Int64) (N : Nat) (res : Int32) (hf : fX8_length N p0 = some res) : Met l yX8_length wsX8_length ({ frames := 1, cells := 0, slots := 0, locals := 22 } : Room) (va_Pc [.long p0] (zW D sz [])) (va_Qi (fun r (_ : Unit) => r = res) (fun _ => zB D (va_A [] sz) []) (va_A [] sz)) 0 0 (va_A [] sz) := by
  refine Met.ofW (cc := cX8_length) (maxL := 3) (ret := (some .int)) (by decide) rfl ?_
  intro p e s m args below meth c s₁ B hml hv
  obtain ⟨rfl, hsz, hP, hK, hD0⟩ := hv
  have hx := B.exec
  have hb := B.bytes
  have hr := B.returns
  have hts := atoms_spec (ws := wsX8_length) B.pre
  have hown : s.vm.findClass RX8 = some m.cls := findClass_of_methodNamed B.named
  have hlocks := B.notSynchronized
  subst hsz
  have hD := hD0.self (sz := s.heap.size)
  generalize hAe : va_A [] s.heap.size = A at hD ⊢
  have hA : ∀ q : Nat, s.heap.size ≤ q → A q := fun q h => by rw [← hAe]; exact Or.inr h
  have hl := lv_entry ([.long p0]) (n := 3) (Nat.le_of_ble_eq_true rfl)
  rw [lg_entry_eq]
  generalize (lg_sl ([.long p0]) ++ List.replicate (3 - (lg_sl ([.long p0])).length) Slot.unset).toArray = ls at hl ⊢
  have hl : lv_has ls 3 [(0, .long p0)] := hl
  refine zStart (A := A) hP (fun Q0 H locs hQ hP hS => ?_)
  have k2 : ∀ K : Nat, ∀ (x2 : Int32) (H : Heap) (locs : List Loc) (ls : Array Slot), fX8_length_2 N p0 K x2 = some res → va_P D.1 vwCl [] H → va_D A [] → va_S A s.heap H locs → lv_has ls 3 [(0, .long p0), (2, .int x2)] → W p l e (headSpec wsX8_length ({ frames := 1, cells := 0, slots := 0, locals := 22 } : Room)).room s m ([.long p0] : List Value).toArray below meth c H locs 0 0 Q0 (F0 m 2 ls []) := by
    intro K
    induction K with
    | zero =>
      intro x2 H locs ls hf
      rw [fX8_length_2] at hf
      cases hf
    | succ K ih =>
      intro x2 H locs ls hf hP hD hS hl
      rw [fX8_length_2] at hf
      refine lv_iload_n hx hb dX8_length_2 rfl (lv_at hl 1 rfl) ?_
      refine lv_bipush (v := 8) hx hb dX8_length_3 (by decide) ?_
      refine lv_icmp_ge (tgt := 22) hx hb dX8_length_5 (by decide) (fun c_1 => ?_) (fun c_1 => ?_)
      · replace hf := ip c_1 hf
        refine lv_iload_n hx hb dX8_length_22 rfl (lv_at hl 1 rfl) ?_
        have he := Option.some.inj hf
        rw [hQ]
        exact W.iret (v := x2) hx hb hr (fun t ht hW => by rw [← he]; exact ⟨⟨x2, (), rfl, rfl, by rw [ht]; exact hP, hD⟩, hS.F ht⟩) hS.2.2 dX8_length_23
      · replace hf := im c_1 hf
        refine lv_lload_n hx hb dX8_length_8 rfl (lv_at hl 0 rfl) ?_
        refine lv_iload_n hx hb dX8_length_9 rfl (lv_at hl 1 rfl) ?_
        obtain ⟨r2, hr2, hf⟩ := bd hf
        refine zSi (As := [.long p0, .int x2]) (rest := []) (wn := []) ⟨hx, hb, hml, hown, hts⟩ (mX8_codeAt l D H.size p0 x2 r2 hr2) (va_cwS 2 hts gX8_length_X8_codeAt rfl rfl rfl (by decide +kernel) ⟨Nat.le_of_ble_eq_true rfl, Nat.le_of_ble_eq_true rfl⟩) hK hP hD hS hA [] [] [] rfl (by decide) rfl (by decide) (by decide) rfl (by decide) rfl hl.1 rfl (Nat.le_of_ble_eq_true rfl) dX8_length_10 ⟨Nat.zero_le _, Nat.zero_le _⟩ (fun H locs hP hD hS => ?_)
        refine lv_if_eq (tgt := 22) hx hb dX8_length_13 (by decide) (fun c_3 => ?_) (fun c_3 => ?_)
        · replace hf := ip c_3 hf
          refine lv_iload_n hx hb dX8_length_22 rfl (lv_at hl 1 rfl) ?_
          have he := Option.some.inj hf
          rw [hQ]
          exact W.iret (v := x2) hx hb hr (fun t ht hW => by rw [← he]; exact ⟨⟨x2, (), rfl, rfl, by rw [ht]; exact hP, hD⟩, hS.F ht⟩) hS.2.2 dX8_length_23
        · replace hf := im c_3 hf
          refine lv_iinc (v := (x2 + (1 : Int32))) (lv' := [(2, .int (x2 + (1 : Int32))), (0, .long p0)]) hx hb dX8_length_16 hl (k := 1) rfl rfl (by decide) rfl (fun ls hl => ?_)
          refine lv_goto (tgt := 2) hx hb dX8_length_19 (by decide) ?_
          exact ih (x2 + (1 : Int32)) H locs ls hf hP hD hS (lv_sub hl [1, 0] rfl)
  unfold fX8_length at hf
  refine lv_iconst (v := 0) hx hb dX8_length_0 (by decide) ?_
  refine lv_istore_n (lv' := [(2, .int (0 : Int32)), (0, .long p0)]) hx hb dX8_length_1 rfl hl (by decide) rfl (fun ls hl => ?_)
  exact k2 N (0 : Int32) H locs ls hf hP hD hS (lv_sub hl [1, 0] rfl)
def fX8_head (p0 : Int64) (p2 : Int32) : Option (Int64) :=
  some (((p0 >>> (Int32.toInt64 ((5 : Int32) * ((8 : Int32) - (if (0 : Int32) < (if (8 : Int32) < p2 then (8 : Int32) else p2) then (if (8 : Int32) < p2 then (8 : Int32) else p2) else (0 : Int32)))) &&& 63)) <<< (Int32.toInt64 ((5 : Int32) * ((8 : Int32) - (if (0 : Int32) < (if (8 : Int32) < p2 then (8 : Int32) else p2) then (if (8 : Int32) < p2 then (8 : Int32) else p2) else (0 : Int32)))) &&& 63)))
set_option maxHeartbeats 4000000 in
set_option maxRecDepth 100000 in
theorem mX8_head (l : Launch) (D : zG)  (sz : Nat)   (p0 : Int64) (p2 : Int32) (res : Int64) (hf : fX8_head p0 p2 = some res) : Met l yX8_head wsX8_head ({ frames := 1, cells := 0, slots := 0, locals := 16 } : Room) (va_Pc [.long p0, .int p2] (zW D sz [])) (va_Ql (fun r (_ : Unit) => r = res) (fun _ => zB D (va_A [] sz) []) (va_A [] sz)) 0 0 (va_A [] sz) := by
  refine Met.ofW (cc := cX8_head) (maxL := 4) (ret := (some .long)) (by decide) rfl ?_
  intro p e s m args below meth c s₁ B hml hv
  obtain ⟨rfl, hsz, hP, hK, hD0⟩ := hv
  have hx := B.exec
  have hb := B.bytes
  have hr := B.returns
  have hts := atoms_spec (ws := wsX8_head) B.pre
  have hown : s.vm.findClass RX8 = some m.cls := findClass_of_methodNamed B.named
  have hlocks := B.notSynchronized
  subst hsz
  have hD := hD0.self (sz := s.heap.size)
  generalize hAe : va_A [] s.heap.size = A at hD ⊢
  have hA : ∀ q : Nat, s.heap.size ≤ q → A q := fun q h => by rw [← hAe]; exact Or.inr h
  have l26 := zat hts 1 (w := .methodLink RX8 26 Lib.Math.min.name) rfl
  have hstmin := zat hts 2 (w := .static Lib.Math.min.name) rfl
  have hinM := zat hts 3 (w := .initialized "java/lang/Math") rfl
  have hcdmin := zat hts 4 (w := .code Lib.Math.min.name Lib.Math.min.code 2 (some .int)) rfl
  have l32 := zat hts 5 (w := .methodLink RX8 32 Lib.Math.max.name) rfl
  have hstmax := zat hts 6 (w := .static Lib.Math.max.name) rfl
  have hcdmax := zat hts 7 (w := .code Lib.Math.max.name Lib.Math.max.code 2 (some .int)) rfl
  have hl := lv_entry ([.long p0, .int p2]) (n := 4) (Nat.le_of_ble_eq_true rfl)
  rw [lg_entry_eq]
  generalize (lg_sl ([.long p0, .int p2]) ++ List.replicate (4 - (lg_sl ([.long p0, .int p2])).length) Slot.unset).toArray = ls at hl ⊢
  have hl : lv_has ls 4 [(0, .long p0), (2, .int p2)] := hl
  refine zStart (A := A) hP (fun Q0 H locs hQ hP hS => ?_)
  unfold fX8_head at hf
  refine lv_iconst (v := 5) hx hb dX8_head_0 (by decide) ?_
  refine lv_bipush (v := 8) hx hb dX8_head_1 (by decide) ?_
  refine lv_iconst (v := 0) hx hb dX8_head_3 (by decide) ?_
  refine lv_iload_n hx hb dX8_head_4 rfl (lv_at hl 1 rfl) ?_
  refine lv_bipush (v := 8) hx hb dX8_head_5 (by decide) ?_
  refine va_mmin hx hb (hml.trans hl.1.symm) hown l26 hstmin hinM hcdmin (Nat.le_of_ble_eq_true rfl) (Nat.le_of_ble_eq_true rfl) (Nat.zero_le _) (Nat.zero_le _) dX8_head_7 ?_
  refine va_mmax hx hb (hml.trans hl.1.symm) hown l32 hstmax hinM hcdmax (Nat.le_of_ble_eq_true rfl) (Nat.le_of_ble_eq_true rfl) (Nat.zero_le _) (Nat.zero_le _) dX8_head_10 ?_
  refine lv_isub hx hb dX8_head_13 ?_
  refine lv_imul hx hb dX8_head_14 ?_
  refine lv_istore_n (lv' := [(3, .int ((5 : Int32) * ((8 : Int32) - (if (0 : Int32) < (if (8 : Int32) < p2 then (8 : Int32) else p2) then (if (8 : Int32) < p2 then (8 : Int32) else p2) else (0 : Int32))))), (0, .long p0), (2, .int p2)]) hx hb dX8_head_15 rfl hl (by decide) rfl (fun ls hl => ?_)
  refine lv_lload_n hx hb dX8_head_16 rfl (lv_at hl 1 rfl) ?_
  refine lv_iload_n hx hb dX8_head_17 rfl (lv_at hl 0 rfl) ?_
  refine lv_lshr hx hb dX8_head_18 rfl ?_
  refine lv_iload_n hx hb dX8_head_19 rfl (lv_at hl 0 rfl) ?_
  refine lv_lshl hx hb dX8_head_20 rfl ?_
  have he := Option.some.inj hf
  rw [hQ]
  exact W.lret (v := ((p0 >>> (Int32.toInt64 ((5 : Int32) * ((8 : Int32) - (if (0 : Int32) < (if (8 : Int32) < p2 then (8 : Int32) else p2) then (if (8 : Int32) < p2 then (8 : Int32) else p2) else (0 : Int32)))) &&& 63)) <<< (Int32.toInt64 ((5 : Int32) * ((8 : Int32) - (if (0 : Int32) < (if (8 : Int32) < p2 then (8 : Int32) else p2) then (if (8 : Int32) < p2 then (8 : Int32) else p2) else (0 : Int32)))) &&& 63))) hx hb hr (fun t ht hW => by rw [← he]; exact ⟨⟨((p0 >>> (Int32.toInt64 ((5 : Int32) * ((8 : Int32) - (if (0 : Int32) < (if (8 : Int32) < p2 then (8 : Int32) else p2) then (if (8 : Int32) < p2 then (8 : Int32) else p2) else (0 : Int32)))) &&& 63)) <<< (Int32.toInt64 ((5 : Int32) * ((8 : Int32) - (if (0 : Int32) < (if (8 : Int32) < p2 then (8 : Int32) else p2) then (if (8 : Int32) < p2 then (8 : Int32) else p2) else (0 : Int32)))) &&& 63)), (), rfl, rfl, by rw [ht]; exact hP, hD⟩, hS.F ht⟩) hS.2.2 dX8_head_21
def fX8_turned (N : Nat) (p0 : Int64) (p2 : Int32) : Option (Int64) :=
  Option.bind (fX8_length N p0) fun r1 =>
  Option.bind (fX8_put ((p0 <<< (Int32.toInt64 ((5 : Int32) * p2) &&& 63)) &&& (1099511627775 : Int64)) (r1 - p2) (36 : Int32)) fun r2 =>
  Option.bind (fX8_head p0 p2) fun r3 =>
  some ((r2 ||| (r3 >>> (Int32.toInt64 ((5 : Int32) * ((r1 - p2) + (1 : Int32))) &&& 63))))
set_option maxHeartbeats 4000000 in
set_option maxRecDepth 100000 in
theorem mX8_turned (l : Launch) (D : zG)  (sz : Nat)   (p0 : Int64) (p2 : Int32) (N : Nat) (res : Int64) (hf : fX8_turned N p0 p2 = some res) : Met l yX8_turned wsX8_turned ({ frames := 2, cells := 0, slots := 0, locals := 44 } : Room) (va_Pc [.long p0, .int p2] (zW D sz [])) (va_Ql (fun r (_ : Unit) => r = res) (fun _ => zB D (va_A [] sz) []) (va_A [] sz)) 0 0 (va_A [] sz) := by
  refine Met.ofW (cc := cX8_turned) (maxL := 6) (ret := (some .long)) (by decide) rfl ?_
  intro p e s m args below meth c s₁ B hml hv
  obtain ⟨rfl, hsz, hP, hK, hD0⟩ := hv
  have hx := B.exec
  have hb := B.bytes
  have hr := B.returns
  have hts := atoms_spec (ws := wsX8_turned) B.pre
  have hown : s.vm.findClass RX8 = some m.cls := findClass_of_methodNamed B.named
  have hlocks := B.notSynchronized
  subst hsz
  have hD := hD0.self (sz := s.heap.size)
  generalize hAe : va_A [] s.heap.size = A at hD ⊢
  have hA : ∀ q : Nat, s.heap.size ≤ q → A q := fun q h => by rw [← hAe]; exact Or.inr h
  have l39 := zat hts 1 (w := .constantLong RX8 39 (1099511627775)) rfl
  have hl := lv_entry ([.long p0, .int p2]) (n := 6) (Nat.le_of_ble_eq_true rfl)
  rw [lg_entry_eq]
  generalize (lg_sl ([.long p0, .int p2]) ++ List.replicate (6 - (lg_sl ([.long p0, .int p2])).length) Slot.unset).toArray = ls at hl ⊢
  have hl : lv_has ls 6 [(0, .long p0), (2, .int p2)] := hl
  refine zStart (A := A) hP (fun Q0 H locs hQ hP hS => ?_)
  unfold fX8_turned at hf
  refine lv_lload_n hx hb dX8_turned_0 rfl (lv_at hl 0 rfl) ?_
  obtain ⟨r1, hr1, hf⟩ := bd hf
  refine zSi (As := [.long p0]) (rest := []) (wn := []) ⟨hx, hb, hml, hown, hts⟩ (mX8_length l D H.size p0 N r1 hr1) (va_cwS 1 hts gX8_turned_X8_length rfl rfl rfl (by decide +kernel) ⟨Nat.le_of_ble_eq_true rfl, Nat.le_of_ble_eq_true rfl⟩) hK hP hD hS hA [] [] [] rfl (by decide) rfl (by decide) (by decide) rfl (by decide) rfl hl.1 rfl (Nat.le_of_ble_eq_true rfl) dX8_turned_1 ⟨Nat.zero_le _, Nat.zero_le _⟩ (fun H locs hP hD hS => ?_)
  refine lv_iload_n hx hb dX8_turned_4 rfl (lv_at hl 1 rfl) ?_
  refine lv_isub hx hb dX8_turned_5 ?_
  refine lv_istore_n (lv' := [(3, .int (r1 - p2)), (0, .long p0), (2, .int p2)]) hx hb dX8_turned_6 rfl hl (by decide) rfl (fun ls hl => ?_)
  refine lv_lload_n hx hb dX8_turned_7 rfl (lv_at hl 1 rfl) ?_
  refine lv_iconst (v := 5) hx hb dX8_turned_8 (by decide) ?_
  refine lv_iload_n hx hb dX8_turned_9 rfl (lv_at hl 2 rfl) ?_
  refine lv_imul hx hb dX8_turned_10 ?_
  refine lv_lshl hx hb dX8_turned_11 rfl ?_
  refine lv_ldc2 (v := (1099511627775 : Int64)) hx hb hown l39 dX8_turned_12 ?_
  refine lv_land hx hb dX8_turned_15 ?_
  refine lv_lstore (lv' := [(4, .long ((p0 <<< (Int32.toInt64 ((5 : Int32) * p2) &&& 63)) &&& (1099511627775 : Int64))), (3, .int (r1 - p2)), (0, .long p0), (2, .int p2)]) hx hb dX8_turned_16 hl (by decide) rfl (fun ls hl => ?_)
  refine lv_lload hx hb dX8_turned_18 (lv_at hl 0 rfl) ?_
  refine lv_iload_n hx hb dX8_turned_20 rfl (lv_at hl 1 rfl) ?_
  refine lv_bipush (v := 36) hx hb dX8_turned_21 (by decide) ?_
  obtain ⟨r2, hr2, hf⟩ := bd hf
  refine zSl (As := [.long ((p0 <<< (Int32.toInt64 ((5 : Int32) * p2) &&& 63)) &&& (1099511627775 : Int64)), .int (r1 - p2), .int (36 : Int32)]) (rest := []) (wn := []) ⟨hx, hb, hml, hown, hts⟩ (mX8_put l D H.size ((p0 <<< (Int32.toInt64 ((5 : Int32) * p2) &&& 63)) &&& (1099511627775 : Int64)) (r1 - p2) (36 : Int32) r2 hr2) (va_cwS 3 hts gX8_turned_X8_put rfl rfl rfl (by decide +kernel) ⟨Nat.le_of_ble_eq_true rfl, Nat.le_of_ble_eq_true rfl⟩) hK hP hD hS hA [] [] [] rfl (by decide) rfl (by decide) (by decide) rfl (by decide) rfl hl.1 rfl (Nat.le_of_ble_eq_true rfl) dX8_turned_23 ⟨Nat.zero_le _, Nat.zero_le _⟩ (fun H locs hP hD hS => ?_)
  refine lv_lload_n hx hb dX8_turned_26 rfl (lv_at hl 2 rfl) ?_
  refine lv_iload_n hx hb dX8_turned_27 rfl (lv_at hl 3 rfl) ?_
  obtain ⟨r3, hr3, hf⟩ := bd hf
  refine zSl (As := [.long p0, .int p2]) (rest := [.long r2]) (wn := []) ⟨hx, hb, hml, hown, hts⟩ (mX8_head l D H.size p0 p2 r3 hr3) (va_cwS 2 hts gX8_turned_X8_head rfl rfl rfl (by decide +kernel) ⟨Nat.le_of_ble_eq_true rfl, Nat.le_of_ble_eq_true rfl⟩) hK hP hD hS hA [] [] [] rfl (by decide) rfl (by decide) (by decide) rfl (by decide) rfl hl.1 rfl (Nat.le_of_ble_eq_true rfl) dX8_turned_28 ⟨Nat.zero_le _, Nat.zero_le _⟩ (fun H locs hP hD hS => ?_)
  refine lv_iconst (v := 5) hx hb dX8_turned_31 (by decide) ?_
  refine lv_iload_n hx hb dX8_turned_32 rfl (lv_at hl 1 rfl) ?_
  refine lv_iconst (v := 1) hx hb dX8_turned_33 (by decide) ?_
  refine lv_iadd hx hb dX8_turned_34 ?_
  refine lv_imul hx hb dX8_turned_35 ?_
  refine lv_lshr hx hb dX8_turned_36 rfl ?_
  refine lv_lor hx hb dX8_turned_37 ?_
  have he := Option.some.inj hf
  rw [hQ]
  exact W.lret (v := (r2 ||| (r3 >>> (Int32.toInt64 ((5 : Int32) * ((r1 - p2) + (1 : Int32))) &&& 63)))) hx hb hr (fun t ht hW => by rw [← he]; exact ⟨⟨(r2 ||| (r3 >>> (Int32.toInt64 ((5 : Int32) * ((r1 - p2) + (1 : Int32))) &&& 63))), (), rfl, rfl, by rw [ht]; exact hP, hD⟩, hS.F ht⟩) hS.2.2 dX8_turned_38
def fX3_keyOf (p0 : Int64) (p2 : Int32) (p3 : Int32) : Option (Int64) :=
  some ((((p0 <<< (Int32.toInt64 (9 : Int32) &&& 63)) ||| ((Int32.toInt64 p2) <<< (Int32.toInt64 (3 : Int32) &&& 63))) ||| (Int32.toInt64 p3)))
set_option maxHeartbeats 4000000 in
set_option maxRecDepth 100000 in
theorem mX3_keyOf (l : Launch) (D : zG)  (sz : Nat)   (p0 : Int64) (p2 : Int32) (p3 : Int32) (res : Int64) (hf : fX3_keyOf p0 p2 p3 = some res) : Met l yX3_keyOf wsX3_keyOf ({ frames := 0, cells := 0, slots := 0, locals := 0 } : Room) (va_Pc [.long p0, .int p2, .int p3] (zW D sz [])) (va_Ql (fun r (_ : Unit) => r = res) (fun _ => zB D (va_A [] sz) []) (va_A [] sz)) 0 0 (va_A [] sz) := by
  refine Met.ofW (cc := cX3_keyOf) (maxL := 4) (ret := (some .long)) (by decide) rfl ?_
  intro p e s m args below meth c s₁ B hml hv
  obtain ⟨rfl, hsz, hP, hK, hD0⟩ := hv
  have hx := B.exec
  have hb := B.bytes
  have hr := B.returns
  have hts := atoms_spec (ws := wsX3_keyOf) B.pre
  have hown : s.vm.findClass RX3 = some m.cls := findClass_of_methodNamed B.named
  have hlocks := B.notSynchronized
  subst hsz
  have hD := hD0.self (sz := s.heap.size)
  generalize hAe : va_A [] s.heap.size = A at hD ⊢
  have hA : ∀ q : Nat, s.heap.size ≤ q → A q := fun q h => by rw [← hAe]; exact Or.inr h
  have hl := lv_entry ([.long p0, .int p2, .int p3]) (n := 4) (Nat.le_of_ble_eq_true rfl)
  rw [lg_entry_eq]
  generalize (lg_sl ([.long p0, .int p2, .int p3]) ++ List.replicate (4 - (lg_sl ([.long p0, .int p2, .int p3])).length) Slot.unset).toArray = ls at hl ⊢
  have hl : lv_has ls 4 [(0, .long p0), (2, .int p2), (3, .int p3)] := hl
  refine zStart (A := A) hP (fun Q0 H locs hQ hP hS => ?_)
  unfold fX3_keyOf at hf
  refine lv_lload_n hx hb dX3_keyOf_0 rfl (lv_at hl 0 rfl) ?_
  refine lv_bipush (v := 9) hx hb dX3_keyOf_1 (by decide) ?_
  refine lv_lshl hx hb dX3_keyOf_3 rfl ?_
  refine lv_iload_n hx hb dX3_keyOf_4 rfl (lv_at hl 1 rfl) ?_
  refine lv_i2l hx hb dX3_keyOf_5 rfl ?_
  refine lv_iconst (v := 3) hx hb dX3_keyOf_6 (by decide) ?_
  refine lv_lshl hx hb dX3_keyOf_7 rfl ?_
  refine lv_lor hx hb dX3_keyOf_8 ?_
  refine lv_iload_n hx hb dX3_keyOf_9 rfl (lv_at hl 2 rfl) ?_
  refine lv_i2l hx hb dX3_keyOf_10 rfl ?_
  refine lv_lor hx hb dX3_keyOf_11 ?_
  have he := Option.some.inj hf
  rw [hQ]
  exact W.lret (v := (((p0 <<< (Int32.toInt64 (9 : Int32) &&& 63)) ||| ((Int32.toInt64 p2) <<< (Int32.toInt64 (3 : Int32) &&& 63))) ||| (Int32.toInt64 p3))) hx hb hr (fun t ht hW => by rw [← he]; exact ⟨⟨(((p0 <<< (Int32.toInt64 (9 : Int32) &&& 63)) ||| ((Int32.toInt64 p2) <<< (Int32.toInt64 (3 : Int32) &&& 63))) ||| (Int32.toInt64 p3)), (), rfl, rfl, by rw [ht]; exact hP, hD⟩, hS.F ht⟩) hS.2.2 dX3_keyOf_12
def fX7_below_7 (N : Nat) (n0_rows : Nat) (v0_size : Int32) (g0_rows : Nat → Int64) (p1 : Int64) : Nat → Int32 → Int32 → Option (Int32)
  | 0, _, _ => none
  | K + 1, x3, x4 =>
    if x4 ≤ (0 : Int32) then
      some (x3)
    else
      if v0_size < (x3 + x4) then
        (fX7_below_7 N n0_rows v0_size g0_rows p1 K) x3 (x4 >>> ((1 : Int32) &&& 31))
      else
        if ((x3 + x4) - (1 : Int32)) < 0 ∨ n0_rows ≤ (((x3 + x4) - (1 : Int32))).toNatClampNeg then none else
        if (0 : Int32) ≤ (lg_cmp (g0_rows (((x3 + x4) - (1 : Int32))).toNatClampNeg) p1) then
          (fX7_below_7 N n0_rows v0_size g0_rows p1 K) x3 (x4 >>> ((1 : Int32) &&& 31))
        else
          (fX7_below_7 N n0_rows v0_size g0_rows p1 K) (x3 + x4) (x4 >>> ((1 : Int32) &&& 31))
def fX7_below (N : Nat) (n0_rows : Nat) (v0_size : Int32) (g0_rows : Nat → Int64) (p1 : Int64) : Option (Int32) :=
  fX7_below_7 N n0_rows v0_size g0_rows p1 N (0 : Int32) (256 : Int32)
set_option maxHeartbeats 4000000 in
set_option maxRecDepth 100000 in
theorem mX7_below (l : Launch) (D : zG) (a0 : Nat) (a0_rows : Nat) (sz : Nat) (n0_rows : Nat) (v0_size : Int32) (g0_rows : Nat → Int64) (p1 : Int64) (N : Nat) (res : Int32) (hf : fX7_below N n0_rows v0_size g0_rows p1 = some res) : Met l yX7_below wsX7_below ({ frames := 0, cells := 0, slots := 0, locals := 0 } : Room) (va_Pc [.ref a0, .long p1] (zW D sz [(a0, .inr (5, [.ref a0_rows, .int v0_size])), (a0_rows, .inl (D.2 2, n0_rows, .inr (.inl g0_rows)))])) (va_Qi (fun r (_ : Unit) => r = res) (fun _ => zB D (va_A [(a0, .inr (5, [.ref a0_rows, .int v0_size])), (a0_rows, .inl (D.2 2, n0_rows, .inr (.inl g0_rows)))] sz) [(a0, .inr (5, [.ref a0_rows, .int v0_size])), (a0_rows, .inl (D.2 2, n0_rows, .inr (.inl g0_rows)))]) (va_A [(a0, .inr (5, [.ref a0_rows, .int v0_size])), (a0_rows, .inl (D.2 2, n0_rows, .inr (.inl g0_rows)))] sz)) 0 0 (va_A [(a0, .inr (5, [.ref a0_rows, .int v0_size])), (a0_rows, .inl (D.2 2, n0_rows, .inr (.inl g0_rows)))] sz) := by
  refine Met.ofW (cc := cX7_below) (maxL := 6) (ret := (some .int)) (by decide) rfl ?_
  intro p e s m args below meth c s₁ B hml hv
  obtain ⟨rfl, hsz, hP, hK, hD0⟩ := hv
  have hx := B.exec
  have hb := B.bytes
  have hr := B.returns
  have hts := atoms_spec (ws := wsX7_below) B.pre
  have hown : s.vm.findClass RX7 = some m.cls := findClass_of_methodNamed B.named
  have hlocks := B.notSynchronized
  subst hsz
  have hD := hD0.self (sz := s.heap.size)
  generalize hAe : va_A [(a0, .inr (5, [.ref a0_rows, .int v0_size])), (a0_rows, .inl (D.2 2, n0_rows, .inr (.inl g0_rows)))] s.heap.size = A at hD ⊢
  have hA : ∀ q : Nat, s.heap.size ≤ q → A q := fun q h => by rw [← hAe]; exact Or.inr h
  have l24 := zat hts 1 (w := .fieldLink RX7 24 "TurnedWords$Rising" "size" "I") rfl
  have l18 := zat hts 2 (w := .fieldLink RX7 18 "TurnedWords$Rising" "rows" "[J") rfl
  have hwX7 : ∀ w ∈ u_ws RX7 TX7 2, w ∈ wsX7_below := fun w h => List.mem_cons_of_mem _ (List.mem_append_right _ h)
  have hl := lv_entry ([.ref a0, .long p1]) (n := 6) (Nat.le_of_ble_eq_true rfl)
  rw [lg_entry_eq]
  generalize (lg_sl ([.ref a0, .long p1]) ++ List.replicate (6 - (lg_sl ([.ref a0, .long p1])).length) Slot.unset).toArray = ls at hl ⊢
  have hl : lv_has ls 6 [(0, .ref a0), (1, .long p1)] := hl
  refine zStart (A := A) hP (fun Q0 H locs hQ hP hS => ?_)
  have k7 : ∀ K : Nat, ∀ (x3 : Int32) (x4 : Int32) (H : Heap) (locs : List Loc) (ls : Array Slot), fX7_below_7 N n0_rows v0_size g0_rows p1 K x3 x4 = some res → va_P D.1 vwCl [(a0, .inr (5, [.ref a0_rows, .int v0_size])), (a0_rows, .inl (D.2 2, n0_rows, .inr (.inl g0_rows)))] H → va_D A [(a0, .inr (5, [.ref a0_rows, .int v0_size])), (a0_rows, .inl (D.2 2, n0_rows, .inr (.inl g0_rows)))] → va_S A s.heap H locs → lv_has ls 6 [(0, .ref a0), (1, .long p1), (3, .int x3), (4, .int x4)] → W p l e (headSpec wsX7_below ({ frames := 0, cells := 0, slots := 0, locals := 0 } : Room)).room s m ([.ref a0, .long p1] : List Value).toArray below meth c H locs 0 0 Q0 (F0 m 7 ls []) := by
    intro K
    induction K with
    | zero =>
      intro x3 x4 H locs ls hf
      rw [fX7_below_7] at hf
      cases hf
    | succ K ih =>
      intro x3 x4 H locs ls hf hP hD hS hl
      rw [fX7_below_7] at hf
      refine lv_iload hx hb dX7_below_7 (lv_at hl 3 rfl) ?_
      refine lv_if_le (tgt := 53) hx hb dX7_below_9 (by decide) (fun c_1 => ?_) (fun c_1 => ?_)
      · replace hf := ip c_1 hf
        refine lv_iload_n hx hb dX7_below_53 rfl (lv_at hl 2 rfl) ?_
        have he := Option.some.inj hf
        rw [hQ]
        exact W.iret (v := x3) hx hb hr (fun t ht hW => by rw [← he]; exact ⟨⟨x3, (), rfl, rfl, by rw [ht]; exact hP, hD⟩, hS.F ht⟩) hS.2.2 dX7_below_54
      · replace hf := im c_1 hf
        refine lv_iload_n hx hb dX7_below_12 rfl (lv_at hl 2 rfl) ?_
        refine lv_iload hx hb dX7_below_13 (lv_at hl 3 rfl) ?_
        refine lv_iadd hx hb dX7_below_15 ?_
        refine lv_istore (lv' := [(5, .int (x3 + x4)), (0, .ref a0), (1, .long p1), (3, .int x3), (4, .int x4)]) hx hb dX7_below_16 hl (by decide) rfl (fun ls hl => ?_)
        refine lv_iload hx hb dX7_below_18 (lv_at hl 0 rfl) ?_
        refine lv_aload_n hx hb dX7_below_20 rfl (lv_at hl 1 rfl) ?_
        refine va_get (D := D.1) (ci := 5) (v := .int v0_size) (C := RX7) (T := TX7) (N := 2) hx hb hts hwX7 hown hK.1 hP 0 rfl rfl 1 (by decide) l24 (fun _ h9 => h9) rfl dX7_below_21 ?_
        refine lv_icmp_gt (tgt := 44) hx hb dX7_below_24 (by decide) (fun c_2 => ?_) (fun c_2 => ?_)
        · replace hf := ip c_2 hf
          refine lv_iload hx hb dX7_below_44 (lv_at hl 4 rfl) ?_
          refine lv_iconst (v := 1) hx hb dX7_below_46 (by decide) ?_
          refine lv_ishr hx hb dX7_below_47 ?_
          refine lv_istore (lv' := [(4, .int (x4 >>> ((1 : Int32) &&& 31))), (5, .int (x3 + x4)), (0, .ref a0), (1, .long p1), (3, .int x3)]) hx hb dX7_below_48 hl (by decide) rfl (fun ls hl => ?_)
          refine lv_goto (tgt := 7) hx hb dX7_below_50 (by decide) ?_
          exact ih x3 (x4 >>> ((1 : Int32) &&& 31)) H locs ls hf hP hD hS (lv_sub hl [2, 3, 4, 0] rfl)
        · replace hf := im c_2 hf
          refine lv_aload_n hx hb dX7_below_27 rfl (lv_at hl 1 rfl) ?_
          refine va_get (D := D.1) (ci := 5) (v := .ref a0_rows) (C := RX7) (T := TX7) (N := 2) hx hb hts hwX7 hown hK.1 hP 0 rfl rfl 0 (by decide) l18 (fun _ h9 => h9) rfl dX7_below_28 ?_
          refine lv_iload hx hb dX7_below_31 (lv_at hl 0 rfl) ?_
          refine lv_iconst (v := 1) hx hb dX7_below_33 (by decide) ?_
          refine lv_isub hx hb dX7_below_34 ?_
          obtain ⟨h_3, hf⟩ := gd hf
          refine va_lald hx hb hK.1 hP 1 2 rfl rfl h_3 dX7_below_35 ?_
          refine lv_lload_n hx hb dX7_below_36 rfl (lv_at hl 2 rfl) ?_
          refine W.lcmp hx hb dX7_below_37 ?_
          refine lv_if_ge (tgt := 44) hx hb dX7_below_38 (by decide) (fun c_4 => ?_) (fun c_4 => ?_)
          · replace hf := ip c_4 hf
            refine lv_iload hx hb dX7_below_44 (lv_at hl 4 rfl) ?_
            refine lv_iconst (v := 1) hx hb dX7_below_46 (by decide) ?_
            refine lv_ishr hx hb dX7_below_47 ?_
            refine lv_istore (lv' := [(4, .int (x4 >>> ((1 : Int32) &&& 31))), (5, .int (x3 + x4)), (0, .ref a0), (1, .long p1), (3, .int x3)]) hx hb dX7_below_48 hl (by decide) rfl (fun ls hl => ?_)
            refine lv_goto (tgt := 7) hx hb dX7_below_50 (by decide) ?_
            exact ih x3 (x4 >>> ((1 : Int32) &&& 31)) H locs ls hf hP hD hS (lv_sub hl [2, 3, 4, 0] rfl)
          · replace hf := im c_4 hf
            refine lv_iload hx hb dX7_below_41 (lv_at hl 0 rfl) ?_
            refine lv_istore_n (lv' := [(3, .int (x3 + x4)), (5, .int (x3 + x4)), (0, .ref a0), (1, .long p1), (4, .int x4)]) hx hb dX7_below_43 rfl hl (by decide) rfl (fun ls hl => ?_)
            refine lv_iload hx hb dX7_below_44 (lv_at hl 4 rfl) ?_
            refine lv_iconst (v := 1) hx hb dX7_below_46 (by decide) ?_
            refine lv_ishr hx hb dX7_below_47 ?_
            refine lv_istore (lv' := [(4, .int (x4 >>> ((1 : Int32) &&& 31))), (3, .int (x3 + x4)), (5, .int (x3 + x4)), (0, .ref a0), (1, .long p1)]) hx hb dX7_below_48 hl (by decide) rfl (fun ls hl => ?_)
            refine lv_goto (tgt := 7) hx hb dX7_below_50 (by decide) ?_
            exact ih (x3 + x4) (x4 >>> ((1 : Int32) &&& 31)) H locs ls hf hP hD hS (lv_sub hl [3, 4, 1, 0] rfl)
  unfold fX7_below at hf
  refine lv_iconst (v := 0) hx hb dX7_below_0 (by decide) ?_
  refine lv_istore_n (lv' := [(3, .int (0 : Int32)), (0, .ref a0), (1, .long p1)]) hx hb dX7_below_1 rfl hl (by decide) rfl (fun ls hl => ?_)
  refine lv_sipush (v := 256) hx hb dX7_below_2 (by decide) ?_
  refine lv_istore (lv' := [(4, .int (256 : Int32)), (3, .int (0 : Int32)), (0, .ref a0), (1, .long p1)]) hx hb dX7_below_5 hl (by decide) rfl (fun ls hl => ?_)
  exact k7 N (0 : Int32) (256 : Int32) H locs ls hf hP hD hS (lv_sub hl [2, 3, 1, 0] rfl)
def fX7_isAt (n0_rows : Nat) (v0_size : Int32) (g0_rows : Nat → Int64) (p1 : Int32) (p2 : Int64) : Option (Int32) :=
  if v0_size ≤ p1 then
    some ((0 : Int32))
  else
    if p1 < 0 ∨ n0_rows ≤ (p1).toNatClampNeg then none else
    if (lg_cmp (g0_rows (p1).toNatClampNeg) p2) = (0 : Int32) then
      some ((1 : Int32))
    else
      some ((0 : Int32))
set_option maxHeartbeats 4000000 in
set_option maxRecDepth 100000 in
theorem mX7_isAt (l : Launch) (D : zG) (a0 : Nat) (a0_rows : Nat) (sz : Nat) (n0_rows : Nat) (v0_size : Int32) (g0_rows : Nat → Int64) (p1 : Int32) (p2 : Int64) (res : Int32) (hf : fX7_isAt n0_rows v0_size g0_rows p1 p2 = some res) : Met l yX7_isAt wsX7_isAt ({ frames := 0, cells := 0, slots := 0, locals := 0 } : Room) (va_Pc [.ref a0, .int p1, .long p2] (zW D sz [(a0, .inr (5, [.ref a0_rows, .int v0_size])), (a0_rows, .inl (D.2 2, n0_rows, .inr (.inl g0_rows)))])) (va_Qi (fun r (_ : Unit) => r = res ∧ (r = 0 ∨ r = 1)) (fun _ => zB D (va_A [(a0, .inr (5, [.ref a0_rows, .int v0_size])), (a0_rows, .inl (D.2 2, n0_rows, .inr (.inl g0_rows)))] sz) [(a0, .inr (5, [.ref a0_rows, .int v0_size])), (a0_rows, .inl (D.2 2, n0_rows, .inr (.inl g0_rows)))]) (va_A [(a0, .inr (5, [.ref a0_rows, .int v0_size])), (a0_rows, .inl (D.2 2, n0_rows, .inr (.inl g0_rows)))] sz)) 0 0 (va_A [(a0, .inr (5, [.ref a0_rows, .int v0_size])), (a0_rows, .inl (D.2 2, n0_rows, .inr (.inl g0_rows)))] sz) := by
  refine Met.ofW (cc := cX7_isAt) (maxL := 4) (ret := (some .boolean)) (by decide) rfl ?_
  intro p e s m args below meth c s₁ B hml hv
  obtain ⟨rfl, hsz, hP, hK, hD0⟩ := hv
  have hx := B.exec
  have hb := B.bytes
  have hr := B.returns
  have hts := atoms_spec (ws := wsX7_isAt) B.pre
  have hown : s.vm.findClass RX7 = some m.cls := findClass_of_methodNamed B.named
  have hlocks := B.notSynchronized
  subst hsz
  have hD := hD0.self (sz := s.heap.size)
  generalize hAe : va_A [(a0, .inr (5, [.ref a0_rows, .int v0_size])), (a0_rows, .inl (D.2 2, n0_rows, .inr (.inl g0_rows)))] s.heap.size = A at hD ⊢
  have hA : ∀ q : Nat, s.heap.size ≤ q → A q := fun q h => by rw [← hAe]; exact Or.inr h
  have l24 := zat hts 1 (w := .fieldLink RX7 24 "TurnedWords$Rising" "size" "I") rfl
  have l18 := zat hts 2 (w := .fieldLink RX7 18 "TurnedWords$Rising" "rows" "[J") rfl
  have hwX7 : ∀ w ∈ u_ws RX7 TX7 2, w ∈ wsX7_isAt := fun w h => List.mem_cons_of_mem _ (List.mem_append_right _ h)
  have hl := lv_entry ([.ref a0, .int p1, .long p2]) (n := 4) (Nat.le_of_ble_eq_true rfl)
  rw [lg_entry_eq]
  generalize (lg_sl ([.ref a0, .int p1, .long p2]) ++ List.replicate (4 - (lg_sl ([.ref a0, .int p1, .long p2])).length) Slot.unset).toArray = ls at hl ⊢
  have hl : lv_has ls 4 [(0, .ref a0), (1, .int p1), (2, .long p2)] := hl
  refine zStart (A := A) hP (fun Q0 H locs hQ hP hS => ?_)
  unfold fX7_isAt at hf
  refine lv_iload_n hx hb dX7_isAt_0 rfl (lv_at hl 1 rfl) ?_
  refine lv_aload_n hx hb dX7_isAt_1 rfl (lv_at hl 0 rfl) ?_
  refine va_get (D := D.1) (ci := 5) (v := .int v0_size) (C := RX7) (T := TX7) (N := 2) hx hb hts hwX7 hown hK.1 hP 0 rfl rfl 1 (by decide) l24 (fun _ h9 => h9) rfl dX7_isAt_2 ?_
  refine lv_icmp_ge (tgt := 23) hx hb dX7_isAt_5 (by decide) (fun c_1 => ?_) (fun c_1 => ?_)
  · replace hf := ip c_1 hf
    refine lv_iconst (v := 0) hx hb dX7_isAt_23 (by decide) ?_
    have he := Option.some.inj hf
    rw [hQ]
    exact W.zret (v := (0 : Int32)) hx hb hr (znb (Or.inl rfl)) (fun t ht hW => by rw [← he]; exact ⟨⟨(0 : Int32), (), rfl, ⟨rfl, Or.inl rfl⟩, by rw [ht]; exact hP, hD⟩, hS.F ht⟩) hS.2.2 dX7_isAt_24
  · replace hf := im c_1 hf
    refine lv_aload_n hx hb dX7_isAt_8 rfl (lv_at hl 0 rfl) ?_
    refine va_get (D := D.1) (ci := 5) (v := .ref a0_rows) (C := RX7) (T := TX7) (N := 2) hx hb hts hwX7 hown hK.1 hP 0 rfl rfl 0 (by decide) l18 (fun _ h9 => h9) rfl dX7_isAt_9 ?_
    refine lv_iload_n hx hb dX7_isAt_12 rfl (lv_at hl 1 rfl) ?_
    obtain ⟨h_2, hf⟩ := gd hf
    refine va_lald hx hb hK.1 hP 1 2 rfl rfl h_2 dX7_isAt_13 ?_
    refine lv_lload_n hx hb dX7_isAt_14 rfl (lv_at hl 2 rfl) ?_
    refine W.lcmp hx hb dX7_isAt_15 ?_
    refine lv_if_ne (tgt := 23) hx hb dX7_isAt_16 (by decide) (fun c_3 => ?_) (fun c_3 => ?_)
    · replace hf := im c_3 hf
      refine lv_iconst (v := 0) hx hb dX7_isAt_23 (by decide) ?_
      have he := Option.some.inj hf
      rw [hQ]
      exact W.zret (v := (0 : Int32)) hx hb hr (znb (Or.inl rfl)) (fun t ht hW => by rw [← he]; exact ⟨⟨(0 : Int32), (), rfl, ⟨rfl, Or.inl rfl⟩, by rw [ht]; exact hP, hD⟩, hS.F ht⟩) hS.2.2 dX7_isAt_24
    · replace hf := ip c_3 hf
      refine lv_iconst (v := 1) hx hb dX7_isAt_19 (by decide) ?_
      refine lv_goto (tgt := 24) hx hb dX7_isAt_20 (by decide) ?_
      have he := Option.some.inj hf
      rw [hQ]
      exact W.zret (v := (1 : Int32)) hx hb hr (znb (Or.inr rfl)) (fun t ht hW => by rw [← he]; exact ⟨⟨(1 : Int32), (), rfl, ⟨rfl, Or.inr rfl⟩, by rw [ht]; exact hP, hD⟩, hS.F ht⟩) hS.2.2 dX7_isAt_24
def fX7_add (N : Nat) (n0_rows : Nat) (v0_size : Int32) (g0_rows : Nat → Int64) (p1 : Int64) : Option (Int32 × Int32 × (Nat → Int64)) :=
  Option.bind (fX7_below N n0_rows v0_size g0_rows p1) fun r1 =>
  if (Int32.ofNat n0_rows) ≤ v0_size then
    some ((0 : Int32), v0_size, g0_rows)
  else
    Option.bind (fX7_isAt n0_rows v0_size g0_rows r1 p1) fun r3 =>
    if r3 = (0 : Int32) then
      if r1 < 0 ∨ (r1 + (1 : Int32)) < 0 ∨ (v0_size - r1) < 0 ∨ n0_rows < (r1).toNatClampNeg + ((v0_size - r1)).toNatClampNeg ∨ n0_rows < ((r1 + (1 : Int32))).toNatClampNeg + ((v0_size - r1)).toNatClampNeg then none else
      if r1 < 0 ∨ n0_rows ≤ (r1).toNatClampNeg then none else
      some ((1 : Int32), (v0_size + (1 : Int32)), (vp_updL (va_cpy g0_rows g0_rows (r1).toNatClampNeg ((r1 + (1 : Int32))).toNatClampNeg ((v0_size - r1)).toNatClampNeg) (r1).toNatClampNeg p1))
    else
      some ((0 : Int32), v0_size, g0_rows)
set_option maxHeartbeats 4000000 in
set_option maxRecDepth 100000 in
theorem mX7_add (l : Launch) (D : zG) (a0 : Nat) (a0_rows : Nat) (sz : Nat) (n0_rows : Nat) (v0_size : Int32) (g0_rows : Nat → Int64) (p1 : Int64) (N : Nat) (res : Int32 × Int32 × (Nat → Int64)) (hf : fX7_add N n0_rows v0_size g0_rows p1 = some res) : Met l yX7_add wsX7_add ({ frames := 1, cells := 0, slots := 0, locals := 40 } : Room) (va_Pc [.ref a0, .long p1] (zW D sz [(a0, .inr (5, [.ref a0_rows, .int v0_size])), (a0_rows, .inl (D.2 2, n0_rows, .inr (.inl g0_rows)))])) (va_Qi (fun r (_ : Unit) => r = res.1 ∧ (r = 0 ∨ r = 1)) (fun _ => zB D (va_A [(a0, .inr (5, [.ref a0_rows, .int v0_size])), (a0_rows, .inl (D.2 2, n0_rows, .inr (.inl g0_rows)))] sz) [(a0, .inr (5, [.ref a0_rows, .int res.2.1])), (a0_rows, .inl (D.2 2, n0_rows, .inr (.inl res.2.2)))]) (va_A [(a0, .inr (5, [.ref a0_rows, .int v0_size])), (a0_rows, .inl (D.2 2, n0_rows, .inr (.inl g0_rows)))] sz)) 0 0 (va_A [(a0, .inr (5, [.ref a0_rows, .int v0_size])), (a0_rows, .inl (D.2 2, n0_rows, .inr (.inl g0_rows)))] sz) := by
  refine Met.ofW (cc := cX7_add) (maxL := 4) (ret := (some .boolean)) (by decide) rfl ?_
  intro p e s m args below meth c s₁ B hml hv
  obtain ⟨rfl, hsz, hP, hK, hD0⟩ := hv
  have hx := B.exec
  have hb := B.bytes
  have hr := B.returns
  have hts := atoms_spec (ws := wsX7_add) B.pre
  have hown : s.vm.findClass RX7 = some m.cls := findClass_of_methodNamed B.named
  have hlocks := B.notSynchronized
  subst hsz
  have hD := hD0.self (sz := s.heap.size)
  generalize hAe : va_A [(a0, .inr (5, [.ref a0_rows, .int v0_size])), (a0_rows, .inl (D.2 2, n0_rows, .inr (.inl g0_rows)))] s.heap.size = A at hD ⊢
  have hA : ∀ q : Nat, s.heap.size ≤ q → A q := fun q h => by rw [← hAe]; exact Or.inr h
  have l24 := zat hts 1 (w := .fieldLink RX7 24 "TurnedWords$Rising" "size" "I") rfl
  have l18 := zat hts 2 (w := .fieldLink RX7 18 "TurnedWords$Rising" "rows" "[J") rfl
  have l42 := zat hts 3 (w := .methodLink RX7 42 arraycopyName) rfl
  have hnatA := zat hts 4 (w := .native arraycopyName) rfl
  have hstA := zat hts 5 (w := .static arraycopyName) rfl
  have hinS := zat hts 6 (w := .initialized "java/lang/System") rfl
  have hwX7 : ∀ w ∈ u_ws RX7 TX7 2, w ∈ wsX7_add := fun w h => List.mem_cons_of_mem _ (List.mem_append_right _ h)
  have hl := lv_entry ([.ref a0, .long p1]) (n := 4) (Nat.le_of_ble_eq_true rfl)
  rw [lg_entry_eq]
  generalize (lg_sl ([.ref a0, .long p1]) ++ List.replicate (4 - (lg_sl ([.ref a0, .long p1])).length) Slot.unset).toArray = ls at hl ⊢
  have hl : lv_has ls 4 [(0, .ref a0), (1, .long p1)] := hl
  refine zStart (A := A) hP (fun Q0 H locs hQ hP hS => ?_)
  unfold fX7_add at hf
  refine lv_aload_n hx hb dX7_add_0 rfl (lv_at hl 0 rfl) ?_
  refine lv_lload_n hx hb dX7_add_1 rfl (lv_at hl 1 rfl) ?_
  obtain ⟨r1, hr1, hf⟩ := bd hf
  refine zVi (As := [.long p1]) (rest := []) (ci := 5) (q0 := 0) (wn := [(a0, .inr (5, [.ref a0_rows, .int v0_size])), (a0_rows, .inl (D.2 2, n0_rows, .inr (.inl g0_rows)))]) ⟨hx, hb, hml, hown, hts⟩ (mX7_below l D a0 a0_rows H.size n0_rows v0_size g0_rows p1 N r1 hr1) (cwV 1 hts gX7_add_X7_below rfl rfl rfl (by decide +kernel) ⟨Nat.le_of_ble_eq_true rfl, Nat.le_of_ble_eq_true rfl⟩) hK hP hD hS hA [0, 1] [] [0, 1] rfl (by decide) rfl (by decide) (by decide) rfl (by decide) rfl rfl rfl hl.1 rfl (Nat.le_of_ble_eq_true rfl) dX7_add_2 ⟨Nat.zero_le _, Nat.zero_le _⟩ (fun H locs hP hD hS => ?_)
  refine lv_istore_n (lv' := [(3, .int r1), (0, .ref a0), (1, .long p1)]) hx hb dX7_add_5 rfl hl (by decide) rfl (fun ls hl => ?_)
  refine lv_aload_n hx hb dX7_add_6 rfl (lv_at hl 1 rfl) ?_
  refine va_get (D := D.1) (ci := 5) (v := .int v0_size) (C := RX7) (T := TX7) (N := 2) hx hb hts hwX7 hown hK.1 hP 0 rfl rfl 1 (by decide) l24 (fun _ h9 => h9) rfl dX7_add_7 ?_
  refine lv_aload_n hx hb dX7_add_10 rfl (lv_at hl 1 rfl) ?_
  refine va_get (D := D.1) (ci := 5) (v := .ref a0_rows) (C := RX7) (T := TX7) (N := 2) hx hb hts hwX7 hown hK.1 hP 0 rfl rfl 0 (by decide) l18 (fun _ h9 => h9) rfl dX7_add_11 ?_
  refine va_alen hx hb hK.1 hP 1 2 rfl rfl (v := (Int32.ofNat n0_rows)) rfl dX7_add_14 ?_
  refine lv_icmp_ge (tgt := 27) hx hb dX7_add_15 (by decide) (fun c_2 => ?_) (fun c_2 => ?_)
  · replace hf := ip c_2 hf
    refine lv_iconst (v := 0) hx hb dX7_add_27 (by decide) ?_
    have he := Option.some.inj hf
    rw [hQ]
    exact W.zret (v := (0 : Int32)) hx hb hr (znb (Or.inl rfl)) (fun t ht hW => by rw [← he]; exact ⟨⟨(0 : Int32), (), rfl, ⟨rfl, Or.inl rfl⟩, by rw [ht]; exact hP, hD⟩, hS.F ht⟩) hS.2.2 dX7_add_28
  · replace hf := im c_2 hf
    refine lv_aload_n hx hb dX7_add_18 rfl (lv_at hl 1 rfl) ?_
    refine lv_iload_n hx hb dX7_add_19 rfl (lv_at hl 0 rfl) ?_
    refine lv_lload_n hx hb dX7_add_20 rfl (lv_at hl 2 rfl) ?_
    obtain ⟨r3, hr3, hf⟩ := bd hf
    refine zVz (As := [.int r1, .long p1]) (rest := []) (ci := 5) (q0 := 0) (wn := [(a0, .inr (5, [.ref a0_rows, .int v0_size])), (a0_rows, .inl (D.2 2, n0_rows, .inr (.inl g0_rows)))]) ⟨hx, hb, hml, hown, hts⟩ (mX7_isAt l D a0 a0_rows H.size n0_rows v0_size g0_rows r1 p1 r3 hr3) (cwV 2 hts gX7_add_X7_isAt rfl rfl rfl (by decide +kernel) ⟨Nat.le_of_ble_eq_true rfl, Nat.le_of_ble_eq_true rfl⟩) hK hP hD hS hA [0, 1] [] [0, 1] rfl (by decide) rfl (by decide) (by decide) rfl (by decide) rfl rfl rfl hl.1 rfl (Nat.le_of_ble_eq_true rfl) dX7_add_21 ⟨Nat.zero_le _, Nat.zero_le _⟩ (fun H locs hb_4 hP hD hS => ?_)
    refine lv_if_eq (tgt := 29) hx hb dX7_add_24 (by decide) (fun c_5 => ?_) (fun c_5 => ?_)
    · replace hf := ip c_5 hf
      refine lv_aload_n hx hb dX7_add_29 rfl (lv_at hl 1 rfl) ?_
      refine va_get (D := D.1) (ci := 5) (v := .ref a0_rows) (C := RX7) (T := TX7) (N := 2) hx hb hts hwX7 hown hK.1 hP 0 rfl rfl 0 (by decide) l18 (fun _ h9 => h9) rfl dX7_add_30 ?_
      refine lv_iload_n hx hb dX7_add_33 rfl (lv_at hl 0 rfl) ?_
      refine lv_aload_n hx hb dX7_add_34 rfl (lv_at hl 1 rfl) ?_
      refine va_get (D := D.1) (ci := 5) (v := .ref a0_rows) (C := RX7) (T := TX7) (N := 2) hx hb hts hwX7 hown hK.1 hP 0 rfl rfl 0 (by decide) l18 (fun _ h9 => h9) rfl dX7_add_35 ?_
      refine lv_iload_n hx hb dX7_add_38 rfl (lv_at hl 0 rfl) ?_
      refine lv_iconst (v := 1) hx hb dX7_add_39 (by decide) ?_
      refine lv_iadd hx hb dX7_add_40 ?_
      refine lv_aload_n hx hb dX7_add_41 rfl (lv_at hl 1 rfl) ?_
      refine va_get (D := D.1) (ci := 5) (v := .int v0_size) (C := RX7) (T := TX7) (N := 2) hx hb hts hwX7 hown hK.1 hP 0 rfl rfl 1 (by decide) l24 (fun _ h9 => h9) rfl dX7_add_42 ?_
      refine lv_iload_n hx hb dX7_add_45 rfl (lv_at hl 0 rfl) ?_
      refine lv_isub hx hb dX7_add_46 ?_
      obtain ⟨h_6, hf⟩ := gd hf
      obtain ⟨h_7, h_8, h_9, h_10, h_11⟩ := zor5 h_6
      refine va_copyl hx hb (hml.trans hl.1.symm) hown l42 hnatA hstA hinS hK.1 hP hD hS 1 1 2 2 (ty := .long) rfl rfl rfl rfl rfl h_7 h_8 h_9 (Nat.not_lt.mp h_10) (Nat.not_lt.mp h_11) (fun _ _ => rfl) (Nat.le_of_ble_eq_true rfl) (Nat.le_of_ble_eq_true rfl) dX7_add_47 (fun H locs hP hD hS => ?_)
      have hP : va_P D.1 vwCl [(a0, .inr (5, [.ref a0_rows, .int v0_size])), (a0_rows, .inl (D.2 2, n0_rows, .inr (.inl (va_cpy g0_rows g0_rows (r1).toNatClampNeg ((r1 + (1 : Int32))).toNatClampNeg ((v0_size - r1)).toNatClampNeg))))] H := hP
      have hD : va_D A [(a0, .inr (5, [.ref a0_rows, .int v0_size])), (a0_rows, .inl (D.2 2, n0_rows, .inr (.inl (va_cpy g0_rows g0_rows (r1).toNatClampNeg ((r1 + (1 : Int32))).toNatClampNeg ((v0_size - r1)).toNatClampNeg))))] := hD
      refine lv_aload_n hx hb dX7_add_50 rfl (lv_at hl 1 rfl) ?_
      refine va_get (D := D.1) (ci := 5) (v := .ref a0_rows) (C := RX7) (T := TX7) (N := 2) hx hb hts hwX7 hown hK.1 hP 0 rfl rfl 0 (by decide) l18 (fun _ h9 => h9) rfl dX7_add_51 ?_
      refine lv_iload_n hx hb dX7_add_54 rfl (lv_at hl 0 rfl) ?_
      refine lv_lload_n hx hb dX7_add_55 rfl (lv_at hl 2 rfl) ?_
      obtain ⟨h_12, hf⟩ := gd hf
      refine va_last hx hb hK.1 hP hD hS 1 2 rfl rfl h_12 dX7_add_56 (fun H locs hP hD hS => ?_)
      have hP : va_P D.1 vwCl [(a0, .inr (5, [.ref a0_rows, .int v0_size])), (a0_rows, .inl (D.2 2, n0_rows, .inr (.inl (vp_updL (va_cpy g0_rows g0_rows (r1).toNatClampNeg ((r1 + (1 : Int32))).toNatClampNeg ((v0_size - r1)).toNatClampNeg) (r1).toNatClampNeg p1))))] H := hP
      have hD : va_D A [(a0, .inr (5, [.ref a0_rows, .int v0_size])), (a0_rows, .inl (D.2 2, n0_rows, .inr (.inl (vp_updL (va_cpy g0_rows g0_rows (r1).toNatClampNeg ((r1 + (1 : Int32))).toNatClampNeg ((v0_size - r1)).toNatClampNeg) (r1).toNatClampNeg p1))))] := hD
      refine lv_aload_n hx hb dX7_add_57 rfl (lv_at hl 1 rfl) ?_
      refine lv_dup hx hb dX7_add_58 rfl ?_
      refine va_get (D := D.1) (ci := 5) (v := .int v0_size) (C := RX7) (T := TX7) (N := 2) hx hb hts hwX7 hown hK.1 hP 0 rfl rfl 1 (by decide) l24 (fun _ h9 => h9) rfl dX7_add_59 ?_
      refine lv_iconst (v := 1) hx hb dX7_add_62 (by decide) ?_
      refine lv_iadd hx hb dX7_add_63 ?_
      refine va_put (D := D.1) (ci := 5) (v := .int (v0_size + (1 : Int32))) (ty := .int) (C := RX7) (T := TX7) (N := 2) hx hb hts hwX7 tyX7 tyX7_ok nmX7 hown hK.1 hP hD hS 0 rfl rfl 1 (by decide) l24 (fun _ h9 => h9) rfl (by decide +kernel) rfl rfl (Nat.le_of_ble_eq_true rfl) dX7_add_64 (fun H locs hP hD hS => ?_)
      have hP : va_P D.1 vwCl [(a0, .inr (5, [.ref a0_rows, .int (v0_size + (1 : Int32))])), (a0_rows, .inl (D.2 2, n0_rows, .inr (.inl (vp_updL (va_cpy g0_rows g0_rows (r1).toNatClampNeg ((r1 + (1 : Int32))).toNatClampNeg ((v0_size - r1)).toNatClampNeg) (r1).toNatClampNeg p1))))] H := hP
      have hD : va_D A [(a0, .inr (5, [.ref a0_rows, .int (v0_size + (1 : Int32))])), (a0_rows, .inl (D.2 2, n0_rows, .inr (.inl (vp_updL (va_cpy g0_rows g0_rows (r1).toNatClampNeg ((r1 + (1 : Int32))).toNatClampNeg ((v0_size - r1)).toNatClampNeg) (r1).toNatClampNeg p1))))] := hD
      refine lv_iconst (v := 1) hx hb dX7_add_67 (by decide) ?_
      have he := Option.some.inj hf
      rw [hQ]
      exact W.zret (v := (1 : Int32)) hx hb hr (znb (Or.inr rfl)) (fun t ht hW => by rw [← he]; exact ⟨⟨(1 : Int32), (), rfl, ⟨rfl, Or.inr rfl⟩, by rw [ht]; exact hP, hD⟩, hS.F ht⟩) hS.2.2 dX7_add_68
    · replace hf := im c_5 hf
      refine lv_iconst (v := 0) hx hb dX7_add_27 (by decide) ?_
      have he := Option.some.inj hf
      rw [hQ]
      exact W.zret (v := (0 : Int32)) hx hb hr (znb (Or.inl rfl)) (fun t ht hW => by rw [← he]; exact ⟨⟨(0 : Int32), (), rfl, ⟨rfl, Or.inl rfl⟩, by rw [ht]; exact hP, hD⟩, hS.F ht⟩) hS.2.2 dX7_add_28
def fX3_lay_32 (N : Nat) (n1_rows : Nat) (v1_size : Int32) (g1_rows : Nat → Int64) (rec9 : Int32 → Int32 → (Nat → Int64) → Option (Int32 × (Nat → Int64))) : Nat → Int32 → Int64 → Int32 → Int32 → Int32 → (Nat → Int64) → Option (Int32 × (Nat → Int64))
  | 0, _, _, _, _, _, _ => none
  | K + 1, x2, x3, x5, x6, v0_turns_size, g0_turns_rows =>
    if x5 < x6 then
      rec9 (x2 + (1 : Int32)) v0_turns_size g0_turns_rows
    else
      Option.bind (fX8_turned N x3 x6) fun r7 =>
      Option.bind (fX3_keyOf r7 x2 x6) fun r8 =>
      Option.bind (fX7_add N 320 v0_turns_size g0_turns_rows r8) fun r9 =>
      (fX3_lay_32 N n1_rows v1_size g1_rows rec9 K) x2 x3 x5 (x6 + (1 : Int32)) r9.2.1 r9.2.2
def fX3_lay_9 (N : Nat) (n1_rows : Nat) (v1_size : Int32) (g1_rows : Nat → Int64) : Nat → Int32 → Int32 → (Nat → Int64) → Option (Int32 × (Nat → Int64))
  | 0, _, _, _ => none
  | K + 1, x2, v0_turns_size, g0_turns_rows =>
    Option.bind (fX7_size v1_size) fun r2 =>
    if r2 ≤ x2 then
      some (v0_turns_size, g0_turns_rows)
    else
      Option.bind (fX7_at n1_rows v1_size g1_rows x2) fun r4 =>
      Option.bind (fX8_length N r4) fun r5 =>
      fX3_lay_32 N n1_rows v1_size g1_rows (fX3_lay_9 N n1_rows v1_size g1_rows K) N x2 r4 r5 (0 : Int32) v0_turns_size g0_turns_rows
def fX3_lay (N : Nat) (n1_rows : Nat) (v0_turns_size : Int32) (g0_turns_rows : Nat → Int64) (v1_size : Int32) (g1_rows : Nat → Int64) : Option (Int32 × (Nat → Int64)) :=
  Option.bind (fX7_clear v0_turns_size) fun r1 =>
  fX3_lay_9 N n1_rows v1_size g1_rows N (0 : Int32) r1 g0_turns_rows
set_option maxHeartbeats 4000000 in
set_option maxRecDepth 100000 in
theorem mX3_lay (l : Launch) (D : zG) (a0 : Nat) (a0_turns : Nat) (a0_turns_rows : Nat) (a1 : Nat) (a1_rows : Nat) (sz : Nat) (n1_rows : Nat) (v0_turns_size : Int32) (g0_turns_rows : Nat → Int64) (v1_size : Int32) (g1_rows : Nat → Int64)  (N : Nat) (res : Int32 × (Nat → Int64)) (hf : fX3_lay N n1_rows v0_turns_size g0_turns_rows v1_size g1_rows = some res) : Met l yX3_lay wsX3_lay ({ frames := 3, cells := 0, slots := 0, locals := 69 } : Room) (va_Pc [.ref a0, .ref a1] (zW D sz [(a0, .inr (2, [.ref a0_turns])), (a0_turns, .inr (5, [.ref a0_turns_rows, .int v0_turns_size])), (a0_turns_rows, .inl (D.2 2, 320, .inr (.inl g0_turns_rows))), (a1, .inr (5, [.ref a1_rows, .int v1_size])), (a1_rows, .inl (D.2 2, n1_rows, .inr (.inl g1_rows)))])) (va_Qv (fun (_ : Unit) => True) (fun _ => zB D (va_A [(a0, .inr (2, [.ref a0_turns])), (a0_turns, .inr (5, [.ref a0_turns_rows, .int v0_turns_size])), (a0_turns_rows, .inl (D.2 2, 320, .inr (.inl g0_turns_rows))), (a1, .inr (5, [.ref a1_rows, .int v1_size])), (a1_rows, .inl (D.2 2, n1_rows, .inr (.inl g1_rows)))] sz) [(a0, .inr (2, [.ref a0_turns])), (a0_turns, .inr (5, [.ref a0_turns_rows, .int res.1])), (a0_turns_rows, .inl (D.2 2, 320, .inr (.inl res.2))), (a1, .inr (5, [.ref a1_rows, .int v1_size])), (a1_rows, .inl (D.2 2, n1_rows, .inr (.inl g1_rows)))]) (va_A [(a0, .inr (2, [.ref a0_turns])), (a0_turns, .inr (5, [.ref a0_turns_rows, .int v0_turns_size])), (a0_turns_rows, .inl (D.2 2, 320, .inr (.inl g0_turns_rows))), (a1, .inr (5, [.ref a1_rows, .int v1_size])), (a1_rows, .inl (D.2 2, n1_rows, .inr (.inl g1_rows)))] sz)) 0 0 (va_A [(a0, .inr (2, [.ref a0_turns])), (a0_turns, .inr (5, [.ref a0_turns_rows, .int v0_turns_size])), (a0_turns_rows, .inl (D.2 2, 320, .inr (.inl g0_turns_rows))), (a1, .inr (5, [.ref a1_rows, .int v1_size])), (a1_rows, .inl (D.2 2, n1_rows, .inr (.inl g1_rows)))] sz) := by
  refine Met.ofW (cc := cX3_lay) (maxL := 7) (ret := none) (by decide) rfl ?_
  intro p e s m args below meth c s₁ B hml hv
  obtain ⟨rfl, hsz, hP, hK, hD0⟩ := hv
  have hx := B.exec
  have hb := B.bytes
  have hr := B.returns
  have hts := atoms_spec (ws := wsX3_lay) B.pre
  have hown : s.vm.findClass RX3 = some m.cls := findClass_of_methodNamed B.named
  have hlocks := B.notSynchronized
  subst hsz
  have hD := hD0.self (sz := s.heap.size)
  generalize hAe : va_A [(a0, .inr (2, [.ref a0_turns])), (a0_turns, .inr (5, [.ref a0_turns_rows, .int v0_turns_size])), (a0_turns_rows, .inl (D.2 2, 320, .inr (.inl g0_turns_rows))), (a1, .inr (5, [.ref a1_rows, .int v1_size])), (a1_rows, .inl (D.2 2, n1_rows, .inr (.inl g1_rows)))] s.heap.size = A at hD ⊢
  have hA : ∀ q : Nat, s.heap.size ≤ q → A q := fun q h => by rw [← hAe]; exact Or.inr h
  have l14 := zat hts 1 (w := .fieldLink RX3 14 "TurnedWords$Index" "turns" "LTurnedWords$Rising;") rfl
  have hwX3 : ∀ w ∈ u_ws RX3 TX3 1, w ∈ wsX3_lay := fun w h => List.mem_cons_of_mem _ (List.mem_append_left _ (List.mem_append_right _ h))
  have hl := lv_entry ([.ref a0, .ref a1]) (n := 7) (Nat.le_of_ble_eq_true rfl)
  rw [lg_entry_eq]
  generalize (lg_sl ([.ref a0, .ref a1]) ++ List.replicate (7 - (lg_sl ([.ref a0, .ref a1])).length) Slot.unset).toArray = ls at hl ⊢
  have hl : lv_has ls 7 [(0, .ref a0), (1, .ref a1)] := hl
  refine zStart (A := A) hP (fun Q0 H locs hQ hP hS => ?_)
  have k32 : ∀ (rec9 : Int32 → Int32 → (Nat → Int64) → Option (Int32 × (Nat → Int64))), (∀ (x2 : Int32) (v0_turns_size : Int32) (g0_turns_rows : Nat → Int64) (H : Heap) (locs : List Loc) (ls : Array Slot), rec9 x2 v0_turns_size g0_turns_rows = some res → va_P D.1 vwCl [(a0, .inr (2, [.ref a0_turns])), (a0_turns, .inr (5, [.ref a0_turns_rows, .int v0_turns_size])), (a0_turns_rows, .inl (D.2 2, 320, .inr (.inl g0_turns_rows))), (a1, .inr (5, [.ref a1_rows, .int v1_size])), (a1_rows, .inl (D.2 2, n1_rows, .inr (.inl g1_rows)))] H → va_D A [(a0, .inr (2, [.ref a0_turns])), (a0_turns, .inr (5, [.ref a0_turns_rows, .int v0_turns_size])), (a0_turns_rows, .inl (D.2 2, 320, .inr (.inl g0_turns_rows))), (a1, .inr (5, [.ref a1_rows, .int v1_size])), (a1_rows, .inl (D.2 2, n1_rows, .inr (.inl g1_rows)))] → va_S A s.heap H locs → lv_has ls 7 [(0, .ref a0), (1, .ref a1), (2, .int x2)] → W p l e (headSpec wsX3_lay ({ frames := 3, cells := 0, slots := 0, locals := 69 } : Room)).room s m ([.ref a0, .ref a1] : List Value).toArray below meth c H locs 0 0 Q0 (F0 m 9 ls [])) → ∀ K : Nat, ∀ (x2 : Int32) (x3 : Int64) (x5 : Int32) (x6 : Int32) (v0_turns_size : Int32) (g0_turns_rows : Nat → Int64) (H : Heap) (locs : List Loc) (ls : Array Slot), fX3_lay_32 N n1_rows v1_size g1_rows rec9 K x2 x3 x5 x6 v0_turns_size g0_turns_rows = some res → va_P D.1 vwCl [(a0, .inr (2, [.ref a0_turns])), (a0_turns, .inr (5, [.ref a0_turns_rows, .int v0_turns_size])), (a0_turns_rows, .inl (D.2 2, 320, .inr (.inl g0_turns_rows))), (a1, .inr (5, [.ref a1_rows, .int v1_size])), (a1_rows, .inl (D.2 2, n1_rows, .inr (.inl g1_rows)))] H → va_D A [(a0, .inr (2, [.ref a0_turns])), (a0_turns, .inr (5, [.ref a0_turns_rows, .int v0_turns_size])), (a0_turns_rows, .inl (D.2 2, 320, .inr (.inl g0_turns_rows))), (a1, .inr (5, [.ref a1_rows, .int v1_size])), (a1_rows, .inl (D.2 2, n1_rows, .inr (.inl g1_rows)))] → va_S A s.heap H locs → lv_has ls 7 [(0, .ref a0), (1, .ref a1), (2, .int x2), (3, .long x3), (5, .int x5), (6, .int x6)] → W p l e (headSpec wsX3_lay ({ frames := 3, cells := 0, slots := 0, locals := 69 } : Room)).room s m ([.ref a0, .ref a1] : List Value).toArray below meth c H locs 0 0 Q0 (F0 m 32 ls []) := by
    intro rec9 hrec9 K
    induction K with
    | zero =>
      intro x2 x3 x5 x6 v0_turns_size g0_turns_rows H locs ls hf
      rw [fX3_lay_32] at hf
      cases hf
    | succ K ih =>
      intro x2 x3 x5 x6 v0_turns_size g0_turns_rows H locs ls hf hP hD hS hl
      rw [fX3_lay_32] at hf
      refine lv_iload hx hb dX3_lay_32 (lv_at hl 5 rfl) ?_
      refine lv_iload hx hb dX3_lay_34 (lv_at hl 4 rfl) ?_
      refine lv_icmp_gt (tgt := 65) hx hb dX3_lay_36 (by decide) (fun c_6 => ?_) (fun c_6 => ?_)
      · replace hf := ip c_6 hf
        refine lv_iinc (v := (x2 + (1 : Int32))) (lv' := [(2, .int (x2 + (1 : Int32))), (0, .ref a0), (1, .ref a1), (3, .long x3), (5, .int x5), (6, .int x6)]) hx hb dX3_lay_65 hl (k := 2) rfl rfl (by decide) rfl (fun ls hl => ?_)
        refine lv_goto (tgt := 9) hx hb dX3_lay_68 (by decide) ?_
        exact hrec9 (x2 + (1 : Int32)) v0_turns_size g0_turns_rows H locs ls hf hP hD hS (lv_sub hl [1, 2, 0] rfl)
      · replace hf := im c_6 hf
        refine lv_aload_n hx hb dX3_lay_39 rfl (lv_at hl 0 rfl) ?_
        refine va_get (D := D.1) (ci := 2) (v := .ref a0_turns) (C := RX3) (T := TX3) (N := 1) hx hb hts hwX3 hown hK.1 hP 0 rfl rfl 0 (by decide) l14 (fun _ h9 => h9) rfl dX3_lay_40 ?_
        refine lv_lload_n hx hb dX3_lay_43 rfl (lv_at hl 3 rfl) ?_
        refine lv_iload hx hb dX3_lay_44 (lv_at hl 5 rfl) ?_
        obtain ⟨r7, hr7, hf⟩ := bd hf
        refine zSl (As := [.long x3, .int x6]) (rest := [.ref a0_turns]) (wn := [(a0, .inr (2, [.ref a0_turns])), (a0_turns, .inr (5, [.ref a0_turns_rows, .int v0_turns_size])), (a0_turns_rows, .inl (D.2 2, 320, .inr (.inl g0_turns_rows))), (a1, .inr (5, [.ref a1_rows, .int v1_size])), (a1_rows, .inl (D.2 2, n1_rows, .inr (.inl g1_rows)))]) ⟨hx, hb, hml, hown, hts⟩ (mX8_turned l D H.size x3 x6 N r7 hr7) (va_cwS 2 hts gX3_lay_X8_turned rfl rfl rfl (by decide +kernel) ⟨Nat.le_of_ble_eq_true rfl, Nat.le_of_ble_eq_true rfl⟩) hK hP hD hS hA [] [0, 1, 2, 3, 4] [0, 1, 2, 3, 4] rfl (by decide) rfl (by decide) (by decide) rfl (by decide) rfl hl.1 rfl (Nat.le_of_ble_eq_true rfl) dX3_lay_46 ⟨Nat.zero_le _, Nat.zero_le _⟩ (fun H locs hP hD hS => ?_)
        refine lv_iload_n hx hb dX3_lay_49 rfl (lv_at hl 2 rfl) ?_
        refine lv_iload hx hb dX3_lay_50 (lv_at hl 5 rfl) ?_
        obtain ⟨r8, hr8, hf⟩ := bd hf
        refine zSl (As := [.long r7, .int x2, .int x6]) (rest := [.ref a0_turns]) (wn := [(a0, .inr (2, [.ref a0_turns])), (a0_turns, .inr (5, [.ref a0_turns_rows, .int v0_turns_size])), (a0_turns_rows, .inl (D.2 2, 320, .inr (.inl g0_turns_rows))), (a1, .inr (5, [.ref a1_rows, .int v1_size])), (a1_rows, .inl (D.2 2, n1_rows, .inr (.inl g1_rows)))]) ⟨hx, hb, hml, hown, hts⟩ (mX3_keyOf l D H.size r7 x2 x6 r8 hr8) (va_cwS 3 hts gX3_lay_X3_keyOf rfl rfl rfl (by decide +kernel) ⟨Nat.le_of_ble_eq_true rfl, Nat.le_of_ble_eq_true rfl⟩) hK hP hD hS hA [] [0, 1, 2, 3, 4] [0, 1, 2, 3, 4] rfl (by decide) rfl (by decide) (by decide) rfl (by decide) rfl hl.1 rfl (Nat.le_of_ble_eq_true rfl) dX3_lay_52 ⟨Nat.zero_le _, Nat.zero_le _⟩ (fun H locs hP hD hS => ?_)
        obtain ⟨r9, hr9, hf⟩ := bd hf
        refine zVz (As := [.long r8]) (rest := []) (ci := 5) (q0 := 0) (wn := [(a0, .inr (2, [.ref a0_turns])), (a0_turns, .inr (5, [.ref a0_turns_rows, .int r9.2.1])), (a0_turns_rows, .inl (D.2 2, 320, .inr (.inl r9.2.2))), (a1, .inr (5, [.ref a1_rows, .int v1_size])), (a1_rows, .inl (D.2 2, n1_rows, .inr (.inl g1_rows)))]) ⟨hx, hb, hml, hown, hts⟩ (mX7_add l D a0_turns a0_turns_rows H.size 320 v0_turns_size g0_turns_rows r8 N r9 hr9) (cwV 1 hts gX3_lay_X7_add rfl rfl rfl (by decide +kernel) ⟨Nat.le_of_ble_eq_true rfl, Nat.le_of_ble_eq_true rfl⟩) hK hP hD hS hA [1, 2] [0, 3, 4] [0, 3, 4, 1, 2] rfl (by decide) rfl (by decide) (by decide) rfl (by decide) rfl rfl rfl hl.1 rfl (Nat.le_of_ble_eq_true rfl) dX3_lay_55 ⟨Nat.zero_le _, Nat.zero_le _⟩ (fun H locs hb_10 hP hD hS => ?_)
        refine lv_pop hx hb dX3_lay_58 rfl ?_
        refine lv_iinc (v := (x6 + (1 : Int32))) (lv' := [(6, .int (x6 + (1 : Int32))), (0, .ref a0), (1, .ref a1), (2, .int x2), (3, .long x3), (5, .int x5)]) hx hb dX3_lay_59 hl (k := 5) rfl rfl (by decide) rfl (fun ls hl => ?_)
        refine lv_goto (tgt := 32) hx hb dX3_lay_62 (by decide) ?_
        exact ih x2 x3 x5 (x6 + (1 : Int32)) r9.2.1 r9.2.2 H locs ls hf hP hD hS (lv_sub hl [1, 2, 3, 4, 5, 0] rfl)
  have k9 : ∀ K : Nat, ∀ (x2 : Int32) (v0_turns_size : Int32) (g0_turns_rows : Nat → Int64) (H : Heap) (locs : List Loc) (ls : Array Slot), fX3_lay_9 N n1_rows v1_size g1_rows K x2 v0_turns_size g0_turns_rows = some res → va_P D.1 vwCl [(a0, .inr (2, [.ref a0_turns])), (a0_turns, .inr (5, [.ref a0_turns_rows, .int v0_turns_size])), (a0_turns_rows, .inl (D.2 2, 320, .inr (.inl g0_turns_rows))), (a1, .inr (5, [.ref a1_rows, .int v1_size])), (a1_rows, .inl (D.2 2, n1_rows, .inr (.inl g1_rows)))] H → va_D A [(a0, .inr (2, [.ref a0_turns])), (a0_turns, .inr (5, [.ref a0_turns_rows, .int v0_turns_size])), (a0_turns_rows, .inl (D.2 2, 320, .inr (.inl g0_turns_rows))), (a1, .inr (5, [.ref a1_rows, .int v1_size])), (a1_rows, .inl (D.2 2, n1_rows, .inr (.inl g1_rows)))] → va_S A s.heap H locs → lv_has ls 7 [(0, .ref a0), (1, .ref a1), (2, .int x2)] → W p l e (headSpec wsX3_lay ({ frames := 3, cells := 0, slots := 0, locals := 69 } : Room)).room s m ([.ref a0, .ref a1] : List Value).toArray below meth c H locs 0 0 Q0 (F0 m 9 ls []) := by
    intro K
    induction K with
    | zero =>
      intro x2 v0_turns_size g0_turns_rows H locs ls hf
      rw [fX3_lay_9] at hf
      cases hf
    | succ K ih =>
      intro x2 v0_turns_size g0_turns_rows H locs ls hf hP hD hS hl
      rw [fX3_lay_9] at hf
      refine lv_iload_n hx hb dX3_lay_9 rfl (lv_at hl 2 rfl) ?_
      refine lv_aload_n hx hb dX3_lay_10 rfl (lv_at hl 1 rfl) ?_
      obtain ⟨r2, hr2, hf⟩ := bd hf
      refine zVi (As := []) (rest := [.int x2]) (ci := 5) (q0 := 0) (wn := [(a0, .inr (2, [.ref a0_turns])), (a0_turns, .inr (5, [.ref a0_turns_rows, .int v0_turns_size])), (a0_turns_rows, .inl (D.2 2, 320, .inr (.inl g0_turns_rows))), (a1, .inr (5, [.ref a1_rows, .int v1_size])), (a1_rows, .inl (D.2 2, n1_rows, .inr (.inl g1_rows)))]) ⟨hx, hb, hml, hown, hts⟩ (mX7_size l D a1 a1_rows H.size v1_size r2 hr2) (cwV 0 hts gX3_lay_X7_size rfl rfl rfl (by decide +kernel) ⟨Nat.le_of_ble_eq_true rfl, Nat.le_of_ble_eq_true rfl⟩) hK hP hD hS hA [3] [0, 1, 2, 4] [0, 1, 2, 4, 3] rfl (by decide) rfl (by decide) (by decide) rfl (by decide) rfl rfl rfl hl.1 rfl (Nat.le_of_ble_eq_true rfl) dX3_lay_11 ⟨Nat.zero_le _, Nat.zero_le _⟩ (fun H locs hP hD hS => ?_)
      refine lv_icmp_ge (tgt := 71) hx hb dX3_lay_14 (by decide) (fun c_3 => ?_) (fun c_3 => ?_)
      · replace hf := ip c_3 hf
        have he := Option.some.inj hf
        rw [hQ]
        exact W.vret hx hb hr (fun t ht hW => by rw [← he]; exact ⟨⟨(), rfl, trivial, by rw [ht]; exact hP, hD⟩, hS.F ht⟩) hS.2.2 dX3_lay_71
      · replace hf := im c_3 hf
        refine lv_aload_n hx hb dX3_lay_17 rfl (lv_at hl 1 rfl) ?_
        refine lv_iload_n hx hb dX3_lay_18 rfl (lv_at hl 2 rfl) ?_
        obtain ⟨r4, hr4, hf⟩ := bd hf
        refine zVl (As := [.int x2]) (rest := []) (ci := 5) (q0 := 0) (wn := [(a0, .inr (2, [.ref a0_turns])), (a0_turns, .inr (5, [.ref a0_turns_rows, .int v0_turns_size])), (a0_turns_rows, .inl (D.2 2, 320, .inr (.inl g0_turns_rows))), (a1, .inr (5, [.ref a1_rows, .int v1_size])), (a1_rows, .inl (D.2 2, n1_rows, .inr (.inl g1_rows)))]) ⟨hx, hb, hml, hown, hts⟩ (mX7_at l D a1 a1_rows H.size n1_rows v1_size g1_rows x2 r4 hr4) (cwV 1 hts gX3_lay_X7_at rfl rfl rfl (by decide +kernel) ⟨Nat.le_of_ble_eq_true rfl, Nat.le_of_ble_eq_true rfl⟩) hK hP hD hS hA [3, 4] [0, 1, 2] [0, 1, 2, 3, 4] rfl (by decide) rfl (by decide) (by decide) rfl (by decide) rfl rfl rfl hl.1 rfl (Nat.le_of_ble_eq_true rfl) dX3_lay_19 ⟨Nat.zero_le _, Nat.zero_le _⟩ (fun H locs hP hD hS => ?_)
        refine lv_lstore_n (lv' := [(3, .long r4), (0, .ref a0), (1, .ref a1), (2, .int x2)]) hx hb dX3_lay_22 rfl hl (by decide) rfl (fun ls hl => ?_)
        refine lv_lload_n hx hb dX3_lay_23 rfl (lv_at hl 0 rfl) ?_
        obtain ⟨r5, hr5, hf⟩ := bd hf
        refine zSi (As := [.long r4]) (rest := []) (wn := [(a0, .inr (2, [.ref a0_turns])), (a0_turns, .inr (5, [.ref a0_turns_rows, .int v0_turns_size])), (a0_turns_rows, .inl (D.2 2, 320, .inr (.inl g0_turns_rows))), (a1, .inr (5, [.ref a1_rows, .int v1_size])), (a1_rows, .inl (D.2 2, n1_rows, .inr (.inl g1_rows)))]) ⟨hx, hb, hml, hown, hts⟩ (mX8_length l D H.size r4 N r5 hr5) (va_cwS 1 hts gX3_lay_X8_length rfl rfl rfl (by decide +kernel) ⟨Nat.le_of_ble_eq_true rfl, Nat.le_of_ble_eq_true rfl⟩) hK hP hD hS hA [] [0, 1, 2, 3, 4] [0, 1, 2, 3, 4] rfl (by decide) rfl (by decide) (by decide) rfl (by decide) rfl hl.1 rfl (Nat.le_of_ble_eq_true rfl) dX3_lay_24 ⟨Nat.zero_le _, Nat.zero_le _⟩ (fun H locs hP hD hS => ?_)
        refine lv_istore (lv' := [(5, .int r5), (3, .long r4), (0, .ref a0), (1, .ref a1), (2, .int x2)]) hx hb dX3_lay_27 hl (by decide) rfl (fun ls hl => ?_)
        refine lv_iconst (v := 0) hx hb dX3_lay_29 (by decide) ?_
        refine lv_istore (lv' := [(6, .int (0 : Int32)), (5, .int r5), (3, .long r4), (0, .ref a0), (1, .ref a1), (2, .int x2)]) hx hb dX3_lay_30 hl (by decide) rfl (fun ls hl => ?_)
        exact k32 _ ih N x2 r4 r5 (0 : Int32) v0_turns_size g0_turns_rows H locs ls hf hP hD hS (lv_sub hl [3, 4, 5, 2, 1, 0] rfl)
  unfold fX3_lay at hf
  refine lv_aload_n hx hb dX3_lay_0 rfl (lv_at hl 0 rfl) ?_
  refine va_get (D := D.1) (ci := 2) (v := .ref a0_turns) (C := RX3) (T := TX3) (N := 1) hx hb hts hwX3 hown hK.1 hP 0 rfl rfl 0 (by decide) l14 (fun _ h9 => h9) rfl dX3_lay_1 ?_
  obtain ⟨r1, hr1, hf⟩ := bd hf
  refine zVv (As := []) (rest := []) (ci := 5) (q0 := 0) (wn := [(a0, .inr (2, [.ref a0_turns])), (a0_turns, .inr (5, [.ref a0_turns_rows, .int r1])), (a0_turns_rows, .inl (D.2 2, 320, .inr (.inl g0_turns_rows))), (a1, .inr (5, [.ref a1_rows, .int v1_size])), (a1_rows, .inl (D.2 2, n1_rows, .inr (.inl g1_rows)))]) ⟨hx, hb, hml, hown, hts⟩ (mX7_clear l D a0_turns a0_turns_rows H.size v0_turns_size r1 hr1) (cwV 0 hts gX3_lay_X7_clear rfl rfl rfl (by decide +kernel) ⟨Nat.le_of_ble_eq_true rfl, Nat.le_of_ble_eq_true rfl⟩) hK hP hD hS hA [1] [0, 2, 3, 4] [0, 4, 1, 2, 3] rfl (by decide) rfl (by decide) (by decide) rfl (by decide) rfl rfl rfl hl.1 rfl (Nat.le_of_ble_eq_true rfl) dX3_lay_4 ⟨Nat.zero_le _, Nat.zero_le _⟩ (fun H locs hP hD hS => ?_)
  refine lv_iconst (v := 0) hx hb dX3_lay_7 (by decide) ?_
  refine lv_istore_n (lv' := [(2, .int (0 : Int32)), (0, .ref a0), (1, .ref a1)]) hx hb dX3_lay_8 rfl hl (by decide) rfl (fun ls hl => ?_)
  exact k9 N (0 : Int32) r1 g0_turns_rows H locs ls hf hP hD hS (lv_sub hl [1, 2, 0] rfl)
def fX3_size (v0_turns_size : Int32) : Option (Int32) :=
  Option.bind (fX7_size v0_turns_size) fun r1 =>
  some (r1)
set_option maxHeartbeats 4000000 in
set_option maxRecDepth 100000 in
theorem mX3_size (l : Launch) (D : zG) (a0 : Nat) (a0_turns : Nat) (a0_turns_rows : Nat) (sz : Nat)  (v0_turns_size : Int32)  (res : Int32) (hf : fX3_size v0_turns_size = some res) : Met l yX3_size wsX3_size ({ frames := 1, cells := 0, slots := 0, locals := 20 } : Room) (va_Pc [.ref a0] (zW D sz [(a0, .inr (2, [.ref a0_turns])), (a0_turns, .inr (5, [.ref a0_turns_rows, .int v0_turns_size]))])) (va_Qi (fun r (_ : Unit) => r = res) (fun _ => zB D (va_A [(a0, .inr (2, [.ref a0_turns])), (a0_turns, .inr (5, [.ref a0_turns_rows, .int v0_turns_size]))] sz) [(a0, .inr (2, [.ref a0_turns])), (a0_turns, .inr (5, [.ref a0_turns_rows, .int v0_turns_size]))]) (va_A [(a0, .inr (2, [.ref a0_turns])), (a0_turns, .inr (5, [.ref a0_turns_rows, .int v0_turns_size]))] sz)) 0 0 (va_A [(a0, .inr (2, [.ref a0_turns])), (a0_turns, .inr (5, [.ref a0_turns_rows, .int v0_turns_size]))] sz) := by
  refine Met.ofW (cc := cX3_size) (maxL := 1) (ret := (some .int)) (by decide) rfl ?_
  intro p e s m args below meth c s₁ B hml hv
  obtain ⟨rfl, hsz, hP, hK, hD0⟩ := hv
  have hx := B.exec
  have hb := B.bytes
  have hr := B.returns
  have hts := atoms_spec (ws := wsX3_size) B.pre
  have hown : s.vm.findClass RX3 = some m.cls := findClass_of_methodNamed B.named
  have hlocks := B.notSynchronized
  subst hsz
  have hD := hD0.self (sz := s.heap.size)
  generalize hAe : va_A [(a0, .inr (2, [.ref a0_turns])), (a0_turns, .inr (5, [.ref a0_turns_rows, .int v0_turns_size]))] s.heap.size = A at hD ⊢
  have hA : ∀ q : Nat, s.heap.size ≤ q → A q := fun q h => by rw [← hAe]; exact Or.inr h
  have l14 := zat hts 1 (w := .fieldLink RX3 14 "TurnedWords$Index" "turns" "LTurnedWords$Rising;") rfl
  have hwX3 : ∀ w ∈ u_ws RX3 TX3 1, w ∈ wsX3_size := fun w h => List.mem_cons_of_mem _ (List.mem_append_left _ (List.mem_append_right _ h))
  have hl := lv_entry ([.ref a0]) (n := 1) (Nat.le_of_ble_eq_true rfl)
  rw [lg_entry_eq]
  generalize (lg_sl ([.ref a0]) ++ List.replicate (1 - (lg_sl ([.ref a0])).length) Slot.unset).toArray = ls at hl ⊢
  have hl : lv_has ls 1 [(0, .ref a0)] := hl
  refine zStart (A := A) hP (fun Q0 H locs hQ hP hS => ?_)
  unfold fX3_size at hf
  refine lv_aload_n hx hb dX3_size_0 rfl (lv_at hl 0 rfl) ?_
  refine va_get (D := D.1) (ci := 2) (v := .ref a0_turns) (C := RX3) (T := TX3) (N := 1) hx hb hts hwX3 hown hK.1 hP 0 rfl rfl 0 (by decide) l14 (fun _ h9 => h9) rfl dX3_size_1 ?_
  obtain ⟨r1, hr1, hf⟩ := bd hf
  refine zVi (As := []) (rest := []) (ci := 5) (q0 := 0) (wn := [(a0, .inr (2, [.ref a0_turns])), (a0_turns, .inr (5, [.ref a0_turns_rows, .int v0_turns_size]))]) ⟨hx, hb, hml, hown, hts⟩ (mX7_size l D a0_turns a0_turns_rows H.size v0_turns_size r1 hr1) (cwV 0 hts gX3_size_X7_size rfl rfl rfl (by decide +kernel) ⟨Nat.le_of_ble_eq_true rfl, Nat.le_of_ble_eq_true rfl⟩) hK hP hD hS hA [1] [0] [0, 1] rfl (by decide) rfl (by decide) (by decide) rfl (by decide) rfl rfl rfl hl.1 rfl (Nat.le_of_ble_eq_true rfl) dX3_size_4 ⟨Nat.zero_le _, Nat.zero_le _⟩ (fun H locs hP hD hS => ?_)
  have he := Option.some.inj hf
  rw [hQ]
  exact W.iret (v := r1) hx hb hr (fun t ht hW => by rw [← he]; exact ⟨⟨r1, (), rfl, rfl, by rw [ht]; exact hP, hD⟩, hS.F ht⟩) hS.2.2 dX3_size_7
def fX3_signsAt (v0_turns_size : Int32) (g0_turns_rows : Nat → Int64) (p1 : Int32) : Option (Int64) :=
  Option.bind (fX7_at 320 v0_turns_size g0_turns_rows p1) fun r1 =>
  some ((r1 >>> (Int32.toInt64 (9 : Int32) &&& 63)))
set_option maxHeartbeats 4000000 in
set_option maxRecDepth 100000 in
theorem mX3_signsAt (l : Launch) (D : zG) (a0 : Nat) (a0_turns : Nat) (a0_turns_rows : Nat) (sz : Nat)  (v0_turns_size : Int32) (g0_turns_rows : Nat → Int64) (p1 : Int32) (res : Int64) (hf : fX3_signsAt v0_turns_size g0_turns_rows p1 = some res) : Met l yX3_signsAt wsX3_signsAt ({ frames := 2, cells := 0, slots := 0, locals := 42 } : Room) (va_Pc [.ref a0, .int p1] (zW D sz [(a0, .inr (2, [.ref a0_turns])), (a0_turns, .inr (5, [.ref a0_turns_rows, .int v0_turns_size])), (a0_turns_rows, .inl (D.2 2, 320, .inr (.inl g0_turns_rows)))])) (va_Ql (fun r (_ : Unit) => r = res) (fun _ => zB D (va_A [(a0, .inr (2, [.ref a0_turns])), (a0_turns, .inr (5, [.ref a0_turns_rows, .int v0_turns_size])), (a0_turns_rows, .inl (D.2 2, 320, .inr (.inl g0_turns_rows)))] sz) [(a0, .inr (2, [.ref a0_turns])), (a0_turns, .inr (5, [.ref a0_turns_rows, .int v0_turns_size])), (a0_turns_rows, .inl (D.2 2, 320, .inr (.inl g0_turns_rows)))]) (va_A [(a0, .inr (2, [.ref a0_turns])), (a0_turns, .inr (5, [.ref a0_turns_rows, .int v0_turns_size])), (a0_turns_rows, .inl (D.2 2, 320, .inr (.inl g0_turns_rows)))] sz)) 0 0 (va_A [(a0, .inr (2, [.ref a0_turns])), (a0_turns, .inr (5, [.ref a0_turns_rows, .int v0_turns_size])), (a0_turns_rows, .inl (D.2 2, 320, .inr (.inl g0_turns_rows)))] sz) := by
  refine Met.ofW (cc := cX3_signsAt) (maxL := 2) (ret := (some .long)) (by decide) rfl ?_
  intro p e s m args below meth c s₁ B hml hv
  obtain ⟨rfl, hsz, hP, hK, hD0⟩ := hv
  have hx := B.exec
  have hb := B.bytes
  have hr := B.returns
  have hts := atoms_spec (ws := wsX3_signsAt) B.pre
  have hown : s.vm.findClass RX3 = some m.cls := findClass_of_methodNamed B.named
  have hlocks := B.notSynchronized
  subst hsz
  have hD := hD0.self (sz := s.heap.size)
  generalize hAe : va_A [(a0, .inr (2, [.ref a0_turns])), (a0_turns, .inr (5, [.ref a0_turns_rows, .int v0_turns_size])), (a0_turns_rows, .inl (D.2 2, 320, .inr (.inl g0_turns_rows)))] s.heap.size = A at hD ⊢
  have hA : ∀ q : Nat, s.heap.size ≤ q → A q := fun q h => by rw [← hAe]; exact Or.inr h
  have l14 := zat hts 1 (w := .fieldLink RX3 14 "TurnedWords$Index" "turns" "LTurnedWords$Rising;") rfl
  have hwX3 : ∀ w ∈ u_ws RX3 TX3 1, w ∈ wsX3_signsAt := fun w h => List.mem_cons_of_mem _ (List.mem_append_left _ (List.mem_append_right _ h))
  have hl := lv_entry ([.ref a0, .int p1]) (n := 2) (Nat.le_of_ble_eq_true rfl)
  rw [lg_entry_eq]
  generalize (lg_sl ([.ref a0, .int p1]) ++ List.replicate (2 - (lg_sl ([.ref a0, .int p1])).length) Slot.unset).toArray = ls at hl ⊢
  have hl : lv_has ls 2 [(0, .ref a0), (1, .int p1)] := hl
  refine zStart (A := A) hP (fun Q0 H locs hQ hP hS => ?_)
  unfold fX3_signsAt at hf
  refine lv_aload_n hx hb dX3_signsAt_0 rfl (lv_at hl 0 rfl) ?_
  refine va_get (D := D.1) (ci := 2) (v := .ref a0_turns) (C := RX3) (T := TX3) (N := 1) hx hb hts hwX3 hown hK.1 hP 0 rfl rfl 0 (by decide) l14 (fun _ h9 => h9) rfl dX3_signsAt_1 ?_
  refine lv_iload_n hx hb dX3_signsAt_4 rfl (lv_at hl 1 rfl) ?_
  obtain ⟨r1, hr1, hf⟩ := bd hf
  refine zVl (As := [.int p1]) (rest := []) (ci := 5) (q0 := 0) (wn := [(a0, .inr (2, [.ref a0_turns])), (a0_turns, .inr (5, [.ref a0_turns_rows, .int v0_turns_size])), (a0_turns_rows, .inl (D.2 2, 320, .inr (.inl g0_turns_rows)))]) ⟨hx, hb, hml, hown, hts⟩ (mX7_at l D a0_turns a0_turns_rows H.size 320 v0_turns_size g0_turns_rows p1 r1 hr1) (cwV 1 hts gX3_signsAt_X7_at rfl rfl rfl (by decide +kernel) ⟨Nat.le_of_ble_eq_true rfl, Nat.le_of_ble_eq_true rfl⟩) hK hP hD hS hA [1, 2] [0] [0, 1, 2] rfl (by decide) rfl (by decide) (by decide) rfl (by decide) rfl rfl rfl hl.1 rfl (Nat.le_of_ble_eq_true rfl) dX3_signsAt_5 ⟨Nat.zero_le _, Nat.zero_le _⟩ (fun H locs hP hD hS => ?_)
  refine lv_bipush (v := 9) hx hb dX3_signsAt_8 (by decide) ?_
  refine lv_lshr hx hb dX3_signsAt_10 rfl ?_
  have he := Option.some.inj hf
  rw [hQ]
  exact W.lret (v := (r1 >>> (Int32.toInt64 (9 : Int32) &&& 63))) hx hb hr (fun t ht hW => by rw [← he]; exact ⟨⟨(r1 >>> (Int32.toInt64 (9 : Int32) &&& 63)), (), rfl, rfl, by rw [ht]; exact hP, hD⟩, hS.F ht⟩) hS.2.2 dX3_signsAt_11
def fX3_wordAt (v0_turns_size : Int32) (g0_turns_rows : Nat → Int64) (p1 : Int32) : Option (Int32) :=
  Option.bind (fX7_at 320 v0_turns_size g0_turns_rows p1) fun r1 =>
  some (((Int64.toInt32 (r1 >>> (Int32.toInt64 (3 : Int32) &&& 63))) &&& (63 : Int32)))
set_option maxHeartbeats 4000000 in
set_option maxRecDepth 100000 in
theorem mX3_wordAt (l : Launch) (D : zG) (a0 : Nat) (a0_turns : Nat) (a0_turns_rows : Nat) (sz : Nat)  (v0_turns_size : Int32) (g0_turns_rows : Nat → Int64) (p1 : Int32) (res : Int32) (hf : fX3_wordAt v0_turns_size g0_turns_rows p1 = some res) : Met l yX3_wordAt wsX3_wordAt ({ frames := 2, cells := 0, slots := 0, locals := 42 } : Room) (va_Pc [.ref a0, .int p1] (zW D sz [(a0, .inr (2, [.ref a0_turns])), (a0_turns, .inr (5, [.ref a0_turns_rows, .int v0_turns_size])), (a0_turns_rows, .inl (D.2 2, 320, .inr (.inl g0_turns_rows)))])) (va_Qi (fun r (_ : Unit) => r = res) (fun _ => zB D (va_A [(a0, .inr (2, [.ref a0_turns])), (a0_turns, .inr (5, [.ref a0_turns_rows, .int v0_turns_size])), (a0_turns_rows, .inl (D.2 2, 320, .inr (.inl g0_turns_rows)))] sz) [(a0, .inr (2, [.ref a0_turns])), (a0_turns, .inr (5, [.ref a0_turns_rows, .int v0_turns_size])), (a0_turns_rows, .inl (D.2 2, 320, .inr (.inl g0_turns_rows)))]) (va_A [(a0, .inr (2, [.ref a0_turns])), (a0_turns, .inr (5, [.ref a0_turns_rows, .int v0_turns_size])), (a0_turns_rows, .inl (D.2 2, 320, .inr (.inl g0_turns_rows)))] sz)) 0 0 (va_A [(a0, .inr (2, [.ref a0_turns])), (a0_turns, .inr (5, [.ref a0_turns_rows, .int v0_turns_size])), (a0_turns_rows, .inl (D.2 2, 320, .inr (.inl g0_turns_rows)))] sz) := by
  refine Met.ofW (cc := cX3_wordAt) (maxL := 2) (ret := (some .int)) (by decide) rfl ?_
  intro p e s m args below meth c s₁ B hml hv
  obtain ⟨rfl, hsz, hP, hK, hD0⟩ := hv
  have hx := B.exec
  have hb := B.bytes
  have hr := B.returns
  have hts := atoms_spec (ws := wsX3_wordAt) B.pre
  have hown : s.vm.findClass RX3 = some m.cls := findClass_of_methodNamed B.named
  have hlocks := B.notSynchronized
  subst hsz
  have hD := hD0.self (sz := s.heap.size)
  generalize hAe : va_A [(a0, .inr (2, [.ref a0_turns])), (a0_turns, .inr (5, [.ref a0_turns_rows, .int v0_turns_size])), (a0_turns_rows, .inl (D.2 2, 320, .inr (.inl g0_turns_rows)))] s.heap.size = A at hD ⊢
  have hA : ∀ q : Nat, s.heap.size ≤ q → A q := fun q h => by rw [← hAe]; exact Or.inr h
  have l14 := zat hts 1 (w := .fieldLink RX3 14 "TurnedWords$Index" "turns" "LTurnedWords$Rising;") rfl
  have hwX3 : ∀ w ∈ u_ws RX3 TX3 1, w ∈ wsX3_wordAt := fun w h => List.mem_cons_of_mem _ (List.mem_append_left _ (List.mem_append_right _ h))
  have hl := lv_entry ([.ref a0, .int p1]) (n := 2) (Nat.le_of_ble_eq_true rfl)
  rw [lg_entry_eq]
  generalize (lg_sl ([.ref a0, .int p1]) ++ List.replicate (2 - (lg_sl ([.ref a0, .int p1])).length) Slot.unset).toArray = ls at hl ⊢
  have hl : lv_has ls 2 [(0, .ref a0), (1, .int p1)] := hl
  refine zStart (A := A) hP (fun Q0 H locs hQ hP hS => ?_)
  unfold fX3_wordAt at hf
  refine lv_aload_n hx hb dX3_wordAt_0 rfl (lv_at hl 0 rfl) ?_
  refine va_get (D := D.1) (ci := 2) (v := .ref a0_turns) (C := RX3) (T := TX3) (N := 1) hx hb hts hwX3 hown hK.1 hP 0 rfl rfl 0 (by decide) l14 (fun _ h9 => h9) rfl dX3_wordAt_1 ?_
  refine lv_iload_n hx hb dX3_wordAt_4 rfl (lv_at hl 1 rfl) ?_
  obtain ⟨r1, hr1, hf⟩ := bd hf
  refine zVl (As := [.int p1]) (rest := []) (ci := 5) (q0 := 0) (wn := [(a0, .inr (2, [.ref a0_turns])), (a0_turns, .inr (5, [.ref a0_turns_rows, .int v0_turns_size])), (a0_turns_rows, .inl (D.2 2, 320, .inr (.inl g0_turns_rows)))]) ⟨hx, hb, hml, hown, hts⟩ (mX7_at l D a0_turns a0_turns_rows H.size 320 v0_turns_size g0_turns_rows p1 r1 hr1) (cwV 1 hts gX3_wordAt_X7_at rfl rfl rfl (by decide +kernel) ⟨Nat.le_of_ble_eq_true rfl, Nat.le_of_ble_eq_true rfl⟩) hK hP hD hS hA [1, 2] [0] [0, 1, 2] rfl (by decide) rfl (by decide) (by decide) rfl (by decide) rfl rfl rfl hl.1 rfl (Nat.le_of_ble_eq_true rfl) dX3_wordAt_5 ⟨Nat.zero_le _, Nat.zero_le _⟩ (fun H locs hP hD hS => ?_)
  refine lv_iconst (v := 3) hx hb dX3_wordAt_8 (by decide) ?_
  refine lv_lshr hx hb dX3_wordAt_9 rfl ?_
  refine lv_l2i hx hb dX3_wordAt_10 rfl ?_
  refine lv_bipush (v := 63) hx hb dX3_wordAt_11 (by decide) ?_
  refine lv_iand hx hb dX3_wordAt_13 ?_
  have he := Option.some.inj hf
  rw [hQ]
  exact W.iret (v := ((Int64.toInt32 (r1 >>> (Int32.toInt64 (3 : Int32) &&& 63))) &&& (63 : Int32))) hx hb hr (fun t ht hW => by rw [← he]; exact ⟨⟨((Int64.toInt32 (r1 >>> (Int32.toInt64 (3 : Int32) &&& 63))) &&& (63 : Int32)), (), rfl, rfl, by rw [ht]; exact hP, hD⟩, hS.F ht⟩) hS.2.2 dX3_wordAt_14
def fX3_numberAt (v0_turns_size : Int32) (g0_turns_rows : Nat → Int64) (p1 : Int32) : Option (Int32) :=
  Option.bind (fX7_at 320 v0_turns_size g0_turns_rows p1) fun r1 =>
  some (((Int64.toInt32 r1) &&& (7 : Int32)))
set_option maxHeartbeats 4000000 in
set_option maxRecDepth 100000 in
theorem mX3_numberAt (l : Launch) (D : zG) (a0 : Nat) (a0_turns : Nat) (a0_turns_rows : Nat) (sz : Nat)  (v0_turns_size : Int32) (g0_turns_rows : Nat → Int64) (p1 : Int32) (res : Int32) (hf : fX3_numberAt v0_turns_size g0_turns_rows p1 = some res) : Met l yX3_numberAt wsX3_numberAt ({ frames := 2, cells := 0, slots := 0, locals := 42 } : Room) (va_Pc [.ref a0, .int p1] (zW D sz [(a0, .inr (2, [.ref a0_turns])), (a0_turns, .inr (5, [.ref a0_turns_rows, .int v0_turns_size])), (a0_turns_rows, .inl (D.2 2, 320, .inr (.inl g0_turns_rows)))])) (va_Qi (fun r (_ : Unit) => r = res) (fun _ => zB D (va_A [(a0, .inr (2, [.ref a0_turns])), (a0_turns, .inr (5, [.ref a0_turns_rows, .int v0_turns_size])), (a0_turns_rows, .inl (D.2 2, 320, .inr (.inl g0_turns_rows)))] sz) [(a0, .inr (2, [.ref a0_turns])), (a0_turns, .inr (5, [.ref a0_turns_rows, .int v0_turns_size])), (a0_turns_rows, .inl (D.2 2, 320, .inr (.inl g0_turns_rows)))]) (va_A [(a0, .inr (2, [.ref a0_turns])), (a0_turns, .inr (5, [.ref a0_turns_rows, .int v0_turns_size])), (a0_turns_rows, .inl (D.2 2, 320, .inr (.inl g0_turns_rows)))] sz)) 0 0 (va_A [(a0, .inr (2, [.ref a0_turns])), (a0_turns, .inr (5, [.ref a0_turns_rows, .int v0_turns_size])), (a0_turns_rows, .inl (D.2 2, 320, .inr (.inl g0_turns_rows)))] sz) := by
  refine Met.ofW (cc := cX3_numberAt) (maxL := 2) (ret := (some .int)) (by decide) rfl ?_
  intro p e s m args below meth c s₁ B hml hv
  obtain ⟨rfl, hsz, hP, hK, hD0⟩ := hv
  have hx := B.exec
  have hb := B.bytes
  have hr := B.returns
  have hts := atoms_spec (ws := wsX3_numberAt) B.pre
  have hown : s.vm.findClass RX3 = some m.cls := findClass_of_methodNamed B.named
  have hlocks := B.notSynchronized
  subst hsz
  have hD := hD0.self (sz := s.heap.size)
  generalize hAe : va_A [(a0, .inr (2, [.ref a0_turns])), (a0_turns, .inr (5, [.ref a0_turns_rows, .int v0_turns_size])), (a0_turns_rows, .inl (D.2 2, 320, .inr (.inl g0_turns_rows)))] s.heap.size = A at hD ⊢
  have hA : ∀ q : Nat, s.heap.size ≤ q → A q := fun q h => by rw [← hAe]; exact Or.inr h
  have l14 := zat hts 1 (w := .fieldLink RX3 14 "TurnedWords$Index" "turns" "LTurnedWords$Rising;") rfl
  have hwX3 : ∀ w ∈ u_ws RX3 TX3 1, w ∈ wsX3_numberAt := fun w h => List.mem_cons_of_mem _ (List.mem_append_left _ (List.mem_append_right _ h))
  have hl := lv_entry ([.ref a0, .int p1]) (n := 2) (Nat.le_of_ble_eq_true rfl)
  rw [lg_entry_eq]
  generalize (lg_sl ([.ref a0, .int p1]) ++ List.replicate (2 - (lg_sl ([.ref a0, .int p1])).length) Slot.unset).toArray = ls at hl ⊢
  have hl : lv_has ls 2 [(0, .ref a0), (1, .int p1)] := hl
  refine zStart (A := A) hP (fun Q0 H locs hQ hP hS => ?_)
  unfold fX3_numberAt at hf
  refine lv_aload_n hx hb dX3_numberAt_0 rfl (lv_at hl 0 rfl) ?_
  refine va_get (D := D.1) (ci := 2) (v := .ref a0_turns) (C := RX3) (T := TX3) (N := 1) hx hb hts hwX3 hown hK.1 hP 0 rfl rfl 0 (by decide) l14 (fun _ h9 => h9) rfl dX3_numberAt_1 ?_
  refine lv_iload_n hx hb dX3_numberAt_4 rfl (lv_at hl 1 rfl) ?_
  obtain ⟨r1, hr1, hf⟩ := bd hf
  refine zVl (As := [.int p1]) (rest := []) (ci := 5) (q0 := 0) (wn := [(a0, .inr (2, [.ref a0_turns])), (a0_turns, .inr (5, [.ref a0_turns_rows, .int v0_turns_size])), (a0_turns_rows, .inl (D.2 2, 320, .inr (.inl g0_turns_rows)))]) ⟨hx, hb, hml, hown, hts⟩ (mX7_at l D a0_turns a0_turns_rows H.size 320 v0_turns_size g0_turns_rows p1 r1 hr1) (cwV 1 hts gX3_numberAt_X7_at rfl rfl rfl (by decide +kernel) ⟨Nat.le_of_ble_eq_true rfl, Nat.le_of_ble_eq_true rfl⟩) hK hP hD hS hA [1, 2] [0] [0, 1, 2] rfl (by decide) rfl (by decide) (by decide) rfl (by decide) rfl rfl rfl hl.1 rfl (Nat.le_of_ble_eq_true rfl) dX3_numberAt_5 ⟨Nat.zero_le _, Nat.zero_le _⟩ (fun H locs hP hD hS => ?_)
  refine lv_l2i hx hb dX3_numberAt_8 rfl ?_
  refine lv_bipush (v := 7) hx hb dX3_numberAt_9 (by decide) ?_
  refine lv_iand hx hb dX3_numberAt_11 ?_
  have he := Option.some.inj hf
  rw [hQ]
  exact W.iret (v := ((Int64.toInt32 r1) &&& (7 : Int32))) hx hb hr (fun t ht hW => by rw [← he]; exact ⟨⟨((Int64.toInt32 r1) &&& (7 : Int32)), (), rfl, rfl, by rw [ht]; exact hP, hD⟩, hS.F ht⟩) hS.2.2 dX3_numberAt_12
def fX3_from (N : Nat) (v0_turns_size : Int32) (g0_turns_rows : Nat → Int64) (p1 : Int64) : Option (Int32) :=
  Option.bind (fX7_below N 320 v0_turns_size g0_turns_rows (p1 <<< (Int32.toInt64 (9 : Int32) &&& 63))) fun r1 =>
  some (r1)
set_option maxHeartbeats 4000000 in
set_option maxRecDepth 100000 in
theorem mX3_from (l : Launch) (D : zG) (a0 : Nat) (a0_turns : Nat) (a0_turns_rows : Nat) (sz : Nat)  (v0_turns_size : Int32) (g0_turns_rows : Nat → Int64) (p1 : Int64) (N : Nat) (res : Int32) (hf : fX3_from N v0_turns_size g0_turns_rows p1 = some res) : Met l yX3_from wsX3_from ({ frames := 1, cells := 0, slots := 0, locals := 25 } : Room) (va_Pc [.ref a0, .long p1] (zW D sz [(a0, .inr (2, [.ref a0_turns])), (a0_turns, .inr (5, [.ref a0_turns_rows, .int v0_turns_size])), (a0_turns_rows, .inl (D.2 2, 320, .inr (.inl g0_turns_rows)))])) (va_Qi (fun r (_ : Unit) => r = res) (fun _ => zB D (va_A [(a0, .inr (2, [.ref a0_turns])), (a0_turns, .inr (5, [.ref a0_turns_rows, .int v0_turns_size])), (a0_turns_rows, .inl (D.2 2, 320, .inr (.inl g0_turns_rows)))] sz) [(a0, .inr (2, [.ref a0_turns])), (a0_turns, .inr (5, [.ref a0_turns_rows, .int v0_turns_size])), (a0_turns_rows, .inl (D.2 2, 320, .inr (.inl g0_turns_rows)))]) (va_A [(a0, .inr (2, [.ref a0_turns])), (a0_turns, .inr (5, [.ref a0_turns_rows, .int v0_turns_size])), (a0_turns_rows, .inl (D.2 2, 320, .inr (.inl g0_turns_rows)))] sz)) 0 0 (va_A [(a0, .inr (2, [.ref a0_turns])), (a0_turns, .inr (5, [.ref a0_turns_rows, .int v0_turns_size])), (a0_turns_rows, .inl (D.2 2, 320, .inr (.inl g0_turns_rows)))] sz) := by
  refine Met.ofW (cc := cX3_from) (maxL := 3) (ret := (some .int)) (by decide) rfl ?_
  intro p e s m args below meth c s₁ B hml hv
  obtain ⟨rfl, hsz, hP, hK, hD0⟩ := hv
  have hx := B.exec
  have hb := B.bytes
  have hr := B.returns
  have hts := atoms_spec (ws := wsX3_from) B.pre
  have hown : s.vm.findClass RX3 = some m.cls := findClass_of_methodNamed B.named
  have hlocks := B.notSynchronized
  subst hsz
  have hD := hD0.self (sz := s.heap.size)
  generalize hAe : va_A [(a0, .inr (2, [.ref a0_turns])), (a0_turns, .inr (5, [.ref a0_turns_rows, .int v0_turns_size])), (a0_turns_rows, .inl (D.2 2, 320, .inr (.inl g0_turns_rows)))] s.heap.size = A at hD ⊢
  have hA : ∀ q : Nat, s.heap.size ≤ q → A q := fun q h => by rw [← hAe]; exact Or.inr h
  have l14 := zat hts 1 (w := .fieldLink RX3 14 "TurnedWords$Index" "turns" "LTurnedWords$Rising;") rfl
  have hwX3 : ∀ w ∈ u_ws RX3 TX3 1, w ∈ wsX3_from := fun w h => List.mem_cons_of_mem _ (List.mem_append_left _ (List.mem_append_right _ h))
  have hl := lv_entry ([.ref a0, .long p1]) (n := 3) (Nat.le_of_ble_eq_true rfl)
  rw [lg_entry_eq]
  generalize (lg_sl ([.ref a0, .long p1]) ++ List.replicate (3 - (lg_sl ([.ref a0, .long p1])).length) Slot.unset).toArray = ls at hl ⊢
  have hl : lv_has ls 3 [(0, .ref a0), (1, .long p1)] := hl
  refine zStart (A := A) hP (fun Q0 H locs hQ hP hS => ?_)
  unfold fX3_from at hf
  refine lv_aload_n hx hb dX3_from_0 rfl (lv_at hl 0 rfl) ?_
  refine va_get (D := D.1) (ci := 2) (v := .ref a0_turns) (C := RX3) (T := TX3) (N := 1) hx hb hts hwX3 hown hK.1 hP 0 rfl rfl 0 (by decide) l14 (fun _ h9 => h9) rfl dX3_from_1 ?_
  refine lv_lload_n hx hb dX3_from_4 rfl (lv_at hl 1 rfl) ?_
  refine lv_bipush (v := 9) hx hb dX3_from_5 (by decide) ?_
  refine lv_lshl hx hb dX3_from_7 rfl ?_
  obtain ⟨r1, hr1, hf⟩ := bd hf
  refine zVi (As := [.long (p1 <<< (Int32.toInt64 (9 : Int32) &&& 63))]) (rest := []) (ci := 5) (q0 := 0) (wn := [(a0, .inr (2, [.ref a0_turns])), (a0_turns, .inr (5, [.ref a0_turns_rows, .int v0_turns_size])), (a0_turns_rows, .inl (D.2 2, 320, .inr (.inl g0_turns_rows)))]) ⟨hx, hb, hml, hown, hts⟩ (mX7_below l D a0_turns a0_turns_rows H.size 320 v0_turns_size g0_turns_rows (p1 <<< (Int32.toInt64 (9 : Int32) &&& 63)) N r1 hr1) (cwV 1 hts gX3_from_X7_below rfl rfl rfl (by decide +kernel) ⟨Nat.le_of_ble_eq_true rfl, Nat.le_of_ble_eq_true rfl⟩) hK hP hD hS hA [1, 2] [0] [0, 1, 2] rfl (by decide) rfl (by decide) (by decide) rfl (by decide) rfl rfl rfl hl.1 rfl (Nat.le_of_ble_eq_true rfl) dX3_from_8 ⟨Nat.zero_le _, Nat.zero_le _⟩ (fun H locs hP hD hS => ?_)
  have he := Option.some.inj hf
  rw [hQ]
  exact W.iret (v := r1) hx hb hr (fun t ht hW => by rw [← he]; exact ⟨⟨r1, (), rfl, rfl, by rw [ht]; exact hP, hD⟩, hS.F ht⟩) hS.2.2 dX3_from_11
def fX8_above (p0 : Int64) (p2 : Int32) : Option (Int64) :=
  Option.bind (fX8_isPlace (p2 - (1 : Int32))) fun r1 =>
  if r1 = (0 : Int32) then
    some (p0)
  else
    Option.bind (fX8_shiftOf (p2 - (1 : Int32))) fun r4 =>
    some ((p0 + ((1 : Int64) <<< (Int32.toInt64 r4 &&& 63))))
set_option maxHeartbeats 4000000 in
set_option maxRecDepth 100000 in
theorem mX8_above (l : Launch) (D : zG)  (sz : Nat)   (p0 : Int64) (p2 : Int32) (res : Int64) (hf : fX8_above p0 p2 = some res) : Met l yX8_above wsX8_above ({ frames := 1, cells := 0, slots := 0, locals := 20 } : Room) (va_Pc [.long p0, .int p2] (zW D sz [])) (va_Ql (fun r (_ : Unit) => r = res) (fun _ => zB D (va_A [] sz) []) (va_A [] sz)) 0 0 (va_A [] sz) := by
  refine Met.ofW (cc := cX8_above) (maxL := 3) (ret := (some .long)) (by decide) rfl ?_
  intro p e s m args below meth c s₁ B hml hv
  obtain ⟨rfl, hsz, hP, hK, hD0⟩ := hv
  have hx := B.exec
  have hb := B.bytes
  have hr := B.returns
  have hts := atoms_spec (ws := wsX8_above) B.pre
  have hown : s.vm.findClass RX8 = some m.cls := findClass_of_methodNamed B.named
  have hlocks := B.notSynchronized
  subst hsz
  have hD := hD0.self (sz := s.heap.size)
  generalize hAe : va_A [] s.heap.size = A at hD ⊢
  have hA : ∀ q : Nat, s.heap.size ≤ q → A q := fun q h => by rw [← hAe]; exact Or.inr h
  have hl := lv_entry ([.long p0, .int p2]) (n := 3) (Nat.le_of_ble_eq_true rfl)
  rw [lg_entry_eq]
  generalize (lg_sl ([.long p0, .int p2]) ++ List.replicate (3 - (lg_sl ([.long p0, .int p2])).length) Slot.unset).toArray = ls at hl ⊢
  have hl : lv_has ls 3 [(0, .long p0), (2, .int p2)] := hl
  refine zStart (A := A) hP (fun Q0 H locs hQ hP hS => ?_)
  unfold fX8_above at hf
  refine lv_iload_n hx hb dX8_above_0 rfl (lv_at hl 1 rfl) ?_
  refine lv_iconst (v := 1) hx hb dX8_above_1 (by decide) ?_
  refine lv_isub hx hb dX8_above_2 ?_
  obtain ⟨r1, hr1, hf⟩ := bd hf
  refine zSz (As := [.int (p2 - (1 : Int32))]) (rest := []) (wn := []) ⟨hx, hb, hml, hown, hts⟩ (mX8_isPlace l D H.size (p2 - (1 : Int32)) r1 hr1) (va_cwS 1 hts gX8_above_X8_isPlace rfl rfl rfl (by decide +kernel) ⟨Nat.le_of_ble_eq_true rfl, Nat.le_of_ble_eq_true rfl⟩) hK hP hD hS hA [] [] [] rfl (by decide) rfl (by decide) (by decide) rfl (by decide) rfl hl.1 rfl (Nat.le_of_ble_eq_true rfl) dX8_above_3 ⟨Nat.zero_le _, Nat.zero_le _⟩ (fun H locs hb_2 hP hD hS => ?_)
  refine lv_if_eq (tgt := 22) hx hb dX8_above_6 (by decide) (fun c_3 => ?_) (fun c_3 => ?_)
  · replace hf := ip c_3 hf
    refine lv_lload_n hx hb dX8_above_22 rfl (lv_at hl 0 rfl) ?_
    have he := Option.some.inj hf
    rw [hQ]
    exact W.lret (v := p0) hx hb hr (fun t ht hW => by rw [← he]; exact ⟨⟨p0, (), rfl, rfl, by rw [ht]; exact hP, hD⟩, hS.F ht⟩) hS.2.2 dX8_above_23
  · replace hf := im c_3 hf
    refine lv_lload_n hx hb dX8_above_9 rfl (lv_at hl 0 rfl) ?_
    refine lv_lconst (v := 1) hx hb dX8_above_10 (by decide) ?_
    refine lv_iload_n hx hb dX8_above_11 rfl (lv_at hl 1 rfl) ?_
    refine lv_iconst (v := 1) hx hb dX8_above_12 (by decide) ?_
    refine lv_isub hx hb dX8_above_13 ?_
    obtain ⟨r4, hr4, hf⟩ := bd hf
    refine zSi (As := [.int (p2 - (1 : Int32))]) (rest := [.long (1 : Int64), .long p0]) (wn := []) ⟨hx, hb, hml, hown, hts⟩ (mX8_shiftOf l D H.size (p2 - (1 : Int32)) r4 hr4) (va_cwS 1 hts gX8_above_X8_shiftOf rfl rfl rfl (by decide +kernel) ⟨Nat.le_of_ble_eq_true rfl, Nat.le_of_ble_eq_true rfl⟩) hK hP hD hS hA [] [] [] rfl (by decide) rfl (by decide) (by decide) rfl (by decide) rfl hl.1 rfl (Nat.le_of_ble_eq_true rfl) dX8_above_14 ⟨Nat.zero_le _, Nat.zero_le _⟩ (fun H locs hP hD hS => ?_)
    refine lv_lshl hx hb dX8_above_17 rfl ?_
    refine lv_ladd hx hb dX8_above_18 ?_
    refine lv_goto (tgt := 23) hx hb dX8_above_19 (by decide) ?_
    have he := Option.some.inj hf
    rw [hQ]
    exact W.lret (v := (p0 + ((1 : Int64) <<< (Int32.toInt64 r4 &&& 63)))) hx hb hr (fun t ht hW => by rw [← he]; exact ⟨⟨(p0 + ((1 : Int64) <<< (Int32.toInt64 r4 &&& 63))), (), rfl, rfl, by rw [ht]; exact hP, hD⟩, hS.F ht⟩) hS.2.2 dX8_above_23
def fX3_to (N : Nat) (v0_turns_size : Int32) (g0_turns_rows : Nat → Int64) (p1 : Int64) (p3 : Int32) : Option (Int32) :=
  Option.bind (fX8_above p1 p3) fun r1 =>
  Option.bind (fX3_from N v0_turns_size g0_turns_rows r1) fun r2 =>
  some (r2)
set_option maxHeartbeats 4000000 in
set_option maxRecDepth 100000 in
theorem mX3_to (l : Launch) (D : zG) (a0 : Nat) (a0_turns : Nat) (a0_turns_rows : Nat) (sz : Nat)  (v0_turns_size : Int32) (g0_turns_rows : Nat → Int64) (p1 : Int64) (p3 : Int32) (N : Nat) (res : Int32) (hf : fX3_to N v0_turns_size g0_turns_rows p1 p3 = some res) : Met l yX3_to wsX3_to ({ frames := 2, cells := 0, slots := 0, locals := 47 } : Room) (va_Pc [.ref a0, .long p1, .int p3] (zW D sz [(a0, .inr (2, [.ref a0_turns])), (a0_turns, .inr (5, [.ref a0_turns_rows, .int v0_turns_size])), (a0_turns_rows, .inl (D.2 2, 320, .inr (.inl g0_turns_rows)))])) (va_Qi (fun r (_ : Unit) => r = res) (fun _ => zB D (va_A [(a0, .inr (2, [.ref a0_turns])), (a0_turns, .inr (5, [.ref a0_turns_rows, .int v0_turns_size])), (a0_turns_rows, .inl (D.2 2, 320, .inr (.inl g0_turns_rows)))] sz) [(a0, .inr (2, [.ref a0_turns])), (a0_turns, .inr (5, [.ref a0_turns_rows, .int v0_turns_size])), (a0_turns_rows, .inl (D.2 2, 320, .inr (.inl g0_turns_rows)))]) (va_A [(a0, .inr (2, [.ref a0_turns])), (a0_turns, .inr (5, [.ref a0_turns_rows, .int v0_turns_size])), (a0_turns_rows, .inl (D.2 2, 320, .inr (.inl g0_turns_rows)))] sz)) 0 0 (va_A [(a0, .inr (2, [.ref a0_turns])), (a0_turns, .inr (5, [.ref a0_turns_rows, .int v0_turns_size])), (a0_turns_rows, .inl (D.2 2, 320, .inr (.inl g0_turns_rows)))] sz) := by
  refine Met.ofW (cc := cX3_to) (maxL := 4) (ret := (some .int)) (by decide) rfl ?_
  intro p e s m args below meth c s₁ B hml hv
  obtain ⟨rfl, hsz, hP, hK, hD0⟩ := hv
  have hx := B.exec
  have hb := B.bytes
  have hr := B.returns
  have hts := atoms_spec (ws := wsX3_to) B.pre
  have hown : s.vm.findClass RX3 = some m.cls := findClass_of_methodNamed B.named
  have hlocks := B.notSynchronized
  subst hsz
  have hD := hD0.self (sz := s.heap.size)
  generalize hAe : va_A [(a0, .inr (2, [.ref a0_turns])), (a0_turns, .inr (5, [.ref a0_turns_rows, .int v0_turns_size])), (a0_turns_rows, .inl (D.2 2, 320, .inr (.inl g0_turns_rows)))] s.heap.size = A at hD ⊢
  have hA : ∀ q : Nat, s.heap.size ≤ q → A q := fun q h => by rw [← hAe]; exact Or.inr h
  have hl := lv_entry ([.ref a0, .long p1, .int p3]) (n := 4) (Nat.le_of_ble_eq_true rfl)
  rw [lg_entry_eq]
  generalize (lg_sl ([.ref a0, .long p1, .int p3]) ++ List.replicate (4 - (lg_sl ([.ref a0, .long p1, .int p3])).length) Slot.unset).toArray = ls at hl ⊢
  have hl : lv_has ls 4 [(0, .ref a0), (1, .long p1), (3, .int p3)] := hl
  refine zStart (A := A) hP (fun Q0 H locs hQ hP hS => ?_)
  unfold fX3_to at hf
  refine lv_aload_n hx hb dX3_to_0 rfl (lv_at hl 0 rfl) ?_
  refine lv_lload_n hx hb dX3_to_1 rfl (lv_at hl 1 rfl) ?_
  refine lv_iload_n hx hb dX3_to_2 rfl (lv_at hl 2 rfl) ?_
  obtain ⟨r1, hr1, hf⟩ := bd hf
  refine zSl (As := [.long p1, .int p3]) (rest := [.ref a0]) (wn := [(a0, .inr (2, [.ref a0_turns])), (a0_turns, .inr (5, [.ref a0_turns_rows, .int v0_turns_size])), (a0_turns_rows, .inl (D.2 2, 320, .inr (.inl g0_turns_rows)))]) ⟨hx, hb, hml, hown, hts⟩ (mX8_above l D H.size p1 p3 r1 hr1) (va_cwS 2 hts gX3_to_X8_above rfl rfl rfl (by decide +kernel) ⟨Nat.le_of_ble_eq_true rfl, Nat.le_of_ble_eq_true rfl⟩) hK hP hD hS hA [] [0, 1, 2] [0, 1, 2] rfl (by decide) rfl (by decide) (by decide) rfl (by decide) rfl hl.1 rfl (Nat.le_of_ble_eq_true rfl) dX3_to_3 ⟨Nat.zero_le _, Nat.zero_le _⟩ (fun H locs hP hD hS => ?_)
  obtain ⟨r2, hr2, hf⟩ := bd hf
  refine zVi (As := [.long r1]) (rest := []) (ci := 2) (q0 := 0) (wn := [(a0, .inr (2, [.ref a0_turns])), (a0_turns, .inr (5, [.ref a0_turns_rows, .int v0_turns_size])), (a0_turns_rows, .inl (D.2 2, 320, .inr (.inl g0_turns_rows)))]) ⟨hx, hb, hml, hown, hts⟩ (mX3_from l D a0 a0_turns a0_turns_rows H.size v0_turns_size g0_turns_rows r1 N r2 hr2) (cwV 1 hts gX3_to_X3_from rfl rfl rfl (by decide +kernel) ⟨Nat.le_of_ble_eq_true rfl, Nat.le_of_ble_eq_true rfl⟩) hK hP hD hS hA [0, 1, 2] [] [0, 1, 2] rfl (by decide) rfl (by decide) (by decide) rfl (by decide) rfl rfl rfl hl.1 rfl (Nat.le_of_ble_eq_true rfl) dX3_to_6 ⟨Nat.zero_le _, Nat.zero_le _⟩ (fun H locs hP hD hS => ?_)
  have he := Option.some.inj hf
  rw [hQ]
  exact W.iret (v := r2) hx hb hr (fun t ht hW => by rw [← he]; exact ⟨⟨r2, (), rfl, rfl, by rw [ht]; exact hP, hD⟩, hS.F ht⟩) hS.2.2 dX3_to_9
def fX3_wordsThatTurnTo_18 (N : Nat) (v0_turns_size : Int32) (g0_turns_rows : Nat → Int64) (p1 : Int64) (p3 : Int32) : Nat → Int64 → Int32 → Int32 → Option (Int64)
  | 0, _, _, _ => none
  | K + 1, x4, x6, x7 =>
    if x6 ≤ x7 then
      some (x4)
    else
      Option.bind (fX3_wordAt v0_turns_size g0_turns_rows x7) fun r4 =>
      Option.bind (fX0_bit r4) fun r5 =>
      (fX3_wordsThatTurnTo_18 N v0_turns_size g0_turns_rows p1 p3 K) (x4 ||| r5) x6 (x7 + (1 : Int32))
def fX3_wordsThatTurnTo (N : Nat) (v0_turns_size : Int32) (g0_turns_rows : Nat → Int64) (p1 : Int64) (p3 : Int32) : Option (Int64) :=
  Option.bind (fX3_to N v0_turns_size g0_turns_rows p1 p3) fun r1 =>
  Option.bind (fX3_from N v0_turns_size g0_turns_rows p1) fun r2 =>
  fX3_wordsThatTurnTo_18 N v0_turns_size g0_turns_rows p1 p3 N (0 : Int64) r1 r2
set_option maxHeartbeats 4000000 in
set_option maxRecDepth 100000 in
theorem mX3_wordsThatTurnTo (l : Launch) (D : zG) (a0 : Nat) (a0_turns : Nat) (a0_turns_rows : Nat) (sz : Nat)  (v0_turns_size : Int32) (g0_turns_rows : Nat → Int64) (p1 : Int64) (p3 : Int32) (N : Nat) (res : Int64) (hf : fX3_wordsThatTurnTo N v0_turns_size g0_turns_rows p1 p3 = some res) : Met l yX3_wordsThatTurnTo wsX3_wordsThatTurnTo ({ frames := 3, cells := 0, slots := 0, locals := 70 } : Room) (va_Pc [.ref a0, .long p1, .int p3] (zW D sz [(a0, .inr (2, [.ref a0_turns])), (a0_turns, .inr (5, [.ref a0_turns_rows, .int v0_turns_size])), (a0_turns_rows, .inl (D.2 2, 320, .inr (.inl g0_turns_rows)))])) (va_Ql (fun r (_ : Unit) => r = res) (fun _ => zB D (va_A [(a0, .inr (2, [.ref a0_turns])), (a0_turns, .inr (5, [.ref a0_turns_rows, .int v0_turns_size])), (a0_turns_rows, .inl (D.2 2, 320, .inr (.inl g0_turns_rows)))] sz) [(a0, .inr (2, [.ref a0_turns])), (a0_turns, .inr (5, [.ref a0_turns_rows, .int v0_turns_size])), (a0_turns_rows, .inl (D.2 2, 320, .inr (.inl g0_turns_rows)))]) (va_A [(a0, .inr (2, [.ref a0_turns])), (a0_turns, .inr (5, [.ref a0_turns_rows, .int v0_turns_size])), (a0_turns_rows, .inl (D.2 2, 320, .inr (.inl g0_turns_rows)))] sz)) 0 0 (va_A [(a0, .inr (2, [.ref a0_turns])), (a0_turns, .inr (5, [.ref a0_turns_rows, .int v0_turns_size])), (a0_turns_rows, .inl (D.2 2, 320, .inr (.inl g0_turns_rows)))] sz) := by
  refine Met.ofW (cc := cX3_wordsThatTurnTo) (maxL := 8) (ret := (some .long)) (by decide) rfl ?_
  intro p e s m args below meth c s₁ B hml hv
  obtain ⟨rfl, hsz, hP, hK, hD0⟩ := hv
  have hx := B.exec
  have hb := B.bytes
  have hr := B.returns
  have hts := atoms_spec (ws := wsX3_wordsThatTurnTo) B.pre
  have hown : s.vm.findClass RX3 = some m.cls := findClass_of_methodNamed B.named
  have hlocks := B.notSynchronized
  subst hsz
  have hD := hD0.self (sz := s.heap.size)
  generalize hAe : va_A [(a0, .inr (2, [.ref a0_turns])), (a0_turns, .inr (5, [.ref a0_turns_rows, .int v0_turns_size])), (a0_turns_rows, .inl (D.2 2, 320, .inr (.inl g0_turns_rows)))] s.heap.size = A at hD ⊢
  have hA : ∀ q : Nat, s.heap.size ≤ q → A q := fun q h => by rw [← hAe]; exact Or.inr h
  have hl := lv_entry ([.ref a0, .long p1, .int p3]) (n := 8) (Nat.le_of_ble_eq_true rfl)
  rw [lg_entry_eq]
  generalize (lg_sl ([.ref a0, .long p1, .int p3]) ++ List.replicate (8 - (lg_sl ([.ref a0, .long p1, .int p3])).length) Slot.unset).toArray = ls at hl ⊢
  have hl : lv_has ls 8 [(0, .ref a0), (1, .long p1), (3, .int p3)] := hl
  refine zStart (A := A) hP (fun Q0 H locs hQ hP hS => ?_)
  have k18 : ∀ K : Nat, ∀ (x4 : Int64) (x6 : Int32) (x7 : Int32) (H : Heap) (locs : List Loc) (ls : Array Slot), fX3_wordsThatTurnTo_18 N v0_turns_size g0_turns_rows p1 p3 K x4 x6 x7 = some res → va_P D.1 vwCl [(a0, .inr (2, [.ref a0_turns])), (a0_turns, .inr (5, [.ref a0_turns_rows, .int v0_turns_size])), (a0_turns_rows, .inl (D.2 2, 320, .inr (.inl g0_turns_rows)))] H → va_D A [(a0, .inr (2, [.ref a0_turns])), (a0_turns, .inr (5, [.ref a0_turns_rows, .int v0_turns_size])), (a0_turns_rows, .inl (D.2 2, 320, .inr (.inl g0_turns_rows)))] → va_S A s.heap H locs → lv_has ls 8 [(0, .ref a0), (4, .long x4), (6, .int x6), (7, .int x7)] → W p l e (headSpec wsX3_wordsThatTurnTo ({ frames := 3, cells := 0, slots := 0, locals := 70 } : Room)).room s m ([.ref a0, .long p1, .int p3] : List Value).toArray below meth c H locs 0 0 Q0 (F0 m 18 ls []) := by
    intro K
    induction K with
    | zero =>
      intro x4 x6 x7 H locs ls hf
      rw [fX3_wordsThatTurnTo_18] at hf
      cases hf
    | succ K ih =>
      intro x4 x6 x7 H locs ls hf hP hD hS hl
      rw [fX3_wordsThatTurnTo_18] at hf
      refine lv_iload hx hb dX3_wordsThatTurnTo_18 (lv_at hl 3 rfl) ?_
      refine lv_iload hx hb dX3_wordsThatTurnTo_20 (lv_at hl 2 rfl) ?_
      refine lv_icmp_ge (tgt := 45) hx hb dX3_wordsThatTurnTo_22 (by decide) (fun c_3 => ?_) (fun c_3 => ?_)
      · replace hf := ip c_3 hf
        refine lv_lload hx hb dX3_wordsThatTurnTo_45 (lv_at hl 1 rfl) ?_
        have he := Option.some.inj hf
        rw [hQ]
        exact W.lret (v := x4) hx hb hr (fun t ht hW => by rw [← he]; exact ⟨⟨x4, (), rfl, rfl, by rw [ht]; exact hP, hD⟩, hS.F ht⟩) hS.2.2 dX3_wordsThatTurnTo_47
      · replace hf := im c_3 hf
        refine lv_lload hx hb dX3_wordsThatTurnTo_25 (lv_at hl 1 rfl) ?_
        refine lv_aload_n hx hb dX3_wordsThatTurnTo_27 rfl (lv_at hl 0 rfl) ?_
        refine lv_iload hx hb dX3_wordsThatTurnTo_28 (lv_at hl 3 rfl) ?_
        obtain ⟨r4, hr4, hf⟩ := bd hf
        refine zVi (As := [.int x7]) (rest := [.long x4]) (ci := 2) (q0 := 0) (wn := [(a0, .inr (2, [.ref a0_turns])), (a0_turns, .inr (5, [.ref a0_turns_rows, .int v0_turns_size])), (a0_turns_rows, .inl (D.2 2, 320, .inr (.inl g0_turns_rows)))]) ⟨hx, hb, hml, hown, hts⟩ (mX3_wordAt l D a0 a0_turns a0_turns_rows H.size v0_turns_size g0_turns_rows x7 r4 hr4) (cwV 1 hts gX3_wordsThatTurnTo_X3_wordAt rfl rfl rfl (by decide +kernel) ⟨Nat.le_of_ble_eq_true rfl, Nat.le_of_ble_eq_true rfl⟩) hK hP hD hS hA [0, 1, 2] [] [0, 1, 2] rfl (by decide) rfl (by decide) (by decide) rfl (by decide) rfl rfl rfl hl.1 rfl (Nat.le_of_ble_eq_true rfl) dX3_wordsThatTurnTo_30 ⟨Nat.zero_le _, Nat.zero_le _⟩ (fun H locs hP hD hS => ?_)
        obtain ⟨r5, hr5, hf⟩ := bd hf
        refine zSl (As := [.int r4]) (rest := [.long x4]) (wn := [(a0, .inr (2, [.ref a0_turns])), (a0_turns, .inr (5, [.ref a0_turns_rows, .int v0_turns_size])), (a0_turns_rows, .inl (D.2 2, 320, .inr (.inl g0_turns_rows)))]) ⟨hx, hb, hml, hown, hts⟩ (mX0_bit l D H.size r4 r5 hr5) (va_cwS 1 hts gX3_wordsThatTurnTo_X0_bit rfl rfl rfl (by decide +kernel) ⟨Nat.le_of_ble_eq_true rfl, Nat.le_of_ble_eq_true rfl⟩) hK hP hD hS hA [] [0, 1, 2] [0, 1, 2] rfl (by decide) rfl (by decide) (by decide) rfl (by decide) rfl hl.1 rfl (Nat.le_of_ble_eq_true rfl) dX3_wordsThatTurnTo_33 ⟨Nat.zero_le _, Nat.zero_le _⟩ (fun H locs hP hD hS => ?_)
        refine lv_lor hx hb dX3_wordsThatTurnTo_36 ?_
        refine lv_lstore (lv' := [(4, .long (x4 ||| r5)), (0, .ref a0), (6, .int x6), (7, .int x7)]) hx hb dX3_wordsThatTurnTo_37 hl (by decide) rfl (fun ls hl => ?_)
        refine lv_iinc (v := (x7 + (1 : Int32))) (lv' := [(7, .int (x7 + (1 : Int32))), (4, .long (x4 ||| r5)), (0, .ref a0), (6, .int x6)]) hx hb dX3_wordsThatTurnTo_39 hl (k := 3) rfl rfl (by decide) rfl (fun ls hl => ?_)
        refine lv_goto (tgt := 18) hx hb dX3_wordsThatTurnTo_42 (by decide) ?_
        exact ih (x4 ||| r5) x6 (x7 + (1 : Int32)) H locs ls hf hP hD hS (lv_sub hl [2, 1, 3, 0] rfl)
  unfold fX3_wordsThatTurnTo at hf
  refine lv_lconst (v := 0) hx hb dX3_wordsThatTurnTo_0 (by decide) ?_
  refine lv_lstore (lv' := [(4, .long (0 : Int64)), (0, .ref a0), (1, .long p1), (3, .int p3)]) hx hb dX3_wordsThatTurnTo_1 hl (by decide) rfl (fun ls hl => ?_)
  refine lv_aload_n hx hb dX3_wordsThatTurnTo_3 rfl (lv_at hl 1 rfl) ?_
  refine lv_lload_n hx hb dX3_wordsThatTurnTo_4 rfl (lv_at hl 2 rfl) ?_
  refine lv_iload_n hx hb dX3_wordsThatTurnTo_5 rfl (lv_at hl 3 rfl) ?_
  obtain ⟨r1, hr1, hf⟩ := bd hf
  refine zVi (As := [.long p1, .int p3]) (rest := []) (ci := 2) (q0 := 0) (wn := [(a0, .inr (2, [.ref a0_turns])), (a0_turns, .inr (5, [.ref a0_turns_rows, .int v0_turns_size])), (a0_turns_rows, .inl (D.2 2, 320, .inr (.inl g0_turns_rows)))]) ⟨hx, hb, hml, hown, hts⟩ (mX3_to l D a0 a0_turns a0_turns_rows H.size v0_turns_size g0_turns_rows p1 p3 N r1 hr1) (cwV 2 hts gX3_wordsThatTurnTo_X3_to rfl rfl rfl (by decide +kernel) ⟨Nat.le_of_ble_eq_true rfl, Nat.le_of_ble_eq_true rfl⟩) hK hP hD hS hA [0, 1, 2] [] [0, 1, 2] rfl (by decide) rfl (by decide) (by decide) rfl (by decide) rfl rfl rfl hl.1 rfl (Nat.le_of_ble_eq_true rfl) dX3_wordsThatTurnTo_6 ⟨Nat.zero_le _, Nat.zero_le _⟩ (fun H locs hP hD hS => ?_)
  refine lv_istore (lv' := [(6, .int r1), (4, .long (0 : Int64)), (0, .ref a0), (1, .long p1), (3, .int p3)]) hx hb dX3_wordsThatTurnTo_9 hl (by decide) rfl (fun ls hl => ?_)
  refine lv_aload_n hx hb dX3_wordsThatTurnTo_11 rfl (lv_at hl 2 rfl) ?_
  refine lv_lload_n hx hb dX3_wordsThatTurnTo_12 rfl (lv_at hl 3 rfl) ?_
  obtain ⟨r2, hr2, hf⟩ := bd hf
  refine zVi (As := [.long p1]) (rest := []) (ci := 2) (q0 := 0) (wn := [(a0, .inr (2, [.ref a0_turns])), (a0_turns, .inr (5, [.ref a0_turns_rows, .int v0_turns_size])), (a0_turns_rows, .inl (D.2 2, 320, .inr (.inl g0_turns_rows)))]) ⟨hx, hb, hml, hown, hts⟩ (mX3_from l D a0 a0_turns a0_turns_rows H.size v0_turns_size g0_turns_rows p1 N r2 hr2) (cwV 1 hts gX3_wordsThatTurnTo_X3_from rfl rfl rfl (by decide +kernel) ⟨Nat.le_of_ble_eq_true rfl, Nat.le_of_ble_eq_true rfl⟩) hK hP hD hS hA [0, 1, 2] [] [0, 1, 2] rfl (by decide) rfl (by decide) (by decide) rfl (by decide) rfl rfl rfl hl.1 rfl (Nat.le_of_ble_eq_true rfl) dX3_wordsThatTurnTo_13 ⟨Nat.zero_le _, Nat.zero_le _⟩ (fun H locs hP hD hS => ?_)
  refine lv_istore (lv' := [(7, .int r2), (6, .int r1), (4, .long (0 : Int64)), (0, .ref a0), (1, .long p1), (3, .int p3)]) hx hb dX3_wordsThatTurnTo_16 hl (by decide) rfl (fun ls hl => ?_)
  exact k18 N (0 : Int64) r1 r2 H locs ls hf hP hD hS (lv_sub hl [3, 2, 1, 0] rfl)
