def fX7_size (v0_size : Int32) : Option (Int32) :=
  some (v0_size)
set_option maxHeartbeats 4000000 in
set_option maxRecDepth 100000 in
theorem cX7_size (l : Launch) (D : zG) (a0 : Nat) (sz : Nat)  (v0_size : Int32)  (res : Int32) (hf : fX7_size v0_size = some res) : Met l yX7_size wsX7_size ({ frames := 0, cells := 0, slots := 0, locals := 0 } : Room) (va_Pc [.ref a0] (zW D sz [(a0, .inr (5, [.ref a0_rows, .int v0_size]))])) (va_Qi (fun r (_ : Unit) => r = res) (fun _ => zB D (va_A [(a0, .inr (5, [.ref a0_rows, .int v0_size]))] sz) [(a0, .inr (5, [.ref a0_rows, .int v0_size]))]) (va_A [(a0, .inr (5, [.ref a0_rows, .int v0_size]))] sz)) 0 0 (va_A [(a0, .inr (5, [.ref a0_rows, .int v0_size]))] sz) := by
  refine Met.ofW (cc := cX7_size) (maxL := 1) (ret := (some .int)) (by decide) rfl ?_
  intro p e s m args below meth c s₁ B hml hv
  obtain ⟨rfl, hsz, hP, hK, hD0⟩ := hv
  have hx := B.exec
  have hb := B.bytes
  have hr := B.returns
  have hts := atoms_spec (ws := wsX7_size) B.pre
  have hown : s.vm.findClass RX7 = some m.cls := findClass_of_methodNamed B.named
  have hlocks := B.notSynchronized
  subst hsz
  have hD := hD0.self (sz := s.heap.size)
  generalize hAe : va_A [(a0, .inr (5, [.ref a0_rows, .int v0_size]))] s.heap.size = A at hD ⊢
  have hA : ∀ q : Nat, s.heap.size ≤ q → A q := fun q h => by rw [← hAe]; exact Or.inr h
  have l24 := zat hts 1 (w := .fieldLink RX7 24 "TurnedWords$Rising" "size" "I") rfl
  have hwX7 : ∀ w ∈ u_ws RX7 TX7 2, w ∈ wsX7_size := fun w h => List.mem_cons_of_mem _ (List.mem_append_right _ h)
  have hl := lv_entry ([.ref a0]) (n := 1) (Nat.le_of_ble_eq_true rfl)
  rw [lg_entry_eq]
  generalize (lg_sl ([.ref a0]) ++ List.replicate (1 - (lg_sl ([.ref a0])).length) Slot.unset).toArray = ls at hl ⊢
  have hl : lv_has ls 1 [(0, .ref a0)] := hl
  refine zStart (A := A) hP (fun Q0 H locs hQ hP hS => ?_)
  unfold fX7_size at hf
  refine lv_aload_n hx hb dX7_size_0 rfl (lv_at hl 0 rfl) ?_
  refine va_get (D := D.1) (ci := 5) (v := .int v0_size) (C := RX7) (T := TX7) (N := 2) hx hb hts hwX7 hown hK.1 hP 0 rfl rfl 1 (by decide) l24 (fun _ h9 => h9) rfl dX7_size_1 ?_
  have he := Option.some.inj hf
  rw [hQ]
  exact W.iret (v := v0_size) hx hb hr (fun t ht hW => by rw [← he]; exact ⟨⟨v0_size, (), rfl, rfl, by rw [ht]; exact hP, hD⟩, hS.F ht⟩) hS.2.2 dX7_size_4
def fX7_hasNumber (v0_size : Int32) (p1 : Int32) : Option (Int32) :=
  if p1 < (0 : Int32) then
    some ((0 : Int32))
  else
    if v0_size ≤ p1 then
      some ((0 : Int32))
    else
      some ((1 : Int32))
set_option maxHeartbeats 4000000 in
set_option maxRecDepth 100000 in
theorem cX7_hasNumber (l : Launch) (D : zG) (a0 : Nat) (sz : Nat)  (v0_size : Int32) (p1 : Int32) (res : Int32) (hf : fX7_hasNumber v0_size p1 = some res) : Met l yX7_hasNumber wsX7_hasNumber ({ frames := 0, cells := 0, slots := 0, locals := 0 } : Room) (va_Pc [.ref a0, .int p1] (zW D sz [(a0, .inr (5, [.ref a0_rows, .int v0_size]))])) (va_Qi (fun r (_ : Unit) => r = res ∧ (r = 0 ∨ r = 1)) (fun _ => zB D (va_A [(a0, .inr (5, [.ref a0_rows, .int v0_size]))] sz) [(a0, .inr (5, [.ref a0_rows, .int v0_size]))]) (va_A [(a0, .inr (5, [.ref a0_rows, .int v0_size]))] sz)) 0 0 (va_A [(a0, .inr (5, [.ref a0_rows, .int v0_size]))] sz) := by
  refine Met.ofW (cc := cX7_hasNumber) (maxL := 2) (ret := (some .boolean)) (by decide) rfl ?_
  intro p e s m args below meth c s₁ B hml hv
  obtain ⟨rfl, hsz, hP, hK, hD0⟩ := hv
  have hx := B.exec
  have hb := B.bytes
  have hr := B.returns
  have hts := atoms_spec (ws := wsX7_hasNumber) B.pre
  have hown : s.vm.findClass RX7 = some m.cls := findClass_of_methodNamed B.named
  have hlocks := B.notSynchronized
  subst hsz
  have hD := hD0.self (sz := s.heap.size)
  generalize hAe : va_A [(a0, .inr (5, [.ref a0_rows, .int v0_size]))] s.heap.size = A at hD ⊢
  have hA : ∀ q : Nat, s.heap.size ≤ q → A q := fun q h => by rw [← hAe]; exact Or.inr h
  have l24 := zat hts 1 (w := .fieldLink RX7 24 "TurnedWords$Rising" "size" "I") rfl
  have hwX7 : ∀ w ∈ u_ws RX7 TX7 2, w ∈ wsX7_hasNumber := fun w h => List.mem_cons_of_mem _ (List.mem_append_right _ h)
  have hl := lv_entry ([.ref a0, .int p1]) (n := 2) (Nat.le_of_ble_eq_true rfl)
  rw [lg_entry_eq]
  generalize (lg_sl ([.ref a0, .int p1]) ++ List.replicate (2 - (lg_sl ([.ref a0, .int p1])).length) Slot.unset).toArray = ls at hl ⊢
  have hl : lv_has ls 2 [(0, .ref a0), (1, .int p1)] := hl
  refine zStart (A := A) hP (fun Q0 H locs hQ hP hS => ?_)
  unfold fX7_hasNumber at hf
  refine lv_iload_n hx hb dX7_hasNumber_0 rfl (lv_at hl 1 rfl) ?_
  refine lv_if_lt (tgt := 16) hx hb dX7_hasNumber_1 (by decide) (fun c_1 => ?_) (fun c_1 => ?_)
  · replace hf := ip c_1 hf
    refine lv_iconst (v := 0) hx hb dX7_hasNumber_16 (by decide) ?_
    have he := Option.some.inj hf
    rw [hQ]
    exact W.zret (v := (0 : Int32)) hx hb hr (znb (Or.inl rfl)) (fun t ht hW => by rw [← he]; exact ⟨⟨(0 : Int32), (), rfl, ⟨rfl, Or.inl rfl⟩, by rw [ht]; exact hP, hD⟩, hS.F ht⟩) hS.2.2 dX7_hasNumber_17
  · replace hf := im c_1 hf
    refine lv_iload_n hx hb dX7_hasNumber_4 rfl (lv_at hl 1 rfl) ?_
    refine lv_aload_n hx hb dX7_hasNumber_5 rfl (lv_at hl 0 rfl) ?_
    refine va_get (D := D.1) (ci := 5) (v := .int v0_size) (C := RX7) (T := TX7) (N := 2) hx hb hts hwX7 hown hK.1 hP 0 rfl rfl 1 (by decide) l24 (fun _ h9 => h9) rfl dX7_hasNumber_6 ?_
    refine lv_icmp_ge (tgt := 16) hx hb dX7_hasNumber_9 (by decide) (fun c_2 => ?_) (fun c_2 => ?_)
    · replace hf := ip c_2 hf
      refine lv_iconst (v := 0) hx hb dX7_hasNumber_16 (by decide) ?_
      have he := Option.some.inj hf
      rw [hQ]
      exact W.zret (v := (0 : Int32)) hx hb hr (znb (Or.inl rfl)) (fun t ht hW => by rw [← he]; exact ⟨⟨(0 : Int32), (), rfl, ⟨rfl, Or.inl rfl⟩, by rw [ht]; exact hP, hD⟩, hS.F ht⟩) hS.2.2 dX7_hasNumber_17
    · replace hf := im c_2 hf
      refine lv_iconst (v := 1) hx hb dX7_hasNumber_12 (by decide) ?_
      refine lv_goto (tgt := 17) hx hb dX7_hasNumber_13 (by decide) ?_
      have he := Option.some.inj hf
      rw [hQ]
      exact W.zret (v := (1 : Int32)) hx hb hr (znb (Or.inr rfl)) (fun t ht hW => by rw [← he]; exact ⟨⟨(1 : Int32), (), rfl, ⟨rfl, Or.inr rfl⟩, by rw [ht]; exact hP, hD⟩, hS.F ht⟩) hS.2.2 dX7_hasNumber_17
def fX7_at (n0_rows : Nat) (v0_size : Int32) (g0_rows : Nat → Int64) (p1 : Int32) : Option (Int64) :=
  Option.bind (fX7_hasNumber v0_size p1) fun r1 =>
  if r1 = (0 : Int32) then
    some ((0 : Int64))
  else
    if p1 < 0 ∨ n0_rows ≤ (p1).toNatClampNeg then none else
    some ((g0_rows (p1).toNatClampNeg))
set_option maxHeartbeats 4000000 in
set_option maxRecDepth 100000 in
theorem cX7_at (l : Launch) (D : zG) (a0 : Nat) (a0_rows : Nat) (sz : Nat) (n0_rows : Nat) (v0_size : Int32) (g0_rows : Nat → Int64) (p1 : Int32) (res : Int64) (hf : fX7_at n0_rows v0_size g0_rows p1 = some res) : Met l yX7_at wsX7_at ({ frames := 1, cells := 0, slots := 0, locals := 21 } : Room) (va_Pc [.ref a0, .int p1] (zW D sz [(a0, .inr (5, [.ref a0_rows, .int v0_size])), (a0_rows, .inl (D.2 2, n0_rows, .inr (.inl g0_rows)))])) (va_Ql (fun r (_ : Unit) => r = res) (fun _ => zB D (va_A [(a0, .inr (5, [.ref a0_rows, .int v0_size])), (a0_rows, .inl (D.2 2, n0_rows, .inr (.inl g0_rows)))] sz) [(a0, .inr (5, [.ref a0_rows, .int v0_size])), (a0_rows, .inl (D.2 2, n0_rows, .inr (.inl g0_rows)))]) (va_A [(a0, .inr (5, [.ref a0_rows, .int v0_size])), (a0_rows, .inl (D.2 2, n0_rows, .inr (.inl g0_rows)))] sz)) 0 0 (va_A [(a0, .inr (5, [.ref a0_rows, .int v0_size])), (a0_rows, .inl (D.2 2, n0_rows, .inr (.inl g0_rows)))] sz) := by
  refine Met.ofW (cc := cX7_at) (maxL := 2) (ret := (some .long)) (by decide) rfl ?_
  intro p e s m args below meth c s₁ B hml hv
  obtain ⟨rfl, hsz, hP, hK, hD0⟩ := hv
  have hx := B.exec
  have hb := B.bytes
  have hr := B.returns
  have hts := atoms_spec (ws := wsX7_at) B.pre
  have hown : s.vm.findClass RX7 = some m.cls := findClass_of_methodNamed B.named
  have hlocks := B.notSynchronized
  subst hsz
  have hD := hD0.self (sz := s.heap.size)
  generalize hAe : va_A [(a0, .inr (5, [.ref a0_rows, .int v0_size])), (a0_rows, .inl (D.2 2, n0_rows, .inr (.inl g0_rows)))] s.heap.size = A at hD ⊢
  have hA : ∀ q : Nat, s.heap.size ≤ q → A q := fun q h => by rw [← hAe]; exact Or.inr h
  have l18 := zat hts 1 (w := .fieldLink RX7 18 "TurnedWords$Rising" "rows" "[J") rfl
  have hwX7 : ∀ w ∈ u_ws RX7 TX7 2, w ∈ wsX7_at := fun w h => List.mem_cons_of_mem _ (List.mem_append_right _ h)
  have hl := lv_entry ([.ref a0, .int p1]) (n := 2) (Nat.le_of_ble_eq_true rfl)
  rw [lg_entry_eq]
  generalize (lg_sl ([.ref a0, .int p1]) ++ List.replicate (2 - (lg_sl ([.ref a0, .int p1])).length) Slot.unset).toArray = ls at hl ⊢
  have hl : lv_has ls 2 [(0, .ref a0), (1, .int p1)] := hl
  refine zStart (A := A) hP (fun Q0 H locs hQ hP hS => ?_)
  unfold fX7_at at hf
  refine lv_aload_n hx hb dX7_at_0 rfl (lv_at hl 0 rfl) ?_
  refine lv_iload_n hx hb dX7_at_1 rfl (lv_at hl 1 rfl) ?_
  obtain ⟨r1, hr1, hf⟩ := bd hf
  refine zVz (As := [.int p1]) (rest := []) (ci := 5) (q0 := 0) (wn := [(a0, .inr (5, [.ref a0_rows, .int v0_size])), (a0_rows, .inl (D.2 2, n0_rows, .inr (.inl g0_rows)))]) ⟨hx, hb, hml, hown, hts⟩ (cX7_hasNumber l D a0 H.size v0_size p1 r1 hr1) (cwV 1 hts gX7_at_X7_hasNumber rfl rfl rfl (by decide +kernel) ⟨Nat.le_of_ble_eq_true rfl, Nat.le_of_ble_eq_true rfl⟩) hK hP hD hS hA [0] [1] [1, 0] rfl (by decide) rfl (by decide) (by decide) rfl (by decide) rfl rfl rfl hl.1 rfl (Nat.le_of_ble_eq_true rfl) dX7_at_2 ⟨Nat.zero_le _, Nat.zero_le _⟩ (fun H locs hb_2 hP hD hS => ?_)
  refine lv_if_eq (tgt := 17) hx hb dX7_at_5 (by decide) (fun c_3 => ?_) (fun c_3 => ?_)
  · replace hf := ip c_3 hf
    refine lv_lconst (v := 0) hx hb dX7_at_17 (by decide) ?_
    have he := Option.some.inj hf
    rw [hQ]
    exact W.lret (v := (0 : Int64)) hx hb hr (fun t ht hW => by rw [← he]; exact ⟨⟨(0 : Int64), (), rfl, rfl, by rw [ht]; exact hP, hD⟩, hS.F ht⟩) hS.2.2 dX7_at_18
  · replace hf := im c_3 hf
    refine lv_aload_n hx hb dX7_at_8 rfl (lv_at hl 0 rfl) ?_
    refine va_get (D := D.1) (ci := 5) (v := .ref a0_rows) (C := RX7) (T := TX7) (N := 2) hx hb hts hwX7 hown hK.1 hP 0 rfl rfl 0 (by decide) l18 (fun _ h9 => h9) rfl dX7_at_9 ?_
    refine lv_iload_n hx hb dX7_at_12 rfl (lv_at hl 1 rfl) ?_
    obtain ⟨h_4, hf⟩ := gd hf
    refine va_lald hx hb hK.1 hP 1 2 rfl rfl h_4 dX7_at_13 ?_
    refine lv_goto (tgt := 18) hx hb dX7_at_14 (by decide) ?_
    have he := Option.some.inj hf
    rw [hQ]
    exact W.lret (v := (g0_rows (p1).toNatClampNeg)) hx hb hr (fun t ht hW => by rw [← he]; exact ⟨⟨(g0_rows (p1).toNatClampNeg), (), rfl, rfl, by rw [ht]; exact hP, hD⟩, hS.F ht⟩) hS.2.2 dX7_at_18
def fX7_below_7 (N : Nat) (n0_rows : Nat) (v0_size : Int32) (g0_rows : Nat → Int64) (p1 : Int64) : Nat → Int32 → Int32 → Option (Int32)
  | 0, _, _ => none
  | K + 1, x3, x4 =>
    if x4 ≤ (0 : Int32) then
      some (x3)
    else
      if v0_size < (x3 + x4) then
        (fX7_below_7 N n0_rows v0_size g0_rows p1 K) x3 (x4 >>> ((1 : Int32) &&& 31))
      else
        if ((x3 + x4) - (1 : Int32)) < 0 ∨ n0_rows ≤ (((x3 + x4) - (1 : Int32))).toNatClampNeg then none else
        if (0 : Int32) ≤ (lg_cmp (g0_rows (((x3 + x4) - (1 : Int32))).toNatClampNeg) p1) then
          (fX7_below_7 N n0_rows v0_size g0_rows p1 K) x3 (x4 >>> ((1 : Int32) &&& 31))
        else
          (fX7_below_7 N n0_rows v0_size g0_rows p1 K) (x3 + x4) (x4 >>> ((1 : Int32) &&& 31))
def fX7_below (N : Nat) (n0_rows : Nat) (v0_size : Int32) (g0_rows : Nat → Int64) (p1 : Int64) : Option (Int32) :=
  fX7_below_7 N n0_rows v0_size g0_rows p1 N (0 : Int32) (256 : Int32)
set_option maxHeartbeats 4000000 in
set_option maxRecDepth 100000 in
theorem cX7_below (l : Launch) (D : zG) (a0 : Nat) (a0_rows : Nat) (sz : Nat) (n0_rows : Nat) (v0_size : Int32) (g0_rows : Nat → Int64) (p1 : Int64) (N : Nat) (res : Int32) (hf : fX7_below N n0_rows v0_size g0_rows p1 = some res) : Met l yX7_below wsX7_below ({ frames := 0, cells := 0, slots := 0, locals := 0 } : Room) (va_Pc [.ref a0, .long p1] (zW D sz [(a0, .inr (5, [.ref a0_rows, .int v0_size])), (a0_rows, .inl (D.2 2, n0_rows, .inr (.inl g0_rows)))])) (va_Qi (fun r (_ : Unit) => r = res) (fun _ => zB D (va_A [(a0, .inr (5, [.ref a0_rows, .int v0_size])), (a0_rows, .inl (D.2 2, n0_rows, .inr (.inl g0_rows)))] sz) [(a0, .inr (5, [.ref a0_rows, .int v0_size])), (a0_rows, .inl (D.2 2, n0_rows, .inr (.inl g0_rows)))]) (va_A [(a0, .inr (5, [.ref a0_rows, .int v0_size])), (a0_rows, .inl (D.2 2, n0_rows, .inr (.inl g0_rows)))] sz)) 0 0 (va_A [(a0, .inr (5, [.ref a0_rows, .int v0_size])), (a0_rows, .inl (D.2 2, n0_rows, .inr (.inl g0_rows)))] sz) := by
  refine Met.ofW (cc := cX7_below) (maxL := 6) (ret := (some .int)) (by decide) rfl ?_
  intro p e s m args below meth c s₁ B hml hv
  obtain ⟨rfl, hsz, hP, hK, hD0⟩ := hv
  have hx := B.exec
  have hb := B.bytes
  have hr := B.returns
  have hts := atoms_spec (ws := wsX7_below) B.pre
  have hown : s.vm.findClass RX7 = some m.cls := findClass_of_methodNamed B.named
  have hlocks := B.notSynchronized
  subst hsz
  have hD := hD0.self (sz := s.heap.size)
  generalize hAe : va_A [(a0, .inr (5, [.ref a0_rows, .int v0_size])), (a0_rows, .inl (D.2 2, n0_rows, .inr (.inl g0_rows)))] s.heap.size = A at hD ⊢
  have hA : ∀ q : Nat, s.heap.size ≤ q → A q := fun q h => by rw [← hAe]; exact Or.inr h
  have l24 := zat hts 1 (w := .fieldLink RX7 24 "TurnedWords$Rising" "size" "I") rfl
  have l18 := zat hts 2 (w := .fieldLink RX7 18 "TurnedWords$Rising" "rows" "[J") rfl
  have hwX7 : ∀ w ∈ u_ws RX7 TX7 2, w ∈ wsX7_below := fun w h => List.mem_cons_of_mem _ (List.mem_append_right _ h)
  have hl := lv_entry ([.ref a0, .long p1]) (n := 6) (Nat.le_of_ble_eq_true rfl)
  rw [lg_entry_eq]
  generalize (lg_sl ([.ref a0, .long p1]) ++ List.replicate (6 - (lg_sl ([.ref a0, .long p1])).length) Slot.unset).toArray = ls at hl ⊢
  have hl : lv_has ls 6 [(0, .ref a0), (1, .long p1)] := hl
  refine zStart (A := A) hP (fun Q0 H locs hQ hP hS => ?_)
  have k7 : ∀ K : Nat, ∀ (x3 : Int32) (x4 : Int32) (H : Heap) (locs : List Loc) (ls : Array Slot), fX7_below_7 N n0_rows v0_size g0_rows p1 K x3 x4 = some res → va_P D.1 vwCl [(a0, .inr (5, [.ref a0_rows, .int v0_size])), (a0_rows, .inl (D.2 2, n0_rows, .inr (.inl g0_rows)))] H → va_D A [(a0, .inr (5, [.ref a0_rows, .int v0_size])), (a0_rows, .inl (D.2 2, n0_rows, .inr (.inl g0_rows)))] → va_S A s.heap H locs → lv_has ls 6 [(0, .ref a0), (1, .long p1), (3, .int x3), (4, .int x4)] → W p l e (headSpec wsX7_below ({ frames := 0, cells := 0, slots := 0, locals := 0 } : Room)).room s m ([.ref a0, .long p1] : List Value).toArray below meth c H locs 0 0 Q0 (F0 m 7 ls []) := by
    intro K
    induction K with
    | zero =>
      intro x3 x4 H locs ls hf
      rw [fX7_below_7] at hf
      cases hf
    | succ K ih =>
      intro x3 x4 H locs ls hf hP hD hS hl
      rw [fX7_below_7] at hf
      refine lv_iload hx hb dX7_below_7 (lv_at hl 3 rfl) ?_
      refine lv_if_le (tgt := 53) hx hb dX7_below_9 (by decide) (fun c_1 => ?_) (fun c_1 => ?_)
      · replace hf := ip c_1 hf
        refine lv_iload_n hx hb dX7_below_53 rfl (lv_at hl 2 rfl) ?_
        have he := Option.some.inj hf
        rw [hQ]
        exact W.iret (v := x3) hx hb hr (fun t ht hW => by rw [← he]; exact ⟨⟨x3, (), rfl, rfl, by rw [ht]; exact hP, hD⟩, hS.F ht⟩) hS.2.2 dX7_below_54
      · replace hf := im c_1 hf
        refine lv_iload_n hx hb dX7_below_12 rfl (lv_at hl 2 rfl) ?_
        refine lv_iload hx hb dX7_below_13 (lv_at hl 3 rfl) ?_
        refine lv_iadd hx hb dX7_below_15 ?_
        refine lv_istore (lv' := [(5, .int (x3 + x4)), (0, .ref a0), (1, .long p1), (3, .int x3), (4, .int x4)]) hx hb dX7_below_16 hl (by decide) rfl (fun ls hl => ?_)
        refine lv_iload hx hb dX7_below_18 (lv_at hl 0 rfl) ?_
        refine lv_aload_n hx hb dX7_below_20 rfl (lv_at hl 1 rfl) ?_
        refine va_get (D := D.1) (ci := 5) (v := .int v0_size) (C := RX7) (T := TX7) (N := 2) hx hb hts hwX7 hown hK.1 hP 0 rfl rfl 1 (by decide) l24 (fun _ h9 => h9) rfl dX7_below_21 ?_
        refine lv_icmp_gt (tgt := 44) hx hb dX7_below_24 (by decide) (fun c_2 => ?_) (fun c_2 => ?_)
        · replace hf := ip c_2 hf
          refine lv_iload hx hb dX7_below_44 (lv_at hl 4 rfl) ?_
          refine lv_iconst (v := 1) hx hb dX7_below_46 (by decide) ?_
          refine lv_ishr hx hb dX7_below_47 ?_
          refine lv_istore (lv' := [(4, .int (x4 >>> ((1 : Int32) &&& 31))), (5, .int (x3 + x4)), (0, .ref a0), (1, .long p1), (3, .int x3)]) hx hb dX7_below_48 hl (by decide) rfl (fun ls hl => ?_)
          refine lv_goto (tgt := 7) hx hb dX7_below_50 (by decide) ?_
          exact ih x3 (x4 >>> ((1 : Int32) &&& 31)) H locs ls hf hP hD hS (lv_sub hl [2, 3, 4, 0] rfl)
        · replace hf := im c_2 hf
          refine lv_aload_n hx hb dX7_below_27 rfl (lv_at hl 1 rfl) ?_
          refine va_get (D := D.1) (ci := 5) (v := .ref a0_rows) (C := RX7) (T := TX7) (N := 2) hx hb hts hwX7 hown hK.1 hP 0 rfl rfl 0 (by decide) l18 (fun _ h9 => h9) rfl dX7_below_28 ?_
          refine lv_iload hx hb dX7_below_31 (lv_at hl 0 rfl) ?_
          refine lv_iconst (v := 1) hx hb dX7_below_33 (by decide) ?_
          refine lv_isub hx hb dX7_below_34 ?_
          obtain ⟨h_3, hf⟩ := gd hf
          refine va_lald hx hb hK.1 hP 1 2 rfl rfl h_3 dX7_below_35 ?_
          refine lv_lload_n hx hb dX7_below_36 rfl (lv_at hl 2 rfl) ?_
          refine W.lcmp hx hb dX7_below_37 ?_
          refine lv_if_ge (tgt := 44) hx hb dX7_below_38 (by decide) (fun c_4 => ?_) (fun c_4 => ?_)
          · replace hf := ip c_4 hf
            refine lv_iload hx hb dX7_below_44 (lv_at hl 4 rfl) ?_
            refine lv_iconst (v := 1) hx hb dX7_below_46 (by decide) ?_
            refine lv_ishr hx hb dX7_below_47 ?_
            refine lv_istore (lv' := [(4, .int (x4 >>> ((1 : Int32) &&& 31))), (5, .int (x3 + x4)), (0, .ref a0), (1, .long p1), (3, .int x3)]) hx hb dX7_below_48 hl (by decide) rfl (fun ls hl => ?_)
            refine lv_goto (tgt := 7) hx hb dX7_below_50 (by decide) ?_
            exact ih x3 (x4 >>> ((1 : Int32) &&& 31)) H locs ls hf hP hD hS (lv_sub hl [2, 3, 4, 0] rfl)
          · replace hf := im c_4 hf
            refine lv_iload hx hb dX7_below_41 (lv_at hl 0 rfl) ?_
            refine lv_istore_n (lv' := [(3, .int (x3 + x4)), (5, .int (x3 + x4)), (0, .ref a0), (1, .long p1), (4, .int x4)]) hx hb dX7_below_43 rfl hl (by decide) rfl (fun ls hl => ?_)
            refine lv_iload hx hb dX7_below_44 (lv_at hl 4 rfl) ?_
            refine lv_iconst (v := 1) hx hb dX7_below_46 (by decide) ?_
            refine lv_ishr hx hb dX7_below_47 ?_
            refine lv_istore (lv' := [(4, .int (x4 >>> ((1 : Int32) &&& 31))), (3, .int (x3 + x4)), (5, .int (x3 + x4)), (0, .ref a0), (1, .long p1)]) hx hb dX7_below_48 hl (by decide) rfl (fun ls hl => ?_)
            refine lv_goto (tgt := 7) hx hb dX7_below_50 (by decide) ?_
            exact ih (x3 + x4) (x4 >>> ((1 : Int32) &&& 31)) H locs ls hf hP hD hS (lv_sub hl [3, 4, 1, 0] rfl)
  unfold fX7_below at hf
  refine lv_iconst (v := 0) hx hb dX7_below_0 (by decide) ?_
  refine lv_istore_n (lv' := [(3, .int (0 : Int32)), (0, .ref a0), (1, .long p1)]) hx hb dX7_below_1 rfl hl (by decide) rfl (fun ls hl => ?_)
  refine lv_sipush (v := 256) hx hb dX7_below_2 (by decide) ?_
  refine lv_istore (lv' := [(4, .int (256 : Int32)), (3, .int (0 : Int32)), (0, .ref a0), (1, .long p1)]) hx hb dX7_below_5 hl (by decide) rfl (fun ls hl => ?_)
  exact k7 N (0 : Int32) (256 : Int32) H locs ls hf hP hD hS (lv_sub hl [2, 3, 1, 0] rfl)
def fX7_isAt (n0_rows : Nat) (v0_size : Int32) (g0_rows : Nat → Int64) (p1 : Int32) (p2 : Int64) : Option (Int32) :=
  if v0_size ≤ p1 then
    some ((0 : Int32))
  else
    if p1 < 0 ∨ n0_rows ≤ (p1).toNatClampNeg then none else
    if (lg_cmp (g0_rows (p1).toNatClampNeg) p2) = (0 : Int32) then
      some ((1 : Int32))
    else
      some ((0 : Int32))
set_option maxHeartbeats 4000000 in
set_option maxRecDepth 100000 in
theorem cX7_isAt (l : Launch) (D : zG) (a0 : Nat) (a0_rows : Nat) (sz : Nat) (n0_rows : Nat) (v0_size : Int32) (g0_rows : Nat → Int64) (p1 : Int32) (p2 : Int64) (res : Int32) (hf : fX7_isAt n0_rows v0_size g0_rows p1 p2 = some res) : Met l yX7_isAt wsX7_isAt ({ frames := 0, cells := 0, slots := 0, locals := 0 } : Room) (va_Pc [.ref a0, .int p1, .long p2] (zW D sz [(a0, .inr (5, [.ref a0_rows, .int v0_size])), (a0_rows, .inl (D.2 2, n0_rows, .inr (.inl g0_rows)))])) (va_Qi (fun r (_ : Unit) => r = res ∧ (r = 0 ∨ r = 1)) (fun _ => zB D (va_A [(a0, .inr (5, [.ref a0_rows, .int v0_size])), (a0_rows, .inl (D.2 2, n0_rows, .inr (.inl g0_rows)))] sz) [(a0, .inr (5, [.ref a0_rows, .int v0_size])), (a0_rows, .inl (D.2 2, n0_rows, .inr (.inl g0_rows)))]) (va_A [(a0, .inr (5, [.ref a0_rows, .int v0_size])), (a0_rows, .inl (D.2 2, n0_rows, .inr (.inl g0_rows)))] sz)) 0 0 (va_A [(a0, .inr (5, [.ref a0_rows, .int v0_size])), (a0_rows, .inl (D.2 2, n0_rows, .inr (.inl g0_rows)))] sz) := by
  refine Met.ofW (cc := cX7_isAt) (maxL := 4) (ret := (some .boolean)) (by decide) rfl ?_
  intro p e s m args below meth c s₁ B hml hv
  obtain ⟨rfl, hsz, hP, hK, hD0⟩ := hv
  have hx := B.exec
  have hb := B.bytes
  have hr := B.returns
  have hts := atoms_spec (ws := wsX7_isAt) B.pre
  have hown : s.vm.findClass RX7 = some m.cls := findClass_of_methodNamed B.named
  have hlocks := B.notSynchronized
  subst hsz
  have hD := hD0.self (sz := s.heap.size)
  generalize hAe : va_A [(a0, .inr (5, [.ref a0_rows, .int v0_size])), (a0_rows, .inl (D.2 2, n0_rows, .inr (.inl g0_rows)))] s.heap.size = A at hD ⊢
  have hA : ∀ q : Nat, s.heap.size ≤ q → A q := fun q h => by rw [← hAe]; exact Or.inr h
  have l24 := zat hts 1 (w := .fieldLink RX7 24 "TurnedWords$Rising" "size" "I") rfl
  have l18 := zat hts 2 (w := .fieldLink RX7 18 "TurnedWords$Rising" "rows" "[J") rfl
  have hwX7 : ∀ w ∈ u_ws RX7 TX7 2, w ∈ wsX7_isAt := fun w h => List.mem_cons_of_mem _ (List.mem_append_right _ h)
  have hl := lv_entry ([.ref a0, .int p1, .long p2]) (n := 4) (Nat.le_of_ble_eq_true rfl)
  rw [lg_entry_eq]
  generalize (lg_sl ([.ref a0, .int p1, .long p2]) ++ List.replicate (4 - (lg_sl ([.ref a0, .int p1, .long p2])).length) Slot.unset).toArray = ls at hl ⊢
  have hl : lv_has ls 4 [(0, .ref a0), (1, .int p1), (2, .long p2)] := hl
  refine zStart (A := A) hP (fun Q0 H locs hQ hP hS => ?_)
  unfold fX7_isAt at hf
  refine lv_iload_n hx hb dX7_isAt_0 rfl (lv_at hl 1 rfl) ?_
  refine lv_aload_n hx hb dX7_isAt_1 rfl (lv_at hl 0 rfl) ?_
  refine va_get (D := D.1) (ci := 5) (v := .int v0_size) (C := RX7) (T := TX7) (N := 2) hx hb hts hwX7 hown hK.1 hP 0 rfl rfl 1 (by decide) l24 (fun _ h9 => h9) rfl dX7_isAt_2 ?_
  refine lv_icmp_ge (tgt := 23) hx hb dX7_isAt_5 (by decide) (fun c_1 => ?_) (fun c_1 => ?_)
  · replace hf := ip c_1 hf
    refine lv_iconst (v := 0) hx hb dX7_isAt_23 (by decide) ?_
    have he := Option.some.inj hf
    rw [hQ]
    exact W.zret (v := (0 : Int32)) hx hb hr (znb (Or.inl rfl)) (fun t ht hW => by rw [← he]; exact ⟨⟨(0 : Int32), (), rfl, ⟨rfl, Or.inl rfl⟩, by rw [ht]; exact hP, hD⟩, hS.F ht⟩) hS.2.2 dX7_isAt_24
  · replace hf := im c_1 hf
    refine lv_aload_n hx hb dX7_isAt_8 rfl (lv_at hl 0 rfl) ?_
    refine va_get (D := D.1) (ci := 5) (v := .ref a0_rows) (C := RX7) (T := TX7) (N := 2) hx hb hts hwX7 hown hK.1 hP 0 rfl rfl 0 (by decide) l18 (fun _ h9 => h9) rfl dX7_isAt_9 ?_
    refine lv_iload_n hx hb dX7_isAt_12 rfl (lv_at hl 1 rfl) ?_
    obtain ⟨h_2, hf⟩ := gd hf
    refine va_lald hx hb hK.1 hP 1 2 rfl rfl h_2 dX7_isAt_13 ?_
    refine lv_lload_n hx hb dX7_isAt_14 rfl (lv_at hl 2 rfl) ?_
    refine W.lcmp hx hb dX7_isAt_15 ?_
    refine lv_if_ne (tgt := 23) hx hb dX7_isAt_16 (by decide) (fun c_3 => ?_) (fun c_3 => ?_)
    · replace hf := im c_3 hf
      refine lv_iconst (v := 0) hx hb dX7_isAt_23 (by decide) ?_
      have he := Option.some.inj hf
      rw [hQ]
      exact W.zret (v := (0 : Int32)) hx hb hr (znb (Or.inl rfl)) (fun t ht hW => by rw [← he]; exact ⟨⟨(0 : Int32), (), rfl, ⟨rfl, Or.inl rfl⟩, by rw [ht]; exact hP, hD⟩, hS.F ht⟩) hS.2.2 dX7_isAt_24
    · replace hf := ip c_3 hf
      refine lv_iconst (v := 1) hx hb dX7_isAt_19 (by decide) ?_
      refine lv_goto (tgt := 24) hx hb dX7_isAt_20 (by decide) ?_
      have he := Option.some.inj hf
      rw [hQ]
      exact W.zret (v := (1 : Int32)) hx hb hr (znb (Or.inr rfl)) (fun t ht hW => by rw [← he]; exact ⟨⟨(1 : Int32), (), rfl, ⟨rfl, Or.inr rfl⟩, by rw [ht]; exact hP, hD⟩, hS.F ht⟩) hS.2.2 dX7_isAt_24
def fX7_add (N : Nat) (n0_rows : Nat) (v0_size : Int32) (g0_rows : Nat → Int64) (p1 : Int64) : Option (Int32 × Int32 × (Nat → Int64)) :=
  Option.bind (fX7_below N n0_rows v0_size g0_rows p1) fun r1 =>
  if (Int32.ofNat n0_rows) ≤ v0_size then
    some ((0 : Int32), v0_size, g0_rows)
  else
    Option.bind (fX7_isAt n0_rows v0_size g0_rows r1 p1) fun r3 =>
    if r3 = (0 : Int32) then
      if r1 < 0 ∨ (r1 + (1 : Int32)) < 0 ∨ (v0_size - r1) < 0 ∨ n0_rows < (r1).toNatClampNeg + ((v0_size - r1)).toNatClampNeg ∨ n0_rows < ((r1 + (1 : Int32))).toNatClampNeg + ((v0_size - r1)).toNatClampNeg then none else
      if r1 < 0 ∨ n0_rows ≤ (r1).toNatClampNeg then none else
      some ((1 : Int32), (v0_size + (1 : Int32)), (vp_updL (va_cpy g0_rows g0_rows (r1).toNatClampNeg ((r1 + (1 : Int32))).toNatClampNeg ((v0_size - r1)).toNatClampNeg) (r1).toNatClampNeg p1))
    else
      some ((0 : Int32), v0_size, g0_rows)
set_option maxHeartbeats 4000000 in
set_option maxRecDepth 100000 in
theorem cX7_add (l : Launch) (D : zG) (a0 : Nat) (a0_rows : Nat) (sz : Nat) (n0_rows : Nat) (v0_size : Int32) (g0_rows : Nat → Int64) (p1 : Int64) (N : Nat) (res : Int32 × Int32 × (Nat → Int64)) (hf : fX7_add N n0_rows v0_size g0_rows p1 = some res) : Met l yX7_add wsX7_add ({ frames := 1, cells := 0, slots := 0, locals := 40 } : Room) (va_Pc [.ref a0, .long p1] (zW D sz [(a0, .inr (5, [.ref a0_rows, .int v0_size])), (a0_rows, .inl (D.2 2, n0_rows, .inr (.inl g0_rows)))])) (va_Qi (fun r (_ : Unit) => r = res.1 ∧ (r = 0 ∨ r = 1)) (fun _ => zB D (va_A [(a0, .inr (5, [.ref a0_rows, .int v0_size])), (a0_rows, .inl (D.2 2, n0_rows, .inr (.inl g0_rows)))] sz) [(a0, .inr (5, [.ref a0_rows, .int res.2.1])), (a0_rows, .inl (D.2 2, n0_rows, .inr (.inl res.2.2)))]) (va_A [(a0, .inr (5, [.ref a0_rows, .int v0_size])), (a0_rows, .inl (D.2 2, n0_rows, .inr (.inl g0_rows)))] sz)) 0 0 (va_A [(a0, .inr (5, [.ref a0_rows, .int v0_size])), (a0_rows, .inl (D.2 2, n0_rows, .inr (.inl g0_rows)))] sz) := by
  refine Met.ofW (cc := cX7_add) (maxL := 4) (ret := (some .boolean)) (by decide) rfl ?_
  intro p e s m args below meth c s₁ B hml hv
  obtain ⟨rfl, hsz, hP, hK, hD0⟩ := hv
  have hx := B.exec
  have hb := B.bytes
  have hr := B.returns
  have hts := atoms_spec (ws := wsX7_add) B.pre
  have hown : s.vm.findClass RX7 = some m.cls := findClass_of_methodNamed B.named
  have hlocks := B.notSynchronized
  subst hsz
  have hD := hD0.self (sz := s.heap.size)
  generalize hAe : va_A [(a0, .inr (5, [.ref a0_rows, .int v0_size])), (a0_rows, .inl (D.2 2, n0_rows, .inr (.inl g0_rows)))] s.heap.size = A at hD ⊢
  have hA : ∀ q : Nat, s.heap.size ≤ q → A q := fun q h => by rw [← hAe]; exact Or.inr h
  have l24 := zat hts 1 (w := .fieldLink RX7 24 "TurnedWords$Rising" "size" "I") rfl
  have l18 := zat hts 2 (w := .fieldLink RX7 18 "TurnedWords$Rising" "rows" "[J") rfl
  have l42 := zat hts 3 (w := .methodLink RX7 42 arraycopyName) rfl
  have hnatA := zat hts 4 (w := .native arraycopyName) rfl
  have hstA := zat hts 5 (w := .static arraycopyName) rfl
  have hinS := zat hts 6 (w := .initialized "java/lang/System") rfl
  have hwX7 : ∀ w ∈ u_ws RX7 TX7 2, w ∈ wsX7_add := fun w h => List.mem_cons_of_mem _ (List.mem_append_right _ h)
  have hl := lv_entry ([.ref a0, .long p1]) (n := 4) (Nat.le_of_ble_eq_true rfl)
  rw [lg_entry_eq]
  generalize (lg_sl ([.ref a0, .long p1]) ++ List.replicate (4 - (lg_sl ([.ref a0, .long p1])).length) Slot.unset).toArray = ls at hl ⊢
  have hl : lv_has ls 4 [(0, .ref a0), (1, .long p1)] := hl
  refine zStart (A := A) hP (fun Q0 H locs hQ hP hS => ?_)
  unfold fX7_add at hf
  refine lv_aload_n hx hb dX7_add_0 rfl (lv_at hl 0 rfl) ?_
  refine lv_lload_n hx hb dX7_add_1 rfl (lv_at hl 1 rfl) ?_
  obtain ⟨r1, hr1, hf⟩ := bd hf
  refine zVi (As := [.long p1]) (rest := []) (ci := 5) (q0 := 0) (wn := [(a0, .inr (5, [.ref a0_rows, .int v0_size])), (a0_rows, .inl (D.2 2, n0_rows, .inr (.inl g0_rows)))]) ⟨hx, hb, hml, hown, hts⟩ (cX7_below l D a0 a0_rows H.size n0_rows v0_size g0_rows p1 N r1 hr1) (cwV 1 hts gX7_add_X7_below rfl rfl rfl (by decide +kernel) ⟨Nat.le_of_ble_eq_true rfl, Nat.le_of_ble_eq_true rfl⟩) hK hP hD hS hA [0, 1] [] [0, 1] rfl (by decide) rfl (by decide) (by decide) rfl (by decide) rfl rfl rfl hl.1 rfl (Nat.le_of_ble_eq_true rfl) dX7_add_2 ⟨Nat.zero_le _, Nat.zero_le _⟩ (fun H locs hP hD hS => ?_)
  refine lv_istore_n (lv' := [(3, .int r1), (0, .ref a0), (1, .long p1)]) hx hb dX7_add_5 rfl hl (by decide) rfl (fun ls hl => ?_)
  refine lv_aload_n hx hb dX7_add_6 rfl (lv_at hl 1 rfl) ?_
  refine va_get (D := D.1) (ci := 5) (v := .int v0_size) (C := RX7) (T := TX7) (N := 2) hx hb hts hwX7 hown hK.1 hP 0 rfl rfl 1 (by decide) l24 (fun _ h9 => h9) rfl dX7_add_7 ?_
  refine lv_aload_n hx hb dX7_add_10 rfl (lv_at hl 1 rfl) ?_
  refine va_get (D := D.1) (ci := 5) (v := .ref a0_rows) (C := RX7) (T := TX7) (N := 2) hx hb hts hwX7 hown hK.1 hP 0 rfl rfl 0 (by decide) l18 (fun _ h9 => h9) rfl dX7_add_11 ?_
  refine va_alen hx hb hK.1 hP 1 2 rfl rfl (v := (Int32.ofNat n0_rows)) rfl dX7_add_14 ?_
  refine lv_icmp_ge (tgt := 27) hx hb dX7_add_15 (by decide) (fun c_2 => ?_) (fun c_2 => ?_)
  · replace hf := ip c_2 hf
    refine lv_iconst (v := 0) hx hb dX7_add_27 (by decide) ?_
    have he := Option.some.inj hf
    rw [hQ]
    exact W.zret (v := (0 : Int32)) hx hb hr (znb (Or.inl rfl)) (fun t ht hW => by rw [← he]; exact ⟨⟨(0 : Int32), (), rfl, ⟨rfl, Or.inl rfl⟩, by rw [ht]; exact hP, hD⟩, hS.F ht⟩) hS.2.2 dX7_add_28
  · replace hf := im c_2 hf
    refine lv_aload_n hx hb dX7_add_18 rfl (lv_at hl 1 rfl) ?_
    refine lv_iload_n hx hb dX7_add_19 rfl (lv_at hl 0 rfl) ?_
    refine lv_lload_n hx hb dX7_add_20 rfl (lv_at hl 2 rfl) ?_
    obtain ⟨r3, hr3, hf⟩ := bd hf
    refine zVz (As := [.int r1, .long p1]) (rest := []) (ci := 5) (q0 := 0) (wn := [(a0, .inr (5, [.ref a0_rows, .int v0_size])), (a0_rows, .inl (D.2 2, n0_rows, .inr (.inl g0_rows)))]) ⟨hx, hb, hml, hown, hts⟩ (cX7_isAt l D a0 a0_rows H.size n0_rows v0_size g0_rows r1 p1 r3 hr3) (cwV 2 hts gX7_add_X7_isAt rfl rfl rfl (by decide +kernel) ⟨Nat.le_of_ble_eq_true rfl, Nat.le_of_ble_eq_true rfl⟩) hK hP hD hS hA [0, 1] [] [0, 1] rfl (by decide) rfl (by decide) (by decide) rfl (by decide) rfl rfl rfl hl.1 rfl (Nat.le_of_ble_eq_true rfl) dX7_add_21 ⟨Nat.zero_le _, Nat.zero_le _⟩ (fun H locs hb_4 hP hD hS => ?_)
    refine lv_if_eq (tgt := 29) hx hb dX7_add_24 (by decide) (fun c_5 => ?_) (fun c_5 => ?_)
    · replace hf := ip c_5 hf
      refine lv_aload_n hx hb dX7_add_29 rfl (lv_at hl 1 rfl) ?_
      refine va_get (D := D.1) (ci := 5) (v := .ref a0_rows) (C := RX7) (T := TX7) (N := 2) hx hb hts hwX7 hown hK.1 hP 0 rfl rfl 0 (by decide) l18 (fun _ h9 => h9) rfl dX7_add_30 ?_
      refine lv_iload_n hx hb dX7_add_33 rfl (lv_at hl 0 rfl) ?_
      refine lv_aload_n hx hb dX7_add_34 rfl (lv_at hl 1 rfl) ?_
      refine va_get (D := D.1) (ci := 5) (v := .ref a0_rows) (C := RX7) (T := TX7) (N := 2) hx hb hts hwX7 hown hK.1 hP 0 rfl rfl 0 (by decide) l18 (fun _ h9 => h9) rfl dX7_add_35 ?_
      refine lv_iload_n hx hb dX7_add_38 rfl (lv_at hl 0 rfl) ?_
      refine lv_iconst (v := 1) hx hb dX7_add_39 (by decide) ?_
      refine lv_iadd hx hb dX7_add_40 ?_
      refine lv_aload_n hx hb dX7_add_41 rfl (lv_at hl 1 rfl) ?_
      refine va_get (D := D.1) (ci := 5) (v := .int v0_size) (C := RX7) (T := TX7) (N := 2) hx hb hts hwX7 hown hK.1 hP 0 rfl rfl 1 (by decide) l24 (fun _ h9 => h9) rfl dX7_add_42 ?_
      refine lv_iload_n hx hb dX7_add_45 rfl (lv_at hl 0 rfl) ?_
      refine lv_isub hx hb dX7_add_46 ?_
      obtain ⟨h_6, hf⟩ := gd hf
      obtain ⟨h_7, h_8, h_9, h_10, h_11⟩ := zor5 h_6
      refine va_copyl hx hb (hml.trans hl.1.symm) hown l42 hnatA hstA hinS hK.1 hP hD hS 1 1 2 2 (ty := .long) rfl rfl rfl rfl rfl h_7 h_8 h_9 (Nat.not_lt.mp h_10) (Nat.not_lt.mp h_11) (fun _ _ => rfl) (Nat.le_of_ble_eq_true rfl) (Nat.le_of_ble_eq_true rfl) dX7_add_47 (fun H locs hP hD hS => ?_)
      have hP : va_P D.1 vwCl [(a0, .inr (5, [.ref a0_rows, .int v0_size])), (a0_rows, .inl (D.2 2, n0_rows, .inr (.inl (va_cpy g0_rows g0_rows (r1).toNatClampNeg ((r1 + (1 : Int32))).toNatClampNeg ((v0_size - r1)).toNatClampNeg))))] H := hP
      have hD : va_D A [(a0, .inr (5, [.ref a0_rows, .int v0_size])), (a0_rows, .inl (D.2 2, n0_rows, .inr (.inl (va_cpy g0_rows g0_rows (r1).toNatClampNeg ((r1 + (1 : Int32))).toNatClampNeg ((v0_size - r1)).toNatClampNeg))))] := hD
      refine lv_aload_n hx hb dX7_add_50 rfl (lv_at hl 1 rfl) ?_
      refine va_get (D := D.1) (ci := 5) (v := .ref a0_rows) (C := RX7) (T := TX7) (N := 2) hx hb hts hwX7 hown hK.1 hP 0 rfl rfl 0 (by decide) l18 (fun _ h9 => h9) rfl dX7_add_51 ?_
      refine lv_iload_n hx hb dX7_add_54 rfl (lv_at hl 0 rfl) ?_
      refine lv_lload_n hx hb dX7_add_55 rfl (lv_at hl 2 rfl) ?_
      obtain ⟨h_12, hf⟩ := gd hf
      refine va_last hx hb hK.1 hP hD hS 1 2 rfl rfl h_12 dX7_add_56 (fun H locs hP hD hS => ?_)
      have hP : va_P D.1 vwCl [(a0, .inr (5, [.ref a0_rows, .int v0_size])), (a0_rows, .inl (D.2 2, n0_rows, .inr (.inl (vp_updL (va_cpy g0_rows g0_rows (r1).toNatClampNeg ((r1 + (1 : Int32))).toNatClampNeg ((v0_size - r1)).toNatClampNeg) (r1).toNatClampNeg p1))))] H := hP
      have hD : va_D A [(a0, .inr (5, [.ref a0_rows, .int v0_size])), (a0_rows, .inl (D.2 2, n0_rows, .inr (.inl (vp_updL (va_cpy g0_rows g0_rows (r1).toNatClampNeg ((r1 + (1 : Int32))).toNatClampNeg ((v0_size - r1)).toNatClampNeg) (r1).toNatClampNeg p1))))] := hD
      refine lv_aload_n hx hb dX7_add_57 rfl (lv_at hl 1 rfl) ?_
      refine lv_dup hx hb dX7_add_58 rfl ?_
      refine va_get (D := D.1) (ci := 5) (v := .int v0_size) (C := RX7) (T := TX7) (N := 2) hx hb hts hwX7 hown hK.1 hP 0 rfl rfl 1 (by decide) l24 (fun _ h9 => h9) rfl dX7_add_59 ?_
      refine lv_iconst (v := 1) hx hb dX7_add_62 (by decide) ?_
      refine lv_iadd hx hb dX7_add_63 ?_
      refine va_put (D := D.1) (ci := 5) (v := .int (v0_size + (1 : Int32))) (ty := .int) (C := RX7) (T := TX7) (N := 2) hx hb hts hwX7 tyX7 tyX7_ok nmX7 hown hK.1 hP hD hS 0 rfl rfl 1 (by decide) l24 (fun _ h9 => h9) rfl (by decide +kernel) rfl rfl (Nat.le_of_ble_eq_true rfl) dX7_add_64 (fun H locs hP hD hS => ?_)
      have hP : va_P D.1 vwCl [(a0, .inr (5, [.ref a0_rows, .int (v0_size + (1 : Int32))])), (a0_rows, .inl (D.2 2, n0_rows, .inr (.inl (vp_updL (va_cpy g0_rows g0_rows (r1).toNatClampNeg ((r1 + (1 : Int32))).toNatClampNeg ((v0_size - r1)).toNatClampNeg) (r1).toNatClampNeg p1))))] H := hP
      have hD : va_D A [(a0, .inr (5, [.ref a0_rows, .int (v0_size + (1 : Int32))])), (a0_rows, .inl (D.2 2, n0_rows, .inr (.inl (vp_updL (va_cpy g0_rows g0_rows (r1).toNatClampNeg ((r1 + (1 : Int32))).toNatClampNeg ((v0_size - r1)).toNatClampNeg) (r1).toNatClampNeg p1))))] := hD
      refine lv_iconst (v := 1) hx hb dX7_add_67 (by decide) ?_
      have he := Option.some.inj hf
      rw [hQ]
      exact W.zret (v := (1 : Int32)) hx hb hr (znb (Or.inr rfl)) (fun t ht hW => by rw [← he]; exact ⟨⟨(1 : Int32), (), rfl, ⟨rfl, Or.inr rfl⟩, by rw [ht]; exact hP, hD⟩, hS.F ht⟩) hS.2.2 dX7_add_68
    · replace hf := im c_5 hf
      refine lv_iconst (v := 0) hx hb dX7_add_27 (by decide) ?_
      have he := Option.some.inj hf
      rw [hQ]
      exact W.zret (v := (0 : Int32)) hx hb hr (znb (Or.inl rfl)) (fun t ht hW => by rw [← he]; exact ⟨⟨(0 : Int32), (), rfl, ⟨rfl, Or.inl rfl⟩, by rw [ht]; exact hP, hD⟩, hS.F ht⟩) hS.2.2 dX7_add_28
def fX7_drop (N : Nat) (n0_rows : Nat) (v0_size : Int32) (g0_rows : Nat → Int64) (p1 : Int64) : Option (Int32 × Int32 × (Nat → Int64)) :=
  Option.bind (fX7_below N n0_rows v0_size g0_rows p1) fun r1 =>
  Option.bind (fX7_isAt n0_rows v0_size g0_rows r1 p1) fun r2 =>
  if r2 = (0 : Int32) then
    some ((0 : Int32), v0_size, g0_rows)
  else
    if (r1 + (1 : Int32)) < 0 ∨ r1 < 0 ∨ ((v0_size - (1 : Int32)) - r1) < 0 ∨ n0_rows < ((r1 + (1 : Int32))).toNatClampNeg + (((v0_size - (1 : Int32)) - r1)).toNatClampNeg ∨ n0_rows < (r1).toNatClampNeg + (((v0_size - (1 : Int32)) - r1)).toNatClampNeg then none else
    some ((1 : Int32), (v0_size - (1 : Int32)), (va_cpy g0_rows g0_rows ((r1 + (1 : Int32))).toNatClampNeg (r1).toNatClampNeg (((v0_size - (1 : Int32)) - r1)).toNatClampNeg))
set_option maxHeartbeats 4000000 in
set_option maxRecDepth 100000 in
theorem cX7_drop (l : Launch) (D : zG) (a0 : Nat) (a0_rows : Nat) (sz : Nat) (n0_rows : Nat) (v0_size : Int32) (g0_rows : Nat → Int64) (p1 : Int64) (N : Nat) (res : Int32 × Int32 × (Nat → Int64)) (hf : fX7_drop N n0_rows v0_size g0_rows p1 = some res) : Met l yX7_drop wsX7_drop ({ frames := 1, cells := 0, slots := 0, locals := 40 } : Room) (va_Pc [.ref a0, .long p1] (zW D sz [(a0, .inr (5, [.ref a0_rows, .int v0_size])), (a0_rows, .inl (D.2 2, n0_rows, .inr (.inl g0_rows)))])) (va_Qi (fun r (_ : Unit) => r = res.1 ∧ (r = 0 ∨ r = 1)) (fun _ => zB D (va_A [(a0, .inr (5, [.ref a0_rows, .int v0_size])), (a0_rows, .inl (D.2 2, n0_rows, .inr (.inl g0_rows)))] sz) [(a0, .inr (5, [.ref a0_rows, .int res.2.1])), (a0_rows, .inl (D.2 2, n0_rows, .inr (.inl res.2.2)))]) (va_A [(a0, .inr (5, [.ref a0_rows, .int v0_size])), (a0_rows, .inl (D.2 2, n0_rows, .inr (.inl g0_rows)))] sz)) 0 0 (va_A [(a0, .inr (5, [.ref a0_rows, .int v0_size])), (a0_rows, .inl (D.2 2, n0_rows, .inr (.inl g0_rows)))] sz) := by
  refine Met.ofW (cc := cX7_drop) (maxL := 4) (ret := (some .boolean)) (by decide) rfl ?_
  intro p e s m args below meth c s₁ B hml hv
  obtain ⟨rfl, hsz, hP, hK, hD0⟩ := hv
  have hx := B.exec
  have hb := B.bytes
  have hr := B.returns
  have hts := atoms_spec (ws := wsX7_drop) B.pre
  have hown : s.vm.findClass RX7 = some m.cls := findClass_of_methodNamed B.named
  have hlocks := B.notSynchronized
  subst hsz
  have hD := hD0.self (sz := s.heap.size)
  generalize hAe : va_A [(a0, .inr (5, [.ref a0_rows, .int v0_size])), (a0_rows, .inl (D.2 2, n0_rows, .inr (.inl g0_rows)))] s.heap.size = A at hD ⊢
  have hA : ∀ q : Nat, s.heap.size ≤ q → A q := fun q h => by rw [← hAe]; exact Or.inr h
  have l24 := zat hts 1 (w := .fieldLink RX7 24 "TurnedWords$Rising" "size" "I") rfl
  have l18 := zat hts 2 (w := .fieldLink RX7 18 "TurnedWords$Rising" "rows" "[J") rfl
  have l42 := zat hts 3 (w := .methodLink RX7 42 arraycopyName) rfl
  have hnatA := zat hts 4 (w := .native arraycopyName) rfl
  have hstA := zat hts 5 (w := .static arraycopyName) rfl
  have hinS := zat hts 6 (w := .initialized "java/lang/System") rfl
  have hwX7 : ∀ w ∈ u_ws RX7 TX7 2, w ∈ wsX7_drop := fun w h => List.mem_cons_of_mem _ (List.mem_append_right _ h)
  have hl := lv_entry ([.ref a0, .long p1]) (n := 4) (Nat.le_of_ble_eq_true rfl)
  rw [lg_entry_eq]
  generalize (lg_sl ([.ref a0, .long p1]) ++ List.replicate (4 - (lg_sl ([.ref a0, .long p1])).length) Slot.unset).toArray = ls at hl ⊢
  have hl : lv_has ls 4 [(0, .ref a0), (1, .long p1)] := hl
  refine zStart (A := A) hP (fun Q0 H locs hQ hP hS => ?_)
  unfold fX7_drop at hf
  refine lv_aload_n hx hb dX7_drop_0 rfl (lv_at hl 0 rfl) ?_
  refine lv_lload_n hx hb dX7_drop_1 rfl (lv_at hl 1 rfl) ?_
  obtain ⟨r1, hr1, hf⟩ := bd hf
  refine zVi (As := [.long p1]) (rest := []) (ci := 5) (q0 := 0) (wn := [(a0, .inr (5, [.ref a0_rows, .int v0_size])), (a0_rows, .inl (D.2 2, n0_rows, .inr (.inl g0_rows)))]) ⟨hx, hb, hml, hown, hts⟩ (cX7_below l D a0 a0_rows H.size n0_rows v0_size g0_rows p1 N r1 hr1) (cwV 1 hts gX7_drop_X7_below rfl rfl rfl (by decide +kernel) ⟨Nat.le_of_ble_eq_true rfl, Nat.le_of_ble_eq_true rfl⟩) hK hP hD hS hA [0, 1] [] [0, 1] rfl (by decide) rfl (by decide) (by decide) rfl (by decide) rfl rfl rfl hl.1 rfl (Nat.le_of_ble_eq_true rfl) dX7_drop_2 ⟨Nat.zero_le _, Nat.zero_le _⟩ (fun H locs hP hD hS => ?_)
  refine lv_istore_n (lv' := [(3, .int r1), (0, .ref a0), (1, .long p1)]) hx hb dX7_drop_5 rfl hl (by decide) rfl (fun ls hl => ?_)
  refine lv_aload_n hx hb dX7_drop_6 rfl (lv_at hl 1 rfl) ?_
  refine lv_iload_n hx hb dX7_drop_7 rfl (lv_at hl 0 rfl) ?_
  refine lv_lload_n hx hb dX7_drop_8 rfl (lv_at hl 2 rfl) ?_
  obtain ⟨r2, hr2, hf⟩ := bd hf
  refine zVz (As := [.int r1, .long p1]) (rest := []) (ci := 5) (q0 := 0) (wn := [(a0, .inr (5, [.ref a0_rows, .int v0_size])), (a0_rows, .inl (D.2 2, n0_rows, .inr (.inl g0_rows)))]) ⟨hx, hb, hml, hown, hts⟩ (cX7_isAt l D a0 a0_rows H.size n0_rows v0_size g0_rows r1 p1 r2 hr2) (cwV 2 hts gX7_drop_X7_isAt rfl rfl rfl (by decide +kernel) ⟨Nat.le_of_ble_eq_true rfl, Nat.le_of_ble_eq_true rfl⟩) hK hP hD hS hA [0, 1] [] [0, 1] rfl (by decide) rfl (by decide) (by decide) rfl (by decide) rfl rfl rfl hl.1 rfl (Nat.le_of_ble_eq_true rfl) dX7_drop_9 ⟨Nat.zero_le _, Nat.zero_le _⟩ (fun H locs hb_3 hP hD hS => ?_)
  refine lv_if_ne (tgt := 17) hx hb dX7_drop_12 (by decide) (fun c_4 => ?_) (fun c_4 => ?_)
  · replace hf := im c_4 hf
    refine lv_aload_n hx hb dX7_drop_17 rfl (lv_at hl 1 rfl) ?_
    refine lv_dup hx hb dX7_drop_18 rfl ?_
    refine va_get (D := D.1) (ci := 5) (v := .int v0_size) (C := RX7) (T := TX7) (N := 2) hx hb hts hwX7 hown hK.1 hP 0 rfl rfl 1 (by decide) l24 (fun _ h9 => h9) rfl dX7_drop_19 ?_
    refine lv_iconst (v := 1) hx hb dX7_drop_22 (by decide) ?_
    refine lv_isub hx hb dX7_drop_23 ?_
    refine va_put (D := D.1) (ci := 5) (v := .int (v0_size - (1 : Int32))) (ty := .int) (C := RX7) (T := TX7) (N := 2) hx hb hts hwX7 tyX7 tyX7_ok nmX7 hown hK.1 hP hD hS 0 rfl rfl 1 (by decide) l24 (fun _ h9 => h9) rfl (by decide +kernel) rfl rfl (Nat.le_of_ble_eq_true rfl) dX7_drop_24 (fun H locs hP hD hS => ?_)
    have hP : va_P D.1 vwCl [(a0, .inr (5, [.ref a0_rows, .int (v0_size - (1 : Int32))])), (a0_rows, .inl (D.2 2, n0_rows, .inr (.inl g0_rows)))] H := hP
    have hD : va_D A [(a0, .inr (5, [.ref a0_rows, .int (v0_size - (1 : Int32))])), (a0_rows, .inl (D.2 2, n0_rows, .inr (.inl g0_rows)))] := hD
    refine lv_aload_n hx hb dX7_drop_27 rfl (lv_at hl 1 rfl) ?_
    refine va_get (D := D.1) (ci := 5) (v := .ref a0_rows) (C := RX7) (T := TX7) (N := 2) hx hb hts hwX7 hown hK.1 hP 0 rfl rfl 0 (by decide) l18 (fun _ h9 => h9) rfl dX7_drop_28 ?_
    refine lv_iload_n hx hb dX7_drop_31 rfl (lv_at hl 0 rfl) ?_
    refine lv_iconst (v := 1) hx hb dX7_drop_32 (by decide) ?_
    refine lv_iadd hx hb dX7_drop_33 ?_
    refine lv_aload_n hx hb dX7_drop_34 rfl (lv_at hl 1 rfl) ?_
    refine va_get (D := D.1) (ci := 5) (v := .ref a0_rows) (C := RX7) (T := TX7) (N := 2) hx hb hts hwX7 hown hK.1 hP 0 rfl rfl 0 (by decide) l18 (fun _ h9 => h9) rfl dX7_drop_35 ?_
    refine lv_iload_n hx hb dX7_drop_38 rfl (lv_at hl 0 rfl) ?_
    refine lv_aload_n hx hb dX7_drop_39 rfl (lv_at hl 1 rfl) ?_
    refine va_get (D := D.1) (ci := 5) (v := .int (v0_size - (1 : Int32))) (C := RX7) (T := TX7) (N := 2) hx hb hts hwX7 hown hK.1 hP 0 rfl rfl 1 (by decide) l24 (fun _ h9 => h9) rfl dX7_drop_40 ?_
    refine lv_iload_n hx hb dX7_drop_43 rfl (lv_at hl 0 rfl) ?_
    refine lv_isub hx hb dX7_drop_44 ?_
    obtain ⟨h_5, hf⟩ := gd hf
    obtain ⟨h_6, h_7, h_8, h_9, h_10⟩ := zor5 h_5
    refine va_copyl hx hb (hml.trans hl.1.symm) hown l42 hnatA hstA hinS hK.1 hP hD hS 1 1 2 2 (ty := .long) rfl rfl rfl rfl rfl h_6 h_7 h_8 (Nat.not_lt.mp h_9) (Nat.not_lt.mp h_10) (fun _ _ => rfl) (Nat.le_of_ble_eq_true rfl) (Nat.le_of_ble_eq_true rfl) dX7_drop_45 (fun H locs hP hD hS => ?_)
    have hP : va_P D.1 vwCl [(a0, .inr (5, [.ref a0_rows, .int (v0_size - (1 : Int32))])), (a0_rows, .inl (D.2 2, n0_rows, .inr (.inl (va_cpy g0_rows g0_rows ((r1 + (1 : Int32))).toNatClampNeg (r1).toNatClampNeg (((v0_size - (1 : Int32)) - r1)).toNatClampNeg))))] H := hP
    have hD : va_D A [(a0, .inr (5, [.ref a0_rows, .int (v0_size - (1 : Int32))])), (a0_rows, .inl (D.2 2, n0_rows, .inr (.inl (va_cpy g0_rows g0_rows ((r1 + (1 : Int32))).toNatClampNeg (r1).toNatClampNeg (((v0_size - (1 : Int32)) - r1)).toNatClampNeg))))] := hD
    refine lv_iconst (v := 1) hx hb dX7_drop_48 (by decide) ?_
    have he := Option.some.inj hf
    rw [hQ]
    exact W.zret (v := (1 : Int32)) hx hb hr (znb (Or.inr rfl)) (fun t ht hW => by rw [← he]; exact ⟨⟨(1 : Int32), (), rfl, ⟨rfl, Or.inr rfl⟩, by rw [ht]; exact hP, hD⟩, hS.F ht⟩) hS.2.2 dX7_drop_49
  · replace hf := ip c_4 hf
    refine lv_iconst (v := 0) hx hb dX7_drop_15 (by decide) ?_
    have he := Option.some.inj hf
    rw [hQ]
    exact W.zret (v := (0 : Int32)) hx hb hr (znb (Or.inl rfl)) (fun t ht hW => by rw [← he]; exact ⟨⟨(0 : Int32), (), rfl, ⟨rfl, Or.inl rfl⟩, by rw [ht]; exact hP, hD⟩, hS.F ht⟩) hS.2.2 dX7_drop_16
def fX7_clear (v0_size : Int32) : Option (Int32) :=
  some ((0 : Int32))
set_option maxHeartbeats 4000000 in
set_option maxRecDepth 100000 in
theorem cX7_clear (l : Launch) (D : zG) (a0 : Nat) (sz : Nat)  (v0_size : Int32)  (res : Int32) (hf : fX7_clear v0_size = some res) : Met l yX7_clear wsX7_clear ({ frames := 0, cells := 0, slots := 0, locals := 0 } : Room) (va_Pc [.ref a0] (zW D sz [(a0, .inr (5, [.ref a0_rows, .int v0_size]))])) (va_Qv (fun (_ : Unit) => True) (fun _ => zB D (va_A [(a0, .inr (5, [.ref a0_rows, .int v0_size]))] sz) [(a0, .inr (5, [.ref a0_rows, .int res]))]) (va_A [(a0, .inr (5, [.ref a0_rows, .int v0_size]))] sz)) 0 0 (va_A [(a0, .inr (5, [.ref a0_rows, .int v0_size]))] sz) := by
  refine Met.ofW (cc := cX7_clear) (maxL := 1) (ret := none) (by decide) rfl ?_
  intro p e s m args below meth c s₁ B hml hv
  obtain ⟨rfl, hsz, hP, hK, hD0⟩ := hv
  have hx := B.exec
  have hb := B.bytes
  have hr := B.returns
  have hts := atoms_spec (ws := wsX7_clear) B.pre
  have hown : s.vm.findClass RX7 = some m.cls := findClass_of_methodNamed B.named
  have hlocks := B.notSynchronized
  subst hsz
  have hD := hD0.self (sz := s.heap.size)
  generalize hAe : va_A [(a0, .inr (5, [.ref a0_rows, .int v0_size]))] s.heap.size = A at hD ⊢
  have hA : ∀ q : Nat, s.heap.size ≤ q → A q := fun q h => by rw [← hAe]; exact Or.inr h
  have l24 := zat hts 1 (w := .fieldLink RX7 24 "TurnedWords$Rising" "size" "I") rfl
  have hwX7 : ∀ w ∈ u_ws RX7 TX7 2, w ∈ wsX7_clear := fun w h => List.mem_cons_of_mem _ (List.mem_append_right _ h)
  have hl := lv_entry ([.ref a0]) (n := 1) (Nat.le_of_ble_eq_true rfl)
  rw [lg_entry_eq]
  generalize (lg_sl ([.ref a0]) ++ List.replicate (1 - (lg_sl ([.ref a0])).length) Slot.unset).toArray = ls at hl ⊢
  have hl : lv_has ls 1 [(0, .ref a0)] := hl
  refine zStart (A := A) hP (fun Q0 H locs hQ hP hS => ?_)
  unfold fX7_clear at hf
  refine lv_aload_n hx hb dX7_clear_0 rfl (lv_at hl 0 rfl) ?_
  refine lv_iconst (v := 0) hx hb dX7_clear_1 (by decide) ?_
  refine va_put (D := D.1) (ci := 5) (v := .int (0 : Int32)) (ty := .int) (C := RX7) (T := TX7) (N := 2) hx hb hts hwX7 tyX7 tyX7_ok nmX7 hown hK.1 hP hD hS 0 rfl rfl 1 (by decide) l24 (fun _ h9 => h9) rfl (by decide +kernel) rfl rfl (Nat.le_of_ble_eq_true rfl) dX7_clear_2 (fun H locs hP hD hS => ?_)
  have hP : va_P D.1 vwCl [(a0, .inr (5, [.ref a0_rows, .int (0 : Int32)]))] H := hP
  have hD : va_D A [(a0, .inr (5, [.ref a0_rows, .int (0 : Int32)]))] := hD
  have he := Option.some.inj hf
  rw [hQ]
  exact W.vret hx hb hr (fun t ht hW => by rw [← he]; exact ⟨⟨(), rfl, trivial, by rw [ht]; exact hP, hD⟩, hS.F ht⟩) hS.2.2 dX7_clear_5
def fX7_copy (n0_rows : Nat) (n1_rows : Nat) (v0_size : Int32) (g0_rows : Nat → Int64) (v1_size : Int32) (g1_rows : Nat → Int64) : Option (Int32 × (Nat → Int64)) :=
  if (0 : Int32) < 0 ∨ (0 : Int32) < 0 ∨ (if (Int32.ofNat n0_rows) < v1_size then (Int32.ofNat n0_rows) else v1_size) < 0 ∨ n1_rows < ((0 : Int32)).toNatClampNeg + ((if (Int32.ofNat n0_rows) < v1_size then (Int32.ofNat n0_rows) else v1_size)).toNatClampNeg ∨ n0_rows < ((0 : Int32)).toNatClampNeg + ((if (Int32.ofNat n0_rows) < v1_size then (Int32.ofNat n0_rows) else v1_size)).toNatClampNeg then none else
  some ((if (Int32.ofNat n0_rows) < v1_size then (Int32.ofNat n0_rows) else v1_size), (va_cpy g1_rows g0_rows ((0 : Int32)).toNatClampNeg ((0 : Int32)).toNatClampNeg ((if (Int32.ofNat n0_rows) < v1_size then (Int32.ofNat n0_rows) else v1_size)).toNatClampNeg))
set_option maxHeartbeats 4000000 in
set_option maxRecDepth 100000 in
theorem cX7_copy (l : Launch) (D : zG) (a0 : Nat) (a0_rows : Nat) (a1 : Nat) (a1_rows : Nat) (sz : Nat) (n0_rows : Nat) (n1_rows : Nat) (v0_size : Int32) (g0_rows : Nat → Int64) (v1_size : Int32) (g1_rows : Nat → Int64)  (res : Int32 × (Nat → Int64)) (hf : fX7_copy n0_rows n1_rows v0_size g0_rows v1_size g1_rows = some res) : Met l yX7_copy wsX7_copy ({ frames := 1, cells := 0, slots := 0, locals := 40 } : Room) (va_Pc [.ref a0, .ref a1] (zW D sz [(a0, .inr (5, [.ref a0_rows, .int v0_size])), (a0_rows, .inl (D.2 2, n0_rows, .inr (.inl g0_rows))), (a1, .inr (5, [.ref a1_rows, .int v1_size])), (a1_rows, .inl (D.2 2, n1_rows, .inr (.inl g1_rows)))])) (va_Qv (fun (_ : Unit) => True) (fun _ => zB D (va_A [(a0, .inr (5, [.ref a0_rows, .int v0_size])), (a0_rows, .inl (D.2 2, n0_rows, .inr (.inl g0_rows))), (a1, .inr (5, [.ref a1_rows, .int v1_size])), (a1_rows, .inl (D.2 2, n1_rows, .inr (.inl g1_rows)))] sz) [(a0, .inr (5, [.ref a0_rows, .int res.1])), (a0_rows, .inl (D.2 2, n0_rows, .inr (.inl res.2))), (a1, .inr (5, [.ref a1_rows, .int v1_size])), (a1_rows, .inl (D.2 2, n1_rows, .inr (.inl g1_rows)))]) (va_A [(a0, .inr (5, [.ref a0_rows, .int v0_size])), (a0_rows, .inl (D.2 2, n0_rows, .inr (.inl g0_rows))), (a1, .inr (5, [.ref a1_rows, .int v1_size])), (a1_rows, .inl (D.2 2, n1_rows, .inr (.inl g1_rows)))] sz)) 0 0 (va_A [(a0, .inr (5, [.ref a0_rows, .int v0_size])), (a0_rows, .inl (D.2 2, n0_rows, .inr (.inl g0_rows))), (a1, .inr (5, [.ref a1_rows, .int v1_size])), (a1_rows, .inl (D.2 2, n1_rows, .inr (.inl g1_rows)))] sz) := by
  refine Met.ofW (cc := cX7_copy) (maxL := 2) (ret := none) (by decide) rfl ?_
  intro p e s m args below meth c s₁ B hml hv
  obtain ⟨rfl, hsz, hP, hK, hD0⟩ := hv
  have hx := B.exec
  have hb := B.bytes
  have hr := B.returns
  have hts := atoms_spec (ws := wsX7_copy) B.pre
  have hown : s.vm.findClass RX7 = some m.cls := findClass_of_methodNamed B.named
  have hlocks := B.notSynchronized
  subst hsz
  have hD := hD0.self (sz := s.heap.size)
  generalize hAe : va_A [(a0, .inr (5, [.ref a0_rows, .int v0_size])), (a0_rows, .inl (D.2 2, n0_rows, .inr (.inl g0_rows))), (a1, .inr (5, [.ref a1_rows, .int v1_size])), (a1_rows, .inl (D.2 2, n1_rows, .inr (.inl g1_rows)))] s.heap.size = A at hD ⊢
  have hA : ∀ q : Nat, s.heap.size ≤ q → A q := fun q h => by rw [← hAe]; exact Or.inr h
  have l24 := zat hts 1 (w := .fieldLink RX7 24 "TurnedWords$Rising" "size" "I") rfl
  have l18 := zat hts 2 (w := .fieldLink RX7 18 "TurnedWords$Rising" "rows" "[J") rfl
  have l9 := zat hts 3 (w := .methodLink RX7 9 Lib.Math.min.name) rfl
  have hstmin := zat hts 4 (w := .static Lib.Math.min.name) rfl
  have hinM := zat hts 5 (w := .initialized "java/lang/Math") rfl
  have hcdmin := zat hts 6 (w := .code Lib.Math.min.name Lib.Math.min.code 2 (some .int)) rfl
  have l42 := zat hts 7 (w := .methodLink RX7 42 arraycopyName) rfl
  have hnatA := zat hts 8 (w := .native arraycopyName) rfl
  have hstA := zat hts 9 (w := .static arraycopyName) rfl
  have hinS := zat hts 10 (w := .initialized "java/lang/System") rfl
  have hwX7 : ∀ w ∈ u_ws RX7 TX7 2, w ∈ wsX7_copy := fun w h => List.mem_cons_of_mem _ (List.mem_append_right _ h)
  have hl := lv_entry ([.ref a0, .ref a1]) (n := 2) (Nat.le_of_ble_eq_true rfl)
  rw [lg_entry_eq]
  generalize (lg_sl ([.ref a0, .ref a1]) ++ List.replicate (2 - (lg_sl ([.ref a0, .ref a1])).length) Slot.unset).toArray = ls at hl ⊢
  have hl : lv_has ls 2 [(0, .ref a0), (1, .ref a1)] := hl
  refine zStart (A := A) hP (fun Q0 H locs hQ hP hS => ?_)
  unfold fX7_copy at hf
  refine lv_aload_n hx hb dX7_copy_0 rfl (lv_at hl 0 rfl) ?_
  refine lv_aload_n hx hb dX7_copy_1 rfl (lv_at hl 1 rfl) ?_
  refine va_get (D := D.1) (ci := 5) (v := .int v1_size) (C := RX7) (T := TX7) (N := 2) hx hb hts hwX7 hown hK.1 hP 2 rfl rfl 1 (by decide) l24 (fun _ h9 => h9) rfl dX7_copy_2 ?_
  refine lv_aload_n hx hb dX7_copy_5 rfl (lv_at hl 0 rfl) ?_
  refine va_get (D := D.1) (ci := 5) (v := .ref a0_rows) (C := RX7) (T := TX7) (N := 2) hx hb hts hwX7 hown hK.1 hP 0 rfl rfl 0 (by decide) l18 (fun _ h9 => h9) rfl dX7_copy_6 ?_
  refine va_alen hx hb hK.1 hP 1 2 rfl rfl (v := (Int32.ofNat n0_rows)) rfl dX7_copy_9 ?_
  refine va_mmin hx hb (hml.trans hl.1.symm) hown l9 hstmin hinM hcdmin (Nat.le_of_ble_eq_true rfl) (Nat.le_of_ble_eq_true rfl) (Nat.zero_le _) (Nat.zero_le _) dX7_copy_10 ?_
  refine va_put (D := D.1) (ci := 5) (v := .int (if (Int32.ofNat n0_rows) < v1_size then (Int32.ofNat n0_rows) else v1_size)) (ty := .int) (C := RX7) (T := TX7) (N := 2) hx hb hts hwX7 tyX7 tyX7_ok nmX7 hown hK.1 hP hD hS 0 rfl rfl 1 (by decide) l24 (fun _ h9 => h9) rfl (by decide +kernel) rfl rfl (Nat.le_of_ble_eq_true rfl) dX7_copy_13 (fun H locs hP hD hS => ?_)
  have hP : va_P D.1 vwCl [(a0, .inr (5, [.ref a0_rows, .int (if (Int32.ofNat n0_rows) < v1_size then (Int32.ofNat n0_rows) else v1_size)])), (a0_rows, .inl (D.2 2, n0_rows, .inr (.inl g0_rows))), (a1, .inr (5, [.ref a1_rows, .int v1_size])), (a1_rows, .inl (D.2 2, n1_rows, .inr (.inl g1_rows)))] H := hP
  have hD : va_D A [(a0, .inr (5, [.ref a0_rows, .int (if (Int32.ofNat n0_rows) < v1_size then (Int32.ofNat n0_rows) else v1_size)])), (a0_rows, .inl (D.2 2, n0_rows, .inr (.inl g0_rows))), (a1, .inr (5, [.ref a1_rows, .int v1_size])), (a1_rows, .inl (D.2 2, n1_rows, .inr (.inl g1_rows)))] := hD
  refine lv_aload_n hx hb dX7_copy_16 rfl (lv_at hl 1 rfl) ?_
  refine va_get (D := D.1) (ci := 5) (v := .ref a1_rows) (C := RX7) (T := TX7) (N := 2) hx hb hts hwX7 hown hK.1 hP 2 rfl rfl 0 (by decide) l18 (fun _ h9 => h9) rfl dX7_copy_17 ?_
  refine lv_iconst (v := 0) hx hb dX7_copy_20 (by decide) ?_
  refine lv_aload_n hx hb dX7_copy_21 rfl (lv_at hl 0 rfl) ?_
  refine va_get (D := D.1) (ci := 5) (v := .ref a0_rows) (C := RX7) (T := TX7) (N := 2) hx hb hts hwX7 hown hK.1 hP 0 rfl rfl 0 (by decide) l18 (fun _ h9 => h9) rfl dX7_copy_22 ?_
  refine lv_iconst (v := 0) hx hb dX7_copy_25 (by decide) ?_
  refine lv_aload_n hx hb dX7_copy_26 rfl (lv_at hl 0 rfl) ?_
  refine va_get (D := D.1) (ci := 5) (v := .int (if (Int32.ofNat n0_rows) < v1_size then (Int32.ofNat n0_rows) else v1_size)) (C := RX7) (T := TX7) (N := 2) hx hb hts hwX7 hown hK.1 hP 0 rfl rfl 1 (by decide) l24 (fun _ h9 => h9) rfl dX7_copy_27 ?_
  obtain ⟨h_1, hf⟩ := gd hf
  obtain ⟨h_2, h_3, h_4, h_5, h_6⟩ := zor5 h_1
  refine va_copyl hx hb (hml.trans hl.1.symm) hown l42 hnatA hstA hinS hK.1 hP hD hS 3 1 2 2 (ty := .long) rfl rfl rfl rfl rfl h_2 h_3 h_4 (Nat.not_lt.mp h_5) (Nat.not_lt.mp h_6) (fun _ _ => rfl) (Nat.le_of_ble_eq_true rfl) (Nat.le_of_ble_eq_true rfl) dX7_copy_30 (fun H locs hP hD hS => ?_)
  have hP : va_P D.1 vwCl [(a0, .inr (5, [.ref a0_rows, .int (if (Int32.ofNat n0_rows) < v1_size then (Int32.ofNat n0_rows) else v1_size)])), (a0_rows, .inl (D.2 2, n0_rows, .inr (.inl (va_cpy g1_rows g0_rows ((0 : Int32)).toNatClampNeg ((0 : Int32)).toNatClampNeg ((if (Int32.ofNat n0_rows) < v1_size then (Int32.ofNat n0_rows) else v1_size)).toNatClampNeg)))), (a1, .inr (5, [.ref a1_rows, .int v1_size])), (a1_rows, .inl (D.2 2, n1_rows, .inr (.inl g1_rows)))] H := hP
  have hD : va_D A [(a0, .inr (5, [.ref a0_rows, .int (if (Int32.ofNat n0_rows) < v1_size then (Int32.ofNat n0_rows) else v1_size)])), (a0_rows, .inl (D.2 2, n0_rows, .inr (.inl (va_cpy g1_rows g0_rows ((0 : Int32)).toNatClampNeg ((0 : Int32)).toNatClampNeg ((if (Int32.ofNat n0_rows) < v1_size then (Int32.ofNat n0_rows) else v1_size)).toNatClampNeg)))), (a1, .inr (5, [.ref a1_rows, .int v1_size])), (a1_rows, .inl (D.2 2, n1_rows, .inr (.inl g1_rows)))] := hD
  have he := Option.some.inj hf
  rw [hQ]
  exact W.vret hx hb hr (fun t ht hW => by rw [← he]; exact ⟨⟨(), rfl, trivial, by rw [ht]; exact hP, hD⟩, hS.F ht⟩) hS.2.2 dX7_copy_33
