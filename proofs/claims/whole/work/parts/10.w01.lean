def fX0_bit (p0 : Int32) : Option (Int64) :=
  if p0 < (0 : Int32) then
    some ((0 : Int64))
  else
    if p0 < (40 : Int32) then
      some (((1 : Int64) <<< (Int32.toInt64 p0 &&& 63)))
    else
      some ((0 : Int64))
set_option maxHeartbeats 4000000 in
set_option maxRecDepth 100000 in
theorem mX0_bit (l : Launch) (D : zG)  (sz : Nat)   (p0 : Int32) (res : Int64) (hf : fX0_bit p0 = some res) : Met l yX0_bit wsX0_bit ({ frames := 0, cells := 0, slots := 0, locals := 0 } : Room) (va_Pc [.int p0] (zW D sz [])) (va_Ql (fun r (_ : Unit) => r = res) (fun _ => zB D (va_A [] sz) []) (va_A [] sz)) 0 0 (va_A [] sz) := by
  refine Met.ofW (cc := cX0_bit) (maxL := 1) (ret := (some .long)) (by decide) rfl ?_
  intro p e s m args below meth c s₁ B hml hv
  obtain ⟨rfl, hsz, hP, hK, hD0⟩ := hv
  have hx := B.exec
  have hb := B.bytes
  have hr := B.returns
  have hts := atoms_spec (ws := wsX0_bit) B.pre
  have hown : s.vm.findClass RX0 = some m.cls := findClass_of_methodNamed B.named
  have hlocks := B.notSynchronized
  subst hsz
  have hD := hD0.self (sz := s.heap.size)
  generalize hAe : va_A [] s.heap.size = A at hD ⊢
  have hA : ∀ q : Nat, s.heap.size ≤ q → A q := fun q h => by rw [← hAe]; exact Or.inr h
  have hl := lv_entry ([.int p0]) (n := 1) (Nat.le_of_ble_eq_true rfl)
  rw [lg_entry_eq]
  generalize (lg_sl ([.int p0]) ++ List.replicate (1 - (lg_sl ([.int p0])).length) Slot.unset).toArray = ls at hl ⊢
  have hl : lv_has ls 1 [(0, .int p0)] := hl
  refine zStart (A := A) hP (fun Q0 H locs hQ hP hS => ?_)
  unfold fX0_bit at hf
  refine lv_iload_n hx hb dX0_bit_0 rfl (lv_at hl 0 rfl) ?_
  refine lv_if_lt (tgt := 10) hx hb dX0_bit_1 (by decide) (fun c_1 => ?_) (fun c_1 => ?_)
  · replace hf := ip c_1 hf
    refine lv_lconst (v := 0) hx hb dX0_bit_10 (by decide) ?_
    refine lv_goto (tgt := 17) hx hb dX0_bit_11 (by decide) ?_
    have he := Option.some.inj hf
    rw [hQ]
    exact W.lret (v := (0 : Int64)) hx hb hr (fun t ht hW => by rw [← he]; exact ⟨⟨(0 : Int64), (), rfl, rfl, by rw [ht]; exact hP, hD⟩, hS.F ht⟩) hS.2.2 dX0_bit_17
  · replace hf := im c_1 hf
    refine lv_iload_n hx hb dX0_bit_4 rfl (lv_at hl 0 rfl) ?_
    refine lv_bipush (v := 40) hx hb dX0_bit_5 (by decide) ?_
    refine lv_icmp_lt (tgt := 14) hx hb dX0_bit_7 (by decide) (fun c_2 => ?_) (fun c_2 => ?_)
    · replace hf := ip c_2 hf
      refine lv_lconst (v := 1) hx hb dX0_bit_14 (by decide) ?_
      refine lv_iload_n hx hb dX0_bit_15 rfl (lv_at hl 0 rfl) ?_
      refine lv_lshl hx hb dX0_bit_16 rfl ?_
      have he := Option.some.inj hf
      rw [hQ]
      exact W.lret (v := ((1 : Int64) <<< (Int32.toInt64 p0 &&& 63))) hx hb hr (fun t ht hW => by rw [← he]; exact ⟨⟨((1 : Int64) <<< (Int32.toInt64 p0 &&& 63)), (), rfl, rfl, by rw [ht]; exact hP, hD⟩, hS.F ht⟩) hS.2.2 dX0_bit_17
    · replace hf := im c_2 hf
      refine lv_lconst (v := 0) hx hb dX0_bit_10 (by decide) ?_
      refine lv_goto (tgt := 17) hx hb dX0_bit_11 (by decide) ?_
      have he := Option.some.inj hf
      rw [hQ]
      exact W.lret (v := (0 : Int64)) hx hb hr (fun t ht hW => by rw [← he]; exact ⟨⟨(0 : Int64), (), rfl, rfl, by rw [ht]; exact hP, hD⟩, hS.F ht⟩) hS.2.2 dX0_bit_17
def fX0_has (p0 : Int64) (p2 : Int32) : Option (Int32) :=
  Option.bind (fX0_bit p2) fun r1 =>
  if (lg_cmp (p0 &&& r1) (0 : Int64)) = (0 : Int32) then
    some ((0 : Int32))
  else
    some ((1 : Int32))
set_option maxHeartbeats 4000000 in
set_option maxRecDepth 100000 in
theorem mX0_has (l : Launch) (D : zG)  (sz : Nat)   (p0 : Int64) (p2 : Int32) (res : Int32) (hf : fX0_has p0 p2 = some res) : Met l yX0_has wsX0_has ({ frames := 1, cells := 0, slots := 0, locals := 20 } : Room) (va_Pc [.long p0, .int p2] (zW D sz [])) (va_Qi (fun r (_ : Unit) => r = res ∧ (r = 0 ∨ r = 1)) (fun _ => zB D (va_A [] sz) []) (va_A [] sz)) 0 0 (va_A [] sz) := by
  refine Met.ofW (cc := cX0_has) (maxL := 3) (ret := (some .boolean)) (by decide) rfl ?_
  intro p e s m args below meth c s₁ B hml hv
  obtain ⟨rfl, hsz, hP, hK, hD0⟩ := hv
  have hx := B.exec
  have hb := B.bytes
  have hr := B.returns
  have hts := atoms_spec (ws := wsX0_has) B.pre
  have hown : s.vm.findClass RX0 = some m.cls := findClass_of_methodNamed B.named
  have hlocks := B.notSynchronized
  subst hsz
  have hD := hD0.self (sz := s.heap.size)
  generalize hAe : va_A [] s.heap.size = A at hD ⊢
  have hA : ∀ q : Nat, s.heap.size ≤ q → A q := fun q h => by rw [← hAe]; exact Or.inr h
  have hl := lv_entry ([.long p0, .int p2]) (n := 3) (Nat.le_of_ble_eq_true rfl)
  rw [lg_entry_eq]
  generalize (lg_sl ([.long p0, .int p2]) ++ List.replicate (3 - (lg_sl ([.long p0, .int p2])).length) Slot.unset).toArray = ls at hl ⊢
  have hl : lv_has ls 3 [(0, .long p0), (2, .int p2)] := hl
  refine zStart (A := A) hP (fun Q0 H locs hQ hP hS => ?_)
  unfold fX0_has at hf
  refine lv_lload_n hx hb dX0_has_0 rfl (lv_at hl 0 rfl) ?_
  refine lv_iload_n hx hb dX0_has_1 rfl (lv_at hl 1 rfl) ?_
  obtain ⟨r1, hr1, hf⟩ := bd hf
  refine zSl (As := [.int p2]) (rest := [.long p0]) (wn := []) ⟨hx, hb, hml, hown, hts⟩ (mX0_bit l D H.size p2 r1 hr1) (va_cwS 1 hts gX0_has_X0_bit rfl rfl rfl (by decide +kernel) ⟨Nat.le_of_ble_eq_true rfl, Nat.le_of_ble_eq_true rfl⟩) hK hP hD hS hA [] [] [] rfl (by decide) rfl (by decide) (by decide) rfl (by decide) rfl hl.1 rfl (Nat.le_of_ble_eq_true rfl) dX0_has_2 ⟨Nat.zero_le _, Nat.zero_le _⟩ (fun H locs hP hD hS => ?_)
  refine lv_land hx hb dX0_has_5 ?_
  refine lv_lconst (v := 0) hx hb dX0_has_6 (by decide) ?_
  refine W.lcmp hx hb dX0_has_7 ?_
  refine lv_if_eq (tgt := 15) hx hb dX0_has_8 (by decide) (fun c_2 => ?_) (fun c_2 => ?_)
  · replace hf := ip c_2 hf
    refine lv_iconst (v := 0) hx hb dX0_has_15 (by decide) ?_
    have he := Option.some.inj hf
    rw [hQ]
    exact W.zret (v := (0 : Int32)) hx hb hr (znb (Or.inl rfl)) (fun t ht hW => by rw [← he]; exact ⟨⟨(0 : Int32), (), rfl, ⟨rfl, Or.inl rfl⟩, by rw [ht]; exact hP, hD⟩, hS.F ht⟩) hS.2.2 dX0_has_16
  · replace hf := im c_2 hf
    refine lv_iconst (v := 1) hx hb dX0_has_11 (by decide) ?_
    refine lv_goto (tgt := 16) hx hb dX0_has_12 (by decide) ?_
    have he := Option.some.inj hf
    rw [hQ]
    exact W.zret (v := (1 : Int32)) hx hb hr (znb (Or.inr rfl)) (fun t ht hW => by rw [← he]; exact ⟨⟨(1 : Int32), (), rfl, ⟨rfl, Or.inr rfl⟩, by rw [ht]; exact hP, hD⟩, hS.F ht⟩) hS.2.2 dX0_has_16
def fX0_numberOf_5 (N : Nat) (p0 : Int64) (p2 : Int32) : Nat → Int32 → Int32 → Option (Int32)
  | 0, _, _ => none
  | K + 1, x3, x4 =>
    if (40 : Int32) ≤ x4 then
      some ((-1 : Int32))
    else
      Option.bind (fX0_has p0 x4) fun r2 =>
      if r2 = (0 : Int32) then
        (fX0_numberOf_5 N p0 p2 K) x3 (x4 + (1 : Int32))
      else
        if x3 = p2 then
          some (x4)
        else
          (fX0_numberOf_5 N p0 p2 K) (x3 + (1 : Int32)) (x4 + (1 : Int32))
def fX0_numberOf (N : Nat) (p0 : Int64) (p2 : Int32) : Option (Int32) :=
  fX0_numberOf_5 N p0 p2 N (0 : Int32) (0 : Int32)
set_option maxHeartbeats 4000000 in
set_option maxRecDepth 100000 in
theorem mX0_numberOf (l : Launch) (D : zG)  (sz : Nat)   (p0 : Int64) (p2 : Int32) (N : Nat) (res : Int32) (hf : fX0_numberOf N p0 p2 = some res) : Met l yX0_numberOf wsX0_numberOf ({ frames := 2, cells := 0, slots := 0, locals := 42 } : Room) (va_Pc [.long p0, .int p2] (zW D sz [])) (va_Qi (fun r (_ : Unit) => r = res) (fun _ => zB D (va_A [] sz) []) (va_A [] sz)) 0 0 (va_A [] sz) := by
  refine Met.ofW (cc := cX0_numberOf) (maxL := 5) (ret := (some .int)) (by decide) rfl ?_
  intro p e s m args below meth c s₁ B hml hv
  obtain ⟨rfl, hsz, hP, hK, hD0⟩ := hv
  have hx := B.exec
  have hb := B.bytes
  have hr := B.returns
  have hts := atoms_spec (ws := wsX0_numberOf) B.pre
  have hown : s.vm.findClass RX0 = some m.cls := findClass_of_methodNamed B.named
  have hlocks := B.notSynchronized
  subst hsz
  have hD := hD0.self (sz := s.heap.size)
  generalize hAe : va_A [] s.heap.size = A at hD ⊢
  have hA : ∀ q : Nat, s.heap.size ≤ q → A q := fun q h => by rw [← hAe]; exact Or.inr h
  have hl := lv_entry ([.long p0, .int p2]) (n := 5) (Nat.le_of_ble_eq_true rfl)
  rw [lg_entry_eq]
  generalize (lg_sl ([.long p0, .int p2]) ++ List.replicate (5 - (lg_sl ([.long p0, .int p2])).length) Slot.unset).toArray = ls at hl ⊢
  have hl : lv_has ls 5 [(0, .long p0), (2, .int p2)] := hl
  refine zStart (A := A) hP (fun Q0 H locs hQ hP hS => ?_)
  have k5 : ∀ K : Nat, ∀ (x3 : Int32) (x4 : Int32) (H : Heap) (locs : List Loc) (ls : Array Slot), fX0_numberOf_5 N p0 p2 K x3 x4 = some res → va_P D.1 vwCl [] H → va_D A [] → va_S A s.heap H locs → lv_has ls 5 [(0, .long p0), (2, .int p2), (3, .int x3), (4, .int x4)] → W p l e (headSpec wsX0_numberOf ({ frames := 2, cells := 0, slots := 0, locals := 42 } : Room)).room s m ([.long p0, .int p2] : List Value).toArray below meth c H locs 0 0 Q0 (F0 m 5 ls []) := by
    intro K
    induction K with
    | zero =>
      intro x3 x4 H locs ls hf
      rw [fX0_numberOf_5] at hf
      cases hf
    | succ K ih =>
      intro x3 x4 H locs ls hf hP hD hS hl
      rw [fX0_numberOf_5] at hf
      refine lv_iload hx hb dX0_numberOf_5 (lv_at hl 3 rfl) ?_
      refine lv_bipush (v := 40) hx hb dX0_numberOf_7 (by decide) ?_
      refine lv_icmp_ge (tgt := 38) hx hb dX0_numberOf_9 (by decide) (fun c_1 => ?_) (fun c_1 => ?_)
      · replace hf := ip c_1 hf
        refine lv_iconst (v := -1) hx hb dX0_numberOf_38 (by decide) ?_
        have he := Option.some.inj hf
        rw [hQ]
        exact W.iret (v := (-1 : Int32)) hx hb hr (fun t ht hW => by rw [← he]; exact ⟨⟨(-1 : Int32), (), rfl, rfl, by rw [ht]; exact hP, hD⟩, hS.F ht⟩) hS.2.2 dX0_numberOf_39
      · replace hf := im c_1 hf
        refine lv_lload_n hx hb dX0_numberOf_12 rfl (lv_at hl 0 rfl) ?_
        refine lv_iload hx hb dX0_numberOf_13 (lv_at hl 3 rfl) ?_
        obtain ⟨r2, hr2, hf⟩ := bd hf
        refine zSz (As := [.long p0, .int x4]) (rest := []) (wn := []) ⟨hx, hb, hml, hown, hts⟩ (mX0_has l D H.size p0 x4 r2 hr2) (va_cwS 2 hts gX0_numberOf_X0_has rfl rfl rfl (by decide +kernel) ⟨Nat.le_of_ble_eq_true rfl, Nat.le_of_ble_eq_true rfl⟩) hK hP hD hS hA [] [] [] rfl (by decide) rfl (by decide) (by decide) rfl (by decide) rfl hl.1 rfl (Nat.le_of_ble_eq_true rfl) dX0_numberOf_15 ⟨Nat.zero_le _, Nat.zero_le _⟩ (fun H locs hb_3 hP hD hS => ?_)
        refine lv_if_eq (tgt := 32) hx hb dX0_numberOf_18 (by decide) (fun c_4 => ?_) (fun c_4 => ?_)
        · replace hf := ip c_4 hf
          refine lv_iinc (v := (x4 + (1 : Int32))) (lv' := [(4, .int (x4 + (1 : Int32))), (0, .long p0), (2, .int p2), (3, .int x3)]) hx hb dX0_numberOf_32 hl (k := 3) rfl rfl (by decide) rfl (fun ls hl => ?_)
          refine lv_goto (tgt := 5) hx hb dX0_numberOf_35 (by decide) ?_
          exact ih x3 (x4 + (1 : Int32)) H locs ls hf hP hD hS (lv_sub hl [1, 2, 3, 0] rfl)
        · replace hf := im c_4 hf
          refine lv_iload_n hx hb dX0_numberOf_21 rfl (lv_at hl 2 rfl) ?_
          refine lv_iload_n hx hb dX0_numberOf_22 rfl (lv_at hl 1 rfl) ?_
          refine lv_icmp_ne (tgt := 29) hx hb dX0_numberOf_23 (by decide) (fun c_5 => ?_) (fun c_5 => ?_)
          · replace hf := im c_5 hf
            refine lv_iinc (v := (x3 + (1 : Int32))) (lv' := [(3, .int (x3 + (1 : Int32))), (0, .long p0), (2, .int p2), (4, .int x4)]) hx hb dX0_numberOf_29 hl (k := 2) rfl rfl (by decide) rfl (fun ls hl => ?_)
            refine lv_iinc (v := (x4 + (1 : Int32))) (lv' := [(4, .int (x4 + (1 : Int32))), (3, .int (x3 + (1 : Int32))), (0, .long p0), (2, .int p2)]) hx hb dX0_numberOf_32 hl (k := 3) rfl rfl (by decide) rfl (fun ls hl => ?_)
            refine lv_goto (tgt := 5) hx hb dX0_numberOf_35 (by decide) ?_
            exact ih (x3 + (1 : Int32)) (x4 + (1 : Int32)) H locs ls hf hP hD hS (lv_sub hl [2, 3, 1, 0] rfl)
          · replace hf := ip c_5 hf
            refine lv_iload hx hb dX0_numberOf_26 (lv_at hl 3 rfl) ?_
            have he := Option.some.inj hf
            rw [hQ]
            exact W.iret (v := x4) hx hb hr (fun t ht hW => by rw [← he]; exact ⟨⟨x4, (), rfl, rfl, by rw [ht]; exact hP, hD⟩, hS.F ht⟩) hS.2.2 dX0_numberOf_28
  unfold fX0_numberOf at hf
  refine lv_iconst (v := 0) hx hb dX0_numberOf_0 (by decide) ?_
  refine lv_istore_n (lv' := [(3, .int (0 : Int32)), (0, .long p0), (2, .int p2)]) hx hb dX0_numberOf_1 rfl hl (by decide) rfl (fun ls hl => ?_)
  refine lv_iconst (v := 0) hx hb dX0_numberOf_2 (by decide) ?_
  refine lv_istore (lv' := [(4, .int (0 : Int32)), (3, .int (0 : Int32)), (0, .long p0), (2, .int p2)]) hx hb dX0_numberOf_3 hl (by decide) rfl (fun ls hl => ?_)
  exact k5 N (0 : Int32) (0 : Int32) H locs ls hf hP hD hS (lv_sub hl [2, 3, 1, 0] rfl)
def fX1_init  : Option (Int32 × Int32 × Int32 × Int32 × (Nat → Int32) × (Nat → Int32) × (Nat → Int32) × (Nat → Int32) × (Nat → Int64)) :=
  some ((0 : Int32), (0 : Int32), (0 : Int32), (0 : Int32), (fun _ => (0 : Int32)), (fun _ => (0 : Int32)), (fun _ => (0 : Int32)), (fun _ => (0 : Int32)), (fun _ => (0 : Int64)))
set_option maxHeartbeats 4000000 in
set_option maxRecDepth 100000 in
theorem mX1_init (l : Launch) (D : zG) (a0 : Nat) (sz : Nat)    (res : Int32 × Int32 × Int32 × Int32 × (Nat → Int32) × (Nat → Int32) × (Nat → Int32) × (Nat → Int32) × (Nat → Int64)) (hf : fX1_init = some res) : Met l yX1_init wsX1_init ({ frames := 1, cells := 5, slots := 65, locals := 12 } : Room) (va_Pc [.ref a0] (zW D sz [(a0, .inr (0, [.null, .null, .null, .null, .null, .int (0 : Int32), .int (0 : Int32), .int (0 : Int32), .int (0 : Int32)]))])) (va_Qv (fun (_ : Nat × Nat × Nat × Nat × Nat) => True) (fun u => zB D (va_A [(a0, .inr (0, [.null, .null, .null, .null, .null, .int (0 : Int32), .int (0 : Int32), .int (0 : Int32), .int (0 : Int32)]))] sz) [(a0, .inr (0, [.ref u.1, .ref u.2.1, .ref u.2.2.1, .ref u.2.2.2.1, .ref u.2.2.2.2, .int res.1, .int res.2.1, .int res.2.2.1, .int res.2.2.2.1])), (u.1, .inl (D.2 1, 13, .inl res.2.2.2.2.1)), (u.2.1, .inl (D.2 1, 13, .inl res.2.2.2.2.2.1)), (u.2.2.1, .inl (D.2 1, 13, .inl res.2.2.2.2.2.2.1)), (u.2.2.2.1, .inl (D.2 1, 13, .inl res.2.2.2.2.2.2.2.1)), (u.2.2.2.2, .inl (D.2 2, 13, .inr (.inl res.2.2.2.2.2.2.2.2)))]) (va_A [(a0, .inr (0, [.null, .null, .null, .null, .null, .int (0 : Int32), .int (0 : Int32), .int (0 : Int32), .int (0 : Int32)]))] sz)) 5 65 (va_A [(a0, .inr (0, [.null, .null, .null, .null, .null, .int (0 : Int32), .int (0 : Int32), .int (0 : Int32), .int (0 : Int32)]))] sz) := by
  refine Met.ofW (cc := cX1_init) (maxL := 1) (ret := none) (by decide) rfl ?_
  intro p e s m args below meth c s₁ B hml hv
  obtain ⟨rfl, hsz, hP, hK, hD0⟩ := hv
  have hx := B.exec
  have hb := B.bytes
  have hr := B.returns
  have hts := atoms_spec (ws := wsX1_init) B.pre
  have hown : s.vm.findClass RX1 = some m.cls := findClass_of_methodNamed B.named
  have hlocks := B.notSynchronized
  have hin : meth.name = "<init>" := (name_of_methodNamed B.named B.method).1
  subst hsz
  have hD := hD0.self (sz := s.heap.size)
  generalize hAe : va_A [(a0, .inr (0, [.null, .null, .null, .null, .null, .int (0 : Int32), .int (0 : Int32), .int (0 : Int32), .int (0 : Int32)]))] s.heap.size = A at hD ⊢
  have hA : ∀ q : Nat, s.heap.size ≤ q → A q := fun q h => by rw [← hAe]; exact Or.inr h
  have l3 := zat hts 1 (w := .methodLink RX1 3 objectInit) rfl
  have hobji := zat hts 2 (w := .instanceMethod objectInit) rfl
  have hobjc := zat hts 3 (w := .code objectInit ⟨#[0xb1]⟩ 1 none) rfl
  have harrI := zat hts 4 (w := .arrayClass .int) rfl
  have l9 := zat hts 5 (w := .fieldLink RX1 9 "TurnedWords$Cut" "signs" "[I") rfl
  have l15 := zat hts 6 (w := .fieldLink RX1 15 "TurnedWords$Cut" "starts" "[I") rfl
  have l18 := zat hts 7 (w := .fieldLink RX1 18 "TurnedWords$Cut" "lengths" "[I") rfl
  have l21 := zat hts 8 (w := .fieldLink RX1 21 "TurnedWords$Cut" "piecesOfRuns" "[I") rfl
  have harrJ := zat hts 9 (w := .arrayClass .long) rfl
  have l24 := zat hts 10 (w := .fieldLink RX1 24 "TurnedWords$Cut" "heads" "[J") rfl
  have hwX1 : ∀ w ∈ u_ws RX1 TX1 9, w ∈ wsX1_init := fun w h => List.mem_cons_of_mem _ (List.mem_append_right _ h)
  have hl := lv_entry ([.ref a0]) (n := 1) (Nat.le_of_ble_eq_true rfl)
  rw [lg_entry_eq]
  generalize (lg_sl ([.ref a0]) ++ List.replicate (1 - (lg_sl ([.ref a0])).length) Slot.unset).toArray = ls at hl ⊢
  have hl : lv_has ls 1 [(0, .ref a0)] := hl
  refine zStart (A := A) hP (fun Q0 H locs hQ hP hS => ?_)
  unfold fX1_init at hf
  refine lv_aload_n hx hb dX1_init_0 rfl (lv_at hl 0 rfl) ?_
  refine W.objInit hx hb hown l3 hobji hobjc rfl (by rw [hml]; exact hl.1) rfl dX1_init_1 (Nat.le_of_ble_eq_true rfl) (Nat.le_of_ble_eq_true rfl) ?_
  refine W.eq (g2 := F0 m 4 ls []) rfl ?_
  refine lv_aload_n hx hb dX1_init_4 rfl (lv_at hl 0 rfl) ?_
  refine lv_bipush (v := 13) hx hb dX1_init_5 (by decide) ?_
  refine va_newa (atype := .int) (n := (13 : Int32)) (a0 := (13, .inl (fun _ => (0 : Int32)))) hx hb harrI rfl hK.1 hP hD hS hA (fun _ => rfl) (by decide) (by decide) (Nat.le_of_ble_eq_true rfl) (Nat.le_of_ble_eq_true rfl) (Nat.le_of_ble_eq_true rfl) dX1_init_7 (fun q1 cA2 H hK9 hP hD hS => ?_)
  obtain rfl := zsame hK9 1 rfl (fun _ h => h)
  have hP : va_P D.1 vwCl [(a0, .inr (0, [.null, .null, .null, .null, .null, .int (0 : Int32), .int (0 : Int32), .int (0 : Int32), .int (0 : Int32)])), (q1, .inl (D.2 1, 13, .inl (fun _ => (0 : Int32))))] H := hP
  have hD : va_D A [(a0, .inr (0, [.null, .null, .null, .null, .null, .int (0 : Int32), .int (0 : Int32), .int (0 : Int32), .int (0 : Int32)])), (q1, .inl (D.2 1, 13, .inl (fun _ => (0 : Int32))))] := hD
  refine W.widen (k := 1) (n := 13) (Nat.le_of_ble_eq_true rfl) (Nat.le_of_ble_eq_true rfl) ?_
  refine va_putF (D := D.1) (ci := 0) (v := .ref q1) (ty := (.array .int)) (C := RX1) (T := TX1) (N := 9) hx hb hts hwX1 tyX1 tyX1_ok nmX1 hown hK.1 hP hD hS 0 rfl rfl 0 (by decide) l9 (fun _ h9 => h9) rfl hin rfl (by decide +kernel) rfl rfl (Nat.le_of_ble_eq_true rfl) dX1_init_9 (fun H locs hP hD hS => ?_)
  have hP : va_P D.1 vwCl [(a0, .inr (0, [.ref q1, .null, .null, .null, .null, .int (0 : Int32), .int (0 : Int32), .int (0 : Int32), .int (0 : Int32)])), (q1, .inl (D.2 1, 13, .inl (fun _ => (0 : Int32))))] H := hP
  have hD : va_D A [(a0, .inr (0, [.ref q1, .null, .null, .null, .null, .int (0 : Int32), .int (0 : Int32), .int (0 : Int32), .int (0 : Int32)])), (q1, .inl (D.2 1, 13, .inl (fun _ => (0 : Int32))))] := hD
  refine lv_aload_n hx hb dX1_init_12 rfl (lv_at hl 0 rfl) ?_
  refine lv_bipush (v := 13) hx hb dX1_init_13 (by decide) ?_
  refine va_newa (atype := .int) (n := (13 : Int32)) (a0 := (13, .inl (fun _ => (0 : Int32)))) hx hb harrI rfl hK.1 hP hD hS hA (fun _ => rfl) (by decide) (by decide) (Nat.le_of_ble_eq_true rfl) (Nat.le_of_ble_eq_true rfl) (Nat.le_of_ble_eq_true rfl) dX1_init_15 (fun q3 cA4 H hK9 hP hD hS => ?_)
  obtain rfl := zsame hK9 1 rfl (fun _ h => h)
  have hP : va_P D.1 vwCl [(a0, .inr (0, [.ref q1, .null, .null, .null, .null, .int (0 : Int32), .int (0 : Int32), .int (0 : Int32), .int (0 : Int32)])), (q1, .inl (D.2 1, 13, .inl (fun _ => (0 : Int32)))), (q3, .inl (D.2 1, 13, .inl (fun _ => (0 : Int32))))] H := hP
  have hD : va_D A [(a0, .inr (0, [.ref q1, .null, .null, .null, .null, .int (0 : Int32), .int (0 : Int32), .int (0 : Int32), .int (0 : Int32)])), (q1, .inl (D.2 1, 13, .inl (fun _ => (0 : Int32)))), (q3, .inl (D.2 1, 13, .inl (fun _ => (0 : Int32))))] := hD
  refine W.widen (k := 2) (n := 26) (Nat.le_of_ble_eq_true rfl) (Nat.le_of_ble_eq_true rfl) ?_
  refine va_putF (D := D.1) (ci := 0) (v := .ref q3) (ty := (.array .int)) (C := RX1) (T := TX1) (N := 9) hx hb hts hwX1 tyX1 tyX1_ok nmX1 hown hK.1 hP hD hS 0 rfl rfl 1 (by decide) l15 (fun _ h9 => h9) rfl hin rfl (by decide +kernel) rfl rfl (Nat.le_of_ble_eq_true rfl) dX1_init_17 (fun H locs hP hD hS => ?_)
  have hP : va_P D.1 vwCl [(a0, .inr (0, [.ref q1, .ref q3, .null, .null, .null, .int (0 : Int32), .int (0 : Int32), .int (0 : Int32), .int (0 : Int32)])), (q1, .inl (D.2 1, 13, .inl (fun _ => (0 : Int32)))), (q3, .inl (D.2 1, 13, .inl (fun _ => (0 : Int32))))] H := hP
  have hD : va_D A [(a0, .inr (0, [.ref q1, .ref q3, .null, .null, .null, .int (0 : Int32), .int (0 : Int32), .int (0 : Int32), .int (0 : Int32)])), (q1, .inl (D.2 1, 13, .inl (fun _ => (0 : Int32)))), (q3, .inl (D.2 1, 13, .inl (fun _ => (0 : Int32))))] := hD
  refine lv_aload_n hx hb dX1_init_20 rfl (lv_at hl 0 rfl) ?_
  refine lv_bipush (v := 13) hx hb dX1_init_21 (by decide) ?_
  refine va_newa (atype := .int) (n := (13 : Int32)) (a0 := (13, .inl (fun _ => (0 : Int32)))) hx hb harrI rfl hK.1 hP hD hS hA (fun _ => rfl) (by decide) (by decide) (Nat.le_of_ble_eq_true rfl) (Nat.le_of_ble_eq_true rfl) (Nat.le_of_ble_eq_true rfl) dX1_init_23 (fun q5 cA6 H hK9 hP hD hS => ?_)
  obtain rfl := zsame hK9 1 rfl (fun _ h => h)
  have hP : va_P D.1 vwCl [(a0, .inr (0, [.ref q1, .ref q3, .null, .null, .null, .int (0 : Int32), .int (0 : Int32), .int (0 : Int32), .int (0 : Int32)])), (q1, .inl (D.2 1, 13, .inl (fun _ => (0 : Int32)))), (q3, .inl (D.2 1, 13, .inl (fun _ => (0 : Int32)))), (q5, .inl (D.2 1, 13, .inl (fun _ => (0 : Int32))))] H := hP
  have hD : va_D A [(a0, .inr (0, [.ref q1, .ref q3, .null, .null, .null, .int (0 : Int32), .int (0 : Int32), .int (0 : Int32), .int (0 : Int32)])), (q1, .inl (D.2 1, 13, .inl (fun _ => (0 : Int32)))), (q3, .inl (D.2 1, 13, .inl (fun _ => (0 : Int32)))), (q5, .inl (D.2 1, 13, .inl (fun _ => (0 : Int32))))] := hD
  refine W.widen (k := 3) (n := 39) (Nat.le_of_ble_eq_true rfl) (Nat.le_of_ble_eq_true rfl) ?_
  refine va_putF (D := D.1) (ci := 0) (v := .ref q5) (ty := (.array .int)) (C := RX1) (T := TX1) (N := 9) hx hb hts hwX1 tyX1 tyX1_ok nmX1 hown hK.1 hP hD hS 0 rfl rfl 2 (by decide) l18 (fun _ h9 => h9) rfl hin rfl (by decide +kernel) rfl rfl (Nat.le_of_ble_eq_true rfl) dX1_init_25 (fun H locs hP hD hS => ?_)
  have hP : va_P D.1 vwCl [(a0, .inr (0, [.ref q1, .ref q3, .ref q5, .null, .null, .int (0 : Int32), .int (0 : Int32), .int (0 : Int32), .int (0 : Int32)])), (q1, .inl (D.2 1, 13, .inl (fun _ => (0 : Int32)))), (q3, .inl (D.2 1, 13, .inl (fun _ => (0 : Int32)))), (q5, .inl (D.2 1, 13, .inl (fun _ => (0 : Int32))))] H := hP
  have hD : va_D A [(a0, .inr (0, [.ref q1, .ref q3, .ref q5, .null, .null, .int (0 : Int32), .int (0 : Int32), .int (0 : Int32), .int (0 : Int32)])), (q1, .inl (D.2 1, 13, .inl (fun _ => (0 : Int32)))), (q3, .inl (D.2 1, 13, .inl (fun _ => (0 : Int32)))), (q5, .inl (D.2 1, 13, .inl (fun _ => (0 : Int32))))] := hD
  refine lv_aload_n hx hb dX1_init_28 rfl (lv_at hl 0 rfl) ?_
  refine lv_bipush (v := 13) hx hb dX1_init_29 (by decide) ?_
  refine va_newa (atype := .int) (n := (13 : Int32)) (a0 := (13, .inl (fun _ => (0 : Int32)))) hx hb harrI rfl hK.1 hP hD hS hA (fun _ => rfl) (by decide) (by decide) (Nat.le_of_ble_eq_true rfl) (Nat.le_of_ble_eq_true rfl) (Nat.le_of_ble_eq_true rfl) dX1_init_31 (fun q7 cA8 H hK9 hP hD hS => ?_)
  obtain rfl := zsame hK9 1 rfl (fun _ h => h)
  have hP : va_P D.1 vwCl [(a0, .inr (0, [.ref q1, .ref q3, .ref q5, .null, .null, .int (0 : Int32), .int (0 : Int32), .int (0 : Int32), .int (0 : Int32)])), (q1, .inl (D.2 1, 13, .inl (fun _ => (0 : Int32)))), (q3, .inl (D.2 1, 13, .inl (fun _ => (0 : Int32)))), (q5, .inl (D.2 1, 13, .inl (fun _ => (0 : Int32)))), (q7, .inl (D.2 1, 13, .inl (fun _ => (0 : Int32))))] H := hP
  have hD : va_D A [(a0, .inr (0, [.ref q1, .ref q3, .ref q5, .null, .null, .int (0 : Int32), .int (0 : Int32), .int (0 : Int32), .int (0 : Int32)])), (q1, .inl (D.2 1, 13, .inl (fun _ => (0 : Int32)))), (q3, .inl (D.2 1, 13, .inl (fun _ => (0 : Int32)))), (q5, .inl (D.2 1, 13, .inl (fun _ => (0 : Int32)))), (q7, .inl (D.2 1, 13, .inl (fun _ => (0 : Int32))))] := hD
  refine W.widen (k := 4) (n := 52) (Nat.le_of_ble_eq_true rfl) (Nat.le_of_ble_eq_true rfl) ?_
  refine va_putF (D := D.1) (ci := 0) (v := .ref q7) (ty := (.array .int)) (C := RX1) (T := TX1) (N := 9) hx hb hts hwX1 tyX1 tyX1_ok nmX1 hown hK.1 hP hD hS 0 rfl rfl 3 (by decide) l21 (fun _ h9 => h9) rfl hin rfl (by decide +kernel) rfl rfl (Nat.le_of_ble_eq_true rfl) dX1_init_33 (fun H locs hP hD hS => ?_)
  have hP : va_P D.1 vwCl [(a0, .inr (0, [.ref q1, .ref q3, .ref q5, .ref q7, .null, .int (0 : Int32), .int (0 : Int32), .int (0 : Int32), .int (0 : Int32)])), (q1, .inl (D.2 1, 13, .inl (fun _ => (0 : Int32)))), (q3, .inl (D.2 1, 13, .inl (fun _ => (0 : Int32)))), (q5, .inl (D.2 1, 13, .inl (fun _ => (0 : Int32)))), (q7, .inl (D.2 1, 13, .inl (fun _ => (0 : Int32))))] H := hP
  have hD : va_D A [(a0, .inr (0, [.ref q1, .ref q3, .ref q5, .ref q7, .null, .int (0 : Int32), .int (0 : Int32), .int (0 : Int32), .int (0 : Int32)])), (q1, .inl (D.2 1, 13, .inl (fun _ => (0 : Int32)))), (q3, .inl (D.2 1, 13, .inl (fun _ => (0 : Int32)))), (q5, .inl (D.2 1, 13, .inl (fun _ => (0 : Int32)))), (q7, .inl (D.2 1, 13, .inl (fun _ => (0 : Int32))))] := hD
  refine lv_aload_n hx hb dX1_init_36 rfl (lv_at hl 0 rfl) ?_
  refine lv_bipush (v := 13) hx hb dX1_init_37 (by decide) ?_
  refine va_newa (atype := .long) (n := (13 : Int32)) (a0 := (13, .inr (.inl (fun _ => (0 : Int64))))) hx hb harrJ rfl hK.1 hP hD hS hA (fun _ => rfl) (by decide) (by decide) (Nat.le_of_ble_eq_true rfl) (Nat.le_of_ble_eq_true rfl) (Nat.le_of_ble_eq_true rfl) dX1_init_39 (fun q9 cA10 H hK9 hP hD hS => ?_)
  obtain rfl := zsame hK9 2 rfl (fun _ h => h)
  have hP : va_P D.1 vwCl [(a0, .inr (0, [.ref q1, .ref q3, .ref q5, .ref q7, .null, .int (0 : Int32), .int (0 : Int32), .int (0 : Int32), .int (0 : Int32)])), (q1, .inl (D.2 1, 13, .inl (fun _ => (0 : Int32)))), (q3, .inl (D.2 1, 13, .inl (fun _ => (0 : Int32)))), (q5, .inl (D.2 1, 13, .inl (fun _ => (0 : Int32)))), (q7, .inl (D.2 1, 13, .inl (fun _ => (0 : Int32)))), (q9, .inl (D.2 2, 13, .inr (.inl (fun _ => (0 : Int64)))))] H := hP
  have hD : va_D A [(a0, .inr (0, [.ref q1, .ref q3, .ref q5, .ref q7, .null, .int (0 : Int32), .int (0 : Int32), .int (0 : Int32), .int (0 : Int32)])), (q1, .inl (D.2 1, 13, .inl (fun _ => (0 : Int32)))), (q3, .inl (D.2 1, 13, .inl (fun _ => (0 : Int32)))), (q5, .inl (D.2 1, 13, .inl (fun _ => (0 : Int32)))), (q7, .inl (D.2 1, 13, .inl (fun _ => (0 : Int32)))), (q9, .inl (D.2 2, 13, .inr (.inl (fun _ => (0 : Int64)))))] := hD
  refine W.widen (k := 5) (n := 65) (Nat.le_of_ble_eq_true rfl) (Nat.le_of_ble_eq_true rfl) ?_
  refine va_putF (D := D.1) (ci := 0) (v := .ref q9) (ty := (.array .long)) (C := RX1) (T := TX1) (N := 9) hx hb hts hwX1 tyX1 tyX1_ok nmX1 hown hK.1 hP hD hS 0 rfl rfl 4 (by decide) l24 (fun _ h9 => h9) rfl hin rfl (by decide +kernel) rfl rfl (Nat.le_of_ble_eq_true rfl) dX1_init_41 (fun H locs hP hD hS => ?_)
  have hP : va_P D.1 vwCl [(a0, .inr (0, [.ref q1, .ref q3, .ref q5, .ref q7, .ref q9, .int (0 : Int32), .int (0 : Int32), .int (0 : Int32), .int (0 : Int32)])), (q1, .inl (D.2 1, 13, .inl (fun _ => (0 : Int32)))), (q3, .inl (D.2 1, 13, .inl (fun _ => (0 : Int32)))), (q5, .inl (D.2 1, 13, .inl (fun _ => (0 : Int32)))), (q7, .inl (D.2 1, 13, .inl (fun _ => (0 : Int32)))), (q9, .inl (D.2 2, 13, .inr (.inl (fun _ => (0 : Int64)))))] H := hP
  have hD : va_D A [(a0, .inr (0, [.ref q1, .ref q3, .ref q5, .ref q7, .ref q9, .int (0 : Int32), .int (0 : Int32), .int (0 : Int32), .int (0 : Int32)])), (q1, .inl (D.2 1, 13, .inl (fun _ => (0 : Int32)))), (q3, .inl (D.2 1, 13, .inl (fun _ => (0 : Int32)))), (q5, .inl (D.2 1, 13, .inl (fun _ => (0 : Int32)))), (q7, .inl (D.2 1, 13, .inl (fun _ => (0 : Int32)))), (q9, .inl (D.2 2, 13, .inr (.inl (fun _ => (0 : Int64)))))] := hD
  have he := Option.some.inj hf
  rw [hQ]
  exact W.vret hx hb hr (fun t ht hW => by rw [← he]; exact ⟨⟨(q1, q3, q5, q7, q9), rfl, trivial, by rw [ht]; exact hP, hD⟩, hS.F ht⟩) hS.2.2 dX1_init_44
def fX5_size (v0_size : Int32) : Option (Int32) :=
  some (v0_size)
set_option maxHeartbeats 4000000 in
set_option maxRecDepth 100000 in
theorem mX5_size (l : Launch) (D : zG) (a0 : Nat) (a0_signs : Nat) (sz : Nat)  (v0_size : Int32)  (res : Int32) (hf : fX5_size v0_size = some res) : Met l yX5_size wsX5_size ({ frames := 0, cells := 0, slots := 0, locals := 0 } : Room) (va_Pc [.ref a0] (zW D sz [(a0, .inr (4, [.ref a0_signs, .int v0_size]))])) (va_Qi (fun r (_ : Unit) => r = res) (fun _ => zB D (va_A [(a0, .inr (4, [.ref a0_signs, .int v0_size]))] sz) [(a0, .inr (4, [.ref a0_signs, .int v0_size]))]) (va_A [(a0, .inr (4, [.ref a0_signs, .int v0_size]))] sz)) 0 0 (va_A [(a0, .inr (4, [.ref a0_signs, .int v0_size]))] sz) := by
  refine Met.ofW (cc := cX5_size) (maxL := 1) (ret := (some .int)) (by decide) rfl ?_
  intro p e s m args below meth c s₁ B hml hv
  obtain ⟨rfl, hsz, hP, hK, hD0⟩ := hv
  have hx := B.exec
  have hb := B.bytes
  have hr := B.returns
  have hts := atoms_spec (ws := wsX5_size) B.pre
  have hown : s.vm.findClass RX5 = some m.cls := findClass_of_methodNamed B.named
  have hlocks := B.notSynchronized
  subst hsz
  have hD := hD0.self (sz := s.heap.size)
  generalize hAe : va_A [(a0, .inr (4, [.ref a0_signs, .int v0_size]))] s.heap.size = A at hD ⊢
  have hA : ∀ q : Nat, s.heap.size ≤ q → A q := fun q h => by rw [← hAe]; exact Or.inr h
  have l15 := zat hts 1 (w := .fieldLink RX5 15 "TurnedWords$Pattern" "size" "I") rfl
  have hwX5 : ∀ w ∈ u_ws RX5 TX5 2, w ∈ wsX5_size := fun w h => List.mem_cons_of_mem _ (List.mem_append_right _ h)
  have hl := lv_entry ([.ref a0]) (n := 1) (Nat.le_of_ble_eq_true rfl)
  rw [lg_entry_eq]
  generalize (lg_sl ([.ref a0]) ++ List.replicate (1 - (lg_sl ([.ref a0])).length) Slot.unset).toArray = ls at hl ⊢
  have hl : lv_has ls 1 [(0, .ref a0)] := hl
  refine zStart (A := A) hP (fun Q0 H locs hQ hP hS => ?_)
  unfold fX5_size at hf
  refine lv_aload_n hx hb dX5_size_0 rfl (lv_at hl 0 rfl) ?_
  refine va_get (D := D.1) (ci := 4) (v := .int v0_size) (C := RX5) (T := TX5) (N := 2) hx hb hts hwX5 hown hK.1 hP 0 rfl rfl 1 (by decide) l15 (fun _ h9 => h9) rfl dX5_size_1 ?_
  have he := Option.some.inj hf
  rw [hQ]
  exact W.iret (v := v0_size) hx hb hr (fun t ht hW => by rw [← he]; exact ⟨⟨v0_size, (), rfl, rfl, by rw [ht]; exact hP, hD⟩, hS.F ht⟩) hS.2.2 dX5_size_4
def fX5_hasPlace (v0_size : Int32) (p1 : Int32) : Option (Int32) :=
  if p1 < (0 : Int32) then
    some ((0 : Int32))
  else
    if v0_size ≤ p1 then
      some ((0 : Int32))
    else
      some ((1 : Int32))
set_option maxHeartbeats 4000000 in
set_option maxRecDepth 100000 in
theorem mX5_hasPlace (l : Launch) (D : zG) (a0 : Nat) (a0_signs : Nat) (sz : Nat)  (v0_size : Int32) (p1 : Int32) (res : Int32) (hf : fX5_hasPlace v0_size p1 = some res) : Met l yX5_hasPlace wsX5_hasPlace ({ frames := 0, cells := 0, slots := 0, locals := 0 } : Room) (va_Pc [.ref a0, .int p1] (zW D sz [(a0, .inr (4, [.ref a0_signs, .int v0_size]))])) (va_Qi (fun r (_ : Unit) => r = res ∧ (r = 0 ∨ r = 1)) (fun _ => zB D (va_A [(a0, .inr (4, [.ref a0_signs, .int v0_size]))] sz) [(a0, .inr (4, [.ref a0_signs, .int v0_size]))]) (va_A [(a0, .inr (4, [.ref a0_signs, .int v0_size]))] sz)) 0 0 (va_A [(a0, .inr (4, [.ref a0_signs, .int v0_size]))] sz) := by
  refine Met.ofW (cc := cX5_hasPlace) (maxL := 2) (ret := (some .boolean)) (by decide) rfl ?_
  intro p e s m args below meth c s₁ B hml hv
  obtain ⟨rfl, hsz, hP, hK, hD0⟩ := hv
  have hx := B.exec
  have hb := B.bytes
  have hr := B.returns
  have hts := atoms_spec (ws := wsX5_hasPlace) B.pre
  have hown : s.vm.findClass RX5 = some m.cls := findClass_of_methodNamed B.named
  have hlocks := B.notSynchronized
  subst hsz
  have hD := hD0.self (sz := s.heap.size)
  generalize hAe : va_A [(a0, .inr (4, [.ref a0_signs, .int v0_size]))] s.heap.size = A at hD ⊢
  have hA : ∀ q : Nat, s.heap.size ≤ q → A q := fun q h => by rw [← hAe]; exact Or.inr h
  have l15 := zat hts 1 (w := .fieldLink RX5 15 "TurnedWords$Pattern" "size" "I") rfl
  have hwX5 : ∀ w ∈ u_ws RX5 TX5 2, w ∈ wsX5_hasPlace := fun w h => List.mem_cons_of_mem _ (List.mem_append_right _ h)
  have hl := lv_entry ([.ref a0, .int p1]) (n := 2) (Nat.le_of_ble_eq_true rfl)
  rw [lg_entry_eq]
  generalize (lg_sl ([.ref a0, .int p1]) ++ List.replicate (2 - (lg_sl ([.ref a0, .int p1])).length) Slot.unset).toArray = ls at hl ⊢
  have hl : lv_has ls 2 [(0, .ref a0), (1, .int p1)] := hl
  refine zStart (A := A) hP (fun Q0 H locs hQ hP hS => ?_)
  unfold fX5_hasPlace at hf
  refine lv_iload_n hx hb dX5_hasPlace_0 rfl (lv_at hl 1 rfl) ?_
  refine lv_if_lt (tgt := 16) hx hb dX5_hasPlace_1 (by decide) (fun c_1 => ?_) (fun c_1 => ?_)
  · replace hf := ip c_1 hf
    refine lv_iconst (v := 0) hx hb dX5_hasPlace_16 (by decide) ?_
    have he := Option.some.inj hf
    rw [hQ]
    exact W.zret (v := (0 : Int32)) hx hb hr (znb (Or.inl rfl)) (fun t ht hW => by rw [← he]; exact ⟨⟨(0 : Int32), (), rfl, ⟨rfl, Or.inl rfl⟩, by rw [ht]; exact hP, hD⟩, hS.F ht⟩) hS.2.2 dX5_hasPlace_17
  · replace hf := im c_1 hf
    refine lv_iload_n hx hb dX5_hasPlace_4 rfl (lv_at hl 1 rfl) ?_
    refine lv_aload_n hx hb dX5_hasPlace_5 rfl (lv_at hl 0 rfl) ?_
    refine va_get (D := D.1) (ci := 4) (v := .int v0_size) (C := RX5) (T := TX5) (N := 2) hx hb hts hwX5 hown hK.1 hP 0 rfl rfl 1 (by decide) l15 (fun _ h9 => h9) rfl dX5_hasPlace_6 ?_
    refine lv_icmp_ge (tgt := 16) hx hb dX5_hasPlace_9 (by decide) (fun c_2 => ?_) (fun c_2 => ?_)
    · replace hf := ip c_2 hf
      refine lv_iconst (v := 0) hx hb dX5_hasPlace_16 (by decide) ?_
      have he := Option.some.inj hf
      rw [hQ]
      exact W.zret (v := (0 : Int32)) hx hb hr (znb (Or.inl rfl)) (fun t ht hW => by rw [← he]; exact ⟨⟨(0 : Int32), (), rfl, ⟨rfl, Or.inl rfl⟩, by rw [ht]; exact hP, hD⟩, hS.F ht⟩) hS.2.2 dX5_hasPlace_17
    · replace hf := im c_2 hf
      refine lv_iconst (v := 1) hx hb dX5_hasPlace_12 (by decide) ?_
      refine lv_goto (tgt := 17) hx hb dX5_hasPlace_13 (by decide) ?_
      have he := Option.some.inj hf
      rw [hQ]
      exact W.zret (v := (1 : Int32)) hx hb hr (znb (Or.inr rfl)) (fun t ht hW => by rw [← he]; exact ⟨⟨(1 : Int32), (), rfl, ⟨rfl, Or.inr rfl⟩, by rw [ht]; exact hP, hD⟩, hS.F ht⟩) hS.2.2 dX5_hasPlace_17
def fX5_at (v0_size : Int32) (g0_signs : Nat → Int32) (p1 : Int32) : Option (Int32) :=
  Option.bind (fX5_hasPlace v0_size p1) fun r1 =>
  if r1 = (0 : Int32) then
    some ((-1 : Int32))
  else
    if p1 < 0 ∨ 12 ≤ (p1).toNatClampNeg then none else
    some ((g0_signs (p1).toNatClampNeg))
set_option maxHeartbeats 4000000 in
set_option maxRecDepth 100000 in
theorem mX5_at (l : Launch) (D : zG) (a0 : Nat) (a0_signs : Nat) (sz : Nat)  (v0_size : Int32) (g0_signs : Nat → Int32) (p1 : Int32) (res : Int32) (hf : fX5_at v0_size g0_signs p1 = some res) : Met l yX5_at wsX5_at ({ frames := 1, cells := 0, slots := 0, locals := 21 } : Room) (va_Pc [.ref a0, .int p1] (zW D sz [(a0, .inr (4, [.ref a0_signs, .int v0_size])), (a0_signs, .inl (D.2 1, 12, .inl g0_signs))])) (va_Qi (fun r (_ : Unit) => r = res) (fun _ => zB D (va_A [(a0, .inr (4, [.ref a0_signs, .int v0_size])), (a0_signs, .inl (D.2 1, 12, .inl g0_signs))] sz) [(a0, .inr (4, [.ref a0_signs, .int v0_size])), (a0_signs, .inl (D.2 1, 12, .inl g0_signs))]) (va_A [(a0, .inr (4, [.ref a0_signs, .int v0_size])), (a0_signs, .inl (D.2 1, 12, .inl g0_signs))] sz)) 0 0 (va_A [(a0, .inr (4, [.ref a0_signs, .int v0_size])), (a0_signs, .inl (D.2 1, 12, .inl g0_signs))] sz) := by
  refine Met.ofW (cc := cX5_at) (maxL := 2) (ret := (some .int)) (by decide) rfl ?_
  intro p e s m args below meth c s₁ B hml hv
  obtain ⟨rfl, hsz, hP, hK, hD0⟩ := hv
  have hx := B.exec
  have hb := B.bytes
  have hr := B.returns
  have hts := atoms_spec (ws := wsX5_at) B.pre
  have hown : s.vm.findClass RX5 = some m.cls := findClass_of_methodNamed B.named
  have hlocks := B.notSynchronized
  subst hsz
  have hD := hD0.self (sz := s.heap.size)
  generalize hAe : va_A [(a0, .inr (4, [.ref a0_signs, .int v0_size])), (a0_signs, .inl (D.2 1, 12, .inl g0_signs))] s.heap.size = A at hD ⊢
  have hA : ∀ q : Nat, s.heap.size ≤ q → A q := fun q h => by rw [← hAe]; exact Or.inr h
  have l9 := zat hts 1 (w := .fieldLink RX5 9 "TurnedWords$Pattern" "signs" "[I") rfl
  have hwX5 : ∀ w ∈ u_ws RX5 TX5 2, w ∈ wsX5_at := fun w h => List.mem_cons_of_mem _ (List.mem_append_right _ h)
  have hl := lv_entry ([.ref a0, .int p1]) (n := 2) (Nat.le_of_ble_eq_true rfl)
  rw [lg_entry_eq]
  generalize (lg_sl ([.ref a0, .int p1]) ++ List.replicate (2 - (lg_sl ([.ref a0, .int p1])).length) Slot.unset).toArray = ls at hl ⊢
  have hl : lv_has ls 2 [(0, .ref a0), (1, .int p1)] := hl
  refine zStart (A := A) hP (fun Q0 H locs hQ hP hS => ?_)
  unfold fX5_at at hf
  refine lv_aload_n hx hb dX5_at_0 rfl (lv_at hl 0 rfl) ?_
  refine lv_iload_n hx hb dX5_at_1 rfl (lv_at hl 1 rfl) ?_
  obtain ⟨r1, hr1, hf⟩ := bd hf
  refine zVz (As := [.int p1]) (rest := []) (ci := 4) (q0 := 0) (wn := [(a0, .inr (4, [.ref a0_signs, .int v0_size])), (a0_signs, .inl (D.2 1, 12, .inl g0_signs))]) ⟨hx, hb, hml, hown, hts⟩ (mX5_hasPlace l D a0 a0_signs H.size v0_size p1 r1 hr1) (cwV 1 hts gX5_at_X5_hasPlace rfl rfl rfl (by decide +kernel) ⟨Nat.le_of_ble_eq_true rfl, Nat.le_of_ble_eq_true rfl⟩) hK hP hD hS hA [0] [1] [1, 0] rfl (by decide) rfl (by decide) (by decide) rfl (by decide) rfl rfl rfl hl.1 rfl (Nat.le_of_ble_eq_true rfl) dX5_at_2 ⟨Nat.zero_le _, Nat.zero_le _⟩ (fun H locs hb_2 hP hD hS => ?_)
  refine lv_if_eq (tgt := 17) hx hb dX5_at_5 (by decide) (fun c_3 => ?_) (fun c_3 => ?_)
  · replace hf := ip c_3 hf
    refine lv_iconst (v := -1) hx hb dX5_at_17 (by decide) ?_
    have he := Option.some.inj hf
    rw [hQ]
    exact W.iret (v := (-1 : Int32)) hx hb hr (fun t ht hW => by rw [← he]; exact ⟨⟨(-1 : Int32), (), rfl, rfl, by rw [ht]; exact hP, hD⟩, hS.F ht⟩) hS.2.2 dX5_at_18
  · replace hf := im c_3 hf
    refine lv_aload_n hx hb dX5_at_8 rfl (lv_at hl 0 rfl) ?_
    refine va_get (D := D.1) (ci := 4) (v := .ref a0_signs) (C := RX5) (T := TX5) (N := 2) hx hb hts hwX5 hown hK.1 hP 0 rfl rfl 0 (by decide) l9 (fun _ h9 => h9) rfl dX5_at_9 ?_
    refine lv_iload_n hx hb dX5_at_12 rfl (lv_at hl 1 rfl) ?_
    obtain ⟨h_4, hf⟩ := gd hf
    refine va_iald hx hb hK.1 hP 1 1 rfl rfl h_4 dX5_at_13 ?_
    refine lv_goto (tgt := 18) hx hb dX5_at_14 (by decide) ?_
    have he := Option.some.inj hf
    rw [hQ]
    exact W.iret (v := (g0_signs (p1).toNatClampNeg)) hx hb hr (fun t ht hW => by rw [← he]; exact ⟨⟨(g0_signs (p1).toNatClampNeg), (), rfl, rfl, by rw [ht]; exact hP, hD⟩, hS.F ht⟩) hS.2.2 dX5_at_18
def fX1_firstStar_2 (N : Nat) (v0_size : Int32) (g0_signs : Nat → Int32) : Nat → Int32 → Option (Int32)
  | 0, _ => none
  | K + 1, x1 =>
    Option.bind (fX5_size v0_size) fun r1 =>
    if r1 ≤ x1 then
      some ((-1 : Int32))
    else
      Option.bind (fX5_at v0_size g0_signs x1) fun r3 =>
      if r3 = (42 : Int32) then
        some (x1)
      else
        (fX1_firstStar_2 N v0_size g0_signs K) (x1 + (1 : Int32))
def fX1_firstStar (N : Nat) (v0_size : Int32) (g0_signs : Nat → Int32) : Option (Int32) :=
  fX1_firstStar_2 N v0_size g0_signs N (0 : Int32)
set_option maxHeartbeats 4000000 in
set_option maxRecDepth 100000 in
theorem mX1_firstStar (l : Launch) (D : zG) (a0 : Nat) (a0_signs : Nat) (sz : Nat)  (v0_size : Int32) (g0_signs : Nat → Int32)  (N : Nat) (res : Int32) (hf : fX1_firstStar N v0_size g0_signs = some res) : Met l yX1_firstStar wsX1_firstStar ({ frames := 2, cells := 0, slots := 0, locals := 42 } : Room) (va_Pc [.ref a0] (zW D sz [(a0, .inr (4, [.ref a0_signs, .int v0_size])), (a0_signs, .inl (D.2 1, 12, .inl g0_signs))])) (va_Qi (fun r (_ : Unit) => r = res) (fun _ => zB D (va_A [(a0, .inr (4, [.ref a0_signs, .int v0_size])), (a0_signs, .inl (D.2 1, 12, .inl g0_signs))] sz) [(a0, .inr (4, [.ref a0_signs, .int v0_size])), (a0_signs, .inl (D.2 1, 12, .inl g0_signs))]) (va_A [(a0, .inr (4, [.ref a0_signs, .int v0_size])), (a0_signs, .inl (D.2 1, 12, .inl g0_signs))] sz)) 0 0 (va_A [(a0, .inr (4, [.ref a0_signs, .int v0_size])), (a0_signs, .inl (D.2 1, 12, .inl g0_signs))] sz) := by
  refine Met.ofW (cc := cX1_firstStar) (maxL := 2) (ret := (some .int)) (by decide) rfl ?_
  intro p e s m args below meth c s₁ B hml hv
  obtain ⟨rfl, hsz, hP, hK, hD0⟩ := hv
  have hx := B.exec
  have hb := B.bytes
  have hr := B.returns
  have hts := atoms_spec (ws := wsX1_firstStar) B.pre
  have hown : s.vm.findClass RX1 = some m.cls := findClass_of_methodNamed B.named
  have hlocks := B.notSynchronized
  subst hsz
  have hD := hD0.self (sz := s.heap.size)
  generalize hAe : va_A [(a0, .inr (4, [.ref a0_signs, .int v0_size])), (a0_signs, .inl (D.2 1, 12, .inl g0_signs))] s.heap.size = A at hD ⊢
  have hA : ∀ q : Nat, s.heap.size ≤ q → A q := fun q h => by rw [← hAe]; exact Or.inr h
  have hl := lv_entry ([.ref a0]) (n := 2) (Nat.le_of_ble_eq_true rfl)
  rw [lg_entry_eq]
  generalize (lg_sl ([.ref a0]) ++ List.replicate (2 - (lg_sl ([.ref a0])).length) Slot.unset).toArray = ls at hl ⊢
  have hl : lv_has ls 2 [(0, .ref a0)] := hl
  refine zStart (A := A) hP (fun Q0 H locs hQ hP hS => ?_)
  have k2 : ∀ K : Nat, ∀ (x1 : Int32) (H : Heap) (locs : List Loc) (ls : Array Slot), fX1_firstStar_2 N v0_size g0_signs K x1 = some res → va_P D.1 vwCl [(a0, .inr (4, [.ref a0_signs, .int v0_size])), (a0_signs, .inl (D.2 1, 12, .inl g0_signs))] H → va_D A [(a0, .inr (4, [.ref a0_signs, .int v0_size])), (a0_signs, .inl (D.2 1, 12, .inl g0_signs))] → va_S A s.heap H locs → lv_has ls 2 [(0, .ref a0), (1, .int x1)] → W p l e (headSpec wsX1_firstStar ({ frames := 2, cells := 0, slots := 0, locals := 42 } : Room)).room s m ([.ref a0] : List Value).toArray below meth c H locs 0 0 Q0 (F0 m 2 ls []) := by
    intro K
    induction K with
    | zero =>
      intro x1 H locs ls hf
      rw [fX1_firstStar_2] at hf
      cases hf
    | succ K ih =>
      intro x1 H locs ls hf hP hD hS hl
      rw [fX1_firstStar_2] at hf
      refine lv_iload_n hx hb dX1_firstStar_2 rfl (lv_at hl 1 rfl) ?_
      refine lv_aload_n hx hb dX1_firstStar_3 rfl (lv_at hl 0 rfl) ?_
      obtain ⟨r1, hr1, hf⟩ := bd hf
      refine zVi (As := []) (rest := [.int x1]) (ci := 4) (q0 := 0) (wn := [(a0, .inr (4, [.ref a0_signs, .int v0_size])), (a0_signs, .inl (D.2 1, 12, .inl g0_signs))]) ⟨hx, hb, hml, hown, hts⟩ (mX5_size l D a0 a0_signs H.size v0_size r1 hr1) (cwV 0 hts gX1_firstStar_X5_size rfl rfl rfl (by decide +kernel) ⟨Nat.le_of_ble_eq_true rfl, Nat.le_of_ble_eq_true rfl⟩) hK hP hD hS hA [0] [1] [1, 0] rfl (by decide) rfl (by decide) (by decide) rfl (by decide) rfl rfl rfl hl.1 rfl (Nat.le_of_ble_eq_true rfl) dX1_firstStar_4 ⟨Nat.zero_le _, Nat.zero_le _⟩ (fun H locs hP hD hS => ?_)
      refine lv_icmp_ge (tgt := 28) hx hb dX1_firstStar_7 (by decide) (fun c_2 => ?_) (fun c_2 => ?_)
      · replace hf := ip c_2 hf
        refine lv_iconst (v := -1) hx hb dX1_firstStar_28 (by decide) ?_
        have he := Option.some.inj hf
        rw [hQ]
        exact W.iret (v := (-1 : Int32)) hx hb hr (fun t ht hW => by rw [← he]; exact ⟨⟨(-1 : Int32), (), rfl, rfl, by rw [ht]; exact hP, hD⟩, hS.F ht⟩) hS.2.2 dX1_firstStar_29
      · replace hf := im c_2 hf
        refine lv_aload_n hx hb dX1_firstStar_10 rfl (lv_at hl 0 rfl) ?_
        refine lv_iload_n hx hb dX1_firstStar_11 rfl (lv_at hl 1 rfl) ?_
        obtain ⟨r3, hr3, hf⟩ := bd hf
        refine zVi (As := [.int x1]) (rest := []) (ci := 4) (q0 := 0) (wn := [(a0, .inr (4, [.ref a0_signs, .int v0_size])), (a0_signs, .inl (D.2 1, 12, .inl g0_signs))]) ⟨hx, hb, hml, hown, hts⟩ (mX5_at l D a0 a0_signs H.size v0_size g0_signs x1 r3 hr3) (cwV 1 hts gX1_firstStar_X5_at rfl rfl rfl (by decide +kernel) ⟨Nat.le_of_ble_eq_true rfl, Nat.le_of_ble_eq_true rfl⟩) hK hP hD hS hA [0, 1] [] [0, 1] rfl (by decide) rfl (by decide) (by decide) rfl (by decide) rfl rfl rfl hl.1 rfl (Nat.le_of_ble_eq_true rfl) dX1_firstStar_12 ⟨Nat.zero_le _, Nat.zero_le _⟩ (fun H locs hP hD hS => ?_)
        refine lv_bipush (v := 42) hx hb dX1_firstStar_15 (by decide) ?_
        refine lv_icmp_ne (tgt := 22) hx hb dX1_firstStar_17 (by decide) (fun c_4 => ?_) (fun c_4 => ?_)
        · replace hf := im c_4 hf
          refine lv_iinc (v := (x1 + (1 : Int32))) (lv' := [(1, .int (x1 + (1 : Int32))), (0, .ref a0)]) hx hb dX1_firstStar_22 hl (k := 1) rfl rfl (by decide) rfl (fun ls hl => ?_)
          refine lv_goto (tgt := 2) hx hb dX1_firstStar_25 (by decide) ?_
          exact ih (x1 + (1 : Int32)) H locs ls hf hP hD hS (lv_sub hl [1, 0] rfl)
        · replace hf := ip c_4 hf
          refine lv_iload_n hx hb dX1_firstStar_20 rfl (lv_at hl 1 rfl) ?_
          have he := Option.some.inj hf
          rw [hQ]
          exact W.iret (v := x1) hx hb hr (fun t ht hW => by rw [← he]; exact ⟨⟨x1, (), rfl, rfl, by rw [ht]; exact hP, hD⟩, hS.F ht⟩) hS.2.2 dX1_firstStar_21
  unfold fX1_firstStar at hf
  refine lv_iconst (v := 0) hx hb dX1_firstStar_0 (by decide) ?_
  refine lv_istore_n (lv' := [(1, .int (0 : Int32)), (0, .ref a0)]) hx hb dX1_firstStar_1 rfl hl (by decide) rfl (fun ls hl => ?_)
  exact k2 N (0 : Int32) H locs ls hf hP hD hS (lv_sub hl [1, 0] rfl)
def fX1_lastStar_7 (N : Nat) (v0_size : Int32) (g0_signs : Nat → Int32) : Nat → Int32 → Option (Int32)
  | 0, _ => none
  | K + 1, x1 =>
    if x1 < (0 : Int32) then
      some ((-1 : Int32))
    else
      Option.bind (fX5_at v0_size g0_signs x1) fun r3 =>
      if r3 = (42 : Int32) then
        some (x1)
      else
        (fX1_lastStar_7 N v0_size g0_signs K) (x1 + (-1 : Int32))
def fX1_lastStar (N : Nat) (v0_size : Int32) (g0_signs : Nat → Int32) : Option (Int32) :=
  Option.bind (fX5_size v0_size) fun r1 =>
  fX1_lastStar_7 N v0_size g0_signs N (r1 - (1 : Int32))
set_option maxHeartbeats 4000000 in
set_option maxRecDepth 100000 in
theorem mX1_lastStar (l : Launch) (D : zG) (a0 : Nat) (a0_signs : Nat) (sz : Nat)  (v0_size : Int32) (g0_signs : Nat → Int32)  (N : Nat) (res : Int32) (hf : fX1_lastStar N v0_size g0_signs = some res) : Met l yX1_lastStar wsX1_lastStar ({ frames := 2, cells := 0, slots := 0, locals := 42 } : Room) (va_Pc [.ref a0] (zW D sz [(a0, .inr (4, [.ref a0_signs, .int v0_size])), (a0_signs, .inl (D.2 1, 12, .inl g0_signs))])) (va_Qi (fun r (_ : Unit) => r = res) (fun _ => zB D (va_A [(a0, .inr (4, [.ref a0_signs, .int v0_size])), (a0_signs, .inl (D.2 1, 12, .inl g0_signs))] sz) [(a0, .inr (4, [.ref a0_signs, .int v0_size])), (a0_signs, .inl (D.2 1, 12, .inl g0_signs))]) (va_A [(a0, .inr (4, [.ref a0_signs, .int v0_size])), (a0_signs, .inl (D.2 1, 12, .inl g0_signs))] sz)) 0 0 (va_A [(a0, .inr (4, [.ref a0_signs, .int v0_size])), (a0_signs, .inl (D.2 1, 12, .inl g0_signs))] sz) := by
  refine Met.ofW (cc := cX1_lastStar) (maxL := 2) (ret := (some .int)) (by decide) rfl ?_
  intro p e s m args below meth c s₁ B hml hv
  obtain ⟨rfl, hsz, hP, hK, hD0⟩ := hv
  have hx := B.exec
  have hb := B.bytes
  have hr := B.returns
  have hts := atoms_spec (ws := wsX1_lastStar) B.pre
  have hown : s.vm.findClass RX1 = some m.cls := findClass_of_methodNamed B.named
  have hlocks := B.notSynchronized
  subst hsz
  have hD := hD0.self (sz := s.heap.size)
  generalize hAe : va_A [(a0, .inr (4, [.ref a0_signs, .int v0_size])), (a0_signs, .inl (D.2 1, 12, .inl g0_signs))] s.heap.size = A at hD ⊢
  have hA : ∀ q : Nat, s.heap.size ≤ q → A q := fun q h => by rw [← hAe]; exact Or.inr h
  have hl := lv_entry ([.ref a0]) (n := 2) (Nat.le_of_ble_eq_true rfl)
  rw [lg_entry_eq]
  generalize (lg_sl ([.ref a0]) ++ List.replicate (2 - (lg_sl ([.ref a0])).length) Slot.unset).toArray = ls at hl ⊢
  have hl : lv_has ls 2 [(0, .ref a0)] := hl
  refine zStart (A := A) hP (fun Q0 H locs hQ hP hS => ?_)
  have k7 : ∀ K : Nat, ∀ (x1 : Int32) (H : Heap) (locs : List Loc) (ls : Array Slot), fX1_lastStar_7 N v0_size g0_signs K x1 = some res → va_P D.1 vwCl [(a0, .inr (4, [.ref a0_signs, .int v0_size])), (a0_signs, .inl (D.2 1, 12, .inl g0_signs))] H → va_D A [(a0, .inr (4, [.ref a0_signs, .int v0_size])), (a0_signs, .inl (D.2 1, 12, .inl g0_signs))] → va_S A s.heap H locs → lv_has ls 2 [(0, .ref a0), (1, .int x1)] → W p l e (headSpec wsX1_lastStar ({ frames := 2, cells := 0, slots := 0, locals := 42 } : Room)).room s m ([.ref a0] : List Value).toArray below meth c H locs 0 0 Q0 (F0 m 7 ls []) := by
    intro K
    induction K with
    | zero =>
      intro x1 H locs ls hf
      rw [fX1_lastStar_7] at hf
      cases hf
    | succ K ih =>
      intro x1 H locs ls hf hP hD hS hl
      rw [fX1_lastStar_7] at hf
      refine lv_iload_n hx hb dX1_lastStar_7 rfl (lv_at hl 1 rfl) ?_
      refine lv_if_lt (tgt := 29) hx hb dX1_lastStar_8 (by decide) (fun c_2 => ?_) (fun c_2 => ?_)
      · replace hf := ip c_2 hf
        refine lv_iconst (v := -1) hx hb dX1_lastStar_29 (by decide) ?_
        have he := Option.some.inj hf
        rw [hQ]
        exact W.iret (v := (-1 : Int32)) hx hb hr (fun t ht hW => by rw [← he]; exact ⟨⟨(-1 : Int32), (), rfl, rfl, by rw [ht]; exact hP, hD⟩, hS.F ht⟩) hS.2.2 dX1_lastStar_30
      · replace hf := im c_2 hf
        refine lv_aload_n hx hb dX1_lastStar_11 rfl (lv_at hl 0 rfl) ?_
        refine lv_iload_n hx hb dX1_lastStar_12 rfl (lv_at hl 1 rfl) ?_
        obtain ⟨r3, hr3, hf⟩ := bd hf
        refine zVi (As := [.int x1]) (rest := []) (ci := 4) (q0 := 0) (wn := [(a0, .inr (4, [.ref a0_signs, .int v0_size])), (a0_signs, .inl (D.2 1, 12, .inl g0_signs))]) ⟨hx, hb, hml, hown, hts⟩ (mX5_at l D a0 a0_signs H.size v0_size g0_signs x1 r3 hr3) (cwV 1 hts gX1_lastStar_X5_at rfl rfl rfl (by decide +kernel) ⟨Nat.le_of_ble_eq_true rfl, Nat.le_of_ble_eq_true rfl⟩) hK hP hD hS hA [0, 1] [] [0, 1] rfl (by decide) rfl (by decide) (by decide) rfl (by decide) rfl rfl rfl hl.1 rfl (Nat.le_of_ble_eq_true rfl) dX1_lastStar_13 ⟨Nat.zero_le _, Nat.zero_le _⟩ (fun H locs hP hD hS => ?_)
        refine lv_bipush (v := 42) hx hb dX1_lastStar_16 (by decide) ?_
        refine lv_icmp_ne (tgt := 23) hx hb dX1_lastStar_18 (by decide) (fun c_4 => ?_) (fun c_4 => ?_)
        · replace hf := im c_4 hf
          refine lv_iinc (v := (x1 + (-1 : Int32))) (lv' := [(1, .int (x1 + (-1 : Int32))), (0, .ref a0)]) hx hb dX1_lastStar_23 hl (k := 1) rfl rfl (by decide) rfl (fun ls hl => ?_)
          refine lv_goto (tgt := 7) hx hb dX1_lastStar_26 (by decide) ?_
          exact ih (x1 + (-1 : Int32)) H locs ls hf hP hD hS (lv_sub hl [1, 0] rfl)
        · replace hf := ip c_4 hf
          refine lv_iload_n hx hb dX1_lastStar_21 rfl (lv_at hl 1 rfl) ?_
          have he := Option.some.inj hf
          rw [hQ]
          exact W.iret (v := x1) hx hb hr (fun t ht hW => by rw [← he]; exact ⟨⟨x1, (), rfl, rfl, by rw [ht]; exact hP, hD⟩, hS.F ht⟩) hS.2.2 dX1_lastStar_22
  unfold fX1_lastStar at hf
  refine lv_aload_n hx hb dX1_lastStar_0 rfl (lv_at hl 0 rfl) ?_
  obtain ⟨r1, hr1, hf⟩ := bd hf
  refine zVi (As := []) (rest := []) (ci := 4) (q0 := 0) (wn := [(a0, .inr (4, [.ref a0_signs, .int v0_size])), (a0_signs, .inl (D.2 1, 12, .inl g0_signs))]) ⟨hx, hb, hml, hown, hts⟩ (mX5_size l D a0 a0_signs H.size v0_size r1 hr1) (cwV 0 hts gX1_lastStar_X5_size rfl rfl rfl (by decide +kernel) ⟨Nat.le_of_ble_eq_true rfl, Nat.le_of_ble_eq_true rfl⟩) hK hP hD hS hA [0] [1] [1, 0] rfl (by decide) rfl (by decide) (by decide) rfl (by decide) rfl rfl rfl hl.1 rfl (Nat.le_of_ble_eq_true rfl) dX1_lastStar_1 ⟨Nat.zero_le _, Nat.zero_le _⟩ (fun H locs hP hD hS => ?_)
  refine lv_iconst (v := 1) hx hb dX1_lastStar_4 (by decide) ?_
  refine lv_isub hx hb dX1_lastStar_5 ?_
  refine lv_istore_n (lv' := [(1, .int (r1 - (1 : Int32))), (0, .ref a0)]) hx hb dX1_lastStar_6 rfl hl (by decide) rfl (fun ls hl => ?_)
  exact k7 N (r1 - (1 : Int32)) H locs ls hf hP hD hS (lv_sub hl [1, 0] rfl)
def fX1_beginPiece (v0_pieces : Int32) (v0_inRun : Int32) : Option (Int32 × Int32) :=
  some ((v0_pieces + (1 : Int32)), (0 : Int32))
set_option maxHeartbeats 4000000 in
set_option maxRecDepth 100000 in
theorem mX1_beginPiece (l : Launch) (D : zG) (a0 : Nat) (a0_signs : Nat) (a0_starts : Nat) (a0_lengths : Nat) (a0_piecesOfRuns : Nat) (a0_heads : Nat) (sz : Nat)  (v0_size : Int32) (v0_runs : Int32) (v0_pieces : Int32) (v0_inRun : Int32)  (res : Int32 × Int32) (hf : fX1_beginPiece v0_pieces v0_inRun = some res) : Met l yX1_beginPiece wsX1_beginPiece ({ frames := 0, cells := 0, slots := 0, locals := 0 } : Room) (va_Pc [.ref a0] (zW D sz [(a0, .inr (0, [.ref a0_signs, .ref a0_starts, .ref a0_lengths, .ref a0_piecesOfRuns, .ref a0_heads, .int v0_size, .int v0_runs, .int v0_pieces, .int v0_inRun]))])) (va_Qv (fun (_ : Unit) => True) (fun _ => zB D (va_A [(a0, .inr (0, [.ref a0_signs, .ref a0_starts, .ref a0_lengths, .ref a0_piecesOfRuns, .ref a0_heads, .int v0_size, .int v0_runs, .int v0_pieces, .int v0_inRun]))] sz) [(a0, .inr (0, [.ref a0_signs, .ref a0_starts, .ref a0_lengths, .ref a0_piecesOfRuns, .ref a0_heads, .int v0_size, .int v0_runs, .int res.1, .int res.2]))]) (va_A [(a0, .inr (0, [.ref a0_signs, .ref a0_starts, .ref a0_lengths, .ref a0_piecesOfRuns, .ref a0_heads, .int v0_size, .int v0_runs, .int v0_pieces, .int v0_inRun]))] sz)) 0 0 (va_A [(a0, .inr (0, [.ref a0_signs, .ref a0_starts, .ref a0_lengths, .ref a0_piecesOfRuns, .ref a0_heads, .int v0_size, .int v0_runs, .int v0_pieces, .int v0_inRun]))] sz) := by
  refine Met.ofW (cc := cX1_beginPiece) (maxL := 1) (ret := none) (by decide) rfl ?_
  intro p e s m args below meth c s₁ B hml hv
  obtain ⟨rfl, hsz, hP, hK, hD0⟩ := hv
  have hx := B.exec
  have hb := B.bytes
  have hr := B.returns
  have hts := atoms_spec (ws := wsX1_beginPiece) B.pre
  have hown : s.vm.findClass RX1 = some m.cls := findClass_of_methodNamed B.named
  have hlocks := B.notSynchronized
  subst hsz
  have hD := hD0.self (sz := s.heap.size)
  generalize hAe : va_A [(a0, .inr (0, [.ref a0_signs, .ref a0_starts, .ref a0_lengths, .ref a0_piecesOfRuns, .ref a0_heads, .int v0_size, .int v0_runs, .int v0_pieces, .int v0_inRun]))] s.heap.size = A at hD ⊢
  have hA : ∀ q : Nat, s.heap.size ≤ q → A q := fun q h => by rw [← hAe]; exact Or.inr h
  have l35 := zat hts 1 (w := .fieldLink RX1 35 "TurnedWords$Cut" "pieces" "I") rfl
  have l68 := zat hts 2 (w := .fieldLink RX1 68 "TurnedWords$Cut" "inRun" "Z") rfl
  have hwX1 : ∀ w ∈ u_ws RX1 TX1 9, w ∈ wsX1_beginPiece := fun w h => List.mem_cons_of_mem _ (List.mem_append_right _ h)
  have hl := lv_entry ([.ref a0]) (n := 1) (Nat.le_of_ble_eq_true rfl)
  rw [lg_entry_eq]
  generalize (lg_sl ([.ref a0]) ++ List.replicate (1 - (lg_sl ([.ref a0])).length) Slot.unset).toArray = ls at hl ⊢
  have hl : lv_has ls 1 [(0, .ref a0)] := hl
  refine zStart (A := A) hP (fun Q0 H locs hQ hP hS => ?_)
  unfold fX1_beginPiece at hf
  refine lv_aload_n hx hb dX1_beginPiece_0 rfl (lv_at hl 0 rfl) ?_
  refine lv_dup hx hb dX1_beginPiece_1 rfl ?_
  refine va_get (D := D.1) (ci := 0) (v := .int v0_pieces) (C := RX1) (T := TX1) (N := 9) hx hb hts hwX1 hown hK.1 hP 0 rfl rfl 7 (by decide) l35 (fun _ h9 => h9) rfl dX1_beginPiece_2 ?_
  refine lv_iconst (v := 1) hx hb dX1_beginPiece_5 (by decide) ?_
  refine lv_iadd hx hb dX1_beginPiece_6 ?_
  refine va_put (D := D.1) (ci := 0) (v := .int (v0_pieces + (1 : Int32))) (ty := .int) (C := RX1) (T := TX1) (N := 9) hx hb hts hwX1 tyX1 tyX1_ok nmX1 hown hK.1 hP hD hS 0 rfl rfl 7 (by decide) l35 (fun _ h9 => h9) rfl (by decide +kernel) rfl rfl (Nat.le_of_ble_eq_true rfl) dX1_beginPiece_7 (fun H locs hP hD hS => ?_)
  have hP : va_P D.1 vwCl [(a0, .inr (0, [.ref a0_signs, .ref a0_starts, .ref a0_lengths, .ref a0_piecesOfRuns, .ref a0_heads, .int v0_size, .int v0_runs, .int (v0_pieces + (1 : Int32)), .int v0_inRun]))] H := hP
  have hD : va_D A [(a0, .inr (0, [.ref a0_signs, .ref a0_starts, .ref a0_lengths, .ref a0_piecesOfRuns, .ref a0_heads, .int v0_size, .int v0_runs, .int (v0_pieces + (1 : Int32)), .int v0_inRun]))] := hD
  refine lv_aload_n hx hb dX1_beginPiece_10 rfl (lv_at hl 0 rfl) ?_
  refine lv_iconst (v := 0) hx hb dX1_beginPiece_11 (by decide) ?_
  refine va_put (D := D.1) (ci := 0) (v := .int (0 : Int32)) (ty := .boolean) (C := RX1) (T := TX1) (N := 9) hx hb hts hwX1 tyX1 tyX1_ok nmX1 hown hK.1 hP hD hS 0 rfl rfl 8 (by decide) l68 (fun _ h9 => h9) rfl (by decide +kernel) (znb (Or.inl rfl)) rfl (Nat.le_of_ble_eq_true rfl) dX1_beginPiece_12 (fun H locs hP hD hS => ?_)
  have hP : va_P D.1 vwCl [(a0, .inr (0, [.ref a0_signs, .ref a0_starts, .ref a0_lengths, .ref a0_piecesOfRuns, .ref a0_heads, .int v0_size, .int v0_runs, .int (v0_pieces + (1 : Int32)), .int (0 : Int32)]))] H := hP
  have hD : va_D A [(a0, .inr (0, [.ref a0_signs, .ref a0_starts, .ref a0_lengths, .ref a0_piecesOfRuns, .ref a0_heads, .int v0_size, .int v0_runs, .int (v0_pieces + (1 : Int32)), .int (0 : Int32)]))] := hD
  have he := Option.some.inj hf
  rw [hQ]
  exact W.vret hx hb hr (fun t ht hW => by rw [← he]; exact ⟨⟨(), rfl, trivial, by rw [ht]; exact hP, hD⟩, hS.F ht⟩) hS.2.2 dX1_beginPiece_15
def fX1_beginRun (v0_size : Int32) (v0_runs : Int32) (v0_pieces : Int32) (v0_inRun : Int32) (g0_starts : Nat → Int32) (g0_lengths : Nat → Int32) (g0_piecesOfRuns : Nat → Int32) (g0_heads : Nat → Int64) : Option (Int32 × Int32 × (Nat → Int32) × (Nat → Int32) × (Nat → Int32) × (Nat → Int64)) :=
  if v0_runs < 0 ∨ 13 ≤ (v0_runs).toNatClampNeg then none else
  if v0_runs < 0 ∨ 13 ≤ (v0_runs).toNatClampNeg then none else
  if v0_runs < 0 ∨ 13 ≤ (v0_runs).toNatClampNeg then none else
  if v0_runs < 0 ∨ 13 ≤ (v0_runs).toNatClampNeg then none else
  some ((v0_runs + (1 : Int32)), (1 : Int32), (upd g0_starts (v0_runs).toNatClampNeg v0_size), (upd g0_lengths (v0_runs).toNatClampNeg (0 : Int32)), (upd g0_piecesOfRuns (v0_runs).toNatClampNeg (v0_pieces - (1 : Int32))), (vp_updL g0_heads (v0_runs).toNatClampNeg (0 : Int64)))
set_option maxHeartbeats 4000000 in
set_option maxRecDepth 100000 in
theorem mX1_beginRun (l : Launch) (D : zG) (a0 : Nat) (a0_signs : Nat) (a0_starts : Nat) (a0_lengths : Nat) (a0_piecesOfRuns : Nat) (a0_heads : Nat) (sz : Nat)  (v0_size : Int32) (v0_runs : Int32) (v0_pieces : Int32) (v0_inRun : Int32) (g0_starts : Nat → Int32) (g0_lengths : Nat → Int32) (g0_piecesOfRuns : Nat → Int32) (g0_heads : Nat → Int64)  (res : Int32 × Int32 × (Nat → Int32) × (Nat → Int32) × (Nat → Int32) × (Nat → Int64)) (hf : fX1_beginRun v0_size v0_runs v0_pieces v0_inRun g0_starts g0_lengths g0_piecesOfRuns g0_heads = some res) : Met l yX1_beginRun wsX1_beginRun ({ frames := 0, cells := 0, slots := 0, locals := 0 } : Room) (va_Pc [.ref a0] (zW D sz [(a0, .inr (0, [.ref a0_signs, .ref a0_starts, .ref a0_lengths, .ref a0_piecesOfRuns, .ref a0_heads, .int v0_size, .int v0_runs, .int v0_pieces, .int v0_inRun])), (a0_starts, .inl (D.2 1, 13, .inl g0_starts)), (a0_lengths, .inl (D.2 1, 13, .inl g0_lengths)), (a0_piecesOfRuns, .inl (D.2 1, 13, .inl g0_piecesOfRuns)), (a0_heads, .inl (D.2 2, 13, .inr (.inl g0_heads)))])) (va_Qv (fun (_ : Unit) => True) (fun _ => zB D (va_A [(a0, .inr (0, [.ref a0_signs, .ref a0_starts, .ref a0_lengths, .ref a0_piecesOfRuns, .ref a0_heads, .int v0_size, .int v0_runs, .int v0_pieces, .int v0_inRun])), (a0_starts, .inl (D.2 1, 13, .inl g0_starts)), (a0_lengths, .inl (D.2 1, 13, .inl g0_lengths)), (a0_piecesOfRuns, .inl (D.2 1, 13, .inl g0_piecesOfRuns)), (a0_heads, .inl (D.2 2, 13, .inr (.inl g0_heads)))] sz) [(a0, .inr (0, [.ref a0_signs, .ref a0_starts, .ref a0_lengths, .ref a0_piecesOfRuns, .ref a0_heads, .int v0_size, .int res.1, .int v0_pieces, .int res.2.1])), (a0_starts, .inl (D.2 1, 13, .inl res.2.2.1)), (a0_lengths, .inl (D.2 1, 13, .inl res.2.2.2.1)), (a0_piecesOfRuns, .inl (D.2 1, 13, .inl res.2.2.2.2.1)), (a0_heads, .inl (D.2 2, 13, .inr (.inl res.2.2.2.2.2)))]) (va_A [(a0, .inr (0, [.ref a0_signs, .ref a0_starts, .ref a0_lengths, .ref a0_piecesOfRuns, .ref a0_heads, .int v0_size, .int v0_runs, .int v0_pieces, .int v0_inRun])), (a0_starts, .inl (D.2 1, 13, .inl g0_starts)), (a0_lengths, .inl (D.2 1, 13, .inl g0_lengths)), (a0_piecesOfRuns, .inl (D.2 1, 13, .inl g0_piecesOfRuns)), (a0_heads, .inl (D.2 2, 13, .inr (.inl g0_heads)))] sz)) 0 0 (va_A [(a0, .inr (0, [.ref a0_signs, .ref a0_starts, .ref a0_lengths, .ref a0_piecesOfRuns, .ref a0_heads, .int v0_size, .int v0_runs, .int v0_pieces, .int v0_inRun])), (a0_starts, .inl (D.2 1, 13, .inl g0_starts)), (a0_lengths, .inl (D.2 1, 13, .inl g0_lengths)), (a0_piecesOfRuns, .inl (D.2 1, 13, .inl g0_piecesOfRuns)), (a0_heads, .inl (D.2 2, 13, .inr (.inl g0_heads)))] sz) := by
  refine Met.ofW (cc := cX1_beginRun) (maxL := 1) (ret := none) (by decide) rfl ?_
  intro p e s m args below meth c s₁ B hml hv
  obtain ⟨rfl, hsz, hP, hK, hD0⟩ := hv
  have hx := B.exec
  have hb := B.bytes
  have hr := B.returns
  have hts := atoms_spec (ws := wsX1_beginRun) B.pre
  have hown : s.vm.findClass RX1 = some m.cls := findClass_of_methodNamed B.named
  have hlocks := B.notSynchronized
  subst hsz
  have hD := hD0.self (sz := s.heap.size)
  generalize hAe : va_A [(a0, .inr (0, [.ref a0_signs, .ref a0_starts, .ref a0_lengths, .ref a0_piecesOfRuns, .ref a0_heads, .int v0_size, .int v0_runs, .int v0_pieces, .int v0_inRun])), (a0_starts, .inl (D.2 1, 13, .inl g0_starts)), (a0_lengths, .inl (D.2 1, 13, .inl g0_lengths)), (a0_piecesOfRuns, .inl (D.2 1, 13, .inl g0_piecesOfRuns)), (a0_heads, .inl (D.2 2, 13, .inr (.inl g0_heads)))] s.heap.size = A at hD ⊢
  have hA : ∀ q : Nat, s.heap.size ≤ q → A q := fun q h => by rw [← hAe]; exact Or.inr h
  have l15 := zat hts 1 (w := .fieldLink RX1 15 "TurnedWords$Cut" "starts" "[I") rfl
  have l32 := zat hts 2 (w := .fieldLink RX1 32 "TurnedWords$Cut" "runs" "I") rfl
  have l28 := zat hts 3 (w := .fieldLink RX1 28 "TurnedWords$Cut" "size" "I") rfl
  have l18 := zat hts 4 (w := .fieldLink RX1 18 "TurnedWords$Cut" "lengths" "[I") rfl
  have l21 := zat hts 5 (w := .fieldLink RX1 21 "TurnedWords$Cut" "piecesOfRuns" "[I") rfl
  have l35 := zat hts 6 (w := .fieldLink RX1 35 "TurnedWords$Cut" "pieces" "I") rfl
  have l24 := zat hts 7 (w := .fieldLink RX1 24 "TurnedWords$Cut" "heads" "[J") rfl
  have l68 := zat hts 8 (w := .fieldLink RX1 68 "TurnedWords$Cut" "inRun" "Z") rfl
  have hwX1 : ∀ w ∈ u_ws RX1 TX1 9, w ∈ wsX1_beginRun := fun w h => List.mem_cons_of_mem _ (List.mem_append_right _ h)
  have hl := lv_entry ([.ref a0]) (n := 1) (Nat.le_of_ble_eq_true rfl)
  rw [lg_entry_eq]
  generalize (lg_sl ([.ref a0]) ++ List.replicate (1 - (lg_sl ([.ref a0])).length) Slot.unset).toArray = ls at hl ⊢
  have hl : lv_has ls 1 [(0, .ref a0)] := hl
  refine zStart (A := A) hP (fun Q0 H locs hQ hP hS => ?_)
  unfold fX1_beginRun at hf
  refine lv_aload_n hx hb dX1_beginRun_0 rfl (lv_at hl 0 rfl) ?_
  refine va_get (D := D.1) (ci := 0) (v := .ref a0_starts) (C := RX1) (T := TX1) (N := 9) hx hb hts hwX1 hown hK.1 hP 0 rfl rfl 1 (by decide) l15 (fun _ h9 => h9) rfl dX1_beginRun_1 ?_
  refine lv_aload_n hx hb dX1_beginRun_4 rfl (lv_at hl 0 rfl) ?_
  refine va_get (D := D.1) (ci := 0) (v := .int v0_runs) (C := RX1) (T := TX1) (N := 9) hx hb hts hwX1 hown hK.1 hP 0 rfl rfl 6 (by decide) l32 (fun _ h9 => h9) rfl dX1_beginRun_5 ?_
  refine lv_aload_n hx hb dX1_beginRun_8 rfl (lv_at hl 0 rfl) ?_
  refine va_get (D := D.1) (ci := 0) (v := .int v0_size) (C := RX1) (T := TX1) (N := 9) hx hb hts hwX1 hown hK.1 hP 0 rfl rfl 5 (by decide) l28 (fun _ h9 => h9) rfl dX1_beginRun_9 ?_
  obtain ⟨h_1, hf⟩ := gd hf
  refine va_iast hx hb hK.1 hP hD hS 1 1 rfl rfl h_1 dX1_beginRun_12 (fun H locs hP hD hS => ?_)
  have hP : va_P D.1 vwCl [(a0, .inr (0, [.ref a0_signs, .ref a0_starts, .ref a0_lengths, .ref a0_piecesOfRuns, .ref a0_heads, .int v0_size, .int v0_runs, .int v0_pieces, .int v0_inRun])), (a0_starts, .inl (D.2 1, 13, .inl (upd g0_starts (v0_runs).toNatClampNeg v0_size))), (a0_lengths, .inl (D.2 1, 13, .inl g0_lengths)), (a0_piecesOfRuns, .inl (D.2 1, 13, .inl g0_piecesOfRuns)), (a0_heads, .inl (D.2 2, 13, .inr (.inl g0_heads)))] H := hP
  have hD : va_D A [(a0, .inr (0, [.ref a0_signs, .ref a0_starts, .ref a0_lengths, .ref a0_piecesOfRuns, .ref a0_heads, .int v0_size, .int v0_runs, .int v0_pieces, .int v0_inRun])), (a0_starts, .inl (D.2 1, 13, .inl (upd g0_starts (v0_runs).toNatClampNeg v0_size))), (a0_lengths, .inl (D.2 1, 13, .inl g0_lengths)), (a0_piecesOfRuns, .inl (D.2 1, 13, .inl g0_piecesOfRuns)), (a0_heads, .inl (D.2 2, 13, .inr (.inl g0_heads)))] := hD
  refine lv_aload_n hx hb dX1_beginRun_13 rfl (lv_at hl 0 rfl) ?_
  refine va_get (D := D.1) (ci := 0) (v := .ref a0_lengths) (C := RX1) (T := TX1) (N := 9) hx hb hts hwX1 hown hK.1 hP 0 rfl rfl 2 (by decide) l18 (fun _ h9 => h9) rfl dX1_beginRun_14 ?_
  refine lv_aload_n hx hb dX1_beginRun_17 rfl (lv_at hl 0 rfl) ?_
  refine va_get (D := D.1) (ci := 0) (v := .int v0_runs) (C := RX1) (T := TX1) (N := 9) hx hb hts hwX1 hown hK.1 hP 0 rfl rfl 6 (by decide) l32 (fun _ h9 => h9) rfl dX1_beginRun_18 ?_
  refine lv_iconst (v := 0) hx hb dX1_beginRun_21 (by decide) ?_
  obtain ⟨h_2, hf⟩ := gd hf
  refine va_iast hx hb hK.1 hP hD hS 2 1 rfl rfl h_2 dX1_beginRun_22 (fun H locs hP hD hS => ?_)
  have hP : va_P D.1 vwCl [(a0, .inr (0, [.ref a0_signs, .ref a0_starts, .ref a0_lengths, .ref a0_piecesOfRuns, .ref a0_heads, .int v0_size, .int v0_runs, .int v0_pieces, .int v0_inRun])), (a0_starts, .inl (D.2 1, 13, .inl (upd g0_starts (v0_runs).toNatClampNeg v0_size))), (a0_lengths, .inl (D.2 1, 13, .inl (upd g0_lengths (v0_runs).toNatClampNeg (0 : Int32)))), (a0_piecesOfRuns, .inl (D.2 1, 13, .inl g0_piecesOfRuns)), (a0_heads, .inl (D.2 2, 13, .inr (.inl g0_heads)))] H := hP
  have hD : va_D A [(a0, .inr (0, [.ref a0_signs, .ref a0_starts, .ref a0_lengths, .ref a0_piecesOfRuns, .ref a0_heads, .int v0_size, .int v0_runs, .int v0_pieces, .int v0_inRun])), (a0_starts, .inl (D.2 1, 13, .inl (upd g0_starts (v0_runs).toNatClampNeg v0_size))), (a0_lengths, .inl (D.2 1, 13, .inl (upd g0_lengths (v0_runs).toNatClampNeg (0 : Int32)))), (a0_piecesOfRuns, .inl (D.2 1, 13, .inl g0_piecesOfRuns)), (a0_heads, .inl (D.2 2, 13, .inr (.inl g0_heads)))] := hD
  refine lv_aload_n hx hb dX1_beginRun_23 rfl (lv_at hl 0 rfl) ?_
  refine va_get (D := D.1) (ci := 0) (v := .ref a0_piecesOfRuns) (C := RX1) (T := TX1) (N := 9) hx hb hts hwX1 hown hK.1 hP 0 rfl rfl 3 (by decide) l21 (fun _ h9 => h9) rfl dX1_beginRun_24 ?_
  refine lv_aload_n hx hb dX1_beginRun_27 rfl (lv_at hl 0 rfl) ?_
  refine va_get (D := D.1) (ci := 0) (v := .int v0_runs) (C := RX1) (T := TX1) (N := 9) hx hb hts hwX1 hown hK.1 hP 0 rfl rfl 6 (by decide) l32 (fun _ h9 => h9) rfl dX1_beginRun_28 ?_
  refine lv_aload_n hx hb dX1_beginRun_31 rfl (lv_at hl 0 rfl) ?_
  refine va_get (D := D.1) (ci := 0) (v := .int v0_pieces) (C := RX1) (T := TX1) (N := 9) hx hb hts hwX1 hown hK.1 hP 0 rfl rfl 7 (by decide) l35 (fun _ h9 => h9) rfl dX1_beginRun_32 ?_
  refine lv_iconst (v := 1) hx hb dX1_beginRun_35 (by decide) ?_
  refine lv_isub hx hb dX1_beginRun_36 ?_
  obtain ⟨h_3, hf⟩ := gd hf
  refine va_iast hx hb hK.1 hP hD hS 3 1 rfl rfl h_3 dX1_beginRun_37 (fun H locs hP hD hS => ?_)
  have hP : va_P D.1 vwCl [(a0, .inr (0, [.ref a0_signs, .ref a0_starts, .ref a0_lengths, .ref a0_piecesOfRuns, .ref a0_heads, .int v0_size, .int v0_runs, .int v0_pieces, .int v0_inRun])), (a0_starts, .inl (D.2 1, 13, .inl (upd g0_starts (v0_runs).toNatClampNeg v0_size))), (a0_lengths, .inl (D.2 1, 13, .inl (upd g0_lengths (v0_runs).toNatClampNeg (0 : Int32)))), (a0_piecesOfRuns, .inl (D.2 1, 13, .inl (upd g0_piecesOfRuns (v0_runs).toNatClampNeg (v0_pieces - (1 : Int32))))), (a0_heads, .inl (D.2 2, 13, .inr (.inl g0_heads)))] H := hP
  have hD : va_D A [(a0, .inr (0, [.ref a0_signs, .ref a0_starts, .ref a0_lengths, .ref a0_piecesOfRuns, .ref a0_heads, .int v0_size, .int v0_runs, .int v0_pieces, .int v0_inRun])), (a0_starts, .inl (D.2 1, 13, .inl (upd g0_starts (v0_runs).toNatClampNeg v0_size))), (a0_lengths, .inl (D.2 1, 13, .inl (upd g0_lengths (v0_runs).toNatClampNeg (0 : Int32)))), (a0_piecesOfRuns, .inl (D.2 1, 13, .inl (upd g0_piecesOfRuns (v0_runs).toNatClampNeg (v0_pieces - (1 : Int32))))), (a0_heads, .inl (D.2 2, 13, .inr (.inl g0_heads)))] := hD
  refine lv_aload_n hx hb dX1_beginRun_38 rfl (lv_at hl 0 rfl) ?_
  refine va_get (D := D.1) (ci := 0) (v := .ref a0_heads) (C := RX1) (T := TX1) (N := 9) hx hb hts hwX1 hown hK.1 hP 0 rfl rfl 4 (by decide) l24 (fun _ h9 => h9) rfl dX1_beginRun_39 ?_
  refine lv_aload_n hx hb dX1_beginRun_42 rfl (lv_at hl 0 rfl) ?_
  refine va_get (D := D.1) (ci := 0) (v := .int v0_runs) (C := RX1) (T := TX1) (N := 9) hx hb hts hwX1 hown hK.1 hP 0 rfl rfl 6 (by decide) l32 (fun _ h9 => h9) rfl dX1_beginRun_43 ?_
  refine lv_lconst (v := 0) hx hb dX1_beginRun_46 (by decide) ?_
  obtain ⟨h_4, hf⟩ := gd hf
  refine va_last hx hb hK.1 hP hD hS 4 2 rfl rfl h_4 dX1_beginRun_47 (fun H locs hP hD hS => ?_)
  have hP : va_P D.1 vwCl [(a0, .inr (0, [.ref a0_signs, .ref a0_starts, .ref a0_lengths, .ref a0_piecesOfRuns, .ref a0_heads, .int v0_size, .int v0_runs, .int v0_pieces, .int v0_inRun])), (a0_starts, .inl (D.2 1, 13, .inl (upd g0_starts (v0_runs).toNatClampNeg v0_size))), (a0_lengths, .inl (D.2 1, 13, .inl (upd g0_lengths (v0_runs).toNatClampNeg (0 : Int32)))), (a0_piecesOfRuns, .inl (D.2 1, 13, .inl (upd g0_piecesOfRuns (v0_runs).toNatClampNeg (v0_pieces - (1 : Int32))))), (a0_heads, .inl (D.2 2, 13, .inr (.inl (vp_updL g0_heads (v0_runs).toNatClampNeg (0 : Int64)))))] H := hP
  have hD : va_D A [(a0, .inr (0, [.ref a0_signs, .ref a0_starts, .ref a0_lengths, .ref a0_piecesOfRuns, .ref a0_heads, .int v0_size, .int v0_runs, .int v0_pieces, .int v0_inRun])), (a0_starts, .inl (D.2 1, 13, .inl (upd g0_starts (v0_runs).toNatClampNeg v0_size))), (a0_lengths, .inl (D.2 1, 13, .inl (upd g0_lengths (v0_runs).toNatClampNeg (0 : Int32)))), (a0_piecesOfRuns, .inl (D.2 1, 13, .inl (upd g0_piecesOfRuns (v0_runs).toNatClampNeg (v0_pieces - (1 : Int32))))), (a0_heads, .inl (D.2 2, 13, .inr (.inl (vp_updL g0_heads (v0_runs).toNatClampNeg (0 : Int64)))))] := hD
  refine lv_aload_n hx hb dX1_beginRun_48 rfl (lv_at hl 0 rfl) ?_
  refine lv_dup hx hb dX1_beginRun_49 rfl ?_
  refine va_get (D := D.1) (ci := 0) (v := .int v0_runs) (C := RX1) (T := TX1) (N := 9) hx hb hts hwX1 hown hK.1 hP 0 rfl rfl 6 (by decide) l32 (fun _ h9 => h9) rfl dX1_beginRun_50 ?_
  refine lv_iconst (v := 1) hx hb dX1_beginRun_53 (by decide) ?_
  refine lv_iadd hx hb dX1_beginRun_54 ?_
  refine va_put (D := D.1) (ci := 0) (v := .int (v0_runs + (1 : Int32))) (ty := .int) (C := RX1) (T := TX1) (N := 9) hx hb hts hwX1 tyX1 tyX1_ok nmX1 hown hK.1 hP hD hS 0 rfl rfl 6 (by decide) l32 (fun _ h9 => h9) rfl (by decide +kernel) rfl rfl (Nat.le_of_ble_eq_true rfl) dX1_beginRun_55 (fun H locs hP hD hS => ?_)
  have hP : va_P D.1 vwCl [(a0, .inr (0, [.ref a0_signs, .ref a0_starts, .ref a0_lengths, .ref a0_piecesOfRuns, .ref a0_heads, .int v0_size, .int (v0_runs + (1 : Int32)), .int v0_pieces, .int v0_inRun])), (a0_starts, .inl (D.2 1, 13, .inl (upd g0_starts (v0_runs).toNatClampNeg v0_size))), (a0_lengths, .inl (D.2 1, 13, .inl (upd g0_lengths (v0_runs).toNatClampNeg (0 : Int32)))), (a0_piecesOfRuns, .inl (D.2 1, 13, .inl (upd g0_piecesOfRuns (v0_runs).toNatClampNeg (v0_pieces - (1 : Int32))))), (a0_heads, .inl (D.2 2, 13, .inr (.inl (vp_updL g0_heads (v0_runs).toNatClampNeg (0 : Int64)))))] H := hP
  have hD : va_D A [(a0, .inr (0, [.ref a0_signs, .ref a0_starts, .ref a0_lengths, .ref a0_piecesOfRuns, .ref a0_heads, .int v0_size, .int (v0_runs + (1 : Int32)), .int v0_pieces, .int v0_inRun])), (a0_starts, .inl (D.2 1, 13, .inl (upd g0_starts (v0_runs).toNatClampNeg v0_size))), (a0_lengths, .inl (D.2 1, 13, .inl (upd g0_lengths (v0_runs).toNatClampNeg (0 : Int32)))), (a0_piecesOfRuns, .inl (D.2 1, 13, .inl (upd g0_piecesOfRuns (v0_runs).toNatClampNeg (v0_pieces - (1 : Int32))))), (a0_heads, .inl (D.2 2, 13, .inr (.inl (vp_updL g0_heads (v0_runs).toNatClampNeg (0 : Int64)))))] := hD
  refine lv_aload_n hx hb dX1_beginRun_58 rfl (lv_at hl 0 rfl) ?_
  refine lv_iconst (v := 1) hx hb dX1_beginRun_59 (by decide) ?_
  refine va_put (D := D.1) (ci := 0) (v := .int (1 : Int32)) (ty := .boolean) (C := RX1) (T := TX1) (N := 9) hx hb hts hwX1 tyX1 tyX1_ok nmX1 hown hK.1 hP hD hS 0 rfl rfl 8 (by decide) l68 (fun _ h9 => h9) rfl (by decide +kernel) (znb (Or.inr rfl)) rfl (Nat.le_of_ble_eq_true rfl) dX1_beginRun_60 (fun H locs hP hD hS => ?_)
  have hP : va_P D.1 vwCl [(a0, .inr (0, [.ref a0_signs, .ref a0_starts, .ref a0_lengths, .ref a0_piecesOfRuns, .ref a0_heads, .int v0_size, .int (v0_runs + (1 : Int32)), .int v0_pieces, .int (1 : Int32)])), (a0_starts, .inl (D.2 1, 13, .inl (upd g0_starts (v0_runs).toNatClampNeg v0_size))), (a0_lengths, .inl (D.2 1, 13, .inl (upd g0_lengths (v0_runs).toNatClampNeg (0 : Int32)))), (a0_piecesOfRuns, .inl (D.2 1, 13, .inl (upd g0_piecesOfRuns (v0_runs).toNatClampNeg (v0_pieces - (1 : Int32))))), (a0_heads, .inl (D.2 2, 13, .inr (.inl (vp_updL g0_heads (v0_runs).toNatClampNeg (0 : Int64)))))] H := hP
  have hD : va_D A [(a0, .inr (0, [.ref a0_signs, .ref a0_starts, .ref a0_lengths, .ref a0_piecesOfRuns, .ref a0_heads, .int v0_size, .int (v0_runs + (1 : Int32)), .int v0_pieces, .int (1 : Int32)])), (a0_starts, .inl (D.2 1, 13, .inl (upd g0_starts (v0_runs).toNatClampNeg v0_size))), (a0_lengths, .inl (D.2 1, 13, .inl (upd g0_lengths (v0_runs).toNatClampNeg (0 : Int32)))), (a0_piecesOfRuns, .inl (D.2 1, 13, .inl (upd g0_piecesOfRuns (v0_runs).toNatClampNeg (v0_pieces - (1 : Int32))))), (a0_heads, .inl (D.2 2, 13, .inr (.inl (vp_updL g0_heads (v0_runs).toNatClampNeg (0 : Int64)))))] := hD
  have he := Option.some.inj hf
  rw [hQ]
  exact W.vret hx hb hr (fun t ht hW => by rw [← he]; exact ⟨⟨(), rfl, trivial, by rw [ht]; exact hP, hD⟩, hS.F ht⟩) hS.2.2 dX1_beginRun_63
def fX8_isPlace (p0 : Int32) : Option (Int32) :=
  if p0 < (0 : Int32) then
    some ((0 : Int32))
  else
    if (8 : Int32) ≤ p0 then
      some ((0 : Int32))
    else
      some ((1 : Int32))
set_option maxHeartbeats 4000000 in
set_option maxRecDepth 100000 in
theorem mX8_isPlace (l : Launch) (D : zG)  (sz : Nat)   (p0 : Int32) (res : Int32) (hf : fX8_isPlace p0 = some res) : Met l yX8_isPlace wsX8_isPlace ({ frames := 0, cells := 0, slots := 0, locals := 0 } : Room) (va_Pc [.int p0] (zW D sz [])) (va_Qi (fun r (_ : Unit) => r = res ∧ (r = 0 ∨ r = 1)) (fun _ => zB D (va_A [] sz) []) (va_A [] sz)) 0 0 (va_A [] sz) := by
  refine Met.ofW (cc := cX8_isPlace) (maxL := 1) (ret := (some .boolean)) (by decide) rfl ?_
  intro p e s m args below meth c s₁ B hml hv
  obtain ⟨rfl, hsz, hP, hK, hD0⟩ := hv
  have hx := B.exec
  have hb := B.bytes
  have hr := B.returns
  have hts := atoms_spec (ws := wsX8_isPlace) B.pre
  have hown : s.vm.findClass RX8 = some m.cls := findClass_of_methodNamed B.named
  have hlocks := B.notSynchronized
  subst hsz
  have hD := hD0.self (sz := s.heap.size)
  generalize hAe : va_A [] s.heap.size = A at hD ⊢
  have hA : ∀ q : Nat, s.heap.size ≤ q → A q := fun q h => by rw [← hAe]; exact Or.inr h
  have hl := lv_entry ([.int p0]) (n := 1) (Nat.le_of_ble_eq_true rfl)
  rw [lg_entry_eq]
  generalize (lg_sl ([.int p0]) ++ List.replicate (1 - (lg_sl ([.int p0])).length) Slot.unset).toArray = ls at hl ⊢
  have hl : lv_has ls 1 [(0, .int p0)] := hl
  refine zStart (A := A) hP (fun Q0 H locs hQ hP hS => ?_)
  unfold fX8_isPlace at hf
  refine lv_iload_n hx hb dX8_isPlace_0 rfl (lv_at hl 0 rfl) ?_
  refine lv_if_lt (tgt := 14) hx hb dX8_isPlace_1 (by decide) (fun c_1 => ?_) (fun c_1 => ?_)
  · replace hf := ip c_1 hf
    refine lv_iconst (v := 0) hx hb dX8_isPlace_14 (by decide) ?_
    have he := Option.some.inj hf
    rw [hQ]
    exact W.zret (v := (0 : Int32)) hx hb hr (znb (Or.inl rfl)) (fun t ht hW => by rw [← he]; exact ⟨⟨(0 : Int32), (), rfl, ⟨rfl, Or.inl rfl⟩, by rw [ht]; exact hP, hD⟩, hS.F ht⟩) hS.2.2 dX8_isPlace_15
  · replace hf := im c_1 hf
    refine lv_iload_n hx hb dX8_isPlace_4 rfl (lv_at hl 0 rfl) ?_
    refine lv_bipush (v := 8) hx hb dX8_isPlace_5 (by decide) ?_
    refine lv_icmp_ge (tgt := 14) hx hb dX8_isPlace_7 (by decide) (fun c_2 => ?_) (fun c_2 => ?_)
    · replace hf := ip c_2 hf
      refine lv_iconst (v := 0) hx hb dX8_isPlace_14 (by decide) ?_
      have he := Option.some.inj hf
      rw [hQ]
      exact W.zret (v := (0 : Int32)) hx hb hr (znb (Or.inl rfl)) (fun t ht hW => by rw [← he]; exact ⟨⟨(0 : Int32), (), rfl, ⟨rfl, Or.inl rfl⟩, by rw [ht]; exact hP, hD⟩, hS.F ht⟩) hS.2.2 dX8_isPlace_15
    · replace hf := im c_2 hf
      refine lv_iconst (v := 1) hx hb dX8_isPlace_10 (by decide) ?_
      refine lv_goto (tgt := 15) hx hb dX8_isPlace_11 (by decide) ?_
      have he := Option.some.inj hf
      rw [hQ]
      exact W.zret (v := (1 : Int32)) hx hb hr (znb (Or.inr rfl)) (fun t ht hW => by rw [← he]; exact ⟨⟨(1 : Int32), (), rfl, ⟨rfl, Or.inr rfl⟩, by rw [ht]; exact hP, hD⟩, hS.F ht⟩) hS.2.2 dX8_isPlace_15
def fX8_codeOf (p0 : Int32) : Option (Int32) :=
  if p0 = (36 : Int32) then
    some ((1 : Int32))
  else
    some ((((p0 - (97 : Int32)) + (2 : Int32)) &&& (31 : Int32)))
set_option maxHeartbeats 4000000 in
set_option maxRecDepth 100000 in
theorem mX8_codeOf (l : Launch) (D : zG)  (sz : Nat)   (p0 : Int32) (res : Int32) (hf : fX8_codeOf p0 = some res) : Met l yX8_codeOf wsX8_codeOf ({ frames := 0, cells := 0, slots := 0, locals := 0 } : Room) (va_Pc [.int p0] (zW D sz [])) (va_Qi (fun r (_ : Unit) => r = res) (fun _ => zB D (va_A [] sz) []) (va_A [] sz)) 0 0 (va_A [] sz) := by
  refine Met.ofW (cc := cX8_codeOf) (maxL := 1) (ret := (some .int)) (by decide) rfl ?_
  intro p e s m args below meth c s₁ B hml hv
  obtain ⟨rfl, hsz, hP, hK, hD0⟩ := hv
  have hx := B.exec
  have hb := B.bytes
  have hr := B.returns
  have hts := atoms_spec (ws := wsX8_codeOf) B.pre
  have hown : s.vm.findClass RX8 = some m.cls := findClass_of_methodNamed B.named
  have hlocks := B.notSynchronized
  subst hsz
  have hD := hD0.self (sz := s.heap.size)
  generalize hAe : va_A [] s.heap.size = A at hD ⊢
  have hA : ∀ q : Nat, s.heap.size ≤ q → A q := fun q h => by rw [← hAe]; exact Or.inr h
  have hl := lv_entry ([.int p0]) (n := 1) (Nat.le_of_ble_eq_true rfl)
  rw [lg_entry_eq]
  generalize (lg_sl ([.int p0]) ++ List.replicate (1 - (lg_sl ([.int p0])).length) Slot.unset).toArray = ls at hl ⊢
  have hl : lv_has ls 1 [(0, .int p0)] := hl
  refine zStart (A := A) hP (fun Q0 H locs hQ hP hS => ?_)
  unfold fX8_codeOf at hf
  refine lv_iload_n hx hb dX8_codeOf_0 rfl (lv_at hl 0 rfl) ?_
  refine lv_bipush (v := 36) hx hb dX8_codeOf_1 (by decide) ?_
  refine lv_icmp_ne (tgt := 10) hx hb dX8_codeOf_3 (by decide) (fun c_1 => ?_) (fun c_1 => ?_)
  · replace hf := im c_1 hf
    refine lv_iload_n hx hb dX8_codeOf_10 rfl (lv_at hl 0 rfl) ?_
    refine lv_bipush (v := 97) hx hb dX8_codeOf_11 (by decide) ?_
    refine lv_isub hx hb dX8_codeOf_13 ?_
    refine lv_iconst (v := 2) hx hb dX8_codeOf_14 (by decide) ?_
    refine lv_iadd hx hb dX8_codeOf_15 ?_
    refine lv_bipush (v := 31) hx hb dX8_codeOf_16 (by decide) ?_
    refine lv_iand hx hb dX8_codeOf_18 ?_
    have he := Option.some.inj hf
    rw [hQ]
    exact W.iret (v := (((p0 - (97 : Int32)) + (2 : Int32)) &&& (31 : Int32))) hx hb hr (fun t ht hW => by rw [← he]; exact ⟨⟨(((p0 - (97 : Int32)) + (2 : Int32)) &&& (31 : Int32)), (), rfl, rfl, by rw [ht]; exact hP, hD⟩, hS.F ht⟩) hS.2.2 dX8_codeOf_19
  · replace hf := ip c_1 hf
    refine lv_iconst (v := 1) hx hb dX8_codeOf_6 (by decide) ?_
    refine lv_goto (tgt := 19) hx hb dX8_codeOf_7 (by decide) ?_
    have he := Option.some.inj hf
    rw [hQ]
    exact W.iret (v := (1 : Int32)) hx hb hr (fun t ht hW => by rw [← he]; exact ⟨⟨(1 : Int32), (), rfl, rfl, by rw [ht]; exact hP, hD⟩, hS.F ht⟩) hS.2.2 dX8_codeOf_19
def fX8_shiftOf (p0 : Int32) : Option (Int32) :=
  some (((5 : Int32) * ((7 : Int32) - p0)))
set_option maxHeartbeats 4000000 in
set_option maxRecDepth 100000 in
theorem mX8_shiftOf (l : Launch) (D : zG)  (sz : Nat)   (p0 : Int32) (res : Int32) (hf : fX8_shiftOf p0 = some res) : Met l yX8_shiftOf wsX8_shiftOf ({ frames := 0, cells := 0, slots := 0, locals := 0 } : Room) (va_Pc [.int p0] (zW D sz [])) (va_Qi (fun r (_ : Unit) => r = res) (fun _ => zB D (va_A [] sz) []) (va_A [] sz)) 0 0 (va_A [] sz) := by
  refine Met.ofW (cc := cX8_shiftOf) (maxL := 1) (ret := (some .int)) (by decide) rfl ?_
  intro p e s m args below meth c s₁ B hml hv
  obtain ⟨rfl, hsz, hP, hK, hD0⟩ := hv
  have hx := B.exec
  have hb := B.bytes
  have hr := B.returns
  have hts := atoms_spec (ws := wsX8_shiftOf) B.pre
  have hown : s.vm.findClass RX8 = some m.cls := findClass_of_methodNamed B.named
  have hlocks := B.notSynchronized
  subst hsz
  have hD := hD0.self (sz := s.heap.size)
  generalize hAe : va_A [] s.heap.size = A at hD ⊢
  have hA : ∀ q : Nat, s.heap.size ≤ q → A q := fun q h => by rw [← hAe]; exact Or.inr h
  have hl := lv_entry ([.int p0]) (n := 1) (Nat.le_of_ble_eq_true rfl)
  rw [lg_entry_eq]
  generalize (lg_sl ([.int p0]) ++ List.replicate (1 - (lg_sl ([.int p0])).length) Slot.unset).toArray = ls at hl ⊢
  have hl : lv_has ls 1 [(0, .int p0)] := hl
  refine zStart (A := A) hP (fun Q0 H locs hQ hP hS => ?_)
  unfold fX8_shiftOf at hf
  refine lv_iconst (v := 5) hx hb dX8_shiftOf_0 (by decide) ?_
  refine lv_bipush (v := 7) hx hb dX8_shiftOf_1 (by decide) ?_
  refine lv_iload_n hx hb dX8_shiftOf_3 rfl (lv_at hl 0 rfl) ?_
  refine lv_isub hx hb dX8_shiftOf_4 ?_
  refine lv_imul hx hb dX8_shiftOf_5 ?_
  have he := Option.some.inj hf
  rw [hQ]
  exact W.iret (v := ((5 : Int32) * ((7 : Int32) - p0))) hx hb hr (fun t ht hW => by rw [← he]; exact ⟨⟨((5 : Int32) * ((7 : Int32) - p0)), (), rfl, rfl, by rw [ht]; exact hP, hD⟩, hS.F ht⟩) hS.2.2 dX8_shiftOf_6
def fX8_put (p0 : Int64) (p2 : Int32) (p3 : Int32) : Option (Int64) :=
  Option.bind (fX8_isPlace p2) fun r1 =>
  if r1 = (0 : Int32) then
    some (p0)
  else
    Option.bind (fX8_codeOf p3) fun r4 =>
    Option.bind (fX8_shiftOf p2) fun r5 =>
    some ((p0 ||| ((Int32.toInt64 r4) <<< (Int32.toInt64 r5 &&& 63))))
set_option maxHeartbeats 4000000 in
set_option maxRecDepth 100000 in
theorem mX8_put (l : Launch) (D : zG)  (sz : Nat)   (p0 : Int64) (p2 : Int32) (p3 : Int32) (res : Int64) (hf : fX8_put p0 p2 p3 = some res) : Met l yX8_put wsX8_put ({ frames := 1, cells := 0, slots := 0, locals := 20 } : Room) (va_Pc [.long p0, .int p2, .int p3] (zW D sz [])) (va_Ql (fun r (_ : Unit) => r = res) (fun _ => zB D (va_A [] sz) []) (va_A [] sz)) 0 0 (va_A [] sz) := by
  refine Met.ofW (cc := cX8_put) (maxL := 4) (ret := (some .long)) (by decide) rfl ?_
  intro p e s m args below meth c s₁ B hml hv
  obtain ⟨rfl, hsz, hP, hK, hD0⟩ := hv
  have hx := B.exec
  have hb := B.bytes
  have hr := B.returns
  have hts := atoms_spec (ws := wsX8_put) B.pre
  have hown : s.vm.findClass RX8 = some m.cls := findClass_of_methodNamed B.named
  have hlocks := B.notSynchronized
  subst hsz
  have hD := hD0.self (sz := s.heap.size)
  generalize hAe : va_A [] s.heap.size = A at hD ⊢
  have hA : ∀ q : Nat, s.heap.size ≤ q → A q := fun q h => by rw [← hAe]; exact Or.inr h
  have hl := lv_entry ([.long p0, .int p2, .int p3]) (n := 4) (Nat.le_of_ble_eq_true rfl)
  rw [lg_entry_eq]
  generalize (lg_sl ([.long p0, .int p2, .int p3]) ++ List.replicate (4 - (lg_sl ([.long p0, .int p2, .int p3])).length) Slot.unset).toArray = ls at hl ⊢
  have hl : lv_has ls 4 [(0, .long p0), (2, .int p2), (3, .int p3)] := hl
  refine zStart (A := A) hP (fun Q0 H locs hQ hP hS => ?_)
  unfold fX8_put at hf
  refine lv_iload_n hx hb dX8_put_0 rfl (lv_at hl 1 rfl) ?_
  obtain ⟨r1, hr1, hf⟩ := bd hf
  refine zSz (As := [.int p2]) (rest := []) (wn := []) ⟨hx, hb, hml, hown, hts⟩ (mX8_isPlace l D H.size p2 r1 hr1) (va_cwS 1 hts gX8_put_X8_isPlace rfl rfl rfl (by decide +kernel) ⟨Nat.le_of_ble_eq_true rfl, Nat.le_of_ble_eq_true rfl⟩) hK hP hD hS hA [] [] [] rfl (by decide) rfl (by decide) (by decide) rfl (by decide) rfl hl.1 rfl (Nat.le_of_ble_eq_true rfl) dX8_put_1 ⟨Nat.zero_le _, Nat.zero_le _⟩ (fun H locs hb_2 hP hD hS => ?_)
  refine lv_if_eq (tgt := 22) hx hb dX8_put_4 (by decide) (fun c_3 => ?_) (fun c_3 => ?_)
  · replace hf := ip c_3 hf
    refine lv_lload_n hx hb dX8_put_22 rfl (lv_at hl 0 rfl) ?_
    have he := Option.some.inj hf
    rw [hQ]
    exact W.lret (v := p0) hx hb hr (fun t ht hW => by rw [← he]; exact ⟨⟨p0, (), rfl, rfl, by rw [ht]; exact hP, hD⟩, hS.F ht⟩) hS.2.2 dX8_put_23
  · replace hf := im c_3 hf
    refine lv_lload_n hx hb dX8_put_7 rfl (lv_at hl 0 rfl) ?_
    refine lv_iload_n hx hb dX8_put_8 rfl (lv_at hl 2 rfl) ?_
    obtain ⟨r4, hr4, hf⟩ := bd hf
    refine zSi (As := [.int p3]) (rest := [.long p0]) (wn := []) ⟨hx, hb, hml, hown, hts⟩ (mX8_codeOf l D H.size p3 r4 hr4) (va_cwS 1 hts gX8_put_X8_codeOf rfl rfl rfl (by decide +kernel) ⟨Nat.le_of_ble_eq_true rfl, Nat.le_of_ble_eq_true rfl⟩) hK hP hD hS hA [] [] [] rfl (by decide) rfl (by decide) (by decide) rfl (by decide) rfl hl.1 rfl (Nat.le_of_ble_eq_true rfl) dX8_put_9 ⟨Nat.zero_le _, Nat.zero_le _⟩ (fun H locs hP hD hS => ?_)
    refine lv_i2l hx hb dX8_put_12 rfl ?_
    refine lv_iload_n hx hb dX8_put_13 rfl (lv_at hl 1 rfl) ?_
    obtain ⟨r5, hr5, hf⟩ := bd hf
    refine zSi (As := [.int p2]) (rest := [.long (Int32.toInt64 r4), .long p0]) (wn := []) ⟨hx, hb, hml, hown, hts⟩ (mX8_shiftOf l D H.size p2 r5 hr5) (va_cwS 1 hts gX8_put_X8_shiftOf rfl rfl rfl (by decide +kernel) ⟨Nat.le_of_ble_eq_true rfl, Nat.le_of_ble_eq_true rfl⟩) hK hP hD hS hA [] [] [] rfl (by decide) rfl (by decide) (by decide) rfl (by decide) rfl hl.1 rfl (Nat.le_of_ble_eq_true rfl) dX8_put_14 ⟨Nat.zero_le _, Nat.zero_le _⟩ (fun H locs hP hD hS => ?_)
    refine lv_lshl hx hb dX8_put_17 rfl ?_
    refine lv_lor hx hb dX8_put_18 ?_
    refine lv_goto (tgt := 23) hx hb dX8_put_19 (by decide) ?_
    have he := Option.some.inj hf
    rw [hQ]
    exact W.lret (v := (p0 ||| ((Int32.toInt64 r4) <<< (Int32.toInt64 r5 &&& 63)))) hx hb hr (fun t ht hW => by rw [← he]; exact ⟨⟨(p0 ||| ((Int32.toInt64 r4) <<< (Int32.toInt64 r5 &&& 63))), (), rfl, rfl, by rw [ht]; exact hP, hD⟩, hS.F ht⟩) hS.2.2 dX8_put_23
def fX1_laySign_33 (v0_pieces : Int32) (p1 : Int32) (v0_size : Int32) (v0_runs : Int32) (v0_inRun : Int32) (g0_signs : Nat → Int32) (g0_starts : Nat → Int32) (g0_lengths : Nat → Int32) (g0_piecesOfRuns : Nat → Int32) (g0_heads : Nat → Int64) : Option (Int32 × Int32 × Int32 × (Nat → Int32) × (Nat → Int32) × (Nat → Int32) × (Nat → Int32) × (Nat → Int64)) :=
  if v0_size < 0 ∨ 13 ≤ (v0_size).toNatClampNeg then none else
  if (v0_runs - (1 : Int32)) < 0 ∨ 13 ≤ ((v0_runs - (1 : Int32))).toNatClampNeg then none else
  if (v0_runs - (1 : Int32)) < 0 ∨ 13 ≤ ((v0_runs - (1 : Int32))).toNatClampNeg then none else
  Option.bind (fX8_put (g0_heads ((v0_runs - (1 : Int32))).toNatClampNeg) (g0_lengths ((v0_runs - (1 : Int32))).toNatClampNeg) p1) fun r8 =>
  if (v0_runs - (1 : Int32)) < 0 ∨ 13 ≤ ((v0_runs - (1 : Int32))).toNatClampNeg then none else
  if (v0_runs - (1 : Int32)) < 0 ∨ 13 ≤ ((v0_runs - (1 : Int32))).toNatClampNeg then none else
  if (v0_runs - (1 : Int32)) < 0 ∨ 13 ≤ ((v0_runs - (1 : Int32))).toNatClampNeg then none else
  some ((v0_size + (1 : Int32)), v0_runs, v0_inRun, (upd g0_signs (v0_size).toNatClampNeg p1), g0_starts, (upd g0_lengths ((v0_runs - (1 : Int32))).toNatClampNeg ((g0_lengths ((v0_runs - (1 : Int32))).toNatClampNeg) + (1 : Int32))), g0_piecesOfRuns, (vp_updL g0_heads ((v0_runs - (1 : Int32))).toNatClampNeg r8))
def fX1_laySign (v0_size : Int32) (v0_runs : Int32) (v0_pieces : Int32) (v0_inRun : Int32) (g0_signs : Nat → Int32) (g0_starts : Nat → Int32) (g0_lengths : Nat → Int32) (g0_piecesOfRuns : Nat → Int32) (g0_heads : Nat → Int64) (p1 : Int32) : Option (Int32 × Int32 × Int32 × (Nat → Int32) × (Nat → Int32) × (Nat → Int32) × (Nat → Int32) × (Nat → Int64)) :=
  if p1 = (63 : Int32) then
    some (v0_size, v0_runs, (0 : Int32), g0_signs, g0_starts, g0_lengths, g0_piecesOfRuns, g0_heads)
  else
    if v0_size < (13 : Int32) then
      if v0_inRun = (0 : Int32) then
        Option.bind (fX1_beginRun v0_size v0_runs v0_pieces v0_inRun g0_starts g0_lengths g0_piecesOfRuns g0_heads) fun r4 =>
        fX1_laySign_33 v0_pieces p1 v0_size r4.1 r4.2.1 g0_signs r4.2.2.1 r4.2.2.2.1 r4.2.2.2.2.1 r4.2.2.2.2.2
      else
        fX1_laySign_33 v0_pieces p1 v0_size v0_runs v0_inRun g0_signs g0_starts g0_lengths g0_piecesOfRuns g0_heads
    else
      some (v0_size, v0_runs, v0_inRun, g0_signs, g0_starts, g0_lengths, g0_piecesOfRuns, g0_heads)
set_option maxHeartbeats 4000000 in
set_option maxRecDepth 100000 in
theorem mX1_laySign (l : Launch) (D : zG) (a0 : Nat) (a0_signs : Nat) (a0_starts : Nat) (a0_lengths : Nat) (a0_piecesOfRuns : Nat) (a0_heads : Nat) (sz : Nat)  (v0_size : Int32) (v0_runs : Int32) (v0_pieces : Int32) (v0_inRun : Int32) (g0_signs : Nat → Int32) (g0_starts : Nat → Int32) (g0_lengths : Nat → Int32) (g0_piecesOfRuns : Nat → Int32) (g0_heads : Nat → Int64) (p1 : Int32) (res : Int32 × Int32 × Int32 × (Nat → Int32) × (Nat → Int32) × (Nat → Int32) × (Nat → Int32) × (Nat → Int64)) (hf : fX1_laySign v0_size v0_runs v0_pieces v0_inRun g0_signs g0_starts g0_lengths g0_piecesOfRuns g0_heads p1 = some res) : Met l yX1_laySign wsX1_laySign ({ frames := 2, cells := 0, slots := 0, locals := 43 } : Room) (va_Pc [.ref a0, .int p1] (zW D sz [(a0, .inr (0, [.ref a0_signs, .ref a0_starts, .ref a0_lengths, .ref a0_piecesOfRuns, .ref a0_heads, .int v0_size, .int v0_runs, .int v0_pieces, .int v0_inRun])), (a0_signs, .inl (D.2 1, 13, .inl g0_signs)), (a0_starts, .inl (D.2 1, 13, .inl g0_starts)), (a0_lengths, .inl (D.2 1, 13, .inl g0_lengths)), (a0_piecesOfRuns, .inl (D.2 1, 13, .inl g0_piecesOfRuns)), (a0_heads, .inl (D.2 2, 13, .inr (.inl g0_heads)))])) (va_Qv (fun (_ : Unit) => True) (fun _ => zB D (va_A [(a0, .inr (0, [.ref a0_signs, .ref a0_starts, .ref a0_lengths, .ref a0_piecesOfRuns, .ref a0_heads, .int v0_size, .int v0_runs, .int v0_pieces, .int v0_inRun])), (a0_signs, .inl (D.2 1, 13, .inl g0_signs)), (a0_starts, .inl (D.2 1, 13, .inl g0_starts)), (a0_lengths, .inl (D.2 1, 13, .inl g0_lengths)), (a0_piecesOfRuns, .inl (D.2 1, 13, .inl g0_piecesOfRuns)), (a0_heads, .inl (D.2 2, 13, .inr (.inl g0_heads)))] sz) [(a0, .inr (0, [.ref a0_signs, .ref a0_starts, .ref a0_lengths, .ref a0_piecesOfRuns, .ref a0_heads, .int res.1, .int res.2.1, .int v0_pieces, .int res.2.2.1])), (a0_signs, .inl (D.2 1, 13, .inl res.2.2.2.1)), (a0_starts, .inl (D.2 1, 13, .inl res.2.2.2.2.1)), (a0_lengths, .inl (D.2 1, 13, .inl res.2.2.2.2.2.1)), (a0_piecesOfRuns, .inl (D.2 1, 13, .inl res.2.2.2.2.2.2.1)), (a0_heads, .inl (D.2 2, 13, .inr (.inl res.2.2.2.2.2.2.2)))]) (va_A [(a0, .inr (0, [.ref a0_signs, .ref a0_starts, .ref a0_lengths, .ref a0_piecesOfRuns, .ref a0_heads, .int v0_size, .int v0_runs, .int v0_pieces, .int v0_inRun])), (a0_signs, .inl (D.2 1, 13, .inl g0_signs)), (a0_starts, .inl (D.2 1, 13, .inl g0_starts)), (a0_lengths, .inl (D.2 1, 13, .inl g0_lengths)), (a0_piecesOfRuns, .inl (D.2 1, 13, .inl g0_piecesOfRuns)), (a0_heads, .inl (D.2 2, 13, .inr (.inl g0_heads)))] sz)) 0 0 (va_A [(a0, .inr (0, [.ref a0_signs, .ref a0_starts, .ref a0_lengths, .ref a0_piecesOfRuns, .ref a0_heads, .int v0_size, .int v0_runs, .int v0_pieces, .int v0_inRun])), (a0_signs, .inl (D.2 1, 13, .inl g0_signs)), (a0_starts, .inl (D.2 1, 13, .inl g0_starts)), (a0_lengths, .inl (D.2 1, 13, .inl g0_lengths)), (a0_piecesOfRuns, .inl (D.2 1, 13, .inl g0_piecesOfRuns)), (a0_heads, .inl (D.2 2, 13, .inr (.inl g0_heads)))] sz) := by
  refine Met.ofW (cc := cX1_laySign) (maxL := 3) (ret := none) (by decide) rfl ?_
  intro p e s m args below meth c s₁ B hml hv
  obtain ⟨rfl, hsz, hP, hK, hD0⟩ := hv
  have hx := B.exec
  have hb := B.bytes
  have hr := B.returns
  have hts := atoms_spec (ws := wsX1_laySign) B.pre
  have hown : s.vm.findClass RX1 = some m.cls := findClass_of_methodNamed B.named
  have hlocks := B.notSynchronized
  subst hsz
  have hD := hD0.self (sz := s.heap.size)
  generalize hAe : va_A [(a0, .inr (0, [.ref a0_signs, .ref a0_starts, .ref a0_lengths, .ref a0_piecesOfRuns, .ref a0_heads, .int v0_size, .int v0_runs, .int v0_pieces, .int v0_inRun])), (a0_signs, .inl (D.2 1, 13, .inl g0_signs)), (a0_starts, .inl (D.2 1, 13, .inl g0_starts)), (a0_lengths, .inl (D.2 1, 13, .inl g0_lengths)), (a0_piecesOfRuns, .inl (D.2 1, 13, .inl g0_piecesOfRuns)), (a0_heads, .inl (D.2 2, 13, .inr (.inl g0_heads)))] s.heap.size = A at hD ⊢
  have hA : ∀ q : Nat, s.heap.size ≤ q → A q := fun q h => by rw [← hAe]; exact Or.inr h
  have l28 := zat hts 2 (w := .fieldLink RX1 28 "TurnedWords$Cut" "size" "I") rfl
  have l68 := zat hts 1 (w := .fieldLink RX1 68 "TurnedWords$Cut" "inRun" "Z") rfl
  have l32 := zat hts 3 (w := .fieldLink RX1 32 "TurnedWords$Cut" "runs" "I") rfl
  have l9 := zat hts 4 (w := .fieldLink RX1 9 "TurnedWords$Cut" "signs" "[I") rfl
  have l24 := zat hts 5 (w := .fieldLink RX1 24 "TurnedWords$Cut" "heads" "[J") rfl
  have l18 := zat hts 6 (w := .fieldLink RX1 18 "TurnedWords$Cut" "lengths" "[I") rfl
  have hwX1 : ∀ w ∈ u_ws RX1 TX1 9, w ∈ wsX1_laySign := fun w h => List.mem_cons_of_mem _ (List.mem_append_right _ h)
  have hl := lv_entry ([.ref a0, .int p1]) (n := 3) (Nat.le_of_ble_eq_true rfl)
  rw [lg_entry_eq]
  generalize (lg_sl ([.ref a0, .int p1]) ++ List.replicate (3 - (lg_sl ([.ref a0, .int p1])).length) Slot.unset).toArray = ls at hl ⊢
  have hl : lv_has ls 3 [(0, .ref a0), (1, .int p1)] := hl
  refine zStart (A := A) hP (fun Q0 H locs hQ hP hS => ?_)
  have k33 : ∀ (v0_size : Int32) (v0_runs : Int32) (v0_inRun : Int32) (g0_signs : Nat → Int32) (g0_starts : Nat → Int32) (g0_lengths : Nat → Int32) (g0_piecesOfRuns : Nat → Int32) (g0_heads : Nat → Int64) (H : Heap) (locs : List Loc) (ls : Array Slot), fX1_laySign_33 v0_pieces p1 v0_size v0_runs v0_inRun g0_signs g0_starts g0_lengths g0_piecesOfRuns g0_heads = some res → va_P D.1 vwCl [(a0, .inr (0, [.ref a0_signs, .ref a0_starts, .ref a0_lengths, .ref a0_piecesOfRuns, .ref a0_heads, .int v0_size, .int v0_runs, .int v0_pieces, .int v0_inRun])), (a0_signs, .inl (D.2 1, 13, .inl g0_signs)), (a0_starts, .inl (D.2 1, 13, .inl g0_starts)), (a0_lengths, .inl (D.2 1, 13, .inl g0_lengths)), (a0_piecesOfRuns, .inl (D.2 1, 13, .inl g0_piecesOfRuns)), (a0_heads, .inl (D.2 2, 13, .inr (.inl g0_heads)))] H → va_D A [(a0, .inr (0, [.ref a0_signs, .ref a0_starts, .ref a0_lengths, .ref a0_piecesOfRuns, .ref a0_heads, .int v0_size, .int v0_runs, .int v0_pieces, .int v0_inRun])), (a0_signs, .inl (D.2 1, 13, .inl g0_signs)), (a0_starts, .inl (D.2 1, 13, .inl g0_starts)), (a0_lengths, .inl (D.2 1, 13, .inl g0_lengths)), (a0_piecesOfRuns, .inl (D.2 1, 13, .inl g0_piecesOfRuns)), (a0_heads, .inl (D.2 2, 13, .inr (.inl g0_heads)))] → va_S A s.heap H locs → lv_has ls 3 [(0, .ref a0), (1, .int p1)] → W p l e (headSpec wsX1_laySign ({ frames := 2, cells := 0, slots := 0, locals := 43 } : Room)).room s m ([.ref a0, .int p1] : List Value).toArray below meth c H locs 0 0 Q0 (F0 m 33 ls []) := by
    intro v0_size v0_runs v0_inRun g0_signs g0_starts g0_lengths g0_piecesOfRuns g0_heads H locs ls hf hP hD hS hl
    unfold fX1_laySign_33 at hf
    refine lv_aload_n hx hb dX1_laySign_33 rfl (lv_at hl 0 rfl) ?_
    refine va_get (D := D.1) (ci := 0) (v := .int v0_runs) (C := RX1) (T := TX1) (N := 9) hx hb hts hwX1 hown hK.1 hP 0 rfl rfl 6 (by decide) l32 (fun _ h9 => h9) rfl dX1_laySign_34 ?_
    refine lv_iconst (v := 1) hx hb dX1_laySign_37 (by decide) ?_
    refine lv_isub hx hb dX1_laySign_38 ?_
    refine lv_istore_n (lv' := [(2, .int (v0_runs - (1 : Int32))), (0, .ref a0), (1, .int p1)]) hx hb dX1_laySign_39 rfl hl (by decide) rfl (fun ls hl => ?_)
    refine lv_aload_n hx hb dX1_laySign_40 rfl (lv_at hl 1 rfl) ?_
    refine va_get (D := D.1) (ci := 0) (v := .ref a0_signs) (C := RX1) (T := TX1) (N := 9) hx hb hts hwX1 hown hK.1 hP 0 rfl rfl 0 (by decide) l9 (fun _ h9 => h9) rfl dX1_laySign_41 ?_
    refine lv_aload_n hx hb dX1_laySign_44 rfl (lv_at hl 1 rfl) ?_
    refine va_get (D := D.1) (ci := 0) (v := .int v0_size) (C := RX1) (T := TX1) (N := 9) hx hb hts hwX1 hown hK.1 hP 0 rfl rfl 5 (by decide) l28 (fun _ h9 => h9) rfl dX1_laySign_45 ?_
    refine lv_iload_n hx hb dX1_laySign_48 rfl (lv_at hl 2 rfl) ?_
    obtain ⟨h_5, hf⟩ := gd hf
    refine va_iast hx hb hK.1 hP hD hS 1 1 rfl rfl h_5 dX1_laySign_49 (fun H locs hP hD hS => ?_)
    have hP : va_P D.1 vwCl [(a0, .inr (0, [.ref a0_signs, .ref a0_starts, .ref a0_lengths, .ref a0_piecesOfRuns, .ref a0_heads, .int v0_size, .int v0_runs, .int v0_pieces, .int v0_inRun])), (a0_signs, .inl (D.2 1, 13, .inl (upd g0_signs (v0_size).toNatClampNeg p1))), (a0_starts, .inl (D.2 1, 13, .inl g0_starts)), (a0_lengths, .inl (D.2 1, 13, .inl g0_lengths)), (a0_piecesOfRuns, .inl (D.2 1, 13, .inl g0_piecesOfRuns)), (a0_heads, .inl (D.2 2, 13, .inr (.inl g0_heads)))] H := hP
    have hD : va_D A [(a0, .inr (0, [.ref a0_signs, .ref a0_starts, .ref a0_lengths, .ref a0_piecesOfRuns, .ref a0_heads, .int v0_size, .int v0_runs, .int v0_pieces, .int v0_inRun])), (a0_signs, .inl (D.2 1, 13, .inl (upd g0_signs (v0_size).toNatClampNeg p1))), (a0_starts, .inl (D.2 1, 13, .inl g0_starts)), (a0_lengths, .inl (D.2 1, 13, .inl g0_lengths)), (a0_piecesOfRuns, .inl (D.2 1, 13, .inl g0_piecesOfRuns)), (a0_heads, .inl (D.2 2, 13, .inr (.inl g0_heads)))] := hD
    refine lv_aload_n hx hb dX1_laySign_50 rfl (lv_at hl 1 rfl) ?_
    refine lv_dup hx hb dX1_laySign_51 rfl ?_
    refine va_get (D := D.1) (ci := 0) (v := .int v0_size) (C := RX1) (T := TX1) (N := 9) hx hb hts hwX1 hown hK.1 hP 0 rfl rfl 5 (by decide) l28 (fun _ h9 => h9) rfl dX1_laySign_52 ?_
    refine lv_iconst (v := 1) hx hb dX1_laySign_55 (by decide) ?_
    refine lv_iadd hx hb dX1_laySign_56 ?_
    refine va_put (D := D.1) (ci := 0) (v := .int (v0_size + (1 : Int32))) (ty := .int) (C := RX1) (T := TX1) (N := 9) hx hb hts hwX1 tyX1 tyX1_ok nmX1 hown hK.1 hP hD hS 0 rfl rfl 5 (by decide) l28 (fun _ h9 => h9) rfl (by decide +kernel) rfl rfl (Nat.le_of_ble_eq_true rfl) dX1_laySign_57 (fun H locs hP hD hS => ?_)
    have hP : va_P D.1 vwCl [(a0, .inr (0, [.ref a0_signs, .ref a0_starts, .ref a0_lengths, .ref a0_piecesOfRuns, .ref a0_heads, .int (v0_size + (1 : Int32)), .int v0_runs, .int v0_pieces, .int v0_inRun])), (a0_signs, .inl (D.2 1, 13, .inl (upd g0_signs (v0_size).toNatClampNeg p1))), (a0_starts, .inl (D.2 1, 13, .inl g0_starts)), (a0_lengths, .inl (D.2 1, 13, .inl g0_lengths)), (a0_piecesOfRuns, .inl (D.2 1, 13, .inl g0_piecesOfRuns)), (a0_heads, .inl (D.2 2, 13, .inr (.inl g0_heads)))] H := hP
    have hD : va_D A [(a0, .inr (0, [.ref a0_signs, .ref a0_starts, .ref a0_lengths, .ref a0_piecesOfRuns, .ref a0_heads, .int (v0_size + (1 : Int32)), .int v0_runs, .int v0_pieces, .int v0_inRun])), (a0_signs, .inl (D.2 1, 13, .inl (upd g0_signs (v0_size).toNatClampNeg p1))), (a0_starts, .inl (D.2 1, 13, .inl g0_starts)), (a0_lengths, .inl (D.2 1, 13, .inl g0_lengths)), (a0_piecesOfRuns, .inl (D.2 1, 13, .inl g0_piecesOfRuns)), (a0_heads, .inl (D.2 2, 13, .inr (.inl g0_heads)))] := hD
    refine lv_aload_n hx hb dX1_laySign_60 rfl (lv_at hl 1 rfl) ?_
    refine va_get (D := D.1) (ci := 0) (v := .ref a0_heads) (C := RX1) (T := TX1) (N := 9) hx hb hts hwX1 hown hK.1 hP 0 rfl rfl 4 (by decide) l24 (fun _ h9 => h9) rfl dX1_laySign_61 ?_
    refine lv_iload_n hx hb dX1_laySign_64 rfl (lv_at hl 0 rfl) ?_
    refine lv_aload_n hx hb dX1_laySign_65 rfl (lv_at hl 1 rfl) ?_
    refine va_get (D := D.1) (ci := 0) (v := .ref a0_heads) (C := RX1) (T := TX1) (N := 9) hx hb hts hwX1 hown hK.1 hP 0 rfl rfl 4 (by decide) l24 (fun _ h9 => h9) rfl dX1_laySign_66 ?_
    refine lv_iload_n hx hb dX1_laySign_69 rfl (lv_at hl 0 rfl) ?_
    obtain ⟨h_6, hf⟩ := gd hf
    refine va_lald hx hb hK.1 hP 5 2 rfl rfl h_6 dX1_laySign_70 ?_
    refine lv_aload_n hx hb dX1_laySign_71 rfl (lv_at hl 1 rfl) ?_
    refine va_get (D := D.1) (ci := 0) (v := .ref a0_lengths) (C := RX1) (T := TX1) (N := 9) hx hb hts hwX1 hown hK.1 hP 0 rfl rfl 2 (by decide) l18 (fun _ h9 => h9) rfl dX1_laySign_72 ?_
    refine lv_iload_n hx hb dX1_laySign_75 rfl (lv_at hl 0 rfl) ?_
    obtain ⟨h_7, hf⟩ := gd hf
    refine va_iald hx hb hK.1 hP 3 1 rfl rfl h_7 dX1_laySign_76 ?_
    refine lv_iload_n hx hb dX1_laySign_77 rfl (lv_at hl 2 rfl) ?_
    obtain ⟨r8, hr8, hf⟩ := bd hf
    refine zSl (As := [.long (g0_heads ((v0_runs - (1 : Int32))).toNatClampNeg), .int (g0_lengths ((v0_runs - (1 : Int32))).toNatClampNeg), .int p1]) (rest := [.int (v0_runs - (1 : Int32)), .ref a0_heads]) (wn := [(a0, .inr (0, [.ref a0_signs, .ref a0_starts, .ref a0_lengths, .ref a0_piecesOfRuns, .ref a0_heads, .int (v0_size + (1 : Int32)), .int v0_runs, .int v0_pieces, .int v0_inRun])), (a0_signs, .inl (D.2 1, 13, .inl (upd g0_signs (v0_size).toNatClampNeg p1))), (a0_starts, .inl (D.2 1, 13, .inl g0_starts)), (a0_lengths, .inl (D.2 1, 13, .inl g0_lengths)), (a0_piecesOfRuns, .inl (D.2 1, 13, .inl g0_piecesOfRuns)), (a0_heads, .inl (D.2 2, 13, .inr (.inl g0_heads)))]) ⟨hx, hb, hml, hown, hts⟩ (mX8_put l D H.size (g0_heads ((v0_runs - (1 : Int32))).toNatClampNeg) (g0_lengths ((v0_runs - (1 : Int32))).toNatClampNeg) p1 r8 hr8) (va_cwS 3 hts gX1_laySign_X8_put rfl rfl rfl (by decide +kernel) ⟨Nat.le_of_ble_eq_true rfl, Nat.le_of_ble_eq_true rfl⟩) hK hP hD hS hA [] [0, 1, 2, 3, 4, 5] [0, 1, 2, 3, 4, 5] rfl (by decide) rfl (by decide) (by decide) rfl (by decide) rfl hl.1 rfl (Nat.le_of_ble_eq_true rfl) dX1_laySign_78 ⟨Nat.zero_le _, Nat.zero_le _⟩ (fun H locs hP hD hS => ?_)
    obtain ⟨h_9, hf⟩ := gd hf
    refine va_last hx hb hK.1 hP hD hS 5 2 rfl rfl h_9 dX1_laySign_81 (fun H locs hP hD hS => ?_)
    have hP : va_P D.1 vwCl [(a0, .inr (0, [.ref a0_signs, .ref a0_starts, .ref a0_lengths, .ref a0_piecesOfRuns, .ref a0_heads, .int (v0_size + (1 : Int32)), .int v0_runs, .int v0_pieces, .int v0_inRun])), (a0_signs, .inl (D.2 1, 13, .inl (upd g0_signs (v0_size).toNatClampNeg p1))), (a0_starts, .inl (D.2 1, 13, .inl g0_starts)), (a0_lengths, .inl (D.2 1, 13, .inl g0_lengths)), (a0_piecesOfRuns, .inl (D.2 1, 13, .inl g0_piecesOfRuns)), (a0_heads, .inl (D.2 2, 13, .inr (.inl (vp_updL g0_heads ((v0_runs - (1 : Int32))).toNatClampNeg r8))))] H := hP
    have hD : va_D A [(a0, .inr (0, [.ref a0_signs, .ref a0_starts, .ref a0_lengths, .ref a0_piecesOfRuns, .ref a0_heads, .int (v0_size + (1 : Int32)), .int v0_runs, .int v0_pieces, .int v0_inRun])), (a0_signs, .inl (D.2 1, 13, .inl (upd g0_signs (v0_size).toNatClampNeg p1))), (a0_starts, .inl (D.2 1, 13, .inl g0_starts)), (a0_lengths, .inl (D.2 1, 13, .inl g0_lengths)), (a0_piecesOfRuns, .inl (D.2 1, 13, .inl g0_piecesOfRuns)), (a0_heads, .inl (D.2 2, 13, .inr (.inl (vp_updL g0_heads ((v0_runs - (1 : Int32))).toNatClampNeg r8))))] := hD
    refine lv_aload_n hx hb dX1_laySign_82 rfl (lv_at hl 1 rfl) ?_
    refine va_get (D := D.1) (ci := 0) (v := .ref a0_lengths) (C := RX1) (T := TX1) (N := 9) hx hb hts hwX1 hown hK.1 hP 0 rfl rfl 2 (by decide) l18 (fun _ h9 => h9) rfl dX1_laySign_83 ?_
    refine lv_iload_n hx hb dX1_laySign_86 rfl (lv_at hl 0 rfl) ?_
    refine lv_dup2_11 hx hb dX1_laySign_87 rfl rfl ?_
    obtain ⟨h_10, hf⟩ := gd hf
    refine va_iald hx hb hK.1 hP 3 1 rfl rfl h_10 dX1_laySign_88 ?_
    refine lv_iconst (v := 1) hx hb dX1_laySign_89 (by decide) ?_
    refine lv_iadd hx hb dX1_laySign_90 ?_
    obtain ⟨h_11, hf⟩ := gd hf
    refine va_iast hx hb hK.1 hP hD hS 3 1 rfl rfl h_11 dX1_laySign_91 (fun H locs hP hD hS => ?_)
    have hP : va_P D.1 vwCl [(a0, .inr (0, [.ref a0_signs, .ref a0_starts, .ref a0_lengths, .ref a0_piecesOfRuns, .ref a0_heads, .int (v0_size + (1 : Int32)), .int v0_runs, .int v0_pieces, .int v0_inRun])), (a0_signs, .inl (D.2 1, 13, .inl (upd g0_signs (v0_size).toNatClampNeg p1))), (a0_starts, .inl (D.2 1, 13, .inl g0_starts)), (a0_lengths, .inl (D.2 1, 13, .inl (upd g0_lengths ((v0_runs - (1 : Int32))).toNatClampNeg ((g0_lengths ((v0_runs - (1 : Int32))).toNatClampNeg) + (1 : Int32))))), (a0_piecesOfRuns, .inl (D.2 1, 13, .inl g0_piecesOfRuns)), (a0_heads, .inl (D.2 2, 13, .inr (.inl (vp_updL g0_heads ((v0_runs - (1 : Int32))).toNatClampNeg r8))))] H := hP
    have hD : va_D A [(a0, .inr (0, [.ref a0_signs, .ref a0_starts, .ref a0_lengths, .ref a0_piecesOfRuns, .ref a0_heads, .int (v0_size + (1 : Int32)), .int v0_runs, .int v0_pieces, .int v0_inRun])), (a0_signs, .inl (D.2 1, 13, .inl (upd g0_signs (v0_size).toNatClampNeg p1))), (a0_starts, .inl (D.2 1, 13, .inl g0_starts)), (a0_lengths, .inl (D.2 1, 13, .inl (upd g0_lengths ((v0_runs - (1 : Int32))).toNatClampNeg ((g0_lengths ((v0_runs - (1 : Int32))).toNatClampNeg) + (1 : Int32))))), (a0_piecesOfRuns, .inl (D.2 1, 13, .inl g0_piecesOfRuns)), (a0_heads, .inl (D.2 2, 13, .inr (.inl (vp_updL g0_heads ((v0_runs - (1 : Int32))).toNatClampNeg r8))))] := hD
    have he := Option.some.inj hf
    rw [hQ]
    exact W.vret hx hb hr (fun t ht hW => by rw [← he]; exact ⟨⟨(), rfl, trivial, by rw [ht]; exact hP, hD⟩, hS.F ht⟩) hS.2.2 dX1_laySign_92
  unfold fX1_laySign at hf
  refine lv_iload_n hx hb dX1_laySign_0 rfl (lv_at hl 1 rfl) ?_
  refine lv_bipush (v := 63) hx hb dX1_laySign_1 (by decide) ?_
  refine lv_icmp_ne (tgt := 12) hx hb dX1_laySign_3 (by decide) (fun c_1 => ?_) (fun c_1 => ?_)
  · replace hf := im c_1 hf
    refine lv_aload_n hx hb dX1_laySign_12 rfl (lv_at hl 0 rfl) ?_
    refine va_get (D := D.1) (ci := 0) (v := .int v0_size) (C := RX1) (T := TX1) (N := 9) hx hb hts hwX1 hown hK.1 hP 0 rfl rfl 5 (by decide) l28 (fun _ h9 => h9) rfl dX1_laySign_13 ?_
    refine lv_bipush (v := 13) hx hb dX1_laySign_16 (by decide) ?_
    refine lv_icmp_lt (tgt := 22) hx hb dX1_laySign_18 (by decide) (fun c_2 => ?_) (fun c_2 => ?_)
    · replace hf := ip c_2 hf
      refine lv_aload_n hx hb dX1_laySign_22 rfl (lv_at hl 0 rfl) ?_
      refine va_get (D := D.1) (ci := 0) (v := .int v0_inRun) (C := RX1) (T := TX1) (N := 9) hx hb hts hwX1 hown hK.1 hP 0 rfl rfl 8 (by decide) l68 (fun _ h9 => h9) rfl dX1_laySign_23 ?_
      refine lv_if_ne (tgt := 33) hx hb dX1_laySign_26 (by decide) (fun c_3 => ?_) (fun c_3 => ?_)
      · replace hf := im c_3 hf
        exact k33 v0_size v0_runs v0_inRun g0_signs g0_starts g0_lengths g0_piecesOfRuns g0_heads H locs ls hf hP hD hS hl
      · replace hf := ip c_3 hf
        refine lv_aload_n hx hb dX1_laySign_29 rfl (lv_at hl 0 rfl) ?_
        obtain ⟨r4, hr4, hf⟩ := bd hf
        refine zVv (As := []) (rest := []) (ci := 0) (q0 := 0) (wn := [(a0, .inr (0, [.ref a0_signs, .ref a0_starts, .ref a0_lengths, .ref a0_piecesOfRuns, .ref a0_heads, .int v0_size, .int r4.1, .int v0_pieces, .int r4.2.1])), (a0_signs, .inl (D.2 1, 13, .inl g0_signs)), (a0_starts, .inl (D.2 1, 13, .inl r4.2.2.1)), (a0_lengths, .inl (D.2 1, 13, .inl r4.2.2.2.1)), (a0_piecesOfRuns, .inl (D.2 1, 13, .inl r4.2.2.2.2.1)), (a0_heads, .inl (D.2 2, 13, .inr (.inl r4.2.2.2.2.2)))]) ⟨hx, hb, hml, hown, hts⟩ (mX1_beginRun l D a0 a0_signs a0_starts a0_lengths a0_piecesOfRuns a0_heads H.size v0_size v0_runs v0_pieces v0_inRun g0_starts g0_lengths g0_piecesOfRuns g0_heads r4 hr4) (cwV 0 hts gX1_laySign_X1_beginRun rfl rfl rfl (by decide +kernel) ⟨Nat.le_of_ble_eq_true rfl, Nat.le_of_ble_eq_true rfl⟩) hK hP hD hS hA [0, 2, 3, 4, 5] [1] [1, 0, 2, 3, 4, 5] rfl (by decide) rfl (by decide) (by decide) rfl (by decide) rfl rfl rfl hl.1 rfl (Nat.le_of_ble_eq_true rfl) dX1_laySign_30 ⟨Nat.zero_le _, Nat.zero_le _⟩ (fun H locs hP hD hS => ?_)
        exact k33 v0_size r4.1 r4.2.1 g0_signs r4.2.2.1 r4.2.2.2.1 r4.2.2.2.2.1 r4.2.2.2.2.2 H locs ls hf hP hD hS hl
    · replace hf := im c_2 hf
      have he := Option.some.inj hf
      rw [hQ]
      exact W.vret hx hb hr (fun t ht hW => by rw [← he]; exact ⟨⟨(), rfl, trivial, by rw [ht]; exact hP, hD⟩, hS.F ht⟩) hS.2.2 dX1_laySign_21
  · replace hf := ip c_1 hf
    refine lv_aload_n hx hb dX1_laySign_6 rfl (lv_at hl 0 rfl) ?_
    refine lv_iconst (v := 0) hx hb dX1_laySign_7 (by decide) ?_
    refine va_put (D := D.1) (ci := 0) (v := .int (0 : Int32)) (ty := .boolean) (C := RX1) (T := TX1) (N := 9) hx hb hts hwX1 tyX1 tyX1_ok nmX1 hown hK.1 hP hD hS 0 rfl rfl 8 (by decide) l68 (fun _ h9 => h9) rfl (by decide +kernel) (znb (Or.inl rfl)) rfl (Nat.le_of_ble_eq_true rfl) dX1_laySign_8 (fun H locs hP hD hS => ?_)
    have hP : va_P D.1 vwCl [(a0, .inr (0, [.ref a0_signs, .ref a0_starts, .ref a0_lengths, .ref a0_piecesOfRuns, .ref a0_heads, .int v0_size, .int v0_runs, .int v0_pieces, .int (0 : Int32)])), (a0_signs, .inl (D.2 1, 13, .inl g0_signs)), (a0_starts, .inl (D.2 1, 13, .inl g0_starts)), (a0_lengths, .inl (D.2 1, 13, .inl g0_lengths)), (a0_piecesOfRuns, .inl (D.2 1, 13, .inl g0_piecesOfRuns)), (a0_heads, .inl (D.2 2, 13, .inr (.inl g0_heads)))] H := hP
    have hD : va_D A [(a0, .inr (0, [.ref a0_signs, .ref a0_starts, .ref a0_lengths, .ref a0_piecesOfRuns, .ref a0_heads, .int v0_size, .int v0_runs, .int v0_pieces, .int (0 : Int32)])), (a0_signs, .inl (D.2 1, 13, .inl g0_signs)), (a0_starts, .inl (D.2 1, 13, .inl g0_starts)), (a0_lengths, .inl (D.2 1, 13, .inl g0_lengths)), (a0_piecesOfRuns, .inl (D.2 1, 13, .inl g0_piecesOfRuns)), (a0_heads, .inl (D.2 2, 13, .inr (.inl g0_heads)))] := hD
    have he := Option.some.inj hf
    rw [hQ]
    exact W.vret hx hb hr (fun t ht hW => by rw [← he]; exact ⟨⟨(), rfl, trivial, by rw [ht]; exact hP, hD⟩, hS.F ht⟩) hS.2.2 dX1_laySign_11
def fX1_layPart_3 (N : Nat) (v0_pieces : Int32) (v1_size : Int32) (g1_signs : Nat → Int32) (p2 : Int32) (p3 : Int32) : Nat → Int32 → Int32 → Int32 → Int32 → (Nat → Int32) → (Nat → Int32) → (Nat → Int32) → (Nat → Int32) → (Nat → Int64) → Option (Int32 × Int32 × Int32 × (Nat → Int32) × (Nat → Int32) × (Nat → Int32) × (Nat → Int32) × (Nat → Int64))
  | 0, _, _, _, _, _, _, _, _, _ => none
  | K + 1, x4, v0_size, v0_runs, v0_inRun, g0_signs, g0_starts, g0_lengths, g0_piecesOfRuns, g0_heads =>
    if p3 ≤ x4 then
      some (v0_size, v0_runs, v0_inRun, g0_signs, g0_starts, g0_lengths, g0_piecesOfRuns, g0_heads)
    else
      Option.bind (fX5_at v1_size g1_signs x4) fun r2 =>
      Option.bind (fX1_laySign v0_size v0_runs v0_pieces v0_inRun g0_signs g0_starts g0_lengths g0_piecesOfRuns g0_heads r2) fun r3 =>
      (fX1_layPart_3 N v0_pieces v1_size g1_signs p2 p3 K) (x4 + (1 : Int32)) r3.1 r3.2.1 r3.2.2.1 r3.2.2.2.1 r3.2.2.2.2.1 r3.2.2.2.2.2.1 r3.2.2.2.2.2.2.1 r3.2.2.2.2.2.2.2
def fX1_layPart (N : Nat) (v0_size : Int32) (v0_runs : Int32) (v0_pieces : Int32) (v0_inRun : Int32) (g0_signs : Nat → Int32) (g0_starts : Nat → Int32) (g0_lengths : Nat → Int32) (g0_piecesOfRuns : Nat → Int32) (g0_heads : Nat → Int64) (v1_size : Int32) (g1_signs : Nat → Int32) (p2 : Int32) (p3 : Int32) : Option (Int32 × Int32 × Int32 × (Nat → Int32) × (Nat → Int32) × (Nat → Int32) × (Nat → Int32) × (Nat → Int64)) :=
  fX1_layPart_3 N v0_pieces v1_size g1_signs p2 p3 N p2 v0_size v0_runs v0_inRun g0_signs g0_starts g0_lengths g0_piecesOfRuns g0_heads
set_option maxHeartbeats 4000000 in
set_option maxRecDepth 100000 in
theorem mX1_layPart (l : Launch) (D : zG) (a0 : Nat) (a0_signs : Nat) (a0_starts : Nat) (a0_lengths : Nat) (a0_piecesOfRuns : Nat) (a0_heads : Nat) (a1 : Nat) (a1_signs : Nat) (sz : Nat)  (v0_size : Int32) (v0_runs : Int32) (v0_pieces : Int32) (v0_inRun : Int32) (g0_signs : Nat → Int32) (g0_starts : Nat → Int32) (g0_lengths : Nat → Int32) (g0_piecesOfRuns : Nat → Int32) (g0_heads : Nat → Int64) (v1_size : Int32) (g1_signs : Nat → Int32) (p2 : Int32) (p3 : Int32) (N : Nat) (res : Int32 × Int32 × Int32 × (Nat → Int32) × (Nat → Int32) × (Nat → Int32) × (Nat → Int32) × (Nat → Int64)) (hf : fX1_layPart N v0_size v0_runs v0_pieces v0_inRun g0_signs g0_starts g0_lengths g0_piecesOfRuns g0_heads v1_size g1_signs p2 p3 = some res) : Met l yX1_layPart wsX1_layPart ({ frames := 3, cells := 0, slots := 0, locals := 65 } : Room) (va_Pc [.ref a0, .ref a1, .int p2, .int p3] (zW D sz [(a0, .inr (0, [.ref a0_signs, .ref a0_starts, .ref a0_lengths, .ref a0_piecesOfRuns, .ref a0_heads, .int v0_size, .int v0_runs, .int v0_pieces, .int v0_inRun])), (a0_signs, .inl (D.2 1, 13, .inl g0_signs)), (a0_starts, .inl (D.2 1, 13, .inl g0_starts)), (a0_lengths, .inl (D.2 1, 13, .inl g0_lengths)), (a0_piecesOfRuns, .inl (D.2 1, 13, .inl g0_piecesOfRuns)), (a0_heads, .inl (D.2 2, 13, .inr (.inl g0_heads))), (a1, .inr (4, [.ref a1_signs, .int v1_size])), (a1_signs, .inl (D.2 1, 12, .inl g1_signs))])) (va_Qv (fun (_ : Unit) => True) (fun _ => zB D (va_A [(a0, .inr (0, [.ref a0_signs, .ref a0_starts, .ref a0_lengths, .ref a0_piecesOfRuns, .ref a0_heads, .int v0_size, .int v0_runs, .int v0_pieces, .int v0_inRun])), (a0_signs, .inl (D.2 1, 13, .inl g0_signs)), (a0_starts, .inl (D.2 1, 13, .inl g0_starts)), (a0_lengths, .inl (D.2 1, 13, .inl g0_lengths)), (a0_piecesOfRuns, .inl (D.2 1, 13, .inl g0_piecesOfRuns)), (a0_heads, .inl (D.2 2, 13, .inr (.inl g0_heads))), (a1, .inr (4, [.ref a1_signs, .int v1_size])), (a1_signs, .inl (D.2 1, 12, .inl g1_signs))] sz) [(a0, .inr (0, [.ref a0_signs, .ref a0_starts, .ref a0_lengths, .ref a0_piecesOfRuns, .ref a0_heads, .int res.1, .int res.2.1, .int v0_pieces, .int res.2.2.1])), (a0_signs, .inl (D.2 1, 13, .inl res.2.2.2.1)), (a0_starts, .inl (D.2 1, 13, .inl res.2.2.2.2.1)), (a0_lengths, .inl (D.2 1, 13, .inl res.2.2.2.2.2.1)), (a0_piecesOfRuns, .inl (D.2 1, 13, .inl res.2.2.2.2.2.2.1)), (a0_heads, .inl (D.2 2, 13, .inr (.inl res.2.2.2.2.2.2.2))), (a1, .inr (4, [.ref a1_signs, .int v1_size])), (a1_signs, .inl (D.2 1, 12, .inl g1_signs))]) (va_A [(a0, .inr (0, [.ref a0_signs, .ref a0_starts, .ref a0_lengths, .ref a0_piecesOfRuns, .ref a0_heads, .int v0_size, .int v0_runs, .int v0_pieces, .int v0_inRun])), (a0_signs, .inl (D.2 1, 13, .inl g0_signs)), (a0_starts, .inl (D.2 1, 13, .inl g0_starts)), (a0_lengths, .inl (D.2 1, 13, .inl g0_lengths)), (a0_piecesOfRuns, .inl (D.2 1, 13, .inl g0_piecesOfRuns)), (a0_heads, .inl (D.2 2, 13, .inr (.inl g0_heads))), (a1, .inr (4, [.ref a1_signs, .int v1_size])), (a1_signs, .inl (D.2 1, 12, .inl g1_signs))] sz)) 0 0 (va_A [(a0, .inr (0, [.ref a0_signs, .ref a0_starts, .ref a0_lengths, .ref a0_piecesOfRuns, .ref a0_heads, .int v0_size, .int v0_runs, .int v0_pieces, .int v0_inRun])), (a0_signs, .inl (D.2 1, 13, .inl g0_signs)), (a0_starts, .inl (D.2 1, 13, .inl g0_starts)), (a0_lengths, .inl (D.2 1, 13, .inl g0_lengths)), (a0_piecesOfRuns, .inl (D.2 1, 13, .inl g0_piecesOfRuns)), (a0_heads, .inl (D.2 2, 13, .inr (.inl g0_heads))), (a1, .inr (4, [.ref a1_signs, .int v1_size])), (a1_signs, .inl (D.2 1, 12, .inl g1_signs))] sz) := by
  refine Met.ofW (cc := cX1_layPart) (maxL := 5) (ret := none) (by decide) rfl ?_
  intro p e s m args below meth c s₁ B hml hv
  obtain ⟨rfl, hsz, hP, hK, hD0⟩ := hv
  have hx := B.exec
  have hb := B.bytes
  have hr := B.returns
  have hts := atoms_spec (ws := wsX1_layPart) B.pre
  have hown : s.vm.findClass RX1 = some m.cls := findClass_of_methodNamed B.named
  have hlocks := B.notSynchronized
  subst hsz
  have hD := hD0.self (sz := s.heap.size)
  generalize hAe : va_A [(a0, .inr (0, [.ref a0_signs, .ref a0_starts, .ref a0_lengths, .ref a0_piecesOfRuns, .ref a0_heads, .int v0_size, .int v0_runs, .int v0_pieces, .int v0_inRun])), (a0_signs, .inl (D.2 1, 13, .inl g0_signs)), (a0_starts, .inl (D.2 1, 13, .inl g0_starts)), (a0_lengths, .inl (D.2 1, 13, .inl g0_lengths)), (a0_piecesOfRuns, .inl (D.2 1, 13, .inl g0_piecesOfRuns)), (a0_heads, .inl (D.2 2, 13, .inr (.inl g0_heads))), (a1, .inr (4, [.ref a1_signs, .int v1_size])), (a1_signs, .inl (D.2 1, 12, .inl g1_signs))] s.heap.size = A at hD ⊢
  have hA : ∀ q : Nat, s.heap.size ≤ q → A q := fun q h => by rw [← hAe]; exact Or.inr h
  have hl := lv_entry ([.ref a0, .ref a1, .int p2, .int p3]) (n := 5) (Nat.le_of_ble_eq_true rfl)
  rw [lg_entry_eq]
  generalize (lg_sl ([.ref a0, .ref a1, .int p2, .int p3]) ++ List.replicate (5 - (lg_sl ([.ref a0, .ref a1, .int p2, .int p3])).length) Slot.unset).toArray = ls at hl ⊢
  have hl : lv_has ls 5 [(0, .ref a0), (1, .ref a1), (2, .int p2), (3, .int p3)] := hl
  refine zStart (A := A) hP (fun Q0 H locs hQ hP hS => ?_)
  have k3 : ∀ K : Nat, ∀ (x4 : Int32) (v0_size : Int32) (v0_runs : Int32) (v0_inRun : Int32) (g0_signs : Nat → Int32) (g0_starts : Nat → Int32) (g0_lengths : Nat → Int32) (g0_piecesOfRuns : Nat → Int32) (g0_heads : Nat → Int64) (H : Heap) (locs : List Loc) (ls : Array Slot), fX1_layPart_3 N v0_pieces v1_size g1_signs p2 p3 K x4 v0_size v0_runs v0_inRun g0_signs g0_starts g0_lengths g0_piecesOfRuns g0_heads = some res → va_P D.1 vwCl [(a0, .inr (0, [.ref a0_signs, .ref a0_starts, .ref a0_lengths, .ref a0_piecesOfRuns, .ref a0_heads, .int v0_size, .int v0_runs, .int v0_pieces, .int v0_inRun])), (a0_signs, .inl (D.2 1, 13, .inl g0_signs)), (a0_starts, .inl (D.2 1, 13, .inl g0_starts)), (a0_lengths, .inl (D.2 1, 13, .inl g0_lengths)), (a0_piecesOfRuns, .inl (D.2 1, 13, .inl g0_piecesOfRuns)), (a0_heads, .inl (D.2 2, 13, .inr (.inl g0_heads))), (a1, .inr (4, [.ref a1_signs, .int v1_size])), (a1_signs, .inl (D.2 1, 12, .inl g1_signs))] H → va_D A [(a0, .inr (0, [.ref a0_signs, .ref a0_starts, .ref a0_lengths, .ref a0_piecesOfRuns, .ref a0_heads, .int v0_size, .int v0_runs, .int v0_pieces, .int v0_inRun])), (a0_signs, .inl (D.2 1, 13, .inl g0_signs)), (a0_starts, .inl (D.2 1, 13, .inl g0_starts)), (a0_lengths, .inl (D.2 1, 13, .inl g0_lengths)), (a0_piecesOfRuns, .inl (D.2 1, 13, .inl g0_piecesOfRuns)), (a0_heads, .inl (D.2 2, 13, .inr (.inl g0_heads))), (a1, .inr (4, [.ref a1_signs, .int v1_size])), (a1_signs, .inl (D.2 1, 12, .inl g1_signs))] → va_S A s.heap H locs → lv_has ls 5 [(0, .ref a0), (1, .ref a1), (3, .int p3), (4, .int x4)] → W p l e (headSpec wsX1_layPart ({ frames := 3, cells := 0, slots := 0, locals := 65 } : Room)).room s m ([.ref a0, .ref a1, .int p2, .int p3] : List Value).toArray below meth c H locs 0 0 Q0 (F0 m 3 ls []) := by
    intro K
    induction K with
    | zero =>
      intro x4 v0_size v0_runs v0_inRun g0_signs g0_starts g0_lengths g0_piecesOfRuns g0_heads H locs ls hf
      rw [fX1_layPart_3] at hf
      cases hf
    | succ K ih =>
      intro x4 v0_size v0_runs v0_inRun g0_signs g0_starts g0_lengths g0_piecesOfRuns g0_heads H locs ls hf hP hD hS hl
      rw [fX1_layPart_3] at hf
      refine lv_iload hx hb dX1_layPart_3 (lv_at hl 3 rfl) ?_
      refine lv_iload_n hx hb dX1_layPart_5 rfl (lv_at hl 2 rfl) ?_
      refine lv_icmp_ge (tgt := 25) hx hb dX1_layPart_6 (by decide) (fun c_1 => ?_) (fun c_1 => ?_)
      · replace hf := ip c_1 hf
        have he := Option.some.inj hf
        rw [hQ]
        exact W.vret hx hb hr (fun t ht hW => by rw [← he]; exact ⟨⟨(), rfl, trivial, by rw [ht]; exact hP, hD⟩, hS.F ht⟩) hS.2.2 dX1_layPart_25
      · replace hf := im c_1 hf
        refine lv_aload_n hx hb dX1_layPart_9 rfl (lv_at hl 0 rfl) ?_
        refine lv_aload_n hx hb dX1_layPart_10 rfl (lv_at hl 1 rfl) ?_
        refine lv_iload hx hb dX1_layPart_11 (lv_at hl 3 rfl) ?_
        obtain ⟨r2, hr2, hf⟩ := bd hf
        refine zVi (As := [.int x4]) (rest := [.ref a0]) (ci := 4) (q0 := 0) (wn := [(a0, .inr (0, [.ref a0_signs, .ref a0_starts, .ref a0_lengths, .ref a0_piecesOfRuns, .ref a0_heads, .int v0_size, .int v0_runs, .int v0_pieces, .int v0_inRun])), (a0_signs, .inl (D.2 1, 13, .inl g0_signs)), (a0_starts, .inl (D.2 1, 13, .inl g0_starts)), (a0_lengths, .inl (D.2 1, 13, .inl g0_lengths)), (a0_piecesOfRuns, .inl (D.2 1, 13, .inl g0_piecesOfRuns)), (a0_heads, .inl (D.2 2, 13, .inr (.inl g0_heads))), (a1, .inr (4, [.ref a1_signs, .int v1_size])), (a1_signs, .inl (D.2 1, 12, .inl g1_signs))]) ⟨hx, hb, hml, hown, hts⟩ (mX5_at l D a1 a1_signs H.size v1_size g1_signs x4 r2 hr2) (cwV 1 hts gX1_layPart_X5_at rfl rfl rfl (by decide +kernel) ⟨Nat.le_of_ble_eq_true rfl, Nat.le_of_ble_eq_true rfl⟩) hK hP hD hS hA [6, 7] [0, 1, 2, 3, 4, 5] [0, 1, 2, 3, 4, 5, 6, 7] rfl (by decide) rfl (by decide) (by decide) rfl (by decide) rfl rfl rfl hl.1 rfl (Nat.le_of_ble_eq_true rfl) dX1_layPart_13 ⟨Nat.zero_le _, Nat.zero_le _⟩ (fun H locs hP hD hS => ?_)
        obtain ⟨r3, hr3, hf⟩ := bd hf
        refine zVv (As := [.int r2]) (rest := []) (ci := 0) (q0 := 0) (wn := [(a0, .inr (0, [.ref a0_signs, .ref a0_starts, .ref a0_lengths, .ref a0_piecesOfRuns, .ref a0_heads, .int r3.1, .int r3.2.1, .int v0_pieces, .int r3.2.2.1])), (a0_signs, .inl (D.2 1, 13, .inl r3.2.2.2.1)), (a0_starts, .inl (D.2 1, 13, .inl r3.2.2.2.2.1)), (a0_lengths, .inl (D.2 1, 13, .inl r3.2.2.2.2.2.1)), (a0_piecesOfRuns, .inl (D.2 1, 13, .inl r3.2.2.2.2.2.2.1)), (a0_heads, .inl (D.2 2, 13, .inr (.inl r3.2.2.2.2.2.2.2))), (a1, .inr (4, [.ref a1_signs, .int v1_size])), (a1_signs, .inl (D.2 1, 12, .inl g1_signs))]) ⟨hx, hb, hml, hown, hts⟩ (mX1_laySign l D a0 a0_signs a0_starts a0_lengths a0_piecesOfRuns a0_heads H.size v0_size v0_runs v0_pieces v0_inRun g0_signs g0_starts g0_lengths g0_piecesOfRuns g0_heads r2 r3 hr3) (cwV 1 hts gX1_layPart_X1_laySign rfl rfl rfl (by decide +kernel) ⟨Nat.le_of_ble_eq_true rfl, Nat.le_of_ble_eq_true rfl⟩) hK hP hD hS hA [0, 1, 2, 3, 4, 5] [6, 7] [2, 3, 4, 5, 6, 7, 0, 1] rfl (by decide) rfl (by decide) (by decide) rfl (by decide) rfl rfl rfl hl.1 rfl (Nat.le_of_ble_eq_true rfl) dX1_layPart_16 ⟨Nat.zero_le _, Nat.zero_le _⟩ (fun H locs hP hD hS => ?_)
        refine lv_iinc (v := (x4 + (1 : Int32))) (lv' := [(4, .int (x4 + (1 : Int32))), (0, .ref a0), (1, .ref a1), (3, .int p3)]) hx hb dX1_layPart_19 hl (k := 3) rfl rfl (by decide) rfl (fun ls hl => ?_)
        refine lv_goto (tgt := 3) hx hb dX1_layPart_22 (by decide) ?_
        exact ih (x4 + (1 : Int32)) r3.1 r3.2.1 r3.2.2.1 r3.2.2.2.1 r3.2.2.2.2.1 r3.2.2.2.2.2.1 r3.2.2.2.2.2.2.1 r3.2.2.2.2.2.2.2 H locs ls hf hP hD hS (lv_sub hl [1, 2, 3, 0] rfl)
  unfold fX1_layPart at hf
  refine lv_iload_n hx hb dX1_layPart_0 rfl (lv_at hl 2 rfl) ?_
  refine lv_istore (lv' := [(4, .int p2), (0, .ref a0), (1, .ref a1), (2, .int p2), (3, .int p3)]) hx hb dX1_layPart_1 hl (by decide) rfl (fun ls hl => ?_)
  exact k3 N p2 v0_size v0_runs v0_inRun g0_signs g0_starts g0_lengths g0_piecesOfRuns g0_heads H locs ls hf hP hD hS (lv_sub hl [1, 2, 4, 0] rfl)
