def fX3_firstAlone_19 (N : Nat) (v0_turns_size : Int32) (g0_turns_rows : Nat → Int64) (p1 : Int64) (p3 : Int32) : Nat → Int32 → Int32 → Option (Int32)
  | 0, _, _ => none
  | K + 1, x4, x5 =>
    if x4 < x5 then
      some ((-1 : Int32))
    else
      Option.bind (fX8_turned N p1 x5) fun r4 =>
      Option.bind (fX8_head r4 p3) fun r5 =>
      Option.bind (fX3_wordsThatTurnTo N v0_turns_size g0_turns_rows r5 p3) fun r6 =>
      Option.bind (fJ13_bitCount_95d88 r6) fun r7 =>
      if r7 = (1 : Int32) then
        some (x5)
      else
        (fX3_firstAlone_19 N v0_turns_size g0_turns_rows p1 p3 K) x4 (x5 + (1 : Int32))
def fX3_firstAlone (N : Nat) (v0_turns_size : Int32) (g0_turns_rows : Nat → Int64) (p1 : Int64) (p3 : Int32) : Option (Int32) :=
  Option.bind (fX8_length N p1) fun r1 =>
  if p3 ≤ (r1 + (1 : Int32)) then
    fX3_firstAlone_19 N v0_turns_size g0_turns_rows p1 p3 N r1 (0 : Int32)
  else
    some ((-1 : Int32))
set_option maxHeartbeats 4000000 in
set_option maxRecDepth 100000 in
theorem mX3_firstAlone (l : Launch) (D : zG) (a0 : Nat) (a0_turns : Nat) (a0_turns_rows : Nat) (sz : Nat)  (v0_turns_size : Int32) (g0_turns_rows : Nat → Int64) (p1 : Int64) (p3 : Int32) (N : Nat) (res : Int32) (hf : fX3_firstAlone N v0_turns_size g0_turns_rows p1 p3 = some res) : Met l yX3_firstAlone wsX3_firstAlone ({ frames := 4, cells := 0, slots := 0, locals := 97 } : Room) (va_Pc [.ref a0, .long p1, .int p3] (zW D sz [(a0, .inr (2, [.ref a0_turns])), (a0_turns, .inr (5, [.ref a0_turns_rows, .int v0_turns_size])), (a0_turns_rows, .inl (D.2 2, 320, .inr (.inl g0_turns_rows)))])) (va_Qi (fun r (_ : Unit) => r = res) (fun _ => zB D (va_A [(a0, .inr (2, [.ref a0_turns])), (a0_turns, .inr (5, [.ref a0_turns_rows, .int v0_turns_size])), (a0_turns_rows, .inl (D.2 2, 320, .inr (.inl g0_turns_rows)))] sz) [(a0, .inr (2, [.ref a0_turns])), (a0_turns, .inr (5, [.ref a0_turns_rows, .int v0_turns_size])), (a0_turns_rows, .inl (D.2 2, 320, .inr (.inl g0_turns_rows)))]) (va_A [(a0, .inr (2, [.ref a0_turns])), (a0_turns, .inr (5, [.ref a0_turns_rows, .int v0_turns_size])), (a0_turns_rows, .inl (D.2 2, 320, .inr (.inl g0_turns_rows)))] sz)) 0 0 (va_A [(a0, .inr (2, [.ref a0_turns])), (a0_turns, .inr (5, [.ref a0_turns_rows, .int v0_turns_size])), (a0_turns_rows, .inl (D.2 2, 320, .inr (.inl g0_turns_rows)))] sz) := by
  refine Met.ofW (cc := cX3_firstAlone) (maxL := 8) (ret := (some .int)) (by decide) rfl ?_
  intro p e s m args below meth c s₁ B hml hv
  obtain ⟨rfl, hsz, hP, hK, hD0⟩ := hv
  have hx := B.exec
  have hb := B.bytes
  have hr := B.returns
  have hts := atoms_spec (ws := wsX3_firstAlone) B.pre
  have hown : s.vm.findClass RX3 = some m.cls := findClass_of_methodNamed B.named
  have hlocks := B.notSynchronized
  subst hsz
  have hD := hD0.self (sz := s.heap.size)
  generalize hAe : va_A [(a0, .inr (2, [.ref a0_turns])), (a0_turns, .inr (5, [.ref a0_turns_rows, .int v0_turns_size])), (a0_turns_rows, .inl (D.2 2, 320, .inr (.inl g0_turns_rows)))] s.heap.size = A at hD ⊢
  have hA : ∀ q : Nat, s.heap.size ≤ q → A q := fun q h => by rw [← hAe]; exact Or.inr h
  have hl := lv_entry ([.ref a0, .long p1, .int p3]) (n := 8) (Nat.le_of_ble_eq_true rfl)
  rw [lg_entry_eq]
  generalize (lg_sl ([.ref a0, .long p1, .int p3]) ++ List.replicate (8 - (lg_sl ([.ref a0, .long p1, .int p3])).length) Slot.unset).toArray = ls at hl ⊢
  have hl : lv_has ls 8 [(0, .ref a0), (1, .long p1), (3, .int p3)] := hl
  refine zStart (A := A) hP (fun Q0 H locs hQ hP hS => ?_)
  have k19 : ∀ K : Nat, ∀ (x4 : Int32) (x5 : Int32) (H : Heap) (locs : List Loc) (ls : Array Slot), fX3_firstAlone_19 N v0_turns_size g0_turns_rows p1 p3 K x4 x5 = some res → va_P D.1 vwCl [(a0, .inr (2, [.ref a0_turns])), (a0_turns, .inr (5, [.ref a0_turns_rows, .int v0_turns_size])), (a0_turns_rows, .inl (D.2 2, 320, .inr (.inl g0_turns_rows)))] H → va_D A [(a0, .inr (2, [.ref a0_turns])), (a0_turns, .inr (5, [.ref a0_turns_rows, .int v0_turns_size])), (a0_turns_rows, .inl (D.2 2, 320, .inr (.inl g0_turns_rows)))] → va_S A s.heap H locs → lv_has ls 8 [(0, .ref a0), (1, .long p1), (3, .int p3), (4, .int x4), (5, .int x5)] → W p l e (headSpec wsX3_firstAlone ({ frames := 4, cells := 0, slots := 0, locals := 97 } : Room)).room s m ([.ref a0, .long p1, .int p3] : List Value).toArray below meth c H locs 0 0 Q0 (F0 m 19 ls []) := by
    intro K
    induction K with
    | zero =>
      intro x4 x5 H locs ls hf
      rw [fX3_firstAlone_19] at hf
      cases hf
    | succ K ih =>
      intro x4 x5 H locs ls hf hP hD hS hl
      rw [fX3_firstAlone_19] at hf
      refine lv_iload hx hb dX3_firstAlone_19 (lv_at hl 4 rfl) ?_
      refine lv_iload hx hb dX3_firstAlone_21 (lv_at hl 3 rfl) ?_
      refine lv_icmp_gt (tgt := 61) hx hb dX3_firstAlone_23 (by decide) (fun c_3 => ?_) (fun c_3 => ?_)
      · replace hf := ip c_3 hf
        refine lv_iconst (v := -1) hx hb dX3_firstAlone_61 (by decide) ?_
        have he := Option.some.inj hf
        rw [hQ]
        exact W.iret (v := (-1 : Int32)) hx hb hr (fun t ht hW => by rw [← he]; exact ⟨⟨(-1 : Int32), (), rfl, rfl, by rw [ht]; exact hP, hD⟩, hS.F ht⟩) hS.2.2 dX3_firstAlone_62
      · replace hf := im c_3 hf
        refine lv_lload_n hx hb dX3_firstAlone_26 rfl (lv_at hl 1 rfl) ?_
        refine lv_iload hx hb dX3_firstAlone_27 (lv_at hl 4 rfl) ?_
        obtain ⟨r4, hr4, hf⟩ := bd hf
        refine zSl (As := [.long p1, .int x5]) (rest := []) (wn := [(a0, .inr (2, [.ref a0_turns])), (a0_turns, .inr (5, [.ref a0_turns_rows, .int v0_turns_size])), (a0_turns_rows, .inl (D.2 2, 320, .inr (.inl g0_turns_rows)))]) ⟨hx, hb, hml, hown, hts⟩ (mX8_turned l D H.size p1 x5 N r4 hr4) (va_cwS 2 hts gX3_firstAlone_X8_turned rfl rfl rfl (by decide +kernel) ⟨Nat.le_of_ble_eq_true rfl, Nat.le_of_ble_eq_true rfl⟩) hK hP hD hS hA [] [0, 1, 2] [0, 1, 2] rfl (by decide) rfl (by decide) (by decide) rfl (by decide) rfl hl.1 rfl (Nat.le_of_ble_eq_true rfl) dX3_firstAlone_29 ⟨Nat.zero_le _, Nat.zero_le _⟩ (fun H locs hP hD hS => ?_)
        refine lv_iload_n hx hb dX3_firstAlone_32 rfl (lv_at hl 2 rfl) ?_
        obtain ⟨r5, hr5, hf⟩ := bd hf
        refine zSl (As := [.long r4, .int p3]) (rest := []) (wn := [(a0, .inr (2, [.ref a0_turns])), (a0_turns, .inr (5, [.ref a0_turns_rows, .int v0_turns_size])), (a0_turns_rows, .inl (D.2 2, 320, .inr (.inl g0_turns_rows)))]) ⟨hx, hb, hml, hown, hts⟩ (mX8_head l D H.size r4 p3 r5 hr5) (va_cwS 2 hts gX3_firstAlone_X8_head rfl rfl rfl (by decide +kernel) ⟨Nat.le_of_ble_eq_true rfl, Nat.le_of_ble_eq_true rfl⟩) hK hP hD hS hA [] [0, 1, 2] [0, 1, 2] rfl (by decide) rfl (by decide) (by decide) rfl (by decide) rfl hl.1 rfl (Nat.le_of_ble_eq_true rfl) dX3_firstAlone_33 ⟨Nat.zero_le _, Nat.zero_le _⟩ (fun H locs hP hD hS => ?_)
        refine lv_lstore (lv' := [(6, .long r5), (0, .ref a0), (1, .long p1), (3, .int p3), (4, .int x4), (5, .int x5)]) hx hb dX3_firstAlone_36 hl (by decide) rfl (fun ls hl => ?_)
        refine lv_aload_n hx hb dX3_firstAlone_38 rfl (lv_at hl 1 rfl) ?_
        refine lv_lload hx hb dX3_firstAlone_39 (lv_at hl 0 rfl) ?_
        refine lv_iload_n hx hb dX3_firstAlone_41 rfl (lv_at hl 3 rfl) ?_
        obtain ⟨r6, hr6, hf⟩ := bd hf
        refine zVl (As := [.long r5, .int p3]) (rest := []) (ci := 2) (q0 := 0) (wn := [(a0, .inr (2, [.ref a0_turns])), (a0_turns, .inr (5, [.ref a0_turns_rows, .int v0_turns_size])), (a0_turns_rows, .inl (D.2 2, 320, .inr (.inl g0_turns_rows)))]) ⟨hx, hb, hml, hown, hts⟩ (mX3_wordsThatTurnTo l D a0 a0_turns a0_turns_rows H.size v0_turns_size g0_turns_rows r5 p3 N r6 hr6) (cwV 2 hts gX3_firstAlone_X3_wordsThatTurnTo rfl rfl rfl (by decide +kernel) ⟨Nat.le_of_ble_eq_true rfl, Nat.le_of_ble_eq_true rfl⟩) hK hP hD hS hA [0, 1, 2] [] [0, 1, 2] rfl (by decide) rfl (by decide) (by decide) rfl (by decide) rfl rfl rfl hl.1 rfl (Nat.le_of_ble_eq_true rfl) dX3_firstAlone_42 ⟨Nat.zero_le _, Nat.zero_le _⟩ (fun H locs hP hD hS => ?_)
        obtain ⟨r7, hr7, hf⟩ := bd hf
        refine zSi (As := [.long r6]) (rest := []) (wn := [(a0, .inr (2, [.ref a0_turns])), (a0_turns, .inr (5, [.ref a0_turns_rows, .int v0_turns_size])), (a0_turns_rows, .inl (D.2 2, 320, .inr (.inl g0_turns_rows)))]) ⟨hx, hb, hml, hown, hts⟩ (mJ13_bitCount_95d88 l D H.size r6 r7 hr7) (va_cwS 1 hts gX3_firstAlone_J13_bitCount_95d88 rfl rfl rfl (by decide +kernel) ⟨Nat.le_of_ble_eq_true rfl, Nat.le_of_ble_eq_true rfl⟩) hK hP hD hS hA [] [0, 1, 2] [0, 1, 2] rfl (by decide) rfl (by decide) (by decide) rfl (by decide) rfl hl.1 rfl (Nat.le_of_ble_eq_true rfl) dX3_firstAlone_45 ⟨Nat.zero_le _, Nat.zero_le _⟩ (fun H locs hP hD hS => ?_)
        refine lv_iconst (v := 1) hx hb dX3_firstAlone_48 (by decide) ?_
        refine lv_icmp_ne (tgt := 55) hx hb dX3_firstAlone_49 (by decide) (fun c_8 => ?_) (fun c_8 => ?_)
        · replace hf := im c_8 hf
          refine lv_iinc (v := (x5 + (1 : Int32))) (lv' := [(5, .int (x5 + (1 : Int32))), (6, .long r5), (0, .ref a0), (1, .long p1), (3, .int p3), (4, .int x4)]) hx hb dX3_firstAlone_55 hl (k := 5) rfl rfl (by decide) rfl (fun ls hl => ?_)
          refine lv_goto (tgt := 19) hx hb dX3_firstAlone_58 (by decide) ?_
          exact ih x4 (x5 + (1 : Int32)) H locs ls hf hP hD hS (lv_sub hl [2, 3, 4, 5, 0] rfl)
        · replace hf := ip c_8 hf
          refine lv_iload hx hb dX3_firstAlone_52 (lv_at hl 5 rfl) ?_
          have he := Option.some.inj hf
          rw [hQ]
          exact W.iret (v := x5) hx hb hr (fun t ht hW => by rw [← he]; exact ⟨⟨x5, (), rfl, rfl, by rw [ht]; exact hP, hD⟩, hS.F ht⟩) hS.2.2 dX3_firstAlone_54
  unfold fX3_firstAlone at hf
  refine lv_lload_n hx hb dX3_firstAlone_0 rfl (lv_at hl 1 rfl) ?_
  obtain ⟨r1, hr1, hf⟩ := bd hf
  refine zSi (As := [.long p1]) (rest := []) (wn := [(a0, .inr (2, [.ref a0_turns])), (a0_turns, .inr (5, [.ref a0_turns_rows, .int v0_turns_size])), (a0_turns_rows, .inl (D.2 2, 320, .inr (.inl g0_turns_rows)))]) ⟨hx, hb, hml, hown, hts⟩ (mX8_length l D H.size p1 N r1 hr1) (va_cwS 1 hts gX3_firstAlone_X8_length rfl rfl rfl (by decide +kernel) ⟨Nat.le_of_ble_eq_true rfl, Nat.le_of_ble_eq_true rfl⟩) hK hP hD hS hA [] [0, 1, 2] [0, 1, 2] rfl (by decide) rfl (by decide) (by decide) rfl (by decide) rfl hl.1 rfl (Nat.le_of_ble_eq_true rfl) dX3_firstAlone_1 ⟨Nat.zero_le _, Nat.zero_le _⟩ (fun H locs hP hD hS => ?_)
  refine lv_istore (lv' := [(4, .int r1), (0, .ref a0), (1, .long p1), (3, .int p3)]) hx hb dX3_firstAlone_4 hl (by decide) rfl (fun ls hl => ?_)
  refine lv_iload_n hx hb dX3_firstAlone_6 rfl (lv_at hl 3 rfl) ?_
  refine lv_iload hx hb dX3_firstAlone_7 (lv_at hl 0 rfl) ?_
  refine lv_iconst (v := 1) hx hb dX3_firstAlone_9 (by decide) ?_
  refine lv_iadd hx hb dX3_firstAlone_10 ?_
  refine lv_icmp_le (tgt := 16) hx hb dX3_firstAlone_11 (by decide) (fun c_2 => ?_) (fun c_2 => ?_)
  · replace hf := ip c_2 hf
    refine lv_iconst (v := 0) hx hb dX3_firstAlone_16 (by decide) ?_
    refine lv_istore (lv' := [(5, .int (0 : Int32)), (4, .int r1), (0, .ref a0), (1, .long p1), (3, .int p3)]) hx hb dX3_firstAlone_17 hl (by decide) rfl (fun ls hl => ?_)
    exact k19 N r1 (0 : Int32) H locs ls hf hP hD hS (lv_sub hl [2, 3, 4, 1, 0] rfl)
  · replace hf := im c_2 hf
    refine lv_iconst (v := -1) hx hb dX3_firstAlone_14 (by decide) ?_
    have he := Option.some.inj hf
    rw [hQ]
    exact W.iret (v := (-1 : Int32)) hx hb hr (fun t ht hW => by rw [← he]; exact ⟨⟨(-1 : Int32), (), rfl, rfl, by rw [ht]; exact hP, hD⟩, hS.F ht⟩) hS.2.2 dX3_firstAlone_15
def fX3_moved_49 (N : Nat) (v0_turns_size : Int32) (g0_turns_rows : Nat → Int64) (v1_turns_size : Int32) (g1_turns_rows : Nat → Int64) (rec7 : Int32 → Int32 → Int32 → Option (Int32)) (x2 : Int32) (x3 : Int32) (x4 : Int32) (x5 : Int64) : Option (Int32) :=
  Option.bind (fX3_size v1_turns_size) fun r8 =>
  if r8 ≤ x3 then
    rec7 x2 x3 (x4 + (1 : Int32))
  else
    Option.bind (fX3_signsAt v1_turns_size g1_turns_rows x3) fun r10 =>
    if (lg_cmp r10 x5) = (0 : Int32) then
      if x3 = x4 then
        rec7 x2 x3 (x4 + (1 : Int32))
      else
        rec7 (x2 + (1 : Int32)) x3 (x4 + (1 : Int32))
    else
      rec7 x2 x3 (x4 + (1 : Int32))
def fX3_moved_24 (N : Nat) (v0_turns_size : Int32) (g0_turns_rows : Nat → Int64) (v1_turns_size : Int32) (g1_turns_rows : Nat → Int64) (rec7 : Int32 → Int32 → Int32 → Option (Int32)) : Nat → Int32 → Int32 → Int32 → Int64 → Option (Int32)
  | 0, _, _, _, _ => none
  | K + 1, x2, x3, x4, x5 =>
    Option.bind (fX3_size v1_turns_size) fun r4 =>
    if r4 ≤ x3 then
      fX3_moved_49 N v0_turns_size g0_turns_rows v1_turns_size g1_turns_rows rec7 x2 x3 x4 x5
    else
      Option.bind (fX3_signsAt v1_turns_size g1_turns_rows x3) fun r6 =>
      if (0 : Int32) ≤ (lg_cmp r6 x5) then
        fX3_moved_49 N v0_turns_size g0_turns_rows v1_turns_size g1_turns_rows rec7 x2 x3 x4 x5
      else
        (fX3_moved_24 N v0_turns_size g0_turns_rows v1_turns_size g1_turns_rows rec7 K) x2 (x3 + (1 : Int32)) x4 x5
def fX3_moved_7 (N : Nat) (v0_turns_size : Int32) (g0_turns_rows : Nat → Int64) (v1_turns_size : Int32) (g1_turns_rows : Nat → Int64) : Nat → Int32 → Int32 → Int32 → Option (Int32)
  | 0, _, _, _ => none
  | K + 1, x2, x3, x4 =>
    Option.bind (fX3_size v0_turns_size) fun r1 =>
    if r1 ≤ x4 then
      some (x2)
    else
      Option.bind (fX3_signsAt v0_turns_size g0_turns_rows x4) fun r3 =>
      fX3_moved_24 N v0_turns_size g0_turns_rows v1_turns_size g1_turns_rows (fX3_moved_7 N v0_turns_size g0_turns_rows v1_turns_size g1_turns_rows K) N x2 x3 x4 r3
def fX3_moved (N : Nat) (v0_turns_size : Int32) (g0_turns_rows : Nat → Int64) (v1_turns_size : Int32) (g1_turns_rows : Nat → Int64) : Option (Int32) :=
  fX3_moved_7 N v0_turns_size g0_turns_rows v1_turns_size g1_turns_rows N (0 : Int32) (0 : Int32) (0 : Int32)
set_option maxHeartbeats 4000000 in
set_option maxRecDepth 100000 in
theorem mX3_moved (l : Launch) (D : zG) (a0 : Nat) (a0_turns : Nat) (a0_turns_rows : Nat) (a1 : Nat) (a1_turns : Nat) (a1_turns_rows : Nat) (sz : Nat)  (v0_turns_size : Int32) (g0_turns_rows : Nat → Int64) (v1_turns_size : Int32) (g1_turns_rows : Nat → Int64)  (N : Nat) (res : Int32) (hf : fX3_moved N v0_turns_size g0_turns_rows v1_turns_size g1_turns_rows = some res) : Met l yX3_moved wsX3_moved ({ frames := 3, cells := 0, slots := 0, locals := 63 } : Room) (va_Pc [.ref a0, .ref a1] (zW D sz [(a0, .inr (2, [.ref a0_turns])), (a0_turns, .inr (5, [.ref a0_turns_rows, .int v0_turns_size])), (a0_turns_rows, .inl (D.2 2, 320, .inr (.inl g0_turns_rows))), (a1, .inr (2, [.ref a1_turns])), (a1_turns, .inr (5, [.ref a1_turns_rows, .int v1_turns_size])), (a1_turns_rows, .inl (D.2 2, 320, .inr (.inl g1_turns_rows)))])) (va_Qi (fun r (_ : Unit) => r = res) (fun _ => zB D (va_A [(a0, .inr (2, [.ref a0_turns])), (a0_turns, .inr (5, [.ref a0_turns_rows, .int v0_turns_size])), (a0_turns_rows, .inl (D.2 2, 320, .inr (.inl g0_turns_rows))), (a1, .inr (2, [.ref a1_turns])), (a1_turns, .inr (5, [.ref a1_turns_rows, .int v1_turns_size])), (a1_turns_rows, .inl (D.2 2, 320, .inr (.inl g1_turns_rows)))] sz) [(a0, .inr (2, [.ref a0_turns])), (a0_turns, .inr (5, [.ref a0_turns_rows, .int v0_turns_size])), (a0_turns_rows, .inl (D.2 2, 320, .inr (.inl g0_turns_rows))), (a1, .inr (2, [.ref a1_turns])), (a1_turns, .inr (5, [.ref a1_turns_rows, .int v1_turns_size])), (a1_turns_rows, .inl (D.2 2, 320, .inr (.inl g1_turns_rows)))]) (va_A [(a0, .inr (2, [.ref a0_turns])), (a0_turns, .inr (5, [.ref a0_turns_rows, .int v0_turns_size])), (a0_turns_rows, .inl (D.2 2, 320, .inr (.inl g0_turns_rows))), (a1, .inr (2, [.ref a1_turns])), (a1_turns, .inr (5, [.ref a1_turns_rows, .int v1_turns_size])), (a1_turns_rows, .inl (D.2 2, 320, .inr (.inl g1_turns_rows)))] sz)) 0 0 (va_A [(a0, .inr (2, [.ref a0_turns])), (a0_turns, .inr (5, [.ref a0_turns_rows, .int v0_turns_size])), (a0_turns_rows, .inl (D.2 2, 320, .inr (.inl g0_turns_rows))), (a1, .inr (2, [.ref a1_turns])), (a1_turns, .inr (5, [.ref a1_turns_rows, .int v1_turns_size])), (a1_turns_rows, .inl (D.2 2, 320, .inr (.inl g1_turns_rows)))] sz) := by
  refine Met.ofW (cc := cX3_moved) (maxL := 7) (ret := (some .int)) (by decide) rfl ?_
  intro p e s m args below meth c s₁ B hml hv
  obtain ⟨rfl, hsz, hP, hK, hD0⟩ := hv
  have hx := B.exec
  have hb := B.bytes
  have hr := B.returns
  have hts := atoms_spec (ws := wsX3_moved) B.pre
  have hown : s.vm.findClass RX3 = some m.cls := findClass_of_methodNamed B.named
  have hlocks := B.notSynchronized
  subst hsz
  have hD := hD0.self (sz := s.heap.size)
  generalize hAe : va_A [(a0, .inr (2, [.ref a0_turns])), (a0_turns, .inr (5, [.ref a0_turns_rows, .int v0_turns_size])), (a0_turns_rows, .inl (D.2 2, 320, .inr (.inl g0_turns_rows))), (a1, .inr (2, [.ref a1_turns])), (a1_turns, .inr (5, [.ref a1_turns_rows, .int v1_turns_size])), (a1_turns_rows, .inl (D.2 2, 320, .inr (.inl g1_turns_rows)))] s.heap.size = A at hD ⊢
  have hA : ∀ q : Nat, s.heap.size ≤ q → A q := fun q h => by rw [← hAe]; exact Or.inr h
  have hl := lv_entry ([.ref a0, .ref a1]) (n := 7) (Nat.le_of_ble_eq_true rfl)
  rw [lg_entry_eq]
  generalize (lg_sl ([.ref a0, .ref a1]) ++ List.replicate (7 - (lg_sl ([.ref a0, .ref a1])).length) Slot.unset).toArray = ls at hl ⊢
  have hl : lv_has ls 7 [(0, .ref a0), (1, .ref a1)] := hl
  refine zStart (A := A) hP (fun Q0 H locs hQ hP hS => ?_)
  have k49 : ∀ (rec7 : Int32 → Int32 → Int32 → Option (Int32)), (∀ (x2 : Int32) (x3 : Int32) (x4 : Int32) (H : Heap) (locs : List Loc) (ls : Array Slot), rec7 x2 x3 x4 = some res → va_P D.1 vwCl [(a0, .inr (2, [.ref a0_turns])), (a0_turns, .inr (5, [.ref a0_turns_rows, .int v0_turns_size])), (a0_turns_rows, .inl (D.2 2, 320, .inr (.inl g0_turns_rows))), (a1, .inr (2, [.ref a1_turns])), (a1_turns, .inr (5, [.ref a1_turns_rows, .int v1_turns_size])), (a1_turns_rows, .inl (D.2 2, 320, .inr (.inl g1_turns_rows)))] H → va_D A [(a0, .inr (2, [.ref a0_turns])), (a0_turns, .inr (5, [.ref a0_turns_rows, .int v0_turns_size])), (a0_turns_rows, .inl (D.2 2, 320, .inr (.inl g0_turns_rows))), (a1, .inr (2, [.ref a1_turns])), (a1_turns, .inr (5, [.ref a1_turns_rows, .int v1_turns_size])), (a1_turns_rows, .inl (D.2 2, 320, .inr (.inl g1_turns_rows)))] → va_S A s.heap H locs → lv_has ls 7 [(0, .ref a0), (1, .ref a1), (2, .int x2), (3, .int x3), (4, .int x4)] → W p l e (headSpec wsX3_moved ({ frames := 3, cells := 0, slots := 0, locals := 63 } : Room)).room s m ([.ref a0, .ref a1] : List Value).toArray below meth c H locs 0 0 Q0 (F0 m 7 ls [])) → ∀ (x2 : Int32) (x3 : Int32) (x4 : Int32) (x5 : Int64) (H : Heap) (locs : List Loc) (ls : Array Slot), fX3_moved_49 N v0_turns_size g0_turns_rows v1_turns_size g1_turns_rows rec7 x2 x3 x4 x5 = some res → va_P D.1 vwCl [(a0, .inr (2, [.ref a0_turns])), (a0_turns, .inr (5, [.ref a0_turns_rows, .int v0_turns_size])), (a0_turns_rows, .inl (D.2 2, 320, .inr (.inl g0_turns_rows))), (a1, .inr (2, [.ref a1_turns])), (a1_turns, .inr (5, [.ref a1_turns_rows, .int v1_turns_size])), (a1_turns_rows, .inl (D.2 2, 320, .inr (.inl g1_turns_rows)))] H → va_D A [(a0, .inr (2, [.ref a0_turns])), (a0_turns, .inr (5, [.ref a0_turns_rows, .int v0_turns_size])), (a0_turns_rows, .inl (D.2 2, 320, .inr (.inl g0_turns_rows))), (a1, .inr (2, [.ref a1_turns])), (a1_turns, .inr (5, [.ref a1_turns_rows, .int v1_turns_size])), (a1_turns_rows, .inl (D.2 2, 320, .inr (.inl g1_turns_rows)))] → va_S A s.heap H locs → lv_has ls 7 [(0, .ref a0), (1, .ref a1), (2, .int x2), (3, .int x3), (4, .int x4), (5, .long x5)] → W p l e (headSpec wsX3_moved ({ frames := 3, cells := 0, slots := 0, locals := 63 } : Room)).room s m ([.ref a0, .ref a1] : List Value).toArray below meth c H locs 0 0 Q0 (F0 m 49 ls []) := by
    intro rec7 hrec7 x2 x3 x4 x5 H locs ls hf hP hD hS hl
    unfold fX3_moved_49 at hf
    refine lv_iload_n hx hb dX3_moved_49 rfl (lv_at hl 3 rfl) ?_
    refine lv_aload_n hx hb dX3_moved_50 rfl (lv_at hl 1 rfl) ?_
    obtain ⟨r8, hr8, hf⟩ := bd hf
    refine zVi (As := []) (rest := [.int x3]) (ci := 2) (q0 := 0) (wn := [(a0, .inr (2, [.ref a0_turns])), (a0_turns, .inr (5, [.ref a0_turns_rows, .int v0_turns_size])), (a0_turns_rows, .inl (D.2 2, 320, .inr (.inl g0_turns_rows))), (a1, .inr (2, [.ref a1_turns])), (a1_turns, .inr (5, [.ref a1_turns_rows, .int v1_turns_size])), (a1_turns_rows, .inl (D.2 2, 320, .inr (.inl g1_turns_rows)))]) ⟨hx, hb, hml, hown, hts⟩ (mX3_size l D a1 a1_turns a1_turns_rows H.size v1_turns_size r8 hr8) (cwV 0 hts gX3_moved_X3_size rfl rfl rfl (by decide +kernel) ⟨Nat.le_of_ble_eq_true rfl, Nat.le_of_ble_eq_true rfl⟩) hK hP hD hS hA [3, 4] [0, 1, 2, 5] [0, 1, 2, 4, 5, 3] rfl (by decide) rfl (by decide) (by decide) rfl (by decide) rfl rfl rfl hl.1 rfl (Nat.le_of_ble_eq_true rfl) dX3_moved_51 ⟨Nat.zero_le _, Nat.zero_le _⟩ (fun H locs hP hD hS => ?_)
    refine lv_icmp_ge (tgt := 77) hx hb dX3_moved_54 (by decide) (fun c_9 => ?_) (fun c_9 => ?_)
    · replace hf := ip c_9 hf
      refine lv_iinc (v := (x4 + (1 : Int32))) (lv' := [(4, .int (x4 + (1 : Int32))), (0, .ref a0), (1, .ref a1), (2, .int x2), (3, .int x3), (5, .long x5)]) hx hb dX3_moved_77 hl (k := 4) rfl rfl (by decide) rfl (fun ls hl => ?_)
      refine lv_goto (tgt := 7) hx hb dX3_moved_80 (by decide) ?_
      exact hrec7 x2 x3 (x4 + (1 : Int32)) H locs ls hf hP hD hS (lv_sub hl [1, 2, 3, 4, 0] rfl)
    · replace hf := im c_9 hf
      refine lv_aload_n hx hb dX3_moved_57 rfl (lv_at hl 1 rfl) ?_
      refine lv_iload_n hx hb dX3_moved_58 rfl (lv_at hl 3 rfl) ?_
      obtain ⟨r10, hr10, hf⟩ := bd hf
      refine zVl (As := [.int x3]) (rest := []) (ci := 2) (q0 := 0) (wn := [(a0, .inr (2, [.ref a0_turns])), (a0_turns, .inr (5, [.ref a0_turns_rows, .int v0_turns_size])), (a0_turns_rows, .inl (D.2 2, 320, .inr (.inl g0_turns_rows))), (a1, .inr (2, [.ref a1_turns])), (a1_turns, .inr (5, [.ref a1_turns_rows, .int v1_turns_size])), (a1_turns_rows, .inl (D.2 2, 320, .inr (.inl g1_turns_rows)))]) ⟨hx, hb, hml, hown, hts⟩ (mX3_signsAt l D a1 a1_turns a1_turns_rows H.size v1_turns_size g1_turns_rows x3 r10 hr10) (cwV 1 hts gX3_moved_X3_signsAt rfl rfl rfl (by decide +kernel) ⟨Nat.le_of_ble_eq_true rfl, Nat.le_of_ble_eq_true rfl⟩) hK hP hD hS hA [3, 4, 5] [0, 1, 2] [0, 1, 2, 3, 4, 5] rfl (by decide) rfl (by decide) (by decide) rfl (by decide) rfl rfl rfl hl.1 rfl (Nat.le_of_ble_eq_true rfl) dX3_moved_59 ⟨Nat.zero_le _, Nat.zero_le _⟩ (fun H locs hP hD hS => ?_)
      refine lv_lload hx hb dX3_moved_62 (lv_at hl 5 rfl) ?_
      refine W.lcmp hx hb dX3_moved_64 ?_
      refine lv_if_ne (tgt := 77) hx hb dX3_moved_65 (by decide) (fun c_11 => ?_) (fun c_11 => ?_)
      · replace hf := im c_11 hf
        refine lv_iinc (v := (x4 + (1 : Int32))) (lv' := [(4, .int (x4 + (1 : Int32))), (0, .ref a0), (1, .ref a1), (2, .int x2), (3, .int x3), (5, .long x5)]) hx hb dX3_moved_77 hl (k := 4) rfl rfl (by decide) rfl (fun ls hl => ?_)
        refine lv_goto (tgt := 7) hx hb dX3_moved_80 (by decide) ?_
        exact hrec7 x2 x3 (x4 + (1 : Int32)) H locs ls hf hP hD hS (lv_sub hl [1, 2, 3, 4, 0] rfl)
      · replace hf := ip c_11 hf
        refine lv_iload_n hx hb dX3_moved_68 rfl (lv_at hl 3 rfl) ?_
        refine lv_iload hx hb dX3_moved_69 (lv_at hl 4 rfl) ?_
        refine lv_icmp_eq (tgt := 77) hx hb dX3_moved_71 (by decide) (fun c_12 => ?_) (fun c_12 => ?_)
        · replace hf := ip c_12 hf
          refine lv_iinc (v := (x4 + (1 : Int32))) (lv' := [(4, .int (x4 + (1 : Int32))), (0, .ref a0), (1, .ref a1), (2, .int x2), (3, .int x3), (5, .long x5)]) hx hb dX3_moved_77 hl (k := 4) rfl rfl (by decide) rfl (fun ls hl => ?_)
          refine lv_goto (tgt := 7) hx hb dX3_moved_80 (by decide) ?_
          exact hrec7 x2 x3 (x4 + (1 : Int32)) H locs ls hf hP hD hS (lv_sub hl [1, 2, 3, 4, 0] rfl)
        · replace hf := im c_12 hf
          refine lv_iinc (v := (x2 + (1 : Int32))) (lv' := [(2, .int (x2 + (1 : Int32))), (0, .ref a0), (1, .ref a1), (3, .int x3), (4, .int x4), (5, .long x5)]) hx hb dX3_moved_74 hl (k := 2) rfl rfl (by decide) rfl (fun ls hl => ?_)
          refine lv_iinc (v := (x4 + (1 : Int32))) (lv' := [(4, .int (x4 + (1 : Int32))), (2, .int (x2 + (1 : Int32))), (0, .ref a0), (1, .ref a1), (3, .int x3), (5, .long x5)]) hx hb dX3_moved_77 hl (k := 4) rfl rfl (by decide) rfl (fun ls hl => ?_)
          refine lv_goto (tgt := 7) hx hb dX3_moved_80 (by decide) ?_
          exact hrec7 (x2 + (1 : Int32)) x3 (x4 + (1 : Int32)) H locs ls hf hP hD hS (lv_sub hl [2, 3, 1, 4, 0] rfl)
  have k24 : ∀ (rec7 : Int32 → Int32 → Int32 → Option (Int32)), (∀ (x2 : Int32) (x3 : Int32) (x4 : Int32) (H : Heap) (locs : List Loc) (ls : Array Slot), rec7 x2 x3 x4 = some res → va_P D.1 vwCl [(a0, .inr (2, [.ref a0_turns])), (a0_turns, .inr (5, [.ref a0_turns_rows, .int v0_turns_size])), (a0_turns_rows, .inl (D.2 2, 320, .inr (.inl g0_turns_rows))), (a1, .inr (2, [.ref a1_turns])), (a1_turns, .inr (5, [.ref a1_turns_rows, .int v1_turns_size])), (a1_turns_rows, .inl (D.2 2, 320, .inr (.inl g1_turns_rows)))] H → va_D A [(a0, .inr (2, [.ref a0_turns])), (a0_turns, .inr (5, [.ref a0_turns_rows, .int v0_turns_size])), (a0_turns_rows, .inl (D.2 2, 320, .inr (.inl g0_turns_rows))), (a1, .inr (2, [.ref a1_turns])), (a1_turns, .inr (5, [.ref a1_turns_rows, .int v1_turns_size])), (a1_turns_rows, .inl (D.2 2, 320, .inr (.inl g1_turns_rows)))] → va_S A s.heap H locs → lv_has ls 7 [(0, .ref a0), (1, .ref a1), (2, .int x2), (3, .int x3), (4, .int x4)] → W p l e (headSpec wsX3_moved ({ frames := 3, cells := 0, slots := 0, locals := 63 } : Room)).room s m ([.ref a0, .ref a1] : List Value).toArray below meth c H locs 0 0 Q0 (F0 m 7 ls [])) → ∀ K : Nat, ∀ (x2 : Int32) (x3 : Int32) (x4 : Int32) (x5 : Int64) (H : Heap) (locs : List Loc) (ls : Array Slot), fX3_moved_24 N v0_turns_size g0_turns_rows v1_turns_size g1_turns_rows rec7 K x2 x3 x4 x5 = some res → va_P D.1 vwCl [(a0, .inr (2, [.ref a0_turns])), (a0_turns, .inr (5, [.ref a0_turns_rows, .int v0_turns_size])), (a0_turns_rows, .inl (D.2 2, 320, .inr (.inl g0_turns_rows))), (a1, .inr (2, [.ref a1_turns])), (a1_turns, .inr (5, [.ref a1_turns_rows, .int v1_turns_size])), (a1_turns_rows, .inl (D.2 2, 320, .inr (.inl g1_turns_rows)))] H → va_D A [(a0, .inr (2, [.ref a0_turns])), (a0_turns, .inr (5, [.ref a0_turns_rows, .int v0_turns_size])), (a0_turns_rows, .inl (D.2 2, 320, .inr (.inl g0_turns_rows))), (a1, .inr (2, [.ref a1_turns])), (a1_turns, .inr (5, [.ref a1_turns_rows, .int v1_turns_size])), (a1_turns_rows, .inl (D.2 2, 320, .inr (.inl g1_turns_rows)))] → va_S A s.heap H locs → lv_has ls 7 [(0, .ref a0), (1, .ref a1), (2, .int x2), (3, .int x3), (4, .int x4), (5, .long x5)] → W p l e (headSpec wsX3_moved ({ frames := 3, cells := 0, slots := 0, locals := 63 } : Room)).room s m ([.ref a0, .ref a1] : List Value).toArray below meth c H locs 0 0 Q0 (F0 m 24 ls []) := by
    intro rec7 hrec7 K
    induction K with
    | zero =>
      intro x2 x3 x4 x5 H locs ls hf
      rw [fX3_moved_24] at hf
      cases hf
    | succ K ih =>
      intro x2 x3 x4 x5 H locs ls hf hP hD hS hl
      rw [fX3_moved_24] at hf
      refine lv_iload_n hx hb dX3_moved_24 rfl (lv_at hl 3 rfl) ?_
      refine lv_aload_n hx hb dX3_moved_25 rfl (lv_at hl 1 rfl) ?_
      obtain ⟨r4, hr4, hf⟩ := bd hf
      refine zVi (As := []) (rest := [.int x3]) (ci := 2) (q0 := 0) (wn := [(a0, .inr (2, [.ref a0_turns])), (a0_turns, .inr (5, [.ref a0_turns_rows, .int v0_turns_size])), (a0_turns_rows, .inl (D.2 2, 320, .inr (.inl g0_turns_rows))), (a1, .inr (2, [.ref a1_turns])), (a1_turns, .inr (5, [.ref a1_turns_rows, .int v1_turns_size])), (a1_turns_rows, .inl (D.2 2, 320, .inr (.inl g1_turns_rows)))]) ⟨hx, hb, hml, hown, hts⟩ (mX3_size l D a1 a1_turns a1_turns_rows H.size v1_turns_size r4 hr4) (cwV 0 hts gX3_moved_X3_size rfl rfl rfl (by decide +kernel) ⟨Nat.le_of_ble_eq_true rfl, Nat.le_of_ble_eq_true rfl⟩) hK hP hD hS hA [3, 4] [0, 1, 2, 5] [0, 1, 2, 4, 5, 3] rfl (by decide) rfl (by decide) (by decide) rfl (by decide) rfl rfl rfl hl.1 rfl (Nat.le_of_ble_eq_true rfl) dX3_moved_26 ⟨Nat.zero_le _, Nat.zero_le _⟩ (fun H locs hP hD hS => ?_)
      refine lv_icmp_ge (tgt := 49) hx hb dX3_moved_29 (by decide) (fun c_5 => ?_) (fun c_5 => ?_)
      · replace hf := ip c_5 hf
        exact k49 rec7 hrec7 x2 x3 x4 x5 H locs ls hf hP hD hS hl
      · replace hf := im c_5 hf
        refine lv_aload_n hx hb dX3_moved_32 rfl (lv_at hl 1 rfl) ?_
        refine lv_iload_n hx hb dX3_moved_33 rfl (lv_at hl 3 rfl) ?_
        obtain ⟨r6, hr6, hf⟩ := bd hf
        refine zVl (As := [.int x3]) (rest := []) (ci := 2) (q0 := 0) (wn := [(a0, .inr (2, [.ref a0_turns])), (a0_turns, .inr (5, [.ref a0_turns_rows, .int v0_turns_size])), (a0_turns_rows, .inl (D.2 2, 320, .inr (.inl g0_turns_rows))), (a1, .inr (2, [.ref a1_turns])), (a1_turns, .inr (5, [.ref a1_turns_rows, .int v1_turns_size])), (a1_turns_rows, .inl (D.2 2, 320, .inr (.inl g1_turns_rows)))]) ⟨hx, hb, hml, hown, hts⟩ (mX3_signsAt l D a1 a1_turns a1_turns_rows H.size v1_turns_size g1_turns_rows x3 r6 hr6) (cwV 1 hts gX3_moved_X3_signsAt rfl rfl rfl (by decide +kernel) ⟨Nat.le_of_ble_eq_true rfl, Nat.le_of_ble_eq_true rfl⟩) hK hP hD hS hA [3, 4, 5] [0, 1, 2] [0, 1, 2, 3, 4, 5] rfl (by decide) rfl (by decide) (by decide) rfl (by decide) rfl rfl rfl hl.1 rfl (Nat.le_of_ble_eq_true rfl) dX3_moved_34 ⟨Nat.zero_le _, Nat.zero_le _⟩ (fun H locs hP hD hS => ?_)
        refine lv_lload hx hb dX3_moved_37 (lv_at hl 5 rfl) ?_
        refine W.lcmp hx hb dX3_moved_39 ?_
        refine lv_if_ge (tgt := 49) hx hb dX3_moved_40 (by decide) (fun c_7 => ?_) (fun c_7 => ?_)
        · replace hf := ip c_7 hf
          exact k49 rec7 hrec7 x2 x3 x4 x5 H locs ls hf hP hD hS hl
        · replace hf := im c_7 hf
          refine lv_iinc (v := (x3 + (1 : Int32))) (lv' := [(3, .int (x3 + (1 : Int32))), (0, .ref a0), (1, .ref a1), (2, .int x2), (4, .int x4), (5, .long x5)]) hx hb dX3_moved_43 hl (k := 3) rfl rfl (by decide) rfl (fun ls hl => ?_)
          refine lv_goto (tgt := 24) hx hb dX3_moved_46 (by decide) ?_
          exact ih x2 (x3 + (1 : Int32)) x4 x5 H locs ls hf hP hD hS (lv_sub hl [1, 2, 3, 0, 4, 5] rfl)
  have k7 : ∀ K : Nat, ∀ (x2 : Int32) (x3 : Int32) (x4 : Int32) (H : Heap) (locs : List Loc) (ls : Array Slot), fX3_moved_7 N v0_turns_size g0_turns_rows v1_turns_size g1_turns_rows K x2 x3 x4 = some res → va_P D.1 vwCl [(a0, .inr (2, [.ref a0_turns])), (a0_turns, .inr (5, [.ref a0_turns_rows, .int v0_turns_size])), (a0_turns_rows, .inl (D.2 2, 320, .inr (.inl g0_turns_rows))), (a1, .inr (2, [.ref a1_turns])), (a1_turns, .inr (5, [.ref a1_turns_rows, .int v1_turns_size])), (a1_turns_rows, .inl (D.2 2, 320, .inr (.inl g1_turns_rows)))] H → va_D A [(a0, .inr (2, [.ref a0_turns])), (a0_turns, .inr (5, [.ref a0_turns_rows, .int v0_turns_size])), (a0_turns_rows, .inl (D.2 2, 320, .inr (.inl g0_turns_rows))), (a1, .inr (2, [.ref a1_turns])), (a1_turns, .inr (5, [.ref a1_turns_rows, .int v1_turns_size])), (a1_turns_rows, .inl (D.2 2, 320, .inr (.inl g1_turns_rows)))] → va_S A s.heap H locs → lv_has ls 7 [(0, .ref a0), (1, .ref a1), (2, .int x2), (3, .int x3), (4, .int x4)] → W p l e (headSpec wsX3_moved ({ frames := 3, cells := 0, slots := 0, locals := 63 } : Room)).room s m ([.ref a0, .ref a1] : List Value).toArray below meth c H locs 0 0 Q0 (F0 m 7 ls []) := by
    intro K
    induction K with
    | zero =>
      intro x2 x3 x4 H locs ls hf
      rw [fX3_moved_7] at hf
      cases hf
    | succ K ih =>
      intro x2 x3 x4 H locs ls hf hP hD hS hl
      rw [fX3_moved_7] at hf
      refine lv_iload hx hb dX3_moved_7 (lv_at hl 4 rfl) ?_
      refine lv_aload_n hx hb dX3_moved_9 rfl (lv_at hl 0 rfl) ?_
      obtain ⟨r1, hr1, hf⟩ := bd hf
      refine zVi (As := []) (rest := [.int x4]) (ci := 2) (q0 := 0) (wn := [(a0, .inr (2, [.ref a0_turns])), (a0_turns, .inr (5, [.ref a0_turns_rows, .int v0_turns_size])), (a0_turns_rows, .inl (D.2 2, 320, .inr (.inl g0_turns_rows))), (a1, .inr (2, [.ref a1_turns])), (a1_turns, .inr (5, [.ref a1_turns_rows, .int v1_turns_size])), (a1_turns_rows, .inl (D.2 2, 320, .inr (.inl g1_turns_rows)))]) ⟨hx, hb, hml, hown, hts⟩ (mX3_size l D a0 a0_turns a0_turns_rows H.size v0_turns_size r1 hr1) (cwV 0 hts gX3_moved_X3_size rfl rfl rfl (by decide +kernel) ⟨Nat.le_of_ble_eq_true rfl, Nat.le_of_ble_eq_true rfl⟩) hK hP hD hS hA [0, 1] [2, 3, 4, 5] [4, 5, 0, 1, 2, 3] rfl (by decide) rfl (by decide) (by decide) rfl (by decide) rfl rfl rfl hl.1 rfl (Nat.le_of_ble_eq_true rfl) dX3_moved_10 ⟨Nat.zero_le _, Nat.zero_le _⟩ (fun H locs hP hD hS => ?_)
      refine lv_icmp_ge (tgt := 83) hx hb dX3_moved_13 (by decide) (fun c_2 => ?_) (fun c_2 => ?_)
      · replace hf := ip c_2 hf
        refine lv_iload_n hx hb dX3_moved_83 rfl (lv_at hl 2 rfl) ?_
        have he := Option.some.inj hf
        rw [hQ]
        exact W.iret (v := x2) hx hb hr (fun t ht hW => by rw [← he]; exact ⟨⟨x2, (), rfl, rfl, by rw [ht]; exact hP, hD⟩, hS.F ht⟩) hS.2.2 dX3_moved_84
      · replace hf := im c_2 hf
        refine lv_aload_n hx hb dX3_moved_16 rfl (lv_at hl 0 rfl) ?_
        refine lv_iload hx hb dX3_moved_17 (lv_at hl 4 rfl) ?_
        obtain ⟨r3, hr3, hf⟩ := bd hf
        refine zVl (As := [.int x4]) (rest := []) (ci := 2) (q0 := 0) (wn := [(a0, .inr (2, [.ref a0_turns])), (a0_turns, .inr (5, [.ref a0_turns_rows, .int v0_turns_size])), (a0_turns_rows, .inl (D.2 2, 320, .inr (.inl g0_turns_rows))), (a1, .inr (2, [.ref a1_turns])), (a1_turns, .inr (5, [.ref a1_turns_rows, .int v1_turns_size])), (a1_turns_rows, .inl (D.2 2, 320, .inr (.inl g1_turns_rows)))]) ⟨hx, hb, hml, hown, hts⟩ (mX3_signsAt l D a0 a0_turns a0_turns_rows H.size v0_turns_size g0_turns_rows x4 r3 hr3) (cwV 1 hts gX3_moved_X3_signsAt rfl rfl rfl (by decide +kernel) ⟨Nat.le_of_ble_eq_true rfl, Nat.le_of_ble_eq_true rfl⟩) hK hP hD hS hA [0, 1, 2] [3, 4, 5] [3, 4, 5, 0, 1, 2] rfl (by decide) rfl (by decide) (by decide) rfl (by decide) rfl rfl rfl hl.1 rfl (Nat.le_of_ble_eq_true rfl) dX3_moved_19 ⟨Nat.zero_le _, Nat.zero_le _⟩ (fun H locs hP hD hS => ?_)
        refine lv_lstore (lv' := [(5, .long r3), (0, .ref a0), (1, .ref a1), (2, .int x2), (3, .int x3), (4, .int x4)]) hx hb dX3_moved_22 hl (by decide) rfl (fun ls hl => ?_)
        exact k24 _ ih N x2 x3 x4 r3 H locs ls hf hP hD hS (lv_sub hl [1, 2, 3, 4, 5, 0] rfl)
  unfold fX3_moved at hf
  refine lv_iconst (v := 0) hx hb dX3_moved_0 (by decide) ?_
  refine lv_istore_n (lv' := [(2, .int (0 : Int32)), (0, .ref a0), (1, .ref a1)]) hx hb dX3_moved_1 rfl hl (by decide) rfl (fun ls hl => ?_)
  refine lv_iconst (v := 0) hx hb dX3_moved_2 (by decide) ?_
  refine lv_istore_n (lv' := [(3, .int (0 : Int32)), (2, .int (0 : Int32)), (0, .ref a0), (1, .ref a1)]) hx hb dX3_moved_3 rfl hl (by decide) rfl (fun ls hl => ?_)
  refine lv_iconst (v := 0) hx hb dX3_moved_4 (by decide) ?_
  refine lv_istore (lv' := [(4, .int (0 : Int32)), (3, .int (0 : Int32)), (2, .int (0 : Int32)), (0, .ref a0), (1, .ref a1)]) hx hb dX3_moved_5 hl (by decide) rfl (fun ls hl => ?_)
  exact k7 N (0 : Int32) (0 : Int32) (0 : Int32) H locs ls hf hP hD hS (lv_sub hl [3, 4, 2, 1, 0] rfl)
def fX4_size (v0_size : Int32) : Option (Int32) :=
  some (v0_size)
set_option maxHeartbeats 4000000 in
set_option maxRecDepth 100000 in
theorem mX4_size (l : Launch) (D : zG) (a0 : Nat) (a0_before : Nat) (sz : Nat)  (v0_size : Int32)  (res : Int32) (hf : fX4_size v0_size = some res) : Met l yX4_size wsX4_size ({ frames := 0, cells := 0, slots := 0, locals := 0 } : Room) (va_Pc [.ref a0] (zW D sz [(a0, .inr (3, [.ref a0_before, .int v0_size]))])) (va_Qi (fun r (_ : Unit) => r = res) (fun _ => zB D (va_A [(a0, .inr (3, [.ref a0_before, .int v0_size]))] sz) [(a0, .inr (3, [.ref a0_before, .int v0_size]))]) (va_A [(a0, .inr (3, [.ref a0_before, .int v0_size]))] sz)) 0 0 (va_A [(a0, .inr (3, [.ref a0_before, .int v0_size]))] sz) := by
  refine Met.ofW (cc := cX4_size) (maxL := 1) (ret := (some .int)) (by decide) rfl ?_
  intro p e s m args below meth c s₁ B hml hv
  obtain ⟨rfl, hsz, hP, hK, hD0⟩ := hv
  have hx := B.exec
  have hb := B.bytes
  have hr := B.returns
  have hts := atoms_spec (ws := wsX4_size) B.pre
  have hown : s.vm.findClass RX4 = some m.cls := findClass_of_methodNamed B.named
  have hlocks := B.notSynchronized
  subst hsz
  have hD := hD0.self (sz := s.heap.size)
  generalize hAe : va_A [(a0, .inr (3, [.ref a0_before, .int v0_size]))] s.heap.size = A at hD ⊢
  have hA : ∀ q : Nat, s.heap.size ≤ q → A q := fun q h => by rw [← hAe]; exact Or.inr h
  have l20 := zat hts 1 (w := .fieldLink RX4 20 "TurnedWords$Merges" "size" "I") rfl
  have hwX4 : ∀ w ∈ u_ws RX4 TX4 2, w ∈ wsX4_size := fun w h => List.mem_cons_of_mem _ (List.mem_append_right _ h)
  have hl := lv_entry ([.ref a0]) (n := 1) (Nat.le_of_ble_eq_true rfl)
  rw [lg_entry_eq]
  generalize (lg_sl ([.ref a0]) ++ List.replicate (1 - (lg_sl ([.ref a0])).length) Slot.unset).toArray = ls at hl ⊢
  have hl : lv_has ls 1 [(0, .ref a0)] := hl
  refine zStart (A := A) hP (fun Q0 H locs hQ hP hS => ?_)
  unfold fX4_size at hf
  refine lv_aload_n hx hb dX4_size_0 rfl (lv_at hl 0 rfl) ?_
  refine va_get (D := D.1) (ci := 3) (v := .int v0_size) (C := RX4) (T := TX4) (N := 2) hx hb hts hwX4 hown hK.1 hP 0 rfl rfl 1 (by decide) l20 (fun _ h9 => h9) rfl dX4_size_1 ?_
  have he := Option.some.inj hf
  rw [hQ]
  exact W.iret (v := v0_size) hx hb hr (fun t ht hW => by rw [← he]; exact ⟨⟨v0_size, (), rfl, rfl, by rw [ht]; exact hP, hD⟩, hS.F ht⟩) hS.2.2 dX4_size_4
def fX4_clear (v0_size : Int32) : Option (Int32) :=
  some ((0 : Int32))
set_option maxHeartbeats 4000000 in
set_option maxRecDepth 100000 in
theorem mX4_clear (l : Launch) (D : zG) (a0 : Nat) (a0_before : Nat) (sz : Nat)  (v0_size : Int32)  (res : Int32) (hf : fX4_clear v0_size = some res) : Met l yX4_clear wsX4_clear ({ frames := 0, cells := 0, slots := 0, locals := 0 } : Room) (va_Pc [.ref a0] (zW D sz [(a0, .inr (3, [.ref a0_before, .int v0_size]))])) (va_Qv (fun (_ : Unit) => True) (fun _ => zB D (va_A [(a0, .inr (3, [.ref a0_before, .int v0_size]))] sz) [(a0, .inr (3, [.ref a0_before, .int res]))]) (va_A [(a0, .inr (3, [.ref a0_before, .int v0_size]))] sz)) 0 0 (va_A [(a0, .inr (3, [.ref a0_before, .int v0_size]))] sz) := by
  refine Met.ofW (cc := cX4_clear) (maxL := 1) (ret := none) (by decide) rfl ?_
  intro p e s m args below meth c s₁ B hml hv
  obtain ⟨rfl, hsz, hP, hK, hD0⟩ := hv
  have hx := B.exec
  have hb := B.bytes
  have hr := B.returns
  have hts := atoms_spec (ws := wsX4_clear) B.pre
  have hown : s.vm.findClass RX4 = some m.cls := findClass_of_methodNamed B.named
  have hlocks := B.notSynchronized
  subst hsz
  have hD := hD0.self (sz := s.heap.size)
  generalize hAe : va_A [(a0, .inr (3, [.ref a0_before, .int v0_size]))] s.heap.size = A at hD ⊢
  have hA : ∀ q : Nat, s.heap.size ≤ q → A q := fun q h => by rw [← hAe]; exact Or.inr h
  have l20 := zat hts 1 (w := .fieldLink RX4 20 "TurnedWords$Merges" "size" "I") rfl
  have hwX4 : ∀ w ∈ u_ws RX4 TX4 2, w ∈ wsX4_clear := fun w h => List.mem_cons_of_mem _ (List.mem_append_right _ h)
  have hl := lv_entry ([.ref a0]) (n := 1) (Nat.le_of_ble_eq_true rfl)
  rw [lg_entry_eq]
  generalize (lg_sl ([.ref a0]) ++ List.replicate (1 - (lg_sl ([.ref a0])).length) Slot.unset).toArray = ls at hl ⊢
  have hl : lv_has ls 1 [(0, .ref a0)] := hl
  refine zStart (A := A) hP (fun Q0 H locs hQ hP hS => ?_)
  unfold fX4_clear at hf
  refine lv_aload_n hx hb dX4_clear_0 rfl (lv_at hl 0 rfl) ?_
  refine lv_iconst (v := 0) hx hb dX4_clear_1 (by decide) ?_
  refine va_put (D := D.1) (ci := 3) (v := .int (0 : Int32)) (ty := .int) (C := RX4) (T := TX4) (N := 2) hx hb hts hwX4 tyX4 tyX4_ok nmX4 hown hK.1 hP hD hS 0 rfl rfl 1 (by decide) l20 (fun _ h9 => h9) rfl (by decide +kernel) rfl rfl (Nat.le_of_ble_eq_true rfl) dX4_clear_2 (fun H locs hP hD hS => ?_)
  have hP : va_P D.1 vwCl [(a0, .inr (3, [.ref a0_before, .int (0 : Int32)]))] H := hP
  have hD : va_D A [(a0, .inr (3, [.ref a0_before, .int (0 : Int32)]))] := hD
  have he := Option.some.inj hf
  rw [hQ]
  exact W.vret hx hb hr (fun t ht hW => by rw [← he]; exact ⟨⟨(), rfl, trivial, by rw [ht]; exact hP, hD⟩, hS.F ht⟩) hS.2.2 dX4_clear_5
def fX7_copy (n0_rows : Nat) (n1_rows : Nat) (v0_size : Int32) (g0_rows : Nat → Int64) (v1_size : Int32) (g1_rows : Nat → Int64) : Option (Int32 × (Nat → Int64)) :=
  if (0 : Int32) < 0 ∨ (0 : Int32) < 0 ∨ (if (Int32.ofNat n0_rows) < v1_size then (Int32.ofNat n0_rows) else v1_size) < 0 ∨ n1_rows < ((0 : Int32)).toNatClampNeg + ((if (Int32.ofNat n0_rows) < v1_size then (Int32.ofNat n0_rows) else v1_size)).toNatClampNeg ∨ n0_rows < ((0 : Int32)).toNatClampNeg + ((if (Int32.ofNat n0_rows) < v1_size then (Int32.ofNat n0_rows) else v1_size)).toNatClampNeg then none else
  some ((if (Int32.ofNat n0_rows) < v1_size then (Int32.ofNat n0_rows) else v1_size), (va_cpy g1_rows g0_rows ((0 : Int32)).toNatClampNeg ((0 : Int32)).toNatClampNeg ((if (Int32.ofNat n0_rows) < v1_size then (Int32.ofNat n0_rows) else v1_size)).toNatClampNeg))
set_option maxHeartbeats 4000000 in
set_option maxRecDepth 100000 in
theorem mX7_copy (l : Launch) (D : zG) (a0 : Nat) (a0_rows : Nat) (a1 : Nat) (a1_rows : Nat) (sz : Nat) (n0_rows : Nat) (n1_rows : Nat) (v0_size : Int32) (g0_rows : Nat → Int64) (v1_size : Int32) (g1_rows : Nat → Int64)  (res : Int32 × (Nat → Int64)) (hf : fX7_copy n0_rows n1_rows v0_size g0_rows v1_size g1_rows = some res) : Met l yX7_copy wsX7_copy ({ frames := 1, cells := 0, slots := 0, locals := 40 } : Room) (va_Pc [.ref a0, .ref a1] (zW D sz [(a0, .inr (5, [.ref a0_rows, .int v0_size])), (a0_rows, .inl (D.2 2, n0_rows, .inr (.inl g0_rows))), (a1, .inr (5, [.ref a1_rows, .int v1_size])), (a1_rows, .inl (D.2 2, n1_rows, .inr (.inl g1_rows)))])) (va_Qv (fun (_ : Unit) => True) (fun _ => zB D (va_A [(a0, .inr (5, [.ref a0_rows, .int v0_size])), (a0_rows, .inl (D.2 2, n0_rows, .inr (.inl g0_rows))), (a1, .inr (5, [.ref a1_rows, .int v1_size])), (a1_rows, .inl (D.2 2, n1_rows, .inr (.inl g1_rows)))] sz) [(a0, .inr (5, [.ref a0_rows, .int res.1])), (a0_rows, .inl (D.2 2, n0_rows, .inr (.inl res.2))), (a1, .inr (5, [.ref a1_rows, .int v1_size])), (a1_rows, .inl (D.2 2, n1_rows, .inr (.inl g1_rows)))]) (va_A [(a0, .inr (5, [.ref a0_rows, .int v0_size])), (a0_rows, .inl (D.2 2, n0_rows, .inr (.inl g0_rows))), (a1, .inr (5, [.ref a1_rows, .int v1_size])), (a1_rows, .inl (D.2 2, n1_rows, .inr (.inl g1_rows)))] sz)) 0 0 (va_A [(a0, .inr (5, [.ref a0_rows, .int v0_size])), (a0_rows, .inl (D.2 2, n0_rows, .inr (.inl g0_rows))), (a1, .inr (5, [.ref a1_rows, .int v1_size])), (a1_rows, .inl (D.2 2, n1_rows, .inr (.inl g1_rows)))] sz) := by
  refine Met.ofW (cc := cX7_copy) (maxL := 2) (ret := none) (by decide) rfl ?_
  intro p e s m args below meth c s₁ B hml hv
  obtain ⟨rfl, hsz, hP, hK, hD0⟩ := hv
  have hx := B.exec
  have hb := B.bytes
  have hr := B.returns
  have hts := atoms_spec (ws := wsX7_copy) B.pre
  have hown : s.vm.findClass RX7 = some m.cls := findClass_of_methodNamed B.named
  have hlocks := B.notSynchronized
  subst hsz
  have hD := hD0.self (sz := s.heap.size)
  generalize hAe : va_A [(a0, .inr (5, [.ref a0_rows, .int v0_size])), (a0_rows, .inl (D.2 2, n0_rows, .inr (.inl g0_rows))), (a1, .inr (5, [.ref a1_rows, .int v1_size])), (a1_rows, .inl (D.2 2, n1_rows, .inr (.inl g1_rows)))] s.heap.size = A at hD ⊢
  have hA : ∀ q : Nat, s.heap.size ≤ q → A q := fun q h => by rw [← hAe]; exact Or.inr h
  have l24 := zat hts 1 (w := .fieldLink RX7 24 "TurnedWords$Rising" "size" "I") rfl
  have l18 := zat hts 2 (w := .fieldLink RX7 18 "TurnedWords$Rising" "rows" "[J") rfl
  have l9 := zat hts 3 (w := .methodLink RX7 9 Lib.Math.min.name) rfl
  have hstmin := zat hts 4 (w := .static Lib.Math.min.name) rfl
  have hinM := zat hts 5 (w := .initialized "java/lang/Math") rfl
  have hcdmin := zat hts 6 (w := .code Lib.Math.min.name Lib.Math.min.code 2 (some .int)) rfl
  have l42 := zat hts 7 (w := .methodLink RX7 42 arraycopyName) rfl
  have hnatA := zat hts 8 (w := .native arraycopyName) rfl
  have hstA := zat hts 9 (w := .static arraycopyName) rfl
  have hinS := zat hts 10 (w := .initialized "java/lang/System") rfl
  have hwX7 : ∀ w ∈ u_ws RX7 TX7 2, w ∈ wsX7_copy := fun w h => List.mem_cons_of_mem _ (List.mem_append_right _ h)
  have hl := lv_entry ([.ref a0, .ref a1]) (n := 2) (Nat.le_of_ble_eq_true rfl)
  rw [lg_entry_eq]
  generalize (lg_sl ([.ref a0, .ref a1]) ++ List.replicate (2 - (lg_sl ([.ref a0, .ref a1])).length) Slot.unset).toArray = ls at hl ⊢
  have hl : lv_has ls 2 [(0, .ref a0), (1, .ref a1)] := hl
  refine zStart (A := A) hP (fun Q0 H locs hQ hP hS => ?_)
  unfold fX7_copy at hf
  refine lv_aload_n hx hb dX7_copy_0 rfl (lv_at hl 0 rfl) ?_
  refine lv_aload_n hx hb dX7_copy_1 rfl (lv_at hl 1 rfl) ?_
  refine va_get (D := D.1) (ci := 5) (v := .int v1_size) (C := RX7) (T := TX7) (N := 2) hx hb hts hwX7 hown hK.1 hP 2 rfl rfl 1 (by decide) l24 (fun _ h9 => h9) rfl dX7_copy_2 ?_
  refine lv_aload_n hx hb dX7_copy_5 rfl (lv_at hl 0 rfl) ?_
  refine va_get (D := D.1) (ci := 5) (v := .ref a0_rows) (C := RX7) (T := TX7) (N := 2) hx hb hts hwX7 hown hK.1 hP 0 rfl rfl 0 (by decide) l18 (fun _ h9 => h9) rfl dX7_copy_6 ?_
  refine va_alen hx hb hK.1 hP 1 2 rfl rfl (v := (Int32.ofNat n0_rows)) rfl dX7_copy_9 ?_
  refine va_mmin hx hb (hml.trans hl.1.symm) hown l9 hstmin hinM hcdmin (Nat.le_of_ble_eq_true rfl) (Nat.le_of_ble_eq_true rfl) (Nat.zero_le _) (Nat.zero_le _) dX7_copy_10 ?_
  refine va_put (D := D.1) (ci := 5) (v := .int (if (Int32.ofNat n0_rows) < v1_size then (Int32.ofNat n0_rows) else v1_size)) (ty := .int) (C := RX7) (T := TX7) (N := 2) hx hb hts hwX7 tyX7 tyX7_ok nmX7 hown hK.1 hP hD hS 0 rfl rfl 1 (by decide) l24 (fun _ h9 => h9) rfl (by decide +kernel) rfl rfl (Nat.le_of_ble_eq_true rfl) dX7_copy_13 (fun H locs hP hD hS => ?_)
  have hP : va_P D.1 vwCl [(a0, .inr (5, [.ref a0_rows, .int (if (Int32.ofNat n0_rows) < v1_size then (Int32.ofNat n0_rows) else v1_size)])), (a0_rows, .inl (D.2 2, n0_rows, .inr (.inl g0_rows))), (a1, .inr (5, [.ref a1_rows, .int v1_size])), (a1_rows, .inl (D.2 2, n1_rows, .inr (.inl g1_rows)))] H := hP
  have hD : va_D A [(a0, .inr (5, [.ref a0_rows, .int (if (Int32.ofNat n0_rows) < v1_size then (Int32.ofNat n0_rows) else v1_size)])), (a0_rows, .inl (D.2 2, n0_rows, .inr (.inl g0_rows))), (a1, .inr (5, [.ref a1_rows, .int v1_size])), (a1_rows, .inl (D.2 2, n1_rows, .inr (.inl g1_rows)))] := hD
  refine lv_aload_n hx hb dX7_copy_16 rfl (lv_at hl 1 rfl) ?_
  refine va_get (D := D.1) (ci := 5) (v := .ref a1_rows) (C := RX7) (T := TX7) (N := 2) hx hb hts hwX7 hown hK.1 hP 2 rfl rfl 0 (by decide) l18 (fun _ h9 => h9) rfl dX7_copy_17 ?_
  refine lv_iconst (v := 0) hx hb dX7_copy_20 (by decide) ?_
  refine lv_aload_n hx hb dX7_copy_21 rfl (lv_at hl 0 rfl) ?_
  refine va_get (D := D.1) (ci := 5) (v := .ref a0_rows) (C := RX7) (T := TX7) (N := 2) hx hb hts hwX7 hown hK.1 hP 0 rfl rfl 0 (by decide) l18 (fun _ h9 => h9) rfl dX7_copy_22 ?_
  refine lv_iconst (v := 0) hx hb dX7_copy_25 (by decide) ?_
  refine lv_aload_n hx hb dX7_copy_26 rfl (lv_at hl 0 rfl) ?_
  refine va_get (D := D.1) (ci := 5) (v := .int (if (Int32.ofNat n0_rows) < v1_size then (Int32.ofNat n0_rows) else v1_size)) (C := RX7) (T := TX7) (N := 2) hx hb hts hwX7 hown hK.1 hP 0 rfl rfl 1 (by decide) l24 (fun _ h9 => h9) rfl dX7_copy_27 ?_
  obtain ⟨h_1, hf⟩ := gd hf
  obtain ⟨h_2, h_3, h_4, h_5, h_6⟩ := zor5 h_1
  refine va_copyl hx hb (hml.trans hl.1.symm) hown l42 hnatA hstA hinS hK.1 hP hD hS 3 1 2 2 (ty := .long) rfl rfl rfl rfl rfl h_2 h_3 h_4 (Nat.not_lt.mp h_5) (Nat.not_lt.mp h_6) (fun _ _ => rfl) (Nat.le_of_ble_eq_true rfl) (Nat.le_of_ble_eq_true rfl) dX7_copy_30 (fun H locs hP hD hS => ?_)
  have hP : va_P D.1 vwCl [(a0, .inr (5, [.ref a0_rows, .int (if (Int32.ofNat n0_rows) < v1_size then (Int32.ofNat n0_rows) else v1_size)])), (a0_rows, .inl (D.2 2, n0_rows, .inr (.inl (va_cpy g1_rows g0_rows ((0 : Int32)).toNatClampNeg ((0 : Int32)).toNatClampNeg ((if (Int32.ofNat n0_rows) < v1_size then (Int32.ofNat n0_rows) else v1_size)).toNatClampNeg)))), (a1, .inr (5, [.ref a1_rows, .int v1_size])), (a1_rows, .inl (D.2 2, n1_rows, .inr (.inl g1_rows)))] H := hP
  have hD : va_D A [(a0, .inr (5, [.ref a0_rows, .int (if (Int32.ofNat n0_rows) < v1_size then (Int32.ofNat n0_rows) else v1_size)])), (a0_rows, .inl (D.2 2, n0_rows, .inr (.inl (va_cpy g1_rows g0_rows ((0 : Int32)).toNatClampNeg ((0 : Int32)).toNatClampNeg ((if (Int32.ofNat n0_rows) < v1_size then (Int32.ofNat n0_rows) else v1_size)).toNatClampNeg)))), (a1, .inr (5, [.ref a1_rows, .int v1_size])), (a1_rows, .inl (D.2 2, n1_rows, .inr (.inl g1_rows)))] := hD
  have he := Option.some.inj hf
  rw [hQ]
  exact W.vret hx hb hr (fun t ht hW => by rw [← he]; exact ⟨⟨(), rfl, trivial, by rw [ht]; exact hP, hD⟩, hS.F ht⟩) hS.2.2 dX7_copy_33
def fX11_isLetter (p0 : Int32) : Option (Int32) :=
  if p0 < (97 : Int32) then
    some ((0 : Int32))
  else
    if (122 : Int32) < p0 then
      some ((0 : Int32))
    else
      some ((1 : Int32))
set_option maxHeartbeats 4000000 in
set_option maxRecDepth 100000 in
theorem mX11_isLetter (l : Launch) (D : zG)  (sz : Nat)   (p0 : Int32) (res : Int32) (hf : fX11_isLetter p0 = some res) : Met l yX11_isLetter wsX11_isLetter ({ frames := 0, cells := 0, slots := 0, locals := 0 } : Room) (va_Pc [.int p0] (zW D sz [])) (va_Qi (fun r (_ : Unit) => r = res ∧ (r = 0 ∨ r = 1)) (fun _ => zB D (va_A [] sz) []) (va_A [] sz)) 0 0 (va_A [] sz) := by
  refine Met.ofW (cc := cX11_isLetter) (maxL := 1) (ret := (some .boolean)) (by decide) rfl ?_
  intro p e s m args below meth c s₁ B hml hv
  obtain ⟨rfl, hsz, hP, hK, hD0⟩ := hv
  have hx := B.exec
  have hb := B.bytes
  have hr := B.returns
  have hts := atoms_spec (ws := wsX11_isLetter) B.pre
  have hown : s.vm.findClass RX11 = some m.cls := findClass_of_methodNamed B.named
  have hlocks := B.notSynchronized
  subst hsz
  have hD := hD0.self (sz := s.heap.size)
  generalize hAe : va_A [] s.heap.size = A at hD ⊢
  have hA : ∀ q : Nat, s.heap.size ≤ q → A q := fun q h => by rw [← hAe]; exact Or.inr h
  have hl := lv_entry ([.int p0]) (n := 1) (Nat.le_of_ble_eq_true rfl)
  rw [lg_entry_eq]
  generalize (lg_sl ([.int p0]) ++ List.replicate (1 - (lg_sl ([.int p0])).length) Slot.unset).toArray = ls at hl ⊢
  have hl : lv_has ls 1 [(0, .int p0)] := hl
  refine zStart (A := A) hP (fun Q0 H locs hQ hP hS => ?_)
  unfold fX11_isLetter at hf
  refine lv_iload_n hx hb dX11_isLetter_0 rfl (lv_at hl 0 rfl) ?_
  refine lv_bipush (v := 97) hx hb dX11_isLetter_1 (by decide) ?_
  refine lv_icmp_lt (tgt := 16) hx hb dX11_isLetter_3 (by decide) (fun c_1 => ?_) (fun c_1 => ?_)
  · replace hf := ip c_1 hf
    refine lv_iconst (v := 0) hx hb dX11_isLetter_16 (by decide) ?_
    have he := Option.some.inj hf
    rw [hQ]
    exact W.zret (v := (0 : Int32)) hx hb hr (znb (Or.inl rfl)) (fun t ht hW => by rw [← he]; exact ⟨⟨(0 : Int32), (), rfl, ⟨rfl, Or.inl rfl⟩, by rw [ht]; exact hP, hD⟩, hS.F ht⟩) hS.2.2 dX11_isLetter_17
  · replace hf := im c_1 hf
    refine lv_iload_n hx hb dX11_isLetter_6 rfl (lv_at hl 0 rfl) ?_
    refine lv_bipush (v := 122) hx hb dX11_isLetter_7 (by decide) ?_
    refine lv_icmp_gt (tgt := 16) hx hb dX11_isLetter_9 (by decide) (fun c_2 => ?_) (fun c_2 => ?_)
    · replace hf := ip c_2 hf
      refine lv_iconst (v := 0) hx hb dX11_isLetter_16 (by decide) ?_
      have he := Option.some.inj hf
      rw [hQ]
      exact W.zret (v := (0 : Int32)) hx hb hr (znb (Or.inl rfl)) (fun t ht hW => by rw [← he]; exact ⟨⟨(0 : Int32), (), rfl, ⟨rfl, Or.inl rfl⟩, by rw [ht]; exact hP, hD⟩, hS.F ht⟩) hS.2.2 dX11_isLetter_17
    · replace hf := im c_2 hf
      refine lv_iconst (v := 1) hx hb dX11_isLetter_12 (by decide) ?_
      refine lv_goto (tgt := 17) hx hb dX11_isLetter_13 (by decide) ?_
      have he := Option.some.inj hf
      rw [hQ]
      exact W.zret (v := (1 : Int32)) hx hb hr (znb (Or.inr rfl)) (fun t ht hW => by rw [← he]; exact ⟨⟨(1 : Int32), (), rfl, ⟨rfl, Or.inr rfl⟩, by rw [ht]; exact hP, hD⟩, hS.F ht⟩) hS.2.2 dX11_isLetter_17
def fX5_isSign (p0 : Int32) : Option (Int32) :=
  Option.bind (fX11_isLetter p0) fun r1 =>
  if r1 = (0 : Int32) then
    if p0 = (63 : Int32) then
      some ((1 : Int32))
    else
      if p0 = (42 : Int32) then
        some ((1 : Int32))
      else
        some ((0 : Int32))
  else
    some ((1 : Int32))
set_option maxHeartbeats 4000000 in
set_option maxRecDepth 100000 in
theorem mX5_isSign (l : Launch) (D : zG)  (sz : Nat)   (p0 : Int32) (res : Int32) (hf : fX5_isSign p0 = some res) : Met l yX5_isSign wsX5_isSign ({ frames := 1, cells := 0, slots := 0, locals := 20 } : Room) (va_Pc [.int p0] (zW D sz [])) (va_Qi (fun r (_ : Unit) => r = res ∧ (r = 0 ∨ r = 1)) (fun _ => zB D (va_A [] sz) []) (va_A [] sz)) 0 0 (va_A [] sz) := by
  refine Met.ofW (cc := cX5_isSign) (maxL := 1) (ret := (some .boolean)) (by decide) rfl ?_
  intro p e s m args below meth c s₁ B hml hv
  obtain ⟨rfl, hsz, hP, hK, hD0⟩ := hv
  have hx := B.exec
  have hb := B.bytes
  have hr := B.returns
  have hts := atoms_spec (ws := wsX5_isSign) B.pre
  have hown : s.vm.findClass RX5 = some m.cls := findClass_of_methodNamed B.named
  have hlocks := B.notSynchronized
  subst hsz
  have hD := hD0.self (sz := s.heap.size)
  generalize hAe : va_A [] s.heap.size = A at hD ⊢
  have hA : ∀ q : Nat, s.heap.size ≤ q → A q := fun q h => by rw [← hAe]; exact Or.inr h
  have hst_X11_isLetter := zat hts 1 (w := .static yX11_isLetter) rfl
  have hin_X11 := zat hts 2 (w := .initialized RX11) rfl
  have hl := lv_entry ([.int p0]) (n := 1) (Nat.le_of_ble_eq_true rfl)
  rw [lg_entry_eq]
  generalize (lg_sl ([.int p0]) ++ List.replicate (1 - (lg_sl ([.int p0])).length) Slot.unset).toArray = ls at hl ⊢
  have hl : lv_has ls 1 [(0, .int p0)] := hl
  refine zStart (A := A) hP (fun Q0 H locs hQ hP hS => ?_)
  unfold fX5_isSign at hf
  refine lv_iload_n hx hb dX5_isSign_0 rfl (lv_at hl 0 rfl) ?_
  obtain ⟨r1, hr1, hf⟩ := bd hf
  refine zNz (As := [.int p0]) (rest := []) (wn := []) ⟨hx, hb, hml, hown, hts⟩ (mX11_isLetter l D H.size p0 r1 hr1) (⟨va_cnB 1 hts gX5_isSign_X11_isLetter_n19 rfl rfl rfl hK.2.1 hin_X11 (by decide +kernel) ⟨Nat.le_of_ble_eq_true rfl, Nat.le_of_ble_eq_true rfl⟩, hst_X11_isLetter, trivial⟩) hK hP hD hS hA [] [] [] rfl (by decide) rfl (by decide) (by decide) rfl (by decide) rfl hl.1 rfl (Nat.le_of_ble_eq_true rfl) dX5_isSign_1 ⟨Nat.zero_le _, Nat.zero_le _⟩ (fun H locs hb_2 hP hD hS => ?_)
  refine lv_if_ne (tgt := 19) hx hb dX5_isSign_4 (by decide) (fun c_3 => ?_) (fun c_3 => ?_)
  · replace hf := im c_3 hf
    refine lv_iconst (v := 1) hx hb dX5_isSign_19 (by decide) ?_
    refine lv_goto (tgt := 24) hx hb dX5_isSign_20 (by decide) ?_
    have he := Option.some.inj hf
    rw [hQ]
    exact W.zret (v := (1 : Int32)) hx hb hr (znb (Or.inr rfl)) (fun t ht hW => by rw [← he]; exact ⟨⟨(1 : Int32), (), rfl, ⟨rfl, Or.inr rfl⟩, by rw [ht]; exact hP, hD⟩, hS.F ht⟩) hS.2.2 dX5_isSign_24
  · replace hf := ip c_3 hf
    refine lv_iload_n hx hb dX5_isSign_7 rfl (lv_at hl 0 rfl) ?_
    refine lv_bipush (v := 63) hx hb dX5_isSign_8 (by decide) ?_
    refine lv_icmp_eq (tgt := 19) hx hb dX5_isSign_10 (by decide) (fun c_4 => ?_) (fun c_4 => ?_)
    · replace hf := ip c_4 hf
      refine lv_iconst (v := 1) hx hb dX5_isSign_19 (by decide) ?_
      refine lv_goto (tgt := 24) hx hb dX5_isSign_20 (by decide) ?_
      have he := Option.some.inj hf
      rw [hQ]
      exact W.zret (v := (1 : Int32)) hx hb hr (znb (Or.inr rfl)) (fun t ht hW => by rw [← he]; exact ⟨⟨(1 : Int32), (), rfl, ⟨rfl, Or.inr rfl⟩, by rw [ht]; exact hP, hD⟩, hS.F ht⟩) hS.2.2 dX5_isSign_24
    · replace hf := im c_4 hf
      refine lv_iload_n hx hb dX5_isSign_13 rfl (lv_at hl 0 rfl) ?_
      refine lv_bipush (v := 42) hx hb dX5_isSign_14 (by decide) ?_
      refine lv_icmp_ne (tgt := 23) hx hb dX5_isSign_16 (by decide) (fun c_5 => ?_) (fun c_5 => ?_)
      · replace hf := im c_5 hf
        refine lv_iconst (v := 0) hx hb dX5_isSign_23 (by decide) ?_
        have he := Option.some.inj hf
        rw [hQ]
        exact W.zret (v := (0 : Int32)) hx hb hr (znb (Or.inl rfl)) (fun t ht hW => by rw [← he]; exact ⟨⟨(0 : Int32), (), rfl, ⟨rfl, Or.inl rfl⟩, by rw [ht]; exact hP, hD⟩, hS.F ht⟩) hS.2.2 dX5_isSign_24
      · replace hf := ip c_5 hf
        refine lv_iconst (v := 1) hx hb dX5_isSign_19 (by decide) ?_
        refine lv_goto (tgt := 24) hx hb dX5_isSign_20 (by decide) ?_
        have he := Option.some.inj hf
        rw [hQ]
        exact W.zret (v := (1 : Int32)) hx hb hr (znb (Or.inr rfl)) (fun t ht hW => by rw [← he]; exact ⟨⟨(1 : Int32), (), rfl, ⟨rfl, Or.inr rfl⟩, by rw [ht]; exact hP, hD⟩, hS.F ht⟩) hS.2.2 dX5_isSign_24
def fX5_put (v0_size : Int32) (g0_signs : Nat → Int32) (p1 : Int32) (p2 : Int32) : Option ((Nat → Int32)) :=
  Option.bind (fX5_hasPlace v0_size p1) fun r1 =>
  if r1 = (0 : Int32) then
    some (g0_signs)
  else
    if p1 < 0 ∨ 12 ≤ (p1).toNatClampNeg then none else
    some ((upd g0_signs (p1).toNatClampNeg p2))
set_option maxHeartbeats 4000000 in
set_option maxRecDepth 100000 in
theorem mX5_put (l : Launch) (D : zG) (a0 : Nat) (a0_signs : Nat) (sz : Nat)  (v0_size : Int32) (g0_signs : Nat → Int32) (p1 : Int32) (p2 : Int32) (res : (Nat → Int32)) (hf : fX5_put v0_size g0_signs p1 p2 = some res) : Met l yX5_put wsX5_put ({ frames := 1, cells := 0, slots := 0, locals := 21 } : Room) (va_Pc [.ref a0, .int p1, .int p2] (zW D sz [(a0, .inr (4, [.ref a0_signs, .int v0_size])), (a0_signs, .inl (D.2 1, 12, .inl g0_signs))])) (va_Qv (fun (_ : Unit) => True) (fun _ => zB D (va_A [(a0, .inr (4, [.ref a0_signs, .int v0_size])), (a0_signs, .inl (D.2 1, 12, .inl g0_signs))] sz) [(a0, .inr (4, [.ref a0_signs, .int v0_size])), (a0_signs, .inl (D.2 1, 12, .inl res))]) (va_A [(a0, .inr (4, [.ref a0_signs, .int v0_size])), (a0_signs, .inl (D.2 1, 12, .inl g0_signs))] sz)) 0 0 (va_A [(a0, .inr (4, [.ref a0_signs, .int v0_size])), (a0_signs, .inl (D.2 1, 12, .inl g0_signs))] sz) := by
  refine Met.ofW (cc := cX5_put) (maxL := 3) (ret := none) (by decide) rfl ?_
  intro p e s m args below meth c s₁ B hml hv
  obtain ⟨rfl, hsz, hP, hK, hD0⟩ := hv
  have hx := B.exec
  have hb := B.bytes
  have hr := B.returns
  have hts := atoms_spec (ws := wsX5_put) B.pre
  have hown : s.vm.findClass RX5 = some m.cls := findClass_of_methodNamed B.named
  have hlocks := B.notSynchronized
  subst hsz
  have hD := hD0.self (sz := s.heap.size)
  generalize hAe : va_A [(a0, .inr (4, [.ref a0_signs, .int v0_size])), (a0_signs, .inl (D.2 1, 12, .inl g0_signs))] s.heap.size = A at hD ⊢
  have hA : ∀ q : Nat, s.heap.size ≤ q → A q := fun q h => by rw [← hAe]; exact Or.inr h
  have l9 := zat hts 1 (w := .fieldLink RX5 9 "TurnedWords$Pattern" "signs" "[I") rfl
  have hwX5 : ∀ w ∈ u_ws RX5 TX5 2, w ∈ wsX5_put := fun w h => List.mem_cons_of_mem _ (List.mem_append_right _ h)
  have hl := lv_entry ([.ref a0, .int p1, .int p2]) (n := 3) (Nat.le_of_ble_eq_true rfl)
  rw [lg_entry_eq]
  generalize (lg_sl ([.ref a0, .int p1, .int p2]) ++ List.replicate (3 - (lg_sl ([.ref a0, .int p1, .int p2])).length) Slot.unset).toArray = ls at hl ⊢
  have hl : lv_has ls 3 [(0, .ref a0), (1, .int p1), (2, .int p2)] := hl
  refine zStart (A := A) hP (fun Q0 H locs hQ hP hS => ?_)
  unfold fX5_put at hf
  refine lv_aload_n hx hb dX5_put_0 rfl (lv_at hl 0 rfl) ?_
  refine lv_iload_n hx hb dX5_put_1 rfl (lv_at hl 1 rfl) ?_
  obtain ⟨r1, hr1, hf⟩ := bd hf
  refine zVz (As := [.int p1]) (rest := []) (ci := 4) (q0 := 0) (wn := [(a0, .inr (4, [.ref a0_signs, .int v0_size])), (a0_signs, .inl (D.2 1, 12, .inl g0_signs))]) ⟨hx, hb, hml, hown, hts⟩ (mX5_hasPlace l D a0 a0_signs H.size v0_size p1 r1 hr1) (cwV 1 hts gX5_put_X5_hasPlace rfl rfl rfl (by decide +kernel) ⟨Nat.le_of_ble_eq_true rfl, Nat.le_of_ble_eq_true rfl⟩) hK hP hD hS hA [0] [1] [1, 0] rfl (by decide) rfl (by decide) (by decide) rfl (by decide) rfl rfl rfl hl.1 rfl (Nat.le_of_ble_eq_true rfl) dX5_put_2 ⟨Nat.zero_le _, Nat.zero_le _⟩ (fun H locs hb_2 hP hD hS => ?_)
  refine lv_if_eq (tgt := 15) hx hb dX5_put_5 (by decide) (fun c_3 => ?_) (fun c_3 => ?_)
  · replace hf := ip c_3 hf
    have he := Option.some.inj hf
    rw [hQ]
    exact W.vret hx hb hr (fun t ht hW => by rw [← he]; exact ⟨⟨(), rfl, trivial, by rw [ht]; exact hP, hD⟩, hS.F ht⟩) hS.2.2 dX5_put_15
  · replace hf := im c_3 hf
    refine lv_aload_n hx hb dX5_put_8 rfl (lv_at hl 0 rfl) ?_
    refine va_get (D := D.1) (ci := 4) (v := .ref a0_signs) (C := RX5) (T := TX5) (N := 2) hx hb hts hwX5 hown hK.1 hP 0 rfl rfl 0 (by decide) l9 (fun _ h9 => h9) rfl dX5_put_9 ?_
    refine lv_iload_n hx hb dX5_put_12 rfl (lv_at hl 1 rfl) ?_
    refine lv_iload_n hx hb dX5_put_13 rfl (lv_at hl 2 rfl) ?_
    obtain ⟨h_4, hf⟩ := gd hf
    refine va_iast hx hb hK.1 hP hD hS 1 1 rfl rfl h_4 dX5_put_14 (fun H locs hP hD hS => ?_)
    have hP : va_P D.1 vwCl [(a0, .inr (4, [.ref a0_signs, .int v0_size])), (a0_signs, .inl (D.2 1, 12, .inl (upd g0_signs (p1).toNatClampNeg p2)))] H := hP
    have hD : va_D A [(a0, .inr (4, [.ref a0_signs, .int v0_size])), (a0_signs, .inl (D.2 1, 12, .inl (upd g0_signs (p1).toNatClampNeg p2)))] := hD
    have he := Option.some.inj hf
    rw [hQ]
    exact W.vret hx hb hr (fun t ht hW => by rw [← he]; exact ⟨⟨(), rfl, trivial, by rw [ht]; exact hP, hD⟩, hS.F ht⟩) hS.2.2 dX5_put_15
def fX10_size (v0_size : Int32) : Option (Int32) :=
  some (v0_size)
set_option maxHeartbeats 4000000 in
set_option maxRecDepth 100000 in
theorem mX10_size (l : Launch) (D : zG) (a0 : Nat) (a0_bytes : Nat) (sz : Nat)  (v0_size : Int32)  (res : Int32) (hf : fX10_size v0_size = some res) : Met l yX10_size wsX10_size ({ frames := 0, cells := 0, slots := 0, locals := 0 } : Room) (va_Pc [.ref a0] (zW D sz [(a0, .inr (7, [.ref a0_bytes, .int v0_size]))])) (va_Qi (fun r (_ : Unit) => r = res) (fun _ => zB D (va_A [(a0, .inr (7, [.ref a0_bytes, .int v0_size]))] sz) [(a0, .inr (7, [.ref a0_bytes, .int v0_size]))]) (va_A [(a0, .inr (7, [.ref a0_bytes, .int v0_size]))] sz)) 0 0 (va_A [(a0, .inr (7, [.ref a0_bytes, .int v0_size]))] sz) := by
  refine Met.ofW (cc := cX10_size) (maxL := 1) (ret := (some .int)) (by decide) rfl ?_
  intro p e s m args below meth c s₁ B hml hv
  obtain ⟨rfl, hsz, hP, hK, hD0⟩ := hv
  have hx := B.exec
  have hb := B.bytes
  have hr := B.returns
  have hts := atoms_spec (ws := wsX10_size) B.pre
  have hown : s.vm.findClass RX10 = some m.cls := findClass_of_methodNamed B.named
  have hlocks := B.notSynchronized
  subst hsz
  have hD := hD0.self (sz := s.heap.size)
  generalize hAe : va_A [(a0, .inr (7, [.ref a0_bytes, .int v0_size]))] s.heap.size = A at hD ⊢
  have hA : ∀ q : Nat, s.heap.size ≤ q → A q := fun q h => by rw [← hAe]; exact Or.inr h
  have l15 := zat hts 1 (w := .fieldLink RX10 15 "TurnedWords$Tape" "size" "I") rfl
  have hwX10 : ∀ w ∈ u_ws RX10 TX10 2, w ∈ wsX10_size := fun w h => List.mem_cons_of_mem _ (List.mem_append_right _ h)
  have hl := lv_entry ([.ref a0]) (n := 1) (Nat.le_of_ble_eq_true rfl)
  rw [lg_entry_eq]
  generalize (lg_sl ([.ref a0]) ++ List.replicate (1 - (lg_sl ([.ref a0])).length) Slot.unset).toArray = ls at hl ⊢
  have hl : lv_has ls 1 [(0, .ref a0)] := hl
  refine zStart (A := A) hP (fun Q0 H locs hQ hP hS => ?_)
  unfold fX10_size at hf
  refine lv_aload_n hx hb dX10_size_0 rfl (lv_at hl 0 rfl) ?_
  refine va_get (D := D.1) (ci := 7) (v := .int v0_size) (C := RX10) (T := TX10) (N := 2) hx hb hts hwX10 hown hK.1 hP 0 rfl rfl 1 (by decide) l15 (fun _ h9 => h9) rfl dX10_size_1 ?_
  have he := Option.some.inj hf
  rw [hQ]
  exact W.iret (v := v0_size) hx hb hr (fun t ht hW => by rw [← he]; exact ⟨⟨v0_size, (), rfl, rfl, by rw [ht]; exact hP, hD⟩, hS.F ht⟩) hS.2.2 dX10_size_4
def fX10_at (v0_size : Int32) (g0_bytes : Nat → Int32) (p1 : Int32) : Option (Int32) :=
  if p1 < (0 : Int32) then
    some ((-1 : Int32))
  else
    if p1 < v0_size then
      if p1 < 0 ∨ 400 ≤ (p1).toNatClampNeg then none else
      some (((g0_bytes (p1).toNatClampNeg) &&& (255 : Int32)))
    else
      some ((-1 : Int32))
set_option maxHeartbeats 4000000 in
set_option maxRecDepth 100000 in
theorem mX10_at (l : Launch) (D : zG) (a0 : Nat) (a0_bytes : Nat) (sz : Nat)  (v0_size : Int32) (g0_bytes : Nat → Int32) (p1 : Int32) (res : Int32) (hf : fX10_at v0_size g0_bytes p1 = some res) : Met l yX10_at wsX10_at ({ frames := 0, cells := 0, slots := 0, locals := 0 } : Room) (va_Pc [.ref a0, .int p1] (zW D sz [(a0, .inr (7, [.ref a0_bytes, .int v0_size])), (a0_bytes, .inl (D.2 0, 400, .inl g0_bytes))])) (va_Qi (fun r (_ : Unit) => r = res) (fun _ => zB D (va_A [(a0, .inr (7, [.ref a0_bytes, .int v0_size])), (a0_bytes, .inl (D.2 0, 400, .inl g0_bytes))] sz) [(a0, .inr (7, [.ref a0_bytes, .int v0_size])), (a0_bytes, .inl (D.2 0, 400, .inl g0_bytes))]) (va_A [(a0, .inr (7, [.ref a0_bytes, .int v0_size])), (a0_bytes, .inl (D.2 0, 400, .inl g0_bytes))] sz)) 0 0 (va_A [(a0, .inr (7, [.ref a0_bytes, .int v0_size])), (a0_bytes, .inl (D.2 0, 400, .inl g0_bytes))] sz) := by
  refine Met.ofW (cc := cX10_at) (maxL := 2) (ret := (some .int)) (by decide) rfl ?_
  intro p e s m args below meth c s₁ B hml hv
  obtain ⟨rfl, hsz, hP, hK, hD0⟩ := hv
  have hx := B.exec
  have hb := B.bytes
  have hr := B.returns
  have hts := atoms_spec (ws := wsX10_at) B.pre
  have hown : s.vm.findClass RX10 = some m.cls := findClass_of_methodNamed B.named
  have hlocks := B.notSynchronized
  subst hsz
  have hD := hD0.self (sz := s.heap.size)
  generalize hAe : va_A [(a0, .inr (7, [.ref a0_bytes, .int v0_size])), (a0_bytes, .inl (D.2 0, 400, .inl g0_bytes))] s.heap.size = A at hD ⊢
  have hA : ∀ q : Nat, s.heap.size ≤ q → A q := fun q h => by rw [← hAe]; exact Or.inr h
  have l15 := zat hts 1 (w := .fieldLink RX10 15 "TurnedWords$Tape" "size" "I") rfl
  have l9 := zat hts 2 (w := .fieldLink RX10 9 "TurnedWords$Tape" "bytes" "[B") rfl
  have hwX10 : ∀ w ∈ u_ws RX10 TX10 2, w ∈ wsX10_at := fun w h => List.mem_cons_of_mem _ (List.mem_append_right _ h)
  have hl := lv_entry ([.ref a0, .int p1]) (n := 2) (Nat.le_of_ble_eq_true rfl)
  rw [lg_entry_eq]
  generalize (lg_sl ([.ref a0, .int p1]) ++ List.replicate (2 - (lg_sl ([.ref a0, .int p1])).length) Slot.unset).toArray = ls at hl ⊢
  have hl : lv_has ls 2 [(0, .ref a0), (1, .int p1)] := hl
  refine zStart (A := A) hP (fun Q0 H locs hQ hP hS => ?_)
  unfold fX10_at at hf
  refine lv_iload_n hx hb dX10_at_0 rfl (lv_at hl 1 rfl) ?_
  refine lv_if_lt (tgt := 12) hx hb dX10_at_1 (by decide) (fun c_1 => ?_) (fun c_1 => ?_)
  · replace hf := ip c_1 hf
    refine lv_iconst (v := -1) hx hb dX10_at_12 (by decide) ?_
    refine lv_goto (tgt := 26) hx hb dX10_at_13 (by decide) ?_
    have he := Option.some.inj hf
    rw [hQ]
    exact W.iret (v := (-1 : Int32)) hx hb hr (fun t ht hW => by rw [← he]; exact ⟨⟨(-1 : Int32), (), rfl, rfl, by rw [ht]; exact hP, hD⟩, hS.F ht⟩) hS.2.2 dX10_at_26
  · replace hf := im c_1 hf
    refine lv_iload_n hx hb dX10_at_4 rfl (lv_at hl 1 rfl) ?_
    refine lv_aload_n hx hb dX10_at_5 rfl (lv_at hl 0 rfl) ?_
    refine va_get (D := D.1) (ci := 7) (v := .int v0_size) (C := RX10) (T := TX10) (N := 2) hx hb hts hwX10 hown hK.1 hP 0 rfl rfl 1 (by decide) l15 (fun _ h9 => h9) rfl dX10_at_6 ?_
    refine lv_icmp_lt (tgt := 16) hx hb dX10_at_9 (by decide) (fun c_2 => ?_) (fun c_2 => ?_)
    · replace hf := ip c_2 hf
      refine lv_aload_n hx hb dX10_at_16 rfl (lv_at hl 0 rfl) ?_
      refine va_get (D := D.1) (ci := 7) (v := .ref a0_bytes) (C := RX10) (T := TX10) (N := 2) hx hb hts hwX10 hown hK.1 hP 0 rfl rfl 0 (by decide) l9 (fun _ h9 => h9) rfl dX10_at_17 ?_
      refine lv_iload_n hx hb dX10_at_20 rfl (lv_at hl 1 rfl) ?_
      obtain ⟨h_3, hf⟩ := gd hf
      refine va_bald hx hb hK.1 hP 1 0 rfl rfl h_3 dX10_at_21 ?_
      refine lv_sipush (v := 255) hx hb dX10_at_22 (by decide) ?_
      refine lv_iand hx hb dX10_at_25 ?_
      have he := Option.some.inj hf
      rw [hQ]
      exact W.iret (v := ((g0_bytes (p1).toNatClampNeg) &&& (255 : Int32))) hx hb hr (fun t ht hW => by rw [← he]; exact ⟨⟨((g0_bytes (p1).toNatClampNeg) &&& (255 : Int32)), (), rfl, rfl, by rw [ht]; exact hP, hD⟩, hS.F ht⟩) hS.2.2 dX10_at_26
    · replace hf := im c_2 hf
      refine lv_iconst (v := -1) hx hb dX10_at_12 (by decide) ?_
      refine lv_goto (tgt := 26) hx hb dX10_at_13 (by decide) ?_
      have he := Option.some.inj hf
      rw [hQ]
      exact W.iret (v := (-1 : Int32)) hx hb hr (fun t ht hW => by rw [← he]; exact ⟨⟨(-1 : Int32), (), rfl, rfl, by rw [ht]; exact hP, hD⟩, hS.F ht⟩) hS.2.2 dX10_at_26
def fX5_take_15 (N : Nat) (v1_size : Int32) (g1_bytes : Nat → Int32) : Nat → Int32 → Int32 → (Nat → Int32) → Option (Int32 × (Nat → Int32))
  | 0, _, _, _ => none
  | K + 1, x2, v0_size, g0_signs =>
    if v0_size ≤ x2 then
      some (v0_size, g0_signs)
    else
      Option.bind (fX10_at v1_size g1_bytes x2) fun r3 =>
      if x2 < 0 ∨ 12 ≤ (x2).toNatClampNeg then none else
      (fX5_take_15 N v1_size g1_bytes K) (x2 + (1 : Int32)) v0_size (upd g0_signs (x2).toNatClampNeg r3)
def fX5_take (N : Nat) (v0_size : Int32) (g0_signs : Nat → Int32) (v1_size : Int32) (g1_bytes : Nat → Int32) : Option (Int32 × (Nat → Int32)) :=
  Option.bind (fX10_size v1_size) fun r1 =>
  fX5_take_15 N v1_size g1_bytes N (0 : Int32) (if (12 : Int32) < r1 then (12 : Int32) else r1) g0_signs
set_option maxHeartbeats 4000000 in
set_option maxRecDepth 100000 in
theorem mX5_take (l : Launch) (D : zG) (a0 : Nat) (a0_signs : Nat) (a1 : Nat) (a1_bytes : Nat) (sz : Nat)  (v0_size : Int32) (g0_signs : Nat → Int32) (v1_size : Int32) (g1_bytes : Nat → Int32)  (N : Nat) (res : Int32 × (Nat → Int32)) (hf : fX5_take N v0_size g0_signs v1_size g1_bytes = some res) : Met l yX5_take wsX5_take ({ frames := 1, cells := 0, slots := 0, locals := 21 } : Room) (va_Pc [.ref a0, .ref a1] (zW D sz [(a0, .inr (4, [.ref a0_signs, .int v0_size])), (a0_signs, .inl (D.2 1, 12, .inl g0_signs)), (a1, .inr (7, [.ref a1_bytes, .int v1_size])), (a1_bytes, .inl (D.2 0, 400, .inl g1_bytes))])) (va_Qv (fun (_ : Unit) => True) (fun _ => zB D (va_A [(a0, .inr (4, [.ref a0_signs, .int v0_size])), (a0_signs, .inl (D.2 1, 12, .inl g0_signs)), (a1, .inr (7, [.ref a1_bytes, .int v1_size])), (a1_bytes, .inl (D.2 0, 400, .inl g1_bytes))] sz) [(a0, .inr (4, [.ref a0_signs, .int res.1])), (a0_signs, .inl (D.2 1, 12, .inl res.2)), (a1, .inr (7, [.ref a1_bytes, .int v1_size])), (a1_bytes, .inl (D.2 0, 400, .inl g1_bytes))]) (va_A [(a0, .inr (4, [.ref a0_signs, .int v0_size])), (a0_signs, .inl (D.2 1, 12, .inl g0_signs)), (a1, .inr (7, [.ref a1_bytes, .int v1_size])), (a1_bytes, .inl (D.2 0, 400, .inl g1_bytes))] sz)) 0 0 (va_A [(a0, .inr (4, [.ref a0_signs, .int v0_size])), (a0_signs, .inl (D.2 1, 12, .inl g0_signs)), (a1, .inr (7, [.ref a1_bytes, .int v1_size])), (a1_bytes, .inl (D.2 0, 400, .inl g1_bytes))] sz) := by
  refine Met.ofW (cc := cX5_take) (maxL := 3) (ret := none) (by decide) rfl ?_
  intro p e s m args below meth c s₁ B hml hv
  obtain ⟨rfl, hsz, hP, hK, hD0⟩ := hv
  have hx := B.exec
  have hb := B.bytes
  have hr := B.returns
  have hts := atoms_spec (ws := wsX5_take) B.pre
  have hown : s.vm.findClass RX5 = some m.cls := findClass_of_methodNamed B.named
  have hlocks := B.notSynchronized
  subst hsz
  have hD := hD0.self (sz := s.heap.size)
  generalize hAe : va_A [(a0, .inr (4, [.ref a0_signs, .int v0_size])), (a0_signs, .inl (D.2 1, 12, .inl g0_signs)), (a1, .inr (7, [.ref a1_bytes, .int v1_size])), (a1_bytes, .inl (D.2 0, 400, .inl g1_bytes))] s.heap.size = A at hD ⊢
  have hA : ∀ q : Nat, s.heap.size ≤ q → A q := fun q h => by rw [← hAe]; exact Or.inr h
  have l31 := zat hts 1 (w := .methodLink RX5 31 Lib.Math.min.name) rfl
  have hstmin := zat hts 2 (w := .static Lib.Math.min.name) rfl
  have hinM := zat hts 3 (w := .initialized "java/lang/Math") rfl
  have hcdmin := zat hts 4 (w := .code Lib.Math.min.name Lib.Math.min.code 2 (some .int)) rfl
  have l15 := zat hts 5 (w := .fieldLink RX5 15 "TurnedWords$Pattern" "size" "I") rfl
  have l9 := zat hts 6 (w := .fieldLink RX5 9 "TurnedWords$Pattern" "signs" "[I") rfl
  have hwX5 : ∀ w ∈ u_ws RX5 TX5 2, w ∈ wsX5_take := fun w h => List.mem_cons_of_mem _ (List.mem_append_left _ (List.mem_append_right _ h))
  have hl := lv_entry ([.ref a0, .ref a1]) (n := 3) (Nat.le_of_ble_eq_true rfl)
  rw [lg_entry_eq]
  generalize (lg_sl ([.ref a0, .ref a1]) ++ List.replicate (3 - (lg_sl ([.ref a0, .ref a1])).length) Slot.unset).toArray = ls at hl ⊢
  have hl : lv_has ls 3 [(0, .ref a0), (1, .ref a1)] := hl
  refine zStart (A := A) hP (fun Q0 H locs hQ hP hS => ?_)
  have k15 : ∀ K : Nat, ∀ (x2 : Int32) (v0_size : Int32) (g0_signs : Nat → Int32) (H : Heap) (locs : List Loc) (ls : Array Slot), fX5_take_15 N v1_size g1_bytes K x2 v0_size g0_signs = some res → va_P D.1 vwCl [(a0, .inr (4, [.ref a0_signs, .int v0_size])), (a0_signs, .inl (D.2 1, 12, .inl g0_signs)), (a1, .inr (7, [.ref a1_bytes, .int v1_size])), (a1_bytes, .inl (D.2 0, 400, .inl g1_bytes))] H → va_D A [(a0, .inr (4, [.ref a0_signs, .int v0_size])), (a0_signs, .inl (D.2 1, 12, .inl g0_signs)), (a1, .inr (7, [.ref a1_bytes, .int v1_size])), (a1_bytes, .inl (D.2 0, 400, .inl g1_bytes))] → va_S A s.heap H locs → lv_has ls 3 [(0, .ref a0), (1, .ref a1), (2, .int x2)] → W p l e (headSpec wsX5_take ({ frames := 1, cells := 0, slots := 0, locals := 21 } : Room)).room s m ([.ref a0, .ref a1] : List Value).toArray below meth c H locs 0 0 Q0 (F0 m 15 ls []) := by
    intro K
    induction K with
    | zero =>
      intro x2 v0_size g0_signs H locs ls hf
      rw [fX5_take_15] at hf
      cases hf
    | succ K ih =>
      intro x2 v0_size g0_signs H locs ls hf hP hD hS hl
      rw [fX5_take_15] at hf
      refine lv_iload_n hx hb dX5_take_15 rfl (lv_at hl 2 rfl) ?_
      refine lv_aload_n hx hb dX5_take_16 rfl (lv_at hl 0 rfl) ?_
      refine va_get (D := D.1) (ci := 4) (v := .int v0_size) (C := RX5) (T := TX5) (N := 2) hx hb hts hwX5 hown hK.1 hP 0 rfl rfl 1 (by decide) l15 (fun _ h9 => h9) rfl dX5_take_17 ?_
      refine lv_icmp_ge (tgt := 40) hx hb dX5_take_20 (by decide) (fun c_2 => ?_) (fun c_2 => ?_)
      · replace hf := ip c_2 hf
        have he := Option.some.inj hf
        rw [hQ]
        exact W.vret hx hb hr (fun t ht hW => by rw [← he]; exact ⟨⟨(), rfl, trivial, by rw [ht]; exact hP, hD⟩, hS.F ht⟩) hS.2.2 dX5_take_40
      · replace hf := im c_2 hf
        refine lv_aload_n hx hb dX5_take_23 rfl (lv_at hl 0 rfl) ?_
        refine va_get (D := D.1) (ci := 4) (v := .ref a0_signs) (C := RX5) (T := TX5) (N := 2) hx hb hts hwX5 hown hK.1 hP 0 rfl rfl 0 (by decide) l9 (fun _ h9 => h9) rfl dX5_take_24 ?_
        refine lv_iload_n hx hb dX5_take_27 rfl (lv_at hl 2 rfl) ?_
        refine lv_aload_n hx hb dX5_take_28 rfl (lv_at hl 1 rfl) ?_
        refine lv_iload_n hx hb dX5_take_29 rfl (lv_at hl 2 rfl) ?_
        obtain ⟨r3, hr3, hf⟩ := bd hf
        refine zVi (As := [.int x2]) (rest := [.int x2, .ref a0_signs]) (ci := 7) (q0 := 0) (wn := [(a0, .inr (4, [.ref a0_signs, .int v0_size])), (a0_signs, .inl (D.2 1, 12, .inl g0_signs)), (a1, .inr (7, [.ref a1_bytes, .int v1_size])), (a1_bytes, .inl (D.2 0, 400, .inl g1_bytes))]) ⟨hx, hb, hml, hown, hts⟩ (mX10_at l D a1 a1_bytes H.size v1_size g1_bytes x2 r3 hr3) (cwV 1 hts gX5_take_X10_at rfl rfl rfl (by decide +kernel) ⟨Nat.le_of_ble_eq_true rfl, Nat.le_of_ble_eq_true rfl⟩) hK hP hD hS hA [2, 3] [0, 1] [0, 1, 2, 3] rfl (by decide) rfl (by decide) (by decide) rfl (by decide) rfl rfl rfl hl.1 rfl (Nat.le_of_ble_eq_true rfl) dX5_take_30 ⟨Nat.zero_le _, Nat.zero_le _⟩ (fun H locs hP hD hS => ?_)
        obtain ⟨h_4, hf⟩ := gd hf
        refine va_iast hx hb hK.1 hP hD hS 1 1 rfl rfl h_4 dX5_take_33 (fun H locs hP hD hS => ?_)
        have hP : va_P D.1 vwCl [(a0, .inr (4, [.ref a0_signs, .int v0_size])), (a0_signs, .inl (D.2 1, 12, .inl (upd g0_signs (x2).toNatClampNeg r3))), (a1, .inr (7, [.ref a1_bytes, .int v1_size])), (a1_bytes, .inl (D.2 0, 400, .inl g1_bytes))] H := hP
        have hD : va_D A [(a0, .inr (4, [.ref a0_signs, .int v0_size])), (a0_signs, .inl (D.2 1, 12, .inl (upd g0_signs (x2).toNatClampNeg r3))), (a1, .inr (7, [.ref a1_bytes, .int v1_size])), (a1_bytes, .inl (D.2 0, 400, .inl g1_bytes))] := hD
        refine lv_iinc (v := (x2 + (1 : Int32))) (lv' := [(2, .int (x2 + (1 : Int32))), (0, .ref a0), (1, .ref a1)]) hx hb dX5_take_34 hl (k := 2) rfl rfl (by decide) rfl (fun ls hl => ?_)
        refine lv_goto (tgt := 15) hx hb dX5_take_37 (by decide) ?_
        exact ih (x2 + (1 : Int32)) v0_size (upd g0_signs (x2).toNatClampNeg r3) H locs ls hf hP hD hS (lv_sub hl [1, 2, 0] rfl)
  unfold fX5_take at hf
  refine lv_aload_n hx hb dX5_take_0 rfl (lv_at hl 0 rfl) ?_
  refine lv_aload_n hx hb dX5_take_1 rfl (lv_at hl 1 rfl) ?_
  obtain ⟨r1, hr1, hf⟩ := bd hf
  refine zVi (As := []) (rest := [.ref a0]) (ci := 7) (q0 := 0) (wn := [(a0, .inr (4, [.ref a0_signs, .int v0_size])), (a0_signs, .inl (D.2 1, 12, .inl g0_signs)), (a1, .inr (7, [.ref a1_bytes, .int v1_size])), (a1_bytes, .inl (D.2 0, 400, .inl g1_bytes))]) ⟨hx, hb, hml, hown, hts⟩ (mX10_size l D a1 a1_bytes H.size v1_size r1 hr1) (cwV 0 hts gX5_take_X10_size rfl rfl rfl (by decide +kernel) ⟨Nat.le_of_ble_eq_true rfl, Nat.le_of_ble_eq_true rfl⟩) hK hP hD hS hA [2] [0, 1, 3] [0, 1, 3, 2] rfl (by decide) rfl (by decide) (by decide) rfl (by decide) rfl rfl rfl hl.1 rfl (Nat.le_of_ble_eq_true rfl) dX5_take_2 ⟨Nat.zero_le _, Nat.zero_le _⟩ (fun H locs hP hD hS => ?_)
  refine lv_bipush (v := 12) hx hb dX5_take_5 (by decide) ?_
  refine va_mmin hx hb (hml.trans hl.1.symm) hown l31 hstmin hinM hcdmin (Nat.le_of_ble_eq_true rfl) (Nat.le_of_ble_eq_true rfl) (Nat.zero_le _) (Nat.zero_le _) dX5_take_7 ?_
  refine va_put (D := D.1) (ci := 4) (v := .int (if (12 : Int32) < r1 then (12 : Int32) else r1)) (ty := .int) (C := RX5) (T := TX5) (N := 2) hx hb hts hwX5 tyX5 tyX5_ok nmX5 hown hK.1 hP hD hS 0 rfl rfl 1 (by decide) l15 (fun _ h9 => h9) rfl (by decide +kernel) rfl rfl (Nat.le_of_ble_eq_true rfl) dX5_take_10 (fun H locs hP hD hS => ?_)
  have hP : va_P D.1 vwCl [(a0, .inr (4, [.ref a0_signs, .int (if (12 : Int32) < r1 then (12 : Int32) else r1)])), (a0_signs, .inl (D.2 1, 12, .inl g0_signs)), (a1, .inr (7, [.ref a1_bytes, .int v1_size])), (a1_bytes, .inl (D.2 0, 400, .inl g1_bytes))] H := hP
  have hD : va_D A [(a0, .inr (4, [.ref a0_signs, .int (if (12 : Int32) < r1 then (12 : Int32) else r1)])), (a0_signs, .inl (D.2 1, 12, .inl g0_signs)), (a1, .inr (7, [.ref a1_bytes, .int v1_size])), (a1_bytes, .inl (D.2 0, 400, .inl g1_bytes))] := hD
  refine lv_iconst (v := 0) hx hb dX5_take_13 (by decide) ?_
  refine lv_istore_n (lv' := [(2, .int (0 : Int32)), (0, .ref a0), (1, .ref a1)]) hx hb dX5_take_14 rfl hl (by decide) rfl (fun ls hl => ?_)
  exact k15 N (0 : Int32) (if (12 : Int32) < r1 then (12 : Int32) else r1) g0_signs H locs ls hf hP hD hS (lv_sub hl [1, 2, 0] rfl)
def fX5_copy (v0_size : Int32) (g0_signs : Nat → Int32) (v1_size : Int32) (g1_signs : Nat → Int32) : Option (Int32 × (Nat → Int32)) :=
  if (0 : Int32) < 0 ∨ (0 : Int32) < 0 ∨ v1_size < 0 ∨ 12 < ((0 : Int32)).toNatClampNeg + (v1_size).toNatClampNeg ∨ 12 < ((0 : Int32)).toNatClampNeg + (v1_size).toNatClampNeg then none else
  some (v1_size, (va_cpy g1_signs g0_signs ((0 : Int32)).toNatClampNeg ((0 : Int32)).toNatClampNeg (v1_size).toNatClampNeg))
set_option maxHeartbeats 4000000 in
set_option maxRecDepth 100000 in
theorem mX5_copy (l : Launch) (D : zG) (a0 : Nat) (a0_signs : Nat) (a1 : Nat) (a1_signs : Nat) (sz : Nat)  (v0_size : Int32) (g0_signs : Nat → Int32) (v1_size : Int32) (g1_signs : Nat → Int32)  (res : Int32 × (Nat → Int32)) (hf : fX5_copy v0_size g0_signs v1_size g1_signs = some res) : Met l yX5_copy wsX5_copy ({ frames := 1, cells := 0, slots := 0, locals := 40 } : Room) (va_Pc [.ref a0, .ref a1] (zW D sz [(a0, .inr (4, [.ref a0_signs, .int v0_size])), (a0_signs, .inl (D.2 1, 12, .inl g0_signs)), (a1, .inr (4, [.ref a1_signs, .int v1_size])), (a1_signs, .inl (D.2 1, 12, .inl g1_signs))])) (va_Qv (fun (_ : Unit) => True) (fun _ => zB D (va_A [(a0, .inr (4, [.ref a0_signs, .int v0_size])), (a0_signs, .inl (D.2 1, 12, .inl g0_signs)), (a1, .inr (4, [.ref a1_signs, .int v1_size])), (a1_signs, .inl (D.2 1, 12, .inl g1_signs))] sz) [(a0, .inr (4, [.ref a0_signs, .int res.1])), (a0_signs, .inl (D.2 1, 12, .inl res.2)), (a1, .inr (4, [.ref a1_signs, .int v1_size])), (a1_signs, .inl (D.2 1, 12, .inl g1_signs))]) (va_A [(a0, .inr (4, [.ref a0_signs, .int v0_size])), (a0_signs, .inl (D.2 1, 12, .inl g0_signs)), (a1, .inr (4, [.ref a1_signs, .int v1_size])), (a1_signs, .inl (D.2 1, 12, .inl g1_signs))] sz)) 0 0 (va_A [(a0, .inr (4, [.ref a0_signs, .int v0_size])), (a0_signs, .inl (D.2 1, 12, .inl g0_signs)), (a1, .inr (4, [.ref a1_signs, .int v1_size])), (a1_signs, .inl (D.2 1, 12, .inl g1_signs))] sz) := by
  refine Met.ofW (cc := cX5_copy) (maxL := 2) (ret := none) (by decide) rfl ?_
  intro p e s m args below meth c s₁ B hml hv
  obtain ⟨rfl, hsz, hP, hK, hD0⟩ := hv
  have hx := B.exec
  have hb := B.bytes
  have hr := B.returns
  have hts := atoms_spec (ws := wsX5_copy) B.pre
  have hown : s.vm.findClass RX5 = some m.cls := findClass_of_methodNamed B.named
  have hlocks := B.notSynchronized
  subst hsz
  have hD := hD0.self (sz := s.heap.size)
  generalize hAe : va_A [(a0, .inr (4, [.ref a0_signs, .int v0_size])), (a0_signs, .inl (D.2 1, 12, .inl g0_signs)), (a1, .inr (4, [.ref a1_signs, .int v1_size])), (a1_signs, .inl (D.2 1, 12, .inl g1_signs))] s.heap.size = A at hD ⊢
  have hA : ∀ q : Nat, s.heap.size ≤ q → A q := fun q h => by rw [← hAe]; exact Or.inr h
  have l15 := zat hts 1 (w := .fieldLink RX5 15 "TurnedWords$Pattern" "size" "I") rfl
  have l9 := zat hts 2 (w := .fieldLink RX5 9 "TurnedWords$Pattern" "signs" "[I") rfl
  have l41 := zat hts 3 (w := .methodLink RX5 41 arraycopyName) rfl
  have hnatA := zat hts 4 (w := .native arraycopyName) rfl
  have hstA := zat hts 5 (w := .static arraycopyName) rfl
  have hinS := zat hts 6 (w := .initialized "java/lang/System") rfl
  have hwX5 : ∀ w ∈ u_ws RX5 TX5 2, w ∈ wsX5_copy := fun w h => List.mem_cons_of_mem _ (List.mem_append_right _ h)
  have hl := lv_entry ([.ref a0, .ref a1]) (n := 2) (Nat.le_of_ble_eq_true rfl)
  rw [lg_entry_eq]
  generalize (lg_sl ([.ref a0, .ref a1]) ++ List.replicate (2 - (lg_sl ([.ref a0, .ref a1])).length) Slot.unset).toArray = ls at hl ⊢
  have hl : lv_has ls 2 [(0, .ref a0), (1, .ref a1)] := hl
  refine zStart (A := A) hP (fun Q0 H locs hQ hP hS => ?_)
  unfold fX5_copy at hf
  refine lv_aload_n hx hb dX5_copy_0 rfl (lv_at hl 0 rfl) ?_
  refine lv_aload_n hx hb dX5_copy_1 rfl (lv_at hl 1 rfl) ?_
  refine va_get (D := D.1) (ci := 4) (v := .int v1_size) (C := RX5) (T := TX5) (N := 2) hx hb hts hwX5 hown hK.1 hP 2 rfl rfl 1 (by decide) l15 (fun _ h9 => h9) rfl dX5_copy_2 ?_
  refine va_put (D := D.1) (ci := 4) (v := .int v1_size) (ty := .int) (C := RX5) (T := TX5) (N := 2) hx hb hts hwX5 tyX5 tyX5_ok nmX5 hown hK.1 hP hD hS 0 rfl rfl 1 (by decide) l15 (fun _ h9 => h9) rfl (by decide +kernel) rfl rfl (Nat.le_of_ble_eq_true rfl) dX5_copy_5 (fun H locs hP hD hS => ?_)
  have hP : va_P D.1 vwCl [(a0, .inr (4, [.ref a0_signs, .int v1_size])), (a0_signs, .inl (D.2 1, 12, .inl g0_signs)), (a1, .inr (4, [.ref a1_signs, .int v1_size])), (a1_signs, .inl (D.2 1, 12, .inl g1_signs))] H := hP
  have hD : va_D A [(a0, .inr (4, [.ref a0_signs, .int v1_size])), (a0_signs, .inl (D.2 1, 12, .inl g0_signs)), (a1, .inr (4, [.ref a1_signs, .int v1_size])), (a1_signs, .inl (D.2 1, 12, .inl g1_signs))] := hD
  refine lv_aload_n hx hb dX5_copy_8 rfl (lv_at hl 1 rfl) ?_
  refine va_get (D := D.1) (ci := 4) (v := .ref a1_signs) (C := RX5) (T := TX5) (N := 2) hx hb hts hwX5 hown hK.1 hP 2 rfl rfl 0 (by decide) l9 (fun _ h9 => h9) rfl dX5_copy_9 ?_
  refine lv_iconst (v := 0) hx hb dX5_copy_12 (by decide) ?_
  refine lv_aload_n hx hb dX5_copy_13 rfl (lv_at hl 0 rfl) ?_
  refine va_get (D := D.1) (ci := 4) (v := .ref a0_signs) (C := RX5) (T := TX5) (N := 2) hx hb hts hwX5 hown hK.1 hP 0 rfl rfl 0 (by decide) l9 (fun _ h9 => h9) rfl dX5_copy_14 ?_
  refine lv_iconst (v := 0) hx hb dX5_copy_17 (by decide) ?_
  refine lv_aload_n hx hb dX5_copy_18 rfl (lv_at hl 0 rfl) ?_
  refine va_get (D := D.1) (ci := 4) (v := .int v1_size) (C := RX5) (T := TX5) (N := 2) hx hb hts hwX5 hown hK.1 hP 0 rfl rfl 1 (by decide) l15 (fun _ h9 => h9) rfl dX5_copy_19 ?_
  obtain ⟨h_1, hf⟩ := gd hf
  obtain ⟨h_2, h_3, h_4, h_5, h_6⟩ := zor5 h_1
  refine va_copyi hx hb (hml.trans hl.1.symm) hown l41 hnatA hstA hinS hK.1 hP hD hS 3 1 1 1 (ty := .int) rfl rfl rfl rfl rfl h_2 h_3 h_4 (Nat.not_lt.mp h_5) (Nat.not_lt.mp h_6) (fun _ _ => rfl) (Nat.le_of_ble_eq_true rfl) (Nat.le_of_ble_eq_true rfl) dX5_copy_22 (fun H locs hP hD hS => ?_)
  have hP : va_P D.1 vwCl [(a0, .inr (4, [.ref a0_signs, .int v1_size])), (a0_signs, .inl (D.2 1, 12, .inl (va_cpy g1_signs g0_signs ((0 : Int32)).toNatClampNeg ((0 : Int32)).toNatClampNeg (v1_size).toNatClampNeg))), (a1, .inr (4, [.ref a1_signs, .int v1_size])), (a1_signs, .inl (D.2 1, 12, .inl g1_signs))] H := hP
  have hD : va_D A [(a0, .inr (4, [.ref a0_signs, .int v1_size])), (a0_signs, .inl (D.2 1, 12, .inl (va_cpy g1_signs g0_signs ((0 : Int32)).toNatClampNeg ((0 : Int32)).toNatClampNeg (v1_size).toNatClampNeg))), (a1, .inr (4, [.ref a1_signs, .int v1_size])), (a1_signs, .inl (D.2 1, 12, .inl g1_signs))] := hD
  have he := Option.some.inj hf
  rw [hQ]
  exact W.vret hx hb hr (fun t ht hW => by rw [← he]; exact ⟨⟨(), rfl, trivial, by rw [ht]; exact hP, hD⟩, hS.F ht⟩) hS.2.2 dX5_copy_25
def fX8_placesOf_11 (N : Nat) (p0 : Int64) (p2 : Int32) : Nat → Int32 → Int32 → Int32 → Option (Int32)
  | 0, _, _, _ => none
  | K + 1, x3, x4, x5 =>
    if (8 : Int32) ≤ x5 then
      some (x4)
    else
      Option.bind (fX8_codeAt p0 x5) fun r3 =>
      if r3 = x3 then
        (fX8_placesOf_11 N p0 p2 K) x3 (x4 ||| ((1 : Int32) <<< (x5 &&& 31))) (x5 + (1 : Int32))
      else
        (fX8_placesOf_11 N p0 p2 K) x3 x4 (x5 + (1 : Int32))
def fX8_placesOf (N : Nat) (p0 : Int64) (p2 : Int32) : Option (Int32) :=
  Option.bind (fX8_codeOf p2) fun r1 =>
  fX8_placesOf_11 N p0 p2 N r1 (0 : Int32) (0 : Int32)
set_option maxHeartbeats 4000000 in
set_option maxRecDepth 100000 in
theorem mX8_placesOf (l : Launch) (D : zG)  (sz : Nat)   (p0 : Int64) (p2 : Int32) (N : Nat) (res : Int32) (hf : fX8_placesOf N p0 p2 = some res) : Met l yX8_placesOf wsX8_placesOf ({ frames := 1, cells := 0, slots := 0, locals := 22 } : Room) (va_Pc [.long p0, .int p2] (zW D sz [])) (va_Qi (fun r (_ : Unit) => r = res) (fun _ => zB D (va_A [] sz) []) (va_A [] sz)) 0 0 (va_A [] sz) := by
  refine Met.ofW (cc := cX8_placesOf) (maxL := 6) (ret := (some .int)) (by decide) rfl ?_
  intro p e s m args below meth c s₁ B hml hv
  obtain ⟨rfl, hsz, hP, hK, hD0⟩ := hv
  have hx := B.exec
  have hb := B.bytes
  have hr := B.returns
  have hts := atoms_spec (ws := wsX8_placesOf) B.pre
  have hown : s.vm.findClass RX8 = some m.cls := findClass_of_methodNamed B.named
  have hlocks := B.notSynchronized
  subst hsz
  have hD := hD0.self (sz := s.heap.size)
  generalize hAe : va_A [] s.heap.size = A at hD ⊢
  have hA : ∀ q : Nat, s.heap.size ≤ q → A q := fun q h => by rw [← hAe]; exact Or.inr h
  have hl := lv_entry ([.long p0, .int p2]) (n := 6) (Nat.le_of_ble_eq_true rfl)
  rw [lg_entry_eq]
  generalize (lg_sl ([.long p0, .int p2]) ++ List.replicate (6 - (lg_sl ([.long p0, .int p2])).length) Slot.unset).toArray = ls at hl ⊢
  have hl : lv_has ls 6 [(0, .long p0), (2, .int p2)] := hl
  refine zStart (A := A) hP (fun Q0 H locs hQ hP hS => ?_)
  have k11 : ∀ K : Nat, ∀ (x3 : Int32) (x4 : Int32) (x5 : Int32) (H : Heap) (locs : List Loc) (ls : Array Slot), fX8_placesOf_11 N p0 p2 K x3 x4 x5 = some res → va_P D.1 vwCl [] H → va_D A [] → va_S A s.heap H locs → lv_has ls 6 [(0, .long p0), (3, .int x3), (4, .int x4), (5, .int x5)] → W p l e (headSpec wsX8_placesOf ({ frames := 1, cells := 0, slots := 0, locals := 22 } : Room)).room s m ([.long p0, .int p2] : List Value).toArray below meth c H locs 0 0 Q0 (F0 m 11 ls []) := by
    intro K
    induction K with
    | zero =>
      intro x3 x4 x5 H locs ls hf
      rw [fX8_placesOf_11] at hf
      cases hf
    | succ K ih =>
      intro x3 x4 x5 H locs ls hf hP hD hS hl
      rw [fX8_placesOf_11] at hf
      refine lv_iload hx hb dX8_placesOf_11 (lv_at hl 3 rfl) ?_
      refine lv_bipush (v := 8) hx hb dX8_placesOf_13 (by decide) ?_
      refine lv_icmp_ge (tgt := 43) hx hb dX8_placesOf_15 (by decide) (fun c_2 => ?_) (fun c_2 => ?_)
      · replace hf := ip c_2 hf
        refine lv_iload hx hb dX8_placesOf_43 (lv_at hl 2 rfl) ?_
        have he := Option.some.inj hf
        rw [hQ]
        exact W.iret (v := x4) hx hb hr (fun t ht hW => by rw [← he]; exact ⟨⟨x4, (), rfl, rfl, by rw [ht]; exact hP, hD⟩, hS.F ht⟩) hS.2.2 dX8_placesOf_45
      · replace hf := im c_2 hf
        refine lv_lload_n hx hb dX8_placesOf_18 rfl (lv_at hl 0 rfl) ?_
        refine lv_iload hx hb dX8_placesOf_19 (lv_at hl 3 rfl) ?_
        obtain ⟨r3, hr3, hf⟩ := bd hf
        refine zSi (As := [.long p0, .int x5]) (rest := []) (wn := []) ⟨hx, hb, hml, hown, hts⟩ (mX8_codeAt l D H.size p0 x5 r3 hr3) (va_cwS 2 hts gX8_placesOf_X8_codeAt rfl rfl rfl (by decide +kernel) ⟨Nat.le_of_ble_eq_true rfl, Nat.le_of_ble_eq_true rfl⟩) hK hP hD hS hA [] [] [] rfl (by decide) rfl (by decide) (by decide) rfl (by decide) rfl hl.1 rfl (Nat.le_of_ble_eq_true rfl) dX8_placesOf_21 ⟨Nat.zero_le _, Nat.zero_le _⟩ (fun H locs hP hD hS => ?_)
        refine lv_iload_n hx hb dX8_placesOf_24 rfl (lv_at hl 1 rfl) ?_
        refine lv_icmp_ne (tgt := 37) hx hb dX8_placesOf_25 (by decide) (fun c_4 => ?_) (fun c_4 => ?_)
        · replace hf := im c_4 hf
          refine lv_iinc (v := (x5 + (1 : Int32))) (lv' := [(5, .int (x5 + (1 : Int32))), (0, .long p0), (3, .int x3), (4, .int x4)]) hx hb dX8_placesOf_37 hl (k := 3) rfl rfl (by decide) rfl (fun ls hl => ?_)
          refine lv_goto (tgt := 11) hx hb dX8_placesOf_40 (by decide) ?_
          exact ih x3 x4 (x5 + (1 : Int32)) H locs ls hf hP hD hS (lv_sub hl [1, 2, 3, 0] rfl)
        · replace hf := ip c_4 hf
          refine lv_iload hx hb dX8_placesOf_28 (lv_at hl 2 rfl) ?_
          refine lv_iconst (v := 1) hx hb dX8_placesOf_30 (by decide) ?_
          refine lv_iload hx hb dX8_placesOf_31 (lv_at hl 3 rfl) ?_
          refine lv_ishl hx hb dX8_placesOf_33 ?_
          refine lv_ior hx hb dX8_placesOf_34 ?_
          refine lv_istore (lv' := [(4, .int (x4 ||| ((1 : Int32) <<< (x5 &&& 31)))), (0, .long p0), (3, .int x3), (5, .int x5)]) hx hb dX8_placesOf_35 hl (by decide) rfl (fun ls hl => ?_)
          refine lv_iinc (v := (x5 + (1 : Int32))) (lv' := [(5, .int (x5 + (1 : Int32))), (4, .int (x4 ||| ((1 : Int32) <<< (x5 &&& 31)))), (0, .long p0), (3, .int x3)]) hx hb dX8_placesOf_37 hl (k := 3) rfl rfl (by decide) rfl (fun ls hl => ?_)
          refine lv_goto (tgt := 11) hx hb dX8_placesOf_40 (by decide) ?_
          exact ih x3 (x4 ||| ((1 : Int32) <<< (x5 &&& 31))) (x5 + (1 : Int32)) H locs ls hf hP hD hS (lv_sub hl [2, 3, 1, 0] rfl)
  unfold fX8_placesOf at hf
  refine lv_iload_n hx hb dX8_placesOf_0 rfl (lv_at hl 1 rfl) ?_
  obtain ⟨r1, hr1, hf⟩ := bd hf
  refine zSi (As := [.int p2]) (rest := []) (wn := []) ⟨hx, hb, hml, hown, hts⟩ (mX8_codeOf l D H.size p2 r1 hr1) (va_cwS 1 hts gX8_placesOf_X8_codeOf rfl rfl rfl (by decide +kernel) ⟨Nat.le_of_ble_eq_true rfl, Nat.le_of_ble_eq_true rfl⟩) hK hP hD hS hA [] [] [] rfl (by decide) rfl (by decide) (by decide) rfl (by decide) rfl hl.1 rfl (Nat.le_of_ble_eq_true rfl) dX8_placesOf_1 ⟨Nat.zero_le _, Nat.zero_le _⟩ (fun H locs hP hD hS => ?_)
  refine lv_istore_n (lv' := [(3, .int r1), (0, .long p0), (2, .int p2)]) hx hb dX8_placesOf_4 rfl hl (by decide) rfl (fun ls hl => ?_)
  refine lv_iconst (v := 0) hx hb dX8_placesOf_5 (by decide) ?_
  refine lv_istore (lv' := [(4, .int (0 : Int32)), (3, .int r1), (0, .long p0), (2, .int p2)]) hx hb dX8_placesOf_6 hl (by decide) rfl (fun ls hl => ?_)
  refine lv_iconst (v := 0) hx hb dX8_placesOf_8 (by decide) ?_
  refine lv_istore (lv' := [(5, .int (0 : Int32)), (4, .int (0 : Int32)), (3, .int r1), (0, .long p0), (2, .int p2)]) hx hb dX8_placesOf_9 hl (by decide) rfl (fun ls hl => ?_)
  exact k11 N r1 (0 : Int32) (0 : Int32) H locs ls hf hP hD hS (lv_sub hl [3, 2, 1, 0] rfl)
def fX5_madeWith (N : Nat) (p0 : Int32) (p1 : Int32) (p2 : Int64) : Option (Int32) :=
  if p1 = (42 : Int32) then
    some ((p0 ||| (-p0)))
  else
    if p1 = (63 : Int32) then
      some ((p0 <<< ((1 : Int32) &&& 31)))
    else
      Option.bind (fX8_placesOf N p2 p1) fun r3 =>
      some (((p0 &&& r3) <<< ((1 : Int32) &&& 31)))
set_option maxHeartbeats 4000000 in
set_option maxRecDepth 100000 in
theorem mX5_madeWith (l : Launch) (D : zG)  (sz : Nat)   (p0 : Int32) (p1 : Int32) (p2 : Int64) (N : Nat) (res : Int32) (hf : fX5_madeWith N p0 p1 p2 = some res) : Met l yX5_madeWith wsX5_madeWith ({ frames := 2, cells := 0, slots := 0, locals := 47 } : Room) (va_Pc [.int p0, .int p1, .long p2] (zW D sz [])) (va_Qi (fun r (_ : Unit) => r = res) (fun _ => zB D (va_A [] sz) []) (va_A [] sz)) 0 0 (va_A [] sz) := by
  refine Met.ofW (cc := cX5_madeWith) (maxL := 4) (ret := (some .int)) (by decide) rfl ?_
  intro p e s m args below meth c s₁ B hml hv
  obtain ⟨rfl, hsz, hP, hK, hD0⟩ := hv
  have hx := B.exec
  have hb := B.bytes
  have hr := B.returns
  have hts := atoms_spec (ws := wsX5_madeWith) B.pre
  have hown : s.vm.findClass RX5 = some m.cls := findClass_of_methodNamed B.named
  have hlocks := B.notSynchronized
  subst hsz
  have hD := hD0.self (sz := s.heap.size)
  generalize hAe : va_A [] s.heap.size = A at hD ⊢
  have hA : ∀ q : Nat, s.heap.size ≤ q → A q := fun q h => by rw [← hAe]; exact Or.inr h
  have hl := lv_entry ([.int p0, .int p1, .long p2]) (n := 4) (Nat.le_of_ble_eq_true rfl)
  rw [lg_entry_eq]
  generalize (lg_sl ([.int p0, .int p1, .long p2]) ++ List.replicate (4 - (lg_sl ([.int p0, .int p1, .long p2])).length) Slot.unset).toArray = ls at hl ⊢
  have hl : lv_has ls 4 [(0, .int p0), (1, .int p1), (2, .long p2)] := hl
  refine zStart (A := A) hP (fun Q0 H locs hQ hP hS => ?_)
  unfold fX5_madeWith at hf
  refine lv_iload_n hx hb dX5_madeWith_0 rfl (lv_at hl 1 rfl) ?_
  refine lv_bipush (v := 42) hx hb dX5_madeWith_1 (by decide) ?_
  refine lv_icmp_ne (tgt := 11) hx hb dX5_madeWith_3 (by decide) (fun c_1 => ?_) (fun c_1 => ?_)
  · replace hf := im c_1 hf
    refine lv_iload_n hx hb dX5_madeWith_11 rfl (lv_at hl 1 rfl) ?_
    refine lv_bipush (v := 63) hx hb dX5_madeWith_12 (by decide) ?_
    refine lv_icmp_ne (tgt := 21) hx hb dX5_madeWith_14 (by decide) (fun c_2 => ?_) (fun c_2 => ?_)
    · replace hf := im c_2 hf
      refine lv_iload_n hx hb dX5_madeWith_21 rfl (lv_at hl 0 rfl) ?_
      refine lv_lload_n hx hb dX5_madeWith_22 rfl (lv_at hl 2 rfl) ?_
      refine lv_iload_n hx hb dX5_madeWith_23 rfl (lv_at hl 1 rfl) ?_
      obtain ⟨r3, hr3, hf⟩ := bd hf
      refine zSi (As := [.long p2, .int p1]) (rest := [.int p0]) (wn := []) ⟨hx, hb, hml, hown, hts⟩ (mX8_placesOf l D H.size p2 p1 N r3 hr3) (va_cwS 2 hts gX5_madeWith_X8_placesOf rfl rfl rfl (by decide +kernel) ⟨Nat.le_of_ble_eq_true rfl, Nat.le_of_ble_eq_true rfl⟩) hK hP hD hS hA [] [] [] rfl (by decide) rfl (by decide) (by decide) rfl (by decide) rfl hl.1 rfl (Nat.le_of_ble_eq_true rfl) dX5_madeWith_24 ⟨Nat.zero_le _, Nat.zero_le _⟩ (fun H locs hP hD hS => ?_)
      refine lv_iand hx hb dX5_madeWith_27 ?_
      refine lv_iconst (v := 1) hx hb dX5_madeWith_28 (by decide) ?_
      refine lv_ishl hx hb dX5_madeWith_29 ?_
      have he := Option.some.inj hf
      rw [hQ]
      exact W.iret (v := ((p0 &&& r3) <<< ((1 : Int32) &&& 31))) hx hb hr (fun t ht hW => by rw [← he]; exact ⟨⟨((p0 &&& r3) <<< ((1 : Int32) &&& 31)), (), rfl, rfl, by rw [ht]; exact hP, hD⟩, hS.F ht⟩) hS.2.2 dX5_madeWith_30
    · replace hf := ip c_2 hf
      refine lv_iload_n hx hb dX5_madeWith_17 rfl (lv_at hl 0 rfl) ?_
      refine lv_goto (tgt := 28) hx hb dX5_madeWith_18 (by decide) ?_
      refine lv_iconst (v := 1) hx hb dX5_madeWith_28 (by decide) ?_
      refine lv_ishl hx hb dX5_madeWith_29 ?_
      have he := Option.some.inj hf
      rw [hQ]
      exact W.iret (v := (p0 <<< ((1 : Int32) &&& 31))) hx hb hr (fun t ht hW => by rw [← he]; exact ⟨⟨(p0 <<< ((1 : Int32) &&& 31)), (), rfl, rfl, by rw [ht]; exact hP, hD⟩, hS.F ht⟩) hS.2.2 dX5_madeWith_30
  · replace hf := ip c_1 hf
    refine lv_iload_n hx hb dX5_madeWith_6 rfl (lv_at hl 0 rfl) ?_
    refine lv_iload_n hx hb dX5_madeWith_7 rfl (lv_at hl 0 rfl) ?_
    refine lv_ineg hx hb dX5_madeWith_8 ?_
    refine lv_ior hx hb dX5_madeWith_9 ?_
    have he := Option.some.inj hf
    rw [hQ]
    exact W.iret (v := (p0 ||| (-p0))) hx hb hr (fun t ht hW => by rw [← he]; exact ⟨⟨(p0 ||| (-p0)), (), rfl, rfl, by rw [ht]; exact hP, hD⟩, hS.F ht⟩) hS.2.2 dX5_madeWith_10
def fX5_isMetBy_54 (N : Nat) (v0_size : Int32) (g0_signs : Nat → Int32) (p1 : Int64) (x3 : Int32) (x4 : Int32) : Option (Int32) :=
  if (x4 &&& x3) = (0 : Int32) then
    some ((0 : Int32))
  else
    some ((1 : Int32))
def fX5_isMetBy_13 (N : Nat) (v0_size : Int32) (g0_signs : Nat → Int32) (p1 : Int64) : Nat → Int32 → Int32 → Int32 → Option (Int32)
  | 0, _, _, _ => none
  | K + 1, x3, x4, x5 =>
    if v0_size ≤ x5 then
      fX5_isMetBy_54 N v0_size g0_signs p1 x3 x4
    else
      if x4 = (0 : Int32) then
        fX5_isMetBy_54 N v0_size g0_signs p1 x3 x4
      else
        if x5 < 0 ∨ 12 ≤ (x5).toNatClampNeg then none else
        Option.bind (fX5_madeWith N x4 (g0_signs (x5).toNatClampNeg) p1) fun r5 =>
        (fX5_isMetBy_13 N v0_size g0_signs p1 K) x3 (r5 &&& (((2 : Int32) * x3) - (1 : Int32))) (x5 + (1 : Int32))
def fX5_isMetBy (N : Nat) (v0_size : Int32) (g0_signs : Nat → Int32) (p1 : Int64) : Option (Int32) :=
  Option.bind (fX8_length N p1) fun r1 =>
  fX5_isMetBy_13 N v0_size g0_signs p1 N ((1 : Int32) <<< (r1 &&& 31)) (1 : Int32) (0 : Int32)
set_option maxHeartbeats 4000000 in
set_option maxRecDepth 100000 in
theorem mX5_isMetBy (l : Launch) (D : zG) (a0 : Nat) (a0_signs : Nat) (sz : Nat)  (v0_size : Int32) (g0_signs : Nat → Int32) (p1 : Int64) (N : Nat) (res : Int32) (hf : fX5_isMetBy N v0_size g0_signs p1 = some res) : Met l yX5_isMetBy wsX5_isMetBy ({ frames := 3, cells := 0, slots := 0, locals := 70 } : Room) (va_Pc [.ref a0, .long p1] (zW D sz [(a0, .inr (4, [.ref a0_signs, .int v0_size])), (a0_signs, .inl (D.2 1, 12, .inl g0_signs))])) (va_Qi (fun r (_ : Unit) => r = res ∧ (r = 0 ∨ r = 1)) (fun _ => zB D (va_A [(a0, .inr (4, [.ref a0_signs, .int v0_size])), (a0_signs, .inl (D.2 1, 12, .inl g0_signs))] sz) [(a0, .inr (4, [.ref a0_signs, .int v0_size])), (a0_signs, .inl (D.2 1, 12, .inl g0_signs))]) (va_A [(a0, .inr (4, [.ref a0_signs, .int v0_size])), (a0_signs, .inl (D.2 1, 12, .inl g0_signs))] sz)) 0 0 (va_A [(a0, .inr (4, [.ref a0_signs, .int v0_size])), (a0_signs, .inl (D.2 1, 12, .inl g0_signs))] sz) := by
  refine Met.ofW (cc := cX5_isMetBy) (maxL := 6) (ret := (some .boolean)) (by decide) rfl ?_
  intro p e s m args below meth c s₁ B hml hv
  obtain ⟨rfl, hsz, hP, hK, hD0⟩ := hv
  have hx := B.exec
  have hb := B.bytes
  have hr := B.returns
  have hts := atoms_spec (ws := wsX5_isMetBy) B.pre
  have hown : s.vm.findClass RX5 = some m.cls := findClass_of_methodNamed B.named
  have hlocks := B.notSynchronized
  subst hsz
  have hD := hD0.self (sz := s.heap.size)
  generalize hAe : va_A [(a0, .inr (4, [.ref a0_signs, .int v0_size])), (a0_signs, .inl (D.2 1, 12, .inl g0_signs))] s.heap.size = A at hD ⊢
  have hA : ∀ q : Nat, s.heap.size ≤ q → A q := fun q h => by rw [← hAe]; exact Or.inr h
  have l15 := zat hts 1 (w := .fieldLink RX5 15 "TurnedWords$Pattern" "size" "I") rfl
  have l9 := zat hts 2 (w := .fieldLink RX5 9 "TurnedWords$Pattern" "signs" "[I") rfl
  have hwX5 : ∀ w ∈ u_ws RX5 TX5 2, w ∈ wsX5_isMetBy := fun w h => List.mem_cons_of_mem _ (List.mem_append_right _ h)
  have hl := lv_entry ([.ref a0, .long p1]) (n := 6) (Nat.le_of_ble_eq_true rfl)
  rw [lg_entry_eq]
  generalize (lg_sl ([.ref a0, .long p1]) ++ List.replicate (6 - (lg_sl ([.ref a0, .long p1])).length) Slot.unset).toArray = ls at hl ⊢
  have hl : lv_has ls 6 [(0, .ref a0), (1, .long p1)] := hl
  refine zStart (A := A) hP (fun Q0 H locs hQ hP hS => ?_)
  have k54 : ∀ (x3 : Int32) (x4 : Int32) (H : Heap) (locs : List Loc) (ls : Array Slot), fX5_isMetBy_54 N v0_size g0_signs p1 x3 x4 = some res → va_P D.1 vwCl [(a0, .inr (4, [.ref a0_signs, .int v0_size])), (a0_signs, .inl (D.2 1, 12, .inl g0_signs))] H → va_D A [(a0, .inr (4, [.ref a0_signs, .int v0_size])), (a0_signs, .inl (D.2 1, 12, .inl g0_signs))] → va_S A s.heap H locs → lv_has ls 6 [(3, .int x3), (4, .int x4)] → W p l e (headSpec wsX5_isMetBy ({ frames := 3, cells := 0, slots := 0, locals := 70 } : Room)).room s m ([.ref a0, .long p1] : List Value).toArray below meth c H locs 0 0 Q0 (F0 m 54 ls []) := by
    intro x3 x4 H locs ls hf hP hD hS hl
    unfold fX5_isMetBy_54 at hf
    refine lv_iload hx hb dX5_isMetBy_54 (lv_at hl 1 rfl) ?_
    refine lv_iload_n hx hb dX5_isMetBy_56 rfl (lv_at hl 0 rfl) ?_
    refine lv_iand hx hb dX5_isMetBy_57 ?_
    refine lv_if_eq (tgt := 65) hx hb dX5_isMetBy_58 (by decide) (fun c_6 => ?_) (fun c_6 => ?_)
    · replace hf := ip c_6 hf
      refine lv_iconst (v := 0) hx hb dX5_isMetBy_65 (by decide) ?_
      have he := Option.some.inj hf
      rw [hQ]
      exact W.zret (v := (0 : Int32)) hx hb hr (znb (Or.inl rfl)) (fun t ht hW => by rw [← he]; exact ⟨⟨(0 : Int32), (), rfl, ⟨rfl, Or.inl rfl⟩, by rw [ht]; exact hP, hD⟩, hS.F ht⟩) hS.2.2 dX5_isMetBy_66
    · replace hf := im c_6 hf
      refine lv_iconst (v := 1) hx hb dX5_isMetBy_61 (by decide) ?_
      refine lv_goto (tgt := 66) hx hb dX5_isMetBy_62 (by decide) ?_
      have he := Option.some.inj hf
      rw [hQ]
      exact W.zret (v := (1 : Int32)) hx hb hr (znb (Or.inr rfl)) (fun t ht hW => by rw [← he]; exact ⟨⟨(1 : Int32), (), rfl, ⟨rfl, Or.inr rfl⟩, by rw [ht]; exact hP, hD⟩, hS.F ht⟩) hS.2.2 dX5_isMetBy_66
  have k13 : ∀ K : Nat, ∀ (x3 : Int32) (x4 : Int32) (x5 : Int32) (H : Heap) (locs : List Loc) (ls : Array Slot), fX5_isMetBy_13 N v0_size g0_signs p1 K x3 x4 x5 = some res → va_P D.1 vwCl [(a0, .inr (4, [.ref a0_signs, .int v0_size])), (a0_signs, .inl (D.2 1, 12, .inl g0_signs))] H → va_D A [(a0, .inr (4, [.ref a0_signs, .int v0_size])), (a0_signs, .inl (D.2 1, 12, .inl g0_signs))] → va_S A s.heap H locs → lv_has ls 6 [(0, .ref a0), (1, .long p1), (3, .int x3), (4, .int x4), (5, .int x5)] → W p l e (headSpec wsX5_isMetBy ({ frames := 3, cells := 0, slots := 0, locals := 70 } : Room)).room s m ([.ref a0, .long p1] : List Value).toArray below meth c H locs 0 0 Q0 (F0 m 13 ls []) := by
    intro K
    induction K with
    | zero =>
      intro x3 x4 x5 H locs ls hf
      rw [fX5_isMetBy_13] at hf
      cases hf
    | succ K ih =>
      intro x3 x4 x5 H locs ls hf hP hD hS hl
      rw [fX5_isMetBy_13] at hf
      refine lv_iload hx hb dX5_isMetBy_13 (lv_at hl 4 rfl) ?_
      refine lv_aload_n hx hb dX5_isMetBy_15 rfl (lv_at hl 0 rfl) ?_
      refine va_get (D := D.1) (ci := 4) (v := .int v0_size) (C := RX5) (T := TX5) (N := 2) hx hb hts hwX5 hown hK.1 hP 0 rfl rfl 1 (by decide) l15 (fun _ h9 => h9) rfl dX5_isMetBy_16 ?_
      refine lv_icmp_ge (tgt := 54) hx hb dX5_isMetBy_19 (by decide) (fun c_2 => ?_) (fun c_2 => ?_)
      · replace hf := ip c_2 hf
        exact k54 x3 x4 H locs ls hf hP hD hS (lv_sub hl [2, 3] rfl)
      · replace hf := im c_2 hf
        refine lv_iload hx hb dX5_isMetBy_22 (lv_at hl 3 rfl) ?_
        refine lv_if_eq (tgt := 54) hx hb dX5_isMetBy_24 (by decide) (fun c_3 => ?_) (fun c_3 => ?_)
        · replace hf := ip c_3 hf
          exact k54 x3 x4 H locs ls hf hP hD hS (lv_sub hl [2, 3] rfl)
        · replace hf := im c_3 hf
          refine lv_iload hx hb dX5_isMetBy_27 (lv_at hl 3 rfl) ?_
          refine lv_aload_n hx hb dX5_isMetBy_29 rfl (lv_at hl 0 rfl) ?_
          refine va_get (D := D.1) (ci := 4) (v := .ref a0_signs) (C := RX5) (T := TX5) (N := 2) hx hb hts hwX5 hown hK.1 hP 0 rfl rfl 0 (by decide) l9 (fun _ h9 => h9) rfl dX5_isMetBy_30 ?_
          refine lv_iload hx hb dX5_isMetBy_33 (lv_at hl 4 rfl) ?_
          obtain ⟨h_4, hf⟩ := gd hf
          refine va_iald hx hb hK.1 hP 1 1 rfl rfl h_4 dX5_isMetBy_35 ?_
          refine lv_lload_n hx hb dX5_isMetBy_36 rfl (lv_at hl 1 rfl) ?_
          obtain ⟨r5, hr5, hf⟩ := bd hf
          refine zSi (As := [.int x4, .int (g0_signs (x5).toNatClampNeg), .long p1]) (rest := []) (wn := [(a0, .inr (4, [.ref a0_signs, .int v0_size])), (a0_signs, .inl (D.2 1, 12, .inl g0_signs))]) ⟨hx, hb, hml, hown, hts⟩ (mX5_madeWith l D H.size x4 (g0_signs (x5).toNatClampNeg) p1 N r5 hr5) (va_cwS 3 hts gX5_isMetBy_X5_madeWith rfl rfl rfl (by decide +kernel) ⟨Nat.le_of_ble_eq_true rfl, Nat.le_of_ble_eq_true rfl⟩) hK hP hD hS hA [] [0, 1] [0, 1] rfl (by decide) rfl (by decide) (by decide) rfl (by decide) rfl hl.1 rfl (Nat.le_of_ble_eq_true rfl) dX5_isMetBy_37 ⟨Nat.zero_le _, Nat.zero_le _⟩ (fun H locs hP hD hS => ?_)
          refine lv_iconst (v := 2) hx hb dX5_isMetBy_40 (by decide) ?_
          refine lv_iload_n hx hb dX5_isMetBy_41 rfl (lv_at hl 2 rfl) ?_
          refine lv_imul hx hb dX5_isMetBy_42 ?_
          refine lv_iconst (v := 1) hx hb dX5_isMetBy_43 (by decide) ?_
          refine lv_isub hx hb dX5_isMetBy_44 ?_
          refine lv_iand hx hb dX5_isMetBy_45 ?_
          refine lv_istore (lv' := [(4, .int (r5 &&& (((2 : Int32) * x3) - (1 : Int32)))), (0, .ref a0), (1, .long p1), (3, .int x3), (5, .int x5)]) hx hb dX5_isMetBy_46 hl (by decide) rfl (fun ls hl => ?_)
          refine lv_iinc (v := (x5 + (1 : Int32))) (lv' := [(5, .int (x5 + (1 : Int32))), (4, .int (r5 &&& (((2 : Int32) * x3) - (1 : Int32)))), (0, .ref a0), (1, .long p1), (3, .int x3)]) hx hb dX5_isMetBy_48 hl (k := 4) rfl rfl (by decide) rfl (fun ls hl => ?_)
          refine lv_goto (tgt := 13) hx hb dX5_isMetBy_51 (by decide) ?_
          exact ih x3 (r5 &&& (((2 : Int32) * x3) - (1 : Int32))) (x5 + (1 : Int32)) H locs ls hf hP hD hS (lv_sub hl [2, 3, 4, 1, 0] rfl)
  unfold fX5_isMetBy at hf
  refine lv_iconst (v := 1) hx hb dX5_isMetBy_0 (by decide) ?_
  refine lv_lload_n hx hb dX5_isMetBy_1 rfl (lv_at hl 1 rfl) ?_
  obtain ⟨r1, hr1, hf⟩ := bd hf
  refine zSi (As := [.long p1]) (rest := [.int (1 : Int32)]) (wn := [(a0, .inr (4, [.ref a0_signs, .int v0_size])), (a0_signs, .inl (D.2 1, 12, .inl g0_signs))]) ⟨hx, hb, hml, hown, hts⟩ (mX8_length l D H.size p1 N r1 hr1) (va_cwS 1 hts gX5_isMetBy_X8_length rfl rfl rfl (by decide +kernel) ⟨Nat.le_of_ble_eq_true rfl, Nat.le_of_ble_eq_true rfl⟩) hK hP hD hS hA [] [0, 1] [0, 1] rfl (by decide) rfl (by decide) (by decide) rfl (by decide) rfl hl.1 rfl (Nat.le_of_ble_eq_true rfl) dX5_isMetBy_2 ⟨Nat.zero_le _, Nat.zero_le _⟩ (fun H locs hP hD hS => ?_)
  refine lv_ishl hx hb dX5_isMetBy_5 ?_
  refine lv_istore_n (lv' := [(3, .int ((1 : Int32) <<< (r1 &&& 31))), (0, .ref a0), (1, .long p1)]) hx hb dX5_isMetBy_6 rfl hl (by decide) rfl (fun ls hl => ?_)
  refine lv_iconst (v := 1) hx hb dX5_isMetBy_7 (by decide) ?_
  refine lv_istore (lv' := [(4, .int (1 : Int32)), (3, .int ((1 : Int32) <<< (r1 &&& 31))), (0, .ref a0), (1, .long p1)]) hx hb dX5_isMetBy_8 hl (by decide) rfl (fun ls hl => ?_)
  refine lv_iconst (v := 0) hx hb dX5_isMetBy_10 (by decide) ?_
  refine lv_istore (lv' := [(5, .int (0 : Int32)), (4, .int (1 : Int32)), (3, .int ((1 : Int32) <<< (r1 &&& 31))), (0, .ref a0), (1, .long p1)]) hx hb dX5_isMetBy_11 hl (by decide) rfl (fun ls hl => ?_)
  exact k13 N ((1 : Int32) <<< (r1 &&& 31)) (1 : Int32) (0 : Int32) H locs ls hf hP hD hS (lv_sub hl [3, 4, 2, 1, 0] rfl)
def fX6_lettersFrom_2 (N : Nat) (v0_size : Int32) (g0_bytes : Nat → Int32) (p1 : Int32) : Nat → Int32 → Option (Int32)
  | 0, _ => none
  | K + 1, x2 =>
    Option.bind (fX10_size v0_size) fun r1 =>
    if r1 ≤ (p1 + x2) then
      some (x2)
    else
      Option.bind (fX10_at v0_size g0_bytes (p1 + x2)) fun r3 =>
      Option.bind (fX11_isLetter r3) fun r4 =>
      if r4 = (0 : Int32) then
        some (x2)
      else
        (fX6_lettersFrom_2 N v0_size g0_bytes p1 K) (x2 + (1 : Int32))
def fX6_lettersFrom (N : Nat) (v0_size : Int32) (g0_bytes : Nat → Int32) (p1 : Int32) : Option (Int32) :=
  fX6_lettersFrom_2 N v0_size g0_bytes p1 N (0 : Int32)
set_option maxHeartbeats 4000000 in
set_option maxRecDepth 100000 in
theorem mX6_lettersFrom (l : Launch) (D : zG) (a0 : Nat) (a0_bytes : Nat) (sz : Nat)  (v0_size : Int32) (g0_bytes : Nat → Int32) (p1 : Int32) (N : Nat) (res : Int32) (hf : fX6_lettersFrom N v0_size g0_bytes p1 = some res) : Met l yX6_lettersFrom wsX6_lettersFrom ({ frames := 1, cells := 0, slots := 0, locals := 21 } : Room) (va_Pc [.ref a0, .int p1] (zW D sz [(a0, .inr (7, [.ref a0_bytes, .int v0_size])), (a0_bytes, .inl (D.2 0, 400, .inl g0_bytes))])) (va_Qi (fun r (_ : Unit) => r = res) (fun _ => zB D (va_A [(a0, .inr (7, [.ref a0_bytes, .int v0_size])), (a0_bytes, .inl (D.2 0, 400, .inl g0_bytes))] sz) [(a0, .inr (7, [.ref a0_bytes, .int v0_size])), (a0_bytes, .inl (D.2 0, 400, .inl g0_bytes))]) (va_A [(a0, .inr (7, [.ref a0_bytes, .int v0_size])), (a0_bytes, .inl (D.2 0, 400, .inl g0_bytes))] sz)) 0 0 (va_A [(a0, .inr (7, [.ref a0_bytes, .int v0_size])), (a0_bytes, .inl (D.2 0, 400, .inl g0_bytes))] sz) := by
  refine Met.ofW (cc := cX6_lettersFrom) (maxL := 3) (ret := (some .int)) (by decide) rfl ?_
  intro p e s m args below meth c s₁ B hml hv
  obtain ⟨rfl, hsz, hP, hK, hD0⟩ := hv
  have hx := B.exec
  have hb := B.bytes
  have hr := B.returns
  have hts := atoms_spec (ws := wsX6_lettersFrom) B.pre
  have hown : s.vm.findClass RX6 = some m.cls := findClass_of_methodNamed B.named
  have hlocks := B.notSynchronized
  subst hsz
  have hD := hD0.self (sz := s.heap.size)
  generalize hAe : va_A [(a0, .inr (7, [.ref a0_bytes, .int v0_size])), (a0_bytes, .inl (D.2 0, 400, .inl g0_bytes))] s.heap.size = A at hD ⊢
  have hA : ∀ q : Nat, s.heap.size ≤ q → A q := fun q h => by rw [← hAe]; exact Or.inr h
  have hst_X11_isLetter := zat hts 12 (w := .static yX11_isLetter) rfl
  have hin_X11 := zat hts 13 (w := .initialized RX11) rfl
  have hl := lv_entry ([.ref a0, .int p1]) (n := 3) (Nat.le_of_ble_eq_true rfl)
  rw [lg_entry_eq]
  generalize (lg_sl ([.ref a0, .int p1]) ++ List.replicate (3 - (lg_sl ([.ref a0, .int p1])).length) Slot.unset).toArray = ls at hl ⊢
  have hl : lv_has ls 3 [(0, .ref a0), (1, .int p1)] := hl
  refine zStart (A := A) hP (fun Q0 H locs hQ hP hS => ?_)
  have k2 : ∀ K : Nat, ∀ (x2 : Int32) (H : Heap) (locs : List Loc) (ls : Array Slot), fX6_lettersFrom_2 N v0_size g0_bytes p1 K x2 = some res → va_P D.1 vwCl [(a0, .inr (7, [.ref a0_bytes, .int v0_size])), (a0_bytes, .inl (D.2 0, 400, .inl g0_bytes))] H → va_D A [(a0, .inr (7, [.ref a0_bytes, .int v0_size])), (a0_bytes, .inl (D.2 0, 400, .inl g0_bytes))] → va_S A s.heap H locs → lv_has ls 3 [(0, .ref a0), (1, .int p1), (2, .int x2)] → W p l e (headSpec wsX6_lettersFrom ({ frames := 1, cells := 0, slots := 0, locals := 21 } : Room)).room s m ([.ref a0, .int p1] : List Value).toArray below meth c H locs 0 0 Q0 (F0 m 2 ls []) := by
    intro K
    induction K with
    | zero =>
      intro x2 H locs ls hf
      rw [fX6_lettersFrom_2] at hf
      cases hf
    | succ K ih =>
      intro x2 H locs ls hf hP hD hS hl
      rw [fX6_lettersFrom_2] at hf
      refine lv_iload_n hx hb dX6_lettersFrom_2 rfl (lv_at hl 1 rfl) ?_
      refine lv_iload_n hx hb dX6_lettersFrom_3 rfl (lv_at hl 2 rfl) ?_
      refine lv_iadd hx hb dX6_lettersFrom_4 ?_
      refine lv_aload_n hx hb dX6_lettersFrom_5 rfl (lv_at hl 0 rfl) ?_
      obtain ⟨r1, hr1, hf⟩ := bd hf
      refine zVi (As := []) (rest := [.int (p1 + x2)]) (ci := 7) (q0 := 0) (wn := [(a0, .inr (7, [.ref a0_bytes, .int v0_size])), (a0_bytes, .inl (D.2 0, 400, .inl g0_bytes))]) ⟨hx, hb, hml, hown, hts⟩ (mX10_size l D a0 a0_bytes H.size v0_size r1 hr1) (cwV 0 hts gX6_lettersFrom_X10_size rfl rfl rfl (by decide +kernel) ⟨Nat.le_of_ble_eq_true rfl, Nat.le_of_ble_eq_true rfl⟩) hK hP hD hS hA [0] [1] [1, 0] rfl (by decide) rfl (by decide) (by decide) rfl (by decide) rfl rfl rfl hl.1 rfl (Nat.le_of_ble_eq_true rfl) dX6_lettersFrom_6 ⟨Nat.zero_le _, Nat.zero_le _⟩ (fun H locs hP hD hS => ?_)
      refine lv_icmp_ge (tgt := 31) hx hb dX6_lettersFrom_9 (by decide) (fun c_2 => ?_) (fun c_2 => ?_)
      · replace hf := ip c_2 hf
        refine lv_iload_n hx hb dX6_lettersFrom_31 rfl (lv_at hl 2 rfl) ?_
        have he := Option.some.inj hf
        rw [hQ]
        exact W.iret (v := x2) hx hb hr (fun t ht hW => by rw [← he]; exact ⟨⟨x2, (), rfl, rfl, by rw [ht]; exact hP, hD⟩, hS.F ht⟩) hS.2.2 dX6_lettersFrom_32
      · replace hf := im c_2 hf
        refine lv_aload_n hx hb dX6_lettersFrom_12 rfl (lv_at hl 0 rfl) ?_
        refine lv_iload_n hx hb dX6_lettersFrom_13 rfl (lv_at hl 1 rfl) ?_
        refine lv_iload_n hx hb dX6_lettersFrom_14 rfl (lv_at hl 2 rfl) ?_
        refine lv_iadd hx hb dX6_lettersFrom_15 ?_
        obtain ⟨r3, hr3, hf⟩ := bd hf
        refine zVi (As := [.int (p1 + x2)]) (rest := []) (ci := 7) (q0 := 0) (wn := [(a0, .inr (7, [.ref a0_bytes, .int v0_size])), (a0_bytes, .inl (D.2 0, 400, .inl g0_bytes))]) ⟨hx, hb, hml, hown, hts⟩ (mX10_at l D a0 a0_bytes H.size v0_size g0_bytes (p1 + x2) r3 hr3) (cwV 1 hts gX6_lettersFrom_X10_at rfl rfl rfl (by decide +kernel) ⟨Nat.le_of_ble_eq_true rfl, Nat.le_of_ble_eq_true rfl⟩) hK hP hD hS hA [0, 1] [] [0, 1] rfl (by decide) rfl (by decide) (by decide) rfl (by decide) rfl rfl rfl hl.1 rfl (Nat.le_of_ble_eq_true rfl) dX6_lettersFrom_16 ⟨Nat.zero_le _, Nat.zero_le _⟩ (fun H locs hP hD hS => ?_)
        obtain ⟨r4, hr4, hf⟩ := bd hf
        refine zNz (As := [.int r3]) (rest := []) (wn := [(a0, .inr (7, [.ref a0_bytes, .int v0_size])), (a0_bytes, .inl (D.2 0, 400, .inl g0_bytes))]) ⟨hx, hb, hml, hown, hts⟩ (mX11_isLetter l D H.size r3 r4 hr4) (⟨va_cnB 1 hts gX6_lettersFrom_X11_isLetter_n70 rfl rfl rfl hK.2.2.1 hin_X11 (by decide +kernel) ⟨Nat.le_of_ble_eq_true rfl, Nat.le_of_ble_eq_true rfl⟩, hst_X11_isLetter, trivial⟩) hK hP hD hS hA [] [0, 1] [0, 1] rfl (by decide) rfl (by decide) (by decide) rfl (by decide) rfl hl.1 rfl (Nat.le_of_ble_eq_true rfl) dX6_lettersFrom_19 ⟨Nat.zero_le _, Nat.zero_le _⟩ (fun H locs hb_5 hP hD hS => ?_)
        refine lv_if_eq (tgt := 31) hx hb dX6_lettersFrom_22 (by decide) (fun c_6 => ?_) (fun c_6 => ?_)
        · replace hf := ip c_6 hf
          refine lv_iload_n hx hb dX6_lettersFrom_31 rfl (lv_at hl 2 rfl) ?_
          have he := Option.some.inj hf
          rw [hQ]
          exact W.iret (v := x2) hx hb hr (fun t ht hW => by rw [← he]; exact ⟨⟨x2, (), rfl, rfl, by rw [ht]; exact hP, hD⟩, hS.F ht⟩) hS.2.2 dX6_lettersFrom_32
        · replace hf := im c_6 hf
          refine lv_iinc (v := (x2 + (1 : Int32))) (lv' := [(2, .int (x2 + (1 : Int32))), (0, .ref a0), (1, .int p1)]) hx hb dX6_lettersFrom_25 hl (k := 2) rfl rfl (by decide) rfl (fun ls hl => ?_)
          refine lv_goto (tgt := 2) hx hb dX6_lettersFrom_28 (by decide) ?_
          exact ih (x2 + (1 : Int32)) H locs ls hf hP hD hS (lv_sub hl [1, 2, 0] rfl)
  unfold fX6_lettersFrom at hf
  refine lv_iconst (v := 0) hx hb dX6_lettersFrom_0 (by decide) ?_
  refine lv_istore_n (lv' := [(2, .int (0 : Int32)), (0, .ref a0), (1, .int p1)]) hx hb dX6_lettersFrom_1 rfl hl (by decide) rfl (fun ls hl => ?_)
  exact k2 N (0 : Int32) H locs ls hf hP hD hS (lv_sub hl [1, 2, 0] rfl)
