def fX12_places (N : Nat) (g0_all : Nat → Int32) (p1 : Int32) (p2 : Int32) : Option (Int32) :=
  if (0 : Int32) < 0 ∨ 5228 ≤ ((0 : Int32)).toNatClampNeg then none else
  Option.bind (fX12_isIn p1 (0 : Int32) ((g0_all ((0 : Int32)).toNatClampNeg) - (1 : Int32))) fun r2 =>
  if r2 = (0 : Int32) then
    some ((-1 : Int32))
  else
    Option.bind (fX12_isLetter p2) fun r5 =>
    if r5 = (0 : Int32) then
      some ((-1 : Int32))
    else
      Option.bind (fX12_wordAt (0 : Int32) p1) fun r8 =>
      Option.bind (fX12_placesOf N g0_all r8 p2) fun r9 =>
      some (r9)
set_option maxHeartbeats 4000000 in
set_option maxRecDepth 100000 in
theorem mX12_places (l : Launch) (D : zG) (a0 : Nat) (a0_all : Nat) (a0_tape : Nat) (a0_isImage : Nat) (a0_turnWord : Nat) (a0_turnFrom : Nat) (a0_pieceSign : Nat) (a0_pieceFrom : Nat) (a0_runFrom : Nat) (a0_runLong : Nat) (a0_runPiece : Nat) (a0_alike : Nat) (a0_stood : Nat) (sz : Nat)  (v0_taped : Int32) (v0_faultKind : Int32) (v0_faultPlace : Int32) (v0_undos : Int32) (v0_turns : Int32) (v0_pieces : Int32) (v0_signs : Int32) (v0_runs : Int32) (g0_all : Nat → Int32) (p1 : Int32) (p2 : Int32) (N : Nat) (res : Int32) (hf : fX12_places N g0_all p1 p2 = some res) : Met l yX12_places wsX12_places ({ frames := 2, cells := 0, slots := 0, locals := 42 } : Room) (va_Pc [.ref a0, .int p1, .int p2] (zW D sz [(a0, .inr (9, [.ref a0_all, .ref a0_tape, .ref a0_isImage, .int v0_taped, .int v0_faultKind, .int v0_faultPlace, .int v0_undos, .ref a0_turnWord, .ref a0_turnFrom, .int v0_turns, .ref a0_pieceSign, .ref a0_pieceFrom, .int v0_pieces, .int v0_signs, .ref a0_runFrom, .ref a0_runLong, .ref a0_runPiece, .int v0_runs, .ref a0_alike, .ref a0_stood])), (a0_all, .inl (D.2 1, 5228, .inl g0_all))])) (va_Qi (fun r (_ : Unit) => r = res) (fun _ => zB D (va_A [(a0, .inr (9, [.ref a0_all, .ref a0_tape, .ref a0_isImage, .int v0_taped, .int v0_faultKind, .int v0_faultPlace, .int v0_undos, .ref a0_turnWord, .ref a0_turnFrom, .int v0_turns, .ref a0_pieceSign, .ref a0_pieceFrom, .int v0_pieces, .int v0_signs, .ref a0_runFrom, .ref a0_runLong, .ref a0_runPiece, .int v0_runs, .ref a0_alike, .ref a0_stood])), (a0_all, .inl (D.2 1, 5228, .inl g0_all))] sz) [(a0, .inr (9, [.ref a0_all, .ref a0_tape, .ref a0_isImage, .int v0_taped, .int v0_faultKind, .int v0_faultPlace, .int v0_undos, .ref a0_turnWord, .ref a0_turnFrom, .int v0_turns, .ref a0_pieceSign, .ref a0_pieceFrom, .int v0_pieces, .int v0_signs, .ref a0_runFrom, .ref a0_runLong, .ref a0_runPiece, .int v0_runs, .ref a0_alike, .ref a0_stood])), (a0_all, .inl (D.2 1, 5228, .inl g0_all))]) (va_A [(a0, .inr (9, [.ref a0_all, .ref a0_tape, .ref a0_isImage, .int v0_taped, .int v0_faultKind, .int v0_faultPlace, .int v0_undos, .ref a0_turnWord, .ref a0_turnFrom, .int v0_turns, .ref a0_pieceSign, .ref a0_pieceFrom, .int v0_pieces, .int v0_signs, .ref a0_runFrom, .ref a0_runLong, .ref a0_runPiece, .int v0_runs, .ref a0_alike, .ref a0_stood])), (a0_all, .inl (D.2 1, 5228, .inl g0_all))] sz)) 0 0 (va_A [(a0, .inr (9, [.ref a0_all, .ref a0_tape, .ref a0_isImage, .int v0_taped, .int v0_faultKind, .int v0_faultPlace, .int v0_undos, .ref a0_turnWord, .ref a0_turnFrom, .int v0_turns, .ref a0_pieceSign, .ref a0_pieceFrom, .int v0_pieces, .int v0_signs, .ref a0_runFrom, .ref a0_runLong, .ref a0_runPiece, .int v0_runs, .ref a0_alike, .ref a0_stood])), (a0_all, .inl (D.2 1, 5228, .inl g0_all))] sz) := by
  refine Met.ofW (cc := cX12_places) (maxL := 3) (ret := (some .int)) (by decide) rfl ?_
  intro p e s m args below meth c s₁ B hml hv
  obtain ⟨rfl, hsz, hP, hK, hD0⟩ := hv
  have hx := B.exec
  have hb := B.bytes
  have hr := B.returns
  have hts := atoms_spec (ws := wsX12_places) B.pre
  have hown : s.vm.findClass RX12 = some m.cls := findClass_of_methodNamed B.named
  have hlocks := B.notSynchronized
  subst hsz
  have hD := hD0.self (sz := s.heap.size)
  generalize hAe : va_A [(a0, .inr (9, [.ref a0_all, .ref a0_tape, .ref a0_isImage, .int v0_taped, .int v0_faultKind, .int v0_faultPlace, .int v0_undos, .ref a0_turnWord, .ref a0_turnFrom, .int v0_turns, .ref a0_pieceSign, .ref a0_pieceFrom, .int v0_pieces, .int v0_signs, .ref a0_runFrom, .ref a0_runLong, .ref a0_runPiece, .int v0_runs, .ref a0_alike, .ref a0_stood])), (a0_all, .inl (D.2 1, 5228, .inl g0_all))] s.heap.size = A at hD ⊢
  have hA : ∀ q : Nat, s.heap.size ≤ q → A q := fun q h => by rw [← hAe]; exact Or.inr h
  have l7 := zat hts 1 (w := .fieldLink RX12 7 "TurnedWordsModel" "all" "[I") rfl
  have hwX12 : ∀ w ∈ u_ws RX12 TX12 20, w ∈ wsX12_places := fun w h => List.mem_cons_of_mem _ (List.mem_append_right _ h)
  have hl := lv_entry ([.ref a0, .int p1, .int p2]) (n := 3) (Nat.le_of_ble_eq_true rfl)
  rw [lg_entry_eq]
  generalize (lg_sl ([.ref a0, .int p1, .int p2]) ++ List.replicate (3 - (lg_sl ([.ref a0, .int p1, .int p2])).length) Slot.unset).toArray = ls at hl ⊢
  have hl : lv_has ls 3 [(0, .ref a0), (1, .int p1), (2, .int p2)] := hl
  refine zStart (A := A) hP (fun Q0 H locs hQ hP hS => ?_)
  unfold fX12_places at hf
  refine lv_iload_n hx hb dX12_places_0 rfl (lv_at hl 1 rfl) ?_
  refine lv_iconst (v := 0) hx hb dX12_places_1 (by decide) ?_
  refine lv_aload_n hx hb dX12_places_2 rfl (lv_at hl 0 rfl) ?_
  refine va_get (D := D.1) (ci := 9) (v := .ref a0_all) (C := RX12) (T := TX12) (N := 20) hx hb hts hwX12 hown hK.1 hP 0 rfl rfl 0 (by decide) l7 (fun _ h9 => h9) rfl dX12_places_3 ?_
  refine lv_iconst (v := 0) hx hb dX12_places_6 (by decide) ?_
  obtain ⟨h_1, hf⟩ := gd hf
  refine va_iald hx hb hK.1 hP 1 1 rfl rfl h_1 dX12_places_7 ?_
  refine lv_iconst (v := 1) hx hb dX12_places_8 (by decide) ?_
  refine lv_isub hx hb dX12_places_9 ?_
  obtain ⟨r2, hr2, hf⟩ := bd hf
  refine zSz (As := [.int p1, .int (0 : Int32), .int ((g0_all ((0 : Int32)).toNatClampNeg) - (1 : Int32))]) (rest := []) (wn := [(a0, .inr (9, [.ref a0_all, .ref a0_tape, .ref a0_isImage, .int v0_taped, .int v0_faultKind, .int v0_faultPlace, .int v0_undos, .ref a0_turnWord, .ref a0_turnFrom, .int v0_turns, .ref a0_pieceSign, .ref a0_pieceFrom, .int v0_pieces, .int v0_signs, .ref a0_runFrom, .ref a0_runLong, .ref a0_runPiece, .int v0_runs, .ref a0_alike, .ref a0_stood])), (a0_all, .inl (D.2 1, 5228, .inl g0_all))]) ⟨hx, hb, hml, hown, hts⟩ (mX12_isIn l D H.size p1 (0 : Int32) ((g0_all ((0 : Int32)).toNatClampNeg) - (1 : Int32)) r2 hr2) (va_cwS 3 hts gX12_places_X12_isIn rfl rfl rfl (by decide +kernel) ⟨Nat.le_of_ble_eq_true rfl, Nat.le_of_ble_eq_true rfl⟩) hK hP hD hS hA [] [0, 1] [0, 1] rfl (by decide) rfl (by decide) (by decide) rfl (by decide) rfl hl.1 rfl (Nat.le_of_ble_eq_true rfl) dX12_places_10 ⟨Nat.zero_le _, Nat.zero_le _⟩ (fun H locs hb_3 hP hD hS => ?_)
  refine lv_if_eq (tgt := 36) hx hb dX12_places_13 (by decide) (fun c_4 => ?_) (fun c_4 => ?_)
  · replace hf := ip c_4 hf
    refine lv_iconst (v := -1) hx hb dX12_places_36 (by decide) ?_
    have he := Option.some.inj hf
    rw [hQ]
    exact W.iret (v := (-1 : Int32)) hx hb hr (fun t ht hW => by rw [← he]; exact ⟨⟨(-1 : Int32), (), rfl, rfl, by rw [ht]; exact hP, hD⟩, hS.F ht⟩) hS.2.2 dX12_places_37
  · replace hf := im c_4 hf
    refine lv_iload_n hx hb dX12_places_16 rfl (lv_at hl 2 rfl) ?_
    obtain ⟨r5, hr5, hf⟩ := bd hf
    refine zSz (As := [.int p2]) (rest := []) (wn := [(a0, .inr (9, [.ref a0_all, .ref a0_tape, .ref a0_isImage, .int v0_taped, .int v0_faultKind, .int v0_faultPlace, .int v0_undos, .ref a0_turnWord, .ref a0_turnFrom, .int v0_turns, .ref a0_pieceSign, .ref a0_pieceFrom, .int v0_pieces, .int v0_signs, .ref a0_runFrom, .ref a0_runLong, .ref a0_runPiece, .int v0_runs, .ref a0_alike, .ref a0_stood])), (a0_all, .inl (D.2 1, 5228, .inl g0_all))]) ⟨hx, hb, hml, hown, hts⟩ (mX12_isLetter l D H.size p2 r5 hr5) (va_cwS 1 hts gX12_places_X12_isLetter rfl rfl rfl (by decide +kernel) ⟨Nat.le_of_ble_eq_true rfl, Nat.le_of_ble_eq_true rfl⟩) hK hP hD hS hA [] [0, 1] [0, 1] rfl (by decide) rfl (by decide) (by decide) rfl (by decide) rfl hl.1 rfl (Nat.le_of_ble_eq_true rfl) dX12_places_17 ⟨Nat.zero_le _, Nat.zero_le _⟩ (fun H locs hb_6 hP hD hS => ?_)
    refine lv_if_eq (tgt := 36) hx hb dX12_places_20 (by decide) (fun c_7 => ?_) (fun c_7 => ?_)
    · replace hf := ip c_7 hf
      refine lv_iconst (v := -1) hx hb dX12_places_36 (by decide) ?_
      have he := Option.some.inj hf
      rw [hQ]
      exact W.iret (v := (-1 : Int32)) hx hb hr (fun t ht hW => by rw [← he]; exact ⟨⟨(-1 : Int32), (), rfl, rfl, by rw [ht]; exact hP, hD⟩, hS.F ht⟩) hS.2.2 dX12_places_37
    · replace hf := im c_7 hf
      refine lv_aload_n hx hb dX12_places_23 rfl (lv_at hl 0 rfl) ?_
      refine lv_iconst (v := 0) hx hb dX12_places_24 (by decide) ?_
      refine lv_iload_n hx hb dX12_places_25 rfl (lv_at hl 1 rfl) ?_
      obtain ⟨r8, hr8, hf⟩ := bd hf
      refine zSi (As := [.int (0 : Int32), .int p1]) (rest := [.ref a0]) (wn := [(a0, .inr (9, [.ref a0_all, .ref a0_tape, .ref a0_isImage, .int v0_taped, .int v0_faultKind, .int v0_faultPlace, .int v0_undos, .ref a0_turnWord, .ref a0_turnFrom, .int v0_turns, .ref a0_pieceSign, .ref a0_pieceFrom, .int v0_pieces, .int v0_signs, .ref a0_runFrom, .ref a0_runLong, .ref a0_runPiece, .int v0_runs, .ref a0_alike, .ref a0_stood])), (a0_all, .inl (D.2 1, 5228, .inl g0_all))]) ⟨hx, hb, hml, hown, hts⟩ (mX12_wordAt l D H.size (0 : Int32) p1 r8 hr8) (va_cwS 2 hts gX12_places_X12_wordAt rfl rfl rfl (by decide +kernel) ⟨Nat.le_of_ble_eq_true rfl, Nat.le_of_ble_eq_true rfl⟩) hK hP hD hS hA [] [0, 1] [0, 1] rfl (by decide) rfl (by decide) (by decide) rfl (by decide) rfl hl.1 rfl (Nat.le_of_ble_eq_true rfl) dX12_places_26 ⟨Nat.zero_le _, Nat.zero_le _⟩ (fun H locs hP hD hS => ?_)
      refine lv_iload_n hx hb dX12_places_29 rfl (lv_at hl 2 rfl) ?_
      obtain ⟨r9, hr9, hf⟩ := bd hf
      refine zVi (As := [.int r8, .int p2]) (rest := []) (ci := 9) (q0 := 0) (wn := [(a0, .inr (9, [.ref a0_all, .ref a0_tape, .ref a0_isImage, .int v0_taped, .int v0_faultKind, .int v0_faultPlace, .int v0_undos, .ref a0_turnWord, .ref a0_turnFrom, .int v0_turns, .ref a0_pieceSign, .ref a0_pieceFrom, .int v0_pieces, .int v0_signs, .ref a0_runFrom, .ref a0_runLong, .ref a0_runPiece, .int v0_runs, .ref a0_alike, .ref a0_stood])), (a0_all, .inl (D.2 1, 5228, .inl g0_all))]) ⟨hx, hb, hml, hown, hts⟩ (mX12_placesOf l D a0 a0_all a0_tape a0_isImage a0_turnWord a0_turnFrom a0_pieceSign a0_pieceFrom a0_runFrom a0_runLong a0_runPiece a0_alike a0_stood H.size v0_taped v0_faultKind v0_faultPlace v0_undos v0_turns v0_pieces v0_signs v0_runs g0_all r8 p2 N r9 hr9) (cwV 2 hts gX12_places_X12_placesOf rfl rfl rfl (by decide +kernel) ⟨Nat.le_of_ble_eq_true rfl, Nat.le_of_ble_eq_true rfl⟩) hK hP hD hS hA [0, 1] [] [0, 1] rfl (by decide) rfl (by decide) (by decide) rfl (by decide) rfl rfl rfl hl.1 rfl (Nat.le_of_ble_eq_true rfl) dX12_places_30 ⟨Nat.zero_le _, Nat.zero_le _⟩ (fun H locs hP hD hS => ?_)
      refine lv_goto (tgt := 37) hx hb dX12_places_33 (by decide) ?_
      have he := Option.some.inj hf
      rw [hQ]
      exact W.iret (v := r9) hx hb hr (fun t ht hW => by rw [← he]; exact ⟨⟨r9, (), rfl, rfl, by rw [ht]; exact hP, hD⟩, hS.F ht⟩) hS.2.2 dX12_places_37
def fX12_instead_39 (N : Nat) (p1 : Int32) (p2 : Int32) (g0_all : Nat → Int32) : Option (Int32 × (Nat → Int32)) :=
  if ((431 : Int32) + p1) < 0 ∨ 5228 ≤ (((431 : Int32) + p1)).toNatClampNeg then none else
  if ((431 : Int32) + p1) < 0 ∨ 5228 ≤ (((431 : Int32) + p1)).toNatClampNeg then none else
  Option.bind (fX12_answers N (upd g0_all (((431 : Int32) + p1)).toNatClampNeg p2) (0 : Int32) (430 : Int32)) fun r12 =>
  if ((431 : Int32) + p1) < 0 ∨ 5228 ≤ (((431 : Int32) + p1)).toNatClampNeg then none else
  some (r12, (upd (upd g0_all (((431 : Int32) + p1)).toNatClampNeg p2) (((431 : Int32) + p1)).toNatClampNeg (g0_all (((431 : Int32) + p1)).toNatClampNeg)))
def fX12_instead (N : Nat) (g0_all : Nat → Int32) (p1 : Int32) (p2 : Int32) : Option (Int32 × (Nat → Int32)) :=
  if (430 : Int32) < 0 ∨ 5228 ≤ ((430 : Int32)).toNatClampNeg then none else
  Option.bind (fX12_isIn p1 (0 : Int32) ((g0_all ((430 : Int32)).toNatClampNeg) - (1 : Int32))) fun r2 =>
  if r2 = (0 : Int32) then
    some ((-1 : Int32), g0_all)
  else
    Option.bind (fX12_isLetter p2) fun r5 =>
    if r5 = (0 : Int32) then
      if p2 = (63 : Int32) then
        fX12_instead_39 N p1 p2 g0_all
      else
        if p2 = (42 : Int32) then
          fX12_instead_39 N p1 p2 g0_all
        else
          some ((-1 : Int32), g0_all)
    else
      fX12_instead_39 N p1 p2 g0_all
set_option maxHeartbeats 4000000 in
set_option maxRecDepth 100000 in
theorem mX12_instead (l : Launch) (D : zG) (a0 : Nat) (a0_all : Nat) (a0_tape : Nat) (a0_isImage : Nat) (a0_turnWord : Nat) (a0_turnFrom : Nat) (a0_pieceSign : Nat) (a0_pieceFrom : Nat) (a0_runFrom : Nat) (a0_runLong : Nat) (a0_runPiece : Nat) (a0_alike : Nat) (a0_stood : Nat) (sz : Nat)  (v0_taped : Int32) (v0_faultKind : Int32) (v0_faultPlace : Int32) (v0_undos : Int32) (v0_turns : Int32) (v0_pieces : Int32) (v0_signs : Int32) (v0_runs : Int32) (g0_all : Nat → Int32) (p1 : Int32) (p2 : Int32) (N : Nat) (res : Int32 × (Nat → Int32)) (hf : fX12_instead N g0_all p1 p2 = some res) : Met l yX12_instead wsX12_instead ({ frames := 3, cells := 0, slots := 0, locals := 75 } : Room) (va_Pc [.ref a0, .int p1, .int p2] (zW D sz [(a0, .inr (9, [.ref a0_all, .ref a0_tape, .ref a0_isImage, .int v0_taped, .int v0_faultKind, .int v0_faultPlace, .int v0_undos, .ref a0_turnWord, .ref a0_turnFrom, .int v0_turns, .ref a0_pieceSign, .ref a0_pieceFrom, .int v0_pieces, .int v0_signs, .ref a0_runFrom, .ref a0_runLong, .ref a0_runPiece, .int v0_runs, .ref a0_alike, .ref a0_stood])), (a0_all, .inl (D.2 1, 5228, .inl g0_all))])) (va_Qi (fun r (_ : Unit) => r = res.1) (fun _ => zB D (va_A [(a0, .inr (9, [.ref a0_all, .ref a0_tape, .ref a0_isImage, .int v0_taped, .int v0_faultKind, .int v0_faultPlace, .int v0_undos, .ref a0_turnWord, .ref a0_turnFrom, .int v0_turns, .ref a0_pieceSign, .ref a0_pieceFrom, .int v0_pieces, .int v0_signs, .ref a0_runFrom, .ref a0_runLong, .ref a0_runPiece, .int v0_runs, .ref a0_alike, .ref a0_stood])), (a0_all, .inl (D.2 1, 5228, .inl g0_all))] sz) [(a0, .inr (9, [.ref a0_all, .ref a0_tape, .ref a0_isImage, .int v0_taped, .int v0_faultKind, .int v0_faultPlace, .int v0_undos, .ref a0_turnWord, .ref a0_turnFrom, .int v0_turns, .ref a0_pieceSign, .ref a0_pieceFrom, .int v0_pieces, .int v0_signs, .ref a0_runFrom, .ref a0_runLong, .ref a0_runPiece, .int v0_runs, .ref a0_alike, .ref a0_stood])), (a0_all, .inl (D.2 1, 5228, .inl res.2))]) (va_A [(a0, .inr (9, [.ref a0_all, .ref a0_tape, .ref a0_isImage, .int v0_taped, .int v0_faultKind, .int v0_faultPlace, .int v0_undos, .ref a0_turnWord, .ref a0_turnFrom, .int v0_turns, .ref a0_pieceSign, .ref a0_pieceFrom, .int v0_pieces, .int v0_signs, .ref a0_runFrom, .ref a0_runLong, .ref a0_runPiece, .int v0_runs, .ref a0_alike, .ref a0_stood])), (a0_all, .inl (D.2 1, 5228, .inl g0_all))] sz)) 0 0 (va_A [(a0, .inr (9, [.ref a0_all, .ref a0_tape, .ref a0_isImage, .int v0_taped, .int v0_faultKind, .int v0_faultPlace, .int v0_undos, .ref a0_turnWord, .ref a0_turnFrom, .int v0_turns, .ref a0_pieceSign, .ref a0_pieceFrom, .int v0_pieces, .int v0_signs, .ref a0_runFrom, .ref a0_runLong, .ref a0_runPiece, .int v0_runs, .ref a0_alike, .ref a0_stood])), (a0_all, .inl (D.2 1, 5228, .inl g0_all))] sz) := by
  refine Met.ofW (cc := cX12_instead) (maxL := 5) (ret := (some .int)) (by decide) rfl ?_
  intro p e s m args below meth c s₁ B hml hv
  obtain ⟨rfl, hsz, hP, hK, hD0⟩ := hv
  have hx := B.exec
  have hb := B.bytes
  have hr := B.returns
  have hts := atoms_spec (ws := wsX12_instead) B.pre
  have hown : s.vm.findClass RX12 = some m.cls := findClass_of_methodNamed B.named
  have hlocks := B.notSynchronized
  subst hsz
  have hD := hD0.self (sz := s.heap.size)
  generalize hAe : va_A [(a0, .inr (9, [.ref a0_all, .ref a0_tape, .ref a0_isImage, .int v0_taped, .int v0_faultKind, .int v0_faultPlace, .int v0_undos, .ref a0_turnWord, .ref a0_turnFrom, .int v0_turns, .ref a0_pieceSign, .ref a0_pieceFrom, .int v0_pieces, .int v0_signs, .ref a0_runFrom, .ref a0_runLong, .ref a0_runPiece, .int v0_runs, .ref a0_alike, .ref a0_stood])), (a0_all, .inl (D.2 1, 5228, .inl g0_all))] s.heap.size = A at hD ⊢
  have hA : ∀ q : Nat, s.heap.size ≤ q → A q := fun q h => by rw [← hAe]; exact Or.inr h
  have l7 := zat hts 1 (w := .fieldLink RX12 7 "TurnedWordsModel" "all" "[I") rfl
  have hwX12 : ∀ w ∈ u_ws RX12 TX12 20, w ∈ wsX12_instead := fun w h => List.mem_cons_of_mem _ (List.mem_append_right _ h)
  have hl := lv_entry ([.ref a0, .int p1, .int p2]) (n := 5) (Nat.le_of_ble_eq_true rfl)
  rw [lg_entry_eq]
  generalize (lg_sl ([.ref a0, .int p1, .int p2]) ++ List.replicate (5 - (lg_sl ([.ref a0, .int p1, .int p2])).length) Slot.unset).toArray = ls at hl ⊢
  have hl : lv_has ls 5 [(0, .ref a0), (1, .int p1), (2, .int p2)] := hl
  refine zStart (A := A) hP (fun Q0 H locs hQ hP hS => ?_)
  have k39 : ∀ (g0_all : Nat → Int32) (H : Heap) (locs : List Loc) (ls : Array Slot), fX12_instead_39 N p1 p2 g0_all = some res → va_P D.1 vwCl [(a0, .inr (9, [.ref a0_all, .ref a0_tape, .ref a0_isImage, .int v0_taped, .int v0_faultKind, .int v0_faultPlace, .int v0_undos, .ref a0_turnWord, .ref a0_turnFrom, .int v0_turns, .ref a0_pieceSign, .ref a0_pieceFrom, .int v0_pieces, .int v0_signs, .ref a0_runFrom, .ref a0_runLong, .ref a0_runPiece, .int v0_runs, .ref a0_alike, .ref a0_stood])), (a0_all, .inl (D.2 1, 5228, .inl g0_all))] H → va_D A [(a0, .inr (9, [.ref a0_all, .ref a0_tape, .ref a0_isImage, .int v0_taped, .int v0_faultKind, .int v0_faultPlace, .int v0_undos, .ref a0_turnWord, .ref a0_turnFrom, .int v0_turns, .ref a0_pieceSign, .ref a0_pieceFrom, .int v0_pieces, .int v0_signs, .ref a0_runFrom, .ref a0_runLong, .ref a0_runPiece, .int v0_runs, .ref a0_alike, .ref a0_stood])), (a0_all, .inl (D.2 1, 5228, .inl g0_all))] → va_S A s.heap H locs → lv_has ls 5 [(0, .ref a0), (1, .int p1), (2, .int p2)] → W p l e (headSpec wsX12_instead ({ frames := 3, cells := 0, slots := 0, locals := 75 } : Room)).room s m ([.ref a0, .int p1, .int p2] : List Value).toArray below meth c H locs 0 0 Q0 (F0 m 39 ls []) := by
    intro g0_all H locs ls hf hP hD hS hl
    unfold fX12_instead_39 at hf
    refine lv_aload_n hx hb dX12_instead_39 rfl (lv_at hl 0 rfl) ?_
    refine va_get (D := D.1) (ci := 9) (v := .ref a0_all) (C := RX12) (T := TX12) (N := 20) hx hb hts hwX12 hown hK.1 hP 0 rfl rfl 0 (by decide) l7 (fun _ h9 => h9) rfl dX12_instead_40 ?_
    refine lv_sipush (v := 431) hx hb dX12_instead_43 (by decide) ?_
    refine lv_iload_n hx hb dX12_instead_46 rfl (lv_at hl 1 rfl) ?_
    refine lv_iadd hx hb dX12_instead_47 ?_
    obtain ⟨h_10, hf⟩ := gd hf
    refine va_iald hx hb hK.1 hP 1 1 rfl rfl h_10 dX12_instead_48 ?_
    refine lv_istore_n (lv' := [(3, .int (g0_all (((431 : Int32) + p1)).toNatClampNeg)), (0, .ref a0), (1, .int p1), (2, .int p2)]) hx hb dX12_instead_49 rfl hl (by decide) rfl (fun ls hl => ?_)
    refine lv_aload_n hx hb dX12_instead_50 rfl (lv_at hl 1 rfl) ?_
    refine va_get (D := D.1) (ci := 9) (v := .ref a0_all) (C := RX12) (T := TX12) (N := 20) hx hb hts hwX12 hown hK.1 hP 0 rfl rfl 0 (by decide) l7 (fun _ h9 => h9) rfl dX12_instead_51 ?_
    refine lv_sipush (v := 431) hx hb dX12_instead_54 (by decide) ?_
    refine lv_iload_n hx hb dX12_instead_57 rfl (lv_at hl 2 rfl) ?_
    refine lv_iadd hx hb dX12_instead_58 ?_
    refine lv_iload_n hx hb dX12_instead_59 rfl (lv_at hl 3 rfl) ?_
    obtain ⟨h_11, hf⟩ := gd hf
    refine va_iast hx hb hK.1 hP hD hS 1 1 rfl rfl h_11 dX12_instead_60 (fun H locs hP hD hS => ?_)
    have hP : va_P D.1 vwCl [(a0, .inr (9, [.ref a0_all, .ref a0_tape, .ref a0_isImage, .int v0_taped, .int v0_faultKind, .int v0_faultPlace, .int v0_undos, .ref a0_turnWord, .ref a0_turnFrom, .int v0_turns, .ref a0_pieceSign, .ref a0_pieceFrom, .int v0_pieces, .int v0_signs, .ref a0_runFrom, .ref a0_runLong, .ref a0_runPiece, .int v0_runs, .ref a0_alike, .ref a0_stood])), (a0_all, .inl (D.2 1, 5228, .inl (upd g0_all (((431 : Int32) + p1)).toNatClampNeg p2)))] H := hP
    have hD : va_D A [(a0, .inr (9, [.ref a0_all, .ref a0_tape, .ref a0_isImage, .int v0_taped, .int v0_faultKind, .int v0_faultPlace, .int v0_undos, .ref a0_turnWord, .ref a0_turnFrom, .int v0_turns, .ref a0_pieceSign, .ref a0_pieceFrom, .int v0_pieces, .int v0_signs, .ref a0_runFrom, .ref a0_runLong, .ref a0_runPiece, .int v0_runs, .ref a0_alike, .ref a0_stood])), (a0_all, .inl (D.2 1, 5228, .inl (upd g0_all (((431 : Int32) + p1)).toNatClampNeg p2)))] := hD
    refine lv_aload_n hx hb dX12_instead_61 rfl (lv_at hl 1 rfl) ?_
    refine lv_iconst (v := 0) hx hb dX12_instead_62 (by decide) ?_
    refine lv_sipush (v := 430) hx hb dX12_instead_63 (by decide) ?_
    obtain ⟨r12, hr12, hf⟩ := bd hf
    refine zVi (As := [.int (0 : Int32), .int (430 : Int32)]) (rest := []) (ci := 9) (q0 := 0) (wn := [(a0, .inr (9, [.ref a0_all, .ref a0_tape, .ref a0_isImage, .int v0_taped, .int v0_faultKind, .int v0_faultPlace, .int v0_undos, .ref a0_turnWord, .ref a0_turnFrom, .int v0_turns, .ref a0_pieceSign, .ref a0_pieceFrom, .int v0_pieces, .int v0_signs, .ref a0_runFrom, .ref a0_runLong, .ref a0_runPiece, .int v0_runs, .ref a0_alike, .ref a0_stood])), (a0_all, .inl (D.2 1, 5228, .inl (upd g0_all (((431 : Int32) + p1)).toNatClampNeg p2)))]) ⟨hx, hb, hml, hown, hts⟩ (mX12_answers l D a0 a0_all a0_tape a0_isImage a0_turnWord a0_turnFrom a0_pieceSign a0_pieceFrom a0_runFrom a0_runLong a0_runPiece a0_alike a0_stood H.size v0_taped v0_faultKind v0_faultPlace v0_undos v0_turns v0_pieces v0_signs v0_runs (upd g0_all (((431 : Int32) + p1)).toNatClampNeg p2) (0 : Int32) (430 : Int32) N r12 hr12) (cwV 2 hts gX12_instead_X12_answers rfl rfl rfl (by decide +kernel) ⟨Nat.le_of_ble_eq_true rfl, Nat.le_of_ble_eq_true rfl⟩) hK hP hD hS hA [0, 1] [] [0, 1] rfl (by decide) rfl (by decide) (by decide) rfl (by decide) rfl rfl rfl hl.1 rfl (Nat.le_of_ble_eq_true rfl) dX12_instead_66 ⟨Nat.zero_le _, Nat.zero_le _⟩ (fun H locs hP hD hS => ?_)
    refine lv_istore (lv' := [(4, .int r12), (3, .int (g0_all (((431 : Int32) + p1)).toNatClampNeg)), (0, .ref a0), (1, .int p1), (2, .int p2)]) hx hb dX12_instead_69 hl (by decide) rfl (fun ls hl => ?_)
    refine lv_aload_n hx hb dX12_instead_71 rfl (lv_at hl 2 rfl) ?_
    refine va_get (D := D.1) (ci := 9) (v := .ref a0_all) (C := RX12) (T := TX12) (N := 20) hx hb hts hwX12 hown hK.1 hP 0 rfl rfl 0 (by decide) l7 (fun _ h9 => h9) rfl dX12_instead_72 ?_
    refine lv_sipush (v := 431) hx hb dX12_instead_75 (by decide) ?_
    refine lv_iload_n hx hb dX12_instead_78 rfl (lv_at hl 3 rfl) ?_
    refine lv_iadd hx hb dX12_instead_79 ?_
    refine lv_iload_n hx hb dX12_instead_80 rfl (lv_at hl 1 rfl) ?_
    obtain ⟨h_13, hf⟩ := gd hf
    refine va_iast hx hb hK.1 hP hD hS 1 1 rfl rfl h_13 dX12_instead_81 (fun H locs hP hD hS => ?_)
    have hP : va_P D.1 vwCl [(a0, .inr (9, [.ref a0_all, .ref a0_tape, .ref a0_isImage, .int v0_taped, .int v0_faultKind, .int v0_faultPlace, .int v0_undos, .ref a0_turnWord, .ref a0_turnFrom, .int v0_turns, .ref a0_pieceSign, .ref a0_pieceFrom, .int v0_pieces, .int v0_signs, .ref a0_runFrom, .ref a0_runLong, .ref a0_runPiece, .int v0_runs, .ref a0_alike, .ref a0_stood])), (a0_all, .inl (D.2 1, 5228, .inl (upd (upd g0_all (((431 : Int32) + p1)).toNatClampNeg p2) (((431 : Int32) + p1)).toNatClampNeg (g0_all (((431 : Int32) + p1)).toNatClampNeg))))] H := hP
    have hD : va_D A [(a0, .inr (9, [.ref a0_all, .ref a0_tape, .ref a0_isImage, .int v0_taped, .int v0_faultKind, .int v0_faultPlace, .int v0_undos, .ref a0_turnWord, .ref a0_turnFrom, .int v0_turns, .ref a0_pieceSign, .ref a0_pieceFrom, .int v0_pieces, .int v0_signs, .ref a0_runFrom, .ref a0_runLong, .ref a0_runPiece, .int v0_runs, .ref a0_alike, .ref a0_stood])), (a0_all, .inl (D.2 1, 5228, .inl (upd (upd g0_all (((431 : Int32) + p1)).toNatClampNeg p2) (((431 : Int32) + p1)).toNatClampNeg (g0_all (((431 : Int32) + p1)).toNatClampNeg))))] := hD
    refine lv_iload hx hb dX12_instead_82 (lv_at hl 0 rfl) ?_
    have he := Option.some.inj hf
    rw [hQ]
    exact W.iret (v := r12) hx hb hr (fun t ht hW => by rw [← he]; exact ⟨⟨r12, (), rfl, rfl, by rw [ht]; exact hP, hD⟩, hS.F ht⟩) hS.2.2 dX12_instead_84
  unfold fX12_instead at hf
  refine lv_iload_n hx hb dX12_instead_0 rfl (lv_at hl 1 rfl) ?_
  refine lv_iconst (v := 0) hx hb dX12_instead_1 (by decide) ?_
  refine lv_aload_n hx hb dX12_instead_2 rfl (lv_at hl 0 rfl) ?_
  refine va_get (D := D.1) (ci := 9) (v := .ref a0_all) (C := RX12) (T := TX12) (N := 20) hx hb hts hwX12 hown hK.1 hP 0 rfl rfl 0 (by decide) l7 (fun _ h9 => h9) rfl dX12_instead_3 ?_
  refine lv_sipush (v := 430) hx hb dX12_instead_6 (by decide) ?_
  obtain ⟨h_1, hf⟩ := gd hf
  refine va_iald hx hb hK.1 hP 1 1 rfl rfl h_1 dX12_instead_9 ?_
  refine lv_iconst (v := 1) hx hb dX12_instead_10 (by decide) ?_
  refine lv_isub hx hb dX12_instead_11 ?_
  obtain ⟨r2, hr2, hf⟩ := bd hf
  refine zSz (As := [.int p1, .int (0 : Int32), .int ((g0_all ((430 : Int32)).toNatClampNeg) - (1 : Int32))]) (rest := []) (wn := [(a0, .inr (9, [.ref a0_all, .ref a0_tape, .ref a0_isImage, .int v0_taped, .int v0_faultKind, .int v0_faultPlace, .int v0_undos, .ref a0_turnWord, .ref a0_turnFrom, .int v0_turns, .ref a0_pieceSign, .ref a0_pieceFrom, .int v0_pieces, .int v0_signs, .ref a0_runFrom, .ref a0_runLong, .ref a0_runPiece, .int v0_runs, .ref a0_alike, .ref a0_stood])), (a0_all, .inl (D.2 1, 5228, .inl g0_all))]) ⟨hx, hb, hml, hown, hts⟩ (mX12_isIn l D H.size p1 (0 : Int32) ((g0_all ((430 : Int32)).toNatClampNeg) - (1 : Int32)) r2 hr2) (va_cwS 3 hts gX12_instead_X12_isIn rfl rfl rfl (by decide +kernel) ⟨Nat.le_of_ble_eq_true rfl, Nat.le_of_ble_eq_true rfl⟩) hK hP hD hS hA [] [0, 1] [0, 1] rfl (by decide) rfl (by decide) (by decide) rfl (by decide) rfl hl.1 rfl (Nat.le_of_ble_eq_true rfl) dX12_instead_12 ⟨Nat.zero_le _, Nat.zero_le _⟩ (fun H locs hb_3 hP hD hS => ?_)
  refine lv_if_eq (tgt := 37) hx hb dX12_instead_15 (by decide) (fun c_4 => ?_) (fun c_4 => ?_)
  · replace hf := ip c_4 hf
    refine lv_iconst (v := -1) hx hb dX12_instead_37 (by decide) ?_
    have he := Option.some.inj hf
    rw [hQ]
    exact W.iret (v := (-1 : Int32)) hx hb hr (fun t ht hW => by rw [← he]; exact ⟨⟨(-1 : Int32), (), rfl, rfl, by rw [ht]; exact hP, hD⟩, hS.F ht⟩) hS.2.2 dX12_instead_38
  · replace hf := im c_4 hf
    refine lv_iload_n hx hb dX12_instead_18 rfl (lv_at hl 2 rfl) ?_
    obtain ⟨r5, hr5, hf⟩ := bd hf
    refine zSz (As := [.int p2]) (rest := []) (wn := [(a0, .inr (9, [.ref a0_all, .ref a0_tape, .ref a0_isImage, .int v0_taped, .int v0_faultKind, .int v0_faultPlace, .int v0_undos, .ref a0_turnWord, .ref a0_turnFrom, .int v0_turns, .ref a0_pieceSign, .ref a0_pieceFrom, .int v0_pieces, .int v0_signs, .ref a0_runFrom, .ref a0_runLong, .ref a0_runPiece, .int v0_runs, .ref a0_alike, .ref a0_stood])), (a0_all, .inl (D.2 1, 5228, .inl g0_all))]) ⟨hx, hb, hml, hown, hts⟩ (mX12_isLetter l D H.size p2 r5 hr5) (va_cwS 1 hts gX12_instead_X12_isLetter rfl rfl rfl (by decide +kernel) ⟨Nat.le_of_ble_eq_true rfl, Nat.le_of_ble_eq_true rfl⟩) hK hP hD hS hA [] [0, 1] [0, 1] rfl (by decide) rfl (by decide) (by decide) rfl (by decide) rfl hl.1 rfl (Nat.le_of_ble_eq_true rfl) dX12_instead_19 ⟨Nat.zero_le _, Nat.zero_le _⟩ (fun H locs hb_6 hP hD hS => ?_)
    refine lv_if_ne (tgt := 39) hx hb dX12_instead_22 (by decide) (fun c_7 => ?_) (fun c_7 => ?_)
    · replace hf := im c_7 hf
      exact k39 g0_all H locs ls hf hP hD hS hl
    · replace hf := ip c_7 hf
      refine lv_iload_n hx hb dX12_instead_25 rfl (lv_at hl 2 rfl) ?_
      refine lv_bipush (v := 63) hx hb dX12_instead_26 (by decide) ?_
      refine lv_icmp_eq (tgt := 39) hx hb dX12_instead_28 (by decide) (fun c_8 => ?_) (fun c_8 => ?_)
      · replace hf := ip c_8 hf
        exact k39 g0_all H locs ls hf hP hD hS hl
      · replace hf := im c_8 hf
        refine lv_iload_n hx hb dX12_instead_31 rfl (lv_at hl 2 rfl) ?_
        refine lv_bipush (v := 42) hx hb dX12_instead_32 (by decide) ?_
        refine lv_icmp_eq (tgt := 39) hx hb dX12_instead_34 (by decide) (fun c_9 => ?_) (fun c_9 => ?_)
        · replace hf := ip c_9 hf
          exact k39 g0_all H locs ls hf hP hD hS hl
        · replace hf := im c_9 hf
          refine lv_iconst (v := -1) hx hb dX12_instead_37 (by decide) ?_
          have he := Option.some.inj hf
          rw [hQ]
          exact W.iret (v := (-1 : Int32)) hx hb hr (fun t ht hW => by rw [← he]; exact ⟨⟨(-1 : Int32), (), rfl, rfl, by rw [ht]; exact hP, hD⟩, hS.F ht⟩) hS.2.2 dX12_instead_38
def fX12_feed_71 (N : Nat) (p1 : Int32) (p2 : Int32) (p3 : Int32) (p4 : Int32) (p5 : Int32) (rec18 : Int32 → Int32 → (Nat → Int32) → Option (Int32 × Int32 × (Nat → Int32))) (y0 : Int32) (x6 : Int32) (v0_taped : Int32) (g0_tape : Nat → Int32) : Option (Int32 × Int32 × (Nat → Int32)) :=
  if (v0_taped + x6) < 0 ∨ 400 ≤ ((v0_taped + x6)).toNatClampNeg then none else
  rec18 (x6 + (1 : Int32)) v0_taped (upd g0_tape ((v0_taped + x6)).toNatClampNeg ((y0 >>> (((24 : Int32) - ((8 : Int32) * (x6 &&& (3 : Int32)))) &&& 31)) &&& (255 : Int32)))
def fX12_feed_18 (N : Nat) (p1 : Int32) (p2 : Int32) (p3 : Int32) (p4 : Int32) (p5 : Int32) : Nat → Int32 → Int32 → (Nat → Int32) → Option (Int32 × Int32 × (Nat → Int32))
  | 0, _, _, _ => none
  | K + 1, x6, v0_taped, g0_tape =>
    if (20 : Int32) ≤ x6 then
      some ((v0_taped + (20 : Int32)), (v0_taped + (20 : Int32)), g0_tape)
    else
      if (4 : Int32) ≤ x6 then
        if (8 : Int32) ≤ x6 then
          if (12 : Int32) ≤ x6 then
            if (16 : Int32) ≤ x6 then
              fX12_feed_71 N p1 p2 p3 p4 p5 (fX12_feed_18 N p1 p2 p3 p4 p5 K) p5 x6 v0_taped g0_tape
            else
              fX12_feed_71 N p1 p2 p3 p4 p5 (fX12_feed_18 N p1 p2 p3 p4 p5 K) p4 x6 v0_taped g0_tape
          else
            fX12_feed_71 N p1 p2 p3 p4 p5 (fX12_feed_18 N p1 p2 p3 p4 p5 K) p3 x6 v0_taped g0_tape
        else
          fX12_feed_71 N p1 p2 p3 p4 p5 (fX12_feed_18 N p1 p2 p3 p4 p5 K) p2 x6 v0_taped g0_tape
      else
        fX12_feed_71 N p1 p2 p3 p4 p5 (fX12_feed_18 N p1 p2 p3 p4 p5 K) p1 x6 v0_taped g0_tape
def fX12_feed (N : Nat) (v0_taped : Int32) (g0_tape : Nat → Int32) (p1 : Int32) (p2 : Int32) (p3 : Int32) (p4 : Int32) (p5 : Int32) : Option (Int32 × Int32 × (Nat → Int32)) :=
  if (v0_taped + (20 : Int32)) ≤ (400 : Int32) then
    fX12_feed_18 N p1 p2 p3 p4 p5 N (0 : Int32) v0_taped g0_tape
  else
    some ((-1 : Int32), v0_taped, g0_tape)
set_option maxHeartbeats 4000000 in
set_option maxRecDepth 100000 in
theorem mX12_feed (l : Launch) (D : zG) (a0 : Nat) (a0_all : Nat) (a0_tape : Nat) (a0_isImage : Nat) (a0_turnWord : Nat) (a0_turnFrom : Nat) (a0_pieceSign : Nat) (a0_pieceFrom : Nat) (a0_runFrom : Nat) (a0_runLong : Nat) (a0_runPiece : Nat) (a0_alike : Nat) (a0_stood : Nat) (sz : Nat)  (v0_taped : Int32) (v0_faultKind : Int32) (v0_faultPlace : Int32) (v0_undos : Int32) (v0_turns : Int32) (v0_pieces : Int32) (v0_signs : Int32) (v0_runs : Int32) (g0_tape : Nat → Int32) (p1 : Int32) (p2 : Int32) (p3 : Int32) (p4 : Int32) (p5 : Int32) (N : Nat) (res : Int32 × Int32 × (Nat → Int32)) (hf : fX12_feed N v0_taped g0_tape p1 p2 p3 p4 p5 = some res) : Met l yX12_feed wsX12_feed ({ frames := 0, cells := 0, slots := 0, locals := 0 } : Room) (va_Pc [.ref a0, .int p1, .int p2, .int p3, .int p4, .int p5] (zW D sz [(a0, .inr (9, [.ref a0_all, .ref a0_tape, .ref a0_isImage, .int v0_taped, .int v0_faultKind, .int v0_faultPlace, .int v0_undos, .ref a0_turnWord, .ref a0_turnFrom, .int v0_turns, .ref a0_pieceSign, .ref a0_pieceFrom, .int v0_pieces, .int v0_signs, .ref a0_runFrom, .ref a0_runLong, .ref a0_runPiece, .int v0_runs, .ref a0_alike, .ref a0_stood])), (a0_tape, .inl (D.2 1, 400, .inl g0_tape))])) (va_Qi (fun r (_ : Unit) => r = res.1) (fun _ => zB D (va_A [(a0, .inr (9, [.ref a0_all, .ref a0_tape, .ref a0_isImage, .int v0_taped, .int v0_faultKind, .int v0_faultPlace, .int v0_undos, .ref a0_turnWord, .ref a0_turnFrom, .int v0_turns, .ref a0_pieceSign, .ref a0_pieceFrom, .int v0_pieces, .int v0_signs, .ref a0_runFrom, .ref a0_runLong, .ref a0_runPiece, .int v0_runs, .ref a0_alike, .ref a0_stood])), (a0_tape, .inl (D.2 1, 400, .inl g0_tape))] sz) [(a0, .inr (9, [.ref a0_all, .ref a0_tape, .ref a0_isImage, .int res.2.1, .int v0_faultKind, .int v0_faultPlace, .int v0_undos, .ref a0_turnWord, .ref a0_turnFrom, .int v0_turns, .ref a0_pieceSign, .ref a0_pieceFrom, .int v0_pieces, .int v0_signs, .ref a0_runFrom, .ref a0_runLong, .ref a0_runPiece, .int v0_runs, .ref a0_alike, .ref a0_stood])), (a0_tape, .inl (D.2 1, 400, .inl res.2.2))]) (va_A [(a0, .inr (9, [.ref a0_all, .ref a0_tape, .ref a0_isImage, .int v0_taped, .int v0_faultKind, .int v0_faultPlace, .int v0_undos, .ref a0_turnWord, .ref a0_turnFrom, .int v0_turns, .ref a0_pieceSign, .ref a0_pieceFrom, .int v0_pieces, .int v0_signs, .ref a0_runFrom, .ref a0_runLong, .ref a0_runPiece, .int v0_runs, .ref a0_alike, .ref a0_stood])), (a0_tape, .inl (D.2 1, 400, .inl g0_tape))] sz)) 0 0 (va_A [(a0, .inr (9, [.ref a0_all, .ref a0_tape, .ref a0_isImage, .int v0_taped, .int v0_faultKind, .int v0_faultPlace, .int v0_undos, .ref a0_turnWord, .ref a0_turnFrom, .int v0_turns, .ref a0_pieceSign, .ref a0_pieceFrom, .int v0_pieces, .int v0_signs, .ref a0_runFrom, .ref a0_runLong, .ref a0_runPiece, .int v0_runs, .ref a0_alike, .ref a0_stood])), (a0_tape, .inl (D.2 1, 400, .inl g0_tape))] sz) := by
  refine Met.ofW (cc := cX12_feed) (maxL := 8) (ret := (some .int)) (by decide) rfl ?_
  intro p e s m args below meth c s₁ B hml hv
  obtain ⟨rfl, hsz, hP, hK, hD0⟩ := hv
  have hx := B.exec
  have hb := B.bytes
  have hr := B.returns
  have hts := atoms_spec (ws := wsX12_feed) B.pre
  have hown : s.vm.findClass RX12 = some m.cls := findClass_of_methodNamed B.named
  have hlocks := B.notSynchronized
  subst hsz
  have hD := hD0.self (sz := s.heap.size)
  generalize hAe : va_A [(a0, .inr (9, [.ref a0_all, .ref a0_tape, .ref a0_isImage, .int v0_taped, .int v0_faultKind, .int v0_faultPlace, .int v0_undos, .ref a0_turnWord, .ref a0_turnFrom, .int v0_turns, .ref a0_pieceSign, .ref a0_pieceFrom, .int v0_pieces, .int v0_signs, .ref a0_runFrom, .ref a0_runLong, .ref a0_runPiece, .int v0_runs, .ref a0_alike, .ref a0_stood])), (a0_tape, .inl (D.2 1, 400, .inl g0_tape))] s.heap.size = A at hD ⊢
  have hA : ∀ q : Nat, s.heap.size ≤ q → A q := fun q h => by rw [← hAe]; exact Or.inr h
  have l180 := zat hts 1 (w := .fieldLink RX12 180 "TurnedWordsModel" "taped" "I") rfl
  have l13 := zat hts 2 (w := .fieldLink RX12 13 "TurnedWordsModel" "tape" "[I") rfl
  have hwX12 : ∀ w ∈ u_ws RX12 TX12 20, w ∈ wsX12_feed := fun w h => List.mem_cons_of_mem _ (List.mem_append_right _ h)
  have hl := lv_entry ([.ref a0, .int p1, .int p2, .int p3, .int p4, .int p5]) (n := 8) (Nat.le_of_ble_eq_true rfl)
  rw [lg_entry_eq]
  generalize (lg_sl ([.ref a0, .int p1, .int p2, .int p3, .int p4, .int p5]) ++ List.replicate (8 - (lg_sl ([.ref a0, .int p1, .int p2, .int p3, .int p4, .int p5])).length) Slot.unset).toArray = ls at hl ⊢
  have hl : lv_has ls 8 [(0, .ref a0), (1, .int p1), (2, .int p2), (3, .int p3), (4, .int p4), (5, .int p5)] := hl
  refine zStart (A := A) hP (fun Q0 H locs hQ hP hS => ?_)
  have k71 : ∀ (rec18 : Int32 → Int32 → (Nat → Int32) → Option (Int32 × Int32 × (Nat → Int32))), (∀ (x6 : Int32) (v0_taped : Int32) (g0_tape : Nat → Int32) (H : Heap) (locs : List Loc) (ls : Array Slot), rec18 x6 v0_taped g0_tape = some res → va_P D.1 vwCl [(a0, .inr (9, [.ref a0_all, .ref a0_tape, .ref a0_isImage, .int v0_taped, .int v0_faultKind, .int v0_faultPlace, .int v0_undos, .ref a0_turnWord, .ref a0_turnFrom, .int v0_turns, .ref a0_pieceSign, .ref a0_pieceFrom, .int v0_pieces, .int v0_signs, .ref a0_runFrom, .ref a0_runLong, .ref a0_runPiece, .int v0_runs, .ref a0_alike, .ref a0_stood])), (a0_tape, .inl (D.2 1, 400, .inl g0_tape))] H → va_D A [(a0, .inr (9, [.ref a0_all, .ref a0_tape, .ref a0_isImage, .int v0_taped, .int v0_faultKind, .int v0_faultPlace, .int v0_undos, .ref a0_turnWord, .ref a0_turnFrom, .int v0_turns, .ref a0_pieceSign, .ref a0_pieceFrom, .int v0_pieces, .int v0_signs, .ref a0_runFrom, .ref a0_runLong, .ref a0_runPiece, .int v0_runs, .ref a0_alike, .ref a0_stood])), (a0_tape, .inl (D.2 1, 400, .inl g0_tape))] → va_S A s.heap H locs → lv_has ls 8 [(0, .ref a0), (1, .int p1), (2, .int p2), (3, .int p3), (4, .int p4), (5, .int p5), (6, .int x6)] → W p l e (headSpec wsX12_feed ({ frames := 0, cells := 0, slots := 0, locals := 0 } : Room)).room s m ([.ref a0, .int p1, .int p2, .int p3, .int p4, .int p5] : List Value).toArray below meth c H locs 0 0 Q0 (F0 m 18 ls [])) → ∀ (y0 : Int32) (x6 : Int32) (v0_taped : Int32) (g0_tape : Nat → Int32) (H : Heap) (locs : List Loc) (ls : Array Slot), fX12_feed_71 N p1 p2 p3 p4 p5 rec18 y0 x6 v0_taped g0_tape = some res → va_P D.1 vwCl [(a0, .inr (9, [.ref a0_all, .ref a0_tape, .ref a0_isImage, .int v0_taped, .int v0_faultKind, .int v0_faultPlace, .int v0_undos, .ref a0_turnWord, .ref a0_turnFrom, .int v0_turns, .ref a0_pieceSign, .ref a0_pieceFrom, .int v0_pieces, .int v0_signs, .ref a0_runFrom, .ref a0_runLong, .ref a0_runPiece, .int v0_runs, .ref a0_alike, .ref a0_stood])), (a0_tape, .inl (D.2 1, 400, .inl g0_tape))] H → va_D A [(a0, .inr (9, [.ref a0_all, .ref a0_tape, .ref a0_isImage, .int v0_taped, .int v0_faultKind, .int v0_faultPlace, .int v0_undos, .ref a0_turnWord, .ref a0_turnFrom, .int v0_turns, .ref a0_pieceSign, .ref a0_pieceFrom, .int v0_pieces, .int v0_signs, .ref a0_runFrom, .ref a0_runLong, .ref a0_runPiece, .int v0_runs, .ref a0_alike, .ref a0_stood])), (a0_tape, .inl (D.2 1, 400, .inl g0_tape))] → va_S A s.heap H locs → lv_has ls 8 [(0, .ref a0), (1, .int p1), (2, .int p2), (3, .int p3), (4, .int p4), (5, .int p5), (6, .int x6)] → W p l e (headSpec wsX12_feed ({ frames := 0, cells := 0, slots := 0, locals := 0 } : Room)).room s m ([.ref a0, .int p1, .int p2, .int p3, .int p4, .int p5] : List Value).toArray below meth c H locs 0 0 Q0 (F0 m 71 ls [.int y0]) := by
    intro rec18 hrec18 y0 x6 v0_taped g0_tape H locs ls hf hP hD hS hl
    unfold fX12_feed_71 at hf
    refine lv_istore (lv' := [(7, .int y0), (0, .ref a0), (1, .int p1), (2, .int p2), (3, .int p3), (4, .int p4), (5, .int p5), (6, .int x6)]) hx hb dX12_feed_71 hl (by decide) rfl (fun ls hl => ?_)
    refine lv_aload_n hx hb dX12_feed_73 rfl (lv_at hl 1 rfl) ?_
    refine va_get (D := D.1) (ci := 9) (v := .ref a0_tape) (C := RX12) (T := TX12) (N := 20) hx hb hts hwX12 hown hK.1 hP 0 rfl rfl 1 (by decide) l13 (fun _ h9 => h9) rfl dX12_feed_74 ?_
    refine lv_aload_n hx hb dX12_feed_77 rfl (lv_at hl 1 rfl) ?_
    refine va_get (D := D.1) (ci := 9) (v := .int v0_taped) (C := RX12) (T := TX12) (N := 20) hx hb hts hwX12 hown hK.1 hP 0 rfl rfl 3 (by decide) l180 (fun _ h9 => h9) rfl dX12_feed_78 ?_
    refine lv_iload hx hb dX12_feed_81 (lv_at hl 7 rfl) ?_
    refine lv_iadd hx hb dX12_feed_83 ?_
    refine lv_iload hx hb dX12_feed_84 (lv_at hl 0 rfl) ?_
    refine lv_bipush (v := 24) hx hb dX12_feed_86 (by decide) ?_
    refine lv_bipush (v := 8) hx hb dX12_feed_88 (by decide) ?_
    refine lv_iload hx hb dX12_feed_90 (lv_at hl 7 rfl) ?_
    refine lv_iconst (v := 3) hx hb dX12_feed_92 (by decide) ?_
    refine lv_iand hx hb dX12_feed_93 ?_
    refine lv_imul hx hb dX12_feed_94 ?_
    refine lv_isub hx hb dX12_feed_95 ?_
    refine lv_ishr hx hb dX12_feed_96 ?_
    refine lv_sipush (v := 255) hx hb dX12_feed_97 (by decide) ?_
    refine lv_iand hx hb dX12_feed_100 ?_
    obtain ⟨h_7, hf⟩ := gd hf
    refine va_iast hx hb hK.1 hP hD hS 1 1 rfl rfl h_7 dX12_feed_101 (fun H locs hP hD hS => ?_)
    have hP : va_P D.1 vwCl [(a0, .inr (9, [.ref a0_all, .ref a0_tape, .ref a0_isImage, .int v0_taped, .int v0_faultKind, .int v0_faultPlace, .int v0_undos, .ref a0_turnWord, .ref a0_turnFrom, .int v0_turns, .ref a0_pieceSign, .ref a0_pieceFrom, .int v0_pieces, .int v0_signs, .ref a0_runFrom, .ref a0_runLong, .ref a0_runPiece, .int v0_runs, .ref a0_alike, .ref a0_stood])), (a0_tape, .inl (D.2 1, 400, .inl (upd g0_tape ((v0_taped + x6)).toNatClampNeg ((y0 >>> (((24 : Int32) - ((8 : Int32) * (x6 &&& (3 : Int32)))) &&& 31)) &&& (255 : Int32)))))] H := hP
    have hD : va_D A [(a0, .inr (9, [.ref a0_all, .ref a0_tape, .ref a0_isImage, .int v0_taped, .int v0_faultKind, .int v0_faultPlace, .int v0_undos, .ref a0_turnWord, .ref a0_turnFrom, .int v0_turns, .ref a0_pieceSign, .ref a0_pieceFrom, .int v0_pieces, .int v0_signs, .ref a0_runFrom, .ref a0_runLong, .ref a0_runPiece, .int v0_runs, .ref a0_alike, .ref a0_stood])), (a0_tape, .inl (D.2 1, 400, .inl (upd g0_tape ((v0_taped + x6)).toNatClampNeg ((y0 >>> (((24 : Int32) - ((8 : Int32) * (x6 &&& (3 : Int32)))) &&& 31)) &&& (255 : Int32)))))] := hD
    refine lv_iinc (v := (x6 + (1 : Int32))) (lv' := [(6, .int (x6 + (1 : Int32))), (7, .int y0), (0, .ref a0), (1, .int p1), (2, .int p2), (3, .int p3), (4, .int p4), (5, .int p5)]) hx hb dX12_feed_102 hl (k := 7) rfl rfl (by decide) rfl (fun ls hl => ?_)
    refine lv_goto (tgt := 18) hx hb dX12_feed_105 (by decide) ?_
    exact hrec18 (x6 + (1 : Int32)) v0_taped (upd g0_tape ((v0_taped + x6)).toNatClampNeg ((y0 >>> (((24 : Int32) - ((8 : Int32) * (x6 &&& (3 : Int32)))) &&& 31)) &&& (255 : Int32))) H locs ls hf hP hD hS (lv_sub hl [2, 3, 4, 5, 6, 7, 0] rfl)
  have k18 : ∀ K : Nat, ∀ (x6 : Int32) (v0_taped : Int32) (g0_tape : Nat → Int32) (H : Heap) (locs : List Loc) (ls : Array Slot), fX12_feed_18 N p1 p2 p3 p4 p5 K x6 v0_taped g0_tape = some res → va_P D.1 vwCl [(a0, .inr (9, [.ref a0_all, .ref a0_tape, .ref a0_isImage, .int v0_taped, .int v0_faultKind, .int v0_faultPlace, .int v0_undos, .ref a0_turnWord, .ref a0_turnFrom, .int v0_turns, .ref a0_pieceSign, .ref a0_pieceFrom, .int v0_pieces, .int v0_signs, .ref a0_runFrom, .ref a0_runLong, .ref a0_runPiece, .int v0_runs, .ref a0_alike, .ref a0_stood])), (a0_tape, .inl (D.2 1, 400, .inl g0_tape))] H → va_D A [(a0, .inr (9, [.ref a0_all, .ref a0_tape, .ref a0_isImage, .int v0_taped, .int v0_faultKind, .int v0_faultPlace, .int v0_undos, .ref a0_turnWord, .ref a0_turnFrom, .int v0_turns, .ref a0_pieceSign, .ref a0_pieceFrom, .int v0_pieces, .int v0_signs, .ref a0_runFrom, .ref a0_runLong, .ref a0_runPiece, .int v0_runs, .ref a0_alike, .ref a0_stood])), (a0_tape, .inl (D.2 1, 400, .inl g0_tape))] → va_S A s.heap H locs → lv_has ls 8 [(0, .ref a0), (1, .int p1), (2, .int p2), (3, .int p3), (4, .int p4), (5, .int p5), (6, .int x6)] → W p l e (headSpec wsX12_feed ({ frames := 0, cells := 0, slots := 0, locals := 0 } : Room)).room s m ([.ref a0, .int p1, .int p2, .int p3, .int p4, .int p5] : List Value).toArray below meth c H locs 0 0 Q0 (F0 m 18 ls []) := by
    intro K
    induction K with
    | zero =>
      intro x6 v0_taped g0_tape H locs ls hf
      rw [fX12_feed_18] at hf
      cases hf
    | succ K ih =>
      intro x6 v0_taped g0_tape H locs ls hf hP hD hS hl
      rw [fX12_feed_18] at hf
      refine lv_iload hx hb dX12_feed_18 (lv_at hl 6 rfl) ?_
      refine lv_bipush (v := 20) hx hb dX12_feed_20 (by decide) ?_
      refine lv_icmp_ge (tgt := 108) hx hb dX12_feed_22 (by decide) (fun c_2 => ?_) (fun c_2 => ?_)
      · replace hf := ip c_2 hf
        refine lv_aload_n hx hb dX12_feed_108 rfl (lv_at hl 0 rfl) ?_
        refine lv_dup hx hb dX12_feed_109 rfl ?_
        refine va_get (D := D.1) (ci := 9) (v := .int v0_taped) (C := RX12) (T := TX12) (N := 20) hx hb hts hwX12 hown hK.1 hP 0 rfl rfl 3 (by decide) l180 (fun _ h9 => h9) rfl dX12_feed_110 ?_
        refine lv_bipush (v := 20) hx hb dX12_feed_113 (by decide) ?_
        refine lv_iadd hx hb dX12_feed_115 ?_
        refine va_put (D := D.1) (ci := 9) (v := .int (v0_taped + (20 : Int32))) (ty := .int) (C := RX12) (T := TX12) (N := 20) hx hb hts hwX12 tyX12 tyX12_ok nmX12 hown hK.1 hP hD hS 0 rfl rfl 3 (by decide) l180 (fun _ h9 => h9) rfl (by decide +kernel) rfl rfl (Nat.le_of_ble_eq_true rfl) dX12_feed_116 (fun H locs hP hD hS => ?_)
        have hP : va_P D.1 vwCl [(a0, .inr (9, [.ref a0_all, .ref a0_tape, .ref a0_isImage, .int (v0_taped + (20 : Int32)), .int v0_faultKind, .int v0_faultPlace, .int v0_undos, .ref a0_turnWord, .ref a0_turnFrom, .int v0_turns, .ref a0_pieceSign, .ref a0_pieceFrom, .int v0_pieces, .int v0_signs, .ref a0_runFrom, .ref a0_runLong, .ref a0_runPiece, .int v0_runs, .ref a0_alike, .ref a0_stood])), (a0_tape, .inl (D.2 1, 400, .inl g0_tape))] H := hP
        have hD : va_D A [(a0, .inr (9, [.ref a0_all, .ref a0_tape, .ref a0_isImage, .int (v0_taped + (20 : Int32)), .int v0_faultKind, .int v0_faultPlace, .int v0_undos, .ref a0_turnWord, .ref a0_turnFrom, .int v0_turns, .ref a0_pieceSign, .ref a0_pieceFrom, .int v0_pieces, .int v0_signs, .ref a0_runFrom, .ref a0_runLong, .ref a0_runPiece, .int v0_runs, .ref a0_alike, .ref a0_stood])), (a0_tape, .inl (D.2 1, 400, .inl g0_tape))] := hD
        refine lv_aload_n hx hb dX12_feed_119 rfl (lv_at hl 0 rfl) ?_
        refine va_get (D := D.1) (ci := 9) (v := .int (v0_taped + (20 : Int32))) (C := RX12) (T := TX12) (N := 20) hx hb hts hwX12 hown hK.1 hP 0 rfl rfl 3 (by decide) l180 (fun _ h9 => h9) rfl dX12_feed_120 ?_
        have he := Option.some.inj hf
        rw [hQ]
        exact W.iret (v := (v0_taped + (20 : Int32))) hx hb hr (fun t ht hW => by rw [← he]; exact ⟨⟨(v0_taped + (20 : Int32)), (), rfl, rfl, by rw [ht]; exact hP, hD⟩, hS.F ht⟩) hS.2.2 dX12_feed_123
      · replace hf := im c_2 hf
        refine lv_iload hx hb dX12_feed_25 (lv_at hl 6 rfl) ?_
        refine lv_iconst (v := 4) hx hb dX12_feed_27 (by decide) ?_
        refine lv_icmp_ge (tgt := 35) hx hb dX12_feed_28 (by decide) (fun c_3 => ?_) (fun c_3 => ?_)
        · replace hf := ip c_3 hf
          refine lv_iload hx hb dX12_feed_35 (lv_at hl 6 rfl) ?_
          refine lv_bipush (v := 8) hx hb dX12_feed_37 (by decide) ?_
          refine lv_icmp_ge (tgt := 46) hx hb dX12_feed_39 (by decide) (fun c_4 => ?_) (fun c_4 => ?_)
          · replace hf := ip c_4 hf
            refine lv_iload hx hb dX12_feed_46 (lv_at hl 6 rfl) ?_
            refine lv_bipush (v := 12) hx hb dX12_feed_48 (by decide) ?_
            refine lv_icmp_ge (tgt := 57) hx hb dX12_feed_50 (by decide) (fun c_5 => ?_) (fun c_5 => ?_)
            · replace hf := ip c_5 hf
              refine lv_iload hx hb dX12_feed_57 (lv_at hl 6 rfl) ?_
              refine lv_bipush (v := 16) hx hb dX12_feed_59 (by decide) ?_
              refine lv_icmp_ge (tgt := 69) hx hb dX12_feed_61 (by decide) (fun c_6 => ?_) (fun c_6 => ?_)
              · replace hf := ip c_6 hf
                refine lv_iload hx hb dX12_feed_69 (lv_at hl 5 rfl) ?_
                exact k71 _ ih p5 x6 v0_taped g0_tape H locs ls hf hP hD hS hl
              · replace hf := im c_6 hf
                refine lv_iload hx hb dX12_feed_64 (lv_at hl 4 rfl) ?_
                refine lv_goto (tgt := 71) hx hb dX12_feed_66 (by decide) ?_
                exact k71 _ ih p4 x6 v0_taped g0_tape H locs ls hf hP hD hS hl
            · replace hf := im c_5 hf
              refine lv_iload_n hx hb dX12_feed_53 rfl (lv_at hl 3 rfl) ?_
              refine lv_goto (tgt := 71) hx hb dX12_feed_54 (by decide) ?_
              exact k71 _ ih p3 x6 v0_taped g0_tape H locs ls hf hP hD hS hl
          · replace hf := im c_4 hf
            refine lv_iload_n hx hb dX12_feed_42 rfl (lv_at hl 2 rfl) ?_
            refine lv_goto (tgt := 71) hx hb dX12_feed_43 (by decide) ?_
            exact k71 _ ih p2 x6 v0_taped g0_tape H locs ls hf hP hD hS hl
        · replace hf := im c_3 hf
          refine lv_iload_n hx hb dX12_feed_31 rfl (lv_at hl 1 rfl) ?_
          refine lv_goto (tgt := 71) hx hb dX12_feed_32 (by decide) ?_
          exact k71 _ ih p1 x6 v0_taped g0_tape H locs ls hf hP hD hS hl
  unfold fX12_feed at hf
  refine lv_aload_n hx hb dX12_feed_0 rfl (lv_at hl 0 rfl) ?_
  refine va_get (D := D.1) (ci := 9) (v := .int v0_taped) (C := RX12) (T := TX12) (N := 20) hx hb hts hwX12 hown hK.1 hP 0 rfl rfl 3 (by decide) l180 (fun _ h9 => h9) rfl dX12_feed_1 ?_
  refine lv_bipush (v := 20) hx hb dX12_feed_4 (by decide) ?_
  refine lv_iadd hx hb dX12_feed_6 ?_
  refine lv_sipush (v := 400) hx hb dX12_feed_7 (by decide) ?_
  refine lv_icmp_le (tgt := 15) hx hb dX12_feed_10 (by decide) (fun c_1 => ?_) (fun c_1 => ?_)
  · replace hf := ip c_1 hf
    refine lv_iconst (v := 0) hx hb dX12_feed_15 (by decide) ?_
    refine lv_istore (lv' := [(6, .int (0 : Int32)), (0, .ref a0), (1, .int p1), (2, .int p2), (3, .int p3), (4, .int p4), (5, .int p5)]) hx hb dX12_feed_16 hl (by decide) rfl (fun ls hl => ?_)
    exact k18 N (0 : Int32) v0_taped g0_tape H locs ls hf hP hD hS (lv_sub hl [1, 2, 3, 4, 5, 6, 0] rfl)
  · replace hf := im c_1 hf
    refine lv_iconst (v := -1) hx hb dX12_feed_13 (by decide) ?_
    have he := Option.some.inj hf
    rw [hQ]
    exact W.iret (v := (-1 : Int32)) hx hb hr (fun t ht hW => by rw [← he]; exact ⟨⟨(-1 : Int32), (), rfl, rfl, by rw [ht]; exact hP, hD⟩, hS.F ht⟩) hS.2.2 dX12_feed_14
def fX12_end (v0_taped : Int32) (p1 : Int32) : Option (Int32 × Int32) :=
  Option.bind (fX12_isIn p1 (0 : Int32) v0_taped) fun r1 =>
  if r1 = (0 : Int32) then
    some ((-1 : Int32), v0_taped)
  else
    some (p1, p1)
set_option maxHeartbeats 4000000 in
set_option maxRecDepth 100000 in
theorem mX12_end (l : Launch) (D : zG) (a0 : Nat) (a0_all : Nat) (a0_tape : Nat) (a0_isImage : Nat) (a0_turnWord : Nat) (a0_turnFrom : Nat) (a0_pieceSign : Nat) (a0_pieceFrom : Nat) (a0_runFrom : Nat) (a0_runLong : Nat) (a0_runPiece : Nat) (a0_alike : Nat) (a0_stood : Nat) (sz : Nat)  (v0_taped : Int32) (v0_faultKind : Int32) (v0_faultPlace : Int32) (v0_undos : Int32) (v0_turns : Int32) (v0_pieces : Int32) (v0_signs : Int32) (v0_runs : Int32) (p1 : Int32) (res : Int32 × Int32) (hf : fX12_end v0_taped p1 = some res) : Met l yX12_end wsX12_end ({ frames := 1, cells := 0, slots := 0, locals := 22 } : Room) (va_Pc [.ref a0, .int p1] (zW D sz [(a0, .inr (9, [.ref a0_all, .ref a0_tape, .ref a0_isImage, .int v0_taped, .int v0_faultKind, .int v0_faultPlace, .int v0_undos, .ref a0_turnWord, .ref a0_turnFrom, .int v0_turns, .ref a0_pieceSign, .ref a0_pieceFrom, .int v0_pieces, .int v0_signs, .ref a0_runFrom, .ref a0_runLong, .ref a0_runPiece, .int v0_runs, .ref a0_alike, .ref a0_stood]))])) (va_Qi (fun r (_ : Unit) => r = res.1) (fun _ => zB D (va_A [(a0, .inr (9, [.ref a0_all, .ref a0_tape, .ref a0_isImage, .int v0_taped, .int v0_faultKind, .int v0_faultPlace, .int v0_undos, .ref a0_turnWord, .ref a0_turnFrom, .int v0_turns, .ref a0_pieceSign, .ref a0_pieceFrom, .int v0_pieces, .int v0_signs, .ref a0_runFrom, .ref a0_runLong, .ref a0_runPiece, .int v0_runs, .ref a0_alike, .ref a0_stood]))] sz) [(a0, .inr (9, [.ref a0_all, .ref a0_tape, .ref a0_isImage, .int res.2, .int v0_faultKind, .int v0_faultPlace, .int v0_undos, .ref a0_turnWord, .ref a0_turnFrom, .int v0_turns, .ref a0_pieceSign, .ref a0_pieceFrom, .int v0_pieces, .int v0_signs, .ref a0_runFrom, .ref a0_runLong, .ref a0_runPiece, .int v0_runs, .ref a0_alike, .ref a0_stood]))]) (va_A [(a0, .inr (9, [.ref a0_all, .ref a0_tape, .ref a0_isImage, .int v0_taped, .int v0_faultKind, .int v0_faultPlace, .int v0_undos, .ref a0_turnWord, .ref a0_turnFrom, .int v0_turns, .ref a0_pieceSign, .ref a0_pieceFrom, .int v0_pieces, .int v0_signs, .ref a0_runFrom, .ref a0_runLong, .ref a0_runPiece, .int v0_runs, .ref a0_alike, .ref a0_stood]))] sz)) 0 0 (va_A [(a0, .inr (9, [.ref a0_all, .ref a0_tape, .ref a0_isImage, .int v0_taped, .int v0_faultKind, .int v0_faultPlace, .int v0_undos, .ref a0_turnWord, .ref a0_turnFrom, .int v0_turns, .ref a0_pieceSign, .ref a0_pieceFrom, .int v0_pieces, .int v0_signs, .ref a0_runFrom, .ref a0_runLong, .ref a0_runPiece, .int v0_runs, .ref a0_alike, .ref a0_stood]))] sz) := by
  refine Met.ofW (cc := cX12_end) (maxL := 2) (ret := (some .int)) (by decide) rfl ?_
  intro p e s m args below meth c s₁ B hml hv
  obtain ⟨rfl, hsz, hP, hK, hD0⟩ := hv
  have hx := B.exec
  have hb := B.bytes
  have hr := B.returns
  have hts := atoms_spec (ws := wsX12_end) B.pre
  have hown : s.vm.findClass RX12 = some m.cls := findClass_of_methodNamed B.named
  have hlocks := B.notSynchronized
  subst hsz
  have hD := hD0.self (sz := s.heap.size)
  generalize hAe : va_A [(a0, .inr (9, [.ref a0_all, .ref a0_tape, .ref a0_isImage, .int v0_taped, .int v0_faultKind, .int v0_faultPlace, .int v0_undos, .ref a0_turnWord, .ref a0_turnFrom, .int v0_turns, .ref a0_pieceSign, .ref a0_pieceFrom, .int v0_pieces, .int v0_signs, .ref a0_runFrom, .ref a0_runLong, .ref a0_runPiece, .int v0_runs, .ref a0_alike, .ref a0_stood]))] s.heap.size = A at hD ⊢
  have hA : ∀ q : Nat, s.heap.size ≤ q → A q := fun q h => by rw [← hAe]; exact Or.inr h
  have l180 := zat hts 1 (w := .fieldLink RX12 180 "TurnedWordsModel" "taped" "I") rfl
  have hwX12 : ∀ w ∈ u_ws RX12 TX12 20, w ∈ wsX12_end := fun w h => List.mem_cons_of_mem _ (List.mem_append_right _ h)
  have hl := lv_entry ([.ref a0, .int p1]) (n := 2) (Nat.le_of_ble_eq_true rfl)
  rw [lg_entry_eq]
  generalize (lg_sl ([.ref a0, .int p1]) ++ List.replicate (2 - (lg_sl ([.ref a0, .int p1])).length) Slot.unset).toArray = ls at hl ⊢
  have hl : lv_has ls 2 [(0, .ref a0), (1, .int p1)] := hl
  refine zStart (A := A) hP (fun Q0 H locs hQ hP hS => ?_)
  unfold fX12_end at hf
  refine lv_iload_n hx hb dX12_end_0 rfl (lv_at hl 1 rfl) ?_
  refine lv_iconst (v := 0) hx hb dX12_end_1 (by decide) ?_
  refine lv_aload_n hx hb dX12_end_2 rfl (lv_at hl 0 rfl) ?_
  refine va_get (D := D.1) (ci := 9) (v := .int v0_taped) (C := RX12) (T := TX12) (N := 20) hx hb hts hwX12 hown hK.1 hP 0 rfl rfl 3 (by decide) l180 (fun _ h9 => h9) rfl dX12_end_3 ?_
  obtain ⟨r1, hr1, hf⟩ := bd hf
  refine zSz (As := [.int p1, .int (0 : Int32), .int v0_taped]) (rest := []) (wn := [(a0, .inr (9, [.ref a0_all, .ref a0_tape, .ref a0_isImage, .int v0_taped, .int v0_faultKind, .int v0_faultPlace, .int v0_undos, .ref a0_turnWord, .ref a0_turnFrom, .int v0_turns, .ref a0_pieceSign, .ref a0_pieceFrom, .int v0_pieces, .int v0_signs, .ref a0_runFrom, .ref a0_runLong, .ref a0_runPiece, .int v0_runs, .ref a0_alike, .ref a0_stood]))]) ⟨hx, hb, hml, hown, hts⟩ (mX12_isIn l D H.size p1 (0 : Int32) v0_taped r1 hr1) (va_cwS 3 hts gX12_end_X12_isIn rfl rfl rfl (by decide +kernel) ⟨Nat.le_of_ble_eq_true rfl, Nat.le_of_ble_eq_true rfl⟩) hK hP hD hS hA [] [0] [0] rfl (by decide) rfl (by decide) (by decide) rfl (by decide) rfl hl.1 rfl (Nat.le_of_ble_eq_true rfl) dX12_end_6 ⟨Nat.zero_le _, Nat.zero_le _⟩ (fun H locs hb_2 hP hD hS => ?_)
  refine lv_if_ne (tgt := 14) hx hb dX12_end_9 (by decide) (fun c_3 => ?_) (fun c_3 => ?_)
  · replace hf := im c_3 hf
    refine lv_aload_n hx hb dX12_end_14 rfl (lv_at hl 0 rfl) ?_
    refine lv_iload_n hx hb dX12_end_15 rfl (lv_at hl 1 rfl) ?_
    refine va_put (D := D.1) (ci := 9) (v := .int p1) (ty := .int) (C := RX12) (T := TX12) (N := 20) hx hb hts hwX12 tyX12 tyX12_ok nmX12 hown hK.1 hP hD hS 0 rfl rfl 3 (by decide) l180 (fun _ h9 => h9) rfl (by decide +kernel) rfl rfl (Nat.le_of_ble_eq_true rfl) dX12_end_16 (fun H locs hP hD hS => ?_)
    have hP : va_P D.1 vwCl [(a0, .inr (9, [.ref a0_all, .ref a0_tape, .ref a0_isImage, .int p1, .int v0_faultKind, .int v0_faultPlace, .int v0_undos, .ref a0_turnWord, .ref a0_turnFrom, .int v0_turns, .ref a0_pieceSign, .ref a0_pieceFrom, .int v0_pieces, .int v0_signs, .ref a0_runFrom, .ref a0_runLong, .ref a0_runPiece, .int v0_runs, .ref a0_alike, .ref a0_stood]))] H := hP
    have hD : va_D A [(a0, .inr (9, [.ref a0_all, .ref a0_tape, .ref a0_isImage, .int p1, .int v0_faultKind, .int v0_faultPlace, .int v0_undos, .ref a0_turnWord, .ref a0_turnFrom, .int v0_turns, .ref a0_pieceSign, .ref a0_pieceFrom, .int v0_pieces, .int v0_signs, .ref a0_runFrom, .ref a0_runLong, .ref a0_runPiece, .int v0_runs, .ref a0_alike, .ref a0_stood]))] := hD
    refine lv_iload_n hx hb dX12_end_19 rfl (lv_at hl 1 rfl) ?_
    have he := Option.some.inj hf
    rw [hQ]
    exact W.iret (v := p1) hx hb hr (fun t ht hW => by rw [← he]; exact ⟨⟨p1, (), rfl, rfl, by rw [ht]; exact hP, hD⟩, hS.F ht⟩) hS.2.2 dX12_end_20
  · replace hf := ip c_3 hf
    refine lv_iconst (v := -1) hx hb dX12_end_12 (by decide) ?_
    have he := Option.some.inj hf
    rw [hQ]
    exact W.iret (v := (-1 : Int32)) hx hb hr (fun t ht hW => by rw [← he]; exact ⟨⟨(-1 : Int32), (), rfl, rfl, by rw [ht]; exact hP, hD⟩, hS.F ht⟩) hS.2.2 dX12_end_13
def fX12_fault (v0_faultKind : Int32) (v0_faultPlace : Int32) (p1 : Int32) : Option (Int32) :=
  if p1 = (0 : Int32) then
    some (v0_faultKind)
  else
    if p1 = (1 : Int32) then
      some (v0_faultPlace)
    else
      some ((-1 : Int32))
set_option maxHeartbeats 4000000 in
set_option maxRecDepth 100000 in
theorem mX12_fault (l : Launch) (D : zG) (a0 : Nat) (a0_all : Nat) (a0_tape : Nat) (a0_isImage : Nat) (a0_turnWord : Nat) (a0_turnFrom : Nat) (a0_pieceSign : Nat) (a0_pieceFrom : Nat) (a0_runFrom : Nat) (a0_runLong : Nat) (a0_runPiece : Nat) (a0_alike : Nat) (a0_stood : Nat) (sz : Nat)  (v0_taped : Int32) (v0_faultKind : Int32) (v0_faultPlace : Int32) (v0_undos : Int32) (v0_turns : Int32) (v0_pieces : Int32) (v0_signs : Int32) (v0_runs : Int32) (p1 : Int32) (res : Int32) (hf : fX12_fault v0_faultKind v0_faultPlace p1 = some res) : Met l yX12_fault wsX12_fault ({ frames := 0, cells := 0, slots := 0, locals := 0 } : Room) (va_Pc [.ref a0, .int p1] (zW D sz [(a0, .inr (9, [.ref a0_all, .ref a0_tape, .ref a0_isImage, .int v0_taped, .int v0_faultKind, .int v0_faultPlace, .int v0_undos, .ref a0_turnWord, .ref a0_turnFrom, .int v0_turns, .ref a0_pieceSign, .ref a0_pieceFrom, .int v0_pieces, .int v0_signs, .ref a0_runFrom, .ref a0_runLong, .ref a0_runPiece, .int v0_runs, .ref a0_alike, .ref a0_stood]))])) (va_Qi (fun r (_ : Unit) => r = res) (fun _ => zB D (va_A [(a0, .inr (9, [.ref a0_all, .ref a0_tape, .ref a0_isImage, .int v0_taped, .int v0_faultKind, .int v0_faultPlace, .int v0_undos, .ref a0_turnWord, .ref a0_turnFrom, .int v0_turns, .ref a0_pieceSign, .ref a0_pieceFrom, .int v0_pieces, .int v0_signs, .ref a0_runFrom, .ref a0_runLong, .ref a0_runPiece, .int v0_runs, .ref a0_alike, .ref a0_stood]))] sz) [(a0, .inr (9, [.ref a0_all, .ref a0_tape, .ref a0_isImage, .int v0_taped, .int v0_faultKind, .int v0_faultPlace, .int v0_undos, .ref a0_turnWord, .ref a0_turnFrom, .int v0_turns, .ref a0_pieceSign, .ref a0_pieceFrom, .int v0_pieces, .int v0_signs, .ref a0_runFrom, .ref a0_runLong, .ref a0_runPiece, .int v0_runs, .ref a0_alike, .ref a0_stood]))]) (va_A [(a0, .inr (9, [.ref a0_all, .ref a0_tape, .ref a0_isImage, .int v0_taped, .int v0_faultKind, .int v0_faultPlace, .int v0_undos, .ref a0_turnWord, .ref a0_turnFrom, .int v0_turns, .ref a0_pieceSign, .ref a0_pieceFrom, .int v0_pieces, .int v0_signs, .ref a0_runFrom, .ref a0_runLong, .ref a0_runPiece, .int v0_runs, .ref a0_alike, .ref a0_stood]))] sz)) 0 0 (va_A [(a0, .inr (9, [.ref a0_all, .ref a0_tape, .ref a0_isImage, .int v0_taped, .int v0_faultKind, .int v0_faultPlace, .int v0_undos, .ref a0_turnWord, .ref a0_turnFrom, .int v0_turns, .ref a0_pieceSign, .ref a0_pieceFrom, .int v0_pieces, .int v0_signs, .ref a0_runFrom, .ref a0_runLong, .ref a0_runPiece, .int v0_runs, .ref a0_alike, .ref a0_stood]))] sz) := by
  refine Met.ofW (cc := cX12_fault) (maxL := 2) (ret := (some .int)) (by decide) rfl ?_
  intro p e s m args below meth c s₁ B hml hv
  obtain ⟨rfl, hsz, hP, hK, hD0⟩ := hv
  have hx := B.exec
  have hb := B.bytes
  have hr := B.returns
  have hts := atoms_spec (ws := wsX12_fault) B.pre
  have hown : s.vm.findClass RX12 = some m.cls := findClass_of_methodNamed B.named
  have hlocks := B.notSynchronized
  subst hsz
  have hD := hD0.self (sz := s.heap.size)
  generalize hAe : va_A [(a0, .inr (9, [.ref a0_all, .ref a0_tape, .ref a0_isImage, .int v0_taped, .int v0_faultKind, .int v0_faultPlace, .int v0_undos, .ref a0_turnWord, .ref a0_turnFrom, .int v0_turns, .ref a0_pieceSign, .ref a0_pieceFrom, .int v0_pieces, .int v0_signs, .ref a0_runFrom, .ref a0_runLong, .ref a0_runPiece, .int v0_runs, .ref a0_alike, .ref a0_stood]))] s.heap.size = A at hD ⊢
  have hA : ∀ q : Nat, s.heap.size ≤ q → A q := fun q h => by rw [← hAe]; exact Or.inr h
  have l20 := zat hts 2 (w := .fieldLink RX12 20 "TurnedWordsModel" "faultPlace" "I") rfl
  have l201 := zat hts 1 (w := .fieldLink RX12 201 "TurnedWordsModel" "faultKind" "I") rfl
  have hwX12 : ∀ w ∈ u_ws RX12 TX12 20, w ∈ wsX12_fault := fun w h => List.mem_cons_of_mem _ (List.mem_append_right _ h)
  have hl := lv_entry ([.ref a0, .int p1]) (n := 2) (Nat.le_of_ble_eq_true rfl)
  rw [lg_entry_eq]
  generalize (lg_sl ([.ref a0, .int p1]) ++ List.replicate (2 - (lg_sl ([.ref a0, .int p1])).length) Slot.unset).toArray = ls at hl ⊢
  have hl : lv_has ls 2 [(0, .ref a0), (1, .int p1)] := hl
  refine zStart (A := A) hP (fun Q0 H locs hQ hP hS => ?_)
  unfold fX12_fault at hf
  refine lv_iload_n hx hb dX12_fault_0 rfl (lv_at hl 1 rfl) ?_
  refine lv_if_ne (tgt := 11) hx hb dX12_fault_1 (by decide) (fun c_1 => ?_) (fun c_1 => ?_)
  · replace hf := im c_1 hf
    refine lv_iload_n hx hb dX12_fault_11 rfl (lv_at hl 1 rfl) ?_
    refine lv_iconst (v := 1) hx hb dX12_fault_12 (by decide) ?_
    refine lv_icmp_ne (tgt := 23) hx hb dX12_fault_13 (by decide) (fun c_2 => ?_) (fun c_2 => ?_)
    · replace hf := im c_2 hf
      refine lv_iconst (v := -1) hx hb dX12_fault_23 (by decide) ?_
      have he := Option.some.inj hf
      rw [hQ]
      exact W.iret (v := (-1 : Int32)) hx hb hr (fun t ht hW => by rw [← he]; exact ⟨⟨(-1 : Int32), (), rfl, rfl, by rw [ht]; exact hP, hD⟩, hS.F ht⟩) hS.2.2 dX12_fault_24
    · replace hf := ip c_2 hf
      refine lv_aload_n hx hb dX12_fault_16 rfl (lv_at hl 0 rfl) ?_
      refine va_get (D := D.1) (ci := 9) (v := .int v0_faultPlace) (C := RX12) (T := TX12) (N := 20) hx hb hts hwX12 hown hK.1 hP 0 rfl rfl 5 (by decide) l20 (fun _ h9 => h9) rfl dX12_fault_17 ?_
      refine lv_goto (tgt := 24) hx hb dX12_fault_20 (by decide) ?_
      have he := Option.some.inj hf
      rw [hQ]
      exact W.iret (v := v0_faultPlace) hx hb hr (fun t ht hW => by rw [← he]; exact ⟨⟨v0_faultPlace, (), rfl, rfl, by rw [ht]; exact hP, hD⟩, hS.F ht⟩) hS.2.2 dX12_fault_24
  · replace hf := ip c_1 hf
    refine lv_aload_n hx hb dX12_fault_4 rfl (lv_at hl 0 rfl) ?_
    refine va_get (D := D.1) (ci := 9) (v := .int v0_faultKind) (C := RX12) (T := TX12) (N := 20) hx hb hts hwX12 hown hK.1 hP 0 rfl rfl 4 (by decide) l201 (fun _ h9 => h9) rfl dX12_fault_5 ?_
    refine lv_goto (tgt := 24) hx hb dX12_fault_8 (by decide) ?_
    have he := Option.some.inj hf
    rw [hQ]
    exact W.iret (v := v0_faultKind) hx hb hr (fun t ht hW => by rw [← he]; exact ⟨⟨v0_faultKind, (), rfl, rfl, by rw [ht]; exact hP, hD⟩, hS.F ht⟩) hS.2.2 dX12_fault_24
def fX12_fails_32 (p1 : Int32) (p2 : Int32) (v0_faultKind : Int32) (v0_faultPlace : Int32) : Option (Int32 × Int32) :=
  some (p1, p2)
def fX12_fails (v0_faultKind : Int32) (v0_faultPlace : Int32) (p1 : Int32) (p2 : Int32) : Option (Int32 × Int32) :=
  if v0_faultKind ≤ (0 : Int32) then
    fX12_fails_32 p1 p2 v0_faultKind v0_faultPlace
  else
    if v0_faultPlace < p2 then
      some (v0_faultKind, v0_faultPlace)
    else
      if p2 = v0_faultPlace then
        if v0_faultKind < p1 then
          fX12_fails_32 p1 p2 v0_faultKind v0_faultPlace
        else
          some (v0_faultKind, v0_faultPlace)
      else
        fX12_fails_32 p1 p2 v0_faultKind v0_faultPlace
set_option maxHeartbeats 4000000 in
set_option maxRecDepth 100000 in
theorem mX12_fails (l : Launch) (D : zG) (a0 : Nat) (a0_all : Nat) (a0_tape : Nat) (a0_isImage : Nat) (a0_turnWord : Nat) (a0_turnFrom : Nat) (a0_pieceSign : Nat) (a0_pieceFrom : Nat) (a0_runFrom : Nat) (a0_runLong : Nat) (a0_runPiece : Nat) (a0_alike : Nat) (a0_stood : Nat) (sz : Nat)  (v0_taped : Int32) (v0_faultKind : Int32) (v0_faultPlace : Int32) (v0_undos : Int32) (v0_turns : Int32) (v0_pieces : Int32) (v0_signs : Int32) (v0_runs : Int32) (p1 : Int32) (p2 : Int32) (res : Int32 × Int32) (hf : fX12_fails v0_faultKind v0_faultPlace p1 p2 = some res) : Met l yX12_fails wsX12_fails ({ frames := 0, cells := 0, slots := 0, locals := 0 } : Room) (va_Pc [.ref a0, .int p1, .int p2] (zW D sz [(a0, .inr (9, [.ref a0_all, .ref a0_tape, .ref a0_isImage, .int v0_taped, .int v0_faultKind, .int v0_faultPlace, .int v0_undos, .ref a0_turnWord, .ref a0_turnFrom, .int v0_turns, .ref a0_pieceSign, .ref a0_pieceFrom, .int v0_pieces, .int v0_signs, .ref a0_runFrom, .ref a0_runLong, .ref a0_runPiece, .int v0_runs, .ref a0_alike, .ref a0_stood]))])) (va_Qv (fun (_ : Unit) => True) (fun _ => zB D (va_A [(a0, .inr (9, [.ref a0_all, .ref a0_tape, .ref a0_isImage, .int v0_taped, .int v0_faultKind, .int v0_faultPlace, .int v0_undos, .ref a0_turnWord, .ref a0_turnFrom, .int v0_turns, .ref a0_pieceSign, .ref a0_pieceFrom, .int v0_pieces, .int v0_signs, .ref a0_runFrom, .ref a0_runLong, .ref a0_runPiece, .int v0_runs, .ref a0_alike, .ref a0_stood]))] sz) [(a0, .inr (9, [.ref a0_all, .ref a0_tape, .ref a0_isImage, .int v0_taped, .int res.1, .int res.2, .int v0_undos, .ref a0_turnWord, .ref a0_turnFrom, .int v0_turns, .ref a0_pieceSign, .ref a0_pieceFrom, .int v0_pieces, .int v0_signs, .ref a0_runFrom, .ref a0_runLong, .ref a0_runPiece, .int v0_runs, .ref a0_alike, .ref a0_stood]))]) (va_A [(a0, .inr (9, [.ref a0_all, .ref a0_tape, .ref a0_isImage, .int v0_taped, .int v0_faultKind, .int v0_faultPlace, .int v0_undos, .ref a0_turnWord, .ref a0_turnFrom, .int v0_turns, .ref a0_pieceSign, .ref a0_pieceFrom, .int v0_pieces, .int v0_signs, .ref a0_runFrom, .ref a0_runLong, .ref a0_runPiece, .int v0_runs, .ref a0_alike, .ref a0_stood]))] sz)) 0 0 (va_A [(a0, .inr (9, [.ref a0_all, .ref a0_tape, .ref a0_isImage, .int v0_taped, .int v0_faultKind, .int v0_faultPlace, .int v0_undos, .ref a0_turnWord, .ref a0_turnFrom, .int v0_turns, .ref a0_pieceSign, .ref a0_pieceFrom, .int v0_pieces, .int v0_signs, .ref a0_runFrom, .ref a0_runLong, .ref a0_runPiece, .int v0_runs, .ref a0_alike, .ref a0_stood]))] sz) := by
  refine Met.ofW (cc := cX12_fails) (maxL := 3) (ret := none) (by decide) rfl ?_
  intro p e s m args below meth c s₁ B hml hv
  obtain ⟨rfl, hsz, hP, hK, hD0⟩ := hv
  have hx := B.exec
  have hb := B.bytes
  have hr := B.returns
  have hts := atoms_spec (ws := wsX12_fails) B.pre
  have hown : s.vm.findClass RX12 = some m.cls := findClass_of_methodNamed B.named
  have hlocks := B.notSynchronized
  subst hsz
  have hD := hD0.self (sz := s.heap.size)
  generalize hAe : va_A [(a0, .inr (9, [.ref a0_all, .ref a0_tape, .ref a0_isImage, .int v0_taped, .int v0_faultKind, .int v0_faultPlace, .int v0_undos, .ref a0_turnWord, .ref a0_turnFrom, .int v0_turns, .ref a0_pieceSign, .ref a0_pieceFrom, .int v0_pieces, .int v0_signs, .ref a0_runFrom, .ref a0_runLong, .ref a0_runPiece, .int v0_runs, .ref a0_alike, .ref a0_stood]))] s.heap.size = A at hD ⊢
  have hA : ∀ q : Nat, s.heap.size ≤ q → A q := fun q h => by rw [← hAe]; exact Or.inr h
  have l201 := zat hts 1 (w := .fieldLink RX12 201 "TurnedWordsModel" "faultKind" "I") rfl
  have l20 := zat hts 2 (w := .fieldLink RX12 20 "TurnedWordsModel" "faultPlace" "I") rfl
  have hwX12 : ∀ w ∈ u_ws RX12 TX12 20, w ∈ wsX12_fails := fun w h => List.mem_cons_of_mem _ (List.mem_append_right _ h)
  have hl := lv_entry ([.ref a0, .int p1, .int p2]) (n := 3) (Nat.le_of_ble_eq_true rfl)
  rw [lg_entry_eq]
  generalize (lg_sl ([.ref a0, .int p1, .int p2]) ++ List.replicate (3 - (lg_sl ([.ref a0, .int p1, .int p2])).length) Slot.unset).toArray = ls at hl ⊢
  have hl : lv_has ls 3 [(0, .ref a0), (1, .int p1), (2, .int p2)] := hl
  refine zStart (A := A) hP (fun Q0 H locs hQ hP hS => ?_)
  have k32 : ∀ (v0_faultKind : Int32) (v0_faultPlace : Int32) (H : Heap) (locs : List Loc) (ls : Array Slot), fX12_fails_32 p1 p2 v0_faultKind v0_faultPlace = some res → va_P D.1 vwCl [(a0, .inr (9, [.ref a0_all, .ref a0_tape, .ref a0_isImage, .int v0_taped, .int v0_faultKind, .int v0_faultPlace, .int v0_undos, .ref a0_turnWord, .ref a0_turnFrom, .int v0_turns, .ref a0_pieceSign, .ref a0_pieceFrom, .int v0_pieces, .int v0_signs, .ref a0_runFrom, .ref a0_runLong, .ref a0_runPiece, .int v0_runs, .ref a0_alike, .ref a0_stood]))] H → va_D A [(a0, .inr (9, [.ref a0_all, .ref a0_tape, .ref a0_isImage, .int v0_taped, .int v0_faultKind, .int v0_faultPlace, .int v0_undos, .ref a0_turnWord, .ref a0_turnFrom, .int v0_turns, .ref a0_pieceSign, .ref a0_pieceFrom, .int v0_pieces, .int v0_signs, .ref a0_runFrom, .ref a0_runLong, .ref a0_runPiece, .int v0_runs, .ref a0_alike, .ref a0_stood]))] → va_S A s.heap H locs → lv_has ls 3 [(0, .ref a0), (1, .int p1), (2, .int p2)] → W p l e (headSpec wsX12_fails ({ frames := 0, cells := 0, slots := 0, locals := 0 } : Room)).room s m ([.ref a0, .int p1, .int p2] : List Value).toArray below meth c H locs 0 0 Q0 (F0 m 32 ls []) := by
    intro v0_faultKind v0_faultPlace H locs ls hf hP hD hS hl
    unfold fX12_fails_32 at hf
    refine lv_aload_n hx hb dX12_fails_32 rfl (lv_at hl 0 rfl) ?_
    refine lv_iload_n hx hb dX12_fails_33 rfl (lv_at hl 1 rfl) ?_
    refine va_put (D := D.1) (ci := 9) (v := .int p1) (ty := .int) (C := RX12) (T := TX12) (N := 20) hx hb hts hwX12 tyX12 tyX12_ok nmX12 hown hK.1 hP hD hS 0 rfl rfl 4 (by decide) l201 (fun _ h9 => h9) rfl (by decide +kernel) rfl rfl (Nat.le_of_ble_eq_true rfl) dX12_fails_34 (fun H locs hP hD hS => ?_)
    have hP : va_P D.1 vwCl [(a0, .inr (9, [.ref a0_all, .ref a0_tape, .ref a0_isImage, .int v0_taped, .int p1, .int v0_faultPlace, .int v0_undos, .ref a0_turnWord, .ref a0_turnFrom, .int v0_turns, .ref a0_pieceSign, .ref a0_pieceFrom, .int v0_pieces, .int v0_signs, .ref a0_runFrom, .ref a0_runLong, .ref a0_runPiece, .int v0_runs, .ref a0_alike, .ref a0_stood]))] H := hP
    have hD : va_D A [(a0, .inr (9, [.ref a0_all, .ref a0_tape, .ref a0_isImage, .int v0_taped, .int p1, .int v0_faultPlace, .int v0_undos, .ref a0_turnWord, .ref a0_turnFrom, .int v0_turns, .ref a0_pieceSign, .ref a0_pieceFrom, .int v0_pieces, .int v0_signs, .ref a0_runFrom, .ref a0_runLong, .ref a0_runPiece, .int v0_runs, .ref a0_alike, .ref a0_stood]))] := hD
    refine lv_aload_n hx hb dX12_fails_37 rfl (lv_at hl 0 rfl) ?_
    refine lv_iload_n hx hb dX12_fails_38 rfl (lv_at hl 2 rfl) ?_
    refine va_put (D := D.1) (ci := 9) (v := .int p2) (ty := .int) (C := RX12) (T := TX12) (N := 20) hx hb hts hwX12 tyX12 tyX12_ok nmX12 hown hK.1 hP hD hS 0 rfl rfl 5 (by decide) l20 (fun _ h9 => h9) rfl (by decide +kernel) rfl rfl (Nat.le_of_ble_eq_true rfl) dX12_fails_39 (fun H locs hP hD hS => ?_)
    have hP : va_P D.1 vwCl [(a0, .inr (9, [.ref a0_all, .ref a0_tape, .ref a0_isImage, .int v0_taped, .int p1, .int p2, .int v0_undos, .ref a0_turnWord, .ref a0_turnFrom, .int v0_turns, .ref a0_pieceSign, .ref a0_pieceFrom, .int v0_pieces, .int v0_signs, .ref a0_runFrom, .ref a0_runLong, .ref a0_runPiece, .int v0_runs, .ref a0_alike, .ref a0_stood]))] H := hP
    have hD : va_D A [(a0, .inr (9, [.ref a0_all, .ref a0_tape, .ref a0_isImage, .int v0_taped, .int p1, .int p2, .int v0_undos, .ref a0_turnWord, .ref a0_turnFrom, .int v0_turns, .ref a0_pieceSign, .ref a0_pieceFrom, .int v0_pieces, .int v0_signs, .ref a0_runFrom, .ref a0_runLong, .ref a0_runPiece, .int v0_runs, .ref a0_alike, .ref a0_stood]))] := hD
    have he := Option.some.inj hf
    rw [hQ]
    exact W.vret hx hb hr (fun t ht hW => by rw [← he]; exact ⟨⟨(), rfl, trivial, by rw [ht]; exact hP, hD⟩, hS.F ht⟩) hS.2.2 dX12_fails_42
  unfold fX12_fails at hf
  refine lv_aload_n hx hb dX12_fails_0 rfl (lv_at hl 0 rfl) ?_
  refine va_get (D := D.1) (ci := 9) (v := .int v0_faultKind) (C := RX12) (T := TX12) (N := 20) hx hb hts hwX12 hown hK.1 hP 0 rfl rfl 4 (by decide) l201 (fun _ h9 => h9) rfl dX12_fails_1 ?_
  refine lv_if_le (tgt := 32) hx hb dX12_fails_4 (by decide) (fun c_1 => ?_) (fun c_1 => ?_)
  · replace hf := ip c_1 hf
    exact k32 v0_faultKind v0_faultPlace H locs ls hf hP hD hS hl
  · replace hf := im c_1 hf
    refine lv_iload_n hx hb dX12_fails_7 rfl (lv_at hl 2 rfl) ?_
    refine lv_aload_n hx hb dX12_fails_8 rfl (lv_at hl 0 rfl) ?_
    refine va_get (D := D.1) (ci := 9) (v := .int v0_faultPlace) (C := RX12) (T := TX12) (N := 20) hx hb hts hwX12 hown hK.1 hP 0 rfl rfl 5 (by decide) l20 (fun _ h9 => h9) rfl dX12_fails_9 ?_
    refine lv_icmp_gt (tgt := 31) hx hb dX12_fails_12 (by decide) (fun c_2 => ?_) (fun c_2 => ?_)
    · replace hf := ip c_2 hf
      have he := Option.some.inj hf
      rw [hQ]
      exact W.vret hx hb hr (fun t ht hW => by rw [← he]; exact ⟨⟨(), rfl, trivial, by rw [ht]; exact hP, hD⟩, hS.F ht⟩) hS.2.2 dX12_fails_31
    · replace hf := im c_2 hf
      refine lv_iload_n hx hb dX12_fails_15 rfl (lv_at hl 2 rfl) ?_
      refine lv_aload_n hx hb dX12_fails_16 rfl (lv_at hl 0 rfl) ?_
      refine va_get (D := D.1) (ci := 9) (v := .int v0_faultPlace) (C := RX12) (T := TX12) (N := 20) hx hb hts hwX12 hown hK.1 hP 0 rfl rfl 5 (by decide) l20 (fun _ h9 => h9) rfl dX12_fails_17 ?_
      refine lv_icmp_ne (tgt := 32) hx hb dX12_fails_20 (by decide) (fun c_3 => ?_) (fun c_3 => ?_)
      · replace hf := im c_3 hf
        exact k32 v0_faultKind v0_faultPlace H locs ls hf hP hD hS hl
      · replace hf := ip c_3 hf
        refine lv_iload_n hx hb dX12_fails_23 rfl (lv_at hl 1 rfl) ?_
        refine lv_aload_n hx hb dX12_fails_24 rfl (lv_at hl 0 rfl) ?_
        refine va_get (D := D.1) (ci := 9) (v := .int v0_faultKind) (C := RX12) (T := TX12) (N := 20) hx hb hts hwX12 hown hK.1 hP 0 rfl rfl 4 (by decide) l201 (fun _ h9 => h9) rfl dX12_fails_25 ?_
        refine lv_icmp_gt (tgt := 32) hx hb dX12_fails_28 (by decide) (fun c_4 => ?_) (fun c_4 => ?_)
        · replace hf := ip c_4 hf
          exact k32 v0_faultKind v0_faultPlace H locs ls hf hP hD hS hl
        · replace hf := im c_4 hf
          have he := Option.some.inj hf
          rw [hQ]
          exact W.vret hx hb hr (fun t ht hW => by rw [← he]; exact ⟨⟨(), rfl, trivial, by rw [ht]; exact hP, hD⟩, hS.F ht⟩) hS.2.2 dX12_fails_31
def fX12_laysWord_36 (N : Nat) (g0_tape : Nat → Int32) (p1 : Int32) (p2 : Int32) (p3 : Int32) : Nat → Int32 → (Nat → Int32) → Option ((Nat → Int32))
  | 0, _, _ => none
  | K + 1, x4, g0_all =>
    if p2 ≤ x4 then
      some (g0_all)
    else
      if (p1 + x4) < 0 ∨ 400 ≤ ((p1 + x4)).toNatClampNeg then none else
      if ((p3 + (1 : Int32)) + x4) < 0 ∨ 5228 ≤ (((p3 + (1 : Int32)) + x4)).toNatClampNeg then none else
      (fX12_laysWord_36 N g0_tape p1 p2 p3 K) (x4 + (1 : Int32)) (upd g0_all (((p3 + (1 : Int32)) + x4)).toNatClampNeg (g0_tape ((p1 + x4)).toNatClampNeg))
def fX12_laysWord_3 (N : Nat) (g0_tape : Nat → Int32) (p1 : Int32) (p2 : Int32) (p3 : Int32) : Nat → Int32 → (Nat → Int32) → Option ((Nat → Int32))
  | 0, _, _ => none
  | K + 1, x4, g0_all =>
    if (8 : Int32) ≤ x4 then
      if p3 < 0 ∨ 5228 ≤ (p3).toNatClampNeg then none else
      fX12_laysWord_36 N g0_tape p1 p2 p3 N (0 : Int32) (upd g0_all (p3).toNatClampNeg p2)
    else
      if (p3 + x4) < 0 ∨ 5228 ≤ ((p3 + x4)).toNatClampNeg then none else
      (fX12_laysWord_3 N g0_tape p1 p2 p3 K) (x4 + (1 : Int32)) (upd g0_all ((p3 + x4)).toNatClampNeg (0 : Int32))
def fX12_laysWord (N : Nat) (g0_all : Nat → Int32) (g0_tape : Nat → Int32) (p1 : Int32) (p2 : Int32) (p3 : Int32) : Option ((Nat → Int32)) :=
  fX12_laysWord_3 N g0_tape p1 p2 p3 N (0 : Int32) g0_all
set_option maxHeartbeats 4000000 in
set_option maxRecDepth 100000 in
theorem mX12_laysWord (l : Launch) (D : zG) (a0 : Nat) (a0_all : Nat) (a0_tape : Nat) (a0_isImage : Nat) (a0_turnWord : Nat) (a0_turnFrom : Nat) (a0_pieceSign : Nat) (a0_pieceFrom : Nat) (a0_runFrom : Nat) (a0_runLong : Nat) (a0_runPiece : Nat) (a0_alike : Nat) (a0_stood : Nat) (sz : Nat)  (v0_taped : Int32) (v0_faultKind : Int32) (v0_faultPlace : Int32) (v0_undos : Int32) (v0_turns : Int32) (v0_pieces : Int32) (v0_signs : Int32) (v0_runs : Int32) (g0_all : Nat → Int32) (g0_tape : Nat → Int32) (p1 : Int32) (p2 : Int32) (p3 : Int32) (N : Nat) (res : (Nat → Int32)) (hf : fX12_laysWord N g0_all g0_tape p1 p2 p3 = some res) : Met l yX12_laysWord wsX12_laysWord ({ frames := 0, cells := 0, slots := 0, locals := 0 } : Room) (va_Pc [.ref a0, .int p1, .int p2, .int p3] (zW D sz [(a0, .inr (9, [.ref a0_all, .ref a0_tape, .ref a0_isImage, .int v0_taped, .int v0_faultKind, .int v0_faultPlace, .int v0_undos, .ref a0_turnWord, .ref a0_turnFrom, .int v0_turns, .ref a0_pieceSign, .ref a0_pieceFrom, .int v0_pieces, .int v0_signs, .ref a0_runFrom, .ref a0_runLong, .ref a0_runPiece, .int v0_runs, .ref a0_alike, .ref a0_stood])), (a0_all, .inl (D.2 1, 5228, .inl g0_all)), (a0_tape, .inl (D.2 1, 400, .inl g0_tape))])) (va_Qv (fun (_ : Unit) => True) (fun _ => zB D (va_A [(a0, .inr (9, [.ref a0_all, .ref a0_tape, .ref a0_isImage, .int v0_taped, .int v0_faultKind, .int v0_faultPlace, .int v0_undos, .ref a0_turnWord, .ref a0_turnFrom, .int v0_turns, .ref a0_pieceSign, .ref a0_pieceFrom, .int v0_pieces, .int v0_signs, .ref a0_runFrom, .ref a0_runLong, .ref a0_runPiece, .int v0_runs, .ref a0_alike, .ref a0_stood])), (a0_all, .inl (D.2 1, 5228, .inl g0_all)), (a0_tape, .inl (D.2 1, 400, .inl g0_tape))] sz) [(a0, .inr (9, [.ref a0_all, .ref a0_tape, .ref a0_isImage, .int v0_taped, .int v0_faultKind, .int v0_faultPlace, .int v0_undos, .ref a0_turnWord, .ref a0_turnFrom, .int v0_turns, .ref a0_pieceSign, .ref a0_pieceFrom, .int v0_pieces, .int v0_signs, .ref a0_runFrom, .ref a0_runLong, .ref a0_runPiece, .int v0_runs, .ref a0_alike, .ref a0_stood])), (a0_all, .inl (D.2 1, 5228, .inl res)), (a0_tape, .inl (D.2 1, 400, .inl g0_tape))]) (va_A [(a0, .inr (9, [.ref a0_all, .ref a0_tape, .ref a0_isImage, .int v0_taped, .int v0_faultKind, .int v0_faultPlace, .int v0_undos, .ref a0_turnWord, .ref a0_turnFrom, .int v0_turns, .ref a0_pieceSign, .ref a0_pieceFrom, .int v0_pieces, .int v0_signs, .ref a0_runFrom, .ref a0_runLong, .ref a0_runPiece, .int v0_runs, .ref a0_alike, .ref a0_stood])), (a0_all, .inl (D.2 1, 5228, .inl g0_all)), (a0_tape, .inl (D.2 1, 400, .inl g0_tape))] sz)) 0 0 (va_A [(a0, .inr (9, [.ref a0_all, .ref a0_tape, .ref a0_isImage, .int v0_taped, .int v0_faultKind, .int v0_faultPlace, .int v0_undos, .ref a0_turnWord, .ref a0_turnFrom, .int v0_turns, .ref a0_pieceSign, .ref a0_pieceFrom, .int v0_pieces, .int v0_signs, .ref a0_runFrom, .ref a0_runLong, .ref a0_runPiece, .int v0_runs, .ref a0_alike, .ref a0_stood])), (a0_all, .inl (D.2 1, 5228, .inl g0_all)), (a0_tape, .inl (D.2 1, 400, .inl g0_tape))] sz) := by
  refine Met.ofW (cc := cX12_laysWord) (maxL := 5) (ret := none) (by decide) rfl ?_
  intro p e s m args below meth c s₁ B hml hv
  obtain ⟨rfl, hsz, hP, hK, hD0⟩ := hv
  have hx := B.exec
  have hb := B.bytes
  have hr := B.returns
  have hts := atoms_spec (ws := wsX12_laysWord) B.pre
  have hown : s.vm.findClass RX12 = some m.cls := findClass_of_methodNamed B.named
  have hlocks := B.notSynchronized
  subst hsz
  have hD := hD0.self (sz := s.heap.size)
  generalize hAe : va_A [(a0, .inr (9, [.ref a0_all, .ref a0_tape, .ref a0_isImage, .int v0_taped, .int v0_faultKind, .int v0_faultPlace, .int v0_undos, .ref a0_turnWord, .ref a0_turnFrom, .int v0_turns, .ref a0_pieceSign, .ref a0_pieceFrom, .int v0_pieces, .int v0_signs, .ref a0_runFrom, .ref a0_runLong, .ref a0_runPiece, .int v0_runs, .ref a0_alike, .ref a0_stood])), (a0_all, .inl (D.2 1, 5228, .inl g0_all)), (a0_tape, .inl (D.2 1, 400, .inl g0_tape))] s.heap.size = A at hD ⊢
  have hA : ∀ q : Nat, s.heap.size ≤ q → A q := fun q h => by rw [← hAe]; exact Or.inr h
  have l7 := zat hts 1 (w := .fieldLink RX12 7 "TurnedWordsModel" "all" "[I") rfl
  have l13 := zat hts 2 (w := .fieldLink RX12 13 "TurnedWordsModel" "tape" "[I") rfl
  have hwX12 : ∀ w ∈ u_ws RX12 TX12 20, w ∈ wsX12_laysWord := fun w h => List.mem_cons_of_mem _ (List.mem_append_right _ h)
  have hl := lv_entry ([.ref a0, .int p1, .int p2, .int p3]) (n := 5) (Nat.le_of_ble_eq_true rfl)
  rw [lg_entry_eq]
  generalize (lg_sl ([.ref a0, .int p1, .int p2, .int p3]) ++ List.replicate (5 - (lg_sl ([.ref a0, .int p1, .int p2, .int p3])).length) Slot.unset).toArray = ls at hl ⊢
  have hl : lv_has ls 5 [(0, .ref a0), (1, .int p1), (2, .int p2), (3, .int p3)] := hl
  refine zStart (A := A) hP (fun Q0 H locs hQ hP hS => ?_)
  have k36 : ∀ K : Nat, ∀ (x4 : Int32) (g0_all : Nat → Int32) (H : Heap) (locs : List Loc) (ls : Array Slot), fX12_laysWord_36 N g0_tape p1 p2 p3 K x4 g0_all = some res → va_P D.1 vwCl [(a0, .inr (9, [.ref a0_all, .ref a0_tape, .ref a0_isImage, .int v0_taped, .int v0_faultKind, .int v0_faultPlace, .int v0_undos, .ref a0_turnWord, .ref a0_turnFrom, .int v0_turns, .ref a0_pieceSign, .ref a0_pieceFrom, .int v0_pieces, .int v0_signs, .ref a0_runFrom, .ref a0_runLong, .ref a0_runPiece, .int v0_runs, .ref a0_alike, .ref a0_stood])), (a0_all, .inl (D.2 1, 5228, .inl g0_all)), (a0_tape, .inl (D.2 1, 400, .inl g0_tape))] H → va_D A [(a0, .inr (9, [.ref a0_all, .ref a0_tape, .ref a0_isImage, .int v0_taped, .int v0_faultKind, .int v0_faultPlace, .int v0_undos, .ref a0_turnWord, .ref a0_turnFrom, .int v0_turns, .ref a0_pieceSign, .ref a0_pieceFrom, .int v0_pieces, .int v0_signs, .ref a0_runFrom, .ref a0_runLong, .ref a0_runPiece, .int v0_runs, .ref a0_alike, .ref a0_stood])), (a0_all, .inl (D.2 1, 5228, .inl g0_all)), (a0_tape, .inl (D.2 1, 400, .inl g0_tape))] → va_S A s.heap H locs → lv_has ls 5 [(0, .ref a0), (1, .int p1), (2, .int p2), (3, .int p3), (4, .int x4)] → W p l e (headSpec wsX12_laysWord ({ frames := 0, cells := 0, slots := 0, locals := 0 } : Room)).room s m ([.ref a0, .int p1, .int p2, .int p3] : List Value).toArray below meth c H locs 0 0 Q0 (F0 m 36 ls []) := by
    intro K
    induction K with
    | zero =>
      intro x4 g0_all H locs ls hf
      rw [fX12_laysWord_36] at hf
      cases hf
    | succ K ih =>
      intro x4 g0_all H locs ls hf hP hD hS hl
      rw [fX12_laysWord_36] at hf
      refine lv_iload hx hb dX12_laysWord_36 (lv_at hl 4 rfl) ?_
      refine lv_iload_n hx hb dX12_laysWord_38 rfl (lv_at hl 2 rfl) ?_
      refine lv_icmp_ge (tgt := 68) hx hb dX12_laysWord_39 (by decide) (fun c_4 => ?_) (fun c_4 => ?_)
      · replace hf := ip c_4 hf
        have he := Option.some.inj hf
        rw [hQ]
        exact W.vret hx hb hr (fun t ht hW => by rw [← he]; exact ⟨⟨(), rfl, trivial, by rw [ht]; exact hP, hD⟩, hS.F ht⟩) hS.2.2 dX12_laysWord_68
      · replace hf := im c_4 hf
        refine lv_aload_n hx hb dX12_laysWord_42 rfl (lv_at hl 0 rfl) ?_
        refine va_get (D := D.1) (ci := 9) (v := .ref a0_all) (C := RX12) (T := TX12) (N := 20) hx hb hts hwX12 hown hK.1 hP 0 rfl rfl 0 (by decide) l7 (fun _ h9 => h9) rfl dX12_laysWord_43 ?_
        refine lv_iload_n hx hb dX12_laysWord_46 rfl (lv_at hl 3 rfl) ?_
        refine lv_iconst (v := 1) hx hb dX12_laysWord_47 (by decide) ?_
        refine lv_iadd hx hb dX12_laysWord_48 ?_
        refine lv_iload hx hb dX12_laysWord_49 (lv_at hl 4 rfl) ?_
        refine lv_iadd hx hb dX12_laysWord_51 ?_
        refine lv_aload_n hx hb dX12_laysWord_52 rfl (lv_at hl 0 rfl) ?_
        refine va_get (D := D.1) (ci := 9) (v := .ref a0_tape) (C := RX12) (T := TX12) (N := 20) hx hb hts hwX12 hown hK.1 hP 0 rfl rfl 1 (by decide) l13 (fun _ h9 => h9) rfl dX12_laysWord_53 ?_
        refine lv_iload_n hx hb dX12_laysWord_56 rfl (lv_at hl 1 rfl) ?_
        refine lv_iload hx hb dX12_laysWord_57 (lv_at hl 4 rfl) ?_
        refine lv_iadd hx hb dX12_laysWord_59 ?_
        obtain ⟨h_5, hf⟩ := gd hf
        refine va_iald hx hb hK.1 hP 2 1 rfl rfl h_5 dX12_laysWord_60 ?_
        obtain ⟨h_6, hf⟩ := gd hf
        refine va_iast hx hb hK.1 hP hD hS 1 1 rfl rfl h_6 dX12_laysWord_61 (fun H locs hP hD hS => ?_)
        have hP : va_P D.1 vwCl [(a0, .inr (9, [.ref a0_all, .ref a0_tape, .ref a0_isImage, .int v0_taped, .int v0_faultKind, .int v0_faultPlace, .int v0_undos, .ref a0_turnWord, .ref a0_turnFrom, .int v0_turns, .ref a0_pieceSign, .ref a0_pieceFrom, .int v0_pieces, .int v0_signs, .ref a0_runFrom, .ref a0_runLong, .ref a0_runPiece, .int v0_runs, .ref a0_alike, .ref a0_stood])), (a0_all, .inl (D.2 1, 5228, .inl (upd g0_all (((p3 + (1 : Int32)) + x4)).toNatClampNeg (g0_tape ((p1 + x4)).toNatClampNeg)))), (a0_tape, .inl (D.2 1, 400, .inl g0_tape))] H := hP
        have hD : va_D A [(a0, .inr (9, [.ref a0_all, .ref a0_tape, .ref a0_isImage, .int v0_taped, .int v0_faultKind, .int v0_faultPlace, .int v0_undos, .ref a0_turnWord, .ref a0_turnFrom, .int v0_turns, .ref a0_pieceSign, .ref a0_pieceFrom, .int v0_pieces, .int v0_signs, .ref a0_runFrom, .ref a0_runLong, .ref a0_runPiece, .int v0_runs, .ref a0_alike, .ref a0_stood])), (a0_all, .inl (D.2 1, 5228, .inl (upd g0_all (((p3 + (1 : Int32)) + x4)).toNatClampNeg (g0_tape ((p1 + x4)).toNatClampNeg)))), (a0_tape, .inl (D.2 1, 400, .inl g0_tape))] := hD
        refine lv_iinc (v := (x4 + (1 : Int32))) (lv' := [(4, .int (x4 + (1 : Int32))), (0, .ref a0), (1, .int p1), (2, .int p2), (3, .int p3)]) hx hb dX12_laysWord_62 hl (k := 4) rfl rfl (by decide) rfl (fun ls hl => ?_)
        refine lv_goto (tgt := 36) hx hb dX12_laysWord_65 (by decide) ?_
        exact ih (x4 + (1 : Int32)) (upd g0_all (((p3 + (1 : Int32)) + x4)).toNatClampNeg (g0_tape ((p1 + x4)).toNatClampNeg)) H locs ls hf hP hD hS (lv_sub hl [1, 2, 3, 4, 0] rfl)
  have k3 : ∀ K : Nat, ∀ (x4 : Int32) (g0_all : Nat → Int32) (H : Heap) (locs : List Loc) (ls : Array Slot), fX12_laysWord_3 N g0_tape p1 p2 p3 K x4 g0_all = some res → va_P D.1 vwCl [(a0, .inr (9, [.ref a0_all, .ref a0_tape, .ref a0_isImage, .int v0_taped, .int v0_faultKind, .int v0_faultPlace, .int v0_undos, .ref a0_turnWord, .ref a0_turnFrom, .int v0_turns, .ref a0_pieceSign, .ref a0_pieceFrom, .int v0_pieces, .int v0_signs, .ref a0_runFrom, .ref a0_runLong, .ref a0_runPiece, .int v0_runs, .ref a0_alike, .ref a0_stood])), (a0_all, .inl (D.2 1, 5228, .inl g0_all)), (a0_tape, .inl (D.2 1, 400, .inl g0_tape))] H → va_D A [(a0, .inr (9, [.ref a0_all, .ref a0_tape, .ref a0_isImage, .int v0_taped, .int v0_faultKind, .int v0_faultPlace, .int v0_undos, .ref a0_turnWord, .ref a0_turnFrom, .int v0_turns, .ref a0_pieceSign, .ref a0_pieceFrom, .int v0_pieces, .int v0_signs, .ref a0_runFrom, .ref a0_runLong, .ref a0_runPiece, .int v0_runs, .ref a0_alike, .ref a0_stood])), (a0_all, .inl (D.2 1, 5228, .inl g0_all)), (a0_tape, .inl (D.2 1, 400, .inl g0_tape))] → va_S A s.heap H locs → lv_has ls 5 [(0, .ref a0), (1, .int p1), (2, .int p2), (3, .int p3), (4, .int x4)] → W p l e (headSpec wsX12_laysWord ({ frames := 0, cells := 0, slots := 0, locals := 0 } : Room)).room s m ([.ref a0, .int p1, .int p2, .int p3] : List Value).toArray below meth c H locs 0 0 Q0 (F0 m 3 ls []) := by
    intro K
    induction K with
    | zero =>
      intro x4 g0_all H locs ls hf
      rw [fX12_laysWord_3] at hf
      cases hf
    | succ K ih =>
      intro x4 g0_all H locs ls hf hP hD hS hl
      rw [fX12_laysWord_3] at hf
      refine lv_iload hx hb dX12_laysWord_3 (lv_at hl 4 rfl) ?_
      refine lv_bipush (v := 8) hx hb dX12_laysWord_5 (by decide) ?_
      refine lv_icmp_ge (tgt := 26) hx hb dX12_laysWord_7 (by decide) (fun c_1 => ?_) (fun c_1 => ?_)
      · replace hf := ip c_1 hf
        refine lv_aload_n hx hb dX12_laysWord_26 rfl (lv_at hl 0 rfl) ?_
        refine va_get (D := D.1) (ci := 9) (v := .ref a0_all) (C := RX12) (T := TX12) (N := 20) hx hb hts hwX12 hown hK.1 hP 0 rfl rfl 0 (by decide) l7 (fun _ h9 => h9) rfl dX12_laysWord_27 ?_
        refine lv_iload_n hx hb dX12_laysWord_30 rfl (lv_at hl 3 rfl) ?_
        refine lv_iload_n hx hb dX12_laysWord_31 rfl (lv_at hl 2 rfl) ?_
        obtain ⟨h_2, hf⟩ := gd hf
        refine va_iast hx hb hK.1 hP hD hS 1 1 rfl rfl h_2 dX12_laysWord_32 (fun H locs hP hD hS => ?_)
        have hP : va_P D.1 vwCl [(a0, .inr (9, [.ref a0_all, .ref a0_tape, .ref a0_isImage, .int v0_taped, .int v0_faultKind, .int v0_faultPlace, .int v0_undos, .ref a0_turnWord, .ref a0_turnFrom, .int v0_turns, .ref a0_pieceSign, .ref a0_pieceFrom, .int v0_pieces, .int v0_signs, .ref a0_runFrom, .ref a0_runLong, .ref a0_runPiece, .int v0_runs, .ref a0_alike, .ref a0_stood])), (a0_all, .inl (D.2 1, 5228, .inl (upd g0_all (p3).toNatClampNeg p2))), (a0_tape, .inl (D.2 1, 400, .inl g0_tape))] H := hP
        have hD : va_D A [(a0, .inr (9, [.ref a0_all, .ref a0_tape, .ref a0_isImage, .int v0_taped, .int v0_faultKind, .int v0_faultPlace, .int v0_undos, .ref a0_turnWord, .ref a0_turnFrom, .int v0_turns, .ref a0_pieceSign, .ref a0_pieceFrom, .int v0_pieces, .int v0_signs, .ref a0_runFrom, .ref a0_runLong, .ref a0_runPiece, .int v0_runs, .ref a0_alike, .ref a0_stood])), (a0_all, .inl (D.2 1, 5228, .inl (upd g0_all (p3).toNatClampNeg p2))), (a0_tape, .inl (D.2 1, 400, .inl g0_tape))] := hD
        refine lv_iconst (v := 0) hx hb dX12_laysWord_33 (by decide) ?_
        refine lv_istore (lv' := [(4, .int (0 : Int32)), (0, .ref a0), (1, .int p1), (2, .int p2), (3, .int p3)]) hx hb dX12_laysWord_34 hl (by decide) rfl (fun ls hl => ?_)
        exact k36 N (0 : Int32) (upd g0_all (p3).toNatClampNeg p2) H locs ls hf hP hD hS (lv_sub hl [1, 2, 3, 4, 0] rfl)
      · replace hf := im c_1 hf
        refine lv_aload_n hx hb dX12_laysWord_10 rfl (lv_at hl 0 rfl) ?_
        refine va_get (D := D.1) (ci := 9) (v := .ref a0_all) (C := RX12) (T := TX12) (N := 20) hx hb hts hwX12 hown hK.1 hP 0 rfl rfl 0 (by decide) l7 (fun _ h9 => h9) rfl dX12_laysWord_11 ?_
        refine lv_iload_n hx hb dX12_laysWord_14 rfl (lv_at hl 3 rfl) ?_
        refine lv_iload hx hb dX12_laysWord_15 (lv_at hl 4 rfl) ?_
        refine lv_iadd hx hb dX12_laysWord_17 ?_
        refine lv_iconst (v := 0) hx hb dX12_laysWord_18 (by decide) ?_
        obtain ⟨h_3, hf⟩ := gd hf
        refine va_iast hx hb hK.1 hP hD hS 1 1 rfl rfl h_3 dX12_laysWord_19 (fun H locs hP hD hS => ?_)
        have hP : va_P D.1 vwCl [(a0, .inr (9, [.ref a0_all, .ref a0_tape, .ref a0_isImage, .int v0_taped, .int v0_faultKind, .int v0_faultPlace, .int v0_undos, .ref a0_turnWord, .ref a0_turnFrom, .int v0_turns, .ref a0_pieceSign, .ref a0_pieceFrom, .int v0_pieces, .int v0_signs, .ref a0_runFrom, .ref a0_runLong, .ref a0_runPiece, .int v0_runs, .ref a0_alike, .ref a0_stood])), (a0_all, .inl (D.2 1, 5228, .inl (upd g0_all ((p3 + x4)).toNatClampNeg (0 : Int32)))), (a0_tape, .inl (D.2 1, 400, .inl g0_tape))] H := hP
        have hD : va_D A [(a0, .inr (9, [.ref a0_all, .ref a0_tape, .ref a0_isImage, .int v0_taped, .int v0_faultKind, .int v0_faultPlace, .int v0_undos, .ref a0_turnWord, .ref a0_turnFrom, .int v0_turns, .ref a0_pieceSign, .ref a0_pieceFrom, .int v0_pieces, .int v0_signs, .ref a0_runFrom, .ref a0_runLong, .ref a0_runPiece, .int v0_runs, .ref a0_alike, .ref a0_stood])), (a0_all, .inl (D.2 1, 5228, .inl (upd g0_all ((p3 + x4)).toNatClampNeg (0 : Int32)))), (a0_tape, .inl (D.2 1, 400, .inl g0_tape))] := hD
        refine lv_iinc (v := (x4 + (1 : Int32))) (lv' := [(4, .int (x4 + (1 : Int32))), (0, .ref a0), (1, .int p1), (2, .int p2), (3, .int p3)]) hx hb dX12_laysWord_20 hl (k := 4) rfl rfl (by decide) rfl (fun ls hl => ?_)
        refine lv_goto (tgt := 3) hx hb dX12_laysWord_23 (by decide) ?_
        exact ih (x4 + (1 : Int32)) (upd g0_all ((p3 + x4)).toNatClampNeg (0 : Int32)) H locs ls hf hP hD hS (lv_sub hl [1, 2, 3, 4, 0] rfl)
  unfold fX12_laysWord at hf
  refine lv_iconst (v := 0) hx hb dX12_laysWord_0 (by decide) ?_
  refine lv_istore (lv' := [(4, .int (0 : Int32)), (0, .ref a0), (1, .int p1), (2, .int p2), (3, .int p3)]) hx hb dX12_laysWord_1 hl (by decide) rfl (fun ls hl => ?_)
  exact k3 N (0 : Int32) g0_all H locs ls hf hP hD hS (lv_sub hl [1, 2, 3, 4, 0] rfl)
def fX12_rowEnds_68 (N : Nat) (g0_tape : Nat → Int32) (p1 : Int32) (p2 : Int32) (v0_faultKind : Int32) (v0_faultPlace : Int32) (g0_all : Nat → Int32) : Option (Int32 × Int32 × (Nat → Int32)) :=
  if v0_faultKind = (0 : Int32) then
    Option.bind (fX12_comes N g0_all (764 : Int32) (1085 : Int32)) fun r12 =>
    some (v0_faultKind, v0_faultPlace, r12)
  else
    some (v0_faultKind, v0_faultPlace, g0_all)
def fX12_rowEnds_49 (N : Nat) (g0_tape : Nat → Int32) (p1 : Int32) (p2 : Int32) (v0_faultKind : Int32) (v0_faultPlace : Int32) (g0_all : Nat → Int32) : Option (Int32 × Int32 × (Nat → Int32)) :=
  if (764 : Int32) < 0 ∨ 5228 ≤ ((764 : Int32)).toNatClampNeg then none else
  if (g0_all ((764 : Int32)).toNatClampNeg) = (40 : Int32) then
    Option.bind (fX12_fails v0_faultKind v0_faultPlace (4 : Int32) p1) fun r10 =>
    fX12_rowEnds_68 N g0_tape p1 p2 r10.1 r10.2 g0_all
  else
    fX12_rowEnds_68 N g0_tape p1 p2 v0_faultKind v0_faultPlace g0_all
def fX12_rowEnds (N : Nat) (v0_faultKind : Int32) (v0_faultPlace : Int32) (g0_all : Nat → Int32) (g0_tape : Nat → Int32) (p1 : Int32) (p2 : Int32) : Option (Int32 × Int32 × (Nat → Int32)) :=
  if p2 = (0 : Int32) then
    some (v0_faultKind, v0_faultPlace, g0_all)
  else
    if p2 ≤ (7 : Int32) then
      Option.bind (fX12_laysWord N g0_all g0_tape p1 p2 (1085 : Int32)) fun r3 =>
      Option.bind (fX12_numberOf N r3 (764 : Int32) (1085 : Int32)) fun r4 =>
      if r4 < (0 : Int32) then
        fX12_rowEnds_49 N g0_tape p1 p2 v0_faultKind v0_faultPlace r3
      else
        Option.bind (fX12_fails v0_faultKind v0_faultPlace (3 : Int32) p1) fun r6 =>
        fX12_rowEnds_49 N g0_tape p1 p2 r6.1 r6.2 r3
    else
      Option.bind (fX12_fails v0_faultKind v0_faultPlace (2 : Int32) (p1 + (7 : Int32))) fun r7 =>
      some (r7.1, r7.2, g0_all)
set_option maxHeartbeats 4000000 in
set_option maxRecDepth 100000 in
theorem mX12_rowEnds (l : Launch) (D : zG) (a0 : Nat) (a0_all : Nat) (a0_tape : Nat) (a0_isImage : Nat) (a0_turnWord : Nat) (a0_turnFrom : Nat) (a0_pieceSign : Nat) (a0_pieceFrom : Nat) (a0_runFrom : Nat) (a0_runLong : Nat) (a0_runPiece : Nat) (a0_alike : Nat) (a0_stood : Nat) (sz : Nat)  (v0_taped : Int32) (v0_faultKind : Int32) (v0_faultPlace : Int32) (v0_undos : Int32) (v0_turns : Int32) (v0_pieces : Int32) (v0_signs : Int32) (v0_runs : Int32) (g0_all : Nat → Int32) (g0_tape : Nat → Int32) (p1 : Int32) (p2 : Int32) (N : Nat) (res : Int32 × Int32 × (Nat → Int32)) (hf : fX12_rowEnds N v0_faultKind v0_faultPlace g0_all g0_tape p1 p2 = some res) : Met l yX12_rowEnds wsX12_rowEnds ({ frames := 2, cells := 0, slots := 0, locals := 48 } : Room) (va_Pc [.ref a0, .int p1, .int p2] (zW D sz [(a0, .inr (9, [.ref a0_all, .ref a0_tape, .ref a0_isImage, .int v0_taped, .int v0_faultKind, .int v0_faultPlace, .int v0_undos, .ref a0_turnWord, .ref a0_turnFrom, .int v0_turns, .ref a0_pieceSign, .ref a0_pieceFrom, .int v0_pieces, .int v0_signs, .ref a0_runFrom, .ref a0_runLong, .ref a0_runPiece, .int v0_runs, .ref a0_alike, .ref a0_stood])), (a0_all, .inl (D.2 1, 5228, .inl g0_all)), (a0_tape, .inl (D.2 1, 400, .inl g0_tape))])) (va_Qv (fun (_ : Unit) => True) (fun _ => zB D (va_A [(a0, .inr (9, [.ref a0_all, .ref a0_tape, .ref a0_isImage, .int v0_taped, .int v0_faultKind, .int v0_faultPlace, .int v0_undos, .ref a0_turnWord, .ref a0_turnFrom, .int v0_turns, .ref a0_pieceSign, .ref a0_pieceFrom, .int v0_pieces, .int v0_signs, .ref a0_runFrom, .ref a0_runLong, .ref a0_runPiece, .int v0_runs, .ref a0_alike, .ref a0_stood])), (a0_all, .inl (D.2 1, 5228, .inl g0_all)), (a0_tape, .inl (D.2 1, 400, .inl g0_tape))] sz) [(a0, .inr (9, [.ref a0_all, .ref a0_tape, .ref a0_isImage, .int v0_taped, .int res.1, .int res.2.1, .int v0_undos, .ref a0_turnWord, .ref a0_turnFrom, .int v0_turns, .ref a0_pieceSign, .ref a0_pieceFrom, .int v0_pieces, .int v0_signs, .ref a0_runFrom, .ref a0_runLong, .ref a0_runPiece, .int v0_runs, .ref a0_alike, .ref a0_stood])), (a0_all, .inl (D.2 1, 5228, .inl res.2.2)), (a0_tape, .inl (D.2 1, 400, .inl g0_tape))]) (va_A [(a0, .inr (9, [.ref a0_all, .ref a0_tape, .ref a0_isImage, .int v0_taped, .int v0_faultKind, .int v0_faultPlace, .int v0_undos, .ref a0_turnWord, .ref a0_turnFrom, .int v0_turns, .ref a0_pieceSign, .ref a0_pieceFrom, .int v0_pieces, .int v0_signs, .ref a0_runFrom, .ref a0_runLong, .ref a0_runPiece, .int v0_runs, .ref a0_alike, .ref a0_stood])), (a0_all, .inl (D.2 1, 5228, .inl g0_all)), (a0_tape, .inl (D.2 1, 400, .inl g0_tape))] sz)) 0 0 (va_A [(a0, .inr (9, [.ref a0_all, .ref a0_tape, .ref a0_isImage, .int v0_taped, .int v0_faultKind, .int v0_faultPlace, .int v0_undos, .ref a0_turnWord, .ref a0_turnFrom, .int v0_turns, .ref a0_pieceSign, .ref a0_pieceFrom, .int v0_pieces, .int v0_signs, .ref a0_runFrom, .ref a0_runLong, .ref a0_runPiece, .int v0_runs, .ref a0_alike, .ref a0_stood])), (a0_all, .inl (D.2 1, 5228, .inl g0_all)), (a0_tape, .inl (D.2 1, 400, .inl g0_tape))] sz) := by
  refine Met.ofW (cc := cX12_rowEnds) (maxL := 3) (ret := none) (by decide) rfl ?_
  intro p e s m args below meth c s₁ B hml hv
  obtain ⟨rfl, hsz, hP, hK, hD0⟩ := hv
  have hx := B.exec
  have hb := B.bytes
  have hr := B.returns
  have hts := atoms_spec (ws := wsX12_rowEnds) B.pre
  have hown : s.vm.findClass RX12 = some m.cls := findClass_of_methodNamed B.named
  have hlocks := B.notSynchronized
  subst hsz
  have hD := hD0.self (sz := s.heap.size)
  generalize hAe : va_A [(a0, .inr (9, [.ref a0_all, .ref a0_tape, .ref a0_isImage, .int v0_taped, .int v0_faultKind, .int v0_faultPlace, .int v0_undos, .ref a0_turnWord, .ref a0_turnFrom, .int v0_turns, .ref a0_pieceSign, .ref a0_pieceFrom, .int v0_pieces, .int v0_signs, .ref a0_runFrom, .ref a0_runLong, .ref a0_runPiece, .int v0_runs, .ref a0_alike, .ref a0_stood])), (a0_all, .inl (D.2 1, 5228, .inl g0_all)), (a0_tape, .inl (D.2 1, 400, .inl g0_tape))] s.heap.size = A at hD ⊢
  have hA : ∀ q : Nat, s.heap.size ≤ q → A q := fun q h => by rw [← hAe]; exact Or.inr h
  have l7 := zat hts 1 (w := .fieldLink RX12 7 "TurnedWordsModel" "all" "[I") rfl
  have l201 := zat hts 2 (w := .fieldLink RX12 201 "TurnedWordsModel" "faultKind" "I") rfl
  have hwX12 : ∀ w ∈ u_ws RX12 TX12 20, w ∈ wsX12_rowEnds := fun w h => List.mem_cons_of_mem _ (List.mem_append_right _ h)
  have hl := lv_entry ([.ref a0, .int p1, .int p2]) (n := 3) (Nat.le_of_ble_eq_true rfl)
  rw [lg_entry_eq]
  generalize (lg_sl ([.ref a0, .int p1, .int p2]) ++ List.replicate (3 - (lg_sl ([.ref a0, .int p1, .int p2])).length) Slot.unset).toArray = ls at hl ⊢
  have hl : lv_has ls 3 [(0, .ref a0), (1, .int p1), (2, .int p2)] := hl
  refine zStart (A := A) hP (fun Q0 H locs hQ hP hS => ?_)
  have k68 : ∀ (v0_faultKind : Int32) (v0_faultPlace : Int32) (g0_all : Nat → Int32) (H : Heap) (locs : List Loc) (ls : Array Slot), fX12_rowEnds_68 N g0_tape p1 p2 v0_faultKind v0_faultPlace g0_all = some res → va_P D.1 vwCl [(a0, .inr (9, [.ref a0_all, .ref a0_tape, .ref a0_isImage, .int v0_taped, .int v0_faultKind, .int v0_faultPlace, .int v0_undos, .ref a0_turnWord, .ref a0_turnFrom, .int v0_turns, .ref a0_pieceSign, .ref a0_pieceFrom, .int v0_pieces, .int v0_signs, .ref a0_runFrom, .ref a0_runLong, .ref a0_runPiece, .int v0_runs, .ref a0_alike, .ref a0_stood])), (a0_all, .inl (D.2 1, 5228, .inl g0_all)), (a0_tape, .inl (D.2 1, 400, .inl g0_tape))] H → va_D A [(a0, .inr (9, [.ref a0_all, .ref a0_tape, .ref a0_isImage, .int v0_taped, .int v0_faultKind, .int v0_faultPlace, .int v0_undos, .ref a0_turnWord, .ref a0_turnFrom, .int v0_turns, .ref a0_pieceSign, .ref a0_pieceFrom, .int v0_pieces, .int v0_signs, .ref a0_runFrom, .ref a0_runLong, .ref a0_runPiece, .int v0_runs, .ref a0_alike, .ref a0_stood])), (a0_all, .inl (D.2 1, 5228, .inl g0_all)), (a0_tape, .inl (D.2 1, 400, .inl g0_tape))] → va_S A s.heap H locs → lv_has ls 3 [(0, .ref a0)] → W p l e (headSpec wsX12_rowEnds ({ frames := 2, cells := 0, slots := 0, locals := 48 } : Room)).room s m ([.ref a0, .int p1, .int p2] : List Value).toArray below meth c H locs 0 0 Q0 (F0 m 68 ls []) := by
    intro v0_faultKind v0_faultPlace g0_all H locs ls hf hP hD hS hl
    unfold fX12_rowEnds_68 at hf
    refine lv_aload_n hx hb dX12_rowEnds_68 rfl (lv_at hl 0 rfl) ?_
    refine va_get (D := D.1) (ci := 9) (v := .int v0_faultKind) (C := RX12) (T := TX12) (N := 20) hx hb hts hwX12 hown hK.1 hP 0 rfl rfl 4 (by decide) l201 (fun _ h9 => h9) rfl dX12_rowEnds_69 ?_
    refine lv_if_ne (tgt := 85) hx hb dX12_rowEnds_72 (by decide) (fun c_11 => ?_) (fun c_11 => ?_)
    · replace hf := im c_11 hf
      have he := Option.some.inj hf
      rw [hQ]
      exact W.vret hx hb hr (fun t ht hW => by rw [← he]; exact ⟨⟨(), rfl, trivial, by rw [ht]; exact hP, hD⟩, hS.F ht⟩) hS.2.2 dX12_rowEnds_85
    · replace hf := ip c_11 hf
      refine lv_aload_n hx hb dX12_rowEnds_75 rfl (lv_at hl 0 rfl) ?_
      refine lv_sipush (v := 764) hx hb dX12_rowEnds_76 (by decide) ?_
      refine lv_sipush (v := 1085) hx hb dX12_rowEnds_79 (by decide) ?_
      obtain ⟨r12, hr12, hf⟩ := bd hf
      refine zVv (As := [.int (764 : Int32), .int (1085 : Int32)]) (rest := []) (ci := 9) (q0 := 0) (wn := [(a0, .inr (9, [.ref a0_all, .ref a0_tape, .ref a0_isImage, .int v0_taped, .int v0_faultKind, .int v0_faultPlace, .int v0_undos, .ref a0_turnWord, .ref a0_turnFrom, .int v0_turns, .ref a0_pieceSign, .ref a0_pieceFrom, .int v0_pieces, .int v0_signs, .ref a0_runFrom, .ref a0_runLong, .ref a0_runPiece, .int v0_runs, .ref a0_alike, .ref a0_stood])), (a0_all, .inl (D.2 1, 5228, .inl r12)), (a0_tape, .inl (D.2 1, 400, .inl g0_tape))]) ⟨hx, hb, hml, hown, hts⟩ (mX12_comes l D a0 a0_all a0_tape a0_isImage a0_turnWord a0_turnFrom a0_pieceSign a0_pieceFrom a0_runFrom a0_runLong a0_runPiece a0_alike a0_stood H.size v0_taped v0_faultKind v0_faultPlace v0_undos v0_turns v0_pieces v0_signs v0_runs g0_all (764 : Int32) (1085 : Int32) N r12 hr12) (cwV 2 hts gX12_rowEnds_X12_comes rfl rfl rfl (by decide +kernel) ⟨Nat.le_of_ble_eq_true rfl, Nat.le_of_ble_eq_true rfl⟩) hK hP hD hS hA [0, 1] [2] [1, 2, 0] rfl (by decide) rfl (by decide) (by decide) rfl (by decide) rfl rfl rfl hl.1 rfl (Nat.le_of_ble_eq_true rfl) dX12_rowEnds_82 ⟨Nat.zero_le _, Nat.zero_le _⟩ (fun H locs hP hD hS => ?_)
      have he := Option.some.inj hf
      rw [hQ]
      exact W.vret hx hb hr (fun t ht hW => by rw [← he]; exact ⟨⟨(), rfl, trivial, by rw [ht]; exact hP, hD⟩, hS.F ht⟩) hS.2.2 dX12_rowEnds_85
  have k49 : ∀ (v0_faultKind : Int32) (v0_faultPlace : Int32) (g0_all : Nat → Int32) (H : Heap) (locs : List Loc) (ls : Array Slot), fX12_rowEnds_49 N g0_tape p1 p2 v0_faultKind v0_faultPlace g0_all = some res → va_P D.1 vwCl [(a0, .inr (9, [.ref a0_all, .ref a0_tape, .ref a0_isImage, .int v0_taped, .int v0_faultKind, .int v0_faultPlace, .int v0_undos, .ref a0_turnWord, .ref a0_turnFrom, .int v0_turns, .ref a0_pieceSign, .ref a0_pieceFrom, .int v0_pieces, .int v0_signs, .ref a0_runFrom, .ref a0_runLong, .ref a0_runPiece, .int v0_runs, .ref a0_alike, .ref a0_stood])), (a0_all, .inl (D.2 1, 5228, .inl g0_all)), (a0_tape, .inl (D.2 1, 400, .inl g0_tape))] H → va_D A [(a0, .inr (9, [.ref a0_all, .ref a0_tape, .ref a0_isImage, .int v0_taped, .int v0_faultKind, .int v0_faultPlace, .int v0_undos, .ref a0_turnWord, .ref a0_turnFrom, .int v0_turns, .ref a0_pieceSign, .ref a0_pieceFrom, .int v0_pieces, .int v0_signs, .ref a0_runFrom, .ref a0_runLong, .ref a0_runPiece, .int v0_runs, .ref a0_alike, .ref a0_stood])), (a0_all, .inl (D.2 1, 5228, .inl g0_all)), (a0_tape, .inl (D.2 1, 400, .inl g0_tape))] → va_S A s.heap H locs → lv_has ls 3 [(0, .ref a0), (1, .int p1)] → W p l e (headSpec wsX12_rowEnds ({ frames := 2, cells := 0, slots := 0, locals := 48 } : Room)).room s m ([.ref a0, .int p1, .int p2] : List Value).toArray below meth c H locs 0 0 Q0 (F0 m 49 ls []) := by
    intro v0_faultKind v0_faultPlace g0_all H locs ls hf hP hD hS hl
    unfold fX12_rowEnds_49 at hf
    refine lv_aload_n hx hb dX12_rowEnds_49 rfl (lv_at hl 0 rfl) ?_
    refine va_get (D := D.1) (ci := 9) (v := .ref a0_all) (C := RX12) (T := TX12) (N := 20) hx hb hts hwX12 hown hK.1 hP 0 rfl rfl 0 (by decide) l7 (fun _ h9 => h9) rfl dX12_rowEnds_50 ?_
    refine lv_sipush (v := 764) hx hb dX12_rowEnds_53 (by decide) ?_
    obtain ⟨h_8, hf⟩ := gd hf
    refine va_iald hx hb hK.1 hP 1 1 rfl rfl h_8 dX12_rowEnds_56 ?_
    refine lv_bipush (v := 40) hx hb dX12_rowEnds_57 (by decide) ?_
    refine lv_icmp_ne (tgt := 68) hx hb dX12_rowEnds_59 (by decide) (fun c_9 => ?_) (fun c_9 => ?_)
    · replace hf := im c_9 hf
      exact k68 v0_faultKind v0_faultPlace g0_all H locs ls hf hP hD hS (lv_sub hl [0] rfl)
    · replace hf := ip c_9 hf
      refine lv_aload_n hx hb dX12_rowEnds_62 rfl (lv_at hl 0 rfl) ?_
      refine lv_iconst (v := 4) hx hb dX12_rowEnds_63 (by decide) ?_
      refine lv_iload_n hx hb dX12_rowEnds_64 rfl (lv_at hl 1 rfl) ?_
      obtain ⟨r10, hr10, hf⟩ := bd hf
      refine zVv (As := [.int (4 : Int32), .int p1]) (rest := []) (ci := 9) (q0 := 0) (wn := [(a0, .inr (9, [.ref a0_all, .ref a0_tape, .ref a0_isImage, .int v0_taped, .int r10.1, .int r10.2, .int v0_undos, .ref a0_turnWord, .ref a0_turnFrom, .int v0_turns, .ref a0_pieceSign, .ref a0_pieceFrom, .int v0_pieces, .int v0_signs, .ref a0_runFrom, .ref a0_runLong, .ref a0_runPiece, .int v0_runs, .ref a0_alike, .ref a0_stood])), (a0_all, .inl (D.2 1, 5228, .inl g0_all)), (a0_tape, .inl (D.2 1, 400, .inl g0_tape))]) ⟨hx, hb, hml, hown, hts⟩ (mX12_fails l D a0 a0_all a0_tape a0_isImage a0_turnWord a0_turnFrom a0_pieceSign a0_pieceFrom a0_runFrom a0_runLong a0_runPiece a0_alike a0_stood H.size v0_taped v0_faultKind v0_faultPlace v0_undos v0_turns v0_pieces v0_signs v0_runs (4 : Int32) p1 r10 hr10) (cwV 2 hts gX12_rowEnds_X12_fails rfl rfl rfl (by decide +kernel) ⟨Nat.le_of_ble_eq_true rfl, Nat.le_of_ble_eq_true rfl⟩) hK hP hD hS hA [0] [1, 2] [2, 0, 1] rfl (by decide) rfl (by decide) (by decide) rfl (by decide) rfl rfl rfl hl.1 rfl (Nat.le_of_ble_eq_true rfl) dX12_rowEnds_65 ⟨Nat.zero_le _, Nat.zero_le _⟩ (fun H locs hP hD hS => ?_)
      exact k68 r10.1 r10.2 g0_all H locs ls hf hP hD hS (lv_sub hl [0] rfl)
  unfold fX12_rowEnds at hf
  refine lv_iload_n hx hb dX12_rowEnds_0 rfl (lv_at hl 2 rfl) ?_
  refine lv_if_ne (tgt := 5) hx hb dX12_rowEnds_1 (by decide) (fun c_1 => ?_) (fun c_1 => ?_)
  · replace hf := im c_1 hf
    refine lv_iload_n hx hb dX12_rowEnds_5 rfl (lv_at hl 2 rfl) ?_
    refine lv_bipush (v := 7) hx hb dX12_rowEnds_6 (by decide) ?_
    refine lv_icmp_le (tgt := 21) hx hb dX12_rowEnds_8 (by decide) (fun c_2 => ?_) (fun c_2 => ?_)
    · replace hf := ip c_2 hf
      refine lv_aload_n hx hb dX12_rowEnds_21 rfl (lv_at hl 0 rfl) ?_
      refine lv_iload_n hx hb dX12_rowEnds_22 rfl (lv_at hl 1 rfl) ?_
      refine lv_iload_n hx hb dX12_rowEnds_23 rfl (lv_at hl 2 rfl) ?_
      refine lv_sipush (v := 1085) hx hb dX12_rowEnds_24 (by decide) ?_
      obtain ⟨r3, hr3, hf⟩ := bd hf
      refine zVv (As := [.int p1, .int p2, .int (1085 : Int32)]) (rest := []) (ci := 9) (q0 := 0) (wn := [(a0, .inr (9, [.ref a0_all, .ref a0_tape, .ref a0_isImage, .int v0_taped, .int v0_faultKind, .int v0_faultPlace, .int v0_undos, .ref a0_turnWord, .ref a0_turnFrom, .int v0_turns, .ref a0_pieceSign, .ref a0_pieceFrom, .int v0_pieces, .int v0_signs, .ref a0_runFrom, .ref a0_runLong, .ref a0_runPiece, .int v0_runs, .ref a0_alike, .ref a0_stood])), (a0_all, .inl (D.2 1, 5228, .inl r3)), (a0_tape, .inl (D.2 1, 400, .inl g0_tape))]) ⟨hx, hb, hml, hown, hts⟩ (mX12_laysWord l D a0 a0_all a0_tape a0_isImage a0_turnWord a0_turnFrom a0_pieceSign a0_pieceFrom a0_runFrom a0_runLong a0_runPiece a0_alike a0_stood H.size v0_taped v0_faultKind v0_faultPlace v0_undos v0_turns v0_pieces v0_signs v0_runs g0_all g0_tape p1 p2 (1085 : Int32) N r3 hr3) (cwV 3 hts gX12_rowEnds_X12_laysWord rfl rfl rfl (by decide +kernel) ⟨Nat.le_of_ble_eq_true rfl, Nat.le_of_ble_eq_true rfl⟩) hK hP hD hS hA [0, 1, 2] [] [0, 1, 2] rfl (by decide) rfl (by decide) (by decide) rfl (by decide) rfl rfl rfl hl.1 rfl (Nat.le_of_ble_eq_true rfl) dX12_rowEnds_27 ⟨Nat.zero_le _, Nat.zero_le _⟩ (fun H locs hP hD hS => ?_)
      refine lv_aload_n hx hb dX12_rowEnds_30 rfl (lv_at hl 0 rfl) ?_
      refine lv_sipush (v := 764) hx hb dX12_rowEnds_31 (by decide) ?_
      refine lv_sipush (v := 1085) hx hb dX12_rowEnds_34 (by decide) ?_
      obtain ⟨r4, hr4, hf⟩ := bd hf
      refine zVi (As := [.int (764 : Int32), .int (1085 : Int32)]) (rest := []) (ci := 9) (q0 := 0) (wn := [(a0, .inr (9, [.ref a0_all, .ref a0_tape, .ref a0_isImage, .int v0_taped, .int v0_faultKind, .int v0_faultPlace, .int v0_undos, .ref a0_turnWord, .ref a0_turnFrom, .int v0_turns, .ref a0_pieceSign, .ref a0_pieceFrom, .int v0_pieces, .int v0_signs, .ref a0_runFrom, .ref a0_runLong, .ref a0_runPiece, .int v0_runs, .ref a0_alike, .ref a0_stood])), (a0_all, .inl (D.2 1, 5228, .inl r3)), (a0_tape, .inl (D.2 1, 400, .inl g0_tape))]) ⟨hx, hb, hml, hown, hts⟩ (mX12_numberOf l D a0 a0_all a0_tape a0_isImage a0_turnWord a0_turnFrom a0_pieceSign a0_pieceFrom a0_runFrom a0_runLong a0_runPiece a0_alike a0_stood H.size v0_taped v0_faultKind v0_faultPlace v0_undos v0_turns v0_pieces v0_signs v0_runs r3 (764 : Int32) (1085 : Int32) N r4 hr4) (cwV 2 hts gX12_rowEnds_X12_numberOf rfl rfl rfl (by decide +kernel) ⟨Nat.le_of_ble_eq_true rfl, Nat.le_of_ble_eq_true rfl⟩) hK hP hD hS hA [0, 1] [2] [1, 2, 0] rfl (by decide) rfl (by decide) (by decide) rfl (by decide) rfl rfl rfl hl.1 rfl (Nat.le_of_ble_eq_true rfl) dX12_rowEnds_37 ⟨Nat.zero_le _, Nat.zero_le _⟩ (fun H locs hP hD hS => ?_)
      refine lv_if_lt (tgt := 49) hx hb dX12_rowEnds_40 (by decide) (fun c_5 => ?_) (fun c_5 => ?_)
      · replace hf := ip c_5 hf
        exact k49 v0_faultKind v0_faultPlace r3 H locs ls hf hP hD hS (lv_sub hl [0, 1] rfl)
      · replace hf := im c_5 hf
        refine lv_aload_n hx hb dX12_rowEnds_43 rfl (lv_at hl 0 rfl) ?_
        refine lv_iconst (v := 3) hx hb dX12_rowEnds_44 (by decide) ?_
        refine lv_iload_n hx hb dX12_rowEnds_45 rfl (lv_at hl 1 rfl) ?_
        obtain ⟨r6, hr6, hf⟩ := bd hf
        refine zVv (As := [.int (3 : Int32), .int p1]) (rest := []) (ci := 9) (q0 := 0) (wn := [(a0, .inr (9, [.ref a0_all, .ref a0_tape, .ref a0_isImage, .int v0_taped, .int r6.1, .int r6.2, .int v0_undos, .ref a0_turnWord, .ref a0_turnFrom, .int v0_turns, .ref a0_pieceSign, .ref a0_pieceFrom, .int v0_pieces, .int v0_signs, .ref a0_runFrom, .ref a0_runLong, .ref a0_runPiece, .int v0_runs, .ref a0_alike, .ref a0_stood])), (a0_all, .inl (D.2 1, 5228, .inl r3)), (a0_tape, .inl (D.2 1, 400, .inl g0_tape))]) ⟨hx, hb, hml, hown, hts⟩ (mX12_fails l D a0 a0_all a0_tape a0_isImage a0_turnWord a0_turnFrom a0_pieceSign a0_pieceFrom a0_runFrom a0_runLong a0_runPiece a0_alike a0_stood H.size v0_taped v0_faultKind v0_faultPlace v0_undos v0_turns v0_pieces v0_signs v0_runs (3 : Int32) p1 r6 hr6) (cwV 2 hts gX12_rowEnds_X12_fails rfl rfl rfl (by decide +kernel) ⟨Nat.le_of_ble_eq_true rfl, Nat.le_of_ble_eq_true rfl⟩) hK hP hD hS hA [0] [1, 2] [2, 0, 1] rfl (by decide) rfl (by decide) (by decide) rfl (by decide) rfl rfl rfl hl.1 rfl (Nat.le_of_ble_eq_true rfl) dX12_rowEnds_46 ⟨Nat.zero_le _, Nat.zero_le _⟩ (fun H locs hP hD hS => ?_)
        exact k49 r6.1 r6.2 r3 H locs ls hf hP hD hS (lv_sub hl [0, 1] rfl)
    · replace hf := im c_2 hf
      refine lv_aload_n hx hb dX12_rowEnds_11 rfl (lv_at hl 0 rfl) ?_
      refine lv_iconst (v := 2) hx hb dX12_rowEnds_12 (by decide) ?_
      refine lv_iload_n hx hb dX12_rowEnds_13 rfl (lv_at hl 1 rfl) ?_
      refine lv_bipush (v := 7) hx hb dX12_rowEnds_14 (by decide) ?_
      refine lv_iadd hx hb dX12_rowEnds_16 ?_
      obtain ⟨r7, hr7, hf⟩ := bd hf
      refine zVv (As := [.int (2 : Int32), .int (p1 + (7 : Int32))]) (rest := []) (ci := 9) (q0 := 0) (wn := [(a0, .inr (9, [.ref a0_all, .ref a0_tape, .ref a0_isImage, .int v0_taped, .int r7.1, .int r7.2, .int v0_undos, .ref a0_turnWord, .ref a0_turnFrom, .int v0_turns, .ref a0_pieceSign, .ref a0_pieceFrom, .int v0_pieces, .int v0_signs, .ref a0_runFrom, .ref a0_runLong, .ref a0_runPiece, .int v0_runs, .ref a0_alike, .ref a0_stood])), (a0_all, .inl (D.2 1, 5228, .inl g0_all)), (a0_tape, .inl (D.2 1, 400, .inl g0_tape))]) ⟨hx, hb, hml, hown, hts⟩ (mX12_fails l D a0 a0_all a0_tape a0_isImage a0_turnWord a0_turnFrom a0_pieceSign a0_pieceFrom a0_runFrom a0_runLong a0_runPiece a0_alike a0_stood H.size v0_taped v0_faultKind v0_faultPlace v0_undos v0_turns v0_pieces v0_signs v0_runs (2 : Int32) (p1 + (7 : Int32)) r7 hr7) (cwV 2 hts gX12_rowEnds_X12_fails rfl rfl rfl (by decide +kernel) ⟨Nat.le_of_ble_eq_true rfl, Nat.le_of_ble_eq_true rfl⟩) hK hP hD hS hA [0] [1, 2] [2, 0, 1] rfl (by decide) rfl (by decide) (by decide) rfl (by decide) rfl rfl rfl hl.1 rfl (Nat.le_of_ble_eq_true rfl) dX12_rowEnds_17 ⟨Nat.zero_le _, Nat.zero_le _⟩ (fun H locs hP hD hS => ?_)
      have he := Option.some.inj hf
      rw [hQ]
      exact W.vret hx hb hr (fun t ht hW => by rw [← he]; exact ⟨⟨(), rfl, trivial, by rw [ht]; exact hP, hD⟩, hS.F ht⟩) hS.2.2 dX12_rowEnds_20
  · replace hf := ip c_1 hf
    have he := Option.some.inj hf
    rw [hQ]
    exact W.vret hx hb hr (fun t ht hW => by rw [← he]; exact ⟨⟨(), rfl, trivial, by rw [ht]; exact hP, hD⟩, hS.F ht⟩) hS.2.2 dX12_rowEnds_4
