def fX12_cancel (g0_all : Nat → Int32) : Option (Int32 × (Nat → Int32)) :=
  if (321 : Int32) < 0 ∨ 5228 ≤ ((321 : Int32)).toNatClampNeg then none else
  if (321 : Int32) < 0 ∨ 5228 ≤ ((321 : Int32)).toNatClampNeg then none else
  some ((g0_all ((321 : Int32)).toNatClampNeg), (upd g0_all ((321 : Int32)).toNatClampNeg (0 : Int32)))
set_option maxHeartbeats 4000000 in
set_option maxRecDepth 100000 in
theorem mX12_cancel (l : Launch) (D : zG) (a0 : Nat) (a0_all : Nat) (a0_tape : Nat) (a0_isImage : Nat) (a0_turnWord : Nat) (a0_turnFrom : Nat) (a0_pieceSign : Nat) (a0_pieceFrom : Nat) (a0_runFrom : Nat) (a0_runLong : Nat) (a0_runPiece : Nat) (a0_alike : Nat) (a0_stood : Nat) (sz : Nat)  (v0_taped : Int32) (v0_faultKind : Int32) (v0_faultPlace : Int32) (v0_undos : Int32) (v0_turns : Int32) (v0_pieces : Int32) (v0_signs : Int32) (v0_runs : Int32) (g0_all : Nat → Int32)  (res : Int32 × (Nat → Int32)) (hf : fX12_cancel g0_all = some res) : Met l yX12_cancel wsX12_cancel ({ frames := 0, cells := 0, slots := 0, locals := 0 } : Room) (va_Pc [.ref a0] (zW D sz [(a0, .inr (9, [.ref a0_all, .ref a0_tape, .ref a0_isImage, .int v0_taped, .int v0_faultKind, .int v0_faultPlace, .int v0_undos, .ref a0_turnWord, .ref a0_turnFrom, .int v0_turns, .ref a0_pieceSign, .ref a0_pieceFrom, .int v0_pieces, .int v0_signs, .ref a0_runFrom, .ref a0_runLong, .ref a0_runPiece, .int v0_runs, .ref a0_alike, .ref a0_stood])), (a0_all, .inl (D.2 1, 5228, .inl g0_all))])) (va_Qi (fun r (_ : Unit) => r = res.1) (fun _ => zB D (va_A [(a0, .inr (9, [.ref a0_all, .ref a0_tape, .ref a0_isImage, .int v0_taped, .int v0_faultKind, .int v0_faultPlace, .int v0_undos, .ref a0_turnWord, .ref a0_turnFrom, .int v0_turns, .ref a0_pieceSign, .ref a0_pieceFrom, .int v0_pieces, .int v0_signs, .ref a0_runFrom, .ref a0_runLong, .ref a0_runPiece, .int v0_runs, .ref a0_alike, .ref a0_stood])), (a0_all, .inl (D.2 1, 5228, .inl g0_all))] sz) [(a0, .inr (9, [.ref a0_all, .ref a0_tape, .ref a0_isImage, .int v0_taped, .int v0_faultKind, .int v0_faultPlace, .int v0_undos, .ref a0_turnWord, .ref a0_turnFrom, .int v0_turns, .ref a0_pieceSign, .ref a0_pieceFrom, .int v0_pieces, .int v0_signs, .ref a0_runFrom, .ref a0_runLong, .ref a0_runPiece, .int v0_runs, .ref a0_alike, .ref a0_stood])), (a0_all, .inl (D.2 1, 5228, .inl res.2))]) (va_A [(a0, .inr (9, [.ref a0_all, .ref a0_tape, .ref a0_isImage, .int v0_taped, .int v0_faultKind, .int v0_faultPlace, .int v0_undos, .ref a0_turnWord, .ref a0_turnFrom, .int v0_turns, .ref a0_pieceSign, .ref a0_pieceFrom, .int v0_pieces, .int v0_signs, .ref a0_runFrom, .ref a0_runLong, .ref a0_runPiece, .int v0_runs, .ref a0_alike, .ref a0_stood])), (a0_all, .inl (D.2 1, 5228, .inl g0_all))] sz)) 0 0 (va_A [(a0, .inr (9, [.ref a0_all, .ref a0_tape, .ref a0_isImage, .int v0_taped, .int v0_faultKind, .int v0_faultPlace, .int v0_undos, .ref a0_turnWord, .ref a0_turnFrom, .int v0_turns, .ref a0_pieceSign, .ref a0_pieceFrom, .int v0_pieces, .int v0_signs, .ref a0_runFrom, .ref a0_runLong, .ref a0_runPiece, .int v0_runs, .ref a0_alike, .ref a0_stood])), (a0_all, .inl (D.2 1, 5228, .inl g0_all))] sz) := by
  refine Met.ofW (cc := cX12_cancel) (maxL := 2) (ret := (some .int)) (by decide) rfl ?_
  intro p e s m args below meth c s₁ B hml hv
  obtain ⟨rfl, hsz, hP, hK, hD0⟩ := hv
  have hx := B.exec
  have hb := B.bytes
  have hr := B.returns
  have hts := atoms_spec (ws := wsX12_cancel) B.pre
  have hown : s.vm.findClass RX12 = some m.cls := findClass_of_methodNamed B.named
  have hlocks := B.notSynchronized
  subst hsz
  have hD := hD0.self (sz := s.heap.size)
  generalize hAe : va_A [(a0, .inr (9, [.ref a0_all, .ref a0_tape, .ref a0_isImage, .int v0_taped, .int v0_faultKind, .int v0_faultPlace, .int v0_undos, .ref a0_turnWord, .ref a0_turnFrom, .int v0_turns, .ref a0_pieceSign, .ref a0_pieceFrom, .int v0_pieces, .int v0_signs, .ref a0_runFrom, .ref a0_runLong, .ref a0_runPiece, .int v0_runs, .ref a0_alike, .ref a0_stood])), (a0_all, .inl (D.2 1, 5228, .inl g0_all))] s.heap.size = A at hD ⊢
  have hA : ∀ q : Nat, s.heap.size ≤ q → A q := fun q h => by rw [← hAe]; exact Or.inr h
  have l7 := zat hts 1 (w := .fieldLink RX12 7 "TurnedWordsModel" "all" "[I") rfl
  have hwX12 : ∀ w ∈ u_ws RX12 TX12 20, w ∈ wsX12_cancel := fun w h => List.mem_cons_of_mem _ (List.mem_append_right _ h)
  have hl := lv_entry ([.ref a0]) (n := 2) (Nat.le_of_ble_eq_true rfl)
  rw [lg_entry_eq]
  generalize (lg_sl ([.ref a0]) ++ List.replicate (2 - (lg_sl ([.ref a0])).length) Slot.unset).toArray = ls at hl ⊢
  have hl : lv_has ls 2 [(0, .ref a0)] := hl
  refine zStart (A := A) hP (fun Q0 H locs hQ hP hS => ?_)
  unfold fX12_cancel at hf
  refine lv_aload_n hx hb dX12_cancel_0 rfl (lv_at hl 0 rfl) ?_
  refine va_get (D := D.1) (ci := 9) (v := .ref a0_all) (C := RX12) (T := TX12) (N := 20) hx hb hts hwX12 hown hK.1 hP 0 rfl rfl 0 (by decide) l7 (fun _ h9 => h9) rfl dX12_cancel_1 ?_
  refine lv_sipush (v := 321) hx hb dX12_cancel_4 (by decide) ?_
  obtain ⟨h_1, hf⟩ := gd hf
  refine va_iald hx hb hK.1 hP 1 1 rfl rfl h_1 dX12_cancel_7 ?_
  refine lv_istore_n (lv' := [(1, .int (g0_all ((321 : Int32)).toNatClampNeg)), (0, .ref a0)]) hx hb dX12_cancel_8 rfl hl (by decide) rfl (fun ls hl => ?_)
  refine lv_aload_n hx hb dX12_cancel_9 rfl (lv_at hl 1 rfl) ?_
  refine va_get (D := D.1) (ci := 9) (v := .ref a0_all) (C := RX12) (T := TX12) (N := 20) hx hb hts hwX12 hown hK.1 hP 0 rfl rfl 0 (by decide) l7 (fun _ h9 => h9) rfl dX12_cancel_10 ?_
  refine lv_sipush (v := 321) hx hb dX12_cancel_13 (by decide) ?_
  refine lv_iconst (v := 0) hx hb dX12_cancel_16 (by decide) ?_
  obtain ⟨h_2, hf⟩ := gd hf
  refine va_iast hx hb hK.1 hP hD hS 1 1 rfl rfl h_2 dX12_cancel_17 (fun H locs hP hD hS => ?_)
  have hP : va_P D.1 vwCl [(a0, .inr (9, [.ref a0_all, .ref a0_tape, .ref a0_isImage, .int v0_taped, .int v0_faultKind, .int v0_faultPlace, .int v0_undos, .ref a0_turnWord, .ref a0_turnFrom, .int v0_turns, .ref a0_pieceSign, .ref a0_pieceFrom, .int v0_pieces, .int v0_signs, .ref a0_runFrom, .ref a0_runLong, .ref a0_runPiece, .int v0_runs, .ref a0_alike, .ref a0_stood])), (a0_all, .inl (D.2 1, 5228, .inl (upd g0_all ((321 : Int32)).toNatClampNeg (0 : Int32))))] H := hP
  have hD : va_D A [(a0, .inr (9, [.ref a0_all, .ref a0_tape, .ref a0_isImage, .int v0_taped, .int v0_faultKind, .int v0_faultPlace, .int v0_undos, .ref a0_turnWord, .ref a0_turnFrom, .int v0_turns, .ref a0_pieceSign, .ref a0_pieceFrom, .int v0_pieces, .int v0_signs, .ref a0_runFrom, .ref a0_runLong, .ref a0_runPiece, .int v0_runs, .ref a0_alike, .ref a0_stood])), (a0_all, .inl (D.2 1, 5228, .inl (upd g0_all ((321 : Int32)).toNatClampNeg (0 : Int32))))] := hD
  refine lv_iload_n hx hb dX12_cancel_18 rfl (lv_at hl 0 rfl) ?_
  have he := Option.some.inj hf
  rw [hQ]
  exact W.iret (v := (g0_all ((321 : Int32)).toNatClampNeg)) hx hb hr (fun t ht hW => by rw [← he]; exact ⟨⟨(g0_all ((321 : Int32)).toNatClampNeg), (), rfl, rfl, by rw [ht]; exact hP, hD⟩, hS.F ht⟩) hS.2.2 dX12_cancel_19
def fX12_moved_54 (N : Nat) (g0_all : Nat → Int32) : Nat → Int32 → Int32 → Int32 → (Nat → Int32) → (Nat → Int32) → (Nat → Int32) → Option (Int32 × Int32 × (Nat → Int32) × (Nat → Int32) × (Nat → Int32))
  | 0, _, _, _, _, _, _ => none
  | K + 1, x1, x2, v0_turns, g0_turnWord, g0_turnFrom, g0_stood =>
    if v0_turns ≤ x2 then
      some (x1, v0_turns, g0_turnWord, g0_turnFrom, g0_stood)
    else
      if x2 < 0 ∨ 320 ≤ (x2).toNatClampNeg then none else
      Option.bind (fX12_wordAt (443 : Int32) (g0_turnWord (x2).toNatClampNeg)) fun r9 =>
      Option.bind (fX12_numberOf N g0_all (0 : Int32) r9) fun r10 =>
      if r10 < (0 : Int32) then
        (fX12_moved_54 N g0_all K) (x1 + (0 : Int32)) (x2 + (1 : Int32)) v0_turns g0_turnWord g0_turnFrom g0_stood
      else
        if x2 < 0 ∨ 320 ≤ (x2).toNatClampNeg then none else
        if (((8 : Int32) * r10) + (g0_turnFrom (x2).toNatClampNeg)) < 0 ∨ 320 ≤ ((((8 : Int32) * r10) + (g0_turnFrom (x2).toNatClampNeg))).toNatClampNeg then none else
        if (g0_stood ((((8 : Int32) * r10) + (g0_turnFrom (x2).toNatClampNeg))).toNatClampNeg) = x2 then
          (fX12_moved_54 N g0_all K) (x1 + (0 : Int32)) (x2 + (1 : Int32)) v0_turns g0_turnWord g0_turnFrom g0_stood
        else
          (fX12_moved_54 N g0_all K) (x1 + (1 : Int32)) (x2 + (1 : Int32)) v0_turns g0_turnWord g0_turnFrom g0_stood
def fX12_moved_7 (N : Nat) (g0_all : Nat → Int32) : Nat → Int32 → Int32 → (Nat → Int32) → (Nat → Int32) → (Nat → Int32) → Option (Int32 × Int32 × (Nat → Int32) × (Nat → Int32) × (Nat → Int32))
  | 0, _, _, _, _, _ => none
  | K + 1, x1, v0_turns, g0_turnWord, g0_turnFrom, g0_stood =>
    if v0_turns ≤ x1 then
      Option.bind (fX12_laysTurns N v0_turns g0_all g0_turnWord g0_turnFrom (443 : Int32)) fun r3 =>
      fX12_moved_54 N g0_all N (0 : Int32) (0 : Int32) r3.1 r3.2.1 r3.2.2 g0_stood
    else
      if x1 < 0 ∨ 320 ≤ (x1).toNatClampNeg then none else
      if x1 < 0 ∨ 320 ≤ (x1).toNatClampNeg then none else
      if (((8 : Int32) * (g0_turnWord (x1).toNatClampNeg)) + (g0_turnFrom (x1).toNatClampNeg)) < 0 ∨ 320 ≤ ((((8 : Int32) * (g0_turnWord (x1).toNatClampNeg)) + (g0_turnFrom (x1).toNatClampNeg))).toNatClampNeg then none else
      (fX12_moved_7 N g0_all K) (x1 + (1 : Int32)) v0_turns g0_turnWord g0_turnFrom (upd g0_stood ((((8 : Int32) * (g0_turnWord (x1).toNatClampNeg)) + (g0_turnFrom (x1).toNatClampNeg))).toNatClampNeg x1)
def fX12_moved (N : Nat) (v0_turns : Int32) (g0_all : Nat → Int32) (g0_turnWord : Nat → Int32) (g0_turnFrom : Nat → Int32) (g0_stood : Nat → Int32) : Option (Int32 × Int32 × (Nat → Int32) × (Nat → Int32) × (Nat → Int32)) :=
  Option.bind (fX12_laysTurns N v0_turns g0_all g0_turnWord g0_turnFrom (0 : Int32)) fun r1 =>
  fX12_moved_7 N g0_all N (0 : Int32) r1.1 r1.2.1 r1.2.2 g0_stood
set_option maxHeartbeats 4000000 in
set_option maxRecDepth 100000 in
theorem mX12_moved (l : Launch) (D : zG) (a0 : Nat) (a0_all : Nat) (a0_tape : Nat) (a0_isImage : Nat) (a0_turnWord : Nat) (a0_turnFrom : Nat) (a0_pieceSign : Nat) (a0_pieceFrom : Nat) (a0_runFrom : Nat) (a0_runLong : Nat) (a0_runPiece : Nat) (a0_alike : Nat) (a0_stood : Nat) (sz : Nat)  (v0_taped : Int32) (v0_faultKind : Int32) (v0_faultPlace : Int32) (v0_undos : Int32) (v0_turns : Int32) (v0_pieces : Int32) (v0_signs : Int32) (v0_runs : Int32) (g0_all : Nat → Int32) (g0_turnWord : Nat → Int32) (g0_turnFrom : Nat → Int32) (g0_stood : Nat → Int32)  (N : Nat) (res : Int32 × Int32 × (Nat → Int32) × (Nat → Int32) × (Nat → Int32)) (hf : fX12_moved N v0_turns g0_all g0_turnWord g0_turnFrom g0_stood = some res) : Met l yX12_moved wsX12_moved ({ frames := 4, cells := 0, slots := 0, locals := 98 } : Room) (va_Pc [.ref a0] (zW D sz [(a0, .inr (9, [.ref a0_all, .ref a0_tape, .ref a0_isImage, .int v0_taped, .int v0_faultKind, .int v0_faultPlace, .int v0_undos, .ref a0_turnWord, .ref a0_turnFrom, .int v0_turns, .ref a0_pieceSign, .ref a0_pieceFrom, .int v0_pieces, .int v0_signs, .ref a0_runFrom, .ref a0_runLong, .ref a0_runPiece, .int v0_runs, .ref a0_alike, .ref a0_stood])), (a0_all, .inl (D.2 1, 5228, .inl g0_all)), (a0_turnWord, .inl (D.2 1, 320, .inl g0_turnWord)), (a0_turnFrom, .inl (D.2 1, 320, .inl g0_turnFrom)), (a0_stood, .inl (D.2 1, 320, .inl g0_stood))])) (va_Qi (fun r (_ : Unit) => r = res.1) (fun _ => zB D (va_A [(a0, .inr (9, [.ref a0_all, .ref a0_tape, .ref a0_isImage, .int v0_taped, .int v0_faultKind, .int v0_faultPlace, .int v0_undos, .ref a0_turnWord, .ref a0_turnFrom, .int v0_turns, .ref a0_pieceSign, .ref a0_pieceFrom, .int v0_pieces, .int v0_signs, .ref a0_runFrom, .ref a0_runLong, .ref a0_runPiece, .int v0_runs, .ref a0_alike, .ref a0_stood])), (a0_all, .inl (D.2 1, 5228, .inl g0_all)), (a0_turnWord, .inl (D.2 1, 320, .inl g0_turnWord)), (a0_turnFrom, .inl (D.2 1, 320, .inl g0_turnFrom)), (a0_stood, .inl (D.2 1, 320, .inl g0_stood))] sz) [(a0, .inr (9, [.ref a0_all, .ref a0_tape, .ref a0_isImage, .int v0_taped, .int v0_faultKind, .int v0_faultPlace, .int v0_undos, .ref a0_turnWord, .ref a0_turnFrom, .int res.2.1, .ref a0_pieceSign, .ref a0_pieceFrom, .int v0_pieces, .int v0_signs, .ref a0_runFrom, .ref a0_runLong, .ref a0_runPiece, .int v0_runs, .ref a0_alike, .ref a0_stood])), (a0_all, .inl (D.2 1, 5228, .inl g0_all)), (a0_turnWord, .inl (D.2 1, 320, .inl res.2.2.1)), (a0_turnFrom, .inl (D.2 1, 320, .inl res.2.2.2.1)), (a0_stood, .inl (D.2 1, 320, .inl res.2.2.2.2))]) (va_A [(a0, .inr (9, [.ref a0_all, .ref a0_tape, .ref a0_isImage, .int v0_taped, .int v0_faultKind, .int v0_faultPlace, .int v0_undos, .ref a0_turnWord, .ref a0_turnFrom, .int v0_turns, .ref a0_pieceSign, .ref a0_pieceFrom, .int v0_pieces, .int v0_signs, .ref a0_runFrom, .ref a0_runLong, .ref a0_runPiece, .int v0_runs, .ref a0_alike, .ref a0_stood])), (a0_all, .inl (D.2 1, 5228, .inl g0_all)), (a0_turnWord, .inl (D.2 1, 320, .inl g0_turnWord)), (a0_turnFrom, .inl (D.2 1, 320, .inl g0_turnFrom)), (a0_stood, .inl (D.2 1, 320, .inl g0_stood))] sz)) 0 0 (va_A [(a0, .inr (9, [.ref a0_all, .ref a0_tape, .ref a0_isImage, .int v0_taped, .int v0_faultKind, .int v0_faultPlace, .int v0_undos, .ref a0_turnWord, .ref a0_turnFrom, .int v0_turns, .ref a0_pieceSign, .ref a0_pieceFrom, .int v0_pieces, .int v0_signs, .ref a0_runFrom, .ref a0_runLong, .ref a0_runPiece, .int v0_runs, .ref a0_alike, .ref a0_stood])), (a0_all, .inl (D.2 1, 5228, .inl g0_all)), (a0_turnWord, .inl (D.2 1, 320, .inl g0_turnWord)), (a0_turnFrom, .inl (D.2 1, 320, .inl g0_turnFrom)), (a0_stood, .inl (D.2 1, 320, .inl g0_stood))] sz) := by
  refine Met.ofW (cc := cX12_moved) (maxL := 4) (ret := (some .int)) (by decide) rfl ?_
  intro p e s m args below meth c s₁ B hml hv
  obtain ⟨rfl, hsz, hP, hK, hD0⟩ := hv
  have hx := B.exec
  have hb := B.bytes
  have hr := B.returns
  have hts := atoms_spec (ws := wsX12_moved) B.pre
  have hown : s.vm.findClass RX12 = some m.cls := findClass_of_methodNamed B.named
  have hlocks := B.notSynchronized
  subst hsz
  have hD := hD0.self (sz := s.heap.size)
  generalize hAe : va_A [(a0, .inr (9, [.ref a0_all, .ref a0_tape, .ref a0_isImage, .int v0_taped, .int v0_faultKind, .int v0_faultPlace, .int v0_undos, .ref a0_turnWord, .ref a0_turnFrom, .int v0_turns, .ref a0_pieceSign, .ref a0_pieceFrom, .int v0_pieces, .int v0_signs, .ref a0_runFrom, .ref a0_runLong, .ref a0_runPiece, .int v0_runs, .ref a0_alike, .ref a0_stood])), (a0_all, .inl (D.2 1, 5228, .inl g0_all)), (a0_turnWord, .inl (D.2 1, 320, .inl g0_turnWord)), (a0_turnFrom, .inl (D.2 1, 320, .inl g0_turnFrom)), (a0_stood, .inl (D.2 1, 320, .inl g0_stood))] s.heap.size = A at hD ⊢
  have hA : ∀ q : Nat, s.heap.size ≤ q → A q := fun q h => by rw [← hAe]; exact Or.inr h
  have l87 := zat hts 1 (w := .fieldLink RX12 87 "TurnedWordsModel" "turns" "I") rfl
  have l48 := zat hts 2 (w := .fieldLink RX12 48 "TurnedWordsModel" "stood" "[I") rfl
  have l24 := zat hts 3 (w := .fieldLink RX12 24 "TurnedWordsModel" "turnWord" "[I") rfl
  have l27 := zat hts 4 (w := .fieldLink RX12 27 "TurnedWordsModel" "turnFrom" "[I") rfl
  have hwX12 : ∀ w ∈ u_ws RX12 TX12 20, w ∈ wsX12_moved := fun w h => List.mem_cons_of_mem _ (List.mem_append_right _ h)
  have hl := lv_entry ([.ref a0]) (n := 4) (Nat.le_of_ble_eq_true rfl)
  rw [lg_entry_eq]
  generalize (lg_sl ([.ref a0]) ++ List.replicate (4 - (lg_sl ([.ref a0])).length) Slot.unset).toArray = ls at hl ⊢
  have hl : lv_has ls 4 [(0, .ref a0)] := hl
  refine zStart (A := A) hP (fun Q0 H locs hQ hP hS => ?_)
  have k54 : ∀ K : Nat, ∀ (x1 : Int32) (x2 : Int32) (v0_turns : Int32) (g0_turnWord : Nat → Int32) (g0_turnFrom : Nat → Int32) (g0_stood : Nat → Int32) (H : Heap) (locs : List Loc) (ls : Array Slot), fX12_moved_54 N g0_all K x1 x2 v0_turns g0_turnWord g0_turnFrom g0_stood = some res → va_P D.1 vwCl [(a0, .inr (9, [.ref a0_all, .ref a0_tape, .ref a0_isImage, .int v0_taped, .int v0_faultKind, .int v0_faultPlace, .int v0_undos, .ref a0_turnWord, .ref a0_turnFrom, .int v0_turns, .ref a0_pieceSign, .ref a0_pieceFrom, .int v0_pieces, .int v0_signs, .ref a0_runFrom, .ref a0_runLong, .ref a0_runPiece, .int v0_runs, .ref a0_alike, .ref a0_stood])), (a0_all, .inl (D.2 1, 5228, .inl g0_all)), (a0_turnWord, .inl (D.2 1, 320, .inl g0_turnWord)), (a0_turnFrom, .inl (D.2 1, 320, .inl g0_turnFrom)), (a0_stood, .inl (D.2 1, 320, .inl g0_stood))] H → va_D A [(a0, .inr (9, [.ref a0_all, .ref a0_tape, .ref a0_isImage, .int v0_taped, .int v0_faultKind, .int v0_faultPlace, .int v0_undos, .ref a0_turnWord, .ref a0_turnFrom, .int v0_turns, .ref a0_pieceSign, .ref a0_pieceFrom, .int v0_pieces, .int v0_signs, .ref a0_runFrom, .ref a0_runLong, .ref a0_runPiece, .int v0_runs, .ref a0_alike, .ref a0_stood])), (a0_all, .inl (D.2 1, 5228, .inl g0_all)), (a0_turnWord, .inl (D.2 1, 320, .inl g0_turnWord)), (a0_turnFrom, .inl (D.2 1, 320, .inl g0_turnFrom)), (a0_stood, .inl (D.2 1, 320, .inl g0_stood))] → va_S A s.heap H locs → lv_has ls 4 [(0, .ref a0), (1, .int x1), (2, .int x2)] → W p l e (headSpec wsX12_moved ({ frames := 4, cells := 0, slots := 0, locals := 98 } : Room)).room s m ([.ref a0] : List Value).toArray below meth c H locs 0 0 Q0 (F0 m 54 ls []) := by
    intro K
    induction K with
    | zero =>
      intro x1 x2 v0_turns g0_turnWord g0_turnFrom g0_stood H locs ls hf
      rw [fX12_moved_54] at hf
      cases hf
    | succ K ih =>
      intro x1 x2 v0_turns g0_turnWord g0_turnFrom g0_stood H locs ls hf hP hD hS hl
      rw [fX12_moved_54] at hf
      refine lv_iload_n hx hb dX12_moved_54 rfl (lv_at hl 2 rfl) ?_
      refine lv_aload_n hx hb dX12_moved_55 rfl (lv_at hl 0 rfl) ?_
      refine va_get (D := D.1) (ci := 9) (v := .int v0_turns) (C := RX12) (T := TX12) (N := 20) hx hb hts hwX12 hown hK.1 hP 0 rfl rfl 9 (by decide) l87 (fun _ h9 => h9) rfl dX12_moved_56 ?_
      refine lv_icmp_ge (tgt := 118) hx hb dX12_moved_59 (by decide) (fun c_7 => ?_) (fun c_7 => ?_)
      · replace hf := ip c_7 hf
        refine lv_iload_n hx hb dX12_moved_118 rfl (lv_at hl 1 rfl) ?_
        have he := Option.some.inj hf
        rw [hQ]
        exact W.iret (v := x1) hx hb hr (fun t ht hW => by rw [← he]; exact ⟨⟨x1, (), rfl, rfl, by rw [ht]; exact hP, hD⟩, hS.F ht⟩) hS.2.2 dX12_moved_119
      · replace hf := im c_7 hf
        refine lv_aload_n hx hb dX12_moved_62 rfl (lv_at hl 0 rfl) ?_
        refine lv_iconst (v := 0) hx hb dX12_moved_63 (by decide) ?_
        refine lv_sipush (v := 443) hx hb dX12_moved_64 (by decide) ?_
        refine lv_aload_n hx hb dX12_moved_67 rfl (lv_at hl 0 rfl) ?_
        refine va_get (D := D.1) (ci := 9) (v := .ref a0_turnWord) (C := RX12) (T := TX12) (N := 20) hx hb hts hwX12 hown hK.1 hP 0 rfl rfl 7 (by decide) l24 (fun _ h9 => h9) rfl dX12_moved_68 ?_
        refine lv_iload_n hx hb dX12_moved_71 rfl (lv_at hl 2 rfl) ?_
        obtain ⟨h_8, hf⟩ := gd hf
        refine va_iald hx hb hK.1 hP 2 1 rfl rfl h_8 dX12_moved_72 ?_
        obtain ⟨r9, hr9, hf⟩ := bd hf
        refine zSi (As := [.int (443 : Int32), .int (g0_turnWord (x2).toNatClampNeg)]) (rest := [.int (0 : Int32), .ref a0]) (wn := [(a0, .inr (9, [.ref a0_all, .ref a0_tape, .ref a0_isImage, .int v0_taped, .int v0_faultKind, .int v0_faultPlace, .int v0_undos, .ref a0_turnWord, .ref a0_turnFrom, .int v0_turns, .ref a0_pieceSign, .ref a0_pieceFrom, .int v0_pieces, .int v0_signs, .ref a0_runFrom, .ref a0_runLong, .ref a0_runPiece, .int v0_runs, .ref a0_alike, .ref a0_stood])), (a0_all, .inl (D.2 1, 5228, .inl g0_all)), (a0_turnWord, .inl (D.2 1, 320, .inl g0_turnWord)), (a0_turnFrom, .inl (D.2 1, 320, .inl g0_turnFrom)), (a0_stood, .inl (D.2 1, 320, .inl g0_stood))]) ⟨hx, hb, hml, hown, hts⟩ (mX12_wordAt l D H.size (443 : Int32) (g0_turnWord (x2).toNatClampNeg) r9 hr9) (va_cwS 2 hts gX12_moved_X12_wordAt rfl rfl rfl (by decide +kernel) ⟨Nat.le_of_ble_eq_true rfl, Nat.le_of_ble_eq_true rfl⟩) hK hP hD hS hA [] [0, 1, 2, 3, 4] [0, 1, 2, 3, 4] rfl (by decide) rfl (by decide) (by decide) rfl (by decide) rfl hl.1 rfl (Nat.le_of_ble_eq_true rfl) dX12_moved_73 ⟨Nat.zero_le _, Nat.zero_le _⟩ (fun H locs hP hD hS => ?_)
        obtain ⟨r10, hr10, hf⟩ := bd hf
        refine zVi (As := [.int (0 : Int32), .int r9]) (rest := []) (ci := 9) (q0 := 0) (wn := [(a0, .inr (9, [.ref a0_all, .ref a0_tape, .ref a0_isImage, .int v0_taped, .int v0_faultKind, .int v0_faultPlace, .int v0_undos, .ref a0_turnWord, .ref a0_turnFrom, .int v0_turns, .ref a0_pieceSign, .ref a0_pieceFrom, .int v0_pieces, .int v0_signs, .ref a0_runFrom, .ref a0_runLong, .ref a0_runPiece, .int v0_runs, .ref a0_alike, .ref a0_stood])), (a0_all, .inl (D.2 1, 5228, .inl g0_all)), (a0_turnWord, .inl (D.2 1, 320, .inl g0_turnWord)), (a0_turnFrom, .inl (D.2 1, 320, .inl g0_turnFrom)), (a0_stood, .inl (D.2 1, 320, .inl g0_stood))]) ⟨hx, hb, hml, hown, hts⟩ (mX12_numberOf l D a0 a0_all a0_tape a0_isImage a0_turnWord a0_turnFrom a0_pieceSign a0_pieceFrom a0_runFrom a0_runLong a0_runPiece a0_alike a0_stood H.size v0_taped v0_faultKind v0_faultPlace v0_undos v0_turns v0_pieces v0_signs v0_runs g0_all (0 : Int32) r9 N r10 hr10) (cwV 2 hts gX12_moved_X12_numberOf rfl rfl rfl (by decide +kernel) ⟨Nat.le_of_ble_eq_true rfl, Nat.le_of_ble_eq_true rfl⟩) hK hP hD hS hA [0, 1] [2, 3, 4] [3, 4, 0, 1, 2] rfl (by decide) rfl (by decide) (by decide) rfl (by decide) rfl rfl rfl hl.1 rfl (Nat.le_of_ble_eq_true rfl) dX12_moved_76 ⟨Nat.zero_le _, Nat.zero_le _⟩ (fun H locs hP hD hS => ?_)
        refine lv_istore_n (lv' := [(3, .int r10), (0, .ref a0), (1, .int x1), (2, .int x2)]) hx hb dX12_moved_79 rfl hl (by decide) rfl (fun ls hl => ?_)
        refine lv_iload_n hx hb dX12_moved_80 rfl (lv_at hl 2 rfl) ?_
        refine lv_iload_n hx hb dX12_moved_81 rfl (lv_at hl 0 rfl) ?_
        refine lv_if_lt (tgt := 109) hx hb dX12_moved_82 (by decide) (fun c_11 => ?_) (fun c_11 => ?_)
        · replace hf := ip c_11 hf
          refine lv_iconst (v := 0) hx hb dX12_moved_109 (by decide) ?_
          refine lv_iadd hx hb dX12_moved_110 ?_
          refine lv_istore_n (lv' := [(1, .int (x1 + (0 : Int32))), (3, .int r10), (0, .ref a0), (2, .int x2)]) hx hb dX12_moved_111 rfl hl (by decide) rfl (fun ls hl => ?_)
          refine lv_iinc (v := (x2 + (1 : Int32))) (lv' := [(2, .int (x2 + (1 : Int32))), (1, .int (x1 + (0 : Int32))), (3, .int r10), (0, .ref a0)]) hx hb dX12_moved_112 hl (k := 3) rfl rfl (by decide) rfl (fun ls hl => ?_)
          refine lv_goto (tgt := 54) hx hb dX12_moved_115 (by decide) ?_
          exact ih (x1 + (0 : Int32)) (x2 + (1 : Int32)) v0_turns g0_turnWord g0_turnFrom g0_stood H locs ls hf hP hD hS (lv_sub hl [3, 1, 0] rfl)
        · replace hf := im c_11 hf
          refine lv_aload_n hx hb dX12_moved_85 rfl (lv_at hl 1 rfl) ?_
          refine va_get (D := D.1) (ci := 9) (v := .ref a0_stood) (C := RX12) (T := TX12) (N := 20) hx hb hts hwX12 hown hK.1 hP 0 rfl rfl 19 (by decide) l48 (fun _ h9 => h9) rfl dX12_moved_86 ?_
          refine lv_bipush (v := 8) hx hb dX12_moved_89 (by decide) ?_
          refine lv_iload_n hx hb dX12_moved_91 rfl (lv_at hl 0 rfl) ?_
          refine lv_imul hx hb dX12_moved_92 ?_
          refine lv_aload_n hx hb dX12_moved_93 rfl (lv_at hl 1 rfl) ?_
          refine va_get (D := D.1) (ci := 9) (v := .ref a0_turnFrom) (C := RX12) (T := TX12) (N := 20) hx hb hts hwX12 hown hK.1 hP 0 rfl rfl 8 (by decide) l27 (fun _ h9 => h9) rfl dX12_moved_94 ?_
          refine lv_iload_n hx hb dX12_moved_97 rfl (lv_at hl 3 rfl) ?_
          obtain ⟨h_12, hf⟩ := gd hf
          refine va_iald hx hb hK.1 hP 3 1 rfl rfl h_12 dX12_moved_98 ?_
          refine lv_iadd hx hb dX12_moved_99 ?_
          obtain ⟨h_13, hf⟩ := gd hf
          refine va_iald hx hb hK.1 hP 4 1 rfl rfl h_13 dX12_moved_100 ?_
          refine lv_iload_n hx hb dX12_moved_101 rfl (lv_at hl 3 rfl) ?_
          refine lv_icmp_eq (tgt := 109) hx hb dX12_moved_102 (by decide) (fun c_14 => ?_) (fun c_14 => ?_)
          · replace hf := ip c_14 hf
            refine lv_iconst (v := 0) hx hb dX12_moved_109 (by decide) ?_
            refine lv_iadd hx hb dX12_moved_110 ?_
            refine lv_istore_n (lv' := [(1, .int (x1 + (0 : Int32))), (3, .int r10), (0, .ref a0), (2, .int x2)]) hx hb dX12_moved_111 rfl hl (by decide) rfl (fun ls hl => ?_)
            refine lv_iinc (v := (x2 + (1 : Int32))) (lv' := [(2, .int (x2 + (1 : Int32))), (1, .int (x1 + (0 : Int32))), (3, .int r10), (0, .ref a0)]) hx hb dX12_moved_112 hl (k := 3) rfl rfl (by decide) rfl (fun ls hl => ?_)
            refine lv_goto (tgt := 54) hx hb dX12_moved_115 (by decide) ?_
            exact ih (x1 + (0 : Int32)) (x2 + (1 : Int32)) v0_turns g0_turnWord g0_turnFrom g0_stood H locs ls hf hP hD hS (lv_sub hl [3, 1, 0] rfl)
          · replace hf := im c_14 hf
            refine lv_iconst (v := 1) hx hb dX12_moved_105 (by decide) ?_
            refine lv_goto (tgt := 110) hx hb dX12_moved_106 (by decide) ?_
            refine lv_iadd hx hb dX12_moved_110 ?_
            refine lv_istore_n (lv' := [(1, .int (x1 + (1 : Int32))), (3, .int r10), (0, .ref a0), (2, .int x2)]) hx hb dX12_moved_111 rfl hl (by decide) rfl (fun ls hl => ?_)
            refine lv_iinc (v := (x2 + (1 : Int32))) (lv' := [(2, .int (x2 + (1 : Int32))), (1, .int (x1 + (1 : Int32))), (3, .int r10), (0, .ref a0)]) hx hb dX12_moved_112 hl (k := 3) rfl rfl (by decide) rfl (fun ls hl => ?_)
            refine lv_goto (tgt := 54) hx hb dX12_moved_115 (by decide) ?_
            exact ih (x1 + (1 : Int32)) (x2 + (1 : Int32)) v0_turns g0_turnWord g0_turnFrom g0_stood H locs ls hf hP hD hS (lv_sub hl [3, 1, 0] rfl)
  have k7 : ∀ K : Nat, ∀ (x1 : Int32) (v0_turns : Int32) (g0_turnWord : Nat → Int32) (g0_turnFrom : Nat → Int32) (g0_stood : Nat → Int32) (H : Heap) (locs : List Loc) (ls : Array Slot), fX12_moved_7 N g0_all K x1 v0_turns g0_turnWord g0_turnFrom g0_stood = some res → va_P D.1 vwCl [(a0, .inr (9, [.ref a0_all, .ref a0_tape, .ref a0_isImage, .int v0_taped, .int v0_faultKind, .int v0_faultPlace, .int v0_undos, .ref a0_turnWord, .ref a0_turnFrom, .int v0_turns, .ref a0_pieceSign, .ref a0_pieceFrom, .int v0_pieces, .int v0_signs, .ref a0_runFrom, .ref a0_runLong, .ref a0_runPiece, .int v0_runs, .ref a0_alike, .ref a0_stood])), (a0_all, .inl (D.2 1, 5228, .inl g0_all)), (a0_turnWord, .inl (D.2 1, 320, .inl g0_turnWord)), (a0_turnFrom, .inl (D.2 1, 320, .inl g0_turnFrom)), (a0_stood, .inl (D.2 1, 320, .inl g0_stood))] H → va_D A [(a0, .inr (9, [.ref a0_all, .ref a0_tape, .ref a0_isImage, .int v0_taped, .int v0_faultKind, .int v0_faultPlace, .int v0_undos, .ref a0_turnWord, .ref a0_turnFrom, .int v0_turns, .ref a0_pieceSign, .ref a0_pieceFrom, .int v0_pieces, .int v0_signs, .ref a0_runFrom, .ref a0_runLong, .ref a0_runPiece, .int v0_runs, .ref a0_alike, .ref a0_stood])), (a0_all, .inl (D.2 1, 5228, .inl g0_all)), (a0_turnWord, .inl (D.2 1, 320, .inl g0_turnWord)), (a0_turnFrom, .inl (D.2 1, 320, .inl g0_turnFrom)), (a0_stood, .inl (D.2 1, 320, .inl g0_stood))] → va_S A s.heap H locs → lv_has ls 4 [(0, .ref a0), (1, .int x1)] → W p l e (headSpec wsX12_moved ({ frames := 4, cells := 0, slots := 0, locals := 98 } : Room)).room s m ([.ref a0] : List Value).toArray below meth c H locs 0 0 Q0 (F0 m 7 ls []) := by
    intro K
    induction K with
    | zero =>
      intro x1 v0_turns g0_turnWord g0_turnFrom g0_stood H locs ls hf
      rw [fX12_moved_7] at hf
      cases hf
    | succ K ih =>
      intro x1 v0_turns g0_turnWord g0_turnFrom g0_stood H locs ls hf hP hD hS hl
      rw [fX12_moved_7] at hf
      refine lv_iload_n hx hb dX12_moved_7 rfl (lv_at hl 1 rfl) ?_
      refine lv_aload_n hx hb dX12_moved_8 rfl (lv_at hl 0 rfl) ?_
      refine va_get (D := D.1) (ci := 9) (v := .int v0_turns) (C := RX12) (T := TX12) (N := 20) hx hb hts hwX12 hown hK.1 hP 0 rfl rfl 9 (by decide) l87 (fun _ h9 => h9) rfl dX12_moved_9 ?_
      refine lv_icmp_ge (tgt := 43) hx hb dX12_moved_12 (by decide) (fun c_2 => ?_) (fun c_2 => ?_)
      · replace hf := ip c_2 hf
        refine lv_aload_n hx hb dX12_moved_43 rfl (lv_at hl 0 rfl) ?_
        refine lv_sipush (v := 443) hx hb dX12_moved_44 (by decide) ?_
        obtain ⟨r3, hr3, hf⟩ := bd hf
        refine zVv (As := [.int (443 : Int32)]) (rest := []) (ci := 9) (q0 := 0) (wn := [(a0, .inr (9, [.ref a0_all, .ref a0_tape, .ref a0_isImage, .int v0_taped, .int v0_faultKind, .int v0_faultPlace, .int v0_undos, .ref a0_turnWord, .ref a0_turnFrom, .int r3.1, .ref a0_pieceSign, .ref a0_pieceFrom, .int v0_pieces, .int v0_signs, .ref a0_runFrom, .ref a0_runLong, .ref a0_runPiece, .int v0_runs, .ref a0_alike, .ref a0_stood])), (a0_all, .inl (D.2 1, 5228, .inl g0_all)), (a0_turnWord, .inl (D.2 1, 320, .inl r3.2.1)), (a0_turnFrom, .inl (D.2 1, 320, .inl r3.2.2)), (a0_stood, .inl (D.2 1, 320, .inl g0_stood))]) ⟨hx, hb, hml, hown, hts⟩ (mX12_laysTurns l D a0 a0_all a0_tape a0_isImage a0_turnWord a0_turnFrom a0_pieceSign a0_pieceFrom a0_runFrom a0_runLong a0_runPiece a0_alike a0_stood H.size v0_taped v0_faultKind v0_faultPlace v0_undos v0_turns v0_pieces v0_signs v0_runs g0_all g0_turnWord g0_turnFrom (443 : Int32) N r3 hr3) (cwV 1 hts gX12_moved_X12_laysTurns rfl rfl rfl (by decide +kernel) ⟨Nat.le_of_ble_eq_true rfl, Nat.le_of_ble_eq_true rfl⟩) hK hP hD hS hA [0, 1, 2, 3] [4] [1, 2, 3, 4, 0] rfl (by decide) rfl (by decide) (by decide) rfl (by decide) rfl rfl rfl hl.1 rfl (Nat.le_of_ble_eq_true rfl) dX12_moved_47 ⟨Nat.zero_le _, Nat.zero_le _⟩ (fun H locs hP hD hS => ?_)
        refine lv_iconst (v := 0) hx hb dX12_moved_50 (by decide) ?_
        refine lv_istore_n (lv' := [(1, .int (0 : Int32)), (0, .ref a0)]) hx hb dX12_moved_51 rfl hl (by decide) rfl (fun ls hl => ?_)
        refine lv_iconst (v := 0) hx hb dX12_moved_52 (by decide) ?_
        refine lv_istore_n (lv' := [(2, .int (0 : Int32)), (1, .int (0 : Int32)), (0, .ref a0)]) hx hb dX12_moved_53 rfl hl (by decide) rfl (fun ls hl => ?_)
        exact k54 N (0 : Int32) (0 : Int32) r3.1 r3.2.1 r3.2.2 g0_stood H locs ls hf hP hD hS (lv_sub hl [2, 1, 0] rfl)
      · replace hf := im c_2 hf
        refine lv_aload_n hx hb dX12_moved_15 rfl (lv_at hl 0 rfl) ?_
        refine va_get (D := D.1) (ci := 9) (v := .ref a0_stood) (C := RX12) (T := TX12) (N := 20) hx hb hts hwX12 hown hK.1 hP 0 rfl rfl 19 (by decide) l48 (fun _ h9 => h9) rfl dX12_moved_16 ?_
        refine lv_bipush (v := 8) hx hb dX12_moved_19 (by decide) ?_
        refine lv_aload_n hx hb dX12_moved_21 rfl (lv_at hl 0 rfl) ?_
        refine va_get (D := D.1) (ci := 9) (v := .ref a0_turnWord) (C := RX12) (T := TX12) (N := 20) hx hb hts hwX12 hown hK.1 hP 0 rfl rfl 7 (by decide) l24 (fun _ h9 => h9) rfl dX12_moved_22 ?_
        refine lv_iload_n hx hb dX12_moved_25 rfl (lv_at hl 1 rfl) ?_
        obtain ⟨h_4, hf⟩ := gd hf
        refine va_iald hx hb hK.1 hP 2 1 rfl rfl h_4 dX12_moved_26 ?_
        refine lv_imul hx hb dX12_moved_27 ?_
        refine lv_aload_n hx hb dX12_moved_28 rfl (lv_at hl 0 rfl) ?_
        refine va_get (D := D.1) (ci := 9) (v := .ref a0_turnFrom) (C := RX12) (T := TX12) (N := 20) hx hb hts hwX12 hown hK.1 hP 0 rfl rfl 8 (by decide) l27 (fun _ h9 => h9) rfl dX12_moved_29 ?_
        refine lv_iload_n hx hb dX12_moved_32 rfl (lv_at hl 1 rfl) ?_
        obtain ⟨h_5, hf⟩ := gd hf
        refine va_iald hx hb hK.1 hP 3 1 rfl rfl h_5 dX12_moved_33 ?_
        refine lv_iadd hx hb dX12_moved_34 ?_
        refine lv_iload_n hx hb dX12_moved_35 rfl (lv_at hl 1 rfl) ?_
        obtain ⟨h_6, hf⟩ := gd hf
        refine va_iast hx hb hK.1 hP hD hS 4 1 rfl rfl h_6 dX12_moved_36 (fun H locs hP hD hS => ?_)
        have hP : va_P D.1 vwCl [(a0, .inr (9, [.ref a0_all, .ref a0_tape, .ref a0_isImage, .int v0_taped, .int v0_faultKind, .int v0_faultPlace, .int v0_undos, .ref a0_turnWord, .ref a0_turnFrom, .int v0_turns, .ref a0_pieceSign, .ref a0_pieceFrom, .int v0_pieces, .int v0_signs, .ref a0_runFrom, .ref a0_runLong, .ref a0_runPiece, .int v0_runs, .ref a0_alike, .ref a0_stood])), (a0_all, .inl (D.2 1, 5228, .inl g0_all)), (a0_turnWord, .inl (D.2 1, 320, .inl g0_turnWord)), (a0_turnFrom, .inl (D.2 1, 320, .inl g0_turnFrom)), (a0_stood, .inl (D.2 1, 320, .inl (upd g0_stood ((((8 : Int32) * (g0_turnWord (x1).toNatClampNeg)) + (g0_turnFrom (x1).toNatClampNeg))).toNatClampNeg x1)))] H := hP
        have hD : va_D A [(a0, .inr (9, [.ref a0_all, .ref a0_tape, .ref a0_isImage, .int v0_taped, .int v0_faultKind, .int v0_faultPlace, .int v0_undos, .ref a0_turnWord, .ref a0_turnFrom, .int v0_turns, .ref a0_pieceSign, .ref a0_pieceFrom, .int v0_pieces, .int v0_signs, .ref a0_runFrom, .ref a0_runLong, .ref a0_runPiece, .int v0_runs, .ref a0_alike, .ref a0_stood])), (a0_all, .inl (D.2 1, 5228, .inl g0_all)), (a0_turnWord, .inl (D.2 1, 320, .inl g0_turnWord)), (a0_turnFrom, .inl (D.2 1, 320, .inl g0_turnFrom)), (a0_stood, .inl (D.2 1, 320, .inl (upd g0_stood ((((8 : Int32) * (g0_turnWord (x1).toNatClampNeg)) + (g0_turnFrom (x1).toNatClampNeg))).toNatClampNeg x1)))] := hD
        refine lv_iinc (v := (x1 + (1 : Int32))) (lv' := [(1, .int (x1 + (1 : Int32))), (0, .ref a0)]) hx hb dX12_moved_37 hl (k := 1) rfl rfl (by decide) rfl (fun ls hl => ?_)
        refine lv_goto (tgt := 7) hx hb dX12_moved_40 (by decide) ?_
        exact ih (x1 + (1 : Int32)) v0_turns g0_turnWord g0_turnFrom (upd g0_stood ((((8 : Int32) * (g0_turnWord (x1).toNatClampNeg)) + (g0_turnFrom (x1).toNatClampNeg))).toNatClampNeg x1) H locs ls hf hP hD hS (lv_sub hl [1, 0] rfl)
  unfold fX12_moved at hf
  refine lv_aload_n hx hb dX12_moved_0 rfl (lv_at hl 0 rfl) ?_
  refine lv_iconst (v := 0) hx hb dX12_moved_1 (by decide) ?_
  obtain ⟨r1, hr1, hf⟩ := bd hf
  refine zVv (As := [.int (0 : Int32)]) (rest := []) (ci := 9) (q0 := 0) (wn := [(a0, .inr (9, [.ref a0_all, .ref a0_tape, .ref a0_isImage, .int v0_taped, .int v0_faultKind, .int v0_faultPlace, .int v0_undos, .ref a0_turnWord, .ref a0_turnFrom, .int r1.1, .ref a0_pieceSign, .ref a0_pieceFrom, .int v0_pieces, .int v0_signs, .ref a0_runFrom, .ref a0_runLong, .ref a0_runPiece, .int v0_runs, .ref a0_alike, .ref a0_stood])), (a0_all, .inl (D.2 1, 5228, .inl g0_all)), (a0_turnWord, .inl (D.2 1, 320, .inl r1.2.1)), (a0_turnFrom, .inl (D.2 1, 320, .inl r1.2.2)), (a0_stood, .inl (D.2 1, 320, .inl g0_stood))]) ⟨hx, hb, hml, hown, hts⟩ (mX12_laysTurns l D a0 a0_all a0_tape a0_isImage a0_turnWord a0_turnFrom a0_pieceSign a0_pieceFrom a0_runFrom a0_runLong a0_runPiece a0_alike a0_stood H.size v0_taped v0_faultKind v0_faultPlace v0_undos v0_turns v0_pieces v0_signs v0_runs g0_all g0_turnWord g0_turnFrom (0 : Int32) N r1 hr1) (cwV 1 hts gX12_moved_X12_laysTurns rfl rfl rfl (by decide +kernel) ⟨Nat.le_of_ble_eq_true rfl, Nat.le_of_ble_eq_true rfl⟩) hK hP hD hS hA [0, 1, 2, 3] [4] [1, 2, 3, 4, 0] rfl (by decide) rfl (by decide) (by decide) rfl (by decide) rfl rfl rfl hl.1 rfl (Nat.le_of_ble_eq_true rfl) dX12_moved_2 ⟨Nat.zero_le _, Nat.zero_le _⟩ (fun H locs hP hD hS => ?_)
  refine lv_iconst (v := 0) hx hb dX12_moved_5 (by decide) ?_
  refine lv_istore_n (lv' := [(1, .int (0 : Int32)), (0, .ref a0)]) hx hb dX12_moved_6 rfl hl (by decide) rfl (fun ls hl => ?_)
  exact k7 N (0 : Int32) r1.1 r1.2.1 r1.2.2 g0_stood H locs ls hf hP hD hS (lv_sub hl [1, 0] rfl)
def fX12_merge_53 (N : Nat) (x1 : Int32) (v0_undos : Int32) (v0_turns : Int32) (g0_all : Nat → Int32) (g0_turnWord : Nat → Int32) (g0_turnFrom : Nat → Int32) (g0_stood : Nat → Int32) : Option (Int32 × Int32 × Int32 × (Nat → Int32) × (Nat → Int32) × (Nat → Int32) × (Nat → Int32)) :=
  Option.bind (fX12_copies N g0_all (0 : Int32) ((1406 : Int32) + ((321 : Int32) * v0_undos)) (321 : Int32)) fun r7 =>
  Option.bind (fX12_copies N r7 (443 : Int32) (0 : Int32) (321 : Int32)) fun r8 =>
  if (321 : Int32) < 0 ∨ 5228 ≤ ((321 : Int32)).toNatClampNeg then none else
  some (x1, (v0_undos + (1 : Int32)), v0_turns, (upd r8 ((321 : Int32)).toNatClampNeg (0 : Int32)), g0_turnWord, g0_turnFrom, g0_stood)
def fX12_merge (N : Nat) (v0_undos : Int32) (v0_turns : Int32) (g0_all : Nat → Int32) (g0_turnWord : Nat → Int32) (g0_turnFrom : Nat → Int32) (g0_stood : Nat → Int32) : Option (Int32 × Int32 × Int32 × (Nat → Int32) × (Nat → Int32) × (Nat → Int32) × (Nat → Int32)) :=
  if (321 : Int32) < 0 ∨ 5228 ≤ ((321 : Int32)).toNatClampNeg then none else
  if (g0_all ((321 : Int32)).toNatClampNeg) = (0 : Int32) then
    some ((0 : Int32), v0_undos, v0_turns, g0_all, g0_turnWord, g0_turnFrom, g0_stood)
  else
    Option.bind (fX12_laysComing N g0_all) fun r3 =>
    Option.bind (fX12_moved N v0_turns r3 g0_turnWord g0_turnFrom g0_stood) fun r4 =>
    if v0_undos = (4 : Int32) then
      Option.bind (fX12_copies N r3 (1727 : Int32) (1406 : Int32) (963 : Int32)) fun r6 =>
      fX12_merge_53 N r4.1 (v0_undos - (1 : Int32)) r4.2.1 r6 r4.2.2.1 r4.2.2.2.1 r4.2.2.2.2
    else
      fX12_merge_53 N r4.1 v0_undos r4.2.1 r3 r4.2.2.1 r4.2.2.2.1 r4.2.2.2.2
set_option maxHeartbeats 4000000 in
set_option maxRecDepth 100000 in
theorem mX12_merge (l : Launch) (D : zG) (a0 : Nat) (a0_all : Nat) (a0_tape : Nat) (a0_isImage : Nat) (a0_turnWord : Nat) (a0_turnFrom : Nat) (a0_pieceSign : Nat) (a0_pieceFrom : Nat) (a0_runFrom : Nat) (a0_runLong : Nat) (a0_runPiece : Nat) (a0_alike : Nat) (a0_stood : Nat) (sz : Nat)  (v0_taped : Int32) (v0_faultKind : Int32) (v0_faultPlace : Int32) (v0_undos : Int32) (v0_turns : Int32) (v0_pieces : Int32) (v0_signs : Int32) (v0_runs : Int32) (g0_all : Nat → Int32) (g0_turnWord : Nat → Int32) (g0_turnFrom : Nat → Int32) (g0_stood : Nat → Int32)  (N : Nat) (res : Int32 × Int32 × Int32 × (Nat → Int32) × (Nat → Int32) × (Nat → Int32) × (Nat → Int32)) (hf : fX12_merge N v0_undos v0_turns g0_all g0_turnWord g0_turnFrom g0_stood = some res) : Met l yX12_merge wsX12_merge ({ frames := 5, cells := 0, slots := 0, locals := 121 } : Room) (va_Pc [.ref a0] (zW D sz [(a0, .inr (9, [.ref a0_all, .ref a0_tape, .ref a0_isImage, .int v0_taped, .int v0_faultKind, .int v0_faultPlace, .int v0_undos, .ref a0_turnWord, .ref a0_turnFrom, .int v0_turns, .ref a0_pieceSign, .ref a0_pieceFrom, .int v0_pieces, .int v0_signs, .ref a0_runFrom, .ref a0_runLong, .ref a0_runPiece, .int v0_runs, .ref a0_alike, .ref a0_stood])), (a0_all, .inl (D.2 1, 5228, .inl g0_all)), (a0_turnWord, .inl (D.2 1, 320, .inl g0_turnWord)), (a0_turnFrom, .inl (D.2 1, 320, .inl g0_turnFrom)), (a0_stood, .inl (D.2 1, 320, .inl g0_stood))])) (va_Qi (fun r (_ : Unit) => r = res.1) (fun _ => zB D (va_A [(a0, .inr (9, [.ref a0_all, .ref a0_tape, .ref a0_isImage, .int v0_taped, .int v0_faultKind, .int v0_faultPlace, .int v0_undos, .ref a0_turnWord, .ref a0_turnFrom, .int v0_turns, .ref a0_pieceSign, .ref a0_pieceFrom, .int v0_pieces, .int v0_signs, .ref a0_runFrom, .ref a0_runLong, .ref a0_runPiece, .int v0_runs, .ref a0_alike, .ref a0_stood])), (a0_all, .inl (D.2 1, 5228, .inl g0_all)), (a0_turnWord, .inl (D.2 1, 320, .inl g0_turnWord)), (a0_turnFrom, .inl (D.2 1, 320, .inl g0_turnFrom)), (a0_stood, .inl (D.2 1, 320, .inl g0_stood))] sz) [(a0, .inr (9, [.ref a0_all, .ref a0_tape, .ref a0_isImage, .int v0_taped, .int v0_faultKind, .int v0_faultPlace, .int res.2.1, .ref a0_turnWord, .ref a0_turnFrom, .int res.2.2.1, .ref a0_pieceSign, .ref a0_pieceFrom, .int v0_pieces, .int v0_signs, .ref a0_runFrom, .ref a0_runLong, .ref a0_runPiece, .int v0_runs, .ref a0_alike, .ref a0_stood])), (a0_all, .inl (D.2 1, 5228, .inl res.2.2.2.1)), (a0_turnWord, .inl (D.2 1, 320, .inl res.2.2.2.2.1)), (a0_turnFrom, .inl (D.2 1, 320, .inl res.2.2.2.2.2.1)), (a0_stood, .inl (D.2 1, 320, .inl res.2.2.2.2.2.2))]) (va_A [(a0, .inr (9, [.ref a0_all, .ref a0_tape, .ref a0_isImage, .int v0_taped, .int v0_faultKind, .int v0_faultPlace, .int v0_undos, .ref a0_turnWord, .ref a0_turnFrom, .int v0_turns, .ref a0_pieceSign, .ref a0_pieceFrom, .int v0_pieces, .int v0_signs, .ref a0_runFrom, .ref a0_runLong, .ref a0_runPiece, .int v0_runs, .ref a0_alike, .ref a0_stood])), (a0_all, .inl (D.2 1, 5228, .inl g0_all)), (a0_turnWord, .inl (D.2 1, 320, .inl g0_turnWord)), (a0_turnFrom, .inl (D.2 1, 320, .inl g0_turnFrom)), (a0_stood, .inl (D.2 1, 320, .inl g0_stood))] sz)) 0 0 (va_A [(a0, .inr (9, [.ref a0_all, .ref a0_tape, .ref a0_isImage, .int v0_taped, .int v0_faultKind, .int v0_faultPlace, .int v0_undos, .ref a0_turnWord, .ref a0_turnFrom, .int v0_turns, .ref a0_pieceSign, .ref a0_pieceFrom, .int v0_pieces, .int v0_signs, .ref a0_runFrom, .ref a0_runLong, .ref a0_runPiece, .int v0_runs, .ref a0_alike, .ref a0_stood])), (a0_all, .inl (D.2 1, 5228, .inl g0_all)), (a0_turnWord, .inl (D.2 1, 320, .inl g0_turnWord)), (a0_turnFrom, .inl (D.2 1, 320, .inl g0_turnFrom)), (a0_stood, .inl (D.2 1, 320, .inl g0_stood))] sz) := by
  refine Met.ofW (cc := cX12_merge) (maxL := 2) (ret := (some .int)) (by decide) rfl ?_
  intro p e s m args below meth c s₁ B hml hv
  obtain ⟨rfl, hsz, hP, hK, hD0⟩ := hv
  have hx := B.exec
  have hb := B.bytes
  have hr := B.returns
  have hts := atoms_spec (ws := wsX12_merge) B.pre
  have hown : s.vm.findClass RX12 = some m.cls := findClass_of_methodNamed B.named
  have hlocks := B.notSynchronized
  subst hsz
  have hD := hD0.self (sz := s.heap.size)
  generalize hAe : va_A [(a0, .inr (9, [.ref a0_all, .ref a0_tape, .ref a0_isImage, .int v0_taped, .int v0_faultKind, .int v0_faultPlace, .int v0_undos, .ref a0_turnWord, .ref a0_turnFrom, .int v0_turns, .ref a0_pieceSign, .ref a0_pieceFrom, .int v0_pieces, .int v0_signs, .ref a0_runFrom, .ref a0_runLong, .ref a0_runPiece, .int v0_runs, .ref a0_alike, .ref a0_stood])), (a0_all, .inl (D.2 1, 5228, .inl g0_all)), (a0_turnWord, .inl (D.2 1, 320, .inl g0_turnWord)), (a0_turnFrom, .inl (D.2 1, 320, .inl g0_turnFrom)), (a0_stood, .inl (D.2 1, 320, .inl g0_stood))] s.heap.size = A at hD ⊢
  have hA : ∀ q : Nat, s.heap.size ≤ q → A q := fun q h => by rw [← hAe]; exact Or.inr h
  have l7 := zat hts 1 (w := .fieldLink RX12 7 "TurnedWordsModel" "all" "[I") rfl
  have l177 := zat hts 2 (w := .fieldLink RX12 177 "TurnedWordsModel" "undos" "I") rfl
  have hwX12 : ∀ w ∈ u_ws RX12 TX12 20, w ∈ wsX12_merge := fun w h => List.mem_cons_of_mem _ (List.mem_append_right _ h)
  have hl := lv_entry ([.ref a0]) (n := 2) (Nat.le_of_ble_eq_true rfl)
  rw [lg_entry_eq]
  generalize (lg_sl ([.ref a0]) ++ List.replicate (2 - (lg_sl ([.ref a0])).length) Slot.unset).toArray = ls at hl ⊢
  have hl : lv_has ls 2 [(0, .ref a0)] := hl
  refine zStart (A := A) hP (fun Q0 H locs hQ hP hS => ?_)
  have k53 : ∀ (x1 : Int32) (v0_undos : Int32) (v0_turns : Int32) (g0_all : Nat → Int32) (g0_turnWord : Nat → Int32) (g0_turnFrom : Nat → Int32) (g0_stood : Nat → Int32) (H : Heap) (locs : List Loc) (ls : Array Slot), fX12_merge_53 N x1 v0_undos v0_turns g0_all g0_turnWord g0_turnFrom g0_stood = some res → va_P D.1 vwCl [(a0, .inr (9, [.ref a0_all, .ref a0_tape, .ref a0_isImage, .int v0_taped, .int v0_faultKind, .int v0_faultPlace, .int v0_undos, .ref a0_turnWord, .ref a0_turnFrom, .int v0_turns, .ref a0_pieceSign, .ref a0_pieceFrom, .int v0_pieces, .int v0_signs, .ref a0_runFrom, .ref a0_runLong, .ref a0_runPiece, .int v0_runs, .ref a0_alike, .ref a0_stood])), (a0_all, .inl (D.2 1, 5228, .inl g0_all)), (a0_turnWord, .inl (D.2 1, 320, .inl g0_turnWord)), (a0_turnFrom, .inl (D.2 1, 320, .inl g0_turnFrom)), (a0_stood, .inl (D.2 1, 320, .inl g0_stood))] H → va_D A [(a0, .inr (9, [.ref a0_all, .ref a0_tape, .ref a0_isImage, .int v0_taped, .int v0_faultKind, .int v0_faultPlace, .int v0_undos, .ref a0_turnWord, .ref a0_turnFrom, .int v0_turns, .ref a0_pieceSign, .ref a0_pieceFrom, .int v0_pieces, .int v0_signs, .ref a0_runFrom, .ref a0_runLong, .ref a0_runPiece, .int v0_runs, .ref a0_alike, .ref a0_stood])), (a0_all, .inl (D.2 1, 5228, .inl g0_all)), (a0_turnWord, .inl (D.2 1, 320, .inl g0_turnWord)), (a0_turnFrom, .inl (D.2 1, 320, .inl g0_turnFrom)), (a0_stood, .inl (D.2 1, 320, .inl g0_stood))] → va_S A s.heap H locs → lv_has ls 2 [(0, .ref a0), (1, .int x1)] → W p l e (headSpec wsX12_merge ({ frames := 5, cells := 0, slots := 0, locals := 121 } : Room)).room s m ([.ref a0] : List Value).toArray below meth c H locs 0 0 Q0 (F0 m 53 ls []) := by
    intro x1 v0_undos v0_turns g0_all g0_turnWord g0_turnFrom g0_stood H locs ls hf hP hD hS hl
    unfold fX12_merge_53 at hf
    refine lv_aload_n hx hb dX12_merge_53 rfl (lv_at hl 0 rfl) ?_
    refine lv_iconst (v := 0) hx hb dX12_merge_54 (by decide) ?_
    refine lv_sipush (v := 1406) hx hb dX12_merge_55 (by decide) ?_
    refine lv_sipush (v := 321) hx hb dX12_merge_58 (by decide) ?_
    refine lv_aload_n hx hb dX12_merge_61 rfl (lv_at hl 0 rfl) ?_
    refine va_get (D := D.1) (ci := 9) (v := .int v0_undos) (C := RX12) (T := TX12) (N := 20) hx hb hts hwX12 hown hK.1 hP 0 rfl rfl 6 (by decide) l177 (fun _ h9 => h9) rfl dX12_merge_62 ?_
    refine lv_imul hx hb dX12_merge_65 ?_
    refine lv_iadd hx hb dX12_merge_66 ?_
    refine lv_sipush (v := 321) hx hb dX12_merge_67 (by decide) ?_
    obtain ⟨r7, hr7, hf⟩ := bd hf
    refine zVv (As := [.int (0 : Int32), .int ((1406 : Int32) + ((321 : Int32) * v0_undos)), .int (321 : Int32)]) (rest := []) (ci := 9) (q0 := 0) (wn := [(a0, .inr (9, [.ref a0_all, .ref a0_tape, .ref a0_isImage, .int v0_taped, .int v0_faultKind, .int v0_faultPlace, .int v0_undos, .ref a0_turnWord, .ref a0_turnFrom, .int v0_turns, .ref a0_pieceSign, .ref a0_pieceFrom, .int v0_pieces, .int v0_signs, .ref a0_runFrom, .ref a0_runLong, .ref a0_runPiece, .int v0_runs, .ref a0_alike, .ref a0_stood])), (a0_all, .inl (D.2 1, 5228, .inl r7)), (a0_turnWord, .inl (D.2 1, 320, .inl g0_turnWord)), (a0_turnFrom, .inl (D.2 1, 320, .inl g0_turnFrom)), (a0_stood, .inl (D.2 1, 320, .inl g0_stood))]) ⟨hx, hb, hml, hown, hts⟩ (mX12_copies l D a0 a0_all a0_tape a0_isImage a0_turnWord a0_turnFrom a0_pieceSign a0_pieceFrom a0_runFrom a0_runLong a0_runPiece a0_alike a0_stood H.size v0_taped v0_faultKind v0_faultPlace v0_undos v0_turns v0_pieces v0_signs v0_runs g0_all (0 : Int32) ((1406 : Int32) + ((321 : Int32) * v0_undos)) (321 : Int32) N r7 hr7) (cwV 3 hts gX12_merge_X12_copies rfl rfl rfl (by decide +kernel) ⟨Nat.le_of_ble_eq_true rfl, Nat.le_of_ble_eq_true rfl⟩) hK hP hD hS hA [0, 1] [2, 3, 4] [3, 4, 0, 1, 2] rfl (by decide) rfl (by decide) (by decide) rfl (by decide) rfl rfl rfl hl.1 rfl (Nat.le_of_ble_eq_true rfl) dX12_merge_70 ⟨Nat.zero_le _, Nat.zero_le _⟩ (fun H locs hP hD hS => ?_)
    refine lv_aload_n hx hb dX12_merge_73 rfl (lv_at hl 0 rfl) ?_
    refine lv_dup hx hb dX12_merge_74 rfl ?_
    refine va_get (D := D.1) (ci := 9) (v := .int v0_undos) (C := RX12) (T := TX12) (N := 20) hx hb hts hwX12 hown hK.1 hP 0 rfl rfl 6 (by decide) l177 (fun _ h9 => h9) rfl dX12_merge_75 ?_
    refine lv_iconst (v := 1) hx hb dX12_merge_78 (by decide) ?_
    refine lv_iadd hx hb dX12_merge_79 ?_
    refine va_put (D := D.1) (ci := 9) (v := .int (v0_undos + (1 : Int32))) (ty := .int) (C := RX12) (T := TX12) (N := 20) hx hb hts hwX12 tyX12 tyX12_ok nmX12 hown hK.1 hP hD hS 0 rfl rfl 6 (by decide) l177 (fun _ h9 => h9) rfl (by decide +kernel) rfl rfl (Nat.le_of_ble_eq_true rfl) dX12_merge_80 (fun H locs hP hD hS => ?_)
    have hP : va_P D.1 vwCl [(a0, .inr (9, [.ref a0_all, .ref a0_tape, .ref a0_isImage, .int v0_taped, .int v0_faultKind, .int v0_faultPlace, .int (v0_undos + (1 : Int32)), .ref a0_turnWord, .ref a0_turnFrom, .int v0_turns, .ref a0_pieceSign, .ref a0_pieceFrom, .int v0_pieces, .int v0_signs, .ref a0_runFrom, .ref a0_runLong, .ref a0_runPiece, .int v0_runs, .ref a0_alike, .ref a0_stood])), (a0_all, .inl (D.2 1, 5228, .inl r7)), (a0_turnWord, .inl (D.2 1, 320, .inl g0_turnWord)), (a0_turnFrom, .inl (D.2 1, 320, .inl g0_turnFrom)), (a0_stood, .inl (D.2 1, 320, .inl g0_stood))] H := hP
    have hD : va_D A [(a0, .inr (9, [.ref a0_all, .ref a0_tape, .ref a0_isImage, .int v0_taped, .int v0_faultKind, .int v0_faultPlace, .int (v0_undos + (1 : Int32)), .ref a0_turnWord, .ref a0_turnFrom, .int v0_turns, .ref a0_pieceSign, .ref a0_pieceFrom, .int v0_pieces, .int v0_signs, .ref a0_runFrom, .ref a0_runLong, .ref a0_runPiece, .int v0_runs, .ref a0_alike, .ref a0_stood])), (a0_all, .inl (D.2 1, 5228, .inl r7)), (a0_turnWord, .inl (D.2 1, 320, .inl g0_turnWord)), (a0_turnFrom, .inl (D.2 1, 320, .inl g0_turnFrom)), (a0_stood, .inl (D.2 1, 320, .inl g0_stood))] := hD
    refine lv_aload_n hx hb dX12_merge_83 rfl (lv_at hl 0 rfl) ?_
    refine lv_sipush (v := 443) hx hb dX12_merge_84 (by decide) ?_
    refine lv_iconst (v := 0) hx hb dX12_merge_87 (by decide) ?_
    refine lv_sipush (v := 321) hx hb dX12_merge_88 (by decide) ?_
    obtain ⟨r8, hr8, hf⟩ := bd hf
    refine zVv (As := [.int (443 : Int32), .int (0 : Int32), .int (321 : Int32)]) (rest := []) (ci := 9) (q0 := 0) (wn := [(a0, .inr (9, [.ref a0_all, .ref a0_tape, .ref a0_isImage, .int v0_taped, .int v0_faultKind, .int v0_faultPlace, .int (v0_undos + (1 : Int32)), .ref a0_turnWord, .ref a0_turnFrom, .int v0_turns, .ref a0_pieceSign, .ref a0_pieceFrom, .int v0_pieces, .int v0_signs, .ref a0_runFrom, .ref a0_runLong, .ref a0_runPiece, .int v0_runs, .ref a0_alike, .ref a0_stood])), (a0_all, .inl (D.2 1, 5228, .inl r8)), (a0_turnWord, .inl (D.2 1, 320, .inl g0_turnWord)), (a0_turnFrom, .inl (D.2 1, 320, .inl g0_turnFrom)), (a0_stood, .inl (D.2 1, 320, .inl g0_stood))]) ⟨hx, hb, hml, hown, hts⟩ (mX12_copies l D a0 a0_all a0_tape a0_isImage a0_turnWord a0_turnFrom a0_pieceSign a0_pieceFrom a0_runFrom a0_runLong a0_runPiece a0_alike a0_stood H.size v0_taped v0_faultKind v0_faultPlace (v0_undos + (1 : Int32)) v0_turns v0_pieces v0_signs v0_runs r7 (443 : Int32) (0 : Int32) (321 : Int32) N r8 hr8) (cwV 3 hts gX12_merge_X12_copies rfl rfl rfl (by decide +kernel) ⟨Nat.le_of_ble_eq_true rfl, Nat.le_of_ble_eq_true rfl⟩) hK hP hD hS hA [0, 1] [2, 3, 4] [3, 4, 0, 1, 2] rfl (by decide) rfl (by decide) (by decide) rfl (by decide) rfl rfl rfl hl.1 rfl (Nat.le_of_ble_eq_true rfl) dX12_merge_91 ⟨Nat.zero_le _, Nat.zero_le _⟩ (fun H locs hP hD hS => ?_)
    refine lv_aload_n hx hb dX12_merge_94 rfl (lv_at hl 0 rfl) ?_
    refine va_get (D := D.1) (ci := 9) (v := .ref a0_all) (C := RX12) (T := TX12) (N := 20) hx hb hts hwX12 hown hK.1 hP 0 rfl rfl 0 (by decide) l7 (fun _ h9 => h9) rfl dX12_merge_95 ?_
    refine lv_sipush (v := 321) hx hb dX12_merge_98 (by decide) ?_
    refine lv_iconst (v := 0) hx hb dX12_merge_101 (by decide) ?_
    obtain ⟨h_9, hf⟩ := gd hf
    refine va_iast hx hb hK.1 hP hD hS 1 1 rfl rfl h_9 dX12_merge_102 (fun H locs hP hD hS => ?_)
    have hP : va_P D.1 vwCl [(a0, .inr (9, [.ref a0_all, .ref a0_tape, .ref a0_isImage, .int v0_taped, .int v0_faultKind, .int v0_faultPlace, .int (v0_undos + (1 : Int32)), .ref a0_turnWord, .ref a0_turnFrom, .int v0_turns, .ref a0_pieceSign, .ref a0_pieceFrom, .int v0_pieces, .int v0_signs, .ref a0_runFrom, .ref a0_runLong, .ref a0_runPiece, .int v0_runs, .ref a0_alike, .ref a0_stood])), (a0_all, .inl (D.2 1, 5228, .inl (upd r8 ((321 : Int32)).toNatClampNeg (0 : Int32)))), (a0_turnWord, .inl (D.2 1, 320, .inl g0_turnWord)), (a0_turnFrom, .inl (D.2 1, 320, .inl g0_turnFrom)), (a0_stood, .inl (D.2 1, 320, .inl g0_stood))] H := hP
    have hD : va_D A [(a0, .inr (9, [.ref a0_all, .ref a0_tape, .ref a0_isImage, .int v0_taped, .int v0_faultKind, .int v0_faultPlace, .int (v0_undos + (1 : Int32)), .ref a0_turnWord, .ref a0_turnFrom, .int v0_turns, .ref a0_pieceSign, .ref a0_pieceFrom, .int v0_pieces, .int v0_signs, .ref a0_runFrom, .ref a0_runLong, .ref a0_runPiece, .int v0_runs, .ref a0_alike, .ref a0_stood])), (a0_all, .inl (D.2 1, 5228, .inl (upd r8 ((321 : Int32)).toNatClampNeg (0 : Int32)))), (a0_turnWord, .inl (D.2 1, 320, .inl g0_turnWord)), (a0_turnFrom, .inl (D.2 1, 320, .inl g0_turnFrom)), (a0_stood, .inl (D.2 1, 320, .inl g0_stood))] := hD
    refine lv_iload_n hx hb dX12_merge_103 rfl (lv_at hl 1 rfl) ?_
    have he := Option.some.inj hf
    rw [hQ]
    exact W.iret (v := x1) hx hb hr (fun t ht hW => by rw [← he]; exact ⟨⟨x1, (), rfl, rfl, by rw [ht]; exact hP, hD⟩, hS.F ht⟩) hS.2.2 dX12_merge_104
  unfold fX12_merge at hf
  refine lv_aload_n hx hb dX12_merge_0 rfl (lv_at hl 0 rfl) ?_
  refine va_get (D := D.1) (ci := 9) (v := .ref a0_all) (C := RX12) (T := TX12) (N := 20) hx hb hts hwX12 hown hK.1 hP 0 rfl rfl 0 (by decide) l7 (fun _ h9 => h9) rfl dX12_merge_1 ?_
  refine lv_sipush (v := 321) hx hb dX12_merge_4 (by decide) ?_
  obtain ⟨h_1, hf⟩ := gd hf
  refine va_iald hx hb hK.1 hP 1 1 rfl rfl h_1 dX12_merge_7 ?_
  refine lv_if_ne (tgt := 13) hx hb dX12_merge_8 (by decide) (fun c_2 => ?_) (fun c_2 => ?_)
  · replace hf := im c_2 hf
    refine lv_aload_n hx hb dX12_merge_13 rfl (lv_at hl 0 rfl) ?_
    obtain ⟨r3, hr3, hf⟩ := bd hf
    refine zVv (As := []) (rest := []) (ci := 9) (q0 := 0) (wn := [(a0, .inr (9, [.ref a0_all, .ref a0_tape, .ref a0_isImage, .int v0_taped, .int v0_faultKind, .int v0_faultPlace, .int v0_undos, .ref a0_turnWord, .ref a0_turnFrom, .int v0_turns, .ref a0_pieceSign, .ref a0_pieceFrom, .int v0_pieces, .int v0_signs, .ref a0_runFrom, .ref a0_runLong, .ref a0_runPiece, .int v0_runs, .ref a0_alike, .ref a0_stood])), (a0_all, .inl (D.2 1, 5228, .inl r3)), (a0_turnWord, .inl (D.2 1, 320, .inl g0_turnWord)), (a0_turnFrom, .inl (D.2 1, 320, .inl g0_turnFrom)), (a0_stood, .inl (D.2 1, 320, .inl g0_stood))]) ⟨hx, hb, hml, hown, hts⟩ (mX12_laysComing l D a0 a0_all a0_tape a0_isImage a0_turnWord a0_turnFrom a0_pieceSign a0_pieceFrom a0_runFrom a0_runLong a0_runPiece a0_alike a0_stood H.size v0_taped v0_faultKind v0_faultPlace v0_undos v0_turns v0_pieces v0_signs v0_runs g0_all N r3 hr3) (cwV 0 hts gX12_merge_X12_laysComing rfl rfl rfl (by decide +kernel) ⟨Nat.le_of_ble_eq_true rfl, Nat.le_of_ble_eq_true rfl⟩) hK hP hD hS hA [0, 1] [2, 3, 4] [3, 4, 0, 1, 2] rfl (by decide) rfl (by decide) (by decide) rfl (by decide) rfl rfl rfl hl.1 rfl (Nat.le_of_ble_eq_true rfl) dX12_merge_14 ⟨Nat.zero_le _, Nat.zero_le _⟩ (fun H locs hP hD hS => ?_)
    refine lv_aload_n hx hb dX12_merge_17 rfl (lv_at hl 0 rfl) ?_
    obtain ⟨r4, hr4, hf⟩ := bd hf
    refine zVi (As := []) (rest := []) (ci := 9) (q0 := 0) (wn := [(a0, .inr (9, [.ref a0_all, .ref a0_tape, .ref a0_isImage, .int v0_taped, .int v0_faultKind, .int v0_faultPlace, .int v0_undos, .ref a0_turnWord, .ref a0_turnFrom, .int r4.2.1, .ref a0_pieceSign, .ref a0_pieceFrom, .int v0_pieces, .int v0_signs, .ref a0_runFrom, .ref a0_runLong, .ref a0_runPiece, .int v0_runs, .ref a0_alike, .ref a0_stood])), (a0_all, .inl (D.2 1, 5228, .inl r3)), (a0_turnWord, .inl (D.2 1, 320, .inl r4.2.2.1)), (a0_turnFrom, .inl (D.2 1, 320, .inl r4.2.2.2.1)), (a0_stood, .inl (D.2 1, 320, .inl r4.2.2.2.2))]) ⟨hx, hb, hml, hown, hts⟩ (mX12_moved l D a0 a0_all a0_tape a0_isImage a0_turnWord a0_turnFrom a0_pieceSign a0_pieceFrom a0_runFrom a0_runLong a0_runPiece a0_alike a0_stood H.size v0_taped v0_faultKind v0_faultPlace v0_undos v0_turns v0_pieces v0_signs v0_runs r3 g0_turnWord g0_turnFrom g0_stood N r4 hr4) (cwV 0 hts gX12_merge_X12_moved rfl rfl rfl (by decide +kernel) ⟨Nat.le_of_ble_eq_true rfl, Nat.le_of_ble_eq_true rfl⟩) hK hP hD hS hA [0, 1, 2, 3, 4] [] [0, 1, 2, 3, 4] rfl (by decide) rfl (by decide) (by decide) rfl (by decide) rfl rfl rfl hl.1 rfl (Nat.le_of_ble_eq_true rfl) dX12_merge_18 ⟨Nat.zero_le _, Nat.zero_le _⟩ (fun H locs hP hD hS => ?_)
    refine lv_istore_n (lv' := [(1, .int r4.1), (0, .ref a0)]) hx hb dX12_merge_21 rfl hl (by decide) rfl (fun ls hl => ?_)
    refine lv_aload_n hx hb dX12_merge_22 rfl (lv_at hl 1 rfl) ?_
    refine va_get (D := D.1) (ci := 9) (v := .int v0_undos) (C := RX12) (T := TX12) (N := 20) hx hb hts hwX12 hown hK.1 hP 0 rfl rfl 6 (by decide) l177 (fun _ h9 => h9) rfl dX12_merge_23 ?_
    refine lv_iconst (v := 4) hx hb dX12_merge_26 (by decide) ?_
    refine lv_icmp_ne (tgt := 53) hx hb dX12_merge_27 (by decide) (fun c_5 => ?_) (fun c_5 => ?_)
    · replace hf := im c_5 hf
      exact k53 r4.1 v0_undos r4.2.1 r3 r4.2.2.1 r4.2.2.2.1 r4.2.2.2.2 H locs ls hf hP hD hS (lv_sub hl [1, 0] rfl)
    · replace hf := ip c_5 hf
      refine lv_aload_n hx hb dX12_merge_30 rfl (lv_at hl 1 rfl) ?_
      refine lv_sipush (v := 1727) hx hb dX12_merge_31 (by decide) ?_
      refine lv_sipush (v := 1406) hx hb dX12_merge_34 (by decide) ?_
      refine lv_sipush (v := 963) hx hb dX12_merge_37 (by decide) ?_
      obtain ⟨r6, hr6, hf⟩ := bd hf
      refine zVv (As := [.int (1727 : Int32), .int (1406 : Int32), .int (963 : Int32)]) (rest := []) (ci := 9) (q0 := 0) (wn := [(a0, .inr (9, [.ref a0_all, .ref a0_tape, .ref a0_isImage, .int v0_taped, .int v0_faultKind, .int v0_faultPlace, .int v0_undos, .ref a0_turnWord, .ref a0_turnFrom, .int r4.2.1, .ref a0_pieceSign, .ref a0_pieceFrom, .int v0_pieces, .int v0_signs, .ref a0_runFrom, .ref a0_runLong, .ref a0_runPiece, .int v0_runs, .ref a0_alike, .ref a0_stood])), (a0_all, .inl (D.2 1, 5228, .inl r6)), (a0_turnWord, .inl (D.2 1, 320, .inl r4.2.2.1)), (a0_turnFrom, .inl (D.2 1, 320, .inl r4.2.2.2.1)), (a0_stood, .inl (D.2 1, 320, .inl r4.2.2.2.2))]) ⟨hx, hb, hml, hown, hts⟩ (mX12_copies l D a0 a0_all a0_tape a0_isImage a0_turnWord a0_turnFrom a0_pieceSign a0_pieceFrom a0_runFrom a0_runLong a0_runPiece a0_alike a0_stood H.size v0_taped v0_faultKind v0_faultPlace v0_undos r4.2.1 v0_pieces v0_signs v0_runs r3 (1727 : Int32) (1406 : Int32) (963 : Int32) N r6 hr6) (cwV 3 hts gX12_merge_X12_copies rfl rfl rfl (by decide +kernel) ⟨Nat.le_of_ble_eq_true rfl, Nat.le_of_ble_eq_true rfl⟩) hK hP hD hS hA [0, 1] [2, 3, 4] [3, 4, 0, 1, 2] rfl (by decide) rfl (by decide) (by decide) rfl (by decide) rfl rfl rfl hl.1 rfl (Nat.le_of_ble_eq_true rfl) dX12_merge_40 ⟨Nat.zero_le _, Nat.zero_le _⟩ (fun H locs hP hD hS => ?_)
      refine lv_aload_n hx hb dX12_merge_43 rfl (lv_at hl 1 rfl) ?_
      refine lv_dup hx hb dX12_merge_44 rfl ?_
      refine va_get (D := D.1) (ci := 9) (v := .int v0_undos) (C := RX12) (T := TX12) (N := 20) hx hb hts hwX12 hown hK.1 hP 0 rfl rfl 6 (by decide) l177 (fun _ h9 => h9) rfl dX12_merge_45 ?_
      refine lv_iconst (v := 1) hx hb dX12_merge_48 (by decide) ?_
      refine lv_isub hx hb dX12_merge_49 ?_
      refine va_put (D := D.1) (ci := 9) (v := .int (v0_undos - (1 : Int32))) (ty := .int) (C := RX12) (T := TX12) (N := 20) hx hb hts hwX12 tyX12 tyX12_ok nmX12 hown hK.1 hP hD hS 0 rfl rfl 6 (by decide) l177 (fun _ h9 => h9) rfl (by decide +kernel) rfl rfl (Nat.le_of_ble_eq_true rfl) dX12_merge_50 (fun H locs hP hD hS => ?_)
      have hP : va_P D.1 vwCl [(a0, .inr (9, [.ref a0_all, .ref a0_tape, .ref a0_isImage, .int v0_taped, .int v0_faultKind, .int v0_faultPlace, .int (v0_undos - (1 : Int32)), .ref a0_turnWord, .ref a0_turnFrom, .int r4.2.1, .ref a0_pieceSign, .ref a0_pieceFrom, .int v0_pieces, .int v0_signs, .ref a0_runFrom, .ref a0_runLong, .ref a0_runPiece, .int v0_runs, .ref a0_alike, .ref a0_stood])), (a0_all, .inl (D.2 1, 5228, .inl r6)), (a0_turnWord, .inl (D.2 1, 320, .inl r4.2.2.1)), (a0_turnFrom, .inl (D.2 1, 320, .inl r4.2.2.2.1)), (a0_stood, .inl (D.2 1, 320, .inl r4.2.2.2.2))] H := hP
      have hD : va_D A [(a0, .inr (9, [.ref a0_all, .ref a0_tape, .ref a0_isImage, .int v0_taped, .int v0_faultKind, .int v0_faultPlace, .int (v0_undos - (1 : Int32)), .ref a0_turnWord, .ref a0_turnFrom, .int r4.2.1, .ref a0_pieceSign, .ref a0_pieceFrom, .int v0_pieces, .int v0_signs, .ref a0_runFrom, .ref a0_runLong, .ref a0_runPiece, .int v0_runs, .ref a0_alike, .ref a0_stood])), (a0_all, .inl (D.2 1, 5228, .inl r6)), (a0_turnWord, .inl (D.2 1, 320, .inl r4.2.2.1)), (a0_turnFrom, .inl (D.2 1, 320, .inl r4.2.2.2.1)), (a0_stood, .inl (D.2 1, 320, .inl r4.2.2.2.2))] := hD
      exact k53 r4.1 (v0_undos - (1 : Int32)) r4.2.1 r6 r4.2.2.1 r4.2.2.2.1 r4.2.2.2.2 H locs ls hf hP hD hS (lv_sub hl [1, 0] rfl)
  · replace hf := ip c_2 hf
    refine lv_iconst (v := 0) hx hb dX12_merge_11 (by decide) ?_
    have he := Option.some.inj hf
    rw [hQ]
    exact W.iret (v := (0 : Int32)) hx hb hr (fun t ht hW => by rw [← he]; exact ⟨⟨(0 : Int32), (), rfl, rfl, by rw [ht]; exact hP, hD⟩, hS.F ht⟩) hS.2.2 dX12_merge_12
def fX12_undo (N : Nat) (v0_undos : Int32) (g0_all : Nat → Int32) : Option (Int32 × Int32 × (Nat → Int32)) :=
  if v0_undos = (0 : Int32) then
    some ((-1 : Int32), v0_undos, g0_all)
  else
    Option.bind (fX12_copies N g0_all ((1406 : Int32) + ((321 : Int32) * (v0_undos - (1 : Int32)))) (0 : Int32) (321 : Int32)) fun r2 =>
    if (321 : Int32) < 0 ∨ 5228 ≤ ((321 : Int32)).toNatClampNeg then none else
    some ((v0_undos - (1 : Int32)), (v0_undos - (1 : Int32)), (upd r2 ((321 : Int32)).toNatClampNeg (0 : Int32)))
set_option maxHeartbeats 4000000 in
set_option maxRecDepth 100000 in
theorem mX12_undo (l : Launch) (D : zG) (a0 : Nat) (a0_all : Nat) (a0_tape : Nat) (a0_isImage : Nat) (a0_turnWord : Nat) (a0_turnFrom : Nat) (a0_pieceSign : Nat) (a0_pieceFrom : Nat) (a0_runFrom : Nat) (a0_runLong : Nat) (a0_runPiece : Nat) (a0_alike : Nat) (a0_stood : Nat) (sz : Nat)  (v0_taped : Int32) (v0_faultKind : Int32) (v0_faultPlace : Int32) (v0_undos : Int32) (v0_turns : Int32) (v0_pieces : Int32) (v0_signs : Int32) (v0_runs : Int32) (g0_all : Nat → Int32)  (N : Nat) (res : Int32 × Int32 × (Nat → Int32)) (hf : fX12_undo N v0_undos g0_all = some res) : Met l yX12_undo wsX12_undo ({ frames := 1, cells := 0, slots := 0, locals := 24 } : Room) (va_Pc [.ref a0] (zW D sz [(a0, .inr (9, [.ref a0_all, .ref a0_tape, .ref a0_isImage, .int v0_taped, .int v0_faultKind, .int v0_faultPlace, .int v0_undos, .ref a0_turnWord, .ref a0_turnFrom, .int v0_turns, .ref a0_pieceSign, .ref a0_pieceFrom, .int v0_pieces, .int v0_signs, .ref a0_runFrom, .ref a0_runLong, .ref a0_runPiece, .int v0_runs, .ref a0_alike, .ref a0_stood])), (a0_all, .inl (D.2 1, 5228, .inl g0_all))])) (va_Qi (fun r (_ : Unit) => r = res.1) (fun _ => zB D (va_A [(a0, .inr (9, [.ref a0_all, .ref a0_tape, .ref a0_isImage, .int v0_taped, .int v0_faultKind, .int v0_faultPlace, .int v0_undos, .ref a0_turnWord, .ref a0_turnFrom, .int v0_turns, .ref a0_pieceSign, .ref a0_pieceFrom, .int v0_pieces, .int v0_signs, .ref a0_runFrom, .ref a0_runLong, .ref a0_runPiece, .int v0_runs, .ref a0_alike, .ref a0_stood])), (a0_all, .inl (D.2 1, 5228, .inl g0_all))] sz) [(a0, .inr (9, [.ref a0_all, .ref a0_tape, .ref a0_isImage, .int v0_taped, .int v0_faultKind, .int v0_faultPlace, .int res.2.1, .ref a0_turnWord, .ref a0_turnFrom, .int v0_turns, .ref a0_pieceSign, .ref a0_pieceFrom, .int v0_pieces, .int v0_signs, .ref a0_runFrom, .ref a0_runLong, .ref a0_runPiece, .int v0_runs, .ref a0_alike, .ref a0_stood])), (a0_all, .inl (D.2 1, 5228, .inl res.2.2))]) (va_A [(a0, .inr (9, [.ref a0_all, .ref a0_tape, .ref a0_isImage, .int v0_taped, .int v0_faultKind, .int v0_faultPlace, .int v0_undos, .ref a0_turnWord, .ref a0_turnFrom, .int v0_turns, .ref a0_pieceSign, .ref a0_pieceFrom, .int v0_pieces, .int v0_signs, .ref a0_runFrom, .ref a0_runLong, .ref a0_runPiece, .int v0_runs, .ref a0_alike, .ref a0_stood])), (a0_all, .inl (D.2 1, 5228, .inl g0_all))] sz)) 0 0 (va_A [(a0, .inr (9, [.ref a0_all, .ref a0_tape, .ref a0_isImage, .int v0_taped, .int v0_faultKind, .int v0_faultPlace, .int v0_undos, .ref a0_turnWord, .ref a0_turnFrom, .int v0_turns, .ref a0_pieceSign, .ref a0_pieceFrom, .int v0_pieces, .int v0_signs, .ref a0_runFrom, .ref a0_runLong, .ref a0_runPiece, .int v0_runs, .ref a0_alike, .ref a0_stood])), (a0_all, .inl (D.2 1, 5228, .inl g0_all))] sz) := by
  refine Met.ofW (cc := cX12_undo) (maxL := 1) (ret := (some .int)) (by decide) rfl ?_
  intro p e s m args below meth c s₁ B hml hv
  obtain ⟨rfl, hsz, hP, hK, hD0⟩ := hv
  have hx := B.exec
  have hb := B.bytes
  have hr := B.returns
  have hts := atoms_spec (ws := wsX12_undo) B.pre
  have hown : s.vm.findClass RX12 = some m.cls := findClass_of_methodNamed B.named
  have hlocks := B.notSynchronized
  subst hsz
  have hD := hD0.self (sz := s.heap.size)
  generalize hAe : va_A [(a0, .inr (9, [.ref a0_all, .ref a0_tape, .ref a0_isImage, .int v0_taped, .int v0_faultKind, .int v0_faultPlace, .int v0_undos, .ref a0_turnWord, .ref a0_turnFrom, .int v0_turns, .ref a0_pieceSign, .ref a0_pieceFrom, .int v0_pieces, .int v0_signs, .ref a0_runFrom, .ref a0_runLong, .ref a0_runPiece, .int v0_runs, .ref a0_alike, .ref a0_stood])), (a0_all, .inl (D.2 1, 5228, .inl g0_all))] s.heap.size = A at hD ⊢
  have hA : ∀ q : Nat, s.heap.size ≤ q → A q := fun q h => by rw [← hAe]; exact Or.inr h
  have l177 := zat hts 1 (w := .fieldLink RX12 177 "TurnedWordsModel" "undos" "I") rfl
  have l7 := zat hts 2 (w := .fieldLink RX12 7 "TurnedWordsModel" "all" "[I") rfl
  have hwX12 : ∀ w ∈ u_ws RX12 TX12 20, w ∈ wsX12_undo := fun w h => List.mem_cons_of_mem _ (List.mem_append_right _ h)
  have hl := lv_entry ([.ref a0]) (n := 1) (Nat.le_of_ble_eq_true rfl)
  rw [lg_entry_eq]
  generalize (lg_sl ([.ref a0]) ++ List.replicate (1 - (lg_sl ([.ref a0])).length) Slot.unset).toArray = ls at hl ⊢
  have hl : lv_has ls 1 [(0, .ref a0)] := hl
  refine zStart (A := A) hP (fun Q0 H locs hQ hP hS => ?_)
  unfold fX12_undo at hf
  refine lv_aload_n hx hb dX12_undo_0 rfl (lv_at hl 0 rfl) ?_
  refine va_get (D := D.1) (ci := 9) (v := .int v0_undos) (C := RX12) (T := TX12) (N := 20) hx hb hts hwX12 hown hK.1 hP 0 rfl rfl 6 (by decide) l177 (fun _ h9 => h9) rfl dX12_undo_1 ?_
  refine lv_if_ne (tgt := 9) hx hb dX12_undo_4 (by decide) (fun c_1 => ?_) (fun c_1 => ?_)
  · replace hf := im c_1 hf
    refine lv_aload_n hx hb dX12_undo_9 rfl (lv_at hl 0 rfl) ?_
    refine lv_dup hx hb dX12_undo_10 rfl ?_
    refine va_get (D := D.1) (ci := 9) (v := .int v0_undos) (C := RX12) (T := TX12) (N := 20) hx hb hts hwX12 hown hK.1 hP 0 rfl rfl 6 (by decide) l177 (fun _ h9 => h9) rfl dX12_undo_11 ?_
    refine lv_iconst (v := 1) hx hb dX12_undo_14 (by decide) ?_
    refine lv_isub hx hb dX12_undo_15 ?_
    refine va_put (D := D.1) (ci := 9) (v := .int (v0_undos - (1 : Int32))) (ty := .int) (C := RX12) (T := TX12) (N := 20) hx hb hts hwX12 tyX12 tyX12_ok nmX12 hown hK.1 hP hD hS 0 rfl rfl 6 (by decide) l177 (fun _ h9 => h9) rfl (by decide +kernel) rfl rfl (Nat.le_of_ble_eq_true rfl) dX12_undo_16 (fun H locs hP hD hS => ?_)
    have hP : va_P D.1 vwCl [(a0, .inr (9, [.ref a0_all, .ref a0_tape, .ref a0_isImage, .int v0_taped, .int v0_faultKind, .int v0_faultPlace, .int (v0_undos - (1 : Int32)), .ref a0_turnWord, .ref a0_turnFrom, .int v0_turns, .ref a0_pieceSign, .ref a0_pieceFrom, .int v0_pieces, .int v0_signs, .ref a0_runFrom, .ref a0_runLong, .ref a0_runPiece, .int v0_runs, .ref a0_alike, .ref a0_stood])), (a0_all, .inl (D.2 1, 5228, .inl g0_all))] H := hP
    have hD : va_D A [(a0, .inr (9, [.ref a0_all, .ref a0_tape, .ref a0_isImage, .int v0_taped, .int v0_faultKind, .int v0_faultPlace, .int (v0_undos - (1 : Int32)), .ref a0_turnWord, .ref a0_turnFrom, .int v0_turns, .ref a0_pieceSign, .ref a0_pieceFrom, .int v0_pieces, .int v0_signs, .ref a0_runFrom, .ref a0_runLong, .ref a0_runPiece, .int v0_runs, .ref a0_alike, .ref a0_stood])), (a0_all, .inl (D.2 1, 5228, .inl g0_all))] := hD
    refine lv_aload_n hx hb dX12_undo_19 rfl (lv_at hl 0 rfl) ?_
    refine lv_sipush (v := 1406) hx hb dX12_undo_20 (by decide) ?_
    refine lv_sipush (v := 321) hx hb dX12_undo_23 (by decide) ?_
    refine lv_aload_n hx hb dX12_undo_26 rfl (lv_at hl 0 rfl) ?_
    refine va_get (D := D.1) (ci := 9) (v := .int (v0_undos - (1 : Int32))) (C := RX12) (T := TX12) (N := 20) hx hb hts hwX12 hown hK.1 hP 0 rfl rfl 6 (by decide) l177 (fun _ h9 => h9) rfl dX12_undo_27 ?_
    refine lv_imul hx hb dX12_undo_30 ?_
    refine lv_iadd hx hb dX12_undo_31 ?_
    refine lv_iconst (v := 0) hx hb dX12_undo_32 (by decide) ?_
    refine lv_sipush (v := 321) hx hb dX12_undo_33 (by decide) ?_
    obtain ⟨r2, hr2, hf⟩ := bd hf
    refine zVv (As := [.int ((1406 : Int32) + ((321 : Int32) * (v0_undos - (1 : Int32)))), .int (0 : Int32), .int (321 : Int32)]) (rest := []) (ci := 9) (q0 := 0) (wn := [(a0, .inr (9, [.ref a0_all, .ref a0_tape, .ref a0_isImage, .int v0_taped, .int v0_faultKind, .int v0_faultPlace, .int (v0_undos - (1 : Int32)), .ref a0_turnWord, .ref a0_turnFrom, .int v0_turns, .ref a0_pieceSign, .ref a0_pieceFrom, .int v0_pieces, .int v0_signs, .ref a0_runFrom, .ref a0_runLong, .ref a0_runPiece, .int v0_runs, .ref a0_alike, .ref a0_stood])), (a0_all, .inl (D.2 1, 5228, .inl r2))]) ⟨hx, hb, hml, hown, hts⟩ (mX12_copies l D a0 a0_all a0_tape a0_isImage a0_turnWord a0_turnFrom a0_pieceSign a0_pieceFrom a0_runFrom a0_runLong a0_runPiece a0_alike a0_stood H.size v0_taped v0_faultKind v0_faultPlace (v0_undos - (1 : Int32)) v0_turns v0_pieces v0_signs v0_runs g0_all ((1406 : Int32) + ((321 : Int32) * (v0_undos - (1 : Int32)))) (0 : Int32) (321 : Int32) N r2 hr2) (cwV 3 hts gX12_undo_X12_copies rfl rfl rfl (by decide +kernel) ⟨Nat.le_of_ble_eq_true rfl, Nat.le_of_ble_eq_true rfl⟩) hK hP hD hS hA [0, 1] [] [0, 1] rfl (by decide) rfl (by decide) (by decide) rfl (by decide) rfl rfl rfl hl.1 rfl (Nat.le_of_ble_eq_true rfl) dX12_undo_36 ⟨Nat.zero_le _, Nat.zero_le _⟩ (fun H locs hP hD hS => ?_)
    refine lv_aload_n hx hb dX12_undo_39 rfl (lv_at hl 0 rfl) ?_
    refine va_get (D := D.1) (ci := 9) (v := .ref a0_all) (C := RX12) (T := TX12) (N := 20) hx hb hts hwX12 hown hK.1 hP 0 rfl rfl 0 (by decide) l7 (fun _ h9 => h9) rfl dX12_undo_40 ?_
    refine lv_sipush (v := 321) hx hb dX12_undo_43 (by decide) ?_
    refine lv_iconst (v := 0) hx hb dX12_undo_46 (by decide) ?_
    obtain ⟨h_3, hf⟩ := gd hf
    refine va_iast hx hb hK.1 hP hD hS 1 1 rfl rfl h_3 dX12_undo_47 (fun H locs hP hD hS => ?_)
    have hP : va_P D.1 vwCl [(a0, .inr (9, [.ref a0_all, .ref a0_tape, .ref a0_isImage, .int v0_taped, .int v0_faultKind, .int v0_faultPlace, .int (v0_undos - (1 : Int32)), .ref a0_turnWord, .ref a0_turnFrom, .int v0_turns, .ref a0_pieceSign, .ref a0_pieceFrom, .int v0_pieces, .int v0_signs, .ref a0_runFrom, .ref a0_runLong, .ref a0_runPiece, .int v0_runs, .ref a0_alike, .ref a0_stood])), (a0_all, .inl (D.2 1, 5228, .inl (upd r2 ((321 : Int32)).toNatClampNeg (0 : Int32))))] H := hP
    have hD : va_D A [(a0, .inr (9, [.ref a0_all, .ref a0_tape, .ref a0_isImage, .int v0_taped, .int v0_faultKind, .int v0_faultPlace, .int (v0_undos - (1 : Int32)), .ref a0_turnWord, .ref a0_turnFrom, .int v0_turns, .ref a0_pieceSign, .ref a0_pieceFrom, .int v0_pieces, .int v0_signs, .ref a0_runFrom, .ref a0_runLong, .ref a0_runPiece, .int v0_runs, .ref a0_alike, .ref a0_stood])), (a0_all, .inl (D.2 1, 5228, .inl (upd r2 ((321 : Int32)).toNatClampNeg (0 : Int32))))] := hD
    refine lv_aload_n hx hb dX12_undo_48 rfl (lv_at hl 0 rfl) ?_
    refine va_get (D := D.1) (ci := 9) (v := .int (v0_undos - (1 : Int32))) (C := RX12) (T := TX12) (N := 20) hx hb hts hwX12 hown hK.1 hP 0 rfl rfl 6 (by decide) l177 (fun _ h9 => h9) rfl dX12_undo_49 ?_
    have he := Option.some.inj hf
    rw [hQ]
    exact W.iret (v := (v0_undos - (1 : Int32))) hx hb hr (fun t ht hW => by rw [← he]; exact ⟨⟨(v0_undos - (1 : Int32)), (), rfl, rfl, by rw [ht]; exact hP, hD⟩, hS.F ht⟩) hS.2.2 dX12_undo_52
  · replace hf := ip c_1 hf
    refine lv_iconst (v := -1) hx hb dX12_undo_7 (by decide) ?_
    have he := Option.some.inj hf
    rw [hQ]
    exact W.iret (v := (-1 : Int32)) hx hb hr (fun t ht hW => by rw [← he]; exact ⟨⟨(-1 : Int32), (), rfl, rfl, by rw [ht]; exact hP, hD⟩, hS.F ht⟩) hS.2.2 dX12_undo_8
def fX12_image_32 (N : Nat) (v0_taped : Int32) (v0_faultKind : Int32) (v0_faultPlace : Int32) (g0_tape : Nat → Int32) (p1 : Int32) : Nat → Int32 → Int32 → (Nat → Int32) → (Nat → Int32) → Option (Int32 × (Nat → Int32) × (Nat → Int32))
  | 0, _, _, _, _ => none
  | K + 1, x2, x3, g0_all, g0_isImage =>
    if (400 : Int32) ≤ x3 then
      if ((x2 + (443 : Int32)) + (400 : Int32)) < 0 ∨ 5228 ≤ (((x2 + (443 : Int32)) + (400 : Int32))).toNatClampNeg then none else
      if (((x2 + (443 : Int32)) + (400 : Int32)) + (1 : Int32)) < 0 ∨ 5228 ≤ ((((x2 + (443 : Int32)) + (400 : Int32)) + (1 : Int32))).toNatClampNeg then none else
      if (((x2 + (443 : Int32)) + (400 : Int32)) + (2 : Int32)) < 0 ∨ 5228 ≤ ((((x2 + (443 : Int32)) + (400 : Int32)) + (2 : Int32))).toNatClampNeg then none else
      if p1 < 0 ∨ 3 ≤ (p1).toNatClampNeg then none else
      some ((1 : Int32), (upd (upd (upd g0_all (((x2 + (443 : Int32)) + (400 : Int32))).toNatClampNeg v0_taped) ((((x2 + (443 : Int32)) + (400 : Int32)) + (1 : Int32))).toNatClampNeg v0_faultKind) ((((x2 + (443 : Int32)) + (400 : Int32)) + (2 : Int32))).toNatClampNeg v0_faultPlace), (upd g0_isImage (p1).toNatClampNeg (vp_nar .boolean (1 : Int32))))
    else
      if x3 < 0 ∨ 400 ≤ (x3).toNatClampNeg then none else
      if ((x2 + (443 : Int32)) + x3) < 0 ∨ 5228 ≤ (((x2 + (443 : Int32)) + x3)).toNatClampNeg then none else
      (fX12_image_32 N v0_taped v0_faultKind v0_faultPlace g0_tape p1 K) x2 (x3 + (1 : Int32)) (upd g0_all (((x2 + (443 : Int32)) + x3)).toNatClampNeg (g0_tape (x3).toNatClampNeg)) g0_isImage
def fX12_image (N : Nat) (v0_taped : Int32) (v0_faultKind : Int32) (v0_faultPlace : Int32) (g0_all : Nat → Int32) (g0_tape : Nat → Int32) (g0_isImage : Nat → Int32) (p1 : Int32) : Option (Int32 × (Nat → Int32) × (Nat → Int32)) :=
  Option.bind (fX12_isIn p1 (0 : Int32) (2 : Int32)) fun r1 =>
  if r1 = (0 : Int32) then
    some ((0 : Int32), g0_all, g0_isImage)
  else
    Option.bind (fX12_copies N g0_all (0 : Int32) ((2690 : Int32) + ((846 : Int32) * p1)) (443 : Int32)) fun r4 =>
    fX12_image_32 N v0_taped v0_faultKind v0_faultPlace g0_tape p1 N ((2690 : Int32) + ((846 : Int32) * p1)) (0 : Int32) r4 g0_isImage
set_option maxHeartbeats 4000000 in
set_option maxRecDepth 100000 in
theorem mX12_image (l : Launch) (D : zG) (a0 : Nat) (a0_all : Nat) (a0_tape : Nat) (a0_isImage : Nat) (a0_turnWord : Nat) (a0_turnFrom : Nat) (a0_pieceSign : Nat) (a0_pieceFrom : Nat) (a0_runFrom : Nat) (a0_runLong : Nat) (a0_runPiece : Nat) (a0_alike : Nat) (a0_stood : Nat) (sz : Nat)  (v0_taped : Int32) (v0_faultKind : Int32) (v0_faultPlace : Int32) (v0_undos : Int32) (v0_turns : Int32) (v0_pieces : Int32) (v0_signs : Int32) (v0_runs : Int32) (g0_all : Nat → Int32) (g0_tape : Nat → Int32) (g0_isImage : Nat → Int32) (p1 : Int32) (N : Nat) (res : Int32 × (Nat → Int32) × (Nat → Int32)) (hf : fX12_image N v0_taped v0_faultKind v0_faultPlace g0_all g0_tape g0_isImage p1 = some res) : Met l yX12_image wsX12_image ({ frames := 1, cells := 0, slots := 0, locals := 24 } : Room) (va_Pc [.ref a0, .int p1] (zW D sz [(a0, .inr (9, [.ref a0_all, .ref a0_tape, .ref a0_isImage, .int v0_taped, .int v0_faultKind, .int v0_faultPlace, .int v0_undos, .ref a0_turnWord, .ref a0_turnFrom, .int v0_turns, .ref a0_pieceSign, .ref a0_pieceFrom, .int v0_pieces, .int v0_signs, .ref a0_runFrom, .ref a0_runLong, .ref a0_runPiece, .int v0_runs, .ref a0_alike, .ref a0_stood])), (a0_all, .inl (D.2 1, 5228, .inl g0_all)), (a0_tape, .inl (D.2 1, 400, .inl g0_tape)), (a0_isImage, .inl (D.2 3, 3, .inl g0_isImage))])) (va_Qi (fun r (_ : Unit) => r = res.1 ∧ (r = 0 ∨ r = 1)) (fun _ => zB D (va_A [(a0, .inr (9, [.ref a0_all, .ref a0_tape, .ref a0_isImage, .int v0_taped, .int v0_faultKind, .int v0_faultPlace, .int v0_undos, .ref a0_turnWord, .ref a0_turnFrom, .int v0_turns, .ref a0_pieceSign, .ref a0_pieceFrom, .int v0_pieces, .int v0_signs, .ref a0_runFrom, .ref a0_runLong, .ref a0_runPiece, .int v0_runs, .ref a0_alike, .ref a0_stood])), (a0_all, .inl (D.2 1, 5228, .inl g0_all)), (a0_tape, .inl (D.2 1, 400, .inl g0_tape)), (a0_isImage, .inl (D.2 3, 3, .inl g0_isImage))] sz) [(a0, .inr (9, [.ref a0_all, .ref a0_tape, .ref a0_isImage, .int v0_taped, .int v0_faultKind, .int v0_faultPlace, .int v0_undos, .ref a0_turnWord, .ref a0_turnFrom, .int v0_turns, .ref a0_pieceSign, .ref a0_pieceFrom, .int v0_pieces, .int v0_signs, .ref a0_runFrom, .ref a0_runLong, .ref a0_runPiece, .int v0_runs, .ref a0_alike, .ref a0_stood])), (a0_all, .inl (D.2 1, 5228, .inl res.2.1)), (a0_tape, .inl (D.2 1, 400, .inl g0_tape)), (a0_isImage, .inl (D.2 3, 3, .inl res.2.2))]) (va_A [(a0, .inr (9, [.ref a0_all, .ref a0_tape, .ref a0_isImage, .int v0_taped, .int v0_faultKind, .int v0_faultPlace, .int v0_undos, .ref a0_turnWord, .ref a0_turnFrom, .int v0_turns, .ref a0_pieceSign, .ref a0_pieceFrom, .int v0_pieces, .int v0_signs, .ref a0_runFrom, .ref a0_runLong, .ref a0_runPiece, .int v0_runs, .ref a0_alike, .ref a0_stood])), (a0_all, .inl (D.2 1, 5228, .inl g0_all)), (a0_tape, .inl (D.2 1, 400, .inl g0_tape)), (a0_isImage, .inl (D.2 3, 3, .inl g0_isImage))] sz)) 0 0 (va_A [(a0, .inr (9, [.ref a0_all, .ref a0_tape, .ref a0_isImage, .int v0_taped, .int v0_faultKind, .int v0_faultPlace, .int v0_undos, .ref a0_turnWord, .ref a0_turnFrom, .int v0_turns, .ref a0_pieceSign, .ref a0_pieceFrom, .int v0_pieces, .int v0_signs, .ref a0_runFrom, .ref a0_runLong, .ref a0_runPiece, .int v0_runs, .ref a0_alike, .ref a0_stood])), (a0_all, .inl (D.2 1, 5228, .inl g0_all)), (a0_tape, .inl (D.2 1, 400, .inl g0_tape)), (a0_isImage, .inl (D.2 3, 3, .inl g0_isImage))] sz) := by
  refine Met.ofW (cc := cX12_image) (maxL := 4) (ret := (some .boolean)) (by decide) rfl ?_
  intro p e s m args below meth c s₁ B hml hv
  obtain ⟨rfl, hsz, hP, hK, hD0⟩ := hv
  have hx := B.exec
  have hb := B.bytes
  have hr := B.returns
  have hts := atoms_spec (ws := wsX12_image) B.pre
  have hown : s.vm.findClass RX12 = some m.cls := findClass_of_methodNamed B.named
  have hlocks := B.notSynchronized
  subst hsz
  have hD := hD0.self (sz := s.heap.size)
  generalize hAe : va_A [(a0, .inr (9, [.ref a0_all, .ref a0_tape, .ref a0_isImage, .int v0_taped, .int v0_faultKind, .int v0_faultPlace, .int v0_undos, .ref a0_turnWord, .ref a0_turnFrom, .int v0_turns, .ref a0_pieceSign, .ref a0_pieceFrom, .int v0_pieces, .int v0_signs, .ref a0_runFrom, .ref a0_runLong, .ref a0_runPiece, .int v0_runs, .ref a0_alike, .ref a0_stood])), (a0_all, .inl (D.2 1, 5228, .inl g0_all)), (a0_tape, .inl (D.2 1, 400, .inl g0_tape)), (a0_isImage, .inl (D.2 3, 3, .inl g0_isImage))] s.heap.size = A at hD ⊢
  have hA : ∀ q : Nat, s.heap.size ≤ q → A q := fun q h => by rw [← hAe]; exact Or.inr h
  have l7 := zat hts 1 (w := .fieldLink RX12 7 "TurnedWordsModel" "all" "[I") rfl
  have l180 := zat hts 3 (w := .fieldLink RX12 180 "TurnedWordsModel" "taped" "I") rfl
  have l201 := zat hts 4 (w := .fieldLink RX12 201 "TurnedWordsModel" "faultKind" "I") rfl
  have l20 := zat hts 5 (w := .fieldLink RX12 20 "TurnedWordsModel" "faultPlace" "I") rfl
  have l16 := zat hts 6 (w := .fieldLink RX12 16 "TurnedWordsModel" "isImage" "[Z") rfl
  have l13 := zat hts 2 (w := .fieldLink RX12 13 "TurnedWordsModel" "tape" "[I") rfl
  have hwX12 : ∀ w ∈ u_ws RX12 TX12 20, w ∈ wsX12_image := fun w h => List.mem_cons_of_mem _ (List.mem_append_right _ h)
  have hl := lv_entry ([.ref a0, .int p1]) (n := 4) (Nat.le_of_ble_eq_true rfl)
  rw [lg_entry_eq]
  generalize (lg_sl ([.ref a0, .int p1]) ++ List.replicate (4 - (lg_sl ([.ref a0, .int p1])).length) Slot.unset).toArray = ls at hl ⊢
  have hl : lv_has ls 4 [(0, .ref a0), (1, .int p1)] := hl
  refine zStart (A := A) hP (fun Q0 H locs hQ hP hS => ?_)
  have k32 : ∀ K : Nat, ∀ (x2 : Int32) (x3 : Int32) (g0_all : Nat → Int32) (g0_isImage : Nat → Int32) (H : Heap) (locs : List Loc) (ls : Array Slot), fX12_image_32 N v0_taped v0_faultKind v0_faultPlace g0_tape p1 K x2 x3 g0_all g0_isImage = some res → va_P D.1 vwCl [(a0, .inr (9, [.ref a0_all, .ref a0_tape, .ref a0_isImage, .int v0_taped, .int v0_faultKind, .int v0_faultPlace, .int v0_undos, .ref a0_turnWord, .ref a0_turnFrom, .int v0_turns, .ref a0_pieceSign, .ref a0_pieceFrom, .int v0_pieces, .int v0_signs, .ref a0_runFrom, .ref a0_runLong, .ref a0_runPiece, .int v0_runs, .ref a0_alike, .ref a0_stood])), (a0_all, .inl (D.2 1, 5228, .inl g0_all)), (a0_tape, .inl (D.2 1, 400, .inl g0_tape)), (a0_isImage, .inl (D.2 3, 3, .inl g0_isImage))] H → va_D A [(a0, .inr (9, [.ref a0_all, .ref a0_tape, .ref a0_isImage, .int v0_taped, .int v0_faultKind, .int v0_faultPlace, .int v0_undos, .ref a0_turnWord, .ref a0_turnFrom, .int v0_turns, .ref a0_pieceSign, .ref a0_pieceFrom, .int v0_pieces, .int v0_signs, .ref a0_runFrom, .ref a0_runLong, .ref a0_runPiece, .int v0_runs, .ref a0_alike, .ref a0_stood])), (a0_all, .inl (D.2 1, 5228, .inl g0_all)), (a0_tape, .inl (D.2 1, 400, .inl g0_tape)), (a0_isImage, .inl (D.2 3, 3, .inl g0_isImage))] → va_S A s.heap H locs → lv_has ls 4 [(0, .ref a0), (1, .int p1), (2, .int x2), (3, .int x3)] → W p l e (headSpec wsX12_image ({ frames := 1, cells := 0, slots := 0, locals := 24 } : Room)).room s m ([.ref a0, .int p1] : List Value).toArray below meth c H locs 0 0 Q0 (F0 m 32 ls []) := by
    intro K
    induction K with
    | zero =>
      intro x2 x3 g0_all g0_isImage H locs ls hf
      rw [fX12_image_32] at hf
      cases hf
    | succ K ih =>
      intro x2 x3 g0_all g0_isImage H locs ls hf hP hD hS hl
      rw [fX12_image_32] at hf
      refine lv_iload_n hx hb dX12_image_32 rfl (lv_at hl 3 rfl) ?_
      refine lv_sipush (v := 400) hx hb dX12_image_33 (by decide) ?_
      refine lv_icmp_ge (tgt := 63) hx hb dX12_image_36 (by decide) (fun c_5 => ?_) (fun c_5 => ?_)
      · replace hf := ip c_5 hf
        refine lv_aload_n hx hb dX12_image_63 rfl (lv_at hl 0 rfl) ?_
        refine va_get (D := D.1) (ci := 9) (v := .ref a0_all) (C := RX12) (T := TX12) (N := 20) hx hb hts hwX12 hown hK.1 hP 0 rfl rfl 0 (by decide) l7 (fun _ h9 => h9) rfl dX12_image_64 ?_
        refine lv_iload_n hx hb dX12_image_67 rfl (lv_at hl 2 rfl) ?_
        refine lv_sipush (v := 443) hx hb dX12_image_68 (by decide) ?_
        refine lv_iadd hx hb dX12_image_71 ?_
        refine lv_sipush (v := 400) hx hb dX12_image_72 (by decide) ?_
        refine lv_iadd hx hb dX12_image_75 ?_
        refine lv_aload_n hx hb dX12_image_76 rfl (lv_at hl 0 rfl) ?_
        refine va_get (D := D.1) (ci := 9) (v := .int v0_taped) (C := RX12) (T := TX12) (N := 20) hx hb hts hwX12 hown hK.1 hP 0 rfl rfl 3 (by decide) l180 (fun _ h9 => h9) rfl dX12_image_77 ?_
        obtain ⟨h_6, hf⟩ := gd hf
        refine va_iast hx hb hK.1 hP hD hS 1 1 rfl rfl h_6 dX12_image_80 (fun H locs hP hD hS => ?_)
        have hP : va_P D.1 vwCl [(a0, .inr (9, [.ref a0_all, .ref a0_tape, .ref a0_isImage, .int v0_taped, .int v0_faultKind, .int v0_faultPlace, .int v0_undos, .ref a0_turnWord, .ref a0_turnFrom, .int v0_turns, .ref a0_pieceSign, .ref a0_pieceFrom, .int v0_pieces, .int v0_signs, .ref a0_runFrom, .ref a0_runLong, .ref a0_runPiece, .int v0_runs, .ref a0_alike, .ref a0_stood])), (a0_all, .inl (D.2 1, 5228, .inl (upd g0_all (((x2 + (443 : Int32)) + (400 : Int32))).toNatClampNeg v0_taped))), (a0_tape, .inl (D.2 1, 400, .inl g0_tape)), (a0_isImage, .inl (D.2 3, 3, .inl g0_isImage))] H := hP
        have hD : va_D A [(a0, .inr (9, [.ref a0_all, .ref a0_tape, .ref a0_isImage, .int v0_taped, .int v0_faultKind, .int v0_faultPlace, .int v0_undos, .ref a0_turnWord, .ref a0_turnFrom, .int v0_turns, .ref a0_pieceSign, .ref a0_pieceFrom, .int v0_pieces, .int v0_signs, .ref a0_runFrom, .ref a0_runLong, .ref a0_runPiece, .int v0_runs, .ref a0_alike, .ref a0_stood])), (a0_all, .inl (D.2 1, 5228, .inl (upd g0_all (((x2 + (443 : Int32)) + (400 : Int32))).toNatClampNeg v0_taped))), (a0_tape, .inl (D.2 1, 400, .inl g0_tape)), (a0_isImage, .inl (D.2 3, 3, .inl g0_isImage))] := hD
        refine lv_aload_n hx hb dX12_image_81 rfl (lv_at hl 0 rfl) ?_
        refine va_get (D := D.1) (ci := 9) (v := .ref a0_all) (C := RX12) (T := TX12) (N := 20) hx hb hts hwX12 hown hK.1 hP 0 rfl rfl 0 (by decide) l7 (fun _ h9 => h9) rfl dX12_image_82 ?_
        refine lv_iload_n hx hb dX12_image_85 rfl (lv_at hl 2 rfl) ?_
        refine lv_sipush (v := 443) hx hb dX12_image_86 (by decide) ?_
        refine lv_iadd hx hb dX12_image_89 ?_
        refine lv_sipush (v := 400) hx hb dX12_image_90 (by decide) ?_
        refine lv_iadd hx hb dX12_image_93 ?_
        refine lv_iconst (v := 1) hx hb dX12_image_94 (by decide) ?_
        refine lv_iadd hx hb dX12_image_95 ?_
        refine lv_aload_n hx hb dX12_image_96 rfl (lv_at hl 0 rfl) ?_
        refine va_get (D := D.1) (ci := 9) (v := .int v0_faultKind) (C := RX12) (T := TX12) (N := 20) hx hb hts hwX12 hown hK.1 hP 0 rfl rfl 4 (by decide) l201 (fun _ h9 => h9) rfl dX12_image_97 ?_
        obtain ⟨h_7, hf⟩ := gd hf
        refine va_iast hx hb hK.1 hP hD hS 1 1 rfl rfl h_7 dX12_image_100 (fun H locs hP hD hS => ?_)
        have hP : va_P D.1 vwCl [(a0, .inr (9, [.ref a0_all, .ref a0_tape, .ref a0_isImage, .int v0_taped, .int v0_faultKind, .int v0_faultPlace, .int v0_undos, .ref a0_turnWord, .ref a0_turnFrom, .int v0_turns, .ref a0_pieceSign, .ref a0_pieceFrom, .int v0_pieces, .int v0_signs, .ref a0_runFrom, .ref a0_runLong, .ref a0_runPiece, .int v0_runs, .ref a0_alike, .ref a0_stood])), (a0_all, .inl (D.2 1, 5228, .inl (upd (upd g0_all (((x2 + (443 : Int32)) + (400 : Int32))).toNatClampNeg v0_taped) ((((x2 + (443 : Int32)) + (400 : Int32)) + (1 : Int32))).toNatClampNeg v0_faultKind))), (a0_tape, .inl (D.2 1, 400, .inl g0_tape)), (a0_isImage, .inl (D.2 3, 3, .inl g0_isImage))] H := hP
        have hD : va_D A [(a0, .inr (9, [.ref a0_all, .ref a0_tape, .ref a0_isImage, .int v0_taped, .int v0_faultKind, .int v0_faultPlace, .int v0_undos, .ref a0_turnWord, .ref a0_turnFrom, .int v0_turns, .ref a0_pieceSign, .ref a0_pieceFrom, .int v0_pieces, .int v0_signs, .ref a0_runFrom, .ref a0_runLong, .ref a0_runPiece, .int v0_runs, .ref a0_alike, .ref a0_stood])), (a0_all, .inl (D.2 1, 5228, .inl (upd (upd g0_all (((x2 + (443 : Int32)) + (400 : Int32))).toNatClampNeg v0_taped) ((((x2 + (443 : Int32)) + (400 : Int32)) + (1 : Int32))).toNatClampNeg v0_faultKind))), (a0_tape, .inl (D.2 1, 400, .inl g0_tape)), (a0_isImage, .inl (D.2 3, 3, .inl g0_isImage))] := hD
        refine lv_aload_n hx hb dX12_image_101 rfl (lv_at hl 0 rfl) ?_
        refine va_get (D := D.1) (ci := 9) (v := .ref a0_all) (C := RX12) (T := TX12) (N := 20) hx hb hts hwX12 hown hK.1 hP 0 rfl rfl 0 (by decide) l7 (fun _ h9 => h9) rfl dX12_image_102 ?_
        refine lv_iload_n hx hb dX12_image_105 rfl (lv_at hl 2 rfl) ?_
        refine lv_sipush (v := 443) hx hb dX12_image_106 (by decide) ?_
        refine lv_iadd hx hb dX12_image_109 ?_
        refine lv_sipush (v := 400) hx hb dX12_image_110 (by decide) ?_
        refine lv_iadd hx hb dX12_image_113 ?_
        refine lv_iconst (v := 2) hx hb dX12_image_114 (by decide) ?_
        refine lv_iadd hx hb dX12_image_115 ?_
        refine lv_aload_n hx hb dX12_image_116 rfl (lv_at hl 0 rfl) ?_
        refine va_get (D := D.1) (ci := 9) (v := .int v0_faultPlace) (C := RX12) (T := TX12) (N := 20) hx hb hts hwX12 hown hK.1 hP 0 rfl rfl 5 (by decide) l20 (fun _ h9 => h9) rfl dX12_image_117 ?_
        obtain ⟨h_8, hf⟩ := gd hf
        refine va_iast hx hb hK.1 hP hD hS 1 1 rfl rfl h_8 dX12_image_120 (fun H locs hP hD hS => ?_)
        have hP : va_P D.1 vwCl [(a0, .inr (9, [.ref a0_all, .ref a0_tape, .ref a0_isImage, .int v0_taped, .int v0_faultKind, .int v0_faultPlace, .int v0_undos, .ref a0_turnWord, .ref a0_turnFrom, .int v0_turns, .ref a0_pieceSign, .ref a0_pieceFrom, .int v0_pieces, .int v0_signs, .ref a0_runFrom, .ref a0_runLong, .ref a0_runPiece, .int v0_runs, .ref a0_alike, .ref a0_stood])), (a0_all, .inl (D.2 1, 5228, .inl (upd (upd (upd g0_all (((x2 + (443 : Int32)) + (400 : Int32))).toNatClampNeg v0_taped) ((((x2 + (443 : Int32)) + (400 : Int32)) + (1 : Int32))).toNatClampNeg v0_faultKind) ((((x2 + (443 : Int32)) + (400 : Int32)) + (2 : Int32))).toNatClampNeg v0_faultPlace))), (a0_tape, .inl (D.2 1, 400, .inl g0_tape)), (a0_isImage, .inl (D.2 3, 3, .inl g0_isImage))] H := hP
        have hD : va_D A [(a0, .inr (9, [.ref a0_all, .ref a0_tape, .ref a0_isImage, .int v0_taped, .int v0_faultKind, .int v0_faultPlace, .int v0_undos, .ref a0_turnWord, .ref a0_turnFrom, .int v0_turns, .ref a0_pieceSign, .ref a0_pieceFrom, .int v0_pieces, .int v0_signs, .ref a0_runFrom, .ref a0_runLong, .ref a0_runPiece, .int v0_runs, .ref a0_alike, .ref a0_stood])), (a0_all, .inl (D.2 1, 5228, .inl (upd (upd (upd g0_all (((x2 + (443 : Int32)) + (400 : Int32))).toNatClampNeg v0_taped) ((((x2 + (443 : Int32)) + (400 : Int32)) + (1 : Int32))).toNatClampNeg v0_faultKind) ((((x2 + (443 : Int32)) + (400 : Int32)) + (2 : Int32))).toNatClampNeg v0_faultPlace))), (a0_tape, .inl (D.2 1, 400, .inl g0_tape)), (a0_isImage, .inl (D.2 3, 3, .inl g0_isImage))] := hD
        refine lv_aload_n hx hb dX12_image_121 rfl (lv_at hl 0 rfl) ?_
        refine va_get (D := D.1) (ci := 9) (v := .ref a0_isImage) (C := RX12) (T := TX12) (N := 20) hx hb hts hwX12 hown hK.1 hP 0 rfl rfl 2 (by decide) l16 (fun _ h9 => h9) rfl dX12_image_122 ?_
        refine lv_iload_n hx hb dX12_image_125 rfl (lv_at hl 1 rfl) ?_
        refine lv_iconst (v := 1) hx hb dX12_image_126 (by decide) ?_
        obtain ⟨h_9, hf⟩ := gd hf
        refine va_zast hx hb hK.1 hP hD hS 3 3 rfl rfl h_9 dX12_image_127 (fun H locs hP hD hS => ?_)
        have hP : va_P D.1 vwCl [(a0, .inr (9, [.ref a0_all, .ref a0_tape, .ref a0_isImage, .int v0_taped, .int v0_faultKind, .int v0_faultPlace, .int v0_undos, .ref a0_turnWord, .ref a0_turnFrom, .int v0_turns, .ref a0_pieceSign, .ref a0_pieceFrom, .int v0_pieces, .int v0_signs, .ref a0_runFrom, .ref a0_runLong, .ref a0_runPiece, .int v0_runs, .ref a0_alike, .ref a0_stood])), (a0_all, .inl (D.2 1, 5228, .inl (upd (upd (upd g0_all (((x2 + (443 : Int32)) + (400 : Int32))).toNatClampNeg v0_taped) ((((x2 + (443 : Int32)) + (400 : Int32)) + (1 : Int32))).toNatClampNeg v0_faultKind) ((((x2 + (443 : Int32)) + (400 : Int32)) + (2 : Int32))).toNatClampNeg v0_faultPlace))), (a0_tape, .inl (D.2 1, 400, .inl g0_tape)), (a0_isImage, .inl (D.2 3, 3, .inl (upd g0_isImage (p1).toNatClampNeg (vp_nar .boolean (1 : Int32)))))] H := hP
        have hD : va_D A [(a0, .inr (9, [.ref a0_all, .ref a0_tape, .ref a0_isImage, .int v0_taped, .int v0_faultKind, .int v0_faultPlace, .int v0_undos, .ref a0_turnWord, .ref a0_turnFrom, .int v0_turns, .ref a0_pieceSign, .ref a0_pieceFrom, .int v0_pieces, .int v0_signs, .ref a0_runFrom, .ref a0_runLong, .ref a0_runPiece, .int v0_runs, .ref a0_alike, .ref a0_stood])), (a0_all, .inl (D.2 1, 5228, .inl (upd (upd (upd g0_all (((x2 + (443 : Int32)) + (400 : Int32))).toNatClampNeg v0_taped) ((((x2 + (443 : Int32)) + (400 : Int32)) + (1 : Int32))).toNatClampNeg v0_faultKind) ((((x2 + (443 : Int32)) + (400 : Int32)) + (2 : Int32))).toNatClampNeg v0_faultPlace))), (a0_tape, .inl (D.2 1, 400, .inl g0_tape)), (a0_isImage, .inl (D.2 3, 3, .inl (upd g0_isImage (p1).toNatClampNeg (vp_nar .boolean (1 : Int32)))))] := hD
        refine lv_iconst (v := 1) hx hb dX12_image_128 (by decide) ?_
        have he := Option.some.inj hf
        rw [hQ]
        exact W.zret (v := (1 : Int32)) hx hb hr (znb (Or.inr rfl)) (fun t ht hW => by rw [← he]; exact ⟨⟨(1 : Int32), (), rfl, ⟨rfl, Or.inr rfl⟩, by rw [ht]; exact hP, hD⟩, hS.F ht⟩) hS.2.2 dX12_image_129
      · replace hf := im c_5 hf
        refine lv_aload_n hx hb dX12_image_39 rfl (lv_at hl 0 rfl) ?_
        refine va_get (D := D.1) (ci := 9) (v := .ref a0_all) (C := RX12) (T := TX12) (N := 20) hx hb hts hwX12 hown hK.1 hP 0 rfl rfl 0 (by decide) l7 (fun _ h9 => h9) rfl dX12_image_40 ?_
        refine lv_iload_n hx hb dX12_image_43 rfl (lv_at hl 2 rfl) ?_
        refine lv_sipush (v := 443) hx hb dX12_image_44 (by decide) ?_
        refine lv_iadd hx hb dX12_image_47 ?_
        refine lv_iload_n hx hb dX12_image_48 rfl (lv_at hl 3 rfl) ?_
        refine lv_iadd hx hb dX12_image_49 ?_
        refine lv_aload_n hx hb dX12_image_50 rfl (lv_at hl 0 rfl) ?_
        refine va_get (D := D.1) (ci := 9) (v := .ref a0_tape) (C := RX12) (T := TX12) (N := 20) hx hb hts hwX12 hown hK.1 hP 0 rfl rfl 1 (by decide) l13 (fun _ h9 => h9) rfl dX12_image_51 ?_
        refine lv_iload_n hx hb dX12_image_54 rfl (lv_at hl 3 rfl) ?_
        obtain ⟨h_10, hf⟩ := gd hf
        refine va_iald hx hb hK.1 hP 2 1 rfl rfl h_10 dX12_image_55 ?_
        obtain ⟨h_11, hf⟩ := gd hf
        refine va_iast hx hb hK.1 hP hD hS 1 1 rfl rfl h_11 dX12_image_56 (fun H locs hP hD hS => ?_)
        have hP : va_P D.1 vwCl [(a0, .inr (9, [.ref a0_all, .ref a0_tape, .ref a0_isImage, .int v0_taped, .int v0_faultKind, .int v0_faultPlace, .int v0_undos, .ref a0_turnWord, .ref a0_turnFrom, .int v0_turns, .ref a0_pieceSign, .ref a0_pieceFrom, .int v0_pieces, .int v0_signs, .ref a0_runFrom, .ref a0_runLong, .ref a0_runPiece, .int v0_runs, .ref a0_alike, .ref a0_stood])), (a0_all, .inl (D.2 1, 5228, .inl (upd g0_all (((x2 + (443 : Int32)) + x3)).toNatClampNeg (g0_tape (x3).toNatClampNeg)))), (a0_tape, .inl (D.2 1, 400, .inl g0_tape)), (a0_isImage, .inl (D.2 3, 3, .inl g0_isImage))] H := hP
        have hD : va_D A [(a0, .inr (9, [.ref a0_all, .ref a0_tape, .ref a0_isImage, .int v0_taped, .int v0_faultKind, .int v0_faultPlace, .int v0_undos, .ref a0_turnWord, .ref a0_turnFrom, .int v0_turns, .ref a0_pieceSign, .ref a0_pieceFrom, .int v0_pieces, .int v0_signs, .ref a0_runFrom, .ref a0_runLong, .ref a0_runPiece, .int v0_runs, .ref a0_alike, .ref a0_stood])), (a0_all, .inl (D.2 1, 5228, .inl (upd g0_all (((x2 + (443 : Int32)) + x3)).toNatClampNeg (g0_tape (x3).toNatClampNeg)))), (a0_tape, .inl (D.2 1, 400, .inl g0_tape)), (a0_isImage, .inl (D.2 3, 3, .inl g0_isImage))] := hD
        refine lv_iinc (v := (x3 + (1 : Int32))) (lv' := [(3, .int (x3 + (1 : Int32))), (0, .ref a0), (1, .int p1), (2, .int x2)]) hx hb dX12_image_57 hl (k := 3) rfl rfl (by decide) rfl (fun ls hl => ?_)
        refine lv_goto (tgt := 32) hx hb dX12_image_60 (by decide) ?_
        exact ih x2 (x3 + (1 : Int32)) (upd g0_all (((x2 + (443 : Int32)) + x3)).toNatClampNeg (g0_tape (x3).toNatClampNeg)) g0_isImage H locs ls hf hP hD hS (lv_sub hl [1, 2, 3, 0] rfl)
  unfold fX12_image at hf
  refine lv_iload_n hx hb dX12_image_0 rfl (lv_at hl 1 rfl) ?_
  refine lv_iconst (v := 0) hx hb dX12_image_1 (by decide) ?_
  refine lv_iconst (v := 2) hx hb dX12_image_2 (by decide) ?_
  obtain ⟨r1, hr1, hf⟩ := bd hf
  refine zSz (As := [.int p1, .int (0 : Int32), .int (2 : Int32)]) (rest := []) (wn := [(a0, .inr (9, [.ref a0_all, .ref a0_tape, .ref a0_isImage, .int v0_taped, .int v0_faultKind, .int v0_faultPlace, .int v0_undos, .ref a0_turnWord, .ref a0_turnFrom, .int v0_turns, .ref a0_pieceSign, .ref a0_pieceFrom, .int v0_pieces, .int v0_signs, .ref a0_runFrom, .ref a0_runLong, .ref a0_runPiece, .int v0_runs, .ref a0_alike, .ref a0_stood])), (a0_all, .inl (D.2 1, 5228, .inl g0_all)), (a0_tape, .inl (D.2 1, 400, .inl g0_tape)), (a0_isImage, .inl (D.2 3, 3, .inl g0_isImage))]) ⟨hx, hb, hml, hown, hts⟩ (mX12_isIn l D H.size p1 (0 : Int32) (2 : Int32) r1 hr1) (va_cwS 3 hts gX12_image_X12_isIn rfl rfl rfl (by decide +kernel) ⟨Nat.le_of_ble_eq_true rfl, Nat.le_of_ble_eq_true rfl⟩) hK hP hD hS hA [] [0, 1, 2, 3] [0, 1, 2, 3] rfl (by decide) rfl (by decide) (by decide) rfl (by decide) rfl hl.1 rfl (Nat.le_of_ble_eq_true rfl) dX12_image_3 ⟨Nat.zero_le _, Nat.zero_le _⟩ (fun H locs hb_2 hP hD hS => ?_)
  refine lv_if_ne (tgt := 11) hx hb dX12_image_6 (by decide) (fun c_3 => ?_) (fun c_3 => ?_)
  · replace hf := im c_3 hf
    refine lv_sipush (v := 2690) hx hb dX12_image_11 (by decide) ?_
    refine lv_sipush (v := 846) hx hb dX12_image_14 (by decide) ?_
    refine lv_iload_n hx hb dX12_image_17 rfl (lv_at hl 1 rfl) ?_
    refine lv_imul hx hb dX12_image_18 ?_
    refine lv_iadd hx hb dX12_image_19 ?_
    refine lv_istore_n (lv' := [(2, .int ((2690 : Int32) + ((846 : Int32) * p1))), (0, .ref a0), (1, .int p1)]) hx hb dX12_image_20 rfl hl (by decide) rfl (fun ls hl => ?_)
    refine lv_aload_n hx hb dX12_image_21 rfl (lv_at hl 1 rfl) ?_
    refine lv_iconst (v := 0) hx hb dX12_image_22 (by decide) ?_
    refine lv_iload_n hx hb dX12_image_23 rfl (lv_at hl 0 rfl) ?_
    refine lv_sipush (v := 443) hx hb dX12_image_24 (by decide) ?_
    obtain ⟨r4, hr4, hf⟩ := bd hf
    refine zVv (As := [.int (0 : Int32), .int ((2690 : Int32) + ((846 : Int32) * p1)), .int (443 : Int32)]) (rest := []) (ci := 9) (q0 := 0) (wn := [(a0, .inr (9, [.ref a0_all, .ref a0_tape, .ref a0_isImage, .int v0_taped, .int v0_faultKind, .int v0_faultPlace, .int v0_undos, .ref a0_turnWord, .ref a0_turnFrom, .int v0_turns, .ref a0_pieceSign, .ref a0_pieceFrom, .int v0_pieces, .int v0_signs, .ref a0_runFrom, .ref a0_runLong, .ref a0_runPiece, .int v0_runs, .ref a0_alike, .ref a0_stood])), (a0_all, .inl (D.2 1, 5228, .inl r4)), (a0_tape, .inl (D.2 1, 400, .inl g0_tape)), (a0_isImage, .inl (D.2 3, 3, .inl g0_isImage))]) ⟨hx, hb, hml, hown, hts⟩ (mX12_copies l D a0 a0_all a0_tape a0_isImage a0_turnWord a0_turnFrom a0_pieceSign a0_pieceFrom a0_runFrom a0_runLong a0_runPiece a0_alike a0_stood H.size v0_taped v0_faultKind v0_faultPlace v0_undos v0_turns v0_pieces v0_signs v0_runs g0_all (0 : Int32) ((2690 : Int32) + ((846 : Int32) * p1)) (443 : Int32) N r4 hr4) (cwV 3 hts gX12_image_X12_copies rfl rfl rfl (by decide +kernel) ⟨Nat.le_of_ble_eq_true rfl, Nat.le_of_ble_eq_true rfl⟩) hK hP hD hS hA [0, 1] [2, 3] [2, 3, 0, 1] rfl (by decide) rfl (by decide) (by decide) rfl (by decide) rfl rfl rfl hl.1 rfl (Nat.le_of_ble_eq_true rfl) dX12_image_27 ⟨Nat.zero_le _, Nat.zero_le _⟩ (fun H locs hP hD hS => ?_)
    refine lv_iconst (v := 0) hx hb dX12_image_30 (by decide) ?_
    refine lv_istore_n (lv' := [(3, .int (0 : Int32)), (2, .int ((2690 : Int32) + ((846 : Int32) * p1))), (0, .ref a0), (1, .int p1)]) hx hb dX12_image_31 rfl hl (by decide) rfl (fun ls hl => ?_)
    exact k32 N ((2690 : Int32) + ((846 : Int32) * p1)) (0 : Int32) r4 g0_isImage H locs ls hf hP hD hS (lv_sub hl [2, 3, 1, 0] rfl)
  · replace hf := ip c_3 hf
    refine lv_iconst (v := 0) hx hb dX12_image_9 (by decide) ?_
    have he := Option.some.inj hf
    rw [hQ]
    exact W.zret (v := (0 : Int32)) hx hb hr (znb (Or.inl rfl)) (fun t ht hW => by rw [← he]; exact ⟨⟨(0 : Int32), (), rfl, ⟨rfl, Or.inl rfl⟩, by rw [ht]; exact hP, hD⟩, hS.F ht⟩) hS.2.2 dX12_image_10
def fX12_again_41 (N : Nat) (g0_isImage : Nat → Int32) (p1 : Int32) : Nat → Int32 → Int32 → Int32 → Int32 → Int32 → Int32 → (Nat → Int32) → (Nat → Int32) → Option (Int32 × Int32 × Int32 × Int32 × Int32 × (Nat → Int32) × (Nat → Int32))
  | 0, _, _, _, _, _, _, _, _ => none
  | K + 1, x2, x3, v0_taped, v0_faultKind, v0_faultPlace, v0_undos, g0_all, g0_tape =>
    if (400 : Int32) ≤ x3 then
      if ((x2 + (443 : Int32)) + (400 : Int32)) < 0 ∨ 5228 ≤ (((x2 + (443 : Int32)) + (400 : Int32))).toNatClampNeg then none else
      if (((x2 + (443 : Int32)) + (400 : Int32)) + (1 : Int32)) < 0 ∨ 5228 ≤ ((((x2 + (443 : Int32)) + (400 : Int32)) + (1 : Int32))).toNatClampNeg then none else
      if (((x2 + (443 : Int32)) + (400 : Int32)) + (2 : Int32)) < 0 ∨ 5228 ≤ ((((x2 + (443 : Int32)) + (400 : Int32)) + (2 : Int32))).toNatClampNeg then none else
      some ((1 : Int32), (g0_all (((x2 + (443 : Int32)) + (400 : Int32))).toNatClampNeg), (g0_all ((((x2 + (443 : Int32)) + (400 : Int32)) + (1 : Int32))).toNatClampNeg), (g0_all ((((x2 + (443 : Int32)) + (400 : Int32)) + (2 : Int32))).toNatClampNeg), (0 : Int32), g0_all, g0_tape)
    else
      if ((x2 + (443 : Int32)) + x3) < 0 ∨ 5228 ≤ (((x2 + (443 : Int32)) + x3)).toNatClampNeg then none else
      if x3 < 0 ∨ 400 ≤ (x3).toNatClampNeg then none else
      (fX12_again_41 N g0_isImage p1 K) x2 (x3 + (1 : Int32)) v0_taped v0_faultKind v0_faultPlace v0_undos g0_all (upd g0_tape (x3).toNatClampNeg (g0_all (((x2 + (443 : Int32)) + x3)).toNatClampNeg))
def fX12_again (N : Nat) (v0_taped : Int32) (v0_faultKind : Int32) (v0_faultPlace : Int32) (v0_undos : Int32) (g0_all : Nat → Int32) (g0_tape : Nat → Int32) (g0_isImage : Nat → Int32) (p1 : Int32) : Option (Int32 × Int32 × Int32 × Int32 × Int32 × (Nat → Int32) × (Nat → Int32)) :=
  Option.bind (fX12_isIn p1 (0 : Int32) (2 : Int32)) fun r1 =>
  if r1 = (0 : Int32) then
    some ((0 : Int32), v0_taped, v0_faultKind, v0_faultPlace, v0_undos, g0_all, g0_tape)
  else
    if p1 < 0 ∨ 3 ≤ (p1).toNatClampNeg then none else
    if (g0_isImage (p1).toNatClampNeg) = (0 : Int32) then
      some ((0 : Int32), v0_taped, v0_faultKind, v0_faultPlace, v0_undos, g0_all, g0_tape)
    else
      Option.bind (fX12_copies N g0_all ((2690 : Int32) + ((846 : Int32) * p1)) (0 : Int32) (443 : Int32)) fun r6 =>
      fX12_again_41 N g0_isImage p1 N ((2690 : Int32) + ((846 : Int32) * p1)) (0 : Int32) v0_taped v0_faultKind v0_faultPlace v0_undos r6 g0_tape
set_option maxHeartbeats 4000000 in
set_option maxRecDepth 100000 in
theorem mX12_again (l : Launch) (D : zG) (a0 : Nat) (a0_all : Nat) (a0_tape : Nat) (a0_isImage : Nat) (a0_turnWord : Nat) (a0_turnFrom : Nat) (a0_pieceSign : Nat) (a0_pieceFrom : Nat) (a0_runFrom : Nat) (a0_runLong : Nat) (a0_runPiece : Nat) (a0_alike : Nat) (a0_stood : Nat) (sz : Nat)  (v0_taped : Int32) (v0_faultKind : Int32) (v0_faultPlace : Int32) (v0_undos : Int32) (v0_turns : Int32) (v0_pieces : Int32) (v0_signs : Int32) (v0_runs : Int32) (g0_all : Nat → Int32) (g0_tape : Nat → Int32) (g0_isImage : Nat → Int32) (p1 : Int32) (N : Nat) (res : Int32 × Int32 × Int32 × Int32 × Int32 × (Nat → Int32) × (Nat → Int32)) (hf : fX12_again N v0_taped v0_faultKind v0_faultPlace v0_undos g0_all g0_tape g0_isImage p1 = some res) : Met l yX12_again wsX12_again ({ frames := 1, cells := 0, slots := 0, locals := 24 } : Room) (va_Pc [.ref a0, .int p1] (zW D sz [(a0, .inr (9, [.ref a0_all, .ref a0_tape, .ref a0_isImage, .int v0_taped, .int v0_faultKind, .int v0_faultPlace, .int v0_undos, .ref a0_turnWord, .ref a0_turnFrom, .int v0_turns, .ref a0_pieceSign, .ref a0_pieceFrom, .int v0_pieces, .int v0_signs, .ref a0_runFrom, .ref a0_runLong, .ref a0_runPiece, .int v0_runs, .ref a0_alike, .ref a0_stood])), (a0_all, .inl (D.2 1, 5228, .inl g0_all)), (a0_tape, .inl (D.2 1, 400, .inl g0_tape)), (a0_isImage, .inl (D.2 3, 3, .inl g0_isImage))])) (va_Qi (fun r (_ : Unit) => r = res.1 ∧ (r = 0 ∨ r = 1)) (fun _ => zB D (va_A [(a0, .inr (9, [.ref a0_all, .ref a0_tape, .ref a0_isImage, .int v0_taped, .int v0_faultKind, .int v0_faultPlace, .int v0_undos, .ref a0_turnWord, .ref a0_turnFrom, .int v0_turns, .ref a0_pieceSign, .ref a0_pieceFrom, .int v0_pieces, .int v0_signs, .ref a0_runFrom, .ref a0_runLong, .ref a0_runPiece, .int v0_runs, .ref a0_alike, .ref a0_stood])), (a0_all, .inl (D.2 1, 5228, .inl g0_all)), (a0_tape, .inl (D.2 1, 400, .inl g0_tape)), (a0_isImage, .inl (D.2 3, 3, .inl g0_isImage))] sz) [(a0, .inr (9, [.ref a0_all, .ref a0_tape, .ref a0_isImage, .int res.2.1, .int res.2.2.1, .int res.2.2.2.1, .int res.2.2.2.2.1, .ref a0_turnWord, .ref a0_turnFrom, .int v0_turns, .ref a0_pieceSign, .ref a0_pieceFrom, .int v0_pieces, .int v0_signs, .ref a0_runFrom, .ref a0_runLong, .ref a0_runPiece, .int v0_runs, .ref a0_alike, .ref a0_stood])), (a0_all, .inl (D.2 1, 5228, .inl res.2.2.2.2.2.1)), (a0_tape, .inl (D.2 1, 400, .inl res.2.2.2.2.2.2)), (a0_isImage, .inl (D.2 3, 3, .inl g0_isImage))]) (va_A [(a0, .inr (9, [.ref a0_all, .ref a0_tape, .ref a0_isImage, .int v0_taped, .int v0_faultKind, .int v0_faultPlace, .int v0_undos, .ref a0_turnWord, .ref a0_turnFrom, .int v0_turns, .ref a0_pieceSign, .ref a0_pieceFrom, .int v0_pieces, .int v0_signs, .ref a0_runFrom, .ref a0_runLong, .ref a0_runPiece, .int v0_runs, .ref a0_alike, .ref a0_stood])), (a0_all, .inl (D.2 1, 5228, .inl g0_all)), (a0_tape, .inl (D.2 1, 400, .inl g0_tape)), (a0_isImage, .inl (D.2 3, 3, .inl g0_isImage))] sz)) 0 0 (va_A [(a0, .inr (9, [.ref a0_all, .ref a0_tape, .ref a0_isImage, .int v0_taped, .int v0_faultKind, .int v0_faultPlace, .int v0_undos, .ref a0_turnWord, .ref a0_turnFrom, .int v0_turns, .ref a0_pieceSign, .ref a0_pieceFrom, .int v0_pieces, .int v0_signs, .ref a0_runFrom, .ref a0_runLong, .ref a0_runPiece, .int v0_runs, .ref a0_alike, .ref a0_stood])), (a0_all, .inl (D.2 1, 5228, .inl g0_all)), (a0_tape, .inl (D.2 1, 400, .inl g0_tape)), (a0_isImage, .inl (D.2 3, 3, .inl g0_isImage))] sz) := by
  refine Met.ofW (cc := cX12_again) (maxL := 4) (ret := (some .boolean)) (by decide) rfl ?_
  intro p e s m args below meth c s₁ B hml hv
  obtain ⟨rfl, hsz, hP, hK, hD0⟩ := hv
  have hx := B.exec
  have hb := B.bytes
  have hr := B.returns
  have hts := atoms_spec (ws := wsX12_again) B.pre
  have hown : s.vm.findClass RX12 = some m.cls := findClass_of_methodNamed B.named
  have hlocks := B.notSynchronized
  subst hsz
  have hD := hD0.self (sz := s.heap.size)
  generalize hAe : va_A [(a0, .inr (9, [.ref a0_all, .ref a0_tape, .ref a0_isImage, .int v0_taped, .int v0_faultKind, .int v0_faultPlace, .int v0_undos, .ref a0_turnWord, .ref a0_turnFrom, .int v0_turns, .ref a0_pieceSign, .ref a0_pieceFrom, .int v0_pieces, .int v0_signs, .ref a0_runFrom, .ref a0_runLong, .ref a0_runPiece, .int v0_runs, .ref a0_alike, .ref a0_stood])), (a0_all, .inl (D.2 1, 5228, .inl g0_all)), (a0_tape, .inl (D.2 1, 400, .inl g0_tape)), (a0_isImage, .inl (D.2 3, 3, .inl g0_isImage))] s.heap.size = A at hD ⊢
  have hA : ∀ q : Nat, s.heap.size ≤ q → A q := fun q h => by rw [← hAe]; exact Or.inr h
  have l16 := zat hts 1 (w := .fieldLink RX12 16 "TurnedWordsModel" "isImage" "[Z") rfl
  have l7 := zat hts 3 (w := .fieldLink RX12 7 "TurnedWordsModel" "all" "[I") rfl
  have l180 := zat hts 4 (w := .fieldLink RX12 180 "TurnedWordsModel" "taped" "I") rfl
  have l201 := zat hts 5 (w := .fieldLink RX12 201 "TurnedWordsModel" "faultKind" "I") rfl
  have l20 := zat hts 6 (w := .fieldLink RX12 20 "TurnedWordsModel" "faultPlace" "I") rfl
  have l177 := zat hts 7 (w := .fieldLink RX12 177 "TurnedWordsModel" "undos" "I") rfl
  have l13 := zat hts 2 (w := .fieldLink RX12 13 "TurnedWordsModel" "tape" "[I") rfl
  have hwX12 : ∀ w ∈ u_ws RX12 TX12 20, w ∈ wsX12_again := fun w h => List.mem_cons_of_mem _ (List.mem_append_right _ h)
  have hl := lv_entry ([.ref a0, .int p1]) (n := 4) (Nat.le_of_ble_eq_true rfl)
  rw [lg_entry_eq]
  generalize (lg_sl ([.ref a0, .int p1]) ++ List.replicate (4 - (lg_sl ([.ref a0, .int p1])).length) Slot.unset).toArray = ls at hl ⊢
  have hl : lv_has ls 4 [(0, .ref a0), (1, .int p1)] := hl
  refine zStart (A := A) hP (fun Q0 H locs hQ hP hS => ?_)
  have k41 : ∀ K : Nat, ∀ (x2 : Int32) (x3 : Int32) (v0_taped : Int32) (v0_faultKind : Int32) (v0_faultPlace : Int32) (v0_undos : Int32) (g0_all : Nat → Int32) (g0_tape : Nat → Int32) (H : Heap) (locs : List Loc) (ls : Array Slot), fX12_again_41 N g0_isImage p1 K x2 x3 v0_taped v0_faultKind v0_faultPlace v0_undos g0_all g0_tape = some res → va_P D.1 vwCl [(a0, .inr (9, [.ref a0_all, .ref a0_tape, .ref a0_isImage, .int v0_taped, .int v0_faultKind, .int v0_faultPlace, .int v0_undos, .ref a0_turnWord, .ref a0_turnFrom, .int v0_turns, .ref a0_pieceSign, .ref a0_pieceFrom, .int v0_pieces, .int v0_signs, .ref a0_runFrom, .ref a0_runLong, .ref a0_runPiece, .int v0_runs, .ref a0_alike, .ref a0_stood])), (a0_all, .inl (D.2 1, 5228, .inl g0_all)), (a0_tape, .inl (D.2 1, 400, .inl g0_tape)), (a0_isImage, .inl (D.2 3, 3, .inl g0_isImage))] H → va_D A [(a0, .inr (9, [.ref a0_all, .ref a0_tape, .ref a0_isImage, .int v0_taped, .int v0_faultKind, .int v0_faultPlace, .int v0_undos, .ref a0_turnWord, .ref a0_turnFrom, .int v0_turns, .ref a0_pieceSign, .ref a0_pieceFrom, .int v0_pieces, .int v0_signs, .ref a0_runFrom, .ref a0_runLong, .ref a0_runPiece, .int v0_runs, .ref a0_alike, .ref a0_stood])), (a0_all, .inl (D.2 1, 5228, .inl g0_all)), (a0_tape, .inl (D.2 1, 400, .inl g0_tape)), (a0_isImage, .inl (D.2 3, 3, .inl g0_isImage))] → va_S A s.heap H locs → lv_has ls 4 [(0, .ref a0), (2, .int x2), (3, .int x3)] → W p l e (headSpec wsX12_again ({ frames := 1, cells := 0, slots := 0, locals := 24 } : Room)).room s m ([.ref a0, .int p1] : List Value).toArray below meth c H locs 0 0 Q0 (F0 m 41 ls []) := by
    intro K
    induction K with
    | zero =>
      intro x2 x3 v0_taped v0_faultKind v0_faultPlace v0_undos g0_all g0_tape H locs ls hf
      rw [fX12_again_41] at hf
      cases hf
    | succ K ih =>
      intro x2 x3 v0_taped v0_faultKind v0_faultPlace v0_undos g0_all g0_tape H locs ls hf hP hD hS hl
      rw [fX12_again_41] at hf
      refine lv_iload_n hx hb dX12_again_41 rfl (lv_at hl 2 rfl) ?_
      refine lv_sipush (v := 400) hx hb dX12_again_42 (by decide) ?_
      refine lv_icmp_ge (tgt := 72) hx hb dX12_again_45 (by decide) (fun c_7 => ?_) (fun c_7 => ?_)
      · replace hf := ip c_7 hf
        refine lv_aload_n hx hb dX12_again_72 rfl (lv_at hl 0 rfl) ?_
        refine lv_aload_n hx hb dX12_again_73 rfl (lv_at hl 0 rfl) ?_
        refine va_get (D := D.1) (ci := 9) (v := .ref a0_all) (C := RX12) (T := TX12) (N := 20) hx hb hts hwX12 hown hK.1 hP 0 rfl rfl 0 (by decide) l7 (fun _ h9 => h9) rfl dX12_again_74 ?_
        refine lv_iload_n hx hb dX12_again_77 rfl (lv_at hl 1 rfl) ?_
        refine lv_sipush (v := 443) hx hb dX12_again_78 (by decide) ?_
        refine lv_iadd hx hb dX12_again_81 ?_
        refine lv_sipush (v := 400) hx hb dX12_again_82 (by decide) ?_
        refine lv_iadd hx hb dX12_again_85 ?_
        obtain ⟨h_8, hf⟩ := gd hf
        refine va_iald hx hb hK.1 hP 1 1 rfl rfl h_8 dX12_again_86 ?_
        refine va_put (D := D.1) (ci := 9) (v := .int (g0_all (((x2 + (443 : Int32)) + (400 : Int32))).toNatClampNeg)) (ty := .int) (C := RX12) (T := TX12) (N := 20) hx hb hts hwX12 tyX12 tyX12_ok nmX12 hown hK.1 hP hD hS 0 rfl rfl 3 (by decide) l180 (fun _ h9 => h9) rfl (by decide +kernel) rfl rfl (Nat.le_of_ble_eq_true rfl) dX12_again_87 (fun H locs hP hD hS => ?_)
        have hP : va_P D.1 vwCl [(a0, .inr (9, [.ref a0_all, .ref a0_tape, .ref a0_isImage, .int (g0_all (((x2 + (443 : Int32)) + (400 : Int32))).toNatClampNeg), .int v0_faultKind, .int v0_faultPlace, .int v0_undos, .ref a0_turnWord, .ref a0_turnFrom, .int v0_turns, .ref a0_pieceSign, .ref a0_pieceFrom, .int v0_pieces, .int v0_signs, .ref a0_runFrom, .ref a0_runLong, .ref a0_runPiece, .int v0_runs, .ref a0_alike, .ref a0_stood])), (a0_all, .inl (D.2 1, 5228, .inl g0_all)), (a0_tape, .inl (D.2 1, 400, .inl g0_tape)), (a0_isImage, .inl (D.2 3, 3, .inl g0_isImage))] H := hP
        have hD : va_D A [(a0, .inr (9, [.ref a0_all, .ref a0_tape, .ref a0_isImage, .int (g0_all (((x2 + (443 : Int32)) + (400 : Int32))).toNatClampNeg), .int v0_faultKind, .int v0_faultPlace, .int v0_undos, .ref a0_turnWord, .ref a0_turnFrom, .int v0_turns, .ref a0_pieceSign, .ref a0_pieceFrom, .int v0_pieces, .int v0_signs, .ref a0_runFrom, .ref a0_runLong, .ref a0_runPiece, .int v0_runs, .ref a0_alike, .ref a0_stood])), (a0_all, .inl (D.2 1, 5228, .inl g0_all)), (a0_tape, .inl (D.2 1, 400, .inl g0_tape)), (a0_isImage, .inl (D.2 3, 3, .inl g0_isImage))] := hD
        refine lv_aload_n hx hb dX12_again_90 rfl (lv_at hl 0 rfl) ?_
        refine lv_aload_n hx hb dX12_again_91 rfl (lv_at hl 0 rfl) ?_
        refine va_get (D := D.1) (ci := 9) (v := .ref a0_all) (C := RX12) (T := TX12) (N := 20) hx hb hts hwX12 hown hK.1 hP 0 rfl rfl 0 (by decide) l7 (fun _ h9 => h9) rfl dX12_again_92 ?_
        refine lv_iload_n hx hb dX12_again_95 rfl (lv_at hl 1 rfl) ?_
        refine lv_sipush (v := 443) hx hb dX12_again_96 (by decide) ?_
        refine lv_iadd hx hb dX12_again_99 ?_
        refine lv_sipush (v := 400) hx hb dX12_again_100 (by decide) ?_
        refine lv_iadd hx hb dX12_again_103 ?_
        refine lv_iconst (v := 1) hx hb dX12_again_104 (by decide) ?_
        refine lv_iadd hx hb dX12_again_105 ?_
        obtain ⟨h_9, hf⟩ := gd hf
        refine va_iald hx hb hK.1 hP 1 1 rfl rfl h_9 dX12_again_106 ?_
        refine va_put (D := D.1) (ci := 9) (v := .int (g0_all ((((x2 + (443 : Int32)) + (400 : Int32)) + (1 : Int32))).toNatClampNeg)) (ty := .int) (C := RX12) (T := TX12) (N := 20) hx hb hts hwX12 tyX12 tyX12_ok nmX12 hown hK.1 hP hD hS 0 rfl rfl 4 (by decide) l201 (fun _ h9 => h9) rfl (by decide +kernel) rfl rfl (Nat.le_of_ble_eq_true rfl) dX12_again_107 (fun H locs hP hD hS => ?_)
        have hP : va_P D.1 vwCl [(a0, .inr (9, [.ref a0_all, .ref a0_tape, .ref a0_isImage, .int (g0_all (((x2 + (443 : Int32)) + (400 : Int32))).toNatClampNeg), .int (g0_all ((((x2 + (443 : Int32)) + (400 : Int32)) + (1 : Int32))).toNatClampNeg), .int v0_faultPlace, .int v0_undos, .ref a0_turnWord, .ref a0_turnFrom, .int v0_turns, .ref a0_pieceSign, .ref a0_pieceFrom, .int v0_pieces, .int v0_signs, .ref a0_runFrom, .ref a0_runLong, .ref a0_runPiece, .int v0_runs, .ref a0_alike, .ref a0_stood])), (a0_all, .inl (D.2 1, 5228, .inl g0_all)), (a0_tape, .inl (D.2 1, 400, .inl g0_tape)), (a0_isImage, .inl (D.2 3, 3, .inl g0_isImage))] H := hP
        have hD : va_D A [(a0, .inr (9, [.ref a0_all, .ref a0_tape, .ref a0_isImage, .int (g0_all (((x2 + (443 : Int32)) + (400 : Int32))).toNatClampNeg), .int (g0_all ((((x2 + (443 : Int32)) + (400 : Int32)) + (1 : Int32))).toNatClampNeg), .int v0_faultPlace, .int v0_undos, .ref a0_turnWord, .ref a0_turnFrom, .int v0_turns, .ref a0_pieceSign, .ref a0_pieceFrom, .int v0_pieces, .int v0_signs, .ref a0_runFrom, .ref a0_runLong, .ref a0_runPiece, .int v0_runs, .ref a0_alike, .ref a0_stood])), (a0_all, .inl (D.2 1, 5228, .inl g0_all)), (a0_tape, .inl (D.2 1, 400, .inl g0_tape)), (a0_isImage, .inl (D.2 3, 3, .inl g0_isImage))] := hD
        refine lv_aload_n hx hb dX12_again_110 rfl (lv_at hl 0 rfl) ?_
        refine lv_aload_n hx hb dX12_again_111 rfl (lv_at hl 0 rfl) ?_
        refine va_get (D := D.1) (ci := 9) (v := .ref a0_all) (C := RX12) (T := TX12) (N := 20) hx hb hts hwX12 hown hK.1 hP 0 rfl rfl 0 (by decide) l7 (fun _ h9 => h9) rfl dX12_again_112 ?_
        refine lv_iload_n hx hb dX12_again_115 rfl (lv_at hl 1 rfl) ?_
        refine lv_sipush (v := 443) hx hb dX12_again_116 (by decide) ?_
        refine lv_iadd hx hb dX12_again_119 ?_
        refine lv_sipush (v := 400) hx hb dX12_again_120 (by decide) ?_
        refine lv_iadd hx hb dX12_again_123 ?_
        refine lv_iconst (v := 2) hx hb dX12_again_124 (by decide) ?_
        refine lv_iadd hx hb dX12_again_125 ?_
        obtain ⟨h_10, hf⟩ := gd hf
        refine va_iald hx hb hK.1 hP 1 1 rfl rfl h_10 dX12_again_126 ?_
        refine va_put (D := D.1) (ci := 9) (v := .int (g0_all ((((x2 + (443 : Int32)) + (400 : Int32)) + (2 : Int32))).toNatClampNeg)) (ty := .int) (C := RX12) (T := TX12) (N := 20) hx hb hts hwX12 tyX12 tyX12_ok nmX12 hown hK.1 hP hD hS 0 rfl rfl 5 (by decide) l20 (fun _ h9 => h9) rfl (by decide +kernel) rfl rfl (Nat.le_of_ble_eq_true rfl) dX12_again_127 (fun H locs hP hD hS => ?_)
        have hP : va_P D.1 vwCl [(a0, .inr (9, [.ref a0_all, .ref a0_tape, .ref a0_isImage, .int (g0_all (((x2 + (443 : Int32)) + (400 : Int32))).toNatClampNeg), .int (g0_all ((((x2 + (443 : Int32)) + (400 : Int32)) + (1 : Int32))).toNatClampNeg), .int (g0_all ((((x2 + (443 : Int32)) + (400 : Int32)) + (2 : Int32))).toNatClampNeg), .int v0_undos, .ref a0_turnWord, .ref a0_turnFrom, .int v0_turns, .ref a0_pieceSign, .ref a0_pieceFrom, .int v0_pieces, .int v0_signs, .ref a0_runFrom, .ref a0_runLong, .ref a0_runPiece, .int v0_runs, .ref a0_alike, .ref a0_stood])), (a0_all, .inl (D.2 1, 5228, .inl g0_all)), (a0_tape, .inl (D.2 1, 400, .inl g0_tape)), (a0_isImage, .inl (D.2 3, 3, .inl g0_isImage))] H := hP
        have hD : va_D A [(a0, .inr (9, [.ref a0_all, .ref a0_tape, .ref a0_isImage, .int (g0_all (((x2 + (443 : Int32)) + (400 : Int32))).toNatClampNeg), .int (g0_all ((((x2 + (443 : Int32)) + (400 : Int32)) + (1 : Int32))).toNatClampNeg), .int (g0_all ((((x2 + (443 : Int32)) + (400 : Int32)) + (2 : Int32))).toNatClampNeg), .int v0_undos, .ref a0_turnWord, .ref a0_turnFrom, .int v0_turns, .ref a0_pieceSign, .ref a0_pieceFrom, .int v0_pieces, .int v0_signs, .ref a0_runFrom, .ref a0_runLong, .ref a0_runPiece, .int v0_runs, .ref a0_alike, .ref a0_stood])), (a0_all, .inl (D.2 1, 5228, .inl g0_all)), (a0_tape, .inl (D.2 1, 400, .inl g0_tape)), (a0_isImage, .inl (D.2 3, 3, .inl g0_isImage))] := hD
        refine lv_aload_n hx hb dX12_again_130 rfl (lv_at hl 0 rfl) ?_
        refine lv_iconst (v := 0) hx hb dX12_again_131 (by decide) ?_
        refine va_put (D := D.1) (ci := 9) (v := .int (0 : Int32)) (ty := .int) (C := RX12) (T := TX12) (N := 20) hx hb hts hwX12 tyX12 tyX12_ok nmX12 hown hK.1 hP hD hS 0 rfl rfl 6 (by decide) l177 (fun _ h9 => h9) rfl (by decide +kernel) rfl rfl (Nat.le_of_ble_eq_true rfl) dX12_again_132 (fun H locs hP hD hS => ?_)
        have hP : va_P D.1 vwCl [(a0, .inr (9, [.ref a0_all, .ref a0_tape, .ref a0_isImage, .int (g0_all (((x2 + (443 : Int32)) + (400 : Int32))).toNatClampNeg), .int (g0_all ((((x2 + (443 : Int32)) + (400 : Int32)) + (1 : Int32))).toNatClampNeg), .int (g0_all ((((x2 + (443 : Int32)) + (400 : Int32)) + (2 : Int32))).toNatClampNeg), .int (0 : Int32), .ref a0_turnWord, .ref a0_turnFrom, .int v0_turns, .ref a0_pieceSign, .ref a0_pieceFrom, .int v0_pieces, .int v0_signs, .ref a0_runFrom, .ref a0_runLong, .ref a0_runPiece, .int v0_runs, .ref a0_alike, .ref a0_stood])), (a0_all, .inl (D.2 1, 5228, .inl g0_all)), (a0_tape, .inl (D.2 1, 400, .inl g0_tape)), (a0_isImage, .inl (D.2 3, 3, .inl g0_isImage))] H := hP
        have hD : va_D A [(a0, .inr (9, [.ref a0_all, .ref a0_tape, .ref a0_isImage, .int (g0_all (((x2 + (443 : Int32)) + (400 : Int32))).toNatClampNeg), .int (g0_all ((((x2 + (443 : Int32)) + (400 : Int32)) + (1 : Int32))).toNatClampNeg), .int (g0_all ((((x2 + (443 : Int32)) + (400 : Int32)) + (2 : Int32))).toNatClampNeg), .int (0 : Int32), .ref a0_turnWord, .ref a0_turnFrom, .int v0_turns, .ref a0_pieceSign, .ref a0_pieceFrom, .int v0_pieces, .int v0_signs, .ref a0_runFrom, .ref a0_runLong, .ref a0_runPiece, .int v0_runs, .ref a0_alike, .ref a0_stood])), (a0_all, .inl (D.2 1, 5228, .inl g0_all)), (a0_tape, .inl (D.2 1, 400, .inl g0_tape)), (a0_isImage, .inl (D.2 3, 3, .inl g0_isImage))] := hD
        refine lv_iconst (v := 1) hx hb dX12_again_135 (by decide) ?_
        have he := Option.some.inj hf
        rw [hQ]
        exact W.zret (v := (1 : Int32)) hx hb hr (znb (Or.inr rfl)) (fun t ht hW => by rw [← he]; exact ⟨⟨(1 : Int32), (), rfl, ⟨rfl, Or.inr rfl⟩, by rw [ht]; exact hP, hD⟩, hS.F ht⟩) hS.2.2 dX12_again_136
      · replace hf := im c_7 hf
        refine lv_aload_n hx hb dX12_again_48 rfl (lv_at hl 0 rfl) ?_
        refine va_get (D := D.1) (ci := 9) (v := .ref a0_tape) (C := RX12) (T := TX12) (N := 20) hx hb hts hwX12 hown hK.1 hP 0 rfl rfl 1 (by decide) l13 (fun _ h9 => h9) rfl dX12_again_49 ?_
        refine lv_iload_n hx hb dX12_again_52 rfl (lv_at hl 2 rfl) ?_
        refine lv_aload_n hx hb dX12_again_53 rfl (lv_at hl 0 rfl) ?_
        refine va_get (D := D.1) (ci := 9) (v := .ref a0_all) (C := RX12) (T := TX12) (N := 20) hx hb hts hwX12 hown hK.1 hP 0 rfl rfl 0 (by decide) l7 (fun _ h9 => h9) rfl dX12_again_54 ?_
        refine lv_iload_n hx hb dX12_again_57 rfl (lv_at hl 1 rfl) ?_
        refine lv_sipush (v := 443) hx hb dX12_again_58 (by decide) ?_
        refine lv_iadd hx hb dX12_again_61 ?_
        refine lv_iload_n hx hb dX12_again_62 rfl (lv_at hl 2 rfl) ?_
        refine lv_iadd hx hb dX12_again_63 ?_
        obtain ⟨h_11, hf⟩ := gd hf
        refine va_iald hx hb hK.1 hP 1 1 rfl rfl h_11 dX12_again_64 ?_
        obtain ⟨h_12, hf⟩ := gd hf
        refine va_iast hx hb hK.1 hP hD hS 2 1 rfl rfl h_12 dX12_again_65 (fun H locs hP hD hS => ?_)
        have hP : va_P D.1 vwCl [(a0, .inr (9, [.ref a0_all, .ref a0_tape, .ref a0_isImage, .int v0_taped, .int v0_faultKind, .int v0_faultPlace, .int v0_undos, .ref a0_turnWord, .ref a0_turnFrom, .int v0_turns, .ref a0_pieceSign, .ref a0_pieceFrom, .int v0_pieces, .int v0_signs, .ref a0_runFrom, .ref a0_runLong, .ref a0_runPiece, .int v0_runs, .ref a0_alike, .ref a0_stood])), (a0_all, .inl (D.2 1, 5228, .inl g0_all)), (a0_tape, .inl (D.2 1, 400, .inl (upd g0_tape (x3).toNatClampNeg (g0_all (((x2 + (443 : Int32)) + x3)).toNatClampNeg)))), (a0_isImage, .inl (D.2 3, 3, .inl g0_isImage))] H := hP
        have hD : va_D A [(a0, .inr (9, [.ref a0_all, .ref a0_tape, .ref a0_isImage, .int v0_taped, .int v0_faultKind, .int v0_faultPlace, .int v0_undos, .ref a0_turnWord, .ref a0_turnFrom, .int v0_turns, .ref a0_pieceSign, .ref a0_pieceFrom, .int v0_pieces, .int v0_signs, .ref a0_runFrom, .ref a0_runLong, .ref a0_runPiece, .int v0_runs, .ref a0_alike, .ref a0_stood])), (a0_all, .inl (D.2 1, 5228, .inl g0_all)), (a0_tape, .inl (D.2 1, 400, .inl (upd g0_tape (x3).toNatClampNeg (g0_all (((x2 + (443 : Int32)) + x3)).toNatClampNeg)))), (a0_isImage, .inl (D.2 3, 3, .inl g0_isImage))] := hD
        refine lv_iinc (v := (x3 + (1 : Int32))) (lv' := [(3, .int (x3 + (1 : Int32))), (0, .ref a0), (2, .int x2)]) hx hb dX12_again_66 hl (k := 2) rfl rfl (by decide) rfl (fun ls hl => ?_)
        refine lv_goto (tgt := 41) hx hb dX12_again_69 (by decide) ?_
        exact ih x2 (x3 + (1 : Int32)) v0_taped v0_faultKind v0_faultPlace v0_undos g0_all (upd g0_tape (x3).toNatClampNeg (g0_all (((x2 + (443 : Int32)) + x3)).toNatClampNeg)) H locs ls hf hP hD hS (lv_sub hl [1, 2, 0] rfl)
  unfold fX12_again at hf
  refine lv_iload_n hx hb dX12_again_0 rfl (lv_at hl 1 rfl) ?_
  refine lv_iconst (v := 0) hx hb dX12_again_1 (by decide) ?_
  refine lv_iconst (v := 2) hx hb dX12_again_2 (by decide) ?_
  obtain ⟨r1, hr1, hf⟩ := bd hf
  refine zSz (As := [.int p1, .int (0 : Int32), .int (2 : Int32)]) (rest := []) (wn := [(a0, .inr (9, [.ref a0_all, .ref a0_tape, .ref a0_isImage, .int v0_taped, .int v0_faultKind, .int v0_faultPlace, .int v0_undos, .ref a0_turnWord, .ref a0_turnFrom, .int v0_turns, .ref a0_pieceSign, .ref a0_pieceFrom, .int v0_pieces, .int v0_signs, .ref a0_runFrom, .ref a0_runLong, .ref a0_runPiece, .int v0_runs, .ref a0_alike, .ref a0_stood])), (a0_all, .inl (D.2 1, 5228, .inl g0_all)), (a0_tape, .inl (D.2 1, 400, .inl g0_tape)), (a0_isImage, .inl (D.2 3, 3, .inl g0_isImage))]) ⟨hx, hb, hml, hown, hts⟩ (mX12_isIn l D H.size p1 (0 : Int32) (2 : Int32) r1 hr1) (va_cwS 3 hts gX12_again_X12_isIn rfl rfl rfl (by decide +kernel) ⟨Nat.le_of_ble_eq_true rfl, Nat.le_of_ble_eq_true rfl⟩) hK hP hD hS hA [] [0, 1, 2, 3] [0, 1, 2, 3] rfl (by decide) rfl (by decide) (by decide) rfl (by decide) rfl hl.1 rfl (Nat.le_of_ble_eq_true rfl) dX12_again_3 ⟨Nat.zero_le _, Nat.zero_le _⟩ (fun H locs hb_2 hP hD hS => ?_)
  refine lv_if_eq (tgt := 18) hx hb dX12_again_6 (by decide) (fun c_3 => ?_) (fun c_3 => ?_)
  · replace hf := ip c_3 hf
    refine lv_iconst (v := 0) hx hb dX12_again_18 (by decide) ?_
    have he := Option.some.inj hf
    rw [hQ]
    exact W.zret (v := (0 : Int32)) hx hb hr (znb (Or.inl rfl)) (fun t ht hW => by rw [← he]; exact ⟨⟨(0 : Int32), (), rfl, ⟨rfl, Or.inl rfl⟩, by rw [ht]; exact hP, hD⟩, hS.F ht⟩) hS.2.2 dX12_again_19
  · replace hf := im c_3 hf
    refine lv_aload_n hx hb dX12_again_9 rfl (lv_at hl 0 rfl) ?_
    refine va_get (D := D.1) (ci := 9) (v := .ref a0_isImage) (C := RX12) (T := TX12) (N := 20) hx hb hts hwX12 hown hK.1 hP 0 rfl rfl 2 (by decide) l16 (fun _ h9 => h9) rfl dX12_again_10 ?_
    refine lv_iload_n hx hb dX12_again_13 rfl (lv_at hl 1 rfl) ?_
    obtain ⟨h_4, hf⟩ := gd hf
    refine va_zald hx hb hK.1 hP 3 3 rfl rfl h_4 dX12_again_14 ?_
    refine lv_if_ne (tgt := 20) hx hb dX12_again_15 (by decide) (fun c_5 => ?_) (fun c_5 => ?_)
    · replace hf := im c_5 hf
      refine lv_sipush (v := 2690) hx hb dX12_again_20 (by decide) ?_
      refine lv_sipush (v := 846) hx hb dX12_again_23 (by decide) ?_
      refine lv_iload_n hx hb dX12_again_26 rfl (lv_at hl 1 rfl) ?_
      refine lv_imul hx hb dX12_again_27 ?_
      refine lv_iadd hx hb dX12_again_28 ?_
      refine lv_istore_n (lv' := [(2, .int ((2690 : Int32) + ((846 : Int32) * p1))), (0, .ref a0), (1, .int p1)]) hx hb dX12_again_29 rfl hl (by decide) rfl (fun ls hl => ?_)
      refine lv_aload_n hx hb dX12_again_30 rfl (lv_at hl 1 rfl) ?_
      refine lv_iload_n hx hb dX12_again_31 rfl (lv_at hl 0 rfl) ?_
      refine lv_iconst (v := 0) hx hb dX12_again_32 (by decide) ?_
      refine lv_sipush (v := 443) hx hb dX12_again_33 (by decide) ?_
      obtain ⟨r6, hr6, hf⟩ := bd hf
      refine zVv (As := [.int ((2690 : Int32) + ((846 : Int32) * p1)), .int (0 : Int32), .int (443 : Int32)]) (rest := []) (ci := 9) (q0 := 0) (wn := [(a0, .inr (9, [.ref a0_all, .ref a0_tape, .ref a0_isImage, .int v0_taped, .int v0_faultKind, .int v0_faultPlace, .int v0_undos, .ref a0_turnWord, .ref a0_turnFrom, .int v0_turns, .ref a0_pieceSign, .ref a0_pieceFrom, .int v0_pieces, .int v0_signs, .ref a0_runFrom, .ref a0_runLong, .ref a0_runPiece, .int v0_runs, .ref a0_alike, .ref a0_stood])), (a0_all, .inl (D.2 1, 5228, .inl r6)), (a0_tape, .inl (D.2 1, 400, .inl g0_tape)), (a0_isImage, .inl (D.2 3, 3, .inl g0_isImage))]) ⟨hx, hb, hml, hown, hts⟩ (mX12_copies l D a0 a0_all a0_tape a0_isImage a0_turnWord a0_turnFrom a0_pieceSign a0_pieceFrom a0_runFrom a0_runLong a0_runPiece a0_alike a0_stood H.size v0_taped v0_faultKind v0_faultPlace v0_undos v0_turns v0_pieces v0_signs v0_runs g0_all ((2690 : Int32) + ((846 : Int32) * p1)) (0 : Int32) (443 : Int32) N r6 hr6) (cwV 3 hts gX12_again_X12_copies rfl rfl rfl (by decide +kernel) ⟨Nat.le_of_ble_eq_true rfl, Nat.le_of_ble_eq_true rfl⟩) hK hP hD hS hA [0, 1] [2, 3] [2, 3, 0, 1] rfl (by decide) rfl (by decide) (by decide) rfl (by decide) rfl rfl rfl hl.1 rfl (Nat.le_of_ble_eq_true rfl) dX12_again_36 ⟨Nat.zero_le _, Nat.zero_le _⟩ (fun H locs hP hD hS => ?_)
      refine lv_iconst (v := 0) hx hb dX12_again_39 (by decide) ?_
      refine lv_istore_n (lv' := [(3, .int (0 : Int32)), (2, .int ((2690 : Int32) + ((846 : Int32) * p1))), (0, .ref a0), (1, .int p1)]) hx hb dX12_again_40 rfl hl (by decide) rfl (fun ls hl => ?_)
      exact k41 N ((2690 : Int32) + ((846 : Int32) * p1)) (0 : Int32) v0_taped v0_faultKind v0_faultPlace v0_undos r6 g0_tape H locs ls hf hP hD hS (lv_sub hl [2, 1, 0] rfl)
    · replace hf := ip c_5 hf
      refine lv_iconst (v := 0) hx hb dX12_again_18 (by decide) ?_
      have he := Option.some.inj hf
      rw [hQ]
      exact W.zret (v := (0 : Int32)) hx hb hr (znb (Or.inl rfl)) (fun t ht hW => by rw [← he]; exact ⟨⟨(0 : Int32), (), rfl, ⟨rfl, Or.inl rfl⟩, by rw [ht]; exact hP, hD⟩, hS.F ht⟩) hS.2.2 dX12_again_19
