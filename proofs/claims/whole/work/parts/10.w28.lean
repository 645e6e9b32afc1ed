def fX12_words_60 (N : Nat) (g0_tape : Nat → Int32) (rec33 : Int32 → Int32 → Int32 → Int32 → Int32 → Int32 → Int32 → (Nat → Int32) → Option (Int32 × Int32 × Int32 × Int32 × Int32 × (Nat → Int32))) (y0 : Int32) (x1 : Int32) (x2 : Int32) (x3 : Int32) (v0_taped : Int32) (v0_faultKind : Int32) (v0_faultPlace : Int32) (v0_undos : Int32) (g0_all : Nat → Int32) : Option (Int32 × Int32 × Int32 × Int32 × Int32 × (Nat → Int32)) :=
  if y0 = (0 : Int32) then
    Option.bind (fX12_rowEnds N v0_faultKind v0_faultPlace g0_all g0_tape (x3 - x2) x2) fun r13 =>
    if x1 ≤ x3 then
      rec33 x1 (0 : Int32) (x3 + (1 : Int32)) v0_taped r13.1 r13.2.1 v0_undos r13.2.2
    else
      if x3 < 0 ∨ 400 ≤ (x3).toNatClampNeg then none else
      if (g0_tape (x3).toNatClampNeg) = (32 : Int32) then
        rec33 x1 (0 : Int32) (x3 + (1 : Int32)) v0_taped r13.1 r13.2.1 v0_undos r13.2.2
      else
        if x3 < 0 ∨ 400 ≤ (x3).toNatClampNeg then none else
        if (g0_tape (x3).toNatClampNeg) = (10 : Int32) then
          rec33 x1 (0 : Int32) (x3 + (1 : Int32)) v0_taped r13.1 r13.2.1 v0_undos r13.2.2
        else
          Option.bind (fX12_fails r13.1 r13.2.1 (1 : Int32) x3) fun r19 =>
          rec33 x1 (0 : Int32) (x3 + (1 : Int32)) v0_taped r19.1 r19.2 v0_undos r13.2.2
  else
    rec33 x1 (x2 + (1 : Int32)) (x3 + (1 : Int32)) v0_taped v0_faultKind v0_faultPlace v0_undos g0_all
def fX12_words_59 (N : Nat) (g0_tape : Nat → Int32) (rec33 : Int32 → Int32 → Int32 → Int32 → Int32 → Int32 → Int32 → (Nat → Int32) → Option (Int32 × Int32 × Int32 × Int32 × Int32 × (Nat → Int32))) (x1 : Int32) (x2 : Int32) (x3 : Int32) (v0_taped : Int32) (v0_faultKind : Int32) (v0_faultPlace : Int32) (v0_undos : Int32) (g0_all : Nat → Int32) : Option (Int32 × Int32 × Int32 × Int32 × Int32 × (Nat → Int32)) :=
  fX12_words_60 N g0_tape rec33 (0 : Int32) x1 x2 x3 v0_taped v0_faultKind v0_faultPlace v0_undos g0_all
def fX12_words_33 (N : Nat) (g0_tape : Nat → Int32) : Nat → Int32 → Int32 → Int32 → Int32 → Int32 → Int32 → Int32 → (Nat → Int32) → Option (Int32 × Int32 × Int32 × Int32 × Int32 × (Nat → Int32))
  | 0, _, _, _, _, _, _, _, _ => none
  | K + 1, x1, x2, x3, v0_taped, v0_faultKind, v0_faultPlace, v0_undos, g0_all =>
    if x1 < x3 then
      if v0_faultKind ≤ (0 : Int32) then
        Option.bind (fX12_copies N g0_all (764 : Int32) (0 : Int32) (321 : Int32)) fun r4 =>
        if (321 : Int32) < 0 ∨ 5228 ≤ ((321 : Int32)).toNatClampNeg then none else
        if (0 : Int32) < 0 ∨ 5228 ≤ ((0 : Int32)).toNatClampNeg then none else
        some (((upd r4 ((321 : Int32)).toNatClampNeg (0 : Int32)) ((0 : Int32)).toNatClampNeg), v0_taped, v0_faultKind, v0_faultPlace, (0 : Int32), (upd r4 ((321 : Int32)).toNatClampNeg (0 : Int32)))
      else
        some ((-1 : Int32), v0_taped, v0_faultKind, v0_faultPlace, v0_undos, g0_all)
    else
      if x1 ≤ x3 then
        fX12_words_59 N g0_tape (fX12_words_33 N g0_tape K) x1 x2 x3 v0_taped v0_faultKind v0_faultPlace v0_undos g0_all
      else
        if x3 < 0 ∨ 400 ≤ (x3).toNatClampNeg then none else
        Option.bind (fX12_isLetter (g0_tape (x3).toNatClampNeg)) fun r9 =>
        if r9 = (0 : Int32) then
          fX12_words_59 N g0_tape (fX12_words_33 N g0_tape K) x1 x2 x3 v0_taped v0_faultKind v0_faultPlace v0_undos g0_all
        else
          fX12_words_60 N g0_tape (fX12_words_33 N g0_tape K) (1 : Int32) x1 x2 x3 v0_taped v0_faultKind v0_faultPlace v0_undos g0_all
def fX12_words (N : Nat) (v0_taped : Int32) (v0_faultKind : Int32) (v0_faultPlace : Int32) (v0_undos : Int32) (g0_all : Nat → Int32) (g0_tape : Nat → Int32) : Option (Int32 × Int32 × Int32 × Int32 × Int32 × (Nat → Int32)) :=
  if (764 : Int32) < 0 ∨ 5228 ≤ ((764 : Int32)).toNatClampNeg then none else
  fX12_words_33 N g0_tape N v0_taped (0 : Int32) (0 : Int32) (0 : Int32) (0 : Int32) (-1 : Int32) v0_undos (upd g0_all ((764 : Int32)).toNatClampNeg (0 : Int32))
set_option maxHeartbeats 4000000 in
set_option maxRecDepth 100000 in
theorem mX12_words (l : Launch) (D : zG) (a0 : Nat) (a0_all : Nat) (a0_tape : Nat) (a0_isImage : Nat) (a0_turnWord : Nat) (a0_turnFrom : Nat) (a0_pieceSign : Nat) (a0_pieceFrom : Nat) (a0_runFrom : Nat) (a0_runLong : Nat) (a0_runPiece : Nat) (a0_alike : Nat) (a0_stood : Nat) (sz : Nat)  (v0_taped : Int32) (v0_faultKind : Int32) (v0_faultPlace : Int32) (v0_undos : Int32) (v0_turns : Int32) (v0_pieces : Int32) (v0_signs : Int32) (v0_runs : Int32) (g0_all : Nat → Int32) (g0_tape : Nat → Int32)  (N : Nat) (res : Int32 × Int32 × Int32 × Int32 × Int32 × (Nat → Int32)) (hf : fX12_words N v0_taped v0_faultKind v0_faultPlace v0_undos g0_all g0_tape = some res) : Met l yX12_words wsX12_words ({ frames := 3, cells := 0, slots := 0, locals := 70 } : Room) (va_Pc [.ref a0] (zW D sz [(a0, .inr (9, [.ref a0_all, .ref a0_tape, .ref a0_isImage, .int v0_taped, .int v0_faultKind, .int v0_faultPlace, .int v0_undos, .ref a0_turnWord, .ref a0_turnFrom, .int v0_turns, .ref a0_pieceSign, .ref a0_pieceFrom, .int v0_pieces, .int v0_signs, .ref a0_runFrom, .ref a0_runLong, .ref a0_runPiece, .int v0_runs, .ref a0_alike, .ref a0_stood])), (a0_all, .inl (D.2 1, 5228, .inl g0_all)), (a0_tape, .inl (D.2 1, 400, .inl g0_tape))])) (va_Qi (fun r (_ : Unit) => r = res.1) (fun _ => zB D (va_A [(a0, .inr (9, [.ref a0_all, .ref a0_tape, .ref a0_isImage, .int v0_taped, .int v0_faultKind, .int v0_faultPlace, .int v0_undos, .ref a0_turnWord, .ref a0_turnFrom, .int v0_turns, .ref a0_pieceSign, .ref a0_pieceFrom, .int v0_pieces, .int v0_signs, .ref a0_runFrom, .ref a0_runLong, .ref a0_runPiece, .int v0_runs, .ref a0_alike, .ref a0_stood])), (a0_all, .inl (D.2 1, 5228, .inl g0_all)), (a0_tape, .inl (D.2 1, 400, .inl g0_tape))] sz) [(a0, .inr (9, [.ref a0_all, .ref a0_tape, .ref a0_isImage, .int res.2.1, .int res.2.2.1, .int res.2.2.2.1, .int res.2.2.2.2.1, .ref a0_turnWord, .ref a0_turnFrom, .int v0_turns, .ref a0_pieceSign, .ref a0_pieceFrom, .int v0_pieces, .int v0_signs, .ref a0_runFrom, .ref a0_runLong, .ref a0_runPiece, .int v0_runs, .ref a0_alike, .ref a0_stood])), (a0_all, .inl (D.2 1, 5228, .inl res.2.2.2.2.2)), (a0_tape, .inl (D.2 1, 400, .inl g0_tape))]) (va_A [(a0, .inr (9, [.ref a0_all, .ref a0_tape, .ref a0_isImage, .int v0_taped, .int v0_faultKind, .int v0_faultPlace, .int v0_undos, .ref a0_turnWord, .ref a0_turnFrom, .int v0_turns, .ref a0_pieceSign, .ref a0_pieceFrom, .int v0_pieces, .int v0_signs, .ref a0_runFrom, .ref a0_runLong, .ref a0_runPiece, .int v0_runs, .ref a0_alike, .ref a0_stood])), (a0_all, .inl (D.2 1, 5228, .inl g0_all)), (a0_tape, .inl (D.2 1, 400, .inl g0_tape))] sz)) 0 0 (va_A [(a0, .inr (9, [.ref a0_all, .ref a0_tape, .ref a0_isImage, .int v0_taped, .int v0_faultKind, .int v0_faultPlace, .int v0_undos, .ref a0_turnWord, .ref a0_turnFrom, .int v0_turns, .ref a0_pieceSign, .ref a0_pieceFrom, .int v0_pieces, .int v0_signs, .ref a0_runFrom, .ref a0_runLong, .ref a0_runPiece, .int v0_runs, .ref a0_alike, .ref a0_stood])), (a0_all, .inl (D.2 1, 5228, .inl g0_all)), (a0_tape, .inl (D.2 1, 400, .inl g0_tape))] sz) := by
  refine Met.ofW (cc := cX12_words) (maxL := 5) (ret := (some .int)) (by decide) rfl ?_
  intro p e s m args below meth c s₁ B hml hv
  obtain ⟨rfl, hsz, hP, hK, hD0⟩ := hv
  have hx := B.exec
  have hb := B.bytes
  have hr := B.returns
  have hts := atoms_spec (ws := wsX12_words) B.pre
  have hown : s.vm.findClass RX12 = some m.cls := findClass_of_methodNamed B.named
  have hlocks := B.notSynchronized
  subst hsz
  have hD := hD0.self (sz := s.heap.size)
  generalize hAe : va_A [(a0, .inr (9, [.ref a0_all, .ref a0_tape, .ref a0_isImage, .int v0_taped, .int v0_faultKind, .int v0_faultPlace, .int v0_undos, .ref a0_turnWord, .ref a0_turnFrom, .int v0_turns, .ref a0_pieceSign, .ref a0_pieceFrom, .int v0_pieces, .int v0_signs, .ref a0_runFrom, .ref a0_runLong, .ref a0_runPiece, .int v0_runs, .ref a0_alike, .ref a0_stood])), (a0_all, .inl (D.2 1, 5228, .inl g0_all)), (a0_tape, .inl (D.2 1, 400, .inl g0_tape))] s.heap.size = A at hD ⊢
  have hA : ∀ q : Nat, s.heap.size ≤ q → A q := fun q h => by rw [← hAe]; exact Or.inr h
  have l180 := zat hts 1 (w := .fieldLink RX12 180 "TurnedWordsModel" "taped" "I") rfl
  have l201 := zat hts 2 (w := .fieldLink RX12 201 "TurnedWordsModel" "faultKind" "I") rfl
  have l20 := zat hts 3 (w := .fieldLink RX12 20 "TurnedWordsModel" "faultPlace" "I") rfl
  have l7 := zat hts 4 (w := .fieldLink RX12 7 "TurnedWordsModel" "all" "[I") rfl
  have l177 := zat hts 6 (w := .fieldLink RX12 177 "TurnedWordsModel" "undos" "I") rfl
  have l13 := zat hts 5 (w := .fieldLink RX12 13 "TurnedWordsModel" "tape" "[I") rfl
  have hwX12 : ∀ w ∈ u_ws RX12 TX12 20, w ∈ wsX12_words := fun w h => List.mem_cons_of_mem _ (List.mem_append_right _ h)
  have hl := lv_entry ([.ref a0]) (n := 5) (Nat.le_of_ble_eq_true rfl)
  rw [lg_entry_eq]
  generalize (lg_sl ([.ref a0]) ++ List.replicate (5 - (lg_sl ([.ref a0])).length) Slot.unset).toArray = ls at hl ⊢
  have hl : lv_has ls 5 [(0, .ref a0)] := hl
  refine zStart (A := A) hP (fun Q0 H locs hQ hP hS => ?_)
  have k60 : ∀ (rec33 : Int32 → Int32 → Int32 → Int32 → Int32 → Int32 → Int32 → (Nat → Int32) → Option (Int32 × Int32 × Int32 × Int32 × Int32 × (Nat → Int32))), (∀ (x1 : Int32) (x2 : Int32) (x3 : Int32) (v0_taped : Int32) (v0_faultKind : Int32) (v0_faultPlace : Int32) (v0_undos : Int32) (g0_all : Nat → Int32) (H : Heap) (locs : List Loc) (ls : Array Slot), rec33 x1 x2 x3 v0_taped v0_faultKind v0_faultPlace v0_undos g0_all = some res → va_P D.1 vwCl [(a0, .inr (9, [.ref a0_all, .ref a0_tape, .ref a0_isImage, .int v0_taped, .int v0_faultKind, .int v0_faultPlace, .int v0_undos, .ref a0_turnWord, .ref a0_turnFrom, .int v0_turns, .ref a0_pieceSign, .ref a0_pieceFrom, .int v0_pieces, .int v0_signs, .ref a0_runFrom, .ref a0_runLong, .ref a0_runPiece, .int v0_runs, .ref a0_alike, .ref a0_stood])), (a0_all, .inl (D.2 1, 5228, .inl g0_all)), (a0_tape, .inl (D.2 1, 400, .inl g0_tape))] H → va_D A [(a0, .inr (9, [.ref a0_all, .ref a0_tape, .ref a0_isImage, .int v0_taped, .int v0_faultKind, .int v0_faultPlace, .int v0_undos, .ref a0_turnWord, .ref a0_turnFrom, .int v0_turns, .ref a0_pieceSign, .ref a0_pieceFrom, .int v0_pieces, .int v0_signs, .ref a0_runFrom, .ref a0_runLong, .ref a0_runPiece, .int v0_runs, .ref a0_alike, .ref a0_stood])), (a0_all, .inl (D.2 1, 5228, .inl g0_all)), (a0_tape, .inl (D.2 1, 400, .inl g0_tape))] → va_S A s.heap H locs → lv_has ls 5 [(0, .ref a0), (1, .int x1), (2, .int x2), (3, .int x3)] → W p l e (headSpec wsX12_words ({ frames := 3, cells := 0, slots := 0, locals := 70 } : Room)).room s m ([.ref a0] : List Value).toArray below meth c H locs 0 0 Q0 (F0 m 33 ls [])) → ∀ (y0 : Int32) (x1 : Int32) (x2 : Int32) (x3 : Int32) (v0_taped : Int32) (v0_faultKind : Int32) (v0_faultPlace : Int32) (v0_undos : Int32) (g0_all : Nat → Int32) (H : Heap) (locs : List Loc) (ls : Array Slot), fX12_words_60 N g0_tape rec33 y0 x1 x2 x3 v0_taped v0_faultKind v0_faultPlace v0_undos g0_all = some res → va_P D.1 vwCl [(a0, .inr (9, [.ref a0_all, .ref a0_tape, .ref a0_isImage, .int v0_taped, .int v0_faultKind, .int v0_faultPlace, .int v0_undos, .ref a0_turnWord, .ref a0_turnFrom, .int v0_turns, .ref a0_pieceSign, .ref a0_pieceFrom, .int v0_pieces, .int v0_signs, .ref a0_runFrom, .ref a0_runLong, .ref a0_runPiece, .int v0_runs, .ref a0_alike, .ref a0_stood])), (a0_all, .inl (D.2 1, 5228, .inl g0_all)), (a0_tape, .inl (D.2 1, 400, .inl g0_tape))] H → va_D A [(a0, .inr (9, [.ref a0_all, .ref a0_tape, .ref a0_isImage, .int v0_taped, .int v0_faultKind, .int v0_faultPlace, .int v0_undos, .ref a0_turnWord, .ref a0_turnFrom, .int v0_turns, .ref a0_pieceSign, .ref a0_pieceFrom, .int v0_pieces, .int v0_signs, .ref a0_runFrom, .ref a0_runLong, .ref a0_runPiece, .int v0_runs, .ref a0_alike, .ref a0_stood])), (a0_all, .inl (D.2 1, 5228, .inl g0_all)), (a0_tape, .inl (D.2 1, 400, .inl g0_tape))] → va_S A s.heap H locs → lv_has ls 5 [(0, .ref a0), (1, .int x1), (2, .int x2), (3, .int x3)] → W p l e (headSpec wsX12_words ({ frames := 3, cells := 0, slots := 0, locals := 70 } : Room)).room s m ([.ref a0] : List Value).toArray below meth c H locs 0 0 Q0 (F0 m 60 ls [.int y0]) := by
    intro rec33 hrec33 y0 x1 x2 x3 v0_taped v0_faultKind v0_faultPlace v0_undos g0_all H locs ls hf hP hD hS hl
    unfold fX12_words_60 at hf
    refine lv_istore (lv' := [(4, .int y0), (0, .ref a0), (1, .int x1), (2, .int x2), (3, .int x3)]) hx hb dX12_words_60 hl (by decide) rfl (fun ls hl => ?_)
    refine lv_iload hx hb dX12_words_62 (lv_at hl 0 rfl) ?_
    refine lv_if_eq (tgt := 73) hx hb dX12_words_64 (by decide) (fun c_12 => ?_) (fun c_12 => ?_)
    · replace hf := ip c_12 hf
      refine lv_aload_n hx hb dX12_words_73 rfl (lv_at hl 1 rfl) ?_
      refine lv_iload_n hx hb dX12_words_74 rfl (lv_at hl 4 rfl) ?_
      refine lv_iload_n hx hb dX12_words_75 rfl (lv_at hl 3 rfl) ?_
      refine lv_isub hx hb dX12_words_76 ?_
      refine lv_iload_n hx hb dX12_words_77 rfl (lv_at hl 3 rfl) ?_
      obtain ⟨r13, hr13, hf⟩ := bd hf
      refine zVv (As := [.int (x3 - x2), .int x2]) (rest := []) (ci := 9) (q0 := 0) (wn := [(a0, .inr (9, [.ref a0_all, .ref a0_tape, .ref a0_isImage, .int v0_taped, .int r13.1, .int r13.2.1, .int v0_undos, .ref a0_turnWord, .ref a0_turnFrom, .int v0_turns, .ref a0_pieceSign, .ref a0_pieceFrom, .int v0_pieces, .int v0_signs, .ref a0_runFrom, .ref a0_runLong, .ref a0_runPiece, .int v0_runs, .ref a0_alike, .ref a0_stood])), (a0_all, .inl (D.2 1, 5228, .inl r13.2.2)), (a0_tape, .inl (D.2 1, 400, .inl g0_tape))]) ⟨hx, hb, hml, hown, hts⟩ (mX12_rowEnds l D a0 a0_all a0_tape a0_isImage a0_turnWord a0_turnFrom a0_pieceSign a0_pieceFrom a0_runFrom a0_runLong a0_runPiece a0_alike a0_stood H.size v0_taped v0_faultKind v0_faultPlace v0_undos v0_turns v0_pieces v0_signs v0_runs g0_all g0_tape (x3 - x2) x2 N r13 hr13) (cwV 2 hts gX12_words_X12_rowEnds rfl rfl rfl (by decide +kernel) ⟨Nat.le_of_ble_eq_true rfl, Nat.le_of_ble_eq_true rfl⟩) hK hP hD hS hA [0, 1, 2] [] [0, 1, 2] rfl (by decide) rfl (by decide) (by decide) rfl (by decide) rfl rfl rfl hl.1 rfl (Nat.le_of_ble_eq_true rfl) dX12_words_78 ⟨Nat.zero_le _, Nat.zero_le _⟩ (fun H locs hP hD hS => ?_)
      refine lv_iconst (v := 0) hx hb dX12_words_81 (by decide) ?_
      refine lv_istore_n (lv' := [(2, .int (0 : Int32)), (4, .int y0), (0, .ref a0), (1, .int x1), (3, .int x3)]) hx hb dX12_words_82 rfl hl (by decide) rfl (fun ls hl => ?_)
      refine lv_iload_n hx hb dX12_words_83 rfl (lv_at hl 4 rfl) ?_
      refine lv_iload_n hx hb dX12_words_84 rfl (lv_at hl 3 rfl) ?_
      refine lv_icmp_ge (tgt := 116) hx hb dX12_words_85 (by decide) (fun c_14 => ?_) (fun c_14 => ?_)
      · replace hf := ip c_14 hf
        refine lv_iinc (v := (x3 + (1 : Int32))) (lv' := [(3, .int (x3 + (1 : Int32))), (2, .int (0 : Int32)), (4, .int y0), (0, .ref a0), (1, .int x1)]) hx hb dX12_words_116 hl (k := 4) rfl rfl (by decide) rfl (fun ls hl => ?_)
        refine lv_goto (tgt := 33) hx hb dX12_words_119 (by decide) ?_
        exact hrec33 x1 (0 : Int32) (x3 + (1 : Int32)) v0_taped r13.1 r13.2.1 v0_undos r13.2.2 H locs ls hf hP hD hS (lv_sub hl [3, 4, 1, 0] rfl)
      · replace hf := im c_14 hf
        refine lv_aload_n hx hb dX12_words_88 rfl (lv_at hl 2 rfl) ?_
        refine va_get (D := D.1) (ci := 9) (v := .ref a0_tape) (C := RX12) (T := TX12) (N := 20) hx hb hts hwX12 hown hK.1 hP 0 rfl rfl 1 (by decide) l13 (fun _ h9 => h9) rfl dX12_words_89 ?_
        refine lv_iload_n hx hb dX12_words_92 rfl (lv_at hl 4 rfl) ?_
        obtain ⟨h_15, hf⟩ := gd hf
        refine va_iald hx hb hK.1 hP 2 1 rfl rfl h_15 dX12_words_93 ?_
        refine lv_bipush (v := 32) hx hb dX12_words_94 (by decide) ?_
        refine lv_icmp_eq (tgt := 116) hx hb dX12_words_96 (by decide) (fun c_16 => ?_) (fun c_16 => ?_)
        · replace hf := ip c_16 hf
          refine lv_iinc (v := (x3 + (1 : Int32))) (lv' := [(3, .int (x3 + (1 : Int32))), (2, .int (0 : Int32)), (4, .int y0), (0, .ref a0), (1, .int x1)]) hx hb dX12_words_116 hl (k := 4) rfl rfl (by decide) rfl (fun ls hl => ?_)
          refine lv_goto (tgt := 33) hx hb dX12_words_119 (by decide) ?_
          exact hrec33 x1 (0 : Int32) (x3 + (1 : Int32)) v0_taped r13.1 r13.2.1 v0_undos r13.2.2 H locs ls hf hP hD hS (lv_sub hl [3, 4, 1, 0] rfl)
        · replace hf := im c_16 hf
          refine lv_aload_n hx hb dX12_words_99 rfl (lv_at hl 2 rfl) ?_
          refine va_get (D := D.1) (ci := 9) (v := .ref a0_tape) (C := RX12) (T := TX12) (N := 20) hx hb hts hwX12 hown hK.1 hP 0 rfl rfl 1 (by decide) l13 (fun _ h9 => h9) rfl dX12_words_100 ?_
          refine lv_iload_n hx hb dX12_words_103 rfl (lv_at hl 4 rfl) ?_
          obtain ⟨h_17, hf⟩ := gd hf
          refine va_iald hx hb hK.1 hP 2 1 rfl rfl h_17 dX12_words_104 ?_
          refine lv_bipush (v := 10) hx hb dX12_words_105 (by decide) ?_
          refine lv_icmp_eq (tgt := 116) hx hb dX12_words_107 (by decide) (fun c_18 => ?_) (fun c_18 => ?_)
          · replace hf := ip c_18 hf
            refine lv_iinc (v := (x3 + (1 : Int32))) (lv' := [(3, .int (x3 + (1 : Int32))), (2, .int (0 : Int32)), (4, .int y0), (0, .ref a0), (1, .int x1)]) hx hb dX12_words_116 hl (k := 4) rfl rfl (by decide) rfl (fun ls hl => ?_)
            refine lv_goto (tgt := 33) hx hb dX12_words_119 (by decide) ?_
            exact hrec33 x1 (0 : Int32) (x3 + (1 : Int32)) v0_taped r13.1 r13.2.1 v0_undos r13.2.2 H locs ls hf hP hD hS (lv_sub hl [3, 4, 1, 0] rfl)
          · replace hf := im c_18 hf
            refine lv_aload_n hx hb dX12_words_110 rfl (lv_at hl 2 rfl) ?_
            refine lv_iconst (v := 1) hx hb dX12_words_111 (by decide) ?_
            refine lv_iload_n hx hb dX12_words_112 rfl (lv_at hl 4 rfl) ?_
            obtain ⟨r19, hr19, hf⟩ := bd hf
            refine zVv (As := [.int (1 : Int32), .int x3]) (rest := []) (ci := 9) (q0 := 0) (wn := [(a0, .inr (9, [.ref a0_all, .ref a0_tape, .ref a0_isImage, .int v0_taped, .int r19.1, .int r19.2, .int v0_undos, .ref a0_turnWord, .ref a0_turnFrom, .int v0_turns, .ref a0_pieceSign, .ref a0_pieceFrom, .int v0_pieces, .int v0_signs, .ref a0_runFrom, .ref a0_runLong, .ref a0_runPiece, .int v0_runs, .ref a0_alike, .ref a0_stood])), (a0_all, .inl (D.2 1, 5228, .inl r13.2.2)), (a0_tape, .inl (D.2 1, 400, .inl g0_tape))]) ⟨hx, hb, hml, hown, hts⟩ (mX12_fails l D a0 a0_all a0_tape a0_isImage a0_turnWord a0_turnFrom a0_pieceSign a0_pieceFrom a0_runFrom a0_runLong a0_runPiece a0_alike a0_stood H.size v0_taped r13.1 r13.2.1 v0_undos v0_turns v0_pieces v0_signs v0_runs (1 : Int32) x3 r19 hr19) (cwV 2 hts gX12_words_X12_fails rfl rfl rfl (by decide +kernel) ⟨Nat.le_of_ble_eq_true rfl, Nat.le_of_ble_eq_true rfl⟩) hK hP hD hS hA [0] [1, 2] [2, 0, 1] rfl (by decide) rfl (by decide) (by decide) rfl (by decide) rfl rfl rfl hl.1 rfl (Nat.le_of_ble_eq_true rfl) dX12_words_113 ⟨Nat.zero_le _, Nat.zero_le _⟩ (fun H locs hP hD hS => ?_)
            refine lv_iinc (v := (x3 + (1 : Int32))) (lv' := [(3, .int (x3 + (1 : Int32))), (2, .int (0 : Int32)), (4, .int y0), (0, .ref a0), (1, .int x1)]) hx hb dX12_words_116 hl (k := 4) rfl rfl (by decide) rfl (fun ls hl => ?_)
            refine lv_goto (tgt := 33) hx hb dX12_words_119 (by decide) ?_
            exact hrec33 x1 (0 : Int32) (x3 + (1 : Int32)) v0_taped r19.1 r19.2 v0_undos r13.2.2 H locs ls hf hP hD hS (lv_sub hl [3, 4, 1, 0] rfl)
    · replace hf := im c_12 hf
      refine lv_iinc (v := (x2 + (1 : Int32))) (lv' := [(2, .int (x2 + (1 : Int32))), (4, .int y0), (0, .ref a0), (1, .int x1), (3, .int x3)]) hx hb dX12_words_67 hl (k := 3) rfl rfl (by decide) rfl (fun ls hl => ?_)
      refine lv_goto (tgt := 116) hx hb dX12_words_70 (by decide) ?_
      refine lv_iinc (v := (x3 + (1 : Int32))) (lv' := [(3, .int (x3 + (1 : Int32))), (2, .int (x2 + (1 : Int32))), (4, .int y0), (0, .ref a0), (1, .int x1)]) hx hb dX12_words_116 hl (k := 4) rfl rfl (by decide) rfl (fun ls hl => ?_)
      refine lv_goto (tgt := 33) hx hb dX12_words_119 (by decide) ?_
      exact hrec33 x1 (x2 + (1 : Int32)) (x3 + (1 : Int32)) v0_taped v0_faultKind v0_faultPlace v0_undos g0_all H locs ls hf hP hD hS (lv_sub hl [3, 4, 1, 0] rfl)
  have k59 : ∀ (rec33 : Int32 → Int32 → Int32 → Int32 → Int32 → Int32 → Int32 → (Nat → Int32) → Option (Int32 × Int32 × Int32 × Int32 × Int32 × (Nat → Int32))), (∀ (x1 : Int32) (x2 : Int32) (x3 : Int32) (v0_taped : Int32) (v0_faultKind : Int32) (v0_faultPlace : Int32) (v0_undos : Int32) (g0_all : Nat → Int32) (H : Heap) (locs : List Loc) (ls : Array Slot), rec33 x1 x2 x3 v0_taped v0_faultKind v0_faultPlace v0_undos g0_all = some res → va_P D.1 vwCl [(a0, .inr (9, [.ref a0_all, .ref a0_tape, .ref a0_isImage, .int v0_taped, .int v0_faultKind, .int v0_faultPlace, .int v0_undos, .ref a0_turnWord, .ref a0_turnFrom, .int v0_turns, .ref a0_pieceSign, .ref a0_pieceFrom, .int v0_pieces, .int v0_signs, .ref a0_runFrom, .ref a0_runLong, .ref a0_runPiece, .int v0_runs, .ref a0_alike, .ref a0_stood])), (a0_all, .inl (D.2 1, 5228, .inl g0_all)), (a0_tape, .inl (D.2 1, 400, .inl g0_tape))] H → va_D A [(a0, .inr (9, [.ref a0_all, .ref a0_tape, .ref a0_isImage, .int v0_taped, .int v0_faultKind, .int v0_faultPlace, .int v0_undos, .ref a0_turnWord, .ref a0_turnFrom, .int v0_turns, .ref a0_pieceSign, .ref a0_pieceFrom, .int v0_pieces, .int v0_signs, .ref a0_runFrom, .ref a0_runLong, .ref a0_runPiece, .int v0_runs, .ref a0_alike, .ref a0_stood])), (a0_all, .inl (D.2 1, 5228, .inl g0_all)), (a0_tape, .inl (D.2 1, 400, .inl g0_tape))] → va_S A s.heap H locs → lv_has ls 5 [(0, .ref a0), (1, .int x1), (2, .int x2), (3, .int x3)] → W p l e (headSpec wsX12_words ({ frames := 3, cells := 0, slots := 0, locals := 70 } : Room)).room s m ([.ref a0] : List Value).toArray below meth c H locs 0 0 Q0 (F0 m 33 ls [])) → ∀ (x1 : Int32) (x2 : Int32) (x3 : Int32) (v0_taped : Int32) (v0_faultKind : Int32) (v0_faultPlace : Int32) (v0_undos : Int32) (g0_all : Nat → Int32) (H : Heap) (locs : List Loc) (ls : Array Slot), fX12_words_59 N g0_tape rec33 x1 x2 x3 v0_taped v0_faultKind v0_faultPlace v0_undos g0_all = some res → va_P D.1 vwCl [(a0, .inr (9, [.ref a0_all, .ref a0_tape, .ref a0_isImage, .int v0_taped, .int v0_faultKind, .int v0_faultPlace, .int v0_undos, .ref a0_turnWord, .ref a0_turnFrom, .int v0_turns, .ref a0_pieceSign, .ref a0_pieceFrom, .int v0_pieces, .int v0_signs, .ref a0_runFrom, .ref a0_runLong, .ref a0_runPiece, .int v0_runs, .ref a0_alike, .ref a0_stood])), (a0_all, .inl (D.2 1, 5228, .inl g0_all)), (a0_tape, .inl (D.2 1, 400, .inl g0_tape))] H → va_D A [(a0, .inr (9, [.ref a0_all, .ref a0_tape, .ref a0_isImage, .int v0_taped, .int v0_faultKind, .int v0_faultPlace, .int v0_undos, .ref a0_turnWord, .ref a0_turnFrom, .int v0_turns, .ref a0_pieceSign, .ref a0_pieceFrom, .int v0_pieces, .int v0_signs, .ref a0_runFrom, .ref a0_runLong, .ref a0_runPiece, .int v0_runs, .ref a0_alike, .ref a0_stood])), (a0_all, .inl (D.2 1, 5228, .inl g0_all)), (a0_tape, .inl (D.2 1, 400, .inl g0_tape))] → va_S A s.heap H locs → lv_has ls 5 [(0, .ref a0), (1, .int x1), (2, .int x2), (3, .int x3)] → W p l e (headSpec wsX12_words ({ frames := 3, cells := 0, slots := 0, locals := 70 } : Room)).room s m ([.ref a0] : List Value).toArray below meth c H locs 0 0 Q0 (F0 m 59 ls []) := by
    intro rec33 hrec33 x1 x2 x3 v0_taped v0_faultKind v0_faultPlace v0_undos g0_all H locs ls hf hP hD hS hl
    unfold fX12_words_59 at hf
    refine lv_iconst (v := 0) hx hb dX12_words_59 (by decide) ?_
    exact k60 rec33 hrec33 (0 : Int32) x1 x2 x3 v0_taped v0_faultKind v0_faultPlace v0_undos g0_all H locs ls hf hP hD hS hl
  have k33 : ∀ K : Nat, ∀ (x1 : Int32) (x2 : Int32) (x3 : Int32) (v0_taped : Int32) (v0_faultKind : Int32) (v0_faultPlace : Int32) (v0_undos : Int32) (g0_all : Nat → Int32) (H : Heap) (locs : List Loc) (ls : Array Slot), fX12_words_33 N g0_tape K x1 x2 x3 v0_taped v0_faultKind v0_faultPlace v0_undos g0_all = some res → va_P D.1 vwCl [(a0, .inr (9, [.ref a0_all, .ref a0_tape, .ref a0_isImage, .int v0_taped, .int v0_faultKind, .int v0_faultPlace, .int v0_undos, .ref a0_turnWord, .ref a0_turnFrom, .int v0_turns, .ref a0_pieceSign, .ref a0_pieceFrom, .int v0_pieces, .int v0_signs, .ref a0_runFrom, .ref a0_runLong, .ref a0_runPiece, .int v0_runs, .ref a0_alike, .ref a0_stood])), (a0_all, .inl (D.2 1, 5228, .inl g0_all)), (a0_tape, .inl (D.2 1, 400, .inl g0_tape))] H → va_D A [(a0, .inr (9, [.ref a0_all, .ref a0_tape, .ref a0_isImage, .int v0_taped, .int v0_faultKind, .int v0_faultPlace, .int v0_undos, .ref a0_turnWord, .ref a0_turnFrom, .int v0_turns, .ref a0_pieceSign, .ref a0_pieceFrom, .int v0_pieces, .int v0_signs, .ref a0_runFrom, .ref a0_runLong, .ref a0_runPiece, .int v0_runs, .ref a0_alike, .ref a0_stood])), (a0_all, .inl (D.2 1, 5228, .inl g0_all)), (a0_tape, .inl (D.2 1, 400, .inl g0_tape))] → va_S A s.heap H locs → lv_has ls 5 [(0, .ref a0), (1, .int x1), (2, .int x2), (3, .int x3)] → W p l e (headSpec wsX12_words ({ frames := 3, cells := 0, slots := 0, locals := 70 } : Room)).room s m ([.ref a0] : List Value).toArray below meth c H locs 0 0 Q0 (F0 m 33 ls []) := by
    intro K
    induction K with
    | zero =>
      intro x1 x2 x3 v0_taped v0_faultKind v0_faultPlace v0_undos g0_all H locs ls hf
      rw [fX12_words_33] at hf
      cases hf
    | succ K ih =>
      intro x1 x2 x3 v0_taped v0_faultKind v0_faultPlace v0_undos g0_all H locs ls hf hP hD hS hl
      rw [fX12_words_33] at hf
      refine lv_iload_n hx hb dX12_words_33 rfl (lv_at hl 3 rfl) ?_
      refine lv_iload_n hx hb dX12_words_34 rfl (lv_at hl 1 rfl) ?_
      refine lv_icmp_gt (tgt := 122) hx hb dX12_words_35 (by decide) (fun c_2 => ?_) (fun c_2 => ?_)
      · replace hf := ip c_2 hf
        refine lv_aload_n hx hb dX12_words_122 rfl (lv_at hl 0 rfl) ?_
        refine va_get (D := D.1) (ci := 9) (v := .int v0_faultKind) (C := RX12) (T := TX12) (N := 20) hx hb hts hwX12 hown hK.1 hP 0 rfl rfl 4 (by decide) l201 (fun _ h9 => h9) rfl dX12_words_123 ?_
        refine lv_if_le (tgt := 131) hx hb dX12_words_126 (by decide) (fun c_3 => ?_) (fun c_3 => ?_)
        · replace hf := ip c_3 hf
          refine lv_aload_n hx hb dX12_words_131 rfl (lv_at hl 0 rfl) ?_
          refine lv_sipush (v := 764) hx hb dX12_words_132 (by decide) ?_
          refine lv_iconst (v := 0) hx hb dX12_words_135 (by decide) ?_
          refine lv_sipush (v := 321) hx hb dX12_words_136 (by decide) ?_
          obtain ⟨r4, hr4, hf⟩ := bd hf
          refine zVv (As := [.int (764 : Int32), .int (0 : Int32), .int (321 : Int32)]) (rest := []) (ci := 9) (q0 := 0) (wn := [(a0, .inr (9, [.ref a0_all, .ref a0_tape, .ref a0_isImage, .int v0_taped, .int v0_faultKind, .int v0_faultPlace, .int v0_undos, .ref a0_turnWord, .ref a0_turnFrom, .int v0_turns, .ref a0_pieceSign, .ref a0_pieceFrom, .int v0_pieces, .int v0_signs, .ref a0_runFrom, .ref a0_runLong, .ref a0_runPiece, .int v0_runs, .ref a0_alike, .ref a0_stood])), (a0_all, .inl (D.2 1, 5228, .inl r4)), (a0_tape, .inl (D.2 1, 400, .inl g0_tape))]) ⟨hx, hb, hml, hown, hts⟩ (mX12_copies l D a0 a0_all a0_tape a0_isImage a0_turnWord a0_turnFrom a0_pieceSign a0_pieceFrom a0_runFrom a0_runLong a0_runPiece a0_alike a0_stood H.size v0_taped v0_faultKind v0_faultPlace v0_undos v0_turns v0_pieces v0_signs v0_runs g0_all (764 : Int32) (0 : Int32) (321 : Int32) N r4 hr4) (cwV 3 hts gX12_words_X12_copies rfl rfl rfl (by decide +kernel) ⟨Nat.le_of_ble_eq_true rfl, Nat.le_of_ble_eq_true rfl⟩) hK hP hD hS hA [0, 1] [2] [1, 2, 0] rfl (by decide) rfl (by decide) (by decide) rfl (by decide) rfl rfl rfl hl.1 rfl (Nat.le_of_ble_eq_true rfl) dX12_words_139 ⟨Nat.zero_le _, Nat.zero_le _⟩ (fun H locs hP hD hS => ?_)
          refine lv_aload_n hx hb dX12_words_142 rfl (lv_at hl 0 rfl) ?_
          refine va_get (D := D.1) (ci := 9) (v := .ref a0_all) (C := RX12) (T := TX12) (N := 20) hx hb hts hwX12 hown hK.1 hP 0 rfl rfl 0 (by decide) l7 (fun _ h9 => h9) rfl dX12_words_143 ?_
          refine lv_sipush (v := 321) hx hb dX12_words_146 (by decide) ?_
          refine lv_iconst (v := 0) hx hb dX12_words_149 (by decide) ?_
          obtain ⟨h_5, hf⟩ := gd hf
          refine va_iast hx hb hK.1 hP hD hS 1 1 rfl rfl h_5 dX12_words_150 (fun H locs hP hD hS => ?_)
          have hP : va_P D.1 vwCl [(a0, .inr (9, [.ref a0_all, .ref a0_tape, .ref a0_isImage, .int v0_taped, .int v0_faultKind, .int v0_faultPlace, .int v0_undos, .ref a0_turnWord, .ref a0_turnFrom, .int v0_turns, .ref a0_pieceSign, .ref a0_pieceFrom, .int v0_pieces, .int v0_signs, .ref a0_runFrom, .ref a0_runLong, .ref a0_runPiece, .int v0_runs, .ref a0_alike, .ref a0_stood])), (a0_all, .inl (D.2 1, 5228, .inl (upd r4 ((321 : Int32)).toNatClampNeg (0 : Int32)))), (a0_tape, .inl (D.2 1, 400, .inl g0_tape))] H := hP
          have hD : va_D A [(a0, .inr (9, [.ref a0_all, .ref a0_tape, .ref a0_isImage, .int v0_taped, .int v0_faultKind, .int v0_faultPlace, .int v0_undos, .ref a0_turnWord, .ref a0_turnFrom, .int v0_turns, .ref a0_pieceSign, .ref a0_pieceFrom, .int v0_pieces, .int v0_signs, .ref a0_runFrom, .ref a0_runLong, .ref a0_runPiece, .int v0_runs, .ref a0_alike, .ref a0_stood])), (a0_all, .inl (D.2 1, 5228, .inl (upd r4 ((321 : Int32)).toNatClampNeg (0 : Int32)))), (a0_tape, .inl (D.2 1, 400, .inl g0_tape))] := hD
          refine lv_aload_n hx hb dX12_words_151 rfl (lv_at hl 0 rfl) ?_
          refine lv_iconst (v := 0) hx hb dX12_words_152 (by decide) ?_
          refine va_put (D := D.1) (ci := 9) (v := .int (0 : Int32)) (ty := .int) (C := RX12) (T := TX12) (N := 20) hx hb hts hwX12 tyX12 tyX12_ok nmX12 hown hK.1 hP hD hS 0 rfl rfl 6 (by decide) l177 (fun _ h9 => h9) rfl (by decide +kernel) rfl rfl (Nat.le_of_ble_eq_true rfl) dX12_words_153 (fun H locs hP hD hS => ?_)
          have hP : va_P D.1 vwCl [(a0, .inr (9, [.ref a0_all, .ref a0_tape, .ref a0_isImage, .int v0_taped, .int v0_faultKind, .int v0_faultPlace, .int (0 : Int32), .ref a0_turnWord, .ref a0_turnFrom, .int v0_turns, .ref a0_pieceSign, .ref a0_pieceFrom, .int v0_pieces, .int v0_signs, .ref a0_runFrom, .ref a0_runLong, .ref a0_runPiece, .int v0_runs, .ref a0_alike, .ref a0_stood])), (a0_all, .inl (D.2 1, 5228, .inl (upd r4 ((321 : Int32)).toNatClampNeg (0 : Int32)))), (a0_tape, .inl (D.2 1, 400, .inl g0_tape))] H := hP
          have hD : va_D A [(a0, .inr (9, [.ref a0_all, .ref a0_tape, .ref a0_isImage, .int v0_taped, .int v0_faultKind, .int v0_faultPlace, .int (0 : Int32), .ref a0_turnWord, .ref a0_turnFrom, .int v0_turns, .ref a0_pieceSign, .ref a0_pieceFrom, .int v0_pieces, .int v0_signs, .ref a0_runFrom, .ref a0_runLong, .ref a0_runPiece, .int v0_runs, .ref a0_alike, .ref a0_stood])), (a0_all, .inl (D.2 1, 5228, .inl (upd r4 ((321 : Int32)).toNatClampNeg (0 : Int32)))), (a0_tape, .inl (D.2 1, 400, .inl g0_tape))] := hD
          refine lv_aload_n hx hb dX12_words_156 rfl (lv_at hl 0 rfl) ?_
          refine va_get (D := D.1) (ci := 9) (v := .ref a0_all) (C := RX12) (T := TX12) (N := 20) hx hb hts hwX12 hown hK.1 hP 0 rfl rfl 0 (by decide) l7 (fun _ h9 => h9) rfl dX12_words_157 ?_
          refine lv_iconst (v := 0) hx hb dX12_words_160 (by decide) ?_
          obtain ⟨h_6, hf⟩ := gd hf
          refine va_iald hx hb hK.1 hP 1 1 rfl rfl h_6 dX12_words_161 ?_
          have he := Option.some.inj hf
          rw [hQ]
          exact W.iret (v := ((upd r4 ((321 : Int32)).toNatClampNeg (0 : Int32)) ((0 : Int32)).toNatClampNeg)) hx hb hr (fun t ht hW => by rw [← he]; exact ⟨⟨((upd r4 ((321 : Int32)).toNatClampNeg (0 : Int32)) ((0 : Int32)).toNatClampNeg), (), rfl, rfl, by rw [ht]; exact hP, hD⟩, hS.F ht⟩) hS.2.2 dX12_words_162
        · replace hf := im c_3 hf
          refine lv_iconst (v := -1) hx hb dX12_words_129 (by decide) ?_
          have he := Option.some.inj hf
          rw [hQ]
          exact W.iret (v := (-1 : Int32)) hx hb hr (fun t ht hW => by rw [← he]; exact ⟨⟨(-1 : Int32), (), rfl, rfl, by rw [ht]; exact hP, hD⟩, hS.F ht⟩) hS.2.2 dX12_words_130
      · replace hf := im c_2 hf
        refine lv_iload_n hx hb dX12_words_38 rfl (lv_at hl 3 rfl) ?_
        refine lv_iload_n hx hb dX12_words_39 rfl (lv_at hl 1 rfl) ?_
        refine lv_icmp_ge (tgt := 59) hx hb dX12_words_40 (by decide) (fun c_7 => ?_) (fun c_7 => ?_)
        · replace hf := ip c_7 hf
          exact k59 _ ih x1 x2 x3 v0_taped v0_faultKind v0_faultPlace v0_undos g0_all H locs ls hf hP hD hS hl
        · replace hf := im c_7 hf
          refine lv_aload_n hx hb dX12_words_43 rfl (lv_at hl 0 rfl) ?_
          refine va_get (D := D.1) (ci := 9) (v := .ref a0_tape) (C := RX12) (T := TX12) (N := 20) hx hb hts hwX12 hown hK.1 hP 0 rfl rfl 1 (by decide) l13 (fun _ h9 => h9) rfl dX12_words_44 ?_
          refine lv_iload_n hx hb dX12_words_47 rfl (lv_at hl 3 rfl) ?_
          obtain ⟨h_8, hf⟩ := gd hf
          refine va_iald hx hb hK.1 hP 2 1 rfl rfl h_8 dX12_words_48 ?_
          obtain ⟨r9, hr9, hf⟩ := bd hf
          refine zSz (As := [.int (g0_tape (x3).toNatClampNeg)]) (rest := []) (wn := [(a0, .inr (9, [.ref a0_all, .ref a0_tape, .ref a0_isImage, .int v0_taped, .int v0_faultKind, .int v0_faultPlace, .int v0_undos, .ref a0_turnWord, .ref a0_turnFrom, .int v0_turns, .ref a0_pieceSign, .ref a0_pieceFrom, .int v0_pieces, .int v0_signs, .ref a0_runFrom, .ref a0_runLong, .ref a0_runPiece, .int v0_runs, .ref a0_alike, .ref a0_stood])), (a0_all, .inl (D.2 1, 5228, .inl g0_all)), (a0_tape, .inl (D.2 1, 400, .inl g0_tape))]) ⟨hx, hb, hml, hown, hts⟩ (mX12_isLetter l D H.size (g0_tape (x3).toNatClampNeg) r9 hr9) (va_cwS 1 hts gX12_words_X12_isLetter rfl rfl rfl (by decide +kernel) ⟨Nat.le_of_ble_eq_true rfl, Nat.le_of_ble_eq_true rfl⟩) hK hP hD hS hA [] [0, 1, 2] [0, 1, 2] rfl (by decide) rfl (by decide) (by decide) rfl (by decide) rfl hl.1 rfl (Nat.le_of_ble_eq_true rfl) dX12_words_49 ⟨Nat.zero_le _, Nat.zero_le _⟩ (fun H locs hb_10 hP hD hS => ?_)
          refine lv_if_eq (tgt := 59) hx hb dX12_words_52 (by decide) (fun c_11 => ?_) (fun c_11 => ?_)
          · replace hf := ip c_11 hf
            exact k59 _ ih x1 x2 x3 v0_taped v0_faultKind v0_faultPlace v0_undos g0_all H locs ls hf hP hD hS hl
          · replace hf := im c_11 hf
            refine lv_iconst (v := 1) hx hb dX12_words_55 (by decide) ?_
            refine lv_goto (tgt := 60) hx hb dX12_words_56 (by decide) ?_
            exact k60 _ ih (1 : Int32) x1 x2 x3 v0_taped v0_faultKind v0_faultPlace v0_undos g0_all H locs ls hf hP hD hS hl
  unfold fX12_words at hf
  refine lv_aload_n hx hb dX12_words_0 rfl (lv_at hl 0 rfl) ?_
  refine va_get (D := D.1) (ci := 9) (v := .int v0_taped) (C := RX12) (T := TX12) (N := 20) hx hb hts hwX12 hown hK.1 hP 0 rfl rfl 3 (by decide) l180 (fun _ h9 => h9) rfl dX12_words_1 ?_
  refine lv_istore_n (lv' := [(1, .int v0_taped), (0, .ref a0)]) hx hb dX12_words_4 rfl hl (by decide) rfl (fun ls hl => ?_)
  refine lv_aload_n hx hb dX12_words_5 rfl (lv_at hl 1 rfl) ?_
  refine lv_iconst (v := 0) hx hb dX12_words_6 (by decide) ?_
  refine va_put (D := D.1) (ci := 9) (v := .int (0 : Int32)) (ty := .int) (C := RX12) (T := TX12) (N := 20) hx hb hts hwX12 tyX12 tyX12_ok nmX12 hown hK.1 hP hD hS 0 rfl rfl 3 (by decide) l180 (fun _ h9 => h9) rfl (by decide +kernel) rfl rfl (Nat.le_of_ble_eq_true rfl) dX12_words_7 (fun H locs hP hD hS => ?_)
  have hP : va_P D.1 vwCl [(a0, .inr (9, [.ref a0_all, .ref a0_tape, .ref a0_isImage, .int (0 : Int32), .int v0_faultKind, .int v0_faultPlace, .int v0_undos, .ref a0_turnWord, .ref a0_turnFrom, .int v0_turns, .ref a0_pieceSign, .ref a0_pieceFrom, .int v0_pieces, .int v0_signs, .ref a0_runFrom, .ref a0_runLong, .ref a0_runPiece, .int v0_runs, .ref a0_alike, .ref a0_stood])), (a0_all, .inl (D.2 1, 5228, .inl g0_all)), (a0_tape, .inl (D.2 1, 400, .inl g0_tape))] H := hP
  have hD : va_D A [(a0, .inr (9, [.ref a0_all, .ref a0_tape, .ref a0_isImage, .int (0 : Int32), .int v0_faultKind, .int v0_faultPlace, .int v0_undos, .ref a0_turnWord, .ref a0_turnFrom, .int v0_turns, .ref a0_pieceSign, .ref a0_pieceFrom, .int v0_pieces, .int v0_signs, .ref a0_runFrom, .ref a0_runLong, .ref a0_runPiece, .int v0_runs, .ref a0_alike, .ref a0_stood])), (a0_all, .inl (D.2 1, 5228, .inl g0_all)), (a0_tape, .inl (D.2 1, 400, .inl g0_tape))] := hD
  refine lv_aload_n hx hb dX12_words_10 rfl (lv_at hl 1 rfl) ?_
  refine lv_iconst (v := 0) hx hb dX12_words_11 (by decide) ?_
  refine va_put (D := D.1) (ci := 9) (v := .int (0 : Int32)) (ty := .int) (C := RX12) (T := TX12) (N := 20) hx hb hts hwX12 tyX12 tyX12_ok nmX12 hown hK.1 hP hD hS 0 rfl rfl 4 (by decide) l201 (fun _ h9 => h9) rfl (by decide +kernel) rfl rfl (Nat.le_of_ble_eq_true rfl) dX12_words_12 (fun H locs hP hD hS => ?_)
  have hP : va_P D.1 vwCl [(a0, .inr (9, [.ref a0_all, .ref a0_tape, .ref a0_isImage, .int (0 : Int32), .int (0 : Int32), .int v0_faultPlace, .int v0_undos, .ref a0_turnWord, .ref a0_turnFrom, .int v0_turns, .ref a0_pieceSign, .ref a0_pieceFrom, .int v0_pieces, .int v0_signs, .ref a0_runFrom, .ref a0_runLong, .ref a0_runPiece, .int v0_runs, .ref a0_alike, .ref a0_stood])), (a0_all, .inl (D.2 1, 5228, .inl g0_all)), (a0_tape, .inl (D.2 1, 400, .inl g0_tape))] H := hP
  have hD : va_D A [(a0, .inr (9, [.ref a0_all, .ref a0_tape, .ref a0_isImage, .int (0 : Int32), .int (0 : Int32), .int v0_faultPlace, .int v0_undos, .ref a0_turnWord, .ref a0_turnFrom, .int v0_turns, .ref a0_pieceSign, .ref a0_pieceFrom, .int v0_pieces, .int v0_signs, .ref a0_runFrom, .ref a0_runLong, .ref a0_runPiece, .int v0_runs, .ref a0_alike, .ref a0_stood])), (a0_all, .inl (D.2 1, 5228, .inl g0_all)), (a0_tape, .inl (D.2 1, 400, .inl g0_tape))] := hD
  refine lv_aload_n hx hb dX12_words_15 rfl (lv_at hl 1 rfl) ?_
  refine lv_iconst (v := -1) hx hb dX12_words_16 (by decide) ?_
  refine va_put (D := D.1) (ci := 9) (v := .int (-1 : Int32)) (ty := .int) (C := RX12) (T := TX12) (N := 20) hx hb hts hwX12 tyX12 tyX12_ok nmX12 hown hK.1 hP hD hS 0 rfl rfl 5 (by decide) l20 (fun _ h9 => h9) rfl (by decide +kernel) rfl rfl (Nat.le_of_ble_eq_true rfl) dX12_words_17 (fun H locs hP hD hS => ?_)
  have hP : va_P D.1 vwCl [(a0, .inr (9, [.ref a0_all, .ref a0_tape, .ref a0_isImage, .int (0 : Int32), .int (0 : Int32), .int (-1 : Int32), .int v0_undos, .ref a0_turnWord, .ref a0_turnFrom, .int v0_turns, .ref a0_pieceSign, .ref a0_pieceFrom, .int v0_pieces, .int v0_signs, .ref a0_runFrom, .ref a0_runLong, .ref a0_runPiece, .int v0_runs, .ref a0_alike, .ref a0_stood])), (a0_all, .inl (D.2 1, 5228, .inl g0_all)), (a0_tape, .inl (D.2 1, 400, .inl g0_tape))] H := hP
  have hD : va_D A [(a0, .inr (9, [.ref a0_all, .ref a0_tape, .ref a0_isImage, .int (0 : Int32), .int (0 : Int32), .int (-1 : Int32), .int v0_undos, .ref a0_turnWord, .ref a0_turnFrom, .int v0_turns, .ref a0_pieceSign, .ref a0_pieceFrom, .int v0_pieces, .int v0_signs, .ref a0_runFrom, .ref a0_runLong, .ref a0_runPiece, .int v0_runs, .ref a0_alike, .ref a0_stood])), (a0_all, .inl (D.2 1, 5228, .inl g0_all)), (a0_tape, .inl (D.2 1, 400, .inl g0_tape))] := hD
  refine lv_aload_n hx hb dX12_words_20 rfl (lv_at hl 1 rfl) ?_
  refine va_get (D := D.1) (ci := 9) (v := .ref a0_all) (C := RX12) (T := TX12) (N := 20) hx hb hts hwX12 hown hK.1 hP 0 rfl rfl 0 (by decide) l7 (fun _ h9 => h9) rfl dX12_words_21 ?_
  refine lv_sipush (v := 764) hx hb dX12_words_24 (by decide) ?_
  refine lv_iconst (v := 0) hx hb dX12_words_27 (by decide) ?_
  obtain ⟨h_1, hf⟩ := gd hf
  refine va_iast hx hb hK.1 hP hD hS 1 1 rfl rfl h_1 dX12_words_28 (fun H locs hP hD hS => ?_)
  have hP : va_P D.1 vwCl [(a0, .inr (9, [.ref a0_all, .ref a0_tape, .ref a0_isImage, .int (0 : Int32), .int (0 : Int32), .int (-1 : Int32), .int v0_undos, .ref a0_turnWord, .ref a0_turnFrom, .int v0_turns, .ref a0_pieceSign, .ref a0_pieceFrom, .int v0_pieces, .int v0_signs, .ref a0_runFrom, .ref a0_runLong, .ref a0_runPiece, .int v0_runs, .ref a0_alike, .ref a0_stood])), (a0_all, .inl (D.2 1, 5228, .inl (upd g0_all ((764 : Int32)).toNatClampNeg (0 : Int32)))), (a0_tape, .inl (D.2 1, 400, .inl g0_tape))] H := hP
  have hD : va_D A [(a0, .inr (9, [.ref a0_all, .ref a0_tape, .ref a0_isImage, .int (0 : Int32), .int (0 : Int32), .int (-1 : Int32), .int v0_undos, .ref a0_turnWord, .ref a0_turnFrom, .int v0_turns, .ref a0_pieceSign, .ref a0_pieceFrom, .int v0_pieces, .int v0_signs, .ref a0_runFrom, .ref a0_runLong, .ref a0_runPiece, .int v0_runs, .ref a0_alike, .ref a0_stood])), (a0_all, .inl (D.2 1, 5228, .inl (upd g0_all ((764 : Int32)).toNatClampNeg (0 : Int32)))), (a0_tape, .inl (D.2 1, 400, .inl g0_tape))] := hD
  refine lv_iconst (v := 0) hx hb dX12_words_29 (by decide) ?_
  refine lv_istore_n (lv' := [(2, .int (0 : Int32)), (1, .int v0_taped), (0, .ref a0)]) hx hb dX12_words_30 rfl hl (by decide) rfl (fun ls hl => ?_)
  refine lv_iconst (v := 0) hx hb dX12_words_31 (by decide) ?_
  refine lv_istore_n (lv' := [(3, .int (0 : Int32)), (2, .int (0 : Int32)), (1, .int v0_taped), (0, .ref a0)]) hx hb dX12_words_32 rfl hl (by decide) rfl (fun ls hl => ?_)
  exact k33 N v0_taped (0 : Int32) (0 : Int32) (0 : Int32) (0 : Int32) (-1 : Int32) v0_undos (upd g0_all ((764 : Int32)).toNatClampNeg (0 : Int32)) H locs ls hf hP hD hS (lv_sub hl [3, 2, 1, 0] rfl)
def fX12_pattern_123 (N : Nat) (g0_tape : Nat → Int32) : Nat → Int32 → Int32 → Int32 → Int32 → Int32 → Int32 → Int32 → (Nat → Int32) → (Nat → Int32) → (Nat → Int32) → Option (Int32 × Int32 × Int32 × Int32 × Int32 × Int32 × (Nat → Int32) × (Nat → Int32) × (Nat → Int32))
  | 0, _, _, _, _, _, _, _, _, _, _ => none
  | K + 1, x1, x2, v0_taped, v0_faultKind, v0_faultPlace, v0_pieces, v0_signs, g0_all, g0_pieceSign, g0_pieceFrom =>
    if x1 ≤ x2 then
      Option.bind (fX12_laysPieces N v0_pieces v0_signs g0_all g0_pieceSign g0_pieceFrom) fun r19 =>
      some (r19.1, v0_taped, v0_faultKind, v0_faultPlace, r19.1, r19.2.1, g0_all, r19.2.2.1, r19.2.2.2)
    else
      if x2 < 0 ∨ 400 ≤ (x2).toNatClampNeg then none else
      if ((431 : Int32) + x2) < 0 ∨ 5228 ≤ (((431 : Int32) + x2)).toNatClampNeg then none else
      (fX12_pattern_123 N g0_tape K) x1 (x2 + (1 : Int32)) v0_taped v0_faultKind v0_faultPlace v0_pieces v0_signs (upd g0_all (((431 : Int32) + x2)).toNatClampNeg (g0_tape (x2).toNatClampNeg)) g0_pieceSign g0_pieceFrom
def fX12_pattern_103 (N : Nat) (g0_tape : Nat → Int32) (x1 : Int32) (v0_taped : Int32) (v0_faultKind : Int32) (v0_faultPlace : Int32) (v0_pieces : Int32) (v0_signs : Int32) (g0_all : Nat → Int32) (g0_pieceSign : Nat → Int32) (g0_pieceFrom : Nat → Int32) : Option (Int32 × Int32 × Int32 × Int32 × Int32 × Int32 × (Nat → Int32) × (Nat → Int32) × (Nat → Int32)) :=
  if v0_faultKind ≤ (0 : Int32) then
    if (430 : Int32) < 0 ∨ 5228 ≤ ((430 : Int32)).toNatClampNeg then none else
    fX12_pattern_123 N g0_tape N x1 (0 : Int32) v0_taped v0_faultKind v0_faultPlace v0_pieces v0_signs (upd g0_all ((430 : Int32)).toNatClampNeg x1) g0_pieceSign g0_pieceFrom
  else
    some ((-1 : Int32), v0_taped, v0_faultKind, v0_faultPlace, v0_pieces, v0_signs, g0_all, g0_pieceSign, g0_pieceFrom)
def fX12_pattern_90 (N : Nat) (g0_tape : Nat → Int32) (x1 : Int32) (v0_taped : Int32) (v0_faultKind : Int32) (v0_faultPlace : Int32) (v0_pieces : Int32) (v0_signs : Int32) (g0_all : Nat → Int32) (g0_pieceSign : Nat → Int32) (g0_pieceFrom : Nat → Int32) : Option (Int32 × Int32 × Int32 × Int32 × Int32 × Int32 × (Nat → Int32) × (Nat → Int32) × (Nat → Int32)) :=
  if x1 ≤ (12 : Int32) then
    fX12_pattern_103 N g0_tape x1 v0_taped v0_faultKind v0_faultPlace v0_pieces v0_signs g0_all g0_pieceSign g0_pieceFrom
  else
    Option.bind (fX12_fails v0_faultKind v0_faultPlace (5 : Int32) (12 : Int32)) fun r15 =>
    fX12_pattern_103 N g0_tape x1 v0_taped r15.1 r15.2 v0_pieces v0_signs g0_all g0_pieceSign g0_pieceFrom
def fX12_pattern_33 (N : Nat) (g0_tape : Nat → Int32) : Nat → Int32 → Int32 → Int32 → Int32 → Int32 → Int32 → Int32 → (Nat → Int32) → (Nat → Int32) → (Nat → Int32) → Option (Int32 × Int32 × Int32 × Int32 × Int32 × Int32 × (Nat → Int32) × (Nat → Int32) × (Nat → Int32))
  | 0, _, _, _, _, _, _, _, _, _, _ => none
  | K + 1, x1, x2, v0_taped, v0_faultKind, v0_faultPlace, v0_pieces, v0_signs, g0_all, g0_pieceSign, g0_pieceFrom =>
    if x1 ≤ x2 then
      fX12_pattern_90 N g0_tape x1 v0_taped v0_faultKind v0_faultPlace v0_pieces v0_signs g0_all g0_pieceSign g0_pieceFrom
    else
      if (12 : Int32) ≤ x2 then
        fX12_pattern_90 N g0_tape x1 v0_taped v0_faultKind v0_faultPlace v0_pieces v0_signs g0_all g0_pieceSign g0_pieceFrom
      else
        if x2 < 0 ∨ 400 ≤ (x2).toNatClampNeg then none else
        Option.bind (fX12_isLetter (g0_tape (x2).toNatClampNeg)) fun r6 =>
        if r6 = (0 : Int32) then
          if x2 < 0 ∨ 400 ≤ (x2).toNatClampNeg then none else
          if (g0_tape (x2).toNatClampNeg) = (63 : Int32) then
            (fX12_pattern_33 N g0_tape K) x1 (x2 + (1 : Int32)) v0_taped v0_faultKind v0_faultPlace v0_pieces v0_signs g0_all g0_pieceSign g0_pieceFrom
          else
            if x2 < 0 ∨ 400 ≤ (x2).toNatClampNeg then none else
            if (g0_tape (x2).toNatClampNeg) = (42 : Int32) then
              (fX12_pattern_33 N g0_tape K) x1 (x2 + (1 : Int32)) v0_taped v0_faultKind v0_faultPlace v0_pieces v0_signs g0_all g0_pieceSign g0_pieceFrom
            else
              Option.bind (fX12_fails v0_faultKind v0_faultPlace (1 : Int32) x2) fun r13 =>
              (fX12_pattern_33 N g0_tape K) x1 (x2 + (1 : Int32)) v0_taped r13.1 r13.2 v0_pieces v0_signs g0_all g0_pieceSign g0_pieceFrom
        else
          (fX12_pattern_33 N g0_tape K) x1 (x2 + (1 : Int32)) v0_taped v0_faultKind v0_faultPlace v0_pieces v0_signs g0_all g0_pieceSign g0_pieceFrom
def fX12_pattern (N : Nat) (v0_taped : Int32) (v0_faultKind : Int32) (v0_faultPlace : Int32) (v0_pieces : Int32) (v0_signs : Int32) (g0_all : Nat → Int32) (g0_tape : Nat → Int32) (g0_pieceSign : Nat → Int32) (g0_pieceFrom : Nat → Int32) : Option (Int32 × Int32 × Int32 × Int32 × Int32 × Int32 × (Nat → Int32) × (Nat → Int32) × (Nat → Int32)) :=
  if v0_taped = (0 : Int32) then
    Option.bind (fX12_fails (0 : Int32) (-1 : Int32) (6 : Int32) (0 : Int32)) fun r2 =>
    fX12_pattern_33 N g0_tape N v0_taped (0 : Int32) (0 : Int32) r2.1 r2.2 v0_pieces v0_signs g0_all g0_pieceSign g0_pieceFrom
  else
    fX12_pattern_33 N g0_tape N v0_taped (0 : Int32) (0 : Int32) (0 : Int32) (-1 : Int32) v0_pieces v0_signs g0_all g0_pieceSign g0_pieceFrom
set_option maxHeartbeats 4000000 in
set_option maxRecDepth 100000 in
theorem mX12_pattern (l : Launch) (D : zG) (a0 : Nat) (a0_all : Nat) (a0_tape : Nat) (a0_isImage : Nat) (a0_turnWord : Nat) (a0_turnFrom : Nat) (a0_pieceSign : Nat) (a0_pieceFrom : Nat) (a0_runFrom : Nat) (a0_runLong : Nat) (a0_runPiece : Nat) (a0_alike : Nat) (a0_stood : Nat) (sz : Nat)  (v0_taped : Int32) (v0_faultKind : Int32) (v0_faultPlace : Int32) (v0_undos : Int32) (v0_turns : Int32) (v0_pieces : Int32) (v0_signs : Int32) (v0_runs : Int32) (g0_all : Nat → Int32) (g0_tape : Nat → Int32) (g0_pieceSign : Nat → Int32) (g0_pieceFrom : Nat → Int32)  (N : Nat) (res : Int32 × Int32 × Int32 × Int32 × Int32 × Int32 × (Nat → Int32) × (Nat → Int32) × (Nat → Int32)) (hf : fX12_pattern N v0_taped v0_faultKind v0_faultPlace v0_pieces v0_signs g0_all g0_tape g0_pieceSign g0_pieceFrom = some res) : Met l yX12_pattern wsX12_pattern ({ frames := 2, cells := 0, slots := 0, locals := 47 } : Room) (va_Pc [.ref a0] (zW D sz [(a0, .inr (9, [.ref a0_all, .ref a0_tape, .ref a0_isImage, .int v0_taped, .int v0_faultKind, .int v0_faultPlace, .int v0_undos, .ref a0_turnWord, .ref a0_turnFrom, .int v0_turns, .ref a0_pieceSign, .ref a0_pieceFrom, .int v0_pieces, .int v0_signs, .ref a0_runFrom, .ref a0_runLong, .ref a0_runPiece, .int v0_runs, .ref a0_alike, .ref a0_stood])), (a0_all, .inl (D.2 1, 5228, .inl g0_all)), (a0_tape, .inl (D.2 1, 400, .inl g0_tape)), (a0_pieceSign, .inl (D.2 1, 40, .inl g0_pieceSign)), (a0_pieceFrom, .inl (D.2 1, 14, .inl g0_pieceFrom))])) (va_Qi (fun r (_ : Unit) => r = res.1) (fun _ => zB D (va_A [(a0, .inr (9, [.ref a0_all, .ref a0_tape, .ref a0_isImage, .int v0_taped, .int v0_faultKind, .int v0_faultPlace, .int v0_undos, .ref a0_turnWord, .ref a0_turnFrom, .int v0_turns, .ref a0_pieceSign, .ref a0_pieceFrom, .int v0_pieces, .int v0_signs, .ref a0_runFrom, .ref a0_runLong, .ref a0_runPiece, .int v0_runs, .ref a0_alike, .ref a0_stood])), (a0_all, .inl (D.2 1, 5228, .inl g0_all)), (a0_tape, .inl (D.2 1, 400, .inl g0_tape)), (a0_pieceSign, .inl (D.2 1, 40, .inl g0_pieceSign)), (a0_pieceFrom, .inl (D.2 1, 14, .inl g0_pieceFrom))] sz) [(a0, .inr (9, [.ref a0_all, .ref a0_tape, .ref a0_isImage, .int res.2.1, .int res.2.2.1, .int res.2.2.2.1, .int v0_undos, .ref a0_turnWord, .ref a0_turnFrom, .int v0_turns, .ref a0_pieceSign, .ref a0_pieceFrom, .int res.2.2.2.2.1, .int res.2.2.2.2.2.1, .ref a0_runFrom, .ref a0_runLong, .ref a0_runPiece, .int v0_runs, .ref a0_alike, .ref a0_stood])), (a0_all, .inl (D.2 1, 5228, .inl res.2.2.2.2.2.2.1)), (a0_tape, .inl (D.2 1, 400, .inl g0_tape)), (a0_pieceSign, .inl (D.2 1, 40, .inl res.2.2.2.2.2.2.2.1)), (a0_pieceFrom, .inl (D.2 1, 14, .inl res.2.2.2.2.2.2.2.2))]) (va_A [(a0, .inr (9, [.ref a0_all, .ref a0_tape, .ref a0_isImage, .int v0_taped, .int v0_faultKind, .int v0_faultPlace, .int v0_undos, .ref a0_turnWord, .ref a0_turnFrom, .int v0_turns, .ref a0_pieceSign, .ref a0_pieceFrom, .int v0_pieces, .int v0_signs, .ref a0_runFrom, .ref a0_runLong, .ref a0_runPiece, .int v0_runs, .ref a0_alike, .ref a0_stood])), (a0_all, .inl (D.2 1, 5228, .inl g0_all)), (a0_tape, .inl (D.2 1, 400, .inl g0_tape)), (a0_pieceSign, .inl (D.2 1, 40, .inl g0_pieceSign)), (a0_pieceFrom, .inl (D.2 1, 14, .inl g0_pieceFrom))] sz)) 0 0 (va_A [(a0, .inr (9, [.ref a0_all, .ref a0_tape, .ref a0_isImage, .int v0_taped, .int v0_faultKind, .int v0_faultPlace, .int v0_undos, .ref a0_turnWord, .ref a0_turnFrom, .int v0_turns, .ref a0_pieceSign, .ref a0_pieceFrom, .int v0_pieces, .int v0_signs, .ref a0_runFrom, .ref a0_runLong, .ref a0_runPiece, .int v0_runs, .ref a0_alike, .ref a0_stood])), (a0_all, .inl (D.2 1, 5228, .inl g0_all)), (a0_tape, .inl (D.2 1, 400, .inl g0_tape)), (a0_pieceSign, .inl (D.2 1, 40, .inl g0_pieceSign)), (a0_pieceFrom, .inl (D.2 1, 14, .inl g0_pieceFrom))] sz) := by
  refine Met.ofW (cc := cX12_pattern) (maxL := 3) (ret := (some .int)) (by decide) rfl ?_
  intro p e s m args below meth c s₁ B hml hv
  obtain ⟨rfl, hsz, hP, hK, hD0⟩ := hv
  have hx := B.exec
  have hb := B.bytes
  have hr := B.returns
  have hts := atoms_spec (ws := wsX12_pattern) B.pre
  have hown : s.vm.findClass RX12 = some m.cls := findClass_of_methodNamed B.named
  have hlocks := B.notSynchronized
  subst hsz
  have hD := hD0.self (sz := s.heap.size)
  generalize hAe : va_A [(a0, .inr (9, [.ref a0_all, .ref a0_tape, .ref a0_isImage, .int v0_taped, .int v0_faultKind, .int v0_faultPlace, .int v0_undos, .ref a0_turnWord, .ref a0_turnFrom, .int v0_turns, .ref a0_pieceSign, .ref a0_pieceFrom, .int v0_pieces, .int v0_signs, .ref a0_runFrom, .ref a0_runLong, .ref a0_runPiece, .int v0_runs, .ref a0_alike, .ref a0_stood])), (a0_all, .inl (D.2 1, 5228, .inl g0_all)), (a0_tape, .inl (D.2 1, 400, .inl g0_tape)), (a0_pieceSign, .inl (D.2 1, 40, .inl g0_pieceSign)), (a0_pieceFrom, .inl (D.2 1, 14, .inl g0_pieceFrom))] s.heap.size = A at hD ⊢
  have hA : ∀ q : Nat, s.heap.size ≤ q → A q := fun q h => by rw [← hAe]; exact Or.inr h
  have l180 := zat hts 1 (w := .fieldLink RX12 180 "TurnedWordsModel" "taped" "I") rfl
  have l201 := zat hts 2 (w := .fieldLink RX12 201 "TurnedWordsModel" "faultKind" "I") rfl
  have l20 := zat hts 3 (w := .fieldLink RX12 20 "TurnedWordsModel" "faultPlace" "I") rfl
  have l13 := zat hts 4 (w := .fieldLink RX12 13 "TurnedWordsModel" "tape" "[I") rfl
  have l7 := zat hts 5 (w := .fieldLink RX12 7 "TurnedWordsModel" "all" "[I") rfl
  have l107 := zat hts 6 (w := .fieldLink RX12 107 "TurnedWordsModel" "pieces" "I") rfl
  have hwX12 : ∀ w ∈ u_ws RX12 TX12 20, w ∈ wsX12_pattern := fun w h => List.mem_cons_of_mem _ (List.mem_append_right _ h)
  have hl := lv_entry ([.ref a0]) (n := 3) (Nat.le_of_ble_eq_true rfl)
  rw [lg_entry_eq]
  generalize (lg_sl ([.ref a0]) ++ List.replicate (3 - (lg_sl ([.ref a0])).length) Slot.unset).toArray = ls at hl ⊢
  have hl : lv_has ls 3 [(0, .ref a0)] := hl
  refine zStart (A := A) hP (fun Q0 H locs hQ hP hS => ?_)
  have k123 : ∀ K : Nat, ∀ (x1 : Int32) (x2 : Int32) (v0_taped : Int32) (v0_faultKind : Int32) (v0_faultPlace : Int32) (v0_pieces : Int32) (v0_signs : Int32) (g0_all : Nat → Int32) (g0_pieceSign : Nat → Int32) (g0_pieceFrom : Nat → Int32) (H : Heap) (locs : List Loc) (ls : Array Slot), fX12_pattern_123 N g0_tape K x1 x2 v0_taped v0_faultKind v0_faultPlace v0_pieces v0_signs g0_all g0_pieceSign g0_pieceFrom = some res → va_P D.1 vwCl [(a0, .inr (9, [.ref a0_all, .ref a0_tape, .ref a0_isImage, .int v0_taped, .int v0_faultKind, .int v0_faultPlace, .int v0_undos, .ref a0_turnWord, .ref a0_turnFrom, .int v0_turns, .ref a0_pieceSign, .ref a0_pieceFrom, .int v0_pieces, .int v0_signs, .ref a0_runFrom, .ref a0_runLong, .ref a0_runPiece, .int v0_runs, .ref a0_alike, .ref a0_stood])), (a0_all, .inl (D.2 1, 5228, .inl g0_all)), (a0_tape, .inl (D.2 1, 400, .inl g0_tape)), (a0_pieceSign, .inl (D.2 1, 40, .inl g0_pieceSign)), (a0_pieceFrom, .inl (D.2 1, 14, .inl g0_pieceFrom))] H → va_D A [(a0, .inr (9, [.ref a0_all, .ref a0_tape, .ref a0_isImage, .int v0_taped, .int v0_faultKind, .int v0_faultPlace, .int v0_undos, .ref a0_turnWord, .ref a0_turnFrom, .int v0_turns, .ref a0_pieceSign, .ref a0_pieceFrom, .int v0_pieces, .int v0_signs, .ref a0_runFrom, .ref a0_runLong, .ref a0_runPiece, .int v0_runs, .ref a0_alike, .ref a0_stood])), (a0_all, .inl (D.2 1, 5228, .inl g0_all)), (a0_tape, .inl (D.2 1, 400, .inl g0_tape)), (a0_pieceSign, .inl (D.2 1, 40, .inl g0_pieceSign)), (a0_pieceFrom, .inl (D.2 1, 14, .inl g0_pieceFrom))] → va_S A s.heap H locs → lv_has ls 3 [(0, .ref a0), (1, .int x1), (2, .int x2)] → W p l e (headSpec wsX12_pattern ({ frames := 2, cells := 0, slots := 0, locals := 47 } : Room)).room s m ([.ref a0] : List Value).toArray below meth c H locs 0 0 Q0 (F0 m 123 ls []) := by
    intro K
    induction K with
    | zero =>
      intro x1 x2 v0_taped v0_faultKind v0_faultPlace v0_pieces v0_signs g0_all g0_pieceSign g0_pieceFrom H locs ls hf
      rw [fX12_pattern_123] at hf
      cases hf
    | succ K ih =>
      intro x1 x2 v0_taped v0_faultKind v0_faultPlace v0_pieces v0_signs g0_all g0_pieceSign g0_pieceFrom H locs ls hf hP hD hS hl
      rw [fX12_pattern_123] at hf
      refine lv_iload_n hx hb dX12_pattern_123 rfl (lv_at hl 2 rfl) ?_
      refine lv_iload_n hx hb dX12_pattern_124 rfl (lv_at hl 1 rfl) ?_
      refine lv_icmp_ge (tgt := 150) hx hb dX12_pattern_125 (by decide) (fun c_18 => ?_) (fun c_18 => ?_)
      · replace hf := ip c_18 hf
        refine lv_aload_n hx hb dX12_pattern_150 rfl (lv_at hl 0 rfl) ?_
        obtain ⟨r19, hr19, hf⟩ := bd hf
        refine zVv (As := []) (rest := []) (ci := 9) (q0 := 0) (wn := [(a0, .inr (9, [.ref a0_all, .ref a0_tape, .ref a0_isImage, .int v0_taped, .int v0_faultKind, .int v0_faultPlace, .int v0_undos, .ref a0_turnWord, .ref a0_turnFrom, .int v0_turns, .ref a0_pieceSign, .ref a0_pieceFrom, .int r19.1, .int r19.2.1, .ref a0_runFrom, .ref a0_runLong, .ref a0_runPiece, .int v0_runs, .ref a0_alike, .ref a0_stood])), (a0_all, .inl (D.2 1, 5228, .inl g0_all)), (a0_tape, .inl (D.2 1, 400, .inl g0_tape)), (a0_pieceSign, .inl (D.2 1, 40, .inl r19.2.2.1)), (a0_pieceFrom, .inl (D.2 1, 14, .inl r19.2.2.2))]) ⟨hx, hb, hml, hown, hts⟩ (mX12_laysPieces l D a0 a0_all a0_tape a0_isImage a0_turnWord a0_turnFrom a0_pieceSign a0_pieceFrom a0_runFrom a0_runLong a0_runPiece a0_alike a0_stood H.size v0_taped v0_faultKind v0_faultPlace v0_undos v0_turns v0_pieces v0_signs v0_runs g0_all g0_pieceSign g0_pieceFrom N r19 hr19) (cwV 0 hts gX12_pattern_X12_laysPieces rfl rfl rfl (by decide +kernel) ⟨Nat.le_of_ble_eq_true rfl, Nat.le_of_ble_eq_true rfl⟩) hK hP hD hS hA [0, 1, 3, 4] [2] [1, 2, 0, 3, 4] rfl (by decide) rfl (by decide) (by decide) rfl (by decide) rfl rfl rfl hl.1 rfl (Nat.le_of_ble_eq_true rfl) dX12_pattern_151 ⟨Nat.zero_le _, Nat.zero_le _⟩ (fun H locs hP hD hS => ?_)
        refine lv_aload_n hx hb dX12_pattern_154 rfl (lv_at hl 0 rfl) ?_
        refine va_get (D := D.1) (ci := 9) (v := .int r19.1) (C := RX12) (T := TX12) (N := 20) hx hb hts hwX12 hown hK.1 hP 0 rfl rfl 12 (by decide) l107 (fun _ h9 => h9) rfl dX12_pattern_155 ?_
        have he := Option.some.inj hf
        rw [hQ]
        exact W.iret (v := r19.1) hx hb hr (fun t ht hW => by rw [← he]; exact ⟨⟨r19.1, (), rfl, rfl, by rw [ht]; exact hP, hD⟩, hS.F ht⟩) hS.2.2 dX12_pattern_158
      · replace hf := im c_18 hf
        refine lv_aload_n hx hb dX12_pattern_128 rfl (lv_at hl 0 rfl) ?_
        refine va_get (D := D.1) (ci := 9) (v := .ref a0_all) (C := RX12) (T := TX12) (N := 20) hx hb hts hwX12 hown hK.1 hP 0 rfl rfl 0 (by decide) l7 (fun _ h9 => h9) rfl dX12_pattern_129 ?_
        refine lv_sipush (v := 431) hx hb dX12_pattern_132 (by decide) ?_
        refine lv_iload_n hx hb dX12_pattern_135 rfl (lv_at hl 2 rfl) ?_
        refine lv_iadd hx hb dX12_pattern_136 ?_
        refine lv_aload_n hx hb dX12_pattern_137 rfl (lv_at hl 0 rfl) ?_
        refine va_get (D := D.1) (ci := 9) (v := .ref a0_tape) (C := RX12) (T := TX12) (N := 20) hx hb hts hwX12 hown hK.1 hP 0 rfl rfl 1 (by decide) l13 (fun _ h9 => h9) rfl dX12_pattern_138 ?_
        refine lv_iload_n hx hb dX12_pattern_141 rfl (lv_at hl 2 rfl) ?_
        obtain ⟨h_20, hf⟩ := gd hf
        refine va_iald hx hb hK.1 hP 2 1 rfl rfl h_20 dX12_pattern_142 ?_
        obtain ⟨h_21, hf⟩ := gd hf
        refine va_iast hx hb hK.1 hP hD hS 1 1 rfl rfl h_21 dX12_pattern_143 (fun H locs hP hD hS => ?_)
        have hP : va_P D.1 vwCl [(a0, .inr (9, [.ref a0_all, .ref a0_tape, .ref a0_isImage, .int v0_taped, .int v0_faultKind, .int v0_faultPlace, .int v0_undos, .ref a0_turnWord, .ref a0_turnFrom, .int v0_turns, .ref a0_pieceSign, .ref a0_pieceFrom, .int v0_pieces, .int v0_signs, .ref a0_runFrom, .ref a0_runLong, .ref a0_runPiece, .int v0_runs, .ref a0_alike, .ref a0_stood])), (a0_all, .inl (D.2 1, 5228, .inl (upd g0_all (((431 : Int32) + x2)).toNatClampNeg (g0_tape (x2).toNatClampNeg)))), (a0_tape, .inl (D.2 1, 400, .inl g0_tape)), (a0_pieceSign, .inl (D.2 1, 40, .inl g0_pieceSign)), (a0_pieceFrom, .inl (D.2 1, 14, .inl g0_pieceFrom))] H := hP
        have hD : va_D A [(a0, .inr (9, [.ref a0_all, .ref a0_tape, .ref a0_isImage, .int v0_taped, .int v0_faultKind, .int v0_faultPlace, .int v0_undos, .ref a0_turnWord, .ref a0_turnFrom, .int v0_turns, .ref a0_pieceSign, .ref a0_pieceFrom, .int v0_pieces, .int v0_signs, .ref a0_runFrom, .ref a0_runLong, .ref a0_runPiece, .int v0_runs, .ref a0_alike, .ref a0_stood])), (a0_all, .inl (D.2 1, 5228, .inl (upd g0_all (((431 : Int32) + x2)).toNatClampNeg (g0_tape (x2).toNatClampNeg)))), (a0_tape, .inl (D.2 1, 400, .inl g0_tape)), (a0_pieceSign, .inl (D.2 1, 40, .inl g0_pieceSign)), (a0_pieceFrom, .inl (D.2 1, 14, .inl g0_pieceFrom))] := hD
        refine lv_iinc (v := (x2 + (1 : Int32))) (lv' := [(2, .int (x2 + (1 : Int32))), (0, .ref a0), (1, .int x1)]) hx hb dX12_pattern_144 hl (k := 2) rfl rfl (by decide) rfl (fun ls hl => ?_)
        refine lv_goto (tgt := 123) hx hb dX12_pattern_147 (by decide) ?_
        exact ih x1 (x2 + (1 : Int32)) v0_taped v0_faultKind v0_faultPlace v0_pieces v0_signs (upd g0_all (((431 : Int32) + x2)).toNatClampNeg (g0_tape (x2).toNatClampNeg)) g0_pieceSign g0_pieceFrom H locs ls hf hP hD hS (lv_sub hl [1, 2, 0] rfl)
  have k103 : ∀ (x1 : Int32) (v0_taped : Int32) (v0_faultKind : Int32) (v0_faultPlace : Int32) (v0_pieces : Int32) (v0_signs : Int32) (g0_all : Nat → Int32) (g0_pieceSign : Nat → Int32) (g0_pieceFrom : Nat → Int32) (H : Heap) (locs : List Loc) (ls : Array Slot), fX12_pattern_103 N g0_tape x1 v0_taped v0_faultKind v0_faultPlace v0_pieces v0_signs g0_all g0_pieceSign g0_pieceFrom = some res → va_P D.1 vwCl [(a0, .inr (9, [.ref a0_all, .ref a0_tape, .ref a0_isImage, .int v0_taped, .int v0_faultKind, .int v0_faultPlace, .int v0_undos, .ref a0_turnWord, .ref a0_turnFrom, .int v0_turns, .ref a0_pieceSign, .ref a0_pieceFrom, .int v0_pieces, .int v0_signs, .ref a0_runFrom, .ref a0_runLong, .ref a0_runPiece, .int v0_runs, .ref a0_alike, .ref a0_stood])), (a0_all, .inl (D.2 1, 5228, .inl g0_all)), (a0_tape, .inl (D.2 1, 400, .inl g0_tape)), (a0_pieceSign, .inl (D.2 1, 40, .inl g0_pieceSign)), (a0_pieceFrom, .inl (D.2 1, 14, .inl g0_pieceFrom))] H → va_D A [(a0, .inr (9, [.ref a0_all, .ref a0_tape, .ref a0_isImage, .int v0_taped, .int v0_faultKind, .int v0_faultPlace, .int v0_undos, .ref a0_turnWord, .ref a0_turnFrom, .int v0_turns, .ref a0_pieceSign, .ref a0_pieceFrom, .int v0_pieces, .int v0_signs, .ref a0_runFrom, .ref a0_runLong, .ref a0_runPiece, .int v0_runs, .ref a0_alike, .ref a0_stood])), (a0_all, .inl (D.2 1, 5228, .inl g0_all)), (a0_tape, .inl (D.2 1, 400, .inl g0_tape)), (a0_pieceSign, .inl (D.2 1, 40, .inl g0_pieceSign)), (a0_pieceFrom, .inl (D.2 1, 14, .inl g0_pieceFrom))] → va_S A s.heap H locs → lv_has ls 3 [(0, .ref a0), (1, .int x1)] → W p l e (headSpec wsX12_pattern ({ frames := 2, cells := 0, slots := 0, locals := 47 } : Room)).room s m ([.ref a0] : List Value).toArray below meth c H locs 0 0 Q0 (F0 m 103 ls []) := by
    intro x1 v0_taped v0_faultKind v0_faultPlace v0_pieces v0_signs g0_all g0_pieceSign g0_pieceFrom H locs ls hf hP hD hS hl
    unfold fX12_pattern_103 at hf
    refine lv_aload_n hx hb dX12_pattern_103 rfl (lv_at hl 0 rfl) ?_
    refine va_get (D := D.1) (ci := 9) (v := .int v0_faultKind) (C := RX12) (T := TX12) (N := 20) hx hb hts hwX12 hown hK.1 hP 0 rfl rfl 4 (by decide) l201 (fun _ h9 => h9) rfl dX12_pattern_104 ?_
    refine lv_if_le (tgt := 112) hx hb dX12_pattern_107 (by decide) (fun c_16 => ?_) (fun c_16 => ?_)
    · replace hf := ip c_16 hf
      refine lv_aload_n hx hb dX12_pattern_112 rfl (lv_at hl 0 rfl) ?_
      refine va_get (D := D.1) (ci := 9) (v := .ref a0_all) (C := RX12) (T := TX12) (N := 20) hx hb hts hwX12 hown hK.1 hP 0 rfl rfl 0 (by decide) l7 (fun _ h9 => h9) rfl dX12_pattern_113 ?_
      refine lv_sipush (v := 430) hx hb dX12_pattern_116 (by decide) ?_
      refine lv_iload_n hx hb dX12_pattern_119 rfl (lv_at hl 1 rfl) ?_
      obtain ⟨h_17, hf⟩ := gd hf
      refine va_iast hx hb hK.1 hP hD hS 1 1 rfl rfl h_17 dX12_pattern_120 (fun H locs hP hD hS => ?_)
      have hP : va_P D.1 vwCl [(a0, .inr (9, [.ref a0_all, .ref a0_tape, .ref a0_isImage, .int v0_taped, .int v0_faultKind, .int v0_faultPlace, .int v0_undos, .ref a0_turnWord, .ref a0_turnFrom, .int v0_turns, .ref a0_pieceSign, .ref a0_pieceFrom, .int v0_pieces, .int v0_signs, .ref a0_runFrom, .ref a0_runLong, .ref a0_runPiece, .int v0_runs, .ref a0_alike, .ref a0_stood])), (a0_all, .inl (D.2 1, 5228, .inl (upd g0_all ((430 : Int32)).toNatClampNeg x1))), (a0_tape, .inl (D.2 1, 400, .inl g0_tape)), (a0_pieceSign, .inl (D.2 1, 40, .inl g0_pieceSign)), (a0_pieceFrom, .inl (D.2 1, 14, .inl g0_pieceFrom))] H := hP
      have hD : va_D A [(a0, .inr (9, [.ref a0_all, .ref a0_tape, .ref a0_isImage, .int v0_taped, .int v0_faultKind, .int v0_faultPlace, .int v0_undos, .ref a0_turnWord, .ref a0_turnFrom, .int v0_turns, .ref a0_pieceSign, .ref a0_pieceFrom, .int v0_pieces, .int v0_signs, .ref a0_runFrom, .ref a0_runLong, .ref a0_runPiece, .int v0_runs, .ref a0_alike, .ref a0_stood])), (a0_all, .inl (D.2 1, 5228, .inl (upd g0_all ((430 : Int32)).toNatClampNeg x1))), (a0_tape, .inl (D.2 1, 400, .inl g0_tape)), (a0_pieceSign, .inl (D.2 1, 40, .inl g0_pieceSign)), (a0_pieceFrom, .inl (D.2 1, 14, .inl g0_pieceFrom))] := hD
      refine lv_iconst (v := 0) hx hb dX12_pattern_121 (by decide) ?_
      refine lv_istore_n (lv' := [(2, .int (0 : Int32)), (0, .ref a0), (1, .int x1)]) hx hb dX12_pattern_122 rfl hl (by decide) rfl (fun ls hl => ?_)
      exact k123 N x1 (0 : Int32) v0_taped v0_faultKind v0_faultPlace v0_pieces v0_signs (upd g0_all ((430 : Int32)).toNatClampNeg x1) g0_pieceSign g0_pieceFrom H locs ls hf hP hD hS (lv_sub hl [1, 2, 0] rfl)
    · replace hf := im c_16 hf
      refine lv_iconst (v := -1) hx hb dX12_pattern_110 (by decide) ?_
      have he := Option.some.inj hf
      rw [hQ]
      exact W.iret (v := (-1 : Int32)) hx hb hr (fun t ht hW => by rw [← he]; exact ⟨⟨(-1 : Int32), (), rfl, rfl, by rw [ht]; exact hP, hD⟩, hS.F ht⟩) hS.2.2 dX12_pattern_111
  have k90 : ∀ (x1 : Int32) (v0_taped : Int32) (v0_faultKind : Int32) (v0_faultPlace : Int32) (v0_pieces : Int32) (v0_signs : Int32) (g0_all : Nat → Int32) (g0_pieceSign : Nat → Int32) (g0_pieceFrom : Nat → Int32) (H : Heap) (locs : List Loc) (ls : Array Slot), fX12_pattern_90 N g0_tape x1 v0_taped v0_faultKind v0_faultPlace v0_pieces v0_signs g0_all g0_pieceSign g0_pieceFrom = some res → va_P D.1 vwCl [(a0, .inr (9, [.ref a0_all, .ref a0_tape, .ref a0_isImage, .int v0_taped, .int v0_faultKind, .int v0_faultPlace, .int v0_undos, .ref a0_turnWord, .ref a0_turnFrom, .int v0_turns, .ref a0_pieceSign, .ref a0_pieceFrom, .int v0_pieces, .int v0_signs, .ref a0_runFrom, .ref a0_runLong, .ref a0_runPiece, .int v0_runs, .ref a0_alike, .ref a0_stood])), (a0_all, .inl (D.2 1, 5228, .inl g0_all)), (a0_tape, .inl (D.2 1, 400, .inl g0_tape)), (a0_pieceSign, .inl (D.2 1, 40, .inl g0_pieceSign)), (a0_pieceFrom, .inl (D.2 1, 14, .inl g0_pieceFrom))] H → va_D A [(a0, .inr (9, [.ref a0_all, .ref a0_tape, .ref a0_isImage, .int v0_taped, .int v0_faultKind, .int v0_faultPlace, .int v0_undos, .ref a0_turnWord, .ref a0_turnFrom, .int v0_turns, .ref a0_pieceSign, .ref a0_pieceFrom, .int v0_pieces, .int v0_signs, .ref a0_runFrom, .ref a0_runLong, .ref a0_runPiece, .int v0_runs, .ref a0_alike, .ref a0_stood])), (a0_all, .inl (D.2 1, 5228, .inl g0_all)), (a0_tape, .inl (D.2 1, 400, .inl g0_tape)), (a0_pieceSign, .inl (D.2 1, 40, .inl g0_pieceSign)), (a0_pieceFrom, .inl (D.2 1, 14, .inl g0_pieceFrom))] → va_S A s.heap H locs → lv_has ls 3 [(0, .ref a0), (1, .int x1)] → W p l e (headSpec wsX12_pattern ({ frames := 2, cells := 0, slots := 0, locals := 47 } : Room)).room s m ([.ref a0] : List Value).toArray below meth c H locs 0 0 Q0 (F0 m 90 ls []) := by
    intro x1 v0_taped v0_faultKind v0_faultPlace v0_pieces v0_signs g0_all g0_pieceSign g0_pieceFrom H locs ls hf hP hD hS hl
    unfold fX12_pattern_90 at hf
    refine lv_iload_n hx hb dX12_pattern_90 rfl (lv_at hl 1 rfl) ?_
    refine lv_bipush (v := 12) hx hb dX12_pattern_91 (by decide) ?_
    refine lv_icmp_le (tgt := 103) hx hb dX12_pattern_93 (by decide) (fun c_14 => ?_) (fun c_14 => ?_)
    · replace hf := ip c_14 hf
      exact k103 x1 v0_taped v0_faultKind v0_faultPlace v0_pieces v0_signs g0_all g0_pieceSign g0_pieceFrom H locs ls hf hP hD hS hl
    · replace hf := im c_14 hf
      refine lv_aload_n hx hb dX12_pattern_96 rfl (lv_at hl 0 rfl) ?_
      refine lv_iconst (v := 5) hx hb dX12_pattern_97 (by decide) ?_
      refine lv_bipush (v := 12) hx hb dX12_pattern_98 (by decide) ?_
      obtain ⟨r15, hr15, hf⟩ := bd hf
      refine zVv (As := [.int (5 : Int32), .int (12 : Int32)]) (rest := []) (ci := 9) (q0 := 0) (wn := [(a0, .inr (9, [.ref a0_all, .ref a0_tape, .ref a0_isImage, .int v0_taped, .int r15.1, .int r15.2, .int v0_undos, .ref a0_turnWord, .ref a0_turnFrom, .int v0_turns, .ref a0_pieceSign, .ref a0_pieceFrom, .int v0_pieces, .int v0_signs, .ref a0_runFrom, .ref a0_runLong, .ref a0_runPiece, .int v0_runs, .ref a0_alike, .ref a0_stood])), (a0_all, .inl (D.2 1, 5228, .inl g0_all)), (a0_tape, .inl (D.2 1, 400, .inl g0_tape)), (a0_pieceSign, .inl (D.2 1, 40, .inl g0_pieceSign)), (a0_pieceFrom, .inl (D.2 1, 14, .inl g0_pieceFrom))]) ⟨hx, hb, hml, hown, hts⟩ (mX12_fails l D a0 a0_all a0_tape a0_isImage a0_turnWord a0_turnFrom a0_pieceSign a0_pieceFrom a0_runFrom a0_runLong a0_runPiece a0_alike a0_stood H.size v0_taped v0_faultKind v0_faultPlace v0_undos v0_turns v0_pieces v0_signs v0_runs (5 : Int32) (12 : Int32) r15 hr15) (cwV 2 hts gX12_pattern_X12_fails rfl rfl rfl (by decide +kernel) ⟨Nat.le_of_ble_eq_true rfl, Nat.le_of_ble_eq_true rfl⟩) hK hP hD hS hA [0] [1, 2, 3, 4] [4, 0, 1, 2, 3] rfl (by decide) rfl (by decide) (by decide) rfl (by decide) rfl rfl rfl hl.1 rfl (Nat.le_of_ble_eq_true rfl) dX12_pattern_100 ⟨Nat.zero_le _, Nat.zero_le _⟩ (fun H locs hP hD hS => ?_)
      exact k103 x1 v0_taped r15.1 r15.2 v0_pieces v0_signs g0_all g0_pieceSign g0_pieceFrom H locs ls hf hP hD hS hl
  have k33 : ∀ K : Nat, ∀ (x1 : Int32) (x2 : Int32) (v0_taped : Int32) (v0_faultKind : Int32) (v0_faultPlace : Int32) (v0_pieces : Int32) (v0_signs : Int32) (g0_all : Nat → Int32) (g0_pieceSign : Nat → Int32) (g0_pieceFrom : Nat → Int32) (H : Heap) (locs : List Loc) (ls : Array Slot), fX12_pattern_33 N g0_tape K x1 x2 v0_taped v0_faultKind v0_faultPlace v0_pieces v0_signs g0_all g0_pieceSign g0_pieceFrom = some res → va_P D.1 vwCl [(a0, .inr (9, [.ref a0_all, .ref a0_tape, .ref a0_isImage, .int v0_taped, .int v0_faultKind, .int v0_faultPlace, .int v0_undos, .ref a0_turnWord, .ref a0_turnFrom, .int v0_turns, .ref a0_pieceSign, .ref a0_pieceFrom, .int v0_pieces, .int v0_signs, .ref a0_runFrom, .ref a0_runLong, .ref a0_runPiece, .int v0_runs, .ref a0_alike, .ref a0_stood])), (a0_all, .inl (D.2 1, 5228, .inl g0_all)), (a0_tape, .inl (D.2 1, 400, .inl g0_tape)), (a0_pieceSign, .inl (D.2 1, 40, .inl g0_pieceSign)), (a0_pieceFrom, .inl (D.2 1, 14, .inl g0_pieceFrom))] H → va_D A [(a0, .inr (9, [.ref a0_all, .ref a0_tape, .ref a0_isImage, .int v0_taped, .int v0_faultKind, .int v0_faultPlace, .int v0_undos, .ref a0_turnWord, .ref a0_turnFrom, .int v0_turns, .ref a0_pieceSign, .ref a0_pieceFrom, .int v0_pieces, .int v0_signs, .ref a0_runFrom, .ref a0_runLong, .ref a0_runPiece, .int v0_runs, .ref a0_alike, .ref a0_stood])), (a0_all, .inl (D.2 1, 5228, .inl g0_all)), (a0_tape, .inl (D.2 1, 400, .inl g0_tape)), (a0_pieceSign, .inl (D.2 1, 40, .inl g0_pieceSign)), (a0_pieceFrom, .inl (D.2 1, 14, .inl g0_pieceFrom))] → va_S A s.heap H locs → lv_has ls 3 [(0, .ref a0), (1, .int x1), (2, .int x2)] → W p l e (headSpec wsX12_pattern ({ frames := 2, cells := 0, slots := 0, locals := 47 } : Room)).room s m ([.ref a0] : List Value).toArray below meth c H locs 0 0 Q0 (F0 m 33 ls []) := by
    intro K
    induction K with
    | zero =>
      intro x1 x2 v0_taped v0_faultKind v0_faultPlace v0_pieces v0_signs g0_all g0_pieceSign g0_pieceFrom H locs ls hf
      rw [fX12_pattern_33] at hf
      cases hf
    | succ K ih =>
      intro x1 x2 v0_taped v0_faultKind v0_faultPlace v0_pieces v0_signs g0_all g0_pieceSign g0_pieceFrom H locs ls hf hP hD hS hl
      rw [fX12_pattern_33] at hf
      refine lv_iload_n hx hb dX12_pattern_33 rfl (lv_at hl 2 rfl) ?_
      refine lv_iload_n hx hb dX12_pattern_34 rfl (lv_at hl 1 rfl) ?_
      refine lv_icmp_ge (tgt := 90) hx hb dX12_pattern_35 (by decide) (fun c_3 => ?_) (fun c_3 => ?_)
      · replace hf := ip c_3 hf
        exact k90 x1 v0_taped v0_faultKind v0_faultPlace v0_pieces v0_signs g0_all g0_pieceSign g0_pieceFrom H locs ls hf hP hD hS (lv_sub hl [0, 1] rfl)
      · replace hf := im c_3 hf
        refine lv_iload_n hx hb dX12_pattern_38 rfl (lv_at hl 2 rfl) ?_
        refine lv_bipush (v := 12) hx hb dX12_pattern_39 (by decide) ?_
        refine lv_icmp_ge (tgt := 90) hx hb dX12_pattern_41 (by decide) (fun c_4 => ?_) (fun c_4 => ?_)
        · replace hf := ip c_4 hf
          exact k90 x1 v0_taped v0_faultKind v0_faultPlace v0_pieces v0_signs g0_all g0_pieceSign g0_pieceFrom H locs ls hf hP hD hS (lv_sub hl [0, 1] rfl)
        · replace hf := im c_4 hf
          refine lv_aload_n hx hb dX12_pattern_44 rfl (lv_at hl 0 rfl) ?_
          refine va_get (D := D.1) (ci := 9) (v := .ref a0_tape) (C := RX12) (T := TX12) (N := 20) hx hb hts hwX12 hown hK.1 hP 0 rfl rfl 1 (by decide) l13 (fun _ h9 => h9) rfl dX12_pattern_45 ?_
          refine lv_iload_n hx hb dX12_pattern_48 rfl (lv_at hl 2 rfl) ?_
          obtain ⟨h_5, hf⟩ := gd hf
          refine va_iald hx hb hK.1 hP 2 1 rfl rfl h_5 dX12_pattern_49 ?_
          obtain ⟨r6, hr6, hf⟩ := bd hf
          refine zSz (As := [.int (g0_tape (x2).toNatClampNeg)]) (rest := []) (wn := [(a0, .inr (9, [.ref a0_all, .ref a0_tape, .ref a0_isImage, .int v0_taped, .int v0_faultKind, .int v0_faultPlace, .int v0_undos, .ref a0_turnWord, .ref a0_turnFrom, .int v0_turns, .ref a0_pieceSign, .ref a0_pieceFrom, .int v0_pieces, .int v0_signs, .ref a0_runFrom, .ref a0_runLong, .ref a0_runPiece, .int v0_runs, .ref a0_alike, .ref a0_stood])), (a0_all, .inl (D.2 1, 5228, .inl g0_all)), (a0_tape, .inl (D.2 1, 400, .inl g0_tape)), (a0_pieceSign, .inl (D.2 1, 40, .inl g0_pieceSign)), (a0_pieceFrom, .inl (D.2 1, 14, .inl g0_pieceFrom))]) ⟨hx, hb, hml, hown, hts⟩ (mX12_isLetter l D H.size (g0_tape (x2).toNatClampNeg) r6 hr6) (va_cwS 1 hts gX12_pattern_X12_isLetter rfl rfl rfl (by decide +kernel) ⟨Nat.le_of_ble_eq_true rfl, Nat.le_of_ble_eq_true rfl⟩) hK hP hD hS hA [] [0, 1, 2, 3, 4] [0, 1, 2, 3, 4] rfl (by decide) rfl (by decide) (by decide) rfl (by decide) rfl hl.1 rfl (Nat.le_of_ble_eq_true rfl) dX12_pattern_50 ⟨Nat.zero_le _, Nat.zero_le _⟩ (fun H locs hb_7 hP hD hS => ?_)
          refine lv_if_ne (tgt := 84) hx hb dX12_pattern_53 (by decide) (fun c_8 => ?_) (fun c_8 => ?_)
          · replace hf := im c_8 hf
            refine lv_iinc (v := (x2 + (1 : Int32))) (lv' := [(2, .int (x2 + (1 : Int32))), (0, .ref a0), (1, .int x1)]) hx hb dX12_pattern_84 hl (k := 2) rfl rfl (by decide) rfl (fun ls hl => ?_)
            refine lv_goto (tgt := 33) hx hb dX12_pattern_87 (by decide) ?_
            exact ih x1 (x2 + (1 : Int32)) v0_taped v0_faultKind v0_faultPlace v0_pieces v0_signs g0_all g0_pieceSign g0_pieceFrom H locs ls hf hP hD hS (lv_sub hl [1, 2, 0] rfl)
          · replace hf := ip c_8 hf
            refine lv_aload_n hx hb dX12_pattern_56 rfl (lv_at hl 0 rfl) ?_
            refine va_get (D := D.1) (ci := 9) (v := .ref a0_tape) (C := RX12) (T := TX12) (N := 20) hx hb hts hwX12 hown hK.1 hP 0 rfl rfl 1 (by decide) l13 (fun _ h9 => h9) rfl dX12_pattern_57 ?_
            refine lv_iload_n hx hb dX12_pattern_60 rfl (lv_at hl 2 rfl) ?_
            obtain ⟨h_9, hf⟩ := gd hf
            refine va_iald hx hb hK.1 hP 2 1 rfl rfl h_9 dX12_pattern_61 ?_
            refine lv_bipush (v := 63) hx hb dX12_pattern_62 (by decide) ?_
            refine lv_icmp_eq (tgt := 84) hx hb dX12_pattern_64 (by decide) (fun c_10 => ?_) (fun c_10 => ?_)
            · replace hf := ip c_10 hf
              refine lv_iinc (v := (x2 + (1 : Int32))) (lv' := [(2, .int (x2 + (1 : Int32))), (0, .ref a0), (1, .int x1)]) hx hb dX12_pattern_84 hl (k := 2) rfl rfl (by decide) rfl (fun ls hl => ?_)
              refine lv_goto (tgt := 33) hx hb dX12_pattern_87 (by decide) ?_
              exact ih x1 (x2 + (1 : Int32)) v0_taped v0_faultKind v0_faultPlace v0_pieces v0_signs g0_all g0_pieceSign g0_pieceFrom H locs ls hf hP hD hS (lv_sub hl [1, 2, 0] rfl)
            · replace hf := im c_10 hf
              refine lv_aload_n hx hb dX12_pattern_67 rfl (lv_at hl 0 rfl) ?_
              refine va_get (D := D.1) (ci := 9) (v := .ref a0_tape) (C := RX12) (T := TX12) (N := 20) hx hb hts hwX12 hown hK.1 hP 0 rfl rfl 1 (by decide) l13 (fun _ h9 => h9) rfl dX12_pattern_68 ?_
              refine lv_iload_n hx hb dX12_pattern_71 rfl (lv_at hl 2 rfl) ?_
              obtain ⟨h_11, hf⟩ := gd hf
              refine va_iald hx hb hK.1 hP 2 1 rfl rfl h_11 dX12_pattern_72 ?_
              refine lv_bipush (v := 42) hx hb dX12_pattern_73 (by decide) ?_
              refine lv_icmp_eq (tgt := 84) hx hb dX12_pattern_75 (by decide) (fun c_12 => ?_) (fun c_12 => ?_)
              · replace hf := ip c_12 hf
                refine lv_iinc (v := (x2 + (1 : Int32))) (lv' := [(2, .int (x2 + (1 : Int32))), (0, .ref a0), (1, .int x1)]) hx hb dX12_pattern_84 hl (k := 2) rfl rfl (by decide) rfl (fun ls hl => ?_)
                refine lv_goto (tgt := 33) hx hb dX12_pattern_87 (by decide) ?_
                exact ih x1 (x2 + (1 : Int32)) v0_taped v0_faultKind v0_faultPlace v0_pieces v0_signs g0_all g0_pieceSign g0_pieceFrom H locs ls hf hP hD hS (lv_sub hl [1, 2, 0] rfl)
              · replace hf := im c_12 hf
                refine lv_aload_n hx hb dX12_pattern_78 rfl (lv_at hl 0 rfl) ?_
                refine lv_iconst (v := 1) hx hb dX12_pattern_79 (by decide) ?_
                refine lv_iload_n hx hb dX12_pattern_80 rfl (lv_at hl 2 rfl) ?_
                obtain ⟨r13, hr13, hf⟩ := bd hf
                refine zVv (As := [.int (1 : Int32), .int x2]) (rest := []) (ci := 9) (q0 := 0) (wn := [(a0, .inr (9, [.ref a0_all, .ref a0_tape, .ref a0_isImage, .int v0_taped, .int r13.1, .int r13.2, .int v0_undos, .ref a0_turnWord, .ref a0_turnFrom, .int v0_turns, .ref a0_pieceSign, .ref a0_pieceFrom, .int v0_pieces, .int v0_signs, .ref a0_runFrom, .ref a0_runLong, .ref a0_runPiece, .int v0_runs, .ref a0_alike, .ref a0_stood])), (a0_all, .inl (D.2 1, 5228, .inl g0_all)), (a0_tape, .inl (D.2 1, 400, .inl g0_tape)), (a0_pieceSign, .inl (D.2 1, 40, .inl g0_pieceSign)), (a0_pieceFrom, .inl (D.2 1, 14, .inl g0_pieceFrom))]) ⟨hx, hb, hml, hown, hts⟩ (mX12_fails l D a0 a0_all a0_tape a0_isImage a0_turnWord a0_turnFrom a0_pieceSign a0_pieceFrom a0_runFrom a0_runLong a0_runPiece a0_alike a0_stood H.size v0_taped v0_faultKind v0_faultPlace v0_undos v0_turns v0_pieces v0_signs v0_runs (1 : Int32) x2 r13 hr13) (cwV 2 hts gX12_pattern_X12_fails rfl rfl rfl (by decide +kernel) ⟨Nat.le_of_ble_eq_true rfl, Nat.le_of_ble_eq_true rfl⟩) hK hP hD hS hA [0] [1, 2, 3, 4] [4, 0, 1, 2, 3] rfl (by decide) rfl (by decide) (by decide) rfl (by decide) rfl rfl rfl hl.1 rfl (Nat.le_of_ble_eq_true rfl) dX12_pattern_81 ⟨Nat.zero_le _, Nat.zero_le _⟩ (fun H locs hP hD hS => ?_)
                refine lv_iinc (v := (x2 + (1 : Int32))) (lv' := [(2, .int (x2 + (1 : Int32))), (0, .ref a0), (1, .int x1)]) hx hb dX12_pattern_84 hl (k := 2) rfl rfl (by decide) rfl (fun ls hl => ?_)
                refine lv_goto (tgt := 33) hx hb dX12_pattern_87 (by decide) ?_
                exact ih x1 (x2 + (1 : Int32)) v0_taped r13.1 r13.2 v0_pieces v0_signs g0_all g0_pieceSign g0_pieceFrom H locs ls hf hP hD hS (lv_sub hl [1, 2, 0] rfl)
  unfold fX12_pattern at hf
  refine lv_aload_n hx hb dX12_pattern_0 rfl (lv_at hl 0 rfl) ?_
  refine va_get (D := D.1) (ci := 9) (v := .int v0_taped) (C := RX12) (T := TX12) (N := 20) hx hb hts hwX12 hown hK.1 hP 0 rfl rfl 3 (by decide) l180 (fun _ h9 => h9) rfl dX12_pattern_1 ?_
  refine lv_istore_n (lv' := [(1, .int v0_taped), (0, .ref a0)]) hx hb dX12_pattern_4 rfl hl (by decide) rfl (fun ls hl => ?_)
  refine lv_aload_n hx hb dX12_pattern_5 rfl (lv_at hl 1 rfl) ?_
  refine lv_iconst (v := 0) hx hb dX12_pattern_6 (by decide) ?_
  refine va_put (D := D.1) (ci := 9) (v := .int (0 : Int32)) (ty := .int) (C := RX12) (T := TX12) (N := 20) hx hb hts hwX12 tyX12 tyX12_ok nmX12 hown hK.1 hP hD hS 0 rfl rfl 3 (by decide) l180 (fun _ h9 => h9) rfl (by decide +kernel) rfl rfl (Nat.le_of_ble_eq_true rfl) dX12_pattern_7 (fun H locs hP hD hS => ?_)
  have hP : va_P D.1 vwCl [(a0, .inr (9, [.ref a0_all, .ref a0_tape, .ref a0_isImage, .int (0 : Int32), .int v0_faultKind, .int v0_faultPlace, .int v0_undos, .ref a0_turnWord, .ref a0_turnFrom, .int v0_turns, .ref a0_pieceSign, .ref a0_pieceFrom, .int v0_pieces, .int v0_signs, .ref a0_runFrom, .ref a0_runLong, .ref a0_runPiece, .int v0_runs, .ref a0_alike, .ref a0_stood])), (a0_all, .inl (D.2 1, 5228, .inl g0_all)), (a0_tape, .inl (D.2 1, 400, .inl g0_tape)), (a0_pieceSign, .inl (D.2 1, 40, .inl g0_pieceSign)), (a0_pieceFrom, .inl (D.2 1, 14, .inl g0_pieceFrom))] H := hP
  have hD : va_D A [(a0, .inr (9, [.ref a0_all, .ref a0_tape, .ref a0_isImage, .int (0 : Int32), .int v0_faultKind, .int v0_faultPlace, .int v0_undos, .ref a0_turnWord, .ref a0_turnFrom, .int v0_turns, .ref a0_pieceSign, .ref a0_pieceFrom, .int v0_pieces, .int v0_signs, .ref a0_runFrom, .ref a0_runLong, .ref a0_runPiece, .int v0_runs, .ref a0_alike, .ref a0_stood])), (a0_all, .inl (D.2 1, 5228, .inl g0_all)), (a0_tape, .inl (D.2 1, 400, .inl g0_tape)), (a0_pieceSign, .inl (D.2 1, 40, .inl g0_pieceSign)), (a0_pieceFrom, .inl (D.2 1, 14, .inl g0_pieceFrom))] := hD
  refine lv_aload_n hx hb dX12_pattern_10 rfl (lv_at hl 1 rfl) ?_
  refine lv_iconst (v := 0) hx hb dX12_pattern_11 (by decide) ?_
  refine va_put (D := D.1) (ci := 9) (v := .int (0 : Int32)) (ty := .int) (C := RX12) (T := TX12) (N := 20) hx hb hts hwX12 tyX12 tyX12_ok nmX12 hown hK.1 hP hD hS 0 rfl rfl 4 (by decide) l201 (fun _ h9 => h9) rfl (by decide +kernel) rfl rfl (Nat.le_of_ble_eq_true rfl) dX12_pattern_12 (fun H locs hP hD hS => ?_)
  have hP : va_P D.1 vwCl [(a0, .inr (9, [.ref a0_all, .ref a0_tape, .ref a0_isImage, .int (0 : Int32), .int (0 : Int32), .int v0_faultPlace, .int v0_undos, .ref a0_turnWord, .ref a0_turnFrom, .int v0_turns, .ref a0_pieceSign, .ref a0_pieceFrom, .int v0_pieces, .int v0_signs, .ref a0_runFrom, .ref a0_runLong, .ref a0_runPiece, .int v0_runs, .ref a0_alike, .ref a0_stood])), (a0_all, .inl (D.2 1, 5228, .inl g0_all)), (a0_tape, .inl (D.2 1, 400, .inl g0_tape)), (a0_pieceSign, .inl (D.2 1, 40, .inl g0_pieceSign)), (a0_pieceFrom, .inl (D.2 1, 14, .inl g0_pieceFrom))] H := hP
  have hD : va_D A [(a0, .inr (9, [.ref a0_all, .ref a0_tape, .ref a0_isImage, .int (0 : Int32), .int (0 : Int32), .int v0_faultPlace, .int v0_undos, .ref a0_turnWord, .ref a0_turnFrom, .int v0_turns, .ref a0_pieceSign, .ref a0_pieceFrom, .int v0_pieces, .int v0_signs, .ref a0_runFrom, .ref a0_runLong, .ref a0_runPiece, .int v0_runs, .ref a0_alike, .ref a0_stood])), (a0_all, .inl (D.2 1, 5228, .inl g0_all)), (a0_tape, .inl (D.2 1, 400, .inl g0_tape)), (a0_pieceSign, .inl (D.2 1, 40, .inl g0_pieceSign)), (a0_pieceFrom, .inl (D.2 1, 14, .inl g0_pieceFrom))] := hD
  refine lv_aload_n hx hb dX12_pattern_15 rfl (lv_at hl 1 rfl) ?_
  refine lv_iconst (v := -1) hx hb dX12_pattern_16 (by decide) ?_
  refine va_put (D := D.1) (ci := 9) (v := .int (-1 : Int32)) (ty := .int) (C := RX12) (T := TX12) (N := 20) hx hb hts hwX12 tyX12 tyX12_ok nmX12 hown hK.1 hP hD hS 0 rfl rfl 5 (by decide) l20 (fun _ h9 => h9) rfl (by decide +kernel) rfl rfl (Nat.le_of_ble_eq_true rfl) dX12_pattern_17 (fun H locs hP hD hS => ?_)
  have hP : va_P D.1 vwCl [(a0, .inr (9, [.ref a0_all, .ref a0_tape, .ref a0_isImage, .int (0 : Int32), .int (0 : Int32), .int (-1 : Int32), .int v0_undos, .ref a0_turnWord, .ref a0_turnFrom, .int v0_turns, .ref a0_pieceSign, .ref a0_pieceFrom, .int v0_pieces, .int v0_signs, .ref a0_runFrom, .ref a0_runLong, .ref a0_runPiece, .int v0_runs, .ref a0_alike, .ref a0_stood])), (a0_all, .inl (D.2 1, 5228, .inl g0_all)), (a0_tape, .inl (D.2 1, 400, .inl g0_tape)), (a0_pieceSign, .inl (D.2 1, 40, .inl g0_pieceSign)), (a0_pieceFrom, .inl (D.2 1, 14, .inl g0_pieceFrom))] H := hP
  have hD : va_D A [(a0, .inr (9, [.ref a0_all, .ref a0_tape, .ref a0_isImage, .int (0 : Int32), .int (0 : Int32), .int (-1 : Int32), .int v0_undos, .ref a0_turnWord, .ref a0_turnFrom, .int v0_turns, .ref a0_pieceSign, .ref a0_pieceFrom, .int v0_pieces, .int v0_signs, .ref a0_runFrom, .ref a0_runLong, .ref a0_runPiece, .int v0_runs, .ref a0_alike, .ref a0_stood])), (a0_all, .inl (D.2 1, 5228, .inl g0_all)), (a0_tape, .inl (D.2 1, 400, .inl g0_tape)), (a0_pieceSign, .inl (D.2 1, 40, .inl g0_pieceSign)), (a0_pieceFrom, .inl (D.2 1, 14, .inl g0_pieceFrom))] := hD
  refine lv_iload_n hx hb dX12_pattern_20 rfl (lv_at hl 0 rfl) ?_
  refine lv_if_ne (tgt := 31) hx hb dX12_pattern_21 (by decide) (fun c_1 => ?_) (fun c_1 => ?_)
  · replace hf := im c_1 hf
    refine lv_iconst (v := 0) hx hb dX12_pattern_31 (by decide) ?_
    refine lv_istore_n (lv' := [(2, .int (0 : Int32)), (1, .int v0_taped), (0, .ref a0)]) hx hb dX12_pattern_32 rfl hl (by decide) rfl (fun ls hl => ?_)
    exact k33 N v0_taped (0 : Int32) (0 : Int32) (0 : Int32) (-1 : Int32) v0_pieces v0_signs g0_all g0_pieceSign g0_pieceFrom H locs ls hf hP hD hS (lv_sub hl [2, 1, 0] rfl)
  · replace hf := ip c_1 hf
    refine lv_aload_n hx hb dX12_pattern_24 rfl (lv_at hl 1 rfl) ?_
    refine lv_bipush (v := 6) hx hb dX12_pattern_25 (by decide) ?_
    refine lv_iconst (v := 0) hx hb dX12_pattern_27 (by decide) ?_
    obtain ⟨r2, hr2, hf⟩ := bd hf
    refine zVv (As := [.int (6 : Int32), .int (0 : Int32)]) (rest := []) (ci := 9) (q0 := 0) (wn := [(a0, .inr (9, [.ref a0_all, .ref a0_tape, .ref a0_isImage, .int (0 : Int32), .int r2.1, .int r2.2, .int v0_undos, .ref a0_turnWord, .ref a0_turnFrom, .int v0_turns, .ref a0_pieceSign, .ref a0_pieceFrom, .int v0_pieces, .int v0_signs, .ref a0_runFrom, .ref a0_runLong, .ref a0_runPiece, .int v0_runs, .ref a0_alike, .ref a0_stood])), (a0_all, .inl (D.2 1, 5228, .inl g0_all)), (a0_tape, .inl (D.2 1, 400, .inl g0_tape)), (a0_pieceSign, .inl (D.2 1, 40, .inl g0_pieceSign)), (a0_pieceFrom, .inl (D.2 1, 14, .inl g0_pieceFrom))]) ⟨hx, hb, hml, hown, hts⟩ (mX12_fails l D a0 a0_all a0_tape a0_isImage a0_turnWord a0_turnFrom a0_pieceSign a0_pieceFrom a0_runFrom a0_runLong a0_runPiece a0_alike a0_stood H.size (0 : Int32) (0 : Int32) (-1 : Int32) v0_undos v0_turns v0_pieces v0_signs v0_runs (6 : Int32) (0 : Int32) r2 hr2) (cwV 2 hts gX12_pattern_X12_fails rfl rfl rfl (by decide +kernel) ⟨Nat.le_of_ble_eq_true rfl, Nat.le_of_ble_eq_true rfl⟩) hK hP hD hS hA [0] [1, 2, 3, 4] [4, 0, 1, 2, 3] rfl (by decide) rfl (by decide) (by decide) rfl (by decide) rfl rfl rfl hl.1 rfl (Nat.le_of_ble_eq_true rfl) dX12_pattern_28 ⟨Nat.zero_le _, Nat.zero_le _⟩ (fun H locs hP hD hS => ?_)
    refine lv_iconst (v := 0) hx hb dX12_pattern_31 (by decide) ?_
    refine lv_istore_n (lv' := [(2, .int (0 : Int32)), (1, .int v0_taped), (0, .ref a0)]) hx hb dX12_pattern_32 rfl hl (by decide) rfl (fun ls hl => ?_)
    exact k33 N v0_taped (0 : Int32) (0 : Int32) r2.1 r2.2 v0_pieces v0_signs g0_all g0_pieceSign g0_pieceFrom H locs ls hf hP hD hS (lv_sub hl [2, 1, 0] rfl)
def fX12_edit_161 (N : Nat) (g0_tape : Nat → Int32) (p1 : Int32) (y1 : Int32) (y2 : Int32) (x5 : Int32) (v0_taped : Int32) (g0_all : Nat → Int32) : Option (Int32 × Int32 × (Nat → Int32)) :=
  if y1 < 0 ∨ 5228 ≤ (y1).toNatClampNeg then none else
  Option.bind (fX12_copies N (upd g0_all (y1).toNatClampNeg y2) (1085 : Int32) (x5 + (1 : Int32)) (8 : Int32)) fun r24 =>
  if (321 : Int32) < 0 ∨ 5228 ≤ ((321 : Int32)).toNatClampNeg then none else
  if (321 : Int32) < 0 ∨ 5228 ≤ ((321 : Int32)).toNatClampNeg then none else
  if (321 : Int32) < 0 ∨ 5228 ≤ ((321 : Int32)).toNatClampNeg then none else
  some (((upd r24 ((321 : Int32)).toNatClampNeg ((r24 ((321 : Int32)).toNatClampNeg) + (1 : Int32))) ((321 : Int32)).toNatClampNeg), v0_taped, (upd r24 ((321 : Int32)).toNatClampNeg ((r24 ((321 : Int32)).toNatClampNeg) + (1 : Int32))))
def fX12_edit_133 (N : Nat) (g0_tape : Nat → Int32) (p1 : Int32) (v0_taped : Int32) (g0_all : Nat → Int32) : Option (Int32 × Int32 × (Nat → Int32)) :=
  if (321 : Int32) < 0 ∨ 5228 ≤ ((321 : Int32)).toNatClampNeg then none else
  Option.bind (fX12_editAt (g0_all ((321 : Int32)).toNatClampNeg)) fun r21 =>
  if p1 = (0 : Int32) then
    fX12_edit_161 N g0_tape p1 r21 (0 : Int32) r21 v0_taped g0_all
  else
    fX12_edit_161 N g0_tape p1 r21 (1 : Int32) r21 v0_taped g0_all
def fX12_edit_106 (N : Nat) (g0_tape : Nat → Int32) (p1 : Int32) (y0 : Int32) (v0_taped : Int32) (g0_all : Nat → Int32) : Option (Int32 × Int32 × (Nat → Int32)) :=
  if y0 = p1 then
    if p1 = (0 : Int32) then
      if (443 : Int32) < 0 ∨ 5228 ≤ ((443 : Int32)).toNatClampNeg then none else
      if (g0_all ((443 : Int32)).toNatClampNeg) = (40 : Int32) then
        some ((-1 : Int32), v0_taped, g0_all)
      else
        fX12_edit_133 N g0_tape p1 v0_taped g0_all
    else
      fX12_edit_133 N g0_tape p1 v0_taped g0_all
  else
    some ((-1 : Int32), v0_taped, g0_all)
def fX12_edit_21 (N : Nat) (g0_tape : Nat → Int32) (p1 : Int32) : Nat → Int32 → Int32 → Int32 → Int32 → (Nat → Int32) → Option (Int32 × Int32 × (Nat → Int32))
  | 0, _, _, _, _, _ => none
  | K + 1, x2, x3, x4, v0_taped, g0_all =>
    if x2 ≤ x4 then
      if x3 = (0 : Int32) then
        some ((-1 : Int32), v0_taped, g0_all)
      else
        if (321 : Int32) < 0 ∨ 5228 ≤ ((321 : Int32)).toNatClampNeg then none else
        if (g0_all ((321 : Int32)).toNatClampNeg) = (12 : Int32) then
          some ((-1 : Int32), v0_taped, g0_all)
        else
          Option.bind (fX12_laysWord N g0_all g0_tape (0 : Int32) x2 (1085 : Int32)) fun r7 =>
          Option.bind (fX12_laysComing N r7) fun r8 =>
          Option.bind (fX12_numberOf N r8 (443 : Int32) (1085 : Int32)) fun r9 =>
          if r9 < (0 : Int32) then
            fX12_edit_106 N g0_tape p1 (0 : Int32) v0_taped r8
          else
            fX12_edit_106 N g0_tape p1 (1 : Int32) v0_taped r8
    else
      if x3 = (0 : Int32) then
        (fX12_edit_21 N g0_tape p1 K) x2 (0 : Int32) (x4 + (1 : Int32)) v0_taped g0_all
      else
        if x4 < 0 ∨ 400 ≤ (x4).toNatClampNeg then none else
        Option.bind (fX12_isLetter (g0_tape (x4).toNatClampNeg)) fun r13 =>
        if r13 = (0 : Int32) then
          (fX12_edit_21 N g0_tape p1 K) x2 (0 : Int32) (x4 + (1 : Int32)) v0_taped g0_all
        else
          (fX12_edit_21 N g0_tape p1 K) x2 (1 : Int32) (x4 + (1 : Int32)) v0_taped g0_all
def fX12_edit (N : Nat) (v0_taped : Int32) (g0_all : Nat → Int32) (g0_tape : Nat → Int32) (p1 : Int32) : Option (Int32 × Int32 × (Nat → Int32)) :=
  Option.bind (fX12_isIn v0_taped (1 : Int32) (7 : Int32)) fun r1 =>
  fX12_edit_21 N g0_tape p1 N v0_taped r1 (0 : Int32) (0 : Int32) g0_all
set_option maxHeartbeats 4000000 in
set_option maxRecDepth 100000 in
theorem mX12_edit (l : Launch) (D : zG) (a0 : Nat) (a0_all : Nat) (a0_tape : Nat) (a0_isImage : Nat) (a0_turnWord : Nat) (a0_turnFrom : Nat) (a0_pieceSign : Nat) (a0_pieceFrom : Nat) (a0_runFrom : Nat) (a0_runLong : Nat) (a0_runPiece : Nat) (a0_alike : Nat) (a0_stood : Nat) (sz : Nat)  (v0_taped : Int32) (v0_faultKind : Int32) (v0_faultPlace : Int32) (v0_undos : Int32) (v0_turns : Int32) (v0_pieces : Int32) (v0_signs : Int32) (v0_runs : Int32) (g0_all : Nat → Int32) (g0_tape : Nat → Int32) (p1 : Int32) (N : Nat) (res : Int32 × Int32 × (Nat → Int32)) (hf : fX12_edit N v0_taped g0_all g0_tape p1 = some res) : Met l yX12_edit wsX12_edit ({ frames := 3, cells := 0, slots := 0, locals := 70 } : Room) (va_Pc [.ref a0, .int p1] (zW D sz [(a0, .inr (9, [.ref a0_all, .ref a0_tape, .ref a0_isImage, .int v0_taped, .int v0_faultKind, .int v0_faultPlace, .int v0_undos, .ref a0_turnWord, .ref a0_turnFrom, .int v0_turns, .ref a0_pieceSign, .ref a0_pieceFrom, .int v0_pieces, .int v0_signs, .ref a0_runFrom, .ref a0_runLong, .ref a0_runPiece, .int v0_runs, .ref a0_alike, .ref a0_stood])), (a0_all, .inl (D.2 1, 5228, .inl g0_all)), (a0_tape, .inl (D.2 1, 400, .inl g0_tape))])) (va_Qi (fun r (_ : Unit) => r = res.1) (fun _ => zB D (va_A [(a0, .inr (9, [.ref a0_all, .ref a0_tape, .ref a0_isImage, .int v0_taped, .int v0_faultKind, .int v0_faultPlace, .int v0_undos, .ref a0_turnWord, .ref a0_turnFrom, .int v0_turns, .ref a0_pieceSign, .ref a0_pieceFrom, .int v0_pieces, .int v0_signs, .ref a0_runFrom, .ref a0_runLong, .ref a0_runPiece, .int v0_runs, .ref a0_alike, .ref a0_stood])), (a0_all, .inl (D.2 1, 5228, .inl g0_all)), (a0_tape, .inl (D.2 1, 400, .inl g0_tape))] sz) [(a0, .inr (9, [.ref a0_all, .ref a0_tape, .ref a0_isImage, .int res.2.1, .int v0_faultKind, .int v0_faultPlace, .int v0_undos, .ref a0_turnWord, .ref a0_turnFrom, .int v0_turns, .ref a0_pieceSign, .ref a0_pieceFrom, .int v0_pieces, .int v0_signs, .ref a0_runFrom, .ref a0_runLong, .ref a0_runPiece, .int v0_runs, .ref a0_alike, .ref a0_stood])), (a0_all, .inl (D.2 1, 5228, .inl res.2.2)), (a0_tape, .inl (D.2 1, 400, .inl g0_tape))]) (va_A [(a0, .inr (9, [.ref a0_all, .ref a0_tape, .ref a0_isImage, .int v0_taped, .int v0_faultKind, .int v0_faultPlace, .int v0_undos, .ref a0_turnWord, .ref a0_turnFrom, .int v0_turns, .ref a0_pieceSign, .ref a0_pieceFrom, .int v0_pieces, .int v0_signs, .ref a0_runFrom, .ref a0_runLong, .ref a0_runPiece, .int v0_runs, .ref a0_alike, .ref a0_stood])), (a0_all, .inl (D.2 1, 5228, .inl g0_all)), (a0_tape, .inl (D.2 1, 400, .inl g0_tape))] sz)) 0 0 (va_A [(a0, .inr (9, [.ref a0_all, .ref a0_tape, .ref a0_isImage, .int v0_taped, .int v0_faultKind, .int v0_faultPlace, .int v0_undos, .ref a0_turnWord, .ref a0_turnFrom, .int v0_turns, .ref a0_pieceSign, .ref a0_pieceFrom, .int v0_pieces, .int v0_signs, .ref a0_runFrom, .ref a0_runLong, .ref a0_runPiece, .int v0_runs, .ref a0_alike, .ref a0_stood])), (a0_all, .inl (D.2 1, 5228, .inl g0_all)), (a0_tape, .inl (D.2 1, 400, .inl g0_tape))] sz) := by
  refine Met.ofW (cc := cX12_edit) (maxL := 6) (ret := (some .int)) (by decide) rfl ?_
  intro p e s m args below meth c s₁ B hml hv
  obtain ⟨rfl, hsz, hP, hK, hD0⟩ := hv
  have hx := B.exec
  have hb := B.bytes
  have hr := B.returns
  have hts := atoms_spec (ws := wsX12_edit) B.pre
  have hown : s.vm.findClass RX12 = some m.cls := findClass_of_methodNamed B.named
  have hlocks := B.notSynchronized
  subst hsz
  have hD := hD0.self (sz := s.heap.size)
  generalize hAe : va_A [(a0, .inr (9, [.ref a0_all, .ref a0_tape, .ref a0_isImage, .int v0_taped, .int v0_faultKind, .int v0_faultPlace, .int v0_undos, .ref a0_turnWord, .ref a0_turnFrom, .int v0_turns, .ref a0_pieceSign, .ref a0_pieceFrom, .int v0_pieces, .int v0_signs, .ref a0_runFrom, .ref a0_runLong, .ref a0_runPiece, .int v0_runs, .ref a0_alike, .ref a0_stood])), (a0_all, .inl (D.2 1, 5228, .inl g0_all)), (a0_tape, .inl (D.2 1, 400, .inl g0_tape))] s.heap.size = A at hD ⊢
  have hA : ∀ q : Nat, s.heap.size ≤ q → A q := fun q h => by rw [← hAe]; exact Or.inr h
  have l180 := zat hts 1 (w := .fieldLink RX12 180 "TurnedWordsModel" "taped" "I") rfl
  have l7 := zat hts 3 (w := .fieldLink RX12 7 "TurnedWordsModel" "all" "[I") rfl
  have l13 := zat hts 2 (w := .fieldLink RX12 13 "TurnedWordsModel" "tape" "[I") rfl
  have hwX12 : ∀ w ∈ u_ws RX12 TX12 20, w ∈ wsX12_edit := fun w h => List.mem_cons_of_mem _ (List.mem_append_right _ h)
  have hl := lv_entry ([.ref a0, .int p1]) (n := 6) (Nat.le_of_ble_eq_true rfl)
  rw [lg_entry_eq]
  generalize (lg_sl ([.ref a0, .int p1]) ++ List.replicate (6 - (lg_sl ([.ref a0, .int p1])).length) Slot.unset).toArray = ls at hl ⊢
  have hl : lv_has ls 6 [(0, .ref a0), (1, .int p1)] := hl
  refine zStart (A := A) hP (fun Q0 H locs hQ hP hS => ?_)
  have k161 : ∀ (y1 : Int32) (y2 : Int32) (x5 : Int32) (v0_taped : Int32) (g0_all : Nat → Int32) (H : Heap) (locs : List Loc) (ls : Array Slot), fX12_edit_161 N g0_tape p1 y1 y2 x5 v0_taped g0_all = some res → va_P D.1 vwCl [(a0, .inr (9, [.ref a0_all, .ref a0_tape, .ref a0_isImage, .int v0_taped, .int v0_faultKind, .int v0_faultPlace, .int v0_undos, .ref a0_turnWord, .ref a0_turnFrom, .int v0_turns, .ref a0_pieceSign, .ref a0_pieceFrom, .int v0_pieces, .int v0_signs, .ref a0_runFrom, .ref a0_runLong, .ref a0_runPiece, .int v0_runs, .ref a0_alike, .ref a0_stood])), (a0_all, .inl (D.2 1, 5228, .inl g0_all)), (a0_tape, .inl (D.2 1, 400, .inl g0_tape))] H → va_D A [(a0, .inr (9, [.ref a0_all, .ref a0_tape, .ref a0_isImage, .int v0_taped, .int v0_faultKind, .int v0_faultPlace, .int v0_undos, .ref a0_turnWord, .ref a0_turnFrom, .int v0_turns, .ref a0_pieceSign, .ref a0_pieceFrom, .int v0_pieces, .int v0_signs, .ref a0_runFrom, .ref a0_runLong, .ref a0_runPiece, .int v0_runs, .ref a0_alike, .ref a0_stood])), (a0_all, .inl (D.2 1, 5228, .inl g0_all)), (a0_tape, .inl (D.2 1, 400, .inl g0_tape))] → va_S A s.heap H locs → lv_has ls 6 [(0, .ref a0), (5, .int x5)] → W p l e (headSpec wsX12_edit ({ frames := 3, cells := 0, slots := 0, locals := 70 } : Room)).room s m ([.ref a0, .int p1] : List Value).toArray below meth c H locs 0 0 Q0 (F0 m 161 ls [.int y2, .int y1, .ref a0_all]) := by
    intro y1 y2 x5 v0_taped g0_all H locs ls hf hP hD hS hl
    unfold fX12_edit_161 at hf
    obtain ⟨h_23, hf⟩ := gd hf
    refine va_iast hx hb hK.1 hP hD hS 1 1 rfl rfl h_23 dX12_edit_161 (fun H locs hP hD hS => ?_)
    have hP : va_P D.1 vwCl [(a0, .inr (9, [.ref a0_all, .ref a0_tape, .ref a0_isImage, .int v0_taped, .int v0_faultKind, .int v0_faultPlace, .int v0_undos, .ref a0_turnWord, .ref a0_turnFrom, .int v0_turns, .ref a0_pieceSign, .ref a0_pieceFrom, .int v0_pieces, .int v0_signs, .ref a0_runFrom, .ref a0_runLong, .ref a0_runPiece, .int v0_runs, .ref a0_alike, .ref a0_stood])), (a0_all, .inl (D.2 1, 5228, .inl (upd g0_all (y1).toNatClampNeg y2))), (a0_tape, .inl (D.2 1, 400, .inl g0_tape))] H := hP
    have hD : va_D A [(a0, .inr (9, [.ref a0_all, .ref a0_tape, .ref a0_isImage, .int v0_taped, .int v0_faultKind, .int v0_faultPlace, .int v0_undos, .ref a0_turnWord, .ref a0_turnFrom, .int v0_turns, .ref a0_pieceSign, .ref a0_pieceFrom, .int v0_pieces, .int v0_signs, .ref a0_runFrom, .ref a0_runLong, .ref a0_runPiece, .int v0_runs, .ref a0_alike, .ref a0_stood])), (a0_all, .inl (D.2 1, 5228, .inl (upd g0_all (y1).toNatClampNeg y2))), (a0_tape, .inl (D.2 1, 400, .inl g0_tape))] := hD
    refine lv_aload_n hx hb dX12_edit_162 rfl (lv_at hl 0 rfl) ?_
    refine lv_sipush (v := 1085) hx hb dX12_edit_163 (by decide) ?_
    refine lv_iload hx hb dX12_edit_166 (lv_at hl 1 rfl) ?_
    refine lv_iconst (v := 1) hx hb dX12_edit_168 (by decide) ?_
    refine lv_iadd hx hb dX12_edit_169 ?_
    refine lv_bipush (v := 8) hx hb dX12_edit_170 (by decide) ?_
    obtain ⟨r24, hr24, hf⟩ := bd hf
    refine zVv (As := [.int (1085 : Int32), .int (x5 + (1 : Int32)), .int (8 : Int32)]) (rest := []) (ci := 9) (q0 := 0) (wn := [(a0, .inr (9, [.ref a0_all, .ref a0_tape, .ref a0_isImage, .int v0_taped, .int v0_faultKind, .int v0_faultPlace, .int v0_undos, .ref a0_turnWord, .ref a0_turnFrom, .int v0_turns, .ref a0_pieceSign, .ref a0_pieceFrom, .int v0_pieces, .int v0_signs, .ref a0_runFrom, .ref a0_runLong, .ref a0_runPiece, .int v0_runs, .ref a0_alike, .ref a0_stood])), (a0_all, .inl (D.2 1, 5228, .inl r24)), (a0_tape, .inl (D.2 1, 400, .inl g0_tape))]) ⟨hx, hb, hml, hown, hts⟩ (mX12_copies l D a0 a0_all a0_tape a0_isImage a0_turnWord a0_turnFrom a0_pieceSign a0_pieceFrom a0_runFrom a0_runLong a0_runPiece a0_alike a0_stood H.size v0_taped v0_faultKind v0_faultPlace v0_undos v0_turns v0_pieces v0_signs v0_runs (upd g0_all (y1).toNatClampNeg y2) (1085 : Int32) (x5 + (1 : Int32)) (8 : Int32) N r24 hr24) (cwV 3 hts gX12_edit_X12_copies rfl rfl rfl (by decide +kernel) ⟨Nat.le_of_ble_eq_true rfl, Nat.le_of_ble_eq_true rfl⟩) hK hP hD hS hA [0, 1] [2] [1, 2, 0] rfl (by decide) rfl (by decide) (by decide) rfl (by decide) rfl rfl rfl hl.1 rfl (Nat.le_of_ble_eq_true rfl) dX12_edit_172 ⟨Nat.zero_le _, Nat.zero_le _⟩ (fun H locs hP hD hS => ?_)
    refine lv_aload_n hx hb dX12_edit_175 rfl (lv_at hl 0 rfl) ?_
    refine va_get (D := D.1) (ci := 9) (v := .ref a0_all) (C := RX12) (T := TX12) (N := 20) hx hb hts hwX12 hown hK.1 hP 0 rfl rfl 0 (by decide) l7 (fun _ h9 => h9) rfl dX12_edit_176 ?_
    refine lv_sipush (v := 321) hx hb dX12_edit_179 (by decide) ?_
    refine lv_dup2_11 hx hb dX12_edit_182 rfl rfl ?_
    obtain ⟨h_25, hf⟩ := gd hf
    refine va_iald hx hb hK.1 hP 1 1 rfl rfl h_25 dX12_edit_183 ?_
    refine lv_iconst (v := 1) hx hb dX12_edit_184 (by decide) ?_
    refine lv_iadd hx hb dX12_edit_185 ?_
    obtain ⟨h_26, hf⟩ := gd hf
    refine va_iast hx hb hK.1 hP hD hS 1 1 rfl rfl h_26 dX12_edit_186 (fun H locs hP hD hS => ?_)
    have hP : va_P D.1 vwCl [(a0, .inr (9, [.ref a0_all, .ref a0_tape, .ref a0_isImage, .int v0_taped, .int v0_faultKind, .int v0_faultPlace, .int v0_undos, .ref a0_turnWord, .ref a0_turnFrom, .int v0_turns, .ref a0_pieceSign, .ref a0_pieceFrom, .int v0_pieces, .int v0_signs, .ref a0_runFrom, .ref a0_runLong, .ref a0_runPiece, .int v0_runs, .ref a0_alike, .ref a0_stood])), (a0_all, .inl (D.2 1, 5228, .inl (upd r24 ((321 : Int32)).toNatClampNeg ((r24 ((321 : Int32)).toNatClampNeg) + (1 : Int32))))), (a0_tape, .inl (D.2 1, 400, .inl g0_tape))] H := hP
    have hD : va_D A [(a0, .inr (9, [.ref a0_all, .ref a0_tape, .ref a0_isImage, .int v0_taped, .int v0_faultKind, .int v0_faultPlace, .int v0_undos, .ref a0_turnWord, .ref a0_turnFrom, .int v0_turns, .ref a0_pieceSign, .ref a0_pieceFrom, .int v0_pieces, .int v0_signs, .ref a0_runFrom, .ref a0_runLong, .ref a0_runPiece, .int v0_runs, .ref a0_alike, .ref a0_stood])), (a0_all, .inl (D.2 1, 5228, .inl (upd r24 ((321 : Int32)).toNatClampNeg ((r24 ((321 : Int32)).toNatClampNeg) + (1 : Int32))))), (a0_tape, .inl (D.2 1, 400, .inl g0_tape))] := hD
    refine lv_aload_n hx hb dX12_edit_187 rfl (lv_at hl 0 rfl) ?_
    refine va_get (D := D.1) (ci := 9) (v := .ref a0_all) (C := RX12) (T := TX12) (N := 20) hx hb hts hwX12 hown hK.1 hP 0 rfl rfl 0 (by decide) l7 (fun _ h9 => h9) rfl dX12_edit_188 ?_
    refine lv_sipush (v := 321) hx hb dX12_edit_191 (by decide) ?_
    obtain ⟨h_27, hf⟩ := gd hf
    refine va_iald hx hb hK.1 hP 1 1 rfl rfl h_27 dX12_edit_194 ?_
    have he := Option.some.inj hf
    rw [hQ]
    exact W.iret (v := ((upd r24 ((321 : Int32)).toNatClampNeg ((r24 ((321 : Int32)).toNatClampNeg) + (1 : Int32))) ((321 : Int32)).toNatClampNeg)) hx hb hr (fun t ht hW => by rw [← he]; exact ⟨⟨((upd r24 ((321 : Int32)).toNatClampNeg ((r24 ((321 : Int32)).toNatClampNeg) + (1 : Int32))) ((321 : Int32)).toNatClampNeg), (), rfl, rfl, by rw [ht]; exact hP, hD⟩, hS.F ht⟩) hS.2.2 dX12_edit_195
  have k133 : ∀ (v0_taped : Int32) (g0_all : Nat → Int32) (H : Heap) (locs : List Loc) (ls : Array Slot), fX12_edit_133 N g0_tape p1 v0_taped g0_all = some res → va_P D.1 vwCl [(a0, .inr (9, [.ref a0_all, .ref a0_tape, .ref a0_isImage, .int v0_taped, .int v0_faultKind, .int v0_faultPlace, .int v0_undos, .ref a0_turnWord, .ref a0_turnFrom, .int v0_turns, .ref a0_pieceSign, .ref a0_pieceFrom, .int v0_pieces, .int v0_signs, .ref a0_runFrom, .ref a0_runLong, .ref a0_runPiece, .int v0_runs, .ref a0_alike, .ref a0_stood])), (a0_all, .inl (D.2 1, 5228, .inl g0_all)), (a0_tape, .inl (D.2 1, 400, .inl g0_tape))] H → va_D A [(a0, .inr (9, [.ref a0_all, .ref a0_tape, .ref a0_isImage, .int v0_taped, .int v0_faultKind, .int v0_faultPlace, .int v0_undos, .ref a0_turnWord, .ref a0_turnFrom, .int v0_turns, .ref a0_pieceSign, .ref a0_pieceFrom, .int v0_pieces, .int v0_signs, .ref a0_runFrom, .ref a0_runLong, .ref a0_runPiece, .int v0_runs, .ref a0_alike, .ref a0_stood])), (a0_all, .inl (D.2 1, 5228, .inl g0_all)), (a0_tape, .inl (D.2 1, 400, .inl g0_tape))] → va_S A s.heap H locs → lv_has ls 6 [(0, .ref a0), (1, .int p1)] → W p l e (headSpec wsX12_edit ({ frames := 3, cells := 0, slots := 0, locals := 70 } : Room)).room s m ([.ref a0, .int p1] : List Value).toArray below meth c H locs 0 0 Q0 (F0 m 133 ls []) := by
    intro v0_taped g0_all H locs ls hf hP hD hS hl
    unfold fX12_edit_133 at hf
    refine lv_aload_n hx hb dX12_edit_133 rfl (lv_at hl 0 rfl) ?_
    refine va_get (D := D.1) (ci := 9) (v := .ref a0_all) (C := RX12) (T := TX12) (N := 20) hx hb hts hwX12 hown hK.1 hP 0 rfl rfl 0 (by decide) l7 (fun _ h9 => h9) rfl dX12_edit_134 ?_
    refine lv_sipush (v := 321) hx hb dX12_edit_137 (by decide) ?_
    obtain ⟨h_20, hf⟩ := gd hf
    refine va_iald hx hb hK.1 hP 1 1 rfl rfl h_20 dX12_edit_140 ?_
    obtain ⟨r21, hr21, hf⟩ := bd hf
    refine zSi (As := [.int (g0_all ((321 : Int32)).toNatClampNeg)]) (rest := []) (wn := [(a0, .inr (9, [.ref a0_all, .ref a0_tape, .ref a0_isImage, .int v0_taped, .int v0_faultKind, .int v0_faultPlace, .int v0_undos, .ref a0_turnWord, .ref a0_turnFrom, .int v0_turns, .ref a0_pieceSign, .ref a0_pieceFrom, .int v0_pieces, .int v0_signs, .ref a0_runFrom, .ref a0_runLong, .ref a0_runPiece, .int v0_runs, .ref a0_alike, .ref a0_stood])), (a0_all, .inl (D.2 1, 5228, .inl g0_all)), (a0_tape, .inl (D.2 1, 400, .inl g0_tape))]) ⟨hx, hb, hml, hown, hts⟩ (mX12_editAt l D H.size (g0_all ((321 : Int32)).toNatClampNeg) r21 hr21) (va_cwS 1 hts gX12_edit_X12_editAt rfl rfl rfl (by decide +kernel) ⟨Nat.le_of_ble_eq_true rfl, Nat.le_of_ble_eq_true rfl⟩) hK hP hD hS hA [] [0, 1, 2] [0, 1, 2] rfl (by decide) rfl (by decide) (by decide) rfl (by decide) rfl hl.1 rfl (Nat.le_of_ble_eq_true rfl) dX12_edit_141 ⟨Nat.zero_le _, Nat.zero_le _⟩ (fun H locs hP hD hS => ?_)
    refine lv_istore (lv' := [(5, .int r21), (0, .ref a0), (1, .int p1)]) hx hb dX12_edit_144 hl (by decide) rfl (fun ls hl => ?_)
    refine lv_aload_n hx hb dX12_edit_146 rfl (lv_at hl 1 rfl) ?_
    refine va_get (D := D.1) (ci := 9) (v := .ref a0_all) (C := RX12) (T := TX12) (N := 20) hx hb hts hwX12 hown hK.1 hP 0 rfl rfl 0 (by decide) l7 (fun _ h9 => h9) rfl dX12_edit_147 ?_
    refine lv_iload hx hb dX12_edit_150 (lv_at hl 0 rfl) ?_
    refine lv_iload_n hx hb dX12_edit_152 rfl (lv_at hl 2 rfl) ?_
    refine lv_if_eq (tgt := 160) hx hb dX12_edit_153 (by decide) (fun c_22 => ?_) (fun c_22 => ?_)
    · replace hf := ip c_22 hf
      refine lv_iconst (v := 0) hx hb dX12_edit_160 (by decide) ?_
      exact k161 r21 (0 : Int32) r21 v0_taped g0_all H locs ls hf hP hD hS (lv_sub hl [1, 0] rfl)
    · replace hf := im c_22 hf
      refine lv_iconst (v := 1) hx hb dX12_edit_156 (by decide) ?_
      refine lv_goto (tgt := 161) hx hb dX12_edit_157 (by decide) ?_
      exact k161 r21 (1 : Int32) r21 v0_taped g0_all H locs ls hf hP hD hS (lv_sub hl [1, 0] rfl)
  have k106 : ∀ (y0 : Int32) (v0_taped : Int32) (g0_all : Nat → Int32) (H : Heap) (locs : List Loc) (ls : Array Slot), fX12_edit_106 N g0_tape p1 y0 v0_taped g0_all = some res → va_P D.1 vwCl [(a0, .inr (9, [.ref a0_all, .ref a0_tape, .ref a0_isImage, .int v0_taped, .int v0_faultKind, .int v0_faultPlace, .int v0_undos, .ref a0_turnWord, .ref a0_turnFrom, .int v0_turns, .ref a0_pieceSign, .ref a0_pieceFrom, .int v0_pieces, .int v0_signs, .ref a0_runFrom, .ref a0_runLong, .ref a0_runPiece, .int v0_runs, .ref a0_alike, .ref a0_stood])), (a0_all, .inl (D.2 1, 5228, .inl g0_all)), (a0_tape, .inl (D.2 1, 400, .inl g0_tape))] H → va_D A [(a0, .inr (9, [.ref a0_all, .ref a0_tape, .ref a0_isImage, .int v0_taped, .int v0_faultKind, .int v0_faultPlace, .int v0_undos, .ref a0_turnWord, .ref a0_turnFrom, .int v0_turns, .ref a0_pieceSign, .ref a0_pieceFrom, .int v0_pieces, .int v0_signs, .ref a0_runFrom, .ref a0_runLong, .ref a0_runPiece, .int v0_runs, .ref a0_alike, .ref a0_stood])), (a0_all, .inl (D.2 1, 5228, .inl g0_all)), (a0_tape, .inl (D.2 1, 400, .inl g0_tape))] → va_S A s.heap H locs → lv_has ls 6 [(0, .ref a0), (1, .int p1)] → W p l e (headSpec wsX12_edit ({ frames := 3, cells := 0, slots := 0, locals := 70 } : Room)).room s m ([.ref a0, .int p1] : List Value).toArray below meth c H locs 0 0 Q0 (F0 m 106 ls [.int y0]) := by
    intro y0 v0_taped g0_all H locs ls hf hP hD hS hl
    unfold fX12_edit_106 at hf
    refine lv_istore (lv' := [(4, .int y0), (0, .ref a0), (1, .int p1)]) hx hb dX12_edit_106 hl (by decide) rfl (fun ls hl => ?_)
    refine lv_iload hx hb dX12_edit_108 (lv_at hl 0 rfl) ?_
    refine lv_iload_n hx hb dX12_edit_110 rfl (lv_at hl 2 rfl) ?_
    refine lv_icmp_ne (tgt := 131) hx hb dX12_edit_111 (by decide) (fun c_16 => ?_) (fun c_16 => ?_)
    · replace hf := im c_16 hf
      refine lv_iconst (v := -1) hx hb dX12_edit_131 (by decide) ?_
      have he := Option.some.inj hf
      rw [hQ]
      exact W.iret (v := (-1 : Int32)) hx hb hr (fun t ht hW => by rw [← he]; exact ⟨⟨(-1 : Int32), (), rfl, rfl, by rw [ht]; exact hP, hD⟩, hS.F ht⟩) hS.2.2 dX12_edit_132
    · replace hf := ip c_16 hf
      refine lv_iload_n hx hb dX12_edit_114 rfl (lv_at hl 2 rfl) ?_
      refine lv_if_ne (tgt := 133) hx hb dX12_edit_115 (by decide) (fun c_17 => ?_) (fun c_17 => ?_)
      · replace hf := im c_17 hf
        exact k133 v0_taped g0_all H locs ls hf hP hD hS (lv_sub hl [1, 2] rfl)
      · replace hf := ip c_17 hf
        refine lv_aload_n hx hb dX12_edit_118 rfl (lv_at hl 1 rfl) ?_
        refine va_get (D := D.1) (ci := 9) (v := .ref a0_all) (C := RX12) (T := TX12) (N := 20) hx hb hts hwX12 hown hK.1 hP 0 rfl rfl 0 (by decide) l7 (fun _ h9 => h9) rfl dX12_edit_119 ?_
        refine lv_sipush (v := 443) hx hb dX12_edit_122 (by decide) ?_
        obtain ⟨h_18, hf⟩ := gd hf
        refine va_iald hx hb hK.1 hP 1 1 rfl rfl h_18 dX12_edit_125 ?_
        refine lv_bipush (v := 40) hx hb dX12_edit_126 (by decide) ?_
        refine lv_icmp_ne (tgt := 133) hx hb dX12_edit_128 (by decide) (fun c_19 => ?_) (fun c_19 => ?_)
        · replace hf := im c_19 hf
          exact k133 v0_taped g0_all H locs ls hf hP hD hS (lv_sub hl [1, 2] rfl)
        · replace hf := ip c_19 hf
          refine lv_iconst (v := -1) hx hb dX12_edit_131 (by decide) ?_
          have he := Option.some.inj hf
          rw [hQ]
          exact W.iret (v := (-1 : Int32)) hx hb hr (fun t ht hW => by rw [← he]; exact ⟨⟨(-1 : Int32), (), rfl, rfl, by rw [ht]; exact hP, hD⟩, hS.F ht⟩) hS.2.2 dX12_edit_132
  have k21 : ∀ K : Nat, ∀ (x2 : Int32) (x3 : Int32) (x4 : Int32) (v0_taped : Int32) (g0_all : Nat → Int32) (H : Heap) (locs : List Loc) (ls : Array Slot), fX12_edit_21 N g0_tape p1 K x2 x3 x4 v0_taped g0_all = some res → va_P D.1 vwCl [(a0, .inr (9, [.ref a0_all, .ref a0_tape, .ref a0_isImage, .int v0_taped, .int v0_faultKind, .int v0_faultPlace, .int v0_undos, .ref a0_turnWord, .ref a0_turnFrom, .int v0_turns, .ref a0_pieceSign, .ref a0_pieceFrom, .int v0_pieces, .int v0_signs, .ref a0_runFrom, .ref a0_runLong, .ref a0_runPiece, .int v0_runs, .ref a0_alike, .ref a0_stood])), (a0_all, .inl (D.2 1, 5228, .inl g0_all)), (a0_tape, .inl (D.2 1, 400, .inl g0_tape))] H → va_D A [(a0, .inr (9, [.ref a0_all, .ref a0_tape, .ref a0_isImage, .int v0_taped, .int v0_faultKind, .int v0_faultPlace, .int v0_undos, .ref a0_turnWord, .ref a0_turnFrom, .int v0_turns, .ref a0_pieceSign, .ref a0_pieceFrom, .int v0_pieces, .int v0_signs, .ref a0_runFrom, .ref a0_runLong, .ref a0_runPiece, .int v0_runs, .ref a0_alike, .ref a0_stood])), (a0_all, .inl (D.2 1, 5228, .inl g0_all)), (a0_tape, .inl (D.2 1, 400, .inl g0_tape))] → va_S A s.heap H locs → lv_has ls 6 [(0, .ref a0), (1, .int p1), (2, .int x2), (3, .int x3), (4, .int x4)] → W p l e (headSpec wsX12_edit ({ frames := 3, cells := 0, slots := 0, locals := 70 } : Room)).room s m ([.ref a0, .int p1] : List Value).toArray below meth c H locs 0 0 Q0 (F0 m 21 ls []) := by
    intro K
    induction K with
    | zero =>
      intro x2 x3 x4 v0_taped g0_all H locs ls hf
      rw [fX12_edit_21] at hf
      cases hf
    | succ K ih =>
      intro x2 x3 x4 v0_taped g0_all H locs ls hf hP hD hS hl
      rw [fX12_edit_21] at hf
      refine lv_iload hx hb dX12_edit_21 (lv_at hl 4 rfl) ?_
      refine lv_iload_n hx hb dX12_edit_23 rfl (lv_at hl 2 rfl) ?_
      refine lv_icmp_ge (tgt := 56) hx hb dX12_edit_24 (by decide) (fun c_3 => ?_) (fun c_3 => ?_)
      · replace hf := ip c_3 hf
        refine lv_iload_n hx hb dX12_edit_56 rfl (lv_at hl 3 rfl) ?_
        refine lv_if_eq (tgt := 73) hx hb dX12_edit_57 (by decide) (fun c_4 => ?_) (fun c_4 => ?_)
        · replace hf := ip c_4 hf
          refine lv_iconst (v := -1) hx hb dX12_edit_73 (by decide) ?_
          have he := Option.some.inj hf
          rw [hQ]
          exact W.iret (v := (-1 : Int32)) hx hb hr (fun t ht hW => by rw [← he]; exact ⟨⟨(-1 : Int32), (), rfl, rfl, by rw [ht]; exact hP, hD⟩, hS.F ht⟩) hS.2.2 dX12_edit_74
        · replace hf := im c_4 hf
          refine lv_aload_n hx hb dX12_edit_60 rfl (lv_at hl 0 rfl) ?_
          refine va_get (D := D.1) (ci := 9) (v := .ref a0_all) (C := RX12) (T := TX12) (N := 20) hx hb hts hwX12 hown hK.1 hP 0 rfl rfl 0 (by decide) l7 (fun _ h9 => h9) rfl dX12_edit_61 ?_
          refine lv_sipush (v := 321) hx hb dX12_edit_64 (by decide) ?_
          obtain ⟨h_5, hf⟩ := gd hf
          refine va_iald hx hb hK.1 hP 1 1 rfl rfl h_5 dX12_edit_67 ?_
          refine lv_bipush (v := 12) hx hb dX12_edit_68 (by decide) ?_
          refine lv_icmp_ne (tgt := 75) hx hb dX12_edit_70 (by decide) (fun c_6 => ?_) (fun c_6 => ?_)
          · replace hf := im c_6 hf
            refine lv_aload_n hx hb dX12_edit_75 rfl (lv_at hl 0 rfl) ?_
            refine lv_iconst (v := 0) hx hb dX12_edit_76 (by decide) ?_
            refine lv_iload_n hx hb dX12_edit_77 rfl (lv_at hl 2 rfl) ?_
            refine lv_sipush (v := 1085) hx hb dX12_edit_78 (by decide) ?_
            obtain ⟨r7, hr7, hf⟩ := bd hf
            refine zVv (As := [.int (0 : Int32), .int x2, .int (1085 : Int32)]) (rest := []) (ci := 9) (q0 := 0) (wn := [(a0, .inr (9, [.ref a0_all, .ref a0_tape, .ref a0_isImage, .int v0_taped, .int v0_faultKind, .int v0_faultPlace, .int v0_undos, .ref a0_turnWord, .ref a0_turnFrom, .int v0_turns, .ref a0_pieceSign, .ref a0_pieceFrom, .int v0_pieces, .int v0_signs, .ref a0_runFrom, .ref a0_runLong, .ref a0_runPiece, .int v0_runs, .ref a0_alike, .ref a0_stood])), (a0_all, .inl (D.2 1, 5228, .inl r7)), (a0_tape, .inl (D.2 1, 400, .inl g0_tape))]) ⟨hx, hb, hml, hown, hts⟩ (mX12_laysWord l D a0 a0_all a0_tape a0_isImage a0_turnWord a0_turnFrom a0_pieceSign a0_pieceFrom a0_runFrom a0_runLong a0_runPiece a0_alike a0_stood H.size v0_taped v0_faultKind v0_faultPlace v0_undos v0_turns v0_pieces v0_signs v0_runs g0_all g0_tape (0 : Int32) x2 (1085 : Int32) N r7 hr7) (cwV 3 hts gX12_edit_X12_laysWord rfl rfl rfl (by decide +kernel) ⟨Nat.le_of_ble_eq_true rfl, Nat.le_of_ble_eq_true rfl⟩) hK hP hD hS hA [0, 1, 2] [] [0, 1, 2] rfl (by decide) rfl (by decide) (by decide) rfl (by decide) rfl rfl rfl hl.1 rfl (Nat.le_of_ble_eq_true rfl) dX12_edit_81 ⟨Nat.zero_le _, Nat.zero_le _⟩ (fun H locs hP hD hS => ?_)
            refine lv_aload_n hx hb dX12_edit_84 rfl (lv_at hl 0 rfl) ?_
            obtain ⟨r8, hr8, hf⟩ := bd hf
            refine zVv (As := []) (rest := []) (ci := 9) (q0 := 0) (wn := [(a0, .inr (9, [.ref a0_all, .ref a0_tape, .ref a0_isImage, .int v0_taped, .int v0_faultKind, .int v0_faultPlace, .int v0_undos, .ref a0_turnWord, .ref a0_turnFrom, .int v0_turns, .ref a0_pieceSign, .ref a0_pieceFrom, .int v0_pieces, .int v0_signs, .ref a0_runFrom, .ref a0_runLong, .ref a0_runPiece, .int v0_runs, .ref a0_alike, .ref a0_stood])), (a0_all, .inl (D.2 1, 5228, .inl r8)), (a0_tape, .inl (D.2 1, 400, .inl g0_tape))]) ⟨hx, hb, hml, hown, hts⟩ (mX12_laysComing l D a0 a0_all a0_tape a0_isImage a0_turnWord a0_turnFrom a0_pieceSign a0_pieceFrom a0_runFrom a0_runLong a0_runPiece a0_alike a0_stood H.size v0_taped v0_faultKind v0_faultPlace v0_undos v0_turns v0_pieces v0_signs v0_runs r7 N r8 hr8) (cwV 0 hts gX12_edit_X12_laysComing rfl rfl rfl (by decide +kernel) ⟨Nat.le_of_ble_eq_true rfl, Nat.le_of_ble_eq_true rfl⟩) hK hP hD hS hA [0, 1] [2] [1, 2, 0] rfl (by decide) rfl (by decide) (by decide) rfl (by decide) rfl rfl rfl hl.1 rfl (Nat.le_of_ble_eq_true rfl) dX12_edit_85 ⟨Nat.zero_le _, Nat.zero_le _⟩ (fun H locs hP hD hS => ?_)
            refine lv_aload_n hx hb dX12_edit_88 rfl (lv_at hl 0 rfl) ?_
            refine lv_sipush (v := 443) hx hb dX12_edit_89 (by decide) ?_
            refine lv_sipush (v := 1085) hx hb dX12_edit_92 (by decide) ?_
            obtain ⟨r9, hr9, hf⟩ := bd hf
            refine zVi (As := [.int (443 : Int32), .int (1085 : Int32)]) (rest := []) (ci := 9) (q0 := 0) (wn := [(a0, .inr (9, [.ref a0_all, .ref a0_tape, .ref a0_isImage, .int v0_taped, .int v0_faultKind, .int v0_faultPlace, .int v0_undos, .ref a0_turnWord, .ref a0_turnFrom, .int v0_turns, .ref a0_pieceSign, .ref a0_pieceFrom, .int v0_pieces, .int v0_signs, .ref a0_runFrom, .ref a0_runLong, .ref a0_runPiece, .int v0_runs, .ref a0_alike, .ref a0_stood])), (a0_all, .inl (D.2 1, 5228, .inl r8)), (a0_tape, .inl (D.2 1, 400, .inl g0_tape))]) ⟨hx, hb, hml, hown, hts⟩ (mX12_numberOf l D a0 a0_all a0_tape a0_isImage a0_turnWord a0_turnFrom a0_pieceSign a0_pieceFrom a0_runFrom a0_runLong a0_runPiece a0_alike a0_stood H.size v0_taped v0_faultKind v0_faultPlace v0_undos v0_turns v0_pieces v0_signs v0_runs r8 (443 : Int32) (1085 : Int32) N r9 hr9) (cwV 2 hts gX12_edit_X12_numberOf rfl rfl rfl (by decide +kernel) ⟨Nat.le_of_ble_eq_true rfl, Nat.le_of_ble_eq_true rfl⟩) hK hP hD hS hA [0, 1] [2] [1, 2, 0] rfl (by decide) rfl (by decide) (by decide) rfl (by decide) rfl rfl rfl hl.1 rfl (Nat.le_of_ble_eq_true rfl) dX12_edit_95 ⟨Nat.zero_le _, Nat.zero_le _⟩ (fun H locs hP hD hS => ?_)
            refine lv_if_lt (tgt := 105) hx hb dX12_edit_98 (by decide) (fun c_10 => ?_) (fun c_10 => ?_)
            · replace hf := ip c_10 hf
              refine lv_iconst (v := 0) hx hb dX12_edit_105 (by decide) ?_
              exact k106 (0 : Int32) v0_taped r8 H locs ls hf hP hD hS (lv_sub hl [0, 1] rfl)
            · replace hf := im c_10 hf
              refine lv_iconst (v := 1) hx hb dX12_edit_101 (by decide) ?_
              refine lv_goto (tgt := 106) hx hb dX12_edit_102 (by decide) ?_
              exact k106 (1 : Int32) v0_taped r8 H locs ls hf hP hD hS (lv_sub hl [0, 1] rfl)
          · replace hf := ip c_6 hf
            refine lv_iconst (v := -1) hx hb dX12_edit_73 (by decide) ?_
            have he := Option.some.inj hf
            rw [hQ]
            exact W.iret (v := (-1 : Int32)) hx hb hr (fun t ht hW => by rw [← he]; exact ⟨⟨(-1 : Int32), (), rfl, rfl, by rw [ht]; exact hP, hD⟩, hS.F ht⟩) hS.2.2 dX12_edit_74
      · replace hf := im c_3 hf
        refine lv_iload_n hx hb dX12_edit_27 rfl (lv_at hl 3 rfl) ?_
        refine lv_if_eq (tgt := 48) hx hb dX12_edit_28 (by decide) (fun c_11 => ?_) (fun c_11 => ?_)
        · replace hf := ip c_11 hf
          refine lv_iconst (v := 0) hx hb dX12_edit_48 (by decide) ?_
          refine lv_istore_n (lv' := [(3, .int (0 : Int32)), (0, .ref a0), (1, .int p1), (2, .int x2), (4, .int x4)]) hx hb dX12_edit_49 rfl hl (by decide) rfl (fun ls hl => ?_)
          refine lv_iinc (v := (x4 + (1 : Int32))) (lv' := [(4, .int (x4 + (1 : Int32))), (3, .int (0 : Int32)), (0, .ref a0), (1, .int p1), (2, .int x2)]) hx hb dX12_edit_50 hl (k := 4) rfl rfl (by decide) rfl (fun ls hl => ?_)
          refine lv_goto (tgt := 21) hx hb dX12_edit_53 (by decide) ?_
          exact ih x2 (0 : Int32) (x4 + (1 : Int32)) v0_taped g0_all H locs ls hf hP hD hS (lv_sub hl [2, 3, 4, 1, 0] rfl)
        · replace hf := im c_11 hf
          refine lv_aload_n hx hb dX12_edit_31 rfl (lv_at hl 0 rfl) ?_
          refine va_get (D := D.1) (ci := 9) (v := .ref a0_tape) (C := RX12) (T := TX12) (N := 20) hx hb hts hwX12 hown hK.1 hP 0 rfl rfl 1 (by decide) l13 (fun _ h9 => h9) rfl dX12_edit_32 ?_
          refine lv_iload hx hb dX12_edit_35 (lv_at hl 4 rfl) ?_
          obtain ⟨h_12, hf⟩ := gd hf
          refine va_iald hx hb hK.1 hP 2 1 rfl rfl h_12 dX12_edit_37 ?_
          obtain ⟨r13, hr13, hf⟩ := bd hf
          refine zSz (As := [.int (g0_tape (x4).toNatClampNeg)]) (rest := []) (wn := [(a0, .inr (9, [.ref a0_all, .ref a0_tape, .ref a0_isImage, .int v0_taped, .int v0_faultKind, .int v0_faultPlace, .int v0_undos, .ref a0_turnWord, .ref a0_turnFrom, .int v0_turns, .ref a0_pieceSign, .ref a0_pieceFrom, .int v0_pieces, .int v0_signs, .ref a0_runFrom, .ref a0_runLong, .ref a0_runPiece, .int v0_runs, .ref a0_alike, .ref a0_stood])), (a0_all, .inl (D.2 1, 5228, .inl g0_all)), (a0_tape, .inl (D.2 1, 400, .inl g0_tape))]) ⟨hx, hb, hml, hown, hts⟩ (mX12_isLetter l D H.size (g0_tape (x4).toNatClampNeg) r13 hr13) (va_cwS 1 hts gX12_edit_X12_isLetter rfl rfl rfl (by decide +kernel) ⟨Nat.le_of_ble_eq_true rfl, Nat.le_of_ble_eq_true rfl⟩) hK hP hD hS hA [] [0, 1, 2] [0, 1, 2] rfl (by decide) rfl (by decide) (by decide) rfl (by decide) rfl hl.1 rfl (Nat.le_of_ble_eq_true rfl) dX12_edit_38 ⟨Nat.zero_le _, Nat.zero_le _⟩ (fun H locs hb_14 hP hD hS => ?_)
          refine lv_if_eq (tgt := 48) hx hb dX12_edit_41 (by decide) (fun c_15 => ?_) (fun c_15 => ?_)
          · replace hf := ip c_15 hf
            refine lv_iconst (v := 0) hx hb dX12_edit_48 (by decide) ?_
            refine lv_istore_n (lv' := [(3, .int (0 : Int32)), (0, .ref a0), (1, .int p1), (2, .int x2), (4, .int x4)]) hx hb dX12_edit_49 rfl hl (by decide) rfl (fun ls hl => ?_)
            refine lv_iinc (v := (x4 + (1 : Int32))) (lv' := [(4, .int (x4 + (1 : Int32))), (3, .int (0 : Int32)), (0, .ref a0), (1, .int p1), (2, .int x2)]) hx hb dX12_edit_50 hl (k := 4) rfl rfl (by decide) rfl (fun ls hl => ?_)
            refine lv_goto (tgt := 21) hx hb dX12_edit_53 (by decide) ?_
            exact ih x2 (0 : Int32) (x4 + (1 : Int32)) v0_taped g0_all H locs ls hf hP hD hS (lv_sub hl [2, 3, 4, 1, 0] rfl)
          · replace hf := im c_15 hf
            refine lv_iconst (v := 1) hx hb dX12_edit_44 (by decide) ?_
            refine lv_goto (tgt := 49) hx hb dX12_edit_45 (by decide) ?_
            refine lv_istore_n (lv' := [(3, .int (1 : Int32)), (0, .ref a0), (1, .int p1), (2, .int x2), (4, .int x4)]) hx hb dX12_edit_49 rfl hl (by decide) rfl (fun ls hl => ?_)
            refine lv_iinc (v := (x4 + (1 : Int32))) (lv' := [(4, .int (x4 + (1 : Int32))), (3, .int (1 : Int32)), (0, .ref a0), (1, .int p1), (2, .int x2)]) hx hb dX12_edit_50 hl (k := 4) rfl rfl (by decide) rfl (fun ls hl => ?_)
            refine lv_goto (tgt := 21) hx hb dX12_edit_53 (by decide) ?_
            exact ih x2 (1 : Int32) (x4 + (1 : Int32)) v0_taped g0_all H locs ls hf hP hD hS (lv_sub hl [2, 3, 4, 1, 0] rfl)
  unfold fX12_edit at hf
  refine lv_aload_n hx hb dX12_edit_0 rfl (lv_at hl 0 rfl) ?_
  refine va_get (D := D.1) (ci := 9) (v := .int v0_taped) (C := RX12) (T := TX12) (N := 20) hx hb hts hwX12 hown hK.1 hP 0 rfl rfl 3 (by decide) l180 (fun _ h9 => h9) rfl dX12_edit_1 ?_
  refine lv_istore_n (lv' := [(2, .int v0_taped), (0, .ref a0), (1, .int p1)]) hx hb dX12_edit_4 rfl hl (by decide) rfl (fun ls hl => ?_)
  refine lv_aload_n hx hb dX12_edit_5 rfl (lv_at hl 1 rfl) ?_
  refine lv_iconst (v := 0) hx hb dX12_edit_6 (by decide) ?_
  refine va_put (D := D.1) (ci := 9) (v := .int (0 : Int32)) (ty := .int) (C := RX12) (T := TX12) (N := 20) hx hb hts hwX12 tyX12 tyX12_ok nmX12 hown hK.1 hP hD hS 0 rfl rfl 3 (by decide) l180 (fun _ h9 => h9) rfl (by decide +kernel) rfl rfl (Nat.le_of_ble_eq_true rfl) dX12_edit_7 (fun H locs hP hD hS => ?_)
  have hP : va_P D.1 vwCl [(a0, .inr (9, [.ref a0_all, .ref a0_tape, .ref a0_isImage, .int (0 : Int32), .int v0_faultKind, .int v0_faultPlace, .int v0_undos, .ref a0_turnWord, .ref a0_turnFrom, .int v0_turns, .ref a0_pieceSign, .ref a0_pieceFrom, .int v0_pieces, .int v0_signs, .ref a0_runFrom, .ref a0_runLong, .ref a0_runPiece, .int v0_runs, .ref a0_alike, .ref a0_stood])), (a0_all, .inl (D.2 1, 5228, .inl g0_all)), (a0_tape, .inl (D.2 1, 400, .inl g0_tape))] H := hP
  have hD : va_D A [(a0, .inr (9, [.ref a0_all, .ref a0_tape, .ref a0_isImage, .int (0 : Int32), .int v0_faultKind, .int v0_faultPlace, .int v0_undos, .ref a0_turnWord, .ref a0_turnFrom, .int v0_turns, .ref a0_pieceSign, .ref a0_pieceFrom, .int v0_pieces, .int v0_signs, .ref a0_runFrom, .ref a0_runLong, .ref a0_runPiece, .int v0_runs, .ref a0_alike, .ref a0_stood])), (a0_all, .inl (D.2 1, 5228, .inl g0_all)), (a0_tape, .inl (D.2 1, 400, .inl g0_tape))] := hD
  refine lv_iload_n hx hb dX12_edit_10 rfl (lv_at hl 0 rfl) ?_
  refine lv_iconst (v := 1) hx hb dX12_edit_11 (by decide) ?_
  refine lv_bipush (v := 7) hx hb dX12_edit_12 (by decide) ?_
  obtain ⟨r1, hr1, hf⟩ := bd hf
  refine zSz (As := [.int v0_taped, .int (1 : Int32), .int (7 : Int32)]) (rest := []) (wn := [(a0, .inr (9, [.ref a0_all, .ref a0_tape, .ref a0_isImage, .int (0 : Int32), .int v0_faultKind, .int v0_faultPlace, .int v0_undos, .ref a0_turnWord, .ref a0_turnFrom, .int v0_turns, .ref a0_pieceSign, .ref a0_pieceFrom, .int v0_pieces, .int v0_signs, .ref a0_runFrom, .ref a0_runLong, .ref a0_runPiece, .int v0_runs, .ref a0_alike, .ref a0_stood])), (a0_all, .inl (D.2 1, 5228, .inl g0_all)), (a0_tape, .inl (D.2 1, 400, .inl g0_tape))]) ⟨hx, hb, hml, hown, hts⟩ (mX12_isIn l D H.size v0_taped (1 : Int32) (7 : Int32) r1 hr1) (va_cwS 3 hts gX12_edit_X12_isIn rfl rfl rfl (by decide +kernel) ⟨Nat.le_of_ble_eq_true rfl, Nat.le_of_ble_eq_true rfl⟩) hK hP hD hS hA [] [0, 1, 2] [0, 1, 2] rfl (by decide) rfl (by decide) (by decide) rfl (by decide) rfl hl.1 rfl (Nat.le_of_ble_eq_true rfl) dX12_edit_14 ⟨Nat.zero_le _, Nat.zero_le _⟩ (fun H locs hb_2 hP hD hS => ?_)
  refine lv_istore_n (lv' := [(3, .int r1), (2, .int v0_taped), (0, .ref a0), (1, .int p1)]) hx hb dX12_edit_17 rfl hl (by decide) rfl (fun ls hl => ?_)
  refine lv_iconst (v := 0) hx hb dX12_edit_18 (by decide) ?_
  refine lv_istore (lv' := [(4, .int (0 : Int32)), (3, .int r1), (2, .int v0_taped), (0, .ref a0), (1, .int p1)]) hx hb dX12_edit_19 hl (by decide) rfl (fun ls hl => ?_)
  exact k21 N v0_taped r1 (0 : Int32) (0 : Int32) g0_all H locs ls hf hP hD hS (lv_sub hl [3, 4, 2, 1, 0] rfl)
