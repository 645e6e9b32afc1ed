def fX12_isAlone_95 (N : Nat) (v0_turns : Int32) (g0_all : Nat → Int32) (g0_turnWord : Nat → Int32) (g0_turnFrom : Nat → Int32) (p1 : Int32) (p2 : Int32) (p3 : Int32) (rec3 : Int32 → Option (Int32)) (x4 : Int32) (x5 : Int32) : Option (Int32) :=
  if x5 = (0 : Int32) then
    rec3 (x4 + (1 : Int32))
  else
    some ((0 : Int32))
def fX12_isAlone_32 (N : Nat) (v0_turns : Int32) (g0_all : Nat → Int32) (g0_turnWord : Nat → Int32) (g0_turnFrom : Nat → Int32) (p1 : Int32) (p2 : Int32) (p3 : Int32) (rec3 : Int32 → Option (Int32)) : Nat → Int32 → Int32 → Int32 → Option (Int32)
  | 0, _, _, _ => none
  | K + 1, x4, x5, x6 =>
    if p3 ≤ x6 then
      fX12_isAlone_95 N v0_turns g0_all g0_turnWord g0_turnFrom p1 p2 p3 rec3 x4 x5
    else
      if x5 = (0 : Int32) then
        fX12_isAlone_95 N v0_turns g0_all g0_turnWord g0_turnFrom p1 p2 p3 rec3 x4 x5
      else
        Option.bind (fX12_wordAt (0 : Int32) p1) fun r6 =>
        Option.bind (fX12_signAt g0_all r6 p2 x6) fun r7 =>
        if x4 < 0 ∨ 320 ≤ (x4).toNatClampNeg then none else
        Option.bind (fX12_wordAt (0 : Int32) (g0_turnWord (x4).toNatClampNeg)) fun r9 =>
        if x4 < 0 ∨ 320 ≤ (x4).toNatClampNeg then none else
        Option.bind (fX12_signAt g0_all r9 (g0_turnFrom (x4).toNatClampNeg) x6) fun r11 =>
        if r7 = r11 then
          (fX12_isAlone_32 N v0_turns g0_all g0_turnWord g0_turnFrom p1 p2 p3 rec3 K) x4 (1 : Int32) (x6 + (1 : Int32))
        else
          (fX12_isAlone_32 N v0_turns g0_all g0_turnWord g0_turnFrom p1 p2 p3 rec3 K) x4 (0 : Int32) (x6 + (1 : Int32))
def fX12_isAlone_3 (N : Nat) (v0_turns : Int32) (g0_all : Nat → Int32) (g0_turnWord : Nat → Int32) (g0_turnFrom : Nat → Int32) (p1 : Int32) (p2 : Int32) (p3 : Int32) : Nat → Int32 → Option (Int32)
  | 0, _ => none
  | K + 1, x4 =>
    if v0_turns ≤ x4 then
      some ((1 : Int32))
    else
      if x4 < 0 ∨ 320 ≤ (x4).toNatClampNeg then none else
      if (g0_turnWord (x4).toNatClampNeg) = p1 then
        (fX12_isAlone_3 N v0_turns g0_all g0_turnWord g0_turnFrom p1 p2 p3 K) (x4 + (1 : Int32))
      else
        fX12_isAlone_32 N v0_turns g0_all g0_turnWord g0_turnFrom p1 p2 p3 (fX12_isAlone_3 N v0_turns g0_all g0_turnWord g0_turnFrom p1 p2 p3 K) N x4 (1 : Int32) (0 : Int32)
def fX12_isAlone (N : Nat) (v0_turns : Int32) (g0_all : Nat → Int32) (g0_turnWord : Nat → Int32) (g0_turnFrom : Nat → Int32) (p1 : Int32) (p2 : Int32) (p3 : Int32) : Option (Int32) :=
  fX12_isAlone_3 N v0_turns g0_all g0_turnWord g0_turnFrom p1 p2 p3 N (0 : Int32)
set_option maxHeartbeats 4000000 in
set_option maxRecDepth 100000 in
theorem mX12_isAlone (l : Launch) (D : zG) (a0 : Nat) (a0_all : Nat) (a0_tape : Nat) (a0_isImage : Nat) (a0_turnWord : Nat) (a0_turnFrom : Nat) (a0_pieceSign : Nat) (a0_pieceFrom : Nat) (a0_runFrom : Nat) (a0_runLong : Nat) (a0_runPiece : Nat) (a0_alike : Nat) (a0_stood : Nat) (sz : Nat)  (v0_taped : Int32) (v0_faultKind : Int32) (v0_faultPlace : Int32) (v0_undos : Int32) (v0_turns : Int32) (v0_pieces : Int32) (v0_signs : Int32) (v0_runs : Int32) (g0_all : Nat → Int32) (g0_turnWord : Nat → Int32) (g0_turnFrom : Nat → Int32) (p1 : Int32) (p2 : Int32) (p3 : Int32) (N : Nat) (res : Int32) (hf : fX12_isAlone N v0_turns g0_all g0_turnWord g0_turnFrom p1 p2 p3 = some res) : Met l yX12_isAlone wsX12_isAlone ({ frames := 1, cells := 0, slots := 0, locals := 24 } : Room) (va_Pc [.ref a0, .int p1, .int p2, .int p3] (zW D sz [(a0, .inr (9, [.ref a0_all, .ref a0_tape, .ref a0_isImage, .int v0_taped, .int v0_faultKind, .int v0_faultPlace, .int v0_undos, .ref a0_turnWord, .ref a0_turnFrom, .int v0_turns, .ref a0_pieceSign, .ref a0_pieceFrom, .int v0_pieces, .int v0_signs, .ref a0_runFrom, .ref a0_runLong, .ref a0_runPiece, .int v0_runs, .ref a0_alike, .ref a0_stood])), (a0_all, .inl (D.2 1, 5228, .inl g0_all)), (a0_turnWord, .inl (D.2 1, 320, .inl g0_turnWord)), (a0_turnFrom, .inl (D.2 1, 320, .inl g0_turnFrom))])) (va_Qi (fun r (_ : Unit) => r = res ∧ (r = 0 ∨ r = 1)) (fun _ => zB D (va_A [(a0, .inr (9, [.ref a0_all, .ref a0_tape, .ref a0_isImage, .int v0_taped, .int v0_faultKind, .int v0_faultPlace, .int v0_undos, .ref a0_turnWord, .ref a0_turnFrom, .int v0_turns, .ref a0_pieceSign, .ref a0_pieceFrom, .int v0_pieces, .int v0_signs, .ref a0_runFrom, .ref a0_runLong, .ref a0_runPiece, .int v0_runs, .ref a0_alike, .ref a0_stood])), (a0_all, .inl (D.2 1, 5228, .inl g0_all)), (a0_turnWord, .inl (D.2 1, 320, .inl g0_turnWord)), (a0_turnFrom, .inl (D.2 1, 320, .inl g0_turnFrom))] sz) [(a0, .inr (9, [.ref a0_all, .ref a0_tape, .ref a0_isImage, .int v0_taped, .int v0_faultKind, .int v0_faultPlace, .int v0_undos, .ref a0_turnWord, .ref a0_turnFrom, .int v0_turns, .ref a0_pieceSign, .ref a0_pieceFrom, .int v0_pieces, .int v0_signs, .ref a0_runFrom, .ref a0_runLong, .ref a0_runPiece, .int v0_runs, .ref a0_alike, .ref a0_stood])), (a0_all, .inl (D.2 1, 5228, .inl g0_all)), (a0_turnWord, .inl (D.2 1, 320, .inl g0_turnWord)), (a0_turnFrom, .inl (D.2 1, 320, .inl g0_turnFrom))]) (va_A [(a0, .inr (9, [.ref a0_all, .ref a0_tape, .ref a0_isImage, .int v0_taped, .int v0_faultKind, .int v0_faultPlace, .int v0_undos, .ref a0_turnWord, .ref a0_turnFrom, .int v0_turns, .ref a0_pieceSign, .ref a0_pieceFrom, .int v0_pieces, .int v0_signs, .ref a0_runFrom, .ref a0_runLong, .ref a0_runPiece, .int v0_runs, .ref a0_alike, .ref a0_stood])), (a0_all, .inl (D.2 1, 5228, .inl g0_all)), (a0_turnWord, .inl (D.2 1, 320, .inl g0_turnWord)), (a0_turnFrom, .inl (D.2 1, 320, .inl g0_turnFrom))] sz)) 0 0 (va_A [(a0, .inr (9, [.ref a0_all, .ref a0_tape, .ref a0_isImage, .int v0_taped, .int v0_faultKind, .int v0_faultPlace, .int v0_undos, .ref a0_turnWord, .ref a0_turnFrom, .int v0_turns, .ref a0_pieceSign, .ref a0_pieceFrom, .int v0_pieces, .int v0_signs, .ref a0_runFrom, .ref a0_runLong, .ref a0_runPiece, .int v0_runs, .ref a0_alike, .ref a0_stood])), (a0_all, .inl (D.2 1, 5228, .inl g0_all)), (a0_turnWord, .inl (D.2 1, 320, .inl g0_turnWord)), (a0_turnFrom, .inl (D.2 1, 320, .inl g0_turnFrom))] sz) := by
  refine Met.ofW (cc := cX12_isAlone) (maxL := 7) (ret := (some .boolean)) (by decide) rfl ?_
  intro p e s m args below meth c s₁ B hml hv
  obtain ⟨rfl, hsz, hP, hK, hD0⟩ := hv
  have hx := B.exec
  have hb := B.bytes
  have hr := B.returns
  have hts := atoms_spec (ws := wsX12_isAlone) B.pre
  have hown : s.vm.findClass RX12 = some m.cls := findClass_of_methodNamed B.named
  have hlocks := B.notSynchronized
  subst hsz
  have hD := hD0.self (sz := s.heap.size)
  generalize hAe : va_A [(a0, .inr (9, [.ref a0_all, .ref a0_tape, .ref a0_isImage, .int v0_taped, .int v0_faultKind, .int v0_faultPlace, .int v0_undos, .ref a0_turnWord, .ref a0_turnFrom, .int v0_turns, .ref a0_pieceSign, .ref a0_pieceFrom, .int v0_pieces, .int v0_signs, .ref a0_runFrom, .ref a0_runLong, .ref a0_runPiece, .int v0_runs, .ref a0_alike, .ref a0_stood])), (a0_all, .inl (D.2 1, 5228, .inl g0_all)), (a0_turnWord, .inl (D.2 1, 320, .inl g0_turnWord)), (a0_turnFrom, .inl (D.2 1, 320, .inl g0_turnFrom))] s.heap.size = A at hD ⊢
  have hA : ∀ q : Nat, s.heap.size ≤ q → A q := fun q h => by rw [← hAe]; exact Or.inr h
  have l87 := zat hts 1 (w := .fieldLink RX12 87 "TurnedWordsModel" "turns" "I") rfl
  have l24 := zat hts 2 (w := .fieldLink RX12 24 "TurnedWordsModel" "turnWord" "[I") rfl
  have l27 := zat hts 3 (w := .fieldLink RX12 27 "TurnedWordsModel" "turnFrom" "[I") rfl
  have hwX12 : ∀ w ∈ u_ws RX12 TX12 20, w ∈ wsX12_isAlone := fun w h => List.mem_cons_of_mem _ (List.mem_append_right _ h)
  have hl := lv_entry ([.ref a0, .int p1, .int p2, .int p3]) (n := 7) (Nat.le_of_ble_eq_true rfl)
  rw [lg_entry_eq]
  generalize (lg_sl ([.ref a0, .int p1, .int p2, .int p3]) ++ List.replicate (7 - (lg_sl ([.ref a0, .int p1, .int p2, .int p3])).length) Slot.unset).toArray = ls at hl ⊢
  have hl : lv_has ls 7 [(0, .ref a0), (1, .int p1), (2, .int p2), (3, .int p3)] := hl
  refine zStart (A := A) hP (fun Q0 H locs hQ hP hS => ?_)
  have k95 : ∀ (rec3 : Int32 → Option (Int32)), (∀ (x4 : Int32) (H : Heap) (locs : List Loc) (ls : Array Slot), rec3 x4 = some res → va_P D.1 vwCl [(a0, .inr (9, [.ref a0_all, .ref a0_tape, .ref a0_isImage, .int v0_taped, .int v0_faultKind, .int v0_faultPlace, .int v0_undos, .ref a0_turnWord, .ref a0_turnFrom, .int v0_turns, .ref a0_pieceSign, .ref a0_pieceFrom, .int v0_pieces, .int v0_signs, .ref a0_runFrom, .ref a0_runLong, .ref a0_runPiece, .int v0_runs, .ref a0_alike, .ref a0_stood])), (a0_all, .inl (D.2 1, 5228, .inl g0_all)), (a0_turnWord, .inl (D.2 1, 320, .inl g0_turnWord)), (a0_turnFrom, .inl (D.2 1, 320, .inl g0_turnFrom))] H → va_D A [(a0, .inr (9, [.ref a0_all, .ref a0_tape, .ref a0_isImage, .int v0_taped, .int v0_faultKind, .int v0_faultPlace, .int v0_undos, .ref a0_turnWord, .ref a0_turnFrom, .int v0_turns, .ref a0_pieceSign, .ref a0_pieceFrom, .int v0_pieces, .int v0_signs, .ref a0_runFrom, .ref a0_runLong, .ref a0_runPiece, .int v0_runs, .ref a0_alike, .ref a0_stood])), (a0_all, .inl (D.2 1, 5228, .inl g0_all)), (a0_turnWord, .inl (D.2 1, 320, .inl g0_turnWord)), (a0_turnFrom, .inl (D.2 1, 320, .inl g0_turnFrom))] → va_S A s.heap H locs → lv_has ls 7 [(0, .ref a0), (1, .int p1), (2, .int p2), (3, .int p3), (4, .int x4)] → W p l e (headSpec wsX12_isAlone ({ frames := 1, cells := 0, slots := 0, locals := 24 } : Room)).room s m ([.ref a0, .int p1, .int p2, .int p3] : List Value).toArray below meth c H locs 0 0 Q0 (F0 m 3 ls [])) → ∀ (x4 : Int32) (x5 : Int32) (H : Heap) (locs : List Loc) (ls : Array Slot), fX12_isAlone_95 N v0_turns g0_all g0_turnWord g0_turnFrom p1 p2 p3 rec3 x4 x5 = some res → va_P D.1 vwCl [(a0, .inr (9, [.ref a0_all, .ref a0_tape, .ref a0_isImage, .int v0_taped, .int v0_faultKind, .int v0_faultPlace, .int v0_undos, .ref a0_turnWord, .ref a0_turnFrom, .int v0_turns, .ref a0_pieceSign, .ref a0_pieceFrom, .int v0_pieces, .int v0_signs, .ref a0_runFrom, .ref a0_runLong, .ref a0_runPiece, .int v0_runs, .ref a0_alike, .ref a0_stood])), (a0_all, .inl (D.2 1, 5228, .inl g0_all)), (a0_turnWord, .inl (D.2 1, 320, .inl g0_turnWord)), (a0_turnFrom, .inl (D.2 1, 320, .inl g0_turnFrom))] H → va_D A [(a0, .inr (9, [.ref a0_all, .ref a0_tape, .ref a0_isImage, .int v0_taped, .int v0_faultKind, .int v0_faultPlace, .int v0_undos, .ref a0_turnWord, .ref a0_turnFrom, .int v0_turns, .ref a0_pieceSign, .ref a0_pieceFrom, .int v0_pieces, .int v0_signs, .ref a0_runFrom, .ref a0_runLong, .ref a0_runPiece, .int v0_runs, .ref a0_alike, .ref a0_stood])), (a0_all, .inl (D.2 1, 5228, .inl g0_all)), (a0_turnWord, .inl (D.2 1, 320, .inl g0_turnWord)), (a0_turnFrom, .inl (D.2 1, 320, .inl g0_turnFrom))] → va_S A s.heap H locs → lv_has ls 7 [(0, .ref a0), (1, .int p1), (2, .int p2), (3, .int p3), (4, .int x4), (5, .int x5)] → W p l e (headSpec wsX12_isAlone ({ frames := 1, cells := 0, slots := 0, locals := 24 } : Room)).room s m ([.ref a0, .int p1, .int p2, .int p3] : List Value).toArray below meth c H locs 0 0 Q0 (F0 m 95 ls []) := by
    intro rec3 hrec3 x4 x5 H locs ls hf hP hD hS hl
    unfold fX12_isAlone_95 at hf
    refine lv_iload hx hb dX12_isAlone_95 (lv_at hl 5 rfl) ?_
    refine lv_if_eq (tgt := 102) hx hb dX12_isAlone_97 (by decide) (fun c_13 => ?_) (fun c_13 => ?_)
    · replace hf := ip c_13 hf
      refine lv_iinc (v := (x4 + (1 : Int32))) (lv' := [(4, .int (x4 + (1 : Int32))), (0, .ref a0), (1, .int p1), (2, .int p2), (3, .int p3), (5, .int x5)]) hx hb dX12_isAlone_102 hl (k := 4) rfl rfl (by decide) rfl (fun ls hl => ?_)
      refine lv_goto (tgt := 3) hx hb dX12_isAlone_105 (by decide) ?_
      exact hrec3 (x4 + (1 : Int32)) H locs ls hf hP hD hS (lv_sub hl [1, 2, 3, 4, 0] rfl)
    · replace hf := im c_13 hf
      refine lv_iconst (v := 0) hx hb dX12_isAlone_100 (by decide) ?_
      have he := Option.some.inj hf
      rw [hQ]
      exact W.zret (v := (0 : Int32)) hx hb hr (znb (Or.inl rfl)) (fun t ht hW => by rw [← he]; exact ⟨⟨(0 : Int32), (), rfl, ⟨rfl, Or.inl rfl⟩, by rw [ht]; exact hP, hD⟩, hS.F ht⟩) hS.2.2 dX12_isAlone_101
  have k32 : ∀ (rec3 : Int32 → Option (Int32)), (∀ (x4 : Int32) (H : Heap) (locs : List Loc) (ls : Array Slot), rec3 x4 = some res → va_P D.1 vwCl [(a0, .inr (9, [.ref a0_all, .ref a0_tape, .ref a0_isImage, .int v0_taped, .int v0_faultKind, .int v0_faultPlace, .int v0_undos, .ref a0_turnWord, .ref a0_turnFrom, .int v0_turns, .ref a0_pieceSign, .ref a0_pieceFrom, .int v0_pieces, .int v0_signs, .ref a0_runFrom, .ref a0_runLong, .ref a0_runPiece, .int v0_runs, .ref a0_alike, .ref a0_stood])), (a0_all, .inl (D.2 1, 5228, .inl g0_all)), (a0_turnWord, .inl (D.2 1, 320, .inl g0_turnWord)), (a0_turnFrom, .inl (D.2 1, 320, .inl g0_turnFrom))] H → va_D A [(a0, .inr (9, [.ref a0_all, .ref a0_tape, .ref a0_isImage, .int v0_taped, .int v0_faultKind, .int v0_faultPlace, .int v0_undos, .ref a0_turnWord, .ref a0_turnFrom, .int v0_turns, .ref a0_pieceSign, .ref a0_pieceFrom, .int v0_pieces, .int v0_signs, .ref a0_runFrom, .ref a0_runLong, .ref a0_runPiece, .int v0_runs, .ref a0_alike, .ref a0_stood])), (a0_all, .inl (D.2 1, 5228, .inl g0_all)), (a0_turnWord, .inl (D.2 1, 320, .inl g0_turnWord)), (a0_turnFrom, .inl (D.2 1, 320, .inl g0_turnFrom))] → va_S A s.heap H locs → lv_has ls 7 [(0, .ref a0), (1, .int p1), (2, .int p2), (3, .int p3), (4, .int x4)] → W p l e (headSpec wsX12_isAlone ({ frames := 1, cells := 0, slots := 0, locals := 24 } : Room)).room s m ([.ref a0, .int p1, .int p2, .int p3] : List Value).toArray below meth c H locs 0 0 Q0 (F0 m 3 ls [])) → ∀ K : Nat, ∀ (x4 : Int32) (x5 : Int32) (x6 : Int32) (H : Heap) (locs : List Loc) (ls : Array Slot), fX12_isAlone_32 N v0_turns g0_all g0_turnWord g0_turnFrom p1 p2 p3 rec3 K x4 x5 x6 = some res → va_P D.1 vwCl [(a0, .inr (9, [.ref a0_all, .ref a0_tape, .ref a0_isImage, .int v0_taped, .int v0_faultKind, .int v0_faultPlace, .int v0_undos, .ref a0_turnWord, .ref a0_turnFrom, .int v0_turns, .ref a0_pieceSign, .ref a0_pieceFrom, .int v0_pieces, .int v0_signs, .ref a0_runFrom, .ref a0_runLong, .ref a0_runPiece, .int v0_runs, .ref a0_alike, .ref a0_stood])), (a0_all, .inl (D.2 1, 5228, .inl g0_all)), (a0_turnWord, .inl (D.2 1, 320, .inl g0_turnWord)), (a0_turnFrom, .inl (D.2 1, 320, .inl g0_turnFrom))] H → va_D A [(a0, .inr (9, [.ref a0_all, .ref a0_tape, .ref a0_isImage, .int v0_taped, .int v0_faultKind, .int v0_faultPlace, .int v0_undos, .ref a0_turnWord, .ref a0_turnFrom, .int v0_turns, .ref a0_pieceSign, .ref a0_pieceFrom, .int v0_pieces, .int v0_signs, .ref a0_runFrom, .ref a0_runLong, .ref a0_runPiece, .int v0_runs, .ref a0_alike, .ref a0_stood])), (a0_all, .inl (D.2 1, 5228, .inl g0_all)), (a0_turnWord, .inl (D.2 1, 320, .inl g0_turnWord)), (a0_turnFrom, .inl (D.2 1, 320, .inl g0_turnFrom))] → va_S A s.heap H locs → lv_has ls 7 [(0, .ref a0), (1, .int p1), (2, .int p2), (3, .int p3), (4, .int x4), (5, .int x5), (6, .int x6)] → W p l e (headSpec wsX12_isAlone ({ frames := 1, cells := 0, slots := 0, locals := 24 } : Room)).room s m ([.ref a0, .int p1, .int p2, .int p3] : List Value).toArray below meth c H locs 0 0 Q0 (F0 m 32 ls []) := by
    intro rec3 hrec3 K
    induction K with
    | zero =>
      intro x4 x5 x6 H locs ls hf
      rw [fX12_isAlone_32] at hf
      cases hf
    | succ K ih =>
      intro x4 x5 x6 H locs ls hf hP hD hS hl
      rw [fX12_isAlone_32] at hf
      refine lv_iload hx hb dX12_isAlone_32 (lv_at hl 6 rfl) ?_
      refine lv_iload_n hx hb dX12_isAlone_34 rfl (lv_at hl 3 rfl) ?_
      refine lv_icmp_ge (tgt := 95) hx hb dX12_isAlone_35 (by decide) (fun c_4 => ?_) (fun c_4 => ?_)
      · replace hf := ip c_4 hf
        exact k95 rec3 hrec3 x4 x5 H locs ls hf hP hD hS (lv_sub hl [0, 1, 2, 3, 4, 5] rfl)
      · replace hf := im c_4 hf
        refine lv_iload hx hb dX12_isAlone_38 (lv_at hl 5 rfl) ?_
        refine lv_if_eq (tgt := 95) hx hb dX12_isAlone_40 (by decide) (fun c_5 => ?_) (fun c_5 => ?_)
        · replace hf := ip c_5 hf
          exact k95 rec3 hrec3 x4 x5 H locs ls hf hP hD hS (lv_sub hl [0, 1, 2, 3, 4, 5] rfl)
        · replace hf := im c_5 hf
          refine lv_aload_n hx hb dX12_isAlone_43 rfl (lv_at hl 0 rfl) ?_
          refine lv_iconst (v := 0) hx hb dX12_isAlone_44 (by decide) ?_
          refine lv_iload_n hx hb dX12_isAlone_45 rfl (lv_at hl 1 rfl) ?_
          obtain ⟨r6, hr6, hf⟩ := bd hf
          refine zSi (As := [.int (0 : Int32), .int p1]) (rest := [.ref a0]) (wn := [(a0, .inr (9, [.ref a0_all, .ref a0_tape, .ref a0_isImage, .int v0_taped, .int v0_faultKind, .int v0_faultPlace, .int v0_undos, .ref a0_turnWord, .ref a0_turnFrom, .int v0_turns, .ref a0_pieceSign, .ref a0_pieceFrom, .int v0_pieces, .int v0_signs, .ref a0_runFrom, .ref a0_runLong, .ref a0_runPiece, .int v0_runs, .ref a0_alike, .ref a0_stood])), (a0_all, .inl (D.2 1, 5228, .inl g0_all)), (a0_turnWord, .inl (D.2 1, 320, .inl g0_turnWord)), (a0_turnFrom, .inl (D.2 1, 320, .inl g0_turnFrom))]) ⟨hx, hb, hml, hown, hts⟩ (mX12_wordAt l D H.size (0 : Int32) p1 r6 hr6) (va_cwS 2 hts gX12_isAlone_X12_wordAt rfl rfl rfl (by decide +kernel) ⟨Nat.le_of_ble_eq_true rfl, Nat.le_of_ble_eq_true rfl⟩) hK hP hD hS hA [] [0, 1, 2, 3] [0, 1, 2, 3] rfl (by decide) rfl (by decide) (by decide) rfl (by decide) rfl hl.1 rfl (Nat.le_of_ble_eq_true rfl) dX12_isAlone_46 ⟨Nat.zero_le _, Nat.zero_le _⟩ (fun H locs hP hD hS => ?_)
          refine lv_iload_n hx hb dX12_isAlone_49 rfl (lv_at hl 2 rfl) ?_
          refine lv_iload hx hb dX12_isAlone_50 (lv_at hl 6 rfl) ?_
          obtain ⟨r7, hr7, hf⟩ := bd hf
          refine zVi (As := [.int r6, .int p2, .int x6]) (rest := []) (ci := 9) (q0 := 0) (wn := [(a0, .inr (9, [.ref a0_all, .ref a0_tape, .ref a0_isImage, .int v0_taped, .int v0_faultKind, .int v0_faultPlace, .int v0_undos, .ref a0_turnWord, .ref a0_turnFrom, .int v0_turns, .ref a0_pieceSign, .ref a0_pieceFrom, .int v0_pieces, .int v0_signs, .ref a0_runFrom, .ref a0_runLong, .ref a0_runPiece, .int v0_runs, .ref a0_alike, .ref a0_stood])), (a0_all, .inl (D.2 1, 5228, .inl g0_all)), (a0_turnWord, .inl (D.2 1, 320, .inl g0_turnWord)), (a0_turnFrom, .inl (D.2 1, 320, .inl g0_turnFrom))]) ⟨hx, hb, hml, hown, hts⟩ (mX12_signAt l D a0 a0_all a0_tape a0_isImage a0_turnWord a0_turnFrom a0_pieceSign a0_pieceFrom a0_runFrom a0_runLong a0_runPiece a0_alike a0_stood H.size v0_taped v0_faultKind v0_faultPlace v0_undos v0_turns v0_pieces v0_signs v0_runs g0_all r6 p2 x6 r7 hr7) (cwV 3 hts gX12_isAlone_X12_signAt rfl rfl rfl (by decide +kernel) ⟨Nat.le_of_ble_eq_true rfl, Nat.le_of_ble_eq_true rfl⟩) hK hP hD hS hA [0, 1] [2, 3] [2, 3, 0, 1] rfl (by decide) rfl (by decide) (by decide) rfl (by decide) rfl rfl rfl hl.1 rfl (Nat.le_of_ble_eq_true rfl) dX12_isAlone_52 ⟨Nat.zero_le _, Nat.zero_le _⟩ (fun H locs hP hD hS => ?_)
          refine lv_aload_n hx hb dX12_isAlone_55 rfl (lv_at hl 0 rfl) ?_
          refine lv_iconst (v := 0) hx hb dX12_isAlone_56 (by decide) ?_
          refine lv_aload_n hx hb dX12_isAlone_57 rfl (lv_at hl 0 rfl) ?_
          refine va_get (D := D.1) (ci := 9) (v := .ref a0_turnWord) (C := RX12) (T := TX12) (N := 20) hx hb hts hwX12 hown hK.1 hP 0 rfl rfl 7 (by decide) l24 (fun _ h9 => h9) rfl dX12_isAlone_58 ?_
          refine lv_iload hx hb dX12_isAlone_61 (lv_at hl 4 rfl) ?_
          obtain ⟨h_8, hf⟩ := gd hf
          refine va_iald hx hb hK.1 hP 2 1 rfl rfl h_8 dX12_isAlone_63 ?_
          obtain ⟨r9, hr9, hf⟩ := bd hf
          refine zSi (As := [.int (0 : Int32), .int (g0_turnWord (x4).toNatClampNeg)]) (rest := [.ref a0, .int r7]) (wn := [(a0, .inr (9, [.ref a0_all, .ref a0_tape, .ref a0_isImage, .int v0_taped, .int v0_faultKind, .int v0_faultPlace, .int v0_undos, .ref a0_turnWord, .ref a0_turnFrom, .int v0_turns, .ref a0_pieceSign, .ref a0_pieceFrom, .int v0_pieces, .int v0_signs, .ref a0_runFrom, .ref a0_runLong, .ref a0_runPiece, .int v0_runs, .ref a0_alike, .ref a0_stood])), (a0_all, .inl (D.2 1, 5228, .inl g0_all)), (a0_turnWord, .inl (D.2 1, 320, .inl g0_turnWord)), (a0_turnFrom, .inl (D.2 1, 320, .inl g0_turnFrom))]) ⟨hx, hb, hml, hown, hts⟩ (mX12_wordAt l D H.size (0 : Int32) (g0_turnWord (x4).toNatClampNeg) r9 hr9) (va_cwS 2 hts gX12_isAlone_X12_wordAt rfl rfl rfl (by decide +kernel) ⟨Nat.le_of_ble_eq_true rfl, Nat.le_of_ble_eq_true rfl⟩) hK hP hD hS hA [] [0, 1, 2, 3] [0, 1, 2, 3] rfl (by decide) rfl (by decide) (by decide) rfl (by decide) rfl hl.1 rfl (Nat.le_of_ble_eq_true rfl) dX12_isAlone_64 ⟨Nat.zero_le _, Nat.zero_le _⟩ (fun H locs hP hD hS => ?_)
          refine lv_aload_n hx hb dX12_isAlone_67 rfl (lv_at hl 0 rfl) ?_
          refine va_get (D := D.1) (ci := 9) (v := .ref a0_turnFrom) (C := RX12) (T := TX12) (N := 20) hx hb hts hwX12 hown hK.1 hP 0 rfl rfl 8 (by decide) l27 (fun _ h9 => h9) rfl dX12_isAlone_68 ?_
          refine lv_iload hx hb dX12_isAlone_71 (lv_at hl 4 rfl) ?_
          obtain ⟨h_10, hf⟩ := gd hf
          refine va_iald hx hb hK.1 hP 3 1 rfl rfl h_10 dX12_isAlone_73 ?_
          refine lv_iload hx hb dX12_isAlone_74 (lv_at hl 6 rfl) ?_
          obtain ⟨r11, hr11, hf⟩ := bd hf
          refine zVi (As := [.int r9, .int (g0_turnFrom (x4).toNatClampNeg), .int x6]) (rest := [.int r7]) (ci := 9) (q0 := 0) (wn := [(a0, .inr (9, [.ref a0_all, .ref a0_tape, .ref a0_isImage, .int v0_taped, .int v0_faultKind, .int v0_faultPlace, .int v0_undos, .ref a0_turnWord, .ref a0_turnFrom, .int v0_turns, .ref a0_pieceSign, .ref a0_pieceFrom, .int v0_pieces, .int v0_signs, .ref a0_runFrom, .ref a0_runLong, .ref a0_runPiece, .int v0_runs, .ref a0_alike, .ref a0_stood])), (a0_all, .inl (D.2 1, 5228, .inl g0_all)), (a0_turnWord, .inl (D.2 1, 320, .inl g0_turnWord)), (a0_turnFrom, .inl (D.2 1, 320, .inl g0_turnFrom))]) ⟨hx, hb, hml, hown, hts⟩ (mX12_signAt l D a0 a0_all a0_tape a0_isImage a0_turnWord a0_turnFrom a0_pieceSign a0_pieceFrom a0_runFrom a0_runLong a0_runPiece a0_alike a0_stood H.size v0_taped v0_faultKind v0_faultPlace v0_undos v0_turns v0_pieces v0_signs v0_runs g0_all r9 (g0_turnFrom (x4).toNatClampNeg) x6 r11 hr11) (cwV 3 hts gX12_isAlone_X12_signAt rfl rfl rfl (by decide +kernel) ⟨Nat.le_of_ble_eq_true rfl, Nat.le_of_ble_eq_true rfl⟩) hK hP hD hS hA [0, 1] [2, 3] [2, 3, 0, 1] rfl (by decide) rfl (by decide) (by decide) rfl (by decide) rfl rfl rfl hl.1 rfl (Nat.le_of_ble_eq_true rfl) dX12_isAlone_76 ⟨Nat.zero_le _, Nat.zero_le _⟩ (fun H locs hP hD hS => ?_)
          refine lv_icmp_ne (tgt := 86) hx hb dX12_isAlone_79 (by decide) (fun c_12 => ?_) (fun c_12 => ?_)
          · replace hf := im c_12 hf
            refine lv_iconst (v := 0) hx hb dX12_isAlone_86 (by decide) ?_
            refine lv_istore (lv' := [(5, .int (0 : Int32)), (0, .ref a0), (1, .int p1), (2, .int p2), (3, .int p3), (4, .int x4), (6, .int x6)]) hx hb dX12_isAlone_87 hl (by decide) rfl (fun ls hl => ?_)
            refine lv_iinc (v := (x6 + (1 : Int32))) (lv' := [(6, .int (x6 + (1 : Int32))), (5, .int (0 : Int32)), (0, .ref a0), (1, .int p1), (2, .int p2), (3, .int p3), (4, .int x4)]) hx hb dX12_isAlone_89 hl (k := 6) rfl rfl (by decide) rfl (fun ls hl => ?_)
            refine lv_goto (tgt := 32) hx hb dX12_isAlone_92 (by decide) ?_
            exact ih x4 (0 : Int32) (x6 + (1 : Int32)) H locs ls hf hP hD hS (lv_sub hl [2, 3, 4, 5, 6, 1, 0] rfl)
          · replace hf := ip c_12 hf
            refine lv_iconst (v := 1) hx hb dX12_isAlone_82 (by decide) ?_
            refine lv_goto (tgt := 87) hx hb dX12_isAlone_83 (by decide) ?_
            refine lv_istore (lv' := [(5, .int (1 : Int32)), (0, .ref a0), (1, .int p1), (2, .int p2), (3, .int p3), (4, .int x4), (6, .int x6)]) hx hb dX12_isAlone_87 hl (by decide) rfl (fun ls hl => ?_)
            refine lv_iinc (v := (x6 + (1 : Int32))) (lv' := [(6, .int (x6 + (1 : Int32))), (5, .int (1 : Int32)), (0, .ref a0), (1, .int p1), (2, .int p2), (3, .int p3), (4, .int x4)]) hx hb dX12_isAlone_89 hl (k := 6) rfl rfl (by decide) rfl (fun ls hl => ?_)
            refine lv_goto (tgt := 32) hx hb dX12_isAlone_92 (by decide) ?_
            exact ih x4 (1 : Int32) (x6 + (1 : Int32)) H locs ls hf hP hD hS (lv_sub hl [2, 3, 4, 5, 6, 1, 0] rfl)
  have k3 : ∀ K : Nat, ∀ (x4 : Int32) (H : Heap) (locs : List Loc) (ls : Array Slot), fX12_isAlone_3 N v0_turns g0_all g0_turnWord g0_turnFrom p1 p2 p3 K x4 = some res → va_P D.1 vwCl [(a0, .inr (9, [.ref a0_all, .ref a0_tape, .ref a0_isImage, .int v0_taped, .int v0_faultKind, .int v0_faultPlace, .int v0_undos, .ref a0_turnWord, .ref a0_turnFrom, .int v0_turns, .ref a0_pieceSign, .ref a0_pieceFrom, .int v0_pieces, .int v0_signs, .ref a0_runFrom, .ref a0_runLong, .ref a0_runPiece, .int v0_runs, .ref a0_alike, .ref a0_stood])), (a0_all, .inl (D.2 1, 5228, .inl g0_all)), (a0_turnWord, .inl (D.2 1, 320, .inl g0_turnWord)), (a0_turnFrom, .inl (D.2 1, 320, .inl g0_turnFrom))] H → va_D A [(a0, .inr (9, [.ref a0_all, .ref a0_tape, .ref a0_isImage, .int v0_taped, .int v0_faultKind, .int v0_faultPlace, .int v0_undos, .ref a0_turnWord, .ref a0_turnFrom, .int v0_turns, .ref a0_pieceSign, .ref a0_pieceFrom, .int v0_pieces, .int v0_signs, .ref a0_runFrom, .ref a0_runLong, .ref a0_runPiece, .int v0_runs, .ref a0_alike, .ref a0_stood])), (a0_all, .inl (D.2 1, 5228, .inl g0_all)), (a0_turnWord, .inl (D.2 1, 320, .inl g0_turnWord)), (a0_turnFrom, .inl (D.2 1, 320, .inl g0_turnFrom))] → va_S A s.heap H locs → lv_has ls 7 [(0, .ref a0), (1, .int p1), (2, .int p2), (3, .int p3), (4, .int x4)] → W p l e (headSpec wsX12_isAlone ({ frames := 1, cells := 0, slots := 0, locals := 24 } : Room)).room s m ([.ref a0, .int p1, .int p2, .int p3] : List Value).toArray below meth c H locs 0 0 Q0 (F0 m 3 ls []) := by
    intro K
    induction K with
    | zero =>
      intro x4 H locs ls hf
      rw [fX12_isAlone_3] at hf
      cases hf
    | succ K ih =>
      intro x4 H locs ls hf hP hD hS hl
      rw [fX12_isAlone_3] at hf
      refine lv_iload hx hb dX12_isAlone_3 (lv_at hl 4 rfl) ?_
      refine lv_aload_n hx hb dX12_isAlone_5 rfl (lv_at hl 0 rfl) ?_
      refine va_get (D := D.1) (ci := 9) (v := .int v0_turns) (C := RX12) (T := TX12) (N := 20) hx hb hts hwX12 hown hK.1 hP 0 rfl rfl 9 (by decide) l87 (fun _ h9 => h9) rfl dX12_isAlone_6 ?_
      refine lv_icmp_ge (tgt := 108) hx hb dX12_isAlone_9 (by decide) (fun c_1 => ?_) (fun c_1 => ?_)
      · replace hf := ip c_1 hf
        refine lv_iconst (v := 1) hx hb dX12_isAlone_108 (by decide) ?_
        have he := Option.some.inj hf
        rw [hQ]
        exact W.zret (v := (1 : Int32)) hx hb hr (znb (Or.inr rfl)) (fun t ht hW => by rw [← he]; exact ⟨⟨(1 : Int32), (), rfl, ⟨rfl, Or.inr rfl⟩, by rw [ht]; exact hP, hD⟩, hS.F ht⟩) hS.2.2 dX12_isAlone_109
      · replace hf := im c_1 hf
        refine lv_aload_n hx hb dX12_isAlone_12 rfl (lv_at hl 0 rfl) ?_
        refine va_get (D := D.1) (ci := 9) (v := .ref a0_turnWord) (C := RX12) (T := TX12) (N := 20) hx hb hts hwX12 hown hK.1 hP 0 rfl rfl 7 (by decide) l24 (fun _ h9 => h9) rfl dX12_isAlone_13 ?_
        refine lv_iload hx hb dX12_isAlone_16 (lv_at hl 4 rfl) ?_
        obtain ⟨h_2, hf⟩ := gd hf
        refine va_iald hx hb hK.1 hP 2 1 rfl rfl h_2 dX12_isAlone_18 ?_
        refine lv_iload_n hx hb dX12_isAlone_19 rfl (lv_at hl 1 rfl) ?_
        refine lv_icmp_ne (tgt := 26) hx hb dX12_isAlone_20 (by decide) (fun c_3 => ?_) (fun c_3 => ?_)
        · replace hf := im c_3 hf
          refine lv_iconst (v := 1) hx hb dX12_isAlone_26 (by decide) ?_
          refine lv_istore (lv' := [(5, .int (1 : Int32)), (0, .ref a0), (1, .int p1), (2, .int p2), (3, .int p3), (4, .int x4)]) hx hb dX12_isAlone_27 hl (by decide) rfl (fun ls hl => ?_)
          refine lv_iconst (v := 0) hx hb dX12_isAlone_29 (by decide) ?_
          refine lv_istore (lv' := [(6, .int (0 : Int32)), (5, .int (1 : Int32)), (0, .ref a0), (1, .int p1), (2, .int p2), (3, .int p3), (4, .int x4)]) hx hb dX12_isAlone_30 hl (by decide) rfl (fun ls hl => ?_)
          exact k32 _ ih N x4 (1 : Int32) (0 : Int32) H locs ls hf hP hD hS (lv_sub hl [2, 3, 4, 5, 6, 1, 0] rfl)
        · replace hf := ip c_3 hf
          refine lv_goto (tgt := 102) hx hb dX12_isAlone_23 (by decide) ?_
          refine lv_iinc (v := (x4 + (1 : Int32))) (lv' := [(4, .int (x4 + (1 : Int32))), (0, .ref a0), (1, .int p1), (2, .int p2), (3, .int p3)]) hx hb dX12_isAlone_102 hl (k := 4) rfl rfl (by decide) rfl (fun ls hl => ?_)
          refine lv_goto (tgt := 3) hx hb dX12_isAlone_105 (by decide) ?_
          exact ih (x4 + (1 : Int32)) H locs ls hf hP hD hS (lv_sub hl [1, 2, 3, 4, 0] rfl)
  unfold fX12_isAlone at hf
  refine lv_iconst (v := 0) hx hb dX12_isAlone_0 (by decide) ?_
  refine lv_istore (lv' := [(4, .int (0 : Int32)), (0, .ref a0), (1, .int p1), (2, .int p2), (3, .int p3)]) hx hb dX12_isAlone_1 hl (by decide) rfl (fun ls hl => ?_)
  exact k3 N (0 : Int32) H locs ls hf hP hD hS (lv_sub hl [1, 2, 3, 4, 0] rfl)
def fX12_alone_57 (N : Nat) (g0_all : Nat → Int32) (p1 : Int32) (p2 : Int32) (rec46 : Int32 → Int32 → Int32 → (Nat → Int32) → (Nat → Int32) → Option (Int32 × Int32 × (Nat → Int32) × (Nat → Int32))) : Nat → Int32 → Int32 → Int32 → Int32 → (Nat → Int32) → (Nat → Int32) → Option (Int32 × Int32 × (Nat → Int32) × (Nat → Int32))
  | 0, _, _, _, _, _, _ => none
  | K + 1, x3, x4, x5, v0_turns, g0_turnWord, g0_turnFrom =>
    if x3 < x5 then
      rec46 x3 (x4 + (1 : Int32)) v0_turns g0_turnWord g0_turnFrom
    else
      Option.bind (fX12_isAlone N v0_turns g0_all g0_turnWord g0_turnFrom p1 x5 x4) fun r13 =>
      if r13 = (0 : Int32) then
        (fX12_alone_57 N g0_all p1 p2 rec46 K) x3 x4 (x5 + (1 : Int32)) v0_turns g0_turnWord g0_turnFrom
      else
        if p2 = (0 : Int32) then
          some (x4, v0_turns, g0_turnWord, g0_turnFrom)
        else
          if p2 = (1 : Int32) then
            some (x5, v0_turns, g0_turnWord, g0_turnFrom)
          else
            Option.bind (fX12_turnOf N g0_turnWord g0_turnFrom p1 x5) fun r18 =>
            some (r18, v0_turns, g0_turnWord, g0_turnFrom)
def fX12_alone_46 (N : Nat) (g0_all : Nat → Int32) (p1 : Int32) (p2 : Int32) : Nat → Int32 → Int32 → Int32 → (Nat → Int32) → (Nat → Int32) → Option (Int32 × Int32 × (Nat → Int32) × (Nat → Int32))
  | 0, _, _, _, _, _ => none
  | K + 1, x3, x4, v0_turns, g0_turnWord, g0_turnFrom =>
    if (x3 + (1 : Int32)) < x4 then
      some ((-2 : Int32), v0_turns, g0_turnWord, g0_turnFrom)
    else
      fX12_alone_57 N g0_all p1 p2 (fX12_alone_46 N g0_all p1 p2 K) N x3 x4 (0 : Int32) v0_turns g0_turnWord g0_turnFrom
def fX12_alone (N : Nat) (v0_turns : Int32) (g0_all : Nat → Int32) (g0_turnWord : Nat → Int32) (g0_turnFrom : Nat → Int32) (p1 : Int32) (p2 : Int32) : Option (Int32 × Int32 × (Nat → Int32) × (Nat → Int32)) :=
  if (0 : Int32) < 0 ∨ 5228 ≤ ((0 : Int32)).toNatClampNeg then none else
  Option.bind (fX12_isIn p1 (0 : Int32) ((g0_all ((0 : Int32)).toNatClampNeg) - (1 : Int32))) fun r2 =>
  if r2 = (0 : Int32) then
    some ((-1 : Int32), v0_turns, g0_turnWord, g0_turnFrom)
  else
    Option.bind (fX12_isIn p2 (0 : Int32) (2 : Int32)) fun r5 =>
    if r5 = (0 : Int32) then
      some ((-1 : Int32), v0_turns, g0_turnWord, g0_turnFrom)
    else
      Option.bind (fX12_laysTurns N v0_turns g0_all g0_turnWord g0_turnFrom (0 : Int32)) fun r8 =>
      Option.bind (fX12_wordAt (0 : Int32) p1) fun r9 =>
      if r9 < 0 ∨ 5228 ≤ (r9).toNatClampNeg then none else
      fX12_alone_46 N g0_all p1 p2 N (g0_all (r9).toNatClampNeg) (1 : Int32) r8.1 r8.2.1 r8.2.2
set_option maxHeartbeats 4000000 in
set_option maxRecDepth 100000 in
theorem mX12_alone (l : Launch) (D : zG) (a0 : Nat) (a0_all : Nat) (a0_tape : Nat) (a0_isImage : Nat) (a0_turnWord : Nat) (a0_turnFrom : Nat) (a0_pieceSign : Nat) (a0_pieceFrom : Nat) (a0_runFrom : Nat) (a0_runLong : Nat) (a0_runPiece : Nat) (a0_alike : Nat) (a0_stood : Nat) (sz : Nat)  (v0_taped : Int32) (v0_faultKind : Int32) (v0_faultPlace : Int32) (v0_undos : Int32) (v0_turns : Int32) (v0_pieces : Int32) (v0_signs : Int32) (v0_runs : Int32) (g0_all : Nat → Int32) (g0_turnWord : Nat → Int32) (g0_turnFrom : Nat → Int32) (p1 : Int32) (p2 : Int32) (N : Nat) (res : Int32 × Int32 × (Nat → Int32) × (Nat → Int32)) (hf : fX12_alone N v0_turns g0_all g0_turnWord g0_turnFrom p1 p2 = some res) : Met l yX12_alone wsX12_alone ({ frames := 4, cells := 0, slots := 0, locals := 98 } : Room) (va_Pc [.ref a0, .int p1, .int p2] (zW D sz [(a0, .inr (9, [.ref a0_all, .ref a0_tape, .ref a0_isImage, .int v0_taped, .int v0_faultKind, .int v0_faultPlace, .int v0_undos, .ref a0_turnWord, .ref a0_turnFrom, .int v0_turns, .ref a0_pieceSign, .ref a0_pieceFrom, .int v0_pieces, .int v0_signs, .ref a0_runFrom, .ref a0_runLong, .ref a0_runPiece, .int v0_runs, .ref a0_alike, .ref a0_stood])), (a0_all, .inl (D.2 1, 5228, .inl g0_all)), (a0_turnWord, .inl (D.2 1, 320, .inl g0_turnWord)), (a0_turnFrom, .inl (D.2 1, 320, .inl g0_turnFrom))])) (va_Qi (fun r (_ : Unit) => r = res.1) (fun _ => zB D (va_A [(a0, .inr (9, [.ref a0_all, .ref a0_tape, .ref a0_isImage, .int v0_taped, .int v0_faultKind, .int v0_faultPlace, .int v0_undos, .ref a0_turnWord, .ref a0_turnFrom, .int v0_turns, .ref a0_pieceSign, .ref a0_pieceFrom, .int v0_pieces, .int v0_signs, .ref a0_runFrom, .ref a0_runLong, .ref a0_runPiece, .int v0_runs, .ref a0_alike, .ref a0_stood])), (a0_all, .inl (D.2 1, 5228, .inl g0_all)), (a0_turnWord, .inl (D.2 1, 320, .inl g0_turnWord)), (a0_turnFrom, .inl (D.2 1, 320, .inl g0_turnFrom))] sz) [(a0, .inr (9, [.ref a0_all, .ref a0_tape, .ref a0_isImage, .int v0_taped, .int v0_faultKind, .int v0_faultPlace, .int v0_undos, .ref a0_turnWord, .ref a0_turnFrom, .int res.2.1, .ref a0_pieceSign, .ref a0_pieceFrom, .int v0_pieces, .int v0_signs, .ref a0_runFrom, .ref a0_runLong, .ref a0_runPiece, .int v0_runs, .ref a0_alike, .ref a0_stood])), (a0_all, .inl (D.2 1, 5228, .inl g0_all)), (a0_turnWord, .inl (D.2 1, 320, .inl res.2.2.1)), (a0_turnFrom, .inl (D.2 1, 320, .inl res.2.2.2))]) (va_A [(a0, .inr (9, [.ref a0_all, .ref a0_tape, .ref a0_isImage, .int v0_taped, .int v0_faultKind, .int v0_faultPlace, .int v0_undos, .ref a0_turnWord, .ref a0_turnFrom, .int v0_turns, .ref a0_pieceSign, .ref a0_pieceFrom, .int v0_pieces, .int v0_signs, .ref a0_runFrom, .ref a0_runLong, .ref a0_runPiece, .int v0_runs, .ref a0_alike, .ref a0_stood])), (a0_all, .inl (D.2 1, 5228, .inl g0_all)), (a0_turnWord, .inl (D.2 1, 320, .inl g0_turnWord)), (a0_turnFrom, .inl (D.2 1, 320, .inl g0_turnFrom))] sz)) 0 0 (va_A [(a0, .inr (9, [.ref a0_all, .ref a0_tape, .ref a0_isImage, .int v0_taped, .int v0_faultKind, .int v0_faultPlace, .int v0_undos, .ref a0_turnWord, .ref a0_turnFrom, .int v0_turns, .ref a0_pieceSign, .ref a0_pieceFrom, .int v0_pieces, .int v0_signs, .ref a0_runFrom, .ref a0_runLong, .ref a0_runPiece, .int v0_runs, .ref a0_alike, .ref a0_stood])), (a0_all, .inl (D.2 1, 5228, .inl g0_all)), (a0_turnWord, .inl (D.2 1, 320, .inl g0_turnWord)), (a0_turnFrom, .inl (D.2 1, 320, .inl g0_turnFrom))] sz) := by
  refine Met.ofW (cc := cX12_alone) (maxL := 6) (ret := (some .int)) (by decide) rfl ?_
  intro p e s m args below meth c s₁ B hml hv
  obtain ⟨rfl, hsz, hP, hK, hD0⟩ := hv
  have hx := B.exec
  have hb := B.bytes
  have hr := B.returns
  have hts := atoms_spec (ws := wsX12_alone) B.pre
  have hown : s.vm.findClass RX12 = some m.cls := findClass_of_methodNamed B.named
  have hlocks := B.notSynchronized
  subst hsz
  have hD := hD0.self (sz := s.heap.size)
  generalize hAe : va_A [(a0, .inr (9, [.ref a0_all, .ref a0_tape, .ref a0_isImage, .int v0_taped, .int v0_faultKind, .int v0_faultPlace, .int v0_undos, .ref a0_turnWord, .ref a0_turnFrom, .int v0_turns, .ref a0_pieceSign, .ref a0_pieceFrom, .int v0_pieces, .int v0_signs, .ref a0_runFrom, .ref a0_runLong, .ref a0_runPiece, .int v0_runs, .ref a0_alike, .ref a0_stood])), (a0_all, .inl (D.2 1, 5228, .inl g0_all)), (a0_turnWord, .inl (D.2 1, 320, .inl g0_turnWord)), (a0_turnFrom, .inl (D.2 1, 320, .inl g0_turnFrom))] s.heap.size = A at hD ⊢
  have hA : ∀ q : Nat, s.heap.size ≤ q → A q := fun q h => by rw [← hAe]; exact Or.inr h
  have l7 := zat hts 1 (w := .fieldLink RX12 7 "TurnedWordsModel" "all" "[I") rfl
  have hwX12 : ∀ w ∈ u_ws RX12 TX12 20, w ∈ wsX12_alone := fun w h => List.mem_cons_of_mem _ (List.mem_append_right _ h)
  have hl := lv_entry ([.ref a0, .int p1, .int p2]) (n := 6) (Nat.le_of_ble_eq_true rfl)
  rw [lg_entry_eq]
  generalize (lg_sl ([.ref a0, .int p1, .int p2]) ++ List.replicate (6 - (lg_sl ([.ref a0, .int p1, .int p2])).length) Slot.unset).toArray = ls at hl ⊢
  have hl : lv_has ls 6 [(0, .ref a0), (1, .int p1), (2, .int p2)] := hl
  refine zStart (A := A) hP (fun Q0 H locs hQ hP hS => ?_)
  have k57 : ∀ (rec46 : Int32 → Int32 → Int32 → (Nat → Int32) → (Nat → Int32) → Option (Int32 × Int32 × (Nat → Int32) × (Nat → Int32))), (∀ (x3 : Int32) (x4 : Int32) (v0_turns : Int32) (g0_turnWord : Nat → Int32) (g0_turnFrom : Nat → Int32) (H : Heap) (locs : List Loc) (ls : Array Slot), rec46 x3 x4 v0_turns g0_turnWord g0_turnFrom = some res → va_P D.1 vwCl [(a0, .inr (9, [.ref a0_all, .ref a0_tape, .ref a0_isImage, .int v0_taped, .int v0_faultKind, .int v0_faultPlace, .int v0_undos, .ref a0_turnWord, .ref a0_turnFrom, .int v0_turns, .ref a0_pieceSign, .ref a0_pieceFrom, .int v0_pieces, .int v0_signs, .ref a0_runFrom, .ref a0_runLong, .ref a0_runPiece, .int v0_runs, .ref a0_alike, .ref a0_stood])), (a0_all, .inl (D.2 1, 5228, .inl g0_all)), (a0_turnWord, .inl (D.2 1, 320, .inl g0_turnWord)), (a0_turnFrom, .inl (D.2 1, 320, .inl g0_turnFrom))] H → va_D A [(a0, .inr (9, [.ref a0_all, .ref a0_tape, .ref a0_isImage, .int v0_taped, .int v0_faultKind, .int v0_faultPlace, .int v0_undos, .ref a0_turnWord, .ref a0_turnFrom, .int v0_turns, .ref a0_pieceSign, .ref a0_pieceFrom, .int v0_pieces, .int v0_signs, .ref a0_runFrom, .ref a0_runLong, .ref a0_runPiece, .int v0_runs, .ref a0_alike, .ref a0_stood])), (a0_all, .inl (D.2 1, 5228, .inl g0_all)), (a0_turnWord, .inl (D.2 1, 320, .inl g0_turnWord)), (a0_turnFrom, .inl (D.2 1, 320, .inl g0_turnFrom))] → va_S A s.heap H locs → lv_has ls 6 [(0, .ref a0), (1, .int p1), (2, .int p2), (3, .int x3), (4, .int x4)] → W p l e (headSpec wsX12_alone ({ frames := 4, cells := 0, slots := 0, locals := 98 } : Room)).room s m ([.ref a0, .int p1, .int p2] : List Value).toArray below meth c H locs 0 0 Q0 (F0 m 46 ls [])) → ∀ K : Nat, ∀ (x3 : Int32) (x4 : Int32) (x5 : Int32) (v0_turns : Int32) (g0_turnWord : Nat → Int32) (g0_turnFrom : Nat → Int32) (H : Heap) (locs : List Loc) (ls : Array Slot), fX12_alone_57 N g0_all p1 p2 rec46 K x3 x4 x5 v0_turns g0_turnWord g0_turnFrom = some res → va_P D.1 vwCl [(a0, .inr (9, [.ref a0_all, .ref a0_tape, .ref a0_isImage, .int v0_taped, .int v0_faultKind, .int v0_faultPlace, .int v0_undos, .ref a0_turnWord, .ref a0_turnFrom, .int v0_turns, .ref a0_pieceSign, .ref a0_pieceFrom, .int v0_pieces, .int v0_signs, .ref a0_runFrom, .ref a0_runLong, .ref a0_runPiece, .int v0_runs, .ref a0_alike, .ref a0_stood])), (a0_all, .inl (D.2 1, 5228, .inl g0_all)), (a0_turnWord, .inl (D.2 1, 320, .inl g0_turnWord)), (a0_turnFrom, .inl (D.2 1, 320, .inl g0_turnFrom))] H → va_D A [(a0, .inr (9, [.ref a0_all, .ref a0_tape, .ref a0_isImage, .int v0_taped, .int v0_faultKind, .int v0_faultPlace, .int v0_undos, .ref a0_turnWord, .ref a0_turnFrom, .int v0_turns, .ref a0_pieceSign, .ref a0_pieceFrom, .int v0_pieces, .int v0_signs, .ref a0_runFrom, .ref a0_runLong, .ref a0_runPiece, .int v0_runs, .ref a0_alike, .ref a0_stood])), (a0_all, .inl (D.2 1, 5228, .inl g0_all)), (a0_turnWord, .inl (D.2 1, 320, .inl g0_turnWord)), (a0_turnFrom, .inl (D.2 1, 320, .inl g0_turnFrom))] → va_S A s.heap H locs → lv_has ls 6 [(0, .ref a0), (1, .int p1), (2, .int p2), (3, .int x3), (4, .int x4), (5, .int x5)] → W p l e (headSpec wsX12_alone ({ frames := 4, cells := 0, slots := 0, locals := 98 } : Room)).room s m ([.ref a0, .int p1, .int p2] : List Value).toArray below meth c H locs 0 0 Q0 (F0 m 57 ls []) := by
    intro rec46 hrec46 K
    induction K with
    | zero =>
      intro x3 x4 x5 v0_turns g0_turnWord g0_turnFrom H locs ls hf
      rw [fX12_alone_57] at hf
      cases hf
    | succ K ih =>
      intro x3 x4 x5 v0_turns g0_turnWord g0_turnFrom H locs ls hf hP hD hS hl
      rw [fX12_alone_57] at hf
      refine lv_iload hx hb dX12_alone_57 (lv_at hl 5 rfl) ?_
      refine lv_iload_n hx hb dX12_alone_59 rfl (lv_at hl 3 rfl) ?_
      refine lv_icmp_gt (tgt := 108) hx hb dX12_alone_60 (by decide) (fun c_12 => ?_) (fun c_12 => ?_)
      · replace hf := ip c_12 hf
        refine lv_iinc (v := (x4 + (1 : Int32))) (lv' := [(4, .int (x4 + (1 : Int32))), (0, .ref a0), (1, .int p1), (2, .int p2), (3, .int x3), (5, .int x5)]) hx hb dX12_alone_108 hl (k := 4) rfl rfl (by decide) rfl (fun ls hl => ?_)
        refine lv_goto (tgt := 46) hx hb dX12_alone_111 (by decide) ?_
        exact hrec46 x3 (x4 + (1 : Int32)) v0_turns g0_turnWord g0_turnFrom H locs ls hf hP hD hS (lv_sub hl [1, 2, 3, 4, 0] rfl)
      · replace hf := im c_12 hf
        refine lv_aload_n hx hb dX12_alone_63 rfl (lv_at hl 0 rfl) ?_
        refine lv_iload_n hx hb dX12_alone_64 rfl (lv_at hl 1 rfl) ?_
        refine lv_iload hx hb dX12_alone_65 (lv_at hl 5 rfl) ?_
        refine lv_iload hx hb dX12_alone_67 (lv_at hl 4 rfl) ?_
        obtain ⟨r13, hr13, hf⟩ := bd hf
        refine zVz (As := [.int p1, .int x5, .int x4]) (rest := []) (ci := 9) (q0 := 0) (wn := [(a0, .inr (9, [.ref a0_all, .ref a0_tape, .ref a0_isImage, .int v0_taped, .int v0_faultKind, .int v0_faultPlace, .int v0_undos, .ref a0_turnWord, .ref a0_turnFrom, .int v0_turns, .ref a0_pieceSign, .ref a0_pieceFrom, .int v0_pieces, .int v0_signs, .ref a0_runFrom, .ref a0_runLong, .ref a0_runPiece, .int v0_runs, .ref a0_alike, .ref a0_stood])), (a0_all, .inl (D.2 1, 5228, .inl g0_all)), (a0_turnWord, .inl (D.2 1, 320, .inl g0_turnWord)), (a0_turnFrom, .inl (D.2 1, 320, .inl g0_turnFrom))]) ⟨hx, hb, hml, hown, hts⟩ (mX12_isAlone l D a0 a0_all a0_tape a0_isImage a0_turnWord a0_turnFrom a0_pieceSign a0_pieceFrom a0_runFrom a0_runLong a0_runPiece a0_alike a0_stood H.size v0_taped v0_faultKind v0_faultPlace v0_undos v0_turns v0_pieces v0_signs v0_runs g0_all g0_turnWord g0_turnFrom p1 x5 x4 N r13 hr13) (cwV 3 hts gX12_alone_X12_isAlone rfl rfl rfl (by decide +kernel) ⟨Nat.le_of_ble_eq_true rfl, Nat.le_of_ble_eq_true rfl⟩) hK hP hD hS hA [0, 1, 2, 3] [] [0, 1, 2, 3] rfl (by decide) rfl (by decide) (by decide) rfl (by decide) rfl rfl rfl hl.1 rfl (Nat.le_of_ble_eq_true rfl) dX12_alone_69 ⟨Nat.zero_le _, Nat.zero_le _⟩ (fun H locs hb_14 hP hD hS => ?_)
        refine lv_if_eq (tgt := 102) hx hb dX12_alone_72 (by decide) (fun c_15 => ?_) (fun c_15 => ?_)
        · replace hf := ip c_15 hf
          refine lv_iinc (v := (x5 + (1 : Int32))) (lv' := [(5, .int (x5 + (1 : Int32))), (0, .ref a0), (1, .int p1), (2, .int p2), (3, .int x3), (4, .int x4)]) hx hb dX12_alone_102 hl (k := 5) rfl rfl (by decide) rfl (fun ls hl => ?_)
          refine lv_goto (tgt := 57) hx hb dX12_alone_105 (by decide) ?_
          exact ih x3 x4 (x5 + (1 : Int32)) v0_turns g0_turnWord g0_turnFrom H locs ls hf hP hD hS (lv_sub hl [1, 2, 3, 4, 5, 0] rfl)
        · replace hf := im c_15 hf
          refine lv_iload_n hx hb dX12_alone_75 rfl (lv_at hl 2 rfl) ?_
          refine lv_if_ne (tgt := 84) hx hb dX12_alone_76 (by decide) (fun c_16 => ?_) (fun c_16 => ?_)
          · replace hf := im c_16 hf
            refine lv_iload_n hx hb dX12_alone_84 rfl (lv_at hl 2 rfl) ?_
            refine lv_iconst (v := 1) hx hb dX12_alone_85 (by decide) ?_
            refine lv_icmp_ne (tgt := 94) hx hb dX12_alone_86 (by decide) (fun c_17 => ?_) (fun c_17 => ?_)
            · replace hf := im c_17 hf
              refine lv_aload_n hx hb dX12_alone_94 rfl (lv_at hl 0 rfl) ?_
              refine lv_iload_n hx hb dX12_alone_95 rfl (lv_at hl 1 rfl) ?_
              refine lv_iload hx hb dX12_alone_96 (lv_at hl 5 rfl) ?_
              obtain ⟨r18, hr18, hf⟩ := bd hf
              refine zVi (As := [.int p1, .int x5]) (rest := []) (ci := 9) (q0 := 0) (wn := [(a0, .inr (9, [.ref a0_all, .ref a0_tape, .ref a0_isImage, .int v0_taped, .int v0_faultKind, .int v0_faultPlace, .int v0_undos, .ref a0_turnWord, .ref a0_turnFrom, .int v0_turns, .ref a0_pieceSign, .ref a0_pieceFrom, .int v0_pieces, .int v0_signs, .ref a0_runFrom, .ref a0_runLong, .ref a0_runPiece, .int v0_runs, .ref a0_alike, .ref a0_stood])), (a0_all, .inl (D.2 1, 5228, .inl g0_all)), (a0_turnWord, .inl (D.2 1, 320, .inl g0_turnWord)), (a0_turnFrom, .inl (D.2 1, 320, .inl g0_turnFrom))]) ⟨hx, hb, hml, hown, hts⟩ (mX12_turnOf l D a0 a0_all a0_tape a0_isImage a0_turnWord a0_turnFrom a0_pieceSign a0_pieceFrom a0_runFrom a0_runLong a0_runPiece a0_alike a0_stood H.size v0_taped v0_faultKind v0_faultPlace v0_undos v0_turns v0_pieces v0_signs v0_runs g0_turnWord g0_turnFrom p1 x5 N r18 hr18) (cwV 2 hts gX12_alone_X12_turnOf rfl rfl rfl (by decide +kernel) ⟨Nat.le_of_ble_eq_true rfl, Nat.le_of_ble_eq_true rfl⟩) hK hP hD hS hA [0, 2, 3] [1] [1, 0, 2, 3] rfl (by decide) rfl (by decide) (by decide) rfl (by decide) rfl rfl rfl hl.1 rfl (Nat.le_of_ble_eq_true rfl) dX12_alone_98 ⟨Nat.zero_le _, Nat.zero_le _⟩ (fun H locs hP hD hS => ?_)
              have he := Option.some.inj hf
              rw [hQ]
              exact W.iret (v := r18) hx hb hr (fun t ht hW => by rw [← he]; exact ⟨⟨r18, (), rfl, rfl, by rw [ht]; exact hP, hD⟩, hS.F ht⟩) hS.2.2 dX12_alone_101
            · replace hf := ip c_17 hf
              refine lv_iload hx hb dX12_alone_89 (lv_at hl 5 rfl) ?_
              refine lv_goto (tgt := 101) hx hb dX12_alone_91 (by decide) ?_
              have he := Option.some.inj hf
              rw [hQ]
              exact W.iret (v := x5) hx hb hr (fun t ht hW => by rw [← he]; exact ⟨⟨x5, (), rfl, rfl, by rw [ht]; exact hP, hD⟩, hS.F ht⟩) hS.2.2 dX12_alone_101
          · replace hf := ip c_16 hf
            refine lv_iload hx hb dX12_alone_79 (lv_at hl 4 rfl) ?_
            refine lv_goto (tgt := 101) hx hb dX12_alone_81 (by decide) ?_
            have he := Option.some.inj hf
            rw [hQ]
            exact W.iret (v := x4) hx hb hr (fun t ht hW => by rw [← he]; exact ⟨⟨x4, (), rfl, rfl, by rw [ht]; exact hP, hD⟩, hS.F ht⟩) hS.2.2 dX12_alone_101
  have k46 : ∀ K : Nat, ∀ (x3 : Int32) (x4 : Int32) (v0_turns : Int32) (g0_turnWord : Nat → Int32) (g0_turnFrom : Nat → Int32) (H : Heap) (locs : List Loc) (ls : Array Slot), fX12_alone_46 N g0_all p1 p2 K x3 x4 v0_turns g0_turnWord g0_turnFrom = some res → va_P D.1 vwCl [(a0, .inr (9, [.ref a0_all, .ref a0_tape, .ref a0_isImage, .int v0_taped, .int v0_faultKind, .int v0_faultPlace, .int v0_undos, .ref a0_turnWord, .ref a0_turnFrom, .int v0_turns, .ref a0_pieceSign, .ref a0_pieceFrom, .int v0_pieces, .int v0_signs, .ref a0_runFrom, .ref a0_runLong, .ref a0_runPiece, .int v0_runs, .ref a0_alike, .ref a0_stood])), (a0_all, .inl (D.2 1, 5228, .inl g0_all)), (a0_turnWord, .inl (D.2 1, 320, .inl g0_turnWord)), (a0_turnFrom, .inl (D.2 1, 320, .inl g0_turnFrom))] H → va_D A [(a0, .inr (9, [.ref a0_all, .ref a0_tape, .ref a0_isImage, .int v0_taped, .int v0_faultKind, .int v0_faultPlace, .int v0_undos, .ref a0_turnWord, .ref a0_turnFrom, .int v0_turns, .ref a0_pieceSign, .ref a0_pieceFrom, .int v0_pieces, .int v0_signs, .ref a0_runFrom, .ref a0_runLong, .ref a0_runPiece, .int v0_runs, .ref a0_alike, .ref a0_stood])), (a0_all, .inl (D.2 1, 5228, .inl g0_all)), (a0_turnWord, .inl (D.2 1, 320, .inl g0_turnWord)), (a0_turnFrom, .inl (D.2 1, 320, .inl g0_turnFrom))] → va_S A s.heap H locs → lv_has ls 6 [(0, .ref a0), (1, .int p1), (2, .int p2), (3, .int x3), (4, .int x4)] → W p l e (headSpec wsX12_alone ({ frames := 4, cells := 0, slots := 0, locals := 98 } : Room)).room s m ([.ref a0, .int p1, .int p2] : List Value).toArray below meth c H locs 0 0 Q0 (F0 m 46 ls []) := by
    intro K
    induction K with
    | zero =>
      intro x3 x4 v0_turns g0_turnWord g0_turnFrom H locs ls hf
      rw [fX12_alone_46] at hf
      cases hf
    | succ K ih =>
      intro x3 x4 v0_turns g0_turnWord g0_turnFrom H locs ls hf hP hD hS hl
      rw [fX12_alone_46] at hf
      refine lv_iload hx hb dX12_alone_46 (lv_at hl 4 rfl) ?_
      refine lv_iload_n hx hb dX12_alone_48 rfl (lv_at hl 3 rfl) ?_
      refine lv_iconst (v := 1) hx hb dX12_alone_49 (by decide) ?_
      refine lv_iadd hx hb dX12_alone_50 ?_
      refine lv_icmp_gt (tgt := 114) hx hb dX12_alone_51 (by decide) (fun c_11 => ?_) (fun c_11 => ?_)
      · replace hf := ip c_11 hf
        refine lv_bipush (v := -2) hx hb dX12_alone_114 (by decide) ?_
        have he := Option.some.inj hf
        rw [hQ]
        exact W.iret (v := (-2 : Int32)) hx hb hr (fun t ht hW => by rw [← he]; exact ⟨⟨(-2 : Int32), (), rfl, rfl, by rw [ht]; exact hP, hD⟩, hS.F ht⟩) hS.2.2 dX12_alone_116
      · replace hf := im c_11 hf
        refine lv_iconst (v := 0) hx hb dX12_alone_54 (by decide) ?_
        refine lv_istore (lv' := [(5, .int (0 : Int32)), (0, .ref a0), (1, .int p1), (2, .int p2), (3, .int x3), (4, .int x4)]) hx hb dX12_alone_55 hl (by decide) rfl (fun ls hl => ?_)
        exact k57 _ ih N x3 x4 (0 : Int32) v0_turns g0_turnWord g0_turnFrom H locs ls hf hP hD hS (lv_sub hl [1, 2, 3, 4, 5, 0] rfl)
  unfold fX12_alone at hf
  refine lv_iload_n hx hb dX12_alone_0 rfl (lv_at hl 1 rfl) ?_
  refine lv_iconst (v := 0) hx hb dX12_alone_1 (by decide) ?_
  refine lv_aload_n hx hb dX12_alone_2 rfl (lv_at hl 0 rfl) ?_
  refine va_get (D := D.1) (ci := 9) (v := .ref a0_all) (C := RX12) (T := TX12) (N := 20) hx hb hts hwX12 hown hK.1 hP 0 rfl rfl 0 (by decide) l7 (fun _ h9 => h9) rfl dX12_alone_3 ?_
  refine lv_iconst (v := 0) hx hb dX12_alone_6 (by decide) ?_
  obtain ⟨h_1, hf⟩ := gd hf
  refine va_iald hx hb hK.1 hP 1 1 rfl rfl h_1 dX12_alone_7 ?_
  refine lv_iconst (v := 1) hx hb dX12_alone_8 (by decide) ?_
  refine lv_isub hx hb dX12_alone_9 ?_
  obtain ⟨r2, hr2, hf⟩ := bd hf
  refine zSz (As := [.int p1, .int (0 : Int32), .int ((g0_all ((0 : Int32)).toNatClampNeg) - (1 : Int32))]) (rest := []) (wn := [(a0, .inr (9, [.ref a0_all, .ref a0_tape, .ref a0_isImage, .int v0_taped, .int v0_faultKind, .int v0_faultPlace, .int v0_undos, .ref a0_turnWord, .ref a0_turnFrom, .int v0_turns, .ref a0_pieceSign, .ref a0_pieceFrom, .int v0_pieces, .int v0_signs, .ref a0_runFrom, .ref a0_runLong, .ref a0_runPiece, .int v0_runs, .ref a0_alike, .ref a0_stood])), (a0_all, .inl (D.2 1, 5228, .inl g0_all)), (a0_turnWord, .inl (D.2 1, 320, .inl g0_turnWord)), (a0_turnFrom, .inl (D.2 1, 320, .inl g0_turnFrom))]) ⟨hx, hb, hml, hown, hts⟩ (mX12_isIn l D H.size p1 (0 : Int32) ((g0_all ((0 : Int32)).toNatClampNeg) - (1 : Int32)) r2 hr2) (va_cwS 3 hts gX12_alone_X12_isIn rfl rfl rfl (by decide +kernel) ⟨Nat.le_of_ble_eq_true rfl, Nat.le_of_ble_eq_true rfl⟩) hK hP hD hS hA [] [0, 1, 2, 3] [0, 1, 2, 3] rfl (by decide) rfl (by decide) (by decide) rfl (by decide) rfl hl.1 rfl (Nat.le_of_ble_eq_true rfl) dX12_alone_10 ⟨Nat.zero_le _, Nat.zero_le _⟩ (fun H locs hb_3 hP hD hS => ?_)
  refine lv_if_eq (tgt := 25) hx hb dX12_alone_13 (by decide) (fun c_4 => ?_) (fun c_4 => ?_)
  · replace hf := ip c_4 hf
    refine lv_iconst (v := -1) hx hb dX12_alone_25 (by decide) ?_
    have he := Option.some.inj hf
    rw [hQ]
    exact W.iret (v := (-1 : Int32)) hx hb hr (fun t ht hW => by rw [← he]; exact ⟨⟨(-1 : Int32), (), rfl, rfl, by rw [ht]; exact hP, hD⟩, hS.F ht⟩) hS.2.2 dX12_alone_26
  · replace hf := im c_4 hf
    refine lv_iload_n hx hb dX12_alone_16 rfl (lv_at hl 2 rfl) ?_
    refine lv_iconst (v := 0) hx hb dX12_alone_17 (by decide) ?_
    refine lv_iconst (v := 2) hx hb dX12_alone_18 (by decide) ?_
    obtain ⟨r5, hr5, hf⟩ := bd hf
    refine zSz (As := [.int p2, .int (0 : Int32), .int (2 : Int32)]) (rest := []) (wn := [(a0, .inr (9, [.ref a0_all, .ref a0_tape, .ref a0_isImage, .int v0_taped, .int v0_faultKind, .int v0_faultPlace, .int v0_undos, .ref a0_turnWord, .ref a0_turnFrom, .int v0_turns, .ref a0_pieceSign, .ref a0_pieceFrom, .int v0_pieces, .int v0_signs, .ref a0_runFrom, .ref a0_runLong, .ref a0_runPiece, .int v0_runs, .ref a0_alike, .ref a0_stood])), (a0_all, .inl (D.2 1, 5228, .inl g0_all)), (a0_turnWord, .inl (D.2 1, 320, .inl g0_turnWord)), (a0_turnFrom, .inl (D.2 1, 320, .inl g0_turnFrom))]) ⟨hx, hb, hml, hown, hts⟩ (mX12_isIn l D H.size p2 (0 : Int32) (2 : Int32) r5 hr5) (va_cwS 3 hts gX12_alone_X12_isIn rfl rfl rfl (by decide +kernel) ⟨Nat.le_of_ble_eq_true rfl, Nat.le_of_ble_eq_true rfl⟩) hK hP hD hS hA [] [0, 1, 2, 3] [0, 1, 2, 3] rfl (by decide) rfl (by decide) (by decide) rfl (by decide) rfl hl.1 rfl (Nat.le_of_ble_eq_true rfl) dX12_alone_19 ⟨Nat.zero_le _, Nat.zero_le _⟩ (fun H locs hb_6 hP hD hS => ?_)
    refine lv_if_ne (tgt := 27) hx hb dX12_alone_22 (by decide) (fun c_7 => ?_) (fun c_7 => ?_)
    · replace hf := im c_7 hf
      refine lv_aload_n hx hb dX12_alone_27 rfl (lv_at hl 0 rfl) ?_
      refine lv_iconst (v := 0) hx hb dX12_alone_28 (by decide) ?_
      obtain ⟨r8, hr8, hf⟩ := bd hf
      refine zVv (As := [.int (0 : Int32)]) (rest := []) (ci := 9) (q0 := 0) (wn := [(a0, .inr (9, [.ref a0_all, .ref a0_tape, .ref a0_isImage, .int v0_taped, .int v0_faultKind, .int v0_faultPlace, .int v0_undos, .ref a0_turnWord, .ref a0_turnFrom, .int r8.1, .ref a0_pieceSign, .ref a0_pieceFrom, .int v0_pieces, .int v0_signs, .ref a0_runFrom, .ref a0_runLong, .ref a0_runPiece, .int v0_runs, .ref a0_alike, .ref a0_stood])), (a0_all, .inl (D.2 1, 5228, .inl g0_all)), (a0_turnWord, .inl (D.2 1, 320, .inl r8.2.1)), (a0_turnFrom, .inl (D.2 1, 320, .inl r8.2.2))]) ⟨hx, hb, hml, hown, hts⟩ (mX12_laysTurns l D a0 a0_all a0_tape a0_isImage a0_turnWord a0_turnFrom a0_pieceSign a0_pieceFrom a0_runFrom a0_runLong a0_runPiece a0_alike a0_stood H.size v0_taped v0_faultKind v0_faultPlace v0_undos v0_turns v0_pieces v0_signs v0_runs g0_all g0_turnWord g0_turnFrom (0 : Int32) N r8 hr8) (cwV 1 hts gX12_alone_X12_laysTurns rfl rfl rfl (by decide +kernel) ⟨Nat.le_of_ble_eq_true rfl, Nat.le_of_ble_eq_true rfl⟩) hK hP hD hS hA [0, 1, 2, 3] [] [0, 1, 2, 3] rfl (by decide) rfl (by decide) (by decide) rfl (by decide) rfl rfl rfl hl.1 rfl (Nat.le_of_ble_eq_true rfl) dX12_alone_29 ⟨Nat.zero_le _, Nat.zero_le _⟩ (fun H locs hP hD hS => ?_)
      refine lv_aload_n hx hb dX12_alone_32 rfl (lv_at hl 0 rfl) ?_
      refine va_get (D := D.1) (ci := 9) (v := .ref a0_all) (C := RX12) (T := TX12) (N := 20) hx hb hts hwX12 hown hK.1 hP 0 rfl rfl 0 (by decide) l7 (fun _ h9 => h9) rfl dX12_alone_33 ?_
      refine lv_iconst (v := 0) hx hb dX12_alone_36 (by decide) ?_
      refine lv_iload_n hx hb dX12_alone_37 rfl (lv_at hl 1 rfl) ?_
      obtain ⟨r9, hr9, hf⟩ := bd hf
      refine zSi (As := [.int (0 : Int32), .int p1]) (rest := [.ref a0_all]) (wn := [(a0, .inr (9, [.ref a0_all, .ref a0_tape, .ref a0_isImage, .int v0_taped, .int v0_faultKind, .int v0_faultPlace, .int v0_undos, .ref a0_turnWord, .ref a0_turnFrom, .int r8.1, .ref a0_pieceSign, .ref a0_pieceFrom, .int v0_pieces, .int v0_signs, .ref a0_runFrom, .ref a0_runLong, .ref a0_runPiece, .int v0_runs, .ref a0_alike, .ref a0_stood])), (a0_all, .inl (D.2 1, 5228, .inl g0_all)), (a0_turnWord, .inl (D.2 1, 320, .inl r8.2.1)), (a0_turnFrom, .inl (D.2 1, 320, .inl r8.2.2))]) ⟨hx, hb, hml, hown, hts⟩ (mX12_wordAt l D H.size (0 : Int32) p1 r9 hr9) (va_cwS 2 hts gX12_alone_X12_wordAt rfl rfl rfl (by decide +kernel) ⟨Nat.le_of_ble_eq_true rfl, Nat.le_of_ble_eq_true rfl⟩) hK hP hD hS hA [] [0, 1, 2, 3] [0, 1, 2, 3] rfl (by decide) rfl (by decide) (by decide) rfl (by decide) rfl hl.1 rfl (Nat.le_of_ble_eq_true rfl) dX12_alone_38 ⟨Nat.zero_le _, Nat.zero_le _⟩ (fun H locs hP hD hS => ?_)
      obtain ⟨h_10, hf⟩ := gd hf
      refine va_iald hx hb hK.1 hP 1 1 rfl rfl h_10 dX12_alone_41 ?_
      refine lv_istore_n (lv' := [(3, .int (g0_all (r9).toNatClampNeg)), (0, .ref a0), (1, .int p1), (2, .int p2)]) hx hb dX12_alone_42 rfl hl (by decide) rfl (fun ls hl => ?_)
      refine lv_iconst (v := 1) hx hb dX12_alone_43 (by decide) ?_
      refine lv_istore (lv' := [(4, .int (1 : Int32)), (3, .int (g0_all (r9).toNatClampNeg)), (0, .ref a0), (1, .int p1), (2, .int p2)]) hx hb dX12_alone_44 hl (by decide) rfl (fun ls hl => ?_)
      exact k46 N (g0_all (r9).toNatClampNeg) (1 : Int32) r8.1 r8.2.1 r8.2.2 H locs ls hf hP hD hS (lv_sub hl [2, 3, 4, 1, 0] rfl)
    · replace hf := ip c_7 hf
      refine lv_iconst (v := -1) hx hb dX12_alone_25 (by decide) ?_
      have he := Option.some.inj hf
      rw [hQ]
      exact W.iret (v := (-1 : Int32)) hx hb hr (fun t ht hW => by rw [← he]; exact ⟨⟨(-1 : Int32), (), rfl, rfl, by rw [ht]; exact hP, hD⟩, hS.F ht⟩) hS.2.2 dX12_alone_26
def fX12_areNear_5 (N : Nat) (g0_all : Nat → Int32) (p1 : Int32) (p2 : Int32) : Nat → Int32 → Int32 → Option (Int32)
  | 0, _, _ => none
  | K + 1, x3, x4 =>
    if p1 < 0 ∨ 5228 ≤ (p1).toNatClampNeg then none else
    if (g0_all (p1).toNatClampNeg) < x4 then
      if p1 < 0 ∨ 5228 ≤ (p1).toNatClampNeg then none else
      if p2 < 0 ∨ 5228 ≤ (p2).toNatClampNeg then none else
      if (g0_all (p1).toNatClampNeg) = (g0_all (p2).toNatClampNeg) then
        if x3 = (1 : Int32) then
          some ((1 : Int32))
        else
          some ((0 : Int32))
      else
        some ((0 : Int32))
    else
      if (p1 + x4) < 0 ∨ 5228 ≤ ((p1 + x4)).toNatClampNeg then none else
      if (p2 + x4) < 0 ∨ 5228 ≤ ((p2 + x4)).toNatClampNeg then none else
      if (g0_all ((p1 + x4)).toNatClampNeg) = (g0_all ((p2 + x4)).toNatClampNeg) then
        (fX12_areNear_5 N g0_all p1 p2 K) (x3 + (0 : Int32)) (x4 + (1 : Int32))
      else
        (fX12_areNear_5 N g0_all p1 p2 K) (x3 + (1 : Int32)) (x4 + (1 : Int32))
def fX12_areNear (N : Nat) (g0_all : Nat → Int32) (p1 : Int32) (p2 : Int32) : Option (Int32) :=
  fX12_areNear_5 N g0_all p1 p2 N (0 : Int32) (1 : Int32)
set_option maxHeartbeats 4000000 in
set_option maxRecDepth 100000 in
theorem mX12_areNear (l : Launch) (D : zG) (a0 : Nat) (a0_all : Nat) (a0_tape : Nat) (a0_isImage : Nat) (a0_turnWord : Nat) (a0_turnFrom : Nat) (a0_pieceSign : Nat) (a0_pieceFrom : Nat) (a0_runFrom : Nat) (a0_runLong : Nat) (a0_runPiece : Nat) (a0_alike : Nat) (a0_stood : Nat) (sz : Nat)  (v0_taped : Int32) (v0_faultKind : Int32) (v0_faultPlace : Int32) (v0_undos : Int32) (v0_turns : Int32) (v0_pieces : Int32) (v0_signs : Int32) (v0_runs : Int32) (g0_all : Nat → Int32) (p1 : Int32) (p2 : Int32) (N : Nat) (res : Int32) (hf : fX12_areNear N g0_all p1 p2 = some res) : Met l yX12_areNear wsX12_areNear ({ frames := 0, cells := 0, slots := 0, locals := 0 } : Room) (va_Pc [.ref a0, .int p1, .int p2] (zW D sz [(a0, .inr (9, [.ref a0_all, .ref a0_tape, .ref a0_isImage, .int v0_taped, .int v0_faultKind, .int v0_faultPlace, .int v0_undos, .ref a0_turnWord, .ref a0_turnFrom, .int v0_turns, .ref a0_pieceSign, .ref a0_pieceFrom, .int v0_pieces, .int v0_signs, .ref a0_runFrom, .ref a0_runLong, .ref a0_runPiece, .int v0_runs, .ref a0_alike, .ref a0_stood])), (a0_all, .inl (D.2 1, 5228, .inl g0_all))])) (va_Qi (fun r (_ : Unit) => r = res ∧ (r = 0 ∨ r = 1)) (fun _ => zB D (va_A [(a0, .inr (9, [.ref a0_all, .ref a0_tape, .ref a0_isImage, .int v0_taped, .int v0_faultKind, .int v0_faultPlace, .int v0_undos, .ref a0_turnWord, .ref a0_turnFrom, .int v0_turns, .ref a0_pieceSign, .ref a0_pieceFrom, .int v0_pieces, .int v0_signs, .ref a0_runFrom, .ref a0_runLong, .ref a0_runPiece, .int v0_runs, .ref a0_alike, .ref a0_stood])), (a0_all, .inl (D.2 1, 5228, .inl g0_all))] sz) [(a0, .inr (9, [.ref a0_all, .ref a0_tape, .ref a0_isImage, .int v0_taped, .int v0_faultKind, .int v0_faultPlace, .int v0_undos, .ref a0_turnWord, .ref a0_turnFrom, .int v0_turns, .ref a0_pieceSign, .ref a0_pieceFrom, .int v0_pieces, .int v0_signs, .ref a0_runFrom, .ref a0_runLong, .ref a0_runPiece, .int v0_runs, .ref a0_alike, .ref a0_stood])), (a0_all, .inl (D.2 1, 5228, .inl g0_all))]) (va_A [(a0, .inr (9, [.ref a0_all, .ref a0_tape, .ref a0_isImage, .int v0_taped, .int v0_faultKind, .int v0_faultPlace, .int v0_undos, .ref a0_turnWord, .ref a0_turnFrom, .int v0_turns, .ref a0_pieceSign, .ref a0_pieceFrom, .int v0_pieces, .int v0_signs, .ref a0_runFrom, .ref a0_runLong, .ref a0_runPiece, .int v0_runs, .ref a0_alike, .ref a0_stood])), (a0_all, .inl (D.2 1, 5228, .inl g0_all))] sz)) 0 0 (va_A [(a0, .inr (9, [.ref a0_all, .ref a0_tape, .ref a0_isImage, .int v0_taped, .int v0_faultKind, .int v0_faultPlace, .int v0_undos, .ref a0_turnWord, .ref a0_turnFrom, .int v0_turns, .ref a0_pieceSign, .ref a0_pieceFrom, .int v0_pieces, .int v0_signs, .ref a0_runFrom, .ref a0_runLong, .ref a0_runPiece, .int v0_runs, .ref a0_alike, .ref a0_stood])), (a0_all, .inl (D.2 1, 5228, .inl g0_all))] sz) := by
  refine Met.ofW (cc := cX12_areNear) (maxL := 5) (ret := (some .boolean)) (by decide) rfl ?_
  intro p e s m args below meth c s₁ B hml hv
  obtain ⟨rfl, hsz, hP, hK, hD0⟩ := hv
  have hx := B.exec
  have hb := B.bytes
  have hr := B.returns
  have hts := atoms_spec (ws := wsX12_areNear) B.pre
  have hown : s.vm.findClass RX12 = some m.cls := findClass_of_methodNamed B.named
  have hlocks := B.notSynchronized
  subst hsz
  have hD := hD0.self (sz := s.heap.size)
  generalize hAe : va_A [(a0, .inr (9, [.ref a0_all, .ref a0_tape, .ref a0_isImage, .int v0_taped, .int v0_faultKind, .int v0_faultPlace, .int v0_undos, .ref a0_turnWord, .ref a0_turnFrom, .int v0_turns, .ref a0_pieceSign, .ref a0_pieceFrom, .int v0_pieces, .int v0_signs, .ref a0_runFrom, .ref a0_runLong, .ref a0_runPiece, .int v0_runs, .ref a0_alike, .ref a0_stood])), (a0_all, .inl (D.2 1, 5228, .inl g0_all))] s.heap.size = A at hD ⊢
  have hA : ∀ q : Nat, s.heap.size ≤ q → A q := fun q h => by rw [← hAe]; exact Or.inr h
  have l7 := zat hts 1 (w := .fieldLink RX12 7 "TurnedWordsModel" "all" "[I") rfl
  have hwX12 : ∀ w ∈ u_ws RX12 TX12 20, w ∈ wsX12_areNear := fun w h => List.mem_cons_of_mem _ (List.mem_append_right _ h)
  have hl := lv_entry ([.ref a0, .int p1, .int p2]) (n := 5) (Nat.le_of_ble_eq_true rfl)
  rw [lg_entry_eq]
  generalize (lg_sl ([.ref a0, .int p1, .int p2]) ++ List.replicate (5 - (lg_sl ([.ref a0, .int p1, .int p2])).length) Slot.unset).toArray = ls at hl ⊢
  have hl : lv_has ls 5 [(0, .ref a0), (1, .int p1), (2, .int p2)] := hl
  refine zStart (A := A) hP (fun Q0 H locs hQ hP hS => ?_)
  have k5 : ∀ K : Nat, ∀ (x3 : Int32) (x4 : Int32) (H : Heap) (locs : List Loc) (ls : Array Slot), fX12_areNear_5 N g0_all p1 p2 K x3 x4 = some res → va_P D.1 vwCl [(a0, .inr (9, [.ref a0_all, .ref a0_tape, .ref a0_isImage, .int v0_taped, .int v0_faultKind, .int v0_faultPlace, .int v0_undos, .ref a0_turnWord, .ref a0_turnFrom, .int v0_turns, .ref a0_pieceSign, .ref a0_pieceFrom, .int v0_pieces, .int v0_signs, .ref a0_runFrom, .ref a0_runLong, .ref a0_runPiece, .int v0_runs, .ref a0_alike, .ref a0_stood])), (a0_all, .inl (D.2 1, 5228, .inl g0_all))] H → va_D A [(a0, .inr (9, [.ref a0_all, .ref a0_tape, .ref a0_isImage, .int v0_taped, .int v0_faultKind, .int v0_faultPlace, .int v0_undos, .ref a0_turnWord, .ref a0_turnFrom, .int v0_turns, .ref a0_pieceSign, .ref a0_pieceFrom, .int v0_pieces, .int v0_signs, .ref a0_runFrom, .ref a0_runLong, .ref a0_runPiece, .int v0_runs, .ref a0_alike, .ref a0_stood])), (a0_all, .inl (D.2 1, 5228, .inl g0_all))] → va_S A s.heap H locs → lv_has ls 5 [(0, .ref a0), (1, .int p1), (2, .int p2), (3, .int x3), (4, .int x4)] → W p l e (headSpec wsX12_areNear ({ frames := 0, cells := 0, slots := 0, locals := 0 } : Room)).room s m ([.ref a0, .int p1, .int p2] : List Value).toArray below meth c H locs 0 0 Q0 (F0 m 5 ls []) := by
    intro K
    induction K with
    | zero =>
      intro x3 x4 H locs ls hf
      rw [fX12_areNear_5] at hf
      cases hf
    | succ K ih =>
      intro x3 x4 H locs ls hf hP hD hS hl
      rw [fX12_areNear_5] at hf
      refine lv_iload hx hb dX12_areNear_5 (lv_at hl 4 rfl) ?_
      refine lv_aload_n hx hb dX12_areNear_7 rfl (lv_at hl 0 rfl) ?_
      refine va_get (D := D.1) (ci := 9) (v := .ref a0_all) (C := RX12) (T := TX12) (N := 20) hx hb hts hwX12 hown hK.1 hP 0 rfl rfl 0 (by decide) l7 (fun _ h9 => h9) rfl dX12_areNear_8 ?_
      refine lv_iload_n hx hb dX12_areNear_11 rfl (lv_at hl 1 rfl) ?_
      obtain ⟨h_1, hf⟩ := gd hf
      refine va_iald hx hb hK.1 hP 1 1 rfl rfl h_1 dX12_areNear_12 ?_
      refine lv_icmp_gt (tgt := 51) hx hb dX12_areNear_13 (by decide) (fun c_2 => ?_) (fun c_2 => ?_)
      · replace hf := ip c_2 hf
        refine lv_aload_n hx hb dX12_areNear_51 rfl (lv_at hl 0 rfl) ?_
        refine va_get (D := D.1) (ci := 9) (v := .ref a0_all) (C := RX12) (T := TX12) (N := 20) hx hb hts hwX12 hown hK.1 hP 0 rfl rfl 0 (by decide) l7 (fun _ h9 => h9) rfl dX12_areNear_52 ?_
        refine lv_iload_n hx hb dX12_areNear_55 rfl (lv_at hl 1 rfl) ?_
        obtain ⟨h_3, hf⟩ := gd hf
        refine va_iald hx hb hK.1 hP 1 1 rfl rfl h_3 dX12_areNear_56 ?_
        refine lv_aload_n hx hb dX12_areNear_57 rfl (lv_at hl 0 rfl) ?_
        refine va_get (D := D.1) (ci := 9) (v := .ref a0_all) (C := RX12) (T := TX12) (N := 20) hx hb hts hwX12 hown hK.1 hP 0 rfl rfl 0 (by decide) l7 (fun _ h9 => h9) rfl dX12_areNear_58 ?_
        refine lv_iload_n hx hb dX12_areNear_61 rfl (lv_at hl 2 rfl) ?_
        obtain ⟨h_4, hf⟩ := gd hf
        refine va_iald hx hb hK.1 hP 1 1 rfl rfl h_4 dX12_areNear_62 ?_
        refine lv_icmp_ne (tgt := 75) hx hb dX12_areNear_63 (by decide) (fun c_5 => ?_) (fun c_5 => ?_)
        · replace hf := im c_5 hf
          refine lv_iconst (v := 0) hx hb dX12_areNear_75 (by decide) ?_
          have he := Option.some.inj hf
          rw [hQ]
          exact W.zret (v := (0 : Int32)) hx hb hr (znb (Or.inl rfl)) (fun t ht hW => by rw [← he]; exact ⟨⟨(0 : Int32), (), rfl, ⟨rfl, Or.inl rfl⟩, by rw [ht]; exact hP, hD⟩, hS.F ht⟩) hS.2.2 dX12_areNear_76
        · replace hf := ip c_5 hf
          refine lv_iload_n hx hb dX12_areNear_66 rfl (lv_at hl 3 rfl) ?_
          refine lv_iconst (v := 1) hx hb dX12_areNear_67 (by decide) ?_
          refine lv_icmp_ne (tgt := 75) hx hb dX12_areNear_68 (by decide) (fun c_6 => ?_) (fun c_6 => ?_)
          · replace hf := im c_6 hf
            refine lv_iconst (v := 0) hx hb dX12_areNear_75 (by decide) ?_
            have he := Option.some.inj hf
            rw [hQ]
            exact W.zret (v := (0 : Int32)) hx hb hr (znb (Or.inl rfl)) (fun t ht hW => by rw [← he]; exact ⟨⟨(0 : Int32), (), rfl, ⟨rfl, Or.inl rfl⟩, by rw [ht]; exact hP, hD⟩, hS.F ht⟩) hS.2.2 dX12_areNear_76
          · replace hf := ip c_6 hf
            refine lv_iconst (v := 1) hx hb dX12_areNear_71 (by decide) ?_
            refine lv_goto (tgt := 76) hx hb dX12_areNear_72 (by decide) ?_
            have he := Option.some.inj hf
            rw [hQ]
            exact W.zret (v := (1 : Int32)) hx hb hr (znb (Or.inr rfl)) (fun t ht hW => by rw [← he]; exact ⟨⟨(1 : Int32), (), rfl, ⟨rfl, Or.inr rfl⟩, by rw [ht]; exact hP, hD⟩, hS.F ht⟩) hS.2.2 dX12_areNear_76
      · replace hf := im c_2 hf
        refine lv_iload_n hx hb dX12_areNear_16 rfl (lv_at hl 3 rfl) ?_
        refine lv_aload_n hx hb dX12_areNear_17 rfl (lv_at hl 0 rfl) ?_
        refine va_get (D := D.1) (ci := 9) (v := .ref a0_all) (C := RX12) (T := TX12) (N := 20) hx hb hts hwX12 hown hK.1 hP 0 rfl rfl 0 (by decide) l7 (fun _ h9 => h9) rfl dX12_areNear_18 ?_
        refine lv_iload_n hx hb dX12_areNear_21 rfl (lv_at hl 1 rfl) ?_
        refine lv_iload hx hb dX12_areNear_22 (lv_at hl 4 rfl) ?_
        refine lv_iadd hx hb dX12_areNear_24 ?_
        obtain ⟨h_7, hf⟩ := gd hf
        refine va_iald hx hb hK.1 hP 1 1 rfl rfl h_7 dX12_areNear_25 ?_
        refine lv_aload_n hx hb dX12_areNear_26 rfl (lv_at hl 0 rfl) ?_
        refine va_get (D := D.1) (ci := 9) (v := .ref a0_all) (C := RX12) (T := TX12) (N := 20) hx hb hts hwX12 hown hK.1 hP 0 rfl rfl 0 (by decide) l7 (fun _ h9 => h9) rfl dX12_areNear_27 ?_
        refine lv_iload_n hx hb dX12_areNear_30 rfl (lv_at hl 2 rfl) ?_
        refine lv_iload hx hb dX12_areNear_31 (lv_at hl 4 rfl) ?_
        refine lv_iadd hx hb dX12_areNear_33 ?_
        obtain ⟨h_8, hf⟩ := gd hf
        refine va_iald hx hb hK.1 hP 1 1 rfl rfl h_8 dX12_areNear_34 ?_
        refine lv_icmp_eq (tgt := 42) hx hb dX12_areNear_35 (by decide) (fun c_9 => ?_) (fun c_9 => ?_)
        · replace hf := ip c_9 hf
          refine lv_iconst (v := 0) hx hb dX12_areNear_42 (by decide) ?_
          refine lv_iadd hx hb dX12_areNear_43 ?_
          refine lv_istore_n (lv' := [(3, .int (x3 + (0 : Int32))), (0, .ref a0), (1, .int p1), (2, .int p2), (4, .int x4)]) hx hb dX12_areNear_44 rfl hl (by decide) rfl (fun ls hl => ?_)
          refine lv_iinc (v := (x4 + (1 : Int32))) (lv' := [(4, .int (x4 + (1 : Int32))), (3, .int (x3 + (0 : Int32))), (0, .ref a0), (1, .int p1), (2, .int p2)]) hx hb dX12_areNear_45 hl (k := 4) rfl rfl (by decide) rfl (fun ls hl => ?_)
          refine lv_goto (tgt := 5) hx hb dX12_areNear_48 (by decide) ?_
          exact ih (x3 + (0 : Int32)) (x4 + (1 : Int32)) H locs ls hf hP hD hS (lv_sub hl [2, 3, 4, 1, 0] rfl)
        · replace hf := im c_9 hf
          refine lv_iconst (v := 1) hx hb dX12_areNear_38 (by decide) ?_
          refine lv_goto (tgt := 43) hx hb dX12_areNear_39 (by decide) ?_
          refine lv_iadd hx hb dX12_areNear_43 ?_
          refine lv_istore_n (lv' := [(3, .int (x3 + (1 : Int32))), (0, .ref a0), (1, .int p1), (2, .int p2), (4, .int x4)]) hx hb dX12_areNear_44 rfl hl (by decide) rfl (fun ls hl => ?_)
          refine lv_iinc (v := (x4 + (1 : Int32))) (lv' := [(4, .int (x4 + (1 : Int32))), (3, .int (x3 + (1 : Int32))), (0, .ref a0), (1, .int p1), (2, .int p2)]) hx hb dX12_areNear_45 hl (k := 4) rfl rfl (by decide) rfl (fun ls hl => ?_)
          refine lv_goto (tgt := 5) hx hb dX12_areNear_48 (by decide) ?_
          exact ih (x3 + (1 : Int32)) (x4 + (1 : Int32)) H locs ls hf hP hD hS (lv_sub hl [2, 3, 4, 1, 0] rfl)
  unfold fX12_areNear at hf
  refine lv_iconst (v := 0) hx hb dX12_areNear_0 (by decide) ?_
  refine lv_istore_n (lv' := [(3, .int (0 : Int32)), (0, .ref a0), (1, .int p1), (2, .int p2)]) hx hb dX12_areNear_1 rfl hl (by decide) rfl (fun ls hl => ?_)
  refine lv_iconst (v := 1) hx hb dX12_areNear_2 (by decide) ?_
  refine lv_istore (lv' := [(4, .int (1 : Int32)), (3, .int (0 : Int32)), (0, .ref a0), (1, .int p1), (2, .int p2)]) hx hb dX12_areNear_3 hl (by decide) rfl (fun ls hl => ?_)
  exact k5 N (0 : Int32) (1 : Int32) H locs ls hf hP hD hS (lv_sub hl [2, 3, 4, 1, 0] rfl)
def fX12_near_24 (N : Nat) (g0_all : Nat → Int32) (p1 : Int32) (p2 : Int32) : Nat → Int32 → Int32 → Option (Int32)
  | 0, _, _ => none
  | K + 1, x3, x4 =>
    if (0 : Int32) < 0 ∨ 5228 ≤ ((0 : Int32)).toNatClampNeg then none else
    if (g0_all ((0 : Int32)).toNatClampNeg) ≤ x4 then
      if p2 = (-1 : Int32) then
        some (x3)
      else
        some ((-2 : Int32))
    else
      Option.bind (fX12_wordAt (0 : Int32) p1) fun r8 =>
      Option.bind (fX12_wordAt (0 : Int32) x4) fun r9 =>
      Option.bind (fX12_areNear N g0_all r8 r9) fun r10 =>
      if r10 = (0 : Int32) then
        (fX12_near_24 N g0_all p1 p2 K) x3 (x4 + (1 : Int32))
      else
        if x3 = p2 then
          some (x4)
        else
          (fX12_near_24 N g0_all p1 p2 K) (x3 + (1 : Int32)) (x4 + (1 : Int32))
def fX12_near (N : Nat) (g0_all : Nat → Int32) (p1 : Int32) (p2 : Int32) : Option (Int32) :=
  if (0 : Int32) < 0 ∨ 5228 ≤ ((0 : Int32)).toNatClampNeg then none else
  Option.bind (fX12_isIn p1 (0 : Int32) ((g0_all ((0 : Int32)).toNatClampNeg) - (1 : Int32))) fun r2 =>
  if r2 = (0 : Int32) then
    some ((-2 : Int32))
  else
    fX12_near_24 N g0_all p1 p2 N (0 : Int32) (0 : Int32)
set_option maxHeartbeats 4000000 in
set_option maxRecDepth 100000 in
theorem mX12_near (l : Launch) (D : zG) (a0 : Nat) (a0_all : Nat) (a0_tape : Nat) (a0_isImage : Nat) (a0_turnWord : Nat) (a0_turnFrom : Nat) (a0_pieceSign : Nat) (a0_pieceFrom : Nat) (a0_runFrom : Nat) (a0_runLong : Nat) (a0_runPiece : Nat) (a0_alike : Nat) (a0_stood : Nat) (sz : Nat)  (v0_taped : Int32) (v0_faultKind : Int32) (v0_faultPlace : Int32) (v0_undos : Int32) (v0_turns : Int32) (v0_pieces : Int32) (v0_signs : Int32) (v0_runs : Int32) (g0_all : Nat → Int32) (p1 : Int32) (p2 : Int32) (N : Nat) (res : Int32) (hf : fX12_near N g0_all p1 p2 = some res) : Met l yX12_near wsX12_near ({ frames := 1, cells := 0, slots := 0, locals := 24 } : Room) (va_Pc [.ref a0, .int p1, .int p2] (zW D sz [(a0, .inr (9, [.ref a0_all, .ref a0_tape, .ref a0_isImage, .int v0_taped, .int v0_faultKind, .int v0_faultPlace, .int v0_undos, .ref a0_turnWord, .ref a0_turnFrom, .int v0_turns, .ref a0_pieceSign, .ref a0_pieceFrom, .int v0_pieces, .int v0_signs, .ref a0_runFrom, .ref a0_runLong, .ref a0_runPiece, .int v0_runs, .ref a0_alike, .ref a0_stood])), (a0_all, .inl (D.2 1, 5228, .inl g0_all))])) (va_Qi (fun r (_ : Unit) => r = res) (fun _ => zB D (va_A [(a0, .inr (9, [.ref a0_all, .ref a0_tape, .ref a0_isImage, .int v0_taped, .int v0_faultKind, .int v0_faultPlace, .int v0_undos, .ref a0_turnWord, .ref a0_turnFrom, .int v0_turns, .ref a0_pieceSign, .ref a0_pieceFrom, .int v0_pieces, .int v0_signs, .ref a0_runFrom, .ref a0_runLong, .ref a0_runPiece, .int v0_runs, .ref a0_alike, .ref a0_stood])), (a0_all, .inl (D.2 1, 5228, .inl g0_all))] sz) [(a0, .inr (9, [.ref a0_all, .ref a0_tape, .ref a0_isImage, .int v0_taped, .int v0_faultKind, .int v0_faultPlace, .int v0_undos, .ref a0_turnWord, .ref a0_turnFrom, .int v0_turns, .ref a0_pieceSign, .ref a0_pieceFrom, .int v0_pieces, .int v0_signs, .ref a0_runFrom, .ref a0_runLong, .ref a0_runPiece, .int v0_runs, .ref a0_alike, .ref a0_stood])), (a0_all, .inl (D.2 1, 5228, .inl g0_all))]) (va_A [(a0, .inr (9, [.ref a0_all, .ref a0_tape, .ref a0_isImage, .int v0_taped, .int v0_faultKind, .int v0_faultPlace, .int v0_undos, .ref a0_turnWord, .ref a0_turnFrom, .int v0_turns, .ref a0_pieceSign, .ref a0_pieceFrom, .int v0_pieces, .int v0_signs, .ref a0_runFrom, .ref a0_runLong, .ref a0_runPiece, .int v0_runs, .ref a0_alike, .ref a0_stood])), (a0_all, .inl (D.2 1, 5228, .inl g0_all))] sz)) 0 0 (va_A [(a0, .inr (9, [.ref a0_all, .ref a0_tape, .ref a0_isImage, .int v0_taped, .int v0_faultKind, .int v0_faultPlace, .int v0_undos, .ref a0_turnWord, .ref a0_turnFrom, .int v0_turns, .ref a0_pieceSign, .ref a0_pieceFrom, .int v0_pieces, .int v0_signs, .ref a0_runFrom, .ref a0_runLong, .ref a0_runPiece, .int v0_runs, .ref a0_alike, .ref a0_stood])), (a0_all, .inl (D.2 1, 5228, .inl g0_all))] sz) := by
  refine Met.ofW (cc := cX12_near) (maxL := 5) (ret := (some .int)) (by decide) rfl ?_
  intro p e s m args below meth c s₁ B hml hv
  obtain ⟨rfl, hsz, hP, hK, hD0⟩ := hv
  have hx := B.exec
  have hb := B.bytes
  have hr := B.returns
  have hts := atoms_spec (ws := wsX12_near) B.pre
  have hown : s.vm.findClass RX12 = some m.cls := findClass_of_methodNamed B.named
  have hlocks := B.notSynchronized
  subst hsz
  have hD := hD0.self (sz := s.heap.size)
  generalize hAe : va_A [(a0, .inr (9, [.ref a0_all, .ref a0_tape, .ref a0_isImage, .int v0_taped, .int v0_faultKind, .int v0_faultPlace, .int v0_undos, .ref a0_turnWord, .ref a0_turnFrom, .int v0_turns, .ref a0_pieceSign, .ref a0_pieceFrom, .int v0_pieces, .int v0_signs, .ref a0_runFrom, .ref a0_runLong, .ref a0_runPiece, .int v0_runs, .ref a0_alike, .ref a0_stood])), (a0_all, .inl (D.2 1, 5228, .inl g0_all))] s.heap.size = A at hD ⊢
  have hA : ∀ q : Nat, s.heap.size ≤ q → A q := fun q h => by rw [← hAe]; exact Or.inr h
  have l7 := zat hts 1 (w := .fieldLink RX12 7 "TurnedWordsModel" "all" "[I") rfl
  have hwX12 : ∀ w ∈ u_ws RX12 TX12 20, w ∈ wsX12_near := fun w h => List.mem_cons_of_mem _ (List.mem_append_right _ h)
  have hl := lv_entry ([.ref a0, .int p1, .int p2]) (n := 5) (Nat.le_of_ble_eq_true rfl)
  rw [lg_entry_eq]
  generalize (lg_sl ([.ref a0, .int p1, .int p2]) ++ List.replicate (5 - (lg_sl ([.ref a0, .int p1, .int p2])).length) Slot.unset).toArray = ls at hl ⊢
  have hl : lv_has ls 5 [(0, .ref a0), (1, .int p1), (2, .int p2)] := hl
  refine zStart (A := A) hP (fun Q0 H locs hQ hP hS => ?_)
  have k24 : ∀ K : Nat, ∀ (x3 : Int32) (x4 : Int32) (H : Heap) (locs : List Loc) (ls : Array Slot), fX12_near_24 N g0_all p1 p2 K x3 x4 = some res → va_P D.1 vwCl [(a0, .inr (9, [.ref a0_all, .ref a0_tape, .ref a0_isImage, .int v0_taped, .int v0_faultKind, .int v0_faultPlace, .int v0_undos, .ref a0_turnWord, .ref a0_turnFrom, .int v0_turns, .ref a0_pieceSign, .ref a0_pieceFrom, .int v0_pieces, .int v0_signs, .ref a0_runFrom, .ref a0_runLong, .ref a0_runPiece, .int v0_runs, .ref a0_alike, .ref a0_stood])), (a0_all, .inl (D.2 1, 5228, .inl g0_all))] H → va_D A [(a0, .inr (9, [.ref a0_all, .ref a0_tape, .ref a0_isImage, .int v0_taped, .int v0_faultKind, .int v0_faultPlace, .int v0_undos, .ref a0_turnWord, .ref a0_turnFrom, .int v0_turns, .ref a0_pieceSign, .ref a0_pieceFrom, .int v0_pieces, .int v0_signs, .ref a0_runFrom, .ref a0_runLong, .ref a0_runPiece, .int v0_runs, .ref a0_alike, .ref a0_stood])), (a0_all, .inl (D.2 1, 5228, .inl g0_all))] → va_S A s.heap H locs → lv_has ls 5 [(0, .ref a0), (1, .int p1), (2, .int p2), (3, .int x3), (4, .int x4)] → W p l e (headSpec wsX12_near ({ frames := 1, cells := 0, slots := 0, locals := 24 } : Room)).room s m ([.ref a0, .int p1, .int p2] : List Value).toArray below meth c H locs 0 0 Q0 (F0 m 24 ls []) := by
    intro K
    induction K with
    | zero =>
      intro x3 x4 H locs ls hf
      rw [fX12_near_24] at hf
      cases hf
    | succ K ih =>
      intro x3 x4 H locs ls hf hP hD hS hl
      rw [fX12_near_24] at hf
      refine lv_iload hx hb dX12_near_24 (lv_at hl 4 rfl) ?_
      refine lv_aload_n hx hb dX12_near_26 rfl (lv_at hl 0 rfl) ?_
      refine va_get (D := D.1) (ci := 9) (v := .ref a0_all) (C := RX12) (T := TX12) (N := 20) hx hb hts hwX12 hown hK.1 hP 0 rfl rfl 0 (by decide) l7 (fun _ h9 => h9) rfl dX12_near_27 ?_
      refine lv_iconst (v := 0) hx hb dX12_near_30 (by decide) ?_
      obtain ⟨h_5, hf⟩ := gd hf
      refine va_iald hx hb hK.1 hP 1 1 rfl rfl h_5 dX12_near_31 ?_
      refine lv_icmp_ge (tgt := 73) hx hb dX12_near_32 (by decide) (fun c_6 => ?_) (fun c_6 => ?_)
      · replace hf := ip c_6 hf
        refine lv_iload_n hx hb dX12_near_73 rfl (lv_at hl 2 rfl) ?_
        refine lv_iconst (v := -1) hx hb dX12_near_74 (by decide) ?_
        refine lv_icmp_ne (tgt := 82) hx hb dX12_near_75 (by decide) (fun c_7 => ?_) (fun c_7 => ?_)
        · replace hf := im c_7 hf
          refine lv_bipush (v := -2) hx hb dX12_near_82 (by decide) ?_
          have he := Option.some.inj hf
          rw [hQ]
          exact W.iret (v := (-2 : Int32)) hx hb hr (fun t ht hW => by rw [← he]; exact ⟨⟨(-2 : Int32), (), rfl, rfl, by rw [ht]; exact hP, hD⟩, hS.F ht⟩) hS.2.2 dX12_near_84
        · replace hf := ip c_7 hf
          refine lv_iload_n hx hb dX12_near_78 rfl (lv_at hl 3 rfl) ?_
          refine lv_goto (tgt := 84) hx hb dX12_near_79 (by decide) ?_
          have he := Option.some.inj hf
          rw [hQ]
          exact W.iret (v := x3) hx hb hr (fun t ht hW => by rw [← he]; exact ⟨⟨x3, (), rfl, rfl, by rw [ht]; exact hP, hD⟩, hS.F ht⟩) hS.2.2 dX12_near_84
      · replace hf := im c_6 hf
        refine lv_aload_n hx hb dX12_near_35 rfl (lv_at hl 0 rfl) ?_
        refine lv_iconst (v := 0) hx hb dX12_near_36 (by decide) ?_
        refine lv_iload_n hx hb dX12_near_37 rfl (lv_at hl 1 rfl) ?_
        obtain ⟨r8, hr8, hf⟩ := bd hf
        refine zSi (As := [.int (0 : Int32), .int p1]) (rest := [.ref a0]) (wn := [(a0, .inr (9, [.ref a0_all, .ref a0_tape, .ref a0_isImage, .int v0_taped, .int v0_faultKind, .int v0_faultPlace, .int v0_undos, .ref a0_turnWord, .ref a0_turnFrom, .int v0_turns, .ref a0_pieceSign, .ref a0_pieceFrom, .int v0_pieces, .int v0_signs, .ref a0_runFrom, .ref a0_runLong, .ref a0_runPiece, .int v0_runs, .ref a0_alike, .ref a0_stood])), (a0_all, .inl (D.2 1, 5228, .inl g0_all))]) ⟨hx, hb, hml, hown, hts⟩ (mX12_wordAt l D H.size (0 : Int32) p1 r8 hr8) (va_cwS 2 hts gX12_near_X12_wordAt rfl rfl rfl (by decide +kernel) ⟨Nat.le_of_ble_eq_true rfl, Nat.le_of_ble_eq_true rfl⟩) hK hP hD hS hA [] [0, 1] [0, 1] rfl (by decide) rfl (by decide) (by decide) rfl (by decide) rfl hl.1 rfl (Nat.le_of_ble_eq_true rfl) dX12_near_38 ⟨Nat.zero_le _, Nat.zero_le _⟩ (fun H locs hP hD hS => ?_)
        refine lv_iconst (v := 0) hx hb dX12_near_41 (by decide) ?_
        refine lv_iload hx hb dX12_near_42 (lv_at hl 4 rfl) ?_
        obtain ⟨r9, hr9, hf⟩ := bd hf
        refine zSi (As := [.int (0 : Int32), .int x4]) (rest := [.int r8, .ref a0]) (wn := [(a0, .inr (9, [.ref a0_all, .ref a0_tape, .ref a0_isImage, .int v0_taped, .int v0_faultKind, .int v0_faultPlace, .int v0_undos, .ref a0_turnWord, .ref a0_turnFrom, .int v0_turns, .ref a0_pieceSign, .ref a0_pieceFrom, .int v0_pieces, .int v0_signs, .ref a0_runFrom, .ref a0_runLong, .ref a0_runPiece, .int v0_runs, .ref a0_alike, .ref a0_stood])), (a0_all, .inl (D.2 1, 5228, .inl g0_all))]) ⟨hx, hb, hml, hown, hts⟩ (mX12_wordAt l D H.size (0 : Int32) x4 r9 hr9) (va_cwS 2 hts gX12_near_X12_wordAt rfl rfl rfl (by decide +kernel) ⟨Nat.le_of_ble_eq_true rfl, Nat.le_of_ble_eq_true rfl⟩) hK hP hD hS hA [] [0, 1] [0, 1] rfl (by decide) rfl (by decide) (by decide) rfl (by decide) rfl hl.1 rfl (Nat.le_of_ble_eq_true rfl) dX12_near_44 ⟨Nat.zero_le _, Nat.zero_le _⟩ (fun H locs hP hD hS => ?_)
        obtain ⟨r10, hr10, hf⟩ := bd hf
        refine zVz (As := [.int r8, .int r9]) (rest := []) (ci := 9) (q0 := 0) (wn := [(a0, .inr (9, [.ref a0_all, .ref a0_tape, .ref a0_isImage, .int v0_taped, .int v0_faultKind, .int v0_faultPlace, .int v0_undos, .ref a0_turnWord, .ref a0_turnFrom, .int v0_turns, .ref a0_pieceSign, .ref a0_pieceFrom, .int v0_pieces, .int v0_signs, .ref a0_runFrom, .ref a0_runLong, .ref a0_runPiece, .int v0_runs, .ref a0_alike, .ref a0_stood])), (a0_all, .inl (D.2 1, 5228, .inl g0_all))]) ⟨hx, hb, hml, hown, hts⟩ (mX12_areNear l D a0 a0_all a0_tape a0_isImage a0_turnWord a0_turnFrom a0_pieceSign a0_pieceFrom a0_runFrom a0_runLong a0_runPiece a0_alike a0_stood H.size v0_taped v0_faultKind v0_faultPlace v0_undos v0_turns v0_pieces v0_signs v0_runs g0_all r8 r9 N r10 hr10) (cwV 2 hts gX12_near_X12_areNear rfl rfl rfl (by decide +kernel) ⟨Nat.le_of_ble_eq_true rfl, Nat.le_of_ble_eq_true rfl⟩) hK hP hD hS hA [0, 1] [] [0, 1] rfl (by decide) rfl (by decide) (by decide) rfl (by decide) rfl rfl rfl hl.1 rfl (Nat.le_of_ble_eq_true rfl) dX12_near_47 ⟨Nat.zero_le _, Nat.zero_le _⟩ (fun H locs hb_11 hP hD hS => ?_)
        refine lv_if_ne (tgt := 56) hx hb dX12_near_50 (by decide) (fun c_12 => ?_) (fun c_12 => ?_)
        · replace hf := im c_12 hf
          refine lv_iload_n hx hb dX12_near_56 rfl (lv_at hl 3 rfl) ?_
          refine lv_iload_n hx hb dX12_near_57 rfl (lv_at hl 2 rfl) ?_
          refine lv_icmp_ne (tgt := 64) hx hb dX12_near_58 (by decide) (fun c_13 => ?_) (fun c_13 => ?_)
          · replace hf := im c_13 hf
            refine lv_iinc (v := (x3 + (1 : Int32))) (lv' := [(3, .int (x3 + (1 : Int32))), (0, .ref a0), (1, .int p1), (2, .int p2), (4, .int x4)]) hx hb dX12_near_64 hl (k := 3) rfl rfl (by decide) rfl (fun ls hl => ?_)
            refine lv_iinc (v := (x4 + (1 : Int32))) (lv' := [(4, .int (x4 + (1 : Int32))), (3, .int (x3 + (1 : Int32))), (0, .ref a0), (1, .int p1), (2, .int p2)]) hx hb dX12_near_67 hl (k := 4) rfl rfl (by decide) rfl (fun ls hl => ?_)
            refine lv_goto (tgt := 24) hx hb dX12_near_70 (by decide) ?_
            exact ih (x3 + (1 : Int32)) (x4 + (1 : Int32)) H locs ls hf hP hD hS (lv_sub hl [2, 3, 4, 1, 0] rfl)
          · replace hf := ip c_13 hf
            refine lv_iload hx hb dX12_near_61 (lv_at hl 4 rfl) ?_
            have he := Option.some.inj hf
            rw [hQ]
            exact W.iret (v := x4) hx hb hr (fun t ht hW => by rw [← he]; exact ⟨⟨x4, (), rfl, rfl, by rw [ht]; exact hP, hD⟩, hS.F ht⟩) hS.2.2 dX12_near_63
        · replace hf := ip c_12 hf
          refine lv_goto (tgt := 67) hx hb dX12_near_53 (by decide) ?_
          refine lv_iinc (v := (x4 + (1 : Int32))) (lv' := [(4, .int (x4 + (1 : Int32))), (0, .ref a0), (1, .int p1), (2, .int p2), (3, .int x3)]) hx hb dX12_near_67 hl (k := 4) rfl rfl (by decide) rfl (fun ls hl => ?_)
          refine lv_goto (tgt := 24) hx hb dX12_near_70 (by decide) ?_
          exact ih x3 (x4 + (1 : Int32)) H locs ls hf hP hD hS (lv_sub hl [1, 2, 3, 4, 0] rfl)
  unfold fX12_near at hf
  refine lv_iload_n hx hb dX12_near_0 rfl (lv_at hl 1 rfl) ?_
  refine lv_iconst (v := 0) hx hb dX12_near_1 (by decide) ?_
  refine lv_aload_n hx hb dX12_near_2 rfl (lv_at hl 0 rfl) ?_
  refine va_get (D := D.1) (ci := 9) (v := .ref a0_all) (C := RX12) (T := TX12) (N := 20) hx hb hts hwX12 hown hK.1 hP 0 rfl rfl 0 (by decide) l7 (fun _ h9 => h9) rfl dX12_near_3 ?_
  refine lv_iconst (v := 0) hx hb dX12_near_6 (by decide) ?_
  obtain ⟨h_1, hf⟩ := gd hf
  refine va_iald hx hb hK.1 hP 1 1 rfl rfl h_1 dX12_near_7 ?_
  refine lv_iconst (v := 1) hx hb dX12_near_8 (by decide) ?_
  refine lv_isub hx hb dX12_near_9 ?_
  obtain ⟨r2, hr2, hf⟩ := bd hf
  refine zSz (As := [.int p1, .int (0 : Int32), .int ((g0_all ((0 : Int32)).toNatClampNeg) - (1 : Int32))]) (rest := []) (wn := [(a0, .inr (9, [.ref a0_all, .ref a0_tape, .ref a0_isImage, .int v0_taped, .int v0_faultKind, .int v0_faultPlace, .int v0_undos, .ref a0_turnWord, .ref a0_turnFrom, .int v0_turns, .ref a0_pieceSign, .ref a0_pieceFrom, .int v0_pieces, .int v0_signs, .ref a0_runFrom, .ref a0_runLong, .ref a0_runPiece, .int v0_runs, .ref a0_alike, .ref a0_stood])), (a0_all, .inl (D.2 1, 5228, .inl g0_all))]) ⟨hx, hb, hml, hown, hts⟩ (mX12_isIn l D H.size p1 (0 : Int32) ((g0_all ((0 : Int32)).toNatClampNeg) - (1 : Int32)) r2 hr2) (va_cwS 3 hts gX12_near_X12_isIn rfl rfl rfl (by decide +kernel) ⟨Nat.le_of_ble_eq_true rfl, Nat.le_of_ble_eq_true rfl⟩) hK hP hD hS hA [] [0, 1] [0, 1] rfl (by decide) rfl (by decide) (by decide) rfl (by decide) rfl hl.1 rfl (Nat.le_of_ble_eq_true rfl) dX12_near_10 ⟨Nat.zero_le _, Nat.zero_le _⟩ (fun H locs hb_3 hP hD hS => ?_)
  refine lv_if_ne (tgt := 19) hx hb dX12_near_13 (by decide) (fun c_4 => ?_) (fun c_4 => ?_)
  · replace hf := im c_4 hf
    refine lv_iconst (v := 0) hx hb dX12_near_19 (by decide) ?_
    refine lv_istore_n (lv' := [(3, .int (0 : Int32)), (0, .ref a0), (1, .int p1), (2, .int p2)]) hx hb dX12_near_20 rfl hl (by decide) rfl (fun ls hl => ?_)
    refine lv_iconst (v := 0) hx hb dX12_near_21 (by decide) ?_
    refine lv_istore (lv' := [(4, .int (0 : Int32)), (3, .int (0 : Int32)), (0, .ref a0), (1, .int p1), (2, .int p2)]) hx hb dX12_near_22 hl (by decide) rfl (fun ls hl => ?_)
    exact k24 N (0 : Int32) (0 : Int32) H locs ls hf hP hD hS (lv_sub hl [2, 3, 4, 1, 0] rfl)
  · replace hf := ip c_4 hf
    refine lv_bipush (v := -2) hx hb dX12_near_16 (by decide) ?_
    have he := Option.some.inj hf
    rw [hQ]
    exact W.iret (v := (-2 : Int32)) hx hb hr (fun t ht hW => by rw [← he]; exact ⟨⟨(-2 : Int32), (), rfl, rfl, by rw [ht]; exact hP, hD⟩, hS.F ht⟩) hS.2.2 dX12_near_18
def fX12_placesOf_5 (N : Nat) (g0_all : Nat → Int32) (p1 : Int32) (p2 : Int32) : Nat → Int32 → Int32 → Option (Int32)
  | 0, _, _ => none
  | K + 1, x3, x4 =>
    if p1 < 0 ∨ 5228 ≤ (p1).toNatClampNeg then none else
    if (g0_all (p1).toNatClampNeg) < x4 then
      some (x3)
    else
      if (p1 + x4) < 0 ∨ 5228 ≤ ((p1 + x4)).toNatClampNeg then none else
      if (g0_all ((p1 + x4)).toNatClampNeg) = p2 then
        (fX12_placesOf_5 N g0_all p1 p2 K) (x3 ||| ((1 : Int32) <<< ((x4 - (1 : Int32)) &&& 31))) (x4 + (1 : Int32))
      else
        (fX12_placesOf_5 N g0_all p1 p2 K) (x3 ||| (0 : Int32)) (x4 + (1 : Int32))
def fX12_placesOf (N : Nat) (g0_all : Nat → Int32) (p1 : Int32) (p2 : Int32) : Option (Int32) :=
  fX12_placesOf_5 N g0_all p1 p2 N (0 : Int32) (1 : Int32)
set_option maxHeartbeats 4000000 in
set_option maxRecDepth 100000 in
theorem mX12_placesOf (l : Launch) (D : zG) (a0 : Nat) (a0_all : Nat) (a0_tape : Nat) (a0_isImage : Nat) (a0_turnWord : Nat) (a0_turnFrom : Nat) (a0_pieceSign : Nat) (a0_pieceFrom : Nat) (a0_runFrom : Nat) (a0_runLong : Nat) (a0_runPiece : Nat) (a0_alike : Nat) (a0_stood : Nat) (sz : Nat)  (v0_taped : Int32) (v0_faultKind : Int32) (v0_faultPlace : Int32) (v0_undos : Int32) (v0_turns : Int32) (v0_pieces : Int32) (v0_signs : Int32) (v0_runs : Int32) (g0_all : Nat → Int32) (p1 : Int32) (p2 : Int32) (N : Nat) (res : Int32) (hf : fX12_placesOf N g0_all p1 p2 = some res) : Met l yX12_placesOf wsX12_placesOf ({ frames := 0, cells := 0, slots := 0, locals := 0 } : Room) (va_Pc [.ref a0, .int p1, .int p2] (zW D sz [(a0, .inr (9, [.ref a0_all, .ref a0_tape, .ref a0_isImage, .int v0_taped, .int v0_faultKind, .int v0_faultPlace, .int v0_undos, .ref a0_turnWord, .ref a0_turnFrom, .int v0_turns, .ref a0_pieceSign, .ref a0_pieceFrom, .int v0_pieces, .int v0_signs, .ref a0_runFrom, .ref a0_runLong, .ref a0_runPiece, .int v0_runs, .ref a0_alike, .ref a0_stood])), (a0_all, .inl (D.2 1, 5228, .inl g0_all))])) (va_Qi (fun r (_ : Unit) => r = res) (fun _ => zB D (va_A [(a0, .inr (9, [.ref a0_all, .ref a0_tape, .ref a0_isImage, .int v0_taped, .int v0_faultKind, .int v0_faultPlace, .int v0_undos, .ref a0_turnWord, .ref a0_turnFrom, .int v0_turns, .ref a0_pieceSign, .ref a0_pieceFrom, .int v0_pieces, .int v0_signs, .ref a0_runFrom, .ref a0_runLong, .ref a0_runPiece, .int v0_runs, .ref a0_alike, .ref a0_stood])), (a0_all, .inl (D.2 1, 5228, .inl g0_all))] sz) [(a0, .inr (9, [.ref a0_all, .ref a0_tape, .ref a0_isImage, .int v0_taped, .int v0_faultKind, .int v0_faultPlace, .int v0_undos, .ref a0_turnWord, .ref a0_turnFrom, .int v0_turns, .ref a0_pieceSign, .ref a0_pieceFrom, .int v0_pieces, .int v0_signs, .ref a0_runFrom, .ref a0_runLong, .ref a0_runPiece, .int v0_runs, .ref a0_alike, .ref a0_stood])), (a0_all, .inl (D.2 1, 5228, .inl g0_all))]) (va_A [(a0, .inr (9, [.ref a0_all, .ref a0_tape, .ref a0_isImage, .int v0_taped, .int v0_faultKind, .int v0_faultPlace, .int v0_undos, .ref a0_turnWord, .ref a0_turnFrom, .int v0_turns, .ref a0_pieceSign, .ref a0_pieceFrom, .int v0_pieces, .int v0_signs, .ref a0_runFrom, .ref a0_runLong, .ref a0_runPiece, .int v0_runs, .ref a0_alike, .ref a0_stood])), (a0_all, .inl (D.2 1, 5228, .inl g0_all))] sz)) 0 0 (va_A [(a0, .inr (9, [.ref a0_all, .ref a0_tape, .ref a0_isImage, .int v0_taped, .int v0_faultKind, .int v0_faultPlace, .int v0_undos, .ref a0_turnWord, .ref a0_turnFrom, .int v0_turns, .ref a0_pieceSign, .ref a0_pieceFrom, .int v0_pieces, .int v0_signs, .ref a0_runFrom, .ref a0_runLong, .ref a0_runPiece, .int v0_runs, .ref a0_alike, .ref a0_stood])), (a0_all, .inl (D.2 1, 5228, .inl g0_all))] sz) := by
  refine Met.ofW (cc := cX12_placesOf) (maxL := 5) (ret := (some .int)) (by decide) rfl ?_
  intro p e s m args below meth c s₁ B hml hv
  obtain ⟨rfl, hsz, hP, hK, hD0⟩ := hv
  have hx := B.exec
  have hb := B.bytes
  have hr := B.returns
  have hts := atoms_spec (ws := wsX12_placesOf) B.pre
  have hown : s.vm.findClass RX12 = some m.cls := findClass_of_methodNamed B.named
  have hlocks := B.notSynchronized
  subst hsz
  have hD := hD0.self (sz := s.heap.size)
  generalize hAe : va_A [(a0, .inr (9, [.ref a0_all, .ref a0_tape, .ref a0_isImage, .int v0_taped, .int v0_faultKind, .int v0_faultPlace, .int v0_undos, .ref a0_turnWord, .ref a0_turnFrom, .int v0_turns, .ref a0_pieceSign, .ref a0_pieceFrom, .int v0_pieces, .int v0_signs, .ref a0_runFrom, .ref a0_runLong, .ref a0_runPiece, .int v0_runs, .ref a0_alike, .ref a0_stood])), (a0_all, .inl (D.2 1, 5228, .inl g0_all))] s.heap.size = A at hD ⊢
  have hA : ∀ q : Nat, s.heap.size ≤ q → A q := fun q h => by rw [← hAe]; exact Or.inr h
  have l7 := zat hts 1 (w := .fieldLink RX12 7 "TurnedWordsModel" "all" "[I") rfl
  have hwX12 : ∀ w ∈ u_ws RX12 TX12 20, w ∈ wsX12_placesOf := fun w h => List.mem_cons_of_mem _ (List.mem_append_right _ h)
  have hl := lv_entry ([.ref a0, .int p1, .int p2]) (n := 5) (Nat.le_of_ble_eq_true rfl)
  rw [lg_entry_eq]
  generalize (lg_sl ([.ref a0, .int p1, .int p2]) ++ List.replicate (5 - (lg_sl ([.ref a0, .int p1, .int p2])).length) Slot.unset).toArray = ls at hl ⊢
  have hl : lv_has ls 5 [(0, .ref a0), (1, .int p1), (2, .int p2)] := hl
  refine zStart (A := A) hP (fun Q0 H locs hQ hP hS => ?_)
  have k5 : ∀ K : Nat, ∀ (x3 : Int32) (x4 : Int32) (H : Heap) (locs : List Loc) (ls : Array Slot), fX12_placesOf_5 N g0_all p1 p2 K x3 x4 = some res → va_P D.1 vwCl [(a0, .inr (9, [.ref a0_all, .ref a0_tape, .ref a0_isImage, .int v0_taped, .int v0_faultKind, .int v0_faultPlace, .int v0_undos, .ref a0_turnWord, .ref a0_turnFrom, .int v0_turns, .ref a0_pieceSign, .ref a0_pieceFrom, .int v0_pieces, .int v0_signs, .ref a0_runFrom, .ref a0_runLong, .ref a0_runPiece, .int v0_runs, .ref a0_alike, .ref a0_stood])), (a0_all, .inl (D.2 1, 5228, .inl g0_all))] H → va_D A [(a0, .inr (9, [.ref a0_all, .ref a0_tape, .ref a0_isImage, .int v0_taped, .int v0_faultKind, .int v0_faultPlace, .int v0_undos, .ref a0_turnWord, .ref a0_turnFrom, .int v0_turns, .ref a0_pieceSign, .ref a0_pieceFrom, .int v0_pieces, .int v0_signs, .ref a0_runFrom, .ref a0_runLong, .ref a0_runPiece, .int v0_runs, .ref a0_alike, .ref a0_stood])), (a0_all, .inl (D.2 1, 5228, .inl g0_all))] → va_S A s.heap H locs → lv_has ls 5 [(0, .ref a0), (1, .int p1), (2, .int p2), (3, .int x3), (4, .int x4)] → W p l e (headSpec wsX12_placesOf ({ frames := 0, cells := 0, slots := 0, locals := 0 } : Room)).room s m ([.ref a0, .int p1, .int p2] : List Value).toArray below meth c H locs 0 0 Q0 (F0 m 5 ls []) := by
    intro K
    induction K with
    | zero =>
      intro x3 x4 H locs ls hf
      rw [fX12_placesOf_5] at hf
      cases hf
    | succ K ih =>
      intro x3 x4 H locs ls hf hP hD hS hl
      rw [fX12_placesOf_5] at hf
      refine lv_iload hx hb dX12_placesOf_5 (lv_at hl 4 rfl) ?_
      refine lv_aload_n hx hb dX12_placesOf_7 rfl (lv_at hl 0 rfl) ?_
      refine va_get (D := D.1) (ci := 9) (v := .ref a0_all) (C := RX12) (T := TX12) (N := 20) hx hb hts hwX12 hown hK.1 hP 0 rfl rfl 0 (by decide) l7 (fun _ h9 => h9) rfl dX12_placesOf_8 ?_
      refine lv_iload_n hx hb dX12_placesOf_11 rfl (lv_at hl 1 rfl) ?_
      obtain ⟨h_1, hf⟩ := gd hf
      refine va_iald hx hb hK.1 hP 1 1 rfl rfl h_1 dX12_placesOf_12 ?_
      refine lv_icmp_gt (tgt := 48) hx hb dX12_placesOf_13 (by decide) (fun c_2 => ?_) (fun c_2 => ?_)
      · replace hf := ip c_2 hf
        refine lv_iload_n hx hb dX12_placesOf_48 rfl (lv_at hl 3 rfl) ?_
        have he := Option.some.inj hf
        rw [hQ]
        exact W.iret (v := x3) hx hb hr (fun t ht hW => by rw [← he]; exact ⟨⟨x3, (), rfl, rfl, by rw [ht]; exact hP, hD⟩, hS.F ht⟩) hS.2.2 dX12_placesOf_49
      · replace hf := im c_2 hf
        refine lv_iload_n hx hb dX12_placesOf_16 rfl (lv_at hl 3 rfl) ?_
        refine lv_aload_n hx hb dX12_placesOf_17 rfl (lv_at hl 0 rfl) ?_
        refine va_get (D := D.1) (ci := 9) (v := .ref a0_all) (C := RX12) (T := TX12) (N := 20) hx hb hts hwX12 hown hK.1 hP 0 rfl rfl 0 (by decide) l7 (fun _ h9 => h9) rfl dX12_placesOf_18 ?_
        refine lv_iload_n hx hb dX12_placesOf_21 rfl (lv_at hl 1 rfl) ?_
        refine lv_iload hx hb dX12_placesOf_22 (lv_at hl 4 rfl) ?_
        refine lv_iadd hx hb dX12_placesOf_24 ?_
        obtain ⟨h_3, hf⟩ := gd hf
        refine va_iald hx hb hK.1 hP 1 1 rfl rfl h_3 dX12_placesOf_25 ?_
        refine lv_iload_n hx hb dX12_placesOf_26 rfl (lv_at hl 2 rfl) ?_
        refine lv_icmp_ne (tgt := 39) hx hb dX12_placesOf_27 (by decide) (fun c_4 => ?_) (fun c_4 => ?_)
        · replace hf := im c_4 hf
          refine lv_iconst (v := 0) hx hb dX12_placesOf_39 (by decide) ?_
          refine lv_ior hx hb dX12_placesOf_40 ?_
          refine lv_istore_n (lv' := [(3, .int (x3 ||| (0 : Int32))), (0, .ref a0), (1, .int p1), (2, .int p2), (4, .int x4)]) hx hb dX12_placesOf_41 rfl hl (by decide) rfl (fun ls hl => ?_)
          refine lv_iinc (v := (x4 + (1 : Int32))) (lv' := [(4, .int (x4 + (1 : Int32))), (3, .int (x3 ||| (0 : Int32))), (0, .ref a0), (1, .int p1), (2, .int p2)]) hx hb dX12_placesOf_42 hl (k := 4) rfl rfl (by decide) rfl (fun ls hl => ?_)
          refine lv_goto (tgt := 5) hx hb dX12_placesOf_45 (by decide) ?_
          exact ih (x3 ||| (0 : Int32)) (x4 + (1 : Int32)) H locs ls hf hP hD hS (lv_sub hl [2, 3, 4, 1, 0] rfl)
        · replace hf := ip c_4 hf
          refine lv_iconst (v := 1) hx hb dX12_placesOf_30 (by decide) ?_
          refine lv_iload hx hb dX12_placesOf_31 (lv_at hl 4 rfl) ?_
          refine lv_iconst (v := 1) hx hb dX12_placesOf_33 (by decide) ?_
          refine lv_isub hx hb dX12_placesOf_34 ?_
          refine lv_ishl hx hb dX12_placesOf_35 ?_
          refine lv_goto (tgt := 40) hx hb dX12_placesOf_36 (by decide) ?_
          refine lv_ior hx hb dX12_placesOf_40 ?_
          refine lv_istore_n (lv' := [(3, .int (x3 ||| ((1 : Int32) <<< ((x4 - (1 : Int32)) &&& 31)))), (0, .ref a0), (1, .int p1), (2, .int p2), (4, .int x4)]) hx hb dX12_placesOf_41 rfl hl (by decide) rfl (fun ls hl => ?_)
          refine lv_iinc (v := (x4 + (1 : Int32))) (lv' := [(4, .int (x4 + (1 : Int32))), (3, .int (x3 ||| ((1 : Int32) <<< ((x4 - (1 : Int32)) &&& 31)))), (0, .ref a0), (1, .int p1), (2, .int p2)]) hx hb dX12_placesOf_42 hl (k := 4) rfl rfl (by decide) rfl (fun ls hl => ?_)
          refine lv_goto (tgt := 5) hx hb dX12_placesOf_45 (by decide) ?_
          exact ih (x3 ||| ((1 : Int32) <<< ((x4 - (1 : Int32)) &&& 31))) (x4 + (1 : Int32)) H locs ls hf hP hD hS (lv_sub hl [2, 3, 4, 1, 0] rfl)
  unfold fX12_placesOf at hf
  refine lv_iconst (v := 0) hx hb dX12_placesOf_0 (by decide) ?_
  refine lv_istore_n (lv' := [(3, .int (0 : Int32)), (0, .ref a0), (1, .int p1), (2, .int p2)]) hx hb dX12_placesOf_1 rfl hl (by decide) rfl (fun ls hl => ?_)
  refine lv_iconst (v := 1) hx hb dX12_placesOf_2 (by decide) ?_
  refine lv_istore (lv' := [(4, .int (1 : Int32)), (3, .int (0 : Int32)), (0, .ref a0), (1, .int p1), (2, .int p2)]) hx hb dX12_placesOf_3 hl (by decide) rfl (fun ls hl => ?_)
  exact k5 N (0 : Int32) (1 : Int32) H locs ls hf hP hD hS (lv_sub hl [2, 3, 4, 1, 0] rfl)
def fX12_tally_31 (N : Nat) (g0_all : Nat → Int32) (p1 : Int32) (p2 : Int32) : Nat → Int32 → Int32 → Option (Int32)
  | 0, _, _ => none
  | K + 1, x3, x4 =>
    if (0 : Int32) < 0 ∨ 5228 ≤ ((0 : Int32)).toNatClampNeg then none else
    if (g0_all ((0 : Int32)).toNatClampNeg) ≤ x4 then
      some (x3)
    else
      if p2 = (0 : Int32) then
        Option.bind (fX12_wordAt (0 : Int32) x4) fun r11 =>
        if r11 < 0 ∨ 5228 ≤ (r11).toNatClampNeg then none else
        if (g0_all (r11).toNatClampNeg) = p1 then
          (fX12_tally_31 N g0_all p1 p2 K) (x3 + (1 : Int32)) (x4 + (1 : Int32))
        else
          (fX12_tally_31 N g0_all p1 p2 K) (x3 + (0 : Int32)) (x4 + (1 : Int32))
      else
        Option.bind (fX12_wordAt (0 : Int32) x4) fun r14 =>
        Option.bind (fX12_placesOf N g0_all r14 p1) fun r15 =>
        if r15 = (0 : Int32) then
          (fX12_tally_31 N g0_all p1 p2 K) (x3 + (0 : Int32)) (x4 + (1 : Int32))
        else
          (fX12_tally_31 N g0_all p1 p2 K) (x3 + (1 : Int32)) (x4 + (1 : Int32))
def fX12_tally (N : Nat) (g0_all : Nat → Int32) (p1 : Int32) (p2 : Int32) : Option (Int32) :=
  if p2 = (0 : Int32) then
    Option.bind (fX12_isIn p1 (1 : Int32) (7 : Int32)) fun r2 =>
    if r2 = (0 : Int32) then
      some ((-1 : Int32))
    else
      fX12_tally_31 N g0_all p1 p2 N (0 : Int32) (0 : Int32)
  else
    Option.bind (fX12_isLetter p1) fun r5 =>
    if r5 = (0 : Int32) then
      some ((-1 : Int32))
    else
      fX12_tally_31 N g0_all p1 p2 N (0 : Int32) (0 : Int32)
set_option maxHeartbeats 4000000 in
set_option maxRecDepth 100000 in
theorem mX12_tally (l : Launch) (D : zG) (a0 : Nat) (a0_all : Nat) (a0_tape : Nat) (a0_isImage : Nat) (a0_turnWord : Nat) (a0_turnFrom : Nat) (a0_pieceSign : Nat) (a0_pieceFrom : Nat) (a0_runFrom : Nat) (a0_runLong : Nat) (a0_runPiece : Nat) (a0_alike : Nat) (a0_stood : Nat) (sz : Nat)  (v0_taped : Int32) (v0_faultKind : Int32) (v0_faultPlace : Int32) (v0_undos : Int32) (v0_turns : Int32) (v0_pieces : Int32) (v0_signs : Int32) (v0_runs : Int32) (g0_all : Nat → Int32) (p1 : Int32) (p2 : Int32) (N : Nat) (res : Int32) (hf : fX12_tally N g0_all p1 p2 = some res) : Met l yX12_tally wsX12_tally ({ frames := 2, cells := 0, slots := 0, locals := 42 } : Room) (va_Pc [.ref a0, .int p1, .int p2] (zW D sz [(a0, .inr (9, [.ref a0_all, .ref a0_tape, .ref a0_isImage, .int v0_taped, .int v0_faultKind, .int v0_faultPlace, .int v0_undos, .ref a0_turnWord, .ref a0_turnFrom, .int v0_turns, .ref a0_pieceSign, .ref a0_pieceFrom, .int v0_pieces, .int v0_signs, .ref a0_runFrom, .ref a0_runLong, .ref a0_runPiece, .int v0_runs, .ref a0_alike, .ref a0_stood])), (a0_all, .inl (D.2 1, 5228, .inl g0_all))])) (va_Qi (fun r (_ : Unit) => r = res) (fun _ => zB D (va_A [(a0, .inr (9, [.ref a0_all, .ref a0_tape, .ref a0_isImage, .int v0_taped, .int v0_faultKind, .int v0_faultPlace, .int v0_undos, .ref a0_turnWord, .ref a0_turnFrom, .int v0_turns, .ref a0_pieceSign, .ref a0_pieceFrom, .int v0_pieces, .int v0_signs, .ref a0_runFrom, .ref a0_runLong, .ref a0_runPiece, .int v0_runs, .ref a0_alike, .ref a0_stood])), (a0_all, .inl (D.2 1, 5228, .inl g0_all))] sz) [(a0, .inr (9, [.ref a0_all, .ref a0_tape, .ref a0_isImage, .int v0_taped, .int v0_faultKind, .int v0_faultPlace, .int v0_undos, .ref a0_turnWord, .ref a0_turnFrom, .int v0_turns, .ref a0_pieceSign, .ref a0_pieceFrom, .int v0_pieces, .int v0_signs, .ref a0_runFrom, .ref a0_runLong, .ref a0_runPiece, .int v0_runs, .ref a0_alike, .ref a0_stood])), (a0_all, .inl (D.2 1, 5228, .inl g0_all))]) (va_A [(a0, .inr (9, [.ref a0_all, .ref a0_tape, .ref a0_isImage, .int v0_taped, .int v0_faultKind, .int v0_faultPlace, .int v0_undos, .ref a0_turnWord, .ref a0_turnFrom, .int v0_turns, .ref a0_pieceSign, .ref a0_pieceFrom, .int v0_pieces, .int v0_signs, .ref a0_runFrom, .ref a0_runLong, .ref a0_runPiece, .int v0_runs, .ref a0_alike, .ref a0_stood])), (a0_all, .inl (D.2 1, 5228, .inl g0_all))] sz)) 0 0 (va_A [(a0, .inr (9, [.ref a0_all, .ref a0_tape, .ref a0_isImage, .int v0_taped, .int v0_faultKind, .int v0_faultPlace, .int v0_undos, .ref a0_turnWord, .ref a0_turnFrom, .int v0_turns, .ref a0_pieceSign, .ref a0_pieceFrom, .int v0_pieces, .int v0_signs, .ref a0_runFrom, .ref a0_runLong, .ref a0_runPiece, .int v0_runs, .ref a0_alike, .ref a0_stood])), (a0_all, .inl (D.2 1, 5228, .inl g0_all))] sz) := by
  refine Met.ofW (cc := cX12_tally) (maxL := 5) (ret := (some .int)) (by decide) rfl ?_
  intro p e s m args below meth c s₁ B hml hv
  obtain ⟨rfl, hsz, hP, hK, hD0⟩ := hv
  have hx := B.exec
  have hb := B.bytes
  have hr := B.returns
  have hts := atoms_spec (ws := wsX12_tally) B.pre
  have hown : s.vm.findClass RX12 = some m.cls := findClass_of_methodNamed B.named
  have hlocks := B.notSynchronized
  subst hsz
  have hD := hD0.self (sz := s.heap.size)
  generalize hAe : va_A [(a0, .inr (9, [.ref a0_all, .ref a0_tape, .ref a0_isImage, .int v0_taped, .int v0_faultKind, .int v0_faultPlace, .int v0_undos, .ref a0_turnWord, .ref a0_turnFrom, .int v0_turns, .ref a0_pieceSign, .ref a0_pieceFrom, .int v0_pieces, .int v0_signs, .ref a0_runFrom, .ref a0_runLong, .ref a0_runPiece, .int v0_runs, .ref a0_alike, .ref a0_stood])), (a0_all, .inl (D.2 1, 5228, .inl g0_all))] s.heap.size = A at hD ⊢
  have hA : ∀ q : Nat, s.heap.size ≤ q → A q := fun q h => by rw [← hAe]; exact Or.inr h
  have l7 := zat hts 1 (w := .fieldLink RX12 7 "TurnedWordsModel" "all" "[I") rfl
  have hwX12 : ∀ w ∈ u_ws RX12 TX12 20, w ∈ wsX12_tally := fun w h => List.mem_cons_of_mem _ (List.mem_append_right _ h)
  have hl := lv_entry ([.ref a0, .int p1, .int p2]) (n := 5) (Nat.le_of_ble_eq_true rfl)
  rw [lg_entry_eq]
  generalize (lg_sl ([.ref a0, .int p1, .int p2]) ++ List.replicate (5 - (lg_sl ([.ref a0, .int p1, .int p2])).length) Slot.unset).toArray = ls at hl ⊢
  have hl : lv_has ls 5 [(0, .ref a0), (1, .int p1), (2, .int p2)] := hl
  refine zStart (A := A) hP (fun Q0 H locs hQ hP hS => ?_)
  have k31 : ∀ K : Nat, ∀ (x3 : Int32) (x4 : Int32) (H : Heap) (locs : List Loc) (ls : Array Slot), fX12_tally_31 N g0_all p1 p2 K x3 x4 = some res → va_P D.1 vwCl [(a0, .inr (9, [.ref a0_all, .ref a0_tape, .ref a0_isImage, .int v0_taped, .int v0_faultKind, .int v0_faultPlace, .int v0_undos, .ref a0_turnWord, .ref a0_turnFrom, .int v0_turns, .ref a0_pieceSign, .ref a0_pieceFrom, .int v0_pieces, .int v0_signs, .ref a0_runFrom, .ref a0_runLong, .ref a0_runPiece, .int v0_runs, .ref a0_alike, .ref a0_stood])), (a0_all, .inl (D.2 1, 5228, .inl g0_all))] H → va_D A [(a0, .inr (9, [.ref a0_all, .ref a0_tape, .ref a0_isImage, .int v0_taped, .int v0_faultKind, .int v0_faultPlace, .int v0_undos, .ref a0_turnWord, .ref a0_turnFrom, .int v0_turns, .ref a0_pieceSign, .ref a0_pieceFrom, .int v0_pieces, .int v0_signs, .ref a0_runFrom, .ref a0_runLong, .ref a0_runPiece, .int v0_runs, .ref a0_alike, .ref a0_stood])), (a0_all, .inl (D.2 1, 5228, .inl g0_all))] → va_S A s.heap H locs → lv_has ls 5 [(0, .ref a0), (1, .int p1), (2, .int p2), (3, .int x3), (4, .int x4)] → W p l e (headSpec wsX12_tally ({ frames := 2, cells := 0, slots := 0, locals := 42 } : Room)).room s m ([.ref a0, .int p1, .int p2] : List Value).toArray below meth c H locs 0 0 Q0 (F0 m 31 ls []) := by
    intro K
    induction K with
    | zero =>
      intro x3 x4 H locs ls hf
      rw [fX12_tally_31] at hf
      cases hf
    | succ K ih =>
      intro x3 x4 H locs ls hf hP hD hS hl
      rw [fX12_tally_31] at hf
      refine lv_iload hx hb dX12_tally_31 (lv_at hl 4 rfl) ?_
      refine lv_aload_n hx hb dX12_tally_33 rfl (lv_at hl 0 rfl) ?_
      refine va_get (D := D.1) (ci := 9) (v := .ref a0_all) (C := RX12) (T := TX12) (N := 20) hx hb hts hwX12 hown hK.1 hP 0 rfl rfl 0 (by decide) l7 (fun _ h9 => h9) rfl dX12_tally_34 ?_
      refine lv_iconst (v := 0) hx hb dX12_tally_37 (by decide) ?_
      obtain ⟨h_8, hf⟩ := gd hf
      refine va_iald hx hb hK.1 hP 1 1 rfl rfl h_8 dX12_tally_38 ?_
      refine lv_icmp_ge (tgt := 92) hx hb dX12_tally_39 (by decide) (fun c_9 => ?_) (fun c_9 => ?_)
      · replace hf := ip c_9 hf
        refine lv_iload_n hx hb dX12_tally_92 rfl (lv_at hl 3 rfl) ?_
        have he := Option.some.inj hf
        rw [hQ]
        exact W.iret (v := x3) hx hb hr (fun t ht hW => by rw [← he]; exact ⟨⟨x3, (), rfl, rfl, by rw [ht]; exact hP, hD⟩, hS.F ht⟩) hS.2.2 dX12_tally_93
      · replace hf := im c_9 hf
        refine lv_iload_n hx hb dX12_tally_42 rfl (lv_at hl 3 rfl) ?_
        refine lv_iload_n hx hb dX12_tally_43 rfl (lv_at hl 2 rfl) ?_
        refine lv_if_eq (tgt := 64) hx hb dX12_tally_44 (by decide) (fun c_10 => ?_) (fun c_10 => ?_)
        · replace hf := ip c_10 hf
          refine lv_aload_n hx hb dX12_tally_64 rfl (lv_at hl 0 rfl) ?_
          refine va_get (D := D.1) (ci := 9) (v := .ref a0_all) (C := RX12) (T := TX12) (N := 20) hx hb hts hwX12 hown hK.1 hP 0 rfl rfl 0 (by decide) l7 (fun _ h9 => h9) rfl dX12_tally_65 ?_
          refine lv_iconst (v := 0) hx hb dX12_tally_68 (by decide) ?_
          refine lv_iload hx hb dX12_tally_69 (lv_at hl 4 rfl) ?_
          obtain ⟨r11, hr11, hf⟩ := bd hf
          refine zSi (As := [.int (0 : Int32), .int x4]) (rest := [.ref a0_all, .int x3]) (wn := [(a0, .inr (9, [.ref a0_all, .ref a0_tape, .ref a0_isImage, .int v0_taped, .int v0_faultKind, .int v0_faultPlace, .int v0_undos, .ref a0_turnWord, .ref a0_turnFrom, .int v0_turns, .ref a0_pieceSign, .ref a0_pieceFrom, .int v0_pieces, .int v0_signs, .ref a0_runFrom, .ref a0_runLong, .ref a0_runPiece, .int v0_runs, .ref a0_alike, .ref a0_stood])), (a0_all, .inl (D.2 1, 5228, .inl g0_all))]) ⟨hx, hb, hml, hown, hts⟩ (mX12_wordAt l D H.size (0 : Int32) x4 r11 hr11) (va_cwS 2 hts gX12_tally_X12_wordAt rfl rfl rfl (by decide +kernel) ⟨Nat.le_of_ble_eq_true rfl, Nat.le_of_ble_eq_true rfl⟩) hK hP hD hS hA [] [0, 1] [0, 1] rfl (by decide) rfl (by decide) (by decide) rfl (by decide) rfl hl.1 rfl (Nat.le_of_ble_eq_true rfl) dX12_tally_71 ⟨Nat.zero_le _, Nat.zero_le _⟩ (fun H locs hP hD hS => ?_)
          obtain ⟨h_12, hf⟩ := gd hf
          refine va_iald hx hb hK.1 hP 1 1 rfl rfl h_12 dX12_tally_74 ?_
          refine lv_iload_n hx hb dX12_tally_75 rfl (lv_at hl 1 rfl) ?_
          refine lv_icmp_ne (tgt := 83) hx hb dX12_tally_76 (by decide) (fun c_13 => ?_) (fun c_13 => ?_)
          · replace hf := im c_13 hf
            refine lv_iconst (v := 0) hx hb dX12_tally_83 (by decide) ?_
            refine lv_iadd hx hb dX12_tally_84 ?_
            refine lv_istore_n (lv' := [(3, .int (x3 + (0 : Int32))), (0, .ref a0), (1, .int p1), (2, .int p2), (4, .int x4)]) hx hb dX12_tally_85 rfl hl (by decide) rfl (fun ls hl => ?_)
            refine lv_iinc (v := (x4 + (1 : Int32))) (lv' := [(4, .int (x4 + (1 : Int32))), (3, .int (x3 + (0 : Int32))), (0, .ref a0), (1, .int p1), (2, .int p2)]) hx hb dX12_tally_86 hl (k := 4) rfl rfl (by decide) rfl (fun ls hl => ?_)
            refine lv_goto (tgt := 31) hx hb dX12_tally_89 (by decide) ?_
            exact ih (x3 + (0 : Int32)) (x4 + (1 : Int32)) H locs ls hf hP hD hS (lv_sub hl [2, 3, 4, 1, 0] rfl)
          · replace hf := ip c_13 hf
            refine lv_iconst (v := 1) hx hb dX12_tally_79 (by decide) ?_
            refine lv_goto (tgt := 84) hx hb dX12_tally_80 (by decide) ?_
            refine lv_iadd hx hb dX12_tally_84 ?_
            refine lv_istore_n (lv' := [(3, .int (x3 + (1 : Int32))), (0, .ref a0), (1, .int p1), (2, .int p2), (4, .int x4)]) hx hb dX12_tally_85 rfl hl (by decide) rfl (fun ls hl => ?_)
            refine lv_iinc (v := (x4 + (1 : Int32))) (lv' := [(4, .int (x4 + (1 : Int32))), (3, .int (x3 + (1 : Int32))), (0, .ref a0), (1, .int p1), (2, .int p2)]) hx hb dX12_tally_86 hl (k := 4) rfl rfl (by decide) rfl (fun ls hl => ?_)
            refine lv_goto (tgt := 31) hx hb dX12_tally_89 (by decide) ?_
            exact ih (x3 + (1 : Int32)) (x4 + (1 : Int32)) H locs ls hf hP hD hS (lv_sub hl [2, 3, 4, 1, 0] rfl)
        · replace hf := im c_10 hf
          refine lv_aload_n hx hb dX12_tally_47 rfl (lv_at hl 0 rfl) ?_
          refine lv_iconst (v := 0) hx hb dX12_tally_48 (by decide) ?_
          refine lv_iload hx hb dX12_tally_49 (lv_at hl 4 rfl) ?_
          obtain ⟨r14, hr14, hf⟩ := bd hf
          refine zSi (As := [.int (0 : Int32), .int x4]) (rest := [.ref a0, .int x3]) (wn := [(a0, .inr (9, [.ref a0_all, .ref a0_tape, .ref a0_isImage, .int v0_taped, .int v0_faultKind, .int v0_faultPlace, .int v0_undos, .ref a0_turnWord, .ref a0_turnFrom, .int v0_turns, .ref a0_pieceSign, .ref a0_pieceFrom, .int v0_pieces, .int v0_signs, .ref a0_runFrom, .ref a0_runLong, .ref a0_runPiece, .int v0_runs, .ref a0_alike, .ref a0_stood])), (a0_all, .inl (D.2 1, 5228, .inl g0_all))]) ⟨hx, hb, hml, hown, hts⟩ (mX12_wordAt l D H.size (0 : Int32) x4 r14 hr14) (va_cwS 2 hts gX12_tally_X12_wordAt rfl rfl rfl (by decide +kernel) ⟨Nat.le_of_ble_eq_true rfl, Nat.le_of_ble_eq_true rfl⟩) hK hP hD hS hA [] [0, 1] [0, 1] rfl (by decide) rfl (by decide) (by decide) rfl (by decide) rfl hl.1 rfl (Nat.le_of_ble_eq_true rfl) dX12_tally_51 ⟨Nat.zero_le _, Nat.zero_le _⟩ (fun H locs hP hD hS => ?_)
          refine lv_iload_n hx hb dX12_tally_54 rfl (lv_at hl 1 rfl) ?_
          obtain ⟨r15, hr15, hf⟩ := bd hf
          refine zVi (As := [.int r14, .int p1]) (rest := [.int x3]) (ci := 9) (q0 := 0) (wn := [(a0, .inr (9, [.ref a0_all, .ref a0_tape, .ref a0_isImage, .int v0_taped, .int v0_faultKind, .int v0_faultPlace, .int v0_undos, .ref a0_turnWord, .ref a0_turnFrom, .int v0_turns, .ref a0_pieceSign, .ref a0_pieceFrom, .int v0_pieces, .int v0_signs, .ref a0_runFrom, .ref a0_runLong, .ref a0_runPiece, .int v0_runs, .ref a0_alike, .ref a0_stood])), (a0_all, .inl (D.2 1, 5228, .inl g0_all))]) ⟨hx, hb, hml, hown, hts⟩ (mX12_placesOf l D a0 a0_all a0_tape a0_isImage a0_turnWord a0_turnFrom a0_pieceSign a0_pieceFrom a0_runFrom a0_runLong a0_runPiece a0_alike a0_stood H.size v0_taped v0_faultKind v0_faultPlace v0_undos v0_turns v0_pieces v0_signs v0_runs g0_all r14 p1 N r15 hr15) (cwV 2 hts gX12_tally_X12_placesOf rfl rfl rfl (by decide +kernel) ⟨Nat.le_of_ble_eq_true rfl, Nat.le_of_ble_eq_true rfl⟩) hK hP hD hS hA [0, 1] [] [0, 1] rfl (by decide) rfl (by decide) (by decide) rfl (by decide) rfl rfl rfl hl.1 rfl (Nat.le_of_ble_eq_true rfl) dX12_tally_55 ⟨Nat.zero_le _, Nat.zero_le _⟩ (fun H locs hP hD hS => ?_)
          refine lv_if_eq (tgt := 83) hx hb dX12_tally_58 (by decide) (fun c_16 => ?_) (fun c_16 => ?_)
          · replace hf := ip c_16 hf
            refine lv_iconst (v := 0) hx hb dX12_tally_83 (by decide) ?_
            refine lv_iadd hx hb dX12_tally_84 ?_
            refine lv_istore_n (lv' := [(3, .int (x3 + (0 : Int32))), (0, .ref a0), (1, .int p1), (2, .int p2), (4, .int x4)]) hx hb dX12_tally_85 rfl hl (by decide) rfl (fun ls hl => ?_)
            refine lv_iinc (v := (x4 + (1 : Int32))) (lv' := [(4, .int (x4 + (1 : Int32))), (3, .int (x3 + (0 : Int32))), (0, .ref a0), (1, .int p1), (2, .int p2)]) hx hb dX12_tally_86 hl (k := 4) rfl rfl (by decide) rfl (fun ls hl => ?_)
            refine lv_goto (tgt := 31) hx hb dX12_tally_89 (by decide) ?_
            exact ih (x3 + (0 : Int32)) (x4 + (1 : Int32)) H locs ls hf hP hD hS (lv_sub hl [2, 3, 4, 1, 0] rfl)
          · replace hf := im c_16 hf
            refine lv_goto (tgt := 79) hx hb dX12_tally_61 (by decide) ?_
            refine lv_iconst (v := 1) hx hb dX12_tally_79 (by decide) ?_
            refine lv_goto (tgt := 84) hx hb dX12_tally_80 (by decide) ?_
            refine lv_iadd hx hb dX12_tally_84 ?_
            refine lv_istore_n (lv' := [(3, .int (x3 + (1 : Int32))), (0, .ref a0), (1, .int p1), (2, .int p2), (4, .int x4)]) hx hb dX12_tally_85 rfl hl (by decide) rfl (fun ls hl => ?_)
            refine lv_iinc (v := (x4 + (1 : Int32))) (lv' := [(4, .int (x4 + (1 : Int32))), (3, .int (x3 + (1 : Int32))), (0, .ref a0), (1, .int p1), (2, .int p2)]) hx hb dX12_tally_86 hl (k := 4) rfl rfl (by decide) rfl (fun ls hl => ?_)
            refine lv_goto (tgt := 31) hx hb dX12_tally_89 (by decide) ?_
            exact ih (x3 + (1 : Int32)) (x4 + (1 : Int32)) H locs ls hf hP hD hS (lv_sub hl [2, 3, 4, 1, 0] rfl)
  unfold fX12_tally at hf
  refine lv_iload_n hx hb dX12_tally_0 rfl (lv_at hl 2 rfl) ?_
  refine lv_if_eq (tgt := 14) hx hb dX12_tally_1 (by decide) (fun c_1 => ?_) (fun c_1 => ?_)
  · replace hf := ip c_1 hf
    refine lv_iload_n hx hb dX12_tally_14 rfl (lv_at hl 1 rfl) ?_
    refine lv_iconst (v := 1) hx hb dX12_tally_15 (by decide) ?_
    refine lv_bipush (v := 7) hx hb dX12_tally_16 (by decide) ?_
    obtain ⟨r2, hr2, hf⟩ := bd hf
    refine zSz (As := [.int p1, .int (1 : Int32), .int (7 : Int32)]) (rest := []) (wn := [(a0, .inr (9, [.ref a0_all, .ref a0_tape, .ref a0_isImage, .int v0_taped, .int v0_faultKind, .int v0_faultPlace, .int v0_undos, .ref a0_turnWord, .ref a0_turnFrom, .int v0_turns, .ref a0_pieceSign, .ref a0_pieceFrom, .int v0_pieces, .int v0_signs, .ref a0_runFrom, .ref a0_runLong, .ref a0_runPiece, .int v0_runs, .ref a0_alike, .ref a0_stood])), (a0_all, .inl (D.2 1, 5228, .inl g0_all))]) ⟨hx, hb, hml, hown, hts⟩ (mX12_isIn l D H.size p1 (1 : Int32) (7 : Int32) r2 hr2) (va_cwS 3 hts gX12_tally_X12_isIn rfl rfl rfl (by decide +kernel) ⟨Nat.le_of_ble_eq_true rfl, Nat.le_of_ble_eq_true rfl⟩) hK hP hD hS hA [] [0, 1] [0, 1] rfl (by decide) rfl (by decide) (by decide) rfl (by decide) rfl hl.1 rfl (Nat.le_of_ble_eq_true rfl) dX12_tally_18 ⟨Nat.zero_le _, Nat.zero_le _⟩ (fun H locs hb_3 hP hD hS => ?_)
    refine lv_if_ne (tgt := 26) hx hb dX12_tally_21 (by decide) (fun c_4 => ?_) (fun c_4 => ?_)
    · replace hf := im c_4 hf
      refine lv_iconst (v := 0) hx hb dX12_tally_26 (by decide) ?_
      refine lv_istore_n (lv' := [(3, .int (0 : Int32)), (0, .ref a0), (1, .int p1), (2, .int p2)]) hx hb dX12_tally_27 rfl hl (by decide) rfl (fun ls hl => ?_)
      refine lv_iconst (v := 0) hx hb dX12_tally_28 (by decide) ?_
      refine lv_istore (lv' := [(4, .int (0 : Int32)), (3, .int (0 : Int32)), (0, .ref a0), (1, .int p1), (2, .int p2)]) hx hb dX12_tally_29 hl (by decide) rfl (fun ls hl => ?_)
      exact k31 N (0 : Int32) (0 : Int32) H locs ls hf hP hD hS (lv_sub hl [2, 3, 4, 1, 0] rfl)
    · replace hf := ip c_4 hf
      refine lv_iconst (v := -1) hx hb dX12_tally_24 (by decide) ?_
      have he := Option.some.inj hf
      rw [hQ]
      exact W.iret (v := (-1 : Int32)) hx hb hr (fun t ht hW => by rw [← he]; exact ⟨⟨(-1 : Int32), (), rfl, rfl, by rw [ht]; exact hP, hD⟩, hS.F ht⟩) hS.2.2 dX12_tally_25
  · replace hf := im c_1 hf
    refine lv_iload_n hx hb dX12_tally_4 rfl (lv_at hl 1 rfl) ?_
    obtain ⟨r5, hr5, hf⟩ := bd hf
    refine zSz (As := [.int p1]) (rest := []) (wn := [(a0, .inr (9, [.ref a0_all, .ref a0_tape, .ref a0_isImage, .int v0_taped, .int v0_faultKind, .int v0_faultPlace, .int v0_undos, .ref a0_turnWord, .ref a0_turnFrom, .int v0_turns, .ref a0_pieceSign, .ref a0_pieceFrom, .int v0_pieces, .int v0_signs, .ref a0_runFrom, .ref a0_runLong, .ref a0_runPiece, .int v0_runs, .ref a0_alike, .ref a0_stood])), (a0_all, .inl (D.2 1, 5228, .inl g0_all))]) ⟨hx, hb, hml, hown, hts⟩ (mX12_isLetter l D H.size p1 r5 hr5) (va_cwS 1 hts gX12_tally_X12_isLetter rfl rfl rfl (by decide +kernel) ⟨Nat.le_of_ble_eq_true rfl, Nat.le_of_ble_eq_true rfl⟩) hK hP hD hS hA [] [0, 1] [0, 1] rfl (by decide) rfl (by decide) (by decide) rfl (by decide) rfl hl.1 rfl (Nat.le_of_ble_eq_true rfl) dX12_tally_5 ⟨Nat.zero_le _, Nat.zero_le _⟩ (fun H locs hb_6 hP hD hS => ?_)
    refine lv_if_ne (tgt := 26) hx hb dX12_tally_8 (by decide) (fun c_7 => ?_) (fun c_7 => ?_)
    · replace hf := im c_7 hf
      refine lv_iconst (v := 0) hx hb dX12_tally_26 (by decide) ?_
      refine lv_istore_n (lv' := [(3, .int (0 : Int32)), (0, .ref a0), (1, .int p1), (2, .int p2)]) hx hb dX12_tally_27 rfl hl (by decide) rfl (fun ls hl => ?_)
      refine lv_iconst (v := 0) hx hb dX12_tally_28 (by decide) ?_
      refine lv_istore (lv' := [(4, .int (0 : Int32)), (3, .int (0 : Int32)), (0, .ref a0), (1, .int p1), (2, .int p2)]) hx hb dX12_tally_29 hl (by decide) rfl (fun ls hl => ?_)
      exact k31 N (0 : Int32) (0 : Int32) H locs ls hf hP hD hS (lv_sub hl [2, 3, 4, 1, 0] rfl)
    · replace hf := ip c_7 hf
      refine lv_goto (tgt := 24) hx hb dX12_tally_11 (by decide) ?_
      refine lv_iconst (v := -1) hx hb dX12_tally_24 (by decide) ?_
      have he := Option.some.inj hf
      rw [hQ]
      exact W.iret (v := (-1 : Int32)) hx hb hr (fun t ht hW => by rw [← he]; exact ⟨⟨(-1 : Int32), (), rfl, rfl, by rw [ht]; exact hP, hD⟩, hS.F ht⟩) hS.2.2 dX12_tally_25
