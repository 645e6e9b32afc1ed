def fX12_turnOf_2 (N : Nat) (g0_turnWord : Nat → Int32) (g0_turnFrom : Nat → Int32) (p1 : Int32) (p2 : Int32) : Nat → Int32 → Option (Int32)
  | 0, _ => none
  | K + 1, x3 =>
    if x3 < 0 ∨ 320 ≤ (x3).toNatClampNeg then none else
    if (g0_turnWord (x3).toNatClampNeg) = p1 then
      if x3 < 0 ∨ 320 ≤ (x3).toNatClampNeg then none else
      if (g0_turnFrom (x3).toNatClampNeg) = p2 then
        some (x3)
      else
        (fX12_turnOf_2 N g0_turnWord g0_turnFrom p1 p2 K) (x3 + (1 : Int32))
    else
      (fX12_turnOf_2 N g0_turnWord g0_turnFrom p1 p2 K) (x3 + (1 : Int32))
def fX12_turnOf (N : Nat) (g0_turnWord : Nat → Int32) (g0_turnFrom : Nat → Int32) (p1 : Int32) (p2 : Int32) : Option (Int32) :=
  fX12_turnOf_2 N g0_turnWord g0_turnFrom p1 p2 N (0 : Int32)
set_option maxHeartbeats 4000000 in
set_option maxRecDepth 100000 in
theorem mX12_turnOf (l : Launch) (D : zG) (a0 : Nat) (a0_all : Nat) (a0_tape : Nat) (a0_isImage : Nat) (a0_turnWord : Nat) (a0_turnFrom : Nat) (a0_pieceSign : Nat) (a0_pieceFrom : Nat) (a0_runFrom : Nat) (a0_runLong : Nat) (a0_runPiece : Nat) (a0_alike : Nat) (a0_stood : Nat) (sz : Nat)  (v0_taped : Int32) (v0_faultKind : Int32) (v0_faultPlace : Int32) (v0_undos : Int32) (v0_turns : Int32) (v0_pieces : Int32) (v0_signs : Int32) (v0_runs : Int32) (g0_turnWord : Nat → Int32) (g0_turnFrom : Nat → Int32) (p1 : Int32) (p2 : Int32) (N : Nat) (res : Int32) (hf : fX12_turnOf N g0_turnWord g0_turnFrom p1 p2 = some res) : Met l yX12_turnOf wsX12_turnOf ({ frames := 0, cells := 0, slots := 0, locals := 0 } : Room) (va_Pc [.ref a0, .int p1, .int p2] (zW D sz [(a0, .inr (9, [.ref a0_all, .ref a0_tape, .ref a0_isImage, .int v0_taped, .int v0_faultKind, .int v0_faultPlace, .int v0_undos, .ref a0_turnWord, .ref a0_turnFrom, .int v0_turns, .ref a0_pieceSign, .ref a0_pieceFrom, .int v0_pieces, .int v0_signs, .ref a0_runFrom, .ref a0_runLong, .ref a0_runPiece, .int v0_runs, .ref a0_alike, .ref a0_stood])), (a0_turnWord, .inl (D.2 1, 320, .inl g0_turnWord)), (a0_turnFrom, .inl (D.2 1, 320, .inl g0_turnFrom))])) (va_Qi (fun r (_ : Unit) => r = res) (fun _ => zB D (va_A [(a0, .inr (9, [.ref a0_all, .ref a0_tape, .ref a0_isImage, .int v0_taped, .int v0_faultKind, .int v0_faultPlace, .int v0_undos, .ref a0_turnWord, .ref a0_turnFrom, .int v0_turns, .ref a0_pieceSign, .ref a0_pieceFrom, .int v0_pieces, .int v0_signs, .ref a0_runFrom, .ref a0_runLong, .ref a0_runPiece, .int v0_runs, .ref a0_alike, .ref a0_stood])), (a0_turnWord, .inl (D.2 1, 320, .inl g0_turnWord)), (a0_turnFrom, .inl (D.2 1, 320, .inl g0_turnFrom))] sz) [(a0, .inr (9, [.ref a0_all, .ref a0_tape, .ref a0_isImage, .int v0_taped, .int v0_faultKind, .int v0_faultPlace, .int v0_undos, .ref a0_turnWord, .ref a0_turnFrom, .int v0_turns, .ref a0_pieceSign, .ref a0_pieceFrom, .int v0_pieces, .int v0_signs, .ref a0_runFrom, .ref a0_runLong, .ref a0_runPiece, .int v0_runs, .ref a0_alike, .ref a0_stood])), (a0_turnWord, .inl (D.2 1, 320, .inl g0_turnWord)), (a0_turnFrom, .inl (D.2 1, 320, .inl g0_turnFrom))]) (va_A [(a0, .inr (9, [.ref a0_all, .ref a0_tape, .ref a0_isImage, .int v0_taped, .int v0_faultKind, .int v0_faultPlace, .int v0_undos, .ref a0_turnWord, .ref a0_turnFrom, .int v0_turns, .ref a0_pieceSign, .ref a0_pieceFrom, .int v0_pieces, .int v0_signs, .ref a0_runFrom, .ref a0_runLong, .ref a0_runPiece, .int v0_runs, .ref a0_alike, .ref a0_stood])), (a0_turnWord, .inl (D.2 1, 320, .inl g0_turnWord)), (a0_turnFrom, .inl (D.2 1, 320, .inl g0_turnFrom))] sz)) 0 0 (va_A [(a0, .inr (9, [.ref a0_all, .ref a0_tape, .ref a0_isImage, .int v0_taped, .int v0_faultKind, .int v0_faultPlace, .int v0_undos, .ref a0_turnWord, .ref a0_turnFrom, .int v0_turns, .ref a0_pieceSign, .ref a0_pieceFrom, .int v0_pieces, .int v0_signs, .ref a0_runFrom, .ref a0_runLong, .ref a0_runPiece, .int v0_runs, .ref a0_alike, .ref a0_stood])), (a0_turnWord, .inl (D.2 1, 320, .inl g0_turnWord)), (a0_turnFrom, .inl (D.2 1, 320, .inl g0_turnFrom))] sz) := by
  refine Met.ofW (cc := cX12_turnOf) (maxL := 4) (ret := (some .int)) (by decide) rfl ?_
  intro p e s m args below meth c s₁ B hml hv
  obtain ⟨rfl, hsz, hP, hK, hD0⟩ := hv
  have hx := B.exec
  have hb := B.bytes
  have hr := B.returns
  have hts := atoms_spec (ws := wsX12_turnOf) B.pre
  have hown : s.vm.findClass RX12 = some m.cls := findClass_of_methodNamed B.named
  have hlocks := B.notSynchronized
  subst hsz
  have hD := hD0.self (sz := s.heap.size)
  generalize hAe : va_A [(a0, .inr (9, [.ref a0_all, .ref a0_tape, .ref a0_isImage, .int v0_taped, .int v0_faultKind, .int v0_faultPlace, .int v0_undos, .ref a0_turnWord, .ref a0_turnFrom, .int v0_turns, .ref a0_pieceSign, .ref a0_pieceFrom, .int v0_pieces, .int v0_signs, .ref a0_runFrom, .ref a0_runLong, .ref a0_runPiece, .int v0_runs, .ref a0_alike, .ref a0_stood])), (a0_turnWord, .inl (D.2 1, 320, .inl g0_turnWord)), (a0_turnFrom, .inl (D.2 1, 320, .inl g0_turnFrom))] s.heap.size = A at hD ⊢
  have hA : ∀ q : Nat, s.heap.size ≤ q → A q := fun q h => by rw [← hAe]; exact Or.inr h
  have l24 := zat hts 1 (w := .fieldLink RX12 24 "TurnedWordsModel" "turnWord" "[I") rfl
  have l27 := zat hts 2 (w := .fieldLink RX12 27 "TurnedWordsModel" "turnFrom" "[I") rfl
  have hwX12 : ∀ w ∈ u_ws RX12 TX12 20, w ∈ wsX12_turnOf := fun w h => List.mem_cons_of_mem _ (List.mem_append_right _ h)
  have hl := lv_entry ([.ref a0, .int p1, .int p2]) (n := 4) (Nat.le_of_ble_eq_true rfl)
  rw [lg_entry_eq]
  generalize (lg_sl ([.ref a0, .int p1, .int p2]) ++ List.replicate (4 - (lg_sl ([.ref a0, .int p1, .int p2])).length) Slot.unset).toArray = ls at hl ⊢
  have hl : lv_has ls 4 [(0, .ref a0), (1, .int p1), (2, .int p2)] := hl
  refine zStart (A := A) hP (fun Q0 H locs hQ hP hS => ?_)
  have k2 : ∀ K : Nat, ∀ (x3 : Int32) (H : Heap) (locs : List Loc) (ls : Array Slot), fX12_turnOf_2 N g0_turnWord g0_turnFrom p1 p2 K x3 = some res → va_P D.1 vwCl [(a0, .inr (9, [.ref a0_all, .ref a0_tape, .ref a0_isImage, .int v0_taped, .int v0_faultKind, .int v0_faultPlace, .int v0_undos, .ref a0_turnWord, .ref a0_turnFrom, .int v0_turns, .ref a0_pieceSign, .ref a0_pieceFrom, .int v0_pieces, .int v0_signs, .ref a0_runFrom, .ref a0_runLong, .ref a0_runPiece, .int v0_runs, .ref a0_alike, .ref a0_stood])), (a0_turnWord, .inl (D.2 1, 320, .inl g0_turnWord)), (a0_turnFrom, .inl (D.2 1, 320, .inl g0_turnFrom))] H → va_D A [(a0, .inr (9, [.ref a0_all, .ref a0_tape, .ref a0_isImage, .int v0_taped, .int v0_faultKind, .int v0_faultPlace, .int v0_undos, .ref a0_turnWord, .ref a0_turnFrom, .int v0_turns, .ref a0_pieceSign, .ref a0_pieceFrom, .int v0_pieces, .int v0_signs, .ref a0_runFrom, .ref a0_runLong, .ref a0_runPiece, .int v0_runs, .ref a0_alike, .ref a0_stood])), (a0_turnWord, .inl (D.2 1, 320, .inl g0_turnWord)), (a0_turnFrom, .inl (D.2 1, 320, .inl g0_turnFrom))] → va_S A s.heap H locs → lv_has ls 4 [(0, .ref a0), (1, .int p1), (2, .int p2), (3, .int x3)] → W p l e (headSpec wsX12_turnOf ({ frames := 0, cells := 0, slots := 0, locals := 0 } : Room)).room s m ([.ref a0, .int p1, .int p2] : List Value).toArray below meth c H locs 0 0 Q0 (F0 m 2 ls []) := by
    intro K
    induction K with
    | zero =>
      intro x3 H locs ls hf
      rw [fX12_turnOf_2] at hf
      cases hf
    | succ K ih =>
      intro x3 H locs ls hf hP hD hS hl
      rw [fX12_turnOf_2] at hf
      refine lv_aload_n hx hb dX12_turnOf_2 rfl (lv_at hl 0 rfl) ?_
      refine va_get (D := D.1) (ci := 9) (v := .ref a0_turnWord) (C := RX12) (T := TX12) (N := 20) hx hb hts hwX12 hown hK.1 hP 0 rfl rfl 7 (by decide) l24 (fun _ h9 => h9) rfl dX12_turnOf_3 ?_
      refine lv_iload_n hx hb dX12_turnOf_6 rfl (lv_at hl 3 rfl) ?_
      obtain ⟨h_1, hf⟩ := gd hf
      refine va_iald hx hb hK.1 hP 1 1 rfl rfl h_1 dX12_turnOf_7 ?_
      refine lv_iload_n hx hb dX12_turnOf_8 rfl (lv_at hl 1 rfl) ?_
      refine lv_icmp_ne (tgt := 22) hx hb dX12_turnOf_9 (by decide) (fun c_2 => ?_) (fun c_2 => ?_)
      · replace hf := im c_2 hf
        refine lv_iinc (v := (x3 + (1 : Int32))) (lv' := [(3, .int (x3 + (1 : Int32))), (0, .ref a0), (1, .int p1), (2, .int p2)]) hx hb dX12_turnOf_22 hl (k := 3) rfl rfl (by decide) rfl (fun ls hl => ?_)
        refine lv_goto (tgt := 2) hx hb dX12_turnOf_25 (by decide) ?_
        exact ih (x3 + (1 : Int32)) H locs ls hf hP hD hS (lv_sub hl [1, 2, 3, 0] rfl)
      · replace hf := ip c_2 hf
        refine lv_aload_n hx hb dX12_turnOf_12 rfl (lv_at hl 0 rfl) ?_
        refine va_get (D := D.1) (ci := 9) (v := .ref a0_turnFrom) (C := RX12) (T := TX12) (N := 20) hx hb hts hwX12 hown hK.1 hP 0 rfl rfl 8 (by decide) l27 (fun _ h9 => h9) rfl dX12_turnOf_13 ?_
        refine lv_iload_n hx hb dX12_turnOf_16 rfl (lv_at hl 3 rfl) ?_
        obtain ⟨h_3, hf⟩ := gd hf
        refine va_iald hx hb hK.1 hP 2 1 rfl rfl h_3 dX12_turnOf_17 ?_
        refine lv_iload_n hx hb dX12_turnOf_18 rfl (lv_at hl 2 rfl) ?_
        refine lv_icmp_eq (tgt := 28) hx hb dX12_turnOf_19 (by decide) (fun c_4 => ?_) (fun c_4 => ?_)
        · replace hf := ip c_4 hf
          refine lv_iload_n hx hb dX12_turnOf_28 rfl (lv_at hl 3 rfl) ?_
          have he := Option.some.inj hf
          rw [hQ]
          exact W.iret (v := x3) hx hb hr (fun t ht hW => by rw [← he]; exact ⟨⟨x3, (), rfl, rfl, by rw [ht]; exact hP, hD⟩, hS.F ht⟩) hS.2.2 dX12_turnOf_29
        · replace hf := im c_4 hf
          refine lv_iinc (v := (x3 + (1 : Int32))) (lv' := [(3, .int (x3 + (1 : Int32))), (0, .ref a0), (1, .int p1), (2, .int p2)]) hx hb dX12_turnOf_22 hl (k := 3) rfl rfl (by decide) rfl (fun ls hl => ?_)
          refine lv_goto (tgt := 2) hx hb dX12_turnOf_25 (by decide) ?_
          exact ih (x3 + (1 : Int32)) H locs ls hf hP hD hS (lv_sub hl [1, 2, 3, 0] rfl)
  unfold fX12_turnOf at hf
  refine lv_iconst (v := 0) hx hb dX12_turnOf_0 (by decide) ?_
  refine lv_istore_n (lv' := [(3, .int (0 : Int32)), (0, .ref a0), (1, .int p1), (2, .int p2)]) hx hb dX12_turnOf_1 rfl hl (by decide) rfl (fun ls hl => ?_)
  exact k2 N (0 : Int32) H locs ls hf hP hD hS (lv_sub hl [1, 2, 3, 0] rfl)
def fX12_goesOn_5 (N : Nat) (g0_all : Nat → Int32) (p1 : Int32) (p2 : Int32) : Nat → Int32 → Int32 → Option (Int32)
  | 0, _, _ => none
  | K + 1, x3, x4 =>
    if p1 < 0 ∨ 5228 ≤ (p1).toNatClampNeg then none else
    if (g0_all (p1).toNatClampNeg) ≤ x4 then
      some (x3)
    else
      if ((x3 >>> (x4 &&& 31)) &&& (1 : Int32)) = (1 : Int32) then
        if ((p1 + (1 : Int32)) + x4) < 0 ∨ 5228 ≤ (((p1 + (1 : Int32)) + x4)).toNatClampNeg then none else
        if (g0_all (((p1 + (1 : Int32)) + x4)).toNatClampNeg) = (42 : Int32) then
          (fX12_goesOn_5 N g0_all p1 p2 K) (x3 ||| ((2 : Int32) <<< (x4 &&& 31))) (x4 + (1 : Int32))
        else
          (fX12_goesOn_5 N g0_all p1 p2 K) x3 (x4 + (1 : Int32))
      else
        (fX12_goesOn_5 N g0_all p1 p2 K) x3 (x4 + (1 : Int32))
def fX12_goesOn (N : Nat) (g0_all : Nat → Int32) (p1 : Int32) (p2 : Int32) : Option (Int32) :=
  fX12_goesOn_5 N g0_all p1 p2 N p2 (0 : Int32)
set_option maxHeartbeats 4000000 in
set_option maxRecDepth 100000 in
theorem mX12_goesOn (l : Launch) (D : zG) (a0 : Nat) (a0_all : Nat) (a0_tape : Nat) (a0_isImage : Nat) (a0_turnWord : Nat) (a0_turnFrom : Nat) (a0_pieceSign : Nat) (a0_pieceFrom : Nat) (a0_runFrom : Nat) (a0_runLong : Nat) (a0_runPiece : Nat) (a0_alike : Nat) (a0_stood : Nat) (sz : Nat)  (v0_taped : Int32) (v0_faultKind : Int32) (v0_faultPlace : Int32) (v0_undos : Int32) (v0_turns : Int32) (v0_pieces : Int32) (v0_signs : Int32) (v0_runs : Int32) (g0_all : Nat → Int32) (p1 : Int32) (p2 : Int32) (N : Nat) (res : Int32) (hf : fX12_goesOn N g0_all p1 p2 = some res) : Met l yX12_goesOn wsX12_goesOn ({ frames := 0, cells := 0, slots := 0, locals := 0 } : Room) (va_Pc [.ref a0, .int p1, .int p2] (zW D sz [(a0, .inr (9, [.ref a0_all, .ref a0_tape, .ref a0_isImage, .int v0_taped, .int v0_faultKind, .int v0_faultPlace, .int v0_undos, .ref a0_turnWord, .ref a0_turnFrom, .int v0_turns, .ref a0_pieceSign, .ref a0_pieceFrom, .int v0_pieces, .int v0_signs, .ref a0_runFrom, .ref a0_runLong, .ref a0_runPiece, .int v0_runs, .ref a0_alike, .ref a0_stood])), (a0_all, .inl (D.2 1, 5228, .inl g0_all))])) (va_Qi (fun r (_ : Unit) => r = res) (fun _ => zB D (va_A [(a0, .inr (9, [.ref a0_all, .ref a0_tape, .ref a0_isImage, .int v0_taped, .int v0_faultKind, .int v0_faultPlace, .int v0_undos, .ref a0_turnWord, .ref a0_turnFrom, .int v0_turns, .ref a0_pieceSign, .ref a0_pieceFrom, .int v0_pieces, .int v0_signs, .ref a0_runFrom, .ref a0_runLong, .ref a0_runPiece, .int v0_runs, .ref a0_alike, .ref a0_stood])), (a0_all, .inl (D.2 1, 5228, .inl g0_all))] sz) [(a0, .inr (9, [.ref a0_all, .ref a0_tape, .ref a0_isImage, .int v0_taped, .int v0_faultKind, .int v0_faultPlace, .int v0_undos, .ref a0_turnWord, .ref a0_turnFrom, .int v0_turns, .ref a0_pieceSign, .ref a0_pieceFrom, .int v0_pieces, .int v0_signs, .ref a0_runFrom, .ref a0_runLong, .ref a0_runPiece, .int v0_runs, .ref a0_alike, .ref a0_stood])), (a0_all, .inl (D.2 1, 5228, .inl g0_all))]) (va_A [(a0, .inr (9, [.ref a0_all, .ref a0_tape, .ref a0_isImage, .int v0_taped, .int v0_faultKind, .int v0_faultPlace, .int v0_undos, .ref a0_turnWord, .ref a0_turnFrom, .int v0_turns, .ref a0_pieceSign, .ref a0_pieceFrom, .int v0_pieces, .int v0_signs, .ref a0_runFrom, .ref a0_runLong, .ref a0_runPiece, .int v0_runs, .ref a0_alike, .ref a0_stood])), (a0_all, .inl (D.2 1, 5228, .inl g0_all))] sz)) 0 0 (va_A [(a0, .inr (9, [.ref a0_all, .ref a0_tape, .ref a0_isImage, .int v0_taped, .int v0_faultKind, .int v0_faultPlace, .int v0_undos, .ref a0_turnWord, .ref a0_turnFrom, .int v0_turns, .ref a0_pieceSign, .ref a0_pieceFrom, .int v0_pieces, .int v0_signs, .ref a0_runFrom, .ref a0_runLong, .ref a0_runPiece, .int v0_runs, .ref a0_alike, .ref a0_stood])), (a0_all, .inl (D.2 1, 5228, .inl g0_all))] sz) := by
  refine Met.ofW (cc := cX12_goesOn) (maxL := 5) (ret := (some .int)) (by decide) rfl ?_
  intro p e s m args below meth c s₁ B hml hv
  obtain ⟨rfl, hsz, hP, hK, hD0⟩ := hv
  have hx := B.exec
  have hb := B.bytes
  have hr := B.returns
  have hts := atoms_spec (ws := wsX12_goesOn) B.pre
  have hown : s.vm.findClass RX12 = some m.cls := findClass_of_methodNamed B.named
  have hlocks := B.notSynchronized
  subst hsz
  have hD := hD0.self (sz := s.heap.size)
  generalize hAe : va_A [(a0, .inr (9, [.ref a0_all, .ref a0_tape, .ref a0_isImage, .int v0_taped, .int v0_faultKind, .int v0_faultPlace, .int v0_undos, .ref a0_turnWord, .ref a0_turnFrom, .int v0_turns, .ref a0_pieceSign, .ref a0_pieceFrom, .int v0_pieces, .int v0_signs, .ref a0_runFrom, .ref a0_runLong, .ref a0_runPiece, .int v0_runs, .ref a0_alike, .ref a0_stood])), (a0_all, .inl (D.2 1, 5228, .inl g0_all))] s.heap.size = A at hD ⊢
  have hA : ∀ q : Nat, s.heap.size ≤ q → A q := fun q h => by rw [← hAe]; exact Or.inr h
  have l7 := zat hts 1 (w := .fieldLink RX12 7 "TurnedWordsModel" "all" "[I") rfl
  have hwX12 : ∀ w ∈ u_ws RX12 TX12 20, w ∈ wsX12_goesOn := fun w h => List.mem_cons_of_mem _ (List.mem_append_right _ h)
  have hl := lv_entry ([.ref a0, .int p1, .int p2]) (n := 5) (Nat.le_of_ble_eq_true rfl)
  rw [lg_entry_eq]
  generalize (lg_sl ([.ref a0, .int p1, .int p2]) ++ List.replicate (5 - (lg_sl ([.ref a0, .int p1, .int p2])).length) Slot.unset).toArray = ls at hl ⊢
  have hl : lv_has ls 5 [(0, .ref a0), (1, .int p1), (2, .int p2)] := hl
  refine zStart (A := A) hP (fun Q0 H locs hQ hP hS => ?_)
  have k5 : ∀ K : Nat, ∀ (x3 : Int32) (x4 : Int32) (H : Heap) (locs : List Loc) (ls : Array Slot), fX12_goesOn_5 N g0_all p1 p2 K x3 x4 = some res → va_P D.1 vwCl [(a0, .inr (9, [.ref a0_all, .ref a0_tape, .ref a0_isImage, .int v0_taped, .int v0_faultKind, .int v0_faultPlace, .int v0_undos, .ref a0_turnWord, .ref a0_turnFrom, .int v0_turns, .ref a0_pieceSign, .ref a0_pieceFrom, .int v0_pieces, .int v0_signs, .ref a0_runFrom, .ref a0_runLong, .ref a0_runPiece, .int v0_runs, .ref a0_alike, .ref a0_stood])), (a0_all, .inl (D.2 1, 5228, .inl g0_all))] H → va_D A [(a0, .inr (9, [.ref a0_all, .ref a0_tape, .ref a0_isImage, .int v0_taped, .int v0_faultKind, .int v0_faultPlace, .int v0_undos, .ref a0_turnWord, .ref a0_turnFrom, .int v0_turns, .ref a0_pieceSign, .ref a0_pieceFrom, .int v0_pieces, .int v0_signs, .ref a0_runFrom, .ref a0_runLong, .ref a0_runPiece, .int v0_runs, .ref a0_alike, .ref a0_stood])), (a0_all, .inl (D.2 1, 5228, .inl g0_all))] → va_S A s.heap H locs → lv_has ls 5 [(0, .ref a0), (1, .int p1), (3, .int x3), (4, .int x4)] → W p l e (headSpec wsX12_goesOn ({ frames := 0, cells := 0, slots := 0, locals := 0 } : Room)).room s m ([.ref a0, .int p1, .int p2] : List Value).toArray below meth c H locs 0 0 Q0 (F0 m 5 ls []) := by
    intro K
    induction K with
    | zero =>
      intro x3 x4 H locs ls hf
      rw [fX12_goesOn_5] at hf
      cases hf
    | succ K ih =>
      intro x3 x4 H locs ls hf hP hD hS hl
      rw [fX12_goesOn_5] at hf
      refine lv_iload hx hb dX12_goesOn_5 (lv_at hl 3 rfl) ?_
      refine lv_aload_n hx hb dX12_goesOn_7 rfl (lv_at hl 0 rfl) ?_
      refine va_get (D := D.1) (ci := 9) (v := .ref a0_all) (C := RX12) (T := TX12) (N := 20) hx hb hts hwX12 hown hK.1 hP 0 rfl rfl 0 (by decide) l7 (fun _ h9 => h9) rfl dX12_goesOn_8 ?_
      refine lv_iload_n hx hb dX12_goesOn_11 rfl (lv_at hl 1 rfl) ?_
      obtain ⟨h_1, hf⟩ := gd hf
      refine va_iald hx hb hK.1 hP 1 1 rfl rfl h_1 dX12_goesOn_12 ?_
      refine lv_icmp_ge (tgt := 55) hx hb dX12_goesOn_13 (by decide) (fun c_2 => ?_) (fun c_2 => ?_)
      · replace hf := ip c_2 hf
        refine lv_iload_n hx hb dX12_goesOn_55 rfl (lv_at hl 2 rfl) ?_
        have he := Option.some.inj hf
        rw [hQ]
        exact W.iret (v := x3) hx hb hr (fun t ht hW => by rw [← he]; exact ⟨⟨x3, (), rfl, rfl, by rw [ht]; exact hP, hD⟩, hS.F ht⟩) hS.2.2 dX12_goesOn_56
      · replace hf := im c_2 hf
        refine lv_iload_n hx hb dX12_goesOn_16 rfl (lv_at hl 2 rfl) ?_
        refine lv_iload hx hb dX12_goesOn_17 (lv_at hl 3 rfl) ?_
        refine lv_ishr hx hb dX12_goesOn_19 ?_
        refine lv_iconst (v := 1) hx hb dX12_goesOn_20 (by decide) ?_
        refine lv_iand hx hb dX12_goesOn_21 ?_
        refine lv_iconst (v := 1) hx hb dX12_goesOn_22 (by decide) ?_
        refine lv_icmp_ne (tgt := 49) hx hb dX12_goesOn_23 (by decide) (fun c_3 => ?_) (fun c_3 => ?_)
        · replace hf := im c_3 hf
          refine lv_iinc (v := (x4 + (1 : Int32))) (lv' := [(4, .int (x4 + (1 : Int32))), (0, .ref a0), (1, .int p1), (3, .int x3)]) hx hb dX12_goesOn_49 hl (k := 3) rfl rfl (by decide) rfl (fun ls hl => ?_)
          refine lv_goto (tgt := 5) hx hb dX12_goesOn_52 (by decide) ?_
          exact ih x3 (x4 + (1 : Int32)) H locs ls hf hP hD hS (lv_sub hl [1, 2, 3, 0] rfl)
        · replace hf := ip c_3 hf
          refine lv_aload_n hx hb dX12_goesOn_26 rfl (lv_at hl 0 rfl) ?_
          refine va_get (D := D.1) (ci := 9) (v := .ref a0_all) (C := RX12) (T := TX12) (N := 20) hx hb hts hwX12 hown hK.1 hP 0 rfl rfl 0 (by decide) l7 (fun _ h9 => h9) rfl dX12_goesOn_27 ?_
          refine lv_iload_n hx hb dX12_goesOn_30 rfl (lv_at hl 1 rfl) ?_
          refine lv_iconst (v := 1) hx hb dX12_goesOn_31 (by decide) ?_
          refine lv_iadd hx hb dX12_goesOn_32 ?_
          refine lv_iload hx hb dX12_goesOn_33 (lv_at hl 3 rfl) ?_
          refine lv_iadd hx hb dX12_goesOn_35 ?_
          obtain ⟨h_4, hf⟩ := gd hf
          refine va_iald hx hb hK.1 hP 1 1 rfl rfl h_4 dX12_goesOn_36 ?_
          refine lv_bipush (v := 42) hx hb dX12_goesOn_37 (by decide) ?_
          refine lv_icmp_ne (tgt := 49) hx hb dX12_goesOn_39 (by decide) (fun c_5 => ?_) (fun c_5 => ?_)
          · replace hf := im c_5 hf
            refine lv_iinc (v := (x4 + (1 : Int32))) (lv' := [(4, .int (x4 + (1 : Int32))), (0, .ref a0), (1, .int p1), (3, .int x3)]) hx hb dX12_goesOn_49 hl (k := 3) rfl rfl (by decide) rfl (fun ls hl => ?_)
            refine lv_goto (tgt := 5) hx hb dX12_goesOn_52 (by decide) ?_
            exact ih x3 (x4 + (1 : Int32)) H locs ls hf hP hD hS (lv_sub hl [1, 2, 3, 0] rfl)
          · replace hf := ip c_5 hf
            refine lv_iload_n hx hb dX12_goesOn_42 rfl (lv_at hl 2 rfl) ?_
            refine lv_iconst (v := 2) hx hb dX12_goesOn_43 (by decide) ?_
            refine lv_iload hx hb dX12_goesOn_44 (lv_at hl 3 rfl) ?_
            refine lv_ishl hx hb dX12_goesOn_46 ?_
            refine lv_ior hx hb dX12_goesOn_47 ?_
            refine lv_istore_n (lv' := [(3, .int (x3 ||| ((2 : Int32) <<< (x4 &&& 31)))), (0, .ref a0), (1, .int p1), (4, .int x4)]) hx hb dX12_goesOn_48 rfl hl (by decide) rfl (fun ls hl => ?_)
            refine lv_iinc (v := (x4 + (1 : Int32))) (lv' := [(4, .int (x4 + (1 : Int32))), (3, .int (x3 ||| ((2 : Int32) <<< (x4 &&& 31)))), (0, .ref a0), (1, .int p1)]) hx hb dX12_goesOn_49 hl (k := 3) rfl rfl (by decide) rfl (fun ls hl => ?_)
            refine lv_goto (tgt := 5) hx hb dX12_goesOn_52 (by decide) ?_
            exact ih (x3 ||| ((2 : Int32) <<< (x4 &&& 31))) (x4 + (1 : Int32)) H locs ls hf hP hD hS (lv_sub hl [2, 3, 1, 0] rfl)
  unfold fX12_goesOn at hf
  refine lv_iload_n hx hb dX12_goesOn_0 rfl (lv_at hl 2 rfl) ?_
  refine lv_istore_n (lv' := [(3, .int p2), (0, .ref a0), (1, .int p1), (2, .int p2)]) hx hb dX12_goesOn_1 rfl hl (by decide) rfl (fun ls hl => ?_)
  refine lv_iconst (v := 0) hx hb dX12_goesOn_2 (by decide) ?_
  refine lv_istore (lv' := [(4, .int (0 : Int32)), (3, .int p2), (0, .ref a0), (1, .int p1), (2, .int p2)]) hx hb dX12_goesOn_3 hl (by decide) rfl (fun ls hl => ?_)
  exact k5 N p2 (0 : Int32) H locs ls hf hP hD hS (lv_sub hl [2, 3, 1, 0] rfl)
def fX12_meets_100 (N : Nat) (g0_all : Nat → Int32) (p1 : Int32) (p2 : Int32) (rec10 : Int32 → Int32 → Option (Int32)) (rec27 : Int32 → Int32 → Int32 → Int32 → Option (Int32)) (y0 : Int32) (x3 : Int32) (x4 : Int32) (x6 : Int32) : Option (Int32) :=
  rec27 x3 x4 (y0 ||| ((2 : Int32) <<< (x6 &&& 31))) (x6 + (1 : Int32))
def fX12_meets_27 (N : Nat) (g0_all : Nat → Int32) (p1 : Int32) (p2 : Int32) (rec10 : Int32 → Int32 → Option (Int32)) : Nat → Int32 → Int32 → Int32 → Int32 → Option (Int32)
  | 0, _, _, _, _ => none
  | K + 1, x3, x4, x5, x6 =>
    if p1 < 0 ∨ 5228 ≤ (p1).toNatClampNeg then none else
    if (g0_all (p1).toNatClampNeg) ≤ x6 then
      Option.bind (fX12_goesOn N g0_all p1 x5) fun r8 =>
      rec10 r8 (x4 + (1 : Int32))
    else
      if ((p1 + (1 : Int32)) + x6) < 0 ∨ 5228 ≤ (((p1 + (1 : Int32)) + x6)).toNatClampNeg then none else
      if ((x3 >>> (x6 &&& 31)) &&& (1 : Int32)) = (0 : Int32) then
        (fX12_meets_27 N g0_all p1 p2 rec10 K) x3 x4 x5 (x6 + (1 : Int32))
      else
        if (g0_all (((p1 + (1 : Int32)) + x6)).toNatClampNeg) = (42 : Int32) then
          (fX12_meets_27 N g0_all p1 p2 rec10 K) x3 x4 (x5 ||| ((1 : Int32) <<< (x6 &&& 31))) (x6 + (1 : Int32))
        else
          if (g0_all (((p1 + (1 : Int32)) + x6)).toNatClampNeg) = (63 : Int32) then
            fX12_meets_100 N g0_all p1 p2 rec10 (fX12_meets_27 N g0_all p1 p2 rec10 K) x5 x3 x4 x6
          else
            if (p2 + x4) < 0 ∨ 5228 ≤ ((p2 + x4)).toNatClampNeg then none else
            if (g0_all (((p1 + (1 : Int32)) + x6)).toNatClampNeg) = (g0_all ((p2 + x4)).toNatClampNeg) then
              fX12_meets_100 N g0_all p1 p2 rec10 (fX12_meets_27 N g0_all p1 p2 rec10 K) x5 x3 x4 x6
            else
              (fX12_meets_27 N g0_all p1 p2 rec10 K) x3 x4 (x5 ||| (0 : Int32)) (x6 + (1 : Int32))
def fX12_meets_10 (N : Nat) (g0_all : Nat → Int32) (p1 : Int32) (p2 : Int32) : Nat → Int32 → Int32 → Option (Int32)
  | 0, _, _ => none
  | K + 1, x3, x4 =>
    if p2 < 0 ∨ 5228 ≤ (p2).toNatClampNeg then none else
    if (g0_all (p2).toNatClampNeg) < x4 then
      if p1 < 0 ∨ 5228 ≤ (p1).toNatClampNeg then none else
      if ((x3 >>> ((g0_all (p1).toNatClampNeg) &&& 31)) &&& (1 : Int32)) = (1 : Int32) then
        some ((1 : Int32))
      else
        some ((0 : Int32))
    else
      fX12_meets_27 N g0_all p1 p2 (fX12_meets_10 N g0_all p1 p2 K) N x3 x4 (0 : Int32) (0 : Int32)
def fX12_meets (N : Nat) (g0_all : Nat → Int32) (p1 : Int32) (p2 : Int32) : Option (Int32) :=
  Option.bind (fX12_goesOn N g0_all p1 (1 : Int32)) fun r1 =>
  fX12_meets_10 N g0_all p1 p2 N r1 (1 : Int32)
set_option maxHeartbeats 4000000 in
set_option maxRecDepth 100000 in
theorem mX12_meets (l : Launch) (D : zG) (a0 : Nat) (a0_all : Nat) (a0_tape : Nat) (a0_isImage : Nat) (a0_turnWord : Nat) (a0_turnFrom : Nat) (a0_pieceSign : Nat) (a0_pieceFrom : Nat) (a0_runFrom : Nat) (a0_runLong : Nat) (a0_runPiece : Nat) (a0_alike : Nat) (a0_stood : Nat) (sz : Nat)  (v0_taped : Int32) (v0_faultKind : Int32) (v0_faultPlace : Int32) (v0_undos : Int32) (v0_turns : Int32) (v0_pieces : Int32) (v0_signs : Int32) (v0_runs : Int32) (g0_all : Nat → Int32) (p1 : Int32) (p2 : Int32) (N : Nat) (res : Int32) (hf : fX12_meets N g0_all p1 p2 = some res) : Met l yX12_meets wsX12_meets ({ frames := 1, cells := 0, slots := 0, locals := 24 } : Room) (va_Pc [.ref a0, .int p1, .int p2] (zW D sz [(a0, .inr (9, [.ref a0_all, .ref a0_tape, .ref a0_isImage, .int v0_taped, .int v0_faultKind, .int v0_faultPlace, .int v0_undos, .ref a0_turnWord, .ref a0_turnFrom, .int v0_turns, .ref a0_pieceSign, .ref a0_pieceFrom, .int v0_pieces, .int v0_signs, .ref a0_runFrom, .ref a0_runLong, .ref a0_runPiece, .int v0_runs, .ref a0_alike, .ref a0_stood])), (a0_all, .inl (D.2 1, 5228, .inl g0_all))])) (va_Qi (fun r (_ : Unit) => r = res ∧ (r = 0 ∨ r = 1)) (fun _ => zB D (va_A [(a0, .inr (9, [.ref a0_all, .ref a0_tape, .ref a0_isImage, .int v0_taped, .int v0_faultKind, .int v0_faultPlace, .int v0_undos, .ref a0_turnWord, .ref a0_turnFrom, .int v0_turns, .ref a0_pieceSign, .ref a0_pieceFrom, .int v0_pieces, .int v0_signs, .ref a0_runFrom, .ref a0_runLong, .ref a0_runPiece, .int v0_runs, .ref a0_alike, .ref a0_stood])), (a0_all, .inl (D.2 1, 5228, .inl g0_all))] sz) [(a0, .inr (9, [.ref a0_all, .ref a0_tape, .ref a0_isImage, .int v0_taped, .int v0_faultKind, .int v0_faultPlace, .int v0_undos, .ref a0_turnWord, .ref a0_turnFrom, .int v0_turns, .ref a0_pieceSign, .ref a0_pieceFrom, .int v0_pieces, .int v0_signs, .ref a0_runFrom, .ref a0_runLong, .ref a0_runPiece, .int v0_runs, .ref a0_alike, .ref a0_stood])), (a0_all, .inl (D.2 1, 5228, .inl g0_all))]) (va_A [(a0, .inr (9, [.ref a0_all, .ref a0_tape, .ref a0_isImage, .int v0_taped, .int v0_faultKind, .int v0_faultPlace, .int v0_undos, .ref a0_turnWord, .ref a0_turnFrom, .int v0_turns, .ref a0_pieceSign, .ref a0_pieceFrom, .int v0_pieces, .int v0_signs, .ref a0_runFrom, .ref a0_runLong, .ref a0_runPiece, .int v0_runs, .ref a0_alike, .ref a0_stood])), (a0_all, .inl (D.2 1, 5228, .inl g0_all))] sz)) 0 0 (va_A [(a0, .inr (9, [.ref a0_all, .ref a0_tape, .ref a0_isImage, .int v0_taped, .int v0_faultKind, .int v0_faultPlace, .int v0_undos, .ref a0_turnWord, .ref a0_turnFrom, .int v0_turns, .ref a0_pieceSign, .ref a0_pieceFrom, .int v0_pieces, .int v0_signs, .ref a0_runFrom, .ref a0_runLong, .ref a0_runPiece, .int v0_runs, .ref a0_alike, .ref a0_stood])), (a0_all, .inl (D.2 1, 5228, .inl g0_all))] sz) := by
  refine Met.ofW (cc := cX12_meets) (maxL := 8) (ret := (some .boolean)) (by decide) rfl ?_
  intro p e s m args below meth c s₁ B hml hv
  obtain ⟨rfl, hsz, hP, hK, hD0⟩ := hv
  have hx := B.exec
  have hb := B.bytes
  have hr := B.returns
  have hts := atoms_spec (ws := wsX12_meets) B.pre
  have hown : s.vm.findClass RX12 = some m.cls := findClass_of_methodNamed B.named
  have hlocks := B.notSynchronized
  subst hsz
  have hD := hD0.self (sz := s.heap.size)
  generalize hAe : va_A [(a0, .inr (9, [.ref a0_all, .ref a0_tape, .ref a0_isImage, .int v0_taped, .int v0_faultKind, .int v0_faultPlace, .int v0_undos, .ref a0_turnWord, .ref a0_turnFrom, .int v0_turns, .ref a0_pieceSign, .ref a0_pieceFrom, .int v0_pieces, .int v0_signs, .ref a0_runFrom, .ref a0_runLong, .ref a0_runPiece, .int v0_runs, .ref a0_alike, .ref a0_stood])), (a0_all, .inl (D.2 1, 5228, .inl g0_all))] s.heap.size = A at hD ⊢
  have hA : ∀ q : Nat, s.heap.size ≤ q → A q := fun q h => by rw [← hAe]; exact Or.inr h
  have l7 := zat hts 1 (w := .fieldLink RX12 7 "TurnedWordsModel" "all" "[I") rfl
  have hwX12 : ∀ w ∈ u_ws RX12 TX12 20, w ∈ wsX12_meets := fun w h => List.mem_cons_of_mem _ (List.mem_append_right _ h)
  have hl := lv_entry ([.ref a0, .int p1, .int p2]) (n := 8) (Nat.le_of_ble_eq_true rfl)
  rw [lg_entry_eq]
  generalize (lg_sl ([.ref a0, .int p1, .int p2]) ++ List.replicate (8 - (lg_sl ([.ref a0, .int p1, .int p2])).length) Slot.unset).toArray = ls at hl ⊢
  have hl : lv_has ls 8 [(0, .ref a0), (1, .int p1), (2, .int p2)] := hl
  refine zStart (A := A) hP (fun Q0 H locs hQ hP hS => ?_)
  have k100 : ∀ (rec10 : Int32 → Int32 → Option (Int32)), (∀ (x3 : Int32) (x4 : Int32) (H : Heap) (locs : List Loc) (ls : Array Slot), rec10 x3 x4 = some res → va_P D.1 vwCl [(a0, .inr (9, [.ref a0_all, .ref a0_tape, .ref a0_isImage, .int v0_taped, .int v0_faultKind, .int v0_faultPlace, .int v0_undos, .ref a0_turnWord, .ref a0_turnFrom, .int v0_turns, .ref a0_pieceSign, .ref a0_pieceFrom, .int v0_pieces, .int v0_signs, .ref a0_runFrom, .ref a0_runLong, .ref a0_runPiece, .int v0_runs, .ref a0_alike, .ref a0_stood])), (a0_all, .inl (D.2 1, 5228, .inl g0_all))] H → va_D A [(a0, .inr (9, [.ref a0_all, .ref a0_tape, .ref a0_isImage, .int v0_taped, .int v0_faultKind, .int v0_faultPlace, .int v0_undos, .ref a0_turnWord, .ref a0_turnFrom, .int v0_turns, .ref a0_pieceSign, .ref a0_pieceFrom, .int v0_pieces, .int v0_signs, .ref a0_runFrom, .ref a0_runLong, .ref a0_runPiece, .int v0_runs, .ref a0_alike, .ref a0_stood])), (a0_all, .inl (D.2 1, 5228, .inl g0_all))] → va_S A s.heap H locs → lv_has ls 8 [(0, .ref a0), (1, .int p1), (2, .int p2), (3, .int x3), (4, .int x4)] → W p l e (headSpec wsX12_meets ({ frames := 1, cells := 0, slots := 0, locals := 24 } : Room)).room s m ([.ref a0, .int p1, .int p2] : List Value).toArray below meth c H locs 0 0 Q0 (F0 m 10 ls [])) → ∀ (rec27 : Int32 → Int32 → Int32 → Int32 → Option (Int32)), (∀ (x3 : Int32) (x4 : Int32) (x5 : Int32) (x6 : Int32) (H : Heap) (locs : List Loc) (ls : Array Slot), rec27 x3 x4 x5 x6 = some res → va_P D.1 vwCl [(a0, .inr (9, [.ref a0_all, .ref a0_tape, .ref a0_isImage, .int v0_taped, .int v0_faultKind, .int v0_faultPlace, .int v0_undos, .ref a0_turnWord, .ref a0_turnFrom, .int v0_turns, .ref a0_pieceSign, .ref a0_pieceFrom, .int v0_pieces, .int v0_signs, .ref a0_runFrom, .ref a0_runLong, .ref a0_runPiece, .int v0_runs, .ref a0_alike, .ref a0_stood])), (a0_all, .inl (D.2 1, 5228, .inl g0_all))] H → va_D A [(a0, .inr (9, [.ref a0_all, .ref a0_tape, .ref a0_isImage, .int v0_taped, .int v0_faultKind, .int v0_faultPlace, .int v0_undos, .ref a0_turnWord, .ref a0_turnFrom, .int v0_turns, .ref a0_pieceSign, .ref a0_pieceFrom, .int v0_pieces, .int v0_signs, .ref a0_runFrom, .ref a0_runLong, .ref a0_runPiece, .int v0_runs, .ref a0_alike, .ref a0_stood])), (a0_all, .inl (D.2 1, 5228, .inl g0_all))] → va_S A s.heap H locs → lv_has ls 8 [(0, .ref a0), (1, .int p1), (2, .int p2), (3, .int x3), (4, .int x4), (5, .int x5), (6, .int x6)] → W p l e (headSpec wsX12_meets ({ frames := 1, cells := 0, slots := 0, locals := 24 } : Room)).room s m ([.ref a0, .int p1, .int p2] : List Value).toArray below meth c H locs 0 0 Q0 (F0 m 27 ls [])) → ∀ (y0 : Int32) (x3 : Int32) (x4 : Int32) (x6 : Int32) (H : Heap) (locs : List Loc) (ls : Array Slot), fX12_meets_100 N g0_all p1 p2 rec10 rec27 y0 x3 x4 x6 = some res → va_P D.1 vwCl [(a0, .inr (9, [.ref a0_all, .ref a0_tape, .ref a0_isImage, .int v0_taped, .int v0_faultKind, .int v0_faultPlace, .int v0_undos, .ref a0_turnWord, .ref a0_turnFrom, .int v0_turns, .ref a0_pieceSign, .ref a0_pieceFrom, .int v0_pieces, .int v0_signs, .ref a0_runFrom, .ref a0_runLong, .ref a0_runPiece, .int v0_runs, .ref a0_alike, .ref a0_stood])), (a0_all, .inl (D.2 1, 5228, .inl g0_all))] H → va_D A [(a0, .inr (9, [.ref a0_all, .ref a0_tape, .ref a0_isImage, .int v0_taped, .int v0_faultKind, .int v0_faultPlace, .int v0_undos, .ref a0_turnWord, .ref a0_turnFrom, .int v0_turns, .ref a0_pieceSign, .ref a0_pieceFrom, .int v0_pieces, .int v0_signs, .ref a0_runFrom, .ref a0_runLong, .ref a0_runPiece, .int v0_runs, .ref a0_alike, .ref a0_stood])), (a0_all, .inl (D.2 1, 5228, .inl g0_all))] → va_S A s.heap H locs → lv_has ls 8 [(0, .ref a0), (1, .int p1), (2, .int p2), (3, .int x3), (4, .int x4), (6, .int x6)] → W p l e (headSpec wsX12_meets ({ frames := 1, cells := 0, slots := 0, locals := 24 } : Room)).room s m ([.ref a0, .int p1, .int p2] : List Value).toArray below meth c H locs 0 0 Q0 (F0 m 100 ls [.int y0]) := by
    intro rec10 hrec10 rec27 hrec27 y0 x3 x4 x6 H locs ls hf hP hD hS hl
    unfold fX12_meets_100 at hf
    refine lv_iconst (v := 2) hx hb dX12_meets_100 (by decide) ?_
    refine lv_iload hx hb dX12_meets_101 (lv_at hl 5 rfl) ?_
    refine lv_ishl hx hb dX12_meets_103 ?_
    refine lv_goto (tgt := 108) hx hb dX12_meets_104 (by decide) ?_
    refine lv_ior hx hb dX12_meets_108 ?_
    refine lv_istore (lv' := [(5, .int (y0 ||| ((2 : Int32) <<< (x6 &&& 31)))), (0, .ref a0), (1, .int p1), (2, .int p2), (3, .int x3), (4, .int x4), (6, .int x6)]) hx hb dX12_meets_109 hl (by decide) rfl (fun ls hl => ?_)
    refine lv_iinc (v := (x6 + (1 : Int32))) (lv' := [(6, .int (x6 + (1 : Int32))), (5, .int (y0 ||| ((2 : Int32) <<< (x6 &&& 31)))), (0, .ref a0), (1, .int p1), (2, .int p2), (3, .int x3), (4, .int x4)]) hx hb dX12_meets_111 hl (k := 6) rfl rfl (by decide) rfl (fun ls hl => ?_)
    refine lv_goto (tgt := 27) hx hb dX12_meets_114 (by decide) ?_
    exact hrec27 x3 x4 (y0 ||| ((2 : Int32) <<< (x6 &&& 31))) (x6 + (1 : Int32)) H locs ls hf hP hD hS (lv_sub hl [2, 3, 4, 5, 6, 1, 0] rfl)
  have k27 : ∀ (rec10 : Int32 → Int32 → Option (Int32)), (∀ (x3 : Int32) (x4 : Int32) (H : Heap) (locs : List Loc) (ls : Array Slot), rec10 x3 x4 = some res → va_P D.1 vwCl [(a0, .inr (9, [.ref a0_all, .ref a0_tape, .ref a0_isImage, .int v0_taped, .int v0_faultKind, .int v0_faultPlace, .int v0_undos, .ref a0_turnWord, .ref a0_turnFrom, .int v0_turns, .ref a0_pieceSign, .ref a0_pieceFrom, .int v0_pieces, .int v0_signs, .ref a0_runFrom, .ref a0_runLong, .ref a0_runPiece, .int v0_runs, .ref a0_alike, .ref a0_stood])), (a0_all, .inl (D.2 1, 5228, .inl g0_all))] H → va_D A [(a0, .inr (9, [.ref a0_all, .ref a0_tape, .ref a0_isImage, .int v0_taped, .int v0_faultKind, .int v0_faultPlace, .int v0_undos, .ref a0_turnWord, .ref a0_turnFrom, .int v0_turns, .ref a0_pieceSign, .ref a0_pieceFrom, .int v0_pieces, .int v0_signs, .ref a0_runFrom, .ref a0_runLong, .ref a0_runPiece, .int v0_runs, .ref a0_alike, .ref a0_stood])), (a0_all, .inl (D.2 1, 5228, .inl g0_all))] → va_S A s.heap H locs → lv_has ls 8 [(0, .ref a0), (1, .int p1), (2, .int p2), (3, .int x3), (4, .int x4)] → W p l e (headSpec wsX12_meets ({ frames := 1, cells := 0, slots := 0, locals := 24 } : Room)).room s m ([.ref a0, .int p1, .int p2] : List Value).toArray below meth c H locs 0 0 Q0 (F0 m 10 ls [])) → ∀ K : Nat, ∀ (x3 : Int32) (x4 : Int32) (x5 : Int32) (x6 : Int32) (H : Heap) (locs : List Loc) (ls : Array Slot), fX12_meets_27 N g0_all p1 p2 rec10 K x3 x4 x5 x6 = some res → va_P D.1 vwCl [(a0, .inr (9, [.ref a0_all, .ref a0_tape, .ref a0_isImage, .int v0_taped, .int v0_faultKind, .int v0_faultPlace, .int v0_undos, .ref a0_turnWord, .ref a0_turnFrom, .int v0_turns, .ref a0_pieceSign, .ref a0_pieceFrom, .int v0_pieces, .int v0_signs, .ref a0_runFrom, .ref a0_runLong, .ref a0_runPiece, .int v0_runs, .ref a0_alike, .ref a0_stood])), (a0_all, .inl (D.2 1, 5228, .inl g0_all))] H → va_D A [(a0, .inr (9, [.ref a0_all, .ref a0_tape, .ref a0_isImage, .int v0_taped, .int v0_faultKind, .int v0_faultPlace, .int v0_undos, .ref a0_turnWord, .ref a0_turnFrom, .int v0_turns, .ref a0_pieceSign, .ref a0_pieceFrom, .int v0_pieces, .int v0_signs, .ref a0_runFrom, .ref a0_runLong, .ref a0_runPiece, .int v0_runs, .ref a0_alike, .ref a0_stood])), (a0_all, .inl (D.2 1, 5228, .inl g0_all))] → va_S A s.heap H locs → lv_has ls 8 [(0, .ref a0), (1, .int p1), (2, .int p2), (3, .int x3), (4, .int x4), (5, .int x5), (6, .int x6)] → W p l e (headSpec wsX12_meets ({ frames := 1, cells := 0, slots := 0, locals := 24 } : Room)).room s m ([.ref a0, .int p1, .int p2] : List Value).toArray below meth c H locs 0 0 Q0 (F0 m 27 ls []) := by
    intro rec10 hrec10 K
    induction K with
    | zero =>
      intro x3 x4 x5 x6 H locs ls hf
      rw [fX12_meets_27] at hf
      cases hf
    | succ K ih =>
      intro x3 x4 x5 x6 H locs ls hf hP hD hS hl
      rw [fX12_meets_27] at hf
      refine lv_iload hx hb dX12_meets_27 (lv_at hl 6 rfl) ?_
      refine lv_aload_n hx hb dX12_meets_29 rfl (lv_at hl 0 rfl) ?_
      refine va_get (D := D.1) (ci := 9) (v := .ref a0_all) (C := RX12) (T := TX12) (N := 20) hx hb hts hwX12 hown hK.1 hP 0 rfl rfl 0 (by decide) l7 (fun _ h9 => h9) rfl dX12_meets_30 ?_
      refine lv_iload_n hx hb dX12_meets_33 rfl (lv_at hl 1 rfl) ?_
      obtain ⟨h_6, hf⟩ := gd hf
      refine va_iald hx hb hK.1 hP 1 1 rfl rfl h_6 dX12_meets_34 ?_
      refine lv_icmp_ge (tgt := 117) hx hb dX12_meets_35 (by decide) (fun c_7 => ?_) (fun c_7 => ?_)
      · replace hf := ip c_7 hf
        refine lv_aload_n hx hb dX12_meets_117 rfl (lv_at hl 0 rfl) ?_
        refine lv_iload_n hx hb dX12_meets_118 rfl (lv_at hl 1 rfl) ?_
        refine lv_iload hx hb dX12_meets_119 (lv_at hl 5 rfl) ?_
        obtain ⟨r8, hr8, hf⟩ := bd hf
        refine zVi (As := [.int p1, .int x5]) (rest := []) (ci := 9) (q0 := 0) (wn := [(a0, .inr (9, [.ref a0_all, .ref a0_tape, .ref a0_isImage, .int v0_taped, .int v0_faultKind, .int v0_faultPlace, .int v0_undos, .ref a0_turnWord, .ref a0_turnFrom, .int v0_turns, .ref a0_pieceSign, .ref a0_pieceFrom, .int v0_pieces, .int v0_signs, .ref a0_runFrom, .ref a0_runLong, .ref a0_runPiece, .int v0_runs, .ref a0_alike, .ref a0_stood])), (a0_all, .inl (D.2 1, 5228, .inl g0_all))]) ⟨hx, hb, hml, hown, hts⟩ (mX12_goesOn l D a0 a0_all a0_tape a0_isImage a0_turnWord a0_turnFrom a0_pieceSign a0_pieceFrom a0_runFrom a0_runLong a0_runPiece a0_alike a0_stood H.size v0_taped v0_faultKind v0_faultPlace v0_undos v0_turns v0_pieces v0_signs v0_runs g0_all p1 x5 N r8 hr8) (cwV 2 hts gX12_meets_X12_goesOn rfl rfl rfl (by decide +kernel) ⟨Nat.le_of_ble_eq_true rfl, Nat.le_of_ble_eq_true rfl⟩) hK hP hD hS hA [0, 1] [] [0, 1] rfl (by decide) rfl (by decide) (by decide) rfl (by decide) rfl rfl rfl hl.1 rfl (Nat.le_of_ble_eq_true rfl) dX12_meets_121 ⟨Nat.zero_le _, Nat.zero_le _⟩ (fun H locs hP hD hS => ?_)
        refine lv_istore_n (lv' := [(3, .int r8), (0, .ref a0), (1, .int p1), (2, .int p2), (4, .int x4), (5, .int x5), (6, .int x6)]) hx hb dX12_meets_124 rfl hl (by decide) rfl (fun ls hl => ?_)
        refine lv_iinc (v := (x4 + (1 : Int32))) (lv' := [(4, .int (x4 + (1 : Int32))), (3, .int r8), (0, .ref a0), (1, .int p1), (2, .int p2), (5, .int x5), (6, .int x6)]) hx hb dX12_meets_125 hl (k := 4) rfl rfl (by decide) rfl (fun ls hl => ?_)
        refine lv_goto (tgt := 10) hx hb dX12_meets_128 (by decide) ?_
        exact hrec10 r8 (x4 + (1 : Int32)) H locs ls hf hP hD hS (lv_sub hl [2, 3, 4, 1, 0] rfl)
      · replace hf := im c_7 hf
        refine lv_aload_n hx hb dX12_meets_38 rfl (lv_at hl 0 rfl) ?_
        refine va_get (D := D.1) (ci := 9) (v := .ref a0_all) (C := RX12) (T := TX12) (N := 20) hx hb hts hwX12 hown hK.1 hP 0 rfl rfl 0 (by decide) l7 (fun _ h9 => h9) rfl dX12_meets_39 ?_
        refine lv_iload_n hx hb dX12_meets_42 rfl (lv_at hl 1 rfl) ?_
        refine lv_iconst (v := 1) hx hb dX12_meets_43 (by decide) ?_
        refine lv_iadd hx hb dX12_meets_44 ?_
        refine lv_iload hx hb dX12_meets_45 (lv_at hl 6 rfl) ?_
        refine lv_iadd hx hb dX12_meets_47 ?_
        obtain ⟨h_9, hf⟩ := gd hf
        refine va_iald hx hb hK.1 hP 1 1 rfl rfl h_9 dX12_meets_48 ?_
        refine lv_istore (lv' := [(7, .int (g0_all (((p1 + (1 : Int32)) + x6)).toNatClampNeg)), (0, .ref a0), (1, .int p1), (2, .int p2), (3, .int x3), (4, .int x4), (5, .int x5), (6, .int x6)]) hx hb dX12_meets_49 hl (by decide) rfl (fun ls hl => ?_)
        refine lv_iload_n hx hb dX12_meets_51 rfl (lv_at hl 4 rfl) ?_
        refine lv_iload hx hb dX12_meets_52 (lv_at hl 7 rfl) ?_
        refine lv_ishr hx hb dX12_meets_54 ?_
        refine lv_iconst (v := 1) hx hb dX12_meets_55 (by decide) ?_
        refine lv_iand hx hb dX12_meets_56 ?_
        refine lv_if_ne (tgt := 63) hx hb dX12_meets_57 (by decide) (fun c_10 => ?_) (fun c_10 => ?_)
        · replace hf := im c_10 hf
          refine lv_iload hx hb dX12_meets_63 (lv_at hl 6 rfl) ?_
          refine lv_iload hx hb dX12_meets_65 (lv_at hl 0 rfl) ?_
          refine lv_bipush (v := 42) hx hb dX12_meets_67 (by decide) ?_
          refine lv_icmp_ne (tgt := 79) hx hb dX12_meets_69 (by decide) (fun c_11 => ?_) (fun c_11 => ?_)
          · replace hf := im c_11 hf
            refine lv_iload hx hb dX12_meets_79 (lv_at hl 0 rfl) ?_
            refine lv_bipush (v := 63) hx hb dX12_meets_81 (by decide) ?_
            refine lv_icmp_eq (tgt := 100) hx hb dX12_meets_83 (by decide) (fun c_12 => ?_) (fun c_12 => ?_)
            · replace hf := ip c_12 hf
              exact k100 rec10 hrec10 _ ih x5 x3 x4 x6 H locs ls hf hP hD hS (lv_sub hl [1, 2, 3, 4, 5, 7] rfl)
            · replace hf := im c_12 hf
              refine lv_iload hx hb dX12_meets_86 (lv_at hl 0 rfl) ?_
              refine lv_aload_n hx hb dX12_meets_88 rfl (lv_at hl 1 rfl) ?_
              refine va_get (D := D.1) (ci := 9) (v := .ref a0_all) (C := RX12) (T := TX12) (N := 20) hx hb hts hwX12 hown hK.1 hP 0 rfl rfl 0 (by decide) l7 (fun _ h9 => h9) rfl dX12_meets_89 ?_
              refine lv_iload_n hx hb dX12_meets_92 rfl (lv_at hl 3 rfl) ?_
              refine lv_iload hx hb dX12_meets_93 (lv_at hl 5 rfl) ?_
              refine lv_iadd hx hb dX12_meets_95 ?_
              obtain ⟨h_13, hf⟩ := gd hf
              refine va_iald hx hb hK.1 hP 1 1 rfl rfl h_13 dX12_meets_96 ?_
              refine lv_icmp_ne (tgt := 107) hx hb dX12_meets_97 (by decide) (fun c_14 => ?_) (fun c_14 => ?_)
              · replace hf := im c_14 hf
                refine lv_iconst (v := 0) hx hb dX12_meets_107 (by decide) ?_
                refine lv_ior hx hb dX12_meets_108 ?_
                refine lv_istore (lv' := [(5, .int (x5 ||| (0 : Int32))), (7, .int (g0_all (((p1 + (1 : Int32)) + x6)).toNatClampNeg)), (0, .ref a0), (1, .int p1), (2, .int p2), (3, .int x3), (4, .int x4), (6, .int x6)]) hx hb dX12_meets_109 hl (by decide) rfl (fun ls hl => ?_)
                refine lv_iinc (v := (x6 + (1 : Int32))) (lv' := [(6, .int (x6 + (1 : Int32))), (5, .int (x5 ||| (0 : Int32))), (7, .int (g0_all (((p1 + (1 : Int32)) + x6)).toNatClampNeg)), (0, .ref a0), (1, .int p1), (2, .int p2), (3, .int x3), (4, .int x4)]) hx hb dX12_meets_111 hl (k := 7) rfl rfl (by decide) rfl (fun ls hl => ?_)
                refine lv_goto (tgt := 27) hx hb dX12_meets_114 (by decide) ?_
                exact ih x3 x4 (x5 ||| (0 : Int32)) (x6 + (1 : Int32)) H locs ls hf hP hD hS (lv_sub hl [3, 4, 5, 6, 7, 1, 0] rfl)
              · replace hf := ip c_14 hf
                exact k100 rec10 hrec10 _ ih x5 x3 x4 x6 H locs ls hf hP hD hS (lv_sub hl [1, 2, 3, 4, 5, 7] rfl)
          · replace hf := ip c_11 hf
            refine lv_iconst (v := 1) hx hb dX12_meets_72 (by decide) ?_
            refine lv_iload hx hb dX12_meets_73 (lv_at hl 7 rfl) ?_
            refine lv_ishl hx hb dX12_meets_75 ?_
            refine lv_goto (tgt := 108) hx hb dX12_meets_76 (by decide) ?_
            refine lv_ior hx hb dX12_meets_108 ?_
            refine lv_istore (lv' := [(5, .int (x5 ||| ((1 : Int32) <<< (x6 &&& 31)))), (7, .int (g0_all (((p1 + (1 : Int32)) + x6)).toNatClampNeg)), (0, .ref a0), (1, .int p1), (2, .int p2), (3, .int x3), (4, .int x4), (6, .int x6)]) hx hb dX12_meets_109 hl (by decide) rfl (fun ls hl => ?_)
            refine lv_iinc (v := (x6 + (1 : Int32))) (lv' := [(6, .int (x6 + (1 : Int32))), (5, .int (x5 ||| ((1 : Int32) <<< (x6 &&& 31)))), (7, .int (g0_all (((p1 + (1 : Int32)) + x6)).toNatClampNeg)), (0, .ref a0), (1, .int p1), (2, .int p2), (3, .int x3), (4, .int x4)]) hx hb dX12_meets_111 hl (k := 7) rfl rfl (by decide) rfl (fun ls hl => ?_)
            refine lv_goto (tgt := 27) hx hb dX12_meets_114 (by decide) ?_
            exact ih x3 x4 (x5 ||| ((1 : Int32) <<< (x6 &&& 31))) (x6 + (1 : Int32)) H locs ls hf hP hD hS (lv_sub hl [3, 4, 5, 6, 7, 1, 0] rfl)
        · replace hf := ip c_10 hf
          refine lv_goto (tgt := 111) hx hb dX12_meets_60 (by decide) ?_
          refine lv_iinc (v := (x6 + (1 : Int32))) (lv' := [(6, .int (x6 + (1 : Int32))), (7, .int (g0_all (((p1 + (1 : Int32)) + x6)).toNatClampNeg)), (0, .ref a0), (1, .int p1), (2, .int p2), (3, .int x3), (4, .int x4), (5, .int x5)]) hx hb dX12_meets_111 hl (k := 7) rfl rfl (by decide) rfl (fun ls hl => ?_)
          refine lv_goto (tgt := 27) hx hb dX12_meets_114 (by decide) ?_
          exact ih x3 x4 x5 (x6 + (1 : Int32)) H locs ls hf hP hD hS (lv_sub hl [2, 3, 4, 5, 6, 7, 0] rfl)
  have k10 : ∀ K : Nat, ∀ (x3 : Int32) (x4 : Int32) (H : Heap) (locs : List Loc) (ls : Array Slot), fX12_meets_10 N g0_all p1 p2 K x3 x4 = some res → va_P D.1 vwCl [(a0, .inr (9, [.ref a0_all, .ref a0_tape, .ref a0_isImage, .int v0_taped, .int v0_faultKind, .int v0_faultPlace, .int v0_undos, .ref a0_turnWord, .ref a0_turnFrom, .int v0_turns, .ref a0_pieceSign, .ref a0_pieceFrom, .int v0_pieces, .int v0_signs, .ref a0_runFrom, .ref a0_runLong, .ref a0_runPiece, .int v0_runs, .ref a0_alike, .ref a0_stood])), (a0_all, .inl (D.2 1, 5228, .inl g0_all))] H → va_D A [(a0, .inr (9, [.ref a0_all, .ref a0_tape, .ref a0_isImage, .int v0_taped, .int v0_faultKind, .int v0_faultPlace, .int v0_undos, .ref a0_turnWord, .ref a0_turnFrom, .int v0_turns, .ref a0_pieceSign, .ref a0_pieceFrom, .int v0_pieces, .int v0_signs, .ref a0_runFrom, .ref a0_runLong, .ref a0_runPiece, .int v0_runs, .ref a0_alike, .ref a0_stood])), (a0_all, .inl (D.2 1, 5228, .inl g0_all))] → va_S A s.heap H locs → lv_has ls 8 [(0, .ref a0), (1, .int p1), (2, .int p2), (3, .int x3), (4, .int x4)] → W p l e (headSpec wsX12_meets ({ frames := 1, cells := 0, slots := 0, locals := 24 } : Room)).room s m ([.ref a0, .int p1, .int p2] : List Value).toArray below meth c H locs 0 0 Q0 (F0 m 10 ls []) := by
    intro K
    induction K with
    | zero =>
      intro x3 x4 H locs ls hf
      rw [fX12_meets_10] at hf
      cases hf
    | succ K ih =>
      intro x3 x4 H locs ls hf hP hD hS hl
      rw [fX12_meets_10] at hf
      refine lv_iload hx hb dX12_meets_10 (lv_at hl 4 rfl) ?_
      refine lv_aload_n hx hb dX12_meets_12 rfl (lv_at hl 0 rfl) ?_
      refine va_get (D := D.1) (ci := 9) (v := .ref a0_all) (C := RX12) (T := TX12) (N := 20) hx hb hts hwX12 hown hK.1 hP 0 rfl rfl 0 (by decide) l7 (fun _ h9 => h9) rfl dX12_meets_13 ?_
      refine lv_iload_n hx hb dX12_meets_16 rfl (lv_at hl 2 rfl) ?_
      obtain ⟨h_2, hf⟩ := gd hf
      refine va_iald hx hb hK.1 hP 1 1 rfl rfl h_2 dX12_meets_17 ?_
      refine lv_icmp_gt (tgt := 131) hx hb dX12_meets_18 (by decide) (fun c_3 => ?_) (fun c_3 => ?_)
      · replace hf := ip c_3 hf
        refine lv_iload_n hx hb dX12_meets_131 rfl (lv_at hl 3 rfl) ?_
        refine lv_aload_n hx hb dX12_meets_132 rfl (lv_at hl 0 rfl) ?_
        refine va_get (D := D.1) (ci := 9) (v := .ref a0_all) (C := RX12) (T := TX12) (N := 20) hx hb hts hwX12 hown hK.1 hP 0 rfl rfl 0 (by decide) l7 (fun _ h9 => h9) rfl dX12_meets_133 ?_
        refine lv_iload_n hx hb dX12_meets_136 rfl (lv_at hl 1 rfl) ?_
        obtain ⟨h_4, hf⟩ := gd hf
        refine va_iald hx hb hK.1 hP 1 1 rfl rfl h_4 dX12_meets_137 ?_
        refine lv_ishr hx hb dX12_meets_138 ?_
        refine lv_iconst (v := 1) hx hb dX12_meets_139 (by decide) ?_
        refine lv_iand hx hb dX12_meets_140 ?_
        refine lv_iconst (v := 1) hx hb dX12_meets_141 (by decide) ?_
        refine lv_icmp_ne (tgt := 149) hx hb dX12_meets_142 (by decide) (fun c_5 => ?_) (fun c_5 => ?_)
        · replace hf := im c_5 hf
          refine lv_iconst (v := 0) hx hb dX12_meets_149 (by decide) ?_
          have he := Option.some.inj hf
          rw [hQ]
          exact W.zret (v := (0 : Int32)) hx hb hr (znb (Or.inl rfl)) (fun t ht hW => by rw [← he]; exact ⟨⟨(0 : Int32), (), rfl, ⟨rfl, Or.inl rfl⟩, by rw [ht]; exact hP, hD⟩, hS.F ht⟩) hS.2.2 dX12_meets_150
        · replace hf := ip c_5 hf
          refine lv_iconst (v := 1) hx hb dX12_meets_145 (by decide) ?_
          refine lv_goto (tgt := 150) hx hb dX12_meets_146 (by decide) ?_
          have he := Option.some.inj hf
          rw [hQ]
          exact W.zret (v := (1 : Int32)) hx hb hr (znb (Or.inr rfl)) (fun t ht hW => by rw [← he]; exact ⟨⟨(1 : Int32), (), rfl, ⟨rfl, Or.inr rfl⟩, by rw [ht]; exact hP, hD⟩, hS.F ht⟩) hS.2.2 dX12_meets_150
      · replace hf := im c_3 hf
        refine lv_iconst (v := 0) hx hb dX12_meets_21 (by decide) ?_
        refine lv_istore (lv' := [(5, .int (0 : Int32)), (0, .ref a0), (1, .int p1), (2, .int p2), (3, .int x3), (4, .int x4)]) hx hb dX12_meets_22 hl (by decide) rfl (fun ls hl => ?_)
        refine lv_iconst (v := 0) hx hb dX12_meets_24 (by decide) ?_
        refine lv_istore (lv' := [(6, .int (0 : Int32)), (5, .int (0 : Int32)), (0, .ref a0), (1, .int p1), (2, .int p2), (3, .int x3), (4, .int x4)]) hx hb dX12_meets_25 hl (by decide) rfl (fun ls hl => ?_)
        exact k27 _ ih N x3 x4 (0 : Int32) (0 : Int32) H locs ls hf hP hD hS (lv_sub hl [2, 3, 4, 5, 6, 1, 0] rfl)
  unfold fX12_meets at hf
  refine lv_aload_n hx hb dX12_meets_0 rfl (lv_at hl 0 rfl) ?_
  refine lv_iload_n hx hb dX12_meets_1 rfl (lv_at hl 1 rfl) ?_
  refine lv_iconst (v := 1) hx hb dX12_meets_2 (by decide) ?_
  obtain ⟨r1, hr1, hf⟩ := bd hf
  refine zVi (As := [.int p1, .int (1 : Int32)]) (rest := []) (ci := 9) (q0 := 0) (wn := [(a0, .inr (9, [.ref a0_all, .ref a0_tape, .ref a0_isImage, .int v0_taped, .int v0_faultKind, .int v0_faultPlace, .int v0_undos, .ref a0_turnWord, .ref a0_turnFrom, .int v0_turns, .ref a0_pieceSign, .ref a0_pieceFrom, .int v0_pieces, .int v0_signs, .ref a0_runFrom, .ref a0_runLong, .ref a0_runPiece, .int v0_runs, .ref a0_alike, .ref a0_stood])), (a0_all, .inl (D.2 1, 5228, .inl g0_all))]) ⟨hx, hb, hml, hown, hts⟩ (mX12_goesOn l D a0 a0_all a0_tape a0_isImage a0_turnWord a0_turnFrom a0_pieceSign a0_pieceFrom a0_runFrom a0_runLong a0_runPiece a0_alike a0_stood H.size v0_taped v0_faultKind v0_faultPlace v0_undos v0_turns v0_pieces v0_signs v0_runs g0_all p1 (1 : Int32) N r1 hr1) (cwV 2 hts gX12_meets_X12_goesOn rfl rfl rfl (by decide +kernel) ⟨Nat.le_of_ble_eq_true rfl, Nat.le_of_ble_eq_true rfl⟩) hK hP hD hS hA [0, 1] [] [0, 1] rfl (by decide) rfl (by decide) (by decide) rfl (by decide) rfl rfl rfl hl.1 rfl (Nat.le_of_ble_eq_true rfl) dX12_meets_3 ⟨Nat.zero_le _, Nat.zero_le _⟩ (fun H locs hP hD hS => ?_)
  refine lv_istore_n (lv' := [(3, .int r1), (0, .ref a0), (1, .int p1), (2, .int p2)]) hx hb dX12_meets_6 rfl hl (by decide) rfl (fun ls hl => ?_)
  refine lv_iconst (v := 1) hx hb dX12_meets_7 (by decide) ?_
  refine lv_istore (lv' := [(4, .int (1 : Int32)), (3, .int r1), (0, .ref a0), (1, .int p1), (2, .int p2)]) hx hb dX12_meets_8 hl (by decide) rfl (fun ls hl => ?_)
  exact k10 N r1 (1 : Int32) H locs ls hf hP hD hS (lv_sub hl [2, 3, 4, 1, 0] rfl)
def fX12_answers_5 (N : Nat) (g0_all : Nat → Int32) (p1 : Int32) (p2 : Int32) : Nat → Int32 → Int32 → Option (Int32)
  | 0, _, _ => none
  | K + 1, x3, x4 =>
    if p1 < 0 ∨ 5228 ≤ (p1).toNatClampNeg then none else
    if (g0_all (p1).toNatClampNeg) ≤ x4 then
      some (x3)
    else
      Option.bind (fX12_wordAt p1 x4) fun r3 =>
      Option.bind (fX12_meets N g0_all p2 r3) fun r4 =>
      if r4 = (0 : Int32) then
        (fX12_answers_5 N g0_all p1 p2 K) (x3 + (0 : Int32)) (x4 + (1 : Int32))
      else
        (fX12_answers_5 N g0_all p1 p2 K) (x3 + (1 : Int32)) (x4 + (1 : Int32))
def fX12_answers (N : Nat) (g0_all : Nat → Int32) (p1 : Int32) (p2 : Int32) : Option (Int32) :=
  fX12_answers_5 N g0_all p1 p2 N (0 : Int32) (0 : Int32)
set_option maxHeartbeats 4000000 in
set_option maxRecDepth 100000 in
theorem mX12_answers (l : Launch) (D : zG) (a0 : Nat) (a0_all : Nat) (a0_tape : Nat) (a0_isImage : Nat) (a0_turnWord : Nat) (a0_turnFrom : Nat) (a0_pieceSign : Nat) (a0_pieceFrom : Nat) (a0_runFrom : Nat) (a0_runLong : Nat) (a0_runPiece : Nat) (a0_alike : Nat) (a0_stood : Nat) (sz : Nat)  (v0_taped : Int32) (v0_faultKind : Int32) (v0_faultPlace : Int32) (v0_undos : Int32) (v0_turns : Int32) (v0_pieces : Int32) (v0_signs : Int32) (v0_runs : Int32) (g0_all : Nat → Int32) (p1 : Int32) (p2 : Int32) (N : Nat) (res : Int32) (hf : fX12_answers N g0_all p1 p2 = some res) : Met l yX12_answers wsX12_answers ({ frames := 2, cells := 0, slots := 0, locals := 51 } : Room) (va_Pc [.ref a0, .int p1, .int p2] (zW D sz [(a0, .inr (9, [.ref a0_all, .ref a0_tape, .ref a0_isImage, .int v0_taped, .int v0_faultKind, .int v0_faultPlace, .int v0_undos, .ref a0_turnWord, .ref a0_turnFrom, .int v0_turns, .ref a0_pieceSign, .ref a0_pieceFrom, .int v0_pieces, .int v0_signs, .ref a0_runFrom, .ref a0_runLong, .ref a0_runPiece, .int v0_runs, .ref a0_alike, .ref a0_stood])), (a0_all, .inl (D.2 1, 5228, .inl g0_all))])) (va_Qi (fun r (_ : Unit) => r = res) (fun _ => zB D (va_A [(a0, .inr (9, [.ref a0_all, .ref a0_tape, .ref a0_isImage, .int v0_taped, .int v0_faultKind, .int v0_faultPlace, .int v0_undos, .ref a0_turnWord, .ref a0_turnFrom, .int v0_turns, .ref a0_pieceSign, .ref a0_pieceFrom, .int v0_pieces, .int v0_signs, .ref a0_runFrom, .ref a0_runLong, .ref a0_runPiece, .int v0_runs, .ref a0_alike, .ref a0_stood])), (a0_all, .inl (D.2 1, 5228, .inl g0_all))] sz) [(a0, .inr (9, [.ref a0_all, .ref a0_tape, .ref a0_isImage, .int v0_taped, .int v0_faultKind, .int v0_faultPlace, .int v0_undos, .ref a0_turnWord, .ref a0_turnFrom, .int v0_turns, .ref a0_pieceSign, .ref a0_pieceFrom, .int v0_pieces, .int v0_signs, .ref a0_runFrom, .ref a0_runLong, .ref a0_runPiece, .int v0_runs, .ref a0_alike, .ref a0_stood])), (a0_all, .inl (D.2 1, 5228, .inl g0_all))]) (va_A [(a0, .inr (9, [.ref a0_all, .ref a0_tape, .ref a0_isImage, .int v0_taped, .int v0_faultKind, .int v0_faultPlace, .int v0_undos, .ref a0_turnWord, .ref a0_turnFrom, .int v0_turns, .ref a0_pieceSign, .ref a0_pieceFrom, .int v0_pieces, .int v0_signs, .ref a0_runFrom, .ref a0_runLong, .ref a0_runPiece, .int v0_runs, .ref a0_alike, .ref a0_stood])), (a0_all, .inl (D.2 1, 5228, .inl g0_all))] sz)) 0 0 (va_A [(a0, .inr (9, [.ref a0_all, .ref a0_tape, .ref a0_isImage, .int v0_taped, .int v0_faultKind, .int v0_faultPlace, .int v0_undos, .ref a0_turnWord, .ref a0_turnFrom, .int v0_turns, .ref a0_pieceSign, .ref a0_pieceFrom, .int v0_pieces, .int v0_signs, .ref a0_runFrom, .ref a0_runLong, .ref a0_runPiece, .int v0_runs, .ref a0_alike, .ref a0_stood])), (a0_all, .inl (D.2 1, 5228, .inl g0_all))] sz) := by
  refine Met.ofW (cc := cX12_answers) (maxL := 5) (ret := (some .int)) (by decide) rfl ?_
  intro p e s m args below meth c s₁ B hml hv
  obtain ⟨rfl, hsz, hP, hK, hD0⟩ := hv
  have hx := B.exec
  have hb := B.bytes
  have hr := B.returns
  have hts := atoms_spec (ws := wsX12_answers) B.pre
  have hown : s.vm.findClass RX12 = some m.cls := findClass_of_methodNamed B.named
  have hlocks := B.notSynchronized
  subst hsz
  have hD := hD0.self (sz := s.heap.size)
  generalize hAe : va_A [(a0, .inr (9, [.ref a0_all, .ref a0_tape, .ref a0_isImage, .int v0_taped, .int v0_faultKind, .int v0_faultPlace, .int v0_undos, .ref a0_turnWord, .ref a0_turnFrom, .int v0_turns, .ref a0_pieceSign, .ref a0_pieceFrom, .int v0_pieces, .int v0_signs, .ref a0_runFrom, .ref a0_runLong, .ref a0_runPiece, .int v0_runs, .ref a0_alike, .ref a0_stood])), (a0_all, .inl (D.2 1, 5228, .inl g0_all))] s.heap.size = A at hD ⊢
  have hA : ∀ q : Nat, s.heap.size ≤ q → A q := fun q h => by rw [← hAe]; exact Or.inr h
  have l7 := zat hts 1 (w := .fieldLink RX12 7 "TurnedWordsModel" "all" "[I") rfl
  have hwX12 : ∀ w ∈ u_ws RX12 TX12 20, w ∈ wsX12_answers := fun w h => List.mem_cons_of_mem _ (List.mem_append_right _ h)
  have hl := lv_entry ([.ref a0, .int p1, .int p2]) (n := 5) (Nat.le_of_ble_eq_true rfl)
  rw [lg_entry_eq]
  generalize (lg_sl ([.ref a0, .int p1, .int p2]) ++ List.replicate (5 - (lg_sl ([.ref a0, .int p1, .int p2])).length) Slot.unset).toArray = ls at hl ⊢
  have hl : lv_has ls 5 [(0, .ref a0), (1, .int p1), (2, .int p2)] := hl
  refine zStart (A := A) hP (fun Q0 H locs hQ hP hS => ?_)
  have k5 : ∀ K : Nat, ∀ (x3 : Int32) (x4 : Int32) (H : Heap) (locs : List Loc) (ls : Array Slot), fX12_answers_5 N g0_all p1 p2 K x3 x4 = some res → va_P D.1 vwCl [(a0, .inr (9, [.ref a0_all, .ref a0_tape, .ref a0_isImage, .int v0_taped, .int v0_faultKind, .int v0_faultPlace, .int v0_undos, .ref a0_turnWord, .ref a0_turnFrom, .int v0_turns, .ref a0_pieceSign, .ref a0_pieceFrom, .int v0_pieces, .int v0_signs, .ref a0_runFrom, .ref a0_runLong, .ref a0_runPiece, .int v0_runs, .ref a0_alike, .ref a0_stood])), (a0_all, .inl (D.2 1, 5228, .inl g0_all))] H → va_D A [(a0, .inr (9, [.ref a0_all, .ref a0_tape, .ref a0_isImage, .int v0_taped, .int v0_faultKind, .int v0_faultPlace, .int v0_undos, .ref a0_turnWord, .ref a0_turnFrom, .int v0_turns, .ref a0_pieceSign, .ref a0_pieceFrom, .int v0_pieces, .int v0_signs, .ref a0_runFrom, .ref a0_runLong, .ref a0_runPiece, .int v0_runs, .ref a0_alike, .ref a0_stood])), (a0_all, .inl (D.2 1, 5228, .inl g0_all))] → va_S A s.heap H locs → lv_has ls 5 [(0, .ref a0), (1, .int p1), (2, .int p2), (3, .int x3), (4, .int x4)] → W p l e (headSpec wsX12_answers ({ frames := 2, cells := 0, slots := 0, locals := 51 } : Room)).room s m ([.ref a0, .int p1, .int p2] : List Value).toArray below meth c H locs 0 0 Q0 (F0 m 5 ls []) := by
    intro K
    induction K with
    | zero =>
      intro x3 x4 H locs ls hf
      rw [fX12_answers_5] at hf
      cases hf
    | succ K ih =>
      intro x3 x4 H locs ls hf hP hD hS hl
      rw [fX12_answers_5] at hf
      refine lv_iload hx hb dX12_answers_5 (lv_at hl 4 rfl) ?_
      refine lv_aload_n hx hb dX12_answers_7 rfl (lv_at hl 0 rfl) ?_
      refine va_get (D := D.1) (ci := 9) (v := .ref a0_all) (C := RX12) (T := TX12) (N := 20) hx hb hts hwX12 hown hK.1 hP 0 rfl rfl 0 (by decide) l7 (fun _ h9 => h9) rfl dX12_answers_8 ?_
      refine lv_iload_n hx hb dX12_answers_11 rfl (lv_at hl 1 rfl) ?_
      obtain ⟨h_1, hf⟩ := gd hf
      refine va_iald hx hb hK.1 hP 1 1 rfl rfl h_1 dX12_answers_12 ?_
      refine lv_icmp_ge (tgt := 44) hx hb dX12_answers_13 (by decide) (fun c_2 => ?_) (fun c_2 => ?_)
      · replace hf := ip c_2 hf
        refine lv_iload_n hx hb dX12_answers_44 rfl (lv_at hl 3 rfl) ?_
        have he := Option.some.inj hf
        rw [hQ]
        exact W.iret (v := x3) hx hb hr (fun t ht hW => by rw [← he]; exact ⟨⟨x3, (), rfl, rfl, by rw [ht]; exact hP, hD⟩, hS.F ht⟩) hS.2.2 dX12_answers_45
      · replace hf := im c_2 hf
        refine lv_iload_n hx hb dX12_answers_16 rfl (lv_at hl 3 rfl) ?_
        refine lv_aload_n hx hb dX12_answers_17 rfl (lv_at hl 0 rfl) ?_
        refine lv_iload_n hx hb dX12_answers_18 rfl (lv_at hl 2 rfl) ?_
        refine lv_iload_n hx hb dX12_answers_19 rfl (lv_at hl 1 rfl) ?_
        refine lv_iload hx hb dX12_answers_20 (lv_at hl 4 rfl) ?_
        obtain ⟨r3, hr3, hf⟩ := bd hf
        refine zSi (As := [.int p1, .int x4]) (rest := [.int p2, .ref a0, .int x3]) (wn := [(a0, .inr (9, [.ref a0_all, .ref a0_tape, .ref a0_isImage, .int v0_taped, .int v0_faultKind, .int v0_faultPlace, .int v0_undos, .ref a0_turnWord, .ref a0_turnFrom, .int v0_turns, .ref a0_pieceSign, .ref a0_pieceFrom, .int v0_pieces, .int v0_signs, .ref a0_runFrom, .ref a0_runLong, .ref a0_runPiece, .int v0_runs, .ref a0_alike, .ref a0_stood])), (a0_all, .inl (D.2 1, 5228, .inl g0_all))]) ⟨hx, hb, hml, hown, hts⟩ (mX12_wordAt l D H.size p1 x4 r3 hr3) (va_cwS 2 hts gX12_answers_X12_wordAt rfl rfl rfl (by decide +kernel) ⟨Nat.le_of_ble_eq_true rfl, Nat.le_of_ble_eq_true rfl⟩) hK hP hD hS hA [] [0, 1] [0, 1] rfl (by decide) rfl (by decide) (by decide) rfl (by decide) rfl hl.1 rfl (Nat.le_of_ble_eq_true rfl) dX12_answers_22 ⟨Nat.zero_le _, Nat.zero_le _⟩ (fun H locs hP hD hS => ?_)
        obtain ⟨r4, hr4, hf⟩ := bd hf
        refine zVz (As := [.int p2, .int r3]) (rest := [.int x3]) (ci := 9) (q0 := 0) (wn := [(a0, .inr (9, [.ref a0_all, .ref a0_tape, .ref a0_isImage, .int v0_taped, .int v0_faultKind, .int v0_faultPlace, .int v0_undos, .ref a0_turnWord, .ref a0_turnFrom, .int v0_turns, .ref a0_pieceSign, .ref a0_pieceFrom, .int v0_pieces, .int v0_signs, .ref a0_runFrom, .ref a0_runLong, .ref a0_runPiece, .int v0_runs, .ref a0_alike, .ref a0_stood])), (a0_all, .inl (D.2 1, 5228, .inl g0_all))]) ⟨hx, hb, hml, hown, hts⟩ (mX12_meets l D a0 a0_all a0_tape a0_isImage a0_turnWord a0_turnFrom a0_pieceSign a0_pieceFrom a0_runFrom a0_runLong a0_runPiece a0_alike a0_stood H.size v0_taped v0_faultKind v0_faultPlace v0_undos v0_turns v0_pieces v0_signs v0_runs g0_all p2 r3 N r4 hr4) (cwV 2 hts gX12_answers_X12_meets rfl rfl rfl (by decide +kernel) ⟨Nat.le_of_ble_eq_true rfl, Nat.le_of_ble_eq_true rfl⟩) hK hP hD hS hA [0, 1] [] [0, 1] rfl (by decide) rfl (by decide) (by decide) rfl (by decide) rfl rfl rfl hl.1 rfl (Nat.le_of_ble_eq_true rfl) dX12_answers_25 ⟨Nat.zero_le _, Nat.zero_le _⟩ (fun H locs hb_5 hP hD hS => ?_)
        refine lv_if_eq (tgt := 35) hx hb dX12_answers_28 (by decide) (fun c_6 => ?_) (fun c_6 => ?_)
        · replace hf := ip c_6 hf
          refine lv_iconst (v := 0) hx hb dX12_answers_35 (by decide) ?_
          refine lv_iadd hx hb dX12_answers_36 ?_
          refine lv_istore_n (lv' := [(3, .int (x3 + (0 : Int32))), (0, .ref a0), (1, .int p1), (2, .int p2), (4, .int x4)]) hx hb dX12_answers_37 rfl hl (by decide) rfl (fun ls hl => ?_)
          refine lv_iinc (v := (x4 + (1 : Int32))) (lv' := [(4, .int (x4 + (1 : Int32))), (3, .int (x3 + (0 : Int32))), (0, .ref a0), (1, .int p1), (2, .int p2)]) hx hb dX12_answers_38 hl (k := 4) rfl rfl (by decide) rfl (fun ls hl => ?_)
          refine lv_goto (tgt := 5) hx hb dX12_answers_41 (by decide) ?_
          exact ih (x3 + (0 : Int32)) (x4 + (1 : Int32)) H locs ls hf hP hD hS (lv_sub hl [2, 3, 4, 1, 0] rfl)
        · replace hf := im c_6 hf
          refine lv_iconst (v := 1) hx hb dX12_answers_31 (by decide) ?_
          refine lv_goto (tgt := 36) hx hb dX12_answers_32 (by decide) ?_
          refine lv_iadd hx hb dX12_answers_36 ?_
          refine lv_istore_n (lv' := [(3, .int (x3 + (1 : Int32))), (0, .ref a0), (1, .int p1), (2, .int p2), (4, .int x4)]) hx hb dX12_answers_37 rfl hl (by decide) rfl (fun ls hl => ?_)
          refine lv_iinc (v := (x4 + (1 : Int32))) (lv' := [(4, .int (x4 + (1 : Int32))), (3, .int (x3 + (1 : Int32))), (0, .ref a0), (1, .int p1), (2, .int p2)]) hx hb dX12_answers_38 hl (k := 4) rfl rfl (by decide) rfl (fun ls hl => ?_)
          refine lv_goto (tgt := 5) hx hb dX12_answers_41 (by decide) ?_
          exact ih (x3 + (1 : Int32)) (x4 + (1 : Int32)) H locs ls hf hP hD hS (lv_sub hl [2, 3, 4, 1, 0] rfl)
  unfold fX12_answers at hf
  refine lv_iconst (v := 0) hx hb dX12_answers_0 (by decide) ?_
  refine lv_istore_n (lv' := [(3, .int (0 : Int32)), (0, .ref a0), (1, .int p1), (2, .int p2)]) hx hb dX12_answers_1 rfl hl (by decide) rfl (fun ls hl => ?_)
  refine lv_iconst (v := 0) hx hb dX12_answers_2 (by decide) ?_
  refine lv_istore (lv' := [(4, .int (0 : Int32)), (3, .int (0 : Int32)), (0, .ref a0), (1, .int p1), (2, .int p2)]) hx hb dX12_answers_3 hl (by decide) rfl (fun ls hl => ?_)
  exact k5 N (0 : Int32) (0 : Int32) H locs ls hf hP hD hS (lv_sub hl [2, 3, 4, 1, 0] rfl)
def fX12_adds_2 (N : Nat) (g0_all : Nat → Int32) (p1 : Int32) (p2 : Int32) : Nat → Int32 → Int32 → (Nat → Int32) → Option (Int32 × (Nat → Int32))
  | 0, _, _, _ => none
  | K + 1, x3, v0_signs, g0_pieceSign =>
    if p2 ≤ x3 then
      some (v0_signs, g0_pieceSign)
    else
      if ((431 : Int32) + x3) < 0 ∨ 5228 ≤ (((431 : Int32) + x3)).toNatClampNeg then none else
      if v0_signs < 0 ∨ 40 ≤ (v0_signs).toNatClampNeg then none else
      (fX12_adds_2 N g0_all p1 p2 K) (x3 + (1 : Int32)) (v0_signs + (1 : Int32)) (upd g0_pieceSign (v0_signs).toNatClampNeg (g0_all (((431 : Int32) + x3)).toNatClampNeg))
def fX12_adds (N : Nat) (v0_signs : Int32) (g0_all : Nat → Int32) (g0_pieceSign : Nat → Int32) (p1 : Int32) (p2 : Int32) : Option (Int32 × (Nat → Int32)) :=
  fX12_adds_2 N g0_all p1 p2 N p1 v0_signs g0_pieceSign
set_option maxHeartbeats 4000000 in
set_option maxRecDepth 100000 in
theorem mX12_adds (l : Launch) (D : zG) (a0 : Nat) (a0_all : Nat) (a0_tape : Nat) (a0_isImage : Nat) (a0_turnWord : Nat) (a0_turnFrom : Nat) (a0_pieceSign : Nat) (a0_pieceFrom : Nat) (a0_runFrom : Nat) (a0_runLong : Nat) (a0_runPiece : Nat) (a0_alike : Nat) (a0_stood : Nat) (sz : Nat)  (v0_taped : Int32) (v0_faultKind : Int32) (v0_faultPlace : Int32) (v0_undos : Int32) (v0_turns : Int32) (v0_pieces : Int32) (v0_signs : Int32) (v0_runs : Int32) (g0_all : Nat → Int32) (g0_pieceSign : Nat → Int32) (p1 : Int32) (p2 : Int32) (N : Nat) (res : Int32 × (Nat → Int32)) (hf : fX12_adds N v0_signs g0_all g0_pieceSign p1 p2 = some res) : Met l yX12_adds wsX12_adds ({ frames := 0, cells := 0, slots := 0, locals := 0 } : Room) (va_Pc [.ref a0, .int p1, .int p2] (zW D sz [(a0, .inr (9, [.ref a0_all, .ref a0_tape, .ref a0_isImage, .int v0_taped, .int v0_faultKind, .int v0_faultPlace, .int v0_undos, .ref a0_turnWord, .ref a0_turnFrom, .int v0_turns, .ref a0_pieceSign, .ref a0_pieceFrom, .int v0_pieces, .int v0_signs, .ref a0_runFrom, .ref a0_runLong, .ref a0_runPiece, .int v0_runs, .ref a0_alike, .ref a0_stood])), (a0_all, .inl (D.2 1, 5228, .inl g0_all)), (a0_pieceSign, .inl (D.2 1, 40, .inl g0_pieceSign))])) (va_Qv (fun (_ : Unit) => True) (fun _ => zB D (va_A [(a0, .inr (9, [.ref a0_all, .ref a0_tape, .ref a0_isImage, .int v0_taped, .int v0_faultKind, .int v0_faultPlace, .int v0_undos, .ref a0_turnWord, .ref a0_turnFrom, .int v0_turns, .ref a0_pieceSign, .ref a0_pieceFrom, .int v0_pieces, .int v0_signs, .ref a0_runFrom, .ref a0_runLong, .ref a0_runPiece, .int v0_runs, .ref a0_alike, .ref a0_stood])), (a0_all, .inl (D.2 1, 5228, .inl g0_all)), (a0_pieceSign, .inl (D.2 1, 40, .inl g0_pieceSign))] sz) [(a0, .inr (9, [.ref a0_all, .ref a0_tape, .ref a0_isImage, .int v0_taped, .int v0_faultKind, .int v0_faultPlace, .int v0_undos, .ref a0_turnWord, .ref a0_turnFrom, .int v0_turns, .ref a0_pieceSign, .ref a0_pieceFrom, .int v0_pieces, .int res.1, .ref a0_runFrom, .ref a0_runLong, .ref a0_runPiece, .int v0_runs, .ref a0_alike, .ref a0_stood])), (a0_all, .inl (D.2 1, 5228, .inl g0_all)), (a0_pieceSign, .inl (D.2 1, 40, .inl res.2))]) (va_A [(a0, .inr (9, [.ref a0_all, .ref a0_tape, .ref a0_isImage, .int v0_taped, .int v0_faultKind, .int v0_faultPlace, .int v0_undos, .ref a0_turnWord, .ref a0_turnFrom, .int v0_turns, .ref a0_pieceSign, .ref a0_pieceFrom, .int v0_pieces, .int v0_signs, .ref a0_runFrom, .ref a0_runLong, .ref a0_runPiece, .int v0_runs, .ref a0_alike, .ref a0_stood])), (a0_all, .inl (D.2 1, 5228, .inl g0_all)), (a0_pieceSign, .inl (D.2 1, 40, .inl g0_pieceSign))] sz)) 0 0 (va_A [(a0, .inr (9, [.ref a0_all, .ref a0_tape, .ref a0_isImage, .int v0_taped, .int v0_faultKind, .int v0_faultPlace, .int v0_undos, .ref a0_turnWord, .ref a0_turnFrom, .int v0_turns, .ref a0_pieceSign, .ref a0_pieceFrom, .int v0_pieces, .int v0_signs, .ref a0_runFrom, .ref a0_runLong, .ref a0_runPiece, .int v0_runs, .ref a0_alike, .ref a0_stood])), (a0_all, .inl (D.2 1, 5228, .inl g0_all)), (a0_pieceSign, .inl (D.2 1, 40, .inl g0_pieceSign))] sz) := by
  refine Met.ofW (cc := cX12_adds) (maxL := 4) (ret := none) (by decide) rfl ?_
  intro p e s m args below meth c s₁ B hml hv
  obtain ⟨rfl, hsz, hP, hK, hD0⟩ := hv
  have hx := B.exec
  have hb := B.bytes
  have hr := B.returns
  have hts := atoms_spec (ws := wsX12_adds) B.pre
  have hown : s.vm.findClass RX12 = some m.cls := findClass_of_methodNamed B.named
  have hlocks := B.notSynchronized
  subst hsz
  have hD := hD0.self (sz := s.heap.size)
  generalize hAe : va_A [(a0, .inr (9, [.ref a0_all, .ref a0_tape, .ref a0_isImage, .int v0_taped, .int v0_faultKind, .int v0_faultPlace, .int v0_undos, .ref a0_turnWord, .ref a0_turnFrom, .int v0_turns, .ref a0_pieceSign, .ref a0_pieceFrom, .int v0_pieces, .int v0_signs, .ref a0_runFrom, .ref a0_runLong, .ref a0_runPiece, .int v0_runs, .ref a0_alike, .ref a0_stood])), (a0_all, .inl (D.2 1, 5228, .inl g0_all)), (a0_pieceSign, .inl (D.2 1, 40, .inl g0_pieceSign))] s.heap.size = A at hD ⊢
  have hA : ∀ q : Nat, s.heap.size ≤ q → A q := fun q h => by rw [← hAe]; exact Or.inr h
  have l30 := zat hts 1 (w := .fieldLink RX12 30 "TurnedWordsModel" "pieceSign" "[I") rfl
  have l104 := zat hts 2 (w := .fieldLink RX12 104 "TurnedWordsModel" "signs" "I") rfl
  have l7 := zat hts 3 (w := .fieldLink RX12 7 "TurnedWordsModel" "all" "[I") rfl
  have hwX12 : ∀ w ∈ u_ws RX12 TX12 20, w ∈ wsX12_adds := fun w h => List.mem_cons_of_mem _ (List.mem_append_right _ h)
  have hl := lv_entry ([.ref a0, .int p1, .int p2]) (n := 4) (Nat.le_of_ble_eq_true rfl)
  rw [lg_entry_eq]
  generalize (lg_sl ([.ref a0, .int p1, .int p2]) ++ List.replicate (4 - (lg_sl ([.ref a0, .int p1, .int p2])).length) Slot.unset).toArray = ls at hl ⊢
  have hl : lv_has ls 4 [(0, .ref a0), (1, .int p1), (2, .int p2)] := hl
  refine zStart (A := A) hP (fun Q0 H locs hQ hP hS => ?_)
  have k2 : ∀ K : Nat, ∀ (x3 : Int32) (v0_signs : Int32) (g0_pieceSign : Nat → Int32) (H : Heap) (locs : List Loc) (ls : Array Slot), fX12_adds_2 N g0_all p1 p2 K x3 v0_signs g0_pieceSign = some res → va_P D.1 vwCl [(a0, .inr (9, [.ref a0_all, .ref a0_tape, .ref a0_isImage, .int v0_taped, .int v0_faultKind, .int v0_faultPlace, .int v0_undos, .ref a0_turnWord, .ref a0_turnFrom, .int v0_turns, .ref a0_pieceSign, .ref a0_pieceFrom, .int v0_pieces, .int v0_signs, .ref a0_runFrom, .ref a0_runLong, .ref a0_runPiece, .int v0_runs, .ref a0_alike, .ref a0_stood])), (a0_all, .inl (D.2 1, 5228, .inl g0_all)), (a0_pieceSign, .inl (D.2 1, 40, .inl g0_pieceSign))] H → va_D A [(a0, .inr (9, [.ref a0_all, .ref a0_tape, .ref a0_isImage, .int v0_taped, .int v0_faultKind, .int v0_faultPlace, .int v0_undos, .ref a0_turnWord, .ref a0_turnFrom, .int v0_turns, .ref a0_pieceSign, .ref a0_pieceFrom, .int v0_pieces, .int v0_signs, .ref a0_runFrom, .ref a0_runLong, .ref a0_runPiece, .int v0_runs, .ref a0_alike, .ref a0_stood])), (a0_all, .inl (D.2 1, 5228, .inl g0_all)), (a0_pieceSign, .inl (D.2 1, 40, .inl g0_pieceSign))] → va_S A s.heap H locs → lv_has ls 4 [(0, .ref a0), (2, .int p2), (3, .int x3)] → W p l e (headSpec wsX12_adds ({ frames := 0, cells := 0, slots := 0, locals := 0 } : Room)).room s m ([.ref a0, .int p1, .int p2] : List Value).toArray below meth c H locs 0 0 Q0 (F0 m 2 ls []) := by
    intro K
    induction K with
    | zero =>
      intro x3 v0_signs g0_pieceSign H locs ls hf
      rw [fX12_adds_2] at hf
      cases hf
    | succ K ih =>
      intro x3 v0_signs g0_pieceSign H locs ls hf hP hD hS hl
      rw [fX12_adds_2] at hf
      refine lv_iload_n hx hb dX12_adds_2 rfl (lv_at hl 2 rfl) ?_
      refine lv_iload_n hx hb dX12_adds_3 rfl (lv_at hl 1 rfl) ?_
      refine lv_icmp_ge (tgt := 42) hx hb dX12_adds_4 (by decide) (fun c_1 => ?_) (fun c_1 => ?_)
      · replace hf := ip c_1 hf
        have he := Option.some.inj hf
        rw [hQ]
        exact W.vret hx hb hr (fun t ht hW => by rw [← he]; exact ⟨⟨(), rfl, trivial, by rw [ht]; exact hP, hD⟩, hS.F ht⟩) hS.2.2 dX12_adds_42
      · replace hf := im c_1 hf
        refine lv_aload_n hx hb dX12_adds_7 rfl (lv_at hl 0 rfl) ?_
        refine va_get (D := D.1) (ci := 9) (v := .ref a0_pieceSign) (C := RX12) (T := TX12) (N := 20) hx hb hts hwX12 hown hK.1 hP 0 rfl rfl 10 (by decide) l30 (fun _ h9 => h9) rfl dX12_adds_8 ?_
        refine lv_aload_n hx hb dX12_adds_11 rfl (lv_at hl 0 rfl) ?_
        refine va_get (D := D.1) (ci := 9) (v := .int v0_signs) (C := RX12) (T := TX12) (N := 20) hx hb hts hwX12 hown hK.1 hP 0 rfl rfl 13 (by decide) l104 (fun _ h9 => h9) rfl dX12_adds_12 ?_
        refine lv_aload_n hx hb dX12_adds_15 rfl (lv_at hl 0 rfl) ?_
        refine va_get (D := D.1) (ci := 9) (v := .ref a0_all) (C := RX12) (T := TX12) (N := 20) hx hb hts hwX12 hown hK.1 hP 0 rfl rfl 0 (by decide) l7 (fun _ h9 => h9) rfl dX12_adds_16 ?_
        refine lv_sipush (v := 431) hx hb dX12_adds_19 (by decide) ?_
        refine lv_iload_n hx hb dX12_adds_22 rfl (lv_at hl 2 rfl) ?_
        refine lv_iadd hx hb dX12_adds_23 ?_
        obtain ⟨h_2, hf⟩ := gd hf
        refine va_iald hx hb hK.1 hP 1 1 rfl rfl h_2 dX12_adds_24 ?_
        obtain ⟨h_3, hf⟩ := gd hf
        refine va_iast hx hb hK.1 hP hD hS 2 1 rfl rfl h_3 dX12_adds_25 (fun H locs hP hD hS => ?_)
        have hP : va_P D.1 vwCl [(a0, .inr (9, [.ref a0_all, .ref a0_tape, .ref a0_isImage, .int v0_taped, .int v0_faultKind, .int v0_faultPlace, .int v0_undos, .ref a0_turnWord, .ref a0_turnFrom, .int v0_turns, .ref a0_pieceSign, .ref a0_pieceFrom, .int v0_pieces, .int v0_signs, .ref a0_runFrom, .ref a0_runLong, .ref a0_runPiece, .int v0_runs, .ref a0_alike, .ref a0_stood])), (a0_all, .inl (D.2 1, 5228, .inl g0_all)), (a0_pieceSign, .inl (D.2 1, 40, .inl (upd g0_pieceSign (v0_signs).toNatClampNeg (g0_all (((431 : Int32) + x3)).toNatClampNeg))))] H := hP
        have hD : va_D A [(a0, .inr (9, [.ref a0_all, .ref a0_tape, .ref a0_isImage, .int v0_taped, .int v0_faultKind, .int v0_faultPlace, .int v0_undos, .ref a0_turnWord, .ref a0_turnFrom, .int v0_turns, .ref a0_pieceSign, .ref a0_pieceFrom, .int v0_pieces, .int v0_signs, .ref a0_runFrom, .ref a0_runLong, .ref a0_runPiece, .int v0_runs, .ref a0_alike, .ref a0_stood])), (a0_all, .inl (D.2 1, 5228, .inl g0_all)), (a0_pieceSign, .inl (D.2 1, 40, .inl (upd g0_pieceSign (v0_signs).toNatClampNeg (g0_all (((431 : Int32) + x3)).toNatClampNeg))))] := hD
        refine lv_aload_n hx hb dX12_adds_26 rfl (lv_at hl 0 rfl) ?_
        refine lv_dup hx hb dX12_adds_27 rfl ?_
        refine va_get (D := D.1) (ci := 9) (v := .int v0_signs) (C := RX12) (T := TX12) (N := 20) hx hb hts hwX12 hown hK.1 hP 0 rfl rfl 13 (by decide) l104 (fun _ h9 => h9) rfl dX12_adds_28 ?_
        refine lv_iconst (v := 1) hx hb dX12_adds_31 (by decide) ?_
        refine lv_iadd hx hb dX12_adds_32 ?_
        refine va_put (D := D.1) (ci := 9) (v := .int (v0_signs + (1 : Int32))) (ty := .int) (C := RX12) (T := TX12) (N := 20) hx hb hts hwX12 tyX12 tyX12_ok nmX12 hown hK.1 hP hD hS 0 rfl rfl 13 (by decide) l104 (fun _ h9 => h9) rfl (by decide +kernel) rfl rfl (Nat.le_of_ble_eq_true rfl) dX12_adds_33 (fun H locs hP hD hS => ?_)
        have hP : va_P D.1 vwCl [(a0, .inr (9, [.ref a0_all, .ref a0_tape, .ref a0_isImage, .int v0_taped, .int v0_faultKind, .int v0_faultPlace, .int v0_undos, .ref a0_turnWord, .ref a0_turnFrom, .int v0_turns, .ref a0_pieceSign, .ref a0_pieceFrom, .int v0_pieces, .int (v0_signs + (1 : Int32)), .ref a0_runFrom, .ref a0_runLong, .ref a0_runPiece, .int v0_runs, .ref a0_alike, .ref a0_stood])), (a0_all, .inl (D.2 1, 5228, .inl g0_all)), (a0_pieceSign, .inl (D.2 1, 40, .inl (upd g0_pieceSign (v0_signs).toNatClampNeg (g0_all (((431 : Int32) + x3)).toNatClampNeg))))] H := hP
        have hD : va_D A [(a0, .inr (9, [.ref a0_all, .ref a0_tape, .ref a0_isImage, .int v0_taped, .int v0_faultKind, .int v0_faultPlace, .int v0_undos, .ref a0_turnWord, .ref a0_turnFrom, .int v0_turns, .ref a0_pieceSign, .ref a0_pieceFrom, .int v0_pieces, .int (v0_signs + (1 : Int32)), .ref a0_runFrom, .ref a0_runLong, .ref a0_runPiece, .int v0_runs, .ref a0_alike, .ref a0_stood])), (a0_all, .inl (D.2 1, 5228, .inl g0_all)), (a0_pieceSign, .inl (D.2 1, 40, .inl (upd g0_pieceSign (v0_signs).toNatClampNeg (g0_all (((431 : Int32) + x3)).toNatClampNeg))))] := hD
        refine lv_iinc (v := (x3 + (1 : Int32))) (lv' := [(3, .int (x3 + (1 : Int32))), (0, .ref a0), (2, .int p2)]) hx hb dX12_adds_36 hl (k := 2) rfl rfl (by decide) rfl (fun ls hl => ?_)
        refine lv_goto (tgt := 2) hx hb dX12_adds_39 (by decide) ?_
        exact ih (x3 + (1 : Int32)) (v0_signs + (1 : Int32)) (upd g0_pieceSign (v0_signs).toNatClampNeg (g0_all (((431 : Int32) + x3)).toNatClampNeg)) H locs ls hf hP hD hS (lv_sub hl [1, 2, 0] rfl)
  unfold fX12_adds at hf
  refine lv_iload_n hx hb dX12_adds_0 rfl (lv_at hl 1 rfl) ?_
  refine lv_istore_n (lv' := [(3, .int p1), (0, .ref a0), (1, .int p1), (2, .int p2)]) hx hb dX12_adds_1 rfl hl (by decide) rfl (fun ls hl => ?_)
  exact k2 N p1 v0_signs g0_pieceSign H locs ls hf hP hD hS (lv_sub hl [1, 3, 0] rfl)
def fX12_endsPiece (v0_pieces : Int32) (v0_signs : Int32) (g0_pieceFrom : Nat → Int32) : Option (Int32 × (Nat → Int32)) :=
  if (v0_pieces + (1 : Int32)) < 0 ∨ 14 ≤ ((v0_pieces + (1 : Int32))).toNatClampNeg then none else
  some ((v0_pieces + (1 : Int32)), (upd g0_pieceFrom ((v0_pieces + (1 : Int32))).toNatClampNeg v0_signs))
set_option maxHeartbeats 4000000 in
set_option maxRecDepth 100000 in
theorem mX12_endsPiece (l : Launch) (D : zG) (a0 : Nat) (a0_all : Nat) (a0_tape : Nat) (a0_isImage : Nat) (a0_turnWord : Nat) (a0_turnFrom : Nat) (a0_pieceSign : Nat) (a0_pieceFrom : Nat) (a0_runFrom : Nat) (a0_runLong : Nat) (a0_runPiece : Nat) (a0_alike : Nat) (a0_stood : Nat) (sz : Nat)  (v0_taped : Int32) (v0_faultKind : Int32) (v0_faultPlace : Int32) (v0_undos : Int32) (v0_turns : Int32) (v0_pieces : Int32) (v0_signs : Int32) (v0_runs : Int32) (g0_pieceFrom : Nat → Int32)  (res : Int32 × (Nat → Int32)) (hf : fX12_endsPiece v0_pieces v0_signs g0_pieceFrom = some res) : Met l yX12_endsPiece wsX12_endsPiece ({ frames := 0, cells := 0, slots := 0, locals := 0 } : Room) (va_Pc [.ref a0] (zW D sz [(a0, .inr (9, [.ref a0_all, .ref a0_tape, .ref a0_isImage, .int v0_taped, .int v0_faultKind, .int v0_faultPlace, .int v0_undos, .ref a0_turnWord, .ref a0_turnFrom, .int v0_turns, .ref a0_pieceSign, .ref a0_pieceFrom, .int v0_pieces, .int v0_signs, .ref a0_runFrom, .ref a0_runLong, .ref a0_runPiece, .int v0_runs, .ref a0_alike, .ref a0_stood])), (a0_pieceFrom, .inl (D.2 1, 14, .inl g0_pieceFrom))])) (va_Qv (fun (_ : Unit) => True) (fun _ => zB D (va_A [(a0, .inr (9, [.ref a0_all, .ref a0_tape, .ref a0_isImage, .int v0_taped, .int v0_faultKind, .int v0_faultPlace, .int v0_undos, .ref a0_turnWord, .ref a0_turnFrom, .int v0_turns, .ref a0_pieceSign, .ref a0_pieceFrom, .int v0_pieces, .int v0_signs, .ref a0_runFrom, .ref a0_runLong, .ref a0_runPiece, .int v0_runs, .ref a0_alike, .ref a0_stood])), (a0_pieceFrom, .inl (D.2 1, 14, .inl g0_pieceFrom))] sz) [(a0, .inr (9, [.ref a0_all, .ref a0_tape, .ref a0_isImage, .int v0_taped, .int v0_faultKind, .int v0_faultPlace, .int v0_undos, .ref a0_turnWord, .ref a0_turnFrom, .int v0_turns, .ref a0_pieceSign, .ref a0_pieceFrom, .int res.1, .int v0_signs, .ref a0_runFrom, .ref a0_runLong, .ref a0_runPiece, .int v0_runs, .ref a0_alike, .ref a0_stood])), (a0_pieceFrom, .inl (D.2 1, 14, .inl res.2))]) (va_A [(a0, .inr (9, [.ref a0_all, .ref a0_tape, .ref a0_isImage, .int v0_taped, .int v0_faultKind, .int v0_faultPlace, .int v0_undos, .ref a0_turnWord, .ref a0_turnFrom, .int v0_turns, .ref a0_pieceSign, .ref a0_pieceFrom, .int v0_pieces, .int v0_signs, .ref a0_runFrom, .ref a0_runLong, .ref a0_runPiece, .int v0_runs, .ref a0_alike, .ref a0_stood])), (a0_pieceFrom, .inl (D.2 1, 14, .inl g0_pieceFrom))] sz)) 0 0 (va_A [(a0, .inr (9, [.ref a0_all, .ref a0_tape, .ref a0_isImage, .int v0_taped, .int v0_faultKind, .int v0_faultPlace, .int v0_undos, .ref a0_turnWord, .ref a0_turnFrom, .int v0_turns, .ref a0_pieceSign, .ref a0_pieceFrom, .int v0_pieces, .int v0_signs, .ref a0_runFrom, .ref a0_runLong, .ref a0_runPiece, .int v0_runs, .ref a0_alike, .ref a0_stood])), (a0_pieceFrom, .inl (D.2 1, 14, .inl g0_pieceFrom))] sz) := by
  refine Met.ofW (cc := cX12_endsPiece) (maxL := 1) (ret := none) (by decide) rfl ?_
  intro p e s m args below meth c s₁ B hml hv
  obtain ⟨rfl, hsz, hP, hK, hD0⟩ := hv
  have hx := B.exec
  have hb := B.bytes
  have hr := B.returns
  have hts := atoms_spec (ws := wsX12_endsPiece) B.pre
  have hown : s.vm.findClass RX12 = some m.cls := findClass_of_methodNamed B.named
  have hlocks := B.notSynchronized
  subst hsz
  have hD := hD0.self (sz := s.heap.size)
  generalize hAe : va_A [(a0, .inr (9, [.ref a0_all, .ref a0_tape, .ref a0_isImage, .int v0_taped, .int v0_faultKind, .int v0_faultPlace, .int v0_undos, .ref a0_turnWord, .ref a0_turnFrom, .int v0_turns, .ref a0_pieceSign, .ref a0_pieceFrom, .int v0_pieces, .int v0_signs, .ref a0_runFrom, .ref a0_runLong, .ref a0_runPiece, .int v0_runs, .ref a0_alike, .ref a0_stood])), (a0_pieceFrom, .inl (D.2 1, 14, .inl g0_pieceFrom))] s.heap.size = A at hD ⊢
  have hA : ∀ q : Nat, s.heap.size ≤ q → A q := fun q h => by rw [← hAe]; exact Or.inr h
  have l107 := zat hts 1 (w := .fieldLink RX12 107 "TurnedWordsModel" "pieces" "I") rfl
  have l33 := zat hts 2 (w := .fieldLink RX12 33 "TurnedWordsModel" "pieceFrom" "[I") rfl
  have l104 := zat hts 3 (w := .fieldLink RX12 104 "TurnedWordsModel" "signs" "I") rfl
  have hwX12 : ∀ w ∈ u_ws RX12 TX12 20, w ∈ wsX12_endsPiece := fun w h => List.mem_cons_of_mem _ (List.mem_append_right _ h)
  have hl := lv_entry ([.ref a0]) (n := 1) (Nat.le_of_ble_eq_true rfl)
  rw [lg_entry_eq]
  generalize (lg_sl ([.ref a0]) ++ List.replicate (1 - (lg_sl ([.ref a0])).length) Slot.unset).toArray = ls at hl ⊢
  have hl : lv_has ls 1 [(0, .ref a0)] := hl
  refine zStart (A := A) hP (fun Q0 H locs hQ hP hS => ?_)
  unfold fX12_endsPiece at hf
  refine lv_aload_n hx hb dX12_endsPiece_0 rfl (lv_at hl 0 rfl) ?_
  refine lv_dup hx hb dX12_endsPiece_1 rfl ?_
  refine va_get (D := D.1) (ci := 9) (v := .int v0_pieces) (C := RX12) (T := TX12) (N := 20) hx hb hts hwX12 hown hK.1 hP 0 rfl rfl 12 (by decide) l107 (fun _ h9 => h9) rfl dX12_endsPiece_2 ?_
  refine lv_iconst (v := 1) hx hb dX12_endsPiece_5 (by decide) ?_
  refine lv_iadd hx hb dX12_endsPiece_6 ?_
  refine va_put (D := D.1) (ci := 9) (v := .int (v0_pieces + (1 : Int32))) (ty := .int) (C := RX12) (T := TX12) (N := 20) hx hb hts hwX12 tyX12 tyX12_ok nmX12 hown hK.1 hP hD hS 0 rfl rfl 12 (by decide) l107 (fun _ h9 => h9) rfl (by decide +kernel) rfl rfl (Nat.le_of_ble_eq_true rfl) dX12_endsPiece_7 (fun H locs hP hD hS => ?_)
  have hP : va_P D.1 vwCl [(a0, .inr (9, [.ref a0_all, .ref a0_tape, .ref a0_isImage, .int v0_taped, .int v0_faultKind, .int v0_faultPlace, .int v0_undos, .ref a0_turnWord, .ref a0_turnFrom, .int v0_turns, .ref a0_pieceSign, .ref a0_pieceFrom, .int (v0_pieces + (1 : Int32)), .int v0_signs, .ref a0_runFrom, .ref a0_runLong, .ref a0_runPiece, .int v0_runs, .ref a0_alike, .ref a0_stood])), (a0_pieceFrom, .inl (D.2 1, 14, .inl g0_pieceFrom))] H := hP
  have hD : va_D A [(a0, .inr (9, [.ref a0_all, .ref a0_tape, .ref a0_isImage, .int v0_taped, .int v0_faultKind, .int v0_faultPlace, .int v0_undos, .ref a0_turnWord, .ref a0_turnFrom, .int v0_turns, .ref a0_pieceSign, .ref a0_pieceFrom, .int (v0_pieces + (1 : Int32)), .int v0_signs, .ref a0_runFrom, .ref a0_runLong, .ref a0_runPiece, .int v0_runs, .ref a0_alike, .ref a0_stood])), (a0_pieceFrom, .inl (D.2 1, 14, .inl g0_pieceFrom))] := hD
  refine lv_aload_n hx hb dX12_endsPiece_10 rfl (lv_at hl 0 rfl) ?_
  refine va_get (D := D.1) (ci := 9) (v := .ref a0_pieceFrom) (C := RX12) (T := TX12) (N := 20) hx hb hts hwX12 hown hK.1 hP 0 rfl rfl 11 (by decide) l33 (fun _ h9 => h9) rfl dX12_endsPiece_11 ?_
  refine lv_aload_n hx hb dX12_endsPiece_14 rfl (lv_at hl 0 rfl) ?_
  refine va_get (D := D.1) (ci := 9) (v := .int (v0_pieces + (1 : Int32))) (C := RX12) (T := TX12) (N := 20) hx hb hts hwX12 hown hK.1 hP 0 rfl rfl 12 (by decide) l107 (fun _ h9 => h9) rfl dX12_endsPiece_15 ?_
  refine lv_aload_n hx hb dX12_endsPiece_18 rfl (lv_at hl 0 rfl) ?_
  refine va_get (D := D.1) (ci := 9) (v := .int v0_signs) (C := RX12) (T := TX12) (N := 20) hx hb hts hwX12 hown hK.1 hP 0 rfl rfl 13 (by decide) l104 (fun _ h9 => h9) rfl dX12_endsPiece_19 ?_
  obtain ⟨h_1, hf⟩ := gd hf
  refine va_iast hx hb hK.1 hP hD hS 1 1 rfl rfl h_1 dX12_endsPiece_22 (fun H locs hP hD hS => ?_)
  have hP : va_P D.1 vwCl [(a0, .inr (9, [.ref a0_all, .ref a0_tape, .ref a0_isImage, .int v0_taped, .int v0_faultKind, .int v0_faultPlace, .int v0_undos, .ref a0_turnWord, .ref a0_turnFrom, .int v0_turns, .ref a0_pieceSign, .ref a0_pieceFrom, .int (v0_pieces + (1 : Int32)), .int v0_signs, .ref a0_runFrom, .ref a0_runLong, .ref a0_runPiece, .int v0_runs, .ref a0_alike, .ref a0_stood])), (a0_pieceFrom, .inl (D.2 1, 14, .inl (upd g0_pieceFrom ((v0_pieces + (1 : Int32))).toNatClampNeg v0_signs)))] H := hP
  have hD : va_D A [(a0, .inr (9, [.ref a0_all, .ref a0_tape, .ref a0_isImage, .int v0_taped, .int v0_faultKind, .int v0_faultPlace, .int v0_undos, .ref a0_turnWord, .ref a0_turnFrom, .int v0_turns, .ref a0_pieceSign, .ref a0_pieceFrom, .int (v0_pieces + (1 : Int32)), .int v0_signs, .ref a0_runFrom, .ref a0_runLong, .ref a0_runPiece, .int v0_runs, .ref a0_alike, .ref a0_stood])), (a0_pieceFrom, .inl (D.2 1, 14, .inl (upd g0_pieceFrom ((v0_pieces + (1 : Int32))).toNatClampNeg v0_signs)))] := hD
  have he := Option.some.inj hf
  rw [hQ]
  exact W.vret hx hb hr (fun t ht hW => by rw [← he]; exact ⟨⟨(), rfl, trivial, by rw [ht]; exact hP, hD⟩, hS.F ht⟩) hS.2.2 dX12_endsPiece_23
def fX12_starBehind_2 (N : Nat) (g0_all : Nat → Int32) (p1 : Int32) : Nat → Int32 → Option (Int32)
  | 0, _ => none
  | K + 1, x2 =>
    if (430 : Int32) < 0 ∨ 5228 ≤ ((430 : Int32)).toNatClampNeg then none else
    if (g0_all ((430 : Int32)).toNatClampNeg) ≤ x2 then
      some (x2)
    else
      if ((431 : Int32) + x2) < 0 ∨ 5228 ≤ (((431 : Int32) + x2)).toNatClampNeg then none else
      if (g0_all (((431 : Int32) + x2)).toNatClampNeg) = (42 : Int32) then
        some (x2)
      else
        (fX12_starBehind_2 N g0_all p1 K) (x2 + (1 : Int32))
def fX12_starBehind (N : Nat) (g0_all : Nat → Int32) (p1 : Int32) : Option (Int32) :=
  fX12_starBehind_2 N g0_all p1 N p1
set_option maxHeartbeats 4000000 in
set_option maxRecDepth 100000 in
theorem mX12_starBehind (l : Launch) (D : zG) (a0 : Nat) (a0_all : Nat) (a0_tape : Nat) (a0_isImage : Nat) (a0_turnWord : Nat) (a0_turnFrom : Nat) (a0_pieceSign : Nat) (a0_pieceFrom : Nat) (a0_runFrom : Nat) (a0_runLong : Nat) (a0_runPiece : Nat) (a0_alike : Nat) (a0_stood : Nat) (sz : Nat)  (v0_taped : Int32) (v0_faultKind : Int32) (v0_faultPlace : Int32) (v0_undos : Int32) (v0_turns : Int32) (v0_pieces : Int32) (v0_signs : Int32) (v0_runs : Int32) (g0_all : Nat → Int32) (p1 : Int32) (N : Nat) (res : Int32) (hf : fX12_starBehind N g0_all p1 = some res) : Met l yX12_starBehind wsX12_starBehind ({ frames := 0, cells := 0, slots := 0, locals := 0 } : Room) (va_Pc [.ref a0, .int p1] (zW D sz [(a0, .inr (9, [.ref a0_all, .ref a0_tape, .ref a0_isImage, .int v0_taped, .int v0_faultKind, .int v0_faultPlace, .int v0_undos, .ref a0_turnWord, .ref a0_turnFrom, .int v0_turns, .ref a0_pieceSign, .ref a0_pieceFrom, .int v0_pieces, .int v0_signs, .ref a0_runFrom, .ref a0_runLong, .ref a0_runPiece, .int v0_runs, .ref a0_alike, .ref a0_stood])), (a0_all, .inl (D.2 1, 5228, .inl g0_all))])) (va_Qi (fun r (_ : Unit) => r = res) (fun _ => zB D (va_A [(a0, .inr (9, [.ref a0_all, .ref a0_tape, .ref a0_isImage, .int v0_taped, .int v0_faultKind, .int v0_faultPlace, .int v0_undos, .ref a0_turnWord, .ref a0_turnFrom, .int v0_turns, .ref a0_pieceSign, .ref a0_pieceFrom, .int v0_pieces, .int v0_signs, .ref a0_runFrom, .ref a0_runLong, .ref a0_runPiece, .int v0_runs, .ref a0_alike, .ref a0_stood])), (a0_all, .inl (D.2 1, 5228, .inl g0_all))] sz) [(a0, .inr (9, [.ref a0_all, .ref a0_tape, .ref a0_isImage, .int v0_taped, .int v0_faultKind, .int v0_faultPlace, .int v0_undos, .ref a0_turnWord, .ref a0_turnFrom, .int v0_turns, .ref a0_pieceSign, .ref a0_pieceFrom, .int v0_pieces, .int v0_signs, .ref a0_runFrom, .ref a0_runLong, .ref a0_runPiece, .int v0_runs, .ref a0_alike, .ref a0_stood])), (a0_all, .inl (D.2 1, 5228, .inl g0_all))]) (va_A [(a0, .inr (9, [.ref a0_all, .ref a0_tape, .ref a0_isImage, .int v0_taped, .int v0_faultKind, .int v0_faultPlace, .int v0_undos, .ref a0_turnWord, .ref a0_turnFrom, .int v0_turns, .ref a0_pieceSign, .ref a0_pieceFrom, .int v0_pieces, .int v0_signs, .ref a0_runFrom, .ref a0_runLong, .ref a0_runPiece, .int v0_runs, .ref a0_alike, .ref a0_stood])), (a0_all, .inl (D.2 1, 5228, .inl g0_all))] sz)) 0 0 (va_A [(a0, .inr (9, [.ref a0_all, .ref a0_tape, .ref a0_isImage, .int v0_taped, .int v0_faultKind, .int v0_faultPlace, .int v0_undos, .ref a0_turnWord, .ref a0_turnFrom, .int v0_turns, .ref a0_pieceSign, .ref a0_pieceFrom, .int v0_pieces, .int v0_signs, .ref a0_runFrom, .ref a0_runLong, .ref a0_runPiece, .int v0_runs, .ref a0_alike, .ref a0_stood])), (a0_all, .inl (D.2 1, 5228, .inl g0_all))] sz) := by
  refine Met.ofW (cc := cX12_starBehind) (maxL := 3) (ret := (some .int)) (by decide) rfl ?_
  intro p e s m args below meth c s₁ B hml hv
  obtain ⟨rfl, hsz, hP, hK, hD0⟩ := hv
  have hx := B.exec
  have hb := B.bytes
  have hr := B.returns
  have hts := atoms_spec (ws := wsX12_starBehind) B.pre
  have hown : s.vm.findClass RX12 = some m.cls := findClass_of_methodNamed B.named
  have hlocks := B.notSynchronized
  subst hsz
  have hD := hD0.self (sz := s.heap.size)
  generalize hAe : va_A [(a0, .inr (9, [.ref a0_all, .ref a0_tape, .ref a0_isImage, .int v0_taped, .int v0_faultKind, .int v0_faultPlace, .int v0_undos, .ref a0_turnWord, .ref a0_turnFrom, .int v0_turns, .ref a0_pieceSign, .ref a0_pieceFrom, .int v0_pieces, .int v0_signs, .ref a0_runFrom, .ref a0_runLong, .ref a0_runPiece, .int v0_runs, .ref a0_alike, .ref a0_stood])), (a0_all, .inl (D.2 1, 5228, .inl g0_all))] s.heap.size = A at hD ⊢
  have hA : ∀ q : Nat, s.heap.size ≤ q → A q := fun q h => by rw [← hAe]; exact Or.inr h
  have l7 := zat hts 1 (w := .fieldLink RX12 7 "TurnedWordsModel" "all" "[I") rfl
  have hwX12 : ∀ w ∈ u_ws RX12 TX12 20, w ∈ wsX12_starBehind := fun w h => List.mem_cons_of_mem _ (List.mem_append_right _ h)
  have hl := lv_entry ([.ref a0, .int p1]) (n := 3) (Nat.le_of_ble_eq_true rfl)
  rw [lg_entry_eq]
  generalize (lg_sl ([.ref a0, .int p1]) ++ List.replicate (3 - (lg_sl ([.ref a0, .int p1])).length) Slot.unset).toArray = ls at hl ⊢
  have hl : lv_has ls 3 [(0, .ref a0), (1, .int p1)] := hl
  refine zStart (A := A) hP (fun Q0 H locs hQ hP hS => ?_)
  have k2 : ∀ K : Nat, ∀ (x2 : Int32) (H : Heap) (locs : List Loc) (ls : Array Slot), fX12_starBehind_2 N g0_all p1 K x2 = some res → va_P D.1 vwCl [(a0, .inr (9, [.ref a0_all, .ref a0_tape, .ref a0_isImage, .int v0_taped, .int v0_faultKind, .int v0_faultPlace, .int v0_undos, .ref a0_turnWord, .ref a0_turnFrom, .int v0_turns, .ref a0_pieceSign, .ref a0_pieceFrom, .int v0_pieces, .int v0_signs, .ref a0_runFrom, .ref a0_runLong, .ref a0_runPiece, .int v0_runs, .ref a0_alike, .ref a0_stood])), (a0_all, .inl (D.2 1, 5228, .inl g0_all))] H → va_D A [(a0, .inr (9, [.ref a0_all, .ref a0_tape, .ref a0_isImage, .int v0_taped, .int v0_faultKind, .int v0_faultPlace, .int v0_undos, .ref a0_turnWord, .ref a0_turnFrom, .int v0_turns, .ref a0_pieceSign, .ref a0_pieceFrom, .int v0_pieces, .int v0_signs, .ref a0_runFrom, .ref a0_runLong, .ref a0_runPiece, .int v0_runs, .ref a0_alike, .ref a0_stood])), (a0_all, .inl (D.2 1, 5228, .inl g0_all))] → va_S A s.heap H locs → lv_has ls 3 [(0, .ref a0), (2, .int x2)] → W p l e (headSpec wsX12_starBehind ({ frames := 0, cells := 0, slots := 0, locals := 0 } : Room)).room s m ([.ref a0, .int p1] : List Value).toArray below meth c H locs 0 0 Q0 (F0 m 2 ls []) := by
    intro K
    induction K with
    | zero =>
      intro x2 H locs ls hf
      rw [fX12_starBehind_2] at hf
      cases hf
    | succ K ih =>
      intro x2 H locs ls hf hP hD hS hl
      rw [fX12_starBehind_2] at hf
      refine lv_iload_n hx hb dX12_starBehind_2 rfl (lv_at hl 1 rfl) ?_
      refine lv_aload_n hx hb dX12_starBehind_3 rfl (lv_at hl 0 rfl) ?_
      refine va_get (D := D.1) (ci := 9) (v := .ref a0_all) (C := RX12) (T := TX12) (N := 20) hx hb hts hwX12 hown hK.1 hP 0 rfl rfl 0 (by decide) l7 (fun _ h9 => h9) rfl dX12_starBehind_4 ?_
      refine lv_sipush (v := 430) hx hb dX12_starBehind_7 (by decide) ?_
      obtain ⟨h_1, hf⟩ := gd hf
      refine va_iald hx hb hK.1 hP 1 1 rfl rfl h_1 dX12_starBehind_10 ?_
      refine lv_icmp_ge (tgt := 35) hx hb dX12_starBehind_11 (by decide) (fun c_2 => ?_) (fun c_2 => ?_)
      · replace hf := ip c_2 hf
        refine lv_iload_n hx hb dX12_starBehind_35 rfl (lv_at hl 1 rfl) ?_
        have he := Option.some.inj hf
        rw [hQ]
        exact W.iret (v := x2) hx hb hr (fun t ht hW => by rw [← he]; exact ⟨⟨x2, (), rfl, rfl, by rw [ht]; exact hP, hD⟩, hS.F ht⟩) hS.2.2 dX12_starBehind_36
      · replace hf := im c_2 hf
        refine lv_aload_n hx hb dX12_starBehind_14 rfl (lv_at hl 0 rfl) ?_
        refine va_get (D := D.1) (ci := 9) (v := .ref a0_all) (C := RX12) (T := TX12) (N := 20) hx hb hts hwX12 hown hK.1 hP 0 rfl rfl 0 (by decide) l7 (fun _ h9 => h9) rfl dX12_starBehind_15 ?_
        refine lv_sipush (v := 431) hx hb dX12_starBehind_18 (by decide) ?_
        refine lv_iload_n hx hb dX12_starBehind_21 rfl (lv_at hl 1 rfl) ?_
        refine lv_iadd hx hb dX12_starBehind_22 ?_
        obtain ⟨h_3, hf⟩ := gd hf
        refine va_iald hx hb hK.1 hP 1 1 rfl rfl h_3 dX12_starBehind_23 ?_
        refine lv_bipush (v := 42) hx hb dX12_starBehind_24 (by decide) ?_
        refine lv_icmp_eq (tgt := 35) hx hb dX12_starBehind_26 (by decide) (fun c_4 => ?_) (fun c_4 => ?_)
        · replace hf := ip c_4 hf
          refine lv_iload_n hx hb dX12_starBehind_35 rfl (lv_at hl 1 rfl) ?_
          have he := Option.some.inj hf
          rw [hQ]
          exact W.iret (v := x2) hx hb hr (fun t ht hW => by rw [← he]; exact ⟨⟨x2, (), rfl, rfl, by rw [ht]; exact hP, hD⟩, hS.F ht⟩) hS.2.2 dX12_starBehind_36
        · replace hf := im c_4 hf
          refine lv_iinc (v := (x2 + (1 : Int32))) (lv' := [(2, .int (x2 + (1 : Int32))), (0, .ref a0)]) hx hb dX12_starBehind_29 hl (k := 1) rfl rfl (by decide) rfl (fun ls hl => ?_)
          refine lv_goto (tgt := 2) hx hb dX12_starBehind_32 (by decide) ?_
          exact ih (x2 + (1 : Int32)) H locs ls hf hP hD hS (lv_sub hl [1, 0] rfl)
  unfold fX12_starBehind at hf
  refine lv_iload_n hx hb dX12_starBehind_0 rfl (lv_at hl 1 rfl) ?_
  refine lv_istore_n (lv' := [(2, .int p1), (0, .ref a0), (1, .int p1)]) hx hb dX12_starBehind_1 rfl hl (by decide) rfl (fun ls hl => ?_)
  exact k2 N p1 H locs ls hf hP hD hS (lv_sub hl [1, 0] rfl)
def fX12_laysPieces_153 (N : Nat) (g0_all : Nat → Int32) (rec109 : Int32 → Int32 → Int32 → Int32 → (Nat → Int32) → (Nat → Int32) → Option (Int32 × Int32 × (Nat → Int32) × (Nat → Int32))) (x3 : Int32) (x4 : Int32) (v0_pieces : Int32) (v0_signs : Int32) (g0_pieceSign : Nat → Int32) (g0_pieceFrom : Nat → Int32) : Option (Int32 × Int32 × (Nat → Int32) × (Nat → Int32)) :=
  Option.bind (fX12_starBehind N g0_all (x4 + (1 : Int32))) fun r18 =>
  rec109 x3 r18 v0_pieces v0_signs g0_pieceSign g0_pieceFrom
def fX12_laysPieces_109 (N : Nat) (g0_all : Nat → Int32) : Nat → Int32 → Int32 → Int32 → Int32 → (Nat → Int32) → (Nat → Int32) → Option (Int32 × Int32 × (Nat → Int32) × (Nat → Int32))
  | 0, _, _, _, _, _, _ => none
  | K + 1, x3, x4, v0_pieces, v0_signs, g0_pieceSign, g0_pieceFrom =>
    if x3 ≤ x4 then
      some (v0_pieces, v0_signs, g0_pieceSign, g0_pieceFrom)
    else
      Option.bind (fX12_starBehind N g0_all (x4 + (1 : Int32))) fun r13 =>
      if r13 = (x4 + (1 : Int32)) then
        fX12_laysPieces_153 N g0_all (fX12_laysPieces_109 N g0_all K) x3 x4 v0_pieces v0_signs g0_pieceSign g0_pieceFrom
      else
        Option.bind (fX12_starBehind N g0_all (x4 + (1 : Int32))) fun r15 =>
        Option.bind (fX12_adds N v0_signs g0_all g0_pieceSign (x4 + (1 : Int32)) r15) fun r16 =>
        Option.bind (fX12_endsPiece v0_pieces r16.1 g0_pieceFrom) fun r17 =>
        fX12_laysPieces_153 N g0_all (fX12_laysPieces_109 N g0_all K) x3 x4 r17.1 r16.1 r16.2 r17.2
def fX12_laysPieces_102 (N : Nat) (g0_all : Nat → Int32) (x2 : Int32) (x3 : Int32) (v0_pieces : Int32) (v0_signs : Int32) (g0_pieceSign : Nat → Int32) (g0_pieceFrom : Nat → Int32) : Option (Int32 × Int32 × (Nat → Int32) × (Nat → Int32)) :=
  Option.bind (fX12_endsPiece v0_pieces v0_signs g0_pieceFrom) fun r11 =>
  fX12_laysPieces_109 N g0_all N x3 x2 r11.1 v0_signs g0_pieceSign r11.2
def fX12_laysPieces_66 (N : Nat) (g0_all : Nat → Int32) (y1 : Int32) (x1 : Int32) (x2 : Int32) (x3 : Int32) (v0_pieces : Int32) (v0_signs : Int32) (g0_pieceSign : Nat → Int32) (g0_pieceFrom : Nat → Int32) : Option (Int32 × Int32 × (Nat → Int32) × (Nat → Int32)) :=
  Option.bind (fX12_adds N v0_signs g0_all g0_pieceSign y1 x1) fun r7 =>
  if r7.1 < 0 ∨ 40 ≤ (r7.1).toNatClampNeg then none else
  if x1 ≤ x2 then
    fX12_laysPieces_102 N g0_all x2 x3 v0_pieces (r7.1 + (1 : Int32)) (upd r7.2 (r7.1).toNatClampNeg (36 : Int32)) g0_pieceFrom
  else
    Option.bind (fX12_adds N (r7.1 + (1 : Int32)) g0_all (upd r7.2 (r7.1).toNatClampNeg (36 : Int32)) (0 : Int32) x2) fun r10 =>
    fX12_laysPieces_102 N g0_all x2 x3 v0_pieces r10.1 r10.2 g0_pieceFrom
def fX12_laysPieces_54 (N : Nat) (g0_all : Nat → Int32) (x1 : Int32) (x2 : Int32) (x3 : Int32) (v0_pieces : Int32) (v0_signs : Int32) (g0_pieceSign : Nat → Int32) (g0_pieceFrom : Nat → Int32) : Option (Int32 × Int32 × (Nat → Int32) × (Nat → Int32)) :=
  if (0 : Int32) ≤ x3 then
    fX12_laysPieces_66 N g0_all (x3 + (1 : Int32)) x1 x2 x3 v0_pieces v0_signs g0_pieceSign g0_pieceFrom
  else
    fX12_laysPieces_66 N g0_all (0 : Int32) x1 x2 x3 v0_pieces v0_signs g0_pieceSign g0_pieceFrom
def fX12_laysPieces_29 (N : Nat) (g0_all : Nat → Int32) : Nat → Int32 → Int32 → Int32 → Int32 → Int32 → (Nat → Int32) → (Nat → Int32) → Option (Int32 × Int32 × (Nat → Int32) × (Nat → Int32))
  | 0, _, _, _, _, _, _, _ => none
  | K + 1, x1, x2, x3, v0_pieces, v0_signs, g0_pieceSign, g0_pieceFrom =>
    if x3 < (0 : Int32) then
      fX12_laysPieces_54 N g0_all x1 x2 x3 v0_pieces v0_signs g0_pieceSign g0_pieceFrom
    else
      if ((431 : Int32) + x3) < 0 ∨ 5228 ≤ (((431 : Int32) + x3)).toNatClampNeg then none else
      if (g0_all (((431 : Int32) + x3)).toNatClampNeg) = (42 : Int32) then
        fX12_laysPieces_54 N g0_all x1 x2 x3 v0_pieces v0_signs g0_pieceSign g0_pieceFrom
      else
        (fX12_laysPieces_29 N g0_all K) x1 x2 (x3 + (-1 : Int32)) v0_pieces v0_signs g0_pieceSign g0_pieceFrom
def fX12_laysPieces (N : Nat) (v0_pieces : Int32) (v0_signs : Int32) (g0_all : Nat → Int32) (g0_pieceSign : Nat → Int32) (g0_pieceFrom : Nat → Int32) : Option (Int32 × Int32 × (Nat → Int32) × (Nat → Int32)) :=
  if (430 : Int32) < 0 ∨ 5228 ≤ ((430 : Int32)).toNatClampNeg then none else
  Option.bind (fX12_starBehind N g0_all (0 : Int32)) fun r2 =>
  fX12_laysPieces_29 N g0_all N (g0_all ((430 : Int32)).toNatClampNeg) r2 ((g0_all ((430 : Int32)).toNatClampNeg) - (1 : Int32)) (0 : Int32) (0 : Int32) g0_pieceSign g0_pieceFrom
set_option maxHeartbeats 4000000 in
set_option maxRecDepth 100000 in
theorem mX12_laysPieces (l : Launch) (D : zG) (a0 : Nat) (a0_all : Nat) (a0_tape : Nat) (a0_isImage : Nat) (a0_turnWord : Nat) (a0_turnFrom : Nat) (a0_pieceSign : Nat) (a0_pieceFrom : Nat) (a0_runFrom : Nat) (a0_runLong : Nat) (a0_runPiece : Nat) (a0_alike : Nat) (a0_stood : Nat) (sz : Nat)  (v0_taped : Int32) (v0_faultKind : Int32) (v0_faultPlace : Int32) (v0_undos : Int32) (v0_turns : Int32) (v0_pieces : Int32) (v0_signs : Int32) (v0_runs : Int32) (g0_all : Nat → Int32) (g0_pieceSign : Nat → Int32) (g0_pieceFrom : Nat → Int32)  (N : Nat) (res : Int32 × Int32 × (Nat → Int32) × (Nat → Int32)) (hf : fX12_laysPieces N v0_pieces v0_signs g0_all g0_pieceSign g0_pieceFrom = some res) : Met l yX12_laysPieces wsX12_laysPieces ({ frames := 1, cells := 0, slots := 0, locals := 23 } : Room) (va_Pc [.ref a0] (zW D sz [(a0, .inr (9, [.ref a0_all, .ref a0_tape, .ref a0_isImage, .int v0_taped, .int v0_faultKind, .int v0_faultPlace, .int v0_undos, .ref a0_turnWord, .ref a0_turnFrom, .int v0_turns, .ref a0_pieceSign, .ref a0_pieceFrom, .int v0_pieces, .int v0_signs, .ref a0_runFrom, .ref a0_runLong, .ref a0_runPiece, .int v0_runs, .ref a0_alike, .ref a0_stood])), (a0_all, .inl (D.2 1, 5228, .inl g0_all)), (a0_pieceSign, .inl (D.2 1, 40, .inl g0_pieceSign)), (a0_pieceFrom, .inl (D.2 1, 14, .inl g0_pieceFrom))])) (va_Qv (fun (_ : Unit) => True) (fun _ => zB D (va_A [(a0, .inr (9, [.ref a0_all, .ref a0_tape, .ref a0_isImage, .int v0_taped, .int v0_faultKind, .int v0_faultPlace, .int v0_undos, .ref a0_turnWord, .ref a0_turnFrom, .int v0_turns, .ref a0_pieceSign, .ref a0_pieceFrom, .int v0_pieces, .int v0_signs, .ref a0_runFrom, .ref a0_runLong, .ref a0_runPiece, .int v0_runs, .ref a0_alike, .ref a0_stood])), (a0_all, .inl (D.2 1, 5228, .inl g0_all)), (a0_pieceSign, .inl (D.2 1, 40, .inl g0_pieceSign)), (a0_pieceFrom, .inl (D.2 1, 14, .inl g0_pieceFrom))] sz) [(a0, .inr (9, [.ref a0_all, .ref a0_tape, .ref a0_isImage, .int v0_taped, .int v0_faultKind, .int v0_faultPlace, .int v0_undos, .ref a0_turnWord, .ref a0_turnFrom, .int v0_turns, .ref a0_pieceSign, .ref a0_pieceFrom, .int res.1, .int res.2.1, .ref a0_runFrom, .ref a0_runLong, .ref a0_runPiece, .int v0_runs, .ref a0_alike, .ref a0_stood])), (a0_all, .inl (D.2 1, 5228, .inl g0_all)), (a0_pieceSign, .inl (D.2 1, 40, .inl res.2.2.1)), (a0_pieceFrom, .inl (D.2 1, 14, .inl res.2.2.2))]) (va_A [(a0, .inr (9, [.ref a0_all, .ref a0_tape, .ref a0_isImage, .int v0_taped, .int v0_faultKind, .int v0_faultPlace, .int v0_undos, .ref a0_turnWord, .ref a0_turnFrom, .int v0_turns, .ref a0_pieceSign, .ref a0_pieceFrom, .int v0_pieces, .int v0_signs, .ref a0_runFrom, .ref a0_runLong, .ref a0_runPiece, .int v0_runs, .ref a0_alike, .ref a0_stood])), (a0_all, .inl (D.2 1, 5228, .inl g0_all)), (a0_pieceSign, .inl (D.2 1, 40, .inl g0_pieceSign)), (a0_pieceFrom, .inl (D.2 1, 14, .inl g0_pieceFrom))] sz)) 0 0 (va_A [(a0, .inr (9, [.ref a0_all, .ref a0_tape, .ref a0_isImage, .int v0_taped, .int v0_faultKind, .int v0_faultPlace, .int v0_undos, .ref a0_turnWord, .ref a0_turnFrom, .int v0_turns, .ref a0_pieceSign, .ref a0_pieceFrom, .int v0_pieces, .int v0_signs, .ref a0_runFrom, .ref a0_runLong, .ref a0_runPiece, .int v0_runs, .ref a0_alike, .ref a0_stood])), (a0_all, .inl (D.2 1, 5228, .inl g0_all)), (a0_pieceSign, .inl (D.2 1, 40, .inl g0_pieceSign)), (a0_pieceFrom, .inl (D.2 1, 14, .inl g0_pieceFrom))] sz) := by
  refine Met.ofW (cc := cX12_laysPieces) (maxL := 5) (ret := none) (by decide) rfl ?_
  intro p e s m args below meth c s₁ B hml hv
  obtain ⟨rfl, hsz, hP, hK, hD0⟩ := hv
  have hx := B.exec
  have hb := B.bytes
  have hr := B.returns
  have hts := atoms_spec (ws := wsX12_laysPieces) B.pre
  have hown : s.vm.findClass RX12 = some m.cls := findClass_of_methodNamed B.named
  have hlocks := B.notSynchronized
  subst hsz
  have hD := hD0.self (sz := s.heap.size)
  generalize hAe : va_A [(a0, .inr (9, [.ref a0_all, .ref a0_tape, .ref a0_isImage, .int v0_taped, .int v0_faultKind, .int v0_faultPlace, .int v0_undos, .ref a0_turnWord, .ref a0_turnFrom, .int v0_turns, .ref a0_pieceSign, .ref a0_pieceFrom, .int v0_pieces, .int v0_signs, .ref a0_runFrom, .ref a0_runLong, .ref a0_runPiece, .int v0_runs, .ref a0_alike, .ref a0_stood])), (a0_all, .inl (D.2 1, 5228, .inl g0_all)), (a0_pieceSign, .inl (D.2 1, 40, .inl g0_pieceSign)), (a0_pieceFrom, .inl (D.2 1, 14, .inl g0_pieceFrom))] s.heap.size = A at hD ⊢
  have hA : ∀ q : Nat, s.heap.size ≤ q → A q := fun q h => by rw [← hAe]; exact Or.inr h
  have l7 := zat hts 1 (w := .fieldLink RX12 7 "TurnedWordsModel" "all" "[I") rfl
  have l107 := zat hts 2 (w := .fieldLink RX12 107 "TurnedWordsModel" "pieces" "I") rfl
  have l104 := zat hts 3 (w := .fieldLink RX12 104 "TurnedWordsModel" "signs" "I") rfl
  have l30 := zat hts 4 (w := .fieldLink RX12 30 "TurnedWordsModel" "pieceSign" "[I") rfl
  have hwX12 : ∀ w ∈ u_ws RX12 TX12 20, w ∈ wsX12_laysPieces := fun w h => List.mem_cons_of_mem _ (List.mem_append_right _ h)
  have hl := lv_entry ([.ref a0]) (n := 5) (Nat.le_of_ble_eq_true rfl)
  rw [lg_entry_eq]
  generalize (lg_sl ([.ref a0]) ++ List.replicate (5 - (lg_sl ([.ref a0])).length) Slot.unset).toArray = ls at hl ⊢
  have hl : lv_has ls 5 [(0, .ref a0)] := hl
  refine zStart (A := A) hP (fun Q0 H locs hQ hP hS => ?_)
  have k153 : ∀ (rec109 : Int32 → Int32 → Int32 → Int32 → (Nat → Int32) → (Nat → Int32) → Option (Int32 × Int32 × (Nat → Int32) × (Nat → Int32))), (∀ (x3 : Int32) (x4 : Int32) (v0_pieces : Int32) (v0_signs : Int32) (g0_pieceSign : Nat → Int32) (g0_pieceFrom : Nat → Int32) (H : Heap) (locs : List Loc) (ls : Array Slot), rec109 x3 x4 v0_pieces v0_signs g0_pieceSign g0_pieceFrom = some res → va_P D.1 vwCl [(a0, .inr (9, [.ref a0_all, .ref a0_tape, .ref a0_isImage, .int v0_taped, .int v0_faultKind, .int v0_faultPlace, .int v0_undos, .ref a0_turnWord, .ref a0_turnFrom, .int v0_turns, .ref a0_pieceSign, .ref a0_pieceFrom, .int v0_pieces, .int v0_signs, .ref a0_runFrom, .ref a0_runLong, .ref a0_runPiece, .int v0_runs, .ref a0_alike, .ref a0_stood])), (a0_all, .inl (D.2 1, 5228, .inl g0_all)), (a0_pieceSign, .inl (D.2 1, 40, .inl g0_pieceSign)), (a0_pieceFrom, .inl (D.2 1, 14, .inl g0_pieceFrom))] H → va_D A [(a0, .inr (9, [.ref a0_all, .ref a0_tape, .ref a0_isImage, .int v0_taped, .int v0_faultKind, .int v0_faultPlace, .int v0_undos, .ref a0_turnWord, .ref a0_turnFrom, .int v0_turns, .ref a0_pieceSign, .ref a0_pieceFrom, .int v0_pieces, .int v0_signs, .ref a0_runFrom, .ref a0_runLong, .ref a0_runPiece, .int v0_runs, .ref a0_alike, .ref a0_stood])), (a0_all, .inl (D.2 1, 5228, .inl g0_all)), (a0_pieceSign, .inl (D.2 1, 40, .inl g0_pieceSign)), (a0_pieceFrom, .inl (D.2 1, 14, .inl g0_pieceFrom))] → va_S A s.heap H locs → lv_has ls 5 [(0, .ref a0), (3, .int x3), (4, .int x4)] → W p l e (headSpec wsX12_laysPieces ({ frames := 1, cells := 0, slots := 0, locals := 23 } : Room)).room s m ([.ref a0] : List Value).toArray below meth c H locs 0 0 Q0 (F0 m 109 ls [])) → ∀ (x3 : Int32) (x4 : Int32) (v0_pieces : Int32) (v0_signs : Int32) (g0_pieceSign : Nat → Int32) (g0_pieceFrom : Nat → Int32) (H : Heap) (locs : List Loc) (ls : Array Slot), fX12_laysPieces_153 N g0_all rec109 x3 x4 v0_pieces v0_signs g0_pieceSign g0_pieceFrom = some res → va_P D.1 vwCl [(a0, .inr (9, [.ref a0_all, .ref a0_tape, .ref a0_isImage, .int v0_taped, .int v0_faultKind, .int v0_faultPlace, .int v0_undos, .ref a0_turnWord, .ref a0_turnFrom, .int v0_turns, .ref a0_pieceSign, .ref a0_pieceFrom, .int v0_pieces, .int v0_signs, .ref a0_runFrom, .ref a0_runLong, .ref a0_runPiece, .int v0_runs, .ref a0_alike, .ref a0_stood])), (a0_all, .inl (D.2 1, 5228, .inl g0_all)), (a0_pieceSign, .inl (D.2 1, 40, .inl g0_pieceSign)), (a0_pieceFrom, .inl (D.2 1, 14, .inl g0_pieceFrom))] H → va_D A [(a0, .inr (9, [.ref a0_all, .ref a0_tape, .ref a0_isImage, .int v0_taped, .int v0_faultKind, .int v0_faultPlace, .int v0_undos, .ref a0_turnWord, .ref a0_turnFrom, .int v0_turns, .ref a0_pieceSign, .ref a0_pieceFrom, .int v0_pieces, .int v0_signs, .ref a0_runFrom, .ref a0_runLong, .ref a0_runPiece, .int v0_runs, .ref a0_alike, .ref a0_stood])), (a0_all, .inl (D.2 1, 5228, .inl g0_all)), (a0_pieceSign, .inl (D.2 1, 40, .inl g0_pieceSign)), (a0_pieceFrom, .inl (D.2 1, 14, .inl g0_pieceFrom))] → va_S A s.heap H locs → lv_has ls 5 [(0, .ref a0), (3, .int x3), (4, .int x4)] → W p l e (headSpec wsX12_laysPieces ({ frames := 1, cells := 0, slots := 0, locals := 23 } : Room)).room s m ([.ref a0] : List Value).toArray below meth c H locs 0 0 Q0 (F0 m 153 ls []) := by
    intro rec109 hrec109 x3 x4 v0_pieces v0_signs g0_pieceSign g0_pieceFrom H locs ls hf hP hD hS hl
    unfold fX12_laysPieces_153 at hf
    refine lv_aload_n hx hb dX12_laysPieces_153 rfl (lv_at hl 0 rfl) ?_
    refine lv_iload hx hb dX12_laysPieces_154 (lv_at hl 2 rfl) ?_
    refine lv_iconst (v := 1) hx hb dX12_laysPieces_156 (by decide) ?_
    refine lv_iadd hx hb dX12_laysPieces_157 ?_
    obtain ⟨r18, hr18, hf⟩ := bd hf
    refine zVi (As := [.int (x4 + (1 : Int32))]) (rest := []) (ci := 9) (q0 := 0) (wn := [(a0, .inr (9, [.ref a0_all, .ref a0_tape, .ref a0_isImage, .int v0_taped, .int v0_faultKind, .int v0_faultPlace, .int v0_undos, .ref a0_turnWord, .ref a0_turnFrom, .int v0_turns, .ref a0_pieceSign, .ref a0_pieceFrom, .int v0_pieces, .int v0_signs, .ref a0_runFrom, .ref a0_runLong, .ref a0_runPiece, .int v0_runs, .ref a0_alike, .ref a0_stood])), (a0_all, .inl (D.2 1, 5228, .inl g0_all)), (a0_pieceSign, .inl (D.2 1, 40, .inl g0_pieceSign)), (a0_pieceFrom, .inl (D.2 1, 14, .inl g0_pieceFrom))]) ⟨hx, hb, hml, hown, hts⟩ (mX12_starBehind l D a0 a0_all a0_tape a0_isImage a0_turnWord a0_turnFrom a0_pieceSign a0_pieceFrom a0_runFrom a0_runLong a0_runPiece a0_alike a0_stood H.size v0_taped v0_faultKind v0_faultPlace v0_undos v0_turns v0_pieces v0_signs v0_runs g0_all (x4 + (1 : Int32)) N r18 hr18) (cwV 1 hts gX12_laysPieces_X12_starBehind rfl rfl rfl (by decide +kernel) ⟨Nat.le_of_ble_eq_true rfl, Nat.le_of_ble_eq_true rfl⟩) hK hP hD hS hA [0, 1] [2, 3] [2, 3, 0, 1] rfl (by decide) rfl (by decide) (by decide) rfl (by decide) rfl rfl rfl hl.1 rfl (Nat.le_of_ble_eq_true rfl) dX12_laysPieces_158 ⟨Nat.zero_le _, Nat.zero_le _⟩ (fun H locs hP hD hS => ?_)
    refine lv_istore (lv' := [(4, .int r18), (0, .ref a0), (3, .int x3)]) hx hb dX12_laysPieces_161 hl (by decide) rfl (fun ls hl => ?_)
    refine lv_goto (tgt := 109) hx hb dX12_laysPieces_163 (by decide) ?_
    exact hrec109 x3 r18 v0_pieces v0_signs g0_pieceSign g0_pieceFrom H locs ls hf hP hD hS (lv_sub hl [1, 2, 0] rfl)
  have k109 : ∀ K : Nat, ∀ (x3 : Int32) (x4 : Int32) (v0_pieces : Int32) (v0_signs : Int32) (g0_pieceSign : Nat → Int32) (g0_pieceFrom : Nat → Int32) (H : Heap) (locs : List Loc) (ls : Array Slot), fX12_laysPieces_109 N g0_all K x3 x4 v0_pieces v0_signs g0_pieceSign g0_pieceFrom = some res → va_P D.1 vwCl [(a0, .inr (9, [.ref a0_all, .ref a0_tape, .ref a0_isImage, .int v0_taped, .int v0_faultKind, .int v0_faultPlace, .int v0_undos, .ref a0_turnWord, .ref a0_turnFrom, .int v0_turns, .ref a0_pieceSign, .ref a0_pieceFrom, .int v0_pieces, .int v0_signs, .ref a0_runFrom, .ref a0_runLong, .ref a0_runPiece, .int v0_runs, .ref a0_alike, .ref a0_stood])), (a0_all, .inl (D.2 1, 5228, .inl g0_all)), (a0_pieceSign, .inl (D.2 1, 40, .inl g0_pieceSign)), (a0_pieceFrom, .inl (D.2 1, 14, .inl g0_pieceFrom))] H → va_D A [(a0, .inr (9, [.ref a0_all, .ref a0_tape, .ref a0_isImage, .int v0_taped, .int v0_faultKind, .int v0_faultPlace, .int v0_undos, .ref a0_turnWord, .ref a0_turnFrom, .int v0_turns, .ref a0_pieceSign, .ref a0_pieceFrom, .int v0_pieces, .int v0_signs, .ref a0_runFrom, .ref a0_runLong, .ref a0_runPiece, .int v0_runs, .ref a0_alike, .ref a0_stood])), (a0_all, .inl (D.2 1, 5228, .inl g0_all)), (a0_pieceSign, .inl (D.2 1, 40, .inl g0_pieceSign)), (a0_pieceFrom, .inl (D.2 1, 14, .inl g0_pieceFrom))] → va_S A s.heap H locs → lv_has ls 5 [(0, .ref a0), (3, .int x3), (4, .int x4)] → W p l e (headSpec wsX12_laysPieces ({ frames := 1, cells := 0, slots := 0, locals := 23 } : Room)).room s m ([.ref a0] : List Value).toArray below meth c H locs 0 0 Q0 (F0 m 109 ls []) := by
    intro K
    induction K with
    | zero =>
      intro x3 x4 v0_pieces v0_signs g0_pieceSign g0_pieceFrom H locs ls hf
      rw [fX12_laysPieces_109] at hf
      cases hf
    | succ K ih =>
      intro x3 x4 v0_pieces v0_signs g0_pieceSign g0_pieceFrom H locs ls hf hP hD hS hl
      rw [fX12_laysPieces_109] at hf
      refine lv_iload hx hb dX12_laysPieces_109 (lv_at hl 2 rfl) ?_
      refine lv_iload_n hx hb dX12_laysPieces_111 rfl (lv_at hl 1 rfl) ?_
      refine lv_icmp_ge (tgt := 166) hx hb dX12_laysPieces_112 (by decide) (fun c_12 => ?_) (fun c_12 => ?_)
      · replace hf := ip c_12 hf
        have he := Option.some.inj hf
        rw [hQ]
        exact W.vret hx hb hr (fun t ht hW => by rw [← he]; exact ⟨⟨(), rfl, trivial, by rw [ht]; exact hP, hD⟩, hS.F ht⟩) hS.2.2 dX12_laysPieces_166
      · replace hf := im c_12 hf
        refine lv_aload_n hx hb dX12_laysPieces_115 rfl (lv_at hl 0 rfl) ?_
        refine lv_iload hx hb dX12_laysPieces_116 (lv_at hl 2 rfl) ?_
        refine lv_iconst (v := 1) hx hb dX12_laysPieces_118 (by decide) ?_
        refine lv_iadd hx hb dX12_laysPieces_119 ?_
        obtain ⟨r13, hr13, hf⟩ := bd hf
        refine zVi (As := [.int (x4 + (1 : Int32))]) (rest := []) (ci := 9) (q0 := 0) (wn := [(a0, .inr (9, [.ref a0_all, .ref a0_tape, .ref a0_isImage, .int v0_taped, .int v0_faultKind, .int v0_faultPlace, .int v0_undos, .ref a0_turnWord, .ref a0_turnFrom, .int v0_turns, .ref a0_pieceSign, .ref a0_pieceFrom, .int v0_pieces, .int v0_signs, .ref a0_runFrom, .ref a0_runLong, .ref a0_runPiece, .int v0_runs, .ref a0_alike, .ref a0_stood])), (a0_all, .inl (D.2 1, 5228, .inl g0_all)), (a0_pieceSign, .inl (D.2 1, 40, .inl g0_pieceSign)), (a0_pieceFrom, .inl (D.2 1, 14, .inl g0_pieceFrom))]) ⟨hx, hb, hml, hown, hts⟩ (mX12_starBehind l D a0 a0_all a0_tape a0_isImage a0_turnWord a0_turnFrom a0_pieceSign a0_pieceFrom a0_runFrom a0_runLong a0_runPiece a0_alike a0_stood H.size v0_taped v0_faultKind v0_faultPlace v0_undos v0_turns v0_pieces v0_signs v0_runs g0_all (x4 + (1 : Int32)) N r13 hr13) (cwV 1 hts gX12_laysPieces_X12_starBehind rfl rfl rfl (by decide +kernel) ⟨Nat.le_of_ble_eq_true rfl, Nat.le_of_ble_eq_true rfl⟩) hK hP hD hS hA [0, 1] [2, 3] [2, 3, 0, 1] rfl (by decide) rfl (by decide) (by decide) rfl (by decide) rfl rfl rfl hl.1 rfl (Nat.le_of_ble_eq_true rfl) dX12_laysPieces_120 ⟨Nat.zero_le _, Nat.zero_le _⟩ (fun H locs hP hD hS => ?_)
        refine lv_iload hx hb dX12_laysPieces_123 (lv_at hl 2 rfl) ?_
        refine lv_iconst (v := 1) hx hb dX12_laysPieces_125 (by decide) ?_
        refine lv_iadd hx hb dX12_laysPieces_126 ?_
        refine lv_icmp_ne (tgt := 133) hx hb dX12_laysPieces_127 (by decide) (fun c_14 => ?_) (fun c_14 => ?_)
        · replace hf := im c_14 hf
          refine lv_aload_n hx hb dX12_laysPieces_133 rfl (lv_at hl 0 rfl) ?_
          refine lv_iload hx hb dX12_laysPieces_134 (lv_at hl 2 rfl) ?_
          refine lv_iconst (v := 1) hx hb dX12_laysPieces_136 (by decide) ?_
          refine lv_iadd hx hb dX12_laysPieces_137 ?_
          refine lv_aload_n hx hb dX12_laysPieces_138 rfl (lv_at hl 0 rfl) ?_
          refine lv_iload hx hb dX12_laysPieces_139 (lv_at hl 2 rfl) ?_
          refine lv_iconst (v := 1) hx hb dX12_laysPieces_141 (by decide) ?_
          refine lv_iadd hx hb dX12_laysPieces_142 ?_
          obtain ⟨r15, hr15, hf⟩ := bd hf
          refine zVi (As := [.int (x4 + (1 : Int32))]) (rest := [.int (x4 + (1 : Int32)), .ref a0]) (ci := 9) (q0 := 0) (wn := [(a0, .inr (9, [.ref a0_all, .ref a0_tape, .ref a0_isImage, .int v0_taped, .int v0_faultKind, .int v0_faultPlace, .int v0_undos, .ref a0_turnWord, .ref a0_turnFrom, .int v0_turns, .ref a0_pieceSign, .ref a0_pieceFrom, .int v0_pieces, .int v0_signs, .ref a0_runFrom, .ref a0_runLong, .ref a0_runPiece, .int v0_runs, .ref a0_alike, .ref a0_stood])), (a0_all, .inl (D.2 1, 5228, .inl g0_all)), (a0_pieceSign, .inl (D.2 1, 40, .inl g0_pieceSign)), (a0_pieceFrom, .inl (D.2 1, 14, .inl g0_pieceFrom))]) ⟨hx, hb, hml, hown, hts⟩ (mX12_starBehind l D a0 a0_all a0_tape a0_isImage a0_turnWord a0_turnFrom a0_pieceSign a0_pieceFrom a0_runFrom a0_runLong a0_runPiece a0_alike a0_stood H.size v0_taped v0_faultKind v0_faultPlace v0_undos v0_turns v0_pieces v0_signs v0_runs g0_all (x4 + (1 : Int32)) N r15 hr15) (cwV 1 hts gX12_laysPieces_X12_starBehind rfl rfl rfl (by decide +kernel) ⟨Nat.le_of_ble_eq_true rfl, Nat.le_of_ble_eq_true rfl⟩) hK hP hD hS hA [0, 1] [2, 3] [2, 3, 0, 1] rfl (by decide) rfl (by decide) (by decide) rfl (by decide) rfl rfl rfl hl.1 rfl (Nat.le_of_ble_eq_true rfl) dX12_laysPieces_143 ⟨Nat.zero_le _, Nat.zero_le _⟩ (fun H locs hP hD hS => ?_)
          obtain ⟨r16, hr16, hf⟩ := bd hf
          refine zVv (As := [.int (x4 + (1 : Int32)), .int r15]) (rest := []) (ci := 9) (q0 := 0) (wn := [(a0, .inr (9, [.ref a0_all, .ref a0_tape, .ref a0_isImage, .int v0_taped, .int v0_faultKind, .int v0_faultPlace, .int v0_undos, .ref a0_turnWord, .ref a0_turnFrom, .int v0_turns, .ref a0_pieceSign, .ref a0_pieceFrom, .int v0_pieces, .int r16.1, .ref a0_runFrom, .ref a0_runLong, .ref a0_runPiece, .int v0_runs, .ref a0_alike, .ref a0_stood])), (a0_all, .inl (D.2 1, 5228, .inl g0_all)), (a0_pieceSign, .inl (D.2 1, 40, .inl r16.2)), (a0_pieceFrom, .inl (D.2 1, 14, .inl g0_pieceFrom))]) ⟨hx, hb, hml, hown, hts⟩ (mX12_adds l D a0 a0_all a0_tape a0_isImage a0_turnWord a0_turnFrom a0_pieceSign a0_pieceFrom a0_runFrom a0_runLong a0_runPiece a0_alike a0_stood H.size v0_taped v0_faultKind v0_faultPlace v0_undos v0_turns v0_pieces v0_signs v0_runs g0_all g0_pieceSign (x4 + (1 : Int32)) r15 N r16 hr16) (cwV 2 hts gX12_laysPieces_X12_adds rfl rfl rfl (by decide +kernel) ⟨Nat.le_of_ble_eq_true rfl, Nat.le_of_ble_eq_true rfl⟩) hK hP hD hS hA [0, 1, 2] [3] [1, 2, 3, 0] rfl (by decide) rfl (by decide) (by decide) rfl (by decide) rfl rfl rfl hl.1 rfl (Nat.le_of_ble_eq_true rfl) dX12_laysPieces_146 ⟨Nat.zero_le _, Nat.zero_le _⟩ (fun H locs hP hD hS => ?_)
          refine lv_aload_n hx hb dX12_laysPieces_149 rfl (lv_at hl 0 rfl) ?_
          obtain ⟨r17, hr17, hf⟩ := bd hf
          refine zVv (As := []) (rest := []) (ci := 9) (q0 := 0) (wn := [(a0, .inr (9, [.ref a0_all, .ref a0_tape, .ref a0_isImage, .int v0_taped, .int v0_faultKind, .int v0_faultPlace, .int v0_undos, .ref a0_turnWord, .ref a0_turnFrom, .int v0_turns, .ref a0_pieceSign, .ref a0_pieceFrom, .int r17.1, .int r16.1, .ref a0_runFrom, .ref a0_runLong, .ref a0_runPiece, .int v0_runs, .ref a0_alike, .ref a0_stood])), (a0_all, .inl (D.2 1, 5228, .inl g0_all)), (a0_pieceSign, .inl (D.2 1, 40, .inl r16.2)), (a0_pieceFrom, .inl (D.2 1, 14, .inl r17.2))]) ⟨hx, hb, hml, hown, hts⟩ (mX12_endsPiece l D a0 a0_all a0_tape a0_isImage a0_turnWord a0_turnFrom a0_pieceSign a0_pieceFrom a0_runFrom a0_runLong a0_runPiece a0_alike a0_stood H.size v0_taped v0_faultKind v0_faultPlace v0_undos v0_turns v0_pieces r16.1 v0_runs g0_pieceFrom r17 hr17) (cwV 0 hts gX12_laysPieces_X12_endsPiece rfl rfl rfl (by decide +kernel) ⟨Nat.le_of_ble_eq_true rfl, Nat.le_of_ble_eq_true rfl⟩) hK hP hD hS hA [0, 3] [1, 2] [2, 0, 1, 3] rfl (by decide) rfl (by decide) (by decide) rfl (by decide) rfl rfl rfl hl.1 rfl (Nat.le_of_ble_eq_true rfl) dX12_laysPieces_150 ⟨Nat.zero_le _, Nat.zero_le _⟩ (fun H locs hP hD hS => ?_)
          exact k153 _ ih x3 x4 r17.1 r16.1 r16.2 r17.2 H locs ls hf hP hD hS hl
        · replace hf := ip c_14 hf
          refine lv_goto (tgt := 153) hx hb dX12_laysPieces_130 (by decide) ?_
          exact k153 _ ih x3 x4 v0_pieces v0_signs g0_pieceSign g0_pieceFrom H locs ls hf hP hD hS hl
  have k102 : ∀ (x2 : Int32) (x3 : Int32) (v0_pieces : Int32) (v0_signs : Int32) (g0_pieceSign : Nat → Int32) (g0_pieceFrom : Nat → Int32) (H : Heap) (locs : List Loc) (ls : Array Slot), fX12_laysPieces_102 N g0_all x2 x3 v0_pieces v0_signs g0_pieceSign g0_pieceFrom = some res → va_P D.1 vwCl [(a0, .inr (9, [.ref a0_all, .ref a0_tape, .ref a0_isImage, .int v0_taped, .int v0_faultKind, .int v0_faultPlace, .int v0_undos, .ref a0_turnWord, .ref a0_turnFrom, .int v0_turns, .ref a0_pieceSign, .ref a0_pieceFrom, .int v0_pieces, .int v0_signs, .ref a0_runFrom, .ref a0_runLong, .ref a0_runPiece, .int v0_runs, .ref a0_alike, .ref a0_stood])), (a0_all, .inl (D.2 1, 5228, .inl g0_all)), (a0_pieceSign, .inl (D.2 1, 40, .inl g0_pieceSign)), (a0_pieceFrom, .inl (D.2 1, 14, .inl g0_pieceFrom))] H → va_D A [(a0, .inr (9, [.ref a0_all, .ref a0_tape, .ref a0_isImage, .int v0_taped, .int v0_faultKind, .int v0_faultPlace, .int v0_undos, .ref a0_turnWord, .ref a0_turnFrom, .int v0_turns, .ref a0_pieceSign, .ref a0_pieceFrom, .int v0_pieces, .int v0_signs, .ref a0_runFrom, .ref a0_runLong, .ref a0_runPiece, .int v0_runs, .ref a0_alike, .ref a0_stood])), (a0_all, .inl (D.2 1, 5228, .inl g0_all)), (a0_pieceSign, .inl (D.2 1, 40, .inl g0_pieceSign)), (a0_pieceFrom, .inl (D.2 1, 14, .inl g0_pieceFrom))] → va_S A s.heap H locs → lv_has ls 5 [(0, .ref a0), (2, .int x2), (3, .int x3)] → W p l e (headSpec wsX12_laysPieces ({ frames := 1, cells := 0, slots := 0, locals := 23 } : Room)).room s m ([.ref a0] : List Value).toArray below meth c H locs 0 0 Q0 (F0 m 102 ls []) := by
    intro x2 x3 v0_pieces v0_signs g0_pieceSign g0_pieceFrom H locs ls hf hP hD hS hl
    unfold fX12_laysPieces_102 at hf
    refine lv_aload_n hx hb dX12_laysPieces_102 rfl (lv_at hl 0 rfl) ?_
    obtain ⟨r11, hr11, hf⟩ := bd hf
    refine zVv (As := []) (rest := []) (ci := 9) (q0 := 0) (wn := [(a0, .inr (9, [.ref a0_all, .ref a0_tape, .ref a0_isImage, .int v0_taped, .int v0_faultKind, .int v0_faultPlace, .int v0_undos, .ref a0_turnWord, .ref a0_turnFrom, .int v0_turns, .ref a0_pieceSign, .ref a0_pieceFrom, .int r11.1, .int v0_signs, .ref a0_runFrom, .ref a0_runLong, .ref a0_runPiece, .int v0_runs, .ref a0_alike, .ref a0_stood])), (a0_all, .inl (D.2 1, 5228, .inl g0_all)), (a0_pieceSign, .inl (D.2 1, 40, .inl g0_pieceSign)), (a0_pieceFrom, .inl (D.2 1, 14, .inl r11.2))]) ⟨hx, hb, hml, hown, hts⟩ (mX12_endsPiece l D a0 a0_all a0_tape a0_isImage a0_turnWord a0_turnFrom a0_pieceSign a0_pieceFrom a0_runFrom a0_runLong a0_runPiece a0_alike a0_stood H.size v0_taped v0_faultKind v0_faultPlace v0_undos v0_turns v0_pieces v0_signs v0_runs g0_pieceFrom r11 hr11) (cwV 0 hts gX12_laysPieces_X12_endsPiece rfl rfl rfl (by decide +kernel) ⟨Nat.le_of_ble_eq_true rfl, Nat.le_of_ble_eq_true rfl⟩) hK hP hD hS hA [0, 3] [1, 2] [2, 0, 1, 3] rfl (by decide) rfl (by decide) (by decide) rfl (by decide) rfl rfl rfl hl.1 rfl (Nat.le_of_ble_eq_true rfl) dX12_laysPieces_103 ⟨Nat.zero_le _, Nat.zero_le _⟩ (fun H locs hP hD hS => ?_)
    refine lv_iload_n hx hb dX12_laysPieces_106 rfl (lv_at hl 1 rfl) ?_
    refine lv_istore (lv' := [(4, .int x2), (0, .ref a0), (2, .int x2), (3, .int x3)]) hx hb dX12_laysPieces_107 hl (by decide) rfl (fun ls hl => ?_)
    exact k109 N x3 x2 r11.1 v0_signs g0_pieceSign r11.2 H locs ls hf hP hD hS (lv_sub hl [1, 3, 0] rfl)
  have k66 : ∀ (y1 : Int32) (x1 : Int32) (x2 : Int32) (x3 : Int32) (v0_pieces : Int32) (v0_signs : Int32) (g0_pieceSign : Nat → Int32) (g0_pieceFrom : Nat → Int32) (H : Heap) (locs : List Loc) (ls : Array Slot), fX12_laysPieces_66 N g0_all y1 x1 x2 x3 v0_pieces v0_signs g0_pieceSign g0_pieceFrom = some res → va_P D.1 vwCl [(a0, .inr (9, [.ref a0_all, .ref a0_tape, .ref a0_isImage, .int v0_taped, .int v0_faultKind, .int v0_faultPlace, .int v0_undos, .ref a0_turnWord, .ref a0_turnFrom, .int v0_turns, .ref a0_pieceSign, .ref a0_pieceFrom, .int v0_pieces, .int v0_signs, .ref a0_runFrom, .ref a0_runLong, .ref a0_runPiece, .int v0_runs, .ref a0_alike, .ref a0_stood])), (a0_all, .inl (D.2 1, 5228, .inl g0_all)), (a0_pieceSign, .inl (D.2 1, 40, .inl g0_pieceSign)), (a0_pieceFrom, .inl (D.2 1, 14, .inl g0_pieceFrom))] H → va_D A [(a0, .inr (9, [.ref a0_all, .ref a0_tape, .ref a0_isImage, .int v0_taped, .int v0_faultKind, .int v0_faultPlace, .int v0_undos, .ref a0_turnWord, .ref a0_turnFrom, .int v0_turns, .ref a0_pieceSign, .ref a0_pieceFrom, .int v0_pieces, .int v0_signs, .ref a0_runFrom, .ref a0_runLong, .ref a0_runPiece, .int v0_runs, .ref a0_alike, .ref a0_stood])), (a0_all, .inl (D.2 1, 5228, .inl g0_all)), (a0_pieceSign, .inl (D.2 1, 40, .inl g0_pieceSign)), (a0_pieceFrom, .inl (D.2 1, 14, .inl g0_pieceFrom))] → va_S A s.heap H locs → lv_has ls 5 [(0, .ref a0), (1, .int x1), (2, .int x2), (3, .int x3)] → W p l e (headSpec wsX12_laysPieces ({ frames := 1, cells := 0, slots := 0, locals := 23 } : Room)).room s m ([.ref a0] : List Value).toArray below meth c H locs 0 0 Q0 (F0 m 66 ls [.int y1, .ref a0]) := by
    intro y1 x1 x2 x3 v0_pieces v0_signs g0_pieceSign g0_pieceFrom H locs ls hf hP hD hS hl
    unfold fX12_laysPieces_66 at hf
    refine lv_iload_n hx hb dX12_laysPieces_66 rfl (lv_at hl 1 rfl) ?_
    obtain ⟨r7, hr7, hf⟩ := bd hf
    refine zVv (As := [.int y1, .int x1]) (rest := []) (ci := 9) (q0 := 0) (wn := [(a0, .inr (9, [.ref a0_all, .ref a0_tape, .ref a0_isImage, .int v0_taped, .int v0_faultKind, .int v0_faultPlace, .int v0_undos, .ref a0_turnWord, .ref a0_turnFrom, .int v0_turns, .ref a0_pieceSign, .ref a0_pieceFrom, .int v0_pieces, .int r7.1, .ref a0_runFrom, .ref a0_runLong, .ref a0_runPiece, .int v0_runs, .ref a0_alike, .ref a0_stood])), (a0_all, .inl (D.2 1, 5228, .inl g0_all)), (a0_pieceSign, .inl (D.2 1, 40, .inl r7.2)), (a0_pieceFrom, .inl (D.2 1, 14, .inl g0_pieceFrom))]) ⟨hx, hb, hml, hown, hts⟩ (mX12_adds l D a0 a0_all a0_tape a0_isImage a0_turnWord a0_turnFrom a0_pieceSign a0_pieceFrom a0_runFrom a0_runLong a0_runPiece a0_alike a0_stood H.size v0_taped v0_faultKind v0_faultPlace v0_undos v0_turns v0_pieces v0_signs v0_runs g0_all g0_pieceSign y1 x1 N r7 hr7) (cwV 2 hts gX12_laysPieces_X12_adds rfl rfl rfl (by decide +kernel) ⟨Nat.le_of_ble_eq_true rfl, Nat.le_of_ble_eq_true rfl⟩) hK hP hD hS hA [0, 1, 2] [3] [1, 2, 3, 0] rfl (by decide) rfl (by decide) (by decide) rfl (by decide) rfl rfl rfl hl.1 rfl (Nat.le_of_ble_eq_true rfl) dX12_laysPieces_67 ⟨Nat.zero_le _, Nat.zero_le _⟩ (fun H locs hP hD hS => ?_)
    refine lv_aload_n hx hb dX12_laysPieces_70 rfl (lv_at hl 0 rfl) ?_
    refine va_get (D := D.1) (ci := 9) (v := .ref a0_pieceSign) (C := RX12) (T := TX12) (N := 20) hx hb hts hwX12 hown hK.1 hP 0 rfl rfl 10 (by decide) l30 (fun _ h9 => h9) rfl dX12_laysPieces_71 ?_
    refine lv_aload_n hx hb dX12_laysPieces_74 rfl (lv_at hl 0 rfl) ?_
    refine va_get (D := D.1) (ci := 9) (v := .int r7.1) (C := RX12) (T := TX12) (N := 20) hx hb hts hwX12 hown hK.1 hP 0 rfl rfl 13 (by decide) l104 (fun _ h9 => h9) rfl dX12_laysPieces_75 ?_
    refine lv_bipush (v := 36) hx hb dX12_laysPieces_78 (by decide) ?_
    obtain ⟨h_8, hf⟩ := gd hf
    refine va_iast hx hb hK.1 hP hD hS 2 1 rfl rfl h_8 dX12_laysPieces_80 (fun H locs hP hD hS => ?_)
    have hP : va_P D.1 vwCl [(a0, .inr (9, [.ref a0_all, .ref a0_tape, .ref a0_isImage, .int v0_taped, .int v0_faultKind, .int v0_faultPlace, .int v0_undos, .ref a0_turnWord, .ref a0_turnFrom, .int v0_turns, .ref a0_pieceSign, .ref a0_pieceFrom, .int v0_pieces, .int r7.1, .ref a0_runFrom, .ref a0_runLong, .ref a0_runPiece, .int v0_runs, .ref a0_alike, .ref a0_stood])), (a0_all, .inl (D.2 1, 5228, .inl g0_all)), (a0_pieceSign, .inl (D.2 1, 40, .inl (upd r7.2 (r7.1).toNatClampNeg (36 : Int32)))), (a0_pieceFrom, .inl (D.2 1, 14, .inl g0_pieceFrom))] H := hP
    have hD : va_D A [(a0, .inr (9, [.ref a0_all, .ref a0_tape, .ref a0_isImage, .int v0_taped, .int v0_faultKind, .int v0_faultPlace, .int v0_undos, .ref a0_turnWord, .ref a0_turnFrom, .int v0_turns, .ref a0_pieceSign, .ref a0_pieceFrom, .int v0_pieces, .int r7.1, .ref a0_runFrom, .ref a0_runLong, .ref a0_runPiece, .int v0_runs, .ref a0_alike, .ref a0_stood])), (a0_all, .inl (D.2 1, 5228, .inl g0_all)), (a0_pieceSign, .inl (D.2 1, 40, .inl (upd r7.2 (r7.1).toNatClampNeg (36 : Int32)))), (a0_pieceFrom, .inl (D.2 1, 14, .inl g0_pieceFrom))] := hD
    refine lv_aload_n hx hb dX12_laysPieces_81 rfl (lv_at hl 0 rfl) ?_
    refine lv_dup hx hb dX12_laysPieces_82 rfl ?_
    refine va_get (D := D.1) (ci := 9) (v := .int r7.1) (C := RX12) (T := TX12) (N := 20) hx hb hts hwX12 hown hK.1 hP 0 rfl rfl 13 (by decide) l104 (fun _ h9 => h9) rfl dX12_laysPieces_83 ?_
    refine lv_iconst (v := 1) hx hb dX12_laysPieces_86 (by decide) ?_
    refine lv_iadd hx hb dX12_laysPieces_87 ?_
    refine va_put (D := D.1) (ci := 9) (v := .int (r7.1 + (1 : Int32))) (ty := .int) (C := RX12) (T := TX12) (N := 20) hx hb hts hwX12 tyX12 tyX12_ok nmX12 hown hK.1 hP hD hS 0 rfl rfl 13 (by decide) l104 (fun _ h9 => h9) rfl (by decide +kernel) rfl rfl (Nat.le_of_ble_eq_true rfl) dX12_laysPieces_88 (fun H locs hP hD hS => ?_)
    have hP : va_P D.1 vwCl [(a0, .inr (9, [.ref a0_all, .ref a0_tape, .ref a0_isImage, .int v0_taped, .int v0_faultKind, .int v0_faultPlace, .int v0_undos, .ref a0_turnWord, .ref a0_turnFrom, .int v0_turns, .ref a0_pieceSign, .ref a0_pieceFrom, .int v0_pieces, .int (r7.1 + (1 : Int32)), .ref a0_runFrom, .ref a0_runLong, .ref a0_runPiece, .int v0_runs, .ref a0_alike, .ref a0_stood])), (a0_all, .inl (D.2 1, 5228, .inl g0_all)), (a0_pieceSign, .inl (D.2 1, 40, .inl (upd r7.2 (r7.1).toNatClampNeg (36 : Int32)))), (a0_pieceFrom, .inl (D.2 1, 14, .inl g0_pieceFrom))] H := hP
    have hD : va_D A [(a0, .inr (9, [.ref a0_all, .ref a0_tape, .ref a0_isImage, .int v0_taped, .int v0_faultKind, .int v0_faultPlace, .int v0_undos, .ref a0_turnWord, .ref a0_turnFrom, .int v0_turns, .ref a0_pieceSign, .ref a0_pieceFrom, .int v0_pieces, .int (r7.1 + (1 : Int32)), .ref a0_runFrom, .ref a0_runLong, .ref a0_runPiece, .int v0_runs, .ref a0_alike, .ref a0_stood])), (a0_all, .inl (D.2 1, 5228, .inl g0_all)), (a0_pieceSign, .inl (D.2 1, 40, .inl (upd r7.2 (r7.1).toNatClampNeg (36 : Int32)))), (a0_pieceFrom, .inl (D.2 1, 14, .inl g0_pieceFrom))] := hD
    refine lv_iload_n hx hb dX12_laysPieces_91 rfl (lv_at hl 2 rfl) ?_
    refine lv_iload_n hx hb dX12_laysPieces_92 rfl (lv_at hl 1 rfl) ?_
    refine lv_icmp_ge (tgt := 102) hx hb dX12_laysPieces_93 (by decide) (fun c_9 => ?_) (fun c_9 => ?_)
    · replace hf := ip c_9 hf
      exact k102 x2 x3 v0_pieces (r7.1 + (1 : Int32)) (upd r7.2 (r7.1).toNatClampNeg (36 : Int32)) g0_pieceFrom H locs ls hf hP hD hS (lv_sub hl [0, 2, 3] rfl)
    · replace hf := im c_9 hf
      refine lv_aload_n hx hb dX12_laysPieces_96 rfl (lv_at hl 0 rfl) ?_
      refine lv_iconst (v := 0) hx hb dX12_laysPieces_97 (by decide) ?_
      refine lv_iload_n hx hb dX12_laysPieces_98 rfl (lv_at hl 2 rfl) ?_
      obtain ⟨r10, hr10, hf⟩ := bd hf
      refine zVv (As := [.int (0 : Int32), .int x2]) (rest := []) (ci := 9) (q0 := 0) (wn := [(a0, .inr (9, [.ref a0_all, .ref a0_tape, .ref a0_isImage, .int v0_taped, .int v0_faultKind, .int v0_faultPlace, .int v0_undos, .ref a0_turnWord, .ref a0_turnFrom, .int v0_turns, .ref a0_pieceSign, .ref a0_pieceFrom, .int v0_pieces, .int r10.1, .ref a0_runFrom, .ref a0_runLong, .ref a0_runPiece, .int v0_runs, .ref a0_alike, .ref a0_stood])), (a0_all, .inl (D.2 1, 5228, .inl g0_all)), (a0_pieceSign, .inl (D.2 1, 40, .inl r10.2)), (a0_pieceFrom, .inl (D.2 1, 14, .inl g0_pieceFrom))]) ⟨hx, hb, hml, hown, hts⟩ (mX12_adds l D a0 a0_all a0_tape a0_isImage a0_turnWord a0_turnFrom a0_pieceSign a0_pieceFrom a0_runFrom a0_runLong a0_runPiece a0_alike a0_stood H.size v0_taped v0_faultKind v0_faultPlace v0_undos v0_turns v0_pieces (r7.1 + (1 : Int32)) v0_runs g0_all (upd r7.2 (r7.1).toNatClampNeg (36 : Int32)) (0 : Int32) x2 N r10 hr10) (cwV 2 hts gX12_laysPieces_X12_adds rfl rfl rfl (by decide +kernel) ⟨Nat.le_of_ble_eq_true rfl, Nat.le_of_ble_eq_true rfl⟩) hK hP hD hS hA [0, 1, 2] [3] [1, 2, 3, 0] rfl (by decide) rfl (by decide) (by decide) rfl (by decide) rfl rfl rfl hl.1 rfl (Nat.le_of_ble_eq_true rfl) dX12_laysPieces_99 ⟨Nat.zero_le _, Nat.zero_le _⟩ (fun H locs hP hD hS => ?_)
      exact k102 x2 x3 v0_pieces r10.1 r10.2 g0_pieceFrom H locs ls hf hP hD hS (lv_sub hl [0, 2, 3] rfl)
  have k54 : ∀ (x1 : Int32) (x2 : Int32) (x3 : Int32) (v0_pieces : Int32) (v0_signs : Int32) (g0_pieceSign : Nat → Int32) (g0_pieceFrom : Nat → Int32) (H : Heap) (locs : List Loc) (ls : Array Slot), fX12_laysPieces_54 N g0_all x1 x2 x3 v0_pieces v0_signs g0_pieceSign g0_pieceFrom = some res → va_P D.1 vwCl [(a0, .inr (9, [.ref a0_all, .ref a0_tape, .ref a0_isImage, .int v0_taped, .int v0_faultKind, .int v0_faultPlace, .int v0_undos, .ref a0_turnWord, .ref a0_turnFrom, .int v0_turns, .ref a0_pieceSign, .ref a0_pieceFrom, .int v0_pieces, .int v0_signs, .ref a0_runFrom, .ref a0_runLong, .ref a0_runPiece, .int v0_runs, .ref a0_alike, .ref a0_stood])), (a0_all, .inl (D.2 1, 5228, .inl g0_all)), (a0_pieceSign, .inl (D.2 1, 40, .inl g0_pieceSign)), (a0_pieceFrom, .inl (D.2 1, 14, .inl g0_pieceFrom))] H → va_D A [(a0, .inr (9, [.ref a0_all, .ref a0_tape, .ref a0_isImage, .int v0_taped, .int v0_faultKind, .int v0_faultPlace, .int v0_undos, .ref a0_turnWord, .ref a0_turnFrom, .int v0_turns, .ref a0_pieceSign, .ref a0_pieceFrom, .int v0_pieces, .int v0_signs, .ref a0_runFrom, .ref a0_runLong, .ref a0_runPiece, .int v0_runs, .ref a0_alike, .ref a0_stood])), (a0_all, .inl (D.2 1, 5228, .inl g0_all)), (a0_pieceSign, .inl (D.2 1, 40, .inl g0_pieceSign)), (a0_pieceFrom, .inl (D.2 1, 14, .inl g0_pieceFrom))] → va_S A s.heap H locs → lv_has ls 5 [(0, .ref a0), (1, .int x1), (2, .int x2), (3, .int x3)] → W p l e (headSpec wsX12_laysPieces ({ frames := 1, cells := 0, slots := 0, locals := 23 } : Room)).room s m ([.ref a0] : List Value).toArray below meth c H locs 0 0 Q0 (F0 m 54 ls []) := by
    intro x1 x2 x3 v0_pieces v0_signs g0_pieceSign g0_pieceFrom H locs ls hf hP hD hS hl
    unfold fX12_laysPieces_54 at hf
    refine lv_aload_n hx hb dX12_laysPieces_54 rfl (lv_at hl 0 rfl) ?_
    refine lv_iload_n hx hb dX12_laysPieces_55 rfl (lv_at hl 3 rfl) ?_
    refine lv_if_ge (tgt := 63) hx hb dX12_laysPieces_56 (by decide) (fun c_6 => ?_) (fun c_6 => ?_)
    · replace hf := ip c_6 hf
      refine lv_iload_n hx hb dX12_laysPieces_63 rfl (lv_at hl 3 rfl) ?_
      refine lv_iconst (v := 1) hx hb dX12_laysPieces_64 (by decide) ?_
      refine lv_iadd hx hb dX12_laysPieces_65 ?_
      exact k66 (x3 + (1 : Int32)) x1 x2 x3 v0_pieces v0_signs g0_pieceSign g0_pieceFrom H locs ls hf hP hD hS hl
    · replace hf := im c_6 hf
      refine lv_iconst (v := 0) hx hb dX12_laysPieces_59 (by decide) ?_
      refine lv_goto (tgt := 66) hx hb dX12_laysPieces_60 (by decide) ?_
      exact k66 (0 : Int32) x1 x2 x3 v0_pieces v0_signs g0_pieceSign g0_pieceFrom H locs ls hf hP hD hS hl
  have k29 : ∀ K : Nat, ∀ (x1 : Int32) (x2 : Int32) (x3 : Int32) (v0_pieces : Int32) (v0_signs : Int32) (g0_pieceSign : Nat → Int32) (g0_pieceFrom : Nat → Int32) (H : Heap) (locs : List Loc) (ls : Array Slot), fX12_laysPieces_29 N g0_all K x1 x2 x3 v0_pieces v0_signs g0_pieceSign g0_pieceFrom = some res → va_P D.1 vwCl [(a0, .inr (9, [.ref a0_all, .ref a0_tape, .ref a0_isImage, .int v0_taped, .int v0_faultKind, .int v0_faultPlace, .int v0_undos, .ref a0_turnWord, .ref a0_turnFrom, .int v0_turns, .ref a0_pieceSign, .ref a0_pieceFrom, .int v0_pieces, .int v0_signs, .ref a0_runFrom, .ref a0_runLong, .ref a0_runPiece, .int v0_runs, .ref a0_alike, .ref a0_stood])), (a0_all, .inl (D.2 1, 5228, .inl g0_all)), (a0_pieceSign, .inl (D.2 1, 40, .inl g0_pieceSign)), (a0_pieceFrom, .inl (D.2 1, 14, .inl g0_pieceFrom))] H → va_D A [(a0, .inr (9, [.ref a0_all, .ref a0_tape, .ref a0_isImage, .int v0_taped, .int v0_faultKind, .int v0_faultPlace, .int v0_undos, .ref a0_turnWord, .ref a0_turnFrom, .int v0_turns, .ref a0_pieceSign, .ref a0_pieceFrom, .int v0_pieces, .int v0_signs, .ref a0_runFrom, .ref a0_runLong, .ref a0_runPiece, .int v0_runs, .ref a0_alike, .ref a0_stood])), (a0_all, .inl (D.2 1, 5228, .inl g0_all)), (a0_pieceSign, .inl (D.2 1, 40, .inl g0_pieceSign)), (a0_pieceFrom, .inl (D.2 1, 14, .inl g0_pieceFrom))] → va_S A s.heap H locs → lv_has ls 5 [(0, .ref a0), (1, .int x1), (2, .int x2), (3, .int x3)] → W p l e (headSpec wsX12_laysPieces ({ frames := 1, cells := 0, slots := 0, locals := 23 } : Room)).room s m ([.ref a0] : List Value).toArray below meth c H locs 0 0 Q0 (F0 m 29 ls []) := by
    intro K
    induction K with
    | zero =>
      intro x1 x2 x3 v0_pieces v0_signs g0_pieceSign g0_pieceFrom H locs ls hf
      rw [fX12_laysPieces_29] at hf
      cases hf
    | succ K ih =>
      intro x1 x2 x3 v0_pieces v0_signs g0_pieceSign g0_pieceFrom H locs ls hf hP hD hS hl
      rw [fX12_laysPieces_29] at hf
      refine lv_iload_n hx hb dX12_laysPieces_29 rfl (lv_at hl 3 rfl) ?_
      refine lv_if_lt (tgt := 54) hx hb dX12_laysPieces_30 (by decide) (fun c_3 => ?_) (fun c_3 => ?_)
      · replace hf := ip c_3 hf
        exact k54 x1 x2 x3 v0_pieces v0_signs g0_pieceSign g0_pieceFrom H locs ls hf hP hD hS hl
      · replace hf := im c_3 hf
        refine lv_aload_n hx hb dX12_laysPieces_33 rfl (lv_at hl 0 rfl) ?_
        refine va_get (D := D.1) (ci := 9) (v := .ref a0_all) (C := RX12) (T := TX12) (N := 20) hx hb hts hwX12 hown hK.1 hP 0 rfl rfl 0 (by decide) l7 (fun _ h9 => h9) rfl dX12_laysPieces_34 ?_
        refine lv_sipush (v := 431) hx hb dX12_laysPieces_37 (by decide) ?_
        refine lv_iload_n hx hb dX12_laysPieces_40 rfl (lv_at hl 3 rfl) ?_
        refine lv_iadd hx hb dX12_laysPieces_41 ?_
        obtain ⟨h_4, hf⟩ := gd hf
        refine va_iald hx hb hK.1 hP 1 1 rfl rfl h_4 dX12_laysPieces_42 ?_
        refine lv_bipush (v := 42) hx hb dX12_laysPieces_43 (by decide) ?_
        refine lv_icmp_eq (tgt := 54) hx hb dX12_laysPieces_45 (by decide) (fun c_5 => ?_) (fun c_5 => ?_)
        · replace hf := ip c_5 hf
          exact k54 x1 x2 x3 v0_pieces v0_signs g0_pieceSign g0_pieceFrom H locs ls hf hP hD hS hl
        · replace hf := im c_5 hf
          refine lv_iinc (v := (x3 + (-1 : Int32))) (lv' := [(3, .int (x3 + (-1 : Int32))), (0, .ref a0), (1, .int x1), (2, .int x2)]) hx hb dX12_laysPieces_48 hl (k := 3) rfl rfl (by decide) rfl (fun ls hl => ?_)
          refine lv_goto (tgt := 29) hx hb dX12_laysPieces_51 (by decide) ?_
          exact ih x1 x2 (x3 + (-1 : Int32)) v0_pieces v0_signs g0_pieceSign g0_pieceFrom H locs ls hf hP hD hS (lv_sub hl [1, 2, 3, 0] rfl)
  unfold fX12_laysPieces at hf
  refine lv_aload_n hx hb dX12_laysPieces_0 rfl (lv_at hl 0 rfl) ?_
  refine va_get (D := D.1) (ci := 9) (v := .ref a0_all) (C := RX12) (T := TX12) (N := 20) hx hb hts hwX12 hown hK.1 hP 0 rfl rfl 0 (by decide) l7 (fun _ h9 => h9) rfl dX12_laysPieces_1 ?_
  refine lv_sipush (v := 430) hx hb dX12_laysPieces_4 (by decide) ?_
  obtain ⟨h_1, hf⟩ := gd hf
  refine va_iald hx hb hK.1 hP 1 1 rfl rfl h_1 dX12_laysPieces_7 ?_
  refine lv_istore_n (lv' := [(1, .int (g0_all ((430 : Int32)).toNatClampNeg)), (0, .ref a0)]) hx hb dX12_laysPieces_8 rfl hl (by decide) rfl (fun ls hl => ?_)
  refine lv_aload_n hx hb dX12_laysPieces_9 rfl (lv_at hl 1 rfl) ?_
  refine lv_iconst (v := 0) hx hb dX12_laysPieces_10 (by decide) ?_
  refine va_put (D := D.1) (ci := 9) (v := .int (0 : Int32)) (ty := .int) (C := RX12) (T := TX12) (N := 20) hx hb hts hwX12 tyX12 tyX12_ok nmX12 hown hK.1 hP hD hS 0 rfl rfl 12 (by decide) l107 (fun _ h9 => h9) rfl (by decide +kernel) rfl rfl (Nat.le_of_ble_eq_true rfl) dX12_laysPieces_11 (fun H locs hP hD hS => ?_)
  have hP : va_P D.1 vwCl [(a0, .inr (9, [.ref a0_all, .ref a0_tape, .ref a0_isImage, .int v0_taped, .int v0_faultKind, .int v0_faultPlace, .int v0_undos, .ref a0_turnWord, .ref a0_turnFrom, .int v0_turns, .ref a0_pieceSign, .ref a0_pieceFrom, .int (0 : Int32), .int v0_signs, .ref a0_runFrom, .ref a0_runLong, .ref a0_runPiece, .int v0_runs, .ref a0_alike, .ref a0_stood])), (a0_all, .inl (D.2 1, 5228, .inl g0_all)), (a0_pieceSign, .inl (D.2 1, 40, .inl g0_pieceSign)), (a0_pieceFrom, .inl (D.2 1, 14, .inl g0_pieceFrom))] H := hP
  have hD : va_D A [(a0, .inr (9, [.ref a0_all, .ref a0_tape, .ref a0_isImage, .int v0_taped, .int v0_faultKind, .int v0_faultPlace, .int v0_undos, .ref a0_turnWord, .ref a0_turnFrom, .int v0_turns, .ref a0_pieceSign, .ref a0_pieceFrom, .int (0 : Int32), .int v0_signs, .ref a0_runFrom, .ref a0_runLong, .ref a0_runPiece, .int v0_runs, .ref a0_alike, .ref a0_stood])), (a0_all, .inl (D.2 1, 5228, .inl g0_all)), (a0_pieceSign, .inl (D.2 1, 40, .inl g0_pieceSign)), (a0_pieceFrom, .inl (D.2 1, 14, .inl g0_pieceFrom))] := hD
  refine lv_aload_n hx hb dX12_laysPieces_14 rfl (lv_at hl 1 rfl) ?_
  refine lv_iconst (v := 0) hx hb dX12_laysPieces_15 (by decide) ?_
  refine va_put (D := D.1) (ci := 9) (v := .int (0 : Int32)) (ty := .int) (C := RX12) (T := TX12) (N := 20) hx hb hts hwX12 tyX12 tyX12_ok nmX12 hown hK.1 hP hD hS 0 rfl rfl 13 (by decide) l104 (fun _ h9 => h9) rfl (by decide +kernel) rfl rfl (Nat.le_of_ble_eq_true rfl) dX12_laysPieces_16 (fun H locs hP hD hS => ?_)
  have hP : va_P D.1 vwCl [(a0, .inr (9, [.ref a0_all, .ref a0_tape, .ref a0_isImage, .int v0_taped, .int v0_faultKind, .int v0_faultPlace, .int v0_undos, .ref a0_turnWord, .ref a0_turnFrom, .int v0_turns, .ref a0_pieceSign, .ref a0_pieceFrom, .int (0 : Int32), .int (0 : Int32), .ref a0_runFrom, .ref a0_runLong, .ref a0_runPiece, .int v0_runs, .ref a0_alike, .ref a0_stood])), (a0_all, .inl (D.2 1, 5228, .inl g0_all)), (a0_pieceSign, .inl (D.2 1, 40, .inl g0_pieceSign)), (a0_pieceFrom, .inl (D.2 1, 14, .inl g0_pieceFrom))] H := hP
  have hD : va_D A [(a0, .inr (9, [.ref a0_all, .ref a0_tape, .ref a0_isImage, .int v0_taped, .int v0_faultKind, .int v0_faultPlace, .int v0_undos, .ref a0_turnWord, .ref a0_turnFrom, .int v0_turns, .ref a0_pieceSign, .ref a0_pieceFrom, .int (0 : Int32), .int (0 : Int32), .ref a0_runFrom, .ref a0_runLong, .ref a0_runPiece, .int v0_runs, .ref a0_alike, .ref a0_stood])), (a0_all, .inl (D.2 1, 5228, .inl g0_all)), (a0_pieceSign, .inl (D.2 1, 40, .inl g0_pieceSign)), (a0_pieceFrom, .inl (D.2 1, 14, .inl g0_pieceFrom))] := hD
  refine lv_aload_n hx hb dX12_laysPieces_19 rfl (lv_at hl 1 rfl) ?_
  refine lv_iconst (v := 0) hx hb dX12_laysPieces_20 (by decide) ?_
  obtain ⟨r2, hr2, hf⟩ := bd hf
  refine zVi (As := [.int (0 : Int32)]) (rest := []) (ci := 9) (q0 := 0) (wn := [(a0, .inr (9, [.ref a0_all, .ref a0_tape, .ref a0_isImage, .int v0_taped, .int v0_faultKind, .int v0_faultPlace, .int v0_undos, .ref a0_turnWord, .ref a0_turnFrom, .int v0_turns, .ref a0_pieceSign, .ref a0_pieceFrom, .int (0 : Int32), .int (0 : Int32), .ref a0_runFrom, .ref a0_runLong, .ref a0_runPiece, .int v0_runs, .ref a0_alike, .ref a0_stood])), (a0_all, .inl (D.2 1, 5228, .inl g0_all)), (a0_pieceSign, .inl (D.2 1, 40, .inl g0_pieceSign)), (a0_pieceFrom, .inl (D.2 1, 14, .inl g0_pieceFrom))]) ⟨hx, hb, hml, hown, hts⟩ (mX12_starBehind l D a0 a0_all a0_tape a0_isImage a0_turnWord a0_turnFrom a0_pieceSign a0_pieceFrom a0_runFrom a0_runLong a0_runPiece a0_alike a0_stood H.size v0_taped v0_faultKind v0_faultPlace v0_undos v0_turns (0 : Int32) (0 : Int32) v0_runs g0_all (0 : Int32) N r2 hr2) (cwV 1 hts gX12_laysPieces_X12_starBehind rfl rfl rfl (by decide +kernel) ⟨Nat.le_of_ble_eq_true rfl, Nat.le_of_ble_eq_true rfl⟩) hK hP hD hS hA [0, 1] [2, 3] [2, 3, 0, 1] rfl (by decide) rfl (by decide) (by decide) rfl (by decide) rfl rfl rfl hl.1 rfl (Nat.le_of_ble_eq_true rfl) dX12_laysPieces_21 ⟨Nat.zero_le _, Nat.zero_le _⟩ (fun H locs hP hD hS => ?_)
  refine lv_istore_n (lv' := [(2, .int r2), (1, .int (g0_all ((430 : Int32)).toNatClampNeg)), (0, .ref a0)]) hx hb dX12_laysPieces_24 rfl hl (by decide) rfl (fun ls hl => ?_)
  refine lv_iload_n hx hb dX12_laysPieces_25 rfl (lv_at hl 1 rfl) ?_
  refine lv_iconst (v := 1) hx hb dX12_laysPieces_26 (by decide) ?_
  refine lv_isub hx hb dX12_laysPieces_27 ?_
  refine lv_istore_n (lv' := [(3, .int ((g0_all ((430 : Int32)).toNatClampNeg) - (1 : Int32))), (2, .int r2), (1, .int (g0_all ((430 : Int32)).toNatClampNeg)), (0, .ref a0)]) hx hb dX12_laysPieces_28 rfl hl (by decide) rfl (fun ls hl => ?_)
  exact k29 N (g0_all ((430 : Int32)).toNatClampNeg) r2 ((g0_all ((430 : Int32)).toNatClampNeg) - (1 : Int32)) (0 : Int32) (0 : Int32) g0_pieceSign g0_pieceFrom H locs ls hf hP hD hS (lv_sub hl [3, 2, 1, 0] rfl)
